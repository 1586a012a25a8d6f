/-! THE CALLS: act, both sides -/
theorem INV.act {nv : Nat} {VD : Nat → zV} {NL : Nat → Nat} {n dd : Nat} {vs : List (Nat × Nat)} {mi m : Nat → Nat → Int32} {ml : Nat → Nat → Int64} {g : Nat → Nat → Option Nat} (I : INV nv VD NL n dd vs mi ml g) (hb : ∀ b, ¬ b = 51 → ¬ b = 52 → ¬ b = 66 → ¬ b = 81 → m b = mi b) (h66 : ∀ k, ¬ k = 24 → m 66 k = mi 66 k) (P : PFr m) : INV nv VD NL n dd vs m ml g := by
  obtain ⟨⟨i1, i2⟩, ⟨i3, i4, i5⟩, i6, i7, i8, i9, i10, i11⟩ := I
  have e67 : m 67 = mi 67 := hb 67 (by decide) (by decide) (by decide) (by decide)
  refine ⟨⟨?_, i2⟩, ⟨?_, ?_, ?_⟩, ?_, ?_, ?_, P, ?_, ?_⟩
  · rw [e67]; exact BR_fr i1 (fun b p q => hb b (by omega) (by omega) (by omega) (by omega))
  · rw [e67]; exact i3.fr (by rw [hb 21 (by omega) (by omega) (by omega) (by omega)]) (hb _ (by omega) (by omega) (by omega) (by omega)) (hb _ (by omega) (by omega) (by omega) (by omega)) (hb _ (by omega) (by omega) (by omega) (by omega)) (fun _ _ _ => rfl) (Nat.le_refl _)
  · rw [e67]; exact i4.fr (by rw [hb 21 (by omega) (by omega) (by omega) (by omega)]) (hb _ (by omega) (by omega) (by omega) (by omega)) (hb _ (by omega) (by omega) (by omega) (by omega)) (fun _ _ _ => rfl) (Nat.le_refl _)
  · rw [e67]; exact i5.fr (by rw [hb 21 (by omega) (by omega) (by omega) (by omega)]) (hb _ (by omega) (by omega) (by omega) (by omega)) (hb _ (by omega) (by omega) (by omega) (by omega)) (fun _ _ _ => rfl)
  · exact i6.fr (by rw [hb 0 (by omega) (by omega) (by omega) (by omega)]) (h66 3 (by decide)) (fun b q => hb b (by omega) (by omega) (by omega) (by omega)) rfl
  · exact i7.fr (by rw [hb 48 (by omega) (by omega) (by omega) (by omega)]) (h66 5 (by decide)) (hb _ (by omega) (by omega) (by omega) (by omega)) (hb _ (by omega) (by omega) (by omega) (by omega))
  · exact i8.fr (by rw [hb 0 (by omega) (by omega) (by omega) (by omega)]) (h66 8 (by decide)) (hb _ (by omega) (by omega) (by omega) (by omega)) (hb _ (by omega) (by omega) (by omega) (by omega)) (fun b _ => hb b (by omega) (by omega) (by omega) (by omega)) (fun b _ => rfl)
  · exact i10.fr (fun b _ _ => hb b (by omega) (by omega) (by omega) (by omega)) (hb _ (by omega) (by omega) (by omega) (by omega)) (hb _ (by omega) (by omega) (by omega) (by omega)) (fun _ _ => rfl)
  · exact i11.fr (fun b _ => hb b (by omega) (by omega) (by omega) (by omega))
theorem c_clear {E : zEn} {vs : List (Nat × Nat)} {mi : Nat → Nat → Int32} {ml : Nat → Nat → Int64} {g : Nat → Nat → Option Nat}  : Wp E 0 pg_Performance_clear 0 (lv_args 0 [.ref 51]) [] (zsh ++ vs, mi, ml, (zmr g)) (fun r w' => r = none ∧ w' = (zsh ++ vs, (zup mi 51 1 0), ml, zmr g)) := by
  refine Wp.run 3 (5, [(0, .ref 51)], [], (zsh ++ vs, (zup mi 51 1 0), ml, (zmr g))) rfl ?_
  refine Wp.ret rfl rfl rfl ?_
  exact ⟨rfl, rfl⟩
theorem sim_act {E : zEn} {nv : Nat} {VD : Nat → zV} {NL : Nat → Nat} {n dd : Nat} {vs : List (Nat × Nat)} {mi : Nat → Nat → Int32} {ml : Nat → Nat → Int64} {g : Nat → Nat → Option Nat} (I : INV nv VD NL n dd vs mi ml g) (w a x : Int32) : SIM E vs mi ml g pg_H_act pg_M_act [.int w, .int a, .int x] := by
  have B := I.1.1
  have h6 := B.1.2.1
  have hn := B.2.1
  have hN := B.1.1
  have hd := B.1.2.2.1
  have hdd := I.1.2
  by_cases hx : one n w
  rotate_left
  · refine SIM.u (x := 0) (m1 := (zup mi 51 1 0)) (l1 := ml) (m2 := (zup (zup mi 51 1 0) 66 24 0)) (l2 := ml) (dc := 20) (dm := 20) (by decide) (by decide) ?_ ?_ ?_
    · refine Wp.run 2 (4, [(0, .ref 0), (1, .int w), (2, .int a), (3, .int x)], [.ref 51], (zsh ++ vs, mi, ml, (zmr g))) rfl ?_
      refine Wp.call (as := [.ref 51]) (rest := []) rfl rfl rfl rfl rfl (Nat.le_of_ble_eq_true rfl) (Nat.le_of_ble_eq_true rfl) rfl (by decide) (c_clear) ?_
      rintro _ _ ⟨rfl, rfl⟩
      refine Wp.run 3 (12, [(0, .ref 0), (1, .int w), (2, .int a), (3, .int x)], [.int w, .ref 1], (zsh ++ vs, (zup mi 51 1 0), ml, (zmr g))) rfl ?_
      refine Wp.call (as := [.ref 1, .int w]) (rest := []) rfl rfl rfl rfl rfl (Nat.le_of_ble_eq_true rfl) (Nat.le_of_ble_eq_true rfl) rfl (by decide) (c_has_f (mi := (zup mi 51 1 0)) hn h6 hx) ?_
      rintro _ _ ⟨rfl, rfl⟩
      refine Wp.run 2 (27, [(0, .ref 0), (1, .int w), (2, .int a), (3, .int x)], [.int 0], (zsh ++ vs, (zup mi 51 1 0), ml, (zmr g))) rfl ?_
      refine Wp.ret rfl rfl rfl ?_
      exact ⟨rfl, rfl⟩
    · refine Wp.run 5 (7, [(0, .ref 66), (1, .int w), (2, .int a), (3, .int x)], [.int w, .ref 66], (zsh ++ vs, (zup (zup mi 51 1 0) 66 24 0), ml, (zmr g))) rfl ?_
      refine Wp.call (as := [.ref 66, .int w]) (rest := []) rfl rfl rfl rfl rfl (Nat.le_of_ble_eq_true rfl) (Nat.le_of_ble_eq_true rfl) rfl (by decide) (m_isOne_f (mi := (zup (zup mi 51 1 0) 66 24 0)) hN h6 hx) ?_
      rintro _ _ ⟨rfl, rfl⟩
      refine Wp.run 2 (33, [(0, .ref 66), (1, .int w), (2, .int a), (3, .int x)], [.int 0], (zsh ++ vs, (zup (zup mi 51 1 0) 66 24 0), ml, (zmr g))) rfl ?_
      refine Wp.ret rfl rfl rfl ?_
      exact ⟨rfl, rfl⟩
    · refine (I.act (fun b p51 p52 p66 p81 => by rw [zup_ne p66, zup_ne p51]) (fun k hk => by rw [zup_rd hk, zup_ne (by decide)]) ⟨0, by decide, rfl, rfl, fun k h1 h2 => absurd h1 (Nat.not_lt_zero k)⟩).x
  by_cases ha : 0 ≤ a ∧ a ≤ 2
  rotate_left
  · refine SIM.u (x := 0) (m1 := (zup mi 51 1 0)) (l1 := ml) (m2 := (zup (zup mi 51 1 0) 66 24 0)) (l2 := ml) (dc := 20) (dm := 20) (by decide) (by decide) ?_ ?_ ?_
    · refine Wp.run 2 (4, [(0, .ref 0), (1, .int w), (2, .int a), (3, .int x)], [.ref 51], (zsh ++ vs, mi, ml, (zmr g))) rfl ?_
      refine Wp.call (as := [.ref 51]) (rest := []) rfl rfl rfl rfl rfl (Nat.le_of_ble_eq_true rfl) (Nat.le_of_ble_eq_true rfl) rfl (by decide) (c_clear) ?_
      rintro _ _ ⟨rfl, rfl⟩
      refine Wp.run 3 (12, [(0, .ref 0), (1, .int w), (2, .int a), (3, .int x)], [.int w, .ref 1], (zsh ++ vs, (zup mi 51 1 0), ml, (zmr g))) rfl ?_
      refine Wp.call (as := [.ref 1, .int w]) (rest := []) rfl rfl rfl rfl rfl (Nat.le_of_ble_eq_true rfl) (Nat.le_of_ble_eq_true rfl) rfl (by decide) (c_has_t (mi := (zup mi 51 1 0)) hn h6 hx) ?_
      rintro _ _ ⟨rfl, rfl⟩
      refine Wp.run 3 (20, [(0, .ref 0), (1, .int w), (2, .int a), (3, .int x)], [.int 2, .int a], (zsh ++ vs, (zup mi 51 1 0), ml, (zmr g))) rfl ?_
      refine Wp.call (as := [.int a, .int 2]) (rest := []) rfl rfl rfl rfl rfl (Nat.le_of_ble_eq_true rfl) (Nat.le_of_ble_eq_true rfl) rfl (by decide) (c_within_f ha) ?_
      rintro _ _ ⟨rfl, rfl⟩
      refine Wp.run 2 (27, [(0, .ref 0), (1, .int w), (2, .int a), (3, .int x)], [.int 0], (zsh ++ vs, (zup mi 51 1 0), ml, (zmr g))) rfl ?_
      refine Wp.ret rfl rfl rfl ?_
      exact ⟨rfl, rfl⟩
    · refine Wp.run 5 (7, [(0, .ref 66), (1, .int w), (2, .int a), (3, .int x)], [.int w, .ref 66], (zsh ++ vs, (zup (zup mi 51 1 0) 66 24 0), ml, (zmr g))) rfl ?_
      refine Wp.call (as := [.ref 66, .int w]) (rest := []) rfl rfl rfl rfl rfl (Nat.le_of_ble_eq_true rfl) (Nat.le_of_ble_eq_true rfl) rfl (by decide) (m_isOne_t (mi := (zup (zup mi 51 1 0) 66 24 0)) hN h6 hx) ?_
      rintro _ _ ⟨rfl, rfl⟩
      refine Wp.run 4 (16, [(0, .ref 66), (1, .int w), (2, .int a), (3, .int x)], [.int 2, .int 0, .int a], (zsh ++ vs, (zup (zup mi 51 1 0) 66 24 0), ml, (zmr g))) rfl ?_
      refine Wp.call (as := [.int a, .int 0, .int 2]) (rest := []) rfl rfl rfl rfl rfl (Nat.le_of_ble_eq_true rfl) (Nat.le_of_ble_eq_true rfl) rfl (by decide) (m_isIn_f ha) ?_
      rintro _ _ ⟨rfl, rfl⟩
      refine Wp.run 2 (33, [(0, .ref 66), (1, .int w), (2, .int a), (3, .int x)], [.int 0], (zsh ++ vs, (zup (zup mi 51 1 0) 66 24 0), ml, (zmr g))) rfl ?_
      refine Wp.ret rfl rfl rfl ?_
      exact ⟨rfl, rfl⟩
    · refine (I.act (fun b p51 p52 p66 p81 => by rw [zup_ne p66, zup_ne p51]) (fun k hk => by rw [zup_rd hk, zup_ne (by decide)]) ⟨0, by decide, rfl, rfl, fun k h1 h2 => absurd h1 (Nat.not_lt_zero k)⟩).x
  have hx9 := hx
  obtain ⟨i, hi, rfl⟩ := hx
  have hi6 : i < 6 := by omega
  obtain ⟨q, hq, rfl⟩ := rng_of (h := 2) rfl ha
  obtain ⟨s, hs, es⟩ := (B.1.2.2.2.2 i hi).1
  obtain ⟨v, hv⟩ : ∃ v, mi 67 (8 + 10 * i + 1) = v := ⟨_, rfl⟩
  have ec : mi 3 i = nI s := (B.2.2.2.2.1 i hi 0 (by decide)).trans es
  have ev : mi 4 i = v := (B.2.2.2.2.1 i hi 1 (by decide)).trans hv
  have es0 : mi 67 (8 + 10 * i + 0) = nI s := es
  have k79 := I.2.2.2.2.2.2.2.2.1
  have k80 := I.2.2.2.2.2.2.2.2.2
  rcases (show s = 0 ∨ s = 1 ∨ s = 2 ∨ s = 3 ∨ s = 4 ∨ s = 5 ∨ s = 6 by omega) with rfl | rfl | rfl | rfl | rfl | rfl | rfl
  · rcases (show q = 0 ∨ q = 1 ∨ q = 2 by omega) with rfl | rfl | rfl
    · refine SIM.u (x := x + (nI i)) (m1 := (zup (zup (zup (zup (zup (zup mi 51 1 0) 51 2 0) 51 3 (nI i)) 51 4 v) 52 0 10) 51 1 1)) (l1 := ml) (m2 := (zup (zup (zup (zup (zup (zup (zup (zup (zup mi 51 1 0) 51 2 0) 51 3 (nI i)) 51 4 v) 52 0 10) 51 1 1) 66 24 0) 81 0 10) 66 24 1)) (l2 := ml) (dc := 20) (dm := 20) (by decide) (by decide) ?_ ?_ ?_
      · refine Wp.run 2 (4, [(0, .ref 0), (1, .int (nI i)), (2, .int 0), (3, .int x)], [.ref 51], (zsh ++ vs, mi, ml, (zmr g))) rfl ?_
        refine Wp.call (as := [.ref 51]) (rest := []) rfl rfl rfl rfl rfl (Nat.le_of_ble_eq_true rfl) (Nat.le_of_ble_eq_true rfl) rfl (by decide) (c_clear) ?_
        rintro _ _ ⟨rfl, rfl⟩
        refine Wp.run 3 (12, [(0, .ref 0), (1, .int (nI i)), (2, .int 0), (3, .int x)], [.int (nI i), .ref 1], (zsh ++ vs, (zup mi 51 1 0), ml, (zmr g))) rfl ?_
        refine Wp.call (as := [.ref 1, .int (nI i)]) (rest := []) rfl rfl rfl rfl rfl (Nat.le_of_ble_eq_true rfl) (Nat.le_of_ble_eq_true rfl) rfl (by decide) (c_has_t (mi := (zup mi 51 1 0)) hn h6 hx9) ?_
        rintro _ _ ⟨rfl, rfl⟩
        refine Wp.run 3 (20, [(0, .ref 0), (1, .int (nI i)), (2, .int 0), (3, .int x)], [.int 2, .int 0], (zsh ++ vs, (zup mi 51 1 0), ml, (zmr g))) rfl ?_
        refine Wp.call (as := [.int 0, .int 2]) (rest := []) rfl rfl rfl rfl rfl (Nat.le_of_ble_eq_true rfl) (Nat.le_of_ble_eq_true rfl) rfl (by decide) (c_within_t ha) ?_
        rintro _ _ ⟨rfl, rfl⟩
        refine Wp.run 8 (39, [(0, .ref 0), (1, .int (nI i)), (2, .int 0), (3, .int x)], [.int x, .int 0, .int (nI i), .ref 1, .ref 51], (zsh ++ vs, (zup mi 51 1 0), ml, (zmr g))) rfl ?_
        refine Wp.call (as := [.ref 51, .ref 1, .int (nI i), .int 0, .int x]) (rest := []) rfl rfl rfl rfl rfl (Nat.le_of_ble_eq_true rfl) (Nat.le_of_ble_eq_true rfl) rfl (by decide) (c_begin_0_0 (mi := (zup mi 51 1 0)) (x := x) (v := v) (i := i) hi6 rfl ec ev) ?_
        rintro _ _ ⟨rfl, rfl⟩
        refine Wp.run 0 (42, [(0, .ref 0), (1, .int (nI i)), (2, .int 0), (3, .int x)], [.int (x + (nI i))], (zsh ++ vs, (zup (zup (zup (zup (zup (zup mi 51 1 0) 51 2 0) 51 3 (nI i)) 51 4 v) 52 0 10) 51 1 1), ml, (zmr g))) rfl ?_
        refine Wp.ret rfl rfl rfl ?_
        exact ⟨rfl, rfl⟩
      · refine Wp.run 5 (7, [(0, .ref 66), (1, .int (nI i)), (2, .int 0), (3, .int x)], [.int (nI i), .ref 66], (zsh ++ vs, (zup (zup (zup (zup (zup (zup (zup mi 51 1 0) 51 2 0) 51 3 (nI i)) 51 4 v) 52 0 10) 51 1 1) 66 24 0), ml, (zmr g))) rfl ?_
        refine Wp.call (as := [.ref 66, .int (nI i)]) (rest := []) rfl rfl rfl rfl rfl (Nat.le_of_ble_eq_true rfl) (Nat.le_of_ble_eq_true rfl) rfl (by decide) (m_isOne_t (mi := (zup (zup (zup (zup (zup (zup (zup mi 51 1 0) 51 2 0) 51 3 (nI i)) 51 4 v) 52 0 10) 51 1 1) 66 24 0)) hN h6 hx9) ?_
        rintro _ _ ⟨rfl, rfl⟩
        refine Wp.run 4 (16, [(0, .ref 66), (1, .int (nI i)), (2, .int 0), (3, .int x)], [.int 2, .int 0, .int 0], (zsh ++ vs, (zup (zup (zup (zup (zup (zup (zup mi 51 1 0) 51 2 0) 51 3 (nI i)) 51 4 v) 52 0 10) 51 1 1) 66 24 0), ml, (zmr g))) rfl ?_
        refine Wp.call (as := [.int 0, .int 0, .int 2]) (rest := []) rfl rfl rfl rfl rfl (Nat.le_of_ble_eq_true rfl) (Nat.le_of_ble_eq_true rfl) rfl (by decide) (m_isIn_t ha) ?_
        rintro _ _ ⟨rfl, rfl⟩
        refine Wp.run 5 (26, [(0, .ref 66), (1, .int (nI i)), (2, .int 0), (3, .int x)], [.int x, .int 0, .int (nI i), .ref 66], (zsh ++ vs, (zup (zup (zup (zup (zup (zup (zup mi 51 1 0) 51 2 0) 51 3 (nI i)) 51 4 v) 52 0 10) 51 1 1) 66 24 0), ml, (zmr g))) rfl ?_
        refine Wp.call (as := [.ref 66, .int (nI i), .int 0, .int x]) (rest := []) rfl rfl rfl rfl rfl (Nat.le_of_ble_eq_true rfl) (Nat.le_of_ble_eq_true rfl) rfl (by decide) (m_al_0_0_0_0 (mi := (zup (zup (zup (zup (zup (zup (zup mi 51 1 0) 51 2 0) 51 3 (nI i)) 51 4 v) 52 0 10) 51 1 1) 66 24 0)) (x := x) (v := v) (i := i) hi6 rfl es0 hv k79 k80) ?_
        rintro _ _ ⟨rfl, rfl⟩
        refine Wp.run 1 (33, [(0, .ref 66), (1, .int (nI i)), (2, .int 0), (3, .int x)], [.int (x + (nI i))], (zsh ++ vs, (zup (zup (zup (zup (zup (zup (zup (zup (zup mi 51 1 0) 51 2 0) 51 3 (nI i)) 51 4 v) 52 0 10) 51 1 1) 66 24 0) 81 0 10) 66 24 1), ml, (zmr g))) rfl ?_
        refine Wp.ret rfl rfl rfl ?_
        exact ⟨rfl, rfl⟩
      · refine (I.act (fun b p51 p52 p66 p81 => by rw [zup_ne p66, zup_ne p81, zup_ne p66, zup_ne p51, zup_ne p52, zup_ne p51, zup_ne p51, zup_ne p51, zup_ne p51]) (fun k hk => by rw [zup_rd hk, zup_ne (by decide), zup_rd hk, zup_ne (by decide), zup_ne (by decide), zup_ne (by decide), zup_ne (by decide), zup_ne (by decide), zup_ne (by decide)]) ⟨1, by decide, rfl, rfl, fun k h1 h2 => by
          rcases (show k = 0 by omega) with rfl <;> rfl⟩).x
    · refine SIM.u (x := (x + (nI i)) - v) (m1 := (zup (zup (zup (zup (zup (zup (zup (zup mi 51 1 0) 51 2 0) 51 3 (nI i)) 51 4 v) 52 0 11) 51 1 1) 52 1 10) 51 1 2)) (l1 := ml) (m2 := (zup (zup (zup (zup (zup (zup (zup (zup (zup (zup (zup (zup (zup mi 51 1 0) 51 2 0) 51 3 (nI i)) 51 4 v) 52 0 11) 51 1 1) 52 1 10) 51 1 2) 66 24 0) 81 0 11) 66 24 1) 81 1 10) 66 24 2)) (l2 := ml) (dc := 20) (dm := 20) (by decide) (by decide) ?_ ?_ ?_
      · refine Wp.run 2 (4, [(0, .ref 0), (1, .int (nI i)), (2, .int 1), (3, .int x)], [.ref 51], (zsh ++ vs, mi, ml, (zmr g))) rfl ?_
        refine Wp.call (as := [.ref 51]) (rest := []) rfl rfl rfl rfl rfl (Nat.le_of_ble_eq_true rfl) (Nat.le_of_ble_eq_true rfl) rfl (by decide) (c_clear) ?_
        rintro _ _ ⟨rfl, rfl⟩
        refine Wp.run 3 (12, [(0, .ref 0), (1, .int (nI i)), (2, .int 1), (3, .int x)], [.int (nI i), .ref 1], (zsh ++ vs, (zup mi 51 1 0), ml, (zmr g))) rfl ?_
        refine Wp.call (as := [.ref 1, .int (nI i)]) (rest := []) rfl rfl rfl rfl rfl (Nat.le_of_ble_eq_true rfl) (Nat.le_of_ble_eq_true rfl) rfl (by decide) (c_has_t (mi := (zup mi 51 1 0)) hn h6 hx9) ?_
        rintro _ _ ⟨rfl, rfl⟩
        refine Wp.run 3 (20, [(0, .ref 0), (1, .int (nI i)), (2, .int 1), (3, .int x)], [.int 2, .int 1], (zsh ++ vs, (zup mi 51 1 0), ml, (zmr g))) rfl ?_
        refine Wp.call (as := [.int 1, .int 2]) (rest := []) rfl rfl rfl rfl rfl (Nat.le_of_ble_eq_true rfl) (Nat.le_of_ble_eq_true rfl) rfl (by decide) (c_within_t ha) ?_
        rintro _ _ ⟨rfl, rfl⟩
        refine Wp.run 8 (39, [(0, .ref 0), (1, .int (nI i)), (2, .int 1), (3, .int x)], [.int x, .int 1, .int (nI i), .ref 1, .ref 51], (zsh ++ vs, (zup mi 51 1 0), ml, (zmr g))) rfl ?_
        refine Wp.call (as := [.ref 51, .ref 1, .int (nI i), .int 1, .int x]) (rest := []) rfl rfl rfl rfl rfl (Nat.le_of_ble_eq_true rfl) (Nat.le_of_ble_eq_true rfl) rfl (by decide) (c_begin_0_1 (mi := (zup mi 51 1 0)) (x := x) (v := v) (i := i) hi6 rfl ec ev) ?_
        rintro _ _ ⟨rfl, rfl⟩
        refine Wp.run 0 (42, [(0, .ref 0), (1, .int (nI i)), (2, .int 1), (3, .int x)], [.int ((x + (nI i)) - v)], (zsh ++ vs, (zup (zup (zup (zup (zup (zup (zup (zup mi 51 1 0) 51 2 0) 51 3 (nI i)) 51 4 v) 52 0 11) 51 1 1) 52 1 10) 51 1 2), ml, (zmr g))) rfl ?_
        refine Wp.ret rfl rfl rfl ?_
        exact ⟨rfl, rfl⟩
      · refine Wp.run 5 (7, [(0, .ref 66), (1, .int (nI i)), (2, .int 1), (3, .int x)], [.int (nI i), .ref 66], (zsh ++ vs, (zup (zup (zup (zup (zup (zup (zup (zup (zup mi 51 1 0) 51 2 0) 51 3 (nI i)) 51 4 v) 52 0 11) 51 1 1) 52 1 10) 51 1 2) 66 24 0), ml, (zmr g))) rfl ?_
        refine Wp.call (as := [.ref 66, .int (nI i)]) (rest := []) rfl rfl rfl rfl rfl (Nat.le_of_ble_eq_true rfl) (Nat.le_of_ble_eq_true rfl) rfl (by decide) (m_isOne_t (mi := (zup (zup (zup (zup (zup (zup (zup (zup (zup mi 51 1 0) 51 2 0) 51 3 (nI i)) 51 4 v) 52 0 11) 51 1 1) 52 1 10) 51 1 2) 66 24 0)) hN h6 hx9) ?_
        rintro _ _ ⟨rfl, rfl⟩
        refine Wp.run 4 (16, [(0, .ref 66), (1, .int (nI i)), (2, .int 1), (3, .int x)], [.int 2, .int 0, .int 1], (zsh ++ vs, (zup (zup (zup (zup (zup (zup (zup (zup (zup mi 51 1 0) 51 2 0) 51 3 (nI i)) 51 4 v) 52 0 11) 51 1 1) 52 1 10) 51 1 2) 66 24 0), ml, (zmr g))) rfl ?_
        refine Wp.call (as := [.int 1, .int 0, .int 2]) (rest := []) rfl rfl rfl rfl rfl (Nat.le_of_ble_eq_true rfl) (Nat.le_of_ble_eq_true rfl) rfl (by decide) (m_isIn_t ha) ?_
        rintro _ _ ⟨rfl, rfl⟩
        refine Wp.run 5 (26, [(0, .ref 66), (1, .int (nI i)), (2, .int 1), (3, .int x)], [.int x, .int 1, .int (nI i), .ref 66], (zsh ++ vs, (zup (zup (zup (zup (zup (zup (zup (zup (zup mi 51 1 0) 51 2 0) 51 3 (nI i)) 51 4 v) 52 0 11) 51 1 1) 52 1 10) 51 1 2) 66 24 0), ml, (zmr g))) rfl ?_
        refine Wp.call (as := [.ref 66, .int (nI i), .int 1, .int x]) (rest := []) rfl rfl rfl rfl rfl (Nat.le_of_ble_eq_true rfl) (Nat.le_of_ble_eq_true rfl) rfl (by decide) (m_al_0_0_1_0 (mi := (zup (zup (zup (zup (zup (zup (zup (zup (zup mi 51 1 0) 51 2 0) 51 3 (nI i)) 51 4 v) 52 0 11) 51 1 1) 52 1 10) 51 1 2) 66 24 0)) (x := x) (v := v) (i := i) hi6 rfl es0 hv k79 k80) ?_
        rintro _ _ ⟨rfl, rfl⟩
        refine Wp.run 1 (33, [(0, .ref 66), (1, .int (nI i)), (2, .int 1), (3, .int x)], [.int ((x + (nI i)) - v)], (zsh ++ vs, (zup (zup (zup (zup (zup (zup (zup (zup (zup (zup (zup (zup (zup mi 51 1 0) 51 2 0) 51 3 (nI i)) 51 4 v) 52 0 11) 51 1 1) 52 1 10) 51 1 2) 66 24 0) 81 0 11) 66 24 1) 81 1 10) 66 24 2), ml, (zmr g))) rfl ?_
        refine Wp.ret rfl rfl rfl ?_
        exact ⟨rfl, rfl⟩
      · refine (I.act (fun b p51 p52 p66 p81 => by rw [zup_ne p66, zup_ne p81, zup_ne p66, zup_ne p81, zup_ne p66, zup_ne p51, zup_ne p52, zup_ne p51, zup_ne p52, zup_ne p51, zup_ne p51, zup_ne p51, zup_ne p51]) (fun k hk => by rw [zup_rd hk, zup_ne (by decide), zup_rd hk, zup_ne (by decide), zup_rd hk, zup_ne (by decide), zup_ne (by decide), zup_ne (by decide), zup_ne (by decide), zup_ne (by decide), zup_ne (by decide), zup_ne (by decide), zup_ne (by decide)]) ⟨2, by decide, rfl, rfl, fun k h1 h2 => by
          rcases (show k = 0 ∨ k = 1 by omega) with rfl | rfl <;> rfl⟩).x
    · refine SIM.u (x := ((x + (nI i)) - v) * 2) (m1 := (zup (zup (zup (zup (zup (zup (zup (zup (zup (zup mi 51 1 0) 51 2 0) 51 3 (nI i)) 51 4 v) 52 0 12) 51 1 1) 52 1 11) 51 1 2) 52 2 10) 51 1 3)) (l1 := ml) (m2 := (zup (zup (zup (zup (zup (zup (zup (zup (zup (zup (zup (zup (zup (zup (zup (zup (zup mi 51 1 0) 51 2 0) 51 3 (nI i)) 51 4 v) 52 0 12) 51 1 1) 52 1 11) 51 1 2) 52 2 10) 51 1 3) 66 24 0) 81 0 12) 66 24 1) 81 1 11) 66 24 2) 81 2 10) 66 24 3)) (l2 := ml) (dc := 20) (dm := 20) (by decide) (by decide) ?_ ?_ ?_
      · refine Wp.run 2 (4, [(0, .ref 0), (1, .int (nI i)), (2, .int 2), (3, .int x)], [.ref 51], (zsh ++ vs, mi, ml, (zmr g))) rfl ?_
        refine Wp.call (as := [.ref 51]) (rest := []) rfl rfl rfl rfl rfl (Nat.le_of_ble_eq_true rfl) (Nat.le_of_ble_eq_true rfl) rfl (by decide) (c_clear) ?_
        rintro _ _ ⟨rfl, rfl⟩
        refine Wp.run 3 (12, [(0, .ref 0), (1, .int (nI i)), (2, .int 2), (3, .int x)], [.int (nI i), .ref 1], (zsh ++ vs, (zup mi 51 1 0), ml, (zmr g))) rfl ?_
        refine Wp.call (as := [.ref 1, .int (nI i)]) (rest := []) rfl rfl rfl rfl rfl (Nat.le_of_ble_eq_true rfl) (Nat.le_of_ble_eq_true rfl) rfl (by decide) (c_has_t (mi := (zup mi 51 1 0)) hn h6 hx9) ?_
        rintro _ _ ⟨rfl, rfl⟩
        refine Wp.run 3 (20, [(0, .ref 0), (1, .int (nI i)), (2, .int 2), (3, .int x)], [.int 2, .int 2], (zsh ++ vs, (zup mi 51 1 0), ml, (zmr g))) rfl ?_
        refine Wp.call (as := [.int 2, .int 2]) (rest := []) rfl rfl rfl rfl rfl (Nat.le_of_ble_eq_true rfl) (Nat.le_of_ble_eq_true rfl) rfl (by decide) (c_within_t ha) ?_
        rintro _ _ ⟨rfl, rfl⟩
        refine Wp.run 8 (39, [(0, .ref 0), (1, .int (nI i)), (2, .int 2), (3, .int x)], [.int x, .int 2, .int (nI i), .ref 1, .ref 51], (zsh ++ vs, (zup mi 51 1 0), ml, (zmr g))) rfl ?_
        refine Wp.call (as := [.ref 51, .ref 1, .int (nI i), .int 2, .int x]) (rest := []) rfl rfl rfl rfl rfl (Nat.le_of_ble_eq_true rfl) (Nat.le_of_ble_eq_true rfl) rfl (by decide) (c_begin_0_2 (mi := (zup mi 51 1 0)) (x := x) (v := v) (i := i) hi6 rfl ec ev) ?_
        rintro _ _ ⟨rfl, rfl⟩
        refine Wp.run 0 (42, [(0, .ref 0), (1, .int (nI i)), (2, .int 2), (3, .int x)], [.int (((x + (nI i)) - v) * 2)], (zsh ++ vs, (zup (zup (zup (zup (zup (zup (zup (zup (zup (zup mi 51 1 0) 51 2 0) 51 3 (nI i)) 51 4 v) 52 0 12) 51 1 1) 52 1 11) 51 1 2) 52 2 10) 51 1 3), ml, (zmr g))) rfl ?_
        refine Wp.ret rfl rfl rfl ?_
        exact ⟨rfl, rfl⟩
      · refine Wp.run 5 (7, [(0, .ref 66), (1, .int (nI i)), (2, .int 2), (3, .int x)], [.int (nI i), .ref 66], (zsh ++ vs, (zup (zup (zup (zup (zup (zup (zup (zup (zup (zup (zup mi 51 1 0) 51 2 0) 51 3 (nI i)) 51 4 v) 52 0 12) 51 1 1) 52 1 11) 51 1 2) 52 2 10) 51 1 3) 66 24 0), ml, (zmr g))) rfl ?_
        refine Wp.call (as := [.ref 66, .int (nI i)]) (rest := []) rfl rfl rfl rfl rfl (Nat.le_of_ble_eq_true rfl) (Nat.le_of_ble_eq_true rfl) rfl (by decide) (m_isOne_t (mi := (zup (zup (zup (zup (zup (zup (zup (zup (zup (zup (zup mi 51 1 0) 51 2 0) 51 3 (nI i)) 51 4 v) 52 0 12) 51 1 1) 52 1 11) 51 1 2) 52 2 10) 51 1 3) 66 24 0)) hN h6 hx9) ?_
        rintro _ _ ⟨rfl, rfl⟩
        refine Wp.run 4 (16, [(0, .ref 66), (1, .int (nI i)), (2, .int 2), (3, .int x)], [.int 2, .int 0, .int 2], (zsh ++ vs, (zup (zup (zup (zup (zup (zup (zup (zup (zup (zup (zup mi 51 1 0) 51 2 0) 51 3 (nI i)) 51 4 v) 52 0 12) 51 1 1) 52 1 11) 51 1 2) 52 2 10) 51 1 3) 66 24 0), ml, (zmr g))) rfl ?_
        refine Wp.call (as := [.int 2, .int 0, .int 2]) (rest := []) rfl rfl rfl rfl rfl (Nat.le_of_ble_eq_true rfl) (Nat.le_of_ble_eq_true rfl) rfl (by decide) (m_isIn_t ha) ?_
        rintro _ _ ⟨rfl, rfl⟩
        refine Wp.run 5 (26, [(0, .ref 66), (1, .int (nI i)), (2, .int 2), (3, .int x)], [.int x, .int 2, .int (nI i), .ref 66], (zsh ++ vs, (zup (zup (zup (zup (zup (zup (zup (zup (zup (zup (zup mi 51 1 0) 51 2 0) 51 3 (nI i)) 51 4 v) 52 0 12) 51 1 1) 52 1 11) 51 1 2) 52 2 10) 51 1 3) 66 24 0), ml, (zmr g))) rfl ?_
        refine Wp.call (as := [.ref 66, .int (nI i), .int 2, .int x]) (rest := []) rfl rfl rfl rfl rfl (Nat.le_of_ble_eq_true rfl) (Nat.le_of_ble_eq_true rfl) rfl (by decide) (m_al_0_0_2_0 (mi := (zup (zup (zup (zup (zup (zup (zup (zup (zup (zup (zup mi 51 1 0) 51 2 0) 51 3 (nI i)) 51 4 v) 52 0 12) 51 1 1) 52 1 11) 51 1 2) 52 2 10) 51 1 3) 66 24 0)) (x := x) (v := v) (i := i) hi6 rfl es0 hv k79 k80) ?_
        rintro _ _ ⟨rfl, rfl⟩
        refine Wp.run 1 (33, [(0, .ref 66), (1, .int (nI i)), (2, .int 2), (3, .int x)], [.int (((x + (nI i)) - v) * 2)], (zsh ++ vs, (zup (zup (zup (zup (zup (zup (zup (zup (zup (zup (zup (zup (zup (zup (zup (zup (zup mi 51 1 0) 51 2 0) 51 3 (nI i)) 51 4 v) 52 0 12) 51 1 1) 52 1 11) 51 1 2) 52 2 10) 51 1 3) 66 24 0) 81 0 12) 66 24 1) 81 1 11) 66 24 2) 81 2 10) 66 24 3), ml, (zmr g))) rfl ?_
        refine Wp.ret rfl rfl rfl ?_
        exact ⟨rfl, rfl⟩
      · refine (I.act (fun b p51 p52 p66 p81 => by rw [zup_ne p66, zup_ne p81, zup_ne p66, zup_ne p81, zup_ne p66, zup_ne p81, zup_ne p66, zup_ne p51, zup_ne p52, zup_ne p51, zup_ne p52, zup_ne p51, zup_ne p52, zup_ne p51, zup_ne p51, zup_ne p51, zup_ne p51]) (fun k hk => by rw [zup_rd hk, zup_ne (by decide), zup_rd hk, zup_ne (by decide), zup_rd hk, zup_ne (by decide), zup_rd hk, zup_ne (by decide), zup_ne (by decide), zup_ne (by decide), zup_ne (by decide), zup_ne (by decide), zup_ne (by decide), zup_ne (by decide), zup_ne (by decide), zup_ne (by decide), zup_ne (by decide)]) ⟨3, by decide, rfl, rfl, fun k h1 h2 => by
          rcases (show k = 0 ∨ k = 1 ∨ k = 2 by omega) with rfl | rfl | rfl <;> rfl⟩).x
  · rcases (show q = 0 ∨ q = 1 ∨ q = 2 by omega) with rfl | rfl | rfl
    · refine SIM.u (x := x + (nI i)) (m1 := (zup (zup (zup (zup (zup (zup mi 51 1 0) 51 2 1) 51 3 (nI i)) 51 4 v) 52 0 10) 51 1 1)) (l1 := ml) (m2 := (zup (zup (zup (zup (zup (zup (zup (zup (zup mi 51 1 0) 51 2 1) 51 3 (nI i)) 51 4 v) 52 0 10) 51 1 1) 66 24 0) 81 0 10) 66 24 1)) (l2 := ml) (dc := 20) (dm := 20) (by decide) (by decide) ?_ ?_ ?_
      · refine Wp.run 2 (4, [(0, .ref 0), (1, .int (nI i)), (2, .int 0), (3, .int x)], [.ref 51], (zsh ++ vs, mi, ml, (zmr g))) rfl ?_
        refine Wp.call (as := [.ref 51]) (rest := []) rfl rfl rfl rfl rfl (Nat.le_of_ble_eq_true rfl) (Nat.le_of_ble_eq_true rfl) rfl (by decide) (c_clear) ?_
        rintro _ _ ⟨rfl, rfl⟩
        refine Wp.run 3 (12, [(0, .ref 0), (1, .int (nI i)), (2, .int 0), (3, .int x)], [.int (nI i), .ref 1], (zsh ++ vs, (zup mi 51 1 0), ml, (zmr g))) rfl ?_
        refine Wp.call (as := [.ref 1, .int (nI i)]) (rest := []) rfl rfl rfl rfl rfl (Nat.le_of_ble_eq_true rfl) (Nat.le_of_ble_eq_true rfl) rfl (by decide) (c_has_t (mi := (zup mi 51 1 0)) hn h6 hx9) ?_
        rintro _ _ ⟨rfl, rfl⟩
        refine Wp.run 3 (20, [(0, .ref 0), (1, .int (nI i)), (2, .int 0), (3, .int x)], [.int 2, .int 0], (zsh ++ vs, (zup mi 51 1 0), ml, (zmr g))) rfl ?_
        refine Wp.call (as := [.int 0, .int 2]) (rest := []) rfl rfl rfl rfl rfl (Nat.le_of_ble_eq_true rfl) (Nat.le_of_ble_eq_true rfl) rfl (by decide) (c_within_t ha) ?_
        rintro _ _ ⟨rfl, rfl⟩
        refine Wp.run 8 (39, [(0, .ref 0), (1, .int (nI i)), (2, .int 0), (3, .int x)], [.int x, .int 0, .int (nI i), .ref 1, .ref 51], (zsh ++ vs, (zup mi 51 1 0), ml, (zmr g))) rfl ?_
        refine Wp.call (as := [.ref 51, .ref 1, .int (nI i), .int 0, .int x]) (rest := []) rfl rfl rfl rfl rfl (Nat.le_of_ble_eq_true rfl) (Nat.le_of_ble_eq_true rfl) rfl (by decide) (c_begin_1_0 (mi := (zup mi 51 1 0)) (x := x) (v := v) (i := i) hi6 rfl ec ev) ?_
        rintro _ _ ⟨rfl, rfl⟩
        refine Wp.run 0 (42, [(0, .ref 0), (1, .int (nI i)), (2, .int 0), (3, .int x)], [.int (x + (nI i))], (zsh ++ vs, (zup (zup (zup (zup (zup (zup mi 51 1 0) 51 2 1) 51 3 (nI i)) 51 4 v) 52 0 10) 51 1 1), ml, (zmr g))) rfl ?_
        refine Wp.ret rfl rfl rfl ?_
        exact ⟨rfl, rfl⟩
      · refine Wp.run 5 (7, [(0, .ref 66), (1, .int (nI i)), (2, .int 0), (3, .int x)], [.int (nI i), .ref 66], (zsh ++ vs, (zup (zup (zup (zup (zup (zup (zup mi 51 1 0) 51 2 1) 51 3 (nI i)) 51 4 v) 52 0 10) 51 1 1) 66 24 0), ml, (zmr g))) rfl ?_
        refine Wp.call (as := [.ref 66, .int (nI i)]) (rest := []) rfl rfl rfl rfl rfl (Nat.le_of_ble_eq_true rfl) (Nat.le_of_ble_eq_true rfl) rfl (by decide) (m_isOne_t (mi := (zup (zup (zup (zup (zup (zup (zup mi 51 1 0) 51 2 1) 51 3 (nI i)) 51 4 v) 52 0 10) 51 1 1) 66 24 0)) hN h6 hx9) ?_
        rintro _ _ ⟨rfl, rfl⟩
        refine Wp.run 4 (16, [(0, .ref 66), (1, .int (nI i)), (2, .int 0), (3, .int x)], [.int 2, .int 0, .int 0], (zsh ++ vs, (zup (zup (zup (zup (zup (zup (zup mi 51 1 0) 51 2 1) 51 3 (nI i)) 51 4 v) 52 0 10) 51 1 1) 66 24 0), ml, (zmr g))) rfl ?_
        refine Wp.call (as := [.int 0, .int 0, .int 2]) (rest := []) rfl rfl rfl rfl rfl (Nat.le_of_ble_eq_true rfl) (Nat.le_of_ble_eq_true rfl) rfl (by decide) (m_isIn_t ha) ?_
        rintro _ _ ⟨rfl, rfl⟩
        refine Wp.run 5 (26, [(0, .ref 66), (1, .int (nI i)), (2, .int 0), (3, .int x)], [.int x, .int 0, .int (nI i), .ref 66], (zsh ++ vs, (zup (zup (zup (zup (zup (zup (zup mi 51 1 0) 51 2 1) 51 3 (nI i)) 51 4 v) 52 0 10) 51 1 1) 66 24 0), ml, (zmr g))) rfl ?_
        refine Wp.call (as := [.ref 66, .int (nI i), .int 0, .int x]) (rest := []) rfl rfl rfl rfl rfl (Nat.le_of_ble_eq_true rfl) (Nat.le_of_ble_eq_true rfl) rfl (by decide) (m_al_1_1_0_0 (mi := (zup (zup (zup (zup (zup (zup (zup mi 51 1 0) 51 2 1) 51 3 (nI i)) 51 4 v) 52 0 10) 51 1 1) 66 24 0)) (x := x) (v := v) (i := i) hi6 rfl es0 hv k79 k80) ?_
        rintro _ _ ⟨rfl, rfl⟩
        refine Wp.run 1 (33, [(0, .ref 66), (1, .int (nI i)), (2, .int 0), (3, .int x)], [.int (x + (nI i))], (zsh ++ vs, (zup (zup (zup (zup (zup (zup (zup (zup (zup mi 51 1 0) 51 2 1) 51 3 (nI i)) 51 4 v) 52 0 10) 51 1 1) 66 24 0) 81 0 10) 66 24 1), ml, (zmr g))) rfl ?_
        refine Wp.ret rfl rfl rfl ?_
        exact ⟨rfl, rfl⟩
      · refine (I.act (fun b p51 p52 p66 p81 => by rw [zup_ne p66, zup_ne p81, zup_ne p66, zup_ne p51, zup_ne p52, zup_ne p51, zup_ne p51, zup_ne p51, zup_ne p51]) (fun k hk => by rw [zup_rd hk, zup_ne (by decide), zup_rd hk, zup_ne (by decide), zup_ne (by decide), zup_ne (by decide), zup_ne (by decide), zup_ne (by decide), zup_ne (by decide)]) ⟨1, by decide, rfl, rfl, fun k h1 h2 => by
          rcases (show k = 0 by omega) with rfl <;> rfl⟩).x
    · refine SIM.u (x := ((x + (nI i)) - v) ^^^ 6) (m1 := (zup (zup (zup (zup (zup (zup (zup (zup (zup (zup mi 51 1 0) 51 2 1) 51 3 (nI i)) 51 4 v) 52 0 20) 51 1 1) 52 1 11) 51 1 2) 52 2 10) 51 1 3)) (l1 := ml) (m2 := (zup (zup (zup (zup (zup (zup (zup (zup (zup (zup (zup (zup (zup (zup (zup (zup (zup mi 51 1 0) 51 2 1) 51 3 (nI i)) 51 4 v) 52 0 20) 51 1 1) 52 1 11) 51 1 2) 52 2 10) 51 1 3) 66 24 0) 81 0 20) 66 24 1) 81 1 11) 66 24 2) 81 2 10) 66 24 3)) (l2 := ml) (dc := 20) (dm := 20) (by decide) (by decide) ?_ ?_ ?_
      · refine Wp.run 2 (4, [(0, .ref 0), (1, .int (nI i)), (2, .int 1), (3, .int x)], [.ref 51], (zsh ++ vs, mi, ml, (zmr g))) rfl ?_
        refine Wp.call (as := [.ref 51]) (rest := []) rfl rfl rfl rfl rfl (Nat.le_of_ble_eq_true rfl) (Nat.le_of_ble_eq_true rfl) rfl (by decide) (c_clear) ?_
        rintro _ _ ⟨rfl, rfl⟩
        refine Wp.run 3 (12, [(0, .ref 0), (1, .int (nI i)), (2, .int 1), (3, .int x)], [.int (nI i), .ref 1], (zsh ++ vs, (zup mi 51 1 0), ml, (zmr g))) rfl ?_
        refine Wp.call (as := [.ref 1, .int (nI i)]) (rest := []) rfl rfl rfl rfl rfl (Nat.le_of_ble_eq_true rfl) (Nat.le_of_ble_eq_true rfl) rfl (by decide) (c_has_t (mi := (zup mi 51 1 0)) hn h6 hx9) ?_
        rintro _ _ ⟨rfl, rfl⟩
        refine Wp.run 3 (20, [(0, .ref 0), (1, .int (nI i)), (2, .int 1), (3, .int x)], [.int 2, .int 1], (zsh ++ vs, (zup mi 51 1 0), ml, (zmr g))) rfl ?_
        refine Wp.call (as := [.int 1, .int 2]) (rest := []) rfl rfl rfl rfl rfl (Nat.le_of_ble_eq_true rfl) (Nat.le_of_ble_eq_true rfl) rfl (by decide) (c_within_t ha) ?_
        rintro _ _ ⟨rfl, rfl⟩
        refine Wp.run 8 (39, [(0, .ref 0), (1, .int (nI i)), (2, .int 1), (3, .int x)], [.int x, .int 1, .int (nI i), .ref 1, .ref 51], (zsh ++ vs, (zup mi 51 1 0), ml, (zmr g))) rfl ?_
        refine Wp.call (as := [.ref 51, .ref 1, .int (nI i), .int 1, .int x]) (rest := []) rfl rfl rfl rfl rfl (Nat.le_of_ble_eq_true rfl) (Nat.le_of_ble_eq_true rfl) rfl (by decide) (c_begin_1_1 (mi := (zup mi 51 1 0)) (x := x) (v := v) (i := i) hi6 rfl ec ev) ?_
        rintro _ _ ⟨rfl, rfl⟩
        refine Wp.run 0 (42, [(0, .ref 0), (1, .int (nI i)), (2, .int 1), (3, .int x)], [.int (((x + (nI i)) - v) ^^^ 6)], (zsh ++ vs, (zup (zup (zup (zup (zup (zup (zup (zup (zup (zup mi 51 1 0) 51 2 1) 51 3 (nI i)) 51 4 v) 52 0 20) 51 1 1) 52 1 11) 51 1 2) 52 2 10) 51 1 3), ml, (zmr g))) rfl ?_
        refine Wp.ret rfl rfl rfl ?_
        exact ⟨rfl, rfl⟩
      · refine Wp.run 5 (7, [(0, .ref 66), (1, .int (nI i)), (2, .int 1), (3, .int x)], [.int (nI i), .ref 66], (zsh ++ vs, (zup (zup (zup (zup (zup (zup (zup (zup (zup (zup (zup mi 51 1 0) 51 2 1) 51 3 (nI i)) 51 4 v) 52 0 20) 51 1 1) 52 1 11) 51 1 2) 52 2 10) 51 1 3) 66 24 0), ml, (zmr g))) rfl ?_
        refine Wp.call (as := [.ref 66, .int (nI i)]) (rest := []) rfl rfl rfl rfl rfl (Nat.le_of_ble_eq_true rfl) (Nat.le_of_ble_eq_true rfl) rfl (by decide) (m_isOne_t (mi := (zup (zup (zup (zup (zup (zup (zup (zup (zup (zup (zup mi 51 1 0) 51 2 1) 51 3 (nI i)) 51 4 v) 52 0 20) 51 1 1) 52 1 11) 51 1 2) 52 2 10) 51 1 3) 66 24 0)) hN h6 hx9) ?_
        rintro _ _ ⟨rfl, rfl⟩
        refine Wp.run 4 (16, [(0, .ref 66), (1, .int (nI i)), (2, .int 1), (3, .int x)], [.int 2, .int 0, .int 1], (zsh ++ vs, (zup (zup (zup (zup (zup (zup (zup (zup (zup (zup (zup mi 51 1 0) 51 2 1) 51 3 (nI i)) 51 4 v) 52 0 20) 51 1 1) 52 1 11) 51 1 2) 52 2 10) 51 1 3) 66 24 0), ml, (zmr g))) rfl ?_
        refine Wp.call (as := [.int 1, .int 0, .int 2]) (rest := []) rfl rfl rfl rfl rfl (Nat.le_of_ble_eq_true rfl) (Nat.le_of_ble_eq_true rfl) rfl (by decide) (m_isIn_t ha) ?_
        rintro _ _ ⟨rfl, rfl⟩
        refine Wp.run 5 (26, [(0, .ref 66), (1, .int (nI i)), (2, .int 1), (3, .int x)], [.int x, .int 1, .int (nI i), .ref 66], (zsh ++ vs, (zup (zup (zup (zup (zup (zup (zup (zup (zup (zup (zup mi 51 1 0) 51 2 1) 51 3 (nI i)) 51 4 v) 52 0 20) 51 1 1) 52 1 11) 51 1 2) 52 2 10) 51 1 3) 66 24 0), ml, (zmr g))) rfl ?_
        refine Wp.call (as := [.ref 66, .int (nI i), .int 1, .int x]) (rest := []) rfl rfl rfl rfl rfl (Nat.le_of_ble_eq_true rfl) (Nat.le_of_ble_eq_true rfl) rfl (by decide) (m_al_1_1_1_0 (mi := (zup (zup (zup (zup (zup (zup (zup (zup (zup (zup (zup mi 51 1 0) 51 2 1) 51 3 (nI i)) 51 4 v) 52 0 20) 51 1 1) 52 1 11) 51 1 2) 52 2 10) 51 1 3) 66 24 0)) (x := x) (v := v) (i := i) hi6 rfl es0 hv k79 k80) ?_
        rintro _ _ ⟨rfl, rfl⟩
        refine Wp.run 1 (33, [(0, .ref 66), (1, .int (nI i)), (2, .int 1), (3, .int x)], [.int (((x + (nI i)) - v) ^^^ 6)], (zsh ++ vs, (zup (zup (zup (zup (zup (zup (zup (zup (zup (zup (zup (zup (zup (zup (zup (zup (zup mi 51 1 0) 51 2 1) 51 3 (nI i)) 51 4 v) 52 0 20) 51 1 1) 52 1 11) 51 1 2) 52 2 10) 51 1 3) 66 24 0) 81 0 20) 66 24 1) 81 1 11) 66 24 2) 81 2 10) 66 24 3), ml, (zmr g))) rfl ?_
        refine Wp.ret rfl rfl rfl ?_
        exact ⟨rfl, rfl⟩
      · refine (I.act (fun b p51 p52 p66 p81 => by rw [zup_ne p66, zup_ne p81, zup_ne p66, zup_ne p81, zup_ne p66, zup_ne p81, zup_ne p66, zup_ne p51, zup_ne p52, zup_ne p51, zup_ne p52, zup_ne p51, zup_ne p52, zup_ne p51, zup_ne p51, zup_ne p51, zup_ne p51]) (fun k hk => by rw [zup_rd hk, zup_ne (by decide), zup_rd hk, zup_ne (by decide), zup_rd hk, zup_ne (by decide), zup_rd hk, zup_ne (by decide), zup_ne (by decide), zup_ne (by decide), zup_ne (by decide), zup_ne (by decide), zup_ne (by decide), zup_ne (by decide), zup_ne (by decide), zup_ne (by decide), zup_ne (by decide)]) ⟨3, by decide, rfl, rfl, fun k h1 h2 => by
          rcases (show k = 0 ∨ k = 1 ∨ k = 2 by omega) with rfl | rfl | rfl <;> rfl⟩).x
    · refine SIM.u (x := (((x + (nI i)) - v) ^^^ 6) * 2) (m1 := (zup (zup (zup (zup (zup (zup (zup (zup (zup (zup (zup (zup mi 51 1 0) 51 2 1) 51 3 (nI i)) 51 4 v) 52 0 12) 51 1 1) 52 1 20) 51 1 2) 52 2 11) 51 1 3) 52 3 10) 51 1 4)) (l1 := ml) (m2 := (zup (zup (zup (zup (zup (zup (zup (zup (zup (zup (zup (zup (zup (zup (zup (zup (zup (zup (zup (zup (zup mi 51 1 0) 51 2 1) 51 3 (nI i)) 51 4 v) 52 0 12) 51 1 1) 52 1 20) 51 1 2) 52 2 11) 51 1 3) 52 3 10) 51 1 4) 66 24 0) 81 0 12) 66 24 1) 81 1 20) 66 24 2) 81 2 11) 66 24 3) 81 3 10) 66 24 4)) (l2 := ml) (dc := 20) (dm := 20) (by decide) (by decide) ?_ ?_ ?_
      · refine Wp.run 2 (4, [(0, .ref 0), (1, .int (nI i)), (2, .int 2), (3, .int x)], [.ref 51], (zsh ++ vs, mi, ml, (zmr g))) rfl ?_
        refine Wp.call (as := [.ref 51]) (rest := []) rfl rfl rfl rfl rfl (Nat.le_of_ble_eq_true rfl) (Nat.le_of_ble_eq_true rfl) rfl (by decide) (c_clear) ?_
        rintro _ _ ⟨rfl, rfl⟩
        refine Wp.run 3 (12, [(0, .ref 0), (1, .int (nI i)), (2, .int 2), (3, .int x)], [.int (nI i), .ref 1], (zsh ++ vs, (zup mi 51 1 0), ml, (zmr g))) rfl ?_
        refine Wp.call (as := [.ref 1, .int (nI i)]) (rest := []) rfl rfl rfl rfl rfl (Nat.le_of_ble_eq_true rfl) (Nat.le_of_ble_eq_true rfl) rfl (by decide) (c_has_t (mi := (zup mi 51 1 0)) hn h6 hx9) ?_
        rintro _ _ ⟨rfl, rfl⟩
        refine Wp.run 3 (20, [(0, .ref 0), (1, .int (nI i)), (2, .int 2), (3, .int x)], [.int 2, .int 2], (zsh ++ vs, (zup mi 51 1 0), ml, (zmr g))) rfl ?_
        refine Wp.call (as := [.int 2, .int 2]) (rest := []) rfl rfl rfl rfl rfl (Nat.le_of_ble_eq_true rfl) (Nat.le_of_ble_eq_true rfl) rfl (by decide) (c_within_t ha) ?_
        rintro _ _ ⟨rfl, rfl⟩
        refine Wp.run 8 (39, [(0, .ref 0), (1, .int (nI i)), (2, .int 2), (3, .int x)], [.int x, .int 2, .int (nI i), .ref 1, .ref 51], (zsh ++ vs, (zup mi 51 1 0), ml, (zmr g))) rfl ?_
        refine Wp.call (as := [.ref 51, .ref 1, .int (nI i), .int 2, .int x]) (rest := []) rfl rfl rfl rfl rfl (Nat.le_of_ble_eq_true rfl) (Nat.le_of_ble_eq_true rfl) rfl (by decide) (c_begin_1_2 (mi := (zup mi 51 1 0)) (x := x) (v := v) (i := i) hi6 rfl ec ev) ?_
        rintro _ _ ⟨rfl, rfl⟩
        refine Wp.run 0 (42, [(0, .ref 0), (1, .int (nI i)), (2, .int 2), (3, .int x)], [.int ((((x + (nI i)) - v) ^^^ 6) * 2)], (zsh ++ vs, (zup (zup (zup (zup (zup (zup (zup (zup (zup (zup (zup (zup mi 51 1 0) 51 2 1) 51 3 (nI i)) 51 4 v) 52 0 12) 51 1 1) 52 1 20) 51 1 2) 52 2 11) 51 1 3) 52 3 10) 51 1 4), ml, (zmr g))) rfl ?_
        refine Wp.ret rfl rfl rfl ?_
        exact ⟨rfl, rfl⟩
      · refine Wp.run 5 (7, [(0, .ref 66), (1, .int (nI i)), (2, .int 2), (3, .int x)], [.int (nI i), .ref 66], (zsh ++ vs, (zup (zup (zup (zup (zup (zup (zup (zup (zup (zup (zup (zup (zup mi 51 1 0) 51 2 1) 51 3 (nI i)) 51 4 v) 52 0 12) 51 1 1) 52 1 20) 51 1 2) 52 2 11) 51 1 3) 52 3 10) 51 1 4) 66 24 0), ml, (zmr g))) rfl ?_
        refine Wp.call (as := [.ref 66, .int (nI i)]) (rest := []) rfl rfl rfl rfl rfl (Nat.le_of_ble_eq_true rfl) (Nat.le_of_ble_eq_true rfl) rfl (by decide) (m_isOne_t (mi := (zup (zup (zup (zup (zup (zup (zup (zup (zup (zup (zup (zup (zup mi 51 1 0) 51 2 1) 51 3 (nI i)) 51 4 v) 52 0 12) 51 1 1) 52 1 20) 51 1 2) 52 2 11) 51 1 3) 52 3 10) 51 1 4) 66 24 0)) hN h6 hx9) ?_
        rintro _ _ ⟨rfl, rfl⟩
        refine Wp.run 4 (16, [(0, .ref 66), (1, .int (nI i)), (2, .int 2), (3, .int x)], [.int 2, .int 0, .int 2], (zsh ++ vs, (zup (zup (zup (zup (zup (zup (zup (zup (zup (zup (zup (zup (zup mi 51 1 0) 51 2 1) 51 3 (nI i)) 51 4 v) 52 0 12) 51 1 1) 52 1 20) 51 1 2) 52 2 11) 51 1 3) 52 3 10) 51 1 4) 66 24 0), ml, (zmr g))) rfl ?_
        refine Wp.call (as := [.int 2, .int 0, .int 2]) (rest := []) rfl rfl rfl rfl rfl (Nat.le_of_ble_eq_true rfl) (Nat.le_of_ble_eq_true rfl) rfl (by decide) (m_isIn_t ha) ?_
        rintro _ _ ⟨rfl, rfl⟩
        refine Wp.run 5 (26, [(0, .ref 66), (1, .int (nI i)), (2, .int 2), (3, .int x)], [.int x, .int 2, .int (nI i), .ref 66], (zsh ++ vs, (zup (zup (zup (zup (zup (zup (zup (zup (zup (zup (zup (zup (zup mi 51 1 0) 51 2 1) 51 3 (nI i)) 51 4 v) 52 0 12) 51 1 1) 52 1 20) 51 1 2) 52 2 11) 51 1 3) 52 3 10) 51 1 4) 66 24 0), ml, (zmr g))) rfl ?_
        refine Wp.call (as := [.ref 66, .int (nI i), .int 2, .int x]) (rest := []) rfl rfl rfl rfl rfl (Nat.le_of_ble_eq_true rfl) (Nat.le_of_ble_eq_true rfl) rfl (by decide) (m_al_1_1_2_0 (mi := (zup (zup (zup (zup (zup (zup (zup (zup (zup (zup (zup (zup (zup mi 51 1 0) 51 2 1) 51 3 (nI i)) 51 4 v) 52 0 12) 51 1 1) 52 1 20) 51 1 2) 52 2 11) 51 1 3) 52 3 10) 51 1 4) 66 24 0)) (x := x) (v := v) (i := i) hi6 rfl es0 hv k79 k80) ?_
        rintro _ _ ⟨rfl, rfl⟩
        refine Wp.run 1 (33, [(0, .ref 66), (1, .int (nI i)), (2, .int 2), (3, .int x)], [.int ((((x + (nI i)) - v) ^^^ 6) * 2)], (zsh ++ vs, (zup (zup (zup (zup (zup (zup (zup (zup (zup (zup (zup (zup (zup (zup (zup (zup (zup (zup (zup (zup (zup mi 51 1 0) 51 2 1) 51 3 (nI i)) 51 4 v) 52 0 12) 51 1 1) 52 1 20) 51 1 2) 52 2 11) 51 1 3) 52 3 10) 51 1 4) 66 24 0) 81 0 12) 66 24 1) 81 1 20) 66 24 2) 81 2 11) 66 24 3) 81 3 10) 66 24 4), ml, (zmr g))) rfl ?_
        refine Wp.ret rfl rfl rfl ?_
        exact ⟨rfl, rfl⟩
      · refine (I.act (fun b p51 p52 p66 p81 => by rw [zup_ne p66, zup_ne p81, zup_ne p66, zup_ne p81, zup_ne p66, zup_ne p81, zup_ne p66, zup_ne p81, zup_ne p66, zup_ne p51, zup_ne p52, zup_ne p51, zup_ne p52, zup_ne p51, zup_ne p52, zup_ne p51, zup_ne p52, zup_ne p51, zup_ne p51, zup_ne p51, zup_ne p51]) (fun k hk => by rw [zup_rd hk, zup_ne (by decide), zup_rd hk, zup_ne (by decide), zup_rd hk, zup_ne (by decide), zup_rd hk, zup_ne (by decide), zup_rd hk, zup_ne (by decide), zup_ne (by decide), zup_ne (by decide), zup_ne (by decide), zup_ne (by decide), zup_ne (by decide), zup_ne (by decide), zup_ne (by decide), zup_ne (by decide), zup_ne (by decide), zup_ne (by decide), zup_ne (by decide)]) ⟨4, by decide, rfl, rfl, fun k h1 h2 => by
          rcases (show k = 0 ∨ k = 1 ∨ k = 2 ∨ k = 3 by omega) with rfl | rfl | rfl | rfl <;> rfl⟩).x
  · rcases (show q = 0 ∨ q = 1 ∨ q = 2 by omega) with rfl | rfl | rfl
    · refine SIM.u (x := ((x * 3) + (nI i))) (m1 := (zup (zup (zup (zup (zup (zup (zup (zup mi 51 1 0) 51 2 2) 51 3 (nI i)) 51 4 v) 52 0 30) 51 1 1) 52 1 10) 51 1 2)) (l1 := ml) (m2 := (zup (zup (zup (zup (zup (zup (zup (zup (zup (zup (zup (zup (zup mi 51 1 0) 51 2 2) 51 3 (nI i)) 51 4 v) 52 0 30) 51 1 1) 52 1 10) 51 1 2) 66 24 0) 81 0 30) 66 24 1) 81 1 10) 66 24 2)) (l2 := ml) (dc := 20) (dm := 20) (by decide) (by decide) ?_ ?_ ?_
      · refine Wp.run 2 (4, [(0, .ref 0), (1, .int (nI i)), (2, .int 0), (3, .int x)], [.ref 51], (zsh ++ vs, mi, ml, (zmr g))) rfl ?_
        refine Wp.call (as := [.ref 51]) (rest := []) rfl rfl rfl rfl rfl (Nat.le_of_ble_eq_true rfl) (Nat.le_of_ble_eq_true rfl) rfl (by decide) (c_clear) ?_
        rintro _ _ ⟨rfl, rfl⟩
        refine Wp.run 3 (12, [(0, .ref 0), (1, .int (nI i)), (2, .int 0), (3, .int x)], [.int (nI i), .ref 1], (zsh ++ vs, (zup mi 51 1 0), ml, (zmr g))) rfl ?_
        refine Wp.call (as := [.ref 1, .int (nI i)]) (rest := []) rfl rfl rfl rfl rfl (Nat.le_of_ble_eq_true rfl) (Nat.le_of_ble_eq_true rfl) rfl (by decide) (c_has_t (mi := (zup mi 51 1 0)) hn h6 hx9) ?_
        rintro _ _ ⟨rfl, rfl⟩
        refine Wp.run 3 (20, [(0, .ref 0), (1, .int (nI i)), (2, .int 0), (3, .int x)], [.int 2, .int 0], (zsh ++ vs, (zup mi 51 1 0), ml, (zmr g))) rfl ?_
        refine Wp.call (as := [.int 0, .int 2]) (rest := []) rfl rfl rfl rfl rfl (Nat.le_of_ble_eq_true rfl) (Nat.le_of_ble_eq_true rfl) rfl (by decide) (c_within_t ha) ?_
        rintro _ _ ⟨rfl, rfl⟩
        refine Wp.run 8 (39, [(0, .ref 0), (1, .int (nI i)), (2, .int 0), (3, .int x)], [.int x, .int 0, .int (nI i), .ref 1, .ref 51], (zsh ++ vs, (zup mi 51 1 0), ml, (zmr g))) rfl ?_
        refine Wp.call (as := [.ref 51, .ref 1, .int (nI i), .int 0, .int x]) (rest := []) rfl rfl rfl rfl rfl (Nat.le_of_ble_eq_true rfl) (Nat.le_of_ble_eq_true rfl) rfl (by decide) (c_begin_2_0 (mi := (zup mi 51 1 0)) (x := x) (v := v) (i := i) hi6 rfl ec ev) ?_
        rintro _ _ ⟨rfl, rfl⟩
        refine Wp.run 0 (42, [(0, .ref 0), (1, .int (nI i)), (2, .int 0), (3, .int x)], [.int ((x * 3) + (nI i))], (zsh ++ vs, (zup (zup (zup (zup (zup (zup (zup (zup mi 51 1 0) 51 2 2) 51 3 (nI i)) 51 4 v) 52 0 30) 51 1 1) 52 1 10) 51 1 2), ml, (zmr g))) rfl ?_
        refine Wp.ret rfl rfl rfl ?_
        exact ⟨rfl, rfl⟩
      · refine Wp.run 5 (7, [(0, .ref 66), (1, .int (nI i)), (2, .int 0), (3, .int x)], [.int (nI i), .ref 66], (zsh ++ vs, (zup (zup (zup (zup (zup (zup (zup (zup (zup mi 51 1 0) 51 2 2) 51 3 (nI i)) 51 4 v) 52 0 30) 51 1 1) 52 1 10) 51 1 2) 66 24 0), ml, (zmr g))) rfl ?_
        refine Wp.call (as := [.ref 66, .int (nI i)]) (rest := []) rfl rfl rfl rfl rfl (Nat.le_of_ble_eq_true rfl) (Nat.le_of_ble_eq_true rfl) rfl (by decide) (m_isOne_t (mi := (zup (zup (zup (zup (zup (zup (zup (zup (zup mi 51 1 0) 51 2 2) 51 3 (nI i)) 51 4 v) 52 0 30) 51 1 1) 52 1 10) 51 1 2) 66 24 0)) hN h6 hx9) ?_
        rintro _ _ ⟨rfl, rfl⟩
        refine Wp.run 4 (16, [(0, .ref 66), (1, .int (nI i)), (2, .int 0), (3, .int x)], [.int 2, .int 0, .int 0], (zsh ++ vs, (zup (zup (zup (zup (zup (zup (zup (zup (zup mi 51 1 0) 51 2 2) 51 3 (nI i)) 51 4 v) 52 0 30) 51 1 1) 52 1 10) 51 1 2) 66 24 0), ml, (zmr g))) rfl ?_
        refine Wp.call (as := [.int 0, .int 0, .int 2]) (rest := []) rfl rfl rfl rfl rfl (Nat.le_of_ble_eq_true rfl) (Nat.le_of_ble_eq_true rfl) rfl (by decide) (m_isIn_t ha) ?_
        rintro _ _ ⟨rfl, rfl⟩
        refine Wp.run 5 (26, [(0, .ref 66), (1, .int (nI i)), (2, .int 0), (3, .int x)], [.int x, .int 0, .int (nI i), .ref 66], (zsh ++ vs, (zup (zup (zup (zup (zup (zup (zup (zup (zup mi 51 1 0) 51 2 2) 51 3 (nI i)) 51 4 v) 52 0 30) 51 1 1) 52 1 10) 51 1 2) 66 24 0), ml, (zmr g))) rfl ?_
        refine Wp.call (as := [.ref 66, .int (nI i), .int 0, .int x]) (rest := []) rfl rfl rfl rfl rfl (Nat.le_of_ble_eq_true rfl) (Nat.le_of_ble_eq_true rfl) rfl (by decide) (m_al_2_2_0_0 (mi := (zup (zup (zup (zup (zup (zup (zup (zup (zup mi 51 1 0) 51 2 2) 51 3 (nI i)) 51 4 v) 52 0 30) 51 1 1) 52 1 10) 51 1 2) 66 24 0)) (x := x) (v := v) (i := i) hi6 rfl es0 hv k79 k80) ?_
        rintro _ _ ⟨rfl, rfl⟩
        refine Wp.run 1 (33, [(0, .ref 66), (1, .int (nI i)), (2, .int 0), (3, .int x)], [.int ((x * 3) + (nI i))], (zsh ++ vs, (zup (zup (zup (zup (zup (zup (zup (zup (zup (zup (zup (zup (zup mi 51 1 0) 51 2 2) 51 3 (nI i)) 51 4 v) 52 0 30) 51 1 1) 52 1 10) 51 1 2) 66 24 0) 81 0 30) 66 24 1) 81 1 10) 66 24 2), ml, (zmr g))) rfl ?_
        refine Wp.ret rfl rfl rfl ?_
        exact ⟨rfl, rfl⟩
      · refine (I.act (fun b p51 p52 p66 p81 => by rw [zup_ne p66, zup_ne p81, zup_ne p66, zup_ne p81, zup_ne p66, zup_ne p51, zup_ne p52, zup_ne p51, zup_ne p52, zup_ne p51, zup_ne p51, zup_ne p51, zup_ne p51]) (fun k hk => by rw [zup_rd hk, zup_ne (by decide), zup_rd hk, zup_ne (by decide), zup_rd hk, zup_ne (by decide), zup_ne (by decide), zup_ne (by decide), zup_ne (by decide), zup_ne (by decide), zup_ne (by decide), zup_ne (by decide), zup_ne (by decide)]) ⟨2, by decide, rfl, rfl, fun k h1 h2 => by
          rcases (show k = 0 ∨ k = 1 by omega) with rfl | rfl <;> rfl⟩).x
    · refine SIM.u (x := ((x * 3) + (nI i)) - v) (m1 := (zup (zup (zup (zup (zup (zup (zup (zup (zup (zup mi 51 1 0) 51 2 2) 51 3 (nI i)) 51 4 v) 52 0 11) 51 1 1) 52 1 30) 51 1 2) 52 2 10) 51 1 3)) (l1 := ml) (m2 := (zup (zup (zup (zup (zup (zup (zup (zup (zup (zup (zup (zup (zup (zup (zup (zup (zup mi 51 1 0) 51 2 2) 51 3 (nI i)) 51 4 v) 52 0 11) 51 1 1) 52 1 30) 51 1 2) 52 2 10) 51 1 3) 66 24 0) 81 0 11) 66 24 1) 81 1 30) 66 24 2) 81 2 10) 66 24 3)) (l2 := ml) (dc := 20) (dm := 20) (by decide) (by decide) ?_ ?_ ?_
      · refine Wp.run 2 (4, [(0, .ref 0), (1, .int (nI i)), (2, .int 1), (3, .int x)], [.ref 51], (zsh ++ vs, mi, ml, (zmr g))) rfl ?_
        refine Wp.call (as := [.ref 51]) (rest := []) rfl rfl rfl rfl rfl (Nat.le_of_ble_eq_true rfl) (Nat.le_of_ble_eq_true rfl) rfl (by decide) (c_clear) ?_
        rintro _ _ ⟨rfl, rfl⟩
        refine Wp.run 3 (12, [(0, .ref 0), (1, .int (nI i)), (2, .int 1), (3, .int x)], [.int (nI i), .ref 1], (zsh ++ vs, (zup mi 51 1 0), ml, (zmr g))) rfl ?_
        refine Wp.call (as := [.ref 1, .int (nI i)]) (rest := []) rfl rfl rfl rfl rfl (Nat.le_of_ble_eq_true rfl) (Nat.le_of_ble_eq_true rfl) rfl (by decide) (c_has_t (mi := (zup mi 51 1 0)) hn h6 hx9) ?_
        rintro _ _ ⟨rfl, rfl⟩
        refine Wp.run 3 (20, [(0, .ref 0), (1, .int (nI i)), (2, .int 1), (3, .int x)], [.int 2, .int 1], (zsh ++ vs, (zup mi 51 1 0), ml, (zmr g))) rfl ?_
        refine Wp.call (as := [.int 1, .int 2]) (rest := []) rfl rfl rfl rfl rfl (Nat.le_of_ble_eq_true rfl) (Nat.le_of_ble_eq_true rfl) rfl (by decide) (c_within_t ha) ?_
        rintro _ _ ⟨rfl, rfl⟩
        refine Wp.run 8 (39, [(0, .ref 0), (1, .int (nI i)), (2, .int 1), (3, .int x)], [.int x, .int 1, .int (nI i), .ref 1, .ref 51], (zsh ++ vs, (zup mi 51 1 0), ml, (zmr g))) rfl ?_
        refine Wp.call (as := [.ref 51, .ref 1, .int (nI i), .int 1, .int x]) (rest := []) rfl rfl rfl rfl rfl (Nat.le_of_ble_eq_true rfl) (Nat.le_of_ble_eq_true rfl) rfl (by decide) (c_begin_2_1 (mi := (zup mi 51 1 0)) (x := x) (v := v) (i := i) hi6 rfl ec ev) ?_
        rintro _ _ ⟨rfl, rfl⟩
        refine Wp.run 0 (42, [(0, .ref 0), (1, .int (nI i)), (2, .int 1), (3, .int x)], [.int (((x * 3) + (nI i)) - v)], (zsh ++ vs, (zup (zup (zup (zup (zup (zup (zup (zup (zup (zup mi 51 1 0) 51 2 2) 51 3 (nI i)) 51 4 v) 52 0 11) 51 1 1) 52 1 30) 51 1 2) 52 2 10) 51 1 3), ml, (zmr g))) rfl ?_
        refine Wp.ret rfl rfl rfl ?_
        exact ⟨rfl, rfl⟩
      · refine Wp.run 5 (7, [(0, .ref 66), (1, .int (nI i)), (2, .int 1), (3, .int x)], [.int (nI i), .ref 66], (zsh ++ vs, (zup (zup (zup (zup (zup (zup (zup (zup (zup (zup (zup mi 51 1 0) 51 2 2) 51 3 (nI i)) 51 4 v) 52 0 11) 51 1 1) 52 1 30) 51 1 2) 52 2 10) 51 1 3) 66 24 0), ml, (zmr g))) rfl ?_
        refine Wp.call (as := [.ref 66, .int (nI i)]) (rest := []) rfl rfl rfl rfl rfl (Nat.le_of_ble_eq_true rfl) (Nat.le_of_ble_eq_true rfl) rfl (by decide) (m_isOne_t (mi := (zup (zup (zup (zup (zup (zup (zup (zup (zup (zup (zup mi 51 1 0) 51 2 2) 51 3 (nI i)) 51 4 v) 52 0 11) 51 1 1) 52 1 30) 51 1 2) 52 2 10) 51 1 3) 66 24 0)) hN h6 hx9) ?_
        rintro _ _ ⟨rfl, rfl⟩
        refine Wp.run 4 (16, [(0, .ref 66), (1, .int (nI i)), (2, .int 1), (3, .int x)], [.int 2, .int 0, .int 1], (zsh ++ vs, (zup (zup (zup (zup (zup (zup (zup (zup (zup (zup (zup mi 51 1 0) 51 2 2) 51 3 (nI i)) 51 4 v) 52 0 11) 51 1 1) 52 1 30) 51 1 2) 52 2 10) 51 1 3) 66 24 0), ml, (zmr g))) rfl ?_
        refine Wp.call (as := [.int 1, .int 0, .int 2]) (rest := []) rfl rfl rfl rfl rfl (Nat.le_of_ble_eq_true rfl) (Nat.le_of_ble_eq_true rfl) rfl (by decide) (m_isIn_t ha) ?_
        rintro _ _ ⟨rfl, rfl⟩
        refine Wp.run 5 (26, [(0, .ref 66), (1, .int (nI i)), (2, .int 1), (3, .int x)], [.int x, .int 1, .int (nI i), .ref 66], (zsh ++ vs, (zup (zup (zup (zup (zup (zup (zup (zup (zup (zup (zup mi 51 1 0) 51 2 2) 51 3 (nI i)) 51 4 v) 52 0 11) 51 1 1) 52 1 30) 51 1 2) 52 2 10) 51 1 3) 66 24 0), ml, (zmr g))) rfl ?_
        refine Wp.call (as := [.ref 66, .int (nI i), .int 1, .int x]) (rest := []) rfl rfl rfl rfl rfl (Nat.le_of_ble_eq_true rfl) (Nat.le_of_ble_eq_true rfl) rfl (by decide) (m_al_2_2_1_0 (mi := (zup (zup (zup (zup (zup (zup (zup (zup (zup (zup (zup mi 51 1 0) 51 2 2) 51 3 (nI i)) 51 4 v) 52 0 11) 51 1 1) 52 1 30) 51 1 2) 52 2 10) 51 1 3) 66 24 0)) (x := x) (v := v) (i := i) hi6 rfl es0 hv k79 k80) ?_
        rintro _ _ ⟨rfl, rfl⟩
        refine Wp.run 1 (33, [(0, .ref 66), (1, .int (nI i)), (2, .int 1), (3, .int x)], [.int (((x * 3) + (nI i)) - v)], (zsh ++ vs, (zup (zup (zup (zup (zup (zup (zup (zup (zup (zup (zup (zup (zup (zup (zup (zup (zup mi 51 1 0) 51 2 2) 51 3 (nI i)) 51 4 v) 52 0 11) 51 1 1) 52 1 30) 51 1 2) 52 2 10) 51 1 3) 66 24 0) 81 0 11) 66 24 1) 81 1 30) 66 24 2) 81 2 10) 66 24 3), ml, (zmr g))) rfl ?_
        refine Wp.ret rfl rfl rfl ?_
        exact ⟨rfl, rfl⟩
      · refine (I.act (fun b p51 p52 p66 p81 => by rw [zup_ne p66, zup_ne p81, zup_ne p66, zup_ne p81, zup_ne p66, zup_ne p81, zup_ne p66, zup_ne p51, zup_ne p52, zup_ne p51, zup_ne p52, zup_ne p51, zup_ne p52, zup_ne p51, zup_ne p51, zup_ne p51, zup_ne p51]) (fun k hk => by rw [zup_rd hk, zup_ne (by decide), zup_rd hk, zup_ne (by decide), zup_rd hk, zup_ne (by decide), zup_rd hk, zup_ne (by decide), zup_ne (by decide), zup_ne (by decide), zup_ne (by decide), zup_ne (by decide), zup_ne (by decide), zup_ne (by decide), zup_ne (by decide), zup_ne (by decide), zup_ne (by decide)]) ⟨3, by decide, rfl, rfl, fun k h1 h2 => by
          rcases (show k = 0 ∨ k = 1 ∨ k = 2 by omega) with rfl | rfl | rfl <;> rfl⟩).x
    · refine SIM.u (x := (((x * 3) + (nI i)) - v) * 2) (m1 := (zup (zup (zup (zup (zup (zup (zup (zup (zup (zup (zup (zup mi 51 1 0) 51 2 2) 51 3 (nI i)) 51 4 v) 52 0 12) 51 1 1) 52 1 11) 51 1 2) 52 2 30) 51 1 3) 52 3 10) 51 1 4)) (l1 := ml) (m2 := (zup (zup (zup (zup (zup (zup (zup (zup (zup (zup (zup (zup (zup (zup (zup (zup (zup (zup (zup (zup (zup mi 51 1 0) 51 2 2) 51 3 (nI i)) 51 4 v) 52 0 12) 51 1 1) 52 1 11) 51 1 2) 52 2 30) 51 1 3) 52 3 10) 51 1 4) 66 24 0) 81 0 12) 66 24 1) 81 1 11) 66 24 2) 81 2 30) 66 24 3) 81 3 10) 66 24 4)) (l2 := ml) (dc := 20) (dm := 20) (by decide) (by decide) ?_ ?_ ?_
      · refine Wp.run 2 (4, [(0, .ref 0), (1, .int (nI i)), (2, .int 2), (3, .int x)], [.ref 51], (zsh ++ vs, mi, ml, (zmr g))) rfl ?_
        refine Wp.call (as := [.ref 51]) (rest := []) rfl rfl rfl rfl rfl (Nat.le_of_ble_eq_true rfl) (Nat.le_of_ble_eq_true rfl) rfl (by decide) (c_clear) ?_
        rintro _ _ ⟨rfl, rfl⟩
        refine Wp.run 3 (12, [(0, .ref 0), (1, .int (nI i)), (2, .int 2), (3, .int x)], [.int (nI i), .ref 1], (zsh ++ vs, (zup mi 51 1 0), ml, (zmr g))) rfl ?_
        refine Wp.call (as := [.ref 1, .int (nI i)]) (rest := []) rfl rfl rfl rfl rfl (Nat.le_of_ble_eq_true rfl) (Nat.le_of_ble_eq_true rfl) rfl (by decide) (c_has_t (mi := (zup mi 51 1 0)) hn h6 hx9) ?_
        rintro _ _ ⟨rfl, rfl⟩
        refine Wp.run 3 (20, [(0, .ref 0), (1, .int (nI i)), (2, .int 2), (3, .int x)], [.int 2, .int 2], (zsh ++ vs, (zup mi 51 1 0), ml, (zmr g))) rfl ?_
        refine Wp.call (as := [.int 2, .int 2]) (rest := []) rfl rfl rfl rfl rfl (Nat.le_of_ble_eq_true rfl) (Nat.le_of_ble_eq_true rfl) rfl (by decide) (c_within_t ha) ?_
        rintro _ _ ⟨rfl, rfl⟩
        refine Wp.run 8 (39, [(0, .ref 0), (1, .int (nI i)), (2, .int 2), (3, .int x)], [.int x, .int 2, .int (nI i), .ref 1, .ref 51], (zsh ++ vs, (zup mi 51 1 0), ml, (zmr g))) rfl ?_
        refine Wp.call (as := [.ref 51, .ref 1, .int (nI i), .int 2, .int x]) (rest := []) rfl rfl rfl rfl rfl (Nat.le_of_ble_eq_true rfl) (Nat.le_of_ble_eq_true rfl) rfl (by decide) (c_begin_2_2 (mi := (zup mi 51 1 0)) (x := x) (v := v) (i := i) hi6 rfl ec ev) ?_
        rintro _ _ ⟨rfl, rfl⟩
        refine Wp.run 0 (42, [(0, .ref 0), (1, .int (nI i)), (2, .int 2), (3, .int x)], [.int ((((x * 3) + (nI i)) - v) * 2)], (zsh ++ vs, (zup (zup (zup (zup (zup (zup (zup (zup (zup (zup (zup (zup mi 51 1 0) 51 2 2) 51 3 (nI i)) 51 4 v) 52 0 12) 51 1 1) 52 1 11) 51 1 2) 52 2 30) 51 1 3) 52 3 10) 51 1 4), ml, (zmr g))) rfl ?_
        refine Wp.ret rfl rfl rfl ?_
        exact ⟨rfl, rfl⟩
      · refine Wp.run 5 (7, [(0, .ref 66), (1, .int (nI i)), (2, .int 2), (3, .int x)], [.int (nI i), .ref 66], (zsh ++ vs, (zup (zup (zup (zup (zup (zup (zup (zup (zup (zup (zup (zup (zup mi 51 1 0) 51 2 2) 51 3 (nI i)) 51 4 v) 52 0 12) 51 1 1) 52 1 11) 51 1 2) 52 2 30) 51 1 3) 52 3 10) 51 1 4) 66 24 0), ml, (zmr g))) rfl ?_
        refine Wp.call (as := [.ref 66, .int (nI i)]) (rest := []) rfl rfl rfl rfl rfl (Nat.le_of_ble_eq_true rfl) (Nat.le_of_ble_eq_true rfl) rfl (by decide) (m_isOne_t (mi := (zup (zup (zup (zup (zup (zup (zup (zup (zup (zup (zup (zup (zup mi 51 1 0) 51 2 2) 51 3 (nI i)) 51 4 v) 52 0 12) 51 1 1) 52 1 11) 51 1 2) 52 2 30) 51 1 3) 52 3 10) 51 1 4) 66 24 0)) hN h6 hx9) ?_
        rintro _ _ ⟨rfl, rfl⟩
        refine Wp.run 4 (16, [(0, .ref 66), (1, .int (nI i)), (2, .int 2), (3, .int x)], [.int 2, .int 0, .int 2], (zsh ++ vs, (zup (zup (zup (zup (zup (zup (zup (zup (zup (zup (zup (zup (zup mi 51 1 0) 51 2 2) 51 3 (nI i)) 51 4 v) 52 0 12) 51 1 1) 52 1 11) 51 1 2) 52 2 30) 51 1 3) 52 3 10) 51 1 4) 66 24 0), ml, (zmr g))) rfl ?_
        refine Wp.call (as := [.int 2, .int 0, .int 2]) (rest := []) rfl rfl rfl rfl rfl (Nat.le_of_ble_eq_true rfl) (Nat.le_of_ble_eq_true rfl) rfl (by decide) (m_isIn_t ha) ?_
        rintro _ _ ⟨rfl, rfl⟩
        refine Wp.run 5 (26, [(0, .ref 66), (1, .int (nI i)), (2, .int 2), (3, .int x)], [.int x, .int 2, .int (nI i), .ref 66], (zsh ++ vs, (zup (zup (zup (zup (zup (zup (zup (zup (zup (zup (zup (zup (zup mi 51 1 0) 51 2 2) 51 3 (nI i)) 51 4 v) 52 0 12) 51 1 1) 52 1 11) 51 1 2) 52 2 30) 51 1 3) 52 3 10) 51 1 4) 66 24 0), ml, (zmr g))) rfl ?_
        refine Wp.call (as := [.ref 66, .int (nI i), .int 2, .int x]) (rest := []) rfl rfl rfl rfl rfl (Nat.le_of_ble_eq_true rfl) (Nat.le_of_ble_eq_true rfl) rfl (by decide) (m_al_2_2_2_0 (mi := (zup (zup (zup (zup (zup (zup (zup (zup (zup (zup (zup (zup (zup mi 51 1 0) 51 2 2) 51 3 (nI i)) 51 4 v) 52 0 12) 51 1 1) 52 1 11) 51 1 2) 52 2 30) 51 1 3) 52 3 10) 51 1 4) 66 24 0)) (x := x) (v := v) (i := i) hi6 rfl es0 hv k79 k80) ?_
        rintro _ _ ⟨rfl, rfl⟩
        refine Wp.run 1 (33, [(0, .ref 66), (1, .int (nI i)), (2, .int 2), (3, .int x)], [.int ((((x * 3) + (nI i)) - v) * 2)], (zsh ++ vs, (zup (zup (zup (zup (zup (zup (zup (zup (zup (zup (zup (zup (zup (zup (zup (zup (zup (zup (zup (zup (zup mi 51 1 0) 51 2 2) 51 3 (nI i)) 51 4 v) 52 0 12) 51 1 1) 52 1 11) 51 1 2) 52 2 30) 51 1 3) 52 3 10) 51 1 4) 66 24 0) 81 0 12) 66 24 1) 81 1 11) 66 24 2) 81 2 30) 66 24 3) 81 3 10) 66 24 4), ml, (zmr g))) rfl ?_
        refine Wp.ret rfl rfl rfl ?_
        exact ⟨rfl, rfl⟩
      · refine (I.act (fun b p51 p52 p66 p81 => by rw [zup_ne p66, zup_ne p81, zup_ne p66, zup_ne p81, zup_ne p66, zup_ne p81, zup_ne p66, zup_ne p81, zup_ne p66, zup_ne p51, zup_ne p52, zup_ne p51, zup_ne p52, zup_ne p51, zup_ne p52, zup_ne p51, zup_ne p52, zup_ne p51, zup_ne p51, zup_ne p51, zup_ne p51]) (fun k hk => by rw [zup_rd hk, zup_ne (by decide), zup_rd hk, zup_ne (by decide), zup_rd hk, zup_ne (by decide), zup_rd hk, zup_ne (by decide), zup_rd hk, zup_ne (by decide), zup_ne (by decide), zup_ne (by decide), zup_ne (by decide), zup_ne (by decide), zup_ne (by decide), zup_ne (by decide), zup_ne (by decide), zup_ne (by decide), zup_ne (by decide), zup_ne (by decide), zup_ne (by decide)]) ⟨4, by decide, rfl, rfl, fun k h1 h2 => by
          rcases (show k = 0 ∨ k = 1 ∨ k = 2 ∨ k = 3 by omega) with rfl | rfl | rfl | rfl <;> rfl⟩).x
  · rcases (show q = 0 ∨ q = 1 ∨ q = 2 by omega) with rfl | rfl | rfl
    · refine SIM.u (x := x + (nI i)) (m1 := (zup (zup (zup (zup (zup (zup mi 51 1 0) 51 2 3) 51 3 (nI i)) 51 4 v) 52 0 10) 51 1 1)) (l1 := ml) (m2 := (zup (zup (zup (zup (zup (zup (zup (zup (zup mi 51 1 0) 51 2 3) 51 3 (nI i)) 51 4 v) 52 0 10) 51 1 1) 66 24 0) 81 0 10) 66 24 1)) (l2 := ml) (dc := 20) (dm := 20) (by decide) (by decide) ?_ ?_ ?_
      · refine Wp.run 2 (4, [(0, .ref 0), (1, .int (nI i)), (2, .int 0), (3, .int x)], [.ref 51], (zsh ++ vs, mi, ml, (zmr g))) rfl ?_
        refine Wp.call (as := [.ref 51]) (rest := []) rfl rfl rfl rfl rfl (Nat.le_of_ble_eq_true rfl) (Nat.le_of_ble_eq_true rfl) rfl (by decide) (c_clear) ?_
        rintro _ _ ⟨rfl, rfl⟩
        refine Wp.run 3 (12, [(0, .ref 0), (1, .int (nI i)), (2, .int 0), (3, .int x)], [.int (nI i), .ref 1], (zsh ++ vs, (zup mi 51 1 0), ml, (zmr g))) rfl ?_
        refine Wp.call (as := [.ref 1, .int (nI i)]) (rest := []) rfl rfl rfl rfl rfl (Nat.le_of_ble_eq_true rfl) (Nat.le_of_ble_eq_true rfl) rfl (by decide) (c_has_t (mi := (zup mi 51 1 0)) hn h6 hx9) ?_
        rintro _ _ ⟨rfl, rfl⟩
        refine Wp.run 3 (20, [(0, .ref 0), (1, .int (nI i)), (2, .int 0), (3, .int x)], [.int 2, .int 0], (zsh ++ vs, (zup mi 51 1 0), ml, (zmr g))) rfl ?_
        refine Wp.call (as := [.int 0, .int 2]) (rest := []) rfl rfl rfl rfl rfl (Nat.le_of_ble_eq_true rfl) (Nat.le_of_ble_eq_true rfl) rfl (by decide) (c_within_t ha) ?_
        rintro _ _ ⟨rfl, rfl⟩
        refine Wp.run 8 (39, [(0, .ref 0), (1, .int (nI i)), (2, .int 0), (3, .int x)], [.int x, .int 0, .int (nI i), .ref 1, .ref 51], (zsh ++ vs, (zup mi 51 1 0), ml, (zmr g))) rfl ?_
        refine Wp.call (as := [.ref 51, .ref 1, .int (nI i), .int 0, .int x]) (rest := []) rfl rfl rfl rfl rfl (Nat.le_of_ble_eq_true rfl) (Nat.le_of_ble_eq_true rfl) rfl (by decide) (c_begin_3_0 (mi := (zup mi 51 1 0)) (x := x) (v := v) (i := i) hi6 rfl ec ev) ?_
        rintro _ _ ⟨rfl, rfl⟩
        refine Wp.run 0 (42, [(0, .ref 0), (1, .int (nI i)), (2, .int 0), (3, .int x)], [.int (x + (nI i))], (zsh ++ vs, (zup (zup (zup (zup (zup (zup mi 51 1 0) 51 2 3) 51 3 (nI i)) 51 4 v) 52 0 10) 51 1 1), ml, (zmr g))) rfl ?_
        refine Wp.ret rfl rfl rfl ?_
        exact ⟨rfl, rfl⟩
      · refine Wp.run 5 (7, [(0, .ref 66), (1, .int (nI i)), (2, .int 0), (3, .int x)], [.int (nI i), .ref 66], (zsh ++ vs, (zup (zup (zup (zup (zup (zup (zup mi 51 1 0) 51 2 3) 51 3 (nI i)) 51 4 v) 52 0 10) 51 1 1) 66 24 0), ml, (zmr g))) rfl ?_
        refine Wp.call (as := [.ref 66, .int (nI i)]) (rest := []) rfl rfl rfl rfl rfl (Nat.le_of_ble_eq_true rfl) (Nat.le_of_ble_eq_true rfl) rfl (by decide) (m_isOne_t (mi := (zup (zup (zup (zup (zup (zup (zup mi 51 1 0) 51 2 3) 51 3 (nI i)) 51 4 v) 52 0 10) 51 1 1) 66 24 0)) hN h6 hx9) ?_
        rintro _ _ ⟨rfl, rfl⟩
        refine Wp.run 4 (16, [(0, .ref 66), (1, .int (nI i)), (2, .int 0), (3, .int x)], [.int 2, .int 0, .int 0], (zsh ++ vs, (zup (zup (zup (zup (zup (zup (zup mi 51 1 0) 51 2 3) 51 3 (nI i)) 51 4 v) 52 0 10) 51 1 1) 66 24 0), ml, (zmr g))) rfl ?_
        refine Wp.call (as := [.int 0, .int 0, .int 2]) (rest := []) rfl rfl rfl rfl rfl (Nat.le_of_ble_eq_true rfl) (Nat.le_of_ble_eq_true rfl) rfl (by decide) (m_isIn_t ha) ?_
        rintro _ _ ⟨rfl, rfl⟩
        refine Wp.run 5 (26, [(0, .ref 66), (1, .int (nI i)), (2, .int 0), (3, .int x)], [.int x, .int 0, .int (nI i), .ref 66], (zsh ++ vs, (zup (zup (zup (zup (zup (zup (zup mi 51 1 0) 51 2 3) 51 3 (nI i)) 51 4 v) 52 0 10) 51 1 1) 66 24 0), ml, (zmr g))) rfl ?_
        refine Wp.call (as := [.ref 66, .int (nI i), .int 0, .int x]) (rest := []) rfl rfl rfl rfl rfl (Nat.le_of_ble_eq_true rfl) (Nat.le_of_ble_eq_true rfl) rfl (by decide) (m_al_3_3_0_0 (mi := (zup (zup (zup (zup (zup (zup (zup mi 51 1 0) 51 2 3) 51 3 (nI i)) 51 4 v) 52 0 10) 51 1 1) 66 24 0)) (x := x) (v := v) (i := i) hi6 rfl es0 hv k79 k80) ?_
        rintro _ _ ⟨rfl, rfl⟩
        refine Wp.run 1 (33, [(0, .ref 66), (1, .int (nI i)), (2, .int 0), (3, .int x)], [.int (x + (nI i))], (zsh ++ vs, (zup (zup (zup (zup (zup (zup (zup (zup (zup mi 51 1 0) 51 2 3) 51 3 (nI i)) 51 4 v) 52 0 10) 51 1 1) 66 24 0) 81 0 10) 66 24 1), ml, (zmr g))) rfl ?_
        refine Wp.ret rfl rfl rfl ?_
        exact ⟨rfl, rfl⟩
      · refine (I.act (fun b p51 p52 p66 p81 => by rw [zup_ne p66, zup_ne p81, zup_ne p66, zup_ne p51, zup_ne p52, zup_ne p51, zup_ne p51, zup_ne p51, zup_ne p51]) (fun k hk => by rw [zup_rd hk, zup_ne (by decide), zup_rd hk, zup_ne (by decide), zup_ne (by decide), zup_ne (by decide), zup_ne (by decide), zup_ne (by decide), zup_ne (by decide)]) ⟨1, by decide, rfl, rfl, fun k h1 h2 => by
          rcases (show k = 0 by omega) with rfl <;> rfl⟩).x
    · refine SIM.u (x := (x + (nI i)) - v) (m1 := (zup (zup (zup (zup (zup (zup (zup (zup mi 51 1 0) 51 2 3) 51 3 (nI i)) 51 4 v) 52 0 11) 51 1 1) 52 1 10) 51 1 2)) (l1 := ml) (m2 := (zup (zup (zup (zup (zup (zup (zup (zup (zup (zup (zup (zup (zup mi 51 1 0) 51 2 3) 51 3 (nI i)) 51 4 v) 52 0 11) 51 1 1) 52 1 10) 51 1 2) 66 24 0) 81 0 11) 66 24 1) 81 1 10) 66 24 2)) (l2 := ml) (dc := 20) (dm := 20) (by decide) (by decide) ?_ ?_ ?_
      · refine Wp.run 2 (4, [(0, .ref 0), (1, .int (nI i)), (2, .int 1), (3, .int x)], [.ref 51], (zsh ++ vs, mi, ml, (zmr g))) rfl ?_
        refine Wp.call (as := [.ref 51]) (rest := []) rfl rfl rfl rfl rfl (Nat.le_of_ble_eq_true rfl) (Nat.le_of_ble_eq_true rfl) rfl (by decide) (c_clear) ?_
        rintro _ _ ⟨rfl, rfl⟩
        refine Wp.run 3 (12, [(0, .ref 0), (1, .int (nI i)), (2, .int 1), (3, .int x)], [.int (nI i), .ref 1], (zsh ++ vs, (zup mi 51 1 0), ml, (zmr g))) rfl ?_
        refine Wp.call (as := [.ref 1, .int (nI i)]) (rest := []) rfl rfl rfl rfl rfl (Nat.le_of_ble_eq_true rfl) (Nat.le_of_ble_eq_true rfl) rfl (by decide) (c_has_t (mi := (zup mi 51 1 0)) hn h6 hx9) ?_
        rintro _ _ ⟨rfl, rfl⟩
        refine Wp.run 3 (20, [(0, .ref 0), (1, .int (nI i)), (2, .int 1), (3, .int x)], [.int 2, .int 1], (zsh ++ vs, (zup mi 51 1 0), ml, (zmr g))) rfl ?_
        refine Wp.call (as := [.int 1, .int 2]) (rest := []) rfl rfl rfl rfl rfl (Nat.le_of_ble_eq_true rfl) (Nat.le_of_ble_eq_true rfl) rfl (by decide) (c_within_t ha) ?_
        rintro _ _ ⟨rfl, rfl⟩
        refine Wp.run 8 (39, [(0, .ref 0), (1, .int (nI i)), (2, .int 1), (3, .int x)], [.int x, .int 1, .int (nI i), .ref 1, .ref 51], (zsh ++ vs, (zup mi 51 1 0), ml, (zmr g))) rfl ?_
        refine Wp.call (as := [.ref 51, .ref 1, .int (nI i), .int 1, .int x]) (rest := []) rfl rfl rfl rfl rfl (Nat.le_of_ble_eq_true rfl) (Nat.le_of_ble_eq_true rfl) rfl (by decide) (c_begin_3_1 (mi := (zup mi 51 1 0)) (x := x) (v := v) (i := i) hi6 rfl ec ev) ?_
        rintro _ _ ⟨rfl, rfl⟩
        refine Wp.run 0 (42, [(0, .ref 0), (1, .int (nI i)), (2, .int 1), (3, .int x)], [.int ((x + (nI i)) - v)], (zsh ++ vs, (zup (zup (zup (zup (zup (zup (zup (zup mi 51 1 0) 51 2 3) 51 3 (nI i)) 51 4 v) 52 0 11) 51 1 1) 52 1 10) 51 1 2), ml, (zmr g))) rfl ?_
        refine Wp.ret rfl rfl rfl ?_
        exact ⟨rfl, rfl⟩
      · refine Wp.run 5 (7, [(0, .ref 66), (1, .int (nI i)), (2, .int 1), (3, .int x)], [.int (nI i), .ref 66], (zsh ++ vs, (zup (zup (zup (zup (zup (zup (zup (zup (zup mi 51 1 0) 51 2 3) 51 3 (nI i)) 51 4 v) 52 0 11) 51 1 1) 52 1 10) 51 1 2) 66 24 0), ml, (zmr g))) rfl ?_
        refine Wp.call (as := [.ref 66, .int (nI i)]) (rest := []) rfl rfl rfl rfl rfl (Nat.le_of_ble_eq_true rfl) (Nat.le_of_ble_eq_true rfl) rfl (by decide) (m_isOne_t (mi := (zup (zup (zup (zup (zup (zup (zup (zup (zup mi 51 1 0) 51 2 3) 51 3 (nI i)) 51 4 v) 52 0 11) 51 1 1) 52 1 10) 51 1 2) 66 24 0)) hN h6 hx9) ?_
        rintro _ _ ⟨rfl, rfl⟩
        refine Wp.run 4 (16, [(0, .ref 66), (1, .int (nI i)), (2, .int 1), (3, .int x)], [.int 2, .int 0, .int 1], (zsh ++ vs, (zup (zup (zup (zup (zup (zup (zup (zup (zup mi 51 1 0) 51 2 3) 51 3 (nI i)) 51 4 v) 52 0 11) 51 1 1) 52 1 10) 51 1 2) 66 24 0), ml, (zmr g))) rfl ?_
        refine Wp.call (as := [.int 1, .int 0, .int 2]) (rest := []) rfl rfl rfl rfl rfl (Nat.le_of_ble_eq_true rfl) (Nat.le_of_ble_eq_true rfl) rfl (by decide) (m_isIn_t ha) ?_
        rintro _ _ ⟨rfl, rfl⟩
        refine Wp.run 5 (26, [(0, .ref 66), (1, .int (nI i)), (2, .int 1), (3, .int x)], [.int x, .int 1, .int (nI i), .ref 66], (zsh ++ vs, (zup (zup (zup (zup (zup (zup (zup (zup (zup mi 51 1 0) 51 2 3) 51 3 (nI i)) 51 4 v) 52 0 11) 51 1 1) 52 1 10) 51 1 2) 66 24 0), ml, (zmr g))) rfl ?_
        refine Wp.call (as := [.ref 66, .int (nI i), .int 1, .int x]) (rest := []) rfl rfl rfl rfl rfl (Nat.le_of_ble_eq_true rfl) (Nat.le_of_ble_eq_true rfl) rfl (by decide) (m_al_3_3_1_0 (mi := (zup (zup (zup (zup (zup (zup (zup (zup (zup mi 51 1 0) 51 2 3) 51 3 (nI i)) 51 4 v) 52 0 11) 51 1 1) 52 1 10) 51 1 2) 66 24 0)) (x := x) (v := v) (i := i) hi6 rfl es0 hv k79 k80) ?_
        rintro _ _ ⟨rfl, rfl⟩
        refine Wp.run 1 (33, [(0, .ref 66), (1, .int (nI i)), (2, .int 1), (3, .int x)], [.int ((x + (nI i)) - v)], (zsh ++ vs, (zup (zup (zup (zup (zup (zup (zup (zup (zup (zup (zup (zup (zup mi 51 1 0) 51 2 3) 51 3 (nI i)) 51 4 v) 52 0 11) 51 1 1) 52 1 10) 51 1 2) 66 24 0) 81 0 11) 66 24 1) 81 1 10) 66 24 2), ml, (zmr g))) rfl ?_
        refine Wp.ret rfl rfl rfl ?_
        exact ⟨rfl, rfl⟩
      · refine (I.act (fun b p51 p52 p66 p81 => by rw [zup_ne p66, zup_ne p81, zup_ne p66, zup_ne p81, zup_ne p66, zup_ne p51, zup_ne p52, zup_ne p51, zup_ne p52, zup_ne p51, zup_ne p51, zup_ne p51, zup_ne p51]) (fun k hk => by rw [zup_rd hk, zup_ne (by decide), zup_rd hk, zup_ne (by decide), zup_rd hk, zup_ne (by decide), zup_ne (by decide), zup_ne (by decide), zup_ne (by decide), zup_ne (by decide), zup_ne (by decide), zup_ne (by decide), zup_ne (by decide)]) ⟨2, by decide, rfl, rfl, fun k h1 h2 => by
          rcases (show k = 0 ∨ k = 1 by omega) with rfl | rfl <;> rfl⟩).x
    · refine SIM.u (x := (((x + (nI i)) - v) * 2) + ((1 + (nI i)) - v)) (m1 := (zup (zup (zup (zup (zup (zup (zup (zup (zup (zup (zup (zup (zup (zup (zup (zup mi 51 1 0) 51 2 3) 51 3 (nI i)) 51 4 v) 52 0 40) 51 1 1) 52 1 12) 51 1 2) 52 2 11) 51 1 3) 52 3 10) 51 1 4) 52 4 11) 51 1 5) 52 5 10) 51 1 6)) (l1 := ml) (m2 := (zup (zup (zup (zup (zup (zup (zup (zup (zup (zup (zup (zup (zup (zup (zup (zup (zup (zup (zup (zup (zup (zup (zup (zup (zup (zup (zup (zup (zup mi 51 1 0) 51 2 3) 51 3 (nI i)) 51 4 v) 52 0 40) 51 1 1) 52 1 12) 51 1 2) 52 2 11) 51 1 3) 52 3 10) 51 1 4) 52 4 11) 51 1 5) 52 5 10) 51 1 6) 66 24 0) 81 0 40) 66 24 1) 81 1 12) 66 24 2) 81 2 11) 66 24 3) 81 3 10) 66 24 4) 81 4 11) 66 24 5) 81 5 10) 66 24 6)) (l2 := ml) (dc := 20) (dm := 20) (by decide) (by decide) ?_ ?_ ?_
      · refine Wp.run 2 (4, [(0, .ref 0), (1, .int (nI i)), (2, .int 2), (3, .int x)], [.ref 51], (zsh ++ vs, mi, ml, (zmr g))) rfl ?_
        refine Wp.call (as := [.ref 51]) (rest := []) rfl rfl rfl rfl rfl (Nat.le_of_ble_eq_true rfl) (Nat.le_of_ble_eq_true rfl) rfl (by decide) (c_clear) ?_
        rintro _ _ ⟨rfl, rfl⟩
        refine Wp.run 3 (12, [(0, .ref 0), (1, .int (nI i)), (2, .int 2), (3, .int x)], [.int (nI i), .ref 1], (zsh ++ vs, (zup mi 51 1 0), ml, (zmr g))) rfl ?_
        refine Wp.call (as := [.ref 1, .int (nI i)]) (rest := []) rfl rfl rfl rfl rfl (Nat.le_of_ble_eq_true rfl) (Nat.le_of_ble_eq_true rfl) rfl (by decide) (c_has_t (mi := (zup mi 51 1 0)) hn h6 hx9) ?_
        rintro _ _ ⟨rfl, rfl⟩
        refine Wp.run 3 (20, [(0, .ref 0), (1, .int (nI i)), (2, .int 2), (3, .int x)], [.int 2, .int 2], (zsh ++ vs, (zup mi 51 1 0), ml, (zmr g))) rfl ?_
        refine Wp.call (as := [.int 2, .int 2]) (rest := []) rfl rfl rfl rfl rfl (Nat.le_of_ble_eq_true rfl) (Nat.le_of_ble_eq_true rfl) rfl (by decide) (c_within_t ha) ?_
        rintro _ _ ⟨rfl, rfl⟩
        refine Wp.run 8 (39, [(0, .ref 0), (1, .int (nI i)), (2, .int 2), (3, .int x)], [.int x, .int 2, .int (nI i), .ref 1, .ref 51], (zsh ++ vs, (zup mi 51 1 0), ml, (zmr g))) rfl ?_
        refine Wp.call (as := [.ref 51, .ref 1, .int (nI i), .int 2, .int x]) (rest := []) rfl rfl rfl rfl rfl (Nat.le_of_ble_eq_true rfl) (Nat.le_of_ble_eq_true rfl) rfl (by decide) (c_begin_3_2 (mi := (zup mi 51 1 0)) (x := x) (v := v) (i := i) hi6 rfl ec ev) ?_
        rintro _ _ ⟨rfl, rfl⟩
        refine Wp.run 0 (42, [(0, .ref 0), (1, .int (nI i)), (2, .int 2), (3, .int x)], [.int ((((x + (nI i)) - v) * 2) + ((1 + (nI i)) - v))], (zsh ++ vs, (zup (zup (zup (zup (zup (zup (zup (zup (zup (zup (zup (zup (zup (zup (zup (zup mi 51 1 0) 51 2 3) 51 3 (nI i)) 51 4 v) 52 0 40) 51 1 1) 52 1 12) 51 1 2) 52 2 11) 51 1 3) 52 3 10) 51 1 4) 52 4 11) 51 1 5) 52 5 10) 51 1 6), ml, (zmr g))) rfl ?_
        refine Wp.ret rfl rfl rfl ?_
        exact ⟨rfl, rfl⟩
      · refine Wp.run 5 (7, [(0, .ref 66), (1, .int (nI i)), (2, .int 2), (3, .int x)], [.int (nI i), .ref 66], (zsh ++ vs, (zup (zup (zup (zup (zup (zup (zup (zup (zup (zup (zup (zup (zup (zup (zup (zup (zup mi 51 1 0) 51 2 3) 51 3 (nI i)) 51 4 v) 52 0 40) 51 1 1) 52 1 12) 51 1 2) 52 2 11) 51 1 3) 52 3 10) 51 1 4) 52 4 11) 51 1 5) 52 5 10) 51 1 6) 66 24 0), ml, (zmr g))) rfl ?_
        refine Wp.call (as := [.ref 66, .int (nI i)]) (rest := []) rfl rfl rfl rfl rfl (Nat.le_of_ble_eq_true rfl) (Nat.le_of_ble_eq_true rfl) rfl (by decide) (m_isOne_t (mi := (zup (zup (zup (zup (zup (zup (zup (zup (zup (zup (zup (zup (zup (zup (zup (zup (zup mi 51 1 0) 51 2 3) 51 3 (nI i)) 51 4 v) 52 0 40) 51 1 1) 52 1 12) 51 1 2) 52 2 11) 51 1 3) 52 3 10) 51 1 4) 52 4 11) 51 1 5) 52 5 10) 51 1 6) 66 24 0)) hN h6 hx9) ?_
        rintro _ _ ⟨rfl, rfl⟩
        refine Wp.run 4 (16, [(0, .ref 66), (1, .int (nI i)), (2, .int 2), (3, .int x)], [.int 2, .int 0, .int 2], (zsh ++ vs, (zup (zup (zup (zup (zup (zup (zup (zup (zup (zup (zup (zup (zup (zup (zup (zup (zup mi 51 1 0) 51 2 3) 51 3 (nI i)) 51 4 v) 52 0 40) 51 1 1) 52 1 12) 51 1 2) 52 2 11) 51 1 3) 52 3 10) 51 1 4) 52 4 11) 51 1 5) 52 5 10) 51 1 6) 66 24 0), ml, (zmr g))) rfl ?_
        refine Wp.call (as := [.int 2, .int 0, .int 2]) (rest := []) rfl rfl rfl rfl rfl (Nat.le_of_ble_eq_true rfl) (Nat.le_of_ble_eq_true rfl) rfl (by decide) (m_isIn_t ha) ?_
        rintro _ _ ⟨rfl, rfl⟩
        refine Wp.run 5 (26, [(0, .ref 66), (1, .int (nI i)), (2, .int 2), (3, .int x)], [.int x, .int 2, .int (nI i), .ref 66], (zsh ++ vs, (zup (zup (zup (zup (zup (zup (zup (zup (zup (zup (zup (zup (zup (zup (zup (zup (zup mi 51 1 0) 51 2 3) 51 3 (nI i)) 51 4 v) 52 0 40) 51 1 1) 52 1 12) 51 1 2) 52 2 11) 51 1 3) 52 3 10) 51 1 4) 52 4 11) 51 1 5) 52 5 10) 51 1 6) 66 24 0), ml, (zmr g))) rfl ?_
        refine Wp.call (as := [.ref 66, .int (nI i), .int 2, .int x]) (rest := []) rfl rfl rfl rfl rfl (Nat.le_of_ble_eq_true rfl) (Nat.le_of_ble_eq_true rfl) rfl (by decide) (m_al_3_3_2_0 (mi := (zup (zup (zup (zup (zup (zup (zup (zup (zup (zup (zup (zup (zup (zup (zup (zup (zup mi 51 1 0) 51 2 3) 51 3 (nI i)) 51 4 v) 52 0 40) 51 1 1) 52 1 12) 51 1 2) 52 2 11) 51 1 3) 52 3 10) 51 1 4) 52 4 11) 51 1 5) 52 5 10) 51 1 6) 66 24 0)) (x := x) (v := v) (i := i) hi6 rfl es0 hv k79 k80) ?_
        rintro _ _ ⟨rfl, rfl⟩
        refine Wp.run 1 (33, [(0, .ref 66), (1, .int (nI i)), (2, .int 2), (3, .int x)], [.int ((((x + (nI i)) - v) * 2) + ((1 + (nI i)) - v))], (zsh ++ vs, (zup (zup (zup (zup (zup (zup (zup (zup (zup (zup (zup (zup (zup (zup (zup (zup (zup (zup (zup (zup (zup (zup (zup (zup (zup (zup (zup (zup (zup mi 51 1 0) 51 2 3) 51 3 (nI i)) 51 4 v) 52 0 40) 51 1 1) 52 1 12) 51 1 2) 52 2 11) 51 1 3) 52 3 10) 51 1 4) 52 4 11) 51 1 5) 52 5 10) 51 1 6) 66 24 0) 81 0 40) 66 24 1) 81 1 12) 66 24 2) 81 2 11) 66 24 3) 81 3 10) 66 24 4) 81 4 11) 66 24 5) 81 5 10) 66 24 6), ml, (zmr g))) rfl ?_
        refine Wp.ret rfl rfl rfl ?_
        exact ⟨rfl, rfl⟩
      · refine (I.act (fun b p51 p52 p66 p81 => by rw [zup_ne p66, zup_ne p81, zup_ne p66, zup_ne p81, zup_ne p66, zup_ne p81, zup_ne p66, zup_ne p81, zup_ne p66, zup_ne p81, zup_ne p66, zup_ne p81, zup_ne p66, zup_ne p51, zup_ne p52, zup_ne p51, zup_ne p52, zup_ne p51, zup_ne p52, zup_ne p51, zup_ne p52, zup_ne p51, zup_ne p52, zup_ne p51, zup_ne p52, zup_ne p51, zup_ne p51, zup_ne p51, zup_ne p51]) (fun k hk => by rw [zup_rd hk, zup_ne (by decide), zup_rd hk, zup_ne (by decide), zup_rd hk, zup_ne (by decide), zup_rd hk, zup_ne (by decide), zup_rd hk, zup_ne (by decide), zup_rd hk, zup_ne (by decide), zup_rd hk, zup_ne (by decide), zup_ne (by decide), zup_ne (by decide), zup_ne (by decide), zup_ne (by decide), zup_ne (by decide), zup_ne (by decide), zup_ne (by decide), zup_ne (by decide), zup_ne (by decide), zup_ne (by decide), zup_ne (by decide), zup_ne (by decide), zup_ne (by decide), zup_ne (by decide), zup_ne (by decide)]) ⟨6, by decide, rfl, rfl, fun k h1 h2 => by
          rcases (show k = 0 ∨ k = 1 ∨ k = 2 ∨ k = 3 ∨ k = 4 ∨ k = 5 by omega) with rfl | rfl | rfl | rfl | rfl | rfl <;> rfl⟩).x
  · rcases (show q = 0 ∨ q = 1 ∨ q = 2 by omega) with rfl | rfl | rfl
    · refine SIM.u (x := -(x + (nI i))) (m1 := (zup (zup (zup (zup (zup (zup (zup (zup mi 51 1 0) 51 2 4) 51 3 (nI i)) 51 4 v) 52 0 50) 51 1 1) 52 1 10) 51 1 2)) (l1 := ml) (m2 := (zup (zup (zup (zup (zup (zup (zup (zup (zup (zup (zup (zup (zup mi 51 1 0) 51 2 4) 51 3 (nI i)) 51 4 v) 52 0 50) 51 1 1) 52 1 10) 51 1 2) 66 24 0) 81 0 50) 66 24 1) 81 1 10) 66 24 2)) (l2 := ml) (dc := 20) (dm := 20) (by decide) (by decide) ?_ ?_ ?_
      · refine Wp.run 2 (4, [(0, .ref 0), (1, .int (nI i)), (2, .int 0), (3, .int x)], [.ref 51], (zsh ++ vs, mi, ml, (zmr g))) rfl ?_
        refine Wp.call (as := [.ref 51]) (rest := []) rfl rfl rfl rfl rfl (Nat.le_of_ble_eq_true rfl) (Nat.le_of_ble_eq_true rfl) rfl (by decide) (c_clear) ?_
        rintro _ _ ⟨rfl, rfl⟩
        refine Wp.run 3 (12, [(0, .ref 0), (1, .int (nI i)), (2, .int 0), (3, .int x)], [.int (nI i), .ref 1], (zsh ++ vs, (zup mi 51 1 0), ml, (zmr g))) rfl ?_
        refine Wp.call (as := [.ref 1, .int (nI i)]) (rest := []) rfl rfl rfl rfl rfl (Nat.le_of_ble_eq_true rfl) (Nat.le_of_ble_eq_true rfl) rfl (by decide) (c_has_t (mi := (zup mi 51 1 0)) hn h6 hx9) ?_
        rintro _ _ ⟨rfl, rfl⟩
        refine Wp.run 3 (20, [(0, .ref 0), (1, .int (nI i)), (2, .int 0), (3, .int x)], [.int 2, .int 0], (zsh ++ vs, (zup mi 51 1 0), ml, (zmr g))) rfl ?_
        refine Wp.call (as := [.int 0, .int 2]) (rest := []) rfl rfl rfl rfl rfl (Nat.le_of_ble_eq_true rfl) (Nat.le_of_ble_eq_true rfl) rfl (by decide) (c_within_t ha) ?_
        rintro _ _ ⟨rfl, rfl⟩
        refine Wp.run 8 (39, [(0, .ref 0), (1, .int (nI i)), (2, .int 0), (3, .int x)], [.int x, .int 0, .int (nI i), .ref 1, .ref 51], (zsh ++ vs, (zup mi 51 1 0), ml, (zmr g))) rfl ?_
        refine Wp.call (as := [.ref 51, .ref 1, .int (nI i), .int 0, .int x]) (rest := []) rfl rfl rfl rfl rfl (Nat.le_of_ble_eq_true rfl) (Nat.le_of_ble_eq_true rfl) rfl (by decide) (c_begin_4_0 (mi := (zup mi 51 1 0)) (x := x) (v := v) (i := i) hi6 rfl ec ev) ?_
        rintro _ _ ⟨rfl, rfl⟩
        refine Wp.run 0 (42, [(0, .ref 0), (1, .int (nI i)), (2, .int 0), (3, .int x)], [.int (-(x + (nI i)))], (zsh ++ vs, (zup (zup (zup (zup (zup (zup (zup (zup mi 51 1 0) 51 2 4) 51 3 (nI i)) 51 4 v) 52 0 50) 51 1 1) 52 1 10) 51 1 2), ml, (zmr g))) rfl ?_
        refine Wp.ret rfl rfl rfl ?_
        exact ⟨rfl, rfl⟩
      · refine Wp.run 5 (7, [(0, .ref 66), (1, .int (nI i)), (2, .int 0), (3, .int x)], [.int (nI i), .ref 66], (zsh ++ vs, (zup (zup (zup (zup (zup (zup (zup (zup (zup mi 51 1 0) 51 2 4) 51 3 (nI i)) 51 4 v) 52 0 50) 51 1 1) 52 1 10) 51 1 2) 66 24 0), ml, (zmr g))) rfl ?_
        refine Wp.call (as := [.ref 66, .int (nI i)]) (rest := []) rfl rfl rfl rfl rfl (Nat.le_of_ble_eq_true rfl) (Nat.le_of_ble_eq_true rfl) rfl (by decide) (m_isOne_t (mi := (zup (zup (zup (zup (zup (zup (zup (zup (zup mi 51 1 0) 51 2 4) 51 3 (nI i)) 51 4 v) 52 0 50) 51 1 1) 52 1 10) 51 1 2) 66 24 0)) hN h6 hx9) ?_
        rintro _ _ ⟨rfl, rfl⟩
        refine Wp.run 4 (16, [(0, .ref 66), (1, .int (nI i)), (2, .int 0), (3, .int x)], [.int 2, .int 0, .int 0], (zsh ++ vs, (zup (zup (zup (zup (zup (zup (zup (zup (zup mi 51 1 0) 51 2 4) 51 3 (nI i)) 51 4 v) 52 0 50) 51 1 1) 52 1 10) 51 1 2) 66 24 0), ml, (zmr g))) rfl ?_
        refine Wp.call (as := [.int 0, .int 0, .int 2]) (rest := []) rfl rfl rfl rfl rfl (Nat.le_of_ble_eq_true rfl) (Nat.le_of_ble_eq_true rfl) rfl (by decide) (m_isIn_t ha) ?_
        rintro _ _ ⟨rfl, rfl⟩
        refine Wp.run 5 (26, [(0, .ref 66), (1, .int (nI i)), (2, .int 0), (3, .int x)], [.int x, .int 0, .int (nI i), .ref 66], (zsh ++ vs, (zup (zup (zup (zup (zup (zup (zup (zup (zup mi 51 1 0) 51 2 4) 51 3 (nI i)) 51 4 v) 52 0 50) 51 1 1) 52 1 10) 51 1 2) 66 24 0), ml, (zmr g))) rfl ?_
        refine Wp.call (as := [.ref 66, .int (nI i), .int 0, .int x]) (rest := []) rfl rfl rfl rfl rfl (Nat.le_of_ble_eq_true rfl) (Nat.le_of_ble_eq_true rfl) rfl (by decide) (m_al_4_4_0_0 (mi := (zup (zup (zup (zup (zup (zup (zup (zup (zup mi 51 1 0) 51 2 4) 51 3 (nI i)) 51 4 v) 52 0 50) 51 1 1) 52 1 10) 51 1 2) 66 24 0)) (x := x) (v := v) (i := i) hi6 rfl es0 hv k79 k80) ?_
        rintro _ _ ⟨rfl, rfl⟩
        refine Wp.run 1 (33, [(0, .ref 66), (1, .int (nI i)), (2, .int 0), (3, .int x)], [.int (-(x + (nI i)))], (zsh ++ vs, (zup (zup (zup (zup (zup (zup (zup (zup (zup (zup (zup (zup (zup mi 51 1 0) 51 2 4) 51 3 (nI i)) 51 4 v) 52 0 50) 51 1 1) 52 1 10) 51 1 2) 66 24 0) 81 0 50) 66 24 1) 81 1 10) 66 24 2), ml, (zmr g))) rfl ?_
        refine Wp.ret rfl rfl rfl ?_
        exact ⟨rfl, rfl⟩
      · refine (I.act (fun b p51 p52 p66 p81 => by rw [zup_ne p66, zup_ne p81, zup_ne p66, zup_ne p81, zup_ne p66, zup_ne p51, zup_ne p52, zup_ne p51, zup_ne p52, zup_ne p51, zup_ne p51, zup_ne p51, zup_ne p51]) (fun k hk => by rw [zup_rd hk, zup_ne (by decide), zup_rd hk, zup_ne (by decide), zup_rd hk, zup_ne (by decide), zup_ne (by decide), zup_ne (by decide), zup_ne (by decide), zup_ne (by decide), zup_ne (by decide), zup_ne (by decide), zup_ne (by decide)]) ⟨2, by decide, rfl, rfl, fun k h1 h2 => by
          rcases (show k = 0 ∨ k = 1 by omega) with rfl | rfl <;> rfl⟩).x
    · refine SIM.u (x := (((-((x + 1) + (nI i))) - v) ^^^ 6)) (m1 := (zup (zup (zup (zup (zup (zup (zup (zup (zup (zup (zup (zup (zup (zup mi 51 1 0) 51 2 4) 51 3 (nI i)) 51 4 v) 52 0 51) 51 1 1) 52 1 20) 51 1 2) 52 2 11) 51 1 3) 52 3 50) 51 1 4) 52 4 10) 51 1 5)) (l1 := ml) (m2 := (zup (zup (zup (zup (zup (zup (zup (zup (zup (zup (zup (zup (zup (zup (zup (zup (zup (zup (zup (zup (zup (zup (zup (zup (zup mi 51 1 0) 51 2 4) 51 3 (nI i)) 51 4 v) 52 0 51) 51 1 1) 52 1 20) 51 1 2) 52 2 11) 51 1 3) 52 3 50) 51 1 4) 52 4 10) 51 1 5) 66 24 0) 81 0 51) 66 24 1) 81 1 20) 66 24 2) 81 2 11) 66 24 3) 81 3 50) 66 24 4) 81 4 10) 66 24 5)) (l2 := ml) (dc := 20) (dm := 20) (by decide) (by decide) ?_ ?_ ?_
      · refine Wp.run 2 (4, [(0, .ref 0), (1, .int (nI i)), (2, .int 1), (3, .int x)], [.ref 51], (zsh ++ vs, mi, ml, (zmr g))) rfl ?_
        refine Wp.call (as := [.ref 51]) (rest := []) rfl rfl rfl rfl rfl (Nat.le_of_ble_eq_true rfl) (Nat.le_of_ble_eq_true rfl) rfl (by decide) (c_clear) ?_
        rintro _ _ ⟨rfl, rfl⟩
        refine Wp.run 3 (12, [(0, .ref 0), (1, .int (nI i)), (2, .int 1), (3, .int x)], [.int (nI i), .ref 1], (zsh ++ vs, (zup mi 51 1 0), ml, (zmr g))) rfl ?_
        refine Wp.call (as := [.ref 1, .int (nI i)]) (rest := []) rfl rfl rfl rfl rfl (Nat.le_of_ble_eq_true rfl) (Nat.le_of_ble_eq_true rfl) rfl (by decide) (c_has_t (mi := (zup mi 51 1 0)) hn h6 hx9) ?_
        rintro _ _ ⟨rfl, rfl⟩
        refine Wp.run 3 (20, [(0, .ref 0), (1, .int (nI i)), (2, .int 1), (3, .int x)], [.int 2, .int 1], (zsh ++ vs, (zup mi 51 1 0), ml, (zmr g))) rfl ?_
        refine Wp.call (as := [.int 1, .int 2]) (rest := []) rfl rfl rfl rfl rfl (Nat.le_of_ble_eq_true rfl) (Nat.le_of_ble_eq_true rfl) rfl (by decide) (c_within_t ha) ?_
        rintro _ _ ⟨rfl, rfl⟩
        refine Wp.run 8 (39, [(0, .ref 0), (1, .int (nI i)), (2, .int 1), (3, .int x)], [.int x, .int 1, .int (nI i), .ref 1, .ref 51], (zsh ++ vs, (zup mi 51 1 0), ml, (zmr g))) rfl ?_
        refine Wp.call (as := [.ref 51, .ref 1, .int (nI i), .int 1, .int x]) (rest := []) rfl rfl rfl rfl rfl (Nat.le_of_ble_eq_true rfl) (Nat.le_of_ble_eq_true rfl) rfl (by decide) (c_begin_4_1 (mi := (zup mi 51 1 0)) (x := x) (v := v) (i := i) hi6 rfl ec ev) ?_
        rintro _ _ ⟨rfl, rfl⟩
        refine Wp.run 0 (42, [(0, .ref 0), (1, .int (nI i)), (2, .int 1), (3, .int x)], [.int (((-((x + 1) + (nI i))) - v) ^^^ 6)], (zsh ++ vs, (zup (zup (zup (zup (zup (zup (zup (zup (zup (zup (zup (zup (zup (zup mi 51 1 0) 51 2 4) 51 3 (nI i)) 51 4 v) 52 0 51) 51 1 1) 52 1 20) 51 1 2) 52 2 11) 51 1 3) 52 3 50) 51 1 4) 52 4 10) 51 1 5), ml, (zmr g))) rfl ?_
        refine Wp.ret rfl rfl rfl ?_
        exact ⟨rfl, rfl⟩
      · refine Wp.run 5 (7, [(0, .ref 66), (1, .int (nI i)), (2, .int 1), (3, .int x)], [.int (nI i), .ref 66], (zsh ++ vs, (zup (zup (zup (zup (zup (zup (zup (zup (zup (zup (zup (zup (zup (zup (zup mi 51 1 0) 51 2 4) 51 3 (nI i)) 51 4 v) 52 0 51) 51 1 1) 52 1 20) 51 1 2) 52 2 11) 51 1 3) 52 3 50) 51 1 4) 52 4 10) 51 1 5) 66 24 0), ml, (zmr g))) rfl ?_
        refine Wp.call (as := [.ref 66, .int (nI i)]) (rest := []) rfl rfl rfl rfl rfl (Nat.le_of_ble_eq_true rfl) (Nat.le_of_ble_eq_true rfl) rfl (by decide) (m_isOne_t (mi := (zup (zup (zup (zup (zup (zup (zup (zup (zup (zup (zup (zup (zup (zup (zup mi 51 1 0) 51 2 4) 51 3 (nI i)) 51 4 v) 52 0 51) 51 1 1) 52 1 20) 51 1 2) 52 2 11) 51 1 3) 52 3 50) 51 1 4) 52 4 10) 51 1 5) 66 24 0)) hN h6 hx9) ?_
        rintro _ _ ⟨rfl, rfl⟩
        refine Wp.run 4 (16, [(0, .ref 66), (1, .int (nI i)), (2, .int 1), (3, .int x)], [.int 2, .int 0, .int 1], (zsh ++ vs, (zup (zup (zup (zup (zup (zup (zup (zup (zup (zup (zup (zup (zup (zup (zup mi 51 1 0) 51 2 4) 51 3 (nI i)) 51 4 v) 52 0 51) 51 1 1) 52 1 20) 51 1 2) 52 2 11) 51 1 3) 52 3 50) 51 1 4) 52 4 10) 51 1 5) 66 24 0), ml, (zmr g))) rfl ?_
        refine Wp.call (as := [.int 1, .int 0, .int 2]) (rest := []) rfl rfl rfl rfl rfl (Nat.le_of_ble_eq_true rfl) (Nat.le_of_ble_eq_true rfl) rfl (by decide) (m_isIn_t ha) ?_
        rintro _ _ ⟨rfl, rfl⟩
        refine Wp.run 5 (26, [(0, .ref 66), (1, .int (nI i)), (2, .int 1), (3, .int x)], [.int x, .int 1, .int (nI i), .ref 66], (zsh ++ vs, (zup (zup (zup (zup (zup (zup (zup (zup (zup (zup (zup (zup (zup (zup (zup mi 51 1 0) 51 2 4) 51 3 (nI i)) 51 4 v) 52 0 51) 51 1 1) 52 1 20) 51 1 2) 52 2 11) 51 1 3) 52 3 50) 51 1 4) 52 4 10) 51 1 5) 66 24 0), ml, (zmr g))) rfl ?_
        refine Wp.call (as := [.ref 66, .int (nI i), .int 1, .int x]) (rest := []) rfl rfl rfl rfl rfl (Nat.le_of_ble_eq_true rfl) (Nat.le_of_ble_eq_true rfl) rfl (by decide) (m_al_4_4_1_0 (mi := (zup (zup (zup (zup (zup (zup (zup (zup (zup (zup (zup (zup (zup (zup (zup mi 51 1 0) 51 2 4) 51 3 (nI i)) 51 4 v) 52 0 51) 51 1 1) 52 1 20) 51 1 2) 52 2 11) 51 1 3) 52 3 50) 51 1 4) 52 4 10) 51 1 5) 66 24 0)) (x := x) (v := v) (i := i) hi6 rfl es0 hv k79 k80) ?_
        rintro _ _ ⟨rfl, rfl⟩
        refine Wp.run 1 (33, [(0, .ref 66), (1, .int (nI i)), (2, .int 1), (3, .int x)], [.int (((-((x + 1) + (nI i))) - v) ^^^ 6)], (zsh ++ vs, (zup (zup (zup (zup (zup (zup (zup (zup (zup (zup (zup (zup (zup (zup (zup (zup (zup (zup (zup (zup (zup (zup (zup (zup (zup mi 51 1 0) 51 2 4) 51 3 (nI i)) 51 4 v) 52 0 51) 51 1 1) 52 1 20) 51 1 2) 52 2 11) 51 1 3) 52 3 50) 51 1 4) 52 4 10) 51 1 5) 66 24 0) 81 0 51) 66 24 1) 81 1 20) 66 24 2) 81 2 11) 66 24 3) 81 3 50) 66 24 4) 81 4 10) 66 24 5), ml, (zmr g))) rfl ?_
        refine Wp.ret rfl rfl rfl ?_
        exact ⟨rfl, rfl⟩
      · refine (I.act (fun b p51 p52 p66 p81 => by rw [zup_ne p66, zup_ne p81, zup_ne p66, zup_ne p81, zup_ne p66, zup_ne p81, zup_ne p66, zup_ne p81, zup_ne p66, zup_ne p81, zup_ne p66, zup_ne p51, zup_ne p52, zup_ne p51, zup_ne p52, zup_ne p51, zup_ne p52, zup_ne p51, zup_ne p52, zup_ne p51, zup_ne p52, zup_ne p51, zup_ne p51, zup_ne p51, zup_ne p51]) (fun k hk => by rw [zup_rd hk, zup_ne (by decide), zup_rd hk, zup_ne (by decide), zup_rd hk, zup_ne (by decide), zup_rd hk, zup_ne (by decide), zup_rd hk, zup_ne (by decide), zup_rd hk, zup_ne (by decide), zup_ne (by decide), zup_ne (by decide), zup_ne (by decide), zup_ne (by decide), zup_ne (by decide), zup_ne (by decide), zup_ne (by decide), zup_ne (by decide), zup_ne (by decide), zup_ne (by decide), zup_ne (by decide), zup_ne (by decide), zup_ne (by decide)]) ⟨5, by decide, rfl, rfl, fun k h1 h2 => by
          rcases (show k = 0 ∨ k = 1 ∨ k = 2 ∨ k = 3 ∨ k = 4 by omega) with rfl | rfl | rfl | rfl | rfl <;> rfl⟩).x
    · refine SIM.u (x := (((-((x + 1) + (nI i))) - v) ^^^ 6) * 2) (m1 := (zup (zup (zup (zup (zup (zup (zup (zup (zup (zup (zup (zup (zup (zup (zup (zup mi 51 1 0) 51 2 4) 51 3 (nI i)) 51 4 v) 52 0 12) 51 1 1) 52 1 51) 51 1 2) 52 2 20) 51 1 3) 52 3 11) 51 1 4) 52 4 50) 51 1 5) 52 5 10) 51 1 6)) (l1 := ml) (m2 := (zup (zup (zup (zup (zup (zup (zup (zup (zup (zup (zup (zup (zup (zup (zup (zup (zup (zup (zup (zup (zup (zup (zup (zup (zup (zup (zup (zup (zup mi 51 1 0) 51 2 4) 51 3 (nI i)) 51 4 v) 52 0 12) 51 1 1) 52 1 51) 51 1 2) 52 2 20) 51 1 3) 52 3 11) 51 1 4) 52 4 50) 51 1 5) 52 5 10) 51 1 6) 66 24 0) 81 0 12) 66 24 1) 81 1 51) 66 24 2) 81 2 20) 66 24 3) 81 3 11) 66 24 4) 81 4 50) 66 24 5) 81 5 10) 66 24 6)) (l2 := ml) (dc := 20) (dm := 20) (by decide) (by decide) ?_ ?_ ?_
      · refine Wp.run 2 (4, [(0, .ref 0), (1, .int (nI i)), (2, .int 2), (3, .int x)], [.ref 51], (zsh ++ vs, mi, ml, (zmr g))) rfl ?_
        refine Wp.call (as := [.ref 51]) (rest := []) rfl rfl rfl rfl rfl (Nat.le_of_ble_eq_true rfl) (Nat.le_of_ble_eq_true rfl) rfl (by decide) (c_clear) ?_
        rintro _ _ ⟨rfl, rfl⟩
        refine Wp.run 3 (12, [(0, .ref 0), (1, .int (nI i)), (2, .int 2), (3, .int x)], [.int (nI i), .ref 1], (zsh ++ vs, (zup mi 51 1 0), ml, (zmr g))) rfl ?_
        refine Wp.call (as := [.ref 1, .int (nI i)]) (rest := []) rfl rfl rfl rfl rfl (Nat.le_of_ble_eq_true rfl) (Nat.le_of_ble_eq_true rfl) rfl (by decide) (c_has_t (mi := (zup mi 51 1 0)) hn h6 hx9) ?_
        rintro _ _ ⟨rfl, rfl⟩
        refine Wp.run 3 (20, [(0, .ref 0), (1, .int (nI i)), (2, .int 2), (3, .int x)], [.int 2, .int 2], (zsh ++ vs, (zup mi 51 1 0), ml, (zmr g))) rfl ?_
        refine Wp.call (as := [.int 2, .int 2]) (rest := []) rfl rfl rfl rfl rfl (Nat.le_of_ble_eq_true rfl) (Nat.le_of_ble_eq_true rfl) rfl (by decide) (c_within_t ha) ?_
        rintro _ _ ⟨rfl, rfl⟩
        refine Wp.run 8 (39, [(0, .ref 0), (1, .int (nI i)), (2, .int 2), (3, .int x)], [.int x, .int 2, .int (nI i), .ref 1, .ref 51], (zsh ++ vs, (zup mi 51 1 0), ml, (zmr g))) rfl ?_
        refine Wp.call (as := [.ref 51, .ref 1, .int (nI i), .int 2, .int x]) (rest := []) rfl rfl rfl rfl rfl (Nat.le_of_ble_eq_true rfl) (Nat.le_of_ble_eq_true rfl) rfl (by decide) (c_begin_4_2 (mi := (zup mi 51 1 0)) (x := x) (v := v) (i := i) hi6 rfl ec ev) ?_
        rintro _ _ ⟨rfl, rfl⟩
        refine Wp.run 0 (42, [(0, .ref 0), (1, .int (nI i)), (2, .int 2), (3, .int x)], [.int ((((-((x + 1) + (nI i))) - v) ^^^ 6) * 2)], (zsh ++ vs, (zup (zup (zup (zup (zup (zup (zup (zup (zup (zup (zup (zup (zup (zup (zup (zup mi 51 1 0) 51 2 4) 51 3 (nI i)) 51 4 v) 52 0 12) 51 1 1) 52 1 51) 51 1 2) 52 2 20) 51 1 3) 52 3 11) 51 1 4) 52 4 50) 51 1 5) 52 5 10) 51 1 6), ml, (zmr g))) rfl ?_
        refine Wp.ret rfl rfl rfl ?_
        exact ⟨rfl, rfl⟩
      · refine Wp.run 5 (7, [(0, .ref 66), (1, .int (nI i)), (2, .int 2), (3, .int x)], [.int (nI i), .ref 66], (zsh ++ vs, (zup (zup (zup (zup (zup (zup (zup (zup (zup (zup (zup (zup (zup (zup (zup (zup (zup mi 51 1 0) 51 2 4) 51 3 (nI i)) 51 4 v) 52 0 12) 51 1 1) 52 1 51) 51 1 2) 52 2 20) 51 1 3) 52 3 11) 51 1 4) 52 4 50) 51 1 5) 52 5 10) 51 1 6) 66 24 0), ml, (zmr g))) rfl ?_
        refine Wp.call (as := [.ref 66, .int (nI i)]) (rest := []) rfl rfl rfl rfl rfl (Nat.le_of_ble_eq_true rfl) (Nat.le_of_ble_eq_true rfl) rfl (by decide) (m_isOne_t (mi := (zup (zup (zup (zup (zup (zup (zup (zup (zup (zup (zup (zup (zup (zup (zup (zup (zup mi 51 1 0) 51 2 4) 51 3 (nI i)) 51 4 v) 52 0 12) 51 1 1) 52 1 51) 51 1 2) 52 2 20) 51 1 3) 52 3 11) 51 1 4) 52 4 50) 51 1 5) 52 5 10) 51 1 6) 66 24 0)) hN h6 hx9) ?_
        rintro _ _ ⟨rfl, rfl⟩
        refine Wp.run 4 (16, [(0, .ref 66), (1, .int (nI i)), (2, .int 2), (3, .int x)], [.int 2, .int 0, .int 2], (zsh ++ vs, (zup (zup (zup (zup (zup (zup (zup (zup (zup (zup (zup (zup (zup (zup (zup (zup (zup mi 51 1 0) 51 2 4) 51 3 (nI i)) 51 4 v) 52 0 12) 51 1 1) 52 1 51) 51 1 2) 52 2 20) 51 1 3) 52 3 11) 51 1 4) 52 4 50) 51 1 5) 52 5 10) 51 1 6) 66 24 0), ml, (zmr g))) rfl ?_
        refine Wp.call (as := [.int 2, .int 0, .int 2]) (rest := []) rfl rfl rfl rfl rfl (Nat.le_of_ble_eq_true rfl) (Nat.le_of_ble_eq_true rfl) rfl (by decide) (m_isIn_t ha) ?_
        rintro _ _ ⟨rfl, rfl⟩
        refine Wp.run 5 (26, [(0, .ref 66), (1, .int (nI i)), (2, .int 2), (3, .int x)], [.int x, .int 2, .int (nI i), .ref 66], (zsh ++ vs, (zup (zup (zup (zup (zup (zup (zup (zup (zup (zup (zup (zup (zup (zup (zup (zup (zup mi 51 1 0) 51 2 4) 51 3 (nI i)) 51 4 v) 52 0 12) 51 1 1) 52 1 51) 51 1 2) 52 2 20) 51 1 3) 52 3 11) 51 1 4) 52 4 50) 51 1 5) 52 5 10) 51 1 6) 66 24 0), ml, (zmr g))) rfl ?_
        refine Wp.call (as := [.ref 66, .int (nI i), .int 2, .int x]) (rest := []) rfl rfl rfl rfl rfl (Nat.le_of_ble_eq_true rfl) (Nat.le_of_ble_eq_true rfl) rfl (by decide) (m_al_4_4_2_0 (mi := (zup (zup (zup (zup (zup (zup (zup (zup (zup (zup (zup (zup (zup (zup (zup (zup (zup mi 51 1 0) 51 2 4) 51 3 (nI i)) 51 4 v) 52 0 12) 51 1 1) 52 1 51) 51 1 2) 52 2 20) 51 1 3) 52 3 11) 51 1 4) 52 4 50) 51 1 5) 52 5 10) 51 1 6) 66 24 0)) (x := x) (v := v) (i := i) hi6 rfl es0 hv k79 k80) ?_
        rintro _ _ ⟨rfl, rfl⟩
        refine Wp.run 1 (33, [(0, .ref 66), (1, .int (nI i)), (2, .int 2), (3, .int x)], [.int ((((-((x + 1) + (nI i))) - v) ^^^ 6) * 2)], (zsh ++ vs, (zup (zup (zup (zup (zup (zup (zup (zup (zup (zup (zup (zup (zup (zup (zup (zup (zup (zup (zup (zup (zup (zup (zup (zup (zup (zup (zup (zup (zup mi 51 1 0) 51 2 4) 51 3 (nI i)) 51 4 v) 52 0 12) 51 1 1) 52 1 51) 51 1 2) 52 2 20) 51 1 3) 52 3 11) 51 1 4) 52 4 50) 51 1 5) 52 5 10) 51 1 6) 66 24 0) 81 0 12) 66 24 1) 81 1 51) 66 24 2) 81 2 20) 66 24 3) 81 3 11) 66 24 4) 81 4 50) 66 24 5) 81 5 10) 66 24 6), ml, (zmr g))) rfl ?_
        refine Wp.ret rfl rfl rfl ?_
        exact ⟨rfl, rfl⟩
      · refine (I.act (fun b p51 p52 p66 p81 => by rw [zup_ne p66, zup_ne p81, zup_ne p66, zup_ne p81, zup_ne p66, zup_ne p81, zup_ne p66, zup_ne p81, zup_ne p66, zup_ne p81, zup_ne p66, zup_ne p81, zup_ne p66, zup_ne p51, zup_ne p52, zup_ne p51, zup_ne p52, zup_ne p51, zup_ne p52, zup_ne p51, zup_ne p52, zup_ne p51, zup_ne p52, zup_ne p51, zup_ne p52, zup_ne p51, zup_ne p51, zup_ne p51, zup_ne p51]) (fun k hk => by rw [zup_rd hk, zup_ne (by decide), zup_rd hk, zup_ne (by decide), zup_rd hk, zup_ne (by decide), zup_rd hk, zup_ne (by decide), zup_rd hk, zup_ne (by decide), zup_rd hk, zup_ne (by decide), zup_rd hk, zup_ne (by decide), zup_ne (by decide), zup_ne (by decide), zup_ne (by decide), zup_ne (by decide), zup_ne (by decide), zup_ne (by decide), zup_ne (by decide), zup_ne (by decide), zup_ne (by decide), zup_ne (by decide), zup_ne (by decide), zup_ne (by decide), zup_ne (by decide), zup_ne (by decide), zup_ne (by decide)]) ⟨6, by decide, rfl, rfl, fun k h1 h2 => by
          rcases (show k = 0 ∨ k = 1 ∨ k = 2 ∨ k = 3 ∨ k = 4 ∨ k = 5 by omega) with rfl | rfl | rfl | rfl | rfl | rfl <;> rfl⟩).x
  · rcases (show q = 0 ∨ q = 1 ∨ q = 2 by omega) with rfl | rfl | rfl
    · refine SIM.u (x := ((x * 3) + (nI i))) (m1 := (zup (zup (zup (zup (zup (zup (zup (zup mi 51 1 0) 51 2 5) 51 3 (nI i)) 51 4 v) 52 0 30) 51 1 1) 52 1 10) 51 1 2)) (l1 := ml) (m2 := (zup (zup (zup (zup (zup (zup (zup (zup (zup (zup (zup (zup (zup mi 51 1 0) 51 2 5) 51 3 (nI i)) 51 4 v) 52 0 30) 51 1 1) 52 1 10) 51 1 2) 66 24 0) 81 0 30) 66 24 1) 81 1 10) 66 24 2)) (l2 := ml) (dc := 20) (dm := 20) (by decide) (by decide) ?_ ?_ ?_
      · refine Wp.run 2 (4, [(0, .ref 0), (1, .int (nI i)), (2, .int 0), (3, .int x)], [.ref 51], (zsh ++ vs, mi, ml, (zmr g))) rfl ?_
        refine Wp.call (as := [.ref 51]) (rest := []) rfl rfl rfl rfl rfl (Nat.le_of_ble_eq_true rfl) (Nat.le_of_ble_eq_true rfl) rfl (by decide) (c_clear) ?_
        rintro _ _ ⟨rfl, rfl⟩
        refine Wp.run 3 (12, [(0, .ref 0), (1, .int (nI i)), (2, .int 0), (3, .int x)], [.int (nI i), .ref 1], (zsh ++ vs, (zup mi 51 1 0), ml, (zmr g))) rfl ?_
        refine Wp.call (as := [.ref 1, .int (nI i)]) (rest := []) rfl rfl rfl rfl rfl (Nat.le_of_ble_eq_true rfl) (Nat.le_of_ble_eq_true rfl) rfl (by decide) (c_has_t (mi := (zup mi 51 1 0)) hn h6 hx9) ?_
        rintro _ _ ⟨rfl, rfl⟩
        refine Wp.run 3 (20, [(0, .ref 0), (1, .int (nI i)), (2, .int 0), (3, .int x)], [.int 2, .int 0], (zsh ++ vs, (zup mi 51 1 0), ml, (zmr g))) rfl ?_
        refine Wp.call (as := [.int 0, .int 2]) (rest := []) rfl rfl rfl rfl rfl (Nat.le_of_ble_eq_true rfl) (Nat.le_of_ble_eq_true rfl) rfl (by decide) (c_within_t ha) ?_
        rintro _ _ ⟨rfl, rfl⟩
        refine Wp.run 8 (39, [(0, .ref 0), (1, .int (nI i)), (2, .int 0), (3, .int x)], [.int x, .int 0, .int (nI i), .ref 1, .ref 51], (zsh ++ vs, (zup mi 51 1 0), ml, (zmr g))) rfl ?_
        refine Wp.call (as := [.ref 51, .ref 1, .int (nI i), .int 0, .int x]) (rest := []) rfl rfl rfl rfl rfl (Nat.le_of_ble_eq_true rfl) (Nat.le_of_ble_eq_true rfl) rfl (by decide) (c_begin_5_0 (mi := (zup mi 51 1 0)) (x := x) (v := v) (i := i) hi6 rfl ec ev) ?_
        rintro _ _ ⟨rfl, rfl⟩
        refine Wp.run 0 (42, [(0, .ref 0), (1, .int (nI i)), (2, .int 0), (3, .int x)], [.int ((x * 3) + (nI i))], (zsh ++ vs, (zup (zup (zup (zup (zup (zup (zup (zup mi 51 1 0) 51 2 5) 51 3 (nI i)) 51 4 v) 52 0 30) 51 1 1) 52 1 10) 51 1 2), ml, (zmr g))) rfl ?_
        refine Wp.ret rfl rfl rfl ?_
        exact ⟨rfl, rfl⟩
      · refine Wp.run 5 (7, [(0, .ref 66), (1, .int (nI i)), (2, .int 0), (3, .int x)], [.int (nI i), .ref 66], (zsh ++ vs, (zup (zup (zup (zup (zup (zup (zup (zup (zup mi 51 1 0) 51 2 5) 51 3 (nI i)) 51 4 v) 52 0 30) 51 1 1) 52 1 10) 51 1 2) 66 24 0), ml, (zmr g))) rfl ?_
        refine Wp.call (as := [.ref 66, .int (nI i)]) (rest := []) rfl rfl rfl rfl rfl (Nat.le_of_ble_eq_true rfl) (Nat.le_of_ble_eq_true rfl) rfl (by decide) (m_isOne_t (mi := (zup (zup (zup (zup (zup (zup (zup (zup (zup mi 51 1 0) 51 2 5) 51 3 (nI i)) 51 4 v) 52 0 30) 51 1 1) 52 1 10) 51 1 2) 66 24 0)) hN h6 hx9) ?_
        rintro _ _ ⟨rfl, rfl⟩
        refine Wp.run 4 (16, [(0, .ref 66), (1, .int (nI i)), (2, .int 0), (3, .int x)], [.int 2, .int 0, .int 0], (zsh ++ vs, (zup (zup (zup (zup (zup (zup (zup (zup (zup mi 51 1 0) 51 2 5) 51 3 (nI i)) 51 4 v) 52 0 30) 51 1 1) 52 1 10) 51 1 2) 66 24 0), ml, (zmr g))) rfl ?_
        refine Wp.call (as := [.int 0, .int 0, .int 2]) (rest := []) rfl rfl rfl rfl rfl (Nat.le_of_ble_eq_true rfl) (Nat.le_of_ble_eq_true rfl) rfl (by decide) (m_isIn_t ha) ?_
        rintro _ _ ⟨rfl, rfl⟩
        refine Wp.run 5 (26, [(0, .ref 66), (1, .int (nI i)), (2, .int 0), (3, .int x)], [.int x, .int 0, .int (nI i), .ref 66], (zsh ++ vs, (zup (zup (zup (zup (zup (zup (zup (zup (zup mi 51 1 0) 51 2 5) 51 3 (nI i)) 51 4 v) 52 0 30) 51 1 1) 52 1 10) 51 1 2) 66 24 0), ml, (zmr g))) rfl ?_
        refine Wp.call (as := [.ref 66, .int (nI i), .int 0, .int x]) (rest := []) rfl rfl rfl rfl rfl (Nat.le_of_ble_eq_true rfl) (Nat.le_of_ble_eq_true rfl) rfl (by decide) (m_al_5_5_0_0 (mi := (zup (zup (zup (zup (zup (zup (zup (zup (zup mi 51 1 0) 51 2 5) 51 3 (nI i)) 51 4 v) 52 0 30) 51 1 1) 52 1 10) 51 1 2) 66 24 0)) (x := x) (v := v) (i := i) hi6 rfl es0 hv k79 k80) ?_
        rintro _ _ ⟨rfl, rfl⟩
        refine Wp.run 1 (33, [(0, .ref 66), (1, .int (nI i)), (2, .int 0), (3, .int x)], [.int ((x * 3) + (nI i))], (zsh ++ vs, (zup (zup (zup (zup (zup (zup (zup (zup (zup (zup (zup (zup (zup mi 51 1 0) 51 2 5) 51 3 (nI i)) 51 4 v) 52 0 30) 51 1 1) 52 1 10) 51 1 2) 66 24 0) 81 0 30) 66 24 1) 81 1 10) 66 24 2), ml, (zmr g))) rfl ?_
        refine Wp.ret rfl rfl rfl ?_
        exact ⟨rfl, rfl⟩
      · refine (I.act (fun b p51 p52 p66 p81 => by rw [zup_ne p66, zup_ne p81, zup_ne p66, zup_ne p81, zup_ne p66, zup_ne p51, zup_ne p52, zup_ne p51, zup_ne p52, zup_ne p51, zup_ne p51, zup_ne p51, zup_ne p51]) (fun k hk => by rw [zup_rd hk, zup_ne (by decide), zup_rd hk, zup_ne (by decide), zup_rd hk, zup_ne (by decide), zup_ne (by decide), zup_ne (by decide), zup_ne (by decide), zup_ne (by decide), zup_ne (by decide), zup_ne (by decide), zup_ne (by decide)]) ⟨2, by decide, rfl, rfl, fun k h1 h2 => by
          rcases (show k = 0 ∨ k = 1 by omega) with rfl | rfl <;> rfl⟩).x
    · refine SIM.u (x := ((x * 3) + (nI i)) - v) (m1 := (zup (zup (zup (zup (zup (zup (zup (zup (zup (zup mi 51 1 0) 51 2 5) 51 3 (nI i)) 51 4 v) 52 0 11) 51 1 1) 52 1 30) 51 1 2) 52 2 10) 51 1 3)) (l1 := ml) (m2 := (zup (zup (zup (zup (zup (zup (zup (zup (zup (zup (zup (zup (zup (zup (zup (zup (zup mi 51 1 0) 51 2 5) 51 3 (nI i)) 51 4 v) 52 0 11) 51 1 1) 52 1 30) 51 1 2) 52 2 10) 51 1 3) 66 24 0) 81 0 11) 66 24 1) 81 1 30) 66 24 2) 81 2 10) 66 24 3)) (l2 := ml) (dc := 20) (dm := 20) (by decide) (by decide) ?_ ?_ ?_
      · refine Wp.run 2 (4, [(0, .ref 0), (1, .int (nI i)), (2, .int 1), (3, .int x)], [.ref 51], (zsh ++ vs, mi, ml, (zmr g))) rfl ?_
        refine Wp.call (as := [.ref 51]) (rest := []) rfl rfl rfl rfl rfl (Nat.le_of_ble_eq_true rfl) (Nat.le_of_ble_eq_true rfl) rfl (by decide) (c_clear) ?_
        rintro _ _ ⟨rfl, rfl⟩
        refine Wp.run 3 (12, [(0, .ref 0), (1, .int (nI i)), (2, .int 1), (3, .int x)], [.int (nI i), .ref 1], (zsh ++ vs, (zup mi 51 1 0), ml, (zmr g))) rfl ?_
        refine Wp.call (as := [.ref 1, .int (nI i)]) (rest := []) rfl rfl rfl rfl rfl (Nat.le_of_ble_eq_true rfl) (Nat.le_of_ble_eq_true rfl) rfl (by decide) (c_has_t (mi := (zup mi 51 1 0)) hn h6 hx9) ?_
        rintro _ _ ⟨rfl, rfl⟩
        refine Wp.run 3 (20, [(0, .ref 0), (1, .int (nI i)), (2, .int 1), (3, .int x)], [.int 2, .int 1], (zsh ++ vs, (zup mi 51 1 0), ml, (zmr g))) rfl ?_
        refine Wp.call (as := [.int 1, .int 2]) (rest := []) rfl rfl rfl rfl rfl (Nat.le_of_ble_eq_true rfl) (Nat.le_of_ble_eq_true rfl) rfl (by decide) (c_within_t ha) ?_
        rintro _ _ ⟨rfl, rfl⟩
        refine Wp.run 8 (39, [(0, .ref 0), (1, .int (nI i)), (2, .int 1), (3, .int x)], [.int x, .int 1, .int (nI i), .ref 1, .ref 51], (zsh ++ vs, (zup mi 51 1 0), ml, (zmr g))) rfl ?_
        refine Wp.call (as := [.ref 51, .ref 1, .int (nI i), .int 1, .int x]) (rest := []) rfl rfl rfl rfl rfl (Nat.le_of_ble_eq_true rfl) (Nat.le_of_ble_eq_true rfl) rfl (by decide) (c_begin_5_1 (mi := (zup mi 51 1 0)) (x := x) (v := v) (i := i) hi6 rfl ec ev) ?_
        rintro _ _ ⟨rfl, rfl⟩
        refine Wp.run 0 (42, [(0, .ref 0), (1, .int (nI i)), (2, .int 1), (3, .int x)], [.int (((x * 3) + (nI i)) - v)], (zsh ++ vs, (zup (zup (zup (zup (zup (zup (zup (zup (zup (zup mi 51 1 0) 51 2 5) 51 3 (nI i)) 51 4 v) 52 0 11) 51 1 1) 52 1 30) 51 1 2) 52 2 10) 51 1 3), ml, (zmr g))) rfl ?_
        refine Wp.ret rfl rfl rfl ?_
        exact ⟨rfl, rfl⟩
      · refine Wp.run 5 (7, [(0, .ref 66), (1, .int (nI i)), (2, .int 1), (3, .int x)], [.int (nI i), .ref 66], (zsh ++ vs, (zup (zup (zup (zup (zup (zup (zup (zup (zup (zup (zup mi 51 1 0) 51 2 5) 51 3 (nI i)) 51 4 v) 52 0 11) 51 1 1) 52 1 30) 51 1 2) 52 2 10) 51 1 3) 66 24 0), ml, (zmr g))) rfl ?_
        refine Wp.call (as := [.ref 66, .int (nI i)]) (rest := []) rfl rfl rfl rfl rfl (Nat.le_of_ble_eq_true rfl) (Nat.le_of_ble_eq_true rfl) rfl (by decide) (m_isOne_t (mi := (zup (zup (zup (zup (zup (zup (zup (zup (zup (zup (zup mi 51 1 0) 51 2 5) 51 3 (nI i)) 51 4 v) 52 0 11) 51 1 1) 52 1 30) 51 1 2) 52 2 10) 51 1 3) 66 24 0)) hN h6 hx9) ?_
        rintro _ _ ⟨rfl, rfl⟩
        refine Wp.run 4 (16, [(0, .ref 66), (1, .int (nI i)), (2, .int 1), (3, .int x)], [.int 2, .int 0, .int 1], (zsh ++ vs, (zup (zup (zup (zup (zup (zup (zup (zup (zup (zup (zup mi 51 1 0) 51 2 5) 51 3 (nI i)) 51 4 v) 52 0 11) 51 1 1) 52 1 30) 51 1 2) 52 2 10) 51 1 3) 66 24 0), ml, (zmr g))) rfl ?_
        refine Wp.call (as := [.int 1, .int 0, .int 2]) (rest := []) rfl rfl rfl rfl rfl (Nat.le_of_ble_eq_true rfl) (Nat.le_of_ble_eq_true rfl) rfl (by decide) (m_isIn_t ha) ?_
        rintro _ _ ⟨rfl, rfl⟩
        refine Wp.run 5 (26, [(0, .ref 66), (1, .int (nI i)), (2, .int 1), (3, .int x)], [.int x, .int 1, .int (nI i), .ref 66], (zsh ++ vs, (zup (zup (zup (zup (zup (zup (zup (zup (zup (zup (zup mi 51 1 0) 51 2 5) 51 3 (nI i)) 51 4 v) 52 0 11) 51 1 1) 52 1 30) 51 1 2) 52 2 10) 51 1 3) 66 24 0), ml, (zmr g))) rfl ?_
        refine Wp.call (as := [.ref 66, .int (nI i), .int 1, .int x]) (rest := []) rfl rfl rfl rfl rfl (Nat.le_of_ble_eq_true rfl) (Nat.le_of_ble_eq_true rfl) rfl (by decide) (m_al_5_5_1_0 (mi := (zup (zup (zup (zup (zup (zup (zup (zup (zup (zup (zup mi 51 1 0) 51 2 5) 51 3 (nI i)) 51 4 v) 52 0 11) 51 1 1) 52 1 30) 51 1 2) 52 2 10) 51 1 3) 66 24 0)) (x := x) (v := v) (i := i) hi6 rfl es0 hv k79 k80) ?_
        rintro _ _ ⟨rfl, rfl⟩
        refine Wp.run 1 (33, [(0, .ref 66), (1, .int (nI i)), (2, .int 1), (3, .int x)], [.int (((x * 3) + (nI i)) - v)], (zsh ++ vs, (zup (zup (zup (zup (zup (zup (zup (zup (zup (zup (zup (zup (zup (zup (zup (zup (zup mi 51 1 0) 51 2 5) 51 3 (nI i)) 51 4 v) 52 0 11) 51 1 1) 52 1 30) 51 1 2) 52 2 10) 51 1 3) 66 24 0) 81 0 11) 66 24 1) 81 1 30) 66 24 2) 81 2 10) 66 24 3), ml, (zmr g))) rfl ?_
        refine Wp.ret rfl rfl rfl ?_
        exact ⟨rfl, rfl⟩
      · refine (I.act (fun b p51 p52 p66 p81 => by rw [zup_ne p66, zup_ne p81, zup_ne p66, zup_ne p81, zup_ne p66, zup_ne p81, zup_ne p66, zup_ne p51, zup_ne p52, zup_ne p51, zup_ne p52, zup_ne p51, zup_ne p52, zup_ne p51, zup_ne p51, zup_ne p51, zup_ne p51]) (fun k hk => by rw [zup_rd hk, zup_ne (by decide), zup_rd hk, zup_ne (by decide), zup_rd hk, zup_ne (by decide), zup_rd hk, zup_ne (by decide), zup_ne (by decide), zup_ne (by decide), zup_ne (by decide), zup_ne (by decide), zup_ne (by decide), zup_ne (by decide), zup_ne (by decide), zup_ne (by decide), zup_ne (by decide)]) ⟨3, by decide, rfl, rfl, fun k h1 h2 => by
          rcases (show k = 0 ∨ k = 1 ∨ k = 2 by omega) with rfl | rfl | rfl <;> rfl⟩).x
    · refine SIM.u (x := (((((x - (nI i)) * 3) + (nI i)) - v) * 2)) (m1 := (zup (zup (zup (zup (zup (zup (zup (zup (zup (zup (zup (zup (zup (zup mi 51 1 0) 51 2 5) 51 3 (nI i)) 51 4 v) 52 0 60) 51 1 1) 52 1 12) 51 1 2) 52 2 11) 51 1 3) 52 3 30) 51 1 4) 52 4 10) 51 1 5)) (l1 := ml) (m2 := (zup (zup (zup (zup (zup (zup (zup (zup (zup (zup (zup (zup (zup (zup (zup (zup (zup (zup (zup (zup (zup (zup (zup (zup (zup mi 51 1 0) 51 2 5) 51 3 (nI i)) 51 4 v) 52 0 60) 51 1 1) 52 1 12) 51 1 2) 52 2 11) 51 1 3) 52 3 30) 51 1 4) 52 4 10) 51 1 5) 66 24 0) 81 0 60) 66 24 1) 81 1 12) 66 24 2) 81 2 11) 66 24 3) 81 3 30) 66 24 4) 81 4 10) 66 24 5)) (l2 := ml) (dc := 20) (dm := 20) (by decide) (by decide) ?_ ?_ ?_
      · refine Wp.run 2 (4, [(0, .ref 0), (1, .int (nI i)), (2, .int 2), (3, .int x)], [.ref 51], (zsh ++ vs, mi, ml, (zmr g))) rfl ?_
        refine Wp.call (as := [.ref 51]) (rest := []) rfl rfl rfl rfl rfl (Nat.le_of_ble_eq_true rfl) (Nat.le_of_ble_eq_true rfl) rfl (by decide) (c_clear) ?_
        rintro _ _ ⟨rfl, rfl⟩
        refine Wp.run 3 (12, [(0, .ref 0), (1, .int (nI i)), (2, .int 2), (3, .int x)], [.int (nI i), .ref 1], (zsh ++ vs, (zup mi 51 1 0), ml, (zmr g))) rfl ?_
        refine Wp.call (as := [.ref 1, .int (nI i)]) (rest := []) rfl rfl rfl rfl rfl (Nat.le_of_ble_eq_true rfl) (Nat.le_of_ble_eq_true rfl) rfl (by decide) (c_has_t (mi := (zup mi 51 1 0)) hn h6 hx9) ?_
        rintro _ _ ⟨rfl, rfl⟩
        refine Wp.run 3 (20, [(0, .ref 0), (1, .int (nI i)), (2, .int 2), (3, .int x)], [.int 2, .int 2], (zsh ++ vs, (zup mi 51 1 0), ml, (zmr g))) rfl ?_
        refine Wp.call (as := [.int 2, .int 2]) (rest := []) rfl rfl rfl rfl rfl (Nat.le_of_ble_eq_true rfl) (Nat.le_of_ble_eq_true rfl) rfl (by decide) (c_within_t ha) ?_
        rintro _ _ ⟨rfl, rfl⟩
        refine Wp.run 8 (39, [(0, .ref 0), (1, .int (nI i)), (2, .int 2), (3, .int x)], [.int x, .int 2, .int (nI i), .ref 1, .ref 51], (zsh ++ vs, (zup mi 51 1 0), ml, (zmr g))) rfl ?_
        refine Wp.call (as := [.ref 51, .ref 1, .int (nI i), .int 2, .int x]) (rest := []) rfl rfl rfl rfl rfl (Nat.le_of_ble_eq_true rfl) (Nat.le_of_ble_eq_true rfl) rfl (by decide) (c_begin_5_2 (mi := (zup mi 51 1 0)) (x := x) (v := v) (i := i) hi6 rfl ec ev) ?_
        rintro _ _ ⟨rfl, rfl⟩
        refine Wp.run 0 (42, [(0, .ref 0), (1, .int (nI i)), (2, .int 2), (3, .int x)], [.int (((((x - (nI i)) * 3) + (nI i)) - v) * 2)], (zsh ++ vs, (zup (zup (zup (zup (zup (zup (zup (zup (zup (zup (zup (zup (zup (zup mi 51 1 0) 51 2 5) 51 3 (nI i)) 51 4 v) 52 0 60) 51 1 1) 52 1 12) 51 1 2) 52 2 11) 51 1 3) 52 3 30) 51 1 4) 52 4 10) 51 1 5), ml, (zmr g))) rfl ?_
        refine Wp.ret rfl rfl rfl ?_
        exact ⟨rfl, rfl⟩
      · refine Wp.run 5 (7, [(0, .ref 66), (1, .int (nI i)), (2, .int 2), (3, .int x)], [.int (nI i), .ref 66], (zsh ++ vs, (zup (zup (zup (zup (zup (zup (zup (zup (zup (zup (zup (zup (zup (zup (zup mi 51 1 0) 51 2 5) 51 3 (nI i)) 51 4 v) 52 0 60) 51 1 1) 52 1 12) 51 1 2) 52 2 11) 51 1 3) 52 3 30) 51 1 4) 52 4 10) 51 1 5) 66 24 0), ml, (zmr g))) rfl ?_
        refine Wp.call (as := [.ref 66, .int (nI i)]) (rest := []) rfl rfl rfl rfl rfl (Nat.le_of_ble_eq_true rfl) (Nat.le_of_ble_eq_true rfl) rfl (by decide) (m_isOne_t (mi := (zup (zup (zup (zup (zup (zup (zup (zup (zup (zup (zup (zup (zup (zup (zup mi 51 1 0) 51 2 5) 51 3 (nI i)) 51 4 v) 52 0 60) 51 1 1) 52 1 12) 51 1 2) 52 2 11) 51 1 3) 52 3 30) 51 1 4) 52 4 10) 51 1 5) 66 24 0)) hN h6 hx9) ?_
        rintro _ _ ⟨rfl, rfl⟩
        refine Wp.run 4 (16, [(0, .ref 66), (1, .int (nI i)), (2, .int 2), (3, .int x)], [.int 2, .int 0, .int 2], (zsh ++ vs, (zup (zup (zup (zup (zup (zup (zup (zup (zup (zup (zup (zup (zup (zup (zup mi 51 1 0) 51 2 5) 51 3 (nI i)) 51 4 v) 52 0 60) 51 1 1) 52 1 12) 51 1 2) 52 2 11) 51 1 3) 52 3 30) 51 1 4) 52 4 10) 51 1 5) 66 24 0), ml, (zmr g))) rfl ?_
        refine Wp.call (as := [.int 2, .int 0, .int 2]) (rest := []) rfl rfl rfl rfl rfl (Nat.le_of_ble_eq_true rfl) (Nat.le_of_ble_eq_true rfl) rfl (by decide) (m_isIn_t ha) ?_
        rintro _ _ ⟨rfl, rfl⟩
        refine Wp.run 5 (26, [(0, .ref 66), (1, .int (nI i)), (2, .int 2), (3, .int x)], [.int x, .int 2, .int (nI i), .ref 66], (zsh ++ vs, (zup (zup (zup (zup (zup (zup (zup (zup (zup (zup (zup (zup (zup (zup (zup mi 51 1 0) 51 2 5) 51 3 (nI i)) 51 4 v) 52 0 60) 51 1 1) 52 1 12) 51 1 2) 52 2 11) 51 1 3) 52 3 30) 51 1 4) 52 4 10) 51 1 5) 66 24 0), ml, (zmr g))) rfl ?_
        refine Wp.call (as := [.ref 66, .int (nI i), .int 2, .int x]) (rest := []) rfl rfl rfl rfl rfl (Nat.le_of_ble_eq_true rfl) (Nat.le_of_ble_eq_true rfl) rfl (by decide) (m_al_5_5_2_0 (mi := (zup (zup (zup (zup (zup (zup (zup (zup (zup (zup (zup (zup (zup (zup (zup mi 51 1 0) 51 2 5) 51 3 (nI i)) 51 4 v) 52 0 60) 51 1 1) 52 1 12) 51 1 2) 52 2 11) 51 1 3) 52 3 30) 51 1 4) 52 4 10) 51 1 5) 66 24 0)) (x := x) (v := v) (i := i) hi6 rfl es0 hv k79 k80) ?_
        rintro _ _ ⟨rfl, rfl⟩
        refine Wp.run 1 (33, [(0, .ref 66), (1, .int (nI i)), (2, .int 2), (3, .int x)], [.int (((((x - (nI i)) * 3) + (nI i)) - v) * 2)], (zsh ++ vs, (zup (zup (zup (zup (zup (zup (zup (zup (zup (zup (zup (zup (zup (zup (zup (zup (zup (zup (zup (zup (zup (zup (zup (zup (zup mi 51 1 0) 51 2 5) 51 3 (nI i)) 51 4 v) 52 0 60) 51 1 1) 52 1 12) 51 1 2) 52 2 11) 51 1 3) 52 3 30) 51 1 4) 52 4 10) 51 1 5) 66 24 0) 81 0 60) 66 24 1) 81 1 12) 66 24 2) 81 2 11) 66 24 3) 81 3 30) 66 24 4) 81 4 10) 66 24 5), ml, (zmr g))) rfl ?_
        refine Wp.ret rfl rfl rfl ?_
        exact ⟨rfl, rfl⟩
      · refine (I.act (fun b p51 p52 p66 p81 => by rw [zup_ne p66, zup_ne p81, zup_ne p66, zup_ne p81, zup_ne p66, zup_ne p81, zup_ne p66, zup_ne p81, zup_ne p66, zup_ne p81, zup_ne p66, zup_ne p51, zup_ne p52, zup_ne p51, zup_ne p52, zup_ne p51, zup_ne p52, zup_ne p51, zup_ne p52, zup_ne p51, zup_ne p52, zup_ne p51, zup_ne p51, zup_ne p51, zup_ne p51]) (fun k hk => by rw [zup_rd hk, zup_ne (by decide), zup_rd hk, zup_ne (by decide), zup_rd hk, zup_ne (by decide), zup_rd hk, zup_ne (by decide), zup_rd hk, zup_ne (by decide), zup_rd hk, zup_ne (by decide), zup_ne (by decide), zup_ne (by decide), zup_ne (by decide), zup_ne (by decide), zup_ne (by decide), zup_ne (by decide), zup_ne (by decide), zup_ne (by decide), zup_ne (by decide), zup_ne (by decide), zup_ne (by decide), zup_ne (by decide), zup_ne (by decide)]) ⟨5, by decide, rfl, rfl, fun k h1 h2 => by
          rcases (show k = 0 ∨ k = 1 ∨ k = 2 ∨ k = 3 ∨ k = 4 by omega) with rfl | rfl | rfl | rfl | rfl <;> rfl⟩).x
  · rcases (show q = 0 ∨ q = 1 ∨ q = 2 by omega) with rfl | rfl | rfl
    · refine SIM.u (x := (x + (nI i)) ^^^ v) (m1 := (zup (zup (zup (zup (zup (zup (zup (zup mi 51 1 0) 51 2 6) 51 3 (nI i)) 51 4 v) 52 0 71) 51 1 1) 52 1 10) 51 1 2)) (l1 := ml) (m2 := (zup (zup (zup (zup (zup (zup (zup (zup (zup (zup (zup (zup (zup mi 51 1 0) 51 2 6) 51 3 (nI i)) 51 4 v) 52 0 71) 51 1 1) 52 1 10) 51 1 2) 66 24 0) 81 0 71) 66 24 1) 81 1 10) 66 24 2)) (l2 := ml) (dc := 20) (dm := 20) (by decide) (by decide) ?_ ?_ ?_
      · refine Wp.run 2 (4, [(0, .ref 0), (1, .int (nI i)), (2, .int 0), (3, .int x)], [.ref 51], (zsh ++ vs, mi, ml, (zmr g))) rfl ?_
        refine Wp.call (as := [.ref 51]) (rest := []) rfl rfl rfl rfl rfl (Nat.le_of_ble_eq_true rfl) (Nat.le_of_ble_eq_true rfl) rfl (by decide) (c_clear) ?_
        rintro _ _ ⟨rfl, rfl⟩
        refine Wp.run 3 (12, [(0, .ref 0), (1, .int (nI i)), (2, .int 0), (3, .int x)], [.int (nI i), .ref 1], (zsh ++ vs, (zup mi 51 1 0), ml, (zmr g))) rfl ?_
        refine Wp.call (as := [.ref 1, .int (nI i)]) (rest := []) rfl rfl rfl rfl rfl (Nat.le_of_ble_eq_true rfl) (Nat.le_of_ble_eq_true rfl) rfl (by decide) (c_has_t (mi := (zup mi 51 1 0)) hn h6 hx9) ?_
        rintro _ _ ⟨rfl, rfl⟩
        refine Wp.run 3 (20, [(0, .ref 0), (1, .int (nI i)), (2, .int 0), (3, .int x)], [.int 2, .int 0], (zsh ++ vs, (zup mi 51 1 0), ml, (zmr g))) rfl ?_
        refine Wp.call (as := [.int 0, .int 2]) (rest := []) rfl rfl rfl rfl rfl (Nat.le_of_ble_eq_true rfl) (Nat.le_of_ble_eq_true rfl) rfl (by decide) (c_within_t ha) ?_
        rintro _ _ ⟨rfl, rfl⟩
        refine Wp.run 8 (39, [(0, .ref 0), (1, .int (nI i)), (2, .int 0), (3, .int x)], [.int x, .int 0, .int (nI i), .ref 1, .ref 51], (zsh ++ vs, (zup mi 51 1 0), ml, (zmr g))) rfl ?_
        refine Wp.call (as := [.ref 51, .ref 1, .int (nI i), .int 0, .int x]) (rest := []) rfl rfl rfl rfl rfl (Nat.le_of_ble_eq_true rfl) (Nat.le_of_ble_eq_true rfl) rfl (by decide) (c_begin_6_0 (mi := (zup mi 51 1 0)) (x := x) (v := v) (i := i) hi6 rfl ec ev) ?_
        rintro _ _ ⟨rfl, rfl⟩
        refine Wp.run 0 (42, [(0, .ref 0), (1, .int (nI i)), (2, .int 0), (3, .int x)], [.int ((x + (nI i)) ^^^ v)], (zsh ++ vs, (zup (zup (zup (zup (zup (zup (zup (zup mi 51 1 0) 51 2 6) 51 3 (nI i)) 51 4 v) 52 0 71) 51 1 1) 52 1 10) 51 1 2), ml, (zmr g))) rfl ?_
        refine Wp.ret rfl rfl rfl ?_
        exact ⟨rfl, rfl⟩
      · refine Wp.run 5 (7, [(0, .ref 66), (1, .int (nI i)), (2, .int 0), (3, .int x)], [.int (nI i), .ref 66], (zsh ++ vs, (zup (zup (zup (zup (zup (zup (zup (zup (zup mi 51 1 0) 51 2 6) 51 3 (nI i)) 51 4 v) 52 0 71) 51 1 1) 52 1 10) 51 1 2) 66 24 0), ml, (zmr g))) rfl ?_
        refine Wp.call (as := [.ref 66, .int (nI i)]) (rest := []) rfl rfl rfl rfl rfl (Nat.le_of_ble_eq_true rfl) (Nat.le_of_ble_eq_true rfl) rfl (by decide) (m_isOne_t (mi := (zup (zup (zup (zup (zup (zup (zup (zup (zup mi 51 1 0) 51 2 6) 51 3 (nI i)) 51 4 v) 52 0 71) 51 1 1) 52 1 10) 51 1 2) 66 24 0)) hN h6 hx9) ?_
        rintro _ _ ⟨rfl, rfl⟩
        refine Wp.run 4 (16, [(0, .ref 66), (1, .int (nI i)), (2, .int 0), (3, .int x)], [.int 2, .int 0, .int 0], (zsh ++ vs, (zup (zup (zup (zup (zup (zup (zup (zup (zup mi 51 1 0) 51 2 6) 51 3 (nI i)) 51 4 v) 52 0 71) 51 1 1) 52 1 10) 51 1 2) 66 24 0), ml, (zmr g))) rfl ?_
        refine Wp.call (as := [.int 0, .int 0, .int 2]) (rest := []) rfl rfl rfl rfl rfl (Nat.le_of_ble_eq_true rfl) (Nat.le_of_ble_eq_true rfl) rfl (by decide) (m_isIn_t ha) ?_
        rintro _ _ ⟨rfl, rfl⟩
        refine Wp.run 5 (26, [(0, .ref 66), (1, .int (nI i)), (2, .int 0), (3, .int x)], [.int x, .int 0, .int (nI i), .ref 66], (zsh ++ vs, (zup (zup (zup (zup (zup (zup (zup (zup (zup mi 51 1 0) 51 2 6) 51 3 (nI i)) 51 4 v) 52 0 71) 51 1 1) 52 1 10) 51 1 2) 66 24 0), ml, (zmr g))) rfl ?_
        refine Wp.call (as := [.ref 66, .int (nI i), .int 0, .int x]) (rest := []) rfl rfl rfl rfl rfl (Nat.le_of_ble_eq_true rfl) (Nat.le_of_ble_eq_true rfl) rfl (by decide) (m_al_6_6_0_0 (mi := (zup (zup (zup (zup (zup (zup (zup (zup (zup mi 51 1 0) 51 2 6) 51 3 (nI i)) 51 4 v) 52 0 71) 51 1 1) 52 1 10) 51 1 2) 66 24 0)) (x := x) (v := v) (i := i) hi6 rfl es0 hv k79 k80) ?_
        rintro _ _ ⟨rfl, rfl⟩
        refine Wp.run 1 (33, [(0, .ref 66), (1, .int (nI i)), (2, .int 0), (3, .int x)], [.int ((x + (nI i)) ^^^ v)], (zsh ++ vs, (zup (zup (zup (zup (zup (zup (zup (zup (zup (zup (zup (zup (zup mi 51 1 0) 51 2 6) 51 3 (nI i)) 51 4 v) 52 0 71) 51 1 1) 52 1 10) 51 1 2) 66 24 0) 81 0 71) 66 24 1) 81 1 10) 66 24 2), ml, (zmr g))) rfl ?_
        refine Wp.ret rfl rfl rfl ?_
        exact ⟨rfl, rfl⟩
      · refine (I.act (fun b p51 p52 p66 p81 => by rw [zup_ne p66, zup_ne p81, zup_ne p66, zup_ne p81, zup_ne p66, zup_ne p51, zup_ne p52, zup_ne p51, zup_ne p52, zup_ne p51, zup_ne p51, zup_ne p51, zup_ne p51]) (fun k hk => by rw [zup_rd hk, zup_ne (by decide), zup_rd hk, zup_ne (by decide), zup_rd hk, zup_ne (by decide), zup_ne (by decide), zup_ne (by decide), zup_ne (by decide), zup_ne (by decide), zup_ne (by decide), zup_ne (by decide), zup_ne (by decide)]) ⟨2, by decide, rfl, rfl, fun k h1 h2 => by
          rcases (show k = 0 ∨ k = 1 by omega) with rfl | rfl <;> rfl⟩).x
    · refine SIM.u (x := (((x + (nI i)) ^^^ v) - v) + (2 + (nI i))) (m1 := (zup (zup (zup (zup (zup (zup (zup (zup (zup (zup (zup (zup (zup (zup mi 51 1 0) 51 2 6) 51 3 (nI i)) 51 4 v) 52 0 70) 51 1 1) 52 1 11) 51 1 2) 52 2 71) 51 1 3) 52 3 10) 51 1 4) 52 4 10) 51 1 5)) (l1 := ml) (m2 := (zup (zup (zup (zup (zup (zup (zup (zup (zup (zup (zup (zup (zup (zup (zup (zup (zup (zup (zup (zup (zup (zup (zup (zup (zup mi 51 1 0) 51 2 6) 51 3 (nI i)) 51 4 v) 52 0 70) 51 1 1) 52 1 11) 51 1 2) 52 2 71) 51 1 3) 52 3 10) 51 1 4) 52 4 10) 51 1 5) 66 24 0) 81 0 70) 66 24 1) 81 1 11) 66 24 2) 81 2 71) 66 24 3) 81 3 10) 66 24 4) 81 4 10) 66 24 5)) (l2 := ml) (dc := 20) (dm := 20) (by decide) (by decide) ?_ ?_ ?_
      · refine Wp.run 2 (4, [(0, .ref 0), (1, .int (nI i)), (2, .int 1), (3, .int x)], [.ref 51], (zsh ++ vs, mi, ml, (zmr g))) rfl ?_
        refine Wp.call (as := [.ref 51]) (rest := []) rfl rfl rfl rfl rfl (Nat.le_of_ble_eq_true rfl) (Nat.le_of_ble_eq_true rfl) rfl (by decide) (c_clear) ?_
        rintro _ _ ⟨rfl, rfl⟩
        refine Wp.run 3 (12, [(0, .ref 0), (1, .int (nI i)), (2, .int 1), (3, .int x)], [.int (nI i), .ref 1], (zsh ++ vs, (zup mi 51 1 0), ml, (zmr g))) rfl ?_
        refine Wp.call (as := [.ref 1, .int (nI i)]) (rest := []) rfl rfl rfl rfl rfl (Nat.le_of_ble_eq_true rfl) (Nat.le_of_ble_eq_true rfl) rfl (by decide) (c_has_t (mi := (zup mi 51 1 0)) hn h6 hx9) ?_
        rintro _ _ ⟨rfl, rfl⟩
        refine Wp.run 3 (20, [(0, .ref 0), (1, .int (nI i)), (2, .int 1), (3, .int x)], [.int 2, .int 1], (zsh ++ vs, (zup mi 51 1 0), ml, (zmr g))) rfl ?_
        refine Wp.call (as := [.int 1, .int 2]) (rest := []) rfl rfl rfl rfl rfl (Nat.le_of_ble_eq_true rfl) (Nat.le_of_ble_eq_true rfl) rfl (by decide) (c_within_t ha) ?_
        rintro _ _ ⟨rfl, rfl⟩
        refine Wp.run 8 (39, [(0, .ref 0), (1, .int (nI i)), (2, .int 1), (3, .int x)], [.int x, .int 1, .int (nI i), .ref 1, .ref 51], (zsh ++ vs, (zup mi 51 1 0), ml, (zmr g))) rfl ?_
        refine Wp.call (as := [.ref 51, .ref 1, .int (nI i), .int 1, .int x]) (rest := []) rfl rfl rfl rfl rfl (Nat.le_of_ble_eq_true rfl) (Nat.le_of_ble_eq_true rfl) rfl (by decide) (c_begin_6_1 (mi := (zup mi 51 1 0)) (x := x) (v := v) (i := i) hi6 rfl ec ev) ?_
        rintro _ _ ⟨rfl, rfl⟩
        refine Wp.run 0 (42, [(0, .ref 0), (1, .int (nI i)), (2, .int 1), (3, .int x)], [.int ((((x + (nI i)) ^^^ v) - v) + (2 + (nI i)))], (zsh ++ vs, (zup (zup (zup (zup (zup (zup (zup (zup (zup (zup (zup (zup (zup (zup mi 51 1 0) 51 2 6) 51 3 (nI i)) 51 4 v) 52 0 70) 51 1 1) 52 1 11) 51 1 2) 52 2 71) 51 1 3) 52 3 10) 51 1 4) 52 4 10) 51 1 5), ml, (zmr g))) rfl ?_
        refine Wp.ret rfl rfl rfl ?_
        exact ⟨rfl, rfl⟩
      · refine Wp.run 5 (7, [(0, .ref 66), (1, .int (nI i)), (2, .int 1), (3, .int x)], [.int (nI i), .ref 66], (zsh ++ vs, (zup (zup (zup (zup (zup (zup (zup (zup (zup (zup (zup (zup (zup (zup (zup mi 51 1 0) 51 2 6) 51 3 (nI i)) 51 4 v) 52 0 70) 51 1 1) 52 1 11) 51 1 2) 52 2 71) 51 1 3) 52 3 10) 51 1 4) 52 4 10) 51 1 5) 66 24 0), ml, (zmr g))) rfl ?_
        refine Wp.call (as := [.ref 66, .int (nI i)]) (rest := []) rfl rfl rfl rfl rfl (Nat.le_of_ble_eq_true rfl) (Nat.le_of_ble_eq_true rfl) rfl (by decide) (m_isOne_t (mi := (zup (zup (zup (zup (zup (zup (zup (zup (zup (zup (zup (zup (zup (zup (zup mi 51 1 0) 51 2 6) 51 3 (nI i)) 51 4 v) 52 0 70) 51 1 1) 52 1 11) 51 1 2) 52 2 71) 51 1 3) 52 3 10) 51 1 4) 52 4 10) 51 1 5) 66 24 0)) hN h6 hx9) ?_
        rintro _ _ ⟨rfl, rfl⟩
        refine Wp.run 4 (16, [(0, .ref 66), (1, .int (nI i)), (2, .int 1), (3, .int x)], [.int 2, .int 0, .int 1], (zsh ++ vs, (zup (zup (zup (zup (zup (zup (zup (zup (zup (zup (zup (zup (zup (zup (zup mi 51 1 0) 51 2 6) 51 3 (nI i)) 51 4 v) 52 0 70) 51 1 1) 52 1 11) 51 1 2) 52 2 71) 51 1 3) 52 3 10) 51 1 4) 52 4 10) 51 1 5) 66 24 0), ml, (zmr g))) rfl ?_
        refine Wp.call (as := [.int 1, .int 0, .int 2]) (rest := []) rfl rfl rfl rfl rfl (Nat.le_of_ble_eq_true rfl) (Nat.le_of_ble_eq_true rfl) rfl (by decide) (m_isIn_t ha) ?_
        rintro _ _ ⟨rfl, rfl⟩
        refine Wp.run 5 (26, [(0, .ref 66), (1, .int (nI i)), (2, .int 1), (3, .int x)], [.int x, .int 1, .int (nI i), .ref 66], (zsh ++ vs, (zup (zup (zup (zup (zup (zup (zup (zup (zup (zup (zup (zup (zup (zup (zup mi 51 1 0) 51 2 6) 51 3 (nI i)) 51 4 v) 52 0 70) 51 1 1) 52 1 11) 51 1 2) 52 2 71) 51 1 3) 52 3 10) 51 1 4) 52 4 10) 51 1 5) 66 24 0), ml, (zmr g))) rfl ?_
        refine Wp.call (as := [.ref 66, .int (nI i), .int 1, .int x]) (rest := []) rfl rfl rfl rfl rfl (Nat.le_of_ble_eq_true rfl) (Nat.le_of_ble_eq_true rfl) rfl (by decide) (m_al_6_6_1_0 (mi := (zup (zup (zup (zup (zup (zup (zup (zup (zup (zup (zup (zup (zup (zup (zup mi 51 1 0) 51 2 6) 51 3 (nI i)) 51 4 v) 52 0 70) 51 1 1) 52 1 11) 51 1 2) 52 2 71) 51 1 3) 52 3 10) 51 1 4) 52 4 10) 51 1 5) 66 24 0)) (x := x) (v := v) (i := i) hi6 rfl es0 hv k79 k80) ?_
        rintro _ _ ⟨rfl, rfl⟩
        refine Wp.run 1 (33, [(0, .ref 66), (1, .int (nI i)), (2, .int 1), (3, .int x)], [.int ((((x + (nI i)) ^^^ v) - v) + (2 + (nI i)))], (zsh ++ vs, (zup (zup (zup (zup (zup (zup (zup (zup (zup (zup (zup (zup (zup (zup (zup (zup (zup (zup (zup (zup (zup (zup (zup (zup (zup mi 51 1 0) 51 2 6) 51 3 (nI i)) 51 4 v) 52 0 70) 51 1 1) 52 1 11) 51 1 2) 52 2 71) 51 1 3) 52 3 10) 51 1 4) 52 4 10) 51 1 5) 66 24 0) 81 0 70) 66 24 1) 81 1 11) 66 24 2) 81 2 71) 66 24 3) 81 3 10) 66 24 4) 81 4 10) 66 24 5), ml, (zmr g))) rfl ?_
        refine Wp.ret rfl rfl rfl ?_
        exact ⟨rfl, rfl⟩
      · refine (I.act (fun b p51 p52 p66 p81 => by rw [zup_ne p66, zup_ne p81, zup_ne p66, zup_ne p81, zup_ne p66, zup_ne p81, zup_ne p66, zup_ne p81, zup_ne p66, zup_ne p81, zup_ne p66, zup_ne p51, zup_ne p52, zup_ne p51, zup_ne p52, zup_ne p51, zup_ne p52, zup_ne p51, zup_ne p52, zup_ne p51, zup_ne p52, zup_ne p51, zup_ne p51, zup_ne p51, zup_ne p51]) (fun k hk => by rw [zup_rd hk, zup_ne (by decide), zup_rd hk, zup_ne (by decide), zup_rd hk, zup_ne (by decide), zup_rd hk, zup_ne (by decide), zup_rd hk, zup_ne (by decide), zup_rd hk, zup_ne (by decide), zup_ne (by decide), zup_ne (by decide), zup_ne (by decide), zup_ne (by decide), zup_ne (by decide), zup_ne (by decide), zup_ne (by decide), zup_ne (by decide), zup_ne (by decide), zup_ne (by decide), zup_ne (by decide), zup_ne (by decide), zup_ne (by decide)]) ⟨5, by decide, rfl, rfl, fun k h1 h2 => by
          rcases (show k = 0 ∨ k = 1 ∨ k = 2 ∨ k = 3 ∨ k = 4 by omega) with rfl | rfl | rfl | rfl | rfl <;> rfl⟩).x
    · refine SIM.u (x := (((((x + (nI i)) ^^^ v) - v) + (2 + (nI i))) * 2) + ((((1 + (nI i)) ^^^ v) - v) + (2 + (nI i)))) (m1 := (zup (zup (zup (zup (zup (zup (zup (zup (zup (zup (zup (zup (zup (zup (zup (zup (zup (zup (zup (zup (zup (zup (zup (zup (zup (zup (zup (zup mi 51 1 0) 51 2 6) 51 3 (nI i)) 51 4 v) 52 0 40) 51 1 1) 52 1 12) 51 1 2) 52 2 70) 51 1 3) 52 3 11) 51 1 4) 52 4 71) 51 1 5) 52 5 10) 51 1 6) 52 6 10) 51 1 7) 52 7 70) 51 1 8) 52 8 11) 51 1 9) 52 9 71) 51 1 10) 52 10 10) 51 1 11) 52 11 10) 51 1 12)) (l1 := ml) (m2 := (zup (zup (zup (zup (zup (zup (zup (zup (zup (zup (zup (zup (zup (zup (zup (zup (zup (zup (zup (zup (zup (zup (zup (zup (zup (zup (zup (zup (zup (zup (zup (zup (zup (zup (zup (zup (zup (zup (zup (zup (zup (zup (zup (zup (zup (zup (zup (zup (zup (zup (zup (zup (zup mi 51 1 0) 51 2 6) 51 3 (nI i)) 51 4 v) 52 0 40) 51 1 1) 52 1 12) 51 1 2) 52 2 70) 51 1 3) 52 3 11) 51 1 4) 52 4 71) 51 1 5) 52 5 10) 51 1 6) 52 6 10) 51 1 7) 52 7 70) 51 1 8) 52 8 11) 51 1 9) 52 9 71) 51 1 10) 52 10 10) 51 1 11) 52 11 10) 51 1 12) 66 24 0) 81 0 40) 66 24 1) 81 1 12) 66 24 2) 81 2 70) 66 24 3) 81 3 11) 66 24 4) 81 4 71) 66 24 5) 81 5 10) 66 24 6) 81 6 10) 66 24 7) 81 7 70) 66 24 8) 81 8 11) 66 24 9) 81 9 71) 66 24 10) 81 10 10) 66 24 11) 81 11 10) 66 24 12)) (l2 := ml) (dc := 20) (dm := 20) (by decide) (by decide) ?_ ?_ ?_
      · refine Wp.run 2 (4, [(0, .ref 0), (1, .int (nI i)), (2, .int 2), (3, .int x)], [.ref 51], (zsh ++ vs, mi, ml, (zmr g))) rfl ?_
        refine Wp.call (as := [.ref 51]) (rest := []) rfl rfl rfl rfl rfl (Nat.le_of_ble_eq_true rfl) (Nat.le_of_ble_eq_true rfl) rfl (by decide) (c_clear) ?_
        rintro _ _ ⟨rfl, rfl⟩
        refine Wp.run 3 (12, [(0, .ref 0), (1, .int (nI i)), (2, .int 2), (3, .int x)], [.int (nI i), .ref 1], (zsh ++ vs, (zup mi 51 1 0), ml, (zmr g))) rfl ?_
        refine Wp.call (as := [.ref 1, .int (nI i)]) (rest := []) rfl rfl rfl rfl rfl (Nat.le_of_ble_eq_true rfl) (Nat.le_of_ble_eq_true rfl) rfl (by decide) (c_has_t (mi := (zup mi 51 1 0)) hn h6 hx9) ?_
        rintro _ _ ⟨rfl, rfl⟩
        refine Wp.run 3 (20, [(0, .ref 0), (1, .int (nI i)), (2, .int 2), (3, .int x)], [.int 2, .int 2], (zsh ++ vs, (zup mi 51 1 0), ml, (zmr g))) rfl ?_
        refine Wp.call (as := [.int 2, .int 2]) (rest := []) rfl rfl rfl rfl rfl (Nat.le_of_ble_eq_true rfl) (Nat.le_of_ble_eq_true rfl) rfl (by decide) (c_within_t ha) ?_
        rintro _ _ ⟨rfl, rfl⟩
        refine Wp.run 8 (39, [(0, .ref 0), (1, .int (nI i)), (2, .int 2), (3, .int x)], [.int x, .int 2, .int (nI i), .ref 1, .ref 51], (zsh ++ vs, (zup mi 51 1 0), ml, (zmr g))) rfl ?_
        refine Wp.call (as := [.ref 51, .ref 1, .int (nI i), .int 2, .int x]) (rest := []) rfl rfl rfl rfl rfl (Nat.le_of_ble_eq_true rfl) (Nat.le_of_ble_eq_true rfl) rfl (by decide) (c_begin_6_2 (mi := (zup mi 51 1 0)) (x := x) (v := v) (i := i) hi6 rfl ec ev) ?_
        rintro _ _ ⟨rfl, rfl⟩
        refine Wp.run 0 (42, [(0, .ref 0), (1, .int (nI i)), (2, .int 2), (3, .int x)], [.int ((((((x + (nI i)) ^^^ v) - v) + (2 + (nI i))) * 2) + ((((1 + (nI i)) ^^^ v) - v) + (2 + (nI i))))], (zsh ++ vs, (zup (zup (zup (zup (zup (zup (zup (zup (zup (zup (zup (zup (zup (zup (zup (zup (zup (zup (zup (zup (zup (zup (zup (zup (zup (zup (zup (zup mi 51 1 0) 51 2 6) 51 3 (nI i)) 51 4 v) 52 0 40) 51 1 1) 52 1 12) 51 1 2) 52 2 70) 51 1 3) 52 3 11) 51 1 4) 52 4 71) 51 1 5) 52 5 10) 51 1 6) 52 6 10) 51 1 7) 52 7 70) 51 1 8) 52 8 11) 51 1 9) 52 9 71) 51 1 10) 52 10 10) 51 1 11) 52 11 10) 51 1 12), ml, (zmr g))) rfl ?_
        refine Wp.ret rfl rfl rfl ?_
        exact ⟨rfl, rfl⟩
      · refine Wp.run 5 (7, [(0, .ref 66), (1, .int (nI i)), (2, .int 2), (3, .int x)], [.int (nI i), .ref 66], (zsh ++ vs, (zup (zup (zup (zup (zup (zup (zup (zup (zup (zup (zup (zup (zup (zup (zup (zup (zup (zup (zup (zup (zup (zup (zup (zup (zup (zup (zup (zup (zup mi 51 1 0) 51 2 6) 51 3 (nI i)) 51 4 v) 52 0 40) 51 1 1) 52 1 12) 51 1 2) 52 2 70) 51 1 3) 52 3 11) 51 1 4) 52 4 71) 51 1 5) 52 5 10) 51 1 6) 52 6 10) 51 1 7) 52 7 70) 51 1 8) 52 8 11) 51 1 9) 52 9 71) 51 1 10) 52 10 10) 51 1 11) 52 11 10) 51 1 12) 66 24 0), ml, (zmr g))) rfl ?_
        refine Wp.call (as := [.ref 66, .int (nI i)]) (rest := []) rfl rfl rfl rfl rfl (Nat.le_of_ble_eq_true rfl) (Nat.le_of_ble_eq_true rfl) rfl (by decide) (m_isOne_t (mi := (zup (zup (zup (zup (zup (zup (zup (zup (zup (zup (zup (zup (zup (zup (zup (zup (zup (zup (zup (zup (zup (zup (zup (zup (zup (zup (zup (zup (zup mi 51 1 0) 51 2 6) 51 3 (nI i)) 51 4 v) 52 0 40) 51 1 1) 52 1 12) 51 1 2) 52 2 70) 51 1 3) 52 3 11) 51 1 4) 52 4 71) 51 1 5) 52 5 10) 51 1 6) 52 6 10) 51 1 7) 52 7 70) 51 1 8) 52 8 11) 51 1 9) 52 9 71) 51 1 10) 52 10 10) 51 1 11) 52 11 10) 51 1 12) 66 24 0)) hN h6 hx9) ?_
        rintro _ _ ⟨rfl, rfl⟩
        refine Wp.run 4 (16, [(0, .ref 66), (1, .int (nI i)), (2, .int 2), (3, .int x)], [.int 2, .int 0, .int 2], (zsh ++ vs, (zup (zup (zup (zup (zup (zup (zup (zup (zup (zup (zup (zup (zup (zup (zup (zup (zup (zup (zup (zup (zup (zup (zup (zup (zup (zup (zup (zup (zup mi 51 1 0) 51 2 6) 51 3 (nI i)) 51 4 v) 52 0 40) 51 1 1) 52 1 12) 51 1 2) 52 2 70) 51 1 3) 52 3 11) 51 1 4) 52 4 71) 51 1 5) 52 5 10) 51 1 6) 52 6 10) 51 1 7) 52 7 70) 51 1 8) 52 8 11) 51 1 9) 52 9 71) 51 1 10) 52 10 10) 51 1 11) 52 11 10) 51 1 12) 66 24 0), ml, (zmr g))) rfl ?_
        refine Wp.call (as := [.int 2, .int 0, .int 2]) (rest := []) rfl rfl rfl rfl rfl (Nat.le_of_ble_eq_true rfl) (Nat.le_of_ble_eq_true rfl) rfl (by decide) (m_isIn_t ha) ?_
        rintro _ _ ⟨rfl, rfl⟩
        refine Wp.run 5 (26, [(0, .ref 66), (1, .int (nI i)), (2, .int 2), (3, .int x)], [.int x, .int 2, .int (nI i), .ref 66], (zsh ++ vs, (zup (zup (zup (zup (zup (zup (zup (zup (zup (zup (zup (zup (zup (zup (zup (zup (zup (zup (zup (zup (zup (zup (zup (zup (zup (zup (zup (zup (zup mi 51 1 0) 51 2 6) 51 3 (nI i)) 51 4 v) 52 0 40) 51 1 1) 52 1 12) 51 1 2) 52 2 70) 51 1 3) 52 3 11) 51 1 4) 52 4 71) 51 1 5) 52 5 10) 51 1 6) 52 6 10) 51 1 7) 52 7 70) 51 1 8) 52 8 11) 51 1 9) 52 9 71) 51 1 10) 52 10 10) 51 1 11) 52 11 10) 51 1 12) 66 24 0), ml, (zmr g))) rfl ?_
        refine Wp.call (as := [.ref 66, .int (nI i), .int 2, .int x]) (rest := []) rfl rfl rfl rfl rfl (Nat.le_of_ble_eq_true rfl) (Nat.le_of_ble_eq_true rfl) rfl (by decide) (m_al_6_6_2_0 (mi := (zup (zup (zup (zup (zup (zup (zup (zup (zup (zup (zup (zup (zup (zup (zup (zup (zup (zup (zup (zup (zup (zup (zup (zup (zup (zup (zup (zup (zup mi 51 1 0) 51 2 6) 51 3 (nI i)) 51 4 v) 52 0 40) 51 1 1) 52 1 12) 51 1 2) 52 2 70) 51 1 3) 52 3 11) 51 1 4) 52 4 71) 51 1 5) 52 5 10) 51 1 6) 52 6 10) 51 1 7) 52 7 70) 51 1 8) 52 8 11) 51 1 9) 52 9 71) 51 1 10) 52 10 10) 51 1 11) 52 11 10) 51 1 12) 66 24 0)) (x := x) (v := v) (i := i) hi6 rfl es0 hv k79 k80) ?_
        rintro _ _ ⟨rfl, rfl⟩
        refine Wp.run 1 (33, [(0, .ref 66), (1, .int (nI i)), (2, .int 2), (3, .int x)], [.int ((((((x + (nI i)) ^^^ v) - v) + (2 + (nI i))) * 2) + ((((1 + (nI i)) ^^^ v) - v) + (2 + (nI i))))], (zsh ++ vs, (zup (zup (zup (zup (zup (zup (zup (zup (zup (zup (zup (zup (zup (zup (zup (zup (zup (zup (zup (zup (zup (zup (zup (zup (zup (zup (zup (zup (zup (zup (zup (zup (zup (zup (zup (zup (zup (zup (zup (zup (zup (zup (zup (zup (zup (zup (zup (zup (zup (zup (zup (zup (zup mi 51 1 0) 51 2 6) 51 3 (nI i)) 51 4 v) 52 0 40) 51 1 1) 52 1 12) 51 1 2) 52 2 70) 51 1 3) 52 3 11) 51 1 4) 52 4 71) 51 1 5) 52 5 10) 51 1 6) 52 6 10) 51 1 7) 52 7 70) 51 1 8) 52 8 11) 51 1 9) 52 9 71) 51 1 10) 52 10 10) 51 1 11) 52 11 10) 51 1 12) 66 24 0) 81 0 40) 66 24 1) 81 1 12) 66 24 2) 81 2 70) 66 24 3) 81 3 11) 66 24 4) 81 4 71) 66 24 5) 81 5 10) 66 24 6) 81 6 10) 66 24 7) 81 7 70) 66 24 8) 81 8 11) 66 24 9) 81 9 71) 66 24 10) 81 10 10) 66 24 11) 81 11 10) 66 24 12), ml, (zmr g))) rfl ?_
        refine Wp.ret rfl rfl rfl ?_
        exact ⟨rfl, rfl⟩
      · refine (I.act (fun b p51 p52 p66 p81 => by rw [zup_ne p66, zup_ne p81, zup_ne p66, zup_ne p81, zup_ne p66, zup_ne p81, zup_ne p66, zup_ne p81, zup_ne p66, zup_ne p81, zup_ne p66, zup_ne p81, zup_ne p66, zup_ne p81, zup_ne p66, zup_ne p81, zup_ne p66, zup_ne p81, zup_ne p66, zup_ne p81, zup_ne p66, zup_ne p81, zup_ne p66, zup_ne p81, zup_ne p66, zup_ne p51, zup_ne p52, zup_ne p51, zup_ne p52, zup_ne p51, zup_ne p52, zup_ne p51, zup_ne p52, zup_ne p51, zup_ne p52, zup_ne p51, zup_ne p52, zup_ne p51, zup_ne p52, zup_ne p51, zup_ne p52, zup_ne p51, zup_ne p52, zup_ne p51, zup_ne p52, zup_ne p51, zup_ne p52, zup_ne p51, zup_ne p52, zup_ne p51, zup_ne p51, zup_ne p51, zup_ne p51]) (fun k hk => by rw [zup_rd hk, zup_ne (by decide), zup_rd hk, zup_ne (by decide), zup_rd hk, zup_ne (by decide), zup_rd hk, zup_ne (by decide), zup_rd hk, zup_ne (by decide), zup_rd hk, zup_ne (by decide), zup_rd hk, zup_ne (by decide), zup_rd hk, zup_ne (by decide), zup_rd hk, zup_ne (by decide), zup_rd hk, zup_ne (by decide), zup_rd hk, zup_ne (by decide), zup_rd hk, zup_ne (by decide), zup_rd hk, zup_ne (by decide), zup_ne (by decide), zup_ne (by decide), zup_ne (by decide), zup_ne (by decide), zup_ne (by decide), zup_ne (by decide), zup_ne (by decide), zup_ne (by decide), zup_ne (by decide), zup_ne (by decide), zup_ne (by decide), zup_ne (by decide), zup_ne (by decide), zup_ne (by decide), zup_ne (by decide), zup_ne (by decide), zup_ne (by decide), zup_ne (by decide), zup_ne (by decide), zup_ne (by decide), zup_ne (by decide), zup_ne (by decide), zup_ne (by decide), zup_ne (by decide), zup_ne (by decide), zup_ne (by decide), zup_ne (by decide)]) ⟨12, by decide, rfl, rfl, fun k h1 h2 => by
          rcases (show k = 0 ∨ k = 1 ∨ k = 2 ∨ k = 3 ∨ k = 4 ∨ k = 5 ∨ k = 6 ∨ k = 7 ∨ k = 8 ∨ k = 9 ∨ k = 10 ∨ k = 11 by omega) with rfl | rfl | rfl | rfl | rfl | rfl | rfl | rfl | rfl | rfl | rfl | rfl <;> rfl⟩).x
