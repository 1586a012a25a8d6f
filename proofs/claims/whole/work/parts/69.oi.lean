/-! THE CALLS: part, both sides -/
theorem sim_part {E : zEn} {nv : Nat} {VD : Nat → zV} {NL : Nat → Nat} {n dd : Nat} {vs : List (Nat × Nat)} {mi : Nat → Nat → Int32} {ml : Nat → Nat → Int64} {g : Nat → Nat → Option Nat} (I : INV nv VD NL n dd vs mi ml g) (x w : Int32) : SIM E vs mi ml g pg_H_part pg_M_part [.int x, .int w] := by
  have B := I.1.1
  have h6 := B.1.2.1
  have hn := B.2.1
  have hN := B.1.1
  have hd := B.1.2.2.1
  have hdd := I.1.2
  by_cases hp : 0 ≤ x ∧ x ≤ 7
  rotate_left
  · refine SIM.q I (x := -1) (dc := 7) (dm := 27) (by decide) (by decide) ?_ ?_
    · refine Wp.run 2 (3, [(0, .ref 0), (1, .int x), (2, .int w)], [.int 7, .int x], (zsh ++ vs, mi, ml, (zmr g))) rfl ?_
      refine Wp.call (as := [.int x, .int 7]) (rest := []) rfl rfl rfl rfl rfl (Nat.le_of_ble_eq_true rfl) (Nat.le_of_ble_eq_true rfl) rfl (by decide) (c_within_f hp) ?_
      rintro _ _ ⟨rfl, rfl⟩
      refine Wp.run 2 (10, [(0, .ref 0), (1, .int x), (2, .int w)], [.int (-1)], (zsh ++ vs, mi, ml, (zmr g))) rfl ?_
      refine Wp.ret rfl rfl rfl ?_
      exact ⟨rfl, _, _, rfl, SC.rf, fun _ _ _ => rfl⟩
    · intro m g' I' e67 S
      have B' := I'.1.1
      have hn' := B'.2.1
      have hN' := B'.1.1
      have hd' := B'.1.2.2.1
      refine Wp.run 1 (1, [(0, .ref 66), (1, .int x), (2, .int w)], [.int x], (zsh ++ vs, m, ml, (zmr g'))) rfl ?_
      refine Wp.call (as := [.int x]) (rest := []) rfl rfl rfl rfl rfl (Nat.le_of_ble_eq_true rfl) (Nat.le_of_ble_eq_true rfl) rfl (by decide) (m_isPart_f hp) ?_
      rintro _ _ ⟨rfl, rfl⟩
      refine Wp.run 2 (17, [(0, .ref 66), (1, .int x), (2, .int w)], [.int (-1)], (zsh ++ vs, m, ml, (zmr g'))) rfl ?_
      refine Wp.ret rfl rfl rfl ?_
      exact ⟨rfl, _, rfl, SC.rf⟩
  by_cases hw : 0 ≤ w ∧ w ≤ 4
  rotate_left
  · refine SIM.q I (x := -1) (dc := 7) (dm := 27) (by decide) (by decide) ?_ ?_
    · refine Wp.run 2 (3, [(0, .ref 0), (1, .int x), (2, .int w)], [.int 7, .int x], (zsh ++ vs, mi, ml, (zmr g))) rfl ?_
      refine Wp.call (as := [.int x, .int 7]) (rest := []) rfl rfl rfl rfl rfl (Nat.le_of_ble_eq_true rfl) (Nat.le_of_ble_eq_true rfl) rfl (by decide) (c_within_t hp) ?_
      rintro _ _ ⟨rfl, rfl⟩
      refine Wp.run 2 (12, [(0, .ref 0), (1, .int x), (2, .int w)], [.int w], (zsh ++ vs, mi, ml, (zmr g))) rfl ?_
      refine Wp.tsw rfl (zsw_out (nrng hw rfl)) rfl ?_
      refine Wp.run 1 (107, [(0, .ref 0), (1, .int x), (2, .int w)], [.int (-1)], (zsh ++ vs, mi, ml, (zmr g))) rfl ?_
      refine Wp.ret rfl rfl rfl ?_
      exact ⟨rfl, _, _, rfl, SC.rf, fun _ _ _ => rfl⟩
    · intro m g' I' e67 S
      have B' := I'.1.1
      have hn' := B'.2.1
      have hN' := B'.1.1
      have hd' := B'.1.2.2.1
      refine Wp.run 1 (1, [(0, .ref 66), (1, .int x), (2, .int w)], [.int x], (zsh ++ vs, m, ml, (zmr g'))) rfl ?_
      refine Wp.call (as := [.int x]) (rest := []) rfl rfl rfl rfl rfl (Nat.le_of_ble_eq_true rfl) (Nat.le_of_ble_eq_true rfl) rfl (by decide) (m_isPart_t hp) ?_
      rintro _ _ ⟨rfl, rfl⟩
      refine Wp.run 4 (10, [(0, .ref 66), (1, .int x), (2, .int w)], [.int 4, .int 0, .int w], (zsh ++ vs, m, ml, (zmr g'))) rfl ?_
      refine Wp.call (as := [.int w, .int 0, .int 4]) (rest := []) rfl rfl rfl rfl rfl (Nat.le_of_ble_eq_true rfl) (Nat.le_of_ble_eq_true rfl) rfl (by decide) (m_isIn_f hw) ?_
      rintro _ _ ⟨rfl, rfl⟩
      refine Wp.run 2 (17, [(0, .ref 66), (1, .int x), (2, .int w)], [.int (-1)], (zsh ++ vs, m, ml, (zmr g'))) rfl ?_
      refine Wp.ret rfl rfl rfl ?_
      exact ⟨rfl, _, rfl, SC.rf⟩
  obtain ⟨p, hp7, rfl⟩ := rng_of (h := 7) rfl hp
  obtain ⟨q, hq, rfl⟩ := rng_of (h := 4) rfl hw
  rcases (show q = 0 ∨ q = 1 ∨ q = 2 ∨ q = 3 ∨ q = 4 by omega) with rfl | rfl | rfl | rfl | rfl
  · refine SIM.q I (x := mi 67 p) (dc := 7) (dm := 27) (by decide) (by decide) ?_ ?_
    · refine Wp.run 2 (3, [(0, .ref 0), (1, .int (nI p)), (2, .int 0)], [.int 7, .int (nI p)], (zsh ++ vs, mi, ml, (zmr g))) rfl ?_
      refine Wp.call (as := [.int (nI p), .int 7]) (rest := []) rfl rfl rfl rfl rfl (Nat.le_of_ble_eq_true rfl) (Nat.le_of_ble_eq_true rfl) rfl (by decide) (c_within_t hp) ?_
      rintro _ _ ⟨rfl, rfl⟩
      refine Wp.run 7 (56, [(0, .ref 0), (1, .int (nI p)), (2, .int 0)], [.int (nI p), .ref 2], (zsh ++ vs, mi, ml, (zmr g))) rfl ?_
      refine Wp.ialn rfl (by decide) rfl (by omega) (by decide) ?_
      refine Wp.run 0 (57, [(0, .ref 0), (1, .int (nI p)), (2, .int 0)], [.int (mi 2 p)], (zsh ++ vs, mi, ml, (zmr g))) rfl ?_
      refine Wp.ret rfl rfl rfl ?_
      exact ⟨congrArg (fun z => some (Value.int z)) (B.2.2.2.1 p (by omega)), _, _, rfl, SC.rf, fun _ _ _ => rfl⟩
    · intro m g' I' e67 S
      have B' := I'.1.1
      have hn' := B'.2.1
      have hN' := B'.1.1
      have hd' := B'.1.2.2.1
      rw [← e67]
      refine Wp.run 1 (1, [(0, .ref 66), (1, .int (nI p)), (2, .int 0)], [.int (nI p)], (zsh ++ vs, m, ml, (zmr g'))) rfl ?_
      refine Wp.call (as := [.int (nI p)]) (rest := []) rfl rfl rfl rfl rfl (Nat.le_of_ble_eq_true rfl) (Nat.le_of_ble_eq_true rfl) rfl (by decide) (m_isPart_t hp) ?_
      rintro _ _ ⟨rfl, rfl⟩
      refine Wp.run 4 (10, [(0, .ref 66), (1, .int (nI p)), (2, .int 0)], [.int 4, .int 0, .int 0], (zsh ++ vs, m, ml, (zmr g'))) rfl ?_
      refine Wp.call (as := [.int 0, .int 0, .int 4]) (rest := []) rfl rfl rfl rfl rfl (Nat.le_of_ble_eq_true rfl) (Nat.le_of_ble_eq_true rfl) rfl (by decide) (m_isIn_t hw) ?_
      rintro _ _ ⟨rfl, rfl⟩
      refine Wp.run 6 (27, [(0, .ref 66), (1, .int (nI p)), (2, .int 0)], [.int (nI p), .ref 67], (zsh ++ vs, m, ml, (zmr g'))) rfl ?_
      refine Wp.ialn rfl (by decide) rfl (by omega) (by decide) ?_
      refine Wp.run 1 (78, [(0, .ref 66), (1, .int (nI p)), (2, .int 0)], [.int (m 67 p)], (zsh ++ vs, m, ml, (zmr g'))) rfl ?_
      refine Wp.ret rfl rfl rfl ?_
      exact ⟨rfl, _, rfl, SC.rf⟩
  · refine SIM.q I (x := zor (keptF (uN (mi 67))) n >>> (nI p &&& 31) &&& 1) (dc := 7) (dm := 27) (by decide) (by decide) ?_ ?_
    · refine Wp.run 2 (3, [(0, .ref 0), (1, .int (nI p)), (2, .int 1)], [.int 7, .int (nI p)], (zsh ++ vs, mi, ml, (zmr g))) rfl ?_
      refine Wp.call (as := [.int (nI p), .int 7]) (rest := []) rfl rfl rfl rfl rfl (Nat.le_of_ble_eq_true rfl) (Nat.le_of_ble_eq_true rfl) rfl (by decide) (c_within_t hp) ?_
      rintro _ _ ⟨rfl, rfl⟩
      refine Wp.run 5 (62, [(0, .ref 0), (1, .int (nI p)), (2, .int 1)], [.ref 1], (zsh ++ vs, mi, ml, (zmr g))) rfl ?_
      refine Wp.call (as := [.ref 1]) (rest := []) rfl rfl rfl rfl rfl (Nat.le_of_ble_eq_true rfl) (Nat.le_of_ble_eq_true rfl) rfl (by decide) (c_kept_1 hn h6) ?_
      rintro _ _ ⟨rfl, rfl⟩
      refine Wp.run 1 (66, [(0, .ref 0), (1, .int (nI p)), (2, .int 1)], [.int (nI p), .int (zor (sungF (mi 1 2 ^^^ -1) (mi 5)) n)], (zsh ++ vs, mi, ml, (zmr g))) rfl ?_
      refine Wp.call (as := [.int (zor (sungF (mi 1 2 ^^^ -1) (mi 5)) n), .int (nI p)]) (rest := []) rfl rfl rfl rfl rfl (Nat.le_of_ble_eq_true rfl) (Nat.le_of_ble_eq_true rfl) rfl (by decide) (c_bit (zor (sungF (mi 1 2 ^^^ -1) (mi 5)) n) (nI p)) ?_
      rintro _ _ ⟨rfl, rfl⟩
      refine Wp.run 0 (69, [(0, .ref 0), (1, .int (nI p)), (2, .int 1)], [.int ((zor (sungF (mi 1 2 ^^^ -1) (mi 5)) n) >>> (nI p &&& 31) &&& 1)], (zsh ++ vs, mi, ml, (zmr g))) rfl ?_
      refine Wp.ret rfl rfl rfl ?_
      exact ⟨congrArg (fun z => some (Value.int z)) (congrArg (fun z => z >>> (nI p &&& 31) &&& 1) (show zor (sungF (mi 1 2 ^^^ -1) (mi 5)) n = _ from B.kept)), _, _, rfl, SC.rf, fun _ _ _ => rfl⟩
    · intro m g' I' e67 S
      have B' := I'.1.1
      have hn' := B'.2.1
      have hN' := B'.1.1
      have hd' := B'.1.2.2.1
      rw [← e67]
      refine Wp.run 1 (1, [(0, .ref 66), (1, .int (nI p)), (2, .int 1)], [.int (nI p)], (zsh ++ vs, m, ml, (zmr g'))) rfl ?_
      refine Wp.call (as := [.int (nI p)]) (rest := []) rfl rfl rfl rfl rfl (Nat.le_of_ble_eq_true rfl) (Nat.le_of_ble_eq_true rfl) rfl (by decide) (m_isPart_t hp) ?_
      rintro _ _ ⟨rfl, rfl⟩
      refine Wp.run 4 (10, [(0, .ref 66), (1, .int (nI p)), (2, .int 1)], [.int 4, .int 0, .int 1], (zsh ++ vs, m, ml, (zmr g'))) rfl ?_
      refine Wp.call (as := [.int 1, .int 0, .int 4]) (rest := []) rfl rfl rfl rfl rfl (Nat.le_of_ble_eq_true rfl) (Nat.le_of_ble_eq_true rfl) rfl (by decide) (m_isIn_t hw) ?_
      rintro _ _ ⟨rfl, rfl⟩
      refine Wp.run 7 (37, [(0, .ref 66), (1, .int (nI p)), (2, .int 1)], [.ref 66], (zsh ++ vs, m, ml, (zmr g'))) rfl ?_
      refine Wp.call (as := [.ref 66]) (rest := []) rfl rfl rfl rfl rfl (Nat.le_of_ble_eq_true rfl) (Nat.le_of_ble_eq_true rfl) rfl (by decide) (m_keptNow hN' h6) ?_
      rintro _ _ ⟨rfl, rfl⟩
      refine Wp.run 5 (78, [(0, .ref 66), (1, .int (nI p)), (2, .int 1)], [.int (((zor (keptF (uN (m 67))) n) >>> ((nI p) &&& 31)) &&& 1)], (zsh ++ vs, m, ml, (zmr g'))) rfl ?_
      refine Wp.ret rfl rfl rfl ?_
      exact ⟨rfl, _, rfl, SC.rf⟩
  · refine SIM.q I (x := lostN (smV VD) (anV VD) (mi 67) n dd p) (dc := 7) (dm := 27) (by decide) (by decide) ?_ ?_
    · refine Wp.run 2 (3, [(0, .ref 0), (1, .int (nI p)), (2, .int 2)], [.int 7, .int (nI p)], (zsh ++ vs, mi, ml, (zmr g))) rfl ?_
      refine Wp.call (as := [.int (nI p), .int 7]) (rest := []) rfl rfl rfl rfl rfl (Nat.le_of_ble_eq_true rfl) (Nat.le_of_ble_eq_true rfl) rfl (by decide) (c_within_t hp) ?_
      rintro _ _ ⟨rfl, rfl⟩
      refine Wp.run 9 (80, [(0, .ref 0), (1, .int (nI p)), (2, .int 2)], [.int (-1), .int (nI p), .ref 1, .ref 37], (zsh ++ vs, mi, ml, (zmr g))) rfl ?_
      refine Wp.call (as := [.ref 37, .ref 1, .int (nI p), .int (-1)]) (rest := []) rfl rfl rfl rfl rfl (Nat.le_of_ble_eq_true rfl) (Nat.le_of_ble_eq_true rfl) rfl (by decide) (c_lost (p := p) (I.ce (E := E)).1 (I.ce (E := E)).2.1 (I.ce (E := E)).2.2.1 (I.ce (E := E)).2.2.2.1 (I.ce (E := E)).2.2.2.2 B (by omega) (by omega)) ?_
      rintro _ _ ⟨rfl, p1, rfl, k1⟩
      refine Wp.run 0 (83, [(0, .ref 0), (1, .int (nI p)), (2, .int 2)], [.int (lostN (smV VD) (anV VD) (mi 67) n dd p)], (zsh ++ vs, p1, ml, (zmr (zup g 38 3 (g 1 3))))) rfl ?_
      refine Wp.ret rfl rfl rfl ?_
      exact ⟨rfl, _, _, rfl, SC.frB k1, zup38⟩
    · intro m g' I' e67 S
      have B' := I'.1.1
      have hn' := B'.2.1
      have hN' := B'.1.1
      have hd' := B'.1.2.2.1
      rw [← e67]
      refine Wp.run 1 (1, [(0, .ref 66), (1, .int (nI p)), (2, .int 2)], [.int (nI p)], (zsh ++ vs, m, ml, (zmr g'))) rfl ?_
      refine Wp.call (as := [.int (nI p)]) (rest := []) rfl rfl rfl rfl rfl (Nat.le_of_ble_eq_true rfl) (Nat.le_of_ble_eq_true rfl) rfl (by decide) (m_isPart_t hp) ?_
      rintro _ _ ⟨rfl, rfl⟩
      refine Wp.run 4 (10, [(0, .ref 66), (1, .int (nI p)), (2, .int 2)], [.int 4, .int 0, .int 2], (zsh ++ vs, m, ml, (zmr g'))) rfl ?_
      refine Wp.call (as := [.int 2, .int 0, .int 4]) (rest := []) rfl rfl rfl rfl rfl (Nat.le_of_ble_eq_true rfl) (Nat.le_of_ble_eq_true rfl) rfl (by decide) (m_isIn_t hw) ?_
      rintro _ _ ⟨rfl, rfl⟩
      refine Wp.run 11 (54, [(0, .ref 66), (1, .int (nI p)), (2, .int 2)], [.int (nI p), .ref 66], (zsh ++ vs, m, ml, (zmr g'))) rfl ?_
      refine Wp.call (as := [.ref 66, .int (nI p)]) (rest := []) rfl rfl rfl rfl rfl (Nat.le_of_ble_eq_true rfl) (Nat.le_of_ble_eq_true rfl) rfl (by decide) (m_lost (p := p) I'.re (by omega) (by omega)) ?_
      rintro _ _ ⟨rfl, p1, rfl, k1⟩
      refine Wp.run 1 (78, [(0, .ref 66), (1, .int (nI p)), (2, .int 2)], [.int (lostN (smV VD) (anV VD) (m 67) n dd p)], (zsh ++ vs, p1, ml, (zmr g'))) rfl ?_
      refine Wp.ret rfl rfl rfl ?_
      exact ⟨rfl, _, rfl, k1.sc⟩
  · refine SIM.q I (x := (heirN (smV VD) (anV VD) (mi 67) n dd p n).2) (dc := 7) (dm := 27) (by decide) (by decide) ?_ ?_
    · refine Wp.run 2 (3, [(0, .ref 0), (1, .int (nI p)), (2, .int 3)], [.int 7, .int (nI p)], (zsh ++ vs, mi, ml, (zmr g))) rfl ?_
      refine Wp.call (as := [.int (nI p), .int 7]) (rest := []) rfl rfl rfl rfl rfl (Nat.le_of_ble_eq_true rfl) (Nat.le_of_ble_eq_true rfl) rfl (by decide) (c_within_t hp) ?_
      rintro _ _ ⟨rfl, rfl⟩
      refine Wp.run 8 (93, [(0, .ref 0), (1, .int (nI p)), (2, .int 3)], [.int (nI p), .ref 1, .ref 37], (zsh ++ vs, mi, ml, (zmr g))) rfl ?_
      refine Wp.call (as := [.ref 37, .ref 1, .int (nI p)]) (rest := []) rfl rfl rfl rfl rfl (Nat.le_of_ble_eq_true rfl) (Nat.le_of_ble_eq_true rfl) rfl (by decide) (c_heir (p := p) (I.ce (E := E)).1 (I.ce (E := E)).2.1 (I.ce (E := E)).2.2.1 (I.ce (E := E)).2.2.2.1 (I.ce (E := E)).2.2.2.2 B (by omega) (by omega)) ?_
      rintro _ _ ⟨rfl, p1, rfl, k1⟩
      refine Wp.run 0 (96, [(0, .ref 0), (1, .int (nI p)), (2, .int 3)], [.int ((heirN (smV VD) (anV VD) (mi 67) n dd p n).2)], (zsh ++ vs, p1, ml, (zmr (zup g 38 3 (g 1 3))))) rfl ?_
      refine Wp.ret rfl rfl rfl ?_
      exact ⟨rfl, _, _, rfl, SC.frB k1, zup38⟩
    · intro m g' I' e67 S
      have B' := I'.1.1
      have hn' := B'.2.1
      have hN' := B'.1.1
      have hd' := B'.1.2.2.1
      rw [← e67]
      refine Wp.run 1 (1, [(0, .ref 66), (1, .int (nI p)), (2, .int 3)], [.int (nI p)], (zsh ++ vs, m, ml, (zmr g'))) rfl ?_
      refine Wp.call (as := [.int (nI p)]) (rest := []) rfl rfl rfl rfl rfl (Nat.le_of_ble_eq_true rfl) (Nat.le_of_ble_eq_true rfl) rfl (by decide) (m_isPart_t hp) ?_
      rintro _ _ ⟨rfl, rfl⟩
      refine Wp.run 4 (10, [(0, .ref 66), (1, .int (nI p)), (2, .int 3)], [.int 4, .int 0, .int 3], (zsh ++ vs, m, ml, (zmr g'))) rfl ?_
      refine Wp.call (as := [.int 3, .int 0, .int 4]) (rest := []) rfl rfl rfl rfl rfl (Nat.le_of_ble_eq_true rfl) (Nat.le_of_ble_eq_true rfl) rfl (by decide) (m_isIn_t hw) ?_
      rintro _ _ ⟨rfl, rfl⟩
      refine Wp.run 14 (67, [(0, .ref 66), (1, .int (nI p)), (2, .int 3)], [.int (nI p), .ref 66], (zsh ++ vs, m, ml, (zmr g'))) rfl ?_
      refine Wp.call (as := [.ref 66, .int (nI p)]) (rest := []) rfl rfl rfl rfl rfl (Nat.le_of_ble_eq_true rfl) (Nat.le_of_ble_eq_true rfl) rfl (by decide) (m_heir (p := p) I'.re (by omega) (by omega)) ?_
      rintro _ _ ⟨rfl, p1, rfl, k1⟩
      refine Wp.run 1 (78, [(0, .ref 66), (1, .int (nI p)), (2, .int 3)], [.int ((heirN (smV VD) (anV VD) (m 67) n dd p n).2)], (zsh ++ vs, p1, ml, (zmr g'))) rfl ?_
      refine Wp.ret rfl rfl rfl ?_
      exact ⟨rfl, _, rfl, k1.sc⟩
  · refine SIM.q I (x := zsum (holdF (uN (mi 67)) (nI p)) n) (dc := 7) (dm := 27) (by decide) (by decide) ?_ ?_
    · refine Wp.run 2 (3, [(0, .ref 0), (1, .int (nI p)), (2, .int 4)], [.int 7, .int (nI p)], (zsh ++ vs, mi, ml, (zmr g))) rfl ?_
      refine Wp.call (as := [.int (nI p), .int 7]) (rest := []) rfl rfl rfl rfl rfl (Nat.le_of_ble_eq_true rfl) (Nat.le_of_ble_eq_true rfl) rfl (by decide) (c_within_t hp) ?_
      rintro _ _ ⟨rfl, rfl⟩
      refine Wp.run 6 (102, [(0, .ref 0), (1, .int (nI p)), (2, .int 4)], [.int (nI p), .ref 1], (zsh ++ vs, mi, ml, (zmr g))) rfl ?_
      refine Wp.call (as := [.ref 1, .int (nI p)]) (rest := []) rfl rfl rfl rfl rfl (Nat.le_of_ble_eq_true rfl) (Nat.le_of_ble_eq_true rfl) rfl (by decide) (c_holders_1 (nI p) hn h6) ?_
      rintro _ _ ⟨rfl, rfl⟩
      refine Wp.run 0 (105, [(0, .ref 0), (1, .int (nI p)), (2, .int 4)], [.int (zsum (hldB mi 1 (mi 5) (nI p)) n)], (zsh ++ vs, mi, ml, (zmr g))) rfl ?_
      refine Wp.ret rfl rfl rfl ?_
      exact ⟨congrArg (fun z => some (Value.int z)) (B.hold (by omega)), _, _, rfl, SC.rf, fun _ _ _ => rfl⟩
    · intro m g' I' e67 S
      have B' := I'.1.1
      have hn' := B'.2.1
      have hN' := B'.1.1
      have hd' := B'.1.2.2.1
      rw [← e67]
      refine Wp.run 1 (1, [(0, .ref 66), (1, .int (nI p)), (2, .int 4)], [.int (nI p)], (zsh ++ vs, m, ml, (zmr g'))) rfl ?_
      refine Wp.call (as := [.int (nI p)]) (rest := []) rfl rfl rfl rfl rfl (Nat.le_of_ble_eq_true rfl) (Nat.le_of_ble_eq_true rfl) rfl (by decide) (m_isPart_t hp) ?_
      rintro _ _ ⟨rfl, rfl⟩
      refine Wp.run 4 (10, [(0, .ref 66), (1, .int (nI p)), (2, .int 4)], [.int 4, .int 0, .int 4], (zsh ++ vs, m, ml, (zmr g'))) rfl ?_
      refine Wp.call (as := [.int 4, .int 0, .int 4]) (rest := []) rfl rfl rfl rfl rfl (Nat.le_of_ble_eq_true rfl) (Nat.le_of_ble_eq_true rfl) rfl (by decide) (m_isIn_t hw) ?_
      rintro _ _ ⟨rfl, rfl⟩
      refine Wp.run 14 (75, [(0, .ref 66), (1, .int (nI p)), (2, .int 4)], [.int (nI p), .ref 66], (zsh ++ vs, m, ml, (zmr g'))) rfl ?_
      refine Wp.call (as := [.ref 66, .int (nI p)]) (rest := []) rfl rfl rfl rfl rfl (Nat.le_of_ble_eq_true rfl) (Nat.le_of_ble_eq_true rfl) rfl (by decide) (m_holders (nI p) hN' h6) ?_
      rintro _ _ ⟨rfl, rfl⟩
      refine Wp.run 0 (78, [(0, .ref 66), (1, .int (nI p)), (2, .int 4)], [.int (zsum (holdF (uN (m 67)) (nI p)) n)], (zsh ++ vs, m, ml, (zmr g'))) rfl ?_
      refine Wp.ret rfl rfl rfl ?_
      exact ⟨rfl, _, rfl, SC.rf⟩
