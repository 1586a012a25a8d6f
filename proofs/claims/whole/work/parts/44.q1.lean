/-! THE REFERENCE'S READER. Cell 66: 10 size, 11 at, 12 well, 13 within, 14 sum, 15 anew; 73 the text, 74 the names, 75 letters, 76 begins, 77 words -/
def RM (T : Nat → Int32) (n : Nat) (nm : Nat → Int32) (mi : Nat → Nat → Int32) : Prop := mi 66 10 = nI n ∧ n ≤ 100 ∧ (∀ k, k < n → mi 73 k = T k) ∧ (∀ f, f < 6 → mi 74 f = nm f) ∧ (mi 75 0 = 112 ∧ mi 75 1 = 107 ∧ mi 75 2 = 118 ∧ mi 75 3 = 110 ∧ mi 75 4 = 109 ∧ mi 75 5 = 100) ∧ (mi 76 0 = 104 ∧ mi 76 1 = 101 ∧ mi 76 2 = 97) ∧ (mi 77 0 = 104 ∧ mi 77 1 = 97 ∧ mi 77 2 = 114 ∧ mi 77 3 = 100 ∧ mi 77 4 = 0 ∧ mi 77 5 = 101 ∧ mi 77 6 = 97 ∧ mi 77 7 = 115 ∧ mi 77 8 = 121 ∧ mi 77 9 = 0 ∧ mi 77 10 = 97 ∧ mi 77 11 = 110 ∧ mi 77 12 = 101 ∧ mi 77 13 = 119 ∧ mi 77 14 = 0)
def MS (mi m : Nat → Nat → Int32) (p : Nat) (wl : Int32) (d : Nat) (s a : Int32) : Prop := (∀ b, ¬ b = 66 → m b = mi b) ∧ (∀ k, (k < 11 ∨ 15 < k) → m 66 k = mi 66 k) ∧ m 66 11 = nI p ∧ m 66 12 = wl ∧ m 66 13 = nI d ∧ m 66 14 = s ∧ m 66 15 = a
section MSL
variable {mi m : Nat → Nat → Int32} {p : Nat} {wl : Int32} {d : Nat} {s a : Int32}
theorem MS.adv (H : MS mi m p wl d s a) : MS mi (zup m 66 11 (m 66 11 + 1)) (p + 1) wl d s a := by
  obtain ⟨h1, h2, h3, h4, h5, h6, h7⟩ := H
  refine ⟨fun b p => by rw [zup_ne p]; exact h1 b p, fun k hk => ?_, ?_, ?_, ?_, ?_, ?_⟩
  · simp only [zup, if_true, if_neg (show ¬ k = 11 by omega)]; exact h2 k hk
  · simp only [zup, if_true]; rw [h3, nI_1]
  · simp only [zup, if_true, if_neg (show ¬ 12 = 11 by decide)]; exact h4
  · simp only [zup, if_true, if_neg (show ¬ 13 = 11 by decide)]; exact h5
  · simp only [zup, if_true, if_neg (show ¬ 14 = 11 by decide)]; exact h6
  · simp only [zup, if_true, if_neg (show ¬ 15 = 11 by decide)]; exact h7
theorem MS.bad (H : MS mi m p wl d s a) : MS mi (zup m 66 12 (0)) p 0 d s a := by
  obtain ⟨h1, h2, h3, h4, h5, h6, h7⟩ := H
  refine ⟨fun b p => by rw [zup_ne p]; exact h1 b p, fun k hk => ?_, ?_, ?_, ?_, ?_, ?_⟩
  · simp only [zup, if_true, if_neg (show ¬ k = 12 by omega)]; exact h2 k hk
  · simp only [zup, if_true, if_neg (show ¬ 11 = 12 by decide)]; exact h3
  · simp only [zup, if_true]
  · simp only [zup, if_true, if_neg (show ¬ 13 = 12 by decide)]; exact h5
  · simp only [zup, if_true, if_neg (show ¬ 14 = 12 by decide)]; exact h6
  · simp only [zup, if_true, if_neg (show ¬ 15 = 12 by decide)]; exact h7
theorem MS.inn (H : MS mi m p wl d s a) : MS mi (zup m 66 13 (m 66 13 + 1)) p wl (d + 1) s a := by
  obtain ⟨h1, h2, h3, h4, h5, h6, h7⟩ := H
  refine ⟨fun b p => by rw [zup_ne p]; exact h1 b p, fun k hk => ?_, ?_, ?_, ?_, ?_, ?_⟩
  · simp only [zup, if_true, if_neg (show ¬ k = 13 by omega)]; exact h2 k hk
  · simp only [zup, if_true, if_neg (show ¬ 11 = 13 by decide)]; exact h3
  · simp only [zup, if_true, if_neg (show ¬ 12 = 13 by decide)]; exact h4
  · simp only [zup, if_true]; rw [h5, nI_1]
  · simp only [zup, if_true, if_neg (show ¬ 14 = 13 by decide)]; exact h6
  · simp only [zup, if_true, if_neg (show ¬ 15 = 13 by decide)]; exact h7
theorem MS.zer (H : MS mi m p wl d s a) : MS mi (zup m 66 13 (0)) p wl 0 s a := by
  obtain ⟨h1, h2, h3, h4, h5, h6, h7⟩ := H
  refine ⟨fun b p => by rw [zup_ne p]; exact h1 b p, fun k hk => ?_, ?_, ?_, ?_, ?_, ?_⟩
  · simp only [zup, if_true, if_neg (show ¬ k = 13 by omega)]; exact h2 k hk
  · simp only [zup, if_true, if_neg (show ¬ 11 = 13 by decide)]; exact h3
  · simp only [zup, if_true, if_neg (show ¬ 12 = 13 by decide)]; exact h4
  · simp only [zup, if_true]; rfl
  · simp only [zup, if_true, if_neg (show ¬ 14 = 13 by decide)]; exact h6
  · simp only [zup, if_true, if_neg (show ¬ 15 = 13 by decide)]; exact h7
theorem MS.sm (H : MS mi m p wl d s a) (x : Int32) : MS mi (zup m 66 14 (x)) p wl d x a := by
  obtain ⟨h1, h2, h3, h4, h5, h6, h7⟩ := H
  refine ⟨fun b p => by rw [zup_ne p]; exact h1 b p, fun k hk => ?_, ?_, ?_, ?_, ?_, ?_⟩
  · simp only [zup, if_true, if_neg (show ¬ k = 14 by omega)]; exact h2 k hk
  · simp only [zup, if_true, if_neg (show ¬ 11 = 14 by decide)]; exact h3
  · simp only [zup, if_true, if_neg (show ¬ 12 = 14 by decide)]; exact h4
  · simp only [zup, if_true, if_neg (show ¬ 13 = 14 by decide)]; exact h5
  · simp only [zup, if_true]
  · simp only [zup, if_true, if_neg (show ¬ 15 = 14 by decide)]; exact h7
theorem MS.an (H : MS mi m p wl d s a) (x : Int32) : MS mi (zup m 66 15 (x)) p wl d s x := by
  obtain ⟨h1, h2, h3, h4, h5, h6, h7⟩ := H
  refine ⟨fun b p => by rw [zup_ne p]; exact h1 b p, fun k hk => ?_, ?_, ?_, ?_, ?_, ?_⟩
  · simp only [zup, if_true, if_neg (show ¬ k = 15 by omega)]; exact h2 k hk
  · simp only [zup, if_true, if_neg (show ¬ 11 = 15 by decide)]; exact h3
  · simp only [zup, if_true, if_neg (show ¬ 12 = 15 by decide)]; exact h4
  · simp only [zup, if_true, if_neg (show ¬ 13 = 15 by decide)]; exact h5
  · simp only [zup, if_true, if_neg (show ¬ 14 = 15 by decide)]; exact h6
  · simp only [zup, if_true]
theorem MS.out (H : MS mi m p wl (d + 1) s a) : MS mi (zup m 66 13 (m 66 13 - 1)) p wl d s a := by
  obtain ⟨h1, h2, h3, h4, h5, h6, h7⟩ := H
  refine ⟨fun b p => by rw [zup_ne p]; exact h1 b p, fun k hk => ?_, ?_, ?_, ?_, ?_, ?_⟩
  · simp only [zup, if_true, if_neg (show ¬ k = 13 by omega)]; exact h2 k hk
  · simp only [zup, if_true, if_neg (show ¬ 11 = 13 by decide)]; exact h3
  · simp only [zup, if_true, if_neg (show ¬ 12 = 13 by decide)]; exact h4
  · simp only [zup, if_true]; rw [h5, nI_pred]
  · simp only [zup, if_true, if_neg (show ¬ 14 = 13 by decide)]; exact h6
  · simp only [zup, if_true, if_neg (show ¬ 15 = 13 by decide)]; exact h7
end MSL
theorem m_isAtG {E : zEn} {vs : List (Nat × Nat)} {mi : Nat → Nat → Int32} {ml : Nat → Nat → Int64} {g : Nat → Nat → Option Nat} {T : Nat → Int32} {n : Nat} {nm : Nat → Int32} (R : RM T n nm mi) {m : Nat → Nat → Int32} {p d : Nat} {s a : Int32} (H : MS mi m p 1 d s a) (c : Int32) (hc : ¬ c = -1) (hp : p < 2147483648) : Wp E 0 pg_M_isAt 0 (lv_args 0 [.ref 66, .int c]) [] (zsh ++ vs, m, ml, (zmr g)) (fun r w' => r = some (.int (if zch T n p = c then 1 else 0)) ∧ w' = (zsh ++ vs, m, ml, zmr g)) := by
  refine Wp.run 2 (4, [(0, .ref 66), (1, .int c)], [.int (m 66 12)], (zsh ++ vs, m, ml, (zmr g))) rfl ?_
  rw [H.2.2.2.1]
  refine Wp.run 5 (15, [(0, .ref 66), (1, .int c)], [.int (m 66 10), .int (m 66 11)], (zsh ++ vs, m, ml, (zmr g))) rfl ?_
  rw [(H.2.1 10 (by omega)).trans R.1, H.2.2.1]
  refine Wp.run 0 (15, [(0, .ref 66), (1, .int c)], [.int (nI n), .int (nI p)], (zsh ++ vs, m, ml, (zmr g))) rfl ?_
  refine Wp.icmp_ge rfl (fun h1 => ?_) (fun h1 => ?_)
  · have hlt : ¬ p < n := fun q => nI_ge q (by have := R.2.1; omega) h1
    refine Wp.run 1 (36, [(0, .ref 66), (1, .int c)], [.int 0], (zsh ++ vs, m, ml, (zmr g))) rfl ?_
    refine Wp.ret rfl rfl rfl ?_
    exact ⟨by rw [if_neg (fun e => hlt (zch_lt e hc))], rfl⟩
  · have hlt : p < n := Nat.lt_of_not_le (fun q => h1 (nI_le q (by omega)))
    have ez : m 73 p = zch T n p := by rw [H.1 73 (by decide), R.2.2.1 p hlt, zch, if_pos hlt]
    refine Wp.run 4 (26, [(0, .ref 66), (1, .int c)], [.int (m 66 11), .ref 73], (zsh ++ vs, m, ml, (zmr g))) rfl ?_
    rw [H.2.2.1]
    refine Wp.ialn rfl (by decide) rfl (by have := R.2.1; omega) (by decide) ?_
    refine Wp.run 1 (28, [(0, .ref 66), (1, .int c)], [.int c, .int (m 73 p)], (zsh ++ vs, m, ml, (zmr g))) rfl ?_
    rw [ez]
    refine Wp.run 0 (28, [(0, .ref 66), (1, .int c)], [.int c, .int (zch T n p)], (zsh ++ vs, m, ml, (zmr g))) rfl ?_
    refine Wp.icmp_ne rfl (fun h2 => ?_) (fun h2 => ?_)
    · refine Wp.run 1 (36, [(0, .ref 66), (1, .int c)], [.int 0], (zsh ++ vs, m, ml, (zmr g))) rfl ?_
      refine Wp.ret rfl rfl rfl ?_
      exact ⟨by rw [if_neg h2], rfl⟩
    · refine Wp.run 2 (36, [(0, .ref 66), (1, .int c)], [.int 1], (zsh ++ vs, m, ml, (zmr g))) rfl ?_
      refine Wp.ret rfl rfl rfl ?_
      exact ⟨by rw [if_pos h2], rfl⟩
theorem m_isAtB {E : zEn} {vs : List (Nat × Nat)} {mi : Nat → Nat → Int32} {ml : Nat → Nat → Int64} {g : Nat → Nat → Option Nat} {T : Nat → Int32} {n : Nat} {nm : Nat → Int32} (R : RM T n nm mi) {m : Nat → Nat → Int32} {p d : Nat} {s a : Int32} (H : MS mi m p 0 d s a) (c : Int32) : Wp E 0 pg_M_isAt 0 (lv_args 0 [.ref 66, .int c]) [] (zsh ++ vs, m, ml, (zmr g)) (fun r w' => r = some (.int 0) ∧ w' = (zsh ++ vs, m, ml, zmr g)) := by
  refine Wp.run 2 (4, [(0, .ref 66), (1, .int c)], [.int (m 66 12)], (zsh ++ vs, m, ml, (zmr g))) rfl ?_
  rw [H.2.2.2.1]
  refine Wp.run 2 (36, [(0, .ref 66), (1, .int c)], [.int 0], (zsh ++ vs, m, ml, (zmr g))) rfl ?_
  refine Wp.ret rfl rfl rfl ?_
  exact ⟨rfl, rfl⟩
theorem m_takesG {E : zEn} {vs : List (Nat × Nat)} {mi : Nat → Nat → Int32} {ml : Nat → Nat → Int64} {g : Nat → Nat → Option Nat} {T : Nat → Int32} {n : Nat} {nm : Nat → Int32} (R : RM T n nm mi) {m : Nat → Nat → Int32} {p d : Nat} {s a : Int32} (H : MS mi m p 1 d s a) (c : Int32) (hc : ¬ c = -1) (hp : p < 2147483648) : Wp E 1 pg_M_takes 0 (lv_args 0 [.ref 66, .int c]) [] (zsh ++ vs, m, ml, (zmr g)) (fun r w' => r = none ∧ ∃ m', w' = (zsh ++ vs, m', ml, zmr g) ∧ ((zch T n p = c ∧ MS mi m' (p + 1) 1 d s a) ∨ (¬ zch T n p = c ∧ MS mi m' p 0 d s a))) := by
  refine Wp.run 2 (2, [(0, .ref 66), (1, .int c)], [.int c, .ref 66], (zsh ++ vs, m, ml, (zmr g))) rfl ?_
  refine Wp.call (as := [.ref 66, .int c]) (rest := []) rfl rfl rfl rfl rfl (Nat.le_of_ble_eq_true rfl) (Nat.le_of_ble_eq_true rfl) rfl (by decide) (m_isAtG R H c hc hp) ?_
  rintro _ _ ⟨rfl, rfl⟩
  by_cases c4 : zch T n p = c
  · rw [if_pos c4]
    refine Wp.run 8 (26, [(0, .ref 66), (1, .int c)], [], (zsh ++ vs, (zup m 66 11 ((m 66 11) + 1)), ml, (zmr g))) rfl ?_
    refine Wp.ret rfl rfl rfl ?_
    exact ⟨rfl, _, rfl, Or.inl ⟨c4, H.adv⟩⟩
  · rw [if_neg c4]
    refine Wp.run 4 (26, [(0, .ref 66), (1, .int c)], [], (zsh ++ vs, (zup m 66 12 0), ml, (zmr g))) rfl ?_
    refine Wp.ret rfl rfl rfl ?_
    exact ⟨rfl, _, rfl, Or.inr ⟨c4, H.bad⟩⟩
theorem m_takesB {E : zEn} {vs : List (Nat × Nat)} {mi : Nat → Nat → Int32} {ml : Nat → Nat → Int64} {g : Nat → Nat → Option Nat} {T : Nat → Int32} {n : Nat} {nm : Nat → Int32} (R : RM T n nm mi) {m : Nat → Nat → Int32} {p d : Nat} {s a : Int32} (H : MS mi m p 0 d s a) (c : Int32) : Wp E 1 pg_M_takes 0 (lv_args 0 [.ref 66, .int c]) [] (zsh ++ vs, m, ml, (zmr g)) (fun r w' => r = none ∧ ∃ m', w' = (zsh ++ vs, m', ml, zmr g) ∧ MS mi m' p 0 d s a) := by
  refine Wp.run 2 (2, [(0, .ref 66), (1, .int c)], [.int c, .ref 66], (zsh ++ vs, m, ml, (zmr g))) rfl ?_
  refine Wp.call (as := [.ref 66, .int c]) (rest := []) rfl rfl rfl rfl rfl (Nat.le_of_ble_eq_true rfl) (Nat.le_of_ble_eq_true rfl) rfl (by decide) (m_isAtB R H c) ?_
  rintro _ _ ⟨rfl, rfl⟩
  refine Wp.run 4 (26, [(0, .ref 66), (1, .int c)], [], (zsh ++ vs, (zup m 66 12 0), ml, (zmr g))) rfl ?_
  refine Wp.ret rfl rfl rfl ?_
  exact ⟨rfl, _, rfl, H.bad⟩
theorem m_isDigitG {E : zEn} {vs : List (Nat × Nat)} {mi : Nat → Nat → Int32} {ml : Nat → Nat → Int64} {g : Nat → Nat → Option Nat} {T : Nat → Int32} {n : Nat} {nm : Nat → Int32} (R : RM T n nm mi) {m : Nat → Nat → Int32} {p d : Nat} {s a : Int32} (H : MS mi m p 1 d s a) (hp : p < 2147483648) : Wp E 0 pg_M_isDigit 0 (lv_args 0 [.ref 66]) [] (zsh ++ vs, m, ml, (zmr g)) (fun r w' => r = some (.int (if zdg (zch T n p) then 1 else 0)) ∧ w' = (zsh ++ vs, m, ml, zmr g)) := by
  refine Wp.run 2 (4, [(0, .ref 66)], [.int (m 66 12)], (zsh ++ vs, m, ml, (zmr g))) rfl ?_
  rw [H.2.2.2.1]
  refine Wp.run 5 (15, [(0, .ref 66)], [.int (m 66 10), .int (m 66 11)], (zsh ++ vs, m, ml, (zmr g))) rfl ?_
  rw [(H.2.1 10 (by omega)).trans R.1, H.2.2.1]
  refine Wp.run 0 (15, [(0, .ref 66)], [.int (nI n), .int (nI p)], (zsh ++ vs, m, ml, (zmr g))) rfl ?_
  refine Wp.icmp_ge rfl (fun h1 => ?_) (fun h1 => ?_)
  · have hlt : ¬ p < n := fun q => nI_ge q (by have := R.2.1; omega) h1
    refine Wp.run 1 (51, [(0, .ref 66)], [.int 0], (zsh ++ vs, m, ml, (zmr g))) rfl ?_
    refine Wp.ret rfl rfl rfl ?_
    exact ⟨by rw [if_neg (fun e => hlt (zdg_lt e))], rfl⟩
  · have hlt : p < n := Nat.lt_of_not_le (fun q => h1 (nI_le q (by omega)))
    have ez : m 73 p = zch T n p := by rw [H.1 73 (by decide), R.2.2.1 p hlt, zch, if_pos hlt]
    refine Wp.run 4 (26, [(0, .ref 66)], [.int (m 66 11), .ref 73], (zsh ++ vs, m, ml, (zmr g))) rfl ?_
    rw [H.2.2.1]
    refine Wp.ialn rfl (by decide) rfl (by have := R.2.1; omega) (by decide) ?_
    refine Wp.run 1 (29, [(0, .ref 66)], [.int 48, .int (m 73 p)], (zsh ++ vs, m, ml, (zmr g))) rfl ?_
    rw [ez]
    refine Wp.run 0 (29, [(0, .ref 66)], [.int 48, .int (zch T n p)], (zsh ++ vs, m, ml, (zmr g))) rfl ?_
    refine Wp.icmp_lt rfl (fun h2 => ?_) (fun h2 => ?_)
    · refine Wp.run 1 (51, [(0, .ref 66)], [.int 0], (zsh ++ vs, m, ml, (zmr g))) rfl ?_
      refine Wp.ret rfl rfl rfl ?_
      exact ⟨by rw [if_neg (fun e => Int32.not_lt.mpr e.1 h2)], rfl⟩
    · refine Wp.run 4 (40, [(0, .ref 66)], [.int (m 66 11), .ref 73], (zsh ++ vs, m, ml, (zmr g))) rfl ?_
      rw [H.2.2.1]
      refine Wp.ialn rfl (by decide) rfl (by have := R.2.1; omega) (by decide) ?_
      refine Wp.run 1 (43, [(0, .ref 66)], [.int 57, .int (m 73 p)], (zsh ++ vs, m, ml, (zmr g))) rfl ?_
      rw [ez]
      refine Wp.run 0 (43, [(0, .ref 66)], [.int 57, .int (zch T n p)], (zsh ++ vs, m, ml, (zmr g))) rfl ?_
      refine Wp.icmp_gt rfl (fun h3 => ?_) (fun h3 => ?_)
      · refine Wp.run 1 (51, [(0, .ref 66)], [.int 0], (zsh ++ vs, m, ml, (zmr g))) rfl ?_
        refine Wp.ret rfl rfl rfl ?_
        exact ⟨by rw [if_neg (fun e => Int32.not_lt.mpr e.2 h3)], rfl⟩
      · refine Wp.run 2 (51, [(0, .ref 66)], [.int 1], (zsh ++ vs, m, ml, (zmr g))) rfl ?_
        refine Wp.ret rfl rfl rfl ?_
        exact ⟨by rw [if_pos ⟨Int32.not_lt.mp h2, Int32.not_lt.mp h3⟩], rfl⟩
theorem m_isDigitB {E : zEn} {vs : List (Nat × Nat)} {mi : Nat → Nat → Int32} {ml : Nat → Nat → Int64} {g : Nat → Nat → Option Nat} {T : Nat → Int32} {n : Nat} {nm : Nat → Int32} (R : RM T n nm mi) {m : Nat → Nat → Int32} {p d : Nat} {s a : Int32} (H : MS mi m p 0 d s a) : Wp E 0 pg_M_isDigit 0 (lv_args 0 [.ref 66]) [] (zsh ++ vs, m, ml, (zmr g)) (fun r w' => r = some (.int 0) ∧ w' = (zsh ++ vs, m, ml, zmr g)) := by
  refine Wp.run 2 (4, [(0, .ref 66)], [.int (m 66 12)], (zsh ++ vs, m, ml, (zmr g))) rfl ?_
  rw [H.2.2.2.1]
  refine Wp.run 2 (51, [(0, .ref 66)], [.int 0], (zsh ++ vs, m, ml, (zmr g))) rfl ?_
  refine Wp.ret rfl rfl rfl ?_
  exact ⟨rfl, rfl⟩
theorem num3 {d e : Nat} {c : Int32} (hc : c - 48 = nI e) : ((10 * nI d) + c) - 48 = nI (10 * d + e) := by
  rw [show (10 : Int32) = nI 10 from rfl, pk_mul, Int32.sub_eq_add_neg, Int32.add_assoc, ← Int32.sub_eq_add_neg, hc, nI_add]
theorem m_numberG {E : zEn} {vs : List (Nat × Nat)} {mi : Nat → Nat → Int32} {ml : Nat → Nat → Int64} {g : Nat → Nat → Option Nat} {T : Nat → Int32} {n : Nat} {nm : Nat → Int32} (R : RM T n nm mi) {m : Nat → Nat → Int32} {p d : Nat} {s a : Int32} (H : MS mi m p 1 d s a) (hp : p < 2147483648) : Wp E 1 pg_M_number 0 (lv_args 0 [.ref 66]) [] (zsh ++ vs, m, ml, (zmr g)) (fun r w' => ∃ m', w' = (zsh ++ vs, m', ml, zmr g) ∧ ((znum T n p = none ∧ r = some (.int 0) ∧ MS mi m' p 0 d s a) ∨ ∃ x, znum T n p = some x ∧ r = some (.int (nI x.1)) ∧ MS mi m' x.2 1 d s a)) := by
  refine Wp.run 1 (1, [(0, .ref 66)], [.ref 66], (zsh ++ vs, m, ml, (zmr g))) rfl ?_
  refine Wp.call (as := [.ref 66]) (rest := []) rfl rfl rfl rfl rfl (Nat.le_of_ble_eq_true rfl) (Nat.le_of_ble_eq_true rfl) rfl (by decide) (m_isDigitG R H (by omega)) ?_
  rintro _ _ ⟨rfl, rfl⟩
  by_cases dg1 : zdg (zch T n p)
  · rw [if_pos dg1]
    have hldg1 := zdg_lt dg1
    refine Wp.run 5 (22, [(0, .ref 66)], [.int (m 66 11), .ref 73], (zsh ++ vs, m, ml, (zmr g))) rfl ?_
    rw [H.2.2.1]
    refine Wp.ialn rfl (by decide) rfl (by have := R.2.1; omega) (by decide) ?_
    refine Wp.run 0 (23, [(0, .ref 66)], [.int (m 73 p)], (zsh ++ vs, m, ml, (zmr g))) rfl ?_
    rw [show m 73 p = zch T n p from by rw [H.1 73 (by decide), R.2.2.1 p hldg1, zch, if_pos hldg1]]
    refine Wp.run 9 (37, [(1, .int ((zch T n p) - 48)), (0, .ref 66)], [], (zsh ++ vs, (zup m 66 11 ((m 66 11) + 1)), ml, (zmr g))) rfl ?_
    obtain ⟨m2, hm2⟩ : ∃ m9, m9 = (zup m 66 11 ((m 66 11) + 1)) := ⟨_, rfl⟩
    rw [← hm2]
    have H2 : MS mi m2 (p + 1) 1 d s a := by rw [hm2]; exact H.adv
    rw [(zdg_v dg1).1]
    have hp2 : p + 1 < 2147483648 := by have := R.2.1; omega
    refine Wp.run 1 (38, [(1, .int (nI (zdv (zch T n p)))), (0, .ref 66)], [.ref 66], (zsh ++ vs, m2, ml, (zmr g))) rfl ?_
    refine Wp.call (as := [.ref 66]) (rest := []) rfl rfl rfl rfl rfl (Nat.le_of_ble_eq_true rfl) (Nat.le_of_ble_eq_true rfl) rfl (by decide) (m_isDigitG R H2 (by omega)) ?_
    rintro _ _ ⟨rfl, rfl⟩
    by_cases dg3 : zdg (zch T n (p + 1))
    · rw [if_pos dg3]
      have hldg3 := zdg_lt dg3
      refine Wp.run 8 (56, [(1, .int (nI (zdv (zch T n p)))), (0, .ref 66)], [.int (m2 66 11), .ref 73, .int (10 * (nI (zdv (zch T n p))))], (zsh ++ vs, m2, ml, (zmr g))) rfl ?_
      rw [H2.2.2.1]
      refine Wp.ialn rfl (by decide) rfl (by have := R.2.1; omega) (by decide) ?_
      refine Wp.run 0 (57, [(1, .int (nI (zdv (zch T n p)))), (0, .ref 66)], [.int (m2 73 (p + 1)), .int (10 * (nI (zdv (zch T n p))))], (zsh ++ vs, m2, ml, (zmr g))) rfl ?_
      rw [show m2 73 (p + 1) = zch T n (p + 1) from by rw [H2.1 73 (by decide), R.2.2.1 (p + 1) hldg3, zch, if_pos hldg3]]
      refine Wp.run 10 (72, [(1, .int (((10 * (nI (zdv (zch T n p)))) + (zch T n (p + 1))) - 48)), (0, .ref 66)], [], (zsh ++ vs, (zup m2 66 11 ((m2 66 11) + 1)), ml, (zmr g))) rfl ?_
      obtain ⟨m4, hm4⟩ : ∃ m9, m9 = (zup m2 66 11 ((m2 66 11) + 1)) := ⟨_, rfl⟩
      rw [← hm4]
      have H4 : MS mi m4 (p + 1 + 1) 1 d s a := by rw [hm4]; exact H2.adv
      rw [show ((10 * (nI (zdv (zch T n p)))) + (zch T n (p + 1))) - 48 = nI (10 * zdv (zch T n p) + zdv (zch T n (p + 1))) from num3 (zdg_v dg3).1]
      refine Wp.run 1 (73, [(1, .int (nI (10 * zdv (zch T n p) + zdv (zch T n (p + 1))))), (0, .ref 66)], [.int (nI (10 * zdv (zch T n p) + zdv (zch T n (p + 1))))], (zsh ++ vs, m4, ml, (zmr g))) rfl ?_
      refine Wp.ret rfl rfl rfl ?_
      exact ⟨_, rfl, Or.inr ⟨(10 * zdv (zch T n p) + zdv (zch T n (p + 1)), p + 2), by rw [znum, if_pos dg1, if_pos dg3], rfl, H4⟩⟩
    · rw [if_neg dg3]
      refine Wp.run 1 (72, [(1, .int (nI (zdv (zch T n p)))), (0, .ref 66)], [], (zsh ++ vs, m2, ml, (zmr g))) rfl ?_
      
      refine Wp.run 1 (73, [(1, .int (nI (zdv (zch T n p)))), (0, .ref 66)], [.int (nI (zdv (zch T n p)))], (zsh ++ vs, m2, ml, (zmr g))) rfl ?_
      refine Wp.ret rfl rfl rfl ?_
      exact ⟨_, rfl, Or.inr ⟨(zdv (zch T n p), p + 1), by rw [znum, if_pos dg1, if_neg dg3], rfl, H2⟩⟩
  · rw [if_neg dg1]
    refine Wp.run 5 (13, [(0, .ref 66)], [.int 0], (zsh ++ vs, (zup m 66 12 0), ml, (zmr g))) rfl ?_
    refine Wp.ret rfl rfl rfl ?_
    exact ⟨_, rfl, Or.inl ⟨by rw [znum, if_neg dg1], rfl, H.bad⟩⟩
theorem m_numberB {E : zEn} {vs : List (Nat × Nat)} {mi : Nat → Nat → Int32} {ml : Nat → Nat → Int64} {g : Nat → Nat → Option Nat} {T : Nat → Int32} {n : Nat} {nm : Nat → Int32} (R : RM T n nm mi) {m : Nat → Nat → Int32} {p d : Nat} {s a : Int32} (H : MS mi m p 0 d s a) : Wp E 1 pg_M_number 0 (lv_args 0 [.ref 66]) [] (zsh ++ vs, m, ml, (zmr g)) (fun r w' => r = some (.int 0) ∧ ∃ m', w' = (zsh ++ vs, m', ml, zmr g) ∧ MS mi m' p 0 d s a) := by
  refine Wp.run 1 (1, [(0, .ref 66)], [.ref 66], (zsh ++ vs, m, ml, (zmr g))) rfl ?_
  refine Wp.call (as := [.ref 66]) (rest := []) rfl rfl rfl rfl rfl (Nat.le_of_ble_eq_true rfl) (Nat.le_of_ble_eq_true rfl) rfl (by decide) (m_isDigitB R H) ?_
  rintro _ _ ⟨rfl, rfl⟩
  refine Wp.run 5 (13, [(0, .ref 66)], [.int 0], (zsh ++ vs, (zup m 66 12 0), ml, (zmr g))) rfl ?_
  refine Wp.ret rfl rfl rfl ?_
  exact ⟨rfl, _, rfl, H.bad⟩
