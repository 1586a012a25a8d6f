/-! THE CALLS: singer -/
theorem BR_add {mi m : Nat → Nat → Int32} {a nv : Nat} {h : Option Nat} {N N' : Nat → Int32} {n dd : Nat} {kd v ps mm : Int32} (B : BR mi a h nv N n dd) (h6 : n < 6)
    (hk : ∃ q, q ≤ 6 ∧ kd = nI q) (hv : ∃ q, q ≤ 9 ∧ v = nI q) (hp : ∃ q, q < 256 ∧ ps = nI q) (hm : ∃ q, q ≤ 99 ∧ mm = nI q)
    (e0 : m a 0 = nI (n + 1)) (e1 : m a 1 = mi a 1) (e2 : m a 2 = mi a 2 &&& ((1 : Int32) <<< (nI n &&& 31) ^^^ -1))
    (es : ∀ p, p < 8 → m (a + 1) p = mi (a + 1) p)
    (ek : ∀ q, 2 ≤ q → q ≤ 6 → ∀ k, ¬ k = n → m (a + q) k = mi (a + q) k) (er : ∀ j, ¬ (4 * n ≤ j ∧ j < 4 * n + 4) → m (a + 7) j = mi (a + 7) j)
    (f0 : m (a + 2) n = kd) (f1 : m (a + 3) n = v) (f2 : m (a + 4) n = ps) (f3 : m (a + 5) n = mm) (f5 : m (a + 6) n = 0) (f6 : ∀ d, d < 4 → m (a + 7) (4 * n + d) = 0)
    (N68 : N' 68 = nI (n + 1)) (No : ∀ i, ¬ (8 + 10 * n ≤ i ∧ i < 18 + 10 * n) → ¬ i = 68 → N' i = N i)
    (g0 : N' (8 + 10 * n + 0) = kd) (g1 : N' (8 + 10 * n + 1) = v) (g2 : N' (8 + 10 * n + 2) = ps) (g3 : N' (8 + 10 * n + 3) = mm) (g4 : N' (8 + 10 * n + 4) = 0) (g5 : N' (8 + 10 * n + 5) = 0) (g6 : ∀ d, d < 4 → N' (8 + 10 * n + (6 + d)) = 0) : BR m a h nv N' (n + 1) dd := by
  obtain ⟨⟨r1, r2, r3, r4, r5⟩, b2, b3, b4, b5, b6, b7⟩ := B
  have eu : ∀ k, k < n → ∀ f, f < 10 → uN N' k f = uN N k f := fun k hk f hf => No _ (by omega) (by omega)
  refine ⟨⟨N68, by omega, by rw [No 69 (by omega) (by decide)]; exact r3, fun p hp => by rw [No p (by omega) (by omega)]; exact r4 p hp, fun k hk9 => ?_⟩, e0, by rw [e1]; exact b3, fun p hp => by rw [es p hp, No p (by omega) (by omega)]; exact b4 p hp, fun k hk9 f hf => ?_, fun k p q => ?_, by rw [No 70 (by omega) (by decide)]; exact b7⟩
  · by_cases hkn : k = n
    · subst hkn
      exact ⟨by rw [show uN N' k 0 = kd from g0]; exact hk, by rw [show uN N' k 1 = v from g1]; exact hv, by rw [show uN N' k 2 = ps from g2]; exact hp, by rw [show uN N' k 3 = mm from g3]; exact hm, by rw [show uN N' k 4 = 0 from g4]; exact ⟨0, by omega, rfl⟩, by rw [show uN N' k 5 = 0 from g5]; exact ⟨0, by omega, rfl⟩, fun d hd => by rw [show uN N' k (6 + d) = 0 from g6 d hd]; exact ⟨0, by omega, rfl⟩⟩
    · obtain ⟨a0, a1, a2, a3, a4, a5, a6⟩ := r5 k (by omega)
      have e := eu k (by omega)
      exact ⟨by rw [e 0 (by decide)]; exact a0, by rw [e 1 (by decide)]; exact a1, by rw [e 2 (by decide)]; exact a2, by rw [e 3 (by decide)]; exact a3, by rw [e 4 (by decide)]; exact a4, by rw [e 5 (by decide)]; exact a5, fun d hd => by rw [e (6 + d) (by omega)]; exact a6 d hd⟩
  · by_cases hkn : k = n
    · subst hkn
      rcases (show f < 6 ∨ ∃ d, d < 4 ∧ f = 6 + d from by
        rcases Nat.lt_or_ge f 6 with q | q
        · exact Or.inl q
        · exact Or.inr ⟨f - 6, by omega, by omega⟩) with q | ⟨d, hd, rfl⟩
      · rcases (show f = 0 ∨ f = 1 ∨ f = 2 ∨ f = 3 ∨ f = 4 ∨ f = 5 by omega) with rfl | rfl | rfl | rfl | rfl | rfl
        · exact f0.trans g0.symm
        · exact f1.trans g1.symm
        · exact f2.trans g2.symm
        · exact f3.trans g3.symm
        · show m a 2 >>> (nI k &&& 31) &&& 1 = N' (8 + 10 * k + 4)
          rw [g4, e2, bit1_zero _ (by omega), bt_an1 _ (by omega) (by omega), decide_eq_true rfl, Bool.not_true, Bool.and_false]
        · exact f5.trans g5.symm
      · rw [uB_row]
        exact (f6 d hd).trans (g6 d hd).symm
    · rw [eu k (by omega) f hf, ← b5 k (by omega) f hf]
      rcases (show f < 6 ∨ ∃ d, d < 4 ∧ f = 6 + d from by
        rcases Nat.lt_or_ge f 6 with q | q
        · exact Or.inl q
        · exact Or.inr ⟨f - 6, by omega, by omega⟩) with q | ⟨d, hd, rfl⟩
      · rcases (show f = 0 ∨ f = 1 ∨ f = 2 ∨ f = 3 ∨ f = 4 ∨ f = 5 by omega) with rfl | rfl | rfl | rfl | rfl | rfl
        · exact ek 2 (by decide) (by decide) k hkn
        · exact ek 3 (by decide) (by decide) k hkn
        · exact ek 4 (by decide) (by decide) k hkn
        · exact ek 5 (by decide) (by decide) k hkn
        · show m a 2 >>> (nI k &&& 31) &&& 1 = mi a 2 >>> (nI k &&& 31) &&& 1
          rw [e2, bit1 _ (by omega), bit1 _ (by omega), bt_an1 _ (by omega) (by omega), decide_eq_false hkn, Bool.not_false, Bool.and_true]
        · exact ek 6 (by decide) (by decide) k hkn
      · rw [uB_row, uB_row]
        exact er _ (by omega)
  · rw [e2, bt_an1 _ (by omega) q, b6 k (by omega) q, Bool.false_and]
theorem c_enter {E : zEn} {vs : List (Nat × Nat)} {mi : Nat → Nat → Int32} {ml : Nat → Nat → Int64} {g : Nat → Nat → Option Nat} {kd v ps mm : Int32} {n : Nat} (hn : mi 1 0 = nI n) (h6 : n < 6) : Wp E 1 pg_Band_enter 0 (lv_args 0 [.ref 1, .int kd, .int v, .int ps, .int mm]) [] (zsh ++ vs, mi, ml, (zmr g)) (fun r w' => r = some (.int (nI n)) ∧ w' = (zsh ++ vs, (zup (zup (zup (zup (zup (zup (zup (zup (zup (zup (zup mi 3 n kd) 4 n v) 5 n ps) 6 n mm) 7 n 0) 8 (4 * n + 0) 0) 8 (4 * n + 1) 0) 8 (4 * n + 2) 0) 8 (4 * n + 3) 0) 1 2 (mi 1 2 &&& ((1 : Int32) <<< (nI n &&& 31) ^^^ -1))) 1 0 (nI (n + 1))), ml, zmr g)) := by
  refine Wp.run 2 (4, [(0, .ref 1), (1, .int kd), (2, .int v), (3, .int ps), (4, .int mm)], [.int (mi 1 0)], (zsh ++ vs, mi, ml, (zmr g))) rfl ?_
  refine Wp.topi (y := nI n) (hn) ?_
  refine Wp.run 1 (6, [(0, .ref 1), (1, .int kd), (2, .int v), (3, .int ps), (4, .int mm)], [.int 6, .int (nI n)], (zsh ++ vs, mi, ml, (zmr g))) rfl ?_
  refine Wp.icmp_lt rfl (fun h1 => ?_) (fun h1 => ?_)
  · refine Wp.run 2 (16, [(0, .ref 1), (1, .int kd), (2, .int v), (3, .int ps), (4, .int mm)], [.int (mi 1 0)], (zsh ++ vs, mi, ml, (zmr g))) rfl ?_
    refine Wp.topi (y := nI n) (hn) ?_
    refine Wp.run 5 (25, [(5, .int (nI n)), (0, .ref 1), (1, .int kd), (2, .int v), (3, .int ps), (4, .int mm)], [.int kd, .int (nI n), .ref 3], (zsh ++ vs, mi, ml, (zmr g))) rfl ?_
    refine Wp.iasn rfl (by decide) rfl (by omega) (by decide) ?_
    refine Wp.run 4 (33, [(5, .int (nI n)), (0, .ref 1), (1, .int kd), (2, .int v), (3, .int ps), (4, .int mm)], [.int v, .int (nI n), .ref 4], (zsh ++ vs, (zup mi 3 n kd), ml, (zmr g))) rfl ?_
    refine Wp.iasn rfl (by decide) rfl (by omega) (by decide) ?_
    refine Wp.run 4 (41, [(5, .int (nI n)), (0, .ref 1), (1, .int kd), (2, .int v), (3, .int ps), (4, .int mm)], [.int ps, .int (nI n), .ref 5], (zsh ++ vs, (zup (zup mi 3 n kd) 4 n v), ml, (zmr g))) rfl ?_
    refine Wp.iasn rfl (by decide) rfl (by omega) (by decide) ?_
    refine Wp.run 4 (50, [(5, .int (nI n)), (0, .ref 1), (1, .int kd), (2, .int v), (3, .int ps), (4, .int mm)], [.int mm, .int (nI n), .ref 6], (zsh ++ vs, (zup (zup (zup mi 3 n kd) 4 n v) 5 n ps), ml, (zmr g))) rfl ?_
    refine Wp.iasn rfl (by decide) rfl (by omega) (by decide) ?_
    refine Wp.run 4 (58, [(5, .int (nI n)), (0, .ref 1), (1, .int kd), (2, .int v), (3, .int ps), (4, .int mm)], [.int 0, .int (nI n), .ref 7], (zsh ++ vs, (zup (zup (zup (zup mi 3 n kd) 4 n v) 5 n ps) 6 n mm), ml, (zmr g))) rfl ?_
    refine Wp.iasn rfl (by decide) rfl (by omega) (by decide) ?_
    refine Wp.run 12 (79, [(6, .int 0), (5, .int (nI n)), (0, .ref 1), (1, .int kd), (2, .int v), (3, .int ps), (4, .int mm)], [.int (((nI n) * 4) + 0), .ref 8], (zsh ++ vs, (zup (zup (zup (zup (zup mi 3 n kd) 4 n v) 5 n ps) 6 n mm) 7 n 0), ml, (zmr g))) rfl ?_
    refine Wp.topi (y := nI (4 * n + 0)) (ix_4 n 0) ?_
    refine Wp.run 1 (80, [(6, .int 0), (5, .int (nI n)), (0, .ref 1), (1, .int kd), (2, .int v), (3, .int ps), (4, .int mm)], [.int 0, .int (nI (4 * n + 0)), .ref 8], (zsh ++ vs, (zup (zup (zup (zup (zup mi 3 n kd) 4 n v) 5 n ps) 6 n mm) 7 n 0), ml, (zmr g))) rfl ?_
    refine Wp.iasn rfl (by decide) rfl (by omega) (by decide) ?_
    refine Wp.run 2 (62, [(6, .int 1), (5, .int (nI n)), (0, .ref 1), (1, .int kd), (2, .int v), (3, .int ps), (4, .int mm)], [], (zsh ++ vs, (zup (zup (zup (zup (zup (zup mi 3 n kd) 4 n v) 5 n ps) 6 n mm) 7 n 0) 8 (4 * n + 0) 0), ml, (zmr g))) rfl ?_
    refine Wp.run 10 (79, [(6, .int 1), (5, .int (nI n)), (0, .ref 1), (1, .int kd), (2, .int v), (3, .int ps), (4, .int mm)], [.int (((nI n) * 4) + 1), .ref 8], (zsh ++ vs, (zup (zup (zup (zup (zup (zup mi 3 n kd) 4 n v) 5 n ps) 6 n mm) 7 n 0) 8 (4 * n + 0) 0), ml, (zmr g))) rfl ?_
    refine Wp.topi (y := nI (4 * n + 1)) (ix_4 n 1) ?_
    refine Wp.run 1 (80, [(6, .int 1), (5, .int (nI n)), (0, .ref 1), (1, .int kd), (2, .int v), (3, .int ps), (4, .int mm)], [.int 0, .int (nI (4 * n + 1)), .ref 8], (zsh ++ vs, (zup (zup (zup (zup (zup (zup mi 3 n kd) 4 n v) 5 n ps) 6 n mm) 7 n 0) 8 (4 * n + 0) 0), ml, (zmr g))) rfl ?_
    refine Wp.iasn rfl (by decide) rfl (by omega) (by decide) ?_
    refine Wp.run 2 (62, [(6, .int 2), (5, .int (nI n)), (0, .ref 1), (1, .int kd), (2, .int v), (3, .int ps), (4, .int mm)], [], (zsh ++ vs, (zup (zup (zup (zup (zup (zup (zup mi 3 n kd) 4 n v) 5 n ps) 6 n mm) 7 n 0) 8 (4 * n + 0) 0) 8 (4 * n + 1) 0), ml, (zmr g))) rfl ?_
    refine Wp.run 10 (79, [(6, .int 2), (5, .int (nI n)), (0, .ref 1), (1, .int kd), (2, .int v), (3, .int ps), (4, .int mm)], [.int (((nI n) * 4) + 2), .ref 8], (zsh ++ vs, (zup (zup (zup (zup (zup (zup (zup mi 3 n kd) 4 n v) 5 n ps) 6 n mm) 7 n 0) 8 (4 * n + 0) 0) 8 (4 * n + 1) 0), ml, (zmr g))) rfl ?_
    refine Wp.topi (y := nI (4 * n + 2)) (ix_4 n 2) ?_
    refine Wp.run 1 (80, [(6, .int 2), (5, .int (nI n)), (0, .ref 1), (1, .int kd), (2, .int v), (3, .int ps), (4, .int mm)], [.int 0, .int (nI (4 * n + 2)), .ref 8], (zsh ++ vs, (zup (zup (zup (zup (zup (zup (zup mi 3 n kd) 4 n v) 5 n ps) 6 n mm) 7 n 0) 8 (4 * n + 0) 0) 8 (4 * n + 1) 0), ml, (zmr g))) rfl ?_
    refine Wp.iasn rfl (by decide) rfl (by omega) (by decide) ?_
    refine Wp.run 2 (62, [(6, .int 3), (5, .int (nI n)), (0, .ref 1), (1, .int kd), (2, .int v), (3, .int ps), (4, .int mm)], [], (zsh ++ vs, (zup (zup (zup (zup (zup (zup (zup (zup mi 3 n kd) 4 n v) 5 n ps) 6 n mm) 7 n 0) 8 (4 * n + 0) 0) 8 (4 * n + 1) 0) 8 (4 * n + 2) 0), ml, (zmr g))) rfl ?_
    refine Wp.run 10 (79, [(6, .int 3), (5, .int (nI n)), (0, .ref 1), (1, .int kd), (2, .int v), (3, .int ps), (4, .int mm)], [.int (((nI n) * 4) + 3), .ref 8], (zsh ++ vs, (zup (zup (zup (zup (zup (zup (zup (zup mi 3 n kd) 4 n v) 5 n ps) 6 n mm) 7 n 0) 8 (4 * n + 0) 0) 8 (4 * n + 1) 0) 8 (4 * n + 2) 0), ml, (zmr g))) rfl ?_
    refine Wp.topi (y := nI (4 * n + 3)) (ix_4 n 3) ?_
    refine Wp.run 1 (80, [(6, .int 3), (5, .int (nI n)), (0, .ref 1), (1, .int kd), (2, .int v), (3, .int ps), (4, .int mm)], [.int 0, .int (nI (4 * n + 3)), .ref 8], (zsh ++ vs, (zup (zup (zup (zup (zup (zup (zup (zup mi 3 n kd) 4 n v) 5 n ps) 6 n mm) 7 n 0) 8 (4 * n + 0) 0) 8 (4 * n + 1) 0) 8 (4 * n + 2) 0), ml, (zmr g))) rfl ?_
    refine Wp.iasn rfl (by decide) rfl (by omega) (by decide) ?_
    refine Wp.run 2 (62, [(6, .int 4), (5, .int (nI n)), (0, .ref 1), (1, .int kd), (2, .int v), (3, .int ps), (4, .int mm)], [], (zsh ++ vs, (zup (zup (zup (zup (zup (zup (zup (zup (zup mi 3 n kd) 4 n v) 5 n ps) 6 n mm) 7 n 0) 8 (4 * n + 0) 0) 8 (4 * n + 1) 0) 8 (4 * n + 2) 0) 8 (4 * n + 3) 0), ml, (zmr g))) rfl ?_
    refine Wp.run 6 (91, [(6, .int 4), (5, .int (nI n)), (0, .ref 1), (1, .int kd), (2, .int v), (3, .int ps), (4, .int mm)], [.int 0, .int (nI n), .ref 1], (zsh ++ vs, (zup (zup (zup (zup (zup (zup (zup (zup (zup mi 3 n kd) 4 n v) 5 n ps) 6 n mm) 7 n 0) 8 (4 * n + 0) 0) 8 (4 * n + 1) 0) 8 (4 * n + 2) 0) 8 (4 * n + 3) 0), ml, (zmr g))) rfl ?_
    refine Wp.call (as := [.ref 1, .int (nI n), .int 0]) (rest := []) rfl rfl rfl rfl rfl (Nat.le_of_ble_eq_true rfl) (Nat.le_of_ble_eq_true rfl) rfl (by decide) (c_putAway0_1 (nI n)) ?_
    rintro _ _ ⟨rfl, rfl⟩
    refine Wp.run 3 (99, [(6, .int 4), (5, .int (nI n)), (0, .ref 1), (1, .int kd), (2, .int v), (3, .int ps), (4, .int mm)], [.int (mi 1 0), .ref 1], (zsh ++ vs, (zup (zup (zup (zup (zup (zup (zup (zup (zup (zup mi 3 n kd) 4 n v) 5 n ps) 6 n mm) 7 n 0) 8 (4 * n + 0) 0) 8 (4 * n + 1) 0) 8 (4 * n + 2) 0) 8 (4 * n + 3) 0) 1 2 (mi 1 2 &&& ((1 : Int32) <<< (nI n &&& 31) ^^^ -1))), ml, (zmr g))) rfl ?_
    refine Wp.topi (y := nI n) (hn) ?_
    refine Wp.run 2 (101, [(6, .int 4), (5, .int (nI n)), (0, .ref 1), (1, .int kd), (2, .int v), (3, .int ps), (4, .int mm)], [.int ((nI n) + 1), .ref 1], (zsh ++ vs, (zup (zup (zup (zup (zup (zup (zup (zup (zup (zup mi 3 n kd) 4 n v) 5 n ps) 6 n mm) 7 n 0) 8 (4 * n + 0) 0) 8 (4 * n + 1) 0) 8 (4 * n + 2) 0) 8 (4 * n + 3) 0) 1 2 (mi 1 2 &&& ((1 : Int32) <<< (nI n &&& 31) ^^^ -1))), ml, (zmr g))) rfl ?_
    refine Wp.topi (y := nI (n + 1)) (nI_1 n) ?_
    refine Wp.run 2 (106, [(6, .int 4), (5, .int (nI n)), (0, .ref 1), (1, .int kd), (2, .int v), (3, .int ps), (4, .int mm)], [.int (nI n)], (zsh ++ vs, (zup (zup (zup (zup (zup (zup (zup (zup (zup (zup (zup mi 3 n kd) 4 n v) 5 n ps) 6 n mm) 7 n 0) 8 (4 * n + 0) 0) 8 (4 * n + 1) 0) 8 (4 * n + 2) 0) 8 (4 * n + 3) 0) 1 2 (mi 1 2 &&& ((1 : Int32) <<< (nI n &&& 31) ^^^ -1))) 1 0 (nI (n + 1))), ml, (zmr g))) rfl ?_
    refine Wp.ret rfl rfl rfl ?_
    exact ⟨rfl, rfl⟩
  · exact absurd (nI_lt (b := 6) h6 (by decide)) h1
theorem c_enter_f {E : zEn} {vs : List (Nat × Nat)} {mi : Nat → Nat → Int32} {ml : Nat → Nat → Int64} {g : Nat → Nat → Option Nat} {kd v ps mm : Int32} (hn : mi 1 0 = nI 6) : Wp E 1 pg_Band_enter 0 (lv_args 0 [.ref 1, .int kd, .int v, .int ps, .int mm]) [] (zsh ++ vs, mi, ml, (zmr g)) (fun r w' => r = some (.int (-4)) ∧ w' = (zsh ++ vs, mi, ml, zmr g)) := by
  refine Wp.run 2 (4, [(0, .ref 1), (1, .int kd), (2, .int v), (3, .int ps), (4, .int mm)], [.int (mi 1 0)], (zsh ++ vs, mi, ml, (zmr g))) rfl ?_
  refine Wp.topi (y := 6) (hn) ?_
  refine Wp.run 3 (11, [(0, .ref 1), (1, .int kd), (2, .int v), (3, .int ps), (4, .int mm)], [.int (-4)], (zsh ++ vs, mi, ml, (zmr g))) rfl ?_
  refine Wp.ret rfl rfl rfl ?_
  exact ⟨rfl, rfl⟩
theorem sim_singer {E : zEn} {nv : Nat} {VD : Nat → zV} {NL : Nat → Nat} {n dd : Nat} {vs : List (Nat × Nat)} {mi : Nat → Nat → Int32} {ml : Nat → Nat → Int64} {g : Nat → Nat → Option Nat} (I : INV nv VD NL n dd vs mi ml g) (x v p k : Int32) : SIM E vs mi ml g pg_H_singer pg_M_singer [.int x, .int v, .int p, .int k] := by
  have B := I.1.1
  have h6 := B.1.2.1
  have hn := B.2.1
  have hN := B.1.1
  have hd := B.1.2.2.1
  have hdd := I.1.2
  by_cases hx : 0 ≤ x ∧ x ≤ 6
  rotate_left
  · refine SIM.q I (x := -1) (dc := 7) (dm := 27) (by decide) (by decide) ?_ ?_
    · refine Wp.run 2 (3, [(0, .ref 0), (1, .int x), (2, .int v), (3, .int p), (4, .int k)], [.int 6, .int x], (zsh ++ vs, mi, ml, (zmr g))) rfl ?_
      refine Wp.call (as := [.int x, .int 6]) (rest := []) rfl rfl rfl rfl rfl (Nat.le_of_ble_eq_true rfl) (Nat.le_of_ble_eq_true rfl) rfl (by decide) (c_within_f hx) ?_
      rintro _ _ ⟨rfl, rfl⟩
      refine Wp.run 2 (10, [(0, .ref 0), (1, .int x), (2, .int v), (3, .int p), (4, .int k)], [.int (-1)], (zsh ++ vs, mi, ml, (zmr g))) rfl ?_
      refine Wp.ret rfl rfl rfl ?_
      exact ⟨rfl, _, _, rfl, SC.rf, fun _ _ _ => rfl⟩
    · intro m g' I' e67 S
      have B' := I'.1.1
      have hn' := B'.2.1
      have hN' := B'.1.1
      have hd' := B'.1.2.2.1
      refine Wp.run 3 (4, [(0, .ref 66), (1, .int x), (2, .int v), (3, .int p), (4, .int k)], [.int 6, .int 0, .int x], (zsh ++ vs, m, ml, (zmr g'))) rfl ?_
      refine Wp.call (as := [.int x, .int 0, .int 6]) (rest := []) rfl rfl rfl rfl rfl (Nat.le_of_ble_eq_true rfl) (Nat.le_of_ble_eq_true rfl) rfl (by decide) (m_isIn_f hx) ?_
      rintro _ _ ⟨rfl, rfl⟩
      refine Wp.run 2 (11, [(0, .ref 66), (1, .int x), (2, .int v), (3, .int p), (4, .int k)], [.int (-1)], (zsh ++ vs, m, ml, (zmr g'))) rfl ?_
      refine Wp.ret rfl rfl rfl ?_
      exact ⟨rfl, _, rfl, SC.rf⟩
  by_cases hv : 0 ≤ v ∧ v ≤ 9
  rotate_left
  · refine SIM.q I (x := -2) (dc := 7) (dm := 27) (by decide) (by decide) ?_ ?_
    · refine Wp.run 2 (3, [(0, .ref 0), (1, .int x), (2, .int v), (3, .int p), (4, .int k)], [.int 6, .int x], (zsh ++ vs, mi, ml, (zmr g))) rfl ?_
      refine Wp.call (as := [.int x, .int 6]) (rest := []) rfl rfl rfl rfl rfl (Nat.le_of_ble_eq_true rfl) (Nat.le_of_ble_eq_true rfl) rfl (by decide) (c_within_t hx) ?_
      rintro _ _ ⟨rfl, rfl⟩
      refine Wp.run 3 (14, [(0, .ref 0), (1, .int x), (2, .int v), (3, .int p), (4, .int k)], [.int 9, .int v], (zsh ++ vs, mi, ml, (zmr g))) rfl ?_
      refine Wp.call (as := [.int v, .int 9]) (rest := []) rfl rfl rfl rfl rfl (Nat.le_of_ble_eq_true rfl) (Nat.le_of_ble_eq_true rfl) rfl (by decide) (c_within_f hv) ?_
      rintro _ _ ⟨rfl, rfl⟩
      refine Wp.run 2 (42, [(0, .ref 0), (1, .int x), (2, .int v), (3, .int p), (4, .int k)], [.int (-2)], (zsh ++ vs, mi, ml, (zmr g))) rfl ?_
      refine Wp.ret rfl rfl rfl ?_
      exact ⟨rfl, _, _, rfl, SC.rf, fun _ _ _ => rfl⟩
    · intro m g' I' e67 S
      have B' := I'.1.1
      have hn' := B'.2.1
      have hN' := B'.1.1
      have hd' := B'.1.2.2.1
      refine Wp.run 3 (4, [(0, .ref 66), (1, .int x), (2, .int v), (3, .int p), (4, .int k)], [.int 6, .int 0, .int x], (zsh ++ vs, m, ml, (zmr g'))) rfl ?_
      refine Wp.call (as := [.int x, .int 0, .int 6]) (rest := []) rfl rfl rfl rfl rfl (Nat.le_of_ble_eq_true rfl) (Nat.le_of_ble_eq_true rfl) rfl (by decide) (m_isIn_t hx) ?_
      rintro _ _ ⟨rfl, rfl⟩
      refine Wp.run 4 (16, [(0, .ref 66), (1, .int x), (2, .int v), (3, .int p), (4, .int k)], [.int 9, .int 0, .int v], (zsh ++ vs, m, ml, (zmr g'))) rfl ?_
      refine Wp.call (as := [.int v, .int 0, .int 9]) (rest := []) rfl rfl rfl rfl rfl (Nat.le_of_ble_eq_true rfl) (Nat.le_of_ble_eq_true rfl) rfl (by decide) (m_isIn_f hv) ?_
      rintro _ _ ⟨rfl, rfl⟩
      refine Wp.run 2 (46, [(0, .ref 66), (1, .int x), (2, .int v), (3, .int p), (4, .int k)], [.int (-2)], (zsh ++ vs, m, ml, (zmr g'))) rfl ?_
      refine Wp.ret rfl rfl rfl ?_
      exact ⟨rfl, _, rfl, SC.rf⟩
  by_cases hp : 0 ≤ p ∧ p ≤ 255
  rotate_left
  · refine SIM.q I (x := -2) (dc := 7) (dm := 27) (by decide) (by decide) ?_ ?_
    · refine Wp.run 2 (3, [(0, .ref 0), (1, .int x), (2, .int v), (3, .int p), (4, .int k)], [.int 6, .int x], (zsh ++ vs, mi, ml, (zmr g))) rfl ?_
      refine Wp.call (as := [.int x, .int 6]) (rest := []) rfl rfl rfl rfl rfl (Nat.le_of_ble_eq_true rfl) (Nat.le_of_ble_eq_true rfl) rfl (by decide) (c_within_t hx) ?_
      rintro _ _ ⟨rfl, rfl⟩
      refine Wp.run 3 (14, [(0, .ref 0), (1, .int x), (2, .int v), (3, .int p), (4, .int k)], [.int 9, .int v], (zsh ++ vs, mi, ml, (zmr g))) rfl ?_
      refine Wp.call (as := [.int v, .int 9]) (rest := []) rfl rfl rfl rfl rfl (Nat.le_of_ble_eq_true rfl) (Nat.le_of_ble_eq_true rfl) rfl (by decide) (c_within_t hv) ?_
      rintro _ _ ⟨rfl, rfl⟩
      refine Wp.run 3 (24, [(0, .ref 0), (1, .int x), (2, .int v), (3, .int p), (4, .int k)], [.int 255, .int p], (zsh ++ vs, mi, ml, (zmr g))) rfl ?_
      refine Wp.call (as := [.int p, .int 255]) (rest := []) rfl rfl rfl rfl rfl (Nat.le_of_ble_eq_true rfl) (Nat.le_of_ble_eq_true rfl) rfl (by decide) (c_within_f hp) ?_
      rintro _ _ ⟨rfl, rfl⟩
      refine Wp.run 2 (42, [(0, .ref 0), (1, .int x), (2, .int v), (3, .int p), (4, .int k)], [.int (-2)], (zsh ++ vs, mi, ml, (zmr g))) rfl ?_
      refine Wp.ret rfl rfl rfl ?_
      exact ⟨rfl, _, _, rfl, SC.rf, fun _ _ _ => rfl⟩
    · intro m g' I' e67 S
      have B' := I'.1.1
      have hn' := B'.2.1
      have hN' := B'.1.1
      have hd' := B'.1.2.2.1
      refine Wp.run 3 (4, [(0, .ref 66), (1, .int x), (2, .int v), (3, .int p), (4, .int k)], [.int 6, .int 0, .int x], (zsh ++ vs, m, ml, (zmr g'))) rfl ?_
      refine Wp.call (as := [.int x, .int 0, .int 6]) (rest := []) rfl rfl rfl rfl rfl (Nat.le_of_ble_eq_true rfl) (Nat.le_of_ble_eq_true rfl) rfl (by decide) (m_isIn_t hx) ?_
      rintro _ _ ⟨rfl, rfl⟩
      refine Wp.run 4 (16, [(0, .ref 66), (1, .int x), (2, .int v), (3, .int p), (4, .int k)], [.int 9, .int 0, .int v], (zsh ++ vs, m, ml, (zmr g'))) rfl ?_
      refine Wp.call (as := [.int v, .int 0, .int 9]) (rest := []) rfl rfl rfl rfl rfl (Nat.le_of_ble_eq_true rfl) (Nat.le_of_ble_eq_true rfl) rfl (by decide) (m_isIn_t hv) ?_
      rintro _ _ ⟨rfl, rfl⟩
      refine Wp.run 4 (27, [(0, .ref 66), (1, .int x), (2, .int v), (3, .int p), (4, .int k)], [.int 255, .int 0, .int p], (zsh ++ vs, m, ml, (zmr g'))) rfl ?_
      refine Wp.call (as := [.int p, .int 0, .int 255]) (rest := []) rfl rfl rfl rfl rfl (Nat.le_of_ble_eq_true rfl) (Nat.le_of_ble_eq_true rfl) rfl (by decide) (m_isIn_f hp) ?_
      rintro _ _ ⟨rfl, rfl⟩
      refine Wp.run 2 (46, [(0, .ref 66), (1, .int x), (2, .int v), (3, .int p), (4, .int k)], [.int (-2)], (zsh ++ vs, m, ml, (zmr g'))) rfl ?_
      refine Wp.ret rfl rfl rfl ?_
      exact ⟨rfl, _, rfl, SC.rf⟩
  by_cases hk : 0 ≤ k ∧ k ≤ 99
  rotate_left
  · refine SIM.q I (x := -2) (dc := 7) (dm := 27) (by decide) (by decide) ?_ ?_
    · refine Wp.run 2 (3, [(0, .ref 0), (1, .int x), (2, .int v), (3, .int p), (4, .int k)], [.int 6, .int x], (zsh ++ vs, mi, ml, (zmr g))) rfl ?_
      refine Wp.call (as := [.int x, .int 6]) (rest := []) rfl rfl rfl rfl rfl (Nat.le_of_ble_eq_true rfl) (Nat.le_of_ble_eq_true rfl) rfl (by decide) (c_within_t hx) ?_
      rintro _ _ ⟨rfl, rfl⟩
      refine Wp.run 3 (14, [(0, .ref 0), (1, .int x), (2, .int v), (3, .int p), (4, .int k)], [.int 9, .int v], (zsh ++ vs, mi, ml, (zmr g))) rfl ?_
      refine Wp.call (as := [.int v, .int 9]) (rest := []) rfl rfl rfl rfl rfl (Nat.le_of_ble_eq_true rfl) (Nat.le_of_ble_eq_true rfl) rfl (by decide) (c_within_t hv) ?_
      rintro _ _ ⟨rfl, rfl⟩
      refine Wp.run 3 (24, [(0, .ref 0), (1, .int x), (2, .int v), (3, .int p), (4, .int k)], [.int 255, .int p], (zsh ++ vs, mi, ml, (zmr g))) rfl ?_
      refine Wp.call (as := [.int p, .int 255]) (rest := []) rfl rfl rfl rfl rfl (Nat.le_of_ble_eq_true rfl) (Nat.le_of_ble_eq_true rfl) rfl (by decide) (c_within_t hp) ?_
      rintro _ _ ⟨rfl, rfl⟩
      refine Wp.run 3 (34, [(0, .ref 0), (1, .int x), (2, .int v), (3, .int p), (4, .int k)], [.int 99, .int k], (zsh ++ vs, mi, ml, (zmr g))) rfl ?_
      refine Wp.call (as := [.int k, .int 99]) (rest := []) rfl rfl rfl rfl rfl (Nat.le_of_ble_eq_true rfl) (Nat.le_of_ble_eq_true rfl) rfl (by decide) (c_within_f hk) ?_
      rintro _ _ ⟨rfl, rfl⟩
      refine Wp.run 2 (42, [(0, .ref 0), (1, .int x), (2, .int v), (3, .int p), (4, .int k)], [.int (-2)], (zsh ++ vs, mi, ml, (zmr g))) rfl ?_
      refine Wp.ret rfl rfl rfl ?_
      exact ⟨rfl, _, _, rfl, SC.rf, fun _ _ _ => rfl⟩
    · intro m g' I' e67 S
      have B' := I'.1.1
      have hn' := B'.2.1
      have hN' := B'.1.1
      have hd' := B'.1.2.2.1
      refine Wp.run 3 (4, [(0, .ref 66), (1, .int x), (2, .int v), (3, .int p), (4, .int k)], [.int 6, .int 0, .int x], (zsh ++ vs, m, ml, (zmr g'))) rfl ?_
      refine Wp.call (as := [.int x, .int 0, .int 6]) (rest := []) rfl rfl rfl rfl rfl (Nat.le_of_ble_eq_true rfl) (Nat.le_of_ble_eq_true rfl) rfl (by decide) (m_isIn_t hx) ?_
      rintro _ _ ⟨rfl, rfl⟩
      refine Wp.run 4 (16, [(0, .ref 66), (1, .int x), (2, .int v), (3, .int p), (4, .int k)], [.int 9, .int 0, .int v], (zsh ++ vs, m, ml, (zmr g'))) rfl ?_
      refine Wp.call (as := [.int v, .int 0, .int 9]) (rest := []) rfl rfl rfl rfl rfl (Nat.le_of_ble_eq_true rfl) (Nat.le_of_ble_eq_true rfl) rfl (by decide) (m_isIn_t hv) ?_
      rintro _ _ ⟨rfl, rfl⟩
      refine Wp.run 4 (27, [(0, .ref 66), (1, .int x), (2, .int v), (3, .int p), (4, .int k)], [.int 255, .int 0, .int p], (zsh ++ vs, m, ml, (zmr g'))) rfl ?_
      refine Wp.call (as := [.int p, .int 0, .int 255]) (rest := []) rfl rfl rfl rfl rfl (Nat.le_of_ble_eq_true rfl) (Nat.le_of_ble_eq_true rfl) rfl (by decide) (m_isIn_t hp) ?_
      rintro _ _ ⟨rfl, rfl⟩
      refine Wp.run 4 (38, [(0, .ref 66), (1, .int x), (2, .int v), (3, .int p), (4, .int k)], [.int 99, .int 0, .int k], (zsh ++ vs, m, ml, (zmr g'))) rfl ?_
      refine Wp.call (as := [.int k, .int 0, .int 99]) (rest := []) rfl rfl rfl rfl rfl (Nat.le_of_ble_eq_true rfl) (Nat.le_of_ble_eq_true rfl) rfl (by decide) (m_isIn_f hk) ?_
      rintro _ _ ⟨rfl, rfl⟩
      refine Wp.run 2 (46, [(0, .ref 66), (1, .int x), (2, .int v), (3, .int p), (4, .int k)], [.int (-2)], (zsh ++ vs, m, ml, (zmr g'))) rfl ?_
      refine Wp.ret rfl rfl rfl ?_
      exact ⟨rfl, _, rfl, SC.rf⟩
  by_cases h5 : n = 6
  · refine SIM.q I (x := -4) (dc := 7) (dm := 27) (by decide) (by decide) ?_ ?_
    · refine Wp.run 2 (3, [(0, .ref 0), (1, .int x), (2, .int v), (3, .int p), (4, .int k)], [.int 6, .int x], (zsh ++ vs, mi, ml, (zmr g))) rfl ?_
      refine Wp.call (as := [.int x, .int 6]) (rest := []) rfl rfl rfl rfl rfl (Nat.le_of_ble_eq_true rfl) (Nat.le_of_ble_eq_true rfl) rfl (by decide) (c_within_t hx) ?_
      rintro _ _ ⟨rfl, rfl⟩
      refine Wp.run 3 (14, [(0, .ref 0), (1, .int x), (2, .int v), (3, .int p), (4, .int k)], [.int 9, .int v], (zsh ++ vs, mi, ml, (zmr g))) rfl ?_
      refine Wp.call (as := [.int v, .int 9]) (rest := []) rfl rfl rfl rfl rfl (Nat.le_of_ble_eq_true rfl) (Nat.le_of_ble_eq_true rfl) rfl (by decide) (c_within_t hv) ?_
      rintro _ _ ⟨rfl, rfl⟩
      refine Wp.run 3 (24, [(0, .ref 0), (1, .int x), (2, .int v), (3, .int p), (4, .int k)], [.int 255, .int p], (zsh ++ vs, mi, ml, (zmr g))) rfl ?_
      refine Wp.call (as := [.int p, .int 255]) (rest := []) rfl rfl rfl rfl rfl (Nat.le_of_ble_eq_true rfl) (Nat.le_of_ble_eq_true rfl) rfl (by decide) (c_within_t hp) ?_
      rintro _ _ ⟨rfl, rfl⟩
      refine Wp.run 3 (34, [(0, .ref 0), (1, .int x), (2, .int v), (3, .int p), (4, .int k)], [.int 99, .int k], (zsh ++ vs, mi, ml, (zmr g))) rfl ?_
      refine Wp.call (as := [.int k, .int 99]) (rest := []) rfl rfl rfl rfl rfl (Nat.le_of_ble_eq_true rfl) (Nat.le_of_ble_eq_true rfl) rfl (by decide) (c_within_t hk) ?_
      rintro _ _ ⟨rfl, rfl⟩
      refine Wp.run 7 (52, [(0, .ref 0), (1, .int x), (2, .int v), (3, .int p), (4, .int k)], [.int k, .int p, .int v, .int x, .ref 1], (zsh ++ vs, mi, ml, (zmr g))) rfl ?_
      refine Wp.call (as := [.ref 1, .int x, .int v, .int p, .int k]) (rest := []) rfl rfl rfl rfl rfl (Nat.le_of_ble_eq_true rfl) (Nat.le_of_ble_eq_true rfl) rfl (by decide) (c_enter_f (hn.trans (congrArg nI h5))) ?_
      rintro _ _ ⟨rfl, rfl⟩
      refine Wp.run 0 (55, [(0, .ref 0), (1, .int x), (2, .int v), (3, .int p), (4, .int k)], [.int (-4)], (zsh ++ vs, mi, ml, (zmr g))) rfl ?_
      refine Wp.ret rfl rfl rfl ?_
      exact ⟨rfl, _, _, rfl, SC.rf, fun _ _ _ => rfl⟩
    · intro m g' I' e67 S
      have B' := I'.1.1
      have hn' := B'.2.1
      have hN' := B'.1.1
      have hd' := B'.1.2.2.1
      refine Wp.run 3 (4, [(0, .ref 66), (1, .int x), (2, .int v), (3, .int p), (4, .int k)], [.int 6, .int 0, .int x], (zsh ++ vs, m, ml, (zmr g'))) rfl ?_
      refine Wp.call (as := [.int x, .int 0, .int 6]) (rest := []) rfl rfl rfl rfl rfl (Nat.le_of_ble_eq_true rfl) (Nat.le_of_ble_eq_true rfl) rfl (by decide) (m_isIn_t hx) ?_
      rintro _ _ ⟨rfl, rfl⟩
      refine Wp.run 4 (16, [(0, .ref 66), (1, .int x), (2, .int v), (3, .int p), (4, .int k)], [.int 9, .int 0, .int v], (zsh ++ vs, m, ml, (zmr g'))) rfl ?_
      refine Wp.call (as := [.int v, .int 0, .int 9]) (rest := []) rfl rfl rfl rfl rfl (Nat.le_of_ble_eq_true rfl) (Nat.le_of_ble_eq_true rfl) rfl (by decide) (m_isIn_t hv) ?_
      rintro _ _ ⟨rfl, rfl⟩
      refine Wp.run 4 (27, [(0, .ref 66), (1, .int x), (2, .int v), (3, .int p), (4, .int k)], [.int 255, .int 0, .int p], (zsh ++ vs, m, ml, (zmr g'))) rfl ?_
      refine Wp.call (as := [.int p, .int 0, .int 255]) (rest := []) rfl rfl rfl rfl rfl (Nat.le_of_ble_eq_true rfl) (Nat.le_of_ble_eq_true rfl) rfl (by decide) (m_isIn_t hp) ?_
      rintro _ _ ⟨rfl, rfl⟩
      refine Wp.run 4 (38, [(0, .ref 66), (1, .int x), (2, .int v), (3, .int p), (4, .int k)], [.int 99, .int 0, .int k], (zsh ++ vs, m, ml, (zmr g'))) rfl ?_
      refine Wp.call (as := [.int k, .int 0, .int 99]) (rest := []) rfl rfl rfl rfl rfl (Nat.le_of_ble_eq_true rfl) (Nat.le_of_ble_eq_true rfl) rfl (by decide) (m_isIn_t hk) ?_
      rintro _ _ ⟨rfl, rfl⟩
      refine Wp.run 5 (54, [(0, .ref 66), (1, .int x), (2, .int v), (3, .int p), (4, .int k)], [.int (m 67 68)], (zsh ++ vs, m, ml, (zmr g'))) rfl ?_
      refine Wp.topi (y := 6) (hN'.trans (congrArg nI h5)) ?_
      refine Wp.run 5 (65, [(5, .int 6), (0, .ref 66), (1, .int x), (2, .int v), (3, .int p), (4, .int k)], [.int (-4)], (zsh ++ vs, m, ml, (zmr g'))) rfl ?_
      refine Wp.ret rfl rfl rfl ?_
      exact ⟨rfl, _, rfl, SC.rf⟩
  have h69 : n < 6 := by omega
  refine SIM.u (x := nI n) (m1 := (zup (zup (zup (zup (zup (zup (zup (zup (zup (zup (zup mi 3 n x) 4 n v) 5 n p) 6 n k) 7 n 0) 8 (4 * n + 0) 0) 8 (4 * n + 1) 0) 8 (4 * n + 2) 0) 8 (4 * n + 3) 0) 1 2 (mi 1 2 &&& ((1 : Int32) <<< (nI n &&& 31) ^^^ -1))) 1 0 (nI (n + 1)))) (l1 := ml) (m2 := (zup (zup (zup (zup (zup (zup (zup (zup (zup (zup (zup (zup (zup (zup (zup (zup (zup (zup (zup (zup (zup (zup (zup (zup (zup (zup mi 3 n x) 4 n v) 5 n p) 6 n k) 7 n 0) 8 (4 * n + 0) 0) 8 (4 * n + 1) 0) 8 (4 * n + 2) 0) 8 (4 * n + 3) 0) 1 2 (mi 1 2 &&& ((1 : Int32) <<< (nI n &&& 31) ^^^ -1))) 1 0 (nI (n + 1))) 67 (8 + 10 * n + 0) 0) 67 (8 + 10 * n + 1) 0) 67 (8 + 10 * n + 2) 0) 67 (8 + 10 * n + 3) 0) 67 (8 + 10 * n + 4) 0) 67 (8 + 10 * n + 5) 0) 67 (8 + 10 * n + 6) 0) 67 (8 + 10 * n + 7) 0) 67 (8 + 10 * n + 8) 0) 67 (8 + 10 * n + 9) 0) 67 (8 + 10 * n + 0) x) 67 (8 + 10 * n + 1) v) 67 (8 + 10 * n + 2) p) 67 (8 + 10 * n + 3) k) 67 68 (nI (n + 1)))) (l2 := ml) (dc := 7) (dm := 27) (by decide) (by decide) ?_ ?_ ?_
  · refine Wp.run 2 (3, [(0, .ref 0), (1, .int x), (2, .int v), (3, .int p), (4, .int k)], [.int 6, .int x], (zsh ++ vs, mi, ml, (zmr g))) rfl ?_
    refine Wp.call (as := [.int x, .int 6]) (rest := []) rfl rfl rfl rfl rfl (Nat.le_of_ble_eq_true rfl) (Nat.le_of_ble_eq_true rfl) rfl (by decide) (c_within_t hx) ?_
    rintro _ _ ⟨rfl, rfl⟩
    refine Wp.run 3 (14, [(0, .ref 0), (1, .int x), (2, .int v), (3, .int p), (4, .int k)], [.int 9, .int v], (zsh ++ vs, mi, ml, (zmr g))) rfl ?_
    refine Wp.call (as := [.int v, .int 9]) (rest := []) rfl rfl rfl rfl rfl (Nat.le_of_ble_eq_true rfl) (Nat.le_of_ble_eq_true rfl) rfl (by decide) (c_within_t hv) ?_
    rintro _ _ ⟨rfl, rfl⟩
    refine Wp.run 3 (24, [(0, .ref 0), (1, .int x), (2, .int v), (3, .int p), (4, .int k)], [.int 255, .int p], (zsh ++ vs, mi, ml, (zmr g))) rfl ?_
    refine Wp.call (as := [.int p, .int 255]) (rest := []) rfl rfl rfl rfl rfl (Nat.le_of_ble_eq_true rfl) (Nat.le_of_ble_eq_true rfl) rfl (by decide) (c_within_t hp) ?_
    rintro _ _ ⟨rfl, rfl⟩
    refine Wp.run 3 (34, [(0, .ref 0), (1, .int x), (2, .int v), (3, .int p), (4, .int k)], [.int 99, .int k], (zsh ++ vs, mi, ml, (zmr g))) rfl ?_
    refine Wp.call (as := [.int k, .int 99]) (rest := []) rfl rfl rfl rfl rfl (Nat.le_of_ble_eq_true rfl) (Nat.le_of_ble_eq_true rfl) rfl (by decide) (c_within_t hk) ?_
    rintro _ _ ⟨rfl, rfl⟩
    refine Wp.run 7 (52, [(0, .ref 0), (1, .int x), (2, .int v), (3, .int p), (4, .int k)], [.int k, .int p, .int v, .int x, .ref 1], (zsh ++ vs, mi, ml, (zmr g))) rfl ?_
    refine Wp.call (as := [.ref 1, .int x, .int v, .int p, .int k]) (rest := []) rfl rfl rfl rfl rfl (Nat.le_of_ble_eq_true rfl) (Nat.le_of_ble_eq_true rfl) rfl (by decide) (c_enter hn h69) ?_
    rintro _ _ ⟨rfl, rfl⟩
    refine Wp.run 0 (55, [(0, .ref 0), (1, .int x), (2, .int v), (3, .int p), (4, .int k)], [.int (nI n)], (zsh ++ vs, (zup (zup (zup (zup (zup (zup (zup (zup (zup (zup (zup mi 3 n x) 4 n v) 5 n p) 6 n k) 7 n 0) 8 (4 * n + 0) 0) 8 (4 * n + 1) 0) 8 (4 * n + 2) 0) 8 (4 * n + 3) 0) 1 2 (mi 1 2 &&& ((1 : Int32) <<< (nI n &&& 31) ^^^ -1))) 1 0 (nI (n + 1))), ml, (zmr g))) rfl ?_
    refine Wp.ret rfl rfl rfl ?_
    exact ⟨rfl, rfl⟩
  · refine Wp.run 3 (4, [(0, .ref 66), (1, .int x), (2, .int v), (3, .int p), (4, .int k)], [.int 6, .int 0, .int x], (zsh ++ vs, (zup (zup (zup (zup (zup (zup (zup (zup (zup (zup (zup mi 3 n x) 4 n v) 5 n p) 6 n k) 7 n 0) 8 (4 * n + 0) 0) 8 (4 * n + 1) 0) 8 (4 * n + 2) 0) 8 (4 * n + 3) 0) 1 2 (mi 1 2 &&& ((1 : Int32) <<< (nI n &&& 31) ^^^ -1))) 1 0 (nI (n + 1))), ml, (zmr g))) rfl ?_
    refine Wp.call (as := [.int x, .int 0, .int 6]) (rest := []) rfl rfl rfl rfl rfl (Nat.le_of_ble_eq_true rfl) (Nat.le_of_ble_eq_true rfl) rfl (by decide) (m_isIn_t hx) ?_
    rintro _ _ ⟨rfl, rfl⟩
    refine Wp.run 4 (16, [(0, .ref 66), (1, .int x), (2, .int v), (3, .int p), (4, .int k)], [.int 9, .int 0, .int v], (zsh ++ vs, (zup (zup (zup (zup (zup (zup (zup (zup (zup (zup (zup mi 3 n x) 4 n v) 5 n p) 6 n k) 7 n 0) 8 (4 * n + 0) 0) 8 (4 * n + 1) 0) 8 (4 * n + 2) 0) 8 (4 * n + 3) 0) 1 2 (mi 1 2 &&& ((1 : Int32) <<< (nI n &&& 31) ^^^ -1))) 1 0 (nI (n + 1))), ml, (zmr g))) rfl ?_
    refine Wp.call (as := [.int v, .int 0, .int 9]) (rest := []) rfl rfl rfl rfl rfl (Nat.le_of_ble_eq_true rfl) (Nat.le_of_ble_eq_true rfl) rfl (by decide) (m_isIn_t hv) ?_
    rintro _ _ ⟨rfl, rfl⟩
    refine Wp.run 4 (27, [(0, .ref 66), (1, .int x), (2, .int v), (3, .int p), (4, .int k)], [.int 255, .int 0, .int p], (zsh ++ vs, (zup (zup (zup (zup (zup (zup (zup (zup (zup (zup (zup mi 3 n x) 4 n v) 5 n p) 6 n k) 7 n 0) 8 (4 * n + 0) 0) 8 (4 * n + 1) 0) 8 (4 * n + 2) 0) 8 (4 * n + 3) 0) 1 2 (mi 1 2 &&& ((1 : Int32) <<< (nI n &&& 31) ^^^ -1))) 1 0 (nI (n + 1))), ml, (zmr g))) rfl ?_
    refine Wp.call (as := [.int p, .int 0, .int 255]) (rest := []) rfl rfl rfl rfl rfl (Nat.le_of_ble_eq_true rfl) (Nat.le_of_ble_eq_true rfl) rfl (by decide) (m_isIn_t hp) ?_
    rintro _ _ ⟨rfl, rfl⟩
    refine Wp.run 4 (38, [(0, .ref 66), (1, .int x), (2, .int v), (3, .int p), (4, .int k)], [.int 99, .int 0, .int k], (zsh ++ vs, (zup (zup (zup (zup (zup (zup (zup (zup (zup (zup (zup mi 3 n x) 4 n v) 5 n p) 6 n k) 7 n 0) 8 (4 * n + 0) 0) 8 (4 * n + 1) 0) 8 (4 * n + 2) 0) 8 (4 * n + 3) 0) 1 2 (mi 1 2 &&& ((1 : Int32) <<< (nI n &&& 31) ^^^ -1))) 1 0 (nI (n + 1))), ml, (zmr g))) rfl ?_
    refine Wp.call (as := [.int k, .int 0, .int 99]) (rest := []) rfl rfl rfl rfl rfl (Nat.le_of_ble_eq_true rfl) (Nat.le_of_ble_eq_true rfl) rfl (by decide) (m_isIn_t hk) ?_
    rintro _ _ ⟨rfl, rfl⟩
    refine Wp.run 5 (54, [(0, .ref 66), (1, .int x), (2, .int v), (3, .int p), (4, .int k)], [.int (mi 67 68)], (zsh ++ vs, (zup (zup (zup (zup (zup (zup (zup (zup (zup (zup (zup mi 3 n x) 4 n v) 5 n p) 6 n k) 7 n 0) 8 (4 * n + 0) 0) 8 (4 * n + 1) 0) 8 (4 * n + 2) 0) 8 (4 * n + 3) 0) 1 2 (mi 1 2 &&& ((1 : Int32) <<< (nI n &&& 31) ^^^ -1))) 1 0 (nI (n + 1))), ml, (zmr g))) rfl ?_
    refine Wp.topi (y := nI n) (hN) ?_
    refine Wp.run 3 (60, [(5, .int (nI n)), (0, .ref 66), (1, .int x), (2, .int v), (3, .int p), (4, .int k)], [.int 6, .int (nI n)], (zsh ++ vs, (zup (zup (zup (zup (zup (zup (zup (zup (zup (zup (zup mi 3 n x) 4 n v) 5 n p) 6 n k) 7 n 0) 8 (4 * n + 0) 0) 8 (4 * n + 1) 0) 8 (4 * n + 2) 0) 8 (4 * n + 3) 0) 1 2 (mi 1 2 &&& ((1 : Int32) <<< (nI n &&& 31) ^^^ -1))) 1 0 (nI (n + 1))), ml, (zmr g))) rfl ?_
    refine Wp.icmp_ne rfl (fun h51 => ?_) (fun h51 => ?_)
    · refine Wp.run 9 (82, [(6, .int 0), (5, .int (nI n)), (0, .ref 66), (1, .int x), (2, .int v), (3, .int p), (4, .int k)], [.int 0, .int 0, .int (nI n), .ref 66], (zsh ++ vs, (zup (zup (zup (zup (zup (zup (zup (zup (zup (zup (zup mi 3 n x) 4 n v) 5 n p) 6 n k) 7 n 0) 8 (4 * n + 0) 0) 8 (4 * n + 1) 0) 8 (4 * n + 2) 0) 8 (4 * n + 3) 0) 1 2 (mi 1 2 &&& ((1 : Int32) <<< (nI n &&& 31) ^^^ -1))) 1 0 (nI (n + 1))), ml, (zmr g))) rfl ?_
      refine Wp.call (as := [.ref 66, .int (nI n), .int 0, .int 0]) (rest := []) rfl rfl rfl rfl rfl (Nat.le_of_ble_eq_true rfl) (Nat.le_of_ble_eq_true rfl) rfl (by decide) (m_change (mi := (zup (zup (zup (zup (zup (zup (zup (zup (zup (zup (zup mi 3 n x) 4 n v) 5 n p) 6 n k) 7 n 0) 8 (4 * n + 0) 0) 8 (4 * n + 1) 0) 8 (4 * n + 2) 0) 8 (4 * n + 3) 0) 1 2 (mi 1 2 &&& ((1 : Int32) <<< (nI n &&& 31) ^^^ -1))) 1 0 (nI (n + 1)))) n 0 0 (by omega)) ?_
      rintro _ _ ⟨rfl, rfl⟩
      refine Wp.run 3 (69, [(6, .int 1), (5, .int (nI n)), (0, .ref 66), (1, .int x), (2, .int v), (3, .int p), (4, .int k)], [], (zsh ++ vs, (zup (zup (zup (zup (zup (zup (zup (zup (zup (zup (zup (zup mi 3 n x) 4 n v) 5 n p) 6 n k) 7 n 0) 8 (4 * n + 0) 0) 8 (4 * n + 1) 0) 8 (4 * n + 2) 0) 8 (4 * n + 3) 0) 1 2 (mi 1 2 &&& ((1 : Int32) <<< (nI n &&& 31) ^^^ -1))) 1 0 (nI (n + 1))) 67 (8 + 10 * n + 0) 0), ml, (zmr g))) rfl ?_
      refine Wp.run 7 (82, [(6, .int 1), (5, .int (nI n)), (0, .ref 66), (1, .int x), (2, .int v), (3, .int p), (4, .int k)], [.int 0, .int 1, .int (nI n), .ref 66], (zsh ++ vs, (zup (zup (zup (zup (zup (zup (zup (zup (zup (zup (zup (zup mi 3 n x) 4 n v) 5 n p) 6 n k) 7 n 0) 8 (4 * n + 0) 0) 8 (4 * n + 1) 0) 8 (4 * n + 2) 0) 8 (4 * n + 3) 0) 1 2 (mi 1 2 &&& ((1 : Int32) <<< (nI n &&& 31) ^^^ -1))) 1 0 (nI (n + 1))) 67 (8 + 10 * n + 0) 0), ml, (zmr g))) rfl ?_
      refine Wp.call (as := [.ref 66, .int (nI n), .int 1, .int 0]) (rest := []) rfl rfl rfl rfl rfl (Nat.le_of_ble_eq_true rfl) (Nat.le_of_ble_eq_true rfl) rfl (by decide) (m_change (mi := (zup (zup (zup (zup (zup (zup (zup (zup (zup (zup (zup (zup mi 3 n x) 4 n v) 5 n p) 6 n k) 7 n 0) 8 (4 * n + 0) 0) 8 (4 * n + 1) 0) 8 (4 * n + 2) 0) 8 (4 * n + 3) 0) 1 2 (mi 1 2 &&& ((1 : Int32) <<< (nI n &&& 31) ^^^ -1))) 1 0 (nI (n + 1))) 67 (8 + 10 * n + 0) 0)) n 1 0 (by omega)) ?_
      rintro _ _ ⟨rfl, rfl⟩
      refine Wp.run 3 (69, [(6, .int 2), (5, .int (nI n)), (0, .ref 66), (1, .int x), (2, .int v), (3, .int p), (4, .int k)], [], (zsh ++ vs, (zup (zup (zup (zup (zup (zup (zup (zup (zup (zup (zup (zup (zup mi 3 n x) 4 n v) 5 n p) 6 n k) 7 n 0) 8 (4 * n + 0) 0) 8 (4 * n + 1) 0) 8 (4 * n + 2) 0) 8 (4 * n + 3) 0) 1 2 (mi 1 2 &&& ((1 : Int32) <<< (nI n &&& 31) ^^^ -1))) 1 0 (nI (n + 1))) 67 (8 + 10 * n + 0) 0) 67 (8 + 10 * n + 1) 0), ml, (zmr g))) rfl ?_
      refine Wp.run 7 (82, [(6, .int 2), (5, .int (nI n)), (0, .ref 66), (1, .int x), (2, .int v), (3, .int p), (4, .int k)], [.int 0, .int 2, .int (nI n), .ref 66], (zsh ++ vs, (zup (zup (zup (zup (zup (zup (zup (zup (zup (zup (zup (zup (zup mi 3 n x) 4 n v) 5 n p) 6 n k) 7 n 0) 8 (4 * n + 0) 0) 8 (4 * n + 1) 0) 8 (4 * n + 2) 0) 8 (4 * n + 3) 0) 1 2 (mi 1 2 &&& ((1 : Int32) <<< (nI n &&& 31) ^^^ -1))) 1 0 (nI (n + 1))) 67 (8 + 10 * n + 0) 0) 67 (8 + 10 * n + 1) 0), ml, (zmr g))) rfl ?_
      refine Wp.call (as := [.ref 66, .int (nI n), .int 2, .int 0]) (rest := []) rfl rfl rfl rfl rfl (Nat.le_of_ble_eq_true rfl) (Nat.le_of_ble_eq_true rfl) rfl (by decide) (m_change (mi := (zup (zup (zup (zup (zup (zup (zup (zup (zup (zup (zup (zup (zup mi 3 n x) 4 n v) 5 n p) 6 n k) 7 n 0) 8 (4 * n + 0) 0) 8 (4 * n + 1) 0) 8 (4 * n + 2) 0) 8 (4 * n + 3) 0) 1 2 (mi 1 2 &&& ((1 : Int32) <<< (nI n &&& 31) ^^^ -1))) 1 0 (nI (n + 1))) 67 (8 + 10 * n + 0) 0) 67 (8 + 10 * n + 1) 0)) n 2 0 (by omega)) ?_
      rintro _ _ ⟨rfl, rfl⟩
      refine Wp.run 3 (69, [(6, .int 3), (5, .int (nI n)), (0, .ref 66), (1, .int x), (2, .int v), (3, .int p), (4, .int k)], [], (zsh ++ vs, (zup (zup (zup (zup (zup (zup (zup (zup (zup (zup (zup (zup (zup (zup mi 3 n x) 4 n v) 5 n p) 6 n k) 7 n 0) 8 (4 * n + 0) 0) 8 (4 * n + 1) 0) 8 (4 * n + 2) 0) 8 (4 * n + 3) 0) 1 2 (mi 1 2 &&& ((1 : Int32) <<< (nI n &&& 31) ^^^ -1))) 1 0 (nI (n + 1))) 67 (8 + 10 * n + 0) 0) 67 (8 + 10 * n + 1) 0) 67 (8 + 10 * n + 2) 0), ml, (zmr g))) rfl ?_
      refine Wp.run 7 (82, [(6, .int 3), (5, .int (nI n)), (0, .ref 66), (1, .int x), (2, .int v), (3, .int p), (4, .int k)], [.int 0, .int 3, .int (nI n), .ref 66], (zsh ++ vs, (zup (zup (zup (zup (zup (zup (zup (zup (zup (zup (zup (zup (zup (zup mi 3 n x) 4 n v) 5 n p) 6 n k) 7 n 0) 8 (4 * n + 0) 0) 8 (4 * n + 1) 0) 8 (4 * n + 2) 0) 8 (4 * n + 3) 0) 1 2 (mi 1 2 &&& ((1 : Int32) <<< (nI n &&& 31) ^^^ -1))) 1 0 (nI (n + 1))) 67 (8 + 10 * n + 0) 0) 67 (8 + 10 * n + 1) 0) 67 (8 + 10 * n + 2) 0), ml, (zmr g))) rfl ?_
      refine Wp.call (as := [.ref 66, .int (nI n), .int 3, .int 0]) (rest := []) rfl rfl rfl rfl rfl (Nat.le_of_ble_eq_true rfl) (Nat.le_of_ble_eq_true rfl) rfl (by decide) (m_change (mi := (zup (zup (zup (zup (zup (zup (zup (zup (zup (zup (zup (zup (zup (zup mi 3 n x) 4 n v) 5 n p) 6 n k) 7 n 0) 8 (4 * n + 0) 0) 8 (4 * n + 1) 0) 8 (4 * n + 2) 0) 8 (4 * n + 3) 0) 1 2 (mi 1 2 &&& ((1 : Int32) <<< (nI n &&& 31) ^^^ -1))) 1 0 (nI (n + 1))) 67 (8 + 10 * n + 0) 0) 67 (8 + 10 * n + 1) 0) 67 (8 + 10 * n + 2) 0)) n 3 0 (by omega)) ?_
      rintro _ _ ⟨rfl, rfl⟩
      refine Wp.run 3 (69, [(6, .int 4), (5, .int (nI n)), (0, .ref 66), (1, .int x), (2, .int v), (3, .int p), (4, .int k)], [], (zsh ++ vs, (zup (zup (zup (zup (zup (zup (zup (zup (zup (zup (zup (zup (zup (zup (zup mi 3 n x) 4 n v) 5 n p) 6 n k) 7 n 0) 8 (4 * n + 0) 0) 8 (4 * n + 1) 0) 8 (4 * n + 2) 0) 8 (4 * n + 3) 0) 1 2 (mi 1 2 &&& ((1 : Int32) <<< (nI n &&& 31) ^^^ -1))) 1 0 (nI (n + 1))) 67 (8 + 10 * n + 0) 0) 67 (8 + 10 * n + 1) 0) 67 (8 + 10 * n + 2) 0) 67 (8 + 10 * n + 3) 0), ml, (zmr g))) rfl ?_
      refine Wp.run 7 (82, [(6, .int 4), (5, .int (nI n)), (0, .ref 66), (1, .int x), (2, .int v), (3, .int p), (4, .int k)], [.int 0, .int 4, .int (nI n), .ref 66], (zsh ++ vs, (zup (zup (zup (zup (zup (zup (zup (zup (zup (zup (zup (zup (zup (zup (zup mi 3 n x) 4 n v) 5 n p) 6 n k) 7 n 0) 8 (4 * n + 0) 0) 8 (4 * n + 1) 0) 8 (4 * n + 2) 0) 8 (4 * n + 3) 0) 1 2 (mi 1 2 &&& ((1 : Int32) <<< (nI n &&& 31) ^^^ -1))) 1 0 (nI (n + 1))) 67 (8 + 10 * n + 0) 0) 67 (8 + 10 * n + 1) 0) 67 (8 + 10 * n + 2) 0) 67 (8 + 10 * n + 3) 0), ml, (zmr g))) rfl ?_
      refine Wp.call (as := [.ref 66, .int (nI n), .int 4, .int 0]) (rest := []) rfl rfl rfl rfl rfl (Nat.le_of_ble_eq_true rfl) (Nat.le_of_ble_eq_true rfl) rfl (by decide) (m_change (mi := (zup (zup (zup (zup (zup (zup (zup (zup (zup (zup (zup (zup (zup (zup (zup mi 3 n x) 4 n v) 5 n p) 6 n k) 7 n 0) 8 (4 * n + 0) 0) 8 (4 * n + 1) 0) 8 (4 * n + 2) 0) 8 (4 * n + 3) 0) 1 2 (mi 1 2 &&& ((1 : Int32) <<< (nI n &&& 31) ^^^ -1))) 1 0 (nI (n + 1))) 67 (8 + 10 * n + 0) 0) 67 (8 + 10 * n + 1) 0) 67 (8 + 10 * n + 2) 0) 67 (8 + 10 * n + 3) 0)) n 4 0 (by omega)) ?_
      rintro _ _ ⟨rfl, rfl⟩
      refine Wp.run 3 (69, [(6, .int 5), (5, .int (nI n)), (0, .ref 66), (1, .int x), (2, .int v), (3, .int p), (4, .int k)], [], (zsh ++ vs, (zup (zup (zup (zup (zup (zup (zup (zup (zup (zup (zup (zup (zup (zup (zup (zup mi 3 n x) 4 n v) 5 n p) 6 n k) 7 n 0) 8 (4 * n + 0) 0) 8 (4 * n + 1) 0) 8 (4 * n + 2) 0) 8 (4 * n + 3) 0) 1 2 (mi 1 2 &&& ((1 : Int32) <<< (nI n &&& 31) ^^^ -1))) 1 0 (nI (n + 1))) 67 (8 + 10 * n + 0) 0) 67 (8 + 10 * n + 1) 0) 67 (8 + 10 * n + 2) 0) 67 (8 + 10 * n + 3) 0) 67 (8 + 10 * n + 4) 0), ml, (zmr g))) rfl ?_
      refine Wp.run 7 (82, [(6, .int 5), (5, .int (nI n)), (0, .ref 66), (1, .int x), (2, .int v), (3, .int p), (4, .int k)], [.int 0, .int 5, .int (nI n), .ref 66], (zsh ++ vs, (zup (zup (zup (zup (zup (zup (zup (zup (zup (zup (zup (zup (zup (zup (zup (zup mi 3 n x) 4 n v) 5 n p) 6 n k) 7 n 0) 8 (4 * n + 0) 0) 8 (4 * n + 1) 0) 8 (4 * n + 2) 0) 8 (4 * n + 3) 0) 1 2 (mi 1 2 &&& ((1 : Int32) <<< (nI n &&& 31) ^^^ -1))) 1 0 (nI (n + 1))) 67 (8 + 10 * n + 0) 0) 67 (8 + 10 * n + 1) 0) 67 (8 + 10 * n + 2) 0) 67 (8 + 10 * n + 3) 0) 67 (8 + 10 * n + 4) 0), ml, (zmr g))) rfl ?_
      refine Wp.call (as := [.ref 66, .int (nI n), .int 5, .int 0]) (rest := []) rfl rfl rfl rfl rfl (Nat.le_of_ble_eq_true rfl) (Nat.le_of_ble_eq_true rfl) rfl (by decide) (m_change (mi := (zup (zup (zup (zup (zup (zup (zup (zup (zup (zup (zup (zup (zup (zup (zup (zup mi 3 n x) 4 n v) 5 n p) 6 n k) 7 n 0) 8 (4 * n + 0) 0) 8 (4 * n + 1) 0) 8 (4 * n + 2) 0) 8 (4 * n + 3) 0) 1 2 (mi 1 2 &&& ((1 : Int32) <<< (nI n &&& 31) ^^^ -1))) 1 0 (nI (n + 1))) 67 (8 + 10 * n + 0) 0) 67 (8 + 10 * n + 1) 0) 67 (8 + 10 * n + 2) 0) 67 (8 + 10 * n + 3) 0) 67 (8 + 10 * n + 4) 0)) n 5 0 (by omega)) ?_
      rintro _ _ ⟨rfl, rfl⟩
      refine Wp.run 3 (69, [(6, .int 6), (5, .int (nI n)), (0, .ref 66), (1, .int x), (2, .int v), (3, .int p), (4, .int k)], [], (zsh ++ vs, (zup (zup (zup (zup (zup (zup (zup (zup (zup (zup (zup (zup (zup (zup (zup (zup (zup mi 3 n x) 4 n v) 5 n p) 6 n k) 7 n 0) 8 (4 * n + 0) 0) 8 (4 * n + 1) 0) 8 (4 * n + 2) 0) 8 (4 * n + 3) 0) 1 2 (mi 1 2 &&& ((1 : Int32) <<< (nI n &&& 31) ^^^ -1))) 1 0 (nI (n + 1))) 67 (8 + 10 * n + 0) 0) 67 (8 + 10 * n + 1) 0) 67 (8 + 10 * n + 2) 0) 67 (8 + 10 * n + 3) 0) 67 (8 + 10 * n + 4) 0) 67 (8 + 10 * n + 5) 0), ml, (zmr g))) rfl ?_
      refine Wp.run 7 (82, [(6, .int 6), (5, .int (nI n)), (0, .ref 66), (1, .int x), (2, .int v), (3, .int p), (4, .int k)], [.int 0, .int 6, .int (nI n), .ref 66], (zsh ++ vs, (zup (zup (zup (zup (zup (zup (zup (zup (zup (zup (zup (zup (zup (zup (zup (zup (zup mi 3 n x) 4 n v) 5 n p) 6 n k) 7 n 0) 8 (4 * n + 0) 0) 8 (4 * n + 1) 0) 8 (4 * n + 2) 0) 8 (4 * n + 3) 0) 1 2 (mi 1 2 &&& ((1 : Int32) <<< (nI n &&& 31) ^^^ -1))) 1 0 (nI (n + 1))) 67 (8 + 10 * n + 0) 0) 67 (8 + 10 * n + 1) 0) 67 (8 + 10 * n + 2) 0) 67 (8 + 10 * n + 3) 0) 67 (8 + 10 * n + 4) 0) 67 (8 + 10 * n + 5) 0), ml, (zmr g))) rfl ?_
      refine Wp.call (as := [.ref 66, .int (nI n), .int 6, .int 0]) (rest := []) rfl rfl rfl rfl rfl (Nat.le_of_ble_eq_true rfl) (Nat.le_of_ble_eq_true rfl) rfl (by decide) (m_change (mi := (zup (zup (zup (zup (zup (zup (zup (zup (zup (zup (zup (zup (zup (zup (zup (zup (zup mi 3 n x) 4 n v) 5 n p) 6 n k) 7 n 0) 8 (4 * n + 0) 0) 8 (4 * n + 1) 0) 8 (4 * n + 2) 0) 8 (4 * n + 3) 0) 1 2 (mi 1 2 &&& ((1 : Int32) <<< (nI n &&& 31) ^^^ -1))) 1 0 (nI (n + 1))) 67 (8 + 10 * n + 0) 0) 67 (8 + 10 * n + 1) 0) 67 (8 + 10 * n + 2) 0) 67 (8 + 10 * n + 3) 0) 67 (8 + 10 * n + 4) 0) 67 (8 + 10 * n + 5) 0)) n 6 0 (by omega)) ?_
      rintro _ _ ⟨rfl, rfl⟩
      refine Wp.run 3 (69, [(6, .int 7), (5, .int (nI n)), (0, .ref 66), (1, .int x), (2, .int v), (3, .int p), (4, .int k)], [], (zsh ++ vs, (zup (zup (zup (zup (zup (zup (zup (zup (zup (zup (zup (zup (zup (zup (zup (zup (zup (zup mi 3 n x) 4 n v) 5 n p) 6 n k) 7 n 0) 8 (4 * n + 0) 0) 8 (4 * n + 1) 0) 8 (4 * n + 2) 0) 8 (4 * n + 3) 0) 1 2 (mi 1 2 &&& ((1 : Int32) <<< (nI n &&& 31) ^^^ -1))) 1 0 (nI (n + 1))) 67 (8 + 10 * n + 0) 0) 67 (8 + 10 * n + 1) 0) 67 (8 + 10 * n + 2) 0) 67 (8 + 10 * n + 3) 0) 67 (8 + 10 * n + 4) 0) 67 (8 + 10 * n + 5) 0) 67 (8 + 10 * n + 6) 0), ml, (zmr g))) rfl ?_
      refine Wp.run 7 (82, [(6, .int 7), (5, .int (nI n)), (0, .ref 66), (1, .int x), (2, .int v), (3, .int p), (4, .int k)], [.int 0, .int 7, .int (nI n), .ref 66], (zsh ++ vs, (zup (zup (zup (zup (zup (zup (zup (zup (zup (zup (zup (zup (zup (zup (zup (zup (zup (zup mi 3 n x) 4 n v) 5 n p) 6 n k) 7 n 0) 8 (4 * n + 0) 0) 8 (4 * n + 1) 0) 8 (4 * n + 2) 0) 8 (4 * n + 3) 0) 1 2 (mi 1 2 &&& ((1 : Int32) <<< (nI n &&& 31) ^^^ -1))) 1 0 (nI (n + 1))) 67 (8 + 10 * n + 0) 0) 67 (8 + 10 * n + 1) 0) 67 (8 + 10 * n + 2) 0) 67 (8 + 10 * n + 3) 0) 67 (8 + 10 * n + 4) 0) 67 (8 + 10 * n + 5) 0) 67 (8 + 10 * n + 6) 0), ml, (zmr g))) rfl ?_
      refine Wp.call (as := [.ref 66, .int (nI n), .int 7, .int 0]) (rest := []) rfl rfl rfl rfl rfl (Nat.le_of_ble_eq_true rfl) (Nat.le_of_ble_eq_true rfl) rfl (by decide) (m_change (mi := (zup (zup (zup (zup (zup (zup (zup (zup (zup (zup (zup (zup (zup (zup (zup (zup (zup (zup mi 3 n x) 4 n v) 5 n p) 6 n k) 7 n 0) 8 (4 * n + 0) 0) 8 (4 * n + 1) 0) 8 (4 * n + 2) 0) 8 (4 * n + 3) 0) 1 2 (mi 1 2 &&& ((1 : Int32) <<< (nI n &&& 31) ^^^ -1))) 1 0 (nI (n + 1))) 67 (8 + 10 * n + 0) 0) 67 (8 + 10 * n + 1) 0) 67 (8 + 10 * n + 2) 0) 67 (8 + 10 * n + 3) 0) 67 (8 + 10 * n + 4) 0) 67 (8 + 10 * n + 5) 0) 67 (8 + 10 * n + 6) 0)) n 7 0 (by omega)) ?_
      rintro _ _ ⟨rfl, rfl⟩
      refine Wp.run 3 (69, [(6, .int 8), (5, .int (nI n)), (0, .ref 66), (1, .int x), (2, .int v), (3, .int p), (4, .int k)], [], (zsh ++ vs, (zup (zup (zup (zup (zup (zup (zup (zup (zup (zup (zup (zup (zup (zup (zup (zup (zup (zup (zup mi 3 n x) 4 n v) 5 n p) 6 n k) 7 n 0) 8 (4 * n + 0) 0) 8 (4 * n + 1) 0) 8 (4 * n + 2) 0) 8 (4 * n + 3) 0) 1 2 (mi 1 2 &&& ((1 : Int32) <<< (nI n &&& 31) ^^^ -1))) 1 0 (nI (n + 1))) 67 (8 + 10 * n + 0) 0) 67 (8 + 10 * n + 1) 0) 67 (8 + 10 * n + 2) 0) 67 (8 + 10 * n + 3) 0) 67 (8 + 10 * n + 4) 0) 67 (8 + 10 * n + 5) 0) 67 (8 + 10 * n + 6) 0) 67 (8 + 10 * n + 7) 0), ml, (zmr g))) rfl ?_
      refine Wp.run 7 (82, [(6, .int 8), (5, .int (nI n)), (0, .ref 66), (1, .int x), (2, .int v), (3, .int p), (4, .int k)], [.int 0, .int 8, .int (nI n), .ref 66], (zsh ++ vs, (zup (zup (zup (zup (zup (zup (zup (zup (zup (zup (zup (zup (zup (zup (zup (zup (zup (zup (zup mi 3 n x) 4 n v) 5 n p) 6 n k) 7 n 0) 8 (4 * n + 0) 0) 8 (4 * n + 1) 0) 8 (4 * n + 2) 0) 8 (4 * n + 3) 0) 1 2 (mi 1 2 &&& ((1 : Int32) <<< (nI n &&& 31) ^^^ -1))) 1 0 (nI (n + 1))) 67 (8 + 10 * n + 0) 0) 67 (8 + 10 * n + 1) 0) 67 (8 + 10 * n + 2) 0) 67 (8 + 10 * n + 3) 0) 67 (8 + 10 * n + 4) 0) 67 (8 + 10 * n + 5) 0) 67 (8 + 10 * n + 6) 0) 67 (8 + 10 * n + 7) 0), ml, (zmr g))) rfl ?_
      refine Wp.call (as := [.ref 66, .int (nI n), .int 8, .int 0]) (rest := []) rfl rfl rfl rfl rfl (Nat.le_of_ble_eq_true rfl) (Nat.le_of_ble_eq_true rfl) rfl (by decide) (m_change (mi := (zup (zup (zup (zup (zup (zup (zup (zup (zup (zup (zup (zup (zup (zup (zup (zup (zup (zup (zup mi 3 n x) 4 n v) 5 n p) 6 n k) 7 n 0) 8 (4 * n + 0) 0) 8 (4 * n + 1) 0) 8 (4 * n + 2) 0) 8 (4 * n + 3) 0) 1 2 (mi 1 2 &&& ((1 : Int32) <<< (nI n &&& 31) ^^^ -1))) 1 0 (nI (n + 1))) 67 (8 + 10 * n + 0) 0) 67 (8 + 10 * n + 1) 0) 67 (8 + 10 * n + 2) 0) 67 (8 + 10 * n + 3) 0) 67 (8 + 10 * n + 4) 0) 67 (8 + 10 * n + 5) 0) 67 (8 + 10 * n + 6) 0) 67 (8 + 10 * n + 7) 0)) n 8 0 (by omega)) ?_
      rintro _ _ ⟨rfl, rfl⟩
      refine Wp.run 3 (69, [(6, .int 9), (5, .int (nI n)), (0, .ref 66), (1, .int x), (2, .int v), (3, .int p), (4, .int k)], [], (zsh ++ vs, (zup (zup (zup (zup (zup (zup (zup (zup (zup (zup (zup (zup (zup (zup (zup (zup (zup (zup (zup (zup mi 3 n x) 4 n v) 5 n p) 6 n k) 7 n 0) 8 (4 * n + 0) 0) 8 (4 * n + 1) 0) 8 (4 * n + 2) 0) 8 (4 * n + 3) 0) 1 2 (mi 1 2 &&& ((1 : Int32) <<< (nI n &&& 31) ^^^ -1))) 1 0 (nI (n + 1))) 67 (8 + 10 * n + 0) 0) 67 (8 + 10 * n + 1) 0) 67 (8 + 10 * n + 2) 0) 67 (8 + 10 * n + 3) 0) 67 (8 + 10 * n + 4) 0) 67 (8 + 10 * n + 5) 0) 67 (8 + 10 * n + 6) 0) 67 (8 + 10 * n + 7) 0) 67 (8 + 10 * n + 8) 0), ml, (zmr g))) rfl ?_
      refine Wp.run 7 (82, [(6, .int 9), (5, .int (nI n)), (0, .ref 66), (1, .int x), (2, .int v), (3, .int p), (4, .int k)], [.int 0, .int 9, .int (nI n), .ref 66], (zsh ++ vs, (zup (zup (zup (zup (zup (zup (zup (zup (zup (zup (zup (zup (zup (zup (zup (zup (zup (zup (zup (zup mi 3 n x) 4 n v) 5 n p) 6 n k) 7 n 0) 8 (4 * n + 0) 0) 8 (4 * n + 1) 0) 8 (4 * n + 2) 0) 8 (4 * n + 3) 0) 1 2 (mi 1 2 &&& ((1 : Int32) <<< (nI n &&& 31) ^^^ -1))) 1 0 (nI (n + 1))) 67 (8 + 10 * n + 0) 0) 67 (8 + 10 * n + 1) 0) 67 (8 + 10 * n + 2) 0) 67 (8 + 10 * n + 3) 0) 67 (8 + 10 * n + 4) 0) 67 (8 + 10 * n + 5) 0) 67 (8 + 10 * n + 6) 0) 67 (8 + 10 * n + 7) 0) 67 (8 + 10 * n + 8) 0), ml, (zmr g))) rfl ?_
      refine Wp.call (as := [.ref 66, .int (nI n), .int 9, .int 0]) (rest := []) rfl rfl rfl rfl rfl (Nat.le_of_ble_eq_true rfl) (Nat.le_of_ble_eq_true rfl) rfl (by decide) (m_change (mi := (zup (zup (zup (zup (zup (zup (zup (zup (zup (zup (zup (zup (zup (zup (zup (zup (zup (zup (zup (zup mi 3 n x) 4 n v) 5 n p) 6 n k) 7 n 0) 8 (4 * n + 0) 0) 8 (4 * n + 1) 0) 8 (4 * n + 2) 0) 8 (4 * n + 3) 0) 1 2 (mi 1 2 &&& ((1 : Int32) <<< (nI n &&& 31) ^^^ -1))) 1 0 (nI (n + 1))) 67 (8 + 10 * n + 0) 0) 67 (8 + 10 * n + 1) 0) 67 (8 + 10 * n + 2) 0) 67 (8 + 10 * n + 3) 0) 67 (8 + 10 * n + 4) 0) 67 (8 + 10 * n + 5) 0) 67 (8 + 10 * n + 6) 0) 67 (8 + 10 * n + 7) 0) 67 (8 + 10 * n + 8) 0)) n 9 0 (by omega)) ?_
      rintro _ _ ⟨rfl, rfl⟩
      refine Wp.run 3 (69, [(6, .int 10), (5, .int (nI n)), (0, .ref 66), (1, .int x), (2, .int v), (3, .int p), (4, .int k)], [], (zsh ++ vs, (zup (zup (zup (zup (zup (zup (zup (zup (zup (zup (zup (zup (zup (zup (zup (zup (zup (zup (zup (zup (zup mi 3 n x) 4 n v) 5 n p) 6 n k) 7 n 0) 8 (4 * n + 0) 0) 8 (4 * n + 1) 0) 8 (4 * n + 2) 0) 8 (4 * n + 3) 0) 1 2 (mi 1 2 &&& ((1 : Int32) <<< (nI n &&& 31) ^^^ -1))) 1 0 (nI (n + 1))) 67 (8 + 10 * n + 0) 0) 67 (8 + 10 * n + 1) 0) 67 (8 + 10 * n + 2) 0) 67 (8 + 10 * n + 3) 0) 67 (8 + 10 * n + 4) 0) 67 (8 + 10 * n + 5) 0) 67 (8 + 10 * n + 6) 0) 67 (8 + 10 * n + 7) 0) 67 (8 + 10 * n + 8) 0) 67 (8 + 10 * n + 9) 0), ml, (zmr g))) rfl ?_
      refine Wp.run 7 (97, [(6, .int 10), (5, .int (nI n)), (0, .ref 66), (1, .int x), (2, .int v), (3, .int p), (4, .int k)], [.int x, .int 0, .int (nI n), .ref 66], (zsh ++ vs, (zup (zup (zup (zup (zup (zup (zup (zup (zup (zup (zup (zup (zup (zup (zup (zup (zup (zup (zup (zup (zup mi 3 n x) 4 n v) 5 n p) 6 n k) 7 n 0) 8 (4 * n + 0) 0) 8 (4 * n + 1) 0) 8 (4 * n + 2) 0) 8 (4 * n + 3) 0) 1 2 (mi 1 2 &&& ((1 : Int32) <<< (nI n &&& 31) ^^^ -1))) 1 0 (nI (n + 1))) 67 (8 + 10 * n + 0) 0) 67 (8 + 10 * n + 1) 0) 67 (8 + 10 * n + 2) 0) 67 (8 + 10 * n + 3) 0) 67 (8 + 10 * n + 4) 0) 67 (8 + 10 * n + 5) 0) 67 (8 + 10 * n + 6) 0) 67 (8 + 10 * n + 7) 0) 67 (8 + 10 * n + 8) 0) 67 (8 + 10 * n + 9) 0), ml, (zmr g))) rfl ?_
      refine Wp.call (as := [.ref 66, .int (nI n), .int 0, .int x]) (rest := []) rfl rfl rfl rfl rfl (Nat.le_of_ble_eq_true rfl) (Nat.le_of_ble_eq_true rfl) rfl (by decide) (m_change (mi := (zup (zup (zup (zup (zup (zup (zup (zup (zup (zup (zup (zup (zup (zup (zup (zup (zup (zup (zup (zup (zup mi 3 n x) 4 n v) 5 n p) 6 n k) 7 n 0) 8 (4 * n + 0) 0) 8 (4 * n + 1) 0) 8 (4 * n + 2) 0) 8 (4 * n + 3) 0) 1 2 (mi 1 2 &&& ((1 : Int32) <<< (nI n &&& 31) ^^^ -1))) 1 0 (nI (n + 1))) 67 (8 + 10 * n + 0) 0) 67 (8 + 10 * n + 1) 0) 67 (8 + 10 * n + 2) 0) 67 (8 + 10 * n + 3) 0) 67 (8 + 10 * n + 4) 0) 67 (8 + 10 * n + 5) 0) 67 (8 + 10 * n + 6) 0) 67 (8 + 10 * n + 7) 0) 67 (8 + 10 * n + 8) 0) 67 (8 + 10 * n + 9) 0)) n 0 x (by omega)) ?_
      rintro _ _ ⟨rfl, rfl⟩
      refine Wp.run 5 (106, [(6, .int 10), (5, .int (nI n)), (0, .ref 66), (1, .int x), (2, .int v), (3, .int p), (4, .int k)], [.int v, .int 1, .int (nI n), .ref 66], (zsh ++ vs, (zup (zup (zup (zup (zup (zup (zup (zup (zup (zup (zup (zup (zup (zup (zup (zup (zup (zup (zup (zup (zup (zup mi 3 n x) 4 n v) 5 n p) 6 n k) 7 n 0) 8 (4 * n + 0) 0) 8 (4 * n + 1) 0) 8 (4 * n + 2) 0) 8 (4 * n + 3) 0) 1 2 (mi 1 2 &&& ((1 : Int32) <<< (nI n &&& 31) ^^^ -1))) 1 0 (nI (n + 1))) 67 (8 + 10 * n + 0) 0) 67 (8 + 10 * n + 1) 0) 67 (8 + 10 * n + 2) 0) 67 (8 + 10 * n + 3) 0) 67 (8 + 10 * n + 4) 0) 67 (8 + 10 * n + 5) 0) 67 (8 + 10 * n + 6) 0) 67 (8 + 10 * n + 7) 0) 67 (8 + 10 * n + 8) 0) 67 (8 + 10 * n + 9) 0) 67 (8 + 10 * n + 0) x), ml, (zmr g))) rfl ?_
      refine Wp.call (as := [.ref 66, .int (nI n), .int 1, .int v]) (rest := []) rfl rfl rfl rfl rfl (Nat.le_of_ble_eq_true rfl) (Nat.le_of_ble_eq_true rfl) rfl (by decide) (m_change (mi := (zup (zup (zup (zup (zup (zup (zup (zup (zup (zup (zup (zup (zup (zup (zup (zup (zup (zup (zup (zup (zup (zup mi 3 n x) 4 n v) 5 n p) 6 n k) 7 n 0) 8 (4 * n + 0) 0) 8 (4 * n + 1) 0) 8 (4 * n + 2) 0) 8 (4 * n + 3) 0) 1 2 (mi 1 2 &&& ((1 : Int32) <<< (nI n &&& 31) ^^^ -1))) 1 0 (nI (n + 1))) 67 (8 + 10 * n + 0) 0) 67 (8 + 10 * n + 1) 0) 67 (8 + 10 * n + 2) 0) 67 (8 + 10 * n + 3) 0) 67 (8 + 10 * n + 4) 0) 67 (8 + 10 * n + 5) 0) 67 (8 + 10 * n + 6) 0) 67 (8 + 10 * n + 7) 0) 67 (8 + 10 * n + 8) 0) 67 (8 + 10 * n + 9) 0) 67 (8 + 10 * n + 0) x)) n 1 v (by omega)) ?_
      rintro _ _ ⟨rfl, rfl⟩
      refine Wp.run 5 (115, [(6, .int 10), (5, .int (nI n)), (0, .ref 66), (1, .int x), (2, .int v), (3, .int p), (4, .int k)], [.int p, .int 2, .int (nI n), .ref 66], (zsh ++ vs, (zup (zup (zup (zup (zup (zup (zup (zup (zup (zup (zup (zup (zup (zup (zup (zup (zup (zup (zup (zup (zup (zup (zup mi 3 n x) 4 n v) 5 n p) 6 n k) 7 n 0) 8 (4 * n + 0) 0) 8 (4 * n + 1) 0) 8 (4 * n + 2) 0) 8 (4 * n + 3) 0) 1 2 (mi 1 2 &&& ((1 : Int32) <<< (nI n &&& 31) ^^^ -1))) 1 0 (nI (n + 1))) 67 (8 + 10 * n + 0) 0) 67 (8 + 10 * n + 1) 0) 67 (8 + 10 * n + 2) 0) 67 (8 + 10 * n + 3) 0) 67 (8 + 10 * n + 4) 0) 67 (8 + 10 * n + 5) 0) 67 (8 + 10 * n + 6) 0) 67 (8 + 10 * n + 7) 0) 67 (8 + 10 * n + 8) 0) 67 (8 + 10 * n + 9) 0) 67 (8 + 10 * n + 0) x) 67 (8 + 10 * n + 1) v), ml, (zmr g))) rfl ?_
      refine Wp.call (as := [.ref 66, .int (nI n), .int 2, .int p]) (rest := []) rfl rfl rfl rfl rfl (Nat.le_of_ble_eq_true rfl) (Nat.le_of_ble_eq_true rfl) rfl (by decide) (m_change (mi := (zup (zup (zup (zup (zup (zup (zup (zup (zup (zup (zup (zup (zup (zup (zup (zup (zup (zup (zup (zup (zup (zup (zup mi 3 n x) 4 n v) 5 n p) 6 n k) 7 n 0) 8 (4 * n + 0) 0) 8 (4 * n + 1) 0) 8 (4 * n + 2) 0) 8 (4 * n + 3) 0) 1 2 (mi 1 2 &&& ((1 : Int32) <<< (nI n &&& 31) ^^^ -1))) 1 0 (nI (n + 1))) 67 (8 + 10 * n + 0) 0) 67 (8 + 10 * n + 1) 0) 67 (8 + 10 * n + 2) 0) 67 (8 + 10 * n + 3) 0) 67 (8 + 10 * n + 4) 0) 67 (8 + 10 * n + 5) 0) 67 (8 + 10 * n + 6) 0) 67 (8 + 10 * n + 7) 0) 67 (8 + 10 * n + 8) 0) 67 (8 + 10 * n + 9) 0) 67 (8 + 10 * n + 0) x) 67 (8 + 10 * n + 1) v)) n 2 p (by omega)) ?_
      rintro _ _ ⟨rfl, rfl⟩
      refine Wp.run 5 (125, [(6, .int 10), (5, .int (nI n)), (0, .ref 66), (1, .int x), (2, .int v), (3, .int p), (4, .int k)], [.int k, .int 3, .int (nI n), .ref 66], (zsh ++ vs, (zup (zup (zup (zup (zup (zup (zup (zup (zup (zup (zup (zup (zup (zup (zup (zup (zup (zup (zup (zup (zup (zup (zup (zup mi 3 n x) 4 n v) 5 n p) 6 n k) 7 n 0) 8 (4 * n + 0) 0) 8 (4 * n + 1) 0) 8 (4 * n + 2) 0) 8 (4 * n + 3) 0) 1 2 (mi 1 2 &&& ((1 : Int32) <<< (nI n &&& 31) ^^^ -1))) 1 0 (nI (n + 1))) 67 (8 + 10 * n + 0) 0) 67 (8 + 10 * n + 1) 0) 67 (8 + 10 * n + 2) 0) 67 (8 + 10 * n + 3) 0) 67 (8 + 10 * n + 4) 0) 67 (8 + 10 * n + 5) 0) 67 (8 + 10 * n + 6) 0) 67 (8 + 10 * n + 7) 0) 67 (8 + 10 * n + 8) 0) 67 (8 + 10 * n + 9) 0) 67 (8 + 10 * n + 0) x) 67 (8 + 10 * n + 1) v) 67 (8 + 10 * n + 2) p), ml, (zmr g))) rfl ?_
      refine Wp.call (as := [.ref 66, .int (nI n), .int 3, .int k]) (rest := []) rfl rfl rfl rfl rfl (Nat.le_of_ble_eq_true rfl) (Nat.le_of_ble_eq_true rfl) rfl (by decide) (m_change (mi := (zup (zup (zup (zup (zup (zup (zup (zup (zup (zup (zup (zup (zup (zup (zup (zup (zup (zup (zup (zup (zup (zup (zup (zup mi 3 n x) 4 n v) 5 n p) 6 n k) 7 n 0) 8 (4 * n + 0) 0) 8 (4 * n + 1) 0) 8 (4 * n + 2) 0) 8 (4 * n + 3) 0) 1 2 (mi 1 2 &&& ((1 : Int32) <<< (nI n &&& 31) ^^^ -1))) 1 0 (nI (n + 1))) 67 (8 + 10 * n + 0) 0) 67 (8 + 10 * n + 1) 0) 67 (8 + 10 * n + 2) 0) 67 (8 + 10 * n + 3) 0) 67 (8 + 10 * n + 4) 0) 67 (8 + 10 * n + 5) 0) 67 (8 + 10 * n + 6) 0) 67 (8 + 10 * n + 7) 0) 67 (8 + 10 * n + 8) 0) 67 (8 + 10 * n + 9) 0) 67 (8 + 10 * n + 0) x) 67 (8 + 10 * n + 1) v) 67 (8 + 10 * n + 2) p)) n 3 k (by omega)) ?_
      rintro _ _ ⟨rfl, rfl⟩
      refine Wp.run 6 (137, [(6, .int 10), (5, .int (nI n)), (0, .ref 66), (1, .int x), (2, .int v), (3, .int p), (4, .int k)], [.int ((zup (zup (zup (zup (zup (zup (zup (zup (zup (zup (zup (zup (zup (zup (zup (zup (zup (zup (zup (zup (zup (zup (zup (zup (zup mi 3 n x) 4 n v) 5 n p) 6 n k) 7 n 0) 8 (4 * n + 0) 0) 8 (4 * n + 1) 0) 8 (4 * n + 2) 0) 8 (4 * n + 3) 0) 1 2 (mi 1 2 &&& ((1 : Int32) <<< (nI n &&& 31) ^^^ -1))) 1 0 (nI (n + 1))) 67 (8 + 10 * n + 0) 0) 67 (8 + 10 * n + 1) 0) 67 (8 + 10 * n + 2) 0) 67 (8 + 10 * n + 3) 0) 67 (8 + 10 * n + 4) 0) 67 (8 + 10 * n + 5) 0) 67 (8 + 10 * n + 6) 0) 67 (8 + 10 * n + 7) 0) 67 (8 + 10 * n + 8) 0) 67 (8 + 10 * n + 9) 0) 67 (8 + 10 * n + 0) x) 67 (8 + 10 * n + 1) v) 67 (8 + 10 * n + 2) p) 67 (8 + 10 * n + 3) k) 67 68), .int 68, .ref 67], (zsh ++ vs, (zup (zup (zup (zup (zup (zup (zup (zup (zup (zup (zup (zup (zup (zup (zup (zup (zup (zup (zup (zup (zup (zup (zup (zup (zup mi 3 n x) 4 n v) 5 n p) 6 n k) 7 n 0) 8 (4 * n + 0) 0) 8 (4 * n + 1) 0) 8 (4 * n + 2) 0) 8 (4 * n + 3) 0) 1 2 (mi 1 2 &&& ((1 : Int32) <<< (nI n &&& 31) ^^^ -1))) 1 0 (nI (n + 1))) 67 (8 + 10 * n + 0) 0) 67 (8 + 10 * n + 1) 0) 67 (8 + 10 * n + 2) 0) 67 (8 + 10 * n + 3) 0) 67 (8 + 10 * n + 4) 0) 67 (8 + 10 * n + 5) 0) 67 (8 + 10 * n + 6) 0) 67 (8 + 10 * n + 7) 0) 67 (8 + 10 * n + 8) 0) 67 (8 + 10 * n + 9) 0) 67 (8 + 10 * n + 0) x) 67 (8 + 10 * n + 1) v) 67 (8 + 10 * n + 2) p) 67 (8 + 10 * n + 3) k), ml, (zmr g))) rfl ?_
      refine Wp.topi (y := nI n) (by rw [zup_rd (by omega)]; rw [zup_rd (by omega)]; rw [zup_rd (by omega)]; rw [zup_rd (by omega)]; rw [zup_rd (by omega)]; rw [zup_rd (by omega)]; rw [zup_rd (by omega)]; rw [zup_rd (by omega)]; rw [zup_rd (by omega)]; rw [zup_rd (by omega)]; rw [zup_rd (by omega)]; rw [zup_rd (by omega)]; rw [zup_rd (by omega)]; rw [zup_rd (by omega)]; exact hN) ?_
      refine Wp.run 2 (139, [(6, .int 10), (5, .int (nI n)), (0, .ref 66), (1, .int x), (2, .int v), (3, .int p), (4, .int k)], [.int ((nI n) + 1), .int 68, .ref 67], (zsh ++ vs, (zup (zup (zup (zup (zup (zup (zup (zup (zup (zup (zup (zup (zup (zup (zup (zup (zup (zup (zup (zup (zup (zup (zup (zup (zup mi 3 n x) 4 n v) 5 n p) 6 n k) 7 n 0) 8 (4 * n + 0) 0) 8 (4 * n + 1) 0) 8 (4 * n + 2) 0) 8 (4 * n + 3) 0) 1 2 (mi 1 2 &&& ((1 : Int32) <<< (nI n &&& 31) ^^^ -1))) 1 0 (nI (n + 1))) 67 (8 + 10 * n + 0) 0) 67 (8 + 10 * n + 1) 0) 67 (8 + 10 * n + 2) 0) 67 (8 + 10 * n + 3) 0) 67 (8 + 10 * n + 4) 0) 67 (8 + 10 * n + 5) 0) 67 (8 + 10 * n + 6) 0) 67 (8 + 10 * n + 7) 0) 67 (8 + 10 * n + 8) 0) 67 (8 + 10 * n + 9) 0) 67 (8 + 10 * n + 0) x) 67 (8 + 10 * n + 1) v) 67 (8 + 10 * n + 2) p) 67 (8 + 10 * n + 3) k), ml, (zmr g))) rfl ?_
      refine Wp.topi (y := nI (n + 1)) (nI_1 n) ?_
      refine Wp.run 2 (142, [(6, .int 10), (5, .int (nI n)), (0, .ref 66), (1, .int x), (2, .int v), (3, .int p), (4, .int k)], [.int (nI n)], (zsh ++ vs, (zup (zup (zup (zup (zup (zup (zup (zup (zup (zup (zup (zup (zup (zup (zup (zup (zup (zup (zup (zup (zup (zup (zup (zup (zup (zup mi 3 n x) 4 n v) 5 n p) 6 n k) 7 n 0) 8 (4 * n + 0) 0) 8 (4 * n + 1) 0) 8 (4 * n + 2) 0) 8 (4 * n + 3) 0) 1 2 (mi 1 2 &&& ((1 : Int32) <<< (nI n &&& 31) ^^^ -1))) 1 0 (nI (n + 1))) 67 (8 + 10 * n + 0) 0) 67 (8 + 10 * n + 1) 0) 67 (8 + 10 * n + 2) 0) 67 (8 + 10 * n + 3) 0) 67 (8 + 10 * n + 4) 0) 67 (8 + 10 * n + 5) 0) 67 (8 + 10 * n + 6) 0) 67 (8 + 10 * n + 7) 0) 67 (8 + 10 * n + 8) 0) 67 (8 + 10 * n + 9) 0) 67 (8 + 10 * n + 0) x) 67 (8 + 10 * n + 1) v) 67 (8 + 10 * n + 2) p) 67 (8 + 10 * n + 3) k) 67 68 (nI (n + 1))), ml, (zmr g))) rfl ?_
      refine Wp.ret rfl rfl rfl ?_
      exact ⟨rfl, rfl⟩
    · exact absurd ((nI_eq (b := 6) (by omega) (by decide)).mp h51) (by omega)
  · obtain ⟨m1, hm1⟩ : ∃ z, z = (zup (zup (zup (zup (zup (zup (zup (zup (zup (zup (zup mi 3 n x) 4 n v) 5 n p) 6 n k) 7 n 0) 8 (4 * n + 0) 0) 8 (4 * n + 1) 0) 8 (4 * n + 2) 0) 8 (4 * n + 3) 0) 1 2 (mi 1 2 &&& ((1 : Int32) <<< (nI n &&& 31) ^^^ -1))) 1 0 (nI (n + 1))) := ⟨_, rfl⟩
    rw [← hm1]
    obtain ⟨m2, hm2⟩ : ∃ z, z = (zup (zup (zup (zup (zup (zup (zup (zup (zup (zup (zup (zup (zup (zup (zup m1 67 (8 + 10 * n + 0) (0)) 67 (8 + 10 * n + 1) (0)) 67 (8 + 10 * n + 2) (0)) 67 (8 + 10 * n + 3) (0)) 67 (8 + 10 * n + 4) (0)) 67 (8 + 10 * n + 5) (0)) 67 (8 + 10 * n + 6) (0)) 67 (8 + 10 * n + 7) (0)) 67 (8 + 10 * n + 8) (0)) 67 (8 + 10 * n + 9) (0)) 67 (8 + 10 * n + 0) (x)) 67 (8 + 10 * n + 1) (v)) 67 (8 + 10 * n + 2) (p)) 67 (8 + 10 * n + 3) (k)) 67 (68) (nI (n + 1))) := ⟨_, rfl⟩
    rw [← hm2]
    have e1b : ∀ b, ¬ b = 67 → m2 b = m1 b := fun b hb => by rw [hm2, zup_ne hb, zup_ne hb, zup_ne hb, zup_ne hb, zup_ne hb, zup_ne hb, zup_ne hb, zup_ne hb, zup_ne hb, zup_ne hb, zup_ne hb, zup_ne hb, zup_ne hb, zup_ne hb, zup_ne hb]
    have e67 : m2 67 = (upd (upd (upd (upd (upd (upd (upd (upd (upd (upd (upd (upd (upd (upd (upd (mi 67) (8 + 10 * n + 0) (0)) (8 + 10 * n + 1) (0)) (8 + 10 * n + 2) (0)) (8 + 10 * n + 3) (0)) (8 + 10 * n + 4) (0)) (8 + 10 * n + 5) (0)) (8 + 10 * n + 6) (0)) (8 + 10 * n + 7) (0)) (8 + 10 * n + 8) (0)) (8 + 10 * n + 9) (0)) (8 + 10 * n + 0) (x)) (8 + 10 * n + 1) (v)) (8 + 10 * n + 2) (p)) (8 + 10 * n + 3) (k)) (68) (nI (n + 1))) := by rw [hm2, zup_eq, zup_eq, zup_eq, zup_eq, zup_eq, zup_eq, zup_eq, zup_eq, zup_eq, zup_eq, zup_eq, zup_eq, zup_eq, zup_eq, zup_eq, hm1, zup_ne (by decide), zup_ne (by decide), zup_ne (by decide), zup_ne (by decide), zup_ne (by decide), zup_ne (by decide), zup_ne (by decide), zup_ne (by decide), zup_ne (by decide), zup_ne (by decide), zup_ne (by decide)]
    have e8 : ∀ b, ¬ (1 ≤ b ∧ b ≤ 8) → m1 b = mi b := fun b hb => by rw [hm1, zup_ne (by omega), zup_ne (by omega), zup_ne (by omega), zup_ne (by omega), zup_ne (by omega), zup_ne (by omega), zup_ne (by omega), zup_ne (by omega), zup_ne (by omega), zup_ne (by omega), zup_ne (by omega)]
    refine (I.upB (n' := n + 1) (dd' := dd) (fun b p q => by rw [e1b b q, e8 b p]) (fun i hi => by rw [e67, upd_ne (by omega), upd_ne (by omega), upd_ne (by omega), upd_ne (by omega), upd_ne (by omega), upd_ne (by omega), upd_ne (by omega), upd_ne (by omega), upd_ne (by omega), upd_ne (by omega), upd_ne (by omega), upd_ne (by omega), upd_ne (by omega), upd_ne (by omega), upd_ne (by omega)]) ?_ I.1.2 (by omega)).x
    refine BR_add (ps := p) B h69 (rng_of (h := 6) rfl hx) (rng_of (h := 9) rfl hv) ?_ (rng_of (h := 99) rfl hk) ?_ ?_ ?_ ?_ ?_ ?_ ?_ ?_ ?_ ?_ ?_ ?_ ?_ ?_ ?_ ?_ ?_ ?_ ?_ ?_ ?_
    · obtain ⟨q, hq, e⟩ := rng_of (h := 255) rfl hp
      exact ⟨q, by omega, e⟩
    · rw [e1b 1 (by decide), hm1, zup_at]
    · rw [e1b 1 (by decide), hm1, zup_rd (by decide), zup_rd (by decide), zup_ne (by decide), zup_ne (by decide), zup_ne (by decide), zup_ne (by decide), zup_ne (by decide), zup_ne (by decide), zup_ne (by decide), zup_ne (by decide), zup_ne (by decide)]
    · rw [e1b 1 (by decide), hm1, zup_rd (by decide), zup_at]
    · intro p hp
      rw [e1b _ (by decide), hm1, zup_ne (by decide), zup_ne (by decide), zup_ne (by decide), zup_ne (by decide), zup_ne (by decide), zup_ne (by decide), zup_ne (by decide), zup_ne (by decide), zup_ne (by decide), zup_ne (by decide), zup_ne (by decide)]
    · intro q h1 h2 j hj
      rw [e1b _ (by omega), hm1]
      rcases (show q = 2 ∨ q = 3 ∨ q = 4 ∨ q = 5 ∨ q = 6 by omega) with rfl | rfl | rfl | rfl | rfl
      · show _ = mi 3 j
        show ((zup (zup (zup (zup (zup (zup (zup (zup (zup (zup (zup mi 3 n x) 4 n v) 5 n p) 6 n k) 7 n 0) 8 (4 * n + 0) 0) 8 (4 * n + 1) 0) 8 (4 * n + 2) 0) 8 (4 * n + 3) 0) 1 2 (mi 1 2 &&& ((1 : Int32) <<< (nI n &&& 31) ^^^ -1))) 1 0 (nI (n + 1)))) 3 j = _
        rw [zup_ne (by decide), zup_ne (by decide), zup_ne (by decide), zup_ne (by decide), zup_ne (by decide), zup_ne (by decide), zup_ne (by decide), zup_ne (by decide), zup_ne (by decide), zup_ne (by decide), zup_rd hj]
      · show _ = mi 4 j
        show ((zup (zup (zup (zup (zup (zup (zup (zup (zup (zup (zup mi 3 n x) 4 n v) 5 n p) 6 n k) 7 n 0) 8 (4 * n + 0) 0) 8 (4 * n + 1) 0) 8 (4 * n + 2) 0) 8 (4 * n + 3) 0) 1 2 (mi 1 2 &&& ((1 : Int32) <<< (nI n &&& 31) ^^^ -1))) 1 0 (nI (n + 1)))) 4 j = _
        rw [zup_ne (by decide), zup_ne (by decide), zup_ne (by decide), zup_ne (by decide), zup_ne (by decide), zup_ne (by decide), zup_ne (by decide), zup_ne (by decide), zup_ne (by decide), zup_rd hj, zup_ne (by decide)]
      · show _ = mi 5 j
        show ((zup (zup (zup (zup (zup (zup (zup (zup (zup (zup (zup mi 3 n x) 4 n v) 5 n p) 6 n k) 7 n 0) 8 (4 * n + 0) 0) 8 (4 * n + 1) 0) 8 (4 * n + 2) 0) 8 (4 * n + 3) 0) 1 2 (mi 1 2 &&& ((1 : Int32) <<< (nI n &&& 31) ^^^ -1))) 1 0 (nI (n + 1)))) 5 j = _
        rw [zup_ne (by decide), zup_ne (by decide), zup_ne (by decide), zup_ne (by decide), zup_ne (by decide), zup_ne (by decide), zup_ne (by decide), zup_ne (by decide), zup_rd hj, zup_ne (by decide), zup_ne (by decide)]
      · show _ = mi 6 j
        show ((zup (zup (zup (zup (zup (zup (zup (zup (zup (zup (zup mi 3 n x) 4 n v) 5 n p) 6 n k) 7 n 0) 8 (4 * n + 0) 0) 8 (4 * n + 1) 0) 8 (4 * n + 2) 0) 8 (4 * n + 3) 0) 1 2 (mi 1 2 &&& ((1 : Int32) <<< (nI n &&& 31) ^^^ -1))) 1 0 (nI (n + 1)))) 6 j = _
        rw [zup_ne (by decide), zup_ne (by decide), zup_ne (by decide), zup_ne (by decide), zup_ne (by decide), zup_ne (by decide), zup_ne (by decide), zup_rd hj, zup_ne (by decide), zup_ne (by decide), zup_ne (by decide)]
      · show _ = mi 7 j
        show ((zup (zup (zup (zup (zup (zup (zup (zup (zup (zup (zup mi 3 n x) 4 n v) 5 n p) 6 n k) 7 n 0) 8 (4 * n + 0) 0) 8 (4 * n + 1) 0) 8 (4 * n + 2) 0) 8 (4 * n + 3) 0) 1 2 (mi 1 2 &&& ((1 : Int32) <<< (nI n &&& 31) ^^^ -1))) 1 0 (nI (n + 1)))) 7 j = _
        rw [zup_ne (by decide), zup_ne (by decide), zup_ne (by decide), zup_ne (by decide), zup_ne (by decide), zup_ne (by decide), zup_rd hj, zup_ne (by decide), zup_ne (by decide), zup_ne (by decide), zup_ne (by decide)]
    · intro j hj
      rw [e1b _ (by decide), hm1, zup_ne (by decide), zup_ne (by decide), zup_rd (by omega), zup_rd (by omega), zup_rd (by omega), zup_rd (by omega), zup_ne (by decide), zup_ne (by decide), zup_ne (by decide), zup_ne (by decide), zup_ne (by decide)]
    · rw [e1b 3 (by decide), hm1, zup_ne (by decide), zup_ne (by decide), zup_ne (by decide), zup_ne (by decide), zup_ne (by decide), zup_ne (by decide), zup_ne (by decide), zup_ne (by decide), zup_ne (by decide), zup_ne (by decide), zup_at]
    · rw [e1b 4 (by decide), hm1, zup_ne (by decide), zup_ne (by decide), zup_ne (by decide), zup_ne (by decide), zup_ne (by decide), zup_ne (by decide), zup_ne (by decide), zup_ne (by decide), zup_ne (by decide), zup_at]
    · rw [e1b 5 (by decide), hm1, zup_ne (by decide), zup_ne (by decide), zup_ne (by decide), zup_ne (by decide), zup_ne (by decide), zup_ne (by decide), zup_ne (by decide), zup_ne (by decide), zup_at]
    · rw [e1b 6 (by decide), hm1, zup_ne (by decide), zup_ne (by decide), zup_ne (by decide), zup_ne (by decide), zup_ne (by decide), zup_ne (by decide), zup_ne (by decide), zup_at]
    · rw [e1b 7 (by decide), hm1, zup_ne (by decide), zup_ne (by decide), zup_ne (by decide), zup_ne (by decide), zup_ne (by decide), zup_ne (by decide), zup_at]
    · intro d hd
      rw [e1b _ (by decide), hm1, zup_ne (by decide), zup_ne (by decide)]
      rcases (show d = 0 ∨ d = 1 ∨ d = 2 ∨ d = 3 by omega) with rfl | rfl | rfl | rfl
      · rw [zup_rd (by omega), zup_rd (by omega), zup_rd (by omega), zup_at]
      · rw [zup_rd (by omega), zup_rd (by omega), zup_at]
      · rw [zup_rd (by omega), zup_at]
      · rw [zup_at]
    · rw [e67, upd_at]
    · intro i h1 h2
      rw [e67, upd_ne (by omega), upd_ne (by omega), upd_ne (by omega), upd_ne (by omega), upd_ne (by omega), upd_ne (by omega), upd_ne (by omega), upd_ne (by omega), upd_ne (by omega), upd_ne (by omega), upd_ne (by omega), upd_ne (by omega), upd_ne (by omega), upd_ne (by omega), upd_ne (by omega)]
    · rw [e67, upd_ne (by omega), upd_ne (by omega), upd_ne (by omega), upd_ne (by omega), upd_at]
    · rw [e67, upd_ne (by omega), upd_ne (by omega), upd_ne (by omega), upd_at]
    · rw [e67, upd_ne (by omega), upd_ne (by omega), upd_at]
    · rw [e67, upd_ne (by omega), upd_at]
    · rw [e67, upd_ne (by omega), upd_ne (by omega), upd_ne (by omega), upd_ne (by omega), upd_ne (by omega), upd_ne (by omega), upd_ne (by omega), upd_ne (by omega), upd_ne (by omega), upd_ne (by omega), upd_at]
    · rw [e67, upd_ne (by omega), upd_ne (by omega), upd_ne (by omega), upd_ne (by omega), upd_ne (by omega), upd_ne (by omega), upd_ne (by omega), upd_ne (by omega), upd_ne (by omega), upd_at]
    · intro d hd
      rcases (show d = 0 ∨ d = 1 ∨ d = 2 ∨ d = 3 by omega) with rfl | rfl | rfl | rfl
      · show m2 67 (8 + 10 * n + 6) = 0
        rw [e67, upd_ne (by omega), upd_ne (by omega), upd_ne (by omega), upd_ne (by omega), upd_ne (by omega), upd_ne (by omega), upd_ne (by omega), upd_ne (by omega), upd_at]
      · show m2 67 (8 + 10 * n + 7) = 0
        rw [e67, upd_ne (by omega), upd_ne (by omega), upd_ne (by omega), upd_ne (by omega), upd_ne (by omega), upd_ne (by omega), upd_ne (by omega), upd_at]
      · show m2 67 (8 + 10 * n + 8) = 0
        rw [e67, upd_ne (by omega), upd_ne (by omega), upd_ne (by omega), upd_ne (by omega), upd_ne (by omega), upd_ne (by omega), upd_at]
      · show m2 67 (8 + 10 * n + 9) = 0
        rw [e67, upd_ne (by omega), upd_ne (by omega), upd_ne (by omega), upd_ne (by omega), upd_ne (by omega), upd_at]
