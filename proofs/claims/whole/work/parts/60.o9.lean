/-! THE CALLS: shift -/
theorem c_spans_t {E : zEn} {vs : List (Nat × Nat)} {mi : Nat → Nat → Int32} {ml : Nat → Nat → Int64} {g : Nat → Nat → Option Nat} {t l : Nat} {x n : Int32} (ht : t < 6) (e1 : mi (54 + 2 * t) 1 = nI l) (h : 0 ≤ n ∧ 0 ≤ x ∧ n ≤ nI l - x) : Wp E 0 pg_Tape_spans 0 (lv_args 0 [.ref (54 + 2 * t), .int x, .int n]) [] (zsh ++ vs, mi, ml, zmr g) (fun r w' => r = some (.int 1) ∧ w' = (zsh ++ vs, mi, ml, zmr g)) := by
  refine Wp.run 1 (1, [(0, .ref (54 + 2 * t)), (1, .int x), (2, .int n)], [.int n], (zsh ++ vs, mi, ml, (zmr g))) rfl ?_
  refine Wp.if_lt rfl (fun h1 => ?_) (fun h1 => ?_)
  · exact absurd h1 (Int32.not_lt.mpr h.1)
  · refine Wp.run 1 (5, [(0, .ref (54 + 2 * t)), (1, .int x), (2, .int n)], [.int x], (zsh ++ vs, mi, ml, (zmr g))) rfl ?_
    refine Wp.if_lt rfl (fun h2 => ?_) (fun h2 => ?_)
    · exact absurd h2 (Int32.not_lt.mpr h.2.1)
    · refine Wp.run 2 (10, [(0, .ref (54 + 2 * t)), (1, .int x), (2, .int n)], [.ref (54 + 2 * t), .int n], (zsh ++ vs, mi, ml, (zmr g))) rfl ?_
      refine Wp.gint rfl (by decide) (tp_ob ht) rfl (by decide) ?_
      refine Wp.topi (y := nI l) (e1) ?_
      refine Wp.run 2 (15, [(0, .ref (54 + 2 * t)), (1, .int x), (2, .int n)], [.int ((nI l) - x), .int n], (zsh ++ vs, mi, ml, (zmr g))) rfl ?_
      refine Wp.icmp_gt rfl (fun h3 => ?_) (fun h3 => ?_)
      · exact absurd h3 (Int32.not_lt.mpr h.2.2)
      · refine Wp.run 2 (23, [(0, .ref (54 + 2 * t)), (1, .int x), (2, .int n)], [.int 1], (zsh ++ vs, mi, ml, (zmr g))) rfl ?_
        refine Wp.ret rfl rfl rfl ?_
        exact ⟨rfl, rfl⟩
theorem c_spans_f {E : zEn} {vs : List (Nat × Nat)} {mi : Nat → Nat → Int32} {ml : Nat → Nat → Int64} {g : Nat → Nat → Option Nat} {t l : Nat} {x n : Int32} (ht : t < 6) (e1 : mi (54 + 2 * t) 1 = nI l) (h : ¬ (0 ≤ n ∧ 0 ≤ x ∧ n ≤ nI l - x)) : Wp E 0 pg_Tape_spans 0 (lv_args 0 [.ref (54 + 2 * t), .int x, .int n]) [] (zsh ++ vs, mi, ml, zmr g) (fun r w' => r = some (.int 0) ∧ w' = (zsh ++ vs, mi, ml, zmr g)) := by
  refine Wp.run 1 (1, [(0, .ref (54 + 2 * t)), (1, .int x), (2, .int n)], [.int n], (zsh ++ vs, mi, ml, (zmr g))) rfl ?_
  refine Wp.if_lt rfl (fun h1 => ?_) (fun h1 => ?_)
  · refine Wp.run 1 (23, [(0, .ref (54 + 2 * t)), (1, .int x), (2, .int n)], [.int 0], (zsh ++ vs, mi, ml, (zmr g))) rfl ?_
    refine Wp.ret rfl rfl rfl ?_
    exact ⟨rfl, rfl⟩
  · refine Wp.run 1 (5, [(0, .ref (54 + 2 * t)), (1, .int x), (2, .int n)], [.int x], (zsh ++ vs, mi, ml, (zmr g))) rfl ?_
    refine Wp.if_lt rfl (fun h2 => ?_) (fun h2 => ?_)
    · refine Wp.run 1 (23, [(0, .ref (54 + 2 * t)), (1, .int x), (2, .int n)], [.int 0], (zsh ++ vs, mi, ml, (zmr g))) rfl ?_
      refine Wp.ret rfl rfl rfl ?_
      exact ⟨rfl, rfl⟩
    · refine Wp.run 2 (10, [(0, .ref (54 + 2 * t)), (1, .int x), (2, .int n)], [.ref (54 + 2 * t), .int n], (zsh ++ vs, mi, ml, (zmr g))) rfl ?_
      refine Wp.gint rfl (by decide) (tp_ob ht) rfl (by decide) ?_
      refine Wp.topi (y := nI l) (e1) ?_
      refine Wp.run 2 (15, [(0, .ref (54 + 2 * t)), (1, .int x), (2, .int n)], [.int ((nI l) - x), .int n], (zsh ++ vs, mi, ml, (zmr g))) rfl ?_
      refine Wp.icmp_gt rfl (fun h3 => ?_) (fun h3 => ?_)
      · refine Wp.run 1 (23, [(0, .ref (54 + 2 * t)), (1, .int x), (2, .int n)], [.int 0], (zsh ++ vs, mi, ml, (zmr g))) rfl ?_
        refine Wp.ret rfl rfl rfl ?_
        exact ⟨rfl, rfl⟩
      · exact absurd ⟨Int32.not_lt.mp ‹¬ n < 0›, Int32.not_lt.mp ‹¬ x < 0›, Int32.not_lt.mp h3⟩ h
theorem m_sh2 {E : zEn} {vs : List (Nat × Nat)} {mi : Nat → Nat → Int32} {ml : Nat → Nat → Int64} {g : Nat → Nat → Option Nat} {t o p q c : Nat} (ht : t < 6) (ho : o < 6) (hpc : p + c ≤ 60) (hqc : q + c ≤ 60) : ∀ (k j : Nat) (l : Nat → Nat → Int64), j + k = c → (∀ b, ¬ b = 84 → l b = ml b) → (∀ x, (x < 60 * o + q ∨ 60 * o + q + c ≤ x) → l 84 x = ml 84 x) → (∀ r, r < j → l 84 (60 * o + q + r) = ml 85 r) → Wp E 2 pg_M_shift 139 [(0, .ref 66), (1, .int (nI t)), (2, .int (nI p)), (3, .int (nI o)), (4, .int (nI q)), (5, .int (nI c)), (6, .int (nI j))] [] (zsh ++ vs, mi, l, (zmr g)) (fun r w' => r = some (.int (nI c)) ∧ ∃ l, w' = (zsh ++ vs, mi, l, zmr g) ∧ (∀ b, ¬ b = 84 → l b = ml b) ∧ (∀ x, (x < 60 * o + q ∨ 60 * o + q + c ≤ x) → l 84 x = ml 84 x) ∧ ∀ r, r < c → l 84 (60 * o + q + r) = ml 85 r) := by
  intro k
  induction k with
  | zero =>
    intro j l hj h1 h2 h3
    obtain rfl : c = j := by omega
    refine Wp.run 2 (143, [(0, .ref 66), (1, .int (nI t)), (2, .int (nI p)), (3, .int (nI o)), (4, .int (nI q)), (5, .int (nI c)), (6, .int (nI c))], [.int (nI c), .int (nI c)], (zsh ++ vs, mi, l, (zmr g))) rfl ?_
    refine Wp.icmp_ge rfl (fun h31 => ?_) (fun h31 => ?_)
    · refine Wp.run 1 (176, [(0, .ref 66), (1, .int (nI t)), (2, .int (nI p)), (3, .int (nI o)), (4, .int (nI q)), (5, .int (nI c)), (6, .int (nI c))], [.int (nI c)], (zsh ++ vs, mi, l, (zmr g))) rfl ?_
      refine Wp.ret rfl rfl rfl ?_
      exact ⟨rfl, l, rfl, h1, h2, h3⟩
    · exact absurd (Int32.le_refl _) h31
  | succ k ih =>
    intro j l hj h1 h2 h3
    have hjc : j < c := by omega
    refine Wp.run 2 (143, [(0, .ref 66), (1, .int (nI t)), (2, .int (nI p)), (3, .int (nI o)), (4, .int (nI q)), (5, .int (nI c)), (6, .int (nI j))], [.int (nI c), .int (nI j)], (zsh ++ vs, mi, l, (zmr g))) rfl ?_
    refine Wp.icmp_ge rfl (fun h31 => ?_) (fun h31 => ?_)
    · exact absurd h31 (nI_ge hjc (by omega))
    · refine Wp.run 7 (157, [(0, .ref 66), (1, .int (nI t)), (2, .int (nI p)), (3, .int (nI o)), (4, .int (nI q)), (5, .int (nI c)), (6, .int (nI j))], [.int ((60 * (nI o)) + (nI q)), .ref 84], (zsh ++ vs, mi, l, (zmr g))) rfl ?_
      refine Wp.topi (y := nI (60 * o + q)) (ix_60 o q) ?_
      refine Wp.run 2 (160, [(0, .ref 66), (1, .int (nI t)), (2, .int (nI p)), (3, .int (nI o)), (4, .int (nI q)), (5, .int (nI c)), (6, .int (nI j))], [.int ((nI (60 * o + q)) + (nI j)), .ref 84], (zsh ++ vs, mi, l, (zmr g))) rfl ?_
      refine Wp.topi (y := nI (60 * o + q + j)) (nI_add _ j) ?_
      refine Wp.run 3 (166, [(0, .ref 66), (1, .int (nI t)), (2, .int (nI p)), (3, .int (nI o)), (4, .int (nI q)), (5, .int (nI c)), (6, .int (nI j))], [.int (nI j), .ref 85, .int (nI (60 * o + q + j)), .ref 84], (zsh ++ vs, mi, l, (zmr g))) rfl ?_
      refine Wp.laln rfl (by decide) rfl (by omega) (by decide) ?_
      refine Wp.lasn rfl (by decide) rfl (by omega) (by decide) ?_
      refine Wp.run 2 (139, [(6, .int ((nI j) + 1)), (0, .ref 66), (1, .int (nI t)), (2, .int (nI p)), (3, .int (nI o)), (4, .int (nI q)), (5, .int (nI c))], [], (zsh ++ vs, mi, (zup l 84 (60 * o + q + j) (l 85 j)), (zmr g))) rfl ?_
      rw [nI_1]
      refine Wp.sub (a := [(0, .ref 66), (1, .int (nI t)), (2, .int (nI p)), (3, .int (nI o)), (4, .int (nI q)), (5, .int (nI c)), (6, .int (nI (j + 1)))]) (zle_cons rfl (zle_cons rfl (zle_cons rfl (zle_cons rfl (zle_cons rfl (zle_cons rfl (zle_cons rfl (zle_nil)))))))) ?_
      refine ih (j + 1) (zup l 84 (60 * o + q + j) (l 85 j)) (by omega) (fun b hb => by rw [zup_ne hb]; exact h1 b hb) (fun x hx => by rw [zupL_rd (by omega)]; exact h2 x hx) (fun r hr => ?_)
      by_cases e : r = j
      · subst e; rw [zupL_at, h1 85 (by decide)]
      · rw [zupL_rd (by omega)]; exact h3 r (by omega)
theorem m_sh1 {E : zEn} {vs : List (Nat × Nat)} {mi : Nat → Nat → Int32} {ml : Nat → Nat → Int64} {g : Nat → Nat → Option Nat} {t o p q c : Nat} (ht : t < 6) (ho : o < 6) (hpc : p + c ≤ 60) (hqc : q + c ≤ 60) : ∀ (k j : Nat) (l : Nat → Nat → Int64), j + k = c → (∀ b, ¬ b = 85 → l b = ml b) → (∀ r, r < j → l 85 r = ml 84 (60 * t + p + r)) → Wp E 2 pg_M_shift 102 [(0, .ref 66), (1, .int (nI t)), (2, .int (nI p)), (3, .int (nI o)), (4, .int (nI q)), (5, .int (nI c)), (6, .int (nI j))] [] (zsh ++ vs, mi, l, (zmr g)) (fun r w' => r = some (.int (nI c)) ∧ ∃ l, w' = (zsh ++ vs, mi, l, zmr g) ∧ (∀ b, ¬ b = 84 → ¬ b = 85 → l b = ml b) ∧ (∀ x, (x < 60 * o + q ∨ 60 * o + q + c ≤ x) → l 84 x = ml 84 x) ∧ ∀ r, r < c → l 84 (60 * o + q + r) = ml 84 (60 * t + p + r)) := by
  intro k
  induction k with
  | zero =>
    intro j l hj h1 h3
    obtain rfl : c = j := by omega
    refine Wp.run 2 (106, [(0, .ref 66), (1, .int (nI t)), (2, .int (nI p)), (3, .int (nI o)), (4, .int (nI q)), (5, .int (nI c)), (6, .int (nI c))], [.int (nI c), .int (nI c)], (zsh ++ vs, mi, l, (zmr g))) rfl ?_
    refine Wp.icmp_ge rfl (fun h31 => ?_) (fun h31 => ?_)
    · refine Wp.run 2 (139, [(6, .int 0), (0, .ref 66), (1, .int (nI t)), (2, .int (nI p)), (3, .int (nI o)), (4, .int (nI q)), (5, .int (nI c))], [], (zsh ++ vs, mi, l, (zmr g))) rfl ?_
      refine Wp.sub (a := [(0, .ref 66), (1, .int (nI t)), (2, .int (nI p)), (3, .int (nI o)), (4, .int (nI q)), (5, .int (nI c)), (6, .int (nI 0))]) (zle_cons rfl (zle_cons rfl (zle_cons rfl (zle_cons rfl (zle_cons rfl (zle_cons rfl (zle_cons rfl (zle_nil)))))))) ?_
      refine (m_sh2 (ml := l) ht ho hpc hqc c 0 l (by omega) (fun _ _ => rfl) (fun _ _ => rfl) (fun r hr => absurd hr (Nat.not_lt_zero r))).weak ?_
      rintro _ _ ⟨rfl, l2, rfl, k1, k2, k3⟩
      exact ⟨rfl, l2, rfl, fun b p1 p2 => by rw [k1 b p1]; exact h1 b p2, fun x hx => by rw [k2 x hx, h1 84 (by decide)], fun r hr => by rw [k3 r hr]; exact h3 r hr⟩
    · exact absurd (Int32.le_refl _) h31
  | succ k ih =>
    intro j l hj h1 h3
    have hjc : j < c := by omega
    refine Wp.run 2 (106, [(0, .ref 66), (1, .int (nI t)), (2, .int (nI p)), (3, .int (nI o)), (4, .int (nI q)), (5, .int (nI c)), (6, .int (nI j))], [.int (nI c), .int (nI j)], (zsh ++ vs, mi, l, (zmr g))) rfl ?_
    refine Wp.icmp_ge rfl (fun h31 => ?_) (fun h31 => ?_)
    · exact absurd h31 (nI_ge hjc (by omega))
    · refine Wp.run 10 (125, [(0, .ref 66), (1, .int (nI t)), (2, .int (nI p)), (3, .int (nI o)), (4, .int (nI q)), (5, .int (nI c)), (6, .int (nI j))], [.int ((60 * (nI t)) + (nI p)), .ref 84, .int (nI j), .ref 85], (zsh ++ vs, mi, l, (zmr g))) rfl ?_
      refine Wp.topi (y := nI (60 * t + p)) (ix_60 t p) ?_
      refine Wp.run 2 (128, [(0, .ref 66), (1, .int (nI t)), (2, .int (nI p)), (3, .int (nI o)), (4, .int (nI q)), (5, .int (nI c)), (6, .int (nI j))], [.int ((nI (60 * t + p)) + (nI j)), .ref 84, .int (nI j), .ref 85], (zsh ++ vs, mi, l, (zmr g))) rfl ?_
      refine Wp.topi (y := nI (60 * t + p + j)) (nI_add _ j) ?_
      refine Wp.laln rfl (by decide) rfl (by omega) (by decide) ?_
      refine Wp.lasn rfl (by decide) rfl (by omega) (by decide) ?_
      refine Wp.run 2 (102, [(6, .int ((nI j) + 1)), (0, .ref 66), (1, .int (nI t)), (2, .int (nI p)), (3, .int (nI o)), (4, .int (nI q)), (5, .int (nI c))], [], (zsh ++ vs, mi, (zup l 85 j (l 84 (60 * t + p + j))), (zmr g))) rfl ?_
      rw [nI_1]
      refine Wp.sub (a := [(0, .ref 66), (1, .int (nI t)), (2, .int (nI p)), (3, .int (nI o)), (4, .int (nI q)), (5, .int (nI c)), (6, .int (nI (j + 1)))]) (zle_cons rfl (zle_cons rfl (zle_cons rfl (zle_cons rfl (zle_cons rfl (zle_cons rfl (zle_cons rfl (zle_nil)))))))) ?_
      refine ih (j + 1) (zup l 85 j (l 84 (60 * t + p + j))) (by omega) (fun b hb => by rw [zup_ne hb]; exact h1 b hb) (fun r hr => ?_)
      by_cases e : r = j
      · subst e; rw [zupL_at, h1 84 (by decide)]
      · rw [zupL_rd e]; exact h3 r (by omega)
theorem sim_shift {E : zEn} {nv : Nat} {VD : Nat → zV} {NL : Nat → Nat} {n dd : Nat} {vs : List (Nat × Nat)} {mi : Nat → Nat → Int32} {ml : Nat → Nat → Int64} {g : Nat → Nat → Option Nat} (I : INV nv VD NL n dd vs mi ml g) (x i y j n9 : Int32) : SIM E vs mi ml g pg_H_shift pg_M_shift [.int x, .int i, .int y, .int j, .int n9] := by
  have B := I.1.1
  have h6 := B.1.2.1
  have hn := B.2.1
  have hN := B.1.1
  have hd := B.1.2.2.1
  have hdd := I.1.2
  by_cases hx : 0 ≤ x ∧ x ≤ 5
  rotate_left
  · refine SIM.q I (x := -1) (dc := 7) (dm := 27) (by decide) (by decide) ?_ ?_
    · refine Wp.run 2 (2, [(0, .ref 0), (1, .int x), (2, .int i), (3, .int y), (4, .int j), (5, .int n9)], [.int 5, .int x], (zsh ++ vs, mi, ml, (zmr g))) rfl ?_
      refine Wp.call (as := [.int x, .int 5]) (rest := []) rfl rfl rfl rfl rfl (Nat.le_of_ble_eq_true rfl) (Nat.le_of_ble_eq_true rfl) rfl (by decide) (c_within_f hx) ?_
      rintro _ _ ⟨rfl, rfl⟩
      refine Wp.run 2 (17, [(0, .ref 0), (1, .int x), (2, .int i), (3, .int y), (4, .int j), (5, .int n9)], [.int (-1)], (zsh ++ vs, mi, ml, (zmr g))) rfl ?_
      refine Wp.ret rfl rfl rfl ?_
      exact ⟨rfl, _, _, rfl, SC.rf, fun _ _ _ => rfl⟩
    · intro m g' I' e67 S
      have B' := I'.1.1
      have hn' := B'.2.1
      have hN' := B'.1.1
      have hd' := B'.1.2.2.1
      refine Wp.run 1 (1, [(0, .ref 66), (1, .int x), (2, .int i), (3, .int y), (4, .int j), (5, .int n9)], [.int x], (zsh ++ vs, m, ml, (zmr g'))) rfl ?_
      refine Wp.call (as := [.int x]) (rest := []) rfl rfl rfl rfl rfl (Nat.le_of_ble_eq_true rfl) (Nat.le_of_ble_eq_true rfl) rfl (by decide) (m_isTape_f hx) ?_
      rintro _ _ ⟨rfl, rfl⟩
      refine Wp.run 2 (15, [(0, .ref 66), (1, .int x), (2, .int i), (3, .int y), (4, .int j), (5, .int n9)], [.int (-1)], (zsh ++ vs, m, ml, (zmr g'))) rfl ?_
      refine Wp.ret rfl rfl rfl ?_
      exact ⟨rfl, _, rfl, SC.rf⟩
  by_cases hy : 0 ≤ y ∧ y ≤ 5
  rotate_left
  · refine SIM.q I (x := -1) (dc := 7) (dm := 27) (by decide) (by decide) ?_ ?_
    · refine Wp.run 2 (2, [(0, .ref 0), (1, .int x), (2, .int i), (3, .int y), (4, .int j), (5, .int n9)], [.int 5, .int x], (zsh ++ vs, mi, ml, (zmr g))) rfl ?_
      refine Wp.call (as := [.int x, .int 5]) (rest := []) rfl rfl rfl rfl rfl (Nat.le_of_ble_eq_true rfl) (Nat.le_of_ble_eq_true rfl) rfl (by decide) (c_within_t hx) ?_
      rintro _ _ ⟨rfl, rfl⟩
      refine Wp.run 3 (10, [(0, .ref 0), (1, .int x), (2, .int i), (3, .int y), (4, .int j), (5, .int n9)], [.int 5, .int y], (zsh ++ vs, mi, ml, (zmr g))) rfl ?_
      refine Wp.call (as := [.int y, .int 5]) (rest := []) rfl rfl rfl rfl rfl (Nat.le_of_ble_eq_true rfl) (Nat.le_of_ble_eq_true rfl) rfl (by decide) (c_within_f hy) ?_
      rintro _ _ ⟨rfl, rfl⟩
      refine Wp.run 2 (17, [(0, .ref 0), (1, .int x), (2, .int i), (3, .int y), (4, .int j), (5, .int n9)], [.int (-1)], (zsh ++ vs, mi, ml, (zmr g))) rfl ?_
      refine Wp.ret rfl rfl rfl ?_
      exact ⟨rfl, _, _, rfl, SC.rf, fun _ _ _ => rfl⟩
    · intro m g' I' e67 S
      have B' := I'.1.1
      have hn' := B'.2.1
      have hN' := B'.1.1
      have hd' := B'.1.2.2.1
      refine Wp.run 1 (1, [(0, .ref 66), (1, .int x), (2, .int i), (3, .int y), (4, .int j), (5, .int n9)], [.int x], (zsh ++ vs, m, ml, (zmr g'))) rfl ?_
      refine Wp.call (as := [.int x]) (rest := []) rfl rfl rfl rfl rfl (Nat.le_of_ble_eq_true rfl) (Nat.le_of_ble_eq_true rfl) rfl (by decide) (m_isTape_t hx) ?_
      rintro _ _ ⟨rfl, rfl⟩
      refine Wp.run 2 (8, [(0, .ref 66), (1, .int x), (2, .int i), (3, .int y), (4, .int j), (5, .int n9)], [.int y], (zsh ++ vs, m, ml, (zmr g'))) rfl ?_
      refine Wp.call (as := [.int y]) (rest := []) rfl rfl rfl rfl rfl (Nat.le_of_ble_eq_true rfl) (Nat.le_of_ble_eq_true rfl) rfl (by decide) (m_isTape_f hy) ?_
      rintro _ _ ⟨rfl, rfl⟩
      refine Wp.run 2 (15, [(0, .ref 66), (1, .int x), (2, .int i), (3, .int y), (4, .int j), (5, .int n9)], [.int (-1)], (zsh ++ vs, m, ml, (zmr g'))) rfl ?_
      refine Wp.ret rfl rfl rfl ?_
      exact ⟨rfl, _, rfl, SC.rf⟩
  obtain ⟨t, ht5, rfl⟩ := rng_of (h := 5) rfl hx
  have ht : t < 6 := by omega
  obtain ⟨o, ho5, rfl⟩ := rng_of (h := 5) rfl hy
  have ho : o < 6 := by omega
  obtain ⟨l, hl, e1, e2, e3, e4, e5⟩ := I.2.2.2.2.2.2.1 t ht
  obtain ⟨k, hk, f1, f2, f3, f4, f5⟩ := I.2.2.2.2.2.2.1 o ho
  have m82 : ∀ {m : Nat → Nat → Int32}, SC mi m → ∀ t, m 82 t = mi 82 t := fun S t => congrFun (S.c (b := 82) (by decide)) t
  have m83 : ∀ {m : Nat → Nat → Int32}, SC mi m → ∀ t, m 83 t = mi 83 t := fun S t => congrFun (S.c (b := 83) (by decide)) t
  rcases e4 with ⟨e4, l0⟩ | ⟨s, hs, e4⟩
  · refine SIM.q I (x := -11) (dc := 7) (dm := 27) (by decide) (by decide) ?_ ?_
    · refine Wp.run 2 (2, [(0, .ref 0), (1, .int (nI t)), (2, .int i), (3, .int (nI o)), (4, .int j), (5, .int n9)], [.int 5, .int (nI t)], (zsh ++ vs, mi, ml, (zmr g))) rfl ?_
      refine Wp.call (as := [.int (nI t), .int 5]) (rest := []) rfl rfl rfl rfl rfl (Nat.le_of_ble_eq_true rfl) (Nat.le_of_ble_eq_true rfl) rfl (by decide) (c_within_t hx) ?_
      rintro _ _ ⟨rfl, rfl⟩
      refine Wp.run 3 (10, [(0, .ref 0), (1, .int (nI t)), (2, .int i), (3, .int (nI o)), (4, .int j), (5, .int n9)], [.int 5, .int (nI o)], (zsh ++ vs, mi, ml, (zmr g))) rfl ?_
      refine Wp.call (as := [.int (nI o), .int 5]) (rest := []) rfl rfl rfl rfl rfl (Nat.le_of_ble_eq_true rfl) (Nat.le_of_ble_eq_true rfl) rfl (by decide) (c_within_t hy) ?_
      rintro _ _ ⟨rfl, rfl⟩
      refine Wp.run 4 (23, [(0, .ref 0), (1, .int (nI t)), (2, .int i), (3, .int (nI o)), (4, .int j), (5, .int n9)], [.int (nI t), .ref 53], (zsh ++ vs, mi, ml, (zmr g))) rfl ?_
      refine Wp.aald (v := 54 + 2 * t) rfl (by decide) rfl (vp_nI (by omega) (by decide)) (by show zmr g 53 (nI t).toNatClampNeg = _; rw [nI_clamp (by omega)]; exact tp_ref ht) (by show _ < 500; omega) ?_
      refine Wp.run 4 (31, [(6, .ref (54 + 2 * t)), (0, .ref 0), (1, .int (nI t)), (2, .int i), (3, .int (nI o)), (4, .int j), (5, .int n9)], [.int (nI o), .ref 53], (zsh ++ vs, mi, ml, (zmr g))) rfl ?_
      refine Wp.aald (v := 54 + 2 * o) rfl (by decide) rfl (vp_nI (by omega) (by decide)) (by show zmr g 53 (nI o).toNatClampNeg = _; rw [nI_clamp (by omega)]; exact tp_ref ho) (by show _ < 500; omega) ?_
      refine Wp.run 2 (36, [(7, .ref (54 + 2 * o)), (6, .ref (54 + 2 * t)), (0, .ref 0), (1, .int (nI t)), (2, .int i), (3, .int (nI o)), (4, .int j), (5, .int n9)], [.ref (54 + 2 * t)], (zsh ++ vs, mi, ml, (zmr g))) rfl ?_
      refine Wp.gint rfl (by decide) (tp_ob ht) rfl (by decide) ?_
      refine Wp.topi (y := -1) (e3.trans e4) ?_
      refine Wp.run 3 (54, [(7, .ref (54 + 2 * o)), (6, .ref (54 + 2 * t)), (0, .ref 0), (1, .int (nI t)), (2, .int i), (3, .int (nI o)), (4, .int j), (5, .int n9)], [.int (-11)], (zsh ++ vs, mi, ml, (zmr g))) rfl ?_
      refine Wp.ret rfl rfl rfl ?_
      exact ⟨rfl, _, _, rfl, SC.rf, fun _ _ _ => rfl⟩
    · intro m g' I' e67 S
      refine Wp.run 1 (1, [(0, .ref 66), (1, .int (nI t)), (2, .int i), (3, .int (nI o)), (4, .int j), (5, .int n9)], [.int (nI t)], (zsh ++ vs, m, ml, (zmr g'))) rfl ?_
      refine Wp.call (as := [.int (nI t)]) (rest := []) rfl rfl rfl rfl rfl (Nat.le_of_ble_eq_true rfl) (Nat.le_of_ble_eq_true rfl) rfl (by decide) (m_isTape_t hx) ?_
      rintro _ _ ⟨rfl, rfl⟩
      refine Wp.run 2 (8, [(0, .ref 66), (1, .int (nI t)), (2, .int i), (3, .int (nI o)), (4, .int j), (5, .int n9)], [.int (nI o)], (zsh ++ vs, m, ml, (zmr g'))) rfl ?_
      refine Wp.call (as := [.int (nI o)]) (rest := []) rfl rfl rfl rfl rfl (Nat.le_of_ble_eq_true rfl) (Nat.le_of_ble_eq_true rfl) rfl (by decide) (m_isTape_t hy) ?_
      rintro _ _ ⟨rfl, rfl⟩
      refine Wp.run 4 (21, [(0, .ref 66), (1, .int (nI t)), (2, .int i), (3, .int (nI o)), (4, .int j), (5, .int n9)], [.int (nI t), .ref 82], (zsh ++ vs, m, ml, (zmr g'))) rfl ?_
      refine Wp.ialn rfl (by decide) rfl (by omega) (by decide) ?_
      refine Wp.topi (y := -1) ((m82 S t).trans e4) ?_
      refine Wp.run 2 (36, [(0, .ref 66), (1, .int (nI t)), (2, .int i), (3, .int (nI o)), (4, .int j), (5, .int n9)], [.int (-11)], (zsh ++ vs, m, ml, (zmr g'))) rfl ?_
      refine Wp.ret rfl rfl rfl ?_
      exact ⟨rfl, _, rfl, SC.rf⟩
  rcases f4 with ⟨f4, k0⟩ | ⟨u, hu, f4⟩
  · refine SIM.q I (x := -11) (dc := 7) (dm := 27) (by decide) (by decide) ?_ ?_
    · refine Wp.run 2 (2, [(0, .ref 0), (1, .int (nI t)), (2, .int i), (3, .int (nI o)), (4, .int j), (5, .int n9)], [.int 5, .int (nI t)], (zsh ++ vs, mi, ml, (zmr g))) rfl ?_
      refine Wp.call (as := [.int (nI t), .int 5]) (rest := []) rfl rfl rfl rfl rfl (Nat.le_of_ble_eq_true rfl) (Nat.le_of_ble_eq_true rfl) rfl (by decide) (c_within_t hx) ?_
      rintro _ _ ⟨rfl, rfl⟩
      refine Wp.run 3 (10, [(0, .ref 0), (1, .int (nI t)), (2, .int i), (3, .int (nI o)), (4, .int j), (5, .int n9)], [.int 5, .int (nI o)], (zsh ++ vs, mi, ml, (zmr g))) rfl ?_
      refine Wp.call (as := [.int (nI o), .int 5]) (rest := []) rfl rfl rfl rfl rfl (Nat.le_of_ble_eq_true rfl) (Nat.le_of_ble_eq_true rfl) rfl (by decide) (c_within_t hy) ?_
      rintro _ _ ⟨rfl, rfl⟩
      refine Wp.run 4 (23, [(0, .ref 0), (1, .int (nI t)), (2, .int i), (3, .int (nI o)), (4, .int j), (5, .int n9)], [.int (nI t), .ref 53], (zsh ++ vs, mi, ml, (zmr g))) rfl ?_
      refine Wp.aald (v := 54 + 2 * t) rfl (by decide) rfl (vp_nI (by omega) (by decide)) (by show zmr g 53 (nI t).toNatClampNeg = _; rw [nI_clamp (by omega)]; exact tp_ref ht) (by show _ < 500; omega) ?_
      refine Wp.run 4 (31, [(6, .ref (54 + 2 * t)), (0, .ref 0), (1, .int (nI t)), (2, .int i), (3, .int (nI o)), (4, .int j), (5, .int n9)], [.int (nI o), .ref 53], (zsh ++ vs, mi, ml, (zmr g))) rfl ?_
      refine Wp.aald (v := 54 + 2 * o) rfl (by decide) rfl (vp_nI (by omega) (by decide)) (by show zmr g 53 (nI o).toNatClampNeg = _; rw [nI_clamp (by omega)]; exact tp_ref ho) (by show _ < 500; omega) ?_
      refine Wp.run 2 (36, [(7, .ref (54 + 2 * o)), (6, .ref (54 + 2 * t)), (0, .ref 0), (1, .int (nI t)), (2, .int i), (3, .int (nI o)), (4, .int j), (5, .int n9)], [.ref (54 + 2 * t)], (zsh ++ vs, mi, ml, (zmr g))) rfl ?_
      refine Wp.gint rfl (by decide) (tp_ob ht) rfl (by decide) ?_
      refine Wp.topi (y := nI s) (e3.trans e4) ?_
      refine Wp.run 1 (40, [(7, .ref (54 + 2 * o)), (6, .ref (54 + 2 * t)), (0, .ref 0), (1, .int (nI t)), (2, .int i), (3, .int (nI o)), (4, .int j), (5, .int n9)], [.int (-1), .int (nI s)], (zsh ++ vs, mi, ml, (zmr g))) rfl ?_
      refine Wp.icmp_eq rfl (fun h1 => ?_) (fun h1 => ?_)
      · exact absurd h1 (ne_m1 (by omega))
      · refine Wp.run 1 (45, [(7, .ref (54 + 2 * o)), (6, .ref (54 + 2 * t)), (0, .ref 0), (1, .int (nI t)), (2, .int i), (3, .int (nI o)), (4, .int j), (5, .int n9)], [.ref (54 + 2 * o)], (zsh ++ vs, mi, ml, (zmr g))) rfl ?_
        refine Wp.gint rfl (by decide) (tp_ob ho) rfl (by decide) ?_
        refine Wp.topi (y := -1) (f3.trans f4) ?_
        refine Wp.run 3 (54, [(7, .ref (54 + 2 * o)), (6, .ref (54 + 2 * t)), (0, .ref 0), (1, .int (nI t)), (2, .int i), (3, .int (nI o)), (4, .int j), (5, .int n9)], [.int (-11)], (zsh ++ vs, mi, ml, (zmr g))) rfl ?_
        refine Wp.ret rfl rfl rfl ?_
        exact ⟨rfl, _, _, rfl, SC.rf, fun _ _ _ => rfl⟩
    · intro m g' I' e67 S
      refine Wp.run 1 (1, [(0, .ref 66), (1, .int (nI t)), (2, .int i), (3, .int (nI o)), (4, .int j), (5, .int n9)], [.int (nI t)], (zsh ++ vs, m, ml, (zmr g'))) rfl ?_
      refine Wp.call (as := [.int (nI t)]) (rest := []) rfl rfl rfl rfl rfl (Nat.le_of_ble_eq_true rfl) (Nat.le_of_ble_eq_true rfl) rfl (by decide) (m_isTape_t hx) ?_
      rintro _ _ ⟨rfl, rfl⟩
      refine Wp.run 2 (8, [(0, .ref 66), (1, .int (nI t)), (2, .int i), (3, .int (nI o)), (4, .int j), (5, .int n9)], [.int (nI o)], (zsh ++ vs, m, ml, (zmr g'))) rfl ?_
      refine Wp.call (as := [.int (nI o)]) (rest := []) rfl rfl rfl rfl rfl (Nat.le_of_ble_eq_true rfl) (Nat.le_of_ble_eq_true rfl) rfl (by decide) (m_isTape_t hy) ?_
      rintro _ _ ⟨rfl, rfl⟩
      refine Wp.run 4 (21, [(0, .ref 66), (1, .int (nI t)), (2, .int i), (3, .int (nI o)), (4, .int j), (5, .int n9)], [.int (nI t), .ref 82], (zsh ++ vs, m, ml, (zmr g'))) rfl ?_
      refine Wp.ialn rfl (by decide) rfl (by omega) (by decide) ?_
      refine Wp.topi (y := nI s) ((m82 S t).trans e4) ?_
      refine Wp.run 0 (22, [(0, .ref 66), (1, .int (nI t)), (2, .int i), (3, .int (nI o)), (4, .int j), (5, .int n9)], [.int (nI s)], (zsh ++ vs, m, ml, (zmr g'))) rfl ?_
      refine Wp.if_lt rfl (fun h51 => ?_) (fun h51 => ?_)
      · exact absurd h51 (nI_pos (by omega))
      · refine Wp.run 3 (30, [(0, .ref 66), (1, .int (nI t)), (2, .int i), (3, .int (nI o)), (4, .int j), (5, .int n9)], [.int (nI o), .ref 82], (zsh ++ vs, m, ml, (zmr g'))) rfl ?_
        refine Wp.ialn rfl (by decide) rfl (by omega) (by decide) ?_
        refine Wp.topi (y := -1) ((m82 S o).trans f4) ?_
        refine Wp.run 2 (36, [(0, .ref 66), (1, .int (nI t)), (2, .int i), (3, .int (nI o)), (4, .int j), (5, .int n9)], [.int (-11)], (zsh ++ vs, m, ml, (zmr g'))) rfl ?_
        refine Wp.ret rfl rfl rfl ?_
        exact ⟨rfl, _, rfl, SC.rf⟩
  by_cases hsu : nI s = nI u
  rotate_left
  · refine SIM.q I (x := -12) (dc := 7) (dm := 27) (by decide) (by decide) ?_ ?_
    · refine Wp.run 2 (2, [(0, .ref 0), (1, .int (nI t)), (2, .int i), (3, .int (nI o)), (4, .int j), (5, .int n9)], [.int 5, .int (nI t)], (zsh ++ vs, mi, ml, (zmr g))) rfl ?_
      refine Wp.call (as := [.int (nI t), .int 5]) (rest := []) rfl rfl rfl rfl rfl (Nat.le_of_ble_eq_true rfl) (Nat.le_of_ble_eq_true rfl) rfl (by decide) (c_within_t hx) ?_
      rintro _ _ ⟨rfl, rfl⟩
      refine Wp.run 3 (10, [(0, .ref 0), (1, .int (nI t)), (2, .int i), (3, .int (nI o)), (4, .int j), (5, .int n9)], [.int 5, .int (nI o)], (zsh ++ vs, mi, ml, (zmr g))) rfl ?_
      refine Wp.call (as := [.int (nI o), .int 5]) (rest := []) rfl rfl rfl rfl rfl (Nat.le_of_ble_eq_true rfl) (Nat.le_of_ble_eq_true rfl) rfl (by decide) (c_within_t hy) ?_
      rintro _ _ ⟨rfl, rfl⟩
      refine Wp.run 4 (23, [(0, .ref 0), (1, .int (nI t)), (2, .int i), (3, .int (nI o)), (4, .int j), (5, .int n9)], [.int (nI t), .ref 53], (zsh ++ vs, mi, ml, (zmr g))) rfl ?_
      refine Wp.aald (v := 54 + 2 * t) rfl (by decide) rfl (vp_nI (by omega) (by decide)) (by show zmr g 53 (nI t).toNatClampNeg = _; rw [nI_clamp (by omega)]; exact tp_ref ht) (by show _ < 500; omega) ?_
      refine Wp.run 4 (31, [(6, .ref (54 + 2 * t)), (0, .ref 0), (1, .int (nI t)), (2, .int i), (3, .int (nI o)), (4, .int j), (5, .int n9)], [.int (nI o), .ref 53], (zsh ++ vs, mi, ml, (zmr g))) rfl ?_
      refine Wp.aald (v := 54 + 2 * o) rfl (by decide) rfl (vp_nI (by omega) (by decide)) (by show zmr g 53 (nI o).toNatClampNeg = _; rw [nI_clamp (by omega)]; exact tp_ref ho) (by show _ < 500; omega) ?_
      refine Wp.run 2 (36, [(7, .ref (54 + 2 * o)), (6, .ref (54 + 2 * t)), (0, .ref 0), (1, .int (nI t)), (2, .int i), (3, .int (nI o)), (4, .int j), (5, .int n9)], [.ref (54 + 2 * t)], (zsh ++ vs, mi, ml, (zmr g))) rfl ?_
      refine Wp.gint rfl (by decide) (tp_ob ht) rfl (by decide) ?_
      refine Wp.topi (y := nI s) (e3.trans e4) ?_
      refine Wp.run 1 (40, [(7, .ref (54 + 2 * o)), (6, .ref (54 + 2 * t)), (0, .ref 0), (1, .int (nI t)), (2, .int i), (3, .int (nI o)), (4, .int j), (5, .int n9)], [.int (-1), .int (nI s)], (zsh ++ vs, mi, ml, (zmr g))) rfl ?_
      refine Wp.icmp_eq rfl (fun h1 => ?_) (fun h1 => ?_)
      · exact absurd h1 (ne_m1 (by omega))
      · refine Wp.run 1 (45, [(7, .ref (54 + 2 * o)), (6, .ref (54 + 2 * t)), (0, .ref 0), (1, .int (nI t)), (2, .int i), (3, .int (nI o)), (4, .int j), (5, .int n9)], [.ref (54 + 2 * o)], (zsh ++ vs, mi, ml, (zmr g))) rfl ?_
        refine Wp.gint rfl (by decide) (tp_ob ho) rfl (by decide) ?_
        refine Wp.topi (y := nI u) (f3.trans f4) ?_
        refine Wp.run 1 (49, [(7, .ref (54 + 2 * o)), (6, .ref (54 + 2 * t)), (0, .ref 0), (1, .int (nI t)), (2, .int i), (3, .int (nI o)), (4, .int j), (5, .int n9)], [.int (-1), .int (nI u)], (zsh ++ vs, mi, ml, (zmr g))) rfl ?_
        refine Wp.icmp_ne rfl (fun h2 => ?_) (fun h2 => ?_)
        · refine Wp.run 1 (57, [(7, .ref (54 + 2 * o)), (6, .ref (54 + 2 * t)), (0, .ref 0), (1, .int (nI t)), (2, .int i), (3, .int (nI o)), (4, .int j), (5, .int n9)], [.ref (54 + 2 * t)], (zsh ++ vs, mi, ml, (zmr g))) rfl ?_
          refine Wp.gint rfl (by decide) (tp_ob ht) rfl (by decide) ?_
          refine Wp.topi (y := nI s) (e3.trans e4) ?_
          refine Wp.run 1 (62, [(7, .ref (54 + 2 * o)), (6, .ref (54 + 2 * t)), (0, .ref 0), (1, .int (nI t)), (2, .int i), (3, .int (nI o)), (4, .int j), (5, .int n9)], [.ref (54 + 2 * o), .int (nI s)], (zsh ++ vs, mi, ml, (zmr g))) rfl ?_
          refine Wp.gint rfl (by decide) (tp_ob ho) rfl (by decide) ?_
          refine Wp.topi (y := nI u) (f3.trans f4) ?_
          refine Wp.run 0 (65, [(7, .ref (54 + 2 * o)), (6, .ref (54 + 2 * t)), (0, .ref 0), (1, .int (nI t)), (2, .int i), (3, .int (nI o)), (4, .int j), (5, .int n9)], [.int (nI u), .int (nI s)], (zsh ++ vs, mi, ml, (zmr g))) rfl ?_
          refine Wp.icmp_eq rfl (fun h3 => ?_) (fun h3 => ?_)
          · exact absurd h3 hsu
          · refine Wp.run 1 (70, [(7, .ref (54 + 2 * o)), (6, .ref (54 + 2 * t)), (0, .ref 0), (1, .int (nI t)), (2, .int i), (3, .int (nI o)), (4, .int j), (5, .int n9)], [.int (-12)], (zsh ++ vs, mi, ml, (zmr g))) rfl ?_
            refine Wp.ret rfl rfl rfl ?_
            exact ⟨rfl, _, _, rfl, SC.rf, fun _ _ _ => rfl⟩
        · exact absurd h2 (ne_m1 (by omega))
    · intro m g' I' e67 S
      refine Wp.run 1 (1, [(0, .ref 66), (1, .int (nI t)), (2, .int i), (3, .int (nI o)), (4, .int j), (5, .int n9)], [.int (nI t)], (zsh ++ vs, m, ml, (zmr g'))) rfl ?_
      refine Wp.call (as := [.int (nI t)]) (rest := []) rfl rfl rfl rfl rfl (Nat.le_of_ble_eq_true rfl) (Nat.le_of_ble_eq_true rfl) rfl (by decide) (m_isTape_t hx) ?_
      rintro _ _ ⟨rfl, rfl⟩
      refine Wp.run 2 (8, [(0, .ref 66), (1, .int (nI t)), (2, .int i), (3, .int (nI o)), (4, .int j), (5, .int n9)], [.int (nI o)], (zsh ++ vs, m, ml, (zmr g'))) rfl ?_
      refine Wp.call (as := [.int (nI o)]) (rest := []) rfl rfl rfl rfl rfl (Nat.le_of_ble_eq_true rfl) (Nat.le_of_ble_eq_true rfl) rfl (by decide) (m_isTape_t hy) ?_
      rintro _ _ ⟨rfl, rfl⟩
      refine Wp.run 4 (21, [(0, .ref 66), (1, .int (nI t)), (2, .int i), (3, .int (nI o)), (4, .int j), (5, .int n9)], [.int (nI t), .ref 82], (zsh ++ vs, m, ml, (zmr g'))) rfl ?_
      refine Wp.ialn rfl (by decide) rfl (by omega) (by decide) ?_
      refine Wp.topi (y := nI s) ((m82 S t).trans e4) ?_
      refine Wp.run 0 (22, [(0, .ref 66), (1, .int (nI t)), (2, .int i), (3, .int (nI o)), (4, .int j), (5, .int n9)], [.int (nI s)], (zsh ++ vs, m, ml, (zmr g'))) rfl ?_
      refine Wp.if_lt rfl (fun h51 => ?_) (fun h51 => ?_)
      · exact absurd h51 (nI_pos (by omega))
      · refine Wp.run 3 (30, [(0, .ref 66), (1, .int (nI t)), (2, .int i), (3, .int (nI o)), (4, .int j), (5, .int n9)], [.int (nI o), .ref 82], (zsh ++ vs, m, ml, (zmr g'))) rfl ?_
        refine Wp.ialn rfl (by decide) rfl (by omega) (by decide) ?_
        refine Wp.topi (y := nI u) ((m82 S o).trans f4) ?_
        refine Wp.run 0 (31, [(0, .ref 66), (1, .int (nI t)), (2, .int i), (3, .int (nI o)), (4, .int j), (5, .int n9)], [.int (nI u)], (zsh ++ vs, m, ml, (zmr g'))) rfl ?_
        refine Wp.if_ge rfl (fun h52 => ?_) (fun h52 => ?_)
        · refine Wp.run 3 (42, [(0, .ref 66), (1, .int (nI t)), (2, .int i), (3, .int (nI o)), (4, .int j), (5, .int n9)], [.int (nI t), .ref 82], (zsh ++ vs, m, ml, (zmr g'))) rfl ?_
          refine Wp.ialn rfl (by decide) rfl (by omega) (by decide) ?_
          refine Wp.topi (y := nI s) ((m82 S t).trans e4) ?_
          refine Wp.run 3 (48, [(0, .ref 66), (1, .int (nI t)), (2, .int i), (3, .int (nI o)), (4, .int j), (5, .int n9)], [.int (nI o), .ref 82, .int (nI s)], (zsh ++ vs, m, ml, (zmr g'))) rfl ?_
          refine Wp.ialn rfl (by decide) rfl (by omega) (by decide) ?_
          refine Wp.topi (y := nI u) ((m82 S o).trans f4) ?_
          refine Wp.run 0 (49, [(0, .ref 66), (1, .int (nI t)), (2, .int i), (3, .int (nI o)), (4, .int j), (5, .int n9)], [.int (nI u), .int (nI s)], (zsh ++ vs, m, ml, (zmr g'))) rfl ?_
          refine Wp.icmp_eq rfl (fun h53 => ?_) (fun h53 => ?_)
          · exact absurd h53 hsu
          · refine Wp.run 1 (54, [(0, .ref 66), (1, .int (nI t)), (2, .int i), (3, .int (nI o)), (4, .int j), (5, .int n9)], [.int (-12)], (zsh ++ vs, m, ml, (zmr g'))) rfl ?_
            refine Wp.ret rfl rfl rfl ?_
            exact ⟨rfl, _, rfl, SC.rf⟩
        · exact absurd (nI_pos' (by omega)) h52
  by_cases sq1 : 0 ≤ n9 ∧ 0 ≤ i ∧ n9 ≤ nI l - i
  rotate_left
  · refine SIM.q I (x := -13) (dc := 7) (dm := 27) (by decide) (by decide) ?_ ?_
    · refine Wp.run 2 (2, [(0, .ref 0), (1, .int (nI t)), (2, .int i), (3, .int (nI o)), (4, .int j), (5, .int n9)], [.int 5, .int (nI t)], (zsh ++ vs, mi, ml, (zmr g))) rfl ?_
      refine Wp.call (as := [.int (nI t), .int 5]) (rest := []) rfl rfl rfl rfl rfl (Nat.le_of_ble_eq_true rfl) (Nat.le_of_ble_eq_true rfl) rfl (by decide) (c_within_t hx) ?_
      rintro _ _ ⟨rfl, rfl⟩
      refine Wp.run 3 (10, [(0, .ref 0), (1, .int (nI t)), (2, .int i), (3, .int (nI o)), (4, .int j), (5, .int n9)], [.int 5, .int (nI o)], (zsh ++ vs, mi, ml, (zmr g))) rfl ?_
      refine Wp.call (as := [.int (nI o), .int 5]) (rest := []) rfl rfl rfl rfl rfl (Nat.le_of_ble_eq_true rfl) (Nat.le_of_ble_eq_true rfl) rfl (by decide) (c_within_t hy) ?_
      rintro _ _ ⟨rfl, rfl⟩
      refine Wp.run 4 (23, [(0, .ref 0), (1, .int (nI t)), (2, .int i), (3, .int (nI o)), (4, .int j), (5, .int n9)], [.int (nI t), .ref 53], (zsh ++ vs, mi, ml, (zmr g))) rfl ?_
      refine Wp.aald (v := 54 + 2 * t) rfl (by decide) rfl (vp_nI (by omega) (by decide)) (by show zmr g 53 (nI t).toNatClampNeg = _; rw [nI_clamp (by omega)]; exact tp_ref ht) (by show _ < 500; omega) ?_
      refine Wp.run 4 (31, [(6, .ref (54 + 2 * t)), (0, .ref 0), (1, .int (nI t)), (2, .int i), (3, .int (nI o)), (4, .int j), (5, .int n9)], [.int (nI o), .ref 53], (zsh ++ vs, mi, ml, (zmr g))) rfl ?_
      refine Wp.aald (v := 54 + 2 * o) rfl (by decide) rfl (vp_nI (by omega) (by decide)) (by show zmr g 53 (nI o).toNatClampNeg = _; rw [nI_clamp (by omega)]; exact tp_ref ho) (by show _ < 500; omega) ?_
      refine Wp.run 2 (36, [(7, .ref (54 + 2 * o)), (6, .ref (54 + 2 * t)), (0, .ref 0), (1, .int (nI t)), (2, .int i), (3, .int (nI o)), (4, .int j), (5, .int n9)], [.ref (54 + 2 * t)], (zsh ++ vs, mi, ml, (zmr g))) rfl ?_
      refine Wp.gint rfl (by decide) (tp_ob ht) rfl (by decide) ?_
      refine Wp.topi (y := nI s) (e3.trans e4) ?_
      refine Wp.run 1 (40, [(7, .ref (54 + 2 * o)), (6, .ref (54 + 2 * t)), (0, .ref 0), (1, .int (nI t)), (2, .int i), (3, .int (nI o)), (4, .int j), (5, .int n9)], [.int (-1), .int (nI s)], (zsh ++ vs, mi, ml, (zmr g))) rfl ?_
      refine Wp.icmp_eq rfl (fun h1 => ?_) (fun h1 => ?_)
      · exact absurd h1 (ne_m1 (by omega))
      · refine Wp.run 1 (45, [(7, .ref (54 + 2 * o)), (6, .ref (54 + 2 * t)), (0, .ref 0), (1, .int (nI t)), (2, .int i), (3, .int (nI o)), (4, .int j), (5, .int n9)], [.ref (54 + 2 * o)], (zsh ++ vs, mi, ml, (zmr g))) rfl ?_
        refine Wp.gint rfl (by decide) (tp_ob ho) rfl (by decide) ?_
        refine Wp.topi (y := nI u) (f3.trans f4) ?_
        refine Wp.run 1 (49, [(7, .ref (54 + 2 * o)), (6, .ref (54 + 2 * t)), (0, .ref 0), (1, .int (nI t)), (2, .int i), (3, .int (nI o)), (4, .int j), (5, .int n9)], [.int (-1), .int (nI u)], (zsh ++ vs, mi, ml, (zmr g))) rfl ?_
        refine Wp.icmp_ne rfl (fun h2 => ?_) (fun h2 => ?_)
        · refine Wp.run 1 (57, [(7, .ref (54 + 2 * o)), (6, .ref (54 + 2 * t)), (0, .ref 0), (1, .int (nI t)), (2, .int i), (3, .int (nI o)), (4, .int j), (5, .int n9)], [.ref (54 + 2 * t)], (zsh ++ vs, mi, ml, (zmr g))) rfl ?_
          refine Wp.gint rfl (by decide) (tp_ob ht) rfl (by decide) ?_
          refine Wp.topi (y := nI s) (e3.trans e4) ?_
          refine Wp.run 1 (62, [(7, .ref (54 + 2 * o)), (6, .ref (54 + 2 * t)), (0, .ref 0), (1, .int (nI t)), (2, .int i), (3, .int (nI o)), (4, .int j), (5, .int n9)], [.ref (54 + 2 * o), .int (nI s)], (zsh ++ vs, mi, ml, (zmr g))) rfl ?_
          refine Wp.gint rfl (by decide) (tp_ob ho) rfl (by decide) ?_
          refine Wp.topi (y := nI u) (f3.trans f4) ?_
          refine Wp.run 0 (65, [(7, .ref (54 + 2 * o)), (6, .ref (54 + 2 * t)), (0, .ref 0), (1, .int (nI t)), (2, .int i), (3, .int (nI o)), (4, .int j), (5, .int n9)], [.int (nI u), .int (nI s)], (zsh ++ vs, mi, ml, (zmr g))) rfl ?_
          refine Wp.icmp_eq rfl (fun h3 => ?_) (fun h3 => ?_)
          · refine Wp.run 3 (76, [(7, .ref (54 + 2 * o)), (6, .ref (54 + 2 * t)), (0, .ref 0), (1, .int (nI t)), (2, .int i), (3, .int (nI o)), (4, .int j), (5, .int n9)], [.int n9, .int i, .ref (54 + 2 * t)], (zsh ++ vs, mi, ml, (zmr g))) rfl ?_
            refine Wp.call (as := [.ref (54 + 2 * t), .int i, .int n9]) (rest := []) rfl rfl rfl rfl rfl (Nat.le_of_ble_eq_true rfl) (Nat.le_of_ble_eq_true rfl) (tp_rc ht) (by decide) (c_spans_f ht e1 sq1) ?_
            rintro _ _ ⟨rfl, rfl⟩
            refine Wp.run 2 (96, [(7, .ref (54 + 2 * o)), (6, .ref (54 + 2 * t)), (0, .ref 0), (1, .int (nI t)), (2, .int i), (3, .int (nI o)), (4, .int j), (5, .int n9)], [.int (-13)], (zsh ++ vs, mi, ml, (zmr g))) rfl ?_
            refine Wp.ret rfl rfl rfl ?_
            exact ⟨rfl, _, _, rfl, SC.rf, fun _ _ _ => rfl⟩
          · exact absurd hsu h3
        · exact absurd h2 (ne_m1 (by omega))
    · intro m g' I' e67 S
      refine Wp.run 1 (1, [(0, .ref 66), (1, .int (nI t)), (2, .int i), (3, .int (nI o)), (4, .int j), (5, .int n9)], [.int (nI t)], (zsh ++ vs, m, ml, (zmr g'))) rfl ?_
      refine Wp.call (as := [.int (nI t)]) (rest := []) rfl rfl rfl rfl rfl (Nat.le_of_ble_eq_true rfl) (Nat.le_of_ble_eq_true rfl) rfl (by decide) (m_isTape_t hx) ?_
      rintro _ _ ⟨rfl, rfl⟩
      refine Wp.run 2 (8, [(0, .ref 66), (1, .int (nI t)), (2, .int i), (3, .int (nI o)), (4, .int j), (5, .int n9)], [.int (nI o)], (zsh ++ vs, m, ml, (zmr g'))) rfl ?_
      refine Wp.call (as := [.int (nI o)]) (rest := []) rfl rfl rfl rfl rfl (Nat.le_of_ble_eq_true rfl) (Nat.le_of_ble_eq_true rfl) rfl (by decide) (m_isTape_t hy) ?_
      rintro _ _ ⟨rfl, rfl⟩
      refine Wp.run 4 (21, [(0, .ref 66), (1, .int (nI t)), (2, .int i), (3, .int (nI o)), (4, .int j), (5, .int n9)], [.int (nI t), .ref 82], (zsh ++ vs, m, ml, (zmr g'))) rfl ?_
      refine Wp.ialn rfl (by decide) rfl (by omega) (by decide) ?_
      refine Wp.topi (y := nI s) ((m82 S t).trans e4) ?_
      refine Wp.run 0 (22, [(0, .ref 66), (1, .int (nI t)), (2, .int i), (3, .int (nI o)), (4, .int j), (5, .int n9)], [.int (nI s)], (zsh ++ vs, m, ml, (zmr g'))) rfl ?_
      refine Wp.if_lt rfl (fun h51 => ?_) (fun h51 => ?_)
      · exact absurd h51 (nI_pos (by omega))
      · refine Wp.run 3 (30, [(0, .ref 66), (1, .int (nI t)), (2, .int i), (3, .int (nI o)), (4, .int j), (5, .int n9)], [.int (nI o), .ref 82], (zsh ++ vs, m, ml, (zmr g'))) rfl ?_
        refine Wp.ialn rfl (by decide) rfl (by omega) (by decide) ?_
        refine Wp.topi (y := nI u) ((m82 S o).trans f4) ?_
        refine Wp.run 0 (31, [(0, .ref 66), (1, .int (nI t)), (2, .int i), (3, .int (nI o)), (4, .int j), (5, .int n9)], [.int (nI u)], (zsh ++ vs, m, ml, (zmr g'))) rfl ?_
        refine Wp.if_ge rfl (fun h52 => ?_) (fun h52 => ?_)
        · refine Wp.run 3 (42, [(0, .ref 66), (1, .int (nI t)), (2, .int i), (3, .int (nI o)), (4, .int j), (5, .int n9)], [.int (nI t), .ref 82], (zsh ++ vs, m, ml, (zmr g'))) rfl ?_
          refine Wp.ialn rfl (by decide) rfl (by omega) (by decide) ?_
          refine Wp.topi (y := nI s) ((m82 S t).trans e4) ?_
          refine Wp.run 3 (48, [(0, .ref 66), (1, .int (nI t)), (2, .int i), (3, .int (nI o)), (4, .int j), (5, .int n9)], [.int (nI o), .ref 82, .int (nI s)], (zsh ++ vs, m, ml, (zmr g'))) rfl ?_
          refine Wp.ialn rfl (by decide) rfl (by omega) (by decide) ?_
          refine Wp.topi (y := nI u) ((m82 S o).trans f4) ?_
          refine Wp.run 0 (49, [(0, .ref 66), (1, .int (nI t)), (2, .int i), (3, .int (nI o)), (4, .int j), (5, .int n9)], [.int (nI u), .int (nI s)], (zsh ++ vs, m, ml, (zmr g'))) rfl ?_
          refine Wp.icmp_eq rfl (fun h53 => ?_) (fun h53 => ?_)
          · refine Wp.run 1 (57, [(0, .ref 66), (1, .int (nI t)), (2, .int i), (3, .int (nI o)), (4, .int j), (5, .int n9)], [.int n9], (zsh ++ vs, m, ml, (zmr g'))) rfl ?_
            refine Wp.if_lt rfl (fun h54 => ?_) (fun h54 => ?_)
            · refine Wp.run 1 (98, [(0, .ref 66), (1, .int (nI t)), (2, .int i), (3, .int (nI o)), (4, .int j), (5, .int n9)], [.int (-13)], (zsh ++ vs, m, ml, (zmr g'))) rfl ?_
              refine Wp.ret rfl rfl rfl ?_
              exact ⟨rfl, _, rfl, SC.rf⟩
            · refine Wp.run 1 (61, [(0, .ref 66), (1, .int (nI t)), (2, .int i), (3, .int (nI o)), (4, .int j), (5, .int n9)], [.int i], (zsh ++ vs, m, ml, (zmr g'))) rfl ?_
              refine Wp.if_lt rfl (fun h55 => ?_) (fun h55 => ?_)
              · refine Wp.run 1 (98, [(0, .ref 66), (1, .int (nI t)), (2, .int i), (3, .int (nI o)), (4, .int j), (5, .int n9)], [.int (-13)], (zsh ++ vs, m, ml, (zmr g'))) rfl ?_
                refine Wp.ret rfl rfl rfl ?_
                exact ⟨rfl, _, rfl, SC.rf⟩
              · refine Wp.run 1 (66, [(0, .ref 66), (1, .int (nI t)), (2, .int i), (3, .int (nI o)), (4, .int j), (5, .int n9)], [.int j], (zsh ++ vs, m, ml, (zmr g'))) rfl ?_
                refine Wp.if_lt rfl (fun h56 => ?_) (fun h56 => ?_)
                · refine Wp.run 1 (98, [(0, .ref 66), (1, .int (nI t)), (2, .int i), (3, .int (nI o)), (4, .int j), (5, .int n9)], [.int (-13)], (zsh ++ vs, m, ml, (zmr g'))) rfl ?_
                  refine Wp.ret rfl rfl rfl ?_
                  exact ⟨rfl, _, rfl, SC.rf⟩
                · refine Wp.run 4 (76, [(0, .ref 66), (1, .int (nI t)), (2, .int i), (3, .int (nI o)), (4, .int j), (5, .int n9)], [.int (nI t), .ref 83, .int n9], (zsh ++ vs, m, ml, (zmr g'))) rfl ?_
                  refine Wp.ialn rfl (by decide) rfl (by omega) (by decide) ?_
                  refine Wp.topi (y := nI l) ((m83 S t).trans e2) ?_
                  refine Wp.run 2 (79, [(0, .ref 66), (1, .int (nI t)), (2, .int i), (3, .int (nI o)), (4, .int j), (5, .int n9)], [.int ((nI l) - i), .int n9], (zsh ++ vs, m, ml, (zmr g'))) rfl ?_
                  refine Wp.icmp_gt rfl (fun h57 => ?_) (fun h57 => ?_)
                  · refine Wp.run 1 (98, [(0, .ref 66), (1, .int (nI t)), (2, .int i), (3, .int (nI o)), (4, .int j), (5, .int n9)], [.int (-13)], (zsh ++ vs, m, ml, (zmr g'))) rfl ?_
                    refine Wp.ret rfl rfl rfl ?_
                    exact ⟨rfl, _, rfl, SC.rf⟩
                  · exact absurd ⟨Int32.not_lt.mp ‹¬ n9 < 0›, Int32.not_lt.mp ‹¬ i < 0›, Int32.not_lt.mp h57⟩ sq1
          · exact absurd hsu h53
        · exact absurd (nI_pos' (by omega)) h52
  by_cases sq2 : 0 ≤ n9 ∧ 0 ≤ j ∧ n9 ≤ nI k - j
  rotate_left
  · refine SIM.q I (x := -13) (dc := 7) (dm := 27) (by decide) (by decide) ?_ ?_
    · refine Wp.run 2 (2, [(0, .ref 0), (1, .int (nI t)), (2, .int i), (3, .int (nI o)), (4, .int j), (5, .int n9)], [.int 5, .int (nI t)], (zsh ++ vs, mi, ml, (zmr g))) rfl ?_
      refine Wp.call (as := [.int (nI t), .int 5]) (rest := []) rfl rfl rfl rfl rfl (Nat.le_of_ble_eq_true rfl) (Nat.le_of_ble_eq_true rfl) rfl (by decide) (c_within_t hx) ?_
      rintro _ _ ⟨rfl, rfl⟩
      refine Wp.run 3 (10, [(0, .ref 0), (1, .int (nI t)), (2, .int i), (3, .int (nI o)), (4, .int j), (5, .int n9)], [.int 5, .int (nI o)], (zsh ++ vs, mi, ml, (zmr g))) rfl ?_
      refine Wp.call (as := [.int (nI o), .int 5]) (rest := []) rfl rfl rfl rfl rfl (Nat.le_of_ble_eq_true rfl) (Nat.le_of_ble_eq_true rfl) rfl (by decide) (c_within_t hy) ?_
      rintro _ _ ⟨rfl, rfl⟩
      refine Wp.run 4 (23, [(0, .ref 0), (1, .int (nI t)), (2, .int i), (3, .int (nI o)), (4, .int j), (5, .int n9)], [.int (nI t), .ref 53], (zsh ++ vs, mi, ml, (zmr g))) rfl ?_
      refine Wp.aald (v := 54 + 2 * t) rfl (by decide) rfl (vp_nI (by omega) (by decide)) (by show zmr g 53 (nI t).toNatClampNeg = _; rw [nI_clamp (by omega)]; exact tp_ref ht) (by show _ < 500; omega) ?_
      refine Wp.run 4 (31, [(6, .ref (54 + 2 * t)), (0, .ref 0), (1, .int (nI t)), (2, .int i), (3, .int (nI o)), (4, .int j), (5, .int n9)], [.int (nI o), .ref 53], (zsh ++ vs, mi, ml, (zmr g))) rfl ?_
      refine Wp.aald (v := 54 + 2 * o) rfl (by decide) rfl (vp_nI (by omega) (by decide)) (by show zmr g 53 (nI o).toNatClampNeg = _; rw [nI_clamp (by omega)]; exact tp_ref ho) (by show _ < 500; omega) ?_
      refine Wp.run 2 (36, [(7, .ref (54 + 2 * o)), (6, .ref (54 + 2 * t)), (0, .ref 0), (1, .int (nI t)), (2, .int i), (3, .int (nI o)), (4, .int j), (5, .int n9)], [.ref (54 + 2 * t)], (zsh ++ vs, mi, ml, (zmr g))) rfl ?_
      refine Wp.gint rfl (by decide) (tp_ob ht) rfl (by decide) ?_
      refine Wp.topi (y := nI s) (e3.trans e4) ?_
      refine Wp.run 1 (40, [(7, .ref (54 + 2 * o)), (6, .ref (54 + 2 * t)), (0, .ref 0), (1, .int (nI t)), (2, .int i), (3, .int (nI o)), (4, .int j), (5, .int n9)], [.int (-1), .int (nI s)], (zsh ++ vs, mi, ml, (zmr g))) rfl ?_
      refine Wp.icmp_eq rfl (fun h1 => ?_) (fun h1 => ?_)
      · exact absurd h1 (ne_m1 (by omega))
      · refine Wp.run 1 (45, [(7, .ref (54 + 2 * o)), (6, .ref (54 + 2 * t)), (0, .ref 0), (1, .int (nI t)), (2, .int i), (3, .int (nI o)), (4, .int j), (5, .int n9)], [.ref (54 + 2 * o)], (zsh ++ vs, mi, ml, (zmr g))) rfl ?_
        refine Wp.gint rfl (by decide) (tp_ob ho) rfl (by decide) ?_
        refine Wp.topi (y := nI u) (f3.trans f4) ?_
        refine Wp.run 1 (49, [(7, .ref (54 + 2 * o)), (6, .ref (54 + 2 * t)), (0, .ref 0), (1, .int (nI t)), (2, .int i), (3, .int (nI o)), (4, .int j), (5, .int n9)], [.int (-1), .int (nI u)], (zsh ++ vs, mi, ml, (zmr g))) rfl ?_
        refine Wp.icmp_ne rfl (fun h2 => ?_) (fun h2 => ?_)
        · refine Wp.run 1 (57, [(7, .ref (54 + 2 * o)), (6, .ref (54 + 2 * t)), (0, .ref 0), (1, .int (nI t)), (2, .int i), (3, .int (nI o)), (4, .int j), (5, .int n9)], [.ref (54 + 2 * t)], (zsh ++ vs, mi, ml, (zmr g))) rfl ?_
          refine Wp.gint rfl (by decide) (tp_ob ht) rfl (by decide) ?_
          refine Wp.topi (y := nI s) (e3.trans e4) ?_
          refine Wp.run 1 (62, [(7, .ref (54 + 2 * o)), (6, .ref (54 + 2 * t)), (0, .ref 0), (1, .int (nI t)), (2, .int i), (3, .int (nI o)), (4, .int j), (5, .int n9)], [.ref (54 + 2 * o), .int (nI s)], (zsh ++ vs, mi, ml, (zmr g))) rfl ?_
          refine Wp.gint rfl (by decide) (tp_ob ho) rfl (by decide) ?_
          refine Wp.topi (y := nI u) (f3.trans f4) ?_
          refine Wp.run 0 (65, [(7, .ref (54 + 2 * o)), (6, .ref (54 + 2 * t)), (0, .ref 0), (1, .int (nI t)), (2, .int i), (3, .int (nI o)), (4, .int j), (5, .int n9)], [.int (nI u), .int (nI s)], (zsh ++ vs, mi, ml, (zmr g))) rfl ?_
          refine Wp.icmp_eq rfl (fun h3 => ?_) (fun h3 => ?_)
          · refine Wp.run 3 (76, [(7, .ref (54 + 2 * o)), (6, .ref (54 + 2 * t)), (0, .ref 0), (1, .int (nI t)), (2, .int i), (3, .int (nI o)), (4, .int j), (5, .int n9)], [.int n9, .int i, .ref (54 + 2 * t)], (zsh ++ vs, mi, ml, (zmr g))) rfl ?_
            refine Wp.call (as := [.ref (54 + 2 * t), .int i, .int n9]) (rest := []) rfl rfl rfl rfl rfl (Nat.le_of_ble_eq_true rfl) (Nat.le_of_ble_eq_true rfl) (tp_rc ht) (by decide) (c_spans_t ht e1 sq1) ?_
            rintro _ _ ⟨rfl, rfl⟩
            refine Wp.run 4 (88, [(7, .ref (54 + 2 * o)), (6, .ref (54 + 2 * t)), (0, .ref 0), (1, .int (nI t)), (2, .int i), (3, .int (nI o)), (4, .int j), (5, .int n9)], [.int n9, .int j, .ref (54 + 2 * o)], (zsh ++ vs, mi, ml, (zmr g))) rfl ?_
            refine Wp.call (as := [.ref (54 + 2 * o), .int j, .int n9]) (rest := []) rfl rfl rfl rfl rfl (Nat.le_of_ble_eq_true rfl) (Nat.le_of_ble_eq_true rfl) (tp_rc ho) (by decide) (c_spans_f ho f1 sq2) ?_
            rintro _ _ ⟨rfl, rfl⟩
            refine Wp.run 2 (96, [(7, .ref (54 + 2 * o)), (6, .ref (54 + 2 * t)), (0, .ref 0), (1, .int (nI t)), (2, .int i), (3, .int (nI o)), (4, .int j), (5, .int n9)], [.int (-13)], (zsh ++ vs, mi, ml, (zmr g))) rfl ?_
            refine Wp.ret rfl rfl rfl ?_
            exact ⟨rfl, _, _, rfl, SC.rf, fun _ _ _ => rfl⟩
          · exact absurd hsu h3
        · exact absurd h2 (ne_m1 (by omega))
    · intro m g' I' e67 S
      refine Wp.run 1 (1, [(0, .ref 66), (1, .int (nI t)), (2, .int i), (3, .int (nI o)), (4, .int j), (5, .int n9)], [.int (nI t)], (zsh ++ vs, m, ml, (zmr g'))) rfl ?_
      refine Wp.call (as := [.int (nI t)]) (rest := []) rfl rfl rfl rfl rfl (Nat.le_of_ble_eq_true rfl) (Nat.le_of_ble_eq_true rfl) rfl (by decide) (m_isTape_t hx) ?_
      rintro _ _ ⟨rfl, rfl⟩
      refine Wp.run 2 (8, [(0, .ref 66), (1, .int (nI t)), (2, .int i), (3, .int (nI o)), (4, .int j), (5, .int n9)], [.int (nI o)], (zsh ++ vs, m, ml, (zmr g'))) rfl ?_
      refine Wp.call (as := [.int (nI o)]) (rest := []) rfl rfl rfl rfl rfl (Nat.le_of_ble_eq_true rfl) (Nat.le_of_ble_eq_true rfl) rfl (by decide) (m_isTape_t hy) ?_
      rintro _ _ ⟨rfl, rfl⟩
      refine Wp.run 4 (21, [(0, .ref 66), (1, .int (nI t)), (2, .int i), (3, .int (nI o)), (4, .int j), (5, .int n9)], [.int (nI t), .ref 82], (zsh ++ vs, m, ml, (zmr g'))) rfl ?_
      refine Wp.ialn rfl (by decide) rfl (by omega) (by decide) ?_
      refine Wp.topi (y := nI s) ((m82 S t).trans e4) ?_
      refine Wp.run 0 (22, [(0, .ref 66), (1, .int (nI t)), (2, .int i), (3, .int (nI o)), (4, .int j), (5, .int n9)], [.int (nI s)], (zsh ++ vs, m, ml, (zmr g'))) rfl ?_
      refine Wp.if_lt rfl (fun h51 => ?_) (fun h51 => ?_)
      · exact absurd h51 (nI_pos (by omega))
      · refine Wp.run 3 (30, [(0, .ref 66), (1, .int (nI t)), (2, .int i), (3, .int (nI o)), (4, .int j), (5, .int n9)], [.int (nI o), .ref 82], (zsh ++ vs, m, ml, (zmr g'))) rfl ?_
        refine Wp.ialn rfl (by decide) rfl (by omega) (by decide) ?_
        refine Wp.topi (y := nI u) ((m82 S o).trans f4) ?_
        refine Wp.run 0 (31, [(0, .ref 66), (1, .int (nI t)), (2, .int i), (3, .int (nI o)), (4, .int j), (5, .int n9)], [.int (nI u)], (zsh ++ vs, m, ml, (zmr g'))) rfl ?_
        refine Wp.if_ge rfl (fun h52 => ?_) (fun h52 => ?_)
        · refine Wp.run 3 (42, [(0, .ref 66), (1, .int (nI t)), (2, .int i), (3, .int (nI o)), (4, .int j), (5, .int n9)], [.int (nI t), .ref 82], (zsh ++ vs, m, ml, (zmr g'))) rfl ?_
          refine Wp.ialn rfl (by decide) rfl (by omega) (by decide) ?_
          refine Wp.topi (y := nI s) ((m82 S t).trans e4) ?_
          refine Wp.run 3 (48, [(0, .ref 66), (1, .int (nI t)), (2, .int i), (3, .int (nI o)), (4, .int j), (5, .int n9)], [.int (nI o), .ref 82, .int (nI s)], (zsh ++ vs, m, ml, (zmr g'))) rfl ?_
          refine Wp.ialn rfl (by decide) rfl (by omega) (by decide) ?_
          refine Wp.topi (y := nI u) ((m82 S o).trans f4) ?_
          refine Wp.run 0 (49, [(0, .ref 66), (1, .int (nI t)), (2, .int i), (3, .int (nI o)), (4, .int j), (5, .int n9)], [.int (nI u), .int (nI s)], (zsh ++ vs, m, ml, (zmr g'))) rfl ?_
          refine Wp.icmp_eq rfl (fun h53 => ?_) (fun h53 => ?_)
          · refine Wp.run 1 (57, [(0, .ref 66), (1, .int (nI t)), (2, .int i), (3, .int (nI o)), (4, .int j), (5, .int n9)], [.int n9], (zsh ++ vs, m, ml, (zmr g'))) rfl ?_
            refine Wp.if_lt rfl (fun h54 => ?_) (fun h54 => ?_)
            · refine Wp.run 1 (98, [(0, .ref 66), (1, .int (nI t)), (2, .int i), (3, .int (nI o)), (4, .int j), (5, .int n9)], [.int (-13)], (zsh ++ vs, m, ml, (zmr g'))) rfl ?_
              refine Wp.ret rfl rfl rfl ?_
              exact ⟨rfl, _, rfl, SC.rf⟩
            · refine Wp.run 1 (61, [(0, .ref 66), (1, .int (nI t)), (2, .int i), (3, .int (nI o)), (4, .int j), (5, .int n9)], [.int i], (zsh ++ vs, m, ml, (zmr g'))) rfl ?_
              refine Wp.if_lt rfl (fun h55 => ?_) (fun h55 => ?_)
              · refine Wp.run 1 (98, [(0, .ref 66), (1, .int (nI t)), (2, .int i), (3, .int (nI o)), (4, .int j), (5, .int n9)], [.int (-13)], (zsh ++ vs, m, ml, (zmr g'))) rfl ?_
                refine Wp.ret rfl rfl rfl ?_
                exact ⟨rfl, _, rfl, SC.rf⟩
              · refine Wp.run 1 (66, [(0, .ref 66), (1, .int (nI t)), (2, .int i), (3, .int (nI o)), (4, .int j), (5, .int n9)], [.int j], (zsh ++ vs, m, ml, (zmr g'))) rfl ?_
                refine Wp.if_lt rfl (fun h56 => ?_) (fun h56 => ?_)
                · refine Wp.run 1 (98, [(0, .ref 66), (1, .int (nI t)), (2, .int i), (3, .int (nI o)), (4, .int j), (5, .int n9)], [.int (-13)], (zsh ++ vs, m, ml, (zmr g'))) rfl ?_
                  refine Wp.ret rfl rfl rfl ?_
                  exact ⟨rfl, _, rfl, SC.rf⟩
                · refine Wp.run 4 (76, [(0, .ref 66), (1, .int (nI t)), (2, .int i), (3, .int (nI o)), (4, .int j), (5, .int n9)], [.int (nI t), .ref 83, .int n9], (zsh ++ vs, m, ml, (zmr g'))) rfl ?_
                  refine Wp.ialn rfl (by decide) rfl (by omega) (by decide) ?_
                  refine Wp.topi (y := nI l) ((m83 S t).trans e2) ?_
                  refine Wp.run 2 (79, [(0, .ref 66), (1, .int (nI t)), (2, .int i), (3, .int (nI o)), (4, .int j), (5, .int n9)], [.int ((nI l) - i), .int n9], (zsh ++ vs, m, ml, (zmr g'))) rfl ?_
                  refine Wp.icmp_gt rfl (fun h57 => ?_) (fun h57 => ?_)
                  · refine Wp.run 1 (98, [(0, .ref 66), (1, .int (nI t)), (2, .int i), (3, .int (nI o)), (4, .int j), (5, .int n9)], [.int (-13)], (zsh ++ vs, m, ml, (zmr g'))) rfl ?_
                    refine Wp.ret rfl rfl rfl ?_
                    exact ⟨rfl, _, rfl, SC.rf⟩
                  · refine Wp.run 4 (89, [(0, .ref 66), (1, .int (nI t)), (2, .int i), (3, .int (nI o)), (4, .int j), (5, .int n9)], [.int (nI o), .ref 83, .int n9], (zsh ++ vs, m, ml, (zmr g'))) rfl ?_
                    refine Wp.ialn rfl (by decide) rfl (by omega) (by decide) ?_
                    refine Wp.topi (y := nI k) ((m83 S o).trans f2) ?_
                    refine Wp.run 2 (93, [(0, .ref 66), (1, .int (nI t)), (2, .int i), (3, .int (nI o)), (4, .int j), (5, .int n9)], [.int ((nI k) - j), .int n9], (zsh ++ vs, m, ml, (zmr g'))) rfl ?_
                    refine Wp.icmp_le rfl (fun h58 => ?_) (fun h58 => ?_)
                    · exact absurd ⟨Int32.not_lt.mp ‹¬ n9 < 0›, Int32.not_lt.mp ‹¬ j < 0›, h58⟩ sq2
                    · refine Wp.run 1 (98, [(0, .ref 66), (1, .int (nI t)), (2, .int i), (3, .int (nI o)), (4, .int j), (5, .int n9)], [.int (-13)], (zsh ++ vs, m, ml, (zmr g'))) rfl ?_
                      refine Wp.ret rfl rfl rfl ?_
                      exact ⟨rfl, _, rfl, SC.rf⟩
          · exact absurd hsu h53
        · exact absurd (nI_pos' (by omega)) h52
  have sp1 := sq1
  have sp2 := sq2
  obtain ⟨c, hc31, rfl⟩ := nI_of (Int32.not_lt.mpr sq1.1)
  obtain ⟨p, hp31, rfl⟩ := nI_of (Int32.not_lt.mpr sq1.2.1)
  obtain ⟨q, hq31, rfl⟩ := nI_of (Int32.not_lt.mpr sq2.2.1)
  have hpc : p + c ≤ l := by
    have z := sq1.2.2
    rw [Int32.le_iff_toInt_le, sub_toInt (by omega) hp31, nI_toInt hc31] at z
    omega
  have hqc : q + c ≤ k := by
    have z := sq2.2.2
    rw [Int32.le_iff_toInt_le, sub_toInt (by omega) hq31, nI_toInt hc31] at z
    omega
  refine SIM.g (dc := 7) (dm := 7) (fun x vs1 m1 l1 g1 => x = nI c ∧ vs = vs1 ∧ g = g1 ∧ mi = m1 ∧ l1 = zrow ml (55 + 2 * o) (va_cpy (ml (55 + 2 * t)) (ml (55 + 2 * o)) p q c)) (by decide) (by decide) ?_ ?_
  · refine Wp.run 2 (2, [(0, .ref 0), (1, .int (nI t)), (2, .int (nI p)), (3, .int (nI o)), (4, .int (nI q)), (5, .int (nI c))], [.int 5, .int (nI t)], (zsh ++ vs, mi, ml, (zmr g))) rfl ?_
    refine Wp.call (as := [.int (nI t), .int 5]) (rest := []) rfl rfl rfl rfl rfl (Nat.le_of_ble_eq_true rfl) (Nat.le_of_ble_eq_true rfl) rfl (by decide) (c_within_t hx) ?_
    rintro _ _ ⟨rfl, rfl⟩
    refine Wp.run 3 (10, [(0, .ref 0), (1, .int (nI t)), (2, .int (nI p)), (3, .int (nI o)), (4, .int (nI q)), (5, .int (nI c))], [.int 5, .int (nI o)], (zsh ++ vs, mi, ml, (zmr g))) rfl ?_
    refine Wp.call (as := [.int (nI o), .int 5]) (rest := []) rfl rfl rfl rfl rfl (Nat.le_of_ble_eq_true rfl) (Nat.le_of_ble_eq_true rfl) rfl (by decide) (c_within_t hy) ?_
    rintro _ _ ⟨rfl, rfl⟩
    refine Wp.run 4 (23, [(0, .ref 0), (1, .int (nI t)), (2, .int (nI p)), (3, .int (nI o)), (4, .int (nI q)), (5, .int (nI c))], [.int (nI t), .ref 53], (zsh ++ vs, mi, ml, (zmr g))) rfl ?_
    refine Wp.aald (v := 54 + 2 * t) rfl (by decide) rfl (vp_nI (by omega) (by decide)) (by show zmr g 53 (nI t).toNatClampNeg = _; rw [nI_clamp (by omega)]; exact tp_ref ht) (by show _ < 500; omega) ?_
    refine Wp.run 4 (31, [(6, .ref (54 + 2 * t)), (0, .ref 0), (1, .int (nI t)), (2, .int (nI p)), (3, .int (nI o)), (4, .int (nI q)), (5, .int (nI c))], [.int (nI o), .ref 53], (zsh ++ vs, mi, ml, (zmr g))) rfl ?_
    refine Wp.aald (v := 54 + 2 * o) rfl (by decide) rfl (vp_nI (by omega) (by decide)) (by show zmr g 53 (nI o).toNatClampNeg = _; rw [nI_clamp (by omega)]; exact tp_ref ho) (by show _ < 500; omega) ?_
    refine Wp.run 2 (36, [(7, .ref (54 + 2 * o)), (6, .ref (54 + 2 * t)), (0, .ref 0), (1, .int (nI t)), (2, .int (nI p)), (3, .int (nI o)), (4, .int (nI q)), (5, .int (nI c))], [.ref (54 + 2 * t)], (zsh ++ vs, mi, ml, (zmr g))) rfl ?_
    refine Wp.gint rfl (by decide) (tp_ob ht) rfl (by decide) ?_
    refine Wp.topi (y := nI s) (e3.trans e4) ?_
    refine Wp.run 1 (40, [(7, .ref (54 + 2 * o)), (6, .ref (54 + 2 * t)), (0, .ref 0), (1, .int (nI t)), (2, .int (nI p)), (3, .int (nI o)), (4, .int (nI q)), (5, .int (nI c))], [.int (-1), .int (nI s)], (zsh ++ vs, mi, ml, (zmr g))) rfl ?_
    refine Wp.icmp_eq rfl (fun h1 => ?_) (fun h1 => ?_)
    · exact absurd h1 (ne_m1 (by omega))
    · refine Wp.run 1 (45, [(7, .ref (54 + 2 * o)), (6, .ref (54 + 2 * t)), (0, .ref 0), (1, .int (nI t)), (2, .int (nI p)), (3, .int (nI o)), (4, .int (nI q)), (5, .int (nI c))], [.ref (54 + 2 * o)], (zsh ++ vs, mi, ml, (zmr g))) rfl ?_
      refine Wp.gint rfl (by decide) (tp_ob ho) rfl (by decide) ?_
      refine Wp.topi (y := nI u) (f3.trans f4) ?_
      refine Wp.run 1 (49, [(7, .ref (54 + 2 * o)), (6, .ref (54 + 2 * t)), (0, .ref 0), (1, .int (nI t)), (2, .int (nI p)), (3, .int (nI o)), (4, .int (nI q)), (5, .int (nI c))], [.int (-1), .int (nI u)], (zsh ++ vs, mi, ml, (zmr g))) rfl ?_
      refine Wp.icmp_ne rfl (fun h2 => ?_) (fun h2 => ?_)
      · refine Wp.run 1 (57, [(7, .ref (54 + 2 * o)), (6, .ref (54 + 2 * t)), (0, .ref 0), (1, .int (nI t)), (2, .int (nI p)), (3, .int (nI o)), (4, .int (nI q)), (5, .int (nI c))], [.ref (54 + 2 * t)], (zsh ++ vs, mi, ml, (zmr g))) rfl ?_
        refine Wp.gint rfl (by decide) (tp_ob ht) rfl (by decide) ?_
        refine Wp.topi (y := nI s) (e3.trans e4) ?_
        refine Wp.run 1 (62, [(7, .ref (54 + 2 * o)), (6, .ref (54 + 2 * t)), (0, .ref 0), (1, .int (nI t)), (2, .int (nI p)), (3, .int (nI o)), (4, .int (nI q)), (5, .int (nI c))], [.ref (54 + 2 * o), .int (nI s)], (zsh ++ vs, mi, ml, (zmr g))) rfl ?_
        refine Wp.gint rfl (by decide) (tp_ob ho) rfl (by decide) ?_
        refine Wp.topi (y := nI u) (f3.trans f4) ?_
        refine Wp.run 0 (65, [(7, .ref (54 + 2 * o)), (6, .ref (54 + 2 * t)), (0, .ref 0), (1, .int (nI t)), (2, .int (nI p)), (3, .int (nI o)), (4, .int (nI q)), (5, .int (nI c))], [.int (nI u), .int (nI s)], (zsh ++ vs, mi, ml, (zmr g))) rfl ?_
        refine Wp.icmp_eq rfl (fun h3 => ?_) (fun h3 => ?_)
        · refine Wp.run 3 (76, [(7, .ref (54 + 2 * o)), (6, .ref (54 + 2 * t)), (0, .ref 0), (1, .int (nI t)), (2, .int (nI p)), (3, .int (nI o)), (4, .int (nI q)), (5, .int (nI c))], [.int (nI c), .int (nI p), .ref (54 + 2 * t)], (zsh ++ vs, mi, ml, (zmr g))) rfl ?_
          refine Wp.call (as := [.ref (54 + 2 * t), .int (nI p), .int (nI c)]) (rest := []) rfl rfl rfl rfl rfl (Nat.le_of_ble_eq_true rfl) (Nat.le_of_ble_eq_true rfl) (tp_rc ht) (by decide) (c_spans_t ht e1 sp1) ?_
          rintro _ _ ⟨rfl, rfl⟩
          refine Wp.run 4 (88, [(7, .ref (54 + 2 * o)), (6, .ref (54 + 2 * t)), (0, .ref 0), (1, .int (nI t)), (2, .int (nI p)), (3, .int (nI o)), (4, .int (nI q)), (5, .int (nI c))], [.int (nI c), .int (nI q), .ref (54 + 2 * o)], (zsh ++ vs, mi, ml, (zmr g))) rfl ?_
          refine Wp.call (as := [.ref (54 + 2 * o), .int (nI q), .int (nI c)]) (rest := []) rfl rfl rfl rfl rfl (Nat.le_of_ble_eq_true rfl) (Nat.le_of_ble_eq_true rfl) (tp_rc ho) (by decide) (c_spans_t ho f1 sp2) ?_
          rintro _ _ ⟨rfl, rfl⟩
          refine Wp.run 2 (99, [(7, .ref (54 + 2 * o)), (6, .ref (54 + 2 * t)), (0, .ref 0), (1, .int (nI t)), (2, .int (nI p)), (3, .int (nI o)), (4, .int (nI q)), (5, .int (nI c))], [.ref (54 + 2 * t)], (zsh ++ vs, mi, ml, (zmr g))) rfl ?_
          refine Wp.gref rfl (tp_g2 ht) rfl (tp_it ht) ?_
          refine Wp.run 2 (105, [(7, .ref (54 + 2 * o)), (6, .ref (54 + 2 * t)), (0, .ref 0), (1, .int (nI t)), (2, .int (nI p)), (3, .int (nI o)), (4, .int (nI q)), (5, .int (nI c))], [.ref (54 + 2 * o), .int (nI p), .ref (55 + 2 * t)], (zsh ++ vs, mi, ml, (zmr g))) rfl ?_
          refine Wp.gref rfl (tp_g2 ho) rfl (tp_it ho) ?_
          refine Wp.run 2 (112, [(7, .ref (54 + 2 * o)), (6, .ref (54 + 2 * t)), (0, .ref 0), (1, .int (nI t)), (2, .int (nI p)), (3, .int (nI o)), (4, .int (nI q)), (5, .int (nI c))], [.int (nI c), .int (nI q), .ref (55 + 2 * o), .int (nI p), .ref (55 + 2 * t)], (zsh ++ vs, mi, ml, (zmr g))) rfl ?_
          refine Wp.acpl rfl (Nat.le_of_ble_eq_true rfl) (by show _ < 500; omega) (by show _ < 500; omega) (tp_sh ht) (tp_sh ho) (by omega) (by omega) (by decide) (by decide) ?_
          refine Wp.run 1 (117, [(7, .ref (54 + 2 * o)), (6, .ref (54 + 2 * t)), (0, .ref 0), (1, .int (nI t)), (2, .int (nI p)), (3, .int (nI o)), (4, .int (nI q)), (5, .int (nI c))], [.int (nI c)], (zsh ++ vs, mi, (zrow ml (55 + 2 * o) (va_cpy (ml (55 + 2 * t)) (ml (55 + 2 * o)) p q c)), (zmr g))) rfl ?_
          refine Wp.ret rfl rfl rfl ?_
          exact ⟨_, rfl, vs, _, _, g, rfl, rfl, rfl, rfl, rfl, rfl⟩
        · exact absurd hsu h3
      · exact absurd h2 (ne_m1 (by omega))
  · rintro x vs1 m1 l1 g1 ⟨rfl, rfl, rfl, rfl, hl1⟩
    refine Wp.run 1 (1, [(0, .ref 66), (1, .int (nI t)), (2, .int (nI p)), (3, .int (nI o)), (4, .int (nI q)), (5, .int (nI c))], [.int (nI t)], (zsh ++ vs, mi, l1, (zmr g))) rfl ?_
    refine Wp.call (as := [.int (nI t)]) (rest := []) rfl rfl rfl rfl rfl (Nat.le_of_ble_eq_true rfl) (Nat.le_of_ble_eq_true rfl) rfl (by decide) (m_isTape_t hx) ?_
    rintro _ _ ⟨rfl, rfl⟩
    refine Wp.run 2 (8, [(0, .ref 66), (1, .int (nI t)), (2, .int (nI p)), (3, .int (nI o)), (4, .int (nI q)), (5, .int (nI c))], [.int (nI o)], (zsh ++ vs, mi, l1, (zmr g))) rfl ?_
    refine Wp.call (as := [.int (nI o)]) (rest := []) rfl rfl rfl rfl rfl (Nat.le_of_ble_eq_true rfl) (Nat.le_of_ble_eq_true rfl) rfl (by decide) (m_isTape_t hy) ?_
    rintro _ _ ⟨rfl, rfl⟩
    refine Wp.run 4 (21, [(0, .ref 66), (1, .int (nI t)), (2, .int (nI p)), (3, .int (nI o)), (4, .int (nI q)), (5, .int (nI c))], [.int (nI t), .ref 82], (zsh ++ vs, mi, l1, (zmr g))) rfl ?_
    refine Wp.ialn rfl (by decide) rfl (by omega) (by decide) ?_
    refine Wp.topi (y := nI s) (e4) ?_
    refine Wp.run 0 (22, [(0, .ref 66), (1, .int (nI t)), (2, .int (nI p)), (3, .int (nI o)), (4, .int (nI q)), (5, .int (nI c))], [.int (nI s)], (zsh ++ vs, mi, l1, (zmr g))) rfl ?_
    refine Wp.if_lt rfl (fun h51 => ?_) (fun h51 => ?_)
    · exact absurd h51 (nI_pos (by omega))
    · refine Wp.run 3 (30, [(0, .ref 66), (1, .int (nI t)), (2, .int (nI p)), (3, .int (nI o)), (4, .int (nI q)), (5, .int (nI c))], [.int (nI o), .ref 82], (zsh ++ vs, mi, l1, (zmr g))) rfl ?_
      refine Wp.ialn rfl (by decide) rfl (by omega) (by decide) ?_
      refine Wp.topi (y := nI u) (f4) ?_
      refine Wp.run 0 (31, [(0, .ref 66), (1, .int (nI t)), (2, .int (nI p)), (3, .int (nI o)), (4, .int (nI q)), (5, .int (nI c))], [.int (nI u)], (zsh ++ vs, mi, l1, (zmr g))) rfl ?_
      refine Wp.if_ge rfl (fun h52 => ?_) (fun h52 => ?_)
      · refine Wp.run 3 (42, [(0, .ref 66), (1, .int (nI t)), (2, .int (nI p)), (3, .int (nI o)), (4, .int (nI q)), (5, .int (nI c))], [.int (nI t), .ref 82], (zsh ++ vs, mi, l1, (zmr g))) rfl ?_
        refine Wp.ialn rfl (by decide) rfl (by omega) (by decide) ?_
        refine Wp.topi (y := nI s) (e4) ?_
        refine Wp.run 3 (48, [(0, .ref 66), (1, .int (nI t)), (2, .int (nI p)), (3, .int (nI o)), (4, .int (nI q)), (5, .int (nI c))], [.int (nI o), .ref 82, .int (nI s)], (zsh ++ vs, mi, l1, (zmr g))) rfl ?_
        refine Wp.ialn rfl (by decide) rfl (by omega) (by decide) ?_
        refine Wp.topi (y := nI u) (f4) ?_
        refine Wp.run 0 (49, [(0, .ref 66), (1, .int (nI t)), (2, .int (nI p)), (3, .int (nI o)), (4, .int (nI q)), (5, .int (nI c))], [.int (nI u), .int (nI s)], (zsh ++ vs, mi, l1, (zmr g))) rfl ?_
        refine Wp.icmp_eq rfl (fun h53 => ?_) (fun h53 => ?_)
        · refine Wp.run 1 (57, [(0, .ref 66), (1, .int (nI t)), (2, .int (nI p)), (3, .int (nI o)), (4, .int (nI q)), (5, .int (nI c))], [.int (nI c)], (zsh ++ vs, mi, l1, (zmr g))) rfl ?_
          refine Wp.if_lt rfl (fun h54 => ?_) (fun h54 => ?_)
          · exact absurd h54 (nI_pos (by omega))
          · refine Wp.run 1 (61, [(0, .ref 66), (1, .int (nI t)), (2, .int (nI p)), (3, .int (nI o)), (4, .int (nI q)), (5, .int (nI c))], [.int (nI p)], (zsh ++ vs, mi, l1, (zmr g))) rfl ?_
            refine Wp.if_lt rfl (fun h55 => ?_) (fun h55 => ?_)
            · exact absurd h55 (nI_pos (by omega))
            · refine Wp.run 1 (66, [(0, .ref 66), (1, .int (nI t)), (2, .int (nI p)), (3, .int (nI o)), (4, .int (nI q)), (5, .int (nI c))], [.int (nI q)], (zsh ++ vs, mi, l1, (zmr g))) rfl ?_
              refine Wp.if_lt rfl (fun h56 => ?_) (fun h56 => ?_)
              · exact absurd h56 (nI_pos (by omega))
              · refine Wp.run 4 (76, [(0, .ref 66), (1, .int (nI t)), (2, .int (nI p)), (3, .int (nI o)), (4, .int (nI q)), (5, .int (nI c))], [.int (nI t), .ref 83, .int (nI c)], (zsh ++ vs, mi, l1, (zmr g))) rfl ?_
                refine Wp.ialn rfl (by decide) rfl (by omega) (by decide) ?_
                refine Wp.topi (y := nI l) (e2) ?_
                refine Wp.run 2 (79, [(0, .ref 66), (1, .int (nI t)), (2, .int (nI p)), (3, .int (nI o)), (4, .int (nI q)), (5, .int (nI c))], [.int ((nI l) - (nI p)), .int (nI c)], (zsh ++ vs, mi, l1, (zmr g))) rfl ?_
                refine Wp.icmp_gt rfl (fun h57 => ?_) (fun h57 => ?_)
                · exact absurd h57 (Int32.not_lt.mpr sp1.2.2)
                · refine Wp.run 4 (89, [(0, .ref 66), (1, .int (nI t)), (2, .int (nI p)), (3, .int (nI o)), (4, .int (nI q)), (5, .int (nI c))], [.int (nI o), .ref 83, .int (nI c)], (zsh ++ vs, mi, l1, (zmr g))) rfl ?_
                  refine Wp.ialn rfl (by decide) rfl (by omega) (by decide) ?_
                  refine Wp.topi (y := nI k) (f2) ?_
                  refine Wp.run 2 (93, [(0, .ref 66), (1, .int (nI t)), (2, .int (nI p)), (3, .int (nI o)), (4, .int (nI q)), (5, .int (nI c))], [.int ((nI k) - (nI q)), .int (nI c)], (zsh ++ vs, mi, l1, (zmr g))) rfl ?_
                  refine Wp.icmp_le rfl (fun h58 => ?_) (fun h58 => ?_)
                  · refine Wp.run 2 (102, [(6, .int 0), (0, .ref 66), (1, .int (nI t)), (2, .int (nI p)), (3, .int (nI o)), (4, .int (nI q)), (5, .int (nI c))], [], (zsh ++ vs, mi, l1, (zmr g))) rfl ?_
                    refine Wp.sub (a := [(0, .ref 66), (1, .int (nI t)), (2, .int (nI p)), (3, .int (nI o)), (4, .int (nI q)), (5, .int (nI c)), (6, .int (nI 0))]) (zle_cons rfl (zle_cons rfl (zle_cons rfl (zle_cons rfl (zle_cons rfl (zle_cons rfl (zle_cons rfl (zle_nil)))))))) ?_
                    refine ((m_sh1 (ml := l1) ht ho (by omega) (by omega) c 0 l1 (by omega) (fun _ _ => rfl) (fun r hr => absurd hr (Nat.not_lt_zero r))).deep (by decide)).weak ?_
                    rintro _ _ ⟨rfl, l2, rfl, k1, k2, k3⟩
                    have z84 : l1 84 = ml 84 := by rw [hl1, zrow_ne (by omega)]
                    refine ⟨rfl, (I.tp (fun _ _ _ _ => rfl) (I.2.2.2.2.2.2.1.up ho (fun w hw hwo => ⟨rfl, rfl, rfl, ?_, fun r hr => ?_⟩) ⟨k, hk, f1, f2, f3, Or.inr ⟨u, hu, f4⟩, fun r hr => ?_⟩)).x⟩
                    · rw [k1 _ (by omega) (by omega), hl1, zrow_ne (by omega)]
                    · rw [k2 _ (by omega), z84]
                    · rw [k1 _ (by omega) (by omega), hl1, zrow_eq]
                      by_cases hr2 : q ≤ r ∧ r < q + c
                      · obtain ⟨d, rfl⟩ : ∃ d, r = q + d := ⟨r - q, by omega⟩
                        rw [pk_cpy_in hr2.1 hr2.2, show 60 * o + (q + d) = 60 * o + q + d by omega, k3 d (by omega), z84, e5 _ (by omega)]
                        exact congrArg (ml 84) (by omega)
                      · rw [pk_cpy_out (by omega), k2 _ (by omega), z84]
                        exact f5 r hr
                  · exact absurd sp2.2.2 h58
        · exact absurd hsu h53
      · exact absurd (nI_pos' (by omega)) h52
