/-! THE CALLS: see, plan, book, feed -/
theorem ix_23 (k a b : Nat) : nI k + nI a * nI b = nI (k + a * b) := by rw [pk_mul, nI_add]
theorem c_addSeen {E : zEn} {vs : List (Nat × Nat)} {mi : Nat → Nat → Int32} {ml : Nat → Nat → Int64} {g : Nat → Nat → Option Nat} {s t u : Int32} {c : Nat} (hc : mi 21 0 = nI c) (hM : c < 5) : Wp E 0 pg_Hand_addSeen 0 (lv_args 0 [.ref 21, .int s, .int t, .int u]) [] (zsh ++ vs, mi, ml, (zmr g)) (fun r w' => r = some (.int (nI (c + 1))) ∧ w' = (zsh ++ vs, (zup (zup (zup (zup mi 22 c s) 23 c t) 24 c u) 21 0 (nI (c + 1))), ml, zmr g)) := by
  refine Wp.run 2 (4, [(0, .ref 21), (1, .int s), (2, .int t), (3, .int u)], [.int (mi 21 0)], (zsh ++ vs, mi, ml, (zmr g))) rfl ?_
  refine Wp.topi (y := nI c) (hc) ?_
  refine Wp.run 1 (5, [(0, .ref 21), (1, .int s), (2, .int t), (3, .int u)], [.int 5, .int (nI c)], (zsh ++ vs, mi, ml, (zmr g))) rfl ?_
  refine Wp.icmp_lt rfl (fun h1 => ?_) (fun h1 => ?_)
  · refine Wp.run 4 (19, [(0, .ref 21), (1, .int s), (2, .int t), (3, .int u)], [.int (mi 21 0), .ref 22], (zsh ++ vs, mi, ml, (zmr g))) rfl ?_
    refine Wp.topi (y := nI c) (hc) ?_
    refine Wp.run 1 (20, [(0, .ref 21), (1, .int s), (2, .int t), (3, .int u)], [.int s, .int (nI c), .ref 22], (zsh ++ vs, mi, ml, (zmr g))) rfl ?_
    refine Wp.iasn rfl (by decide) rfl (by omega) (by decide) ?_
    refine Wp.run 4 (29, [(0, .ref 21), (1, .int s), (2, .int t), (3, .int u)], [.int (mi 21 0), .ref 23], (zsh ++ vs, (zup mi 22 c s), ml, (zmr g))) rfl ?_
    refine Wp.topi (y := nI c) (hc) ?_
    refine Wp.run 1 (30, [(0, .ref 21), (1, .int s), (2, .int t), (3, .int u)], [.int t, .int (nI c), .ref 23], (zsh ++ vs, (zup mi 22 c s), ml, (zmr g))) rfl ?_
    refine Wp.iasn rfl (by decide) rfl (by omega) (by decide) ?_
    refine Wp.run 4 (39, [(0, .ref 21), (1, .int s), (2, .int t), (3, .int u)], [.int (mi 21 0), .ref 24], (zsh ++ vs, (zup (zup mi 22 c s) 23 c t), ml, (zmr g))) rfl ?_
    refine Wp.topi (y := nI c) (hc) ?_
    refine Wp.run 1 (40, [(0, .ref 21), (1, .int s), (2, .int t), (3, .int u)], [.int u, .int (nI c), .ref 24], (zsh ++ vs, (zup (zup mi 22 c s) 23 c t), ml, (zmr g))) rfl ?_
    refine Wp.iasn rfl (by decide) rfl (by omega) (by decide) ?_
    refine Wp.run 3 (46, [(0, .ref 21), (1, .int s), (2, .int t), (3, .int u)], [.int (mi 21 0), .ref 21], (zsh ++ vs, (zup (zup (zup mi 22 c s) 23 c t) 24 c u), ml, (zmr g))) rfl ?_
    refine Wp.topi (y := nI c) (hc) ?_
    refine Wp.run 2 (48, [(0, .ref 21), (1, .int s), (2, .int t), (3, .int u)], [.int ((nI c) + 1), .ref 21], (zsh ++ vs, (zup (zup (zup mi 22 c s) 23 c t) 24 c u), ml, (zmr g))) rfl ?_
    refine Wp.topi (y := nI (c + 1)) (nI_1 c) ?_
    refine Wp.run 2 (52, [(0, .ref 21), (1, .int s), (2, .int t), (3, .int u)], [.int (nI (c + 1))], (zsh ++ vs, (zup (zup (zup (zup mi 22 c s) 23 c t) 24 c u) 21 0 (nI (c + 1))), ml, (zmr g))) rfl ?_
    refine Wp.ret rfl rfl rfl ?_
    exact ⟨rfl, rfl⟩
  · exact absurd (nI_lt (b := 5) hM (by decide)) h1
theorem c_addSeen_f {E : zEn} {vs : List (Nat × Nat)} {mi : Nat → Nat → Int32} {ml : Nat → Nat → Int64} {g : Nat → Nat → Option Nat} {s t u : Int32} (hc : mi 21 0 = nI 5) : Wp E 0 pg_Hand_addSeen 0 (lv_args 0 [.ref 21, .int s, .int t, .int u]) [] (zsh ++ vs, mi, ml, (zmr g)) (fun r w' => r = some (.int (-4)) ∧ w' = (zsh ++ vs, mi, ml, zmr g)) := by
  refine Wp.run 2 (4, [(0, .ref 21), (1, .int s), (2, .int t), (3, .int u)], [.int (mi 21 0)], (zsh ++ vs, mi, ml, (zmr g))) rfl ?_
  refine Wp.topi (y := 5) (hc) ?_
  refine Wp.run 3 (10, [(0, .ref 21), (1, .int s), (2, .int t), (3, .int u)], [.int (-4)], (zsh ++ vs, mi, ml, (zmr g))) rfl ?_
  refine Wp.ret rfl rfl rfl ?_
  exact ⟨rfl, rfl⟩
theorem c_addPlan {E : zEn} {vs : List (Nat × Nat)} {mi : Nat → Nat → Int32} {ml : Nat → Nat → Int64} {g : Nat → Nat → Option Nat} {s t : Int32} {c : Nat} (hc : mi 21 1 = nI c) (hM : c < 10) : Wp E 0 pg_Hand_addPlan 0 (lv_args 0 [.ref 21, .int s, .int t]) [] (zsh ++ vs, mi, ml, (zmr g)) (fun r w' => r = some (.int (nI (c + 1))) ∧ w' = (zsh ++ vs, (zup (zup (zup mi 25 c s) 26 c t) 21 1 (nI (c + 1))), ml, zmr g)) := by
  refine Wp.run 2 (4, [(0, .ref 21), (1, .int s), (2, .int t)], [.int (mi 21 1)], (zsh ++ vs, mi, ml, (zmr g))) rfl ?_
  refine Wp.topi (y := nI c) (hc) ?_
  refine Wp.run 1 (6, [(0, .ref 21), (1, .int s), (2, .int t)], [.int 10, .int (nI c)], (zsh ++ vs, mi, ml, (zmr g))) rfl ?_
  refine Wp.icmp_lt rfl (fun h1 => ?_) (fun h1 => ?_)
  · refine Wp.run 4 (20, [(0, .ref 21), (1, .int s), (2, .int t)], [.int (mi 21 1), .ref 25], (zsh ++ vs, mi, ml, (zmr g))) rfl ?_
    refine Wp.topi (y := nI c) (hc) ?_
    refine Wp.run 1 (21, [(0, .ref 21), (1, .int s), (2, .int t)], [.int s, .int (nI c), .ref 25], (zsh ++ vs, mi, ml, (zmr g))) rfl ?_
    refine Wp.iasn rfl (by decide) rfl (by omega) (by decide) ?_
    refine Wp.run 4 (30, [(0, .ref 21), (1, .int s), (2, .int t)], [.int (mi 21 1), .ref 26], (zsh ++ vs, (zup mi 25 c s), ml, (zmr g))) rfl ?_
    refine Wp.topi (y := nI c) (hc) ?_
    refine Wp.run 1 (31, [(0, .ref 21), (1, .int s), (2, .int t)], [.int t, .int (nI c), .ref 26], (zsh ++ vs, (zup mi 25 c s), ml, (zmr g))) rfl ?_
    refine Wp.iasn rfl (by decide) rfl (by omega) (by decide) ?_
    refine Wp.run 3 (37, [(0, .ref 21), (1, .int s), (2, .int t)], [.int (mi 21 1), .ref 21], (zsh ++ vs, (zup (zup mi 25 c s) 26 c t), ml, (zmr g))) rfl ?_
    refine Wp.topi (y := nI c) (hc) ?_
    refine Wp.run 2 (39, [(0, .ref 21), (1, .int s), (2, .int t)], [.int ((nI c) + 1), .ref 21], (zsh ++ vs, (zup (zup mi 25 c s) 26 c t), ml, (zmr g))) rfl ?_
    refine Wp.topi (y := nI (c + 1)) (nI_1 c) ?_
    refine Wp.run 2 (43, [(0, .ref 21), (1, .int s), (2, .int t)], [.int (nI (c + 1))], (zsh ++ vs, (zup (zup (zup mi 25 c s) 26 c t) 21 1 (nI (c + 1))), ml, (zmr g))) rfl ?_
    refine Wp.ret rfl rfl rfl ?_
    exact ⟨rfl, rfl⟩
  · exact absurd (nI_lt (b := 10) hM (by decide)) h1
theorem c_addPlan_f {E : zEn} {vs : List (Nat × Nat)} {mi : Nat → Nat → Int32} {ml : Nat → Nat → Int64} {g : Nat → Nat → Option Nat} {s t : Int32} (hc : mi 21 1 = nI 10) : Wp E 0 pg_Hand_addPlan 0 (lv_args 0 [.ref 21, .int s, .int t]) [] (zsh ++ vs, mi, ml, (zmr g)) (fun r w' => r = some (.int (-4)) ∧ w' = (zsh ++ vs, mi, ml, zmr g)) := by
  refine Wp.run 2 (4, [(0, .ref 21), (1, .int s), (2, .int t)], [.int (mi 21 1)], (zsh ++ vs, mi, ml, (zmr g))) rfl ?_
  refine Wp.topi (y := 10) (hc) ?_
  refine Wp.run 3 (11, [(0, .ref 21), (1, .int s), (2, .int t)], [.int (-4)], (zsh ++ vs, mi, ml, (zmr g))) rfl ?_
  refine Wp.ret rfl rfl rfl ?_
  exact ⟨rfl, rfl⟩
theorem c_addBook {E : zEn} {vs : List (Nat × Nat)} {mi : Nat → Nat → Int32} {ml : Nat → Nat → Int64} {g : Nat → Nat → Option Nat} {s t : Int32} {c : Nat} (hc : mi 21 2 = nI c) (hM : c < 8) : Wp E 0 pg_Hand_addBook 0 (lv_args 0 [.ref 21, .int s, .int t]) [] (zsh ++ vs, mi, ml, (zmr g)) (fun r w' => r = some (.int (nI (c + 1))) ∧ w' = (zsh ++ vs, (zup (zup (zup mi 27 c s) 28 c t) 21 2 (nI (c + 1))), ml, zmr g)) := by
  refine Wp.run 2 (4, [(0, .ref 21), (1, .int s), (2, .int t)], [.int (mi 21 2)], (zsh ++ vs, mi, ml, (zmr g))) rfl ?_
  refine Wp.topi (y := nI c) (hc) ?_
  refine Wp.run 1 (6, [(0, .ref 21), (1, .int s), (2, .int t)], [.int 8, .int (nI c)], (zsh ++ vs, mi, ml, (zmr g))) rfl ?_
  refine Wp.icmp_lt rfl (fun h1 => ?_) (fun h1 => ?_)
  · refine Wp.run 4 (20, [(0, .ref 21), (1, .int s), (2, .int t)], [.int (mi 21 2), .ref 27], (zsh ++ vs, mi, ml, (zmr g))) rfl ?_
    refine Wp.topi (y := nI c) (hc) ?_
    refine Wp.run 1 (21, [(0, .ref 21), (1, .int s), (2, .int t)], [.int s, .int (nI c), .ref 27], (zsh ++ vs, mi, ml, (zmr g))) rfl ?_
    refine Wp.iasn rfl (by decide) rfl (by omega) (by decide) ?_
    refine Wp.run 4 (30, [(0, .ref 21), (1, .int s), (2, .int t)], [.int (mi 21 2), .ref 28], (zsh ++ vs, (zup mi 27 c s), ml, (zmr g))) rfl ?_
    refine Wp.topi (y := nI c) (hc) ?_
    refine Wp.run 1 (31, [(0, .ref 21), (1, .int s), (2, .int t)], [.int t, .int (nI c), .ref 28], (zsh ++ vs, (zup mi 27 c s), ml, (zmr g))) rfl ?_
    refine Wp.iasn rfl (by decide) rfl (by omega) (by decide) ?_
    refine Wp.run 3 (37, [(0, .ref 21), (1, .int s), (2, .int t)], [.int (mi 21 2), .ref 21], (zsh ++ vs, (zup (zup mi 27 c s) 28 c t), ml, (zmr g))) rfl ?_
    refine Wp.topi (y := nI c) (hc) ?_
    refine Wp.run 2 (39, [(0, .ref 21), (1, .int s), (2, .int t)], [.int ((nI c) + 1), .ref 21], (zsh ++ vs, (zup (zup mi 27 c s) 28 c t), ml, (zmr g))) rfl ?_
    refine Wp.topi (y := nI (c + 1)) (nI_1 c) ?_
    refine Wp.run 2 (43, [(0, .ref 21), (1, .int s), (2, .int t)], [.int (nI (c + 1))], (zsh ++ vs, (zup (zup (zup mi 27 c s) 28 c t) 21 2 (nI (c + 1))), ml, (zmr g))) rfl ?_
    refine Wp.ret rfl rfl rfl ?_
    exact ⟨rfl, rfl⟩
  · exact absurd (nI_lt (b := 8) hM (by decide)) h1
theorem c_addBook_f {E : zEn} {vs : List (Nat × Nat)} {mi : Nat → Nat → Int32} {ml : Nat → Nat → Int64} {g : Nat → Nat → Option Nat} {s t : Int32} (hc : mi 21 2 = nI 8) : Wp E 0 pg_Hand_addBook 0 (lv_args 0 [.ref 21, .int s, .int t]) [] (zsh ++ vs, mi, ml, (zmr g)) (fun r w' => r = some (.int (-4)) ∧ w' = (zsh ++ vs, mi, ml, zmr g)) := by
  refine Wp.run 2 (4, [(0, .ref 21), (1, .int s), (2, .int t)], [.int (mi 21 2)], (zsh ++ vs, mi, ml, (zmr g))) rfl ?_
  refine Wp.topi (y := 8) (hc) ?_
  refine Wp.run 3 (11, [(0, .ref 21), (1, .int s), (2, .int t)], [.int (-4)], (zsh ++ vs, mi, ml, (zmr g))) rfl ?_
  refine Wp.ret rfl rfl rfl ?_
  exact ⟨rfl, rfl⟩
theorem sim_see {E : zEn} {nv : Nat} {VD : Nat → zV} {NL : Nat → Nat} {n dd : Nat} {vs : List (Nat × Nat)} {mi : Nat → Nat → Int32} {ml : Nat → Nat → Int64} {g : Nat → Nat → Option Nat} (I : INV nv VD NL n dd vs mi ml g) (x t u : Int32) : SIM E vs mi ml g pg_H_see pg_M_see [.int x, .int t, .int u] := by
  have B := I.1.1
  have h6 := B.1.2.1
  have hn := B.2.1
  have hN := B.1.1
  have hd := B.1.2.2.1
  have hdd := I.1.2
  by_cases hm1 : x = -1
  · subst hm1
    refine SIM.u (x := 0) (m1 := (zup mi 21 0 0)) (l1 := ml) (m2 := (zup (zup mi 21 0 0) 67 71 0)) (l2 := ml) (dc := 7) (dm := 27) (by decide) (by decide) ?_ ?_ ?_
    · refine Wp.run 8 (14, [(0, .ref 0), (1, .int (-1)), (2, .int t), (3, .int u)], [.int 0], (zsh ++ vs, (zup mi 21 0 0), ml, (zmr g))) rfl ?_
      refine Wp.ret rfl rfl rfl ?_
      exact ⟨rfl, rfl⟩
    · refine Wp.run 9 (14, [(0, .ref 66), (1, .int (-1)), (2, .int t), (3, .int u)], [.int 0], (zsh ++ vs, (zup (zup mi 21 0 0) 67 71 0), ml, (zmr g))) rfl ?_
      refine Wp.ret rfl rfl rfl ?_
      exact ⟨rfl, rfl⟩
    · exact I.see0.x
  by_cases hx : one n x
  rotate_left
  · refine SIM.q I (x := -1) (dc := 7) (dm := 27) (by decide) (by decide) ?_ ?_
    · refine Wp.run 2 (2, [(0, .ref 0), (1, .int x), (2, .int t), (3, .int u)], [.int (-1), .int x], (zsh ++ vs, mi, ml, (zmr g))) rfl ?_
      refine Wp.icmp_ne rfl (fun h1 => ?_) (fun h1 => ?_)
      · refine Wp.run 3 (20, [(0, .ref 0), (1, .int x), (2, .int t), (3, .int u)], [.int x, .ref 1], (zsh ++ vs, mi, ml, (zmr g))) rfl ?_
        refine Wp.call (as := [.ref 1, .int x]) (rest := []) rfl rfl rfl rfl rfl (Nat.le_of_ble_eq_true rfl) (Nat.le_of_ble_eq_true rfl) rfl (by decide) (c_has_f (mi := mi) hn h6 hx) ?_
        rintro _ _ ⟨rfl, rfl⟩
        refine Wp.run 2 (27, [(0, .ref 0), (1, .int x), (2, .int t), (3, .int u)], [.int (-1)], (zsh ++ vs, mi, ml, (zmr g))) rfl ?_
        refine Wp.ret rfl rfl rfl ?_
        exact ⟨rfl, _, _, rfl, SC.rf, fun _ _ _ => rfl⟩
      · exact absurd h1 hm1
    · intro m g' I' e67 S
      have B' := I'.1.1
      have hn' := B'.2.1
      have hN' := B'.1.1
      have hd' := B'.1.2.2.1
      refine Wp.run 2 (2, [(0, .ref 66), (1, .int x), (2, .int t), (3, .int u)], [.int (-1), .int x], (zsh ++ vs, m, ml, (zmr g'))) rfl ?_
      refine Wp.icmp_ne rfl (fun h51 => ?_) (fun h51 => ?_)
      · refine Wp.run 2 (17, [(0, .ref 66), (1, .int x), (2, .int t), (3, .int u)], [.int x, .ref 66], (zsh ++ vs, m, ml, (zmr g'))) rfl ?_
        refine Wp.call (as := [.ref 66, .int x]) (rest := []) rfl rfl rfl rfl rfl (Nat.le_of_ble_eq_true rfl) (Nat.le_of_ble_eq_true rfl) rfl (by decide) (m_isOne_f (mi := m) hN' h6 hx) ?_
        rintro _ _ ⟨rfl, rfl⟩
        refine Wp.run 2 (24, [(0, .ref 66), (1, .int x), (2, .int t), (3, .int u)], [.int (-1)], (zsh ++ vs, m, ml, (zmr g'))) rfl ?_
        refine Wp.ret rfl rfl rfl ?_
        exact ⟨rfl, _, rfl, SC.rf⟩
      · exact absurd h51 hm1
  have hx9 := hx
  obtain ⟨i, hi, rfl⟩ := hx
  by_cases ht : 0 ≤ t ∧ t ≤ 12
  rotate_left
  · refine SIM.q I (x := -2) (dc := 7) (dm := 27) (by decide) (by decide) ?_ ?_
    · refine Wp.run 2 (2, [(0, .ref 0), (1, .int (nI i)), (2, .int t), (3, .int u)], [.int (-1), .int (nI i)], (zsh ++ vs, mi, ml, (zmr g))) rfl ?_
      refine Wp.icmp_ne rfl (fun h1 => ?_) (fun h1 => ?_)
      · refine Wp.run 3 (20, [(0, .ref 0), (1, .int (nI i)), (2, .int t), (3, .int u)], [.int (nI i), .ref 1], (zsh ++ vs, mi, ml, (zmr g))) rfl ?_
        refine Wp.call (as := [.ref 1, .int (nI i)]) (rest := []) rfl rfl rfl rfl rfl (Nat.le_of_ble_eq_true rfl) (Nat.le_of_ble_eq_true rfl) rfl (by decide) (c_has_t (mi := mi) hn h6 hx9) ?_
        rintro _ _ ⟨rfl, rfl⟩
        refine Wp.run 3 (31, [(0, .ref 0), (1, .int (nI i)), (2, .int t), (3, .int u)], [.int 12, .int t], (zsh ++ vs, mi, ml, (zmr g))) rfl ?_
        refine Wp.call (as := [.int t, .int 12]) (rest := []) rfl rfl rfl rfl rfl (Nat.le_of_ble_eq_true rfl) (Nat.le_of_ble_eq_true rfl) rfl (by decide) (c_within_f ht) ?_
        rintro _ _ ⟨rfl, rfl⟩
        refine Wp.run 2 (48, [(0, .ref 0), (1, .int (nI i)), (2, .int t), (3, .int u)], [.int (-2)], (zsh ++ vs, mi, ml, (zmr g))) rfl ?_
        refine Wp.ret rfl rfl rfl ?_
        exact ⟨rfl, _, _, rfl, SC.rf, fun _ _ _ => rfl⟩
      · exact absurd h1 hm1
    · intro m g' I' e67 S
      have B' := I'.1.1
      have hn' := B'.2.1
      have hN' := B'.1.1
      have hd' := B'.1.2.2.1
      refine Wp.run 2 (2, [(0, .ref 66), (1, .int (nI i)), (2, .int t), (3, .int u)], [.int (-1), .int (nI i)], (zsh ++ vs, m, ml, (zmr g'))) rfl ?_
      refine Wp.icmp_ne rfl (fun h51 => ?_) (fun h51 => ?_)
      · refine Wp.run 2 (17, [(0, .ref 66), (1, .int (nI i)), (2, .int t), (3, .int u)], [.int (nI i), .ref 66], (zsh ++ vs, m, ml, (zmr g'))) rfl ?_
        refine Wp.call (as := [.ref 66, .int (nI i)]) (rest := []) rfl rfl rfl rfl rfl (Nat.le_of_ble_eq_true rfl) (Nat.le_of_ble_eq_true rfl) rfl (by decide) (m_isOne_t (mi := m) hN' h6 hx9) ?_
        rintro _ _ ⟨rfl, rfl⟩
        refine Wp.run 4 (29, [(0, .ref 66), (1, .int (nI i)), (2, .int t), (3, .int u)], [.int 12, .int 0, .int t], (zsh ++ vs, m, ml, (zmr g'))) rfl ?_
        refine Wp.call (as := [.int t, .int 0, .int 12]) (rest := []) rfl rfl rfl rfl rfl (Nat.le_of_ble_eq_true rfl) (Nat.le_of_ble_eq_true rfl) rfl (by decide) (m_isIn_f ht) ?_
        rintro _ _ ⟨rfl, rfl⟩
        refine Wp.run 2 (47, [(0, .ref 66), (1, .int (nI i)), (2, .int t), (3, .int u)], [.int (-2)], (zsh ++ vs, m, ml, (zmr g'))) rfl ?_
        refine Wp.ret rfl rfl rfl ?_
        exact ⟨rfl, _, rfl, SC.rf⟩
      · exact absurd h51 hm1
  by_cases hu : 0 ≤ u ∧ u ≤ 99
  rotate_left
  · refine SIM.q I (x := -2) (dc := 7) (dm := 27) (by decide) (by decide) ?_ ?_
    · refine Wp.run 2 (2, [(0, .ref 0), (1, .int (nI i)), (2, .int t), (3, .int u)], [.int (-1), .int (nI i)], (zsh ++ vs, mi, ml, (zmr g))) rfl ?_
      refine Wp.icmp_ne rfl (fun h1 => ?_) (fun h1 => ?_)
      · refine Wp.run 3 (20, [(0, .ref 0), (1, .int (nI i)), (2, .int t), (3, .int u)], [.int (nI i), .ref 1], (zsh ++ vs, mi, ml, (zmr g))) rfl ?_
        refine Wp.call (as := [.ref 1, .int (nI i)]) (rest := []) rfl rfl rfl rfl rfl (Nat.le_of_ble_eq_true rfl) (Nat.le_of_ble_eq_true rfl) rfl (by decide) (c_has_t (mi := mi) hn h6 hx9) ?_
        rintro _ _ ⟨rfl, rfl⟩
        refine Wp.run 3 (31, [(0, .ref 0), (1, .int (nI i)), (2, .int t), (3, .int u)], [.int 12, .int t], (zsh ++ vs, mi, ml, (zmr g))) rfl ?_
        refine Wp.call (as := [.int t, .int 12]) (rest := []) rfl rfl rfl rfl rfl (Nat.le_of_ble_eq_true rfl) (Nat.le_of_ble_eq_true rfl) rfl (by decide) (c_within_t ht) ?_
        rintro _ _ ⟨rfl, rfl⟩
        refine Wp.run 3 (40, [(0, .ref 0), (1, .int (nI i)), (2, .int t), (3, .int u)], [.int 99, .int u], (zsh ++ vs, mi, ml, (zmr g))) rfl ?_
        refine Wp.call (as := [.int u, .int 99]) (rest := []) rfl rfl rfl rfl rfl (Nat.le_of_ble_eq_true rfl) (Nat.le_of_ble_eq_true rfl) rfl (by decide) (c_within_f hu) ?_
        rintro _ _ ⟨rfl, rfl⟩
        refine Wp.run 2 (48, [(0, .ref 0), (1, .int (nI i)), (2, .int t), (3, .int u)], [.int (-2)], (zsh ++ vs, mi, ml, (zmr g))) rfl ?_
        refine Wp.ret rfl rfl rfl ?_
        exact ⟨rfl, _, _, rfl, SC.rf, fun _ _ _ => rfl⟩
      · exact absurd h1 hm1
    · intro m g' I' e67 S
      have B' := I'.1.1
      have hn' := B'.2.1
      have hN' := B'.1.1
      have hd' := B'.1.2.2.1
      refine Wp.run 2 (2, [(0, .ref 66), (1, .int (nI i)), (2, .int t), (3, .int u)], [.int (-1), .int (nI i)], (zsh ++ vs, m, ml, (zmr g'))) rfl ?_
      refine Wp.icmp_ne rfl (fun h51 => ?_) (fun h51 => ?_)
      · refine Wp.run 2 (17, [(0, .ref 66), (1, .int (nI i)), (2, .int t), (3, .int u)], [.int (nI i), .ref 66], (zsh ++ vs, m, ml, (zmr g'))) rfl ?_
        refine Wp.call (as := [.ref 66, .int (nI i)]) (rest := []) rfl rfl rfl rfl rfl (Nat.le_of_ble_eq_true rfl) (Nat.le_of_ble_eq_true rfl) rfl (by decide) (m_isOne_t (mi := m) hN' h6 hx9) ?_
        rintro _ _ ⟨rfl, rfl⟩
        refine Wp.run 4 (29, [(0, .ref 66), (1, .int (nI i)), (2, .int t), (3, .int u)], [.int 12, .int 0, .int t], (zsh ++ vs, m, ml, (zmr g'))) rfl ?_
        refine Wp.call (as := [.int t, .int 0, .int 12]) (rest := []) rfl rfl rfl rfl rfl (Nat.le_of_ble_eq_true rfl) (Nat.le_of_ble_eq_true rfl) rfl (by decide) (m_isIn_t ht) ?_
        rintro _ _ ⟨rfl, rfl⟩
        refine Wp.run 4 (39, [(0, .ref 66), (1, .int (nI i)), (2, .int t), (3, .int u)], [.int 99, .int 0, .int u], (zsh ++ vs, m, ml, (zmr g'))) rfl ?_
        refine Wp.call (as := [.int u, .int 0, .int 99]) (rest := []) rfl rfl rfl rfl rfl (Nat.le_of_ble_eq_true rfl) (Nat.le_of_ble_eq_true rfl) rfl (by decide) (m_isIn_f hu) ?_
        rintro _ _ ⟨rfl, rfl⟩
        refine Wp.run 2 (47, [(0, .ref 66), (1, .int (nI i)), (2, .int t), (3, .int u)], [.int (-2)], (zsh ++ vs, m, ml, (zmr g'))) rfl ?_
        refine Wp.ret rfl rfl rfl ?_
        exact ⟨rfl, _, rfl, SC.rf⟩
      · exact absurd h51 hm1
  obtain ⟨q, hq, rfl⟩ := rng_of (h := 12) rfl ht
  obtain ⟨s, hs, rfl⟩ := rng_of (h := 99) rfl hu
  obtain ⟨c, hc5, hc1, hc2, -⟩ := I.2.1.1
  by_cases h5 : c = 5
  · subst h5
    refine SIM.q I (x := -4) (dc := 7) (dm := 27) (by decide) (by decide) ?_ ?_
    · refine Wp.run 2 (2, [(0, .ref 0), (1, .int (nI i)), (2, .int (nI q)), (3, .int (nI s))], [.int (-1), .int (nI i)], (zsh ++ vs, mi, ml, (zmr g))) rfl ?_
      refine Wp.icmp_ne rfl (fun h1 => ?_) (fun h1 => ?_)
      · refine Wp.run 3 (20, [(0, .ref 0), (1, .int (nI i)), (2, .int (nI q)), (3, .int (nI s))], [.int (nI i), .ref 1], (zsh ++ vs, mi, ml, (zmr g))) rfl ?_
        refine Wp.call (as := [.ref 1, .int (nI i)]) (rest := []) rfl rfl rfl rfl rfl (Nat.le_of_ble_eq_true rfl) (Nat.le_of_ble_eq_true rfl) rfl (by decide) (c_has_t (mi := mi) hn h6 hx9) ?_
        rintro _ _ ⟨rfl, rfl⟩
        refine Wp.run 3 (31, [(0, .ref 0), (1, .int (nI i)), (2, .int (nI q)), (3, .int (nI s))], [.int 12, .int (nI q)], (zsh ++ vs, mi, ml, (zmr g))) rfl ?_
        refine Wp.call (as := [.int (nI q), .int 12]) (rest := []) rfl rfl rfl rfl rfl (Nat.le_of_ble_eq_true rfl) (Nat.le_of_ble_eq_true rfl) rfl (by decide) (c_within_t ht) ?_
        rintro _ _ ⟨rfl, rfl⟩
        refine Wp.run 3 (40, [(0, .ref 0), (1, .int (nI i)), (2, .int (nI q)), (3, .int (nI s))], [.int 99, .int (nI s)], (zsh ++ vs, mi, ml, (zmr g))) rfl ?_
        refine Wp.call (as := [.int (nI s), .int 99]) (rest := []) rfl rfl rfl rfl rfl (Nat.le_of_ble_eq_true rfl) (Nat.le_of_ble_eq_true rfl) rfl (by decide) (c_within_t hu) ?_
        rintro _ _ ⟨rfl, rfl⟩
        refine Wp.run 6 (56, [(0, .ref 0), (1, .int (nI i)), (2, .int (nI q)), (3, .int (nI s))], [.int (nI s), .int (nI q), .int (nI i), .ref 21], (zsh ++ vs, mi, ml, (zmr g))) rfl ?_
        refine Wp.call (as := [.ref 21, .int (nI i), .int (nI q), .int (nI s)]) (rest := []) rfl rfl rfl rfl rfl (Nat.le_of_ble_eq_true rfl) (Nat.le_of_ble_eq_true rfl) rfl (by decide) (c_addSeen_f hc1) ?_
        rintro _ _ ⟨rfl, rfl⟩
        refine Wp.run 0 (59, [(0, .ref 0), (1, .int (nI i)), (2, .int (nI q)), (3, .int (nI s))], [.int (-4)], (zsh ++ vs, mi, ml, (zmr g))) rfl ?_
        refine Wp.ret rfl rfl rfl ?_
        exact ⟨rfl, _, _, rfl, SC.rf, fun _ _ _ => rfl⟩
      · exact absurd h1 hm1
    · intro m g' I' e67 S
      have B' := I'.1.1
      have hn' := B'.2.1
      have hN' := B'.1.1
      have hd' := B'.1.2.2.1
      refine Wp.run 2 (2, [(0, .ref 66), (1, .int (nI i)), (2, .int (nI q)), (3, .int (nI s))], [.int (-1), .int (nI i)], (zsh ++ vs, m, ml, (zmr g'))) rfl ?_
      refine Wp.icmp_ne rfl (fun h51 => ?_) (fun h51 => ?_)
      · refine Wp.run 2 (17, [(0, .ref 66), (1, .int (nI i)), (2, .int (nI q)), (3, .int (nI s))], [.int (nI i), .ref 66], (zsh ++ vs, m, ml, (zmr g'))) rfl ?_
        refine Wp.call (as := [.ref 66, .int (nI i)]) (rest := []) rfl rfl rfl rfl rfl (Nat.le_of_ble_eq_true rfl) (Nat.le_of_ble_eq_true rfl) rfl (by decide) (m_isOne_t (mi := m) hN' h6 hx9) ?_
        rintro _ _ ⟨rfl, rfl⟩
        refine Wp.run 4 (29, [(0, .ref 66), (1, .int (nI i)), (2, .int (nI q)), (3, .int (nI s))], [.int 12, .int 0, .int (nI q)], (zsh ++ vs, m, ml, (zmr g'))) rfl ?_
        refine Wp.call (as := [.int (nI q), .int 0, .int 12]) (rest := []) rfl rfl rfl rfl rfl (Nat.le_of_ble_eq_true rfl) (Nat.le_of_ble_eq_true rfl) rfl (by decide) (m_isIn_t ht) ?_
        rintro _ _ ⟨rfl, rfl⟩
        refine Wp.run 4 (39, [(0, .ref 66), (1, .int (nI i)), (2, .int (nI q)), (3, .int (nI s))], [.int 99, .int 0, .int (nI s)], (zsh ++ vs, m, ml, (zmr g'))) rfl ?_
        refine Wp.call (as := [.int (nI s), .int 0, .int 99]) (rest := []) rfl rfl rfl rfl rfl (Nat.le_of_ble_eq_true rfl) (Nat.le_of_ble_eq_true rfl) rfl (by decide) (m_isIn_t hu) ?_
        rintro _ _ ⟨rfl, rfl⟩
        refine Wp.run 5 (55, [(0, .ref 66), (1, .int (nI i)), (2, .int (nI q)), (3, .int (nI s))], [.int (m 67 71)], (zsh ++ vs, m, ml, (zmr g'))) rfl ?_
        refine Wp.topi (y := 5) ((congrFun e67 71).trans hc2) ?_
        refine Wp.run 3 (61, [(0, .ref 66), (1, .int (nI i)), (2, .int (nI q)), (3, .int (nI s))], [.int (-4)], (zsh ++ vs, m, ml, (zmr g'))) rfl ?_
        refine Wp.ret rfl rfl rfl ?_
        exact ⟨rfl, _, rfl, SC.rf⟩
      · exact absurd h51 hm1
  have hcM : c < 5 := by omega
  refine SIM.u (x := nI (c + 1)) (m1 := (zup (zup (zup (zup mi 22 c (nI i)) 23 c (nI q)) 24 c (nI s)) 21 0 (nI (c + 1)))) (l1 := ml) (m2 := (zup (zup (zup (zup (zup (zup (zup (zup mi 22 c (nI i)) 23 c (nI q)) 24 c (nI s)) 21 0 (nI (c + 1))) 67 (72 + 3 * c) (nI i)) 67 (73 + 3 * c) (nI q)) 67 (74 + 3 * c) (nI s)) 67 71 (nI (c + 1)))) (l2 := ml) (dc := 7) (dm := 27) (by decide) (by decide) ?_ ?_ ?_
  · refine Wp.run 2 (2, [(0, .ref 0), (1, .int (nI i)), (2, .int (nI q)), (3, .int (nI s))], [.int (-1), .int (nI i)], (zsh ++ vs, mi, ml, (zmr g))) rfl ?_
    refine Wp.icmp_ne rfl (fun h1 => ?_) (fun h1 => ?_)
    · refine Wp.run 3 (20, [(0, .ref 0), (1, .int (nI i)), (2, .int (nI q)), (3, .int (nI s))], [.int (nI i), .ref 1], (zsh ++ vs, mi, ml, (zmr g))) rfl ?_
      refine Wp.call (as := [.ref 1, .int (nI i)]) (rest := []) rfl rfl rfl rfl rfl (Nat.le_of_ble_eq_true rfl) (Nat.le_of_ble_eq_true rfl) rfl (by decide) (c_has_t (mi := mi) hn h6 hx9) ?_
      rintro _ _ ⟨rfl, rfl⟩
      refine Wp.run 3 (31, [(0, .ref 0), (1, .int (nI i)), (2, .int (nI q)), (3, .int (nI s))], [.int 12, .int (nI q)], (zsh ++ vs, mi, ml, (zmr g))) rfl ?_
      refine Wp.call (as := [.int (nI q), .int 12]) (rest := []) rfl rfl rfl rfl rfl (Nat.le_of_ble_eq_true rfl) (Nat.le_of_ble_eq_true rfl) rfl (by decide) (c_within_t ht) ?_
      rintro _ _ ⟨rfl, rfl⟩
      refine Wp.run 3 (40, [(0, .ref 0), (1, .int (nI i)), (2, .int (nI q)), (3, .int (nI s))], [.int 99, .int (nI s)], (zsh ++ vs, mi, ml, (zmr g))) rfl ?_
      refine Wp.call (as := [.int (nI s), .int 99]) (rest := []) rfl rfl rfl rfl rfl (Nat.le_of_ble_eq_true rfl) (Nat.le_of_ble_eq_true rfl) rfl (by decide) (c_within_t hu) ?_
      rintro _ _ ⟨rfl, rfl⟩
      refine Wp.run 6 (56, [(0, .ref 0), (1, .int (nI i)), (2, .int (nI q)), (3, .int (nI s))], [.int (nI s), .int (nI q), .int (nI i), .ref 21], (zsh ++ vs, mi, ml, (zmr g))) rfl ?_
      refine Wp.call (as := [.ref 21, .int (nI i), .int (nI q), .int (nI s)]) (rest := []) rfl rfl rfl rfl rfl (Nat.le_of_ble_eq_true rfl) (Nat.le_of_ble_eq_true rfl) rfl (by decide) (c_addSeen hc1 hcM) ?_
      rintro _ _ ⟨rfl, rfl⟩
      refine Wp.run 0 (59, [(0, .ref 0), (1, .int (nI i)), (2, .int (nI q)), (3, .int (nI s))], [.int (nI (c + 1))], (zsh ++ vs, (zup (zup (zup (zup mi 22 c (nI i)) 23 c (nI q)) 24 c (nI s)) 21 0 (nI (c + 1))), ml, (zmr g))) rfl ?_
      refine Wp.ret rfl rfl rfl ?_
      exact ⟨rfl, rfl⟩
    · exact absurd h1 hm1
  · refine Wp.run 2 (2, [(0, .ref 66), (1, .int (nI i)), (2, .int (nI q)), (3, .int (nI s))], [.int (-1), .int (nI i)], (zsh ++ vs, (zup (zup (zup (zup mi 22 c (nI i)) 23 c (nI q)) 24 c (nI s)) 21 0 (nI (c + 1))), ml, (zmr g))) rfl ?_
    refine Wp.icmp_ne rfl (fun h51 => ?_) (fun h51 => ?_)
    · refine Wp.run 2 (17, [(0, .ref 66), (1, .int (nI i)), (2, .int (nI q)), (3, .int (nI s))], [.int (nI i), .ref 66], (zsh ++ vs, (zup (zup (zup (zup mi 22 c (nI i)) 23 c (nI q)) 24 c (nI s)) 21 0 (nI (c + 1))), ml, (zmr g))) rfl ?_
      refine Wp.call (as := [.ref 66, .int (nI i)]) (rest := []) rfl rfl rfl rfl rfl (Nat.le_of_ble_eq_true rfl) (Nat.le_of_ble_eq_true rfl) rfl (by decide) (m_isOne_t (mi := (zup (zup (zup (zup mi 22 c (nI i)) 23 c (nI q)) 24 c (nI s)) 21 0 (nI (c + 1)))) hN h6 hx9) ?_
      rintro _ _ ⟨rfl, rfl⟩
      refine Wp.run 4 (29, [(0, .ref 66), (1, .int (nI i)), (2, .int (nI q)), (3, .int (nI s))], [.int 12, .int 0, .int (nI q)], (zsh ++ vs, (zup (zup (zup (zup mi 22 c (nI i)) 23 c (nI q)) 24 c (nI s)) 21 0 (nI (c + 1))), ml, (zmr g))) rfl ?_
      refine Wp.call (as := [.int (nI q), .int 0, .int 12]) (rest := []) rfl rfl rfl rfl rfl (Nat.le_of_ble_eq_true rfl) (Nat.le_of_ble_eq_true rfl) rfl (by decide) (m_isIn_t ht) ?_
      rintro _ _ ⟨rfl, rfl⟩
      refine Wp.run 4 (39, [(0, .ref 66), (1, .int (nI i)), (2, .int (nI q)), (3, .int (nI s))], [.int 99, .int 0, .int (nI s)], (zsh ++ vs, (zup (zup (zup (zup mi 22 c (nI i)) 23 c (nI q)) 24 c (nI s)) 21 0 (nI (c + 1))), ml, (zmr g))) rfl ?_
      refine Wp.call (as := [.int (nI s), .int 0, .int 99]) (rest := []) rfl rfl rfl rfl rfl (Nat.le_of_ble_eq_true rfl) (Nat.le_of_ble_eq_true rfl) rfl (by decide) (m_isIn_t hu) ?_
      rintro _ _ ⟨rfl, rfl⟩
      refine Wp.run 5 (55, [(0, .ref 66), (1, .int (nI i)), (2, .int (nI q)), (3, .int (nI s))], [.int (mi 67 71)], (zsh ++ vs, (zup (zup (zup (zup mi 22 c (nI i)) 23 c (nI q)) 24 c (nI s)) 21 0 (nI (c + 1))), ml, (zmr g))) rfl ?_
      refine Wp.topi (y := nI c) (hc2) ?_
      refine Wp.run 1 (56, [(0, .ref 66), (1, .int (nI i)), (2, .int (nI q)), (3, .int (nI s))], [.int 5, .int (nI c)], (zsh ++ vs, (zup (zup (zup (zup mi 22 c (nI i)) 23 c (nI q)) 24 c (nI s)) 21 0 (nI (c + 1))), ml, (zmr g))) rfl ?_
      refine Wp.icmp_ne rfl (fun h52 => ?_) (fun h52 => ?_)
      · refine Wp.run 6 (72, [(0, .ref 66), (1, .int (nI i)), (2, .int (nI q)), (3, .int (nI s))], [.int (mi 67 71), .int 3, .int 72], (zsh ++ vs, (zup (zup (zup (zup mi 22 c (nI i)) 23 c (nI q)) 24 c (nI s)) 21 0 (nI (c + 1))), ml, (zmr g))) rfl ?_
        refine Wp.topi (y := nI c) (hc2) ?_
        refine Wp.run 2 (74, [(0, .ref 66), (1, .int (nI i)), (2, .int (nI q)), (3, .int (nI s))], [.int (72 + (3 * (nI c)))], (zsh ++ vs, (zup (zup (zup (zup mi 22 c (nI i)) 23 c (nI q)) 24 c (nI s)) 21 0 (nI (c + 1))), ml, (zmr g))) rfl ?_
        refine Wp.topi (y := nI (72 + 3 * c)) (ix_23 72 3 c) ?_
        refine Wp.run 5 (83, [(4, .int (nI (72 + 3 * c))), (0, .ref 66), (1, .int (nI i)), (2, .int (nI q)), (3, .int (nI s))], [.int (nI i), .int (nI (72 + 3 * c)), .ref 67], (zsh ++ vs, (zup (zup (zup (zup mi 22 c (nI i)) 23 c (nI q)) 24 c (nI s)) 21 0 (nI (c + 1))), ml, (zmr g))) rfl ?_
        refine Wp.iasn rfl (by decide) rfl (by omega) (by decide) ?_
        refine Wp.run 5 (92, [(4, .int (nI (72 + 3 * c))), (0, .ref 66), (1, .int (nI i)), (2, .int (nI q)), (3, .int (nI s))], [.int ((nI (72 + 3 * c)) + 1), .ref 67], (zsh ++ vs, (zup (zup (zup (zup (zup mi 22 c (nI i)) 23 c (nI q)) 24 c (nI s)) 21 0 (nI (c + 1))) 67 (72 + 3 * c) (nI i)), ml, (zmr g))) rfl ?_
        refine Wp.topi (y := nI (73 + 3 * c)) ((nI_1 _).trans (congrArg nI (by omega))) ?_
        refine Wp.run 1 (93, [(4, .int (nI (72 + 3 * c))), (0, .ref 66), (1, .int (nI i)), (2, .int (nI q)), (3, .int (nI s))], [.int (nI q), .int (nI (73 + 3 * c)), .ref 67], (zsh ++ vs, (zup (zup (zup (zup (zup mi 22 c (nI i)) 23 c (nI q)) 24 c (nI s)) 21 0 (nI (c + 1))) 67 (72 + 3 * c) (nI i)), ml, (zmr g))) rfl ?_
        refine Wp.iasn rfl (by decide) rfl (by omega) (by decide) ?_
        refine Wp.run 5 (102, [(4, .int (nI (72 + 3 * c))), (0, .ref 66), (1, .int (nI i)), (2, .int (nI q)), (3, .int (nI s))], [.int ((nI (72 + 3 * c)) + 2), .ref 67], (zsh ++ vs, (zup (zup (zup (zup (zup (zup mi 22 c (nI i)) 23 c (nI q)) 24 c (nI s)) 21 0 (nI (c + 1))) 67 (72 + 3 * c) (nI i)) 67 (73 + 3 * c) (nI q)), ml, (zmr g))) rfl ?_
        refine Wp.topi (y := nI (74 + 3 * c)) ((nI_add _ 2).trans (congrArg nI (by omega))) ?_
        refine Wp.run 1 (103, [(4, .int (nI (72 + 3 * c))), (0, .ref 66), (1, .int (nI i)), (2, .int (nI q)), (3, .int (nI s))], [.int (nI s), .int (nI (74 + 3 * c)), .ref 67], (zsh ++ vs, (zup (zup (zup (zup (zup (zup mi 22 c (nI i)) 23 c (nI q)) 24 c (nI s)) 21 0 (nI (c + 1))) 67 (72 + 3 * c) (nI i)) 67 (73 + 3 * c) (nI q)), ml, (zmr g))) rfl ?_
        refine Wp.iasn rfl (by decide) rfl (by omega) (by decide) ?_
        refine Wp.run 5 (112, [(4, .int (nI (72 + 3 * c))), (0, .ref 66), (1, .int (nI i)), (2, .int (nI q)), (3, .int (nI s))], [.int ((zup (zup (zup (zup (zup (zup (zup mi 22 c (nI i)) 23 c (nI q)) 24 c (nI s)) 21 0 (nI (c + 1))) 67 (72 + 3 * c) (nI i)) 67 (73 + 3 * c) (nI q)) 67 (74 + 3 * c) (nI s)) 67 71), .int 71, .ref 67], (zsh ++ vs, (zup (zup (zup (zup (zup (zup (zup mi 22 c (nI i)) 23 c (nI q)) 24 c (nI s)) 21 0 (nI (c + 1))) 67 (72 + 3 * c) (nI i)) 67 (73 + 3 * c) (nI q)) 67 (74 + 3 * c) (nI s)), ml, (zmr g))) rfl ?_
        refine Wp.topi (y := nI c) (by rw [zup_rd (by omega)]; rw [zup_rd (by omega)]; rw [zup_rd (by omega)]; exact hc2) ?_
        refine Wp.run 2 (114, [(4, .int (nI (72 + 3 * c))), (0, .ref 66), (1, .int (nI i)), (2, .int (nI q)), (3, .int (nI s))], [.int ((nI c) + 1), .int 71, .ref 67], (zsh ++ vs, (zup (zup (zup (zup (zup (zup (zup mi 22 c (nI i)) 23 c (nI q)) 24 c (nI s)) 21 0 (nI (c + 1))) 67 (72 + 3 * c) (nI i)) 67 (73 + 3 * c) (nI q)) 67 (74 + 3 * c) (nI s)), ml, (zmr g))) rfl ?_
        refine Wp.topi (y := nI (c + 1)) (nI_1 c) ?_
        refine Wp.run 5 (122, [(4, .int (nI (72 + 3 * c))), (0, .ref 66), (1, .int (nI i)), (2, .int (nI q)), (3, .int (nI s))], [.int (nI (c + 1))], (zsh ++ vs, (zup (zup (zup (zup (zup (zup (zup (zup mi 22 c (nI i)) 23 c (nI q)) 24 c (nI s)) 21 0 (nI (c + 1))) 67 (72 + 3 * c) (nI i)) 67 (73 + 3 * c) (nI q)) 67 (74 + 3 * c) (nI s)) 67 71 (nI (c + 1))), ml, (zmr g))) rfl ?_
        refine Wp.ret rfl rfl rfl ?_
        exact ⟨rfl, rfl⟩
      · exact absurd ((nI_eq (b := 5) (by omega) (by decide)).mp h52) (by omega)
    · exact absurd h51 hm1
  · exact (I.see1 hc1 hcM hi hq hs rfl).x
theorem sim_plan {E : zEn} {nv : Nat} {VD : Nat → zV} {NL : Nat → Nat} {n dd : Nat} {vs : List (Nat × Nat)} {mi : Nat → Nat → Int32} {ml : Nat → Nat → Int64} {g : Nat → Nat → Option Nat} (I : INV nv VD NL n dd vs mi ml g) (w y : Int32) : SIM E vs mi ml g pg_H_plan pg_M_plan [.int w, .int y] := by
  have B := I.1.1
  have h6 := B.1.2.1
  have hn := B.2.1
  have hN := B.1.1
  have hd := B.1.2.2.1
  have hdd := I.1.2
  by_cases hm1 : w = -1
  · subst hm1
    refine SIM.u (x := 0) (m1 := (zup mi 21 1 0)) (l1 := ml) (m2 := (zup (zup mi 21 1 0) 67 87 0)) (l2 := ml) (dc := 7) (dm := 27) (by decide) (by decide) ?_ ?_ ?_
    · refine Wp.run 8 (14, [(0, .ref 0), (1, .int (-1)), (2, .int y)], [.int 0], (zsh ++ vs, (zup mi 21 1 0), ml, (zmr g))) rfl ?_
      refine Wp.ret rfl rfl rfl ?_
      exact ⟨rfl, rfl⟩
    · refine Wp.run 9 (14, [(0, .ref 66), (1, .int (-1)), (2, .int y)], [.int 0], (zsh ++ vs, (zup (zup mi 21 1 0) 67 87 0), ml, (zmr g))) rfl ?_
      refine Wp.ret rfl rfl rfl ?_
      exact ⟨rfl, rfl⟩
    · exact I.plan0.x
  by_cases hw : 0 ≤ w ∧ w ≤ 3
  rotate_left
  · refine SIM.q I (x := -1) (dc := 7) (dm := 27) (by decide) (by decide) ?_ ?_
    · refine Wp.run 2 (2, [(0, .ref 0), (1, .int w), (2, .int y)], [.int (-1), .int w], (zsh ++ vs, mi, ml, (zmr g))) rfl ?_
      refine Wp.icmp_ne rfl (fun h1 => ?_) (fun h1 => ?_)
      · refine Wp.run 2 (17, [(0, .ref 0), (1, .int w), (2, .int y)], [.int 3, .int w], (zsh ++ vs, mi, ml, (zmr g))) rfl ?_
        refine Wp.call (as := [.int w, .int 3]) (rest := []) rfl rfl rfl rfl rfl (Nat.le_of_ble_eq_true rfl) (Nat.le_of_ble_eq_true rfl) rfl (by decide) (c_within_f hw) ?_
        rintro _ _ ⟨rfl, rfl⟩
        refine Wp.run 2 (39, [(0, .ref 0), (1, .int w), (2, .int y)], [.int (-1)], (zsh ++ vs, mi, ml, (zmr g))) rfl ?_
        refine Wp.ret rfl rfl rfl ?_
        exact ⟨rfl, _, _, rfl, SC.rf, fun _ _ _ => rfl⟩
      · exact absurd h1 hm1
    · intro m g' I' e67 S
      have B' := I'.1.1
      have hn' := B'.2.1
      have hN' := B'.1.1
      have hd' := B'.1.2.2.1
      refine Wp.run 2 (2, [(0, .ref 66), (1, .int w), (2, .int y)], [.int (-1), .int w], (zsh ++ vs, m, ml, (zmr g'))) rfl ?_
      refine Wp.icmp_ne rfl (fun h51 => ?_) (fun h51 => ?_)
      · refine Wp.run 3 (18, [(0, .ref 66), (1, .int w), (2, .int y)], [.int 3, .int 0, .int w], (zsh ++ vs, m, ml, (zmr g'))) rfl ?_
        refine Wp.call (as := [.int w, .int 0, .int 3]) (rest := []) rfl rfl rfl rfl rfl (Nat.le_of_ble_eq_true rfl) (Nat.le_of_ble_eq_true rfl) rfl (by decide) (m_isIn_f hw) ?_
        rintro _ _ ⟨rfl, rfl⟩
        refine Wp.run 2 (37, [(0, .ref 66), (1, .int w), (2, .int y)], [.int (-1)], (zsh ++ vs, m, ml, (zmr g'))) rfl ?_
        refine Wp.ret rfl rfl rfl ?_
        exact ⟨rfl, _, rfl, SC.rf⟩
      · exact absurd h51 hm1
  obtain ⟨v, hv, rfl⟩ := rng_of (h := 3) rfl hw
  obtain ⟨c, hc5, hc1, hc2, -⟩ := I.2.1.2.1
  rcases (show v = 0 ∨ v = 1 ∨ v = 2 ∨ v = 3 by omega) with rfl | rfl | rfl | rfl
  · by_cases h5 : c = 10
    · subst h5
      refine SIM.q I (x := -4) (dc := 7) (dm := 27) (by decide) (by decide) ?_ ?_
      · refine Wp.run 5 (17, [(0, .ref 0), (1, .int 0), (2, .int y)], [.int 3, .int 0], (zsh ++ vs, mi, ml, (zmr g))) rfl ?_
        refine Wp.call (as := [.int 0, .int 3]) (rest := []) rfl rfl rfl rfl rfl (Nat.le_of_ble_eq_true rfl) (Nat.le_of_ble_eq_true rfl) rfl (by decide) (c_within_t hw) ?_
        rintro _ _ ⟨rfl, rfl⟩
        refine Wp.run 10 (54, [(0, .ref 0), (1, .int 0), (2, .int y)], [.int 0, .int 0, .ref 21], (zsh ++ vs, mi, ml, (zmr g))) rfl ?_
        refine Wp.call (as := [.ref 21, .int 0, .int 0]) (rest := []) rfl rfl rfl rfl rfl (Nat.le_of_ble_eq_true rfl) (Nat.le_of_ble_eq_true rfl) rfl (by decide) (c_addPlan_f hc1) ?_
        rintro _ _ ⟨rfl, rfl⟩
        refine Wp.run 0 (57, [(0, .ref 0), (1, .int 0), (2, .int y)], [.int (-4)], (zsh ++ vs, mi, ml, (zmr g))) rfl ?_
        refine Wp.ret rfl rfl rfl ?_
        exact ⟨rfl, _, _, rfl, SC.rf, fun _ _ _ => rfl⟩
      · intro m g' I' e67 S
        have B' := I'.1.1
        have hn' := B'.2.1
        have hN' := B'.1.1
        have hd' := B'.1.2.2.1
        refine Wp.run 6 (18, [(0, .ref 66), (1, .int 0), (2, .int y)], [.int 3, .int 0, .int 0], (zsh ++ vs, m, ml, (zmr g'))) rfl ?_
        refine Wp.call (as := [.int 0, .int 0, .int 3]) (rest := []) rfl rfl rfl rfl rfl (Nat.le_of_ble_eq_true rfl) (Nat.le_of_ble_eq_true rfl) rfl (by decide) (m_isIn_t hw) ?_
        rintro _ _ ⟨rfl, rfl⟩
        refine Wp.run 7 (45, [(0, .ref 66), (1, .int 0), (2, .int y)], [.int (m 67 87)], (zsh ++ vs, m, ml, (zmr g'))) rfl ?_
        refine Wp.topi (y := 10) ((congrFun e67 87).trans hc2) ?_
        refine Wp.run 3 (52, [(0, .ref 66), (1, .int 0), (2, .int y)], [.int (-4)], (zsh ++ vs, m, ml, (zmr g'))) rfl ?_
        refine Wp.ret rfl rfl rfl ?_
        exact ⟨rfl, _, rfl, SC.rf⟩
    have hcM : c < 10 := by omega
    refine SIM.u (x := nI (c + 1)) (m1 := (zup (zup (zup mi 25 c 0) 26 c 0) 21 1 (nI (c + 1)))) (l1 := ml) (m2 := (zup (zup (zup (zup (zup (zup mi 25 c 0) 26 c 0) 21 1 (nI (c + 1))) 67 (88 + 2 * c) 0) 67 (89 + 2 * c) y) 67 87 (nI (c + 1)))) (l2 := ml) (dc := 7) (dm := 27) (by decide) (by decide) ?_ ?_ ?_
    · refine Wp.run 5 (17, [(0, .ref 0), (1, .int 0), (2, .int y)], [.int 3, .int 0], (zsh ++ vs, mi, ml, (zmr g))) rfl ?_
      refine Wp.call (as := [.int 0, .int 3]) (rest := []) rfl rfl rfl rfl rfl (Nat.le_of_ble_eq_true rfl) (Nat.le_of_ble_eq_true rfl) rfl (by decide) (c_within_t hw) ?_
      rintro _ _ ⟨rfl, rfl⟩
      refine Wp.run 10 (54, [(0, .ref 0), (1, .int 0), (2, .int y)], [.int 0, .int 0, .ref 21], (zsh ++ vs, mi, ml, (zmr g))) rfl ?_
      refine Wp.call (as := [.ref 21, .int 0, .int 0]) (rest := []) rfl rfl rfl rfl rfl (Nat.le_of_ble_eq_true rfl) (Nat.le_of_ble_eq_true rfl) rfl (by decide) (c_addPlan hc1 hcM) ?_
      rintro _ _ ⟨rfl, rfl⟩
      refine Wp.run 0 (57, [(0, .ref 0), (1, .int 0), (2, .int y)], [.int (nI (c + 1))], (zsh ++ vs, (zup (zup (zup mi 25 c 0) 26 c 0) 21 1 (nI (c + 1))), ml, (zmr g))) rfl ?_
      refine Wp.ret rfl rfl rfl ?_
      exact ⟨rfl, rfl⟩
    · refine Wp.run 6 (18, [(0, .ref 66), (1, .int 0), (2, .int y)], [.int 3, .int 0, .int 0], (zsh ++ vs, (zup (zup (zup mi 25 c 0) 26 c 0) 21 1 (nI (c + 1))), ml, (zmr g))) rfl ?_
      refine Wp.call (as := [.int 0, .int 0, .int 3]) (rest := []) rfl rfl rfl rfl rfl (Nat.le_of_ble_eq_true rfl) (Nat.le_of_ble_eq_true rfl) rfl (by decide) (m_isIn_t hw) ?_
      rintro _ _ ⟨rfl, rfl⟩
      refine Wp.run 7 (45, [(0, .ref 66), (1, .int 0), (2, .int y)], [.int (mi 67 87)], (zsh ++ vs, (zup (zup (zup mi 25 c 0) 26 c 0) 21 1 (nI (c + 1))), ml, (zmr g))) rfl ?_
      refine Wp.topi (y := nI c) (hc2) ?_
      refine Wp.run 1 (47, [(0, .ref 66), (1, .int 0), (2, .int y)], [.int 10, .int (nI c)], (zsh ++ vs, (zup (zup (zup mi 25 c 0) 26 c 0) 21 1 (nI (c + 1))), ml, (zmr g))) rfl ?_
      refine Wp.icmp_ne rfl (fun h51 => ?_) (fun h51 => ?_)
      · refine Wp.run 8 (67, [(0, .ref 66), (1, .int 0), (2, .int y)], [.int (mi 67 87), .int 2, .int 88, .ref 67], (zsh ++ vs, (zup (zup (zup mi 25 c 0) 26 c 0) 21 1 (nI (c + 1))), ml, (zmr g))) rfl ?_
        refine Wp.topi (y := nI c) (hc2) ?_
        refine Wp.run 2 (69, [(0, .ref 66), (1, .int 0), (2, .int y)], [.int (88 + (2 * (nI c))), .ref 67], (zsh ++ vs, (zup (zup (zup mi 25 c 0) 26 c 0) 21 1 (nI (c + 1))), ml, (zmr g))) rfl ?_
        refine Wp.topi (y := nI (88 + 2 * c)) (ix_23 88 2 c) ?_
        refine Wp.run 1 (70, [(0, .ref 66), (1, .int 0), (2, .int y)], [.int 0, .int (nI (88 + 2 * c)), .ref 67], (zsh ++ vs, (zup (zup (zup mi 25 c 0) 26 c 0) 21 1 (nI (c + 1))), ml, (zmr g))) rfl ?_
        refine Wp.iasn rfl (by decide) rfl (by omega) (by decide) ?_
        refine Wp.run 8 (85, [(0, .ref 66), (1, .int 0), (2, .int y)], [.int ((zup (zup (zup (zup mi 25 c 0) 26 c 0) 21 1 (nI (c + 1))) 67 (88 + 2 * c) 0) 67 87), .int 2, .int 89, .ref 67], (zsh ++ vs, (zup (zup (zup (zup mi 25 c 0) 26 c 0) 21 1 (nI (c + 1))) 67 (88 + 2 * c) 0), ml, (zmr g))) rfl ?_
        refine Wp.topi (y := nI c) (by rw [zup_rd (by omega)]; exact hc2) ?_
        refine Wp.run 2 (87, [(0, .ref 66), (1, .int 0), (2, .int y)], [.int (89 + (2 * (nI c))), .ref 67], (zsh ++ vs, (zup (zup (zup (zup mi 25 c 0) 26 c 0) 21 1 (nI (c + 1))) 67 (88 + 2 * c) 0), ml, (zmr g))) rfl ?_
        refine Wp.topi (y := nI (89 + 2 * c)) (ix_23 89 2 c) ?_
        refine Wp.run 1 (88, [(0, .ref 66), (1, .int 0), (2, .int y)], [.int y, .int (nI (89 + 2 * c)), .ref 67], (zsh ++ vs, (zup (zup (zup (zup mi 25 c 0) 26 c 0) 21 1 (nI (c + 1))) 67 (88 + 2 * c) 0), ml, (zmr g))) rfl ?_
        refine Wp.iasn rfl (by decide) rfl (by omega) (by decide) ?_
        refine Wp.run 5 (97, [(0, .ref 66), (1, .int 0), (2, .int y)], [.int ((zup (zup (zup (zup (zup mi 25 c 0) 26 c 0) 21 1 (nI (c + 1))) 67 (88 + 2 * c) 0) 67 (89 + 2 * c) y) 67 87), .int 87, .ref 67], (zsh ++ vs, (zup (zup (zup (zup (zup mi 25 c 0) 26 c 0) 21 1 (nI (c + 1))) 67 (88 + 2 * c) 0) 67 (89 + 2 * c) y), ml, (zmr g))) rfl ?_
        refine Wp.topi (y := nI c) (by rw [zup_rd (by omega)]; rw [zup_rd (by omega)]; exact hc2) ?_
        refine Wp.run 2 (99, [(0, .ref 66), (1, .int 0), (2, .int y)], [.int ((nI c) + 1), .int 87, .ref 67], (zsh ++ vs, (zup (zup (zup (zup (zup mi 25 c 0) 26 c 0) 21 1 (nI (c + 1))) 67 (88 + 2 * c) 0) 67 (89 + 2 * c) y), ml, (zmr g))) rfl ?_
        refine Wp.topi (y := nI (c + 1)) (nI_1 c) ?_
        refine Wp.run 5 (107, [(0, .ref 66), (1, .int 0), (2, .int y)], [.int (nI (c + 1))], (zsh ++ vs, (zup (zup (zup (zup (zup (zup mi 25 c 0) 26 c 0) 21 1 (nI (c + 1))) 67 (88 + 2 * c) 0) 67 (89 + 2 * c) y) 67 87 (nI (c + 1))), ml, (zmr g))) rfl ?_
        refine Wp.ret rfl rfl rfl ?_
        exact ⟨rfl, rfl⟩
      · exact absurd ((nI_eq (b := 10) (by omega) (by decide)).mp h51) (by omega)
    · exact (I.plan1 (w := 0) hc1 hcM (by omega) (Or.inl rfl) rfl).x
  · by_cases hx : one n y
    rotate_left
    · refine SIM.q I (x := -1) (dc := 7) (dm := 27) (by decide) (by decide) ?_ ?_
      · refine Wp.run 5 (17, [(0, .ref 0), (1, .int 1), (2, .int y)], [.int 3, .int 1], (zsh ++ vs, mi, ml, (zmr g))) rfl ?_
        refine Wp.call (as := [.int 1, .int 3]) (rest := []) rfl rfl rfl rfl rfl (Nat.le_of_ble_eq_true rfl) (Nat.le_of_ble_eq_true rfl) rfl (by decide) (c_within_t hw) ?_
        rintro _ _ ⟨rfl, rfl⟩
        refine Wp.run 6 (32, [(0, .ref 0), (1, .int 1), (2, .int y)], [.int y, .ref 1], (zsh ++ vs, mi, ml, (zmr g))) rfl ?_
        refine Wp.call (as := [.ref 1, .int y]) (rest := []) rfl rfl rfl rfl rfl (Nat.le_of_ble_eq_true rfl) (Nat.le_of_ble_eq_true rfl) rfl (by decide) (c_has_f (mi := mi) hn h6 hx) ?_
        rintro _ _ ⟨rfl, rfl⟩
        refine Wp.run 2 (39, [(0, .ref 0), (1, .int 1), (2, .int y)], [.int (-1)], (zsh ++ vs, mi, ml, (zmr g))) rfl ?_
        refine Wp.ret rfl rfl rfl ?_
        exact ⟨rfl, _, _, rfl, SC.rf, fun _ _ _ => rfl⟩
      · intro m g' I' e67 S
        have B' := I'.1.1
        have hn' := B'.2.1
        have hN' := B'.1.1
        have hd' := B'.1.2.2.1
        refine Wp.run 6 (18, [(0, .ref 66), (1, .int 1), (2, .int y)], [.int 3, .int 0, .int 1], (zsh ++ vs, m, ml, (zmr g'))) rfl ?_
        refine Wp.call (as := [.int 1, .int 0, .int 3]) (rest := []) rfl rfl rfl rfl rfl (Nat.le_of_ble_eq_true rfl) (Nat.le_of_ble_eq_true rfl) rfl (by decide) (m_isIn_t hw) ?_
        rintro _ _ ⟨rfl, rfl⟩
        refine Wp.run 5 (30, [(0, .ref 66), (1, .int 1), (2, .int y)], [.int y, .ref 66], (zsh ++ vs, m, ml, (zmr g'))) rfl ?_
        refine Wp.call (as := [.ref 66, .int y]) (rest := []) rfl rfl rfl rfl rfl (Nat.le_of_ble_eq_true rfl) (Nat.le_of_ble_eq_true rfl) rfl (by decide) (m_isOne_f (mi := m) hN' h6 hx) ?_
        rintro _ _ ⟨rfl, rfl⟩
        refine Wp.run 2 (37, [(0, .ref 66), (1, .int 1), (2, .int y)], [.int (-1)], (zsh ++ vs, m, ml, (zmr g'))) rfl ?_
        refine Wp.ret rfl rfl rfl ?_
        exact ⟨rfl, _, rfl, SC.rf⟩
    have hx9 := hx
    obtain ⟨i, hi, rfl⟩ := hx
    by_cases h5 : c = 10
    · subst h5
      refine SIM.q I (x := -4) (dc := 7) (dm := 27) (by decide) (by decide) ?_ ?_
      · refine Wp.run 5 (17, [(0, .ref 0), (1, .int 1), (2, .int (nI i))], [.int 3, .int 1], (zsh ++ vs, mi, ml, (zmr g))) rfl ?_
        refine Wp.call (as := [.int 1, .int 3]) (rest := []) rfl rfl rfl rfl rfl (Nat.le_of_ble_eq_true rfl) (Nat.le_of_ble_eq_true rfl) rfl (by decide) (c_within_t hw) ?_
        rintro _ _ ⟨rfl, rfl⟩
        refine Wp.run 6 (32, [(0, .ref 0), (1, .int 1), (2, .int (nI i))], [.int (nI i), .ref 1], (zsh ++ vs, mi, ml, (zmr g))) rfl ?_
        refine Wp.call (as := [.ref 1, .int (nI i)]) (rest := []) rfl rfl rfl rfl rfl (Nat.le_of_ble_eq_true rfl) (Nat.le_of_ble_eq_true rfl) rfl (by decide) (c_has_t (mi := mi) hn h6 hx9) ?_
        rintro _ _ ⟨rfl, rfl⟩
        refine Wp.run 7 (54, [(0, .ref 0), (1, .int 1), (2, .int (nI i))], [.int (nI i), .int 1, .ref 21], (zsh ++ vs, mi, ml, (zmr g))) rfl ?_
        refine Wp.call (as := [.ref 21, .int 1, .int (nI i)]) (rest := []) rfl rfl rfl rfl rfl (Nat.le_of_ble_eq_true rfl) (Nat.le_of_ble_eq_true rfl) rfl (by decide) (c_addPlan_f hc1) ?_
        rintro _ _ ⟨rfl, rfl⟩
        refine Wp.run 0 (57, [(0, .ref 0), (1, .int 1), (2, .int (nI i))], [.int (-4)], (zsh ++ vs, mi, ml, (zmr g))) rfl ?_
        refine Wp.ret rfl rfl rfl ?_
        exact ⟨rfl, _, _, rfl, SC.rf, fun _ _ _ => rfl⟩
      · intro m g' I' e67 S
        have B' := I'.1.1
        have hn' := B'.2.1
        have hN' := B'.1.1
        have hd' := B'.1.2.2.1
        refine Wp.run 6 (18, [(0, .ref 66), (1, .int 1), (2, .int (nI i))], [.int 3, .int 0, .int 1], (zsh ++ vs, m, ml, (zmr g'))) rfl ?_
        refine Wp.call (as := [.int 1, .int 0, .int 3]) (rest := []) rfl rfl rfl rfl rfl (Nat.le_of_ble_eq_true rfl) (Nat.le_of_ble_eq_true rfl) rfl (by decide) (m_isIn_t hw) ?_
        rintro _ _ ⟨rfl, rfl⟩
        refine Wp.run 5 (30, [(0, .ref 66), (1, .int 1), (2, .int (nI i))], [.int (nI i), .ref 66], (zsh ++ vs, m, ml, (zmr g'))) rfl ?_
        refine Wp.call (as := [.ref 66, .int (nI i)]) (rest := []) rfl rfl rfl rfl rfl (Nat.le_of_ble_eq_true rfl) (Nat.le_of_ble_eq_true rfl) rfl (by decide) (m_isOne_t (mi := m) hN' h6 hx9) ?_
        rintro _ _ ⟨rfl, rfl⟩
        refine Wp.run 5 (45, [(0, .ref 66), (1, .int 1), (2, .int (nI i))], [.int (m 67 87)], (zsh ++ vs, m, ml, (zmr g'))) rfl ?_
        refine Wp.topi (y := 10) ((congrFun e67 87).trans hc2) ?_
        refine Wp.run 3 (52, [(0, .ref 66), (1, .int 1), (2, .int (nI i))], [.int (-4)], (zsh ++ vs, m, ml, (zmr g'))) rfl ?_
        refine Wp.ret rfl rfl rfl ?_
        exact ⟨rfl, _, rfl, SC.rf⟩
    have hcM : c < 10 := by omega
    refine SIM.u (x := nI (c + 1)) (m1 := (zup (zup (zup mi 25 c 1) 26 c (nI i)) 21 1 (nI (c + 1)))) (l1 := ml) (m2 := (zup (zup (zup (zup (zup (zup mi 25 c 1) 26 c (nI i)) 21 1 (nI (c + 1))) 67 (88 + 2 * c) 1) 67 (89 + 2 * c) (nI i)) 67 87 (nI (c + 1)))) (l2 := ml) (dc := 7) (dm := 27) (by decide) (by decide) ?_ ?_ ?_
    · refine Wp.run 5 (17, [(0, .ref 0), (1, .int 1), (2, .int (nI i))], [.int 3, .int 1], (zsh ++ vs, mi, ml, (zmr g))) rfl ?_
      refine Wp.call (as := [.int 1, .int 3]) (rest := []) rfl rfl rfl rfl rfl (Nat.le_of_ble_eq_true rfl) (Nat.le_of_ble_eq_true rfl) rfl (by decide) (c_within_t hw) ?_
      rintro _ _ ⟨rfl, rfl⟩
      refine Wp.run 6 (32, [(0, .ref 0), (1, .int 1), (2, .int (nI i))], [.int (nI i), .ref 1], (zsh ++ vs, mi, ml, (zmr g))) rfl ?_
      refine Wp.call (as := [.ref 1, .int (nI i)]) (rest := []) rfl rfl rfl rfl rfl (Nat.le_of_ble_eq_true rfl) (Nat.le_of_ble_eq_true rfl) rfl (by decide) (c_has_t (mi := mi) hn h6 hx9) ?_
      rintro _ _ ⟨rfl, rfl⟩
      refine Wp.run 7 (54, [(0, .ref 0), (1, .int 1), (2, .int (nI i))], [.int (nI i), .int 1, .ref 21], (zsh ++ vs, mi, ml, (zmr g))) rfl ?_
      refine Wp.call (as := [.ref 21, .int 1, .int (nI i)]) (rest := []) rfl rfl rfl rfl rfl (Nat.le_of_ble_eq_true rfl) (Nat.le_of_ble_eq_true rfl) rfl (by decide) (c_addPlan hc1 hcM) ?_
      rintro _ _ ⟨rfl, rfl⟩
      refine Wp.run 0 (57, [(0, .ref 0), (1, .int 1), (2, .int (nI i))], [.int (nI (c + 1))], (zsh ++ vs, (zup (zup (zup mi 25 c 1) 26 c (nI i)) 21 1 (nI (c + 1))), ml, (zmr g))) rfl ?_
      refine Wp.ret rfl rfl rfl ?_
      exact ⟨rfl, rfl⟩
    · refine Wp.run 6 (18, [(0, .ref 66), (1, .int 1), (2, .int (nI i))], [.int 3, .int 0, .int 1], (zsh ++ vs, (zup (zup (zup mi 25 c 1) 26 c (nI i)) 21 1 (nI (c + 1))), ml, (zmr g))) rfl ?_
      refine Wp.call (as := [.int 1, .int 0, .int 3]) (rest := []) rfl rfl rfl rfl rfl (Nat.le_of_ble_eq_true rfl) (Nat.le_of_ble_eq_true rfl) rfl (by decide) (m_isIn_t hw) ?_
      rintro _ _ ⟨rfl, rfl⟩
      refine Wp.run 5 (30, [(0, .ref 66), (1, .int 1), (2, .int (nI i))], [.int (nI i), .ref 66], (zsh ++ vs, (zup (zup (zup mi 25 c 1) 26 c (nI i)) 21 1 (nI (c + 1))), ml, (zmr g))) rfl ?_
      refine Wp.call (as := [.ref 66, .int (nI i)]) (rest := []) rfl rfl rfl rfl rfl (Nat.le_of_ble_eq_true rfl) (Nat.le_of_ble_eq_true rfl) rfl (by decide) (m_isOne_t (mi := (zup (zup (zup mi 25 c 1) 26 c (nI i)) 21 1 (nI (c + 1)))) hN h6 hx9) ?_
      rintro _ _ ⟨rfl, rfl⟩
      refine Wp.run 5 (45, [(0, .ref 66), (1, .int 1), (2, .int (nI i))], [.int (mi 67 87)], (zsh ++ vs, (zup (zup (zup mi 25 c 1) 26 c (nI i)) 21 1 (nI (c + 1))), ml, (zmr g))) rfl ?_
      refine Wp.topi (y := nI c) (hc2) ?_
      refine Wp.run 1 (47, [(0, .ref 66), (1, .int 1), (2, .int (nI i))], [.int 10, .int (nI c)], (zsh ++ vs, (zup (zup (zup mi 25 c 1) 26 c (nI i)) 21 1 (nI (c + 1))), ml, (zmr g))) rfl ?_
      refine Wp.icmp_ne rfl (fun h51 => ?_) (fun h51 => ?_)
      · refine Wp.run 8 (67, [(0, .ref 66), (1, .int 1), (2, .int (nI i))], [.int (mi 67 87), .int 2, .int 88, .ref 67], (zsh ++ vs, (zup (zup (zup mi 25 c 1) 26 c (nI i)) 21 1 (nI (c + 1))), ml, (zmr g))) rfl ?_
        refine Wp.topi (y := nI c) (hc2) ?_
        refine Wp.run 2 (69, [(0, .ref 66), (1, .int 1), (2, .int (nI i))], [.int (88 + (2 * (nI c))), .ref 67], (zsh ++ vs, (zup (zup (zup mi 25 c 1) 26 c (nI i)) 21 1 (nI (c + 1))), ml, (zmr g))) rfl ?_
        refine Wp.topi (y := nI (88 + 2 * c)) (ix_23 88 2 c) ?_
        refine Wp.run 1 (70, [(0, .ref 66), (1, .int 1), (2, .int (nI i))], [.int 1, .int (nI (88 + 2 * c)), .ref 67], (zsh ++ vs, (zup (zup (zup mi 25 c 1) 26 c (nI i)) 21 1 (nI (c + 1))), ml, (zmr g))) rfl ?_
        refine Wp.iasn rfl (by decide) rfl (by omega) (by decide) ?_
        refine Wp.run 8 (85, [(0, .ref 66), (1, .int 1), (2, .int (nI i))], [.int ((zup (zup (zup (zup mi 25 c 1) 26 c (nI i)) 21 1 (nI (c + 1))) 67 (88 + 2 * c) 1) 67 87), .int 2, .int 89, .ref 67], (zsh ++ vs, (zup (zup (zup (zup mi 25 c 1) 26 c (nI i)) 21 1 (nI (c + 1))) 67 (88 + 2 * c) 1), ml, (zmr g))) rfl ?_
        refine Wp.topi (y := nI c) (by rw [zup_rd (by omega)]; exact hc2) ?_
        refine Wp.run 2 (87, [(0, .ref 66), (1, .int 1), (2, .int (nI i))], [.int (89 + (2 * (nI c))), .ref 67], (zsh ++ vs, (zup (zup (zup (zup mi 25 c 1) 26 c (nI i)) 21 1 (nI (c + 1))) 67 (88 + 2 * c) 1), ml, (zmr g))) rfl ?_
        refine Wp.topi (y := nI (89 + 2 * c)) (ix_23 89 2 c) ?_
        refine Wp.run 1 (88, [(0, .ref 66), (1, .int 1), (2, .int (nI i))], [.int (nI i), .int (nI (89 + 2 * c)), .ref 67], (zsh ++ vs, (zup (zup (zup (zup mi 25 c 1) 26 c (nI i)) 21 1 (nI (c + 1))) 67 (88 + 2 * c) 1), ml, (zmr g))) rfl ?_
        refine Wp.iasn rfl (by decide) rfl (by omega) (by decide) ?_
        refine Wp.run 5 (97, [(0, .ref 66), (1, .int 1), (2, .int (nI i))], [.int ((zup (zup (zup (zup (zup mi 25 c 1) 26 c (nI i)) 21 1 (nI (c + 1))) 67 (88 + 2 * c) 1) 67 (89 + 2 * c) (nI i)) 67 87), .int 87, .ref 67], (zsh ++ vs, (zup (zup (zup (zup (zup mi 25 c 1) 26 c (nI i)) 21 1 (nI (c + 1))) 67 (88 + 2 * c) 1) 67 (89 + 2 * c) (nI i)), ml, (zmr g))) rfl ?_
        refine Wp.topi (y := nI c) (by rw [zup_rd (by omega)]; rw [zup_rd (by omega)]; exact hc2) ?_
        refine Wp.run 2 (99, [(0, .ref 66), (1, .int 1), (2, .int (nI i))], [.int ((nI c) + 1), .int 87, .ref 67], (zsh ++ vs, (zup (zup (zup (zup (zup mi 25 c 1) 26 c (nI i)) 21 1 (nI (c + 1))) 67 (88 + 2 * c) 1) 67 (89 + 2 * c) (nI i)), ml, (zmr g))) rfl ?_
        refine Wp.topi (y := nI (c + 1)) (nI_1 c) ?_
        refine Wp.run 5 (107, [(0, .ref 66), (1, .int 1), (2, .int (nI i))], [.int (nI (c + 1))], (zsh ++ vs, (zup (zup (zup (zup (zup (zup mi 25 c 1) 26 c (nI i)) 21 1 (nI (c + 1))) 67 (88 + 2 * c) 1) 67 (89 + 2 * c) (nI i)) 67 87 (nI (c + 1))), ml, (zmr g))) rfl ?_
        refine Wp.ret rfl rfl rfl ?_
        exact ⟨rfl, rfl⟩
      · exact absurd ((nI_eq (b := 10) (by omega) (by decide)).mp h51) (by omega)
    · exact (I.plan1 (w := 1) hc1 hcM (by omega) (Or.inr ⟨i, hi, rfl, rfl⟩) rfl).x
  · by_cases hx : one n y
    rotate_left
    · refine SIM.q I (x := -1) (dc := 7) (dm := 27) (by decide) (by decide) ?_ ?_
      · refine Wp.run 5 (17, [(0, .ref 0), (1, .int 2), (2, .int y)], [.int 3, .int 2], (zsh ++ vs, mi, ml, (zmr g))) rfl ?_
        refine Wp.call (as := [.int 2, .int 3]) (rest := []) rfl rfl rfl rfl rfl (Nat.le_of_ble_eq_true rfl) (Nat.le_of_ble_eq_true rfl) rfl (by decide) (c_within_t hw) ?_
        rintro _ _ ⟨rfl, rfl⟩
        refine Wp.run 6 (32, [(0, .ref 0), (1, .int 2), (2, .int y)], [.int y, .ref 1], (zsh ++ vs, mi, ml, (zmr g))) rfl ?_
        refine Wp.call (as := [.ref 1, .int y]) (rest := []) rfl rfl rfl rfl rfl (Nat.le_of_ble_eq_true rfl) (Nat.le_of_ble_eq_true rfl) rfl (by decide) (c_has_f (mi := mi) hn h6 hx) ?_
        rintro _ _ ⟨rfl, rfl⟩
        refine Wp.run 2 (39, [(0, .ref 0), (1, .int 2), (2, .int y)], [.int (-1)], (zsh ++ vs, mi, ml, (zmr g))) rfl ?_
        refine Wp.ret rfl rfl rfl ?_
        exact ⟨rfl, _, _, rfl, SC.rf, fun _ _ _ => rfl⟩
      · intro m g' I' e67 S
        have B' := I'.1.1
        have hn' := B'.2.1
        have hN' := B'.1.1
        have hd' := B'.1.2.2.1
        refine Wp.run 6 (18, [(0, .ref 66), (1, .int 2), (2, .int y)], [.int 3, .int 0, .int 2], (zsh ++ vs, m, ml, (zmr g'))) rfl ?_
        refine Wp.call (as := [.int 2, .int 0, .int 3]) (rest := []) rfl rfl rfl rfl rfl (Nat.le_of_ble_eq_true rfl) (Nat.le_of_ble_eq_true rfl) rfl (by decide) (m_isIn_t hw) ?_
        rintro _ _ ⟨rfl, rfl⟩
        refine Wp.run 5 (30, [(0, .ref 66), (1, .int 2), (2, .int y)], [.int y, .ref 66], (zsh ++ vs, m, ml, (zmr g'))) rfl ?_
        refine Wp.call (as := [.ref 66, .int y]) (rest := []) rfl rfl rfl rfl rfl (Nat.le_of_ble_eq_true rfl) (Nat.le_of_ble_eq_true rfl) rfl (by decide) (m_isOne_f (mi := m) hN' h6 hx) ?_
        rintro _ _ ⟨rfl, rfl⟩
        refine Wp.run 2 (37, [(0, .ref 66), (1, .int 2), (2, .int y)], [.int (-1)], (zsh ++ vs, m, ml, (zmr g'))) rfl ?_
        refine Wp.ret rfl rfl rfl ?_
        exact ⟨rfl, _, rfl, SC.rf⟩
    have hx9 := hx
    obtain ⟨i, hi, rfl⟩ := hx
    by_cases h5 : c = 10
    · subst h5
      refine SIM.q I (x := -4) (dc := 7) (dm := 27) (by decide) (by decide) ?_ ?_
      · refine Wp.run 5 (17, [(0, .ref 0), (1, .int 2), (2, .int (nI i))], [.int 3, .int 2], (zsh ++ vs, mi, ml, (zmr g))) rfl ?_
        refine Wp.call (as := [.int 2, .int 3]) (rest := []) rfl rfl rfl rfl rfl (Nat.le_of_ble_eq_true rfl) (Nat.le_of_ble_eq_true rfl) rfl (by decide) (c_within_t hw) ?_
        rintro _ _ ⟨rfl, rfl⟩
        refine Wp.run 6 (32, [(0, .ref 0), (1, .int 2), (2, .int (nI i))], [.int (nI i), .ref 1], (zsh ++ vs, mi, ml, (zmr g))) rfl ?_
        refine Wp.call (as := [.ref 1, .int (nI i)]) (rest := []) rfl rfl rfl rfl rfl (Nat.le_of_ble_eq_true rfl) (Nat.le_of_ble_eq_true rfl) rfl (by decide) (c_has_t (mi := mi) hn h6 hx9) ?_
        rintro _ _ ⟨rfl, rfl⟩
        refine Wp.run 7 (54, [(0, .ref 0), (1, .int 2), (2, .int (nI i))], [.int (nI i), .int 2, .ref 21], (zsh ++ vs, mi, ml, (zmr g))) rfl ?_
        refine Wp.call (as := [.ref 21, .int 2, .int (nI i)]) (rest := []) rfl rfl rfl rfl rfl (Nat.le_of_ble_eq_true rfl) (Nat.le_of_ble_eq_true rfl) rfl (by decide) (c_addPlan_f hc1) ?_
        rintro _ _ ⟨rfl, rfl⟩
        refine Wp.run 0 (57, [(0, .ref 0), (1, .int 2), (2, .int (nI i))], [.int (-4)], (zsh ++ vs, mi, ml, (zmr g))) rfl ?_
        refine Wp.ret rfl rfl rfl ?_
        exact ⟨rfl, _, _, rfl, SC.rf, fun _ _ _ => rfl⟩
      · intro m g' I' e67 S
        have B' := I'.1.1
        have hn' := B'.2.1
        have hN' := B'.1.1
        have hd' := B'.1.2.2.1
        refine Wp.run 6 (18, [(0, .ref 66), (1, .int 2), (2, .int (nI i))], [.int 3, .int 0, .int 2], (zsh ++ vs, m, ml, (zmr g'))) rfl ?_
        refine Wp.call (as := [.int 2, .int 0, .int 3]) (rest := []) rfl rfl rfl rfl rfl (Nat.le_of_ble_eq_true rfl) (Nat.le_of_ble_eq_true rfl) rfl (by decide) (m_isIn_t hw) ?_
        rintro _ _ ⟨rfl, rfl⟩
        refine Wp.run 5 (30, [(0, .ref 66), (1, .int 2), (2, .int (nI i))], [.int (nI i), .ref 66], (zsh ++ vs, m, ml, (zmr g'))) rfl ?_
        refine Wp.call (as := [.ref 66, .int (nI i)]) (rest := []) rfl rfl rfl rfl rfl (Nat.le_of_ble_eq_true rfl) (Nat.le_of_ble_eq_true rfl) rfl (by decide) (m_isOne_t (mi := m) hN' h6 hx9) ?_
        rintro _ _ ⟨rfl, rfl⟩
        refine Wp.run 5 (45, [(0, .ref 66), (1, .int 2), (2, .int (nI i))], [.int (m 67 87)], (zsh ++ vs, m, ml, (zmr g'))) rfl ?_
        refine Wp.topi (y := 10) ((congrFun e67 87).trans hc2) ?_
        refine Wp.run 3 (52, [(0, .ref 66), (1, .int 2), (2, .int (nI i))], [.int (-4)], (zsh ++ vs, m, ml, (zmr g'))) rfl ?_
        refine Wp.ret rfl rfl rfl ?_
        exact ⟨rfl, _, rfl, SC.rf⟩
    have hcM : c < 10 := by omega
    refine SIM.u (x := nI (c + 1)) (m1 := (zup (zup (zup mi 25 c 2) 26 c (nI i)) 21 1 (nI (c + 1)))) (l1 := ml) (m2 := (zup (zup (zup (zup (zup (zup mi 25 c 2) 26 c (nI i)) 21 1 (nI (c + 1))) 67 (88 + 2 * c) 2) 67 (89 + 2 * c) (nI i)) 67 87 (nI (c + 1)))) (l2 := ml) (dc := 7) (dm := 27) (by decide) (by decide) ?_ ?_ ?_
    · refine Wp.run 5 (17, [(0, .ref 0), (1, .int 2), (2, .int (nI i))], [.int 3, .int 2], (zsh ++ vs, mi, ml, (zmr g))) rfl ?_
      refine Wp.call (as := [.int 2, .int 3]) (rest := []) rfl rfl rfl rfl rfl (Nat.le_of_ble_eq_true rfl) (Nat.le_of_ble_eq_true rfl) rfl (by decide) (c_within_t hw) ?_
      rintro _ _ ⟨rfl, rfl⟩
      refine Wp.run 6 (32, [(0, .ref 0), (1, .int 2), (2, .int (nI i))], [.int (nI i), .ref 1], (zsh ++ vs, mi, ml, (zmr g))) rfl ?_
      refine Wp.call (as := [.ref 1, .int (nI i)]) (rest := []) rfl rfl rfl rfl rfl (Nat.le_of_ble_eq_true rfl) (Nat.le_of_ble_eq_true rfl) rfl (by decide) (c_has_t (mi := mi) hn h6 hx9) ?_
      rintro _ _ ⟨rfl, rfl⟩
      refine Wp.run 7 (54, [(0, .ref 0), (1, .int 2), (2, .int (nI i))], [.int (nI i), .int 2, .ref 21], (zsh ++ vs, mi, ml, (zmr g))) rfl ?_
      refine Wp.call (as := [.ref 21, .int 2, .int (nI i)]) (rest := []) rfl rfl rfl rfl rfl (Nat.le_of_ble_eq_true rfl) (Nat.le_of_ble_eq_true rfl) rfl (by decide) (c_addPlan hc1 hcM) ?_
      rintro _ _ ⟨rfl, rfl⟩
      refine Wp.run 0 (57, [(0, .ref 0), (1, .int 2), (2, .int (nI i))], [.int (nI (c + 1))], (zsh ++ vs, (zup (zup (zup mi 25 c 2) 26 c (nI i)) 21 1 (nI (c + 1))), ml, (zmr g))) rfl ?_
      refine Wp.ret rfl rfl rfl ?_
      exact ⟨rfl, rfl⟩
    · refine Wp.run 6 (18, [(0, .ref 66), (1, .int 2), (2, .int (nI i))], [.int 3, .int 0, .int 2], (zsh ++ vs, (zup (zup (zup mi 25 c 2) 26 c (nI i)) 21 1 (nI (c + 1))), ml, (zmr g))) rfl ?_
      refine Wp.call (as := [.int 2, .int 0, .int 3]) (rest := []) rfl rfl rfl rfl rfl (Nat.le_of_ble_eq_true rfl) (Nat.le_of_ble_eq_true rfl) rfl (by decide) (m_isIn_t hw) ?_
      rintro _ _ ⟨rfl, rfl⟩
      refine Wp.run 5 (30, [(0, .ref 66), (1, .int 2), (2, .int (nI i))], [.int (nI i), .ref 66], (zsh ++ vs, (zup (zup (zup mi 25 c 2) 26 c (nI i)) 21 1 (nI (c + 1))), ml, (zmr g))) rfl ?_
      refine Wp.call (as := [.ref 66, .int (nI i)]) (rest := []) rfl rfl rfl rfl rfl (Nat.le_of_ble_eq_true rfl) (Nat.le_of_ble_eq_true rfl) rfl (by decide) (m_isOne_t (mi := (zup (zup (zup mi 25 c 2) 26 c (nI i)) 21 1 (nI (c + 1)))) hN h6 hx9) ?_
      rintro _ _ ⟨rfl, rfl⟩
      refine Wp.run 5 (45, [(0, .ref 66), (1, .int 2), (2, .int (nI i))], [.int (mi 67 87)], (zsh ++ vs, (zup (zup (zup mi 25 c 2) 26 c (nI i)) 21 1 (nI (c + 1))), ml, (zmr g))) rfl ?_
      refine Wp.topi (y := nI c) (hc2) ?_
      refine Wp.run 1 (47, [(0, .ref 66), (1, .int 2), (2, .int (nI i))], [.int 10, .int (nI c)], (zsh ++ vs, (zup (zup (zup mi 25 c 2) 26 c (nI i)) 21 1 (nI (c + 1))), ml, (zmr g))) rfl ?_
      refine Wp.icmp_ne rfl (fun h51 => ?_) (fun h51 => ?_)
      · refine Wp.run 8 (67, [(0, .ref 66), (1, .int 2), (2, .int (nI i))], [.int (mi 67 87), .int 2, .int 88, .ref 67], (zsh ++ vs, (zup (zup (zup mi 25 c 2) 26 c (nI i)) 21 1 (nI (c + 1))), ml, (zmr g))) rfl ?_
        refine Wp.topi (y := nI c) (hc2) ?_
        refine Wp.run 2 (69, [(0, .ref 66), (1, .int 2), (2, .int (nI i))], [.int (88 + (2 * (nI c))), .ref 67], (zsh ++ vs, (zup (zup (zup mi 25 c 2) 26 c (nI i)) 21 1 (nI (c + 1))), ml, (zmr g))) rfl ?_
        refine Wp.topi (y := nI (88 + 2 * c)) (ix_23 88 2 c) ?_
        refine Wp.run 1 (70, [(0, .ref 66), (1, .int 2), (2, .int (nI i))], [.int 2, .int (nI (88 + 2 * c)), .ref 67], (zsh ++ vs, (zup (zup (zup mi 25 c 2) 26 c (nI i)) 21 1 (nI (c + 1))), ml, (zmr g))) rfl ?_
        refine Wp.iasn rfl (by decide) rfl (by omega) (by decide) ?_
        refine Wp.run 8 (85, [(0, .ref 66), (1, .int 2), (2, .int (nI i))], [.int ((zup (zup (zup (zup mi 25 c 2) 26 c (nI i)) 21 1 (nI (c + 1))) 67 (88 + 2 * c) 2) 67 87), .int 2, .int 89, .ref 67], (zsh ++ vs, (zup (zup (zup (zup mi 25 c 2) 26 c (nI i)) 21 1 (nI (c + 1))) 67 (88 + 2 * c) 2), ml, (zmr g))) rfl ?_
        refine Wp.topi (y := nI c) (by rw [zup_rd (by omega)]; exact hc2) ?_
        refine Wp.run 2 (87, [(0, .ref 66), (1, .int 2), (2, .int (nI i))], [.int (89 + (2 * (nI c))), .ref 67], (zsh ++ vs, (zup (zup (zup (zup mi 25 c 2) 26 c (nI i)) 21 1 (nI (c + 1))) 67 (88 + 2 * c) 2), ml, (zmr g))) rfl ?_
        refine Wp.topi (y := nI (89 + 2 * c)) (ix_23 89 2 c) ?_
        refine Wp.run 1 (88, [(0, .ref 66), (1, .int 2), (2, .int (nI i))], [.int (nI i), .int (nI (89 + 2 * c)), .ref 67], (zsh ++ vs, (zup (zup (zup (zup mi 25 c 2) 26 c (nI i)) 21 1 (nI (c + 1))) 67 (88 + 2 * c) 2), ml, (zmr g))) rfl ?_
        refine Wp.iasn rfl (by decide) rfl (by omega) (by decide) ?_
        refine Wp.run 5 (97, [(0, .ref 66), (1, .int 2), (2, .int (nI i))], [.int ((zup (zup (zup (zup (zup mi 25 c 2) 26 c (nI i)) 21 1 (nI (c + 1))) 67 (88 + 2 * c) 2) 67 (89 + 2 * c) (nI i)) 67 87), .int 87, .ref 67], (zsh ++ vs, (zup (zup (zup (zup (zup mi 25 c 2) 26 c (nI i)) 21 1 (nI (c + 1))) 67 (88 + 2 * c) 2) 67 (89 + 2 * c) (nI i)), ml, (zmr g))) rfl ?_
        refine Wp.topi (y := nI c) (by rw [zup_rd (by omega)]; rw [zup_rd (by omega)]; exact hc2) ?_
        refine Wp.run 2 (99, [(0, .ref 66), (1, .int 2), (2, .int (nI i))], [.int ((nI c) + 1), .int 87, .ref 67], (zsh ++ vs, (zup (zup (zup (zup (zup mi 25 c 2) 26 c (nI i)) 21 1 (nI (c + 1))) 67 (88 + 2 * c) 2) 67 (89 + 2 * c) (nI i)), ml, (zmr g))) rfl ?_
        refine Wp.topi (y := nI (c + 1)) (nI_1 c) ?_
        refine Wp.run 5 (107, [(0, .ref 66), (1, .int 2), (2, .int (nI i))], [.int (nI (c + 1))], (zsh ++ vs, (zup (zup (zup (zup (zup (zup mi 25 c 2) 26 c (nI i)) 21 1 (nI (c + 1))) 67 (88 + 2 * c) 2) 67 (89 + 2 * c) (nI i)) 67 87 (nI (c + 1))), ml, (zmr g))) rfl ?_
        refine Wp.ret rfl rfl rfl ?_
        exact ⟨rfl, rfl⟩
      · exact absurd ((nI_eq (b := 10) (by omega) (by decide)).mp h51) (by omega)
    · exact (I.plan1 (w := 2) hc1 hcM (by omega) (Or.inr ⟨i, hi, rfl, rfl⟩) rfl).x
  · by_cases hx : one n y
    rotate_left
    · refine SIM.q I (x := -1) (dc := 7) (dm := 27) (by decide) (by decide) ?_ ?_
      · refine Wp.run 5 (17, [(0, .ref 0), (1, .int 3), (2, .int y)], [.int 3, .int 3], (zsh ++ vs, mi, ml, (zmr g))) rfl ?_
        refine Wp.call (as := [.int 3, .int 3]) (rest := []) rfl rfl rfl rfl rfl (Nat.le_of_ble_eq_true rfl) (Nat.le_of_ble_eq_true rfl) rfl (by decide) (c_within_t hw) ?_
        rintro _ _ ⟨rfl, rfl⟩
        refine Wp.run 6 (32, [(0, .ref 0), (1, .int 3), (2, .int y)], [.int y, .ref 1], (zsh ++ vs, mi, ml, (zmr g))) rfl ?_
        refine Wp.call (as := [.ref 1, .int y]) (rest := []) rfl rfl rfl rfl rfl (Nat.le_of_ble_eq_true rfl) (Nat.le_of_ble_eq_true rfl) rfl (by decide) (c_has_f (mi := mi) hn h6 hx) ?_
        rintro _ _ ⟨rfl, rfl⟩
        refine Wp.run 2 (39, [(0, .ref 0), (1, .int 3), (2, .int y)], [.int (-1)], (zsh ++ vs, mi, ml, (zmr g))) rfl ?_
        refine Wp.ret rfl rfl rfl ?_
        exact ⟨rfl, _, _, rfl, SC.rf, fun _ _ _ => rfl⟩
      · intro m g' I' e67 S
        have B' := I'.1.1
        have hn' := B'.2.1
        have hN' := B'.1.1
        have hd' := B'.1.2.2.1
        refine Wp.run 6 (18, [(0, .ref 66), (1, .int 3), (2, .int y)], [.int 3, .int 0, .int 3], (zsh ++ vs, m, ml, (zmr g'))) rfl ?_
        refine Wp.call (as := [.int 3, .int 0, .int 3]) (rest := []) rfl rfl rfl rfl rfl (Nat.le_of_ble_eq_true rfl) (Nat.le_of_ble_eq_true rfl) rfl (by decide) (m_isIn_t hw) ?_
        rintro _ _ ⟨rfl, rfl⟩
        refine Wp.run 5 (30, [(0, .ref 66), (1, .int 3), (2, .int y)], [.int y, .ref 66], (zsh ++ vs, m, ml, (zmr g'))) rfl ?_
        refine Wp.call (as := [.ref 66, .int y]) (rest := []) rfl rfl rfl rfl rfl (Nat.le_of_ble_eq_true rfl) (Nat.le_of_ble_eq_true rfl) rfl (by decide) (m_isOne_f (mi := m) hN' h6 hx) ?_
        rintro _ _ ⟨rfl, rfl⟩
        refine Wp.run 2 (37, [(0, .ref 66), (1, .int 3), (2, .int y)], [.int (-1)], (zsh ++ vs, m, ml, (zmr g'))) rfl ?_
        refine Wp.ret rfl rfl rfl ?_
        exact ⟨rfl, _, rfl, SC.rf⟩
    have hx9 := hx
    obtain ⟨i, hi, rfl⟩ := hx
    by_cases h5 : c = 10
    · subst h5
      refine SIM.q I (x := -4) (dc := 7) (dm := 27) (by decide) (by decide) ?_ ?_
      · refine Wp.run 5 (17, [(0, .ref 0), (1, .int 3), (2, .int (nI i))], [.int 3, .int 3], (zsh ++ vs, mi, ml, (zmr g))) rfl ?_
        refine Wp.call (as := [.int 3, .int 3]) (rest := []) rfl rfl rfl rfl rfl (Nat.le_of_ble_eq_true rfl) (Nat.le_of_ble_eq_true rfl) rfl (by decide) (c_within_t hw) ?_
        rintro _ _ ⟨rfl, rfl⟩
        refine Wp.run 6 (32, [(0, .ref 0), (1, .int 3), (2, .int (nI i))], [.int (nI i), .ref 1], (zsh ++ vs, mi, ml, (zmr g))) rfl ?_
        refine Wp.call (as := [.ref 1, .int (nI i)]) (rest := []) rfl rfl rfl rfl rfl (Nat.le_of_ble_eq_true rfl) (Nat.le_of_ble_eq_true rfl) rfl (by decide) (c_has_t (mi := mi) hn h6 hx9) ?_
        rintro _ _ ⟨rfl, rfl⟩
        refine Wp.run 7 (54, [(0, .ref 0), (1, .int 3), (2, .int (nI i))], [.int (nI i), .int 3, .ref 21], (zsh ++ vs, mi, ml, (zmr g))) rfl ?_
        refine Wp.call (as := [.ref 21, .int 3, .int (nI i)]) (rest := []) rfl rfl rfl rfl rfl (Nat.le_of_ble_eq_true rfl) (Nat.le_of_ble_eq_true rfl) rfl (by decide) (c_addPlan_f hc1) ?_
        rintro _ _ ⟨rfl, rfl⟩
        refine Wp.run 0 (57, [(0, .ref 0), (1, .int 3), (2, .int (nI i))], [.int (-4)], (zsh ++ vs, mi, ml, (zmr g))) rfl ?_
        refine Wp.ret rfl rfl rfl ?_
        exact ⟨rfl, _, _, rfl, SC.rf, fun _ _ _ => rfl⟩
      · intro m g' I' e67 S
        have B' := I'.1.1
        have hn' := B'.2.1
        have hN' := B'.1.1
        have hd' := B'.1.2.2.1
        refine Wp.run 6 (18, [(0, .ref 66), (1, .int 3), (2, .int (nI i))], [.int 3, .int 0, .int 3], (zsh ++ vs, m, ml, (zmr g'))) rfl ?_
        refine Wp.call (as := [.int 3, .int 0, .int 3]) (rest := []) rfl rfl rfl rfl rfl (Nat.le_of_ble_eq_true rfl) (Nat.le_of_ble_eq_true rfl) rfl (by decide) (m_isIn_t hw) ?_
        rintro _ _ ⟨rfl, rfl⟩
        refine Wp.run 5 (30, [(0, .ref 66), (1, .int 3), (2, .int (nI i))], [.int (nI i), .ref 66], (zsh ++ vs, m, ml, (zmr g'))) rfl ?_
        refine Wp.call (as := [.ref 66, .int (nI i)]) (rest := []) rfl rfl rfl rfl rfl (Nat.le_of_ble_eq_true rfl) (Nat.le_of_ble_eq_true rfl) rfl (by decide) (m_isOne_t (mi := m) hN' h6 hx9) ?_
        rintro _ _ ⟨rfl, rfl⟩
        refine Wp.run 5 (45, [(0, .ref 66), (1, .int 3), (2, .int (nI i))], [.int (m 67 87)], (zsh ++ vs, m, ml, (zmr g'))) rfl ?_
        refine Wp.topi (y := 10) ((congrFun e67 87).trans hc2) ?_
        refine Wp.run 3 (52, [(0, .ref 66), (1, .int 3), (2, .int (nI i))], [.int (-4)], (zsh ++ vs, m, ml, (zmr g'))) rfl ?_
        refine Wp.ret rfl rfl rfl ?_
        exact ⟨rfl, _, rfl, SC.rf⟩
    have hcM : c < 10 := by omega
    refine SIM.u (x := nI (c + 1)) (m1 := (zup (zup (zup mi 25 c 3) 26 c (nI i)) 21 1 (nI (c + 1)))) (l1 := ml) (m2 := (zup (zup (zup (zup (zup (zup mi 25 c 3) 26 c (nI i)) 21 1 (nI (c + 1))) 67 (88 + 2 * c) 3) 67 (89 + 2 * c) (nI i)) 67 87 (nI (c + 1)))) (l2 := ml) (dc := 7) (dm := 27) (by decide) (by decide) ?_ ?_ ?_
    · refine Wp.run 5 (17, [(0, .ref 0), (1, .int 3), (2, .int (nI i))], [.int 3, .int 3], (zsh ++ vs, mi, ml, (zmr g))) rfl ?_
      refine Wp.call (as := [.int 3, .int 3]) (rest := []) rfl rfl rfl rfl rfl (Nat.le_of_ble_eq_true rfl) (Nat.le_of_ble_eq_true rfl) rfl (by decide) (c_within_t hw) ?_
      rintro _ _ ⟨rfl, rfl⟩
      refine Wp.run 6 (32, [(0, .ref 0), (1, .int 3), (2, .int (nI i))], [.int (nI i), .ref 1], (zsh ++ vs, mi, ml, (zmr g))) rfl ?_
      refine Wp.call (as := [.ref 1, .int (nI i)]) (rest := []) rfl rfl rfl rfl rfl (Nat.le_of_ble_eq_true rfl) (Nat.le_of_ble_eq_true rfl) rfl (by decide) (c_has_t (mi := mi) hn h6 hx9) ?_
      rintro _ _ ⟨rfl, rfl⟩
      refine Wp.run 7 (54, [(0, .ref 0), (1, .int 3), (2, .int (nI i))], [.int (nI i), .int 3, .ref 21], (zsh ++ vs, mi, ml, (zmr g))) rfl ?_
      refine Wp.call (as := [.ref 21, .int 3, .int (nI i)]) (rest := []) rfl rfl rfl rfl rfl (Nat.le_of_ble_eq_true rfl) (Nat.le_of_ble_eq_true rfl) rfl (by decide) (c_addPlan hc1 hcM) ?_
      rintro _ _ ⟨rfl, rfl⟩
      refine Wp.run 0 (57, [(0, .ref 0), (1, .int 3), (2, .int (nI i))], [.int (nI (c + 1))], (zsh ++ vs, (zup (zup (zup mi 25 c 3) 26 c (nI i)) 21 1 (nI (c + 1))), ml, (zmr g))) rfl ?_
      refine Wp.ret rfl rfl rfl ?_
      exact ⟨rfl, rfl⟩
    · refine Wp.run 6 (18, [(0, .ref 66), (1, .int 3), (2, .int (nI i))], [.int 3, .int 0, .int 3], (zsh ++ vs, (zup (zup (zup mi 25 c 3) 26 c (nI i)) 21 1 (nI (c + 1))), ml, (zmr g))) rfl ?_
      refine Wp.call (as := [.int 3, .int 0, .int 3]) (rest := []) rfl rfl rfl rfl rfl (Nat.le_of_ble_eq_true rfl) (Nat.le_of_ble_eq_true rfl) rfl (by decide) (m_isIn_t hw) ?_
      rintro _ _ ⟨rfl, rfl⟩
      refine Wp.run 5 (30, [(0, .ref 66), (1, .int 3), (2, .int (nI i))], [.int (nI i), .ref 66], (zsh ++ vs, (zup (zup (zup mi 25 c 3) 26 c (nI i)) 21 1 (nI (c + 1))), ml, (zmr g))) rfl ?_
      refine Wp.call (as := [.ref 66, .int (nI i)]) (rest := []) rfl rfl rfl rfl rfl (Nat.le_of_ble_eq_true rfl) (Nat.le_of_ble_eq_true rfl) rfl (by decide) (m_isOne_t (mi := (zup (zup (zup mi 25 c 3) 26 c (nI i)) 21 1 (nI (c + 1)))) hN h6 hx9) ?_
      rintro _ _ ⟨rfl, rfl⟩
      refine Wp.run 5 (45, [(0, .ref 66), (1, .int 3), (2, .int (nI i))], [.int (mi 67 87)], (zsh ++ vs, (zup (zup (zup mi 25 c 3) 26 c (nI i)) 21 1 (nI (c + 1))), ml, (zmr g))) rfl ?_
      refine Wp.topi (y := nI c) (hc2) ?_
      refine Wp.run 1 (47, [(0, .ref 66), (1, .int 3), (2, .int (nI i))], [.int 10, .int (nI c)], (zsh ++ vs, (zup (zup (zup mi 25 c 3) 26 c (nI i)) 21 1 (nI (c + 1))), ml, (zmr g))) rfl ?_
      refine Wp.icmp_ne rfl (fun h51 => ?_) (fun h51 => ?_)
      · refine Wp.run 8 (67, [(0, .ref 66), (1, .int 3), (2, .int (nI i))], [.int (mi 67 87), .int 2, .int 88, .ref 67], (zsh ++ vs, (zup (zup (zup mi 25 c 3) 26 c (nI i)) 21 1 (nI (c + 1))), ml, (zmr g))) rfl ?_
        refine Wp.topi (y := nI c) (hc2) ?_
        refine Wp.run 2 (69, [(0, .ref 66), (1, .int 3), (2, .int (nI i))], [.int (88 + (2 * (nI c))), .ref 67], (zsh ++ vs, (zup (zup (zup mi 25 c 3) 26 c (nI i)) 21 1 (nI (c + 1))), ml, (zmr g))) rfl ?_
        refine Wp.topi (y := nI (88 + 2 * c)) (ix_23 88 2 c) ?_
        refine Wp.run 1 (70, [(0, .ref 66), (1, .int 3), (2, .int (nI i))], [.int 3, .int (nI (88 + 2 * c)), .ref 67], (zsh ++ vs, (zup (zup (zup mi 25 c 3) 26 c (nI i)) 21 1 (nI (c + 1))), ml, (zmr g))) rfl ?_
        refine Wp.iasn rfl (by decide) rfl (by omega) (by decide) ?_
        refine Wp.run 8 (85, [(0, .ref 66), (1, .int 3), (2, .int (nI i))], [.int ((zup (zup (zup (zup mi 25 c 3) 26 c (nI i)) 21 1 (nI (c + 1))) 67 (88 + 2 * c) 3) 67 87), .int 2, .int 89, .ref 67], (zsh ++ vs, (zup (zup (zup (zup mi 25 c 3) 26 c (nI i)) 21 1 (nI (c + 1))) 67 (88 + 2 * c) 3), ml, (zmr g))) rfl ?_
        refine Wp.topi (y := nI c) (by rw [zup_rd (by omega)]; exact hc2) ?_
        refine Wp.run 2 (87, [(0, .ref 66), (1, .int 3), (2, .int (nI i))], [.int (89 + (2 * (nI c))), .ref 67], (zsh ++ vs, (zup (zup (zup (zup mi 25 c 3) 26 c (nI i)) 21 1 (nI (c + 1))) 67 (88 + 2 * c) 3), ml, (zmr g))) rfl ?_
        refine Wp.topi (y := nI (89 + 2 * c)) (ix_23 89 2 c) ?_
        refine Wp.run 1 (88, [(0, .ref 66), (1, .int 3), (2, .int (nI i))], [.int (nI i), .int (nI (89 + 2 * c)), .ref 67], (zsh ++ vs, (zup (zup (zup (zup mi 25 c 3) 26 c (nI i)) 21 1 (nI (c + 1))) 67 (88 + 2 * c) 3), ml, (zmr g))) rfl ?_
        refine Wp.iasn rfl (by decide) rfl (by omega) (by decide) ?_
        refine Wp.run 5 (97, [(0, .ref 66), (1, .int 3), (2, .int (nI i))], [.int ((zup (zup (zup (zup (zup mi 25 c 3) 26 c (nI i)) 21 1 (nI (c + 1))) 67 (88 + 2 * c) 3) 67 (89 + 2 * c) (nI i)) 67 87), .int 87, .ref 67], (zsh ++ vs, (zup (zup (zup (zup (zup mi 25 c 3) 26 c (nI i)) 21 1 (nI (c + 1))) 67 (88 + 2 * c) 3) 67 (89 + 2 * c) (nI i)), ml, (zmr g))) rfl ?_
        refine Wp.topi (y := nI c) (by rw [zup_rd (by omega)]; rw [zup_rd (by omega)]; exact hc2) ?_
        refine Wp.run 2 (99, [(0, .ref 66), (1, .int 3), (2, .int (nI i))], [.int ((nI c) + 1), .int 87, .ref 67], (zsh ++ vs, (zup (zup (zup (zup (zup mi 25 c 3) 26 c (nI i)) 21 1 (nI (c + 1))) 67 (88 + 2 * c) 3) 67 (89 + 2 * c) (nI i)), ml, (zmr g))) rfl ?_
        refine Wp.topi (y := nI (c + 1)) (nI_1 c) ?_
        refine Wp.run 5 (107, [(0, .ref 66), (1, .int 3), (2, .int (nI i))], [.int (nI (c + 1))], (zsh ++ vs, (zup (zup (zup (zup (zup (zup mi 25 c 3) 26 c (nI i)) 21 1 (nI (c + 1))) 67 (88 + 2 * c) 3) 67 (89 + 2 * c) (nI i)) 67 87 (nI (c + 1))), ml, (zmr g))) rfl ?_
        refine Wp.ret rfl rfl rfl ?_
        exact ⟨rfl, rfl⟩
      · exact absurd ((nI_eq (b := 10) (by omega) (by decide)).mp h51) (by omega)
    · exact (I.plan1 (w := 3) hc1 hcM (by omega) (Or.inr ⟨i, hi, rfl, rfl⟩) rfl).x
theorem sim_book {E : zEn} {nv : Nat} {VD : Nat → zV} {NL : Nat → Nat} {n dd : Nat} {vs : List (Nat × Nat)} {mi : Nat → Nat → Int32} {ml : Nat → Nat → Int64} {g : Nat → Nat → Option Nat} (I : INV nv VD NL n dd vs mi ml g) (x k : Int32) : SIM E vs mi ml g pg_H_book pg_M_book [.int x, .int k] := by
  have B := I.1.1
  have h6 := B.1.2.1
  have hn := B.2.1
  have hN := B.1.1
  have hd := B.1.2.2.1
  have hdd := I.1.2
  by_cases hm1 : x = -1
  · subst hm1
    refine SIM.u (x := 0) (m1 := (zup mi 21 2 0)) (l1 := ml) (m2 := (zup (zup mi 21 2 0) 67 108 0)) (l2 := ml) (dc := 7) (dm := 27) (by decide) (by decide) ?_ ?_ ?_
    · refine Wp.run 8 (14, [(0, .ref 0), (1, .int (-1)), (2, .int k)], [.int 0], (zsh ++ vs, (zup mi 21 2 0), ml, (zmr g))) rfl ?_
      refine Wp.ret rfl rfl rfl ?_
      exact ⟨rfl, rfl⟩
    · refine Wp.run 9 (14, [(0, .ref 66), (1, .int (-1)), (2, .int k)], [.int 0], (zsh ++ vs, (zup (zup mi 21 2 0) 67 108 0), ml, (zmr g))) rfl ?_
      refine Wp.ret rfl rfl rfl ?_
      exact ⟨rfl, rfl⟩
    · exact I.book0.x
  by_cases hp : 0 ≤ x ∧ x ≤ 7
  rotate_left
  · refine SIM.q I (x := -1) (dc := 7) (dm := 27) (by decide) (by decide) ?_ ?_
    · refine Wp.run 2 (2, [(0, .ref 0), (1, .int x), (2, .int k)], [.int (-1), .int x], (zsh ++ vs, mi, ml, (zmr g))) rfl ?_
      refine Wp.icmp_ne rfl (fun h1 => ?_) (fun h1 => ?_)
      · refine Wp.run 2 (18, [(0, .ref 0), (1, .int x), (2, .int k)], [.int 7, .int x], (zsh ++ vs, mi, ml, (zmr g))) rfl ?_
        refine Wp.call (as := [.int x, .int 7]) (rest := []) rfl rfl rfl rfl rfl (Nat.le_of_ble_eq_true rfl) (Nat.le_of_ble_eq_true rfl) rfl (by decide) (c_within_f hp) ?_
        rintro _ _ ⟨rfl, rfl⟩
        refine Wp.run 2 (25, [(0, .ref 0), (1, .int x), (2, .int k)], [.int (-1)], (zsh ++ vs, mi, ml, (zmr g))) rfl ?_
        refine Wp.ret rfl rfl rfl ?_
        exact ⟨rfl, _, _, rfl, SC.rf, fun _ _ _ => rfl⟩
      · exact absurd h1 hm1
    · intro m g' I' e67 S
      have B' := I'.1.1
      have hn' := B'.2.1
      have hN' := B'.1.1
      have hd' := B'.1.2.2.1
      refine Wp.run 2 (2, [(0, .ref 66), (1, .int x), (2, .int k)], [.int (-1), .int x], (zsh ++ vs, m, ml, (zmr g'))) rfl ?_
      refine Wp.icmp_ne rfl (fun h51 => ?_) (fun h51 => ?_)
      · refine Wp.run 1 (16, [(0, .ref 66), (1, .int x), (2, .int k)], [.int x], (zsh ++ vs, m, ml, (zmr g'))) rfl ?_
        refine Wp.call (as := [.int x]) (rest := []) rfl rfl rfl rfl rfl (Nat.le_of_ble_eq_true rfl) (Nat.le_of_ble_eq_true rfl) rfl (by decide) (m_isPart_f hp) ?_
        rintro _ _ ⟨rfl, rfl⟩
        refine Wp.run 2 (23, [(0, .ref 66), (1, .int x), (2, .int k)], [.int (-1)], (zsh ++ vs, m, ml, (zmr g'))) rfl ?_
        refine Wp.ret rfl rfl rfl ?_
        exact ⟨rfl, _, rfl, SC.rf⟩
      · exact absurd h51 hm1
  by_cases hk : 0 ≤ k ∧ k ≤ 99
  rotate_left
  · refine SIM.q I (x := -2) (dc := 7) (dm := 27) (by decide) (by decide) ?_ ?_
    · refine Wp.run 2 (2, [(0, .ref 0), (1, .int x), (2, .int k)], [.int (-1), .int x], (zsh ++ vs, mi, ml, (zmr g))) rfl ?_
      refine Wp.icmp_ne rfl (fun h1 => ?_) (fun h1 => ?_)
      · refine Wp.run 2 (18, [(0, .ref 0), (1, .int x), (2, .int k)], [.int 7, .int x], (zsh ++ vs, mi, ml, (zmr g))) rfl ?_
        refine Wp.call (as := [.int x, .int 7]) (rest := []) rfl rfl rfl rfl rfl (Nat.le_of_ble_eq_true rfl) (Nat.le_of_ble_eq_true rfl) rfl (by decide) (c_within_t hp) ?_
        rintro _ _ ⟨rfl, rfl⟩
        refine Wp.run 3 (29, [(0, .ref 0), (1, .int x), (2, .int k)], [.int 99, .int k], (zsh ++ vs, mi, ml, (zmr g))) rfl ?_
        refine Wp.call (as := [.int k, .int 99]) (rest := []) rfl rfl rfl rfl rfl (Nat.le_of_ble_eq_true rfl) (Nat.le_of_ble_eq_true rfl) rfl (by decide) (c_within_f hk) ?_
        rintro _ _ ⟨rfl, rfl⟩
        refine Wp.run 2 (37, [(0, .ref 0), (1, .int x), (2, .int k)], [.int (-2)], (zsh ++ vs, mi, ml, (zmr g))) rfl ?_
        refine Wp.ret rfl rfl rfl ?_
        exact ⟨rfl, _, _, rfl, SC.rf, fun _ _ _ => rfl⟩
      · exact absurd h1 hm1
    · intro m g' I' e67 S
      have B' := I'.1.1
      have hn' := B'.2.1
      have hN' := B'.1.1
      have hd' := B'.1.2.2.1
      refine Wp.run 2 (2, [(0, .ref 66), (1, .int x), (2, .int k)], [.int (-1), .int x], (zsh ++ vs, m, ml, (zmr g'))) rfl ?_
      refine Wp.icmp_ne rfl (fun h51 => ?_) (fun h51 => ?_)
      · refine Wp.run 1 (16, [(0, .ref 66), (1, .int x), (2, .int k)], [.int x], (zsh ++ vs, m, ml, (zmr g'))) rfl ?_
        refine Wp.call (as := [.int x]) (rest := []) rfl rfl rfl rfl rfl (Nat.le_of_ble_eq_true rfl) (Nat.le_of_ble_eq_true rfl) rfl (by decide) (m_isPart_t hp) ?_
        rintro _ _ ⟨rfl, rfl⟩
        refine Wp.run 4 (28, [(0, .ref 66), (1, .int x), (2, .int k)], [.int 99, .int 0, .int k], (zsh ++ vs, m, ml, (zmr g'))) rfl ?_
        refine Wp.call (as := [.int k, .int 0, .int 99]) (rest := []) rfl rfl rfl rfl rfl (Nat.le_of_ble_eq_true rfl) (Nat.le_of_ble_eq_true rfl) rfl (by decide) (m_isIn_f hk) ?_
        rintro _ _ ⟨rfl, rfl⟩
        refine Wp.run 2 (36, [(0, .ref 66), (1, .int x), (2, .int k)], [.int (-2)], (zsh ++ vs, m, ml, (zmr g'))) rfl ?_
        refine Wp.ret rfl rfl rfl ?_
        exact ⟨rfl, _, rfl, SC.rf⟩
      · exact absurd h51 hm1
  obtain ⟨q, hq, rfl⟩ := rng_of (h := 7) rfl hp
  obtain ⟨c, hc5, hc1, hc2, -⟩ := I.2.1.2.2
  by_cases h5 : c = 8
  · subst h5
    refine SIM.q I (x := -4) (dc := 7) (dm := 27) (by decide) (by decide) ?_ ?_
    · refine Wp.run 2 (2, [(0, .ref 0), (1, .int (nI q)), (2, .int k)], [.int (-1), .int (nI q)], (zsh ++ vs, mi, ml, (zmr g))) rfl ?_
      refine Wp.icmp_ne rfl (fun h1 => ?_) (fun h1 => ?_)
      · refine Wp.run 2 (18, [(0, .ref 0), (1, .int (nI q)), (2, .int k)], [.int 7, .int (nI q)], (zsh ++ vs, mi, ml, (zmr g))) rfl ?_
        refine Wp.call (as := [.int (nI q), .int 7]) (rest := []) rfl rfl rfl rfl rfl (Nat.le_of_ble_eq_true rfl) (Nat.le_of_ble_eq_true rfl) rfl (by decide) (c_within_t hp) ?_
        rintro _ _ ⟨rfl, rfl⟩
        refine Wp.run 3 (29, [(0, .ref 0), (1, .int (nI q)), (2, .int k)], [.int 99, .int k], (zsh ++ vs, mi, ml, (zmr g))) rfl ?_
        refine Wp.call (as := [.int k, .int 99]) (rest := []) rfl rfl rfl rfl rfl (Nat.le_of_ble_eq_true rfl) (Nat.le_of_ble_eq_true rfl) rfl (by decide) (c_within_t hk) ?_
        rintro _ _ ⟨rfl, rfl⟩
        refine Wp.run 5 (44, [(0, .ref 0), (1, .int (nI q)), (2, .int k)], [.int k, .int (nI q), .ref 21], (zsh ++ vs, mi, ml, (zmr g))) rfl ?_
        refine Wp.call (as := [.ref 21, .int (nI q), .int k]) (rest := []) rfl rfl rfl rfl rfl (Nat.le_of_ble_eq_true rfl) (Nat.le_of_ble_eq_true rfl) rfl (by decide) (c_addBook_f hc1) ?_
        rintro _ _ ⟨rfl, rfl⟩
        refine Wp.run 0 (47, [(0, .ref 0), (1, .int (nI q)), (2, .int k)], [.int (-4)], (zsh ++ vs, mi, ml, (zmr g))) rfl ?_
        refine Wp.ret rfl rfl rfl ?_
        exact ⟨rfl, _, _, rfl, SC.rf, fun _ _ _ => rfl⟩
      · exact absurd h1 hm1
    · intro m g' I' e67 S
      have B' := I'.1.1
      have hn' := B'.2.1
      have hN' := B'.1.1
      have hd' := B'.1.2.2.1
      refine Wp.run 2 (2, [(0, .ref 66), (1, .int (nI q)), (2, .int k)], [.int (-1), .int (nI q)], (zsh ++ vs, m, ml, (zmr g'))) rfl ?_
      refine Wp.icmp_ne rfl (fun h51 => ?_) (fun h51 => ?_)
      · refine Wp.run 1 (16, [(0, .ref 66), (1, .int (nI q)), (2, .int k)], [.int (nI q)], (zsh ++ vs, m, ml, (zmr g'))) rfl ?_
        refine Wp.call (as := [.int (nI q)]) (rest := []) rfl rfl rfl rfl rfl (Nat.le_of_ble_eq_true rfl) (Nat.le_of_ble_eq_true rfl) rfl (by decide) (m_isPart_t hp) ?_
        rintro _ _ ⟨rfl, rfl⟩
        refine Wp.run 4 (28, [(0, .ref 66), (1, .int (nI q)), (2, .int k)], [.int 99, .int 0, .int k], (zsh ++ vs, m, ml, (zmr g'))) rfl ?_
        refine Wp.call (as := [.int k, .int 0, .int 99]) (rest := []) rfl rfl rfl rfl rfl (Nat.le_of_ble_eq_true rfl) (Nat.le_of_ble_eq_true rfl) rfl (by decide) (m_isIn_t hk) ?_
        rintro _ _ ⟨rfl, rfl⟩
        refine Wp.run 5 (44, [(0, .ref 66), (1, .int (nI q)), (2, .int k)], [.int (m 67 108)], (zsh ++ vs, m, ml, (zmr g'))) rfl ?_
        refine Wp.topi (y := 8) ((congrFun e67 108).trans hc2) ?_
        refine Wp.run 3 (51, [(0, .ref 66), (1, .int (nI q)), (2, .int k)], [.int (-4)], (zsh ++ vs, m, ml, (zmr g'))) rfl ?_
        refine Wp.ret rfl rfl rfl ?_
        exact ⟨rfl, _, rfl, SC.rf⟩
      · exact absurd h51 hm1
  have hcM : c < 8 := by omega
  refine SIM.u (x := nI (c + 1)) (m1 := (zup (zup (zup mi 27 c (nI q)) 28 c k) 21 2 (nI (c + 1)))) (l1 := ml) (m2 := (zup (zup (zup (zup (zup (zup mi 27 c (nI q)) 28 c k) 21 2 (nI (c + 1))) 67 (109 + 2 * c) (nI q)) 67 (110 + 2 * c) k) 67 108 (nI (c + 1)))) (l2 := ml) (dc := 7) (dm := 27) (by decide) (by decide) ?_ ?_ ?_
  · refine Wp.run 2 (2, [(0, .ref 0), (1, .int (nI q)), (2, .int k)], [.int (-1), .int (nI q)], (zsh ++ vs, mi, ml, (zmr g))) rfl ?_
    refine Wp.icmp_ne rfl (fun h1 => ?_) (fun h1 => ?_)
    · refine Wp.run 2 (18, [(0, .ref 0), (1, .int (nI q)), (2, .int k)], [.int 7, .int (nI q)], (zsh ++ vs, mi, ml, (zmr g))) rfl ?_
      refine Wp.call (as := [.int (nI q), .int 7]) (rest := []) rfl rfl rfl rfl rfl (Nat.le_of_ble_eq_true rfl) (Nat.le_of_ble_eq_true rfl) rfl (by decide) (c_within_t hp) ?_
      rintro _ _ ⟨rfl, rfl⟩
      refine Wp.run 3 (29, [(0, .ref 0), (1, .int (nI q)), (2, .int k)], [.int 99, .int k], (zsh ++ vs, mi, ml, (zmr g))) rfl ?_
      refine Wp.call (as := [.int k, .int 99]) (rest := []) rfl rfl rfl rfl rfl (Nat.le_of_ble_eq_true rfl) (Nat.le_of_ble_eq_true rfl) rfl (by decide) (c_within_t hk) ?_
      rintro _ _ ⟨rfl, rfl⟩
      refine Wp.run 5 (44, [(0, .ref 0), (1, .int (nI q)), (2, .int k)], [.int k, .int (nI q), .ref 21], (zsh ++ vs, mi, ml, (zmr g))) rfl ?_
      refine Wp.call (as := [.ref 21, .int (nI q), .int k]) (rest := []) rfl rfl rfl rfl rfl (Nat.le_of_ble_eq_true rfl) (Nat.le_of_ble_eq_true rfl) rfl (by decide) (c_addBook hc1 hcM) ?_
      rintro _ _ ⟨rfl, rfl⟩
      refine Wp.run 0 (47, [(0, .ref 0), (1, .int (nI q)), (2, .int k)], [.int (nI (c + 1))], (zsh ++ vs, (zup (zup (zup mi 27 c (nI q)) 28 c k) 21 2 (nI (c + 1))), ml, (zmr g))) rfl ?_
      refine Wp.ret rfl rfl rfl ?_
      exact ⟨rfl, rfl⟩
    · exact absurd h1 hm1
  · refine Wp.run 2 (2, [(0, .ref 66), (1, .int (nI q)), (2, .int k)], [.int (-1), .int (nI q)], (zsh ++ vs, (zup (zup (zup mi 27 c (nI q)) 28 c k) 21 2 (nI (c + 1))), ml, (zmr g))) rfl ?_
    refine Wp.icmp_ne rfl (fun h51 => ?_) (fun h51 => ?_)
    · refine Wp.run 1 (16, [(0, .ref 66), (1, .int (nI q)), (2, .int k)], [.int (nI q)], (zsh ++ vs, (zup (zup (zup mi 27 c (nI q)) 28 c k) 21 2 (nI (c + 1))), ml, (zmr g))) rfl ?_
      refine Wp.call (as := [.int (nI q)]) (rest := []) rfl rfl rfl rfl rfl (Nat.le_of_ble_eq_true rfl) (Nat.le_of_ble_eq_true rfl) rfl (by decide) (m_isPart_t hp) ?_
      rintro _ _ ⟨rfl, rfl⟩
      refine Wp.run 4 (28, [(0, .ref 66), (1, .int (nI q)), (2, .int k)], [.int 99, .int 0, .int k], (zsh ++ vs, (zup (zup (zup mi 27 c (nI q)) 28 c k) 21 2 (nI (c + 1))), ml, (zmr g))) rfl ?_
      refine Wp.call (as := [.int k, .int 0, .int 99]) (rest := []) rfl rfl rfl rfl rfl (Nat.le_of_ble_eq_true rfl) (Nat.le_of_ble_eq_true rfl) rfl (by decide) (m_isIn_t hk) ?_
      rintro _ _ ⟨rfl, rfl⟩
      refine Wp.run 5 (44, [(0, .ref 66), (1, .int (nI q)), (2, .int k)], [.int (mi 67 108)], (zsh ++ vs, (zup (zup (zup mi 27 c (nI q)) 28 c k) 21 2 (nI (c + 1))), ml, (zmr g))) rfl ?_
      refine Wp.topi (y := nI c) (hc2) ?_
      refine Wp.run 1 (46, [(0, .ref 66), (1, .int (nI q)), (2, .int k)], [.int 8, .int (nI c)], (zsh ++ vs, (zup (zup (zup mi 27 c (nI q)) 28 c k) 21 2 (nI (c + 1))), ml, (zmr g))) rfl ?_
      refine Wp.icmp_ne rfl (fun h52 => ?_) (fun h52 => ?_)
      · refine Wp.run 8 (66, [(0, .ref 66), (1, .int (nI q)), (2, .int k)], [.int (mi 67 108), .int 2, .int 109, .ref 67], (zsh ++ vs, (zup (zup (zup mi 27 c (nI q)) 28 c k) 21 2 (nI (c + 1))), ml, (zmr g))) rfl ?_
        refine Wp.topi (y := nI c) (hc2) ?_
        refine Wp.run 2 (68, [(0, .ref 66), (1, .int (nI q)), (2, .int k)], [.int (109 + (2 * (nI c))), .ref 67], (zsh ++ vs, (zup (zup (zup mi 27 c (nI q)) 28 c k) 21 2 (nI (c + 1))), ml, (zmr g))) rfl ?_
        refine Wp.topi (y := nI (109 + 2 * c)) (ix_23 109 2 c) ?_
        refine Wp.run 1 (69, [(0, .ref 66), (1, .int (nI q)), (2, .int k)], [.int (nI q), .int (nI (109 + 2 * c)), .ref 67], (zsh ++ vs, (zup (zup (zup mi 27 c (nI q)) 28 c k) 21 2 (nI (c + 1))), ml, (zmr g))) rfl ?_
        refine Wp.iasn rfl (by decide) rfl (by omega) (by decide) ?_
        refine Wp.run 8 (84, [(0, .ref 66), (1, .int (nI q)), (2, .int k)], [.int ((zup (zup (zup (zup mi 27 c (nI q)) 28 c k) 21 2 (nI (c + 1))) 67 (109 + 2 * c) (nI q)) 67 108), .int 2, .int 110, .ref 67], (zsh ++ vs, (zup (zup (zup (zup mi 27 c (nI q)) 28 c k) 21 2 (nI (c + 1))) 67 (109 + 2 * c) (nI q)), ml, (zmr g))) rfl ?_
        refine Wp.topi (y := nI c) (by rw [zup_rd (by omega)]; exact hc2) ?_
        refine Wp.run 2 (86, [(0, .ref 66), (1, .int (nI q)), (2, .int k)], [.int (110 + (2 * (nI c))), .ref 67], (zsh ++ vs, (zup (zup (zup (zup mi 27 c (nI q)) 28 c k) 21 2 (nI (c + 1))) 67 (109 + 2 * c) (nI q)), ml, (zmr g))) rfl ?_
        refine Wp.topi (y := nI (110 + 2 * c)) (ix_23 110 2 c) ?_
        refine Wp.run 1 (87, [(0, .ref 66), (1, .int (nI q)), (2, .int k)], [.int k, .int (nI (110 + 2 * c)), .ref 67], (zsh ++ vs, (zup (zup (zup (zup mi 27 c (nI q)) 28 c k) 21 2 (nI (c + 1))) 67 (109 + 2 * c) (nI q)), ml, (zmr g))) rfl ?_
        refine Wp.iasn rfl (by decide) rfl (by omega) (by decide) ?_
        refine Wp.run 5 (96, [(0, .ref 66), (1, .int (nI q)), (2, .int k)], [.int ((zup (zup (zup (zup (zup mi 27 c (nI q)) 28 c k) 21 2 (nI (c + 1))) 67 (109 + 2 * c) (nI q)) 67 (110 + 2 * c) k) 67 108), .int 108, .ref 67], (zsh ++ vs, (zup (zup (zup (zup (zup mi 27 c (nI q)) 28 c k) 21 2 (nI (c + 1))) 67 (109 + 2 * c) (nI q)) 67 (110 + 2 * c) k), ml, (zmr g))) rfl ?_
        refine Wp.topi (y := nI c) (by rw [zup_rd (by omega)]; rw [zup_rd (by omega)]; exact hc2) ?_
        refine Wp.run 2 (98, [(0, .ref 66), (1, .int (nI q)), (2, .int k)], [.int ((nI c) + 1), .int 108, .ref 67], (zsh ++ vs, (zup (zup (zup (zup (zup mi 27 c (nI q)) 28 c k) 21 2 (nI (c + 1))) 67 (109 + 2 * c) (nI q)) 67 (110 + 2 * c) k), ml, (zmr g))) rfl ?_
        refine Wp.topi (y := nI (c + 1)) (nI_1 c) ?_
        refine Wp.run 5 (106, [(0, .ref 66), (1, .int (nI q)), (2, .int k)], [.int (nI (c + 1))], (zsh ++ vs, (zup (zup (zup (zup (zup (zup mi 27 c (nI q)) 28 c k) 21 2 (nI (c + 1))) 67 (109 + 2 * c) (nI q)) 67 (110 + 2 * c) k) 67 108 (nI (c + 1))), ml, (zmr g))) rfl ?_
        refine Wp.ret rfl rfl rfl ?_
        exact ⟨rfl, rfl⟩
      · exact absurd ((nI_eq (b := 8) (by omega) (by decide)).mp h52) (by omega)
    · exact absurd h51 hm1
  · exact (I.book1 hc1 hcM hq rfl).x
theorem c_add {E : zEn} {vs : List (Nat × Nat)} {mi : Nat → Nat → Int32} {ml : Nat → Nat → Int64} {g : Nat → Nat → Option Nat} {s : Int32} {L : Nat} (hc : mi 48 0 = nI L) (hM : L < 100) : Wp E 0 pg_Text_add 0 (lv_args 0 [.ref 48, .int s]) [] (zsh ++ vs, mi, ml, (zmr g)) (fun r w' => r = some (.int 1) ∧ w' = (zsh ++ vs, (zup (zup mi 48 0 (nI (L + 1))) 49 L s), ml, zmr g)) := by
  refine Wp.run 2 (4, [(0, .ref 48), (1, .int s)], [.int (mi 48 0)], (zsh ++ vs, mi, ml, (zmr g))) rfl ?_
  refine Wp.topi (y := nI L) (hc) ?_
  refine Wp.run 1 (6, [(0, .ref 48), (1, .int s)], [.int 100, .int (nI L)], (zsh ++ vs, mi, ml, (zmr g))) rfl ?_
  refine Wp.icmp_lt rfl (fun h1 => ?_) (fun h1 => ?_)
  · refine Wp.run 5 (20, [(0, .ref 48), (1, .int s)], [.int (mi 48 0), .ref 48, .ref 49], (zsh ++ vs, mi, ml, (zmr g))) rfl ?_
    refine Wp.topi (y := nI L) (hc) ?_
    refine Wp.run 3 (23, [(0, .ref 48), (1, .int s)], [.int ((nI L) + 1), .ref 48, .int (nI L), .ref 49], (zsh ++ vs, mi, ml, (zmr g))) rfl ?_
    refine Wp.topi (y := nI (L + 1)) (nI_1 L) ?_
    refine Wp.run 2 (27, [(0, .ref 48), (1, .int s)], [.int s, .int (nI L), .ref 49], (zsh ++ vs, (zup mi 48 0 (nI (L + 1))), ml, (zmr g))) rfl ?_
    refine Wp.iasn rfl (by decide) rfl (by omega) (by decide) ?_
    refine Wp.run 1 (29, [(0, .ref 48), (1, .int s)], [.int 1], (zsh ++ vs, (zup (zup mi 48 0 (nI (L + 1))) 49 L s), ml, (zmr g))) rfl ?_
    refine Wp.ret rfl rfl rfl ?_
    exact ⟨rfl, rfl⟩
  · exact absurd (nI_lt (b := 100) hM (by decide)) h1
theorem c_add_f {E : zEn} {vs : List (Nat × Nat)} {mi : Nat → Nat → Int32} {ml : Nat → Nat → Int64} {g : Nat → Nat → Option Nat} {s : Int32} (hc : mi 48 0 = nI 100) : Wp E 0 pg_Text_add 0 (lv_args 0 [.ref 48, .int s]) [] (zsh ++ vs, mi, ml, (zmr g)) (fun r w' => r = some (.int 0) ∧ w' = (zsh ++ vs, mi, ml, zmr g)) := by
  refine Wp.run 2 (4, [(0, .ref 48), (1, .int s)], [.int (mi 48 0)], (zsh ++ vs, mi, ml, (zmr g))) rfl ?_
  refine Wp.topi (y := 100) (hc) ?_
  refine Wp.run 3 (10, [(0, .ref 48), (1, .int s)], [.int 0], (zsh ++ vs, mi, ml, (zmr g))) rfl ?_
  refine Wp.ret rfl rfl rfl ?_
  exact ⟨rfl, rfl⟩
theorem sim_feed {E : zEn} {nv : Nat} {VD : Nat → zV} {NL : Nat → Nat} {n dd : Nat} {vs : List (Nat × Nat)} {mi : Nat → Nat → Int32} {ml : Nat → Nat → Int64} {g : Nat → Nat → Option Nat} (I : INV nv VD NL n dd vs mi ml g) (k : Int32) : SIM E vs mi ml g pg_H_feed pg_M_feed [.int k] := by
  have B := I.1.1
  have h6 := B.1.2.1
  have hn := B.2.1
  have hN := B.1.1
  have hd := B.1.2.2.1
  have hdd := I.1.2
  by_cases hk : 0 ≤ k ∧ k ≤ 127
  rotate_left
  · refine SIM.q I (x := -2) (dc := 7) (dm := 27) (by decide) (by decide) ?_ ?_
    · refine Wp.run 2 (3, [(0, .ref 0), (1, .int k)], [.int 127, .int k], (zsh ++ vs, mi, ml, (zmr g))) rfl ?_
      refine Wp.call (as := [.int k, .int 127]) (rest := []) rfl rfl rfl rfl rfl (Nat.le_of_ble_eq_true rfl) (Nat.le_of_ble_eq_true rfl) rfl (by decide) (c_within_f hk) ?_
      rintro _ _ ⟨rfl, rfl⟩
      refine Wp.run 2 (11, [(0, .ref 0), (1, .int k)], [.int (-2)], (zsh ++ vs, mi, ml, (zmr g))) rfl ?_
      refine Wp.ret rfl rfl rfl ?_
      exact ⟨rfl, _, _, rfl, SC.rf, fun _ _ _ => rfl⟩
    · intro m g' I' e67 S
      have B' := I'.1.1
      have hn' := B'.2.1
      have hN' := B'.1.1
      have hd' := B'.1.2.2.1
      refine Wp.run 3 (4, [(0, .ref 66), (1, .int k)], [.int 127, .int 0, .int k], (zsh ++ vs, m, ml, (zmr g'))) rfl ?_
      refine Wp.call (as := [.int k, .int 0, .int 127]) (rest := []) rfl rfl rfl rfl rfl (Nat.le_of_ble_eq_true rfl) (Nat.le_of_ble_eq_true rfl) rfl (by decide) (m_isIn_f hk) ?_
      rintro _ _ ⟨rfl, rfl⟩
      refine Wp.run 2 (12, [(0, .ref 66), (1, .int k)], [.int (-2)], (zsh ++ vs, m, ml, (zmr g'))) rfl ?_
      refine Wp.ret rfl rfl rfl ?_
      exact ⟨rfl, _, rfl, SC.rf⟩
  obtain ⟨q, hq, rfl⟩ := rng_of (h := 127) rfl hk
  obtain ⟨L, hL, hc1, hc2, hc3⟩ := I.2.2.2.1
  by_cases h5 : L = 100
  · subst h5
    refine SIM.q I (x := -4) (dc := 7) (dm := 27) (by decide) (by decide) ?_ ?_
    · refine Wp.run 2 (3, [(0, .ref 0), (1, .int (nI q))], [.int 127, .int (nI q)], (zsh ++ vs, mi, ml, (zmr g))) rfl ?_
      refine Wp.call (as := [.int (nI q), .int 127]) (rest := []) rfl rfl rfl rfl rfl (Nat.le_of_ble_eq_true rfl) (Nat.le_of_ble_eq_true rfl) rfl (by decide) (c_within_t hk) ?_
      rintro _ _ ⟨rfl, rfl⟩
      refine Wp.run 4 (17, [(0, .ref 0), (1, .int (nI q))], [.int (nI q), .ref 48], (zsh ++ vs, mi, ml, (zmr g))) rfl ?_
      refine Wp.call (as := [.ref 48, .int (nI q)]) (rest := []) rfl rfl rfl rfl rfl (Nat.le_of_ble_eq_true rfl) (Nat.le_of_ble_eq_true rfl) rfl (by decide) (c_add_f hc1) ?_
      rintro _ _ ⟨rfl, rfl⟩
      refine Wp.run 2 (35, [(0, .ref 0), (1, .int (nI q))], [.int (-4)], (zsh ++ vs, mi, ml, (zmr g))) rfl ?_
      refine Wp.ret rfl rfl rfl ?_
      exact ⟨rfl, _, _, rfl, SC.rf, fun _ _ _ => rfl⟩
    · intro m g' I' e67 S
      have B' := I'.1.1
      have hn' := B'.2.1
      have hN' := B'.1.1
      have hd' := B'.1.2.2.1
      refine Wp.run 3 (4, [(0, .ref 66), (1, .int (nI q))], [.int 127, .int 0, .int (nI q)], (zsh ++ vs, m, ml, (zmr g'))) rfl ?_
      refine Wp.call (as := [.int (nI q), .int 0, .int 127]) (rest := []) rfl rfl rfl rfl rfl (Nat.le_of_ble_eq_true rfl) (Nat.le_of_ble_eq_true rfl) rfl (by decide) (m_isIn_t hk) ?_
      rintro _ _ ⟨rfl, rfl⟩
      refine Wp.run 3 (17, [(0, .ref 66), (1, .int (nI q))], [.int (m 66 5)], (zsh ++ vs, m, ml, (zmr g'))) rfl ?_
      refine Wp.topi (y := 100) ((S.2.2.2 5 (by decide)).trans hc2) ?_
      refine Wp.run 3 (24, [(0, .ref 66), (1, .int (nI q))], [.int (-4)], (zsh ++ vs, m, ml, (zmr g'))) rfl ?_
      refine Wp.ret rfl rfl rfl ?_
      exact ⟨rfl, _, rfl, SC.rf⟩
  have hcM : L < 100 := by omega
  refine SIM.u (x := nI (L + 1)) (m1 := (zup (zup mi 48 0 (nI (L + 1))) 49 L (nI q))) (l1 := ml) (m2 := (zup (zup (zup (zup mi 48 0 (nI (L + 1))) 49 L (nI q)) 70 L (nI q)) 66 5 (nI (L + 1)))) (l2 := ml) (dc := 7) (dm := 27) (by decide) (by decide) ?_ ?_ ?_
  · refine Wp.run 2 (3, [(0, .ref 0), (1, .int (nI q))], [.int 127, .int (nI q)], (zsh ++ vs, mi, ml, (zmr g))) rfl ?_
    refine Wp.call (as := [.int (nI q), .int 127]) (rest := []) rfl rfl rfl rfl rfl (Nat.le_of_ble_eq_true rfl) (Nat.le_of_ble_eq_true rfl) rfl (by decide) (c_within_t hk) ?_
    rintro _ _ ⟨rfl, rfl⟩
    refine Wp.run 4 (17, [(0, .ref 0), (1, .int (nI q))], [.int (nI q), .ref 48], (zsh ++ vs, mi, ml, (zmr g))) rfl ?_
    refine Wp.call (as := [.ref 48, .int (nI q)]) (rest := []) rfl rfl rfl rfl rfl (Nat.le_of_ble_eq_true rfl) (Nat.le_of_ble_eq_true rfl) rfl (by decide) (c_add hc1 hcM) ?_
    rintro _ _ ⟨rfl, rfl⟩
    refine Wp.run 5 (35, [(0, .ref 0), (1, .int (nI q))], [.int (nI (L + 1))], (zsh ++ vs, (zup (zup mi 48 0 (nI (L + 1))) 49 L (nI q)), ml, (zmr g))) rfl ?_
    refine Wp.ret rfl rfl rfl ?_
    exact ⟨rfl, rfl⟩
  · refine Wp.run 3 (4, [(0, .ref 66), (1, .int (nI q))], [.int 127, .int 0, .int (nI q)], (zsh ++ vs, (zup (zup mi 48 0 (nI (L + 1))) 49 L (nI q)), ml, (zmr g))) rfl ?_
    refine Wp.call (as := [.int (nI q), .int 0, .int 127]) (rest := []) rfl rfl rfl rfl rfl (Nat.le_of_ble_eq_true rfl) (Nat.le_of_ble_eq_true rfl) rfl (by decide) (m_isIn_t hk) ?_
    rintro _ _ ⟨rfl, rfl⟩
    refine Wp.run 3 (17, [(0, .ref 66), (1, .int (nI q))], [.int (mi 66 5)], (zsh ++ vs, (zup (zup mi 48 0 (nI (L + 1))) 49 L (nI q)), ml, (zmr g))) rfl ?_
    refine Wp.topi (y := nI L) (hc2) ?_
    refine Wp.run 1 (19, [(0, .ref 66), (1, .int (nI q))], [.int 100, .int (nI L)], (zsh ++ vs, (zup (zup mi 48 0 (nI (L + 1))) 49 L (nI q)), ml, (zmr g))) rfl ?_
    refine Wp.icmp_ne rfl (fun h51 => ?_) (fun h51 => ?_)
    · refine Wp.run 4 (33, [(0, .ref 66), (1, .int (nI q))], [.int (mi 66 5), .ref 70], (zsh ++ vs, (zup (zup mi 48 0 (nI (L + 1))) 49 L (nI q)), ml, (zmr g))) rfl ?_
      refine Wp.topi (y := nI L) (hc2) ?_
      refine Wp.run 1 (34, [(0, .ref 66), (1, .int (nI q))], [.int (nI q), .int (nI L), .ref 70], (zsh ++ vs, (zup (zup mi 48 0 (nI (L + 1))) 49 L (nI q)), ml, (zmr g))) rfl ?_
      refine Wp.iasn rfl (by decide) rfl (by omega) (by decide) ?_
      refine Wp.run 3 (40, [(0, .ref 66), (1, .int (nI q))], [.int (mi 66 5), .ref 66], (zsh ++ vs, (zup (zup (zup mi 48 0 (nI (L + 1))) 49 L (nI q)) 70 L (nI q)), ml, (zmr g))) rfl ?_
      refine Wp.topi (y := nI L) (hc2) ?_
      refine Wp.run 2 (42, [(0, .ref 66), (1, .int (nI q))], [.int ((nI L) + 1), .ref 66], (zsh ++ vs, (zup (zup (zup mi 48 0 (nI (L + 1))) 49 L (nI q)) 70 L (nI q)), ml, (zmr g))) rfl ?_
      refine Wp.topi (y := nI (L + 1)) (nI_1 L) ?_
      refine Wp.run 3 (49, [(0, .ref 66), (1, .int (nI q))], [.int (nI (L + 1))], (zsh ++ vs, (zup (zup (zup (zup mi 48 0 (nI (L + 1))) 49 L (nI q)) 70 L (nI q)) 66 5 (nI (L + 1))), ml, (zmr g))) rfl ?_
      refine Wp.ret rfl rfl rfl ?_
      exact ⟨rfl, rfl⟩
    · exact absurd ((nI_eq (b := 100) (by omega) (by decide)).mp h51) (by omega)
  · obtain ⟨i1, i2, i6, -, i8, i9, i10, i11⟩ := I
    have eb : ∀ b, ¬ b = 48 → ¬ b = 49 → ¬ b = 66 → ¬ b = 70 → zup (zup (zup (zup mi 48 0 (nI (L + 1))) 49 L (nI q)) 70 L (nI q)) 66 5 (nI (L + 1)) b = mi b := fun b p1 p2 p3 p4 => by rw [zup_ne p3, zup_ne p4, zup_ne p2, zup_ne p1]
    have e66 : ∀ k, ¬ k = 5 → zup (zup (zup (zup mi 48 0 (nI (L + 1))) 49 L (nI q)) 70 L (nI q)) 66 5 (nI (L + 1)) 66 k = mi 66 k := fun k hk => by rw [zup_rd hk, zup_ne (by decide), zup_ne (by decide), zup_ne (by decide)]
    refine INV.x (nv := nv) (VD := VD) (NL := NL) (n := n) (dd := dd) ⟨⟨?_, i1.2⟩, ⟨?_, ?_, ?_⟩, ?_, ?_, ?_, ?_, ?_, ?_⟩
    · rw [eb 67 (by decide) (by decide) (by decide) (by decide)]; exact BR_fr i1.1 (fun b p q => eb b (by omega) (by omega) (by omega) (by omega))
    · rw [eb 67 (by decide) (by decide) (by decide) (by decide)]; exact i2.1.fr (by rw [eb 21 (by decide) (by decide) (by decide) (by decide)]) (eb _ (by decide) (by decide) (by decide) (by decide)) (eb _ (by decide) (by decide) (by decide) (by decide)) (eb _ (by decide) (by decide) (by decide) (by decide)) (fun _ _ _ => rfl) (Nat.le_refl _)
    · rw [eb 67 (by decide) (by decide) (by decide) (by decide)]; exact i2.2.1.fr (by rw [eb 21 (by decide) (by decide) (by decide) (by decide)]) (eb _ (by decide) (by decide) (by decide) (by decide)) (eb _ (by decide) (by decide) (by decide) (by decide)) (fun _ _ _ => rfl) (Nat.le_refl _)
    · rw [eb 67 (by decide) (by decide) (by decide) (by decide)]; exact i2.2.2.fr (by rw [eb 21 (by decide) (by decide) (by decide) (by decide)]) (eb _ (by decide) (by decide) (by decide) (by decide)) (eb _ (by decide) (by decide) (by decide) (by decide)) (fun _ _ _ => rfl)
    · exact i6.fr (by rw [eb 0 (by decide) (by decide) (by decide) (by decide)]) (e66 3 (by decide)) (fun b hb => eb b (by omega) (by omega) (by omega) (by omega)) rfl
    · refine ⟨L + 1, by omega, by rw [zup_ne (by decide), zup_ne (by decide), zup_ne (by decide), zup_at], by rw [zup_at], fun j hj => ?_⟩
      rw [zup_ne (show ¬ 49 = 66 by decide), zup_ne (show ¬ 49 = 70 by decide), zup_eq, zup_ne (show ¬ 49 = 48 by decide), zup_ne (show ¬ 70 = 66 by decide), zup_eq, zup_ne (show ¬ 70 = 49 by decide), zup_ne (show ¬ 70 = 48 by decide)]
      by_cases hjl : j = L
      · subst hjl; rw [upd_at, upd_at]; exact ⟨rfl, q, hq, rfl⟩
      · rw [upd_ne hjl, upd_ne hjl]; exact hc3 j (by omega)
    · exact i8.fr (by rw [eb 0 (by decide) (by decide) (by decide) (by decide)]) (e66 8 (by decide)) (eb _ (by decide) (by decide) (by decide) (by decide)) (eb _ (by decide) (by decide) (by decide) (by decide)) (fun b hb => eb b (by omega) (by omega) (by omega) (by omega)) (fun _ _ => rfl)
    · exact i9.fr (by rw [eb 51 (by decide) (by decide) (by decide) (by decide)]) (e66 24 (by decide)) (eb _ (by decide) (by decide) (by decide) (by decide)) (eb _ (by decide) (by decide) (by decide) (by decide))
    · exact i10.fr (fun b p q => eb b (by omega) (by omega) (by omega) (by omega)) (eb _ (by decide) (by decide) (by decide) (by decide)) (eb _ (by decide) (by decide) (by decide) (by decide)) (fun _ _ => rfl)
    · exact i11.fr (fun b hb => eb b (by omega) (by omega) (by omega) (by omega))
