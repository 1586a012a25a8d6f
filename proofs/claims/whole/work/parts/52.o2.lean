/-! THE CALLS: set, away, sacks, teach, row -/
theorem sim_set {E : zEn} {nv : Nat} {VD : Nat → zV} {NL : Nat → Nat} {n dd : Nat} {vs : List (Nat × Nat)} {mi : Nat → Nat → Int32} {ml : Nat → Nat → Int64} {g : Nat → Nat → Option Nat} (I : INV nv VD NL n dd vs mi ml g) (x w k : Int32) : SIM E vs mi ml g pg_H_set pg_M_set [.int x, .int w, .int k] := by
  have B := I.1.1
  have h6 := B.1.2.1
  have hn := B.2.1
  have hN := B.1.1
  have hd := B.1.2.2.1
  have hdd := I.1.2
  by_cases hx : one n x
  rotate_left
  · refine SIM.q I (x := -1) (dc := 7) (dm := 27) (by decide) (by decide) ?_ ?_
    · refine Wp.run 3 (5, [(0, .ref 0), (1, .int x), (2, .int w), (3, .int k)], [.int x, .ref 1], (zsh ++ vs, mi, ml, (zmr g))) rfl ?_
      refine Wp.call (as := [.ref 1, .int x]) (rest := []) rfl rfl rfl rfl rfl (Nat.le_of_ble_eq_true rfl) (Nat.le_of_ble_eq_true rfl) rfl (by decide) (c_has_f (mi := mi) hn h6 hx) ?_
      rintro _ _ ⟨rfl, rfl⟩
      refine Wp.run 2 (20, [(0, .ref 0), (1, .int x), (2, .int w), (3, .int k)], [.int (-1)], (zsh ++ vs, mi, ml, (zmr g))) rfl ?_
      refine Wp.ret rfl rfl rfl ?_
      exact ⟨rfl, _, _, rfl, SC.rf, fun _ _ _ => rfl⟩
    · intro m g' I' e67 S
      have B' := I'.1.1
      have hn' := B'.2.1
      have hN' := B'.1.1
      have hd' := B'.1.2.2.1
      refine Wp.run 2 (2, [(0, .ref 66), (1, .int x), (2, .int w), (3, .int k)], [.int x, .ref 66], (zsh ++ vs, m, ml, (zmr g'))) rfl ?_
      refine Wp.call (as := [.ref 66, .int x]) (rest := []) rfl rfl rfl rfl rfl (Nat.le_of_ble_eq_true rfl) (Nat.le_of_ble_eq_true rfl) rfl (by decide) (m_isOne_f (mi := m) hN' h6 hx) ?_
      rintro _ _ ⟨rfl, rfl⟩
      refine Wp.run 2 (18, [(0, .ref 66), (1, .int x), (2, .int w), (3, .int k)], [.int (-1)], (zsh ++ vs, m, ml, (zmr g'))) rfl ?_
      refine Wp.ret rfl rfl rfl ?_
      exact ⟨rfl, _, rfl, SC.rf⟩
  have hx9 := hx
  obtain ⟨i, hi, rfl⟩ := hx
  by_cases hw : 0 ≤ w ∧ w ≤ 1
  rotate_left
  · refine SIM.q I (x := -1) (dc := 7) (dm := 27) (by decide) (by decide) ?_ ?_
    · refine Wp.run 3 (5, [(0, .ref 0), (1, .int (nI i)), (2, .int w), (3, .int k)], [.int (nI i), .ref 1], (zsh ++ vs, mi, ml, (zmr g))) rfl ?_
      refine Wp.call (as := [.ref 1, .int (nI i)]) (rest := []) rfl rfl rfl rfl rfl (Nat.le_of_ble_eq_true rfl) (Nat.le_of_ble_eq_true rfl) rfl (by decide) (c_has_t (mi := mi) hn h6 hx9) ?_
      rintro _ _ ⟨rfl, rfl⟩
      refine Wp.run 3 (13, [(0, .ref 0), (1, .int (nI i)), (2, .int w), (3, .int k)], [.int 1, .int w], (zsh ++ vs, mi, ml, (zmr g))) rfl ?_
      refine Wp.call (as := [.int w, .int 1]) (rest := []) rfl rfl rfl rfl rfl (Nat.le_of_ble_eq_true rfl) (Nat.le_of_ble_eq_true rfl) rfl (by decide) (c_within_f hw) ?_
      rintro _ _ ⟨rfl, rfl⟩
      refine Wp.run 2 (20, [(0, .ref 0), (1, .int (nI i)), (2, .int w), (3, .int k)], [.int (-1)], (zsh ++ vs, mi, ml, (zmr g))) rfl ?_
      refine Wp.ret rfl rfl rfl ?_
      exact ⟨rfl, _, _, rfl, SC.rf, fun _ _ _ => rfl⟩
    · intro m g' I' e67 S
      have B' := I'.1.1
      have hn' := B'.2.1
      have hN' := B'.1.1
      have hd' := B'.1.2.2.1
      refine Wp.run 2 (2, [(0, .ref 66), (1, .int (nI i)), (2, .int w), (3, .int k)], [.int (nI i), .ref 66], (zsh ++ vs, m, ml, (zmr g'))) rfl ?_
      refine Wp.call (as := [.ref 66, .int (nI i)]) (rest := []) rfl rfl rfl rfl rfl (Nat.le_of_ble_eq_true rfl) (Nat.le_of_ble_eq_true rfl) rfl (by decide) (m_isOne_t (mi := m) hN' h6 hx9) ?_
      rintro _ _ ⟨rfl, rfl⟩
      refine Wp.run 4 (11, [(0, .ref 66), (1, .int (nI i)), (2, .int w), (3, .int k)], [.int 1, .int 0, .int w], (zsh ++ vs, m, ml, (zmr g'))) rfl ?_
      refine Wp.call (as := [.int w, .int 0, .int 1]) (rest := []) rfl rfl rfl rfl rfl (Nat.le_of_ble_eq_true rfl) (Nat.le_of_ble_eq_true rfl) rfl (by decide) (m_isIn_f hw) ?_
      rintro _ _ ⟨rfl, rfl⟩
      refine Wp.run 2 (18, [(0, .ref 66), (1, .int (nI i)), (2, .int w), (3, .int k)], [.int (-1)], (zsh ++ vs, m, ml, (zmr g'))) rfl ?_
      refine Wp.ret rfl rfl rfl ?_
      exact ⟨rfl, _, rfl, SC.rf⟩
  obtain ⟨q, hq, rfl⟩ := rng_of (h := 1) rfl hw
  rcases (show q = 0 ∨ q = 1 by omega) with rfl | rfl
  · by_cases hk : 0 ≤ k ∧ k ≤ 255
    rotate_left
    · refine SIM.q I (x := -2) (dc := 7) (dm := 27) (by decide) (by decide) ?_ ?_
      · refine Wp.run 3 (5, [(0, .ref 0), (1, .int (nI i)), (2, .int 0), (3, .int k)], [.int (nI i), .ref 1], (zsh ++ vs, mi, ml, (zmr g))) rfl ?_
        refine Wp.call (as := [.ref 1, .int (nI i)]) (rest := []) rfl rfl rfl rfl rfl (Nat.le_of_ble_eq_true rfl) (Nat.le_of_ble_eq_true rfl) rfl (by decide) (c_has_t (mi := mi) hn h6 hx9) ?_
        rintro _ _ ⟨rfl, rfl⟩
        refine Wp.run 3 (13, [(0, .ref 0), (1, .int (nI i)), (2, .int 0), (3, .int k)], [.int 1, .int 0], (zsh ++ vs, mi, ml, (zmr g))) rfl ?_
        refine Wp.call (as := [.int 0, .int 1]) (rest := []) rfl rfl rfl rfl rfl (Nat.le_of_ble_eq_true rfl) (Nat.le_of_ble_eq_true rfl) rfl (by decide) (c_within_t hw) ?_
        rintro _ _ ⟨rfl, rfl⟩
        refine Wp.run 6 (34, [(0, .ref 0), (1, .int (nI i)), (2, .int 0), (3, .int k)], [.int 255, .int k], (zsh ++ vs, mi, ml, (zmr g))) rfl ?_
        refine Wp.call (as := [.int k, .int 255]) (rest := []) rfl rfl rfl rfl rfl (Nat.le_of_ble_eq_true rfl) (Nat.le_of_ble_eq_true rfl) rfl (by decide) (c_within_f hk) ?_
        rintro _ _ ⟨rfl, rfl⟩
        refine Wp.run 2 (42, [(0, .ref 0), (1, .int (nI i)), (2, .int 0), (3, .int k)], [.int (-2)], (zsh ++ vs, mi, ml, (zmr g))) rfl ?_
        refine Wp.ret rfl rfl rfl ?_
        exact ⟨rfl, _, _, rfl, SC.rf, fun _ _ _ => rfl⟩
      · intro m g' I' e67 S
        have B' := I'.1.1
        have hn' := B'.2.1
        have hN' := B'.1.1
        have hd' := B'.1.2.2.1
        refine Wp.run 2 (2, [(0, .ref 66), (1, .int (nI i)), (2, .int 0), (3, .int k)], [.int (nI i), .ref 66], (zsh ++ vs, m, ml, (zmr g'))) rfl ?_
        refine Wp.call (as := [.ref 66, .int (nI i)]) (rest := []) rfl rfl rfl rfl rfl (Nat.le_of_ble_eq_true rfl) (Nat.le_of_ble_eq_true rfl) rfl (by decide) (m_isOne_t (mi := m) hN' h6 hx9) ?_
        rintro _ _ ⟨rfl, rfl⟩
        refine Wp.run 4 (11, [(0, .ref 66), (1, .int (nI i)), (2, .int 0), (3, .int k)], [.int 1, .int 0, .int 0], (zsh ++ vs, m, ml, (zmr g'))) rfl ?_
        refine Wp.call (as := [.int 0, .int 0, .int 1]) (rest := []) rfl rfl rfl rfl rfl (Nat.le_of_ble_eq_true rfl) (Nat.le_of_ble_eq_true rfl) rfl (by decide) (m_isIn_t hw) ?_
        rintro _ _ ⟨rfl, rfl⟩
        refine Wp.run 7 (33, [(0, .ref 66), (1, .int (nI i)), (2, .int 0), (3, .int k)], [.int 255, .int 0, .int k], (zsh ++ vs, m, ml, (zmr g'))) rfl ?_
        refine Wp.call (as := [.int k, .int 0, .int 255]) (rest := []) rfl rfl rfl rfl rfl (Nat.le_of_ble_eq_true rfl) (Nat.le_of_ble_eq_true rfl) rfl (by decide) (m_isIn_f hk) ?_
        rintro _ _ ⟨rfl, rfl⟩
        refine Wp.run 2 (53, [(0, .ref 66), (1, .int (nI i)), (2, .int 0), (3, .int k)], [.int (-2)], (zsh ++ vs, m, ml, (zmr g'))) rfl ?_
        refine Wp.ret rfl rfl rfl ?_
        exact ⟨rfl, _, rfl, SC.rf⟩
    obtain ⟨s, hs, rfl⟩ := rng_of (h := 255) rfl hk
    refine SIM.u (x := mi 5 i) (m1 := (zup mi 5 i (nI s))) (l1 := ml) (m2 := (zup (zup mi 5 i (nI s)) 67 (8 + 10 * i + 2) (nI s))) (l2 := ml) (dc := 7) (dm := 27) (by decide) (by decide) ?_ ?_ ?_
    · refine Wp.run 3 (5, [(0, .ref 0), (1, .int (nI i)), (2, .int 0), (3, .int (nI s))], [.int (nI i), .ref 1], (zsh ++ vs, mi, ml, (zmr g))) rfl ?_
      refine Wp.call (as := [.ref 1, .int (nI i)]) (rest := []) rfl rfl rfl rfl rfl (Nat.le_of_ble_eq_true rfl) (Nat.le_of_ble_eq_true rfl) rfl (by decide) (c_has_t (mi := mi) hn h6 hx9) ?_
      rintro _ _ ⟨rfl, rfl⟩
      refine Wp.run 3 (13, [(0, .ref 0), (1, .int (nI i)), (2, .int 0), (3, .int (nI s))], [.int 1, .int 0], (zsh ++ vs, mi, ml, (zmr g))) rfl ?_
      refine Wp.call (as := [.int 0, .int 1]) (rest := []) rfl rfl rfl rfl rfl (Nat.le_of_ble_eq_true rfl) (Nat.le_of_ble_eq_true rfl) rfl (by decide) (c_within_t hw) ?_
      rintro _ _ ⟨rfl, rfl⟩
      refine Wp.run 6 (34, [(0, .ref 0), (1, .int (nI i)), (2, .int 0), (3, .int (nI s))], [.int 255, .int (nI s)], (zsh ++ vs, mi, ml, (zmr g))) rfl ?_
      refine Wp.call (as := [.int (nI s), .int 255]) (rest := []) rfl rfl rfl rfl rfl (Nat.le_of_ble_eq_true rfl) (Nat.le_of_ble_eq_true rfl) rfl (by decide) (c_within_t hk) ?_
      rintro _ _ ⟨rfl, rfl⟩
      refine Wp.run 10 (69, [(4, .ref 5), (0, .ref 0), (1, .int (nI i)), (2, .int 0), (3, .int (nI s))], [.int (nI i), .ref 5], (zsh ++ vs, mi, ml, (zmr g))) rfl ?_
      refine Wp.ialn rfl (by decide) rfl (by omega) (by decide) ?_
      refine Wp.run 4 (76, [(5, .int (mi 5 i)), (4, .ref 5), (0, .ref 0), (1, .int (nI i)), (2, .int 0), (3, .int (nI s))], [.int (nI s), .int (nI i), .ref 5], (zsh ++ vs, mi, ml, (zmr g))) rfl ?_
      refine Wp.iasn rfl (by decide) rfl (by omega) (by decide) ?_
      refine Wp.run 1 (79, [(5, .int (mi 5 i)), (4, .ref 5), (0, .ref 0), (1, .int (nI i)), (2, .int 0), (3, .int (nI s))], [.int (mi 5 i)], (zsh ++ vs, (zup mi 5 i (nI s)), ml, (zmr g))) rfl ?_
      refine Wp.ret rfl rfl rfl ?_
      exact ⟨rfl, rfl⟩
    · refine Wp.run 2 (2, [(0, .ref 66), (1, .int (nI i)), (2, .int 0), (3, .int (nI s))], [.int (nI i), .ref 66], (zsh ++ vs, (zup mi 5 i (nI s)), ml, (zmr g))) rfl ?_
      refine Wp.call (as := [.ref 66, .int (nI i)]) (rest := []) rfl rfl rfl rfl rfl (Nat.le_of_ble_eq_true rfl) (Nat.le_of_ble_eq_true rfl) rfl (by decide) (m_isOne_t (mi := (zup mi 5 i (nI s))) hN h6 hx9) ?_
      rintro _ _ ⟨rfl, rfl⟩
      refine Wp.run 4 (11, [(0, .ref 66), (1, .int (nI i)), (2, .int 0), (3, .int (nI s))], [.int 1, .int 0, .int 0], (zsh ++ vs, (zup mi 5 i (nI s)), ml, (zmr g))) rfl ?_
      refine Wp.call (as := [.int 0, .int 0, .int 1]) (rest := []) rfl rfl rfl rfl rfl (Nat.le_of_ble_eq_true rfl) (Nat.le_of_ble_eq_true rfl) rfl (by decide) (m_isIn_t hw) ?_
      rintro _ _ ⟨rfl, rfl⟩
      refine Wp.run 7 (33, [(0, .ref 66), (1, .int (nI i)), (2, .int 0), (3, .int (nI s))], [.int 255, .int 0, .int (nI s)], (zsh ++ vs, (zup mi 5 i (nI s)), ml, (zmr g))) rfl ?_
      refine Wp.call (as := [.int (nI s), .int 0, .int 255]) (rest := []) rfl rfl rfl rfl rfl (Nat.le_of_ble_eq_true rfl) (Nat.le_of_ble_eq_true rfl) rfl (by decide) (m_isIn_t hk) ?_
      rintro _ _ ⟨rfl, rfl⟩
      refine Wp.run 7 (45, [(0, .ref 66), (1, .int (nI i)), (2, .int 0), (3, .int (nI s))], [.int (nI s), .int 2, .int (nI i), .ref 66], (zsh ++ vs, (zup mi 5 i (nI s)), ml, (zmr g))) rfl ?_
      refine Wp.call (as := [.ref 66, .int (nI i), .int 2, .int (nI s)]) (rest := []) rfl rfl rfl rfl rfl (Nat.le_of_ble_eq_true rfl) (Nat.le_of_ble_eq_true rfl) rfl (by decide) (m_change (mi := (zup mi 5 i (nI s))) i 2 (nI s) (by omega)) ?_
      rintro _ _ ⟨rfl, rfl⟩
      refine Wp.run 1 (53, [(0, .ref 66), (1, .int (nI i)), (2, .int 0), (3, .int (nI s))], [.int (mi 67 (8 + 10 * i + 2))], (zsh ++ vs, (zup (zup mi 5 i (nI s)) 67 (8 + 10 * i + 2) (nI s)), ml, (zmr g))) rfl ?_
      refine Wp.ret rfl rfl rfl ?_
      exact ⟨congrArg (fun z => some (Value.int z)) ((B.2.2.2.2.1 i hi 2 (by decide)).symm), rfl⟩
    · exact (I.setf (f := 2) hi (Or.inr (Or.inl ⟨rfl, s, by omega, rfl⟩))).x
  · by_cases hk : 0 ≤ k ∧ k ≤ 99
    rotate_left
    · refine SIM.q I (x := -2) (dc := 7) (dm := 27) (by decide) (by decide) ?_ ?_
      · refine Wp.run 3 (5, [(0, .ref 0), (1, .int (nI i)), (2, .int 1), (3, .int k)], [.int (nI i), .ref 1], (zsh ++ vs, mi, ml, (zmr g))) rfl ?_
        refine Wp.call (as := [.ref 1, .int (nI i)]) (rest := []) rfl rfl rfl rfl rfl (Nat.le_of_ble_eq_true rfl) (Nat.le_of_ble_eq_true rfl) rfl (by decide) (c_has_t (mi := mi) hn h6 hx9) ?_
        rintro _ _ ⟨rfl, rfl⟩
        refine Wp.run 3 (13, [(0, .ref 0), (1, .int (nI i)), (2, .int 1), (3, .int k)], [.int 1, .int 1], (zsh ++ vs, mi, ml, (zmr g))) rfl ?_
        refine Wp.call (as := [.int 1, .int 1]) (rest := []) rfl rfl rfl rfl rfl (Nat.le_of_ble_eq_true rfl) (Nat.le_of_ble_eq_true rfl) rfl (by decide) (c_within_t hw) ?_
        rintro _ _ ⟨rfl, rfl⟩
        refine Wp.run 5 (34, [(0, .ref 0), (1, .int (nI i)), (2, .int 1), (3, .int k)], [.int 99, .int k], (zsh ++ vs, mi, ml, (zmr g))) rfl ?_
        refine Wp.call (as := [.int k, .int 99]) (rest := []) rfl rfl rfl rfl rfl (Nat.le_of_ble_eq_true rfl) (Nat.le_of_ble_eq_true rfl) rfl (by decide) (c_within_f hk) ?_
        rintro _ _ ⟨rfl, rfl⟩
        refine Wp.run 2 (42, [(0, .ref 0), (1, .int (nI i)), (2, .int 1), (3, .int k)], [.int (-2)], (zsh ++ vs, mi, ml, (zmr g))) rfl ?_
        refine Wp.ret rfl rfl rfl ?_
        exact ⟨rfl, _, _, rfl, SC.rf, fun _ _ _ => rfl⟩
      · intro m g' I' e67 S
        have B' := I'.1.1
        have hn' := B'.2.1
        have hN' := B'.1.1
        have hd' := B'.1.2.2.1
        refine Wp.run 2 (2, [(0, .ref 66), (1, .int (nI i)), (2, .int 1), (3, .int k)], [.int (nI i), .ref 66], (zsh ++ vs, m, ml, (zmr g'))) rfl ?_
        refine Wp.call (as := [.ref 66, .int (nI i)]) (rest := []) rfl rfl rfl rfl rfl (Nat.le_of_ble_eq_true rfl) (Nat.le_of_ble_eq_true rfl) rfl (by decide) (m_isOne_t (mi := m) hN' h6 hx9) ?_
        rintro _ _ ⟨rfl, rfl⟩
        refine Wp.run 4 (11, [(0, .ref 66), (1, .int (nI i)), (2, .int 1), (3, .int k)], [.int 1, .int 0, .int 1], (zsh ++ vs, m, ml, (zmr g'))) rfl ?_
        refine Wp.call (as := [.int 1, .int 0, .int 1]) (rest := []) rfl rfl rfl rfl rfl (Nat.le_of_ble_eq_true rfl) (Nat.le_of_ble_eq_true rfl) rfl (by decide) (m_isIn_t hw) ?_
        rintro _ _ ⟨rfl, rfl⟩
        refine Wp.run 6 (33, [(0, .ref 66), (1, .int (nI i)), (2, .int 1), (3, .int k)], [.int 99, .int 0, .int k], (zsh ++ vs, m, ml, (zmr g'))) rfl ?_
        refine Wp.call (as := [.int k, .int 0, .int 99]) (rest := []) rfl rfl rfl rfl rfl (Nat.le_of_ble_eq_true rfl) (Nat.le_of_ble_eq_true rfl) rfl (by decide) (m_isIn_f hk) ?_
        rintro _ _ ⟨rfl, rfl⟩
        refine Wp.run 2 (53, [(0, .ref 66), (1, .int (nI i)), (2, .int 1), (3, .int k)], [.int (-2)], (zsh ++ vs, m, ml, (zmr g'))) rfl ?_
        refine Wp.ret rfl rfl rfl ?_
        exact ⟨rfl, _, rfl, SC.rf⟩
    obtain ⟨s, hs, rfl⟩ := rng_of (h := 99) rfl hk
    refine SIM.u (x := mi 6 i) (m1 := (zup mi 6 i (nI s))) (l1 := ml) (m2 := (zup (zup mi 6 i (nI s)) 67 (8 + 10 * i + 3) (nI s))) (l2 := ml) (dc := 7) (dm := 27) (by decide) (by decide) ?_ ?_ ?_
    · refine Wp.run 3 (5, [(0, .ref 0), (1, .int (nI i)), (2, .int 1), (3, .int (nI s))], [.int (nI i), .ref 1], (zsh ++ vs, mi, ml, (zmr g))) rfl ?_
      refine Wp.call (as := [.ref 1, .int (nI i)]) (rest := []) rfl rfl rfl rfl rfl (Nat.le_of_ble_eq_true rfl) (Nat.le_of_ble_eq_true rfl) rfl (by decide) (c_has_t (mi := mi) hn h6 hx9) ?_
      rintro _ _ ⟨rfl, rfl⟩
      refine Wp.run 3 (13, [(0, .ref 0), (1, .int (nI i)), (2, .int 1), (3, .int (nI s))], [.int 1, .int 1], (zsh ++ vs, mi, ml, (zmr g))) rfl ?_
      refine Wp.call (as := [.int 1, .int 1]) (rest := []) rfl rfl rfl rfl rfl (Nat.le_of_ble_eq_true rfl) (Nat.le_of_ble_eq_true rfl) rfl (by decide) (c_within_t hw) ?_
      rintro _ _ ⟨rfl, rfl⟩
      refine Wp.run 5 (34, [(0, .ref 0), (1, .int (nI i)), (2, .int 1), (3, .int (nI s))], [.int 99, .int (nI s)], (zsh ++ vs, mi, ml, (zmr g))) rfl ?_
      refine Wp.call (as := [.int (nI s), .int 99]) (rest := []) rfl rfl rfl rfl rfl (Nat.le_of_ble_eq_true rfl) (Nat.le_of_ble_eq_true rfl) rfl (by decide) (c_within_t hk) ?_
      rintro _ _ ⟨rfl, rfl⟩
      refine Wp.run 9 (69, [(4, .ref 6), (0, .ref 0), (1, .int (nI i)), (2, .int 1), (3, .int (nI s))], [.int (nI i), .ref 6], (zsh ++ vs, mi, ml, (zmr g))) rfl ?_
      refine Wp.ialn rfl (by decide) rfl (by omega) (by decide) ?_
      refine Wp.run 4 (76, [(5, .int (mi 6 i)), (4, .ref 6), (0, .ref 0), (1, .int (nI i)), (2, .int 1), (3, .int (nI s))], [.int (nI s), .int (nI i), .ref 6], (zsh ++ vs, mi, ml, (zmr g))) rfl ?_
      refine Wp.iasn rfl (by decide) rfl (by omega) (by decide) ?_
      refine Wp.run 1 (79, [(5, .int (mi 6 i)), (4, .ref 6), (0, .ref 0), (1, .int (nI i)), (2, .int 1), (3, .int (nI s))], [.int (mi 6 i)], (zsh ++ vs, (zup mi 6 i (nI s)), ml, (zmr g))) rfl ?_
      refine Wp.ret rfl rfl rfl ?_
      exact ⟨rfl, rfl⟩
    · refine Wp.run 2 (2, [(0, .ref 66), (1, .int (nI i)), (2, .int 1), (3, .int (nI s))], [.int (nI i), .ref 66], (zsh ++ vs, (zup mi 6 i (nI s)), ml, (zmr g))) rfl ?_
      refine Wp.call (as := [.ref 66, .int (nI i)]) (rest := []) rfl rfl rfl rfl rfl (Nat.le_of_ble_eq_true rfl) (Nat.le_of_ble_eq_true rfl) rfl (by decide) (m_isOne_t (mi := (zup mi 6 i (nI s))) hN h6 hx9) ?_
      rintro _ _ ⟨rfl, rfl⟩
      refine Wp.run 4 (11, [(0, .ref 66), (1, .int (nI i)), (2, .int 1), (3, .int (nI s))], [.int 1, .int 0, .int 1], (zsh ++ vs, (zup mi 6 i (nI s)), ml, (zmr g))) rfl ?_
      refine Wp.call (as := [.int 1, .int 0, .int 1]) (rest := []) rfl rfl rfl rfl rfl (Nat.le_of_ble_eq_true rfl) (Nat.le_of_ble_eq_true rfl) rfl (by decide) (m_isIn_t hw) ?_
      rintro _ _ ⟨rfl, rfl⟩
      refine Wp.run 6 (33, [(0, .ref 66), (1, .int (nI i)), (2, .int 1), (3, .int (nI s))], [.int 99, .int 0, .int (nI s)], (zsh ++ vs, (zup mi 6 i (nI s)), ml, (zmr g))) rfl ?_
      refine Wp.call (as := [.int (nI s), .int 0, .int 99]) (rest := []) rfl rfl rfl rfl rfl (Nat.le_of_ble_eq_true rfl) (Nat.le_of_ble_eq_true rfl) rfl (by decide) (m_isIn_t hk) ?_
      rintro _ _ ⟨rfl, rfl⟩
      refine Wp.run 7 (45, [(0, .ref 66), (1, .int (nI i)), (2, .int 1), (3, .int (nI s))], [.int (nI s), .int 3, .int (nI i), .ref 66], (zsh ++ vs, (zup mi 6 i (nI s)), ml, (zmr g))) rfl ?_
      refine Wp.call (as := [.ref 66, .int (nI i), .int 3, .int (nI s)]) (rest := []) rfl rfl rfl rfl rfl (Nat.le_of_ble_eq_true rfl) (Nat.le_of_ble_eq_true rfl) rfl (by decide) (m_change (mi := (zup mi 6 i (nI s))) i 3 (nI s) (by omega)) ?_
      rintro _ _ ⟨rfl, rfl⟩
      refine Wp.run 1 (53, [(0, .ref 66), (1, .int (nI i)), (2, .int 1), (3, .int (nI s))], [.int (mi 67 (8 + 10 * i + 3))], (zsh ++ vs, (zup (zup mi 6 i (nI s)) 67 (8 + 10 * i + 3) (nI s)), ml, (zmr g))) rfl ?_
      refine Wp.ret rfl rfl rfl ?_
      exact ⟨congrArg (fun z => some (Value.int z)) ((B.2.2.2.2.1 i hi 3 (by decide)).symm), rfl⟩
    · exact (I.setf (f := 3) hi (Or.inr (Or.inr ⟨rfl, s, by omega, rfl⟩))).x
theorem sim_away {E : zEn} {nv : Nat} {VD : Nat → zV} {NL : Nat → Nat} {n dd : Nat} {vs : List (Nat × Nat)} {mi : Nat → Nat → Int32} {ml : Nat → Nat → Int64} {g : Nat → Nat → Option Nat} (I : INV nv VD NL n dd vs mi ml g) (x b : Int32) (hb : b = 0 ∨ b = 1) : SIM E vs mi ml g pg_H_away pg_M_away [.int x, .int b] := by
  have B := I.1.1
  have h6 := B.1.2.1
  have hn := B.2.1
  have hN := B.1.1
  have hd := B.1.2.2.1
  have hdd := I.1.2
  by_cases hx : one n x
  rotate_left
  · rcases hb with rfl | rfl
    · refine SIM.q I (x := -1) (dc := 7) (dm := 27) (by decide) (by decide) ?_ ?_
      · refine Wp.run 3 (5, [(0, .ref 0), (1, .int x), (2, .int 0)], [.int x, .ref 1], (zsh ++ vs, mi, ml, (zmr g))) rfl ?_
        refine Wp.call (as := [.ref 1, .int x]) (rest := []) rfl rfl rfl rfl rfl (Nat.le_of_ble_eq_true rfl) (Nat.le_of_ble_eq_true rfl) rfl (by decide) (c_has_f (mi := mi) hn h6 hx) ?_
        rintro _ _ ⟨rfl, rfl⟩
        refine Wp.run 2 (12, [(0, .ref 0), (1, .int x), (2, .int 0)], [.int (-1)], (zsh ++ vs, mi, ml, (zmr g))) rfl ?_
        refine Wp.ret rfl rfl rfl ?_
        exact ⟨rfl, _, _, rfl, SC.rf, fun _ _ _ => rfl⟩
      · intro m g' I' e67 S
        have B' := I'.1.1
        have hn' := B'.2.1
        have hN' := B'.1.1
        have hd' := B'.1.2.2.1
        refine Wp.run 2 (2, [(0, .ref 66), (1, .int x), (2, .int 0)], [.int x, .ref 66], (zsh ++ vs, m, ml, (zmr g'))) rfl ?_
        refine Wp.call (as := [.ref 66, .int x]) (rest := []) rfl rfl rfl rfl rfl (Nat.le_of_ble_eq_true rfl) (Nat.le_of_ble_eq_true rfl) rfl (by decide) (m_isOne_f (mi := m) hN' h6 hx) ?_
        rintro _ _ ⟨rfl, rfl⟩
        refine Wp.run 2 (27, [(0, .ref 66), (1, .int x), (2, .int 0)], [.int (-1)], (zsh ++ vs, m, ml, (zmr g'))) rfl ?_
        refine Wp.ret rfl rfl rfl ?_
        exact ⟨rfl, _, rfl, SC.rf⟩
    · refine SIM.q I (x := -1) (dc := 7) (dm := 27) (by decide) (by decide) ?_ ?_
      · refine Wp.run 3 (5, [(0, .ref 0), (1, .int x), (2, .int 1)], [.int x, .ref 1], (zsh ++ vs, mi, ml, (zmr g))) rfl ?_
        refine Wp.call (as := [.ref 1, .int x]) (rest := []) rfl rfl rfl rfl rfl (Nat.le_of_ble_eq_true rfl) (Nat.le_of_ble_eq_true rfl) rfl (by decide) (c_has_f (mi := mi) hn h6 hx) ?_
        rintro _ _ ⟨rfl, rfl⟩
        refine Wp.run 2 (12, [(0, .ref 0), (1, .int x), (2, .int 1)], [.int (-1)], (zsh ++ vs, mi, ml, (zmr g))) rfl ?_
        refine Wp.ret rfl rfl rfl ?_
        exact ⟨rfl, _, _, rfl, SC.rf, fun _ _ _ => rfl⟩
      · intro m g' I' e67 S
        have B' := I'.1.1
        have hn' := B'.2.1
        have hN' := B'.1.1
        have hd' := B'.1.2.2.1
        refine Wp.run 2 (2, [(0, .ref 66), (1, .int x), (2, .int 1)], [.int x, .ref 66], (zsh ++ vs, m, ml, (zmr g'))) rfl ?_
        refine Wp.call (as := [.ref 66, .int x]) (rest := []) rfl rfl rfl rfl rfl (Nat.le_of_ble_eq_true rfl) (Nat.le_of_ble_eq_true rfl) rfl (by decide) (m_isOne_f (mi := m) hN' h6 hx) ?_
        rintro _ _ ⟨rfl, rfl⟩
        refine Wp.run 2 (27, [(0, .ref 66), (1, .int x), (2, .int 1)], [.int (-1)], (zsh ++ vs, m, ml, (zmr g'))) rfl ?_
        refine Wp.ret rfl rfl rfl ?_
        exact ⟨rfl, _, rfl, SC.rf⟩
  have hx9 := hx
  obtain ⟨i, hi, rfl⟩ := hx
  rcases hb with rfl | rfl
  · refine SIM.u (x := awB mi 1 i) (m1 := (zup mi 1 2 (mi 1 2 &&& ((1 : Int32) <<< (nI i &&& 31) ^^^ -1)))) (l1 := ml) (m2 := (zup (zup mi 1 2 (mi 1 2 &&& ((1 : Int32) <<< (nI i &&& 31) ^^^ -1))) 67 (8 + 10 * i + 4) 0)) (l2 := ml) (dc := 7) (dm := 27) (by decide) (by decide) ?_ ?_ ?_
    · refine Wp.run 3 (5, [(0, .ref 0), (1, .int (nI i)), (2, .int 0)], [.int (nI i), .ref 1], (zsh ++ vs, mi, ml, (zmr g))) rfl ?_
      refine Wp.call (as := [.ref 1, .int (nI i)]) (rest := []) rfl rfl rfl rfl rfl (Nat.le_of_ble_eq_true rfl) (Nat.le_of_ble_eq_true rfl) rfl (by decide) (c_has_t (mi := mi) hn h6 hx9) ?_
      rintro _ _ ⟨rfl, rfl⟩
      refine Wp.run 5 (21, [(0, .ref 0), (1, .int (nI i)), (2, .int 0)], [.int (nI i), .int (mi 1 2)], (zsh ++ vs, mi, ml, (zmr g))) rfl ?_
      refine Wp.call (as := [.int (mi 1 2), .int (nI i)]) (rest := []) rfl rfl rfl rfl rfl (Nat.le_of_ble_eq_true rfl) (Nat.le_of_ble_eq_true rfl) rfl (by decide) (c_bit (mi 1 2) (nI i)) ?_
      rintro _ _ ⟨rfl, rfl⟩
      refine Wp.run 5 (31, [(3, .int (awB mi 1 i)), (0, .ref 0), (1, .int (nI i)), (2, .int 0)], [.int 0, .int (nI i), .ref 1], (zsh ++ vs, mi, ml, (zmr g))) rfl ?_
      refine Wp.call (as := [.ref 1, .int (nI i), .int 0]) (rest := []) rfl rfl rfl rfl rfl (Nat.le_of_ble_eq_true rfl) (Nat.le_of_ble_eq_true rfl) rfl (by decide) (c_putAway0_1 (nI i)) ?_
      rintro _ _ ⟨rfl, rfl⟩
      refine Wp.run 1 (35, [(3, .int (awB mi 1 i)), (0, .ref 0), (1, .int (nI i)), (2, .int 0)], [.int (awB mi 1 i)], (zsh ++ vs, (zup mi 1 2 (mi 1 2 &&& ((1 : Int32) <<< (nI i &&& 31) ^^^ -1))), ml, (zmr g))) rfl ?_
      refine Wp.ret rfl rfl rfl ?_
      exact ⟨rfl, rfl⟩
    · refine Wp.run 2 (2, [(0, .ref 66), (1, .int (nI i)), (2, .int 0)], [.int (nI i), .ref 66], (zsh ++ vs, (zup mi 1 2 (mi 1 2 &&& ((1 : Int32) <<< (nI i &&& 31) ^^^ -1))), ml, (zmr g))) rfl ?_
      refine Wp.call (as := [.ref 66, .int (nI i)]) (rest := []) rfl rfl rfl rfl rfl (Nat.le_of_ble_eq_true rfl) (Nat.le_of_ble_eq_true rfl) rfl (by decide) (m_isOne_t (mi := (zup mi 1 2 (mi 1 2 &&& ((1 : Int32) <<< (nI i &&& 31) ^^^ -1)))) hN h6 hx9) ?_
      rintro _ _ ⟨rfl, rfl⟩
      refine Wp.run 7 (20, [(0, .ref 66), (1, .int (nI i)), (2, .int 0)], [.int 0, .int 4, .int (nI i), .ref 66], (zsh ++ vs, (zup mi 1 2 (mi 1 2 &&& ((1 : Int32) <<< (nI i &&& 31) ^^^ -1))), ml, (zmr g))) rfl ?_
      refine Wp.call (as := [.ref 66, .int (nI i), .int 4, .int 0]) (rest := []) rfl rfl rfl rfl rfl (Nat.le_of_ble_eq_true rfl) (Nat.le_of_ble_eq_true rfl) rfl (by decide) (m_change (mi := (zup mi 1 2 (mi 1 2 &&& ((1 : Int32) <<< (nI i &&& 31) ^^^ -1)))) i 4 0 (by omega)) ?_
      rintro _ _ ⟨rfl, rfl⟩
      refine Wp.run 1 (27, [(0, .ref 66), (1, .int (nI i)), (2, .int 0)], [.int (mi 67 (8 + 10 * i + 4))], (zsh ++ vs, (zup (zup mi 1 2 (mi 1 2 &&& ((1 : Int32) <<< (nI i &&& 31) ^^^ -1))) 67 (8 + 10 * i + 4) 0), ml, (zmr g))) rfl ?_
      refine Wp.ret rfl rfl rfl ?_
      exact ⟨congrArg (fun z => some (Value.int z)) ((B.aw hi).symm), rfl⟩
    · have e67 : zup (zup mi 1 2 (mi 1 2 &&& ((1 : Int32) <<< (nI i &&& 31) ^^^ -1))) 67 (8 + 10 * i + 4) 0 67 = upd (mi 67) (8 + 10 * i + 4) 0 := by rw [zup_eq, zup_ne (by decide)]
      refine (I.upB (fun b p q => by rw [zup_ne q, zup_ne (by omega)]) (fun j hj => by rw [e67, upd_ne (by omega)]) ?_ I.1.2 (Nat.le_refl _)).x
      rw [e67]
      exact BR_fr (BR_aw0 B hi) (fun b p q => zup_ne (by omega))
  · refine SIM.u (x := awB mi 1 i) (m1 := (zup mi 1 2 (mi 1 2 ||| (1 : Int32) <<< (nI i &&& 31)))) (l1 := ml) (m2 := (zup (zup mi 1 2 (mi 1 2 ||| (1 : Int32) <<< (nI i &&& 31))) 67 (8 + 10 * i + 4) 1)) (l2 := ml) (dc := 7) (dm := 27) (by decide) (by decide) ?_ ?_ ?_
    · refine Wp.run 3 (5, [(0, .ref 0), (1, .int (nI i)), (2, .int 1)], [.int (nI i), .ref 1], (zsh ++ vs, mi, ml, (zmr g))) rfl ?_
      refine Wp.call (as := [.ref 1, .int (nI i)]) (rest := []) rfl rfl rfl rfl rfl (Nat.le_of_ble_eq_true rfl) (Nat.le_of_ble_eq_true rfl) rfl (by decide) (c_has_t (mi := mi) hn h6 hx9) ?_
      rintro _ _ ⟨rfl, rfl⟩
      refine Wp.run 5 (21, [(0, .ref 0), (1, .int (nI i)), (2, .int 1)], [.int (nI i), .int (mi 1 2)], (zsh ++ vs, mi, ml, (zmr g))) rfl ?_
      refine Wp.call (as := [.int (mi 1 2), .int (nI i)]) (rest := []) rfl rfl rfl rfl rfl (Nat.le_of_ble_eq_true rfl) (Nat.le_of_ble_eq_true rfl) rfl (by decide) (c_bit (mi 1 2) (nI i)) ?_
      rintro _ _ ⟨rfl, rfl⟩
      refine Wp.run 5 (31, [(3, .int (awB mi 1 i)), (0, .ref 0), (1, .int (nI i)), (2, .int 1)], [.int 1, .int (nI i), .ref 1], (zsh ++ vs, mi, ml, (zmr g))) rfl ?_
      refine Wp.call (as := [.ref 1, .int (nI i), .int 1]) (rest := []) rfl rfl rfl rfl rfl (Nat.le_of_ble_eq_true rfl) (Nat.le_of_ble_eq_true rfl) rfl (by decide) (c_putAway1_1 (nI i)) ?_
      rintro _ _ ⟨rfl, rfl⟩
      refine Wp.run 1 (35, [(3, .int (awB mi 1 i)), (0, .ref 0), (1, .int (nI i)), (2, .int 1)], [.int (awB mi 1 i)], (zsh ++ vs, (zup mi 1 2 (mi 1 2 ||| (1 : Int32) <<< (nI i &&& 31))), ml, (zmr g))) rfl ?_
      refine Wp.ret rfl rfl rfl ?_
      exact ⟨rfl, rfl⟩
    · refine Wp.run 2 (2, [(0, .ref 66), (1, .int (nI i)), (2, .int 1)], [.int (nI i), .ref 66], (zsh ++ vs, (zup mi 1 2 (mi 1 2 ||| (1 : Int32) <<< (nI i &&& 31))), ml, (zmr g))) rfl ?_
      refine Wp.call (as := [.ref 66, .int (nI i)]) (rest := []) rfl rfl rfl rfl rfl (Nat.le_of_ble_eq_true rfl) (Nat.le_of_ble_eq_true rfl) rfl (by decide) (m_isOne_t (mi := (zup mi 1 2 (mi 1 2 ||| (1 : Int32) <<< (nI i &&& 31)))) hN h6 hx9) ?_
      rintro _ _ ⟨rfl, rfl⟩
      refine Wp.run 8 (20, [(0, .ref 66), (1, .int (nI i)), (2, .int 1)], [.int 1, .int 4, .int (nI i), .ref 66], (zsh ++ vs, (zup mi 1 2 (mi 1 2 ||| (1 : Int32) <<< (nI i &&& 31))), ml, (zmr g))) rfl ?_
      refine Wp.call (as := [.ref 66, .int (nI i), .int 4, .int 1]) (rest := []) rfl rfl rfl rfl rfl (Nat.le_of_ble_eq_true rfl) (Nat.le_of_ble_eq_true rfl) rfl (by decide) (m_change (mi := (zup mi 1 2 (mi 1 2 ||| (1 : Int32) <<< (nI i &&& 31)))) i 4 1 (by omega)) ?_
      rintro _ _ ⟨rfl, rfl⟩
      refine Wp.run 1 (27, [(0, .ref 66), (1, .int (nI i)), (2, .int 1)], [.int (mi 67 (8 + 10 * i + 4))], (zsh ++ vs, (zup (zup mi 1 2 (mi 1 2 ||| (1 : Int32) <<< (nI i &&& 31))) 67 (8 + 10 * i + 4) 1), ml, (zmr g))) rfl ?_
      refine Wp.ret rfl rfl rfl ?_
      exact ⟨congrArg (fun z => some (Value.int z)) ((B.aw hi).symm), rfl⟩
    · have e67 : zup (zup mi 1 2 (mi 1 2 ||| (1 : Int32) <<< (nI i &&& 31))) 67 (8 + 10 * i + 4) 1 67 = upd (mi 67) (8 + 10 * i + 4) 1 := by rw [zup_eq, zup_ne (by decide)]
      refine (I.upB (fun b p q => by rw [zup_ne q, zup_ne (by omega)]) (fun j hj => by rw [e67, upd_ne (by omega)]) ?_ I.1.2 (Nat.le_refl _)).x
      rw [e67]
      exact BR_fr (BR_aw1 B hi) (fun b p q => zup_ne (by omega))
theorem sim_sacks {E : zEn} {nv : Nat} {VD : Nat → zV} {NL : Nat → Nat} {n dd : Nat} {vs : List (Nat × Nat)} {mi : Nat → Nat → Int32} {ml : Nat → Nat → Int64} {g : Nat → Nat → Option Nat} (I : INV nv VD NL n dd vs mi ml g) (x k : Int32) : SIM E vs mi ml g pg_H_sacks pg_M_sacks [.int x, .int k] := by
  have B := I.1.1
  have h6 := B.1.2.1
  have hn := B.2.1
  have hN := B.1.1
  have hd := B.1.2.2.1
  have hdd := I.1.2
  by_cases hp : 0 ≤ x ∧ x ≤ 7
  rotate_left
  · refine SIM.q I (x := -1) (dc := 7) (dm := 27) (by decide) (by decide) ?_ ?_
    · refine Wp.run 2 (3, [(0, .ref 0), (1, .int x), (2, .int k)], [.int 7, .int x], (zsh ++ vs, mi, ml, (zmr g))) rfl ?_
      refine Wp.call (as := [.int x, .int 7]) (rest := []) rfl rfl rfl rfl rfl (Nat.le_of_ble_eq_true rfl) (Nat.le_of_ble_eq_true rfl) rfl (by decide) (c_within_f hp) ?_
      rintro _ _ ⟨rfl, rfl⟩
      refine Wp.run 2 (10, [(0, .ref 0), (1, .int x), (2, .int k)], [.int (-1)], (zsh ++ vs, mi, ml, (zmr g))) rfl ?_
      refine Wp.ret rfl rfl rfl ?_
      exact ⟨rfl, _, _, rfl, SC.rf, fun _ _ _ => rfl⟩
    · intro m g' I' e67 S
      have B' := I'.1.1
      have hn' := B'.2.1
      have hN' := B'.1.1
      have hd' := B'.1.2.2.1
      refine Wp.run 1 (1, [(0, .ref 66), (1, .int x), (2, .int k)], [.int x], (zsh ++ vs, m, ml, (zmr g'))) rfl ?_
      refine Wp.call (as := [.int x]) (rest := []) rfl rfl rfl rfl rfl (Nat.le_of_ble_eq_true rfl) (Nat.le_of_ble_eq_true rfl) rfl (by decide) (m_isPart_f hp) ?_
      rintro _ _ ⟨rfl, rfl⟩
      refine Wp.run 2 (8, [(0, .ref 66), (1, .int x), (2, .int k)], [.int (-1)], (zsh ++ vs, m, ml, (zmr g'))) rfl ?_
      refine Wp.ret rfl rfl rfl ?_
      exact ⟨rfl, _, rfl, SC.rf⟩
  by_cases hk : 0 ≤ k ∧ k ≤ 99
  rotate_left
  · refine SIM.q I (x := -2) (dc := 7) (dm := 27) (by decide) (by decide) ?_ ?_
    · refine Wp.run 2 (3, [(0, .ref 0), (1, .int x), (2, .int k)], [.int 7, .int x], (zsh ++ vs, mi, ml, (zmr g))) rfl ?_
      refine Wp.call (as := [.int x, .int 7]) (rest := []) rfl rfl rfl rfl rfl (Nat.le_of_ble_eq_true rfl) (Nat.le_of_ble_eq_true rfl) rfl (by decide) (c_within_t hp) ?_
      rintro _ _ ⟨rfl, rfl⟩
      refine Wp.run 3 (14, [(0, .ref 0), (1, .int x), (2, .int k)], [.int 99, .int k], (zsh ++ vs, mi, ml, (zmr g))) rfl ?_
      refine Wp.call (as := [.int k, .int 99]) (rest := []) rfl rfl rfl rfl rfl (Nat.le_of_ble_eq_true rfl) (Nat.le_of_ble_eq_true rfl) rfl (by decide) (c_within_f hk) ?_
      rintro _ _ ⟨rfl, rfl⟩
      refine Wp.run 2 (22, [(0, .ref 0), (1, .int x), (2, .int k)], [.int (-2)], (zsh ++ vs, mi, ml, (zmr g))) rfl ?_
      refine Wp.ret rfl rfl rfl ?_
      exact ⟨rfl, _, _, rfl, SC.rf, fun _ _ _ => rfl⟩
    · intro m g' I' e67 S
      have B' := I'.1.1
      have hn' := B'.2.1
      have hN' := B'.1.1
      have hd' := B'.1.2.2.1
      refine Wp.run 1 (1, [(0, .ref 66), (1, .int x), (2, .int k)], [.int x], (zsh ++ vs, m, ml, (zmr g'))) rfl ?_
      refine Wp.call (as := [.int x]) (rest := []) rfl rfl rfl rfl rfl (Nat.le_of_ble_eq_true rfl) (Nat.le_of_ble_eq_true rfl) rfl (by decide) (m_isPart_t hp) ?_
      rintro _ _ ⟨rfl, rfl⟩
      refine Wp.run 4 (13, [(0, .ref 66), (1, .int x), (2, .int k)], [.int 99, .int 0, .int k], (zsh ++ vs, m, ml, (zmr g'))) rfl ?_
      refine Wp.call (as := [.int k, .int 0, .int 99]) (rest := []) rfl rfl rfl rfl rfl (Nat.le_of_ble_eq_true rfl) (Nat.le_of_ble_eq_true rfl) rfl (by decide) (m_isIn_f hk) ?_
      rintro _ _ ⟨rfl, rfl⟩
      refine Wp.run 2 (21, [(0, .ref 66), (1, .int x), (2, .int k)], [.int (-2)], (zsh ++ vs, m, ml, (zmr g'))) rfl ?_
      refine Wp.ret rfl rfl rfl ?_
      exact ⟨rfl, _, rfl, SC.rf⟩
  obtain ⟨q, hq, rfl⟩ := rng_of (h := 7) rfl hp
  obtain ⟨s, hs, rfl⟩ := rng_of (h := 99) rfl hk
  refine SIM.u (x := mi 2 q) (m1 := (zup mi 2 q (nI s))) (l1 := ml) (m2 := (zup (zup mi 2 q (nI s)) 67 q (nI s))) (l2 := ml) (dc := 7) (dm := 27) (by decide) (by decide) ?_ ?_ ?_
  · refine Wp.run 2 (3, [(0, .ref 0), (1, .int (nI q)), (2, .int (nI s))], [.int 7, .int (nI q)], (zsh ++ vs, mi, ml, (zmr g))) rfl ?_
    refine Wp.call (as := [.int (nI q), .int 7]) (rest := []) rfl rfl rfl rfl rfl (Nat.le_of_ble_eq_true rfl) (Nat.le_of_ble_eq_true rfl) rfl (by decide) (c_within_t hp) ?_
    rintro _ _ ⟨rfl, rfl⟩
    refine Wp.run 3 (14, [(0, .ref 0), (1, .int (nI q)), (2, .int (nI s))], [.int 99, .int (nI s)], (zsh ++ vs, mi, ml, (zmr g))) rfl ?_
    refine Wp.call (as := [.int (nI s), .int 99]) (rest := []) rfl rfl rfl rfl rfl (Nat.le_of_ble_eq_true rfl) (Nat.le_of_ble_eq_true rfl) rfl (by decide) (c_within_t hk) ?_
    rintro _ _ ⟨rfl, rfl⟩
    refine Wp.run 5 (31, [(0, .ref 0), (1, .int (nI q)), (2, .int (nI s))], [.int (nI q), .ref 2], (zsh ++ vs, mi, ml, (zmr g))) rfl ?_
    refine Wp.ialn rfl (by decide) rfl (by omega) (by decide) ?_
    refine Wp.run 6 (42, [(3, .int (mi 2 q)), (0, .ref 0), (1, .int (nI q)), (2, .int (nI s))], [.int (nI s), .int (nI q), .ref 2], (zsh ++ vs, mi, ml, (zmr g))) rfl ?_
    refine Wp.iasn rfl (by decide) rfl (by omega) (by decide) ?_
    refine Wp.run 1 (44, [(3, .int (mi 2 q)), (0, .ref 0), (1, .int (nI q)), (2, .int (nI s))], [.int (mi 2 q)], (zsh ++ vs, (zup mi 2 q (nI s)), ml, (zmr g))) rfl ?_
    refine Wp.ret rfl rfl rfl ?_
    exact ⟨rfl, rfl⟩
  · refine Wp.run 1 (1, [(0, .ref 66), (1, .int (nI q)), (2, .int (nI s))], [.int (nI q)], (zsh ++ vs, (zup mi 2 q (nI s)), ml, (zmr g))) rfl ?_
    refine Wp.call (as := [.int (nI q)]) (rest := []) rfl rfl rfl rfl rfl (Nat.le_of_ble_eq_true rfl) (Nat.le_of_ble_eq_true rfl) rfl (by decide) (m_isPart_t hp) ?_
    rintro _ _ ⟨rfl, rfl⟩
    refine Wp.run 4 (13, [(0, .ref 66), (1, .int (nI q)), (2, .int (nI s))], [.int 99, .int 0, .int (nI s)], (zsh ++ vs, (zup mi 2 q (nI s)), ml, (zmr g))) rfl ?_
    refine Wp.call (as := [.int (nI s), .int 0, .int 99]) (rest := []) rfl rfl rfl rfl rfl (Nat.le_of_ble_eq_true rfl) (Nat.le_of_ble_eq_true rfl) rfl (by decide) (m_isIn_t hk) ?_
    rintro _ _ ⟨rfl, rfl⟩
    refine Wp.run 4 (27, [(0, .ref 66), (1, .int (nI q)), (2, .int (nI s))], [.int (nI q), .ref 67], (zsh ++ vs, (zup mi 2 q (nI s)), ml, (zmr g))) rfl ?_
    refine Wp.ialn rfl (by decide) rfl (by omega) (by decide) ?_
    refine Wp.run 5 (35, [(3, .int ((zup mi 2 q (nI s)) 67 q)), (0, .ref 66), (1, .int (nI q)), (2, .int (nI s))], [.int (nI s), .int (nI q), .ref 67], (zsh ++ vs, (zup mi 2 q (nI s)), ml, (zmr g))) rfl ?_
    refine Wp.iasn rfl (by decide) rfl (by omega) (by decide) ?_
    refine Wp.run 1 (37, [(3, .int ((zup mi 2 q (nI s)) 67 q)), (0, .ref 66), (1, .int (nI q)), (2, .int (nI s))], [.int ((zup mi 2 q (nI s)) 67 q)], (zsh ++ vs, (zup (zup mi 2 q (nI s)) 67 q (nI s)), ml, (zmr g))) rfl ?_
    refine Wp.ret rfl rfl rfl ?_
    exact ⟨congrArg (fun z => some (Value.int z)) ((B.2.2.2.1 q (by omega)).symm), rfl⟩
  · have e67 : zup (zup mi 2 q (nI s)) 67 q (nI s) 67 = upd (mi 67) q (nI s) := by rw [zup_eq, zup_ne (by decide)]
    refine (I.upB (fun b p q => by rw [zup_ne q, zup_ne (by omega)]) (fun j hj => by rw [e67, upd_ne (by omega)]) ?_ I.1.2 (Nat.le_refl _)).x
    rw [e67]
    exact BR_fr (BR_sack B (by omega) ⟨s, hs, rfl⟩) (fun b p q => zup_ne (by omega))
theorem ix_4 (a b : Nat) : nI a * 4 + nI b = nI (4 * a + b) := by
  show nI a * nI 4 + nI b = _
  rw [pk_mul, nI_add, Nat.mul_comm]
theorem sim_row {E : zEn} {nv : Nat} {VD : Nat → zV} {NL : Nat → Nat} {n dd : Nat} {vs : List (Nat × Nat)} {mi : Nat → Nat → Int32} {ml : Nat → Nat → Int64} {g : Nat → Nat → Option Nat} (I : INV nv VD NL n dd vs mi ml g) (x d k : Int32) : SIM E vs mi ml g pg_H_row pg_M_row [.int x, .int d, .int k] := by
  have B := I.1.1
  have h6 := B.1.2.1
  have hn := B.2.1
  have hN := B.1.1
  have hd := B.1.2.2.1
  have hdd := I.1.2
  by_cases hx : one n x
  rotate_left
  · refine SIM.q I (x := -1) (dc := 7) (dm := 27) (by decide) (by decide) ?_ ?_
    · refine Wp.run 3 (5, [(0, .ref 0), (1, .int x), (2, .int d), (3, .int k)], [.int x, .ref 1], (zsh ++ vs, mi, ml, (zmr g))) rfl ?_
      refine Wp.call (as := [.ref 1, .int x]) (rest := []) rfl rfl rfl rfl rfl (Nat.le_of_ble_eq_true rfl) (Nat.le_of_ble_eq_true rfl) rfl (by decide) (c_has_f (mi := mi) hn h6 hx) ?_
      rintro _ _ ⟨rfl, rfl⟩
      refine Wp.run 2 (20, [(0, .ref 0), (1, .int x), (2, .int d), (3, .int k)], [.int (-1)], (zsh ++ vs, mi, ml, (zmr g))) rfl ?_
      refine Wp.ret rfl rfl rfl ?_
      exact ⟨rfl, _, _, rfl, SC.rf, fun _ _ _ => rfl⟩
    · intro m g' I' e67 S
      have B' := I'.1.1
      have hn' := B'.2.1
      have hN' := B'.1.1
      have hd' := B'.1.2.2.1
      refine Wp.run 2 (2, [(0, .ref 66), (1, .int x), (2, .int d), (3, .int k)], [.int x, .ref 66], (zsh ++ vs, m, ml, (zmr g'))) rfl ?_
      refine Wp.call (as := [.ref 66, .int x]) (rest := []) rfl rfl rfl rfl rfl (Nat.le_of_ble_eq_true rfl) (Nat.le_of_ble_eq_true rfl) rfl (by decide) (m_isOne_f (mi := m) hN' h6 hx) ?_
      rintro _ _ ⟨rfl, rfl⟩
      refine Wp.run 2 (18, [(0, .ref 66), (1, .int x), (2, .int d), (3, .int k)], [.int (-1)], (zsh ++ vs, m, ml, (zmr g'))) rfl ?_
      refine Wp.ret rfl rfl rfl ?_
      exact ⟨rfl, _, rfl, SC.rf⟩
  have hx9 := hx
  obtain ⟨i, hi, rfl⟩ := hx
  by_cases hw : 0 ≤ d ∧ d ≤ 3
  rotate_left
  · refine SIM.q I (x := -1) (dc := 7) (dm := 27) (by decide) (by decide) ?_ ?_
    · refine Wp.run 3 (5, [(0, .ref 0), (1, .int (nI i)), (2, .int d), (3, .int k)], [.int (nI i), .ref 1], (zsh ++ vs, mi, ml, (zmr g))) rfl ?_
      refine Wp.call (as := [.ref 1, .int (nI i)]) (rest := []) rfl rfl rfl rfl rfl (Nat.le_of_ble_eq_true rfl) (Nat.le_of_ble_eq_true rfl) rfl (by decide) (c_has_t (mi := mi) hn h6 hx9) ?_
      rintro _ _ ⟨rfl, rfl⟩
      refine Wp.run 3 (13, [(0, .ref 0), (1, .int (nI i)), (2, .int d), (3, .int k)], [.int 3, .int d], (zsh ++ vs, mi, ml, (zmr g))) rfl ?_
      refine Wp.call (as := [.int d, .int 3]) (rest := []) rfl rfl rfl rfl rfl (Nat.le_of_ble_eq_true rfl) (Nat.le_of_ble_eq_true rfl) rfl (by decide) (c_within_f hw) ?_
      rintro _ _ ⟨rfl, rfl⟩
      refine Wp.run 2 (20, [(0, .ref 0), (1, .int (nI i)), (2, .int d), (3, .int k)], [.int (-1)], (zsh ++ vs, mi, ml, (zmr g))) rfl ?_
      refine Wp.ret rfl rfl rfl ?_
      exact ⟨rfl, _, _, rfl, SC.rf, fun _ _ _ => rfl⟩
    · intro m g' I' e67 S
      have B' := I'.1.1
      have hn' := B'.2.1
      have hN' := B'.1.1
      have hd' := B'.1.2.2.1
      refine Wp.run 2 (2, [(0, .ref 66), (1, .int (nI i)), (2, .int d), (3, .int k)], [.int (nI i), .ref 66], (zsh ++ vs, m, ml, (zmr g'))) rfl ?_
      refine Wp.call (as := [.ref 66, .int (nI i)]) (rest := []) rfl rfl rfl rfl rfl (Nat.le_of_ble_eq_true rfl) (Nat.le_of_ble_eq_true rfl) rfl (by decide) (m_isOne_t (mi := m) hN' h6 hx9) ?_
      rintro _ _ ⟨rfl, rfl⟩
      refine Wp.run 4 (11, [(0, .ref 66), (1, .int (nI i)), (2, .int d), (3, .int k)], [.int 3, .int 0, .int d], (zsh ++ vs, m, ml, (zmr g'))) rfl ?_
      refine Wp.call (as := [.int d, .int 0, .int 3]) (rest := []) rfl rfl rfl rfl rfl (Nat.le_of_ble_eq_true rfl) (Nat.le_of_ble_eq_true rfl) rfl (by decide) (m_isIn_f hw) ?_
      rintro _ _ ⟨rfl, rfl⟩
      refine Wp.run 2 (18, [(0, .ref 66), (1, .int (nI i)), (2, .int d), (3, .int k)], [.int (-1)], (zsh ++ vs, m, ml, (zmr g'))) rfl ?_
      refine Wp.ret rfl rfl rfl ?_
      exact ⟨rfl, _, rfl, SC.rf⟩
  by_cases hk : 0 ≤ k ∧ k ≤ 9
  rotate_left
  · refine SIM.q I (x := -2) (dc := 7) (dm := 27) (by decide) (by decide) ?_ ?_
    · refine Wp.run 3 (5, [(0, .ref 0), (1, .int (nI i)), (2, .int d), (3, .int k)], [.int (nI i), .ref 1], (zsh ++ vs, mi, ml, (zmr g))) rfl ?_
      refine Wp.call (as := [.ref 1, .int (nI i)]) (rest := []) rfl rfl rfl rfl rfl (Nat.le_of_ble_eq_true rfl) (Nat.le_of_ble_eq_true rfl) rfl (by decide) (c_has_t (mi := mi) hn h6 hx9) ?_
      rintro _ _ ⟨rfl, rfl⟩
      refine Wp.run 3 (13, [(0, .ref 0), (1, .int (nI i)), (2, .int d), (3, .int k)], [.int 3, .int d], (zsh ++ vs, mi, ml, (zmr g))) rfl ?_
      refine Wp.call (as := [.int d, .int 3]) (rest := []) rfl rfl rfl rfl rfl (Nat.le_of_ble_eq_true rfl) (Nat.le_of_ble_eq_true rfl) rfl (by decide) (c_within_t hw) ?_
      rintro _ _ ⟨rfl, rfl⟩
      refine Wp.run 3 (24, [(0, .ref 0), (1, .int (nI i)), (2, .int d), (3, .int k)], [.int 9, .int k], (zsh ++ vs, mi, ml, (zmr g))) rfl ?_
      refine Wp.call (as := [.int k, .int 9]) (rest := []) rfl rfl rfl rfl rfl (Nat.le_of_ble_eq_true rfl) (Nat.le_of_ble_eq_true rfl) rfl (by decide) (c_within_f hk) ?_
      rintro _ _ ⟨rfl, rfl⟩
      refine Wp.run 2 (32, [(0, .ref 0), (1, .int (nI i)), (2, .int d), (3, .int k)], [.int (-2)], (zsh ++ vs, mi, ml, (zmr g))) rfl ?_
      refine Wp.ret rfl rfl rfl ?_
      exact ⟨rfl, _, _, rfl, SC.rf, fun _ _ _ => rfl⟩
    · intro m g' I' e67 S
      have B' := I'.1.1
      have hn' := B'.2.1
      have hN' := B'.1.1
      have hd' := B'.1.2.2.1
      refine Wp.run 2 (2, [(0, .ref 66), (1, .int (nI i)), (2, .int d), (3, .int k)], [.int (nI i), .ref 66], (zsh ++ vs, m, ml, (zmr g'))) rfl ?_
      refine Wp.call (as := [.ref 66, .int (nI i)]) (rest := []) rfl rfl rfl rfl rfl (Nat.le_of_ble_eq_true rfl) (Nat.le_of_ble_eq_true rfl) rfl (by decide) (m_isOne_t (mi := m) hN' h6 hx9) ?_
      rintro _ _ ⟨rfl, rfl⟩
      refine Wp.run 4 (11, [(0, .ref 66), (1, .int (nI i)), (2, .int d), (3, .int k)], [.int 3, .int 0, .int d], (zsh ++ vs, m, ml, (zmr g'))) rfl ?_
      refine Wp.call (as := [.int d, .int 0, .int 3]) (rest := []) rfl rfl rfl rfl rfl (Nat.le_of_ble_eq_true rfl) (Nat.le_of_ble_eq_true rfl) rfl (by decide) (m_isIn_t hw) ?_
      rintro _ _ ⟨rfl, rfl⟩
      refine Wp.run 4 (23, [(0, .ref 66), (1, .int (nI i)), (2, .int d), (3, .int k)], [.int 9, .int 0, .int k], (zsh ++ vs, m, ml, (zmr g'))) rfl ?_
      refine Wp.call (as := [.int k, .int 0, .int 9]) (rest := []) rfl rfl rfl rfl rfl (Nat.le_of_ble_eq_true rfl) (Nat.le_of_ble_eq_true rfl) rfl (by decide) (m_isIn_f hk) ?_
      rintro _ _ ⟨rfl, rfl⟩
      refine Wp.run 2 (31, [(0, .ref 66), (1, .int (nI i)), (2, .int d), (3, .int k)], [.int (-2)], (zsh ++ vs, m, ml, (zmr g'))) rfl ?_
      refine Wp.ret rfl rfl rfl ?_
      exact ⟨rfl, _, rfl, SC.rf⟩
  obtain ⟨q, hq, rfl⟩ := rng_of (h := 3) rfl hw
  obtain ⟨s, hs, rfl⟩ := rng_of (h := 9) rfl hk
  have hk0 : mi 3 i = mi 67 (8 + 10 * i + 0) := B.2.2.2.2.1 i hi 0 (by decide)
  by_cases h0 : mi 3 i = 6
  rotate_left
  · refine SIM.q I (x := -3) (dc := 7) (dm := 27) (by decide) (by decide) ?_ ?_
    · refine Wp.run 3 (5, [(0, .ref 0), (1, .int (nI i)), (2, .int (nI q)), (3, .int (nI s))], [.int (nI i), .ref 1], (zsh ++ vs, mi, ml, (zmr g))) rfl ?_
      refine Wp.call (as := [.ref 1, .int (nI i)]) (rest := []) rfl rfl rfl rfl rfl (Nat.le_of_ble_eq_true rfl) (Nat.le_of_ble_eq_true rfl) rfl (by decide) (c_has_t (mi := mi) hn h6 hx9) ?_
      rintro _ _ ⟨rfl, rfl⟩
      refine Wp.run 3 (13, [(0, .ref 0), (1, .int (nI i)), (2, .int (nI q)), (3, .int (nI s))], [.int 3, .int (nI q)], (zsh ++ vs, mi, ml, (zmr g))) rfl ?_
      refine Wp.call (as := [.int (nI q), .int 3]) (rest := []) rfl rfl rfl rfl rfl (Nat.le_of_ble_eq_true rfl) (Nat.le_of_ble_eq_true rfl) rfl (by decide) (c_within_t hw) ?_
      rintro _ _ ⟨rfl, rfl⟩
      refine Wp.run 3 (24, [(0, .ref 0), (1, .int (nI i)), (2, .int (nI q)), (3, .int (nI s))], [.int 9, .int (nI s)], (zsh ++ vs, mi, ml, (zmr g))) rfl ?_
      refine Wp.call (as := [.int (nI s), .int 9]) (rest := []) rfl rfl rfl rfl rfl (Nat.le_of_ble_eq_true rfl) (Nat.le_of_ble_eq_true rfl) rfl (by decide) (c_within_t hk) ?_
      rintro _ _ ⟨rfl, rfl⟩
      refine Wp.run 5 (41, [(0, .ref 0), (1, .int (nI i)), (2, .int (nI q)), (3, .int (nI s))], [.int (nI i), .ref 3], (zsh ++ vs, mi, ml, (zmr g))) rfl ?_
      refine Wp.ialn rfl (by decide) rfl (by omega) (by decide) ?_
      refine Wp.run 1 (44, [(0, .ref 0), (1, .int (nI i)), (2, .int (nI q)), (3, .int (nI s))], [.int 6, .int (mi 3 i)], (zsh ++ vs, mi, ml, (zmr g))) rfl ?_
      refine Wp.icmp_eq rfl (fun h1 => ?_) (fun h1 => ?_)
      · exact absurd h1 h0
      · refine Wp.run 1 (49, [(0, .ref 0), (1, .int (nI i)), (2, .int (nI q)), (3, .int (nI s))], [.int (-3)], (zsh ++ vs, mi, ml, (zmr g))) rfl ?_
        refine Wp.ret rfl rfl rfl ?_
        exact ⟨rfl, _, _, rfl, SC.rf, fun _ _ _ => rfl⟩
    · intro m g' I' e67 S
      have B' := I'.1.1
      have hn' := B'.2.1
      have hN' := B'.1.1
      have hd' := B'.1.2.2.1
      refine Wp.run 2 (2, [(0, .ref 66), (1, .int (nI i)), (2, .int (nI q)), (3, .int (nI s))], [.int (nI i), .ref 66], (zsh ++ vs, m, ml, (zmr g'))) rfl ?_
      refine Wp.call (as := [.ref 66, .int (nI i)]) (rest := []) rfl rfl rfl rfl rfl (Nat.le_of_ble_eq_true rfl) (Nat.le_of_ble_eq_true rfl) rfl (by decide) (m_isOne_t (mi := m) hN' h6 hx9) ?_
      rintro _ _ ⟨rfl, rfl⟩
      refine Wp.run 4 (11, [(0, .ref 66), (1, .int (nI i)), (2, .int (nI q)), (3, .int (nI s))], [.int 3, .int 0, .int (nI q)], (zsh ++ vs, m, ml, (zmr g'))) rfl ?_
      refine Wp.call (as := [.int (nI q), .int 0, .int 3]) (rest := []) rfl rfl rfl rfl rfl (Nat.le_of_ble_eq_true rfl) (Nat.le_of_ble_eq_true rfl) rfl (by decide) (m_isIn_t hw) ?_
      rintro _ _ ⟨rfl, rfl⟩
      refine Wp.run 4 (23, [(0, .ref 66), (1, .int (nI i)), (2, .int (nI q)), (3, .int (nI s))], [.int 9, .int 0, .int (nI s)], (zsh ++ vs, m, ml, (zmr g'))) rfl ?_
      refine Wp.call (as := [.int (nI s), .int 0, .int 9]) (rest := []) rfl rfl rfl rfl rfl (Nat.le_of_ble_eq_true rfl) (Nat.le_of_ble_eq_true rfl) rfl (by decide) (m_isIn_t hk) ?_
      rintro _ _ ⟨rfl, rfl⟩
      refine Wp.run 4 (35, [(0, .ref 66), (1, .int (nI i)), (2, .int (nI q)), (3, .int (nI s))], [.int 0, .int (nI i), .ref 66], (zsh ++ vs, m, ml, (zmr g'))) rfl ?_
      refine Wp.call (as := [.ref 66, .int (nI i), .int 0]) (rest := []) rfl rfl rfl rfl rfl (Nat.le_of_ble_eq_true rfl) (Nat.le_of_ble_eq_true rfl) rfl (by decide) (m_one (mi := m) i 0 (by omega)) ?_
      rintro _ _ ⟨rfl, rfl⟩
      refine Wp.run 1 (40, [(0, .ref 66), (1, .int (nI i)), (2, .int (nI q)), (3, .int (nI s))], [.int 6, .int (m 67 (8 + 10 * i + 0))], (zsh ++ vs, m, ml, (zmr g'))) rfl ?_
      refine Wp.icmp_ne rfl (fun h51 => ?_) (fun h51 => ?_)
      · refine Wp.run 1 (58, [(0, .ref 66), (1, .int (nI i)), (2, .int (nI q)), (3, .int (nI s))], [.int (-3)], (zsh ++ vs, m, ml, (zmr g'))) rfl ?_
        refine Wp.ret rfl rfl rfl ?_
        exact ⟨rfl, _, rfl, SC.rf⟩
      · exact absurd (hk0.trans ((congrFun e67 _).symm.trans h51)) h0
  refine SIM.u (x := mi 8 (4 * i + q)) (m1 := (zup mi 8 (4 * i + q) (nI s))) (l1 := ml) (m2 := (zup (zup mi 8 (4 * i + q) (nI s)) 67 (8 + 10 * i + (6 + q)) (nI s))) (l2 := ml) (dc := 7) (dm := 27) (by decide) (by decide) ?_ ?_ ?_
  · refine Wp.run 3 (5, [(0, .ref 0), (1, .int (nI i)), (2, .int (nI q)), (3, .int (nI s))], [.int (nI i), .ref 1], (zsh ++ vs, mi, ml, (zmr g))) rfl ?_
    refine Wp.call (as := [.ref 1, .int (nI i)]) (rest := []) rfl rfl rfl rfl rfl (Nat.le_of_ble_eq_true rfl) (Nat.le_of_ble_eq_true rfl) rfl (by decide) (c_has_t (mi := mi) hn h6 hx9) ?_
    rintro _ _ ⟨rfl, rfl⟩
    refine Wp.run 3 (13, [(0, .ref 0), (1, .int (nI i)), (2, .int (nI q)), (3, .int (nI s))], [.int 3, .int (nI q)], (zsh ++ vs, mi, ml, (zmr g))) rfl ?_
    refine Wp.call (as := [.int (nI q), .int 3]) (rest := []) rfl rfl rfl rfl rfl (Nat.le_of_ble_eq_true rfl) (Nat.le_of_ble_eq_true rfl) rfl (by decide) (c_within_t hw) ?_
    rintro _ _ ⟨rfl, rfl⟩
    refine Wp.run 3 (24, [(0, .ref 0), (1, .int (nI i)), (2, .int (nI q)), (3, .int (nI s))], [.int 9, .int (nI s)], (zsh ++ vs, mi, ml, (zmr g))) rfl ?_
    refine Wp.call (as := [.int (nI s), .int 9]) (rest := []) rfl rfl rfl rfl rfl (Nat.le_of_ble_eq_true rfl) (Nat.le_of_ble_eq_true rfl) rfl (by decide) (c_within_t hk) ?_
    rintro _ _ ⟨rfl, rfl⟩
    refine Wp.run 5 (41, [(0, .ref 0), (1, .int (nI i)), (2, .int (nI q)), (3, .int (nI s))], [.int (nI i), .ref 3], (zsh ++ vs, mi, ml, (zmr g))) rfl ?_
    refine Wp.ialn rfl (by decide) rfl (by omega) (by decide) ?_
    refine Wp.run 1 (44, [(0, .ref 0), (1, .int (nI i)), (2, .int (nI q)), (3, .int (nI s))], [.int 6, .int (mi 3 i)], (zsh ++ vs, mi, ml, (zmr g))) rfl ?_
    refine Wp.icmp_eq rfl (fun h1 => ?_) (fun h1 => ?_)
    · refine Wp.run 5 (55, [(0, .ref 0), (1, .int (nI i)), (2, .int (nI q)), (3, .int (nI s))], [.int (((nI i) * 4) + (nI q))], (zsh ++ vs, mi, ml, (zmr g))) rfl ?_
      refine Wp.topi (y := nI (4 * i + q)) (ix_4 i q) ?_
      refine Wp.run 5 (66, [(4, .int (nI (4 * i + q))), (0, .ref 0), (1, .int (nI i)), (2, .int (nI q)), (3, .int (nI s))], [.int (nI (4 * i + q)), .ref 8], (zsh ++ vs, mi, ml, (zmr g))) rfl ?_
      refine Wp.ialn rfl (by decide) rfl (by omega) (by decide) ?_
      refine Wp.run 6 (79, [(5, .int (mi 8 (4 * i + q))), (4, .int (nI (4 * i + q))), (0, .ref 0), (1, .int (nI i)), (2, .int (nI q)), (3, .int (nI s))], [.int (nI s), .int (nI (4 * i + q)), .ref 8], (zsh ++ vs, mi, ml, (zmr g))) rfl ?_
      refine Wp.iasn rfl (by decide) rfl (by omega) (by decide) ?_
      refine Wp.run 1 (82, [(5, .int (mi 8 (4 * i + q))), (4, .int (nI (4 * i + q))), (0, .ref 0), (1, .int (nI i)), (2, .int (nI q)), (3, .int (nI s))], [.int (mi 8 (4 * i + q))], (zsh ++ vs, (zup mi 8 (4 * i + q) (nI s)), ml, (zmr g))) rfl ?_
      refine Wp.ret rfl rfl rfl ?_
      exact ⟨rfl, rfl⟩
    · exact absurd h0 h1
  · refine Wp.run 2 (2, [(0, .ref 66), (1, .int (nI i)), (2, .int (nI q)), (3, .int (nI s))], [.int (nI i), .ref 66], (zsh ++ vs, (zup mi 8 (4 * i + q) (nI s)), ml, (zmr g))) rfl ?_
    refine Wp.call (as := [.ref 66, .int (nI i)]) (rest := []) rfl rfl rfl rfl rfl (Nat.le_of_ble_eq_true rfl) (Nat.le_of_ble_eq_true rfl) rfl (by decide) (m_isOne_t (mi := (zup mi 8 (4 * i + q) (nI s))) hN h6 hx9) ?_
    rintro _ _ ⟨rfl, rfl⟩
    refine Wp.run 4 (11, [(0, .ref 66), (1, .int (nI i)), (2, .int (nI q)), (3, .int (nI s))], [.int 3, .int 0, .int (nI q)], (zsh ++ vs, (zup mi 8 (4 * i + q) (nI s)), ml, (zmr g))) rfl ?_
    refine Wp.call (as := [.int (nI q), .int 0, .int 3]) (rest := []) rfl rfl rfl rfl rfl (Nat.le_of_ble_eq_true rfl) (Nat.le_of_ble_eq_true rfl) rfl (by decide) (m_isIn_t hw) ?_
    rintro _ _ ⟨rfl, rfl⟩
    refine Wp.run 4 (23, [(0, .ref 66), (1, .int (nI i)), (2, .int (nI q)), (3, .int (nI s))], [.int 9, .int 0, .int (nI s)], (zsh ++ vs, (zup mi 8 (4 * i + q) (nI s)), ml, (zmr g))) rfl ?_
    refine Wp.call (as := [.int (nI s), .int 0, .int 9]) (rest := []) rfl rfl rfl rfl rfl (Nat.le_of_ble_eq_true rfl) (Nat.le_of_ble_eq_true rfl) rfl (by decide) (m_isIn_t hk) ?_
    rintro _ _ ⟨rfl, rfl⟩
    refine Wp.run 4 (35, [(0, .ref 66), (1, .int (nI i)), (2, .int (nI q)), (3, .int (nI s))], [.int 0, .int (nI i), .ref 66], (zsh ++ vs, (zup mi 8 (4 * i + q) (nI s)), ml, (zmr g))) rfl ?_
    refine Wp.call (as := [.ref 66, .int (nI i), .int 0]) (rest := []) rfl rfl rfl rfl rfl (Nat.le_of_ble_eq_true rfl) (Nat.le_of_ble_eq_true rfl) rfl (by decide) (m_one (mi := (zup mi 8 (4 * i + q) (nI s))) i 0 (by omega)) ?_
    rintro _ _ ⟨rfl, rfl⟩
    refine Wp.run 1 (40, [(0, .ref 66), (1, .int (nI i)), (2, .int (nI q)), (3, .int (nI s))], [.int 6, .int (mi 67 (8 + 10 * i + 0))], (zsh ++ vs, (zup mi 8 (4 * i + q) (nI s)), ml, (zmr g))) rfl ?_
    refine Wp.icmp_ne rfl (fun h51 => ?_) (fun h51 => ?_)
    · exact absurd (hk0.symm.trans h0) h51
    · refine Wp.run 5 (49, [(0, .ref 66), (1, .int (nI i)), (2, .int (nI q)), (3, .int (nI s))], [.int (6 + (nI q)), .int (nI i), .ref 66], (zsh ++ vs, (zup mi 8 (4 * i + q) (nI s)), ml, (zmr g))) rfl ?_
      refine Wp.topi (y := nI (6 + q)) (nI_add 6 q) ?_
      refine Wp.run 1 (50, [(0, .ref 66), (1, .int (nI i)), (2, .int (nI q)), (3, .int (nI s))], [.int (nI s), .int (nI (6 + q)), .int (nI i), .ref 66], (zsh ++ vs, (zup mi 8 (4 * i + q) (nI s)), ml, (zmr g))) rfl ?_
      refine Wp.call (as := [.ref 66, .int (nI i), .int (nI (6 + q)), .int (nI s)]) (rest := []) rfl rfl rfl rfl rfl (Nat.le_of_ble_eq_true rfl) (Nat.le_of_ble_eq_true rfl) rfl (by decide) (m_change (mi := (zup mi 8 (4 * i + q) (nI s))) i (6 + q) (nI s) (by omega)) ?_
      rintro _ _ ⟨rfl, rfl⟩
      refine Wp.run 1 (58, [(0, .ref 66), (1, .int (nI i)), (2, .int (nI q)), (3, .int (nI s))], [.int (mi 67 (8 + 10 * i + (6 + q)))], (zsh ++ vs, (zup (zup mi 8 (4 * i + q) (nI s)) 67 (8 + 10 * i + (6 + q)) (nI s)), ml, (zmr g))) rfl ?_
      refine Wp.ret rfl rfl rfl ?_
      exact ⟨congrArg (fun z => some (Value.int z)) ((show mi 67 (8 + 10 * i + (6 + q)) = mi 8 (4 * i + q) from ((B.2.2.2.2.1 i hi (6 + q) (by omega)).symm.trans uB_row))), rfl⟩
  · have e67 : zup (zup mi 8 (4 * i + q) (nI s)) 67 (8 + 10 * i + (6 + q)) (nI s) 67 = upd (mi 67) (8 + 10 * i + (6 + q)) (nI s) := by rw [zup_eq, zup_ne (by decide)]
    refine (I.upB (fun b p q => by rw [zup_ne q, zup_ne (by omega)]) (fun j hj => by rw [e67, upd_ne (by omega)]) ?_ I.1.2 (Nat.le_refl _)).x
    rw [e67]
    exact BR_fr (BR_row4 B hi (by omega) ⟨s, hs, rfl⟩) (fun b p q => zup_ne (by omega))
theorem sim_teach {E : zEn} {nv : Nat} {VD : Nat → zV} {NL : Nat → Nat} {n dd : Nat} {vs : List (Nat × Nat)} {mi : Nat → Nat → Int32} {ml : Nat → Nat → Int64} {g : Nat → Nat → Option Nat} (I : INV nv VD NL n dd vs mi ml g) (x y p : Int32) : SIM E vs mi ml g pg_H_teach pg_M_teach [.int x, .int y, .int p] := by
  have B := I.1.1
  have h6 := B.1.2.1
  have hn := B.2.1
  have hN := B.1.1
  have hd := B.1.2.2.1
  have hdd := I.1.2
  by_cases hx : one n x
  rotate_left
  · refine SIM.q I (x := -1) (dc := 7) (dm := 27) (by decide) (by decide) ?_ ?_
    · refine Wp.run 3 (5, [(0, .ref 0), (1, .int x), (2, .int y), (3, .int p)], [.int x, .ref 1], (zsh ++ vs, mi, ml, (zmr g))) rfl ?_
      refine Wp.call (as := [.ref 1, .int x]) (rest := []) rfl rfl rfl rfl rfl (Nat.le_of_ble_eq_true rfl) (Nat.le_of_ble_eq_true rfl) rfl (by decide) (c_has_f (mi := mi) hn h6 hx) ?_
      rintro _ _ ⟨rfl, rfl⟩
      refine Wp.run 2 (32, [(0, .ref 0), (1, .int x), (2, .int y), (3, .int p)], [.int (-1)], (zsh ++ vs, mi, ml, (zmr g))) rfl ?_
      refine Wp.ret rfl rfl rfl ?_
      exact ⟨rfl, _, _, rfl, SC.rf, fun _ _ _ => rfl⟩
    · intro m g' I' e67 S
      have B' := I'.1.1
      have hn' := B'.2.1
      have hN' := B'.1.1
      have hd' := B'.1.2.2.1
      refine Wp.run 2 (2, [(0, .ref 66), (1, .int x), (2, .int y), (3, .int p)], [.int x, .ref 66], (zsh ++ vs, m, ml, (zmr g'))) rfl ?_
      refine Wp.call (as := [.ref 66, .int x]) (rest := []) rfl rfl rfl rfl rfl (Nat.le_of_ble_eq_true rfl) (Nat.le_of_ble_eq_true rfl) rfl (by decide) (m_isOne_f (mi := m) hN' h6 hx) ?_
      rintro _ _ ⟨rfl, rfl⟩
      refine Wp.run 2 (24, [(0, .ref 66), (1, .int x), (2, .int y), (3, .int p)], [.int (-1)], (zsh ++ vs, m, ml, (zmr g'))) rfl ?_
      refine Wp.ret rfl rfl rfl ?_
      exact ⟨rfl, _, rfl, SC.rf⟩
  by_cases hy : one n y
  rotate_left
  · refine SIM.q I (x := -1) (dc := 7) (dm := 27) (by decide) (by decide) ?_ ?_
    · refine Wp.run 3 (5, [(0, .ref 0), (1, .int x), (2, .int y), (3, .int p)], [.int x, .ref 1], (zsh ++ vs, mi, ml, (zmr g))) rfl ?_
      refine Wp.call (as := [.ref 1, .int x]) (rest := []) rfl rfl rfl rfl rfl (Nat.le_of_ble_eq_true rfl) (Nat.le_of_ble_eq_true rfl) rfl (by decide) (c_has_t (mi := mi) hn h6 hx) ?_
      rintro _ _ ⟨rfl, rfl⟩
      refine Wp.run 4 (16, [(0, .ref 0), (1, .int x), (2, .int y), (3, .int p)], [.int y, .ref 1], (zsh ++ vs, mi, ml, (zmr g))) rfl ?_
      refine Wp.call (as := [.ref 1, .int y]) (rest := []) rfl rfl rfl rfl rfl (Nat.le_of_ble_eq_true rfl) (Nat.le_of_ble_eq_true rfl) rfl (by decide) (c_has_f (mi := mi) hn h6 hy) ?_
      rintro _ _ ⟨rfl, rfl⟩
      refine Wp.run 2 (32, [(0, .ref 0), (1, .int x), (2, .int y), (3, .int p)], [.int (-1)], (zsh ++ vs, mi, ml, (zmr g))) rfl ?_
      refine Wp.ret rfl rfl rfl ?_
      exact ⟨rfl, _, _, rfl, SC.rf, fun _ _ _ => rfl⟩
    · intro m g' I' e67 S
      have B' := I'.1.1
      have hn' := B'.2.1
      have hN' := B'.1.1
      have hd' := B'.1.2.2.1
      refine Wp.run 2 (2, [(0, .ref 66), (1, .int x), (2, .int y), (3, .int p)], [.int x, .ref 66], (zsh ++ vs, m, ml, (zmr g'))) rfl ?_
      refine Wp.call (as := [.ref 66, .int x]) (rest := []) rfl rfl rfl rfl rfl (Nat.le_of_ble_eq_true rfl) (Nat.le_of_ble_eq_true rfl) rfl (by decide) (m_isOne_t (mi := m) hN' h6 hx) ?_
      rintro _ _ ⟨rfl, rfl⟩
      refine Wp.run 3 (10, [(0, .ref 66), (1, .int x), (2, .int y), (3, .int p)], [.int y, .ref 66], (zsh ++ vs, m, ml, (zmr g'))) rfl ?_
      refine Wp.call (as := [.ref 66, .int y]) (rest := []) rfl rfl rfl rfl rfl (Nat.le_of_ble_eq_true rfl) (Nat.le_of_ble_eq_true rfl) rfl (by decide) (m_isOne_f (mi := m) hN' h6 hy) ?_
      rintro _ _ ⟨rfl, rfl⟩
      refine Wp.run 2 (24, [(0, .ref 66), (1, .int x), (2, .int y), (3, .int p)], [.int (-1)], (zsh ++ vs, m, ml, (zmr g'))) rfl ?_
      refine Wp.ret rfl rfl rfl ?_
      exact ⟨rfl, _, rfl, SC.rf⟩
  by_cases hp : 0 ≤ p ∧ p ≤ 7
  rotate_left
  · refine SIM.q I (x := -1) (dc := 7) (dm := 27) (by decide) (by decide) ?_ ?_
    · refine Wp.run 3 (5, [(0, .ref 0), (1, .int x), (2, .int y), (3, .int p)], [.int x, .ref 1], (zsh ++ vs, mi, ml, (zmr g))) rfl ?_
      refine Wp.call (as := [.ref 1, .int x]) (rest := []) rfl rfl rfl rfl rfl (Nat.le_of_ble_eq_true rfl) (Nat.le_of_ble_eq_true rfl) rfl (by decide) (c_has_t (mi := mi) hn h6 hx) ?_
      rintro _ _ ⟨rfl, rfl⟩
      refine Wp.run 4 (16, [(0, .ref 0), (1, .int x), (2, .int y), (3, .int p)], [.int y, .ref 1], (zsh ++ vs, mi, ml, (zmr g))) rfl ?_
      refine Wp.call (as := [.ref 1, .int y]) (rest := []) rfl rfl rfl rfl rfl (Nat.le_of_ble_eq_true rfl) (Nat.le_of_ble_eq_true rfl) rfl (by decide) (c_has_t (mi := mi) hn h6 hy) ?_
      rintro _ _ ⟨rfl, rfl⟩
      refine Wp.run 3 (25, [(0, .ref 0), (1, .int x), (2, .int y), (3, .int p)], [.int 7, .int p], (zsh ++ vs, mi, ml, (zmr g))) rfl ?_
      refine Wp.call (as := [.int p, .int 7]) (rest := []) rfl rfl rfl rfl rfl (Nat.le_of_ble_eq_true rfl) (Nat.le_of_ble_eq_true rfl) rfl (by decide) (c_within_f hp) ?_
      rintro _ _ ⟨rfl, rfl⟩
      refine Wp.run 2 (32, [(0, .ref 0), (1, .int x), (2, .int y), (3, .int p)], [.int (-1)], (zsh ++ vs, mi, ml, (zmr g))) rfl ?_
      refine Wp.ret rfl rfl rfl ?_
      exact ⟨rfl, _, _, rfl, SC.rf, fun _ _ _ => rfl⟩
    · intro m g' I' e67 S
      have B' := I'.1.1
      have hn' := B'.2.1
      have hN' := B'.1.1
      have hd' := B'.1.2.2.1
      refine Wp.run 2 (2, [(0, .ref 66), (1, .int x), (2, .int y), (3, .int p)], [.int x, .ref 66], (zsh ++ vs, m, ml, (zmr g'))) rfl ?_
      refine Wp.call (as := [.ref 66, .int x]) (rest := []) rfl rfl rfl rfl rfl (Nat.le_of_ble_eq_true rfl) (Nat.le_of_ble_eq_true rfl) rfl (by decide) (m_isOne_t (mi := m) hN' h6 hx) ?_
      rintro _ _ ⟨rfl, rfl⟩
      refine Wp.run 3 (10, [(0, .ref 66), (1, .int x), (2, .int y), (3, .int p)], [.int y, .ref 66], (zsh ++ vs, m, ml, (zmr g'))) rfl ?_
      refine Wp.call (as := [.ref 66, .int y]) (rest := []) rfl rfl rfl rfl rfl (Nat.le_of_ble_eq_true rfl) (Nat.le_of_ble_eq_true rfl) rfl (by decide) (m_isOne_t (mi := m) hN' h6 hy) ?_
      rintro _ _ ⟨rfl, rfl⟩
      refine Wp.run 2 (17, [(0, .ref 66), (1, .int x), (2, .int y), (3, .int p)], [.int p], (zsh ++ vs, m, ml, (zmr g'))) rfl ?_
      refine Wp.call (as := [.int p]) (rest := []) rfl rfl rfl rfl rfl (Nat.le_of_ble_eq_true rfl) (Nat.le_of_ble_eq_true rfl) rfl (by decide) (m_isPart_f hp) ?_
      rintro _ _ ⟨rfl, rfl⟩
      refine Wp.run 2 (24, [(0, .ref 66), (1, .int x), (2, .int y), (3, .int p)], [.int (-1)], (zsh ++ vs, m, ml, (zmr g'))) rfl ?_
      refine Wp.ret rfl rfl rfl ?_
      exact ⟨rfl, _, rfl, SC.rf⟩
  have hx9 := hx
  obtain ⟨i, hi, rfl⟩ := hx
  have hy9 := hy
  obtain ⟨j, hj, rfl⟩ := hy
  obtain ⟨q, hq, rfl⟩ := rng_of (h := 7) rfl hp
  by_cases hij : nI i = nI j
  · refine SIM.q I (x := -2) (dc := 7) (dm := 27) (by decide) (by decide) ?_ ?_
    · refine Wp.run 3 (5, [(0, .ref 0), (1, .int (nI i)), (2, .int (nI j)), (3, .int (nI q))], [.int (nI i), .ref 1], (zsh ++ vs, mi, ml, (zmr g))) rfl ?_
      refine Wp.call (as := [.ref 1, .int (nI i)]) (rest := []) rfl rfl rfl rfl rfl (Nat.le_of_ble_eq_true rfl) (Nat.le_of_ble_eq_true rfl) rfl (by decide) (c_has_t (mi := mi) hn h6 hx9) ?_
      rintro _ _ ⟨rfl, rfl⟩
      refine Wp.run 4 (16, [(0, .ref 0), (1, .int (nI i)), (2, .int (nI j)), (3, .int (nI q))], [.int (nI j), .ref 1], (zsh ++ vs, mi, ml, (zmr g))) rfl ?_
      refine Wp.call (as := [.ref 1, .int (nI j)]) (rest := []) rfl rfl rfl rfl rfl (Nat.le_of_ble_eq_true rfl) (Nat.le_of_ble_eq_true rfl) rfl (by decide) (c_has_t (mi := mi) hn h6 hy9) ?_
      rintro _ _ ⟨rfl, rfl⟩
      refine Wp.run 3 (25, [(0, .ref 0), (1, .int (nI i)), (2, .int (nI j)), (3, .int (nI q))], [.int 7, .int (nI q)], (zsh ++ vs, mi, ml, (zmr g))) rfl ?_
      refine Wp.call (as := [.int (nI q), .int 7]) (rest := []) rfl rfl rfl rfl rfl (Nat.le_of_ble_eq_true rfl) (Nat.le_of_ble_eq_true rfl) rfl (by decide) (c_within_t hp) ?_
      rintro _ _ ⟨rfl, rfl⟩
      refine Wp.run 3 (35, [(0, .ref 0), (1, .int (nI i)), (2, .int (nI j)), (3, .int (nI q))], [.int (nI j), .int (nI i)], (zsh ++ vs, mi, ml, (zmr g))) rfl ?_
      refine Wp.icmp_ne rfl (fun h1 => ?_) (fun h1 => ?_)
      · exact absurd hij h1
      · refine Wp.run 1 (40, [(0, .ref 0), (1, .int (nI i)), (2, .int (nI j)), (3, .int (nI q))], [.int (-2)], (zsh ++ vs, mi, ml, (zmr g))) rfl ?_
        refine Wp.ret rfl rfl rfl ?_
        exact ⟨rfl, _, _, rfl, SC.rf, fun _ _ _ => rfl⟩
    · intro m g' I' e67 S
      have B' := I'.1.1
      have hn' := B'.2.1
      have hN' := B'.1.1
      have hd' := B'.1.2.2.1
      refine Wp.run 2 (2, [(0, .ref 66), (1, .int (nI i)), (2, .int (nI j)), (3, .int (nI q))], [.int (nI i), .ref 66], (zsh ++ vs, m, ml, (zmr g'))) rfl ?_
      refine Wp.call (as := [.ref 66, .int (nI i)]) (rest := []) rfl rfl rfl rfl rfl (Nat.le_of_ble_eq_true rfl) (Nat.le_of_ble_eq_true rfl) rfl (by decide) (m_isOne_t (mi := m) hN' h6 hx9) ?_
      rintro _ _ ⟨rfl, rfl⟩
      refine Wp.run 3 (10, [(0, .ref 66), (1, .int (nI i)), (2, .int (nI j)), (3, .int (nI q))], [.int (nI j), .ref 66], (zsh ++ vs, m, ml, (zmr g'))) rfl ?_
      refine Wp.call (as := [.ref 66, .int (nI j)]) (rest := []) rfl rfl rfl rfl rfl (Nat.le_of_ble_eq_true rfl) (Nat.le_of_ble_eq_true rfl) rfl (by decide) (m_isOne_t (mi := m) hN' h6 hy9) ?_
      rintro _ _ ⟨rfl, rfl⟩
      refine Wp.run 2 (17, [(0, .ref 66), (1, .int (nI i)), (2, .int (nI j)), (3, .int (nI q))], [.int (nI q)], (zsh ++ vs, m, ml, (zmr g'))) rfl ?_
      refine Wp.call (as := [.int (nI q)]) (rest := []) rfl rfl rfl rfl rfl (Nat.le_of_ble_eq_true rfl) (Nat.le_of_ble_eq_true rfl) rfl (by decide) (m_isPart_t hp) ?_
      rintro _ _ ⟨rfl, rfl⟩
      refine Wp.run 3 (27, [(0, .ref 66), (1, .int (nI i)), (2, .int (nI j)), (3, .int (nI q))], [.int (nI j), .int (nI i)], (zsh ++ vs, m, ml, (zmr g'))) rfl ?_
      refine Wp.icmp_ne rfl (fun h51 => ?_) (fun h51 => ?_)
      · exact absurd hij h51
      · refine Wp.run 1 (32, [(0, .ref 66), (1, .int (nI i)), (2, .int (nI j)), (3, .int (nI q))], [.int (-2)], (zsh ++ vs, m, ml, (zmr g'))) rfl ?_
        refine Wp.ret rfl rfl rfl ?_
        exact ⟨rfl, _, rfl, SC.rf⟩
  have ai := B.aw hi
  have aj := B.aw hj
  have hj2 := B.held hj
  by_cases hi4 : uN (mi 67) i 4 = 0
  rotate_left
  · refine SIM.q I (x := -3) (dc := 7) (dm := 27) (by decide) (by decide) ?_ ?_
    · refine Wp.run 3 (5, [(0, .ref 0), (1, .int (nI i)), (2, .int (nI j)), (3, .int (nI q))], [.int (nI i), .ref 1], (zsh ++ vs, mi, ml, (zmr g))) rfl ?_
      refine Wp.call (as := [.ref 1, .int (nI i)]) (rest := []) rfl rfl rfl rfl rfl (Nat.le_of_ble_eq_true rfl) (Nat.le_of_ble_eq_true rfl) rfl (by decide) (c_has_t (mi := mi) hn h6 hx9) ?_
      rintro _ _ ⟨rfl, rfl⟩
      refine Wp.run 4 (16, [(0, .ref 0), (1, .int (nI i)), (2, .int (nI j)), (3, .int (nI q))], [.int (nI j), .ref 1], (zsh ++ vs, mi, ml, (zmr g))) rfl ?_
      refine Wp.call (as := [.ref 1, .int (nI j)]) (rest := []) rfl rfl rfl rfl rfl (Nat.le_of_ble_eq_true rfl) (Nat.le_of_ble_eq_true rfl) rfl (by decide) (c_has_t (mi := mi) hn h6 hy9) ?_
      rintro _ _ ⟨rfl, rfl⟩
      refine Wp.run 3 (25, [(0, .ref 0), (1, .int (nI i)), (2, .int (nI j)), (3, .int (nI q))], [.int 7, .int (nI q)], (zsh ++ vs, mi, ml, (zmr g))) rfl ?_
      refine Wp.call (as := [.int (nI q), .int 7]) (rest := []) rfl rfl rfl rfl rfl (Nat.le_of_ble_eq_true rfl) (Nat.le_of_ble_eq_true rfl) rfl (by decide) (c_within_t hp) ?_
      rintro _ _ ⟨rfl, rfl⟩
      refine Wp.run 3 (35, [(0, .ref 0), (1, .int (nI i)), (2, .int (nI j)), (3, .int (nI q))], [.int (nI j), .int (nI i)], (zsh ++ vs, mi, ml, (zmr g))) rfl ?_
      refine Wp.icmp_ne rfl (fun h1 => ?_) (fun h1 => ?_)
      · refine Wp.run 3 (46, [(0, .ref 0), (1, .int (nI i)), (2, .int (nI j)), (3, .int (nI q))], [.int (nI i), .ref 1], (zsh ++ vs, mi, ml, (zmr g))) rfl ?_
        refine Wp.call (as := [.ref 1, .int (nI i)]) (rest := []) rfl rfl rfl rfl rfl (Nat.le_of_ble_eq_true rfl) (Nat.le_of_ble_eq_true rfl) rfl (by decide) (c_isHere_f (mi := mi) (i := i) (by rw [ai]; exact hi4)) ?_
        rintro _ _ ⟨rfl, rfl⟩
        refine Wp.run 2 (81, [(0, .ref 0), (1, .int (nI i)), (2, .int (nI j)), (3, .int (nI q))], [.int (-3)], (zsh ++ vs, mi, ml, (zmr g))) rfl ?_
        refine Wp.ret rfl rfl rfl ?_
        exact ⟨rfl, _, _, rfl, SC.rf, fun _ _ _ => rfl⟩
      · exact absurd h1 hij
    · intro m g' I' e67 S
      have B' := I'.1.1
      have hn' := B'.2.1
      have hN' := B'.1.1
      have hd' := B'.1.2.2.1
      refine Wp.run 2 (2, [(0, .ref 66), (1, .int (nI i)), (2, .int (nI j)), (3, .int (nI q))], [.int (nI i), .ref 66], (zsh ++ vs, m, ml, (zmr g'))) rfl ?_
      refine Wp.call (as := [.ref 66, .int (nI i)]) (rest := []) rfl rfl rfl rfl rfl (Nat.le_of_ble_eq_true rfl) (Nat.le_of_ble_eq_true rfl) rfl (by decide) (m_isOne_t (mi := m) hN' h6 hx9) ?_
      rintro _ _ ⟨rfl, rfl⟩
      refine Wp.run 3 (10, [(0, .ref 66), (1, .int (nI i)), (2, .int (nI j)), (3, .int (nI q))], [.int (nI j), .ref 66], (zsh ++ vs, m, ml, (zmr g'))) rfl ?_
      refine Wp.call (as := [.ref 66, .int (nI j)]) (rest := []) rfl rfl rfl rfl rfl (Nat.le_of_ble_eq_true rfl) (Nat.le_of_ble_eq_true rfl) rfl (by decide) (m_isOne_t (mi := m) hN' h6 hy9) ?_
      rintro _ _ ⟨rfl, rfl⟩
      refine Wp.run 2 (17, [(0, .ref 66), (1, .int (nI i)), (2, .int (nI j)), (3, .int (nI q))], [.int (nI q)], (zsh ++ vs, m, ml, (zmr g'))) rfl ?_
      refine Wp.call (as := [.int (nI q)]) (rest := []) rfl rfl rfl rfl rfl (Nat.le_of_ble_eq_true rfl) (Nat.le_of_ble_eq_true rfl) rfl (by decide) (m_isPart_t hp) ?_
      rintro _ _ ⟨rfl, rfl⟩
      refine Wp.run 3 (27, [(0, .ref 66), (1, .int (nI i)), (2, .int (nI j)), (3, .int (nI q))], [.int (nI j), .int (nI i)], (zsh ++ vs, m, ml, (zmr g'))) rfl ?_
      refine Wp.icmp_ne rfl (fun h51 => ?_) (fun h51 => ?_)
      · refine Wp.run 2 (35, [(0, .ref 66), (1, .int (nI i)), (2, .int (nI j)), (3, .int (nI q))], [.int (nI i), .ref 66], (zsh ++ vs, m, ml, (zmr g'))) rfl ?_
        refine Wp.call (as := [.ref 66, .int (nI i)]) (rest := []) rfl rfl rfl rfl rfl (Nat.le_of_ble_eq_true rfl) (Nat.le_of_ble_eq_true rfl) rfl (by decide) (m_isHere_f (mi := m) (i := i) (by omega) (by rw [e67]; exact hi4)) ?_
        rintro _ _ ⟨rfl, rfl⟩
        refine Wp.run 2 (60, [(0, .ref 66), (1, .int (nI i)), (2, .int (nI j)), (3, .int (nI q))], [.int (-3)], (zsh ++ vs, m, ml, (zmr g'))) rfl ?_
        refine Wp.ret rfl rfl rfl ?_
        exact ⟨rfl, _, rfl, SC.rf⟩
      · exact absurd h51 hij
  by_cases hj4 : uN (mi 67) j 4 = 0
  rotate_left
  · refine SIM.q I (x := -3) (dc := 7) (dm := 27) (by decide) (by decide) ?_ ?_
    · refine Wp.run 3 (5, [(0, .ref 0), (1, .int (nI i)), (2, .int (nI j)), (3, .int (nI q))], [.int (nI i), .ref 1], (zsh ++ vs, mi, ml, (zmr g))) rfl ?_
      refine Wp.call (as := [.ref 1, .int (nI i)]) (rest := []) rfl rfl rfl rfl rfl (Nat.le_of_ble_eq_true rfl) (Nat.le_of_ble_eq_true rfl) rfl (by decide) (c_has_t (mi := mi) hn h6 hx9) ?_
      rintro _ _ ⟨rfl, rfl⟩
      refine Wp.run 4 (16, [(0, .ref 0), (1, .int (nI i)), (2, .int (nI j)), (3, .int (nI q))], [.int (nI j), .ref 1], (zsh ++ vs, mi, ml, (zmr g))) rfl ?_
      refine Wp.call (as := [.ref 1, .int (nI j)]) (rest := []) rfl rfl rfl rfl rfl (Nat.le_of_ble_eq_true rfl) (Nat.le_of_ble_eq_true rfl) rfl (by decide) (c_has_t (mi := mi) hn h6 hy9) ?_
      rintro _ _ ⟨rfl, rfl⟩
      refine Wp.run 3 (25, [(0, .ref 0), (1, .int (nI i)), (2, .int (nI j)), (3, .int (nI q))], [.int 7, .int (nI q)], (zsh ++ vs, mi, ml, (zmr g))) rfl ?_
      refine Wp.call (as := [.int (nI q), .int 7]) (rest := []) rfl rfl rfl rfl rfl (Nat.le_of_ble_eq_true rfl) (Nat.le_of_ble_eq_true rfl) rfl (by decide) (c_within_t hp) ?_
      rintro _ _ ⟨rfl, rfl⟩
      refine Wp.run 3 (35, [(0, .ref 0), (1, .int (nI i)), (2, .int (nI j)), (3, .int (nI q))], [.int (nI j), .int (nI i)], (zsh ++ vs, mi, ml, (zmr g))) rfl ?_
      refine Wp.icmp_ne rfl (fun h1 => ?_) (fun h1 => ?_)
      · refine Wp.run 3 (46, [(0, .ref 0), (1, .int (nI i)), (2, .int (nI j)), (3, .int (nI q))], [.int (nI i), .ref 1], (zsh ++ vs, mi, ml, (zmr g))) rfl ?_
        refine Wp.call (as := [.ref 1, .int (nI i)]) (rest := []) rfl rfl rfl rfl rfl (Nat.le_of_ble_eq_true rfl) (Nat.le_of_ble_eq_true rfl) rfl (by decide) (c_isHere_t (mi := mi) (i := i) (by rw [ai]; exact hi4)) ?_
        rintro _ _ ⟨rfl, rfl⟩
        refine Wp.run 4 (57, [(0, .ref 0), (1, .int (nI i)), (2, .int (nI j)), (3, .int (nI q))], [.int (nI j), .ref 1], (zsh ++ vs, mi, ml, (zmr g))) rfl ?_
        refine Wp.call (as := [.ref 1, .int (nI j)]) (rest := []) rfl rfl rfl rfl rfl (Nat.le_of_ble_eq_true rfl) (Nat.le_of_ble_eq_true rfl) rfl (by decide) (c_isHere_f (mi := mi) (i := j) (by rw [aj]; exact hj4)) ?_
        rintro _ _ ⟨rfl, rfl⟩
        refine Wp.run 2 (81, [(0, .ref 0), (1, .int (nI i)), (2, .int (nI j)), (3, .int (nI q))], [.int (-3)], (zsh ++ vs, mi, ml, (zmr g))) rfl ?_
        refine Wp.ret rfl rfl rfl ?_
        exact ⟨rfl, _, _, rfl, SC.rf, fun _ _ _ => rfl⟩
      · exact absurd h1 hij
    · intro m g' I' e67 S
      have B' := I'.1.1
      have hn' := B'.2.1
      have hN' := B'.1.1
      have hd' := B'.1.2.2.1
      refine Wp.run 2 (2, [(0, .ref 66), (1, .int (nI i)), (2, .int (nI j)), (3, .int (nI q))], [.int (nI i), .ref 66], (zsh ++ vs, m, ml, (zmr g'))) rfl ?_
      refine Wp.call (as := [.ref 66, .int (nI i)]) (rest := []) rfl rfl rfl rfl rfl (Nat.le_of_ble_eq_true rfl) (Nat.le_of_ble_eq_true rfl) rfl (by decide) (m_isOne_t (mi := m) hN' h6 hx9) ?_
      rintro _ _ ⟨rfl, rfl⟩
      refine Wp.run 3 (10, [(0, .ref 66), (1, .int (nI i)), (2, .int (nI j)), (3, .int (nI q))], [.int (nI j), .ref 66], (zsh ++ vs, m, ml, (zmr g'))) rfl ?_
      refine Wp.call (as := [.ref 66, .int (nI j)]) (rest := []) rfl rfl rfl rfl rfl (Nat.le_of_ble_eq_true rfl) (Nat.le_of_ble_eq_true rfl) rfl (by decide) (m_isOne_t (mi := m) hN' h6 hy9) ?_
      rintro _ _ ⟨rfl, rfl⟩
      refine Wp.run 2 (17, [(0, .ref 66), (1, .int (nI i)), (2, .int (nI j)), (3, .int (nI q))], [.int (nI q)], (zsh ++ vs, m, ml, (zmr g'))) rfl ?_
      refine Wp.call (as := [.int (nI q)]) (rest := []) rfl rfl rfl rfl rfl (Nat.le_of_ble_eq_true rfl) (Nat.le_of_ble_eq_true rfl) rfl (by decide) (m_isPart_t hp) ?_
      rintro _ _ ⟨rfl, rfl⟩
      refine Wp.run 3 (27, [(0, .ref 66), (1, .int (nI i)), (2, .int (nI j)), (3, .int (nI q))], [.int (nI j), .int (nI i)], (zsh ++ vs, m, ml, (zmr g'))) rfl ?_
      refine Wp.icmp_ne rfl (fun h51 => ?_) (fun h51 => ?_)
      · refine Wp.run 2 (35, [(0, .ref 66), (1, .int (nI i)), (2, .int (nI j)), (3, .int (nI q))], [.int (nI i), .ref 66], (zsh ++ vs, m, ml, (zmr g'))) rfl ?_
        refine Wp.call (as := [.ref 66, .int (nI i)]) (rest := []) rfl rfl rfl rfl rfl (Nat.le_of_ble_eq_true rfl) (Nat.le_of_ble_eq_true rfl) rfl (by decide) (m_isHere_t (mi := m) (i := i) (by omega) (by rw [e67]; exact hi4)) ?_
        rintro _ _ ⟨rfl, rfl⟩
        refine Wp.run 3 (43, [(0, .ref 66), (1, .int (nI i)), (2, .int (nI j)), (3, .int (nI q))], [.int (nI j), .ref 66], (zsh ++ vs, m, ml, (zmr g'))) rfl ?_
        refine Wp.call (as := [.ref 66, .int (nI j)]) (rest := []) rfl rfl rfl rfl rfl (Nat.le_of_ble_eq_true rfl) (Nat.le_of_ble_eq_true rfl) rfl (by decide) (m_isHere_f (mi := m) (i := j) (by omega) (by rw [e67]; exact hj4)) ?_
        rintro _ _ ⟨rfl, rfl⟩
        refine Wp.run 2 (60, [(0, .ref 66), (1, .int (nI i)), (2, .int (nI j)), (3, .int (nI q))], [.int (-3)], (zsh ++ vs, m, ml, (zmr g'))) rfl ?_
        refine Wp.ret rfl rfl rfl ?_
        exact ⟨rfl, _, rfl, SC.rf⟩
      · exact absurd h51 hij
  by_cases hb : bt (uN (mi 67) j 2) q = true
  rotate_left
  · refine SIM.q I (x := -3) (dc := 7) (dm := 27) (by decide) (by decide) ?_ ?_
    · refine Wp.run 3 (5, [(0, .ref 0), (1, .int (nI i)), (2, .int (nI j)), (3, .int (nI q))], [.int (nI i), .ref 1], (zsh ++ vs, mi, ml, (zmr g))) rfl ?_
      refine Wp.call (as := [.ref 1, .int (nI i)]) (rest := []) rfl rfl rfl rfl rfl (Nat.le_of_ble_eq_true rfl) (Nat.le_of_ble_eq_true rfl) rfl (by decide) (c_has_t (mi := mi) hn h6 hx9) ?_
      rintro _ _ ⟨rfl, rfl⟩
      refine Wp.run 4 (16, [(0, .ref 0), (1, .int (nI i)), (2, .int (nI j)), (3, .int (nI q))], [.int (nI j), .ref 1], (zsh ++ vs, mi, ml, (zmr g))) rfl ?_
      refine Wp.call (as := [.ref 1, .int (nI j)]) (rest := []) rfl rfl rfl rfl rfl (Nat.le_of_ble_eq_true rfl) (Nat.le_of_ble_eq_true rfl) rfl (by decide) (c_has_t (mi := mi) hn h6 hy9) ?_
      rintro _ _ ⟨rfl, rfl⟩
      refine Wp.run 3 (25, [(0, .ref 0), (1, .int (nI i)), (2, .int (nI j)), (3, .int (nI q))], [.int 7, .int (nI q)], (zsh ++ vs, mi, ml, (zmr g))) rfl ?_
      refine Wp.call (as := [.int (nI q), .int 7]) (rest := []) rfl rfl rfl rfl rfl (Nat.le_of_ble_eq_true rfl) (Nat.le_of_ble_eq_true rfl) rfl (by decide) (c_within_t hp) ?_
      rintro _ _ ⟨rfl, rfl⟩
      refine Wp.run 3 (35, [(0, .ref 0), (1, .int (nI i)), (2, .int (nI j)), (3, .int (nI q))], [.int (nI j), .int (nI i)], (zsh ++ vs, mi, ml, (zmr g))) rfl ?_
      refine Wp.icmp_ne rfl (fun h1 => ?_) (fun h1 => ?_)
      · refine Wp.run 3 (46, [(0, .ref 0), (1, .int (nI i)), (2, .int (nI j)), (3, .int (nI q))], [.int (nI i), .ref 1], (zsh ++ vs, mi, ml, (zmr g))) rfl ?_
        refine Wp.call (as := [.ref 1, .int (nI i)]) (rest := []) rfl rfl rfl rfl rfl (Nat.le_of_ble_eq_true rfl) (Nat.le_of_ble_eq_true rfl) rfl (by decide) (c_isHere_t (mi := mi) (i := i) (by rw [ai]; exact hi4)) ?_
        rintro _ _ ⟨rfl, rfl⟩
        refine Wp.run 4 (57, [(0, .ref 0), (1, .int (nI i)), (2, .int (nI j)), (3, .int (nI q))], [.int (nI j), .ref 1], (zsh ++ vs, mi, ml, (zmr g))) rfl ?_
        refine Wp.call (as := [.ref 1, .int (nI j)]) (rest := []) rfl rfl rfl rfl rfl (Nat.le_of_ble_eq_true rfl) (Nat.le_of_ble_eq_true rfl) rfl (by decide) (c_isHere_t (mi := mi) (i := j) (by rw [aj]; exact hj4)) ?_
        rintro _ _ ⟨rfl, rfl⟩
        refine Wp.run 5 (71, [(0, .ref 0), (1, .int (nI i)), (2, .int (nI j)), (3, .int (nI q))], [.int (nI j), .ref 5], (zsh ++ vs, mi, ml, (zmr g))) rfl ?_
        refine Wp.ialn rfl (by decide) rfl (by omega) (by decide) ?_
        refine Wp.run 1 (73, [(0, .ref 0), (1, .int (nI i)), (2, .int (nI j)), (3, .int (nI q))], [.int (nI q), .int (mi 5 j)], (zsh ++ vs, mi, ml, (zmr g))) rfl ?_
        refine Wp.call (as := [.int (mi 5 j), .int (nI q)]) (rest := []) rfl rfl rfl rfl rfl (Nat.le_of_ble_eq_true rfl) (Nat.le_of_ble_eq_true rfl) rfl (by decide) (c_bit (mi 5 j) (nI q)) ?_
        rintro _ _ ⟨rfl, rfl⟩
        rw [show mi 5 j = _ from hj2, bit1 _ (by omega), if_neg hb]
        refine Wp.run 2 (81, [(0, .ref 0), (1, .int (nI i)), (2, .int (nI j)), (3, .int (nI q))], [.int (-3)], (zsh ++ vs, mi, ml, (zmr g))) rfl ?_
        refine Wp.ret rfl rfl rfl ?_
        exact ⟨rfl, _, _, rfl, SC.rf, fun _ _ _ => rfl⟩
      · exact absurd h1 hij
    · intro m g' I' e67 S
      have B' := I'.1.1
      have hn' := B'.2.1
      have hN' := B'.1.1
      have hd' := B'.1.2.2.1
      refine Wp.run 2 (2, [(0, .ref 66), (1, .int (nI i)), (2, .int (nI j)), (3, .int (nI q))], [.int (nI i), .ref 66], (zsh ++ vs, m, ml, (zmr g'))) rfl ?_
      refine Wp.call (as := [.ref 66, .int (nI i)]) (rest := []) rfl rfl rfl rfl rfl (Nat.le_of_ble_eq_true rfl) (Nat.le_of_ble_eq_true rfl) rfl (by decide) (m_isOne_t (mi := m) hN' h6 hx9) ?_
      rintro _ _ ⟨rfl, rfl⟩
      refine Wp.run 3 (10, [(0, .ref 66), (1, .int (nI i)), (2, .int (nI j)), (3, .int (nI q))], [.int (nI j), .ref 66], (zsh ++ vs, m, ml, (zmr g'))) rfl ?_
      refine Wp.call (as := [.ref 66, .int (nI j)]) (rest := []) rfl rfl rfl rfl rfl (Nat.le_of_ble_eq_true rfl) (Nat.le_of_ble_eq_true rfl) rfl (by decide) (m_isOne_t (mi := m) hN' h6 hy9) ?_
      rintro _ _ ⟨rfl, rfl⟩
      refine Wp.run 2 (17, [(0, .ref 66), (1, .int (nI i)), (2, .int (nI j)), (3, .int (nI q))], [.int (nI q)], (zsh ++ vs, m, ml, (zmr g'))) rfl ?_
      refine Wp.call (as := [.int (nI q)]) (rest := []) rfl rfl rfl rfl rfl (Nat.le_of_ble_eq_true rfl) (Nat.le_of_ble_eq_true rfl) rfl (by decide) (m_isPart_t hp) ?_
      rintro _ _ ⟨rfl, rfl⟩
      refine Wp.run 3 (27, [(0, .ref 66), (1, .int (nI i)), (2, .int (nI j)), (3, .int (nI q))], [.int (nI j), .int (nI i)], (zsh ++ vs, m, ml, (zmr g'))) rfl ?_
      refine Wp.icmp_ne rfl (fun h51 => ?_) (fun h51 => ?_)
      · refine Wp.run 2 (35, [(0, .ref 66), (1, .int (nI i)), (2, .int (nI j)), (3, .int (nI q))], [.int (nI i), .ref 66], (zsh ++ vs, m, ml, (zmr g'))) rfl ?_
        refine Wp.call (as := [.ref 66, .int (nI i)]) (rest := []) rfl rfl rfl rfl rfl (Nat.le_of_ble_eq_true rfl) (Nat.le_of_ble_eq_true rfl) rfl (by decide) (m_isHere_t (mi := m) (i := i) (by omega) (by rw [e67]; exact hi4)) ?_
        rintro _ _ ⟨rfl, rfl⟩
        refine Wp.run 3 (43, [(0, .ref 66), (1, .int (nI i)), (2, .int (nI j)), (3, .int (nI q))], [.int (nI j), .ref 66], (zsh ++ vs, m, ml, (zmr g'))) rfl ?_
        refine Wp.call (as := [.ref 66, .int (nI j)]) (rest := []) rfl rfl rfl rfl rfl (Nat.le_of_ble_eq_true rfl) (Nat.le_of_ble_eq_true rfl) rfl (by decide) (m_isHere_t (mi := m) (i := j) (by omega) (by rw [e67]; exact hj4)) ?_
        rintro _ _ ⟨rfl, rfl⟩
        refine Wp.run 4 (52, [(0, .ref 66), (1, .int (nI i)), (2, .int (nI j)), (3, .int (nI q))], [.int (nI q), .int (nI j), .ref 66], (zsh ++ vs, m, ml, (zmr g'))) rfl ?_
        refine Wp.call (as := [.ref 66, .int (nI j), .int (nI q)]) (rest := []) rfl rfl rfl rfl rfl (Nat.le_of_ble_eq_true rfl) (Nat.le_of_ble_eq_true rfl) rfl (by decide) (m_isHeld (mi := m) j (nI q) (by omega)) ?_
        rintro _ _ ⟨rfl, rfl⟩
        rw [if_neg (show ¬ m 67 (8 + 10 * j + 2) >>> (nI q &&& 31) &&& 1 = 1 from by rw [e67]; exact fun z => hb ((bit1_one _ (by omega)).mp z))]
        refine Wp.run 2 (60, [(0, .ref 66), (1, .int (nI i)), (2, .int (nI j)), (3, .int (nI q))], [.int (-3)], (zsh ++ vs, m, ml, (zmr g'))) rfl ?_
        refine Wp.ret rfl rfl rfl ?_
        exact ⟨rfl, _, rfl, SC.rf⟩
      · exact absurd h51 hij
  obtain ⟨s, hs, es⟩ := (B.1.2.2.2.2 i hi).2.2.1
  obtain ⟨u, hu, eu⟩ := or_bit q (by omega) s hs
  have ei : mi 5 i = nI s := (B.held hi).trans es
  refine SIM.u (x := zmany (nI u)) (m1 := (zup mi 5 i (nI u))) (l1 := ml) (m2 := (zup (zup mi 5 i (nI u)) 67 (8 + 10 * i + 2) (nI u))) (l2 := ml) (dc := 7) (dm := 27) (by decide) (by decide) ?_ ?_ ?_
  · refine Wp.run 3 (5, [(0, .ref 0), (1, .int (nI i)), (2, .int (nI j)), (3, .int (nI q))], [.int (nI i), .ref 1], (zsh ++ vs, mi, ml, (zmr g))) rfl ?_
    refine Wp.call (as := [.ref 1, .int (nI i)]) (rest := []) rfl rfl rfl rfl rfl (Nat.le_of_ble_eq_true rfl) (Nat.le_of_ble_eq_true rfl) rfl (by decide) (c_has_t (mi := mi) hn h6 hx9) ?_
    rintro _ _ ⟨rfl, rfl⟩
    refine Wp.run 4 (16, [(0, .ref 0), (1, .int (nI i)), (2, .int (nI j)), (3, .int (nI q))], [.int (nI j), .ref 1], (zsh ++ vs, mi, ml, (zmr g))) rfl ?_
    refine Wp.call (as := [.ref 1, .int (nI j)]) (rest := []) rfl rfl rfl rfl rfl (Nat.le_of_ble_eq_true rfl) (Nat.le_of_ble_eq_true rfl) rfl (by decide) (c_has_t (mi := mi) hn h6 hy9) ?_
    rintro _ _ ⟨rfl, rfl⟩
    refine Wp.run 3 (25, [(0, .ref 0), (1, .int (nI i)), (2, .int (nI j)), (3, .int (nI q))], [.int 7, .int (nI q)], (zsh ++ vs, mi, ml, (zmr g))) rfl ?_
    refine Wp.call (as := [.int (nI q), .int 7]) (rest := []) rfl rfl rfl rfl rfl (Nat.le_of_ble_eq_true rfl) (Nat.le_of_ble_eq_true rfl) rfl (by decide) (c_within_t hp) ?_
    rintro _ _ ⟨rfl, rfl⟩
    refine Wp.run 3 (35, [(0, .ref 0), (1, .int (nI i)), (2, .int (nI j)), (3, .int (nI q))], [.int (nI j), .int (nI i)], (zsh ++ vs, mi, ml, (zmr g))) rfl ?_
    refine Wp.icmp_ne rfl (fun h1 => ?_) (fun h1 => ?_)
    · refine Wp.run 3 (46, [(0, .ref 0), (1, .int (nI i)), (2, .int (nI j)), (3, .int (nI q))], [.int (nI i), .ref 1], (zsh ++ vs, mi, ml, (zmr g))) rfl ?_
      refine Wp.call (as := [.ref 1, .int (nI i)]) (rest := []) rfl rfl rfl rfl rfl (Nat.le_of_ble_eq_true rfl) (Nat.le_of_ble_eq_true rfl) rfl (by decide) (c_isHere_t (mi := mi) (i := i) (by rw [ai]; exact hi4)) ?_
      rintro _ _ ⟨rfl, rfl⟩
      refine Wp.run 4 (57, [(0, .ref 0), (1, .int (nI i)), (2, .int (nI j)), (3, .int (nI q))], [.int (nI j), .ref 1], (zsh ++ vs, mi, ml, (zmr g))) rfl ?_
      refine Wp.call (as := [.ref 1, .int (nI j)]) (rest := []) rfl rfl rfl rfl rfl (Nat.le_of_ble_eq_true rfl) (Nat.le_of_ble_eq_true rfl) rfl (by decide) (c_isHere_t (mi := mi) (i := j) (by rw [aj]; exact hj4)) ?_
      rintro _ _ ⟨rfl, rfl⟩
      refine Wp.run 5 (71, [(0, .ref 0), (1, .int (nI i)), (2, .int (nI j)), (3, .int (nI q))], [.int (nI j), .ref 5], (zsh ++ vs, mi, ml, (zmr g))) rfl ?_
      refine Wp.ialn rfl (by decide) rfl (by omega) (by decide) ?_
      refine Wp.run 1 (73, [(0, .ref 0), (1, .int (nI i)), (2, .int (nI j)), (3, .int (nI q))], [.int (nI q), .int (mi 5 j)], (zsh ++ vs, mi, ml, (zmr g))) rfl ?_
      refine Wp.call (as := [.int (mi 5 j), .int (nI q)]) (rest := []) rfl rfl rfl rfl rfl (Nat.le_of_ble_eq_true rfl) (Nat.le_of_ble_eq_true rfl) rfl (by decide) (c_bit (mi 5 j) (nI q)) ?_
      rintro _ _ ⟨rfl, rfl⟩
      rw [show mi 5 j = _ from hj2, bit1 _ (by omega), if_pos hb]
      refine Wp.run 6 (91, [(0, .ref 0), (1, .int (nI i)), (2, .int (nI j)), (3, .int (nI q))], [.int (nI i), .ref 5, .int (nI i), .ref 5], (zsh ++ vs, mi, ml, (zmr g))) rfl ?_
      refine Wp.ialn rfl (by decide) rfl (by omega) (by decide) ?_
      refine Wp.topi (y := nI s) (ei) ?_
      refine Wp.run 4 (96, [(0, .ref 0), (1, .int (nI i)), (2, .int (nI j)), (3, .int (nI q))], [.int ((nI s) ||| ((1 : Int32) <<< ((nI q) &&& 31))), .int (nI i), .ref 5], (zsh ++ vs, mi, ml, (zmr g))) rfl ?_
      refine Wp.topi (y := nI u) (eu) ?_
      refine Wp.iasn rfl (by decide) rfl (by omega) (by decide) ?_
      refine Wp.run 4 (105, [(0, .ref 0), (1, .int (nI i)), (2, .int (nI j)), (3, .int (nI q))], [.int (nI i), .ref 5], (zsh ++ vs, (zup mi 5 i (nI u)), ml, (zmr g))) rfl ?_
      refine Wp.ialn rfl (by decide) rfl (by omega) (by decide) ?_
      refine Wp.topi (y := nI u) (by simp only [zup, if_true]) ?_
      refine Wp.run 0 (106, [(0, .ref 0), (1, .int (nI i)), (2, .int (nI j)), (3, .int (nI q))], [.int (nI u)], (zsh ++ vs, (zup mi 5 i (nI u)), ml, (zmr g))) rfl ?_
      refine Wp.call (as := [.int (nI u)]) (rest := []) rfl rfl rfl rfl rfl (Nat.le_of_ble_eq_true rfl) (Nat.le_of_ble_eq_true rfl) rfl (by decide) (c_bitCount (nI u)) ?_
      rintro _ _ ⟨rfl, rfl⟩
      refine Wp.run 0 (109, [(0, .ref 0), (1, .int (nI i)), (2, .int (nI j)), (3, .int (nI q))], [.int (zbc (nI u))], (zsh ++ vs, (zup mi 5 i (nI u)), ml, (zmr g))) rfl ?_
      refine Wp.ret rfl rfl rfl ?_
      exact ⟨congrArg (fun z => some (Value.int z)) (zbc_256 u hu), rfl⟩
    · exact absurd h1 hij
  · refine Wp.run 2 (2, [(0, .ref 66), (1, .int (nI i)), (2, .int (nI j)), (3, .int (nI q))], [.int (nI i), .ref 66], (zsh ++ vs, (zup mi 5 i (nI u)), ml, (zmr g))) rfl ?_
    refine Wp.call (as := [.ref 66, .int (nI i)]) (rest := []) rfl rfl rfl rfl rfl (Nat.le_of_ble_eq_true rfl) (Nat.le_of_ble_eq_true rfl) rfl (by decide) (m_isOne_t (mi := (zup mi 5 i (nI u))) hN h6 hx9) ?_
    rintro _ _ ⟨rfl, rfl⟩
    refine Wp.run 3 (10, [(0, .ref 66), (1, .int (nI i)), (2, .int (nI j)), (3, .int (nI q))], [.int (nI j), .ref 66], (zsh ++ vs, (zup mi 5 i (nI u)), ml, (zmr g))) rfl ?_
    refine Wp.call (as := [.ref 66, .int (nI j)]) (rest := []) rfl rfl rfl rfl rfl (Nat.le_of_ble_eq_true rfl) (Nat.le_of_ble_eq_true rfl) rfl (by decide) (m_isOne_t (mi := (zup mi 5 i (nI u))) hN h6 hy9) ?_
    rintro _ _ ⟨rfl, rfl⟩
    refine Wp.run 2 (17, [(0, .ref 66), (1, .int (nI i)), (2, .int (nI j)), (3, .int (nI q))], [.int (nI q)], (zsh ++ vs, (zup mi 5 i (nI u)), ml, (zmr g))) rfl ?_
    refine Wp.call (as := [.int (nI q)]) (rest := []) rfl rfl rfl rfl rfl (Nat.le_of_ble_eq_true rfl) (Nat.le_of_ble_eq_true rfl) rfl (by decide) (m_isPart_t hp) ?_
    rintro _ _ ⟨rfl, rfl⟩
    refine Wp.run 3 (27, [(0, .ref 66), (1, .int (nI i)), (2, .int (nI j)), (3, .int (nI q))], [.int (nI j), .int (nI i)], (zsh ++ vs, (zup mi 5 i (nI u)), ml, (zmr g))) rfl ?_
    refine Wp.icmp_ne rfl (fun h51 => ?_) (fun h51 => ?_)
    · refine Wp.run 2 (35, [(0, .ref 66), (1, .int (nI i)), (2, .int (nI j)), (3, .int (nI q))], [.int (nI i), .ref 66], (zsh ++ vs, (zup mi 5 i (nI u)), ml, (zmr g))) rfl ?_
      refine Wp.call (as := [.ref 66, .int (nI i)]) (rest := []) rfl rfl rfl rfl rfl (Nat.le_of_ble_eq_true rfl) (Nat.le_of_ble_eq_true rfl) rfl (by decide) (m_isHere_t (mi := (zup mi 5 i (nI u))) (i := i) (by omega) hi4) ?_
      rintro _ _ ⟨rfl, rfl⟩
      refine Wp.run 3 (43, [(0, .ref 66), (1, .int (nI i)), (2, .int (nI j)), (3, .int (nI q))], [.int (nI j), .ref 66], (zsh ++ vs, (zup mi 5 i (nI u)), ml, (zmr g))) rfl ?_
      refine Wp.call (as := [.ref 66, .int (nI j)]) (rest := []) rfl rfl rfl rfl rfl (Nat.le_of_ble_eq_true rfl) (Nat.le_of_ble_eq_true rfl) rfl (by decide) (m_isHere_t (mi := (zup mi 5 i (nI u))) (i := j) (by omega) hj4) ?_
      rintro _ _ ⟨rfl, rfl⟩
      refine Wp.run 4 (52, [(0, .ref 66), (1, .int (nI i)), (2, .int (nI j)), (3, .int (nI q))], [.int (nI q), .int (nI j), .ref 66], (zsh ++ vs, (zup mi 5 i (nI u)), ml, (zmr g))) rfl ?_
      refine Wp.call (as := [.ref 66, .int (nI j), .int (nI q)]) (rest := []) rfl rfl rfl rfl rfl (Nat.le_of_ble_eq_true rfl) (Nat.le_of_ble_eq_true rfl) rfl (by decide) (m_isHeld (mi := (zup mi 5 i (nI u))) j (nI q) (by omega)) ?_
      rintro _ _ ⟨rfl, rfl⟩
      rw [if_pos (show (zup mi 5 i (nI u)) 67 (8 + 10 * j + 2) >>> (nI q &&& 31) &&& 1 = 1 from by show uN (mi 67) j 2 >>> (nI q &&& 31) &&& 1 = 1; exact (bit1_one _ (by omega)).mpr hb)]
      refine Wp.run 7 (67, [(0, .ref 66), (1, .int (nI i)), (2, .int (nI j)), (3, .int (nI q))], [.int 2, .int (nI i), .ref 66, .int 2, .int (nI i), .ref 66], (zsh ++ vs, (zup mi 5 i (nI u)), ml, (zmr g))) rfl ?_
      refine Wp.call (as := [.ref 66, .int (nI i), .int 2]) (rest := [.int 2, .int (nI i), .ref 66]) rfl rfl rfl rfl rfl (Nat.le_of_ble_eq_true rfl) (Nat.le_of_ble_eq_true rfl) rfl (by decide) (m_one (mi := (zup mi 5 i (nI u))) i 2 (by omega)) ?_
      rintro _ _ ⟨rfl, rfl⟩
      refine Wp.topi (y := nI s) (es) ?_
      refine Wp.run 4 (74, [(0, .ref 66), (1, .int (nI i)), (2, .int (nI j)), (3, .int (nI q))], [.int ((nI s) ||| ((1 : Int32) <<< ((nI q) &&& 31))), .int 2, .int (nI i), .ref 66], (zsh ++ vs, (zup mi 5 i (nI u)), ml, (zmr g))) rfl ?_
      refine Wp.topi (y := nI u) (eu) ?_
      refine Wp.run 0 (74, [(0, .ref 66), (1, .int (nI i)), (2, .int (nI j)), (3, .int (nI q))], [.int (nI u), .int 2, .int (nI i), .ref 66], (zsh ++ vs, (zup mi 5 i (nI u)), ml, (zmr g))) rfl ?_
      refine Wp.call (as := [.ref 66, .int (nI i), .int 2, .int (nI u)]) (rest := []) rfl rfl rfl rfl rfl (Nat.le_of_ble_eq_true rfl) (Nat.le_of_ble_eq_true rfl) rfl (by decide) (m_change (mi := (zup mi 5 i (nI u))) i 2 (nI u) (by omega)) ?_
      rintro _ _ ⟨rfl, rfl⟩
      refine Wp.topi (y := nI s) (es) ?_
      refine Wp.run 4 (81, [(0, .ref 66), (1, .int (nI i)), (2, .int (nI j)), (3, .int (nI q))], [.int 2, .int (nI i), .ref 66], (zsh ++ vs, (zup (zup mi 5 i (nI u)) 67 (8 + 10 * i + 2) (nI u)), ml, (zmr g))) rfl ?_
      refine Wp.call (as := [.ref 66, .int (nI i), .int 2]) (rest := []) rfl rfl rfl rfl rfl (Nat.le_of_ble_eq_true rfl) (Nat.le_of_ble_eq_true rfl) rfl (by decide) (m_one (mi := (zup (zup mi 5 i (nI u)) 67 (8 + 10 * i + 2) (nI u))) i 2 (by omega)) ?_
      rintro _ _ ⟨rfl, rfl⟩
      refine Wp.topi (y := nI u) (by simp only [zup, if_true]) ?_
      refine Wp.run 0 (84, [(0, .ref 66), (1, .int (nI i)), (2, .int (nI j)), (3, .int (nI q))], [.int (nI u)], (zsh ++ vs, (zup (zup mi 5 i (nI u)) 67 (8 + 10 * i + 2) (nI u)), ml, (zmr g))) rfl ?_
      refine Wp.call (as := [.int (nI u)]) (rest := []) rfl rfl rfl rfl rfl (Nat.le_of_ble_eq_true rfl) (Nat.le_of_ble_eq_true rfl) rfl (by decide) (m_many (nI u)) ?_
      rintro _ _ ⟨rfl, rfl⟩
      refine Wp.run 0 (87, [(0, .ref 66), (1, .int (nI i)), (2, .int (nI j)), (3, .int (nI q))], [.int (zmany (nI u))], (zsh ++ vs, (zup (zup mi 5 i (nI u)) 67 (8 + 10 * i + 2) (nI u)), ml, (zmr g))) rfl ?_
      refine Wp.ret rfl rfl rfl ?_
      exact ⟨rfl, rfl⟩
    · exact absurd h51 hij
  · exact (I.setf (f := 2) hi (Or.inr (Or.inl ⟨rfl, u, hu, rfl⟩))).x
