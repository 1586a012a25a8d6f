/-! THE CALLS: of, can -/
theorem sim_of {E : zEn} {nv : Nat} {VD : Nat → zV} {NL : Nat → Nat} {n dd : Nat} {vs : List (Nat × Nat)} {mi : Nat → Nat → Int32} {ml : Nat → Nat → Int64} {g : Nat → Nat → Option Nat} (I : INV nv VD NL n dd vs mi ml g) (x w : Int32) : SIM E vs mi ml g pg_H_of pg_M_of [.int x, .int w] := by
  have B := I.1.1
  have h6 := B.1.2.1
  have hn := B.2.1
  have hN := B.1.1
  have hd := B.1.2.2.1
  have hdd := I.1.2
  by_cases hx : one n x
  rotate_left
  · refine SIM.q I (x := -10001) (dc := 7) (dm := 27) (by decide) (by decide) ?_ ?_
    · refine Wp.run 3 (5, [(0, .ref 0), (1, .int x), (2, .int w)], [.int x, .ref 1], (zsh ++ vs, mi, ml, (zmr g))) rfl ?_
      refine Wp.call (as := [.ref 1, .int x]) (rest := []) rfl rfl rfl rfl rfl (Nat.le_of_ble_eq_true rfl) (Nat.le_of_ble_eq_true rfl) rfl (by decide) (c_has_f (mi := mi) hn h6 hx) ?_
      rintro _ _ ⟨rfl, rfl⟩
      refine Wp.run 2 (14, [(0, .ref 0), (1, .int x), (2, .int w)], [.int (-10001)], (zsh ++ vs, mi, ml, (zmr g))) rfl ?_
      refine Wp.ret rfl rfl rfl ?_
      exact ⟨rfl, _, _, rfl, SC.rf, fun _ _ _ => rfl⟩
    · intro m g' I' e67 S
      have B' := I'.1.1
      have hn' := B'.2.1
      have hN' := B'.1.1
      have hd' := B'.1.2.2.1
      refine Wp.run 2 (2, [(0, .ref 66), (1, .int x), (2, .int w)], [.int x, .ref 66], (zsh ++ vs, m, ml, (zmr g'))) rfl ?_
      refine Wp.call (as := [.ref 66, .int x]) (rest := []) rfl rfl rfl rfl rfl (Nat.le_of_ble_eq_true rfl) (Nat.le_of_ble_eq_true rfl) rfl (by decide) (m_isOne_f (mi := m) hN' h6 hx) ?_
      rintro _ _ ⟨rfl, rfl⟩
      refine Wp.run 2 (11, [(0, .ref 66), (1, .int x), (2, .int w)], [.int (-10001)], (zsh ++ vs, m, ml, (zmr g'))) rfl ?_
      refine Wp.ret rfl rfl rfl ?_
      exact ⟨rfl, _, rfl, SC.rf⟩
  have hx9 := hx
  obtain ⟨i, hi, rfl⟩ := hx
  by_cases hw : 0 ≤ w ∧ w ≤ 8
  rotate_left
  · refine SIM.q I (x := -10001) (dc := 7) (dm := 27) (by decide) (by decide) ?_ ?_
    · refine Wp.run 3 (5, [(0, .ref 0), (1, .int (nI i)), (2, .int w)], [.int (nI i), .ref 1], (zsh ++ vs, mi, ml, (zmr g))) rfl ?_
      refine Wp.call (as := [.ref 1, .int (nI i)]) (rest := []) rfl rfl rfl rfl rfl (Nat.le_of_ble_eq_true rfl) (Nat.le_of_ble_eq_true rfl) rfl (by decide) (c_has_t (mi := mi) hn h6 hx9) ?_
      rintro _ _ ⟨rfl, rfl⟩
      refine Wp.run 2 (16, [(0, .ref 0), (1, .int (nI i)), (2, .int w)], [.int w], (zsh ++ vs, mi, ml, (zmr g))) rfl ?_
      refine Wp.tsw rfl (zsw_out (nrng hw rfl)) rfl ?_
      refine Wp.run 1 (185, [(0, .ref 0), (1, .int (nI i)), (2, .int w)], [.int (-10001)], (zsh ++ vs, mi, ml, (zmr g))) rfl ?_
      refine Wp.ret rfl rfl rfl ?_
      exact ⟨rfl, _, _, rfl, SC.rf, fun _ _ _ => rfl⟩
    · intro m g' I' e67 S
      have B' := I'.1.1
      have hn' := B'.2.1
      have hN' := B'.1.1
      have hd' := B'.1.2.2.1
      refine Wp.run 2 (2, [(0, .ref 66), (1, .int (nI i)), (2, .int w)], [.int (nI i), .ref 66], (zsh ++ vs, m, ml, (zmr g'))) rfl ?_
      refine Wp.call (as := [.ref 66, .int (nI i)]) (rest := []) rfl rfl rfl rfl rfl (Nat.le_of_ble_eq_true rfl) (Nat.le_of_ble_eq_true rfl) rfl (by decide) (m_isOne_t (mi := m) hN' h6 hx9) ?_
      rintro _ _ ⟨rfl, rfl⟩
      refine Wp.run 4 (15, [(0, .ref 66), (1, .int (nI i)), (2, .int w)], [.int 5, .int 0, .int w], (zsh ++ vs, m, ml, (zmr g'))) rfl ?_
      refine Wp.call (as := [.int w, .int 0, .int 5]) (rest := []) rfl rfl rfl rfl rfl (Nat.le_of_ble_eq_true rfl) (Nat.le_of_ble_eq_true rfl) rfl (by decide) (m_isIn_f (fun z => hw ⟨z.1, Int32.le_trans z.2 (by decide)⟩)) ?_
      rintro _ _ ⟨rfl, rfl⟩
      refine Wp.run 3 (31, [(0, .ref 66), (1, .int (nI i)), (2, .int w)], [.int 6, .int w], (zsh ++ vs, m, ml, (zmr g'))) rfl ?_
      refine Wp.icmp_ne rfl (fun h51 => ?_) (fun h51 => ?_)
      · refine Wp.run 2 (45, [(0, .ref 66), (1, .int (nI i)), (2, .int w)], [.int 7, .int w], (zsh ++ vs, m, ml, (zmr g'))) rfl ?_
        refine Wp.icmp_ne rfl (fun h52 => ?_) (fun h52 => ?_)
        · refine Wp.run 2 (63, [(0, .ref 66), (1, .int (nI i)), (2, .int w)], [.int 8, .int w], (zsh ++ vs, m, ml, (zmr g'))) rfl ?_
          refine Wp.icmp_ne rfl (fun h53 => ?_) (fun h53 => ?_)
          · refine Wp.run 1 (81, [(0, .ref 66), (1, .int (nI i)), (2, .int w)], [.int (-10001)], (zsh ++ vs, m, ml, (zmr g'))) rfl ?_
            refine Wp.ret rfl rfl rfl ?_
            exact ⟨rfl, _, rfl, SC.rf⟩
          · exact absurd (show 0 ≤ w ∧ w ≤ 8 by rw [h53]; decide) hw
        · exact absurd (show 0 ≤ w ∧ w ≤ 8 by rw [h52]; decide) hw
      · exact absurd (show 0 ≤ w ∧ w ≤ 8 by rw [h51]; decide) hw
  obtain ⟨q, hq, rfl⟩ := rng_of (h := 8) rfl hw
  obtain ⟨c, S3, R3⟩ := I.2.1.1.two h6
  rcases (show q = 0 ∨ q = 1 ∨ q = 2 ∨ q = 3 ∨ q = 4 ∨ q = 5 ∨ q = 6 ∨ q = 7 ∨ q = 8 by omega) with rfl | rfl | rfl | rfl | rfl | rfl | rfl | rfl | rfl
  · refine SIM.q I (x := mi 67 (8 + 10 * i + 0)) (dc := 7) (dm := 27) (by decide) (by decide) ?_ ?_
    · refine Wp.run 3 (5, [(0, .ref 0), (1, .int (nI i)), (2, .int 0)], [.int (nI i), .ref 1], (zsh ++ vs, mi, ml, (zmr g))) rfl ?_
      refine Wp.call (as := [.ref 1, .int (nI i)]) (rest := []) rfl rfl rfl rfl rfl (Nat.le_of_ble_eq_true rfl) (Nat.le_of_ble_eq_true rfl) rfl (by decide) (c_has_t (mi := mi) hn h6 hx9) ?_
      rintro _ _ ⟨rfl, rfl⟩
      refine Wp.run 7 (76, [(0, .ref 0), (1, .int (nI i)), (2, .int 0)], [.int (nI i), .ref 3], (zsh ++ vs, mi, ml, (zmr g))) rfl ?_
      refine Wp.ialn rfl (by decide) rfl (by omega) (by decide) ?_
      refine Wp.run 0 (77, [(0, .ref 0), (1, .int (nI i)), (2, .int 0)], [.int (mi 3 i)], (zsh ++ vs, mi, ml, (zmr g))) rfl ?_
      refine Wp.ret rfl rfl rfl ?_
      exact ⟨congrArg (fun z => some (Value.int z)) ((show mi 3 i = _ from B.2.2.2.2.1 i hi 0 (by decide))), _, _, rfl, SC.rf, fun _ _ _ => rfl⟩
    · intro m g' I' e67 S
      have B' := I'.1.1
      have hn' := B'.2.1
      have hN' := B'.1.1
      have hd' := B'.1.2.2.1
      rw [← e67]
      refine Wp.run 2 (2, [(0, .ref 66), (1, .int (nI i)), (2, .int 0)], [.int (nI i), .ref 66], (zsh ++ vs, m, ml, (zmr g'))) rfl ?_
      refine Wp.call (as := [.ref 66, .int (nI i)]) (rest := []) rfl rfl rfl rfl rfl (Nat.le_of_ble_eq_true rfl) (Nat.le_of_ble_eq_true rfl) rfl (by decide) (m_isOne_t (mi := m) hN' h6 hx9) ?_
      rintro _ _ ⟨rfl, rfl⟩
      refine Wp.run 4 (15, [(0, .ref 66), (1, .int (nI i)), (2, .int 0)], [.int 5, .int 0, .int 0], (zsh ++ vs, m, ml, (zmr g'))) rfl ?_
      refine Wp.call (as := [.int 0, .int 0, .int 5]) (rest := []) rfl rfl rfl rfl rfl (Nat.le_of_ble_eq_true rfl) (Nat.le_of_ble_eq_true rfl) rfl (by decide) (m_isIn_t ⟨by decide, by decide⟩) ?_
      rintro _ _ ⟨rfl, rfl⟩
      refine Wp.run 4 (24, [(0, .ref 66), (1, .int (nI i)), (2, .int 0)], [.int 0, .int (nI i), .ref 66], (zsh ++ vs, m, ml, (zmr g'))) rfl ?_
      refine Wp.call (as := [.ref 66, .int (nI i), .int 0]) (rest := []) rfl rfl rfl rfl rfl (Nat.le_of_ble_eq_true rfl) (Nat.le_of_ble_eq_true rfl) rfl (by decide) (m_one (mi := m) i 0 (by omega)) ?_
      rintro _ _ ⟨rfl, rfl⟩
      refine Wp.run 0 (27, [(0, .ref 66), (1, .int (nI i)), (2, .int 0)], [.int (m 67 (8 + 10 * i + 0))], (zsh ++ vs, m, ml, (zmr g'))) rfl ?_
      refine Wp.ret rfl rfl rfl ?_
      exact ⟨rfl, _, rfl, SC.rf⟩
  · refine SIM.q I (x := mi 67 (8 + 10 * i + 1)) (dc := 7) (dm := 27) (by decide) (by decide) ?_ ?_
    · refine Wp.run 3 (5, [(0, .ref 0), (1, .int (nI i)), (2, .int 1)], [.int (nI i), .ref 1], (zsh ++ vs, mi, ml, (zmr g))) rfl ?_
      refine Wp.call (as := [.ref 1, .int (nI i)]) (rest := []) rfl rfl rfl rfl rfl (Nat.le_of_ble_eq_true rfl) (Nat.le_of_ble_eq_true rfl) rfl (by decide) (c_has_t (mi := mi) hn h6 hx9) ?_
      rintro _ _ ⟨rfl, rfl⟩
      refine Wp.run 7 (86, [(0, .ref 0), (1, .int (nI i)), (2, .int 1)], [.int (nI i), .ref 4], (zsh ++ vs, mi, ml, (zmr g))) rfl ?_
      refine Wp.ialn rfl (by decide) rfl (by omega) (by decide) ?_
      refine Wp.run 0 (87, [(0, .ref 0), (1, .int (nI i)), (2, .int 1)], [.int (mi 4 i)], (zsh ++ vs, mi, ml, (zmr g))) rfl ?_
      refine Wp.ret rfl rfl rfl ?_
      exact ⟨congrArg (fun z => some (Value.int z)) ((show mi 4 i = _ from B.2.2.2.2.1 i hi 1 (by decide))), _, _, rfl, SC.rf, fun _ _ _ => rfl⟩
    · intro m g' I' e67 S
      have B' := I'.1.1
      have hn' := B'.2.1
      have hN' := B'.1.1
      have hd' := B'.1.2.2.1
      rw [← e67]
      refine Wp.run 2 (2, [(0, .ref 66), (1, .int (nI i)), (2, .int 1)], [.int (nI i), .ref 66], (zsh ++ vs, m, ml, (zmr g'))) rfl ?_
      refine Wp.call (as := [.ref 66, .int (nI i)]) (rest := []) rfl rfl rfl rfl rfl (Nat.le_of_ble_eq_true rfl) (Nat.le_of_ble_eq_true rfl) rfl (by decide) (m_isOne_t (mi := m) hN' h6 hx9) ?_
      rintro _ _ ⟨rfl, rfl⟩
      refine Wp.run 4 (15, [(0, .ref 66), (1, .int (nI i)), (2, .int 1)], [.int 5, .int 0, .int 1], (zsh ++ vs, m, ml, (zmr g'))) rfl ?_
      refine Wp.call (as := [.int 1, .int 0, .int 5]) (rest := []) rfl rfl rfl rfl rfl (Nat.le_of_ble_eq_true rfl) (Nat.le_of_ble_eq_true rfl) rfl (by decide) (m_isIn_t ⟨by decide, by decide⟩) ?_
      rintro _ _ ⟨rfl, rfl⟩
      refine Wp.run 4 (24, [(0, .ref 66), (1, .int (nI i)), (2, .int 1)], [.int 1, .int (nI i), .ref 66], (zsh ++ vs, m, ml, (zmr g'))) rfl ?_
      refine Wp.call (as := [.ref 66, .int (nI i), .int 1]) (rest := []) rfl rfl rfl rfl rfl (Nat.le_of_ble_eq_true rfl) (Nat.le_of_ble_eq_true rfl) rfl (by decide) (m_one (mi := m) i 1 (by omega)) ?_
      rintro _ _ ⟨rfl, rfl⟩
      refine Wp.run 0 (27, [(0, .ref 66), (1, .int (nI i)), (2, .int 1)], [.int (m 67 (8 + 10 * i + 1))], (zsh ++ vs, m, ml, (zmr g'))) rfl ?_
      refine Wp.ret rfl rfl rfl ?_
      exact ⟨rfl, _, rfl, SC.rf⟩
  · refine SIM.q I (x := mi 67 (8 + 10 * i + 2)) (dc := 7) (dm := 27) (by decide) (by decide) ?_ ?_
    · refine Wp.run 3 (5, [(0, .ref 0), (1, .int (nI i)), (2, .int 2)], [.int (nI i), .ref 1], (zsh ++ vs, mi, ml, (zmr g))) rfl ?_
      refine Wp.call (as := [.ref 1, .int (nI i)]) (rest := []) rfl rfl rfl rfl rfl (Nat.le_of_ble_eq_true rfl) (Nat.le_of_ble_eq_true rfl) rfl (by decide) (c_has_t (mi := mi) hn h6 hx9) ?_
      rintro _ _ ⟨rfl, rfl⟩
      refine Wp.run 7 (96, [(0, .ref 0), (1, .int (nI i)), (2, .int 2)], [.int (nI i), .ref 5], (zsh ++ vs, mi, ml, (zmr g))) rfl ?_
      refine Wp.ialn rfl (by decide) rfl (by omega) (by decide) ?_
      refine Wp.run 0 (97, [(0, .ref 0), (1, .int (nI i)), (2, .int 2)], [.int (mi 5 i)], (zsh ++ vs, mi, ml, (zmr g))) rfl ?_
      refine Wp.ret rfl rfl rfl ?_
      exact ⟨congrArg (fun z => some (Value.int z)) ((show mi 5 i = _ from B.2.2.2.2.1 i hi 2 (by decide))), _, _, rfl, SC.rf, fun _ _ _ => rfl⟩
    · intro m g' I' e67 S
      have B' := I'.1.1
      have hn' := B'.2.1
      have hN' := B'.1.1
      have hd' := B'.1.2.2.1
      rw [← e67]
      refine Wp.run 2 (2, [(0, .ref 66), (1, .int (nI i)), (2, .int 2)], [.int (nI i), .ref 66], (zsh ++ vs, m, ml, (zmr g'))) rfl ?_
      refine Wp.call (as := [.ref 66, .int (nI i)]) (rest := []) rfl rfl rfl rfl rfl (Nat.le_of_ble_eq_true rfl) (Nat.le_of_ble_eq_true rfl) rfl (by decide) (m_isOne_t (mi := m) hN' h6 hx9) ?_
      rintro _ _ ⟨rfl, rfl⟩
      refine Wp.run 4 (15, [(0, .ref 66), (1, .int (nI i)), (2, .int 2)], [.int 5, .int 0, .int 2], (zsh ++ vs, m, ml, (zmr g'))) rfl ?_
      refine Wp.call (as := [.int 2, .int 0, .int 5]) (rest := []) rfl rfl rfl rfl rfl (Nat.le_of_ble_eq_true rfl) (Nat.le_of_ble_eq_true rfl) rfl (by decide) (m_isIn_t ⟨by decide, by decide⟩) ?_
      rintro _ _ ⟨rfl, rfl⟩
      refine Wp.run 4 (24, [(0, .ref 66), (1, .int (nI i)), (2, .int 2)], [.int 2, .int (nI i), .ref 66], (zsh ++ vs, m, ml, (zmr g'))) rfl ?_
      refine Wp.call (as := [.ref 66, .int (nI i), .int 2]) (rest := []) rfl rfl rfl rfl rfl (Nat.le_of_ble_eq_true rfl) (Nat.le_of_ble_eq_true rfl) rfl (by decide) (m_one (mi := m) i 2 (by omega)) ?_
      rintro _ _ ⟨rfl, rfl⟩
      refine Wp.run 0 (27, [(0, .ref 66), (1, .int (nI i)), (2, .int 2)], [.int (m 67 (8 + 10 * i + 2))], (zsh ++ vs, m, ml, (zmr g'))) rfl ?_
      refine Wp.ret rfl rfl rfl ?_
      exact ⟨rfl, _, rfl, SC.rf⟩
  · refine SIM.q I (x := mi 67 (8 + 10 * i + 3)) (dc := 7) (dm := 27) (by decide) (by decide) ?_ ?_
    · refine Wp.run 3 (5, [(0, .ref 0), (1, .int (nI i)), (2, .int 3)], [.int (nI i), .ref 1], (zsh ++ vs, mi, ml, (zmr g))) rfl ?_
      refine Wp.call (as := [.ref 1, .int (nI i)]) (rest := []) rfl rfl rfl rfl rfl (Nat.le_of_ble_eq_true rfl) (Nat.le_of_ble_eq_true rfl) rfl (by decide) (c_has_t (mi := mi) hn h6 hx9) ?_
      rintro _ _ ⟨rfl, rfl⟩
      refine Wp.run 7 (106, [(0, .ref 0), (1, .int (nI i)), (2, .int 3)], [.int (nI i), .ref 6], (zsh ++ vs, mi, ml, (zmr g))) rfl ?_
      refine Wp.ialn rfl (by decide) rfl (by omega) (by decide) ?_
      refine Wp.run 0 (107, [(0, .ref 0), (1, .int (nI i)), (2, .int 3)], [.int (mi 6 i)], (zsh ++ vs, mi, ml, (zmr g))) rfl ?_
      refine Wp.ret rfl rfl rfl ?_
      exact ⟨congrArg (fun z => some (Value.int z)) ((show mi 6 i = _ from B.2.2.2.2.1 i hi 3 (by decide))), _, _, rfl, SC.rf, fun _ _ _ => rfl⟩
    · intro m g' I' e67 S
      have B' := I'.1.1
      have hn' := B'.2.1
      have hN' := B'.1.1
      have hd' := B'.1.2.2.1
      rw [← e67]
      refine Wp.run 2 (2, [(0, .ref 66), (1, .int (nI i)), (2, .int 3)], [.int (nI i), .ref 66], (zsh ++ vs, m, ml, (zmr g'))) rfl ?_
      refine Wp.call (as := [.ref 66, .int (nI i)]) (rest := []) rfl rfl rfl rfl rfl (Nat.le_of_ble_eq_true rfl) (Nat.le_of_ble_eq_true rfl) rfl (by decide) (m_isOne_t (mi := m) hN' h6 hx9) ?_
      rintro _ _ ⟨rfl, rfl⟩
      refine Wp.run 4 (15, [(0, .ref 66), (1, .int (nI i)), (2, .int 3)], [.int 5, .int 0, .int 3], (zsh ++ vs, m, ml, (zmr g'))) rfl ?_
      refine Wp.call (as := [.int 3, .int 0, .int 5]) (rest := []) rfl rfl rfl rfl rfl (Nat.le_of_ble_eq_true rfl) (Nat.le_of_ble_eq_true rfl) rfl (by decide) (m_isIn_t ⟨by decide, by decide⟩) ?_
      rintro _ _ ⟨rfl, rfl⟩
      refine Wp.run 4 (24, [(0, .ref 66), (1, .int (nI i)), (2, .int 3)], [.int 3, .int (nI i), .ref 66], (zsh ++ vs, m, ml, (zmr g'))) rfl ?_
      refine Wp.call (as := [.ref 66, .int (nI i), .int 3]) (rest := []) rfl rfl rfl rfl rfl (Nat.le_of_ble_eq_true rfl) (Nat.le_of_ble_eq_true rfl) rfl (by decide) (m_one (mi := m) i 3 (by omega)) ?_
      rintro _ _ ⟨rfl, rfl⟩
      refine Wp.run 0 (27, [(0, .ref 66), (1, .int (nI i)), (2, .int 3)], [.int (m 67 (8 + 10 * i + 3))], (zsh ++ vs, m, ml, (zmr g'))) rfl ?_
      refine Wp.ret rfl rfl rfl ?_
      exact ⟨rfl, _, rfl, SC.rf⟩
  · by_cases h4 : uN (mi 67) i 4 = 0
    · refine SIM.q I (x := 0) (dc := 7) (dm := 27) (by decide) (by decide) ?_ ?_
      · refine Wp.run 3 (5, [(0, .ref 0), (1, .int (nI i)), (2, .int 4)], [.int (nI i), .ref 1], (zsh ++ vs, mi, ml, (zmr g))) rfl ?_
        refine Wp.call (as := [.ref 1, .int (nI i)]) (rest := []) rfl rfl rfl rfl rfl (Nat.le_of_ble_eq_true rfl) (Nat.le_of_ble_eq_true rfl) rfl (by decide) (c_has_t (mi := mi) hn h6 hx9) ?_
        rintro _ _ ⟨rfl, rfl⟩
        refine Wp.run 6 (113, [(0, .ref 0), (1, .int (nI i)), (2, .int 4)], [.int (nI i), .ref 1], (zsh ++ vs, mi, ml, (zmr g))) rfl ?_
        refine Wp.call (as := [.ref 1, .int (nI i)]) (rest := []) rfl rfl rfl rfl rfl (Nat.le_of_ble_eq_true rfl) (Nat.le_of_ble_eq_true rfl) rfl (by decide) (c_isHere_t (i := i) (by rw [B.aw hi]; exact h4)) ?_
        rintro _ _ ⟨rfl, rfl⟩
        refine Wp.run 3 (124, [(0, .ref 0), (1, .int (nI i)), (2, .int 4)], [.int 0], (zsh ++ vs, mi, ml, (zmr g))) rfl ?_
        refine Wp.ret rfl rfl rfl ?_
        exact ⟨rfl, _, _, rfl, SC.rf, fun _ _ _ => rfl⟩
      · intro m g' I' e67 S
        have B' := I'.1.1
        have hn' := B'.2.1
        have hN' := B'.1.1
        have hd' := B'.1.2.2.1
        refine Wp.run 2 (2, [(0, .ref 66), (1, .int (nI i)), (2, .int 4)], [.int (nI i), .ref 66], (zsh ++ vs, m, ml, (zmr g'))) rfl ?_
        refine Wp.call (as := [.ref 66, .int (nI i)]) (rest := []) rfl rfl rfl rfl rfl (Nat.le_of_ble_eq_true rfl) (Nat.le_of_ble_eq_true rfl) rfl (by decide) (m_isOne_t (mi := m) hN' h6 hx9) ?_
        rintro _ _ ⟨rfl, rfl⟩
        refine Wp.run 4 (15, [(0, .ref 66), (1, .int (nI i)), (2, .int 4)], [.int 5, .int 0, .int 4], (zsh ++ vs, m, ml, (zmr g'))) rfl ?_
        refine Wp.call (as := [.int 4, .int 0, .int 5]) (rest := []) rfl rfl rfl rfl rfl (Nat.le_of_ble_eq_true rfl) (Nat.le_of_ble_eq_true rfl) rfl (by decide) (m_isIn_t ⟨by decide, by decide⟩) ?_
        rintro _ _ ⟨rfl, rfl⟩
        refine Wp.run 4 (24, [(0, .ref 66), (1, .int (nI i)), (2, .int 4)], [.int 4, .int (nI i), .ref 66], (zsh ++ vs, m, ml, (zmr g'))) rfl ?_
        refine Wp.call (as := [.ref 66, .int (nI i), .int 4]) (rest := []) rfl rfl rfl rfl rfl (Nat.le_of_ble_eq_true rfl) (Nat.le_of_ble_eq_true rfl) rfl (by decide) (m_one (mi := m) i 4 (by omega)) ?_
        rintro _ _ ⟨rfl, rfl⟩
        refine Wp.run 0 (27, [(0, .ref 66), (1, .int (nI i)), (2, .int 4)], [.int (m 67 (8 + 10 * i + 4))], (zsh ++ vs, m, ml, (zmr g'))) rfl ?_
        refine Wp.ret rfl rfl rfl ?_
        exact ⟨congrArg (fun z => some (Value.int z)) (by rw [e67]; exact h4), _, rfl, SC.rf⟩
    · refine SIM.q I (x := 1) (dc := 7) (dm := 27) (by decide) (by decide) ?_ ?_
      · refine Wp.run 3 (5, [(0, .ref 0), (1, .int (nI i)), (2, .int 4)], [.int (nI i), .ref 1], (zsh ++ vs, mi, ml, (zmr g))) rfl ?_
        refine Wp.call (as := [.ref 1, .int (nI i)]) (rest := []) rfl rfl rfl rfl rfl (Nat.le_of_ble_eq_true rfl) (Nat.le_of_ble_eq_true rfl) rfl (by decide) (c_has_t (mi := mi) hn h6 hx9) ?_
        rintro _ _ ⟨rfl, rfl⟩
        refine Wp.run 6 (113, [(0, .ref 0), (1, .int (nI i)), (2, .int 4)], [.int (nI i), .ref 1], (zsh ++ vs, mi, ml, (zmr g))) rfl ?_
        refine Wp.call (as := [.ref 1, .int (nI i)]) (rest := []) rfl rfl rfl rfl rfl (Nat.le_of_ble_eq_true rfl) (Nat.le_of_ble_eq_true rfl) rfl (by decide) (c_isHere_f (i := i) (by rw [B.aw hi]; exact h4)) ?_
        rintro _ _ ⟨rfl, rfl⟩
        refine Wp.run 2 (124, [(0, .ref 0), (1, .int (nI i)), (2, .int 4)], [.int 1], (zsh ++ vs, mi, ml, (zmr g))) rfl ?_
        refine Wp.ret rfl rfl rfl ?_
        exact ⟨rfl, _, _, rfl, SC.rf, fun _ _ _ => rfl⟩
      · intro m g' I' e67 S
        have B' := I'.1.1
        have hn' := B'.2.1
        have hN' := B'.1.1
        have hd' := B'.1.2.2.1
        refine Wp.run 2 (2, [(0, .ref 66), (1, .int (nI i)), (2, .int 4)], [.int (nI i), .ref 66], (zsh ++ vs, m, ml, (zmr g'))) rfl ?_
        refine Wp.call (as := [.ref 66, .int (nI i)]) (rest := []) rfl rfl rfl rfl rfl (Nat.le_of_ble_eq_true rfl) (Nat.le_of_ble_eq_true rfl) rfl (by decide) (m_isOne_t (mi := m) hN' h6 hx9) ?_
        rintro _ _ ⟨rfl, rfl⟩
        refine Wp.run 4 (15, [(0, .ref 66), (1, .int (nI i)), (2, .int 4)], [.int 5, .int 0, .int 4], (zsh ++ vs, m, ml, (zmr g'))) rfl ?_
        refine Wp.call (as := [.int 4, .int 0, .int 5]) (rest := []) rfl rfl rfl rfl rfl (Nat.le_of_ble_eq_true rfl) (Nat.le_of_ble_eq_true rfl) rfl (by decide) (m_isIn_t ⟨by decide, by decide⟩) ?_
        rintro _ _ ⟨rfl, rfl⟩
        refine Wp.run 4 (24, [(0, .ref 66), (1, .int (nI i)), (2, .int 4)], [.int 4, .int (nI i), .ref 66], (zsh ++ vs, m, ml, (zmr g'))) rfl ?_
        refine Wp.call (as := [.ref 66, .int (nI i), .int 4]) (rest := []) rfl rfl rfl rfl rfl (Nat.le_of_ble_eq_true rfl) (Nat.le_of_ble_eq_true rfl) rfl (by decide) (m_one (mi := m) i 4 (by omega)) ?_
        rintro _ _ ⟨rfl, rfl⟩
        refine Wp.run 0 (27, [(0, .ref 66), (1, .int (nI i)), (2, .int 4)], [.int (m 67 (8 + 10 * i + 4))], (zsh ++ vs, m, ml, (zmr g'))) rfl ?_
        refine Wp.ret rfl rfl rfl ?_
        exact ⟨congrArg (fun z => some (Value.int z)) (by
          rw [e67]
          obtain ⟨q, hq, e⟩ := (B.1.2.2.2.2 i hi).2.2.2.2.1
          rcases (show q = 0 ∨ q = 1 by omega) with rfl | rfl
          · exact absurd e h4
          · exact e), _, rfl, SC.rf⟩
  · refine SIM.q I (x := mi 67 (8 + 10 * i + 5)) (dc := 7) (dm := 27) (by decide) (by decide) ?_ ?_
    · refine Wp.run 3 (5, [(0, .ref 0), (1, .int (nI i)), (2, .int 5)], [.int (nI i), .ref 1], (zsh ++ vs, mi, ml, (zmr g))) rfl ?_
      refine Wp.call (as := [.ref 1, .int (nI i)]) (rest := []) rfl rfl rfl rfl rfl (Nat.le_of_ble_eq_true rfl) (Nat.le_of_ble_eq_true rfl) rfl (by decide) (c_has_t (mi := mi) hn h6 hx9) ?_
      rintro _ _ ⟨rfl, rfl⟩
      refine Wp.run 7 (133, [(0, .ref 0), (1, .int (nI i)), (2, .int 5)], [.int (nI i), .ref 7], (zsh ++ vs, mi, ml, (zmr g))) rfl ?_
      refine Wp.ialn rfl (by decide) rfl (by omega) (by decide) ?_
      refine Wp.run 0 (134, [(0, .ref 0), (1, .int (nI i)), (2, .int 5)], [.int (mi 7 i)], (zsh ++ vs, mi, ml, (zmr g))) rfl ?_
      refine Wp.ret rfl rfl rfl ?_
      exact ⟨congrArg (fun z => some (Value.int z)) ((show mi 7 i = _ from B.2.2.2.2.1 i hi 5 (by decide))), _, _, rfl, SC.rf, fun _ _ _ => rfl⟩
    · intro m g' I' e67 S
      have B' := I'.1.1
      have hn' := B'.2.1
      have hN' := B'.1.1
      have hd' := B'.1.2.2.1
      rw [← e67]
      refine Wp.run 2 (2, [(0, .ref 66), (1, .int (nI i)), (2, .int 5)], [.int (nI i), .ref 66], (zsh ++ vs, m, ml, (zmr g'))) rfl ?_
      refine Wp.call (as := [.ref 66, .int (nI i)]) (rest := []) rfl rfl rfl rfl rfl (Nat.le_of_ble_eq_true rfl) (Nat.le_of_ble_eq_true rfl) rfl (by decide) (m_isOne_t (mi := m) hN' h6 hx9) ?_
      rintro _ _ ⟨rfl, rfl⟩
      refine Wp.run 4 (15, [(0, .ref 66), (1, .int (nI i)), (2, .int 5)], [.int 5, .int 0, .int 5], (zsh ++ vs, m, ml, (zmr g'))) rfl ?_
      refine Wp.call (as := [.int 5, .int 0, .int 5]) (rest := []) rfl rfl rfl rfl rfl (Nat.le_of_ble_eq_true rfl) (Nat.le_of_ble_eq_true rfl) rfl (by decide) (m_isIn_t ⟨by decide, by decide⟩) ?_
      rintro _ _ ⟨rfl, rfl⟩
      refine Wp.run 4 (24, [(0, .ref 66), (1, .int (nI i)), (2, .int 5)], [.int 5, .int (nI i), .ref 66], (zsh ++ vs, m, ml, (zmr g'))) rfl ?_
      refine Wp.call (as := [.ref 66, .int (nI i), .int 5]) (rest := []) rfl rfl rfl rfl rfl (Nat.le_of_ble_eq_true rfl) (Nat.le_of_ble_eq_true rfl) rfl (by decide) (m_one (mi := m) i 5 (by omega)) ?_
      rintro _ _ ⟨rfl, rfl⟩
      refine Wp.run 0 (27, [(0, .ref 66), (1, .int (nI i)), (2, .int 5)], [.int (m 67 (8 + 10 * i + 5))], (zsh ++ vs, m, ml, (zmr g'))) rfl ?_
      refine Wp.ret rfl rfl rfl ?_
      exact ⟨rfl, _, rfl, SC.rf⟩
  · refine SIM.q I (x := strN (smV VD) (mi 67) n dd i) (dc := 7) (dm := 27) (by decide) (by decide) ?_ ?_
    · refine Wp.run 3 (5, [(0, .ref 0), (1, .int (nI i)), (2, .int 6)], [.int (nI i), .ref 1], (zsh ++ vs, mi, ml, (zmr g))) rfl ?_
      refine Wp.call (as := [.ref 1, .int (nI i)]) (rest := []) rfl rfl rfl rfl rfl (Nat.le_of_ble_eq_true rfl) (Nat.le_of_ble_eq_true rfl) rfl (by decide) (c_has_t (mi := mi) hn h6 hx9) ?_
      rintro _ _ ⟨rfl, rfl⟩
      refine Wp.run 6 (140, [(0, .ref 0), (1, .int (nI i)), (2, .int 6)], [.int (nI i), .ref 1], (zsh ++ vs, mi, ml, (zmr g))) rfl ?_
      refine Wp.call (as := [.ref 1, .int (nI i)]) (rest := []) rfl rfl rfl rfl rfl (Nat.le_of_ble_eq_true rfl) (Nat.le_of_ble_eq_true rfl) rfl (by decide) (c_strain_1 (i := i) (I.ce (E := E)).1 (I.ce (E := E)).2.2.1 (I.ce (E := E)).2.2.2.1 B.2.2.2.2.2.2.vv (dd := dd) (by omega) B.2.2.1 (by omega) (B.hz i hi) hn h6) ?_
      rintro _ _ ⟨rfl, p1, rfl, k1⟩
      refine Wp.run 0 (143, [(0, .ref 0), (1, .int (nI i)), (2, .int 6)], [.int (strU (uB mi 1) n dd (smB (wgV VD) (g 1 3) (nmU (uB mi 1) dd i)) i)], (zsh ++ vs, p1, ml, (zmr g))) rfl ?_
      refine Wp.ret rfl rfl rfl ?_
      exact ⟨congrArg (fun z => some (Value.int z)) (strU_congr (fun k hk f hf => B.2.2.2.2.1 k hk f hf) hi (by rw [nmU_congr (fun f hf => B.2.2.2.2.1 i hi f hf)]; exact (I.sem _ _ B.2.2.2.2.2.2).1 _)), _, _, rfl, ⟨fun b _ p _ _ _ _ _ _ _ _ => k1 b p, by rw [k1 48 (by decide)], by rw [k1 51 (by decide)], fun k _ => by rw [k1 66 (by decide)]⟩, fun _ _ _ => rfl⟩
    · intro m g' I' e67 S
      have B' := I'.1.1
      have hn' := B'.2.1
      have hN' := B'.1.1
      have hd' := B'.1.2.2.1
      rw [← e67]
      refine Wp.run 2 (2, [(0, .ref 66), (1, .int (nI i)), (2, .int 6)], [.int (nI i), .ref 66], (zsh ++ vs, m, ml, (zmr g'))) rfl ?_
      refine Wp.call (as := [.ref 66, .int (nI i)]) (rest := []) rfl rfl rfl rfl rfl (Nat.le_of_ble_eq_true rfl) (Nat.le_of_ble_eq_true rfl) rfl (by decide) (m_isOne_t (mi := m) hN' h6 hx9) ?_
      rintro _ _ ⟨rfl, rfl⟩
      refine Wp.run 4 (15, [(0, .ref 66), (1, .int (nI i)), (2, .int 6)], [.int 5, .int 0, .int 6], (zsh ++ vs, m, ml, (zmr g'))) rfl ?_
      refine Wp.call (as := [.int 6, .int 0, .int 5]) (rest := []) rfl rfl rfl rfl rfl (Nat.le_of_ble_eq_true rfl) (Nat.le_of_ble_eq_true rfl) rfl (by decide) (m_isIn_f (fun z => absurd z.2 (by decide))) ?_
      rintro _ _ ⟨rfl, rfl⟩
      refine Wp.run 6 (36, [(0, .ref 66), (1, .int (nI i)), (2, .int 6)], [.int (nI i), .ref 66], (zsh ++ vs, m, ml, (zmr g'))) rfl ?_
      refine Wp.call (as := [.ref 66, .int (nI i)]) (rest := []) rfl rfl rfl rfl rfl (Nat.le_of_ble_eq_true rfl) (Nat.le_of_ble_eq_true rfl) rfl (by decide) (m_strain I'.rf rfl I'.kh I'.rv (dd := dd) (by omega) hd' i (by omega) hN' h6) ?_
      rintro _ _ ⟨rfl, p1, rfl, k1⟩
      refine Wp.run 1 (81, [(0, .ref 66), (1, .int (nI i)), (2, .int 6)], [.int (strN (smV VD) (m 67) n dd i)], (zsh ++ vs, p1, ml, (zmr g'))) rfl ?_
      refine Wp.ret rfl rfl rfl ?_
      exact ⟨rfl, _, rfl, SC.keep k1⟩
  · refine SIM.q I (x := zsum (fitI (smV VD) (anV VD) (mi 67) n dd (mi 67) c i 3) 100) (dc := 7) (dm := 27) (by decide) (by decide) ?_ ?_
    · refine Wp.run 3 (5, [(0, .ref 0), (1, .int (nI i)), (2, .int 7)], [.int (nI i), .ref 1], (zsh ++ vs, mi, ml, (zmr g))) rfl ?_
      refine Wp.call (as := [.ref 1, .int (nI i)]) (rest := []) rfl rfl rfl rfl rfl (Nat.le_of_ble_eq_true rfl) (Nat.le_of_ble_eq_true rfl) rfl (by decide) (c_has_t (mi := mi) hn h6 hx9) ?_
      rintro _ _ ⟨rfl, rfl⟩
      refine Wp.run 12 (159, [(0, .ref 0), (1, .int (nI i)), (2, .int 7)], [.int 0, .int 1, .int (nI i), .ref 21, .ref 1, .ref 37], (zsh ++ vs, mi, ml, (zmr g))) rfl ?_
      refine Wp.call (as := [.ref 37, .ref 1, .ref 21, .int (nI i), .int 1, .int 0]) (rest := []) rfl rfl rfl rfl rfl (Nat.le_of_ble_eq_true rfl) (Nat.le_of_ble_eq_true rfl) rfl (by decide) (c_fit_1_0 I.ce B hi S3 (by omega)) ?_
      rintro _ _ ⟨rfl, p1, g1, rfl, k1, k2⟩
      refine Wp.run 0 (162, [(0, .ref 0), (1, .int (nI i)), (2, .int 7)], [.int (zsum (fitI (smV VD) (anV VD) (mi 67) n dd (mi 67) c i 3) 100)], (zsh ++ vs, p1, ml, (zmr g1))) rfl ?_
      refine Wp.ret rfl rfl rfl ?_
      exact ⟨rfl, _, _, rfl, SC.frB k1, k2⟩
    · intro m g' I' e67 S
      have B' := I'.1.1
      have hn' := B'.2.1
      have hN' := B'.1.1
      have hd' := B'.1.2.2.1
      rw [← e67]
      refine Wp.run 2 (2, [(0, .ref 66), (1, .int (nI i)), (2, .int 7)], [.int (nI i), .ref 66], (zsh ++ vs, m, ml, (zmr g'))) rfl ?_
      refine Wp.call (as := [.ref 66, .int (nI i)]) (rest := []) rfl rfl rfl rfl rfl (Nat.le_of_ble_eq_true rfl) (Nat.le_of_ble_eq_true rfl) rfl (by decide) (m_isOne_t (mi := m) hN' h6 hx9) ?_
      rintro _ _ ⟨rfl, rfl⟩
      refine Wp.run 4 (15, [(0, .ref 66), (1, .int (nI i)), (2, .int 7)], [.int 5, .int 0, .int 7], (zsh ++ vs, m, ml, (zmr g'))) rfl ?_
      refine Wp.call (as := [.int 7, .int 0, .int 5]) (rest := []) rfl rfl rfl rfl rfl (Nat.le_of_ble_eq_true rfl) (Nat.le_of_ble_eq_true rfl) rfl (by decide) (m_isIn_f (fun z => absurd z.2 (by decide))) ?_
      rintro _ _ ⟨rfl, rfl⟩
      refine Wp.run 12 (54, [(0, .ref 66), (1, .int (nI i)), (2, .int 7)], [.int 1, .int 99, .int 3, .int (nI i), .ref 66], (zsh ++ vs, m, ml, (zmr g'))) rfl ?_
      refine Wp.call (as := [.ref 66, .int (nI i), .int 3, .int 99, .int 1]) (rest := []) rfl rfl rfl rfl rfl (Nat.le_of_ble_eq_true rfl) (Nat.le_of_ble_eq_true rfl) rfl (by decide) (m_fit_3_1 I'.re hi (by rw [e67]; exact R3) (by omega)) ?_
      rintro _ _ ⟨rfl, p1, rfl, k1⟩
      refine Wp.run 1 (81, [(0, .ref 66), (1, .int (nI i)), (2, .int 7)], [.int (zsum (fitI (smV VD) (anV VD) (m 67) n dd (m 67) c i 3) 100)], (zsh ++ vs, p1, ml, (zmr g'))) rfl ?_
      refine Wp.ret rfl rfl rfl ?_
      exact ⟨rfl, _, rfl, k1.sc⟩
  · refine SIM.q I (x := lostR (fitL (smV VD) (anV VD) (mi 67) n dd (mi 67) c i 3) 100 0) (dc := 7) (dm := 27) (by decide) (by decide) ?_ ?_
    · refine Wp.run 3 (5, [(0, .ref 0), (1, .int (nI i)), (2, .int 8)], [.int (nI i), .ref 1], (zsh ++ vs, mi, ml, (zmr g))) rfl ?_
      refine Wp.call (as := [.ref 1, .int (nI i)]) (rest := []) rfl rfl rfl rfl rfl (Nat.le_of_ble_eq_true rfl) (Nat.le_of_ble_eq_true rfl) rfl (by decide) (c_has_t (mi := mi) hn h6 hx9) ?_
      rintro _ _ ⟨rfl, rfl⟩
      refine Wp.run 12 (178, [(0, .ref 0), (1, .int (nI i)), (2, .int 8)], [.int 1, .int 1, .int (nI i), .ref 21, .ref 1, .ref 37], (zsh ++ vs, mi, ml, (zmr g))) rfl ?_
      refine Wp.call (as := [.ref 37, .ref 1, .ref 21, .int (nI i), .int 1, .int 1]) (rest := []) rfl rfl rfl rfl rfl (Nat.le_of_ble_eq_true rfl) (Nat.le_of_ble_eq_true rfl) rfl (by decide) (c_fit_1_1 I.ce B hi S3 (by omega)) ?_
      rintro _ _ ⟨rfl, p1, g1, rfl, k1, k2⟩
      refine Wp.run 0 (181, [(0, .ref 0), (1, .int (nI i)), (2, .int 8)], [.int (lostR (fitL (smV VD) (anV VD) (mi 67) n dd (mi 67) c i 3) 100 0)], (zsh ++ vs, p1, ml, (zmr g1))) rfl ?_
      refine Wp.ret rfl rfl rfl ?_
      exact ⟨rfl, _, _, rfl, SC.frB k1, k2⟩
    · intro m g' I' e67 S
      have B' := I'.1.1
      have hn' := B'.2.1
      have hN' := B'.1.1
      have hd' := B'.1.2.2.1
      rw [← e67]
      refine Wp.run 2 (2, [(0, .ref 66), (1, .int (nI i)), (2, .int 8)], [.int (nI i), .ref 66], (zsh ++ vs, m, ml, (zmr g'))) rfl ?_
      refine Wp.call (as := [.ref 66, .int (nI i)]) (rest := []) rfl rfl rfl rfl rfl (Nat.le_of_ble_eq_true rfl) (Nat.le_of_ble_eq_true rfl) rfl (by decide) (m_isOne_t (mi := m) hN' h6 hx9) ?_
      rintro _ _ ⟨rfl, rfl⟩
      refine Wp.run 4 (15, [(0, .ref 66), (1, .int (nI i)), (2, .int 8)], [.int 5, .int 0, .int 8], (zsh ++ vs, m, ml, (zmr g'))) rfl ?_
      refine Wp.call (as := [.int 8, .int 0, .int 5]) (rest := []) rfl rfl rfl rfl rfl (Nat.le_of_ble_eq_true rfl) (Nat.le_of_ble_eq_true rfl) rfl (by decide) (m_isIn_f (fun z => absurd z.2 (by decide))) ?_
      rintro _ _ ⟨rfl, rfl⟩
      refine Wp.run 15 (72, [(0, .ref 66), (1, .int (nI i)), (2, .int 8)], [.int 0, .int 99, .int 3, .int (nI i), .ref 66], (zsh ++ vs, m, ml, (zmr g'))) rfl ?_
      refine Wp.call (as := [.ref 66, .int (nI i), .int 3, .int 99, .int 0]) (rest := []) rfl rfl rfl rfl rfl (Nat.le_of_ble_eq_true rfl) (Nat.le_of_ble_eq_true rfl) rfl (by decide) (m_fit_3_0 I'.re hi (by rw [e67]; exact R3) (by omega)) ?_
      rintro _ _ ⟨rfl, p1, rfl, k1⟩
      refine Wp.run 1 (81, [(0, .ref 66), (1, .int (nI i)), (2, .int 8)], [.int (lostR (fitL (smV VD) (anV VD) (m 67) n dd (m 67) c i 3) 100 0)], (zsh ++ vs, p1, ml, (zmr g'))) rfl ?_
      refine Wp.ret rfl rfl rfl ?_
      exact ⟨rfl, _, rfl, k1.sc⟩
theorem sim_can {E : zEn} {nv : Nat} {VD : Nat → zV} {NL : Nat → Nat} {n dd : Nat} {vs : List (Nat × Nat)} {mi : Nat → Nat → Int32} {ml : Nat → Nat → Int64} {g : Nat → Nat → Option Nat} (I : INV nv VD NL n dd vs mi ml g) (x w : Int32) : SIM E vs mi ml g pg_H_can pg_M_can [.int x, .int w] := by
  have B := I.1.1
  have h6 := B.1.2.1
  have hn := B.2.1
  have hN := B.1.1
  have hd := B.1.2.2.1
  have hdd := I.1.2
  by_cases hx : one n x
  rotate_left
  · refine SIM.q I (x := -1) (dc := 7) (dm := 27) (by decide) (by decide) ?_ ?_
    · refine Wp.run 3 (5, [(0, .ref 0), (1, .int x), (2, .int w)], [.int x, .ref 1], (zsh ++ vs, mi, ml, (zmr g))) rfl ?_
      refine Wp.call (as := [.ref 1, .int x]) (rest := []) rfl rfl rfl rfl rfl (Nat.le_of_ble_eq_true rfl) (Nat.le_of_ble_eq_true rfl) rfl (by decide) (c_has_f (mi := mi) hn h6 hx) ?_
      rintro _ _ ⟨rfl, rfl⟩
      refine Wp.run 2 (20, [(0, .ref 0), (1, .int x), (2, .int w)], [.int (-1)], (zsh ++ vs, mi, ml, (zmr g))) rfl ?_
      refine Wp.ret rfl rfl rfl ?_
      exact ⟨rfl, _, _, rfl, SC.rf, fun _ _ _ => rfl⟩
    · intro m g' I' e67 S
      have B' := I'.1.1
      have hn' := B'.2.1
      have hN' := B'.1.1
      have hd' := B'.1.2.2.1
      refine Wp.run 2 (2, [(0, .ref 66), (1, .int x), (2, .int w)], [.int x, .ref 66], (zsh ++ vs, m, ml, (zmr g'))) rfl ?_
      refine Wp.call (as := [.ref 66, .int x]) (rest := []) rfl rfl rfl rfl rfl (Nat.le_of_ble_eq_true rfl) (Nat.le_of_ble_eq_true rfl) rfl (by decide) (m_isOne_f (mi := m) hN' h6 hx) ?_
      rintro _ _ ⟨rfl, rfl⟩
      refine Wp.run 2 (38, [(0, .ref 66), (1, .int x), (2, .int w)], [.int (-1)], (zsh ++ vs, m, ml, (zmr g'))) rfl ?_
      refine Wp.ret rfl rfl rfl ?_
      exact ⟨rfl, _, rfl, SC.rf⟩
  have hx9 := hx
  obtain ⟨i, hi, rfl⟩ := hx
  by_cases hw : 0 ≤ w ∧ w ≤ 1
  rotate_left
  · refine SIM.q I (x := -1) (dc := 7) (dm := 27) (by decide) (by decide) ?_ ?_
    · refine Wp.run 3 (5, [(0, .ref 0), (1, .int (nI i)), (2, .int w)], [.int (nI i), .ref 1], (zsh ++ vs, mi, ml, (zmr g))) rfl ?_
      refine Wp.call (as := [.ref 1, .int (nI i)]) (rest := []) rfl rfl rfl rfl rfl (Nat.le_of_ble_eq_true rfl) (Nat.le_of_ble_eq_true rfl) rfl (by decide) (c_has_t (mi := mi) hn h6 hx9) ?_
      rintro _ _ ⟨rfl, rfl⟩
      refine Wp.run 3 (13, [(0, .ref 0), (1, .int (nI i)), (2, .int w)], [.int 1, .int w], (zsh ++ vs, mi, ml, (zmr g))) rfl ?_
      refine Wp.call (as := [.int w, .int 1]) (rest := []) rfl rfl rfl rfl rfl (Nat.le_of_ble_eq_true rfl) (Nat.le_of_ble_eq_true rfl) rfl (by decide) (c_within_f hw) ?_
      rintro _ _ ⟨rfl, rfl⟩
      refine Wp.run 2 (20, [(0, .ref 0), (1, .int (nI i)), (2, .int w)], [.int (-1)], (zsh ++ vs, mi, ml, (zmr g))) rfl ?_
      refine Wp.ret rfl rfl rfl ?_
      exact ⟨rfl, _, _, rfl, SC.rf, fun _ _ _ => rfl⟩
    · intro m g' I' e67 S
      have B' := I'.1.1
      have hn' := B'.2.1
      have hN' := B'.1.1
      have hd' := B'.1.2.2.1
      refine Wp.run 2 (2, [(0, .ref 66), (1, .int (nI i)), (2, .int w)], [.int (nI i), .ref 66], (zsh ++ vs, m, ml, (zmr g'))) rfl ?_
      refine Wp.call (as := [.ref 66, .int (nI i)]) (rest := []) rfl rfl rfl rfl rfl (Nat.le_of_ble_eq_true rfl) (Nat.le_of_ble_eq_true rfl) rfl (by decide) (m_isOne_t (mi := m) hN' h6 hx9) ?_
      rintro _ _ ⟨rfl, rfl⟩
      refine Wp.run 4 (11, [(0, .ref 66), (1, .int (nI i)), (2, .int w)], [.int 1, .int 0, .int w], (zsh ++ vs, m, ml, (zmr g'))) rfl ?_
      refine Wp.call (as := [.int w, .int 0, .int 1]) (rest := []) rfl rfl rfl rfl rfl (Nat.le_of_ble_eq_true rfl) (Nat.le_of_ble_eq_true rfl) rfl (by decide) (m_isIn_f hw) ?_
      rintro _ _ ⟨rfl, rfl⟩
      refine Wp.run 2 (38, [(0, .ref 66), (1, .int (nI i)), (2, .int w)], [.int (-1)], (zsh ++ vs, m, ml, (zmr g'))) rfl ?_
      refine Wp.ret rfl rfl rfl ?_
      exact ⟨rfl, _, rfl, SC.rf⟩
  obtain ⟨q, hq, rfl⟩ := rng_of (h := 1) rfl hw
  obtain ⟨c, S3, R3⟩ := I.2.1.1.two h6
  rcases (show q = 0 ∨ q = 1 by omega) with rfl | rfl
  · refine SIM.q I (x := zsum (fitI (smV VD) (anV VD) (mi 67) n dd (mi 67) c i 1) 10) (dc := 7) (dm := 27) (by decide) (by decide) ?_ ?_
    · refine Wp.run 3 (5, [(0, .ref 0), (1, .int (nI i)), (2, .int 0)], [.int (nI i), .ref 1], (zsh ++ vs, mi, ml, (zmr g))) rfl ?_
      refine Wp.call (as := [.ref 1, .int (nI i)]) (rest := []) rfl rfl rfl rfl rfl (Nat.le_of_ble_eq_true rfl) (Nat.le_of_ble_eq_true rfl) rfl (by decide) (c_has_t (mi := mi) hn h6 hx9) ?_
      rintro _ _ ⟨rfl, rfl⟩
      refine Wp.run 3 (13, [(0, .ref 0), (1, .int (nI i)), (2, .int 0)], [.int 1, .int 0], (zsh ++ vs, mi, ml, (zmr g))) rfl ?_
      refine Wp.call (as := [.int 0, .int 1]) (rest := []) rfl rfl rfl rfl rfl (Nat.le_of_ble_eq_true rfl) (Nat.le_of_ble_eq_true rfl) rfl (by decide) (c_within_t hw) ?_
      rintro _ _ ⟨rfl, rfl⟩
      refine Wp.run 13 (45, [(0, .ref 0), (1, .int (nI i)), (2, .int 0)], [.int 0, .int 0, .int (nI i), .ref 21, .ref 1, .ref 37], (zsh ++ vs, mi, ml, (zmr g))) rfl ?_
      refine Wp.call (as := [.ref 37, .ref 1, .ref 21, .int (nI i), .int 0, .int 0]) (rest := []) rfl rfl rfl rfl rfl (Nat.le_of_ble_eq_true rfl) (Nat.le_of_ble_eq_true rfl) rfl (by decide) (c_fit_0_0 I.ce B hi S3 (by omega)) ?_
      rintro _ _ ⟨rfl, p1, g1, rfl, k1, k2⟩
      refine Wp.run 0 (48, [(0, .ref 0), (1, .int (nI i)), (2, .int 0)], [.int (zsum (fitI (smV VD) (anV VD) (mi 67) n dd (mi 67) c i 1) 10)], (zsh ++ vs, p1, ml, (zmr g1))) rfl ?_
      refine Wp.ret rfl rfl rfl ?_
      exact ⟨rfl, _, _, rfl, SC.frB k1, k2⟩
    · intro m g' I' e67 S
      have B' := I'.1.1
      have hn' := B'.2.1
      have hN' := B'.1.1
      have hd' := B'.1.2.2.1
      rw [← e67]
      refine Wp.run 2 (2, [(0, .ref 66), (1, .int (nI i)), (2, .int 0)], [.int (nI i), .ref 66], (zsh ++ vs, m, ml, (zmr g'))) rfl ?_
      refine Wp.call (as := [.ref 66, .int (nI i)]) (rest := []) rfl rfl rfl rfl rfl (Nat.le_of_ble_eq_true rfl) (Nat.le_of_ble_eq_true rfl) rfl (by decide) (m_isOne_t (mi := m) hN' h6 hx9) ?_
      rintro _ _ ⟨rfl, rfl⟩
      refine Wp.run 4 (11, [(0, .ref 66), (1, .int (nI i)), (2, .int 0)], [.int 1, .int 0, .int 0], (zsh ++ vs, m, ml, (zmr g'))) rfl ?_
      refine Wp.call (as := [.int 0, .int 0, .int 1]) (rest := []) rfl rfl rfl rfl rfl (Nat.le_of_ble_eq_true rfl) (Nat.le_of_ble_eq_true rfl) rfl (by decide) (m_isIn_t hw) ?_
      rintro _ _ ⟨rfl, rfl⟩
      refine Wp.run 9 (31, [(0, .ref 66), (1, .int (nI i)), (2, .int 0)], [.int 1, .int 9, .int 1, .int (nI i), .ref 66], (zsh ++ vs, m, ml, (zmr g'))) rfl ?_
      refine Wp.call (as := [.ref 66, .int (nI i), .int 1, .int 9, .int 1]) (rest := []) rfl rfl rfl rfl rfl (Nat.le_of_ble_eq_true rfl) (Nat.le_of_ble_eq_true rfl) rfl (by decide) (m_fit_1_1 I'.re hi (by rw [e67]; exact R3) (by omega)) ?_
      rintro _ _ ⟨rfl, p1, rfl, k1⟩
      refine Wp.run 1 (38, [(0, .ref 66), (1, .int (nI i)), (2, .int 0)], [.int (zsum (fitI (smV VD) (anV VD) (m 67) n dd (m 67) c i 1) 10)], (zsh ++ vs, p1, ml, (zmr g'))) rfl ?_
      refine Wp.ret rfl rfl rfl ?_
      exact ⟨rfl, _, rfl, k1.sc⟩
  · refine SIM.q I (x := lostR (fitL (smV VD) (anV VD) (mi 67) n dd (mi 67) c i 1) 10 0) (dc := 7) (dm := 27) (by decide) (by decide) ?_ ?_
    · refine Wp.run 3 (5, [(0, .ref 0), (1, .int (nI i)), (2, .int 1)], [.int (nI i), .ref 1], (zsh ++ vs, mi, ml, (zmr g))) rfl ?_
      refine Wp.call (as := [.ref 1, .int (nI i)]) (rest := []) rfl rfl rfl rfl rfl (Nat.le_of_ble_eq_true rfl) (Nat.le_of_ble_eq_true rfl) rfl (by decide) (c_has_t (mi := mi) hn h6 hx9) ?_
      rintro _ _ ⟨rfl, rfl⟩
      refine Wp.run 3 (13, [(0, .ref 0), (1, .int (nI i)), (2, .int 1)], [.int 1, .int 1], (zsh ++ vs, mi, ml, (zmr g))) rfl ?_
      refine Wp.call (as := [.int 1, .int 1]) (rest := []) rfl rfl rfl rfl rfl (Nat.le_of_ble_eq_true rfl) (Nat.le_of_ble_eq_true rfl) rfl (by decide) (c_within_t hw) ?_
      rintro _ _ ⟨rfl, rfl⟩
      refine Wp.run 14 (45, [(0, .ref 0), (1, .int (nI i)), (2, .int 1)], [.int 1, .int 0, .int (nI i), .ref 21, .ref 1, .ref 37], (zsh ++ vs, mi, ml, (zmr g))) rfl ?_
      refine Wp.call (as := [.ref 37, .ref 1, .ref 21, .int (nI i), .int 0, .int 1]) (rest := []) rfl rfl rfl rfl rfl (Nat.le_of_ble_eq_true rfl) (Nat.le_of_ble_eq_true rfl) rfl (by decide) (c_fit_0_1 I.ce B hi S3 (by omega)) ?_
      rintro _ _ ⟨rfl, p1, g1, rfl, k1, k2⟩
      refine Wp.run 0 (48, [(0, .ref 0), (1, .int (nI i)), (2, .int 1)], [.int (lostR (fitL (smV VD) (anV VD) (mi 67) n dd (mi 67) c i 1) 10 0)], (zsh ++ vs, p1, ml, (zmr g1))) rfl ?_
      refine Wp.ret rfl rfl rfl ?_
      exact ⟨rfl, _, _, rfl, SC.frB k1, k2⟩
    · intro m g' I' e67 S
      have B' := I'.1.1
      have hn' := B'.2.1
      have hN' := B'.1.1
      have hd' := B'.1.2.2.1
      rw [← e67]
      refine Wp.run 2 (2, [(0, .ref 66), (1, .int (nI i)), (2, .int 1)], [.int (nI i), .ref 66], (zsh ++ vs, m, ml, (zmr g'))) rfl ?_
      refine Wp.call (as := [.ref 66, .int (nI i)]) (rest := []) rfl rfl rfl rfl rfl (Nat.le_of_ble_eq_true rfl) (Nat.le_of_ble_eq_true rfl) rfl (by decide) (m_isOne_t (mi := m) hN' h6 hx9) ?_
      rintro _ _ ⟨rfl, rfl⟩
      refine Wp.run 4 (11, [(0, .ref 66), (1, .int (nI i)), (2, .int 1)], [.int 1, .int 0, .int 1], (zsh ++ vs, m, ml, (zmr g'))) rfl ?_
      refine Wp.call (as := [.int 1, .int 0, .int 1]) (rest := []) rfl rfl rfl rfl rfl (Nat.le_of_ble_eq_true rfl) (Nat.le_of_ble_eq_true rfl) rfl (by decide) (m_isIn_t hw) ?_
      rintro _ _ ⟨rfl, rfl⟩
      refine Wp.run 8 (31, [(0, .ref 66), (1, .int (nI i)), (2, .int 1)], [.int 0, .int 9, .int 1, .int (nI i), .ref 66], (zsh ++ vs, m, ml, (zmr g'))) rfl ?_
      refine Wp.call (as := [.ref 66, .int (nI i), .int 1, .int 9, .int 0]) (rest := []) rfl rfl rfl rfl rfl (Nat.le_of_ble_eq_true rfl) (Nat.le_of_ble_eq_true rfl) rfl (by decide) (m_fit_1_0 I'.re hi (by rw [e67]; exact R3) (by omega)) ?_
      rintro _ _ ⟨rfl, p1, rfl, k1⟩
      refine Wp.run 1 (38, [(0, .ref 66), (1, .int (nI i)), (2, .int 1)], [.int (lostR (fitL (smV VD) (anV VD) (m 67) n dd (m 67) c i 1) 10 0)], (zsh ++ vs, p1, ml, (zmr g'))) rfl ?_
      refine Wp.ret rfl rfl rfl ?_
      exact ⟨rfl, _, rfl, k1.sc⟩
