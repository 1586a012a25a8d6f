/-! THE CALLS: told, count -/
theorem nrng {x M : Int32} {k : Nat} (h : ¬ (0 ≤ x ∧ x ≤ M)) (hM : M.toInt = k) : x.toInt < 0 ∨ (k : Int) < x.toInt := by
  rcases Int.lt_or_le x.toInt 0 with h1 | h1
  · exact Or.inl h1
  · right
    apply Int.lt_of_not_ge
    intro h2
    exact h ⟨Int32.le_iff_toInt_le.mpr h1, Int32.le_iff_toInt_le.mpr (by rw [hM]; exact h2)⟩
theorem SC.keep {mi m : Nat → Nat → Int32} (h : zKeep mi m) : SC mi m := ⟨fun b _ _ _ _ _ p66 _ p73 p74 _ => h.1 b p66 p73 p74, by rw [h.1 48 (by decide) (by decide) (by decide)], by rw [h.1 51 (by decide) (by decide) (by decide)], h.2⟩
theorem zup38 {g : Nat → Nat → Option Nat} {v : Option Nat} : ∀ a f, ¬ (a = 38 ∧ f = 3) → zup g 38 3 v a f = g a f := by
  intro a f h
  unfold zup
  by_cases ha : a = 38
  · rw [if_pos ha, if_neg (fun q => h ⟨ha, q⟩), ha]
  · rw [if_neg ha]
theorem sim_told {E : zEn} {nv : Nat} {VD : Nat → zV} {NL : Nat → Nat} {n dd : Nat} {vs : List (Nat × Nat)} {mi : Nat → Nat → Int32} {ml : Nat → Nat → Int64} {g : Nat → Nat → Option Nat} (I : INV nv VD NL n dd vs mi ml g) (x : Int32) : SIM E vs mi ml g pg_H_told pg_M_told [.int x] := by
  have B := I.1.1
  have h6 := B.1.2.1
  have hn := B.2.1
  have hN := B.1.1
  have hd := B.1.2.2.1
  have hdd := I.1.2
  by_cases hx : 0 ≤ x ∧ x ≤ 5
  · obtain ⟨q, hq, rfl⟩ := rng_of (h := 5) rfl hx
    rcases (show q = 0 ∨ q = 1 ∨ q = 2 ∨ q = 3 ∨ q = 4 ∨ q = 5 by omega) with rfl | rfl | rfl | rfl | rfl | rfl
    · refine SIM.q I (x := nI dd) (dc := 7) (dm := 27) (by decide) (by decide) ?_ ?_
      · refine Wp.run 5 (47, [(0, .ref 0), (1, .int 0)], [.int (mi 1 1)], (zsh ++ vs, mi, ml, (zmr g))) rfl ?_
        refine Wp.ret rfl rfl rfl ?_
        exact ⟨congrArg (fun z => some (Value.int z)) (B.2.2.1), _, _, rfl, SC.rf, fun _ _ _ => rfl⟩
      · intro m g' I' e67 S
        have B' := I'.1.1
        have hn' := B'.2.1
        have hN' := B'.1.1
        have hd' := B'.1.2.2.1
        refine Wp.run 6 (47, [(0, .ref 66), (1, .int 0)], [.int (m 67 69)], (zsh ++ vs, m, ml, (zmr g'))) rfl ?_
        refine Wp.ret rfl rfl rfl ?_
        exact ⟨congrArg (fun z => some (Value.int z)) (hd'), _, rfl, SC.rf⟩
    · refine SIM.q I (x := anV VD (mi 67 70)) (dc := 7) (dm := 27) (by decide) (by decide) ?_ ?_
      · refine Wp.run 4 (52, [(0, .ref 0), (1, .int 1)], [.ref 1], (zsh ++ vs, mi, ml, (zmr g))) rfl ?_
        refine Wp.call (as := [.ref 1]) (rest := []) rfl rfl rfl rfl rfl (Nat.le_of_ble_eq_true rfl) (Nat.le_of_ble_eq_true rfl) rfl (by decide) (c_anew_1 I.cw (fun _ _ => rfl) (fun _ _ => rfl) B.2.2.2.2.2.2.vv) ?_
        rintro _ _ ⟨rfl, rfl⟩
        refine Wp.run 0 (55, [(0, .ref 0), (1, .int 1)], [.int (anB mi (g 1 3))], (zsh ++ vs, mi, ml, (zmr g))) rfl ?_
        refine Wp.ret rfl rfl rfl ?_
        exact ⟨congrArg (fun z => some (Value.int z)) ((I.sem _ _ B.2.2.2.2.2.2).2.1), _, _, rfl, SC.rf, fun _ _ _ => rfl⟩
      · intro m g' I' e67 S
        have B' := I'.1.1
        have hn' := B'.2.1
        have hN' := B'.1.1
        have hd' := B'.1.2.2.1
        rw [← e67]
        refine Wp.run 3 (49, [(0, .ref 66), (1, .int 1)], [.ref 66], (zsh ++ vs, m, ml, (zmr g'))) rfl ?_
        refine Wp.call (as := [.ref 66]) (rest := []) rfl rfl rfl rfl rfl (Nat.le_of_ble_eq_true rfl) (Nat.le_of_ble_eq_true rfl) rfl (by decide) (m_anewNow I'.rf rfl I'.kh I'.rv (dd := dd) (by omega) hd') ?_
        rintro _ _ ⟨rfl, m2, rfl, hk⟩
        refine Wp.run 0 (52, [(0, .ref 66), (1, .int 1)], [.int (anV VD (m 67 70))], (zsh ++ vs, m2, ml, (zmr g'))) rfl ?_
        refine Wp.ret rfl rfl rfl ?_
        exact ⟨rfl, _, rfl, SC.keep hk⟩
    · refine SIM.q I (x := zor (keptF (uN (mi 67))) n) (dc := 7) (dm := 27) (by decide) (by decide) ?_ ?_
      · refine Wp.run 4 (60, [(0, .ref 0), (1, .int 2)], [.ref 1], (zsh ++ vs, mi, ml, (zmr g))) rfl ?_
        refine Wp.call (as := [.ref 1]) (rest := []) rfl rfl rfl rfl rfl (Nat.le_of_ble_eq_true rfl) (Nat.le_of_ble_eq_true rfl) rfl (by decide) (c_kept_1 hn h6) ?_
        rintro _ _ ⟨rfl, rfl⟩
        refine Wp.run 0 (63, [(0, .ref 0), (1, .int 2)], [.int (zor (sungF (mi 1 2 ^^^ -1) (mi 5)) n)], (zsh ++ vs, mi, ml, (zmr g))) rfl ?_
        refine Wp.ret rfl rfl rfl ?_
        exact ⟨congrArg (fun z => some (Value.int z)) (B.kept), _, _, rfl, SC.rf, fun _ _ _ => rfl⟩
      · intro m g' I' e67 S
        have B' := I'.1.1
        have hn' := B'.2.1
        have hN' := B'.1.1
        have hd' := B'.1.2.2.1
        rw [← e67]
        refine Wp.run 3 (54, [(0, .ref 66), (1, .int 2)], [.ref 66], (zsh ++ vs, m, ml, (zmr g'))) rfl ?_
        refine Wp.call (as := [.ref 66]) (rest := []) rfl rfl rfl rfl rfl (Nat.le_of_ble_eq_true rfl) (Nat.le_of_ble_eq_true rfl) rfl (by decide) (m_keptNow hN' h6) ?_
        rintro _ _ ⟨rfl, rfl⟩
        refine Wp.run 0 (57, [(0, .ref 66), (1, .int 2)], [.int (zor (keptF (uN (m 67))) n)], (zsh ++ vs, m, ml, (zmr g'))) rfl ?_
        refine Wp.ret rfl rfl rfl ?_
        exact ⟨rfl, _, rfl, SC.rf⟩
    · refine SIM.q I (x := zsum (fun p => if zor (keptF (uN (mi 67))) n >>> (nI p &&& 31) &&& 1 = 1 then mi 67 p else 0) 8) (dc := 7) (dm := 27) (by decide) (by decide) ?_ ?_
      · refine Wp.run 4 (68, [(0, .ref 0), (1, .int 3)], [.ref 1], (zsh ++ vs, mi, ml, (zmr g))) rfl ?_
        refine Wp.call (as := [.ref 1]) (rest := []) rfl rfl rfl rfl rfl (Nat.le_of_ble_eq_true rfl) (Nat.le_of_ble_eq_true rfl) rfl (by decide) (c_sacks_1 hn h6) ?_
        rintro _ _ ⟨rfl, rfl⟩
        refine Wp.run 0 (71, [(0, .ref 0), (1, .int 3)], [.int (zsum (fun p => (zor (sungF (mi 1 2 ^^^ -1) (mi 5)) n >>> (nI p &&& 31) &&& 1) * mi 2 p) 8)], (zsh ++ vs, mi, ml, (zmr g))) rfl ?_
        refine Wp.ret rfl rfl rfl ?_
        exact ⟨congrArg (fun z => some (Value.int z)) (by rw [show zor (sungF (mi 1 2 ^^^ -1) (mi 5)) n = _ from B.kept]; exact B.sacks _), _, _, rfl, SC.rf, fun _ _ _ => rfl⟩
      · intro m g' I' e67 S
        have B' := I'.1.1
        have hn' := B'.2.1
        have hN' := B'.1.1
        have hd' := B'.1.2.2.1
        rw [← e67]
        refine Wp.run 3 (59, [(0, .ref 66), (1, .int 3)], [.ref 66], (zsh ++ vs, m, ml, (zmr g'))) rfl ?_
        refine Wp.call (as := [.ref 66]) (rest := []) rfl rfl rfl rfl rfl (Nat.le_of_ble_eq_true rfl) (Nat.le_of_ble_eq_true rfl) rfl (by decide) (m_sacks hN' h6) ?_
        rintro _ _ ⟨rfl, rfl⟩
        refine Wp.run 0 (62, [(0, .ref 66), (1, .int 3)], [.int (zsum (fun p => if zor (keptF (uN (m 67))) n >>> (nI p &&& 31) &&& 1 = 1 then m 67 p else 0) 8)], (zsh ++ vs, m, ml, (zmr g'))) rfl ?_
        refine Wp.ret rfl rfl rfl ?_
        exact ⟨rfl, _, rfl, SC.rf⟩
    · refine SIM.q I (x := zor (fun p => if 1 < zsum (holdF (uN (mi 67)) (nI p)) n then (1 : Int32) <<< (nI p &&& 31) else 0) 8) (dc := 7) (dm := 27) (by decide) (by decide) ?_ ?_
      · refine Wp.run 4 (76, [(0, .ref 0), (1, .int 4)], [.ref 1], (zsh ++ vs, mi, ml, (zmr g))) rfl ?_
        refine Wp.call (as := [.ref 1]) (rest := []) rfl rfl rfl rfl rfl (Nat.le_of_ble_eq_true rfl) (Nat.le_of_ble_eq_true rfl) rfl (by decide) (c_safe_1 hn h6) ?_
        rintro _ _ ⟨rfl, rfl⟩
        refine Wp.run 0 (79, [(0, .ref 0), (1, .int 4)], [.int (ztw (sungF (mi 1 2 ^^^ -1) (mi 5)) n)], (zsh ++ vs, mi, ml, (zmr g))) rfl ?_
        refine Wp.ret rfl rfl rfl ?_
        exact ⟨congrArg (fun z => some (Value.int z)) (B.twice.trans (safe_eq B.1)), _, _, rfl, SC.rf, fun _ _ _ => rfl⟩
      · intro m g' I' e67 S
        have B' := I'.1.1
        have hn' := B'.2.1
        have hN' := B'.1.1
        have hd' := B'.1.2.2.1
        rw [← e67]
        refine Wp.run 3 (64, [(0, .ref 66), (1, .int 4)], [.ref 66], (zsh ++ vs, m, ml, (zmr g'))) rfl ?_
        refine Wp.call (as := [.ref 66]) (rest := []) rfl rfl rfl rfl rfl (Nat.le_of_ble_eq_true rfl) (Nat.le_of_ble_eq_true rfl) rfl (by decide) (m_safe hN' h6) ?_
        rintro _ _ ⟨rfl, rfl⟩
        refine Wp.run 0 (67, [(0, .ref 66), (1, .int 4)], [.int (zor (fun p => if 1 < zsum (holdF (uN (m 67)) (nI p)) n then (1 : Int32) <<< (nI p &&& 31) else 0) 8)], (zsh ++ vs, m, ml, (zmr g'))) rfl ?_
        refine Wp.ret rfl rfl rfl ?_
        exact ⟨rfl, _, rfl, SC.rf⟩
    · refine SIM.q I (x := zor (awaysF (uN (mi 67))) n) (dc := 7) (dm := 27) (by decide) (by decide) ?_ ?_
      · refine Wp.run 5 (87, [(0, .ref 0), (1, .int 5)], [.int (mi 1 2)], (zsh ++ vs, mi, ml, (zmr g))) rfl ?_
        refine Wp.ret rfl rfl rfl ?_
        exact ⟨congrArg (fun z => some (Value.int z)) (B.absent), _, _, rfl, SC.rf, fun _ _ _ => rfl⟩
      · intro m g' I' e67 S
        have B' := I'.1.1
        have hn' := B'.2.1
        have hN' := B'.1.1
        have hd' := B'.1.2.2.1
        rw [← e67]
        refine Wp.run 3 (69, [(0, .ref 66), (1, .int 5)], [.ref 66], (zsh ++ vs, m, ml, (zmr g'))) rfl ?_
        refine Wp.call (as := [.ref 66]) (rest := []) rfl rfl rfl rfl rfl (Nat.le_of_ble_eq_true rfl) (Nat.le_of_ble_eq_true rfl) rfl (by decide) (m_aways hN' h6) ?_
        rintro _ _ ⟨rfl, rfl⟩
        refine Wp.run 0 (72, [(0, .ref 66), (1, .int 5)], [.int (zor (awaysF (uN (m 67))) n)], (zsh ++ vs, m, ml, (zmr g'))) rfl ?_
        refine Wp.ret rfl rfl rfl ?_
        exact ⟨rfl, _, rfl, SC.rf⟩
  · refine SIM.q I (x := -1) (dc := 7) (dm := 27) (by decide) (by decide) ?_ ?_
    · refine Wp.run 1 (1, [(0, .ref 0), (1, .int x)], [.int x], (zsh ++ vs, mi, ml, (zmr g))) rfl ?_
      refine Wp.tsw rfl (zsw_out (nrng hx rfl)) rfl ?_
      refine Wp.run 1 (89, [(0, .ref 0), (1, .int x)], [.int (-1)], (zsh ++ vs, mi, ml, (zmr g))) rfl ?_
      refine Wp.ret rfl rfl rfl ?_
      exact ⟨rfl, _, _, rfl, SC.rf, fun _ _ _ => rfl⟩
    · intro m g' I' e67 S
      have B' := I'.1.1
      have hn' := B'.2.1
      have hN' := B'.1.1
      have hd' := B'.1.2.2.1
      refine Wp.run 1 (1, [(0, .ref 66), (1, .int x)], [.int x], (zsh ++ vs, m, ml, (zmr g'))) rfl ?_
      refine Wp.tsw rfl (zsw_out (nrng hx rfl)) rfl ?_
      refine Wp.run 1 (74, [(0, .ref 66), (1, .int x)], [.int (-1)], (zsh ++ vs, m, ml, (zmr g'))) rfl ?_
      refine Wp.ret rfl rfl rfl ?_
      exact ⟨rfl, _, rfl, SC.rf⟩
theorem sim_count {E : zEn} {nv : Nat} {VD : Nat → zV} {NL : Nat → Nat} {n dd : Nat} {vs : List (Nat × Nat)} {mi : Nat → Nat → Int32} {ml : Nat → Nat → Int64} {g : Nat → Nat → Option Nat} (I : INV nv VD NL n dd vs mi ml g) (x : Int32) : SIM E vs mi ml g pg_H_count pg_M_count [.int x] := by
  have B := I.1.1
  have h6 := B.1.2.1
  have hn := B.2.1
  have hN := B.1.1
  have hd := B.1.2.2.1
  have hdd := I.1.2
  by_cases hx : 0 ≤ x ∧ x ≤ 6
  · obtain ⟨q, hq, rfl⟩ := rng_of (h := 6) rfl hx
    rcases (show q = 0 ∨ q = 1 ∨ q = 2 ∨ q = 3 ∨ q = 4 ∨ q = 5 ∨ q = 6 by omega) with rfl | rfl | rfl | rfl | rfl | rfl | rfl
    · refine SIM.q I (x := nI n) (dc := 7) (dm := 27) (by decide) (by decide) ?_ ?_
      · refine Wp.run 5 (51, [(0, .ref 0), (1, .int 0)], [.int (mi 1 0)], (zsh ++ vs, mi, ml, (zmr g))) rfl ?_
        refine Wp.ret rfl rfl rfl ?_
        exact ⟨congrArg (fun z => some (Value.int z)) (hn), _, _, rfl, SC.rf, fun _ _ _ => rfl⟩
      · intro m g' I' e67 S
        have B' := I'.1.1
        have hn' := B'.2.1
        have hN' := B'.1.1
        have hd' := B'.1.2.2.1
        refine Wp.run 6 (51, [(0, .ref 66), (1, .int 0)], [.int (m 67 68)], (zsh ++ vs, m, ml, (zmr g'))) rfl ?_
        refine Wp.ret rfl rfl rfl ?_
        exact ⟨congrArg (fun z => some (Value.int z)) (hN'), _, rfl, SC.rf⟩
    · refine SIM.q I (x := nI nv) (dc := 7) (dm := 27) (by decide) (by decide) ?_ ?_
      · refine Wp.run 4 (56, [(0, .ref 0), (1, .int 1)], [.int (mi 0 7)], (zsh ++ vs, mi, ml, (zmr g))) rfl ?_
        refine Wp.ret rfl rfl rfl ?_
        exact ⟨congrArg (fun z => some (Value.int z)) (I.2.2.2.2.1.2.1), _, _, rfl, SC.rf, fun _ _ _ => rfl⟩
      · intro m g' I' e67 S
        have B' := I'.1.1
        have hn' := B'.2.1
        have hN' := B'.1.1
        have hd' := B'.1.2.2.1
        refine Wp.run 4 (56, [(0, .ref 66), (1, .int 1)], [.int (m 66 8)], (zsh ++ vs, m, ml, (zmr g'))) rfl ?_
        refine Wp.ret rfl rfl rfl ?_
        exact ⟨congrArg (fun z => some (Value.int z)) (I'.2.2.2.2.1.2.2.1), _, rfl, SC.rf⟩
    · refine SIM.q I (x := mi 67 71) (dc := 7) (dm := 27) (by decide) (by decide) ?_ ?_
      · refine Wp.run 5 (64, [(0, .ref 0), (1, .int 2)], [.int (mi 21 0)], (zsh ++ vs, mi, ml, (zmr g))) rfl ?_
        refine Wp.ret rfl rfl rfl ?_
        exact ⟨congrArg (fun z => some (Value.int z)) (by obtain ⟨c, -, h1, h2, -⟩ := I.2.1.1; rw [h2]; exact h1), _, _, rfl, SC.rf, fun _ _ _ => rfl⟩
      · intro m g' I' e67 S
        have B' := I'.1.1
        have hn' := B'.2.1
        have hN' := B'.1.1
        have hd' := B'.1.2.2.1
        rw [← e67]
        refine Wp.run 6 (64, [(0, .ref 66), (1, .int 2)], [.int (m 67 71)], (zsh ++ vs, m, ml, (zmr g'))) rfl ?_
        refine Wp.ret rfl rfl rfl ?_
        exact ⟨rfl, _, rfl, SC.rf⟩
    · refine SIM.q I (x := mi 67 87) (dc := 7) (dm := 27) (by decide) (by decide) ?_ ?_
      · refine Wp.run 5 (72, [(0, .ref 0), (1, .int 3)], [.int (mi 21 1)], (zsh ++ vs, mi, ml, (zmr g))) rfl ?_
        refine Wp.ret rfl rfl rfl ?_
        exact ⟨congrArg (fun z => some (Value.int z)) (by obtain ⟨c, -, h1, h2, -⟩ := I.2.1.2.1; rw [h2]; exact h1), _, _, rfl, SC.rf, fun _ _ _ => rfl⟩
      · intro m g' I' e67 S
        have B' := I'.1.1
        have hn' := B'.2.1
        have hN' := B'.1.1
        have hd' := B'.1.2.2.1
        rw [← e67]
        refine Wp.run 6 (72, [(0, .ref 66), (1, .int 3)], [.int (m 67 87)], (zsh ++ vs, m, ml, (zmr g'))) rfl ?_
        refine Wp.ret rfl rfl rfl ?_
        exact ⟨rfl, _, rfl, SC.rf⟩
    · refine SIM.q I (x := mi 67 108) (dc := 7) (dm := 27) (by decide) (by decide) ?_ ?_
      · refine Wp.run 5 (80, [(0, .ref 0), (1, .int 4)], [.int (mi 21 2)], (zsh ++ vs, mi, ml, (zmr g))) rfl ?_
        refine Wp.ret rfl rfl rfl ?_
        exact ⟨congrArg (fun z => some (Value.int z)) (by obtain ⟨c, -, h1, h2, -⟩ := I.2.1.2.2; rw [h2]; exact h1), _, _, rfl, SC.rf, fun _ _ _ => rfl⟩
      · intro m g' I' e67 S
        have B' := I'.1.1
        have hn' := B'.2.1
        have hN' := B'.1.1
        have hd' := B'.1.2.2.1
        rw [← e67]
        refine Wp.run 6 (80, [(0, .ref 66), (1, .int 4)], [.int (m 67 108)], (zsh ++ vs, m, ml, (zmr g'))) rfl ?_
        refine Wp.ret rfl rfl rfl ?_
        exact ⟨rfl, _, rfl, SC.rf⟩
    · obtain ⟨L, -, hL1, hL2, -⟩ := I.2.2.2.1
      refine SIM.q I (x := nI L) (dc := 7) (dm := 27) (by decide) (by decide) ?_ ?_
      · refine Wp.run 5 (88, [(0, .ref 0), (1, .int 5)], [.int (mi 48 0)], (zsh ++ vs, mi, ml, (zmr g))) rfl ?_
        refine Wp.ret rfl rfl rfl ?_
        exact ⟨congrArg (fun z => some (Value.int z)) (hL1), _, _, rfl, SC.rf, fun _ _ _ => rfl⟩
      · intro m g' I' e67 S
        have B' := I'.1.1
        have hn' := B'.2.1
        have hN' := B'.1.1
        have hd' := B'.1.2.2.1
        refine Wp.run 4 (85, [(0, .ref 66), (1, .int 5)], [.int (m 66 5)], (zsh ++ vs, m, ml, (zmr g'))) rfl ?_
        refine Wp.ret rfl rfl rfl ?_
        exact ⟨congrArg (fun z => some (Value.int z)) (by obtain ⟨L', l0, l1, l2, -⟩ := I'.2.2.2.1; rw [l2, ← l1, S.2.1]; exact hL1), _, rfl, SC.rf⟩
    · obtain ⟨L, -, hL1, hL2, -⟩ := I.2.2.2.2.2.1
      refine SIM.q I (x := nI L) (dc := 7) (dm := 27) (by decide) (by decide) ?_ ?_
      · refine Wp.run 5 (96, [(0, .ref 0), (1, .int 6)], [.int (mi 51 1)], (zsh ++ vs, mi, ml, (zmr g))) rfl ?_
        refine Wp.ret rfl rfl rfl ?_
        exact ⟨congrArg (fun z => some (Value.int z)) (hL1), _, _, rfl, SC.rf, fun _ _ _ => rfl⟩
      · intro m g' I' e67 S
        have B' := I'.1.1
        have hn' := B'.2.1
        have hN' := B'.1.1
        have hd' := B'.1.2.2.1
        refine Wp.run 4 (90, [(0, .ref 66), (1, .int 6)], [.int (m 66 24)], (zsh ++ vs, m, ml, (zmr g'))) rfl ?_
        refine Wp.ret rfl rfl rfl ?_
        exact ⟨congrArg (fun z => some (Value.int z)) (by obtain ⟨L', l0, l1, l2, -⟩ := I'.2.2.2.2.2.1; rw [l2, ← l1, S.2.2.1]; exact hL1), _, rfl, SC.rf⟩
  · refine SIM.q I (x := -2) (dc := 7) (dm := 27) (by decide) (by decide) ?_ ?_
    · refine Wp.run 1 (1, [(0, .ref 0), (1, .int x)], [.int x], (zsh ++ vs, mi, ml, (zmr g))) rfl ?_
      refine Wp.tsw rfl (zsw_out (nrng hx rfl)) rfl ?_
      refine Wp.run 1 (99, [(0, .ref 0), (1, .int x)], [.int (-2)], (zsh ++ vs, mi, ml, (zmr g))) rfl ?_
      refine Wp.ret rfl rfl rfl ?_
      exact ⟨rfl, _, _, rfl, SC.rf, fun _ _ _ => rfl⟩
    · intro m g' I' e67 S
      have B' := I'.1.1
      have hn' := B'.2.1
      have hN' := B'.1.1
      have hd' := B'.1.2.2.1
      refine Wp.run 1 (1, [(0, .ref 66), (1, .int x)], [.int x], (zsh ++ vs, m, ml, (zmr g'))) rfl ?_
      refine Wp.tsw rfl (zsw_out (nrng hx rfl)) rfl ?_
      refine Wp.run 1 (93, [(0, .ref 66), (1, .int x)], [.int (-2)], (zsh ++ vs, m, ml, (zmr g'))) rfl ?_
      refine Wp.ret rfl rfl rfl ?_
      exact ⟨rfl, _, rfl, SC.rf⟩
