/-! THE CALLS: on -/
theorem w_of {w : Int32} {i a : Nat} (e : w - nI a = nI i) : w = nI (a + i) := by
  rw [Nat.add_comm, ← nI_add, ← e, Int32.sub_add_cancel]
theorem sim_on {E : zEn} {nv : Nat} {VD : Nat → zV} {NL : Nat → Nat} {n dd : Nat} {vs : List (Nat × Nat)} {mi : Nat → Nat → Int32} {ml : Nat → Nat → Int64} {g : Nat → Nat → Option Nat} (I : INV nv VD NL n dd vs mi ml g) (t9 w : Int32) : SIM E vs mi ml g pg_H_on pg_M_on [.int t9, .int w] := by
  have B := I.1.1
  have h6 := B.1.2.1
  have hn := B.2.1
  have hN := B.1.1
  have hd := B.1.2.2.1
  have hdd := I.1.2
  by_cases ht9 : 0 ≤ t9 ∧ t9 ≤ 60
  · obtain ⟨t, ht, rfl⟩ := rng_of (h := 60) rfl ht9
    by_cases h0 : 0 ≤ w ∧ w ≤ 1
    · obtain ⟨q, hq, rfl⟩ := rng_of (h := 1) rfl h0
      rcases (show q = 0 ∨ q = 1 by omega) with rfl | rfl
      · refine SIM.q I (x := keptN (daysN (smV VD) (anV VD) (mi 67) n dd t) n) (dc := 7) (dm := 27) (by decide) (by decide) ?_ ?_
        · refine Wp.run 14 (82, [(4, .int 0), (3, .int 0), (0, .ref 0), (1, .int (nI t)), (2, .int 0)], [.int 60, .int (nI t)], (zsh ++ vs, mi, ml, (zmr g))) rfl ?_
          refine Wp.call (as := [.int (nI t), .int 60]) (rest := []) rfl rfl rfl rfl rfl (Nat.le_of_ble_eq_true rfl) (Nat.le_of_ble_eq_true rfl) rfl (by decide) (c_within_t ht9) ?_
          rintro _ _ ⟨rfl, rfl⟩
          refine Wp.run 6 (100, [(4, .int 0), (3, .int 0), (0, .ref 0), (1, .int (nI t)), (2, .int 0)], [.int (nI t), .ref 1, .ref 37], (zsh ++ vs, mi, ml, (zmr g))) rfl ?_
          refine Wp.call (as := [.ref 37, .ref 1, .int (nI t)]) (rest := []) rfl rfl rfl rfl rfl (Nat.le_of_ble_eq_true rfl) (Nat.le_of_ble_eq_true rfl) rfl (by decide) (c_after (t := t) (I.ce (E := E)).1 (I.ce (E := E)).2.1 (I.ce (E := E)).2.2.1 (I.ce (E := E)).2.2.2.1 (I.ce (E := E)).2.2.2.2 B (by omega)) ?_
          rintro _ _ ⟨rfl, p1, rfl, k1, k2⟩
          refine Wp.run 8 (142, [(5, .ref 38), (4, .int 0), (3, .int 0), (0, .ref 0), (1, .int (nI t)), (2, .int 0)], [.ref 38], (zsh ++ vs, p1, ml, (zmr (zup g 38 3 (g 1 3))))) rfl ?_
          refine Wp.call (as := [.ref 38]) (rest := []) rfl rfl rfl rfl rfl (Nat.le_of_ble_eq_true rfl) (Nat.le_of_ble_eq_true rfl) rfl (by decide) (c_kept_38 k2.2.1 h6) ?_
          rintro _ _ ⟨rfl, rfl⟩
          refine Wp.run 1 (153, [(5, .ref 38), (4, .int 0), (3, .int 0), (0, .ref 0), (1, .int (nI t)), (2, .int 0)], [.int (zor (sungF (p1 38 2 ^^^ -1) (p1 42)) n)], (zsh ++ vs, p1, ml, (zmr (zup g 38 3 (g 1 3))))) rfl ?_
          refine Wp.ret rfl rfl rfl ?_
          exact ⟨congrArg (fun z => some (Value.int z)) (k2.kept), _, _, rfl, SC.frB k1, zup38⟩
        · intro m g' I' e67 S
          rw [← e67]
          refine ((m_on0 I'.re ht (by omega)).weak ?_).deep (by decide)
          rintro _ _ ⟨rfl, p1, rfl, k⟩
          exact ⟨rfl, p1, rfl, k.sc⟩
      · refine SIM.q I (x := sacksN (daysN (smV VD) (anV VD) (mi 67) n dd t) n) (dc := 7) (dm := 27) (by decide) (by decide) ?_ ?_
        · refine Wp.run 17 (82, [(4, .int 0), (3, .int 0), (0, .ref 0), (1, .int (nI t)), (2, .int 1)], [.int 60, .int (nI t)], (zsh ++ vs, mi, ml, (zmr g))) rfl ?_
          refine Wp.call (as := [.int (nI t), .int 60]) (rest := []) rfl rfl rfl rfl rfl (Nat.le_of_ble_eq_true rfl) (Nat.le_of_ble_eq_true rfl) rfl (by decide) (c_within_t ht9) ?_
          rintro _ _ ⟨rfl, rfl⟩
          refine Wp.run 6 (100, [(4, .int 0), (3, .int 0), (0, .ref 0), (1, .int (nI t)), (2, .int 1)], [.int (nI t), .ref 1, .ref 37], (zsh ++ vs, mi, ml, (zmr g))) rfl ?_
          refine Wp.call (as := [.ref 37, .ref 1, .int (nI t)]) (rest := []) rfl rfl rfl rfl rfl (Nat.le_of_ble_eq_true rfl) (Nat.le_of_ble_eq_true rfl) rfl (by decide) (c_after (t := t) (I.ce (E := E)).1 (I.ce (E := E)).2.1 (I.ce (E := E)).2.2.1 (I.ce (E := E)).2.2.2.1 (I.ce (E := E)).2.2.2.2 B (by omega)) ?_
          rintro _ _ ⟨rfl, p1, rfl, k1, k2⟩
          refine Wp.run 8 (150, [(5, .ref 38), (4, .int 0), (3, .int 0), (0, .ref 0), (1, .int (nI t)), (2, .int 1)], [.ref 38], (zsh ++ vs, p1, ml, (zmr (zup g 38 3 (g 1 3))))) rfl ?_
          refine Wp.call (as := [.ref 38]) (rest := []) rfl rfl rfl rfl rfl (Nat.le_of_ble_eq_true rfl) (Nat.le_of_ble_eq_true rfl) rfl (by decide) (c_sacks_38 k2.2.1 h6) ?_
          rintro _ _ ⟨rfl, rfl⟩
          refine Wp.run 0 (153, [(5, .ref 38), (4, .int 0), (3, .int 0), (0, .ref 0), (1, .int (nI t)), (2, .int 1)], [.int (zsum (fun p => (zor (sungF (p1 38 2 ^^^ -1) (p1 42)) n >>> (nI p &&& 31) &&& 1) * p1 39 p) 8)], (zsh ++ vs, p1, ml, (zmr (zup g 38 3 (g 1 3))))) rfl ?_
          refine Wp.ret rfl rfl rfl ?_
          exact ⟨congrArg (fun z => some (Value.int z)) (by rw [show zor (sungF (p1 38 2 ^^^ -1) (p1 42)) n = _ from k2.kept]; exact k2.sacks _), _, _, rfl, SC.frB k1, zup38⟩
        · intro m g' I' e67 S
          rw [← e67]
          refine ((m_on1 I'.re ht (by omega)).weak ?_).deep (by decide)
          rintro _ _ ⟨rfl, p1, rfl, k⟩
          exact ⟨rfl, p1, rfl, k.sc⟩
    by_cases h10 : one n (w - 10)
    · obtain ⟨i, hi, e⟩ := h10
      obtain rfl : w = nI (10 + i) := w_of (a := 10) e
      have hi9 : one n (nI i) := ⟨i, hi, rfl⟩
      refine SIM.q I (x := uN (daysN (smV VD) (anV VD) (mi 67) n dd t) i 3) (dc := 7) (dm := 27) (by decide) (by decide) ?_ ?_
      · refine Wp.run 2 (3, [(0, .ref 0), (1, .int (nI t)), (2, .int (nI (10 + i)))], [.int 10, .int (nI (10 + i))], (zsh ++ vs, mi, ml, (zmr g))) rfl ?_
        refine Wp.icmp_lt rfl (fun h1 => ?_) (fun h1 => ?_)
        · exact absurd h1 (nI_nlt (b := 10) (by omega) (by omega))
        · refine Wp.run 2 (9, [(0, .ref 0), (1, .int (nI t)), (2, .int (nI (10 + i)))], [.int 20, .int (nI (10 + i))], (zsh ++ vs, mi, ml, (zmr g))) rfl ?_
          refine Wp.icmp_ge rfl (fun h2 => ?_) (fun h2 => ?_)
          · exact absurd h2 (nI_ge (b := 20) (by omega) (by decide))
          · refine Wp.run 5 (20, [(0, .ref 0), (1, .int (nI t)), (2, .int (nI (10 + i)))], [.int ((nI (10 + i)) - 10), .ref 1], (zsh ++ vs, mi, ml, (zmr g))) rfl ?_
            refine Wp.topi (y := nI i) (nI_sub) ?_
            refine Wp.run 0 (20, [(0, .ref 0), (1, .int (nI t)), (2, .int (nI (10 + i)))], [.int (nI i), .ref 1], (zsh ++ vs, mi, ml, (zmr g))) rfl ?_
            refine Wp.call (as := [.ref 1, .int (nI i)]) (rest := []) rfl rfl rfl rfl rfl (Nat.le_of_ble_eq_true rfl) (Nat.le_of_ble_eq_true rfl) rfl (by decide) (c_has_t (mi := mi) hn h6 hi9) ?_
            rintro _ _ ⟨rfl, rfl⟩
            refine Wp.run 6 (35, [(3, .int 1), (0, .ref 0), (1, .int (nI t)), (2, .int (nI (10 + i)))], [.int 20, .int (nI (10 + i))], (zsh ++ vs, mi, ml, (zmr g))) rfl ?_
            refine Wp.icmp_lt rfl (fun h3 => ?_) (fun h3 => ?_)
            · refine Wp.run 3 (60, [(4, .int 0), (3, .int 1), (0, .ref 0), (1, .int (nI t)), (2, .int (nI (10 + i)))], [.int (nI (10 + i))], (zsh ++ vs, mi, ml, (zmr g))) rfl ?_
              refine Wp.if_eq rfl (fun h4 => ?_) (fun h4 => ?_)
              · exact absurd h4 (nI_ne0 (by omega) (by omega))
              · refine Wp.run 2 (65, [(4, .int 0), (3, .int 1), (0, .ref 0), (1, .int (nI t)), (2, .int (nI (10 + i)))], [.int 1, .int (nI (10 + i))], (zsh ++ vs, mi, ml, (zmr g))) rfl ?_
                refine Wp.icmp_eq rfl (fun h5 => ?_) (fun h5 => ?_)
                · exact absurd ((nI_eq (b := 1) (by omega) (by decide)).mp h5) (by omega)
                · refine Wp.run 4 (82, [(4, .int 0), (3, .int 1), (0, .ref 0), (1, .int (nI t)), (2, .int (nI (10 + i)))], [.int 60, .int (nI t)], (zsh ++ vs, mi, ml, (zmr g))) rfl ?_
                  refine Wp.call (as := [.int (nI t), .int 60]) (rest := []) rfl rfl rfl rfl rfl (Nat.le_of_ble_eq_true rfl) (Nat.le_of_ble_eq_true rfl) rfl (by decide) (c_within_t ht9) ?_
                  rintro _ _ ⟨rfl, rfl⟩
                  refine Wp.run 6 (100, [(4, .int 0), (3, .int 1), (0, .ref 0), (1, .int (nI t)), (2, .int (nI (10 + i)))], [.int (nI t), .ref 1, .ref 37], (zsh ++ vs, mi, ml, (zmr g))) rfl ?_
                  refine Wp.call (as := [.ref 37, .ref 1, .int (nI t)]) (rest := []) rfl rfl rfl rfl rfl (Nat.le_of_ble_eq_true rfl) (Nat.le_of_ble_eq_true rfl) rfl (by decide) (c_after (t := t) (I.ce (E := E)).1 (I.ce (E := E)).2.1 (I.ce (E := E)).2.2.1 (I.ce (E := E)).2.2.2.1 (I.ce (E := E)).2.2.2.2 B (by omega)) ?_
                  rintro _ _ ⟨rfl, p1, rfl, k1, k2⟩
                  refine Wp.run 8 (118, [(5, .ref 38), (4, .int 0), (3, .int 1), (0, .ref 0), (1, .int (nI t)), (2, .int (nI (10 + i)))], [.int ((nI (10 + i)) - 10), .ref 43], (zsh ++ vs, p1, ml, (zmr (zup g 38 3 (g 1 3))))) rfl ?_
                  refine Wp.topi (y := nI i) (nI_sub) ?_
                  refine Wp.ialn rfl (by decide) rfl (by omega) (by decide) ?_
                  refine Wp.run 0 (119, [(5, .ref 38), (4, .int 0), (3, .int 1), (0, .ref 0), (1, .int (nI t)), (2, .int (nI (10 + i)))], [.int (p1 43 i)], (zsh ++ vs, p1, ml, (zmr (zup g 38 3 (g 1 3))))) rfl ?_
                  refine Wp.ret rfl rfl rfl ?_
                  exact ⟨congrArg (fun z => some (Value.int z)) ((show p1 43 i = _ from k2.2.2.2.2.1 i hi 3 (by decide))), _, _, rfl, SC.frB k1, zup38⟩
            · exact absurd (nI_lt (b := 20) (by omega) (by decide)) h3
      · intro m g' I' e67 S
        rw [← e67]
        refine ((m_on10 I'.re ht (by omega) hi).weak ?_).deep (by decide)
        rintro _ _ ⟨rfl, p1, rfl, k⟩
        exact ⟨rfl, p1, rfl, k.sc⟩
    by_cases h20 : one n (w - 20)
    · obtain ⟨i, hi, e⟩ := h20
      obtain rfl : w = nI (20 + i) := w_of (a := 20) e
      have hi9 : one n (nI i) := ⟨i, hi, rfl⟩
      have h10f : ¬ one n (nI (10 + i)) := by
        rintro ⟨j, hj, e⟩
        have := (nI_eq (by omega) (by omega)).mp e
        omega
      refine SIM.q I (x := uN (daysN (smV VD) (anV VD) (mi 67) n dd t) i 2) (dc := 7) (dm := 27) (by decide) (by decide) ?_ ?_
      · refine Wp.run 2 (3, [(0, .ref 0), (1, .int (nI t)), (2, .int (nI (20 + i)))], [.int 10, .int (nI (20 + i))], (zsh ++ vs, mi, ml, (zmr g))) rfl ?_
        refine Wp.icmp_lt rfl (fun h1 => ?_) (fun h1 => ?_)
        · exact absurd h1 (nI_nlt (b := 10) (by omega) (by omega))
        · refine Wp.run 2 (9, [(0, .ref 0), (1, .int (nI t)), (2, .int (nI (20 + i)))], [.int 20, .int (nI (20 + i))], (zsh ++ vs, mi, ml, (zmr g))) rfl ?_
          refine Wp.icmp_ge rfl (fun h2 => ?_) (fun h2 => ?_)
          · refine Wp.run 4 (35, [(3, .int 0), (0, .ref 0), (1, .int (nI t)), (2, .int (nI (20 + i)))], [.int 20, .int (nI (20 + i))], (zsh ++ vs, mi, ml, (zmr g))) rfl ?_
            refine Wp.icmp_lt rfl (fun h3 => ?_) (fun h3 => ?_)
            · exact absurd h3 (nI_nlt (b := 20) (by omega) (by omega))
            · refine Wp.run 5 (46, [(3, .int 0), (0, .ref 0), (1, .int (nI t)), (2, .int (nI (20 + i)))], [.int ((nI (20 + i)) - 20), .ref 1], (zsh ++ vs, mi, ml, (zmr g))) rfl ?_
              refine Wp.topi (y := nI i) (nI_sub) ?_
              refine Wp.run 0 (46, [(3, .int 0), (0, .ref 0), (1, .int (nI t)), (2, .int (nI (20 + i)))], [.int (nI i), .ref 1], (zsh ++ vs, mi, ml, (zmr g))) rfl ?_
              refine Wp.call (as := [.ref 1, .int (nI i)]) (rest := []) rfl rfl rfl rfl rfl (Nat.le_of_ble_eq_true rfl) (Nat.le_of_ble_eq_true rfl) rfl (by decide) (c_has_t (mi := mi) hn h6 hi9) ?_
              rintro _ _ ⟨rfl, rfl⟩
              refine Wp.run 5 (60, [(4, .int 1), (3, .int 0), (0, .ref 0), (1, .int (nI t)), (2, .int (nI (20 + i)))], [.int (nI (20 + i))], (zsh ++ vs, mi, ml, (zmr g))) rfl ?_
              refine Wp.if_eq rfl (fun h4 => ?_) (fun h4 => ?_)
              · exact absurd h4 (nI_ne0 (by omega) (by omega))
              · refine Wp.run 2 (65, [(4, .int 1), (3, .int 0), (0, .ref 0), (1, .int (nI t)), (2, .int (nI (20 + i)))], [.int 1, .int (nI (20 + i))], (zsh ++ vs, mi, ml, (zmr g))) rfl ?_
                refine Wp.icmp_eq rfl (fun h5 => ?_) (fun h5 => ?_)
                · exact absurd ((nI_eq (b := 1) (by omega) (by decide)).mp h5) (by omega)
                · refine Wp.run 6 (82, [(4, .int 1), (3, .int 0), (0, .ref 0), (1, .int (nI t)), (2, .int (nI (20 + i)))], [.int 60, .int (nI t)], (zsh ++ vs, mi, ml, (zmr g))) rfl ?_
                  refine Wp.call (as := [.int (nI t), .int 60]) (rest := []) rfl rfl rfl rfl rfl (Nat.le_of_ble_eq_true rfl) (Nat.le_of_ble_eq_true rfl) rfl (by decide) (c_within_t ht9) ?_
                  rintro _ _ ⟨rfl, rfl⟩
                  refine Wp.run 6 (100, [(4, .int 1), (3, .int 0), (0, .ref 0), (1, .int (nI t)), (2, .int (nI (20 + i)))], [.int (nI t), .ref 1, .ref 37], (zsh ++ vs, mi, ml, (zmr g))) rfl ?_
                  refine Wp.call (as := [.ref 37, .ref 1, .int (nI t)]) (rest := []) rfl rfl rfl rfl rfl (Nat.le_of_ble_eq_true rfl) (Nat.le_of_ble_eq_true rfl) rfl (by decide) (c_after (t := t) (I.ce (E := E)).1 (I.ce (E := E)).2.1 (I.ce (E := E)).2.2.1 (I.ce (E := E)).2.2.2.1 (I.ce (E := E)).2.2.2.2 B (by omega)) ?_
                  rintro _ _ ⟨rfl, p1, rfl, k1, k2⟩
                  refine Wp.run 10 (134, [(5, .ref 38), (4, .int 1), (3, .int 0), (0, .ref 0), (1, .int (nI t)), (2, .int (nI (20 + i)))], [.int ((nI (20 + i)) - 20), .ref 42], (zsh ++ vs, p1, ml, (zmr (zup g 38 3 (g 1 3))))) rfl ?_
                  refine Wp.topi (y := nI i) (nI_sub) ?_
                  refine Wp.ialn rfl (by decide) rfl (by omega) (by decide) ?_
                  refine Wp.run 0 (135, [(5, .ref 38), (4, .int 1), (3, .int 0), (0, .ref 0), (1, .int (nI t)), (2, .int (nI (20 + i)))], [.int (p1 42 i)], (zsh ++ vs, p1, ml, (zmr (zup g 38 3 (g 1 3))))) rfl ?_
                  refine Wp.ret rfl rfl rfl ?_
                  exact ⟨congrArg (fun z => some (Value.int z)) ((show p1 42 i = _ from k2.2.2.2.2.1 i hi 2 (by decide))), _, _, rfl, SC.frB k1, zup38⟩
          · exact absurd (nI_le (a := 20) (by omega) (by omega)) h2
      · intro m g' I' e67 S
        rw [← e67]
        refine ((m_on20 I'.re ht (by omega) hi).weak ?_).deep (by decide)
        rintro _ _ ⟨rfl, p1, rfl, k⟩
        exact ⟨rfl, p1, rfl, k.sc⟩
    refine SIM.q I (x := -1) (dc := 7) (dm := 27) (by decide) (by decide) ?_ ?_
    · refine Wp.run 2 (3, [(0, .ref 0), (1, .int (nI t)), (2, .int w)], [.int 10, .int w], (zsh ++ vs, mi, ml, (zmr g))) rfl ?_
      refine Wp.icmp_lt rfl (fun h1 => ?_) (fun h1 => ?_)
      · refine Wp.run 4 (35, [(3, .int 0), (0, .ref 0), (1, .int (nI t)), (2, .int w)], [.int 20, .int w], (zsh ++ vs, mi, ml, (zmr g))) rfl ?_
        refine Wp.icmp_lt rfl (fun h2 => ?_) (fun h2 => ?_)
        · refine Wp.run 3 (60, [(4, .int 0), (3, .int 0), (0, .ref 0), (1, .int (nI t)), (2, .int w)], [.int w], (zsh ++ vs, mi, ml, (zmr g))) rfl ?_
          refine Wp.if_eq rfl (fun h3 => ?_) (fun h3 => ?_)
          · exact absurd (show 0 ≤ w ∧ w ≤ 1 by rw [h3]; decide) h0
          · refine Wp.run 2 (65, [(4, .int 0), (3, .int 0), (0, .ref 0), (1, .int (nI t)), (2, .int w)], [.int 1, .int w], (zsh ++ vs, mi, ml, (zmr g))) rfl ?_
            refine Wp.icmp_eq rfl (fun h4 => ?_) (fun h4 => ?_)
            · exact absurd (show 0 ≤ w ∧ w ≤ 1 by rw [h4]; decide) h0
            · refine Wp.run 5 (78, [(4, .int 0), (3, .int 0), (0, .ref 0), (1, .int (nI t)), (2, .int w)], [.int (-1)], (zsh ++ vs, mi, ml, (zmr g))) rfl ?_
              refine Wp.ret rfl rfl rfl ?_
              exact ⟨rfl, _, _, rfl, SC.rf, fun _ _ _ => rfl⟩
        · refine Wp.run 5 (46, [(3, .int 0), (0, .ref 0), (1, .int (nI t)), (2, .int w)], [.int (w - 20), .ref 1], (zsh ++ vs, mi, ml, (zmr g))) rfl ?_
          refine Wp.call (as := [.ref 1, .int (w - 20)]) (rest := []) rfl rfl rfl rfl rfl (Nat.le_of_ble_eq_true rfl) (Nat.le_of_ble_eq_true rfl) rfl (by decide) (c_has_f (mi := mi) hn h6 h20) ?_
          rintro _ _ ⟨rfl, rfl⟩
          refine Wp.run 4 (60, [(4, .int 0), (3, .int 0), (0, .ref 0), (1, .int (nI t)), (2, .int w)], [.int w], (zsh ++ vs, mi, ml, (zmr g))) rfl ?_
          refine Wp.if_eq rfl (fun h5 => ?_) (fun h5 => ?_)
          · exact absurd (show 0 ≤ w ∧ w ≤ 1 by rw [h5]; decide) h0
          · refine Wp.run 2 (65, [(4, .int 0), (3, .int 0), (0, .ref 0), (1, .int (nI t)), (2, .int w)], [.int 1, .int w], (zsh ++ vs, mi, ml, (zmr g))) rfl ?_
            refine Wp.icmp_eq rfl (fun h6 => ?_) (fun h6 => ?_)
            · exact absurd (show 0 ≤ w ∧ w ≤ 1 by rw [h6]; decide) h0
            · refine Wp.run 5 (78, [(4, .int 0), (3, .int 0), (0, .ref 0), (1, .int (nI t)), (2, .int w)], [.int (-1)], (zsh ++ vs, mi, ml, (zmr g))) rfl ?_
              refine Wp.ret rfl rfl rfl ?_
              exact ⟨rfl, _, _, rfl, SC.rf, fun _ _ _ => rfl⟩
      · refine Wp.run 2 (9, [(0, .ref 0), (1, .int (nI t)), (2, .int w)], [.int 20, .int w], (zsh ++ vs, mi, ml, (zmr g))) rfl ?_
        refine Wp.icmp_ge rfl (fun h7 => ?_) (fun h7 => ?_)
        · refine Wp.run 4 (35, [(3, .int 0), (0, .ref 0), (1, .int (nI t)), (2, .int w)], [.int 20, .int w], (zsh ++ vs, mi, ml, (zmr g))) rfl ?_
          refine Wp.icmp_lt rfl (fun h8 => ?_) (fun h8 => ?_)
          · refine Wp.run 3 (60, [(4, .int 0), (3, .int 0), (0, .ref 0), (1, .int (nI t)), (2, .int w)], [.int w], (zsh ++ vs, mi, ml, (zmr g))) rfl ?_
            refine Wp.if_eq rfl (fun h9 => ?_) (fun h9 => ?_)
            · exact absurd (show 0 ≤ w ∧ w ≤ 1 by rw [h9]; decide) h0
            · refine Wp.run 2 (65, [(4, .int 0), (3, .int 0), (0, .ref 0), (1, .int (nI t)), (2, .int w)], [.int 1, .int w], (zsh ++ vs, mi, ml, (zmr g))) rfl ?_
              refine Wp.icmp_eq rfl (fun h10 => ?_) (fun h10 => ?_)
              · exact absurd (show 0 ≤ w ∧ w ≤ 1 by rw [h10]; decide) h0
              · refine Wp.run 5 (78, [(4, .int 0), (3, .int 0), (0, .ref 0), (1, .int (nI t)), (2, .int w)], [.int (-1)], (zsh ++ vs, mi, ml, (zmr g))) rfl ?_
                refine Wp.ret rfl rfl rfl ?_
                exact ⟨rfl, _, _, rfl, SC.rf, fun _ _ _ => rfl⟩
          · refine Wp.run 5 (46, [(3, .int 0), (0, .ref 0), (1, .int (nI t)), (2, .int w)], [.int (w - 20), .ref 1], (zsh ++ vs, mi, ml, (zmr g))) rfl ?_
            refine Wp.call (as := [.ref 1, .int (w - 20)]) (rest := []) rfl rfl rfl rfl rfl (Nat.le_of_ble_eq_true rfl) (Nat.le_of_ble_eq_true rfl) rfl (by decide) (c_has_f (mi := mi) hn h6 h20) ?_
            rintro _ _ ⟨rfl, rfl⟩
            refine Wp.run 4 (60, [(4, .int 0), (3, .int 0), (0, .ref 0), (1, .int (nI t)), (2, .int w)], [.int w], (zsh ++ vs, mi, ml, (zmr g))) rfl ?_
            refine Wp.if_eq rfl (fun h11 => ?_) (fun h11 => ?_)
            · exact absurd (show 0 ≤ w ∧ w ≤ 1 by rw [h11]; decide) h0
            · refine Wp.run 2 (65, [(4, .int 0), (3, .int 0), (0, .ref 0), (1, .int (nI t)), (2, .int w)], [.int 1, .int w], (zsh ++ vs, mi, ml, (zmr g))) rfl ?_
              refine Wp.icmp_eq rfl (fun h12 => ?_) (fun h12 => ?_)
              · exact absurd (show 0 ≤ w ∧ w ≤ 1 by rw [h12]; decide) h0
              · refine Wp.run 5 (78, [(4, .int 0), (3, .int 0), (0, .ref 0), (1, .int (nI t)), (2, .int w)], [.int (-1)], (zsh ++ vs, mi, ml, (zmr g))) rfl ?_
                refine Wp.ret rfl rfl rfl ?_
                exact ⟨rfl, _, _, rfl, SC.rf, fun _ _ _ => rfl⟩
        · refine Wp.run 5 (20, [(0, .ref 0), (1, .int (nI t)), (2, .int w)], [.int (w - 10), .ref 1], (zsh ++ vs, mi, ml, (zmr g))) rfl ?_
          refine Wp.call (as := [.ref 1, .int (w - 10)]) (rest := []) rfl rfl rfl rfl rfl (Nat.le_of_ble_eq_true rfl) (Nat.le_of_ble_eq_true rfl) rfl (by decide) (c_has_f (mi := mi) hn h6 h10) ?_
          rintro _ _ ⟨rfl, rfl⟩
          refine Wp.run 5 (35, [(3, .int 0), (0, .ref 0), (1, .int (nI t)), (2, .int w)], [.int 20, .int w], (zsh ++ vs, mi, ml, (zmr g))) rfl ?_
          refine Wp.icmp_lt rfl (fun h13 => ?_) (fun h13 => ?_)
          · refine Wp.run 3 (60, [(4, .int 0), (3, .int 0), (0, .ref 0), (1, .int (nI t)), (2, .int w)], [.int w], (zsh ++ vs, mi, ml, (zmr g))) rfl ?_
            refine Wp.if_eq rfl (fun h14 => ?_) (fun h14 => ?_)
            · exact absurd (show 0 ≤ w ∧ w ≤ 1 by rw [h14]; decide) h0
            · refine Wp.run 2 (65, [(4, .int 0), (3, .int 0), (0, .ref 0), (1, .int (nI t)), (2, .int w)], [.int 1, .int w], (zsh ++ vs, mi, ml, (zmr g))) rfl ?_
              refine Wp.icmp_eq rfl (fun h15 => ?_) (fun h15 => ?_)
              · exact absurd (show 0 ≤ w ∧ w ≤ 1 by rw [h15]; decide) h0
              · refine Wp.run 5 (78, [(4, .int 0), (3, .int 0), (0, .ref 0), (1, .int (nI t)), (2, .int w)], [.int (-1)], (zsh ++ vs, mi, ml, (zmr g))) rfl ?_
                refine Wp.ret rfl rfl rfl ?_
                exact ⟨rfl, _, _, rfl, SC.rf, fun _ _ _ => rfl⟩
          · refine Wp.run 5 (46, [(3, .int 0), (0, .ref 0), (1, .int (nI t)), (2, .int w)], [.int (w - 20), .ref 1], (zsh ++ vs, mi, ml, (zmr g))) rfl ?_
            refine Wp.call (as := [.ref 1, .int (w - 20)]) (rest := []) rfl rfl rfl rfl rfl (Nat.le_of_ble_eq_true rfl) (Nat.le_of_ble_eq_true rfl) rfl (by decide) (c_has_f (mi := mi) hn h6 h20) ?_
            rintro _ _ ⟨rfl, rfl⟩
            refine Wp.run 4 (60, [(4, .int 0), (3, .int 0), (0, .ref 0), (1, .int (nI t)), (2, .int w)], [.int w], (zsh ++ vs, mi, ml, (zmr g))) rfl ?_
            refine Wp.if_eq rfl (fun h16 => ?_) (fun h16 => ?_)
            · exact absurd (show 0 ≤ w ∧ w ≤ 1 by rw [h16]; decide) h0
            · refine Wp.run 2 (65, [(4, .int 0), (3, .int 0), (0, .ref 0), (1, .int (nI t)), (2, .int w)], [.int 1, .int w], (zsh ++ vs, mi, ml, (zmr g))) rfl ?_
              refine Wp.icmp_eq rfl (fun h17 => ?_) (fun h17 => ?_)
              · exact absurd (show 0 ≤ w ∧ w ≤ 1 by rw [h17]; decide) h0
              · refine Wp.run 5 (78, [(4, .int 0), (3, .int 0), (0, .ref 0), (1, .int (nI t)), (2, .int w)], [.int (-1)], (zsh ++ vs, mi, ml, (zmr g))) rfl ?_
                refine Wp.ret rfl rfl rfl ?_
                exact ⟨rfl, _, _, rfl, SC.rf, fun _ _ _ => rfl⟩
    · intro m g' I' e67 S
      have B' := I'.1.1
      have hn' := B'.2.1
      have hN' := B'.1.1
      have hd' := B'.1.2.2.1
      refine Wp.run 3 (3, [(0, .ref 66), (1, .int (nI t)), (2, .int w)], [.int 1, .int 0, .int w], (zsh ++ vs, m, ml, (zmr g'))) rfl ?_
      refine Wp.call (as := [.int w, .int 0, .int 1]) (rest := []) rfl rfl rfl rfl rfl (Nat.le_of_ble_eq_true rfl) (Nat.le_of_ble_eq_true rfl) rfl (by decide) (m_isIn_f h0) ?_
      rintro _ _ ⟨rfl, rfl⟩
      refine Wp.run 5 (14, [(0, .ref 66), (1, .int (nI t)), (2, .int w)], [.int (w - 10), .ref 66], (zsh ++ vs, m, ml, (zmr g'))) rfl ?_
      refine Wp.call (as := [.ref 66, .int (w - 10)]) (rest := []) rfl rfl rfl rfl rfl (Nat.le_of_ble_eq_true rfl) (Nat.le_of_ble_eq_true rfl) rfl (by decide) (m_isOne_f (mi := m) hN' h6 h10) ?_
      rintro _ _ ⟨rfl, rfl⟩
      refine Wp.run 5 (25, [(0, .ref 66), (1, .int (nI t)), (2, .int w)], [.int (w - 20), .ref 66], (zsh ++ vs, m, ml, (zmr g'))) rfl ?_
      refine Wp.call (as := [.ref 66, .int (w - 20)]) (rest := []) rfl rfl rfl rfl rfl (Nat.le_of_ble_eq_true rfl) (Nat.le_of_ble_eq_true rfl) rfl (by decide) (m_isOne_f (mi := m) hN' h6 h20) ?_
      rintro _ _ ⟨rfl, rfl⟩
      refine Wp.run 2 (32, [(0, .ref 66), (1, .int (nI t)), (2, .int w)], [.int (-1)], (zsh ++ vs, m, ml, (zmr g'))) rfl ?_
      refine Wp.ret rfl rfl rfl ?_
      exact ⟨rfl, _, rfl, SC.rf⟩
  · by_cases h0 : 0 ≤ w ∧ w ≤ 1
    · obtain ⟨q, hq, rfl⟩ := rng_of (h := 1) rfl h0
      rcases (show q = 0 ∨ q = 1 by omega) with rfl | rfl
      · refine SIM.q I (x := -2) (dc := 7) (dm := 27) (by decide) (by decide) ?_ ?_
        · refine Wp.run 14 (82, [(4, .int 0), (3, .int 0), (0, .ref 0), (1, .int t9), (2, .int 0)], [.int 60, .int t9], (zsh ++ vs, mi, ml, (zmr g))) rfl ?_
          refine Wp.call (as := [.int t9, .int 60]) (rest := []) rfl rfl rfl rfl rfl (Nat.le_of_ble_eq_true rfl) (Nat.le_of_ble_eq_true rfl) rfl (by decide) (c_within_f ht9) ?_
          rintro _ _ ⟨rfl, rfl⟩
          refine Wp.run 2 (90, [(4, .int 0), (3, .int 0), (0, .ref 0), (1, .int t9), (2, .int 0)], [.int (-2)], (zsh ++ vs, mi, ml, (zmr g))) rfl ?_
          refine Wp.ret rfl rfl rfl ?_
          exact ⟨rfl, _, _, rfl, SC.rf, fun _ _ _ => rfl⟩
        · intro m g' I' e67 S
          have B' := I'.1.1
          have hn' := B'.2.1
          have hN' := B'.1.1
          have hd' := B'.1.2.2.1
          refine Wp.run 3 (3, [(0, .ref 66), (1, .int t9), (2, .int 0)], [.int 1, .int 0, .int 0], (zsh ++ vs, m, ml, (zmr g'))) rfl ?_
          refine Wp.call (as := [.int 0, .int 0, .int 1]) (rest := []) rfl rfl rfl rfl rfl (Nat.le_of_ble_eq_true rfl) (Nat.le_of_ble_eq_true rfl) rfl (by decide) (m_isIn_t h0) ?_
          rintro _ _ ⟨rfl, rfl⟩
          refine Wp.run 4 (37, [(0, .ref 66), (1, .int t9), (2, .int 0)], [.int 60, .int 0, .int t9], (zsh ++ vs, m, ml, (zmr g'))) rfl ?_
          refine Wp.call (as := [.int t9, .int 0, .int 60]) (rest := []) rfl rfl rfl rfl rfl (Nat.le_of_ble_eq_true rfl) (Nat.le_of_ble_eq_true rfl) rfl (by decide) (m_isIn_f ht9) ?_
          rintro _ _ ⟨rfl, rfl⟩
          refine Wp.run 2 (45, [(0, .ref 66), (1, .int t9), (2, .int 0)], [.int (-2)], (zsh ++ vs, m, ml, (zmr g'))) rfl ?_
          refine Wp.ret rfl rfl rfl ?_
          exact ⟨rfl, _, rfl, SC.rf⟩
      · refine SIM.q I (x := -2) (dc := 7) (dm := 27) (by decide) (by decide) ?_ ?_
        · refine Wp.run 17 (82, [(4, .int 0), (3, .int 0), (0, .ref 0), (1, .int t9), (2, .int 1)], [.int 60, .int t9], (zsh ++ vs, mi, ml, (zmr g))) rfl ?_
          refine Wp.call (as := [.int t9, .int 60]) (rest := []) rfl rfl rfl rfl rfl (Nat.le_of_ble_eq_true rfl) (Nat.le_of_ble_eq_true rfl) rfl (by decide) (c_within_f ht9) ?_
          rintro _ _ ⟨rfl, rfl⟩
          refine Wp.run 2 (90, [(4, .int 0), (3, .int 0), (0, .ref 0), (1, .int t9), (2, .int 1)], [.int (-2)], (zsh ++ vs, mi, ml, (zmr g))) rfl ?_
          refine Wp.ret rfl rfl rfl ?_
          exact ⟨rfl, _, _, rfl, SC.rf, fun _ _ _ => rfl⟩
        · intro m g' I' e67 S
          have B' := I'.1.1
          have hn' := B'.2.1
          have hN' := B'.1.1
          have hd' := B'.1.2.2.1
          refine Wp.run 3 (3, [(0, .ref 66), (1, .int t9), (2, .int 1)], [.int 1, .int 0, .int 1], (zsh ++ vs, m, ml, (zmr g'))) rfl ?_
          refine Wp.call (as := [.int 1, .int 0, .int 1]) (rest := []) rfl rfl rfl rfl rfl (Nat.le_of_ble_eq_true rfl) (Nat.le_of_ble_eq_true rfl) rfl (by decide) (m_isIn_t h0) ?_
          rintro _ _ ⟨rfl, rfl⟩
          refine Wp.run 4 (37, [(0, .ref 66), (1, .int t9), (2, .int 1)], [.int 60, .int 0, .int t9], (zsh ++ vs, m, ml, (zmr g'))) rfl ?_
          refine Wp.call (as := [.int t9, .int 0, .int 60]) (rest := []) rfl rfl rfl rfl rfl (Nat.le_of_ble_eq_true rfl) (Nat.le_of_ble_eq_true rfl) rfl (by decide) (m_isIn_f ht9) ?_
          rintro _ _ ⟨rfl, rfl⟩
          refine Wp.run 2 (45, [(0, .ref 66), (1, .int t9), (2, .int 1)], [.int (-2)], (zsh ++ vs, m, ml, (zmr g'))) rfl ?_
          refine Wp.ret rfl rfl rfl ?_
          exact ⟨rfl, _, rfl, SC.rf⟩
    by_cases h10 : one n (w - 10)
    · obtain ⟨i, hi, e⟩ := h10
      obtain rfl : w = nI (10 + i) := w_of (a := 10) e
      have hi9 : one n (nI i) := ⟨i, hi, rfl⟩
      refine SIM.q I (x := -2) (dc := 7) (dm := 27) (by decide) (by decide) ?_ ?_
      · refine Wp.run 2 (3, [(0, .ref 0), (1, .int t9), (2, .int (nI (10 + i)))], [.int 10, .int (nI (10 + i))], (zsh ++ vs, mi, ml, (zmr g))) rfl ?_
        refine Wp.icmp_lt rfl (fun h1 => ?_) (fun h1 => ?_)
        · exact absurd h1 (nI_nlt (b := 10) (by omega) (by omega))
        · refine Wp.run 2 (9, [(0, .ref 0), (1, .int t9), (2, .int (nI (10 + i)))], [.int 20, .int (nI (10 + i))], (zsh ++ vs, mi, ml, (zmr g))) rfl ?_
          refine Wp.icmp_ge rfl (fun h2 => ?_) (fun h2 => ?_)
          · exact absurd h2 (nI_ge (b := 20) (by omega) (by decide))
          · refine Wp.run 5 (20, [(0, .ref 0), (1, .int t9), (2, .int (nI (10 + i)))], [.int ((nI (10 + i)) - 10), .ref 1], (zsh ++ vs, mi, ml, (zmr g))) rfl ?_
            refine Wp.topi (y := nI i) (nI_sub) ?_
            refine Wp.run 0 (20, [(0, .ref 0), (1, .int t9), (2, .int (nI (10 + i)))], [.int (nI i), .ref 1], (zsh ++ vs, mi, ml, (zmr g))) rfl ?_
            refine Wp.call (as := [.ref 1, .int (nI i)]) (rest := []) rfl rfl rfl rfl rfl (Nat.le_of_ble_eq_true rfl) (Nat.le_of_ble_eq_true rfl) rfl (by decide) (c_has_t (mi := mi) hn h6 hi9) ?_
            rintro _ _ ⟨rfl, rfl⟩
            refine Wp.run 6 (35, [(3, .int 1), (0, .ref 0), (1, .int t9), (2, .int (nI (10 + i)))], [.int 20, .int (nI (10 + i))], (zsh ++ vs, mi, ml, (zmr g))) rfl ?_
            refine Wp.icmp_lt rfl (fun h3 => ?_) (fun h3 => ?_)
            · refine Wp.run 3 (60, [(4, .int 0), (3, .int 1), (0, .ref 0), (1, .int t9), (2, .int (nI (10 + i)))], [.int (nI (10 + i))], (zsh ++ vs, mi, ml, (zmr g))) rfl ?_
              refine Wp.if_eq rfl (fun h4 => ?_) (fun h4 => ?_)
              · exact absurd h4 (nI_ne0 (by omega) (by omega))
              · refine Wp.run 2 (65, [(4, .int 0), (3, .int 1), (0, .ref 0), (1, .int t9), (2, .int (nI (10 + i)))], [.int 1, .int (nI (10 + i))], (zsh ++ vs, mi, ml, (zmr g))) rfl ?_
                refine Wp.icmp_eq rfl (fun h5 => ?_) (fun h5 => ?_)
                · exact absurd ((nI_eq (b := 1) (by omega) (by decide)).mp h5) (by omega)
                · refine Wp.run 4 (82, [(4, .int 0), (3, .int 1), (0, .ref 0), (1, .int t9), (2, .int (nI (10 + i)))], [.int 60, .int t9], (zsh ++ vs, mi, ml, (zmr g))) rfl ?_
                  refine Wp.call (as := [.int t9, .int 60]) (rest := []) rfl rfl rfl rfl rfl (Nat.le_of_ble_eq_true rfl) (Nat.le_of_ble_eq_true rfl) rfl (by decide) (c_within_f ht9) ?_
                  rintro _ _ ⟨rfl, rfl⟩
                  refine Wp.run 2 (90, [(4, .int 0), (3, .int 1), (0, .ref 0), (1, .int t9), (2, .int (nI (10 + i)))], [.int (-2)], (zsh ++ vs, mi, ml, (zmr g))) rfl ?_
                  refine Wp.ret rfl rfl rfl ?_
                  exact ⟨rfl, _, _, rfl, SC.rf, fun _ _ _ => rfl⟩
            · exact absurd (nI_lt (b := 20) (by omega) (by decide)) h3
      · intro m g' I' e67 S
        have B' := I'.1.1
        have hn' := B'.2.1
        have hN' := B'.1.1
        have hd' := B'.1.2.2.1
        refine Wp.run 3 (3, [(0, .ref 66), (1, .int t9), (2, .int (nI (10 + i)))], [.int 1, .int 0, .int (nI (10 + i))], (zsh ++ vs, m, ml, (zmr g'))) rfl ?_
        refine Wp.call (as := [.int (nI (10 + i)), .int 0, .int 1]) (rest := []) rfl rfl rfl rfl rfl (Nat.le_of_ble_eq_true rfl) (Nat.le_of_ble_eq_true rfl) rfl (by decide) (m_isIn_f (fun z => absurd ((nI_leI (b := 1) (by omega) (by decide)).mp z.2) (by omega))) ?_
        rintro _ _ ⟨rfl, rfl⟩
        refine Wp.run 5 (14, [(0, .ref 66), (1, .int t9), (2, .int (nI (10 + i)))], [.int ((nI (10 + i)) - 10), .ref 66], (zsh ++ vs, m, ml, (zmr g'))) rfl ?_
        refine Wp.topi (y := nI i) (nI_sub) ?_
        refine Wp.run 0 (14, [(0, .ref 66), (1, .int t9), (2, .int (nI (10 + i)))], [.int (nI i), .ref 66], (zsh ++ vs, m, ml, (zmr g'))) rfl ?_
        refine Wp.call (as := [.ref 66, .int (nI i)]) (rest := []) rfl rfl rfl rfl rfl (Nat.le_of_ble_eq_true rfl) (Nat.le_of_ble_eq_true rfl) rfl (by decide) (m_isOne_t (mi := m) hN' h6 hi9) ?_
        rintro _ _ ⟨rfl, rfl⟩
        refine Wp.run 4 (37, [(0, .ref 66), (1, .int t9), (2, .int (nI (10 + i)))], [.int 60, .int 0, .int t9], (zsh ++ vs, m, ml, (zmr g'))) rfl ?_
        refine Wp.call (as := [.int t9, .int 0, .int 60]) (rest := []) rfl rfl rfl rfl rfl (Nat.le_of_ble_eq_true rfl) (Nat.le_of_ble_eq_true rfl) rfl (by decide) (m_isIn_f ht9) ?_
        rintro _ _ ⟨rfl, rfl⟩
        refine Wp.run 2 (45, [(0, .ref 66), (1, .int t9), (2, .int (nI (10 + i)))], [.int (-2)], (zsh ++ vs, m, ml, (zmr g'))) rfl ?_
        refine Wp.ret rfl rfl rfl ?_
        exact ⟨rfl, _, rfl, SC.rf⟩
    by_cases h20 : one n (w - 20)
    · obtain ⟨i, hi, e⟩ := h20
      obtain rfl : w = nI (20 + i) := w_of (a := 20) e
      have hi9 : one n (nI i) := ⟨i, hi, rfl⟩
      have h10f : ¬ one n (nI (10 + i)) := by
        rintro ⟨j, hj, e⟩
        have := (nI_eq (by omega) (by omega)).mp e
        omega
      refine SIM.q I (x := -2) (dc := 7) (dm := 27) (by decide) (by decide) ?_ ?_
      · refine Wp.run 2 (3, [(0, .ref 0), (1, .int t9), (2, .int (nI (20 + i)))], [.int 10, .int (nI (20 + i))], (zsh ++ vs, mi, ml, (zmr g))) rfl ?_
        refine Wp.icmp_lt rfl (fun h1 => ?_) (fun h1 => ?_)
        · exact absurd h1 (nI_nlt (b := 10) (by omega) (by omega))
        · refine Wp.run 2 (9, [(0, .ref 0), (1, .int t9), (2, .int (nI (20 + i)))], [.int 20, .int (nI (20 + i))], (zsh ++ vs, mi, ml, (zmr g))) rfl ?_
          refine Wp.icmp_ge rfl (fun h2 => ?_) (fun h2 => ?_)
          · refine Wp.run 4 (35, [(3, .int 0), (0, .ref 0), (1, .int t9), (2, .int (nI (20 + i)))], [.int 20, .int (nI (20 + i))], (zsh ++ vs, mi, ml, (zmr g))) rfl ?_
            refine Wp.icmp_lt rfl (fun h3 => ?_) (fun h3 => ?_)
            · exact absurd h3 (nI_nlt (b := 20) (by omega) (by omega))
            · refine Wp.run 5 (46, [(3, .int 0), (0, .ref 0), (1, .int t9), (2, .int (nI (20 + i)))], [.int ((nI (20 + i)) - 20), .ref 1], (zsh ++ vs, mi, ml, (zmr g))) rfl ?_
              refine Wp.topi (y := nI i) (nI_sub) ?_
              refine Wp.run 0 (46, [(3, .int 0), (0, .ref 0), (1, .int t9), (2, .int (nI (20 + i)))], [.int (nI i), .ref 1], (zsh ++ vs, mi, ml, (zmr g))) rfl ?_
              refine Wp.call (as := [.ref 1, .int (nI i)]) (rest := []) rfl rfl rfl rfl rfl (Nat.le_of_ble_eq_true rfl) (Nat.le_of_ble_eq_true rfl) rfl (by decide) (c_has_t (mi := mi) hn h6 hi9) ?_
              rintro _ _ ⟨rfl, rfl⟩
              refine Wp.run 5 (60, [(4, .int 1), (3, .int 0), (0, .ref 0), (1, .int t9), (2, .int (nI (20 + i)))], [.int (nI (20 + i))], (zsh ++ vs, mi, ml, (zmr g))) rfl ?_
              refine Wp.if_eq rfl (fun h4 => ?_) (fun h4 => ?_)
              · exact absurd h4 (nI_ne0 (by omega) (by omega))
              · refine Wp.run 2 (65, [(4, .int 1), (3, .int 0), (0, .ref 0), (1, .int t9), (2, .int (nI (20 + i)))], [.int 1, .int (nI (20 + i))], (zsh ++ vs, mi, ml, (zmr g))) rfl ?_
                refine Wp.icmp_eq rfl (fun h5 => ?_) (fun h5 => ?_)
                · exact absurd ((nI_eq (b := 1) (by omega) (by decide)).mp h5) (by omega)
                · refine Wp.run 6 (82, [(4, .int 1), (3, .int 0), (0, .ref 0), (1, .int t9), (2, .int (nI (20 + i)))], [.int 60, .int t9], (zsh ++ vs, mi, ml, (zmr g))) rfl ?_
                  refine Wp.call (as := [.int t9, .int 60]) (rest := []) rfl rfl rfl rfl rfl (Nat.le_of_ble_eq_true rfl) (Nat.le_of_ble_eq_true rfl) rfl (by decide) (c_within_f ht9) ?_
                  rintro _ _ ⟨rfl, rfl⟩
                  refine Wp.run 2 (90, [(4, .int 1), (3, .int 0), (0, .ref 0), (1, .int t9), (2, .int (nI (20 + i)))], [.int (-2)], (zsh ++ vs, mi, ml, (zmr g))) rfl ?_
                  refine Wp.ret rfl rfl rfl ?_
                  exact ⟨rfl, _, _, rfl, SC.rf, fun _ _ _ => rfl⟩
          · exact absurd (nI_le (a := 20) (by omega) (by omega)) h2
      · intro m g' I' e67 S
        have B' := I'.1.1
        have hn' := B'.2.1
        have hN' := B'.1.1
        have hd' := B'.1.2.2.1
        refine Wp.run 3 (3, [(0, .ref 66), (1, .int t9), (2, .int (nI (20 + i)))], [.int 1, .int 0, .int (nI (20 + i))], (zsh ++ vs, m, ml, (zmr g'))) rfl ?_
        refine Wp.call (as := [.int (nI (20 + i)), .int 0, .int 1]) (rest := []) rfl rfl rfl rfl rfl (Nat.le_of_ble_eq_true rfl) (Nat.le_of_ble_eq_true rfl) rfl (by decide) (m_isIn_f (fun z => absurd ((nI_leI (b := 1) (by omega) (by decide)).mp z.2) (by omega))) ?_
        rintro _ _ ⟨rfl, rfl⟩
        refine Wp.run 5 (14, [(0, .ref 66), (1, .int t9), (2, .int (nI (20 + i)))], [.int ((nI (20 + i)) - 10), .ref 66], (zsh ++ vs, m, ml, (zmr g'))) rfl ?_
        refine Wp.topi (y := nI (10 + i)) ((congrArg (fun z => nI z - nI 10) (show 20 + i = 10 + (10 + i) by omega)).trans nI_sub) ?_
        refine Wp.run 0 (14, [(0, .ref 66), (1, .int t9), (2, .int (nI (20 + i)))], [.int (nI (10 + i)), .ref 66], (zsh ++ vs, m, ml, (zmr g'))) rfl ?_
        refine Wp.call (as := [.ref 66, .int (nI (10 + i))]) (rest := []) rfl rfl rfl rfl rfl (Nat.le_of_ble_eq_true rfl) (Nat.le_of_ble_eq_true rfl) rfl (by decide) (m_isOne_f (mi := m) hN' h6 h10f) ?_
        rintro _ _ ⟨rfl, rfl⟩
        refine Wp.run 5 (25, [(0, .ref 66), (1, .int t9), (2, .int (nI (20 + i)))], [.int ((nI (20 + i)) - 20), .ref 66], (zsh ++ vs, m, ml, (zmr g'))) rfl ?_
        refine Wp.topi (y := nI i) (nI_sub) ?_
        refine Wp.run 0 (25, [(0, .ref 66), (1, .int t9), (2, .int (nI (20 + i)))], [.int (nI i), .ref 66], (zsh ++ vs, m, ml, (zmr g'))) rfl ?_
        refine Wp.call (as := [.ref 66, .int (nI i)]) (rest := []) rfl rfl rfl rfl rfl (Nat.le_of_ble_eq_true rfl) (Nat.le_of_ble_eq_true rfl) rfl (by decide) (m_isOne_t (mi := m) hN' h6 hi9) ?_
        rintro _ _ ⟨rfl, rfl⟩
        refine Wp.run 4 (37, [(0, .ref 66), (1, .int t9), (2, .int (nI (20 + i)))], [.int 60, .int 0, .int t9], (zsh ++ vs, m, ml, (zmr g'))) rfl ?_
        refine Wp.call (as := [.int t9, .int 0, .int 60]) (rest := []) rfl rfl rfl rfl rfl (Nat.le_of_ble_eq_true rfl) (Nat.le_of_ble_eq_true rfl) rfl (by decide) (m_isIn_f ht9) ?_
        rintro _ _ ⟨rfl, rfl⟩
        refine Wp.run 2 (45, [(0, .ref 66), (1, .int t9), (2, .int (nI (20 + i)))], [.int (-2)], (zsh ++ vs, m, ml, (zmr g'))) rfl ?_
        refine Wp.ret rfl rfl rfl ?_
        exact ⟨rfl, _, rfl, SC.rf⟩
    refine SIM.q I (x := -1) (dc := 7) (dm := 27) (by decide) (by decide) ?_ ?_
    · refine Wp.run 2 (3, [(0, .ref 0), (1, .int t9), (2, .int w)], [.int 10, .int w], (zsh ++ vs, mi, ml, (zmr g))) rfl ?_
      refine Wp.icmp_lt rfl (fun h1 => ?_) (fun h1 => ?_)
      · refine Wp.run 4 (35, [(3, .int 0), (0, .ref 0), (1, .int t9), (2, .int w)], [.int 20, .int w], (zsh ++ vs, mi, ml, (zmr g))) rfl ?_
        refine Wp.icmp_lt rfl (fun h2 => ?_) (fun h2 => ?_)
        · refine Wp.run 3 (60, [(4, .int 0), (3, .int 0), (0, .ref 0), (1, .int t9), (2, .int w)], [.int w], (zsh ++ vs, mi, ml, (zmr g))) rfl ?_
          refine Wp.if_eq rfl (fun h3 => ?_) (fun h3 => ?_)
          · exact absurd (show 0 ≤ w ∧ w ≤ 1 by rw [h3]; decide) h0
          · refine Wp.run 2 (65, [(4, .int 0), (3, .int 0), (0, .ref 0), (1, .int t9), (2, .int w)], [.int 1, .int w], (zsh ++ vs, mi, ml, (zmr g))) rfl ?_
            refine Wp.icmp_eq rfl (fun h4 => ?_) (fun h4 => ?_)
            · exact absurd (show 0 ≤ w ∧ w ≤ 1 by rw [h4]; decide) h0
            · refine Wp.run 5 (78, [(4, .int 0), (3, .int 0), (0, .ref 0), (1, .int t9), (2, .int w)], [.int (-1)], (zsh ++ vs, mi, ml, (zmr g))) rfl ?_
              refine Wp.ret rfl rfl rfl ?_
              exact ⟨rfl, _, _, rfl, SC.rf, fun _ _ _ => rfl⟩
        · refine Wp.run 5 (46, [(3, .int 0), (0, .ref 0), (1, .int t9), (2, .int w)], [.int (w - 20), .ref 1], (zsh ++ vs, mi, ml, (zmr g))) rfl ?_
          refine Wp.call (as := [.ref 1, .int (w - 20)]) (rest := []) rfl rfl rfl rfl rfl (Nat.le_of_ble_eq_true rfl) (Nat.le_of_ble_eq_true rfl) rfl (by decide) (c_has_f (mi := mi) hn h6 h20) ?_
          rintro _ _ ⟨rfl, rfl⟩
          refine Wp.run 4 (60, [(4, .int 0), (3, .int 0), (0, .ref 0), (1, .int t9), (2, .int w)], [.int w], (zsh ++ vs, mi, ml, (zmr g))) rfl ?_
          refine Wp.if_eq rfl (fun h5 => ?_) (fun h5 => ?_)
          · exact absurd (show 0 ≤ w ∧ w ≤ 1 by rw [h5]; decide) h0
          · refine Wp.run 2 (65, [(4, .int 0), (3, .int 0), (0, .ref 0), (1, .int t9), (2, .int w)], [.int 1, .int w], (zsh ++ vs, mi, ml, (zmr g))) rfl ?_
            refine Wp.icmp_eq rfl (fun h6 => ?_) (fun h6 => ?_)
            · exact absurd (show 0 ≤ w ∧ w ≤ 1 by rw [h6]; decide) h0
            · refine Wp.run 5 (78, [(4, .int 0), (3, .int 0), (0, .ref 0), (1, .int t9), (2, .int w)], [.int (-1)], (zsh ++ vs, mi, ml, (zmr g))) rfl ?_
              refine Wp.ret rfl rfl rfl ?_
              exact ⟨rfl, _, _, rfl, SC.rf, fun _ _ _ => rfl⟩
      · refine Wp.run 2 (9, [(0, .ref 0), (1, .int t9), (2, .int w)], [.int 20, .int w], (zsh ++ vs, mi, ml, (zmr g))) rfl ?_
        refine Wp.icmp_ge rfl (fun h7 => ?_) (fun h7 => ?_)
        · refine Wp.run 4 (35, [(3, .int 0), (0, .ref 0), (1, .int t9), (2, .int w)], [.int 20, .int w], (zsh ++ vs, mi, ml, (zmr g))) rfl ?_
          refine Wp.icmp_lt rfl (fun h8 => ?_) (fun h8 => ?_)
          · refine Wp.run 3 (60, [(4, .int 0), (3, .int 0), (0, .ref 0), (1, .int t9), (2, .int w)], [.int w], (zsh ++ vs, mi, ml, (zmr g))) rfl ?_
            refine Wp.if_eq rfl (fun h9 => ?_) (fun h9 => ?_)
            · exact absurd (show 0 ≤ w ∧ w ≤ 1 by rw [h9]; decide) h0
            · refine Wp.run 2 (65, [(4, .int 0), (3, .int 0), (0, .ref 0), (1, .int t9), (2, .int w)], [.int 1, .int w], (zsh ++ vs, mi, ml, (zmr g))) rfl ?_
              refine Wp.icmp_eq rfl (fun h10 => ?_) (fun h10 => ?_)
              · exact absurd (show 0 ≤ w ∧ w ≤ 1 by rw [h10]; decide) h0
              · refine Wp.run 5 (78, [(4, .int 0), (3, .int 0), (0, .ref 0), (1, .int t9), (2, .int w)], [.int (-1)], (zsh ++ vs, mi, ml, (zmr g))) rfl ?_
                refine Wp.ret rfl rfl rfl ?_
                exact ⟨rfl, _, _, rfl, SC.rf, fun _ _ _ => rfl⟩
          · refine Wp.run 5 (46, [(3, .int 0), (0, .ref 0), (1, .int t9), (2, .int w)], [.int (w - 20), .ref 1], (zsh ++ vs, mi, ml, (zmr g))) rfl ?_
            refine Wp.call (as := [.ref 1, .int (w - 20)]) (rest := []) rfl rfl rfl rfl rfl (Nat.le_of_ble_eq_true rfl) (Nat.le_of_ble_eq_true rfl) rfl (by decide) (c_has_f (mi := mi) hn h6 h20) ?_
            rintro _ _ ⟨rfl, rfl⟩
            refine Wp.run 4 (60, [(4, .int 0), (3, .int 0), (0, .ref 0), (1, .int t9), (2, .int w)], [.int w], (zsh ++ vs, mi, ml, (zmr g))) rfl ?_
            refine Wp.if_eq rfl (fun h11 => ?_) (fun h11 => ?_)
            · exact absurd (show 0 ≤ w ∧ w ≤ 1 by rw [h11]; decide) h0
            · refine Wp.run 2 (65, [(4, .int 0), (3, .int 0), (0, .ref 0), (1, .int t9), (2, .int w)], [.int 1, .int w], (zsh ++ vs, mi, ml, (zmr g))) rfl ?_
              refine Wp.icmp_eq rfl (fun h12 => ?_) (fun h12 => ?_)
              · exact absurd (show 0 ≤ w ∧ w ≤ 1 by rw [h12]; decide) h0
              · refine Wp.run 5 (78, [(4, .int 0), (3, .int 0), (0, .ref 0), (1, .int t9), (2, .int w)], [.int (-1)], (zsh ++ vs, mi, ml, (zmr g))) rfl ?_
                refine Wp.ret rfl rfl rfl ?_
                exact ⟨rfl, _, _, rfl, SC.rf, fun _ _ _ => rfl⟩
        · refine Wp.run 5 (20, [(0, .ref 0), (1, .int t9), (2, .int w)], [.int (w - 10), .ref 1], (zsh ++ vs, mi, ml, (zmr g))) rfl ?_
          refine Wp.call (as := [.ref 1, .int (w - 10)]) (rest := []) rfl rfl rfl rfl rfl (Nat.le_of_ble_eq_true rfl) (Nat.le_of_ble_eq_true rfl) rfl (by decide) (c_has_f (mi := mi) hn h6 h10) ?_
          rintro _ _ ⟨rfl, rfl⟩
          refine Wp.run 5 (35, [(3, .int 0), (0, .ref 0), (1, .int t9), (2, .int w)], [.int 20, .int w], (zsh ++ vs, mi, ml, (zmr g))) rfl ?_
          refine Wp.icmp_lt rfl (fun h13 => ?_) (fun h13 => ?_)
          · refine Wp.run 3 (60, [(4, .int 0), (3, .int 0), (0, .ref 0), (1, .int t9), (2, .int w)], [.int w], (zsh ++ vs, mi, ml, (zmr g))) rfl ?_
            refine Wp.if_eq rfl (fun h14 => ?_) (fun h14 => ?_)
            · exact absurd (show 0 ≤ w ∧ w ≤ 1 by rw [h14]; decide) h0
            · refine Wp.run 2 (65, [(4, .int 0), (3, .int 0), (0, .ref 0), (1, .int t9), (2, .int w)], [.int 1, .int w], (zsh ++ vs, mi, ml, (zmr g))) rfl ?_
              refine Wp.icmp_eq rfl (fun h15 => ?_) (fun h15 => ?_)
              · exact absurd (show 0 ≤ w ∧ w ≤ 1 by rw [h15]; decide) h0
              · refine Wp.run 5 (78, [(4, .int 0), (3, .int 0), (0, .ref 0), (1, .int t9), (2, .int w)], [.int (-1)], (zsh ++ vs, mi, ml, (zmr g))) rfl ?_
                refine Wp.ret rfl rfl rfl ?_
                exact ⟨rfl, _, _, rfl, SC.rf, fun _ _ _ => rfl⟩
          · refine Wp.run 5 (46, [(3, .int 0), (0, .ref 0), (1, .int t9), (2, .int w)], [.int (w - 20), .ref 1], (zsh ++ vs, mi, ml, (zmr g))) rfl ?_
            refine Wp.call (as := [.ref 1, .int (w - 20)]) (rest := []) rfl rfl rfl rfl rfl (Nat.le_of_ble_eq_true rfl) (Nat.le_of_ble_eq_true rfl) rfl (by decide) (c_has_f (mi := mi) hn h6 h20) ?_
            rintro _ _ ⟨rfl, rfl⟩
            refine Wp.run 4 (60, [(4, .int 0), (3, .int 0), (0, .ref 0), (1, .int t9), (2, .int w)], [.int w], (zsh ++ vs, mi, ml, (zmr g))) rfl ?_
            refine Wp.if_eq rfl (fun h16 => ?_) (fun h16 => ?_)
            · exact absurd (show 0 ≤ w ∧ w ≤ 1 by rw [h16]; decide) h0
            · refine Wp.run 2 (65, [(4, .int 0), (3, .int 0), (0, .ref 0), (1, .int t9), (2, .int w)], [.int 1, .int w], (zsh ++ vs, mi, ml, (zmr g))) rfl ?_
              refine Wp.icmp_eq rfl (fun h17 => ?_) (fun h17 => ?_)
              · exact absurd (show 0 ≤ w ∧ w ≤ 1 by rw [h17]; decide) h0
              · refine Wp.run 5 (78, [(4, .int 0), (3, .int 0), (0, .ref 0), (1, .int t9), (2, .int w)], [.int (-1)], (zsh ++ vs, mi, ml, (zmr g))) rfl ?_
                refine Wp.ret rfl rfl rfl ?_
                exact ⟨rfl, _, _, rfl, SC.rf, fun _ _ _ => rfl⟩
    · intro m g' I' e67 S
      have B' := I'.1.1
      have hn' := B'.2.1
      have hN' := B'.1.1
      have hd' := B'.1.2.2.1
      refine Wp.run 3 (3, [(0, .ref 66), (1, .int t9), (2, .int w)], [.int 1, .int 0, .int w], (zsh ++ vs, m, ml, (zmr g'))) rfl ?_
      refine Wp.call (as := [.int w, .int 0, .int 1]) (rest := []) rfl rfl rfl rfl rfl (Nat.le_of_ble_eq_true rfl) (Nat.le_of_ble_eq_true rfl) rfl (by decide) (m_isIn_f h0) ?_
      rintro _ _ ⟨rfl, rfl⟩
      refine Wp.run 5 (14, [(0, .ref 66), (1, .int t9), (2, .int w)], [.int (w - 10), .ref 66], (zsh ++ vs, m, ml, (zmr g'))) rfl ?_
      refine Wp.call (as := [.ref 66, .int (w - 10)]) (rest := []) rfl rfl rfl rfl rfl (Nat.le_of_ble_eq_true rfl) (Nat.le_of_ble_eq_true rfl) rfl (by decide) (m_isOne_f (mi := m) hN' h6 h10) ?_
      rintro _ _ ⟨rfl, rfl⟩
      refine Wp.run 5 (25, [(0, .ref 66), (1, .int t9), (2, .int w)], [.int (w - 20), .ref 66], (zsh ++ vs, m, ml, (zmr g'))) rfl ?_
      refine Wp.call (as := [.ref 66, .int (w - 20)]) (rest := []) rfl rfl rfl rfl rfl (Nat.le_of_ble_eq_true rfl) (Nat.le_of_ble_eq_true rfl) rfl (by decide) (m_isOne_f (mi := m) hN' h6 h20) ?_
      rintro _ _ ⟨rfl, rfl⟩
      refine Wp.run 2 (32, [(0, .ref 66), (1, .int t9), (2, .int w)], [.int (-1)], (zsh ++ vs, m, ml, (zmr g'))) rfl ?_
      refine Wp.ret rfl rfl rfl ?_
      exact ⟨rfl, _, rfl, SC.rf⟩
