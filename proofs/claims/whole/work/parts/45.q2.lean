/-! THE REFERENCE'S READER: tests, factors, choices -/
/-- what a reader of the reference leaves -/
def mP (mi : Nat → Nat → Int32) (nm : Nat → Int32) (d : Nat) (s a : Int32) (vs : List (Nat × Nat)) (ml : Nat → Nat → Int64) (g : Nat → Nat → Option Nat) (res : zRs) (r : Option Value) (w' : zW) : Prop :=
  ∃ m', w' = (zsh ++ vs, m', ml, zmr g) ∧ ((∃ t, res.1 = some t ∧ r = some (.int (if t.2 nm = true then 1 else 0)) ∧ MS mi m' res.2 1 d s a) ∨ (res.1 = none ∧ (r = some (.int 0) ∨ r = some (.int 1)) ∧ MS mi m' res.2 0 d s a))
theorem ztb0 {nm : Nat → Int32} {l v : Nat} : ztb nm l 0 v = decide (nm l < nI v) := by unfold ztb; rw [if_pos rfl]
theorem ztb1 {nm : Nat → Int32} {l v : Nat} : ztb nm l 1 v = decide (nm l = nI v) := by unfold ztb; rw [if_neg (show ¬ 1 = 0 by decide), if_pos (show 1 = 1 from rfl)]
theorem ztb2 {nm : Nat → Int32} {l v : Nat} : ztb nm l 2 v = decide (nI v < nm l) := by unfold ztb; rw [if_neg (show ¬ 2 = 0 by decide), if_neg (show ¬ 2 = 1 by decide)]
theorem if_tt {b : Bool} {p : Prop} (hp : p) (h : b = true ↔ p) : (1 : Int32) = if b = true then 1 else 0 := by rw [if_pos (h.mpr hp)]
theorem if_ff {b : Bool} {p : Prop} (hp : ¬ p) (h : b = true ↔ p) : (0 : Int32) = if b = true then 1 else 0 := by rw [if_neg (fun q => hp (h.mp q))]
theorem m_test_t {E : zEn} {vs : List (Nat × Nat)} {mi : Nat → Nat → Int32} {ml : Nat → Nat → Int64} {g : Nat → Nat → Option Nat} {T : Nat → Int32} {n : Nat} {nm : Nat → Int32} (R : RM T n nm mi) {m : Nat → Nat → Int32} {p d : Nat} {s a : Int32} (H : MS mi m p 1 d s a) (hpn : p ≤ n) {l : Nat} (hl : zlt (zch T n p) = some l) : Wp E 2 pg_M_test 47 [(0, .ref 66), (1, .int (nI l))] [] (zsh ++ vs, m, ml, zmr g) (mP mi nm d s a vs ml g (ztest T n p)) := by
  have hl6 := (zlt_ok hl).1
  have hR := R.2.1
  have hpl := zch_lt (T := T) (n := n) (p := p) rfl (zlt_ok hl).2
  refine Wp.run 6 (57, [(0, .ref 66), (1, .int (nI l))], [], (zsh ++ vs, (zup m 66 11 ((m 66 11) + 1)), ml, (zmr g))) rfl ?_
  obtain ⟨m1, hm1⟩ : ∃ m9, m9 = (zup m 66 11 ((m 66 11) + 1)) := ⟨_, rfl⟩
  rw [← hm1]
  have H1 : MS mi m1 (p + 1) 1 d s a := by rw [hm1]; exact H.adv
  have hp1 : p + 1 ≤ n := zch_lt rfl (zlt_ok hl).2
  refine Wp.run 2 (60, [(0, .ref 66), (1, .int (nI l))], [.int 60, .ref 66], (zsh ++ vs, m1, ml, (zmr g))) rfl ?_
  refine Wp.call (as := [.ref 66, .int 60]) (rest := []) rfl rfl rfl rfl rfl (Nat.le_of_ble_eq_true rfl) (Nat.le_of_ble_eq_true rfl) rfl (by decide) (m_isAtG R H1 60 (by decide) (by omega)) ?_
  rintro _ _ ⟨rfl, rfl⟩
  by_cases hi2 : zch T n (p + 1) = 60
  · rw [if_pos hi2]
    refine Wp.run 9 (106, [(2, .int (-1)), (0, .ref 66), (1, .int (nI l))], [.int 60, .ref 66], (zsh ++ vs, m1, ml, (zmr g))) rfl ?_
    refine Wp.call (as := [.ref 66, .int 60]) (rest := []) rfl rfl rfl rfl rfl (Nat.le_of_ble_eq_true rfl) (Nat.le_of_ble_eq_true rfl) rfl (by decide) (m_takesG R H1 60 (by decide) (by omega)) ?_
    rintro _ _ ⟨rfl, m3, rfl, ⟨ht3, H3⟩ | ⟨ht3, H3⟩⟩
    rotate_left
    · exact absurd hi2 ht3
    · have hp3 : p + 1 + 1 ≤ n := zch_lt ht3 (by decide)
      refine Wp.run 1 (110, [(2, .int (-1)), (0, .ref 66), (1, .int (nI l))], [.ref 66], (zsh ++ vs, m3, ml, (zmr g))) rfl ?_
      refine Wp.call (as := [.ref 66]) (rest := []) rfl rfl rfl rfl rfl (Nat.le_of_ble_eq_true rfl) (Nat.le_of_ble_eq_true rfl) rfl (by decide) (m_numberG R H3 (by have := R.2.1; omega)) ?_
      rintro _ _ ⟨m4, rfl, ⟨hz4, rfl, H4⟩ | ⟨x4, hz4, rfl, H4⟩⟩
      · refine Wp.run 6 (123, [(3, .int 0), (2, .int (-1)), (0, .ref 66), (1, .int (nI l))], [.int (nI l), .ref 74], (zsh ++ vs, m4, ml, (zmr g))) rfl ?_
        refine Wp.ialn rfl (by decide) rfl (by omega) (by decide) ?_
        refine Wp.run 0 (124, [(3, .int 0), (2, .int (-1)), (0, .ref 66), (1, .int (nI l))], [.int (m4 74 l)], (zsh ++ vs, m4, ml, (zmr g))) rfl ?_
        rw [show m4 74 l = nm l from by rw [H4.1 74 (by decide)]; exact R.2.2.2.1 l hl6]
        refine Wp.run 1 (125, [(3, .int 0), (2, .int (-1)), (0, .ref 66), (1, .int (nI l))], [.int 0, .int (nm l)], (zsh ++ vs, m4, ml, (zmr g))) rfl ?_
        refine Wp.icmp_ge rfl (fun h1 => ?_) (fun h1 => ?_)
        · refine Wp.run 2 (173, [(3, .int 0), (2, .int (-1)), (0, .ref 66), (1, .int (nI l))], [.int 0], (zsh ++ vs, m4, ml, (zmr g))) rfl ?_
          refine Wp.ret rfl rfl rfl ?_
          rw [ztest_n hl (show zsg (zch T n (p + 1)) = some 0 by rw [hi2]; rfl) hz4]
          exact ⟨_, rfl, Or.inr ⟨rfl, Or.inl rfl, H4⟩⟩
        · refine Wp.run 2 (173, [(3, .int 0), (2, .int (-1)), (0, .ref 66), (1, .int (nI l))], [.int 1], (zsh ++ vs, m4, ml, (zmr g))) rfl ?_
          refine Wp.ret rfl rfl rfl ?_
          rw [ztest_n hl (show zsg (zch T n (p + 1)) = some 0 by rw [hi2]; rfl) hz4]
          exact ⟨_, rfl, Or.inr ⟨rfl, Or.inr rfl, H4⟩⟩
      · have hx4 := znum_ok hz4
        refine Wp.run 6 (123, [(3, .int (nI x4.1)), (2, .int (-1)), (0, .ref 66), (1, .int (nI l))], [.int (nI l), .ref 74], (zsh ++ vs, m4, ml, (zmr g))) rfl ?_
        refine Wp.ialn rfl (by decide) rfl (by omega) (by decide) ?_
        refine Wp.run 0 (124, [(3, .int (nI x4.1)), (2, .int (-1)), (0, .ref 66), (1, .int (nI l))], [.int (m4 74 l)], (zsh ++ vs, m4, ml, (zmr g))) rfl ?_
        rw [show m4 74 l = nm l from by rw [H4.1 74 (by decide)]; exact R.2.2.2.1 l hl6]
        refine Wp.run 1 (125, [(3, .int (nI x4.1)), (2, .int (-1)), (0, .ref 66), (1, .int (nI l))], [.int (nI x4.1), .int (nm l)], (zsh ++ vs, m4, ml, (zmr g))) rfl ?_
        refine Wp.icmp_ge rfl (fun h2 => ?_) (fun h2 => ?_)
        · refine Wp.run 2 (173, [(3, .int (nI x4.1)), (2, .int (-1)), (0, .ref 66), (1, .int (nI l))], [.int 0], (zsh ++ vs, m4, ml, (zmr g))) rfl ?_
          refine Wp.ret rfl rfl rfl ?_
          rw [ztest_y hl (show zsg (zch T n (p + 1)) = some 0 by rw [hi2]; rfl) hz4]
          refine ⟨_, rfl, Or.inl ⟨_, rfl, ?_, H4⟩⟩
          exact congrArg (fun z => some (Value.int z)) (if_ff (Int32.not_lt.mpr h2) (show ztb nm l 0 x4.1 = true ↔ nm l < nI x4.1 by rw [ztb0]; exact decide_eq_true_iff))
        · refine Wp.run 2 (173, [(3, .int (nI x4.1)), (2, .int (-1)), (0, .ref 66), (1, .int (nI l))], [.int 1], (zsh ++ vs, m4, ml, (zmr g))) rfl ?_
          refine Wp.ret rfl rfl rfl ?_
          rw [ztest_y hl (show zsg (zch T n (p + 1)) = some 0 by rw [hi2]; rfl) hz4]
          refine ⟨_, rfl, Or.inl ⟨_, rfl, ?_, H4⟩⟩
          exact congrArg (fun z => some (Value.int z)) (if_tt (Int32.not_le.mp h2) (show ztb nm l 0 x4.1 = true ↔ nm l < nI x4.1 by rw [ztb0]; exact decide_eq_true_iff))
  · rw [if_neg hi2]
    refine Wp.run 3 (73, [(0, .ref 66), (1, .int (nI l))], [.int 62, .ref 66], (zsh ++ vs, m1, ml, (zmr g))) rfl ?_
    refine Wp.call (as := [.ref 66, .int 62]) (rest := []) rfl rfl rfl rfl rfl (Nat.le_of_ble_eq_true rfl) (Nat.le_of_ble_eq_true rfl) rfl (by decide) (m_isAtG R H1 62 (by decide) (by omega)) ?_
    rintro _ _ ⟨rfl, rfl⟩
    by_cases hi5 : zch T n (p + 1) = 62
    · rw [if_pos hi5]
      refine Wp.run 11 (106, [(2, .int 1), (0, .ref 66), (1, .int (nI l))], [.int 62, .ref 66], (zsh ++ vs, m1, ml, (zmr g))) rfl ?_
      refine Wp.call (as := [.ref 66, .int 62]) (rest := []) rfl rfl rfl rfl rfl (Nat.le_of_ble_eq_true rfl) (Nat.le_of_ble_eq_true rfl) rfl (by decide) (m_takesG R H1 62 (by decide) (by omega)) ?_
      rintro _ _ ⟨rfl, m6, rfl, ⟨ht6, H6⟩ | ⟨ht6, H6⟩⟩
      rotate_left
      · exact absurd hi5 ht6
      · have hp6 : p + 1 + 1 ≤ n := zch_lt ht6 (by decide)
        refine Wp.run 1 (110, [(2, .int 1), (0, .ref 66), (1, .int (nI l))], [.ref 66], (zsh ++ vs, m6, ml, (zmr g))) rfl ?_
        refine Wp.call (as := [.ref 66]) (rest := []) rfl rfl rfl rfl rfl (Nat.le_of_ble_eq_true rfl) (Nat.le_of_ble_eq_true rfl) rfl (by decide) (m_numberG R H6 (by have := R.2.1; omega)) ?_
        rintro _ _ ⟨m7, rfl, ⟨hz7, rfl, H7⟩ | ⟨x7, hz7, rfl, H7⟩⟩
        · refine Wp.run 8 (145, [(3, .int 0), (2, .int 1), (0, .ref 66), (1, .int (nI l))], [.int (nI l), .ref 74], (zsh ++ vs, m7, ml, (zmr g))) rfl ?_
          refine Wp.ialn rfl (by decide) rfl (by omega) (by decide) ?_
          refine Wp.run 0 (146, [(3, .int 0), (2, .int 1), (0, .ref 66), (1, .int (nI l))], [.int (m7 74 l)], (zsh ++ vs, m7, ml, (zmr g))) rfl ?_
          rw [show m7 74 l = nm l from by rw [H7.1 74 (by decide)]; exact R.2.2.2.1 l hl6]
          refine Wp.run 1 (147, [(3, .int 0), (2, .int 1), (0, .ref 66), (1, .int (nI l))], [.int 0, .int (nm l)], (zsh ++ vs, m7, ml, (zmr g))) rfl ?_
          refine Wp.icmp_le rfl (fun h3 => ?_) (fun h3 => ?_)
          · refine Wp.run 2 (173, [(3, .int 0), (2, .int 1), (0, .ref 66), (1, .int (nI l))], [.int 0], (zsh ++ vs, m7, ml, (zmr g))) rfl ?_
            refine Wp.ret rfl rfl rfl ?_
            rw [ztest_n hl (show zsg (zch T n (p + 1)) = some 2 by rw [hi5]; rfl) hz7]
            exact ⟨_, rfl, Or.inr ⟨rfl, Or.inl rfl, H7⟩⟩
          · refine Wp.run 2 (173, [(3, .int 0), (2, .int 1), (0, .ref 66), (1, .int (nI l))], [.int 1], (zsh ++ vs, m7, ml, (zmr g))) rfl ?_
            refine Wp.ret rfl rfl rfl ?_
            rw [ztest_n hl (show zsg (zch T n (p + 1)) = some 2 by rw [hi5]; rfl) hz7]
            exact ⟨_, rfl, Or.inr ⟨rfl, Or.inr rfl, H7⟩⟩
        · have hx7 := znum_ok hz7
          refine Wp.run 8 (145, [(3, .int (nI x7.1)), (2, .int 1), (0, .ref 66), (1, .int (nI l))], [.int (nI l), .ref 74], (zsh ++ vs, m7, ml, (zmr g))) rfl ?_
          refine Wp.ialn rfl (by decide) rfl (by omega) (by decide) ?_
          refine Wp.run 0 (146, [(3, .int (nI x7.1)), (2, .int 1), (0, .ref 66), (1, .int (nI l))], [.int (m7 74 l)], (zsh ++ vs, m7, ml, (zmr g))) rfl ?_
          rw [show m7 74 l = nm l from by rw [H7.1 74 (by decide)]; exact R.2.2.2.1 l hl6]
          refine Wp.run 1 (147, [(3, .int (nI x7.1)), (2, .int 1), (0, .ref 66), (1, .int (nI l))], [.int (nI x7.1), .int (nm l)], (zsh ++ vs, m7, ml, (zmr g))) rfl ?_
          refine Wp.icmp_le rfl (fun h4 => ?_) (fun h4 => ?_)
          · refine Wp.run 2 (173, [(3, .int (nI x7.1)), (2, .int 1), (0, .ref 66), (1, .int (nI l))], [.int 0], (zsh ++ vs, m7, ml, (zmr g))) rfl ?_
            refine Wp.ret rfl rfl rfl ?_
            rw [ztest_y hl (show zsg (zch T n (p + 1)) = some 2 by rw [hi5]; rfl) hz7]
            refine ⟨_, rfl, Or.inl ⟨_, rfl, ?_, H7⟩⟩
            exact congrArg (fun z => some (Value.int z)) (if_ff (Int32.not_lt.mpr h4) (show ztb nm l 2 x7.1 = true ↔ nI x7.1 < nm l by rw [ztb2]; exact decide_eq_true_iff))
          · refine Wp.run 2 (173, [(3, .int (nI x7.1)), (2, .int 1), (0, .ref 66), (1, .int (nI l))], [.int 1], (zsh ++ vs, m7, ml, (zmr g))) rfl ?_
            refine Wp.ret rfl rfl rfl ?_
            rw [ztest_y hl (show zsg (zch T n (p + 1)) = some 2 by rw [hi5]; rfl) hz7]
            refine ⟨_, rfl, Or.inl ⟨_, rfl, ?_, H7⟩⟩
            exact congrArg (fun z => some (Value.int z)) (if_tt (Int32.not_le.mp h4) (show ztb nm l 2 x7.1 = true ↔ nI x7.1 < nm l by rw [ztb2]; exact decide_eq_true_iff))
    · rw [if_neg hi5]
      refine Wp.run 9 (106, [(2, .int 0), (0, .ref 66), (1, .int (nI l))], [.int 61, .ref 66], (zsh ++ vs, m1, ml, (zmr g))) rfl ?_
      refine Wp.call (as := [.ref 66, .int 61]) (rest := []) rfl rfl rfl rfl rfl (Nat.le_of_ble_eq_true rfl) (Nat.le_of_ble_eq_true rfl) rfl (by decide) (m_takesG R H1 61 (by decide) (by omega)) ?_
      rintro _ _ ⟨rfl, m8, rfl, ⟨ht8, H8⟩ | ⟨ht8, H8⟩⟩
      · have hp8 : p + 1 + 1 ≤ n := zch_lt ht8 (by decide)
        refine Wp.run 1 (110, [(2, .int 0), (0, .ref 66), (1, .int (nI l))], [.ref 66], (zsh ++ vs, m8, ml, (zmr g))) rfl ?_
        refine Wp.call (as := [.ref 66]) (rest := []) rfl rfl rfl rfl rfl (Nat.le_of_ble_eq_true rfl) (Nat.le_of_ble_eq_true rfl) rfl (by decide) (m_numberG R H8 (by have := R.2.1; omega)) ?_
        rintro _ _ ⟨m9, rfl, ⟨hz9, rfl, H9⟩ | ⟨x9, hz9, rfl, H9⟩⟩
        · refine Wp.run 8 (163, [(3, .int 0), (2, .int 0), (0, .ref 66), (1, .int (nI l))], [.int (nI l), .ref 74], (zsh ++ vs, m9, ml, (zmr g))) rfl ?_
          refine Wp.ialn rfl (by decide) rfl (by omega) (by decide) ?_
          refine Wp.run 0 (164, [(3, .int 0), (2, .int 0), (0, .ref 66), (1, .int (nI l))], [.int (m9 74 l)], (zsh ++ vs, m9, ml, (zmr g))) rfl ?_
          rw [show m9 74 l = nm l from by rw [H9.1 74 (by decide)]; exact R.2.2.2.1 l hl6]
          refine Wp.run 1 (165, [(3, .int 0), (2, .int 0), (0, .ref 66), (1, .int (nI l))], [.int 0, .int (nm l)], (zsh ++ vs, m9, ml, (zmr g))) rfl ?_
          refine Wp.icmp_ne rfl (fun h5 => ?_) (fun h5 => ?_)
          · refine Wp.run 1 (173, [(3, .int 0), (2, .int 0), (0, .ref 66), (1, .int (nI l))], [.int 0], (zsh ++ vs, m9, ml, (zmr g))) rfl ?_
            refine Wp.ret rfl rfl rfl ?_
            rw [ztest_n hl (show zsg (zch T n (p + 1)) = some 1 by rw [ht8]; rfl) hz9]
            exact ⟨_, rfl, Or.inr ⟨rfl, Or.inl rfl, H9⟩⟩
          · refine Wp.run 2 (173, [(3, .int 0), (2, .int 0), (0, .ref 66), (1, .int (nI l))], [.int 1], (zsh ++ vs, m9, ml, (zmr g))) rfl ?_
            refine Wp.ret rfl rfl rfl ?_
            rw [ztest_n hl (show zsg (zch T n (p + 1)) = some 1 by rw [ht8]; rfl) hz9]
            exact ⟨_, rfl, Or.inr ⟨rfl, Or.inr rfl, H9⟩⟩
        · have hx9 := znum_ok hz9
          refine Wp.run 8 (163, [(3, .int (nI x9.1)), (2, .int 0), (0, .ref 66), (1, .int (nI l))], [.int (nI l), .ref 74], (zsh ++ vs, m9, ml, (zmr g))) rfl ?_
          refine Wp.ialn rfl (by decide) rfl (by omega) (by decide) ?_
          refine Wp.run 0 (164, [(3, .int (nI x9.1)), (2, .int 0), (0, .ref 66), (1, .int (nI l))], [.int (m9 74 l)], (zsh ++ vs, m9, ml, (zmr g))) rfl ?_
          rw [show m9 74 l = nm l from by rw [H9.1 74 (by decide)]; exact R.2.2.2.1 l hl6]
          refine Wp.run 1 (165, [(3, .int (nI x9.1)), (2, .int 0), (0, .ref 66), (1, .int (nI l))], [.int (nI x9.1), .int (nm l)], (zsh ++ vs, m9, ml, (zmr g))) rfl ?_
          refine Wp.icmp_ne rfl (fun h6 => ?_) (fun h6 => ?_)
          · refine Wp.run 1 (173, [(3, .int (nI x9.1)), (2, .int 0), (0, .ref 66), (1, .int (nI l))], [.int 0], (zsh ++ vs, m9, ml, (zmr g))) rfl ?_
            refine Wp.ret rfl rfl rfl ?_
            rw [ztest_y hl (show zsg (zch T n (p + 1)) = some 1 by rw [ht8]; rfl) hz9]
            refine ⟨_, rfl, Or.inl ⟨_, rfl, ?_, H9⟩⟩
            exact congrArg (fun z => some (Value.int z)) (if_ff h6 (show ztb nm l 1 x9.1 = true ↔ nm l = nI x9.1 by rw [ztb1]; exact decide_eq_true_iff))
          · refine Wp.run 2 (173, [(3, .int (nI x9.1)), (2, .int 0), (0, .ref 66), (1, .int (nI l))], [.int 1], (zsh ++ vs, m9, ml, (zmr g))) rfl ?_
            refine Wp.ret rfl rfl rfl ?_
            rw [ztest_y hl (show zsg (zch T n (p + 1)) = some 1 by rw [ht8]; rfl) hz9]
            refine ⟨_, rfl, Or.inl ⟨_, rfl, ?_, H9⟩⟩
            exact congrArg (fun z => some (Value.int z)) (if_tt h6 (show ztb nm l 1 x9.1 = true ↔ nm l = nI x9.1 by rw [ztb1]; exact decide_eq_true_iff))
      · refine Wp.run 1 (110, [(2, .int 0), (0, .ref 66), (1, .int (nI l))], [.ref 66], (zsh ++ vs, m8, ml, (zmr g))) rfl ?_
        refine Wp.call (as := [.ref 66]) (rest := []) rfl rfl rfl rfl rfl (Nat.le_of_ble_eq_true rfl) (Nat.le_of_ble_eq_true rfl) rfl (by decide) (m_numberB R H8) ?_
        rintro _ _ ⟨rfl, m10, rfl, H10⟩
        refine Wp.run 8 (163, [(3, .int 0), (2, .int 0), (0, .ref 66), (1, .int (nI l))], [.int (nI l), .ref 74], (zsh ++ vs, m10, ml, (zmr g))) rfl ?_
        refine Wp.ialn rfl (by decide) rfl (by omega) (by decide) ?_
        refine Wp.run 0 (164, [(3, .int 0), (2, .int 0), (0, .ref 66), (1, .int (nI l))], [.int (m10 74 l)], (zsh ++ vs, m10, ml, (zmr g))) rfl ?_
        rw [show m10 74 l = nm l from by rw [H10.1 74 (by decide)]; exact R.2.2.2.1 l hl6]
        refine Wp.run 1 (165, [(3, .int 0), (2, .int 0), (0, .ref 66), (1, .int (nI l))], [.int 0, .int (nm l)], (zsh ++ vs, m10, ml, (zmr g))) rfl ?_
        refine Wp.icmp_ne rfl (fun h7 => ?_) (fun h7 => ?_)
        · refine Wp.run 1 (173, [(3, .int 0), (2, .int 0), (0, .ref 66), (1, .int (nI l))], [.int 0], (zsh ++ vs, m10, ml, (zmr g))) rfl ?_
          refine Wp.ret rfl rfl rfl ?_
          rw [ztest_s hl (by rw [zsg, if_neg hi2, if_neg ht8, if_neg hi5])]
          exact ⟨_, rfl, Or.inr ⟨rfl, Or.inl rfl, H10⟩⟩
        · refine Wp.run 2 (173, [(3, .int 0), (2, .int 0), (0, .ref 66), (1, .int (nI l))], [.int 1], (zsh ++ vs, m10, ml, (zmr g))) rfl ?_
          refine Wp.ret rfl rfl rfl ?_
          rw [ztest_s hl (by rw [zsg, if_neg hi2, if_neg ht8, if_neg hi5])]
          exact ⟨_, rfl, Or.inr ⟨rfl, Or.inr rfl, H10⟩⟩
theorem m_testG {E : zEn} {vs : List (Nat × Nat)} {mi : Nat → Nat → Int32} {ml : Nat → Nat → Int64} {g : Nat → Nat → Option Nat} {T : Nat → Int32} {n : Nat} {nm : Nat → Int32} (R : RM T n nm mi) {m : Nat → Nat → Int32} {p d : Nat} {s a : Int32} (H : MS mi m p 1 d s a) (hpn : p ≤ n) : Wp E 2 pg_M_test 0 (lv_args 0 [.ref 66]) [] (zsh ++ vs, m, ml, (zmr g)) (mP mi nm d s a vs ml g (ztest T n p)) := by
  have hR := R.2.1
  refine Wp.run 12 (17, [(2, .int 0), (1, .int (-1)), (0, .ref 66)], [.int (m 75 0), .ref 66], (zsh ++ vs, m, ml, (zmr g))) rfl ?_
  rw [show m 75 0 = 112 from by rw [H.1 75 (by decide)]; exact R.2.2.2.2.1.1]
  refine Wp.run 0 (17, [(2, .int 0), (1, .int (-1)), (0, .ref 66)], [.int 112, .ref 66], (zsh ++ vs, m, ml, (zmr g))) rfl ?_
  refine Wp.call (as := [.ref 66, .int 112]) (rest := []) rfl rfl rfl rfl rfl (Nat.le_of_ble_eq_true rfl) (Nat.le_of_ble_eq_true rfl) rfl (by decide) (m_isAtG R H 112 (by decide) (by omega)) ?_
  rintro _ _ ⟨rfl, rfl⟩
  by_cases hi11 : zch T n p = 112
  · rw [if_pos hi11]
    refine Wp.run 6 (4, [(2, .int 1), (1, .int 0), (0, .ref 66)], [], (zsh ++ vs, m, ml, (zmr g))) rfl ?_
    refine Wp.run 8 (17, [(2, .int 1), (1, .int 0), (0, .ref 66)], [.int (m 75 1), .ref 66], (zsh ++ vs, m, ml, (zmr g))) rfl ?_
    rw [show m 75 1 = 107 from by rw [H.1 75 (by decide)]; exact R.2.2.2.2.1.2.1]
    refine Wp.run 0 (17, [(2, .int 1), (1, .int 0), (0, .ref 66)], [.int 107, .ref 66], (zsh ++ vs, m, ml, (zmr g))) rfl ?_
    refine Wp.call (as := [.ref 66, .int 107]) (rest := []) rfl rfl rfl rfl rfl (Nat.le_of_ble_eq_true rfl) (Nat.le_of_ble_eq_true rfl) rfl (by decide) (m_isAtG R H 107 (by decide) (by omega)) ?_
    rintro _ _ ⟨rfl, rfl⟩
    rw [if_neg (show ¬ zch T n p = 107 by rw [hi11]; decide)]
    refine Wp.run 5 (4, [(2, .int 2), (1, .int 0), (0, .ref 66)], [], (zsh ++ vs, m, ml, (zmr g))) rfl ?_
    refine Wp.run 8 (17, [(2, .int 2), (1, .int 0), (0, .ref 66)], [.int (m 75 2), .ref 66], (zsh ++ vs, m, ml, (zmr g))) rfl ?_
    rw [show m 75 2 = 118 from by rw [H.1 75 (by decide)]; exact R.2.2.2.2.1.2.2.1]
    refine Wp.run 0 (17, [(2, .int 2), (1, .int 0), (0, .ref 66)], [.int 118, .ref 66], (zsh ++ vs, m, ml, (zmr g))) rfl ?_
    refine Wp.call (as := [.ref 66, .int 118]) (rest := []) rfl rfl rfl rfl rfl (Nat.le_of_ble_eq_true rfl) (Nat.le_of_ble_eq_true rfl) rfl (by decide) (m_isAtG R H 118 (by decide) (by omega)) ?_
    rintro _ _ ⟨rfl, rfl⟩
    rw [if_neg (show ¬ zch T n p = 118 by rw [hi11]; decide)]
    refine Wp.run 5 (4, [(2, .int 3), (1, .int 0), (0, .ref 66)], [], (zsh ++ vs, m, ml, (zmr g))) rfl ?_
    refine Wp.run 8 (17, [(2, .int 3), (1, .int 0), (0, .ref 66)], [.int (m 75 3), .ref 66], (zsh ++ vs, m, ml, (zmr g))) rfl ?_
    rw [show m 75 3 = 110 from by rw [H.1 75 (by decide)]; exact R.2.2.2.2.1.2.2.2.1]
    refine Wp.run 0 (17, [(2, .int 3), (1, .int 0), (0, .ref 66)], [.int 110, .ref 66], (zsh ++ vs, m, ml, (zmr g))) rfl ?_
    refine Wp.call (as := [.ref 66, .int 110]) (rest := []) rfl rfl rfl rfl rfl (Nat.le_of_ble_eq_true rfl) (Nat.le_of_ble_eq_true rfl) rfl (by decide) (m_isAtG R H 110 (by decide) (by omega)) ?_
    rintro _ _ ⟨rfl, rfl⟩
    rw [if_neg (show ¬ zch T n p = 110 by rw [hi11]; decide)]
    refine Wp.run 5 (4, [(2, .int 4), (1, .int 0), (0, .ref 66)], [], (zsh ++ vs, m, ml, (zmr g))) rfl ?_
    refine Wp.run 8 (17, [(2, .int 4), (1, .int 0), (0, .ref 66)], [.int (m 75 4), .ref 66], (zsh ++ vs, m, ml, (zmr g))) rfl ?_
    rw [show m 75 4 = 109 from by rw [H.1 75 (by decide)]; exact R.2.2.2.2.1.2.2.2.2.1]
    refine Wp.run 0 (17, [(2, .int 4), (1, .int 0), (0, .ref 66)], [.int 109, .ref 66], (zsh ++ vs, m, ml, (zmr g))) rfl ?_
    refine Wp.call (as := [.ref 66, .int 109]) (rest := []) rfl rfl rfl rfl rfl (Nat.le_of_ble_eq_true rfl) (Nat.le_of_ble_eq_true rfl) rfl (by decide) (m_isAtG R H 109 (by decide) (by omega)) ?_
    rintro _ _ ⟨rfl, rfl⟩
    rw [if_neg (show ¬ zch T n p = 109 by rw [hi11]; decide)]
    refine Wp.run 5 (4, [(2, .int 5), (1, .int 0), (0, .ref 66)], [], (zsh ++ vs, m, ml, (zmr g))) rfl ?_
    refine Wp.run 8 (17, [(2, .int 5), (1, .int 0), (0, .ref 66)], [.int (m 75 5), .ref 66], (zsh ++ vs, m, ml, (zmr g))) rfl ?_
    rw [show m 75 5 = 100 from by rw [H.1 75 (by decide)]; exact R.2.2.2.2.1.2.2.2.2.2]
    refine Wp.run 0 (17, [(2, .int 5), (1, .int 0), (0, .ref 66)], [.int 100, .ref 66], (zsh ++ vs, m, ml, (zmr g))) rfl ?_
    refine Wp.call (as := [.ref 66, .int 100]) (rest := []) rfl rfl rfl rfl rfl (Nat.le_of_ble_eq_true rfl) (Nat.le_of_ble_eq_true rfl) rfl (by decide) (m_isAtG R H 100 (by decide) (by omega)) ?_
    rintro _ _ ⟨rfl, rfl⟩
    rw [if_neg (show ¬ zch T n p = 100 by rw [hi11]; decide)]
    refine Wp.run 5 (4, [(2, .int 6), (1, .int 0), (0, .ref 66)], [], (zsh ++ vs, m, ml, (zmr g))) rfl ?_
    refine Wp.run 6 (47, [(2, .int 6), (1, .int 0), (0, .ref 66)], [], (zsh ++ vs, m, ml, (zmr g))) rfl ?_
    refine Wp.sub (a := [(0, .ref 66), (1, .int (nI 0))]) (zle_cons rfl (zle_cons rfl (zle_nil))) ?_
    exact m_test_t R H hpn (l := 0) (by rw [hi11]; rfl)
  · rw [if_neg hi11]
    refine Wp.run 5 (4, [(2, .int 1), (1, .int (-1)), (0, .ref 66)], [], (zsh ++ vs, m, ml, (zmr g))) rfl ?_
    refine Wp.run 8 (17, [(2, .int 1), (1, .int (-1)), (0, .ref 66)], [.int (m 75 1), .ref 66], (zsh ++ vs, m, ml, (zmr g))) rfl ?_
    rw [show m 75 1 = 107 from by rw [H.1 75 (by decide)]; exact R.2.2.2.2.1.2.1]
    refine Wp.run 0 (17, [(2, .int 1), (1, .int (-1)), (0, .ref 66)], [.int 107, .ref 66], (zsh ++ vs, m, ml, (zmr g))) rfl ?_
    refine Wp.call (as := [.ref 66, .int 107]) (rest := []) rfl rfl rfl rfl rfl (Nat.le_of_ble_eq_true rfl) (Nat.le_of_ble_eq_true rfl) rfl (by decide) (m_isAtG R H 107 (by decide) (by omega)) ?_
    rintro _ _ ⟨rfl, rfl⟩
    by_cases hi12 : zch T n p = 107
    · rw [if_pos hi12]
      refine Wp.run 6 (4, [(2, .int 2), (1, .int 1), (0, .ref 66)], [], (zsh ++ vs, m, ml, (zmr g))) rfl ?_
      refine Wp.run 8 (17, [(2, .int 2), (1, .int 1), (0, .ref 66)], [.int (m 75 2), .ref 66], (zsh ++ vs, m, ml, (zmr g))) rfl ?_
      rw [show m 75 2 = 118 from by rw [H.1 75 (by decide)]; exact R.2.2.2.2.1.2.2.1]
      refine Wp.run 0 (17, [(2, .int 2), (1, .int 1), (0, .ref 66)], [.int 118, .ref 66], (zsh ++ vs, m, ml, (zmr g))) rfl ?_
      refine Wp.call (as := [.ref 66, .int 118]) (rest := []) rfl rfl rfl rfl rfl (Nat.le_of_ble_eq_true rfl) (Nat.le_of_ble_eq_true rfl) rfl (by decide) (m_isAtG R H 118 (by decide) (by omega)) ?_
      rintro _ _ ⟨rfl, rfl⟩
      rw [if_neg (show ¬ zch T n p = 118 by rw [hi12]; decide)]
      refine Wp.run 5 (4, [(2, .int 3), (1, .int 1), (0, .ref 66)], [], (zsh ++ vs, m, ml, (zmr g))) rfl ?_
      refine Wp.run 8 (17, [(2, .int 3), (1, .int 1), (0, .ref 66)], [.int (m 75 3), .ref 66], (zsh ++ vs, m, ml, (zmr g))) rfl ?_
      rw [show m 75 3 = 110 from by rw [H.1 75 (by decide)]; exact R.2.2.2.2.1.2.2.2.1]
      refine Wp.run 0 (17, [(2, .int 3), (1, .int 1), (0, .ref 66)], [.int 110, .ref 66], (zsh ++ vs, m, ml, (zmr g))) rfl ?_
      refine Wp.call (as := [.ref 66, .int 110]) (rest := []) rfl rfl rfl rfl rfl (Nat.le_of_ble_eq_true rfl) (Nat.le_of_ble_eq_true rfl) rfl (by decide) (m_isAtG R H 110 (by decide) (by omega)) ?_
      rintro _ _ ⟨rfl, rfl⟩
      rw [if_neg (show ¬ zch T n p = 110 by rw [hi12]; decide)]
      refine Wp.run 5 (4, [(2, .int 4), (1, .int 1), (0, .ref 66)], [], (zsh ++ vs, m, ml, (zmr g))) rfl ?_
      refine Wp.run 8 (17, [(2, .int 4), (1, .int 1), (0, .ref 66)], [.int (m 75 4), .ref 66], (zsh ++ vs, m, ml, (zmr g))) rfl ?_
      rw [show m 75 4 = 109 from by rw [H.1 75 (by decide)]; exact R.2.2.2.2.1.2.2.2.2.1]
      refine Wp.run 0 (17, [(2, .int 4), (1, .int 1), (0, .ref 66)], [.int 109, .ref 66], (zsh ++ vs, m, ml, (zmr g))) rfl ?_
      refine Wp.call (as := [.ref 66, .int 109]) (rest := []) rfl rfl rfl rfl rfl (Nat.le_of_ble_eq_true rfl) (Nat.le_of_ble_eq_true rfl) rfl (by decide) (m_isAtG R H 109 (by decide) (by omega)) ?_
      rintro _ _ ⟨rfl, rfl⟩
      rw [if_neg (show ¬ zch T n p = 109 by rw [hi12]; decide)]
      refine Wp.run 5 (4, [(2, .int 5), (1, .int 1), (0, .ref 66)], [], (zsh ++ vs, m, ml, (zmr g))) rfl ?_
      refine Wp.run 8 (17, [(2, .int 5), (1, .int 1), (0, .ref 66)], [.int (m 75 5), .ref 66], (zsh ++ vs, m, ml, (zmr g))) rfl ?_
      rw [show m 75 5 = 100 from by rw [H.1 75 (by decide)]; exact R.2.2.2.2.1.2.2.2.2.2]
      refine Wp.run 0 (17, [(2, .int 5), (1, .int 1), (0, .ref 66)], [.int 100, .ref 66], (zsh ++ vs, m, ml, (zmr g))) rfl ?_
      refine Wp.call (as := [.ref 66, .int 100]) (rest := []) rfl rfl rfl rfl rfl (Nat.le_of_ble_eq_true rfl) (Nat.le_of_ble_eq_true rfl) rfl (by decide) (m_isAtG R H 100 (by decide) (by omega)) ?_
      rintro _ _ ⟨rfl, rfl⟩
      rw [if_neg (show ¬ zch T n p = 100 by rw [hi12]; decide)]
      refine Wp.run 5 (4, [(2, .int 6), (1, .int 1), (0, .ref 66)], [], (zsh ++ vs, m, ml, (zmr g))) rfl ?_
      refine Wp.run 6 (47, [(2, .int 6), (1, .int 1), (0, .ref 66)], [], (zsh ++ vs, m, ml, (zmr g))) rfl ?_
      refine Wp.sub (a := [(0, .ref 66), (1, .int (nI 1))]) (zle_cons rfl (zle_cons rfl (zle_nil))) ?_
      exact m_test_t R H hpn (l := 1) (by rw [hi12]; rfl)
    · rw [if_neg hi12]
      refine Wp.run 5 (4, [(2, .int 2), (1, .int (-1)), (0, .ref 66)], [], (zsh ++ vs, m, ml, (zmr g))) rfl ?_
      refine Wp.run 8 (17, [(2, .int 2), (1, .int (-1)), (0, .ref 66)], [.int (m 75 2), .ref 66], (zsh ++ vs, m, ml, (zmr g))) rfl ?_
      rw [show m 75 2 = 118 from by rw [H.1 75 (by decide)]; exact R.2.2.2.2.1.2.2.1]
      refine Wp.run 0 (17, [(2, .int 2), (1, .int (-1)), (0, .ref 66)], [.int 118, .ref 66], (zsh ++ vs, m, ml, (zmr g))) rfl ?_
      refine Wp.call (as := [.ref 66, .int 118]) (rest := []) rfl rfl rfl rfl rfl (Nat.le_of_ble_eq_true rfl) (Nat.le_of_ble_eq_true rfl) rfl (by decide) (m_isAtG R H 118 (by decide) (by omega)) ?_
      rintro _ _ ⟨rfl, rfl⟩
      by_cases hi13 : zch T n p = 118
      · rw [if_pos hi13]
        refine Wp.run 6 (4, [(2, .int 3), (1, .int 2), (0, .ref 66)], [], (zsh ++ vs, m, ml, (zmr g))) rfl ?_
        refine Wp.run 8 (17, [(2, .int 3), (1, .int 2), (0, .ref 66)], [.int (m 75 3), .ref 66], (zsh ++ vs, m, ml, (zmr g))) rfl ?_
        rw [show m 75 3 = 110 from by rw [H.1 75 (by decide)]; exact R.2.2.2.2.1.2.2.2.1]
        refine Wp.run 0 (17, [(2, .int 3), (1, .int 2), (0, .ref 66)], [.int 110, .ref 66], (zsh ++ vs, m, ml, (zmr g))) rfl ?_
        refine Wp.call (as := [.ref 66, .int 110]) (rest := []) rfl rfl rfl rfl rfl (Nat.le_of_ble_eq_true rfl) (Nat.le_of_ble_eq_true rfl) rfl (by decide) (m_isAtG R H 110 (by decide) (by omega)) ?_
        rintro _ _ ⟨rfl, rfl⟩
        rw [if_neg (show ¬ zch T n p = 110 by rw [hi13]; decide)]
        refine Wp.run 5 (4, [(2, .int 4), (1, .int 2), (0, .ref 66)], [], (zsh ++ vs, m, ml, (zmr g))) rfl ?_
        refine Wp.run 8 (17, [(2, .int 4), (1, .int 2), (0, .ref 66)], [.int (m 75 4), .ref 66], (zsh ++ vs, m, ml, (zmr g))) rfl ?_
        rw [show m 75 4 = 109 from by rw [H.1 75 (by decide)]; exact R.2.2.2.2.1.2.2.2.2.1]
        refine Wp.run 0 (17, [(2, .int 4), (1, .int 2), (0, .ref 66)], [.int 109, .ref 66], (zsh ++ vs, m, ml, (zmr g))) rfl ?_
        refine Wp.call (as := [.ref 66, .int 109]) (rest := []) rfl rfl rfl rfl rfl (Nat.le_of_ble_eq_true rfl) (Nat.le_of_ble_eq_true rfl) rfl (by decide) (m_isAtG R H 109 (by decide) (by omega)) ?_
        rintro _ _ ⟨rfl, rfl⟩
        rw [if_neg (show ¬ zch T n p = 109 by rw [hi13]; decide)]
        refine Wp.run 5 (4, [(2, .int 5), (1, .int 2), (0, .ref 66)], [], (zsh ++ vs, m, ml, (zmr g))) rfl ?_
        refine Wp.run 8 (17, [(2, .int 5), (1, .int 2), (0, .ref 66)], [.int (m 75 5), .ref 66], (zsh ++ vs, m, ml, (zmr g))) rfl ?_
        rw [show m 75 5 = 100 from by rw [H.1 75 (by decide)]; exact R.2.2.2.2.1.2.2.2.2.2]
        refine Wp.run 0 (17, [(2, .int 5), (1, .int 2), (0, .ref 66)], [.int 100, .ref 66], (zsh ++ vs, m, ml, (zmr g))) rfl ?_
        refine Wp.call (as := [.ref 66, .int 100]) (rest := []) rfl rfl rfl rfl rfl (Nat.le_of_ble_eq_true rfl) (Nat.le_of_ble_eq_true rfl) rfl (by decide) (m_isAtG R H 100 (by decide) (by omega)) ?_
        rintro _ _ ⟨rfl, rfl⟩
        rw [if_neg (show ¬ zch T n p = 100 by rw [hi13]; decide)]
        refine Wp.run 5 (4, [(2, .int 6), (1, .int 2), (0, .ref 66)], [], (zsh ++ vs, m, ml, (zmr g))) rfl ?_
        refine Wp.run 6 (47, [(2, .int 6), (1, .int 2), (0, .ref 66)], [], (zsh ++ vs, m, ml, (zmr g))) rfl ?_
        refine Wp.sub (a := [(0, .ref 66), (1, .int (nI 2))]) (zle_cons rfl (zle_cons rfl (zle_nil))) ?_
        exact m_test_t R H hpn (l := 2) (by rw [hi13]; rfl)
      · rw [if_neg hi13]
        refine Wp.run 5 (4, [(2, .int 3), (1, .int (-1)), (0, .ref 66)], [], (zsh ++ vs, m, ml, (zmr g))) rfl ?_
        refine Wp.run 8 (17, [(2, .int 3), (1, .int (-1)), (0, .ref 66)], [.int (m 75 3), .ref 66], (zsh ++ vs, m, ml, (zmr g))) rfl ?_
        rw [show m 75 3 = 110 from by rw [H.1 75 (by decide)]; exact R.2.2.2.2.1.2.2.2.1]
        refine Wp.run 0 (17, [(2, .int 3), (1, .int (-1)), (0, .ref 66)], [.int 110, .ref 66], (zsh ++ vs, m, ml, (zmr g))) rfl ?_
        refine Wp.call (as := [.ref 66, .int 110]) (rest := []) rfl rfl rfl rfl rfl (Nat.le_of_ble_eq_true rfl) (Nat.le_of_ble_eq_true rfl) rfl (by decide) (m_isAtG R H 110 (by decide) (by omega)) ?_
        rintro _ _ ⟨rfl, rfl⟩
        by_cases hi14 : zch T n p = 110
        · rw [if_pos hi14]
          refine Wp.run 6 (4, [(2, .int 4), (1, .int 3), (0, .ref 66)], [], (zsh ++ vs, m, ml, (zmr g))) rfl ?_
          refine Wp.run 8 (17, [(2, .int 4), (1, .int 3), (0, .ref 66)], [.int (m 75 4), .ref 66], (zsh ++ vs, m, ml, (zmr g))) rfl ?_
          rw [show m 75 4 = 109 from by rw [H.1 75 (by decide)]; exact R.2.2.2.2.1.2.2.2.2.1]
          refine Wp.run 0 (17, [(2, .int 4), (1, .int 3), (0, .ref 66)], [.int 109, .ref 66], (zsh ++ vs, m, ml, (zmr g))) rfl ?_
          refine Wp.call (as := [.ref 66, .int 109]) (rest := []) rfl rfl rfl rfl rfl (Nat.le_of_ble_eq_true rfl) (Nat.le_of_ble_eq_true rfl) rfl (by decide) (m_isAtG R H 109 (by decide) (by omega)) ?_
          rintro _ _ ⟨rfl, rfl⟩
          rw [if_neg (show ¬ zch T n p = 109 by rw [hi14]; decide)]
          refine Wp.run 5 (4, [(2, .int 5), (1, .int 3), (0, .ref 66)], [], (zsh ++ vs, m, ml, (zmr g))) rfl ?_
          refine Wp.run 8 (17, [(2, .int 5), (1, .int 3), (0, .ref 66)], [.int (m 75 5), .ref 66], (zsh ++ vs, m, ml, (zmr g))) rfl ?_
          rw [show m 75 5 = 100 from by rw [H.1 75 (by decide)]; exact R.2.2.2.2.1.2.2.2.2.2]
          refine Wp.run 0 (17, [(2, .int 5), (1, .int 3), (0, .ref 66)], [.int 100, .ref 66], (zsh ++ vs, m, ml, (zmr g))) rfl ?_
          refine Wp.call (as := [.ref 66, .int 100]) (rest := []) rfl rfl rfl rfl rfl (Nat.le_of_ble_eq_true rfl) (Nat.le_of_ble_eq_true rfl) rfl (by decide) (m_isAtG R H 100 (by decide) (by omega)) ?_
          rintro _ _ ⟨rfl, rfl⟩
          rw [if_neg (show ¬ zch T n p = 100 by rw [hi14]; decide)]
          refine Wp.run 5 (4, [(2, .int 6), (1, .int 3), (0, .ref 66)], [], (zsh ++ vs, m, ml, (zmr g))) rfl ?_
          refine Wp.run 6 (47, [(2, .int 6), (1, .int 3), (0, .ref 66)], [], (zsh ++ vs, m, ml, (zmr g))) rfl ?_
          refine Wp.sub (a := [(0, .ref 66), (1, .int (nI 3))]) (zle_cons rfl (zle_cons rfl (zle_nil))) ?_
          exact m_test_t R H hpn (l := 3) (by rw [hi14]; rfl)
        · rw [if_neg hi14]
          refine Wp.run 5 (4, [(2, .int 4), (1, .int (-1)), (0, .ref 66)], [], (zsh ++ vs, m, ml, (zmr g))) rfl ?_
          refine Wp.run 8 (17, [(2, .int 4), (1, .int (-1)), (0, .ref 66)], [.int (m 75 4), .ref 66], (zsh ++ vs, m, ml, (zmr g))) rfl ?_
          rw [show m 75 4 = 109 from by rw [H.1 75 (by decide)]; exact R.2.2.2.2.1.2.2.2.2.1]
          refine Wp.run 0 (17, [(2, .int 4), (1, .int (-1)), (0, .ref 66)], [.int 109, .ref 66], (zsh ++ vs, m, ml, (zmr g))) rfl ?_
          refine Wp.call (as := [.ref 66, .int 109]) (rest := []) rfl rfl rfl rfl rfl (Nat.le_of_ble_eq_true rfl) (Nat.le_of_ble_eq_true rfl) rfl (by decide) (m_isAtG R H 109 (by decide) (by omega)) ?_
          rintro _ _ ⟨rfl, rfl⟩
          by_cases hi15 : zch T n p = 109
          · rw [if_pos hi15]
            refine Wp.run 6 (4, [(2, .int 5), (1, .int 4), (0, .ref 66)], [], (zsh ++ vs, m, ml, (zmr g))) rfl ?_
            refine Wp.run 8 (17, [(2, .int 5), (1, .int 4), (0, .ref 66)], [.int (m 75 5), .ref 66], (zsh ++ vs, m, ml, (zmr g))) rfl ?_
            rw [show m 75 5 = 100 from by rw [H.1 75 (by decide)]; exact R.2.2.2.2.1.2.2.2.2.2]
            refine Wp.run 0 (17, [(2, .int 5), (1, .int 4), (0, .ref 66)], [.int 100, .ref 66], (zsh ++ vs, m, ml, (zmr g))) rfl ?_
            refine Wp.call (as := [.ref 66, .int 100]) (rest := []) rfl rfl rfl rfl rfl (Nat.le_of_ble_eq_true rfl) (Nat.le_of_ble_eq_true rfl) rfl (by decide) (m_isAtG R H 100 (by decide) (by omega)) ?_
            rintro _ _ ⟨rfl, rfl⟩
            rw [if_neg (show ¬ zch T n p = 100 by rw [hi15]; decide)]
            refine Wp.run 5 (4, [(2, .int 6), (1, .int 4), (0, .ref 66)], [], (zsh ++ vs, m, ml, (zmr g))) rfl ?_
            refine Wp.run 6 (47, [(2, .int 6), (1, .int 4), (0, .ref 66)], [], (zsh ++ vs, m, ml, (zmr g))) rfl ?_
            refine Wp.sub (a := [(0, .ref 66), (1, .int (nI 4))]) (zle_cons rfl (zle_cons rfl (zle_nil))) ?_
            exact m_test_t R H hpn (l := 4) (by rw [hi15]; rfl)
          · rw [if_neg hi15]
            refine Wp.run 5 (4, [(2, .int 5), (1, .int (-1)), (0, .ref 66)], [], (zsh ++ vs, m, ml, (zmr g))) rfl ?_
            refine Wp.run 8 (17, [(2, .int 5), (1, .int (-1)), (0, .ref 66)], [.int (m 75 5), .ref 66], (zsh ++ vs, m, ml, (zmr g))) rfl ?_
            rw [show m 75 5 = 100 from by rw [H.1 75 (by decide)]; exact R.2.2.2.2.1.2.2.2.2.2]
            refine Wp.run 0 (17, [(2, .int 5), (1, .int (-1)), (0, .ref 66)], [.int 100, .ref 66], (zsh ++ vs, m, ml, (zmr g))) rfl ?_
            refine Wp.call (as := [.ref 66, .int 100]) (rest := []) rfl rfl rfl rfl rfl (Nat.le_of_ble_eq_true rfl) (Nat.le_of_ble_eq_true rfl) rfl (by decide) (m_isAtG R H 100 (by decide) (by omega)) ?_
            rintro _ _ ⟨rfl, rfl⟩
            by_cases hi16 : zch T n p = 100
            · rw [if_pos hi16]
              refine Wp.run 6 (4, [(2, .int 6), (1, .int 5), (0, .ref 66)], [], (zsh ++ vs, m, ml, (zmr g))) rfl ?_
              refine Wp.run 6 (47, [(2, .int 6), (1, .int 5), (0, .ref 66)], [], (zsh ++ vs, m, ml, (zmr g))) rfl ?_
              refine Wp.sub (a := [(0, .ref 66), (1, .int (nI 5))]) (zle_cons rfl (zle_cons rfl (zle_nil))) ?_
              exact m_test_t R H hpn (l := 5) (by rw [hi16]; rfl)
            · rw [if_neg hi16]
              refine Wp.run 5 (4, [(2, .int 6), (1, .int (-1)), (0, .ref 66)], [], (zsh ++ vs, m, ml, (zmr g))) rfl ?_
              refine Wp.run 10 (46, [(2, .int 6), (1, .int (-1)), (0, .ref 66)], [.int 0], (zsh ++ vs, (zup m 66 12 0), ml, (zmr g))) rfl ?_
              refine Wp.ret rfl rfl rfl ?_
              rw [ztest_l (show zlt (zch T n p) = none by rw [zlt, if_neg hi11, if_neg hi12, if_neg hi13, if_neg hi14, if_neg hi15, if_neg hi16])]
              exact ⟨_, rfl, Or.inr ⟨rfl, Or.inl rfl, H.bad⟩⟩
theorem m_testB {E : zEn} {vs : List (Nat × Nat)} {mi : Nat → Nat → Int32} {ml : Nat → Nat → Int64} {g : Nat → Nat → Option Nat} {T : Nat → Int32} {n : Nat} {nm : Nat → Int32} (R : RM T n nm mi) {m : Nat → Nat → Int32} {p d : Nat} {s a : Int32} (H : MS mi m p 0 d s a) : Wp E 2 pg_M_test 0 (lv_args 0 [.ref 66]) [] (zsh ++ vs, m, ml, (zmr g)) (fun r w' => r = some (.int 0) ∧ ∃ m', w' = (zsh ++ vs, m', ml, zmr g) ∧ MS mi m' p 0 d s a) := by
  refine Wp.run 12 (17, [(2, .int 0), (1, .int (-1)), (0, .ref 66)], [.int (m 75 0), .ref 66], (zsh ++ vs, m, ml, (zmr g))) rfl ?_
  rw [show m 75 0 = 112 from by rw [H.1 75 (by decide)]; exact R.2.2.2.2.1.1]
  refine Wp.run 0 (17, [(2, .int 0), (1, .int (-1)), (0, .ref 66)], [.int 112, .ref 66], (zsh ++ vs, m, ml, (zmr g))) rfl ?_
  refine Wp.call (as := [.ref 66, .int 112]) (rest := []) rfl rfl rfl rfl rfl (Nat.le_of_ble_eq_true rfl) (Nat.le_of_ble_eq_true rfl) rfl (by decide) (m_isAtB R H 112) ?_
  rintro _ _ ⟨rfl, rfl⟩
  refine Wp.run 5 (4, [(2, .int 1), (1, .int (-1)), (0, .ref 66)], [], (zsh ++ vs, m, ml, (zmr g))) rfl ?_
  refine Wp.run 8 (17, [(2, .int 1), (1, .int (-1)), (0, .ref 66)], [.int (m 75 1), .ref 66], (zsh ++ vs, m, ml, (zmr g))) rfl ?_
  rw [show m 75 1 = 107 from by rw [H.1 75 (by decide)]; exact R.2.2.2.2.1.2.1]
  refine Wp.run 0 (17, [(2, .int 1), (1, .int (-1)), (0, .ref 66)], [.int 107, .ref 66], (zsh ++ vs, m, ml, (zmr g))) rfl ?_
  refine Wp.call (as := [.ref 66, .int 107]) (rest := []) rfl rfl rfl rfl rfl (Nat.le_of_ble_eq_true rfl) (Nat.le_of_ble_eq_true rfl) rfl (by decide) (m_isAtB R H 107) ?_
  rintro _ _ ⟨rfl, rfl⟩
  refine Wp.run 5 (4, [(2, .int 2), (1, .int (-1)), (0, .ref 66)], [], (zsh ++ vs, m, ml, (zmr g))) rfl ?_
  refine Wp.run 8 (17, [(2, .int 2), (1, .int (-1)), (0, .ref 66)], [.int (m 75 2), .ref 66], (zsh ++ vs, m, ml, (zmr g))) rfl ?_
  rw [show m 75 2 = 118 from by rw [H.1 75 (by decide)]; exact R.2.2.2.2.1.2.2.1]
  refine Wp.run 0 (17, [(2, .int 2), (1, .int (-1)), (0, .ref 66)], [.int 118, .ref 66], (zsh ++ vs, m, ml, (zmr g))) rfl ?_
  refine Wp.call (as := [.ref 66, .int 118]) (rest := []) rfl rfl rfl rfl rfl (Nat.le_of_ble_eq_true rfl) (Nat.le_of_ble_eq_true rfl) rfl (by decide) (m_isAtB R H 118) ?_
  rintro _ _ ⟨rfl, rfl⟩
  refine Wp.run 5 (4, [(2, .int 3), (1, .int (-1)), (0, .ref 66)], [], (zsh ++ vs, m, ml, (zmr g))) rfl ?_
  refine Wp.run 8 (17, [(2, .int 3), (1, .int (-1)), (0, .ref 66)], [.int (m 75 3), .ref 66], (zsh ++ vs, m, ml, (zmr g))) rfl ?_
  rw [show m 75 3 = 110 from by rw [H.1 75 (by decide)]; exact R.2.2.2.2.1.2.2.2.1]
  refine Wp.run 0 (17, [(2, .int 3), (1, .int (-1)), (0, .ref 66)], [.int 110, .ref 66], (zsh ++ vs, m, ml, (zmr g))) rfl ?_
  refine Wp.call (as := [.ref 66, .int 110]) (rest := []) rfl rfl rfl rfl rfl (Nat.le_of_ble_eq_true rfl) (Nat.le_of_ble_eq_true rfl) rfl (by decide) (m_isAtB R H 110) ?_
  rintro _ _ ⟨rfl, rfl⟩
  refine Wp.run 5 (4, [(2, .int 4), (1, .int (-1)), (0, .ref 66)], [], (zsh ++ vs, m, ml, (zmr g))) rfl ?_
  refine Wp.run 8 (17, [(2, .int 4), (1, .int (-1)), (0, .ref 66)], [.int (m 75 4), .ref 66], (zsh ++ vs, m, ml, (zmr g))) rfl ?_
  rw [show m 75 4 = 109 from by rw [H.1 75 (by decide)]; exact R.2.2.2.2.1.2.2.2.2.1]
  refine Wp.run 0 (17, [(2, .int 4), (1, .int (-1)), (0, .ref 66)], [.int 109, .ref 66], (zsh ++ vs, m, ml, (zmr g))) rfl ?_
  refine Wp.call (as := [.ref 66, .int 109]) (rest := []) rfl rfl rfl rfl rfl (Nat.le_of_ble_eq_true rfl) (Nat.le_of_ble_eq_true rfl) rfl (by decide) (m_isAtB R H 109) ?_
  rintro _ _ ⟨rfl, rfl⟩
  refine Wp.run 5 (4, [(2, .int 5), (1, .int (-1)), (0, .ref 66)], [], (zsh ++ vs, m, ml, (zmr g))) rfl ?_
  refine Wp.run 8 (17, [(2, .int 5), (1, .int (-1)), (0, .ref 66)], [.int (m 75 5), .ref 66], (zsh ++ vs, m, ml, (zmr g))) rfl ?_
  rw [show m 75 5 = 100 from by rw [H.1 75 (by decide)]; exact R.2.2.2.2.1.2.2.2.2.2]
  refine Wp.run 0 (17, [(2, .int 5), (1, .int (-1)), (0, .ref 66)], [.int 100, .ref 66], (zsh ++ vs, m, ml, (zmr g))) rfl ?_
  refine Wp.call (as := [.ref 66, .int 100]) (rest := []) rfl rfl rfl rfl rfl (Nat.le_of_ble_eq_true rfl) (Nat.le_of_ble_eq_true rfl) rfl (by decide) (m_isAtB R H 100) ?_
  rintro _ _ ⟨rfl, rfl⟩
  refine Wp.run 5 (4, [(2, .int 6), (1, .int (-1)), (0, .ref 66)], [], (zsh ++ vs, m, ml, (zmr g))) rfl ?_
  refine Wp.run 10 (46, [(2, .int 6), (1, .int (-1)), (0, .ref 66)], [.int 0], (zsh ++ vs, (zup m 66 12 0), ml, (zmr g))) rfl ?_
  refine Wp.ret rfl rfl rfl ?_
  exact ⟨rfl, _, rfl, H.bad⟩
theorem m_factorB {E : zEn} {vs : List (Nat × Nat)} {mi : Nat → Nat → Int32} {ml : Nat → Nat → Int64} {g : Nat → Nat → Option Nat} {T : Nat → Int32} {n : Nat} {nm : Nat → Int32} (R : RM T n nm mi) {m : Nat → Nat → Int32} {p d : Nat} {s a : Int32} (H : MS mi m p 0 d s a) : Wp E 3 pg_M_factor 0 (lv_args 0 [.ref 66]) [] (zsh ++ vs, m, ml, (zmr g)) (fun r w' => r = some (.int 0) ∧ ∃ m', w' = (zsh ++ vs, m', ml, zmr g) ∧ MS mi m' p 0 d s a) := by
  refine Wp.run 3 (5, [(0, .ref 66)], [.int 4, .int (m 66 13)], (zsh ++ vs, m, ml, (zmr g))) rfl ?_
  refine Wp.icmp_ge rfl (fun h1 => ?_) (fun h1 => ?_)
  · refine Wp.run 3 (68, [(0, .ref 66)], [.int 4, .int (m 66 13)], (zsh ++ vs, m, ml, (zmr g))) rfl ?_
    refine Wp.icmp_ge rfl (fun h2 => ?_) (fun h2 => ?_)
    · refine Wp.run 1 (125, [(0, .ref 66)], [.ref 66], (zsh ++ vs, m, ml, (zmr g))) rfl ?_
      refine Wp.call (as := [.ref 66]) (rest := []) rfl rfl rfl rfl rfl (Nat.le_of_ble_eq_true rfl) (Nat.le_of_ble_eq_true rfl) rfl (by decide) (m_testB R H) ?_
      rintro _ _ ⟨rfl, m17, rfl, H17⟩
      refine Wp.run 2 (130, [(1, .int 0), (0, .ref 66)], [.int 0], (zsh ++ vs, m17, ml, (zmr g))) rfl ?_
      refine Wp.ret rfl rfl rfl ?_
      exact ⟨rfl, _, rfl, H17⟩
    · refine Wp.run 2 (74, [(0, .ref 66)], [.int 40, .ref 66], (zsh ++ vs, m, ml, (zmr g))) rfl ?_
      refine Wp.call (as := [.ref 66, .int 40]) (rest := []) rfl rfl rfl rfl rfl (Nat.le_of_ble_eq_true rfl) (Nat.le_of_ble_eq_true rfl) rfl (by decide) (m_isAtB R H 40) ?_
      rintro _ _ ⟨rfl, rfl⟩
      refine Wp.run 2 (125, [(0, .ref 66)], [.ref 66], (zsh ++ vs, m, ml, (zmr g))) rfl ?_
      refine Wp.call (as := [.ref 66]) (rest := []) rfl rfl rfl rfl rfl (Nat.le_of_ble_eq_true rfl) (Nat.le_of_ble_eq_true rfl) rfl (by decide) (m_testB R H) ?_
      rintro _ _ ⟨rfl, m18, rfl, H18⟩
      refine Wp.run 2 (130, [(1, .int 0), (0, .ref 66)], [.int 0], (zsh ++ vs, m18, ml, (zmr g))) rfl ?_
      refine Wp.ret rfl rfl rfl ?_
      exact ⟨rfl, _, rfl, H18⟩
  · refine Wp.run 2 (11, [(0, .ref 66)], [.int 33, .ref 66], (zsh ++ vs, m, ml, (zmr g))) rfl ?_
    refine Wp.call (as := [.ref 66, .int 33]) (rest := []) rfl rfl rfl rfl rfl (Nat.le_of_ble_eq_true rfl) (Nat.le_of_ble_eq_true rfl) rfl (by decide) (m_isAtB R H 33) ?_
    rintro _ _ ⟨rfl, rfl⟩
    refine Wp.run 4 (68, [(0, .ref 66)], [.int 4, .int (m 66 13)], (zsh ++ vs, m, ml, (zmr g))) rfl ?_
    refine Wp.icmp_ge rfl (fun h3 => ?_) (fun h3 => ?_)
    · refine Wp.run 1 (125, [(0, .ref 66)], [.ref 66], (zsh ++ vs, m, ml, (zmr g))) rfl ?_
      refine Wp.call (as := [.ref 66]) (rest := []) rfl rfl rfl rfl rfl (Nat.le_of_ble_eq_true rfl) (Nat.le_of_ble_eq_true rfl) rfl (by decide) (m_testB R H) ?_
      rintro _ _ ⟨rfl, m19, rfl, H19⟩
      refine Wp.run 2 (130, [(1, .int 0), (0, .ref 66)], [.int 0], (zsh ++ vs, m19, ml, (zmr g))) rfl ?_
      refine Wp.ret rfl rfl rfl ?_
      exact ⟨rfl, _, rfl, H19⟩
    · refine Wp.run 2 (74, [(0, .ref 66)], [.int 40, .ref 66], (zsh ++ vs, m, ml, (zmr g))) rfl ?_
      refine Wp.call (as := [.ref 66, .int 40]) (rest := []) rfl rfl rfl rfl rfl (Nat.le_of_ble_eq_true rfl) (Nat.le_of_ble_eq_true rfl) rfl (by decide) (m_isAtB R H 40) ?_
      rintro _ _ ⟨rfl, rfl⟩
      refine Wp.run 2 (125, [(0, .ref 66)], [.ref 66], (zsh ++ vs, m, ml, (zmr g))) rfl ?_
      refine Wp.call (as := [.ref 66]) (rest := []) rfl rfl rfl rfl rfl (Nat.le_of_ble_eq_true rfl) (Nat.le_of_ble_eq_true rfl) rfl (by decide) (m_testB R H) ?_
      rintro _ _ ⟨rfl, m20, rfl, H20⟩
      refine Wp.run 2 (130, [(1, .int 0), (0, .ref 66)], [.int 0], (zsh ++ vs, m20, ml, (zmr g))) rfl ?_
      refine Wp.ret rfl rfl rfl ?_
      exact ⟨rfl, _, rfl, H20⟩
theorem m_bothB {E : zEn} {vs : List (Nat × Nat)} {mi : Nat → Nat → Int32} {ml : Nat → Nat → Int64} {g : Nat → Nat → Option Nat} {T : Nat → Int32} {n : Nat} {nm : Nat → Int32} (R : RM T n nm mi) {m : Nat → Nat → Int32} {p d : Nat} {s a : Int32} (H : MS mi m p 0 d s a) : Wp E 4 pg_M_both 0 (lv_args 0 [.ref 66]) [] (zsh ++ vs, m, ml, (zmr g)) (fun r w' => r = some (.int 0) ∧ ∃ m', w' = (zsh ++ vs, m', ml, zmr g) ∧ MS mi m' p 0 d s a) := by
  refine Wp.run 1 (1, [(0, .ref 66)], [.ref 66], (zsh ++ vs, m, ml, (zmr g))) rfl ?_
  refine Wp.call (as := [.ref 66]) (rest := []) rfl rfl rfl rfl rfl (Nat.le_of_ble_eq_true rfl) (Nat.le_of_ble_eq_true rfl) rfl (by decide) (m_factorB R H) ?_
  rintro _ _ ⟨rfl, m21, rfl, H21⟩
  refine Wp.run 3 (8, [(1, .int 0), (0, .ref 66)], [.int 38, .ref 66], (zsh ++ vs, m21, ml, (zmr g))) rfl ?_
  refine Wp.call (as := [.ref 66, .int 38]) (rest := []) rfl rfl rfl rfl rfl (Nat.le_of_ble_eq_true rfl) (Nat.le_of_ble_eq_true rfl) rfl (by decide) (m_isAtB R H21 38) ?_
  rintro _ _ ⟨rfl, rfl⟩
  refine Wp.run 2 (47, [(1, .int 0), (0, .ref 66)], [.int 0], (zsh ++ vs, m21, ml, (zmr g))) rfl ?_
  refine Wp.ret rfl rfl rfl ?_
  exact ⟨rfl, _, rfl, H21⟩
theorem m_anyB {E : zEn} {vs : List (Nat × Nat)} {mi : Nat → Nat → Int32} {ml : Nat → Nat → Int64} {g : Nat → Nat → Option Nat} {T : Nat → Int32} {n : Nat} {nm : Nat → Int32} (R : RM T n nm mi) {m : Nat → Nat → Int32} {p d : Nat} {s a : Int32} (H : MS mi m p 0 d s a) : Wp E 5 pg_M_any 0 (lv_args 0 [.ref 66]) [] (zsh ++ vs, m, ml, (zmr g)) (fun r w' => r = some (.int 0) ∧ ∃ m', w' = (zsh ++ vs, m', ml, zmr g) ∧ MS mi m' p 0 d s a) := by
  refine Wp.run 1 (1, [(0, .ref 66)], [.ref 66], (zsh ++ vs, m, ml, (zmr g))) rfl ?_
  refine Wp.call (as := [.ref 66]) (rest := []) rfl rfl rfl rfl rfl (Nat.le_of_ble_eq_true rfl) (Nat.le_of_ble_eq_true rfl) rfl (by decide) (m_bothB R H) ?_
  rintro _ _ ⟨rfl, m22, rfl, H22⟩
  refine Wp.run 3 (8, [(1, .int 0), (0, .ref 66)], [.int 124, .ref 66], (zsh ++ vs, m22, ml, (zmr g))) rfl ?_
  refine Wp.call (as := [.ref 66, .int 124]) (rest := []) rfl rfl rfl rfl rfl (Nat.le_of_ble_eq_true rfl) (Nat.le_of_ble_eq_true rfl) rfl (by decide) (m_isAtB R H22 124) ?_
  rintro _ _ ⟨rfl, rfl⟩
  refine Wp.run 2 (47, [(1, .int 0), (0, .ref 66)], [.int 0], (zsh ++ vs, m22, ml, (zmr g))) rfl ?_
  refine Wp.ret rfl rfl rfl ?_
  exact ⟨rfl, _, rfl, H22⟩
