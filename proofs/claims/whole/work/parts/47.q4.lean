/-! THE REFERENCE'S READER: clauses and all of a text -/
theorem b_ne {x : Bool} (h : ¬ (if x = true then (1 : Int32) else 0) = 0) : x = true := by
  revert h
  cases x <;> decide
theorem b_eq {x : Bool} (h : (if x = true then (1 : Int32) else 0) = 0) : ¬ x = true := by
  revert h
  cases x <;> decide
/-- what a clause leaves -/
def mC (mi : Nat → Nat → Int32) (nm : Nat → Int32) (s : Int32) (A : Nat) (vs : List (Nat × Nat)) (ml : Nat → Nat → Int64) (g : Nat → Nat → Option Nat) (res : Option zC × Nat) (r : Option Value) (w' : zW) : Prop :=
  r = none ∧ ∃ m' d', w' = (zsh ++ vs, m', ml, zmr g) ∧ ((∃ c, res.1 = some c ∧ MS mi m' res.2 1 d' (s + c.2.1 nm) (nI (c.2.2.getD A))) ∨ (res.1 = none ∧ ∃ s' a', MS mi m' res.2 0 d' s' a'))
set_option maxHeartbeats 2000000 in
theorem m_clause {E : zEn} {vs : List (Nat × Nat)} {mi : Nat → Nat → Int32} {ml : Nat → Nat → Int64} {g : Nat → Nat → Option Nat} {T : Nat → Int32} {n : Nat} {nm : Nat → Int32} (R : RM T n nm mi) {m : Nat → Nat → Int32} {p d A : Nat} {s : Int32} (H : MS mi m p 1 d s (nI A)) (hpn : p ≤ n) : Wp E 18 pg_M_clause 0 (lv_args 0 [.ref 66]) [] (zsh ++ vs, m, ml, zmr g) (mC mi nm s A vs ml g (zcla T n p)) := by
  have hR := R.2.1
  refine Wp.run 12 (16, [(2, .int 0), (1, .int (-1)), (0, .ref 66)], [.int (m 76 0), .ref 66], (zsh ++ vs, m, ml, (zmr g))) rfl ?_
  rw [show m 76 0 = 104 from by rw [H.1 76 (by decide)]; exact R.2.2.2.2.2.1.1]
  refine Wp.run 0 (16, [(2, .int 0), (1, .int (-1)), (0, .ref 66)], [.int 104, .ref 66], (zsh ++ vs, m, ml, (zmr g))) rfl ?_
  refine Wp.call (as := [.ref 66, .int 104]) (rest := []) rfl rfl rfl rfl rfl (Nat.le_of_ble_eq_true rfl) (Nat.le_of_ble_eq_true rfl) rfl (by omega) (m_isAtG R H 104 (by decide) (by omega)) ?_
  rintro _ _ ⟨rfl, rfl⟩
  by_cases hi23 : zch T n p = 104
  · rw [if_pos hi23]
    refine Wp.run 6 (4, [(2, .int 1), (1, .int 0), (0, .ref 66)], [], (zsh ++ vs, m, ml, (zmr g))) rfl ?_
    refine Wp.run 8 (16, [(2, .int 1), (1, .int 0), (0, .ref 66)], [.int (m 76 1), .ref 66], (zsh ++ vs, m, ml, (zmr g))) rfl ?_
    rw [show m 76 1 = 101 from by rw [H.1 76 (by decide)]; exact R.2.2.2.2.2.1.2.1]
    refine Wp.run 0 (16, [(2, .int 1), (1, .int 0), (0, .ref 66)], [.int 101, .ref 66], (zsh ++ vs, m, ml, (zmr g))) rfl ?_
    refine Wp.call (as := [.ref 66, .int 101]) (rest := []) rfl rfl rfl rfl rfl (Nat.le_of_ble_eq_true rfl) (Nat.le_of_ble_eq_true rfl) rfl (by omega) (m_isAtG R H 101 (by decide) (by omega)) ?_
    rintro _ _ ⟨rfl, rfl⟩
    rw [if_neg (show ¬ zch T n p = 101 by rw [hi23]; decide)]
    refine Wp.run 5 (4, [(2, .int 2), (1, .int 0), (0, .ref 66)], [], (zsh ++ vs, m, ml, (zmr g))) rfl ?_
    refine Wp.run 8 (16, [(2, .int 2), (1, .int 0), (0, .ref 66)], [.int (m 76 2), .ref 66], (zsh ++ vs, m, ml, (zmr g))) rfl ?_
    rw [show m 76 2 = 97 from by rw [H.1 76 (by decide)]; exact R.2.2.2.2.2.1.2.2]
    refine Wp.run 0 (16, [(2, .int 2), (1, .int 0), (0, .ref 66)], [.int 97, .ref 66], (zsh ++ vs, m, ml, (zmr g))) rfl ?_
    refine Wp.call (as := [.ref 66, .int 97]) (rest := []) rfl rfl rfl rfl rfl (Nat.le_of_ble_eq_true rfl) (Nat.le_of_ble_eq_true rfl) rfl (by omega) (m_isAtG R H 97 (by decide) (by omega)) ?_
    rintro _ _ ⟨rfl, rfl⟩
    rw [if_neg (show ¬ zch T n p = 97 by rw [hi23]; decide)]
    refine Wp.run 5 (4, [(2, .int 3), (1, .int 0), (0, .ref 66)], [], (zsh ++ vs, m, ml, (zmr g))) rfl ?_
    refine Wp.run 19 (62, [(2, .int 0), (1, .int 0), (0, .ref 66)], [.int (m 77 0)], (zsh ++ vs, m, ml, (zmr g))) rfl ?_
    rw [show m 77 0 = 104 from by rw [H.1 77 (by decide)]; exact R.2.2.2.2.2.2.1]
    refine Wp.run 10 (76, [(2, .int 0), (1, .int 0), (0, .ref 66)], [.int (m 77 0), .ref 66], (zsh ++ vs, m, ml, (zmr g))) rfl ?_
    rw [show m 77 0 = 104 from by rw [H.1 77 (by decide)]; exact R.2.2.2.2.2.2.1]
    refine Wp.run 0 (76, [(2, .int 0), (1, .int 0), (0, .ref 66)], [.int 104, .ref 66], (zsh ++ vs, m, ml, (zmr g))) rfl ?_
    refine Wp.call (as := [.ref 66, .int 104]) (rest := []) rfl rfl rfl rfl rfl (Nat.le_of_ble_eq_true rfl) (Nat.le_of_ble_eq_true rfl) rfl (by omega) (m_takesG R H 104 (by decide) (by omega)) ?_
    rintro _ _ ⟨rfl, m24, rfl, ⟨ht24, H24⟩ | ⟨ht24, H24⟩⟩
    rotate_left
    · exact absurd hi23 ht24
    · have hp24 : p + 1 ≤ n := zch_lt ht24 (by decide)
      refine Wp.run 2 (47, [(2, .int 1), (1, .int 0), (0, .ref 66)], [], (zsh ++ vs, m24, ml, (zmr g))) rfl ?_
      refine Wp.run 11 (62, [(2, .int 1), (1, .int 0), (0, .ref 66)], [.int (m24 77 1)], (zsh ++ vs, m24, ml, (zmr g))) rfl ?_
      rw [show m24 77 1 = 97 from by rw [H24.1 77 (by decide)]; exact R.2.2.2.2.2.2.2.1]
      refine Wp.run 10 (76, [(2, .int 1), (1, .int 0), (0, .ref 66)], [.int (m24 77 1), .ref 66], (zsh ++ vs, m24, ml, (zmr g))) rfl ?_
      rw [show m24 77 1 = 97 from by rw [H24.1 77 (by decide)]; exact R.2.2.2.2.2.2.2.1]
      refine Wp.run 0 (76, [(2, .int 1), (1, .int 0), (0, .ref 66)], [.int 97, .ref 66], (zsh ++ vs, m24, ml, (zmr g))) rfl ?_
      refine Wp.call (as := [.ref 66, .int 97]) (rest := []) rfl rfl rfl rfl rfl (Nat.le_of_ble_eq_true rfl) (Nat.le_of_ble_eq_true rfl) rfl (by omega) (m_takesG R H24 97 (by decide) (by omega)) ?_
      rintro _ _ ⟨rfl, m25, rfl, ⟨ht25, H25⟩ | ⟨ht25, H25⟩⟩
      · have hp25 : p + 1 + 1 ≤ n := zch_lt ht25 (by decide)
        refine Wp.run 2 (47, [(2, .int 2), (1, .int 0), (0, .ref 66)], [], (zsh ++ vs, m25, ml, (zmr g))) rfl ?_
        refine Wp.run 11 (62, [(2, .int 2), (1, .int 0), (0, .ref 66)], [.int (m25 77 2)], (zsh ++ vs, m25, ml, (zmr g))) rfl ?_
        rw [show m25 77 2 = 114 from by rw [H25.1 77 (by decide)]; exact R.2.2.2.2.2.2.2.2.1]
        refine Wp.run 10 (76, [(2, .int 2), (1, .int 0), (0, .ref 66)], [.int (m25 77 2), .ref 66], (zsh ++ vs, m25, ml, (zmr g))) rfl ?_
        rw [show m25 77 2 = 114 from by rw [H25.1 77 (by decide)]; exact R.2.2.2.2.2.2.2.2.1]
        refine Wp.run 0 (76, [(2, .int 2), (1, .int 0), (0, .ref 66)], [.int 114, .ref 66], (zsh ++ vs, m25, ml, (zmr g))) rfl ?_
        refine Wp.call (as := [.ref 66, .int 114]) (rest := []) rfl rfl rfl rfl rfl (Nat.le_of_ble_eq_true rfl) (Nat.le_of_ble_eq_true rfl) rfl (by omega) (m_takesG R H25 114 (by decide) (by omega)) ?_
        rintro _ _ ⟨rfl, m26, rfl, ⟨ht26, H26⟩ | ⟨ht26, H26⟩⟩
        · have hp26 : p + 1 + 1 + 1 ≤ n := zch_lt ht26 (by decide)
          refine Wp.run 2 (47, [(2, .int 3), (1, .int 0), (0, .ref 66)], [], (zsh ++ vs, m26, ml, (zmr g))) rfl ?_
          refine Wp.run 11 (62, [(2, .int 3), (1, .int 0), (0, .ref 66)], [.int (m26 77 3)], (zsh ++ vs, m26, ml, (zmr g))) rfl ?_
          rw [show m26 77 3 = 100 from by rw [H26.1 77 (by decide)]; exact R.2.2.2.2.2.2.2.2.2.1]
          refine Wp.run 10 (76, [(2, .int 3), (1, .int 0), (0, .ref 66)], [.int (m26 77 3), .ref 66], (zsh ++ vs, m26, ml, (zmr g))) rfl ?_
          rw [show m26 77 3 = 100 from by rw [H26.1 77 (by decide)]; exact R.2.2.2.2.2.2.2.2.2.1]
          refine Wp.run 0 (76, [(2, .int 3), (1, .int 0), (0, .ref 66)], [.int 100, .ref 66], (zsh ++ vs, m26, ml, (zmr g))) rfl ?_
          refine Wp.call (as := [.ref 66, .int 100]) (rest := []) rfl rfl rfl rfl rfl (Nat.le_of_ble_eq_true rfl) (Nat.le_of_ble_eq_true rfl) rfl (by omega) (m_takesG R H26 100 (by decide) (by omega)) ?_
          rintro _ _ ⟨rfl, m27, rfl, ⟨ht27, H27⟩ | ⟨ht27, H27⟩⟩
          · have hp27 : p + 1 + 1 + 1 + 1 ≤ n := zch_lt ht27 (by decide)
            refine Wp.run 2 (47, [(2, .int 4), (1, .int 0), (0, .ref 66)], [], (zsh ++ vs, m27, ml, (zmr g))) rfl ?_
            refine Wp.run 11 (62, [(2, .int 4), (1, .int 0), (0, .ref 66)], [.int (m27 77 4)], (zsh ++ vs, m27, ml, (zmr g))) rfl ?_
            rw [show m27 77 4 = 0 from by rw [H27.1 77 (by decide)]; exact R.2.2.2.2.2.2.2.2.2.2.1]
            refine Wp.run 3 (88, [(2, .int 4), (1, .int 0), (0, .ref 66)], [.int 32, .ref 66], (zsh ++ vs, m27, ml, (zmr g))) rfl ?_
            refine Wp.call (as := [.ref 66, .int 32]) (rest := []) rfl rfl rfl rfl rfl (Nat.le_of_ble_eq_true rfl) (Nat.le_of_ble_eq_true rfl) rfl (by omega) (m_takesG R H27 32 (by decide) (by omega)) ?_
            rintro _ _ ⟨rfl, m28, rfl, ⟨ht28, H28⟩ | ⟨ht28, H28⟩⟩
            · have hp28 : p + 1 + 1 + 1 + 1 + 1 ≤ n := zch_lt ht28 (by decide)
              refine Wp.run 1 (92, [(2, .int 4), (1, .int 0), (0, .ref 66)], [.ref 66], (zsh ++ vs, m28, ml, (zmr g))) rfl ?_
              refine Wp.call (as := [.ref 66]) (rest := []) rfl rfl rfl rfl rfl (Nat.le_of_ble_eq_true rfl) (Nat.le_of_ble_eq_true rfl) rfl (by omega) (m_numberG R H28 (by have := R.2.1; omega)) ?_
              rintro _ _ ⟨m29, rfl, ⟨hz29, rfl, H29⟩ | ⟨x29, hz29, rfl, H29⟩⟩
              · refine Wp.run 6 (110, [(2, .int 0), (1, .int 0), (0, .ref 66)], [.int 32, .ref 66], (zsh ++ vs, m29, ml, (zmr g))) rfl ?_
                refine Wp.call (as := [.ref 66, .int 32]) (rest := []) rfl rfl rfl rfl rfl (Nat.le_of_ble_eq_true rfl) (Nat.le_of_ble_eq_true rfl) rfl (by omega) (m_takesB R H29 32) ?_
                rintro _ _ ⟨rfl, m30, rfl, H30⟩
                refine Wp.run 3 (118, [(2, .int 0), (1, .int 0), (0, .ref 66)], [], (zsh ++ vs, (zup m30 66 13 0), ml, (zmr g))) rfl ?_
                obtain ⟨m31, hm31⟩ : ∃ m9, m9 = (zup m30 66 13 0) := ⟨_, rfl⟩
                rw [← hm31]
                have H31 : MS mi m31 (p + 1 + 1 + 1 + 1 + 1) 0 0 s (nI A) := by rw [hm31]; exact H30.zer
                refine Wp.run 1 (119, [(2, .int 0), (1, .int 0), (0, .ref 66)], [.ref 66], (zsh ++ vs, m31, ml, (zmr g))) rfl ?_
                refine Wp.call (as := [.ref 66]) (rest := []) rfl rfl rfl rfl rfl (Nat.le_of_ble_eq_true rfl) (Nat.le_of_ble_eq_true rfl) rfl (by decide) (m_anyB R H31) ?_
                rintro _ _ ⟨rfl, m32, rfl, H32⟩
                refine Wp.run 4 (128, [(3, .int 0), (2, .int 0), (1, .int 0), (0, .ref 66)], [.int (m32 66 14), .ref 66], (zsh ++ vs, m32, ml, (zmr g))) rfl ?_
                rw [H32.2.2.2.2.2.1]
                refine Wp.run 6 (150, [(3, .int 0), (2, .int 0), (1, .int 0), (0, .ref 66)], [], (zsh ++ vs, (zup m32 66 14 (s + 0)), ml, (zmr g))) rfl ?_
                refine Wp.ret rfl rfl rfl ?_
                rw [(zcla_h hi23).trans (zhe_o (zwn_n (by rw [zwd, if_pos ht24, zwd, if_pos ht25, zwd, if_pos ht26, zwd, if_pos ht27, zwd, if_pos ht28, zwd]) hz29))]
                exact ⟨rfl, _, _, rfl, Or.inr ⟨rfl, _, _, H32.sm _⟩⟩
              · have hx29 := znum_ok hz29
                refine Wp.run 6 (110, [(2, .int (nI x29.1)), (1, .int 0), (0, .ref 66)], [.int 32, .ref 66], (zsh ++ vs, m29, ml, (zmr g))) rfl ?_
                refine Wp.call (as := [.ref 66, .int 32]) (rest := []) rfl rfl rfl rfl rfl (Nat.le_of_ble_eq_true rfl) (Nat.le_of_ble_eq_true rfl) rfl (by omega) (m_takesG R H29 32 (by decide) (by omega)) ?_
                rintro _ _ ⟨rfl, m33, rfl, ⟨ht33, H33⟩ | ⟨ht33, H33⟩⟩
                · have hp33 : x29.2 + 1 ≤ n := zch_lt ht33 (by decide)
                  refine Wp.run 3 (118, [(2, .int (nI x29.1)), (1, .int 0), (0, .ref 66)], [], (zsh ++ vs, (zup m33 66 13 0), ml, (zmr g))) rfl ?_
                  obtain ⟨m34, hm34⟩ : ∃ m9, m9 = (zup m33 66 13 0) := ⟨_, rfl⟩
                  rw [← hm34]
                  have H34 : MS mi m34 (x29.2 + 1) 1 0 s (nI A) := by rw [hm34]; exact H33.zer
                  refine Wp.run 1 (119, [(2, .int (nI x29.1)), (1, .int 0), (0, .ref 66)], [.ref 66], (zsh ++ vs, m34, ml, (zmr g))) rfl ?_
                  refine Wp.call (as := [.ref 66]) (rest := []) rfl rfl rfl rfl rfl (Nat.le_of_ble_eq_true rfl) (Nat.le_of_ble_eq_true rfl) rfl (by decide) (m_any4 R H34 (zch_lt ht33 (by decide))) ?_
                  rintro _ _ ⟨m35, rfl, hc35⟩
                  rcases hr35 : zany T n (zfac T n 4) (x29.2 + 1) with ⟨o35, q35⟩
                  rw [hr35] at hc35
                  rcases hc35 with ⟨t35, ho35, rfl, H35⟩ | ⟨ho35, rfl | rfl, H35⟩
                  · cases (show o35 = some t35 from ho35)
                    refine Wp.run 4 (128, [(3, .int (if t35.2 nm = true then 1 else 0)), (2, .int (nI x29.1)), (1, .int 0), (0, .ref 66)], [.int (m35 66 14), .ref 66], (zsh ++ vs, m35, ml, (zmr g))) rfl ?_
                    rw [H35.2.2.2.2.2.1]
                    refine Wp.run 1 (129, [(3, .int (if t35.2 nm = true then 1 else 0)), (2, .int (nI x29.1)), (1, .int 0), (0, .ref 66)], [.int (if t35.2 nm = true then 1 else 0), .int s, .ref 66], (zsh ++ vs, m35, ml, (zmr g))) rfl ?_
                    refine Wp.if_ne rfl (fun h1 => ?_) (fun h1 => ?_)
                    · refine Wp.run 6 (150, [(3, .int (if t35.2 nm = true then 1 else 0)), (2, .int (nI x29.1)), (1, .int 0), (0, .ref 66)], [], (zsh ++ vs, (zup m35 66 14 (s + (nI x29.1))), ml, (zmr g))) rfl ?_
                      refine Wp.ret rfl rfl rfl ?_
                      rw [(zcla_h hi23).trans (zhe_y (zwn_y (by rw [zwd, if_pos ht24, zwd, if_pos ht25, zwd, if_pos ht26, zwd, if_pos ht27, zwd, if_pos ht28, zwd]) hz29) ht33 hr35)]
                      have e7 : (zHd x29.1 t35).2.1 nm = nI x29.1 := if_pos (b_ne h1)
                      refine ⟨rfl, _, 0, rfl, Or.inl ⟨_, rfl, ?_⟩⟩
                      show MS mi _ _ 1 _ (s + (zHd x29.1 t35).2.1 nm) (nI A)
                      rw [e7]
                      exact H35.sm _
                    · refine Wp.run 4 (150, [(3, .int (if t35.2 nm = true then 1 else 0)), (2, .int (nI x29.1)), (1, .int 0), (0, .ref 66)], [], (zsh ++ vs, (zup m35 66 14 (s + 0)), ml, (zmr g))) rfl ?_
                      refine Wp.ret rfl rfl rfl ?_
                      rw [(zcla_h hi23).trans (zhe_y (zwn_y (by rw [zwd, if_pos ht24, zwd, if_pos ht25, zwd, if_pos ht26, zwd, if_pos ht27, zwd, if_pos ht28, zwd]) hz29) ht33 hr35)]
                      have e7 : (zHd x29.1 t35).2.1 nm = 0 := if_neg (b_eq h1)
                      refine ⟨rfl, _, 0, rfl, Or.inl ⟨_, rfl, ?_⟩⟩
                      show MS mi _ _ 1 _ (s + (zHd x29.1 t35).2.1 nm) (nI A)
                      rw [e7]
                      exact H35.sm _
                  · cases (show o35 = none from ho35)
                    refine Wp.run 4 (128, [(3, .int 0), (2, .int (nI x29.1)), (1, .int 0), (0, .ref 66)], [.int (m35 66 14), .ref 66], (zsh ++ vs, m35, ml, (zmr g))) rfl ?_
                    rw [H35.2.2.2.2.2.1]
                    refine Wp.run 6 (150, [(3, .int 0), (2, .int (nI x29.1)), (1, .int 0), (0, .ref 66)], [], (zsh ++ vs, (zup m35 66 14 (s + 0)), ml, (zmr g))) rfl ?_
                    refine Wp.ret rfl rfl rfl ?_
                    rw [(zcla_h hi23).trans (zhe_f (zwn_y (by rw [zwd, if_pos ht24, zwd, if_pos ht25, zwd, if_pos ht26, zwd, if_pos ht27, zwd, if_pos ht28, zwd]) hz29) ht33 hr35)]
                    exact ⟨rfl, _, _, rfl, Or.inr ⟨rfl, _, _, H35.sm _⟩⟩
                  · cases (show o35 = none from ho35)
                    refine Wp.run 4 (128, [(3, .int 1), (2, .int (nI x29.1)), (1, .int 0), (0, .ref 66)], [.int (m35 66 14), .ref 66], (zsh ++ vs, m35, ml, (zmr g))) rfl ?_
                    rw [H35.2.2.2.2.2.1]
                    refine Wp.run 8 (150, [(3, .int 1), (2, .int (nI x29.1)), (1, .int 0), (0, .ref 66)], [], (zsh ++ vs, (zup m35 66 14 (s + (nI x29.1))), ml, (zmr g))) rfl ?_
                    refine Wp.ret rfl rfl rfl ?_
                    rw [(zcla_h hi23).trans (zhe_f (zwn_y (by rw [zwd, if_pos ht24, zwd, if_pos ht25, zwd, if_pos ht26, zwd, if_pos ht27, zwd, if_pos ht28, zwd]) hz29) ht33 hr35)]
                    exact ⟨rfl, _, _, rfl, Or.inr ⟨rfl, _, _, H35.sm _⟩⟩
                · refine Wp.run 3 (118, [(2, .int (nI x29.1)), (1, .int 0), (0, .ref 66)], [], (zsh ++ vs, (zup m33 66 13 0), ml, (zmr g))) rfl ?_
                  obtain ⟨m36, hm36⟩ : ∃ m9, m9 = (zup m33 66 13 0) := ⟨_, rfl⟩
                  rw [← hm36]
                  have H36 : MS mi m36 x29.2 0 0 s (nI A) := by rw [hm36]; exact H33.zer
                  refine Wp.run 1 (119, [(2, .int (nI x29.1)), (1, .int 0), (0, .ref 66)], [.ref 66], (zsh ++ vs, m36, ml, (zmr g))) rfl ?_
                  refine Wp.call (as := [.ref 66]) (rest := []) rfl rfl rfl rfl rfl (Nat.le_of_ble_eq_true rfl) (Nat.le_of_ble_eq_true rfl) rfl (by decide) (m_anyB R H36) ?_
                  rintro _ _ ⟨rfl, m37, rfl, H37⟩
                  refine Wp.run 4 (128, [(3, .int 0), (2, .int (nI x29.1)), (1, .int 0), (0, .ref 66)], [.int (m37 66 14), .ref 66], (zsh ++ vs, m37, ml, (zmr g))) rfl ?_
                  rw [H37.2.2.2.2.2.1]
                  refine Wp.run 6 (150, [(3, .int 0), (2, .int (nI x29.1)), (1, .int 0), (0, .ref 66)], [], (zsh ++ vs, (zup m37 66 14 (s + 0)), ml, (zmr g))) rfl ?_
                  refine Wp.ret rfl rfl rfl ?_
                  rw [(zcla_h hi23).trans (zhe_s (zwn_y (by rw [zwd, if_pos ht24, zwd, if_pos ht25, zwd, if_pos ht26, zwd, if_pos ht27, zwd, if_pos ht28, zwd]) hz29) ht33)]
                  exact ⟨rfl, _, _, rfl, Or.inr ⟨rfl, _, _, H37.sm _⟩⟩
            · refine Wp.run 1 (92, [(2, .int 4), (1, .int 0), (0, .ref 66)], [.ref 66], (zsh ++ vs, m28, ml, (zmr g))) rfl ?_
              refine Wp.call (as := [.ref 66]) (rest := []) rfl rfl rfl rfl rfl (Nat.le_of_ble_eq_true rfl) (Nat.le_of_ble_eq_true rfl) rfl (by omega) (m_numberB R H28) ?_
              rintro _ _ ⟨rfl, m38, rfl, H38⟩
              refine Wp.run 6 (110, [(2, .int 0), (1, .int 0), (0, .ref 66)], [.int 32, .ref 66], (zsh ++ vs, m38, ml, (zmr g))) rfl ?_
              refine Wp.call (as := [.ref 66, .int 32]) (rest := []) rfl rfl rfl rfl rfl (Nat.le_of_ble_eq_true rfl) (Nat.le_of_ble_eq_true rfl) rfl (by omega) (m_takesB R H38 32) ?_
              rintro _ _ ⟨rfl, m39, rfl, H39⟩
              refine Wp.run 3 (118, [(2, .int 0), (1, .int 0), (0, .ref 66)], [], (zsh ++ vs, (zup m39 66 13 0), ml, (zmr g))) rfl ?_
              obtain ⟨m40, hm40⟩ : ∃ m9, m9 = (zup m39 66 13 0) := ⟨_, rfl⟩
              rw [← hm40]
              have H40 : MS mi m40 (p + 1 + 1 + 1 + 1) 0 0 s (nI A) := by rw [hm40]; exact H39.zer
              refine Wp.run 1 (119, [(2, .int 0), (1, .int 0), (0, .ref 66)], [.ref 66], (zsh ++ vs, m40, ml, (zmr g))) rfl ?_
              refine Wp.call (as := [.ref 66]) (rest := []) rfl rfl rfl rfl rfl (Nat.le_of_ble_eq_true rfl) (Nat.le_of_ble_eq_true rfl) rfl (by decide) (m_anyB R H40) ?_
              rintro _ _ ⟨rfl, m41, rfl, H41⟩
              refine Wp.run 4 (128, [(3, .int 0), (2, .int 0), (1, .int 0), (0, .ref 66)], [.int (m41 66 14), .ref 66], (zsh ++ vs, m41, ml, (zmr g))) rfl ?_
              rw [H41.2.2.2.2.2.1]
              refine Wp.run 6 (150, [(3, .int 0), (2, .int 0), (1, .int 0), (0, .ref 66)], [], (zsh ++ vs, (zup m41 66 14 (s + 0)), ml, (zmr g))) rfl ?_
              refine Wp.ret rfl rfl rfl ?_
              rw [(zcla_h hi23).trans (zhe_o (zwn_w (by rw [zwd, if_pos ht24, zwd, if_pos ht25, zwd, if_pos ht26, zwd, if_pos ht27, zwd, if_neg ht28])))]
              exact ⟨rfl, _, _, rfl, Or.inr ⟨rfl, _, _, H41.sm _⟩⟩
          · refine Wp.run 2 (47, [(2, .int 4), (1, .int 0), (0, .ref 66)], [], (zsh ++ vs, m27, ml, (zmr g))) rfl ?_
            refine Wp.run 11 (62, [(2, .int 4), (1, .int 0), (0, .ref 66)], [.int (m27 77 4)], (zsh ++ vs, m27, ml, (zmr g))) rfl ?_
            rw [show m27 77 4 = 0 from by rw [H27.1 77 (by decide)]; exact R.2.2.2.2.2.2.2.2.2.2.1]
            refine Wp.run 3 (88, [(2, .int 4), (1, .int 0), (0, .ref 66)], [.int 32, .ref 66], (zsh ++ vs, m27, ml, (zmr g))) rfl ?_
            refine Wp.call (as := [.ref 66, .int 32]) (rest := []) rfl rfl rfl rfl rfl (Nat.le_of_ble_eq_true rfl) (Nat.le_of_ble_eq_true rfl) rfl (by omega) (m_takesB R H27 32) ?_
            rintro _ _ ⟨rfl, m42, rfl, H42⟩
            refine Wp.run 1 (92, [(2, .int 4), (1, .int 0), (0, .ref 66)], [.ref 66], (zsh ++ vs, m42, ml, (zmr g))) rfl ?_
            refine Wp.call (as := [.ref 66]) (rest := []) rfl rfl rfl rfl rfl (Nat.le_of_ble_eq_true rfl) (Nat.le_of_ble_eq_true rfl) rfl (by omega) (m_numberB R H42) ?_
            rintro _ _ ⟨rfl, m43, rfl, H43⟩
            refine Wp.run 6 (110, [(2, .int 0), (1, .int 0), (0, .ref 66)], [.int 32, .ref 66], (zsh ++ vs, m43, ml, (zmr g))) rfl ?_
            refine Wp.call (as := [.ref 66, .int 32]) (rest := []) rfl rfl rfl rfl rfl (Nat.le_of_ble_eq_true rfl) (Nat.le_of_ble_eq_true rfl) rfl (by omega) (m_takesB R H43 32) ?_
            rintro _ _ ⟨rfl, m44, rfl, H44⟩
            refine Wp.run 3 (118, [(2, .int 0), (1, .int 0), (0, .ref 66)], [], (zsh ++ vs, (zup m44 66 13 0), ml, (zmr g))) rfl ?_
            obtain ⟨m45, hm45⟩ : ∃ m9, m9 = (zup m44 66 13 0) := ⟨_, rfl⟩
            rw [← hm45]
            have H45 : MS mi m45 (p + 1 + 1 + 1) 0 0 s (nI A) := by rw [hm45]; exact H44.zer
            refine Wp.run 1 (119, [(2, .int 0), (1, .int 0), (0, .ref 66)], [.ref 66], (zsh ++ vs, m45, ml, (zmr g))) rfl ?_
            refine Wp.call (as := [.ref 66]) (rest := []) rfl rfl rfl rfl rfl (Nat.le_of_ble_eq_true rfl) (Nat.le_of_ble_eq_true rfl) rfl (by decide) (m_anyB R H45) ?_
            rintro _ _ ⟨rfl, m46, rfl, H46⟩
            refine Wp.run 4 (128, [(3, .int 0), (2, .int 0), (1, .int 0), (0, .ref 66)], [.int (m46 66 14), .ref 66], (zsh ++ vs, m46, ml, (zmr g))) rfl ?_
            rw [H46.2.2.2.2.2.1]
            refine Wp.run 6 (150, [(3, .int 0), (2, .int 0), (1, .int 0), (0, .ref 66)], [], (zsh ++ vs, (zup m46 66 14 (s + 0)), ml, (zmr g))) rfl ?_
            refine Wp.ret rfl rfl rfl ?_
            rw [(zcla_h hi23).trans (zhe_o (zwn_w (by rw [zwd, if_pos ht24, zwd, if_pos ht25, zwd, if_pos ht26, zwd, if_neg ht27])))]
            exact ⟨rfl, _, _, rfl, Or.inr ⟨rfl, _, _, H46.sm _⟩⟩
        · refine Wp.run 2 (47, [(2, .int 3), (1, .int 0), (0, .ref 66)], [], (zsh ++ vs, m26, ml, (zmr g))) rfl ?_
          refine Wp.run 11 (62, [(2, .int 3), (1, .int 0), (0, .ref 66)], [.int (m26 77 3)], (zsh ++ vs, m26, ml, (zmr g))) rfl ?_
          rw [show m26 77 3 = 100 from by rw [H26.1 77 (by decide)]; exact R.2.2.2.2.2.2.2.2.2.1]
          refine Wp.run 10 (76, [(2, .int 3), (1, .int 0), (0, .ref 66)], [.int (m26 77 3), .ref 66], (zsh ++ vs, m26, ml, (zmr g))) rfl ?_
          rw [show m26 77 3 = 100 from by rw [H26.1 77 (by decide)]; exact R.2.2.2.2.2.2.2.2.2.1]
          refine Wp.run 0 (76, [(2, .int 3), (1, .int 0), (0, .ref 66)], [.int 100, .ref 66], (zsh ++ vs, m26, ml, (zmr g))) rfl ?_
          refine Wp.call (as := [.ref 66, .int 100]) (rest := []) rfl rfl rfl rfl rfl (Nat.le_of_ble_eq_true rfl) (Nat.le_of_ble_eq_true rfl) rfl (by omega) (m_takesB R H26 100) ?_
          rintro _ _ ⟨rfl, m47, rfl, H47⟩
          refine Wp.run 2 (47, [(2, .int 4), (1, .int 0), (0, .ref 66)], [], (zsh ++ vs, m47, ml, (zmr g))) rfl ?_
          refine Wp.run 11 (62, [(2, .int 4), (1, .int 0), (0, .ref 66)], [.int (m47 77 4)], (zsh ++ vs, m47, ml, (zmr g))) rfl ?_
          rw [show m47 77 4 = 0 from by rw [H47.1 77 (by decide)]; exact R.2.2.2.2.2.2.2.2.2.2.1]
          refine Wp.run 3 (88, [(2, .int 4), (1, .int 0), (0, .ref 66)], [.int 32, .ref 66], (zsh ++ vs, m47, ml, (zmr g))) rfl ?_
          refine Wp.call (as := [.ref 66, .int 32]) (rest := []) rfl rfl rfl rfl rfl (Nat.le_of_ble_eq_true rfl) (Nat.le_of_ble_eq_true rfl) rfl (by omega) (m_takesB R H47 32) ?_
          rintro _ _ ⟨rfl, m48, rfl, H48⟩
          refine Wp.run 1 (92, [(2, .int 4), (1, .int 0), (0, .ref 66)], [.ref 66], (zsh ++ vs, m48, ml, (zmr g))) rfl ?_
          refine Wp.call (as := [.ref 66]) (rest := []) rfl rfl rfl rfl rfl (Nat.le_of_ble_eq_true rfl) (Nat.le_of_ble_eq_true rfl) rfl (by omega) (m_numberB R H48) ?_
          rintro _ _ ⟨rfl, m49, rfl, H49⟩
          refine Wp.run 6 (110, [(2, .int 0), (1, .int 0), (0, .ref 66)], [.int 32, .ref 66], (zsh ++ vs, m49, ml, (zmr g))) rfl ?_
          refine Wp.call (as := [.ref 66, .int 32]) (rest := []) rfl rfl rfl rfl rfl (Nat.le_of_ble_eq_true rfl) (Nat.le_of_ble_eq_true rfl) rfl (by omega) (m_takesB R H49 32) ?_
          rintro _ _ ⟨rfl, m50, rfl, H50⟩
          refine Wp.run 3 (118, [(2, .int 0), (1, .int 0), (0, .ref 66)], [], (zsh ++ vs, (zup m50 66 13 0), ml, (zmr g))) rfl ?_
          obtain ⟨m51, hm51⟩ : ∃ m9, m9 = (zup m50 66 13 0) := ⟨_, rfl⟩
          rw [← hm51]
          have H51 : MS mi m51 (p + 1 + 1) 0 0 s (nI A) := by rw [hm51]; exact H50.zer
          refine Wp.run 1 (119, [(2, .int 0), (1, .int 0), (0, .ref 66)], [.ref 66], (zsh ++ vs, m51, ml, (zmr g))) rfl ?_
          refine Wp.call (as := [.ref 66]) (rest := []) rfl rfl rfl rfl rfl (Nat.le_of_ble_eq_true rfl) (Nat.le_of_ble_eq_true rfl) rfl (by decide) (m_anyB R H51) ?_
          rintro _ _ ⟨rfl, m52, rfl, H52⟩
          refine Wp.run 4 (128, [(3, .int 0), (2, .int 0), (1, .int 0), (0, .ref 66)], [.int (m52 66 14), .ref 66], (zsh ++ vs, m52, ml, (zmr g))) rfl ?_
          rw [H52.2.2.2.2.2.1]
          refine Wp.run 6 (150, [(3, .int 0), (2, .int 0), (1, .int 0), (0, .ref 66)], [], (zsh ++ vs, (zup m52 66 14 (s + 0)), ml, (zmr g))) rfl ?_
          refine Wp.ret rfl rfl rfl ?_
          rw [(zcla_h hi23).trans (zhe_o (zwn_w (by rw [zwd, if_pos ht24, zwd, if_pos ht25, zwd, if_neg ht26])))]
          exact ⟨rfl, _, _, rfl, Or.inr ⟨rfl, _, _, H52.sm _⟩⟩
      · refine Wp.run 2 (47, [(2, .int 2), (1, .int 0), (0, .ref 66)], [], (zsh ++ vs, m25, ml, (zmr g))) rfl ?_
        refine Wp.run 11 (62, [(2, .int 2), (1, .int 0), (0, .ref 66)], [.int (m25 77 2)], (zsh ++ vs, m25, ml, (zmr g))) rfl ?_
        rw [show m25 77 2 = 114 from by rw [H25.1 77 (by decide)]; exact R.2.2.2.2.2.2.2.2.1]
        refine Wp.run 10 (76, [(2, .int 2), (1, .int 0), (0, .ref 66)], [.int (m25 77 2), .ref 66], (zsh ++ vs, m25, ml, (zmr g))) rfl ?_
        rw [show m25 77 2 = 114 from by rw [H25.1 77 (by decide)]; exact R.2.2.2.2.2.2.2.2.1]
        refine Wp.run 0 (76, [(2, .int 2), (1, .int 0), (0, .ref 66)], [.int 114, .ref 66], (zsh ++ vs, m25, ml, (zmr g))) rfl ?_
        refine Wp.call (as := [.ref 66, .int 114]) (rest := []) rfl rfl rfl rfl rfl (Nat.le_of_ble_eq_true rfl) (Nat.le_of_ble_eq_true rfl) rfl (by omega) (m_takesB R H25 114) ?_
        rintro _ _ ⟨rfl, m53, rfl, H53⟩
        refine Wp.run 2 (47, [(2, .int 3), (1, .int 0), (0, .ref 66)], [], (zsh ++ vs, m53, ml, (zmr g))) rfl ?_
        refine Wp.run 11 (62, [(2, .int 3), (1, .int 0), (0, .ref 66)], [.int (m53 77 3)], (zsh ++ vs, m53, ml, (zmr g))) rfl ?_
        rw [show m53 77 3 = 100 from by rw [H53.1 77 (by decide)]; exact R.2.2.2.2.2.2.2.2.2.1]
        refine Wp.run 10 (76, [(2, .int 3), (1, .int 0), (0, .ref 66)], [.int (m53 77 3), .ref 66], (zsh ++ vs, m53, ml, (zmr g))) rfl ?_
        rw [show m53 77 3 = 100 from by rw [H53.1 77 (by decide)]; exact R.2.2.2.2.2.2.2.2.2.1]
        refine Wp.run 0 (76, [(2, .int 3), (1, .int 0), (0, .ref 66)], [.int 100, .ref 66], (zsh ++ vs, m53, ml, (zmr g))) rfl ?_
        refine Wp.call (as := [.ref 66, .int 100]) (rest := []) rfl rfl rfl rfl rfl (Nat.le_of_ble_eq_true rfl) (Nat.le_of_ble_eq_true rfl) rfl (by omega) (m_takesB R H53 100) ?_
        rintro _ _ ⟨rfl, m54, rfl, H54⟩
        refine Wp.run 2 (47, [(2, .int 4), (1, .int 0), (0, .ref 66)], [], (zsh ++ vs, m54, ml, (zmr g))) rfl ?_
        refine Wp.run 11 (62, [(2, .int 4), (1, .int 0), (0, .ref 66)], [.int (m54 77 4)], (zsh ++ vs, m54, ml, (zmr g))) rfl ?_
        rw [show m54 77 4 = 0 from by rw [H54.1 77 (by decide)]; exact R.2.2.2.2.2.2.2.2.2.2.1]
        refine Wp.run 3 (88, [(2, .int 4), (1, .int 0), (0, .ref 66)], [.int 32, .ref 66], (zsh ++ vs, m54, ml, (zmr g))) rfl ?_
        refine Wp.call (as := [.ref 66, .int 32]) (rest := []) rfl rfl rfl rfl rfl (Nat.le_of_ble_eq_true rfl) (Nat.le_of_ble_eq_true rfl) rfl (by omega) (m_takesB R H54 32) ?_
        rintro _ _ ⟨rfl, m55, rfl, H55⟩
        refine Wp.run 1 (92, [(2, .int 4), (1, .int 0), (0, .ref 66)], [.ref 66], (zsh ++ vs, m55, ml, (zmr g))) rfl ?_
        refine Wp.call (as := [.ref 66]) (rest := []) rfl rfl rfl rfl rfl (Nat.le_of_ble_eq_true rfl) (Nat.le_of_ble_eq_true rfl) rfl (by omega) (m_numberB R H55) ?_
        rintro _ _ ⟨rfl, m56, rfl, H56⟩
        refine Wp.run 6 (110, [(2, .int 0), (1, .int 0), (0, .ref 66)], [.int 32, .ref 66], (zsh ++ vs, m56, ml, (zmr g))) rfl ?_
        refine Wp.call (as := [.ref 66, .int 32]) (rest := []) rfl rfl rfl rfl rfl (Nat.le_of_ble_eq_true rfl) (Nat.le_of_ble_eq_true rfl) rfl (by omega) (m_takesB R H56 32) ?_
        rintro _ _ ⟨rfl, m57, rfl, H57⟩
        refine Wp.run 3 (118, [(2, .int 0), (1, .int 0), (0, .ref 66)], [], (zsh ++ vs, (zup m57 66 13 0), ml, (zmr g))) rfl ?_
        obtain ⟨m58, hm58⟩ : ∃ m9, m9 = (zup m57 66 13 0) := ⟨_, rfl⟩
        rw [← hm58]
        have H58 : MS mi m58 (p + 1) 0 0 s (nI A) := by rw [hm58]; exact H57.zer
        refine Wp.run 1 (119, [(2, .int 0), (1, .int 0), (0, .ref 66)], [.ref 66], (zsh ++ vs, m58, ml, (zmr g))) rfl ?_
        refine Wp.call (as := [.ref 66]) (rest := []) rfl rfl rfl rfl rfl (Nat.le_of_ble_eq_true rfl) (Nat.le_of_ble_eq_true rfl) rfl (by decide) (m_anyB R H58) ?_
        rintro _ _ ⟨rfl, m59, rfl, H59⟩
        refine Wp.run 4 (128, [(3, .int 0), (2, .int 0), (1, .int 0), (0, .ref 66)], [.int (m59 66 14), .ref 66], (zsh ++ vs, m59, ml, (zmr g))) rfl ?_
        rw [H59.2.2.2.2.2.1]
        refine Wp.run 6 (150, [(3, .int 0), (2, .int 0), (1, .int 0), (0, .ref 66)], [], (zsh ++ vs, (zup m59 66 14 (s + 0)), ml, (zmr g))) rfl ?_
        refine Wp.ret rfl rfl rfl ?_
        rw [(zcla_h hi23).trans (zhe_o (zwn_w (by rw [zwd, if_pos ht24, zwd, if_neg ht25])))]
        exact ⟨rfl, _, _, rfl, Or.inr ⟨rfl, _, _, H59.sm _⟩⟩
  · rw [if_neg hi23]
    refine Wp.run 5 (4, [(2, .int 1), (1, .int (-1)), (0, .ref 66)], [], (zsh ++ vs, m, ml, (zmr g))) rfl ?_
    refine Wp.run 8 (16, [(2, .int 1), (1, .int (-1)), (0, .ref 66)], [.int (m 76 1), .ref 66], (zsh ++ vs, m, ml, (zmr g))) rfl ?_
    rw [show m 76 1 = 101 from by rw [H.1 76 (by decide)]; exact R.2.2.2.2.2.1.2.1]
    refine Wp.run 0 (16, [(2, .int 1), (1, .int (-1)), (0, .ref 66)], [.int 101, .ref 66], (zsh ++ vs, m, ml, (zmr g))) rfl ?_
    refine Wp.call (as := [.ref 66, .int 101]) (rest := []) rfl rfl rfl rfl rfl (Nat.le_of_ble_eq_true rfl) (Nat.le_of_ble_eq_true rfl) rfl (by omega) (m_isAtG R H 101 (by decide) (by omega)) ?_
    rintro _ _ ⟨rfl, rfl⟩
    by_cases hi60 : zch T n p = 101
    · rw [if_pos hi60]
      refine Wp.run 6 (4, [(2, .int 2), (1, .int 1), (0, .ref 66)], [], (zsh ++ vs, m, ml, (zmr g))) rfl ?_
      refine Wp.run 8 (16, [(2, .int 2), (1, .int 1), (0, .ref 66)], [.int (m 76 2), .ref 66], (zsh ++ vs, m, ml, (zmr g))) rfl ?_
      rw [show m 76 2 = 97 from by rw [H.1 76 (by decide)]; exact R.2.2.2.2.2.1.2.2]
      refine Wp.run 0 (16, [(2, .int 2), (1, .int 1), (0, .ref 66)], [.int 97, .ref 66], (zsh ++ vs, m, ml, (zmr g))) rfl ?_
      refine Wp.call (as := [.ref 66, .int 97]) (rest := []) rfl rfl rfl rfl rfl (Nat.le_of_ble_eq_true rfl) (Nat.le_of_ble_eq_true rfl) rfl (by omega) (m_isAtG R H 97 (by decide) (by omega)) ?_
      rintro _ _ ⟨rfl, rfl⟩
      rw [if_neg (show ¬ zch T n p = 97 by rw [hi60]; decide)]
      refine Wp.run 5 (4, [(2, .int 3), (1, .int 1), (0, .ref 66)], [], (zsh ++ vs, m, ml, (zmr g))) rfl ?_
      refine Wp.run 19 (62, [(2, .int 0), (1, .int 1), (0, .ref 66)], [.int (m 77 5)], (zsh ++ vs, m, ml, (zmr g))) rfl ?_
      rw [show m 77 5 = 101 from by rw [H.1 77 (by decide)]; exact R.2.2.2.2.2.2.2.2.2.2.2.1]
      refine Wp.run 10 (76, [(2, .int 0), (1, .int 1), (0, .ref 66)], [.int (m 77 5), .ref 66], (zsh ++ vs, m, ml, (zmr g))) rfl ?_
      rw [show m 77 5 = 101 from by rw [H.1 77 (by decide)]; exact R.2.2.2.2.2.2.2.2.2.2.2.1]
      refine Wp.run 0 (76, [(2, .int 0), (1, .int 1), (0, .ref 66)], [.int 101, .ref 66], (zsh ++ vs, m, ml, (zmr g))) rfl ?_
      refine Wp.call (as := [.ref 66, .int 101]) (rest := []) rfl rfl rfl rfl rfl (Nat.le_of_ble_eq_true rfl) (Nat.le_of_ble_eq_true rfl) rfl (by omega) (m_takesG R H 101 (by decide) (by omega)) ?_
      rintro _ _ ⟨rfl, m61, rfl, ⟨ht61, H61⟩ | ⟨ht61, H61⟩⟩
      rotate_left
      · exact absurd hi60 ht61
      · have hp61 : p + 1 ≤ n := zch_lt ht61 (by decide)
        refine Wp.run 2 (47, [(2, .int 1), (1, .int 1), (0, .ref 66)], [], (zsh ++ vs, m61, ml, (zmr g))) rfl ?_
        refine Wp.run 11 (62, [(2, .int 1), (1, .int 1), (0, .ref 66)], [.int (m61 77 6)], (zsh ++ vs, m61, ml, (zmr g))) rfl ?_
        rw [show m61 77 6 = 97 from by rw [H61.1 77 (by decide)]; exact R.2.2.2.2.2.2.2.2.2.2.2.2.1]
        refine Wp.run 10 (76, [(2, .int 1), (1, .int 1), (0, .ref 66)], [.int (m61 77 6), .ref 66], (zsh ++ vs, m61, ml, (zmr g))) rfl ?_
        rw [show m61 77 6 = 97 from by rw [H61.1 77 (by decide)]; exact R.2.2.2.2.2.2.2.2.2.2.2.2.1]
        refine Wp.run 0 (76, [(2, .int 1), (1, .int 1), (0, .ref 66)], [.int 97, .ref 66], (zsh ++ vs, m61, ml, (zmr g))) rfl ?_
        refine Wp.call (as := [.ref 66, .int 97]) (rest := []) rfl rfl rfl rfl rfl (Nat.le_of_ble_eq_true rfl) (Nat.le_of_ble_eq_true rfl) rfl (by omega) (m_takesG R H61 97 (by decide) (by omega)) ?_
        rintro _ _ ⟨rfl, m62, rfl, ⟨ht62, H62⟩ | ⟨ht62, H62⟩⟩
        · have hp62 : p + 1 + 1 ≤ n := zch_lt ht62 (by decide)
          refine Wp.run 2 (47, [(2, .int 2), (1, .int 1), (0, .ref 66)], [], (zsh ++ vs, m62, ml, (zmr g))) rfl ?_
          refine Wp.run 11 (62, [(2, .int 2), (1, .int 1), (0, .ref 66)], [.int (m62 77 7)], (zsh ++ vs, m62, ml, (zmr g))) rfl ?_
          rw [show m62 77 7 = 115 from by rw [H62.1 77 (by decide)]; exact R.2.2.2.2.2.2.2.2.2.2.2.2.2.1]
          refine Wp.run 10 (76, [(2, .int 2), (1, .int 1), (0, .ref 66)], [.int (m62 77 7), .ref 66], (zsh ++ vs, m62, ml, (zmr g))) rfl ?_
          rw [show m62 77 7 = 115 from by rw [H62.1 77 (by decide)]; exact R.2.2.2.2.2.2.2.2.2.2.2.2.2.1]
          refine Wp.run 0 (76, [(2, .int 2), (1, .int 1), (0, .ref 66)], [.int 115, .ref 66], (zsh ++ vs, m62, ml, (zmr g))) rfl ?_
          refine Wp.call (as := [.ref 66, .int 115]) (rest := []) rfl rfl rfl rfl rfl (Nat.le_of_ble_eq_true rfl) (Nat.le_of_ble_eq_true rfl) rfl (by omega) (m_takesG R H62 115 (by decide) (by omega)) ?_
          rintro _ _ ⟨rfl, m63, rfl, ⟨ht63, H63⟩ | ⟨ht63, H63⟩⟩
          · have hp63 : p + 1 + 1 + 1 ≤ n := zch_lt ht63 (by decide)
            refine Wp.run 2 (47, [(2, .int 3), (1, .int 1), (0, .ref 66)], [], (zsh ++ vs, m63, ml, (zmr g))) rfl ?_
            refine Wp.run 11 (62, [(2, .int 3), (1, .int 1), (0, .ref 66)], [.int (m63 77 8)], (zsh ++ vs, m63, ml, (zmr g))) rfl ?_
            rw [show m63 77 8 = 121 from by rw [H63.1 77 (by decide)]; exact R.2.2.2.2.2.2.2.2.2.2.2.2.2.2.1]
            refine Wp.run 10 (76, [(2, .int 3), (1, .int 1), (0, .ref 66)], [.int (m63 77 8), .ref 66], (zsh ++ vs, m63, ml, (zmr g))) rfl ?_
            rw [show m63 77 8 = 121 from by rw [H63.1 77 (by decide)]; exact R.2.2.2.2.2.2.2.2.2.2.2.2.2.2.1]
            refine Wp.run 0 (76, [(2, .int 3), (1, .int 1), (0, .ref 66)], [.int 121, .ref 66], (zsh ++ vs, m63, ml, (zmr g))) rfl ?_
            refine Wp.call (as := [.ref 66, .int 121]) (rest := []) rfl rfl rfl rfl rfl (Nat.le_of_ble_eq_true rfl) (Nat.le_of_ble_eq_true rfl) rfl (by omega) (m_takesG R H63 121 (by decide) (by omega)) ?_
            rintro _ _ ⟨rfl, m64, rfl, ⟨ht64, H64⟩ | ⟨ht64, H64⟩⟩
            · have hp64 : p + 1 + 1 + 1 + 1 ≤ n := zch_lt ht64 (by decide)
              refine Wp.run 2 (47, [(2, .int 4), (1, .int 1), (0, .ref 66)], [], (zsh ++ vs, m64, ml, (zmr g))) rfl ?_
              refine Wp.run 11 (62, [(2, .int 4), (1, .int 1), (0, .ref 66)], [.int (m64 77 9)], (zsh ++ vs, m64, ml, (zmr g))) rfl ?_
              rw [show m64 77 9 = 0 from by rw [H64.1 77 (by decide)]; exact R.2.2.2.2.2.2.2.2.2.2.2.2.2.2.2.1]
              refine Wp.run 3 (88, [(2, .int 4), (1, .int 1), (0, .ref 66)], [.int 32, .ref 66], (zsh ++ vs, m64, ml, (zmr g))) rfl ?_
              refine Wp.call (as := [.ref 66, .int 32]) (rest := []) rfl rfl rfl rfl rfl (Nat.le_of_ble_eq_true rfl) (Nat.le_of_ble_eq_true rfl) rfl (by omega) (m_takesG R H64 32 (by decide) (by omega)) ?_
              rintro _ _ ⟨rfl, m65, rfl, ⟨ht65, H65⟩ | ⟨ht65, H65⟩⟩
              · have hp65 : p + 1 + 1 + 1 + 1 + 1 ≤ n := zch_lt ht65 (by decide)
                refine Wp.run 1 (92, [(2, .int 4), (1, .int 1), (0, .ref 66)], [.ref 66], (zsh ++ vs, m65, ml, (zmr g))) rfl ?_
                refine Wp.call (as := [.ref 66]) (rest := []) rfl rfl rfl rfl rfl (Nat.le_of_ble_eq_true rfl) (Nat.le_of_ble_eq_true rfl) rfl (by omega) (m_numberG R H65 (by have := R.2.1; omega)) ?_
                rintro _ _ ⟨m66, rfl, ⟨hz66, rfl, H66⟩ | ⟨x66, hz66, rfl, H66⟩⟩
                · refine Wp.run 6 (110, [(2, .int 0), (1, .int 1), (0, .ref 66)], [.int 32, .ref 66], (zsh ++ vs, m66, ml, (zmr g))) rfl ?_
                  refine Wp.call (as := [.ref 66, .int 32]) (rest := []) rfl rfl rfl rfl rfl (Nat.le_of_ble_eq_true rfl) (Nat.le_of_ble_eq_true rfl) rfl (by omega) (m_takesB R H66 32) ?_
                  rintro _ _ ⟨rfl, m67, rfl, H67⟩
                  refine Wp.run 3 (118, [(2, .int 0), (1, .int 1), (0, .ref 66)], [], (zsh ++ vs, (zup m67 66 13 0), ml, (zmr g))) rfl ?_
                  obtain ⟨m68, hm68⟩ : ∃ m9, m9 = (zup m67 66 13 0) := ⟨_, rfl⟩
                  rw [← hm68]
                  have H68 : MS mi m68 (p + 1 + 1 + 1 + 1 + 1) 0 0 s (nI A) := by rw [hm68]; exact H67.zer
                  refine Wp.run 1 (119, [(2, .int 0), (1, .int 1), (0, .ref 66)], [.ref 66], (zsh ++ vs, m68, ml, (zmr g))) rfl ?_
                  refine Wp.call (as := [.ref 66]) (rest := []) rfl rfl rfl rfl rfl (Nat.le_of_ble_eq_true rfl) (Nat.le_of_ble_eq_true rfl) rfl (by decide) (m_anyB R H68) ?_
                  rintro _ _ ⟨rfl, m69, rfl, H69⟩
                  refine Wp.run 4 (128, [(3, .int 0), (2, .int 0), (1, .int 1), (0, .ref 66)], [.int (m69 66 14), .ref 66], (zsh ++ vs, m69, ml, (zmr g))) rfl ?_
                  rw [H69.2.2.2.2.2.1]
                  refine Wp.run 6 (150, [(3, .int 0), (2, .int 0), (1, .int 1), (0, .ref 66)], [], (zsh ++ vs, (zup m69 66 14 (s + 0)), ml, (zmr g))) rfl ?_
                  refine Wp.ret rfl rfl rfl ?_
                  rw [(zcla_e hi60).trans (zhe_o (zwn_n (by rw [zwd, if_pos ht61, zwd, if_pos ht62, zwd, if_pos ht63, zwd, if_pos ht64, zwd, if_pos ht65, zwd]) hz66))]
                  exact ⟨rfl, _, _, rfl, Or.inr ⟨rfl, _, _, H69.sm _⟩⟩
                · have hx66 := znum_ok hz66
                  refine Wp.run 6 (110, [(2, .int (nI x66.1)), (1, .int 1), (0, .ref 66)], [.int 32, .ref 66], (zsh ++ vs, m66, ml, (zmr g))) rfl ?_
                  refine Wp.call (as := [.ref 66, .int 32]) (rest := []) rfl rfl rfl rfl rfl (Nat.le_of_ble_eq_true rfl) (Nat.le_of_ble_eq_true rfl) rfl (by omega) (m_takesG R H66 32 (by decide) (by omega)) ?_
                  rintro _ _ ⟨rfl, m70, rfl, ⟨ht70, H70⟩ | ⟨ht70, H70⟩⟩
                  · have hp70 : x66.2 + 1 ≤ n := zch_lt ht70 (by decide)
                    refine Wp.run 3 (118, [(2, .int (nI x66.1)), (1, .int 1), (0, .ref 66)], [], (zsh ++ vs, (zup m70 66 13 0), ml, (zmr g))) rfl ?_
                    obtain ⟨m71, hm71⟩ : ∃ m9, m9 = (zup m70 66 13 0) := ⟨_, rfl⟩
                    rw [← hm71]
                    have H71 : MS mi m71 (x66.2 + 1) 1 0 s (nI A) := by rw [hm71]; exact H70.zer
                    refine Wp.run 1 (119, [(2, .int (nI x66.1)), (1, .int 1), (0, .ref 66)], [.ref 66], (zsh ++ vs, m71, ml, (zmr g))) rfl ?_
                    refine Wp.call (as := [.ref 66]) (rest := []) rfl rfl rfl rfl rfl (Nat.le_of_ble_eq_true rfl) (Nat.le_of_ble_eq_true rfl) rfl (by decide) (m_any4 R H71 (zch_lt ht70 (by decide))) ?_
                    rintro _ _ ⟨m72, rfl, hc72⟩
                    rcases hr72 : zany T n (zfac T n 4) (x66.2 + 1) with ⟨o72, q72⟩
                    rw [hr72] at hc72
                    rcases hc72 with ⟨t72, ho72, rfl, H72⟩ | ⟨ho72, rfl | rfl, H72⟩
                    · cases (show o72 = some t72 from ho72)
                      refine Wp.run 4 (128, [(3, .int (if t72.2 nm = true then 1 else 0)), (2, .int (nI x66.1)), (1, .int 1), (0, .ref 66)], [.int (m72 66 14), .ref 66], (zsh ++ vs, m72, ml, (zmr g))) rfl ?_
                      rw [H72.2.2.2.2.2.1]
                      refine Wp.run 1 (129, [(3, .int (if t72.2 nm = true then 1 else 0)), (2, .int (nI x66.1)), (1, .int 1), (0, .ref 66)], [.int (if t72.2 nm = true then 1 else 0), .int s, .ref 66], (zsh ++ vs, m72, ml, (zmr g))) rfl ?_
                      refine Wp.if_ne rfl (fun h2 => ?_) (fun h2 => ?_)
                      · refine Wp.run 6 (150, [(3, .int (if t72.2 nm = true then 1 else 0)), (2, .int (nI x66.1)), (1, .int 1), (0, .ref 66)], [], (zsh ++ vs, (zup m72 66 14 (s + (-(nI x66.1)))), ml, (zmr g))) rfl ?_
                        refine Wp.ret rfl rfl rfl ?_
                        rw [(zcla_e hi60).trans (zhe_y (zwn_y (by rw [zwd, if_pos ht61, zwd, if_pos ht62, zwd, if_pos ht63, zwd, if_pos ht64, zwd, if_pos ht65, zwd]) hz66) ht70 hr72)]
                        have e7 : (zEs x66.1 t72).2.1 nm = -nI x66.1 := if_pos (b_ne h2)
                        refine ⟨rfl, _, 0, rfl, Or.inl ⟨_, rfl, ?_⟩⟩
                        show MS mi _ _ 1 _ (s + (zEs x66.1 t72).2.1 nm) (nI A)
                        rw [e7]
                        exact H72.sm _
                      · refine Wp.run 4 (150, [(3, .int (if t72.2 nm = true then 1 else 0)), (2, .int (nI x66.1)), (1, .int 1), (0, .ref 66)], [], (zsh ++ vs, (zup m72 66 14 (s + 0)), ml, (zmr g))) rfl ?_
                        refine Wp.ret rfl rfl rfl ?_
                        rw [(zcla_e hi60).trans (zhe_y (zwn_y (by rw [zwd, if_pos ht61, zwd, if_pos ht62, zwd, if_pos ht63, zwd, if_pos ht64, zwd, if_pos ht65, zwd]) hz66) ht70 hr72)]
                        have e7 : (zEs x66.1 t72).2.1 nm = 0 := if_neg (b_eq h2)
                        refine ⟨rfl, _, 0, rfl, Or.inl ⟨_, rfl, ?_⟩⟩
                        show MS mi _ _ 1 _ (s + (zEs x66.1 t72).2.1 nm) (nI A)
                        rw [e7]
                        exact H72.sm _
                    · cases (show o72 = none from ho72)
                      refine Wp.run 4 (128, [(3, .int 0), (2, .int (nI x66.1)), (1, .int 1), (0, .ref 66)], [.int (m72 66 14), .ref 66], (zsh ++ vs, m72, ml, (zmr g))) rfl ?_
                      rw [H72.2.2.2.2.2.1]
                      refine Wp.run 6 (150, [(3, .int 0), (2, .int (nI x66.1)), (1, .int 1), (0, .ref 66)], [], (zsh ++ vs, (zup m72 66 14 (s + 0)), ml, (zmr g))) rfl ?_
                      refine Wp.ret rfl rfl rfl ?_
                      rw [(zcla_e hi60).trans (zhe_f (zwn_y (by rw [zwd, if_pos ht61, zwd, if_pos ht62, zwd, if_pos ht63, zwd, if_pos ht64, zwd, if_pos ht65, zwd]) hz66) ht70 hr72)]
                      exact ⟨rfl, _, _, rfl, Or.inr ⟨rfl, _, _, H72.sm _⟩⟩
                    · cases (show o72 = none from ho72)
                      refine Wp.run 4 (128, [(3, .int 1), (2, .int (nI x66.1)), (1, .int 1), (0, .ref 66)], [.int (m72 66 14), .ref 66], (zsh ++ vs, m72, ml, (zmr g))) rfl ?_
                      rw [H72.2.2.2.2.2.1]
                      refine Wp.run 8 (150, [(3, .int 1), (2, .int (nI x66.1)), (1, .int 1), (0, .ref 66)], [], (zsh ++ vs, (zup m72 66 14 (s + (-(nI x66.1)))), ml, (zmr g))) rfl ?_
                      refine Wp.ret rfl rfl rfl ?_
                      rw [(zcla_e hi60).trans (zhe_f (zwn_y (by rw [zwd, if_pos ht61, zwd, if_pos ht62, zwd, if_pos ht63, zwd, if_pos ht64, zwd, if_pos ht65, zwd]) hz66) ht70 hr72)]
                      exact ⟨rfl, _, _, rfl, Or.inr ⟨rfl, _, _, H72.sm _⟩⟩
                  · refine Wp.run 3 (118, [(2, .int (nI x66.1)), (1, .int 1), (0, .ref 66)], [], (zsh ++ vs, (zup m70 66 13 0), ml, (zmr g))) rfl ?_
                    obtain ⟨m73, hm73⟩ : ∃ m9, m9 = (zup m70 66 13 0) := ⟨_, rfl⟩
                    rw [← hm73]
                    have H73 : MS mi m73 x66.2 0 0 s (nI A) := by rw [hm73]; exact H70.zer
                    refine Wp.run 1 (119, [(2, .int (nI x66.1)), (1, .int 1), (0, .ref 66)], [.ref 66], (zsh ++ vs, m73, ml, (zmr g))) rfl ?_
                    refine Wp.call (as := [.ref 66]) (rest := []) rfl rfl rfl rfl rfl (Nat.le_of_ble_eq_true rfl) (Nat.le_of_ble_eq_true rfl) rfl (by decide) (m_anyB R H73) ?_
                    rintro _ _ ⟨rfl, m74, rfl, H74⟩
                    refine Wp.run 4 (128, [(3, .int 0), (2, .int (nI x66.1)), (1, .int 1), (0, .ref 66)], [.int (m74 66 14), .ref 66], (zsh ++ vs, m74, ml, (zmr g))) rfl ?_
                    rw [H74.2.2.2.2.2.1]
                    refine Wp.run 6 (150, [(3, .int 0), (2, .int (nI x66.1)), (1, .int 1), (0, .ref 66)], [], (zsh ++ vs, (zup m74 66 14 (s + 0)), ml, (zmr g))) rfl ?_
                    refine Wp.ret rfl rfl rfl ?_
                    rw [(zcla_e hi60).trans (zhe_s (zwn_y (by rw [zwd, if_pos ht61, zwd, if_pos ht62, zwd, if_pos ht63, zwd, if_pos ht64, zwd, if_pos ht65, zwd]) hz66) ht70)]
                    exact ⟨rfl, _, _, rfl, Or.inr ⟨rfl, _, _, H74.sm _⟩⟩
              · refine Wp.run 1 (92, [(2, .int 4), (1, .int 1), (0, .ref 66)], [.ref 66], (zsh ++ vs, m65, ml, (zmr g))) rfl ?_
                refine Wp.call (as := [.ref 66]) (rest := []) rfl rfl rfl rfl rfl (Nat.le_of_ble_eq_true rfl) (Nat.le_of_ble_eq_true rfl) rfl (by omega) (m_numberB R H65) ?_
                rintro _ _ ⟨rfl, m75, rfl, H75⟩
                refine Wp.run 6 (110, [(2, .int 0), (1, .int 1), (0, .ref 66)], [.int 32, .ref 66], (zsh ++ vs, m75, ml, (zmr g))) rfl ?_
                refine Wp.call (as := [.ref 66, .int 32]) (rest := []) rfl rfl rfl rfl rfl (Nat.le_of_ble_eq_true rfl) (Nat.le_of_ble_eq_true rfl) rfl (by omega) (m_takesB R H75 32) ?_
                rintro _ _ ⟨rfl, m76, rfl, H76⟩
                refine Wp.run 3 (118, [(2, .int 0), (1, .int 1), (0, .ref 66)], [], (zsh ++ vs, (zup m76 66 13 0), ml, (zmr g))) rfl ?_
                obtain ⟨m77, hm77⟩ : ∃ m9, m9 = (zup m76 66 13 0) := ⟨_, rfl⟩
                rw [← hm77]
                have H77 : MS mi m77 (p + 1 + 1 + 1 + 1) 0 0 s (nI A) := by rw [hm77]; exact H76.zer
                refine Wp.run 1 (119, [(2, .int 0), (1, .int 1), (0, .ref 66)], [.ref 66], (zsh ++ vs, m77, ml, (zmr g))) rfl ?_
                refine Wp.call (as := [.ref 66]) (rest := []) rfl rfl rfl rfl rfl (Nat.le_of_ble_eq_true rfl) (Nat.le_of_ble_eq_true rfl) rfl (by decide) (m_anyB R H77) ?_
                rintro _ _ ⟨rfl, m78, rfl, H78⟩
                refine Wp.run 4 (128, [(3, .int 0), (2, .int 0), (1, .int 1), (0, .ref 66)], [.int (m78 66 14), .ref 66], (zsh ++ vs, m78, ml, (zmr g))) rfl ?_
                rw [H78.2.2.2.2.2.1]
                refine Wp.run 6 (150, [(3, .int 0), (2, .int 0), (1, .int 1), (0, .ref 66)], [], (zsh ++ vs, (zup m78 66 14 (s + 0)), ml, (zmr g))) rfl ?_
                refine Wp.ret rfl rfl rfl ?_
                rw [(zcla_e hi60).trans (zhe_o (zwn_w (by rw [zwd, if_pos ht61, zwd, if_pos ht62, zwd, if_pos ht63, zwd, if_pos ht64, zwd, if_neg ht65])))]
                exact ⟨rfl, _, _, rfl, Or.inr ⟨rfl, _, _, H78.sm _⟩⟩
            · refine Wp.run 2 (47, [(2, .int 4), (1, .int 1), (0, .ref 66)], [], (zsh ++ vs, m64, ml, (zmr g))) rfl ?_
              refine Wp.run 11 (62, [(2, .int 4), (1, .int 1), (0, .ref 66)], [.int (m64 77 9)], (zsh ++ vs, m64, ml, (zmr g))) rfl ?_
              rw [show m64 77 9 = 0 from by rw [H64.1 77 (by decide)]; exact R.2.2.2.2.2.2.2.2.2.2.2.2.2.2.2.1]
              refine Wp.run 3 (88, [(2, .int 4), (1, .int 1), (0, .ref 66)], [.int 32, .ref 66], (zsh ++ vs, m64, ml, (zmr g))) rfl ?_
              refine Wp.call (as := [.ref 66, .int 32]) (rest := []) rfl rfl rfl rfl rfl (Nat.le_of_ble_eq_true rfl) (Nat.le_of_ble_eq_true rfl) rfl (by omega) (m_takesB R H64 32) ?_
              rintro _ _ ⟨rfl, m79, rfl, H79⟩
              refine Wp.run 1 (92, [(2, .int 4), (1, .int 1), (0, .ref 66)], [.ref 66], (zsh ++ vs, m79, ml, (zmr g))) rfl ?_
              refine Wp.call (as := [.ref 66]) (rest := []) rfl rfl rfl rfl rfl (Nat.le_of_ble_eq_true rfl) (Nat.le_of_ble_eq_true rfl) rfl (by omega) (m_numberB R H79) ?_
              rintro _ _ ⟨rfl, m80, rfl, H80⟩
              refine Wp.run 6 (110, [(2, .int 0), (1, .int 1), (0, .ref 66)], [.int 32, .ref 66], (zsh ++ vs, m80, ml, (zmr g))) rfl ?_
              refine Wp.call (as := [.ref 66, .int 32]) (rest := []) rfl rfl rfl rfl rfl (Nat.le_of_ble_eq_true rfl) (Nat.le_of_ble_eq_true rfl) rfl (by omega) (m_takesB R H80 32) ?_
              rintro _ _ ⟨rfl, m81, rfl, H81⟩
              refine Wp.run 3 (118, [(2, .int 0), (1, .int 1), (0, .ref 66)], [], (zsh ++ vs, (zup m81 66 13 0), ml, (zmr g))) rfl ?_
              obtain ⟨m82, hm82⟩ : ∃ m9, m9 = (zup m81 66 13 0) := ⟨_, rfl⟩
              rw [← hm82]
              have H82 : MS mi m82 (p + 1 + 1 + 1) 0 0 s (nI A) := by rw [hm82]; exact H81.zer
              refine Wp.run 1 (119, [(2, .int 0), (1, .int 1), (0, .ref 66)], [.ref 66], (zsh ++ vs, m82, ml, (zmr g))) rfl ?_
              refine Wp.call (as := [.ref 66]) (rest := []) rfl rfl rfl rfl rfl (Nat.le_of_ble_eq_true rfl) (Nat.le_of_ble_eq_true rfl) rfl (by decide) (m_anyB R H82) ?_
              rintro _ _ ⟨rfl, m83, rfl, H83⟩
              refine Wp.run 4 (128, [(3, .int 0), (2, .int 0), (1, .int 1), (0, .ref 66)], [.int (m83 66 14), .ref 66], (zsh ++ vs, m83, ml, (zmr g))) rfl ?_
              rw [H83.2.2.2.2.2.1]
              refine Wp.run 6 (150, [(3, .int 0), (2, .int 0), (1, .int 1), (0, .ref 66)], [], (zsh ++ vs, (zup m83 66 14 (s + 0)), ml, (zmr g))) rfl ?_
              refine Wp.ret rfl rfl rfl ?_
              rw [(zcla_e hi60).trans (zhe_o (zwn_w (by rw [zwd, if_pos ht61, zwd, if_pos ht62, zwd, if_pos ht63, zwd, if_neg ht64])))]
              exact ⟨rfl, _, _, rfl, Or.inr ⟨rfl, _, _, H83.sm _⟩⟩
          · refine Wp.run 2 (47, [(2, .int 3), (1, .int 1), (0, .ref 66)], [], (zsh ++ vs, m63, ml, (zmr g))) rfl ?_
            refine Wp.run 11 (62, [(2, .int 3), (1, .int 1), (0, .ref 66)], [.int (m63 77 8)], (zsh ++ vs, m63, ml, (zmr g))) rfl ?_
            rw [show m63 77 8 = 121 from by rw [H63.1 77 (by decide)]; exact R.2.2.2.2.2.2.2.2.2.2.2.2.2.2.1]
            refine Wp.run 10 (76, [(2, .int 3), (1, .int 1), (0, .ref 66)], [.int (m63 77 8), .ref 66], (zsh ++ vs, m63, ml, (zmr g))) rfl ?_
            rw [show m63 77 8 = 121 from by rw [H63.1 77 (by decide)]; exact R.2.2.2.2.2.2.2.2.2.2.2.2.2.2.1]
            refine Wp.run 0 (76, [(2, .int 3), (1, .int 1), (0, .ref 66)], [.int 121, .ref 66], (zsh ++ vs, m63, ml, (zmr g))) rfl ?_
            refine Wp.call (as := [.ref 66, .int 121]) (rest := []) rfl rfl rfl rfl rfl (Nat.le_of_ble_eq_true rfl) (Nat.le_of_ble_eq_true rfl) rfl (by omega) (m_takesB R H63 121) ?_
            rintro _ _ ⟨rfl, m84, rfl, H84⟩
            refine Wp.run 2 (47, [(2, .int 4), (1, .int 1), (0, .ref 66)], [], (zsh ++ vs, m84, ml, (zmr g))) rfl ?_
            refine Wp.run 11 (62, [(2, .int 4), (1, .int 1), (0, .ref 66)], [.int (m84 77 9)], (zsh ++ vs, m84, ml, (zmr g))) rfl ?_
            rw [show m84 77 9 = 0 from by rw [H84.1 77 (by decide)]; exact R.2.2.2.2.2.2.2.2.2.2.2.2.2.2.2.1]
            refine Wp.run 3 (88, [(2, .int 4), (1, .int 1), (0, .ref 66)], [.int 32, .ref 66], (zsh ++ vs, m84, ml, (zmr g))) rfl ?_
            refine Wp.call (as := [.ref 66, .int 32]) (rest := []) rfl rfl rfl rfl rfl (Nat.le_of_ble_eq_true rfl) (Nat.le_of_ble_eq_true rfl) rfl (by omega) (m_takesB R H84 32) ?_
            rintro _ _ ⟨rfl, m85, rfl, H85⟩
            refine Wp.run 1 (92, [(2, .int 4), (1, .int 1), (0, .ref 66)], [.ref 66], (zsh ++ vs, m85, ml, (zmr g))) rfl ?_
            refine Wp.call (as := [.ref 66]) (rest := []) rfl rfl rfl rfl rfl (Nat.le_of_ble_eq_true rfl) (Nat.le_of_ble_eq_true rfl) rfl (by omega) (m_numberB R H85) ?_
            rintro _ _ ⟨rfl, m86, rfl, H86⟩
            refine Wp.run 6 (110, [(2, .int 0), (1, .int 1), (0, .ref 66)], [.int 32, .ref 66], (zsh ++ vs, m86, ml, (zmr g))) rfl ?_
            refine Wp.call (as := [.ref 66, .int 32]) (rest := []) rfl rfl rfl rfl rfl (Nat.le_of_ble_eq_true rfl) (Nat.le_of_ble_eq_true rfl) rfl (by omega) (m_takesB R H86 32) ?_
            rintro _ _ ⟨rfl, m87, rfl, H87⟩
            refine Wp.run 3 (118, [(2, .int 0), (1, .int 1), (0, .ref 66)], [], (zsh ++ vs, (zup m87 66 13 0), ml, (zmr g))) rfl ?_
            obtain ⟨m88, hm88⟩ : ∃ m9, m9 = (zup m87 66 13 0) := ⟨_, rfl⟩
            rw [← hm88]
            have H88 : MS mi m88 (p + 1 + 1) 0 0 s (nI A) := by rw [hm88]; exact H87.zer
            refine Wp.run 1 (119, [(2, .int 0), (1, .int 1), (0, .ref 66)], [.ref 66], (zsh ++ vs, m88, ml, (zmr g))) rfl ?_
            refine Wp.call (as := [.ref 66]) (rest := []) rfl rfl rfl rfl rfl (Nat.le_of_ble_eq_true rfl) (Nat.le_of_ble_eq_true rfl) rfl (by decide) (m_anyB R H88) ?_
            rintro _ _ ⟨rfl, m89, rfl, H89⟩
            refine Wp.run 4 (128, [(3, .int 0), (2, .int 0), (1, .int 1), (0, .ref 66)], [.int (m89 66 14), .ref 66], (zsh ++ vs, m89, ml, (zmr g))) rfl ?_
            rw [H89.2.2.2.2.2.1]
            refine Wp.run 6 (150, [(3, .int 0), (2, .int 0), (1, .int 1), (0, .ref 66)], [], (zsh ++ vs, (zup m89 66 14 (s + 0)), ml, (zmr g))) rfl ?_
            refine Wp.ret rfl rfl rfl ?_
            rw [(zcla_e hi60).trans (zhe_o (zwn_w (by rw [zwd, if_pos ht61, zwd, if_pos ht62, zwd, if_neg ht63])))]
            exact ⟨rfl, _, _, rfl, Or.inr ⟨rfl, _, _, H89.sm _⟩⟩
        · refine Wp.run 2 (47, [(2, .int 2), (1, .int 1), (0, .ref 66)], [], (zsh ++ vs, m62, ml, (zmr g))) rfl ?_
          refine Wp.run 11 (62, [(2, .int 2), (1, .int 1), (0, .ref 66)], [.int (m62 77 7)], (zsh ++ vs, m62, ml, (zmr g))) rfl ?_
          rw [show m62 77 7 = 115 from by rw [H62.1 77 (by decide)]; exact R.2.2.2.2.2.2.2.2.2.2.2.2.2.1]
          refine Wp.run 10 (76, [(2, .int 2), (1, .int 1), (0, .ref 66)], [.int (m62 77 7), .ref 66], (zsh ++ vs, m62, ml, (zmr g))) rfl ?_
          rw [show m62 77 7 = 115 from by rw [H62.1 77 (by decide)]; exact R.2.2.2.2.2.2.2.2.2.2.2.2.2.1]
          refine Wp.run 0 (76, [(2, .int 2), (1, .int 1), (0, .ref 66)], [.int 115, .ref 66], (zsh ++ vs, m62, ml, (zmr g))) rfl ?_
          refine Wp.call (as := [.ref 66, .int 115]) (rest := []) rfl rfl rfl rfl rfl (Nat.le_of_ble_eq_true rfl) (Nat.le_of_ble_eq_true rfl) rfl (by omega) (m_takesB R H62 115) ?_
          rintro _ _ ⟨rfl, m90, rfl, H90⟩
          refine Wp.run 2 (47, [(2, .int 3), (1, .int 1), (0, .ref 66)], [], (zsh ++ vs, m90, ml, (zmr g))) rfl ?_
          refine Wp.run 11 (62, [(2, .int 3), (1, .int 1), (0, .ref 66)], [.int (m90 77 8)], (zsh ++ vs, m90, ml, (zmr g))) rfl ?_
          rw [show m90 77 8 = 121 from by rw [H90.1 77 (by decide)]; exact R.2.2.2.2.2.2.2.2.2.2.2.2.2.2.1]
          refine Wp.run 10 (76, [(2, .int 3), (1, .int 1), (0, .ref 66)], [.int (m90 77 8), .ref 66], (zsh ++ vs, m90, ml, (zmr g))) rfl ?_
          rw [show m90 77 8 = 121 from by rw [H90.1 77 (by decide)]; exact R.2.2.2.2.2.2.2.2.2.2.2.2.2.2.1]
          refine Wp.run 0 (76, [(2, .int 3), (1, .int 1), (0, .ref 66)], [.int 121, .ref 66], (zsh ++ vs, m90, ml, (zmr g))) rfl ?_
          refine Wp.call (as := [.ref 66, .int 121]) (rest := []) rfl rfl rfl rfl rfl (Nat.le_of_ble_eq_true rfl) (Nat.le_of_ble_eq_true rfl) rfl (by omega) (m_takesB R H90 121) ?_
          rintro _ _ ⟨rfl, m91, rfl, H91⟩
          refine Wp.run 2 (47, [(2, .int 4), (1, .int 1), (0, .ref 66)], [], (zsh ++ vs, m91, ml, (zmr g))) rfl ?_
          refine Wp.run 11 (62, [(2, .int 4), (1, .int 1), (0, .ref 66)], [.int (m91 77 9)], (zsh ++ vs, m91, ml, (zmr g))) rfl ?_
          rw [show m91 77 9 = 0 from by rw [H91.1 77 (by decide)]; exact R.2.2.2.2.2.2.2.2.2.2.2.2.2.2.2.1]
          refine Wp.run 3 (88, [(2, .int 4), (1, .int 1), (0, .ref 66)], [.int 32, .ref 66], (zsh ++ vs, m91, ml, (zmr g))) rfl ?_
          refine Wp.call (as := [.ref 66, .int 32]) (rest := []) rfl rfl rfl rfl rfl (Nat.le_of_ble_eq_true rfl) (Nat.le_of_ble_eq_true rfl) rfl (by omega) (m_takesB R H91 32) ?_
          rintro _ _ ⟨rfl, m92, rfl, H92⟩
          refine Wp.run 1 (92, [(2, .int 4), (1, .int 1), (0, .ref 66)], [.ref 66], (zsh ++ vs, m92, ml, (zmr g))) rfl ?_
          refine Wp.call (as := [.ref 66]) (rest := []) rfl rfl rfl rfl rfl (Nat.le_of_ble_eq_true rfl) (Nat.le_of_ble_eq_true rfl) rfl (by omega) (m_numberB R H92) ?_
          rintro _ _ ⟨rfl, m93, rfl, H93⟩
          refine Wp.run 6 (110, [(2, .int 0), (1, .int 1), (0, .ref 66)], [.int 32, .ref 66], (zsh ++ vs, m93, ml, (zmr g))) rfl ?_
          refine Wp.call (as := [.ref 66, .int 32]) (rest := []) rfl rfl rfl rfl rfl (Nat.le_of_ble_eq_true rfl) (Nat.le_of_ble_eq_true rfl) rfl (by omega) (m_takesB R H93 32) ?_
          rintro _ _ ⟨rfl, m94, rfl, H94⟩
          refine Wp.run 3 (118, [(2, .int 0), (1, .int 1), (0, .ref 66)], [], (zsh ++ vs, (zup m94 66 13 0), ml, (zmr g))) rfl ?_
          obtain ⟨m95, hm95⟩ : ∃ m9, m9 = (zup m94 66 13 0) := ⟨_, rfl⟩
          rw [← hm95]
          have H95 : MS mi m95 (p + 1) 0 0 s (nI A) := by rw [hm95]; exact H94.zer
          refine Wp.run 1 (119, [(2, .int 0), (1, .int 1), (0, .ref 66)], [.ref 66], (zsh ++ vs, m95, ml, (zmr g))) rfl ?_
          refine Wp.call (as := [.ref 66]) (rest := []) rfl rfl rfl rfl rfl (Nat.le_of_ble_eq_true rfl) (Nat.le_of_ble_eq_true rfl) rfl (by decide) (m_anyB R H95) ?_
          rintro _ _ ⟨rfl, m96, rfl, H96⟩
          refine Wp.run 4 (128, [(3, .int 0), (2, .int 0), (1, .int 1), (0, .ref 66)], [.int (m96 66 14), .ref 66], (zsh ++ vs, m96, ml, (zmr g))) rfl ?_
          rw [H96.2.2.2.2.2.1]
          refine Wp.run 6 (150, [(3, .int 0), (2, .int 0), (1, .int 1), (0, .ref 66)], [], (zsh ++ vs, (zup m96 66 14 (s + 0)), ml, (zmr g))) rfl ?_
          refine Wp.ret rfl rfl rfl ?_
          rw [(zcla_e hi60).trans (zhe_o (zwn_w (by rw [zwd, if_pos ht61, zwd, if_neg ht62])))]
          exact ⟨rfl, _, _, rfl, Or.inr ⟨rfl, _, _, H96.sm _⟩⟩
    · rw [if_neg hi60]
      refine Wp.run 5 (4, [(2, .int 2), (1, .int (-1)), (0, .ref 66)], [], (zsh ++ vs, m, ml, (zmr g))) rfl ?_
      refine Wp.run 8 (16, [(2, .int 2), (1, .int (-1)), (0, .ref 66)], [.int (m 76 2), .ref 66], (zsh ++ vs, m, ml, (zmr g))) rfl ?_
      rw [show m 76 2 = 97 from by rw [H.1 76 (by decide)]; exact R.2.2.2.2.2.1.2.2]
      refine Wp.run 0 (16, [(2, .int 2), (1, .int (-1)), (0, .ref 66)], [.int 97, .ref 66], (zsh ++ vs, m, ml, (zmr g))) rfl ?_
      refine Wp.call (as := [.ref 66, .int 97]) (rest := []) rfl rfl rfl rfl rfl (Nat.le_of_ble_eq_true rfl) (Nat.le_of_ble_eq_true rfl) rfl (by omega) (m_isAtG R H 97 (by decide) (by omega)) ?_
      rintro _ _ ⟨rfl, rfl⟩
      by_cases hi97 : zch T n p = 97
      · rw [if_pos hi97]
        refine Wp.run 6 (4, [(2, .int 3), (1, .int 2), (0, .ref 66)], [], (zsh ++ vs, m, ml, (zmr g))) rfl ?_
        refine Wp.run 19 (62, [(2, .int 0), (1, .int 2), (0, .ref 66)], [.int (m 77 10)], (zsh ++ vs, m, ml, (zmr g))) rfl ?_
        rw [show m 77 10 = 97 from by rw [H.1 77 (by decide)]; exact R.2.2.2.2.2.2.2.2.2.2.2.2.2.2.2.2.1]
        refine Wp.run 10 (76, [(2, .int 0), (1, .int 2), (0, .ref 66)], [.int (m 77 10), .ref 66], (zsh ++ vs, m, ml, (zmr g))) rfl ?_
        rw [show m 77 10 = 97 from by rw [H.1 77 (by decide)]; exact R.2.2.2.2.2.2.2.2.2.2.2.2.2.2.2.2.1]
        refine Wp.run 0 (76, [(2, .int 0), (1, .int 2), (0, .ref 66)], [.int 97, .ref 66], (zsh ++ vs, m, ml, (zmr g))) rfl ?_
        refine Wp.call (as := [.ref 66, .int 97]) (rest := []) rfl rfl rfl rfl rfl (Nat.le_of_ble_eq_true rfl) (Nat.le_of_ble_eq_true rfl) rfl (by omega) (m_takesG R H 97 (by decide) (by omega)) ?_
        rintro _ _ ⟨rfl, m98, rfl, ⟨ht98, H98⟩ | ⟨ht98, H98⟩⟩
        rotate_left
        · exact absurd hi97 ht98
        · have hp98 : p + 1 ≤ n := zch_lt ht98 (by decide)
          refine Wp.run 2 (47, [(2, .int 1), (1, .int 2), (0, .ref 66)], [], (zsh ++ vs, m98, ml, (zmr g))) rfl ?_
          refine Wp.run 11 (62, [(2, .int 1), (1, .int 2), (0, .ref 66)], [.int (m98 77 11)], (zsh ++ vs, m98, ml, (zmr g))) rfl ?_
          rw [show m98 77 11 = 110 from by rw [H98.1 77 (by decide)]; exact R.2.2.2.2.2.2.2.2.2.2.2.2.2.2.2.2.2.1]
          refine Wp.run 10 (76, [(2, .int 1), (1, .int 2), (0, .ref 66)], [.int (m98 77 11), .ref 66], (zsh ++ vs, m98, ml, (zmr g))) rfl ?_
          rw [show m98 77 11 = 110 from by rw [H98.1 77 (by decide)]; exact R.2.2.2.2.2.2.2.2.2.2.2.2.2.2.2.2.2.1]
          refine Wp.run 0 (76, [(2, .int 1), (1, .int 2), (0, .ref 66)], [.int 110, .ref 66], (zsh ++ vs, m98, ml, (zmr g))) rfl ?_
          refine Wp.call (as := [.ref 66, .int 110]) (rest := []) rfl rfl rfl rfl rfl (Nat.le_of_ble_eq_true rfl) (Nat.le_of_ble_eq_true rfl) rfl (by omega) (m_takesG R H98 110 (by decide) (by omega)) ?_
          rintro _ _ ⟨rfl, m99, rfl, ⟨ht99, H99⟩ | ⟨ht99, H99⟩⟩
          · have hp99 : p + 1 + 1 ≤ n := zch_lt ht99 (by decide)
            refine Wp.run 2 (47, [(2, .int 2), (1, .int 2), (0, .ref 66)], [], (zsh ++ vs, m99, ml, (zmr g))) rfl ?_
            refine Wp.run 11 (62, [(2, .int 2), (1, .int 2), (0, .ref 66)], [.int (m99 77 12)], (zsh ++ vs, m99, ml, (zmr g))) rfl ?_
            rw [show m99 77 12 = 101 from by rw [H99.1 77 (by decide)]; exact R.2.2.2.2.2.2.2.2.2.2.2.2.2.2.2.2.2.2.1]
            refine Wp.run 10 (76, [(2, .int 2), (1, .int 2), (0, .ref 66)], [.int (m99 77 12), .ref 66], (zsh ++ vs, m99, ml, (zmr g))) rfl ?_
            rw [show m99 77 12 = 101 from by rw [H99.1 77 (by decide)]; exact R.2.2.2.2.2.2.2.2.2.2.2.2.2.2.2.2.2.2.1]
            refine Wp.run 0 (76, [(2, .int 2), (1, .int 2), (0, .ref 66)], [.int 101, .ref 66], (zsh ++ vs, m99, ml, (zmr g))) rfl ?_
            refine Wp.call (as := [.ref 66, .int 101]) (rest := []) rfl rfl rfl rfl rfl (Nat.le_of_ble_eq_true rfl) (Nat.le_of_ble_eq_true rfl) rfl (by omega) (m_takesG R H99 101 (by decide) (by omega)) ?_
            rintro _ _ ⟨rfl, m100, rfl, ⟨ht100, H100⟩ | ⟨ht100, H100⟩⟩
            · have hp100 : p + 1 + 1 + 1 ≤ n := zch_lt ht100 (by decide)
              refine Wp.run 2 (47, [(2, .int 3), (1, .int 2), (0, .ref 66)], [], (zsh ++ vs, m100, ml, (zmr g))) rfl ?_
              refine Wp.run 11 (62, [(2, .int 3), (1, .int 2), (0, .ref 66)], [.int (m100 77 13)], (zsh ++ vs, m100, ml, (zmr g))) rfl ?_
              rw [show m100 77 13 = 119 from by rw [H100.1 77 (by decide)]; exact R.2.2.2.2.2.2.2.2.2.2.2.2.2.2.2.2.2.2.2.1]
              refine Wp.run 10 (76, [(2, .int 3), (1, .int 2), (0, .ref 66)], [.int (m100 77 13), .ref 66], (zsh ++ vs, m100, ml, (zmr g))) rfl ?_
              rw [show m100 77 13 = 119 from by rw [H100.1 77 (by decide)]; exact R.2.2.2.2.2.2.2.2.2.2.2.2.2.2.2.2.2.2.2.1]
              refine Wp.run 0 (76, [(2, .int 3), (1, .int 2), (0, .ref 66)], [.int 119, .ref 66], (zsh ++ vs, m100, ml, (zmr g))) rfl ?_
              refine Wp.call (as := [.ref 66, .int 119]) (rest := []) rfl rfl rfl rfl rfl (Nat.le_of_ble_eq_true rfl) (Nat.le_of_ble_eq_true rfl) rfl (by omega) (m_takesG R H100 119 (by decide) (by omega)) ?_
              rintro _ _ ⟨rfl, m101, rfl, ⟨ht101, H101⟩ | ⟨ht101, H101⟩⟩
              · have hp101 : p + 1 + 1 + 1 + 1 ≤ n := zch_lt ht101 (by decide)
                refine Wp.run 2 (47, [(2, .int 4), (1, .int 2), (0, .ref 66)], [], (zsh ++ vs, m101, ml, (zmr g))) rfl ?_
                refine Wp.run 11 (62, [(2, .int 4), (1, .int 2), (0, .ref 66)], [.int (m101 77 14)], (zsh ++ vs, m101, ml, (zmr g))) rfl ?_
                rw [show m101 77 14 = 0 from by rw [H101.1 77 (by decide)]; exact R.2.2.2.2.2.2.2.2.2.2.2.2.2.2.2.2.2.2.2.2]
                refine Wp.run 3 (88, [(2, .int 4), (1, .int 2), (0, .ref 66)], [.int 32, .ref 66], (zsh ++ vs, m101, ml, (zmr g))) rfl ?_
                refine Wp.call (as := [.ref 66, .int 32]) (rest := []) rfl rfl rfl rfl rfl (Nat.le_of_ble_eq_true rfl) (Nat.le_of_ble_eq_true rfl) rfl (by omega) (m_takesG R H101 32 (by decide) (by omega)) ?_
                rintro _ _ ⟨rfl, m102, rfl, ⟨ht102, H102⟩ | ⟨ht102, H102⟩⟩
                · have hp102 : p + 1 + 1 + 1 + 1 + 1 ≤ n := zch_lt ht102 (by decide)
                  refine Wp.run 1 (92, [(2, .int 4), (1, .int 2), (0, .ref 66)], [.ref 66], (zsh ++ vs, m102, ml, (zmr g))) rfl ?_
                  refine Wp.call (as := [.ref 66]) (rest := []) rfl rfl rfl rfl rfl (Nat.le_of_ble_eq_true rfl) (Nat.le_of_ble_eq_true rfl) rfl (by omega) (m_numberG R H102 (by have := R.2.1; omega)) ?_
                  rintro _ _ ⟨m103, rfl, ⟨hz103, rfl, H103⟩ | ⟨x103, hz103, rfl, H103⟩⟩
                  · refine Wp.run 7 (106, [(2, .int 0), (1, .int 2), (0, .ref 66)], [], (zsh ++ vs, (zup m103 66 15 0), ml, (zmr g))) rfl ?_
                    refine Wp.ret rfl rfl rfl ?_
                    rw [zcla_n hi23 hi60 (zwn_n (by rw [zwd, if_pos ht98, zwd, if_pos ht99, zwd, if_pos ht100, zwd, if_pos ht101, zwd, if_pos ht102, zwd]) hz103)]
                    exact ⟨rfl, _, _, rfl, Or.inr ⟨rfl, _, _, H103.an _⟩⟩
                  · have hx103 := znum_ok hz103
                    refine Wp.run 7 (106, [(2, .int (nI x103.1)), (1, .int 2), (0, .ref 66)], [], (zsh ++ vs, (zup m103 66 15 (nI x103.1)), ml, (zmr g))) rfl ?_
                    refine Wp.ret rfl rfl rfl ?_
                    rw [zcla_y hi23 hi60 (zwn_y (by rw [zwd, if_pos ht98, zwd, if_pos ht99, zwd, if_pos ht100, zwd, if_pos ht101, zwd, if_pos ht102, zwd]) hz103)]
                    refine ⟨rfl, _, d, rfl, Or.inl ⟨_, rfl, ?_⟩⟩
                    show MS mi _ _ 1 _ (s + 0) (nI x103.1)
                    rw [Int32.add_zero]
                    exact H103.an _
                · refine Wp.run 1 (92, [(2, .int 4), (1, .int 2), (0, .ref 66)], [.ref 66], (zsh ++ vs, m102, ml, (zmr g))) rfl ?_
                  refine Wp.call (as := [.ref 66]) (rest := []) rfl rfl rfl rfl rfl (Nat.le_of_ble_eq_true rfl) (Nat.le_of_ble_eq_true rfl) rfl (by omega) (m_numberB R H102) ?_
                  rintro _ _ ⟨rfl, m104, rfl, H104⟩
                  refine Wp.run 7 (106, [(2, .int 0), (1, .int 2), (0, .ref 66)], [], (zsh ++ vs, (zup m104 66 15 0), ml, (zmr g))) rfl ?_
                  refine Wp.ret rfl rfl rfl ?_
                  rw [zcla_n hi23 hi60 (zwn_w (by rw [zwd, if_pos ht98, zwd, if_pos ht99, zwd, if_pos ht100, zwd, if_pos ht101, zwd, if_neg ht102]))]
                  exact ⟨rfl, _, _, rfl, Or.inr ⟨rfl, _, _, H104.an _⟩⟩
              · refine Wp.run 2 (47, [(2, .int 4), (1, .int 2), (0, .ref 66)], [], (zsh ++ vs, m101, ml, (zmr g))) rfl ?_
                refine Wp.run 11 (62, [(2, .int 4), (1, .int 2), (0, .ref 66)], [.int (m101 77 14)], (zsh ++ vs, m101, ml, (zmr g))) rfl ?_
                rw [show m101 77 14 = 0 from by rw [H101.1 77 (by decide)]; exact R.2.2.2.2.2.2.2.2.2.2.2.2.2.2.2.2.2.2.2.2]
                refine Wp.run 3 (88, [(2, .int 4), (1, .int 2), (0, .ref 66)], [.int 32, .ref 66], (zsh ++ vs, m101, ml, (zmr g))) rfl ?_
                refine Wp.call (as := [.ref 66, .int 32]) (rest := []) rfl rfl rfl rfl rfl (Nat.le_of_ble_eq_true rfl) (Nat.le_of_ble_eq_true rfl) rfl (by omega) (m_takesB R H101 32) ?_
                rintro _ _ ⟨rfl, m105, rfl, H105⟩
                refine Wp.run 1 (92, [(2, .int 4), (1, .int 2), (0, .ref 66)], [.ref 66], (zsh ++ vs, m105, ml, (zmr g))) rfl ?_
                refine Wp.call (as := [.ref 66]) (rest := []) rfl rfl rfl rfl rfl (Nat.le_of_ble_eq_true rfl) (Nat.le_of_ble_eq_true rfl) rfl (by omega) (m_numberB R H105) ?_
                rintro _ _ ⟨rfl, m106, rfl, H106⟩
                refine Wp.run 7 (106, [(2, .int 0), (1, .int 2), (0, .ref 66)], [], (zsh ++ vs, (zup m106 66 15 0), ml, (zmr g))) rfl ?_
                refine Wp.ret rfl rfl rfl ?_
                rw [zcla_n hi23 hi60 (zwn_w (by rw [zwd, if_pos ht98, zwd, if_pos ht99, zwd, if_pos ht100, zwd, if_neg ht101]))]
                exact ⟨rfl, _, _, rfl, Or.inr ⟨rfl, _, _, H106.an _⟩⟩
            · refine Wp.run 2 (47, [(2, .int 3), (1, .int 2), (0, .ref 66)], [], (zsh ++ vs, m100, ml, (zmr g))) rfl ?_
              refine Wp.run 11 (62, [(2, .int 3), (1, .int 2), (0, .ref 66)], [.int (m100 77 13)], (zsh ++ vs, m100, ml, (zmr g))) rfl ?_
              rw [show m100 77 13 = 119 from by rw [H100.1 77 (by decide)]; exact R.2.2.2.2.2.2.2.2.2.2.2.2.2.2.2.2.2.2.2.1]
              refine Wp.run 10 (76, [(2, .int 3), (1, .int 2), (0, .ref 66)], [.int (m100 77 13), .ref 66], (zsh ++ vs, m100, ml, (zmr g))) rfl ?_
              rw [show m100 77 13 = 119 from by rw [H100.1 77 (by decide)]; exact R.2.2.2.2.2.2.2.2.2.2.2.2.2.2.2.2.2.2.2.1]
              refine Wp.run 0 (76, [(2, .int 3), (1, .int 2), (0, .ref 66)], [.int 119, .ref 66], (zsh ++ vs, m100, ml, (zmr g))) rfl ?_
              refine Wp.call (as := [.ref 66, .int 119]) (rest := []) rfl rfl rfl rfl rfl (Nat.le_of_ble_eq_true rfl) (Nat.le_of_ble_eq_true rfl) rfl (by omega) (m_takesB R H100 119) ?_
              rintro _ _ ⟨rfl, m107, rfl, H107⟩
              refine Wp.run 2 (47, [(2, .int 4), (1, .int 2), (0, .ref 66)], [], (zsh ++ vs, m107, ml, (zmr g))) rfl ?_
              refine Wp.run 11 (62, [(2, .int 4), (1, .int 2), (0, .ref 66)], [.int (m107 77 14)], (zsh ++ vs, m107, ml, (zmr g))) rfl ?_
              rw [show m107 77 14 = 0 from by rw [H107.1 77 (by decide)]; exact R.2.2.2.2.2.2.2.2.2.2.2.2.2.2.2.2.2.2.2.2]
              refine Wp.run 3 (88, [(2, .int 4), (1, .int 2), (0, .ref 66)], [.int 32, .ref 66], (zsh ++ vs, m107, ml, (zmr g))) rfl ?_
              refine Wp.call (as := [.ref 66, .int 32]) (rest := []) rfl rfl rfl rfl rfl (Nat.le_of_ble_eq_true rfl) (Nat.le_of_ble_eq_true rfl) rfl (by omega) (m_takesB R H107 32) ?_
              rintro _ _ ⟨rfl, m108, rfl, H108⟩
              refine Wp.run 1 (92, [(2, .int 4), (1, .int 2), (0, .ref 66)], [.ref 66], (zsh ++ vs, m108, ml, (zmr g))) rfl ?_
              refine Wp.call (as := [.ref 66]) (rest := []) rfl rfl rfl rfl rfl (Nat.le_of_ble_eq_true rfl) (Nat.le_of_ble_eq_true rfl) rfl (by omega) (m_numberB R H108) ?_
              rintro _ _ ⟨rfl, m109, rfl, H109⟩
              refine Wp.run 7 (106, [(2, .int 0), (1, .int 2), (0, .ref 66)], [], (zsh ++ vs, (zup m109 66 15 0), ml, (zmr g))) rfl ?_
              refine Wp.ret rfl rfl rfl ?_
              rw [zcla_n hi23 hi60 (zwn_w (by rw [zwd, if_pos ht98, zwd, if_pos ht99, zwd, if_neg ht100]))]
              exact ⟨rfl, _, _, rfl, Or.inr ⟨rfl, _, _, H109.an _⟩⟩
          · refine Wp.run 2 (47, [(2, .int 2), (1, .int 2), (0, .ref 66)], [], (zsh ++ vs, m99, ml, (zmr g))) rfl ?_
            refine Wp.run 11 (62, [(2, .int 2), (1, .int 2), (0, .ref 66)], [.int (m99 77 12)], (zsh ++ vs, m99, ml, (zmr g))) rfl ?_
            rw [show m99 77 12 = 101 from by rw [H99.1 77 (by decide)]; exact R.2.2.2.2.2.2.2.2.2.2.2.2.2.2.2.2.2.2.1]
            refine Wp.run 10 (76, [(2, .int 2), (1, .int 2), (0, .ref 66)], [.int (m99 77 12), .ref 66], (zsh ++ vs, m99, ml, (zmr g))) rfl ?_
            rw [show m99 77 12 = 101 from by rw [H99.1 77 (by decide)]; exact R.2.2.2.2.2.2.2.2.2.2.2.2.2.2.2.2.2.2.1]
            refine Wp.run 0 (76, [(2, .int 2), (1, .int 2), (0, .ref 66)], [.int 101, .ref 66], (zsh ++ vs, m99, ml, (zmr g))) rfl ?_
            refine Wp.call (as := [.ref 66, .int 101]) (rest := []) rfl rfl rfl rfl rfl (Nat.le_of_ble_eq_true rfl) (Nat.le_of_ble_eq_true rfl) rfl (by omega) (m_takesB R H99 101) ?_
            rintro _ _ ⟨rfl, m110, rfl, H110⟩
            refine Wp.run 2 (47, [(2, .int 3), (1, .int 2), (0, .ref 66)], [], (zsh ++ vs, m110, ml, (zmr g))) rfl ?_
            refine Wp.run 11 (62, [(2, .int 3), (1, .int 2), (0, .ref 66)], [.int (m110 77 13)], (zsh ++ vs, m110, ml, (zmr g))) rfl ?_
            rw [show m110 77 13 = 119 from by rw [H110.1 77 (by decide)]; exact R.2.2.2.2.2.2.2.2.2.2.2.2.2.2.2.2.2.2.2.1]
            refine Wp.run 10 (76, [(2, .int 3), (1, .int 2), (0, .ref 66)], [.int (m110 77 13), .ref 66], (zsh ++ vs, m110, ml, (zmr g))) rfl ?_
            rw [show m110 77 13 = 119 from by rw [H110.1 77 (by decide)]; exact R.2.2.2.2.2.2.2.2.2.2.2.2.2.2.2.2.2.2.2.1]
            refine Wp.run 0 (76, [(2, .int 3), (1, .int 2), (0, .ref 66)], [.int 119, .ref 66], (zsh ++ vs, m110, ml, (zmr g))) rfl ?_
            refine Wp.call (as := [.ref 66, .int 119]) (rest := []) rfl rfl rfl rfl rfl (Nat.le_of_ble_eq_true rfl) (Nat.le_of_ble_eq_true rfl) rfl (by omega) (m_takesB R H110 119) ?_
            rintro _ _ ⟨rfl, m111, rfl, H111⟩
            refine Wp.run 2 (47, [(2, .int 4), (1, .int 2), (0, .ref 66)], [], (zsh ++ vs, m111, ml, (zmr g))) rfl ?_
            refine Wp.run 11 (62, [(2, .int 4), (1, .int 2), (0, .ref 66)], [.int (m111 77 14)], (zsh ++ vs, m111, ml, (zmr g))) rfl ?_
            rw [show m111 77 14 = 0 from by rw [H111.1 77 (by decide)]; exact R.2.2.2.2.2.2.2.2.2.2.2.2.2.2.2.2.2.2.2.2]
            refine Wp.run 3 (88, [(2, .int 4), (1, .int 2), (0, .ref 66)], [.int 32, .ref 66], (zsh ++ vs, m111, ml, (zmr g))) rfl ?_
            refine Wp.call (as := [.ref 66, .int 32]) (rest := []) rfl rfl rfl rfl rfl (Nat.le_of_ble_eq_true rfl) (Nat.le_of_ble_eq_true rfl) rfl (by omega) (m_takesB R H111 32) ?_
            rintro _ _ ⟨rfl, m112, rfl, H112⟩
            refine Wp.run 1 (92, [(2, .int 4), (1, .int 2), (0, .ref 66)], [.ref 66], (zsh ++ vs, m112, ml, (zmr g))) rfl ?_
            refine Wp.call (as := [.ref 66]) (rest := []) rfl rfl rfl rfl rfl (Nat.le_of_ble_eq_true rfl) (Nat.le_of_ble_eq_true rfl) rfl (by omega) (m_numberB R H112) ?_
            rintro _ _ ⟨rfl, m113, rfl, H113⟩
            refine Wp.run 7 (106, [(2, .int 0), (1, .int 2), (0, .ref 66)], [], (zsh ++ vs, (zup m113 66 15 0), ml, (zmr g))) rfl ?_
            refine Wp.ret rfl rfl rfl ?_
            rw [zcla_n hi23 hi60 (zwn_w (by rw [zwd, if_pos ht98, zwd, if_neg ht99]))]
            exact ⟨rfl, _, _, rfl, Or.inr ⟨rfl, _, _, H113.an _⟩⟩
      · rw [if_neg hi97]
        refine Wp.run 5 (4, [(2, .int 3), (1, .int (-1)), (0, .ref 66)], [], (zsh ++ vs, m, ml, (zmr g))) rfl ?_
        refine Wp.run 9 (44, [(2, .int 3), (1, .int (-1)), (0, .ref 66)], [], (zsh ++ vs, (zup m 66 12 0), ml, (zmr g))) rfl ?_
        refine Wp.ret rfl rfl rfl ?_
        rw [zcla_n hi23 hi60 (zwn_w (by rw [zwd, if_neg hi97]))]
        exact ⟨rfl, _, _, rfl, Or.inr ⟨rfl, _, _, H.bad⟩⟩
/-- what reading all leaves -/
def mR (mi : Nat → Nat → Int32) (nm : Nat → Int32) (vs : List (Nat × Nat)) (ml : Nat → Nat → Int64) (g : Nat → Nat → Option Nat) (res : Option zV × Nat) (r : Option Value) (w' : zW) : Prop :=
  ∃ m' d', w' = (zsh ++ vs, m', ml, zmr g) ∧ ((∃ U, res.1 = some U ∧ r = some (.int 1) ∧ MS mi m' res.2 1 d' (2 * nm 3 + U.2.1 nm) (nI U.2.2)) ∨ (res.1 = none ∧ r = some (.int 0) ∧ ∃ wl s' a', MS mi m' res.2 wl d' s' a'))
theorem nI_sur (x : Int32) : ∃ d, x = nI d := ⟨x.toBitVec.toNat, Int32.toBitVec_inj.mp (by show _ = BitVec.ofNat 32 _; rw [BitVec.ofNat_toNat, BitVec.setWidth_eq])⟩
theorem m_readAll_b {E : zEn} {vs : List (Nat × Nat)} {mi : Nat → Nat → Int32} {ml : Nat → Nat → Int64} {g : Nat → Nat → Option Nat} {T : Nat → Int32} {n : Nat} {nm : Nat → Int32} (R : RM T n nm mi) {m : Nat → Nat → Int32} {p d : Nat} {s a : Int32} (H : MS mi m p 0 d s a) (x : Int32) {D : Nat} (hD : 1 ≤ D) : Wp E D pg_M_readAll 34 [(0, .ref 66), (1, .int x)] [] (zsh ++ vs, m, ml, zmr g) (fun r w' => r = some (.int 0) ∧ ∃ m', w' = (zsh ++ vs, m', ml, zmr g) ∧ MS mi m' p 0 d s a) := by
  refine Wp.run 2 (37, [(0, .ref 66), (1, .int x)], [.int 10, .int x], (zsh ++ vs, m, ml, (zmr g))) rfl ?_
  refine Wp.icmp_ge rfl (fun h1 => ?_) (fun h1 => ?_)
  · refine Wp.run 2 (73, [(0, .ref 66), (1, .int x)], [.int (m 66 12)], (zsh ++ vs, m, ml, (zmr g))) rfl ?_
    rw [H.2.2.2.1]
    refine Wp.run 2 (92, [(0, .ref 66), (1, .int x)], [.int 0], (zsh ++ vs, m, ml, (zmr g))) rfl ?_
    refine Wp.ret rfl rfl rfl ?_
    exact ⟨rfl, _, rfl, H⟩
  · refine Wp.run 2 (43, [(0, .ref 66), (1, .int x)], [.int 59, .ref 66], (zsh ++ vs, m, ml, (zmr g))) rfl ?_
    refine Wp.call (as := [.ref 66, .int 59]) (rest := []) rfl rfl rfl rfl rfl (Nat.le_of_ble_eq_true rfl) (Nat.le_of_ble_eq_true rfl) rfl (by omega) (m_isAtB R H 59) ?_
    rintro _ _ ⟨rfl, rfl⟩
    refine Wp.run 3 (73, [(0, .ref 66), (1, .int x)], [.int (m 66 12)], (zsh ++ vs, m, ml, (zmr g))) rfl ?_
    rw [H.2.2.2.1]
    refine Wp.run 2 (92, [(0, .ref 66), (1, .int x)], [.int 0], (zsh ++ vs, m, ml, (zmr g))) rfl ?_
    refine Wp.ret rfl rfl rfl ?_
    exact ⟨rfl, _, rfl, H⟩
theorem m_readAll_l {E : zEn} {vs : List (Nat × Nat)} {mi : Nat → Nat → Int32} {ml : Nat → Nat → Int64} {g : Nat → Nat → Option Nat} {T : Nat → Int32} {n : Nat} {nm : Nat → Int32} (R : RM T n nm mi) : ∀ (k j : Nat) (V : zV) (q d : Nat) (m : Nat → Nat → Int32), j + k = 10 → q ≤ n → MS mi m q 1 d (2 * nm 3 + V.2.1 nm) (nI V.2.2) → Wp E 19 pg_M_readAll 34 [(0, .ref 66), (1, .int (nI j))] [] (zsh ++ vs, m, ml, zmr g) (mR mi nm vs ml g (if q = n then (some V, q) else if k = 0 then (none, q) else if zch T n q = 59 then zcsa T n k V (q + 1) else (none, q))) := by
  have hR := R.2.1
  intro k
  induction k with
  | zero =>
    intro j V q d m hj hqn H
    obtain rfl : j = 10 := by omega
    refine Wp.run 5 (73, [(0, .ref 66), (1, .int 10)], [.int (m 66 12)], (zsh ++ vs, m, ml, (zmr g))) rfl ?_
    rw [H.2.2.2.1]
    refine Wp.run 3 (80, [(0, .ref 66), (1, .int 10)], [.int (m 66 11)], (zsh ++ vs, m, ml, (zmr g))) rfl ?_
    rw [H.2.2.1]
    refine Wp.run 2 (84, [(0, .ref 66), (1, .int 10)], [.int (m 66 10), .int (nI q)], (zsh ++ vs, m, ml, (zmr g))) rfl ?_
    rw [(H.2.1 10 (by omega)).trans R.1]
    refine Wp.run 0 (84, [(0, .ref 66), (1, .int 10)], [.int (nI n), .int (nI q)], (zsh ++ vs, m, ml, (zmr g))) rfl ?_
    refine Wp.icmp_ne rfl (fun h1 => ?_) (fun h1 => ?_)
    · refine Wp.run 1 (92, [(0, .ref 66), (1, .int 10)], [.int 0], (zsh ++ vs, m, ml, (zmr g))) rfl ?_
      refine Wp.ret rfl rfl rfl ?_
      have e8 : ¬ q = n := fun e => h1 (by rw [e])
      rw [if_neg e8]
      rw [if_pos rfl]
      exact ⟨_, _, rfl, Or.inr ⟨rfl, rfl, _, _, _, H⟩⟩
    · refine Wp.run 2 (92, [(0, .ref 66), (1, .int 10)], [.int 1], (zsh ++ vs, m, ml, (zmr g))) rfl ?_
      refine Wp.ret rfl rfl rfl ?_
      have e8 : q = n := (nI_eq (by omega) (by omega)).mp h1
      rw [if_pos e8]
      exact ⟨_, _, rfl, Or.inl ⟨V, rfl, rfl, H⟩⟩
  | succ k ih =>
    intro j V q d m hj hqn H
    refine Wp.run 2 (37, [(0, .ref 66), (1, .int (nI j))], [.int 10, .int (nI j)], (zsh ++ vs, m, ml, (zmr g))) rfl ?_
    refine Wp.icmp_ge rfl (fun h1 => ?_) (fun h1 => ?_)
    · exact absurd h1 (nI_ge (b := 10) (by omega) (by decide))
    · refine Wp.run 2 (43, [(0, .ref 66), (1, .int (nI j))], [.int 59, .ref 66], (zsh ++ vs, m, ml, (zmr g))) rfl ?_
      refine Wp.call (as := [.ref 66, .int 59]) (rest := []) rfl rfl rfl rfl rfl (Nat.le_of_ble_eq_true rfl) (Nat.le_of_ble_eq_true rfl) rfl (by omega) (m_isAtG R H 59 (by decide) (by omega)) ?_
      rintro _ _ ⟨rfl, rfl⟩
      by_cases hi114 : zch T n q = 59
      · rw [if_pos hi114]
        refine Wp.run 7 (59, [(0, .ref 66), (1, .int (nI j))], [], (zsh ++ vs, (zup m 66 11 ((m 66 11) + 1)), ml, (zmr g))) rfl ?_
        obtain ⟨m115, hm115⟩ : ∃ m9, m9 = (zup m 66 11 ((m 66 11) + 1)) := ⟨_, rfl⟩
        rw [← hm115]
        have H115 : MS mi m115 (q + 1) 1 d (2 * nm 3 + V.2.1 nm) (nI V.2.2) := by rw [hm115]; exact H.adv
        have hp115 : q + 1 ≤ n := zch_lt hi114 (by decide)
        refine Wp.run 1 (60, [(0, .ref 66), (1, .int (nI j))], [.ref 66], (zsh ++ vs, m115, ml, (zmr g))) rfl ?_
        refine Wp.call (as := [.ref 66]) (rest := []) rfl rfl rfl rfl rfl (Nat.le_of_ble_eq_true rfl) (Nat.le_of_ble_eq_true rfl) rfl (by decide) (m_clause R H115 (by omega)) ?_
        rintro _ _ ⟨rfl, m116, d116, rfl, hc116⟩
        rcases hr116 : zcla T n (q + 1) with ⟨o116, q116⟩
        rw [hr116] at hc116
        rcases hc116 with ⟨c116, ho116, H116⟩ | ⟨ho116, s116, a116, H116⟩
        · cases (show o116 = some c116 from ho116)
          have hg116 := zcla_ok (by omega) hr116
          refine Wp.run 2 (34, [(1, .int ((nI j) + 1)), (0, .ref 66)], [], (zsh ++ vs, m116, ml, (zmr g))) rfl ?_
          rw [if_neg (show ¬ q = n by have := zch_lt hi114 (by decide); omega), if_neg (Nat.succ_ne_zero k), if_pos hi114]
          rw [zcsa, hr116]
          refine Wp.sub (a := [(0, .ref 66), (1, .int (nI j + 1))]) (zle_cons rfl (zle_cons rfl (zle_nil))) ?_
          rw [nI_1]
          have K9 := ih (j + 1) (zad V c116) q116 d116 m116 (by omega) hg116.2.1 (by show MS mi _ _ 1 _ (2 * nm 3 + (V.2.1 nm + c116.2.1 nm)) _; rw [← Int32.add_assoc]; exact H116)
          exact K9
        · cases (show o116 = none from ho116)
          refine Wp.run 2 (34, [(1, .int ((nI j) + 1)), (0, .ref 66)], [], (zsh ++ vs, m116, ml, (zmr g))) rfl ?_
          rw [if_neg (show ¬ q = n by have := zch_lt hi114 (by decide); omega), if_neg (Nat.succ_ne_zero k), if_pos hi114]
          rw [zcsa, hr116]
          refine Wp.sub (a := [(0, .ref 66), (1, .int (nI j + 1))]) (zle_cons rfl (zle_cons rfl (zle_nil))) ?_
          refine (m_readAll_b R H116 _ (by decide)).weak ?_
          rintro _ _ ⟨rfl, m9, rfl, H9⟩
          exact ⟨_, _, rfl, Or.inr ⟨rfl, rfl, _, _, _, H9⟩⟩
      · rw [if_neg hi114]
        refine Wp.run 3 (73, [(0, .ref 66), (1, .int (nI j))], [.int (m 66 12)], (zsh ++ vs, m, ml, (zmr g))) rfl ?_
        rw [H.2.2.2.1]
        refine Wp.run 3 (80, [(0, .ref 66), (1, .int (nI j))], [.int (m 66 11)], (zsh ++ vs, m, ml, (zmr g))) rfl ?_
        rw [H.2.2.1]
        refine Wp.run 2 (84, [(0, .ref 66), (1, .int (nI j))], [.int (m 66 10), .int (nI q)], (zsh ++ vs, m, ml, (zmr g))) rfl ?_
        rw [(H.2.1 10 (by omega)).trans R.1]
        refine Wp.run 0 (84, [(0, .ref 66), (1, .int (nI j))], [.int (nI n), .int (nI q)], (zsh ++ vs, m, ml, (zmr g))) rfl ?_
        refine Wp.icmp_ne rfl (fun h2 => ?_) (fun h2 => ?_)
        · refine Wp.run 1 (92, [(0, .ref 66), (1, .int (nI j))], [.int 0], (zsh ++ vs, m, ml, (zmr g))) rfl ?_
          refine Wp.ret rfl rfl rfl ?_
          have e8 : ¬ q = n := fun e => h2 (by rw [e])
          rw [if_neg e8]
          rw [if_neg (Nat.succ_ne_zero k), if_neg hi114]
          exact ⟨_, _, rfl, Or.inr ⟨rfl, rfl, _, _, _, H⟩⟩
        · refine Wp.run 2 (92, [(0, .ref 66), (1, .int (nI j))], [.int 1], (zsh ++ vs, m, ml, (zmr g))) rfl ?_
          refine Wp.ret rfl rfl rfl ?_
          have e8 : q = n := (nI_eq (by omega) (by omega)).mp h2
          rw [if_pos e8]
          exact ⟨_, _, rfl, Or.inl ⟨V, rfl, rfl, H⟩⟩
theorem m_readAll {E : zEn} {vs : List (Nat × Nat)} {mi : Nat → Nat → Int32} {ml : Nat → Nat → Int64} {g : Nat → Nat → Option Nat} {T : Nat → Int32} {n : Nat} {nm : Nat → Int32} (R : RM T n nm mi) : Wp E 19 pg_M_readAll 0 (lv_args 0 [.ref 66]) [] (zsh ++ vs, mi, ml, zmr g) (mR mi nm vs ml g (zcsa T n 10 ([], fun _ => 0, 50) 0)) := by
  have hR := R.2.1
  refine Wp.run 12 (18, [(0, .ref 66)], [.int (mi 74 3), .int 2, .ref 66], (zsh ++ vs, (zup (zup mi 66 11 0) 66 12 1), ml, (zmr g))) rfl ?_
  rw [show mi 74 3 = nm 3 from R.2.2.2.1 3 (by decide)]
  refine Wp.run 5 (28, [(0, .ref 66)], [], (zsh ++ vs, (zup (zup (zup (zup mi 66 11 0) 66 12 1) 66 14 (2 * (nm 3))) 66 15 50), ml, (zmr g))) rfl ?_
  obtain ⟨d0, hd0⟩ := nI_sur (mi 66 13)
  obtain ⟨m0, hm0⟩ : ∃ m9, m9 = (zup (zup (zup (zup mi 66 11 0) 66 12 1) 66 14 (2 * (nm 3))) 66 15 50) := ⟨_, rfl⟩
  rw [← hm0]
  have H0 : MS mi m0 0 1 d0 (2 * nm 3) (nI 50) := by
    rw [hm0]
    refine ⟨fun b hb => by rw [zup_ne hb, zup_ne hb, zup_ne hb, zup_ne hb], fun k hk => ?_, rfl, rfl, ?_, rfl, rfl⟩
    · simp only [zup, if_true, if_neg (show ¬ k = 11 by omega), if_neg (show ¬ k = 12 by omega), if_neg (show ¬ k = 14 by omega), if_neg (show ¬ k = 15 by omega)]
    · exact hd0
  refine Wp.run 3 (31, [(1, .int 1), (0, .ref 66)], [.ref 66], (zsh ++ vs, m0, ml, (zmr g))) rfl ?_
  refine Wp.call (as := [.ref 66]) (rest := []) rfl rfl rfl rfl rfl (Nat.le_of_ble_eq_true rfl) (Nat.le_of_ble_eq_true rfl) rfl (by decide) (m_clause R H0 (Nat.zero_le _)) ?_
  rintro _ _ ⟨rfl, m117, d117, rfl, hc117⟩
  rcases hr117 : zcla T n 0 with ⟨o117, q117⟩
  rw [hr117] at hc117
  rcases hc117 with ⟨c117, ho117, H117⟩ | ⟨ho117, s117, a117, H117⟩
  · cases (show o117 = some c117 from ho117)
    have hg117 := zcla_ok (by omega) hr117
    refine Wp.run 0 (34, [(1, .int 1), (0, .ref 66)], [], (zsh ++ vs, m117, ml, (zmr g))) rfl ?_
    rw [zcsa, hr117]
    refine Wp.sub (a := [(0, .ref 66), (1, .int 1)]) (zle_cons rfl (zle_cons rfl (zle_nil))) ?_
    exact m_readAll_l R 9 1 (zad ([], fun _ => 0, 50) c117) q117 d117 m117 rfl hg117.2.1 (by show MS mi _ _ 1 _ (2 * nm 3 + (0 + c117.2.1 nm)) _; rw [Int32.zero_add]; exact H117)
  · cases (show o117 = none from ho117)
    refine Wp.run 0 (34, [(1, .int 1), (0, .ref 66)], [], (zsh ++ vs, m117, ml, (zmr g))) rfl ?_
    rw [zcsa, hr117]
    refine Wp.sub (a := [(0, .ref 66), (1, .int 1)]) (zle_cons rfl (zle_cons rfl (zle_nil))) ?_
    refine (m_readAll_b R H117 _ (by decide)).weak ?_
    rintro _ _ ⟨rfl, m9, rfl, H9⟩
    exact ⟨_, _, rfl, Or.inr ⟨rfl, rfl, _, _, _, H9⟩⟩
