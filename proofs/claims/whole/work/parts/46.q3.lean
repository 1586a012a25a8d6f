/-! THE REFERENCE'S READER: what goes well -/
theorem Wp.retb {E : zEn} {d : Nat} {cd : List zI} {pc : Nat} {lv : zLv} {w : zW} {P : Option Value → zW → Prop} {len fb fc : Nat} {b : Bool} (hi : cd[pc]? = some (.ireturn, len, 1, fb, fc)) (hp : P (some (.int (if b = true then 1 else 0))) w) : Wp E d cd pc lv [.int (if b = true then 1 else 0)] w P := by
  cases b
  · exact Wp.ret hi rfl rfl hp
  · exact Wp.ret hi rfl rfl hp
theorem b2_a {x y : Bool} (h1 : ¬ (if x = true then (1 : Int32) else 0) = 0) (h2 : ¬ (if y = true then (1 : Int32) else 0) = 0) : (1 : Int32) = if (x && y) = true then 1 else 0 := by
  revert h1 h2
  cases x <;> cases y <;> decide
theorem b2_b {x y : Bool} (h1 : (if x = true then (1 : Int32) else 0) = 0) : (0 : Int32) = if (x && y) = true then 1 else 0 := by
  revert h1
  cases x <;> cases y <;> decide
theorem b2_c {x y : Bool} (h1 : (if y = true then (1 : Int32) else 0) = 0) : (0 : Int32) = if (x && y) = true then 1 else 0 := by
  revert h1
  cases x <;> cases y <;> decide
theorem b2_d {x y : Bool} (h1 : ¬ (if x = true then (1 : Int32) else 0) = 0) : (1 : Int32) = if (x || y) = true then 1 else 0 := by
  revert h1
  cases x <;> cases y <;> decide
theorem b2_e {x y : Bool} (h1 : ¬ (if y = true then (1 : Int32) else 0) = 0) : (1 : Int32) = if (x || y) = true then 1 else 0 := by
  revert h1
  cases x <;> cases y <;> decide
theorem b2_f {x y : Bool} (h1 : (if x = true then (1 : Int32) else 0) = 0) (h2 : (if y = true then (1 : Int32) else 0) = 0) : (0 : Int32) = if (x || y) = true then 1 else 0 := by
  revert h1 h2
  cases x <;> cases y <;> decide
theorem b2_n {x : Bool} (h1 : ¬ (if x = true then (1 : Int32) else 0) = 0) : (0 : Int32) = if (!x) = true then 1 else 0 := by
  revert h1
  cases x <;> decide
theorem b2_m {x : Bool} (h1 : (if x = true then (1 : Int32) else 0) = 0) : (1 : Int32) = if (!x) = true then 1 else 0 := by
  revert h1
  cases x <;> decide
theorem m_both_b0 {E : zEn} {vs : List (Nat × Nat)} {mi : Nat → Nat → Int32} {ml : Nat → Nat → Int64} {g : Nat → Nat → Option Nat} {T : Nat → Int32} {n : Nat} {nm : Nat → Int32} (R : RM T n nm mi) {m : Nat → Nat → Int32} {p d : Nat} {s a : Int32} (H : MS mi m p 0 d s a) {D : Nat} (hD : 1 ≤ D) : Wp E D pg_M_both 5 [(0, .ref 66), (1, .int 0)] [] (zsh ++ vs, m, ml, zmr g) (fun r w' => r = some (.int 0) ∧ ∃ m', w' = (zsh ++ vs, m', ml, zmr g) ∧ MS mi m' p 0 d s a) := by
  refine Wp.run 2 (8, [(0, .ref 66), (1, .int 0)], [.int 38, .ref 66], (zsh ++ vs, m, ml, (zmr g))) rfl ?_
  refine Wp.call (as := [.ref 66, .int 38]) (rest := []) rfl rfl rfl rfl rfl (Nat.le_of_ble_eq_true rfl) (Nat.le_of_ble_eq_true rfl) rfl (by omega) (m_isAtB R H 38) ?_
  rintro _ _ ⟨rfl, rfl⟩
  refine Wp.run 2 (47, [(0, .ref 66), (1, .int 0)], [.int 0], (zsh ++ vs, m, ml, (zmr g))) rfl ?_
  refine Wp.ret rfl rfl rfl ?_
  exact ⟨rfl, _, rfl, H⟩
theorem m_both_b1 {E : zEn} {vs : List (Nat × Nat)} {mi : Nat → Nat → Int32} {ml : Nat → Nat → Int64} {g : Nat → Nat → Option Nat} {T : Nat → Int32} {n : Nat} {nm : Nat → Int32} (R : RM T n nm mi) {m : Nat → Nat → Int32} {p d : Nat} {s a : Int32} (H : MS mi m p 0 d s a) {D : Nat} (hD : 1 ≤ D) : Wp E D pg_M_both 5 [(0, .ref 66), (1, .int 1)] [] (zsh ++ vs, m, ml, zmr g) (fun r w' => r = some (.int 1) ∧ ∃ m', w' = (zsh ++ vs, m', ml, zmr g) ∧ MS mi m' p 0 d s a) := by
  refine Wp.run 2 (8, [(0, .ref 66), (1, .int 1)], [.int 38, .ref 66], (zsh ++ vs, m, ml, (zmr g))) rfl ?_
  refine Wp.call (as := [.ref 66, .int 38]) (rest := []) rfl rfl rfl rfl rfl (Nat.le_of_ble_eq_true rfl) (Nat.le_of_ble_eq_true rfl) rfl (by omega) (m_isAtB R H 38) ?_
  rintro _ _ ⟨rfl, rfl⟩
  refine Wp.run 2 (47, [(0, .ref 66), (1, .int 1)], [.int 1], (zsh ++ vs, m, ml, (zmr g))) rfl ?_
  refine Wp.ret rfl rfl rfl ?_
  exact ⟨rfl, _, rfl, H⟩
theorem m_any_b0 {E : zEn} {vs : List (Nat × Nat)} {mi : Nat → Nat → Int32} {ml : Nat → Nat → Int64} {g : Nat → Nat → Option Nat} {T : Nat → Int32} {n : Nat} {nm : Nat → Int32} (R : RM T n nm mi) {m : Nat → Nat → Int32} {p d : Nat} {s a : Int32} (H : MS mi m p 0 d s a) {D : Nat} (hD : 1 ≤ D) : Wp E D pg_M_any 5 [(0, .ref 66), (1, .int 0)] [] (zsh ++ vs, m, ml, zmr g) (fun r w' => r = some (.int 0) ∧ ∃ m', w' = (zsh ++ vs, m', ml, zmr g) ∧ MS mi m' p 0 d s a) := by
  refine Wp.run 2 (8, [(0, .ref 66), (1, .int 0)], [.int 124, .ref 66], (zsh ++ vs, m, ml, (zmr g))) rfl ?_
  refine Wp.call (as := [.ref 66, .int 124]) (rest := []) rfl rfl rfl rfl rfl (Nat.le_of_ble_eq_true rfl) (Nat.le_of_ble_eq_true rfl) rfl (by omega) (m_isAtB R H 124) ?_
  rintro _ _ ⟨rfl, rfl⟩
  refine Wp.run 2 (47, [(0, .ref 66), (1, .int 0)], [.int 0], (zsh ++ vs, m, ml, (zmr g))) rfl ?_
  refine Wp.ret rfl rfl rfl ?_
  exact ⟨rfl, _, rfl, H⟩
theorem m_any_b1 {E : zEn} {vs : List (Nat × Nat)} {mi : Nat → Nat → Int32} {ml : Nat → Nat → Int64} {g : Nat → Nat → Option Nat} {T : Nat → Int32} {n : Nat} {nm : Nat → Int32} (R : RM T n nm mi) {m : Nat → Nat → Int32} {p d : Nat} {s a : Int32} (H : MS mi m p 0 d s a) {D : Nat} (hD : 1 ≤ D) : Wp E D pg_M_any 5 [(0, .ref 66), (1, .int 1)] [] (zsh ++ vs, m, ml, zmr g) (fun r w' => r = some (.int 1) ∧ ∃ m', w' = (zsh ++ vs, m', ml, zmr g) ∧ MS mi m' p 0 d s a) := by
  refine Wp.run 2 (8, [(0, .ref 66), (1, .int 1)], [.int 124, .ref 66], (zsh ++ vs, m, ml, (zmr g))) rfl ?_
  refine Wp.call (as := [.ref 66, .int 124]) (rest := []) rfl rfl rfl rfl rfl (Nat.le_of_ble_eq_true rfl) (Nat.le_of_ble_eq_true rfl) rfl (by omega) (m_isAtB R H 124) ?_
  rintro _ _ ⟨rfl, rfl⟩
  refine Wp.run 2 (47, [(0, .ref 66), (1, .int 1)], [.int 1], (zsh ++ vs, m, ml, (zmr g))) rfl ?_
  refine Wp.ret rfl rfl rfl ?_
  exact ⟨rfl, _, rfl, H⟩
theorem m_both_l {E : zEn} {vs : List (Nat × Nat)} {mi : Nat → Nat → Int32} {ml : Nat → Nat → Int64} {g : Nat → Nat → Option Nat} {T : Nat → Int32} {n : Nat} {nm : Nat → Int32} (R : RM T n nm mi) {d : Nat} {s a : Int32} {F : Nat → zRs} (hF : zGf n F) {D : Nat} (hD : 3 ≤ D) (hfac : ∀ (m : Nat → Nat → Int32) (p : Nat), MS mi m p 1 d s a → p ≤ n → Wp E D pg_M_factor 0 (lv_args 0 [.ref 66]) [] (zsh ++ vs, m, ml, zmr g) (mP mi nm d s a vs ml g (F p))) {p0 : Nat} : ∀ (c j : Nat) (t : zT) (p : Nat) (m : Nat → Nat → Int32), j + c = 100 → zG n p0 t p → j + 1 ≤ t.1.length → MS mi m p 1 d s a → Wp E (D + 1) pg_M_both 5 [(0, .ref 66), (1, .int (if t.2 nm = true then 1 else 0))] [] (zsh ++ vs, m, ml, zmr g) (mP mi nm d s a vs ml g (zbl T n F c t p)) := by
  have hR := R.2.1
  intro c
  induction c with
  | zero =>
    intro j t p m hj hg hlen H
    have hpn := hg.2.1
    have hg1 := hg.1
    omega
  | succ c ih =>
    intro j t p m hj hg hlen H
    have hpn := hg.2.1
    have hg1 := hg.1
    refine Wp.run 2 (8, [(0, .ref 66), (1, .int (if t.2 nm = true then 1 else 0))], [.int 38, .ref 66], (zsh ++ vs, m, ml, (zmr g))) rfl ?_
    refine Wp.call (as := [.ref 66, .int 38]) (rest := []) rfl rfl rfl rfl rfl (Nat.le_of_ble_eq_true rfl) (Nat.le_of_ble_eq_true rfl) rfl (by omega) (m_isAtG R H 38 (by decide) (by omega)) ?_
    rintro _ _ ⟨rfl, rfl⟩
    by_cases hi23 : zch T n p = 38
    · rw [if_pos hi23]
      refine Wp.run 7 (24, [(0, .ref 66), (1, .int (if t.2 nm = true then 1 else 0))], [], (zsh ++ vs, (zup m 66 11 ((m 66 11) + 1)), ml, (zmr g))) rfl ?_
      obtain ⟨m24, hm24⟩ : ∃ m9, m9 = (zup m 66 11 ((m 66 11) + 1)) := ⟨_, rfl⟩
      rw [← hm24]
      have H24 : MS mi m24 (p + 1) 1 d s a := by rw [hm24]; exact H.adv
      refine Wp.run 1 (25, [(0, .ref 66), (1, .int (if t.2 nm = true then 1 else 0))], [.ref 66], (zsh ++ vs, m24, ml, (zmr g))) rfl ?_
      refine Wp.call (as := [.ref 66]) (rest := []) rfl rfl rfl rfl rfl (Nat.le_of_ble_eq_true rfl) (Nat.le_of_ble_eq_true rfl) rfl (by omega) (hfac _ (p + 1) H24 (zch_lt hi23 (by decide))) ?_
      rintro _ _ ⟨m25, rfl, hc25⟩
      rcases hr25 : F (p + 1) with ⟨o25, q25⟩
      rw [hr25] at hc25
      rcases hc25 with ⟨t25, ho25, rfl, H25⟩ | ⟨ho25, rfl | rfl, H25⟩
      · cases (show o25 = some t25 from ho25)
        have hg25 := hF _ _ _ hr25
        have hq25 := hg25.2.1
        refine Wp.run 2 (30, [(2, .int (if t25.2 nm = true then 1 else 0)), (0, .ref 66), (1, .int (if t.2 nm = true then 1 else 0))], [.int (if t.2 nm = true then 1 else 0)], (zsh ++ vs, m25, ml, (zmr g))) rfl ?_
        refine Wp.if_eq rfl (fun h1 => ?_) (fun h1 => ?_)
        · refine Wp.run 3 (5, [(1, .int 0), (2, .int (if t25.2 nm = true then 1 else 0)), (0, .ref 66)], [], (zsh ++ vs, m25, ml, (zmr g))) rfl ?_
          have e9 : zbl T n F (c + 1) t p = zbl T n F c (zAn t t25) q25 := by rw [zbl, if_pos hi23, hr25]
          rw [e9]
          refine Wp.sub (a := [(0, .ref 66), (1, .int 0)]) (zle_cons rfl (zle_cons rfl (zle_nil))) ?_
          have e8 : (0 : Int32) = if (zAn t t25).2 nm = true then 1 else 0 := b2_b h1
          have K9 := ih (j + 1) (zAn t t25) q25 _ (by omega) (zG_an hg hg25) (by have := hg25.2.2.2.2; show j + 1 + 1 ≤ (t.1 ++ t25.1 ++ [_]).length; rw [List.length_append, List.length_append]; show _ ≤ _ + _ + 1; omega) H25
          rw [← e8] at K9
          exact K9
        · refine Wp.run 1 (34, [(2, .int (if t25.2 nm = true then 1 else 0)), (0, .ref 66), (1, .int (if t.2 nm = true then 1 else 0))], [.int (if t25.2 nm = true then 1 else 0)], (zsh ++ vs, m25, ml, (zmr g))) rfl ?_
          refine Wp.if_eq rfl (fun h2 => ?_) (fun h2 => ?_)
          · refine Wp.run 3 (5, [(1, .int 0), (2, .int (if t25.2 nm = true then 1 else 0)), (0, .ref 66)], [], (zsh ++ vs, m25, ml, (zmr g))) rfl ?_
            have e9 : zbl T n F (c + 1) t p = zbl T n F c (zAn t t25) q25 := by rw [zbl, if_pos hi23, hr25]
            rw [e9]
            refine Wp.sub (a := [(0, .ref 66), (1, .int 0)]) (zle_cons rfl (zle_cons rfl (zle_nil))) ?_
            have e8 : (0 : Int32) = if (zAn t t25).2 nm = true then 1 else 0 := b2_c h2
            have K9 := ih (j + 1) (zAn t t25) q25 _ (by omega) (zG_an hg hg25) (by have := hg25.2.2.2.2; show j + 1 + 1 ≤ (t.1 ++ t25.1 ++ [_]).length; rw [List.length_append, List.length_append]; show _ ≤ _ + _ + 1; omega) H25
            rw [← e8] at K9
            exact K9
          · refine Wp.run 4 (5, [(1, .int 1), (2, .int (if t25.2 nm = true then 1 else 0)), (0, .ref 66)], [], (zsh ++ vs, m25, ml, (zmr g))) rfl ?_
            have e9 : zbl T n F (c + 1) t p = zbl T n F c (zAn t t25) q25 := by rw [zbl, if_pos hi23, hr25]
            rw [e9]
            refine Wp.sub (a := [(0, .ref 66), (1, .int 1)]) (zle_cons rfl (zle_cons rfl (zle_nil))) ?_
            have e8 : (1 : Int32) = if (zAn t t25).2 nm = true then 1 else 0 := b2_a h1 h2
            have K9 := ih (j + 1) (zAn t t25) q25 _ (by omega) (zG_an hg hg25) (by have := hg25.2.2.2.2; show j + 1 + 1 ≤ (t.1 ++ t25.1 ++ [_]).length; rw [List.length_append, List.length_append]; show _ ≤ _ + _ + 1; omega) H25
            rw [← e8] at K9
            exact K9
      · cases (show o25 = none from ho25)
        refine Wp.run 2 (30, [(2, .int 0), (0, .ref 66), (1, .int (if t.2 nm = true then 1 else 0))], [.int (if t.2 nm = true then 1 else 0)], (zsh ++ vs, m25, ml, (zmr g))) rfl ?_
        refine Wp.if_eq rfl (fun h3 => ?_) (fun h3 => ?_)
        · refine Wp.run 3 (5, [(1, .int 0), (2, .int 0), (0, .ref 66)], [], (zsh ++ vs, m25, ml, (zmr g))) rfl ?_
          have e9 : zbl T n F (c + 1) t p = (none, q25) := by rw [zbl, if_pos hi23, hr25]
          rw [e9]
          refine Wp.sub (a := [(0, .ref 66), (1, .int 0)]) (zle_cons rfl (zle_cons rfl (zle_nil))) ?_
          refine (m_both_b0 R H25 (by omega)).weak ?_
          rintro _ _ ⟨rfl, m9, rfl, H9⟩
          exact ⟨_, rfl, Or.inr ⟨rfl, Or.inl rfl, H9⟩⟩
        · refine Wp.run 5 (5, [(1, .int 0), (2, .int 0), (0, .ref 66)], [], (zsh ++ vs, m25, ml, (zmr g))) rfl ?_
          have e9 : zbl T n F (c + 1) t p = (none, q25) := by rw [zbl, if_pos hi23, hr25]
          rw [e9]
          refine Wp.sub (a := [(0, .ref 66), (1, .int 0)]) (zle_cons rfl (zle_cons rfl (zle_nil))) ?_
          refine (m_both_b0 R H25 (by omega)).weak ?_
          rintro _ _ ⟨rfl, m9, rfl, H9⟩
          exact ⟨_, rfl, Or.inr ⟨rfl, Or.inl rfl, H9⟩⟩
      · cases (show o25 = none from ho25)
        refine Wp.run 2 (30, [(2, .int 1), (0, .ref 66), (1, .int (if t.2 nm = true then 1 else 0))], [.int (if t.2 nm = true then 1 else 0)], (zsh ++ vs, m25, ml, (zmr g))) rfl ?_
        refine Wp.if_eq rfl (fun h4 => ?_) (fun h4 => ?_)
        · refine Wp.run 3 (5, [(1, .int 0), (2, .int 1), (0, .ref 66)], [], (zsh ++ vs, m25, ml, (zmr g))) rfl ?_
          have e9 : zbl T n F (c + 1) t p = (none, q25) := by rw [zbl, if_pos hi23, hr25]
          rw [e9]
          refine Wp.sub (a := [(0, .ref 66), (1, .int 0)]) (zle_cons rfl (zle_cons rfl (zle_nil))) ?_
          refine (m_both_b0 R H25 (by omega)).weak ?_
          rintro _ _ ⟨rfl, m9, rfl, H9⟩
          exact ⟨_, rfl, Or.inr ⟨rfl, Or.inl rfl, H9⟩⟩
        · refine Wp.run 6 (5, [(1, .int 1), (2, .int 1), (0, .ref 66)], [], (zsh ++ vs, m25, ml, (zmr g))) rfl ?_
          have e9 : zbl T n F (c + 1) t p = (none, q25) := by rw [zbl, if_pos hi23, hr25]
          rw [e9]
          refine Wp.sub (a := [(0, .ref 66), (1, .int 1)]) (zle_cons rfl (zle_cons rfl (zle_nil))) ?_
          refine (m_both_b1 R H25 (by omega)).weak ?_
          rintro _ _ ⟨rfl, m9, rfl, H9⟩
          exact ⟨_, rfl, Or.inr ⟨rfl, Or.inr rfl, H9⟩⟩
    · rw [if_neg hi23]
      refine Wp.run 2 (47, [(0, .ref 66), (1, .int (if t.2 nm = true then 1 else 0))], [.int (if t.2 nm = true then 1 else 0)], (zsh ++ vs, m, ml, (zmr g))) rfl ?_
      have e9 : zbl T n F (c + 1) t p = (some t, p) := by rw [zbl, if_neg hi23]
      rw [e9]
      refine Wp.retb rfl ?_
      exact ⟨_, rfl, Or.inl ⟨t, rfl, rfl, H⟩⟩
theorem m_bothG {E : zEn} {vs : List (Nat × Nat)} {mi : Nat → Nat → Int32} {ml : Nat → Nat → Int64} {g : Nat → Nat → Option Nat} {T : Nat → Int32} {n : Nat} {nm : Nat → Int32} (R : RM T n nm mi) {d : Nat} {s a : Int32} {F : Nat → zRs} (hF : zGf n F) {D : Nat} (hD : 3 ≤ D) (hfac : ∀ (m : Nat → Nat → Int32) (p : Nat), MS mi m p 1 d s a → p ≤ n → Wp E D pg_M_factor 0 (lv_args 0 [.ref 66]) [] (zsh ++ vs, m, ml, zmr g) (mP mi nm d s a vs ml g (F p))) {m : Nat → Nat → Int32} {p : Nat} (H : MS mi m p 1 d s a) (hpn : p ≤ n) : Wp E (D + 1) pg_M_both 0 (lv_args 0 [.ref 66]) [] (zsh ++ vs, m, ml, zmr g) (mP mi nm d s a vs ml g (zbo2 T n F p)) := by
  have hR := R.2.1
  refine Wp.run 1 (1, [(0, .ref 66)], [.ref 66], (zsh ++ vs, m, ml, (zmr g))) rfl ?_
  refine Wp.call (as := [.ref 66]) (rest := []) rfl rfl rfl rfl rfl (Nat.le_of_ble_eq_true rfl) (Nat.le_of_ble_eq_true rfl) rfl (by omega) (hfac _ p H hpn) ?_
  rintro _ _ ⟨m26, rfl, hc26⟩
  rcases hr26 : F p with ⟨o26, q26⟩
  rw [hr26] at hc26
  rcases hc26 with ⟨t26, ho26, rfl, H26⟩ | ⟨ho26, rfl | rfl, H26⟩
  · cases (show o26 = some t26 from ho26)
    have hg26 := hF _ _ _ hr26
    have hq26 := hg26.2.1
    refine Wp.run 1 (5, [(1, .int (if t26.2 nm = true then 1 else 0)), (0, .ref 66)], [], (zsh ++ vs, m26, ml, (zmr g))) rfl ?_
    have e9 : zbo2 T n F p = zbl T n F 100 t26 q26 := by rw [zbo2, hr26]
    rw [e9]
    refine Wp.sub (a := [(0, .ref 66), (1, .int (if t26.2 nm = true then 1 else 0))]) (zle_cons rfl (zle_cons rfl (zle_nil))) ?_
    exact m_both_l R hF hD hfac 100 0 t26 q26 _ (by omega) hg26 hg26.2.2.2.2 H26
  · cases (show o26 = none from ho26)
    refine Wp.run 1 (5, [(1, .int 0), (0, .ref 66)], [], (zsh ++ vs, m26, ml, (zmr g))) rfl ?_
    have e9 : zbo2 T n F p = (none, q26) := by rw [zbo2, hr26]
    rw [e9]
    refine Wp.sub (a := [(0, .ref 66), (1, .int 0)]) (zle_cons rfl (zle_cons rfl (zle_nil))) ?_
    refine (m_both_b0 R H26 (by omega)).weak ?_
    rintro _ _ ⟨rfl, m9, rfl, H9⟩
    exact ⟨_, rfl, Or.inr ⟨rfl, Or.inl rfl, H9⟩⟩
  · cases (show o26 = none from ho26)
    refine Wp.run 1 (5, [(1, .int 1), (0, .ref 66)], [], (zsh ++ vs, m26, ml, (zmr g))) rfl ?_
    have e9 : zbo2 T n F p = (none, q26) := by rw [zbo2, hr26]
    rw [e9]
    refine Wp.sub (a := [(0, .ref 66), (1, .int 1)]) (zle_cons rfl (zle_cons rfl (zle_nil))) ?_
    refine (m_both_b1 R H26 (by omega)).weak ?_
    rintro _ _ ⟨rfl, m9, rfl, H9⟩
    exact ⟨_, rfl, Or.inr ⟨rfl, Or.inr rfl, H9⟩⟩
theorem m_any_l {E : zEn} {vs : List (Nat × Nat)} {mi : Nat → Nat → Int32} {ml : Nat → Nat → Int64} {g : Nat → Nat → Option Nat} {T : Nat → Int32} {n : Nat} {nm : Nat → Int32} (R : RM T n nm mi) {d : Nat} {s a : Int32} {F : Nat → zRs} (hF : zGf n F) {D : Nat} (hD : 3 ≤ D) (hfac : ∀ (m : Nat → Nat → Int32) (p : Nat), MS mi m p 1 d s a → p ≤ n → Wp E D pg_M_both 0 (lv_args 0 [.ref 66]) [] (zsh ++ vs, m, ml, zmr g) (mP mi nm d s a vs ml g (zbo2 T n F p))) {p0 : Nat} : ∀ (c j : Nat) (t : zT) (p : Nat) (m : Nat → Nat → Int32), j + c = 99 → zG n p0 t p → j + 1 ≤ t.1.length → MS mi m p 1 d s a → Wp E (D + 1) pg_M_any 5 [(0, .ref 66), (1, .int (if t.2 nm = true then 1 else 0))] [] (zsh ++ vs, m, ml, zmr g) (mP mi nm d s a vs ml g (zol T n F c t p)) := by
  have hR := R.2.1
  intro c
  induction c with
  | zero =>
    intro j t p m hj hg hlen H
    have hpn := hg.2.1
    have hg1 := hg.1
    have hno : ¬ zch T n p = 124 := fun e => by have := zch_lt e (by decide); omega
    refine Wp.run 2 (8, [(0, .ref 66), (1, .int (if t.2 nm = true then 1 else 0))], [.int 124, .ref 66], (zsh ++ vs, m, ml, (zmr g))) rfl ?_
    refine Wp.call (as := [.ref 66, .int 124]) (rest := []) rfl rfl rfl rfl rfl (Nat.le_of_ble_eq_true rfl) (Nat.le_of_ble_eq_true rfl) rfl (by omega) (m_isAtG R H 124 (by decide) (by omega)) ?_
    rintro _ _ ⟨rfl, rfl⟩
    rw [if_neg hno]
    refine Wp.run 2 (47, [(0, .ref 66), (1, .int (if t.2 nm = true then 1 else 0))], [.int (if t.2 nm = true then 1 else 0)], (zsh ++ vs, m, ml, (zmr g))) rfl ?_
    have e9 : zol T n F 0 t p = (some t, p) := rfl
    rw [e9]
    refine Wp.retb rfl ?_
    exact ⟨_, rfl, Or.inl ⟨t, rfl, rfl, H⟩⟩
  | succ c ih =>
    intro j t p m hj hg hlen H
    have hpn := hg.2.1
    have hg1 := hg.1
    refine Wp.run 2 (8, [(0, .ref 66), (1, .int (if t.2 nm = true then 1 else 0))], [.int 124, .ref 66], (zsh ++ vs, m, ml, (zmr g))) rfl ?_
    refine Wp.call (as := [.ref 66, .int 124]) (rest := []) rfl rfl rfl rfl rfl (Nat.le_of_ble_eq_true rfl) (Nat.le_of_ble_eq_true rfl) rfl (by omega) (m_isAtG R H 124 (by decide) (by omega)) ?_
    rintro _ _ ⟨rfl, rfl⟩
    by_cases hi27 : zch T n p = 124
    · rw [if_pos hi27]
      refine Wp.run 7 (24, [(0, .ref 66), (1, .int (if t.2 nm = true then 1 else 0))], [], (zsh ++ vs, (zup m 66 11 ((m 66 11) + 1)), ml, (zmr g))) rfl ?_
      obtain ⟨m28, hm28⟩ : ∃ m9, m9 = (zup m 66 11 ((m 66 11) + 1)) := ⟨_, rfl⟩
      rw [← hm28]
      have H28 : MS mi m28 (p + 1) 1 d s a := by rw [hm28]; exact H.adv
      refine Wp.run 1 (25, [(0, .ref 66), (1, .int (if t.2 nm = true then 1 else 0))], [.ref 66], (zsh ++ vs, m28, ml, (zmr g))) rfl ?_
      refine Wp.call (as := [.ref 66]) (rest := []) rfl rfl rfl rfl rfl (Nat.le_of_ble_eq_true rfl) (Nat.le_of_ble_eq_true rfl) rfl (by omega) (hfac _ (p + 1) H28 (zch_lt hi27 (by decide))) ?_
      rintro _ _ ⟨m29, rfl, hc29⟩
      rcases hr29 : zbo2 T n F (p + 1) with ⟨o29, q29⟩
      rw [hr29] at hc29
      rcases hc29 with ⟨t29, ho29, rfl, H29⟩ | ⟨ho29, rfl | rfl, H29⟩
      · cases (show o29 = some t29 from ho29)
        have hg29 := (zbo2_ok hF) _ _ _ hr29
        have hq29 := hg29.2.1
        refine Wp.run 2 (30, [(2, .int (if t29.2 nm = true then 1 else 0)), (0, .ref 66), (1, .int (if t.2 nm = true then 1 else 0))], [.int (if t.2 nm = true then 1 else 0)], (zsh ++ vs, m29, ml, (zmr g))) rfl ?_
        refine Wp.if_ne rfl (fun h1 => ?_) (fun h1 => ?_)
        · refine Wp.run 4 (5, [(1, .int 1), (2, .int (if t29.2 nm = true then 1 else 0)), (0, .ref 66)], [], (zsh ++ vs, m29, ml, (zmr g))) rfl ?_
          have e9 : zol T n F (c + 1) t p = zol T n F c (zOo t t29) q29 := by rw [zol, if_pos hi27, hr29]
          rw [e9]
          refine Wp.sub (a := [(0, .ref 66), (1, .int 1)]) (zle_cons rfl (zle_cons rfl (zle_nil))) ?_
          have e8 : (1 : Int32) = if (zOo t t29).2 nm = true then 1 else 0 := b2_d h1
          have K9 := ih (j + 1) (zOo t t29) q29 _ (by omega) (zG_oo hg hg29) (by have := hg29.2.2.2.2; show j + 1 + 1 ≤ (t.1 ++ t29.1 ++ [_]).length; rw [List.length_append, List.length_append]; show _ ≤ _ + _ + 1; omega) H29
          rw [← e8] at K9
          exact K9
        · refine Wp.run 1 (34, [(2, .int (if t29.2 nm = true then 1 else 0)), (0, .ref 66), (1, .int (if t.2 nm = true then 1 else 0))], [.int (if t29.2 nm = true then 1 else 0)], (zsh ++ vs, m29, ml, (zmr g))) rfl ?_
          refine Wp.if_eq rfl (fun h2 => ?_) (fun h2 => ?_)
          · refine Wp.run 3 (5, [(1, .int 0), (2, .int (if t29.2 nm = true then 1 else 0)), (0, .ref 66)], [], (zsh ++ vs, m29, ml, (zmr g))) rfl ?_
            have e9 : zol T n F (c + 1) t p = zol T n F c (zOo t t29) q29 := by rw [zol, if_pos hi27, hr29]
            rw [e9]
            refine Wp.sub (a := [(0, .ref 66), (1, .int 0)]) (zle_cons rfl (zle_cons rfl (zle_nil))) ?_
            have e8 : (0 : Int32) = if (zOo t t29).2 nm = true then 1 else 0 := b2_f h1 h2
            have K9 := ih (j + 1) (zOo t t29) q29 _ (by omega) (zG_oo hg hg29) (by have := hg29.2.2.2.2; show j + 1 + 1 ≤ (t.1 ++ t29.1 ++ [_]).length; rw [List.length_append, List.length_append]; show _ ≤ _ + _ + 1; omega) H29
            rw [← e8] at K9
            exact K9
          · refine Wp.run 4 (5, [(1, .int 1), (2, .int (if t29.2 nm = true then 1 else 0)), (0, .ref 66)], [], (zsh ++ vs, m29, ml, (zmr g))) rfl ?_
            have e9 : zol T n F (c + 1) t p = zol T n F c (zOo t t29) q29 := by rw [zol, if_pos hi27, hr29]
            rw [e9]
            refine Wp.sub (a := [(0, .ref 66), (1, .int 1)]) (zle_cons rfl (zle_cons rfl (zle_nil))) ?_
            have e8 : (1 : Int32) = if (zOo t t29).2 nm = true then 1 else 0 := b2_e h2
            have K9 := ih (j + 1) (zOo t t29) q29 _ (by omega) (zG_oo hg hg29) (by have := hg29.2.2.2.2; show j + 1 + 1 ≤ (t.1 ++ t29.1 ++ [_]).length; rw [List.length_append, List.length_append]; show _ ≤ _ + _ + 1; omega) H29
            rw [← e8] at K9
            exact K9
      · cases (show o29 = none from ho29)
        refine Wp.run 2 (30, [(2, .int 0), (0, .ref 66), (1, .int (if t.2 nm = true then 1 else 0))], [.int (if t.2 nm = true then 1 else 0)], (zsh ++ vs, m29, ml, (zmr g))) rfl ?_
        refine Wp.if_ne rfl (fun h3 => ?_) (fun h3 => ?_)
        · refine Wp.run 4 (5, [(1, .int 1), (2, .int 0), (0, .ref 66)], [], (zsh ++ vs, m29, ml, (zmr g))) rfl ?_
          have e9 : zol T n F (c + 1) t p = (none, q29) := by rw [zol, if_pos hi27, hr29]
          rw [e9]
          refine Wp.sub (a := [(0, .ref 66), (1, .int 1)]) (zle_cons rfl (zle_cons rfl (zle_nil))) ?_
          refine (m_any_b1 R H29 (by omega)).weak ?_
          rintro _ _ ⟨rfl, m9, rfl, H9⟩
          exact ⟨_, rfl, Or.inr ⟨rfl, Or.inr rfl, H9⟩⟩
        · refine Wp.run 5 (5, [(1, .int 0), (2, .int 0), (0, .ref 66)], [], (zsh ++ vs, m29, ml, (zmr g))) rfl ?_
          have e9 : zol T n F (c + 1) t p = (none, q29) := by rw [zol, if_pos hi27, hr29]
          rw [e9]
          refine Wp.sub (a := [(0, .ref 66), (1, .int 0)]) (zle_cons rfl (zle_cons rfl (zle_nil))) ?_
          refine (m_any_b0 R H29 (by omega)).weak ?_
          rintro _ _ ⟨rfl, m9, rfl, H9⟩
          exact ⟨_, rfl, Or.inr ⟨rfl, Or.inl rfl, H9⟩⟩
      · cases (show o29 = none from ho29)
        refine Wp.run 2 (30, [(2, .int 1), (0, .ref 66), (1, .int (if t.2 nm = true then 1 else 0))], [.int (if t.2 nm = true then 1 else 0)], (zsh ++ vs, m29, ml, (zmr g))) rfl ?_
        refine Wp.if_ne rfl (fun h4 => ?_) (fun h4 => ?_)
        · refine Wp.run 4 (5, [(1, .int 1), (2, .int 1), (0, .ref 66)], [], (zsh ++ vs, m29, ml, (zmr g))) rfl ?_
          have e9 : zol T n F (c + 1) t p = (none, q29) := by rw [zol, if_pos hi27, hr29]
          rw [e9]
          refine Wp.sub (a := [(0, .ref 66), (1, .int 1)]) (zle_cons rfl (zle_cons rfl (zle_nil))) ?_
          refine (m_any_b1 R H29 (by omega)).weak ?_
          rintro _ _ ⟨rfl, m9, rfl, H9⟩
          exact ⟨_, rfl, Or.inr ⟨rfl, Or.inr rfl, H9⟩⟩
        · refine Wp.run 6 (5, [(1, .int 1), (2, .int 1), (0, .ref 66)], [], (zsh ++ vs, m29, ml, (zmr g))) rfl ?_
          have e9 : zol T n F (c + 1) t p = (none, q29) := by rw [zol, if_pos hi27, hr29]
          rw [e9]
          refine Wp.sub (a := [(0, .ref 66), (1, .int 1)]) (zle_cons rfl (zle_cons rfl (zle_nil))) ?_
          refine (m_any_b1 R H29 (by omega)).weak ?_
          rintro _ _ ⟨rfl, m9, rfl, H9⟩
          exact ⟨_, rfl, Or.inr ⟨rfl, Or.inr rfl, H9⟩⟩
    · rw [if_neg hi27]
      refine Wp.run 2 (47, [(0, .ref 66), (1, .int (if t.2 nm = true then 1 else 0))], [.int (if t.2 nm = true then 1 else 0)], (zsh ++ vs, m, ml, (zmr g))) rfl ?_
      have e9 : zol T n F (c + 1) t p = (some t, p) := by rw [zol, if_neg hi27]
      rw [e9]
      refine Wp.retb rfl ?_
      exact ⟨_, rfl, Or.inl ⟨t, rfl, rfl, H⟩⟩
theorem m_anyG {E : zEn} {vs : List (Nat × Nat)} {mi : Nat → Nat → Int32} {ml : Nat → Nat → Int64} {g : Nat → Nat → Option Nat} {T : Nat → Int32} {n : Nat} {nm : Nat → Int32} (R : RM T n nm mi) {d : Nat} {s a : Int32} {F : Nat → zRs} (hF : zGf n F) {D : Nat} (hD : 3 ≤ D) (hfac : ∀ (m : Nat → Nat → Int32) (p : Nat), MS mi m p 1 d s a → p ≤ n → Wp E D pg_M_both 0 (lv_args 0 [.ref 66]) [] (zsh ++ vs, m, ml, zmr g) (mP mi nm d s a vs ml g (zbo2 T n F p))) {m : Nat → Nat → Int32} {p : Nat} (H : MS mi m p 1 d s a) (hpn : p ≤ n) : Wp E (D + 1) pg_M_any 0 (lv_args 0 [.ref 66]) [] (zsh ++ vs, m, ml, zmr g) (mP mi nm d s a vs ml g (zany T n F p)) := by
  have hR := R.2.1
  refine Wp.run 1 (1, [(0, .ref 66)], [.ref 66], (zsh ++ vs, m, ml, (zmr g))) rfl ?_
  refine Wp.call (as := [.ref 66]) (rest := []) rfl rfl rfl rfl rfl (Nat.le_of_ble_eq_true rfl) (Nat.le_of_ble_eq_true rfl) rfl (by omega) (hfac _ p H hpn) ?_
  rintro _ _ ⟨m30, rfl, hc30⟩
  rcases hr30 : zbo2 T n F p with ⟨o30, q30⟩
  rw [hr30] at hc30
  rcases hc30 with ⟨t30, ho30, rfl, H30⟩ | ⟨ho30, rfl | rfl, H30⟩
  · cases (show o30 = some t30 from ho30)
    have hg30 := (zbo2_ok hF) _ _ _ hr30
    have hq30 := hg30.2.1
    refine Wp.run 1 (5, [(1, .int (if t30.2 nm = true then 1 else 0)), (0, .ref 66)], [], (zsh ++ vs, m30, ml, (zmr g))) rfl ?_
    have e9 : zany T n F p = zol T n F 99 t30 q30 := by rw [zany, hr30]
    rw [e9]
    refine Wp.sub (a := [(0, .ref 66), (1, .int (if t30.2 nm = true then 1 else 0))]) (zle_cons rfl (zle_cons rfl (zle_nil))) ?_
    exact m_any_l R hF hD hfac 99 0 t30 q30 _ (by omega) hg30 hg30.2.2.2.2 H30
  · cases (show o30 = none from ho30)
    refine Wp.run 1 (5, [(1, .int 0), (0, .ref 66)], [], (zsh ++ vs, m30, ml, (zmr g))) rfl ?_
    have e9 : zany T n F p = (none, q30) := by rw [zany, hr30]
    rw [e9]
    refine Wp.sub (a := [(0, .ref 66), (1, .int 0)]) (zle_cons rfl (zle_cons rfl (zle_nil))) ?_
    refine (m_any_b0 R H30 (by omega)).weak ?_
    rintro _ _ ⟨rfl, m9, rfl, H9⟩
    exact ⟨_, rfl, Or.inr ⟨rfl, Or.inl rfl, H9⟩⟩
  · cases (show o30 = none from ho30)
    refine Wp.run 1 (5, [(1, .int 1), (0, .ref 66)], [], (zsh ++ vs, m30, ml, (zmr g))) rfl ?_
    have e9 : zany T n F p = (none, q30) := by rw [zany, hr30]
    rw [e9]
    refine Wp.sub (a := [(0, .ref 66), (1, .int 1)]) (zle_cons rfl (zle_cons rfl (zle_nil))) ?_
    refine (m_any_b1 R H30 (by omega)).weak ?_
    rintro _ _ ⟨rfl, m9, rfl, H9⟩
    exact ⟨_, rfl, Or.inr ⟨rfl, Or.inr rfl, H9⟩⟩
theorem z01 (b : Bool) : some (Value.int (if b = true then 1 else 0)) = some (.int 0) ∨ some (Value.int (if b = true then 1 else 0)) = some (.int 1) := by
  cases b
  · exact Or.inl rfl
  · exact Or.inr rfl
theorem m_fac {E : zEn} {vs : List (Nat × Nat)} {mi : Nat → Nat → Int32} {ml : Nat → Nat → Int64} {g : Nat → Nat → Option Nat} {T : Nat → Int32} {n : Nat} {nm : Nat → Int32} (R : RM T n nm mi) {s a : Int32} : ∀ (r d : Nat), d + r = 4 → ∀ (m : Nat → Nat → Int32) (p : Nat), MS mi m p 1 d s a → p ≤ n → Wp E (3 + 3 * r) pg_M_factor 0 (lv_args 0 [.ref 66]) [] (zsh ++ vs, m, ml, zmr g) (mP mi nm d s a vs ml g (zfac T n r p)) := by
  have hR := R.2.1
  intro r
  induction r with
  | zero =>
    intro d hd m p H hpn
    obtain rfl : d = 4 := by omega
    refine Wp.run 2 (4, [(0, .ref 66)], [.int (m 66 13)], (zsh ++ vs, m, ml, (zmr g))) rfl ?_
    rw [H.2.2.2.2.1]
    refine Wp.run 4 (67, [(0, .ref 66)], [.int (m 66 13)], (zsh ++ vs, m, ml, (zmr g))) rfl ?_
    rw [H.2.2.2.2.1]
    refine Wp.run 3 (125, [(0, .ref 66)], [.ref 66], (zsh ++ vs, m, ml, (zmr g))) rfl ?_
    refine Wp.call (as := [.ref 66]) (rest := []) rfl rfl rfl rfl rfl (Nat.le_of_ble_eq_true rfl) (Nat.le_of_ble_eq_true rfl) rfl (by omega) (m_testG R H hpn) ?_
    rintro _ _ ⟨m9, rfl, hc⟩
    rw [show ztest T n p = zfac T n 0 p from rfl] at hc
    rcases hc with ⟨t9, ho, rfl, H9⟩ | ⟨ho, rfl | rfl, H9⟩
    · refine Wp.run 2 (130, [(1, .int (if t9.2 nm = true then 1 else 0)), (0, .ref 66)], [.int (if t9.2 nm = true then 1 else 0)], (zsh ++ vs, m9, ml, (zmr g))) rfl ?_
      refine Wp.retb rfl ?_
      exact ⟨_, rfl, Or.inl ⟨t9, ho, rfl, H9⟩⟩
    · refine Wp.run 2 (130, [(1, .int 0), (0, .ref 66)], [.int 0], (zsh ++ vs, m9, ml, (zmr g))) rfl ?_
      refine Wp.ret rfl rfl rfl ?_
      exact ⟨_, rfl, Or.inr ⟨ho, Or.inl rfl, H9⟩⟩
    · refine Wp.run 2 (130, [(1, .int 1), (0, .ref 66)], [.int 1], (zsh ++ vs, m9, ml, (zmr g))) rfl ?_
      refine Wp.ret rfl rfl rfl ?_
      exact ⟨_, rfl, Or.inr ⟨ho, Or.inr rfl, H9⟩⟩
  | succ r ih =>
    intro d hd m p H hpn
    refine Wp.run 2 (4, [(0, .ref 66)], [.int (m 66 13)], (zsh ++ vs, m, ml, (zmr g))) rfl ?_
    rw [H.2.2.2.2.1]
    refine Wp.run 1 (5, [(0, .ref 66)], [.int 4, .int (nI d)], (zsh ++ vs, m, ml, (zmr g))) rfl ?_
    refine Wp.icmp_ge rfl (fun h1 => ?_) (fun h1 => ?_)
    · exact absurd h1 (nI_ge (b := 4) (by omega) (by decide))
    · refine Wp.run 2 (11, [(0, .ref 66)], [.int 33, .ref 66], (zsh ++ vs, m, ml, (zmr g))) rfl ?_
      refine Wp.call (as := [.ref 66, .int 33]) (rest := []) rfl rfl rfl rfl rfl (Nat.le_of_ble_eq_true rfl) (Nat.le_of_ble_eq_true rfl) rfl (by omega) (m_isAtG R H 33 (by decide) (by omega)) ?_
      rintro _ _ ⟨rfl, rfl⟩
      by_cases hi31 : zch T n p = 33
      · rw [if_pos hi31]
        refine Wp.run 7 (27, [(0, .ref 66)], [], (zsh ++ vs, (zup m 66 11 ((m 66 11) + 1)), ml, (zmr g))) rfl ?_
        obtain ⟨m32, hm32⟩ : ∃ m9, m9 = (zup m 66 11 ((m 66 11) + 1)) := ⟨_, rfl⟩
        rw [← hm32]
        have H32 : MS mi m32 (p + 1) 1 d s a := by rw [hm32]; exact H.adv
        have hp32 : p + 1 ≤ n := zch_lt hi31 (by decide)
        refine Wp.run 6 (37, [(0, .ref 66)], [], (zsh ++ vs, (zup m32 66 13 ((m32 66 13) + 1)), ml, (zmr g))) rfl ?_
        obtain ⟨m33, hm33⟩ : ∃ m9, m9 = (zup m32 66 13 ((m32 66 13) + 1)) := ⟨_, rfl⟩
        rw [← hm33]
        have H33 : MS mi m33 (p + 1) 1 (d + 1) s a := by rw [hm33]; exact H32.inn
        refine Wp.run 1 (38, [(0, .ref 66)], [.ref 66], (zsh ++ vs, m33, ml, (zmr g))) rfl ?_
        refine Wp.call (as := [.ref 66]) (rest := []) rfl rfl rfl rfl rfl (Nat.le_of_ble_eq_true rfl) (Nat.le_of_ble_eq_true rfl) rfl (by omega) (ih (d + 1) (by omega) _ (p + 1) H33 (zch_lt hi31 (by decide))) ?_
        rintro _ _ ⟨m34, rfl, hc34⟩
        rcases hr34 : zfac T n r (p + 1) with ⟨o34, q34⟩
        rw [hr34] at hc34
        rcases hc34 with ⟨t34, ho34, rfl, H34⟩ | ⟨ho34, rfl | rfl, H34⟩
        · cases (show o34 = some t34 from ho34)
          have hg34 := zfac_ok r _ _ _ hr34
          have hq34 := hg34.2.1
          refine Wp.run 0 (41, [(0, .ref 66)], [.int (if t34.2 nm = true then 1 else 0)], (zsh ++ vs, m34, ml, (zmr g))) rfl ?_
          refine Wp.if_ne rfl (fun h2 => ?_) (fun h2 => ?_)
          · refine Wp.run 8 (60, [(1, .int 0), (0, .ref 66)], [], (zsh ++ vs, (zup m34 66 13 ((m34 66 13) - 1)), ml, (zmr g))) rfl ?_
            obtain ⟨m35, hm35⟩ : ∃ m9, m9 = (zup m34 66 13 ((m34 66 13) - 1)) := ⟨_, rfl⟩
            rw [← hm35]
            have H35 : MS mi m35 q34 1 d s a := by rw [hm35]; exact H34.out
            refine Wp.run 2 (130, [(1, .int 0), (0, .ref 66)], [.int 0], (zsh ++ vs, m35, ml, (zmr g))) rfl ?_
            have e9 : zfac T n (r + 1) p = (some (zNt t34), q34) := by rw [zfac, if_pos hi31, hr34]
            rw [e9]
            refine Wp.ret rfl rfl rfl ?_
            exact ⟨_, rfl, Or.inl ⟨_, rfl, congrArg (fun z => some (Value.int z)) (b2_n h2), H35⟩⟩
          · refine Wp.run 9 (60, [(1, .int 1), (0, .ref 66)], [], (zsh ++ vs, (zup m34 66 13 ((m34 66 13) - 1)), ml, (zmr g))) rfl ?_
            obtain ⟨m36, hm36⟩ : ∃ m9, m9 = (zup m34 66 13 ((m34 66 13) - 1)) := ⟨_, rfl⟩
            rw [← hm36]
            have H36 : MS mi m36 q34 1 d s a := by rw [hm36]; exact H34.out
            refine Wp.run 2 (130, [(1, .int 1), (0, .ref 66)], [.int 1], (zsh ++ vs, m36, ml, (zmr g))) rfl ?_
            have e9 : zfac T n (r + 1) p = (some (zNt t34), q34) := by rw [zfac, if_pos hi31, hr34]
            rw [e9]
            refine Wp.ret rfl rfl rfl ?_
            exact ⟨_, rfl, Or.inl ⟨_, rfl, congrArg (fun z => some (Value.int z)) (b2_m h2), H36⟩⟩
        · cases (show o34 = none from ho34)
          refine Wp.run 10 (60, [(1, .int 1), (0, .ref 66)], [], (zsh ++ vs, (zup m34 66 13 ((m34 66 13) - 1)), ml, (zmr g))) rfl ?_
          obtain ⟨m37, hm37⟩ : ∃ m9, m9 = (zup m34 66 13 ((m34 66 13) - 1)) := ⟨_, rfl⟩
          rw [← hm37]
          have H37 : MS mi m37 q34 0 d s a := by rw [hm37]; exact H34.out
          refine Wp.run 2 (130, [(1, .int 1), (0, .ref 66)], [.int 1], (zsh ++ vs, m37, ml, (zmr g))) rfl ?_
          have e9 : zfac T n (r + 1) p = (none, q34) := by rw [zfac, if_pos hi31, hr34]
          rw [e9]
          refine Wp.ret rfl rfl rfl ?_
          exact ⟨_, rfl, Or.inr ⟨rfl, Or.inr rfl, H37⟩⟩
        · cases (show o34 = none from ho34)
          refine Wp.run 9 (60, [(1, .int 0), (0, .ref 66)], [], (zsh ++ vs, (zup m34 66 13 ((m34 66 13) - 1)), ml, (zmr g))) rfl ?_
          obtain ⟨m38, hm38⟩ : ∃ m9, m9 = (zup m34 66 13 ((m34 66 13) - 1)) := ⟨_, rfl⟩
          rw [← hm38]
          have H38 : MS mi m38 q34 0 d s a := by rw [hm38]; exact H34.out
          refine Wp.run 2 (130, [(1, .int 0), (0, .ref 66)], [.int 0], (zsh ++ vs, m38, ml, (zmr g))) rfl ?_
          have e9 : zfac T n (r + 1) p = (none, q34) := by rw [zfac, if_pos hi31, hr34]
          rw [e9]
          refine Wp.ret rfl rfl rfl ?_
          exact ⟨_, rfl, Or.inr ⟨rfl, Or.inl rfl, H38⟩⟩
      · rw [if_neg hi31]
        refine Wp.run 3 (67, [(0, .ref 66)], [.int (m 66 13)], (zsh ++ vs, m, ml, (zmr g))) rfl ?_
        rw [H.2.2.2.2.1]
        refine Wp.run 1 (68, [(0, .ref 66)], [.int 4, .int (nI d)], (zsh ++ vs, m, ml, (zmr g))) rfl ?_
        refine Wp.icmp_ge rfl (fun h3 => ?_) (fun h3 => ?_)
        · exact absurd h3 (nI_ge (b := 4) (by omega) (by decide))
        · refine Wp.run 2 (74, [(0, .ref 66)], [.int 40, .ref 66], (zsh ++ vs, m, ml, (zmr g))) rfl ?_
          refine Wp.call (as := [.ref 66, .int 40]) (rest := []) rfl rfl rfl rfl rfl (Nat.le_of_ble_eq_true rfl) (Nat.le_of_ble_eq_true rfl) rfl (by omega) (m_isAtG R H 40 (by decide) (by omega)) ?_
          rintro _ _ ⟨rfl, rfl⟩
          by_cases hi39 : zch T n p = 40
          · rw [if_pos hi39]
            refine Wp.run 7 (90, [(0, .ref 66)], [], (zsh ++ vs, (zup m 66 11 ((m 66 11) + 1)), ml, (zmr g))) rfl ?_
            obtain ⟨m40, hm40⟩ : ∃ m9, m9 = (zup m 66 11 ((m 66 11) + 1)) := ⟨_, rfl⟩
            rw [← hm40]
            have H40 : MS mi m40 (p + 1) 1 d s a := by rw [hm40]; exact H.adv
            have hp40 : p + 1 ≤ n := zch_lt hi39 (by decide)
            refine Wp.run 6 (100, [(0, .ref 66)], [], (zsh ++ vs, (zup m40 66 13 ((m40 66 13) + 1)), ml, (zmr g))) rfl ?_
            obtain ⟨m41, hm41⟩ : ∃ m9, m9 = (zup m40 66 13 ((m40 66 13) + 1)) := ⟨_, rfl⟩
            rw [← hm41]
            have H41 : MS mi m41 (p + 1) 1 (d + 1) s a := by rw [hm41]; exact H40.inn
            refine Wp.run 1 (101, [(0, .ref 66)], [.ref 66], (zsh ++ vs, m41, ml, (zmr g))) rfl ?_
            refine Wp.call (as := [.ref 66]) (rest := []) rfl rfl rfl rfl rfl (Nat.le_of_ble_eq_true rfl) (Nat.le_of_ble_eq_true rfl) rfl (by omega) (m_anyG R (zfac_ok r) (D := 3 + 3 * r + 1) (by omega) (fun m p H hp => m_bothG R (zfac_ok r) (by omega) (ih (d + 1) (by omega)) H hp) H41 (zch_lt hi39 (by decide))) ?_
            rintro _ _ ⟨m42, rfl, hc42⟩
            rcases hr42 : zany T n (zfac T n r) (p + 1) with ⟨o42, q42⟩
            rw [hr42] at hc42
            rcases hc42 with ⟨t42, ho42, rfl, H42⟩ | ⟨ho42, rfl | rfl, H42⟩
            · cases (show o42 = some t42 from ho42)
              have hg42 := zany_ok (zfac_ok r) _ _ _ hr42
              have hq42 := hg42.2.1
              refine Wp.run 7 (115, [(1, .int (if t42.2 nm = true then 1 else 0)), (0, .ref 66)], [], (zsh ++ vs, (zup m42 66 13 ((m42 66 13) - 1)), ml, (zmr g))) rfl ?_
              obtain ⟨m43, hm43⟩ : ∃ m9, m9 = (zup m42 66 13 ((m42 66 13) - 1)) := ⟨_, rfl⟩
              rw [← hm43]
              have H43 : MS mi m43 q42 1 d s a := by rw [hm43]; exact H42.out
              refine Wp.run 2 (118, [(1, .int (if t42.2 nm = true then 1 else 0)), (0, .ref 66)], [.int 41, .ref 66], (zsh ++ vs, m43, ml, (zmr g))) rfl ?_
              refine Wp.call (as := [.ref 66, .int 41]) (rest := []) rfl rfl rfl rfl rfl (Nat.le_of_ble_eq_true rfl) (Nat.le_of_ble_eq_true rfl) rfl (by omega) (m_takesG R H43 41 (by decide) (by omega)) ?_
              rintro _ _ ⟨rfl, m44, rfl, ⟨ht44, H44⟩ | ⟨ht44, H44⟩⟩
              · have hp44 : q42 + 1 ≤ n := zch_lt ht44 (by decide)
                refine Wp.run 2 (130, [(1, .int (if t42.2 nm = true then 1 else 0)), (0, .ref 66)], [.int (if t42.2 nm = true then 1 else 0)], (zsh ++ vs, m44, ml, (zmr g))) rfl ?_
                have e9 : zfac T n (r + 1) p = (some t42, q42 + 1) := by rw [zfac, if_neg hi31, if_pos hi39, hr42]; simp only [if_pos ht44]
                rw [e9]
                refine Wp.retb rfl ?_
                exact ⟨_, rfl, Or.inl ⟨_, rfl, rfl, H44⟩⟩
              · refine Wp.run 2 (130, [(1, .int (if t42.2 nm = true then 1 else 0)), (0, .ref 66)], [.int (if t42.2 nm = true then 1 else 0)], (zsh ++ vs, m44, ml, (zmr g))) rfl ?_
                have e9 : zfac T n (r + 1) p = (none, q42) := by rw [zfac, if_neg hi31, if_pos hi39, hr42]; simp only [if_neg ht44]
                rw [e9]
                refine Wp.retb rfl ?_
                exact ⟨_, rfl, Or.inr ⟨rfl, z01 _, H44⟩⟩
            · cases (show o42 = none from ho42)
              refine Wp.run 7 (115, [(1, .int 0), (0, .ref 66)], [], (zsh ++ vs, (zup m42 66 13 ((m42 66 13) - 1)), ml, (zmr g))) rfl ?_
              obtain ⟨m45, hm45⟩ : ∃ m9, m9 = (zup m42 66 13 ((m42 66 13) - 1)) := ⟨_, rfl⟩
              rw [← hm45]
              have H45 : MS mi m45 q42 0 d s a := by rw [hm45]; exact H42.out
              refine Wp.run 2 (118, [(1, .int 0), (0, .ref 66)], [.int 41, .ref 66], (zsh ++ vs, m45, ml, (zmr g))) rfl ?_
              refine Wp.call (as := [.ref 66, .int 41]) (rest := []) rfl rfl rfl rfl rfl (Nat.le_of_ble_eq_true rfl) (Nat.le_of_ble_eq_true rfl) rfl (by omega) (m_takesB R H45 41) ?_
              rintro _ _ ⟨rfl, m46, rfl, H46⟩
              refine Wp.run 2 (130, [(1, .int 0), (0, .ref 66)], [.int 0], (zsh ++ vs, m46, ml, (zmr g))) rfl ?_
              have e9 : zfac T n (r + 1) p = (none, q42) := by rw [zfac, if_neg hi31, if_pos hi39, hr42]
              rw [e9]
              refine Wp.ret rfl rfl rfl ?_
              exact ⟨_, rfl, Or.inr ⟨rfl, Or.inl rfl, H46⟩⟩
            · cases (show o42 = none from ho42)
              refine Wp.run 7 (115, [(1, .int 1), (0, .ref 66)], [], (zsh ++ vs, (zup m42 66 13 ((m42 66 13) - 1)), ml, (zmr g))) rfl ?_
              obtain ⟨m47, hm47⟩ : ∃ m9, m9 = (zup m42 66 13 ((m42 66 13) - 1)) := ⟨_, rfl⟩
              rw [← hm47]
              have H47 : MS mi m47 q42 0 d s a := by rw [hm47]; exact H42.out
              refine Wp.run 2 (118, [(1, .int 1), (0, .ref 66)], [.int 41, .ref 66], (zsh ++ vs, m47, ml, (zmr g))) rfl ?_
              refine Wp.call (as := [.ref 66, .int 41]) (rest := []) rfl rfl rfl rfl rfl (Nat.le_of_ble_eq_true rfl) (Nat.le_of_ble_eq_true rfl) rfl (by omega) (m_takesB R H47 41) ?_
              rintro _ _ ⟨rfl, m48, rfl, H48⟩
              refine Wp.run 2 (130, [(1, .int 1), (0, .ref 66)], [.int 1], (zsh ++ vs, m48, ml, (zmr g))) rfl ?_
              have e9 : zfac T n (r + 1) p = (none, q42) := by rw [zfac, if_neg hi31, if_pos hi39, hr42]
              rw [e9]
              refine Wp.ret rfl rfl rfl ?_
              exact ⟨_, rfl, Or.inr ⟨rfl, Or.inr rfl, H48⟩⟩
          · rw [if_neg hi39]
            refine Wp.run 2 (125, [(0, .ref 66)], [.ref 66], (zsh ++ vs, m, ml, (zmr g))) rfl ?_
            refine Wp.call (as := [.ref 66]) (rest := []) rfl rfl rfl rfl rfl (Nat.le_of_ble_eq_true rfl) (Nat.le_of_ble_eq_true rfl) rfl (by omega) (m_testG R H hpn) ?_
            rintro _ _ ⟨m9, rfl, hc⟩
            rw [show ztest T n p = zfac T n (r + 1) p from by rw [zfac, if_neg hi31, if_neg hi39]] at hc
            rcases hc with ⟨t9, ho, rfl, H9⟩ | ⟨ho, rfl | rfl, H9⟩
            · refine Wp.run 2 (130, [(1, .int (if t9.2 nm = true then 1 else 0)), (0, .ref 66)], [.int (if t9.2 nm = true then 1 else 0)], (zsh ++ vs, m9, ml, (zmr g))) rfl ?_
              refine Wp.retb rfl ?_
              exact ⟨_, rfl, Or.inl ⟨t9, ho, rfl, H9⟩⟩
            · refine Wp.run 2 (130, [(1, .int 0), (0, .ref 66)], [.int 0], (zsh ++ vs, m9, ml, (zmr g))) rfl ?_
              refine Wp.ret rfl rfl rfl ?_
              exact ⟨_, rfl, Or.inr ⟨ho, Or.inl rfl, H9⟩⟩
            · refine Wp.run 2 (130, [(1, .int 1), (0, .ref 66)], [.int 1], (zsh ++ vs, m9, ml, (zmr g))) rfl ?_
              refine Wp.ret rfl rfl rfl ?_
              exact ⟨_, rfl, Or.inr ⟨ho, Or.inr rfl, H9⟩⟩
theorem m_any4 {E : zEn} {vs : List (Nat × Nat)} {mi : Nat → Nat → Int32} {ml : Nat → Nat → Int64} {g : Nat → Nat → Option Nat} {T : Nat → Int32} {n : Nat} {nm : Nat → Int32} (R : RM T n nm mi) {s a : Int32} {m : Nat → Nat → Int32} {p : Nat} (H : MS mi m p 1 0 s a) (hpn : p ≤ n) : Wp E 17 pg_M_any 0 (lv_args 0 [.ref 66]) [] (zsh ++ vs, m, ml, zmr g) (mP mi nm 0 s a vs ml g (zany T n (zfac T n 4) p)) :=
  m_anyG R (zfac_ok 4) (D := 16) (by omega) (fun m p H hp => m_bothG R (zfac_ok 4) (D := 15) (by omega) (m_fac R 4 0 rfl) H hp) H hpn
