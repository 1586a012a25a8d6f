/-! THE CLASS'S READER: choices -/
theorem app3 {l0 : List Int32} {t u : zT} : l0 ++ t.1 ++ u.1 ++ [2001] = l0 ++ (zAn t u).1 := by
  show _ = l0 ++ (t.1 ++ u.1 ++ [2001])
  rw [List.append_assoc, List.append_assoc, List.append_assoc]
theorem app4 {l0 : List Int32} {t u : zT} : l0 ++ t.1 ++ u.1 ++ [2002] = l0 ++ (zOo t u).1 := by
  show _ = l0 ++ (t.1 ++ u.1 ++ [2002])
  rw [List.append_assoc, List.append_assoc, List.append_assoc]
theorem leq {a b : List Int32} : (a ++ b).length = a.length + b.length := List.length_append
theorem c_and {E : zEn} {vs : List (Nat × Nat)} {mi : Nat → Nat → Int32} {ml : Nat → Nat → Int64} {g : Nat → Nat → Option Nat} {T : Nat → Int32} {a : Int32} {n : Nat} (hT : tOK T n) (F : Nat → zRs) (hF : zGf n F) {D : Nat} (hD : 5 ≤ D) {x : Int32} (hfac : ∀ (m : Nat → Nat → Int32) (p : Nat) (l : List Int32), TS T mi m a n p l → p ≤ n → l.length ≤ p → Wp E D pg_Text_readsFactor 0 (lv_args 0 [.ref 48, .int x]) [] (zsh ++ vs, m, ml, zmr g) (cP T mi a n l vs ml g (F p))) {P : Option Value → zW → Prop} {t0 : Int32} {p0 : Nat} {l0 : List Int32} (hl0 : l0.length ≤ p0) : ∀ (c j : Nat) (t : zT) (p : Nat) (m : Nat → Nat → Int32), j + c = 100 → zG n p0 t p → TS T mi m a n p (l0 ++ t.1) →
    (∀ m' u q, zbl T n F c t p = (some u, q) → zG n p0 u q → TS T mi m' a n q (l0 ++ u.1) → Wp E (D + 1) pg_Text_readsChoice 58 [(0, .ref 48), (1, .int x), (2, .int t0)] [] (zsh ++ vs, m', ml, zmr g) P) →
    (∀ m' q l', zbl T n F c t p = (none, q) → TS T mi m' a n q l' → P (some (.int 0)) (zsh ++ vs, m', ml, zmr g)) →
    Wp E (D + 1) pg_Text_readsChoice 20 [(0, .ref 48), (1, .int x), (2, .int t0), (3, .int (nI j))] [] (zsh ++ vs, m, ml, zmr g) P := by
  intro c
  induction c with
  | zero =>
    intro j t p m hj hg H K Kf
    obtain rfl : j = 100 := by omega
    refine Wp.run 2 (23, [(0, .ref 48), (1, .int x), (2, .int t0), (3, .int (nI 100))], [.int 100, .int (nI 100)], (zsh ++ vs, m, ml, (zmr g))) rfl ?_
    refine Wp.icmp_ge rfl (fun h1 => ?_) (fun h1 => ?_)
    · refine Wp.run 0 (58, [(0, .ref 48), (1, .int x), (2, .int t0), (3, .int (nI 100))], [], (zsh ++ vs, m, ml, (zmr g))) rfl ?_
      refine Wp.sub (a := [(0, .ref 48), (1, .int x), (2, .int t0)]) (zle_cons rfl (zle_cons rfl (zle_cons rfl (zle_nil)))) ?_
      exact K _ t p (rfl) hg H
    · exact absurd (Int32.le_refl _) h1
  | succ c ih =>
    intro j t p m hj hg H K Kf
    refine Wp.run 2 (23, [(0, .ref 48), (1, .int x), (2, .int t0), (3, .int (nI j))], [.int 100, .int (nI j)], (zsh ++ vs, m, ml, (zmr g))) rfl ?_
    refine Wp.icmp_ge rfl (fun h1 => ?_) (fun h1 => ?_)
    · exact absurd h1 (nI_ge (b := 100) (by omega) (by decide))
    · refine Wp.run 2 (29, [(0, .ref 48), (1, .int x), (2, .int t0), (3, .int (nI j))], [.int 38, .ref 48], (zsh ++ vs, m, ml, (zmr g))) rfl ?_
      refine Wp.call (as := [.ref 48, .int 38]) (rest := []) rfl rfl rfl rfl rfl (Nat.le_of_ble_eq_true rfl) (Nat.le_of_ble_eq_true rfl) rfl (by omega) (c_takes H hT hg.2.1 38 (by decide)) ?_
      rintro _ _ (⟨ht1, rfl, m1, rfl, H1⟩ | ⟨ht1, rfl, rfl⟩)
      · have hp1 : p + 1 ≤ n := zch_lt ht1 (by decide)
        refine Wp.run 3 (37, [(0, .ref 48), (1, .int x), (2, .int t0), (3, .int (nI j))], [.int x, .ref 48], (zsh ++ vs, m1, ml, (zmr g))) rfl ?_
        refine Wp.call (as := [.ref 48, .int x]) (rest := []) rfl rfl rfl rfl rfl (Nat.le_of_ble_eq_true rfl) (Nat.le_of_ble_eq_true rfl) rfl (by omega) (hfac _ (p + 1) (l0 ++ t.1) H1 hp1 (Nat.le_succ_of_le (by have := hg.1; rw [leq]; omega))) ?_
        rintro _ _ ⟨m2, rfl, hc2⟩
        rcases hr2 : F (p + 1) with ⟨o2, q2⟩
        rw [hr2] at hc2
        rcases hc2 with ⟨t2, ho2, rfl, H2⟩ | ⟨ho2, rfl, l2, H2⟩
        · cases (show o2 = some t2 from ho2)
          have hg2 := hF _ _ _ hr2
          refine Wp.run 3 (49, [(0, .ref 48), (1, .int x), (2, .int t0), (3, .int (nI j))], [.int 2001, .ref 48], (zsh ++ vs, m2, ml, (zmr g))) rfl ?_
          refine Wp.call (as := [.ref 48, .int 2001]) (rest := []) rfl rfl rfl rfl rfl (Nat.le_of_ble_eq_true rfl) (Nat.le_of_ble_eq_true rfl) rfl (by omega) (c_emit H2 2001 (by have := hT.1; have := hg.1; have := hg2.1; have := hg2.2.1; rw [leq, leq]; omega)) ?_
          rintro _ _ ⟨rfl, m3, rfl, H3⟩
          refine Wp.run 2 (20, [(3, .int ((nI j) + 1)), (0, .ref 48), (1, .int x), (2, .int t0)], [], (zsh ++ vs, m3, ml, (zmr g))) rfl ?_
          rw [app3] at H3
          rw [nI_1]
          have e9 : zbl T n F (c + 1) t p = zbl T n F c (zAn t t2) q2 := by rw [zbl, if_pos ht1, hr2]
          refine Wp.sub (a := [(0, .ref 48), (1, .int x), (2, .int t0), (3, .int (nI (j + 1)))]) (zle_cons rfl (zle_cons rfl (zle_cons rfl (zle_cons rfl (zle_nil))))) ?_
          exact ih (j + 1) (zAn t t2) q2 _ (by omega) (zG_an hg hg2) H3 (fun m' u q e => K m' u q (e9.trans e)) (fun m' q l' e => Kf m' q l' (e9.trans e))
        · cases (show o2 = none from ho2)
          refine Wp.run 2 (44, [(0, .ref 48), (1, .int x), (2, .int t0), (3, .int (nI j))], [.int 0], (zsh ++ vs, m2, ml, (zmr g))) rfl ?_
          refine Wp.ret rfl rfl rfl ?_
          exact Kf _ _ _ (by rw [zbl, if_pos ht1, hr2]) H2
      · refine Wp.run 1 (58, [(0, .ref 48), (1, .int x), (2, .int t0), (3, .int (nI j))], [], (zsh ++ vs, m, ml, (zmr g))) rfl ?_
        refine Wp.sub (a := [(0, .ref 48), (1, .int x), (2, .int t0)]) (zle_cons rfl (zle_cons rfl (zle_cons rfl (zle_nil)))) ?_
        exact K _ t p (by rw [zbl, if_neg ht1]) hg H
theorem c_or {E : zEn} {vs : List (Nat × Nat)} {mi : Nat → Nat → Int32} {ml : Nat → Nat → Int64} {g : Nat → Nat → Option Nat} {T : Nat → Int32} {a : Int32} {n : Nat} (hT : tOK T n) (F : Nat → zRs) (hF : zGf n F) {D : Nat} (hD : 5 ≤ D) {x : Int32} (hfac : ∀ (m : Nat → Nat → Int32) (p : Nat) (l : List Int32), TS T mi m a n p l → p ≤ n → l.length ≤ p → Wp E D pg_Text_readsFactor 0 (lv_args 0 [.ref 48, .int x]) [] (zsh ++ vs, m, ml, zmr g) (cP T mi a n l vs ml g (F p))) {p0 : Nat} {l0 : List Int32} (hl0 : l0.length ≤ p0) : ∀ (c j : Nat) (t : zT) (p : Nat) (m : Nat → Nat → Int32), j + c = 99 → zG n p0 t p → j + 1 ≤ t.1.length → TS T mi m a n p (l0 ++ t.1) → Wp E (D + 1) pg_Text_readsChoice 69 [(0, .ref 48), (1, .int x), (2, .int (nI j))] [] (zsh ++ vs, m, ml, zmr g) (cP T mi a n l0 vs ml g (zol T n F c t p)) := by
  intro c
  induction c with
  | zero =>
    intro j t p m hj hg hlen H
    obtain rfl : j = 99 := by omega
    have hno : ¬ zch T n p = 124 := fun e => by have := zch_lt e (by decide); have := hg.1; have := hT.1; omega
    refine Wp.run 2 (72, [(0, .ref 48), (1, .int x), (2, .int (nI 99))], [.int 124, .ref 48], (zsh ++ vs, m, ml, (zmr g))) rfl ?_
    refine Wp.call (as := [.ref 48, .int 124]) (rest := []) rfl rfl rfl rfl rfl (Nat.le_of_ble_eq_true rfl) (Nat.le_of_ble_eq_true rfl) rfl (by omega) (c_takes H hT hg.2.1 124 (by decide)) ?_
    rintro _ _ (⟨ht4, rfl, m4, rfl, H4⟩ | ⟨ht4, rfl, rfl⟩)
    · exact absurd ht4 hno
    · refine Wp.run 2 (79, [(0, .ref 48), (1, .int x), (2, .int (nI 99))], [.int 1], (zsh ++ vs, m, ml, (zmr g))) rfl ?_
      refine Wp.ret rfl rfl rfl ?_
      have e9 : zol T n F 0 t p = (some t, p) := rfl
      rw [e9]
      exact ⟨_, rfl, Or.inl ⟨t, rfl, rfl, H⟩⟩
  | succ c ih =>
    intro j t p m hj hg hlen H
    refine Wp.run 2 (72, [(0, .ref 48), (1, .int x), (2, .int (nI j))], [.int 124, .ref 48], (zsh ++ vs, m, ml, (zmr g))) rfl ?_
    refine Wp.call (as := [.ref 48, .int 124]) (rest := []) rfl rfl rfl rfl rfl (Nat.le_of_ble_eq_true rfl) (Nat.le_of_ble_eq_true rfl) rfl (by omega) (c_takes H hT hg.2.1 124 (by decide)) ?_
    rintro _ _ (⟨ht5, rfl, m5, rfl, H5⟩ | ⟨ht5, rfl, rfl⟩)
    · have hp5 : p + 1 ≤ n := zch_lt ht5 (by decide)
      refine Wp.run 3 (2, [(2, .int ((nI j) + 1)), (0, .ref 48), (1, .int x)], [], (zsh ++ vs, m5, ml, (zmr g))) rfl ?_
      refine Wp.run 0 (2, [(2, .int ((nI j) + 1)), (0, .ref 48), (1, .int x)], [], (zsh ++ vs, m5, ml, (zmr g))) rfl ?_
      rw [nI_1]
      refine Wp.run 2 (5, [(2, .int (nI (j + 1))), (0, .ref 48), (1, .int x)], [.int 100, .int (nI (j + 1))], (zsh ++ vs, m5, ml, (zmr g))) rfl ?_
      refine Wp.icmp_ge rfl (fun h1 => ?_) (fun h1 => ?_)
      · exact absurd h1 (nI_ge (b := 100) (by omega) (by decide))
      · refine Wp.run 2 (10, [(2, .int (nI (j + 1))), (0, .ref 48), (1, .int x)], [.int x, .ref 48], (zsh ++ vs, m5, ml, (zmr g))) rfl ?_
        refine Wp.call (as := [.ref 48, .int x]) (rest := []) rfl rfl rfl rfl rfl (Nat.le_of_ble_eq_true rfl) (Nat.le_of_ble_eq_true rfl) rfl (by omega) (hfac _ (p + 1) (l0 ++ t.1) H5 hp5 (Nat.le_succ_of_le (by have := hg.1; rw [leq]; omega))) ?_
        rintro _ _ ⟨m6, rfl, hc6⟩
        rcases hr6 : F (p + 1) with ⟨o6, q6⟩
        rw [hr6] at hc6
        rcases hc6 with ⟨t6, ho6, rfl, H6⟩ | ⟨ho6, rfl, l6, H6⟩
        · cases (show o6 = some t6 from ho6)
          have hg6 := hF _ _ _ hr6
          refine Wp.run 3 (20, [(3, .int 0), (2, .int (nI (j + 1))), (0, .ref 48), (1, .int x)], [], (zsh ++ vs, m6, ml, (zmr g))) rfl ?_
          refine Wp.sub (a := [(0, .ref 48), (1, .int x), (2, .int (nI (j + 1))), (3, .int (nI 0))]) (zle_cons rfl (zle_cons rfl (zle_cons rfl (zle_cons rfl (zle_nil))))) ?_
          refine c_and hT F hF hD hfac (l0 := l0 ++ t.1) (p0 := p + 1) (by have := hg.1; rw [leq]; omega) 100 0 t6 q6 _ (by omega) hg6 H6 (fun m' u q e hu HH => ?_) (fun m' q l' e HH => ?_)
          · refine Wp.run 1 (59, [(0, .ref 48), (1, .int x), (2, .int (nI (j + 1)))], [.int (nI (j + 1))], (zsh ++ vs, m', ml, (zmr g))) rfl ?_
            refine Wp.if_le rfl (fun h51 => ?_) (fun h51 => ?_)
            · exact absurd h51 (nI_nle (by omega) (by omega))
            · refine Wp.run 2 (66, [(0, .ref 48), (1, .int x), (2, .int (nI (j + 1)))], [.int 2002, .ref 48], (zsh ++ vs, m', ml, (zmr g))) rfl ?_
              refine Wp.call (as := [.ref 48, .int 2002]) (rest := []) rfl rfl rfl rfl rfl (Nat.le_of_ble_eq_true rfl) (Nat.le_of_ble_eq_true rfl) rfl (by omega) (c_emit HH 2002 (by have := hT.1; have := hg.1; have := hu.1; have := hu.2.1; rw [leq, leq]; omega)) ?_
              rintro _ _ ⟨rfl, m7, rfl, H7⟩
              refine Wp.run 0 (69, [(0, .ref 48), (1, .int x), (2, .int (nI (j + 1)))], [], (zsh ++ vs, m7, ml, (zmr g))) rfl ?_
              rw [app4] at H7
              have e9 : zol T n F (c + 1) t p = zol T n F c (zOo t u) q := by rw [zol, if_pos ht5, zbo2, hr6]; simp only [e]
              rw [e9]
              exact ih (j + 1) (zOo t u) q _ (by omega) (zG_oo hg hu) (by have := hu.2.2.2.2; show j + 1 + 1 ≤ (t.1 ++ u.1 ++ [2002]).length; rw [leq, leq]; show _ ≤ _ + _ + 1; omega) H7
          · have e9 : zol T n F (c + 1) t p = (none, q) := by rw [zol, if_pos ht5, zbo2, hr6]; simp only [e]
            rw [e9]
            exact ⟨_, rfl, Or.inr ⟨rfl, rfl, _, HH⟩⟩
        · cases (show o6 = none from ho6)
          refine Wp.run 2 (17, [(2, .int (nI (j + 1))), (0, .ref 48), (1, .int x)], [.int 0], (zsh ++ vs, m6, ml, (zmr g))) rfl ?_
          refine Wp.ret rfl rfl rfl ?_
          have e9 : zol T n F (c + 1) t p = (none, q6) := by rw [zol, if_pos ht5, zbo2, hr6]
          rw [e9]
          exact ⟨_, rfl, Or.inr ⟨rfl, rfl, _, H6⟩⟩
    · refine Wp.run 2 (79, [(0, .ref 48), (1, .int x), (2, .int (nI j))], [.int 1], (zsh ++ vs, m, ml, (zmr g))) rfl ?_
      refine Wp.ret rfl rfl rfl ?_
      have e9 : zol T n F (c + 1) t p = (some t, p) := by rw [zol, if_neg ht5]
      rw [e9]
      exact ⟨_, rfl, Or.inl ⟨t, rfl, rfl, H⟩⟩
theorem c_choice {E : zEn} {vs : List (Nat × Nat)} {mi : Nat → Nat → Int32} {ml : Nat → Nat → Int64} {g : Nat → Nat → Option Nat} {T : Nat → Int32} {a : Int32} {n : Nat} (hT : tOK T n) (F : Nat → zRs) (hF : zGf n F) {D : Nat} (hD : 5 ≤ D) {x : Int32} (hfac : ∀ (m : Nat → Nat → Int32) (p : Nat) (l : List Int32), TS T mi m a n p l → p ≤ n → l.length ≤ p → Wp E D pg_Text_readsFactor 0 (lv_args 0 [.ref 48, .int x]) [] (zsh ++ vs, m, ml, zmr g) (cP T mi a n l vs ml g (F p))) {p : Nat} {l : List Int32} {m : Nat → Nat → Int32} (H : TS T mi m a n p l) (hp : p ≤ n) (hl : l.length ≤ p) : Wp E (D + 1) pg_Text_readsChoice 0 (lv_args 0 [.ref 48, .int x]) [] (zsh ++ vs, m, ml, zmr g) (cP T mi a n l vs ml g (zany T n F p)) := by
  refine Wp.run 7 (10, [(2, .int 0), (0, .ref 48), (1, .int x)], [.int x, .ref 48], (zsh ++ vs, m, ml, (zmr g))) rfl ?_
  refine Wp.call (as := [.ref 48, .int x]) (rest := []) rfl rfl rfl rfl rfl (Nat.le_of_ble_eq_true rfl) (Nat.le_of_ble_eq_true rfl) rfl (by omega) (hfac _ p l H hp (hl)) ?_
  rintro _ _ ⟨m8, rfl, hc8⟩
  rcases hr8 : F p with ⟨o8, q8⟩
  rw [hr8] at hc8
  rcases hc8 with ⟨t8, ho8, rfl, H8⟩ | ⟨ho8, rfl, l8, H8⟩
  · cases (show o8 = some t8 from ho8)
    have hg8 := hF _ _ _ hr8
    refine Wp.run 3 (20, [(3, .int 0), (2, .int 0), (0, .ref 48), (1, .int x)], [], (zsh ++ vs, m8, ml, (zmr g))) rfl ?_
    refine Wp.sub (a := [(0, .ref 48), (1, .int x), (2, .int 0), (3, .int (nI 0))]) (zle_cons rfl (zle_cons rfl (zle_cons rfl (zle_cons rfl (zle_nil))))) ?_
    refine c_and hT F hF hD hfac (l0 := l) (p0 := p) hl 100 0 t8 q8 _ (by omega) hg8 H8 (fun m' u q e hu HH => ?_) (fun m' q l' e HH => ?_)
    · refine Wp.run 2 (69, [(0, .ref 48), (1, .int x), (2, .int 0)], [], (zsh ++ vs, m', ml, (zmr g))) rfl ?_
      have e9 : zany T n F p = zol T n F 99 u q := by rw [zany, zbo2, hr8]; simp only [e]
      rw [e9]
      refine Wp.sub (a := [(0, .ref 48), (1, .int x), (2, .int (nI 0))]) (zle_cons rfl (zle_cons rfl (zle_cons rfl (zle_nil)))) ?_
      exact c_or hT F hF hD hfac hl 99 0 u q _ (by omega) hu hu.2.2.2.2 HH
    · have e9 : zany T n F p = (none, q) := by rw [zany, zbo2, hr8]; simp only [e]
      rw [e9]
      exact ⟨_, rfl, Or.inr ⟨rfl, rfl, _, HH⟩⟩
  · cases (show o8 = none from ho8)
    refine Wp.run 2 (17, [(2, .int 0), (0, .ref 48), (1, .int x)], [.int 0], (zsh ++ vs, m8, ml, (zmr g))) rfl ?_
    refine Wp.ret rfl rfl rfl ?_
    have e9 : zany T n F p = (none, q8) := by rw [zany, zbo2, hr8]
    rw [e9]
    exact ⟨_, rfl, Or.inr ⟨rfl, rfl, _, H8⟩⟩
theorem ztest_no {T : Nat → Int32} {n p : Nat} {c : Int32} (h : zch T n p = c) (h2 : zlt c = none) : ztest T n p = (none, p) := ztest_l (by rw [h]; exact h2)
theorem c_fac {E : zEn} {vs : List (Nat × Nat)} {mi : Nat → Nat → Int32} {ml : Nat → Nat → Int64} {g : Nat → Nat → Option Nat} {T : Nat → Int32} {a : Int32} {n : Nat} (hT : tOK T n) : ∀ (r d : Nat), d + r = 4 → ∀ (m : Nat → Nat → Int32) (p : Nat) (l : List Int32), TS T mi m a n p l → p ≤ n → l.length ≤ p → Wp E (6 + 2 * r) pg_Text_readsFactor 0 (lv_args 0 [.ref 48, .int (nI d)]) [] (zsh ++ vs, m, ml, zmr g) (cP T mi a n l vs ml g (zfac T n r p)) := by
  intro r
  induction r with
  | zero =>
    intro d hd m p l H hp hl
    obtain rfl : d = 4 := by omega
    refine Wp.run 1 (1, [(0, .ref 48), (1, .int (nI 4))], [.ref 48], (zsh ++ vs, m, ml, (zmr g))) rfl ?_
    refine Wp.call (as := [.ref 48]) (rest := []) rfl rfl rfl rfl rfl (Nat.le_of_ble_eq_true rfl) (Nat.le_of_ble_eq_true rfl) rfl (by omega) (c_next H hT hp) ?_
    rintro _ _ ⟨rfl, rfl⟩
    refine Wp.run 3 (8, [(2, .int (zch T n p)), (0, .ref 48), (1, .int (nI 4))], [.int 33, .int (zch T n p)], (zsh ++ vs, m, ml, (zmr g))) rfl ?_
    refine Wp.icmp_eq rfl (fun h1 => ?_) (fun h1 => ?_)
    · refine Wp.run 2 (24, [(2, .int (zch T n p)), (0, .ref 48), (1, .int (nI 4))], [.int 4, .int (nI 4)], (zsh ++ vs, m, ml, (zmr g))) rfl ?_
      refine Wp.icmp_lt rfl (fun h2 => ?_) (fun h2 => ?_)
      · exact absurd h2 (by decide)
      · refine Wp.run 1 (28, [(2, .int (zch T n p)), (0, .ref 48), (1, .int (nI 4))], [.int 0], (zsh ++ vs, m, ml, (zmr g))) rfl ?_
        refine Wp.ret rfl rfl rfl ?_
        have e9 : zfac T n 0 p = (none, p) := ztest_no h1 (by decide)
        rw [e9]
        exact ⟨_, rfl, Or.inr ⟨rfl, rfl, _, H⟩⟩
    · refine Wp.run 2 (14, [(2, .int (zch T n p)), (0, .ref 48), (1, .int (nI 4))], [.int 40, .int (zch T n p)], (zsh ++ vs, m, ml, (zmr g))) rfl ?_
      refine Wp.icmp_eq rfl (fun h3 => ?_) (fun h3 => ?_)
      · refine Wp.run 2 (24, [(2, .int (zch T n p)), (0, .ref 48), (1, .int (nI 4))], [.int 4, .int (nI 4)], (zsh ++ vs, m, ml, (zmr g))) rfl ?_
        refine Wp.icmp_lt rfl (fun h4 => ?_) (fun h4 => ?_)
        · exact absurd h4 (by decide)
        · refine Wp.run 1 (28, [(2, .int (zch T n p)), (0, .ref 48), (1, .int (nI 4))], [.int 0], (zsh ++ vs, m, ml, (zmr g))) rfl ?_
          refine Wp.ret rfl rfl rfl ?_
          have e9 : zfac T n 0 p = (none, p) := ztest_no h3 (by decide)
          rw [e9]
          exact ⟨_, rfl, Or.inr ⟨rfl, rfl, _, H⟩⟩
      · refine Wp.run 1 (18, [(2, .int (zch T n p)), (0, .ref 48), (1, .int (nI 4))], [.ref 48], (zsh ++ vs, m, ml, (zmr g))) rfl ?_
        refine Wp.call (as := [.ref 48]) (rest := []) rfl rfl rfl rfl rfl (Nat.le_of_ble_eq_true rfl) (Nat.le_of_ble_eq_true rfl) rfl (by omega) (c_test H hT hp hl) ?_
        intro r1 w1 hc
        obtain ⟨m9, rfl, hc⟩ := hc
        rw [show ztest T n p = zfac T n 0 p from rfl] at hc
        rcases hc with ⟨t9, ho, rfl, H9⟩ | ⟨ho, rfl, l9, H9⟩
        · refine Wp.run 0 (21, [(2, .int (zch T n p)), (0, .ref 48), (1, .int (nI 4))], [.int 1], (zsh ++ vs, m9, ml, (zmr g))) rfl ?_
          refine Wp.ret rfl rfl rfl ?_
          exact ⟨_, rfl, Or.inl ⟨t9, ho, rfl, H9⟩⟩
        · refine Wp.run 0 (21, [(2, .int (zch T n p)), (0, .ref 48), (1, .int (nI 4))], [.int 0], (zsh ++ vs, m9, ml, (zmr g))) rfl ?_
          refine Wp.ret rfl rfl rfl ?_
          exact ⟨_, rfl, Or.inr ⟨ho, rfl, _, H9⟩⟩
  | succ r ih =>
    intro d hd m p l H hp hl
    refine Wp.run 1 (1, [(0, .ref 48), (1, .int (nI d))], [.ref 48], (zsh ++ vs, m, ml, (zmr g))) rfl ?_
    refine Wp.call (as := [.ref 48]) (rest := []) rfl rfl rfl rfl rfl (Nat.le_of_ble_eq_true rfl) (Nat.le_of_ble_eq_true rfl) rfl (by omega) (c_next H hT hp) ?_
    rintro _ _ ⟨rfl, rfl⟩
    refine Wp.run 3 (8, [(2, .int (zch T n p)), (0, .ref 48), (1, .int (nI d))], [.int 33, .int (zch T n p)], (zsh ++ vs, m, ml, (zmr g))) rfl ?_
    refine Wp.icmp_eq rfl (fun h1 => ?_) (fun h1 => ?_)
    · refine Wp.run 2 (24, [(2, .int (zch T n p)), (0, .ref 48), (1, .int (nI d))], [.int 4, .int (nI d)], (zsh ++ vs, m, ml, (zmr g))) rfl ?_
      refine Wp.icmp_lt rfl (fun h2 => ?_) (fun h2 => ?_)
      · refine Wp.run 6 (39, [(2, .int (zch T n p)), (0, .ref 48), (1, .int (nI d))], [], (zsh ++ vs, (zup m 48 1 ((m 48 1) + 1)), ml, (zmr g))) rfl ?_
        obtain ⟨m9, hm9⟩ : ∃ m9, m9 = (zup m 48 1 ((m 48 1) + 1)) := ⟨_, rfl⟩
        rw [← hm9]
        have H9 : TS T mi m9 a n (p + 1) l := by rw [hm9]; exact H.adv
        have hp9 : p + 1 ≤ n := zch_lt h1 (by decide)
        refine Wp.run 2 (42, [(2, .int (zch T n p)), (0, .ref 48), (1, .int (nI d))], [.int 40, .int (zch T n p)], (zsh ++ vs, m9, ml, (zmr g))) rfl ?_
        refine Wp.icmp_ne rfl (fun h3 => ?_) (fun h3 => ?_)
        · refine Wp.run 4 (74, [(2, .int (zch T n p)), (0, .ref 48), (1, .int (nI d))], [.int ((nI d) + 1), .ref 48], (zsh ++ vs, m9, ml, (zmr g))) rfl ?_
          rw [nI_1]
          refine Wp.run 0 (74, [(2, .int (zch T n p)), (0, .ref 48), (1, .int (nI d))], [.int (nI (d + 1)), .ref 48], (zsh ++ vs, m9, ml, (zmr g))) rfl ?_
          refine Wp.call (as := [.ref 48, .int (nI (d + 1))]) (rest := []) rfl rfl rfl rfl rfl (Nat.le_of_ble_eq_true rfl) (Nat.le_of_ble_eq_true rfl) rfl (by omega) (ih (d + 1) (by omega) _ (p + 1) l H9 hp9 (by omega)) ?_
          rintro _ _ ⟨m10, rfl, hc10⟩
          rcases hr10 : zfac T n r (p + 1) with ⟨o10, q10⟩
          rw [hr10] at hc10
          rcases hc10 with ⟨t10, ho10, rfl, H10⟩ | ⟨ho10, rfl, l10, H10⟩
          · cases (show o10 = some t10 from ho10)
            have hg10 := zfac_ok r _ _ _ hr10
            refine Wp.run 3 (86, [(2, .int (zch T n p)), (0, .ref 48), (1, .int (nI d))], [.int 2000, .ref 48], (zsh ++ vs, m10, ml, (zmr g))) rfl ?_
            refine Wp.call (as := [.ref 48, .int 2000]) (rest := []) rfl rfl rfl rfl rfl (Nat.le_of_ble_eq_true rfl) (Nat.le_of_ble_eq_true rfl) rfl (by omega) (c_emit H10 2000 (by have := hT.1; have := hg10.1; have := hg10.2.1; rw [leq]; omega)) ?_
            rintro _ _ ⟨rfl, m11, rfl, H11⟩
            refine Wp.run 1 (90, [(2, .int (zch T n p)), (0, .ref 48), (1, .int (nI d))], [.int 1], (zsh ++ vs, m11, ml, (zmr g))) rfl ?_
            refine Wp.ret rfl rfl rfl ?_
            have e9 : zfac T n (r + 1) p = (some (zNt t10), q10) := by rw [zfac, if_pos h1, hr10]
            rw [e9]
            refine ⟨_, rfl, Or.inl ⟨_, rfl, rfl, ?_⟩⟩
            show TS T mi _ a n q10 (l ++ (t10.1 ++ [2000]))
            rw [← List.append_assoc]
            exact H11
          · cases (show o10 = none from ho10)
            refine Wp.run 2 (81, [(2, .int (zch T n p)), (0, .ref 48), (1, .int (nI d))], [.int 0], (zsh ++ vs, m10, ml, (zmr g))) rfl ?_
            refine Wp.ret rfl rfl rfl ?_
            have e9 : zfac T n (r + 1) p = (none, q10) := by rw [zfac, if_pos h1, hr10]
            rw [e9]
            exact ⟨_, rfl, Or.inr ⟨rfl, rfl, _, H10⟩⟩
        · exact absurd (h1.symm.trans h3) (by decide)
      · exact absurd (nI_lt (a := d) (b := 4) (by omega) (by decide)) h2
    · refine Wp.run 2 (14, [(2, .int (zch T n p)), (0, .ref 48), (1, .int (nI d))], [.int 40, .int (zch T n p)], (zsh ++ vs, m, ml, (zmr g))) rfl ?_
      refine Wp.icmp_eq rfl (fun h4 => ?_) (fun h4 => ?_)
      · refine Wp.run 2 (24, [(2, .int (zch T n p)), (0, .ref 48), (1, .int (nI d))], [.int 4, .int (nI d)], (zsh ++ vs, m, ml, (zmr g))) rfl ?_
        refine Wp.icmp_lt rfl (fun h5 => ?_) (fun h5 => ?_)
        · refine Wp.run 6 (39, [(2, .int (zch T n p)), (0, .ref 48), (1, .int (nI d))], [], (zsh ++ vs, (zup m 48 1 ((m 48 1) + 1)), ml, (zmr g))) rfl ?_
          obtain ⟨m12, hm12⟩ : ∃ m9, m9 = (zup m 48 1 ((m 48 1) + 1)) := ⟨_, rfl⟩
          rw [← hm12]
          have H12 : TS T mi m12 a n (p + 1) l := by rw [hm12]; exact H.adv
          have hp12 : p + 1 ≤ n := zch_lt h4 (by decide)
          refine Wp.run 2 (42, [(2, .int (zch T n p)), (0, .ref 48), (1, .int (nI d))], [.int 40, .int (zch T n p)], (zsh ++ vs, m12, ml, (zmr g))) rfl ?_
          refine Wp.icmp_ne rfl (fun h6 => ?_) (fun h6 => ?_)
          · exact absurd h4 h6
          · refine Wp.run 4 (49, [(2, .int (zch T n p)), (0, .ref 48), (1, .int (nI d))], [.int ((nI d) + 1), .ref 48], (zsh ++ vs, m12, ml, (zmr g))) rfl ?_
            rw [nI_1]
            refine Wp.run 0 (49, [(2, .int (zch T n p)), (0, .ref 48), (1, .int (nI d))], [.int (nI (d + 1)), .ref 48], (zsh ++ vs, m12, ml, (zmr g))) rfl ?_
            refine Wp.call (as := [.ref 48, .int (nI (d + 1))]) (rest := []) rfl rfl rfl rfl rfl (Nat.le_of_ble_eq_true rfl) (Nat.le_of_ble_eq_true rfl) rfl (by omega) (c_choice hT (zfac T n r) (zfac_ok r) (D := 6 + 2 * r) (by omega) (ih (d + 1) (by omega)) H12 hp12 (by omega)) ?_
            rintro _ _ ⟨m13, rfl, hc13⟩
            rcases hr13 : zany T n (zfac T n r) (p + 1) with ⟨o13, q13⟩
            rw [hr13] at hc13
            rcases hc13 with ⟨t13, ho13, rfl, H13⟩ | ⟨ho13, rfl, l13, H13⟩
            · cases (show o13 = some t13 from ho13)
              have hg13 := zany_ok (zfac_ok r) _ _ _ hr13
              refine Wp.run 3 (58, [(2, .int (zch T n p)), (0, .ref 48), (1, .int (nI d))], [.int 41, .ref 48], (zsh ++ vs, m13, ml, (zmr g))) rfl ?_
              refine Wp.call (as := [.ref 48, .int 41]) (rest := []) rfl rfl rfl rfl rfl (Nat.le_of_ble_eq_true rfl) (Nat.le_of_ble_eq_true rfl) rfl (by omega) (c_takes H13 hT hg13.2.1 41 (by decide)) ?_
              rintro _ _ (⟨ht14, rfl, m14, rfl, H14⟩ | ⟨ht14, rfl, rfl⟩)
              · have hp14 : q13 + 1 ≤ n := zch_lt ht14 (by decide)
                refine Wp.run 3 (69, [(2, .int (zch T n p)), (0, .ref 48), (1, .int (nI d))], [.int 1], (zsh ++ vs, m14, ml, (zmr g))) rfl ?_
                refine Wp.ret rfl rfl rfl ?_
                have e9 : zfac T n (r + 1) p = (some t13, q13 + 1) := by rw [zfac, if_neg h1, if_pos h4, hr13]; simp only [if_pos ht14]
                rw [e9]
                exact ⟨_, rfl, Or.inl ⟨_, rfl, rfl, H14⟩⟩
              · refine Wp.run 2 (69, [(2, .int (zch T n p)), (0, .ref 48), (1, .int (nI d))], [.int 0], (zsh ++ vs, m13, ml, (zmr g))) rfl ?_
                refine Wp.ret rfl rfl rfl ?_
                have e9 : zfac T n (r + 1) p = (none, q13) := by rw [zfac, if_neg h1, if_pos h4, hr13]; simp only [if_neg ht14]
                rw [e9]
                exact ⟨_, rfl, Or.inr ⟨rfl, rfl, _, H13⟩⟩
            · cases (show o13 = none from ho13)
              refine Wp.run 2 (69, [(2, .int (zch T n p)), (0, .ref 48), (1, .int (nI d))], [.int 0], (zsh ++ vs, m13, ml, (zmr g))) rfl ?_
              refine Wp.ret rfl rfl rfl ?_
              have e9 : zfac T n (r + 1) p = (none, q13) := by rw [zfac, if_neg h1, if_pos h4, hr13]
              rw [e9]
              exact ⟨_, rfl, Or.inr ⟨rfl, rfl, _, H13⟩⟩
        · exact absurd (nI_lt (a := d) (b := 4) (by omega) (by decide)) h5
      · refine Wp.run 1 (18, [(2, .int (zch T n p)), (0, .ref 48), (1, .int (nI d))], [.ref 48], (zsh ++ vs, m, ml, (zmr g))) rfl ?_
        refine Wp.call (as := [.ref 48]) (rest := []) rfl rfl rfl rfl rfl (Nat.le_of_ble_eq_true rfl) (Nat.le_of_ble_eq_true rfl) rfl (by omega) (c_test H hT hp hl) ?_
        intro r1 w1 hc
        obtain ⟨m9, rfl, hc⟩ := hc
        rw [show ztest T n p = zfac T n (r + 1) p from by rw [zfac, if_neg h1, if_neg h4]] at hc
        rcases hc with ⟨t9, ho, rfl, H9⟩ | ⟨ho, rfl, l9, H9⟩
        · refine Wp.run 0 (21, [(2, .int (zch T n p)), (0, .ref 48), (1, .int (nI d))], [.int 1], (zsh ++ vs, m9, ml, (zmr g))) rfl ?_
          refine Wp.ret rfl rfl rfl ?_
          exact ⟨_, rfl, Or.inl ⟨t9, ho, rfl, H9⟩⟩
        · refine Wp.run 0 (21, [(2, .int (zch T n p)), (0, .ref 48), (1, .int (nI d))], [.int 0], (zsh ++ vs, m9, ml, (zmr g))) rfl ?_
          refine Wp.ret rfl rfl rfl ?_
          exact ⟨_, rfl, Or.inr ⟨ho, rfl, _, H9⟩⟩
