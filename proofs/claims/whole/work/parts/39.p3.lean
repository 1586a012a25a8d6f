/-! THE CLASS'S READER: clauses -/
section ZH
variable {T : Nat → Int32} {n p q k : Nat} {L : List Int32} {mk : Nat → zT → zC} {x : Nat × Nat} {t : zT}
theorem zwd_le : ∀ (L : List Int32) (p q : Nat), (∀ c, c ∈ L → ¬ c = -1) → p ≤ n → zwd T n L p = (true, q) → p ≤ q ∧ q ≤ n
  | [], p, q, _, hp, h => by cases h; exact ⟨Nat.le_refl _, hp⟩
  | c :: L, p, q, hc, hp, h => by
    rw [zwd] at h
    split at h
    · rename_i h1
      have := zch_lt h1 (hc c List.mem_cons_self)
      have h2 := zwd_le L (p + 1) q (fun d hd => hc d (List.mem_cons_of_mem _ hd)) this h
      exact ⟨by omega, h2.2⟩
    · cases h
theorem zwn_w (h : zwd T n L p = (false, q)) : zwn T n L p = (none, q) := by rw [zwn, h]
theorem zwn_n (h : zwd T n L p = (true, q)) (h2 : znum T n q = none) : zwn T n L p = (none, q) := by rw [zwn, h]; simp only [h2]
theorem zwn_y (h : zwd T n L p = (true, q)) (h2 : znum T n q = some x) : zwn T n L p = (some x.1, x.2) := by rw [zwn, h]; simp only [h2]
theorem zhe_o (h : zwn T n L p = (none, q)) : zhe T n mk L p = (none, q) := by rw [zhe, h]
theorem zhe_s (h : zwn T n L p = (some k, q)) (h2 : ¬ zch T n q = 32) : zhe T n mk L p = (none, q) := by rw [zhe, h]; simp only [if_neg h2]
theorem zhe_f {e : Nat} (h : zwn T n L p = (some k, q)) (h2 : zch T n q = 32) (h3 : zany T n (zfac T n 4) (q + 1) = (none, e)) : zhe T n mk L p = (none, e) := by rw [zhe, h]; simp only [if_pos h2, h3]
theorem zhe_y {e : Nat} (h : zwn T n L p = (some k, q)) (h2 : zch T n q = 32) (h3 : zany T n (zfac T n 4) (q + 1) = (some t, e)) : zhe T n mk L p = (some (mk k t), e) := by rw [zhe, h]; simp only [if_pos h2, h3]
theorem zcla_h (h : zch T n p = 104) : zcla T n p = zhe T n zHd [104, 97, 114, 100, 32] p := by rw [zcla, if_pos h]
theorem zcla_e (h : zch T n p = 101) : zcla T n p = zhe T n zEs [101, 97, 115, 121, 32] p := by rw [zcla, if_neg (by rw [h]; decide), if_pos h]
theorem zcla_n (h : ¬ zch T n p = 104) (h2 : ¬ zch T n p = 101) (h3 : zwn T n [97, 110, 101, 119, 32] p = (none, q)) : zcla T n p = (none, q) := by rw [zcla, if_neg h, if_neg h2, h3]
theorem zcla_y (h : ¬ zch T n p = 104) (h2 : ¬ zch T n p = 101) (h3 : zwn T n [97, 110, 101, 119, 32] p = (some k, q)) : zcla T n p = (some (zAw k), q) := by rw [zcla, if_neg h, if_neg h2, h3]
end ZH
theorem TS.anew {T : Nat → Int32} {mi m : Nat → Nat → Int32} {a b : Int32} {n p : Nat} {l : List Int32} (H : TS T mi m a n p l) : TS T mi (zup m 48 5 b) b n p l := by
  obtain ⟨h1, h2, h3, h4, h5, h6, h7⟩ := H
  refine ⟨fun b p q => by rw [zup_ne p]; exact h1 b p q, ?_, ?_, ?_, ?_, fun k hk => by rw [zup_ne (by decide)]; exact h6 k hk, fun k hk => by rw [zup_ne (by decide)]; exact h7 k hk⟩
  · simp only [zup, if_true, if_neg (show ¬ 0 = 5 by decide)]; exact h2
  · simp only [zup, if_true, if_neg (show ¬ 1 = 5 by decide)]; exact h3
  · simp only [zup, if_true, if_neg (show ¬ 4 = 5 by decide)]; exact h4
  · simp only [zup, if_true]
/-- what a clause of the class leaves -/
def cQ (T : Nat → Int32) (mi : Nat → Nat → Int32) (a : Nat) (n : Nat) (l : List Int32) (vs : List (Nat × Nat)) (ml : Nat → Nat → Int64) (g : Nat → Nat → Option Nat) (res : Option zC × Nat) (r : Option Value) (w' : zW) : Prop :=
  ∃ m', w' = (zsh ++ vs, m', ml, zmr g) ∧ ((∃ c, res.1 = some c ∧ r = some (.int 1) ∧ TS T mi m' (nI (c.2.2.getD a)) n res.2 (l ++ c.1)) ∨ (res.1 = none ∧ r = some (.int 0) ∧ ∃ a' l', TS T mi m' a' n res.2 l'))
theorem c_clause {E : zEn} {vs : List (Nat × Nat)} {mi : Nat → Nat → Int32} {ml : Nat → Nat → Int64} {g : Nat → Nat → Option Nat} {T : Nat → Int32} {m : Nat → Nat → Int32} {a : Nat} {n p : Nat} {l : List Int32} (H : TS T mi m (nI a) n p l) (hT : tOK T n) (hp : p ≤ n) (hl : l.length ≤ p) : Wp E 20 pg_Text_readsClause 0 (lv_args 0 [.ref 48]) [] (zsh ++ vs, m, ml, (zmr g)) (cQ T mi a n l vs ml g (zcla T n p)) := by
  refine Wp.run 1 (1, [(0, .ref 48)], [.ref 48], (zsh ++ vs, m, ml, (zmr g))) rfl ?_
  refine Wp.call (as := [.ref 48]) (rest := []) rfl rfl rfl rfl rfl (Nat.le_of_ble_eq_true rfl) (Nat.le_of_ble_eq_true rfl) rfl (by decide) (c_next H hT hp) ?_
  rintro _ _ ⟨rfl, rfl⟩
  refine Wp.run 3 (8, [(1, .int (zch T n p)), (0, .ref 48)], [.int 104, .int (zch T n p)], (zsh ++ vs, m, ml, (zmr g))) rfl ?_
  refine Wp.icmp_eq rfl (fun h1 => ?_) (fun h1 => ?_)
  · rw [h1]
    refine Wp.run 6 (64, [(1, .int 104), (0, .ref 48)], [.ref 511, .ref 48], (zsh ++ vs, m, ml, (zmr g))) rfl ?_
    refine Wp.call (as := [.ref 48, .ref 511]) (rest := []) rfl rfl rfl rfl rfl (Nat.le_of_ble_eq_true rfl) (Nat.le_of_ble_eq_true rfl) rfl (by decide) (c_word_1 H hT hp) ?_
    rintro _ _ ⟨m1, rfl, H1, rfl⟩
    rcases hw1 : zwd T n [104, 97, 114, 100, 32] p with ⟨_ | _, q1⟩
    · rw [hw1] at H1
      refine Wp.run 6 (101, [(2, .int (-1)), (1, .int 104), (0, .ref 48)], [.int 0], (zsh ++ vs, m1, ml, (zmr g))) rfl ?_
      refine Wp.ret rfl rfl rfl ?_
      rw [zcla_h h1, zhe_o (zwn_w hw1)]
      exact ⟨_, rfl, Or.inr ⟨rfl, rfl, _, _, H1⟩⟩
    · rw [hw1] at H1
      have hq1 := zwd_le _ _ _ (by decide) hp hw1
      refine Wp.run 2 (71, [(1, .int 104), (0, .ref 48)], [.ref 48], (zsh ++ vs, m1, ml, (zmr g))) rfl ?_
      refine Wp.call (as := [.ref 48]) (rest := []) rfl rfl rfl rfl rfl (Nat.le_of_ble_eq_true rfl) (Nat.le_of_ble_eq_true rfl) rfl (by decide) (c_num H1 hT hq1.2) ?_
      rintro _ _ (⟨hz2, rfl, rfl⟩ | ⟨x2, m2, hz2, rfl, rfl, H2⟩)
      · refine Wp.run 5 (101, [(2, .int (-1)), (1, .int 104), (0, .ref 48)], [.int 0], (zsh ++ vs, m1, ml, (zmr g))) rfl ?_
        refine Wp.ret rfl rfl rfl ?_
        rw [zcla_h h1, zhe_o (zwn_n hw1 hz2)]
        exact ⟨_, rfl, Or.inr ⟨rfl, rfl, _, _, H1⟩⟩
      · have hx2 := znum_ok hz2
        refine Wp.run 3 (80, [(2, .int (nI x2.1)), (1, .int 104), (0, .ref 48)], [.int (nI x2.1)], (zsh ++ vs, m2, ml, (zmr g))) rfl ?_
        refine Wp.if_lt rfl (fun h2 => ?_) (fun h2 => ?_)
        · exact absurd h2 (nI_pos (by omega))
        · refine Wp.run 2 (86, [(2, .int (nI x2.1)), (1, .int 104), (0, .ref 48)], [.int 32, .ref 48], (zsh ++ vs, m2, ml, (zmr g))) rfl ?_
          refine Wp.call (as := [.ref 48, .int 32]) (rest := []) rfl rfl rfl rfl rfl (Nat.le_of_ble_eq_true rfl) (Nat.le_of_ble_eq_true rfl) rfl (by decide) (c_takes H2 hT hx2.2.2 32 (by decide)) ?_
          rintro _ _ (⟨ht3, rfl, m3, rfl, H3⟩ | ⟨ht3, rfl, rfl⟩)
          · have hp3 : x2.2 + 1 ≤ n := zch_lt ht3 (by decide)
            refine Wp.run 3 (94, [(2, .int (nI x2.1)), (1, .int 104), (0, .ref 48)], [.int 0, .ref 48], (zsh ++ vs, m3, ml, (zmr g))) rfl ?_
            refine Wp.call (as := [.ref 48, .int 0]) (rest := []) rfl rfl rfl rfl rfl (Nat.le_of_ble_eq_true rfl) (Nat.le_of_ble_eq_true rfl) rfl (by decide) (c_choice hT (zfac T n 4) (zfac_ok 4) (D := 6 + 2 * 4) (by decide) (c_fac hT 4 0 rfl) H3 hp3 (by omega)) ?_
            rintro _ _ ⟨m4, rfl, hc4⟩
            rcases hr4 : zany T n (zfac T n 4) (x2.2 + 1) with ⟨o4, q4⟩
            rw [hr4] at hc4
            rcases hc4 with ⟨t4, ho4, rfl, H4⟩ | ⟨ho4, rfl, l4, H4⟩
            · cases (show o4 = some t4 from ho4)
              have hg4 := zany_ok (zfac_ok 4) _ _ _ hr4
              refine Wp.run 9 (120, [(2, .int (nI x2.1)), (1, .int 104), (0, .ref 48)], [.int (3000 + (nI x2.1)), .ref 48], (zsh ++ vs, m4, ml, (zmr g))) rfl ?_
              refine Wp.call (as := [.ref 48, .int (3000 + (nI x2.1))]) (rest := []) rfl rfl rfl rfl rfl (Nat.le_of_ble_eq_true rfl) (Nat.le_of_ble_eq_true rfl) rfl (by decide) (c_emit H4 (3000 + (nI x2.1)) (by have := hT.1; have := hg4.1; have := hg4.2.1; rw [leq]; omega)) ?_
              rintro _ _ ⟨rfl, m5, rfl, H5⟩
              refine Wp.run 1 (124, [(2, .int (nI x2.1)), (1, .int 104), (0, .ref 48)], [.int 1], (zsh ++ vs, m5, ml, (zmr g))) rfl ?_
              refine Wp.ret rfl rfl rfl ?_
              rw [zcla_h h1, zhe_y (zwn_y hw1 hz2) ht3 hr4]
              refine ⟨_, rfl, Or.inl ⟨_, rfl, rfl, ?_⟩⟩
              show TS T mi _ (nI a) n q4 (l ++ (t4.1 ++ [3000 + nI x2.1]))
              rw [← List.append_assoc]
              exact H5
            · cases (show o4 = none from ho4)
              refine Wp.run 2 (101, [(2, .int (nI x2.1)), (1, .int 104), (0, .ref 48)], [.int 0], (zsh ++ vs, m4, ml, (zmr g))) rfl ?_
              refine Wp.ret rfl rfl rfl ?_
              rw [zcla_h h1, zhe_f (zwn_y hw1 hz2) ht3 hr4]
              exact ⟨_, rfl, Or.inr ⟨rfl, rfl, _, _, H4⟩⟩
          · refine Wp.run 2 (101, [(2, .int (nI x2.1)), (1, .int 104), (0, .ref 48)], [.int 0], (zsh ++ vs, m2, ml, (zmr g))) rfl ?_
            refine Wp.ret rfl rfl rfl ?_
            rw [zcla_h h1, zhe_s (zwn_y hw1 hz2) ht3]
            exact ⟨_, rfl, Or.inr ⟨rfl, rfl, _, _, H2⟩⟩
  · refine Wp.run 2 (14, [(1, .int (zch T n p)), (0, .ref 48)], [.int 101, .int (zch T n p)], (zsh ++ vs, m, ml, (zmr g))) rfl ?_
    refine Wp.icmp_eq rfl (fun h3 => ?_) (fun h3 => ?_)
    · rw [h3]
      refine Wp.run 5 (64, [(1, .int 101), (0, .ref 48)], [.ref 512, .ref 48], (zsh ++ vs, m, ml, (zmr g))) rfl ?_
      refine Wp.call (as := [.ref 48, .ref 512]) (rest := []) rfl rfl rfl rfl rfl (Nat.le_of_ble_eq_true rfl) (Nat.le_of_ble_eq_true rfl) rfl (by decide) (c_word_2 H hT hp) ?_
      rintro _ _ ⟨m6, rfl, H6, rfl⟩
      rcases hw6 : zwd T n [101, 97, 115, 121, 32] p with ⟨_ | _, q6⟩
      · rw [hw6] at H6
        refine Wp.run 6 (101, [(2, .int (-1)), (1, .int 101), (0, .ref 48)], [.int 0], (zsh ++ vs, m6, ml, (zmr g))) rfl ?_
        refine Wp.ret rfl rfl rfl ?_
        rw [zcla_e h3, zhe_o (zwn_w hw6)]
        exact ⟨_, rfl, Or.inr ⟨rfl, rfl, _, _, H6⟩⟩
      · rw [hw6] at H6
        have hq6 := zwd_le _ _ _ (by decide) hp hw6
        refine Wp.run 2 (71, [(1, .int 101), (0, .ref 48)], [.ref 48], (zsh ++ vs, m6, ml, (zmr g))) rfl ?_
        refine Wp.call (as := [.ref 48]) (rest := []) rfl rfl rfl rfl rfl (Nat.le_of_ble_eq_true rfl) (Nat.le_of_ble_eq_true rfl) rfl (by decide) (c_num H6 hT hq6.2) ?_
        rintro _ _ (⟨hz7, rfl, rfl⟩ | ⟨x7, m7, hz7, rfl, rfl, H7⟩)
        · refine Wp.run 5 (101, [(2, .int (-1)), (1, .int 101), (0, .ref 48)], [.int 0], (zsh ++ vs, m6, ml, (zmr g))) rfl ?_
          refine Wp.ret rfl rfl rfl ?_
          rw [zcla_e h3, zhe_o (zwn_n hw6 hz7)]
          exact ⟨_, rfl, Or.inr ⟨rfl, rfl, _, _, H6⟩⟩
        · have hx7 := znum_ok hz7
          refine Wp.run 3 (80, [(2, .int (nI x7.1)), (1, .int 101), (0, .ref 48)], [.int (nI x7.1)], (zsh ++ vs, m7, ml, (zmr g))) rfl ?_
          refine Wp.if_lt rfl (fun h4 => ?_) (fun h4 => ?_)
          · exact absurd h4 (nI_pos (by omega))
          · refine Wp.run 2 (86, [(2, .int (nI x7.1)), (1, .int 101), (0, .ref 48)], [.int 32, .ref 48], (zsh ++ vs, m7, ml, (zmr g))) rfl ?_
            refine Wp.call (as := [.ref 48, .int 32]) (rest := []) rfl rfl rfl rfl rfl (Nat.le_of_ble_eq_true rfl) (Nat.le_of_ble_eq_true rfl) rfl (by decide) (c_takes H7 hT hx7.2.2 32 (by decide)) ?_
            rintro _ _ (⟨ht8, rfl, m8, rfl, H8⟩ | ⟨ht8, rfl, rfl⟩)
            · have hp8 : x7.2 + 1 ≤ n := zch_lt ht8 (by decide)
              refine Wp.run 3 (94, [(2, .int (nI x7.1)), (1, .int 101), (0, .ref 48)], [.int 0, .ref 48], (zsh ++ vs, m8, ml, (zmr g))) rfl ?_
              refine Wp.call (as := [.ref 48, .int 0]) (rest := []) rfl rfl rfl rfl rfl (Nat.le_of_ble_eq_true rfl) (Nat.le_of_ble_eq_true rfl) rfl (by decide) (c_choice hT (zfac T n 4) (zfac_ok 4) (D := 6 + 2 * 4) (by decide) (c_fac hT 4 0 rfl) H8 hp8 (by omega)) ?_
              rintro _ _ ⟨m9, rfl, hc9⟩
              rcases hr9 : zany T n (zfac T n 4) (x7.2 + 1) with ⟨o9, q9⟩
              rw [hr9] at hc9
              rcases hc9 with ⟨t9, ho9, rfl, H9⟩ | ⟨ho9, rfl, l9, H9⟩
              · cases (show o9 = some t9 from ho9)
                have hg9 := zany_ok (zfac_ok 4) _ _ _ hr9
                refine Wp.run 8 (120, [(2, .int (nI x7.1)), (1, .int 101), (0, .ref 48)], [.int (4000 + (nI x7.1)), .ref 48], (zsh ++ vs, m9, ml, (zmr g))) rfl ?_
                refine Wp.call (as := [.ref 48, .int (4000 + (nI x7.1))]) (rest := []) rfl rfl rfl rfl rfl (Nat.le_of_ble_eq_true rfl) (Nat.le_of_ble_eq_true rfl) rfl (by decide) (c_emit H9 (4000 + (nI x7.1)) (by have := hT.1; have := hg9.1; have := hg9.2.1; rw [leq]; omega)) ?_
                rintro _ _ ⟨rfl, m10, rfl, H10⟩
                refine Wp.run 1 (124, [(2, .int (nI x7.1)), (1, .int 101), (0, .ref 48)], [.int 1], (zsh ++ vs, m10, ml, (zmr g))) rfl ?_
                refine Wp.ret rfl rfl rfl ?_
                rw [zcla_e h3, zhe_y (zwn_y hw6 hz7) ht8 hr9]
                refine ⟨_, rfl, Or.inl ⟨_, rfl, rfl, ?_⟩⟩
                show TS T mi _ (nI a) n q9 (l ++ (t9.1 ++ [4000 + nI x7.1]))
                rw [← List.append_assoc]
                exact H10
              · cases (show o9 = none from ho9)
                refine Wp.run 2 (101, [(2, .int (nI x7.1)), (1, .int 101), (0, .ref 48)], [.int 0], (zsh ++ vs, m9, ml, (zmr g))) rfl ?_
                refine Wp.ret rfl rfl rfl ?_
                rw [zcla_e h3, zhe_f (zwn_y hw6 hz7) ht8 hr9]
                exact ⟨_, rfl, Or.inr ⟨rfl, rfl, _, _, H9⟩⟩
            · refine Wp.run 2 (101, [(2, .int (nI x7.1)), (1, .int 101), (0, .ref 48)], [.int 0], (zsh ++ vs, m7, ml, (zmr g))) rfl ?_
              refine Wp.ret rfl rfl rfl ?_
              rw [zcla_e h3, zhe_s (zwn_y hw6 hz7) ht8]
              exact ⟨_, rfl, Or.inr ⟨rfl, rfl, _, _, H7⟩⟩
    · refine Wp.run 2 (20, [(1, .int (zch T n p)), (0, .ref 48)], [.ref 510, .ref 48], (zsh ++ vs, m, ml, (zmr g))) rfl ?_
      refine Wp.call (as := [.ref 48, .ref 510]) (rest := []) rfl rfl rfl rfl rfl (Nat.le_of_ble_eq_true rfl) (Nat.le_of_ble_eq_true rfl) rfl (by decide) (c_word_0 H hT hp) ?_
      rintro _ _ ⟨m11, rfl, H11, rfl⟩
      rcases hw11 : zwd T n [97, 110, 101, 119, 32] p with ⟨_ | _, q11⟩
      · rw [hw11] at H11
        refine Wp.run 9 (49, [(2, .int (-1)), (1, .int (zch T n p)), (0, .ref 48)], [.int 0], (zsh ++ vs, (zup m11 48 5 (-1)), ml, (zmr g))) rfl ?_
        refine Wp.ret rfl rfl rfl ?_
        rw [zcla_n h1 h3 (zwn_w hw11)]
        exact ⟨_, rfl, Or.inr ⟨rfl, rfl, _, _, H11.anew⟩⟩
      · rw [hw11] at H11
        have hq11 := zwd_le _ _ _ (by decide) hp hw11
        refine Wp.run 2 (27, [(1, .int (zch T n p)), (0, .ref 48)], [.ref 48], (zsh ++ vs, m11, ml, (zmr g))) rfl ?_
        refine Wp.call (as := [.ref 48]) (rest := []) rfl rfl rfl rfl rfl (Nat.le_of_ble_eq_true rfl) (Nat.le_of_ble_eq_true rfl) rfl (by decide) (c_num H11 hT hq11.2) ?_
        rintro _ _ (⟨hz12, rfl, rfl⟩ | ⟨x12, m12, hz12, rfl, rfl, H12⟩)
        · refine Wp.run 8 (49, [(2, .int (-1)), (1, .int (zch T n p)), (0, .ref 48)], [.int 0], (zsh ++ vs, (zup m11 48 5 (-1)), ml, (zmr g))) rfl ?_
          refine Wp.ret rfl rfl rfl ?_
          rw [zcla_n h1 h3 (zwn_n hw11 hz12)]
          exact ⟨_, rfl, Or.inr ⟨rfl, rfl, _, _, H11.anew⟩⟩
        · have hx12 := znum_ok hz12
          refine Wp.run 6 (41, [(2, .int (nI x12.1)), (1, .int (zch T n p)), (0, .ref 48)], [.int (nI x12.1)], (zsh ++ vs, (zup m12 48 5 (nI x12.1)), ml, (zmr g))) rfl ?_
          refine Wp.if_lt rfl (fun h5 => ?_) (fun h5 => ?_)
          · exact absurd h5 (nI_pos (by omega))
          · refine Wp.run 2 (49, [(2, .int (nI x12.1)), (1, .int (zch T n p)), (0, .ref 48)], [.int 1], (zsh ++ vs, (zup m12 48 5 (nI x12.1)), ml, (zmr g))) rfl ?_
            refine Wp.ret rfl rfl rfl ?_
            rw [zcla_y h1 h3 (zwn_y hw11 hz12)]
            refine ⟨_, rfl, Or.inl ⟨_, rfl, rfl, ?_⟩⟩
            show TS T mi _ (nI x12.1) n x12.2 (l ++ [])
            rw [List.append_nil]
            exact H12.anew
