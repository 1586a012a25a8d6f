/-! THE CALLS: choir -/
theorem sg_iff {q : Nat} (hq : q < 256) {S : Int32} : nI q &&& (S ^^^ -1) = 0 ↔ ∀ p, p < 8 → bt (nI q) p = true → bt S p = true := by
  constructor
  · intro h p hp hx
    have z : bt (nI q &&& (S ^^^ -1)) p = false := by rw [h, b_0]
    rw [b_and, bt_not _ (by omega), hx, Bool.true_and] at z
    cases hs : bt S p with
    | true => rfl
    | false => rw [hs] at z; cases z
  · intro h
    refine b_ext (fun i hi => ?_)
    rw [b_and, bt_not _ hi, b_0]
    by_cases h8 : i < 8
    · cases hx : bt (nI q) i with
      | false => rfl
      | true => rw [h i h8 hx]; rfl
    · rw [bt_hi q hq i (by omega) hi]; rfl
theorem cn_eq {s : Int32} {H : Nat → Int32} {p : Nat} (hp : p < 32) : ∀ n, n < 32 → zsum (fun i => if s >>> (nI i &&& 31) &&& 1 = 1 ∧ H i >>> (nI p &&& 31) &&& 1 = 1 then 1 else 0) n = nI (cntN (sungF s H) p n)
  | 0, _ => rfl
  | n + 1, hn => by
    rw [zsum, cntN, cn_eq hp n (by omega)]
    by_cases h4 : s >>> (nI n &&& 31) &&& 1 = 1
    · have e : sungF s H n = H n := if_pos h4
      by_cases h1 : bt (H n) p = true
      · rw [if_pos ⟨h4, (bit1_one _ hp).mpr h1⟩, e, if_pos h1, nI_1]
      · rw [if_neg (fun q => h1 ((bit1_one _ hp).mp q.2)), e, if_neg h1, Nat.add_zero]
        exact Int32.add_zero _
    · have e : sungF s H n = 0 := if_neg h4
      rw [if_neg (fun q => h4 q.1), e, b_0, if_neg (by decide), Nat.add_zero]
      exact Int32.add_zero _
theorem shl1 : ∀ n, n < 7 → (1 : Int32) <<< (nI n &&& 31) = nI (2 ^ n) := by decide +kernel
theorem pw6 {n : Nat} (h : n ≤ 6) : 2 ^ n ≤ 64 := (Nat.pow_le_pow_right (by decide) h : 2 ^ n ≤ 2 ^ 6)
/-- the best of the first so many sets -/
noncomputable def chR (ok : Nat → Prop) : Nat → Int32
  | 0 => -5
  | j + 1 => @ite Int32 ((chR ok j = -5 ∨ zmany (nI j) < zmany (chR ok j)) ∧ ok j) (Classical.propDecidable _) (nI j) (chR ok j)
theorem chR_y {ok : Nat → Prop} {j : Nat} (h : (chR ok j = -5 ∨ zmany (nI j) < zmany (chR ok j)) ∧ ok j) : chR ok (j + 1) = nI j := if_pos h
theorem chR_n {ok : Nat → Prop} {j : Nat} (h : ¬ ((chR ok j = -5 ∨ zmany (nI j) < zmany (chR ok j)) ∧ ok j)) : chR ok (j + 1) = chR ok j := if_neg h
theorem chR_rng {ok : Nat → Prop} : ∀ j, chR ok j = -5 ∨ ∃ b, b < j ∧ chR ok j = nI b
  | 0 => Or.inl rfl
  | j + 1 => by
    by_cases h : (chR ok j = -5 ∨ zmany (nI j) < zmany (chR ok j)) ∧ ok j
    · rw [chR_y h]; exact Or.inr ⟨j, by omega, rfl⟩
    · rw [chR_n h]
      rcases chR_rng (ok := ok) j with e | ⟨b, hb, e⟩
      · exact Or.inl e
      · exact Or.inr ⟨b, by omega, e⟩
theorem chR_bc {ok : Nat → Prop} {j : Nat} (hj : j ≤ 64) (h : ¬ chR ok j = -5) : zbc (chR ok j) = zmany (chR ok j) := by
  rcases chR_rng (ok := ok) j with e | ⟨b, hb, e⟩
  · exact absurd e h
  · rw [e]; exact zbc_256 b (by omega)
abbrev okC (S : Nat → Int32) (x ab : Int32) (j : Nat) : Prop := nI j &&& ab = 0 ∧ x &&& (S j ^^^ -1) = 0
theorem c_few_l0 {E : zEn} {vs : List (Nat × Nat)} {mi : Nat → Nat → Int32} {ml : Nat → Nat → Int64} {g : Nat → Nat → Option Nat} {x : Int32} {n : Nat} (hn : mi 1 0 = nI n) (h6 : n ≤ 6) : ∀ (k j : Nat), j + k = 2 ^ n → Wp E 2 pg_Band_fewest 6 [(0, .ref 1), (1, .int x), (2, .int 0), (3, .int (chR (okC (fun j => zor (sungF (nI j) (mi 5)) n) x (mi 1 2)) j)), (4, .int (nI j))] [] (zsh ++ vs, mi, ml, zmr g) (fun r w' => r = some (.int (chR (okC (fun j => zor (sungF (nI j) (mi 5)) n) x (mi 1 2)) (2 ^ n))) ∧ w' = (zsh ++ vs, mi, ml, zmr g)) := by
  have hM := pw6 h6
  intro k
  induction k with
  | zero =>
    intro j hj
    have ej : j = 2 ^ n := by omega
    rw [ej]
    refine Wp.run 4 (13, [(0, .ref 1), (1, .int x), (2, .int 0), (3, .int (chR (okC (fun j => zor (sungF (nI j) (mi 5)) n) x (mi 1 2)) (2 ^ n))), (4, .int (nI (2 ^ n)))], [.int (mi 1 0), .int 1, .int (nI (2 ^ n))], (zsh ++ vs, mi, ml, (zmr g))) rfl ?_
    refine Wp.topi (y := nI n) (hn) ?_
    refine Wp.run 1 (14, [(0, .ref 1), (1, .int x), (2, .int 0), (3, .int (chR (okC (fun j => zor (sungF (nI j) (mi 5)) n) x (mi 1 2)) (2 ^ n))), (4, .int (nI (2 ^ n)))], [.int ((1 : Int32) <<< ((nI n) &&& 31)), .int (nI (2 ^ n))], (zsh ++ vs, mi, ml, (zmr g))) rfl ?_
    refine Wp.topi (y := nI (2 ^ n)) (shl1 n (by omega)) ?_
    refine Wp.run 0 (14, [(0, .ref 1), (1, .int x), (2, .int 0), (3, .int (chR (okC (fun j => zor (sungF (nI j) (mi 5)) n) x (mi 1 2)) (2 ^ n))), (4, .int (nI (2 ^ n)))], [.int (nI (2 ^ n)), .int (nI (2 ^ n))], (zsh ++ vs, mi, ml, (zmr g))) rfl ?_
    refine Wp.icmp_ge rfl (fun h21 => ?_) (fun h21 => ?_)
    · refine Wp.run 1 (81, [(0, .ref 1), (1, .int x), (2, .int 0), (3, .int (chR (okC (fun j => zor (sungF (nI j) (mi 5)) n) x (mi 1 2)) (2 ^ n))), (4, .int (nI (2 ^ n)))], [.int (chR (okC (fun j => zor (sungF (nI j) (mi 5)) n) x (mi 1 2)) (2 ^ n))], (zsh ++ vs, mi, ml, (zmr g))) rfl ?_
      refine Wp.ret rfl rfl rfl ?_
      exact ⟨rfl, rfl⟩
    · exact absurd (Int32.le_refl _) h21
  | succ k ih =>
    intro j hj
    refine Wp.run 4 (13, [(0, .ref 1), (1, .int x), (2, .int 0), (3, .int (chR (okC (fun j => zor (sungF (nI j) (mi 5)) n) x (mi 1 2)) j)), (4, .int (nI j))], [.int (mi 1 0), .int 1, .int (nI j)], (zsh ++ vs, mi, ml, (zmr g))) rfl ?_
    refine Wp.topi (y := nI n) (hn) ?_
    refine Wp.run 1 (14, [(0, .ref 1), (1, .int x), (2, .int 0), (3, .int (chR (okC (fun j => zor (sungF (nI j) (mi 5)) n) x (mi 1 2)) j)), (4, .int (nI j))], [.int ((1 : Int32) <<< ((nI n) &&& 31)), .int (nI j)], (zsh ++ vs, mi, ml, (zmr g))) rfl ?_
    refine Wp.topi (y := nI (2 ^ n)) (shl1 n (by omega)) ?_
    refine Wp.run 0 (14, [(0, .ref 1), (1, .int x), (2, .int 0), (3, .int (chR (okC (fun j => zor (sungF (nI j) (mi 5)) n) x (mi 1 2)) j)), (4, .int (nI j))], [.int (nI (2 ^ n)), .int (nI j)], (zsh ++ vs, mi, ml, (zmr g))) rfl ?_
    refine Wp.icmp_ge rfl (fun h21 => ?_) (fun h21 => ?_)
    · exact absurd h21 (nI_ge (b := 2 ^ n) (by omega) (by omega))
    · refine Wp.run 2 (20, [(0, .ref 1), (1, .int x), (2, .int 0), (3, .int (chR (okC (fun j => zor (sungF (nI j) (mi 5)) n) x (mi 1 2)) j)), (4, .int (nI j))], [.int (-5), .int (chR (okC (fun j => zor (sungF (nI j) (mi 5)) n) x (mi 1 2)) j)], (zsh ++ vs, mi, ml, (zmr g))) rfl ?_
      refine Wp.icmp_eq rfl (fun h22 => ?_) (fun h22 => ?_)
      · refine Wp.run 9 (54, [(5, .int 1), (0, .ref 1), (1, .int x), (2, .int 0), (3, .int (chR (okC (fun j => zor (sungF (nI j) (mi 5)) n) x (mi 1 2)) j)), (4, .int (nI j))], [.int ((nI j) &&& (mi 1 2))], (zsh ++ vs, mi, ml, (zmr g))) rfl ?_
        refine Wp.if_ne rfl (fun h23 => ?_) (fun h23 => ?_)
        · refine Wp.run 2 (6, [(4, .int ((nI j) + 1)), (5, .int 1), (0, .ref 1), (1, .int x), (2, .int 0), (3, .int (chR (okC (fun j => zor (sungF (nI j) (mi 5)) n) x (mi 1 2)) j))], [], (zsh ++ vs, mi, ml, (zmr g))) rfl ?_
          have e9 : chR (okC (fun j => zor (sungF (nI j) (mi 5)) n) x (mi 1 2)) (j + 1) = chR (okC (fun j => zor (sungF (nI j) (mi 5)) n) x (mi 1 2)) j := chR_n (fun z => h23 z.2.1)
          rw [nI_1]
          refine Wp.sub (a := [(0, .ref 1), (1, .int x), (2, .int 0), (3, .int (chR (okC (fun j => zor (sungF (nI j) (mi 5)) n) x (mi 1 2)) (j + 1))), (4, .int (nI (j + 1)))]) (zle_cons rfl (zle_cons rfl (zle_cons rfl (zle_cons (by rw [e9]; rfl) (zle_cons rfl zle_nil))))) ?_
          exact ih (j + 1) (by omega)
        · refine Wp.run 4 (62, [(5, .int 1), (0, .ref 1), (1, .int x), (2, .int 0), (3, .int (chR (okC (fun j => zor (sungF (nI j) (mi 5)) n) x (mi 1 2)) j)), (4, .int (nI j))], [.int 0, .int (nI j), .ref 1, .int x], (zsh ++ vs, mi, ml, (zmr g))) rfl ?_
          refine Wp.call (as := [.ref 1, .int (nI j), .int 0]) (rest := [.int x]) rfl rfl rfl rfl rfl (Nat.le_of_ble_eq_true rfl) (Nat.le_of_ble_eq_true rfl) rfl (by decide) (c_sungBy0_1 (nI j) hn h6) ?_
          rintro _ _ ⟨rfl, rfl⟩
          refine Wp.run 3 (68, [(5, .int 1), (0, .ref 1), (1, .int x), (2, .int 0), (3, .int (chR (okC (fun j => zor (sungF (nI j) (mi 5)) n) x (mi 1 2)) j)), (4, .int (nI j))], [.int (x &&& ((zor (sungF (nI j) (mi 5)) n) ^^^ (-1)))], (zsh ++ vs, mi, ml, (zmr g))) rfl ?_
          refine Wp.if_ne rfl (fun h24 => ?_) (fun h24 => ?_)
          · refine Wp.run 2 (6, [(4, .int ((nI j) + 1)), (5, .int 1), (0, .ref 1), (1, .int x), (2, .int 0), (3, .int (chR (okC (fun j => zor (sungF (nI j) (mi 5)) n) x (mi 1 2)) j))], [], (zsh ++ vs, mi, ml, (zmr g))) rfl ?_
            have e9 : chR (okC (fun j => zor (sungF (nI j) (mi 5)) n) x (mi 1 2)) (j + 1) = chR (okC (fun j => zor (sungF (nI j) (mi 5)) n) x (mi 1 2)) j := chR_n (fun z => h24 z.2.2)
            rw [nI_1]
            refine Wp.sub (a := [(0, .ref 1), (1, .int x), (2, .int 0), (3, .int (chR (okC (fun j => zor (sungF (nI j) (mi 5)) n) x (mi 1 2)) (j + 1))), (4, .int (nI (j + 1)))]) (zle_cons rfl (zle_cons rfl (zle_cons rfl (zle_cons (by rw [e9]; rfl) (zle_cons rfl zle_nil))))) ?_
            exact ih (j + 1) (by omega)
          · refine Wp.run 4 (6, [(4, .int ((nI j) + 1)), (3, .int (nI j)), (5, .int 1), (0, .ref 1), (1, .int x), (2, .int 0)], [], (zsh ++ vs, mi, ml, (zmr g))) rfl ?_
            have e9 : chR (okC (fun j => zor (sungF (nI j) (mi 5)) n) x (mi 1 2)) (j + 1) = nI j := chR_y ⟨Or.inl h22, h23, h24⟩
            rw [nI_1]
            refine Wp.sub (a := [(0, .ref 1), (1, .int x), (2, .int 0), (3, .int (chR (okC (fun j => zor (sungF (nI j) (mi 5)) n) x (mi 1 2)) (j + 1))), (4, .int (nI (j + 1)))]) (zle_cons rfl (zle_cons rfl (zle_cons rfl (zle_cons (by rw [e9]; rfl) (zle_cons rfl zle_nil))))) ?_
            exact ih (j + 1) (by omega)
      · refine Wp.run 1 (25, [(0, .ref 1), (1, .int x), (2, .int 0), (3, .int (chR (okC (fun j => zor (sungF (nI j) (mi 5)) n) x (mi 1 2)) j)), (4, .int (nI j))], [.int (nI j)], (zsh ++ vs, mi, ml, (zmr g))) rfl ?_
        refine Wp.call (as := [.int (nI j)]) (rest := []) rfl rfl rfl rfl rfl (Nat.le_of_ble_eq_true rfl) (Nat.le_of_ble_eq_true rfl) rfl (by decide) (c_bitCount (nI j)) ?_
        rintro _ _ ⟨rfl, rfl⟩
        refine Wp.run 1 (29, [(0, .ref 1), (1, .int x), (2, .int 0), (3, .int (chR (okC (fun j => zor (sungF (nI j) (mi 5)) n) x (mi 1 2)) j)), (4, .int (nI j))], [.int (chR (okC (fun j => zor (sungF (nI j) (mi 5)) n) x (mi 1 2)) j), .int (zbc (nI j))], (zsh ++ vs, mi, ml, (zmr g))) rfl ?_
        refine Wp.call (as := [.int (chR (okC (fun j => zor (sungF (nI j) (mi 5)) n) x (mi 1 2)) j)]) (rest := [.int (zbc (nI j))]) rfl rfl rfl rfl rfl (Nat.le_of_ble_eq_true rfl) (Nat.le_of_ble_eq_true rfl) rfl (by decide) (c_bitCount (chR (okC (fun j => zor (sungF (nI j) (mi 5)) n) x (mi 1 2)) j)) ?_
        rintro _ _ ⟨rfl, rfl⟩
        refine Wp.run 0 (32, [(0, .ref 1), (1, .int x), (2, .int 0), (3, .int (chR (okC (fun j => zor (sungF (nI j) (mi 5)) n) x (mi 1 2)) j)), (4, .int (nI j))], [.int (zbc (chR (okC (fun j => zor (sungF (nI j) (mi 5)) n) x (mi 1 2)) j)), .int (zbc (nI j))], (zsh ++ vs, mi, ml, (zmr g))) rfl ?_
        refine Wp.icmp_ge rfl (fun h25 => ?_) (fun h25 => ?_)
        · refine Wp.run 6 (6, [(4, .int ((nI j) + 1)), (5, .int 0), (0, .ref 1), (1, .int x), (2, .int 0), (3, .int (chR (okC (fun j => zor (sungF (nI j) (mi 5)) n) x (mi 1 2)) j))], [], (zsh ++ vs, mi, ml, (zmr g))) rfl ?_
          have e9 : chR (okC (fun j => zor (sungF (nI j) (mi 5)) n) x (mi 1 2)) (j + 1) = chR (okC (fun j => zor (sungF (nI j) (mi 5)) n) x (mi 1 2)) j := chR_n (fun z => z.1.elim h22 (fun y => Int32.not_lt.mpr (by rw [← chR_bc (by omega) h22, ← zbc_256 j (by omega)]; exact h25) y))
          rw [nI_1]
          refine Wp.sub (a := [(0, .ref 1), (1, .int x), (2, .int 0), (3, .int (chR (okC (fun j => zor (sungF (nI j) (mi 5)) n) x (mi 1 2)) (j + 1))), (4, .int (nI (j + 1)))]) (zle_cons rfl (zle_cons rfl (zle_cons rfl (zle_cons (by rw [e9]; rfl) (zle_cons rfl zle_nil))))) ?_
          exact ih (j + 1) (by omega)
        · refine Wp.run 9 (54, [(5, .int 1), (0, .ref 1), (1, .int x), (2, .int 0), (3, .int (chR (okC (fun j => zor (sungF (nI j) (mi 5)) n) x (mi 1 2)) j)), (4, .int (nI j))], [.int ((nI j) &&& (mi 1 2))], (zsh ++ vs, mi, ml, (zmr g))) rfl ?_
          refine Wp.if_ne rfl (fun h26 => ?_) (fun h26 => ?_)
          · refine Wp.run 2 (6, [(4, .int ((nI j) + 1)), (5, .int 1), (0, .ref 1), (1, .int x), (2, .int 0), (3, .int (chR (okC (fun j => zor (sungF (nI j) (mi 5)) n) x (mi 1 2)) j))], [], (zsh ++ vs, mi, ml, (zmr g))) rfl ?_
            have e9 : chR (okC (fun j => zor (sungF (nI j) (mi 5)) n) x (mi 1 2)) (j + 1) = chR (okC (fun j => zor (sungF (nI j) (mi 5)) n) x (mi 1 2)) j := chR_n (fun z => h26 z.2.1)
            rw [nI_1]
            refine Wp.sub (a := [(0, .ref 1), (1, .int x), (2, .int 0), (3, .int (chR (okC (fun j => zor (sungF (nI j) (mi 5)) n) x (mi 1 2)) (j + 1))), (4, .int (nI (j + 1)))]) (zle_cons rfl (zle_cons rfl (zle_cons rfl (zle_cons (by rw [e9]; rfl) (zle_cons rfl zle_nil))))) ?_
            exact ih (j + 1) (by omega)
          · refine Wp.run 4 (62, [(5, .int 1), (0, .ref 1), (1, .int x), (2, .int 0), (3, .int (chR (okC (fun j => zor (sungF (nI j) (mi 5)) n) x (mi 1 2)) j)), (4, .int (nI j))], [.int 0, .int (nI j), .ref 1, .int x], (zsh ++ vs, mi, ml, (zmr g))) rfl ?_
            refine Wp.call (as := [.ref 1, .int (nI j), .int 0]) (rest := [.int x]) rfl rfl rfl rfl rfl (Nat.le_of_ble_eq_true rfl) (Nat.le_of_ble_eq_true rfl) rfl (by decide) (c_sungBy0_1 (nI j) hn h6) ?_
            rintro _ _ ⟨rfl, rfl⟩
            refine Wp.run 3 (68, [(5, .int 1), (0, .ref 1), (1, .int x), (2, .int 0), (3, .int (chR (okC (fun j => zor (sungF (nI j) (mi 5)) n) x (mi 1 2)) j)), (4, .int (nI j))], [.int (x &&& ((zor (sungF (nI j) (mi 5)) n) ^^^ (-1)))], (zsh ++ vs, mi, ml, (zmr g))) rfl ?_
            refine Wp.if_ne rfl (fun h27 => ?_) (fun h27 => ?_)
            · refine Wp.run 2 (6, [(4, .int ((nI j) + 1)), (5, .int 1), (0, .ref 1), (1, .int x), (2, .int 0), (3, .int (chR (okC (fun j => zor (sungF (nI j) (mi 5)) n) x (mi 1 2)) j))], [], (zsh ++ vs, mi, ml, (zmr g))) rfl ?_
              have e9 : chR (okC (fun j => zor (sungF (nI j) (mi 5)) n) x (mi 1 2)) (j + 1) = chR (okC (fun j => zor (sungF (nI j) (mi 5)) n) x (mi 1 2)) j := chR_n (fun z => h27 z.2.2)
              rw [nI_1]
              refine Wp.sub (a := [(0, .ref 1), (1, .int x), (2, .int 0), (3, .int (chR (okC (fun j => zor (sungF (nI j) (mi 5)) n) x (mi 1 2)) (j + 1))), (4, .int (nI (j + 1)))]) (zle_cons rfl (zle_cons rfl (zle_cons rfl (zle_cons (by rw [e9]; rfl) (zle_cons rfl zle_nil))))) ?_
              exact ih (j + 1) (by omega)
            · refine Wp.run 4 (6, [(4, .int ((nI j) + 1)), (3, .int (nI j)), (5, .int 1), (0, .ref 1), (1, .int x), (2, .int 0)], [], (zsh ++ vs, mi, ml, (zmr g))) rfl ?_
              have e9 : chR (okC (fun j => zor (sungF (nI j) (mi 5)) n) x (mi 1 2)) (j + 1) = nI j := chR_y ⟨Or.inr (by rw [← chR_bc (by omega) h22, ← zbc_256 j (by omega)]; exact Int32.not_le.mp h25), h26, h27⟩
              rw [nI_1]
              refine Wp.sub (a := [(0, .ref 1), (1, .int x), (2, .int 0), (3, .int (chR (okC (fun j => zor (sungF (nI j) (mi 5)) n) x (mi 1 2)) (j + 1))), (4, .int (nI (j + 1)))]) (zle_cons rfl (zle_cons rfl (zle_cons rfl (zle_cons (by rw [e9]; rfl) (zle_cons rfl zle_nil))))) ?_
              exact ih (j + 1) (by omega)
theorem c_few0 {E : zEn} {vs : List (Nat × Nat)} {mi : Nat → Nat → Int32} {ml : Nat → Nat → Int64} {g : Nat → Nat → Option Nat} {x : Int32} {n : Nat} (hn : mi 1 0 = nI n) (h6 : n ≤ 6) : Wp E 2 pg_Band_fewest 0 (lv_args 0 [.ref 1, .int x, .int 0]) [] (zsh ++ vs, mi, ml, (zmr g)) (fun r w' => r = some (.int (chR (okC (fun j => zor (sungF (nI j) (mi 5)) n) x (mi 1 2)) (2 ^ n))) ∧ w' = (zsh ++ vs, mi, ml, zmr g)) := by
  refine Wp.run 4 (6, [(4, .int 0), (3, .int (-5)), (0, .ref 1), (1, .int x), (2, .int 0)], [], (zsh ++ vs, mi, ml, (zmr g))) rfl ?_
  refine Wp.sub (a := [(0, .ref 1), (1, .int x), (2, .int 0), (3, .int (chR (okC (fun j => zor (sungF (nI j) (mi 5)) n) x (mi 1 2)) 0)), (4, .int (nI 0))]) (zle_cons rfl (zle_cons rfl (zle_cons rfl (zle_cons rfl (zle_cons rfl (zle_nil)))))) ?_
  exact c_few_l0 hn h6 (2 ^ n) 0 (by omega)
theorem c_few_l1 {E : zEn} {vs : List (Nat × Nat)} {mi : Nat → Nat → Int32} {ml : Nat → Nat → Int64} {g : Nat → Nat → Option Nat} {x : Int32} {n : Nat} (hn : mi 1 0 = nI n) (h6 : n ≤ 6) : ∀ (k j : Nat), j + k = 2 ^ n → Wp E 2 pg_Band_fewest 6 [(0, .ref 1), (1, .int x), (2, .int 1), (3, .int (chR (okC (fun j => ztw (sungF (nI j) (mi 5)) n) x (mi 1 2)) j)), (4, .int (nI j))] [] (zsh ++ vs, mi, ml, zmr g) (fun r w' => r = some (.int (chR (okC (fun j => ztw (sungF (nI j) (mi 5)) n) x (mi 1 2)) (2 ^ n))) ∧ w' = (zsh ++ vs, mi, ml, zmr g)) := by
  have hM := pw6 h6
  intro k
  induction k with
  | zero =>
    intro j hj
    have ej : j = 2 ^ n := by omega
    rw [ej]
    refine Wp.run 4 (13, [(0, .ref 1), (1, .int x), (2, .int 1), (3, .int (chR (okC (fun j => ztw (sungF (nI j) (mi 5)) n) x (mi 1 2)) (2 ^ n))), (4, .int (nI (2 ^ n)))], [.int (mi 1 0), .int 1, .int (nI (2 ^ n))], (zsh ++ vs, mi, ml, (zmr g))) rfl ?_
    refine Wp.topi (y := nI n) (hn) ?_
    refine Wp.run 1 (14, [(0, .ref 1), (1, .int x), (2, .int 1), (3, .int (chR (okC (fun j => ztw (sungF (nI j) (mi 5)) n) x (mi 1 2)) (2 ^ n))), (4, .int (nI (2 ^ n)))], [.int ((1 : Int32) <<< ((nI n) &&& 31)), .int (nI (2 ^ n))], (zsh ++ vs, mi, ml, (zmr g))) rfl ?_
    refine Wp.topi (y := nI (2 ^ n)) (shl1 n (by omega)) ?_
    refine Wp.run 0 (14, [(0, .ref 1), (1, .int x), (2, .int 1), (3, .int (chR (okC (fun j => ztw (sungF (nI j) (mi 5)) n) x (mi 1 2)) (2 ^ n))), (4, .int (nI (2 ^ n)))], [.int (nI (2 ^ n)), .int (nI (2 ^ n))], (zsh ++ vs, mi, ml, (zmr g))) rfl ?_
    refine Wp.icmp_ge rfl (fun h21 => ?_) (fun h21 => ?_)
    · refine Wp.run 1 (81, [(0, .ref 1), (1, .int x), (2, .int 1), (3, .int (chR (okC (fun j => ztw (sungF (nI j) (mi 5)) n) x (mi 1 2)) (2 ^ n))), (4, .int (nI (2 ^ n)))], [.int (chR (okC (fun j => ztw (sungF (nI j) (mi 5)) n) x (mi 1 2)) (2 ^ n))], (zsh ++ vs, mi, ml, (zmr g))) rfl ?_
      refine Wp.ret rfl rfl rfl ?_
      exact ⟨rfl, rfl⟩
    · exact absurd (Int32.le_refl _) h21
  | succ k ih =>
    intro j hj
    refine Wp.run 4 (13, [(0, .ref 1), (1, .int x), (2, .int 1), (3, .int (chR (okC (fun j => ztw (sungF (nI j) (mi 5)) n) x (mi 1 2)) j)), (4, .int (nI j))], [.int (mi 1 0), .int 1, .int (nI j)], (zsh ++ vs, mi, ml, (zmr g))) rfl ?_
    refine Wp.topi (y := nI n) (hn) ?_
    refine Wp.run 1 (14, [(0, .ref 1), (1, .int x), (2, .int 1), (3, .int (chR (okC (fun j => ztw (sungF (nI j) (mi 5)) n) x (mi 1 2)) j)), (4, .int (nI j))], [.int ((1 : Int32) <<< ((nI n) &&& 31)), .int (nI j)], (zsh ++ vs, mi, ml, (zmr g))) rfl ?_
    refine Wp.topi (y := nI (2 ^ n)) (shl1 n (by omega)) ?_
    refine Wp.run 0 (14, [(0, .ref 1), (1, .int x), (2, .int 1), (3, .int (chR (okC (fun j => ztw (sungF (nI j) (mi 5)) n) x (mi 1 2)) j)), (4, .int (nI j))], [.int (nI (2 ^ n)), .int (nI j)], (zsh ++ vs, mi, ml, (zmr g))) rfl ?_
    refine Wp.icmp_ge rfl (fun h21 => ?_) (fun h21 => ?_)
    · exact absurd h21 (nI_ge (b := 2 ^ n) (by omega) (by omega))
    · refine Wp.run 2 (20, [(0, .ref 1), (1, .int x), (2, .int 1), (3, .int (chR (okC (fun j => ztw (sungF (nI j) (mi 5)) n) x (mi 1 2)) j)), (4, .int (nI j))], [.int (-5), .int (chR (okC (fun j => ztw (sungF (nI j) (mi 5)) n) x (mi 1 2)) j)], (zsh ++ vs, mi, ml, (zmr g))) rfl ?_
      refine Wp.icmp_eq rfl (fun h22 => ?_) (fun h22 => ?_)
      · refine Wp.run 9 (54, [(5, .int 1), (0, .ref 1), (1, .int x), (2, .int 1), (3, .int (chR (okC (fun j => ztw (sungF (nI j) (mi 5)) n) x (mi 1 2)) j)), (4, .int (nI j))], [.int ((nI j) &&& (mi 1 2))], (zsh ++ vs, mi, ml, (zmr g))) rfl ?_
        refine Wp.if_ne rfl (fun h23 => ?_) (fun h23 => ?_)
        · refine Wp.run 2 (6, [(4, .int ((nI j) + 1)), (5, .int 1), (0, .ref 1), (1, .int x), (2, .int 1), (3, .int (chR (okC (fun j => ztw (sungF (nI j) (mi 5)) n) x (mi 1 2)) j))], [], (zsh ++ vs, mi, ml, (zmr g))) rfl ?_
          have e9 : chR (okC (fun j => ztw (sungF (nI j) (mi 5)) n) x (mi 1 2)) (j + 1) = chR (okC (fun j => ztw (sungF (nI j) (mi 5)) n) x (mi 1 2)) j := chR_n (fun z => h23 z.2.1)
          rw [nI_1]
          refine Wp.sub (a := [(0, .ref 1), (1, .int x), (2, .int 1), (3, .int (chR (okC (fun j => ztw (sungF (nI j) (mi 5)) n) x (mi 1 2)) (j + 1))), (4, .int (nI (j + 1)))]) (zle_cons rfl (zle_cons rfl (zle_cons rfl (zle_cons (by rw [e9]; rfl) (zle_cons rfl zle_nil))))) ?_
          exact ih (j + 1) (by omega)
        · refine Wp.run 4 (62, [(5, .int 1), (0, .ref 1), (1, .int x), (2, .int 1), (3, .int (chR (okC (fun j => ztw (sungF (nI j) (mi 5)) n) x (mi 1 2)) j)), (4, .int (nI j))], [.int 1, .int (nI j), .ref 1, .int x], (zsh ++ vs, mi, ml, (zmr g))) rfl ?_
          refine Wp.call (as := [.ref 1, .int (nI j), .int 1]) (rest := [.int x]) rfl rfl rfl rfl rfl (Nat.le_of_ble_eq_true rfl) (Nat.le_of_ble_eq_true rfl) rfl (by decide) (c_sungBy1_1 (nI j) hn h6) ?_
          rintro _ _ ⟨rfl, rfl⟩
          refine Wp.run 3 (68, [(5, .int 1), (0, .ref 1), (1, .int x), (2, .int 1), (3, .int (chR (okC (fun j => ztw (sungF (nI j) (mi 5)) n) x (mi 1 2)) j)), (4, .int (nI j))], [.int (x &&& ((ztw (sungF (nI j) (mi 5)) n) ^^^ (-1)))], (zsh ++ vs, mi, ml, (zmr g))) rfl ?_
          refine Wp.if_ne rfl (fun h24 => ?_) (fun h24 => ?_)
          · refine Wp.run 2 (6, [(4, .int ((nI j) + 1)), (5, .int 1), (0, .ref 1), (1, .int x), (2, .int 1), (3, .int (chR (okC (fun j => ztw (sungF (nI j) (mi 5)) n) x (mi 1 2)) j))], [], (zsh ++ vs, mi, ml, (zmr g))) rfl ?_
            have e9 : chR (okC (fun j => ztw (sungF (nI j) (mi 5)) n) x (mi 1 2)) (j + 1) = chR (okC (fun j => ztw (sungF (nI j) (mi 5)) n) x (mi 1 2)) j := chR_n (fun z => h24 z.2.2)
            rw [nI_1]
            refine Wp.sub (a := [(0, .ref 1), (1, .int x), (2, .int 1), (3, .int (chR (okC (fun j => ztw (sungF (nI j) (mi 5)) n) x (mi 1 2)) (j + 1))), (4, .int (nI (j + 1)))]) (zle_cons rfl (zle_cons rfl (zle_cons rfl (zle_cons (by rw [e9]; rfl) (zle_cons rfl zle_nil))))) ?_
            exact ih (j + 1) (by omega)
          · refine Wp.run 4 (6, [(4, .int ((nI j) + 1)), (3, .int (nI j)), (5, .int 1), (0, .ref 1), (1, .int x), (2, .int 1)], [], (zsh ++ vs, mi, ml, (zmr g))) rfl ?_
            have e9 : chR (okC (fun j => ztw (sungF (nI j) (mi 5)) n) x (mi 1 2)) (j + 1) = nI j := chR_y ⟨Or.inl h22, h23, h24⟩
            rw [nI_1]
            refine Wp.sub (a := [(0, .ref 1), (1, .int x), (2, .int 1), (3, .int (chR (okC (fun j => ztw (sungF (nI j) (mi 5)) n) x (mi 1 2)) (j + 1))), (4, .int (nI (j + 1)))]) (zle_cons rfl (zle_cons rfl (zle_cons rfl (zle_cons (by rw [e9]; rfl) (zle_cons rfl zle_nil))))) ?_
            exact ih (j + 1) (by omega)
      · refine Wp.run 1 (25, [(0, .ref 1), (1, .int x), (2, .int 1), (3, .int (chR (okC (fun j => ztw (sungF (nI j) (mi 5)) n) x (mi 1 2)) j)), (4, .int (nI j))], [.int (nI j)], (zsh ++ vs, mi, ml, (zmr g))) rfl ?_
        refine Wp.call (as := [.int (nI j)]) (rest := []) rfl rfl rfl rfl rfl (Nat.le_of_ble_eq_true rfl) (Nat.le_of_ble_eq_true rfl) rfl (by decide) (c_bitCount (nI j)) ?_
        rintro _ _ ⟨rfl, rfl⟩
        refine Wp.run 1 (29, [(0, .ref 1), (1, .int x), (2, .int 1), (3, .int (chR (okC (fun j => ztw (sungF (nI j) (mi 5)) n) x (mi 1 2)) j)), (4, .int (nI j))], [.int (chR (okC (fun j => ztw (sungF (nI j) (mi 5)) n) x (mi 1 2)) j), .int (zbc (nI j))], (zsh ++ vs, mi, ml, (zmr g))) rfl ?_
        refine Wp.call (as := [.int (chR (okC (fun j => ztw (sungF (nI j) (mi 5)) n) x (mi 1 2)) j)]) (rest := [.int (zbc (nI j))]) rfl rfl rfl rfl rfl (Nat.le_of_ble_eq_true rfl) (Nat.le_of_ble_eq_true rfl) rfl (by decide) (c_bitCount (chR (okC (fun j => ztw (sungF (nI j) (mi 5)) n) x (mi 1 2)) j)) ?_
        rintro _ _ ⟨rfl, rfl⟩
        refine Wp.run 0 (32, [(0, .ref 1), (1, .int x), (2, .int 1), (3, .int (chR (okC (fun j => ztw (sungF (nI j) (mi 5)) n) x (mi 1 2)) j)), (4, .int (nI j))], [.int (zbc (chR (okC (fun j => ztw (sungF (nI j) (mi 5)) n) x (mi 1 2)) j)), .int (zbc (nI j))], (zsh ++ vs, mi, ml, (zmr g))) rfl ?_
        refine Wp.icmp_ge rfl (fun h25 => ?_) (fun h25 => ?_)
        · refine Wp.run 6 (6, [(4, .int ((nI j) + 1)), (5, .int 0), (0, .ref 1), (1, .int x), (2, .int 1), (3, .int (chR (okC (fun j => ztw (sungF (nI j) (mi 5)) n) x (mi 1 2)) j))], [], (zsh ++ vs, mi, ml, (zmr g))) rfl ?_
          have e9 : chR (okC (fun j => ztw (sungF (nI j) (mi 5)) n) x (mi 1 2)) (j + 1) = chR (okC (fun j => ztw (sungF (nI j) (mi 5)) n) x (mi 1 2)) j := chR_n (fun z => z.1.elim h22 (fun y => Int32.not_lt.mpr (by rw [← chR_bc (by omega) h22, ← zbc_256 j (by omega)]; exact h25) y))
          rw [nI_1]
          refine Wp.sub (a := [(0, .ref 1), (1, .int x), (2, .int 1), (3, .int (chR (okC (fun j => ztw (sungF (nI j) (mi 5)) n) x (mi 1 2)) (j + 1))), (4, .int (nI (j + 1)))]) (zle_cons rfl (zle_cons rfl (zle_cons rfl (zle_cons (by rw [e9]; rfl) (zle_cons rfl zle_nil))))) ?_
          exact ih (j + 1) (by omega)
        · refine Wp.run 9 (54, [(5, .int 1), (0, .ref 1), (1, .int x), (2, .int 1), (3, .int (chR (okC (fun j => ztw (sungF (nI j) (mi 5)) n) x (mi 1 2)) j)), (4, .int (nI j))], [.int ((nI j) &&& (mi 1 2))], (zsh ++ vs, mi, ml, (zmr g))) rfl ?_
          refine Wp.if_ne rfl (fun h26 => ?_) (fun h26 => ?_)
          · refine Wp.run 2 (6, [(4, .int ((nI j) + 1)), (5, .int 1), (0, .ref 1), (1, .int x), (2, .int 1), (3, .int (chR (okC (fun j => ztw (sungF (nI j) (mi 5)) n) x (mi 1 2)) j))], [], (zsh ++ vs, mi, ml, (zmr g))) rfl ?_
            have e9 : chR (okC (fun j => ztw (sungF (nI j) (mi 5)) n) x (mi 1 2)) (j + 1) = chR (okC (fun j => ztw (sungF (nI j) (mi 5)) n) x (mi 1 2)) j := chR_n (fun z => h26 z.2.1)
            rw [nI_1]
            refine Wp.sub (a := [(0, .ref 1), (1, .int x), (2, .int 1), (3, .int (chR (okC (fun j => ztw (sungF (nI j) (mi 5)) n) x (mi 1 2)) (j + 1))), (4, .int (nI (j + 1)))]) (zle_cons rfl (zle_cons rfl (zle_cons rfl (zle_cons (by rw [e9]; rfl) (zle_cons rfl zle_nil))))) ?_
            exact ih (j + 1) (by omega)
          · refine Wp.run 4 (62, [(5, .int 1), (0, .ref 1), (1, .int x), (2, .int 1), (3, .int (chR (okC (fun j => ztw (sungF (nI j) (mi 5)) n) x (mi 1 2)) j)), (4, .int (nI j))], [.int 1, .int (nI j), .ref 1, .int x], (zsh ++ vs, mi, ml, (zmr g))) rfl ?_
            refine Wp.call (as := [.ref 1, .int (nI j), .int 1]) (rest := [.int x]) rfl rfl rfl rfl rfl (Nat.le_of_ble_eq_true rfl) (Nat.le_of_ble_eq_true rfl) rfl (by decide) (c_sungBy1_1 (nI j) hn h6) ?_
            rintro _ _ ⟨rfl, rfl⟩
            refine Wp.run 3 (68, [(5, .int 1), (0, .ref 1), (1, .int x), (2, .int 1), (3, .int (chR (okC (fun j => ztw (sungF (nI j) (mi 5)) n) x (mi 1 2)) j)), (4, .int (nI j))], [.int (x &&& ((ztw (sungF (nI j) (mi 5)) n) ^^^ (-1)))], (zsh ++ vs, mi, ml, (zmr g))) rfl ?_
            refine Wp.if_ne rfl (fun h27 => ?_) (fun h27 => ?_)
            · refine Wp.run 2 (6, [(4, .int ((nI j) + 1)), (5, .int 1), (0, .ref 1), (1, .int x), (2, .int 1), (3, .int (chR (okC (fun j => ztw (sungF (nI j) (mi 5)) n) x (mi 1 2)) j))], [], (zsh ++ vs, mi, ml, (zmr g))) rfl ?_
              have e9 : chR (okC (fun j => ztw (sungF (nI j) (mi 5)) n) x (mi 1 2)) (j + 1) = chR (okC (fun j => ztw (sungF (nI j) (mi 5)) n) x (mi 1 2)) j := chR_n (fun z => h27 z.2.2)
              rw [nI_1]
              refine Wp.sub (a := [(0, .ref 1), (1, .int x), (2, .int 1), (3, .int (chR (okC (fun j => ztw (sungF (nI j) (mi 5)) n) x (mi 1 2)) (j + 1))), (4, .int (nI (j + 1)))]) (zle_cons rfl (zle_cons rfl (zle_cons rfl (zle_cons (by rw [e9]; rfl) (zle_cons rfl zle_nil))))) ?_
              exact ih (j + 1) (by omega)
            · refine Wp.run 4 (6, [(4, .int ((nI j) + 1)), (3, .int (nI j)), (5, .int 1), (0, .ref 1), (1, .int x), (2, .int 1)], [], (zsh ++ vs, mi, ml, (zmr g))) rfl ?_
              have e9 : chR (okC (fun j => ztw (sungF (nI j) (mi 5)) n) x (mi 1 2)) (j + 1) = nI j := chR_y ⟨Or.inr (by rw [← chR_bc (by omega) h22, ← zbc_256 j (by omega)]; exact Int32.not_le.mp h25), h26, h27⟩
              rw [nI_1]
              refine Wp.sub (a := [(0, .ref 1), (1, .int x), (2, .int 1), (3, .int (chR (okC (fun j => ztw (sungF (nI j) (mi 5)) n) x (mi 1 2)) (j + 1))), (4, .int (nI (j + 1)))]) (zle_cons rfl (zle_cons rfl (zle_cons rfl (zle_cons (by rw [e9]; rfl) (zle_cons rfl zle_nil))))) ?_
              exact ih (j + 1) (by omega)
theorem c_few1 {E : zEn} {vs : List (Nat × Nat)} {mi : Nat → Nat → Int32} {ml : Nat → Nat → Int64} {g : Nat → Nat → Option Nat} {x : Int32} {n : Nat} (hn : mi 1 0 = nI n) (h6 : n ≤ 6) : Wp E 2 pg_Band_fewest 0 (lv_args 0 [.ref 1, .int x, .int 1]) [] (zsh ++ vs, mi, ml, (zmr g)) (fun r w' => r = some (.int (chR (okC (fun j => ztw (sungF (nI j) (mi 5)) n) x (mi 1 2)) (2 ^ n))) ∧ w' = (zsh ++ vs, mi, ml, zmr g)) := by
  refine Wp.run 4 (6, [(4, .int 0), (3, .int (-5)), (0, .ref 1), (1, .int x), (2, .int 1)], [], (zsh ++ vs, mi, ml, (zmr g))) rfl ?_
  refine Wp.sub (a := [(0, .ref 1), (1, .int x), (2, .int 1), (3, .int (chR (okC (fun j => ztw (sungF (nI j) (mi 5)) n) x (mi 1 2)) 0)), (4, .int (nI 0))]) (zle_cons rfl (zle_cons rfl (zle_cons rfl (zle_cons rfl (zle_cons rfl (zle_nil)))))) ?_
  exact c_few_l1 hn h6 (2 ^ n) 0 (by omega)
theorem m_sg_i0 {E : zEn} {vs : List (Nat × Nat)} {mi : Nat → Nat → Int32} {ml : Nat → Nat → Int64} {g : Nat → Nat → Option Nat} {q s p n : Nat} {b : Int32} (hn : mi 67 68 = nI n) (h6 : n ≤ 6) {P : Option Value → zW → Prop} (hn9 : n < 2147483648) (K : Wp E 2 pg_M_isSung 68 [(0, .ref 66), (1, .int (nI q)), (2, .int (nI s)), (3, .int 1), (4, .int b), (5, .int (nI p)), (6, .int (zsum (fun i => if nI s >>> (nI i &&& 31) &&& 1 = 1 ∧ mi 67 (8 + 10 * i + 2) >>> (nI p &&& 31) &&& 1 = 1 then (1 : Int32) else 0) n)), (7, .int (nI n))] [] (zsh ++ vs, mi, ml, (zmr g)) P) : ∀ (k j : Nat), j + k = n → Wp E 2 pg_M_isSung 19 [(0, .ref 66), (1, .int (nI q)), (2, .int (nI s)), (3, .int 1), (4, .int b), (5, .int (nI p)), (6, .int (zsum (fun i => if nI s >>> (nI i &&& 31) &&& 1 = 1 ∧ mi 67 (8 + 10 * i + 2) >>> (nI p &&& 31) &&& 1 = 1 then (1 : Int32) else 0) j)), (7, .int (nI j))] [] (zsh ++ vs, mi, ml, (zmr g)) P := by
  intro k
  induction k with
  | zero =>
    intro j hj9
    obtain rfl : n = j := by omega
    refine Wp.run 5 (28, [(0, .ref 66), (1, .int (nI q)), (2, .int (nI s)), (3, .int 1), (4, .int b), (5, .int (nI p)), (6, .int (zsum (fun i => if nI s >>> (nI i &&& 31) &&& 1 = 1 ∧ mi 67 (8 + 10 * i + 2) >>> (nI p &&& 31) &&& 1 = 1 then (1 : Int32) else 0) n)), (7, .int (nI n))], [.int (mi 67 68), .int (nI n)], (zsh ++ vs, mi, ml, (zmr g))) rfl ?_
    refine Wp.topi (y := nI n) (hn) ?_
    refine Wp.run 0 (28, [(0, .ref 66), (1, .int (nI q)), (2, .int (nI s)), (3, .int 1), (4, .int b), (5, .int (nI p)), (6, .int (zsum (fun i => if nI s >>> (nI i &&& 31) &&& 1 = 1 ∧ mi 67 (8 + 10 * i + 2) >>> (nI p &&& 31) &&& 1 = 1 then (1 : Int32) else 0) n)), (7, .int (nI n))], [.int (nI n), .int (nI n)], (zsh ++ vs, mi, ml, (zmr g))) rfl ?_
    refine Wp.icmp_ge rfl (fun h1 => ?_) (fun h1 => ?_)
    · exact K
    · exact absurd (Int32.le_refl _) h1
  | succ k ih =>
    intro j hj9
    have hlt9 : j < n := by omega
    refine Wp.run 5 (28, [(0, .ref 66), (1, .int (nI q)), (2, .int (nI s)), (3, .int 1), (4, .int b), (5, .int (nI p)), (6, .int (zsum (fun i => if nI s >>> (nI i &&& 31) &&& 1 = 1 ∧ mi 67 (8 + 10 * i + 2) >>> (nI p &&& 31) &&& 1 = 1 then (1 : Int32) else 0) j)), (7, .int (nI j))], [.int (mi 67 68), .int (nI j)], (zsh ++ vs, mi, ml, (zmr g))) rfl ?_
    refine Wp.topi (y := nI n) (hn) ?_
    refine Wp.run 0 (28, [(0, .ref 66), (1, .int (nI q)), (2, .int (nI s)), (3, .int 1), (4, .int b), (5, .int (nI p)), (6, .int (zsum (fun i => if nI s >>> (nI i &&& 31) &&& 1 = 1 ∧ mi 67 (8 + 10 * i + 2) >>> (nI p &&& 31) &&& 1 = 1 then (1 : Int32) else 0) j)), (7, .int (nI j))], [.int (nI n), .int (nI j)], (zsh ++ vs, mi, ml, (zmr g))) rfl ?_
    refine Wp.icmp_ge rfl (fun h1 => ?_) (fun h1 => ?_)
    · exact absurd h1 (nI_ge hlt9 hn9)
    · refine Wp.run 7 (40, [(0, .ref 66), (1, .int (nI q)), (2, .int (nI s)), (3, .int 1), (4, .int b), (5, .int (nI p)), (6, .int (zsum (fun i => if nI s >>> (nI i &&& 31) &&& 1 = 1 ∧ mi 67 (8 + 10 * i + 2) >>> (nI p &&& 31) &&& 1 = 1 then (1 : Int32) else 0) j)), (7, .int (nI j))], [.int 1, .int (((nI s) >>> ((nI j) &&& 31)) &&& 1), .int (zsum (fun i => if nI s >>> (nI i &&& 31) &&& 1 = 1 ∧ mi 67 (8 + 10 * i + 2) >>> (nI p &&& 31) &&& 1 = 1 then (1 : Int32) else 0) j)], (zsh ++ vs, mi, ml, (zmr g))) rfl ?_
      refine Wp.icmp_ne rfl (fun h2 => ?_) (fun h2 => ?_)
      · refine Wp.run 5 (19, [(7, .int ((nI j) + 1)), (6, .int ((zsum (fun i => if nI s >>> (nI i &&& 31) &&& 1 = 1 ∧ mi 67 (8 + 10 * i + 2) >>> (nI p &&& 31) &&& 1 = 1 then (1 : Int32) else 0) j) + 0)), (0, .ref 66), (1, .int (nI q)), (2, .int (nI s)), (3, .int 1), (4, .int b), (5, .int (nI p))], [], (zsh ++ vs, mi, ml, (zmr g))) rfl ?_
        have e9 : zsum (fun i => if nI s >>> (nI i &&& 31) &&& 1 = 1 ∧ mi 67 (8 + 10 * i + 2) >>> (nI p &&& 31) &&& 1 = 1 then (1 : Int32) else 0) (j + 1) = zsum (fun i => if nI s >>> (nI i &&& 31) &&& 1 = 1 ∧ mi 67 (8 + 10 * i + 2) >>> (nI p &&& 31) &&& 1 = 1 then (1 : Int32) else 0) j + 0 := by
          rw [zsum]
          exact congrArg (fun z => zsum (fun i => if nI s >>> (nI i &&& 31) &&& 1 = 1 ∧ mi 67 (8 + 10 * i + 2) >>> (nI p &&& 31) &&& 1 = 1 then (1 : Int32) else 0) j + z) (if_neg (fun z => h2 z.1))
        rw [nI_1]
        refine Wp.sub (a := [(0, .ref 66), (1, .int (nI q)), (2, .int (nI s)), (3, .int 1), (4, .int b), (5, .int (nI p)), (6, .int (zsum (fun i => if nI s >>> (nI i &&& 31) &&& 1 = 1 ∧ mi 67 (8 + 10 * i + 2) >>> (nI p &&& 31) &&& 1 = 1 then (1 : Int32) else 0) (j + 1))), (7, .int (nI (j + 1)))]) (zle_cons rfl (zle_cons rfl (zle_cons rfl (zle_cons rfl (zle_cons rfl (zle_cons rfl (zle_cons (by rw [e9]; rfl) (zle_cons rfl zle_nil)))))))) ?_
        exact ih (j + 1) (by omega)
      · refine Wp.run 3 (48, [(0, .ref 66), (1, .int (nI q)), (2, .int (nI s)), (3, .int 1), (4, .int b), (5, .int (nI p)), (6, .int (zsum (fun i => if nI s >>> (nI i &&& 31) &&& 1 = 1 ∧ mi 67 (8 + 10 * i + 2) >>> (nI p &&& 31) &&& 1 = 1 then (1 : Int32) else 0) j)), (7, .int (nI j))], [.int (nI p), .int (nI j), .ref 66, .int (zsum (fun i => if nI s >>> (nI i &&& 31) &&& 1 = 1 ∧ mi 67 (8 + 10 * i + 2) >>> (nI p &&& 31) &&& 1 = 1 then (1 : Int32) else 0) j)], (zsh ++ vs, mi, ml, (zmr g))) rfl ?_
        refine Wp.call (as := [.ref 66, .int (nI j), .int (nI p)]) (rest := [.int (zsum (fun i => if nI s >>> (nI i &&& 31) &&& 1 = 1 ∧ mi 67 (8 + 10 * i + 2) >>> (nI p &&& 31) &&& 1 = 1 then (1 : Int32) else 0) j)]) rfl rfl rfl rfl rfl (Nat.le_of_ble_eq_true rfl) (Nat.le_of_ble_eq_true rfl) rfl (by decide) (m_isHeld j (nI p) (by omega)) ?_
        rintro _ _ ⟨rfl, rfl⟩
        by_cases c4 : mi 67 (8 + 10 * j + 2) >>> (nI p &&& 31) &&& 1 = 1
        · rw [if_pos c4]
          refine Wp.run 7 (19, [(7, .int ((nI j) + 1)), (6, .int ((zsum (fun i => if nI s >>> (nI i &&& 31) &&& 1 = 1 ∧ mi 67 (8 + 10 * i + 2) >>> (nI p &&& 31) &&& 1 = 1 then (1 : Int32) else 0) j) + 1)), (0, .ref 66), (1, .int (nI q)), (2, .int (nI s)), (3, .int 1), (4, .int b), (5, .int (nI p))], [], (zsh ++ vs, mi, ml, (zmr g))) rfl ?_
          have e9 : zsum (fun i => if nI s >>> (nI i &&& 31) &&& 1 = 1 ∧ mi 67 (8 + 10 * i + 2) >>> (nI p &&& 31) &&& 1 = 1 then (1 : Int32) else 0) (j + 1) = zsum (fun i => if nI s >>> (nI i &&& 31) &&& 1 = 1 ∧ mi 67 (8 + 10 * i + 2) >>> (nI p &&& 31) &&& 1 = 1 then (1 : Int32) else 0) j + 1 := by
            rw [zsum]
            exact congrArg (fun z => zsum (fun i => if nI s >>> (nI i &&& 31) &&& 1 = 1 ∧ mi 67 (8 + 10 * i + 2) >>> (nI p &&& 31) &&& 1 = 1 then (1 : Int32) else 0) j + z) (if_pos ⟨h2, c4⟩)
          rw [nI_1]
          refine Wp.sub (a := [(0, .ref 66), (1, .int (nI q)), (2, .int (nI s)), (3, .int 1), (4, .int b), (5, .int (nI p)), (6, .int (zsum (fun i => if nI s >>> (nI i &&& 31) &&& 1 = 1 ∧ mi 67 (8 + 10 * i + 2) >>> (nI p &&& 31) &&& 1 = 1 then (1 : Int32) else 0) (j + 1))), (7, .int (nI (j + 1)))]) (zle_cons rfl (zle_cons rfl (zle_cons rfl (zle_cons rfl (zle_cons rfl (zle_cons rfl (zle_cons (by rw [e9]; rfl) (zle_cons rfl zle_nil)))))))) ?_
          exact ih (j + 1) (by omega)
        · rw [if_neg c4]
          refine Wp.run 6 (19, [(7, .int ((nI j) + 1)), (6, .int ((zsum (fun i => if nI s >>> (nI i &&& 31) &&& 1 = 1 ∧ mi 67 (8 + 10 * i + 2) >>> (nI p &&& 31) &&& 1 = 1 then (1 : Int32) else 0) j) + 0)), (0, .ref 66), (1, .int (nI q)), (2, .int (nI s)), (3, .int 1), (4, .int b), (5, .int (nI p))], [], (zsh ++ vs, mi, ml, (zmr g))) rfl ?_
          have e9 : zsum (fun i => if nI s >>> (nI i &&& 31) &&& 1 = 1 ∧ mi 67 (8 + 10 * i + 2) >>> (nI p &&& 31) &&& 1 = 1 then (1 : Int32) else 0) (j + 1) = zsum (fun i => if nI s >>> (nI i &&& 31) &&& 1 = 1 ∧ mi 67 (8 + 10 * i + 2) >>> (nI p &&& 31) &&& 1 = 1 then (1 : Int32) else 0) j + 0 := by
            rw [zsum]
            exact congrArg (fun z => zsum (fun i => if nI s >>> (nI i &&& 31) &&& 1 = 1 ∧ mi 67 (8 + 10 * i + 2) >>> (nI p &&& 31) &&& 1 = 1 then (1 : Int32) else 0) j + z) (if_neg (fun z => c4 z.2))
          rw [nI_1]
          refine Wp.sub (a := [(0, .ref 66), (1, .int (nI q)), (2, .int (nI s)), (3, .int 1), (4, .int b), (5, .int (nI p)), (6, .int (zsum (fun i => if nI s >>> (nI i &&& 31) &&& 1 = 1 ∧ mi 67 (8 + 10 * i + 2) >>> (nI p &&& 31) &&& 1 = 1 then (1 : Int32) else 0) (j + 1))), (7, .int (nI (j + 1)))]) (zle_cons rfl (zle_cons rfl (zle_cons rfl (zle_cons rfl (zle_cons rfl (zle_cons rfl (zle_cons (by rw [e9]; rfl) (zle_cons rfl zle_nil)))))))) ?_
          exact ih (j + 1) (by omega)
theorem m_sg_o0 {E : zEn} {vs : List (Nat × Nat)} {mi : Nat → Nat → Int32} {ml : Nat → Nat → Int64} {g : Nat → Nat → Option Nat} {q s n : Nat} (hq : q < 256) (hn : mi 67 68 = nI n) (h6 : n ≤ 6) : ∀ (k p : Nat) (b : Int32), p + k = 8 → ((b = 1 ∧ ∀ r, r < p → bt (nI q) r = true → 1 ≤ cntN (sungF (nI s) (fun k => uN (mi 67) k 2)) r n) ∨ (b = 0 ∧ ¬ (∀ r, r < p → bt (nI q) r = true → 1 ≤ cntN (sungF (nI s) (fun k => uN (mi 67) k 2)) r n))) → Wp E 2 pg_M_isSung 6 [(0, .ref 66), (1, .int (nI q)), (2, .int (nI s)), (3, .int 1), (4, .int b), (5, .int (nI p))] [] (zsh ++ vs, mi, ml, zmr g) (fun r w' => (∃ b, r = some (.int b) ∧ ((nI q &&& ((zor (sungF (nI s) (fun k => uN (mi 67) k 2)) n) ^^^ -1) = 0 ∧ b = 1) ∨ (¬ (nI q &&& ((zor (sungF (nI s) (fun k => uN (mi 67) k 2)) n) ^^^ -1) = 0) ∧ b = 0))) ∧ w' = (zsh ++ vs, mi, ml, zmr g)) := by
  have key : (nI q &&& ((zor (sungF (nI s) (fun k => uN (mi 67) k 2)) n) ^^^ -1) = 0) ↔ ∀ r, r < 8 → bt (nI q) r = true → 1 ≤ cntN (sungF (nI s) (fun k => uN (mi 67) k 2)) r n := by
    rw [sg_iff hq]
    exact ⟨fun h p hp hx => (cnt_or n).mp (h p hp hx), fun h p hp hx => (cnt_or n).mpr (h p hp hx)⟩
  intro k
  induction k with
  | zero =>
    intro p b hj hb
    obtain rfl : 8 = p := by omega
    rcases hb with ⟨rfl, hb⟩ | ⟨rfl, hb⟩
    · skip
      refine Wp.run 4 (103, [(0, .ref 66), (1, .int (nI q)), (2, .int (nI s)), (3, .int 1), (4, .int 1), (5, .int 8)], [.int 1], (zsh ++ vs, mi, ml, (zmr g))) rfl ?_
      refine Wp.ret rfl rfl rfl ?_
      exact ⟨⟨1, rfl, Or.inl ⟨key.mpr hb, rfl⟩⟩, rfl⟩
    · skip
      refine Wp.run 4 (103, [(0, .ref 66), (1, .int (nI q)), (2, .int (nI s)), (3, .int 1), (4, .int 0), (5, .int 8)], [.int 0], (zsh ++ vs, mi, ml, (zmr g))) rfl ?_
      refine Wp.ret rfl rfl rfl ?_
      exact ⟨⟨0, rfl, Or.inr ⟨fun z => hb (key.mp z), rfl⟩⟩, rfl⟩
  | succ k ih =>
    intro p b hj hb
    have hp8 : p < 8 := by omega
    rcases hb with ⟨rfl, hb⟩ | ⟨rfl, hb⟩
    · skip
      refine Wp.run 2 (10, [(0, .ref 66), (1, .int (nI q)), (2, .int (nI s)), (3, .int 1), (4, .int 1), (5, .int (nI p))], [.int 8, .int (nI p)], (zsh ++ vs, mi, ml, (zmr g))) rfl ?_
      refine Wp.icmp_ge rfl (fun h41 => ?_) (fun h41 => ?_)
      · exact absurd h41 (nI_ge (b := 8) hp8 (by decide))
      · refine Wp.run 4 (19, [(7, .int 0), (6, .int 0), (0, .ref 66), (1, .int (nI q)), (2, .int (nI s)), (3, .int 1), (4, .int 1), (5, .int (nI p))], [], (zsh ++ vs, mi, ml, (zmr g))) rfl ?_
        have K : Wp E 2 pg_M_isSung 68 [(0, .ref 66), (1, .int (nI q)), (2, .int (nI s)), (3, .int 1), (4, .int 1), (5, .int (nI p)), (6, .int (zsum (fun i => if nI s >>> (nI i &&& 31) &&& 1 = 1 ∧ mi 67 (8 + 10 * i + 2) >>> (nI p &&& 31) &&& 1 = 1 then (1 : Int32) else 0) n)), (7, .int (nI n))] [] (zsh ++ vs, mi, ml, zmr g) (fun r w' => (∃ b, r = some (.int b) ∧ ((nI q &&& ((zor (sungF (nI s) (fun k => uN (mi 67) k 2)) n) ^^^ -1) = 0 ∧ b = 1) ∨ (¬ (nI q &&& ((zor (sungF (nI s) (fun k => uN (mi 67) k 2)) n) ^^^ -1) = 0) ∧ b = 0))) ∧ w' = (zsh ++ vs, mi, ml, zmr g)) := by
          refine Wp.run 7 (79, [(0, .ref 66), (1, .int (nI q)), (2, .int (nI s)), (3, .int 1), (4, .int 1), (5, .int (nI p)), (6, .int (zsum (fun i => if nI s >>> (nI i &&& 31) &&& 1 = 1 ∧ mi 67 (8 + 10 * i + 2) >>> (nI p &&& 31) &&& 1 = 1 then (1 : Int32) else 0) n)), (7, .int (nI n))], [.int (((nI q) >>> ((nI p) &&& 31)) &&& 1)], (zsh ++ vs, mi, ml, (zmr g))) rfl ?_
          refine Wp.if_eq rfl (fun h21 => ?_) (fun h21 => ?_)
          · refine Wp.run 5 (6, [(5, .int ((nI p) + 1)), (4, .int 1), (0, .ref 66), (1, .int (nI q)), (2, .int (nI s)), (3, .int 1), (6, .int (zsum (fun i => if nI s >>> (nI i &&& 31) &&& 1 = 1 ∧ mi 67 (8 + 10 * i + 2) >>> (nI p &&& 31) &&& 1 = 1 then (1 : Int32) else 0) n)), (7, .int (nI n))], [], (zsh ++ vs, mi, ml, (zmr g))) rfl ?_
            rw [nI_1]
            refine Wp.sub (a := [(0, .ref 66), (1, .int (nI q)), (2, .int (nI s)), (3, .int 1), (4, .int 1), (5, .int (nI (p + 1)))]) (zle_cons rfl (zle_cons rfl (zle_cons rfl (zle_cons rfl (zle_cons rfl (zle_cons rfl (zle_nil))))))) ?_
            refine ih (p + 1) 1 (by omega) (Or.inl ⟨rfl, fun r hr hx => ?_⟩)
            by_cases er : r = p
            · subst er
              rw [(bit1_zero _ (by omega)).mp h21] at hx; cases hx
            · exact hb r (by omega) hx
          · refine Wp.run 1 (84, [(0, .ref 66), (1, .int (nI q)), (2, .int (nI s)), (3, .int 1), (4, .int 1), (5, .int (nI p)), (6, .int (zsum (fun i => if nI s >>> (nI i &&& 31) &&& 1 = 1 ∧ mi 67 (8 + 10 * i + 2) >>> (nI p &&& 31) &&& 1 = 1 then (1 : Int32) else 0) n)), (7, .int (nI n))], [.int (zsum (fun i => if nI s >>> (nI i &&& 31) &&& 1 = 1 ∧ mi 67 (8 + 10 * i + 2) >>> (nI p &&& 31) &&& 1 = 1 then (1 : Int32) else 0) n)], (zsh ++ vs, mi, ml, (zmr g))) rfl ?_
            refine Wp.topi (y := nI (cntN (sungF (nI s) (fun k => uN (mi 67) k 2)) p n)) (cn_eq (by omega) n (by omega)) ?_
            refine Wp.run 1 (85, [(0, .ref 66), (1, .int (nI q)), (2, .int (nI s)), (3, .int 1), (4, .int 1), (5, .int (nI p)), (6, .int (zsum (fun i => if nI s >>> (nI i &&& 31) &&& 1 = 1 ∧ mi 67 (8 + 10 * i + 2) >>> (nI p &&& 31) &&& 1 = 1 then (1 : Int32) else 0) n)), (7, .int (nI n))], [.int 1, .int (nI (cntN (sungF (nI s) (fun k => uN (mi 67) k 2)) p n))], (zsh ++ vs, mi, ml, (zmr g))) rfl ?_
            refine Wp.icmp_lt rfl (fun h22 => ?_) (fun h22 => ?_)
            · refine Wp.run 4 (6, [(5, .int ((nI p) + 1)), (4, .int 0), (0, .ref 66), (1, .int (nI q)), (2, .int (nI s)), (3, .int 1), (6, .int (zsum (fun i => if nI s >>> (nI i &&& 31) &&& 1 = 1 ∧ mi 67 (8 + 10 * i + 2) >>> (nI p &&& 31) &&& 1 = 1 then (1 : Int32) else 0) n)), (7, .int (nI n))], [], (zsh ++ vs, mi, ml, (zmr g))) rfl ?_
              rw [nI_1]
              refine Wp.sub (a := [(0, .ref 66), (1, .int (nI q)), (2, .int (nI s)), (3, .int 1), (4, .int 0), (5, .int (nI (p + 1)))]) (zle_cons rfl (zle_cons rfl (zle_cons rfl (zle_cons rfl (zle_cons rfl (zle_cons rfl (zle_nil))))))) ?_
              refine ih (p + 1) 0 (by omega) (Or.inr ⟨rfl, fun z => ?_⟩)
              have hx : bt (nI q) p = true := by
                cases hx : bt (nI q) p with
                | true => rfl
                | false => exact absurd ((bit1_zero _ (by omega)).mpr hx) h21
              have := cntN_le (f := sungF (nI s) (fun k => uN (mi 67) k 2)) (p := p) n
              exact absurd (nI_le (a := 1) (z p (by omega) hx) (by omega)) (Int32.not_le.mpr h22)
            · refine Wp.run 5 (6, [(5, .int ((nI p) + 1)), (4, .int 1), (0, .ref 66), (1, .int (nI q)), (2, .int (nI s)), (3, .int 1), (6, .int (zsum (fun i => if nI s >>> (nI i &&& 31) &&& 1 = 1 ∧ mi 67 (8 + 10 * i + 2) >>> (nI p &&& 31) &&& 1 = 1 then (1 : Int32) else 0) n)), (7, .int (nI n))], [], (zsh ++ vs, mi, ml, (zmr g))) rfl ?_
              rw [nI_1]
              refine Wp.sub (a := [(0, .ref 66), (1, .int (nI q)), (2, .int (nI s)), (3, .int 1), (4, .int 1), (5, .int (nI (p + 1)))]) (zle_cons rfl (zle_cons rfl (zle_cons rfl (zle_cons rfl (zle_cons rfl (zle_cons rfl (zle_nil))))))) ?_
              refine ih (p + 1) 1 (by omega) (Or.inl ⟨rfl, fun r hr hx => ?_⟩)
              by_cases er : r = p
              · subst er
                exact (nI_leI (a := 1) (by decide) (by have := cntN_le (f := sungF (nI s) (fun k => uN (mi 67) k 2)) (p := r) n; omega)).mp (Int32.not_lt.mp h22)
              · exact hb r (by omega) hx
        refine Wp.sub (a := [(0, .ref 66), (1, .int (nI q)), (2, .int (nI s)), (3, .int 1), (4, .int 1), (5, .int (nI p)), (6, .int (zsum (fun i => if nI s >>> (nI i &&& 31) &&& 1 = 1 ∧ mi 67 (8 + 10 * i + 2) >>> (nI p &&& 31) &&& 1 = 1 then (1 : Int32) else 0) 0)), (7, .int (nI 0))]) (zle_cons rfl (zle_cons rfl (zle_cons rfl (zle_cons rfl (zle_cons rfl (zle_cons rfl (zle_cons rfl (zle_cons rfl (zle_nil))))))))) ?_
        exact m_sg_i0 hn h6 (by omega) K n 0 (by omega)
    · skip
      refine Wp.run 2 (10, [(0, .ref 66), (1, .int (nI q)), (2, .int (nI s)), (3, .int 1), (4, .int 0), (5, .int (nI p))], [.int 8, .int (nI p)], (zsh ++ vs, mi, ml, (zmr g))) rfl ?_
      refine Wp.icmp_ge rfl (fun h41 => ?_) (fun h41 => ?_)
      · exact absurd h41 (nI_ge (b := 8) hp8 (by decide))
      · refine Wp.run 4 (19, [(7, .int 0), (6, .int 0), (0, .ref 66), (1, .int (nI q)), (2, .int (nI s)), (3, .int 1), (4, .int 0), (5, .int (nI p))], [], (zsh ++ vs, mi, ml, (zmr g))) rfl ?_
        have K : Wp E 2 pg_M_isSung 68 [(0, .ref 66), (1, .int (nI q)), (2, .int (nI s)), (3, .int 1), (4, .int 0), (5, .int (nI p)), (6, .int (zsum (fun i => if nI s >>> (nI i &&& 31) &&& 1 = 1 ∧ mi 67 (8 + 10 * i + 2) >>> (nI p &&& 31) &&& 1 = 1 then (1 : Int32) else 0) n)), (7, .int (nI n))] [] (zsh ++ vs, mi, ml, zmr g) (fun r w' => (∃ b, r = some (.int b) ∧ ((nI q &&& ((zor (sungF (nI s) (fun k => uN (mi 67) k 2)) n) ^^^ -1) = 0 ∧ b = 1) ∨ (¬ (nI q &&& ((zor (sungF (nI s) (fun k => uN (mi 67) k 2)) n) ^^^ -1) = 0) ∧ b = 0))) ∧ w' = (zsh ++ vs, mi, ml, zmr g)) := by
          refine Wp.run 6 (6, [(5, .int ((nI p) + 1)), (4, .int 0), (0, .ref 66), (1, .int (nI q)), (2, .int (nI s)), (3, .int 1), (6, .int (zsum (fun i => if nI s >>> (nI i &&& 31) &&& 1 = 1 ∧ mi 67 (8 + 10 * i + 2) >>> (nI p &&& 31) &&& 1 = 1 then (1 : Int32) else 0) n)), (7, .int (nI n))], [], (zsh ++ vs, mi, ml, (zmr g))) rfl ?_
          rw [nI_1]
          refine Wp.sub (a := [(0, .ref 66), (1, .int (nI q)), (2, .int (nI s)), (3, .int 1), (4, .int 0), (5, .int (nI (p + 1)))]) (zle_cons rfl (zle_cons rfl (zle_cons rfl (zle_cons rfl (zle_cons rfl (zle_cons rfl (zle_nil))))))) ?_
          exact ih (p + 1) 0 (by omega) (Or.inr ⟨rfl, fun z => hb (fun r hr => z r (by omega))⟩)
        refine Wp.sub (a := [(0, .ref 66), (1, .int (nI q)), (2, .int (nI s)), (3, .int 1), (4, .int 0), (5, .int (nI p)), (6, .int (zsum (fun i => if nI s >>> (nI i &&& 31) &&& 1 = 1 ∧ mi 67 (8 + 10 * i + 2) >>> (nI p &&& 31) &&& 1 = 1 then (1 : Int32) else 0) 0)), (7, .int (nI 0))]) (zle_cons rfl (zle_cons rfl (zle_cons rfl (zle_cons rfl (zle_cons rfl (zle_cons rfl (zle_cons rfl (zle_cons rfl (zle_nil))))))))) ?_
        exact m_sg_i0 hn h6 (by omega) K n 0 (by omega)
theorem m_sg0 {E : zEn} {vs : List (Nat × Nat)} {mi : Nat → Nat → Int32} {ml : Nat → Nat → Int64} {g : Nat → Nat → Option Nat} {q s n : Nat} (hq : q < 256) (hn : mi 67 68 = nI n) (h6 : n ≤ 6) : Wp E 2 pg_M_isSung 0 (lv_args 0 [.ref 66, .int (nI q), .int (nI s), .int 1]) [] (zsh ++ vs, mi, ml, (zmr g)) (fun r w' => (∃ b, r = some (.int b) ∧ ((nI q &&& ((zor (sungF (nI s) (fun k => uN (mi 67) k 2)) n) ^^^ -1) = 0 ∧ b = 1) ∨ (¬ (nI q &&& ((zor (sungF (nI s) (fun k => uN (mi 67) k 2)) n) ^^^ -1) = 0) ∧ b = 0))) ∧ w' = (zsh ++ vs, mi, ml, zmr g)) := by
  refine Wp.run 4 (6, [(5, .int 0), (4, .int 1), (0, .ref 66), (1, .int (nI q)), (2, .int (nI s)), (3, .int 1)], [], (zsh ++ vs, mi, ml, (zmr g))) rfl ?_
  refine Wp.sub (a := [(0, .ref 66), (1, .int (nI q)), (2, .int (nI s)), (3, .int 1), (4, .int 1), (5, .int (nI 0))]) (zle_cons rfl (zle_cons rfl (zle_cons rfl (zle_cons rfl (zle_cons rfl (zle_cons rfl (zle_nil))))))) ?_
  exact m_sg_o0 hq hn h6 8 0 1 (by omega) (Or.inl ⟨rfl, fun r hr => absurd hr (Nat.not_lt_zero r)⟩)
theorem m_ch_l0 {E : zEn} {vs : List (Nat × Nat)} {mi : Nat → Nat → Int32} {ml : Nat → Nat → Int64} {g : Nat → Nat → Option Nat} {q n : Nat} (hq : q < 256) (hn : mi 67 68 = nI n) (h6 : n ≤ 6) : ∀ (k j : Nat), j + k = 2 ^ n → Wp E 3 pg_M_choir 31 [(0, .ref 66), (1, .int (nI q)), (2, .int 0), (3, .int (chR (okC (fun j => zor (sungF (nI j) (fun k => uN (mi 67) k 2)) n) (nI q) (zor (awaysF (uN (mi 67))) n)) j)), (4, .int (nI j))] [] (zsh ++ vs, mi, ml, zmr g) (fun r w' => r = some (.int (chR (okC (fun j => zor (sungF (nI j) (fun k => uN (mi 67) k 2)) n) (nI q) (zor (awaysF (uN (mi 67))) n)) (2 ^ n))) ∧ w' = (zsh ++ vs, mi, ml, zmr g)) := by
  have hM := pw6 h6
  intro k
  induction k with
  | zero =>
    intro j hj
    have ej : j = 2 ^ n := by omega
    rw [ej]
    refine Wp.run 6 (41, [(0, .ref 66), (1, .int (nI q)), (2, .int 0), (3, .int (chR (okC (fun j => zor (sungF (nI j) (fun k => uN (mi 67) k 2)) n) (nI q) (zor (awaysF (uN (mi 67))) n)) (2 ^ n))), (4, .int (nI (2 ^ n)))], [.int (mi 67 68), .int 1, .int (nI (2 ^ n))], (zsh ++ vs, mi, ml, (zmr g))) rfl ?_
    refine Wp.topi (y := nI n) (hn) ?_
    refine Wp.run 1 (42, [(0, .ref 66), (1, .int (nI q)), (2, .int 0), (3, .int (chR (okC (fun j => zor (sungF (nI j) (fun k => uN (mi 67) k 2)) n) (nI q) (zor (awaysF (uN (mi 67))) n)) (2 ^ n))), (4, .int (nI (2 ^ n)))], [.int ((1 : Int32) <<< ((nI n) &&& 31)), .int (nI (2 ^ n))], (zsh ++ vs, mi, ml, (zmr g))) rfl ?_
    refine Wp.topi (y := nI (2 ^ n)) (shl1 n (by omega)) ?_
    refine Wp.run 0 (42, [(0, .ref 66), (1, .int (nI q)), (2, .int 0), (3, .int (chR (okC (fun j => zor (sungF (nI j) (fun k => uN (mi 67) k 2)) n) (nI q) (zor (awaysF (uN (mi 67))) n)) (2 ^ n))), (4, .int (nI (2 ^ n)))], [.int (nI (2 ^ n)), .int (nI (2 ^ n))], (zsh ++ vs, mi, ml, (zmr g))) rfl ?_
    refine Wp.icmp_ge rfl (fun h21 => ?_) (fun h21 => ?_)
    · refine Wp.run 1 (100, [(0, .ref 66), (1, .int (nI q)), (2, .int 0), (3, .int (chR (okC (fun j => zor (sungF (nI j) (fun k => uN (mi 67) k 2)) n) (nI q) (zor (awaysF (uN (mi 67))) n)) (2 ^ n))), (4, .int (nI (2 ^ n)))], [.int (chR (okC (fun j => zor (sungF (nI j) (fun k => uN (mi 67) k 2)) n) (nI q) (zor (awaysF (uN (mi 67))) n)) (2 ^ n))], (zsh ++ vs, mi, ml, (zmr g))) rfl ?_
      refine Wp.ret rfl rfl rfl ?_
      exact ⟨rfl, rfl⟩
    · exact absurd (Int32.le_refl _) h21
  | succ k ih =>
    intro j hj
    refine Wp.run 6 (41, [(0, .ref 66), (1, .int (nI q)), (2, .int 0), (3, .int (chR (okC (fun j => zor (sungF (nI j) (fun k => uN (mi 67) k 2)) n) (nI q) (zor (awaysF (uN (mi 67))) n)) j)), (4, .int (nI j))], [.int (mi 67 68), .int 1, .int (nI j)], (zsh ++ vs, mi, ml, (zmr g))) rfl ?_
    refine Wp.topi (y := nI n) (hn) ?_
    refine Wp.run 1 (42, [(0, .ref 66), (1, .int (nI q)), (2, .int 0), (3, .int (chR (okC (fun j => zor (sungF (nI j) (fun k => uN (mi 67) k 2)) n) (nI q) (zor (awaysF (uN (mi 67))) n)) j)), (4, .int (nI j))], [.int ((1 : Int32) <<< ((nI n) &&& 31)), .int (nI j)], (zsh ++ vs, mi, ml, (zmr g))) rfl ?_
    refine Wp.topi (y := nI (2 ^ n)) (shl1 n (by omega)) ?_
    refine Wp.run 0 (42, [(0, .ref 66), (1, .int (nI q)), (2, .int 0), (3, .int (chR (okC (fun j => zor (sungF (nI j) (fun k => uN (mi 67) k 2)) n) (nI q) (zor (awaysF (uN (mi 67))) n)) j)), (4, .int (nI j))], [.int (nI (2 ^ n)), .int (nI j)], (zsh ++ vs, mi, ml, (zmr g))) rfl ?_
    refine Wp.icmp_ge rfl (fun h21 => ?_) (fun h21 => ?_)
    · exact absurd h21 (nI_ge (b := 2 ^ n) (by omega) (by omega))
    · refine Wp.run 2 (48, [(0, .ref 66), (1, .int (nI q)), (2, .int 0), (3, .int (chR (okC (fun j => zor (sungF (nI j) (fun k => uN (mi 67) k 2)) n) (nI q) (zor (awaysF (uN (mi 67))) n)) j)), (4, .int (nI j))], [.ref 66, .int (nI j)], (zsh ++ vs, mi, ml, (zmr g))) rfl ?_
      refine Wp.call (as := [.ref 66]) (rest := [.int (nI j)]) rfl rfl rfl rfl rfl (Nat.le_of_ble_eq_true rfl) (Nat.le_of_ble_eq_true rfl) rfl (by decide) (m_aways hn h6) ?_
      rintro _ _ ⟨rfl, rfl⟩
      refine Wp.run 1 (52, [(0, .ref 66), (1, .int (nI q)), (2, .int 0), (3, .int (chR (okC (fun j => zor (sungF (nI j) (fun k => uN (mi 67) k 2)) n) (nI q) (zor (awaysF (uN (mi 67))) n)) j)), (4, .int (nI j))], [.int ((nI j) &&& (zor (awaysF (uN (mi 67))) n))], (zsh ++ vs, mi, ml, (zmr g))) rfl ?_
      refine Wp.if_ne rfl (fun h22 => ?_) (fun h22 => ?_)
      · refine Wp.run 2 (31, [(4, .int ((nI j) + 1)), (0, .ref 66), (1, .int (nI q)), (2, .int 0), (3, .int (chR (okC (fun j => zor (sungF (nI j) (fun k => uN (mi 67) k 2)) n) (nI q) (zor (awaysF (uN (mi 67))) n)) j))], [], (zsh ++ vs, mi, ml, (zmr g))) rfl ?_
        have e9 : chR (okC (fun j => zor (sungF (nI j) (fun k => uN (mi 67) k 2)) n) (nI q) (zor (awaysF (uN (mi 67))) n)) (j + 1) = chR (okC (fun j => zor (sungF (nI j) (fun k => uN (mi 67) k 2)) n) (nI q) (zor (awaysF (uN (mi 67))) n)) j := chR_n (fun z => h22 z.2.1)
        rw [nI_1]
        refine Wp.sub (a := [(0, .ref 66), (1, .int (nI q)), (2, .int 0), (3, .int (chR (okC (fun j => zor (sungF (nI j) (fun k => uN (mi 67) k 2)) n) (nI q) (zor (awaysF (uN (mi 67))) n)) (j + 1))), (4, .int (nI (j + 1)))]) (zle_cons rfl (zle_cons rfl (zle_cons rfl (zle_cons (by rw [e9]; rfl) (zle_cons rfl zle_nil))))) ?_
        exact ih (j + 1) (by omega)
      · refine Wp.run 2 (58, [(0, .ref 66), (1, .int (nI q)), (2, .int 0), (3, .int (chR (okC (fun j => zor (sungF (nI j) (fun k => uN (mi 67) k 2)) n) (nI q) (zor (awaysF (uN (mi 67))) n)) j)), (4, .int (nI j))], [.int (-5), .int (chR (okC (fun j => zor (sungF (nI j) (fun k => uN (mi 67) k 2)) n) (nI q) (zor (awaysF (uN (mi 67))) n)) j)], (zsh ++ vs, mi, ml, (zmr g))) rfl ?_
        refine Wp.icmp_eq rfl (fun h23 => ?_) (fun h23 => ?_)
        · refine Wp.run 6 (80, [(0, .ref 66), (1, .int (nI q)), (2, .int 0), (3, .int (chR (okC (fun j => zor (sungF (nI j) (fun k => uN (mi 67) k 2)) n) (nI q) (zor (awaysF (uN (mi 67))) n)) j)), (4, .int (nI j))], [.int 1, .int (nI j), .int (nI q), .ref 66], (zsh ++ vs, mi, ml, (zmr g))) rfl ?_
          refine Wp.call (as := [.ref 66, .int (nI q), .int (nI j), .int 1]) (rest := []) rfl rfl rfl rfl rfl (Nat.le_of_ble_eq_true rfl) (Nat.le_of_ble_eq_true rfl) rfl (by decide) (m_sg0 (s := j) hq hn h6) ?_
          rintro _ _ ⟨⟨b, rfl, hb⟩, rfl⟩
          rcases hb with ⟨ha, rfl⟩ | ⟨ha, rfl⟩
          · refine Wp.run 6 (31, [(4, .int ((nI j) + 1)), (3, .int (nI j)), (0, .ref 66), (1, .int (nI q)), (2, .int 0)], [], (zsh ++ vs, mi, ml, (zmr g))) rfl ?_
            have e9 : chR (okC (fun j => zor (sungF (nI j) (fun k => uN (mi 67) k 2)) n) (nI q) (zor (awaysF (uN (mi 67))) n)) (j + 1) = nI j := chR_y ⟨Or.inl h23, h22, ha⟩
            rw [nI_1]
            refine Wp.sub (a := [(0, .ref 66), (1, .int (nI q)), (2, .int 0), (3, .int (chR (okC (fun j => zor (sungF (nI j) (fun k => uN (mi 67) k 2)) n) (nI q) (zor (awaysF (uN (mi 67))) n)) (j + 1))), (4, .int (nI (j + 1)))]) (zle_cons rfl (zle_cons rfl (zle_cons rfl (zle_cons (by rw [e9]; rfl) (zle_cons rfl zle_nil))))) ?_
            exact ih (j + 1) (by omega)
          · refine Wp.run 5 (31, [(4, .int ((nI j) + 1)), (3, .int (chR (okC (fun j => zor (sungF (nI j) (fun k => uN (mi 67) k 2)) n) (nI q) (zor (awaysF (uN (mi 67))) n)) j)), (0, .ref 66), (1, .int (nI q)), (2, .int 0)], [], (zsh ++ vs, mi, ml, (zmr g))) rfl ?_
            have e9 : chR (okC (fun j => zor (sungF (nI j) (fun k => uN (mi 67) k 2)) n) (nI q) (zor (awaysF (uN (mi 67))) n)) (j + 1) = chR (okC (fun j => zor (sungF (nI j) (fun k => uN (mi 67) k 2)) n) (nI q) (zor (awaysF (uN (mi 67))) n)) j := chR_n (fun z => ha z.2.2)
            rw [nI_1]
            refine Wp.sub (a := [(0, .ref 66), (1, .int (nI q)), (2, .int 0), (3, .int (chR (okC (fun j => zor (sungF (nI j) (fun k => uN (mi 67) k 2)) n) (nI q) (zor (awaysF (uN (mi 67))) n)) (j + 1))), (4, .int (nI (j + 1)))]) (zle_cons rfl (zle_cons rfl (zle_cons rfl (zle_cons (by rw [e9]; rfl) (zle_cons rfl zle_nil))))) ?_
            exact ih (j + 1) (by omega)
        · refine Wp.run 1 (63, [(0, .ref 66), (1, .int (nI q)), (2, .int 0), (3, .int (chR (okC (fun j => zor (sungF (nI j) (fun k => uN (mi 67) k 2)) n) (nI q) (zor (awaysF (uN (mi 67))) n)) j)), (4, .int (nI j))], [.int (nI j)], (zsh ++ vs, mi, ml, (zmr g))) rfl ?_
          refine Wp.call (as := [.int (nI j)]) (rest := []) rfl rfl rfl rfl rfl (Nat.le_of_ble_eq_true rfl) (Nat.le_of_ble_eq_true rfl) rfl (by decide) (m_many (nI j)) ?_
          rintro _ _ ⟨rfl, rfl⟩
          refine Wp.run 1 (67, [(0, .ref 66), (1, .int (nI q)), (2, .int 0), (3, .int (chR (okC (fun j => zor (sungF (nI j) (fun k => uN (mi 67) k 2)) n) (nI q) (zor (awaysF (uN (mi 67))) n)) j)), (4, .int (nI j))], [.int (chR (okC (fun j => zor (sungF (nI j) (fun k => uN (mi 67) k 2)) n) (nI q) (zor (awaysF (uN (mi 67))) n)) j), .int (zmany (nI j))], (zsh ++ vs, mi, ml, (zmr g))) rfl ?_
          refine Wp.call (as := [.int (chR (okC (fun j => zor (sungF (nI j) (fun k => uN (mi 67) k 2)) n) (nI q) (zor (awaysF (uN (mi 67))) n)) j)]) (rest := [.int (zmany (nI j))]) rfl rfl rfl rfl rfl (Nat.le_of_ble_eq_true rfl) (Nat.le_of_ble_eq_true rfl) rfl (by decide) (m_many (chR (okC (fun j => zor (sungF (nI j) (fun k => uN (mi 67) k 2)) n) (nI q) (zor (awaysF (uN (mi 67))) n)) j)) ?_
          rintro _ _ ⟨rfl, rfl⟩
          refine Wp.run 0 (70, [(0, .ref 66), (1, .int (nI q)), (2, .int 0), (3, .int (chR (okC (fun j => zor (sungF (nI j) (fun k => uN (mi 67) k 2)) n) (nI q) (zor (awaysF (uN (mi 67))) n)) j)), (4, .int (nI j))], [.int (zmany (chR (okC (fun j => zor (sungF (nI j) (fun k => uN (mi 67) k 2)) n) (nI q) (zor (awaysF (uN (mi 67))) n)) j)), .int (zmany (nI j))], (zsh ++ vs, mi, ml, (zmr g))) rfl ?_
          refine Wp.icmp_ge rfl (fun h24 => ?_) (fun h24 => ?_)
          · refine Wp.run 2 (31, [(4, .int ((nI j) + 1)), (0, .ref 66), (1, .int (nI q)), (2, .int 0), (3, .int (chR (okC (fun j => zor (sungF (nI j) (fun k => uN (mi 67) k 2)) n) (nI q) (zor (awaysF (uN (mi 67))) n)) j))], [], (zsh ++ vs, mi, ml, (zmr g))) rfl ?_
            have e9 : chR (okC (fun j => zor (sungF (nI j) (fun k => uN (mi 67) k 2)) n) (nI q) (zor (awaysF (uN (mi 67))) n)) (j + 1) = chR (okC (fun j => zor (sungF (nI j) (fun k => uN (mi 67) k 2)) n) (nI q) (zor (awaysF (uN (mi 67))) n)) j := chR_n (fun z => z.1.elim h23 (Int32.not_lt.mpr h24))
            rw [nI_1]
            refine Wp.sub (a := [(0, .ref 66), (1, .int (nI q)), (2, .int 0), (3, .int (chR (okC (fun j => zor (sungF (nI j) (fun k => uN (mi 67) k 2)) n) (nI q) (zor (awaysF (uN (mi 67))) n)) (j + 1))), (4, .int (nI (j + 1)))]) (zle_cons rfl (zle_cons rfl (zle_cons rfl (zle_cons (by rw [e9]; rfl) (zle_cons rfl zle_nil))))) ?_
            exact ih (j + 1) (by omega)
          · refine Wp.run 6 (80, [(0, .ref 66), (1, .int (nI q)), (2, .int 0), (3, .int (chR (okC (fun j => zor (sungF (nI j) (fun k => uN (mi 67) k 2)) n) (nI q) (zor (awaysF (uN (mi 67))) n)) j)), (4, .int (nI j))], [.int 1, .int (nI j), .int (nI q), .ref 66], (zsh ++ vs, mi, ml, (zmr g))) rfl ?_
            refine Wp.call (as := [.ref 66, .int (nI q), .int (nI j), .int 1]) (rest := []) rfl rfl rfl rfl rfl (Nat.le_of_ble_eq_true rfl) (Nat.le_of_ble_eq_true rfl) rfl (by decide) (m_sg0 (s := j) hq hn h6) ?_
            rintro _ _ ⟨⟨b, rfl, hb⟩, rfl⟩
            rcases hb with ⟨ha, rfl⟩ | ⟨ha, rfl⟩
            · refine Wp.run 6 (31, [(4, .int ((nI j) + 1)), (3, .int (nI j)), (0, .ref 66), (1, .int (nI q)), (2, .int 0)], [], (zsh ++ vs, mi, ml, (zmr g))) rfl ?_
              have e9 : chR (okC (fun j => zor (sungF (nI j) (fun k => uN (mi 67) k 2)) n) (nI q) (zor (awaysF (uN (mi 67))) n)) (j + 1) = nI j := chR_y ⟨Or.inr (Int32.not_le.mp h24), h22, ha⟩
              rw [nI_1]
              refine Wp.sub (a := [(0, .ref 66), (1, .int (nI q)), (2, .int 0), (3, .int (chR (okC (fun j => zor (sungF (nI j) (fun k => uN (mi 67) k 2)) n) (nI q) (zor (awaysF (uN (mi 67))) n)) (j + 1))), (4, .int (nI (j + 1)))]) (zle_cons rfl (zle_cons rfl (zle_cons rfl (zle_cons (by rw [e9]; rfl) (zle_cons rfl zle_nil))))) ?_
              exact ih (j + 1) (by omega)
            · refine Wp.run 5 (31, [(4, .int ((nI j) + 1)), (3, .int (chR (okC (fun j => zor (sungF (nI j) (fun k => uN (mi 67) k 2)) n) (nI q) (zor (awaysF (uN (mi 67))) n)) j)), (0, .ref 66), (1, .int (nI q)), (2, .int 0)], [], (zsh ++ vs, mi, ml, (zmr g))) rfl ?_
              have e9 : chR (okC (fun j => zor (sungF (nI j) (fun k => uN (mi 67) k 2)) n) (nI q) (zor (awaysF (uN (mi 67))) n)) (j + 1) = chR (okC (fun j => zor (sungF (nI j) (fun k => uN (mi 67) k 2)) n) (nI q) (zor (awaysF (uN (mi 67))) n)) j := chR_n (fun z => ha z.2.2)
              rw [nI_1]
              refine Wp.sub (a := [(0, .ref 66), (1, .int (nI q)), (2, .int 0), (3, .int (chR (okC (fun j => zor (sungF (nI j) (fun k => uN (mi 67) k 2)) n) (nI q) (zor (awaysF (uN (mi 67))) n)) (j + 1))), (4, .int (nI (j + 1)))]) (zle_cons rfl (zle_cons rfl (zle_cons rfl (zle_cons (by rw [e9]; rfl) (zle_cons rfl zle_nil))))) ?_
              exact ih (j + 1) (by omega)
theorem m_sg_i1 {E : zEn} {vs : List (Nat × Nat)} {mi : Nat → Nat → Int32} {ml : Nat → Nat → Int64} {g : Nat → Nat → Option Nat} {q s p n : Nat} {b : Int32} (hn : mi 67 68 = nI n) (h6 : n ≤ 6) {P : Option Value → zW → Prop} (hn9 : n < 2147483648) (K : Wp E 2 pg_M_isSung 68 [(0, .ref 66), (1, .int (nI q)), (2, .int (nI s)), (3, .int 2), (4, .int b), (5, .int (nI p)), (6, .int (zsum (fun i => if nI s >>> (nI i &&& 31) &&& 1 = 1 ∧ mi 67 (8 + 10 * i + 2) >>> (nI p &&& 31) &&& 1 = 1 then (1 : Int32) else 0) n)), (7, .int (nI n))] [] (zsh ++ vs, mi, ml, (zmr g)) P) : ∀ (k j : Nat), j + k = n → Wp E 2 pg_M_isSung 19 [(0, .ref 66), (1, .int (nI q)), (2, .int (nI s)), (3, .int 2), (4, .int b), (5, .int (nI p)), (6, .int (zsum (fun i => if nI s >>> (nI i &&& 31) &&& 1 = 1 ∧ mi 67 (8 + 10 * i + 2) >>> (nI p &&& 31) &&& 1 = 1 then (1 : Int32) else 0) j)), (7, .int (nI j))] [] (zsh ++ vs, mi, ml, (zmr g)) P := by
  intro k
  induction k with
  | zero =>
    intro j hj9
    obtain rfl : n = j := by omega
    refine Wp.run 5 (28, [(0, .ref 66), (1, .int (nI q)), (2, .int (nI s)), (3, .int 2), (4, .int b), (5, .int (nI p)), (6, .int (zsum (fun i => if nI s >>> (nI i &&& 31) &&& 1 = 1 ∧ mi 67 (8 + 10 * i + 2) >>> (nI p &&& 31) &&& 1 = 1 then (1 : Int32) else 0) n)), (7, .int (nI n))], [.int (mi 67 68), .int (nI n)], (zsh ++ vs, mi, ml, (zmr g))) rfl ?_
    refine Wp.topi (y := nI n) (hn) ?_
    refine Wp.run 0 (28, [(0, .ref 66), (1, .int (nI q)), (2, .int (nI s)), (3, .int 2), (4, .int b), (5, .int (nI p)), (6, .int (zsum (fun i => if nI s >>> (nI i &&& 31) &&& 1 = 1 ∧ mi 67 (8 + 10 * i + 2) >>> (nI p &&& 31) &&& 1 = 1 then (1 : Int32) else 0) n)), (7, .int (nI n))], [.int (nI n), .int (nI n)], (zsh ++ vs, mi, ml, (zmr g))) rfl ?_
    refine Wp.icmp_ge rfl (fun h1 => ?_) (fun h1 => ?_)
    · exact K
    · exact absurd (Int32.le_refl _) h1
  | succ k ih =>
    intro j hj9
    have hlt9 : j < n := by omega
    refine Wp.run 5 (28, [(0, .ref 66), (1, .int (nI q)), (2, .int (nI s)), (3, .int 2), (4, .int b), (5, .int (nI p)), (6, .int (zsum (fun i => if nI s >>> (nI i &&& 31) &&& 1 = 1 ∧ mi 67 (8 + 10 * i + 2) >>> (nI p &&& 31) &&& 1 = 1 then (1 : Int32) else 0) j)), (7, .int (nI j))], [.int (mi 67 68), .int (nI j)], (zsh ++ vs, mi, ml, (zmr g))) rfl ?_
    refine Wp.topi (y := nI n) (hn) ?_
    refine Wp.run 0 (28, [(0, .ref 66), (1, .int (nI q)), (2, .int (nI s)), (3, .int 2), (4, .int b), (5, .int (nI p)), (6, .int (zsum (fun i => if nI s >>> (nI i &&& 31) &&& 1 = 1 ∧ mi 67 (8 + 10 * i + 2) >>> (nI p &&& 31) &&& 1 = 1 then (1 : Int32) else 0) j)), (7, .int (nI j))], [.int (nI n), .int (nI j)], (zsh ++ vs, mi, ml, (zmr g))) rfl ?_
    refine Wp.icmp_ge rfl (fun h1 => ?_) (fun h1 => ?_)
    · exact absurd h1 (nI_ge hlt9 hn9)
    · refine Wp.run 7 (40, [(0, .ref 66), (1, .int (nI q)), (2, .int (nI s)), (3, .int 2), (4, .int b), (5, .int (nI p)), (6, .int (zsum (fun i => if nI s >>> (nI i &&& 31) &&& 1 = 1 ∧ mi 67 (8 + 10 * i + 2) >>> (nI p &&& 31) &&& 1 = 1 then (1 : Int32) else 0) j)), (7, .int (nI j))], [.int 1, .int (((nI s) >>> ((nI j) &&& 31)) &&& 1), .int (zsum (fun i => if nI s >>> (nI i &&& 31) &&& 1 = 1 ∧ mi 67 (8 + 10 * i + 2) >>> (nI p &&& 31) &&& 1 = 1 then (1 : Int32) else 0) j)], (zsh ++ vs, mi, ml, (zmr g))) rfl ?_
      refine Wp.icmp_ne rfl (fun h2 => ?_) (fun h2 => ?_)
      · refine Wp.run 5 (19, [(7, .int ((nI j) + 1)), (6, .int ((zsum (fun i => if nI s >>> (nI i &&& 31) &&& 1 = 1 ∧ mi 67 (8 + 10 * i + 2) >>> (nI p &&& 31) &&& 1 = 1 then (1 : Int32) else 0) j) + 0)), (0, .ref 66), (1, .int (nI q)), (2, .int (nI s)), (3, .int 2), (4, .int b), (5, .int (nI p))], [], (zsh ++ vs, mi, ml, (zmr g))) rfl ?_
        have e9 : zsum (fun i => if nI s >>> (nI i &&& 31) &&& 1 = 1 ∧ mi 67 (8 + 10 * i + 2) >>> (nI p &&& 31) &&& 1 = 1 then (1 : Int32) else 0) (j + 1) = zsum (fun i => if nI s >>> (nI i &&& 31) &&& 1 = 1 ∧ mi 67 (8 + 10 * i + 2) >>> (nI p &&& 31) &&& 1 = 1 then (1 : Int32) else 0) j + 0 := by
          rw [zsum]
          exact congrArg (fun z => zsum (fun i => if nI s >>> (nI i &&& 31) &&& 1 = 1 ∧ mi 67 (8 + 10 * i + 2) >>> (nI p &&& 31) &&& 1 = 1 then (1 : Int32) else 0) j + z) (if_neg (fun z => h2 z.1))
        rw [nI_1]
        refine Wp.sub (a := [(0, .ref 66), (1, .int (nI q)), (2, .int (nI s)), (3, .int 2), (4, .int b), (5, .int (nI p)), (6, .int (zsum (fun i => if nI s >>> (nI i &&& 31) &&& 1 = 1 ∧ mi 67 (8 + 10 * i + 2) >>> (nI p &&& 31) &&& 1 = 1 then (1 : Int32) else 0) (j + 1))), (7, .int (nI (j + 1)))]) (zle_cons rfl (zle_cons rfl (zle_cons rfl (zle_cons rfl (zle_cons rfl (zle_cons rfl (zle_cons (by rw [e9]; rfl) (zle_cons rfl zle_nil)))))))) ?_
        exact ih (j + 1) (by omega)
      · refine Wp.run 3 (48, [(0, .ref 66), (1, .int (nI q)), (2, .int (nI s)), (3, .int 2), (4, .int b), (5, .int (nI p)), (6, .int (zsum (fun i => if nI s >>> (nI i &&& 31) &&& 1 = 1 ∧ mi 67 (8 + 10 * i + 2) >>> (nI p &&& 31) &&& 1 = 1 then (1 : Int32) else 0) j)), (7, .int (nI j))], [.int (nI p), .int (nI j), .ref 66, .int (zsum (fun i => if nI s >>> (nI i &&& 31) &&& 1 = 1 ∧ mi 67 (8 + 10 * i + 2) >>> (nI p &&& 31) &&& 1 = 1 then (1 : Int32) else 0) j)], (zsh ++ vs, mi, ml, (zmr g))) rfl ?_
        refine Wp.call (as := [.ref 66, .int (nI j), .int (nI p)]) (rest := [.int (zsum (fun i => if nI s >>> (nI i &&& 31) &&& 1 = 1 ∧ mi 67 (8 + 10 * i + 2) >>> (nI p &&& 31) &&& 1 = 1 then (1 : Int32) else 0) j)]) rfl rfl rfl rfl rfl (Nat.le_of_ble_eq_true rfl) (Nat.le_of_ble_eq_true rfl) rfl (by decide) (m_isHeld j (nI p) (by omega)) ?_
        rintro _ _ ⟨rfl, rfl⟩
        by_cases c5 : mi 67 (8 + 10 * j + 2) >>> (nI p &&& 31) &&& 1 = 1
        · rw [if_pos c5]
          refine Wp.run 7 (19, [(7, .int ((nI j) + 1)), (6, .int ((zsum (fun i => if nI s >>> (nI i &&& 31) &&& 1 = 1 ∧ mi 67 (8 + 10 * i + 2) >>> (nI p &&& 31) &&& 1 = 1 then (1 : Int32) else 0) j) + 1)), (0, .ref 66), (1, .int (nI q)), (2, .int (nI s)), (3, .int 2), (4, .int b), (5, .int (nI p))], [], (zsh ++ vs, mi, ml, (zmr g))) rfl ?_
          have e9 : zsum (fun i => if nI s >>> (nI i &&& 31) &&& 1 = 1 ∧ mi 67 (8 + 10 * i + 2) >>> (nI p &&& 31) &&& 1 = 1 then (1 : Int32) else 0) (j + 1) = zsum (fun i => if nI s >>> (nI i &&& 31) &&& 1 = 1 ∧ mi 67 (8 + 10 * i + 2) >>> (nI p &&& 31) &&& 1 = 1 then (1 : Int32) else 0) j + 1 := by
            rw [zsum]
            exact congrArg (fun z => zsum (fun i => if nI s >>> (nI i &&& 31) &&& 1 = 1 ∧ mi 67 (8 + 10 * i + 2) >>> (nI p &&& 31) &&& 1 = 1 then (1 : Int32) else 0) j + z) (if_pos ⟨h2, c5⟩)
          rw [nI_1]
          refine Wp.sub (a := [(0, .ref 66), (1, .int (nI q)), (2, .int (nI s)), (3, .int 2), (4, .int b), (5, .int (nI p)), (6, .int (zsum (fun i => if nI s >>> (nI i &&& 31) &&& 1 = 1 ∧ mi 67 (8 + 10 * i + 2) >>> (nI p &&& 31) &&& 1 = 1 then (1 : Int32) else 0) (j + 1))), (7, .int (nI (j + 1)))]) (zle_cons rfl (zle_cons rfl (zle_cons rfl (zle_cons rfl (zle_cons rfl (zle_cons rfl (zle_cons (by rw [e9]; rfl) (zle_cons rfl zle_nil)))))))) ?_
          exact ih (j + 1) (by omega)
        · rw [if_neg c5]
          refine Wp.run 6 (19, [(7, .int ((nI j) + 1)), (6, .int ((zsum (fun i => if nI s >>> (nI i &&& 31) &&& 1 = 1 ∧ mi 67 (8 + 10 * i + 2) >>> (nI p &&& 31) &&& 1 = 1 then (1 : Int32) else 0) j) + 0)), (0, .ref 66), (1, .int (nI q)), (2, .int (nI s)), (3, .int 2), (4, .int b), (5, .int (nI p))], [], (zsh ++ vs, mi, ml, (zmr g))) rfl ?_
          have e9 : zsum (fun i => if nI s >>> (nI i &&& 31) &&& 1 = 1 ∧ mi 67 (8 + 10 * i + 2) >>> (nI p &&& 31) &&& 1 = 1 then (1 : Int32) else 0) (j + 1) = zsum (fun i => if nI s >>> (nI i &&& 31) &&& 1 = 1 ∧ mi 67 (8 + 10 * i + 2) >>> (nI p &&& 31) &&& 1 = 1 then (1 : Int32) else 0) j + 0 := by
            rw [zsum]
            exact congrArg (fun z => zsum (fun i => if nI s >>> (nI i &&& 31) &&& 1 = 1 ∧ mi 67 (8 + 10 * i + 2) >>> (nI p &&& 31) &&& 1 = 1 then (1 : Int32) else 0) j + z) (if_neg (fun z => c5 z.2))
          rw [nI_1]
          refine Wp.sub (a := [(0, .ref 66), (1, .int (nI q)), (2, .int (nI s)), (3, .int 2), (4, .int b), (5, .int (nI p)), (6, .int (zsum (fun i => if nI s >>> (nI i &&& 31) &&& 1 = 1 ∧ mi 67 (8 + 10 * i + 2) >>> (nI p &&& 31) &&& 1 = 1 then (1 : Int32) else 0) (j + 1))), (7, .int (nI (j + 1)))]) (zle_cons rfl (zle_cons rfl (zle_cons rfl (zle_cons rfl (zle_cons rfl (zle_cons rfl (zle_cons (by rw [e9]; rfl) (zle_cons rfl zle_nil)))))))) ?_
          exact ih (j + 1) (by omega)
theorem m_sg_o1 {E : zEn} {vs : List (Nat × Nat)} {mi : Nat → Nat → Int32} {ml : Nat → Nat → Int64} {g : Nat → Nat → Option Nat} {q s n : Nat} (hq : q < 256) (hn : mi 67 68 = nI n) (h6 : n ≤ 6) : ∀ (k p : Nat) (b : Int32), p + k = 8 → ((b = 1 ∧ ∀ r, r < p → bt (nI q) r = true → 2 ≤ cntN (sungF (nI s) (fun k => uN (mi 67) k 2)) r n) ∨ (b = 0 ∧ ¬ (∀ r, r < p → bt (nI q) r = true → 2 ≤ cntN (sungF (nI s) (fun k => uN (mi 67) k 2)) r n))) → Wp E 2 pg_M_isSung 6 [(0, .ref 66), (1, .int (nI q)), (2, .int (nI s)), (3, .int 2), (4, .int b), (5, .int (nI p))] [] (zsh ++ vs, mi, ml, zmr g) (fun r w' => (∃ b, r = some (.int b) ∧ ((nI q &&& ((ztw (sungF (nI s) (fun k => uN (mi 67) k 2)) n) ^^^ -1) = 0 ∧ b = 1) ∨ (¬ (nI q &&& ((ztw (sungF (nI s) (fun k => uN (mi 67) k 2)) n) ^^^ -1) = 0) ∧ b = 0))) ∧ w' = (zsh ++ vs, mi, ml, zmr g)) := by
  have key : (nI q &&& ((ztw (sungF (nI s) (fun k => uN (mi 67) k 2)) n) ^^^ -1) = 0) ↔ ∀ r, r < 8 → bt (nI q) r = true → 2 ≤ cntN (sungF (nI s) (fun k => uN (mi 67) k 2)) r n := by
    rw [sg_iff hq]
    exact ⟨fun h p hp hx => (cnt_tw n).mp (h p hp hx), fun h p hp hx => (cnt_tw n).mpr (h p hp hx)⟩
  intro k
  induction k with
  | zero =>
    intro p b hj hb
    obtain rfl : 8 = p := by omega
    rcases hb with ⟨rfl, hb⟩ | ⟨rfl, hb⟩
    · skip
      refine Wp.run 4 (103, [(0, .ref 66), (1, .int (nI q)), (2, .int (nI s)), (3, .int 2), (4, .int 1), (5, .int 8)], [.int 1], (zsh ++ vs, mi, ml, (zmr g))) rfl ?_
      refine Wp.ret rfl rfl rfl ?_
      exact ⟨⟨1, rfl, Or.inl ⟨key.mpr hb, rfl⟩⟩, rfl⟩
    · skip
      refine Wp.run 4 (103, [(0, .ref 66), (1, .int (nI q)), (2, .int (nI s)), (3, .int 2), (4, .int 0), (5, .int 8)], [.int 0], (zsh ++ vs, mi, ml, (zmr g))) rfl ?_
      refine Wp.ret rfl rfl rfl ?_
      exact ⟨⟨0, rfl, Or.inr ⟨fun z => hb (key.mp z), rfl⟩⟩, rfl⟩
  | succ k ih =>
    intro p b hj hb
    have hp8 : p < 8 := by omega
    rcases hb with ⟨rfl, hb⟩ | ⟨rfl, hb⟩
    · skip
      refine Wp.run 2 (10, [(0, .ref 66), (1, .int (nI q)), (2, .int (nI s)), (3, .int 2), (4, .int 1), (5, .int (nI p))], [.int 8, .int (nI p)], (zsh ++ vs, mi, ml, (zmr g))) rfl ?_
      refine Wp.icmp_ge rfl (fun h41 => ?_) (fun h41 => ?_)
      · exact absurd h41 (nI_ge (b := 8) hp8 (by decide))
      · refine Wp.run 4 (19, [(7, .int 0), (6, .int 0), (0, .ref 66), (1, .int (nI q)), (2, .int (nI s)), (3, .int 2), (4, .int 1), (5, .int (nI p))], [], (zsh ++ vs, mi, ml, (zmr g))) rfl ?_
        have K : Wp E 2 pg_M_isSung 68 [(0, .ref 66), (1, .int (nI q)), (2, .int (nI s)), (3, .int 2), (4, .int 1), (5, .int (nI p)), (6, .int (zsum (fun i => if nI s >>> (nI i &&& 31) &&& 1 = 1 ∧ mi 67 (8 + 10 * i + 2) >>> (nI p &&& 31) &&& 1 = 1 then (1 : Int32) else 0) n)), (7, .int (nI n))] [] (zsh ++ vs, mi, ml, zmr g) (fun r w' => (∃ b, r = some (.int b) ∧ ((nI q &&& ((ztw (sungF (nI s) (fun k => uN (mi 67) k 2)) n) ^^^ -1) = 0 ∧ b = 1) ∨ (¬ (nI q &&& ((ztw (sungF (nI s) (fun k => uN (mi 67) k 2)) n) ^^^ -1) = 0) ∧ b = 0))) ∧ w' = (zsh ++ vs, mi, ml, zmr g)) := by
          refine Wp.run 7 (79, [(0, .ref 66), (1, .int (nI q)), (2, .int (nI s)), (3, .int 2), (4, .int 1), (5, .int (nI p)), (6, .int (zsum (fun i => if nI s >>> (nI i &&& 31) &&& 1 = 1 ∧ mi 67 (8 + 10 * i + 2) >>> (nI p &&& 31) &&& 1 = 1 then (1 : Int32) else 0) n)), (7, .int (nI n))], [.int (((nI q) >>> ((nI p) &&& 31)) &&& 1)], (zsh ++ vs, mi, ml, (zmr g))) rfl ?_
          refine Wp.if_eq rfl (fun h21 => ?_) (fun h21 => ?_)
          · refine Wp.run 5 (6, [(5, .int ((nI p) + 1)), (4, .int 1), (0, .ref 66), (1, .int (nI q)), (2, .int (nI s)), (3, .int 2), (6, .int (zsum (fun i => if nI s >>> (nI i &&& 31) &&& 1 = 1 ∧ mi 67 (8 + 10 * i + 2) >>> (nI p &&& 31) &&& 1 = 1 then (1 : Int32) else 0) n)), (7, .int (nI n))], [], (zsh ++ vs, mi, ml, (zmr g))) rfl ?_
            rw [nI_1]
            refine Wp.sub (a := [(0, .ref 66), (1, .int (nI q)), (2, .int (nI s)), (3, .int 2), (4, .int 1), (5, .int (nI (p + 1)))]) (zle_cons rfl (zle_cons rfl (zle_cons rfl (zle_cons rfl (zle_cons rfl (zle_cons rfl (zle_nil))))))) ?_
            refine ih (p + 1) 1 (by omega) (Or.inl ⟨rfl, fun r hr hx => ?_⟩)
            by_cases er : r = p
            · subst er
              rw [(bit1_zero _ (by omega)).mp h21] at hx; cases hx
            · exact hb r (by omega) hx
          · refine Wp.run 1 (84, [(0, .ref 66), (1, .int (nI q)), (2, .int (nI s)), (3, .int 2), (4, .int 1), (5, .int (nI p)), (6, .int (zsum (fun i => if nI s >>> (nI i &&& 31) &&& 1 = 1 ∧ mi 67 (8 + 10 * i + 2) >>> (nI p &&& 31) &&& 1 = 1 then (1 : Int32) else 0) n)), (7, .int (nI n))], [.int (zsum (fun i => if nI s >>> (nI i &&& 31) &&& 1 = 1 ∧ mi 67 (8 + 10 * i + 2) >>> (nI p &&& 31) &&& 1 = 1 then (1 : Int32) else 0) n)], (zsh ++ vs, mi, ml, (zmr g))) rfl ?_
            refine Wp.topi (y := nI (cntN (sungF (nI s) (fun k => uN (mi 67) k 2)) p n)) (cn_eq (by omega) n (by omega)) ?_
            refine Wp.run 1 (85, [(0, .ref 66), (1, .int (nI q)), (2, .int (nI s)), (3, .int 2), (4, .int 1), (5, .int (nI p)), (6, .int (zsum (fun i => if nI s >>> (nI i &&& 31) &&& 1 = 1 ∧ mi 67 (8 + 10 * i + 2) >>> (nI p &&& 31) &&& 1 = 1 then (1 : Int32) else 0) n)), (7, .int (nI n))], [.int 2, .int (nI (cntN (sungF (nI s) (fun k => uN (mi 67) k 2)) p n))], (zsh ++ vs, mi, ml, (zmr g))) rfl ?_
            refine Wp.icmp_lt rfl (fun h22 => ?_) (fun h22 => ?_)
            · refine Wp.run 4 (6, [(5, .int ((nI p) + 1)), (4, .int 0), (0, .ref 66), (1, .int (nI q)), (2, .int (nI s)), (3, .int 2), (6, .int (zsum (fun i => if nI s >>> (nI i &&& 31) &&& 1 = 1 ∧ mi 67 (8 + 10 * i + 2) >>> (nI p &&& 31) &&& 1 = 1 then (1 : Int32) else 0) n)), (7, .int (nI n))], [], (zsh ++ vs, mi, ml, (zmr g))) rfl ?_
              rw [nI_1]
              refine Wp.sub (a := [(0, .ref 66), (1, .int (nI q)), (2, .int (nI s)), (3, .int 2), (4, .int 0), (5, .int (nI (p + 1)))]) (zle_cons rfl (zle_cons rfl (zle_cons rfl (zle_cons rfl (zle_cons rfl (zle_cons rfl (zle_nil))))))) ?_
              refine ih (p + 1) 0 (by omega) (Or.inr ⟨rfl, fun z => ?_⟩)
              have hx : bt (nI q) p = true := by
                cases hx : bt (nI q) p with
                | true => rfl
                | false => exact absurd ((bit1_zero _ (by omega)).mpr hx) h21
              have := cntN_le (f := sungF (nI s) (fun k => uN (mi 67) k 2)) (p := p) n
              exact absurd (nI_le (a := 2) (z p (by omega) hx) (by omega)) (Int32.not_le.mpr h22)
            · refine Wp.run 5 (6, [(5, .int ((nI p) + 1)), (4, .int 1), (0, .ref 66), (1, .int (nI q)), (2, .int (nI s)), (3, .int 2), (6, .int (zsum (fun i => if nI s >>> (nI i &&& 31) &&& 1 = 1 ∧ mi 67 (8 + 10 * i + 2) >>> (nI p &&& 31) &&& 1 = 1 then (1 : Int32) else 0) n)), (7, .int (nI n))], [], (zsh ++ vs, mi, ml, (zmr g))) rfl ?_
              rw [nI_1]
              refine Wp.sub (a := [(0, .ref 66), (1, .int (nI q)), (2, .int (nI s)), (3, .int 2), (4, .int 1), (5, .int (nI (p + 1)))]) (zle_cons rfl (zle_cons rfl (zle_cons rfl (zle_cons rfl (zle_cons rfl (zle_cons rfl (zle_nil))))))) ?_
              refine ih (p + 1) 1 (by omega) (Or.inl ⟨rfl, fun r hr hx => ?_⟩)
              by_cases er : r = p
              · subst er
                exact (nI_leI (a := 2) (by decide) (by have := cntN_le (f := sungF (nI s) (fun k => uN (mi 67) k 2)) (p := r) n; omega)).mp (Int32.not_lt.mp h22)
              · exact hb r (by omega) hx
        refine Wp.sub (a := [(0, .ref 66), (1, .int (nI q)), (2, .int (nI s)), (3, .int 2), (4, .int 1), (5, .int (nI p)), (6, .int (zsum (fun i => if nI s >>> (nI i &&& 31) &&& 1 = 1 ∧ mi 67 (8 + 10 * i + 2) >>> (nI p &&& 31) &&& 1 = 1 then (1 : Int32) else 0) 0)), (7, .int (nI 0))]) (zle_cons rfl (zle_cons rfl (zle_cons rfl (zle_cons rfl (zle_cons rfl (zle_cons rfl (zle_cons rfl (zle_cons rfl (zle_nil))))))))) ?_
        exact m_sg_i1 hn h6 (by omega) K n 0 (by omega)
    · skip
      refine Wp.run 2 (10, [(0, .ref 66), (1, .int (nI q)), (2, .int (nI s)), (3, .int 2), (4, .int 0), (5, .int (nI p))], [.int 8, .int (nI p)], (zsh ++ vs, mi, ml, (zmr g))) rfl ?_
      refine Wp.icmp_ge rfl (fun h41 => ?_) (fun h41 => ?_)
      · exact absurd h41 (nI_ge (b := 8) hp8 (by decide))
      · refine Wp.run 4 (19, [(7, .int 0), (6, .int 0), (0, .ref 66), (1, .int (nI q)), (2, .int (nI s)), (3, .int 2), (4, .int 0), (5, .int (nI p))], [], (zsh ++ vs, mi, ml, (zmr g))) rfl ?_
        have K : Wp E 2 pg_M_isSung 68 [(0, .ref 66), (1, .int (nI q)), (2, .int (nI s)), (3, .int 2), (4, .int 0), (5, .int (nI p)), (6, .int (zsum (fun i => if nI s >>> (nI i &&& 31) &&& 1 = 1 ∧ mi 67 (8 + 10 * i + 2) >>> (nI p &&& 31) &&& 1 = 1 then (1 : Int32) else 0) n)), (7, .int (nI n))] [] (zsh ++ vs, mi, ml, zmr g) (fun r w' => (∃ b, r = some (.int b) ∧ ((nI q &&& ((ztw (sungF (nI s) (fun k => uN (mi 67) k 2)) n) ^^^ -1) = 0 ∧ b = 1) ∨ (¬ (nI q &&& ((ztw (sungF (nI s) (fun k => uN (mi 67) k 2)) n) ^^^ -1) = 0) ∧ b = 0))) ∧ w' = (zsh ++ vs, mi, ml, zmr g)) := by
          refine Wp.run 6 (6, [(5, .int ((nI p) + 1)), (4, .int 0), (0, .ref 66), (1, .int (nI q)), (2, .int (nI s)), (3, .int 2), (6, .int (zsum (fun i => if nI s >>> (nI i &&& 31) &&& 1 = 1 ∧ mi 67 (8 + 10 * i + 2) >>> (nI p &&& 31) &&& 1 = 1 then (1 : Int32) else 0) n)), (7, .int (nI n))], [], (zsh ++ vs, mi, ml, (zmr g))) rfl ?_
          rw [nI_1]
          refine Wp.sub (a := [(0, .ref 66), (1, .int (nI q)), (2, .int (nI s)), (3, .int 2), (4, .int 0), (5, .int (nI (p + 1)))]) (zle_cons rfl (zle_cons rfl (zle_cons rfl (zle_cons rfl (zle_cons rfl (zle_cons rfl (zle_nil))))))) ?_
          exact ih (p + 1) 0 (by omega) (Or.inr ⟨rfl, fun z => hb (fun r hr => z r (by omega))⟩)
        refine Wp.sub (a := [(0, .ref 66), (1, .int (nI q)), (2, .int (nI s)), (3, .int 2), (4, .int 0), (5, .int (nI p)), (6, .int (zsum (fun i => if nI s >>> (nI i &&& 31) &&& 1 = 1 ∧ mi 67 (8 + 10 * i + 2) >>> (nI p &&& 31) &&& 1 = 1 then (1 : Int32) else 0) 0)), (7, .int (nI 0))]) (zle_cons rfl (zle_cons rfl (zle_cons rfl (zle_cons rfl (zle_cons rfl (zle_cons rfl (zle_cons rfl (zle_cons rfl (zle_nil))))))))) ?_
        exact m_sg_i1 hn h6 (by omega) K n 0 (by omega)
theorem m_sg1 {E : zEn} {vs : List (Nat × Nat)} {mi : Nat → Nat → Int32} {ml : Nat → Nat → Int64} {g : Nat → Nat → Option Nat} {q s n : Nat} (hq : q < 256) (hn : mi 67 68 = nI n) (h6 : n ≤ 6) : Wp E 2 pg_M_isSung 0 (lv_args 0 [.ref 66, .int (nI q), .int (nI s), .int 2]) [] (zsh ++ vs, mi, ml, (zmr g)) (fun r w' => (∃ b, r = some (.int b) ∧ ((nI q &&& ((ztw (sungF (nI s) (fun k => uN (mi 67) k 2)) n) ^^^ -1) = 0 ∧ b = 1) ∨ (¬ (nI q &&& ((ztw (sungF (nI s) (fun k => uN (mi 67) k 2)) n) ^^^ -1) = 0) ∧ b = 0))) ∧ w' = (zsh ++ vs, mi, ml, zmr g)) := by
  refine Wp.run 4 (6, [(5, .int 0), (4, .int 1), (0, .ref 66), (1, .int (nI q)), (2, .int (nI s)), (3, .int 2)], [], (zsh ++ vs, mi, ml, (zmr g))) rfl ?_
  refine Wp.sub (a := [(0, .ref 66), (1, .int (nI q)), (2, .int (nI s)), (3, .int 2), (4, .int 1), (5, .int (nI 0))]) (zle_cons rfl (zle_cons rfl (zle_cons rfl (zle_cons rfl (zle_cons rfl (zle_cons rfl (zle_nil))))))) ?_
  exact m_sg_o1 hq hn h6 8 0 1 (by omega) (Or.inl ⟨rfl, fun r hr => absurd hr (Nat.not_lt_zero r)⟩)
theorem m_ch_l1 {E : zEn} {vs : List (Nat × Nat)} {mi : Nat → Nat → Int32} {ml : Nat → Nat → Int64} {g : Nat → Nat → Option Nat} {q n : Nat} (hq : q < 256) (hn : mi 67 68 = nI n) (h6 : n ≤ 6) : ∀ (k j : Nat), j + k = 2 ^ n → Wp E 3 pg_M_choir 31 [(0, .ref 66), (1, .int (nI q)), (2, .int 1), (3, .int (chR (okC (fun j => ztw (sungF (nI j) (fun k => uN (mi 67) k 2)) n) (nI q) (zor (awaysF (uN (mi 67))) n)) j)), (4, .int (nI j))] [] (zsh ++ vs, mi, ml, zmr g) (fun r w' => r = some (.int (chR (okC (fun j => ztw (sungF (nI j) (fun k => uN (mi 67) k 2)) n) (nI q) (zor (awaysF (uN (mi 67))) n)) (2 ^ n))) ∧ w' = (zsh ++ vs, mi, ml, zmr g)) := by
  have hM := pw6 h6
  intro k
  induction k with
  | zero =>
    intro j hj
    have ej : j = 2 ^ n := by omega
    rw [ej]
    refine Wp.run 6 (41, [(0, .ref 66), (1, .int (nI q)), (2, .int 1), (3, .int (chR (okC (fun j => ztw (sungF (nI j) (fun k => uN (mi 67) k 2)) n) (nI q) (zor (awaysF (uN (mi 67))) n)) (2 ^ n))), (4, .int (nI (2 ^ n)))], [.int (mi 67 68), .int 1, .int (nI (2 ^ n))], (zsh ++ vs, mi, ml, (zmr g))) rfl ?_
    refine Wp.topi (y := nI n) (hn) ?_
    refine Wp.run 1 (42, [(0, .ref 66), (1, .int (nI q)), (2, .int 1), (3, .int (chR (okC (fun j => ztw (sungF (nI j) (fun k => uN (mi 67) k 2)) n) (nI q) (zor (awaysF (uN (mi 67))) n)) (2 ^ n))), (4, .int (nI (2 ^ n)))], [.int ((1 : Int32) <<< ((nI n) &&& 31)), .int (nI (2 ^ n))], (zsh ++ vs, mi, ml, (zmr g))) rfl ?_
    refine Wp.topi (y := nI (2 ^ n)) (shl1 n (by omega)) ?_
    refine Wp.run 0 (42, [(0, .ref 66), (1, .int (nI q)), (2, .int 1), (3, .int (chR (okC (fun j => ztw (sungF (nI j) (fun k => uN (mi 67) k 2)) n) (nI q) (zor (awaysF (uN (mi 67))) n)) (2 ^ n))), (4, .int (nI (2 ^ n)))], [.int (nI (2 ^ n)), .int (nI (2 ^ n))], (zsh ++ vs, mi, ml, (zmr g))) rfl ?_
    refine Wp.icmp_ge rfl (fun h21 => ?_) (fun h21 => ?_)
    · refine Wp.run 1 (100, [(0, .ref 66), (1, .int (nI q)), (2, .int 1), (3, .int (chR (okC (fun j => ztw (sungF (nI j) (fun k => uN (mi 67) k 2)) n) (nI q) (zor (awaysF (uN (mi 67))) n)) (2 ^ n))), (4, .int (nI (2 ^ n)))], [.int (chR (okC (fun j => ztw (sungF (nI j) (fun k => uN (mi 67) k 2)) n) (nI q) (zor (awaysF (uN (mi 67))) n)) (2 ^ n))], (zsh ++ vs, mi, ml, (zmr g))) rfl ?_
      refine Wp.ret rfl rfl rfl ?_
      exact ⟨rfl, rfl⟩
    · exact absurd (Int32.le_refl _) h21
  | succ k ih =>
    intro j hj
    refine Wp.run 6 (41, [(0, .ref 66), (1, .int (nI q)), (2, .int 1), (3, .int (chR (okC (fun j => ztw (sungF (nI j) (fun k => uN (mi 67) k 2)) n) (nI q) (zor (awaysF (uN (mi 67))) n)) j)), (4, .int (nI j))], [.int (mi 67 68), .int 1, .int (nI j)], (zsh ++ vs, mi, ml, (zmr g))) rfl ?_
    refine Wp.topi (y := nI n) (hn) ?_
    refine Wp.run 1 (42, [(0, .ref 66), (1, .int (nI q)), (2, .int 1), (3, .int (chR (okC (fun j => ztw (sungF (nI j) (fun k => uN (mi 67) k 2)) n) (nI q) (zor (awaysF (uN (mi 67))) n)) j)), (4, .int (nI j))], [.int ((1 : Int32) <<< ((nI n) &&& 31)), .int (nI j)], (zsh ++ vs, mi, ml, (zmr g))) rfl ?_
    refine Wp.topi (y := nI (2 ^ n)) (shl1 n (by omega)) ?_
    refine Wp.run 0 (42, [(0, .ref 66), (1, .int (nI q)), (2, .int 1), (3, .int (chR (okC (fun j => ztw (sungF (nI j) (fun k => uN (mi 67) k 2)) n) (nI q) (zor (awaysF (uN (mi 67))) n)) j)), (4, .int (nI j))], [.int (nI (2 ^ n)), .int (nI j)], (zsh ++ vs, mi, ml, (zmr g))) rfl ?_
    refine Wp.icmp_ge rfl (fun h21 => ?_) (fun h21 => ?_)
    · exact absurd h21 (nI_ge (b := 2 ^ n) (by omega) (by omega))
    · refine Wp.run 2 (48, [(0, .ref 66), (1, .int (nI q)), (2, .int 1), (3, .int (chR (okC (fun j => ztw (sungF (nI j) (fun k => uN (mi 67) k 2)) n) (nI q) (zor (awaysF (uN (mi 67))) n)) j)), (4, .int (nI j))], [.ref 66, .int (nI j)], (zsh ++ vs, mi, ml, (zmr g))) rfl ?_
      refine Wp.call (as := [.ref 66]) (rest := [.int (nI j)]) rfl rfl rfl rfl rfl (Nat.le_of_ble_eq_true rfl) (Nat.le_of_ble_eq_true rfl) rfl (by decide) (m_aways hn h6) ?_
      rintro _ _ ⟨rfl, rfl⟩
      refine Wp.run 1 (52, [(0, .ref 66), (1, .int (nI q)), (2, .int 1), (3, .int (chR (okC (fun j => ztw (sungF (nI j) (fun k => uN (mi 67) k 2)) n) (nI q) (zor (awaysF (uN (mi 67))) n)) j)), (4, .int (nI j))], [.int ((nI j) &&& (zor (awaysF (uN (mi 67))) n))], (zsh ++ vs, mi, ml, (zmr g))) rfl ?_
      refine Wp.if_ne rfl (fun h22 => ?_) (fun h22 => ?_)
      · refine Wp.run 2 (31, [(4, .int ((nI j) + 1)), (0, .ref 66), (1, .int (nI q)), (2, .int 1), (3, .int (chR (okC (fun j => ztw (sungF (nI j) (fun k => uN (mi 67) k 2)) n) (nI q) (zor (awaysF (uN (mi 67))) n)) j))], [], (zsh ++ vs, mi, ml, (zmr g))) rfl ?_
        have e9 : chR (okC (fun j => ztw (sungF (nI j) (fun k => uN (mi 67) k 2)) n) (nI q) (zor (awaysF (uN (mi 67))) n)) (j + 1) = chR (okC (fun j => ztw (sungF (nI j) (fun k => uN (mi 67) k 2)) n) (nI q) (zor (awaysF (uN (mi 67))) n)) j := chR_n (fun z => h22 z.2.1)
        rw [nI_1]
        refine Wp.sub (a := [(0, .ref 66), (1, .int (nI q)), (2, .int 1), (3, .int (chR (okC (fun j => ztw (sungF (nI j) (fun k => uN (mi 67) k 2)) n) (nI q) (zor (awaysF (uN (mi 67))) n)) (j + 1))), (4, .int (nI (j + 1)))]) (zle_cons rfl (zle_cons rfl (zle_cons rfl (zle_cons (by rw [e9]; rfl) (zle_cons rfl zle_nil))))) ?_
        exact ih (j + 1) (by omega)
      · refine Wp.run 2 (58, [(0, .ref 66), (1, .int (nI q)), (2, .int 1), (3, .int (chR (okC (fun j => ztw (sungF (nI j) (fun k => uN (mi 67) k 2)) n) (nI q) (zor (awaysF (uN (mi 67))) n)) j)), (4, .int (nI j))], [.int (-5), .int (chR (okC (fun j => ztw (sungF (nI j) (fun k => uN (mi 67) k 2)) n) (nI q) (zor (awaysF (uN (mi 67))) n)) j)], (zsh ++ vs, mi, ml, (zmr g))) rfl ?_
        refine Wp.icmp_eq rfl (fun h23 => ?_) (fun h23 => ?_)
        · refine Wp.run 6 (80, [(0, .ref 66), (1, .int (nI q)), (2, .int 1), (3, .int (chR (okC (fun j => ztw (sungF (nI j) (fun k => uN (mi 67) k 2)) n) (nI q) (zor (awaysF (uN (mi 67))) n)) j)), (4, .int (nI j))], [.int 2, .int (nI j), .int (nI q), .ref 66], (zsh ++ vs, mi, ml, (zmr g))) rfl ?_
          refine Wp.call (as := [.ref 66, .int (nI q), .int (nI j), .int 2]) (rest := []) rfl rfl rfl rfl rfl (Nat.le_of_ble_eq_true rfl) (Nat.le_of_ble_eq_true rfl) rfl (by decide) (m_sg1 (s := j) hq hn h6) ?_
          rintro _ _ ⟨⟨b, rfl, hb⟩, rfl⟩
          rcases hb with ⟨ha, rfl⟩ | ⟨ha, rfl⟩
          · refine Wp.run 6 (31, [(4, .int ((nI j) + 1)), (3, .int (nI j)), (0, .ref 66), (1, .int (nI q)), (2, .int 1)], [], (zsh ++ vs, mi, ml, (zmr g))) rfl ?_
            have e9 : chR (okC (fun j => ztw (sungF (nI j) (fun k => uN (mi 67) k 2)) n) (nI q) (zor (awaysF (uN (mi 67))) n)) (j + 1) = nI j := chR_y ⟨Or.inl h23, h22, ha⟩
            rw [nI_1]
            refine Wp.sub (a := [(0, .ref 66), (1, .int (nI q)), (2, .int 1), (3, .int (chR (okC (fun j => ztw (sungF (nI j) (fun k => uN (mi 67) k 2)) n) (nI q) (zor (awaysF (uN (mi 67))) n)) (j + 1))), (4, .int (nI (j + 1)))]) (zle_cons rfl (zle_cons rfl (zle_cons rfl (zle_cons (by rw [e9]; rfl) (zle_cons rfl zle_nil))))) ?_
            exact ih (j + 1) (by omega)
          · refine Wp.run 5 (31, [(4, .int ((nI j) + 1)), (3, .int (chR (okC (fun j => ztw (sungF (nI j) (fun k => uN (mi 67) k 2)) n) (nI q) (zor (awaysF (uN (mi 67))) n)) j)), (0, .ref 66), (1, .int (nI q)), (2, .int 1)], [], (zsh ++ vs, mi, ml, (zmr g))) rfl ?_
            have e9 : chR (okC (fun j => ztw (sungF (nI j) (fun k => uN (mi 67) k 2)) n) (nI q) (zor (awaysF (uN (mi 67))) n)) (j + 1) = chR (okC (fun j => ztw (sungF (nI j) (fun k => uN (mi 67) k 2)) n) (nI q) (zor (awaysF (uN (mi 67))) n)) j := chR_n (fun z => ha z.2.2)
            rw [nI_1]
            refine Wp.sub (a := [(0, .ref 66), (1, .int (nI q)), (2, .int 1), (3, .int (chR (okC (fun j => ztw (sungF (nI j) (fun k => uN (mi 67) k 2)) n) (nI q) (zor (awaysF (uN (mi 67))) n)) (j + 1))), (4, .int (nI (j + 1)))]) (zle_cons rfl (zle_cons rfl (zle_cons rfl (zle_cons (by rw [e9]; rfl) (zle_cons rfl zle_nil))))) ?_
            exact ih (j + 1) (by omega)
        · refine Wp.run 1 (63, [(0, .ref 66), (1, .int (nI q)), (2, .int 1), (3, .int (chR (okC (fun j => ztw (sungF (nI j) (fun k => uN (mi 67) k 2)) n) (nI q) (zor (awaysF (uN (mi 67))) n)) j)), (4, .int (nI j))], [.int (nI j)], (zsh ++ vs, mi, ml, (zmr g))) rfl ?_
          refine Wp.call (as := [.int (nI j)]) (rest := []) rfl rfl rfl rfl rfl (Nat.le_of_ble_eq_true rfl) (Nat.le_of_ble_eq_true rfl) rfl (by decide) (m_many (nI j)) ?_
          rintro _ _ ⟨rfl, rfl⟩
          refine Wp.run 1 (67, [(0, .ref 66), (1, .int (nI q)), (2, .int 1), (3, .int (chR (okC (fun j => ztw (sungF (nI j) (fun k => uN (mi 67) k 2)) n) (nI q) (zor (awaysF (uN (mi 67))) n)) j)), (4, .int (nI j))], [.int (chR (okC (fun j => ztw (sungF (nI j) (fun k => uN (mi 67) k 2)) n) (nI q) (zor (awaysF (uN (mi 67))) n)) j), .int (zmany (nI j))], (zsh ++ vs, mi, ml, (zmr g))) rfl ?_
          refine Wp.call (as := [.int (chR (okC (fun j => ztw (sungF (nI j) (fun k => uN (mi 67) k 2)) n) (nI q) (zor (awaysF (uN (mi 67))) n)) j)]) (rest := [.int (zmany (nI j))]) rfl rfl rfl rfl rfl (Nat.le_of_ble_eq_true rfl) (Nat.le_of_ble_eq_true rfl) rfl (by decide) (m_many (chR (okC (fun j => ztw (sungF (nI j) (fun k => uN (mi 67) k 2)) n) (nI q) (zor (awaysF (uN (mi 67))) n)) j)) ?_
          rintro _ _ ⟨rfl, rfl⟩
          refine Wp.run 0 (70, [(0, .ref 66), (1, .int (nI q)), (2, .int 1), (3, .int (chR (okC (fun j => ztw (sungF (nI j) (fun k => uN (mi 67) k 2)) n) (nI q) (zor (awaysF (uN (mi 67))) n)) j)), (4, .int (nI j))], [.int (zmany (chR (okC (fun j => ztw (sungF (nI j) (fun k => uN (mi 67) k 2)) n) (nI q) (zor (awaysF (uN (mi 67))) n)) j)), .int (zmany (nI j))], (zsh ++ vs, mi, ml, (zmr g))) rfl ?_
          refine Wp.icmp_ge rfl (fun h24 => ?_) (fun h24 => ?_)
          · refine Wp.run 2 (31, [(4, .int ((nI j) + 1)), (0, .ref 66), (1, .int (nI q)), (2, .int 1), (3, .int (chR (okC (fun j => ztw (sungF (nI j) (fun k => uN (mi 67) k 2)) n) (nI q) (zor (awaysF (uN (mi 67))) n)) j))], [], (zsh ++ vs, mi, ml, (zmr g))) rfl ?_
            have e9 : chR (okC (fun j => ztw (sungF (nI j) (fun k => uN (mi 67) k 2)) n) (nI q) (zor (awaysF (uN (mi 67))) n)) (j + 1) = chR (okC (fun j => ztw (sungF (nI j) (fun k => uN (mi 67) k 2)) n) (nI q) (zor (awaysF (uN (mi 67))) n)) j := chR_n (fun z => z.1.elim h23 (Int32.not_lt.mpr h24))
            rw [nI_1]
            refine Wp.sub (a := [(0, .ref 66), (1, .int (nI q)), (2, .int 1), (3, .int (chR (okC (fun j => ztw (sungF (nI j) (fun k => uN (mi 67) k 2)) n) (nI q) (zor (awaysF (uN (mi 67))) n)) (j + 1))), (4, .int (nI (j + 1)))]) (zle_cons rfl (zle_cons rfl (zle_cons rfl (zle_cons (by rw [e9]; rfl) (zle_cons rfl zle_nil))))) ?_
            exact ih (j + 1) (by omega)
          · refine Wp.run 6 (80, [(0, .ref 66), (1, .int (nI q)), (2, .int 1), (3, .int (chR (okC (fun j => ztw (sungF (nI j) (fun k => uN (mi 67) k 2)) n) (nI q) (zor (awaysF (uN (mi 67))) n)) j)), (4, .int (nI j))], [.int 2, .int (nI j), .int (nI q), .ref 66], (zsh ++ vs, mi, ml, (zmr g))) rfl ?_
            refine Wp.call (as := [.ref 66, .int (nI q), .int (nI j), .int 2]) (rest := []) rfl rfl rfl rfl rfl (Nat.le_of_ble_eq_true rfl) (Nat.le_of_ble_eq_true rfl) rfl (by decide) (m_sg1 (s := j) hq hn h6) ?_
            rintro _ _ ⟨⟨b, rfl, hb⟩, rfl⟩
            rcases hb with ⟨ha, rfl⟩ | ⟨ha, rfl⟩
            · refine Wp.run 6 (31, [(4, .int ((nI j) + 1)), (3, .int (nI j)), (0, .ref 66), (1, .int (nI q)), (2, .int 1)], [], (zsh ++ vs, mi, ml, (zmr g))) rfl ?_
              have e9 : chR (okC (fun j => ztw (sungF (nI j) (fun k => uN (mi 67) k 2)) n) (nI q) (zor (awaysF (uN (mi 67))) n)) (j + 1) = nI j := chR_y ⟨Or.inr (Int32.not_le.mp h24), h22, ha⟩
              rw [nI_1]
              refine Wp.sub (a := [(0, .ref 66), (1, .int (nI q)), (2, .int 1), (3, .int (chR (okC (fun j => ztw (sungF (nI j) (fun k => uN (mi 67) k 2)) n) (nI q) (zor (awaysF (uN (mi 67))) n)) (j + 1))), (4, .int (nI (j + 1)))]) (zle_cons rfl (zle_cons rfl (zle_cons rfl (zle_cons (by rw [e9]; rfl) (zle_cons rfl zle_nil))))) ?_
              exact ih (j + 1) (by omega)
            · refine Wp.run 5 (31, [(4, .int ((nI j) + 1)), (3, .int (chR (okC (fun j => ztw (sungF (nI j) (fun k => uN (mi 67) k 2)) n) (nI q) (zor (awaysF (uN (mi 67))) n)) j)), (0, .ref 66), (1, .int (nI q)), (2, .int 1)], [], (zsh ++ vs, mi, ml, (zmr g))) rfl ?_
              have e9 : chR (okC (fun j => ztw (sungF (nI j) (fun k => uN (mi 67) k 2)) n) (nI q) (zor (awaysF (uN (mi 67))) n)) (j + 1) = chR (okC (fun j => ztw (sungF (nI j) (fun k => uN (mi 67) k 2)) n) (nI q) (zor (awaysF (uN (mi 67))) n)) j := chR_n (fun z => ha z.2.2)
              rw [nI_1]
              refine Wp.sub (a := [(0, .ref 66), (1, .int (nI q)), (2, .int 1), (3, .int (chR (okC (fun j => ztw (sungF (nI j) (fun k => uN (mi 67) k 2)) n) (nI q) (zor (awaysF (uN (mi 67))) n)) (j + 1))), (4, .int (nI (j + 1)))]) (zle_cons rfl (zle_cons rfl (zle_cons rfl (zle_cons (by rw [e9]; rfl) (zle_cons rfl zle_nil))))) ?_
              exact ih (j + 1) (by omega)
theorem sim_choir {E : zEn} {nv : Nat} {VD : Nat → zV} {NL : Nat → Nat} {n dd : Nat} {vs : List (Nat × Nat)} {mi : Nat → Nat → Int32} {ml : Nat → Nat → Int64} {g : Nat → Nat → Option Nat} (I : INV nv VD NL n dd vs mi ml g) (x w : Int32) : SIM E vs mi ml g pg_H_choir pg_M_choir [.int x, .int w] := by
  have B := I.1.1
  have h6 := B.1.2.1
  have hn := B.2.1
  have hN := B.1.1
  have hd := B.1.2.2.1
  have hdd := I.1.2
  by_cases hw : 0 ≤ w ∧ w ≤ 1
  rotate_left
  · refine SIM.q I (x := -1) (dc := 7) (dm := 27) (by decide) (by decide) ?_ ?_
    · refine Wp.run 2 (2, [(0, .ref 0), (1, .int x), (2, .int w)], [.int 1, .int w], (zsh ++ vs, mi, ml, (zmr g))) rfl ?_
      refine Wp.call (as := [.int w, .int 1]) (rest := []) rfl rfl rfl rfl rfl (Nat.le_of_ble_eq_true rfl) (Nat.le_of_ble_eq_true rfl) rfl (by decide) (c_within_f hw) ?_
      rintro _ _ ⟨rfl, rfl⟩
      refine Wp.run 2 (9, [(0, .ref 0), (1, .int x), (2, .int w)], [.int (-1)], (zsh ++ vs, mi, ml, (zmr g))) rfl ?_
      refine Wp.ret rfl rfl rfl ?_
      exact ⟨rfl, _, _, rfl, SC.rf, fun _ _ _ => rfl⟩
    · intro m g' I' e67 S
      have B' := I'.1.1
      have hn' := B'.2.1
      have hN' := B'.1.1
      have hd' := B'.1.2.2.1
      refine Wp.run 3 (3, [(0, .ref 66), (1, .int x), (2, .int w)], [.int 1, .int 0, .int w], (zsh ++ vs, m, ml, (zmr g'))) rfl ?_
      refine Wp.call (as := [.int w, .int 0, .int 1]) (rest := []) rfl rfl rfl rfl rfl (Nat.le_of_ble_eq_true rfl) (Nat.le_of_ble_eq_true rfl) rfl (by decide) (m_isIn_f hw) ?_
      rintro _ _ ⟨rfl, rfl⟩
      refine Wp.run 2 (10, [(0, .ref 66), (1, .int x), (2, .int w)], [.int (-1)], (zsh ++ vs, m, ml, (zmr g'))) rfl ?_
      refine Wp.ret rfl rfl rfl ?_
      exact ⟨rfl, _, rfl, SC.rf⟩
  by_cases hx : 0 ≤ x ∧ x ≤ 255
  rotate_left
  · refine SIM.q I (x := -2) (dc := 7) (dm := 27) (by decide) (by decide) ?_ ?_
    · refine Wp.run 2 (2, [(0, .ref 0), (1, .int x), (2, .int w)], [.int 1, .int w], (zsh ++ vs, mi, ml, (zmr g))) rfl ?_
      refine Wp.call (as := [.int w, .int 1]) (rest := []) rfl rfl rfl rfl rfl (Nat.le_of_ble_eq_true rfl) (Nat.le_of_ble_eq_true rfl) rfl (by decide) (c_within_t hw) ?_
      rintro _ _ ⟨rfl, rfl⟩
      refine Wp.run 3 (14, [(0, .ref 0), (1, .int x), (2, .int w)], [.int 255, .int x], (zsh ++ vs, mi, ml, (zmr g))) rfl ?_
      refine Wp.call (as := [.int x, .int 255]) (rest := []) rfl rfl rfl rfl rfl (Nat.le_of_ble_eq_true rfl) (Nat.le_of_ble_eq_true rfl) rfl (by decide) (c_within_f hx) ?_
      rintro _ _ ⟨rfl, rfl⟩
      refine Wp.run 2 (22, [(0, .ref 0), (1, .int x), (2, .int w)], [.int (-2)], (zsh ++ vs, mi, ml, (zmr g))) rfl ?_
      refine Wp.ret rfl rfl rfl ?_
      exact ⟨rfl, _, _, rfl, SC.rf, fun _ _ _ => rfl⟩
    · intro m g' I' e67 S
      have B' := I'.1.1
      have hn' := B'.2.1
      have hN' := B'.1.1
      have hd' := B'.1.2.2.1
      refine Wp.run 3 (3, [(0, .ref 66), (1, .int x), (2, .int w)], [.int 1, .int 0, .int w], (zsh ++ vs, m, ml, (zmr g'))) rfl ?_
      refine Wp.call (as := [.int w, .int 0, .int 1]) (rest := []) rfl rfl rfl rfl rfl (Nat.le_of_ble_eq_true rfl) (Nat.le_of_ble_eq_true rfl) rfl (by decide) (m_isIn_t hw) ?_
      rintro _ _ ⟨rfl, rfl⟩
      refine Wp.run 4 (16, [(0, .ref 66), (1, .int x), (2, .int w)], [.int 255, .int 0, .int x], (zsh ++ vs, m, ml, (zmr g'))) rfl ?_
      refine Wp.call (as := [.int x, .int 0, .int 255]) (rest := []) rfl rfl rfl rfl rfl (Nat.le_of_ble_eq_true rfl) (Nat.le_of_ble_eq_true rfl) rfl (by decide) (m_isIn_f hx) ?_
      rintro _ _ ⟨rfl, rfl⟩
      refine Wp.run 2 (24, [(0, .ref 66), (1, .int x), (2, .int w)], [.int (-2)], (zsh ++ vs, m, ml, (zmr g'))) rfl ?_
      refine Wp.ret rfl rfl rfl ?_
      exact ⟨rfl, _, rfl, SC.rf⟩
  obtain ⟨q, hq, rfl⟩ := rng_of (h := 255) rfl hx
  obtain ⟨u, hu, rfl⟩ := rng_of (h := 1) rfl hw
  have eH : ∀ j, sungF (nI j) (mi 5) = sungF (nI j) (mi 5) := fun _ => rfl
  rcases (show u = 0 ∨ u = 1 by omega) with rfl | rfl
  · refine SIM.q I (x := chR (okC (fun j => zor (sungF (nI j) (fun k => uN (mi 67) k 2)) n) (nI q) (zor (awaysF (uN (mi 67))) n)) (2 ^ n)) (dc := 7) (dm := 27) (by decide) (by decide) ?_ ?_
    · refine Wp.run 2 (2, [(0, .ref 0), (1, .int (nI q)), (2, .int 0)], [.int 1, .int 0], (zsh ++ vs, mi, ml, (zmr g))) rfl ?_
      refine Wp.call (as := [.int 0, .int 1]) (rest := []) rfl rfl rfl rfl rfl (Nat.le_of_ble_eq_true rfl) (Nat.le_of_ble_eq_true rfl) rfl (by decide) (c_within_t hw) ?_
      rintro _ _ ⟨rfl, rfl⟩
      refine Wp.run 3 (14, [(0, .ref 0), (1, .int (nI q)), (2, .int 0)], [.int 255, .int (nI q)], (zsh ++ vs, mi, ml, (zmr g))) rfl ?_
      refine Wp.call (as := [.int (nI q), .int 255]) (rest := []) rfl rfl rfl rfl rfl (Nat.le_of_ble_eq_true rfl) (Nat.le_of_ble_eq_true rfl) rfl (by decide) (c_within_t hx) ?_
      rintro _ _ ⟨rfl, rfl⟩
      refine Wp.run 8 (38, [(0, .ref 0), (1, .int (nI q)), (2, .int 0)], [.int 0, .int (nI q), .ref 1], (zsh ++ vs, mi, ml, (zmr g))) rfl ?_
      refine Wp.call (as := [.ref 1, .int (nI q), .int 0]) (rest := []) rfl rfl rfl rfl rfl (Nat.le_of_ble_eq_true rfl) (Nat.le_of_ble_eq_true rfl) rfl (by decide) (c_few0 hn h6) ?_
      rintro _ _ ⟨rfl, rfl⟩
      refine Wp.run 0 (41, [(0, .ref 0), (1, .int (nI q)), (2, .int 0)], [.int (chR (okC (fun j => zor (sungF (nI j) (mi 5)) n) (nI q) (mi 1 2)) (2 ^ n))], (zsh ++ vs, mi, ml, (zmr g))) rfl ?_
      refine Wp.ret rfl rfl rfl ?_
      exact ⟨congrArg (fun z => some (Value.int z)) (by rw [B.absent, show (fun j => zor (sungF (nI j) (mi 5)) n) = (fun j => zor (sungF (nI j) (fun k => uN (mi 67) k 2)) n) from funext (fun j => zor_congr (fun k hk => by unfold sungF; rw [show mi 5 k = uN (mi 67) k 2 from B.held hk]))]), _, _, rfl, SC.rf, fun _ _ _ => rfl⟩
    · intro m g' I' e67 S
      have B' := I'.1.1
      have hn' := B'.2.1
      have hN' := B'.1.1
      have hd' := B'.1.2.2.1
      rw [← e67]
      refine Wp.run 3 (3, [(0, .ref 66), (1, .int (nI q)), (2, .int 0)], [.int 1, .int 0, .int 0], (zsh ++ vs, m, ml, (zmr g'))) rfl ?_
      refine Wp.call (as := [.int 0, .int 0, .int 1]) (rest := []) rfl rfl rfl rfl rfl (Nat.le_of_ble_eq_true rfl) (Nat.le_of_ble_eq_true rfl) rfl (by decide) (m_isIn_t hw) ?_
      rintro _ _ ⟨rfl, rfl⟩
      refine Wp.run 4 (16, [(0, .ref 66), (1, .int (nI q)), (2, .int 0)], [.int 255, .int 0, .int (nI q)], (zsh ++ vs, m, ml, (zmr g'))) rfl ?_
      refine Wp.call (as := [.int (nI q), .int 0, .int 255]) (rest := []) rfl rfl rfl rfl rfl (Nat.le_of_ble_eq_true rfl) (Nat.le_of_ble_eq_true rfl) rfl (by decide) (m_isIn_t hx) ?_
      rintro _ _ ⟨rfl, rfl⟩
      refine Wp.run 5 (31, [(4, .int 0), (3, .int (-5)), (0, .ref 66), (1, .int (nI q)), (2, .int 0)], [], (zsh ++ vs, m, ml, (zmr g'))) rfl ?_
      refine Wp.sub (a := [(0, .ref 66), (1, .int (nI q)), (2, .int 0), (3, .int (chR (okC (fun j => zor (sungF (nI j) (fun k => uN (m 67) k 2)) n) (nI q) (zor (awaysF (uN (m 67))) n)) 0)), (4, .int (nI 0))]) (zle_cons rfl (zle_cons rfl (zle_cons rfl (zle_cons rfl (zle_cons rfl (zle_nil)))))) ?_
      refine ((m_ch_l0 (q := q) (by omega) hN' h6 (2 ^ n) 0 (by omega)).deep (by decide)).weak ?_
      rintro _ _ ⟨rfl, rfl⟩
      exact ⟨rfl, _, rfl, SC.rf⟩
  · refine SIM.q I (x := chR (okC (fun j => ztw (sungF (nI j) (fun k => uN (mi 67) k 2)) n) (nI q) (zor (awaysF (uN (mi 67))) n)) (2 ^ n)) (dc := 7) (dm := 27) (by decide) (by decide) ?_ ?_
    · refine Wp.run 2 (2, [(0, .ref 0), (1, .int (nI q)), (2, .int 1)], [.int 1, .int 1], (zsh ++ vs, mi, ml, (zmr g))) rfl ?_
      refine Wp.call (as := [.int 1, .int 1]) (rest := []) rfl rfl rfl rfl rfl (Nat.le_of_ble_eq_true rfl) (Nat.le_of_ble_eq_true rfl) rfl (by decide) (c_within_t hw) ?_
      rintro _ _ ⟨rfl, rfl⟩
      refine Wp.run 3 (14, [(0, .ref 0), (1, .int (nI q)), (2, .int 1)], [.int 255, .int (nI q)], (zsh ++ vs, mi, ml, (zmr g))) rfl ?_
      refine Wp.call (as := [.int (nI q), .int 255]) (rest := []) rfl rfl rfl rfl rfl (Nat.le_of_ble_eq_true rfl) (Nat.le_of_ble_eq_true rfl) rfl (by decide) (c_within_t hx) ?_
      rintro _ _ ⟨rfl, rfl⟩
      refine Wp.run 9 (38, [(0, .ref 0), (1, .int (nI q)), (2, .int 1)], [.int 1, .int (nI q), .ref 1], (zsh ++ vs, mi, ml, (zmr g))) rfl ?_
      refine Wp.call (as := [.ref 1, .int (nI q), .int 1]) (rest := []) rfl rfl rfl rfl rfl (Nat.le_of_ble_eq_true rfl) (Nat.le_of_ble_eq_true rfl) rfl (by decide) (c_few1 hn h6) ?_
      rintro _ _ ⟨rfl, rfl⟩
      refine Wp.run 0 (41, [(0, .ref 0), (1, .int (nI q)), (2, .int 1)], [.int (chR (okC (fun j => ztw (sungF (nI j) (mi 5)) n) (nI q) (mi 1 2)) (2 ^ n))], (zsh ++ vs, mi, ml, (zmr g))) rfl ?_
      refine Wp.ret rfl rfl rfl ?_
      exact ⟨congrArg (fun z => some (Value.int z)) (by rw [B.absent, show (fun j => ztw (sungF (nI j) (mi 5)) n) = (fun j => ztw (sungF (nI j) (fun k => uN (mi 67) k 2)) n) from funext (fun j => ztw_congr (fun k hk => by unfold sungF; rw [show mi 5 k = uN (mi 67) k 2 from B.held hk]))]), _, _, rfl, SC.rf, fun _ _ _ => rfl⟩
    · intro m g' I' e67 S
      have B' := I'.1.1
      have hn' := B'.2.1
      have hN' := B'.1.1
      have hd' := B'.1.2.2.1
      rw [← e67]
      refine Wp.run 3 (3, [(0, .ref 66), (1, .int (nI q)), (2, .int 1)], [.int 1, .int 0, .int 1], (zsh ++ vs, m, ml, (zmr g'))) rfl ?_
      refine Wp.call (as := [.int 1, .int 0, .int 1]) (rest := []) rfl rfl rfl rfl rfl (Nat.le_of_ble_eq_true rfl) (Nat.le_of_ble_eq_true rfl) rfl (by decide) (m_isIn_t hw) ?_
      rintro _ _ ⟨rfl, rfl⟩
      refine Wp.run 4 (16, [(0, .ref 66), (1, .int (nI q)), (2, .int 1)], [.int 255, .int 0, .int (nI q)], (zsh ++ vs, m, ml, (zmr g'))) rfl ?_
      refine Wp.call (as := [.int (nI q), .int 0, .int 255]) (rest := []) rfl rfl rfl rfl rfl (Nat.le_of_ble_eq_true rfl) (Nat.le_of_ble_eq_true rfl) rfl (by decide) (m_isIn_t hx) ?_
      rintro _ _ ⟨rfl, rfl⟩
      refine Wp.run 5 (31, [(4, .int 0), (3, .int (-5)), (0, .ref 66), (1, .int (nI q)), (2, .int 1)], [], (zsh ++ vs, m, ml, (zmr g'))) rfl ?_
      refine Wp.sub (a := [(0, .ref 66), (1, .int (nI q)), (2, .int 1), (3, .int (chR (okC (fun j => ztw (sungF (nI j) (fun k => uN (m 67) k 2)) n) (nI q) (zor (awaysF (uN (m 67))) n)) 0)), (4, .int (nI 0))]) (zle_cons rfl (zle_cons rfl (zle_cons rfl (zle_cons rfl (zle_cons rfl (zle_nil)))))) ?_
      refine ((m_ch_l1 (q := q) (by omega) hN' h6 (2 ^ n) 0 (by omega)).deep (by decide)).weak ?_
      rintro _ _ ⟨rfl, rfl⟩
      exact ⟨rfl, _, rfl, SC.rf⟩
