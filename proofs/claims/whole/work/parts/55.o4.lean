/-! THE CALLS: looked, trace, taken -/
theorem one_leG {n : Nat} {x : Int32} (hn : n < 2147483648) : (0 ≤ x ∧ x ≤ nI n - 1) ↔ one n x := by
  constructor
  · rintro ⟨h1, h2⟩
    obtain ⟨j, hj, rfl⟩ := nI_of (Int32.not_lt.mpr h1)
    cases n with
    | zero => exact absurd (Int32.le_trans h1 h2) (by decide)
    | succ n =>
      rw [nI_pred] at h2
      exact ⟨j, Nat.lt_succ_of_le ((nI_leI hj (by omega)).mp h2), rfl⟩
  · rintro ⟨j, hj, rfl⟩
    cases n with
    | zero => omega
    | succ n =>
      rw [nI_pred]
      exact ⟨nI_pos' (by omega), nI_le (by omega) (by omega)⟩
def lkF (N : Nat → Int32) (r : Nat) : Int32 := if N (N (109 + 2 * r)).toNatClampNeg = N (110 + 2 * r) then 1 else 0
theorem c_look {E : zEn} {vs : List (Nat × Nat)} {mi : Nat → Nat → Int32} {ml : Nat → Nat → Int64} {g : Nat → Nat → Option Nat} {c : Nat} (hc : mi 21 2 = nI c) (h8 : c ≤ 8) (hb : ∀ r, r < c → ∃ q, q ≤ 7 ∧ mi 67 (109 + 2 * r) = nI q ∧ mi 27 r = nI q ∧ mi 28 r = mi 67 (110 + 2 * r)) (hst : ∀ p, p < 8 → mi 2 p = mi 67 p) : ∀ (k j : Nat), j + k = c → Wp E 0 pg_Hand_firstOtherwise 2 [(0, .ref 21), (1, .ref 2), (2, .int (nI j))] [] (zsh ++ vs, mi, ml, zmr g) (fun r w' => r = some (.int (lostR (lkF (mi 67)) k j)) ∧ w' = (zsh ++ vs, mi, ml, zmr g)) := by
  intro k
  induction k with
  | zero =>
    intro j hj
    obtain rfl : c = j := by omega
    refine Wp.run 3 (7, [(0, .ref 21), (1, .ref 2), (2, .int (nI c))], [.int (mi 21 2), .int (nI c)], (zsh ++ vs, mi, ml, (zmr g))) rfl ?_
    refine Wp.topi (y := nI c) (hc) ?_
    refine Wp.run 0 (7, [(0, .ref 21), (1, .ref 2), (2, .int (nI c))], [.int (nI c), .int (nI c)], (zsh ++ vs, mi, ml, (zmr g))) rfl ?_
    refine Wp.icmp_ge rfl (fun h1 => ?_) (fun h1 => ?_)
    · refine Wp.run 1 (37, [(0, .ref 21), (1, .ref 2), (2, .int (nI c))], [.int (-5)], (zsh ++ vs, mi, ml, (zmr g))) rfl ?_
      refine Wp.ret rfl rfl rfl ?_
      exact ⟨rfl, rfl⟩
    · exact absurd (Int32.le_refl _) h1
  | succ k ih =>
    intro j hj
    have hjc : j < c := by omega
    obtain ⟨q, hq, e1, e2, e3⟩ := hb j hjc
    refine Wp.run 3 (7, [(0, .ref 21), (1, .ref 2), (2, .int (nI j))], [.int (mi 21 2), .int (nI j)], (zsh ++ vs, mi, ml, (zmr g))) rfl ?_
    refine Wp.topi (y := nI c) (hc) ?_
    refine Wp.run 0 (7, [(0, .ref 21), (1, .ref 2), (2, .int (nI j))], [.int (nI c), .int (nI j)], (zsh ++ vs, mi, ml, (zmr g))) rfl ?_
    refine Wp.icmp_ge rfl (fun h1 => ?_) (fun h1 => ?_)
    · exact absurd h1 (nI_ge hjc (by omega))
    · refine Wp.run 4 (16, [(0, .ref 21), (1, .ref 2), (2, .int (nI j))], [.int (nI j), .ref 27, .ref 2], (zsh ++ vs, mi, ml, (zmr g))) rfl ?_
      refine Wp.ialn rfl (by decide) rfl (by omega) (by decide) ?_
      refine Wp.topi (y := nI q) (e2) ?_
      refine Wp.ialn rfl (by decide) rfl (by omega) (by decide) ?_
      refine Wp.topi (y := mi 67 q) (hst q (by omega)) ?_
      refine Wp.run 3 (23, [(0, .ref 21), (1, .ref 2), (2, .int (nI j))], [.int (nI j), .ref 28, .int (mi 67 q)], (zsh ++ vs, mi, ml, (zmr g))) rfl ?_
      refine Wp.ialn rfl (by decide) rfl (by omega) (by decide) ?_
      refine Wp.topi (y := mi 67 (110 + 2 * j)) (e3) ?_
      refine Wp.run 0 (24, [(0, .ref 21), (1, .ref 2), (2, .int (nI j))], [.int (mi 67 (110 + 2 * j)), .int (mi 67 q)], (zsh ++ vs, mi, ml, (zmr g))) rfl ?_
      refine Wp.icmp_eq rfl (fun h2 => ?_) (fun h2 => ?_)
      · refine Wp.run 2 (2, [(2, .int ((nI j) + 1)), (0, .ref 21), (1, .ref 2)], [], (zsh ++ vs, mi, ml, (zmr g))) rfl ?_
        rw [nI_1]
        refine Wp.sub (a := [(0, .ref 21), (1, .ref 2), (2, .int (nI (j + 1)))]) (zle_cons rfl (zle_cons rfl (zle_cons rfl (zle_nil)))) ?_
        rw [lostR_ne (show ¬ lkF (mi 67) j = 0 by rw [lkF, if_pos]; decide; rw [e1, nI_clamp (by omega)]; exact h2)]
        exact ih (j + 1) (by omega)
      · refine Wp.run 1 (28, [(0, .ref 21), (1, .ref 2), (2, .int (nI j))], [.int (nI j)], (zsh ++ vs, mi, ml, (zmr g))) rfl ?_
        refine Wp.ret rfl rfl rfl ?_
        exact ⟨by rw [lostR_eq (by rw [lkF, if_neg]; rw [e1, nI_clamp (by omega)]; exact h2)], rfl⟩
theorem m_look {E : zEn} {vs : List (Nat × Nat)} {mi : Nat → Nat → Int32} {ml : Nat → Nat → Int64} {g : Nat → Nat → Option Nat} {c : Nat} (hc : mi 67 108 = nI c) (h8 : c ≤ 8) (hb : ∀ r, r < c → ∃ q, q ≤ 7 ∧ mi 67 (109 + 2 * r) = nI q) : ∀ (k j : Nat), j + k = c → Wp E 0 pg_M_looked 2 [(0, .ref 66), (1, .int (nI j))] [] (zsh ++ vs, mi, ml, zmr g) (fun r w' => r = some (.int (lostR (lkF (mi 67)) k j)) ∧ w' = (zsh ++ vs, mi, ml, zmr g)) := by
  intro k
  induction k with
  | zero =>
    intro j hj
    obtain rfl : c = j := by omega
    refine Wp.run 5 (10, [(0, .ref 66), (1, .int (nI c))], [.int (mi 67 108), .int (nI c)], (zsh ++ vs, mi, ml, (zmr g))) rfl ?_
    refine Wp.topi (y := nI c) (hc) ?_
    refine Wp.run 0 (10, [(0, .ref 66), (1, .int (nI c))], [.int (nI c), .int (nI c)], (zsh ++ vs, mi, ml, (zmr g))) rfl ?_
    refine Wp.icmp_ge rfl (fun h1 => ?_) (fun h1 => ?_)
    · refine Wp.run 1 (53, [(0, .ref 66), (1, .int (nI c))], [.int (-5)], (zsh ++ vs, mi, ml, (zmr g))) rfl ?_
      refine Wp.ret rfl rfl rfl ?_
      exact ⟨rfl, rfl⟩
    · exact absurd (Int32.le_refl _) h1
  | succ k ih =>
    intro j hj
    have hjc : j < c := by omega
    obtain ⟨q, hq, e1⟩ := hb j hjc
    refine Wp.run 5 (10, [(0, .ref 66), (1, .int (nI j))], [.int (mi 67 108), .int (nI j)], (zsh ++ vs, mi, ml, (zmr g))) rfl ?_
    refine Wp.topi (y := nI c) (hc) ?_
    refine Wp.run 0 (10, [(0, .ref 66), (1, .int (nI j))], [.int (nI c), .int (nI j)], (zsh ++ vs, mi, ml, (zmr g))) rfl ?_
    refine Wp.icmp_ge rfl (fun h1 => ?_) (fun h1 => ?_)
    · exact absurd h1 (nI_ge hjc (by omega))
    · refine Wp.run 9 (27, [(0, .ref 66), (1, .int (nI j))], [.int (109 + (2 * (nI j))), .ref 67, .ref 67], (zsh ++ vs, mi, ml, (zmr g))) rfl ?_
      refine Wp.topi (y := nI (109 + 2 * j)) (ix_23 109 2 j) ?_
      refine Wp.ialn rfl (by decide) rfl (by omega) (by decide) ?_
      refine Wp.topi (y := nI q) (e1) ?_
      refine Wp.ialn rfl (by decide) rfl (by omega) (by decide) ?_
      refine Wp.run 7 (39, [(0, .ref 66), (1, .int (nI j))], [.int (110 + (2 * (nI j))), .ref 67, .int (mi 67 q)], (zsh ++ vs, mi, ml, (zmr g))) rfl ?_
      refine Wp.topi (y := nI (110 + 2 * j)) (ix_23 110 2 j) ?_
      refine Wp.ialn rfl (by decide) rfl (by omega) (by decide) ?_
      refine Wp.run 0 (40, [(0, .ref 66), (1, .int (nI j))], [.int (mi 67 (110 + 2 * j)), .int (mi 67 q)], (zsh ++ vs, mi, ml, (zmr g))) rfl ?_
      refine Wp.icmp_eq rfl (fun h2 => ?_) (fun h2 => ?_)
      · refine Wp.run 2 (2, [(1, .int ((nI j) + 1)), (0, .ref 66)], [], (zsh ++ vs, mi, ml, (zmr g))) rfl ?_
        rw [nI_1]
        refine Wp.sub (a := [(0, .ref 66), (1, .int (nI (j + 1)))]) (zle_cons rfl (zle_cons rfl (zle_nil))) ?_
        rw [lostR_ne (show ¬ lkF (mi 67) j = 0 by rw [lkF, if_pos]; decide; rw [e1, nI_clamp (by omega)]; exact h2)]
        exact ih (j + 1) (by omega)
      · refine Wp.run 1 (44, [(0, .ref 66), (1, .int (nI j))], [.int (nI j)], (zsh ++ vs, mi, ml, (zmr g))) rfl ?_
        refine Wp.ret rfl rfl rfl ?_
        exact ⟨by rw [lostR_eq (by rw [lkF, if_neg]; rw [e1, nI_clamp (by omega)]; exact h2)], rfl⟩
theorem c_first {E : zEn} {vs : List (Nat × Nat)} {mi : Nat → Nat → Int32} {ml : Nat → Nat → Int64} {g : Nat → Nat → Option Nat} {c : Nat} (hc : mi 21 2 = nI c) (h8 : c ≤ 8) (hb : ∀ r, r < c → ∃ q, q ≤ 7 ∧ mi 67 (109 + 2 * r) = nI q ∧ mi 27 r = nI q ∧ mi 28 r = mi 67 (110 + 2 * r)) (hst : ∀ p, p < 8 → mi 2 p = mi 67 p) : Wp E 0 pg_Hand_firstOtherwise 0 (lv_args 0 [.ref 21, .ref 2]) [] (zsh ++ vs, mi, ml, (zmr g)) (fun r w' => r = some (.int (lostR (lkF (mi 67)) c 0)) ∧ w' = (zsh ++ vs, mi, ml, zmr g)) := by
  refine Wp.run 2 (2, [(2, .int 0), (0, .ref 21), (1, .ref 2)], [], (zsh ++ vs, mi, ml, (zmr g))) rfl ?_
  refine Wp.sub (a := [(0, .ref 21), (1, .ref 2), (2, .int (nI 0))]) (zle_cons rfl (zle_cons rfl (zle_cons rfl (zle_nil)))) ?_
  exact c_look hc h8 hb hst c 0 (by omega)
theorem sim_looked {E : zEn} {nv : Nat} {VD : Nat → zV} {NL : Nat → Nat} {n dd : Nat} {vs : List (Nat × Nat)} {mi : Nat → Nat → Int32} {ml : Nat → Nat → Int64} {g : Nat → Nat → Option Nat} (I : INV nv VD NL n dd vs mi ml g) : SIM E vs mi ml g pg_H_looked pg_M_looked [] := by
  have B := I.1.1
  have h6 := B.1.2.1
  have hn := B.2.1
  have hN := B.1.1
  have hd := B.1.2.2.1
  have hdd := I.1.2
  obtain ⟨c, hc5, hc1, hc2, hc4⟩ := I.2.1.2.2
  refine SIM.q I (x := lostR (lkF (mi 67)) c 0) (dc := 7) (dm := 0) (by decide) (by decide) ?_ ?_
  · refine Wp.run 5 (11, [(0, .ref 0)], [.ref 2, .ref 21], (zsh ++ vs, mi, ml, (zmr g))) rfl ?_
    refine Wp.call (as := [.ref 21, .ref 2]) (rest := []) rfl rfl rfl rfl rfl (Nat.le_of_ble_eq_true rfl) (Nat.le_of_ble_eq_true rfl) rfl (by decide) (c_first hc1 hc5 (fun r hr => by obtain ⟨q, a1, a2, a3, a4⟩ := hc4 r hr; exact ⟨q, a1, a2, a3, a4⟩) (fun p hp => B.2.2.2.1 p hp)) ?_
    rintro _ _ ⟨rfl, rfl⟩
    refine Wp.run 0 (14, [(0, .ref 0)], [.int (lostR (lkF (mi 67)) c 0)], (zsh ++ vs, mi, ml, (zmr g))) rfl ?_
    refine Wp.ret rfl rfl rfl ?_
    exact ⟨rfl, _, _, rfl, SC.rf, fun _ _ _ => rfl⟩
  · intro m g' I' e67 S
    rw [← e67]
    refine Wp.run 2 (2, [(1, .int 0), (0, .ref 66)], [], (zsh ++ vs, m, ml, (zmr g'))) rfl ?_
    refine Wp.sub (a := [(0, .ref 66), (1, .int (nI 0))]) (zle_cons rfl (zle_cons rfl (zle_nil))) ?_
    refine (m_look (mi := m) ((congrFun e67 108).trans hc2) hc5 (fun r hr => by rw [e67]; obtain ⟨q, a1, a2, -⟩ := hc4 r hr; exact ⟨q, a1, a2⟩) c 0 (by omega)).weak ?_
    rintro _ _ ⟨rfl, rfl⟩
    exact ⟨rfl, _, rfl, SC.rf⟩
theorem c_keptCount {E : zEn} {vs : List (Nat × Nat)} {mi : Nat → Nat → Int32} {ml : Nat → Nat → Int64} {g : Nat → Nat → Option Nat} {K : Nat} (hK : mi 51 1 = nI K) (hK9 : K < 1000) : Wp E 0 pg_Performance_keptCount 0 (lv_args 0 [.ref 51]) [] (zsh ++ vs, mi, ml, (zmr g)) (fun r w' => r = some (.int (nI (if 20 < K then 20 else K))) ∧ w' = (zsh ++ vs, mi, ml, zmr g)) := by
  refine Wp.run 2 (4, [(0, .ref 51)], [.int (mi 51 1)], (zsh ++ vs, mi, ml, (zmr g))) rfl ?_
  refine Wp.topi (y := nI K) (hK) ?_
  refine Wp.run 2 (9, [(0, .ref 51)], [.int (if 20 < nI K then 20 else nI K)], (zsh ++ vs, mi, ml, (zmr g))) rfl ?_
  refine Wp.ret rfl rfl rfl ?_
  exact ⟨congrArg (fun z => some (Value.int z)) (by
      by_cases h : 20 < K
      · rw [if_pos h, if_pos (show (20 : Int32) < nI K from nI_lt (a := 20) h (by omega))]; rfl
      · rw [if_neg h, if_neg (show ¬ (20 : Int32) < nI K from nI_nlt (b := K) (a := 20) (by omega) (by decide))]), rfl⟩
theorem sim_trace {E : zEn} {nv : Nat} {VD : Nat → zV} {NL : Nat → Nat} {n dd : Nat} {vs : List (Nat × Nat)} {mi : Nat → Nat → Int32} {ml : Nat → Nat → Int64} {g : Nat → Nat → Option Nat} (I : INV nv VD NL n dd vs mi ml g) (x : Int32) : SIM E vs mi ml g pg_H_trace pg_M_trace [.int x] := by
  have B := I.1.1
  have h6 := B.1.2.1
  have hn := B.2.1
  have hN := B.1.1
  have hd := B.1.2.2.1
  have hdd := I.1.2
  obtain ⟨K, hK9, hK1, hK2, hK3⟩ := I.2.2.2.2.2.1
  by_cases hx : one (if 20 < K then 20 else K) x
  rotate_left
  · refine SIM.q I (x := -1) (dc := 7) (dm := 27) (by decide) (by decide) ?_ ?_
    · refine Wp.run 3 (5, [(0, .ref 0), (1, .int x)], [.ref 51, .int x], (zsh ++ vs, mi, ml, (zmr g))) rfl ?_
      refine Wp.call (as := [.ref 51]) (rest := [.int x]) rfl rfl rfl rfl rfl (Nat.le_of_ble_eq_true rfl) (Nat.le_of_ble_eq_true rfl) rfl (by decide) (c_keptCount hK1 hK9) ?_
      rintro _ _ ⟨rfl, rfl⟩
      refine Wp.run 2 (10, [(0, .ref 0), (1, .int x)], [.int ((nI (if 20 < K then 20 else K)) - 1), .int x], (zsh ++ vs, mi, ml, (zmr g))) rfl ?_
      refine Wp.call (as := [.int x, .int ((nI (if 20 < K then 20 else K)) - 1)]) (rest := []) rfl rfl rfl rfl rfl (Nat.le_of_ble_eq_true rfl) (Nat.le_of_ble_eq_true rfl) rfl (by decide) (c_within_f (fun z => hx ((one_leG (by split <;> omega)).mp z))) ?_
      rintro _ _ ⟨rfl, rfl⟩
      refine Wp.run 2 (29, [(0, .ref 0), (1, .int x)], [.int (-1)], (zsh ++ vs, mi, ml, (zmr g))) rfl ?_
      refine Wp.ret rfl rfl rfl ?_
      exact ⟨rfl, _, _, rfl, SC.rf, fun _ _ _ => rfl⟩
    · intro m g' I' e67 S
      have B' := I'.1.1
      have hn' := B'.2.1
      have hN' := B'.1.1
      have hd' := B'.1.2.2.1
      have mn : (if m 66 24 < 20 then m 66 24 else 20) = nI (if 20 < K then 20 else K) := by
        rw [(S.2.2.2 24 (by decide)).trans hK2]
        by_cases h : 20 < K
        · rw [if_pos h, if_neg (show ¬ nI K < (20 : Int32) from nI_nlt (a := K) (b := 20) (by omega) (by omega))]; rfl
        · rw [if_neg h]
          by_cases h2 : K < 20
          · rw [if_pos (show nI K < (20 : Int32) from nI_lt (b := 20) h2 (by decide))]
          · rw [if_neg (show ¬ nI K < (20 : Int32) from nI_nlt (a := K) (b := 20) (by omega) (by omega))]; exact congrArg nI (show 20 = K by omega)
      refine Wp.run 6 (11, [(0, .ref 66), (1, .int x)], [.int (if m 66 24 < 20 then m 66 24 else 20), .int 0, .int x], (zsh ++ vs, m, ml, (zmr g'))) rfl ?_
      refine Wp.topi (y := nI (if 20 < K then 20 else K)) (mn) ?_
      refine Wp.run 2 (13, [(0, .ref 66), (1, .int x)], [.int ((nI (if 20 < K then 20 else K)) - 1), .int 0, .int x], (zsh ++ vs, m, ml, (zmr g'))) rfl ?_
      refine Wp.call (as := [.int x, .int 0, .int ((nI (if 20 < K then 20 else K)) - 1)]) (rest := []) rfl rfl rfl rfl rfl (Nat.le_of_ble_eq_true rfl) (Nat.le_of_ble_eq_true rfl) rfl (by decide) (m_isIn_f (fun z => hx ((one_leG (by split <;> omega)).mp z))) ?_
      rintro _ _ ⟨rfl, rfl⟩
      refine Wp.run 2 (29, [(0, .ref 66), (1, .int x)], [.int (-1)], (zsh ++ vs, m, ml, (zmr g'))) rfl ?_
      refine Wp.ret rfl rfl rfl ?_
      exact ⟨rfl, _, rfl, SC.rf⟩
  have hx9 := hx
  obtain ⟨i, hi, rfl⟩ := hx
  have hi20 : i < 20 ∧ i < K := by split at hi <;> omega
  refine SIM.q I (x := mi 52 i) (dc := 7) (dm := 27) (by decide) (by decide) ?_ ?_
  · refine Wp.run 3 (5, [(0, .ref 0), (1, .int (nI i))], [.ref 51, .int (nI i)], (zsh ++ vs, mi, ml, (zmr g))) rfl ?_
    refine Wp.call (as := [.ref 51]) (rest := [.int (nI i)]) rfl rfl rfl rfl rfl (Nat.le_of_ble_eq_true rfl) (Nat.le_of_ble_eq_true rfl) rfl (by decide) (c_keptCount hK1 hK9) ?_
    rintro _ _ ⟨rfl, rfl⟩
    refine Wp.run 2 (10, [(0, .ref 0), (1, .int (nI i))], [.int ((nI (if 20 < K then 20 else K)) - 1), .int (nI i)], (zsh ++ vs, mi, ml, (zmr g))) rfl ?_
    refine Wp.call (as := [.int (nI i), .int ((nI (if 20 < K then 20 else K)) - 1)]) (rest := []) rfl rfl rfl rfl rfl (Nat.le_of_ble_eq_true rfl) (Nat.le_of_ble_eq_true rfl) rfl (by decide) (c_within_t ((one_leG (by split <;> omega)).mpr hx9)) ?_
    rintro _ _ ⟨rfl, rfl⟩
    refine Wp.run 5 (24, [(0, .ref 0), (1, .int (nI i))], [.int (nI i), .ref 52], (zsh ++ vs, mi, ml, (zmr g))) rfl ?_
    refine Wp.ialn rfl (by decide) rfl (by omega) (by decide) ?_
    refine Wp.run 1 (29, [(0, .ref 0), (1, .int (nI i))], [.int (mi 52 i)], (zsh ++ vs, mi, ml, (zmr g))) rfl ?_
    refine Wp.ret rfl rfl rfl ?_
    exact ⟨rfl, _, _, rfl, SC.rf, fun _ _ _ => rfl⟩
  · intro m g' I' e67 S
    have B' := I'.1.1
    have hn' := B'.2.1
    have hN' := B'.1.1
    have hd' := B'.1.2.2.1
    have mn : (if m 66 24 < 20 then m 66 24 else 20) = nI (if 20 < K then 20 else K) := by
      rw [(S.2.2.2 24 (by decide)).trans hK2]
      by_cases h : 20 < K
      · rw [if_pos h, if_neg (show ¬ nI K < (20 : Int32) from nI_nlt (a := K) (b := 20) (by omega) (by omega))]; rfl
      · rw [if_neg h]
        by_cases h2 : K < 20
        · rw [if_pos (show nI K < (20 : Int32) from nI_lt (b := 20) h2 (by decide))]
        · rw [if_neg (show ¬ nI K < (20 : Int32) from nI_nlt (a := K) (b := 20) (by omega) (by omega))]; exact congrArg nI (show 20 = K by omega)
    refine Wp.run 6 (11, [(0, .ref 66), (1, .int (nI i))], [.int (if m 66 24 < 20 then m 66 24 else 20), .int 0, .int (nI i)], (zsh ++ vs, m, ml, (zmr g'))) rfl ?_
    refine Wp.topi (y := nI (if 20 < K then 20 else K)) (mn) ?_
    refine Wp.run 2 (13, [(0, .ref 66), (1, .int (nI i))], [.int ((nI (if 20 < K then 20 else K)) - 1), .int 0, .int (nI i)], (zsh ++ vs, m, ml, (zmr g'))) rfl ?_
    refine Wp.call (as := [.int (nI i), .int 0, .int ((nI (if 20 < K then 20 else K)) - 1)]) (rest := []) rfl rfl rfl rfl rfl (Nat.le_of_ble_eq_true rfl) (Nat.le_of_ble_eq_true rfl) rfl (by decide) (m_isIn_t ((one_leG (by split <;> omega)).mpr hx9)) ?_
    rintro _ _ ⟨rfl, rfl⟩
    refine Wp.run 4 (24, [(0, .ref 66), (1, .int (nI i))], [.int (nI i), .ref 81], (zsh ++ vs, m, ml, (zmr g'))) rfl ?_
    refine Wp.ialn rfl (by decide) rfl (by omega) (by decide) ?_
    refine Wp.run 1 (29, [(0, .ref 66), (1, .int (nI i))], [.int (m 81 i)], (zsh ++ vs, m, ml, (zmr g'))) rfl ?_
    refine Wp.ret rfl rfl rfl ?_
    exact ⟨congrArg (fun z => some (Value.int z)) (((S.c (b := 81) (by decide)) ▸ (hK3 i hi20.2 hi20.1).symm : m 81 i = mi 52 i)), _, rfl, SC.rf⟩
theorem c_under_0_0 {E : zEn} {w : zW}  : Wp E 0 pg_H_isUnder 0 (lv_args 0 [.int 0, .int 0]) [] w (fun r w' => r = some (.int 1) ∧ w' = w) := by
  refine Wp.run 15 (37, [(3, .int 0), (2, .int 0), (0, .int 0), (1, .int 0)], [.int 1], (w.1, w.2.1, w.2.2.1, w.2.2.2)) rfl ?_
  refine Wp.ret rfl rfl rfl ?_
  exact ⟨rfl, rfl⟩
theorem c_under_0_1 {E : zEn} {w : zW}  : Wp E 0 pg_H_isUnder 0 (lv_args 0 [.int 0, .int 1]) [] w (fun r w' => r = some (.int 0) ∧ w' = w) := by
  refine Wp.run 16 (4, [(3, .int 1), (2, .int 0), (0, .int 0), (1, .int 1)], [], (w.1, w.2.1, w.2.2.1, w.2.2.2)) rfl ?_
  refine Wp.run 12 (4, [(3, .int 2), (2, .int 0), (0, .int 0), (1, .int 1)], [], (w.1, w.2.1, w.2.2.1, w.2.2.2)) rfl ?_
  refine Wp.run 12 (4, [(3, .int 3), (2, .int 0), (0, .int 0), (1, .int 1)], [], (w.1, w.2.1, w.2.2.1, w.2.2.2)) rfl ?_
  refine Wp.run 12 (4, [(3, .int 4), (2, .int 0), (0, .int 0), (1, .int 1)], [], (w.1, w.2.1, w.2.2.1, w.2.2.2)) rfl ?_
  refine Wp.run 12 (4, [(3, .int 5), (2, .int 0), (0, .int 0), (1, .int 1)], [], (w.1, w.2.1, w.2.2.1, w.2.2.2)) rfl ?_
  refine Wp.run 12 (4, [(3, .int 6), (2, .int 0), (0, .int 0), (1, .int 1)], [], (w.1, w.2.1, w.2.2.1, w.2.2.2)) rfl ?_
  refine Wp.run 12 (4, [(3, .int 7), (2, .int 0), (0, .int 0), (1, .int 1)], [], (w.1, w.2.1, w.2.2.1, w.2.2.2)) rfl ?_
  refine Wp.run 7 (37, [(3, .int 7), (2, .int 0), (0, .int 0), (1, .int 1)], [.int 0], (w.1, w.2.1, w.2.2.1, w.2.2.2)) rfl ?_
  refine Wp.ret rfl rfl rfl ?_
  exact ⟨rfl, rfl⟩
theorem c_under_0_2 {E : zEn} {w : zW}  : Wp E 0 pg_H_isUnder 0 (lv_args 0 [.int 0, .int 2]) [] w (fun r w' => r = some (.int 0) ∧ w' = w) := by
  refine Wp.run 16 (4, [(3, .int 1), (2, .int 0), (0, .int 0), (1, .int 2)], [], (w.1, w.2.1, w.2.2.1, w.2.2.2)) rfl ?_
  refine Wp.run 12 (4, [(3, .int 2), (2, .int 0), (0, .int 0), (1, .int 2)], [], (w.1, w.2.1, w.2.2.1, w.2.2.2)) rfl ?_
  refine Wp.run 12 (4, [(3, .int 3), (2, .int 0), (0, .int 0), (1, .int 2)], [], (w.1, w.2.1, w.2.2.1, w.2.2.2)) rfl ?_
  refine Wp.run 12 (4, [(3, .int 4), (2, .int 0), (0, .int 0), (1, .int 2)], [], (w.1, w.2.1, w.2.2.1, w.2.2.2)) rfl ?_
  refine Wp.run 12 (4, [(3, .int 5), (2, .int 0), (0, .int 0), (1, .int 2)], [], (w.1, w.2.1, w.2.2.1, w.2.2.2)) rfl ?_
  refine Wp.run 12 (4, [(3, .int 6), (2, .int 0), (0, .int 0), (1, .int 2)], [], (w.1, w.2.1, w.2.2.1, w.2.2.2)) rfl ?_
  refine Wp.run 12 (4, [(3, .int 7), (2, .int 0), (0, .int 0), (1, .int 2)], [], (w.1, w.2.1, w.2.2.1, w.2.2.2)) rfl ?_
  refine Wp.run 7 (37, [(3, .int 7), (2, .int 0), (0, .int 0), (1, .int 2)], [.int 0], (w.1, w.2.1, w.2.2.1, w.2.2.2)) rfl ?_
  refine Wp.ret rfl rfl rfl ?_
  exact ⟨rfl, rfl⟩
theorem c_under_0_3 {E : zEn} {w : zW}  : Wp E 0 pg_H_isUnder 0 (lv_args 0 [.int 0, .int 3]) [] w (fun r w' => r = some (.int 0) ∧ w' = w) := by
  refine Wp.run 16 (4, [(3, .int 1), (2, .int 0), (0, .int 0), (1, .int 3)], [], (w.1, w.2.1, w.2.2.1, w.2.2.2)) rfl ?_
  refine Wp.run 12 (4, [(3, .int 2), (2, .int 0), (0, .int 0), (1, .int 3)], [], (w.1, w.2.1, w.2.2.1, w.2.2.2)) rfl ?_
  refine Wp.run 12 (4, [(3, .int 3), (2, .int 0), (0, .int 0), (1, .int 3)], [], (w.1, w.2.1, w.2.2.1, w.2.2.2)) rfl ?_
  refine Wp.run 12 (4, [(3, .int 4), (2, .int 0), (0, .int 0), (1, .int 3)], [], (w.1, w.2.1, w.2.2.1, w.2.2.2)) rfl ?_
  refine Wp.run 12 (4, [(3, .int 5), (2, .int 0), (0, .int 0), (1, .int 3)], [], (w.1, w.2.1, w.2.2.1, w.2.2.2)) rfl ?_
  refine Wp.run 12 (4, [(3, .int 6), (2, .int 0), (0, .int 0), (1, .int 3)], [], (w.1, w.2.1, w.2.2.1, w.2.2.2)) rfl ?_
  refine Wp.run 12 (4, [(3, .int 7), (2, .int 0), (0, .int 0), (1, .int 3)], [], (w.1, w.2.1, w.2.2.1, w.2.2.2)) rfl ?_
  refine Wp.run 7 (37, [(3, .int 7), (2, .int 0), (0, .int 0), (1, .int 3)], [.int 0], (w.1, w.2.1, w.2.2.1, w.2.2.2)) rfl ?_
  refine Wp.ret rfl rfl rfl ?_
  exact ⟨rfl, rfl⟩
theorem c_under_0_4 {E : zEn} {w : zW}  : Wp E 0 pg_H_isUnder 0 (lv_args 0 [.int 0, .int 4]) [] w (fun r w' => r = some (.int 0) ∧ w' = w) := by
  refine Wp.run 16 (4, [(3, .int 1), (2, .int 0), (0, .int 0), (1, .int 4)], [], (w.1, w.2.1, w.2.2.1, w.2.2.2)) rfl ?_
  refine Wp.run 12 (4, [(3, .int 2), (2, .int 0), (0, .int 0), (1, .int 4)], [], (w.1, w.2.1, w.2.2.1, w.2.2.2)) rfl ?_
  refine Wp.run 12 (4, [(3, .int 3), (2, .int 0), (0, .int 0), (1, .int 4)], [], (w.1, w.2.1, w.2.2.1, w.2.2.2)) rfl ?_
  refine Wp.run 12 (4, [(3, .int 4), (2, .int 0), (0, .int 0), (1, .int 4)], [], (w.1, w.2.1, w.2.2.1, w.2.2.2)) rfl ?_
  refine Wp.run 12 (4, [(3, .int 5), (2, .int 0), (0, .int 0), (1, .int 4)], [], (w.1, w.2.1, w.2.2.1, w.2.2.2)) rfl ?_
  refine Wp.run 12 (4, [(3, .int 6), (2, .int 0), (0, .int 0), (1, .int 4)], [], (w.1, w.2.1, w.2.2.1, w.2.2.2)) rfl ?_
  refine Wp.run 12 (4, [(3, .int 7), (2, .int 0), (0, .int 0), (1, .int 4)], [], (w.1, w.2.1, w.2.2.1, w.2.2.2)) rfl ?_
  refine Wp.run 7 (37, [(3, .int 7), (2, .int 0), (0, .int 0), (1, .int 4)], [.int 0], (w.1, w.2.1, w.2.2.1, w.2.2.2)) rfl ?_
  refine Wp.ret rfl rfl rfl ?_
  exact ⟨rfl, rfl⟩
theorem c_under_0_5 {E : zEn} {w : zW}  : Wp E 0 pg_H_isUnder 0 (lv_args 0 [.int 0, .int 5]) [] w (fun r w' => r = some (.int 0) ∧ w' = w) := by
  refine Wp.run 16 (4, [(3, .int 1), (2, .int 0), (0, .int 0), (1, .int 5)], [], (w.1, w.2.1, w.2.2.1, w.2.2.2)) rfl ?_
  refine Wp.run 12 (4, [(3, .int 2), (2, .int 0), (0, .int 0), (1, .int 5)], [], (w.1, w.2.1, w.2.2.1, w.2.2.2)) rfl ?_
  refine Wp.run 12 (4, [(3, .int 3), (2, .int 0), (0, .int 0), (1, .int 5)], [], (w.1, w.2.1, w.2.2.1, w.2.2.2)) rfl ?_
  refine Wp.run 12 (4, [(3, .int 4), (2, .int 0), (0, .int 0), (1, .int 5)], [], (w.1, w.2.1, w.2.2.1, w.2.2.2)) rfl ?_
  refine Wp.run 12 (4, [(3, .int 5), (2, .int 0), (0, .int 0), (1, .int 5)], [], (w.1, w.2.1, w.2.2.1, w.2.2.2)) rfl ?_
  refine Wp.run 12 (4, [(3, .int 6), (2, .int 0), (0, .int 0), (1, .int 5)], [], (w.1, w.2.1, w.2.2.1, w.2.2.2)) rfl ?_
  refine Wp.run 12 (4, [(3, .int 7), (2, .int 0), (0, .int 0), (1, .int 5)], [], (w.1, w.2.1, w.2.2.1, w.2.2.2)) rfl ?_
  refine Wp.run 7 (37, [(3, .int 7), (2, .int 0), (0, .int 0), (1, .int 5)], [.int 0], (w.1, w.2.1, w.2.2.1, w.2.2.2)) rfl ?_
  refine Wp.ret rfl rfl rfl ?_
  exact ⟨rfl, rfl⟩
theorem c_under_0_6 {E : zEn} {w : zW}  : Wp E 0 pg_H_isUnder 0 (lv_args 0 [.int 0, .int 6]) [] w (fun r w' => r = some (.int 0) ∧ w' = w) := by
  refine Wp.run 16 (4, [(3, .int 1), (2, .int 0), (0, .int 0), (1, .int 6)], [], (w.1, w.2.1, w.2.2.1, w.2.2.2)) rfl ?_
  refine Wp.run 12 (4, [(3, .int 2), (2, .int 0), (0, .int 0), (1, .int 6)], [], (w.1, w.2.1, w.2.2.1, w.2.2.2)) rfl ?_
  refine Wp.run 12 (4, [(3, .int 3), (2, .int 0), (0, .int 0), (1, .int 6)], [], (w.1, w.2.1, w.2.2.1, w.2.2.2)) rfl ?_
  refine Wp.run 12 (4, [(3, .int 4), (2, .int 0), (0, .int 0), (1, .int 6)], [], (w.1, w.2.1, w.2.2.1, w.2.2.2)) rfl ?_
  refine Wp.run 12 (4, [(3, .int 5), (2, .int 0), (0, .int 0), (1, .int 6)], [], (w.1, w.2.1, w.2.2.1, w.2.2.2)) rfl ?_
  refine Wp.run 12 (4, [(3, .int 6), (2, .int 0), (0, .int 0), (1, .int 6)], [], (w.1, w.2.1, w.2.2.1, w.2.2.2)) rfl ?_
  refine Wp.run 12 (4, [(3, .int 7), (2, .int 0), (0, .int 0), (1, .int 6)], [], (w.1, w.2.1, w.2.2.1, w.2.2.2)) rfl ?_
  refine Wp.run 7 (37, [(3, .int 7), (2, .int 0), (0, .int 0), (1, .int 6)], [.int 0], (w.1, w.2.1, w.2.2.1, w.2.2.2)) rfl ?_
  refine Wp.ret rfl rfl rfl ?_
  exact ⟨rfl, rfl⟩
theorem c_under_1_0 {E : zEn} {w : zW}  : Wp E 0 pg_H_isUnder 0 (lv_args 0 [.int 1, .int 0]) [] w (fun r w' => r = some (.int 1) ∧ w' = w) := by
  refine Wp.run 16 (4, [(3, .int 1), (2, .int 0), (0, .int 1), (1, .int 0)], [], (w.1, w.2.1, w.2.2.1, w.2.2.2)) rfl ?_
  refine Wp.run 11 (37, [(3, .int 1), (2, .int 0), (0, .int 1), (1, .int 0)], [.int 1], (w.1, w.2.1, w.2.2.1, w.2.2.2)) rfl ?_
  refine Wp.ret rfl rfl rfl ?_
  exact ⟨rfl, rfl⟩
theorem c_under_1_1 {E : zEn} {w : zW}  : Wp E 0 pg_H_isUnder 0 (lv_args 0 [.int 1, .int 1]) [] w (fun r w' => r = some (.int 1) ∧ w' = w) := by
  refine Wp.run 15 (37, [(3, .int 0), (2, .int 1), (0, .int 1), (1, .int 1)], [.int 1], (w.1, w.2.1, w.2.2.1, w.2.2.2)) rfl ?_
  refine Wp.ret rfl rfl rfl ?_
  exact ⟨rfl, rfl⟩
theorem c_under_1_2 {E : zEn} {w : zW}  : Wp E 0 pg_H_isUnder 0 (lv_args 0 [.int 1, .int 2]) [] w (fun r w' => r = some (.int 0) ∧ w' = w) := by
  refine Wp.run 16 (4, [(3, .int 1), (2, .int 0), (0, .int 1), (1, .int 2)], [], (w.1, w.2.1, w.2.2.1, w.2.2.2)) rfl ?_
  refine Wp.run 12 (4, [(3, .int 2), (2, .int 0), (0, .int 1), (1, .int 2)], [], (w.1, w.2.1, w.2.2.1, w.2.2.2)) rfl ?_
  refine Wp.run 12 (4, [(3, .int 3), (2, .int 0), (0, .int 1), (1, .int 2)], [], (w.1, w.2.1, w.2.2.1, w.2.2.2)) rfl ?_
  refine Wp.run 12 (4, [(3, .int 4), (2, .int 0), (0, .int 1), (1, .int 2)], [], (w.1, w.2.1, w.2.2.1, w.2.2.2)) rfl ?_
  refine Wp.run 12 (4, [(3, .int 5), (2, .int 0), (0, .int 1), (1, .int 2)], [], (w.1, w.2.1, w.2.2.1, w.2.2.2)) rfl ?_
  refine Wp.run 12 (4, [(3, .int 6), (2, .int 0), (0, .int 1), (1, .int 2)], [], (w.1, w.2.1, w.2.2.1, w.2.2.2)) rfl ?_
  refine Wp.run 12 (4, [(3, .int 7), (2, .int 0), (0, .int 1), (1, .int 2)], [], (w.1, w.2.1, w.2.2.1, w.2.2.2)) rfl ?_
  refine Wp.run 7 (37, [(3, .int 7), (2, .int 0), (0, .int 1), (1, .int 2)], [.int 0], (w.1, w.2.1, w.2.2.1, w.2.2.2)) rfl ?_
  refine Wp.ret rfl rfl rfl ?_
  exact ⟨rfl, rfl⟩
theorem c_under_1_3 {E : zEn} {w : zW}  : Wp E 0 pg_H_isUnder 0 (lv_args 0 [.int 1, .int 3]) [] w (fun r w' => r = some (.int 0) ∧ w' = w) := by
  refine Wp.run 16 (4, [(3, .int 1), (2, .int 0), (0, .int 1), (1, .int 3)], [], (w.1, w.2.1, w.2.2.1, w.2.2.2)) rfl ?_
  refine Wp.run 12 (4, [(3, .int 2), (2, .int 0), (0, .int 1), (1, .int 3)], [], (w.1, w.2.1, w.2.2.1, w.2.2.2)) rfl ?_
  refine Wp.run 12 (4, [(3, .int 3), (2, .int 0), (0, .int 1), (1, .int 3)], [], (w.1, w.2.1, w.2.2.1, w.2.2.2)) rfl ?_
  refine Wp.run 12 (4, [(3, .int 4), (2, .int 0), (0, .int 1), (1, .int 3)], [], (w.1, w.2.1, w.2.2.1, w.2.2.2)) rfl ?_
  refine Wp.run 12 (4, [(3, .int 5), (2, .int 0), (0, .int 1), (1, .int 3)], [], (w.1, w.2.1, w.2.2.1, w.2.2.2)) rfl ?_
  refine Wp.run 12 (4, [(3, .int 6), (2, .int 0), (0, .int 1), (1, .int 3)], [], (w.1, w.2.1, w.2.2.1, w.2.2.2)) rfl ?_
  refine Wp.run 12 (4, [(3, .int 7), (2, .int 0), (0, .int 1), (1, .int 3)], [], (w.1, w.2.1, w.2.2.1, w.2.2.2)) rfl ?_
  refine Wp.run 7 (37, [(3, .int 7), (2, .int 0), (0, .int 1), (1, .int 3)], [.int 0], (w.1, w.2.1, w.2.2.1, w.2.2.2)) rfl ?_
  refine Wp.ret rfl rfl rfl ?_
  exact ⟨rfl, rfl⟩
theorem c_under_1_4 {E : zEn} {w : zW}  : Wp E 0 pg_H_isUnder 0 (lv_args 0 [.int 1, .int 4]) [] w (fun r w' => r = some (.int 0) ∧ w' = w) := by
  refine Wp.run 16 (4, [(3, .int 1), (2, .int 0), (0, .int 1), (1, .int 4)], [], (w.1, w.2.1, w.2.2.1, w.2.2.2)) rfl ?_
  refine Wp.run 12 (4, [(3, .int 2), (2, .int 0), (0, .int 1), (1, .int 4)], [], (w.1, w.2.1, w.2.2.1, w.2.2.2)) rfl ?_
  refine Wp.run 12 (4, [(3, .int 3), (2, .int 0), (0, .int 1), (1, .int 4)], [], (w.1, w.2.1, w.2.2.1, w.2.2.2)) rfl ?_
  refine Wp.run 12 (4, [(3, .int 4), (2, .int 0), (0, .int 1), (1, .int 4)], [], (w.1, w.2.1, w.2.2.1, w.2.2.2)) rfl ?_
  refine Wp.run 12 (4, [(3, .int 5), (2, .int 0), (0, .int 1), (1, .int 4)], [], (w.1, w.2.1, w.2.2.1, w.2.2.2)) rfl ?_
  refine Wp.run 12 (4, [(3, .int 6), (2, .int 0), (0, .int 1), (1, .int 4)], [], (w.1, w.2.1, w.2.2.1, w.2.2.2)) rfl ?_
  refine Wp.run 12 (4, [(3, .int 7), (2, .int 0), (0, .int 1), (1, .int 4)], [], (w.1, w.2.1, w.2.2.1, w.2.2.2)) rfl ?_
  refine Wp.run 7 (37, [(3, .int 7), (2, .int 0), (0, .int 1), (1, .int 4)], [.int 0], (w.1, w.2.1, w.2.2.1, w.2.2.2)) rfl ?_
  refine Wp.ret rfl rfl rfl ?_
  exact ⟨rfl, rfl⟩
theorem c_under_1_5 {E : zEn} {w : zW}  : Wp E 0 pg_H_isUnder 0 (lv_args 0 [.int 1, .int 5]) [] w (fun r w' => r = some (.int 0) ∧ w' = w) := by
  refine Wp.run 16 (4, [(3, .int 1), (2, .int 0), (0, .int 1), (1, .int 5)], [], (w.1, w.2.1, w.2.2.1, w.2.2.2)) rfl ?_
  refine Wp.run 12 (4, [(3, .int 2), (2, .int 0), (0, .int 1), (1, .int 5)], [], (w.1, w.2.1, w.2.2.1, w.2.2.2)) rfl ?_
  refine Wp.run 12 (4, [(3, .int 3), (2, .int 0), (0, .int 1), (1, .int 5)], [], (w.1, w.2.1, w.2.2.1, w.2.2.2)) rfl ?_
  refine Wp.run 12 (4, [(3, .int 4), (2, .int 0), (0, .int 1), (1, .int 5)], [], (w.1, w.2.1, w.2.2.1, w.2.2.2)) rfl ?_
  refine Wp.run 12 (4, [(3, .int 5), (2, .int 0), (0, .int 1), (1, .int 5)], [], (w.1, w.2.1, w.2.2.1, w.2.2.2)) rfl ?_
  refine Wp.run 12 (4, [(3, .int 6), (2, .int 0), (0, .int 1), (1, .int 5)], [], (w.1, w.2.1, w.2.2.1, w.2.2.2)) rfl ?_
  refine Wp.run 12 (4, [(3, .int 7), (2, .int 0), (0, .int 1), (1, .int 5)], [], (w.1, w.2.1, w.2.2.1, w.2.2.2)) rfl ?_
  refine Wp.run 7 (37, [(3, .int 7), (2, .int 0), (0, .int 1), (1, .int 5)], [.int 0], (w.1, w.2.1, w.2.2.1, w.2.2.2)) rfl ?_
  refine Wp.ret rfl rfl rfl ?_
  exact ⟨rfl, rfl⟩
theorem c_under_1_6 {E : zEn} {w : zW}  : Wp E 0 pg_H_isUnder 0 (lv_args 0 [.int 1, .int 6]) [] w (fun r w' => r = some (.int 0) ∧ w' = w) := by
  refine Wp.run 16 (4, [(3, .int 1), (2, .int 0), (0, .int 1), (1, .int 6)], [], (w.1, w.2.1, w.2.2.1, w.2.2.2)) rfl ?_
  refine Wp.run 12 (4, [(3, .int 2), (2, .int 0), (0, .int 1), (1, .int 6)], [], (w.1, w.2.1, w.2.2.1, w.2.2.2)) rfl ?_
  refine Wp.run 12 (4, [(3, .int 3), (2, .int 0), (0, .int 1), (1, .int 6)], [], (w.1, w.2.1, w.2.2.1, w.2.2.2)) rfl ?_
  refine Wp.run 12 (4, [(3, .int 4), (2, .int 0), (0, .int 1), (1, .int 6)], [], (w.1, w.2.1, w.2.2.1, w.2.2.2)) rfl ?_
  refine Wp.run 12 (4, [(3, .int 5), (2, .int 0), (0, .int 1), (1, .int 6)], [], (w.1, w.2.1, w.2.2.1, w.2.2.2)) rfl ?_
  refine Wp.run 12 (4, [(3, .int 6), (2, .int 0), (0, .int 1), (1, .int 6)], [], (w.1, w.2.1, w.2.2.1, w.2.2.2)) rfl ?_
  refine Wp.run 12 (4, [(3, .int 7), (2, .int 0), (0, .int 1), (1, .int 6)], [], (w.1, w.2.1, w.2.2.1, w.2.2.2)) rfl ?_
  refine Wp.run 7 (37, [(3, .int 7), (2, .int 0), (0, .int 1), (1, .int 6)], [.int 0], (w.1, w.2.1, w.2.2.1, w.2.2.2)) rfl ?_
  refine Wp.ret rfl rfl rfl ?_
  exact ⟨rfl, rfl⟩
theorem c_under_2_0 {E : zEn} {w : zW}  : Wp E 0 pg_H_isUnder 0 (lv_args 0 [.int 2, .int 0]) [] w (fun r w' => r = some (.int 1) ∧ w' = w) := by
  refine Wp.run 16 (4, [(3, .int 1), (2, .int 0), (0, .int 2), (1, .int 0)], [], (w.1, w.2.1, w.2.2.1, w.2.2.2)) rfl ?_
  refine Wp.run 11 (37, [(3, .int 1), (2, .int 0), (0, .int 2), (1, .int 0)], [.int 1], (w.1, w.2.1, w.2.2.1, w.2.2.2)) rfl ?_
  refine Wp.ret rfl rfl rfl ?_
  exact ⟨rfl, rfl⟩
theorem c_under_2_1 {E : zEn} {w : zW}  : Wp E 0 pg_H_isUnder 0 (lv_args 0 [.int 2, .int 1]) [] w (fun r w' => r = some (.int 0) ∧ w' = w) := by
  refine Wp.run 16 (4, [(3, .int 1), (2, .int 0), (0, .int 2), (1, .int 1)], [], (w.1, w.2.1, w.2.2.1, w.2.2.2)) rfl ?_
  refine Wp.run 12 (4, [(3, .int 2), (2, .int 0), (0, .int 2), (1, .int 1)], [], (w.1, w.2.1, w.2.2.1, w.2.2.2)) rfl ?_
  refine Wp.run 12 (4, [(3, .int 3), (2, .int 0), (0, .int 2), (1, .int 1)], [], (w.1, w.2.1, w.2.2.1, w.2.2.2)) rfl ?_
  refine Wp.run 12 (4, [(3, .int 4), (2, .int 0), (0, .int 2), (1, .int 1)], [], (w.1, w.2.1, w.2.2.1, w.2.2.2)) rfl ?_
  refine Wp.run 12 (4, [(3, .int 5), (2, .int 0), (0, .int 2), (1, .int 1)], [], (w.1, w.2.1, w.2.2.1, w.2.2.2)) rfl ?_
  refine Wp.run 12 (4, [(3, .int 6), (2, .int 0), (0, .int 2), (1, .int 1)], [], (w.1, w.2.1, w.2.2.1, w.2.2.2)) rfl ?_
  refine Wp.run 12 (4, [(3, .int 7), (2, .int 0), (0, .int 2), (1, .int 1)], [], (w.1, w.2.1, w.2.2.1, w.2.2.2)) rfl ?_
  refine Wp.run 7 (37, [(3, .int 7), (2, .int 0), (0, .int 2), (1, .int 1)], [.int 0], (w.1, w.2.1, w.2.2.1, w.2.2.2)) rfl ?_
  refine Wp.ret rfl rfl rfl ?_
  exact ⟨rfl, rfl⟩
theorem c_under_2_2 {E : zEn} {w : zW}  : Wp E 0 pg_H_isUnder 0 (lv_args 0 [.int 2, .int 2]) [] w (fun r w' => r = some (.int 1) ∧ w' = w) := by
  refine Wp.run 15 (37, [(3, .int 0), (2, .int 2), (0, .int 2), (1, .int 2)], [.int 1], (w.1, w.2.1, w.2.2.1, w.2.2.2)) rfl ?_
  refine Wp.ret rfl rfl rfl ?_
  exact ⟨rfl, rfl⟩
theorem c_under_2_3 {E : zEn} {w : zW}  : Wp E 0 pg_H_isUnder 0 (lv_args 0 [.int 2, .int 3]) [] w (fun r w' => r = some (.int 0) ∧ w' = w) := by
  refine Wp.run 16 (4, [(3, .int 1), (2, .int 0), (0, .int 2), (1, .int 3)], [], (w.1, w.2.1, w.2.2.1, w.2.2.2)) rfl ?_
  refine Wp.run 12 (4, [(3, .int 2), (2, .int 0), (0, .int 2), (1, .int 3)], [], (w.1, w.2.1, w.2.2.1, w.2.2.2)) rfl ?_
  refine Wp.run 12 (4, [(3, .int 3), (2, .int 0), (0, .int 2), (1, .int 3)], [], (w.1, w.2.1, w.2.2.1, w.2.2.2)) rfl ?_
  refine Wp.run 12 (4, [(3, .int 4), (2, .int 0), (0, .int 2), (1, .int 3)], [], (w.1, w.2.1, w.2.2.1, w.2.2.2)) rfl ?_
  refine Wp.run 12 (4, [(3, .int 5), (2, .int 0), (0, .int 2), (1, .int 3)], [], (w.1, w.2.1, w.2.2.1, w.2.2.2)) rfl ?_
  refine Wp.run 12 (4, [(3, .int 6), (2, .int 0), (0, .int 2), (1, .int 3)], [], (w.1, w.2.1, w.2.2.1, w.2.2.2)) rfl ?_
  refine Wp.run 12 (4, [(3, .int 7), (2, .int 0), (0, .int 2), (1, .int 3)], [], (w.1, w.2.1, w.2.2.1, w.2.2.2)) rfl ?_
  refine Wp.run 7 (37, [(3, .int 7), (2, .int 0), (0, .int 2), (1, .int 3)], [.int 0], (w.1, w.2.1, w.2.2.1, w.2.2.2)) rfl ?_
  refine Wp.ret rfl rfl rfl ?_
  exact ⟨rfl, rfl⟩
theorem c_under_2_4 {E : zEn} {w : zW}  : Wp E 0 pg_H_isUnder 0 (lv_args 0 [.int 2, .int 4]) [] w (fun r w' => r = some (.int 0) ∧ w' = w) := by
  refine Wp.run 16 (4, [(3, .int 1), (2, .int 0), (0, .int 2), (1, .int 4)], [], (w.1, w.2.1, w.2.2.1, w.2.2.2)) rfl ?_
  refine Wp.run 12 (4, [(3, .int 2), (2, .int 0), (0, .int 2), (1, .int 4)], [], (w.1, w.2.1, w.2.2.1, w.2.2.2)) rfl ?_
  refine Wp.run 12 (4, [(3, .int 3), (2, .int 0), (0, .int 2), (1, .int 4)], [], (w.1, w.2.1, w.2.2.1, w.2.2.2)) rfl ?_
  refine Wp.run 12 (4, [(3, .int 4), (2, .int 0), (0, .int 2), (1, .int 4)], [], (w.1, w.2.1, w.2.2.1, w.2.2.2)) rfl ?_
  refine Wp.run 12 (4, [(3, .int 5), (2, .int 0), (0, .int 2), (1, .int 4)], [], (w.1, w.2.1, w.2.2.1, w.2.2.2)) rfl ?_
  refine Wp.run 12 (4, [(3, .int 6), (2, .int 0), (0, .int 2), (1, .int 4)], [], (w.1, w.2.1, w.2.2.1, w.2.2.2)) rfl ?_
  refine Wp.run 12 (4, [(3, .int 7), (2, .int 0), (0, .int 2), (1, .int 4)], [], (w.1, w.2.1, w.2.2.1, w.2.2.2)) rfl ?_
  refine Wp.run 7 (37, [(3, .int 7), (2, .int 0), (0, .int 2), (1, .int 4)], [.int 0], (w.1, w.2.1, w.2.2.1, w.2.2.2)) rfl ?_
  refine Wp.ret rfl rfl rfl ?_
  exact ⟨rfl, rfl⟩
theorem c_under_2_5 {E : zEn} {w : zW}  : Wp E 0 pg_H_isUnder 0 (lv_args 0 [.int 2, .int 5]) [] w (fun r w' => r = some (.int 0) ∧ w' = w) := by
  refine Wp.run 16 (4, [(3, .int 1), (2, .int 0), (0, .int 2), (1, .int 5)], [], (w.1, w.2.1, w.2.2.1, w.2.2.2)) rfl ?_
  refine Wp.run 12 (4, [(3, .int 2), (2, .int 0), (0, .int 2), (1, .int 5)], [], (w.1, w.2.1, w.2.2.1, w.2.2.2)) rfl ?_
  refine Wp.run 12 (4, [(3, .int 3), (2, .int 0), (0, .int 2), (1, .int 5)], [], (w.1, w.2.1, w.2.2.1, w.2.2.2)) rfl ?_
  refine Wp.run 12 (4, [(3, .int 4), (2, .int 0), (0, .int 2), (1, .int 5)], [], (w.1, w.2.1, w.2.2.1, w.2.2.2)) rfl ?_
  refine Wp.run 12 (4, [(3, .int 5), (2, .int 0), (0, .int 2), (1, .int 5)], [], (w.1, w.2.1, w.2.2.1, w.2.2.2)) rfl ?_
  refine Wp.run 12 (4, [(3, .int 6), (2, .int 0), (0, .int 2), (1, .int 5)], [], (w.1, w.2.1, w.2.2.1, w.2.2.2)) rfl ?_
  refine Wp.run 12 (4, [(3, .int 7), (2, .int 0), (0, .int 2), (1, .int 5)], [], (w.1, w.2.1, w.2.2.1, w.2.2.2)) rfl ?_
  refine Wp.run 7 (37, [(3, .int 7), (2, .int 0), (0, .int 2), (1, .int 5)], [.int 0], (w.1, w.2.1, w.2.2.1, w.2.2.2)) rfl ?_
  refine Wp.ret rfl rfl rfl ?_
  exact ⟨rfl, rfl⟩
theorem c_under_2_6 {E : zEn} {w : zW}  : Wp E 0 pg_H_isUnder 0 (lv_args 0 [.int 2, .int 6]) [] w (fun r w' => r = some (.int 0) ∧ w' = w) := by
  refine Wp.run 16 (4, [(3, .int 1), (2, .int 0), (0, .int 2), (1, .int 6)], [], (w.1, w.2.1, w.2.2.1, w.2.2.2)) rfl ?_
  refine Wp.run 12 (4, [(3, .int 2), (2, .int 0), (0, .int 2), (1, .int 6)], [], (w.1, w.2.1, w.2.2.1, w.2.2.2)) rfl ?_
  refine Wp.run 12 (4, [(3, .int 3), (2, .int 0), (0, .int 2), (1, .int 6)], [], (w.1, w.2.1, w.2.2.1, w.2.2.2)) rfl ?_
  refine Wp.run 12 (4, [(3, .int 4), (2, .int 0), (0, .int 2), (1, .int 6)], [], (w.1, w.2.1, w.2.2.1, w.2.2.2)) rfl ?_
  refine Wp.run 12 (4, [(3, .int 5), (2, .int 0), (0, .int 2), (1, .int 6)], [], (w.1, w.2.1, w.2.2.1, w.2.2.2)) rfl ?_
  refine Wp.run 12 (4, [(3, .int 6), (2, .int 0), (0, .int 2), (1, .int 6)], [], (w.1, w.2.1, w.2.2.1, w.2.2.2)) rfl ?_
  refine Wp.run 12 (4, [(3, .int 7), (2, .int 0), (0, .int 2), (1, .int 6)], [], (w.1, w.2.1, w.2.2.1, w.2.2.2)) rfl ?_
  refine Wp.run 7 (37, [(3, .int 7), (2, .int 0), (0, .int 2), (1, .int 6)], [.int 0], (w.1, w.2.1, w.2.2.1, w.2.2.2)) rfl ?_
  refine Wp.ret rfl rfl rfl ?_
  exact ⟨rfl, rfl⟩
theorem c_under_3_0 {E : zEn} {w : zW}  : Wp E 0 pg_H_isUnder 0 (lv_args 0 [.int 3, .int 0]) [] w (fun r w' => r = some (.int 1) ∧ w' = w) := by
  refine Wp.run 16 (4, [(3, .int 1), (2, .int 0), (0, .int 3), (1, .int 0)], [], (w.1, w.2.1, w.2.2.1, w.2.2.2)) rfl ?_
  refine Wp.run 11 (37, [(3, .int 1), (2, .int 0), (0, .int 3), (1, .int 0)], [.int 1], (w.1, w.2.1, w.2.2.1, w.2.2.2)) rfl ?_
  refine Wp.ret rfl rfl rfl ?_
  exact ⟨rfl, rfl⟩
theorem c_under_3_1 {E : zEn} {w : zW}  : Wp E 0 pg_H_isUnder 0 (lv_args 0 [.int 3, .int 1]) [] w (fun r w' => r = some (.int 0) ∧ w' = w) := by
  refine Wp.run 16 (4, [(3, .int 1), (2, .int 0), (0, .int 3), (1, .int 1)], [], (w.1, w.2.1, w.2.2.1, w.2.2.2)) rfl ?_
  refine Wp.run 12 (4, [(3, .int 2), (2, .int 0), (0, .int 3), (1, .int 1)], [], (w.1, w.2.1, w.2.2.1, w.2.2.2)) rfl ?_
  refine Wp.run 12 (4, [(3, .int 3), (2, .int 0), (0, .int 3), (1, .int 1)], [], (w.1, w.2.1, w.2.2.1, w.2.2.2)) rfl ?_
  refine Wp.run 12 (4, [(3, .int 4), (2, .int 0), (0, .int 3), (1, .int 1)], [], (w.1, w.2.1, w.2.2.1, w.2.2.2)) rfl ?_
  refine Wp.run 12 (4, [(3, .int 5), (2, .int 0), (0, .int 3), (1, .int 1)], [], (w.1, w.2.1, w.2.2.1, w.2.2.2)) rfl ?_
  refine Wp.run 12 (4, [(3, .int 6), (2, .int 0), (0, .int 3), (1, .int 1)], [], (w.1, w.2.1, w.2.2.1, w.2.2.2)) rfl ?_
  refine Wp.run 12 (4, [(3, .int 7), (2, .int 0), (0, .int 3), (1, .int 1)], [], (w.1, w.2.1, w.2.2.1, w.2.2.2)) rfl ?_
  refine Wp.run 7 (37, [(3, .int 7), (2, .int 0), (0, .int 3), (1, .int 1)], [.int 0], (w.1, w.2.1, w.2.2.1, w.2.2.2)) rfl ?_
  refine Wp.ret rfl rfl rfl ?_
  exact ⟨rfl, rfl⟩
theorem c_under_3_2 {E : zEn} {w : zW}  : Wp E 0 pg_H_isUnder 0 (lv_args 0 [.int 3, .int 2]) [] w (fun r w' => r = some (.int 0) ∧ w' = w) := by
  refine Wp.run 16 (4, [(3, .int 1), (2, .int 0), (0, .int 3), (1, .int 2)], [], (w.1, w.2.1, w.2.2.1, w.2.2.2)) rfl ?_
  refine Wp.run 12 (4, [(3, .int 2), (2, .int 0), (0, .int 3), (1, .int 2)], [], (w.1, w.2.1, w.2.2.1, w.2.2.2)) rfl ?_
  refine Wp.run 12 (4, [(3, .int 3), (2, .int 0), (0, .int 3), (1, .int 2)], [], (w.1, w.2.1, w.2.2.1, w.2.2.2)) rfl ?_
  refine Wp.run 12 (4, [(3, .int 4), (2, .int 0), (0, .int 3), (1, .int 2)], [], (w.1, w.2.1, w.2.2.1, w.2.2.2)) rfl ?_
  refine Wp.run 12 (4, [(3, .int 5), (2, .int 0), (0, .int 3), (1, .int 2)], [], (w.1, w.2.1, w.2.2.1, w.2.2.2)) rfl ?_
  refine Wp.run 12 (4, [(3, .int 6), (2, .int 0), (0, .int 3), (1, .int 2)], [], (w.1, w.2.1, w.2.2.1, w.2.2.2)) rfl ?_
  refine Wp.run 12 (4, [(3, .int 7), (2, .int 0), (0, .int 3), (1, .int 2)], [], (w.1, w.2.1, w.2.2.1, w.2.2.2)) rfl ?_
  refine Wp.run 7 (37, [(3, .int 7), (2, .int 0), (0, .int 3), (1, .int 2)], [.int 0], (w.1, w.2.1, w.2.2.1, w.2.2.2)) rfl ?_
  refine Wp.ret rfl rfl rfl ?_
  exact ⟨rfl, rfl⟩
theorem c_under_3_3 {E : zEn} {w : zW}  : Wp E 0 pg_H_isUnder 0 (lv_args 0 [.int 3, .int 3]) [] w (fun r w' => r = some (.int 1) ∧ w' = w) := by
  refine Wp.run 15 (37, [(3, .int 0), (2, .int 3), (0, .int 3), (1, .int 3)], [.int 1], (w.1, w.2.1, w.2.2.1, w.2.2.2)) rfl ?_
  refine Wp.ret rfl rfl rfl ?_
  exact ⟨rfl, rfl⟩
theorem c_under_3_4 {E : zEn} {w : zW}  : Wp E 0 pg_H_isUnder 0 (lv_args 0 [.int 3, .int 4]) [] w (fun r w' => r = some (.int 0) ∧ w' = w) := by
  refine Wp.run 16 (4, [(3, .int 1), (2, .int 0), (0, .int 3), (1, .int 4)], [], (w.1, w.2.1, w.2.2.1, w.2.2.2)) rfl ?_
  refine Wp.run 12 (4, [(3, .int 2), (2, .int 0), (0, .int 3), (1, .int 4)], [], (w.1, w.2.1, w.2.2.1, w.2.2.2)) rfl ?_
  refine Wp.run 12 (4, [(3, .int 3), (2, .int 0), (0, .int 3), (1, .int 4)], [], (w.1, w.2.1, w.2.2.1, w.2.2.2)) rfl ?_
  refine Wp.run 12 (4, [(3, .int 4), (2, .int 0), (0, .int 3), (1, .int 4)], [], (w.1, w.2.1, w.2.2.1, w.2.2.2)) rfl ?_
  refine Wp.run 12 (4, [(3, .int 5), (2, .int 0), (0, .int 3), (1, .int 4)], [], (w.1, w.2.1, w.2.2.1, w.2.2.2)) rfl ?_
  refine Wp.run 12 (4, [(3, .int 6), (2, .int 0), (0, .int 3), (1, .int 4)], [], (w.1, w.2.1, w.2.2.1, w.2.2.2)) rfl ?_
  refine Wp.run 12 (4, [(3, .int 7), (2, .int 0), (0, .int 3), (1, .int 4)], [], (w.1, w.2.1, w.2.2.1, w.2.2.2)) rfl ?_
  refine Wp.run 7 (37, [(3, .int 7), (2, .int 0), (0, .int 3), (1, .int 4)], [.int 0], (w.1, w.2.1, w.2.2.1, w.2.2.2)) rfl ?_
  refine Wp.ret rfl rfl rfl ?_
  exact ⟨rfl, rfl⟩
theorem c_under_3_5 {E : zEn} {w : zW}  : Wp E 0 pg_H_isUnder 0 (lv_args 0 [.int 3, .int 5]) [] w (fun r w' => r = some (.int 0) ∧ w' = w) := by
  refine Wp.run 16 (4, [(3, .int 1), (2, .int 0), (0, .int 3), (1, .int 5)], [], (w.1, w.2.1, w.2.2.1, w.2.2.2)) rfl ?_
  refine Wp.run 12 (4, [(3, .int 2), (2, .int 0), (0, .int 3), (1, .int 5)], [], (w.1, w.2.1, w.2.2.1, w.2.2.2)) rfl ?_
  refine Wp.run 12 (4, [(3, .int 3), (2, .int 0), (0, .int 3), (1, .int 5)], [], (w.1, w.2.1, w.2.2.1, w.2.2.2)) rfl ?_
  refine Wp.run 12 (4, [(3, .int 4), (2, .int 0), (0, .int 3), (1, .int 5)], [], (w.1, w.2.1, w.2.2.1, w.2.2.2)) rfl ?_
  refine Wp.run 12 (4, [(3, .int 5), (2, .int 0), (0, .int 3), (1, .int 5)], [], (w.1, w.2.1, w.2.2.1, w.2.2.2)) rfl ?_
  refine Wp.run 12 (4, [(3, .int 6), (2, .int 0), (0, .int 3), (1, .int 5)], [], (w.1, w.2.1, w.2.2.1, w.2.2.2)) rfl ?_
  refine Wp.run 12 (4, [(3, .int 7), (2, .int 0), (0, .int 3), (1, .int 5)], [], (w.1, w.2.1, w.2.2.1, w.2.2.2)) rfl ?_
  refine Wp.run 7 (37, [(3, .int 7), (2, .int 0), (0, .int 3), (1, .int 5)], [.int 0], (w.1, w.2.1, w.2.2.1, w.2.2.2)) rfl ?_
  refine Wp.ret rfl rfl rfl ?_
  exact ⟨rfl, rfl⟩
theorem c_under_3_6 {E : zEn} {w : zW}  : Wp E 0 pg_H_isUnder 0 (lv_args 0 [.int 3, .int 6]) [] w (fun r w' => r = some (.int 0) ∧ w' = w) := by
  refine Wp.run 16 (4, [(3, .int 1), (2, .int 0), (0, .int 3), (1, .int 6)], [], (w.1, w.2.1, w.2.2.1, w.2.2.2)) rfl ?_
  refine Wp.run 12 (4, [(3, .int 2), (2, .int 0), (0, .int 3), (1, .int 6)], [], (w.1, w.2.1, w.2.2.1, w.2.2.2)) rfl ?_
  refine Wp.run 12 (4, [(3, .int 3), (2, .int 0), (0, .int 3), (1, .int 6)], [], (w.1, w.2.1, w.2.2.1, w.2.2.2)) rfl ?_
  refine Wp.run 12 (4, [(3, .int 4), (2, .int 0), (0, .int 3), (1, .int 6)], [], (w.1, w.2.1, w.2.2.1, w.2.2.2)) rfl ?_
  refine Wp.run 12 (4, [(3, .int 5), (2, .int 0), (0, .int 3), (1, .int 6)], [], (w.1, w.2.1, w.2.2.1, w.2.2.2)) rfl ?_
  refine Wp.run 12 (4, [(3, .int 6), (2, .int 0), (0, .int 3), (1, .int 6)], [], (w.1, w.2.1, w.2.2.1, w.2.2.2)) rfl ?_
  refine Wp.run 12 (4, [(3, .int 7), (2, .int 0), (0, .int 3), (1, .int 6)], [], (w.1, w.2.1, w.2.2.1, w.2.2.2)) rfl ?_
  refine Wp.run 7 (37, [(3, .int 7), (2, .int 0), (0, .int 3), (1, .int 6)], [.int 0], (w.1, w.2.1, w.2.2.1, w.2.2.2)) rfl ?_
  refine Wp.ret rfl rfl rfl ?_
  exact ⟨rfl, rfl⟩
theorem c_under_4_0 {E : zEn} {w : zW}  : Wp E 0 pg_H_isUnder 0 (lv_args 0 [.int 4, .int 0]) [] w (fun r w' => r = some (.int 1) ∧ w' = w) := by
  refine Wp.run 16 (4, [(3, .int 1), (2, .int 1), (0, .int 4), (1, .int 0)], [], (w.1, w.2.1, w.2.2.1, w.2.2.2)) rfl ?_
  refine Wp.run 12 (4, [(3, .int 2), (2, .int 0), (0, .int 4), (1, .int 0)], [], (w.1, w.2.1, w.2.2.1, w.2.2.2)) rfl ?_
  refine Wp.run 11 (37, [(3, .int 2), (2, .int 0), (0, .int 4), (1, .int 0)], [.int 1], (w.1, w.2.1, w.2.2.1, w.2.2.2)) rfl ?_
  refine Wp.ret rfl rfl rfl ?_
  exact ⟨rfl, rfl⟩
theorem c_under_4_1 {E : zEn} {w : zW}  : Wp E 0 pg_H_isUnder 0 (lv_args 0 [.int 4, .int 1]) [] w (fun r w' => r = some (.int 1) ∧ w' = w) := by
  refine Wp.run 16 (4, [(3, .int 1), (2, .int 1), (0, .int 4), (1, .int 1)], [], (w.1, w.2.1, w.2.2.1, w.2.2.2)) rfl ?_
  refine Wp.run 11 (37, [(3, .int 1), (2, .int 1), (0, .int 4), (1, .int 1)], [.int 1], (w.1, w.2.1, w.2.2.1, w.2.2.2)) rfl ?_
  refine Wp.ret rfl rfl rfl ?_
  exact ⟨rfl, rfl⟩
theorem c_under_4_2 {E : zEn} {w : zW}  : Wp E 0 pg_H_isUnder 0 (lv_args 0 [.int 4, .int 2]) [] w (fun r w' => r = some (.int 0) ∧ w' = w) := by
  refine Wp.run 16 (4, [(3, .int 1), (2, .int 1), (0, .int 4), (1, .int 2)], [], (w.1, w.2.1, w.2.2.1, w.2.2.2)) rfl ?_
  refine Wp.run 12 (4, [(3, .int 2), (2, .int 0), (0, .int 4), (1, .int 2)], [], (w.1, w.2.1, w.2.2.1, w.2.2.2)) rfl ?_
  refine Wp.run 12 (4, [(3, .int 3), (2, .int 0), (0, .int 4), (1, .int 2)], [], (w.1, w.2.1, w.2.2.1, w.2.2.2)) rfl ?_
  refine Wp.run 12 (4, [(3, .int 4), (2, .int 0), (0, .int 4), (1, .int 2)], [], (w.1, w.2.1, w.2.2.1, w.2.2.2)) rfl ?_
  refine Wp.run 12 (4, [(3, .int 5), (2, .int 0), (0, .int 4), (1, .int 2)], [], (w.1, w.2.1, w.2.2.1, w.2.2.2)) rfl ?_
  refine Wp.run 12 (4, [(3, .int 6), (2, .int 0), (0, .int 4), (1, .int 2)], [], (w.1, w.2.1, w.2.2.1, w.2.2.2)) rfl ?_
  refine Wp.run 12 (4, [(3, .int 7), (2, .int 0), (0, .int 4), (1, .int 2)], [], (w.1, w.2.1, w.2.2.1, w.2.2.2)) rfl ?_
  refine Wp.run 7 (37, [(3, .int 7), (2, .int 0), (0, .int 4), (1, .int 2)], [.int 0], (w.1, w.2.1, w.2.2.1, w.2.2.2)) rfl ?_
  refine Wp.ret rfl rfl rfl ?_
  exact ⟨rfl, rfl⟩
theorem c_under_4_3 {E : zEn} {w : zW}  : Wp E 0 pg_H_isUnder 0 (lv_args 0 [.int 4, .int 3]) [] w (fun r w' => r = some (.int 0) ∧ w' = w) := by
  refine Wp.run 16 (4, [(3, .int 1), (2, .int 1), (0, .int 4), (1, .int 3)], [], (w.1, w.2.1, w.2.2.1, w.2.2.2)) rfl ?_
  refine Wp.run 12 (4, [(3, .int 2), (2, .int 0), (0, .int 4), (1, .int 3)], [], (w.1, w.2.1, w.2.2.1, w.2.2.2)) rfl ?_
  refine Wp.run 12 (4, [(3, .int 3), (2, .int 0), (0, .int 4), (1, .int 3)], [], (w.1, w.2.1, w.2.2.1, w.2.2.2)) rfl ?_
  refine Wp.run 12 (4, [(3, .int 4), (2, .int 0), (0, .int 4), (1, .int 3)], [], (w.1, w.2.1, w.2.2.1, w.2.2.2)) rfl ?_
  refine Wp.run 12 (4, [(3, .int 5), (2, .int 0), (0, .int 4), (1, .int 3)], [], (w.1, w.2.1, w.2.2.1, w.2.2.2)) rfl ?_
  refine Wp.run 12 (4, [(3, .int 6), (2, .int 0), (0, .int 4), (1, .int 3)], [], (w.1, w.2.1, w.2.2.1, w.2.2.2)) rfl ?_
  refine Wp.run 12 (4, [(3, .int 7), (2, .int 0), (0, .int 4), (1, .int 3)], [], (w.1, w.2.1, w.2.2.1, w.2.2.2)) rfl ?_
  refine Wp.run 7 (37, [(3, .int 7), (2, .int 0), (0, .int 4), (1, .int 3)], [.int 0], (w.1, w.2.1, w.2.2.1, w.2.2.2)) rfl ?_
  refine Wp.ret rfl rfl rfl ?_
  exact ⟨rfl, rfl⟩
theorem c_under_4_4 {E : zEn} {w : zW}  : Wp E 0 pg_H_isUnder 0 (lv_args 0 [.int 4, .int 4]) [] w (fun r w' => r = some (.int 1) ∧ w' = w) := by
  refine Wp.run 15 (37, [(3, .int 0), (2, .int 4), (0, .int 4), (1, .int 4)], [.int 1], (w.1, w.2.1, w.2.2.1, w.2.2.2)) rfl ?_
  refine Wp.ret rfl rfl rfl ?_
  exact ⟨rfl, rfl⟩
theorem c_under_4_5 {E : zEn} {w : zW}  : Wp E 0 pg_H_isUnder 0 (lv_args 0 [.int 4, .int 5]) [] w (fun r w' => r = some (.int 0) ∧ w' = w) := by
  refine Wp.run 16 (4, [(3, .int 1), (2, .int 1), (0, .int 4), (1, .int 5)], [], (w.1, w.2.1, w.2.2.1, w.2.2.2)) rfl ?_
  refine Wp.run 12 (4, [(3, .int 2), (2, .int 0), (0, .int 4), (1, .int 5)], [], (w.1, w.2.1, w.2.2.1, w.2.2.2)) rfl ?_
  refine Wp.run 12 (4, [(3, .int 3), (2, .int 0), (0, .int 4), (1, .int 5)], [], (w.1, w.2.1, w.2.2.1, w.2.2.2)) rfl ?_
  refine Wp.run 12 (4, [(3, .int 4), (2, .int 0), (0, .int 4), (1, .int 5)], [], (w.1, w.2.1, w.2.2.1, w.2.2.2)) rfl ?_
  refine Wp.run 12 (4, [(3, .int 5), (2, .int 0), (0, .int 4), (1, .int 5)], [], (w.1, w.2.1, w.2.2.1, w.2.2.2)) rfl ?_
  refine Wp.run 12 (4, [(3, .int 6), (2, .int 0), (0, .int 4), (1, .int 5)], [], (w.1, w.2.1, w.2.2.1, w.2.2.2)) rfl ?_
  refine Wp.run 12 (4, [(3, .int 7), (2, .int 0), (0, .int 4), (1, .int 5)], [], (w.1, w.2.1, w.2.2.1, w.2.2.2)) rfl ?_
  refine Wp.run 7 (37, [(3, .int 7), (2, .int 0), (0, .int 4), (1, .int 5)], [.int 0], (w.1, w.2.1, w.2.2.1, w.2.2.2)) rfl ?_
  refine Wp.ret rfl rfl rfl ?_
  exact ⟨rfl, rfl⟩
theorem c_under_4_6 {E : zEn} {w : zW}  : Wp E 0 pg_H_isUnder 0 (lv_args 0 [.int 4, .int 6]) [] w (fun r w' => r = some (.int 0) ∧ w' = w) := by
  refine Wp.run 16 (4, [(3, .int 1), (2, .int 1), (0, .int 4), (1, .int 6)], [], (w.1, w.2.1, w.2.2.1, w.2.2.2)) rfl ?_
  refine Wp.run 12 (4, [(3, .int 2), (2, .int 0), (0, .int 4), (1, .int 6)], [], (w.1, w.2.1, w.2.2.1, w.2.2.2)) rfl ?_
  refine Wp.run 12 (4, [(3, .int 3), (2, .int 0), (0, .int 4), (1, .int 6)], [], (w.1, w.2.1, w.2.2.1, w.2.2.2)) rfl ?_
  refine Wp.run 12 (4, [(3, .int 4), (2, .int 0), (0, .int 4), (1, .int 6)], [], (w.1, w.2.1, w.2.2.1, w.2.2.2)) rfl ?_
  refine Wp.run 12 (4, [(3, .int 5), (2, .int 0), (0, .int 4), (1, .int 6)], [], (w.1, w.2.1, w.2.2.1, w.2.2.2)) rfl ?_
  refine Wp.run 12 (4, [(3, .int 6), (2, .int 0), (0, .int 4), (1, .int 6)], [], (w.1, w.2.1, w.2.2.1, w.2.2.2)) rfl ?_
  refine Wp.run 12 (4, [(3, .int 7), (2, .int 0), (0, .int 4), (1, .int 6)], [], (w.1, w.2.1, w.2.2.1, w.2.2.2)) rfl ?_
  refine Wp.run 7 (37, [(3, .int 7), (2, .int 0), (0, .int 4), (1, .int 6)], [.int 0], (w.1, w.2.1, w.2.2.1, w.2.2.2)) rfl ?_
  refine Wp.ret rfl rfl rfl ?_
  exact ⟨rfl, rfl⟩
theorem c_under_5_0 {E : zEn} {w : zW}  : Wp E 0 pg_H_isUnder 0 (lv_args 0 [.int 5, .int 0]) [] w (fun r w' => r = some (.int 1) ∧ w' = w) := by
  refine Wp.run 16 (4, [(3, .int 1), (2, .int 2), (0, .int 5), (1, .int 0)], [], (w.1, w.2.1, w.2.2.1, w.2.2.2)) rfl ?_
  refine Wp.run 12 (4, [(3, .int 2), (2, .int 0), (0, .int 5), (1, .int 0)], [], (w.1, w.2.1, w.2.2.1, w.2.2.2)) rfl ?_
  refine Wp.run 11 (37, [(3, .int 2), (2, .int 0), (0, .int 5), (1, .int 0)], [.int 1], (w.1, w.2.1, w.2.2.1, w.2.2.2)) rfl ?_
  refine Wp.ret rfl rfl rfl ?_
  exact ⟨rfl, rfl⟩
theorem c_under_5_1 {E : zEn} {w : zW}  : Wp E 0 pg_H_isUnder 0 (lv_args 0 [.int 5, .int 1]) [] w (fun r w' => r = some (.int 0) ∧ w' = w) := by
  refine Wp.run 16 (4, [(3, .int 1), (2, .int 2), (0, .int 5), (1, .int 1)], [], (w.1, w.2.1, w.2.2.1, w.2.2.2)) rfl ?_
  refine Wp.run 12 (4, [(3, .int 2), (2, .int 0), (0, .int 5), (1, .int 1)], [], (w.1, w.2.1, w.2.2.1, w.2.2.2)) rfl ?_
  refine Wp.run 12 (4, [(3, .int 3), (2, .int 0), (0, .int 5), (1, .int 1)], [], (w.1, w.2.1, w.2.2.1, w.2.2.2)) rfl ?_
  refine Wp.run 12 (4, [(3, .int 4), (2, .int 0), (0, .int 5), (1, .int 1)], [], (w.1, w.2.1, w.2.2.1, w.2.2.2)) rfl ?_
  refine Wp.run 12 (4, [(3, .int 5), (2, .int 0), (0, .int 5), (1, .int 1)], [], (w.1, w.2.1, w.2.2.1, w.2.2.2)) rfl ?_
  refine Wp.run 12 (4, [(3, .int 6), (2, .int 0), (0, .int 5), (1, .int 1)], [], (w.1, w.2.1, w.2.2.1, w.2.2.2)) rfl ?_
  refine Wp.run 12 (4, [(3, .int 7), (2, .int 0), (0, .int 5), (1, .int 1)], [], (w.1, w.2.1, w.2.2.1, w.2.2.2)) rfl ?_
  refine Wp.run 7 (37, [(3, .int 7), (2, .int 0), (0, .int 5), (1, .int 1)], [.int 0], (w.1, w.2.1, w.2.2.1, w.2.2.2)) rfl ?_
  refine Wp.ret rfl rfl rfl ?_
  exact ⟨rfl, rfl⟩
theorem c_under_5_2 {E : zEn} {w : zW}  : Wp E 0 pg_H_isUnder 0 (lv_args 0 [.int 5, .int 2]) [] w (fun r w' => r = some (.int 1) ∧ w' = w) := by
  refine Wp.run 16 (4, [(3, .int 1), (2, .int 2), (0, .int 5), (1, .int 2)], [], (w.1, w.2.1, w.2.2.1, w.2.2.2)) rfl ?_
  refine Wp.run 11 (37, [(3, .int 1), (2, .int 2), (0, .int 5), (1, .int 2)], [.int 1], (w.1, w.2.1, w.2.2.1, w.2.2.2)) rfl ?_
  refine Wp.ret rfl rfl rfl ?_
  exact ⟨rfl, rfl⟩
theorem c_under_5_3 {E : zEn} {w : zW}  : Wp E 0 pg_H_isUnder 0 (lv_args 0 [.int 5, .int 3]) [] w (fun r w' => r = some (.int 0) ∧ w' = w) := by
  refine Wp.run 16 (4, [(3, .int 1), (2, .int 2), (0, .int 5), (1, .int 3)], [], (w.1, w.2.1, w.2.2.1, w.2.2.2)) rfl ?_
  refine Wp.run 12 (4, [(3, .int 2), (2, .int 0), (0, .int 5), (1, .int 3)], [], (w.1, w.2.1, w.2.2.1, w.2.2.2)) rfl ?_
  refine Wp.run 12 (4, [(3, .int 3), (2, .int 0), (0, .int 5), (1, .int 3)], [], (w.1, w.2.1, w.2.2.1, w.2.2.2)) rfl ?_
  refine Wp.run 12 (4, [(3, .int 4), (2, .int 0), (0, .int 5), (1, .int 3)], [], (w.1, w.2.1, w.2.2.1, w.2.2.2)) rfl ?_
  refine Wp.run 12 (4, [(3, .int 5), (2, .int 0), (0, .int 5), (1, .int 3)], [], (w.1, w.2.1, w.2.2.1, w.2.2.2)) rfl ?_
  refine Wp.run 12 (4, [(3, .int 6), (2, .int 0), (0, .int 5), (1, .int 3)], [], (w.1, w.2.1, w.2.2.1, w.2.2.2)) rfl ?_
  refine Wp.run 12 (4, [(3, .int 7), (2, .int 0), (0, .int 5), (1, .int 3)], [], (w.1, w.2.1, w.2.2.1, w.2.2.2)) rfl ?_
  refine Wp.run 7 (37, [(3, .int 7), (2, .int 0), (0, .int 5), (1, .int 3)], [.int 0], (w.1, w.2.1, w.2.2.1, w.2.2.2)) rfl ?_
  refine Wp.ret rfl rfl rfl ?_
  exact ⟨rfl, rfl⟩
theorem c_under_5_4 {E : zEn} {w : zW}  : Wp E 0 pg_H_isUnder 0 (lv_args 0 [.int 5, .int 4]) [] w (fun r w' => r = some (.int 0) ∧ w' = w) := by
  refine Wp.run 16 (4, [(3, .int 1), (2, .int 2), (0, .int 5), (1, .int 4)], [], (w.1, w.2.1, w.2.2.1, w.2.2.2)) rfl ?_
  refine Wp.run 12 (4, [(3, .int 2), (2, .int 0), (0, .int 5), (1, .int 4)], [], (w.1, w.2.1, w.2.2.1, w.2.2.2)) rfl ?_
  refine Wp.run 12 (4, [(3, .int 3), (2, .int 0), (0, .int 5), (1, .int 4)], [], (w.1, w.2.1, w.2.2.1, w.2.2.2)) rfl ?_
  refine Wp.run 12 (4, [(3, .int 4), (2, .int 0), (0, .int 5), (1, .int 4)], [], (w.1, w.2.1, w.2.2.1, w.2.2.2)) rfl ?_
  refine Wp.run 12 (4, [(3, .int 5), (2, .int 0), (0, .int 5), (1, .int 4)], [], (w.1, w.2.1, w.2.2.1, w.2.2.2)) rfl ?_
  refine Wp.run 12 (4, [(3, .int 6), (2, .int 0), (0, .int 5), (1, .int 4)], [], (w.1, w.2.1, w.2.2.1, w.2.2.2)) rfl ?_
  refine Wp.run 12 (4, [(3, .int 7), (2, .int 0), (0, .int 5), (1, .int 4)], [], (w.1, w.2.1, w.2.2.1, w.2.2.2)) rfl ?_
  refine Wp.run 7 (37, [(3, .int 7), (2, .int 0), (0, .int 5), (1, .int 4)], [.int 0], (w.1, w.2.1, w.2.2.1, w.2.2.2)) rfl ?_
  refine Wp.ret rfl rfl rfl ?_
  exact ⟨rfl, rfl⟩
theorem c_under_5_5 {E : zEn} {w : zW}  : Wp E 0 pg_H_isUnder 0 (lv_args 0 [.int 5, .int 5]) [] w (fun r w' => r = some (.int 1) ∧ w' = w) := by
  refine Wp.run 15 (37, [(3, .int 0), (2, .int 5), (0, .int 5), (1, .int 5)], [.int 1], (w.1, w.2.1, w.2.2.1, w.2.2.2)) rfl ?_
  refine Wp.ret rfl rfl rfl ?_
  exact ⟨rfl, rfl⟩
theorem c_under_5_6 {E : zEn} {w : zW}  : Wp E 0 pg_H_isUnder 0 (lv_args 0 [.int 5, .int 6]) [] w (fun r w' => r = some (.int 0) ∧ w' = w) := by
  refine Wp.run 16 (4, [(3, .int 1), (2, .int 2), (0, .int 5), (1, .int 6)], [], (w.1, w.2.1, w.2.2.1, w.2.2.2)) rfl ?_
  refine Wp.run 12 (4, [(3, .int 2), (2, .int 0), (0, .int 5), (1, .int 6)], [], (w.1, w.2.1, w.2.2.1, w.2.2.2)) rfl ?_
  refine Wp.run 12 (4, [(3, .int 3), (2, .int 0), (0, .int 5), (1, .int 6)], [], (w.1, w.2.1, w.2.2.1, w.2.2.2)) rfl ?_
  refine Wp.run 12 (4, [(3, .int 4), (2, .int 0), (0, .int 5), (1, .int 6)], [], (w.1, w.2.1, w.2.2.1, w.2.2.2)) rfl ?_
  refine Wp.run 12 (4, [(3, .int 5), (2, .int 0), (0, .int 5), (1, .int 6)], [], (w.1, w.2.1, w.2.2.1, w.2.2.2)) rfl ?_
  refine Wp.run 12 (4, [(3, .int 6), (2, .int 0), (0, .int 5), (1, .int 6)], [], (w.1, w.2.1, w.2.2.1, w.2.2.2)) rfl ?_
  refine Wp.run 12 (4, [(3, .int 7), (2, .int 0), (0, .int 5), (1, .int 6)], [], (w.1, w.2.1, w.2.2.1, w.2.2.2)) rfl ?_
  refine Wp.run 7 (37, [(3, .int 7), (2, .int 0), (0, .int 5), (1, .int 6)], [.int 0], (w.1, w.2.1, w.2.2.1, w.2.2.2)) rfl ?_
  refine Wp.ret rfl rfl rfl ?_
  exact ⟨rfl, rfl⟩
theorem c_under_6_0 {E : zEn} {w : zW}  : Wp E 0 pg_H_isUnder 0 (lv_args 0 [.int 6, .int 0]) [] w (fun r w' => r = some (.int 1) ∧ w' = w) := by
  refine Wp.run 16 (4, [(3, .int 1), (2, .int 3), (0, .int 6), (1, .int 0)], [], (w.1, w.2.1, w.2.2.1, w.2.2.2)) rfl ?_
  refine Wp.run 12 (4, [(3, .int 2), (2, .int 0), (0, .int 6), (1, .int 0)], [], (w.1, w.2.1, w.2.2.1, w.2.2.2)) rfl ?_
  refine Wp.run 11 (37, [(3, .int 2), (2, .int 0), (0, .int 6), (1, .int 0)], [.int 1], (w.1, w.2.1, w.2.2.1, w.2.2.2)) rfl ?_
  refine Wp.ret rfl rfl rfl ?_
  exact ⟨rfl, rfl⟩
theorem c_under_6_1 {E : zEn} {w : zW}  : Wp E 0 pg_H_isUnder 0 (lv_args 0 [.int 6, .int 1]) [] w (fun r w' => r = some (.int 0) ∧ w' = w) := by
  refine Wp.run 16 (4, [(3, .int 1), (2, .int 3), (0, .int 6), (1, .int 1)], [], (w.1, w.2.1, w.2.2.1, w.2.2.2)) rfl ?_
  refine Wp.run 12 (4, [(3, .int 2), (2, .int 0), (0, .int 6), (1, .int 1)], [], (w.1, w.2.1, w.2.2.1, w.2.2.2)) rfl ?_
  refine Wp.run 12 (4, [(3, .int 3), (2, .int 0), (0, .int 6), (1, .int 1)], [], (w.1, w.2.1, w.2.2.1, w.2.2.2)) rfl ?_
  refine Wp.run 12 (4, [(3, .int 4), (2, .int 0), (0, .int 6), (1, .int 1)], [], (w.1, w.2.1, w.2.2.1, w.2.2.2)) rfl ?_
  refine Wp.run 12 (4, [(3, .int 5), (2, .int 0), (0, .int 6), (1, .int 1)], [], (w.1, w.2.1, w.2.2.1, w.2.2.2)) rfl ?_
  refine Wp.run 12 (4, [(3, .int 6), (2, .int 0), (0, .int 6), (1, .int 1)], [], (w.1, w.2.1, w.2.2.1, w.2.2.2)) rfl ?_
  refine Wp.run 12 (4, [(3, .int 7), (2, .int 0), (0, .int 6), (1, .int 1)], [], (w.1, w.2.1, w.2.2.1, w.2.2.2)) rfl ?_
  refine Wp.run 7 (37, [(3, .int 7), (2, .int 0), (0, .int 6), (1, .int 1)], [.int 0], (w.1, w.2.1, w.2.2.1, w.2.2.2)) rfl ?_
  refine Wp.ret rfl rfl rfl ?_
  exact ⟨rfl, rfl⟩
theorem c_under_6_2 {E : zEn} {w : zW}  : Wp E 0 pg_H_isUnder 0 (lv_args 0 [.int 6, .int 2]) [] w (fun r w' => r = some (.int 0) ∧ w' = w) := by
  refine Wp.run 16 (4, [(3, .int 1), (2, .int 3), (0, .int 6), (1, .int 2)], [], (w.1, w.2.1, w.2.2.1, w.2.2.2)) rfl ?_
  refine Wp.run 12 (4, [(3, .int 2), (2, .int 0), (0, .int 6), (1, .int 2)], [], (w.1, w.2.1, w.2.2.1, w.2.2.2)) rfl ?_
  refine Wp.run 12 (4, [(3, .int 3), (2, .int 0), (0, .int 6), (1, .int 2)], [], (w.1, w.2.1, w.2.2.1, w.2.2.2)) rfl ?_
  refine Wp.run 12 (4, [(3, .int 4), (2, .int 0), (0, .int 6), (1, .int 2)], [], (w.1, w.2.1, w.2.2.1, w.2.2.2)) rfl ?_
  refine Wp.run 12 (4, [(3, .int 5), (2, .int 0), (0, .int 6), (1, .int 2)], [], (w.1, w.2.1, w.2.2.1, w.2.2.2)) rfl ?_
  refine Wp.run 12 (4, [(3, .int 6), (2, .int 0), (0, .int 6), (1, .int 2)], [], (w.1, w.2.1, w.2.2.1, w.2.2.2)) rfl ?_
  refine Wp.run 12 (4, [(3, .int 7), (2, .int 0), (0, .int 6), (1, .int 2)], [], (w.1, w.2.1, w.2.2.1, w.2.2.2)) rfl ?_
  refine Wp.run 7 (37, [(3, .int 7), (2, .int 0), (0, .int 6), (1, .int 2)], [.int 0], (w.1, w.2.1, w.2.2.1, w.2.2.2)) rfl ?_
  refine Wp.ret rfl rfl rfl ?_
  exact ⟨rfl, rfl⟩
theorem c_under_6_3 {E : zEn} {w : zW}  : Wp E 0 pg_H_isUnder 0 (lv_args 0 [.int 6, .int 3]) [] w (fun r w' => r = some (.int 1) ∧ w' = w) := by
  refine Wp.run 16 (4, [(3, .int 1), (2, .int 3), (0, .int 6), (1, .int 3)], [], (w.1, w.2.1, w.2.2.1, w.2.2.2)) rfl ?_
  refine Wp.run 11 (37, [(3, .int 1), (2, .int 3), (0, .int 6), (1, .int 3)], [.int 1], (w.1, w.2.1, w.2.2.1, w.2.2.2)) rfl ?_
  refine Wp.ret rfl rfl rfl ?_
  exact ⟨rfl, rfl⟩
theorem c_under_6_4 {E : zEn} {w : zW}  : Wp E 0 pg_H_isUnder 0 (lv_args 0 [.int 6, .int 4]) [] w (fun r w' => r = some (.int 0) ∧ w' = w) := by
  refine Wp.run 16 (4, [(3, .int 1), (2, .int 3), (0, .int 6), (1, .int 4)], [], (w.1, w.2.1, w.2.2.1, w.2.2.2)) rfl ?_
  refine Wp.run 12 (4, [(3, .int 2), (2, .int 0), (0, .int 6), (1, .int 4)], [], (w.1, w.2.1, w.2.2.1, w.2.2.2)) rfl ?_
  refine Wp.run 12 (4, [(3, .int 3), (2, .int 0), (0, .int 6), (1, .int 4)], [], (w.1, w.2.1, w.2.2.1, w.2.2.2)) rfl ?_
  refine Wp.run 12 (4, [(3, .int 4), (2, .int 0), (0, .int 6), (1, .int 4)], [], (w.1, w.2.1, w.2.2.1, w.2.2.2)) rfl ?_
  refine Wp.run 12 (4, [(3, .int 5), (2, .int 0), (0, .int 6), (1, .int 4)], [], (w.1, w.2.1, w.2.2.1, w.2.2.2)) rfl ?_
  refine Wp.run 12 (4, [(3, .int 6), (2, .int 0), (0, .int 6), (1, .int 4)], [], (w.1, w.2.1, w.2.2.1, w.2.2.2)) rfl ?_
  refine Wp.run 12 (4, [(3, .int 7), (2, .int 0), (0, .int 6), (1, .int 4)], [], (w.1, w.2.1, w.2.2.1, w.2.2.2)) rfl ?_
  refine Wp.run 7 (37, [(3, .int 7), (2, .int 0), (0, .int 6), (1, .int 4)], [.int 0], (w.1, w.2.1, w.2.2.1, w.2.2.2)) rfl ?_
  refine Wp.ret rfl rfl rfl ?_
  exact ⟨rfl, rfl⟩
theorem c_under_6_5 {E : zEn} {w : zW}  : Wp E 0 pg_H_isUnder 0 (lv_args 0 [.int 6, .int 5]) [] w (fun r w' => r = some (.int 0) ∧ w' = w) := by
  refine Wp.run 16 (4, [(3, .int 1), (2, .int 3), (0, .int 6), (1, .int 5)], [], (w.1, w.2.1, w.2.2.1, w.2.2.2)) rfl ?_
  refine Wp.run 12 (4, [(3, .int 2), (2, .int 0), (0, .int 6), (1, .int 5)], [], (w.1, w.2.1, w.2.2.1, w.2.2.2)) rfl ?_
  refine Wp.run 12 (4, [(3, .int 3), (2, .int 0), (0, .int 6), (1, .int 5)], [], (w.1, w.2.1, w.2.2.1, w.2.2.2)) rfl ?_
  refine Wp.run 12 (4, [(3, .int 4), (2, .int 0), (0, .int 6), (1, .int 5)], [], (w.1, w.2.1, w.2.2.1, w.2.2.2)) rfl ?_
  refine Wp.run 12 (4, [(3, .int 5), (2, .int 0), (0, .int 6), (1, .int 5)], [], (w.1, w.2.1, w.2.2.1, w.2.2.2)) rfl ?_
  refine Wp.run 12 (4, [(3, .int 6), (2, .int 0), (0, .int 6), (1, .int 5)], [], (w.1, w.2.1, w.2.2.1, w.2.2.2)) rfl ?_
  refine Wp.run 12 (4, [(3, .int 7), (2, .int 0), (0, .int 6), (1, .int 5)], [], (w.1, w.2.1, w.2.2.1, w.2.2.2)) rfl ?_
  refine Wp.run 7 (37, [(3, .int 7), (2, .int 0), (0, .int 6), (1, .int 5)], [.int 0], (w.1, w.2.1, w.2.2.1, w.2.2.2)) rfl ?_
  refine Wp.ret rfl rfl rfl ?_
  exact ⟨rfl, rfl⟩
theorem c_under_6_6 {E : zEn} {w : zW}  : Wp E 0 pg_H_isUnder 0 (lv_args 0 [.int 6, .int 6]) [] w (fun r w' => r = some (.int 1) ∧ w' = w) := by
  refine Wp.run 15 (37, [(3, .int 0), (2, .int 6), (0, .int 6), (1, .int 6)], [.int 1], (w.1, w.2.1, w.2.2.1, w.2.2.2)) rfl ?_
  refine Wp.ret rfl rfl rfl ?_
  exact ⟨rfl, rfl⟩
theorem sim_taken {E : zEn} {nv : Nat} {VD : Nat → zV} {NL : Nat → Nat} {n dd : Nat} {vs : List (Nat × Nat)} {mi : Nat → Nat → Int32} {ml : Nat → Nat → Int64} {g : Nat → Nat → Option Nat} (I : INV nv VD NL n dd vs mi ml g) (x k : Int32) : SIM E vs mi ml g pg_H_taken pg_M_taken [.int x, .int k] := by
  have B := I.1.1
  have h6 := B.1.2.1
  have hn := B.2.1
  have hN := B.1.1
  have hd := B.1.2.2.1
  have hdd := I.1.2
  by_cases hk : 0 ≤ k ∧ k ≤ 6
  rotate_left
  · refine SIM.q I (x := -2) (dc := 7) (dm := 27) (by decide) (by decide) ?_ ?_
    · refine Wp.run 2 (3, [(0, .ref 0), (1, .int x), (2, .int k)], [.int 6, .int k], (zsh ++ vs, mi, ml, (zmr g))) rfl ?_
      refine Wp.call (as := [.int k, .int 6]) (rest := []) rfl rfl rfl rfl rfl (Nat.le_of_ble_eq_true rfl) (Nat.le_of_ble_eq_true rfl) rfl (by decide) (c_within_f hk) ?_
      rintro _ _ ⟨rfl, rfl⟩
      refine Wp.run 2 (11, [(0, .ref 0), (1, .int x), (2, .int k)], [.int (-2)], (zsh ++ vs, mi, ml, (zmr g))) rfl ?_
      refine Wp.ret rfl rfl rfl ?_
      exact ⟨rfl, _, _, rfl, SC.rf, fun _ _ _ => rfl⟩
    · intro m g' I' e67 S
      have B' := I'.1.1
      have hn' := B'.2.1
      have hN' := B'.1.1
      have hd' := B'.1.2.2.1
      refine Wp.run 3 (4, [(0, .ref 66), (1, .int x), (2, .int k)], [.int 6, .int 0, .int k], (zsh ++ vs, m, ml, (zmr g'))) rfl ?_
      refine Wp.call (as := [.int k, .int 0, .int 6]) (rest := []) rfl rfl rfl rfl rfl (Nat.le_of_ble_eq_true rfl) (Nat.le_of_ble_eq_true rfl) rfl (by decide) (m_isIn_f hk) ?_
      rintro _ _ ⟨rfl, rfl⟩
      refine Wp.run 2 (12, [(0, .ref 66), (1, .int x), (2, .int k)], [.int (-2)], (zsh ++ vs, m, ml, (zmr g'))) rfl ?_
      refine Wp.ret rfl rfl rfl ?_
      exact ⟨rfl, _, rfl, SC.rf⟩
  by_cases hx : one n x
  rotate_left
  · refine SIM.q I (x := -11) (dc := 7) (dm := 27) (by decide) (by decide) ?_ ?_
    · refine Wp.run 2 (3, [(0, .ref 0), (1, .int x), (2, .int k)], [.int 6, .int k], (zsh ++ vs, mi, ml, (zmr g))) rfl ?_
      refine Wp.call (as := [.int k, .int 6]) (rest := []) rfl rfl rfl rfl rfl (Nat.le_of_ble_eq_true rfl) (Nat.le_of_ble_eq_true rfl) rfl (by decide) (c_within_t hk) ?_
      rintro _ _ ⟨rfl, rfl⟩
      refine Wp.run 4 (17, [(0, .ref 0), (1, .int x), (2, .int k)], [.int x, .ref 1], (zsh ++ vs, mi, ml, (zmr g))) rfl ?_
      refine Wp.call (as := [.ref 1, .int x]) (rest := []) rfl rfl rfl rfl rfl (Nat.le_of_ble_eq_true rfl) (Nat.le_of_ble_eq_true rfl) rfl (by decide) (c_has_f (mi := mi) hn h6 hx) ?_
      rintro _ _ ⟨rfl, rfl⟩
      refine Wp.run 2 (25, [(0, .ref 0), (1, .int x), (2, .int k)], [.int (-11)], (zsh ++ vs, mi, ml, (zmr g))) rfl ?_
      refine Wp.ret rfl rfl rfl ?_
      exact ⟨rfl, _, _, rfl, SC.rf, fun _ _ _ => rfl⟩
    · intro m g' I' e67 S
      have B' := I'.1.1
      have hn' := B'.2.1
      have hN' := B'.1.1
      have hd' := B'.1.2.2.1
      refine Wp.run 3 (4, [(0, .ref 66), (1, .int x), (2, .int k)], [.int 6, .int 0, .int k], (zsh ++ vs, m, ml, (zmr g'))) rfl ?_
      refine Wp.call (as := [.int k, .int 0, .int 6]) (rest := []) rfl rfl rfl rfl rfl (Nat.le_of_ble_eq_true rfl) (Nat.le_of_ble_eq_true rfl) rfl (by decide) (m_isIn_t hk) ?_
      rintro _ _ ⟨rfl, rfl⟩
      refine Wp.run 3 (15, [(0, .ref 66), (1, .int x), (2, .int k)], [.int x, .ref 66], (zsh ++ vs, m, ml, (zmr g'))) rfl ?_
      refine Wp.call (as := [.ref 66, .int x]) (rest := []) rfl rfl rfl rfl rfl (Nat.le_of_ble_eq_true rfl) (Nat.le_of_ble_eq_true rfl) rfl (by decide) (m_isOne_f (mi := m) hN' h6 hx) ?_
      rintro _ _ ⟨rfl, rfl⟩
      refine Wp.run 2 (23, [(0, .ref 66), (1, .int x), (2, .int k)], [.int (-11)], (zsh ++ vs, m, ml, (zmr g'))) rfl ?_
      refine Wp.ret rfl rfl rfl ?_
      exact ⟨rfl, _, rfl, SC.rf⟩
  have hx9 := hx
  obtain ⟨i, hi, rfl⟩ := hx
  obtain ⟨q, hq, rfl⟩ := rng_of (h := 6) rfl hk
  obtain ⟨s, hs, es⟩ := (B.1.2.2.2.2 i hi).1
  have ec : mi 3 i = nI s := (B.2.2.2.2.1 i hi 0 (by decide)).trans es
  rcases (show s = 0 ∨ s = 1 ∨ s = 2 ∨ s = 3 ∨ s = 4 ∨ s = 5 ∨ s = 6 by omega) with rfl | rfl | rfl | rfl | rfl | rfl | rfl
  · rcases (show q = 0 ∨ q = 1 ∨ q = 2 ∨ q = 3 ∨ q = 4 ∨ q = 5 ∨ q = 6 by omega) with rfl | rfl | rfl | rfl | rfl | rfl | rfl
    · refine SIM.q I (x := 0) (dc := 7) (dm := 27) (by decide) (by decide) ?_ ?_
      · refine Wp.run 2 (3, [(0, .ref 0), (1, .int (nI i)), (2, .int 0)], [.int 6, .int 0], (zsh ++ vs, mi, ml, (zmr g))) rfl ?_
        refine Wp.call (as := [.int 0, .int 6]) (rest := []) rfl rfl rfl rfl rfl (Nat.le_of_ble_eq_true rfl) (Nat.le_of_ble_eq_true rfl) rfl (by decide) (c_within_t hk) ?_
        rintro _ _ ⟨rfl, rfl⟩
        refine Wp.run 4 (17, [(0, .ref 0), (1, .int (nI i)), (2, .int 0)], [.int (nI i), .ref 1], (zsh ++ vs, mi, ml, (zmr g))) rfl ?_
        refine Wp.call (as := [.ref 1, .int (nI i)]) (rest := []) rfl rfl rfl rfl rfl (Nat.le_of_ble_eq_true rfl) (Nat.le_of_ble_eq_true rfl) rfl (by decide) (c_has_t (mi := mi) hn h6 hx9) ?_
        rintro _ _ ⟨rfl, rfl⟩
        refine Wp.run 5 (34, [(0, .ref 0), (1, .int (nI i)), (2, .int 0)], [.int (nI i), .ref 3], (zsh ++ vs, mi, ml, (zmr g))) rfl ?_
        refine Wp.ialn rfl (by decide) rfl (by omega) (by decide) ?_
        refine Wp.topi (y := 0) (ec) ?_
        refine Wp.run 3 (38, [(3, .int 0), (0, .ref 0), (1, .int (nI i)), (2, .int 0)], [.int 0, .int 0], (zsh ++ vs, mi, ml, (zmr g))) rfl ?_
        refine Wp.call (as := [.int 0, .int 0]) (rest := []) rfl rfl rfl rfl rfl (Nat.le_of_ble_eq_true rfl) (Nat.le_of_ble_eq_true rfl) rfl (by decide) (c_under_0_0) ?_
        rintro _ _ ⟨rfl, rfl⟩
        refine Wp.run 3 (50, [(3, .int 0), (0, .ref 0), (1, .int (nI i)), (2, .int 0)], [.int 0], (zsh ++ vs, mi, ml, (zmr g))) rfl ?_
        refine Wp.ret rfl rfl rfl ?_
        exact ⟨rfl, _, _, rfl, SC.rf, fun _ _ _ => rfl⟩
      · intro m g' I' e67 S
        have B' := I'.1.1
        have hn' := B'.2.1
        have hN' := B'.1.1
        have hd' := B'.1.2.2.1
        refine Wp.run 3 (4, [(0, .ref 66), (1, .int (nI i)), (2, .int 0)], [.int 6, .int 0, .int 0], (zsh ++ vs, m, ml, (zmr g'))) rfl ?_
        refine Wp.call (as := [.int 0, .int 0, .int 6]) (rest := []) rfl rfl rfl rfl rfl (Nat.le_of_ble_eq_true rfl) (Nat.le_of_ble_eq_true rfl) rfl (by decide) (m_isIn_t hk) ?_
        rintro _ _ ⟨rfl, rfl⟩
        refine Wp.run 3 (15, [(0, .ref 66), (1, .int (nI i)), (2, .int 0)], [.int (nI i), .ref 66], (zsh ++ vs, m, ml, (zmr g'))) rfl ?_
        refine Wp.call (as := [.ref 66, .int (nI i)]) (rest := []) rfl rfl rfl rfl rfl (Nat.le_of_ble_eq_true rfl) (Nat.le_of_ble_eq_true rfl) rfl (by decide) (m_isOne_t (mi := m) hN' h6 hx9) ?_
        rintro _ _ ⟨rfl, rfl⟩
        refine Wp.run 4 (27, [(0, .ref 66), (1, .int (nI i)), (2, .int 0)], [.int 0, .int (nI i), .ref 66], (zsh ++ vs, m, ml, (zmr g'))) rfl ?_
        refine Wp.call (as := [.ref 66, .int (nI i), .int 0]) (rest := []) rfl rfl rfl rfl rfl (Nat.le_of_ble_eq_true rfl) (Nat.le_of_ble_eq_true rfl) rfl (by decide) (m_one (mi := m) i 0 (by omega)) ?_
        rintro _ _ ⟨rfl, rfl⟩
        refine Wp.topi (y := 0) ((congrFun e67 _).trans es) ?_
        refine Wp.run 13 (59, [(3, .int 0), (0, .ref 66), (1, .int (nI i)), (2, .int 0)], [.int 0, .int (nI i), .ref 66], (zsh ++ vs, m, ml, (zmr g'))) rfl ?_
        refine Wp.call (as := [.ref 66, .int (nI i), .int 0]) (rest := []) rfl rfl rfl rfl rfl (Nat.le_of_ble_eq_true rfl) (Nat.le_of_ble_eq_true rfl) rfl (by decide) (m_one (mi := m) i 0 (by omega)) ?_
        rintro _ _ ⟨rfl, rfl⟩
        refine Wp.topi (y := 0) ((congrFun e67 _).trans es) ?_
        refine Wp.run 1 (67, [(3, .int 0), (0, .ref 66), (1, .int (nI i)), (2, .int 0)], [.int 0], (zsh ++ vs, m, ml, (zmr g'))) rfl ?_
        refine Wp.ret rfl rfl rfl ?_
        exact ⟨rfl, _, rfl, SC.rf⟩
    · refine SIM.q I (x := -12) (dc := 7) (dm := 27) (by decide) (by decide) ?_ ?_
      · refine Wp.run 2 (3, [(0, .ref 0), (1, .int (nI i)), (2, .int 1)], [.int 6, .int 1], (zsh ++ vs, mi, ml, (zmr g))) rfl ?_
        refine Wp.call (as := [.int 1, .int 6]) (rest := []) rfl rfl rfl rfl rfl (Nat.le_of_ble_eq_true rfl) (Nat.le_of_ble_eq_true rfl) rfl (by decide) (c_within_t hk) ?_
        rintro _ _ ⟨rfl, rfl⟩
        refine Wp.run 4 (17, [(0, .ref 0), (1, .int (nI i)), (2, .int 1)], [.int (nI i), .ref 1], (zsh ++ vs, mi, ml, (zmr g))) rfl ?_
        refine Wp.call (as := [.ref 1, .int (nI i)]) (rest := []) rfl rfl rfl rfl rfl (Nat.le_of_ble_eq_true rfl) (Nat.le_of_ble_eq_true rfl) rfl (by decide) (c_has_t (mi := mi) hn h6 hx9) ?_
        rintro _ _ ⟨rfl, rfl⟩
        refine Wp.run 5 (34, [(0, .ref 0), (1, .int (nI i)), (2, .int 1)], [.int (nI i), .ref 3], (zsh ++ vs, mi, ml, (zmr g))) rfl ?_
        refine Wp.ialn rfl (by decide) rfl (by omega) (by decide) ?_
        refine Wp.topi (y := 0) (ec) ?_
        refine Wp.run 3 (38, [(3, .int 0), (0, .ref 0), (1, .int (nI i)), (2, .int 1)], [.int 1, .int 0], (zsh ++ vs, mi, ml, (zmr g))) rfl ?_
        refine Wp.call (as := [.int 0, .int 1]) (rest := []) rfl rfl rfl rfl rfl (Nat.le_of_ble_eq_true rfl) (Nat.le_of_ble_eq_true rfl) rfl (by decide) (c_under_0_1) ?_
        rintro _ _ ⟨rfl, rfl⟩
        refine Wp.run 2 (50, [(3, .int 0), (0, .ref 0), (1, .int (nI i)), (2, .int 1)], [.int (-12)], (zsh ++ vs, mi, ml, (zmr g))) rfl ?_
        refine Wp.ret rfl rfl rfl ?_
        exact ⟨rfl, _, _, rfl, SC.rf, fun _ _ _ => rfl⟩
      · intro m g' I' e67 S
        have B' := I'.1.1
        have hn' := B'.2.1
        have hN' := B'.1.1
        have hd' := B'.1.2.2.1
        refine Wp.run 3 (4, [(0, .ref 66), (1, .int (nI i)), (2, .int 1)], [.int 6, .int 0, .int 1], (zsh ++ vs, m, ml, (zmr g'))) rfl ?_
        refine Wp.call (as := [.int 1, .int 0, .int 6]) (rest := []) rfl rfl rfl rfl rfl (Nat.le_of_ble_eq_true rfl) (Nat.le_of_ble_eq_true rfl) rfl (by decide) (m_isIn_t hk) ?_
        rintro _ _ ⟨rfl, rfl⟩
        refine Wp.run 3 (15, [(0, .ref 66), (1, .int (nI i)), (2, .int 1)], [.int (nI i), .ref 66], (zsh ++ vs, m, ml, (zmr g'))) rfl ?_
        refine Wp.call (as := [.ref 66, .int (nI i)]) (rest := []) rfl rfl rfl rfl rfl (Nat.le_of_ble_eq_true rfl) (Nat.le_of_ble_eq_true rfl) rfl (by decide) (m_isOne_t (mi := m) hN' h6 hx9) ?_
        rintro _ _ ⟨rfl, rfl⟩
        refine Wp.run 4 (27, [(0, .ref 66), (1, .int (nI i)), (2, .int 1)], [.int 0, .int (nI i), .ref 66], (zsh ++ vs, m, ml, (zmr g'))) rfl ?_
        refine Wp.call (as := [.ref 66, .int (nI i), .int 0]) (rest := []) rfl rfl rfl rfl rfl (Nat.le_of_ble_eq_true rfl) (Nat.le_of_ble_eq_true rfl) rfl (by decide) (m_one (mi := m) i 0 (by omega)) ?_
        rintro _ _ ⟨rfl, rfl⟩
        refine Wp.topi (y := 0) ((congrFun e67 _).trans es) ?_
        refine Wp.run 11 (47, [(3, .int 0), (0, .ref 66), (1, .int (nI i)), (2, .int 1)], [.int (m 79 0)], (zsh ++ vs, m, ml, (zmr g'))) rfl ?_
        refine Wp.topi (y := -1) (I'.2.2.2.2.2.2.2.2.1 0 (by decide)) ?_
        refine Wp.run 2 (31, [(3, .int (-1)), (0, .ref 66), (1, .int (nI i)), (2, .int 1)], [], (zsh ++ vs, m, ml, (zmr g'))) rfl ?_
        refine Wp.run 7 (67, [(3, .int (-1)), (0, .ref 66), (1, .int (nI i)), (2, .int 1)], [.int (-12)], (zsh ++ vs, m, ml, (zmr g'))) rfl ?_
        refine Wp.ret rfl rfl rfl ?_
        exact ⟨rfl, _, rfl, SC.rf⟩
    · refine SIM.q I (x := -12) (dc := 7) (dm := 27) (by decide) (by decide) ?_ ?_
      · refine Wp.run 2 (3, [(0, .ref 0), (1, .int (nI i)), (2, .int 2)], [.int 6, .int 2], (zsh ++ vs, mi, ml, (zmr g))) rfl ?_
        refine Wp.call (as := [.int 2, .int 6]) (rest := []) rfl rfl rfl rfl rfl (Nat.le_of_ble_eq_true rfl) (Nat.le_of_ble_eq_true rfl) rfl (by decide) (c_within_t hk) ?_
        rintro _ _ ⟨rfl, rfl⟩
        refine Wp.run 4 (17, [(0, .ref 0), (1, .int (nI i)), (2, .int 2)], [.int (nI i), .ref 1], (zsh ++ vs, mi, ml, (zmr g))) rfl ?_
        refine Wp.call (as := [.ref 1, .int (nI i)]) (rest := []) rfl rfl rfl rfl rfl (Nat.le_of_ble_eq_true rfl) (Nat.le_of_ble_eq_true rfl) rfl (by decide) (c_has_t (mi := mi) hn h6 hx9) ?_
        rintro _ _ ⟨rfl, rfl⟩
        refine Wp.run 5 (34, [(0, .ref 0), (1, .int (nI i)), (2, .int 2)], [.int (nI i), .ref 3], (zsh ++ vs, mi, ml, (zmr g))) rfl ?_
        refine Wp.ialn rfl (by decide) rfl (by omega) (by decide) ?_
        refine Wp.topi (y := 0) (ec) ?_
        refine Wp.run 3 (38, [(3, .int 0), (0, .ref 0), (1, .int (nI i)), (2, .int 2)], [.int 2, .int 0], (zsh ++ vs, mi, ml, (zmr g))) rfl ?_
        refine Wp.call (as := [.int 0, .int 2]) (rest := []) rfl rfl rfl rfl rfl (Nat.le_of_ble_eq_true rfl) (Nat.le_of_ble_eq_true rfl) rfl (by decide) (c_under_0_2) ?_
        rintro _ _ ⟨rfl, rfl⟩
        refine Wp.run 2 (50, [(3, .int 0), (0, .ref 0), (1, .int (nI i)), (2, .int 2)], [.int (-12)], (zsh ++ vs, mi, ml, (zmr g))) rfl ?_
        refine Wp.ret rfl rfl rfl ?_
        exact ⟨rfl, _, _, rfl, SC.rf, fun _ _ _ => rfl⟩
      · intro m g' I' e67 S
        have B' := I'.1.1
        have hn' := B'.2.1
        have hN' := B'.1.1
        have hd' := B'.1.2.2.1
        refine Wp.run 3 (4, [(0, .ref 66), (1, .int (nI i)), (2, .int 2)], [.int 6, .int 0, .int 2], (zsh ++ vs, m, ml, (zmr g'))) rfl ?_
        refine Wp.call (as := [.int 2, .int 0, .int 6]) (rest := []) rfl rfl rfl rfl rfl (Nat.le_of_ble_eq_true rfl) (Nat.le_of_ble_eq_true rfl) rfl (by decide) (m_isIn_t hk) ?_
        rintro _ _ ⟨rfl, rfl⟩
        refine Wp.run 3 (15, [(0, .ref 66), (1, .int (nI i)), (2, .int 2)], [.int (nI i), .ref 66], (zsh ++ vs, m, ml, (zmr g'))) rfl ?_
        refine Wp.call (as := [.ref 66, .int (nI i)]) (rest := []) rfl rfl rfl rfl rfl (Nat.le_of_ble_eq_true rfl) (Nat.le_of_ble_eq_true rfl) rfl (by decide) (m_isOne_t (mi := m) hN' h6 hx9) ?_
        rintro _ _ ⟨rfl, rfl⟩
        refine Wp.run 4 (27, [(0, .ref 66), (1, .int (nI i)), (2, .int 2)], [.int 0, .int (nI i), .ref 66], (zsh ++ vs, m, ml, (zmr g'))) rfl ?_
        refine Wp.call (as := [.ref 66, .int (nI i), .int 0]) (rest := []) rfl rfl rfl rfl rfl (Nat.le_of_ble_eq_true rfl) (Nat.le_of_ble_eq_true rfl) rfl (by decide) (m_one (mi := m) i 0 (by omega)) ?_
        rintro _ _ ⟨rfl, rfl⟩
        refine Wp.topi (y := 0) ((congrFun e67 _).trans es) ?_
        refine Wp.run 11 (47, [(3, .int 0), (0, .ref 66), (1, .int (nI i)), (2, .int 2)], [.int (m 79 0)], (zsh ++ vs, m, ml, (zmr g'))) rfl ?_
        refine Wp.topi (y := -1) (I'.2.2.2.2.2.2.2.2.1 0 (by decide)) ?_
        refine Wp.run 2 (31, [(3, .int (-1)), (0, .ref 66), (1, .int (nI i)), (2, .int 2)], [], (zsh ++ vs, m, ml, (zmr g'))) rfl ?_
        refine Wp.run 7 (67, [(3, .int (-1)), (0, .ref 66), (1, .int (nI i)), (2, .int 2)], [.int (-12)], (zsh ++ vs, m, ml, (zmr g'))) rfl ?_
        refine Wp.ret rfl rfl rfl ?_
        exact ⟨rfl, _, rfl, SC.rf⟩
    · refine SIM.q I (x := -12) (dc := 7) (dm := 27) (by decide) (by decide) ?_ ?_
      · refine Wp.run 2 (3, [(0, .ref 0), (1, .int (nI i)), (2, .int 3)], [.int 6, .int 3], (zsh ++ vs, mi, ml, (zmr g))) rfl ?_
        refine Wp.call (as := [.int 3, .int 6]) (rest := []) rfl rfl rfl rfl rfl (Nat.le_of_ble_eq_true rfl) (Nat.le_of_ble_eq_true rfl) rfl (by decide) (c_within_t hk) ?_
        rintro _ _ ⟨rfl, rfl⟩
        refine Wp.run 4 (17, [(0, .ref 0), (1, .int (nI i)), (2, .int 3)], [.int (nI i), .ref 1], (zsh ++ vs, mi, ml, (zmr g))) rfl ?_
        refine Wp.call (as := [.ref 1, .int (nI i)]) (rest := []) rfl rfl rfl rfl rfl (Nat.le_of_ble_eq_true rfl) (Nat.le_of_ble_eq_true rfl) rfl (by decide) (c_has_t (mi := mi) hn h6 hx9) ?_
        rintro _ _ ⟨rfl, rfl⟩
        refine Wp.run 5 (34, [(0, .ref 0), (1, .int (nI i)), (2, .int 3)], [.int (nI i), .ref 3], (zsh ++ vs, mi, ml, (zmr g))) rfl ?_
        refine Wp.ialn rfl (by decide) rfl (by omega) (by decide) ?_
        refine Wp.topi (y := 0) (ec) ?_
        refine Wp.run 3 (38, [(3, .int 0), (0, .ref 0), (1, .int (nI i)), (2, .int 3)], [.int 3, .int 0], (zsh ++ vs, mi, ml, (zmr g))) rfl ?_
        refine Wp.call (as := [.int 0, .int 3]) (rest := []) rfl rfl rfl rfl rfl (Nat.le_of_ble_eq_true rfl) (Nat.le_of_ble_eq_true rfl) rfl (by decide) (c_under_0_3) ?_
        rintro _ _ ⟨rfl, rfl⟩
        refine Wp.run 2 (50, [(3, .int 0), (0, .ref 0), (1, .int (nI i)), (2, .int 3)], [.int (-12)], (zsh ++ vs, mi, ml, (zmr g))) rfl ?_
        refine Wp.ret rfl rfl rfl ?_
        exact ⟨rfl, _, _, rfl, SC.rf, fun _ _ _ => rfl⟩
      · intro m g' I' e67 S
        have B' := I'.1.1
        have hn' := B'.2.1
        have hN' := B'.1.1
        have hd' := B'.1.2.2.1
        refine Wp.run 3 (4, [(0, .ref 66), (1, .int (nI i)), (2, .int 3)], [.int 6, .int 0, .int 3], (zsh ++ vs, m, ml, (zmr g'))) rfl ?_
        refine Wp.call (as := [.int 3, .int 0, .int 6]) (rest := []) rfl rfl rfl rfl rfl (Nat.le_of_ble_eq_true rfl) (Nat.le_of_ble_eq_true rfl) rfl (by decide) (m_isIn_t hk) ?_
        rintro _ _ ⟨rfl, rfl⟩
        refine Wp.run 3 (15, [(0, .ref 66), (1, .int (nI i)), (2, .int 3)], [.int (nI i), .ref 66], (zsh ++ vs, m, ml, (zmr g'))) rfl ?_
        refine Wp.call (as := [.ref 66, .int (nI i)]) (rest := []) rfl rfl rfl rfl rfl (Nat.le_of_ble_eq_true rfl) (Nat.le_of_ble_eq_true rfl) rfl (by decide) (m_isOne_t (mi := m) hN' h6 hx9) ?_
        rintro _ _ ⟨rfl, rfl⟩
        refine Wp.run 4 (27, [(0, .ref 66), (1, .int (nI i)), (2, .int 3)], [.int 0, .int (nI i), .ref 66], (zsh ++ vs, m, ml, (zmr g'))) rfl ?_
        refine Wp.call (as := [.ref 66, .int (nI i), .int 0]) (rest := []) rfl rfl rfl rfl rfl (Nat.le_of_ble_eq_true rfl) (Nat.le_of_ble_eq_true rfl) rfl (by decide) (m_one (mi := m) i 0 (by omega)) ?_
        rintro _ _ ⟨rfl, rfl⟩
        refine Wp.topi (y := 0) ((congrFun e67 _).trans es) ?_
        refine Wp.run 11 (47, [(3, .int 0), (0, .ref 66), (1, .int (nI i)), (2, .int 3)], [.int (m 79 0)], (zsh ++ vs, m, ml, (zmr g'))) rfl ?_
        refine Wp.topi (y := -1) (I'.2.2.2.2.2.2.2.2.1 0 (by decide)) ?_
        refine Wp.run 2 (31, [(3, .int (-1)), (0, .ref 66), (1, .int (nI i)), (2, .int 3)], [], (zsh ++ vs, m, ml, (zmr g'))) rfl ?_
        refine Wp.run 7 (67, [(3, .int (-1)), (0, .ref 66), (1, .int (nI i)), (2, .int 3)], [.int (-12)], (zsh ++ vs, m, ml, (zmr g'))) rfl ?_
        refine Wp.ret rfl rfl rfl ?_
        exact ⟨rfl, _, rfl, SC.rf⟩
    · refine SIM.q I (x := -12) (dc := 7) (dm := 27) (by decide) (by decide) ?_ ?_
      · refine Wp.run 2 (3, [(0, .ref 0), (1, .int (nI i)), (2, .int 4)], [.int 6, .int 4], (zsh ++ vs, mi, ml, (zmr g))) rfl ?_
        refine Wp.call (as := [.int 4, .int 6]) (rest := []) rfl rfl rfl rfl rfl (Nat.le_of_ble_eq_true rfl) (Nat.le_of_ble_eq_true rfl) rfl (by decide) (c_within_t hk) ?_
        rintro _ _ ⟨rfl, rfl⟩
        refine Wp.run 4 (17, [(0, .ref 0), (1, .int (nI i)), (2, .int 4)], [.int (nI i), .ref 1], (zsh ++ vs, mi, ml, (zmr g))) rfl ?_
        refine Wp.call (as := [.ref 1, .int (nI i)]) (rest := []) rfl rfl rfl rfl rfl (Nat.le_of_ble_eq_true rfl) (Nat.le_of_ble_eq_true rfl) rfl (by decide) (c_has_t (mi := mi) hn h6 hx9) ?_
        rintro _ _ ⟨rfl, rfl⟩
        refine Wp.run 5 (34, [(0, .ref 0), (1, .int (nI i)), (2, .int 4)], [.int (nI i), .ref 3], (zsh ++ vs, mi, ml, (zmr g))) rfl ?_
        refine Wp.ialn rfl (by decide) rfl (by omega) (by decide) ?_
        refine Wp.topi (y := 0) (ec) ?_
        refine Wp.run 3 (38, [(3, .int 0), (0, .ref 0), (1, .int (nI i)), (2, .int 4)], [.int 4, .int 0], (zsh ++ vs, mi, ml, (zmr g))) rfl ?_
        refine Wp.call (as := [.int 0, .int 4]) (rest := []) rfl rfl rfl rfl rfl (Nat.le_of_ble_eq_true rfl) (Nat.le_of_ble_eq_true rfl) rfl (by decide) (c_under_0_4) ?_
        rintro _ _ ⟨rfl, rfl⟩
        refine Wp.run 2 (50, [(3, .int 0), (0, .ref 0), (1, .int (nI i)), (2, .int 4)], [.int (-12)], (zsh ++ vs, mi, ml, (zmr g))) rfl ?_
        refine Wp.ret rfl rfl rfl ?_
        exact ⟨rfl, _, _, rfl, SC.rf, fun _ _ _ => rfl⟩
      · intro m g' I' e67 S
        have B' := I'.1.1
        have hn' := B'.2.1
        have hN' := B'.1.1
        have hd' := B'.1.2.2.1
        refine Wp.run 3 (4, [(0, .ref 66), (1, .int (nI i)), (2, .int 4)], [.int 6, .int 0, .int 4], (zsh ++ vs, m, ml, (zmr g'))) rfl ?_
        refine Wp.call (as := [.int 4, .int 0, .int 6]) (rest := []) rfl rfl rfl rfl rfl (Nat.le_of_ble_eq_true rfl) (Nat.le_of_ble_eq_true rfl) rfl (by decide) (m_isIn_t hk) ?_
        rintro _ _ ⟨rfl, rfl⟩
        refine Wp.run 3 (15, [(0, .ref 66), (1, .int (nI i)), (2, .int 4)], [.int (nI i), .ref 66], (zsh ++ vs, m, ml, (zmr g'))) rfl ?_
        refine Wp.call (as := [.ref 66, .int (nI i)]) (rest := []) rfl rfl rfl rfl rfl (Nat.le_of_ble_eq_true rfl) (Nat.le_of_ble_eq_true rfl) rfl (by decide) (m_isOne_t (mi := m) hN' h6 hx9) ?_
        rintro _ _ ⟨rfl, rfl⟩
        refine Wp.run 4 (27, [(0, .ref 66), (1, .int (nI i)), (2, .int 4)], [.int 0, .int (nI i), .ref 66], (zsh ++ vs, m, ml, (zmr g'))) rfl ?_
        refine Wp.call (as := [.ref 66, .int (nI i), .int 0]) (rest := []) rfl rfl rfl rfl rfl (Nat.le_of_ble_eq_true rfl) (Nat.le_of_ble_eq_true rfl) rfl (by decide) (m_one (mi := m) i 0 (by omega)) ?_
        rintro _ _ ⟨rfl, rfl⟩
        refine Wp.topi (y := 0) ((congrFun e67 _).trans es) ?_
        refine Wp.run 11 (47, [(3, .int 0), (0, .ref 66), (1, .int (nI i)), (2, .int 4)], [.int (m 79 0)], (zsh ++ vs, m, ml, (zmr g'))) rfl ?_
        refine Wp.topi (y := -1) (I'.2.2.2.2.2.2.2.2.1 0 (by decide)) ?_
        refine Wp.run 2 (31, [(3, .int (-1)), (0, .ref 66), (1, .int (nI i)), (2, .int 4)], [], (zsh ++ vs, m, ml, (zmr g'))) rfl ?_
        refine Wp.run 7 (67, [(3, .int (-1)), (0, .ref 66), (1, .int (nI i)), (2, .int 4)], [.int (-12)], (zsh ++ vs, m, ml, (zmr g'))) rfl ?_
        refine Wp.ret rfl rfl rfl ?_
        exact ⟨rfl, _, rfl, SC.rf⟩
    · refine SIM.q I (x := -12) (dc := 7) (dm := 27) (by decide) (by decide) ?_ ?_
      · refine Wp.run 2 (3, [(0, .ref 0), (1, .int (nI i)), (2, .int 5)], [.int 6, .int 5], (zsh ++ vs, mi, ml, (zmr g))) rfl ?_
        refine Wp.call (as := [.int 5, .int 6]) (rest := []) rfl rfl rfl rfl rfl (Nat.le_of_ble_eq_true rfl) (Nat.le_of_ble_eq_true rfl) rfl (by decide) (c_within_t hk) ?_
        rintro _ _ ⟨rfl, rfl⟩
        refine Wp.run 4 (17, [(0, .ref 0), (1, .int (nI i)), (2, .int 5)], [.int (nI i), .ref 1], (zsh ++ vs, mi, ml, (zmr g))) rfl ?_
        refine Wp.call (as := [.ref 1, .int (nI i)]) (rest := []) rfl rfl rfl rfl rfl (Nat.le_of_ble_eq_true rfl) (Nat.le_of_ble_eq_true rfl) rfl (by decide) (c_has_t (mi := mi) hn h6 hx9) ?_
        rintro _ _ ⟨rfl, rfl⟩
        refine Wp.run 5 (34, [(0, .ref 0), (1, .int (nI i)), (2, .int 5)], [.int (nI i), .ref 3], (zsh ++ vs, mi, ml, (zmr g))) rfl ?_
        refine Wp.ialn rfl (by decide) rfl (by omega) (by decide) ?_
        refine Wp.topi (y := 0) (ec) ?_
        refine Wp.run 3 (38, [(3, .int 0), (0, .ref 0), (1, .int (nI i)), (2, .int 5)], [.int 5, .int 0], (zsh ++ vs, mi, ml, (zmr g))) rfl ?_
        refine Wp.call (as := [.int 0, .int 5]) (rest := []) rfl rfl rfl rfl rfl (Nat.le_of_ble_eq_true rfl) (Nat.le_of_ble_eq_true rfl) rfl (by decide) (c_under_0_5) ?_
        rintro _ _ ⟨rfl, rfl⟩
        refine Wp.run 2 (50, [(3, .int 0), (0, .ref 0), (1, .int (nI i)), (2, .int 5)], [.int (-12)], (zsh ++ vs, mi, ml, (zmr g))) rfl ?_
        refine Wp.ret rfl rfl rfl ?_
        exact ⟨rfl, _, _, rfl, SC.rf, fun _ _ _ => rfl⟩
      · intro m g' I' e67 S
        have B' := I'.1.1
        have hn' := B'.2.1
        have hN' := B'.1.1
        have hd' := B'.1.2.2.1
        refine Wp.run 3 (4, [(0, .ref 66), (1, .int (nI i)), (2, .int 5)], [.int 6, .int 0, .int 5], (zsh ++ vs, m, ml, (zmr g'))) rfl ?_
        refine Wp.call (as := [.int 5, .int 0, .int 6]) (rest := []) rfl rfl rfl rfl rfl (Nat.le_of_ble_eq_true rfl) (Nat.le_of_ble_eq_true rfl) rfl (by decide) (m_isIn_t hk) ?_
        rintro _ _ ⟨rfl, rfl⟩
        refine Wp.run 3 (15, [(0, .ref 66), (1, .int (nI i)), (2, .int 5)], [.int (nI i), .ref 66], (zsh ++ vs, m, ml, (zmr g'))) rfl ?_
        refine Wp.call (as := [.ref 66, .int (nI i)]) (rest := []) rfl rfl rfl rfl rfl (Nat.le_of_ble_eq_true rfl) (Nat.le_of_ble_eq_true rfl) rfl (by decide) (m_isOne_t (mi := m) hN' h6 hx9) ?_
        rintro _ _ ⟨rfl, rfl⟩
        refine Wp.run 4 (27, [(0, .ref 66), (1, .int (nI i)), (2, .int 5)], [.int 0, .int (nI i), .ref 66], (zsh ++ vs, m, ml, (zmr g'))) rfl ?_
        refine Wp.call (as := [.ref 66, .int (nI i), .int 0]) (rest := []) rfl rfl rfl rfl rfl (Nat.le_of_ble_eq_true rfl) (Nat.le_of_ble_eq_true rfl) rfl (by decide) (m_one (mi := m) i 0 (by omega)) ?_
        rintro _ _ ⟨rfl, rfl⟩
        refine Wp.topi (y := 0) ((congrFun e67 _).trans es) ?_
        refine Wp.run 11 (47, [(3, .int 0), (0, .ref 66), (1, .int (nI i)), (2, .int 5)], [.int (m 79 0)], (zsh ++ vs, m, ml, (zmr g'))) rfl ?_
        refine Wp.topi (y := -1) (I'.2.2.2.2.2.2.2.2.1 0 (by decide)) ?_
        refine Wp.run 2 (31, [(3, .int (-1)), (0, .ref 66), (1, .int (nI i)), (2, .int 5)], [], (zsh ++ vs, m, ml, (zmr g'))) rfl ?_
        refine Wp.run 7 (67, [(3, .int (-1)), (0, .ref 66), (1, .int (nI i)), (2, .int 5)], [.int (-12)], (zsh ++ vs, m, ml, (zmr g'))) rfl ?_
        refine Wp.ret rfl rfl rfl ?_
        exact ⟨rfl, _, rfl, SC.rf⟩
    · refine SIM.q I (x := -12) (dc := 7) (dm := 27) (by decide) (by decide) ?_ ?_
      · refine Wp.run 2 (3, [(0, .ref 0), (1, .int (nI i)), (2, .int 6)], [.int 6, .int 6], (zsh ++ vs, mi, ml, (zmr g))) rfl ?_
        refine Wp.call (as := [.int 6, .int 6]) (rest := []) rfl rfl rfl rfl rfl (Nat.le_of_ble_eq_true rfl) (Nat.le_of_ble_eq_true rfl) rfl (by decide) (c_within_t hk) ?_
        rintro _ _ ⟨rfl, rfl⟩
        refine Wp.run 4 (17, [(0, .ref 0), (1, .int (nI i)), (2, .int 6)], [.int (nI i), .ref 1], (zsh ++ vs, mi, ml, (zmr g))) rfl ?_
        refine Wp.call (as := [.ref 1, .int (nI i)]) (rest := []) rfl rfl rfl rfl rfl (Nat.le_of_ble_eq_true rfl) (Nat.le_of_ble_eq_true rfl) rfl (by decide) (c_has_t (mi := mi) hn h6 hx9) ?_
        rintro _ _ ⟨rfl, rfl⟩
        refine Wp.run 5 (34, [(0, .ref 0), (1, .int (nI i)), (2, .int 6)], [.int (nI i), .ref 3], (zsh ++ vs, mi, ml, (zmr g))) rfl ?_
        refine Wp.ialn rfl (by decide) rfl (by omega) (by decide) ?_
        refine Wp.topi (y := 0) (ec) ?_
        refine Wp.run 3 (38, [(3, .int 0), (0, .ref 0), (1, .int (nI i)), (2, .int 6)], [.int 6, .int 0], (zsh ++ vs, mi, ml, (zmr g))) rfl ?_
        refine Wp.call (as := [.int 0, .int 6]) (rest := []) rfl rfl rfl rfl rfl (Nat.le_of_ble_eq_true rfl) (Nat.le_of_ble_eq_true rfl) rfl (by decide) (c_under_0_6) ?_
        rintro _ _ ⟨rfl, rfl⟩
        refine Wp.run 2 (50, [(3, .int 0), (0, .ref 0), (1, .int (nI i)), (2, .int 6)], [.int (-12)], (zsh ++ vs, mi, ml, (zmr g))) rfl ?_
        refine Wp.ret rfl rfl rfl ?_
        exact ⟨rfl, _, _, rfl, SC.rf, fun _ _ _ => rfl⟩
      · intro m g' I' e67 S
        have B' := I'.1.1
        have hn' := B'.2.1
        have hN' := B'.1.1
        have hd' := B'.1.2.2.1
        refine Wp.run 3 (4, [(0, .ref 66), (1, .int (nI i)), (2, .int 6)], [.int 6, .int 0, .int 6], (zsh ++ vs, m, ml, (zmr g'))) rfl ?_
        refine Wp.call (as := [.int 6, .int 0, .int 6]) (rest := []) rfl rfl rfl rfl rfl (Nat.le_of_ble_eq_true rfl) (Nat.le_of_ble_eq_true rfl) rfl (by decide) (m_isIn_t hk) ?_
        rintro _ _ ⟨rfl, rfl⟩
        refine Wp.run 3 (15, [(0, .ref 66), (1, .int (nI i)), (2, .int 6)], [.int (nI i), .ref 66], (zsh ++ vs, m, ml, (zmr g'))) rfl ?_
        refine Wp.call (as := [.ref 66, .int (nI i)]) (rest := []) rfl rfl rfl rfl rfl (Nat.le_of_ble_eq_true rfl) (Nat.le_of_ble_eq_true rfl) rfl (by decide) (m_isOne_t (mi := m) hN' h6 hx9) ?_
        rintro _ _ ⟨rfl, rfl⟩
        refine Wp.run 4 (27, [(0, .ref 66), (1, .int (nI i)), (2, .int 6)], [.int 0, .int (nI i), .ref 66], (zsh ++ vs, m, ml, (zmr g'))) rfl ?_
        refine Wp.call (as := [.ref 66, .int (nI i), .int 0]) (rest := []) rfl rfl rfl rfl rfl (Nat.le_of_ble_eq_true rfl) (Nat.le_of_ble_eq_true rfl) rfl (by decide) (m_one (mi := m) i 0 (by omega)) ?_
        rintro _ _ ⟨rfl, rfl⟩
        refine Wp.topi (y := 0) ((congrFun e67 _).trans es) ?_
        refine Wp.run 11 (47, [(3, .int 0), (0, .ref 66), (1, .int (nI i)), (2, .int 6)], [.int (m 79 0)], (zsh ++ vs, m, ml, (zmr g'))) rfl ?_
        refine Wp.topi (y := -1) (I'.2.2.2.2.2.2.2.2.1 0 (by decide)) ?_
        refine Wp.run 2 (31, [(3, .int (-1)), (0, .ref 66), (1, .int (nI i)), (2, .int 6)], [], (zsh ++ vs, m, ml, (zmr g'))) rfl ?_
        refine Wp.run 7 (67, [(3, .int (-1)), (0, .ref 66), (1, .int (nI i)), (2, .int 6)], [.int (-12)], (zsh ++ vs, m, ml, (zmr g'))) rfl ?_
        refine Wp.ret rfl rfl rfl ?_
        exact ⟨rfl, _, rfl, SC.rf⟩
  · rcases (show q = 0 ∨ q = 1 ∨ q = 2 ∨ q = 3 ∨ q = 4 ∨ q = 5 ∨ q = 6 by omega) with rfl | rfl | rfl | rfl | rfl | rfl | rfl
    · refine SIM.q I (x := 1) (dc := 7) (dm := 27) (by decide) (by decide) ?_ ?_
      · refine Wp.run 2 (3, [(0, .ref 0), (1, .int (nI i)), (2, .int 0)], [.int 6, .int 0], (zsh ++ vs, mi, ml, (zmr g))) rfl ?_
        refine Wp.call (as := [.int 0, .int 6]) (rest := []) rfl rfl rfl rfl rfl (Nat.le_of_ble_eq_true rfl) (Nat.le_of_ble_eq_true rfl) rfl (by decide) (c_within_t hk) ?_
        rintro _ _ ⟨rfl, rfl⟩
        refine Wp.run 4 (17, [(0, .ref 0), (1, .int (nI i)), (2, .int 0)], [.int (nI i), .ref 1], (zsh ++ vs, mi, ml, (zmr g))) rfl ?_
        refine Wp.call (as := [.ref 1, .int (nI i)]) (rest := []) rfl rfl rfl rfl rfl (Nat.le_of_ble_eq_true rfl) (Nat.le_of_ble_eq_true rfl) rfl (by decide) (c_has_t (mi := mi) hn h6 hx9) ?_
        rintro _ _ ⟨rfl, rfl⟩
        refine Wp.run 5 (34, [(0, .ref 0), (1, .int (nI i)), (2, .int 0)], [.int (nI i), .ref 3], (zsh ++ vs, mi, ml, (zmr g))) rfl ?_
        refine Wp.ialn rfl (by decide) rfl (by omega) (by decide) ?_
        refine Wp.topi (y := 1) (ec) ?_
        refine Wp.run 3 (38, [(3, .int 1), (0, .ref 0), (1, .int (nI i)), (2, .int 0)], [.int 0, .int 1], (zsh ++ vs, mi, ml, (zmr g))) rfl ?_
        refine Wp.call (as := [.int 1, .int 0]) (rest := []) rfl rfl rfl rfl rfl (Nat.le_of_ble_eq_true rfl) (Nat.le_of_ble_eq_true rfl) rfl (by decide) (c_under_1_0) ?_
        rintro _ _ ⟨rfl, rfl⟩
        refine Wp.run 3 (50, [(3, .int 1), (0, .ref 0), (1, .int (nI i)), (2, .int 0)], [.int 1], (zsh ++ vs, mi, ml, (zmr g))) rfl ?_
        refine Wp.ret rfl rfl rfl ?_
        exact ⟨rfl, _, _, rfl, SC.rf, fun _ _ _ => rfl⟩
      · intro m g' I' e67 S
        have B' := I'.1.1
        have hn' := B'.2.1
        have hN' := B'.1.1
        have hd' := B'.1.2.2.1
        refine Wp.run 3 (4, [(0, .ref 66), (1, .int (nI i)), (2, .int 0)], [.int 6, .int 0, .int 0], (zsh ++ vs, m, ml, (zmr g'))) rfl ?_
        refine Wp.call (as := [.int 0, .int 0, .int 6]) (rest := []) rfl rfl rfl rfl rfl (Nat.le_of_ble_eq_true rfl) (Nat.le_of_ble_eq_true rfl) rfl (by decide) (m_isIn_t hk) ?_
        rintro _ _ ⟨rfl, rfl⟩
        refine Wp.run 3 (15, [(0, .ref 66), (1, .int (nI i)), (2, .int 0)], [.int (nI i), .ref 66], (zsh ++ vs, m, ml, (zmr g'))) rfl ?_
        refine Wp.call (as := [.ref 66, .int (nI i)]) (rest := []) rfl rfl rfl rfl rfl (Nat.le_of_ble_eq_true rfl) (Nat.le_of_ble_eq_true rfl) rfl (by decide) (m_isOne_t (mi := m) hN' h6 hx9) ?_
        rintro _ _ ⟨rfl, rfl⟩
        refine Wp.run 4 (27, [(0, .ref 66), (1, .int (nI i)), (2, .int 0)], [.int 0, .int (nI i), .ref 66], (zsh ++ vs, m, ml, (zmr g'))) rfl ?_
        refine Wp.call (as := [.ref 66, .int (nI i), .int 0]) (rest := []) rfl rfl rfl rfl rfl (Nat.le_of_ble_eq_true rfl) (Nat.le_of_ble_eq_true rfl) rfl (by decide) (m_one (mi := m) i 0 (by omega)) ?_
        rintro _ _ ⟨rfl, rfl⟩
        refine Wp.topi (y := 1) ((congrFun e67 _).trans es) ?_
        refine Wp.run 11 (47, [(3, .int 1), (0, .ref 66), (1, .int (nI i)), (2, .int 0)], [.int (m 79 1)], (zsh ++ vs, m, ml, (zmr g'))) rfl ?_
        refine Wp.topi (y := 0) (I'.2.2.2.2.2.2.2.2.1 1 (by decide)) ?_
        refine Wp.run 2 (31, [(3, .int 0), (0, .ref 66), (1, .int (nI i)), (2, .int 0)], [], (zsh ++ vs, m, ml, (zmr g'))) rfl ?_
        refine Wp.run 12 (59, [(3, .int 0), (0, .ref 66), (1, .int (nI i)), (2, .int 0)], [.int 0, .int (nI i), .ref 66], (zsh ++ vs, m, ml, (zmr g'))) rfl ?_
        refine Wp.call (as := [.ref 66, .int (nI i), .int 0]) (rest := []) rfl rfl rfl rfl rfl (Nat.le_of_ble_eq_true rfl) (Nat.le_of_ble_eq_true rfl) rfl (by decide) (m_one (mi := m) i 0 (by omega)) ?_
        rintro _ _ ⟨rfl, rfl⟩
        refine Wp.topi (y := 1) ((congrFun e67 _).trans es) ?_
        refine Wp.run 1 (67, [(3, .int 0), (0, .ref 66), (1, .int (nI i)), (2, .int 0)], [.int 1], (zsh ++ vs, m, ml, (zmr g'))) rfl ?_
        refine Wp.ret rfl rfl rfl ?_
        exact ⟨rfl, _, rfl, SC.rf⟩
    · refine SIM.q I (x := 1) (dc := 7) (dm := 27) (by decide) (by decide) ?_ ?_
      · refine Wp.run 2 (3, [(0, .ref 0), (1, .int (nI i)), (2, .int 1)], [.int 6, .int 1], (zsh ++ vs, mi, ml, (zmr g))) rfl ?_
        refine Wp.call (as := [.int 1, .int 6]) (rest := []) rfl rfl rfl rfl rfl (Nat.le_of_ble_eq_true rfl) (Nat.le_of_ble_eq_true rfl) rfl (by decide) (c_within_t hk) ?_
        rintro _ _ ⟨rfl, rfl⟩
        refine Wp.run 4 (17, [(0, .ref 0), (1, .int (nI i)), (2, .int 1)], [.int (nI i), .ref 1], (zsh ++ vs, mi, ml, (zmr g))) rfl ?_
        refine Wp.call (as := [.ref 1, .int (nI i)]) (rest := []) rfl rfl rfl rfl rfl (Nat.le_of_ble_eq_true rfl) (Nat.le_of_ble_eq_true rfl) rfl (by decide) (c_has_t (mi := mi) hn h6 hx9) ?_
        rintro _ _ ⟨rfl, rfl⟩
        refine Wp.run 5 (34, [(0, .ref 0), (1, .int (nI i)), (2, .int 1)], [.int (nI i), .ref 3], (zsh ++ vs, mi, ml, (zmr g))) rfl ?_
        refine Wp.ialn rfl (by decide) rfl (by omega) (by decide) ?_
        refine Wp.topi (y := 1) (ec) ?_
        refine Wp.run 3 (38, [(3, .int 1), (0, .ref 0), (1, .int (nI i)), (2, .int 1)], [.int 1, .int 1], (zsh ++ vs, mi, ml, (zmr g))) rfl ?_
        refine Wp.call (as := [.int 1, .int 1]) (rest := []) rfl rfl rfl rfl rfl (Nat.le_of_ble_eq_true rfl) (Nat.le_of_ble_eq_true rfl) rfl (by decide) (c_under_1_1) ?_
        rintro _ _ ⟨rfl, rfl⟩
        refine Wp.run 3 (50, [(3, .int 1), (0, .ref 0), (1, .int (nI i)), (2, .int 1)], [.int 1], (zsh ++ vs, mi, ml, (zmr g))) rfl ?_
        refine Wp.ret rfl rfl rfl ?_
        exact ⟨rfl, _, _, rfl, SC.rf, fun _ _ _ => rfl⟩
      · intro m g' I' e67 S
        have B' := I'.1.1
        have hn' := B'.2.1
        have hN' := B'.1.1
        have hd' := B'.1.2.2.1
        refine Wp.run 3 (4, [(0, .ref 66), (1, .int (nI i)), (2, .int 1)], [.int 6, .int 0, .int 1], (zsh ++ vs, m, ml, (zmr g'))) rfl ?_
        refine Wp.call (as := [.int 1, .int 0, .int 6]) (rest := []) rfl rfl rfl rfl rfl (Nat.le_of_ble_eq_true rfl) (Nat.le_of_ble_eq_true rfl) rfl (by decide) (m_isIn_t hk) ?_
        rintro _ _ ⟨rfl, rfl⟩
        refine Wp.run 3 (15, [(0, .ref 66), (1, .int (nI i)), (2, .int 1)], [.int (nI i), .ref 66], (zsh ++ vs, m, ml, (zmr g'))) rfl ?_
        refine Wp.call (as := [.ref 66, .int (nI i)]) (rest := []) rfl rfl rfl rfl rfl (Nat.le_of_ble_eq_true rfl) (Nat.le_of_ble_eq_true rfl) rfl (by decide) (m_isOne_t (mi := m) hN' h6 hx9) ?_
        rintro _ _ ⟨rfl, rfl⟩
        refine Wp.run 4 (27, [(0, .ref 66), (1, .int (nI i)), (2, .int 1)], [.int 0, .int (nI i), .ref 66], (zsh ++ vs, m, ml, (zmr g'))) rfl ?_
        refine Wp.call (as := [.ref 66, .int (nI i), .int 0]) (rest := []) rfl rfl rfl rfl rfl (Nat.le_of_ble_eq_true rfl) (Nat.le_of_ble_eq_true rfl) rfl (by decide) (m_one (mi := m) i 0 (by omega)) ?_
        rintro _ _ ⟨rfl, rfl⟩
        refine Wp.topi (y := 1) ((congrFun e67 _).trans es) ?_
        refine Wp.run 13 (59, [(3, .int 1), (0, .ref 66), (1, .int (nI i)), (2, .int 1)], [.int 0, .int (nI i), .ref 66], (zsh ++ vs, m, ml, (zmr g'))) rfl ?_
        refine Wp.call (as := [.ref 66, .int (nI i), .int 0]) (rest := []) rfl rfl rfl rfl rfl (Nat.le_of_ble_eq_true rfl) (Nat.le_of_ble_eq_true rfl) rfl (by decide) (m_one (mi := m) i 0 (by omega)) ?_
        rintro _ _ ⟨rfl, rfl⟩
        refine Wp.topi (y := 1) ((congrFun e67 _).trans es) ?_
        refine Wp.run 1 (67, [(3, .int 1), (0, .ref 66), (1, .int (nI i)), (2, .int 1)], [.int 1], (zsh ++ vs, m, ml, (zmr g'))) rfl ?_
        refine Wp.ret rfl rfl rfl ?_
        exact ⟨rfl, _, rfl, SC.rf⟩
    · refine SIM.q I (x := -12) (dc := 7) (dm := 27) (by decide) (by decide) ?_ ?_
      · refine Wp.run 2 (3, [(0, .ref 0), (1, .int (nI i)), (2, .int 2)], [.int 6, .int 2], (zsh ++ vs, mi, ml, (zmr g))) rfl ?_
        refine Wp.call (as := [.int 2, .int 6]) (rest := []) rfl rfl rfl rfl rfl (Nat.le_of_ble_eq_true rfl) (Nat.le_of_ble_eq_true rfl) rfl (by decide) (c_within_t hk) ?_
        rintro _ _ ⟨rfl, rfl⟩
        refine Wp.run 4 (17, [(0, .ref 0), (1, .int (nI i)), (2, .int 2)], [.int (nI i), .ref 1], (zsh ++ vs, mi, ml, (zmr g))) rfl ?_
        refine Wp.call (as := [.ref 1, .int (nI i)]) (rest := []) rfl rfl rfl rfl rfl (Nat.le_of_ble_eq_true rfl) (Nat.le_of_ble_eq_true rfl) rfl (by decide) (c_has_t (mi := mi) hn h6 hx9) ?_
        rintro _ _ ⟨rfl, rfl⟩
        refine Wp.run 5 (34, [(0, .ref 0), (1, .int (nI i)), (2, .int 2)], [.int (nI i), .ref 3], (zsh ++ vs, mi, ml, (zmr g))) rfl ?_
        refine Wp.ialn rfl (by decide) rfl (by omega) (by decide) ?_
        refine Wp.topi (y := 1) (ec) ?_
        refine Wp.run 3 (38, [(3, .int 1), (0, .ref 0), (1, .int (nI i)), (2, .int 2)], [.int 2, .int 1], (zsh ++ vs, mi, ml, (zmr g))) rfl ?_
        refine Wp.call (as := [.int 1, .int 2]) (rest := []) rfl rfl rfl rfl rfl (Nat.le_of_ble_eq_true rfl) (Nat.le_of_ble_eq_true rfl) rfl (by decide) (c_under_1_2) ?_
        rintro _ _ ⟨rfl, rfl⟩
        refine Wp.run 2 (50, [(3, .int 1), (0, .ref 0), (1, .int (nI i)), (2, .int 2)], [.int (-12)], (zsh ++ vs, mi, ml, (zmr g))) rfl ?_
        refine Wp.ret rfl rfl rfl ?_
        exact ⟨rfl, _, _, rfl, SC.rf, fun _ _ _ => rfl⟩
      · intro m g' I' e67 S
        have B' := I'.1.1
        have hn' := B'.2.1
        have hN' := B'.1.1
        have hd' := B'.1.2.2.1
        refine Wp.run 3 (4, [(0, .ref 66), (1, .int (nI i)), (2, .int 2)], [.int 6, .int 0, .int 2], (zsh ++ vs, m, ml, (zmr g'))) rfl ?_
        refine Wp.call (as := [.int 2, .int 0, .int 6]) (rest := []) rfl rfl rfl rfl rfl (Nat.le_of_ble_eq_true rfl) (Nat.le_of_ble_eq_true rfl) rfl (by decide) (m_isIn_t hk) ?_
        rintro _ _ ⟨rfl, rfl⟩
        refine Wp.run 3 (15, [(0, .ref 66), (1, .int (nI i)), (2, .int 2)], [.int (nI i), .ref 66], (zsh ++ vs, m, ml, (zmr g'))) rfl ?_
        refine Wp.call (as := [.ref 66, .int (nI i)]) (rest := []) rfl rfl rfl rfl rfl (Nat.le_of_ble_eq_true rfl) (Nat.le_of_ble_eq_true rfl) rfl (by decide) (m_isOne_t (mi := m) hN' h6 hx9) ?_
        rintro _ _ ⟨rfl, rfl⟩
        refine Wp.run 4 (27, [(0, .ref 66), (1, .int (nI i)), (2, .int 2)], [.int 0, .int (nI i), .ref 66], (zsh ++ vs, m, ml, (zmr g'))) rfl ?_
        refine Wp.call (as := [.ref 66, .int (nI i), .int 0]) (rest := []) rfl rfl rfl rfl rfl (Nat.le_of_ble_eq_true rfl) (Nat.le_of_ble_eq_true rfl) rfl (by decide) (m_one (mi := m) i 0 (by omega)) ?_
        rintro _ _ ⟨rfl, rfl⟩
        refine Wp.topi (y := 1) ((congrFun e67 _).trans es) ?_
        refine Wp.run 11 (47, [(3, .int 1), (0, .ref 66), (1, .int (nI i)), (2, .int 2)], [.int (m 79 1)], (zsh ++ vs, m, ml, (zmr g'))) rfl ?_
        refine Wp.topi (y := 0) (I'.2.2.2.2.2.2.2.2.1 1 (by decide)) ?_
        refine Wp.run 2 (31, [(3, .int 0), (0, .ref 66), (1, .int (nI i)), (2, .int 2)], [], (zsh ++ vs, m, ml, (zmr g'))) rfl ?_
        refine Wp.run 10 (47, [(3, .int 0), (0, .ref 66), (1, .int (nI i)), (2, .int 2)], [.int (m 79 0)], (zsh ++ vs, m, ml, (zmr g'))) rfl ?_
        refine Wp.topi (y := -1) (I'.2.2.2.2.2.2.2.2.1 0 (by decide)) ?_
        refine Wp.run 2 (31, [(3, .int (-1)), (0, .ref 66), (1, .int (nI i)), (2, .int 2)], [], (zsh ++ vs, m, ml, (zmr g'))) rfl ?_
        refine Wp.run 7 (67, [(3, .int (-1)), (0, .ref 66), (1, .int (nI i)), (2, .int 2)], [.int (-12)], (zsh ++ vs, m, ml, (zmr g'))) rfl ?_
        refine Wp.ret rfl rfl rfl ?_
        exact ⟨rfl, _, rfl, SC.rf⟩
    · refine SIM.q I (x := -12) (dc := 7) (dm := 27) (by decide) (by decide) ?_ ?_
      · refine Wp.run 2 (3, [(0, .ref 0), (1, .int (nI i)), (2, .int 3)], [.int 6, .int 3], (zsh ++ vs, mi, ml, (zmr g))) rfl ?_
        refine Wp.call (as := [.int 3, .int 6]) (rest := []) rfl rfl rfl rfl rfl (Nat.le_of_ble_eq_true rfl) (Nat.le_of_ble_eq_true rfl) rfl (by decide) (c_within_t hk) ?_
        rintro _ _ ⟨rfl, rfl⟩
        refine Wp.run 4 (17, [(0, .ref 0), (1, .int (nI i)), (2, .int 3)], [.int (nI i), .ref 1], (zsh ++ vs, mi, ml, (zmr g))) rfl ?_
        refine Wp.call (as := [.ref 1, .int (nI i)]) (rest := []) rfl rfl rfl rfl rfl (Nat.le_of_ble_eq_true rfl) (Nat.le_of_ble_eq_true rfl) rfl (by decide) (c_has_t (mi := mi) hn h6 hx9) ?_
        rintro _ _ ⟨rfl, rfl⟩
        refine Wp.run 5 (34, [(0, .ref 0), (1, .int (nI i)), (2, .int 3)], [.int (nI i), .ref 3], (zsh ++ vs, mi, ml, (zmr g))) rfl ?_
        refine Wp.ialn rfl (by decide) rfl (by omega) (by decide) ?_
        refine Wp.topi (y := 1) (ec) ?_
        refine Wp.run 3 (38, [(3, .int 1), (0, .ref 0), (1, .int (nI i)), (2, .int 3)], [.int 3, .int 1], (zsh ++ vs, mi, ml, (zmr g))) rfl ?_
        refine Wp.call (as := [.int 1, .int 3]) (rest := []) rfl rfl rfl rfl rfl (Nat.le_of_ble_eq_true rfl) (Nat.le_of_ble_eq_true rfl) rfl (by decide) (c_under_1_3) ?_
        rintro _ _ ⟨rfl, rfl⟩
        refine Wp.run 2 (50, [(3, .int 1), (0, .ref 0), (1, .int (nI i)), (2, .int 3)], [.int (-12)], (zsh ++ vs, mi, ml, (zmr g))) rfl ?_
        refine Wp.ret rfl rfl rfl ?_
        exact ⟨rfl, _, _, rfl, SC.rf, fun _ _ _ => rfl⟩
      · intro m g' I' e67 S
        have B' := I'.1.1
        have hn' := B'.2.1
        have hN' := B'.1.1
        have hd' := B'.1.2.2.1
        refine Wp.run 3 (4, [(0, .ref 66), (1, .int (nI i)), (2, .int 3)], [.int 6, .int 0, .int 3], (zsh ++ vs, m, ml, (zmr g'))) rfl ?_
        refine Wp.call (as := [.int 3, .int 0, .int 6]) (rest := []) rfl rfl rfl rfl rfl (Nat.le_of_ble_eq_true rfl) (Nat.le_of_ble_eq_true rfl) rfl (by decide) (m_isIn_t hk) ?_
        rintro _ _ ⟨rfl, rfl⟩
        refine Wp.run 3 (15, [(0, .ref 66), (1, .int (nI i)), (2, .int 3)], [.int (nI i), .ref 66], (zsh ++ vs, m, ml, (zmr g'))) rfl ?_
        refine Wp.call (as := [.ref 66, .int (nI i)]) (rest := []) rfl rfl rfl rfl rfl (Nat.le_of_ble_eq_true rfl) (Nat.le_of_ble_eq_true rfl) rfl (by decide) (m_isOne_t (mi := m) hN' h6 hx9) ?_
        rintro _ _ ⟨rfl, rfl⟩
        refine Wp.run 4 (27, [(0, .ref 66), (1, .int (nI i)), (2, .int 3)], [.int 0, .int (nI i), .ref 66], (zsh ++ vs, m, ml, (zmr g'))) rfl ?_
        refine Wp.call (as := [.ref 66, .int (nI i), .int 0]) (rest := []) rfl rfl rfl rfl rfl (Nat.le_of_ble_eq_true rfl) (Nat.le_of_ble_eq_true rfl) rfl (by decide) (m_one (mi := m) i 0 (by omega)) ?_
        rintro _ _ ⟨rfl, rfl⟩
        refine Wp.topi (y := 1) ((congrFun e67 _).trans es) ?_
        refine Wp.run 11 (47, [(3, .int 1), (0, .ref 66), (1, .int (nI i)), (2, .int 3)], [.int (m 79 1)], (zsh ++ vs, m, ml, (zmr g'))) rfl ?_
        refine Wp.topi (y := 0) (I'.2.2.2.2.2.2.2.2.1 1 (by decide)) ?_
        refine Wp.run 2 (31, [(3, .int 0), (0, .ref 66), (1, .int (nI i)), (2, .int 3)], [], (zsh ++ vs, m, ml, (zmr g'))) rfl ?_
        refine Wp.run 10 (47, [(3, .int 0), (0, .ref 66), (1, .int (nI i)), (2, .int 3)], [.int (m 79 0)], (zsh ++ vs, m, ml, (zmr g'))) rfl ?_
        refine Wp.topi (y := -1) (I'.2.2.2.2.2.2.2.2.1 0 (by decide)) ?_
        refine Wp.run 2 (31, [(3, .int (-1)), (0, .ref 66), (1, .int (nI i)), (2, .int 3)], [], (zsh ++ vs, m, ml, (zmr g'))) rfl ?_
        refine Wp.run 7 (67, [(3, .int (-1)), (0, .ref 66), (1, .int (nI i)), (2, .int 3)], [.int (-12)], (zsh ++ vs, m, ml, (zmr g'))) rfl ?_
        refine Wp.ret rfl rfl rfl ?_
        exact ⟨rfl, _, rfl, SC.rf⟩
    · refine SIM.q I (x := -12) (dc := 7) (dm := 27) (by decide) (by decide) ?_ ?_
      · refine Wp.run 2 (3, [(0, .ref 0), (1, .int (nI i)), (2, .int 4)], [.int 6, .int 4], (zsh ++ vs, mi, ml, (zmr g))) rfl ?_
        refine Wp.call (as := [.int 4, .int 6]) (rest := []) rfl rfl rfl rfl rfl (Nat.le_of_ble_eq_true rfl) (Nat.le_of_ble_eq_true rfl) rfl (by decide) (c_within_t hk) ?_
        rintro _ _ ⟨rfl, rfl⟩
        refine Wp.run 4 (17, [(0, .ref 0), (1, .int (nI i)), (2, .int 4)], [.int (nI i), .ref 1], (zsh ++ vs, mi, ml, (zmr g))) rfl ?_
        refine Wp.call (as := [.ref 1, .int (nI i)]) (rest := []) rfl rfl rfl rfl rfl (Nat.le_of_ble_eq_true rfl) (Nat.le_of_ble_eq_true rfl) rfl (by decide) (c_has_t (mi := mi) hn h6 hx9) ?_
        rintro _ _ ⟨rfl, rfl⟩
        refine Wp.run 5 (34, [(0, .ref 0), (1, .int (nI i)), (2, .int 4)], [.int (nI i), .ref 3], (zsh ++ vs, mi, ml, (zmr g))) rfl ?_
        refine Wp.ialn rfl (by decide) rfl (by omega) (by decide) ?_
        refine Wp.topi (y := 1) (ec) ?_
        refine Wp.run 3 (38, [(3, .int 1), (0, .ref 0), (1, .int (nI i)), (2, .int 4)], [.int 4, .int 1], (zsh ++ vs, mi, ml, (zmr g))) rfl ?_
        refine Wp.call (as := [.int 1, .int 4]) (rest := []) rfl rfl rfl rfl rfl (Nat.le_of_ble_eq_true rfl) (Nat.le_of_ble_eq_true rfl) rfl (by decide) (c_under_1_4) ?_
        rintro _ _ ⟨rfl, rfl⟩
        refine Wp.run 2 (50, [(3, .int 1), (0, .ref 0), (1, .int (nI i)), (2, .int 4)], [.int (-12)], (zsh ++ vs, mi, ml, (zmr g))) rfl ?_
        refine Wp.ret rfl rfl rfl ?_
        exact ⟨rfl, _, _, rfl, SC.rf, fun _ _ _ => rfl⟩
      · intro m g' I' e67 S
        have B' := I'.1.1
        have hn' := B'.2.1
        have hN' := B'.1.1
        have hd' := B'.1.2.2.1
        refine Wp.run 3 (4, [(0, .ref 66), (1, .int (nI i)), (2, .int 4)], [.int 6, .int 0, .int 4], (zsh ++ vs, m, ml, (zmr g'))) rfl ?_
        refine Wp.call (as := [.int 4, .int 0, .int 6]) (rest := []) rfl rfl rfl rfl rfl (Nat.le_of_ble_eq_true rfl) (Nat.le_of_ble_eq_true rfl) rfl (by decide) (m_isIn_t hk) ?_
        rintro _ _ ⟨rfl, rfl⟩
        refine Wp.run 3 (15, [(0, .ref 66), (1, .int (nI i)), (2, .int 4)], [.int (nI i), .ref 66], (zsh ++ vs, m, ml, (zmr g'))) rfl ?_
        refine Wp.call (as := [.ref 66, .int (nI i)]) (rest := []) rfl rfl rfl rfl rfl (Nat.le_of_ble_eq_true rfl) (Nat.le_of_ble_eq_true rfl) rfl (by decide) (m_isOne_t (mi := m) hN' h6 hx9) ?_
        rintro _ _ ⟨rfl, rfl⟩
        refine Wp.run 4 (27, [(0, .ref 66), (1, .int (nI i)), (2, .int 4)], [.int 0, .int (nI i), .ref 66], (zsh ++ vs, m, ml, (zmr g'))) rfl ?_
        refine Wp.call (as := [.ref 66, .int (nI i), .int 0]) (rest := []) rfl rfl rfl rfl rfl (Nat.le_of_ble_eq_true rfl) (Nat.le_of_ble_eq_true rfl) rfl (by decide) (m_one (mi := m) i 0 (by omega)) ?_
        rintro _ _ ⟨rfl, rfl⟩
        refine Wp.topi (y := 1) ((congrFun e67 _).trans es) ?_
        refine Wp.run 11 (47, [(3, .int 1), (0, .ref 66), (1, .int (nI i)), (2, .int 4)], [.int (m 79 1)], (zsh ++ vs, m, ml, (zmr g'))) rfl ?_
        refine Wp.topi (y := 0) (I'.2.2.2.2.2.2.2.2.1 1 (by decide)) ?_
        refine Wp.run 2 (31, [(3, .int 0), (0, .ref 66), (1, .int (nI i)), (2, .int 4)], [], (zsh ++ vs, m, ml, (zmr g'))) rfl ?_
        refine Wp.run 10 (47, [(3, .int 0), (0, .ref 66), (1, .int (nI i)), (2, .int 4)], [.int (m 79 0)], (zsh ++ vs, m, ml, (zmr g'))) rfl ?_
        refine Wp.topi (y := -1) (I'.2.2.2.2.2.2.2.2.1 0 (by decide)) ?_
        refine Wp.run 2 (31, [(3, .int (-1)), (0, .ref 66), (1, .int (nI i)), (2, .int 4)], [], (zsh ++ vs, m, ml, (zmr g'))) rfl ?_
        refine Wp.run 7 (67, [(3, .int (-1)), (0, .ref 66), (1, .int (nI i)), (2, .int 4)], [.int (-12)], (zsh ++ vs, m, ml, (zmr g'))) rfl ?_
        refine Wp.ret rfl rfl rfl ?_
        exact ⟨rfl, _, rfl, SC.rf⟩
    · refine SIM.q I (x := -12) (dc := 7) (dm := 27) (by decide) (by decide) ?_ ?_
      · refine Wp.run 2 (3, [(0, .ref 0), (1, .int (nI i)), (2, .int 5)], [.int 6, .int 5], (zsh ++ vs, mi, ml, (zmr g))) rfl ?_
        refine Wp.call (as := [.int 5, .int 6]) (rest := []) rfl rfl rfl rfl rfl (Nat.le_of_ble_eq_true rfl) (Nat.le_of_ble_eq_true rfl) rfl (by decide) (c_within_t hk) ?_
        rintro _ _ ⟨rfl, rfl⟩
        refine Wp.run 4 (17, [(0, .ref 0), (1, .int (nI i)), (2, .int 5)], [.int (nI i), .ref 1], (zsh ++ vs, mi, ml, (zmr g))) rfl ?_
        refine Wp.call (as := [.ref 1, .int (nI i)]) (rest := []) rfl rfl rfl rfl rfl (Nat.le_of_ble_eq_true rfl) (Nat.le_of_ble_eq_true rfl) rfl (by decide) (c_has_t (mi := mi) hn h6 hx9) ?_
        rintro _ _ ⟨rfl, rfl⟩
        refine Wp.run 5 (34, [(0, .ref 0), (1, .int (nI i)), (2, .int 5)], [.int (nI i), .ref 3], (zsh ++ vs, mi, ml, (zmr g))) rfl ?_
        refine Wp.ialn rfl (by decide) rfl (by omega) (by decide) ?_
        refine Wp.topi (y := 1) (ec) ?_
        refine Wp.run 3 (38, [(3, .int 1), (0, .ref 0), (1, .int (nI i)), (2, .int 5)], [.int 5, .int 1], (zsh ++ vs, mi, ml, (zmr g))) rfl ?_
        refine Wp.call (as := [.int 1, .int 5]) (rest := []) rfl rfl rfl rfl rfl (Nat.le_of_ble_eq_true rfl) (Nat.le_of_ble_eq_true rfl) rfl (by decide) (c_under_1_5) ?_
        rintro _ _ ⟨rfl, rfl⟩
        refine Wp.run 2 (50, [(3, .int 1), (0, .ref 0), (1, .int (nI i)), (2, .int 5)], [.int (-12)], (zsh ++ vs, mi, ml, (zmr g))) rfl ?_
        refine Wp.ret rfl rfl rfl ?_
        exact ⟨rfl, _, _, rfl, SC.rf, fun _ _ _ => rfl⟩
      · intro m g' I' e67 S
        have B' := I'.1.1
        have hn' := B'.2.1
        have hN' := B'.1.1
        have hd' := B'.1.2.2.1
        refine Wp.run 3 (4, [(0, .ref 66), (1, .int (nI i)), (2, .int 5)], [.int 6, .int 0, .int 5], (zsh ++ vs, m, ml, (zmr g'))) rfl ?_
        refine Wp.call (as := [.int 5, .int 0, .int 6]) (rest := []) rfl rfl rfl rfl rfl (Nat.le_of_ble_eq_true rfl) (Nat.le_of_ble_eq_true rfl) rfl (by decide) (m_isIn_t hk) ?_
        rintro _ _ ⟨rfl, rfl⟩
        refine Wp.run 3 (15, [(0, .ref 66), (1, .int (nI i)), (2, .int 5)], [.int (nI i), .ref 66], (zsh ++ vs, m, ml, (zmr g'))) rfl ?_
        refine Wp.call (as := [.ref 66, .int (nI i)]) (rest := []) rfl rfl rfl rfl rfl (Nat.le_of_ble_eq_true rfl) (Nat.le_of_ble_eq_true rfl) rfl (by decide) (m_isOne_t (mi := m) hN' h6 hx9) ?_
        rintro _ _ ⟨rfl, rfl⟩
        refine Wp.run 4 (27, [(0, .ref 66), (1, .int (nI i)), (2, .int 5)], [.int 0, .int (nI i), .ref 66], (zsh ++ vs, m, ml, (zmr g'))) rfl ?_
        refine Wp.call (as := [.ref 66, .int (nI i), .int 0]) (rest := []) rfl rfl rfl rfl rfl (Nat.le_of_ble_eq_true rfl) (Nat.le_of_ble_eq_true rfl) rfl (by decide) (m_one (mi := m) i 0 (by omega)) ?_
        rintro _ _ ⟨rfl, rfl⟩
        refine Wp.topi (y := 1) ((congrFun e67 _).trans es) ?_
        refine Wp.run 11 (47, [(3, .int 1), (0, .ref 66), (1, .int (nI i)), (2, .int 5)], [.int (m 79 1)], (zsh ++ vs, m, ml, (zmr g'))) rfl ?_
        refine Wp.topi (y := 0) (I'.2.2.2.2.2.2.2.2.1 1 (by decide)) ?_
        refine Wp.run 2 (31, [(3, .int 0), (0, .ref 66), (1, .int (nI i)), (2, .int 5)], [], (zsh ++ vs, m, ml, (zmr g'))) rfl ?_
        refine Wp.run 10 (47, [(3, .int 0), (0, .ref 66), (1, .int (nI i)), (2, .int 5)], [.int (m 79 0)], (zsh ++ vs, m, ml, (zmr g'))) rfl ?_
        refine Wp.topi (y := -1) (I'.2.2.2.2.2.2.2.2.1 0 (by decide)) ?_
        refine Wp.run 2 (31, [(3, .int (-1)), (0, .ref 66), (1, .int (nI i)), (2, .int 5)], [], (zsh ++ vs, m, ml, (zmr g'))) rfl ?_
        refine Wp.run 7 (67, [(3, .int (-1)), (0, .ref 66), (1, .int (nI i)), (2, .int 5)], [.int (-12)], (zsh ++ vs, m, ml, (zmr g'))) rfl ?_
        refine Wp.ret rfl rfl rfl ?_
        exact ⟨rfl, _, rfl, SC.rf⟩
    · refine SIM.q I (x := -12) (dc := 7) (dm := 27) (by decide) (by decide) ?_ ?_
      · refine Wp.run 2 (3, [(0, .ref 0), (1, .int (nI i)), (2, .int 6)], [.int 6, .int 6], (zsh ++ vs, mi, ml, (zmr g))) rfl ?_
        refine Wp.call (as := [.int 6, .int 6]) (rest := []) rfl rfl rfl rfl rfl (Nat.le_of_ble_eq_true rfl) (Nat.le_of_ble_eq_true rfl) rfl (by decide) (c_within_t hk) ?_
        rintro _ _ ⟨rfl, rfl⟩
        refine Wp.run 4 (17, [(0, .ref 0), (1, .int (nI i)), (2, .int 6)], [.int (nI i), .ref 1], (zsh ++ vs, mi, ml, (zmr g))) rfl ?_
        refine Wp.call (as := [.ref 1, .int (nI i)]) (rest := []) rfl rfl rfl rfl rfl (Nat.le_of_ble_eq_true rfl) (Nat.le_of_ble_eq_true rfl) rfl (by decide) (c_has_t (mi := mi) hn h6 hx9) ?_
        rintro _ _ ⟨rfl, rfl⟩
        refine Wp.run 5 (34, [(0, .ref 0), (1, .int (nI i)), (2, .int 6)], [.int (nI i), .ref 3], (zsh ++ vs, mi, ml, (zmr g))) rfl ?_
        refine Wp.ialn rfl (by decide) rfl (by omega) (by decide) ?_
        refine Wp.topi (y := 1) (ec) ?_
        refine Wp.run 3 (38, [(3, .int 1), (0, .ref 0), (1, .int (nI i)), (2, .int 6)], [.int 6, .int 1], (zsh ++ vs, mi, ml, (zmr g))) rfl ?_
        refine Wp.call (as := [.int 1, .int 6]) (rest := []) rfl rfl rfl rfl rfl (Nat.le_of_ble_eq_true rfl) (Nat.le_of_ble_eq_true rfl) rfl (by decide) (c_under_1_6) ?_
        rintro _ _ ⟨rfl, rfl⟩
        refine Wp.run 2 (50, [(3, .int 1), (0, .ref 0), (1, .int (nI i)), (2, .int 6)], [.int (-12)], (zsh ++ vs, mi, ml, (zmr g))) rfl ?_
        refine Wp.ret rfl rfl rfl ?_
        exact ⟨rfl, _, _, rfl, SC.rf, fun _ _ _ => rfl⟩
      · intro m g' I' e67 S
        have B' := I'.1.1
        have hn' := B'.2.1
        have hN' := B'.1.1
        have hd' := B'.1.2.2.1
        refine Wp.run 3 (4, [(0, .ref 66), (1, .int (nI i)), (2, .int 6)], [.int 6, .int 0, .int 6], (zsh ++ vs, m, ml, (zmr g'))) rfl ?_
        refine Wp.call (as := [.int 6, .int 0, .int 6]) (rest := []) rfl rfl rfl rfl rfl (Nat.le_of_ble_eq_true rfl) (Nat.le_of_ble_eq_true rfl) rfl (by decide) (m_isIn_t hk) ?_
        rintro _ _ ⟨rfl, rfl⟩
        refine Wp.run 3 (15, [(0, .ref 66), (1, .int (nI i)), (2, .int 6)], [.int (nI i), .ref 66], (zsh ++ vs, m, ml, (zmr g'))) rfl ?_
        refine Wp.call (as := [.ref 66, .int (nI i)]) (rest := []) rfl rfl rfl rfl rfl (Nat.le_of_ble_eq_true rfl) (Nat.le_of_ble_eq_true rfl) rfl (by decide) (m_isOne_t (mi := m) hN' h6 hx9) ?_
        rintro _ _ ⟨rfl, rfl⟩
        refine Wp.run 4 (27, [(0, .ref 66), (1, .int (nI i)), (2, .int 6)], [.int 0, .int (nI i), .ref 66], (zsh ++ vs, m, ml, (zmr g'))) rfl ?_
        refine Wp.call (as := [.ref 66, .int (nI i), .int 0]) (rest := []) rfl rfl rfl rfl rfl (Nat.le_of_ble_eq_true rfl) (Nat.le_of_ble_eq_true rfl) rfl (by decide) (m_one (mi := m) i 0 (by omega)) ?_
        rintro _ _ ⟨rfl, rfl⟩
        refine Wp.topi (y := 1) ((congrFun e67 _).trans es) ?_
        refine Wp.run 11 (47, [(3, .int 1), (0, .ref 66), (1, .int (nI i)), (2, .int 6)], [.int (m 79 1)], (zsh ++ vs, m, ml, (zmr g'))) rfl ?_
        refine Wp.topi (y := 0) (I'.2.2.2.2.2.2.2.2.1 1 (by decide)) ?_
        refine Wp.run 2 (31, [(3, .int 0), (0, .ref 66), (1, .int (nI i)), (2, .int 6)], [], (zsh ++ vs, m, ml, (zmr g'))) rfl ?_
        refine Wp.run 10 (47, [(3, .int 0), (0, .ref 66), (1, .int (nI i)), (2, .int 6)], [.int (m 79 0)], (zsh ++ vs, m, ml, (zmr g'))) rfl ?_
        refine Wp.topi (y := -1) (I'.2.2.2.2.2.2.2.2.1 0 (by decide)) ?_
        refine Wp.run 2 (31, [(3, .int (-1)), (0, .ref 66), (1, .int (nI i)), (2, .int 6)], [], (zsh ++ vs, m, ml, (zmr g'))) rfl ?_
        refine Wp.run 7 (67, [(3, .int (-1)), (0, .ref 66), (1, .int (nI i)), (2, .int 6)], [.int (-12)], (zsh ++ vs, m, ml, (zmr g'))) rfl ?_
        refine Wp.ret rfl rfl rfl ?_
        exact ⟨rfl, _, rfl, SC.rf⟩
  · rcases (show q = 0 ∨ q = 1 ∨ q = 2 ∨ q = 3 ∨ q = 4 ∨ q = 5 ∨ q = 6 by omega) with rfl | rfl | rfl | rfl | rfl | rfl | rfl
    · refine SIM.q I (x := 2) (dc := 7) (dm := 27) (by decide) (by decide) ?_ ?_
      · refine Wp.run 2 (3, [(0, .ref 0), (1, .int (nI i)), (2, .int 0)], [.int 6, .int 0], (zsh ++ vs, mi, ml, (zmr g))) rfl ?_
        refine Wp.call (as := [.int 0, .int 6]) (rest := []) rfl rfl rfl rfl rfl (Nat.le_of_ble_eq_true rfl) (Nat.le_of_ble_eq_true rfl) rfl (by decide) (c_within_t hk) ?_
        rintro _ _ ⟨rfl, rfl⟩
        refine Wp.run 4 (17, [(0, .ref 0), (1, .int (nI i)), (2, .int 0)], [.int (nI i), .ref 1], (zsh ++ vs, mi, ml, (zmr g))) rfl ?_
        refine Wp.call (as := [.ref 1, .int (nI i)]) (rest := []) rfl rfl rfl rfl rfl (Nat.le_of_ble_eq_true rfl) (Nat.le_of_ble_eq_true rfl) rfl (by decide) (c_has_t (mi := mi) hn h6 hx9) ?_
        rintro _ _ ⟨rfl, rfl⟩
        refine Wp.run 5 (34, [(0, .ref 0), (1, .int (nI i)), (2, .int 0)], [.int (nI i), .ref 3], (zsh ++ vs, mi, ml, (zmr g))) rfl ?_
        refine Wp.ialn rfl (by decide) rfl (by omega) (by decide) ?_
        refine Wp.topi (y := 2) (ec) ?_
        refine Wp.run 3 (38, [(3, .int 2), (0, .ref 0), (1, .int (nI i)), (2, .int 0)], [.int 0, .int 2], (zsh ++ vs, mi, ml, (zmr g))) rfl ?_
        refine Wp.call (as := [.int 2, .int 0]) (rest := []) rfl rfl rfl rfl rfl (Nat.le_of_ble_eq_true rfl) (Nat.le_of_ble_eq_true rfl) rfl (by decide) (c_under_2_0) ?_
        rintro _ _ ⟨rfl, rfl⟩
        refine Wp.run 3 (50, [(3, .int 2), (0, .ref 0), (1, .int (nI i)), (2, .int 0)], [.int 2], (zsh ++ vs, mi, ml, (zmr g))) rfl ?_
        refine Wp.ret rfl rfl rfl ?_
        exact ⟨rfl, _, _, rfl, SC.rf, fun _ _ _ => rfl⟩
      · intro m g' I' e67 S
        have B' := I'.1.1
        have hn' := B'.2.1
        have hN' := B'.1.1
        have hd' := B'.1.2.2.1
        refine Wp.run 3 (4, [(0, .ref 66), (1, .int (nI i)), (2, .int 0)], [.int 6, .int 0, .int 0], (zsh ++ vs, m, ml, (zmr g'))) rfl ?_
        refine Wp.call (as := [.int 0, .int 0, .int 6]) (rest := []) rfl rfl rfl rfl rfl (Nat.le_of_ble_eq_true rfl) (Nat.le_of_ble_eq_true rfl) rfl (by decide) (m_isIn_t hk) ?_
        rintro _ _ ⟨rfl, rfl⟩
        refine Wp.run 3 (15, [(0, .ref 66), (1, .int (nI i)), (2, .int 0)], [.int (nI i), .ref 66], (zsh ++ vs, m, ml, (zmr g'))) rfl ?_
        refine Wp.call (as := [.ref 66, .int (nI i)]) (rest := []) rfl rfl rfl rfl rfl (Nat.le_of_ble_eq_true rfl) (Nat.le_of_ble_eq_true rfl) rfl (by decide) (m_isOne_t (mi := m) hN' h6 hx9) ?_
        rintro _ _ ⟨rfl, rfl⟩
        refine Wp.run 4 (27, [(0, .ref 66), (1, .int (nI i)), (2, .int 0)], [.int 0, .int (nI i), .ref 66], (zsh ++ vs, m, ml, (zmr g'))) rfl ?_
        refine Wp.call (as := [.ref 66, .int (nI i), .int 0]) (rest := []) rfl rfl rfl rfl rfl (Nat.le_of_ble_eq_true rfl) (Nat.le_of_ble_eq_true rfl) rfl (by decide) (m_one (mi := m) i 0 (by omega)) ?_
        rintro _ _ ⟨rfl, rfl⟩
        refine Wp.topi (y := 2) ((congrFun e67 _).trans es) ?_
        refine Wp.run 11 (47, [(3, .int 2), (0, .ref 66), (1, .int (nI i)), (2, .int 0)], [.int (m 79 2)], (zsh ++ vs, m, ml, (zmr g'))) rfl ?_
        refine Wp.topi (y := 0) (I'.2.2.2.2.2.2.2.2.1 2 (by decide)) ?_
        refine Wp.run 2 (31, [(3, .int 0), (0, .ref 66), (1, .int (nI i)), (2, .int 0)], [], (zsh ++ vs, m, ml, (zmr g'))) rfl ?_
        refine Wp.run 12 (59, [(3, .int 0), (0, .ref 66), (1, .int (nI i)), (2, .int 0)], [.int 0, .int (nI i), .ref 66], (zsh ++ vs, m, ml, (zmr g'))) rfl ?_
        refine Wp.call (as := [.ref 66, .int (nI i), .int 0]) (rest := []) rfl rfl rfl rfl rfl (Nat.le_of_ble_eq_true rfl) (Nat.le_of_ble_eq_true rfl) rfl (by decide) (m_one (mi := m) i 0 (by omega)) ?_
        rintro _ _ ⟨rfl, rfl⟩
        refine Wp.topi (y := 2) ((congrFun e67 _).trans es) ?_
        refine Wp.run 1 (67, [(3, .int 0), (0, .ref 66), (1, .int (nI i)), (2, .int 0)], [.int 2], (zsh ++ vs, m, ml, (zmr g'))) rfl ?_
        refine Wp.ret rfl rfl rfl ?_
        exact ⟨rfl, _, rfl, SC.rf⟩
    · refine SIM.q I (x := -12) (dc := 7) (dm := 27) (by decide) (by decide) ?_ ?_
      · refine Wp.run 2 (3, [(0, .ref 0), (1, .int (nI i)), (2, .int 1)], [.int 6, .int 1], (zsh ++ vs, mi, ml, (zmr g))) rfl ?_
        refine Wp.call (as := [.int 1, .int 6]) (rest := []) rfl rfl rfl rfl rfl (Nat.le_of_ble_eq_true rfl) (Nat.le_of_ble_eq_true rfl) rfl (by decide) (c_within_t hk) ?_
        rintro _ _ ⟨rfl, rfl⟩
        refine Wp.run 4 (17, [(0, .ref 0), (1, .int (nI i)), (2, .int 1)], [.int (nI i), .ref 1], (zsh ++ vs, mi, ml, (zmr g))) rfl ?_
        refine Wp.call (as := [.ref 1, .int (nI i)]) (rest := []) rfl rfl rfl rfl rfl (Nat.le_of_ble_eq_true rfl) (Nat.le_of_ble_eq_true rfl) rfl (by decide) (c_has_t (mi := mi) hn h6 hx9) ?_
        rintro _ _ ⟨rfl, rfl⟩
        refine Wp.run 5 (34, [(0, .ref 0), (1, .int (nI i)), (2, .int 1)], [.int (nI i), .ref 3], (zsh ++ vs, mi, ml, (zmr g))) rfl ?_
        refine Wp.ialn rfl (by decide) rfl (by omega) (by decide) ?_
        refine Wp.topi (y := 2) (ec) ?_
        refine Wp.run 3 (38, [(3, .int 2), (0, .ref 0), (1, .int (nI i)), (2, .int 1)], [.int 1, .int 2], (zsh ++ vs, mi, ml, (zmr g))) rfl ?_
        refine Wp.call (as := [.int 2, .int 1]) (rest := []) rfl rfl rfl rfl rfl (Nat.le_of_ble_eq_true rfl) (Nat.le_of_ble_eq_true rfl) rfl (by decide) (c_under_2_1) ?_
        rintro _ _ ⟨rfl, rfl⟩
        refine Wp.run 2 (50, [(3, .int 2), (0, .ref 0), (1, .int (nI i)), (2, .int 1)], [.int (-12)], (zsh ++ vs, mi, ml, (zmr g))) rfl ?_
        refine Wp.ret rfl rfl rfl ?_
        exact ⟨rfl, _, _, rfl, SC.rf, fun _ _ _ => rfl⟩
      · intro m g' I' e67 S
        have B' := I'.1.1
        have hn' := B'.2.1
        have hN' := B'.1.1
        have hd' := B'.1.2.2.1
        refine Wp.run 3 (4, [(0, .ref 66), (1, .int (nI i)), (2, .int 1)], [.int 6, .int 0, .int 1], (zsh ++ vs, m, ml, (zmr g'))) rfl ?_
        refine Wp.call (as := [.int 1, .int 0, .int 6]) (rest := []) rfl rfl rfl rfl rfl (Nat.le_of_ble_eq_true rfl) (Nat.le_of_ble_eq_true rfl) rfl (by decide) (m_isIn_t hk) ?_
        rintro _ _ ⟨rfl, rfl⟩
        refine Wp.run 3 (15, [(0, .ref 66), (1, .int (nI i)), (2, .int 1)], [.int (nI i), .ref 66], (zsh ++ vs, m, ml, (zmr g'))) rfl ?_
        refine Wp.call (as := [.ref 66, .int (nI i)]) (rest := []) rfl rfl rfl rfl rfl (Nat.le_of_ble_eq_true rfl) (Nat.le_of_ble_eq_true rfl) rfl (by decide) (m_isOne_t (mi := m) hN' h6 hx9) ?_
        rintro _ _ ⟨rfl, rfl⟩
        refine Wp.run 4 (27, [(0, .ref 66), (1, .int (nI i)), (2, .int 1)], [.int 0, .int (nI i), .ref 66], (zsh ++ vs, m, ml, (zmr g'))) rfl ?_
        refine Wp.call (as := [.ref 66, .int (nI i), .int 0]) (rest := []) rfl rfl rfl rfl rfl (Nat.le_of_ble_eq_true rfl) (Nat.le_of_ble_eq_true rfl) rfl (by decide) (m_one (mi := m) i 0 (by omega)) ?_
        rintro _ _ ⟨rfl, rfl⟩
        refine Wp.topi (y := 2) ((congrFun e67 _).trans es) ?_
        refine Wp.run 11 (47, [(3, .int 2), (0, .ref 66), (1, .int (nI i)), (2, .int 1)], [.int (m 79 2)], (zsh ++ vs, m, ml, (zmr g'))) rfl ?_
        refine Wp.topi (y := 0) (I'.2.2.2.2.2.2.2.2.1 2 (by decide)) ?_
        refine Wp.run 2 (31, [(3, .int 0), (0, .ref 66), (1, .int (nI i)), (2, .int 1)], [], (zsh ++ vs, m, ml, (zmr g'))) rfl ?_
        refine Wp.run 10 (47, [(3, .int 0), (0, .ref 66), (1, .int (nI i)), (2, .int 1)], [.int (m 79 0)], (zsh ++ vs, m, ml, (zmr g'))) rfl ?_
        refine Wp.topi (y := -1) (I'.2.2.2.2.2.2.2.2.1 0 (by decide)) ?_
        refine Wp.run 2 (31, [(3, .int (-1)), (0, .ref 66), (1, .int (nI i)), (2, .int 1)], [], (zsh ++ vs, m, ml, (zmr g'))) rfl ?_
        refine Wp.run 7 (67, [(3, .int (-1)), (0, .ref 66), (1, .int (nI i)), (2, .int 1)], [.int (-12)], (zsh ++ vs, m, ml, (zmr g'))) rfl ?_
        refine Wp.ret rfl rfl rfl ?_
        exact ⟨rfl, _, rfl, SC.rf⟩
    · refine SIM.q I (x := 2) (dc := 7) (dm := 27) (by decide) (by decide) ?_ ?_
      · refine Wp.run 2 (3, [(0, .ref 0), (1, .int (nI i)), (2, .int 2)], [.int 6, .int 2], (zsh ++ vs, mi, ml, (zmr g))) rfl ?_
        refine Wp.call (as := [.int 2, .int 6]) (rest := []) rfl rfl rfl rfl rfl (Nat.le_of_ble_eq_true rfl) (Nat.le_of_ble_eq_true rfl) rfl (by decide) (c_within_t hk) ?_
        rintro _ _ ⟨rfl, rfl⟩
        refine Wp.run 4 (17, [(0, .ref 0), (1, .int (nI i)), (2, .int 2)], [.int (nI i), .ref 1], (zsh ++ vs, mi, ml, (zmr g))) rfl ?_
        refine Wp.call (as := [.ref 1, .int (nI i)]) (rest := []) rfl rfl rfl rfl rfl (Nat.le_of_ble_eq_true rfl) (Nat.le_of_ble_eq_true rfl) rfl (by decide) (c_has_t (mi := mi) hn h6 hx9) ?_
        rintro _ _ ⟨rfl, rfl⟩
        refine Wp.run 5 (34, [(0, .ref 0), (1, .int (nI i)), (2, .int 2)], [.int (nI i), .ref 3], (zsh ++ vs, mi, ml, (zmr g))) rfl ?_
        refine Wp.ialn rfl (by decide) rfl (by omega) (by decide) ?_
        refine Wp.topi (y := 2) (ec) ?_
        refine Wp.run 3 (38, [(3, .int 2), (0, .ref 0), (1, .int (nI i)), (2, .int 2)], [.int 2, .int 2], (zsh ++ vs, mi, ml, (zmr g))) rfl ?_
        refine Wp.call (as := [.int 2, .int 2]) (rest := []) rfl rfl rfl rfl rfl (Nat.le_of_ble_eq_true rfl) (Nat.le_of_ble_eq_true rfl) rfl (by decide) (c_under_2_2) ?_
        rintro _ _ ⟨rfl, rfl⟩
        refine Wp.run 3 (50, [(3, .int 2), (0, .ref 0), (1, .int (nI i)), (2, .int 2)], [.int 2], (zsh ++ vs, mi, ml, (zmr g))) rfl ?_
        refine Wp.ret rfl rfl rfl ?_
        exact ⟨rfl, _, _, rfl, SC.rf, fun _ _ _ => rfl⟩
      · intro m g' I' e67 S
        have B' := I'.1.1
        have hn' := B'.2.1
        have hN' := B'.1.1
        have hd' := B'.1.2.2.1
        refine Wp.run 3 (4, [(0, .ref 66), (1, .int (nI i)), (2, .int 2)], [.int 6, .int 0, .int 2], (zsh ++ vs, m, ml, (zmr g'))) rfl ?_
        refine Wp.call (as := [.int 2, .int 0, .int 6]) (rest := []) rfl rfl rfl rfl rfl (Nat.le_of_ble_eq_true rfl) (Nat.le_of_ble_eq_true rfl) rfl (by decide) (m_isIn_t hk) ?_
        rintro _ _ ⟨rfl, rfl⟩
        refine Wp.run 3 (15, [(0, .ref 66), (1, .int (nI i)), (2, .int 2)], [.int (nI i), .ref 66], (zsh ++ vs, m, ml, (zmr g'))) rfl ?_
        refine Wp.call (as := [.ref 66, .int (nI i)]) (rest := []) rfl rfl rfl rfl rfl (Nat.le_of_ble_eq_true rfl) (Nat.le_of_ble_eq_true rfl) rfl (by decide) (m_isOne_t (mi := m) hN' h6 hx9) ?_
        rintro _ _ ⟨rfl, rfl⟩
        refine Wp.run 4 (27, [(0, .ref 66), (1, .int (nI i)), (2, .int 2)], [.int 0, .int (nI i), .ref 66], (zsh ++ vs, m, ml, (zmr g'))) rfl ?_
        refine Wp.call (as := [.ref 66, .int (nI i), .int 0]) (rest := []) rfl rfl rfl rfl rfl (Nat.le_of_ble_eq_true rfl) (Nat.le_of_ble_eq_true rfl) rfl (by decide) (m_one (mi := m) i 0 (by omega)) ?_
        rintro _ _ ⟨rfl, rfl⟩
        refine Wp.topi (y := 2) ((congrFun e67 _).trans es) ?_
        refine Wp.run 13 (59, [(3, .int 2), (0, .ref 66), (1, .int (nI i)), (2, .int 2)], [.int 0, .int (nI i), .ref 66], (zsh ++ vs, m, ml, (zmr g'))) rfl ?_
        refine Wp.call (as := [.ref 66, .int (nI i), .int 0]) (rest := []) rfl rfl rfl rfl rfl (Nat.le_of_ble_eq_true rfl) (Nat.le_of_ble_eq_true rfl) rfl (by decide) (m_one (mi := m) i 0 (by omega)) ?_
        rintro _ _ ⟨rfl, rfl⟩
        refine Wp.topi (y := 2) ((congrFun e67 _).trans es) ?_
        refine Wp.run 1 (67, [(3, .int 2), (0, .ref 66), (1, .int (nI i)), (2, .int 2)], [.int 2], (zsh ++ vs, m, ml, (zmr g'))) rfl ?_
        refine Wp.ret rfl rfl rfl ?_
        exact ⟨rfl, _, rfl, SC.rf⟩
    · refine SIM.q I (x := -12) (dc := 7) (dm := 27) (by decide) (by decide) ?_ ?_
      · refine Wp.run 2 (3, [(0, .ref 0), (1, .int (nI i)), (2, .int 3)], [.int 6, .int 3], (zsh ++ vs, mi, ml, (zmr g))) rfl ?_
        refine Wp.call (as := [.int 3, .int 6]) (rest := []) rfl rfl rfl rfl rfl (Nat.le_of_ble_eq_true rfl) (Nat.le_of_ble_eq_true rfl) rfl (by decide) (c_within_t hk) ?_
        rintro _ _ ⟨rfl, rfl⟩
        refine Wp.run 4 (17, [(0, .ref 0), (1, .int (nI i)), (2, .int 3)], [.int (nI i), .ref 1], (zsh ++ vs, mi, ml, (zmr g))) rfl ?_
        refine Wp.call (as := [.ref 1, .int (nI i)]) (rest := []) rfl rfl rfl rfl rfl (Nat.le_of_ble_eq_true rfl) (Nat.le_of_ble_eq_true rfl) rfl (by decide) (c_has_t (mi := mi) hn h6 hx9) ?_
        rintro _ _ ⟨rfl, rfl⟩
        refine Wp.run 5 (34, [(0, .ref 0), (1, .int (nI i)), (2, .int 3)], [.int (nI i), .ref 3], (zsh ++ vs, mi, ml, (zmr g))) rfl ?_
        refine Wp.ialn rfl (by decide) rfl (by omega) (by decide) ?_
        refine Wp.topi (y := 2) (ec) ?_
        refine Wp.run 3 (38, [(3, .int 2), (0, .ref 0), (1, .int (nI i)), (2, .int 3)], [.int 3, .int 2], (zsh ++ vs, mi, ml, (zmr g))) rfl ?_
        refine Wp.call (as := [.int 2, .int 3]) (rest := []) rfl rfl rfl rfl rfl (Nat.le_of_ble_eq_true rfl) (Nat.le_of_ble_eq_true rfl) rfl (by decide) (c_under_2_3) ?_
        rintro _ _ ⟨rfl, rfl⟩
        refine Wp.run 2 (50, [(3, .int 2), (0, .ref 0), (1, .int (nI i)), (2, .int 3)], [.int (-12)], (zsh ++ vs, mi, ml, (zmr g))) rfl ?_
        refine Wp.ret rfl rfl rfl ?_
        exact ⟨rfl, _, _, rfl, SC.rf, fun _ _ _ => rfl⟩
      · intro m g' I' e67 S
        have B' := I'.1.1
        have hn' := B'.2.1
        have hN' := B'.1.1
        have hd' := B'.1.2.2.1
        refine Wp.run 3 (4, [(0, .ref 66), (1, .int (nI i)), (2, .int 3)], [.int 6, .int 0, .int 3], (zsh ++ vs, m, ml, (zmr g'))) rfl ?_
        refine Wp.call (as := [.int 3, .int 0, .int 6]) (rest := []) rfl rfl rfl rfl rfl (Nat.le_of_ble_eq_true rfl) (Nat.le_of_ble_eq_true rfl) rfl (by decide) (m_isIn_t hk) ?_
        rintro _ _ ⟨rfl, rfl⟩
        refine Wp.run 3 (15, [(0, .ref 66), (1, .int (nI i)), (2, .int 3)], [.int (nI i), .ref 66], (zsh ++ vs, m, ml, (zmr g'))) rfl ?_
        refine Wp.call (as := [.ref 66, .int (nI i)]) (rest := []) rfl rfl rfl rfl rfl (Nat.le_of_ble_eq_true rfl) (Nat.le_of_ble_eq_true rfl) rfl (by decide) (m_isOne_t (mi := m) hN' h6 hx9) ?_
        rintro _ _ ⟨rfl, rfl⟩
        refine Wp.run 4 (27, [(0, .ref 66), (1, .int (nI i)), (2, .int 3)], [.int 0, .int (nI i), .ref 66], (zsh ++ vs, m, ml, (zmr g'))) rfl ?_
        refine Wp.call (as := [.ref 66, .int (nI i), .int 0]) (rest := []) rfl rfl rfl rfl rfl (Nat.le_of_ble_eq_true rfl) (Nat.le_of_ble_eq_true rfl) rfl (by decide) (m_one (mi := m) i 0 (by omega)) ?_
        rintro _ _ ⟨rfl, rfl⟩
        refine Wp.topi (y := 2) ((congrFun e67 _).trans es) ?_
        refine Wp.run 11 (47, [(3, .int 2), (0, .ref 66), (1, .int (nI i)), (2, .int 3)], [.int (m 79 2)], (zsh ++ vs, m, ml, (zmr g'))) rfl ?_
        refine Wp.topi (y := 0) (I'.2.2.2.2.2.2.2.2.1 2 (by decide)) ?_
        refine Wp.run 2 (31, [(3, .int 0), (0, .ref 66), (1, .int (nI i)), (2, .int 3)], [], (zsh ++ vs, m, ml, (zmr g'))) rfl ?_
        refine Wp.run 10 (47, [(3, .int 0), (0, .ref 66), (1, .int (nI i)), (2, .int 3)], [.int (m 79 0)], (zsh ++ vs, m, ml, (zmr g'))) rfl ?_
        refine Wp.topi (y := -1) (I'.2.2.2.2.2.2.2.2.1 0 (by decide)) ?_
        refine Wp.run 2 (31, [(3, .int (-1)), (0, .ref 66), (1, .int (nI i)), (2, .int 3)], [], (zsh ++ vs, m, ml, (zmr g'))) rfl ?_
        refine Wp.run 7 (67, [(3, .int (-1)), (0, .ref 66), (1, .int (nI i)), (2, .int 3)], [.int (-12)], (zsh ++ vs, m, ml, (zmr g'))) rfl ?_
        refine Wp.ret rfl rfl rfl ?_
        exact ⟨rfl, _, rfl, SC.rf⟩
    · refine SIM.q I (x := -12) (dc := 7) (dm := 27) (by decide) (by decide) ?_ ?_
      · refine Wp.run 2 (3, [(0, .ref 0), (1, .int (nI i)), (2, .int 4)], [.int 6, .int 4], (zsh ++ vs, mi, ml, (zmr g))) rfl ?_
        refine Wp.call (as := [.int 4, .int 6]) (rest := []) rfl rfl rfl rfl rfl (Nat.le_of_ble_eq_true rfl) (Nat.le_of_ble_eq_true rfl) rfl (by decide) (c_within_t hk) ?_
        rintro _ _ ⟨rfl, rfl⟩
        refine Wp.run 4 (17, [(0, .ref 0), (1, .int (nI i)), (2, .int 4)], [.int (nI i), .ref 1], (zsh ++ vs, mi, ml, (zmr g))) rfl ?_
        refine Wp.call (as := [.ref 1, .int (nI i)]) (rest := []) rfl rfl rfl rfl rfl (Nat.le_of_ble_eq_true rfl) (Nat.le_of_ble_eq_true rfl) rfl (by decide) (c_has_t (mi := mi) hn h6 hx9) ?_
        rintro _ _ ⟨rfl, rfl⟩
        refine Wp.run 5 (34, [(0, .ref 0), (1, .int (nI i)), (2, .int 4)], [.int (nI i), .ref 3], (zsh ++ vs, mi, ml, (zmr g))) rfl ?_
        refine Wp.ialn rfl (by decide) rfl (by omega) (by decide) ?_
        refine Wp.topi (y := 2) (ec) ?_
        refine Wp.run 3 (38, [(3, .int 2), (0, .ref 0), (1, .int (nI i)), (2, .int 4)], [.int 4, .int 2], (zsh ++ vs, mi, ml, (zmr g))) rfl ?_
        refine Wp.call (as := [.int 2, .int 4]) (rest := []) rfl rfl rfl rfl rfl (Nat.le_of_ble_eq_true rfl) (Nat.le_of_ble_eq_true rfl) rfl (by decide) (c_under_2_4) ?_
        rintro _ _ ⟨rfl, rfl⟩
        refine Wp.run 2 (50, [(3, .int 2), (0, .ref 0), (1, .int (nI i)), (2, .int 4)], [.int (-12)], (zsh ++ vs, mi, ml, (zmr g))) rfl ?_
        refine Wp.ret rfl rfl rfl ?_
        exact ⟨rfl, _, _, rfl, SC.rf, fun _ _ _ => rfl⟩
      · intro m g' I' e67 S
        have B' := I'.1.1
        have hn' := B'.2.1
        have hN' := B'.1.1
        have hd' := B'.1.2.2.1
        refine Wp.run 3 (4, [(0, .ref 66), (1, .int (nI i)), (2, .int 4)], [.int 6, .int 0, .int 4], (zsh ++ vs, m, ml, (zmr g'))) rfl ?_
        refine Wp.call (as := [.int 4, .int 0, .int 6]) (rest := []) rfl rfl rfl rfl rfl (Nat.le_of_ble_eq_true rfl) (Nat.le_of_ble_eq_true rfl) rfl (by decide) (m_isIn_t hk) ?_
        rintro _ _ ⟨rfl, rfl⟩
        refine Wp.run 3 (15, [(0, .ref 66), (1, .int (nI i)), (2, .int 4)], [.int (nI i), .ref 66], (zsh ++ vs, m, ml, (zmr g'))) rfl ?_
        refine Wp.call (as := [.ref 66, .int (nI i)]) (rest := []) rfl rfl rfl rfl rfl (Nat.le_of_ble_eq_true rfl) (Nat.le_of_ble_eq_true rfl) rfl (by decide) (m_isOne_t (mi := m) hN' h6 hx9) ?_
        rintro _ _ ⟨rfl, rfl⟩
        refine Wp.run 4 (27, [(0, .ref 66), (1, .int (nI i)), (2, .int 4)], [.int 0, .int (nI i), .ref 66], (zsh ++ vs, m, ml, (zmr g'))) rfl ?_
        refine Wp.call (as := [.ref 66, .int (nI i), .int 0]) (rest := []) rfl rfl rfl rfl rfl (Nat.le_of_ble_eq_true rfl) (Nat.le_of_ble_eq_true rfl) rfl (by decide) (m_one (mi := m) i 0 (by omega)) ?_
        rintro _ _ ⟨rfl, rfl⟩
        refine Wp.topi (y := 2) ((congrFun e67 _).trans es) ?_
        refine Wp.run 11 (47, [(3, .int 2), (0, .ref 66), (1, .int (nI i)), (2, .int 4)], [.int (m 79 2)], (zsh ++ vs, m, ml, (zmr g'))) rfl ?_
        refine Wp.topi (y := 0) (I'.2.2.2.2.2.2.2.2.1 2 (by decide)) ?_
        refine Wp.run 2 (31, [(3, .int 0), (0, .ref 66), (1, .int (nI i)), (2, .int 4)], [], (zsh ++ vs, m, ml, (zmr g'))) rfl ?_
        refine Wp.run 10 (47, [(3, .int 0), (0, .ref 66), (1, .int (nI i)), (2, .int 4)], [.int (m 79 0)], (zsh ++ vs, m, ml, (zmr g'))) rfl ?_
        refine Wp.topi (y := -1) (I'.2.2.2.2.2.2.2.2.1 0 (by decide)) ?_
        refine Wp.run 2 (31, [(3, .int (-1)), (0, .ref 66), (1, .int (nI i)), (2, .int 4)], [], (zsh ++ vs, m, ml, (zmr g'))) rfl ?_
        refine Wp.run 7 (67, [(3, .int (-1)), (0, .ref 66), (1, .int (nI i)), (2, .int 4)], [.int (-12)], (zsh ++ vs, m, ml, (zmr g'))) rfl ?_
        refine Wp.ret rfl rfl rfl ?_
        exact ⟨rfl, _, rfl, SC.rf⟩
    · refine SIM.q I (x := -12) (dc := 7) (dm := 27) (by decide) (by decide) ?_ ?_
      · refine Wp.run 2 (3, [(0, .ref 0), (1, .int (nI i)), (2, .int 5)], [.int 6, .int 5], (zsh ++ vs, mi, ml, (zmr g))) rfl ?_
        refine Wp.call (as := [.int 5, .int 6]) (rest := []) rfl rfl rfl rfl rfl (Nat.le_of_ble_eq_true rfl) (Nat.le_of_ble_eq_true rfl) rfl (by decide) (c_within_t hk) ?_
        rintro _ _ ⟨rfl, rfl⟩
        refine Wp.run 4 (17, [(0, .ref 0), (1, .int (nI i)), (2, .int 5)], [.int (nI i), .ref 1], (zsh ++ vs, mi, ml, (zmr g))) rfl ?_
        refine Wp.call (as := [.ref 1, .int (nI i)]) (rest := []) rfl rfl rfl rfl rfl (Nat.le_of_ble_eq_true rfl) (Nat.le_of_ble_eq_true rfl) rfl (by decide) (c_has_t (mi := mi) hn h6 hx9) ?_
        rintro _ _ ⟨rfl, rfl⟩
        refine Wp.run 5 (34, [(0, .ref 0), (1, .int (nI i)), (2, .int 5)], [.int (nI i), .ref 3], (zsh ++ vs, mi, ml, (zmr g))) rfl ?_
        refine Wp.ialn rfl (by decide) rfl (by omega) (by decide) ?_
        refine Wp.topi (y := 2) (ec) ?_
        refine Wp.run 3 (38, [(3, .int 2), (0, .ref 0), (1, .int (nI i)), (2, .int 5)], [.int 5, .int 2], (zsh ++ vs, mi, ml, (zmr g))) rfl ?_
        refine Wp.call (as := [.int 2, .int 5]) (rest := []) rfl rfl rfl rfl rfl (Nat.le_of_ble_eq_true rfl) (Nat.le_of_ble_eq_true rfl) rfl (by decide) (c_under_2_5) ?_
        rintro _ _ ⟨rfl, rfl⟩
        refine Wp.run 2 (50, [(3, .int 2), (0, .ref 0), (1, .int (nI i)), (2, .int 5)], [.int (-12)], (zsh ++ vs, mi, ml, (zmr g))) rfl ?_
        refine Wp.ret rfl rfl rfl ?_
        exact ⟨rfl, _, _, rfl, SC.rf, fun _ _ _ => rfl⟩
      · intro m g' I' e67 S
        have B' := I'.1.1
        have hn' := B'.2.1
        have hN' := B'.1.1
        have hd' := B'.1.2.2.1
        refine Wp.run 3 (4, [(0, .ref 66), (1, .int (nI i)), (2, .int 5)], [.int 6, .int 0, .int 5], (zsh ++ vs, m, ml, (zmr g'))) rfl ?_
        refine Wp.call (as := [.int 5, .int 0, .int 6]) (rest := []) rfl rfl rfl rfl rfl (Nat.le_of_ble_eq_true rfl) (Nat.le_of_ble_eq_true rfl) rfl (by decide) (m_isIn_t hk) ?_
        rintro _ _ ⟨rfl, rfl⟩
        refine Wp.run 3 (15, [(0, .ref 66), (1, .int (nI i)), (2, .int 5)], [.int (nI i), .ref 66], (zsh ++ vs, m, ml, (zmr g'))) rfl ?_
        refine Wp.call (as := [.ref 66, .int (nI i)]) (rest := []) rfl rfl rfl rfl rfl (Nat.le_of_ble_eq_true rfl) (Nat.le_of_ble_eq_true rfl) rfl (by decide) (m_isOne_t (mi := m) hN' h6 hx9) ?_
        rintro _ _ ⟨rfl, rfl⟩
        refine Wp.run 4 (27, [(0, .ref 66), (1, .int (nI i)), (2, .int 5)], [.int 0, .int (nI i), .ref 66], (zsh ++ vs, m, ml, (zmr g'))) rfl ?_
        refine Wp.call (as := [.ref 66, .int (nI i), .int 0]) (rest := []) rfl rfl rfl rfl rfl (Nat.le_of_ble_eq_true rfl) (Nat.le_of_ble_eq_true rfl) rfl (by decide) (m_one (mi := m) i 0 (by omega)) ?_
        rintro _ _ ⟨rfl, rfl⟩
        refine Wp.topi (y := 2) ((congrFun e67 _).trans es) ?_
        refine Wp.run 11 (47, [(3, .int 2), (0, .ref 66), (1, .int (nI i)), (2, .int 5)], [.int (m 79 2)], (zsh ++ vs, m, ml, (zmr g'))) rfl ?_
        refine Wp.topi (y := 0) (I'.2.2.2.2.2.2.2.2.1 2 (by decide)) ?_
        refine Wp.run 2 (31, [(3, .int 0), (0, .ref 66), (1, .int (nI i)), (2, .int 5)], [], (zsh ++ vs, m, ml, (zmr g'))) rfl ?_
        refine Wp.run 10 (47, [(3, .int 0), (0, .ref 66), (1, .int (nI i)), (2, .int 5)], [.int (m 79 0)], (zsh ++ vs, m, ml, (zmr g'))) rfl ?_
        refine Wp.topi (y := -1) (I'.2.2.2.2.2.2.2.2.1 0 (by decide)) ?_
        refine Wp.run 2 (31, [(3, .int (-1)), (0, .ref 66), (1, .int (nI i)), (2, .int 5)], [], (zsh ++ vs, m, ml, (zmr g'))) rfl ?_
        refine Wp.run 7 (67, [(3, .int (-1)), (0, .ref 66), (1, .int (nI i)), (2, .int 5)], [.int (-12)], (zsh ++ vs, m, ml, (zmr g'))) rfl ?_
        refine Wp.ret rfl rfl rfl ?_
        exact ⟨rfl, _, rfl, SC.rf⟩
    · refine SIM.q I (x := -12) (dc := 7) (dm := 27) (by decide) (by decide) ?_ ?_
      · refine Wp.run 2 (3, [(0, .ref 0), (1, .int (nI i)), (2, .int 6)], [.int 6, .int 6], (zsh ++ vs, mi, ml, (zmr g))) rfl ?_
        refine Wp.call (as := [.int 6, .int 6]) (rest := []) rfl rfl rfl rfl rfl (Nat.le_of_ble_eq_true rfl) (Nat.le_of_ble_eq_true rfl) rfl (by decide) (c_within_t hk) ?_
        rintro _ _ ⟨rfl, rfl⟩
        refine Wp.run 4 (17, [(0, .ref 0), (1, .int (nI i)), (2, .int 6)], [.int (nI i), .ref 1], (zsh ++ vs, mi, ml, (zmr g))) rfl ?_
        refine Wp.call (as := [.ref 1, .int (nI i)]) (rest := []) rfl rfl rfl rfl rfl (Nat.le_of_ble_eq_true rfl) (Nat.le_of_ble_eq_true rfl) rfl (by decide) (c_has_t (mi := mi) hn h6 hx9) ?_
        rintro _ _ ⟨rfl, rfl⟩
        refine Wp.run 5 (34, [(0, .ref 0), (1, .int (nI i)), (2, .int 6)], [.int (nI i), .ref 3], (zsh ++ vs, mi, ml, (zmr g))) rfl ?_
        refine Wp.ialn rfl (by decide) rfl (by omega) (by decide) ?_
        refine Wp.topi (y := 2) (ec) ?_
        refine Wp.run 3 (38, [(3, .int 2), (0, .ref 0), (1, .int (nI i)), (2, .int 6)], [.int 6, .int 2], (zsh ++ vs, mi, ml, (zmr g))) rfl ?_
        refine Wp.call (as := [.int 2, .int 6]) (rest := []) rfl rfl rfl rfl rfl (Nat.le_of_ble_eq_true rfl) (Nat.le_of_ble_eq_true rfl) rfl (by decide) (c_under_2_6) ?_
        rintro _ _ ⟨rfl, rfl⟩
        refine Wp.run 2 (50, [(3, .int 2), (0, .ref 0), (1, .int (nI i)), (2, .int 6)], [.int (-12)], (zsh ++ vs, mi, ml, (zmr g))) rfl ?_
        refine Wp.ret rfl rfl rfl ?_
        exact ⟨rfl, _, _, rfl, SC.rf, fun _ _ _ => rfl⟩
      · intro m g' I' e67 S
        have B' := I'.1.1
        have hn' := B'.2.1
        have hN' := B'.1.1
        have hd' := B'.1.2.2.1
        refine Wp.run 3 (4, [(0, .ref 66), (1, .int (nI i)), (2, .int 6)], [.int 6, .int 0, .int 6], (zsh ++ vs, m, ml, (zmr g'))) rfl ?_
        refine Wp.call (as := [.int 6, .int 0, .int 6]) (rest := []) rfl rfl rfl rfl rfl (Nat.le_of_ble_eq_true rfl) (Nat.le_of_ble_eq_true rfl) rfl (by decide) (m_isIn_t hk) ?_
        rintro _ _ ⟨rfl, rfl⟩
        refine Wp.run 3 (15, [(0, .ref 66), (1, .int (nI i)), (2, .int 6)], [.int (nI i), .ref 66], (zsh ++ vs, m, ml, (zmr g'))) rfl ?_
        refine Wp.call (as := [.ref 66, .int (nI i)]) (rest := []) rfl rfl rfl rfl rfl (Nat.le_of_ble_eq_true rfl) (Nat.le_of_ble_eq_true rfl) rfl (by decide) (m_isOne_t (mi := m) hN' h6 hx9) ?_
        rintro _ _ ⟨rfl, rfl⟩
        refine Wp.run 4 (27, [(0, .ref 66), (1, .int (nI i)), (2, .int 6)], [.int 0, .int (nI i), .ref 66], (zsh ++ vs, m, ml, (zmr g'))) rfl ?_
        refine Wp.call (as := [.ref 66, .int (nI i), .int 0]) (rest := []) rfl rfl rfl rfl rfl (Nat.le_of_ble_eq_true rfl) (Nat.le_of_ble_eq_true rfl) rfl (by decide) (m_one (mi := m) i 0 (by omega)) ?_
        rintro _ _ ⟨rfl, rfl⟩
        refine Wp.topi (y := 2) ((congrFun e67 _).trans es) ?_
        refine Wp.run 11 (47, [(3, .int 2), (0, .ref 66), (1, .int (nI i)), (2, .int 6)], [.int (m 79 2)], (zsh ++ vs, m, ml, (zmr g'))) rfl ?_
        refine Wp.topi (y := 0) (I'.2.2.2.2.2.2.2.2.1 2 (by decide)) ?_
        refine Wp.run 2 (31, [(3, .int 0), (0, .ref 66), (1, .int (nI i)), (2, .int 6)], [], (zsh ++ vs, m, ml, (zmr g'))) rfl ?_
        refine Wp.run 10 (47, [(3, .int 0), (0, .ref 66), (1, .int (nI i)), (2, .int 6)], [.int (m 79 0)], (zsh ++ vs, m, ml, (zmr g'))) rfl ?_
        refine Wp.topi (y := -1) (I'.2.2.2.2.2.2.2.2.1 0 (by decide)) ?_
        refine Wp.run 2 (31, [(3, .int (-1)), (0, .ref 66), (1, .int (nI i)), (2, .int 6)], [], (zsh ++ vs, m, ml, (zmr g'))) rfl ?_
        refine Wp.run 7 (67, [(3, .int (-1)), (0, .ref 66), (1, .int (nI i)), (2, .int 6)], [.int (-12)], (zsh ++ vs, m, ml, (zmr g'))) rfl ?_
        refine Wp.ret rfl rfl rfl ?_
        exact ⟨rfl, _, rfl, SC.rf⟩
  · rcases (show q = 0 ∨ q = 1 ∨ q = 2 ∨ q = 3 ∨ q = 4 ∨ q = 5 ∨ q = 6 by omega) with rfl | rfl | rfl | rfl | rfl | rfl | rfl
    · refine SIM.q I (x := 3) (dc := 7) (dm := 27) (by decide) (by decide) ?_ ?_
      · refine Wp.run 2 (3, [(0, .ref 0), (1, .int (nI i)), (2, .int 0)], [.int 6, .int 0], (zsh ++ vs, mi, ml, (zmr g))) rfl ?_
        refine Wp.call (as := [.int 0, .int 6]) (rest := []) rfl rfl rfl rfl rfl (Nat.le_of_ble_eq_true rfl) (Nat.le_of_ble_eq_true rfl) rfl (by decide) (c_within_t hk) ?_
        rintro _ _ ⟨rfl, rfl⟩
        refine Wp.run 4 (17, [(0, .ref 0), (1, .int (nI i)), (2, .int 0)], [.int (nI i), .ref 1], (zsh ++ vs, mi, ml, (zmr g))) rfl ?_
        refine Wp.call (as := [.ref 1, .int (nI i)]) (rest := []) rfl rfl rfl rfl rfl (Nat.le_of_ble_eq_true rfl) (Nat.le_of_ble_eq_true rfl) rfl (by decide) (c_has_t (mi := mi) hn h6 hx9) ?_
        rintro _ _ ⟨rfl, rfl⟩
        refine Wp.run 5 (34, [(0, .ref 0), (1, .int (nI i)), (2, .int 0)], [.int (nI i), .ref 3], (zsh ++ vs, mi, ml, (zmr g))) rfl ?_
        refine Wp.ialn rfl (by decide) rfl (by omega) (by decide) ?_
        refine Wp.topi (y := 3) (ec) ?_
        refine Wp.run 3 (38, [(3, .int 3), (0, .ref 0), (1, .int (nI i)), (2, .int 0)], [.int 0, .int 3], (zsh ++ vs, mi, ml, (zmr g))) rfl ?_
        refine Wp.call (as := [.int 3, .int 0]) (rest := []) rfl rfl rfl rfl rfl (Nat.le_of_ble_eq_true rfl) (Nat.le_of_ble_eq_true rfl) rfl (by decide) (c_under_3_0) ?_
        rintro _ _ ⟨rfl, rfl⟩
        refine Wp.run 3 (50, [(3, .int 3), (0, .ref 0), (1, .int (nI i)), (2, .int 0)], [.int 3], (zsh ++ vs, mi, ml, (zmr g))) rfl ?_
        refine Wp.ret rfl rfl rfl ?_
        exact ⟨rfl, _, _, rfl, SC.rf, fun _ _ _ => rfl⟩
      · intro m g' I' e67 S
        have B' := I'.1.1
        have hn' := B'.2.1
        have hN' := B'.1.1
        have hd' := B'.1.2.2.1
        refine Wp.run 3 (4, [(0, .ref 66), (1, .int (nI i)), (2, .int 0)], [.int 6, .int 0, .int 0], (zsh ++ vs, m, ml, (zmr g'))) rfl ?_
        refine Wp.call (as := [.int 0, .int 0, .int 6]) (rest := []) rfl rfl rfl rfl rfl (Nat.le_of_ble_eq_true rfl) (Nat.le_of_ble_eq_true rfl) rfl (by decide) (m_isIn_t hk) ?_
        rintro _ _ ⟨rfl, rfl⟩
        refine Wp.run 3 (15, [(0, .ref 66), (1, .int (nI i)), (2, .int 0)], [.int (nI i), .ref 66], (zsh ++ vs, m, ml, (zmr g'))) rfl ?_
        refine Wp.call (as := [.ref 66, .int (nI i)]) (rest := []) rfl rfl rfl rfl rfl (Nat.le_of_ble_eq_true rfl) (Nat.le_of_ble_eq_true rfl) rfl (by decide) (m_isOne_t (mi := m) hN' h6 hx9) ?_
        rintro _ _ ⟨rfl, rfl⟩
        refine Wp.run 4 (27, [(0, .ref 66), (1, .int (nI i)), (2, .int 0)], [.int 0, .int (nI i), .ref 66], (zsh ++ vs, m, ml, (zmr g'))) rfl ?_
        refine Wp.call (as := [.ref 66, .int (nI i), .int 0]) (rest := []) rfl rfl rfl rfl rfl (Nat.le_of_ble_eq_true rfl) (Nat.le_of_ble_eq_true rfl) rfl (by decide) (m_one (mi := m) i 0 (by omega)) ?_
        rintro _ _ ⟨rfl, rfl⟩
        refine Wp.topi (y := 3) ((congrFun e67 _).trans es) ?_
        refine Wp.run 11 (47, [(3, .int 3), (0, .ref 66), (1, .int (nI i)), (2, .int 0)], [.int (m 79 3)], (zsh ++ vs, m, ml, (zmr g'))) rfl ?_
        refine Wp.topi (y := 0) (I'.2.2.2.2.2.2.2.2.1 3 (by decide)) ?_
        refine Wp.run 2 (31, [(3, .int 0), (0, .ref 66), (1, .int (nI i)), (2, .int 0)], [], (zsh ++ vs, m, ml, (zmr g'))) rfl ?_
        refine Wp.run 12 (59, [(3, .int 0), (0, .ref 66), (1, .int (nI i)), (2, .int 0)], [.int 0, .int (nI i), .ref 66], (zsh ++ vs, m, ml, (zmr g'))) rfl ?_
        refine Wp.call (as := [.ref 66, .int (nI i), .int 0]) (rest := []) rfl rfl rfl rfl rfl (Nat.le_of_ble_eq_true rfl) (Nat.le_of_ble_eq_true rfl) rfl (by decide) (m_one (mi := m) i 0 (by omega)) ?_
        rintro _ _ ⟨rfl, rfl⟩
        refine Wp.topi (y := 3) ((congrFun e67 _).trans es) ?_
        refine Wp.run 1 (67, [(3, .int 0), (0, .ref 66), (1, .int (nI i)), (2, .int 0)], [.int 3], (zsh ++ vs, m, ml, (zmr g'))) rfl ?_
        refine Wp.ret rfl rfl rfl ?_
        exact ⟨rfl, _, rfl, SC.rf⟩
    · refine SIM.q I (x := -12) (dc := 7) (dm := 27) (by decide) (by decide) ?_ ?_
      · refine Wp.run 2 (3, [(0, .ref 0), (1, .int (nI i)), (2, .int 1)], [.int 6, .int 1], (zsh ++ vs, mi, ml, (zmr g))) rfl ?_
        refine Wp.call (as := [.int 1, .int 6]) (rest := []) rfl rfl rfl rfl rfl (Nat.le_of_ble_eq_true rfl) (Nat.le_of_ble_eq_true rfl) rfl (by decide) (c_within_t hk) ?_
        rintro _ _ ⟨rfl, rfl⟩
        refine Wp.run 4 (17, [(0, .ref 0), (1, .int (nI i)), (2, .int 1)], [.int (nI i), .ref 1], (zsh ++ vs, mi, ml, (zmr g))) rfl ?_
        refine Wp.call (as := [.ref 1, .int (nI i)]) (rest := []) rfl rfl rfl rfl rfl (Nat.le_of_ble_eq_true rfl) (Nat.le_of_ble_eq_true rfl) rfl (by decide) (c_has_t (mi := mi) hn h6 hx9) ?_
        rintro _ _ ⟨rfl, rfl⟩
        refine Wp.run 5 (34, [(0, .ref 0), (1, .int (nI i)), (2, .int 1)], [.int (nI i), .ref 3], (zsh ++ vs, mi, ml, (zmr g))) rfl ?_
        refine Wp.ialn rfl (by decide) rfl (by omega) (by decide) ?_
        refine Wp.topi (y := 3) (ec) ?_
        refine Wp.run 3 (38, [(3, .int 3), (0, .ref 0), (1, .int (nI i)), (2, .int 1)], [.int 1, .int 3], (zsh ++ vs, mi, ml, (zmr g))) rfl ?_
        refine Wp.call (as := [.int 3, .int 1]) (rest := []) rfl rfl rfl rfl rfl (Nat.le_of_ble_eq_true rfl) (Nat.le_of_ble_eq_true rfl) rfl (by decide) (c_under_3_1) ?_
        rintro _ _ ⟨rfl, rfl⟩
        refine Wp.run 2 (50, [(3, .int 3), (0, .ref 0), (1, .int (nI i)), (2, .int 1)], [.int (-12)], (zsh ++ vs, mi, ml, (zmr g))) rfl ?_
        refine Wp.ret rfl rfl rfl ?_
        exact ⟨rfl, _, _, rfl, SC.rf, fun _ _ _ => rfl⟩
      · intro m g' I' e67 S
        have B' := I'.1.1
        have hn' := B'.2.1
        have hN' := B'.1.1
        have hd' := B'.1.2.2.1
        refine Wp.run 3 (4, [(0, .ref 66), (1, .int (nI i)), (2, .int 1)], [.int 6, .int 0, .int 1], (zsh ++ vs, m, ml, (zmr g'))) rfl ?_
        refine Wp.call (as := [.int 1, .int 0, .int 6]) (rest := []) rfl rfl rfl rfl rfl (Nat.le_of_ble_eq_true rfl) (Nat.le_of_ble_eq_true rfl) rfl (by decide) (m_isIn_t hk) ?_
        rintro _ _ ⟨rfl, rfl⟩
        refine Wp.run 3 (15, [(0, .ref 66), (1, .int (nI i)), (2, .int 1)], [.int (nI i), .ref 66], (zsh ++ vs, m, ml, (zmr g'))) rfl ?_
        refine Wp.call (as := [.ref 66, .int (nI i)]) (rest := []) rfl rfl rfl rfl rfl (Nat.le_of_ble_eq_true rfl) (Nat.le_of_ble_eq_true rfl) rfl (by decide) (m_isOne_t (mi := m) hN' h6 hx9) ?_
        rintro _ _ ⟨rfl, rfl⟩
        refine Wp.run 4 (27, [(0, .ref 66), (1, .int (nI i)), (2, .int 1)], [.int 0, .int (nI i), .ref 66], (zsh ++ vs, m, ml, (zmr g'))) rfl ?_
        refine Wp.call (as := [.ref 66, .int (nI i), .int 0]) (rest := []) rfl rfl rfl rfl rfl (Nat.le_of_ble_eq_true rfl) (Nat.le_of_ble_eq_true rfl) rfl (by decide) (m_one (mi := m) i 0 (by omega)) ?_
        rintro _ _ ⟨rfl, rfl⟩
        refine Wp.topi (y := 3) ((congrFun e67 _).trans es) ?_
        refine Wp.run 11 (47, [(3, .int 3), (0, .ref 66), (1, .int (nI i)), (2, .int 1)], [.int (m 79 3)], (zsh ++ vs, m, ml, (zmr g'))) rfl ?_
        refine Wp.topi (y := 0) (I'.2.2.2.2.2.2.2.2.1 3 (by decide)) ?_
        refine Wp.run 2 (31, [(3, .int 0), (0, .ref 66), (1, .int (nI i)), (2, .int 1)], [], (zsh ++ vs, m, ml, (zmr g'))) rfl ?_
        refine Wp.run 10 (47, [(3, .int 0), (0, .ref 66), (1, .int (nI i)), (2, .int 1)], [.int (m 79 0)], (zsh ++ vs, m, ml, (zmr g'))) rfl ?_
        refine Wp.topi (y := -1) (I'.2.2.2.2.2.2.2.2.1 0 (by decide)) ?_
        refine Wp.run 2 (31, [(3, .int (-1)), (0, .ref 66), (1, .int (nI i)), (2, .int 1)], [], (zsh ++ vs, m, ml, (zmr g'))) rfl ?_
        refine Wp.run 7 (67, [(3, .int (-1)), (0, .ref 66), (1, .int (nI i)), (2, .int 1)], [.int (-12)], (zsh ++ vs, m, ml, (zmr g'))) rfl ?_
        refine Wp.ret rfl rfl rfl ?_
        exact ⟨rfl, _, rfl, SC.rf⟩
    · refine SIM.q I (x := -12) (dc := 7) (dm := 27) (by decide) (by decide) ?_ ?_
      · refine Wp.run 2 (3, [(0, .ref 0), (1, .int (nI i)), (2, .int 2)], [.int 6, .int 2], (zsh ++ vs, mi, ml, (zmr g))) rfl ?_
        refine Wp.call (as := [.int 2, .int 6]) (rest := []) rfl rfl rfl rfl rfl (Nat.le_of_ble_eq_true rfl) (Nat.le_of_ble_eq_true rfl) rfl (by decide) (c_within_t hk) ?_
        rintro _ _ ⟨rfl, rfl⟩
        refine Wp.run 4 (17, [(0, .ref 0), (1, .int (nI i)), (2, .int 2)], [.int (nI i), .ref 1], (zsh ++ vs, mi, ml, (zmr g))) rfl ?_
        refine Wp.call (as := [.ref 1, .int (nI i)]) (rest := []) rfl rfl rfl rfl rfl (Nat.le_of_ble_eq_true rfl) (Nat.le_of_ble_eq_true rfl) rfl (by decide) (c_has_t (mi := mi) hn h6 hx9) ?_
        rintro _ _ ⟨rfl, rfl⟩
        refine Wp.run 5 (34, [(0, .ref 0), (1, .int (nI i)), (2, .int 2)], [.int (nI i), .ref 3], (zsh ++ vs, mi, ml, (zmr g))) rfl ?_
        refine Wp.ialn rfl (by decide) rfl (by omega) (by decide) ?_
        refine Wp.topi (y := 3) (ec) ?_
        refine Wp.run 3 (38, [(3, .int 3), (0, .ref 0), (1, .int (nI i)), (2, .int 2)], [.int 2, .int 3], (zsh ++ vs, mi, ml, (zmr g))) rfl ?_
        refine Wp.call (as := [.int 3, .int 2]) (rest := []) rfl rfl rfl rfl rfl (Nat.le_of_ble_eq_true rfl) (Nat.le_of_ble_eq_true rfl) rfl (by decide) (c_under_3_2) ?_
        rintro _ _ ⟨rfl, rfl⟩
        refine Wp.run 2 (50, [(3, .int 3), (0, .ref 0), (1, .int (nI i)), (2, .int 2)], [.int (-12)], (zsh ++ vs, mi, ml, (zmr g))) rfl ?_
        refine Wp.ret rfl rfl rfl ?_
        exact ⟨rfl, _, _, rfl, SC.rf, fun _ _ _ => rfl⟩
      · intro m g' I' e67 S
        have B' := I'.1.1
        have hn' := B'.2.1
        have hN' := B'.1.1
        have hd' := B'.1.2.2.1
        refine Wp.run 3 (4, [(0, .ref 66), (1, .int (nI i)), (2, .int 2)], [.int 6, .int 0, .int 2], (zsh ++ vs, m, ml, (zmr g'))) rfl ?_
        refine Wp.call (as := [.int 2, .int 0, .int 6]) (rest := []) rfl rfl rfl rfl rfl (Nat.le_of_ble_eq_true rfl) (Nat.le_of_ble_eq_true rfl) rfl (by decide) (m_isIn_t hk) ?_
        rintro _ _ ⟨rfl, rfl⟩
        refine Wp.run 3 (15, [(0, .ref 66), (1, .int (nI i)), (2, .int 2)], [.int (nI i), .ref 66], (zsh ++ vs, m, ml, (zmr g'))) rfl ?_
        refine Wp.call (as := [.ref 66, .int (nI i)]) (rest := []) rfl rfl rfl rfl rfl (Nat.le_of_ble_eq_true rfl) (Nat.le_of_ble_eq_true rfl) rfl (by decide) (m_isOne_t (mi := m) hN' h6 hx9) ?_
        rintro _ _ ⟨rfl, rfl⟩
        refine Wp.run 4 (27, [(0, .ref 66), (1, .int (nI i)), (2, .int 2)], [.int 0, .int (nI i), .ref 66], (zsh ++ vs, m, ml, (zmr g'))) rfl ?_
        refine Wp.call (as := [.ref 66, .int (nI i), .int 0]) (rest := []) rfl rfl rfl rfl rfl (Nat.le_of_ble_eq_true rfl) (Nat.le_of_ble_eq_true rfl) rfl (by decide) (m_one (mi := m) i 0 (by omega)) ?_
        rintro _ _ ⟨rfl, rfl⟩
        refine Wp.topi (y := 3) ((congrFun e67 _).trans es) ?_
        refine Wp.run 11 (47, [(3, .int 3), (0, .ref 66), (1, .int (nI i)), (2, .int 2)], [.int (m 79 3)], (zsh ++ vs, m, ml, (zmr g'))) rfl ?_
        refine Wp.topi (y := 0) (I'.2.2.2.2.2.2.2.2.1 3 (by decide)) ?_
        refine Wp.run 2 (31, [(3, .int 0), (0, .ref 66), (1, .int (nI i)), (2, .int 2)], [], (zsh ++ vs, m, ml, (zmr g'))) rfl ?_
        refine Wp.run 10 (47, [(3, .int 0), (0, .ref 66), (1, .int (nI i)), (2, .int 2)], [.int (m 79 0)], (zsh ++ vs, m, ml, (zmr g'))) rfl ?_
        refine Wp.topi (y := -1) (I'.2.2.2.2.2.2.2.2.1 0 (by decide)) ?_
        refine Wp.run 2 (31, [(3, .int (-1)), (0, .ref 66), (1, .int (nI i)), (2, .int 2)], [], (zsh ++ vs, m, ml, (zmr g'))) rfl ?_
        refine Wp.run 7 (67, [(3, .int (-1)), (0, .ref 66), (1, .int (nI i)), (2, .int 2)], [.int (-12)], (zsh ++ vs, m, ml, (zmr g'))) rfl ?_
        refine Wp.ret rfl rfl rfl ?_
        exact ⟨rfl, _, rfl, SC.rf⟩
    · refine SIM.q I (x := 3) (dc := 7) (dm := 27) (by decide) (by decide) ?_ ?_
      · refine Wp.run 2 (3, [(0, .ref 0), (1, .int (nI i)), (2, .int 3)], [.int 6, .int 3], (zsh ++ vs, mi, ml, (zmr g))) rfl ?_
        refine Wp.call (as := [.int 3, .int 6]) (rest := []) rfl rfl rfl rfl rfl (Nat.le_of_ble_eq_true rfl) (Nat.le_of_ble_eq_true rfl) rfl (by decide) (c_within_t hk) ?_
        rintro _ _ ⟨rfl, rfl⟩
        refine Wp.run 4 (17, [(0, .ref 0), (1, .int (nI i)), (2, .int 3)], [.int (nI i), .ref 1], (zsh ++ vs, mi, ml, (zmr g))) rfl ?_
        refine Wp.call (as := [.ref 1, .int (nI i)]) (rest := []) rfl rfl rfl rfl rfl (Nat.le_of_ble_eq_true rfl) (Nat.le_of_ble_eq_true rfl) rfl (by decide) (c_has_t (mi := mi) hn h6 hx9) ?_
        rintro _ _ ⟨rfl, rfl⟩
        refine Wp.run 5 (34, [(0, .ref 0), (1, .int (nI i)), (2, .int 3)], [.int (nI i), .ref 3], (zsh ++ vs, mi, ml, (zmr g))) rfl ?_
        refine Wp.ialn rfl (by decide) rfl (by omega) (by decide) ?_
        refine Wp.topi (y := 3) (ec) ?_
        refine Wp.run 3 (38, [(3, .int 3), (0, .ref 0), (1, .int (nI i)), (2, .int 3)], [.int 3, .int 3], (zsh ++ vs, mi, ml, (zmr g))) rfl ?_
        refine Wp.call (as := [.int 3, .int 3]) (rest := []) rfl rfl rfl rfl rfl (Nat.le_of_ble_eq_true rfl) (Nat.le_of_ble_eq_true rfl) rfl (by decide) (c_under_3_3) ?_
        rintro _ _ ⟨rfl, rfl⟩
        refine Wp.run 3 (50, [(3, .int 3), (0, .ref 0), (1, .int (nI i)), (2, .int 3)], [.int 3], (zsh ++ vs, mi, ml, (zmr g))) rfl ?_
        refine Wp.ret rfl rfl rfl ?_
        exact ⟨rfl, _, _, rfl, SC.rf, fun _ _ _ => rfl⟩
      · intro m g' I' e67 S
        have B' := I'.1.1
        have hn' := B'.2.1
        have hN' := B'.1.1
        have hd' := B'.1.2.2.1
        refine Wp.run 3 (4, [(0, .ref 66), (1, .int (nI i)), (2, .int 3)], [.int 6, .int 0, .int 3], (zsh ++ vs, m, ml, (zmr g'))) rfl ?_
        refine Wp.call (as := [.int 3, .int 0, .int 6]) (rest := []) rfl rfl rfl rfl rfl (Nat.le_of_ble_eq_true rfl) (Nat.le_of_ble_eq_true rfl) rfl (by decide) (m_isIn_t hk) ?_
        rintro _ _ ⟨rfl, rfl⟩
        refine Wp.run 3 (15, [(0, .ref 66), (1, .int (nI i)), (2, .int 3)], [.int (nI i), .ref 66], (zsh ++ vs, m, ml, (zmr g'))) rfl ?_
        refine Wp.call (as := [.ref 66, .int (nI i)]) (rest := []) rfl rfl rfl rfl rfl (Nat.le_of_ble_eq_true rfl) (Nat.le_of_ble_eq_true rfl) rfl (by decide) (m_isOne_t (mi := m) hN' h6 hx9) ?_
        rintro _ _ ⟨rfl, rfl⟩
        refine Wp.run 4 (27, [(0, .ref 66), (1, .int (nI i)), (2, .int 3)], [.int 0, .int (nI i), .ref 66], (zsh ++ vs, m, ml, (zmr g'))) rfl ?_
        refine Wp.call (as := [.ref 66, .int (nI i), .int 0]) (rest := []) rfl rfl rfl rfl rfl (Nat.le_of_ble_eq_true rfl) (Nat.le_of_ble_eq_true rfl) rfl (by decide) (m_one (mi := m) i 0 (by omega)) ?_
        rintro _ _ ⟨rfl, rfl⟩
        refine Wp.topi (y := 3) ((congrFun e67 _).trans es) ?_
        refine Wp.run 13 (59, [(3, .int 3), (0, .ref 66), (1, .int (nI i)), (2, .int 3)], [.int 0, .int (nI i), .ref 66], (zsh ++ vs, m, ml, (zmr g'))) rfl ?_
        refine Wp.call (as := [.ref 66, .int (nI i), .int 0]) (rest := []) rfl rfl rfl rfl rfl (Nat.le_of_ble_eq_true rfl) (Nat.le_of_ble_eq_true rfl) rfl (by decide) (m_one (mi := m) i 0 (by omega)) ?_
        rintro _ _ ⟨rfl, rfl⟩
        refine Wp.topi (y := 3) ((congrFun e67 _).trans es) ?_
        refine Wp.run 1 (67, [(3, .int 3), (0, .ref 66), (1, .int (nI i)), (2, .int 3)], [.int 3], (zsh ++ vs, m, ml, (zmr g'))) rfl ?_
        refine Wp.ret rfl rfl rfl ?_
        exact ⟨rfl, _, rfl, SC.rf⟩
    · refine SIM.q I (x := -12) (dc := 7) (dm := 27) (by decide) (by decide) ?_ ?_
      · refine Wp.run 2 (3, [(0, .ref 0), (1, .int (nI i)), (2, .int 4)], [.int 6, .int 4], (zsh ++ vs, mi, ml, (zmr g))) rfl ?_
        refine Wp.call (as := [.int 4, .int 6]) (rest := []) rfl rfl rfl rfl rfl (Nat.le_of_ble_eq_true rfl) (Nat.le_of_ble_eq_true rfl) rfl (by decide) (c_within_t hk) ?_
        rintro _ _ ⟨rfl, rfl⟩
        refine Wp.run 4 (17, [(0, .ref 0), (1, .int (nI i)), (2, .int 4)], [.int (nI i), .ref 1], (zsh ++ vs, mi, ml, (zmr g))) rfl ?_
        refine Wp.call (as := [.ref 1, .int (nI i)]) (rest := []) rfl rfl rfl rfl rfl (Nat.le_of_ble_eq_true rfl) (Nat.le_of_ble_eq_true rfl) rfl (by decide) (c_has_t (mi := mi) hn h6 hx9) ?_
        rintro _ _ ⟨rfl, rfl⟩
        refine Wp.run 5 (34, [(0, .ref 0), (1, .int (nI i)), (2, .int 4)], [.int (nI i), .ref 3], (zsh ++ vs, mi, ml, (zmr g))) rfl ?_
        refine Wp.ialn rfl (by decide) rfl (by omega) (by decide) ?_
        refine Wp.topi (y := 3) (ec) ?_
        refine Wp.run 3 (38, [(3, .int 3), (0, .ref 0), (1, .int (nI i)), (2, .int 4)], [.int 4, .int 3], (zsh ++ vs, mi, ml, (zmr g))) rfl ?_
        refine Wp.call (as := [.int 3, .int 4]) (rest := []) rfl rfl rfl rfl rfl (Nat.le_of_ble_eq_true rfl) (Nat.le_of_ble_eq_true rfl) rfl (by decide) (c_under_3_4) ?_
        rintro _ _ ⟨rfl, rfl⟩
        refine Wp.run 2 (50, [(3, .int 3), (0, .ref 0), (1, .int (nI i)), (2, .int 4)], [.int (-12)], (zsh ++ vs, mi, ml, (zmr g))) rfl ?_
        refine Wp.ret rfl rfl rfl ?_
        exact ⟨rfl, _, _, rfl, SC.rf, fun _ _ _ => rfl⟩
      · intro m g' I' e67 S
        have B' := I'.1.1
        have hn' := B'.2.1
        have hN' := B'.1.1
        have hd' := B'.1.2.2.1
        refine Wp.run 3 (4, [(0, .ref 66), (1, .int (nI i)), (2, .int 4)], [.int 6, .int 0, .int 4], (zsh ++ vs, m, ml, (zmr g'))) rfl ?_
        refine Wp.call (as := [.int 4, .int 0, .int 6]) (rest := []) rfl rfl rfl rfl rfl (Nat.le_of_ble_eq_true rfl) (Nat.le_of_ble_eq_true rfl) rfl (by decide) (m_isIn_t hk) ?_
        rintro _ _ ⟨rfl, rfl⟩
        refine Wp.run 3 (15, [(0, .ref 66), (1, .int (nI i)), (2, .int 4)], [.int (nI i), .ref 66], (zsh ++ vs, m, ml, (zmr g'))) rfl ?_
        refine Wp.call (as := [.ref 66, .int (nI i)]) (rest := []) rfl rfl rfl rfl rfl (Nat.le_of_ble_eq_true rfl) (Nat.le_of_ble_eq_true rfl) rfl (by decide) (m_isOne_t (mi := m) hN' h6 hx9) ?_
        rintro _ _ ⟨rfl, rfl⟩
        refine Wp.run 4 (27, [(0, .ref 66), (1, .int (nI i)), (2, .int 4)], [.int 0, .int (nI i), .ref 66], (zsh ++ vs, m, ml, (zmr g'))) rfl ?_
        refine Wp.call (as := [.ref 66, .int (nI i), .int 0]) (rest := []) rfl rfl rfl rfl rfl (Nat.le_of_ble_eq_true rfl) (Nat.le_of_ble_eq_true rfl) rfl (by decide) (m_one (mi := m) i 0 (by omega)) ?_
        rintro _ _ ⟨rfl, rfl⟩
        refine Wp.topi (y := 3) ((congrFun e67 _).trans es) ?_
        refine Wp.run 11 (47, [(3, .int 3), (0, .ref 66), (1, .int (nI i)), (2, .int 4)], [.int (m 79 3)], (zsh ++ vs, m, ml, (zmr g'))) rfl ?_
        refine Wp.topi (y := 0) (I'.2.2.2.2.2.2.2.2.1 3 (by decide)) ?_
        refine Wp.run 2 (31, [(3, .int 0), (0, .ref 66), (1, .int (nI i)), (2, .int 4)], [], (zsh ++ vs, m, ml, (zmr g'))) rfl ?_
        refine Wp.run 10 (47, [(3, .int 0), (0, .ref 66), (1, .int (nI i)), (2, .int 4)], [.int (m 79 0)], (zsh ++ vs, m, ml, (zmr g'))) rfl ?_
        refine Wp.topi (y := -1) (I'.2.2.2.2.2.2.2.2.1 0 (by decide)) ?_
        refine Wp.run 2 (31, [(3, .int (-1)), (0, .ref 66), (1, .int (nI i)), (2, .int 4)], [], (zsh ++ vs, m, ml, (zmr g'))) rfl ?_
        refine Wp.run 7 (67, [(3, .int (-1)), (0, .ref 66), (1, .int (nI i)), (2, .int 4)], [.int (-12)], (zsh ++ vs, m, ml, (zmr g'))) rfl ?_
        refine Wp.ret rfl rfl rfl ?_
        exact ⟨rfl, _, rfl, SC.rf⟩
    · refine SIM.q I (x := -12) (dc := 7) (dm := 27) (by decide) (by decide) ?_ ?_
      · refine Wp.run 2 (3, [(0, .ref 0), (1, .int (nI i)), (2, .int 5)], [.int 6, .int 5], (zsh ++ vs, mi, ml, (zmr g))) rfl ?_
        refine Wp.call (as := [.int 5, .int 6]) (rest := []) rfl rfl rfl rfl rfl (Nat.le_of_ble_eq_true rfl) (Nat.le_of_ble_eq_true rfl) rfl (by decide) (c_within_t hk) ?_
        rintro _ _ ⟨rfl, rfl⟩
        refine Wp.run 4 (17, [(0, .ref 0), (1, .int (nI i)), (2, .int 5)], [.int (nI i), .ref 1], (zsh ++ vs, mi, ml, (zmr g))) rfl ?_
        refine Wp.call (as := [.ref 1, .int (nI i)]) (rest := []) rfl rfl rfl rfl rfl (Nat.le_of_ble_eq_true rfl) (Nat.le_of_ble_eq_true rfl) rfl (by decide) (c_has_t (mi := mi) hn h6 hx9) ?_
        rintro _ _ ⟨rfl, rfl⟩
        refine Wp.run 5 (34, [(0, .ref 0), (1, .int (nI i)), (2, .int 5)], [.int (nI i), .ref 3], (zsh ++ vs, mi, ml, (zmr g))) rfl ?_
        refine Wp.ialn rfl (by decide) rfl (by omega) (by decide) ?_
        refine Wp.topi (y := 3) (ec) ?_
        refine Wp.run 3 (38, [(3, .int 3), (0, .ref 0), (1, .int (nI i)), (2, .int 5)], [.int 5, .int 3], (zsh ++ vs, mi, ml, (zmr g))) rfl ?_
        refine Wp.call (as := [.int 3, .int 5]) (rest := []) rfl rfl rfl rfl rfl (Nat.le_of_ble_eq_true rfl) (Nat.le_of_ble_eq_true rfl) rfl (by decide) (c_under_3_5) ?_
        rintro _ _ ⟨rfl, rfl⟩
        refine Wp.run 2 (50, [(3, .int 3), (0, .ref 0), (1, .int (nI i)), (2, .int 5)], [.int (-12)], (zsh ++ vs, mi, ml, (zmr g))) rfl ?_
        refine Wp.ret rfl rfl rfl ?_
        exact ⟨rfl, _, _, rfl, SC.rf, fun _ _ _ => rfl⟩
      · intro m g' I' e67 S
        have B' := I'.1.1
        have hn' := B'.2.1
        have hN' := B'.1.1
        have hd' := B'.1.2.2.1
        refine Wp.run 3 (4, [(0, .ref 66), (1, .int (nI i)), (2, .int 5)], [.int 6, .int 0, .int 5], (zsh ++ vs, m, ml, (zmr g'))) rfl ?_
        refine Wp.call (as := [.int 5, .int 0, .int 6]) (rest := []) rfl rfl rfl rfl rfl (Nat.le_of_ble_eq_true rfl) (Nat.le_of_ble_eq_true rfl) rfl (by decide) (m_isIn_t hk) ?_
        rintro _ _ ⟨rfl, rfl⟩
        refine Wp.run 3 (15, [(0, .ref 66), (1, .int (nI i)), (2, .int 5)], [.int (nI i), .ref 66], (zsh ++ vs, m, ml, (zmr g'))) rfl ?_
        refine Wp.call (as := [.ref 66, .int (nI i)]) (rest := []) rfl rfl rfl rfl rfl (Nat.le_of_ble_eq_true rfl) (Nat.le_of_ble_eq_true rfl) rfl (by decide) (m_isOne_t (mi := m) hN' h6 hx9) ?_
        rintro _ _ ⟨rfl, rfl⟩
        refine Wp.run 4 (27, [(0, .ref 66), (1, .int (nI i)), (2, .int 5)], [.int 0, .int (nI i), .ref 66], (zsh ++ vs, m, ml, (zmr g'))) rfl ?_
        refine Wp.call (as := [.ref 66, .int (nI i), .int 0]) (rest := []) rfl rfl rfl rfl rfl (Nat.le_of_ble_eq_true rfl) (Nat.le_of_ble_eq_true rfl) rfl (by decide) (m_one (mi := m) i 0 (by omega)) ?_
        rintro _ _ ⟨rfl, rfl⟩
        refine Wp.topi (y := 3) ((congrFun e67 _).trans es) ?_
        refine Wp.run 11 (47, [(3, .int 3), (0, .ref 66), (1, .int (nI i)), (2, .int 5)], [.int (m 79 3)], (zsh ++ vs, m, ml, (zmr g'))) rfl ?_
        refine Wp.topi (y := 0) (I'.2.2.2.2.2.2.2.2.1 3 (by decide)) ?_
        refine Wp.run 2 (31, [(3, .int 0), (0, .ref 66), (1, .int (nI i)), (2, .int 5)], [], (zsh ++ vs, m, ml, (zmr g'))) rfl ?_
        refine Wp.run 10 (47, [(3, .int 0), (0, .ref 66), (1, .int (nI i)), (2, .int 5)], [.int (m 79 0)], (zsh ++ vs, m, ml, (zmr g'))) rfl ?_
        refine Wp.topi (y := -1) (I'.2.2.2.2.2.2.2.2.1 0 (by decide)) ?_
        refine Wp.run 2 (31, [(3, .int (-1)), (0, .ref 66), (1, .int (nI i)), (2, .int 5)], [], (zsh ++ vs, m, ml, (zmr g'))) rfl ?_
        refine Wp.run 7 (67, [(3, .int (-1)), (0, .ref 66), (1, .int (nI i)), (2, .int 5)], [.int (-12)], (zsh ++ vs, m, ml, (zmr g'))) rfl ?_
        refine Wp.ret rfl rfl rfl ?_
        exact ⟨rfl, _, rfl, SC.rf⟩
    · refine SIM.q I (x := -12) (dc := 7) (dm := 27) (by decide) (by decide) ?_ ?_
      · refine Wp.run 2 (3, [(0, .ref 0), (1, .int (nI i)), (2, .int 6)], [.int 6, .int 6], (zsh ++ vs, mi, ml, (zmr g))) rfl ?_
        refine Wp.call (as := [.int 6, .int 6]) (rest := []) rfl rfl rfl rfl rfl (Nat.le_of_ble_eq_true rfl) (Nat.le_of_ble_eq_true rfl) rfl (by decide) (c_within_t hk) ?_
        rintro _ _ ⟨rfl, rfl⟩
        refine Wp.run 4 (17, [(0, .ref 0), (1, .int (nI i)), (2, .int 6)], [.int (nI i), .ref 1], (zsh ++ vs, mi, ml, (zmr g))) rfl ?_
        refine Wp.call (as := [.ref 1, .int (nI i)]) (rest := []) rfl rfl rfl rfl rfl (Nat.le_of_ble_eq_true rfl) (Nat.le_of_ble_eq_true rfl) rfl (by decide) (c_has_t (mi := mi) hn h6 hx9) ?_
        rintro _ _ ⟨rfl, rfl⟩
        refine Wp.run 5 (34, [(0, .ref 0), (1, .int (nI i)), (2, .int 6)], [.int (nI i), .ref 3], (zsh ++ vs, mi, ml, (zmr g))) rfl ?_
        refine Wp.ialn rfl (by decide) rfl (by omega) (by decide) ?_
        refine Wp.topi (y := 3) (ec) ?_
        refine Wp.run 3 (38, [(3, .int 3), (0, .ref 0), (1, .int (nI i)), (2, .int 6)], [.int 6, .int 3], (zsh ++ vs, mi, ml, (zmr g))) rfl ?_
        refine Wp.call (as := [.int 3, .int 6]) (rest := []) rfl rfl rfl rfl rfl (Nat.le_of_ble_eq_true rfl) (Nat.le_of_ble_eq_true rfl) rfl (by decide) (c_under_3_6) ?_
        rintro _ _ ⟨rfl, rfl⟩
        refine Wp.run 2 (50, [(3, .int 3), (0, .ref 0), (1, .int (nI i)), (2, .int 6)], [.int (-12)], (zsh ++ vs, mi, ml, (zmr g))) rfl ?_
        refine Wp.ret rfl rfl rfl ?_
        exact ⟨rfl, _, _, rfl, SC.rf, fun _ _ _ => rfl⟩
      · intro m g' I' e67 S
        have B' := I'.1.1
        have hn' := B'.2.1
        have hN' := B'.1.1
        have hd' := B'.1.2.2.1
        refine Wp.run 3 (4, [(0, .ref 66), (1, .int (nI i)), (2, .int 6)], [.int 6, .int 0, .int 6], (zsh ++ vs, m, ml, (zmr g'))) rfl ?_
        refine Wp.call (as := [.int 6, .int 0, .int 6]) (rest := []) rfl rfl rfl rfl rfl (Nat.le_of_ble_eq_true rfl) (Nat.le_of_ble_eq_true rfl) rfl (by decide) (m_isIn_t hk) ?_
        rintro _ _ ⟨rfl, rfl⟩
        refine Wp.run 3 (15, [(0, .ref 66), (1, .int (nI i)), (2, .int 6)], [.int (nI i), .ref 66], (zsh ++ vs, m, ml, (zmr g'))) rfl ?_
        refine Wp.call (as := [.ref 66, .int (nI i)]) (rest := []) rfl rfl rfl rfl rfl (Nat.le_of_ble_eq_true rfl) (Nat.le_of_ble_eq_true rfl) rfl (by decide) (m_isOne_t (mi := m) hN' h6 hx9) ?_
        rintro _ _ ⟨rfl, rfl⟩
        refine Wp.run 4 (27, [(0, .ref 66), (1, .int (nI i)), (2, .int 6)], [.int 0, .int (nI i), .ref 66], (zsh ++ vs, m, ml, (zmr g'))) rfl ?_
        refine Wp.call (as := [.ref 66, .int (nI i), .int 0]) (rest := []) rfl rfl rfl rfl rfl (Nat.le_of_ble_eq_true rfl) (Nat.le_of_ble_eq_true rfl) rfl (by decide) (m_one (mi := m) i 0 (by omega)) ?_
        rintro _ _ ⟨rfl, rfl⟩
        refine Wp.topi (y := 3) ((congrFun e67 _).trans es) ?_
        refine Wp.run 11 (47, [(3, .int 3), (0, .ref 66), (1, .int (nI i)), (2, .int 6)], [.int (m 79 3)], (zsh ++ vs, m, ml, (zmr g'))) rfl ?_
        refine Wp.topi (y := 0) (I'.2.2.2.2.2.2.2.2.1 3 (by decide)) ?_
        refine Wp.run 2 (31, [(3, .int 0), (0, .ref 66), (1, .int (nI i)), (2, .int 6)], [], (zsh ++ vs, m, ml, (zmr g'))) rfl ?_
        refine Wp.run 10 (47, [(3, .int 0), (0, .ref 66), (1, .int (nI i)), (2, .int 6)], [.int (m 79 0)], (zsh ++ vs, m, ml, (zmr g'))) rfl ?_
        refine Wp.topi (y := -1) (I'.2.2.2.2.2.2.2.2.1 0 (by decide)) ?_
        refine Wp.run 2 (31, [(3, .int (-1)), (0, .ref 66), (1, .int (nI i)), (2, .int 6)], [], (zsh ++ vs, m, ml, (zmr g'))) rfl ?_
        refine Wp.run 7 (67, [(3, .int (-1)), (0, .ref 66), (1, .int (nI i)), (2, .int 6)], [.int (-12)], (zsh ++ vs, m, ml, (zmr g'))) rfl ?_
        refine Wp.ret rfl rfl rfl ?_
        exact ⟨rfl, _, rfl, SC.rf⟩
  · rcases (show q = 0 ∨ q = 1 ∨ q = 2 ∨ q = 3 ∨ q = 4 ∨ q = 5 ∨ q = 6 by omega) with rfl | rfl | rfl | rfl | rfl | rfl | rfl
    · refine SIM.q I (x := 4) (dc := 7) (dm := 27) (by decide) (by decide) ?_ ?_
      · refine Wp.run 2 (3, [(0, .ref 0), (1, .int (nI i)), (2, .int 0)], [.int 6, .int 0], (zsh ++ vs, mi, ml, (zmr g))) rfl ?_
        refine Wp.call (as := [.int 0, .int 6]) (rest := []) rfl rfl rfl rfl rfl (Nat.le_of_ble_eq_true rfl) (Nat.le_of_ble_eq_true rfl) rfl (by decide) (c_within_t hk) ?_
        rintro _ _ ⟨rfl, rfl⟩
        refine Wp.run 4 (17, [(0, .ref 0), (1, .int (nI i)), (2, .int 0)], [.int (nI i), .ref 1], (zsh ++ vs, mi, ml, (zmr g))) rfl ?_
        refine Wp.call (as := [.ref 1, .int (nI i)]) (rest := []) rfl rfl rfl rfl rfl (Nat.le_of_ble_eq_true rfl) (Nat.le_of_ble_eq_true rfl) rfl (by decide) (c_has_t (mi := mi) hn h6 hx9) ?_
        rintro _ _ ⟨rfl, rfl⟩
        refine Wp.run 5 (34, [(0, .ref 0), (1, .int (nI i)), (2, .int 0)], [.int (nI i), .ref 3], (zsh ++ vs, mi, ml, (zmr g))) rfl ?_
        refine Wp.ialn rfl (by decide) rfl (by omega) (by decide) ?_
        refine Wp.topi (y := 4) (ec) ?_
        refine Wp.run 3 (38, [(3, .int 4), (0, .ref 0), (1, .int (nI i)), (2, .int 0)], [.int 0, .int 4], (zsh ++ vs, mi, ml, (zmr g))) rfl ?_
        refine Wp.call (as := [.int 4, .int 0]) (rest := []) rfl rfl rfl rfl rfl (Nat.le_of_ble_eq_true rfl) (Nat.le_of_ble_eq_true rfl) rfl (by decide) (c_under_4_0) ?_
        rintro _ _ ⟨rfl, rfl⟩
        refine Wp.run 3 (50, [(3, .int 4), (0, .ref 0), (1, .int (nI i)), (2, .int 0)], [.int 4], (zsh ++ vs, mi, ml, (zmr g))) rfl ?_
        refine Wp.ret rfl rfl rfl ?_
        exact ⟨rfl, _, _, rfl, SC.rf, fun _ _ _ => rfl⟩
      · intro m g' I' e67 S
        have B' := I'.1.1
        have hn' := B'.2.1
        have hN' := B'.1.1
        have hd' := B'.1.2.2.1
        refine Wp.run 3 (4, [(0, .ref 66), (1, .int (nI i)), (2, .int 0)], [.int 6, .int 0, .int 0], (zsh ++ vs, m, ml, (zmr g'))) rfl ?_
        refine Wp.call (as := [.int 0, .int 0, .int 6]) (rest := []) rfl rfl rfl rfl rfl (Nat.le_of_ble_eq_true rfl) (Nat.le_of_ble_eq_true rfl) rfl (by decide) (m_isIn_t hk) ?_
        rintro _ _ ⟨rfl, rfl⟩
        refine Wp.run 3 (15, [(0, .ref 66), (1, .int (nI i)), (2, .int 0)], [.int (nI i), .ref 66], (zsh ++ vs, m, ml, (zmr g'))) rfl ?_
        refine Wp.call (as := [.ref 66, .int (nI i)]) (rest := []) rfl rfl rfl rfl rfl (Nat.le_of_ble_eq_true rfl) (Nat.le_of_ble_eq_true rfl) rfl (by decide) (m_isOne_t (mi := m) hN' h6 hx9) ?_
        rintro _ _ ⟨rfl, rfl⟩
        refine Wp.run 4 (27, [(0, .ref 66), (1, .int (nI i)), (2, .int 0)], [.int 0, .int (nI i), .ref 66], (zsh ++ vs, m, ml, (zmr g'))) rfl ?_
        refine Wp.call (as := [.ref 66, .int (nI i), .int 0]) (rest := []) rfl rfl rfl rfl rfl (Nat.le_of_ble_eq_true rfl) (Nat.le_of_ble_eq_true rfl) rfl (by decide) (m_one (mi := m) i 0 (by omega)) ?_
        rintro _ _ ⟨rfl, rfl⟩
        refine Wp.topi (y := 4) ((congrFun e67 _).trans es) ?_
        refine Wp.run 11 (47, [(3, .int 4), (0, .ref 66), (1, .int (nI i)), (2, .int 0)], [.int (m 79 4)], (zsh ++ vs, m, ml, (zmr g'))) rfl ?_
        refine Wp.topi (y := 1) (I'.2.2.2.2.2.2.2.2.1 4 (by decide)) ?_
        refine Wp.run 2 (31, [(3, .int 1), (0, .ref 66), (1, .int (nI i)), (2, .int 0)], [], (zsh ++ vs, m, ml, (zmr g'))) rfl ?_
        refine Wp.run 10 (47, [(3, .int 1), (0, .ref 66), (1, .int (nI i)), (2, .int 0)], [.int (m 79 1)], (zsh ++ vs, m, ml, (zmr g'))) rfl ?_
        refine Wp.topi (y := 0) (I'.2.2.2.2.2.2.2.2.1 1 (by decide)) ?_
        refine Wp.run 2 (31, [(3, .int 0), (0, .ref 66), (1, .int (nI i)), (2, .int 0)], [], (zsh ++ vs, m, ml, (zmr g'))) rfl ?_
        refine Wp.run 12 (59, [(3, .int 0), (0, .ref 66), (1, .int (nI i)), (2, .int 0)], [.int 0, .int (nI i), .ref 66], (zsh ++ vs, m, ml, (zmr g'))) rfl ?_
        refine Wp.call (as := [.ref 66, .int (nI i), .int 0]) (rest := []) rfl rfl rfl rfl rfl (Nat.le_of_ble_eq_true rfl) (Nat.le_of_ble_eq_true rfl) rfl (by decide) (m_one (mi := m) i 0 (by omega)) ?_
        rintro _ _ ⟨rfl, rfl⟩
        refine Wp.topi (y := 4) ((congrFun e67 _).trans es) ?_
        refine Wp.run 1 (67, [(3, .int 0), (0, .ref 66), (1, .int (nI i)), (2, .int 0)], [.int 4], (zsh ++ vs, m, ml, (zmr g'))) rfl ?_
        refine Wp.ret rfl rfl rfl ?_
        exact ⟨rfl, _, rfl, SC.rf⟩
    · refine SIM.q I (x := 4) (dc := 7) (dm := 27) (by decide) (by decide) ?_ ?_
      · refine Wp.run 2 (3, [(0, .ref 0), (1, .int (nI i)), (2, .int 1)], [.int 6, .int 1], (zsh ++ vs, mi, ml, (zmr g))) rfl ?_
        refine Wp.call (as := [.int 1, .int 6]) (rest := []) rfl rfl rfl rfl rfl (Nat.le_of_ble_eq_true rfl) (Nat.le_of_ble_eq_true rfl) rfl (by decide) (c_within_t hk) ?_
        rintro _ _ ⟨rfl, rfl⟩
        refine Wp.run 4 (17, [(0, .ref 0), (1, .int (nI i)), (2, .int 1)], [.int (nI i), .ref 1], (zsh ++ vs, mi, ml, (zmr g))) rfl ?_
        refine Wp.call (as := [.ref 1, .int (nI i)]) (rest := []) rfl rfl rfl rfl rfl (Nat.le_of_ble_eq_true rfl) (Nat.le_of_ble_eq_true rfl) rfl (by decide) (c_has_t (mi := mi) hn h6 hx9) ?_
        rintro _ _ ⟨rfl, rfl⟩
        refine Wp.run 5 (34, [(0, .ref 0), (1, .int (nI i)), (2, .int 1)], [.int (nI i), .ref 3], (zsh ++ vs, mi, ml, (zmr g))) rfl ?_
        refine Wp.ialn rfl (by decide) rfl (by omega) (by decide) ?_
        refine Wp.topi (y := 4) (ec) ?_
        refine Wp.run 3 (38, [(3, .int 4), (0, .ref 0), (1, .int (nI i)), (2, .int 1)], [.int 1, .int 4], (zsh ++ vs, mi, ml, (zmr g))) rfl ?_
        refine Wp.call (as := [.int 4, .int 1]) (rest := []) rfl rfl rfl rfl rfl (Nat.le_of_ble_eq_true rfl) (Nat.le_of_ble_eq_true rfl) rfl (by decide) (c_under_4_1) ?_
        rintro _ _ ⟨rfl, rfl⟩
        refine Wp.run 3 (50, [(3, .int 4), (0, .ref 0), (1, .int (nI i)), (2, .int 1)], [.int 4], (zsh ++ vs, mi, ml, (zmr g))) rfl ?_
        refine Wp.ret rfl rfl rfl ?_
        exact ⟨rfl, _, _, rfl, SC.rf, fun _ _ _ => rfl⟩
      · intro m g' I' e67 S
        have B' := I'.1.1
        have hn' := B'.2.1
        have hN' := B'.1.1
        have hd' := B'.1.2.2.1
        refine Wp.run 3 (4, [(0, .ref 66), (1, .int (nI i)), (2, .int 1)], [.int 6, .int 0, .int 1], (zsh ++ vs, m, ml, (zmr g'))) rfl ?_
        refine Wp.call (as := [.int 1, .int 0, .int 6]) (rest := []) rfl rfl rfl rfl rfl (Nat.le_of_ble_eq_true rfl) (Nat.le_of_ble_eq_true rfl) rfl (by decide) (m_isIn_t hk) ?_
        rintro _ _ ⟨rfl, rfl⟩
        refine Wp.run 3 (15, [(0, .ref 66), (1, .int (nI i)), (2, .int 1)], [.int (nI i), .ref 66], (zsh ++ vs, m, ml, (zmr g'))) rfl ?_
        refine Wp.call (as := [.ref 66, .int (nI i)]) (rest := []) rfl rfl rfl rfl rfl (Nat.le_of_ble_eq_true rfl) (Nat.le_of_ble_eq_true rfl) rfl (by decide) (m_isOne_t (mi := m) hN' h6 hx9) ?_
        rintro _ _ ⟨rfl, rfl⟩
        refine Wp.run 4 (27, [(0, .ref 66), (1, .int (nI i)), (2, .int 1)], [.int 0, .int (nI i), .ref 66], (zsh ++ vs, m, ml, (zmr g'))) rfl ?_
        refine Wp.call (as := [.ref 66, .int (nI i), .int 0]) (rest := []) rfl rfl rfl rfl rfl (Nat.le_of_ble_eq_true rfl) (Nat.le_of_ble_eq_true rfl) rfl (by decide) (m_one (mi := m) i 0 (by omega)) ?_
        rintro _ _ ⟨rfl, rfl⟩
        refine Wp.topi (y := 4) ((congrFun e67 _).trans es) ?_
        refine Wp.run 11 (47, [(3, .int 4), (0, .ref 66), (1, .int (nI i)), (2, .int 1)], [.int (m 79 4)], (zsh ++ vs, m, ml, (zmr g'))) rfl ?_
        refine Wp.topi (y := 1) (I'.2.2.2.2.2.2.2.2.1 4 (by decide)) ?_
        refine Wp.run 2 (31, [(3, .int 1), (0, .ref 66), (1, .int (nI i)), (2, .int 1)], [], (zsh ++ vs, m, ml, (zmr g'))) rfl ?_
        refine Wp.run 12 (59, [(3, .int 1), (0, .ref 66), (1, .int (nI i)), (2, .int 1)], [.int 0, .int (nI i), .ref 66], (zsh ++ vs, m, ml, (zmr g'))) rfl ?_
        refine Wp.call (as := [.ref 66, .int (nI i), .int 0]) (rest := []) rfl rfl rfl rfl rfl (Nat.le_of_ble_eq_true rfl) (Nat.le_of_ble_eq_true rfl) rfl (by decide) (m_one (mi := m) i 0 (by omega)) ?_
        rintro _ _ ⟨rfl, rfl⟩
        refine Wp.topi (y := 4) ((congrFun e67 _).trans es) ?_
        refine Wp.run 1 (67, [(3, .int 1), (0, .ref 66), (1, .int (nI i)), (2, .int 1)], [.int 4], (zsh ++ vs, m, ml, (zmr g'))) rfl ?_
        refine Wp.ret rfl rfl rfl ?_
        exact ⟨rfl, _, rfl, SC.rf⟩
    · refine SIM.q I (x := -12) (dc := 7) (dm := 27) (by decide) (by decide) ?_ ?_
      · refine Wp.run 2 (3, [(0, .ref 0), (1, .int (nI i)), (2, .int 2)], [.int 6, .int 2], (zsh ++ vs, mi, ml, (zmr g))) rfl ?_
        refine Wp.call (as := [.int 2, .int 6]) (rest := []) rfl rfl rfl rfl rfl (Nat.le_of_ble_eq_true rfl) (Nat.le_of_ble_eq_true rfl) rfl (by decide) (c_within_t hk) ?_
        rintro _ _ ⟨rfl, rfl⟩
        refine Wp.run 4 (17, [(0, .ref 0), (1, .int (nI i)), (2, .int 2)], [.int (nI i), .ref 1], (zsh ++ vs, mi, ml, (zmr g))) rfl ?_
        refine Wp.call (as := [.ref 1, .int (nI i)]) (rest := []) rfl rfl rfl rfl rfl (Nat.le_of_ble_eq_true rfl) (Nat.le_of_ble_eq_true rfl) rfl (by decide) (c_has_t (mi := mi) hn h6 hx9) ?_
        rintro _ _ ⟨rfl, rfl⟩
        refine Wp.run 5 (34, [(0, .ref 0), (1, .int (nI i)), (2, .int 2)], [.int (nI i), .ref 3], (zsh ++ vs, mi, ml, (zmr g))) rfl ?_
        refine Wp.ialn rfl (by decide) rfl (by omega) (by decide) ?_
        refine Wp.topi (y := 4) (ec) ?_
        refine Wp.run 3 (38, [(3, .int 4), (0, .ref 0), (1, .int (nI i)), (2, .int 2)], [.int 2, .int 4], (zsh ++ vs, mi, ml, (zmr g))) rfl ?_
        refine Wp.call (as := [.int 4, .int 2]) (rest := []) rfl rfl rfl rfl rfl (Nat.le_of_ble_eq_true rfl) (Nat.le_of_ble_eq_true rfl) rfl (by decide) (c_under_4_2) ?_
        rintro _ _ ⟨rfl, rfl⟩
        refine Wp.run 2 (50, [(3, .int 4), (0, .ref 0), (1, .int (nI i)), (2, .int 2)], [.int (-12)], (zsh ++ vs, mi, ml, (zmr g))) rfl ?_
        refine Wp.ret rfl rfl rfl ?_
        exact ⟨rfl, _, _, rfl, SC.rf, fun _ _ _ => rfl⟩
      · intro m g' I' e67 S
        have B' := I'.1.1
        have hn' := B'.2.1
        have hN' := B'.1.1
        have hd' := B'.1.2.2.1
        refine Wp.run 3 (4, [(0, .ref 66), (1, .int (nI i)), (2, .int 2)], [.int 6, .int 0, .int 2], (zsh ++ vs, m, ml, (zmr g'))) rfl ?_
        refine Wp.call (as := [.int 2, .int 0, .int 6]) (rest := []) rfl rfl rfl rfl rfl (Nat.le_of_ble_eq_true rfl) (Nat.le_of_ble_eq_true rfl) rfl (by decide) (m_isIn_t hk) ?_
        rintro _ _ ⟨rfl, rfl⟩
        refine Wp.run 3 (15, [(0, .ref 66), (1, .int (nI i)), (2, .int 2)], [.int (nI i), .ref 66], (zsh ++ vs, m, ml, (zmr g'))) rfl ?_
        refine Wp.call (as := [.ref 66, .int (nI i)]) (rest := []) rfl rfl rfl rfl rfl (Nat.le_of_ble_eq_true rfl) (Nat.le_of_ble_eq_true rfl) rfl (by decide) (m_isOne_t (mi := m) hN' h6 hx9) ?_
        rintro _ _ ⟨rfl, rfl⟩
        refine Wp.run 4 (27, [(0, .ref 66), (1, .int (nI i)), (2, .int 2)], [.int 0, .int (nI i), .ref 66], (zsh ++ vs, m, ml, (zmr g'))) rfl ?_
        refine Wp.call (as := [.ref 66, .int (nI i), .int 0]) (rest := []) rfl rfl rfl rfl rfl (Nat.le_of_ble_eq_true rfl) (Nat.le_of_ble_eq_true rfl) rfl (by decide) (m_one (mi := m) i 0 (by omega)) ?_
        rintro _ _ ⟨rfl, rfl⟩
        refine Wp.topi (y := 4) ((congrFun e67 _).trans es) ?_
        refine Wp.run 11 (47, [(3, .int 4), (0, .ref 66), (1, .int (nI i)), (2, .int 2)], [.int (m 79 4)], (zsh ++ vs, m, ml, (zmr g'))) rfl ?_
        refine Wp.topi (y := 1) (I'.2.2.2.2.2.2.2.2.1 4 (by decide)) ?_
        refine Wp.run 2 (31, [(3, .int 1), (0, .ref 66), (1, .int (nI i)), (2, .int 2)], [], (zsh ++ vs, m, ml, (zmr g'))) rfl ?_
        refine Wp.run 10 (47, [(3, .int 1), (0, .ref 66), (1, .int (nI i)), (2, .int 2)], [.int (m 79 1)], (zsh ++ vs, m, ml, (zmr g'))) rfl ?_
        refine Wp.topi (y := 0) (I'.2.2.2.2.2.2.2.2.1 1 (by decide)) ?_
        refine Wp.run 2 (31, [(3, .int 0), (0, .ref 66), (1, .int (nI i)), (2, .int 2)], [], (zsh ++ vs, m, ml, (zmr g'))) rfl ?_
        refine Wp.run 10 (47, [(3, .int 0), (0, .ref 66), (1, .int (nI i)), (2, .int 2)], [.int (m 79 0)], (zsh ++ vs, m, ml, (zmr g'))) rfl ?_
        refine Wp.topi (y := -1) (I'.2.2.2.2.2.2.2.2.1 0 (by decide)) ?_
        refine Wp.run 2 (31, [(3, .int (-1)), (0, .ref 66), (1, .int (nI i)), (2, .int 2)], [], (zsh ++ vs, m, ml, (zmr g'))) rfl ?_
        refine Wp.run 7 (67, [(3, .int (-1)), (0, .ref 66), (1, .int (nI i)), (2, .int 2)], [.int (-12)], (zsh ++ vs, m, ml, (zmr g'))) rfl ?_
        refine Wp.ret rfl rfl rfl ?_
        exact ⟨rfl, _, rfl, SC.rf⟩
    · refine SIM.q I (x := -12) (dc := 7) (dm := 27) (by decide) (by decide) ?_ ?_
      · refine Wp.run 2 (3, [(0, .ref 0), (1, .int (nI i)), (2, .int 3)], [.int 6, .int 3], (zsh ++ vs, mi, ml, (zmr g))) rfl ?_
        refine Wp.call (as := [.int 3, .int 6]) (rest := []) rfl rfl rfl rfl rfl (Nat.le_of_ble_eq_true rfl) (Nat.le_of_ble_eq_true rfl) rfl (by decide) (c_within_t hk) ?_
        rintro _ _ ⟨rfl, rfl⟩
        refine Wp.run 4 (17, [(0, .ref 0), (1, .int (nI i)), (2, .int 3)], [.int (nI i), .ref 1], (zsh ++ vs, mi, ml, (zmr g))) rfl ?_
        refine Wp.call (as := [.ref 1, .int (nI i)]) (rest := []) rfl rfl rfl rfl rfl (Nat.le_of_ble_eq_true rfl) (Nat.le_of_ble_eq_true rfl) rfl (by decide) (c_has_t (mi := mi) hn h6 hx9) ?_
        rintro _ _ ⟨rfl, rfl⟩
        refine Wp.run 5 (34, [(0, .ref 0), (1, .int (nI i)), (2, .int 3)], [.int (nI i), .ref 3], (zsh ++ vs, mi, ml, (zmr g))) rfl ?_
        refine Wp.ialn rfl (by decide) rfl (by omega) (by decide) ?_
        refine Wp.topi (y := 4) (ec) ?_
        refine Wp.run 3 (38, [(3, .int 4), (0, .ref 0), (1, .int (nI i)), (2, .int 3)], [.int 3, .int 4], (zsh ++ vs, mi, ml, (zmr g))) rfl ?_
        refine Wp.call (as := [.int 4, .int 3]) (rest := []) rfl rfl rfl rfl rfl (Nat.le_of_ble_eq_true rfl) (Nat.le_of_ble_eq_true rfl) rfl (by decide) (c_under_4_3) ?_
        rintro _ _ ⟨rfl, rfl⟩
        refine Wp.run 2 (50, [(3, .int 4), (0, .ref 0), (1, .int (nI i)), (2, .int 3)], [.int (-12)], (zsh ++ vs, mi, ml, (zmr g))) rfl ?_
        refine Wp.ret rfl rfl rfl ?_
        exact ⟨rfl, _, _, rfl, SC.rf, fun _ _ _ => rfl⟩
      · intro m g' I' e67 S
        have B' := I'.1.1
        have hn' := B'.2.1
        have hN' := B'.1.1
        have hd' := B'.1.2.2.1
        refine Wp.run 3 (4, [(0, .ref 66), (1, .int (nI i)), (2, .int 3)], [.int 6, .int 0, .int 3], (zsh ++ vs, m, ml, (zmr g'))) rfl ?_
        refine Wp.call (as := [.int 3, .int 0, .int 6]) (rest := []) rfl rfl rfl rfl rfl (Nat.le_of_ble_eq_true rfl) (Nat.le_of_ble_eq_true rfl) rfl (by decide) (m_isIn_t hk) ?_
        rintro _ _ ⟨rfl, rfl⟩
        refine Wp.run 3 (15, [(0, .ref 66), (1, .int (nI i)), (2, .int 3)], [.int (nI i), .ref 66], (zsh ++ vs, m, ml, (zmr g'))) rfl ?_
        refine Wp.call (as := [.ref 66, .int (nI i)]) (rest := []) rfl rfl rfl rfl rfl (Nat.le_of_ble_eq_true rfl) (Nat.le_of_ble_eq_true rfl) rfl (by decide) (m_isOne_t (mi := m) hN' h6 hx9) ?_
        rintro _ _ ⟨rfl, rfl⟩
        refine Wp.run 4 (27, [(0, .ref 66), (1, .int (nI i)), (2, .int 3)], [.int 0, .int (nI i), .ref 66], (zsh ++ vs, m, ml, (zmr g'))) rfl ?_
        refine Wp.call (as := [.ref 66, .int (nI i), .int 0]) (rest := []) rfl rfl rfl rfl rfl (Nat.le_of_ble_eq_true rfl) (Nat.le_of_ble_eq_true rfl) rfl (by decide) (m_one (mi := m) i 0 (by omega)) ?_
        rintro _ _ ⟨rfl, rfl⟩
        refine Wp.topi (y := 4) ((congrFun e67 _).trans es) ?_
        refine Wp.run 11 (47, [(3, .int 4), (0, .ref 66), (1, .int (nI i)), (2, .int 3)], [.int (m 79 4)], (zsh ++ vs, m, ml, (zmr g'))) rfl ?_
        refine Wp.topi (y := 1) (I'.2.2.2.2.2.2.2.2.1 4 (by decide)) ?_
        refine Wp.run 2 (31, [(3, .int 1), (0, .ref 66), (1, .int (nI i)), (2, .int 3)], [], (zsh ++ vs, m, ml, (zmr g'))) rfl ?_
        refine Wp.run 10 (47, [(3, .int 1), (0, .ref 66), (1, .int (nI i)), (2, .int 3)], [.int (m 79 1)], (zsh ++ vs, m, ml, (zmr g'))) rfl ?_
        refine Wp.topi (y := 0) (I'.2.2.2.2.2.2.2.2.1 1 (by decide)) ?_
        refine Wp.run 2 (31, [(3, .int 0), (0, .ref 66), (1, .int (nI i)), (2, .int 3)], [], (zsh ++ vs, m, ml, (zmr g'))) rfl ?_
        refine Wp.run 10 (47, [(3, .int 0), (0, .ref 66), (1, .int (nI i)), (2, .int 3)], [.int (m 79 0)], (zsh ++ vs, m, ml, (zmr g'))) rfl ?_
        refine Wp.topi (y := -1) (I'.2.2.2.2.2.2.2.2.1 0 (by decide)) ?_
        refine Wp.run 2 (31, [(3, .int (-1)), (0, .ref 66), (1, .int (nI i)), (2, .int 3)], [], (zsh ++ vs, m, ml, (zmr g'))) rfl ?_
        refine Wp.run 7 (67, [(3, .int (-1)), (0, .ref 66), (1, .int (nI i)), (2, .int 3)], [.int (-12)], (zsh ++ vs, m, ml, (zmr g'))) rfl ?_
        refine Wp.ret rfl rfl rfl ?_
        exact ⟨rfl, _, rfl, SC.rf⟩
    · refine SIM.q I (x := 4) (dc := 7) (dm := 27) (by decide) (by decide) ?_ ?_
      · refine Wp.run 2 (3, [(0, .ref 0), (1, .int (nI i)), (2, .int 4)], [.int 6, .int 4], (zsh ++ vs, mi, ml, (zmr g))) rfl ?_
        refine Wp.call (as := [.int 4, .int 6]) (rest := []) rfl rfl rfl rfl rfl (Nat.le_of_ble_eq_true rfl) (Nat.le_of_ble_eq_true rfl) rfl (by decide) (c_within_t hk) ?_
        rintro _ _ ⟨rfl, rfl⟩
        refine Wp.run 4 (17, [(0, .ref 0), (1, .int (nI i)), (2, .int 4)], [.int (nI i), .ref 1], (zsh ++ vs, mi, ml, (zmr g))) rfl ?_
        refine Wp.call (as := [.ref 1, .int (nI i)]) (rest := []) rfl rfl rfl rfl rfl (Nat.le_of_ble_eq_true rfl) (Nat.le_of_ble_eq_true rfl) rfl (by decide) (c_has_t (mi := mi) hn h6 hx9) ?_
        rintro _ _ ⟨rfl, rfl⟩
        refine Wp.run 5 (34, [(0, .ref 0), (1, .int (nI i)), (2, .int 4)], [.int (nI i), .ref 3], (zsh ++ vs, mi, ml, (zmr g))) rfl ?_
        refine Wp.ialn rfl (by decide) rfl (by omega) (by decide) ?_
        refine Wp.topi (y := 4) (ec) ?_
        refine Wp.run 3 (38, [(3, .int 4), (0, .ref 0), (1, .int (nI i)), (2, .int 4)], [.int 4, .int 4], (zsh ++ vs, mi, ml, (zmr g))) rfl ?_
        refine Wp.call (as := [.int 4, .int 4]) (rest := []) rfl rfl rfl rfl rfl (Nat.le_of_ble_eq_true rfl) (Nat.le_of_ble_eq_true rfl) rfl (by decide) (c_under_4_4) ?_
        rintro _ _ ⟨rfl, rfl⟩
        refine Wp.run 3 (50, [(3, .int 4), (0, .ref 0), (1, .int (nI i)), (2, .int 4)], [.int 4], (zsh ++ vs, mi, ml, (zmr g))) rfl ?_
        refine Wp.ret rfl rfl rfl ?_
        exact ⟨rfl, _, _, rfl, SC.rf, fun _ _ _ => rfl⟩
      · intro m g' I' e67 S
        have B' := I'.1.1
        have hn' := B'.2.1
        have hN' := B'.1.1
        have hd' := B'.1.2.2.1
        refine Wp.run 3 (4, [(0, .ref 66), (1, .int (nI i)), (2, .int 4)], [.int 6, .int 0, .int 4], (zsh ++ vs, m, ml, (zmr g'))) rfl ?_
        refine Wp.call (as := [.int 4, .int 0, .int 6]) (rest := []) rfl rfl rfl rfl rfl (Nat.le_of_ble_eq_true rfl) (Nat.le_of_ble_eq_true rfl) rfl (by decide) (m_isIn_t hk) ?_
        rintro _ _ ⟨rfl, rfl⟩
        refine Wp.run 3 (15, [(0, .ref 66), (1, .int (nI i)), (2, .int 4)], [.int (nI i), .ref 66], (zsh ++ vs, m, ml, (zmr g'))) rfl ?_
        refine Wp.call (as := [.ref 66, .int (nI i)]) (rest := []) rfl rfl rfl rfl rfl (Nat.le_of_ble_eq_true rfl) (Nat.le_of_ble_eq_true rfl) rfl (by decide) (m_isOne_t (mi := m) hN' h6 hx9) ?_
        rintro _ _ ⟨rfl, rfl⟩
        refine Wp.run 4 (27, [(0, .ref 66), (1, .int (nI i)), (2, .int 4)], [.int 0, .int (nI i), .ref 66], (zsh ++ vs, m, ml, (zmr g'))) rfl ?_
        refine Wp.call (as := [.ref 66, .int (nI i), .int 0]) (rest := []) rfl rfl rfl rfl rfl (Nat.le_of_ble_eq_true rfl) (Nat.le_of_ble_eq_true rfl) rfl (by decide) (m_one (mi := m) i 0 (by omega)) ?_
        rintro _ _ ⟨rfl, rfl⟩
        refine Wp.topi (y := 4) ((congrFun e67 _).trans es) ?_
        refine Wp.run 13 (59, [(3, .int 4), (0, .ref 66), (1, .int (nI i)), (2, .int 4)], [.int 0, .int (nI i), .ref 66], (zsh ++ vs, m, ml, (zmr g'))) rfl ?_
        refine Wp.call (as := [.ref 66, .int (nI i), .int 0]) (rest := []) rfl rfl rfl rfl rfl (Nat.le_of_ble_eq_true rfl) (Nat.le_of_ble_eq_true rfl) rfl (by decide) (m_one (mi := m) i 0 (by omega)) ?_
        rintro _ _ ⟨rfl, rfl⟩
        refine Wp.topi (y := 4) ((congrFun e67 _).trans es) ?_
        refine Wp.run 1 (67, [(3, .int 4), (0, .ref 66), (1, .int (nI i)), (2, .int 4)], [.int 4], (zsh ++ vs, m, ml, (zmr g'))) rfl ?_
        refine Wp.ret rfl rfl rfl ?_
        exact ⟨rfl, _, rfl, SC.rf⟩
    · refine SIM.q I (x := -12) (dc := 7) (dm := 27) (by decide) (by decide) ?_ ?_
      · refine Wp.run 2 (3, [(0, .ref 0), (1, .int (nI i)), (2, .int 5)], [.int 6, .int 5], (zsh ++ vs, mi, ml, (zmr g))) rfl ?_
        refine Wp.call (as := [.int 5, .int 6]) (rest := []) rfl rfl rfl rfl rfl (Nat.le_of_ble_eq_true rfl) (Nat.le_of_ble_eq_true rfl) rfl (by decide) (c_within_t hk) ?_
        rintro _ _ ⟨rfl, rfl⟩
        refine Wp.run 4 (17, [(0, .ref 0), (1, .int (nI i)), (2, .int 5)], [.int (nI i), .ref 1], (zsh ++ vs, mi, ml, (zmr g))) rfl ?_
        refine Wp.call (as := [.ref 1, .int (nI i)]) (rest := []) rfl rfl rfl rfl rfl (Nat.le_of_ble_eq_true rfl) (Nat.le_of_ble_eq_true rfl) rfl (by decide) (c_has_t (mi := mi) hn h6 hx9) ?_
        rintro _ _ ⟨rfl, rfl⟩
        refine Wp.run 5 (34, [(0, .ref 0), (1, .int (nI i)), (2, .int 5)], [.int (nI i), .ref 3], (zsh ++ vs, mi, ml, (zmr g))) rfl ?_
        refine Wp.ialn rfl (by decide) rfl (by omega) (by decide) ?_
        refine Wp.topi (y := 4) (ec) ?_
        refine Wp.run 3 (38, [(3, .int 4), (0, .ref 0), (1, .int (nI i)), (2, .int 5)], [.int 5, .int 4], (zsh ++ vs, mi, ml, (zmr g))) rfl ?_
        refine Wp.call (as := [.int 4, .int 5]) (rest := []) rfl rfl rfl rfl rfl (Nat.le_of_ble_eq_true rfl) (Nat.le_of_ble_eq_true rfl) rfl (by decide) (c_under_4_5) ?_
        rintro _ _ ⟨rfl, rfl⟩
        refine Wp.run 2 (50, [(3, .int 4), (0, .ref 0), (1, .int (nI i)), (2, .int 5)], [.int (-12)], (zsh ++ vs, mi, ml, (zmr g))) rfl ?_
        refine Wp.ret rfl rfl rfl ?_
        exact ⟨rfl, _, _, rfl, SC.rf, fun _ _ _ => rfl⟩
      · intro m g' I' e67 S
        have B' := I'.1.1
        have hn' := B'.2.1
        have hN' := B'.1.1
        have hd' := B'.1.2.2.1
        refine Wp.run 3 (4, [(0, .ref 66), (1, .int (nI i)), (2, .int 5)], [.int 6, .int 0, .int 5], (zsh ++ vs, m, ml, (zmr g'))) rfl ?_
        refine Wp.call (as := [.int 5, .int 0, .int 6]) (rest := []) rfl rfl rfl rfl rfl (Nat.le_of_ble_eq_true rfl) (Nat.le_of_ble_eq_true rfl) rfl (by decide) (m_isIn_t hk) ?_
        rintro _ _ ⟨rfl, rfl⟩
        refine Wp.run 3 (15, [(0, .ref 66), (1, .int (nI i)), (2, .int 5)], [.int (nI i), .ref 66], (zsh ++ vs, m, ml, (zmr g'))) rfl ?_
        refine Wp.call (as := [.ref 66, .int (nI i)]) (rest := []) rfl rfl rfl rfl rfl (Nat.le_of_ble_eq_true rfl) (Nat.le_of_ble_eq_true rfl) rfl (by decide) (m_isOne_t (mi := m) hN' h6 hx9) ?_
        rintro _ _ ⟨rfl, rfl⟩
        refine Wp.run 4 (27, [(0, .ref 66), (1, .int (nI i)), (2, .int 5)], [.int 0, .int (nI i), .ref 66], (zsh ++ vs, m, ml, (zmr g'))) rfl ?_
        refine Wp.call (as := [.ref 66, .int (nI i), .int 0]) (rest := []) rfl rfl rfl rfl rfl (Nat.le_of_ble_eq_true rfl) (Nat.le_of_ble_eq_true rfl) rfl (by decide) (m_one (mi := m) i 0 (by omega)) ?_
        rintro _ _ ⟨rfl, rfl⟩
        refine Wp.topi (y := 4) ((congrFun e67 _).trans es) ?_
        refine Wp.run 11 (47, [(3, .int 4), (0, .ref 66), (1, .int (nI i)), (2, .int 5)], [.int (m 79 4)], (zsh ++ vs, m, ml, (zmr g'))) rfl ?_
        refine Wp.topi (y := 1) (I'.2.2.2.2.2.2.2.2.1 4 (by decide)) ?_
        refine Wp.run 2 (31, [(3, .int 1), (0, .ref 66), (1, .int (nI i)), (2, .int 5)], [], (zsh ++ vs, m, ml, (zmr g'))) rfl ?_
        refine Wp.run 10 (47, [(3, .int 1), (0, .ref 66), (1, .int (nI i)), (2, .int 5)], [.int (m 79 1)], (zsh ++ vs, m, ml, (zmr g'))) rfl ?_
        refine Wp.topi (y := 0) (I'.2.2.2.2.2.2.2.2.1 1 (by decide)) ?_
        refine Wp.run 2 (31, [(3, .int 0), (0, .ref 66), (1, .int (nI i)), (2, .int 5)], [], (zsh ++ vs, m, ml, (zmr g'))) rfl ?_
        refine Wp.run 10 (47, [(3, .int 0), (0, .ref 66), (1, .int (nI i)), (2, .int 5)], [.int (m 79 0)], (zsh ++ vs, m, ml, (zmr g'))) rfl ?_
        refine Wp.topi (y := -1) (I'.2.2.2.2.2.2.2.2.1 0 (by decide)) ?_
        refine Wp.run 2 (31, [(3, .int (-1)), (0, .ref 66), (1, .int (nI i)), (2, .int 5)], [], (zsh ++ vs, m, ml, (zmr g'))) rfl ?_
        refine Wp.run 7 (67, [(3, .int (-1)), (0, .ref 66), (1, .int (nI i)), (2, .int 5)], [.int (-12)], (zsh ++ vs, m, ml, (zmr g'))) rfl ?_
        refine Wp.ret rfl rfl rfl ?_
        exact ⟨rfl, _, rfl, SC.rf⟩
    · refine SIM.q I (x := -12) (dc := 7) (dm := 27) (by decide) (by decide) ?_ ?_
      · refine Wp.run 2 (3, [(0, .ref 0), (1, .int (nI i)), (2, .int 6)], [.int 6, .int 6], (zsh ++ vs, mi, ml, (zmr g))) rfl ?_
        refine Wp.call (as := [.int 6, .int 6]) (rest := []) rfl rfl rfl rfl rfl (Nat.le_of_ble_eq_true rfl) (Nat.le_of_ble_eq_true rfl) rfl (by decide) (c_within_t hk) ?_
        rintro _ _ ⟨rfl, rfl⟩
        refine Wp.run 4 (17, [(0, .ref 0), (1, .int (nI i)), (2, .int 6)], [.int (nI i), .ref 1], (zsh ++ vs, mi, ml, (zmr g))) rfl ?_
        refine Wp.call (as := [.ref 1, .int (nI i)]) (rest := []) rfl rfl rfl rfl rfl (Nat.le_of_ble_eq_true rfl) (Nat.le_of_ble_eq_true rfl) rfl (by decide) (c_has_t (mi := mi) hn h6 hx9) ?_
        rintro _ _ ⟨rfl, rfl⟩
        refine Wp.run 5 (34, [(0, .ref 0), (1, .int (nI i)), (2, .int 6)], [.int (nI i), .ref 3], (zsh ++ vs, mi, ml, (zmr g))) rfl ?_
        refine Wp.ialn rfl (by decide) rfl (by omega) (by decide) ?_
        refine Wp.topi (y := 4) (ec) ?_
        refine Wp.run 3 (38, [(3, .int 4), (0, .ref 0), (1, .int (nI i)), (2, .int 6)], [.int 6, .int 4], (zsh ++ vs, mi, ml, (zmr g))) rfl ?_
        refine Wp.call (as := [.int 4, .int 6]) (rest := []) rfl rfl rfl rfl rfl (Nat.le_of_ble_eq_true rfl) (Nat.le_of_ble_eq_true rfl) rfl (by decide) (c_under_4_6) ?_
        rintro _ _ ⟨rfl, rfl⟩
        refine Wp.run 2 (50, [(3, .int 4), (0, .ref 0), (1, .int (nI i)), (2, .int 6)], [.int (-12)], (zsh ++ vs, mi, ml, (zmr g))) rfl ?_
        refine Wp.ret rfl rfl rfl ?_
        exact ⟨rfl, _, _, rfl, SC.rf, fun _ _ _ => rfl⟩
      · intro m g' I' e67 S
        have B' := I'.1.1
        have hn' := B'.2.1
        have hN' := B'.1.1
        have hd' := B'.1.2.2.1
        refine Wp.run 3 (4, [(0, .ref 66), (1, .int (nI i)), (2, .int 6)], [.int 6, .int 0, .int 6], (zsh ++ vs, m, ml, (zmr g'))) rfl ?_
        refine Wp.call (as := [.int 6, .int 0, .int 6]) (rest := []) rfl rfl rfl rfl rfl (Nat.le_of_ble_eq_true rfl) (Nat.le_of_ble_eq_true rfl) rfl (by decide) (m_isIn_t hk) ?_
        rintro _ _ ⟨rfl, rfl⟩
        refine Wp.run 3 (15, [(0, .ref 66), (1, .int (nI i)), (2, .int 6)], [.int (nI i), .ref 66], (zsh ++ vs, m, ml, (zmr g'))) rfl ?_
        refine Wp.call (as := [.ref 66, .int (nI i)]) (rest := []) rfl rfl rfl rfl rfl (Nat.le_of_ble_eq_true rfl) (Nat.le_of_ble_eq_true rfl) rfl (by decide) (m_isOne_t (mi := m) hN' h6 hx9) ?_
        rintro _ _ ⟨rfl, rfl⟩
        refine Wp.run 4 (27, [(0, .ref 66), (1, .int (nI i)), (2, .int 6)], [.int 0, .int (nI i), .ref 66], (zsh ++ vs, m, ml, (zmr g'))) rfl ?_
        refine Wp.call (as := [.ref 66, .int (nI i), .int 0]) (rest := []) rfl rfl rfl rfl rfl (Nat.le_of_ble_eq_true rfl) (Nat.le_of_ble_eq_true rfl) rfl (by decide) (m_one (mi := m) i 0 (by omega)) ?_
        rintro _ _ ⟨rfl, rfl⟩
        refine Wp.topi (y := 4) ((congrFun e67 _).trans es) ?_
        refine Wp.run 11 (47, [(3, .int 4), (0, .ref 66), (1, .int (nI i)), (2, .int 6)], [.int (m 79 4)], (zsh ++ vs, m, ml, (zmr g'))) rfl ?_
        refine Wp.topi (y := 1) (I'.2.2.2.2.2.2.2.2.1 4 (by decide)) ?_
        refine Wp.run 2 (31, [(3, .int 1), (0, .ref 66), (1, .int (nI i)), (2, .int 6)], [], (zsh ++ vs, m, ml, (zmr g'))) rfl ?_
        refine Wp.run 10 (47, [(3, .int 1), (0, .ref 66), (1, .int (nI i)), (2, .int 6)], [.int (m 79 1)], (zsh ++ vs, m, ml, (zmr g'))) rfl ?_
        refine Wp.topi (y := 0) (I'.2.2.2.2.2.2.2.2.1 1 (by decide)) ?_
        refine Wp.run 2 (31, [(3, .int 0), (0, .ref 66), (1, .int (nI i)), (2, .int 6)], [], (zsh ++ vs, m, ml, (zmr g'))) rfl ?_
        refine Wp.run 10 (47, [(3, .int 0), (0, .ref 66), (1, .int (nI i)), (2, .int 6)], [.int (m 79 0)], (zsh ++ vs, m, ml, (zmr g'))) rfl ?_
        refine Wp.topi (y := -1) (I'.2.2.2.2.2.2.2.2.1 0 (by decide)) ?_
        refine Wp.run 2 (31, [(3, .int (-1)), (0, .ref 66), (1, .int (nI i)), (2, .int 6)], [], (zsh ++ vs, m, ml, (zmr g'))) rfl ?_
        refine Wp.run 7 (67, [(3, .int (-1)), (0, .ref 66), (1, .int (nI i)), (2, .int 6)], [.int (-12)], (zsh ++ vs, m, ml, (zmr g'))) rfl ?_
        refine Wp.ret rfl rfl rfl ?_
        exact ⟨rfl, _, rfl, SC.rf⟩
  · rcases (show q = 0 ∨ q = 1 ∨ q = 2 ∨ q = 3 ∨ q = 4 ∨ q = 5 ∨ q = 6 by omega) with rfl | rfl | rfl | rfl | rfl | rfl | rfl
    · refine SIM.q I (x := 5) (dc := 7) (dm := 27) (by decide) (by decide) ?_ ?_
      · refine Wp.run 2 (3, [(0, .ref 0), (1, .int (nI i)), (2, .int 0)], [.int 6, .int 0], (zsh ++ vs, mi, ml, (zmr g))) rfl ?_
        refine Wp.call (as := [.int 0, .int 6]) (rest := []) rfl rfl rfl rfl rfl (Nat.le_of_ble_eq_true rfl) (Nat.le_of_ble_eq_true rfl) rfl (by decide) (c_within_t hk) ?_
        rintro _ _ ⟨rfl, rfl⟩
        refine Wp.run 4 (17, [(0, .ref 0), (1, .int (nI i)), (2, .int 0)], [.int (nI i), .ref 1], (zsh ++ vs, mi, ml, (zmr g))) rfl ?_
        refine Wp.call (as := [.ref 1, .int (nI i)]) (rest := []) rfl rfl rfl rfl rfl (Nat.le_of_ble_eq_true rfl) (Nat.le_of_ble_eq_true rfl) rfl (by decide) (c_has_t (mi := mi) hn h6 hx9) ?_
        rintro _ _ ⟨rfl, rfl⟩
        refine Wp.run 5 (34, [(0, .ref 0), (1, .int (nI i)), (2, .int 0)], [.int (nI i), .ref 3], (zsh ++ vs, mi, ml, (zmr g))) rfl ?_
        refine Wp.ialn rfl (by decide) rfl (by omega) (by decide) ?_
        refine Wp.topi (y := 5) (ec) ?_
        refine Wp.run 3 (38, [(3, .int 5), (0, .ref 0), (1, .int (nI i)), (2, .int 0)], [.int 0, .int 5], (zsh ++ vs, mi, ml, (zmr g))) rfl ?_
        refine Wp.call (as := [.int 5, .int 0]) (rest := []) rfl rfl rfl rfl rfl (Nat.le_of_ble_eq_true rfl) (Nat.le_of_ble_eq_true rfl) rfl (by decide) (c_under_5_0) ?_
        rintro _ _ ⟨rfl, rfl⟩
        refine Wp.run 3 (50, [(3, .int 5), (0, .ref 0), (1, .int (nI i)), (2, .int 0)], [.int 5], (zsh ++ vs, mi, ml, (zmr g))) rfl ?_
        refine Wp.ret rfl rfl rfl ?_
        exact ⟨rfl, _, _, rfl, SC.rf, fun _ _ _ => rfl⟩
      · intro m g' I' e67 S
        have B' := I'.1.1
        have hn' := B'.2.1
        have hN' := B'.1.1
        have hd' := B'.1.2.2.1
        refine Wp.run 3 (4, [(0, .ref 66), (1, .int (nI i)), (2, .int 0)], [.int 6, .int 0, .int 0], (zsh ++ vs, m, ml, (zmr g'))) rfl ?_
        refine Wp.call (as := [.int 0, .int 0, .int 6]) (rest := []) rfl rfl rfl rfl rfl (Nat.le_of_ble_eq_true rfl) (Nat.le_of_ble_eq_true rfl) rfl (by decide) (m_isIn_t hk) ?_
        rintro _ _ ⟨rfl, rfl⟩
        refine Wp.run 3 (15, [(0, .ref 66), (1, .int (nI i)), (2, .int 0)], [.int (nI i), .ref 66], (zsh ++ vs, m, ml, (zmr g'))) rfl ?_
        refine Wp.call (as := [.ref 66, .int (nI i)]) (rest := []) rfl rfl rfl rfl rfl (Nat.le_of_ble_eq_true rfl) (Nat.le_of_ble_eq_true rfl) rfl (by decide) (m_isOne_t (mi := m) hN' h6 hx9) ?_
        rintro _ _ ⟨rfl, rfl⟩
        refine Wp.run 4 (27, [(0, .ref 66), (1, .int (nI i)), (2, .int 0)], [.int 0, .int (nI i), .ref 66], (zsh ++ vs, m, ml, (zmr g'))) rfl ?_
        refine Wp.call (as := [.ref 66, .int (nI i), .int 0]) (rest := []) rfl rfl rfl rfl rfl (Nat.le_of_ble_eq_true rfl) (Nat.le_of_ble_eq_true rfl) rfl (by decide) (m_one (mi := m) i 0 (by omega)) ?_
        rintro _ _ ⟨rfl, rfl⟩
        refine Wp.topi (y := 5) ((congrFun e67 _).trans es) ?_
        refine Wp.run 11 (47, [(3, .int 5), (0, .ref 66), (1, .int (nI i)), (2, .int 0)], [.int (m 79 5)], (zsh ++ vs, m, ml, (zmr g'))) rfl ?_
        refine Wp.topi (y := 2) (I'.2.2.2.2.2.2.2.2.1 5 (by decide)) ?_
        refine Wp.run 2 (31, [(3, .int 2), (0, .ref 66), (1, .int (nI i)), (2, .int 0)], [], (zsh ++ vs, m, ml, (zmr g'))) rfl ?_
        refine Wp.run 10 (47, [(3, .int 2), (0, .ref 66), (1, .int (nI i)), (2, .int 0)], [.int (m 79 2)], (zsh ++ vs, m, ml, (zmr g'))) rfl ?_
        refine Wp.topi (y := 0) (I'.2.2.2.2.2.2.2.2.1 2 (by decide)) ?_
        refine Wp.run 2 (31, [(3, .int 0), (0, .ref 66), (1, .int (nI i)), (2, .int 0)], [], (zsh ++ vs, m, ml, (zmr g'))) rfl ?_
        refine Wp.run 12 (59, [(3, .int 0), (0, .ref 66), (1, .int (nI i)), (2, .int 0)], [.int 0, .int (nI i), .ref 66], (zsh ++ vs, m, ml, (zmr g'))) rfl ?_
        refine Wp.call (as := [.ref 66, .int (nI i), .int 0]) (rest := []) rfl rfl rfl rfl rfl (Nat.le_of_ble_eq_true rfl) (Nat.le_of_ble_eq_true rfl) rfl (by decide) (m_one (mi := m) i 0 (by omega)) ?_
        rintro _ _ ⟨rfl, rfl⟩
        refine Wp.topi (y := 5) ((congrFun e67 _).trans es) ?_
        refine Wp.run 1 (67, [(3, .int 0), (0, .ref 66), (1, .int (nI i)), (2, .int 0)], [.int 5], (zsh ++ vs, m, ml, (zmr g'))) rfl ?_
        refine Wp.ret rfl rfl rfl ?_
        exact ⟨rfl, _, rfl, SC.rf⟩
    · refine SIM.q I (x := -12) (dc := 7) (dm := 27) (by decide) (by decide) ?_ ?_
      · refine Wp.run 2 (3, [(0, .ref 0), (1, .int (nI i)), (2, .int 1)], [.int 6, .int 1], (zsh ++ vs, mi, ml, (zmr g))) rfl ?_
        refine Wp.call (as := [.int 1, .int 6]) (rest := []) rfl rfl rfl rfl rfl (Nat.le_of_ble_eq_true rfl) (Nat.le_of_ble_eq_true rfl) rfl (by decide) (c_within_t hk) ?_
        rintro _ _ ⟨rfl, rfl⟩
        refine Wp.run 4 (17, [(0, .ref 0), (1, .int (nI i)), (2, .int 1)], [.int (nI i), .ref 1], (zsh ++ vs, mi, ml, (zmr g))) rfl ?_
        refine Wp.call (as := [.ref 1, .int (nI i)]) (rest := []) rfl rfl rfl rfl rfl (Nat.le_of_ble_eq_true rfl) (Nat.le_of_ble_eq_true rfl) rfl (by decide) (c_has_t (mi := mi) hn h6 hx9) ?_
        rintro _ _ ⟨rfl, rfl⟩
        refine Wp.run 5 (34, [(0, .ref 0), (1, .int (nI i)), (2, .int 1)], [.int (nI i), .ref 3], (zsh ++ vs, mi, ml, (zmr g))) rfl ?_
        refine Wp.ialn rfl (by decide) rfl (by omega) (by decide) ?_
        refine Wp.topi (y := 5) (ec) ?_
        refine Wp.run 3 (38, [(3, .int 5), (0, .ref 0), (1, .int (nI i)), (2, .int 1)], [.int 1, .int 5], (zsh ++ vs, mi, ml, (zmr g))) rfl ?_
        refine Wp.call (as := [.int 5, .int 1]) (rest := []) rfl rfl rfl rfl rfl (Nat.le_of_ble_eq_true rfl) (Nat.le_of_ble_eq_true rfl) rfl (by decide) (c_under_5_1) ?_
        rintro _ _ ⟨rfl, rfl⟩
        refine Wp.run 2 (50, [(3, .int 5), (0, .ref 0), (1, .int (nI i)), (2, .int 1)], [.int (-12)], (zsh ++ vs, mi, ml, (zmr g))) rfl ?_
        refine Wp.ret rfl rfl rfl ?_
        exact ⟨rfl, _, _, rfl, SC.rf, fun _ _ _ => rfl⟩
      · intro m g' I' e67 S
        have B' := I'.1.1
        have hn' := B'.2.1
        have hN' := B'.1.1
        have hd' := B'.1.2.2.1
        refine Wp.run 3 (4, [(0, .ref 66), (1, .int (nI i)), (2, .int 1)], [.int 6, .int 0, .int 1], (zsh ++ vs, m, ml, (zmr g'))) rfl ?_
        refine Wp.call (as := [.int 1, .int 0, .int 6]) (rest := []) rfl rfl rfl rfl rfl (Nat.le_of_ble_eq_true rfl) (Nat.le_of_ble_eq_true rfl) rfl (by decide) (m_isIn_t hk) ?_
        rintro _ _ ⟨rfl, rfl⟩
        refine Wp.run 3 (15, [(0, .ref 66), (1, .int (nI i)), (2, .int 1)], [.int (nI i), .ref 66], (zsh ++ vs, m, ml, (zmr g'))) rfl ?_
        refine Wp.call (as := [.ref 66, .int (nI i)]) (rest := []) rfl rfl rfl rfl rfl (Nat.le_of_ble_eq_true rfl) (Nat.le_of_ble_eq_true rfl) rfl (by decide) (m_isOne_t (mi := m) hN' h6 hx9) ?_
        rintro _ _ ⟨rfl, rfl⟩
        refine Wp.run 4 (27, [(0, .ref 66), (1, .int (nI i)), (2, .int 1)], [.int 0, .int (nI i), .ref 66], (zsh ++ vs, m, ml, (zmr g'))) rfl ?_
        refine Wp.call (as := [.ref 66, .int (nI i), .int 0]) (rest := []) rfl rfl rfl rfl rfl (Nat.le_of_ble_eq_true rfl) (Nat.le_of_ble_eq_true rfl) rfl (by decide) (m_one (mi := m) i 0 (by omega)) ?_
        rintro _ _ ⟨rfl, rfl⟩
        refine Wp.topi (y := 5) ((congrFun e67 _).trans es) ?_
        refine Wp.run 11 (47, [(3, .int 5), (0, .ref 66), (1, .int (nI i)), (2, .int 1)], [.int (m 79 5)], (zsh ++ vs, m, ml, (zmr g'))) rfl ?_
        refine Wp.topi (y := 2) (I'.2.2.2.2.2.2.2.2.1 5 (by decide)) ?_
        refine Wp.run 2 (31, [(3, .int 2), (0, .ref 66), (1, .int (nI i)), (2, .int 1)], [], (zsh ++ vs, m, ml, (zmr g'))) rfl ?_
        refine Wp.run 10 (47, [(3, .int 2), (0, .ref 66), (1, .int (nI i)), (2, .int 1)], [.int (m 79 2)], (zsh ++ vs, m, ml, (zmr g'))) rfl ?_
        refine Wp.topi (y := 0) (I'.2.2.2.2.2.2.2.2.1 2 (by decide)) ?_
        refine Wp.run 2 (31, [(3, .int 0), (0, .ref 66), (1, .int (nI i)), (2, .int 1)], [], (zsh ++ vs, m, ml, (zmr g'))) rfl ?_
        refine Wp.run 10 (47, [(3, .int 0), (0, .ref 66), (1, .int (nI i)), (2, .int 1)], [.int (m 79 0)], (zsh ++ vs, m, ml, (zmr g'))) rfl ?_
        refine Wp.topi (y := -1) (I'.2.2.2.2.2.2.2.2.1 0 (by decide)) ?_
        refine Wp.run 2 (31, [(3, .int (-1)), (0, .ref 66), (1, .int (nI i)), (2, .int 1)], [], (zsh ++ vs, m, ml, (zmr g'))) rfl ?_
        refine Wp.run 7 (67, [(3, .int (-1)), (0, .ref 66), (1, .int (nI i)), (2, .int 1)], [.int (-12)], (zsh ++ vs, m, ml, (zmr g'))) rfl ?_
        refine Wp.ret rfl rfl rfl ?_
        exact ⟨rfl, _, rfl, SC.rf⟩
    · refine SIM.q I (x := 5) (dc := 7) (dm := 27) (by decide) (by decide) ?_ ?_
      · refine Wp.run 2 (3, [(0, .ref 0), (1, .int (nI i)), (2, .int 2)], [.int 6, .int 2], (zsh ++ vs, mi, ml, (zmr g))) rfl ?_
        refine Wp.call (as := [.int 2, .int 6]) (rest := []) rfl rfl rfl rfl rfl (Nat.le_of_ble_eq_true rfl) (Nat.le_of_ble_eq_true rfl) rfl (by decide) (c_within_t hk) ?_
        rintro _ _ ⟨rfl, rfl⟩
        refine Wp.run 4 (17, [(0, .ref 0), (1, .int (nI i)), (2, .int 2)], [.int (nI i), .ref 1], (zsh ++ vs, mi, ml, (zmr g))) rfl ?_
        refine Wp.call (as := [.ref 1, .int (nI i)]) (rest := []) rfl rfl rfl rfl rfl (Nat.le_of_ble_eq_true rfl) (Nat.le_of_ble_eq_true rfl) rfl (by decide) (c_has_t (mi := mi) hn h6 hx9) ?_
        rintro _ _ ⟨rfl, rfl⟩
        refine Wp.run 5 (34, [(0, .ref 0), (1, .int (nI i)), (2, .int 2)], [.int (nI i), .ref 3], (zsh ++ vs, mi, ml, (zmr g))) rfl ?_
        refine Wp.ialn rfl (by decide) rfl (by omega) (by decide) ?_
        refine Wp.topi (y := 5) (ec) ?_
        refine Wp.run 3 (38, [(3, .int 5), (0, .ref 0), (1, .int (nI i)), (2, .int 2)], [.int 2, .int 5], (zsh ++ vs, mi, ml, (zmr g))) rfl ?_
        refine Wp.call (as := [.int 5, .int 2]) (rest := []) rfl rfl rfl rfl rfl (Nat.le_of_ble_eq_true rfl) (Nat.le_of_ble_eq_true rfl) rfl (by decide) (c_under_5_2) ?_
        rintro _ _ ⟨rfl, rfl⟩
        refine Wp.run 3 (50, [(3, .int 5), (0, .ref 0), (1, .int (nI i)), (2, .int 2)], [.int 5], (zsh ++ vs, mi, ml, (zmr g))) rfl ?_
        refine Wp.ret rfl rfl rfl ?_
        exact ⟨rfl, _, _, rfl, SC.rf, fun _ _ _ => rfl⟩
      · intro m g' I' e67 S
        have B' := I'.1.1
        have hn' := B'.2.1
        have hN' := B'.1.1
        have hd' := B'.1.2.2.1
        refine Wp.run 3 (4, [(0, .ref 66), (1, .int (nI i)), (2, .int 2)], [.int 6, .int 0, .int 2], (zsh ++ vs, m, ml, (zmr g'))) rfl ?_
        refine Wp.call (as := [.int 2, .int 0, .int 6]) (rest := []) rfl rfl rfl rfl rfl (Nat.le_of_ble_eq_true rfl) (Nat.le_of_ble_eq_true rfl) rfl (by decide) (m_isIn_t hk) ?_
        rintro _ _ ⟨rfl, rfl⟩
        refine Wp.run 3 (15, [(0, .ref 66), (1, .int (nI i)), (2, .int 2)], [.int (nI i), .ref 66], (zsh ++ vs, m, ml, (zmr g'))) rfl ?_
        refine Wp.call (as := [.ref 66, .int (nI i)]) (rest := []) rfl rfl rfl rfl rfl (Nat.le_of_ble_eq_true rfl) (Nat.le_of_ble_eq_true rfl) rfl (by decide) (m_isOne_t (mi := m) hN' h6 hx9) ?_
        rintro _ _ ⟨rfl, rfl⟩
        refine Wp.run 4 (27, [(0, .ref 66), (1, .int (nI i)), (2, .int 2)], [.int 0, .int (nI i), .ref 66], (zsh ++ vs, m, ml, (zmr g'))) rfl ?_
        refine Wp.call (as := [.ref 66, .int (nI i), .int 0]) (rest := []) rfl rfl rfl rfl rfl (Nat.le_of_ble_eq_true rfl) (Nat.le_of_ble_eq_true rfl) rfl (by decide) (m_one (mi := m) i 0 (by omega)) ?_
        rintro _ _ ⟨rfl, rfl⟩
        refine Wp.topi (y := 5) ((congrFun e67 _).trans es) ?_
        refine Wp.run 11 (47, [(3, .int 5), (0, .ref 66), (1, .int (nI i)), (2, .int 2)], [.int (m 79 5)], (zsh ++ vs, m, ml, (zmr g'))) rfl ?_
        refine Wp.topi (y := 2) (I'.2.2.2.2.2.2.2.2.1 5 (by decide)) ?_
        refine Wp.run 2 (31, [(3, .int 2), (0, .ref 66), (1, .int (nI i)), (2, .int 2)], [], (zsh ++ vs, m, ml, (zmr g'))) rfl ?_
        refine Wp.run 12 (59, [(3, .int 2), (0, .ref 66), (1, .int (nI i)), (2, .int 2)], [.int 0, .int (nI i), .ref 66], (zsh ++ vs, m, ml, (zmr g'))) rfl ?_
        refine Wp.call (as := [.ref 66, .int (nI i), .int 0]) (rest := []) rfl rfl rfl rfl rfl (Nat.le_of_ble_eq_true rfl) (Nat.le_of_ble_eq_true rfl) rfl (by decide) (m_one (mi := m) i 0 (by omega)) ?_
        rintro _ _ ⟨rfl, rfl⟩
        refine Wp.topi (y := 5) ((congrFun e67 _).trans es) ?_
        refine Wp.run 1 (67, [(3, .int 2), (0, .ref 66), (1, .int (nI i)), (2, .int 2)], [.int 5], (zsh ++ vs, m, ml, (zmr g'))) rfl ?_
        refine Wp.ret rfl rfl rfl ?_
        exact ⟨rfl, _, rfl, SC.rf⟩
    · refine SIM.q I (x := -12) (dc := 7) (dm := 27) (by decide) (by decide) ?_ ?_
      · refine Wp.run 2 (3, [(0, .ref 0), (1, .int (nI i)), (2, .int 3)], [.int 6, .int 3], (zsh ++ vs, mi, ml, (zmr g))) rfl ?_
        refine Wp.call (as := [.int 3, .int 6]) (rest := []) rfl rfl rfl rfl rfl (Nat.le_of_ble_eq_true rfl) (Nat.le_of_ble_eq_true rfl) rfl (by decide) (c_within_t hk) ?_
        rintro _ _ ⟨rfl, rfl⟩
        refine Wp.run 4 (17, [(0, .ref 0), (1, .int (nI i)), (2, .int 3)], [.int (nI i), .ref 1], (zsh ++ vs, mi, ml, (zmr g))) rfl ?_
        refine Wp.call (as := [.ref 1, .int (nI i)]) (rest := []) rfl rfl rfl rfl rfl (Nat.le_of_ble_eq_true rfl) (Nat.le_of_ble_eq_true rfl) rfl (by decide) (c_has_t (mi := mi) hn h6 hx9) ?_
        rintro _ _ ⟨rfl, rfl⟩
        refine Wp.run 5 (34, [(0, .ref 0), (1, .int (nI i)), (2, .int 3)], [.int (nI i), .ref 3], (zsh ++ vs, mi, ml, (zmr g))) rfl ?_
        refine Wp.ialn rfl (by decide) rfl (by omega) (by decide) ?_
        refine Wp.topi (y := 5) (ec) ?_
        refine Wp.run 3 (38, [(3, .int 5), (0, .ref 0), (1, .int (nI i)), (2, .int 3)], [.int 3, .int 5], (zsh ++ vs, mi, ml, (zmr g))) rfl ?_
        refine Wp.call (as := [.int 5, .int 3]) (rest := []) rfl rfl rfl rfl rfl (Nat.le_of_ble_eq_true rfl) (Nat.le_of_ble_eq_true rfl) rfl (by decide) (c_under_5_3) ?_
        rintro _ _ ⟨rfl, rfl⟩
        refine Wp.run 2 (50, [(3, .int 5), (0, .ref 0), (1, .int (nI i)), (2, .int 3)], [.int (-12)], (zsh ++ vs, mi, ml, (zmr g))) rfl ?_
        refine Wp.ret rfl rfl rfl ?_
        exact ⟨rfl, _, _, rfl, SC.rf, fun _ _ _ => rfl⟩
      · intro m g' I' e67 S
        have B' := I'.1.1
        have hn' := B'.2.1
        have hN' := B'.1.1
        have hd' := B'.1.2.2.1
        refine Wp.run 3 (4, [(0, .ref 66), (1, .int (nI i)), (2, .int 3)], [.int 6, .int 0, .int 3], (zsh ++ vs, m, ml, (zmr g'))) rfl ?_
        refine Wp.call (as := [.int 3, .int 0, .int 6]) (rest := []) rfl rfl rfl rfl rfl (Nat.le_of_ble_eq_true rfl) (Nat.le_of_ble_eq_true rfl) rfl (by decide) (m_isIn_t hk) ?_
        rintro _ _ ⟨rfl, rfl⟩
        refine Wp.run 3 (15, [(0, .ref 66), (1, .int (nI i)), (2, .int 3)], [.int (nI i), .ref 66], (zsh ++ vs, m, ml, (zmr g'))) rfl ?_
        refine Wp.call (as := [.ref 66, .int (nI i)]) (rest := []) rfl rfl rfl rfl rfl (Nat.le_of_ble_eq_true rfl) (Nat.le_of_ble_eq_true rfl) rfl (by decide) (m_isOne_t (mi := m) hN' h6 hx9) ?_
        rintro _ _ ⟨rfl, rfl⟩
        refine Wp.run 4 (27, [(0, .ref 66), (1, .int (nI i)), (2, .int 3)], [.int 0, .int (nI i), .ref 66], (zsh ++ vs, m, ml, (zmr g'))) rfl ?_
        refine Wp.call (as := [.ref 66, .int (nI i), .int 0]) (rest := []) rfl rfl rfl rfl rfl (Nat.le_of_ble_eq_true rfl) (Nat.le_of_ble_eq_true rfl) rfl (by decide) (m_one (mi := m) i 0 (by omega)) ?_
        rintro _ _ ⟨rfl, rfl⟩
        refine Wp.topi (y := 5) ((congrFun e67 _).trans es) ?_
        refine Wp.run 11 (47, [(3, .int 5), (0, .ref 66), (1, .int (nI i)), (2, .int 3)], [.int (m 79 5)], (zsh ++ vs, m, ml, (zmr g'))) rfl ?_
        refine Wp.topi (y := 2) (I'.2.2.2.2.2.2.2.2.1 5 (by decide)) ?_
        refine Wp.run 2 (31, [(3, .int 2), (0, .ref 66), (1, .int (nI i)), (2, .int 3)], [], (zsh ++ vs, m, ml, (zmr g'))) rfl ?_
        refine Wp.run 10 (47, [(3, .int 2), (0, .ref 66), (1, .int (nI i)), (2, .int 3)], [.int (m 79 2)], (zsh ++ vs, m, ml, (zmr g'))) rfl ?_
        refine Wp.topi (y := 0) (I'.2.2.2.2.2.2.2.2.1 2 (by decide)) ?_
        refine Wp.run 2 (31, [(3, .int 0), (0, .ref 66), (1, .int (nI i)), (2, .int 3)], [], (zsh ++ vs, m, ml, (zmr g'))) rfl ?_
        refine Wp.run 10 (47, [(3, .int 0), (0, .ref 66), (1, .int (nI i)), (2, .int 3)], [.int (m 79 0)], (zsh ++ vs, m, ml, (zmr g'))) rfl ?_
        refine Wp.topi (y := -1) (I'.2.2.2.2.2.2.2.2.1 0 (by decide)) ?_
        refine Wp.run 2 (31, [(3, .int (-1)), (0, .ref 66), (1, .int (nI i)), (2, .int 3)], [], (zsh ++ vs, m, ml, (zmr g'))) rfl ?_
        refine Wp.run 7 (67, [(3, .int (-1)), (0, .ref 66), (1, .int (nI i)), (2, .int 3)], [.int (-12)], (zsh ++ vs, m, ml, (zmr g'))) rfl ?_
        refine Wp.ret rfl rfl rfl ?_
        exact ⟨rfl, _, rfl, SC.rf⟩
    · refine SIM.q I (x := -12) (dc := 7) (dm := 27) (by decide) (by decide) ?_ ?_
      · refine Wp.run 2 (3, [(0, .ref 0), (1, .int (nI i)), (2, .int 4)], [.int 6, .int 4], (zsh ++ vs, mi, ml, (zmr g))) rfl ?_
        refine Wp.call (as := [.int 4, .int 6]) (rest := []) rfl rfl rfl rfl rfl (Nat.le_of_ble_eq_true rfl) (Nat.le_of_ble_eq_true rfl) rfl (by decide) (c_within_t hk) ?_
        rintro _ _ ⟨rfl, rfl⟩
        refine Wp.run 4 (17, [(0, .ref 0), (1, .int (nI i)), (2, .int 4)], [.int (nI i), .ref 1], (zsh ++ vs, mi, ml, (zmr g))) rfl ?_
        refine Wp.call (as := [.ref 1, .int (nI i)]) (rest := []) rfl rfl rfl rfl rfl (Nat.le_of_ble_eq_true rfl) (Nat.le_of_ble_eq_true rfl) rfl (by decide) (c_has_t (mi := mi) hn h6 hx9) ?_
        rintro _ _ ⟨rfl, rfl⟩
        refine Wp.run 5 (34, [(0, .ref 0), (1, .int (nI i)), (2, .int 4)], [.int (nI i), .ref 3], (zsh ++ vs, mi, ml, (zmr g))) rfl ?_
        refine Wp.ialn rfl (by decide) rfl (by omega) (by decide) ?_
        refine Wp.topi (y := 5) (ec) ?_
        refine Wp.run 3 (38, [(3, .int 5), (0, .ref 0), (1, .int (nI i)), (2, .int 4)], [.int 4, .int 5], (zsh ++ vs, mi, ml, (zmr g))) rfl ?_
        refine Wp.call (as := [.int 5, .int 4]) (rest := []) rfl rfl rfl rfl rfl (Nat.le_of_ble_eq_true rfl) (Nat.le_of_ble_eq_true rfl) rfl (by decide) (c_under_5_4) ?_
        rintro _ _ ⟨rfl, rfl⟩
        refine Wp.run 2 (50, [(3, .int 5), (0, .ref 0), (1, .int (nI i)), (2, .int 4)], [.int (-12)], (zsh ++ vs, mi, ml, (zmr g))) rfl ?_
        refine Wp.ret rfl rfl rfl ?_
        exact ⟨rfl, _, _, rfl, SC.rf, fun _ _ _ => rfl⟩
      · intro m g' I' e67 S
        have B' := I'.1.1
        have hn' := B'.2.1
        have hN' := B'.1.1
        have hd' := B'.1.2.2.1
        refine Wp.run 3 (4, [(0, .ref 66), (1, .int (nI i)), (2, .int 4)], [.int 6, .int 0, .int 4], (zsh ++ vs, m, ml, (zmr g'))) rfl ?_
        refine Wp.call (as := [.int 4, .int 0, .int 6]) (rest := []) rfl rfl rfl rfl rfl (Nat.le_of_ble_eq_true rfl) (Nat.le_of_ble_eq_true rfl) rfl (by decide) (m_isIn_t hk) ?_
        rintro _ _ ⟨rfl, rfl⟩
        refine Wp.run 3 (15, [(0, .ref 66), (1, .int (nI i)), (2, .int 4)], [.int (nI i), .ref 66], (zsh ++ vs, m, ml, (zmr g'))) rfl ?_
        refine Wp.call (as := [.ref 66, .int (nI i)]) (rest := []) rfl rfl rfl rfl rfl (Nat.le_of_ble_eq_true rfl) (Nat.le_of_ble_eq_true rfl) rfl (by decide) (m_isOne_t (mi := m) hN' h6 hx9) ?_
        rintro _ _ ⟨rfl, rfl⟩
        refine Wp.run 4 (27, [(0, .ref 66), (1, .int (nI i)), (2, .int 4)], [.int 0, .int (nI i), .ref 66], (zsh ++ vs, m, ml, (zmr g'))) rfl ?_
        refine Wp.call (as := [.ref 66, .int (nI i), .int 0]) (rest := []) rfl rfl rfl rfl rfl (Nat.le_of_ble_eq_true rfl) (Nat.le_of_ble_eq_true rfl) rfl (by decide) (m_one (mi := m) i 0 (by omega)) ?_
        rintro _ _ ⟨rfl, rfl⟩
        refine Wp.topi (y := 5) ((congrFun e67 _).trans es) ?_
        refine Wp.run 11 (47, [(3, .int 5), (0, .ref 66), (1, .int (nI i)), (2, .int 4)], [.int (m 79 5)], (zsh ++ vs, m, ml, (zmr g'))) rfl ?_
        refine Wp.topi (y := 2) (I'.2.2.2.2.2.2.2.2.1 5 (by decide)) ?_
        refine Wp.run 2 (31, [(3, .int 2), (0, .ref 66), (1, .int (nI i)), (2, .int 4)], [], (zsh ++ vs, m, ml, (zmr g'))) rfl ?_
        refine Wp.run 10 (47, [(3, .int 2), (0, .ref 66), (1, .int (nI i)), (2, .int 4)], [.int (m 79 2)], (zsh ++ vs, m, ml, (zmr g'))) rfl ?_
        refine Wp.topi (y := 0) (I'.2.2.2.2.2.2.2.2.1 2 (by decide)) ?_
        refine Wp.run 2 (31, [(3, .int 0), (0, .ref 66), (1, .int (nI i)), (2, .int 4)], [], (zsh ++ vs, m, ml, (zmr g'))) rfl ?_
        refine Wp.run 10 (47, [(3, .int 0), (0, .ref 66), (1, .int (nI i)), (2, .int 4)], [.int (m 79 0)], (zsh ++ vs, m, ml, (zmr g'))) rfl ?_
        refine Wp.topi (y := -1) (I'.2.2.2.2.2.2.2.2.1 0 (by decide)) ?_
        refine Wp.run 2 (31, [(3, .int (-1)), (0, .ref 66), (1, .int (nI i)), (2, .int 4)], [], (zsh ++ vs, m, ml, (zmr g'))) rfl ?_
        refine Wp.run 7 (67, [(3, .int (-1)), (0, .ref 66), (1, .int (nI i)), (2, .int 4)], [.int (-12)], (zsh ++ vs, m, ml, (zmr g'))) rfl ?_
        refine Wp.ret rfl rfl rfl ?_
        exact ⟨rfl, _, rfl, SC.rf⟩
    · refine SIM.q I (x := 5) (dc := 7) (dm := 27) (by decide) (by decide) ?_ ?_
      · refine Wp.run 2 (3, [(0, .ref 0), (1, .int (nI i)), (2, .int 5)], [.int 6, .int 5], (zsh ++ vs, mi, ml, (zmr g))) rfl ?_
        refine Wp.call (as := [.int 5, .int 6]) (rest := []) rfl rfl rfl rfl rfl (Nat.le_of_ble_eq_true rfl) (Nat.le_of_ble_eq_true rfl) rfl (by decide) (c_within_t hk) ?_
        rintro _ _ ⟨rfl, rfl⟩
        refine Wp.run 4 (17, [(0, .ref 0), (1, .int (nI i)), (2, .int 5)], [.int (nI i), .ref 1], (zsh ++ vs, mi, ml, (zmr g))) rfl ?_
        refine Wp.call (as := [.ref 1, .int (nI i)]) (rest := []) rfl rfl rfl rfl rfl (Nat.le_of_ble_eq_true rfl) (Nat.le_of_ble_eq_true rfl) rfl (by decide) (c_has_t (mi := mi) hn h6 hx9) ?_
        rintro _ _ ⟨rfl, rfl⟩
        refine Wp.run 5 (34, [(0, .ref 0), (1, .int (nI i)), (2, .int 5)], [.int (nI i), .ref 3], (zsh ++ vs, mi, ml, (zmr g))) rfl ?_
        refine Wp.ialn rfl (by decide) rfl (by omega) (by decide) ?_
        refine Wp.topi (y := 5) (ec) ?_
        refine Wp.run 3 (38, [(3, .int 5), (0, .ref 0), (1, .int (nI i)), (2, .int 5)], [.int 5, .int 5], (zsh ++ vs, mi, ml, (zmr g))) rfl ?_
        refine Wp.call (as := [.int 5, .int 5]) (rest := []) rfl rfl rfl rfl rfl (Nat.le_of_ble_eq_true rfl) (Nat.le_of_ble_eq_true rfl) rfl (by decide) (c_under_5_5) ?_
        rintro _ _ ⟨rfl, rfl⟩
        refine Wp.run 3 (50, [(3, .int 5), (0, .ref 0), (1, .int (nI i)), (2, .int 5)], [.int 5], (zsh ++ vs, mi, ml, (zmr g))) rfl ?_
        refine Wp.ret rfl rfl rfl ?_
        exact ⟨rfl, _, _, rfl, SC.rf, fun _ _ _ => rfl⟩
      · intro m g' I' e67 S
        have B' := I'.1.1
        have hn' := B'.2.1
        have hN' := B'.1.1
        have hd' := B'.1.2.2.1
        refine Wp.run 3 (4, [(0, .ref 66), (1, .int (nI i)), (2, .int 5)], [.int 6, .int 0, .int 5], (zsh ++ vs, m, ml, (zmr g'))) rfl ?_
        refine Wp.call (as := [.int 5, .int 0, .int 6]) (rest := []) rfl rfl rfl rfl rfl (Nat.le_of_ble_eq_true rfl) (Nat.le_of_ble_eq_true rfl) rfl (by decide) (m_isIn_t hk) ?_
        rintro _ _ ⟨rfl, rfl⟩
        refine Wp.run 3 (15, [(0, .ref 66), (1, .int (nI i)), (2, .int 5)], [.int (nI i), .ref 66], (zsh ++ vs, m, ml, (zmr g'))) rfl ?_
        refine Wp.call (as := [.ref 66, .int (nI i)]) (rest := []) rfl rfl rfl rfl rfl (Nat.le_of_ble_eq_true rfl) (Nat.le_of_ble_eq_true rfl) rfl (by decide) (m_isOne_t (mi := m) hN' h6 hx9) ?_
        rintro _ _ ⟨rfl, rfl⟩
        refine Wp.run 4 (27, [(0, .ref 66), (1, .int (nI i)), (2, .int 5)], [.int 0, .int (nI i), .ref 66], (zsh ++ vs, m, ml, (zmr g'))) rfl ?_
        refine Wp.call (as := [.ref 66, .int (nI i), .int 0]) (rest := []) rfl rfl rfl rfl rfl (Nat.le_of_ble_eq_true rfl) (Nat.le_of_ble_eq_true rfl) rfl (by decide) (m_one (mi := m) i 0 (by omega)) ?_
        rintro _ _ ⟨rfl, rfl⟩
        refine Wp.topi (y := 5) ((congrFun e67 _).trans es) ?_
        refine Wp.run 13 (59, [(3, .int 5), (0, .ref 66), (1, .int (nI i)), (2, .int 5)], [.int 0, .int (nI i), .ref 66], (zsh ++ vs, m, ml, (zmr g'))) rfl ?_
        refine Wp.call (as := [.ref 66, .int (nI i), .int 0]) (rest := []) rfl rfl rfl rfl rfl (Nat.le_of_ble_eq_true rfl) (Nat.le_of_ble_eq_true rfl) rfl (by decide) (m_one (mi := m) i 0 (by omega)) ?_
        rintro _ _ ⟨rfl, rfl⟩
        refine Wp.topi (y := 5) ((congrFun e67 _).trans es) ?_
        refine Wp.run 1 (67, [(3, .int 5), (0, .ref 66), (1, .int (nI i)), (2, .int 5)], [.int 5], (zsh ++ vs, m, ml, (zmr g'))) rfl ?_
        refine Wp.ret rfl rfl rfl ?_
        exact ⟨rfl, _, rfl, SC.rf⟩
    · refine SIM.q I (x := -12) (dc := 7) (dm := 27) (by decide) (by decide) ?_ ?_
      · refine Wp.run 2 (3, [(0, .ref 0), (1, .int (nI i)), (2, .int 6)], [.int 6, .int 6], (zsh ++ vs, mi, ml, (zmr g))) rfl ?_
        refine Wp.call (as := [.int 6, .int 6]) (rest := []) rfl rfl rfl rfl rfl (Nat.le_of_ble_eq_true rfl) (Nat.le_of_ble_eq_true rfl) rfl (by decide) (c_within_t hk) ?_
        rintro _ _ ⟨rfl, rfl⟩
        refine Wp.run 4 (17, [(0, .ref 0), (1, .int (nI i)), (2, .int 6)], [.int (nI i), .ref 1], (zsh ++ vs, mi, ml, (zmr g))) rfl ?_
        refine Wp.call (as := [.ref 1, .int (nI i)]) (rest := []) rfl rfl rfl rfl rfl (Nat.le_of_ble_eq_true rfl) (Nat.le_of_ble_eq_true rfl) rfl (by decide) (c_has_t (mi := mi) hn h6 hx9) ?_
        rintro _ _ ⟨rfl, rfl⟩
        refine Wp.run 5 (34, [(0, .ref 0), (1, .int (nI i)), (2, .int 6)], [.int (nI i), .ref 3], (zsh ++ vs, mi, ml, (zmr g))) rfl ?_
        refine Wp.ialn rfl (by decide) rfl (by omega) (by decide) ?_
        refine Wp.topi (y := 5) (ec) ?_
        refine Wp.run 3 (38, [(3, .int 5), (0, .ref 0), (1, .int (nI i)), (2, .int 6)], [.int 6, .int 5], (zsh ++ vs, mi, ml, (zmr g))) rfl ?_
        refine Wp.call (as := [.int 5, .int 6]) (rest := []) rfl rfl rfl rfl rfl (Nat.le_of_ble_eq_true rfl) (Nat.le_of_ble_eq_true rfl) rfl (by decide) (c_under_5_6) ?_
        rintro _ _ ⟨rfl, rfl⟩
        refine Wp.run 2 (50, [(3, .int 5), (0, .ref 0), (1, .int (nI i)), (2, .int 6)], [.int (-12)], (zsh ++ vs, mi, ml, (zmr g))) rfl ?_
        refine Wp.ret rfl rfl rfl ?_
        exact ⟨rfl, _, _, rfl, SC.rf, fun _ _ _ => rfl⟩
      · intro m g' I' e67 S
        have B' := I'.1.1
        have hn' := B'.2.1
        have hN' := B'.1.1
        have hd' := B'.1.2.2.1
        refine Wp.run 3 (4, [(0, .ref 66), (1, .int (nI i)), (2, .int 6)], [.int 6, .int 0, .int 6], (zsh ++ vs, m, ml, (zmr g'))) rfl ?_
        refine Wp.call (as := [.int 6, .int 0, .int 6]) (rest := []) rfl rfl rfl rfl rfl (Nat.le_of_ble_eq_true rfl) (Nat.le_of_ble_eq_true rfl) rfl (by decide) (m_isIn_t hk) ?_
        rintro _ _ ⟨rfl, rfl⟩
        refine Wp.run 3 (15, [(0, .ref 66), (1, .int (nI i)), (2, .int 6)], [.int (nI i), .ref 66], (zsh ++ vs, m, ml, (zmr g'))) rfl ?_
        refine Wp.call (as := [.ref 66, .int (nI i)]) (rest := []) rfl rfl rfl rfl rfl (Nat.le_of_ble_eq_true rfl) (Nat.le_of_ble_eq_true rfl) rfl (by decide) (m_isOne_t (mi := m) hN' h6 hx9) ?_
        rintro _ _ ⟨rfl, rfl⟩
        refine Wp.run 4 (27, [(0, .ref 66), (1, .int (nI i)), (2, .int 6)], [.int 0, .int (nI i), .ref 66], (zsh ++ vs, m, ml, (zmr g'))) rfl ?_
        refine Wp.call (as := [.ref 66, .int (nI i), .int 0]) (rest := []) rfl rfl rfl rfl rfl (Nat.le_of_ble_eq_true rfl) (Nat.le_of_ble_eq_true rfl) rfl (by decide) (m_one (mi := m) i 0 (by omega)) ?_
        rintro _ _ ⟨rfl, rfl⟩
        refine Wp.topi (y := 5) ((congrFun e67 _).trans es) ?_
        refine Wp.run 11 (47, [(3, .int 5), (0, .ref 66), (1, .int (nI i)), (2, .int 6)], [.int (m 79 5)], (zsh ++ vs, m, ml, (zmr g'))) rfl ?_
        refine Wp.topi (y := 2) (I'.2.2.2.2.2.2.2.2.1 5 (by decide)) ?_
        refine Wp.run 2 (31, [(3, .int 2), (0, .ref 66), (1, .int (nI i)), (2, .int 6)], [], (zsh ++ vs, m, ml, (zmr g'))) rfl ?_
        refine Wp.run 10 (47, [(3, .int 2), (0, .ref 66), (1, .int (nI i)), (2, .int 6)], [.int (m 79 2)], (zsh ++ vs, m, ml, (zmr g'))) rfl ?_
        refine Wp.topi (y := 0) (I'.2.2.2.2.2.2.2.2.1 2 (by decide)) ?_
        refine Wp.run 2 (31, [(3, .int 0), (0, .ref 66), (1, .int (nI i)), (2, .int 6)], [], (zsh ++ vs, m, ml, (zmr g'))) rfl ?_
        refine Wp.run 10 (47, [(3, .int 0), (0, .ref 66), (1, .int (nI i)), (2, .int 6)], [.int (m 79 0)], (zsh ++ vs, m, ml, (zmr g'))) rfl ?_
        refine Wp.topi (y := -1) (I'.2.2.2.2.2.2.2.2.1 0 (by decide)) ?_
        refine Wp.run 2 (31, [(3, .int (-1)), (0, .ref 66), (1, .int (nI i)), (2, .int 6)], [], (zsh ++ vs, m, ml, (zmr g'))) rfl ?_
        refine Wp.run 7 (67, [(3, .int (-1)), (0, .ref 66), (1, .int (nI i)), (2, .int 6)], [.int (-12)], (zsh ++ vs, m, ml, (zmr g'))) rfl ?_
        refine Wp.ret rfl rfl rfl ?_
        exact ⟨rfl, _, rfl, SC.rf⟩
  · rcases (show q = 0 ∨ q = 1 ∨ q = 2 ∨ q = 3 ∨ q = 4 ∨ q = 5 ∨ q = 6 by omega) with rfl | rfl | rfl | rfl | rfl | rfl | rfl
    · refine SIM.q I (x := 6) (dc := 7) (dm := 27) (by decide) (by decide) ?_ ?_
      · refine Wp.run 2 (3, [(0, .ref 0), (1, .int (nI i)), (2, .int 0)], [.int 6, .int 0], (zsh ++ vs, mi, ml, (zmr g))) rfl ?_
        refine Wp.call (as := [.int 0, .int 6]) (rest := []) rfl rfl rfl rfl rfl (Nat.le_of_ble_eq_true rfl) (Nat.le_of_ble_eq_true rfl) rfl (by decide) (c_within_t hk) ?_
        rintro _ _ ⟨rfl, rfl⟩
        refine Wp.run 4 (17, [(0, .ref 0), (1, .int (nI i)), (2, .int 0)], [.int (nI i), .ref 1], (zsh ++ vs, mi, ml, (zmr g))) rfl ?_
        refine Wp.call (as := [.ref 1, .int (nI i)]) (rest := []) rfl rfl rfl rfl rfl (Nat.le_of_ble_eq_true rfl) (Nat.le_of_ble_eq_true rfl) rfl (by decide) (c_has_t (mi := mi) hn h6 hx9) ?_
        rintro _ _ ⟨rfl, rfl⟩
        refine Wp.run 5 (34, [(0, .ref 0), (1, .int (nI i)), (2, .int 0)], [.int (nI i), .ref 3], (zsh ++ vs, mi, ml, (zmr g))) rfl ?_
        refine Wp.ialn rfl (by decide) rfl (by omega) (by decide) ?_
        refine Wp.topi (y := 6) (ec) ?_
        refine Wp.run 3 (38, [(3, .int 6), (0, .ref 0), (1, .int (nI i)), (2, .int 0)], [.int 0, .int 6], (zsh ++ vs, mi, ml, (zmr g))) rfl ?_
        refine Wp.call (as := [.int 6, .int 0]) (rest := []) rfl rfl rfl rfl rfl (Nat.le_of_ble_eq_true rfl) (Nat.le_of_ble_eq_true rfl) rfl (by decide) (c_under_6_0) ?_
        rintro _ _ ⟨rfl, rfl⟩
        refine Wp.run 3 (50, [(3, .int 6), (0, .ref 0), (1, .int (nI i)), (2, .int 0)], [.int 6], (zsh ++ vs, mi, ml, (zmr g))) rfl ?_
        refine Wp.ret rfl rfl rfl ?_
        exact ⟨rfl, _, _, rfl, SC.rf, fun _ _ _ => rfl⟩
      · intro m g' I' e67 S
        have B' := I'.1.1
        have hn' := B'.2.1
        have hN' := B'.1.1
        have hd' := B'.1.2.2.1
        refine Wp.run 3 (4, [(0, .ref 66), (1, .int (nI i)), (2, .int 0)], [.int 6, .int 0, .int 0], (zsh ++ vs, m, ml, (zmr g'))) rfl ?_
        refine Wp.call (as := [.int 0, .int 0, .int 6]) (rest := []) rfl rfl rfl rfl rfl (Nat.le_of_ble_eq_true rfl) (Nat.le_of_ble_eq_true rfl) rfl (by decide) (m_isIn_t hk) ?_
        rintro _ _ ⟨rfl, rfl⟩
        refine Wp.run 3 (15, [(0, .ref 66), (1, .int (nI i)), (2, .int 0)], [.int (nI i), .ref 66], (zsh ++ vs, m, ml, (zmr g'))) rfl ?_
        refine Wp.call (as := [.ref 66, .int (nI i)]) (rest := []) rfl rfl rfl rfl rfl (Nat.le_of_ble_eq_true rfl) (Nat.le_of_ble_eq_true rfl) rfl (by decide) (m_isOne_t (mi := m) hN' h6 hx9) ?_
        rintro _ _ ⟨rfl, rfl⟩
        refine Wp.run 4 (27, [(0, .ref 66), (1, .int (nI i)), (2, .int 0)], [.int 0, .int (nI i), .ref 66], (zsh ++ vs, m, ml, (zmr g'))) rfl ?_
        refine Wp.call (as := [.ref 66, .int (nI i), .int 0]) (rest := []) rfl rfl rfl rfl rfl (Nat.le_of_ble_eq_true rfl) (Nat.le_of_ble_eq_true rfl) rfl (by decide) (m_one (mi := m) i 0 (by omega)) ?_
        rintro _ _ ⟨rfl, rfl⟩
        refine Wp.topi (y := 6) ((congrFun e67 _).trans es) ?_
        refine Wp.run 11 (47, [(3, .int 6), (0, .ref 66), (1, .int (nI i)), (2, .int 0)], [.int (m 79 6)], (zsh ++ vs, m, ml, (zmr g'))) rfl ?_
        refine Wp.topi (y := 3) (I'.2.2.2.2.2.2.2.2.1 6 (by decide)) ?_
        refine Wp.run 2 (31, [(3, .int 3), (0, .ref 66), (1, .int (nI i)), (2, .int 0)], [], (zsh ++ vs, m, ml, (zmr g'))) rfl ?_
        refine Wp.run 10 (47, [(3, .int 3), (0, .ref 66), (1, .int (nI i)), (2, .int 0)], [.int (m 79 3)], (zsh ++ vs, m, ml, (zmr g'))) rfl ?_
        refine Wp.topi (y := 0) (I'.2.2.2.2.2.2.2.2.1 3 (by decide)) ?_
        refine Wp.run 2 (31, [(3, .int 0), (0, .ref 66), (1, .int (nI i)), (2, .int 0)], [], (zsh ++ vs, m, ml, (zmr g'))) rfl ?_
        refine Wp.run 12 (59, [(3, .int 0), (0, .ref 66), (1, .int (nI i)), (2, .int 0)], [.int 0, .int (nI i), .ref 66], (zsh ++ vs, m, ml, (zmr g'))) rfl ?_
        refine Wp.call (as := [.ref 66, .int (nI i), .int 0]) (rest := []) rfl rfl rfl rfl rfl (Nat.le_of_ble_eq_true rfl) (Nat.le_of_ble_eq_true rfl) rfl (by decide) (m_one (mi := m) i 0 (by omega)) ?_
        rintro _ _ ⟨rfl, rfl⟩
        refine Wp.topi (y := 6) ((congrFun e67 _).trans es) ?_
        refine Wp.run 1 (67, [(3, .int 0), (0, .ref 66), (1, .int (nI i)), (2, .int 0)], [.int 6], (zsh ++ vs, m, ml, (zmr g'))) rfl ?_
        refine Wp.ret rfl rfl rfl ?_
        exact ⟨rfl, _, rfl, SC.rf⟩
    · refine SIM.q I (x := -12) (dc := 7) (dm := 27) (by decide) (by decide) ?_ ?_
      · refine Wp.run 2 (3, [(0, .ref 0), (1, .int (nI i)), (2, .int 1)], [.int 6, .int 1], (zsh ++ vs, mi, ml, (zmr g))) rfl ?_
        refine Wp.call (as := [.int 1, .int 6]) (rest := []) rfl rfl rfl rfl rfl (Nat.le_of_ble_eq_true rfl) (Nat.le_of_ble_eq_true rfl) rfl (by decide) (c_within_t hk) ?_
        rintro _ _ ⟨rfl, rfl⟩
        refine Wp.run 4 (17, [(0, .ref 0), (1, .int (nI i)), (2, .int 1)], [.int (nI i), .ref 1], (zsh ++ vs, mi, ml, (zmr g))) rfl ?_
        refine Wp.call (as := [.ref 1, .int (nI i)]) (rest := []) rfl rfl rfl rfl rfl (Nat.le_of_ble_eq_true rfl) (Nat.le_of_ble_eq_true rfl) rfl (by decide) (c_has_t (mi := mi) hn h6 hx9) ?_
        rintro _ _ ⟨rfl, rfl⟩
        refine Wp.run 5 (34, [(0, .ref 0), (1, .int (nI i)), (2, .int 1)], [.int (nI i), .ref 3], (zsh ++ vs, mi, ml, (zmr g))) rfl ?_
        refine Wp.ialn rfl (by decide) rfl (by omega) (by decide) ?_
        refine Wp.topi (y := 6) (ec) ?_
        refine Wp.run 3 (38, [(3, .int 6), (0, .ref 0), (1, .int (nI i)), (2, .int 1)], [.int 1, .int 6], (zsh ++ vs, mi, ml, (zmr g))) rfl ?_
        refine Wp.call (as := [.int 6, .int 1]) (rest := []) rfl rfl rfl rfl rfl (Nat.le_of_ble_eq_true rfl) (Nat.le_of_ble_eq_true rfl) rfl (by decide) (c_under_6_1) ?_
        rintro _ _ ⟨rfl, rfl⟩
        refine Wp.run 2 (50, [(3, .int 6), (0, .ref 0), (1, .int (nI i)), (2, .int 1)], [.int (-12)], (zsh ++ vs, mi, ml, (zmr g))) rfl ?_
        refine Wp.ret rfl rfl rfl ?_
        exact ⟨rfl, _, _, rfl, SC.rf, fun _ _ _ => rfl⟩
      · intro m g' I' e67 S
        have B' := I'.1.1
        have hn' := B'.2.1
        have hN' := B'.1.1
        have hd' := B'.1.2.2.1
        refine Wp.run 3 (4, [(0, .ref 66), (1, .int (nI i)), (2, .int 1)], [.int 6, .int 0, .int 1], (zsh ++ vs, m, ml, (zmr g'))) rfl ?_
        refine Wp.call (as := [.int 1, .int 0, .int 6]) (rest := []) rfl rfl rfl rfl rfl (Nat.le_of_ble_eq_true rfl) (Nat.le_of_ble_eq_true rfl) rfl (by decide) (m_isIn_t hk) ?_
        rintro _ _ ⟨rfl, rfl⟩
        refine Wp.run 3 (15, [(0, .ref 66), (1, .int (nI i)), (2, .int 1)], [.int (nI i), .ref 66], (zsh ++ vs, m, ml, (zmr g'))) rfl ?_
        refine Wp.call (as := [.ref 66, .int (nI i)]) (rest := []) rfl rfl rfl rfl rfl (Nat.le_of_ble_eq_true rfl) (Nat.le_of_ble_eq_true rfl) rfl (by decide) (m_isOne_t (mi := m) hN' h6 hx9) ?_
        rintro _ _ ⟨rfl, rfl⟩
        refine Wp.run 4 (27, [(0, .ref 66), (1, .int (nI i)), (2, .int 1)], [.int 0, .int (nI i), .ref 66], (zsh ++ vs, m, ml, (zmr g'))) rfl ?_
        refine Wp.call (as := [.ref 66, .int (nI i), .int 0]) (rest := []) rfl rfl rfl rfl rfl (Nat.le_of_ble_eq_true rfl) (Nat.le_of_ble_eq_true rfl) rfl (by decide) (m_one (mi := m) i 0 (by omega)) ?_
        rintro _ _ ⟨rfl, rfl⟩
        refine Wp.topi (y := 6) ((congrFun e67 _).trans es) ?_
        refine Wp.run 11 (47, [(3, .int 6), (0, .ref 66), (1, .int (nI i)), (2, .int 1)], [.int (m 79 6)], (zsh ++ vs, m, ml, (zmr g'))) rfl ?_
        refine Wp.topi (y := 3) (I'.2.2.2.2.2.2.2.2.1 6 (by decide)) ?_
        refine Wp.run 2 (31, [(3, .int 3), (0, .ref 66), (1, .int (nI i)), (2, .int 1)], [], (zsh ++ vs, m, ml, (zmr g'))) rfl ?_
        refine Wp.run 10 (47, [(3, .int 3), (0, .ref 66), (1, .int (nI i)), (2, .int 1)], [.int (m 79 3)], (zsh ++ vs, m, ml, (zmr g'))) rfl ?_
        refine Wp.topi (y := 0) (I'.2.2.2.2.2.2.2.2.1 3 (by decide)) ?_
        refine Wp.run 2 (31, [(3, .int 0), (0, .ref 66), (1, .int (nI i)), (2, .int 1)], [], (zsh ++ vs, m, ml, (zmr g'))) rfl ?_
        refine Wp.run 10 (47, [(3, .int 0), (0, .ref 66), (1, .int (nI i)), (2, .int 1)], [.int (m 79 0)], (zsh ++ vs, m, ml, (zmr g'))) rfl ?_
        refine Wp.topi (y := -1) (I'.2.2.2.2.2.2.2.2.1 0 (by decide)) ?_
        refine Wp.run 2 (31, [(3, .int (-1)), (0, .ref 66), (1, .int (nI i)), (2, .int 1)], [], (zsh ++ vs, m, ml, (zmr g'))) rfl ?_
        refine Wp.run 7 (67, [(3, .int (-1)), (0, .ref 66), (1, .int (nI i)), (2, .int 1)], [.int (-12)], (zsh ++ vs, m, ml, (zmr g'))) rfl ?_
        refine Wp.ret rfl rfl rfl ?_
        exact ⟨rfl, _, rfl, SC.rf⟩
    · refine SIM.q I (x := -12) (dc := 7) (dm := 27) (by decide) (by decide) ?_ ?_
      · refine Wp.run 2 (3, [(0, .ref 0), (1, .int (nI i)), (2, .int 2)], [.int 6, .int 2], (zsh ++ vs, mi, ml, (zmr g))) rfl ?_
        refine Wp.call (as := [.int 2, .int 6]) (rest := []) rfl rfl rfl rfl rfl (Nat.le_of_ble_eq_true rfl) (Nat.le_of_ble_eq_true rfl) rfl (by decide) (c_within_t hk) ?_
        rintro _ _ ⟨rfl, rfl⟩
        refine Wp.run 4 (17, [(0, .ref 0), (1, .int (nI i)), (2, .int 2)], [.int (nI i), .ref 1], (zsh ++ vs, mi, ml, (zmr g))) rfl ?_
        refine Wp.call (as := [.ref 1, .int (nI i)]) (rest := []) rfl rfl rfl rfl rfl (Nat.le_of_ble_eq_true rfl) (Nat.le_of_ble_eq_true rfl) rfl (by decide) (c_has_t (mi := mi) hn h6 hx9) ?_
        rintro _ _ ⟨rfl, rfl⟩
        refine Wp.run 5 (34, [(0, .ref 0), (1, .int (nI i)), (2, .int 2)], [.int (nI i), .ref 3], (zsh ++ vs, mi, ml, (zmr g))) rfl ?_
        refine Wp.ialn rfl (by decide) rfl (by omega) (by decide) ?_
        refine Wp.topi (y := 6) (ec) ?_
        refine Wp.run 3 (38, [(3, .int 6), (0, .ref 0), (1, .int (nI i)), (2, .int 2)], [.int 2, .int 6], (zsh ++ vs, mi, ml, (zmr g))) rfl ?_
        refine Wp.call (as := [.int 6, .int 2]) (rest := []) rfl rfl rfl rfl rfl (Nat.le_of_ble_eq_true rfl) (Nat.le_of_ble_eq_true rfl) rfl (by decide) (c_under_6_2) ?_
        rintro _ _ ⟨rfl, rfl⟩
        refine Wp.run 2 (50, [(3, .int 6), (0, .ref 0), (1, .int (nI i)), (2, .int 2)], [.int (-12)], (zsh ++ vs, mi, ml, (zmr g))) rfl ?_
        refine Wp.ret rfl rfl rfl ?_
        exact ⟨rfl, _, _, rfl, SC.rf, fun _ _ _ => rfl⟩
      · intro m g' I' e67 S
        have B' := I'.1.1
        have hn' := B'.2.1
        have hN' := B'.1.1
        have hd' := B'.1.2.2.1
        refine Wp.run 3 (4, [(0, .ref 66), (1, .int (nI i)), (2, .int 2)], [.int 6, .int 0, .int 2], (zsh ++ vs, m, ml, (zmr g'))) rfl ?_
        refine Wp.call (as := [.int 2, .int 0, .int 6]) (rest := []) rfl rfl rfl rfl rfl (Nat.le_of_ble_eq_true rfl) (Nat.le_of_ble_eq_true rfl) rfl (by decide) (m_isIn_t hk) ?_
        rintro _ _ ⟨rfl, rfl⟩
        refine Wp.run 3 (15, [(0, .ref 66), (1, .int (nI i)), (2, .int 2)], [.int (nI i), .ref 66], (zsh ++ vs, m, ml, (zmr g'))) rfl ?_
        refine Wp.call (as := [.ref 66, .int (nI i)]) (rest := []) rfl rfl rfl rfl rfl (Nat.le_of_ble_eq_true rfl) (Nat.le_of_ble_eq_true rfl) rfl (by decide) (m_isOne_t (mi := m) hN' h6 hx9) ?_
        rintro _ _ ⟨rfl, rfl⟩
        refine Wp.run 4 (27, [(0, .ref 66), (1, .int (nI i)), (2, .int 2)], [.int 0, .int (nI i), .ref 66], (zsh ++ vs, m, ml, (zmr g'))) rfl ?_
        refine Wp.call (as := [.ref 66, .int (nI i), .int 0]) (rest := []) rfl rfl rfl rfl rfl (Nat.le_of_ble_eq_true rfl) (Nat.le_of_ble_eq_true rfl) rfl (by decide) (m_one (mi := m) i 0 (by omega)) ?_
        rintro _ _ ⟨rfl, rfl⟩
        refine Wp.topi (y := 6) ((congrFun e67 _).trans es) ?_
        refine Wp.run 11 (47, [(3, .int 6), (0, .ref 66), (1, .int (nI i)), (2, .int 2)], [.int (m 79 6)], (zsh ++ vs, m, ml, (zmr g'))) rfl ?_
        refine Wp.topi (y := 3) (I'.2.2.2.2.2.2.2.2.1 6 (by decide)) ?_
        refine Wp.run 2 (31, [(3, .int 3), (0, .ref 66), (1, .int (nI i)), (2, .int 2)], [], (zsh ++ vs, m, ml, (zmr g'))) rfl ?_
        refine Wp.run 10 (47, [(3, .int 3), (0, .ref 66), (1, .int (nI i)), (2, .int 2)], [.int (m 79 3)], (zsh ++ vs, m, ml, (zmr g'))) rfl ?_
        refine Wp.topi (y := 0) (I'.2.2.2.2.2.2.2.2.1 3 (by decide)) ?_
        refine Wp.run 2 (31, [(3, .int 0), (0, .ref 66), (1, .int (nI i)), (2, .int 2)], [], (zsh ++ vs, m, ml, (zmr g'))) rfl ?_
        refine Wp.run 10 (47, [(3, .int 0), (0, .ref 66), (1, .int (nI i)), (2, .int 2)], [.int (m 79 0)], (zsh ++ vs, m, ml, (zmr g'))) rfl ?_
        refine Wp.topi (y := -1) (I'.2.2.2.2.2.2.2.2.1 0 (by decide)) ?_
        refine Wp.run 2 (31, [(3, .int (-1)), (0, .ref 66), (1, .int (nI i)), (2, .int 2)], [], (zsh ++ vs, m, ml, (zmr g'))) rfl ?_
        refine Wp.run 7 (67, [(3, .int (-1)), (0, .ref 66), (1, .int (nI i)), (2, .int 2)], [.int (-12)], (zsh ++ vs, m, ml, (zmr g'))) rfl ?_
        refine Wp.ret rfl rfl rfl ?_
        exact ⟨rfl, _, rfl, SC.rf⟩
    · refine SIM.q I (x := 6) (dc := 7) (dm := 27) (by decide) (by decide) ?_ ?_
      · refine Wp.run 2 (3, [(0, .ref 0), (1, .int (nI i)), (2, .int 3)], [.int 6, .int 3], (zsh ++ vs, mi, ml, (zmr g))) rfl ?_
        refine Wp.call (as := [.int 3, .int 6]) (rest := []) rfl rfl rfl rfl rfl (Nat.le_of_ble_eq_true rfl) (Nat.le_of_ble_eq_true rfl) rfl (by decide) (c_within_t hk) ?_
        rintro _ _ ⟨rfl, rfl⟩
        refine Wp.run 4 (17, [(0, .ref 0), (1, .int (nI i)), (2, .int 3)], [.int (nI i), .ref 1], (zsh ++ vs, mi, ml, (zmr g))) rfl ?_
        refine Wp.call (as := [.ref 1, .int (nI i)]) (rest := []) rfl rfl rfl rfl rfl (Nat.le_of_ble_eq_true rfl) (Nat.le_of_ble_eq_true rfl) rfl (by decide) (c_has_t (mi := mi) hn h6 hx9) ?_
        rintro _ _ ⟨rfl, rfl⟩
        refine Wp.run 5 (34, [(0, .ref 0), (1, .int (nI i)), (2, .int 3)], [.int (nI i), .ref 3], (zsh ++ vs, mi, ml, (zmr g))) rfl ?_
        refine Wp.ialn rfl (by decide) rfl (by omega) (by decide) ?_
        refine Wp.topi (y := 6) (ec) ?_
        refine Wp.run 3 (38, [(3, .int 6), (0, .ref 0), (1, .int (nI i)), (2, .int 3)], [.int 3, .int 6], (zsh ++ vs, mi, ml, (zmr g))) rfl ?_
        refine Wp.call (as := [.int 6, .int 3]) (rest := []) rfl rfl rfl rfl rfl (Nat.le_of_ble_eq_true rfl) (Nat.le_of_ble_eq_true rfl) rfl (by decide) (c_under_6_3) ?_
        rintro _ _ ⟨rfl, rfl⟩
        refine Wp.run 3 (50, [(3, .int 6), (0, .ref 0), (1, .int (nI i)), (2, .int 3)], [.int 6], (zsh ++ vs, mi, ml, (zmr g))) rfl ?_
        refine Wp.ret rfl rfl rfl ?_
        exact ⟨rfl, _, _, rfl, SC.rf, fun _ _ _ => rfl⟩
      · intro m g' I' e67 S
        have B' := I'.1.1
        have hn' := B'.2.1
        have hN' := B'.1.1
        have hd' := B'.1.2.2.1
        refine Wp.run 3 (4, [(0, .ref 66), (1, .int (nI i)), (2, .int 3)], [.int 6, .int 0, .int 3], (zsh ++ vs, m, ml, (zmr g'))) rfl ?_
        refine Wp.call (as := [.int 3, .int 0, .int 6]) (rest := []) rfl rfl rfl rfl rfl (Nat.le_of_ble_eq_true rfl) (Nat.le_of_ble_eq_true rfl) rfl (by decide) (m_isIn_t hk) ?_
        rintro _ _ ⟨rfl, rfl⟩
        refine Wp.run 3 (15, [(0, .ref 66), (1, .int (nI i)), (2, .int 3)], [.int (nI i), .ref 66], (zsh ++ vs, m, ml, (zmr g'))) rfl ?_
        refine Wp.call (as := [.ref 66, .int (nI i)]) (rest := []) rfl rfl rfl rfl rfl (Nat.le_of_ble_eq_true rfl) (Nat.le_of_ble_eq_true rfl) rfl (by decide) (m_isOne_t (mi := m) hN' h6 hx9) ?_
        rintro _ _ ⟨rfl, rfl⟩
        refine Wp.run 4 (27, [(0, .ref 66), (1, .int (nI i)), (2, .int 3)], [.int 0, .int (nI i), .ref 66], (zsh ++ vs, m, ml, (zmr g'))) rfl ?_
        refine Wp.call (as := [.ref 66, .int (nI i), .int 0]) (rest := []) rfl rfl rfl rfl rfl (Nat.le_of_ble_eq_true rfl) (Nat.le_of_ble_eq_true rfl) rfl (by decide) (m_one (mi := m) i 0 (by omega)) ?_
        rintro _ _ ⟨rfl, rfl⟩
        refine Wp.topi (y := 6) ((congrFun e67 _).trans es) ?_
        refine Wp.run 11 (47, [(3, .int 6), (0, .ref 66), (1, .int (nI i)), (2, .int 3)], [.int (m 79 6)], (zsh ++ vs, m, ml, (zmr g'))) rfl ?_
        refine Wp.topi (y := 3) (I'.2.2.2.2.2.2.2.2.1 6 (by decide)) ?_
        refine Wp.run 2 (31, [(3, .int 3), (0, .ref 66), (1, .int (nI i)), (2, .int 3)], [], (zsh ++ vs, m, ml, (zmr g'))) rfl ?_
        refine Wp.run 12 (59, [(3, .int 3), (0, .ref 66), (1, .int (nI i)), (2, .int 3)], [.int 0, .int (nI i), .ref 66], (zsh ++ vs, m, ml, (zmr g'))) rfl ?_
        refine Wp.call (as := [.ref 66, .int (nI i), .int 0]) (rest := []) rfl rfl rfl rfl rfl (Nat.le_of_ble_eq_true rfl) (Nat.le_of_ble_eq_true rfl) rfl (by decide) (m_one (mi := m) i 0 (by omega)) ?_
        rintro _ _ ⟨rfl, rfl⟩
        refine Wp.topi (y := 6) ((congrFun e67 _).trans es) ?_
        refine Wp.run 1 (67, [(3, .int 3), (0, .ref 66), (1, .int (nI i)), (2, .int 3)], [.int 6], (zsh ++ vs, m, ml, (zmr g'))) rfl ?_
        refine Wp.ret rfl rfl rfl ?_
        exact ⟨rfl, _, rfl, SC.rf⟩
    · refine SIM.q I (x := -12) (dc := 7) (dm := 27) (by decide) (by decide) ?_ ?_
      · refine Wp.run 2 (3, [(0, .ref 0), (1, .int (nI i)), (2, .int 4)], [.int 6, .int 4], (zsh ++ vs, mi, ml, (zmr g))) rfl ?_
        refine Wp.call (as := [.int 4, .int 6]) (rest := []) rfl rfl rfl rfl rfl (Nat.le_of_ble_eq_true rfl) (Nat.le_of_ble_eq_true rfl) rfl (by decide) (c_within_t hk) ?_
        rintro _ _ ⟨rfl, rfl⟩
        refine Wp.run 4 (17, [(0, .ref 0), (1, .int (nI i)), (2, .int 4)], [.int (nI i), .ref 1], (zsh ++ vs, mi, ml, (zmr g))) rfl ?_
        refine Wp.call (as := [.ref 1, .int (nI i)]) (rest := []) rfl rfl rfl rfl rfl (Nat.le_of_ble_eq_true rfl) (Nat.le_of_ble_eq_true rfl) rfl (by decide) (c_has_t (mi := mi) hn h6 hx9) ?_
        rintro _ _ ⟨rfl, rfl⟩
        refine Wp.run 5 (34, [(0, .ref 0), (1, .int (nI i)), (2, .int 4)], [.int (nI i), .ref 3], (zsh ++ vs, mi, ml, (zmr g))) rfl ?_
        refine Wp.ialn rfl (by decide) rfl (by omega) (by decide) ?_
        refine Wp.topi (y := 6) (ec) ?_
        refine Wp.run 3 (38, [(3, .int 6), (0, .ref 0), (1, .int (nI i)), (2, .int 4)], [.int 4, .int 6], (zsh ++ vs, mi, ml, (zmr g))) rfl ?_
        refine Wp.call (as := [.int 6, .int 4]) (rest := []) rfl rfl rfl rfl rfl (Nat.le_of_ble_eq_true rfl) (Nat.le_of_ble_eq_true rfl) rfl (by decide) (c_under_6_4) ?_
        rintro _ _ ⟨rfl, rfl⟩
        refine Wp.run 2 (50, [(3, .int 6), (0, .ref 0), (1, .int (nI i)), (2, .int 4)], [.int (-12)], (zsh ++ vs, mi, ml, (zmr g))) rfl ?_
        refine Wp.ret rfl rfl rfl ?_
        exact ⟨rfl, _, _, rfl, SC.rf, fun _ _ _ => rfl⟩
      · intro m g' I' e67 S
        have B' := I'.1.1
        have hn' := B'.2.1
        have hN' := B'.1.1
        have hd' := B'.1.2.2.1
        refine Wp.run 3 (4, [(0, .ref 66), (1, .int (nI i)), (2, .int 4)], [.int 6, .int 0, .int 4], (zsh ++ vs, m, ml, (zmr g'))) rfl ?_
        refine Wp.call (as := [.int 4, .int 0, .int 6]) (rest := []) rfl rfl rfl rfl rfl (Nat.le_of_ble_eq_true rfl) (Nat.le_of_ble_eq_true rfl) rfl (by decide) (m_isIn_t hk) ?_
        rintro _ _ ⟨rfl, rfl⟩
        refine Wp.run 3 (15, [(0, .ref 66), (1, .int (nI i)), (2, .int 4)], [.int (nI i), .ref 66], (zsh ++ vs, m, ml, (zmr g'))) rfl ?_
        refine Wp.call (as := [.ref 66, .int (nI i)]) (rest := []) rfl rfl rfl rfl rfl (Nat.le_of_ble_eq_true rfl) (Nat.le_of_ble_eq_true rfl) rfl (by decide) (m_isOne_t (mi := m) hN' h6 hx9) ?_
        rintro _ _ ⟨rfl, rfl⟩
        refine Wp.run 4 (27, [(0, .ref 66), (1, .int (nI i)), (2, .int 4)], [.int 0, .int (nI i), .ref 66], (zsh ++ vs, m, ml, (zmr g'))) rfl ?_
        refine Wp.call (as := [.ref 66, .int (nI i), .int 0]) (rest := []) rfl rfl rfl rfl rfl (Nat.le_of_ble_eq_true rfl) (Nat.le_of_ble_eq_true rfl) rfl (by decide) (m_one (mi := m) i 0 (by omega)) ?_
        rintro _ _ ⟨rfl, rfl⟩
        refine Wp.topi (y := 6) ((congrFun e67 _).trans es) ?_
        refine Wp.run 11 (47, [(3, .int 6), (0, .ref 66), (1, .int (nI i)), (2, .int 4)], [.int (m 79 6)], (zsh ++ vs, m, ml, (zmr g'))) rfl ?_
        refine Wp.topi (y := 3) (I'.2.2.2.2.2.2.2.2.1 6 (by decide)) ?_
        refine Wp.run 2 (31, [(3, .int 3), (0, .ref 66), (1, .int (nI i)), (2, .int 4)], [], (zsh ++ vs, m, ml, (zmr g'))) rfl ?_
        refine Wp.run 10 (47, [(3, .int 3), (0, .ref 66), (1, .int (nI i)), (2, .int 4)], [.int (m 79 3)], (zsh ++ vs, m, ml, (zmr g'))) rfl ?_
        refine Wp.topi (y := 0) (I'.2.2.2.2.2.2.2.2.1 3 (by decide)) ?_
        refine Wp.run 2 (31, [(3, .int 0), (0, .ref 66), (1, .int (nI i)), (2, .int 4)], [], (zsh ++ vs, m, ml, (zmr g'))) rfl ?_
        refine Wp.run 10 (47, [(3, .int 0), (0, .ref 66), (1, .int (nI i)), (2, .int 4)], [.int (m 79 0)], (zsh ++ vs, m, ml, (zmr g'))) rfl ?_
        refine Wp.topi (y := -1) (I'.2.2.2.2.2.2.2.2.1 0 (by decide)) ?_
        refine Wp.run 2 (31, [(3, .int (-1)), (0, .ref 66), (1, .int (nI i)), (2, .int 4)], [], (zsh ++ vs, m, ml, (zmr g'))) rfl ?_
        refine Wp.run 7 (67, [(3, .int (-1)), (0, .ref 66), (1, .int (nI i)), (2, .int 4)], [.int (-12)], (zsh ++ vs, m, ml, (zmr g'))) rfl ?_
        refine Wp.ret rfl rfl rfl ?_
        exact ⟨rfl, _, rfl, SC.rf⟩
    · refine SIM.q I (x := -12) (dc := 7) (dm := 27) (by decide) (by decide) ?_ ?_
      · refine Wp.run 2 (3, [(0, .ref 0), (1, .int (nI i)), (2, .int 5)], [.int 6, .int 5], (zsh ++ vs, mi, ml, (zmr g))) rfl ?_
        refine Wp.call (as := [.int 5, .int 6]) (rest := []) rfl rfl rfl rfl rfl (Nat.le_of_ble_eq_true rfl) (Nat.le_of_ble_eq_true rfl) rfl (by decide) (c_within_t hk) ?_
        rintro _ _ ⟨rfl, rfl⟩
        refine Wp.run 4 (17, [(0, .ref 0), (1, .int (nI i)), (2, .int 5)], [.int (nI i), .ref 1], (zsh ++ vs, mi, ml, (zmr g))) rfl ?_
        refine Wp.call (as := [.ref 1, .int (nI i)]) (rest := []) rfl rfl rfl rfl rfl (Nat.le_of_ble_eq_true rfl) (Nat.le_of_ble_eq_true rfl) rfl (by decide) (c_has_t (mi := mi) hn h6 hx9) ?_
        rintro _ _ ⟨rfl, rfl⟩
        refine Wp.run 5 (34, [(0, .ref 0), (1, .int (nI i)), (2, .int 5)], [.int (nI i), .ref 3], (zsh ++ vs, mi, ml, (zmr g))) rfl ?_
        refine Wp.ialn rfl (by decide) rfl (by omega) (by decide) ?_
        refine Wp.topi (y := 6) (ec) ?_
        refine Wp.run 3 (38, [(3, .int 6), (0, .ref 0), (1, .int (nI i)), (2, .int 5)], [.int 5, .int 6], (zsh ++ vs, mi, ml, (zmr g))) rfl ?_
        refine Wp.call (as := [.int 6, .int 5]) (rest := []) rfl rfl rfl rfl rfl (Nat.le_of_ble_eq_true rfl) (Nat.le_of_ble_eq_true rfl) rfl (by decide) (c_under_6_5) ?_
        rintro _ _ ⟨rfl, rfl⟩
        refine Wp.run 2 (50, [(3, .int 6), (0, .ref 0), (1, .int (nI i)), (2, .int 5)], [.int (-12)], (zsh ++ vs, mi, ml, (zmr g))) rfl ?_
        refine Wp.ret rfl rfl rfl ?_
        exact ⟨rfl, _, _, rfl, SC.rf, fun _ _ _ => rfl⟩
      · intro m g' I' e67 S
        have B' := I'.1.1
        have hn' := B'.2.1
        have hN' := B'.1.1
        have hd' := B'.1.2.2.1
        refine Wp.run 3 (4, [(0, .ref 66), (1, .int (nI i)), (2, .int 5)], [.int 6, .int 0, .int 5], (zsh ++ vs, m, ml, (zmr g'))) rfl ?_
        refine Wp.call (as := [.int 5, .int 0, .int 6]) (rest := []) rfl rfl rfl rfl rfl (Nat.le_of_ble_eq_true rfl) (Nat.le_of_ble_eq_true rfl) rfl (by decide) (m_isIn_t hk) ?_
        rintro _ _ ⟨rfl, rfl⟩
        refine Wp.run 3 (15, [(0, .ref 66), (1, .int (nI i)), (2, .int 5)], [.int (nI i), .ref 66], (zsh ++ vs, m, ml, (zmr g'))) rfl ?_
        refine Wp.call (as := [.ref 66, .int (nI i)]) (rest := []) rfl rfl rfl rfl rfl (Nat.le_of_ble_eq_true rfl) (Nat.le_of_ble_eq_true rfl) rfl (by decide) (m_isOne_t (mi := m) hN' h6 hx9) ?_
        rintro _ _ ⟨rfl, rfl⟩
        refine Wp.run 4 (27, [(0, .ref 66), (1, .int (nI i)), (2, .int 5)], [.int 0, .int (nI i), .ref 66], (zsh ++ vs, m, ml, (zmr g'))) rfl ?_
        refine Wp.call (as := [.ref 66, .int (nI i), .int 0]) (rest := []) rfl rfl rfl rfl rfl (Nat.le_of_ble_eq_true rfl) (Nat.le_of_ble_eq_true rfl) rfl (by decide) (m_one (mi := m) i 0 (by omega)) ?_
        rintro _ _ ⟨rfl, rfl⟩
        refine Wp.topi (y := 6) ((congrFun e67 _).trans es) ?_
        refine Wp.run 11 (47, [(3, .int 6), (0, .ref 66), (1, .int (nI i)), (2, .int 5)], [.int (m 79 6)], (zsh ++ vs, m, ml, (zmr g'))) rfl ?_
        refine Wp.topi (y := 3) (I'.2.2.2.2.2.2.2.2.1 6 (by decide)) ?_
        refine Wp.run 2 (31, [(3, .int 3), (0, .ref 66), (1, .int (nI i)), (2, .int 5)], [], (zsh ++ vs, m, ml, (zmr g'))) rfl ?_
        refine Wp.run 10 (47, [(3, .int 3), (0, .ref 66), (1, .int (nI i)), (2, .int 5)], [.int (m 79 3)], (zsh ++ vs, m, ml, (zmr g'))) rfl ?_
        refine Wp.topi (y := 0) (I'.2.2.2.2.2.2.2.2.1 3 (by decide)) ?_
        refine Wp.run 2 (31, [(3, .int 0), (0, .ref 66), (1, .int (nI i)), (2, .int 5)], [], (zsh ++ vs, m, ml, (zmr g'))) rfl ?_
        refine Wp.run 10 (47, [(3, .int 0), (0, .ref 66), (1, .int (nI i)), (2, .int 5)], [.int (m 79 0)], (zsh ++ vs, m, ml, (zmr g'))) rfl ?_
        refine Wp.topi (y := -1) (I'.2.2.2.2.2.2.2.2.1 0 (by decide)) ?_
        refine Wp.run 2 (31, [(3, .int (-1)), (0, .ref 66), (1, .int (nI i)), (2, .int 5)], [], (zsh ++ vs, m, ml, (zmr g'))) rfl ?_
        refine Wp.run 7 (67, [(3, .int (-1)), (0, .ref 66), (1, .int (nI i)), (2, .int 5)], [.int (-12)], (zsh ++ vs, m, ml, (zmr g'))) rfl ?_
        refine Wp.ret rfl rfl rfl ?_
        exact ⟨rfl, _, rfl, SC.rf⟩
    · refine SIM.q I (x := 6) (dc := 7) (dm := 27) (by decide) (by decide) ?_ ?_
      · refine Wp.run 2 (3, [(0, .ref 0), (1, .int (nI i)), (2, .int 6)], [.int 6, .int 6], (zsh ++ vs, mi, ml, (zmr g))) rfl ?_
        refine Wp.call (as := [.int 6, .int 6]) (rest := []) rfl rfl rfl rfl rfl (Nat.le_of_ble_eq_true rfl) (Nat.le_of_ble_eq_true rfl) rfl (by decide) (c_within_t hk) ?_
        rintro _ _ ⟨rfl, rfl⟩
        refine Wp.run 4 (17, [(0, .ref 0), (1, .int (nI i)), (2, .int 6)], [.int (nI i), .ref 1], (zsh ++ vs, mi, ml, (zmr g))) rfl ?_
        refine Wp.call (as := [.ref 1, .int (nI i)]) (rest := []) rfl rfl rfl rfl rfl (Nat.le_of_ble_eq_true rfl) (Nat.le_of_ble_eq_true rfl) rfl (by decide) (c_has_t (mi := mi) hn h6 hx9) ?_
        rintro _ _ ⟨rfl, rfl⟩
        refine Wp.run 5 (34, [(0, .ref 0), (1, .int (nI i)), (2, .int 6)], [.int (nI i), .ref 3], (zsh ++ vs, mi, ml, (zmr g))) rfl ?_
        refine Wp.ialn rfl (by decide) rfl (by omega) (by decide) ?_
        refine Wp.topi (y := 6) (ec) ?_
        refine Wp.run 3 (38, [(3, .int 6), (0, .ref 0), (1, .int (nI i)), (2, .int 6)], [.int 6, .int 6], (zsh ++ vs, mi, ml, (zmr g))) rfl ?_
        refine Wp.call (as := [.int 6, .int 6]) (rest := []) rfl rfl rfl rfl rfl (Nat.le_of_ble_eq_true rfl) (Nat.le_of_ble_eq_true rfl) rfl (by decide) (c_under_6_6) ?_
        rintro _ _ ⟨rfl, rfl⟩
        refine Wp.run 3 (50, [(3, .int 6), (0, .ref 0), (1, .int (nI i)), (2, .int 6)], [.int 6], (zsh ++ vs, mi, ml, (zmr g))) rfl ?_
        refine Wp.ret rfl rfl rfl ?_
        exact ⟨rfl, _, _, rfl, SC.rf, fun _ _ _ => rfl⟩
      · intro m g' I' e67 S
        have B' := I'.1.1
        have hn' := B'.2.1
        have hN' := B'.1.1
        have hd' := B'.1.2.2.1
        refine Wp.run 3 (4, [(0, .ref 66), (1, .int (nI i)), (2, .int 6)], [.int 6, .int 0, .int 6], (zsh ++ vs, m, ml, (zmr g'))) rfl ?_
        refine Wp.call (as := [.int 6, .int 0, .int 6]) (rest := []) rfl rfl rfl rfl rfl (Nat.le_of_ble_eq_true rfl) (Nat.le_of_ble_eq_true rfl) rfl (by decide) (m_isIn_t hk) ?_
        rintro _ _ ⟨rfl, rfl⟩
        refine Wp.run 3 (15, [(0, .ref 66), (1, .int (nI i)), (2, .int 6)], [.int (nI i), .ref 66], (zsh ++ vs, m, ml, (zmr g'))) rfl ?_
        refine Wp.call (as := [.ref 66, .int (nI i)]) (rest := []) rfl rfl rfl rfl rfl (Nat.le_of_ble_eq_true rfl) (Nat.le_of_ble_eq_true rfl) rfl (by decide) (m_isOne_t (mi := m) hN' h6 hx9) ?_
        rintro _ _ ⟨rfl, rfl⟩
        refine Wp.run 4 (27, [(0, .ref 66), (1, .int (nI i)), (2, .int 6)], [.int 0, .int (nI i), .ref 66], (zsh ++ vs, m, ml, (zmr g'))) rfl ?_
        refine Wp.call (as := [.ref 66, .int (nI i), .int 0]) (rest := []) rfl rfl rfl rfl rfl (Nat.le_of_ble_eq_true rfl) (Nat.le_of_ble_eq_true rfl) rfl (by decide) (m_one (mi := m) i 0 (by omega)) ?_
        rintro _ _ ⟨rfl, rfl⟩
        refine Wp.topi (y := 6) ((congrFun e67 _).trans es) ?_
        refine Wp.run 13 (59, [(3, .int 6), (0, .ref 66), (1, .int (nI i)), (2, .int 6)], [.int 0, .int (nI i), .ref 66], (zsh ++ vs, m, ml, (zmr g'))) rfl ?_
        refine Wp.call (as := [.ref 66, .int (nI i), .int 0]) (rest := []) rfl rfl rfl rfl rfl (Nat.le_of_ble_eq_true rfl) (Nat.le_of_ble_eq_true rfl) rfl (by decide) (m_one (mi := m) i 0 (by omega)) ?_
        rintro _ _ ⟨rfl, rfl⟩
        refine Wp.topi (y := 6) ((congrFun e67 _).trans es) ?_
        refine Wp.run 1 (67, [(3, .int 6), (0, .ref 66), (1, .int (nI i)), (2, .int 6)], [.int 6], (zsh ++ vs, m, ml, (zmr g'))) rfl ?_
        refine Wp.ret rfl rfl rfl ?_
        exact ⟨rfl, _, rfl, SC.rf⟩
