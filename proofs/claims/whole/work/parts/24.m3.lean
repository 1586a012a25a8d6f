/-! THE REFERENCE: rows copied, sums over parts -/
abbrev mvR (mi : Nat → Nat → Int32) (a b j : Nat) : Nat → Int32 := fun i => if i < j then mi a i else mi b i
theorem mvR_0 {mi : Nat → Nat → Int32} {a b : Nat} : zrow mi b (mvR mi a b 0) = mi := by
  funext x
  by_cases hx : x = b
  · subst hx
    rw [zrow_eq]
    funext i
    simp [mvR]
  · rw [zrow_ne hx]
theorem mvR_1 {mi : Nat → Nat → Int32} {a b j : Nat} (h : ¬ a = b) : zup (zrow mi b (mvR mi a b j)) b j (zrow mi b (mvR mi a b j) a j) = zrow mi b (mvR mi a b (j + 1)) := by
  rw [zrow_ne h]
  funext x
  by_cases hx : x = b
  · subst hx
    rw [zup_eq, zrow_eq, zrow_eq]
    funext i
    simp only [upd, mvR]
    by_cases hi : i = j
    · subst hi
      rw [if_pos rfl, if_pos (by omega)]
    · rw [if_neg hi]
      by_cases h2 : i < j
      · rw [if_pos h2, if_pos (by omega)]
      · rw [if_neg h2, if_neg (by omega)]
  · rw [zup_ne hx, zrow_ne hx, zrow_ne hx]
theorem m_move_l67_68 {E : zEn} {vs : List (Nat × Nat)} {mi : Nat → Nat → Int32} {ml : Nat → Nat → Int64} {g : Nat → Nat → Option Nat}  {P : Option Value → zW → Prop} (hn9 : 125 < 2147483648) (K : Wp E 0 pg_M_move 20 [(0, .ref 67), (1, .ref 68), (2, .int (nI 125))] [] (zsh ++ vs, (zrow mi 68 (mvR mi 67 68 125)), ml, (zmr g)) P) : ∀ (k j : Nat), j + k = 125 → Wp E 0 pg_M_move 2 [(0, .ref 67), (1, .ref 68), (2, .int (nI j))] [] (zsh ++ vs, (zrow mi 68 (mvR mi 67 68 j)), ml, (zmr g)) P := by
  intro k
  induction k with
  | zero =>
    intro j hj9
    obtain rfl : 125 = j := by omega
    refine Wp.run 2 (5, [(0, .ref 67), (1, .ref 68), (2, .int (nI 125))], [.int 125, .int (nI 125)], (zsh ++ vs, (zrow mi 68 (mvR mi 67 68 125)), ml, (zmr g))) rfl ?_
    refine Wp.icmp_ge rfl (fun h1 => ?_) (fun h1 => ?_)
    · exact K
    · exact absurd (Int32.le_refl _) h1
  | succ k ih =>
    intro j hj9
    have hlt9 : j < 125 := by omega
    refine Wp.run 2 (5, [(0, .ref 67), (1, .ref 68), (2, .int (nI j))], [.int 125, .int (nI j)], (zsh ++ vs, (zrow mi 68 (mvR mi 67 68 j)), ml, (zmr g))) rfl ?_
    refine Wp.icmp_ge rfl (fun h1 => ?_) (fun h1 => ?_)
    · exact absurd h1 (nI_ge hlt9 hn9)
    · refine Wp.run 4 (12, [(0, .ref 67), (1, .ref 68), (2, .int (nI j))], [.int (nI j), .ref 67, .int (nI j), .ref 68], (zsh ++ vs, (zrow mi 68 (mvR mi 67 68 j)), ml, (zmr g))) rfl ?_
      refine Wp.ialn rfl (by decide) rfl (by omega) (by decide) ?_
      refine Wp.iasn rfl (by decide) rfl (by omega) (by decide) ?_
      refine Wp.run 2 (2, [(2, .int ((nI j) + 1)), (0, .ref 67), (1, .ref 68)], [], (zsh ++ vs, (zup (zrow mi 68 (mvR mi 67 68 j)) 68 j ((zrow mi 68 (mvR mi 67 68 j)) 67 j)), ml, (zmr g))) rfl ?_
      rw [mvR_1 (by decide), nI_1]
      refine Wp.sub (a := [(0, .ref 67), (1, .ref 68), (2, .int (nI (j + 1)))]) (zle_cons rfl (zle_cons rfl (zle_cons rfl (zle_nil)))) ?_
      exact ih (j + 1) (by omega)
theorem m_move_67_68 {E : zEn} {vs : List (Nat × Nat)} {mi : Nat → Nat → Int32} {ml : Nat → Nat → Int64} {g : Nat → Nat → Option Nat}  : Wp E 0 pg_M_move 0 (lv_args 0 [.ref 67, .ref 68]) [] (zsh ++ vs, mi, ml, (zmr g)) (fun r w' => r = none ∧ w' = (zsh ++ vs, zrow mi 68 (mvR mi 67 68 125), ml, zmr g)) := by
  have K : Wp E 0 pg_M_move 20 [(0, .ref 67), (1, .ref 68), (2, .int (nI 125))] [] (zsh ++ vs, (zrow mi 68 (mvR mi 67 68 125)), ml, (zmr g)) (fun r w' => r = none ∧ w' = (zsh ++ vs, zrow mi 68 (mvR mi 67 68 125), ml, zmr g)) := by
    refine Wp.run 0 (20, [(0, .ref 67), (1, .ref 68), (2, .int (nI 125))], [], (zsh ++ vs, (zrow mi 68 (mvR mi 67 68 125)), ml, (zmr g))) rfl ?_
    refine Wp.ret rfl rfl rfl ?_
    exact ⟨rfl, rfl⟩
  refine Wp.run 2 (2, [(2, .int 0), (0, .ref 67), (1, .ref 68)], [], (zsh ++ vs, mi, ml, (zmr g))) rfl ?_
  refine Wp.sub (a := [(0, .ref 67), (1, .ref 68), (2, .int (nI 0))]) (zle_cons rfl (zle_cons rfl (zle_cons rfl (zle_nil)))) ?_
  have h9 := m_move_l67_68 (by omega) K 125 0 (by omega)
  rw [mvR_0] at h9
  exact h9
theorem m_move_l68_67 {E : zEn} {vs : List (Nat × Nat)} {mi : Nat → Nat → Int32} {ml : Nat → Nat → Int64} {g : Nat → Nat → Option Nat}  {P : Option Value → zW → Prop} (hn9 : 125 < 2147483648) (K : Wp E 0 pg_M_move 20 [(0, .ref 68), (1, .ref 67), (2, .int (nI 125))] [] (zsh ++ vs, (zrow mi 67 (mvR mi 68 67 125)), ml, (zmr g)) P) : ∀ (k j : Nat), j + k = 125 → Wp E 0 pg_M_move 2 [(0, .ref 68), (1, .ref 67), (2, .int (nI j))] [] (zsh ++ vs, (zrow mi 67 (mvR mi 68 67 j)), ml, (zmr g)) P := by
  intro k
  induction k with
  | zero =>
    intro j hj9
    obtain rfl : 125 = j := by omega
    refine Wp.run 2 (5, [(0, .ref 68), (1, .ref 67), (2, .int (nI 125))], [.int 125, .int (nI 125)], (zsh ++ vs, (zrow mi 67 (mvR mi 68 67 125)), ml, (zmr g))) rfl ?_
    refine Wp.icmp_ge rfl (fun h1 => ?_) (fun h1 => ?_)
    · exact K
    · exact absurd (Int32.le_refl _) h1
  | succ k ih =>
    intro j hj9
    have hlt9 : j < 125 := by omega
    refine Wp.run 2 (5, [(0, .ref 68), (1, .ref 67), (2, .int (nI j))], [.int 125, .int (nI j)], (zsh ++ vs, (zrow mi 67 (mvR mi 68 67 j)), ml, (zmr g))) rfl ?_
    refine Wp.icmp_ge rfl (fun h1 => ?_) (fun h1 => ?_)
    · exact absurd h1 (nI_ge hlt9 hn9)
    · refine Wp.run 4 (12, [(0, .ref 68), (1, .ref 67), (2, .int (nI j))], [.int (nI j), .ref 68, .int (nI j), .ref 67], (zsh ++ vs, (zrow mi 67 (mvR mi 68 67 j)), ml, (zmr g))) rfl ?_
      refine Wp.ialn rfl (by decide) rfl (by omega) (by decide) ?_
      refine Wp.iasn rfl (by decide) rfl (by omega) (by decide) ?_
      refine Wp.run 2 (2, [(2, .int ((nI j) + 1)), (0, .ref 68), (1, .ref 67)], [], (zsh ++ vs, (zup (zrow mi 67 (mvR mi 68 67 j)) 67 j ((zrow mi 67 (mvR mi 68 67 j)) 68 j)), ml, (zmr g))) rfl ?_
      rw [mvR_1 (by decide), nI_1]
      refine Wp.sub (a := [(0, .ref 68), (1, .ref 67), (2, .int (nI (j + 1)))]) (zle_cons rfl (zle_cons rfl (zle_cons rfl (zle_nil)))) ?_
      exact ih (j + 1) (by omega)
theorem m_move_68_67 {E : zEn} {vs : List (Nat × Nat)} {mi : Nat → Nat → Int32} {ml : Nat → Nat → Int64} {g : Nat → Nat → Option Nat}  : Wp E 0 pg_M_move 0 (lv_args 0 [.ref 68, .ref 67]) [] (zsh ++ vs, mi, ml, (zmr g)) (fun r w' => r = none ∧ w' = (zsh ++ vs, zrow mi 67 (mvR mi 68 67 125), ml, zmr g)) := by
  have K : Wp E 0 pg_M_move 20 [(0, .ref 68), (1, .ref 67), (2, .int (nI 125))] [] (zsh ++ vs, (zrow mi 67 (mvR mi 68 67 125)), ml, (zmr g)) (fun r w' => r = none ∧ w' = (zsh ++ vs, zrow mi 67 (mvR mi 68 67 125), ml, zmr g)) := by
    refine Wp.run 0 (20, [(0, .ref 68), (1, .ref 67), (2, .int (nI 125))], [], (zsh ++ vs, (zrow mi 67 (mvR mi 68 67 125)), ml, (zmr g))) rfl ?_
    refine Wp.ret rfl rfl rfl ?_
    exact ⟨rfl, rfl⟩
  refine Wp.run 2 (2, [(2, .int 0), (0, .ref 68), (1, .ref 67)], [], (zsh ++ vs, mi, ml, (zmr g))) rfl ?_
  refine Wp.sub (a := [(0, .ref 68), (1, .ref 67), (2, .int (nI 0))]) (zle_cons rfl (zle_cons rfl (zle_cons rfl (zle_nil)))) ?_
  have h9 := m_move_l68_67 (by omega) K 125 0 (by omega)
  rw [mvR_0] at h9
  exact h9
theorem m_move_l67_69 {E : zEn} {vs : List (Nat × Nat)} {mi : Nat → Nat → Int32} {ml : Nat → Nat → Int64} {g : Nat → Nat → Option Nat}  {P : Option Value → zW → Prop} (hn9 : 125 < 2147483648) (K : Wp E 0 pg_M_move 20 [(0, .ref 67), (1, .ref 69), (2, .int (nI 125))] [] (zsh ++ vs, (zrow mi 69 (mvR mi 67 69 125)), ml, (zmr g)) P) : ∀ (k j : Nat), j + k = 125 → Wp E 0 pg_M_move 2 [(0, .ref 67), (1, .ref 69), (2, .int (nI j))] [] (zsh ++ vs, (zrow mi 69 (mvR mi 67 69 j)), ml, (zmr g)) P := by
  intro k
  induction k with
  | zero =>
    intro j hj9
    obtain rfl : 125 = j := by omega
    refine Wp.run 2 (5, [(0, .ref 67), (1, .ref 69), (2, .int (nI 125))], [.int 125, .int (nI 125)], (zsh ++ vs, (zrow mi 69 (mvR mi 67 69 125)), ml, (zmr g))) rfl ?_
    refine Wp.icmp_ge rfl (fun h1 => ?_) (fun h1 => ?_)
    · exact K
    · exact absurd (Int32.le_refl _) h1
  | succ k ih =>
    intro j hj9
    have hlt9 : j < 125 := by omega
    refine Wp.run 2 (5, [(0, .ref 67), (1, .ref 69), (2, .int (nI j))], [.int 125, .int (nI j)], (zsh ++ vs, (zrow mi 69 (mvR mi 67 69 j)), ml, (zmr g))) rfl ?_
    refine Wp.icmp_ge rfl (fun h1 => ?_) (fun h1 => ?_)
    · exact absurd h1 (nI_ge hlt9 hn9)
    · refine Wp.run 4 (12, [(0, .ref 67), (1, .ref 69), (2, .int (nI j))], [.int (nI j), .ref 67, .int (nI j), .ref 69], (zsh ++ vs, (zrow mi 69 (mvR mi 67 69 j)), ml, (zmr g))) rfl ?_
      refine Wp.ialn rfl (by decide) rfl (by omega) (by decide) ?_
      refine Wp.iasn rfl (by decide) rfl (by omega) (by decide) ?_
      refine Wp.run 2 (2, [(2, .int ((nI j) + 1)), (0, .ref 67), (1, .ref 69)], [], (zsh ++ vs, (zup (zrow mi 69 (mvR mi 67 69 j)) 69 j ((zrow mi 69 (mvR mi 67 69 j)) 67 j)), ml, (zmr g))) rfl ?_
      rw [mvR_1 (by decide), nI_1]
      refine Wp.sub (a := [(0, .ref 67), (1, .ref 69), (2, .int (nI (j + 1)))]) (zle_cons rfl (zle_cons rfl (zle_cons rfl (zle_nil)))) ?_
      exact ih (j + 1) (by omega)
theorem m_move_67_69 {E : zEn} {vs : List (Nat × Nat)} {mi : Nat → Nat → Int32} {ml : Nat → Nat → Int64} {g : Nat → Nat → Option Nat}  : Wp E 0 pg_M_move 0 (lv_args 0 [.ref 67, .ref 69]) [] (zsh ++ vs, mi, ml, (zmr g)) (fun r w' => r = none ∧ w' = (zsh ++ vs, zrow mi 69 (mvR mi 67 69 125), ml, zmr g)) := by
  have K : Wp E 0 pg_M_move 20 [(0, .ref 67), (1, .ref 69), (2, .int (nI 125))] [] (zsh ++ vs, (zrow mi 69 (mvR mi 67 69 125)), ml, (zmr g)) (fun r w' => r = none ∧ w' = (zsh ++ vs, zrow mi 69 (mvR mi 67 69 125), ml, zmr g)) := by
    refine Wp.run 0 (20, [(0, .ref 67), (1, .ref 69), (2, .int (nI 125))], [], (zsh ++ vs, (zrow mi 69 (mvR mi 67 69 125)), ml, (zmr g))) rfl ?_
    refine Wp.ret rfl rfl rfl ?_
    exact ⟨rfl, rfl⟩
  refine Wp.run 2 (2, [(2, .int 0), (0, .ref 67), (1, .ref 69)], [], (zsh ++ vs, mi, ml, (zmr g))) rfl ?_
  refine Wp.sub (a := [(0, .ref 67), (1, .ref 69), (2, .int (nI 0))]) (zle_cons rfl (zle_cons rfl (zle_cons rfl (zle_nil)))) ?_
  have h9 := m_move_l67_69 (by omega) K 125 0 (by omega)
  rw [mvR_0] at h9
  exact h9
theorem m_move_l69_67 {E : zEn} {vs : List (Nat × Nat)} {mi : Nat → Nat → Int32} {ml : Nat → Nat → Int64} {g : Nat → Nat → Option Nat}  {P : Option Value → zW → Prop} (hn9 : 125 < 2147483648) (K : Wp E 0 pg_M_move 20 [(0, .ref 69), (1, .ref 67), (2, .int (nI 125))] [] (zsh ++ vs, (zrow mi 67 (mvR mi 69 67 125)), ml, (zmr g)) P) : ∀ (k j : Nat), j + k = 125 → Wp E 0 pg_M_move 2 [(0, .ref 69), (1, .ref 67), (2, .int (nI j))] [] (zsh ++ vs, (zrow mi 67 (mvR mi 69 67 j)), ml, (zmr g)) P := by
  intro k
  induction k with
  | zero =>
    intro j hj9
    obtain rfl : 125 = j := by omega
    refine Wp.run 2 (5, [(0, .ref 69), (1, .ref 67), (2, .int (nI 125))], [.int 125, .int (nI 125)], (zsh ++ vs, (zrow mi 67 (mvR mi 69 67 125)), ml, (zmr g))) rfl ?_
    refine Wp.icmp_ge rfl (fun h1 => ?_) (fun h1 => ?_)
    · exact K
    · exact absurd (Int32.le_refl _) h1
  | succ k ih =>
    intro j hj9
    have hlt9 : j < 125 := by omega
    refine Wp.run 2 (5, [(0, .ref 69), (1, .ref 67), (2, .int (nI j))], [.int 125, .int (nI j)], (zsh ++ vs, (zrow mi 67 (mvR mi 69 67 j)), ml, (zmr g))) rfl ?_
    refine Wp.icmp_ge rfl (fun h1 => ?_) (fun h1 => ?_)
    · exact absurd h1 (nI_ge hlt9 hn9)
    · refine Wp.run 4 (12, [(0, .ref 69), (1, .ref 67), (2, .int (nI j))], [.int (nI j), .ref 69, .int (nI j), .ref 67], (zsh ++ vs, (zrow mi 67 (mvR mi 69 67 j)), ml, (zmr g))) rfl ?_
      refine Wp.ialn rfl (by decide) rfl (by omega) (by decide) ?_
      refine Wp.iasn rfl (by decide) rfl (by omega) (by decide) ?_
      refine Wp.run 2 (2, [(2, .int ((nI j) + 1)), (0, .ref 69), (1, .ref 67)], [], (zsh ++ vs, (zup (zrow mi 67 (mvR mi 69 67 j)) 67 j ((zrow mi 67 (mvR mi 69 67 j)) 69 j)), ml, (zmr g))) rfl ?_
      rw [mvR_1 (by decide), nI_1]
      refine Wp.sub (a := [(0, .ref 69), (1, .ref 67), (2, .int (nI (j + 1)))]) (zle_cons rfl (zle_cons rfl (zle_cons rfl (zle_nil)))) ?_
      exact ih (j + 1) (by omega)
theorem m_move_69_67 {E : zEn} {vs : List (Nat × Nat)} {mi : Nat → Nat → Int32} {ml : Nat → Nat → Int64} {g : Nat → Nat → Option Nat}  : Wp E 0 pg_M_move 0 (lv_args 0 [.ref 69, .ref 67]) [] (zsh ++ vs, mi, ml, (zmr g)) (fun r w' => r = none ∧ w' = (zsh ++ vs, zrow mi 67 (mvR mi 69 67 125), ml, zmr g)) := by
  have K : Wp E 0 pg_M_move 20 [(0, .ref 69), (1, .ref 67), (2, .int (nI 125))] [] (zsh ++ vs, (zrow mi 67 (mvR mi 69 67 125)), ml, (zmr g)) (fun r w' => r = none ∧ w' = (zsh ++ vs, zrow mi 67 (mvR mi 69 67 125), ml, zmr g)) := by
    refine Wp.run 0 (20, [(0, .ref 69), (1, .ref 67), (2, .int (nI 125))], [], (zsh ++ vs, (zrow mi 67 (mvR mi 69 67 125)), ml, (zmr g))) rfl ?_
    refine Wp.ret rfl rfl rfl ?_
    exact ⟨rfl, rfl⟩
  refine Wp.run 2 (2, [(2, .int 0), (0, .ref 69), (1, .ref 67)], [], (zsh ++ vs, mi, ml, (zmr g))) rfl ?_
  refine Wp.sub (a := [(0, .ref 69), (1, .ref 67), (2, .int (nI 0))]) (zle_cons rfl (zle_cons rfl (zle_cons rfl (zle_nil)))) ?_
  have h9 := m_move_l69_67 (by omega) K 125 0 (by omega)
  rw [mvR_0] at h9
  exact h9
theorem m_sacks_l {E : zEn} {vs : List (Nat × Nat)} {mi : Nat → Nat → Int32} {ml : Nat → Nat → Int64} {g : Nat → Nat → Option Nat} {n : Nat} (hn : mi 67 68 = nI n) (h6 : n ≤ 6) {P : Option Value → zW → Prop} (hn9 : 8 < 2147483648) (K : Wp E 3 pg_M_sacksKept 41 [(0, .ref 66), (1, .int (zsum (fun p => if zor (keptF (uN (mi 67))) n >>> (nI p &&& 31) &&& 1 = 1 then mi 67 p else 0) 8)), (2, .int (nI 8))] [] (zsh ++ vs, mi, ml, (zmr g)) P) : ∀ (k j : Nat), j + k = 8 → Wp E 3 pg_M_sacksKept 4 [(0, .ref 66), (1, .int (zsum (fun p => if zor (keptF (uN (mi 67))) n >>> (nI p &&& 31) &&& 1 = 1 then mi 67 p else 0) j)), (2, .int (nI j))] [] (zsh ++ vs, mi, ml, (zmr g)) P := by
  intro k
  induction k with
  | zero =>
    intro j hj9
    obtain rfl : 8 = j := by omega
    refine Wp.run 2 (7, [(0, .ref 66), (1, .int (zsum (fun p => if zor (keptF (uN (mi 67))) n >>> (nI p &&& 31) &&& 1 = 1 then mi 67 p else 0) 8)), (2, .int (nI 8))], [.int 8, .int (nI 8)], (zsh ++ vs, mi, ml, (zmr g))) rfl ?_
    refine Wp.icmp_ge rfl (fun h1 => ?_) (fun h1 => ?_)
    · exact K
    · exact absurd (Int32.le_refl _) h1
  | succ k ih =>
    intro j hj9
    have hlt9 : j < 8 := by omega
    refine Wp.run 2 (7, [(0, .ref 66), (1, .int (zsum (fun p => if zor (keptF (uN (mi 67))) n >>> (nI p &&& 31) &&& 1 = 1 then mi 67 p else 0) j)), (2, .int (nI j))], [.int 8, .int (nI j)], (zsh ++ vs, mi, ml, (zmr g))) rfl ?_
    refine Wp.icmp_ge rfl (fun h1 => ?_) (fun h1 => ?_)
    · exact absurd h1 (nI_ge hlt9 hn9)
    · refine Wp.run 2 (12, [(0, .ref 66), (1, .int (zsum (fun p => if zor (keptF (uN (mi 67))) n >>> (nI p &&& 31) &&& 1 = 1 then mi 67 p else 0) j)), (2, .int (nI j))], [.ref 66, .int (zsum (fun p => if zor (keptF (uN (mi 67))) n >>> (nI p &&& 31) &&& 1 = 1 then mi 67 p else 0) j)], (zsh ++ vs, mi, ml, (zmr g))) rfl ?_
      refine Wp.call (as := [.ref 66]) (rest := [.int (zsum (fun p => if zor (keptF (uN (mi 67))) n >>> (nI p &&& 31) &&& 1 = 1 then mi 67 p else 0) j)]) rfl rfl rfl rfl rfl (Nat.le_of_ble_eq_true rfl) (Nat.le_of_ble_eq_true rfl) rfl (by decide) (m_keptNow hn h6) ?_
      rintro _ _ ⟨rfl, rfl⟩
      refine Wp.run 5 (20, [(0, .ref 66), (1, .int (zsum (fun p => if zor (keptF (uN (mi 67))) n >>> (nI p &&& 31) &&& 1 = 1 then mi 67 p else 0) j)), (2, .int (nI j))], [.int 1, .int (((zor (keptF (uN (mi 67))) n) >>> ((nI j) &&& 31)) &&& 1), .int (zsum (fun p => if zor (keptF (uN (mi 67))) n >>> (nI p &&& 31) &&& 1 = 1 then mi 67 p else 0) j)], (zsh ++ vs, mi, ml, (zmr g))) rfl ?_
      refine Wp.icmp_ne rfl (fun h2 => ?_) (fun h2 => ?_)
      · refine Wp.run 5 (4, [(2, .int ((nI j) + 1)), (1, .int ((zsum (fun p => if zor (keptF (uN (mi 67))) n >>> (nI p &&& 31) &&& 1 = 1 then mi 67 p else 0) j) + 0)), (0, .ref 66)], [], (zsh ++ vs, mi, ml, (zmr g))) rfl ?_
        rw [show (zsum (fun p => if zor (keptF (uN (mi 67))) n >>> (nI p &&& 31) &&& 1 = 1 then mi 67 p else 0) j) + 0 = zsum (fun p => if zor (keptF (uN (mi 67))) n >>> (nI p &&& 31) &&& 1 = 1 then mi 67 p else 0) (j + 1) from (by rw [zsum, if_neg h2])]
        rw [nI_1]
        refine Wp.sub (a := [(0, .ref 66), (1, .int (zsum (fun p => if zor (keptF (uN (mi 67))) n >>> (nI p &&& 31) &&& 1 = 1 then mi 67 p else 0) (j + 1))), (2, .int (nI (j + 1)))]) (zle_cons rfl (zle_cons rfl (zle_cons rfl (zle_nil)))) ?_
        exact ih (j + 1) (by omega)
      · refine Wp.run 3 (28, [(0, .ref 66), (1, .int (zsum (fun p => if zor (keptF (uN (mi 67))) n >>> (nI p &&& 31) &&& 1 = 1 then mi 67 p else 0) j)), (2, .int (nI j))], [.int (nI j), .ref 67, .int (zsum (fun p => if zor (keptF (uN (mi 67))) n >>> (nI p &&& 31) &&& 1 = 1 then mi 67 p else 0) j)], (zsh ++ vs, mi, ml, (zmr g))) rfl ?_
        refine Wp.ialn rfl (by decide) rfl (by omega) (by decide) ?_
        refine Wp.run 5 (4, [(2, .int ((nI j) + 1)), (1, .int ((zsum (fun p => if zor (keptF (uN (mi 67))) n >>> (nI p &&& 31) &&& 1 = 1 then mi 67 p else 0) j) + (mi 67 j))), (0, .ref 66)], [], (zsh ++ vs, mi, ml, (zmr g))) rfl ?_
        rw [show (zsum (fun p => if zor (keptF (uN (mi 67))) n >>> (nI p &&& 31) &&& 1 = 1 then mi 67 p else 0) j) + (mi 67 j) = zsum (fun p => if zor (keptF (uN (mi 67))) n >>> (nI p &&& 31) &&& 1 = 1 then mi 67 p else 0) (j + 1) from (by rw [zsum, if_pos h2])]
        rw [nI_1]
        refine Wp.sub (a := [(0, .ref 66), (1, .int (zsum (fun p => if zor (keptF (uN (mi 67))) n >>> (nI p &&& 31) &&& 1 = 1 then mi 67 p else 0) (j + 1))), (2, .int (nI (j + 1)))]) (zle_cons rfl (zle_cons rfl (zle_cons rfl (zle_nil)))) ?_
        exact ih (j + 1) (by omega)
theorem m_sacks {E : zEn} {vs : List (Nat × Nat)} {mi : Nat → Nat → Int32} {ml : Nat → Nat → Int64} {g : Nat → Nat → Option Nat} {n : Nat} (hn : mi 67 68 = nI n) (h6 : n ≤ 6) : Wp E 3 pg_M_sacksKept 0 (lv_args 0 [.ref 66]) [] (zsh ++ vs, mi, ml, (zmr g)) (fun r w' => r = some (.int (zsum (fun p => if zor (keptF (uN (mi 67))) n >>> (nI p &&& 31) &&& 1 = 1 then mi 67 p else 0) 8)) ∧ w' = (zsh ++ vs, mi, ml, zmr g)) := by
  have K : Wp E 3 pg_M_sacksKept 41 [(0, .ref 66), (1, .int (zsum (fun p => if zor (keptF (uN (mi 67))) n >>> (nI p &&& 31) &&& 1 = 1 then mi 67 p else 0) 8)), (2, .int (nI 8))] [] (zsh ++ vs, mi, ml, (zmr g)) (fun r w' => r = some (.int (zsum (fun p => if zor (keptF (uN (mi 67))) n >>> (nI p &&& 31) &&& 1 = 1 then mi 67 p else 0) 8)) ∧ w' = (zsh ++ vs, mi, ml, zmr g)) := by
    refine Wp.run 1 (42, [(0, .ref 66), (1, .int (zsum (fun p => if zor (keptF (uN (mi 67))) n >>> (nI p &&& 31) &&& 1 = 1 then mi 67 p else 0) 8)), (2, .int (nI 8))], [.int (zsum (fun p => if zor (keptF (uN (mi 67))) n >>> (nI p &&& 31) &&& 1 = 1 then mi 67 p else 0) 8)], (zsh ++ vs, mi, ml, (zmr g))) rfl ?_
    refine Wp.ret rfl rfl rfl ?_
    exact ⟨rfl, rfl⟩
  refine Wp.run 4 (4, [(2, .int 0), (1, .int 0), (0, .ref 66)], [], (zsh ++ vs, mi, ml, (zmr g))) rfl ?_
  refine Wp.sub (a := [(0, .ref 66), (1, .int (zsum (fun p => if zor (keptF (uN (mi 67))) n >>> (nI p &&& 31) &&& 1 = 1 then mi 67 p else 0) 0)), (2, .int (nI 0))]) (zle_cons rfl (zle_cons rfl (zle_cons rfl (zle_nil)))) ?_
  exact m_sacks_l hn h6 (by omega) K 8 0 (by omega)
theorem m_safe_l {E : zEn} {vs : List (Nat × Nat)} {mi : Nat → Nat → Int32} {ml : Nat → Nat → Int64} {g : Nat → Nat → Option Nat} {n : Nat} (hn : mi 67 68 = nI n) (h6 : n ≤ 6) {P : Option Value → zW → Prop} (hn9 : 8 < 2147483648) (K : Wp E 3 pg_M_safe 35 [(0, .ref 66), (1, .int (zor (fun p => if 1 < zsum (holdF (uN (mi 67)) (nI p)) n then (1 : Int32) <<< (nI p &&& 31) else 0) 8)), (2, .int (nI 8))] [] (zsh ++ vs, mi, ml, (zmr g)) P) : ∀ (k j : Nat), j + k = 8 → Wp E 3 pg_M_safe 4 [(0, .ref 66), (1, .int (zor (fun p => if 1 < zsum (holdF (uN (mi 67)) (nI p)) n then (1 : Int32) <<< (nI p &&& 31) else 0) j)), (2, .int (nI j))] [] (zsh ++ vs, mi, ml, (zmr g)) P := by
  intro k
  induction k with
  | zero =>
    intro j hj9
    obtain rfl : 8 = j := by omega
    refine Wp.run 2 (7, [(0, .ref 66), (1, .int (zor (fun p => if 1 < zsum (holdF (uN (mi 67)) (nI p)) n then (1 : Int32) <<< (nI p &&& 31) else 0) 8)), (2, .int (nI 8))], [.int 8, .int (nI 8)], (zsh ++ vs, mi, ml, (zmr g))) rfl ?_
    refine Wp.icmp_ge rfl (fun h1 => ?_) (fun h1 => ?_)
    · exact K
    · exact absurd (Int32.le_refl _) h1
  | succ k ih =>
    intro j hj9
    have hlt9 : j < 8 := by omega
    refine Wp.run 2 (7, [(0, .ref 66), (1, .int (zor (fun p => if 1 < zsum (holdF (uN (mi 67)) (nI p)) n then (1 : Int32) <<< (nI p &&& 31) else 0) j)), (2, .int (nI j))], [.int 8, .int (nI j)], (zsh ++ vs, mi, ml, (zmr g))) rfl ?_
    refine Wp.icmp_ge rfl (fun h1 => ?_) (fun h1 => ?_)
    · exact absurd h1 (nI_ge hlt9 hn9)
    · refine Wp.run 3 (13, [(0, .ref 66), (1, .int (zor (fun p => if 1 < zsum (holdF (uN (mi 67)) (nI p)) n then (1 : Int32) <<< (nI p &&& 31) else 0) j)), (2, .int (nI j))], [.int (nI j), .ref 66, .int (zor (fun p => if 1 < zsum (holdF (uN (mi 67)) (nI p)) n then (1 : Int32) <<< (nI p &&& 31) else 0) j)], (zsh ++ vs, mi, ml, (zmr g))) rfl ?_
      refine Wp.call (as := [.ref 66, .int (nI j)]) (rest := [.int (zor (fun p => if 1 < zsum (holdF (uN (mi 67)) (nI p)) n then (1 : Int32) <<< (nI p &&& 31) else 0) j)]) rfl rfl rfl rfl rfl (Nat.le_of_ble_eq_true rfl) (Nat.le_of_ble_eq_true rfl) rfl (by decide) (m_holders (nI j) hn h6) ?_
      rintro _ _ ⟨rfl, rfl⟩
      refine Wp.run 1 (17, [(0, .ref 66), (1, .int (zor (fun p => if 1 < zsum (holdF (uN (mi 67)) (nI p)) n then (1 : Int32) <<< (nI p &&& 31) else 0) j)), (2, .int (nI j))], [.int 1, .int (zsum (holdF (uN (mi 67)) (nI j)) n), .int (zor (fun p => if 1 < zsum (holdF (uN (mi 67)) (nI p)) n then (1 : Int32) <<< (nI p &&& 31) else 0) j)], (zsh ++ vs, mi, ml, (zmr g))) rfl ?_
      refine Wp.icmp_le rfl (fun h2 => ?_) (fun h2 => ?_)
      · refine Wp.run 5 (4, [(2, .int ((nI j) + 1)), (1, .int ((zor (fun p => if 1 < zsum (holdF (uN (mi 67)) (nI p)) n then (1 : Int32) <<< (nI p &&& 31) else 0) j) ||| 0)), (0, .ref 66)], [], (zsh ++ vs, mi, ml, (zmr g))) rfl ?_
        rw [show (zor (fun p => if 1 < zsum (holdF (uN (mi 67)) (nI p)) n then (1 : Int32) <<< (nI p &&& 31) else 0) j) ||| 0 = zor (fun p => if 1 < zsum (holdF (uN (mi 67)) (nI p)) n then (1 : Int32) <<< (nI p &&& 31) else 0) (j + 1) from (by rw [zor, if_neg (Int32.not_lt.mpr h2)])]
        rw [nI_1]
        refine Wp.sub (a := [(0, .ref 66), (1, .int (zor (fun p => if 1 < zsum (holdF (uN (mi 67)) (nI p)) n then (1 : Int32) <<< (nI p &&& 31) else 0) (j + 1))), (2, .int (nI (j + 1)))]) (zle_cons rfl (zle_cons rfl (zle_cons rfl (zle_nil)))) ?_
        exact ih (j + 1) (by omega)
      · refine Wp.run 8 (4, [(2, .int ((nI j) + 1)), (1, .int ((zor (fun p => if 1 < zsum (holdF (uN (mi 67)) (nI p)) n then (1 : Int32) <<< (nI p &&& 31) else 0) j) ||| ((1 : Int32) <<< ((nI j) &&& 31)))), (0, .ref 66)], [], (zsh ++ vs, mi, ml, (zmr g))) rfl ?_
        rw [show (zor (fun p => if 1 < zsum (holdF (uN (mi 67)) (nI p)) n then (1 : Int32) <<< (nI p &&& 31) else 0) j) ||| ((1 : Int32) <<< ((nI j) &&& 31)) = zor (fun p => if 1 < zsum (holdF (uN (mi 67)) (nI p)) n then (1 : Int32) <<< (nI p &&& 31) else 0) (j + 1) from (by rw [zor, if_pos (Int32.not_le.mp h2)])]
        rw [nI_1]
        refine Wp.sub (a := [(0, .ref 66), (1, .int (zor (fun p => if 1 < zsum (holdF (uN (mi 67)) (nI p)) n then (1 : Int32) <<< (nI p &&& 31) else 0) (j + 1))), (2, .int (nI (j + 1)))]) (zle_cons rfl (zle_cons rfl (zle_cons rfl (zle_nil)))) ?_
        exact ih (j + 1) (by omega)
theorem m_safe {E : zEn} {vs : List (Nat × Nat)} {mi : Nat → Nat → Int32} {ml : Nat → Nat → Int64} {g : Nat → Nat → Option Nat} {n : Nat} (hn : mi 67 68 = nI n) (h6 : n ≤ 6) : Wp E 3 pg_M_safe 0 (lv_args 0 [.ref 66]) [] (zsh ++ vs, mi, ml, (zmr g)) (fun r w' => r = some (.int (zor (fun p => if 1 < zsum (holdF (uN (mi 67)) (nI p)) n then (1 : Int32) <<< (nI p &&& 31) else 0) 8)) ∧ w' = (zsh ++ vs, mi, ml, zmr g)) := by
  have K : Wp E 3 pg_M_safe 35 [(0, .ref 66), (1, .int (zor (fun p => if 1 < zsum (holdF (uN (mi 67)) (nI p)) n then (1 : Int32) <<< (nI p &&& 31) else 0) 8)), (2, .int (nI 8))] [] (zsh ++ vs, mi, ml, (zmr g)) (fun r w' => r = some (.int (zor (fun p => if 1 < zsum (holdF (uN (mi 67)) (nI p)) n then (1 : Int32) <<< (nI p &&& 31) else 0) 8)) ∧ w' = (zsh ++ vs, mi, ml, zmr g)) := by
    refine Wp.run 1 (36, [(0, .ref 66), (1, .int (zor (fun p => if 1 < zsum (holdF (uN (mi 67)) (nI p)) n then (1 : Int32) <<< (nI p &&& 31) else 0) 8)), (2, .int (nI 8))], [.int (zor (fun p => if 1 < zsum (holdF (uN (mi 67)) (nI p)) n then (1 : Int32) <<< (nI p &&& 31) else 0) 8)], (zsh ++ vs, mi, ml, (zmr g))) rfl ?_
    refine Wp.ret rfl rfl rfl ?_
    exact ⟨rfl, rfl⟩
  refine Wp.run 4 (4, [(2, .int 0), (1, .int 0), (0, .ref 66)], [], (zsh ++ vs, mi, ml, (zmr g))) rfl ?_
  refine Wp.sub (a := [(0, .ref 66), (1, .int (zor (fun p => if 1 < zsum (holdF (uN (mi 67)) (nI p)) n then (1 : Int32) <<< (nI p &&& 31) else 0) 0)), (2, .int (nI 0))]) (zle_cons rfl (zle_cons rfl (zle_cons rfl (zle_nil)))) ?_
  exact m_safe_l hn h6 (by omega) K 8 0 (by omega)
/-! THE VILLAGE, as it is read for a singer: sm rule names its sum, an rule how much one begins with -/
def nmU (u : Nat → Nat → Int32) (dd i : Nat) : Nat → Int32 := fun f => if f = 0 then nI i else if f = 1 then u i 0 else if f = 2 then u i 1 else if f = 3 then zmany (u i 2) else if f = 4 then u i 3 / 10 else nI (dd % 10)
/-- only what reading a village writes has changed -/
def zKeep (mi mi' : Nat → Nat → Int32) : Prop := (∀ a, ¬ a = 66 → ¬ a = 73 → ¬ a = 74 → mi' a = mi a) ∧ ∀ k, (k < 10 ∨ 15 < k) → mi' 66 k = mi 66 k
theorem zKeep.rf {mi : Nat → Nat → Int32} : zKeep mi mi := ⟨fun _ _ _ _ => rfl, fun _ _ => rfl⟩
theorem zKeep.tr {a b c : Nat → Nat → Int32} (h1 : zKeep a b) (h2 : zKeep b c) : zKeep a c := ⟨fun x p q r => (h2.1 x p q r).trans (h1.1 x p q r), fun k hk => (h2.2 k hk).trans (h1.2 k hk)⟩
def kC (mi : Nat → Nat → Int32) : Prop := (mi 75 0 = 112 ∧ mi 75 1 = 107 ∧ mi 75 2 = 118 ∧ mi 75 3 = 110 ∧ mi 75 4 = 109 ∧ mi 75 5 = 100) ∧ (mi 76 0 = 104 ∧ mi 76 1 = 101 ∧ mi 76 2 = 97) ∧ (mi 77 0 = 104 ∧ mi 77 1 = 97 ∧ mi 77 2 = 114 ∧ mi 77 3 = 100 ∧ mi 77 4 = 0 ∧ mi 77 5 = 101 ∧ mi 77 6 = 97 ∧ mi 77 7 = 115 ∧ mi 77 8 = 121 ∧ mi 77 9 = 0 ∧ mi 77 10 = 97 ∧ mi 77 11 = 110 ∧ mi 77 12 = 101 ∧ mi 77 13 = 119 ∧ mi 77 14 = 0)
theorem kC.fr {mi m : Nat → Nat → Int32} (h : kC mi) (e : ∀ a, a = 75 ∨ a = 76 ∨ a = 77 → m a = mi a) : kC m := by
  unfold kC
  rw [e 75 (by omega), e 76 (by omega), e 77 (by omega)]
  exact h
/-- the texts' lengths, and the letters that reading knows -/
def kH (mi : Nat → Nat → Int32) (X : Nat → Int32) : Prop := mi 72 = X ∧ kC mi
theorem kH.fr {mi m : Nat → Nat → Int32} {X : Nat → Int32} (h : kH mi X) (e : ∀ a, a = 72 ∨ a = 75 ∨ a = 76 ∨ a = 77 → m a = mi a) : kH m X := ⟨by rw [e 72 (by omega)]; exact h.1, h.2.fr (fun a ha => e a (by omega))⟩
def RFs (E : zEn) (X71 X72 : Nat → Int32) (rv : Int32 → Prop) (sm : Int32 → (Nat → Int32) → Int32) (an : Int32 → Int32) : Prop :=
  ∀ (vs : List (Nat × Nat)) (mi : Nat → Nat → Int32) (ml : Nat → Nat → Int64) (g : Nat → Nat → Option Nat) (i dd : Nat), i < 6 → dd < 100000 → mi 67 69 = nI dd → mi 71 = X71 → kH mi X72 → rv (mi 67 70) →
    Wp E 22 pg_M_readFor 0 (lv_args 0 [.ref 66, .int (nI i)]) [] (zsh ++ vs, mi, ml, zmr g) (fun r w' => r = none ∧ ∃ mi', w' = (zsh ++ vs, mi', ml, zmr g) ∧ zKeep mi mi' ∧ mi' 66 14 = sm (mi 67 70) (nmU (uN (mi 67)) dd i) ∧ mi' 66 15 = an (mi 67 70))
def strU (u : Nat → Nat → Int32) (n dd : Nat) (S : Int32) (i : Nat) : Int32 :=
  if u i 0 = 1 then S + u i 1 else if u i 0 = 2 then S / 2 else if u i 0 = 3 then S - 3 * zsum (shrF (fun k => u k 4) (fun k => u k 2) i) n
  else if u i 0 = 4 then (if 4 < zmany (u i 2) then 2 * (S + u i 1) else S + u i 1) else if u i 0 = 5 then S / 2 - (if dd % 2 = 1 then u i 1 else 0)
  else if u i 0 = 6 then S - 3 * zsum (shrF (fun k => u k 4) (fun k => u k 2) i) n + u i (6 + dd % 4) else S
theorem zsw16 (x : Int32) (h1 : ¬ x = 1) (h2 : ¬ x = 2) (h3 : ¬ x = 3) (h4 : ¬ x = 4) (h5 : ¬ x = 5) (h6 : ¬ x = 6) : x.toInt < 1 ∨ 6 < x.toInt := by
  have key : ∀ (k : Int32), ¬ x = k → ¬ x.toInt = k.toInt := fun k h g => h (Int32.toInt_inj.mp g)
  have a1 : ¬ x.toInt = 1 := key 1 h1
  have a2 : ¬ x.toInt = 2 := key 2 h2
  have a3 : ¬ x.toInt = 3 := key 3 h3
  have a4 : ¬ x.toInt = 4 := key 4 h4
  have a5 : ¬ x.toInt = 5 := key 5 h5
  have a6 : ¬ x.toInt = 6 := key 6 h6
  omega
theorem m_strain_l {E : zEn} {vs : List (Nat × Nat)} {mi : Nat → Nat → Int32} {ml : Nat → Nat → Int64} {g : Nat → Nat → Option Nat} (i : Nat) (hi : i < 6) {n : Nat} (hn : mi 67 68 = nI n) (h6 : n ≤ 6) {P : Option Value → zW → Prop} (hn9 : n < 2147483648) (K : Wp E 23 pg_M_strain 63 [(0, .ref 66), (1, .int (nI i)), (2, .int (zsum (shrF (fun k => uN (mi 67) k 4) (fun k => uN (mi 67) k 2) i) n)), (3, .int (nI n))] [] (zsh ++ vs, mi, ml, (zmr g)) P) : ∀ (k j : Nat), j + k = n → Wp E 23 pg_M_strain 9 [(0, .ref 66), (1, .int (nI i)), (2, .int (zsum (shrF (fun k => uN (mi 67) k 4) (fun k => uN (mi 67) k 2) i) j)), (3, .int (nI j))] [] (zsh ++ vs, mi, ml, (zmr g)) P := by
  intro k
  induction k with
  | zero =>
    intro j hj9
    obtain rfl : n = j := by omega
    refine Wp.run 5 (17, [(0, .ref 66), (1, .int (nI i)), (2, .int (zsum (shrF (fun k => uN (mi 67) k 4) (fun k => uN (mi 67) k 2) i) n)), (3, .int (nI n))], [.int (mi 67 68), .int (nI n)], (zsh ++ vs, mi, ml, (zmr g))) rfl ?_
    rw [hn]
    refine Wp.run 0 (17, [(0, .ref 66), (1, .int (nI i)), (2, .int (zsum (shrF (fun k => uN (mi 67) k 4) (fun k => uN (mi 67) k 2) i) n)), (3, .int (nI n))], [.int (nI n), .int (nI n)], (zsh ++ vs, mi, ml, (zmr g))) rfl ?_
    refine Wp.icmp_ge rfl (fun h1 => ?_) (fun h1 => ?_)
    · exact K
    · exact absurd (Int32.le_refl _) h1
  | succ k ih =>
    intro j hj9
    have hlt9 : j < n := by omega
    refine Wp.run 5 (17, [(0, .ref 66), (1, .int (nI i)), (2, .int (zsum (shrF (fun k => uN (mi 67) k 4) (fun k => uN (mi 67) k 2) i) j)), (3, .int (nI j))], [.int (mi 67 68), .int (nI j)], (zsh ++ vs, mi, ml, (zmr g))) rfl ?_
    rw [hn]
    refine Wp.run 0 (17, [(0, .ref 66), (1, .int (nI i)), (2, .int (zsum (shrF (fun k => uN (mi 67) k 4) (fun k => uN (mi 67) k 2) i) j)), (3, .int (nI j))], [.int (nI n), .int (nI j)], (zsh ++ vs, mi, ml, (zmr g))) rfl ?_
    refine Wp.icmp_ge rfl (fun h1 => ?_) (fun h1 => ?_)
    · exact absurd h1 (nI_ge hlt9 hn9)
    · refine Wp.run 3 (23, [(0, .ref 66), (1, .int (nI i)), (2, .int (zsum (shrF (fun k => uN (mi 67) k 4) (fun k => uN (mi 67) k 2) i) j)), (3, .int (nI j))], [.int (nI i), .int (nI j), .int (zsum (shrF (fun k => uN (mi 67) k 4) (fun k => uN (mi 67) k 2) i) j)], (zsh ++ vs, mi, ml, (zmr g))) rfl ?_
      refine Wp.icmp_eq rfl (fun h2 => ?_) (fun h2 => ?_)
      · refine Wp.run 5 (9, [(3, .int ((nI j) + 1)), (2, .int ((zsum (shrF (fun k => uN (mi 67) k 4) (fun k => uN (mi 67) k 2) i) j) + 0)), (0, .ref 66), (1, .int (nI i))], [], (zsh ++ vs, mi, ml, (zmr g))) rfl ?_
        rw [show (zsum (shrF (fun k => uN (mi 67) k 4) (fun k => uN (mi 67) k 2) i) j) + 0 = zsum (shrF (fun k => uN (mi 67) k 4) (fun k => uN (mi 67) k 2) i) (j + 1) from (by rw [zsum, shrF, if_neg (fun h => h.1 h2)])]
        rw [nI_1]
        refine Wp.sub (a := [(0, .ref 66), (1, .int (nI i)), (2, .int (zsum (shrF (fun k => uN (mi 67) k 4) (fun k => uN (mi 67) k 2) i) (j + 1))), (3, .int (nI (j + 1)))]) (zle_cons rfl (zle_cons rfl (zle_cons rfl (zle_cons rfl (zle_nil))))) ?_
        exact ih (j + 1) (by omega)
      · refine Wp.run 2 (28, [(0, .ref 66), (1, .int (nI i)), (2, .int (zsum (shrF (fun k => uN (mi 67) k 4) (fun k => uN (mi 67) k 2) i) j)), (3, .int (nI j))], [.int (nI j), .ref 66, .int (zsum (shrF (fun k => uN (mi 67) k 4) (fun k => uN (mi 67) k 2) i) j)], (zsh ++ vs, mi, ml, (zmr g))) rfl ?_
        refine Wp.call (as := [.ref 66, .int (nI j)]) (rest := [.int (zsum (shrF (fun k => uN (mi 67) k 4) (fun k => uN (mi 67) k 2) i) j)]) rfl rfl rfl rfl rfl (Nat.le_of_ble_eq_true rfl) (Nat.le_of_ble_eq_true rfl) rfl (by decide) (m_isHere j (by omega)) ?_
        rintro _ _ ⟨rfl, rfl⟩
        by_cases c8 : mi 67 (8 + 10 * j + 4) = 0
        · rw [if_pos c8]
          refine Wp.run 4 (37, [(0, .ref 66), (1, .int (nI i)), (2, .int (zsum (shrF (fun k => uN (mi 67) k 4) (fun k => uN (mi 67) k 2) i) j)), (3, .int (nI j))], [.int 2, .int (nI j), .ref 66, .int (zsum (shrF (fun k => uN (mi 67) k 4) (fun k => uN (mi 67) k 2) i) j)], (zsh ++ vs, mi, ml, (zmr g))) rfl ?_
          refine Wp.call (as := [.ref 66, .int (nI j), .int 2]) (rest := [.int (zsum (shrF (fun k => uN (mi 67) k 4) (fun k => uN (mi 67) k 2) i) j)]) rfl rfl rfl rfl rfl (Nat.le_of_ble_eq_true rfl) (Nat.le_of_ble_eq_true rfl) rfl (by decide) (m_one j 2 (by omega)) ?_
          rintro _ _ ⟨rfl, rfl⟩
          refine Wp.run 3 (43, [(0, .ref 66), (1, .int (nI i)), (2, .int (zsum (shrF (fun k => uN (mi 67) k 4) (fun k => uN (mi 67) k 2) i) j)), (3, .int (nI j))], [.int 2, .int (nI i), .ref 66, .int (mi 67 (8 + 10 * j + 2)), .int (zsum (shrF (fun k => uN (mi 67) k 4) (fun k => uN (mi 67) k 2) i) j)], (zsh ++ vs, mi, ml, (zmr g))) rfl ?_
          refine Wp.call (as := [.ref 66, .int (nI i), .int 2]) (rest := [.int (mi 67 (8 + 10 * j + 2)), .int (zsum (shrF (fun k => uN (mi 67) k 4) (fun k => uN (mi 67) k 2) i) j)]) rfl rfl rfl rfl rfl (Nat.le_of_ble_eq_true rfl) (Nat.le_of_ble_eq_true rfl) rfl (by decide) (m_one i 2 (by omega)) ?_
          rintro _ _ ⟨rfl, rfl⟩
          refine Wp.run 1 (47, [(0, .ref 66), (1, .int (nI i)), (2, .int (zsum (shrF (fun k => uN (mi 67) k 4) (fun k => uN (mi 67) k 2) i) j)), (3, .int (nI j))], [.int ((mi 67 (8 + 10 * j + 2)) &&& (mi 67 (8 + 10 * i + 2))), .int (zsum (shrF (fun k => uN (mi 67) k 4) (fun k => uN (mi 67) k 2) i) j)], (zsh ++ vs, mi, ml, (zmr g))) rfl ?_
          refine Wp.if_eq rfl (fun h3 => ?_) (fun h3 => ?_)
          · refine Wp.run 5 (9, [(3, .int ((nI j) + 1)), (2, .int ((zsum (shrF (fun k => uN (mi 67) k 4) (fun k => uN (mi 67) k 2) i) j) + 0)), (0, .ref 66), (1, .int (nI i))], [], (zsh ++ vs, mi, ml, (zmr g))) rfl ?_
            rw [show (zsum (shrF (fun k => uN (mi 67) k 4) (fun k => uN (mi 67) k 2) i) j) + 0 = zsum (shrF (fun k => uN (mi 67) k 4) (fun k => uN (mi 67) k 2) i) (j + 1) from (by rw [zsum, shrF, if_neg (fun h => h.2.2 h3)])]
            rw [nI_1]
            refine Wp.sub (a := [(0, .ref 66), (1, .int (nI i)), (2, .int (zsum (shrF (fun k => uN (mi 67) k 4) (fun k => uN (mi 67) k 2) i) (j + 1))), (3, .int (nI (j + 1)))]) (zle_cons rfl (zle_cons rfl (zle_cons rfl (zle_cons rfl (zle_nil))))) ?_
            exact ih (j + 1) (by omega)
          · refine Wp.run 6 (9, [(3, .int ((nI j) + 1)), (2, .int ((zsum (shrF (fun k => uN (mi 67) k 4) (fun k => uN (mi 67) k 2) i) j) + 1)), (0, .ref 66), (1, .int (nI i))], [], (zsh ++ vs, mi, ml, (zmr g))) rfl ?_
            rw [show (zsum (shrF (fun k => uN (mi 67) k 4) (fun k => uN (mi 67) k 2) i) j) + 1 = zsum (shrF (fun k => uN (mi 67) k 4) (fun k => uN (mi 67) k 2) i) (j + 1) from (by rw [zsum, shrF, if_pos ⟨h2, c8, h3⟩])]
            rw [nI_1]
            refine Wp.sub (a := [(0, .ref 66), (1, .int (nI i)), (2, .int (zsum (shrF (fun k => uN (mi 67) k 4) (fun k => uN (mi 67) k 2) i) (j + 1))), (3, .int (nI (j + 1)))]) (zle_cons rfl (zle_cons rfl (zle_cons rfl (zle_cons rfl (zle_nil))))) ?_
            exact ih (j + 1) (by omega)
        · rw [if_neg c8]
          refine Wp.run 6 (9, [(3, .int ((nI j) + 1)), (2, .int ((zsum (shrF (fun k => uN (mi 67) k 4) (fun k => uN (mi 67) k 2) i) j) + 0)), (0, .ref 66), (1, .int (nI i))], [], (zsh ++ vs, mi, ml, (zmr g))) rfl ?_
          rw [show (zsum (shrF (fun k => uN (mi 67) k 4) (fun k => uN (mi 67) k 2) i) j) + 0 = zsum (shrF (fun k => uN (mi 67) k 4) (fun k => uN (mi 67) k 2) i) (j + 1) from (by rw [zsum, shrF, if_neg (fun h => c8 h.2.1)])]
          rw [nI_1]
          refine Wp.sub (a := [(0, .ref 66), (1, .int (nI i)), (2, .int (zsum (shrF (fun k => uN (mi 67) k 4) (fun k => uN (mi 67) k 2) i) (j + 1))), (3, .int (nI (j + 1)))]) (zle_cons rfl (zle_cons rfl (zle_cons rfl (zle_cons rfl (zle_nil))))) ?_
          exact ih (j + 1) (by omega)
theorem m_strain {E : zEn} {vs : List (Nat × Nat)} {mi : Nat → Nat → Int32} {ml : Nat → Nat → Int64} {g : Nat → Nat → Option Nat} {X71 X72 : Nat → Int32} {rv : Int32 → Prop} {sm : Int32 → (Nat → Int32) → Int32} {an : Int32 → Int32} (H : RFs E X71 X72 rv sm an) (h71 : mi 71 = X71) (h72 : kH mi X72) (hrv : rv (mi 67 70)) {dd : Nat} (hdd : dd < 100000) (hd : mi 67 69 = nI dd) (i : Nat) (hi : i < 6) {n : Nat} (hn : mi 67 68 = nI n) (h6 : n ≤ 6) : Wp E 23 pg_M_strain 0 (lv_args 0 [.ref 66, .int (nI i)]) [] (zsh ++ vs, mi, ml, (zmr g)) (fun r w' => r = some (.int (strU (uN (mi 67)) n dd (sm (mi 67 70) (nmU (uN (mi 67)) dd i)) i)) ∧ ∃ mi', w' = (zsh ++ vs, mi', ml, zmr g) ∧ zKeep mi mi') := by
  refine Wp.run 2 (2, [(0, .ref 66), (1, .int (nI i))], [.int (nI i), .ref 66], (zsh ++ vs, mi, ml, (zmr g))) rfl ?_
  refine Wp.call (as := [.ref 66, .int (nI i)]) (rest := []) rfl rfl rfl rfl rfl (Nat.le_of_ble_eq_true rfl) (Nat.le_of_ble_eq_true rfl) rfl (by decide) (H vs mi ml g i dd hi hdd hd h71 h72 hrv) ?_
  rintro _ _ ⟨rfl, mi', rfl, hk, hs, ha⟩
  have e67 : mi' 67 = mi 67 := hk.1 67 (by decide) (by decide) (by decide)
  refine Wp.run 4 (9, [(3, .int 0), (2, .int 0), (0, .ref 66), (1, .int (nI i))], [], (zsh ++ vs, mi', ml, (zmr g))) rfl ?_
  have K : Wp E 23 pg_M_strain 63 [(0, .ref 66), (1, .int (nI i)), (2, .int (zsum (shrF (fun k => uN (mi' 67) k 4) (fun k => uN (mi' 67) k 2) i) n)), (3, .int (nI n))] [] (zsh ++ vs, mi', ml, (zmr g)) (fun r w' => r = some (.int (strU (uN (mi 67)) n dd (sm (mi 67 70) (nmU (uN (mi 67)) dd i)) i)) ∧ ∃ mi', w' = (zsh ++ vs, mi', ml, zmr g) ∧ zKeep mi mi') := by
    refine Wp.run 5 (70, [(0, .ref 66), (1, .int (nI i)), (2, .int (zsum (shrF (fun k => uN (mi' 67) k 4) (fun k => uN (mi' 67) k 2) i) n)), (3, .int (nI n))], [.int 1, .int (nI i), .ref 66, .int (mi' 66 14)], (zsh ++ vs, mi', ml, (zmr g))) rfl ?_
    refine Wp.call (as := [.ref 66, .int (nI i), .int 1]) (rest := [.int (mi' 66 14)]) rfl rfl rfl rfl rfl (Nat.le_of_ble_eq_true rfl) (Nat.le_of_ble_eq_true rfl) rfl (by decide) (m_one i 1 (by omega)) ?_
    rintro _ _ ⟨rfl, rfl⟩
    refine Wp.run 12 (88, [(4, .int ((mi' 66 14) - (3 * (zsum (shrF (fun k => uN (mi' 67) k 4) (fun k => uN (mi' 67) k 2) i) n)))), (3, .int ((mi' 66 14) + (mi' 67 (8 + 10 * i + 1)))), (0, .ref 66), (1, .int (nI i)), (2, .int (zsum (shrF (fun k => uN (mi' 67) k 4) (fun k => uN (mi' 67) k 2) i) n))], [.int 0, .int (nI i), .ref 66], (zsh ++ vs, mi', ml, (zmr g))) rfl ?_
    refine Wp.call (as := [.ref 66, .int (nI i), .int 0]) (rest := []) rfl rfl rfl rfl rfl (Nat.le_of_ble_eq_true rfl) (Nat.le_of_ble_eq_true rfl) rfl (by decide) (m_one i 0 (by omega)) ?_
    rintro _ _ ⟨rfl, rfl⟩
    refine Wp.run 0 (91, [(4, .int ((mi' 66 14) - (3 * (zsum (shrF (fun k => uN (mi' 67) k 4) (fun k => uN (mi' 67) k 2) i) n)))), (3, .int ((mi' 66 14) + (mi' 67 (8 + 10 * i + 1)))), (0, .ref 66), (1, .int (nI i)), (2, .int (zsum (shrF (fun k => uN (mi' 67) k 4) (fun k => uN (mi' 67) k 2) i) n))], [.int (mi' 67 (8 + 10 * i + 0))], (zsh ++ vs, mi', ml, (zmr g))) rfl ?_
    by_cases s1 : mi' 67 (8 + 10 * i + 0) = 1
    · rw [s1]
      refine Wp.run 2 (129, [(4, .int ((mi' 66 14) - (3 * (zsum (shrF (fun k => uN (mi' 67) k 4) (fun k => uN (mi' 67) k 2) i) n)))), (3, .int ((mi' 66 14) + (mi' 67 (8 + 10 * i + 1)))), (0, .ref 66), (1, .int (nI i)), (2, .int (zsum (shrF (fun k => uN (mi' 67) k 4) (fun k => uN (mi' 67) k 2) i) n))], [.int ((mi' 66 14) + (mi' 67 (8 + 10 * i + 1)))], (zsh ++ vs, mi', ml, (zmr g))) rfl ?_
      refine Wp.ret rfl rfl rfl ?_
      refine ⟨?_, mi', rfl, hk⟩
      rw [← hs, ← e67, strU, if_pos s1]
    by_cases s2 : mi' 67 (8 + 10 * i + 0) = 2
    · rw [s2]
      refine Wp.run 5 (136, [(4, .int ((mi' 66 14) - (3 * (zsum (shrF (fun k => uN (mi' 67) k 4) (fun k => uN (mi' 67) k 2) i) n)))), (3, .int ((mi' 66 14) + (mi' 67 (8 + 10 * i + 1)))), (0, .ref 66), (1, .int (nI i)), (2, .int (zsum (shrF (fun k => uN (mi' 67) k 4) (fun k => uN (mi' 67) k 2) i) n))], [.int ((mi' 66 14) / 2)], (zsh ++ vs, mi', ml, (zmr g))) rfl ?_
      refine Wp.ret rfl rfl rfl ?_
      refine ⟨?_, mi', rfl, hk⟩
      rw [← hs, ← e67, strU, if_neg s1, if_pos s2]
    by_cases s3 : mi' 67 (8 + 10 * i + 0) = 3
    · rw [s3]
      refine Wp.run 2 (139, [(4, .int ((mi' 66 14) - (3 * (zsum (shrF (fun k => uN (mi' 67) k 4) (fun k => uN (mi' 67) k 2) i) n)))), (3, .int ((mi' 66 14) + (mi' 67 (8 + 10 * i + 1)))), (0, .ref 66), (1, .int (nI i)), (2, .int (zsum (shrF (fun k => uN (mi' 67) k 4) (fun k => uN (mi' 67) k 2) i) n))], [.int ((mi' 66 14) - (3 * (zsum (shrF (fun k => uN (mi' 67) k 4) (fun k => uN (mi' 67) k 2) i) n)))], (zsh ++ vs, mi', ml, (zmr g))) rfl ?_
      refine Wp.ret rfl rfl rfl ?_
      refine ⟨?_, mi', rfl, hk⟩
      rw [← hs, ← e67, strU, if_neg s1, if_neg s2, if_pos s3]
    by_cases s4 : mi' 67 (8 + 10 * i + 0) = 4
    · rw [s4]
      refine Wp.run 4 (143, [(4, .int ((mi' 66 14) - (3 * (zsum (shrF (fun k => uN (mi' 67) k 4) (fun k => uN (mi' 67) k 2) i) n)))), (3, .int ((mi' 66 14) + (mi' 67 (8 + 10 * i + 1)))), (0, .ref 66), (1, .int (nI i)), (2, .int (zsum (shrF (fun k => uN (mi' 67) k 4) (fun k => uN (mi' 67) k 2) i) n))], [.int 2, .int (nI i), .ref 66], (zsh ++ vs, mi', ml, (zmr g))) rfl ?_
      refine Wp.call (as := [.ref 66, .int (nI i), .int 2]) (rest := []) rfl rfl rfl rfl rfl (Nat.le_of_ble_eq_true rfl) (Nat.le_of_ble_eq_true rfl) rfl (by decide) (m_one i 2 (by omega)) ?_
      rintro _ _ ⟨rfl, rfl⟩
      refine Wp.run 0 (146, [(4, .int ((mi' 66 14) - (3 * (zsum (shrF (fun k => uN (mi' 67) k 4) (fun k => uN (mi' 67) k 2) i) n)))), (3, .int ((mi' 66 14) + (mi' 67 (8 + 10 * i + 1)))), (0, .ref 66), (1, .int (nI i)), (2, .int (zsum (shrF (fun k => uN (mi' 67) k 4) (fun k => uN (mi' 67) k 2) i) n))], [.int (mi' 67 (8 + 10 * i + 2))], (zsh ++ vs, mi', ml, (zmr g))) rfl ?_
      refine Wp.call (as := [.int (mi' 67 (8 + 10 * i + 2))]) (rest := []) rfl rfl rfl rfl rfl (Nat.le_of_ble_eq_true rfl) (Nat.le_of_ble_eq_true rfl) rfl (by decide) (m_many (mi' 67 (8 + 10 * i + 2))) ?_
      rintro _ _ ⟨rfl, rfl⟩
      refine Wp.run 1 (150, [(4, .int ((mi' 66 14) - (3 * (zsum (shrF (fun k => uN (mi' 67) k 4) (fun k => uN (mi' 67) k 2) i) n)))), (3, .int ((mi' 66 14) + (mi' 67 (8 + 10 * i + 1)))), (0, .ref 66), (1, .int (nI i)), (2, .int (zsum (shrF (fun k => uN (mi' 67) k 4) (fun k => uN (mi' 67) k 2) i) n))], [.int 4, .int (zmany (mi' 67 (8 + 10 * i + 2)))], (zsh ++ vs, mi', ml, (zmr g))) rfl ?_
      refine Wp.icmp_le rfl (fun h1 => ?_) (fun h1 => ?_)
      · refine Wp.run 1 (160, [(4, .int ((mi' 66 14) - (3 * (zsum (shrF (fun k => uN (mi' 67) k 4) (fun k => uN (mi' 67) k 2) i) n)))), (3, .int ((mi' 66 14) + (mi' 67 (8 + 10 * i + 1)))), (0, .ref 66), (1, .int (nI i)), (2, .int (zsum (shrF (fun k => uN (mi' 67) k 4) (fun k => uN (mi' 67) k 2) i) n))], [.int ((mi' 66 14) + (mi' 67 (8 + 10 * i + 1)))], (zsh ++ vs, mi', ml, (zmr g))) rfl ?_
        refine Wp.ret rfl rfl rfl ?_
        refine ⟨?_, mi', rfl, hk⟩
        rw [← hs, ← e67, strU, if_neg s1, if_neg s2, if_neg s3, if_pos s4]
        rw [if_neg (Int32.not_lt.mpr h1)]
      · refine Wp.run 4 (160, [(4, .int ((mi' 66 14) - (3 * (zsum (shrF (fun k => uN (mi' 67) k 4) (fun k => uN (mi' 67) k 2) i) n)))), (3, .int ((mi' 66 14) + (mi' 67 (8 + 10 * i + 1)))), (0, .ref 66), (1, .int (nI i)), (2, .int (zsum (shrF (fun k => uN (mi' 67) k 4) (fun k => uN (mi' 67) k 2) i) n))], [.int (2 * ((mi' 66 14) + (mi' 67 (8 + 10 * i + 1))))], (zsh ++ vs, mi', ml, (zmr g))) rfl ?_
        refine Wp.ret rfl rfl rfl ?_
        refine ⟨?_, mi', rfl, hk⟩
        rw [← hs, ← e67, strU, if_neg s1, if_neg s2, if_neg s3, if_pos s4]
        rw [if_pos (Int32.not_le.mp h1)]
    by_cases s5 : mi' 67 (8 + 10 * i + 0) = 5
    · rw [s5]
      refine Wp.run 9 (174, [(4, .int ((mi' 66 14) - (3 * (zsum (shrF (fun k => uN (mi' 67) k 4) (fun k => uN (mi' 67) k 2) i) n)))), (3, .int ((mi' 66 14) + (mi' 67 (8 + 10 * i + 1)))), (0, .ref 66), (1, .int (nI i)), (2, .int (zsum (shrF (fun k => uN (mi' 67) k 4) (fun k => uN (mi' 67) k 2) i) n))], [.int (mi' 67 69), .int ((mi' 66 14) / 2)], (zsh ++ vs, mi', ml, (zmr g))) rfl ?_
      rw [show mi' 67 69 = nI dd from by rw [e67]; exact hd]
      refine Wp.run 2 (176, [(4, .int ((mi' 66 14) - (3 * (zsum (shrF (fun k => uN (mi' 67) k 4) (fun k => uN (mi' 67) k 2) i) n)))), (3, .int ((mi' 66 14) + (mi' 67 (8 + 10 * i + 1)))), (0, .ref 66), (1, .int (nI i)), (2, .int (zsum (shrF (fun k => uN (mi' 67) k 4) (fun k => uN (mi' 67) k 2) i) n))], [.int ((nI dd) - (nI dd) / 2 * 2), .int ((mi' 66 14) / 2)], (zsh ++ vs, mi', ml, (zmr g))) rfl ?_
      rw [show nI dd - nI dd / 2 * 2 = nI (dd % 2) from pk_rem (by omega) (by decide) (by decide)]
      refine Wp.run 1 (177, [(4, .int ((mi' 66 14) - (3 * (zsum (shrF (fun k => uN (mi' 67) k 4) (fun k => uN (mi' 67) k 2) i) n)))), (3, .int ((mi' 66 14) + (mi' 67 (8 + 10 * i + 1)))), (0, .ref 66), (1, .int (nI i)), (2, .int (zsum (shrF (fun k => uN (mi' 67) k 4) (fun k => uN (mi' 67) k 2) i) n))], [.int 1, .int (nI (dd % 2)), .int ((mi' 66 14) / 2)], (zsh ++ vs, mi', ml, (zmr g))) rfl ?_
      refine Wp.icmp_ne rfl (fun h2 => ?_) (fun h2 => ?_)
      · refine Wp.run 2 (191, [(4, .int ((mi' 66 14) - (3 * (zsum (shrF (fun k => uN (mi' 67) k 4) (fun k => uN (mi' 67) k 2) i) n)))), (3, .int ((mi' 66 14) + (mi' 67 (8 + 10 * i + 1)))), (0, .ref 66), (1, .int (nI i)), (2, .int (zsum (shrF (fun k => uN (mi' 67) k 4) (fun k => uN (mi' 67) k 2) i) n))], [.int (((mi' 66 14) / 2) - 0)], (zsh ++ vs, mi', ml, (zmr g))) rfl ?_
        refine Wp.ret rfl rfl rfl ?_
        refine ⟨?_, mi', rfl, hk⟩
        rw [← hs, ← e67, strU, if_neg s1, if_neg s2, if_neg s3, if_neg s4, if_pos s5]
        rw [if_neg (fun h => h2 (by rw [h]; rfl))]
      · refine Wp.run 3 (183, [(4, .int ((mi' 66 14) - (3 * (zsum (shrF (fun k => uN (mi' 67) k 4) (fun k => uN (mi' 67) k 2) i) n)))), (3, .int ((mi' 66 14) + (mi' 67 (8 + 10 * i + 1)))), (0, .ref 66), (1, .int (nI i)), (2, .int (zsum (shrF (fun k => uN (mi' 67) k 4) (fun k => uN (mi' 67) k 2) i) n))], [.int 1, .int (nI i), .ref 66, .int ((mi' 66 14) / 2)], (zsh ++ vs, mi', ml, (zmr g))) rfl ?_
        refine Wp.call (as := [.ref 66, .int (nI i), .int 1]) (rest := [.int ((mi' 66 14) / 2)]) rfl rfl rfl rfl rfl (Nat.le_of_ble_eq_true rfl) (Nat.le_of_ble_eq_true rfl) rfl (by decide) (m_one i 1 (by omega)) ?_
        rintro _ _ ⟨rfl, rfl⟩
        refine Wp.run 2 (191, [(4, .int ((mi' 66 14) - (3 * (zsum (shrF (fun k => uN (mi' 67) k 4) (fun k => uN (mi' 67) k 2) i) n)))), (3, .int ((mi' 66 14) + (mi' 67 (8 + 10 * i + 1)))), (0, .ref 66), (1, .int (nI i)), (2, .int (zsum (shrF (fun k => uN (mi' 67) k 4) (fun k => uN (mi' 67) k 2) i) n))], [.int (((mi' 66 14) / 2) - (mi' 67 (8 + 10 * i + 1)))], (zsh ++ vs, mi', ml, (zmr g))) rfl ?_
        refine Wp.ret rfl rfl rfl ?_
        refine ⟨?_, mi', rfl, hk⟩
        rw [← hs, ← e67, strU, if_neg s1, if_neg s2, if_neg s3, if_neg s4, if_pos s5]
        rw [if_pos ((nI_eq (by omega) (by decide)).mp h2)]
    by_cases s6 : mi' 67 (8 + 10 * i + 0) = 6
    · rw [s6]
      refine Wp.run 9 (205, [(4, .int ((mi' 66 14) - (3 * (zsum (shrF (fun k => uN (mi' 67) k 4) (fun k => uN (mi' 67) k 2) i) n)))), (3, .int ((mi' 66 14) + (mi' 67 (8 + 10 * i + 1)))), (0, .ref 66), (1, .int (nI i)), (2, .int (zsum (shrF (fun k => uN (mi' 67) k 4) (fun k => uN (mi' 67) k 2) i) n))], [.int (mi' 67 69), .int 6, .int (nI i), .ref 66, .int ((mi' 66 14) - (3 * (zsum (shrF (fun k => uN (mi' 67) k 4) (fun k => uN (mi' 67) k 2) i) n)))], (zsh ++ vs, mi', ml, (zmr g))) rfl ?_
      rw [show mi' 67 69 = nI dd from by rw [e67]; exact hd]
      refine Wp.run 2 (207, [(4, .int ((mi' 66 14) - (3 * (zsum (shrF (fun k => uN (mi' 67) k 4) (fun k => uN (mi' 67) k 2) i) n)))), (3, .int ((mi' 66 14) + (mi' 67 (8 + 10 * i + 1)))), (0, .ref 66), (1, .int (nI i)), (2, .int (zsum (shrF (fun k => uN (mi' 67) k 4) (fun k => uN (mi' 67) k 2) i) n))], [.int ((nI dd) - (nI dd) / 4 * 4), .int 6, .int (nI i), .ref 66, .int ((mi' 66 14) - (3 * (zsum (shrF (fun k => uN (mi' 67) k 4) (fun k => uN (mi' 67) k 2) i) n)))], (zsh ++ vs, mi', ml, (zmr g))) rfl ?_
      rw [show nI dd - nI dd / 4 * 4 = nI (dd % 4) from pk_rem (by omega) (by decide) (by decide)]
      refine Wp.run 1 (208, [(4, .int ((mi' 66 14) - (3 * (zsum (shrF (fun k => uN (mi' 67) k 4) (fun k => uN (mi' 67) k 2) i) n)))), (3, .int ((mi' 66 14) + (mi' 67 (8 + 10 * i + 1)))), (0, .ref 66), (1, .int (nI i)), (2, .int (zsum (shrF (fun k => uN (mi' 67) k 4) (fun k => uN (mi' 67) k 2) i) n))], [.int (6 + (nI (dd % 4))), .int (nI i), .ref 66, .int ((mi' 66 14) - (3 * (zsum (shrF (fun k => uN (mi' 67) k 4) (fun k => uN (mi' 67) k 2) i) n)))], (zsh ++ vs, mi', ml, (zmr g))) rfl ?_
      rw [show (6 : Int32) + nI (dd % 4) = nI (6 + dd % 4) from nI_add 6 _]
      refine Wp.run 0 (208, [(4, .int ((mi' 66 14) - (3 * (zsum (shrF (fun k => uN (mi' 67) k 4) (fun k => uN (mi' 67) k 2) i) n)))), (3, .int ((mi' 66 14) + (mi' 67 (8 + 10 * i + 1)))), (0, .ref 66), (1, .int (nI i)), (2, .int (zsum (shrF (fun k => uN (mi' 67) k 4) (fun k => uN (mi' 67) k 2) i) n))], [.int (nI (6 + dd % 4)), .int (nI i), .ref 66, .int ((mi' 66 14) - (3 * (zsum (shrF (fun k => uN (mi' 67) k 4) (fun k => uN (mi' 67) k 2) i) n)))], (zsh ++ vs, mi', ml, (zmr g))) rfl ?_
      refine Wp.call (as := [.ref 66, .int (nI i), .int (nI (6 + dd % 4))]) (rest := [.int ((mi' 66 14) - (3 * (zsum (shrF (fun k => uN (mi' 67) k 4) (fun k => uN (mi' 67) k 2) i) n)))]) rfl rfl rfl rfl rfl (Nat.le_of_ble_eq_true rfl) (Nat.le_of_ble_eq_true rfl) rfl (by decide) (m_one i (6 + dd % 4) (by omega)) ?_
      rintro _ _ ⟨rfl, rfl⟩
      refine Wp.run 1 (212, [(4, .int ((mi' 66 14) - (3 * (zsum (shrF (fun k => uN (mi' 67) k 4) (fun k => uN (mi' 67) k 2) i) n)))), (3, .int ((mi' 66 14) + (mi' 67 (8 + 10 * i + 1)))), (0, .ref 66), (1, .int (nI i)), (2, .int (zsum (shrF (fun k => uN (mi' 67) k 4) (fun k => uN (mi' 67) k 2) i) n))], [.int (((mi' 66 14) - (3 * (zsum (shrF (fun k => uN (mi' 67) k 4) (fun k => uN (mi' 67) k 2) i) n))) + (mi' 67 (8 + 10 * i + (6 + dd % 4))))], (zsh ++ vs, mi', ml, (zmr g))) rfl ?_
      refine Wp.ret rfl rfl rfl ?_
      refine ⟨?_, mi', rfl, hk⟩
      rw [← hs, ← e67, strU, if_neg s1, if_neg s2, if_neg s3, if_neg s4, if_neg s5, if_pos s6]
    refine Wp.tsw rfl (zsw_out (zsw16 _ s1 s2 s3 s4 s5 s6)) rfl ?_
    refine Wp.run 2 (217, [(4, .int ((mi' 66 14) - (3 * (zsum (shrF (fun k => uN (mi' 67) k 4) (fun k => uN (mi' 67) k 2) i) n)))), (3, .int ((mi' 66 14) + (mi' 67 (8 + 10 * i + 1)))), (0, .ref 66), (1, .int (nI i)), (2, .int (zsum (shrF (fun k => uN (mi' 67) k 4) (fun k => uN (mi' 67) k 2) i) n))], [.int (mi' 66 14)], (zsh ++ vs, mi', ml, (zmr g))) rfl ?_
    refine Wp.ret rfl rfl rfl ?_
    refine ⟨?_, mi', rfl, hk⟩
    rw [← hs, ← e67, strU, if_neg s1, if_neg s2, if_neg s3, if_neg s4, if_neg s5, if_neg s6]
  refine Wp.sub (a := [(0, .ref 66), (1, .int (nI i)), (2, .int (zsum (shrF (fun k => uN (mi' 67) k 4) (fun k => uN (mi' 67) k 2) i) 0)), (3, .int (nI 0))]) (zle_cons rfl (zle_cons rfl (zle_cons rfl (zle_cons rfl (zle_nil))))) ?_
  exact m_strain_l i hi (by rw [e67]; exact hn) h6 (by omega) K n 0 (by omega)
theorem m_anewNow {E : zEn} {vs : List (Nat × Nat)} {mi : Nat → Nat → Int32} {ml : Nat → Nat → Int64} {g : Nat → Nat → Option Nat} {X71 X72 : Nat → Int32} {rv : Int32 → Prop} {sm : Int32 → (Nat → Int32) → Int32} {an : Int32 → Int32} (H : RFs E X71 X72 rv sm an) (h71 : mi 71 = X71) (h72 : kH mi X72) (hrv : rv (mi 67 70)) {dd : Nat} (hdd : dd < 100000) (hd : mi 67 69 = nI dd) : Wp E 23 pg_M_anewNow 0 (lv_args 0 [.ref 66]) [] (zsh ++ vs, mi, ml, (zmr g)) (fun r w' => r = some (.int (an (mi 67 70))) ∧ ∃ mi', w' = (zsh ++ vs, mi', ml, zmr g) ∧ zKeep mi mi') := by
  refine Wp.run 2 (2, [(0, .ref 66)], [.int 0, .ref 66], (zsh ++ vs, mi, ml, (zmr g))) rfl ?_
  refine Wp.call (as := [.ref 66, .int 0]) (rest := []) rfl rfl rfl rfl rfl (Nat.le_of_ble_eq_true rfl) (Nat.le_of_ble_eq_true rfl) rfl (by decide) (H vs mi ml g 0 dd (by decide) hdd hd h71 h72 hrv) ?_
  rintro _ _ ⟨rfl, mi', rfl, hk, hs, ha⟩
  have e67 : mi' 67 = mi 67 := hk.1 67 (by decide) (by decide) (by decide)
  refine Wp.run 2 (9, [(0, .ref 66)], [.int (mi' 66 15)], (zsh ++ vs, mi', ml, (zmr g))) rfl ?_
  refine Wp.ret rfl rfl rfl ?_
  exact ⟨by rw [ha], mi', rfl, hk⟩
