/-! SUMS OVER THE SINGERS; a view: u k f is singer k's number f (0 kind, 1 v, 2 holds, 3 memory, 4 away, 5 forgot, 6 + d its row) -/
def zsum (f : Nat → Int32) : Nat → Int32
  | 0 => 0
  | n + 1 => zsum f n + f n
def zor (f : Nat → Int32) : Nat → Int32
  | 0 => 0
  | n + 1 => zor f n ||| f n
abbrev uN (N : Nat → Int32) (k f : Nat) : Int32 := N (8 + 10 * k + f)
abbrev keptF (u : Nat → Nat → Int32) (k : Nat) : Int32 := if u k 4 = 0 then u k 2 else 0
abbrev awaysF (u : Nat → Nat → Int32) (k : Nat) : Int32 := if u k 4 = 0 then 0 else 1 <<< (nI k &&& 31)
abbrev holdF (u : Nat → Nat → Int32) (x : Int32) (k : Nat) : Int32 := if u k 4 = 0 ∧ u k 2 >>> (x &&& 31) &&& 1 = 1 then 1 else 0
theorem m_keptNow_l {E : zEn} {vs : List (Nat × Nat)} {mi : Nat → Nat → Int32} {ml : Nat → Nat → Int64} {g : Nat → Nat → Option Nat}  {n : Nat} (hn : mi 67 68 = nI n) (h6 : n ≤ 6) {P : Option Value → zW → Prop} (hn9 : n < 2147483648) (K : Wp E 2 pg_M_keptNow 42 [(0, .ref 66), (1, .int (zor (keptF (uN (mi 67))) n)), (2, .int (nI n))] [] (zsh ++ vs, mi, ml, (zmr g)) P) : ∀ (k j : Nat), j + k = n → Wp E 2 pg_M_keptNow 4 [(0, .ref 66), (1, .int (zor (keptF (uN (mi 67))) j)), (2, .int (nI j))] [] (zsh ++ vs, mi, ml, (zmr g)) P := by
  intro k
  induction k with
  | zero =>
    intro j hj9
    obtain rfl : n = j := by omega
    refine Wp.run 5 (12, [(0, .ref 66), (1, .int (zor (keptF (uN (mi 67))) n)), (2, .int (nI n))], [.int (mi 67 68), .int (nI n)], (zsh ++ vs, mi, ml, (zmr g))) rfl ?_
    rw [hn]
    refine Wp.run 0 (12, [(0, .ref 66), (1, .int (zor (keptF (uN (mi 67))) n)), (2, .int (nI n))], [.int (nI n), .int (nI n)], (zsh ++ vs, mi, ml, (zmr g))) rfl ?_
    refine Wp.icmp_ge rfl (fun h1 => ?_) (fun h1 => ?_)
    · exact K
    · exact absurd (Int32.le_refl _) h1
  | succ k ih =>
    intro j hj9
    have hlt9 : j < n := by omega
    refine Wp.run 5 (12, [(0, .ref 66), (1, .int (zor (keptF (uN (mi 67))) j)), (2, .int (nI j))], [.int (mi 67 68), .int (nI j)], (zsh ++ vs, mi, ml, (zmr g))) rfl ?_
    rw [hn]
    refine Wp.run 0 (12, [(0, .ref 66), (1, .int (zor (keptF (uN (mi 67))) j)), (2, .int (nI j))], [.int (nI n), .int (nI j)], (zsh ++ vs, mi, ml, (zmr g))) rfl ?_
    refine Wp.icmp_ge rfl (fun h1 => ?_) (fun h1 => ?_)
    · exact absurd h1 (nI_ge hlt9 hn9)
    · refine Wp.run 3 (18, [(0, .ref 66), (1, .int (zor (keptF (uN (mi 67))) j)), (2, .int (nI j))], [.int (nI j), .ref 66, .int (zor (keptF (uN (mi 67))) j)], (zsh ++ vs, mi, ml, (zmr g))) rfl ?_
      refine Wp.call (as := [.ref 66, .int (nI j)]) (rest := [.int (zor (keptF (uN (mi 67))) j)]) rfl rfl rfl rfl rfl (Nat.le_of_ble_eq_true rfl) (Nat.le_of_ble_eq_true rfl) rfl (by decide) (m_isHere j (by omega)) ?_
      rintro _ _ ⟨rfl, rfl⟩
      by_cases c4 : mi 67 (8 + 10 * j + 4) = 0
      · rw [if_pos c4]
        refine Wp.run 4 (27, [(0, .ref 66), (1, .int (zor (keptF (uN (mi 67))) j)), (2, .int (nI j))], [.int 2, .int (nI j), .ref 66, .int (zor (keptF (uN (mi 67))) j)], (zsh ++ vs, mi, ml, (zmr g))) rfl ?_
        refine Wp.call (as := [.ref 66, .int (nI j), .int 2]) (rest := [.int (zor (keptF (uN (mi 67))) j)]) rfl rfl rfl rfl rfl (Nat.le_of_ble_eq_true rfl) (Nat.le_of_ble_eq_true rfl) rfl (by decide) (m_one j 2 (by omega)) ?_
        rintro _ _ ⟨rfl, rfl⟩
        refine Wp.run 5 (4, [(2, .int ((nI j) + 1)), (1, .int ((zor (keptF (uN (mi 67))) j) ||| (mi 67 (8 + 10 * j + 2)))), (0, .ref 66)], [], (zsh ++ vs, mi, ml, (zmr g))) rfl ?_
        rw [show (zor (keptF (uN (mi 67))) j) ||| (mi 67 (8 + 10 * j + 2)) = zor (keptF (uN (mi 67))) (j + 1) from (by rw [zor, keptF, if_pos c4])]
        rw [nI_1]
        refine Wp.sub (a := [(0, .ref 66), (1, .int (zor (keptF (uN (mi 67))) (j + 1))), (2, .int (nI (j + 1)))]) (zle_cons rfl (zle_cons rfl (zle_cons rfl (zle_nil)))) ?_
        exact ih (j + 1) (by omega)
      · rw [if_neg c4]
        refine Wp.run 6 (4, [(2, .int ((nI j) + 1)), (1, .int ((zor (keptF (uN (mi 67))) j) ||| 0)), (0, .ref 66)], [], (zsh ++ vs, mi, ml, (zmr g))) rfl ?_
        rw [show (zor (keptF (uN (mi 67))) j) ||| 0 = zor (keptF (uN (mi 67))) (j + 1) from (by rw [zor, keptF, if_neg c4])]
        rw [nI_1]
        refine Wp.sub (a := [(0, .ref 66), (1, .int (zor (keptF (uN (mi 67))) (j + 1))), (2, .int (nI (j + 1)))]) (zle_cons rfl (zle_cons rfl (zle_cons rfl (zle_nil)))) ?_
        exact ih (j + 1) (by omega)
theorem m_keptNow {E : zEn} {vs : List (Nat × Nat)} {mi : Nat → Nat → Int32} {ml : Nat → Nat → Int64} {g : Nat → Nat → Option Nat}  {n : Nat} (hn : mi 67 68 = nI n) (h6 : n ≤ 6) : Wp E 2 pg_M_keptNow 0 (lv_args 0 [.ref 66]) [] (zsh ++ vs, mi, ml, (zmr g)) (fun r w' => r = some (.int (zor (keptF (uN (mi 67))) n)) ∧ w' = (zsh ++ vs, mi, ml, zmr g)) := by
  have K : Wp E 2 pg_M_keptNow 42 [(0, .ref 66), (1, .int (zor (keptF (uN (mi 67))) n)), (2, .int (nI n))] [] (zsh ++ vs, mi, ml, (zmr g)) (fun r w' => r = some (.int (zor (keptF (uN (mi 67))) n)) ∧ w' = (zsh ++ vs, mi, ml, zmr g)) := by
    refine Wp.run 1 (43, [(0, .ref 66), (1, .int (zor (keptF (uN (mi 67))) n)), (2, .int (nI n))], [.int (zor (keptF (uN (mi 67))) n)], (zsh ++ vs, mi, ml, (zmr g))) rfl ?_
    refine Wp.ret rfl rfl rfl ?_
    exact ⟨rfl, rfl⟩
  refine Wp.run 4 (4, [(2, .int 0), (1, .int 0), (0, .ref 66)], [], (zsh ++ vs, mi, ml, (zmr g))) rfl ?_
  refine Wp.sub (a := [(0, .ref 66), (1, .int (zor (keptF (uN (mi 67))) 0)), (2, .int (nI 0))]) (zle_cons rfl (zle_cons rfl (zle_cons rfl (zle_nil)))) ?_
  exact m_keptNow_l hn h6 (by omega) K n 0 (by omega)
theorem m_aways_l {E : zEn} {vs : List (Nat × Nat)} {mi : Nat → Nat → Int32} {ml : Nat → Nat → Int64} {g : Nat → Nat → Option Nat}  {n : Nat} (hn : mi 67 68 = nI n) (h6 : n ≤ 6) {P : Option Value → zW → Prop} (hn9 : n < 2147483648) (K : Wp E 2 pg_M_aways 39 [(0, .ref 66), (1, .int (zor (awaysF (uN (mi 67))) n)), (2, .int (nI n))] [] (zsh ++ vs, mi, ml, (zmr g)) P) : ∀ (k j : Nat), j + k = n → Wp E 2 pg_M_aways 4 [(0, .ref 66), (1, .int (zor (awaysF (uN (mi 67))) j)), (2, .int (nI j))] [] (zsh ++ vs, mi, ml, (zmr g)) P := by
  intro k
  induction k with
  | zero =>
    intro j hj9
    obtain rfl : n = j := by omega
    refine Wp.run 5 (12, [(0, .ref 66), (1, .int (zor (awaysF (uN (mi 67))) n)), (2, .int (nI n))], [.int (mi 67 68), .int (nI n)], (zsh ++ vs, mi, ml, (zmr g))) rfl ?_
    rw [hn]
    refine Wp.run 0 (12, [(0, .ref 66), (1, .int (zor (awaysF (uN (mi 67))) n)), (2, .int (nI n))], [.int (nI n), .int (nI n)], (zsh ++ vs, mi, ml, (zmr g))) rfl ?_
    refine Wp.icmp_ge rfl (fun h1 => ?_) (fun h1 => ?_)
    · exact K
    · exact absurd (Int32.le_refl _) h1
  | succ k ih =>
    intro j hj9
    have hlt9 : j < n := by omega
    refine Wp.run 5 (12, [(0, .ref 66), (1, .int (zor (awaysF (uN (mi 67))) j)), (2, .int (nI j))], [.int (mi 67 68), .int (nI j)], (zsh ++ vs, mi, ml, (zmr g))) rfl ?_
    rw [hn]
    refine Wp.run 0 (12, [(0, .ref 66), (1, .int (zor (awaysF (uN (mi 67))) j)), (2, .int (nI j))], [.int (nI n), .int (nI j)], (zsh ++ vs, mi, ml, (zmr g))) rfl ?_
    refine Wp.icmp_ge rfl (fun h1 => ?_) (fun h1 => ?_)
    · exact absurd h1 (nI_ge hlt9 hn9)
    · refine Wp.run 3 (18, [(0, .ref 66), (1, .int (zor (awaysF (uN (mi 67))) j)), (2, .int (nI j))], [.int (nI j), .ref 66, .int (zor (awaysF (uN (mi 67))) j)], (zsh ++ vs, mi, ml, (zmr g))) rfl ?_
      refine Wp.call (as := [.ref 66, .int (nI j)]) (rest := [.int (zor (awaysF (uN (mi 67))) j)]) rfl rfl rfl rfl rfl (Nat.le_of_ble_eq_true rfl) (Nat.le_of_ble_eq_true rfl) rfl (by decide) (m_isHere j (by omega)) ?_
      rintro _ _ ⟨rfl, rfl⟩
      by_cases c5 : mi 67 (8 + 10 * j + 4) = 0
      · rw [if_pos c5]
        refine Wp.run 7 (4, [(2, .int ((nI j) + 1)), (1, .int ((zor (awaysF (uN (mi 67))) j) ||| 0)), (0, .ref 66)], [], (zsh ++ vs, mi, ml, (zmr g))) rfl ?_
        rw [show (zor (awaysF (uN (mi 67))) j) ||| 0 = zor (awaysF (uN (mi 67))) (j + 1) from (by rw [zor, awaysF, if_pos c5])]
        rw [nI_1]
        refine Wp.sub (a := [(0, .ref 66), (1, .int (zor (awaysF (uN (mi 67))) (j + 1))), (2, .int (nI (j + 1)))]) (zle_cons rfl (zle_cons rfl (zle_cons rfl (zle_nil)))) ?_
        exact ih (j + 1) (by omega)
      · rw [if_neg c5]
        refine Wp.run 8 (4, [(2, .int ((nI j) + 1)), (1, .int ((zor (awaysF (uN (mi 67))) j) ||| ((1 : Int32) <<< ((nI j) &&& 31)))), (0, .ref 66)], [], (zsh ++ vs, mi, ml, (zmr g))) rfl ?_
        rw [show (zor (awaysF (uN (mi 67))) j) ||| ((1 : Int32) <<< ((nI j) &&& 31)) = zor (awaysF (uN (mi 67))) (j + 1) from (by rw [zor, awaysF, if_neg c5])]
        rw [nI_1]
        refine Wp.sub (a := [(0, .ref 66), (1, .int (zor (awaysF (uN (mi 67))) (j + 1))), (2, .int (nI (j + 1)))]) (zle_cons rfl (zle_cons rfl (zle_cons rfl (zle_nil)))) ?_
        exact ih (j + 1) (by omega)
theorem m_aways {E : zEn} {vs : List (Nat × Nat)} {mi : Nat → Nat → Int32} {ml : Nat → Nat → Int64} {g : Nat → Nat → Option Nat}  {n : Nat} (hn : mi 67 68 = nI n) (h6 : n ≤ 6) : Wp E 2 pg_M_aways 0 (lv_args 0 [.ref 66]) [] (zsh ++ vs, mi, ml, (zmr g)) (fun r w' => r = some (.int (zor (awaysF (uN (mi 67))) n)) ∧ w' = (zsh ++ vs, mi, ml, zmr g)) := by
  have K : Wp E 2 pg_M_aways 39 [(0, .ref 66), (1, .int (zor (awaysF (uN (mi 67))) n)), (2, .int (nI n))] [] (zsh ++ vs, mi, ml, (zmr g)) (fun r w' => r = some (.int (zor (awaysF (uN (mi 67))) n)) ∧ w' = (zsh ++ vs, mi, ml, zmr g)) := by
    refine Wp.run 1 (40, [(0, .ref 66), (1, .int (zor (awaysF (uN (mi 67))) n)), (2, .int (nI n))], [.int (zor (awaysF (uN (mi 67))) n)], (zsh ++ vs, mi, ml, (zmr g))) rfl ?_
    refine Wp.ret rfl rfl rfl ?_
    exact ⟨rfl, rfl⟩
  refine Wp.run 4 (4, [(2, .int 0), (1, .int 0), (0, .ref 66)], [], (zsh ++ vs, mi, ml, (zmr g))) rfl ?_
  refine Wp.sub (a := [(0, .ref 66), (1, .int (zor (awaysF (uN (mi 67))) 0)), (2, .int (nI 0))]) (zle_cons rfl (zle_cons rfl (zle_cons rfl (zle_nil)))) ?_
  exact m_aways_l hn h6 (by omega) K n 0 (by omega)
theorem m_holders_l {E : zEn} {vs : List (Nat × Nat)} {mi : Nat → Nat → Int32} {ml : Nat → Nat → Int64} {g : Nat → Nat → Option Nat} (x : Int32) {n : Nat} (hn : mi 67 68 = nI n) (h6 : n ≤ 6) {P : Option Value → zW → Prop} (hn9 : n < 2147483648) (K : Wp E 2 pg_M_holders 46 [(0, .ref 66), (1, .int x), (2, .int (zsum (holdF (uN (mi 67)) x) n)), (3, .int (nI n))] [] (zsh ++ vs, mi, ml, (zmr g)) P) : ∀ (k j : Nat), j + k = n → Wp E 2 pg_M_holders 4 [(0, .ref 66), (1, .int x), (2, .int (zsum (holdF (uN (mi 67)) x) j)), (3, .int (nI j))] [] (zsh ++ vs, mi, ml, (zmr g)) P := by
  intro k
  induction k with
  | zero =>
    intro j hj9
    obtain rfl : n = j := by omega
    refine Wp.run 5 (12, [(0, .ref 66), (1, .int x), (2, .int (zsum (holdF (uN (mi 67)) x) n)), (3, .int (nI n))], [.int (mi 67 68), .int (nI n)], (zsh ++ vs, mi, ml, (zmr g))) rfl ?_
    rw [hn]
    refine Wp.run 0 (12, [(0, .ref 66), (1, .int x), (2, .int (zsum (holdF (uN (mi 67)) x) n)), (3, .int (nI n))], [.int (nI n), .int (nI n)], (zsh ++ vs, mi, ml, (zmr g))) rfl ?_
    refine Wp.icmp_ge rfl (fun h1 => ?_) (fun h1 => ?_)
    · exact K
    · exact absurd (Int32.le_refl _) h1
  | succ k ih =>
    intro j hj9
    have hlt9 : j < n := by omega
    refine Wp.run 5 (12, [(0, .ref 66), (1, .int x), (2, .int (zsum (holdF (uN (mi 67)) x) j)), (3, .int (nI j))], [.int (mi 67 68), .int (nI j)], (zsh ++ vs, mi, ml, (zmr g))) rfl ?_
    rw [hn]
    refine Wp.run 0 (12, [(0, .ref 66), (1, .int x), (2, .int (zsum (holdF (uN (mi 67)) x) j)), (3, .int (nI j))], [.int (nI n), .int (nI j)], (zsh ++ vs, mi, ml, (zmr g))) rfl ?_
    refine Wp.icmp_ge rfl (fun h1 => ?_) (fun h1 => ?_)
    · exact absurd h1 (nI_ge hlt9 hn9)
    · refine Wp.run 3 (18, [(0, .ref 66), (1, .int x), (2, .int (zsum (holdF (uN (mi 67)) x) j)), (3, .int (nI j))], [.int (nI j), .ref 66, .int (zsum (holdF (uN (mi 67)) x) j)], (zsh ++ vs, mi, ml, (zmr g))) rfl ?_
      refine Wp.call (as := [.ref 66, .int (nI j)]) (rest := [.int (zsum (holdF (uN (mi 67)) x) j)]) rfl rfl rfl rfl rfl (Nat.le_of_ble_eq_true rfl) (Nat.le_of_ble_eq_true rfl) rfl (by decide) (m_isHere j (by omega)) ?_
      rintro _ _ ⟨rfl, rfl⟩
      by_cases c6 : mi 67 (8 + 10 * j + 4) = 0
      · rw [if_pos c6]
        refine Wp.run 4 (27, [(0, .ref 66), (1, .int x), (2, .int (zsum (holdF (uN (mi 67)) x) j)), (3, .int (nI j))], [.int x, .int (nI j), .ref 66, .int (zsum (holdF (uN (mi 67)) x) j)], (zsh ++ vs, mi, ml, (zmr g))) rfl ?_
        refine Wp.call (as := [.ref 66, .int (nI j), .int x]) (rest := [.int (zsum (holdF (uN (mi 67)) x) j)]) rfl rfl rfl rfl rfl (Nat.le_of_ble_eq_true rfl) (Nat.le_of_ble_eq_true rfl) rfl (by decide) (m_isHeld j x (by omega)) ?_
        rintro _ _ ⟨rfl, rfl⟩
        by_cases c7 : mi 67 (8 + 10 * j + 2) >>> (x &&& 31) &&& 1 = 1
        · rw [if_pos c7]
          refine Wp.run 7 (4, [(3, .int ((nI j) + 1)), (2, .int ((zsum (holdF (uN (mi 67)) x) j) + 1)), (0, .ref 66), (1, .int x)], [], (zsh ++ vs, mi, ml, (zmr g))) rfl ?_
          rw [show (zsum (holdF (uN (mi 67)) x) j) + 1 = zsum (holdF (uN (mi 67)) x) (j + 1) from (by rw [zsum, holdF, if_pos ⟨c6, c7⟩])]
          rw [nI_1]
          refine Wp.sub (a := [(0, .ref 66), (1, .int x), (2, .int (zsum (holdF (uN (mi 67)) x) (j + 1))), (3, .int (nI (j + 1)))]) (zle_cons rfl (zle_cons rfl (zle_cons rfl (zle_cons rfl (zle_nil))))) ?_
          exact ih (j + 1) (by omega)
        · rw [if_neg c7]
          refine Wp.run 6 (4, [(3, .int ((nI j) + 1)), (2, .int ((zsum (holdF (uN (mi 67)) x) j) + 0)), (0, .ref 66), (1, .int x)], [], (zsh ++ vs, mi, ml, (zmr g))) rfl ?_
          rw [show (zsum (holdF (uN (mi 67)) x) j) + 0 = zsum (holdF (uN (mi 67)) x) (j + 1) from (by rw [zsum, holdF, if_neg (fun h => c7 h.2)])]
          rw [nI_1]
          refine Wp.sub (a := [(0, .ref 66), (1, .int x), (2, .int (zsum (holdF (uN (mi 67)) x) (j + 1))), (3, .int (nI (j + 1)))]) (zle_cons rfl (zle_cons rfl (zle_cons rfl (zle_cons rfl (zle_nil))))) ?_
          exact ih (j + 1) (by omega)
      · rw [if_neg c6]
        refine Wp.run 6 (4, [(3, .int ((nI j) + 1)), (2, .int ((zsum (holdF (uN (mi 67)) x) j) + 0)), (0, .ref 66), (1, .int x)], [], (zsh ++ vs, mi, ml, (zmr g))) rfl ?_
        rw [show (zsum (holdF (uN (mi 67)) x) j) + 0 = zsum (holdF (uN (mi 67)) x) (j + 1) from (by rw [zsum, holdF, if_neg (fun h => c6 h.1)])]
        rw [nI_1]
        refine Wp.sub (a := [(0, .ref 66), (1, .int x), (2, .int (zsum (holdF (uN (mi 67)) x) (j + 1))), (3, .int (nI (j + 1)))]) (zle_cons rfl (zle_cons rfl (zle_cons rfl (zle_cons rfl (zle_nil))))) ?_
        exact ih (j + 1) (by omega)
theorem m_holders {E : zEn} {vs : List (Nat × Nat)} {mi : Nat → Nat → Int32} {ml : Nat → Nat → Int64} {g : Nat → Nat → Option Nat} (x : Int32) {n : Nat} (hn : mi 67 68 = nI n) (h6 : n ≤ 6) : Wp E 2 pg_M_holders 0 (lv_args 0 [.ref 66, .int x]) [] (zsh ++ vs, mi, ml, (zmr g)) (fun r w' => r = some (.int (zsum (holdF (uN (mi 67)) x) n)) ∧ w' = (zsh ++ vs, mi, ml, zmr g)) := by
  have K : Wp E 2 pg_M_holders 46 [(0, .ref 66), (1, .int x), (2, .int (zsum (holdF (uN (mi 67)) x) n)), (3, .int (nI n))] [] (zsh ++ vs, mi, ml, (zmr g)) (fun r w' => r = some (.int (zsum (holdF (uN (mi 67)) x) n)) ∧ w' = (zsh ++ vs, mi, ml, zmr g)) := by
    refine Wp.run 1 (47, [(0, .ref 66), (1, .int x), (2, .int (zsum (holdF (uN (mi 67)) x) n)), (3, .int (nI n))], [.int (zsum (holdF (uN (mi 67)) x) n)], (zsh ++ vs, mi, ml, (zmr g))) rfl ?_
    refine Wp.ret rfl rfl rfl ?_
    exact ⟨rfl, rfl⟩
  refine Wp.run 4 (4, [(3, .int 0), (2, .int 0), (0, .ref 66), (1, .int x)], [], (zsh ++ vs, mi, ml, (zmr g))) rfl ?_
  refine Wp.sub (a := [(0, .ref 66), (1, .int x), (2, .int (zsum (holdF (uN (mi 67)) x) 0)), (3, .int (nI 0))]) (zle_cons rfl (zle_cons rfl (zle_cons rfl (zle_cons rfl (zle_nil))))) ?_
  exact m_holders_l x hn h6 (by omega) K n 0 (by omega)
