/-! THE CLASS: Band's loops -/
/-- the parts of those in a set, once and twice -/
abbrev sungF (set : Int32) (h : Nat → Int32) (k : Nat) : Int32 := if set >>> (nI k &&& 31) &&& 1 = 1 then h k else 0
def ztw (f : Nat → Int32) : Nat → Int32
  | 0 => 0
  | n + 1 => ztw f n ||| (zor f n &&& f n)
/-- a band's view -/
abbrev awB (mi : Nat → Nat → Int32) (a k : Nat) : Int32 := mi a 2 >>> (nI k &&& 31) &&& 1
abbrev hldB (mi : Nat → Nat → Int32) (a : Nat) (h : Nat → Int32) (x : Int32) (k : Nat) : Int32 := if awB mi a k = 0 then h k >>> (x &&& 31) &&& 1 else 0
abbrev shrF (aw h : Nat → Int32) (i k : Nat) : Int32 := if ¬ nI k = nI i ∧ aw k = 0 ∧ ¬ (h k &&& h i = 0) then 1 else 0
theorem c_sungBy_l1 {E : zEn} {vs : List (Nat × Nat)} {mi : Nat → Nat → Int32} {ml : Nat → Nat → Int64} {g : Nat → Nat → Option Nat} (set tw : Int32) {n : Nat} (hn : mi 1 0 = nI n) (h6 : n ≤ 6) {P : Option Value → zW → Prop} (hn9 : n < 2147483648) (K : Wp E 1 pg_Band_sungBy 57 [(0, .ref 1), (1, .int set), (2, .int tw), (3, .int (zor (sungF set (mi 5)) n)), (4, .int (ztw (sungF set (mi 5)) n)), (5, .int (nI n))] [] (zsh ++ vs, mi, ml, (zmr g)) P) : ∀ (k j : Nat), j + k = n → Wp E 1 pg_Band_sungBy 8 [(0, .ref 1), (1, .int set), (2, .int tw), (3, .int (zor (sungF set (mi 5)) j)), (4, .int (ztw (sungF set (mi 5)) j)), (5, .int (nI j))] [] (zsh ++ vs, mi, ml, (zmr g)) P := by
  intro k
  induction k with
  | zero =>
    intro j hj9
    obtain rfl : n = j := by omega
    refine Wp.run 3 (14, [(0, .ref 1), (1, .int set), (2, .int tw), (3, .int (zor (sungF set (mi 5)) n)), (4, .int (ztw (sungF set (mi 5)) n)), (5, .int (nI n))], [.int (mi 1 0), .int (nI n)], (zsh ++ vs, mi, ml, (zmr g))) rfl ?_
    rw [hn]
    refine Wp.run 0 (14, [(0, .ref 1), (1, .int set), (2, .int tw), (3, .int (zor (sungF set (mi 5)) n)), (4, .int (ztw (sungF set (mi 5)) n)), (5, .int (nI n))], [.int (nI n), .int (nI n)], (zsh ++ vs, mi, ml, (zmr g))) rfl ?_
    refine Wp.icmp_ge rfl (fun h1 => ?_) (fun h1 => ?_)
    · exact K
    · exact absurd (Int32.le_refl _) h1
  | succ k ih =>
    intro j hj9
    have hlt9 : j < n := by omega
    refine Wp.run 3 (14, [(0, .ref 1), (1, .int set), (2, .int tw), (3, .int (zor (sungF set (mi 5)) j)), (4, .int (ztw (sungF set (mi 5)) j)), (5, .int (nI j))], [.int (mi 1 0), .int (nI j)], (zsh ++ vs, mi, ml, (zmr g))) rfl ?_
    rw [hn]
    refine Wp.run 0 (14, [(0, .ref 1), (1, .int set), (2, .int tw), (3, .int (zor (sungF set (mi 5)) j)), (4, .int (ztw (sungF set (mi 5)) j)), (5, .int (nI j))], [.int (nI n), .int (nI j)], (zsh ++ vs, mi, ml, (zmr g))) rfl ?_
    refine Wp.icmp_ge rfl (fun h1 => ?_) (fun h1 => ?_)
    · exact absurd h1 (nI_ge hlt9 hn9)
    · refine Wp.run 2 (20, [(0, .ref 1), (1, .int set), (2, .int tw), (3, .int (zor (sungF set (mi 5)) j)), (4, .int (ztw (sungF set (mi 5)) j)), (5, .int (nI j))], [.int (nI j), .int set], (zsh ++ vs, mi, ml, (zmr g))) rfl ?_
      refine Wp.call (as := [.int set, .int (nI j)]) (rest := []) rfl rfl rfl rfl rfl (Nat.le_of_ble_eq_true rfl) (Nat.le_of_ble_eq_true rfl) rfl (by decide) (c_bit set (nI j)) ?_
      rintro _ _ ⟨rfl, rfl⟩
      refine Wp.run 1 (24, [(0, .ref 1), (1, .int set), (2, .int tw), (3, .int (zor (sungF set (mi 5)) j)), (4, .int (ztw (sungF set (mi 5)) j)), (5, .int (nI j))], [.int 1, .int (set >>> ((nI j) &&& 31) &&& 1)], (zsh ++ vs, mi, ml, (zmr g))) rfl ?_
      refine Wp.icmp_ne rfl (fun h2 => ?_) (fun h2 => ?_)
      · refine Wp.run 2 (8, [(5, .int ((nI j) + 1)), (0, .ref 1), (1, .int set), (2, .int tw), (3, .int (zor (sungF set (mi 5)) j)), (4, .int (ztw (sungF set (mi 5)) j))], [], (zsh ++ vs, mi, ml, (zmr g))) rfl ?_
        rw [show ztw (sungF set (mi 5)) j = ztw (sungF set (mi 5)) (j + 1) from (by rw [ztw, sungF, if_neg h2, and_zero, or_zero])]
        rw [show zor (sungF set (mi 5)) j = zor (sungF set (mi 5)) (j + 1) from (by rw [zor, sungF, if_neg h2, or_zero])]
        rw [nI_1]
        refine Wp.sub (a := [(0, .ref 1), (1, .int set), (2, .int tw), (3, .int (zor (sungF set (mi 5)) (j + 1))), (4, .int (ztw (sungF set (mi 5)) (j + 1))), (5, .int (nI (j + 1)))]) (zle_cons rfl (zle_cons rfl (zle_cons rfl (zle_cons rfl (zle_cons rfl (zle_cons rfl (zle_nil))))))) ?_
        exact ih (j + 1) (by omega)
      · refine Wp.run 5 (36, [(0, .ref 1), (1, .int set), (2, .int tw), (3, .int (zor (sungF set (mi 5)) j)), (4, .int (ztw (sungF set (mi 5)) j)), (5, .int (nI j))], [.int (nI j), .ref 5, .int (zor (sungF set (mi 5)) j), .int (ztw (sungF set (mi 5)) j)], (zsh ++ vs, mi, ml, (zmr g))) rfl ?_
        refine Wp.ialn rfl (by decide) rfl (by omega) (by decide) ?_
        refine Wp.run 7 (48, [(4, .int ((ztw (sungF set (mi 5)) j) ||| ((zor (sungF set (mi 5)) j) &&& (mi 5 j)))), (0, .ref 1), (1, .int set), (2, .int tw), (3, .int (zor (sungF set (mi 5)) j)), (5, .int (nI j))], [.int (nI j), .ref 5, .int (zor (sungF set (mi 5)) j)], (zsh ++ vs, mi, ml, (zmr g))) rfl ?_
        refine Wp.ialn rfl (by decide) rfl (by omega) (by decide) ?_
        refine Wp.run 4 (8, [(5, .int ((nI j) + 1)), (3, .int ((zor (sungF set (mi 5)) j) ||| (mi 5 j))), (4, .int ((ztw (sungF set (mi 5)) j) ||| ((zor (sungF set (mi 5)) j) &&& (mi 5 j)))), (0, .ref 1), (1, .int set), (2, .int tw)], [], (zsh ++ vs, mi, ml, (zmr g))) rfl ?_
        rw [show (ztw (sungF set (mi 5)) j) ||| ((zor (sungF set (mi 5)) j) &&& (mi 5 j)) = ztw (sungF set (mi 5)) (j + 1) from (by rw [ztw, sungF, if_pos h2])]
        rw [show (zor (sungF set (mi 5)) j) ||| (mi 5 j) = zor (sungF set (mi 5)) (j + 1) from (by rw [zor, sungF, if_pos h2])]
        rw [nI_1]
        refine Wp.sub (a := [(0, .ref 1), (1, .int set), (2, .int tw), (3, .int (zor (sungF set (mi 5)) (j + 1))), (4, .int (ztw (sungF set (mi 5)) (j + 1))), (5, .int (nI (j + 1)))]) (zle_cons rfl (zle_cons rfl (zle_cons rfl (zle_cons rfl (zle_cons rfl (zle_cons rfl (zle_nil))))))) ?_
        exact ih (j + 1) (by omega)
theorem c_sungBy0_1 {E : zEn} {vs : List (Nat × Nat)} {mi : Nat → Nat → Int32} {ml : Nat → Nat → Int64} {g : Nat → Nat → Option Nat} (set : Int32) {n : Nat} (hn : mi 1 0 = nI n) (h6 : n ≤ 6) : Wp E 1 pg_Band_sungBy 0 (lv_args 0 [.ref 1, .int set, .int 0]) [] (zsh ++ vs, mi, ml, (zmr g)) (fun r w' => r = some (.int (zor (sungF set (mi 5)) n)) ∧ w' = (zsh ++ vs, mi, ml, zmr g)) := by
  have K : Wp E 1 pg_Band_sungBy 57 [(0, .ref 1), (1, .int set), (2, .int 0), (3, .int (zor (sungF set (mi 5)) n)), (4, .int (ztw (sungF set (mi 5)) n)), (5, .int (nI n))] [] (zsh ++ vs, mi, ml, (zmr g)) (fun r w' => r = some (.int (zor (sungF set (mi 5)) n)) ∧ w' = (zsh ++ vs, mi, ml, zmr g)) := by
    refine Wp.run 3 (67, [(0, .ref 1), (1, .int set), (2, .int 0), (3, .int (zor (sungF set (mi 5)) n)), (4, .int (ztw (sungF set (mi 5)) n)), (5, .int (nI n))], [.int (zor (sungF set (mi 5)) n)], (zsh ++ vs, mi, ml, (zmr g))) rfl ?_
    refine Wp.ret rfl rfl rfl ?_
    exact ⟨rfl, rfl⟩
  refine Wp.run 6 (8, [(5, .int 0), (4, .int 0), (3, .int 0), (0, .ref 1), (1, .int set), (2, .int 0)], [], (zsh ++ vs, mi, ml, (zmr g))) rfl ?_
  refine Wp.sub (a := [(0, .ref 1), (1, .int set), (2, .int 0), (3, .int (zor (sungF set (mi 5)) 0)), (4, .int (ztw (sungF set (mi 5)) 0)), (5, .int (nI 0))]) (zle_cons rfl (zle_cons rfl (zle_cons rfl (zle_cons rfl (zle_cons rfl (zle_cons rfl (zle_nil))))))) ?_
  exact c_sungBy_l1 set 0 hn h6 (by omega) K n 0 (by omega)
theorem c_sungBy1_1 {E : zEn} {vs : List (Nat × Nat)} {mi : Nat → Nat → Int32} {ml : Nat → Nat → Int64} {g : Nat → Nat → Option Nat} (set : Int32) {n : Nat} (hn : mi 1 0 = nI n) (h6 : n ≤ 6) : Wp E 1 pg_Band_sungBy 0 (lv_args 0 [.ref 1, .int set, .int 1]) [] (zsh ++ vs, mi, ml, (zmr g)) (fun r w' => r = some (.int (ztw (sungF set (mi 5)) n)) ∧ w' = (zsh ++ vs, mi, ml, zmr g)) := by
  have K : Wp E 1 pg_Band_sungBy 57 [(0, .ref 1), (1, .int set), (2, .int 1), (3, .int (zor (sungF set (mi 5)) n)), (4, .int (ztw (sungF set (mi 5)) n)), (5, .int (nI n))] [] (zsh ++ vs, mi, ml, (zmr g)) (fun r w' => r = some (.int (ztw (sungF set (mi 5)) n)) ∧ w' = (zsh ++ vs, mi, ml, zmr g)) := by
    refine Wp.run 4 (67, [(0, .ref 1), (1, .int set), (2, .int 1), (3, .int (zor (sungF set (mi 5)) n)), (4, .int (ztw (sungF set (mi 5)) n)), (5, .int (nI n))], [.int (ztw (sungF set (mi 5)) n)], (zsh ++ vs, mi, ml, (zmr g))) rfl ?_
    refine Wp.ret rfl rfl rfl ?_
    exact ⟨rfl, rfl⟩
  refine Wp.run 6 (8, [(5, .int 0), (4, .int 0), (3, .int 0), (0, .ref 1), (1, .int set), (2, .int 1)], [], (zsh ++ vs, mi, ml, (zmr g))) rfl ?_
  refine Wp.sub (a := [(0, .ref 1), (1, .int set), (2, .int 1), (3, .int (zor (sungF set (mi 5)) 0)), (4, .int (ztw (sungF set (mi 5)) 0)), (5, .int (nI 0))]) (zle_cons rfl (zle_cons rfl (zle_cons rfl (zle_cons rfl (zle_cons rfl (zle_cons rfl (zle_nil))))))) ?_
  exact c_sungBy_l1 set 1 hn h6 (by omega) K n 0 (by omega)
theorem c_kept_1 {E : zEn} {vs : List (Nat × Nat)} {mi : Nat → Nat → Int32} {ml : Nat → Nat → Int64} {g : Nat → Nat → Option Nat} {n : Nat} (hn : mi 1 0 = nI n) (h6 : n ≤ 6) : Wp E 2 pg_Band_kept 0 (lv_args 0 [.ref 1]) [] (zsh ++ vs, mi, ml, (zmr g)) (fun r w' => r = some (.int (zor (sungF (mi 1 2 ^^^ -1) (mi 5)) n)) ∧ w' = (zsh ++ vs, mi, ml, zmr g)) := by
  refine Wp.run 6 (8, [(0, .ref 1)], [.int 0, .int ((mi 1 2) ^^^ (-1)), .ref 1], (zsh ++ vs, mi, ml, (zmr g))) rfl ?_
  refine Wp.call (as := [.ref 1, .int ((mi 1 2) ^^^ (-1)), .int 0]) (rest := []) rfl rfl rfl rfl rfl (Nat.le_of_ble_eq_true rfl) (Nat.le_of_ble_eq_true rfl) rfl (by decide) (c_sungBy0_1 ((mi 1 2) ^^^ (-1)) hn h6) ?_
  rintro _ _ ⟨rfl, rfl⟩
  refine Wp.run 0 (11, [(0, .ref 1)], [.int (zor (sungF ((mi 1 2) ^^^ (-1)) (mi 5)) n)], (zsh ++ vs, mi, ml, (zmr g))) rfl ?_
  refine Wp.ret rfl rfl rfl ?_
  exact ⟨rfl, rfl⟩
theorem c_safe_1 {E : zEn} {vs : List (Nat × Nat)} {mi : Nat → Nat → Int32} {ml : Nat → Nat → Int64} {g : Nat → Nat → Option Nat} {n : Nat} (hn : mi 1 0 = nI n) (h6 : n ≤ 6) : Wp E 2 pg_Band_safe 0 (lv_args 0 [.ref 1]) [] (zsh ++ vs, mi, ml, (zmr g)) (fun r w' => r = some (.int (ztw (sungF (mi 1 2 ^^^ -1) (mi 5)) n)) ∧ w' = (zsh ++ vs, mi, ml, zmr g)) := by
  refine Wp.run 6 (8, [(0, .ref 1)], [.int 1, .int ((mi 1 2) ^^^ (-1)), .ref 1], (zsh ++ vs, mi, ml, (zmr g))) rfl ?_
  refine Wp.call (as := [.ref 1, .int ((mi 1 2) ^^^ (-1)), .int 1]) (rest := []) rfl rfl rfl rfl rfl (Nat.le_of_ble_eq_true rfl) (Nat.le_of_ble_eq_true rfl) rfl (by decide) (c_sungBy1_1 ((mi 1 2) ^^^ (-1)) hn h6) ?_
  rintro _ _ ⟨rfl, rfl⟩
  refine Wp.run 0 (11, [(0, .ref 1)], [.int (ztw (sungF ((mi 1 2) ^^^ (-1)) (mi 5)) n)], (zsh ++ vs, mi, ml, (zmr g))) rfl ?_
  refine Wp.ret rfl rfl rfl ?_
  exact ⟨rfl, rfl⟩
theorem c_holders_l1 {E : zEn} {vs : List (Nat × Nat)} {mi : Nat → Nat → Int32} {ml : Nat → Nat → Int64} {g : Nat → Nat → Option Nat} (x : Int32) {n : Nat} (hn : mi 1 0 = nI n) (h6 : n ≤ 6) {P : Option Value → zW → Prop} (hn9 : n < 2147483648) (K : Wp E 2 pg_Band_holders 39 [(0, .ref 1), (1, .int x), (2, .int (zsum (hldB mi 1 (mi 5) x) n)), (3, .int (nI n))] [] (zsh ++ vs, mi, ml, (zmr g)) P) : ∀ (k j : Nat), j + k = n → Wp E 2 pg_Band_holders 4 [(0, .ref 1), (1, .int x), (2, .int (zsum (hldB mi 1 (mi 5) x) j)), (3, .int (nI j))] [] (zsh ++ vs, mi, ml, (zmr g)) P := by
  intro k
  induction k with
  | zero =>
    intro j hj9
    obtain rfl : n = j := by omega
    refine Wp.run 3 (9, [(0, .ref 1), (1, .int x), (2, .int (zsum (hldB mi 1 (mi 5) x) n)), (3, .int (nI n))], [.int (mi 1 0), .int (nI n)], (zsh ++ vs, mi, ml, (zmr g))) rfl ?_
    rw [hn]
    refine Wp.run 0 (9, [(0, .ref 1), (1, .int x), (2, .int (zsum (hldB mi 1 (mi 5) x) n)), (3, .int (nI n))], [.int (nI n), .int (nI n)], (zsh ++ vs, mi, ml, (zmr g))) rfl ?_
    refine Wp.icmp_ge rfl (fun h1 => ?_) (fun h1 => ?_)
    · exact K
    · exact absurd (Int32.le_refl _) h1
  | succ k ih =>
    intro j hj9
    have hlt9 : j < n := by omega
    refine Wp.run 3 (9, [(0, .ref 1), (1, .int x), (2, .int (zsum (hldB mi 1 (mi 5) x) j)), (3, .int (nI j))], [.int (mi 1 0), .int (nI j)], (zsh ++ vs, mi, ml, (zmr g))) rfl ?_
    rw [hn]
    refine Wp.run 0 (9, [(0, .ref 1), (1, .int x), (2, .int (zsum (hldB mi 1 (mi 5) x) j)), (3, .int (nI j))], [.int (nI n), .int (nI j)], (zsh ++ vs, mi, ml, (zmr g))) rfl ?_
    refine Wp.icmp_ge rfl (fun h1 => ?_) (fun h1 => ?_)
    · exact absurd h1 (nI_ge hlt9 hn9)
    · refine Wp.run 2 (14, [(0, .ref 1), (1, .int x), (2, .int (zsum (hldB mi 1 (mi 5) x) j)), (3, .int (nI j))], [.int (nI j), .ref 1], (zsh ++ vs, mi, ml, (zmr g))) rfl ?_
      refine Wp.call (as := [.ref 1, .int (nI j)]) (rest := []) rfl rfl rfl rfl rfl (Nat.le_of_ble_eq_true rfl) (Nat.le_of_ble_eq_true rfl) rfl (by decide) (c_isHere_1 (nI j)) ?_
      rintro _ _ ⟨rfl, rfl⟩
      by_cases c8 : mi 1 2 >>> (nI j &&& 31) &&& 1 = 0
      · rw [if_pos c8]
        refine Wp.run 5 (26, [(0, .ref 1), (1, .int x), (2, .int (zsum (hldB mi 1 (mi 5) x) j)), (3, .int (nI j))], [.int (nI j), .ref 5, .int (zsum (hldB mi 1 (mi 5) x) j)], (zsh ++ vs, mi, ml, (zmr g))) rfl ?_
        refine Wp.ialn rfl (by decide) rfl (by omega) (by decide) ?_
        refine Wp.run 1 (28, [(0, .ref 1), (1, .int x), (2, .int (zsum (hldB mi 1 (mi 5) x) j)), (3, .int (nI j))], [.int x, .int (mi 5 j), .int (zsum (hldB mi 1 (mi 5) x) j)], (zsh ++ vs, mi, ml, (zmr g))) rfl ?_
        refine Wp.call (as := [.int (mi 5 j), .int x]) (rest := [.int (zsum (hldB mi 1 (mi 5) x) j)]) rfl rfl rfl rfl rfl (Nat.le_of_ble_eq_true rfl) (Nat.le_of_ble_eq_true rfl) rfl (by decide) (c_bit (mi 5 j) x) ?_
        rintro _ _ ⟨rfl, rfl⟩
        refine Wp.run 4 (4, [(3, .int ((nI j) + 1)), (2, .int ((zsum (hldB mi 1 (mi 5) x) j) + ((mi 5 j) >>> (x &&& 31) &&& 1))), (0, .ref 1), (1, .int x)], [], (zsh ++ vs, mi, ml, (zmr g))) rfl ?_
        rw [show (zsum (hldB mi 1 (mi 5) x) j) + ((mi 5 j) >>> (x &&& 31) &&& 1) = zsum (hldB mi 1 (mi 5) x) (j + 1) from (by rw [zsum, hldB, if_pos c8])]
        rw [nI_1]
        refine Wp.sub (a := [(0, .ref 1), (1, .int x), (2, .int (zsum (hldB mi 1 (mi 5) x) (j + 1))), (3, .int (nI (j + 1)))]) (zle_cons rfl (zle_cons rfl (zle_cons rfl (zle_cons rfl (zle_nil))))) ?_
        exact ih (j + 1) (by omega)
      · rw [if_neg c8]
        refine Wp.run 3 (4, [(3, .int ((nI j) + 1)), (0, .ref 1), (1, .int x), (2, .int (zsum (hldB mi 1 (mi 5) x) j))], [], (zsh ++ vs, mi, ml, (zmr g))) rfl ?_
        rw [show zsum (hldB mi 1 (mi 5) x) j = zsum (hldB mi 1 (mi 5) x) (j + 1) from (by rw [zsum, hldB, if_neg c8]; exact (Int32.add_zero _).symm)]
        rw [nI_1]
        refine Wp.sub (a := [(0, .ref 1), (1, .int x), (2, .int (zsum (hldB mi 1 (mi 5) x) (j + 1))), (3, .int (nI (j + 1)))]) (zle_cons rfl (zle_cons rfl (zle_cons rfl (zle_cons rfl (zle_nil))))) ?_
        exact ih (j + 1) (by omega)
theorem c_holders_1 {E : zEn} {vs : List (Nat × Nat)} {mi : Nat → Nat → Int32} {ml : Nat → Nat → Int64} {g : Nat → Nat → Option Nat} (x : Int32) {n : Nat} (hn : mi 1 0 = nI n) (h6 : n ≤ 6) : Wp E 2 pg_Band_holders 0 (lv_args 0 [.ref 1, .int x]) [] (zsh ++ vs, mi, ml, (zmr g)) (fun r w' => r = some (.int (zsum (hldB mi 1 (mi 5) x) n)) ∧ w' = (zsh ++ vs, mi, ml, zmr g)) := by
  have K : Wp E 2 pg_Band_holders 39 [(0, .ref 1), (1, .int x), (2, .int (zsum (hldB mi 1 (mi 5) x) n)), (3, .int (nI n))] [] (zsh ++ vs, mi, ml, (zmr g)) (fun r w' => r = some (.int (zsum (hldB mi 1 (mi 5) x) n)) ∧ w' = (zsh ++ vs, mi, ml, zmr g)) := by
    refine Wp.run 1 (40, [(0, .ref 1), (1, .int x), (2, .int (zsum (hldB mi 1 (mi 5) x) n)), (3, .int (nI n))], [.int (zsum (hldB mi 1 (mi 5) x) n)], (zsh ++ vs, mi, ml, (zmr g))) rfl ?_
    refine Wp.ret rfl rfl rfl ?_
    exact ⟨rfl, rfl⟩
  refine Wp.run 4 (4, [(3, .int 0), (2, .int 0), (0, .ref 1), (1, .int x)], [], (zsh ++ vs, mi, ml, (zmr g))) rfl ?_
  refine Wp.sub (a := [(0, .ref 1), (1, .int x), (2, .int (zsum (hldB mi 1 (mi 5) x) 0)), (3, .int (nI 0))]) (zle_cons rfl (zle_cons rfl (zle_cons rfl (zle_cons rfl (zle_nil))))) ?_
  exact c_holders_l1 x hn h6 (by omega) K n 0 (by omega)
theorem c_forgot_l1 {E : zEn} {vs : List (Nat × Nat)} {mi : Nat → Nat → Int32} {ml : Nat → Nat → Int64} {g : Nat → Nat → Option Nat} {n : Nat} (hn : mi 1 0 = nI n) (h6 : n ≤ 6) {P : Option Value → zW → Prop} (hn9 : n < 2147483648) (K : Wp E 0 pg_Band_forgotByAll 27 [(0, .ref 1), (1, .int (zsum (mi 7) n)), (2, .int (nI n))] [] (zsh ++ vs, mi, ml, (zmr g)) P) : ∀ (k j : Nat), j + k = n → Wp E 0 pg_Band_forgotByAll 4 [(0, .ref 1), (1, .int (zsum (mi 7) j)), (2, .int (nI j))] [] (zsh ++ vs, mi, ml, (zmr g)) P := by
  intro k
  induction k with
  | zero =>
    intro j hj9
    obtain rfl : n = j := by omega
    refine Wp.run 3 (9, [(0, .ref 1), (1, .int (zsum (mi 7) n)), (2, .int (nI n))], [.int (mi 1 0), .int (nI n)], (zsh ++ vs, mi, ml, (zmr g))) rfl ?_
    rw [hn]
    refine Wp.run 0 (9, [(0, .ref 1), (1, .int (zsum (mi 7) n)), (2, .int (nI n))], [.int (nI n), .int (nI n)], (zsh ++ vs, mi, ml, (zmr g))) rfl ?_
    refine Wp.icmp_ge rfl (fun h1 => ?_) (fun h1 => ?_)
    · exact K
    · exact absurd (Int32.le_refl _) h1
  | succ k ih =>
    intro j hj9
    have hlt9 : j < n := by omega
    refine Wp.run 3 (9, [(0, .ref 1), (1, .int (zsum (mi 7) j)), (2, .int (nI j))], [.int (mi 1 0), .int (nI j)], (zsh ++ vs, mi, ml, (zmr g))) rfl ?_
    rw [hn]
    refine Wp.run 0 (9, [(0, .ref 1), (1, .int (zsum (mi 7) j)), (2, .int (nI j))], [.int (nI n), .int (nI j)], (zsh ++ vs, mi, ml, (zmr g))) rfl ?_
    refine Wp.icmp_ge rfl (fun h1 => ?_) (fun h1 => ?_)
    · exact absurd h1 (nI_ge hlt9 hn9)
    · refine Wp.run 4 (18, [(0, .ref 1), (1, .int (zsum (mi 7) j)), (2, .int (nI j))], [.int (nI j), .ref 7, .int (zsum (mi 7) j)], (zsh ++ vs, mi, ml, (zmr g))) rfl ?_
      refine Wp.ialn rfl (by decide) rfl (by omega) (by decide) ?_
      refine Wp.run 4 (4, [(2, .int ((nI j) + 1)), (1, .int ((zsum (mi 7) j) + (mi 7 j))), (0, .ref 1)], [], (zsh ++ vs, mi, ml, (zmr g))) rfl ?_
      rw [show (zsum (mi 7) j) + (mi 7 j) = zsum (mi 7) (j + 1) from (by rw [zsum])]
      rw [nI_1]
      refine Wp.sub (a := [(0, .ref 1), (1, .int (zsum (mi 7) (j + 1))), (2, .int (nI (j + 1)))]) (zle_cons rfl (zle_cons rfl (zle_cons rfl (zle_nil)))) ?_
      exact ih (j + 1) (by omega)
theorem c_forgot_1 {E : zEn} {vs : List (Nat × Nat)} {mi : Nat → Nat → Int32} {ml : Nat → Nat → Int64} {g : Nat → Nat → Option Nat} {n : Nat} (hn : mi 1 0 = nI n) (h6 : n ≤ 6) : Wp E 0 pg_Band_forgotByAll 0 (lv_args 0 [.ref 1]) [] (zsh ++ vs, mi, ml, (zmr g)) (fun r w' => r = some (.int (zsum (mi 7) n)) ∧ w' = (zsh ++ vs, mi, ml, zmr g)) := by
  have K : Wp E 0 pg_Band_forgotByAll 27 [(0, .ref 1), (1, .int (zsum (mi 7) n)), (2, .int (nI n))] [] (zsh ++ vs, mi, ml, (zmr g)) (fun r w' => r = some (.int (zsum (mi 7) n)) ∧ w' = (zsh ++ vs, mi, ml, zmr g)) := by
    refine Wp.run 1 (28, [(0, .ref 1), (1, .int (zsum (mi 7) n)), (2, .int (nI n))], [.int (zsum (mi 7) n)], (zsh ++ vs, mi, ml, (zmr g))) rfl ?_
    refine Wp.ret rfl rfl rfl ?_
    exact ⟨rfl, rfl⟩
  refine Wp.run 4 (4, [(2, .int 0), (1, .int 0), (0, .ref 1)], [], (zsh ++ vs, mi, ml, (zmr g))) rfl ?_
  refine Wp.sub (a := [(0, .ref 1), (1, .int (zsum (mi 7) 0)), (2, .int (nI 0))]) (zle_cons rfl (zle_cons rfl (zle_cons rfl (zle_nil)))) ?_
  exact c_forgot_l1 hn h6 (by omega) K n 0 (by omega)
theorem c_sharers_l1 {E : zEn} {vs : List (Nat × Nat)} {mi : Nat → Nat → Int32} {ml : Nat → Nat → Int64} {g : Nat → Nat → Option Nat} (i : Nat) (hi : i < 6) {n : Nat} (hn : mi 1 0 = nI n) (h6 : n ≤ 6) {P : Option Value → zW → Prop} (hn9 : n < 2147483648) (K : Wp E 2 pg_Band_sharers 50 [(0, .ref 1), (1, .int (nI i)), (2, .int (zsum (shrF (awB mi 1) (mi 5) i) n)), (3, .int (nI n))] [] (zsh ++ vs, mi, ml, (zmr g)) P) : ∀ (k j : Nat), j + k = n → Wp E 2 pg_Band_sharers 4 [(0, .ref 1), (1, .int (nI i)), (2, .int (zsum (shrF (awB mi 1) (mi 5) i) j)), (3, .int (nI j))] [] (zsh ++ vs, mi, ml, (zmr g)) P := by
  intro k
  induction k with
  | zero =>
    intro j hj9
    obtain rfl : n = j := by omega
    refine Wp.run 3 (9, [(0, .ref 1), (1, .int (nI i)), (2, .int (zsum (shrF (awB mi 1) (mi 5) i) n)), (3, .int (nI n))], [.int (mi 1 0), .int (nI n)], (zsh ++ vs, mi, ml, (zmr g))) rfl ?_
    rw [hn]
    refine Wp.run 0 (9, [(0, .ref 1), (1, .int (nI i)), (2, .int (zsum (shrF (awB mi 1) (mi 5) i) n)), (3, .int (nI n))], [.int (nI n), .int (nI n)], (zsh ++ vs, mi, ml, (zmr g))) rfl ?_
    refine Wp.icmp_ge rfl (fun h1 => ?_) (fun h1 => ?_)
    · exact K
    · exact absurd (Int32.le_refl _) h1
  | succ k ih =>
    intro j hj9
    have hlt9 : j < n := by omega
    refine Wp.run 3 (9, [(0, .ref 1), (1, .int (nI i)), (2, .int (zsum (shrF (awB mi 1) (mi 5) i) j)), (3, .int (nI j))], [.int (mi 1 0), .int (nI j)], (zsh ++ vs, mi, ml, (zmr g))) rfl ?_
    rw [hn]
    refine Wp.run 0 (9, [(0, .ref 1), (1, .int (nI i)), (2, .int (zsum (shrF (awB mi 1) (mi 5) i) j)), (3, .int (nI j))], [.int (nI n), .int (nI j)], (zsh ++ vs, mi, ml, (zmr g))) rfl ?_
    refine Wp.icmp_ge rfl (fun h1 => ?_) (fun h1 => ?_)
    · exact absurd h1 (nI_ge hlt9 hn9)
    · refine Wp.run 2 (14, [(0, .ref 1), (1, .int (nI i)), (2, .int (zsum (shrF (awB mi 1) (mi 5) i) j)), (3, .int (nI j))], [.int (nI i), .int (nI j)], (zsh ++ vs, mi, ml, (zmr g))) rfl ?_
      refine Wp.icmp_eq rfl (fun h2 => ?_) (fun h2 => ?_)
      · refine Wp.run 2 (4, [(3, .int ((nI j) + 1)), (0, .ref 1), (1, .int (nI i)), (2, .int (zsum (shrF (awB mi 1) (mi 5) i) j))], [], (zsh ++ vs, mi, ml, (zmr g))) rfl ?_
        rw [show zsum (shrF (awB mi 1) (mi 5) i) j = zsum (shrF (awB mi 1) (mi 5) i) (j + 1) from (by rw [zsum, shrF, if_neg (fun h => h.1 h2)]; exact (Int32.add_zero _).symm)]
        rw [nI_1]
        refine Wp.sub (a := [(0, .ref 1), (1, .int (nI i)), (2, .int (zsum (shrF (awB mi 1) (mi 5) i) (j + 1))), (3, .int (nI (j + 1)))]) (zle_cons rfl (zle_cons rfl (zle_cons rfl (zle_cons rfl (zle_nil))))) ?_
        exact ih (j + 1) (by omega)
      · refine Wp.run 2 (19, [(0, .ref 1), (1, .int (nI i)), (2, .int (zsum (shrF (awB mi 1) (mi 5) i) j)), (3, .int (nI j))], [.int (nI j), .ref 1], (zsh ++ vs, mi, ml, (zmr g))) rfl ?_
        refine Wp.call (as := [.ref 1, .int (nI j)]) (rest := []) rfl rfl rfl rfl rfl (Nat.le_of_ble_eq_true rfl) (Nat.le_of_ble_eq_true rfl) rfl (by decide) (c_isHere_1 (nI j)) ?_
        rintro _ _ ⟨rfl, rfl⟩
        by_cases c9 : mi 1 2 >>> (nI j &&& 31) &&& 1 = 0
        · rw [if_pos c9]
          refine Wp.run 4 (30, [(0, .ref 1), (1, .int (nI i)), (2, .int (zsum (shrF (awB mi 1) (mi 5) i) j)), (3, .int (nI j))], [.int (nI j), .ref 5], (zsh ++ vs, mi, ml, (zmr g))) rfl ?_
          refine Wp.ialn rfl (by decide) rfl (by omega) (by decide) ?_
          refine Wp.run 3 (36, [(0, .ref 1), (1, .int (nI i)), (2, .int (zsum (shrF (awB mi 1) (mi 5) i) j)), (3, .int (nI j))], [.int (nI i), .ref 5, .int (mi 5 j)], (zsh ++ vs, mi, ml, (zmr g))) rfl ?_
          refine Wp.ialn rfl (by decide) rfl (by omega) (by decide) ?_
          refine Wp.run 1 (38, [(0, .ref 1), (1, .int (nI i)), (2, .int (zsum (shrF (awB mi 1) (mi 5) i) j)), (3, .int (nI j))], [.int ((mi 5 j) &&& (mi 5 i))], (zsh ++ vs, mi, ml, (zmr g))) rfl ?_
          refine Wp.if_eq rfl (fun h3 => ?_) (fun h3 => ?_)
          · refine Wp.run 2 (4, [(3, .int ((nI j) + 1)), (0, .ref 1), (1, .int (nI i)), (2, .int (zsum (shrF (awB mi 1) (mi 5) i) j))], [], (zsh ++ vs, mi, ml, (zmr g))) rfl ?_
            rw [show zsum (shrF (awB mi 1) (mi 5) i) j = zsum (shrF (awB mi 1) (mi 5) i) (j + 1) from (by rw [zsum, shrF, if_neg (fun h => h.2.2 h3)]; exact (Int32.add_zero _).symm)]
            rw [nI_1]
            refine Wp.sub (a := [(0, .ref 1), (1, .int (nI i)), (2, .int (zsum (shrF (awB mi 1) (mi 5) i) (j + 1))), (3, .int (nI (j + 1)))]) (zle_cons rfl (zle_cons rfl (zle_cons rfl (zle_cons rfl (zle_nil))))) ?_
            exact ih (j + 1) (by omega)
          · refine Wp.run 3 (4, [(3, .int ((nI j) + 1)), (2, .int ((zsum (shrF (awB mi 1) (mi 5) i) j) + 1)), (0, .ref 1), (1, .int (nI i))], [], (zsh ++ vs, mi, ml, (zmr g))) rfl ?_
            rw [show (zsum (shrF (awB mi 1) (mi 5) i) j) + 1 = zsum (shrF (awB mi 1) (mi 5) i) (j + 1) from (by rw [zsum, shrF, if_pos ⟨h2, c9, h3⟩])]
            rw [nI_1]
            refine Wp.sub (a := [(0, .ref 1), (1, .int (nI i)), (2, .int (zsum (shrF (awB mi 1) (mi 5) i) (j + 1))), (3, .int (nI (j + 1)))]) (zle_cons rfl (zle_cons rfl (zle_cons rfl (zle_cons rfl (zle_nil))))) ?_
            exact ih (j + 1) (by omega)
        · rw [if_neg c9]
          refine Wp.run 3 (4, [(3, .int ((nI j) + 1)), (0, .ref 1), (1, .int (nI i)), (2, .int (zsum (shrF (awB mi 1) (mi 5) i) j))], [], (zsh ++ vs, mi, ml, (zmr g))) rfl ?_
          rw [show zsum (shrF (awB mi 1) (mi 5) i) j = zsum (shrF (awB mi 1) (mi 5) i) (j + 1) from (by rw [zsum, shrF, if_neg (fun h => c9 h.2.1)]; exact (Int32.add_zero _).symm)]
          rw [nI_1]
          refine Wp.sub (a := [(0, .ref 1), (1, .int (nI i)), (2, .int (zsum (shrF (awB mi 1) (mi 5) i) (j + 1))), (3, .int (nI (j + 1)))]) (zle_cons rfl (zle_cons rfl (zle_cons rfl (zle_cons rfl (zle_nil))))) ?_
          exact ih (j + 1) (by omega)
theorem c_sharers_1 {E : zEn} {vs : List (Nat × Nat)} {mi : Nat → Nat → Int32} {ml : Nat → Nat → Int64} {g : Nat → Nat → Option Nat} (i : Nat) (hi : i < 6) {n : Nat} (hn : mi 1 0 = nI n) (h6 : n ≤ 6) : Wp E 2 pg_Band_sharers 0 (lv_args 0 [.ref 1, .int (nI i)]) [] (zsh ++ vs, mi, ml, (zmr g)) (fun r w' => r = some (.int (zsum (shrF (awB mi 1) (mi 5) i) n)) ∧ w' = (zsh ++ vs, mi, ml, zmr g)) := by
  have K : Wp E 2 pg_Band_sharers 50 [(0, .ref 1), (1, .int (nI i)), (2, .int (zsum (shrF (awB mi 1) (mi 5) i) n)), (3, .int (nI n))] [] (zsh ++ vs, mi, ml, (zmr g)) (fun r w' => r = some (.int (zsum (shrF (awB mi 1) (mi 5) i) n)) ∧ w' = (zsh ++ vs, mi, ml, zmr g)) := by
    refine Wp.run 1 (51, [(0, .ref 1), (1, .int (nI i)), (2, .int (zsum (shrF (awB mi 1) (mi 5) i) n)), (3, .int (nI n))], [.int (zsum (shrF (awB mi 1) (mi 5) i) n)], (zsh ++ vs, mi, ml, (zmr g))) rfl ?_
    refine Wp.ret rfl rfl rfl ?_
    exact ⟨rfl, rfl⟩
  refine Wp.run 4 (4, [(3, .int 0), (2, .int 0), (0, .ref 1), (1, .int (nI i))], [], (zsh ++ vs, mi, ml, (zmr g))) rfl ?_
  refine Wp.sub (a := [(0, .ref 1), (1, .int (nI i)), (2, .int (zsum (shrF (awB mi 1) (mi 5) i) 0)), (3, .int (nI 0))]) (zle_cons rfl (zle_cons rfl (zle_cons rfl (zle_cons rfl (zle_nil))))) ?_
  exact c_sharers_l1 i hi hn h6 (by omega) K n 0 (by omega)
theorem c_sacks_l1 {E : zEn} {vs : List (Nat × Nat)} {mi : Nat → Nat → Int32} {ml : Nat → Nat → Int64} {g : Nat → Nat → Option Nat} {n : Nat} (hn : mi 1 0 = nI n) (h6 : n ≤ 6) {P : Option Value → zW → Prop} (hn9 : 8 < 2147483648) (K : Wp E 3 pg_Band_sacksKept 36 [(0, .ref 1), (1, .int (zor (sungF (mi 1 2 ^^^ -1) (mi 5)) n)), (2, .int (zsum (fun p => (zor (sungF (mi 1 2 ^^^ -1) (mi 5)) n >>> (nI p &&& 31) &&& 1) * mi 2 p) 8)), (3, .int (nI 8))] [] (zsh ++ vs, mi, ml, (zmr g)) P) : ∀ (k j : Nat), j + k = 8 → Wp E 3 pg_Band_sacksKept 9 [(0, .ref 1), (1, .int (zor (sungF (mi 1 2 ^^^ -1) (mi 5)) n)), (2, .int (zsum (fun p => (zor (sungF (mi 1 2 ^^^ -1) (mi 5)) n >>> (nI p &&& 31) &&& 1) * mi 2 p) j)), (3, .int (nI j))] [] (zsh ++ vs, mi, ml, (zmr g)) P := by
  intro k
  induction k with
  | zero =>
    intro j hj9
    obtain rfl : 8 = j := by omega
    refine Wp.run 2 (12, [(0, .ref 1), (1, .int (zor (sungF (mi 1 2 ^^^ -1) (mi 5)) n)), (2, .int (zsum (fun p => (zor (sungF (mi 1 2 ^^^ -1) (mi 5)) n >>> (nI p &&& 31) &&& 1) * mi 2 p) 8)), (3, .int (nI 8))], [.int 8, .int (nI 8)], (zsh ++ vs, mi, ml, (zmr g))) rfl ?_
    refine Wp.icmp_ge rfl (fun h1 => ?_) (fun h1 => ?_)
    · exact K
    · exact absurd (Int32.le_refl _) h1
  | succ k ih =>
    intro j hj9
    have hlt9 : j < 8 := by omega
    refine Wp.run 2 (12, [(0, .ref 1), (1, .int (zor (sungF (mi 1 2 ^^^ -1) (mi 5)) n)), (2, .int (zsum (fun p => (zor (sungF (mi 1 2 ^^^ -1) (mi 5)) n >>> (nI p &&& 31) &&& 1) * mi 2 p) j)), (3, .int (nI j))], [.int 8, .int (nI j)], (zsh ++ vs, mi, ml, (zmr g))) rfl ?_
    refine Wp.icmp_ge rfl (fun h1 => ?_) (fun h1 => ?_)
    · exact absurd h1 (nI_ge hlt9 hn9)
    · refine Wp.run 3 (18, [(0, .ref 1), (1, .int (zor (sungF (mi 1 2 ^^^ -1) (mi 5)) n)), (2, .int (zsum (fun p => (zor (sungF (mi 1 2 ^^^ -1) (mi 5)) n >>> (nI p &&& 31) &&& 1) * mi 2 p) j)), (3, .int (nI j))], [.int (nI j), .int (zor (sungF (mi 1 2 ^^^ -1) (mi 5)) n), .int (zsum (fun p => (zor (sungF (mi 1 2 ^^^ -1) (mi 5)) n >>> (nI p &&& 31) &&& 1) * mi 2 p) j)], (zsh ++ vs, mi, ml, (zmr g))) rfl ?_
      refine Wp.call (as := [.int (zor (sungF (mi 1 2 ^^^ -1) (mi 5)) n), .int (nI j)]) (rest := [.int (zsum (fun p => (zor (sungF (mi 1 2 ^^^ -1) (mi 5)) n >>> (nI p &&& 31) &&& 1) * mi 2 p) j)]) rfl rfl rfl rfl rfl (Nat.le_of_ble_eq_true rfl) (Nat.le_of_ble_eq_true rfl) rfl (by decide) (c_bit (zor (sungF (mi 1 2 ^^^ -1) (mi 5)) n) (nI j)) ?_
      rintro _ _ ⟨rfl, rfl⟩
      refine Wp.run 3 (26, [(0, .ref 1), (1, .int (zor (sungF (mi 1 2 ^^^ -1) (mi 5)) n)), (2, .int (zsum (fun p => (zor (sungF (mi 1 2 ^^^ -1) (mi 5)) n >>> (nI p &&& 31) &&& 1) * mi 2 p) j)), (3, .int (nI j))], [.int (nI j), .ref 2, .int ((zor (sungF (mi 1 2 ^^^ -1) (mi 5)) n) >>> ((nI j) &&& 31) &&& 1), .int (zsum (fun p => (zor (sungF (mi 1 2 ^^^ -1) (mi 5)) n >>> (nI p &&& 31) &&& 1) * mi 2 p) j)], (zsh ++ vs, mi, ml, (zmr g))) rfl ?_
      refine Wp.ialn rfl (by decide) rfl (by omega) (by decide) ?_
      refine Wp.run 5 (9, [(3, .int ((nI j) + 1)), (2, .int ((zsum (fun p => (zor (sungF (mi 1 2 ^^^ -1) (mi 5)) n >>> (nI p &&& 31) &&& 1) * mi 2 p) j) + (((zor (sungF (mi 1 2 ^^^ -1) (mi 5)) n) >>> ((nI j) &&& 31) &&& 1) * (mi 2 j)))), (0, .ref 1), (1, .int (zor (sungF (mi 1 2 ^^^ -1) (mi 5)) n))], [], (zsh ++ vs, mi, ml, (zmr g))) rfl ?_
      rw [show (zsum (fun p => (zor (sungF (mi 1 2 ^^^ -1) (mi 5)) n >>> (nI p &&& 31) &&& 1) * mi 2 p) j) + (((zor (sungF (mi 1 2 ^^^ -1) (mi 5)) n) >>> ((nI j) &&& 31) &&& 1) * (mi 2 j)) = zsum (fun p => (zor (sungF (mi 1 2 ^^^ -1) (mi 5)) n >>> (nI p &&& 31) &&& 1) * mi 2 p) (j + 1) from (by rw [zsum])]
      rw [nI_1]
      refine Wp.sub (a := [(0, .ref 1), (1, .int (zor (sungF (mi 1 2 ^^^ -1) (mi 5)) n)), (2, .int (zsum (fun p => (zor (sungF (mi 1 2 ^^^ -1) (mi 5)) n >>> (nI p &&& 31) &&& 1) * mi 2 p) (j + 1))), (3, .int (nI (j + 1)))]) (zle_cons rfl (zle_cons rfl (zle_cons rfl (zle_cons rfl (zle_nil))))) ?_
      exact ih (j + 1) (by omega)
theorem c_sacks_1 {E : zEn} {vs : List (Nat × Nat)} {mi : Nat → Nat → Int32} {ml : Nat → Nat → Int64} {g : Nat → Nat → Option Nat} {n : Nat} (hn : mi 1 0 = nI n) (h6 : n ≤ 6) : Wp E 3 pg_Band_sacksKept 0 (lv_args 0 [.ref 1]) [] (zsh ++ vs, mi, ml, (zmr g)) (fun r w' => r = some (.int (zsum (fun p => (zor (sungF (mi 1 2 ^^^ -1) (mi 5)) n >>> (nI p &&& 31) &&& 1) * mi 2 p) 8)) ∧ w' = (zsh ++ vs, mi, ml, zmr g)) := by
  have K : Wp E 3 pg_Band_sacksKept 36 [(0, .ref 1), (1, .int (zor (sungF (mi 1 2 ^^^ -1) (mi 5)) n)), (2, .int (zsum (fun p => (zor (sungF (mi 1 2 ^^^ -1) (mi 5)) n >>> (nI p &&& 31) &&& 1) * mi 2 p) 8)), (3, .int (nI 8))] [] (zsh ++ vs, mi, ml, (zmr g)) (fun r w' => r = some (.int (zsum (fun p => (zor (sungF (mi 1 2 ^^^ -1) (mi 5)) n >>> (nI p &&& 31) &&& 1) * mi 2 p) 8)) ∧ w' = (zsh ++ vs, mi, ml, zmr g)) := by
    refine Wp.run 1 (37, [(0, .ref 1), (1, .int (zor (sungF (mi 1 2 ^^^ -1) (mi 5)) n)), (2, .int (zsum (fun p => (zor (sungF (mi 1 2 ^^^ -1) (mi 5)) n >>> (nI p &&& 31) &&& 1) * mi 2 p) 8)), (3, .int (nI 8))], [.int (zsum (fun p => (zor (sungF (mi 1 2 ^^^ -1) (mi 5)) n >>> (nI p &&& 31) &&& 1) * mi 2 p) 8)], (zsh ++ vs, mi, ml, (zmr g))) rfl ?_
    refine Wp.ret rfl rfl rfl ?_
    exact ⟨rfl, rfl⟩
  refine Wp.run 1 (1, [(0, .ref 1)], [.ref 1], (zsh ++ vs, mi, ml, (zmr g))) rfl ?_
  refine Wp.call (as := [.ref 1]) (rest := []) rfl rfl rfl rfl rfl (Nat.le_of_ble_eq_true rfl) (Nat.le_of_ble_eq_true rfl) rfl (by decide) (c_kept_1 hn h6) ?_
  rintro _ _ ⟨rfl, rfl⟩
  refine Wp.run 5 (9, [(3, .int 0), (2, .int 0), (1, .int (zor (sungF (mi 1 2 ^^^ -1) (mi 5)) n)), (0, .ref 1)], [], (zsh ++ vs, mi, ml, (zmr g))) rfl ?_
  refine Wp.sub (a := [(0, .ref 1), (1, .int (zor (sungF (mi 1 2 ^^^ -1) (mi 5)) n)), (2, .int (zsum (fun p => (zor (sungF (mi 1 2 ^^^ -1) (mi 5)) n >>> (nI p &&& 31) &&& 1) * mi 2 p) 0)), (3, .int (nI 0))]) (zle_cons rfl (zle_cons rfl (zle_cons rfl (zle_cons rfl (zle_nil))))) ?_
  exact c_sacks_l1 hn h6 (by omega) K 8 0 (by omega)
theorem c_sungBy_l38 {E : zEn} {vs : List (Nat × Nat)} {mi : Nat → Nat → Int32} {ml : Nat → Nat → Int64} {g : Nat → Nat → Option Nat} (set tw : Int32) {n : Nat} (hn : mi 38 0 = nI n) (h6 : n ≤ 6) {P : Option Value → zW → Prop} (hn9 : n < 2147483648) (K : Wp E 1 pg_Band_sungBy 57 [(0, .ref 38), (1, .int set), (2, .int tw), (3, .int (zor (sungF set (mi 42)) n)), (4, .int (ztw (sungF set (mi 42)) n)), (5, .int (nI n))] [] (zsh ++ vs, mi, ml, (zmr g)) P) : ∀ (k j : Nat), j + k = n → Wp E 1 pg_Band_sungBy 8 [(0, .ref 38), (1, .int set), (2, .int tw), (3, .int (zor (sungF set (mi 42)) j)), (4, .int (ztw (sungF set (mi 42)) j)), (5, .int (nI j))] [] (zsh ++ vs, mi, ml, (zmr g)) P := by
  intro k
  induction k with
  | zero =>
    intro j hj9
    obtain rfl : n = j := by omega
    refine Wp.run 3 (14, [(0, .ref 38), (1, .int set), (2, .int tw), (3, .int (zor (sungF set (mi 42)) n)), (4, .int (ztw (sungF set (mi 42)) n)), (5, .int (nI n))], [.int (mi 38 0), .int (nI n)], (zsh ++ vs, mi, ml, (zmr g))) rfl ?_
    rw [hn]
    refine Wp.run 0 (14, [(0, .ref 38), (1, .int set), (2, .int tw), (3, .int (zor (sungF set (mi 42)) n)), (4, .int (ztw (sungF set (mi 42)) n)), (5, .int (nI n))], [.int (nI n), .int (nI n)], (zsh ++ vs, mi, ml, (zmr g))) rfl ?_
    refine Wp.icmp_ge rfl (fun h1 => ?_) (fun h1 => ?_)
    · exact K
    · exact absurd (Int32.le_refl _) h1
  | succ k ih =>
    intro j hj9
    have hlt9 : j < n := by omega
    refine Wp.run 3 (14, [(0, .ref 38), (1, .int set), (2, .int tw), (3, .int (zor (sungF set (mi 42)) j)), (4, .int (ztw (sungF set (mi 42)) j)), (5, .int (nI j))], [.int (mi 38 0), .int (nI j)], (zsh ++ vs, mi, ml, (zmr g))) rfl ?_
    rw [hn]
    refine Wp.run 0 (14, [(0, .ref 38), (1, .int set), (2, .int tw), (3, .int (zor (sungF set (mi 42)) j)), (4, .int (ztw (sungF set (mi 42)) j)), (5, .int (nI j))], [.int (nI n), .int (nI j)], (zsh ++ vs, mi, ml, (zmr g))) rfl ?_
    refine Wp.icmp_ge rfl (fun h1 => ?_) (fun h1 => ?_)
    · exact absurd h1 (nI_ge hlt9 hn9)
    · refine Wp.run 2 (20, [(0, .ref 38), (1, .int set), (2, .int tw), (3, .int (zor (sungF set (mi 42)) j)), (4, .int (ztw (sungF set (mi 42)) j)), (5, .int (nI j))], [.int (nI j), .int set], (zsh ++ vs, mi, ml, (zmr g))) rfl ?_
      refine Wp.call (as := [.int set, .int (nI j)]) (rest := []) rfl rfl rfl rfl rfl (Nat.le_of_ble_eq_true rfl) (Nat.le_of_ble_eq_true rfl) rfl (by decide) (c_bit set (nI j)) ?_
      rintro _ _ ⟨rfl, rfl⟩
      refine Wp.run 1 (24, [(0, .ref 38), (1, .int set), (2, .int tw), (3, .int (zor (sungF set (mi 42)) j)), (4, .int (ztw (sungF set (mi 42)) j)), (5, .int (nI j))], [.int 1, .int (set >>> ((nI j) &&& 31) &&& 1)], (zsh ++ vs, mi, ml, (zmr g))) rfl ?_
      refine Wp.icmp_ne rfl (fun h2 => ?_) (fun h2 => ?_)
      · refine Wp.run 2 (8, [(5, .int ((nI j) + 1)), (0, .ref 38), (1, .int set), (2, .int tw), (3, .int (zor (sungF set (mi 42)) j)), (4, .int (ztw (sungF set (mi 42)) j))], [], (zsh ++ vs, mi, ml, (zmr g))) rfl ?_
        rw [show ztw (sungF set (mi 42)) j = ztw (sungF set (mi 42)) (j + 1) from (by rw [ztw, sungF, if_neg h2, and_zero, or_zero])]
        rw [show zor (sungF set (mi 42)) j = zor (sungF set (mi 42)) (j + 1) from (by rw [zor, sungF, if_neg h2, or_zero])]
        rw [nI_1]
        refine Wp.sub (a := [(0, .ref 38), (1, .int set), (2, .int tw), (3, .int (zor (sungF set (mi 42)) (j + 1))), (4, .int (ztw (sungF set (mi 42)) (j + 1))), (5, .int (nI (j + 1)))]) (zle_cons rfl (zle_cons rfl (zle_cons rfl (zle_cons rfl (zle_cons rfl (zle_cons rfl (zle_nil))))))) ?_
        exact ih (j + 1) (by omega)
      · refine Wp.run 5 (36, [(0, .ref 38), (1, .int set), (2, .int tw), (3, .int (zor (sungF set (mi 42)) j)), (4, .int (ztw (sungF set (mi 42)) j)), (5, .int (nI j))], [.int (nI j), .ref 42, .int (zor (sungF set (mi 42)) j), .int (ztw (sungF set (mi 42)) j)], (zsh ++ vs, mi, ml, (zmr g))) rfl ?_
        refine Wp.ialn rfl (by decide) rfl (by omega) (by decide) ?_
        refine Wp.run 7 (48, [(4, .int ((ztw (sungF set (mi 42)) j) ||| ((zor (sungF set (mi 42)) j) &&& (mi 42 j)))), (0, .ref 38), (1, .int set), (2, .int tw), (3, .int (zor (sungF set (mi 42)) j)), (5, .int (nI j))], [.int (nI j), .ref 42, .int (zor (sungF set (mi 42)) j)], (zsh ++ vs, mi, ml, (zmr g))) rfl ?_
        refine Wp.ialn rfl (by decide) rfl (by omega) (by decide) ?_
        refine Wp.run 4 (8, [(5, .int ((nI j) + 1)), (3, .int ((zor (sungF set (mi 42)) j) ||| (mi 42 j))), (4, .int ((ztw (sungF set (mi 42)) j) ||| ((zor (sungF set (mi 42)) j) &&& (mi 42 j)))), (0, .ref 38), (1, .int set), (2, .int tw)], [], (zsh ++ vs, mi, ml, (zmr g))) rfl ?_
        rw [show (ztw (sungF set (mi 42)) j) ||| ((zor (sungF set (mi 42)) j) &&& (mi 42 j)) = ztw (sungF set (mi 42)) (j + 1) from (by rw [ztw, sungF, if_pos h2])]
        rw [show (zor (sungF set (mi 42)) j) ||| (mi 42 j) = zor (sungF set (mi 42)) (j + 1) from (by rw [zor, sungF, if_pos h2])]
        rw [nI_1]
        refine Wp.sub (a := [(0, .ref 38), (1, .int set), (2, .int tw), (3, .int (zor (sungF set (mi 42)) (j + 1))), (4, .int (ztw (sungF set (mi 42)) (j + 1))), (5, .int (nI (j + 1)))]) (zle_cons rfl (zle_cons rfl (zle_cons rfl (zle_cons rfl (zle_cons rfl (zle_cons rfl (zle_nil))))))) ?_
        exact ih (j + 1) (by omega)
theorem c_sungBy0_38 {E : zEn} {vs : List (Nat × Nat)} {mi : Nat → Nat → Int32} {ml : Nat → Nat → Int64} {g : Nat → Nat → Option Nat} (set : Int32) {n : Nat} (hn : mi 38 0 = nI n) (h6 : n ≤ 6) : Wp E 1 pg_Band_sungBy 0 (lv_args 0 [.ref 38, .int set, .int 0]) [] (zsh ++ vs, mi, ml, (zmr g)) (fun r w' => r = some (.int (zor (sungF set (mi 42)) n)) ∧ w' = (zsh ++ vs, mi, ml, zmr g)) := by
  have K : Wp E 1 pg_Band_sungBy 57 [(0, .ref 38), (1, .int set), (2, .int 0), (3, .int (zor (sungF set (mi 42)) n)), (4, .int (ztw (sungF set (mi 42)) n)), (5, .int (nI n))] [] (zsh ++ vs, mi, ml, (zmr g)) (fun r w' => r = some (.int (zor (sungF set (mi 42)) n)) ∧ w' = (zsh ++ vs, mi, ml, zmr g)) := by
    refine Wp.run 3 (67, [(0, .ref 38), (1, .int set), (2, .int 0), (3, .int (zor (sungF set (mi 42)) n)), (4, .int (ztw (sungF set (mi 42)) n)), (5, .int (nI n))], [.int (zor (sungF set (mi 42)) n)], (zsh ++ vs, mi, ml, (zmr g))) rfl ?_
    refine Wp.ret rfl rfl rfl ?_
    exact ⟨rfl, rfl⟩
  refine Wp.run 6 (8, [(5, .int 0), (4, .int 0), (3, .int 0), (0, .ref 38), (1, .int set), (2, .int 0)], [], (zsh ++ vs, mi, ml, (zmr g))) rfl ?_
  refine Wp.sub (a := [(0, .ref 38), (1, .int set), (2, .int 0), (3, .int (zor (sungF set (mi 42)) 0)), (4, .int (ztw (sungF set (mi 42)) 0)), (5, .int (nI 0))]) (zle_cons rfl (zle_cons rfl (zle_cons rfl (zle_cons rfl (zle_cons rfl (zle_cons rfl (zle_nil))))))) ?_
  exact c_sungBy_l38 set 0 hn h6 (by omega) K n 0 (by omega)
theorem c_sungBy1_38 {E : zEn} {vs : List (Nat × Nat)} {mi : Nat → Nat → Int32} {ml : Nat → Nat → Int64} {g : Nat → Nat → Option Nat} (set : Int32) {n : Nat} (hn : mi 38 0 = nI n) (h6 : n ≤ 6) : Wp E 1 pg_Band_sungBy 0 (lv_args 0 [.ref 38, .int set, .int 1]) [] (zsh ++ vs, mi, ml, (zmr g)) (fun r w' => r = some (.int (ztw (sungF set (mi 42)) n)) ∧ w' = (zsh ++ vs, mi, ml, zmr g)) := by
  have K : Wp E 1 pg_Band_sungBy 57 [(0, .ref 38), (1, .int set), (2, .int 1), (3, .int (zor (sungF set (mi 42)) n)), (4, .int (ztw (sungF set (mi 42)) n)), (5, .int (nI n))] [] (zsh ++ vs, mi, ml, (zmr g)) (fun r w' => r = some (.int (ztw (sungF set (mi 42)) n)) ∧ w' = (zsh ++ vs, mi, ml, zmr g)) := by
    refine Wp.run 4 (67, [(0, .ref 38), (1, .int set), (2, .int 1), (3, .int (zor (sungF set (mi 42)) n)), (4, .int (ztw (sungF set (mi 42)) n)), (5, .int (nI n))], [.int (ztw (sungF set (mi 42)) n)], (zsh ++ vs, mi, ml, (zmr g))) rfl ?_
    refine Wp.ret rfl rfl rfl ?_
    exact ⟨rfl, rfl⟩
  refine Wp.run 6 (8, [(5, .int 0), (4, .int 0), (3, .int 0), (0, .ref 38), (1, .int set), (2, .int 1)], [], (zsh ++ vs, mi, ml, (zmr g))) rfl ?_
  refine Wp.sub (a := [(0, .ref 38), (1, .int set), (2, .int 1), (3, .int (zor (sungF set (mi 42)) 0)), (4, .int (ztw (sungF set (mi 42)) 0)), (5, .int (nI 0))]) (zle_cons rfl (zle_cons rfl (zle_cons rfl (zle_cons rfl (zle_cons rfl (zle_cons rfl (zle_nil))))))) ?_
  exact c_sungBy_l38 set 1 hn h6 (by omega) K n 0 (by omega)
theorem c_kept_38 {E : zEn} {vs : List (Nat × Nat)} {mi : Nat → Nat → Int32} {ml : Nat → Nat → Int64} {g : Nat → Nat → Option Nat} {n : Nat} (hn : mi 38 0 = nI n) (h6 : n ≤ 6) : Wp E 2 pg_Band_kept 0 (lv_args 0 [.ref 38]) [] (zsh ++ vs, mi, ml, (zmr g)) (fun r w' => r = some (.int (zor (sungF (mi 38 2 ^^^ -1) (mi 42)) n)) ∧ w' = (zsh ++ vs, mi, ml, zmr g)) := by
  refine Wp.run 6 (8, [(0, .ref 38)], [.int 0, .int ((mi 38 2) ^^^ (-1)), .ref 38], (zsh ++ vs, mi, ml, (zmr g))) rfl ?_
  refine Wp.call (as := [.ref 38, .int ((mi 38 2) ^^^ (-1)), .int 0]) (rest := []) rfl rfl rfl rfl rfl (Nat.le_of_ble_eq_true rfl) (Nat.le_of_ble_eq_true rfl) rfl (by decide) (c_sungBy0_38 ((mi 38 2) ^^^ (-1)) hn h6) ?_
  rintro _ _ ⟨rfl, rfl⟩
  refine Wp.run 0 (11, [(0, .ref 38)], [.int (zor (sungF ((mi 38 2) ^^^ (-1)) (mi 42)) n)], (zsh ++ vs, mi, ml, (zmr g))) rfl ?_
  refine Wp.ret rfl rfl rfl ?_
  exact ⟨rfl, rfl⟩
theorem c_safe_38 {E : zEn} {vs : List (Nat × Nat)} {mi : Nat → Nat → Int32} {ml : Nat → Nat → Int64} {g : Nat → Nat → Option Nat} {n : Nat} (hn : mi 38 0 = nI n) (h6 : n ≤ 6) : Wp E 2 pg_Band_safe 0 (lv_args 0 [.ref 38]) [] (zsh ++ vs, mi, ml, (zmr g)) (fun r w' => r = some (.int (ztw (sungF (mi 38 2 ^^^ -1) (mi 42)) n)) ∧ w' = (zsh ++ vs, mi, ml, zmr g)) := by
  refine Wp.run 6 (8, [(0, .ref 38)], [.int 1, .int ((mi 38 2) ^^^ (-1)), .ref 38], (zsh ++ vs, mi, ml, (zmr g))) rfl ?_
  refine Wp.call (as := [.ref 38, .int ((mi 38 2) ^^^ (-1)), .int 1]) (rest := []) rfl rfl rfl rfl rfl (Nat.le_of_ble_eq_true rfl) (Nat.le_of_ble_eq_true rfl) rfl (by decide) (c_sungBy1_38 ((mi 38 2) ^^^ (-1)) hn h6) ?_
  rintro _ _ ⟨rfl, rfl⟩
  refine Wp.run 0 (11, [(0, .ref 38)], [.int (ztw (sungF ((mi 38 2) ^^^ (-1)) (mi 42)) n)], (zsh ++ vs, mi, ml, (zmr g))) rfl ?_
  refine Wp.ret rfl rfl rfl ?_
  exact ⟨rfl, rfl⟩
theorem c_holders_l38 {E : zEn} {vs : List (Nat × Nat)} {mi : Nat → Nat → Int32} {ml : Nat → Nat → Int64} {g : Nat → Nat → Option Nat} (x : Int32) {n : Nat} (hn : mi 38 0 = nI n) (h6 : n ≤ 6) {P : Option Value → zW → Prop} (hn9 : n < 2147483648) (K : Wp E 2 pg_Band_holders 39 [(0, .ref 38), (1, .int x), (2, .int (zsum (hldB mi 38 (mi 42) x) n)), (3, .int (nI n))] [] (zsh ++ vs, mi, ml, (zmr g)) P) : ∀ (k j : Nat), j + k = n → Wp E 2 pg_Band_holders 4 [(0, .ref 38), (1, .int x), (2, .int (zsum (hldB mi 38 (mi 42) x) j)), (3, .int (nI j))] [] (zsh ++ vs, mi, ml, (zmr g)) P := by
  intro k
  induction k with
  | zero =>
    intro j hj9
    obtain rfl : n = j := by omega
    refine Wp.run 3 (9, [(0, .ref 38), (1, .int x), (2, .int (zsum (hldB mi 38 (mi 42) x) n)), (3, .int (nI n))], [.int (mi 38 0), .int (nI n)], (zsh ++ vs, mi, ml, (zmr g))) rfl ?_
    rw [hn]
    refine Wp.run 0 (9, [(0, .ref 38), (1, .int x), (2, .int (zsum (hldB mi 38 (mi 42) x) n)), (3, .int (nI n))], [.int (nI n), .int (nI n)], (zsh ++ vs, mi, ml, (zmr g))) rfl ?_
    refine Wp.icmp_ge rfl (fun h1 => ?_) (fun h1 => ?_)
    · exact K
    · exact absurd (Int32.le_refl _) h1
  | succ k ih =>
    intro j hj9
    have hlt9 : j < n := by omega
    refine Wp.run 3 (9, [(0, .ref 38), (1, .int x), (2, .int (zsum (hldB mi 38 (mi 42) x) j)), (3, .int (nI j))], [.int (mi 38 0), .int (nI j)], (zsh ++ vs, mi, ml, (zmr g))) rfl ?_
    rw [hn]
    refine Wp.run 0 (9, [(0, .ref 38), (1, .int x), (2, .int (zsum (hldB mi 38 (mi 42) x) j)), (3, .int (nI j))], [.int (nI n), .int (nI j)], (zsh ++ vs, mi, ml, (zmr g))) rfl ?_
    refine Wp.icmp_ge rfl (fun h1 => ?_) (fun h1 => ?_)
    · exact absurd h1 (nI_ge hlt9 hn9)
    · refine Wp.run 2 (14, [(0, .ref 38), (1, .int x), (2, .int (zsum (hldB mi 38 (mi 42) x) j)), (3, .int (nI j))], [.int (nI j), .ref 38], (zsh ++ vs, mi, ml, (zmr g))) rfl ?_
      refine Wp.call (as := [.ref 38, .int (nI j)]) (rest := []) rfl rfl rfl rfl rfl (Nat.le_of_ble_eq_true rfl) (Nat.le_of_ble_eq_true rfl) rfl (by decide) (c_isHere_38 (nI j)) ?_
      rintro _ _ ⟨rfl, rfl⟩
      by_cases c10 : mi 38 2 >>> (nI j &&& 31) &&& 1 = 0
      · rw [if_pos c10]
        refine Wp.run 5 (26, [(0, .ref 38), (1, .int x), (2, .int (zsum (hldB mi 38 (mi 42) x) j)), (3, .int (nI j))], [.int (nI j), .ref 42, .int (zsum (hldB mi 38 (mi 42) x) j)], (zsh ++ vs, mi, ml, (zmr g))) rfl ?_
        refine Wp.ialn rfl (by decide) rfl (by omega) (by decide) ?_
        refine Wp.run 1 (28, [(0, .ref 38), (1, .int x), (2, .int (zsum (hldB mi 38 (mi 42) x) j)), (3, .int (nI j))], [.int x, .int (mi 42 j), .int (zsum (hldB mi 38 (mi 42) x) j)], (zsh ++ vs, mi, ml, (zmr g))) rfl ?_
        refine Wp.call (as := [.int (mi 42 j), .int x]) (rest := [.int (zsum (hldB mi 38 (mi 42) x) j)]) rfl rfl rfl rfl rfl (Nat.le_of_ble_eq_true rfl) (Nat.le_of_ble_eq_true rfl) rfl (by decide) (c_bit (mi 42 j) x) ?_
        rintro _ _ ⟨rfl, rfl⟩
        refine Wp.run 4 (4, [(3, .int ((nI j) + 1)), (2, .int ((zsum (hldB mi 38 (mi 42) x) j) + ((mi 42 j) >>> (x &&& 31) &&& 1))), (0, .ref 38), (1, .int x)], [], (zsh ++ vs, mi, ml, (zmr g))) rfl ?_
        rw [show (zsum (hldB mi 38 (mi 42) x) j) + ((mi 42 j) >>> (x &&& 31) &&& 1) = zsum (hldB mi 38 (mi 42) x) (j + 1) from (by rw [zsum, hldB, if_pos c10])]
        rw [nI_1]
        refine Wp.sub (a := [(0, .ref 38), (1, .int x), (2, .int (zsum (hldB mi 38 (mi 42) x) (j + 1))), (3, .int (nI (j + 1)))]) (zle_cons rfl (zle_cons rfl (zle_cons rfl (zle_cons rfl (zle_nil))))) ?_
        exact ih (j + 1) (by omega)
      · rw [if_neg c10]
        refine Wp.run 3 (4, [(3, .int ((nI j) + 1)), (0, .ref 38), (1, .int x), (2, .int (zsum (hldB mi 38 (mi 42) x) j))], [], (zsh ++ vs, mi, ml, (zmr g))) rfl ?_
        rw [show zsum (hldB mi 38 (mi 42) x) j = zsum (hldB mi 38 (mi 42) x) (j + 1) from (by rw [zsum, hldB, if_neg c10]; exact (Int32.add_zero _).symm)]
        rw [nI_1]
        refine Wp.sub (a := [(0, .ref 38), (1, .int x), (2, .int (zsum (hldB mi 38 (mi 42) x) (j + 1))), (3, .int (nI (j + 1)))]) (zle_cons rfl (zle_cons rfl (zle_cons rfl (zle_cons rfl (zle_nil))))) ?_
        exact ih (j + 1) (by omega)
theorem c_holders_38 {E : zEn} {vs : List (Nat × Nat)} {mi : Nat → Nat → Int32} {ml : Nat → Nat → Int64} {g : Nat → Nat → Option Nat} (x : Int32) {n : Nat} (hn : mi 38 0 = nI n) (h6 : n ≤ 6) : Wp E 2 pg_Band_holders 0 (lv_args 0 [.ref 38, .int x]) [] (zsh ++ vs, mi, ml, (zmr g)) (fun r w' => r = some (.int (zsum (hldB mi 38 (mi 42) x) n)) ∧ w' = (zsh ++ vs, mi, ml, zmr g)) := by
  have K : Wp E 2 pg_Band_holders 39 [(0, .ref 38), (1, .int x), (2, .int (zsum (hldB mi 38 (mi 42) x) n)), (3, .int (nI n))] [] (zsh ++ vs, mi, ml, (zmr g)) (fun r w' => r = some (.int (zsum (hldB mi 38 (mi 42) x) n)) ∧ w' = (zsh ++ vs, mi, ml, zmr g)) := by
    refine Wp.run 1 (40, [(0, .ref 38), (1, .int x), (2, .int (zsum (hldB mi 38 (mi 42) x) n)), (3, .int (nI n))], [.int (zsum (hldB mi 38 (mi 42) x) n)], (zsh ++ vs, mi, ml, (zmr g))) rfl ?_
    refine Wp.ret rfl rfl rfl ?_
    exact ⟨rfl, rfl⟩
  refine Wp.run 4 (4, [(3, .int 0), (2, .int 0), (0, .ref 38), (1, .int x)], [], (zsh ++ vs, mi, ml, (zmr g))) rfl ?_
  refine Wp.sub (a := [(0, .ref 38), (1, .int x), (2, .int (zsum (hldB mi 38 (mi 42) x) 0)), (3, .int (nI 0))]) (zle_cons rfl (zle_cons rfl (zle_cons rfl (zle_cons rfl (zle_nil))))) ?_
  exact c_holders_l38 x hn h6 (by omega) K n 0 (by omega)
theorem c_forgot_l38 {E : zEn} {vs : List (Nat × Nat)} {mi : Nat → Nat → Int32} {ml : Nat → Nat → Int64} {g : Nat → Nat → Option Nat} {n : Nat} (hn : mi 38 0 = nI n) (h6 : n ≤ 6) {P : Option Value → zW → Prop} (hn9 : n < 2147483648) (K : Wp E 0 pg_Band_forgotByAll 27 [(0, .ref 38), (1, .int (zsum (mi 44) n)), (2, .int (nI n))] [] (zsh ++ vs, mi, ml, (zmr g)) P) : ∀ (k j : Nat), j + k = n → Wp E 0 pg_Band_forgotByAll 4 [(0, .ref 38), (1, .int (zsum (mi 44) j)), (2, .int (nI j))] [] (zsh ++ vs, mi, ml, (zmr g)) P := by
  intro k
  induction k with
  | zero =>
    intro j hj9
    obtain rfl : n = j := by omega
    refine Wp.run 3 (9, [(0, .ref 38), (1, .int (zsum (mi 44) n)), (2, .int (nI n))], [.int (mi 38 0), .int (nI n)], (zsh ++ vs, mi, ml, (zmr g))) rfl ?_
    rw [hn]
    refine Wp.run 0 (9, [(0, .ref 38), (1, .int (zsum (mi 44) n)), (2, .int (nI n))], [.int (nI n), .int (nI n)], (zsh ++ vs, mi, ml, (zmr g))) rfl ?_
    refine Wp.icmp_ge rfl (fun h1 => ?_) (fun h1 => ?_)
    · exact K
    · exact absurd (Int32.le_refl _) h1
  | succ k ih =>
    intro j hj9
    have hlt9 : j < n := by omega
    refine Wp.run 3 (9, [(0, .ref 38), (1, .int (zsum (mi 44) j)), (2, .int (nI j))], [.int (mi 38 0), .int (nI j)], (zsh ++ vs, mi, ml, (zmr g))) rfl ?_
    rw [hn]
    refine Wp.run 0 (9, [(0, .ref 38), (1, .int (zsum (mi 44) j)), (2, .int (nI j))], [.int (nI n), .int (nI j)], (zsh ++ vs, mi, ml, (zmr g))) rfl ?_
    refine Wp.icmp_ge rfl (fun h1 => ?_) (fun h1 => ?_)
    · exact absurd h1 (nI_ge hlt9 hn9)
    · refine Wp.run 4 (18, [(0, .ref 38), (1, .int (zsum (mi 44) j)), (2, .int (nI j))], [.int (nI j), .ref 44, .int (zsum (mi 44) j)], (zsh ++ vs, mi, ml, (zmr g))) rfl ?_
      refine Wp.ialn rfl (by decide) rfl (by omega) (by decide) ?_
      refine Wp.run 4 (4, [(2, .int ((nI j) + 1)), (1, .int ((zsum (mi 44) j) + (mi 44 j))), (0, .ref 38)], [], (zsh ++ vs, mi, ml, (zmr g))) rfl ?_
      rw [show (zsum (mi 44) j) + (mi 44 j) = zsum (mi 44) (j + 1) from (by rw [zsum])]
      rw [nI_1]
      refine Wp.sub (a := [(0, .ref 38), (1, .int (zsum (mi 44) (j + 1))), (2, .int (nI (j + 1)))]) (zle_cons rfl (zle_cons rfl (zle_cons rfl (zle_nil)))) ?_
      exact ih (j + 1) (by omega)
theorem c_forgot_38 {E : zEn} {vs : List (Nat × Nat)} {mi : Nat → Nat → Int32} {ml : Nat → Nat → Int64} {g : Nat → Nat → Option Nat} {n : Nat} (hn : mi 38 0 = nI n) (h6 : n ≤ 6) : Wp E 0 pg_Band_forgotByAll 0 (lv_args 0 [.ref 38]) [] (zsh ++ vs, mi, ml, (zmr g)) (fun r w' => r = some (.int (zsum (mi 44) n)) ∧ w' = (zsh ++ vs, mi, ml, zmr g)) := by
  have K : Wp E 0 pg_Band_forgotByAll 27 [(0, .ref 38), (1, .int (zsum (mi 44) n)), (2, .int (nI n))] [] (zsh ++ vs, mi, ml, (zmr g)) (fun r w' => r = some (.int (zsum (mi 44) n)) ∧ w' = (zsh ++ vs, mi, ml, zmr g)) := by
    refine Wp.run 1 (28, [(0, .ref 38), (1, .int (zsum (mi 44) n)), (2, .int (nI n))], [.int (zsum (mi 44) n)], (zsh ++ vs, mi, ml, (zmr g))) rfl ?_
    refine Wp.ret rfl rfl rfl ?_
    exact ⟨rfl, rfl⟩
  refine Wp.run 4 (4, [(2, .int 0), (1, .int 0), (0, .ref 38)], [], (zsh ++ vs, mi, ml, (zmr g))) rfl ?_
  refine Wp.sub (a := [(0, .ref 38), (1, .int (zsum (mi 44) 0)), (2, .int (nI 0))]) (zle_cons rfl (zle_cons rfl (zle_cons rfl (zle_nil)))) ?_
  exact c_forgot_l38 hn h6 (by omega) K n 0 (by omega)
theorem c_sharers_l38 {E : zEn} {vs : List (Nat × Nat)} {mi : Nat → Nat → Int32} {ml : Nat → Nat → Int64} {g : Nat → Nat → Option Nat} (i : Nat) (hi : i < 6) {n : Nat} (hn : mi 38 0 = nI n) (h6 : n ≤ 6) {P : Option Value → zW → Prop} (hn9 : n < 2147483648) (K : Wp E 2 pg_Band_sharers 50 [(0, .ref 38), (1, .int (nI i)), (2, .int (zsum (shrF (awB mi 38) (mi 42) i) n)), (3, .int (nI n))] [] (zsh ++ vs, mi, ml, (zmr g)) P) : ∀ (k j : Nat), j + k = n → Wp E 2 pg_Band_sharers 4 [(0, .ref 38), (1, .int (nI i)), (2, .int (zsum (shrF (awB mi 38) (mi 42) i) j)), (3, .int (nI j))] [] (zsh ++ vs, mi, ml, (zmr g)) P := by
  intro k
  induction k with
  | zero =>
    intro j hj9
    obtain rfl : n = j := by omega
    refine Wp.run 3 (9, [(0, .ref 38), (1, .int (nI i)), (2, .int (zsum (shrF (awB mi 38) (mi 42) i) n)), (3, .int (nI n))], [.int (mi 38 0), .int (nI n)], (zsh ++ vs, mi, ml, (zmr g))) rfl ?_
    rw [hn]
    refine Wp.run 0 (9, [(0, .ref 38), (1, .int (nI i)), (2, .int (zsum (shrF (awB mi 38) (mi 42) i) n)), (3, .int (nI n))], [.int (nI n), .int (nI n)], (zsh ++ vs, mi, ml, (zmr g))) rfl ?_
    refine Wp.icmp_ge rfl (fun h1 => ?_) (fun h1 => ?_)
    · exact K
    · exact absurd (Int32.le_refl _) h1
  | succ k ih =>
    intro j hj9
    have hlt9 : j < n := by omega
    refine Wp.run 3 (9, [(0, .ref 38), (1, .int (nI i)), (2, .int (zsum (shrF (awB mi 38) (mi 42) i) j)), (3, .int (nI j))], [.int (mi 38 0), .int (nI j)], (zsh ++ vs, mi, ml, (zmr g))) rfl ?_
    rw [hn]
    refine Wp.run 0 (9, [(0, .ref 38), (1, .int (nI i)), (2, .int (zsum (shrF (awB mi 38) (mi 42) i) j)), (3, .int (nI j))], [.int (nI n), .int (nI j)], (zsh ++ vs, mi, ml, (zmr g))) rfl ?_
    refine Wp.icmp_ge rfl (fun h1 => ?_) (fun h1 => ?_)
    · exact absurd h1 (nI_ge hlt9 hn9)
    · refine Wp.run 2 (14, [(0, .ref 38), (1, .int (nI i)), (2, .int (zsum (shrF (awB mi 38) (mi 42) i) j)), (3, .int (nI j))], [.int (nI i), .int (nI j)], (zsh ++ vs, mi, ml, (zmr g))) rfl ?_
      refine Wp.icmp_eq rfl (fun h2 => ?_) (fun h2 => ?_)
      · refine Wp.run 2 (4, [(3, .int ((nI j) + 1)), (0, .ref 38), (1, .int (nI i)), (2, .int (zsum (shrF (awB mi 38) (mi 42) i) j))], [], (zsh ++ vs, mi, ml, (zmr g))) rfl ?_
        rw [show zsum (shrF (awB mi 38) (mi 42) i) j = zsum (shrF (awB mi 38) (mi 42) i) (j + 1) from (by rw [zsum, shrF, if_neg (fun h => h.1 h2)]; exact (Int32.add_zero _).symm)]
        rw [nI_1]
        refine Wp.sub (a := [(0, .ref 38), (1, .int (nI i)), (2, .int (zsum (shrF (awB mi 38) (mi 42) i) (j + 1))), (3, .int (nI (j + 1)))]) (zle_cons rfl (zle_cons rfl (zle_cons rfl (zle_cons rfl (zle_nil))))) ?_
        exact ih (j + 1) (by omega)
      · refine Wp.run 2 (19, [(0, .ref 38), (1, .int (nI i)), (2, .int (zsum (shrF (awB mi 38) (mi 42) i) j)), (3, .int (nI j))], [.int (nI j), .ref 38], (zsh ++ vs, mi, ml, (zmr g))) rfl ?_
        refine Wp.call (as := [.ref 38, .int (nI j)]) (rest := []) rfl rfl rfl rfl rfl (Nat.le_of_ble_eq_true rfl) (Nat.le_of_ble_eq_true rfl) rfl (by decide) (c_isHere_38 (nI j)) ?_
        rintro _ _ ⟨rfl, rfl⟩
        by_cases c11 : mi 38 2 >>> (nI j &&& 31) &&& 1 = 0
        · rw [if_pos c11]
          refine Wp.run 4 (30, [(0, .ref 38), (1, .int (nI i)), (2, .int (zsum (shrF (awB mi 38) (mi 42) i) j)), (3, .int (nI j))], [.int (nI j), .ref 42], (zsh ++ vs, mi, ml, (zmr g))) rfl ?_
          refine Wp.ialn rfl (by decide) rfl (by omega) (by decide) ?_
          refine Wp.run 3 (36, [(0, .ref 38), (1, .int (nI i)), (2, .int (zsum (shrF (awB mi 38) (mi 42) i) j)), (3, .int (nI j))], [.int (nI i), .ref 42, .int (mi 42 j)], (zsh ++ vs, mi, ml, (zmr g))) rfl ?_
          refine Wp.ialn rfl (by decide) rfl (by omega) (by decide) ?_
          refine Wp.run 1 (38, [(0, .ref 38), (1, .int (nI i)), (2, .int (zsum (shrF (awB mi 38) (mi 42) i) j)), (3, .int (nI j))], [.int ((mi 42 j) &&& (mi 42 i))], (zsh ++ vs, mi, ml, (zmr g))) rfl ?_
          refine Wp.if_eq rfl (fun h3 => ?_) (fun h3 => ?_)
          · refine Wp.run 2 (4, [(3, .int ((nI j) + 1)), (0, .ref 38), (1, .int (nI i)), (2, .int (zsum (shrF (awB mi 38) (mi 42) i) j))], [], (zsh ++ vs, mi, ml, (zmr g))) rfl ?_
            rw [show zsum (shrF (awB mi 38) (mi 42) i) j = zsum (shrF (awB mi 38) (mi 42) i) (j + 1) from (by rw [zsum, shrF, if_neg (fun h => h.2.2 h3)]; exact (Int32.add_zero _).symm)]
            rw [nI_1]
            refine Wp.sub (a := [(0, .ref 38), (1, .int (nI i)), (2, .int (zsum (shrF (awB mi 38) (mi 42) i) (j + 1))), (3, .int (nI (j + 1)))]) (zle_cons rfl (zle_cons rfl (zle_cons rfl (zle_cons rfl (zle_nil))))) ?_
            exact ih (j + 1) (by omega)
          · refine Wp.run 3 (4, [(3, .int ((nI j) + 1)), (2, .int ((zsum (shrF (awB mi 38) (mi 42) i) j) + 1)), (0, .ref 38), (1, .int (nI i))], [], (zsh ++ vs, mi, ml, (zmr g))) rfl ?_
            rw [show (zsum (shrF (awB mi 38) (mi 42) i) j) + 1 = zsum (shrF (awB mi 38) (mi 42) i) (j + 1) from (by rw [zsum, shrF, if_pos ⟨h2, c11, h3⟩])]
            rw [nI_1]
            refine Wp.sub (a := [(0, .ref 38), (1, .int (nI i)), (2, .int (zsum (shrF (awB mi 38) (mi 42) i) (j + 1))), (3, .int (nI (j + 1)))]) (zle_cons rfl (zle_cons rfl (zle_cons rfl (zle_cons rfl (zle_nil))))) ?_
            exact ih (j + 1) (by omega)
        · rw [if_neg c11]
          refine Wp.run 3 (4, [(3, .int ((nI j) + 1)), (0, .ref 38), (1, .int (nI i)), (2, .int (zsum (shrF (awB mi 38) (mi 42) i) j))], [], (zsh ++ vs, mi, ml, (zmr g))) rfl ?_
          rw [show zsum (shrF (awB mi 38) (mi 42) i) j = zsum (shrF (awB mi 38) (mi 42) i) (j + 1) from (by rw [zsum, shrF, if_neg (fun h => c11 h.2.1)]; exact (Int32.add_zero _).symm)]
          rw [nI_1]
          refine Wp.sub (a := [(0, .ref 38), (1, .int (nI i)), (2, .int (zsum (shrF (awB mi 38) (mi 42) i) (j + 1))), (3, .int (nI (j + 1)))]) (zle_cons rfl (zle_cons rfl (zle_cons rfl (zle_cons rfl (zle_nil))))) ?_
          exact ih (j + 1) (by omega)
theorem c_sharers_38 {E : zEn} {vs : List (Nat × Nat)} {mi : Nat → Nat → Int32} {ml : Nat → Nat → Int64} {g : Nat → Nat → Option Nat} (i : Nat) (hi : i < 6) {n : Nat} (hn : mi 38 0 = nI n) (h6 : n ≤ 6) : Wp E 2 pg_Band_sharers 0 (lv_args 0 [.ref 38, .int (nI i)]) [] (zsh ++ vs, mi, ml, (zmr g)) (fun r w' => r = some (.int (zsum (shrF (awB mi 38) (mi 42) i) n)) ∧ w' = (zsh ++ vs, mi, ml, zmr g)) := by
  have K : Wp E 2 pg_Band_sharers 50 [(0, .ref 38), (1, .int (nI i)), (2, .int (zsum (shrF (awB mi 38) (mi 42) i) n)), (3, .int (nI n))] [] (zsh ++ vs, mi, ml, (zmr g)) (fun r w' => r = some (.int (zsum (shrF (awB mi 38) (mi 42) i) n)) ∧ w' = (zsh ++ vs, mi, ml, zmr g)) := by
    refine Wp.run 1 (51, [(0, .ref 38), (1, .int (nI i)), (2, .int (zsum (shrF (awB mi 38) (mi 42) i) n)), (3, .int (nI n))], [.int (zsum (shrF (awB mi 38) (mi 42) i) n)], (zsh ++ vs, mi, ml, (zmr g))) rfl ?_
    refine Wp.ret rfl rfl rfl ?_
    exact ⟨rfl, rfl⟩
  refine Wp.run 4 (4, [(3, .int 0), (2, .int 0), (0, .ref 38), (1, .int (nI i))], [], (zsh ++ vs, mi, ml, (zmr g))) rfl ?_
  refine Wp.sub (a := [(0, .ref 38), (1, .int (nI i)), (2, .int (zsum (shrF (awB mi 38) (mi 42) i) 0)), (3, .int (nI 0))]) (zle_cons rfl (zle_cons rfl (zle_cons rfl (zle_cons rfl (zle_nil))))) ?_
  exact c_sharers_l38 i hi hn h6 (by omega) K n 0 (by omega)
theorem c_sacks_l38 {E : zEn} {vs : List (Nat × Nat)} {mi : Nat → Nat → Int32} {ml : Nat → Nat → Int64} {g : Nat → Nat → Option Nat} {n : Nat} (hn : mi 38 0 = nI n) (h6 : n ≤ 6) {P : Option Value → zW → Prop} (hn9 : 8 < 2147483648) (K : Wp E 3 pg_Band_sacksKept 36 [(0, .ref 38), (1, .int (zor (sungF (mi 38 2 ^^^ -1) (mi 42)) n)), (2, .int (zsum (fun p => (zor (sungF (mi 38 2 ^^^ -1) (mi 42)) n >>> (nI p &&& 31) &&& 1) * mi 39 p) 8)), (3, .int (nI 8))] [] (zsh ++ vs, mi, ml, (zmr g)) P) : ∀ (k j : Nat), j + k = 8 → Wp E 3 pg_Band_sacksKept 9 [(0, .ref 38), (1, .int (zor (sungF (mi 38 2 ^^^ -1) (mi 42)) n)), (2, .int (zsum (fun p => (zor (sungF (mi 38 2 ^^^ -1) (mi 42)) n >>> (nI p &&& 31) &&& 1) * mi 39 p) j)), (3, .int (nI j))] [] (zsh ++ vs, mi, ml, (zmr g)) P := by
  intro k
  induction k with
  | zero =>
    intro j hj9
    obtain rfl : 8 = j := by omega
    refine Wp.run 2 (12, [(0, .ref 38), (1, .int (zor (sungF (mi 38 2 ^^^ -1) (mi 42)) n)), (2, .int (zsum (fun p => (zor (sungF (mi 38 2 ^^^ -1) (mi 42)) n >>> (nI p &&& 31) &&& 1) * mi 39 p) 8)), (3, .int (nI 8))], [.int 8, .int (nI 8)], (zsh ++ vs, mi, ml, (zmr g))) rfl ?_
    refine Wp.icmp_ge rfl (fun h1 => ?_) (fun h1 => ?_)
    · exact K
    · exact absurd (Int32.le_refl _) h1
  | succ k ih =>
    intro j hj9
    have hlt9 : j < 8 := by omega
    refine Wp.run 2 (12, [(0, .ref 38), (1, .int (zor (sungF (mi 38 2 ^^^ -1) (mi 42)) n)), (2, .int (zsum (fun p => (zor (sungF (mi 38 2 ^^^ -1) (mi 42)) n >>> (nI p &&& 31) &&& 1) * mi 39 p) j)), (3, .int (nI j))], [.int 8, .int (nI j)], (zsh ++ vs, mi, ml, (zmr g))) rfl ?_
    refine Wp.icmp_ge rfl (fun h1 => ?_) (fun h1 => ?_)
    · exact absurd h1 (nI_ge hlt9 hn9)
    · refine Wp.run 3 (18, [(0, .ref 38), (1, .int (zor (sungF (mi 38 2 ^^^ -1) (mi 42)) n)), (2, .int (zsum (fun p => (zor (sungF (mi 38 2 ^^^ -1) (mi 42)) n >>> (nI p &&& 31) &&& 1) * mi 39 p) j)), (3, .int (nI j))], [.int (nI j), .int (zor (sungF (mi 38 2 ^^^ -1) (mi 42)) n), .int (zsum (fun p => (zor (sungF (mi 38 2 ^^^ -1) (mi 42)) n >>> (nI p &&& 31) &&& 1) * mi 39 p) j)], (zsh ++ vs, mi, ml, (zmr g))) rfl ?_
      refine Wp.call (as := [.int (zor (sungF (mi 38 2 ^^^ -1) (mi 42)) n), .int (nI j)]) (rest := [.int (zsum (fun p => (zor (sungF (mi 38 2 ^^^ -1) (mi 42)) n >>> (nI p &&& 31) &&& 1) * mi 39 p) j)]) rfl rfl rfl rfl rfl (Nat.le_of_ble_eq_true rfl) (Nat.le_of_ble_eq_true rfl) rfl (by decide) (c_bit (zor (sungF (mi 38 2 ^^^ -1) (mi 42)) n) (nI j)) ?_
      rintro _ _ ⟨rfl, rfl⟩
      refine Wp.run 3 (26, [(0, .ref 38), (1, .int (zor (sungF (mi 38 2 ^^^ -1) (mi 42)) n)), (2, .int (zsum (fun p => (zor (sungF (mi 38 2 ^^^ -1) (mi 42)) n >>> (nI p &&& 31) &&& 1) * mi 39 p) j)), (3, .int (nI j))], [.int (nI j), .ref 39, .int ((zor (sungF (mi 38 2 ^^^ -1) (mi 42)) n) >>> ((nI j) &&& 31) &&& 1), .int (zsum (fun p => (zor (sungF (mi 38 2 ^^^ -1) (mi 42)) n >>> (nI p &&& 31) &&& 1) * mi 39 p) j)], (zsh ++ vs, mi, ml, (zmr g))) rfl ?_
      refine Wp.ialn rfl (by decide) rfl (by omega) (by decide) ?_
      refine Wp.run 5 (9, [(3, .int ((nI j) + 1)), (2, .int ((zsum (fun p => (zor (sungF (mi 38 2 ^^^ -1) (mi 42)) n >>> (nI p &&& 31) &&& 1) * mi 39 p) j) + (((zor (sungF (mi 38 2 ^^^ -1) (mi 42)) n) >>> ((nI j) &&& 31) &&& 1) * (mi 39 j)))), (0, .ref 38), (1, .int (zor (sungF (mi 38 2 ^^^ -1) (mi 42)) n))], [], (zsh ++ vs, mi, ml, (zmr g))) rfl ?_
      rw [show (zsum (fun p => (zor (sungF (mi 38 2 ^^^ -1) (mi 42)) n >>> (nI p &&& 31) &&& 1) * mi 39 p) j) + (((zor (sungF (mi 38 2 ^^^ -1) (mi 42)) n) >>> ((nI j) &&& 31) &&& 1) * (mi 39 j)) = zsum (fun p => (zor (sungF (mi 38 2 ^^^ -1) (mi 42)) n >>> (nI p &&& 31) &&& 1) * mi 39 p) (j + 1) from (by rw [zsum])]
      rw [nI_1]
      refine Wp.sub (a := [(0, .ref 38), (1, .int (zor (sungF (mi 38 2 ^^^ -1) (mi 42)) n)), (2, .int (zsum (fun p => (zor (sungF (mi 38 2 ^^^ -1) (mi 42)) n >>> (nI p &&& 31) &&& 1) * mi 39 p) (j + 1))), (3, .int (nI (j + 1)))]) (zle_cons rfl (zle_cons rfl (zle_cons rfl (zle_cons rfl (zle_nil))))) ?_
      exact ih (j + 1) (by omega)
theorem c_sacks_38 {E : zEn} {vs : List (Nat × Nat)} {mi : Nat → Nat → Int32} {ml : Nat → Nat → Int64} {g : Nat → Nat → Option Nat} {n : Nat} (hn : mi 38 0 = nI n) (h6 : n ≤ 6) : Wp E 3 pg_Band_sacksKept 0 (lv_args 0 [.ref 38]) [] (zsh ++ vs, mi, ml, (zmr g)) (fun r w' => r = some (.int (zsum (fun p => (zor (sungF (mi 38 2 ^^^ -1) (mi 42)) n >>> (nI p &&& 31) &&& 1) * mi 39 p) 8)) ∧ w' = (zsh ++ vs, mi, ml, zmr g)) := by
  have K : Wp E 3 pg_Band_sacksKept 36 [(0, .ref 38), (1, .int (zor (sungF (mi 38 2 ^^^ -1) (mi 42)) n)), (2, .int (zsum (fun p => (zor (sungF (mi 38 2 ^^^ -1) (mi 42)) n >>> (nI p &&& 31) &&& 1) * mi 39 p) 8)), (3, .int (nI 8))] [] (zsh ++ vs, mi, ml, (zmr g)) (fun r w' => r = some (.int (zsum (fun p => (zor (sungF (mi 38 2 ^^^ -1) (mi 42)) n >>> (nI p &&& 31) &&& 1) * mi 39 p) 8)) ∧ w' = (zsh ++ vs, mi, ml, zmr g)) := by
    refine Wp.run 1 (37, [(0, .ref 38), (1, .int (zor (sungF (mi 38 2 ^^^ -1) (mi 42)) n)), (2, .int (zsum (fun p => (zor (sungF (mi 38 2 ^^^ -1) (mi 42)) n >>> (nI p &&& 31) &&& 1) * mi 39 p) 8)), (3, .int (nI 8))], [.int (zsum (fun p => (zor (sungF (mi 38 2 ^^^ -1) (mi 42)) n >>> (nI p &&& 31) &&& 1) * mi 39 p) 8)], (zsh ++ vs, mi, ml, (zmr g))) rfl ?_
    refine Wp.ret rfl rfl rfl ?_
    exact ⟨rfl, rfl⟩
  refine Wp.run 1 (1, [(0, .ref 38)], [.ref 38], (zsh ++ vs, mi, ml, (zmr g))) rfl ?_
  refine Wp.call (as := [.ref 38]) (rest := []) rfl rfl rfl rfl rfl (Nat.le_of_ble_eq_true rfl) (Nat.le_of_ble_eq_true rfl) rfl (by decide) (c_kept_38 hn h6) ?_
  rintro _ _ ⟨rfl, rfl⟩
  refine Wp.run 5 (9, [(3, .int 0), (2, .int 0), (1, .int (zor (sungF (mi 38 2 ^^^ -1) (mi 42)) n)), (0, .ref 38)], [], (zsh ++ vs, mi, ml, (zmr g))) rfl ?_
  refine Wp.sub (a := [(0, .ref 38), (1, .int (zor (sungF (mi 38 2 ^^^ -1) (mi 42)) n)), (2, .int (zsum (fun p => (zor (sungF (mi 38 2 ^^^ -1) (mi 42)) n >>> (nI p &&& 31) &&& 1) * mi 39 p) 0)), (3, .int (nI 0))]) (zle_cons rfl (zle_cons rfl (zle_cons rfl (zle_cons rfl (zle_nil))))) ?_
  exact c_sacks_l38 hn h6 (by omega) K 8 0 (by omega)
