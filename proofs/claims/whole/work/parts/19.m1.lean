/-! THE REFERENCE: its small methods. Row 67 is its state: parts 0 to 7, singer k at 8 + 10 * k, 68 how many, 69 the day, 70 the rule, 71 .. what is seen, 87 .. the plan, 108 .. the book -/
theorem ix_one (a b : Nat) : (8 : Int32) + 10 * nI a + nI b = nI (8 + 10 * a + b) := by
  show nI 8 + nI 10 * nI a + nI b = _
  rw [pk_mul, nI_add, nI_add]
/-- how many of the first eight bits -/
def zmany (b : Int32) : Int32 := 0 + (b >>> ((0 : Int32) &&& 31) &&& 1) + (b >>> ((1 : Int32) &&& 31) &&& 1) + (b >>> ((2 : Int32) &&& 31) &&& 1) + (b >>> ((3 : Int32) &&& 31) &&& 1) + (b >>> ((4 : Int32) &&& 31) &&& 1) + (b >>> ((5 : Int32) &&& 31) &&& 1) + (b >>> ((6 : Int32) &&& 31) &&& 1) + (b >>> ((7 : Int32) &&& 31) &&& 1)
theorem m_isIn {E : zEn} {w : zW} (x lo hi : Int32) : Wp E 0 pg_M_isIn 0 (lv_args 0 [.int x, .int lo, .int hi]) [] w (fun r w' => r = some (.int (if lo ≤ x ∧ x ≤ hi then 1 else 0)) ∧ w' = w) := by
  refine Wp.run 2 (2, [(0, .int x), (1, .int lo), (2, .int hi)], [.int lo, .int x], (w.1, w.2.1, w.2.2.1, w.2.2.2)) rfl ?_
  refine Wp.icmp_lt rfl (fun h1 => ?_) (fun h1 => ?_)
  · refine Wp.run 1 (15, [(0, .int x), (1, .int lo), (2, .int hi)], [.int 0], (w.1, w.2.1, w.2.2.1, w.2.2.2)) rfl ?_
    refine Wp.ret rfl rfl rfl ?_
    exact ⟨by rw [if_neg (fun h => Int32.not_le.mpr h1 h.1)], rfl⟩
  · refine Wp.run 2 (7, [(0, .int x), (1, .int lo), (2, .int hi)], [.int hi, .int x], (w.1, w.2.1, w.2.2.1, w.2.2.2)) rfl ?_
    refine Wp.icmp_gt rfl (fun h2 => ?_) (fun h2 => ?_)
    · refine Wp.run 1 (15, [(0, .int x), (1, .int lo), (2, .int hi)], [.int 0], (w.1, w.2.1, w.2.2.1, w.2.2.2)) rfl ?_
      refine Wp.ret rfl rfl rfl ?_
      exact ⟨by rw [if_neg (fun h => Int32.not_le.mpr h2 h.2)], rfl⟩
    · refine Wp.run 2 (15, [(0, .int x), (1, .int lo), (2, .int hi)], [.int 1], (w.1, w.2.1, w.2.2.1, w.2.2.2)) rfl ?_
      refine Wp.ret rfl rfl rfl ?_
      exact ⟨by rw [if_pos ⟨Int32.not_lt.mp h1, Int32.not_lt.mp h2⟩], rfl⟩
theorem m_isOne {E : zEn} {vs : List (Nat × Nat)} {mi : Nat → Nat → Int32} {ml : Nat → Nat → Int64} {g : Nat → Nat → Option Nat} (x : Int32) : Wp E 1 pg_M_isOne 0 (lv_args 0 [.ref 66, .int x]) [] (zsh ++ vs, mi, ml, (zmr g)) (fun r w' => r = some (.int (if 0 ≤ x ∧ x ≤ mi 67 68 - 1 then 1 else 0)) ∧ w' = (zsh ++ vs, mi, ml, zmr g)) := by
  refine Wp.run 8 (11, [(0, .ref 66), (1, .int x)], [.int ((mi 67 68) - 1), .int 0, .int x], (zsh ++ vs, mi, ml, (zmr g))) rfl ?_
  refine Wp.call (as := [.int x, .int 0, .int ((mi 67 68) - 1)]) (rest := []) rfl rfl rfl rfl rfl (Nat.le_of_ble_eq_true rfl) (Nat.le_of_ble_eq_true rfl) rfl (by decide) (m_isIn x 0 ((mi 67 68) - 1)) ?_
  rintro _ _ ⟨rfl, rfl⟩
  by_cases c1 : 0 ≤ x ∧ x ≤ ((mi 67 68) - 1)
  · rw [if_pos c1]
    refine Wp.run 0 (14, [(0, .ref 66), (1, .int x)], [.int 1], (zsh ++ vs, mi, ml, (zmr g))) rfl ?_
    refine Wp.ret rfl rfl rfl ?_
    exact ⟨rfl, rfl⟩
  · rw [if_neg c1]
    refine Wp.run 0 (14, [(0, .ref 66), (1, .int x)], [.int 0], (zsh ++ vs, mi, ml, (zmr g))) rfl ?_
    refine Wp.ret rfl rfl rfl ?_
    exact ⟨rfl, rfl⟩
theorem m_isPart {E : zEn} {vs : List (Nat × Nat)} {mi : Nat → Nat → Int32} {ml : Nat → Nat → Int64} {g : Nat → Nat → Option Nat} (x : Int32) : Wp E 1 pg_M_isPart 0 (lv_args 0 [.int x]) [] (zsh ++ vs, mi, ml, (zmr g)) (fun r w' => r = some (.int (if 0 ≤ x ∧ x ≤ 7 then 1 else 0)) ∧ w' = (zsh ++ vs, mi, ml, zmr g)) := by
  refine Wp.run 3 (4, [(0, .int x)], [.int 7, .int 0, .int x], (zsh ++ vs, mi, ml, (zmr g))) rfl ?_
  refine Wp.call (as := [.int x, .int 0, .int 7]) (rest := []) rfl rfl rfl rfl rfl (Nat.le_of_ble_eq_true rfl) (Nat.le_of_ble_eq_true rfl) rfl (by decide) (m_isIn x 0 7) ?_
  rintro _ _ ⟨rfl, rfl⟩
  by_cases c2 : 0 ≤ x ∧ x ≤ 7
  · rw [if_pos c2]
    refine Wp.run 0 (7, [(0, .int x)], [.int 1], (zsh ++ vs, mi, ml, (zmr g))) rfl ?_
    refine Wp.ret rfl rfl rfl ?_
    exact ⟨rfl, rfl⟩
  · rw [if_neg c2]
    refine Wp.run 0 (7, [(0, .int x)], [.int 0], (zsh ++ vs, mi, ml, (zmr g))) rfl ?_
    refine Wp.ret rfl rfl rfl ?_
    exact ⟨rfl, rfl⟩
theorem m_isTape {E : zEn} {vs : List (Nat × Nat)} {mi : Nat → Nat → Int32} {ml : Nat → Nat → Int64} {g : Nat → Nat → Option Nat} (x : Int32) : Wp E 1 pg_M_isTape 0 (lv_args 0 [.int x]) [] (zsh ++ vs, mi, ml, (zmr g)) (fun r w' => r = some (.int (if 0 ≤ x ∧ x ≤ 5 then 1 else 0)) ∧ w' = (zsh ++ vs, mi, ml, zmr g)) := by
  refine Wp.run 3 (3, [(0, .int x)], [.int 5, .int 0, .int x], (zsh ++ vs, mi, ml, (zmr g))) rfl ?_
  refine Wp.call (as := [.int x, .int 0, .int 5]) (rest := []) rfl rfl rfl rfl rfl (Nat.le_of_ble_eq_true rfl) (Nat.le_of_ble_eq_true rfl) rfl (by decide) (m_isIn x 0 5) ?_
  rintro _ _ ⟨rfl, rfl⟩
  by_cases c3 : 0 ≤ x ∧ x ≤ 5
  · rw [if_pos c3]
    refine Wp.run 0 (6, [(0, .int x)], [.int 1], (zsh ++ vs, mi, ml, (zmr g))) rfl ?_
    refine Wp.ret rfl rfl rfl ?_
    exact ⟨rfl, rfl⟩
  · rw [if_neg c3]
    refine Wp.run 0 (6, [(0, .int x)], [.int 0], (zsh ++ vs, mi, ml, (zmr g))) rfl ?_
    refine Wp.ret rfl rfl rfl ?_
    exact ⟨rfl, rfl⟩
theorem m_one {E : zEn} {vs : List (Nat × Nat)} {mi : Nat → Nat → Int32} {ml : Nat → Nat → Int64} {g : Nat → Nat → Option Nat} (a b : Nat) (hb : 8 + 10 * a + b < 125) : Wp E 0 pg_M_one 0 (lv_args 0 [.ref 66, .int (nI a), .int (nI b)]) [] (zsh ++ vs, mi, ml, (zmr g)) (fun r w' => r = some (.int (mi 67 (8 + 10 * a + b))) ∧ w' = (zsh ++ vs, mi, ml, zmr g)) := by
  refine Wp.run 9 (13, [(0, .ref 66), (1, .int (nI a)), (2, .int (nI b))], [.int ((8 + (10 * (nI a))) + (nI b)), .ref 67], (zsh ++ vs, mi, ml, (zmr g))) rfl ?_
  rw [ix_one]
  refine Wp.ialn rfl (by decide) rfl (by omega) (by decide) ?_
  refine Wp.run 0 (14, [(0, .ref 66), (1, .int (nI a)), (2, .int (nI b))], [.int (mi 67 (8 + 10 * a + b))], (zsh ++ vs, mi, ml, (zmr g))) rfl ?_
  refine Wp.ret rfl rfl rfl ?_
  exact ⟨rfl, rfl⟩
theorem m_change {E : zEn} {vs : List (Nat × Nat)} {mi : Nat → Nat → Int32} {ml : Nat → Nat → Int64} {g : Nat → Nat → Option Nat} (a b : Nat) (v : Int32) (hb : 8 + 10 * a + b < 125) : Wp E 1 pg_M_change 0 (lv_args 0 [.ref 66, .int (nI a), .int (nI b), .int v]) [] (zsh ++ vs, mi, ml, (zmr g)) (fun r w' => r = some (.int (mi 67 (8 + 10 * a + b))) ∧ w' = (zsh ++ vs, zup mi 67 (8 + 10 * a + b) v, ml, zmr g)) := by
  refine Wp.run 3 (3, [(0, .ref 66), (1, .int (nI a)), (2, .int (nI b)), (3, .int v)], [.int (nI b), .int (nI a), .ref 66], (zsh ++ vs, mi, ml, (zmr g))) rfl ?_
  refine Wp.call (as := [.ref 66, .int (nI a), .int (nI b)]) (rest := []) rfl rfl rfl rfl rfl (Nat.le_of_ble_eq_true rfl) (Nat.le_of_ble_eq_true rfl) rfl (by decide) (m_one a b (by omega)) ?_
  rintro _ _ ⟨rfl, rfl⟩
  refine Wp.run 10 (21, [(4, .int (mi 67 (8 + 10 * a + b))), (0, .ref 66), (1, .int (nI a)), (2, .int (nI b)), (3, .int v)], [.int ((8 + (10 * (nI a))) + (nI b)), .ref 67], (zsh ++ vs, mi, ml, (zmr g))) rfl ?_
  rw [ix_one]
  refine Wp.run 1 (22, [(4, .int (mi 67 (8 + 10 * a + b))), (0, .ref 66), (1, .int (nI a)), (2, .int (nI b)), (3, .int v)], [.int v, .int (nI (8 + 10 * a + b)), .ref 67], (zsh ++ vs, mi, ml, (zmr g))) rfl ?_
  refine Wp.iasn rfl (by decide) rfl (by omega) (by decide) ?_
  refine Wp.run 1 (25, [(4, .int (mi 67 (8 + 10 * a + b))), (0, .ref 66), (1, .int (nI a)), (2, .int (nI b)), (3, .int v)], [.int (mi 67 (8 + 10 * a + b))], (zsh ++ vs, (zup mi 67 (8 + 10 * a + b) v), ml, (zmr g))) rfl ?_
  refine Wp.ret rfl rfl rfl ?_
  exact ⟨rfl, rfl⟩
theorem m_isHere {E : zEn} {vs : List (Nat × Nat)} {mi : Nat → Nat → Int32} {ml : Nat → Nat → Int64} {g : Nat → Nat → Option Nat} (a : Nat) (hb : a < 11) : Wp E 1 pg_M_isHere 0 (lv_args 0 [.ref 66, .int (nI a)]) [] (zsh ++ vs, mi, ml, (zmr g)) (fun r w' => r = some (.int (if mi 67 (8 + 10 * a + 4) = 0 then 1 else 0)) ∧ w' = (zsh ++ vs, mi, ml, zmr g)) := by
  refine Wp.run 3 (3, [(0, .ref 66), (1, .int (nI a))], [.int 4, .int (nI a), .ref 66], (zsh ++ vs, mi, ml, (zmr g))) rfl ?_
  refine Wp.call (as := [.ref 66, .int (nI a), .int 4]) (rest := []) rfl rfl rfl rfl rfl (Nat.le_of_ble_eq_true rfl) (Nat.le_of_ble_eq_true rfl) rfl (by decide) (m_one a 4 (by omega)) ?_
  rintro _ _ ⟨rfl, rfl⟩
  refine Wp.run 0 (6, [(0, .ref 66), (1, .int (nI a))], [.int (mi 67 (8 + 10 * a + 4))], (zsh ++ vs, mi, ml, (zmr g))) rfl ?_
  refine Wp.if_ne rfl (fun h1 => ?_) (fun h1 => ?_)
  · refine Wp.run 1 (14, [(0, .ref 66), (1, .int (nI a))], [.int 0], (zsh ++ vs, mi, ml, (zmr g))) rfl ?_
    refine Wp.ret rfl rfl rfl ?_
    exact ⟨by rw [if_neg h1], rfl⟩
  · refine Wp.run 2 (14, [(0, .ref 66), (1, .int (nI a))], [.int 1], (zsh ++ vs, mi, ml, (zmr g))) rfl ?_
    refine Wp.ret rfl rfl rfl ?_
    exact ⟨by rw [if_pos h1], rfl⟩
theorem m_isHeld {E : zEn} {vs : List (Nat × Nat)} {mi : Nat → Nat → Int32} {ml : Nat → Nat → Int64} {g : Nat → Nat → Option Nat} (a : Nat) (x : Int32) (hb : a < 11) : Wp E 1 pg_M_isHeld 0 (lv_args 0 [.ref 66, .int (nI a), .int x]) [] (zsh ++ vs, mi, ml, (zmr g)) (fun r w' => r = some (.int (if mi 67 (8 + 10 * a + 2) >>> (x &&& 31) &&& 1 = 1 then 1 else 0)) ∧ w' = (zsh ++ vs, mi, ml, zmr g)) := by
  refine Wp.run 3 (3, [(0, .ref 66), (1, .int (nI a)), (2, .int x)], [.int 2, .int (nI a), .ref 66], (zsh ++ vs, mi, ml, (zmr g))) rfl ?_
  refine Wp.call (as := [.ref 66, .int (nI a), .int 2]) (rest := []) rfl rfl rfl rfl rfl (Nat.le_of_ble_eq_true rfl) (Nat.le_of_ble_eq_true rfl) rfl (by decide) (m_one a 2 (by omega)) ?_
  rintro _ _ ⟨rfl, rfl⟩
  refine Wp.run 5 (11, [(0, .ref 66), (1, .int (nI a)), (2, .int x)], [.int 1, .int (((mi 67 (8 + 10 * a + 2)) >>> (x &&& 31)) &&& 1)], (zsh ++ vs, mi, ml, (zmr g))) rfl ?_
  refine Wp.icmp_ne rfl (fun h1 => ?_) (fun h1 => ?_)
  · refine Wp.run 1 (19, [(0, .ref 66), (1, .int (nI a)), (2, .int x)], [.int 0], (zsh ++ vs, mi, ml, (zmr g))) rfl ?_
    refine Wp.ret rfl rfl rfl ?_
    exact ⟨by rw [if_neg h1], rfl⟩
  · refine Wp.run 2 (19, [(0, .ref 66), (1, .int (nI a)), (2, .int x)], [.int 1], (zsh ++ vs, mi, ml, (zmr g))) rfl ?_
    refine Wp.ret rfl rfl rfl ?_
    exact ⟨by rw [if_pos h1], rfl⟩
theorem m_many {E : zEn} {w : zW} (b : Int32) : Wp E 0 pg_M_many 0 (lv_args 0 [.int b]) [] w (fun r w' => r = some (.int (zmany b)) ∧ w' = w) := by
  refine Wp.run 17 (4, [(2, .int 1), (1, .int (0 + ((b >>> ((0 : Int32) &&& 31)) &&& 1))), (0, .int b)], [], (w.1, w.2.1, w.2.2.1, w.2.2.2)) rfl ?_
  refine Wp.run 13 (4, [(2, .int 2), (1, .int ((0 + ((b >>> ((0 : Int32) &&& 31)) &&& 1)) + ((b >>> ((1 : Int32) &&& 31)) &&& 1))), (0, .int b)], [], (w.1, w.2.1, w.2.2.1, w.2.2.2)) rfl ?_
  refine Wp.run 13 (4, [(2, .int 3), (1, .int (((0 + ((b >>> ((0 : Int32) &&& 31)) &&& 1)) + ((b >>> ((1 : Int32) &&& 31)) &&& 1)) + ((b >>> ((2 : Int32) &&& 31)) &&& 1))), (0, .int b)], [], (w.1, w.2.1, w.2.2.1, w.2.2.2)) rfl ?_
  refine Wp.run 13 (4, [(2, .int 4), (1, .int ((((0 + ((b >>> ((0 : Int32) &&& 31)) &&& 1)) + ((b >>> ((1 : Int32) &&& 31)) &&& 1)) + ((b >>> ((2 : Int32) &&& 31)) &&& 1)) + ((b >>> ((3 : Int32) &&& 31)) &&& 1))), (0, .int b)], [], (w.1, w.2.1, w.2.2.1, w.2.2.2)) rfl ?_
  refine Wp.run 13 (4, [(2, .int 5), (1, .int (((((0 + ((b >>> ((0 : Int32) &&& 31)) &&& 1)) + ((b >>> ((1 : Int32) &&& 31)) &&& 1)) + ((b >>> ((2 : Int32) &&& 31)) &&& 1)) + ((b >>> ((3 : Int32) &&& 31)) &&& 1)) + ((b >>> ((4 : Int32) &&& 31)) &&& 1))), (0, .int b)], [], (w.1, w.2.1, w.2.2.1, w.2.2.2)) rfl ?_
  refine Wp.run 13 (4, [(2, .int 6), (1, .int ((((((0 + ((b >>> ((0 : Int32) &&& 31)) &&& 1)) + ((b >>> ((1 : Int32) &&& 31)) &&& 1)) + ((b >>> ((2 : Int32) &&& 31)) &&& 1)) + ((b >>> ((3 : Int32) &&& 31)) &&& 1)) + ((b >>> ((4 : Int32) &&& 31)) &&& 1)) + ((b >>> ((5 : Int32) &&& 31)) &&& 1))), (0, .int b)], [], (w.1, w.2.1, w.2.2.1, w.2.2.2)) rfl ?_
  refine Wp.run 13 (4, [(2, .int 7), (1, .int (((((((0 + ((b >>> ((0 : Int32) &&& 31)) &&& 1)) + ((b >>> ((1 : Int32) &&& 31)) &&& 1)) + ((b >>> ((2 : Int32) &&& 31)) &&& 1)) + ((b >>> ((3 : Int32) &&& 31)) &&& 1)) + ((b >>> ((4 : Int32) &&& 31)) &&& 1)) + ((b >>> ((5 : Int32) &&& 31)) &&& 1)) + ((b >>> ((6 : Int32) &&& 31)) &&& 1))), (0, .int b)], [], (w.1, w.2.1, w.2.2.1, w.2.2.2)) rfl ?_
  refine Wp.run 13 (4, [(2, .int 8), (1, .int ((((((((0 + ((b >>> ((0 : Int32) &&& 31)) &&& 1)) + ((b >>> ((1 : Int32) &&& 31)) &&& 1)) + ((b >>> ((2 : Int32) &&& 31)) &&& 1)) + ((b >>> ((3 : Int32) &&& 31)) &&& 1)) + ((b >>> ((4 : Int32) &&& 31)) &&& 1)) + ((b >>> ((5 : Int32) &&& 31)) &&& 1)) + ((b >>> ((6 : Int32) &&& 31)) &&& 1)) + ((b >>> ((7 : Int32) &&& 31)) &&& 1))), (0, .int b)], [], (w.1, w.2.1, w.2.2.1, w.2.2.2)) rfl ?_
  refine Wp.run 4 (25, [(2, .int 8), (1, .int ((((((((0 + ((b >>> ((0 : Int32) &&& 31)) &&& 1)) + ((b >>> ((1 : Int32) &&& 31)) &&& 1)) + ((b >>> ((2 : Int32) &&& 31)) &&& 1)) + ((b >>> ((3 : Int32) &&& 31)) &&& 1)) + ((b >>> ((4 : Int32) &&& 31)) &&& 1)) + ((b >>> ((5 : Int32) &&& 31)) &&& 1)) + ((b >>> ((6 : Int32) &&& 31)) &&& 1)) + ((b >>> ((7 : Int32) &&& 31)) &&& 1))), (0, .int b)], [.int ((((((((0 + ((b >>> ((0 : Int32) &&& 31)) &&& 1)) + ((b >>> ((1 : Int32) &&& 31)) &&& 1)) + ((b >>> ((2 : Int32) &&& 31)) &&& 1)) + ((b >>> ((3 : Int32) &&& 31)) &&& 1)) + ((b >>> ((4 : Int32) &&& 31)) &&& 1)) + ((b >>> ((5 : Int32) &&& 31)) &&& 1)) + ((b >>> ((6 : Int32) &&& 31)) &&& 1)) + ((b >>> ((7 : Int32) &&& 31)) &&& 1))], (w.1, w.2.1, w.2.2.1, w.2.2.2)) rfl ?_
  refine Wp.ret rfl rfl rfl ?_
  exact ⟨rfl, rfl⟩
theorem m_late {E : zEn} {w : zW} (x : Int32) : Wp E 0 pg_M_late 0 (lv_args 0 [.int x]) [] w (fun r w' => r = some (.int (if x = -5 then 1000 else x)) ∧ w' = w) := by
  refine Wp.run 2 (3, [(0, .int x)], [.int (-5), .int x], (w.1, w.2.1, w.2.2.1, w.2.2.2)) rfl ?_
  refine Wp.icmp_ne rfl (fun h1 => ?_) (fun h1 => ?_)
  · refine Wp.run 1 (13, [(0, .int x)], [.int x], (w.1, w.2.1, w.2.2.1, w.2.2.2)) rfl ?_
    refine Wp.ret rfl rfl rfl ?_
    exact ⟨by rw [if_neg h1], rfl⟩
  · refine Wp.run 2 (13, [(0, .int x)], [.int 1000], (w.1, w.2.1, w.2.2.1, w.2.2.2)) rfl ?_
    refine Wp.ret rfl rfl rfl ?_
    exact ⟨by rw [if_pos h1], rfl⟩
