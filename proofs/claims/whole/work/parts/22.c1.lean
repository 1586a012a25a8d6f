/-! THE CLASS: small methods; a band at the cell a: a its numbers (0 size, 1 day, 2 absent), a + 1 stock, + 2 kinds, + 3 vs, + 4 held, + 5 memories, + 6 forgot, + 7 rows, + 8 strains, + 9 letters -/
theorem c_within {E : zEn} {w : zW} (x hi : Int32) : Wp E 0 pg_H_within 0 (lv_args 0 [.int x, .int hi]) [] w (fun r w' => r = some (.int (if 0 ≤ x ∧ x ≤ hi then 1 else 0)) ∧ w' = w) := by
  refine Wp.run 1 (1, [(0, .int x), (1, .int hi)], [.int x], (w.1, w.2.1, w.2.2.1, w.2.2.2)) rfl ?_
  refine Wp.if_lt rfl (fun h1 => ?_) (fun h1 => ?_)
  · refine Wp.run 1 (14, [(0, .int x), (1, .int hi)], [.int 0], (w.1, w.2.1, w.2.2.1, w.2.2.2)) rfl ?_
    refine Wp.ret rfl rfl rfl ?_
    exact ⟨by rw [if_neg (fun h => Int32.not_le.mpr h1 h.1)], rfl⟩
  · refine Wp.run 2 (6, [(0, .int x), (1, .int hi)], [.int hi, .int x], (w.1, w.2.1, w.2.2.1, w.2.2.2)) rfl ?_
    refine Wp.icmp_gt rfl (fun h2 => ?_) (fun h2 => ?_)
    · refine Wp.run 1 (14, [(0, .int x), (1, .int hi)], [.int 0], (w.1, w.2.1, w.2.2.1, w.2.2.2)) rfl ?_
      refine Wp.ret rfl rfl rfl ?_
      exact ⟨by rw [if_neg (fun h => Int32.not_le.mpr h2 h.2)], rfl⟩
    · refine Wp.run 2 (14, [(0, .int x), (1, .int hi)], [.int 1], (w.1, w.2.1, w.2.2.1, w.2.2.2)) rfl ?_
      refine Wp.ret rfl rfl rfl ?_
      exact ⟨by rw [if_pos ⟨Int32.not_lt.mp h1, Int32.not_lt.mp h2⟩], rfl⟩
theorem c_bit {E : zEn} {w : zW} (x k : Int32) : Wp E 0 pg_H_bit 0 (lv_args 0 [.int x, .int k]) [] w (fun r w' => r = some (.int (x >>> (k &&& 31) &&& 1)) ∧ w' = w) := by
  refine Wp.run 5 (5, [(0, .int x), (1, .int k)], [.int ((x >>> (k &&& 31)) &&& 1)], (w.1, w.2.1, w.2.2.1, w.2.2.2)) rfl ?_
  refine Wp.ret rfl rfl rfl ?_
  exact ⟨rfl, rfl⟩
/-- Integer.bitCount -/
def zbc (x : Int32) : Int32 := (((((((x - (((x.toUInt32 >>> ((1 : Int32).toUInt32 &&& Int32.toUInt32 31)).toInt32) &&& 1431655765)) &&& 858993459) + ((((x - (((x.toUInt32 >>> ((1 : Int32).toUInt32 &&& Int32.toUInt32 31)).toInt32) &&& 1431655765)).toUInt32 >>> ((2 : Int32).toUInt32 &&& Int32.toUInt32 31)).toInt32) &&& 858993459)) + (((((x - (((x.toUInt32 >>> ((1 : Int32).toUInt32 &&& Int32.toUInt32 31)).toInt32) &&& 1431655765)) &&& 858993459) + ((((x - (((x.toUInt32 >>> ((1 : Int32).toUInt32 &&& Int32.toUInt32 31)).toInt32) &&& 1431655765)).toUInt32 >>> ((2 : Int32).toUInt32 &&& Int32.toUInt32 31)).toInt32) &&& 858993459)).toUInt32 >>> ((4 : Int32).toUInt32 &&& Int32.toUInt32 31)).toInt32)) &&& 252645135) + (((((((x - (((x.toUInt32 >>> ((1 : Int32).toUInt32 &&& Int32.toUInt32 31)).toInt32) &&& 1431655765)) &&& 858993459) + ((((x - (((x.toUInt32 >>> ((1 : Int32).toUInt32 &&& Int32.toUInt32 31)).toInt32) &&& 1431655765)).toUInt32 >>> ((2 : Int32).toUInt32 &&& Int32.toUInt32 31)).toInt32) &&& 858993459)) + (((((x - (((x.toUInt32 >>> ((1 : Int32).toUInt32 &&& Int32.toUInt32 31)).toInt32) &&& 1431655765)) &&& 858993459) + ((((x - (((x.toUInt32 >>> ((1 : Int32).toUInt32 &&& Int32.toUInt32 31)).toInt32) &&& 1431655765)).toUInt32 >>> ((2 : Int32).toUInt32 &&& Int32.toUInt32 31)).toInt32) &&& 858993459)).toUInt32 >>> ((4 : Int32).toUInt32 &&& Int32.toUInt32 31)).toInt32)) &&& 252645135).toUInt32 >>> ((8 : Int32).toUInt32 &&& Int32.toUInt32 31)).toInt32)) + ((((((((x - (((x.toUInt32 >>> ((1 : Int32).toUInt32 &&& Int32.toUInt32 31)).toInt32) &&& 1431655765)) &&& 858993459) + ((((x - (((x.toUInt32 >>> ((1 : Int32).toUInt32 &&& Int32.toUInt32 31)).toInt32) &&& 1431655765)).toUInt32 >>> ((2 : Int32).toUInt32 &&& Int32.toUInt32 31)).toInt32) &&& 858993459)) + (((((x - (((x.toUInt32 >>> ((1 : Int32).toUInt32 &&& Int32.toUInt32 31)).toInt32) &&& 1431655765)) &&& 858993459) + ((((x - (((x.toUInt32 >>> ((1 : Int32).toUInt32 &&& Int32.toUInt32 31)).toInt32) &&& 1431655765)).toUInt32 >>> ((2 : Int32).toUInt32 &&& Int32.toUInt32 31)).toInt32) &&& 858993459)).toUInt32 >>> ((4 : Int32).toUInt32 &&& Int32.toUInt32 31)).toInt32)) &&& 252645135) + (((((((x - (((x.toUInt32 >>> ((1 : Int32).toUInt32 &&& Int32.toUInt32 31)).toInt32) &&& 1431655765)) &&& 858993459) + ((((x - (((x.toUInt32 >>> ((1 : Int32).toUInt32 &&& Int32.toUInt32 31)).toInt32) &&& 1431655765)).toUInt32 >>> ((2 : Int32).toUInt32 &&& Int32.toUInt32 31)).toInt32) &&& 858993459)) + (((((x - (((x.toUInt32 >>> ((1 : Int32).toUInt32 &&& Int32.toUInt32 31)).toInt32) &&& 1431655765)) &&& 858993459) + ((((x - (((x.toUInt32 >>> ((1 : Int32).toUInt32 &&& Int32.toUInt32 31)).toInt32) &&& 1431655765)).toUInt32 >>> ((2 : Int32).toUInt32 &&& Int32.toUInt32 31)).toInt32) &&& 858993459)).toUInt32 >>> ((4 : Int32).toUInt32 &&& Int32.toUInt32 31)).toInt32)) &&& 252645135).toUInt32 >>> ((8 : Int32).toUInt32 &&& Int32.toUInt32 31)).toInt32)).toUInt32 >>> ((16 : Int32).toUInt32 &&& Int32.toUInt32 31)).toInt32)) &&& 63
theorem c_bitCount {E : zEn} {w : zW} (x : Int32) : Wp E 0 pg_Integer_bitCount 0 (lv_args 0 [.int x]) [] w (fun r w' => r = some (.int (zbc x)) ∧ w' = w) := by
  refine Wp.run 24 (32, [(0, .int (((x - (((x.toUInt32 >>> ((1 : Int32).toUInt32 &&& Int32.toUInt32 31)).toInt32) &&& 1431655765)) &&& 858993459) + ((((x - (((x.toUInt32 >>> ((1 : Int32).toUInt32 &&& Int32.toUInt32 31)).toInt32) &&& 1431655765)).toUInt32 >>> ((2 : Int32).toUInt32 &&& Int32.toUInt32 31)).toInt32) &&& 858993459)))], [.int 252645135, .int ((((x - (((x.toUInt32 >>> ((1 : Int32).toUInt32 &&& Int32.toUInt32 31)).toInt32) &&& 1431655765)) &&& 858993459) + ((((x - (((x.toUInt32 >>> ((1 : Int32).toUInt32 &&& Int32.toUInt32 31)).toInt32) &&& 1431655765)).toUInt32 >>> ((2 : Int32).toUInt32 &&& Int32.toUInt32 31)).toInt32) &&& 858993459)) + (((((x - (((x.toUInt32 >>> ((1 : Int32).toUInt32 &&& Int32.toUInt32 31)).toInt32) &&& 1431655765)) &&& 858993459) + ((((x - (((x.toUInt32 >>> ((1 : Int32).toUInt32 &&& Int32.toUInt32 31)).toInt32) &&& 1431655765)).toUInt32 >>> ((2 : Int32).toUInt32 &&& Int32.toUInt32 31)).toInt32) &&& 858993459)).toUInt32 >>> ((4 : Int32).toUInt32 &&& Int32.toUInt32 31)).toInt32))], (w.1, w.2.1, w.2.2.1, w.2.2.2)) rfl ?_
  refine Wp.run 17 (52, [(0, .int (((((((x - (((x.toUInt32 >>> ((1 : Int32).toUInt32 &&& Int32.toUInt32 31)).toInt32) &&& 1431655765)) &&& 858993459) + ((((x - (((x.toUInt32 >>> ((1 : Int32).toUInt32 &&& Int32.toUInt32 31)).toInt32) &&& 1431655765)).toUInt32 >>> ((2 : Int32).toUInt32 &&& Int32.toUInt32 31)).toInt32) &&& 858993459)) + (((((x - (((x.toUInt32 >>> ((1 : Int32).toUInt32 &&& Int32.toUInt32 31)).toInt32) &&& 1431655765)) &&& 858993459) + ((((x - (((x.toUInt32 >>> ((1 : Int32).toUInt32 &&& Int32.toUInt32 31)).toInt32) &&& 1431655765)).toUInt32 >>> ((2 : Int32).toUInt32 &&& Int32.toUInt32 31)).toInt32) &&& 858993459)).toUInt32 >>> ((4 : Int32).toUInt32 &&& Int32.toUInt32 31)).toInt32)) &&& 252645135) + (((((((x - (((x.toUInt32 >>> ((1 : Int32).toUInt32 &&& Int32.toUInt32 31)).toInt32) &&& 1431655765)) &&& 858993459) + ((((x - (((x.toUInt32 >>> ((1 : Int32).toUInt32 &&& Int32.toUInt32 31)).toInt32) &&& 1431655765)).toUInt32 >>> ((2 : Int32).toUInt32 &&& Int32.toUInt32 31)).toInt32) &&& 858993459)) + (((((x - (((x.toUInt32 >>> ((1 : Int32).toUInt32 &&& Int32.toUInt32 31)).toInt32) &&& 1431655765)) &&& 858993459) + ((((x - (((x.toUInt32 >>> ((1 : Int32).toUInt32 &&& Int32.toUInt32 31)).toInt32) &&& 1431655765)).toUInt32 >>> ((2 : Int32).toUInt32 &&& Int32.toUInt32 31)).toInt32) &&& 858993459)).toUInt32 >>> ((4 : Int32).toUInt32 &&& Int32.toUInt32 31)).toInt32)) &&& 252645135).toUInt32 >>> ((8 : Int32).toUInt32 &&& Int32.toUInt32 31)).toInt32)) + ((((((((x - (((x.toUInt32 >>> ((1 : Int32).toUInt32 &&& Int32.toUInt32 31)).toInt32) &&& 1431655765)) &&& 858993459) + ((((x - (((x.toUInt32 >>> ((1 : Int32).toUInt32 &&& Int32.toUInt32 31)).toInt32) &&& 1431655765)).toUInt32 >>> ((2 : Int32).toUInt32 &&& Int32.toUInt32 31)).toInt32) &&& 858993459)) + (((((x - (((x.toUInt32 >>> ((1 : Int32).toUInt32 &&& Int32.toUInt32 31)).toInt32) &&& 1431655765)) &&& 858993459) + ((((x - (((x.toUInt32 >>> ((1 : Int32).toUInt32 &&& Int32.toUInt32 31)).toInt32) &&& 1431655765)).toUInt32 >>> ((2 : Int32).toUInt32 &&& Int32.toUInt32 31)).toInt32) &&& 858993459)).toUInt32 >>> ((4 : Int32).toUInt32 &&& Int32.toUInt32 31)).toInt32)) &&& 252645135) + (((((((x - (((x.toUInt32 >>> ((1 : Int32).toUInt32 &&& Int32.toUInt32 31)).toInt32) &&& 1431655765)) &&& 858993459) + ((((x - (((x.toUInt32 >>> ((1 : Int32).toUInt32 &&& Int32.toUInt32 31)).toInt32) &&& 1431655765)).toUInt32 >>> ((2 : Int32).toUInt32 &&& Int32.toUInt32 31)).toInt32) &&& 858993459)) + (((((x - (((x.toUInt32 >>> ((1 : Int32).toUInt32 &&& Int32.toUInt32 31)).toInt32) &&& 1431655765)) &&& 858993459) + ((((x - (((x.toUInt32 >>> ((1 : Int32).toUInt32 &&& Int32.toUInt32 31)).toInt32) &&& 1431655765)).toUInt32 >>> ((2 : Int32).toUInt32 &&& Int32.toUInt32 31)).toInt32) &&& 858993459)).toUInt32 >>> ((4 : Int32).toUInt32 &&& Int32.toUInt32 31)).toInt32)) &&& 252645135).toUInt32 >>> ((8 : Int32).toUInt32 &&& Int32.toUInt32 31)).toInt32)).toUInt32 >>> ((16 : Int32).toUInt32 &&& Int32.toUInt32 31)).toInt32)))], [.int ((((((((x - (((x.toUInt32 >>> ((1 : Int32).toUInt32 &&& Int32.toUInt32 31)).toInt32) &&& 1431655765)) &&& 858993459) + ((((x - (((x.toUInt32 >>> ((1 : Int32).toUInt32 &&& Int32.toUInt32 31)).toInt32) &&& 1431655765)).toUInt32 >>> ((2 : Int32).toUInt32 &&& Int32.toUInt32 31)).toInt32) &&& 858993459)) + (((((x - (((x.toUInt32 >>> ((1 : Int32).toUInt32 &&& Int32.toUInt32 31)).toInt32) &&& 1431655765)) &&& 858993459) + ((((x - (((x.toUInt32 >>> ((1 : Int32).toUInt32 &&& Int32.toUInt32 31)).toInt32) &&& 1431655765)).toUInt32 >>> ((2 : Int32).toUInt32 &&& Int32.toUInt32 31)).toInt32) &&& 858993459)).toUInt32 >>> ((4 : Int32).toUInt32 &&& Int32.toUInt32 31)).toInt32)) &&& 252645135) + (((((((x - (((x.toUInt32 >>> ((1 : Int32).toUInt32 &&& Int32.toUInt32 31)).toInt32) &&& 1431655765)) &&& 858993459) + ((((x - (((x.toUInt32 >>> ((1 : Int32).toUInt32 &&& Int32.toUInt32 31)).toInt32) &&& 1431655765)).toUInt32 >>> ((2 : Int32).toUInt32 &&& Int32.toUInt32 31)).toInt32) &&& 858993459)) + (((((x - (((x.toUInt32 >>> ((1 : Int32).toUInt32 &&& Int32.toUInt32 31)).toInt32) &&& 1431655765)) &&& 858993459) + ((((x - (((x.toUInt32 >>> ((1 : Int32).toUInt32 &&& Int32.toUInt32 31)).toInt32) &&& 1431655765)).toUInt32 >>> ((2 : Int32).toUInt32 &&& Int32.toUInt32 31)).toInt32) &&& 858993459)).toUInt32 >>> ((4 : Int32).toUInt32 &&& Int32.toUInt32 31)).toInt32)) &&& 252645135).toUInt32 >>> ((8 : Int32).toUInt32 &&& Int32.toUInt32 31)).toInt32)) + ((((((((x - (((x.toUInt32 >>> ((1 : Int32).toUInt32 &&& Int32.toUInt32 31)).toInt32) &&& 1431655765)) &&& 858993459) + ((((x - (((x.toUInt32 >>> ((1 : Int32).toUInt32 &&& Int32.toUInt32 31)).toInt32) &&& 1431655765)).toUInt32 >>> ((2 : Int32).toUInt32 &&& Int32.toUInt32 31)).toInt32) &&& 858993459)) + (((((x - (((x.toUInt32 >>> ((1 : Int32).toUInt32 &&& Int32.toUInt32 31)).toInt32) &&& 1431655765)) &&& 858993459) + ((((x - (((x.toUInt32 >>> ((1 : Int32).toUInt32 &&& Int32.toUInt32 31)).toInt32) &&& 1431655765)).toUInt32 >>> ((2 : Int32).toUInt32 &&& Int32.toUInt32 31)).toInt32) &&& 858993459)).toUInt32 >>> ((4 : Int32).toUInt32 &&& Int32.toUInt32 31)).toInt32)) &&& 252645135) + (((((((x - (((x.toUInt32 >>> ((1 : Int32).toUInt32 &&& Int32.toUInt32 31)).toInt32) &&& 1431655765)) &&& 858993459) + ((((x - (((x.toUInt32 >>> ((1 : Int32).toUInt32 &&& Int32.toUInt32 31)).toInt32) &&& 1431655765)).toUInt32 >>> ((2 : Int32).toUInt32 &&& Int32.toUInt32 31)).toInt32) &&& 858993459)) + (((((x - (((x.toUInt32 >>> ((1 : Int32).toUInt32 &&& Int32.toUInt32 31)).toInt32) &&& 1431655765)) &&& 858993459) + ((((x - (((x.toUInt32 >>> ((1 : Int32).toUInt32 &&& Int32.toUInt32 31)).toInt32) &&& 1431655765)).toUInt32 >>> ((2 : Int32).toUInt32 &&& Int32.toUInt32 31)).toInt32) &&& 858993459)).toUInt32 >>> ((4 : Int32).toUInt32 &&& Int32.toUInt32 31)).toInt32)) &&& 252645135).toUInt32 >>> ((8 : Int32).toUInt32 &&& Int32.toUInt32 31)).toInt32)).toUInt32 >>> ((16 : Int32).toUInt32 &&& Int32.toUInt32 31)).toInt32)) &&& 63)], (w.1, w.2.1, w.2.2.1, w.2.2.2)) rfl ?_
  refine Wp.ret rfl rfl rfl ?_
  exact ⟨rfl, rfl⟩
theorem zbc_256 : ∀ k, k < 256 → zbc (nI k) = zmany (nI k) := by decide +kernel
theorem c_compare {E : zEn} {w : zW} (x y : Int32) : Wp E 0 pg_Integer_compare 0 (lv_args 0 [.int x, .int y]) [] w (fun r w' => r = some (.int (if x < y then -1 else if x = y then 0 else 1)) ∧ w' = w) := by
  refine Wp.run 2 (2, [(0, .int x), (1, .int y)], [.int y, .int x], (w.1, w.2.1, w.2.2.1, w.2.2.2)) rfl ?_
  refine Wp.icmp_ge rfl (fun h1 => ?_) (fun h1 => ?_)
  · refine Wp.run 2 (11, [(0, .int x), (1, .int y)], [.int y, .int x], (w.1, w.2.1, w.2.2.1, w.2.2.2)) rfl ?_
    refine Wp.icmp_ne rfl (fun h2 => ?_) (fun h2 => ?_)
    · refine Wp.run 1 (19, [(0, .int x), (1, .int y)], [.int 1], (w.1, w.2.1, w.2.2.1, w.2.2.2)) rfl ?_
      refine Wp.ret rfl rfl rfl ?_
      exact ⟨by rw [if_neg (Int32.not_lt.mpr h1), if_neg h2], rfl⟩
    · refine Wp.run 2 (19, [(0, .int x), (1, .int y)], [.int 0], (w.1, w.2.1, w.2.2.1, w.2.2.2)) rfl ?_
      refine Wp.ret rfl rfl rfl ?_
      exact ⟨by rw [if_neg (Int32.not_lt.mpr h1), if_pos h2], rfl⟩
  · refine Wp.run 2 (19, [(0, .int x), (1, .int y)], [.int (-1)], (w.1, w.2.1, w.2.2.1, w.2.2.2)) rfl ?_
    refine Wp.ret rfl rfl rfl ?_
    exact ⟨by rw [if_pos (Int32.not_le.mp h1)], rfl⟩
theorem c_has_1 {E : zEn} {vs : List (Nat × Nat)} {mi : Nat → Nat → Int32} {ml : Nat → Nat → Int64} {g : Nat → Nat → Option Nat} (x : Int32) : Wp E 0 pg_Band_has 0 (lv_args 0 [.ref 1, .int x]) [] (zsh ++ vs, mi, ml, (zmr g)) (fun r w' => r = some (.int (if 0 ≤ x ∧ x < mi 1 0 then 1 else 0)) ∧ w' = (zsh ++ vs, mi, ml, zmr g)) := by
  refine Wp.run 1 (1, [(0, .ref 1), (1, .int x)], [.int x], (zsh ++ vs, mi, ml, (zmr g))) rfl ?_
  refine Wp.if_lt rfl (fun h1 => ?_) (fun h1 => ?_)
  · refine Wp.run 1 (17, [(0, .ref 1), (1, .int x)], [.int 0], (zsh ++ vs, mi, ml, (zmr g))) rfl ?_
    refine Wp.ret rfl rfl rfl ?_
    exact ⟨by rw [if_neg (fun h => Int32.not_le.mpr h1 h.1)], rfl⟩
  · refine Wp.run 3 (9, [(0, .ref 1), (1, .int x)], [.int (mi 1 0), .int x], (zsh ++ vs, mi, ml, (zmr g))) rfl ?_
    refine Wp.icmp_ge rfl (fun h2 => ?_) (fun h2 => ?_)
    · refine Wp.run 1 (17, [(0, .ref 1), (1, .int x)], [.int 0], (zsh ++ vs, mi, ml, (zmr g))) rfl ?_
      refine Wp.ret rfl rfl rfl ?_
      exact ⟨by rw [if_neg (fun h => Int32.not_lt.mpr h2 h.2)], rfl⟩
    · refine Wp.run 2 (17, [(0, .ref 1), (1, .int x)], [.int 1], (zsh ++ vs, mi, ml, (zmr g))) rfl ?_
      refine Wp.ret rfl rfl rfl ?_
      exact ⟨by rw [if_pos ⟨Int32.not_lt.mp h1, Int32.not_le.mp h2⟩], rfl⟩
theorem c_isHere_1 {E : zEn} {vs : List (Nat × Nat)} {mi : Nat → Nat → Int32} {ml : Nat → Nat → Int64} {g : Nat → Nat → Option Nat} (x : Int32) : Wp E 1 pg_Band_isHere 0 (lv_args 0 [.ref 1, .int x]) [] (zsh ++ vs, mi, ml, (zmr g)) (fun r w' => r = some (.int (if mi 1 2 >>> (x &&& 31) &&& 1 = 0 then 1 else 0)) ∧ w' = (zsh ++ vs, mi, ml, zmr g)) := by
  refine Wp.run 3 (5, [(0, .ref 1), (1, .int x)], [.int x, .int (mi 1 2)], (zsh ++ vs, mi, ml, (zmr g))) rfl ?_
  refine Wp.call (as := [.int (mi 1 2), .int x]) (rest := []) rfl rfl rfl rfl rfl (Nat.le_of_ble_eq_true rfl) (Nat.le_of_ble_eq_true rfl) rfl (by decide) (c_bit (mi 1 2) x) ?_
  rintro _ _ ⟨rfl, rfl⟩
  refine Wp.run 0 (8, [(0, .ref 1), (1, .int x)], [.int ((mi 1 2) >>> (x &&& 31) &&& 1)], (zsh ++ vs, mi, ml, (zmr g))) rfl ?_
  refine Wp.if_ne rfl (fun h1 => ?_) (fun h1 => ?_)
  · refine Wp.run 1 (16, [(0, .ref 1), (1, .int x)], [.int 0], (zsh ++ vs, mi, ml, (zmr g))) rfl ?_
    refine Wp.ret rfl rfl rfl ?_
    exact ⟨by rw [if_neg h1], rfl⟩
  · refine Wp.run 2 (16, [(0, .ref 1), (1, .int x)], [.int 1], (zsh ++ vs, mi, ml, (zmr g))) rfl ?_
    refine Wp.ret rfl rfl rfl ?_
    exact ⟨by rw [if_pos h1], rfl⟩
theorem c_putAway1_1 {E : zEn} {vs : List (Nat × Nat)} {mi : Nat → Nat → Int32} {ml : Nat → Nat → Int64} {g : Nat → Nat → Option Nat} (x : Int32) : Wp E 0 pg_Band_putAway 0 (lv_args 0 [.ref 1, .int x, .int 1]) [] (zsh ++ vs, mi, ml, (zmr g)) (fun r w' => r = none ∧ w' = (zsh ++ vs, zup mi 1 2 (mi 1 2 ||| (1 : Int32) <<< (x &&& 31)), ml, zmr g)) := by
  refine Wp.run 11 (29, [(0, .ref 1), (1, .int x), (2, .int 1)], [], (zsh ++ vs, (zup mi 1 2 ((mi 1 2) ||| ((1 : Int32) <<< (x &&& 31)))), ml, (zmr g))) rfl ?_
  refine Wp.ret rfl rfl rfl ?_
  exact ⟨rfl, rfl⟩
theorem c_putAway0_1 {E : zEn} {vs : List (Nat × Nat)} {mi : Nat → Nat → Int32} {ml : Nat → Nat → Int64} {g : Nat → Nat → Option Nat} (x : Int32) : Wp E 0 pg_Band_putAway 0 (lv_args 0 [.ref 1, .int x, .int 0]) [] (zsh ++ vs, mi, ml, (zmr g)) (fun r w' => r = none ∧ w' = (zsh ++ vs, zup mi 1 2 (mi 1 2 &&& ((1 : Int32) <<< (x &&& 31) ^^^ -1)), ml, zmr g)) := by
  refine Wp.run 12 (29, [(0, .ref 1), (1, .int x), (2, .int 0)], [], (zsh ++ vs, (zup mi 1 2 ((mi 1 2) &&& (((1 : Int32) <<< (x &&& 31)) ^^^ (-1)))), ml, (zmr g))) rfl ?_
  refine Wp.ret rfl rfl rfl ?_
  exact ⟨rfl, rfl⟩
theorem c_countHere_1 {E : zEn} {vs : List (Nat × Nat)} {mi : Nat → Nat → Int32} {ml : Nat → Nat → Int64} {g : Nat → Nat → Option Nat}  : Wp E 1 pg_Band_countHere 0 (lv_args 0 [.ref 1]) [] (zsh ++ vs, mi, ml, (zmr g)) (fun r w' => r = some (.int (mi 1 0 - zbc (mi 1 2))) ∧ w' = (zsh ++ vs, mi, ml, zmr g)) := by
  refine Wp.run 4 (8, [(0, .ref 1)], [.int (mi 1 2), .int (mi 1 0)], (zsh ++ vs, mi, ml, (zmr g))) rfl ?_
  refine Wp.call (as := [.int (mi 1 2)]) (rest := [.int (mi 1 0)]) rfl rfl rfl rfl rfl (Nat.le_of_ble_eq_true rfl) (Nat.le_of_ble_eq_true rfl) rfl (by decide) (c_bitCount (mi 1 2)) ?_
  rintro _ _ ⟨rfl, rfl⟩
  refine Wp.run 1 (12, [(0, .ref 1)], [.int ((mi 1 0) - (zbc (mi 1 2)))], (zsh ++ vs, mi, ml, (zmr g))) rfl ?_
  refine Wp.ret rfl rfl rfl ?_
  exact ⟨rfl, rfl⟩
theorem c_has_38 {E : zEn} {vs : List (Nat × Nat)} {mi : Nat → Nat → Int32} {ml : Nat → Nat → Int64} {g : Nat → Nat → Option Nat} (x : Int32) : Wp E 0 pg_Band_has 0 (lv_args 0 [.ref 38, .int x]) [] (zsh ++ vs, mi, ml, (zmr g)) (fun r w' => r = some (.int (if 0 ≤ x ∧ x < mi 38 0 then 1 else 0)) ∧ w' = (zsh ++ vs, mi, ml, zmr g)) := by
  refine Wp.run 1 (1, [(0, .ref 38), (1, .int x)], [.int x], (zsh ++ vs, mi, ml, (zmr g))) rfl ?_
  refine Wp.if_lt rfl (fun h1 => ?_) (fun h1 => ?_)
  · refine Wp.run 1 (17, [(0, .ref 38), (1, .int x)], [.int 0], (zsh ++ vs, mi, ml, (zmr g))) rfl ?_
    refine Wp.ret rfl rfl rfl ?_
    exact ⟨by rw [if_neg (fun h => Int32.not_le.mpr h1 h.1)], rfl⟩
  · refine Wp.run 3 (9, [(0, .ref 38), (1, .int x)], [.int (mi 38 0), .int x], (zsh ++ vs, mi, ml, (zmr g))) rfl ?_
    refine Wp.icmp_ge rfl (fun h2 => ?_) (fun h2 => ?_)
    · refine Wp.run 1 (17, [(0, .ref 38), (1, .int x)], [.int 0], (zsh ++ vs, mi, ml, (zmr g))) rfl ?_
      refine Wp.ret rfl rfl rfl ?_
      exact ⟨by rw [if_neg (fun h => Int32.not_lt.mpr h2 h.2)], rfl⟩
    · refine Wp.run 2 (17, [(0, .ref 38), (1, .int x)], [.int 1], (zsh ++ vs, mi, ml, (zmr g))) rfl ?_
      refine Wp.ret rfl rfl rfl ?_
      exact ⟨by rw [if_pos ⟨Int32.not_lt.mp h1, Int32.not_le.mp h2⟩], rfl⟩
theorem c_isHere_38 {E : zEn} {vs : List (Nat × Nat)} {mi : Nat → Nat → Int32} {ml : Nat → Nat → Int64} {g : Nat → Nat → Option Nat} (x : Int32) : Wp E 1 pg_Band_isHere 0 (lv_args 0 [.ref 38, .int x]) [] (zsh ++ vs, mi, ml, (zmr g)) (fun r w' => r = some (.int (if mi 38 2 >>> (x &&& 31) &&& 1 = 0 then 1 else 0)) ∧ w' = (zsh ++ vs, mi, ml, zmr g)) := by
  refine Wp.run 3 (5, [(0, .ref 38), (1, .int x)], [.int x, .int (mi 38 2)], (zsh ++ vs, mi, ml, (zmr g))) rfl ?_
  refine Wp.call (as := [.int (mi 38 2), .int x]) (rest := []) rfl rfl rfl rfl rfl (Nat.le_of_ble_eq_true rfl) (Nat.le_of_ble_eq_true rfl) rfl (by decide) (c_bit (mi 38 2) x) ?_
  rintro _ _ ⟨rfl, rfl⟩
  refine Wp.run 0 (8, [(0, .ref 38), (1, .int x)], [.int ((mi 38 2) >>> (x &&& 31) &&& 1)], (zsh ++ vs, mi, ml, (zmr g))) rfl ?_
  refine Wp.if_ne rfl (fun h1 => ?_) (fun h1 => ?_)
  · refine Wp.run 1 (16, [(0, .ref 38), (1, .int x)], [.int 0], (zsh ++ vs, mi, ml, (zmr g))) rfl ?_
    refine Wp.ret rfl rfl rfl ?_
    exact ⟨by rw [if_neg h1], rfl⟩
  · refine Wp.run 2 (16, [(0, .ref 38), (1, .int x)], [.int 1], (zsh ++ vs, mi, ml, (zmr g))) rfl ?_
    refine Wp.ret rfl rfl rfl ?_
    exact ⟨by rw [if_pos h1], rfl⟩
theorem c_putAway1_38 {E : zEn} {vs : List (Nat × Nat)} {mi : Nat → Nat → Int32} {ml : Nat → Nat → Int64} {g : Nat → Nat → Option Nat} (x : Int32) : Wp E 0 pg_Band_putAway 0 (lv_args 0 [.ref 38, .int x, .int 1]) [] (zsh ++ vs, mi, ml, (zmr g)) (fun r w' => r = none ∧ w' = (zsh ++ vs, zup mi 38 2 (mi 38 2 ||| (1 : Int32) <<< (x &&& 31)), ml, zmr g)) := by
  refine Wp.run 11 (29, [(0, .ref 38), (1, .int x), (2, .int 1)], [], (zsh ++ vs, (zup mi 38 2 ((mi 38 2) ||| ((1 : Int32) <<< (x &&& 31)))), ml, (zmr g))) rfl ?_
  refine Wp.ret rfl rfl rfl ?_
  exact ⟨rfl, rfl⟩
theorem c_putAway0_38 {E : zEn} {vs : List (Nat × Nat)} {mi : Nat → Nat → Int32} {ml : Nat → Nat → Int64} {g : Nat → Nat → Option Nat} (x : Int32) : Wp E 0 pg_Band_putAway 0 (lv_args 0 [.ref 38, .int x, .int 0]) [] (zsh ++ vs, mi, ml, (zmr g)) (fun r w' => r = none ∧ w' = (zsh ++ vs, zup mi 38 2 (mi 38 2 &&& ((1 : Int32) <<< (x &&& 31) ^^^ -1)), ml, zmr g)) := by
  refine Wp.run 12 (29, [(0, .ref 38), (1, .int x), (2, .int 0)], [], (zsh ++ vs, (zup mi 38 2 ((mi 38 2) &&& (((1 : Int32) <<< (x &&& 31)) ^^^ (-1)))), ml, (zmr g))) rfl ?_
  refine Wp.ret rfl rfl rfl ?_
  exact ⟨rfl, rfl⟩
theorem c_countHere_38 {E : zEn} {vs : List (Nat × Nat)} {mi : Nat → Nat → Int32} {ml : Nat → Nat → Int64} {g : Nat → Nat → Option Nat}  : Wp E 1 pg_Band_countHere 0 (lv_args 0 [.ref 38]) [] (zsh ++ vs, mi, ml, (zmr g)) (fun r w' => r = some (.int (mi 38 0 - zbc (mi 38 2))) ∧ w' = (zsh ++ vs, mi, ml, zmr g)) := by
  refine Wp.run 4 (8, [(0, .ref 38)], [.int (mi 38 2), .int (mi 38 0)], (zsh ++ vs, mi, ml, (zmr g))) rfl ?_
  refine Wp.call (as := [.int (mi 38 2)]) (rest := [.int (mi 38 0)]) rfl rfl rfl rfl rfl (Nat.le_of_ble_eq_true rfl) (Nat.le_of_ble_eq_true rfl) rfl (by decide) (c_bitCount (mi 38 2)) ?_
  rintro _ _ ⟨rfl, rfl⟩
  refine Wp.run 1 (12, [(0, .ref 38)], [.int ((mi 38 0) - (zbc (mi 38 2)))], (zsh ++ vs, mi, ml, (zmr g))) rfl ?_
  refine Wp.ret rfl rfl rfl ?_
  exact ⟨rfl, rfl⟩
