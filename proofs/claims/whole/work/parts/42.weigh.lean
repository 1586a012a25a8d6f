/-! THE TRUTHS IN A LONG -/
def bl (x : Int64) (i : Nat) : Bool := x.toBitVec.getLsbD i
theorem bl_ext {x y : Int64} (h : ∀ i, i < 64 → bl x i = bl y i) : x = y := Int64.toBitVec_inj.mp (BitVec.eq_of_getLsbD_eq (fun i hi => h i hi))
theorem bl_or (x y : Int64) (i : Nat) : bl (x ||| y) i = (bl x i || bl y i) := by unfold bl; rw [Int64.toBitVec_or, BitVec.getLsbD_or]
theorem bl_and (x y : Int64) (i : Nat) : bl (x &&& y) i = (bl x i && bl y i) := by unfold bl; rw [Int64.toBitVec_and, BitVec.getLsbD_and]
theorem bl_xor (x y : Int64) (i : Nat) : bl (x ^^^ y) i = (bl x i ^^ bl y i) := by unfold bl; rw [Int64.toBitVec_xor, BitVec.getLsbD_xor]
theorem bl_N {a i : Nat} (hi : i < 64) : bl (lN a) i = a.testBit i := by
  show (BitVec.ofNat 64 a).getLsbD i = _
  rw [BitVec.getLsbD_ofNat]
  simp [hi]
theorem bl_1 : ∀ i, i < 64 → bl 1 i = decide (i = 0) := by decide +kernel
theorem bl_m2 : ∀ i, i < 64 → bl (Int64.ofNat 18446744073709551614) i = decide (¬ i = 0) := by decide +kernel
theorem bl_i1 : ∀ i, i < 64 → bl ((1 : Int32).toInt64) i = decide (i = 0) := by decide +kernel
theorem bl_i0 : ∀ i, i < 64 → bl ((0 : Int32).toInt64) i = false := by decide +kernel
theorem ls_1 : (((1 : Int32).toInt64 &&& 63).toBitVec.smod 64).toNat = 1 := by decide +kernel
theorem lu_1 : (((1 : Int32).toInt64.toUInt64 &&& Int64.toUInt64 63).toBitVec % 64).toNat = 1 := by decide +kernel
theorem bl_shl (x : Int64) {i : Nat} (hi : i < 64) : bl (x <<< ((1 : Int32).toInt64 &&& 63)) i = (decide (1 ≤ i) && bl x (i - 1)) := by
  unfold bl
  rw [Int64.toBitVec_shiftLeft]
  show (x.toBitVec <<< (((1 : Int32).toInt64 &&& 63).toBitVec.smod 64).toNat).getLsbD i = _
  rw [ls_1, BitVec.getLsbD_shiftLeft]
  rcases Nat.lt_or_ge i 1 with h | h
  · simp [h, Nat.not_le.mpr h]
  · simp [hi, h, Nat.not_lt.mpr h]
theorem bl_ushr (x : Int64) (i : Nat) : bl ((x.toUInt64 >>> ((1 : Int32).toInt64.toUInt64 &&& Int64.toUInt64 63)).toInt64) i = bl x (1 + i) := by
  show (x.toUInt64 >>> ((1 : Int32).toInt64.toUInt64 &&& Int64.toUInt64 63)).toBitVec.getLsbD i = x.toUInt64.toBitVec.getLsbD (1 + i)
  rw [UInt64.toBitVec_shiftRight]
  show (x.toUInt64.toBitVec >>> (((1 : Int32).toInt64.toUInt64 &&& Int64.toUInt64 63).toBitVec % 64).toNat).getLsbD i = _
  rw [lu_1, BitVec.getLsbD_ushiftRight]
theorem l_push1 (a : Nat) : lN a <<< ((1 : Int32).toInt64 &&& 63) ||| (1 : Int32).toInt64 = lN (2 * a + 1) := by
  apply bl_ext
  intro i hi
  rw [bl_or, bl_shl _ hi, bl_i1 i hi, bl_N hi]
  cases i with
  | zero => rw [Nat.testBit_zero, decide_eq_true (show (2 * a + 1) % 2 = 1 by omega)]; rfl
  | succ i => rw [Nat.testBit_succ, show (2 * a + 1) / 2 = a by omega, Nat.add_sub_cancel, bl_N (by omega)]; simp
theorem l_push0 (a : Nat) : lN a <<< ((1 : Int32).toInt64 &&& 63) ||| (0 : Int32).toInt64 = lN (2 * a + 0) := by
  apply bl_ext
  intro i hi
  rw [bl_or, bl_shl _ hi, bl_i0 i hi, bl_N hi]
  cases i with
  | zero => rw [Nat.testBit_zero, decide_eq_false (show ¬ (2 * a + 0) % 2 = 1 by omega)]; rfl
  | succ i => rw [Nat.testBit_succ, show (2 * a + 0) / 2 = a by omega, Nat.add_sub_cancel, bl_N (by omega)]; simp
theorem l_not (a : Nat) : lN a ^^^ 1 = lN (if a % 2 = 0 then a + 1 else a - 1) := by
  apply bl_ext
  intro i hi
  rw [bl_xor, bl_1 i hi, bl_N hi, bl_N hi]
  by_cases h : a % 2 = 0
  · rw [if_pos h]
    cases i with
    | zero => rw [Nat.testBit_zero, Nat.testBit_zero, decide_eq_false (show ¬ a % 2 = 1 by omega), decide_eq_true (show (a + 1) % 2 = 1 by omega)]; rfl
    | succ i => rw [Nat.testBit_succ, Nat.testBit_succ, show (a + 1) / 2 = a / 2 by omega]; simp
  · rw [if_neg h]
    cases i with
    | zero => rw [Nat.testBit_zero, Nat.testBit_zero, decide_eq_true (show a % 2 = 1 by omega), decide_eq_false (show ¬ (a - 1) % 2 = 1 by omega)]; rfl
    | succ i => rw [Nat.testBit_succ, Nat.testBit_succ, show (a - 1) / 2 = a / 2 by omega]; simp
theorem bl_half {a : Nat} (h : a < 2 ^ 63) {i : Nat} (hi : i < 64) : bl (((lN a).toUInt64 >>> ((1 : Int32).toInt64.toUInt64 &&& Int64.toUInt64 63)).toInt64) i = (a / 2).testBit i := by
  rw [bl_ushr, ← Nat.testBit_succ, Nat.add_comm]
  rcases Nat.lt_or_ge (i + 1) 64 with h1 | h1
  · rw [bl_N h1]
  · obtain rfl : i = 63 := by omega
    rw [show a.testBit (Nat.succ 63) = false from Nat.testBit_lt_two_pow (Nat.lt_trans h (by decide))]
    exact BitVec.getLsbD_of_ge _ _ (Nat.le_refl _)
theorem l_half {a : Nat} (h : a < 2 ^ 63) : ((lN a).toUInt64 >>> ((1 : Int32).toInt64.toUInt64 &&& Int64.toUInt64 63)).toInt64 = lN (a / 2) := by
  apply bl_ext
  intro i hi
  rw [bl_half h hi, bl_N hi]
theorem l_and {a : Nat} (h : a < 2 ^ 63) : ((lN a).toUInt64 >>> ((1 : Int32).toInt64.toUInt64 &&& Int64.toUInt64 63)).toInt64 &&& (lN a ||| Int64.ofNat 18446744073709551614) = lN (if a % 2 = 1 then a / 2 else a / 2 / 2 * 2) := by
  apply bl_ext
  intro i hi
  rw [bl_and, bl_or, bl_half h hi, bl_N hi, bl_N hi, bl_m2 i hi]
  by_cases h1 : a % 2 = 1
  · rw [if_pos h1]
    cases i with
    | zero => rw [Nat.testBit_zero a, decide_eq_true h1]; simp
    | succ i => simp
  · rw [if_neg h1]
    cases i with
    | zero => rw [Nat.testBit_zero a, decide_eq_false h1, Nat.testBit_zero (a / 2 / 2 * 2), decide_eq_false (show ¬ a / 2 / 2 * 2 % 2 = 1 by omega)]; simp
    | succ i => rw [Nat.testBit_succ (a / 2 / 2 * 2), show a / 2 / 2 * 2 / 2 = a / 2 / 2 by omega, Nat.testBit_succ (a / 2)]; simp
theorem l_or {a : Nat} (h : a < 2 ^ 63) : ((lN a).toUInt64 >>> ((1 : Int32).toInt64.toUInt64 &&& Int64.toUInt64 63)).toInt64 ||| (lN a &&& 1) = lN (if a % 2 = 1 then a / 2 / 2 * 2 + 1 else a / 2) := by
  apply bl_ext
  intro i hi
  rw [bl_or, bl_and, bl_half h hi, bl_N hi, bl_N hi, bl_1 i hi]
  by_cases h1 : a % 2 = 1
  · rw [if_pos h1]
    cases i with
    | zero => rw [Nat.testBit_zero a, decide_eq_true h1, Nat.testBit_zero (a / 2 / 2 * 2 + 1), decide_eq_true (show (a / 2 / 2 * 2 + 1) % 2 = 1 by omega)]; simp
    | succ i => rw [Nat.testBit_succ (a / 2 / 2 * 2 + 1), show (a / 2 / 2 * 2 + 1) / 2 = a / 2 / 2 by omega, Nat.testBit_succ (a / 2)]; simp
  · rw [if_neg h1]
    cases i with
    | zero => rw [Nat.testBit_zero a, decide_eq_false h1]; simp
    | succ i => simp
theorem l_low (a : Nat) : lN a &&& 1 = if a % 2 = 1 then 1 else 0 := by
  apply bl_ext
  intro i hi
  rw [bl_and, bl_N hi, bl_1 i hi]
  by_cases h1 : a % 2 = 1
  · rw [if_pos h1, bl_1 i hi]
    cases i with
    | zero => rw [Nat.testBit_zero a, decide_eq_true h1]; rfl
    | succ i => simp
  · rw [if_neg h1, show bl 0 i = false from BitVec.getLsbD_zero]
    cases i with
    | zero => rw [Nat.testBit_zero a, decide_eq_false h1]; rfl
    | succ i => simp
theorem l_cmp (a : Nat) : lg_cmp (lN a &&& 1) 1 = 0 ↔ a % 2 = 1 := by
  rw [l_low]
  by_cases h1 : a % 2 = 1
  · rw [if_pos h1]
    exact ⟨fun _ => h1, fun _ => by decide⟩
  · rw [if_neg h1]
    exact ⟨fun h => absurd h (by decide), fun h => absurd h h1⟩
/-! THE WEIGHING -/
theorem wst_b {nm : Nat → Int32} {s : Int32 × Nat} {x : Int32} {c : Nat} (h : s.2 < 2 ^ (c + 1)) : (wst nm s x).2 < 2 ^ (c + (if x < 2000 then 1 else 0) + 1) := by
  have he : 2 ^ (c + 1) % 2 = 0 := by rw [Nat.pow_succ]; omega
  unfold wst
  by_cases h1 : x < 2000
  · rw [if_pos h1, if_pos h1, Nat.pow_succ]
    have := zbn_lt (ztb nm (x.toNatClampNeg / 300) (x.toNatClampNeg % 300 / 100) (x.toNatClampNeg % 100))
    show 2 * s.2 + _ < _
    omega
  · rw [if_neg h1, if_neg h1, Nat.add_zero]
    generalize 2 ^ (c + 1) = B at h he
    split
    · show (if s.2 % 2 = 0 then s.2 + 1 else s.2 - 1) < _
      split <;> omega
    · split
      · show (if s.2 % 2 = 1 then s.2 / 2 else s.2 / 2 / 2 * 2) < _
        split <;> omega
      · split
        · show (if s.2 % 2 = 1 then s.2 / 2 / 2 * 2 + 1 else s.2 / 2) < _
          split <;> omega
        · show s.2 / 2 < _
          omega
theorem stx {l s v : Nat} (h1 : l < 6) (h2 : s < 3) (h3 : v ≤ 99) : nI (300 * l + 100 * s + v) / 300 = nI l ∧ nI (300 * l + 100 * s + v) - nI (300 * l + 100 * s + v) / 100 * 100 = nI v ∧ (nI (300 * l + 100 * s + v) - nI (300 * l + 100 * s + v) / 300 * 300) / 100 = nI s := by
  have h : ∀ l : Fin 6, ∀ s : Fin 3, ∀ v : Fin 100, nI (300 * l.val + 100 * s.val + v.val) / 300 = nI l.val ∧ nI (300 * l.val + 100 * s.val + v.val) - nI (300 * l.val + 100 * s.val + v.val) / 100 * 100 = nI v.val ∧ (nI (300 * l.val + 100 * s.val + v.val) - nI (300 * l.val + 100 * s.val + v.val) / 300 * 300) / 100 = nI s.val := by decide +kernel
  exact h ⟨l, h1⟩ ⟨s, h2⟩ ⟨v, by omega⟩
/-- whether the comparison is the asked one -/
theorem cmp3 {nm : Nat → Int32} {l s v : Nat} (h2 : s < 3) : ((if nm l < nI v then -1 else if nm l = nI v then 0 else 1) + 1 = nI s) ↔ ztb nm l s v = true := by
  have l3 : nm l < nI v ∨ nm l = nI v ∨ nI v < nm l := by
    rcases Int.lt_trichotomy (nm l).toInt (nI v).toInt with h | h | h
    · exact Or.inl (Int32.lt_iff_toInt_lt.mpr h)
    · exact Or.inr (Or.inl (Int32.toInt_inj.mp h))
    · exact Or.inr (Or.inr (Int32.lt_iff_toInt_lt.mpr h))
  unfold ztb
  rcases (show s = 0 ∨ s = 1 ∨ s = 2 by omega) with rfl | rfl | rfl
  · rw [if_pos rfl, decide_eq_true_iff]
    by_cases h : nm l < nI v
    · rw [if_pos h]; exact ⟨fun _ => h, fun _ => by decide⟩
    · rw [if_neg h]
      refine ⟨fun e => ?_, fun e => absurd e h⟩
      split at e
      · exact absurd e (by decide)
      · exact absurd e (by decide)
  · rw [if_neg (show ¬ 1 = 0 by decide), if_pos (show 1 = 1 from rfl), decide_eq_true_iff]
    by_cases h : nm l < nI v
    · rw [if_pos h]; exact ⟨fun e => absurd e (by decide), fun e => absurd h (by rw [e]; exact Int32.lt_irrefl)⟩
    · rw [if_neg h]
      by_cases h9 : nm l = nI v
      · rw [if_pos h9]; exact ⟨fun _ => h9, fun _ => by decide⟩
      · rw [if_neg h9]; exact ⟨fun e => absurd e (by decide), fun e => absurd e h9⟩
  · rw [if_neg (show ¬ 2 = 0 by decide), if_neg (show ¬ 2 = 1 by decide), decide_eq_true_iff]
    by_cases h : nm l < nI v
    · rw [if_pos h]
      exact ⟨fun e => absurd e (by decide), fun e => absurd (Int32.lt_trans h e) (Int32.lt_irrefl)⟩
    · rw [if_neg h]
      by_cases h9 : nm l = nI v
      · rw [if_pos h9]; exact ⟨fun e => absurd e (by decide), fun e => absurd e (by rw [h9]; exact Int32.lt_irrefl)⟩
      · rw [if_neg h9]; exact ⟨fun _ => l3.elim (fun q => absurd q h) (fun q => q.elim (fun q => absurd q h9) id), fun _ => by decide⟩
