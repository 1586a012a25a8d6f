/-! WHAT IS ASKED OF A BAND, in the words of the row -/
section BQ
variable {mi : Nat → Nat → Int32} {a nv : Nat} {h : Option Nat} {N : Nat → Int32} {n dd : Nat}
theorem BR.aw (B : BR mi a h nv N n dd) {k : Nat} (hk : k < n) : awB mi a k = uN N k 4 := B.2.2.2.2.1 k hk 4 (by decide)
theorem BR.held (B : BR mi a h nv N n dd) {k : Nat} (hk : k < n) : mi (a + 4) k = uN N k 2 := B.2.2.2.2.1 k hk 2 (by decide)
theorem BR.bt0 (B : BR mi a h nv N n dd) {k : Nat} (hk : k < n) : bt (mi a 2) k = false ↔ uN N k 4 = 0 := by
  have h6 := B.1.2.1
  rw [← B.aw hk]
  exact (bit1_zero (mi a 2) (by omega)).symm
theorem BR.sung (B : BR mi a h nv N n dd) {k : Nat} (hk : k < n) : sungF (mi a 2 ^^^ -1) (mi (a + 4)) k = keptF (uN N) k := by
  have h6 := B.1.2.1
  have h1 : ((mi a 2 ^^^ -1) >>> (nI k &&& 31) &&& 1 = 1) ↔ uN N k 4 = 0 := by
    rw [bit1_one _ (by omega), bt_not _ (by omega), ← B.bt0 hk]
    cases bt (mi a 2) k <;> decide
  show (if (mi a 2 ^^^ -1) >>> (nI k &&& 31) &&& 1 = 1 then mi (a + 4) k else 0) = if uN N k 4 = 0 then uN N k 2 else 0
  by_cases h4 : uN N k 4 = 0
  · rw [if_pos h4, if_pos (h1.mpr h4), B.held hk]
  · rw [if_neg h4, if_neg (fun q => h4 (h1.mp q))]
theorem BR.kept (B : BR mi a h nv N n dd) : zor (sungF (mi a 2 ^^^ -1) (mi (a + 4))) n = zor (keptF (uN N)) n := zor_congr (fun _ hk => B.sung hk)
theorem BR.twice (B : BR mi a h nv N n dd) : ztw (sungF (mi a 2 ^^^ -1) (mi (a + 4))) n = ztw (keptF (uN N)) n := ztw_congr (fun _ hk => B.sung hk)
theorem BR.forgot (B : BR mi a h nv N n dd) : zsum (mi (a + 6)) n = zsum (fun k => uN N k 5) n := zsum_congr (fun k hk => B.2.2.2.2.1 k hk 5 (by decide))
theorem BR.sacks (B : BR mi a h nv N n dd) (K : Int32) : zsum (fun p => (K >>> (nI p &&& 31) &&& 1) * mi (a + 1) p) 8 = zsum (fun p => if K >>> (nI p &&& 31) &&& 1 = 1 then N p else 0) 8 := by
  apply zsum_congr
  intro p hp
  show (K >>> (nI p &&& 31) &&& 1) * mi (a + 1) p = _
  rw [B.2.2.2.1 p hp]
  by_cases h1 : bt K p = true
  · rw [bit1 K (by omega), if_pos h1, if_pos rfl, Int32.one_mul]
  · rw [bit1 K (by omega), if_neg h1, if_neg (by decide), Int32.zero_mul]
theorem BR.hold (B : BR mi a h nv N n dd) {p : Nat} (hp : p < 8) : zsum (hldB mi a (mi (a + 4)) (nI p)) n = zsum (holdF (uN N) (nI p)) n := by
  apply zsum_congr
  intro k hk
  show (if awB mi a k = 0 then mi (a + 4) k >>> (nI p &&& 31) &&& 1 else 0) = if uN N k 4 = 0 ∧ uN N k 2 >>> (nI p &&& 31) &&& 1 = 1 then 1 else 0
  rw [B.aw hk, B.held hk]
  by_cases h4 : uN N k 4 = 0
  · rw [if_pos h4]
    by_cases h1 : bt (uN N k 2) p = true
    · rw [if_pos ⟨h4, (bit1_one _ (by omega)).mpr h1⟩, bit1 _ (by omega), if_pos h1]
    · rw [if_neg (fun q => h1 ((bit1_one _ (by omega)).mp q.2)), bit1 _ (by omega), if_neg h1]
  · rw [if_neg h4, if_neg (fun q => h4 q.1)]
/-- absent has the bits of those away -/
theorem bt_zor {f : Nat → Int32} {i : Nat} : ∀ n, bt (zor f n) i = true ↔ ∃ k, k < n ∧ bt (f k) i = true
  | 0 => by rw [zor, b_0]; constructor
            · intro h; cases h
            · rintro ⟨k, hk, -⟩; omega
  | n + 1 => by
    rw [zor, b_or, Bool.or_eq_true, bt_zor n]
    constructor
    · rintro (⟨k, hk, h⟩ | h)
      · exact ⟨k, by omega, h⟩
      · exact ⟨n, by omega, h⟩
    · rintro ⟨k, hk, h⟩
      by_cases e : k = n
      · subst e; exact Or.inr h
      · exact Or.inl ⟨k, by omega, h⟩
theorem BR.absent (B : BR mi a h nv N n dd) : mi a 2 = zor (awaysF (uN N)) n := by
  have h6 := B.1.2.1
  apply b_ext
  intro i hi
  have key : bt (zor (awaysF (uN N)) n) i = true ↔ (i < n ∧ ¬ uN N i 4 = 0) := by
    rw [bt_zor]
    constructor
    · rintro ⟨k, hk, hb⟩
      by_cases h4 : uN N k 4 = 0
      · rw [awaysF, if_pos h4, b_0] at hb; cases hb
      · rw [awaysF, if_neg h4, bt_one k (by omega) i hi] at hb
        have := of_decide_eq_true hb
        subst this
        exact ⟨hk, h4⟩
    · rintro ⟨h1, h4⟩
      refine ⟨i, h1, ?_⟩
      rw [awaysF, if_neg h4, bt_one i hi i hi]
      simp
  by_cases hin : i < n
  · by_cases h4 : uN N i 4 = 0
    · rw [(B.bt0 hin).mpr h4]
      cases hb : bt (zor (awaysF (uN N)) n) i
      · rfl
      · exact absurd h4 (key.mp hb).2
    · rw [key.mpr ⟨hin, h4⟩]
      cases hb : bt (mi a 2) i
      · exact absurd ((B.bt0 hin).mp hb) h4
      · rfl
  · rw [B.2.2.2.2.2.1 i (by omega) hi]
    cases hb : bt (zor (awaysF (uN N)) n) i
    · rfl
    · exact absurd (key.mp hb).1 hin
end BQ
/-- how many of the first n have the bit p -/
def cntN (f : Nat → Int32) (p : Nat) : Nat → Nat
  | 0 => 0
  | n + 1 => cntN f p n + if bt (f n) p = true then 1 else 0
theorem cnt_or {f : Nat → Int32} {p : Nat} : ∀ n, bt (zor f n) p = true ↔ 1 ≤ cntN f p n
  | 0 => by rw [zor, b_0, cntN]; constructor <;> intro h <;> first | cases h | omega
  | n + 1 => by
    rw [zor, b_or, Bool.or_eq_true, cnt_or n, cntN]
    by_cases h : bt (f n) p = true
    · rw [if_pos h]; constructor
      · intro _; omega
      · intro _; exact Or.inr h
    · rw [if_neg h]; constructor
      · rintro (h1 | h1)
        · omega
        · exact absurd h1 h
      · intro h1; exact Or.inl (by omega)
theorem cnt_tw {f : Nat → Int32} {p : Nat} : ∀ n, bt (ztw f n) p = true ↔ 2 ≤ cntN f p n
  | 0 => by rw [ztw, b_0, cntN]; constructor <;> intro h <;> first | cases h | omega
  | n + 1 => by
    rw [ztw, b_or, b_and, Bool.or_eq_true, Bool.and_eq_true, cnt_tw n, cnt_or n, cntN]
    by_cases h : bt (f n) p = true
    · rw [if_pos h]; constructor
      · rintro (h1 | h1) <;> omega
      · intro h1; exact Or.inr ⟨by omega, h⟩
    · rw [if_neg h]; constructor
      · rintro (h1 | h1)
        · omega
        · exact absurd h1.2 h
      · intro h1; exact Or.inl (by omega)
theorem zsum_cnt {u : Nat → Nat → Int32} {p : Nat} (hp : p < 32) : ∀ n, zsum (holdF u (nI p)) n = nI (cntN (keptF u) p n)
  | 0 => rfl
  | n + 1 => by
    rw [zsum, cntN, zsum_cnt hp n]
    by_cases h4 : u n 4 = 0
    · have e : keptF u n = u n 2 := by rw [keptF, if_pos h4]
      by_cases h1 : bt (u n 2) p = true
      · rw [holdF, if_pos ⟨h4, (bit1_one _ hp).mpr h1⟩, e, if_pos h1, nI_1]
      · rw [holdF, if_neg (fun q => h1 ((bit1_one _ hp).mp q.2)), e, if_neg h1, Nat.add_zero]
        exact Int32.add_zero _
    · have e : keptF u n = 0 := by rw [keptF, if_neg h4]
      rw [holdF, if_neg (fun q => h4 q.1), e, b_0, if_neg (by decide), Nat.add_zero]
      exact Int32.add_zero _
theorem cntN_le {f : Nat → Int32} {p : Nat} : ∀ n, cntN f p n ≤ n
  | 0 => Nat.le_refl _
  | n + 1 => by
    have := cntN_le (f := f) (p := p) n
    rw [cntN]
    split <;> omega
theorem bt_hi : ∀ q, q < 256 → ∀ i, 8 ≤ i → i < 32 → bt (nI q) i = false := by
  intro q hq i h1 h2
  unfold bt
  show (BitVec.ofNat 32 q).getLsbD i = false
  rw [BitVec.getLsbD_ofNat]
  have : q.testBit i = false := Nat.testBit_lt_two_pow (Nat.lt_of_lt_of_le hq (show 2 ^ 8 ≤ 2 ^ i from Nat.pow_le_pow_right (by decide) h1))
  rw [this, Bool.and_false]
/-- SAFE: held by two, on both sides -/
theorem safe_eq {N : Nat → Int32} {n dd : Nat} (h : rOK N n dd) : ztw (keptF (uN N)) n = zor (fun p => if 1 < zsum (holdF (uN N) (nI p)) n then (1 : Int32) <<< (nI p &&& 31) else 0) 8 := by
  have h6 := h.2.1
  apply b_ext
  intro i hi
  have key : bt (zor (fun p => if 1 < zsum (holdF (uN N) (nI p)) n then (1 : Int32) <<< (nI p &&& 31) else 0) 8) i = true ↔ (i < 8 ∧ 2 ≤ cntN (keptF (uN N)) i n) := by
    rw [bt_zor]
    constructor
    · rintro ⟨p, hp, hb⟩
      have hb : bt (if 1 < zsum (holdF (uN N) (nI p)) n then (1 : Int32) <<< (nI p &&& 31) else 0) i = true := hb
      by_cases h1 : 1 < zsum (holdF (uN N) (nI p)) n
      · rw [if_pos h1, bt_one p (by omega) i hi] at hb
        have := of_decide_eq_true hb
        subst this
        rw [zsum_cnt (by omega)] at h1
        have := (nI_ltI (a := 1) (by decide) (by have := cntN_le (f := keptF (uN N)) (p := i) n; omega)).mp h1
        exact ⟨hp, by omega⟩
      · rw [if_neg h1, b_0] at hb; cases hb
    · rintro ⟨h8, h2⟩
      refine ⟨i, h8, ?_⟩
      show bt (if 1 < zsum (holdF (uN N) (nI i)) n then (1 : Int32) <<< (nI i &&& 31) else 0) i = true
      rw [if_pos (by rw [zsum_cnt (by omega)]; exact nI_lt (a := 1) (by omega) (by have := cntN_le (f := keptF (uN N)) (p := i) n; omega)), bt_one i hi i hi]
      simp
  have k2 : bt (ztw (keptF (uN N)) n) i = true ↔ (i < 8 ∧ 2 ≤ cntN (keptF (uN N)) i n) := by
    rw [cnt_tw]
    constructor
    · intro h2
      refine ⟨?_, h2⟩
      apply Classical.byContradiction
      intro h8
      have z : ∀ m, m ≤ n → cntN (keptF (uN N)) i m = 0 := by
        intro m
        induction m with
        | zero => intro _; rfl
        | succ m ih =>
          intro hm
          rw [cntN, ih (by omega), if_neg, Nat.add_zero]
          show ¬ bt (if uN N m 4 = 0 then uN N m 2 else 0) i = true
          obtain ⟨q, hq, eq⟩ := (h.2.2.2.2 m (by omega)).2.2.1
          split
          · rw [eq, bt_hi q hq i (by omega) hi]; decide
          · rw [b_0]; decide
      rw [z n (Nat.le_refl _)] at h2
      omega
    · exact fun h2 => h2.2
  cases hb : bt (ztw (keptF (uN N)) n) i
  · cases hc : bt (zor (fun p => if 1 < zsum (holdF (uN N) (nI p)) n then (1 : Int32) <<< (nI p &&& 31) else 0) 8) i
    · rfl
    · rw [k2.mpr (key.mp hc)] at hb; cases hb
  · rw [key.mpr (k2.mp hb)]
