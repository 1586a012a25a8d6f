/-! THE READER OF VILLAGES, as numbers: T the text, n its length. What is read: its steps, and whether it is so for these names -/
abbrev zT : Type := List Int32 × ((Nat → Int32) → Bool)
def ztb (nm : Nat → Int32) (l s v : Nat) : Bool := if s = 0 then decide (nm l < nI v) else if s = 1 then decide (nm l = nI v) else decide (nI v < nm l)
def zTs (l s v : Nat) : zT := ([nI (300 * l + 100 * s + v)], fun nm => ztb nm l s v)
def zNt (t : zT) : zT := (t.1 ++ [2000], fun nm => !t.2 nm)
def zAn (t u : zT) : zT := (t.1 ++ u.1 ++ [2001], fun nm => t.2 nm && u.2 nm)
def zOo (t u : zT) : zT := (t.1 ++ u.1 ++ [2002], fun nm => t.2 nm || u.2 nm)
def zbn (b : Bool) : Nat := if b = true then 1 else 0
/-- a step of the weighing: the sum, and the truths as a number -/
def wst (nm : Nat → Int32) (s : Int32 × Nat) (x : Int32) : Int32 × Nat :=
  if x < 2000 then (s.1, 2 * s.2 + zbn (ztb nm (x.toNatClampNeg / 300) (x.toNatClampNeg % 300 / 100) (x.toNatClampNeg % 100)))
  else if x = 2000 then (s.1, if s.2 % 2 = 0 then s.2 + 1 else s.2 - 1)
  else if x = 2001 then (s.1, if s.2 % 2 = 1 then s.2 / 2 else s.2 / 2 / 2 * 2)
  else if x = 2002 then (s.1, if s.2 % 2 = 1 then s.2 / 2 / 2 * 2 + 1 else s.2 / 2)
  else (s.1 + (if s.2 % 2 = 1 then (if 4000 ≤ x then 4000 - x else x - 3000) else 0), s.2 / 2)
def wrn (nm : Nat → Int32) : List Int32 → Int32 × Nat → Int32 × Nat
  | [], s => s
  | x :: l, s => wrn nm l (wst nm s x)
theorem wrn_app {nm : Nat → Int32} : ∀ (l k : List Int32) (s : Int32 × Nat), wrn nm (l ++ k) s = wrn nm k (wrn nm l s)
  | [], _, _ => rfl
  | x :: l, k, s => wrn_app l k (wst nm s x)
/-- a step that can be -/
def zvx (x : Int32) : Prop := (∃ l s v, l < 6 ∧ s < 3 ∧ v ≤ 99 ∧ x = nI (300 * l + 100 * s + v)) ∨ ¬ x < 2000
def zct2 : List Int32 → Nat
  | [] => 0
  | x :: l => (if x < 2000 then 1 else 0) + zct2 l
theorem zct2_app : ∀ l k, zct2 (l ++ k) = zct2 l + zct2 k
  | [], k => by rw [List.nil_append, zct2, Nat.zero_add]
  | x :: l, k => by rw [List.cons_append, zct2, zct2, zct2_app l k, Nat.add_assoc]
def zok (t : zT) : Prop := (∀ nm s a, wrn nm t.1 (s, a) = (s, 2 * a + zbn (t.2 nm))) ∧ ∀ x, x ∈ t.1 → zvx x
theorem zbn_lt (b : Bool) : zbn b < 2 := by cases b <;> decide
theorem zok_ts {l s v : Nat} (h1 : l < 6) (h2 : s < 3) (h3 : v ≤ 99) : zok (zTs l s v) := by
  refine ⟨fun nm q a => ?_, fun x hx => ?_⟩
  · show wst nm (q, a) (nI (300 * l + 100 * s + v)) = _
    have e : nI (300 * l + 100 * s + v) < 2000 := by
      apply Int32.lt_iff_toInt_lt.mpr
      rw [nI_toInt (by omega), show (2000 : Int32).toInt = 2000 by decide]
      omega
    unfold wst
    rw [if_pos e, nI_clamp (by omega), show (300 * l + 100 * s + v) / 300 = l by omega, show (300 * l + 100 * s + v) % 300 / 100 = s by omega, show (300 * l + 100 * s + v) % 100 = v by omega]
    rfl
  · rcases List.mem_singleton.mp hx with rfl
    exact Or.inl ⟨l, s, v, h1, h2, h3, rfl⟩
theorem zok_nt {t : zT} (h : zok t) : zok (zNt t) := by
  refine ⟨fun nm s a => ?_, fun x hx => ?_⟩
  · show wrn nm (t.1 ++ [2000]) (s, a) = _
    rw [wrn_app, h.1]
    show wst nm (s, _) 2000 = _
    unfold wst
    rw [if_neg (by decide), if_pos rfl]
    show (s, _) = (s, 2 * a + zbn (!t.2 nm))
    cases t.2 nm
    · show (s, if (2 * a + 0) % 2 = 0 then 2 * a + 0 + 1 else 2 * a + 0 - 1) = (s, 2 * a + 1)
      rw [if_pos (by omega)]
    · show (s, if (2 * a + 1) % 2 = 0 then 2 * a + 1 + 1 else 2 * a + 1 - 1) = (s, 2 * a + 0)
      rw [if_neg (by omega)]
      rfl
  · rcases List.mem_append.mp hx with h1 | h1
    · exact h.2 x h1
    · rcases List.mem_singleton.mp h1 with rfl
      exact Or.inr (by decide)
theorem zok_an {t u : zT} (h : zok t) (k : zok u) : zok (zAn t u) := by
  refine ⟨fun nm s a => ?_, fun x hx => ?_⟩
  · show wrn nm (t.1 ++ u.1 ++ [2001]) (s, a) = _
    rw [wrn_app, wrn_app, h.1, k.1]
    show wst nm (s, _) 2001 = _
    unfold wst
    rw [if_neg (by decide), if_neg (by decide), if_pos rfl]
    show (s, _) = (s, 2 * a + zbn (t.2 nm && u.2 nm))
    congr 1
    show (if (2 * (2 * a + zbn (t.2 nm)) + zbn (u.2 nm)) % 2 = 1 then (2 * (2 * a + zbn (t.2 nm)) + zbn (u.2 nm)) / 2 else (2 * (2 * a + zbn (t.2 nm)) + zbn (u.2 nm)) / 2 / 2 * 2) = _
    have b1 := zbn_lt (t.2 nm)
    cases u.2 nm
    · rw [if_neg (by simp only [zbn]; simp)]
      simp only [zbn, Bool.and_false, if_neg (show ¬ false = true by decide)]
      unfold zbn at b1
      omega
    · rw [if_pos (by simp only [zbn]; simp)]
      simp only [Bool.and_true]
      simp only [zbn, if_true]
      omega
  · rcases List.mem_append.mp hx with h1 | h1
    · rcases List.mem_append.mp h1 with h2 | h2
      · exact h.2 x h2
      · exact k.2 x h2
    · rcases List.mem_singleton.mp h1 with rfl
      exact Or.inr (by decide)
theorem zok_oo {t u : zT} (h : zok t) (k : zok u) : zok (zOo t u) := by
  refine ⟨fun nm s a => ?_, fun x hx => ?_⟩
  · show wrn nm (t.1 ++ u.1 ++ [2002]) (s, a) = _
    rw [wrn_app, wrn_app, h.1, k.1]
    show wst nm (s, _) 2002 = _
    unfold wst
    rw [if_neg (by decide), if_neg (by decide), if_neg (by decide), if_pos rfl]
    show (s, _) = (s, 2 * a + zbn (t.2 nm || u.2 nm))
    congr 1
    show (if (2 * (2 * a + zbn (t.2 nm)) + zbn (u.2 nm)) % 2 = 1 then (2 * (2 * a + zbn (t.2 nm)) + zbn (u.2 nm)) / 2 / 2 * 2 + 1 else (2 * (2 * a + zbn (t.2 nm)) + zbn (u.2 nm)) / 2) = _
    have b1 := zbn_lt (t.2 nm)
    cases u.2 nm
    · rw [if_neg (by simp only [zbn]; simp)]
      simp only [Bool.or_false]
      simp only [zbn, if_neg (show ¬ false = true by decide)]
      omega
    · rw [if_pos (by simp only [zbn]; simp)]
      simp only [Bool.or_true]
      simp only [zbn, if_true]
      unfold zbn at b1
      omega
  · rcases List.mem_append.mp hx with h1 | h1
    · rcases List.mem_append.mp h1 with h2 | h2
      · exact h.2 x h2
      · exact k.2 x h2
    · rcases List.mem_singleton.mp h1 with rfl
      exact Or.inr (by decide)
abbrev zRs : Type := Option zT × Nat
section PARSE
variable (T : Nat → Int32) (n : Nat)
def zch (p : Nat) : Int32 := if p < n then T p else -1
abbrev zdg (c : Int32) : Prop := 48 ≤ c ∧ c ≤ 57
def zdv (c : Int32) : Nat := (c - 48).toNatClampNeg
def znum (p : Nat) : Option (Nat × Nat) := if zdg (zch T n p) then (if zdg (zch T n (p + 1)) then some (10 * zdv (zch T n p) + zdv (zch T n (p + 1)), p + 2) else some (zdv (zch T n p), p + 1)) else none
def zlt (c : Int32) : Option Nat := if c = 112 then some 0 else if c = 107 then some 1 else if c = 118 then some 2 else if c = 110 then some 3 else if c = 109 then some 4 else if c = 100 then some 5 else none
def zsg (c : Int32) : Option Nat := if c = 60 then some 0 else if c = 61 then some 1 else if c = 62 then some 2 else none
def ztest (p : Nat) : zRs := match zlt (zch T n p) with
  | none => (none, p)
  | some l => match zsg (zch T n (p + 1)) with
    | none => (none, p + 1)
    | some s => match znum T n (p + 2) with
      | none => (none, p + 2)
      | some x => (some (zTs l s x.1), x.2)
def zbl (f : Nat → zRs) : Nat → zT → Nat → zRs
  | 0, t, p => (some t, p)
  | c + 1, t, p => if zch T n p = 38 then (match f (p + 1) with
    | (some u, q) => zbl f c (zAn t u) q
    | (none, q) => (none, q)) else (some t, p)
def zbo2 (f : Nat → zRs) (p : Nat) : zRs := match f p with
  | (some t, q) => zbl T n f 100 t q
  | (none, q) => (none, q)
def zol (f : Nat → zRs) : Nat → zT → Nat → zRs
  | 0, t, p => (some t, p)
  | c + 1, t, p => if zch T n p = 124 then (match zbo2 T n f (p + 1) with
    | (some u, q) => zol f c (zOo t u) q
    | (none, q) => (none, q)) else (some t, p)
def zany (f : Nat → zRs) (p : Nat) : zRs := match zbo2 T n f p with
  | (some t, q) => zol T n f 99 t q
  | (none, q) => (none, q)
def zfac : Nat → Nat → zRs
  | 0, p => ztest T n p
  | r + 1, p => if zch T n p = 33 then (match zfac r (p + 1) with
      | (some t, q) => (some (zNt t), q)
      | (none, q) => (none, q))
    else if zch T n p = 40 then (match zany T n (zfac r) (p + 1) with
      | (some t, q) => if zch T n q = 41 then (some t, q + 1) else (none, q)
      | (none, q) => (none, q))
    else ztest T n p
def zwd : List Int32 → Nat → Bool × Nat
  | [], p => (true, p)
  | c :: l, p => if zch T n p = c then zwd l (p + 1) else (false, p)
/-- a word and its number -/
def zwn (l : List Int32) (p : Nat) : Option Nat × Nat := match zwd T n l p with
  | (false, q) => (none, q)
  | (true, q) => match znum T n q with
    | none => (none, q)
    | some x => (some x.1, x.2)
/-- a clause: its steps, what it adds, how one begins anew -/
abbrev zC : Type := List Int32 × ((Nat → Int32) → Int32) × Option Nat
def zHd (v : Nat) (t : zT) : zC := (t.1 ++ [3000 + nI v], fun nm => if t.2 nm = true then nI v else 0, none)
def zEs (v : Nat) (t : zT) : zC := (t.1 ++ [4000 + nI v], fun nm => if t.2 nm = true then -nI v else 0, none)
def zAw (v : Nat) : zC := ([], fun _ => 0, some v)
def zhe (mk : Nat → zT → zC) (l : List Int32) (p : Nat) : Option zC × Nat := match zwn T n l p with
  | (none, q) => (none, q)
  | (some v, q) => if zch T n q = 32 then (match zany T n (zfac T n 4) (q + 1) with
      | (some t, k) => (some (mk v t), k)
      | (none, k) => (none, k)) else (none, q)
def zcla (p : Nat) : Option zC × Nat :=
  if zch T n p = 104 then zhe T n zHd [104, 97, 114, 100, 32] p
  else if zch T n p = 101 then zhe T n zEs [101, 97, 115, 121, 32] p
  else match zwn T n [97, 110, 101, 119, 32] p with
    | (none, q) => (none, q)
    | (some v, q) => (some (zAw v), q)
/-- all: steps, sum, anew (a: what it was before) -/
abbrev zV : Type := List Int32 × ((Nat → Int32) → Int32) × Nat
def zad (V : zV) (c : zC) : zV := (V.1 ++ c.1, fun nm => V.2.1 nm + c.2.1 nm, c.2.2.getD V.2.2)
def zcsa : Nat → zV → Nat → Option zV × Nat
  | 0, _, p => (none, p)
  | k + 1, V, p => match zcla T n p with
    | (none, q) => (none, q)
    | (some c, q) => if q = n then (some (zad V c), q) else if k = 0 then (none, q) else if zch T n q = 59 then zcsa k (zad V c) (q + 1) else (none, q)
end PARSE
section PL
variable {T : Nat → Int32} {n : Nat}
theorem zch_lt {p : Nat} {c : Int32} (h : zch T n p = c) (hc : ¬ c = -1) : p < n := by
  unfold zch at h
  split at h
  · assumption
  · exact absurd h.symm hc
theorem zdg_v {c : Int32} (h : zdg c) : c - 48 = nI (zdv c) ∧ zdv c ≤ 9 := by
  obtain ⟨h1, h2⟩ := h
  have a1 : (48 : Int32).toInt ≤ c.toInt := Int32.le_iff_toInt_le.mp h1
  have a2 : c.toInt ≤ (57 : Int32).toInt := Int32.le_iff_toInt_le.mp h2
  have e48 : (48 : Int32).toInt = 48 := by decide
  have e57 : (57 : Int32).toInt = 57 := by decide
  rw [e48] at a1
  rw [e57] at a2
  obtain ⟨k, hk, rfl⟩ : ∃ k : Nat, k < 58 ∧ c = nI k := ⟨c.toInt.toNat, by omega, by
    apply Int32.toInt_inj.mp
    rw [nI_toInt (by omega)]
    omega⟩
  have : ∀ k : Fin 58, 48 ≤ (nI k.val).toInt → (nI k.val).toInt ≤ 57 → nI k.val - 48 = nI (zdv (nI k.val)) ∧ zdv (nI k.val) ≤ 9 := by decide +kernel
  exact this ⟨k, hk⟩ a1 a2
theorem zdg_lt {p : Nat} (h : zdg (zch T n p)) : p < n := by
  by_cases hp : p < n
  · exact hp
  · unfold zch at h
    rw [if_neg hp] at h
    exact absurd h (by decide)
theorem znum_ok {p : Nat} {x : Nat × Nat} (h : znum T n p = some x) : x.1 ≤ 99 ∧ p < x.2 ∧ x.2 ≤ n := by
  unfold znum at h
  split at h
  · rename_i h1
    have := (zdg_v h1).2
    have l1 := zdg_lt h1
    split at h
    · rename_i h2
      have := (zdg_v h2).2
      have l2 := zdg_lt h2
      cases h
      simp only
      omega
    · cases h
      simp only
      omega
  · cases h
theorem zlt_ok {c : Int32} {l : Nat} (h : zlt c = some l) : l < 6 ∧ ¬ c = -1 := by
  unfold zlt at h
  repeat' (split at h)
  all_goals first
    | (cases h; done)
    | (cases h; rename_i q; rw [q]; decide)
theorem zsg_ok {c : Int32} {l : Nat} (h : zsg c = some l) : l < 3 ∧ ¬ c = -1 := by
  unfold zsg at h
  repeat' (split at h)
  all_goals first
    | (cases h; done)
    | (cases h; rename_i q; rw [q]; decide)
/-- how far a reader came -/
def zG (n p : Nat) (t : zT) (q : Nat) : Prop := p + t.1.length ≤ q ∧ q ≤ n ∧ zok t ∧ p + 3 * zct2 t.1 ≤ q ∧ 1 ≤ t.1.length
def zGf (n : Nat) (f : Nat → zRs) : Prop := ∀ p t q, f p = (some t, q) → zG n p t q
theorem zG_an {p0 p k : Nat} {t u : zT} (hg : zG n p0 t p) (h2 : zG n (p + 1) u k) : zG n p0 (zAn t u) k := by
  have a1 := hg.1
  have a2 := h2.1
  have a3 := hg.2.2.2.1
  have a4 := h2.2.2.2.1
  refine ⟨?_, h2.2.1, zok_an hg.2.2.1 h2.2.2.1, ?_, ?_⟩
  · show p0 + (t.1 ++ u.1 ++ [2001]).length ≤ k
    rw [List.length_append, List.length_append]
    show p0 + (_ + _ + 1) ≤ k
    omega
  · show p0 + 3 * zct2 (t.1 ++ u.1 ++ [2001]) ≤ k
    rw [zct2_app, zct2_app, show zct2 [2001] = 0 by decide]
    omega
  · show 1 ≤ (t.1 ++ u.1 ++ [2001]).length
    rw [List.length_append]
    exact Nat.le_add_left _ _
theorem zG_oo {p0 p k : Nat} {t u : zT} (hg : zG n p0 t p) (h2 : zG n (p + 1) u k) : zG n p0 (zOo t u) k := by
  have a1 := hg.1
  have a2 := h2.1
  have a3 := hg.2.2.2.1
  have a4 := h2.2.2.2.1
  refine ⟨?_, h2.2.1, zok_oo hg.2.2.1 h2.2.2.1, ?_, ?_⟩
  · show p0 + (t.1 ++ u.1 ++ [2002]).length ≤ k
    rw [List.length_append, List.length_append]
    show p0 + (_ + _ + 1) ≤ k
    omega
  · show p0 + 3 * zct2 (t.1 ++ u.1 ++ [2002]) ≤ k
    rw [zct2_app, zct2_app, show zct2 [2002] = 0 by decide]
    omega
  · show 1 ≤ (t.1 ++ u.1 ++ [2002]).length
    rw [List.length_append]
    exact Nat.le_add_left _ _
theorem ztest_ok : zGf n (ztest T n) := by
  intro p t q h
  unfold ztest at h
  split at h
  · cases h
  · rename_i l hl
    split at h
    · cases h
    · rename_i s hs
      split at h
      · cases h
      · rename_i x hx
        cases h
        have := znum_ok hx
        refine ⟨?_, this.2.2, zok_ts (zlt_ok hl).1 (zsg_ok hs).1 this.1, ?_, Nat.le_refl _⟩
        · show p + 1 ≤ x.2
          omega
        · show p + 3 * ((if nI _ < 2000 then 1 else 0) + 0) ≤ x.2
          split <;> omega
theorem zbl_ok {f : Nat → zRs} (hf : zGf n f) : ∀ (c : Nat) (t : zT) (p p0 : Nat) (u : zT) (q : Nat), zG n p0 t p → zbl T n f c t p = (some u, q) → zG n p0 u q := by
  intro c
  induction c with
  | zero =>
    intro t p p0 u q hg h
    simp only [zbl] at h
    cases h
    exact hg
  | succ c ih =>
    intro t p p0 u q hg h
    simp only [zbl] at h
    split at h
    · split at h
      · rename_i v k hv
        exact ih _ _ _ _ _ (zG_an hg (hf _ _ _ hv)) h
      · cases h
    · cases h
      exact hg
theorem zbo2_ok {f : Nat → zRs} (hf : zGf n f) : zGf n (zbo2 T n f) := by
  intro p t q h
  unfold zbo2 at h
  split at h
  · rename_i v k hv
    exact zbl_ok hf _ _ _ _ _ _ (hf _ _ _ hv) h
  · cases h
theorem zol_ok {f : Nat → zRs} (hf : zGf n f) : ∀ (c : Nat) (t : zT) (p p0 : Nat) (u : zT) (q : Nat), zG n p0 t p → zol T n f c t p = (some u, q) → zG n p0 u q := by
  intro c
  induction c with
  | zero =>
    intro t p p0 u q hg h
    simp only [zol] at h
    cases h
    exact hg
  | succ c ih =>
    intro t p p0 u q hg h
    simp only [zol] at h
    split at h
    · split at h
      · rename_i v k hv
        exact ih _ _ _ _ _ (zG_oo hg (zbo2_ok hf _ _ _ hv)) h
      · cases h
    · cases h
      exact hg
theorem zany_ok {f : Nat → zRs} (hf : zGf n f) : zGf n (zany T n f) := by
  intro p t q h
  unfold zany at h
  split at h
  · rename_i v k hv
    exact zol_ok hf _ _ _ _ _ _ (zbo2_ok hf _ _ _ hv) h
  · cases h
theorem zfac_ok : ∀ r, zGf n (zfac T n r)
  | 0 => ztest_ok
  | r + 1 => by
    intro p t q h
    rw [zfac] at h
    split at h
    · split at h
      · rename_i v k hv
        cases h
        have h2 := zfac_ok r _ _ _ hv
        have a1 := h2.1
        have a2 := h2.2.2.2.1
        refine ⟨?_, h2.2.1, zok_nt h2.2.2.1, ?_, ?_⟩
        · show p + (v.1 ++ [2000]).length ≤ q
          rw [List.length_append]
          show p + (_ + 1) ≤ q
          omega
        · show p + 3 * zct2 (v.1 ++ [2000]) ≤ q
          rw [zct2_app, show zct2 [2000] = 0 by decide]
          omega
        · show 1 ≤ (v.1 ++ [2000]).length
          rw [List.length_append]
          exact Nat.le_add_left _ _
      · cases h
    · split at h
      · split at h
        · rename_i v k hv
          split at h
          · rename_i h9
            cases h
            have h2 := zany_ok (zfac_ok r) _ _ _ hv
            have h3 := zch_lt h9 (by decide)
            have a1 := h2.1
            have a2 := h2.2.2.2.1
            exact ⟨by omega, by omega, h2.2.2.1, by omega, h2.2.2.2.2⟩
          · cases h
        · cases h
      · exact ztest_ok _ _ _ h
end PL
