/-! A BAND AND A ROW OF THE REFERENCE -/
theorem zsum_congr {f f' : Nat → Int32} : ∀ {n : Nat}, (∀ k, k < n → f k = f' k) → zsum f n = zsum f' n
  | 0, _ => rfl
  | n + 1, h => by rw [zsum, zsum, h n (Nat.lt_succ_self n), zsum_congr (fun k hk => h k (Nat.lt_succ_of_lt hk))]
theorem zor_congr {f f' : Nat → Int32} : ∀ {n : Nat}, (∀ k, k < n → f k = f' k) → zor f n = zor f' n
  | 0, _ => rfl
  | n + 1, h => by rw [zor, zor, h n (Nat.lt_succ_self n), zor_congr (fun k hk => h k (Nat.lt_succ_of_lt hk))]
theorem ztw_congr {f f' : Nat → Int32} : ∀ {n : Nat}, (∀ k, k < n → f k = f' k) → ztw f n = ztw f' n
  | 0, _ => rfl
  | n + 1, h => by rw [ztw, ztw, h n (Nat.lt_succ_self n), ztw_congr (fun k hk => h k (Nat.lt_succ_of_lt hk)), zor_congr (fun k hk => h k (Nat.lt_succ_of_lt hk))]
theorem strU_congr {u u' : Nat → Nat → Int32} {n dd i : Nat} {S S' : Int32} (h : ∀ k, k < n → ∀ f, f < 10 → u k f = u' k f) (hi : i < n) (hS : S = S') : strU u n dd S i = strU u' n dd S' i := by
  subst hS
  have hs : zsum (shrF (fun k => u k 4) (fun k => u k 2) i) n = zsum (shrF (fun k => u' k 4) (fun k => u' k 2) i) n := by
    apply zsum_congr
    intro k hk
    simp only [shrF, h k hk 4 (by decide), h k hk 2 (by decide), h i hi 2 (by decide)]
  unfold strU
  rw [hs, h i hi 0 (by decide), h i hi 1 (by decide), h i hi 2 (by decide), h i hi (6 + dd % 4) (by omega)]
theorem nmU_congr {u u' : Nat → Nat → Int32} {dd i : Nat} (h : ∀ f, f < 10 → u i f = u' i f) : nmU u dd i = nmU u' dd i := by
  funext f
  unfold nmU
  rw [h 0 (by decide), h 1 (by decide), h 2 (by decide), h 3 (by decide)]
/-- which village holds, on both sides -/
def hRel (nv : Nat) (h : Option Nat) (ρ : Int32) : Prop := (h = none ∧ ρ = 0) ∨ ∃ k, k < nv ∧ h = some (86 + 2 * k) ∧ ρ = nI (k + 1)
/-- what the numbers of a row can be -/
def rOK (N : Nat → Int32) (n dd : Nat) : Prop := N 68 = nI n ∧ n ≤ 6 ∧ N 69 = nI dd ∧ (∀ p, p < 8 → ∃ q, q ≤ 99 ∧ N p = nI q) ∧ ∀ k, k < n → (∃ q, q ≤ 6 ∧ uN N k 0 = nI q) ∧ (∃ q, q ≤ 9 ∧ uN N k 1 = nI q) ∧ (∃ q, q < 256 ∧ uN N k 2 = nI q) ∧ (∃ q, q ≤ 99 ∧ uN N k 3 = nI q) ∧ (∃ q, q ≤ 1 ∧ uN N k 4 = nI q) ∧ (∃ q, q ≤ dd ∧ uN N k 5 = nI q) ∧ ∀ d, d < 4 → ∃ q, q ≤ 9 ∧ uN N k (6 + d) = nI q
/-- the band at a shows the row N -/
def BR (mi : Nat → Nat → Int32) (a : Nat) (h : Option Nat) (nv : Nat) (N : Nat → Int32) (n dd : Nat) : Prop :=
  rOK N n dd ∧ mi a 0 = nI n ∧ mi a 1 = nI dd ∧ (∀ p, p < 8 → mi (a + 1) p = N p) ∧ (∀ k, k < n → ∀ f, f < 10 → uB mi a k f = uN N k f) ∧ (∀ k, n ≤ k → k < 32 → bt (mi a 2) k = false) ∧ hRel nv h (N 70)
/-- the villages mean the same on both sides -/
def vSem (nv : Nat) (X : Nat → Nat → Int32) (wg : Nat → (Nat → Int32) → Int32) (sm : Int32 → (Nat → Int32) → Int32) (an : Int32 → Int32) : Prop := ∀ h ρ, hRel nv h ρ → (∀ nm, smB wg h nm = sm ρ nm) ∧ anB X h = an ρ ∧ ∃ q, q ≤ 99 ∧ an ρ = nI q
theorem fadeV_ok (m s : Int32) : ∃ q, q ≤ 99 ∧ fadeV m s = nI q := by
  show ∃ q, q ≤ 99 ∧ (if 0 < (if m - s < 99 then m - s else 99) then (if m - s < 99 then m - s else 99) else 0) = nI q
  by_cases h2 : m - s < 99
  · rw [if_pos h2]
    by_cases h : 0 < m - s
    · rw [if_pos h]
      obtain ⟨j, hj, e⟩ := nI_of2 (x := m - s) (M := 99) (n := 99) (by decide) (Int32.not_lt.mpr (Int32.le_of_lt h)) (Int32.le_of_lt h2)
      exact ⟨j, hj, e⟩
    · rw [if_neg h]
      exact ⟨0, Nat.zero_le _, rfl⟩
  · rw [if_neg h2, if_pos (by decide)]
    exact ⟨99, Nat.le_refl _, rfl⟩
theorem held_less : ∀ q, q < 256 → ∃ p, p < 256 ∧ nI q &&& (nI q - 1) = nI p := by
  have h : ∀ q : Fin 256, nI q.val &&& (nI q.val - 1) = nI (q.val &&& (q.val - 1)) := by decide +kernel
  intro q hq
  exact ⟨q &&& (q - 1), Nat.lt_of_le_of_lt Nat.and_le_left hq, h ⟨q, hq⟩⟩
theorem dayN_u {sm : Int32 → (Nat → Int32) → Int32} {an : Int32 → Int32} {N : Nat → Int32} {n dd k f : Nat} (hk : k < n) (h6 : n ≤ 6) (hf : f < 10) : uN (dayN sm an N n dd) k f = dayU (uN N) (strN sm N n dd) (an (N 70)) k f := by
  show upd _ 69 _ (8 + 10 * k + f) = _
  simp only [upd, if_neg (show ¬ 8 + 10 * k + f = 69 by omega)]
  unfold dayR
  rw [if_pos (by omega), show (8 + 10 * k + f - 8) / 10 = k by omega, show (8 + 10 * k + f - 8) % 10 = f by omega]
theorem rOK_day {sm : Int32 → (Nat → Int32) → Int32} {an : Int32 → Int32} {N : Nat → Int32} {n dd : Nat} (h : rOK N n dd) (ha : ∃ q, q ≤ 99 ∧ an (N 70) = nI q) : rOK (dayN sm an N n dd) n (dd + 1) := by
  obtain ⟨h68, h6, h69, hst, hs⟩ := h
  refine ⟨by rw [dayN_70 h6 (by omega) (by omega)]; exact h68, h6, dayN_69, fun p hp => by rw [dayN_70 h6 (by omega) (by omega)]; exact hst p hp, fun k hk => ?_⟩
  obtain ⟨a0, a1, ⟨q2, b2, c2⟩, a3, a4, ⟨q5, b5, c5⟩, a6⟩ := hs k hk
  by_cases h4 : uN N k 4 = 0
  · by_cases hc : fadeV (uN N k 3) (strN sm N n dd k) = 0 ∧ ¬ uN N k 2 = 0
    · obtain ⟨d2, d3, d5⟩ := dayU_y (ag := an (N 70)) h4 hc
      have rest : ∀ f, ¬ f = 2 → ¬ f = 3 → ¬ f = 5 → dayU (uN N) (strN sm N n dd) (an (N 70)) k f = uN N k f := by
        intro f p q r
        unfold dayU
        rw [if_pos h4, if_pos hc, if_neg p, if_neg q, if_neg r]
      refine ⟨?_, ?_, ?_, ?_, ?_, ?_, fun d hd => ?_⟩
      · rw [dayN_u hk h6 (by decide), rest 0 (by decide) (by decide) (by decide)]; exact a0
      · rw [dayN_u hk h6 (by decide), rest 1 (by decide) (by decide) (by decide)]; exact a1
      · rw [dayN_u hk h6 (by decide), d2, c2]; exact held_less q2 b2
      · rw [dayN_u hk h6 (by decide), d3]; exact ha
      · rw [dayN_u hk h6 (by decide), rest 4 (by decide) (by decide) (by decide)]; exact a4
      · rw [dayN_u hk h6 (by decide), d5, c5, nI_1]; exact ⟨q5 + 1, by omega, rfl⟩
      · rw [dayN_u hk h6 (by omega), rest (6 + d) (by omega) (by omega) (by omega)]; exact a6 d hd
    · obtain ⟨d2, d3, d5⟩ := dayU_n (ag := an (N 70)) h4 hc
      have rest : ∀ f, ¬ f = 3 → dayU (uN N) (strN sm N n dd) (an (N 70)) k f = uN N k f := by
        intro f q
        unfold dayU
        rw [if_pos h4, if_neg hc, if_neg q]
      refine ⟨?_, ?_, ?_, ?_, ?_, ?_, fun d hd => ?_⟩
      · rw [dayN_u hk h6 (by decide), rest 0 (by decide)]; exact a0
      · rw [dayN_u hk h6 (by decide), rest 1 (by decide)]; exact a1
      · rw [dayN_u hk h6 (by decide), d2]; exact ⟨q2, b2, c2⟩
      · rw [dayN_u hk h6 (by decide), d3]; exact fadeV_ok _ _
      · rw [dayN_u hk h6 (by decide), rest 4 (by decide)]; exact a4
      · rw [dayN_u hk h6 (by decide), d5]; exact ⟨q5, by omega, c5⟩
      · rw [dayN_u hk h6 (by omega), rest (6 + d) (by omega)]; exact a6 d hd
  · refine ⟨?_, ?_, ?_, ?_, ?_, ?_, fun d hd => ?_⟩
    · rw [dayN_u hk h6 (by decide), dayU_a _ h4]; exact a0
    · rw [dayN_u hk h6 (by decide), dayU_a _ h4]; exact a1
    · rw [dayN_u hk h6 (by decide), dayU_a _ h4]; exact ⟨q2, b2, c2⟩
    · rw [dayN_u hk h6 (by decide), dayU_a _ h4]; exact a3
    · rw [dayN_u hk h6 (by decide), dayU_a _ h4]; exact a4
    · rw [dayN_u hk h6 (by decide), dayU_a _ h4]; exact ⟨q5, by omega, c5⟩
    · rw [dayN_u hk h6 (by omega), dayU_a _ h4]; exact a6 d hd
theorem dayU_rest {u : Nat → Nat → Int32} {s : Nat → Int32} {ag : Int32} {k f : Nat} (h2 : ¬ f = 2) (h3 : ¬ f = 3) (h5 : ¬ f = 5) : dayU u s ag k f = u k f := by
  unfold dayU
  rw [if_neg h2, if_neg h3, if_neg h5, if_neg h3]
  split
  · split <;> rfl
  · rfl
/-- the class's day is the reference's -/
theorem BR_day {mi m : Nat → Nat → Int32} {a nv : Nat} {h : Option Nat} {N : Nat → Int32} {n dd : Nat} {X : Nat → Nat → Int32} {wg : Nat → (Nat → Int32) → Int32} {sm : Int32 → (Nat → Int32) → Int32} {an : Int32 → Int32} (V : vSem nv X wg sm an) (B : BR mi a h nv N n dd)
    (k1 : ∀ b, ¬ b = a → ¬ b = a + 4 → ¬ b = a + 5 → ¬ b = a + 6 → ¬ b = a + 8 → ¬ b = a + 9 → m b = mi b) (k2 : ∀ f, ¬ f = 1 → m a f = mi a f) (k3 : m a 1 = nI (dd + 1))
    (k4 : ∀ k, k < n → m (a + 4) k = dayU (uB mi a) (fun k => strU (uB mi a) n dd (smB wg h (nmU (uB mi a) dd k)) k) (anB X h) k 2) (k5 : ∀ k, k < n → m (a + 5) k = dayU (uB mi a) (fun k => strU (uB mi a) n dd (smB wg h (nmU (uB mi a) dd k)) k) (anB X h) k 3) (k6 : ∀ k, k < n → m (a + 6) k = dayU (uB mi a) (fun k => strU (uB mi a) n dd (smB wg h (nmU (uB mi a) dd k)) k) (anB X h) k 5) :
    BR m a h nv (dayN sm an N n dd) n (dd + 1) := by
  obtain ⟨hr, hn, hd, hst, hu, hab, hh⟩ := B
  obtain ⟨v1, v2, v3⟩ := V h _ hh
  have h6 := hr.2.1
  have key : ∀ k, k < n → ∀ f, f < 10 → dayU (uB mi a) (fun k => strU (uB mi a) n dd (smB wg h (nmU (uB mi a) dd k)) k) (anB X h) k f = dayU (uN N) (strN sm N n dd) (an (N 70)) k f := by
    intro k hk f hf
    rw [v2]
    refine dayU_congr (hu k hk 2 (by decide)) (hu k hk 3 (by decide)) (hu k hk 4 (by decide)) (hu k hk 5 (by decide)) (hu k hk f hf) (fun _ => ?_)
    show strU _ _ _ _ _ = strU _ _ _ _ _
    refine strU_congr hu hk ?_
    rw [v1, nmU_congr (u := uB mi a) (u' := uN N) (fun f hf => hu k hk f hf)]
  refine ⟨rOK_day hr v3, by rw [k2 0 (by decide)]; exact hn, k3, fun p hp => ?_, fun k hk f hf => ?_, fun k h1 h2 => ?_, ?_⟩
  · rw [k1 (a + 1) (by omega) (by omega) (by omega) (by omega) (by omega) (by omega), dayN_70 h6 (by omega) (by omega)]
    exact hst p hp
  · rw [dayN_u hk h6 hf, ← key k hk f hf]
    rcases (show f = 0 ∨ f = 1 ∨ f = 2 ∨ f = 3 ∨ f = 4 ∨ f = 5 ∨ ∃ d, d < 4 ∧ f = 6 + d from by
      rcases (show f < 6 ∨ 6 ≤ f by omega) with g | g
      · omega
      · exact Or.inr (Or.inr (Or.inr (Or.inr (Or.inr (Or.inr ⟨f - 6, by omega, by omega⟩)))))) with rfl | rfl | rfl | rfl | rfl | rfl | ⟨d, hd4, rfl⟩
    · rw [dayU_rest (by decide) (by decide) (by decide)]
      show m (a + 2) k = mi (a + 2) k
      rw [k1 (a + 2) (by omega) (by omega) (by omega) (by omega) (by omega) (by omega)]
    · rw [dayU_rest (by decide) (by decide) (by decide)]
      show m (a + 3) k = mi (a + 3) k
      rw [k1 (a + 3) (by omega) (by omega) (by omega) (by omega) (by omega) (by omega)]
    · exact k4 k hk
    · exact k5 k hk
    · rw [dayU_rest (by decide) (by decide) (by decide)]
      show awB m a k = awB mi a k
      simp only [awB, k2 2 (by decide)]
    · exact k6 k hk
    · rw [dayU_rest (by omega) (by omega) (by omega), uB_row, uB_row, k1 (a + 7) (by omega) (by omega) (by omega) (by omega) (by omega) (by omega)]
  · rw [k2 2 (by decide)]; exact hab k h1 h2
  · rw [dayN_70 h6 (by omega) (by omega)]; exact hh
