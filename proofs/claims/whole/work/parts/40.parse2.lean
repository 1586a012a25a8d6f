/-! WHAT A CLAUSE AND A VILLAGE COME TO -/
def zcok (c : zC) : Prop := (∀ nm s, wrn nm c.1 (s, 0) = (s + c.2.1 nm, 0)) ∧ (∀ x, x ∈ c.1 → zvx x) ∧ ∀ v, c.2.2 = some v → v ≤ 99
def zVok (V : zV) (p : Nat) : Prop := (∀ nm s, wrn nm V.1 (s, 0) = (s + V.2.1 nm, 0)) ∧ (∀ x, x ∈ V.1 → zvx x) ∧ V.2.2 ≤ 99 ∧ V.1.length ≤ p ∧ 3 * zct2 V.1 ≤ p
theorem wfin : ∀ v, v ≤ 99 → (¬ 3000 + nI v < 2000 ∧ ¬ 3000 + nI v = 2000 ∧ ¬ 3000 + nI v = 2001 ∧ ¬ 3000 + nI v = 2002 ∧ ¬ 4000 ≤ 3000 + nI v ∧ 3000 + nI v - 3000 = nI v) ∧ (¬ 4000 + nI v < 2000 ∧ ¬ 4000 + nI v = 2000 ∧ ¬ 4000 + nI v = 2001 ∧ ¬ 4000 + nI v = 2002 ∧ 4000 ≤ 4000 + nI v ∧ 4000 - (4000 + nI v) = -nI v) := by
  have h : ∀ v : Fin 100, (¬ 3000 + nI v.val < 2000 ∧ ¬ 3000 + nI v.val = 2000 ∧ ¬ 3000 + nI v.val = 2001 ∧ ¬ 3000 + nI v.val = 2002 ∧ ¬ 4000 ≤ 3000 + nI v.val ∧ 3000 + nI v.val - 3000 = nI v.val) ∧ (¬ 4000 + nI v.val < 2000 ∧ ¬ 4000 + nI v.val = 2000 ∧ ¬ 4000 + nI v.val = 2001 ∧ ¬ 4000 + nI v.val = 2002 ∧ 4000 ≤ 4000 + nI v.val ∧ 4000 - (4000 + nI v.val) = -nI v.val) := by decide +kernel
  intro v hv
  exact h ⟨v, by omega⟩
theorem zcok_hd {v : Nat} {t : zT} (hv : v ≤ 99) (h : zok t) : zcok (zHd v t) := by
  obtain ⟨a1, a2, a3, a4, a5, a6⟩ := (wfin v hv).1
  refine ⟨fun nm s => ?_, fun x hx => ?_, fun w hw => by cases hw⟩
  · show wrn nm (t.1 ++ [3000 + nI v]) (s, 0) = (s + (if t.2 nm = true then nI v else 0), 0)
    rw [wrn_app, h.1]
    show wst nm (s, _) (3000 + nI v) = _
    unfold wst
    rw [if_neg a1, if_neg a2, if_neg a3, if_neg a4, if_neg a5, a6]
    cases t.2 nm
    · simp [zbn]
    · simp [zbn]
  · rcases List.mem_append.mp hx with h1 | h1
    · exact h.2 x h1
    · rcases List.mem_singleton.mp h1 with rfl
      exact Or.inr a1
theorem zcok_es {v : Nat} {t : zT} (hv : v ≤ 99) (h : zok t) : zcok (zEs v t) := by
  obtain ⟨a1, a2, a3, a4, a5, a6⟩ := (wfin v hv).2
  refine ⟨fun nm s => ?_, fun x hx => ?_, fun w hw => by cases hw⟩
  · show wrn nm (t.1 ++ [4000 + nI v]) (s, 0) = (s + (if t.2 nm = true then -nI v else 0), 0)
    rw [wrn_app, h.1]
    show wst nm (s, _) (4000 + nI v) = _
    unfold wst
    rw [if_neg a1, if_neg a2, if_neg a3, if_neg a4, if_pos a5, a6]
    cases t.2 nm
    · simp [zbn]
    · simp [zbn]
  · rcases List.mem_append.mp hx with h1 | h1
    · exact h.2 x h1
    · rcases List.mem_singleton.mp h1 with rfl
      exact Or.inr a1
section PL2
variable {T : Nat → Int32} {n : Nat}
theorem zwn_ok {L : List Int32} {p v q : Nat} (hL : ∀ c, c ∈ L → ¬ c = -1) (hp : p ≤ n) (h : zwn T n L p = (some v, q)) : v ≤ 99 ∧ p + 1 ≤ q ∧ q ≤ n := by
  unfold zwn at h
  split at h
  · cases h
  · rename_i k hk
    have h1 := zwd_le _ _ _ hL hp hk
    split at h
    · cases h
    · rename_i x hx
      cases h
      have := znum_ok hx
      omega
theorem zhe_ok {mk : Nat → zT → zC} {L : List Int32} {c0 : Int32} {p q : Nat} {c : zC} (hmk : ∀ v t, v ≤ 99 → zok t → zcok (mk v t)) (hst : ∀ v t, (mk v t).1 = t.1 ++ [c0 + nI v]) (hc0 : ∀ v, v ≤ 99 → ¬ c0 + nI v < 2000) (hL : ∀ c, c ∈ L → ¬ c = -1) (hp : p ≤ n) (h : zhe T n mk L p = (some c, q)) : p + c.1.length + 1 ≤ q ∧ q ≤ n ∧ zcok c ∧ p + 3 * zct2 c.1 ≤ q := by
  unfold zhe at h
  split at h
  · cases h
  · rename_i v k hv
    have h1 := zwn_ok hL hp hv
    split at h
    · split at h
      · rename_i t e ht
        cases h
        have h2 := zany_ok (zfac_ok 4) _ _ _ ht
        have b1 := h2.1
        have b2 := h2.2.2.2.1
        refine ⟨?_, h2.2.1, hmk v t h1.1 h2.2.2.1, ?_⟩
        · rw [hst, List.length_append]
          show p + (_ + 1) + 1 ≤ q
          omega
        · rw [hst, zct2_app, show zct2 [c0 + nI v] = 0 from by simp only [zct2, if_neg (hc0 v h1.1)]]
          omega
      · cases h
    · cases h
theorem zcla_ok {p q : Nat} {c : zC} (hp : p ≤ n) (h : zcla T n p = (some c, q)) : p + c.1.length + 1 ≤ q ∧ q ≤ n ∧ zcok c ∧ p + 3 * zct2 c.1 ≤ q := by
  unfold zcla at h
  split at h
  · exact zhe_ok (c0 := 3000) (fun v t => zcok_hd) (fun _ _ => rfl) (fun v hv => (wfin v hv).1.1) (by decide) hp h
  · split at h
    · exact zhe_ok (c0 := 4000) (fun v t => zcok_es) (fun _ _ => rfl) (fun v hv => (wfin v hv).2.1) (by decide) hp h
    · split at h
      · cases h
      · rename_i v k hv
        cases h
        have h1 := zwn_ok (by decide) hp hv
        refine ⟨h1.2.1, h1.2.2, ⟨fun nm s => ?_, fun x hx => (by cases hx), fun w hw => ?_⟩, ?_⟩
        · show (s, 0) = (s + 0, 0)
          rw [Int32.add_zero]
        · cases hw
          exact h1.1
        · show p + 3 * 0 ≤ q
          omega
theorem zad_ok {V : zV} {c : zC} {p q : Nat} (hV : zVok V p) (h1 : p + c.1.length + 1 ≤ q) (h3 : zcok c) (h4 : p + 3 * zct2 c.1 ≤ q) : zVok (zad V c) q ∧ (zad V c).1.length < q := by
  obtain ⟨v1, v2, v3, v4, v5⟩ := hV
  have hl : (zad V c).1.length < q := by
    show (V.1 ++ c.1).length < q
    rw [List.length_append]
    omega
  refine ⟨⟨fun nm s => ?_, fun x hx => ?_, ?_, Nat.le_of_lt hl, ?_⟩, hl⟩
  · show wrn nm (V.1 ++ c.1) (s, 0) = (s + (V.2.1 nm + c.2.1 nm), 0)
    rw [wrn_app, v1, h3.1, Int32.add_assoc]
  · rcases List.mem_append.mp hx with g | g
    · exact v2 x g
    · exact h3.2.1 x g
  · show c.2.2.getD V.2.2 ≤ 99
    cases hc : c.2.2 with
    | none => exact v3
    | some v => exact h3.2.2 v hc
  · show 3 * zct2 (V.1 ++ c.1) ≤ q
    rw [zct2_app]
    omega
/-- a village that was read -/
theorem zcsa_ok : ∀ (k : Nat) (V : zV) (p : Nat) (U : zV) (q : Nat), p ≤ n → zVok V p → zcsa T n k V p = (some U, q) → zVok U n ∧ U.1.length < n ∧ q = n
  | 0, V, p, U, q, hp, hV, h => by cases h
  | k + 1, V, p, U, q, hp, hV, h => by
    rw [zcsa] at h
    split at h
    · cases h
    · rename_i c e hc
      have h1 := zcla_ok hp hc
      have h2 := zad_ok hV h1.1 h1.2.2.1 h1.2.2.2
      split at h
      · rename_i he
        cases h
        rw [he] at h2
        exact ⟨h2.1, h2.2, he⟩
      · split at h
        · cases h
        · split at h
          · rename_i h9
            have := zch_lt h9 (by decide)
            refine zcsa_ok k _ (e + 1) U q this ?_ h
            obtain ⟨w1, w2, w3, w4, w5⟩ := h2.1
            exact ⟨w1, w2, w3, by omega, by omega⟩
          · cases h
end PL2
