/-! THE START -/
theorem zrt_len : ∀ a, a < 86 → (zrt[a]?.getD []).length ≤ 29 := by decide +kernel
theorem zmr_self {g : Nat → Nat → Option Nat} (h : ∀ a, a < 86 → ∀ f, f < 30 → zmr g a f = g a f) : zmr g = g := by
  funext a f
  by_cases ha : a < 86
  · by_cases hf : f < 30
    · exact h a ha f hf
    · unfold zmr
      cases hl : zrt[a]? with
      | none => rfl
      | some l =>
        have hlen := zrt_len a ha
        rw [hl] at hlen
        dsimp only
        rw [List.getElem?_eq_none (by show l.length ≤ f; have : l.length ≤ 29 := hlen; omega)]
  · exact zmr_hi (by omega)
set_option maxRecDepth 20000 in
theorem mr_0 : ∀ a, a < 86 → ∀ f, f < 30 → zmr zzR_62 a f = zzR_62 a f := by decide +kernel
set_option maxRecDepth 20000 in
theorem tp_0 : ∀ t, t < 6 → zzI_101 (54 + 2 * t) 1 = 0 ∧ zzI_101 83 t = 0 ∧ zzI_101 (54 + 2 * t) 0 = -1 ∧ zzI_101 82 t = -1 := by decide +kernel
set_option maxRecDepth 20000 in
theorem tl_0 : ∀ t, t < 6 → ∀ j, j < 60 → zzL_55 (55 + 2 * t) j = zzL_55 84 (60 * t + j) := by decide +kernel
set_option maxRecDepth 20000 in
theorem st_0 : ∀ p, p < 8 → zzI_101 67 p = 10 ∧ zzI_101 2 p = 10 := by decide +kernel
set_option maxRecDepth 20000 in
theorem nu_0 : (zzI_101 67 68 = 0 ∧ zzI_101 67 69 = 0 ∧ zzI_101 67 70 = 0 ∧ zzI_101 67 71 = 0 ∧ zzI_101 67 87 = 0 ∧ zzI_101 67 108 = 0) ∧ (zzI_101 1 0 = 0 ∧ zzI_101 1 1 = 0 ∧ zzI_101 1 2 = 0 ∧ zzI_101 21 0 = 0 ∧ zzI_101 21 1 = 0 ∧ zzI_101 21 2 = 0) ∧ (zzI_101 0 4 = 0 ∧ zzI_101 66 3 = 0 ∧ zzI_101 48 0 = 0 ∧ zzI_101 66 5 = 0 ∧ zzI_101 0 7 = 0 ∧ zzI_101 66 8 = 0 ∧ zzI_101 51 1 = 0 ∧ zzI_101 66 24 = 0) ∧ zzR_62 1 3 = none := by decide +kernel
set_option maxRecDepth 20000 in
theorem kc_0 : kC zzI_101 := by
  unfold kC
  decide +kernel
set_option maxRecDepth 20000 in
theorem ab_0 : (∀ k, k < 7 → zzI_101 79 k = zab9.getD k 0) ∧ ∀ k, k < 21 → zzI_101 80 k = zbo.getD k 0 := by decide +kernel
theorem INV_0 : INV 0 (fun _ => ([], fun _ => 0, 50)) (fun _ => 0) 0 0 [] zzI_101 zzL_55 zzR_62 := by
  obtain ⟨⟨a1, a2, a3, a4, a5, a6⟩, ⟨b1, b2, b3, b4, b5, b6⟩, ⟨c1, c2, c3, c4, c5, c6, c7, c8⟩, d1⟩ := nu_0
  refine ⟨⟨⟨⟨a1, by omega, a2, fun p hp => ⟨10, by omega, (st_0 p hp).1⟩, fun k hk => absurd hk (Nat.not_lt_zero k)⟩, b1, b2, fun p hp => (st_0 p hp).2.trans (st_0 p hp).1.symm, fun k hk => absurd hk (Nat.not_lt_zero k), fun k _ _ => by rw [b3, b_0], Or.inl ⟨d1, a3⟩⟩, by omega⟩, ⟨⟨0, by omega, b4, a4, fun r hr => absurd hr (Nat.not_lt_zero r)⟩, ⟨0, by omega, b5, a5, fun r hr => absurd hr (Nat.not_lt_zero r)⟩, ⟨0, by omega, b6, a6, fun r hr => absurd hr (Nat.not_lt_zero r)⟩⟩, Or.inl ⟨c1, c2⟩, ⟨0, by omega, c3, c4, fun r hr => absurd hr (Nat.not_lt_zero r)⟩, ⟨by omega, c5, c6, fun k hk => absurd hk (Nat.not_lt_zero k), rfl, fun k hk => absurd hk (Nat.not_lt_zero k)⟩, ⟨0, by omega, c7, c8, fun r hr => absurd hr (Nat.not_lt_zero r)⟩, fun t ht => ?_, kc_0, ab_0.1, ab_0.2⟩
  obtain ⟨t1, t2, t3, t4⟩ := tp_0 t ht
  exact ⟨0, by omega, t1, t2, t3.trans t4.symm, Or.inl ⟨t4, rfl⟩, fun j hj => tl_0 t ht j hj⟩
theorem zsl_le {M : Nat} : ∀ (vs : List (Nat × Nat)), (∀ q, q ∈ vs → q.2 ≤ M) → zsl vs ≤ vs.length * M
  | [], _ => by simp [zsl]
  | q :: vs, h => by
    have ih := zsl_le vs (fun p hp => h p (List.mem_cons_of_mem _ hp))
    have h1 := h q (List.mem_cons_self ..)
    have e : zsl (q :: vs) = q.2 + zsl vs := by simp [zsl]
    rw [e, List.length_cons, Nat.succ_mul]
    omega
theorem zsl_two (a b : List (Nat × Nat)) : zsl (a ++ b) = zsl a + zsl b := by simp [zsl]
theorem INVx.room {w : zW} (h : INVx w) : w.1.length ≤ 600000 ∧ zsl w.1 ≤ 7302250 := by
  obtain ⟨nv, VD, NL, n, dd, vs, mi, ml, g, rfl, I⟩ := h
  obtain ⟨h6, -, -, -, h5, hv⟩ := I.2.2.2.2.1
  have hz : ∀ q, q ∈ vs → q.2 ≤ 100 := by
    intro q hq
    obtain ⟨j, hj, e⟩ := List.getElem_of_mem hq
    have e2 : vs[j]? = some q := by rw [List.getElem?_eq_getElem hj, e]
    rcases (show (∃ k, k < nv ∧ j = 2 * k) ∨ ∃ k, k < nv ∧ j = 2 * k + 1 from by
      rcases Nat.mod_two_eq_zero_or_one j with z | z
      · exact Or.inl ⟨j / 2, by omega, by omega⟩
      · exact Or.inr ⟨j / 2, by omega, by omega⟩) with ⟨k, hk, rfl⟩ | ⟨k, hk, rfl⟩
    · rw [(hv k hk).1] at e2
      cases e2
      show 2 ≤ 100
      decide
    · rw [(hv k hk).2.1] at e2
      cases e2
      have := I.vd hk
      show (VD k).1.length ≤ 100
      omega
  have hs := zsl_le vs hz
  refine ⟨?_, ?_⟩
  · rw [zsh_len]; omega
  · rw [zsl_two, show zsl zsh = 2735 from by decide +kernel]
    omega
theorem zrun : zRun := by
  intro L xs hL
  have W0 : Wp (L, xs) 40 pg_L_law 0 [(0, .ref 500)] [] zw0 (fun r w' => r = some (.int 1) ∧ INVx w') := by
    refine zin_law ?_
    exact lw_loop hL 512 0 _ (by omega) (by omega) ⟨0, _, _, 0, 0, [], _, _, _, by rw [zmr_self mr_0, List.append_nil], INV_0⟩
  obtain ⟨r, w', ⟨n, hn⟩, rfl, hI⟩ := W0
  exact ⟨n, w', hn, hI.room⟩
