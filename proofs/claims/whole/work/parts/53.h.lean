/-! WHAT IS TOLD BY HAND -/
theorem zup_rd {m : Nat → Nat → Int32} {k j i : Nat} {v : Int32} (h : ¬ i = j) : zup m k j v k i = m k i := by simp only [zup, if_true, if_neg h]
theorem zup_at {m : Nat → Nat → Int32} {k j : Nat} {v : Int32} : zup m k j v k j = v := by simp only [zup, if_true]
section HN
variable {nv : Nat} {VD : Nat → zV} {NL : Nat → Nat} {n dd : Nat} {vs : List (Nat × Nat)} {mi : Nat → Nat → Int32} {ml : Nat → Nat → Int64} {g : Nat → Nat → Option Nat}
/-- only the hand and the row's numbers from 71 on -/
theorem INV.upH {m : Nat → Nat → Int32} (I : INV nv VD NL n dd vs mi ml g) (h : ∀ b, ¬ (21 ≤ b ∧ b ≤ 28) → ¬ b = 67 → m b = mi b) (hN : ∀ i, i < 71 → m 67 i = mi 67 i) (s : SEr m 21 (m 67) n) (p : PLr m 21 (m 67) n) (k : BKr m 21 (m 67)) : INV nv VD NL n dd vs m ml g := by
  refine I.up (fun b _ p q => h b p q) ?_ I.1.2 s p k
  exact (BR_fr I.1.1 (fun b p q => h b (by omega) (by omega))).row hN
theorem INV.see0 (I : INV nv VD NL n dd vs mi ml g) : INV nv VD NL n dd vs (zup (zup mi 21 0 0) 67 71 0) ml g := by
  have e67 : zup (zup mi 21 0 0) 67 71 0 67 = upd (mi 67) 71 0 := by rw [zup_eq, zup_ne (by decide)]
  have e21 : ∀ f, ¬ f = 0 → zup (zup mi 21 0 0) 67 71 0 21 f = mi 21 f := fun f hf => by rw [zup_ne (by decide), zup_rd hf]
  have eb : ∀ b, ¬ b = 21 → ¬ b = 67 → zup (zup mi 21 0 0) 67 71 0 b = mi b := fun b p q => by rw [zup_ne q, zup_ne p]
  refine I.upH (fun b p q => eb b (by omega) q) (fun i hi => by rw [e67, upd_ne (by omega)]) ?_ ?_ ?_
  · exact ⟨0, Nat.zero_le _, by rw [zup_ne (by decide), zup_at]; rfl, by rw [e67, upd_at]; rfl, fun r hr => absurd hr (by omega)⟩
  · rw [e67]; exact I.2.1.2.1.fr (e21 1 (by decide)) (eb _ (by decide) (by decide)) (eb _ (by decide) (by decide)) (fun i p q => upd_ne (by omega)) (Nat.le_refl _)
  · rw [e67]; exact I.2.1.2.2.fr (e21 2 (by decide)) (eb _ (by decide) (by decide)) (eb _ (by decide) (by decide)) (fun i p q => upd_ne (by omega))
theorem INV.plan0 (I : INV nv VD NL n dd vs mi ml g) : INV nv VD NL n dd vs (zup (zup mi 21 1 0) 67 87 0) ml g := by
  have e67 : zup (zup mi 21 1 0) 67 87 0 67 = upd (mi 67) 87 0 := by rw [zup_eq, zup_ne (by decide)]
  have e21 : ∀ f, ¬ f = 1 → zup (zup mi 21 1 0) 67 87 0 21 f = mi 21 f := fun f hf => by rw [zup_ne (by decide), zup_rd hf]
  have eb : ∀ b, ¬ b = 21 → ¬ b = 67 → zup (zup mi 21 1 0) 67 87 0 b = mi b := fun b p q => by rw [zup_ne q, zup_ne p]
  refine I.upH (fun b p q => eb b (by omega) q) (fun i hi => by rw [e67, upd_ne (by omega)]) ?_ ?_ ?_
  · rw [e67]; exact I.2.1.1.fr (e21 0 (by decide)) (eb _ (by decide) (by decide)) (eb _ (by decide) (by decide)) (eb _ (by decide) (by decide)) (fun i p q => upd_ne (by omega)) (Nat.le_refl _)
  · exact ⟨0, Nat.zero_le _, by rw [zup_ne (by decide), zup_at]; rfl, by rw [e67, upd_at]; rfl, fun r hr => absurd hr (by omega)⟩
  · rw [e67]; exact I.2.1.2.2.fr (e21 2 (by decide)) (eb _ (by decide) (by decide)) (eb _ (by decide) (by decide)) (fun i p q => upd_ne (by omega))
theorem INV.book0 (I : INV nv VD NL n dd vs mi ml g) : INV nv VD NL n dd vs (zup (zup mi 21 2 0) 67 108 0) ml g := by
  have e67 : zup (zup mi 21 2 0) 67 108 0 67 = upd (mi 67) 108 0 := by rw [zup_eq, zup_ne (by decide)]
  have e21 : ∀ f, ¬ f = 2 → zup (zup mi 21 2 0) 67 108 0 21 f = mi 21 f := fun f hf => by rw [zup_ne (by decide), zup_rd hf]
  have eb : ∀ b, ¬ b = 21 → ¬ b = 67 → zup (zup mi 21 2 0) 67 108 0 b = mi b := fun b p q => by rw [zup_ne q, zup_ne p]
  refine I.upH (fun b p q => eb b (by omega) q) (fun i hi => by rw [e67, upd_ne (by omega)]) ?_ ?_ ?_
  · rw [e67]; exact I.2.1.1.fr (e21 0 (by decide)) (eb _ (by decide) (by decide)) (eb _ (by decide) (by decide)) (eb _ (by decide) (by decide)) (fun i p q => upd_ne (by omega)) (Nat.le_refl _)
  · rw [e67]; exact I.2.1.2.1.fr (e21 1 (by decide)) (eb _ (by decide) (by decide)) (eb _ (by decide) (by decide)) (fun i p q => upd_ne (by omega)) (Nat.le_refl _)
  · exact ⟨0, Nat.zero_le _, by rw [zup_ne (by decide), zup_at]; rfl, by rw [e67, upd_at]; rfl, fun r hr => absurd hr (by omega)⟩
theorem INV.see1 {c q t u : Nat} {m : Nat → Nat → Int32} (I : INV nv VD NL n dd vs mi ml g) (hc : mi 21 0 = nI c) (h5 : c < 5) (hq : q < n) (ht : t ≤ 12) (hu : u ≤ 99) (hm : m = zup (zup (zup (zup (zup (zup (zup (zup mi 22 c (nI q)) 23 c (nI t)) 24 c (nI u)) 21 0 (nI (c + 1))) 67 (72 + 3 * c) (nI q)) 67 (73 + 3 * c) (nI t)) 67 (74 + 3 * c) (nI u)) 67 71 (nI (c + 1))) : INV nv VD NL n dd vs m ml g := by
  have e67 : m 67 = upd (upd (upd (upd (mi 67) (72 + 3 * c) (nI q)) (73 + 3 * c) (nI t)) (74 + 3 * c) (nI u)) 71 (nI (c + 1)) := by rw [hm, zup_eq, zup_eq, zup_eq, zup_eq, zup_ne (by decide), zup_ne (by decide), zup_ne (by decide), zup_ne (by decide)]
  have e21 : ∀ f, ¬ f = 0 → m 21 f = mi 21 f := fun f hf => by rw [hm, zup_ne (by decide), zup_ne (by decide), zup_ne (by decide), zup_ne (by decide), zup_rd hf, zup_ne (by decide), zup_ne (by decide), zup_ne (by decide)]
  have e210 : m 21 0 = nI (c + 1) := by rw [hm, zup_ne (by decide), zup_ne (by decide), zup_ne (by decide), zup_ne (by decide), zup_at]
  have eb : ∀ b, ¬ b = 21 → ¬ b = 22 → ¬ b = 23 → ¬ b = 24 → ¬ b = 67 → m b = mi b := fun b p1 p2 p3 p4 q => by rw [hm, zup_ne q, zup_ne q, zup_ne q, zup_ne q, zup_ne p1, zup_ne p4, zup_ne p3, zup_ne p2]
  have e22 : m 22 = upd (mi 22) c (nI q) := by rw [hm, zup_ne (by decide), zup_ne (by decide), zup_ne (by decide), zup_ne (by decide), zup_ne (by decide), zup_ne (by decide), zup_ne (by decide), zup_eq]
  have e23 : m 23 = upd (mi 23) c (nI t) := by rw [hm, zup_ne (by decide), zup_ne (by decide), zup_ne (by decide), zup_ne (by decide), zup_ne (by decide), zup_ne (by decide), zup_eq, zup_ne (by decide)]
  have e24 : m 24 = upd (mi 24) c (nI u) := by rw [hm, zup_ne (by decide), zup_ne (by decide), zup_ne (by decide), zup_ne (by decide), zup_ne (by decide), zup_eq, zup_ne (by decide), zup_ne (by decide)]
  have eN : ∀ i, ¬ i = 71 → ¬ i = 72 + 3 * c → ¬ i = 73 + 3 * c → ¬ i = 74 + 3 * c → m 67 i = mi 67 i := fun i p1 p2 p3 p4 => by rw [e67, upd_ne p1, upd_ne p4, upd_ne p3, upd_ne p2]
  refine I.upH (fun b p q => eb b (by omega) (by omega) (by omega) (by omega) q) (fun i hi => eN i (by omega) (by omega) (by omega) (by omega)) ?_ ?_ ?_
  · obtain ⟨c', a1, a2, a3, a4⟩ := I.2.1.1
    obtain rfl : c' = c := (nI_eq (by omega) (by omega)).mp (a2.symm.trans hc)
    refine ⟨c' + 1, by omega, e210, by rw [e67, upd_at], fun r hr => ?_⟩
    by_cases hrc : r = c'
    · subst hrc
      refine ⟨q, t, u, hq, ht, hu, ?_, ?_, ?_, by rw [show m (21 + 1) = _ from e22, upd_at], by rw [show m (21 + 2) = _ from e23, upd_at], by rw [show m (21 + 3) = _ from e24, upd_at]⟩
      · rw [e67, upd_ne (by omega), upd_ne (by omega), upd_ne (by omega), upd_at]
      · rw [e67, upd_ne (by omega), upd_ne (by omega), upd_at]
      · rw [e67, upd_ne (by omega), upd_at]
    · obtain ⟨q', t', u', b1, b2, b3, b4, b5, b6, b7, b8, b9⟩ := a4 r (by omega)
      exact ⟨q', t', u', b1, b2, b3, by rw [eN _ (by omega) (by omega) (by omega) (by omega)]; exact b4, by rw [eN _ (by omega) (by omega) (by omega) (by omega)]; exact b5, by rw [eN _ (by omega) (by omega) (by omega) (by omega)]; exact b6, by rw [show m (21 + 1) = _ from e22, upd_ne hrc]; exact b7, by rw [show m (21 + 2) = _ from e23, upd_ne hrc]; exact b8, by rw [show m (21 + 3) = _ from e24, upd_ne hrc]; exact b9⟩
  · exact I.2.1.2.1.fr (e21 1 (by decide)) (eb _ (by decide) (by decide) (by decide) (by decide) (by decide)) (eb _ (by decide) (by decide) (by decide) (by decide) (by decide)) (fun i p q => eN i (by omega) (by omega) (by omega) (by omega)) (Nat.le_refl _)
  · exact I.2.1.2.2.fr (e21 2 (by decide)) (eb _ (by decide) (by decide) (by decide) (by decide) (by decide)) (eb _ (by decide) (by decide) (by decide) (by decide) (by decide)) (fun i p q => eN i (by omega) (by omega) (by omega) (by omega))
theorem INV.plan1 {c w : Nat} {y z : Int32} {m : Nat → Nat → Int32} (I : INV nv VD NL n dd vs mi ml g) (hc : mi 21 1 = nI c) (h5 : c < 10) (hw : w ≤ 3) (hyz : w = 0 ∨ ∃ q, q < n ∧ z = nI q ∧ y = nI q) (hm : m = zup (zup (zup (zup (zup (zup mi 25 c (nI w)) 26 c y) 21 1 (nI (c + 1))) 67 (88 + 2 * c) (nI w)) 67 (89 + 2 * c) z) 67 87 (nI (c + 1))) : INV nv VD NL n dd vs m ml g := by
  have e67 : m 67 = upd (upd (upd (mi 67) (88 + 2 * c) (nI w)) (89 + 2 * c) z) 87 (nI (c + 1)) := by rw [hm, zup_eq, zup_eq, zup_eq, zup_ne (by decide), zup_ne (by decide), zup_ne (by decide)]
  have e21 : ∀ f, ¬ f = 1 → m 21 f = mi 21 f := fun f hf => by rw [hm, zup_ne (by decide), zup_ne (by decide), zup_ne (by decide), zup_rd hf, zup_ne (by decide), zup_ne (by decide)]
  have e210 : m 21 1 = nI (c + 1) := by rw [hm, zup_ne (by decide), zup_ne (by decide), zup_ne (by decide), zup_at]
  have eb : ∀ b, ¬ b = 21 → ¬ b = 25 → ¬ b = 26 → ¬ b = 67 → m b = mi b := fun b p1 p2 p3 q => by rw [hm, zup_ne q, zup_ne q, zup_ne q, zup_ne p1, zup_ne p3, zup_ne p2]
  have e25 : m 25 = upd (mi 25) c (nI w) := by rw [hm, zup_ne (by decide), zup_ne (by decide), zup_ne (by decide), zup_ne (by decide), zup_ne (by decide), zup_eq]
  have e26 : m 26 = upd (mi 26) c y := by rw [hm, zup_ne (by decide), zup_ne (by decide), zup_ne (by decide), zup_ne (by decide), zup_eq, zup_ne (by decide)]
  have eN : ∀ i, ¬ i = 87 → ¬ i = 88 + 2 * c → ¬ i = 89 + 2 * c → m 67 i = mi 67 i := fun i p1 p2 p3 => by rw [e67, upd_ne p1, upd_ne p3, upd_ne p2]
  refine I.upH (fun b p q => eb b (by omega) (by omega) (by omega) q) (fun i hi => eN i (by omega) (by omega) (by omega)) ?_ ?_ ?_
  · exact I.2.1.1.fr (e21 0 (by decide)) (eb _ (by decide) (by decide) (by decide) (by decide)) (eb _ (by decide) (by decide) (by decide) (by decide)) (eb _ (by decide) (by decide) (by decide) (by decide)) (fun i p q => eN i (by omega) (by omega) (by omega)) (Nat.le_refl _)
  · obtain ⟨c', a1, a2, a3, a4⟩ := I.2.1.2.1
    obtain rfl : c' = c := (nI_eq (by omega) (by omega)).mp (a2.symm.trans hc)
    refine ⟨c' + 1, by omega, e210, by rw [e67, upd_at], fun r hr => ?_⟩
    by_cases hrc : r = c'
    · subst hrc
      refine ⟨w, hw, ?_, by rw [show m (21 + 4) = _ from e25, upd_at], ?_⟩
      · rw [e67, upd_ne (by omega), upd_ne (by omega), upd_at]
      · rcases hyz with h | ⟨q, h1, h2, h3⟩
        · exact Or.inl h
        · exact Or.inr ⟨q, h1, by rw [e67, upd_ne (by omega), upd_at]; exact h2, by rw [show m (21 + 5) = _ from e26, upd_at]; exact h3⟩
    · obtain ⟨w', b1, b2, b3, b4⟩ := a4 r (by omega)
      refine ⟨w', b1, by rw [eN _ (by omega) (by omega) (by omega)]; exact b2, by rw [show m (21 + 4) = _ from e25, upd_ne hrc]; exact b3, ?_⟩
      rcases b4 with h | ⟨q, h1, h2, h3⟩
      · exact Or.inl h
      · exact Or.inr ⟨q, h1, by rw [eN _ (by omega) (by omega) (by omega)]; exact h2, by rw [show m (21 + 5) = _ from e26, upd_ne hrc]; exact h3⟩
  · exact I.2.1.2.2.fr (e21 2 (by decide)) (eb _ (by decide) (by decide) (by decide) (by decide)) (eb _ (by decide) (by decide) (by decide) (by decide)) (fun i p q => eN i (by omega) (by omega) (by omega))
theorem INV.book1 {c q : Nat} {y : Int32} {m : Nat → Nat → Int32} (I : INV nv VD NL n dd vs mi ml g) (hc : mi 21 2 = nI c) (h5 : c < 8) (hq : q ≤ 7) (hm : m = zup (zup (zup (zup (zup (zup mi 27 c (nI q)) 28 c y) 21 2 (nI (c + 1))) 67 (109 + 2 * c) (nI q)) 67 (110 + 2 * c) y) 67 108 (nI (c + 1))) : INV nv VD NL n dd vs m ml g := by
  have e67 : m 67 = upd (upd (upd (mi 67) (109 + 2 * c) (nI q)) (110 + 2 * c) y) 108 (nI (c + 1)) := by rw [hm, zup_eq, zup_eq, zup_eq, zup_ne (by decide), zup_ne (by decide), zup_ne (by decide)]
  have e21 : ∀ f, ¬ f = 2 → m 21 f = mi 21 f := fun f hf => by rw [hm, zup_ne (by decide), zup_ne (by decide), zup_ne (by decide), zup_rd hf, zup_ne (by decide), zup_ne (by decide)]
  have e210 : m 21 2 = nI (c + 1) := by rw [hm, zup_ne (by decide), zup_ne (by decide), zup_ne (by decide), zup_at]
  have eb : ∀ b, ¬ b = 21 → ¬ b = 27 → ¬ b = 28 → ¬ b = 67 → m b = mi b := fun b p1 p2 p3 q => by rw [hm, zup_ne q, zup_ne q, zup_ne q, zup_ne p1, zup_ne p3, zup_ne p2]
  have e25 : m 27 = upd (mi 27) c (nI q) := by rw [hm, zup_ne (by decide), zup_ne (by decide), zup_ne (by decide), zup_ne (by decide), zup_ne (by decide), zup_eq]
  have e26 : m 28 = upd (mi 28) c y := by rw [hm, zup_ne (by decide), zup_ne (by decide), zup_ne (by decide), zup_ne (by decide), zup_eq, zup_ne (by decide)]
  have eN : ∀ i, ¬ i = 108 → ¬ i = 109 + 2 * c → ¬ i = 110 + 2 * c → m 67 i = mi 67 i := fun i p1 p2 p3 => by rw [e67, upd_ne p1, upd_ne p3, upd_ne p2]
  refine I.upH (fun b p q => eb b (by omega) (by omega) (by omega) q) (fun i hi => eN i (by omega) (by omega) (by omega)) ?_ ?_ ?_
  · exact I.2.1.1.fr (e21 0 (by decide)) (eb _ (by decide) (by decide) (by decide) (by decide)) (eb _ (by decide) (by decide) (by decide) (by decide)) (eb _ (by decide) (by decide) (by decide) (by decide)) (fun i p q => eN i (by omega) (by omega) (by omega)) (Nat.le_refl _)
  · exact I.2.1.2.1.fr (e21 1 (by decide)) (eb _ (by decide) (by decide) (by decide) (by decide)) (eb _ (by decide) (by decide) (by decide) (by decide)) (fun i p q => eN i (by omega) (by omega) (by omega)) (Nat.le_refl _)
  · obtain ⟨c', a1, a2, a3, a4⟩ := I.2.1.2.2
    obtain rfl : c' = c := (nI_eq (by omega) (by omega)).mp (a2.symm.trans hc)
    refine ⟨c' + 1, by omega, e210, by rw [e67, upd_at], fun r hr => ?_⟩
    by_cases hrc : r = c'
    · subst hrc
      refine ⟨q, hq, ?_, by rw [show m (21 + 6) = _ from e25, upd_at], ?_⟩
      · rw [e67, upd_ne (by omega), upd_ne (by omega), upd_at]
      · rw [show m (21 + 7) = _ from e26, upd_at, e67, upd_ne (by omega), upd_at]
    · obtain ⟨q', b1, b2, b3, b4⟩ := a4 r (by omega)
      exact ⟨q', b1, by rw [eN _ (by omega) (by omega) (by omega)]; exact b2, by rw [show m (21 + 6) = _ from e25, upd_ne hrc]; exact b3, by rw [show m (21 + 7) = _ from e26, upd_ne hrc, eN _ (by omega) (by omega) (by omega)]; exact b4⟩
end HN
