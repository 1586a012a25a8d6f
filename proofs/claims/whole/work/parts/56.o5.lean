/-! THE CALLS: singer, image, undo -/
/-- as SIM.u, but the memory between is known by a property alone -/
theorem SIM.g {E : zEn} {vs : List (Nat × Nat)} {mi : Nat → Nat → Int32} {ml : Nat → Nat → Int64} {g : Nat → Nat → Option Nat} {pc pm : List zI} {as : List Value} {dc dm : Nat} (Q : Int32 → List (Nat × Nat) → (Nat → Nat → Int32) → (Nat → Nat → Int64) → (Nat → Nat → Option Nat) → Prop) (hc : dc ≤ 30) (hm : dm ≤ 30)
    (h1 : Wp E dc pc 0 (lv_args 0 (.ref 0 :: as)) [] (zsh ++ vs, mi, ml, zmr g) (fun r w' => ∃ x, r = some (.int x) ∧ ∃ vs1 m1 l1 g1, w' = (zsh ++ vs1, m1, l1, zmr g1) ∧ Q x vs1 m1 l1 g1))
    (h2 : ∀ x vs1 m1 l1 g1, Q x vs1 m1 l1 g1 → Wp E dm pm 0 (lv_args 0 (.ref 66 :: as)) [] (zsh ++ vs1, m1, l1, zmr g1) (fun r w' => r = some (.int x) ∧ INVx w')) : SIM E vs mi ml g pc pm as := by
  refine (h1.deep hc).weak ?_
  rintro _ _ ⟨x, rfl, vs1, m1, l1, g1, rfl, hq⟩
  exact ⟨⟨_, _, _, _, rfl⟩, x, rfl, (h2 x vs1 m1 l1 g1 hq).deep hm⟩
theorem SIML.g {E : zEn} {vs : List (Nat × Nat)} {mi : Nat → Nat → Int32} {ml : Nat → Nat → Int64} {g : Nat → Nat → Option Nat} {pc pm : List zI} {as : List Value} {dc dm : Nat} (Q : Int64 → List (Nat × Nat) → (Nat → Nat → Int32) → (Nat → Nat → Int64) → (Nat → Nat → Option Nat) → Prop) (hc : dc ≤ 30) (hm : dm ≤ 30)
    (h1 : Wp E dc pc 0 (lv_args 0 (.ref 0 :: as)) [] (zsh ++ vs, mi, ml, zmr g) (fun r w' => ∃ x, r = some (.long x) ∧ ∃ vs1 m1 l1 g1, w' = (zsh ++ vs1, m1, l1, zmr g1) ∧ Q x vs1 m1 l1 g1))
    (h2 : ∀ x vs1 m1 l1 g1, Q x vs1 m1 l1 g1 → Wp E dm pm 0 (lv_args 0 (.ref 66 :: as)) [] (zsh ++ vs1, m1, l1, zmr g1) (fun r w' => r = some (.long x) ∧ INVx w')) : SIML E vs mi ml g pc pm as := by
  refine (h1.deep hc).weak ?_
  rintro _ _ ⟨x, rfl, vs1, m1, l1, g1, rfl, hq⟩
  exact ⟨⟨_, _, _, _, rfl⟩, x, rfl, (h2 x vs1 m1 l1 g1 hq).deep hm⟩
theorem c_hbecome_29_21 {E : zEn} {vs : List (Nat × Nat)} {mi : Nat → Nat → Int32} {ml : Nat → Nat → Int64} {g : Nat → Nat → Option Nat}  : Wp E 0 pg_Hand_become 0 (lv_args 0 [.ref 29, .ref 21]) [] (zsh ++ vs, mi, ml, (zmr g)) (fun r w' => r = none ∧ ∃ m, w' = (zsh ++ vs, m, ml, zmr g) ∧ (∀ b, (b < 29 ∨ 36 < b) → m b = mi b) ∧ (∀ f, f < 3 → m 29 f = mi 21 f) ∧ (∀ q, 1 ≤ q → q ≤ 3 → ∀ k, k < 5 → m (29 + q) k = mi (21 + q) k) ∧ (∀ q, 4 ≤ q → q ≤ 5 → ∀ k, k < 10 → m (29 + q) k = mi (21 + q) k) ∧ ∀ q, 6 ≤ q → q ≤ 7 → ∀ k, k < 8 → m (29 + q) k = mi (21 + q) k) := by
  refine Wp.run 12 (24, [(0, .ref 29), (1, .ref 21)], [], (zsh ++ vs, (zup (zup (zup mi 29 0 (mi 21 0)) 29 1 (mi 21 1)) 29 2 (mi 21 2)), ml, (zmr g))) rfl ?_
  obtain ⟨m0, hm0⟩ : ∃ x, x = (zup (zup (zup mi 29 0 (mi 21 0)) 29 1 (mi 21 1)) 29 2 (mi 21 2)) := ⟨_, rfl⟩
  rw [← hm0]
  refine Wp.run 8 (38, [(0, .ref 29), (1, .ref 21)], [], (zsh ++ vs, (zrow m0 30 (va_cpy (m0 22) (m0 30) 0 0 5)), ml, (zmr g))) rfl ?_
  obtain ⟨m1, hm1⟩ : ∃ x, x = (zrow m0 30 (va_cpy (m0 22) (m0 30) 0 0 5)) := ⟨_, rfl⟩
  rw [← hm1]
  refine Wp.run 8 (52, [(0, .ref 29), (1, .ref 21)], [], (zsh ++ vs, (zrow m1 31 (va_cpy (m1 23) (m1 31) 0 0 5)), ml, (zmr g))) rfl ?_
  obtain ⟨m2, hm2⟩ : ∃ x, x = (zrow m1 31 (va_cpy (m1 23) (m1 31) 0 0 5)) := ⟨_, rfl⟩
  rw [← hm2]
  refine Wp.run 8 (66, [(0, .ref 29), (1, .ref 21)], [], (zsh ++ vs, (zrow m2 32 (va_cpy (m2 24) (m2 32) 0 0 5)), ml, (zmr g))) rfl ?_
  obtain ⟨m3, hm3⟩ : ∃ x, x = (zrow m2 32 (va_cpy (m2 24) (m2 32) 0 0 5)) := ⟨_, rfl⟩
  rw [← hm3]
  refine Wp.run 8 (81, [(0, .ref 29), (1, .ref 21)], [], (zsh ++ vs, (zrow m3 33 (va_cpy (m3 25) (m3 33) 0 0 10)), ml, (zmr g))) rfl ?_
  obtain ⟨m4, hm4⟩ : ∃ x, x = (zrow m3 33 (va_cpy (m3 25) (m3 33) 0 0 10)) := ⟨_, rfl⟩
  rw [← hm4]
  refine Wp.run 8 (96, [(0, .ref 29), (1, .ref 21)], [], (zsh ++ vs, (zrow m4 34 (va_cpy (m4 26) (m4 34) 0 0 10)), ml, (zmr g))) rfl ?_
  obtain ⟨m5, hm5⟩ : ∃ x, x = (zrow m4 34 (va_cpy (m4 26) (m4 34) 0 0 10)) := ⟨_, rfl⟩
  rw [← hm5]
  refine Wp.run 8 (111, [(0, .ref 29), (1, .ref 21)], [], (zsh ++ vs, (zrow m5 35 (va_cpy (m5 27) (m5 35) 0 0 8)), ml, (zmr g))) rfl ?_
  obtain ⟨m6, hm6⟩ : ∃ x, x = (zrow m5 35 (va_cpy (m5 27) (m5 35) 0 0 8)) := ⟨_, rfl⟩
  rw [← hm6]
  refine Wp.run 8 (126, [(0, .ref 29), (1, .ref 21)], [], (zsh ++ vs, (zrow m6 36 (va_cpy (m6 28) (m6 36) 0 0 8)), ml, (zmr g))) rfl ?_
  obtain ⟨m7, hm7⟩ : ∃ x, x = (zrow m6 36 (va_cpy (m6 28) (m6 36) 0 0 8)) := ⟨_, rfl⟩
  rw [← hm7]
  refine Wp.run 0 (126, [(0, .ref 29), (1, .ref 21)], [], (zsh ++ vs, m7, ml, (zmr g))) rfl ?_
  refine Wp.ret rfl rfl rfl ?_
  refine ⟨rfl, m7, rfl, fun b hb => ?_, fun f hf => ?_, fun q h1 h2 k hk => ?_, fun q h1 h2 k hk => ?_, fun q h1 h2 k hk => ?_⟩
  · rw [hm7, zrow_ne (by omega), hm6, zrow_ne (by omega), hm5, zrow_ne (by omega), hm4, zrow_ne (by omega), hm3, zrow_ne (by omega), hm2, zrow_ne (by omega), hm1, zrow_ne (by omega), hm0, zup_ne (by omega), zup_ne (by omega), zup_ne (by omega)]
  · rw [hm7, zrow_ne (by decide), hm6, zrow_ne (by decide), hm5, zrow_ne (by decide), hm4, zrow_ne (by decide), hm3, zrow_ne (by decide), hm2, zrow_ne (by decide), hm1, zrow_ne (by decide), hm0]
    rcases (show f = 0 ∨ f = 1 ∨ f = 2 by omega) with rfl | rfl | rfl <;> rfl
  · rcases (show q = 1 ∨ q = 2 ∨ q = 3 by omega) with rfl | rfl | rfl
    · show m7 30 k = mi 22 k
      rw [hm7, zrow_ne (by decide), hm6, zrow_ne (by decide), hm5, zrow_ne (by decide), hm4, zrow_ne (by decide), hm3, zrow_ne (by decide), hm2, zrow_ne (by decide), hm1, zrow_eq, va_cpy_lt hk, hm0, zup_ne (by decide), zup_ne (by decide), zup_ne (by decide)]
    · show m7 31 k = mi 23 k
      rw [hm7, zrow_ne (by decide), hm6, zrow_ne (by decide), hm5, zrow_ne (by decide), hm4, zrow_ne (by decide), hm3, zrow_ne (by decide), hm2, zrow_eq, va_cpy_lt hk, hm1, zrow_ne (by decide), hm0, zup_ne (by decide), zup_ne (by decide), zup_ne (by decide)]
    · show m7 32 k = mi 24 k
      rw [hm7, zrow_ne (by decide), hm6, zrow_ne (by decide), hm5, zrow_ne (by decide), hm4, zrow_ne (by decide), hm3, zrow_eq, va_cpy_lt hk, hm2, zrow_ne (by decide), hm1, zrow_ne (by decide), hm0, zup_ne (by decide), zup_ne (by decide), zup_ne (by decide)]
  · rcases (show q = 4 ∨ q = 5 by omega) with rfl | rfl
    · show m7 33 k = mi 25 k
      rw [hm7, zrow_ne (by decide), hm6, zrow_ne (by decide), hm5, zrow_ne (by decide), hm4, zrow_eq, va_cpy_lt hk, hm3, zrow_ne (by decide), hm2, zrow_ne (by decide), hm1, zrow_ne (by decide), hm0, zup_ne (by decide), zup_ne (by decide), zup_ne (by decide)]
    · show m7 34 k = mi 26 k
      rw [hm7, zrow_ne (by decide), hm6, zrow_ne (by decide), hm5, zrow_eq, va_cpy_lt hk, hm4, zrow_ne (by decide), hm3, zrow_ne (by decide), hm2, zrow_ne (by decide), hm1, zrow_ne (by decide), hm0, zup_ne (by decide), zup_ne (by decide), zup_ne (by decide)]
  · rcases (show q = 6 ∨ q = 7 by omega) with rfl | rfl
    · show m7 35 k = mi 27 k
      rw [hm7, zrow_ne (by decide), hm6, zrow_eq, va_cpy_lt hk, hm5, zrow_ne (by decide), hm4, zrow_ne (by decide), hm3, zrow_ne (by decide), hm2, zrow_ne (by decide), hm1, zrow_ne (by decide), hm0, zup_ne (by decide), zup_ne (by decide), zup_ne (by decide)]
    · show m7 36 k = mi 28 k
      rw [hm7, zrow_eq, va_cpy_lt hk, hm6, zrow_ne (by decide), hm5, zrow_ne (by decide), hm4, zrow_ne (by decide), hm3, zrow_ne (by decide), hm2, zrow_ne (by decide), hm1, zrow_ne (by decide), hm0, zup_ne (by decide), zup_ne (by decide), zup_ne (by decide)]
theorem c_hbecome_21_29 {E : zEn} {vs : List (Nat × Nat)} {mi : Nat → Nat → Int32} {ml : Nat → Nat → Int64} {g : Nat → Nat → Option Nat}  : Wp E 0 pg_Hand_become 0 (lv_args 0 [.ref 21, .ref 29]) [] (zsh ++ vs, mi, ml, (zmr g)) (fun r w' => r = none ∧ ∃ m, w' = (zsh ++ vs, m, ml, zmr g) ∧ (∀ b, (b < 21 ∨ 28 < b) → m b = mi b) ∧ (∀ f, f < 3 → m 21 f = mi 29 f) ∧ (∀ q, 1 ≤ q → q ≤ 3 → ∀ k, k < 5 → m (21 + q) k = mi (29 + q) k) ∧ (∀ q, 4 ≤ q → q ≤ 5 → ∀ k, k < 10 → m (21 + q) k = mi (29 + q) k) ∧ ∀ q, 6 ≤ q → q ≤ 7 → ∀ k, k < 8 → m (21 + q) k = mi (29 + q) k) := by
  refine Wp.run 12 (24, [(0, .ref 21), (1, .ref 29)], [], (zsh ++ vs, (zup (zup (zup mi 21 0 (mi 29 0)) 21 1 (mi 29 1)) 21 2 (mi 29 2)), ml, (zmr g))) rfl ?_
  obtain ⟨m0, hm0⟩ : ∃ x, x = (zup (zup (zup mi 21 0 (mi 29 0)) 21 1 (mi 29 1)) 21 2 (mi 29 2)) := ⟨_, rfl⟩
  rw [← hm0]
  refine Wp.run 8 (38, [(0, .ref 21), (1, .ref 29)], [], (zsh ++ vs, (zrow m0 22 (va_cpy (m0 30) (m0 22) 0 0 5)), ml, (zmr g))) rfl ?_
  obtain ⟨m1, hm1⟩ : ∃ x, x = (zrow m0 22 (va_cpy (m0 30) (m0 22) 0 0 5)) := ⟨_, rfl⟩
  rw [← hm1]
  refine Wp.run 8 (52, [(0, .ref 21), (1, .ref 29)], [], (zsh ++ vs, (zrow m1 23 (va_cpy (m1 31) (m1 23) 0 0 5)), ml, (zmr g))) rfl ?_
  obtain ⟨m2, hm2⟩ : ∃ x, x = (zrow m1 23 (va_cpy (m1 31) (m1 23) 0 0 5)) := ⟨_, rfl⟩
  rw [← hm2]
  refine Wp.run 8 (66, [(0, .ref 21), (1, .ref 29)], [], (zsh ++ vs, (zrow m2 24 (va_cpy (m2 32) (m2 24) 0 0 5)), ml, (zmr g))) rfl ?_
  obtain ⟨m3, hm3⟩ : ∃ x, x = (zrow m2 24 (va_cpy (m2 32) (m2 24) 0 0 5)) := ⟨_, rfl⟩
  rw [← hm3]
  refine Wp.run 8 (81, [(0, .ref 21), (1, .ref 29)], [], (zsh ++ vs, (zrow m3 25 (va_cpy (m3 33) (m3 25) 0 0 10)), ml, (zmr g))) rfl ?_
  obtain ⟨m4, hm4⟩ : ∃ x, x = (zrow m3 25 (va_cpy (m3 33) (m3 25) 0 0 10)) := ⟨_, rfl⟩
  rw [← hm4]
  refine Wp.run 8 (96, [(0, .ref 21), (1, .ref 29)], [], (zsh ++ vs, (zrow m4 26 (va_cpy (m4 34) (m4 26) 0 0 10)), ml, (zmr g))) rfl ?_
  obtain ⟨m5, hm5⟩ : ∃ x, x = (zrow m4 26 (va_cpy (m4 34) (m4 26) 0 0 10)) := ⟨_, rfl⟩
  rw [← hm5]
  refine Wp.run 8 (111, [(0, .ref 21), (1, .ref 29)], [], (zsh ++ vs, (zrow m5 27 (va_cpy (m5 35) (m5 27) 0 0 8)), ml, (zmr g))) rfl ?_
  obtain ⟨m6, hm6⟩ : ∃ x, x = (zrow m5 27 (va_cpy (m5 35) (m5 27) 0 0 8)) := ⟨_, rfl⟩
  rw [← hm6]
  refine Wp.run 8 (126, [(0, .ref 21), (1, .ref 29)], [], (zsh ++ vs, (zrow m6 28 (va_cpy (m6 36) (m6 28) 0 0 8)), ml, (zmr g))) rfl ?_
  obtain ⟨m7, hm7⟩ : ∃ x, x = (zrow m6 28 (va_cpy (m6 36) (m6 28) 0 0 8)) := ⟨_, rfl⟩
  rw [← hm7]
  refine Wp.run 0 (126, [(0, .ref 21), (1, .ref 29)], [], (zsh ++ vs, m7, ml, (zmr g))) rfl ?_
  refine Wp.ret rfl rfl rfl ?_
  refine ⟨rfl, m7, rfl, fun b hb => ?_, fun f hf => ?_, fun q h1 h2 k hk => ?_, fun q h1 h2 k hk => ?_, fun q h1 h2 k hk => ?_⟩
  · rw [hm7, zrow_ne (by omega), hm6, zrow_ne (by omega), hm5, zrow_ne (by omega), hm4, zrow_ne (by omega), hm3, zrow_ne (by omega), hm2, zrow_ne (by omega), hm1, zrow_ne (by omega), hm0, zup_ne (by omega), zup_ne (by omega), zup_ne (by omega)]
  · rw [hm7, zrow_ne (by decide), hm6, zrow_ne (by decide), hm5, zrow_ne (by decide), hm4, zrow_ne (by decide), hm3, zrow_ne (by decide), hm2, zrow_ne (by decide), hm1, zrow_ne (by decide), hm0]
    rcases (show f = 0 ∨ f = 1 ∨ f = 2 by omega) with rfl | rfl | rfl <;> rfl
  · rcases (show q = 1 ∨ q = 2 ∨ q = 3 by omega) with rfl | rfl | rfl
    · show m7 22 k = mi 30 k
      rw [hm7, zrow_ne (by decide), hm6, zrow_ne (by decide), hm5, zrow_ne (by decide), hm4, zrow_ne (by decide), hm3, zrow_ne (by decide), hm2, zrow_ne (by decide), hm1, zrow_eq, va_cpy_lt hk, hm0, zup_ne (by decide), zup_ne (by decide), zup_ne (by decide)]
    · show m7 23 k = mi 31 k
      rw [hm7, zrow_ne (by decide), hm6, zrow_ne (by decide), hm5, zrow_ne (by decide), hm4, zrow_ne (by decide), hm3, zrow_ne (by decide), hm2, zrow_eq, va_cpy_lt hk, hm1, zrow_ne (by decide), hm0, zup_ne (by decide), zup_ne (by decide), zup_ne (by decide)]
    · show m7 24 k = mi 32 k
      rw [hm7, zrow_ne (by decide), hm6, zrow_ne (by decide), hm5, zrow_ne (by decide), hm4, zrow_ne (by decide), hm3, zrow_eq, va_cpy_lt hk, hm2, zrow_ne (by decide), hm1, zrow_ne (by decide), hm0, zup_ne (by decide), zup_ne (by decide), zup_ne (by decide)]
  · rcases (show q = 4 ∨ q = 5 by omega) with rfl | rfl
    · show m7 25 k = mi 33 k
      rw [hm7, zrow_ne (by decide), hm6, zrow_ne (by decide), hm5, zrow_ne (by decide), hm4, zrow_eq, va_cpy_lt hk, hm3, zrow_ne (by decide), hm2, zrow_ne (by decide), hm1, zrow_ne (by decide), hm0, zup_ne (by decide), zup_ne (by decide), zup_ne (by decide)]
    · show m7 26 k = mi 34 k
      rw [hm7, zrow_ne (by decide), hm6, zrow_ne (by decide), hm5, zrow_eq, va_cpy_lt hk, hm4, zrow_ne (by decide), hm3, zrow_ne (by decide), hm2, zrow_ne (by decide), hm1, zrow_ne (by decide), hm0, zup_ne (by decide), zup_ne (by decide), zup_ne (by decide)]
  · rcases (show q = 6 ∨ q = 7 by omega) with rfl | rfl
    · show m7 27 k = mi 35 k
      rw [hm7, zrow_ne (by decide), hm6, zrow_eq, va_cpy_lt hk, hm5, zrow_ne (by decide), hm4, zrow_ne (by decide), hm3, zrow_ne (by decide), hm2, zrow_ne (by decide), hm1, zrow_ne (by decide), hm0, zup_ne (by decide), zup_ne (by decide), zup_ne (by decide)]
    · show m7 28 k = mi 36 k
      rw [hm7, zrow_eq, va_cpy_lt hk, hm6, zrow_ne (by decide), hm5, zrow_ne (by decide), hm4, zrow_ne (by decide), hm3, zrow_ne (by decide), hm2, zrow_ne (by decide), hm1, zrow_ne (by decide), hm0, zup_ne (by decide), zup_ne (by decide), zup_ne (by decide)]
theorem SEr.cp {mi m : Nat → Nat → Int32} {a b n : Nat} {N : Nat → Int32} (h : SEr mi b N n) (e0 : m a 0 = mi b 0) (e : ∀ q, 1 ≤ q → q ≤ 3 → ∀ k, k < 5 → m (a + q) k = mi (b + q) k) : SEr m a N n := by
  obtain ⟨c, h1, h2, h3, h4⟩ := h
  refine ⟨c, h1, by rw [e0]; exact h2, h3, fun r hr => ?_⟩
  obtain ⟨q, t, u, a1, a2, a3, a4, a5, a6, a7, a8, a9⟩ := h4 r hr
  exact ⟨q, t, u, a1, a2, a3, a4, a5, a6, by rw [e 1 (by decide) (by decide) r (by omega)]; exact a7, by rw [e 2 (by decide) (by decide) r (by omega)]; exact a8, by rw [e 3 (by decide) (by decide) r (by omega)]; exact a9⟩
theorem PLr.cp {mi m : Nat → Nat → Int32} {a b n : Nat} {N : Nat → Int32} (h : PLr mi b N n) (e0 : m a 1 = mi b 1) (e : ∀ q, 4 ≤ q → q ≤ 5 → ∀ k, k < 10 → m (a + q) k = mi (b + q) k) : PLr m a N n := by
  obtain ⟨c, h1, h2, h3, h4⟩ := h
  refine ⟨c, h1, by rw [e0]; exact h2, h3, fun r hr => ?_⟩
  obtain ⟨w, a1, a2, a3, a4⟩ := h4 r hr
  refine ⟨w, a1, a2, by rw [e 4 (by decide) (by decide) r (by omega)]; exact a3, ?_⟩
  rcases a4 with a4 | ⟨q, b1, b2, b3⟩
  · exact Or.inl a4
  · exact Or.inr ⟨q, b1, b2, by rw [e 5 (by decide) (by decide) r (by omega)]; exact b3⟩
theorem BKr.cp {mi m : Nat → Nat → Int32} {a b : Nat} {N : Nat → Int32} (h : BKr mi b N) (e0 : m a 2 = mi b 2) (e : ∀ q, 6 ≤ q → q ≤ 7 → ∀ k, k < 8 → m (a + q) k = mi (b + q) k) : BKr m a N := by
  obtain ⟨c, h1, h2, h3, h4⟩ := h
  refine ⟨c, h1, by rw [e0]; exact h2, h3, fun r hr => ?_⟩
  obtain ⟨q, a1, a2, a3, a4⟩ := h4 r hr
  exact ⟨q, a1, a2, by rw [e 6 (by decide) (by decide) r (by omega)]; exact a3, by rw [e 7 (by decide) (by decide) r (by omega)]; exact a4⟩
section UI
variable {nv : Nat} {VD : Nat → zV} {NL : Nat → Nat} {n dd : Nat} {vs : List (Nat × Nat)} {mi m : Nat → Nat → Int32} {ml : Nat → Nat → Int64} {g : Nat → Nat → Option Nat}
theorem INV.image (I : INV nv VD NL n dd vs mi ml g) (hb : ∀ b, ¬ b = 0 → (b < 11 ∨ 18 < b) → (b < 29 ∨ 36 < b) → ¬ b = 66 → ¬ b = 69 → m b = mi b) (h0 : m 0 4 = 1) (h0' : ∀ k, ¬ k = 4 → m 0 k = mi 0 k) (h66 : m 66 3 = 1) (h66' : ∀ k, ¬ k = 3 → m 66 k = mi 66 k) (e69 : ∀ i, i < 125 → m 69 i = mi 67 i) (B : BR m 11 (g 1 3) nv (mi 67) n dd) (s : SEr m 29 (mi 67) n) (p : PLr m 29 (mi 67) n) (k : BKr m 29 (mi 67)) : INV nv VD NL n dd vs m ml (zup g 11 3 (g 1 3)) := by
  obtain ⟨⟨i1, i2⟩, ⟨i3, i4, i5⟩, i6, i7, i8, i9, i10, i11⟩ := I
  have e67 : m 67 = mi 67 := hb 67 (by decide) (by decide) (by decide) (by decide) (by decide)
  refine ⟨⟨?_, i2⟩, ⟨?_, ?_, ?_⟩, Or.inr ⟨h0, h66, n, dd, ?_, i2, ?_, ?_, ?_⟩, ?_, ?_, ?_, ?_, ?_⟩
  · rw [e67]; exact BR_fr i1 (fun b p q => hb b (by omega) (by omega) (by omega) (by omega) (by omega))
  · rw [e67]; exact i3.fr (by rw [hb 21 (by omega) (by omega) (by omega) (by omega) (by omega)]) (hb _ (by omega) (by omega) (by omega) (by omega) (by omega)) (hb _ (by omega) (by omega) (by omega) (by omega) (by omega)) (hb _ (by omega) (by omega) (by omega) (by omega) (by omega)) (fun _ _ _ => rfl) (Nat.le_refl _)
  · rw [e67]; exact i4.fr (by rw [hb 21 (by omega) (by omega) (by omega) (by omega) (by omega)]) (hb _ (by omega) (by omega) (by omega) (by omega) (by omega)) (hb _ (by omega) (by omega) (by omega) (by omega) (by omega)) (fun _ _ _ => rfl) (Nat.le_refl _)
  · rw [e67]; exact i5.fr (by rw [hb 21 (by omega) (by omega) (by omega) (by omega) (by omega)]) (hb _ (by omega) (by omega) (by omega) (by omega) (by omega)) (hb _ (by omega) (by omega) (by omega) (by omega) (by omega)) (fun _ _ _ => rfl)
  · exact B.row (fun i hi => e69 i (by omega))
  · exact s.fr rfl rfl rfl rfl (fun i _ hi => e69 i (by omega)) (Nat.le_refl _)
  · exact p.fr rfl rfl rfl (fun i _ hi => e69 i (by omega)) (Nat.le_refl _)
  · exact k.fr rfl rfl rfl (fun i _ hi => e69 i (by omega))
  · exact i7.fr (by rw [hb 48 (by omega) (by omega) (by omega) (by omega) (by omega)]) (h66' 5 (by decide)) (hb _ (by omega) (by omega) (by omega) (by omega) (by omega)) (hb _ (by omega) (by omega) (by omega) (by omega) (by omega))
  · exact i8.fr (h0' 7 (by decide)) (h66' 8 (by decide)) (hb _ (by omega) (by omega) (by omega) (by omega) (by omega)) (hb _ (by omega) (by omega) (by omega) (by omega) (by omega)) (fun b _ => hb b (by omega) (by omega) (by omega) (by omega) (by omega)) (fun b _ => zup_ne (by omega))
  · exact i9.fr (by rw [hb 51 (by omega) (by omega) (by omega) (by omega) (by omega)]) (h66' 24 (by decide)) (hb _ (by omega) (by omega) (by omega) (by omega) (by omega)) (hb _ (by omega) (by omega) (by omega) (by omega) (by omega))
  · exact i10.fr (fun b _ _ => hb b (by omega) (by omega) (by omega) (by omega) (by omega)) (hb _ (by omega) (by omega) (by omega) (by omega) (by omega)) (hb _ (by omega) (by omega) (by omega) (by omega) (by omega)) (fun _ _ => rfl)
  · exact i11.fr (fun b _ => hb b (by omega) (by omega) (by omega) (by omega) (by omega))
theorem INV.undo {n2 dd2 : Nat} (I : INV nv VD NL n dd vs mi ml g) (hb : ∀ b, (b < 1 ∨ 8 < b) → (b < 21 ∨ 28 < b) → ¬ b = 67 → m b = mi b) (e67 : ∀ i, i < 125 → m 67 i = mi 69 i) (B : BR m 1 (g 11 3) nv (mi 69) n2 dd2) (hd : dd2 ≤ 9999) (s : SEr m 21 (mi 69) n2) (p : PLr m 21 (mi 69) n2) (k : BKr m 21 (mi 69)) : INV nv VD NL n2 dd2 vs m ml (zup g 1 3 (g 11 3)) := by
  obtain ⟨⟨i1, i2⟩, ⟨i3, i4, i5⟩, i6, i7, i8, i9, i10, i11⟩ := I
  refine ⟨⟨?_, hd⟩, ⟨?_, ?_, ?_⟩, ?_, ?_, ?_, ?_, ?_, ?_⟩
  · exact B.row (fun i hi => e67 i (by omega))
  · exact s.fr rfl rfl rfl rfl (fun i _ hi => e67 i (by omega)) (Nat.le_refl _)
  · exact p.fr rfl rfl rfl (fun i _ hi => e67 i (by omega)) (Nat.le_refl _)
  · exact k.fr rfl rfl rfl (fun i _ hi => e67 i (by omega))
  · exact i6.fr (by rw [hb 0 (by omega) (by omega) (by omega)]) (by rw [hb 66 (by omega) (by omega) (by omega)]) (fun b q => hb b (by omega) (by omega) (by omega)) rfl
  · exact i7.fr (by rw [hb 48 (by omega) (by omega) (by omega)]) (by rw [hb 66 (by omega) (by omega) (by omega)]) (hb _ (by omega) (by omega) (by omega)) (hb _ (by omega) (by omega) (by omega))
  · exact i8.fr (by rw [hb 0 (by omega) (by omega) (by omega)]) (by rw [hb 66 (by omega) (by omega) (by omega)]) (hb _ (by omega) (by omega) (by omega)) (hb _ (by omega) (by omega) (by omega)) (fun b _ => hb b (by omega) (by omega) (by omega)) (fun b _ => zup_ne (by omega))
  · exact i9.fr (by rw [hb 51 (by omega) (by omega) (by omega)]) (by rw [hb 66 (by omega) (by omega) (by omega)]) (hb _ (by omega) (by omega) (by omega)) (hb _ (by omega) (by omega) (by omega))
  · exact i10.fr (fun b _ _ => hb b (by omega) (by omega) (by omega)) (hb _ (by omega) (by omega) (by omega)) (hb _ (by omega) (by omega) (by omega)) (fun _ _ => rfl)
  · exact i11.fr (fun b _ => hb b (by omega) (by omega) (by omega))
theorem mvR_lt {a b i : Nat} (h : i < 125) : mvR mi a b 125 i = mi a i := by show (if i < 125 then mi a i else mi b i) = _; rw [if_pos h]
end UI
theorem sim_image {E : zEn} {nv : Nat} {VD : Nat → zV} {NL : Nat → Nat} {n dd : Nat} {vs : List (Nat × Nat)} {mi : Nat → Nat → Int32} {ml : Nat → Nat → Int64} {g : Nat → Nat → Option Nat} (I : INV nv VD NL n dd vs mi ml g) : SIM E vs mi ml g pg_H_image pg_M_image [] := by
  have B := I.1.1
  have h6 := B.1.2.1
  have hn := B.2.1
  have hN := B.1.1
  have hd := B.1.2.2.1
  have hdd := I.1.2
  refine SIM.g (dc := 7) (dm := 7) (fun x vs1 m1 l1 g1 => x = nI n ∧ vs = vs1 ∧ ml = l1 ∧ g1 = zup g 11 3 (g 1 3) ∧ (∀ b, ¬ b = 0 → (b < 11 ∨ 18 < b) → (b < 29 ∨ 36 < b) → m1 b = mi b) ∧ m1 0 4 = 1 ∧ (∀ k, ¬ k = 4 → m1 0 k = mi 0 k) ∧ BR m1 11 (g 1 3) nv (mi 67) n dd ∧ SEr m1 29 (mi 67) n ∧ PLr m1 29 (mi 67) n ∧ BKr m1 29 (mi 67)) (by decide) (by decide) ?_ ?_
  · refine Wp.run 4 (8, [(0, .ref 0)], [.ref 1, .ref 11], (zsh ++ vs, mi, ml, (zmr g))) rfl ?_
    refine Wp.call (as := [.ref 11, .ref 1]) (rest := []) rfl rfl rfl rfl rfl (Nat.le_of_ble_eq_true rfl) (Nat.le_of_ble_eq_true rfl) rfl (by decide) (c_become_11_1 (B.2.2.2.2.2.2.lt I.2.2.2.2.1.1)) ?_
    rintro _ _ ⟨rfl, p1, rfl, k1, k2, k3, k4, k5, k6⟩
    refine Wp.run 4 (19, [(0, .ref 0)], [.ref 21, .ref 29], (zsh ++ vs, p1, ml, (zmr (zup g 11 3 (g 1 3))))) rfl ?_
    refine Wp.call (as := [.ref 29, .ref 21]) (rest := []) rfl rfl rfl rfl rfl (Nat.le_of_ble_eq_true rfl) (Nat.le_of_ble_eq_true rfl) rfl (by decide) (c_hbecome_29_21) ?_
    rintro _ _ ⟨rfl, p2, rfl, l1, l2, l3, l4, l5⟩
    refine Wp.run 6 (34, [(0, .ref 0)], [.int (p2 1 0)], (zsh ++ vs, (zup p2 0 4 1), ml, (zmr (zup g 11 3 (g 1 3))))) rfl ?_
    refine Wp.ret rfl rfl rfl ?_
    refine ⟨_, rfl, vs, _, ml, _, rfl, ?_, rfl, rfl, rfl, fun b p q r => ?_, ?_, fun k hk => ?_, ?_, ?_, ?_, ?_⟩
    · rw [l1 1 (by decide), k1 1 (by decide)]; exact hn
    · rw [zup_ne p, l1 b r, k1 b q]
    · rw [zup_at]
    · rw [zup_rd hk, l1 0 (by decide), k1 0 (by decide)]
    · refine BR_fr (mi := p1) ?_ (fun b p q => by rw [zup_ne (by omega), l1 b (by omega)])
      exact BR_copy B (fun f hf => k2 f hf) k4 k5 k6
    · exact I.2.1.1.cp (by rw [zup_ne (by decide), l2 0 (by decide), k1 21 (by decide)]) (fun q h1 h2 k hk => by rw [zup_ne (by omega), l3 q h1 h2 k hk, k1 _ (by omega)])
    · exact I.2.1.2.1.cp (by rw [zup_ne (by decide), l2 1 (by decide), k1 21 (by decide)]) (fun q h1 h2 k hk => by rw [zup_ne (by omega), l4 q h1 h2 k hk, k1 _ (by omega)])
    · exact I.2.1.2.2.cp (by rw [zup_ne (by decide), l2 2 (by decide), k1 21 (by decide)]) (fun q h1 h2 k hk => by rw [zup_ne (by omega), l5 q h1 h2 k hk, k1 _ (by omega)])
  · rintro x vs1 m1 l1 g1 ⟨rfl, rfl, rfl, rfl, q1, q2, q3, q4, q5, q6, q7⟩
    refine Wp.run 7 (13, [(0, .ref 66)], [.ref 69, .ref 67], (zsh ++ vs, (zup m1 66 3 1), ml, (zmr (zup g 11 3 (g 1 3))))) rfl ?_
    refine Wp.call (as := [.ref 67, .ref 69]) (rest := []) rfl rfl rfl rfl rfl (Nat.le_of_ble_eq_true rfl) (Nat.le_of_ble_eq_true rfl) rfl (by decide) (m_move_67_69 (mi := (zup m1 66 3 1))) ?_
    rintro _ _ ⟨rfl, rfl⟩
    refine Wp.run 4 (23, [(0, .ref 66)], [.int (m1 67 68)], (zsh ++ vs, (zrow (zup m1 66 3 1) 69 (mvR (zup m1 66 3 1) 67 69 125)), ml, (zmr (zup g 11 3 (g 1 3))))) rfl ?_
    refine Wp.ret rfl rfl rfl ?_
    refine ⟨congrArg (fun z => some (Value.int z)) ?_, ?_⟩
    · rw [q1 67 (by decide) (by decide) (by decide)]; exact hN
    refine (I.image (fun b p q r s t => ?_) ?_ (fun k hk => ?_) ?_ (fun k hk => ?_) (fun i hi => ?_) ?_ ?_ ?_ ?_).x
    · rw [zrow_ne t, zup_ne s]; exact q1 b p q r
    · rw [zrow_ne (by decide), zup_ne (by decide)]; exact q2
    · rw [zrow_ne (by decide), zup_ne (by decide)]; exact q3 k hk
    · rw [zrow_ne (by decide), zup_at]
    · rw [zrow_ne (by decide), zup_rd hk, q1 66 (by decide) (by decide) (by decide)]
    · rw [zrow_eq, mvR_lt hi, zup_ne (by decide), q1 67 (by decide) (by decide) (by decide)]
    · exact BR_fr q4 (fun b p q => by rw [zrow_ne (by omega), zup_ne (by omega)])
    · exact q5.cp (by rw [zrow_ne (by decide), zup_ne (by decide)]) (fun q h1 h2 k hk => by rw [zrow_ne (by omega), zup_ne (by omega)])
    · exact q6.cp (by rw [zrow_ne (by decide), zup_ne (by decide)]) (fun q h1 h2 k hk => by rw [zrow_ne (by omega), zup_ne (by omega)])
    · exact q7.cp (by rw [zrow_ne (by decide), zup_ne (by decide)]) (fun q h1 h2 k hk => by rw [zrow_ne (by omega), zup_ne (by omega)])
theorem sim_undo {E : zEn} {nv : Nat} {VD : Nat → zV} {NL : Nat → Nat} {n dd : Nat} {vs : List (Nat × Nat)} {mi : Nat → Nat → Int32} {ml : Nat → Nat → Int64} {g : Nat → Nat → Option Nat} (I : INV nv VD NL n dd vs mi ml g) : SIM E vs mi ml g pg_H_undo pg_M_undo [] := by
  have B := I.1.1
  have h6 := B.1.2.1
  have hn := B.2.1
  have hN := B.1.1
  have hd := B.1.2.2.1
  have hdd := I.1.2
  rcases I.2.2.1 with ⟨j1, j2⟩ | ⟨j1, j2, n2, dd2, j3, j4, j5, j6, j7⟩
  · refine SIM.q I (x := -3) (dc := 7) (dm := 27) (by decide) (by decide) ?_ ?_
    · refine Wp.run 2 (4, [(0, .ref 0)], [.int (mi 0 4)], (zsh ++ vs, mi, ml, (zmr g))) rfl ?_
      refine Wp.topi (y := 0) (j1) ?_
      refine Wp.run 2 (9, [(0, .ref 0)], [.int (-3)], (zsh ++ vs, mi, ml, (zmr g))) rfl ?_
      refine Wp.ret rfl rfl rfl ?_
      exact ⟨rfl, _, _, rfl, SC.rf, fun _ _ _ => rfl⟩
    · intro m g' I' e67 S
      have B' := I'.1.1
      have hn' := B'.2.1
      have hN' := B'.1.1
      have hd' := B'.1.2.2.1
      refine Wp.run 2 (4, [(0, .ref 66)], [.int (m 66 3)], (zsh ++ vs, m, ml, (zmr g'))) rfl ?_
      refine Wp.topi (y := 0) ((S.2.2.2 3 (by decide)).trans j2) ?_
      refine Wp.run 2 (9, [(0, .ref 66)], [.int (-3)], (zsh ++ vs, m, ml, (zmr g'))) rfl ?_
      refine Wp.ret rfl rfl rfl ?_
      exact ⟨rfl, _, rfl, SC.rf⟩
  · refine SIM.g (dc := 7) (dm := 7) (fun x vs1 m1 l1 g1 => x = nI n2 ∧ vs = vs1 ∧ ml = l1 ∧ g1 = zup g 1 3 (g 11 3) ∧ (∀ b, (b < 1 ∨ 8 < b) → (b < 21 ∨ 28 < b) → m1 b = mi b) ∧ BR m1 1 (g 11 3) nv (mi 69) n2 dd2 ∧ SEr m1 21 (mi 69) n2 ∧ PLr m1 21 (mi 69) n2 ∧ BKr m1 21 (mi 69)) (by decide) (by decide) ?_ ?_
    · refine Wp.run 2 (4, [(0, .ref 0)], [.int (mi 0 4)], (zsh ++ vs, mi, ml, (zmr g))) rfl ?_
      refine Wp.topi (y := 1) (j1) ?_
      refine Wp.run 5 (18, [(0, .ref 0)], [.ref 11, .ref 1], (zsh ++ vs, mi, ml, (zmr g))) rfl ?_
      refine Wp.call (as := [.ref 1, .ref 11]) (rest := []) rfl rfl rfl rfl rfl (Nat.le_of_ble_eq_true rfl) (Nat.le_of_ble_eq_true rfl) rfl (by decide) (c_become_1_11 (j3.2.2.2.2.2.2.lt I.2.2.2.2.1.1)) ?_
      rintro _ _ ⟨rfl, p1, rfl, k1, k2, k3, k4, k5, k6⟩
      refine Wp.run 4 (29, [(0, .ref 0)], [.ref 29, .ref 21], (zsh ++ vs, p1, ml, (zmr (zup g 1 3 (g 11 3))))) rfl ?_
      refine Wp.call (as := [.ref 21, .ref 29]) (rest := []) rfl rfl rfl rfl rfl (Nat.le_of_ble_eq_true rfl) (Nat.le_of_ble_eq_true rfl) rfl (by decide) (c_hbecome_21_29) ?_
      rintro _ _ ⟨rfl, p2, rfl, l1, l2, l3, l4, l5⟩
      refine Wp.run 3 (39, [(0, .ref 0)], [.int (p2 1 0)], (zsh ++ vs, p2, ml, (zmr (zup g 1 3 (g 11 3))))) rfl ?_
      refine Wp.ret rfl rfl rfl ?_
      refine ⟨_, rfl, vs, _, ml, _, rfl, ?_, rfl, rfl, rfl, fun b p q => ?_, ?_, ?_, ?_, ?_⟩
      · rw [l1 1 (by decide), k2 0 (by decide)]; exact j3.2.1
      · rw [l1 b q, k1 b p]
      · refine BR_fr (mi := p1) ?_ (fun b p q => l1 b (by omega))
        exact BR_copy j3 (fun f hf => k2 f hf) k4 k5 k6
      · exact j5.cp (by rw [l2 0 (by decide), k1 29 (by decide)]) (fun q h1 h2 k hk => by rw [l3 q h1 h2 k hk, k1 _ (by omega)])
      · exact j6.cp (by rw [l2 1 (by decide), k1 29 (by decide)]) (fun q h1 h2 k hk => by rw [l4 q h1 h2 k hk, k1 _ (by omega)])
      · exact j7.cp (by rw [l2 2 (by decide), k1 29 (by decide)]) (fun q h1 h2 k hk => by rw [l5 q h1 h2 k hk, k1 _ (by omega)])
    · rintro x vs1 m1 l1 g1 ⟨rfl, rfl, rfl, rfl, q1, q4, q5, q6, q7⟩
      refine Wp.run 2 (4, [(0, .ref 66)], [.int (m1 66 3)], (zsh ++ vs, m1, ml, (zmr (zup g 1 3 (g 11 3))))) rfl ?_
      refine Wp.topi (y := 1) ((congrFun (q1 66 (by decide) (by decide)) 3).trans j2) ?_
      refine Wp.run 5 (18, [(0, .ref 66)], [.ref 67, .ref 69], (zsh ++ vs, m1, ml, (zmr (zup g 1 3 (g 11 3))))) rfl ?_
      refine Wp.call (as := [.ref 69, .ref 67]) (rest := []) rfl rfl rfl rfl rfl (Nat.le_of_ble_eq_true rfl) (Nat.le_of_ble_eq_true rfl) rfl (by decide) (m_move_69_67 (mi := m1)) ?_
      rintro _ _ ⟨rfl, rfl⟩
      refine Wp.run 4 (28, [(0, .ref 66)], [.int ((zrow m1 67 (mvR m1 69 67 125)) 67 68)], (zsh ++ vs, (zrow m1 67 (mvR m1 69 67 125)), ml, (zmr (zup g 1 3 (g 11 3))))) rfl ?_
      refine Wp.ret rfl rfl rfl ?_
      refine ⟨congrArg (fun z => some (Value.int z)) ?_, ?_⟩
      · rw [zrow_eq, mvR_lt (by decide), q1 69 (by decide) (by decide)]; exact j3.1.1
      refine (I.undo (n2 := n2) (fun b p q r => ?_) (fun i hi => ?_) ?_ j4 ?_ ?_ ?_).x
      · rw [zrow_ne r]; exact q1 b p q
      · rw [zrow_eq, mvR_lt hi, q1 69 (by decide) (by decide)]
      · exact BR_fr q4 (fun b p q => by rw [zrow_ne (by omega)])
      · exact q5.cp (by rw [zrow_ne (by decide)]) (fun q h1 h2 k hk => by rw [zrow_ne (by omega)])
      · exact q6.cp (by rw [zrow_ne (by decide)]) (fun q h1 h2 k hk => by rw [zrow_ne (by omega)])
      · exact q7.cp (by rw [zrow_ne (by decide)]) (fun q h1 h2 k hk => by rw [zrow_ne (by omega)])
