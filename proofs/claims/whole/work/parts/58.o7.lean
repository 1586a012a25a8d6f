/-! THE CALLS: tape, item, read -/
section WL
variable {E : zEn} {d : Nat} {cd : List zI} {pc : Nat} {lv : zLv} {rs : List Value} {w : zW} {P : Option Value → zW → Prop}
theorem Wp.laln {a n j : Nat} {len fa fb fc : Nat} (hi : cd[pc]? = some (.laload, len, fa, fb, fc)) (hr : a < zEX) (hs : w.1[a]? = some (1, n)) (hj : j < n) (hn : n < 2 ^ 31) (h : Wp E d cd (pc + 1) lv (.long (w.2.2.1 a j) :: rs) w P) : Wp E d cd pc lv (.int (nI j) :: .ref a :: rs) w P :=
  Wp.lald hi hr hs (vp_nI hj hn) (by rw [nI_clamp (by omega)]; exact h)
theorem Wp.lasn {a n j : Nat} {v : Int64} {len fa fb fc : Nat} (hi : cd[pc]? = some (.lastore, len, fa, fb, fc)) (hr : a < zEX) (hs : w.1[a]? = some (1, n)) (hj : j < n) (hn : n < 2 ^ 31) (h : Wp E d cd (pc + 1) lv rs (w.1, w.2.1, zup w.2.2.1 a j v, w.2.2.2) P) : Wp E d cd pc lv (.long v :: .int (nI j) :: .ref a :: rs) w P :=
  Wp.last hi hr hs (vp_nI hj hn) (by rw [nI_clamp (by omega)]; exact h)
end WL
section TP
variable {vs : List (Nat × Nat)} {mi : Nat → Nat → Int32} {ml : Nat → Nat → Int64} {g : Nat → Nat → Option Nat} {t : Nat} {as : List Value}
theorem tp_ob (h : t < 6) : zob (zsh ++ vs, mi, ml, zmr g) (54 + 2 * t) 4 = true := by
  rcases (show t = 0 ∨ t = 1 ∨ t = 2 ∨ t = 3 ∨ t = 4 ∨ t = 5 by omega) with rfl | rfl | rfl | rfl | rfl | rfl <;> rfl
theorem tp_g2 (h : t < 6) : (zob (zsh ++ vs, mi, ml, zmr g) (54 + 2 * t) 4 && !(decide (4 = 20))) = true := by rw [tp_ob h]; rfl
theorem tp_rc (h : t < 6) : zrecv (zsh ++ vs, mi, ml, zmr g) 4 (.ref (54 + 2 * t) :: as) = true := tp_ob (mi := mi) (ml := ml) (g := g) h
theorem tp_ref (h : t < 6) : zmr g 53 t = some (54 + 2 * t) := by
  rcases (show t = 0 ∨ t = 1 ∨ t = 2 ∨ t = 3 ∨ t = 4 ∨ t = 5 by omega) with rfl | rfl | rfl | rfl | rfl | rfl <;> rfl
theorem tp_it (h : t < 6) : zmr g (54 + 2 * t) 2 = some (55 + 2 * t) := by
  rcases (show t = 0 ∨ t = 1 ∨ t = 2 ∨ t = 3 ∨ t = 4 ∨ t = 5 by omega) with rfl | rfl | rfl | rfl | rfl | rfl <;> rfl
theorem tp_sh (h : t < 6) : (zsh ++ vs)[55 + 2 * t]? = some (1, 60) := by
  rcases (show t = 0 ∨ t = 1 ∨ t = 2 ∨ t = 3 ∨ t = 4 ∨ t = 5 by omega) with rfl | rfl | rfl | rfl | rfl | rfl <;> rfl
end TP
theorem ix_60 (a b : Nat) : (60 : Int32) * nI a + nI b = nI (60 * a + b) := by
  show nI 60 * nI a + nI b = _
  rw [pk_mul, nI_add]
theorem zupL_at {m : Nat → Nat → Int64} {k j : Nat} {v : Int64} : zup m k j v k j = v := by simp only [zup, if_true]
theorem zupL_rd {m : Nat → Nat → Int64} {k j i : Nat} {v : Int64} (h : ¬ i = j) : zup m k j v k i = m k i := by simp only [zup, if_true, if_neg h]
theorem INV.tp {nv : Nat} {VD : Nat → zV} {NL : Nat → Nat} {n dd : Nat} {vs : List (Nat × Nat)} {mi m : Nat → Nat → Int32} {ml l : Nat → Nat → Int64} {g : Nat → Nat → Option Nat} (I : INV nv VD NL n dd vs mi ml g) (hb : ∀ b, (b < 54 ∨ 65 < b) → ¬ b = 82 → ¬ b = 83 → m b = mi b) (T : TPr m l) : INV nv VD NL n dd vs m l g := by
  obtain ⟨⟨i1, i2⟩, ⟨i3, i4, i5⟩, i6, i7, i8, i9, i10, i11⟩ := I
  have e67 : m 67 = mi 67 := hb 67 (by decide) (by decide) (by decide)
  refine ⟨⟨?_, i2⟩, ⟨?_, ?_, ?_⟩, ?_, ?_, ?_, ?_, T, ?_⟩
  · rw [e67]; exact BR_fr i1 (fun b p q => hb b (by omega) (by omega) (by omega))
  · rw [e67]; exact i3.fr (by rw [hb 21 (by omega) (by omega) (by omega)]) (hb _ (by omega) (by omega) (by omega)) (hb _ (by omega) (by omega) (by omega)) (hb _ (by omega) (by omega) (by omega)) (fun _ _ _ => rfl) (Nat.le_refl _)
  · rw [e67]; exact i4.fr (by rw [hb 21 (by omega) (by omega) (by omega)]) (hb _ (by omega) (by omega) (by omega)) (hb _ (by omega) (by omega) (by omega)) (fun _ _ _ => rfl) (Nat.le_refl _)
  · rw [e67]; exact i5.fr (by rw [hb 21 (by omega) (by omega) (by omega)]) (hb _ (by omega) (by omega) (by omega)) (hb _ (by omega) (by omega) (by omega)) (fun _ _ _ => rfl)
  · exact i6.fr (by rw [hb 0 (by omega) (by omega) (by omega)]) (by rw [hb 66 (by omega) (by omega) (by omega)]) (fun b q => hb b (by omega) (by omega) (by omega)) rfl
  · exact i7.fr (by rw [hb 48 (by omega) (by omega) (by omega)]) (by rw [hb 66 (by omega) (by omega) (by omega)]) (hb _ (by omega) (by omega) (by omega)) (hb _ (by omega) (by omega) (by omega))
  · exact i8.fr (by rw [hb 0 (by omega) (by omega) (by omega)]) (by rw [hb 66 (by omega) (by omega) (by omega)]) (hb _ (by omega) (by omega) (by omega)) (hb _ (by omega) (by omega) (by omega)) (fun b _ => hb b (by omega) (by omega) (by omega)) (fun b _ => rfl)
  · exact i9.fr (by rw [hb 51 (by omega) (by omega) (by omega)]) (by rw [hb 66 (by omega) (by omega) (by omega)]) (hb _ (by omega) (by omega) (by omega)) (hb _ (by omega) (by omega) (by omega))
  · exact i11.fr (fun b _ => hb b (by omega) (by omega) (by omega))
/-- both tapes at t laid anew, or one item of both -/
theorem TPr.up {mi m : Nat → Nat → Int32} {ml l : Nat → Nat → Int64} {t : Nat} (T : TPr mi ml) (ht : t < 6) (h1 : ∀ u, u < 6 → ¬ u = t → m (54 + 2 * u) = mi (54 + 2 * u) ∧ m 82 u = mi 82 u ∧ m 83 u = mi 83 u ∧ l (55 + 2 * u) = ml (55 + 2 * u) ∧ ∀ j, j < 60 → l 84 (60 * u + j) = ml 84 (60 * u + j))
    (h2 : ∃ c, c ≤ 60 ∧ m (54 + 2 * t) 1 = nI c ∧ m 83 t = nI c ∧ m (54 + 2 * t) 0 = m 82 t ∧ ((m 82 t = -1 ∧ c = 0) ∨ ∃ s, s ≤ 4 ∧ m 82 t = nI s) ∧ ∀ j, j < 60 → l (55 + 2 * t) j = l 84 (60 * t + j)) : TPr m l := by
  intro u hu
  by_cases e : u = t
  · subst e; exact h2
  · obtain ⟨a1, a2, a3, a4, a5⟩ := h1 u hu e
    obtain ⟨c, b1, b2, b3, b4, b5, b6⟩ := T u hu
    exact ⟨c, b1, by rw [a1]; exact b2, by rw [a3]; exact b3, by rw [a1, a2]; exact b4, by rw [a2]; exact b5, fun j hj => by rw [a4, a5 j hj]; exact b6 j hj⟩
theorem c_fill_l {E : zEn} {vs : List (Nat × Nat)} {mi : Nat → Nat → Int32} {ml : Nat → Nat → Int64} {g : Nat → Nat → Option Nat} {a : Nat} {v : Int64} (ha : a < zEX) (hs : (zsh ++ vs)[a]? = some (1, 60)) : ∀ (k j : Nat) (l : Nat → Nat → Int64), j + k = 60 → (∀ b, ¬ b = a → l b = ml b) → (∀ i, i < j → l a i = v) → Wp E 0 pg_Arrays_fill2 6 [(0, .ref a), (1, .long v), (3, .int (nI j)), (4, .int 60)] [] (zsh ++ vs, mi, l, (zmr g)) (fun r w' => r = none ∧ ∃ l, w' = (zsh ++ vs, mi, l, zmr g) ∧ (∀ b, ¬ b = a → l b = ml b) ∧ ∀ i, i < 60 → l a i = v) := by
  intro k
  induction k with
  | zero =>
    intro j l hj h1 h2
    obtain rfl : 60 = j := by omega
    refine Wp.run 2 (9, [(0, .ref a), (1, .long v), (3, .int (nI 60)), (4, .int 60)], [.int 60, .int (nI 60)], (zsh ++ vs, mi, l, (zmr g))) rfl ?_
    refine Wp.icmp_ge rfl (fun h31 => ?_) (fun h31 => ?_)
    · refine Wp.run 0 (22, [(0, .ref a), (1, .long v), (3, .int (nI 60)), (4, .int 60)], [], (zsh ++ vs, mi, l, (zmr g))) rfl ?_
      refine Wp.ret rfl rfl rfl ?_
      exact ⟨rfl, l, rfl, h1, h2⟩
    · exact absurd (Int32.le_refl _) h31
  | succ k ih =>
    intro j l hj h1 h2
    have hjc : j < 60 := by omega
    refine Wp.run 2 (9, [(0, .ref a), (1, .long v), (3, .int (nI j)), (4, .int 60)], [.int 60, .int (nI j)], (zsh ++ vs, mi, l, (zmr g))) rfl ?_
    refine Wp.icmp_ge rfl (fun h31 => ?_) (fun h31 => ?_)
    · exact absurd h31 (nI_ge (b := 60) hjc (by omega))
    · refine Wp.run 3 (15, [(0, .ref a), (1, .long v), (3, .int (nI j)), (4, .int 60)], [.long v, .int (nI j), .ref a], (zsh ++ vs, mi, l, (zmr g))) rfl ?_
      refine Wp.lasn rfl ha hs (by omega) (by decide) ?_
      refine Wp.run 2 (6, [(3, .int ((nI j) + 1)), (0, .ref a), (1, .long v), (4, .int 60)], [], (zsh ++ vs, mi, (zup l a j v), (zmr g))) rfl ?_
      rw [nI_1]
      refine Wp.sub (a := [(0, .ref a), (1, .long v), (3, .int (nI (j + 1))), (4, .int 60)]) (zle_cons rfl (zle_cons rfl (zle_cons rfl (zle_cons rfl (zle_nil))))) ?_
      refine ih (j + 1) (zup l a j v) (by omega) (fun b hb => by rw [zup_ne hb]; exact h1 b hb) (fun i hi => ?_)
      by_cases e : i = j
      · subst e; exact zupL_at
      · rw [zupL_rd e]; exact h2 i (by omega)
theorem c_fill2 {E : zEn} {vs : List (Nat × Nat)} {mi : Nat → Nat → Int32} {ml : Nat → Nat → Int64} {g : Nat → Nat → Option Nat} {a : Nat} {v : Int64} (ha : a < zEX) (hs : (zsh ++ vs)[a]? = some (1, 60)) : Wp E 0 pg_Arrays_fill2 0 (lv_args 0 [.ref a, .long v]) [] (zsh ++ vs, mi, ml, (zmr g)) (fun r w' => r = none ∧ ∃ l, w' = (zsh ++ vs, mi, l, zmr g) ∧ (∀ b, ¬ b = a → l b = ml b) ∧ ∀ i, i < 60 → l a i = v) := by
  refine Wp.run 3 (3, [(3, .int 0), (0, .ref a), (1, .long v)], [.ref a], (zsh ++ vs, mi, ml, (zmr g))) rfl ?_
  refine Wp.alen rfl ha hs (by decide) ?_
  refine Wp.topi (y := 60) (rfl) ?_
  refine Wp.run 1 (6, [(4, .int 60), (3, .int 0), (0, .ref a), (1, .long v)], [], (zsh ++ vs, mi, ml, (zmr g))) rfl ?_
  refine Wp.sub (a := [(0, .ref a), (1, .long v), (3, .int (nI 0)), (4, .int 60)]) (zle_cons rfl (zle_cons rfl (zle_cons rfl (zle_cons rfl (zle_nil))))) ?_
  exact c_fill_l ha hs 60 0 ml (by omega) (fun _ _ => rfl) (fun i hi => absurd hi (Nat.not_lt_zero i))
theorem c_lay {E : zEn} {vs : List (Nat × Nat)} {mi : Nat → Nat → Int32} {ml : Nat → Nat → Int64} {g : Nat → Nat → Option Nat} {t : Nat} {s c : Int32} (ht : t < 6) : Wp E 1 pg_Tape_lay 0 (lv_args 0 [.ref (54 + 2 * t), .int s, .int c]) [] (zsh ++ vs, mi, ml, (zmr g)) (fun r w' => r = none ∧ ∃ l, w' = (zsh ++ vs, zup (zup mi (54 + 2 * t) 0 s) (54 + 2 * t) 1 c, l, zmr g) ∧ (∀ b, ¬ b = 55 + 2 * t → l b = ml b) ∧ ∀ i, i < 60 → l (55 + 2 * t) i = 0) := by
  refine Wp.run 2 (2, [(0, .ref (54 + 2 * t)), (1, .int s), (2, .int c)], [.int s, .ref (54 + 2 * t)], (zsh ++ vs, mi, ml, (zmr g))) rfl ?_
  refine Wp.pint rfl (tp_ob ht) rfl ?_
  refine Wp.run 2 (7, [(0, .ref (54 + 2 * t)), (1, .int s), (2, .int c)], [.int c, .ref (54 + 2 * t)], (zsh ++ vs, (zup mi (54 + 2 * t) 0 s), ml, (zmr g))) rfl ?_
  refine Wp.pint rfl (tp_ob ht) rfl ?_
  refine Wp.run 1 (11, [(0, .ref (54 + 2 * t)), (1, .int s), (2, .int c)], [.ref (54 + 2 * t)], (zsh ++ vs, (zup (zup mi (54 + 2 * t) 0 s) (54 + 2 * t) 1 c), ml, (zmr g))) rfl ?_
  refine Wp.gref rfl (tp_g2 ht) rfl (tp_it ht) ?_
  refine Wp.run 1 (15, [(0, .ref (54 + 2 * t)), (1, .int s), (2, .int c)], [.long 0, .ref (55 + 2 * t)], (zsh ++ vs, (zup (zup mi (54 + 2 * t) 0 s) (54 + 2 * t) 1 c), ml, (zmr g))) rfl ?_
  refine Wp.call (as := [.ref (55 + 2 * t), .long 0]) (rest := []) rfl rfl rfl rfl rfl (Nat.le_of_ble_eq_true rfl) (Nat.le_of_ble_eq_true rfl) rfl (by decide) (c_fill2 (by show _ < 500; omega) (tp_sh ht)) ?_
  rintro _ _ ⟨rfl, l9, rfl, h1, h2⟩
  refine Wp.run 0 (18, [(0, .ref (54 + 2 * t)), (1, .int s), (2, .int c)], [], (zsh ++ vs, (zup (zup mi (54 + 2 * t) 0 s) (54 + 2 * t) 1 c), l9, (zmr g))) rfl ?_
  refine Wp.ret rfl rfl rfl ?_
  exact ⟨rfl, l9, rfl, h1, h2⟩
theorem m_tape_l {E : zEn} {vs : List (Nat × Nat)} {mi : Nat → Nat → Int32} {ml : Nat → Nat → Int64} {g : Nat → Nat → Option Nat} {t : Nat} {s c : Int32} (ht : t < 6) : ∀ (k j : Nat) (l : Nat → Nat → Int64), j + k = 60 → (∀ b, ¬ b = 84 → l b = ml b) → (∀ i, (i < 60 * t ∨ 60 * t + 60 ≤ i) → l 84 i = ml 84 i) → (∀ i, i < j → l 84 (60 * t + i) = 0) → Wp E 2 pg_M_tape 67 [(0, .ref 66), (1, .int (nI t)), (2, .int s), (3, .int c), (4, .int (nI j))] [] (zsh ++ vs, mi, l, (zmr g)) (fun r w' => r = some (.int 1) ∧ ∃ l, w' = (zsh ++ vs, mi, l, zmr g) ∧ (∀ b, ¬ b = 84 → l b = ml b) ∧ (∀ i, (i < 60 * t ∨ 60 * t + 60 ≤ i) → l 84 i = ml 84 i) ∧ ∀ i, i < 60 → l 84 (60 * t + i) = 0) := by
  intro k
  induction k with
  | zero =>
    intro j l hj h1 h2 h3
    obtain rfl : 60 = j := by omega
    refine Wp.run 2 (71, [(0, .ref 66), (1, .int (nI t)), (2, .int s), (3, .int c), (4, .int (nI 60))], [.int 60, .int (nI 60)], (zsh ++ vs, mi, l, (zmr g))) rfl ?_
    refine Wp.icmp_ge rfl (fun h31 => ?_) (fun h31 => ?_)
    · refine Wp.run 1 (94, [(0, .ref 66), (1, .int (nI t)), (2, .int s), (3, .int c), (4, .int (nI 60))], [.int 1], (zsh ++ vs, mi, l, (zmr g))) rfl ?_
      refine Wp.ret rfl rfl rfl ?_
      exact ⟨rfl, l, rfl, h1, h2, h3⟩
    · exact absurd (Int32.le_refl _) h31
  | succ k ih =>
    intro j l hj h1 h2 h3
    have hjc : j < 60 := by omega
    refine Wp.run 2 (71, [(0, .ref 66), (1, .int (nI t)), (2, .int s), (3, .int c), (4, .int (nI j))], [.int 60, .int (nI j)], (zsh ++ vs, mi, l, (zmr g))) rfl ?_
    refine Wp.icmp_ge rfl (fun h31 => ?_) (fun h31 => ?_)
    · exact absurd h31 (nI_ge (b := 60) hjc (by omega))
    · refine Wp.run 7 (85, [(0, .ref 66), (1, .int (nI t)), (2, .int s), (3, .int c), (4, .int (nI j))], [.int ((60 * (nI t)) + (nI j)), .ref 84], (zsh ++ vs, mi, l, (zmr g))) rfl ?_
      refine Wp.topi (y := nI (60 * t + j)) (ix_60 t j) ?_
      refine Wp.run 1 (86, [(0, .ref 66), (1, .int (nI t)), (2, .int s), (3, .int c), (4, .int (nI j))], [.long 0, .int (nI (60 * t + j)), .ref 84], (zsh ++ vs, mi, l, (zmr g))) rfl ?_
      refine Wp.lasn rfl (by decide) rfl (by omega) (by decide) ?_
      refine Wp.run 2 (67, [(4, .int ((nI j) + 1)), (0, .ref 66), (1, .int (nI t)), (2, .int s), (3, .int c)], [], (zsh ++ vs, mi, (zup l 84 (60 * t + j) 0), (zmr g))) rfl ?_
      rw [nI_1]
      refine Wp.sub (a := [(0, .ref 66), (1, .int (nI t)), (2, .int s), (3, .int c), (4, .int (nI (j + 1)))]) (zle_cons rfl (zle_cons rfl (zle_cons rfl (zle_cons rfl (zle_cons rfl (zle_nil)))))) ?_
      refine ih (j + 1) (zup l 84 (60 * t + j) 0) (by omega) (fun b hb => by rw [zup_ne hb]; exact h1 b hb) (fun i hi => by rw [zupL_rd (by omega)]; exact h2 i hi) (fun i hi => ?_)
      by_cases e : i = j
      · subst e; exact zupL_at
      · rw [zupL_rd (by omega)]; exact h3 i (by omega)
theorem rng_m1 {s : Int32} (h : ¬ s = -1) (z : -1 ≤ s ∧ s ≤ 4) : 0 ≤ s ∧ s ≤ 4 := by
  refine ⟨?_, z.2⟩
  have h1 := Int32.le_iff_toInt_le.mp z.1
  rw [show (-1 : Int32).toInt = -1 from by decide] at h1
  rw [Int32.le_iff_toInt_le, show (0 : Int32).toInt = 0 from by decide]
  by_cases e : s.toInt = -1
  · exact absurd (Int32.toInt_inj.mp (e.trans (by decide))) h
  · omega
theorem sim_tape {E : zEn} {nv : Nat} {VD : Nat → zV} {NL : Nat → Nat} {n dd : Nat} {vs : List (Nat × Nat)} {mi : Nat → Nat → Int32} {ml : Nat → Nat → Int64} {g : Nat → Nat → Option Nat} (I : INV nv VD NL n dd vs mi ml g) (x s c : Int32) : SIM E vs mi ml g pg_H_tape pg_M_tape [.int x, .int s, .int c] := by
  have B := I.1.1
  have h6 := B.1.2.1
  have hn := B.2.1
  have hN := B.1.1
  have hd := B.1.2.2.1
  have hdd := I.1.2
  by_cases hx : 0 ≤ x ∧ x ≤ 5
  rotate_left
  · refine SIM.q I (x := -1) (dc := 7) (dm := 27) (by decide) (by decide) ?_ ?_
    · refine Wp.run 2 (2, [(0, .ref 0), (1, .int x), (2, .int s), (3, .int c)], [.int 5, .int x], (zsh ++ vs, mi, ml, (zmr g))) rfl ?_
      refine Wp.call (as := [.int x, .int 5]) (rest := []) rfl rfl rfl rfl rfl (Nat.le_of_ble_eq_true rfl) (Nat.le_of_ble_eq_true rfl) rfl (by decide) (c_within_f hx) ?_
      rintro _ _ ⟨rfl, rfl⟩
      refine Wp.run 2 (9, [(0, .ref 0), (1, .int x), (2, .int s), (3, .int c)], [.int (-1)], (zsh ++ vs, mi, ml, (zmr g))) rfl ?_
      refine Wp.ret rfl rfl rfl ?_
      exact ⟨rfl, _, _, rfl, SC.rf, fun _ _ _ => rfl⟩
    · intro m g' I' e67 S
      have B' := I'.1.1
      have hn' := B'.2.1
      have hN' := B'.1.1
      have hd' := B'.1.2.2.1
      refine Wp.run 1 (1, [(0, .ref 66), (1, .int x), (2, .int s), (3, .int c)], [.int x], (zsh ++ vs, m, ml, (zmr g'))) rfl ?_
      refine Wp.call (as := [.int x]) (rest := []) rfl rfl rfl rfl rfl (Nat.le_of_ble_eq_true rfl) (Nat.le_of_ble_eq_true rfl) rfl (by decide) (m_isTape_f hx) ?_
      rintro _ _ ⟨rfl, rfl⟩
      refine Wp.run 2 (8, [(0, .ref 66), (1, .int x), (2, .int s), (3, .int c)], [.int (-1)], (zsh ++ vs, m, ml, (zmr g'))) rfl ?_
      refine Wp.ret rfl rfl rfl ?_
      exact ⟨rfl, _, rfl, SC.rf⟩
  obtain ⟨t, ht5, rfl⟩ := rng_of (h := 5) rfl hx
  have ht : t < 6 := by omega
  by_cases hm1 : s = -1
  · subst hm1
    refine SIM.g (dc := 7) (dm := 7) (fun x vs1 m1 l1 g1 => x = 1 ∧ vs = vs1 ∧ g = g1 ∧ m1 = zup (zup mi (54 + 2 * t) 0 (-1)) (54 + 2 * t) 1 0 ∧ (∀ b, ¬ b = 55 + 2 * t → l1 b = ml b) ∧ ∀ i, i < 60 → l1 (55 + 2 * t) i = 0) (by decide) (by decide) ?_ ?_
    · refine Wp.run 2 (2, [(0, .ref 0), (1, .int (nI t)), (2, .int (-1)), (3, .int c)], [.int 5, .int (nI t)], (zsh ++ vs, mi, ml, (zmr g))) rfl ?_
      refine Wp.call (as := [.int (nI t), .int 5]) (rest := []) rfl rfl rfl rfl rfl (Nat.le_of_ble_eq_true rfl) (Nat.le_of_ble_eq_true rfl) rfl (by decide) (c_within_t hx) ?_
      rintro _ _ ⟨rfl, rfl⟩
      refine Wp.run 7 (20, [(0, .ref 0), (1, .int (nI t)), (2, .int (-1)), (3, .int c)], [.int (nI t), .ref 53], (zsh ++ vs, mi, ml, (zmr g))) rfl ?_
      refine Wp.aald (v := 54 + 2 * t) rfl (by decide) rfl (vp_nI (by omega) (by decide)) (by show zmr g 53 (nI t).toNatClampNeg = _; rw [nI_clamp (by omega)]; exact tp_ref ht) (by show _ < 500; omega) ?_
      refine Wp.run 2 (23, [(0, .ref 0), (1, .int (nI t)), (2, .int (-1)), (3, .int c)], [.int 0, .int (-1), .ref (54 + 2 * t)], (zsh ++ vs, mi, ml, (zmr g))) rfl ?_
      refine Wp.call (as := [.ref (54 + 2 * t), .int (-1), .int 0]) (rest := []) rfl rfl rfl rfl rfl (Nat.le_of_ble_eq_true rfl) (Nat.le_of_ble_eq_true rfl) (tp_rc ht) (by decide) (c_lay ht) ?_
      rintro _ _ ⟨rfl, l9, rfl, h1, h2⟩
      refine Wp.run 1 (27, [(0, .ref 0), (1, .int (nI t)), (2, .int (-1)), (3, .int c)], [.int 1], (zsh ++ vs, (zup (zup mi (54 + 2 * t) 0 (-1)) (54 + 2 * t) 1 0), l9, (zmr g))) rfl ?_
      refine Wp.ret rfl rfl rfl ?_
      exact ⟨1, rfl, vs, _, l9, g, rfl, rfl, rfl, rfl, rfl, h1, h2⟩
    · rintro x vs1 m1 l1 g1 ⟨rfl, rfl, rfl, rfl, q2, q3⟩
      refine Wp.run 1 (1, [(0, .ref 66), (1, .int (nI t)), (2, .int (-1)), (3, .int c)], [.int (nI t)], (zsh ++ vs, (zup (zup mi (54 + 2 * t) 0 (-1)) (54 + 2 * t) 1 0), l1, (zmr g))) rfl ?_
      refine Wp.call (as := [.int (nI t)]) (rest := []) rfl rfl rfl rfl rfl (Nat.le_of_ble_eq_true rfl) (Nat.le_of_ble_eq_true rfl) rfl (by decide) (m_isTape_t hx) ?_
      rintro _ _ ⟨rfl, rfl⟩
      refine Wp.run 4 (12, [(0, .ref 66), (1, .int (nI t)), (2, .int (-1)), (3, .int c)], [.int 4, .int (-1), .int (-1)], (zsh ++ vs, (zup (zup mi (54 + 2 * t) 0 (-1)) (54 + 2 * t) 1 0), l1, (zmr g))) rfl ?_
      refine Wp.call (as := [.int (-1), .int (-1), .int 4]) (rest := []) rfl rfl rfl rfl rfl (Nat.le_of_ble_eq_true rfl) (Nat.le_of_ble_eq_true rfl) rfl (by decide) (m_isIn_t ⟨by decide, by decide⟩) ?_
      rintro _ _ ⟨rfl, rfl⟩
      refine Wp.run 9 (48, [(0, .ref 66), (1, .int (nI t)), (2, .int (-1)), (3, .int c)], [.int (-1), .int (nI t), .ref 82], (zsh ++ vs, (zup (zup mi (54 + 2 * t) 0 (-1)) (54 + 2 * t) 1 0), l1, (zmr g))) rfl ?_
      refine Wp.iasn rfl (by decide) rfl (by omega) (by decide) ?_
      refine Wp.run 7 (63, [(0, .ref 66), (1, .int (nI t)), (2, .int (-1)), (3, .int c)], [.int 0, .int (nI t), .ref 83], (zsh ++ vs, (zup (zup (zup mi (54 + 2 * t) 0 (-1)) (54 + 2 * t) 1 0) 82 t (-1)), l1, (zmr g))) rfl ?_
      refine Wp.iasn rfl (by decide) rfl (by omega) (by decide) ?_
      refine Wp.run 2 (67, [(4, .int 0), (0, .ref 66), (1, .int (nI t)), (2, .int (-1)), (3, .int c)], [], (zsh ++ vs, (zup (zup (zup (zup mi (54 + 2 * t) 0 (-1)) (54 + 2 * t) 1 0) 82 t (-1)) 83 t 0), l1, (zmr g))) rfl ?_
      refine Wp.sub (a := [(0, .ref 66), (1, .int (nI t)), (2, .int (-1)), (3, .int c), (4, .int (nI 0))]) (zle_cons rfl (zle_cons rfl (zle_cons rfl (zle_cons rfl (zle_cons rfl (zle_nil)))))) ?_
      refine ((m_tape_l (ml := l1) ht 60 0 l1 (by omega) (fun _ _ => rfl) (fun _ _ => rfl) (fun i hi => absurd hi (Nat.not_lt_zero i))).deep (by decide)).weak ?_
      rintro _ _ ⟨rfl, l2, rfl, k1, k2, k3⟩
      refine ⟨rfl, (I.tp (fun b p q r => ?_) (I.2.2.2.2.2.2.1.up ht (fun u hu hut => ⟨?_, ?_, ?_, ?_, fun j hj => ?_⟩) ⟨0, by omega, ?_, ?_, ?_, ?_, fun j hj => ?_⟩)).x⟩
      · rw [zup_ne r, zup_ne q, zup_ne (by omega), zup_ne (by omega)]
      · rw [zup_ne (by omega), zup_ne (by omega), zup_ne (by omega), zup_ne (by omega)]
      · rw [zup_ne (by decide), zup_rd hut, zup_ne (by omega), zup_ne (by omega)]
      · rw [zup_rd hut, zup_ne (by decide), zup_ne (by omega), zup_ne (by omega)]
      · rw [k1 _ (by omega), q2 _ (by omega)]
      · rw [k2 _ (by omega), q2 _ (by omega)]
      · rw [zup_ne (by omega), zup_ne (by omega)]; exact zup_at
      · exact zup_at
      · rw [zup_ne (by omega), zup_ne (by omega), zup_rd (by decide), zup_at, zup_ne (by decide), zup_at]
      · rw [zup_ne (by decide), zup_at]; exact Or.inl ⟨rfl, rfl⟩
      · rw [k1 _ (by omega), q3 j hj, k3 j hj]
  by_cases hs : 0 ≤ s ∧ s ≤ 4
  rotate_left
  · refine SIM.q I (x := -2) (dc := 7) (dm := 27) (by decide) (by decide) ?_ ?_
    · refine Wp.run 2 (2, [(0, .ref 0), (1, .int (nI t)), (2, .int s), (3, .int c)], [.int 5, .int (nI t)], (zsh ++ vs, mi, ml, (zmr g))) rfl ?_
      refine Wp.call (as := [.int (nI t), .int 5]) (rest := []) rfl rfl rfl rfl rfl (Nat.le_of_ble_eq_true rfl) (Nat.le_of_ble_eq_true rfl) rfl (by decide) (c_within_t hx) ?_
      rintro _ _ ⟨rfl, rfl⟩
      refine Wp.run 3 (12, [(0, .ref 0), (1, .int (nI t)), (2, .int s), (3, .int c)], [.int (-1), .int s], (zsh ++ vs, mi, ml, (zmr g))) rfl ?_
      refine Wp.icmp_ne rfl (fun h1 => ?_) (fun h1 => ?_)
      · refine Wp.run 2 (30, [(0, .ref 0), (1, .int (nI t)), (2, .int s), (3, .int c)], [.int 4, .int s], (zsh ++ vs, mi, ml, (zmr g))) rfl ?_
        refine Wp.call (as := [.int s, .int 4]) (rest := []) rfl rfl rfl rfl rfl (Nat.le_of_ble_eq_true rfl) (Nat.le_of_ble_eq_true rfl) rfl (by decide) (c_within_f hs) ?_
        rintro _ _ ⟨rfl, rfl⟩
        refine Wp.run 2 (44, [(0, .ref 0), (1, .int (nI t)), (2, .int s), (3, .int c)], [.int (-2)], (zsh ++ vs, mi, ml, (zmr g))) rfl ?_
        refine Wp.ret rfl rfl rfl ?_
        exact ⟨rfl, _, _, rfl, SC.rf, fun _ _ _ => rfl⟩
      · exact absurd h1 hm1
    · intro m g' I' e67 S
      have B' := I'.1.1
      have hn' := B'.2.1
      have hN' := B'.1.1
      have hd' := B'.1.2.2.1
      refine Wp.run 1 (1, [(0, .ref 66), (1, .int (nI t)), (2, .int s), (3, .int c)], [.int (nI t)], (zsh ++ vs, m, ml, (zmr g'))) rfl ?_
      refine Wp.call (as := [.int (nI t)]) (rest := []) rfl rfl rfl rfl rfl (Nat.le_of_ble_eq_true rfl) (Nat.le_of_ble_eq_true rfl) rfl (by decide) (m_isTape_t hx) ?_
      rintro _ _ ⟨rfl, rfl⟩
      refine Wp.run 4 (12, [(0, .ref 66), (1, .int (nI t)), (2, .int s), (3, .int c)], [.int 4, .int (-1), .int s], (zsh ++ vs, m, ml, (zmr g'))) rfl ?_
      refine Wp.call (as := [.int s, .int (-1), .int 4]) (rest := []) rfl rfl rfl rfl rfl (Nat.le_of_ble_eq_true rfl) (Nat.le_of_ble_eq_true rfl) rfl (by decide) (m_isIn_f (fun z => hs (rng_m1 hm1 z))) ?_
      rintro _ _ ⟨rfl, rfl⟩
      refine Wp.run 2 (30, [(0, .ref 66), (1, .int (nI t)), (2, .int s), (3, .int c)], [.int (-2)], (zsh ++ vs, m, ml, (zmr g'))) rfl ?_
      refine Wp.ret rfl rfl rfl ?_
      exact ⟨rfl, _, rfl, SC.rf⟩
  by_cases hb : c ≤ 60
  rotate_left
  · refine SIM.q I (x := -2) (dc := 7) (dm := 27) (by decide) (by decide) ?_ ?_
    · refine Wp.run 2 (2, [(0, .ref 0), (1, .int (nI t)), (2, .int s), (3, .int c)], [.int 5, .int (nI t)], (zsh ++ vs, mi, ml, (zmr g))) rfl ?_
      refine Wp.call (as := [.int (nI t), .int 5]) (rest := []) rfl rfl rfl rfl rfl (Nat.le_of_ble_eq_true rfl) (Nat.le_of_ble_eq_true rfl) rfl (by decide) (c_within_t hx) ?_
      rintro _ _ ⟨rfl, rfl⟩
      refine Wp.run 3 (12, [(0, .ref 0), (1, .int (nI t)), (2, .int s), (3, .int c)], [.int (-1), .int s], (zsh ++ vs, mi, ml, (zmr g))) rfl ?_
      refine Wp.icmp_ne rfl (fun h1 => ?_) (fun h1 => ?_)
      · refine Wp.run 2 (30, [(0, .ref 0), (1, .int (nI t)), (2, .int s), (3, .int c)], [.int 4, .int s], (zsh ++ vs, mi, ml, (zmr g))) rfl ?_
        refine Wp.call (as := [.int s, .int 4]) (rest := []) rfl rfl rfl rfl rfl (Nat.le_of_ble_eq_true rfl) (Nat.le_of_ble_eq_true rfl) rfl (by decide) (c_within_t hs) ?_
        rintro _ _ ⟨rfl, rfl⟩
        refine Wp.run 3 (39, [(0, .ref 0), (1, .int (nI t)), (2, .int s), (3, .int c)], [.int 60, .int c], (zsh ++ vs, mi, ml, (zmr g))) rfl ?_
        refine Wp.icmp_le rfl (fun h2 => ?_) (fun h2 => ?_)
        · exact absurd h2 hb
        · refine Wp.run 1 (44, [(0, .ref 0), (1, .int (nI t)), (2, .int s), (3, .int c)], [.int (-2)], (zsh ++ vs, mi, ml, (zmr g))) rfl ?_
          refine Wp.ret rfl rfl rfl ?_
          exact ⟨rfl, _, _, rfl, SC.rf, fun _ _ _ => rfl⟩
      · exact absurd h1 hm1
    · intro m g' I' e67 S
      have B' := I'.1.1
      have hn' := B'.2.1
      have hN' := B'.1.1
      have hd' := B'.1.2.2.1
      refine Wp.run 1 (1, [(0, .ref 66), (1, .int (nI t)), (2, .int s), (3, .int c)], [.int (nI t)], (zsh ++ vs, m, ml, (zmr g'))) rfl ?_
      refine Wp.call (as := [.int (nI t)]) (rest := []) rfl rfl rfl rfl rfl (Nat.le_of_ble_eq_true rfl) (Nat.le_of_ble_eq_true rfl) rfl (by decide) (m_isTape_t hx) ?_
      rintro _ _ ⟨rfl, rfl⟩
      refine Wp.run 4 (12, [(0, .ref 66), (1, .int (nI t)), (2, .int s), (3, .int c)], [.int 4, .int (-1), .int s], (zsh ++ vs, m, ml, (zmr g'))) rfl ?_
      refine Wp.call (as := [.int s, .int (-1), .int 4]) (rest := []) rfl rfl rfl rfl rfl (Nat.le_of_ble_eq_true rfl) (Nat.le_of_ble_eq_true rfl) rfl (by decide) (m_isIn_t ⟨Int32.le_trans (by decide) hs.1, hs.2⟩) ?_
      rintro _ _ ⟨rfl, rfl⟩
      refine Wp.run 2 (19, [(0, .ref 66), (1, .int (nI t)), (2, .int s), (3, .int c)], [.int s], (zsh ++ vs, m, ml, (zmr g'))) rfl ?_
      refine Wp.if_lt rfl (fun h51 => ?_) (fun h51 => ?_)
      · exact absurd h51 (Int32.not_lt.mpr hs.1)
      · refine Wp.run 2 (25, [(0, .ref 66), (1, .int (nI t)), (2, .int s), (3, .int c)], [.int 60, .int c], (zsh ++ vs, m, ml, (zmr g'))) rfl ?_
        refine Wp.icmp_le rfl (fun h52 => ?_) (fun h52 => ?_)
        · exact absurd h52 hb
        · refine Wp.run 1 (30, [(0, .ref 66), (1, .int (nI t)), (2, .int s), (3, .int c)], [.int (-2)], (zsh ++ vs, m, ml, (zmr g'))) rfl ?_
          refine Wp.ret rfl rfl rfl ?_
          exact ⟨rfl, _, rfl, SC.rf⟩
  by_cases hc0 : 0 ≤ c
  rotate_left
  · refine SIM.q I (x := -14) (dc := 7) (dm := 27) (by decide) (by decide) ?_ ?_
    · refine Wp.run 2 (2, [(0, .ref 0), (1, .int (nI t)), (2, .int s), (3, .int c)], [.int 5, .int (nI t)], (zsh ++ vs, mi, ml, (zmr g))) rfl ?_
      refine Wp.call (as := [.int (nI t), .int 5]) (rest := []) rfl rfl rfl rfl rfl (Nat.le_of_ble_eq_true rfl) (Nat.le_of_ble_eq_true rfl) rfl (by decide) (c_within_t hx) ?_
      rintro _ _ ⟨rfl, rfl⟩
      refine Wp.run 3 (12, [(0, .ref 0), (1, .int (nI t)), (2, .int s), (3, .int c)], [.int (-1), .int s], (zsh ++ vs, mi, ml, (zmr g))) rfl ?_
      refine Wp.icmp_ne rfl (fun h1 => ?_) (fun h1 => ?_)
      · refine Wp.run 2 (30, [(0, .ref 0), (1, .int (nI t)), (2, .int s), (3, .int c)], [.int 4, .int s], (zsh ++ vs, mi, ml, (zmr g))) rfl ?_
        refine Wp.call (as := [.int s, .int 4]) (rest := []) rfl rfl rfl rfl rfl (Nat.le_of_ble_eq_true rfl) (Nat.le_of_ble_eq_true rfl) rfl (by decide) (c_within_t hs) ?_
        rintro _ _ ⟨rfl, rfl⟩
        refine Wp.run 3 (39, [(0, .ref 0), (1, .int (nI t)), (2, .int s), (3, .int c)], [.int 60, .int c], (zsh ++ vs, mi, ml, (zmr g))) rfl ?_
        refine Wp.icmp_le rfl (fun h2 => ?_) (fun h2 => ?_)
        · refine Wp.run 1 (46, [(0, .ref 0), (1, .int (nI t)), (2, .int s), (3, .int c)], [.int c], (zsh ++ vs, mi, ml, (zmr g))) rfl ?_
          refine Wp.if_ge rfl (fun h3 => ?_) (fun h3 => ?_)
          · exact absurd h3 hc0
          · refine Wp.run 1 (51, [(0, .ref 0), (1, .int (nI t)), (2, .int s), (3, .int c)], [.int (-14)], (zsh ++ vs, mi, ml, (zmr g))) rfl ?_
            refine Wp.ret rfl rfl rfl ?_
            exact ⟨rfl, _, _, rfl, SC.rf, fun _ _ _ => rfl⟩
        · exact absurd hb h2
      · exact absurd h1 hm1
    · intro m g' I' e67 S
      have B' := I'.1.1
      have hn' := B'.2.1
      have hN' := B'.1.1
      have hd' := B'.1.2.2.1
      refine Wp.run 1 (1, [(0, .ref 66), (1, .int (nI t)), (2, .int s), (3, .int c)], [.int (nI t)], (zsh ++ vs, m, ml, (zmr g'))) rfl ?_
      refine Wp.call (as := [.int (nI t)]) (rest := []) rfl rfl rfl rfl rfl (Nat.le_of_ble_eq_true rfl) (Nat.le_of_ble_eq_true rfl) rfl (by decide) (m_isTape_t hx) ?_
      rintro _ _ ⟨rfl, rfl⟩
      refine Wp.run 4 (12, [(0, .ref 66), (1, .int (nI t)), (2, .int s), (3, .int c)], [.int 4, .int (-1), .int s], (zsh ++ vs, m, ml, (zmr g'))) rfl ?_
      refine Wp.call (as := [.int s, .int (-1), .int 4]) (rest := []) rfl rfl rfl rfl rfl (Nat.le_of_ble_eq_true rfl) (Nat.le_of_ble_eq_true rfl) rfl (by decide) (m_isIn_t ⟨Int32.le_trans (by decide) hs.1, hs.2⟩) ?_
      rintro _ _ ⟨rfl, rfl⟩
      refine Wp.run 2 (19, [(0, .ref 66), (1, .int (nI t)), (2, .int s), (3, .int c)], [.int s], (zsh ++ vs, m, ml, (zmr g'))) rfl ?_
      refine Wp.if_lt rfl (fun h51 => ?_) (fun h51 => ?_)
      · exact absurd h51 (Int32.not_lt.mpr hs.1)
      · refine Wp.run 2 (25, [(0, .ref 66), (1, .int (nI t)), (2, .int s), (3, .int c)], [.int 60, .int c], (zsh ++ vs, m, ml, (zmr g'))) rfl ?_
        refine Wp.icmp_le rfl (fun h52 => ?_) (fun h52 => ?_)
        · refine Wp.run 1 (32, [(0, .ref 66), (1, .int (nI t)), (2, .int s), (3, .int c)], [.int s], (zsh ++ vs, m, ml, (zmr g'))) rfl ?_
          refine Wp.if_lt rfl (fun h53 => ?_) (fun h53 => ?_)
          · exact absurd h53 (Int32.not_lt.mpr hs.1)
          · refine Wp.run 1 (36, [(0, .ref 66), (1, .int (nI t)), (2, .int s), (3, .int c)], [.int c], (zsh ++ vs, m, ml, (zmr g'))) rfl ?_
            refine Wp.if_ge rfl (fun h54 => ?_) (fun h54 => ?_)
            · exact absurd h54 hc0
            · refine Wp.run 1 (41, [(0, .ref 66), (1, .int (nI t)), (2, .int s), (3, .int c)], [.int (-14)], (zsh ++ vs, m, ml, (zmr g'))) rfl ?_
              refine Wp.ret rfl rfl rfl ?_
              exact ⟨rfl, _, rfl, SC.rf⟩
        · exact absurd hb h52
  obtain ⟨p, hp, rfl⟩ := rng_of (h := 60) rfl ⟨hc0, hb⟩
  refine SIM.g (dc := 7) (dm := 7) (fun x vs1 m1 l1 g1 => x = 1 ∧ vs = vs1 ∧ g = g1 ∧ m1 = zup (zup mi (54 + 2 * t) 0 s) (54 + 2 * t) 1 (nI p) ∧ (∀ b, ¬ b = 55 + 2 * t → l1 b = ml b) ∧ ∀ i, i < 60 → l1 (55 + 2 * t) i = 0) (by decide) (by decide) ?_ ?_
  · refine Wp.run 2 (2, [(0, .ref 0), (1, .int (nI t)), (2, .int s), (3, .int (nI p))], [.int 5, .int (nI t)], (zsh ++ vs, mi, ml, (zmr g))) rfl ?_
    refine Wp.call (as := [.int (nI t), .int 5]) (rest := []) rfl rfl rfl rfl rfl (Nat.le_of_ble_eq_true rfl) (Nat.le_of_ble_eq_true rfl) rfl (by decide) (c_within_t hx) ?_
    rintro _ _ ⟨rfl, rfl⟩
    refine Wp.run 3 (12, [(0, .ref 0), (1, .int (nI t)), (2, .int s), (3, .int (nI p))], [.int (-1), .int s], (zsh ++ vs, mi, ml, (zmr g))) rfl ?_
    refine Wp.icmp_ne rfl (fun h1 => ?_) (fun h1 => ?_)
    · refine Wp.run 2 (30, [(0, .ref 0), (1, .int (nI t)), (2, .int s), (3, .int (nI p))], [.int 4, .int s], (zsh ++ vs, mi, ml, (zmr g))) rfl ?_
      refine Wp.call (as := [.int s, .int 4]) (rest := []) rfl rfl rfl rfl rfl (Nat.le_of_ble_eq_true rfl) (Nat.le_of_ble_eq_true rfl) rfl (by decide) (c_within_t hs) ?_
      rintro _ _ ⟨rfl, rfl⟩
      refine Wp.run 3 (39, [(0, .ref 0), (1, .int (nI t)), (2, .int s), (3, .int (nI p))], [.int 60, .int (nI p)], (zsh ++ vs, mi, ml, (zmr g))) rfl ?_
      refine Wp.icmp_le rfl (fun h2 => ?_) (fun h2 => ?_)
      · refine Wp.run 1 (46, [(0, .ref 0), (1, .int (nI t)), (2, .int s), (3, .int (nI p))], [.int (nI p)], (zsh ++ vs, mi, ml, (zmr g))) rfl ?_
        refine Wp.if_ge rfl (fun h3 => ?_) (fun h3 => ?_)
        · refine Wp.run 3 (57, [(0, .ref 0), (1, .int (nI t)), (2, .int s), (3, .int (nI p))], [.int (nI t), .ref 53], (zsh ++ vs, mi, ml, (zmr g))) rfl ?_
          refine Wp.aald (v := 54 + 2 * t) rfl (by decide) rfl (vp_nI (by omega) (by decide)) (by show zmr g 53 (nI t).toNatClampNeg = _; rw [nI_clamp (by omega)]; exact tp_ref ht) (by show _ < 500; omega) ?_
          refine Wp.run 2 (60, [(0, .ref 0), (1, .int (nI t)), (2, .int s), (3, .int (nI p))], [.int (nI p), .int s, .ref (54 + 2 * t)], (zsh ++ vs, mi, ml, (zmr g))) rfl ?_
          refine Wp.call (as := [.ref (54 + 2 * t), .int s, .int (nI p)]) (rest := []) rfl rfl rfl rfl rfl (Nat.le_of_ble_eq_true rfl) (Nat.le_of_ble_eq_true rfl) (tp_rc ht) (by decide) (c_lay ht) ?_
          rintro _ _ ⟨rfl, l9, rfl, h1, h2⟩
          refine Wp.run 1 (64, [(0, .ref 0), (1, .int (nI t)), (2, .int s), (3, .int (nI p))], [.int 1], (zsh ++ vs, (zup (zup mi (54 + 2 * t) 0 s) (54 + 2 * t) 1 (nI p)), l9, (zmr g))) rfl ?_
          refine Wp.ret rfl rfl rfl ?_
          exact ⟨1, rfl, vs, _, l9, g, rfl, rfl, rfl, rfl, rfl, h1, h2⟩
        · exact absurd hc0 h3
      · exact absurd hb h2
    · exact absurd h1 hm1
  · rintro x vs1 m1 l1 g1 ⟨rfl, rfl, rfl, rfl, q2, q3⟩
    refine Wp.run 1 (1, [(0, .ref 66), (1, .int (nI t)), (2, .int s), (3, .int (nI p))], [.int (nI t)], (zsh ++ vs, (zup (zup mi (54 + 2 * t) 0 s) (54 + 2 * t) 1 (nI p)), l1, (zmr g))) rfl ?_
    refine Wp.call (as := [.int (nI t)]) (rest := []) rfl rfl rfl rfl rfl (Nat.le_of_ble_eq_true rfl) (Nat.le_of_ble_eq_true rfl) rfl (by decide) (m_isTape_t hx) ?_
    rintro _ _ ⟨rfl, rfl⟩
    refine Wp.run 4 (12, [(0, .ref 66), (1, .int (nI t)), (2, .int s), (3, .int (nI p))], [.int 4, .int (-1), .int s], (zsh ++ vs, (zup (zup mi (54 + 2 * t) 0 s) (54 + 2 * t) 1 (nI p)), l1, (zmr g))) rfl ?_
    refine Wp.call (as := [.int s, .int (-1), .int 4]) (rest := []) rfl rfl rfl rfl rfl (Nat.le_of_ble_eq_true rfl) (Nat.le_of_ble_eq_true rfl) rfl (by decide) (m_isIn_t ⟨Int32.le_trans (by decide) hs.1, hs.2⟩) ?_
    rintro _ _ ⟨rfl, rfl⟩
    refine Wp.run 2 (19, [(0, .ref 66), (1, .int (nI t)), (2, .int s), (3, .int (nI p))], [.int s], (zsh ++ vs, (zup (zup mi (54 + 2 * t) 0 s) (54 + 2 * t) 1 (nI p)), l1, (zmr g))) rfl ?_
    refine Wp.if_lt rfl (fun h51 => ?_) (fun h51 => ?_)
    · exact absurd h51 (Int32.not_lt.mpr hs.1)
    · refine Wp.run 2 (25, [(0, .ref 66), (1, .int (nI t)), (2, .int s), (3, .int (nI p))], [.int 60, .int (nI p)], (zsh ++ vs, (zup (zup mi (54 + 2 * t) 0 s) (54 + 2 * t) 1 (nI p)), l1, (zmr g))) rfl ?_
      refine Wp.icmp_le rfl (fun h52 => ?_) (fun h52 => ?_)
      · refine Wp.run 1 (32, [(0, .ref 66), (1, .int (nI t)), (2, .int s), (3, .int (nI p))], [.int s], (zsh ++ vs, (zup (zup mi (54 + 2 * t) 0 s) (54 + 2 * t) 1 (nI p)), l1, (zmr g))) rfl ?_
        refine Wp.if_lt rfl (fun h53 => ?_) (fun h53 => ?_)
        · exact absurd h53 (Int32.not_lt.mpr hs.1)
        · refine Wp.run 1 (36, [(0, .ref 66), (1, .int (nI t)), (2, .int s), (3, .int (nI p))], [.int (nI p)], (zsh ++ vs, (zup (zup mi (54 + 2 * t) 0 s) (54 + 2 * t) 1 (nI p)), l1, (zmr g))) rfl ?_
          refine Wp.if_ge rfl (fun h54 => ?_) (fun h54 => ?_)
          · refine Wp.run 4 (48, [(0, .ref 66), (1, .int (nI t)), (2, .int s), (3, .int (nI p))], [.int s, .int (nI t), .ref 82], (zsh ++ vs, (zup (zup mi (54 + 2 * t) 0 s) (54 + 2 * t) 1 (nI p)), l1, (zmr g))) rfl ?_
            refine Wp.iasn rfl (by decide) rfl (by omega) (by decide) ?_
            refine Wp.run 4 (55, [(0, .ref 66), (1, .int (nI t)), (2, .int s), (3, .int (nI p))], [.int s, .int (nI t), .ref 83], (zsh ++ vs, (zup (zup (zup mi (54 + 2 * t) 0 s) (54 + 2 * t) 1 (nI p)) 82 t s), l1, (zmr g))) rfl ?_
            refine Wp.if_ge rfl (fun h55 => ?_) (fun h55 => ?_)
            · refine Wp.run 1 (63, [(0, .ref 66), (1, .int (nI t)), (2, .int s), (3, .int (nI p))], [.int (nI p), .int (nI t), .ref 83], (zsh ++ vs, (zup (zup (zup mi (54 + 2 * t) 0 s) (54 + 2 * t) 1 (nI p)) 82 t s), l1, (zmr g))) rfl ?_
              refine Wp.iasn rfl (by decide) rfl (by omega) (by decide) ?_
              refine Wp.run 2 (67, [(4, .int 0), (0, .ref 66), (1, .int (nI t)), (2, .int s), (3, .int (nI p))], [], (zsh ++ vs, (zup (zup (zup (zup mi (54 + 2 * t) 0 s) (54 + 2 * t) 1 (nI p)) 82 t s) 83 t (nI p)), l1, (zmr g))) rfl ?_
              refine Wp.sub (a := [(0, .ref 66), (1, .int (nI t)), (2, .int s), (3, .int (nI p)), (4, .int (nI 0))]) (zle_cons rfl (zle_cons rfl (zle_cons rfl (zle_cons rfl (zle_cons rfl (zle_nil)))))) ?_
              refine ((m_tape_l (ml := l1) ht 60 0 l1 (by omega) (fun _ _ => rfl) (fun _ _ => rfl) (fun i hi => absurd hi (Nat.not_lt_zero i))).deep (by decide)).weak ?_
              rintro _ _ ⟨rfl, l2, rfl, k1, k2, k3⟩
              refine ⟨rfl, (I.tp (fun b p q r => ?_) (I.2.2.2.2.2.2.1.up ht (fun u hu hut => ⟨?_, ?_, ?_, ?_, fun j hj => ?_⟩) ⟨p, by omega, ?_, ?_, ?_, ?_, fun j hj => ?_⟩)).x⟩
              · rw [zup_ne r, zup_ne q, zup_ne (by omega), zup_ne (by omega)]
              · rw [zup_ne (by omega), zup_ne (by omega), zup_ne (by omega), zup_ne (by omega)]
              · rw [zup_ne (by decide), zup_rd hut, zup_ne (by omega), zup_ne (by omega)]
              · rw [zup_rd hut, zup_ne (by decide), zup_ne (by omega), zup_ne (by omega)]
              · rw [k1 _ (by omega), q2 _ (by omega)]
              · rw [k2 _ (by omega), q2 _ (by omega)]
              · rw [zup_ne (by omega), zup_ne (by omega)]; exact zup_at
              · exact zup_at
              · rw [zup_ne (by omega), zup_ne (by omega), zup_rd (by decide), zup_at, zup_ne (by decide), zup_at]
              · rw [zup_ne (by decide), zup_at]; exact Or.inr (rng_of (h := 4) rfl hs)
              · rw [k1 _ (by omega), q3 j hj, k3 j hj]
            · exact absurd hs.1 h55
          · exact absurd hc0 h54
      · exact absurd hb h52
