/-! THE CLASS: fade, goDay -/
theorem upd_self (f : Nat → Int32) (i : Nat) : upd f i (f i) = f := by
  funext k
  by_cases h : k = i
  · subst h; simp only [upd, if_true]
  · simp only [upd, if_neg h]
theorem dayU_congr {u u' : Nat → Nat → Int32} {s s' : Nat → Int32} {ag : Int32} {k f : Nat} (h2 : u k 2 = u' k 2) (h3 : u k 3 = u' k 3) (h4 : u k 4 = u' k 4) (h5 : u k 5 = u' k 5) (hf : u k f = u' k f) (hs : u k 4 = 0 → s k = s' k) : dayU u s ag k f = dayU u' s' ag k f := by
  unfold dayU
  by_cases h : u k 4 = 0
  · rw [if_pos h, if_pos (show u' k 4 = 0 from h4.symm.trans h), hs h, h2, h3, h5, hf]
  · rw [if_neg h, if_neg (show ¬ u' k 4 = 0 from fun q => h (h4.trans q)), hf]
theorem dayU_n {u : Nat → Nat → Int32} {s : Nat → Int32} {ag : Int32} {k : Nat} (h4 : u k 4 = 0) (h : ¬ (fadeV (u k 3) (s k) = 0 ∧ ¬ u k 2 = 0)) : dayU u s ag k 2 = u k 2 ∧ dayU u s ag k 3 = fadeV (u k 3) (s k) ∧ dayU u s ag k 5 = u k 5 := by
  unfold dayU
  rw [if_pos h4, if_neg h, if_pos h4, if_neg h, if_pos h4, if_neg h]
  exact ⟨rfl, rfl, rfl⟩
theorem dayU_y {u : Nat → Nat → Int32} {s : Nat → Int32} {ag : Int32} {k : Nat} (h4 : u k 4 = 0) (h : fadeV (u k 3) (s k) = 0 ∧ ¬ u k 2 = 0) : dayU u s ag k 2 = u k 2 &&& (u k 2 - 1) ∧ dayU u s ag k 3 = ag ∧ dayU u s ag k 5 = u k 5 + 1 := by
  unfold dayU
  rw [if_pos h4, if_pos h, if_pos h4, if_pos h, if_pos h4, if_pos h]
  exact ⟨rfl, rfl, rfl⟩
theorem dayU_a {u : Nat → Nat → Int32} {s : Nat → Int32} {ag : Int32} {k : Nat} (f : Nat) (h4 : ¬ u k 4 = 0) : dayU u s ag k f = u k f := by
  unfold dayU
  rw [if_neg h4]
theorem c_fade_1 {E : zEn} {vs : List (Nat × Nat)} {mi : Nat → Nat → Int32} {ml : Nat → Nat → Int64} {g : Nat → Nat → Option Nat} {g0 : Nat → Nat → Option Nat} {X : Nat → Nat → Int32} {vv : Nat → Prop} {wg : Nat → (Nat → Int32) → Int32} (C : CWs E vs g0 X vv wg) (hg0 : ∀ b, 86 ≤ b → g b = g0 b) (hX : ∀ b, 86 ≤ b → mi b = X b) (hvv : ∀ v, g 1 3 = some v → vv v ∧ 86 ≤ v) {i : Nat} {mo : Int32} (hi : i < 6) (h4 : uB mi 1 i 4 = 0) (hf : (if mi 7 i + 1 < mo then mi 7 i + 1 else mo) = mi 7 i + 1) : Wp E 1 pg_Band_fade 0 (lv_args 0 [.ref 1, .int (nI i), .int mo]) [] (zsh ++ vs, mi, ml, (zmr g)) (fun r w' => r = none ∧ ∃ m, w' = (zsh ++ vs, m, ml, zmr g) ∧ (∀ b, ¬ b = 5 → ¬ b = 6 → ¬ b = 7 → m b = mi b) ∧ m 5 = upd (mi 5) i (dayU (uB mi 1) (mi 9) (anB X (g 1 3)) i 2) ∧ m 6 = upd (mi 6) i (dayU (uB mi 1) (mi 9) (anB X (g 1 3)) i 3) ∧ m 7 = upd (mi 7) i (dayU (uB mi 1) (mi 9) (anB X (g 1 3)) i 5)) := by
  refine Wp.run 5 (8, [(0, .ref 1), (1, .int (nI i)), (2, .int mo)], [.int (nI i), .ref 6, .int 99, .int 0], (zsh ++ vs, mi, ml, (zmr g))) rfl ?_
  refine Wp.ialn rfl (by decide) rfl (by omega) (by decide) ?_
  refine Wp.run 3 (14, [(0, .ref 1), (1, .int (nI i)), (2, .int mo)], [.int (nI i), .ref 9, .int (mi 6 i), .int 99, .int 0], (zsh ++ vs, mi, ml, (zmr g))) rfl ?_
  refine Wp.ialn rfl (by decide) rfl (by omega) (by decide) ?_
  refine Wp.run 5 (24, [(3, .int (if 0 < if (mi 6 i) - (mi 9 i) < 99 then (mi 6 i) - (mi 9 i) else 99 then if (mi 6 i) - (mi 9 i) < 99 then (mi 6 i) - (mi 9 i) else 99 else 0)), (0, .ref 1), (1, .int (nI i)), (2, .int mo)], [.int (if 0 < if (mi 6 i) - (mi 9 i) < 99 then (mi 6 i) - (mi 9 i) else 99 then if (mi 6 i) - (mi 9 i) < 99 then (mi 6 i) - (mi 9 i) else 99 else 0)], (zsh ++ vs, mi, ml, (zmr g))) rfl ?_
  refine Wp.if_ne rfl (fun h1 => ?_) (fun h1 => ?_)
  · refine Wp.run 4 (82, [(3, .int (if 0 < if (mi 6 i) - (mi 9 i) < 99 then (mi 6 i) - (mi 9 i) else 99 then if (mi 6 i) - (mi 9 i) < 99 then (mi 6 i) - (mi 9 i) else 99 else 0)), (0, .ref 1), (1, .int (nI i)), (2, .int mo)], [.int (if 0 < if (mi 6 i) - (mi 9 i) < 99 then (mi 6 i) - (mi 9 i) else 99 then if (mi 6 i) - (mi 9 i) < 99 then (mi 6 i) - (mi 9 i) else 99 else 0), .int (nI i), .ref 6], (zsh ++ vs, mi, ml, (zmr g))) rfl ?_
    refine Wp.iasn rfl (by decide) rfl (by omega) (by decide) ?_
    refine Wp.run 0 (83, [(3, .int (if 0 < if (mi 6 i) - (mi 9 i) < 99 then (mi 6 i) - (mi 9 i) else 99 then if (mi 6 i) - (mi 9 i) < 99 then (mi 6 i) - (mi 9 i) else 99 else 0)), (0, .ref 1), (1, .int (nI i)), (2, .int mo)], [], (zsh ++ vs, (zup mi 6 i (if 0 < if (mi 6 i) - (mi 9 i) < 99 then (mi 6 i) - (mi 9 i) else 99 then if (mi 6 i) - (mi 9 i) < 99 then (mi 6 i) - (mi 9 i) else 99 else 0)), ml, (zmr g))) rfl ?_
    refine Wp.ret rfl rfl rfl ?_
    obtain ⟨d2, d3, d5⟩ := dayU_n (u := uB mi 1) (s := mi 9) (ag := anB X (g 1 3)) h4 (fun q => h1 q.1)
    refine ⟨rfl, _, rfl, fun b p q r => by rw [zup_ne q], ?_, ?_, ?_⟩
    · rw [d2, zup_ne (by decide)]; exact (upd_self _ _).symm
    · rw [d3, zup_eq]; rfl
    · rw [d5, zup_ne (by decide)]; exact (upd_self _ _).symm
  · refine Wp.run 3 (32, [(3, .int (if 0 < if (mi 6 i) - (mi 9 i) < 99 then (mi 6 i) - (mi 9 i) else 99 then if (mi 6 i) - (mi 9 i) < 99 then (mi 6 i) - (mi 9 i) else 99 else 0)), (0, .ref 1), (1, .int (nI i)), (2, .int mo)], [.int (nI i), .ref 5], (zsh ++ vs, mi, ml, (zmr g))) rfl ?_
    refine Wp.ialn rfl (by decide) rfl (by omega) (by decide) ?_
    refine Wp.run 0 (33, [(3, .int (if 0 < if (mi 6 i) - (mi 9 i) < 99 then (mi 6 i) - (mi 9 i) else 99 then if (mi 6 i) - (mi 9 i) < 99 then (mi 6 i) - (mi 9 i) else 99 else 0)), (0, .ref 1), (1, .int (nI i)), (2, .int mo)], [.int (mi 5 i)], (zsh ++ vs, mi, ml, (zmr g))) rfl ?_
    refine Wp.if_eq rfl (fun h2 => ?_) (fun h2 => ?_)
    · refine Wp.run 4 (82, [(3, .int (if 0 < if (mi 6 i) - (mi 9 i) < 99 then (mi 6 i) - (mi 9 i) else 99 then if (mi 6 i) - (mi 9 i) < 99 then (mi 6 i) - (mi 9 i) else 99 else 0)), (0, .ref 1), (1, .int (nI i)), (2, .int mo)], [.int (if 0 < if (mi 6 i) - (mi 9 i) < 99 then (mi 6 i) - (mi 9 i) else 99 then if (mi 6 i) - (mi 9 i) < 99 then (mi 6 i) - (mi 9 i) else 99 else 0), .int (nI i), .ref 6], (zsh ++ vs, mi, ml, (zmr g))) rfl ?_
      refine Wp.iasn rfl (by decide) rfl (by omega) (by decide) ?_
      refine Wp.run 0 (83, [(3, .int (if 0 < if (mi 6 i) - (mi 9 i) < 99 then (mi 6 i) - (mi 9 i) else 99 then if (mi 6 i) - (mi 9 i) < 99 then (mi 6 i) - (mi 9 i) else 99 else 0)), (0, .ref 1), (1, .int (nI i)), (2, .int mo)], [], (zsh ++ vs, (zup mi 6 i (if 0 < if (mi 6 i) - (mi 9 i) < 99 then (mi 6 i) - (mi 9 i) else 99 then if (mi 6 i) - (mi 9 i) < 99 then (mi 6 i) - (mi 9 i) else 99 else 0)), ml, (zmr g))) rfl ?_
      refine Wp.ret rfl rfl rfl ?_
      obtain ⟨d2, d3, d5⟩ := dayU_n (u := uB mi 1) (s := mi 9) (ag := anB X (g 1 3)) h4 (fun q => q.2 h2)
      refine ⟨rfl, _, rfl, fun b p q r => by rw [zup_ne q], ?_, ?_, ?_⟩
      · rw [d2, zup_ne (by decide)]; exact (upd_self _ _).symm
      · rw [d3, zup_eq]; rfl
      · rw [d5, zup_ne (by decide)]; exact (upd_self _ _).symm
    · refine Wp.run 4 (42, [(3, .int (if 0 < if (mi 6 i) - (mi 9 i) < 99 then (mi 6 i) - (mi 9 i) else 99 then if (mi 6 i) - (mi 9 i) < 99 then (mi 6 i) - (mi 9 i) else 99 else 0)), (0, .ref 1), (1, .int (nI i)), (2, .int mo)], [.int (nI i), .ref 5, .int (nI i), .ref 5], (zsh ++ vs, mi, ml, (zmr g))) rfl ?_
      refine Wp.ialn rfl (by decide) rfl (by omega) (by decide) ?_
      refine Wp.run 3 (48, [(3, .int (if 0 < if (mi 6 i) - (mi 9 i) < 99 then (mi 6 i) - (mi 9 i) else 99 then if (mi 6 i) - (mi 9 i) < 99 then (mi 6 i) - (mi 9 i) else 99 else 0)), (0, .ref 1), (1, .int (nI i)), (2, .int mo)], [.int (nI i), .ref 5, .int (mi 5 i), .int (nI i), .ref 5], (zsh ++ vs, mi, ml, (zmr g))) rfl ?_
      refine Wp.ialn rfl (by decide) rfl (by omega) (by decide) ?_
      refine Wp.run 3 (52, [(3, .int (if 0 < if (mi 6 i) - (mi 9 i) < 99 then (mi 6 i) - (mi 9 i) else 99 then if (mi 6 i) - (mi 9 i) < 99 then (mi 6 i) - (mi 9 i) else 99 else 0)), (0, .ref 1), (1, .int (nI i)), (2, .int mo)], [.int ((mi 5 i) &&& ((mi 5 i) - 1)), .int (nI i), .ref 5], (zsh ++ vs, mi, ml, (zmr g))) rfl ?_
      refine Wp.iasn rfl (by decide) rfl (by omega) (by decide) ?_
      refine Wp.run 7 (64, [(3, .int (if 0 < if (mi 6 i) - (mi 9 i) < 99 then (mi 6 i) - (mi 9 i) else 99 then if (mi 6 i) - (mi 9 i) < 99 then (mi 6 i) - (mi 9 i) else 99 else 0)), (0, .ref 1), (1, .int (nI i)), (2, .int mo)], [.int (nI i), .ref 7, .int mo, .int (nI i), .ref 7], (zsh ++ vs, (zup mi 5 i ((mi 5 i) &&& ((mi 5 i) - 1))), ml, (zmr g))) rfl ?_
      refine Wp.ialn rfl (by decide) rfl (by omega) (by decide) ?_
      refine Wp.run 3 (70, [(3, .int (if 0 < if (mi 6 i) - (mi 9 i) < 99 then (mi 6 i) - (mi 9 i) else 99 then if (mi 6 i) - (mi 9 i) < 99 then (mi 6 i) - (mi 9 i) else 99 else 0)), (0, .ref 1), (1, .int (nI i)), (2, .int mo)], [.int (if ((zup mi 5 i ((mi 5 i) &&& ((mi 5 i) - 1))) 7 i) + 1 < mo then ((zup mi 5 i ((mi 5 i) &&& ((mi 5 i) - 1))) 7 i) + 1 else mo), .int (nI i), .ref 7], (zsh ++ vs, (zup mi 5 i ((mi 5 i) &&& ((mi 5 i) - 1))), ml, (zmr g))) rfl ?_
      refine Wp.iasn rfl (by decide) rfl (by omega) (by decide) ?_
      refine Wp.run 1 (72, [(3, .int (if 0 < if (mi 6 i) - (mi 9 i) < 99 then (mi 6 i) - (mi 9 i) else 99 then if (mi 6 i) - (mi 9 i) < 99 then (mi 6 i) - (mi 9 i) else 99 else 0)), (0, .ref 1), (1, .int (nI i)), (2, .int mo)], [.ref 1], (zsh ++ vs, (zup (zup mi 5 i ((mi 5 i) &&& ((mi 5 i) - 1))) 7 i (if ((zup mi 5 i ((mi 5 i) &&& ((mi 5 i) - 1))) 7 i) + 1 < mo then ((zup mi 5 i ((mi 5 i) &&& ((mi 5 i) - 1))) 7 i) + 1 else mo)), ml, (zmr g))) rfl ?_
      refine Wp.call (as := [.ref 1]) (rest := []) rfl rfl rfl rfl rfl (Nat.le_of_ble_eq_true rfl) (Nat.le_of_ble_eq_true rfl) rfl (by decide) (c_anew_1 (mi := (zup (zup mi 5 i ((mi 5 i) &&& ((mi 5 i) - 1))) 7 i (if ((zup mi 5 i ((mi 5 i) &&& ((mi 5 i) - 1))) 7 i) + 1 < mo then ((zup mi 5 i ((mi 5 i) &&& ((mi 5 i) - 1))) 7 i) + 1 else mo))) C hg0 (fun b hb => by rw [zup_ne (by omega), zup_ne (by omega)]; exact hX b hb) hvv) ?_
      rintro _ _ ⟨rfl, rfl⟩
      refine Wp.run 5 (82, [(3, .int (anB X (g 1 3))), (0, .ref 1), (1, .int (nI i)), (2, .int mo)], [.int (anB X (g 1 3)), .int (nI i), .ref 6], (zsh ++ vs, (zup (zup mi 5 i ((mi 5 i) &&& ((mi 5 i) - 1))) 7 i (if ((zup mi 5 i ((mi 5 i) &&& ((mi 5 i) - 1))) 7 i) + 1 < mo then ((zup mi 5 i ((mi 5 i) &&& ((mi 5 i) - 1))) 7 i) + 1 else mo)), ml, (zmr g))) rfl ?_
      refine Wp.iasn rfl (by decide) rfl (by omega) (by decide) ?_
      refine Wp.run 0 (83, [(3, .int (anB X (g 1 3))), (0, .ref 1), (1, .int (nI i)), (2, .int mo)], [], (zsh ++ vs, (zup (zup (zup mi 5 i ((mi 5 i) &&& ((mi 5 i) - 1))) 7 i (if ((zup mi 5 i ((mi 5 i) &&& ((mi 5 i) - 1))) 7 i) + 1 < mo then ((zup mi 5 i ((mi 5 i) &&& ((mi 5 i) - 1))) 7 i) + 1 else mo)) 6 i (anB X (g 1 3))), ml, (zmr g))) rfl ?_
      refine Wp.ret rfl rfl rfl ?_
      obtain ⟨d2, d3, d5⟩ := dayU_y (u := uB mi 1) (s := mi 9) (ag := anB X (g 1 3)) h4 ⟨h1, h2⟩
      refine ⟨rfl, _, rfl, fun b p q r => by rw [zup_ne q, zup_ne r, zup_ne p], ?_, ?_, ?_⟩
      · rw [d2, zup_ne (by decide), zup_ne (by decide), zup_eq]; rfl
      · rw [d3, zup_eq, zup_ne (by decide), zup_ne (by decide)]
      · rw [d5, zup_ne (by decide), zup_eq, zup_ne (by decide), hf]; rfl
theorem c_day_l1_1 {E : zEn} {vs : List (Nat × Nat)} {mi : Nat → Nat → Int32} {ml : Nat → Nat → Int64} {g : Nat → Nat → Option Nat} (mo : Int32) {g0 : Nat → Nat → Option Nat} {X : Nat → Nat → Int32} {vv : Nat → Prop} {wg : Nat → (Nat → Int32) → Int32} (C : CWs E vs g0 X vv wg) (hg0 : ∀ b, 86 ≤ b → g b = g0 b) (hX : ∀ b, 86 ≤ b → mi b = X b) (hvv : ∀ v, g 1 3 = some v → vv v ∧ 86 ≤ v) {dd : Nat} (hdd : dd < 100000) (hd : mi 1 1 = nI dd) {n : Nat} (hn : mi 1 0 = nI n) (h6 : n ≤ 6) (hz : ∀ k, k < n → zbc (mi 5 k) = zmany (mi 5 k)) {P : Option Value → zW → Prop} (hn9 : n < 2147483648) (K : ∀ (m : Nat → Nat → Int32) , ((∀ b, ¬ b = 9 → ¬ b = 10 → m b = mi b) ∧ ∀ i, i < n → uB mi 1 i 4 = 0 → m 9 i = strU (uB mi 1) n dd (smB wg (g 1 3) (nmU (uB mi 1) dd i)) i) → Wp E 4 pg_Band_goDay 35 [(0, .ref 1), (1, .int mo), (2, .int (nI n))] [] (zsh ++ vs, m, ml, (zmr g)) P) : ∀ (k j : Nat) (m : Nat → Nat → Int32) , j + k = n → ((∀ b, ¬ b = 9 → ¬ b = 10 → m b = mi b) ∧ ∀ i, i < j → uB mi 1 i 4 = 0 → m 9 i = strU (uB mi 1) n dd (smB wg (g 1 3) (nmU (uB mi 1) dd i)) i) → Wp E 4 pg_Band_goDay 2 [(0, .ref 1), (1, .int mo), (2, .int (nI j))] [] (zsh ++ vs, m, ml, (zmr g)) P := by
  intro k
  induction k with
  | zero =>
    intro j m  hj9 hI
    obtain rfl : n = j := by omega
    refine Wp.run 1 (3, [(0, .ref 1), (1, .int mo), (2, .int (nI n))], [.int (nI n)], (zsh ++ vs, m, ml, (zmr g))) rfl ?_
    have e0 : m 1 = mi 1 := hI.1 1 (by decide) (by decide)
    have e2 : m 3 = mi 3 := hI.1 3 (by decide) (by decide)
    have e3 : m 4 = mi 4 := hI.1 4 (by decide) (by decide)
    have e4 : m 5 = mi 5 := hI.1 5 (by decide) (by decide)
    have e5 : m 6 = mi 6 := hI.1 6 (by decide) (by decide)
    have e6 : m 7 = mi 7 := hI.1 7 (by decide) (by decide)
    have e7 : m 8 = mi 8 := hI.1 8 (by decide) (by decide)
    have eu : uB m 1 = uB mi 1 := by funext k f; simp only [uB, awB, show m 1 = mi 1 from e0, show m (1 + 2) = mi (1 + 2) from e2, show m (1 + 3) = mi (1 + 3) from e3, show m (1 + 4) = mi (1 + 4) from e4, show m (1 + 5) = mi (1 + 5) from e5, show m (1 + 6) = mi (1 + 6) from e6, show m (1 + 7) = mi (1 + 7) from e7]
    refine Wp.run 2 (7, [(0, .ref 1), (1, .int mo), (2, .int (nI n))], [.int (m 1 0), .int (nI n)], (zsh ++ vs, m, ml, (zmr g))) rfl ?_
    rw [show m 1 0 = nI n from by rw [e0]; exact hn]
    refine Wp.run 0 (7, [(0, .ref 1), (1, .int mo), (2, .int (nI n))], [.int (nI n), .int (nI n)], (zsh ++ vs, m, ml, (zmr g))) rfl ?_
    refine Wp.icmp_ge rfl (fun h1 => ?_) (fun h1 => ?_)
    · exact K m  hI
    · exact absurd (Int32.le_refl _) h1
  | succ k ih =>
    intro j m  hj9 hI
    have hlt9 : j < n := by omega
    refine Wp.run 1 (3, [(0, .ref 1), (1, .int mo), (2, .int (nI j))], [.int (nI j)], (zsh ++ vs, m, ml, (zmr g))) rfl ?_
    have e0 : m 1 = mi 1 := hI.1 1 (by decide) (by decide)
    have e2 : m 3 = mi 3 := hI.1 3 (by decide) (by decide)
    have e3 : m 4 = mi 4 := hI.1 4 (by decide) (by decide)
    have e4 : m 5 = mi 5 := hI.1 5 (by decide) (by decide)
    have e5 : m 6 = mi 6 := hI.1 6 (by decide) (by decide)
    have e6 : m 7 = mi 7 := hI.1 7 (by decide) (by decide)
    have e7 : m 8 = mi 8 := hI.1 8 (by decide) (by decide)
    have eu : uB m 1 = uB mi 1 := by funext k f; simp only [uB, awB, show m 1 = mi 1 from e0, show m (1 + 2) = mi (1 + 2) from e2, show m (1 + 3) = mi (1 + 3) from e3, show m (1 + 4) = mi (1 + 4) from e4, show m (1 + 5) = mi (1 + 5) from e5, show m (1 + 6) = mi (1 + 6) from e6, show m (1 + 7) = mi (1 + 7) from e7]
    refine Wp.run 2 (7, [(0, .ref 1), (1, .int mo), (2, .int (nI j))], [.int (m 1 0), .int (nI j)], (zsh ++ vs, m, ml, (zmr g))) rfl ?_
    rw [show m 1 0 = nI n from by rw [e0]; exact hn]
    refine Wp.run 0 (7, [(0, .ref 1), (1, .int mo), (2, .int (nI j))], [.int (nI n), .int (nI j)], (zsh ++ vs, m, ml, (zmr g))) rfl ?_
    refine Wp.icmp_ge rfl (fun h1 => ?_) (fun h1 => ?_)
    · exact absurd h1 (nI_ge hlt9 hn9)
    · refine Wp.run 2 (12, [(0, .ref 1), (1, .int mo), (2, .int (nI j))], [.int (nI j), .ref 1], (zsh ++ vs, m, ml, (zmr g))) rfl ?_
      refine Wp.call (as := [.ref 1, .int (nI j)]) (rest := []) rfl rfl rfl rfl rfl (Nat.le_of_ble_eq_true rfl) (Nat.le_of_ble_eq_true rfl) rfl (by decide) (c_isHere_1 (nI j)) ?_
      rintro _ _ ⟨rfl, rfl⟩
      by_cases c13 : m 1 2 >>> (nI j &&& 31) &&& 1 = 0
      · rw [if_pos c13]
        refine Wp.run 6 (25, [(0, .ref 1), (1, .int mo), (2, .int (nI j))], [.int (nI j), .ref 1, .int (nI j), .ref 9], (zsh ++ vs, m, ml, (zmr g))) rfl ?_
        refine Wp.call (as := [.ref 1, .int (nI j)]) (rest := [.int (nI j), .ref 9]) rfl rfl rfl rfl rfl (Nat.le_of_ble_eq_true rfl) (Nat.le_of_ble_eq_true rfl) rfl (by decide) (c_strain_1 (mi := m) C hg0 (fun b hb => by rw [hI.1 b (by omega) (by omega)]; exact hX b hb) hvv hdd (by rw [e0]; exact hd) (i := j) (by omega) (by rw [e4]; exact hz j hlt9) (by rw [e0]; exact hn) h6) ?_
        rintro _ _ ⟨rfl, m', rfl, hk⟩
        rw [eu]
        refine Wp.iasn rfl (by decide) rfl (by omega) (by decide) ?_
        refine Wp.run 2 (2, [(2, .int ((nI j) + 1)), (0, .ref 1), (1, .int mo)], [], (zsh ++ vs, (zup m' 9 j (strU (uB mi 1) n dd (smB wg (g 1 3) (nmU (uB mi 1) dd j)) j)), ml, (zmr g))) rfl ?_
        rw [nI_1]
        refine Wp.sub (a := [(0, .ref 1), (1, .int mo), (2, .int (nI (j + 1)))]) (zle_cons rfl (zle_cons rfl (zle_cons rfl (zle_nil)))) ?_
        refine ih (j + 1) _ (by omega) ⟨fun b p q => ?_, fun i hi h4 => ?_⟩
        · rw [zup_ne p, hk b q]; exact hI.1 b p q
        · by_cases hij : i = j
          · subst hij; simp only [zup, if_true]
          · simp only [zup, if_true, if_neg hij]
            rw [hk 9 (by decide)]
            exact hI.2 i (by omega) h4
      · rw [if_neg c13]
        refine Wp.run 3 (2, [(2, .int ((nI j) + 1)), (0, .ref 1), (1, .int mo)], [], (zsh ++ vs, m, ml, (zmr g))) rfl ?_
        rw [nI_1]
        refine Wp.sub (a := [(0, .ref 1), (1, .int mo), (2, .int (nI (j + 1)))]) (zle_cons rfl (zle_cons rfl (zle_cons rfl (zle_nil)))) ?_
        refine ih (j + 1) _ (by omega) ⟨hI.1, fun i hi h4 => ?_⟩
        by_cases hij : i = j
        · subst hij
          exact absurd (show m 1 2 >>> (nI i &&& 31) &&& 1 = 0 from by rw [e0]; exact h4) c13
        · exact hI.2 i (by omega) h4
theorem c_day_l2_1 {E : zEn} {vs : List (Nat × Nat)} {mi : Nat → Nat → Int32} {ml : Nat → Nat → Int64} {g : Nat → Nat → Option Nat} (mo : Int32) {g0 : Nat → Nat → Option Nat} {X : Nat → Nat → Int32} {vv : Nat → Prop} {wg : Nat → (Nat → Int32) → Int32} (C : CWs E vs g0 X vv wg) (hg0 : ∀ b, 86 ≤ b → g b = g0 b) (hX : ∀ b, 86 ≤ b → mi b = X b) (hvv : ∀ v, g 1 3 = some v → vv v ∧ 86 ≤ v) {n : Nat} (hn : mi 1 0 = nI n) (h6 : n ≤ 6) (hf : ∀ k, k < n → (if mi 7 k + 1 < mo then mi 7 k + 1 else mo) = mi 7 k + 1) {P : Option Value → zW → Prop} (hn9 : n < 2147483648) (K : ∀ (m : Nat → Nat → Int32) , ((∀ b, ¬ b = 5 → ¬ b = 6 → ¬ b = 7 → m b = mi b) ∧ (∀ k, m 5 k = if k < n then dayU (uB mi 1) (mi 9) (anB X (g 1 3)) k 2 else mi 5 k) ∧ (∀ k, m 6 k = if k < n then dayU (uB mi 1) (mi 9) (anB X (g 1 3)) k 3 else mi 6 k) ∧ ∀ k, m 7 k = if k < n then dayU (uB mi 1) (mi 9) (anB X (g 1 3)) k 5 else mi 7 k) → Wp E 4 pg_Band_goDay 65 [(0, .ref 1), (1, .int mo), (2, .int (nI n))] [] (zsh ++ vs, m, ml, (zmr g)) P) : ∀ (k j : Nat) (m : Nat → Nat → Int32) , j + k = n → ((∀ b, ¬ b = 5 → ¬ b = 6 → ¬ b = 7 → m b = mi b) ∧ (∀ k, m 5 k = if k < j then dayU (uB mi 1) (mi 9) (anB X (g 1 3)) k 2 else mi 5 k) ∧ (∀ k, m 6 k = if k < j then dayU (uB mi 1) (mi 9) (anB X (g 1 3)) k 3 else mi 6 k) ∧ ∀ k, m 7 k = if k < j then dayU (uB mi 1) (mi 9) (anB X (g 1 3)) k 5 else mi 7 k) → Wp E 4 pg_Band_goDay 37 [(0, .ref 1), (1, .int mo), (2, .int (nI j))] [] (zsh ++ vs, m, ml, (zmr g)) P := by
  intro k
  induction k with
  | zero =>
    intro j m  hj9 hI
    obtain rfl : n = j := by omega
    refine Wp.run 1 (38, [(0, .ref 1), (1, .int mo), (2, .int (nI n))], [.int (nI n)], (zsh ++ vs, m, ml, (zmr g))) rfl ?_
    have e0 : m 1 = mi 1 := hI.1 1 (by decide) (by decide) (by decide)
    have e8 : m 9 = mi 9 := hI.1 9 (by decide) (by decide) (by decide)
    have f4 : m 5 n = mi 5 n := by rw [hI.2.1, if_neg (by omega)]
    have f5 : m 6 n = mi 6 n := by rw [hI.2.2.1, if_neg (by omega)]
    have f6 : m 7 n = mi 7 n := by rw [hI.2.2.2, if_neg (by omega)]
    have fa : uB m 1 n 4 = uB mi 1 n 4 := by show awB m 1 n = awB mi 1 n; simp only [awB, e0]
    refine Wp.run 2 (42, [(0, .ref 1), (1, .int mo), (2, .int (nI n))], [.int (m 1 0), .int (nI n)], (zsh ++ vs, m, ml, (zmr g))) rfl ?_
    rw [show m 1 0 = nI n from by rw [e0]; exact hn]
    refine Wp.run 0 (42, [(0, .ref 1), (1, .int mo), (2, .int (nI n))], [.int (nI n), .int (nI n)], (zsh ++ vs, m, ml, (zmr g))) rfl ?_
    refine Wp.icmp_ge rfl (fun h1 => ?_) (fun h1 => ?_)
    · exact K m  hI
    · exact absurd (Int32.le_refl _) h1
  | succ k ih =>
    intro j m  hj9 hI
    have hlt9 : j < n := by omega
    refine Wp.run 1 (38, [(0, .ref 1), (1, .int mo), (2, .int (nI j))], [.int (nI j)], (zsh ++ vs, m, ml, (zmr g))) rfl ?_
    have e0 : m 1 = mi 1 := hI.1 1 (by decide) (by decide) (by decide)
    have e8 : m 9 = mi 9 := hI.1 9 (by decide) (by decide) (by decide)
    have f4 : m 5 j = mi 5 j := by rw [hI.2.1, if_neg (by omega)]
    have f5 : m 6 j = mi 6 j := by rw [hI.2.2.1, if_neg (by omega)]
    have f6 : m 7 j = mi 7 j := by rw [hI.2.2.2, if_neg (by omega)]
    have fa : uB m 1 j 4 = uB mi 1 j 4 := by show awB m 1 j = awB mi 1 j; simp only [awB, e0]
    refine Wp.run 2 (42, [(0, .ref 1), (1, .int mo), (2, .int (nI j))], [.int (m 1 0), .int (nI j)], (zsh ++ vs, m, ml, (zmr g))) rfl ?_
    rw [show m 1 0 = nI n from by rw [e0]; exact hn]
    refine Wp.run 0 (42, [(0, .ref 1), (1, .int mo), (2, .int (nI j))], [.int (nI n), .int (nI j)], (zsh ++ vs, m, ml, (zmr g))) rfl ?_
    refine Wp.icmp_ge rfl (fun h1 => ?_) (fun h1 => ?_)
    · exact absurd h1 (nI_ge hlt9 hn9)
    · refine Wp.run 2 (47, [(0, .ref 1), (1, .int mo), (2, .int (nI j))], [.int (nI j), .ref 1], (zsh ++ vs, m, ml, (zmr g))) rfl ?_
      refine Wp.call (as := [.ref 1, .int (nI j)]) (rest := []) rfl rfl rfl rfl rfl (Nat.le_of_ble_eq_true rfl) (Nat.le_of_ble_eq_true rfl) rfl (by decide) (c_isHere_1 (nI j)) ?_
      rintro _ _ ⟨rfl, rfl⟩
      by_cases c14 : m 1 2 >>> (nI j &&& 31) &&& 1 = 0
      · rw [if_pos c14]
        refine Wp.run 4 (56, [(0, .ref 1), (1, .int mo), (2, .int (nI j))], [.int mo, .int (nI j), .ref 1], (zsh ++ vs, m, ml, (zmr g))) rfl ?_
        refine Wp.call (as := [.ref 1, .int (nI j), .int mo]) (rest := []) rfl rfl rfl rfl rfl (Nat.le_of_ble_eq_true rfl) (Nat.le_of_ble_eq_true rfl) rfl (by decide) (c_fade_1 (mi := m) C hg0 (fun b hb => by rw [hI.1 b (by omega) (by omega) (by omega)]; exact hX b hb) hvv (i := j) (mo := mo) (by omega) c14 (by rw [f6]; exact hf j hlt9)) ?_
        rintro _ _ ⟨rfl, m', rfl, hk, k4, k5, k6⟩
        refine Wp.run 2 (37, [(2, .int ((nI j) + 1)), (0, .ref 1), (1, .int mo)], [], (zsh ++ vs, m', ml, (zmr g))) rfl ?_
        rw [nI_1]
        refine Wp.sub (a := [(0, .ref 1), (1, .int mo), (2, .int (nI (j + 1)))]) (zle_cons rfl (zle_cons rfl (zle_cons rfl (zle_nil)))) ?_
        refine ih (j + 1) _ (by omega) ⟨fun b p q r => (hk b p q r).trans (hI.1 b p q r), fun k => by
          rw [k4]
          by_cases hkj : k = j
          · subst hkj
            simp only [upd, if_true]
            rw [if_pos (by omega), e8]
            exact dayU_congr f4 f5 fa f6 f4 (fun _ => rfl)
          · simp only [upd, if_neg hkj]
            rw [hI.2.1]
            by_cases hlt : k < j
            · rw [if_pos hlt, if_pos (by omega)]
            · rw [if_neg hlt, if_neg (by omega)], fun k => by
          rw [k5]
          by_cases hkj : k = j
          · subst hkj
            simp only [upd, if_true]
            rw [if_pos (by omega), e8]
            exact dayU_congr f4 f5 fa f6 f5 (fun _ => rfl)
          · simp only [upd, if_neg hkj]
            rw [hI.2.2.1]
            by_cases hlt : k < j
            · rw [if_pos hlt, if_pos (by omega)]
            · rw [if_neg hlt, if_neg (by omega)], fun k => by
          rw [k6]
          by_cases hkj : k = j
          · subst hkj
            simp only [upd, if_true]
            rw [if_pos (by omega), e8]
            exact dayU_congr f4 f5 fa f6 f6 (fun _ => rfl)
          · simp only [upd, if_neg hkj]
            rw [hI.2.2.2]
            by_cases hlt : k < j
            · rw [if_pos hlt, if_pos (by omega)]
            · rw [if_neg hlt, if_neg (by omega)]⟩
      · rw [if_neg c14]
        refine Wp.run 3 (37, [(2, .int ((nI j) + 1)), (0, .ref 1), (1, .int mo)], [], (zsh ++ vs, m, ml, (zmr g))) rfl ?_
        rw [nI_1]
        refine Wp.sub (a := [(0, .ref 1), (1, .int mo), (2, .int (nI (j + 1)))]) (zle_cons rfl (zle_cons rfl (zle_cons rfl (zle_nil)))) ?_
        refine ih (j + 1) _ (by omega) ⟨hI.1, fun k => by
          by_cases hkj : k = j
          · subst hkj
            rw [if_pos (by omega), dayU_a 2 (fun q => c14 (fa.trans q))]
            exact f4
          · rw [hI.2.1]
            by_cases hlt : k < j
            · rw [if_pos hlt, if_pos (by omega)]
            · rw [if_neg hlt, if_neg (by omega)], fun k => by
          by_cases hkj : k = j
          · subst hkj
            rw [if_pos (by omega), dayU_a 3 (fun q => c14 (fa.trans q))]
            exact f5
          · rw [hI.2.2.1]
            by_cases hlt : k < j
            · rw [if_pos hlt, if_pos (by omega)]
            · rw [if_neg hlt, if_neg (by omega)], fun k => by
          by_cases hkj : k = j
          · subst hkj
            rw [if_pos (by omega), dayU_a 5 (fun q => c14 (fa.trans q))]
            exact f6
          · rw [hI.2.2.2]
            by_cases hlt : k < j
            · rw [if_pos hlt, if_pos (by omega)]
            · rw [if_neg hlt, if_neg (by omega)]⟩
theorem c_fade_38 {E : zEn} {vs : List (Nat × Nat)} {mi : Nat → Nat → Int32} {ml : Nat → Nat → Int64} {g : Nat → Nat → Option Nat} {g0 : Nat → Nat → Option Nat} {X : Nat → Nat → Int32} {vv : Nat → Prop} {wg : Nat → (Nat → Int32) → Int32} (C : CWs E vs g0 X vv wg) (hg0 : ∀ b, 86 ≤ b → g b = g0 b) (hX : ∀ b, 86 ≤ b → mi b = X b) (hvv : ∀ v, g 38 3 = some v → vv v ∧ 86 ≤ v) {i : Nat} {mo : Int32} (hi : i < 6) (h4 : uB mi 38 i 4 = 0) (hf : (if mi 44 i + 1 < mo then mi 44 i + 1 else mo) = mi 44 i + 1) : Wp E 1 pg_Band_fade 0 (lv_args 0 [.ref 38, .int (nI i), .int mo]) [] (zsh ++ vs, mi, ml, (zmr g)) (fun r w' => r = none ∧ ∃ m, w' = (zsh ++ vs, m, ml, zmr g) ∧ (∀ b, ¬ b = 42 → ¬ b = 43 → ¬ b = 44 → m b = mi b) ∧ m 42 = upd (mi 42) i (dayU (uB mi 38) (mi 46) (anB X (g 38 3)) i 2) ∧ m 43 = upd (mi 43) i (dayU (uB mi 38) (mi 46) (anB X (g 38 3)) i 3) ∧ m 44 = upd (mi 44) i (dayU (uB mi 38) (mi 46) (anB X (g 38 3)) i 5)) := by
  refine Wp.run 5 (8, [(0, .ref 38), (1, .int (nI i)), (2, .int mo)], [.int (nI i), .ref 43, .int 99, .int 0], (zsh ++ vs, mi, ml, (zmr g))) rfl ?_
  refine Wp.ialn rfl (by decide) rfl (by omega) (by decide) ?_
  refine Wp.run 3 (14, [(0, .ref 38), (1, .int (nI i)), (2, .int mo)], [.int (nI i), .ref 46, .int (mi 43 i), .int 99, .int 0], (zsh ++ vs, mi, ml, (zmr g))) rfl ?_
  refine Wp.ialn rfl (by decide) rfl (by omega) (by decide) ?_
  refine Wp.run 5 (24, [(3, .int (if 0 < if (mi 43 i) - (mi 46 i) < 99 then (mi 43 i) - (mi 46 i) else 99 then if (mi 43 i) - (mi 46 i) < 99 then (mi 43 i) - (mi 46 i) else 99 else 0)), (0, .ref 38), (1, .int (nI i)), (2, .int mo)], [.int (if 0 < if (mi 43 i) - (mi 46 i) < 99 then (mi 43 i) - (mi 46 i) else 99 then if (mi 43 i) - (mi 46 i) < 99 then (mi 43 i) - (mi 46 i) else 99 else 0)], (zsh ++ vs, mi, ml, (zmr g))) rfl ?_
  refine Wp.if_ne rfl (fun h1 => ?_) (fun h1 => ?_)
  · refine Wp.run 4 (82, [(3, .int (if 0 < if (mi 43 i) - (mi 46 i) < 99 then (mi 43 i) - (mi 46 i) else 99 then if (mi 43 i) - (mi 46 i) < 99 then (mi 43 i) - (mi 46 i) else 99 else 0)), (0, .ref 38), (1, .int (nI i)), (2, .int mo)], [.int (if 0 < if (mi 43 i) - (mi 46 i) < 99 then (mi 43 i) - (mi 46 i) else 99 then if (mi 43 i) - (mi 46 i) < 99 then (mi 43 i) - (mi 46 i) else 99 else 0), .int (nI i), .ref 43], (zsh ++ vs, mi, ml, (zmr g))) rfl ?_
    refine Wp.iasn rfl (by decide) rfl (by omega) (by decide) ?_
    refine Wp.run 0 (83, [(3, .int (if 0 < if (mi 43 i) - (mi 46 i) < 99 then (mi 43 i) - (mi 46 i) else 99 then if (mi 43 i) - (mi 46 i) < 99 then (mi 43 i) - (mi 46 i) else 99 else 0)), (0, .ref 38), (1, .int (nI i)), (2, .int mo)], [], (zsh ++ vs, (zup mi 43 i (if 0 < if (mi 43 i) - (mi 46 i) < 99 then (mi 43 i) - (mi 46 i) else 99 then if (mi 43 i) - (mi 46 i) < 99 then (mi 43 i) - (mi 46 i) else 99 else 0)), ml, (zmr g))) rfl ?_
    refine Wp.ret rfl rfl rfl ?_
    obtain ⟨d2, d3, d5⟩ := dayU_n (u := uB mi 38) (s := mi 46) (ag := anB X (g 38 3)) h4 (fun q => h1 q.1)
    refine ⟨rfl, _, rfl, fun b p q r => by rw [zup_ne q], ?_, ?_, ?_⟩
    · rw [d2, zup_ne (by decide)]; exact (upd_self _ _).symm
    · rw [d3, zup_eq]; rfl
    · rw [d5, zup_ne (by decide)]; exact (upd_self _ _).symm
  · refine Wp.run 3 (32, [(3, .int (if 0 < if (mi 43 i) - (mi 46 i) < 99 then (mi 43 i) - (mi 46 i) else 99 then if (mi 43 i) - (mi 46 i) < 99 then (mi 43 i) - (mi 46 i) else 99 else 0)), (0, .ref 38), (1, .int (nI i)), (2, .int mo)], [.int (nI i), .ref 42], (zsh ++ vs, mi, ml, (zmr g))) rfl ?_
    refine Wp.ialn rfl (by decide) rfl (by omega) (by decide) ?_
    refine Wp.run 0 (33, [(3, .int (if 0 < if (mi 43 i) - (mi 46 i) < 99 then (mi 43 i) - (mi 46 i) else 99 then if (mi 43 i) - (mi 46 i) < 99 then (mi 43 i) - (mi 46 i) else 99 else 0)), (0, .ref 38), (1, .int (nI i)), (2, .int mo)], [.int (mi 42 i)], (zsh ++ vs, mi, ml, (zmr g))) rfl ?_
    refine Wp.if_eq rfl (fun h2 => ?_) (fun h2 => ?_)
    · refine Wp.run 4 (82, [(3, .int (if 0 < if (mi 43 i) - (mi 46 i) < 99 then (mi 43 i) - (mi 46 i) else 99 then if (mi 43 i) - (mi 46 i) < 99 then (mi 43 i) - (mi 46 i) else 99 else 0)), (0, .ref 38), (1, .int (nI i)), (2, .int mo)], [.int (if 0 < if (mi 43 i) - (mi 46 i) < 99 then (mi 43 i) - (mi 46 i) else 99 then if (mi 43 i) - (mi 46 i) < 99 then (mi 43 i) - (mi 46 i) else 99 else 0), .int (nI i), .ref 43], (zsh ++ vs, mi, ml, (zmr g))) rfl ?_
      refine Wp.iasn rfl (by decide) rfl (by omega) (by decide) ?_
      refine Wp.run 0 (83, [(3, .int (if 0 < if (mi 43 i) - (mi 46 i) < 99 then (mi 43 i) - (mi 46 i) else 99 then if (mi 43 i) - (mi 46 i) < 99 then (mi 43 i) - (mi 46 i) else 99 else 0)), (0, .ref 38), (1, .int (nI i)), (2, .int mo)], [], (zsh ++ vs, (zup mi 43 i (if 0 < if (mi 43 i) - (mi 46 i) < 99 then (mi 43 i) - (mi 46 i) else 99 then if (mi 43 i) - (mi 46 i) < 99 then (mi 43 i) - (mi 46 i) else 99 else 0)), ml, (zmr g))) rfl ?_
      refine Wp.ret rfl rfl rfl ?_
      obtain ⟨d2, d3, d5⟩ := dayU_n (u := uB mi 38) (s := mi 46) (ag := anB X (g 38 3)) h4 (fun q => q.2 h2)
      refine ⟨rfl, _, rfl, fun b p q r => by rw [zup_ne q], ?_, ?_, ?_⟩
      · rw [d2, zup_ne (by decide)]; exact (upd_self _ _).symm
      · rw [d3, zup_eq]; rfl
      · rw [d5, zup_ne (by decide)]; exact (upd_self _ _).symm
    · refine Wp.run 4 (42, [(3, .int (if 0 < if (mi 43 i) - (mi 46 i) < 99 then (mi 43 i) - (mi 46 i) else 99 then if (mi 43 i) - (mi 46 i) < 99 then (mi 43 i) - (mi 46 i) else 99 else 0)), (0, .ref 38), (1, .int (nI i)), (2, .int mo)], [.int (nI i), .ref 42, .int (nI i), .ref 42], (zsh ++ vs, mi, ml, (zmr g))) rfl ?_
      refine Wp.ialn rfl (by decide) rfl (by omega) (by decide) ?_
      refine Wp.run 3 (48, [(3, .int (if 0 < if (mi 43 i) - (mi 46 i) < 99 then (mi 43 i) - (mi 46 i) else 99 then if (mi 43 i) - (mi 46 i) < 99 then (mi 43 i) - (mi 46 i) else 99 else 0)), (0, .ref 38), (1, .int (nI i)), (2, .int mo)], [.int (nI i), .ref 42, .int (mi 42 i), .int (nI i), .ref 42], (zsh ++ vs, mi, ml, (zmr g))) rfl ?_
      refine Wp.ialn rfl (by decide) rfl (by omega) (by decide) ?_
      refine Wp.run 3 (52, [(3, .int (if 0 < if (mi 43 i) - (mi 46 i) < 99 then (mi 43 i) - (mi 46 i) else 99 then if (mi 43 i) - (mi 46 i) < 99 then (mi 43 i) - (mi 46 i) else 99 else 0)), (0, .ref 38), (1, .int (nI i)), (2, .int mo)], [.int ((mi 42 i) &&& ((mi 42 i) - 1)), .int (nI i), .ref 42], (zsh ++ vs, mi, ml, (zmr g))) rfl ?_
      refine Wp.iasn rfl (by decide) rfl (by omega) (by decide) ?_
      refine Wp.run 7 (64, [(3, .int (if 0 < if (mi 43 i) - (mi 46 i) < 99 then (mi 43 i) - (mi 46 i) else 99 then if (mi 43 i) - (mi 46 i) < 99 then (mi 43 i) - (mi 46 i) else 99 else 0)), (0, .ref 38), (1, .int (nI i)), (2, .int mo)], [.int (nI i), .ref 44, .int mo, .int (nI i), .ref 44], (zsh ++ vs, (zup mi 42 i ((mi 42 i) &&& ((mi 42 i) - 1))), ml, (zmr g))) rfl ?_
      refine Wp.ialn rfl (by decide) rfl (by omega) (by decide) ?_
      refine Wp.run 3 (70, [(3, .int (if 0 < if (mi 43 i) - (mi 46 i) < 99 then (mi 43 i) - (mi 46 i) else 99 then if (mi 43 i) - (mi 46 i) < 99 then (mi 43 i) - (mi 46 i) else 99 else 0)), (0, .ref 38), (1, .int (nI i)), (2, .int mo)], [.int (if ((zup mi 42 i ((mi 42 i) &&& ((mi 42 i) - 1))) 44 i) + 1 < mo then ((zup mi 42 i ((mi 42 i) &&& ((mi 42 i) - 1))) 44 i) + 1 else mo), .int (nI i), .ref 44], (zsh ++ vs, (zup mi 42 i ((mi 42 i) &&& ((mi 42 i) - 1))), ml, (zmr g))) rfl ?_
      refine Wp.iasn rfl (by decide) rfl (by omega) (by decide) ?_
      refine Wp.run 1 (72, [(3, .int (if 0 < if (mi 43 i) - (mi 46 i) < 99 then (mi 43 i) - (mi 46 i) else 99 then if (mi 43 i) - (mi 46 i) < 99 then (mi 43 i) - (mi 46 i) else 99 else 0)), (0, .ref 38), (1, .int (nI i)), (2, .int mo)], [.ref 38], (zsh ++ vs, (zup (zup mi 42 i ((mi 42 i) &&& ((mi 42 i) - 1))) 44 i (if ((zup mi 42 i ((mi 42 i) &&& ((mi 42 i) - 1))) 44 i) + 1 < mo then ((zup mi 42 i ((mi 42 i) &&& ((mi 42 i) - 1))) 44 i) + 1 else mo)), ml, (zmr g))) rfl ?_
      refine Wp.call (as := [.ref 38]) (rest := []) rfl rfl rfl rfl rfl (Nat.le_of_ble_eq_true rfl) (Nat.le_of_ble_eq_true rfl) rfl (by decide) (c_anew_38 (mi := (zup (zup mi 42 i ((mi 42 i) &&& ((mi 42 i) - 1))) 44 i (if ((zup mi 42 i ((mi 42 i) &&& ((mi 42 i) - 1))) 44 i) + 1 < mo then ((zup mi 42 i ((mi 42 i) &&& ((mi 42 i) - 1))) 44 i) + 1 else mo))) C hg0 (fun b hb => by rw [zup_ne (by omega), zup_ne (by omega)]; exact hX b hb) hvv) ?_
      rintro _ _ ⟨rfl, rfl⟩
      refine Wp.run 5 (82, [(3, .int (anB X (g 38 3))), (0, .ref 38), (1, .int (nI i)), (2, .int mo)], [.int (anB X (g 38 3)), .int (nI i), .ref 43], (zsh ++ vs, (zup (zup mi 42 i ((mi 42 i) &&& ((mi 42 i) - 1))) 44 i (if ((zup mi 42 i ((mi 42 i) &&& ((mi 42 i) - 1))) 44 i) + 1 < mo then ((zup mi 42 i ((mi 42 i) &&& ((mi 42 i) - 1))) 44 i) + 1 else mo)), ml, (zmr g))) rfl ?_
      refine Wp.iasn rfl (by decide) rfl (by omega) (by decide) ?_
      refine Wp.run 0 (83, [(3, .int (anB X (g 38 3))), (0, .ref 38), (1, .int (nI i)), (2, .int mo)], [], (zsh ++ vs, (zup (zup (zup mi 42 i ((mi 42 i) &&& ((mi 42 i) - 1))) 44 i (if ((zup mi 42 i ((mi 42 i) &&& ((mi 42 i) - 1))) 44 i) + 1 < mo then ((zup mi 42 i ((mi 42 i) &&& ((mi 42 i) - 1))) 44 i) + 1 else mo)) 43 i (anB X (g 38 3))), ml, (zmr g))) rfl ?_
      refine Wp.ret rfl rfl rfl ?_
      obtain ⟨d2, d3, d5⟩ := dayU_y (u := uB mi 38) (s := mi 46) (ag := anB X (g 38 3)) h4 ⟨h1, h2⟩
      refine ⟨rfl, _, rfl, fun b p q r => by rw [zup_ne q, zup_ne r, zup_ne p], ?_, ?_, ?_⟩
      · rw [d2, zup_ne (by decide), zup_ne (by decide), zup_eq]; rfl
      · rw [d3, zup_eq, zup_ne (by decide), zup_ne (by decide)]
      · rw [d5, zup_ne (by decide), zup_eq, zup_ne (by decide), hf]; rfl
theorem c_day_l1_38 {E : zEn} {vs : List (Nat × Nat)} {mi : Nat → Nat → Int32} {ml : Nat → Nat → Int64} {g : Nat → Nat → Option Nat} (mo : Int32) {g0 : Nat → Nat → Option Nat} {X : Nat → Nat → Int32} {vv : Nat → Prop} {wg : Nat → (Nat → Int32) → Int32} (C : CWs E vs g0 X vv wg) (hg0 : ∀ b, 86 ≤ b → g b = g0 b) (hX : ∀ b, 86 ≤ b → mi b = X b) (hvv : ∀ v, g 38 3 = some v → vv v ∧ 86 ≤ v) {dd : Nat} (hdd : dd < 100000) (hd : mi 38 1 = nI dd) {n : Nat} (hn : mi 38 0 = nI n) (h6 : n ≤ 6) (hz : ∀ k, k < n → zbc (mi 42 k) = zmany (mi 42 k)) {P : Option Value → zW → Prop} (hn9 : n < 2147483648) (K : ∀ (m : Nat → Nat → Int32) , ((∀ b, ¬ b = 46 → ¬ b = 47 → m b = mi b) ∧ ∀ i, i < n → uB mi 38 i 4 = 0 → m 46 i = strU (uB mi 38) n dd (smB wg (g 38 3) (nmU (uB mi 38) dd i)) i) → Wp E 4 pg_Band_goDay 35 [(0, .ref 38), (1, .int mo), (2, .int (nI n))] [] (zsh ++ vs, m, ml, (zmr g)) P) : ∀ (k j : Nat) (m : Nat → Nat → Int32) , j + k = n → ((∀ b, ¬ b = 46 → ¬ b = 47 → m b = mi b) ∧ ∀ i, i < j → uB mi 38 i 4 = 0 → m 46 i = strU (uB mi 38) n dd (smB wg (g 38 3) (nmU (uB mi 38) dd i)) i) → Wp E 4 pg_Band_goDay 2 [(0, .ref 38), (1, .int mo), (2, .int (nI j))] [] (zsh ++ vs, m, ml, (zmr g)) P := by
  intro k
  induction k with
  | zero =>
    intro j m  hj9 hI
    obtain rfl : n = j := by omega
    refine Wp.run 1 (3, [(0, .ref 38), (1, .int mo), (2, .int (nI n))], [.int (nI n)], (zsh ++ vs, m, ml, (zmr g))) rfl ?_
    have e0 : m 38 = mi 38 := hI.1 38 (by decide) (by decide)
    have e2 : m 40 = mi 40 := hI.1 40 (by decide) (by decide)
    have e3 : m 41 = mi 41 := hI.1 41 (by decide) (by decide)
    have e4 : m 42 = mi 42 := hI.1 42 (by decide) (by decide)
    have e5 : m 43 = mi 43 := hI.1 43 (by decide) (by decide)
    have e6 : m 44 = mi 44 := hI.1 44 (by decide) (by decide)
    have e7 : m 45 = mi 45 := hI.1 45 (by decide) (by decide)
    have eu : uB m 38 = uB mi 38 := by funext k f; simp only [uB, awB, show m 38 = mi 38 from e0, show m (38 + 2) = mi (38 + 2) from e2, show m (38 + 3) = mi (38 + 3) from e3, show m (38 + 4) = mi (38 + 4) from e4, show m (38 + 5) = mi (38 + 5) from e5, show m (38 + 6) = mi (38 + 6) from e6, show m (38 + 7) = mi (38 + 7) from e7]
    refine Wp.run 2 (7, [(0, .ref 38), (1, .int mo), (2, .int (nI n))], [.int (m 38 0), .int (nI n)], (zsh ++ vs, m, ml, (zmr g))) rfl ?_
    rw [show m 38 0 = nI n from by rw [e0]; exact hn]
    refine Wp.run 0 (7, [(0, .ref 38), (1, .int mo), (2, .int (nI n))], [.int (nI n), .int (nI n)], (zsh ++ vs, m, ml, (zmr g))) rfl ?_
    refine Wp.icmp_ge rfl (fun h1 => ?_) (fun h1 => ?_)
    · exact K m  hI
    · exact absurd (Int32.le_refl _) h1
  | succ k ih =>
    intro j m  hj9 hI
    have hlt9 : j < n := by omega
    refine Wp.run 1 (3, [(0, .ref 38), (1, .int mo), (2, .int (nI j))], [.int (nI j)], (zsh ++ vs, m, ml, (zmr g))) rfl ?_
    have e0 : m 38 = mi 38 := hI.1 38 (by decide) (by decide)
    have e2 : m 40 = mi 40 := hI.1 40 (by decide) (by decide)
    have e3 : m 41 = mi 41 := hI.1 41 (by decide) (by decide)
    have e4 : m 42 = mi 42 := hI.1 42 (by decide) (by decide)
    have e5 : m 43 = mi 43 := hI.1 43 (by decide) (by decide)
    have e6 : m 44 = mi 44 := hI.1 44 (by decide) (by decide)
    have e7 : m 45 = mi 45 := hI.1 45 (by decide) (by decide)
    have eu : uB m 38 = uB mi 38 := by funext k f; simp only [uB, awB, show m 38 = mi 38 from e0, show m (38 + 2) = mi (38 + 2) from e2, show m (38 + 3) = mi (38 + 3) from e3, show m (38 + 4) = mi (38 + 4) from e4, show m (38 + 5) = mi (38 + 5) from e5, show m (38 + 6) = mi (38 + 6) from e6, show m (38 + 7) = mi (38 + 7) from e7]
    refine Wp.run 2 (7, [(0, .ref 38), (1, .int mo), (2, .int (nI j))], [.int (m 38 0), .int (nI j)], (zsh ++ vs, m, ml, (zmr g))) rfl ?_
    rw [show m 38 0 = nI n from by rw [e0]; exact hn]
    refine Wp.run 0 (7, [(0, .ref 38), (1, .int mo), (2, .int (nI j))], [.int (nI n), .int (nI j)], (zsh ++ vs, m, ml, (zmr g))) rfl ?_
    refine Wp.icmp_ge rfl (fun h1 => ?_) (fun h1 => ?_)
    · exact absurd h1 (nI_ge hlt9 hn9)
    · refine Wp.run 2 (12, [(0, .ref 38), (1, .int mo), (2, .int (nI j))], [.int (nI j), .ref 38], (zsh ++ vs, m, ml, (zmr g))) rfl ?_
      refine Wp.call (as := [.ref 38, .int (nI j)]) (rest := []) rfl rfl rfl rfl rfl (Nat.le_of_ble_eq_true rfl) (Nat.le_of_ble_eq_true rfl) rfl (by decide) (c_isHere_38 (nI j)) ?_
      rintro _ _ ⟨rfl, rfl⟩
      by_cases c15 : m 38 2 >>> (nI j &&& 31) &&& 1 = 0
      · rw [if_pos c15]
        refine Wp.run 6 (25, [(0, .ref 38), (1, .int mo), (2, .int (nI j))], [.int (nI j), .ref 38, .int (nI j), .ref 46], (zsh ++ vs, m, ml, (zmr g))) rfl ?_
        refine Wp.call (as := [.ref 38, .int (nI j)]) (rest := [.int (nI j), .ref 46]) rfl rfl rfl rfl rfl (Nat.le_of_ble_eq_true rfl) (Nat.le_of_ble_eq_true rfl) rfl (by decide) (c_strain_38 (mi := m) C hg0 (fun b hb => by rw [hI.1 b (by omega) (by omega)]; exact hX b hb) hvv hdd (by rw [e0]; exact hd) (i := j) (by omega) (by rw [e4]; exact hz j hlt9) (by rw [e0]; exact hn) h6) ?_
        rintro _ _ ⟨rfl, m', rfl, hk⟩
        rw [eu]
        refine Wp.iasn rfl (by decide) rfl (by omega) (by decide) ?_
        refine Wp.run 2 (2, [(2, .int ((nI j) + 1)), (0, .ref 38), (1, .int mo)], [], (zsh ++ vs, (zup m' 46 j (strU (uB mi 38) n dd (smB wg (g 38 3) (nmU (uB mi 38) dd j)) j)), ml, (zmr g))) rfl ?_
        rw [nI_1]
        refine Wp.sub (a := [(0, .ref 38), (1, .int mo), (2, .int (nI (j + 1)))]) (zle_cons rfl (zle_cons rfl (zle_cons rfl (zle_nil)))) ?_
        refine ih (j + 1) _ (by omega) ⟨fun b p q => ?_, fun i hi h4 => ?_⟩
        · rw [zup_ne p, hk b q]; exact hI.1 b p q
        · by_cases hij : i = j
          · subst hij; simp only [zup, if_true]
          · simp only [zup, if_true, if_neg hij]
            rw [hk 46 (by decide)]
            exact hI.2 i (by omega) h4
      · rw [if_neg c15]
        refine Wp.run 3 (2, [(2, .int ((nI j) + 1)), (0, .ref 38), (1, .int mo)], [], (zsh ++ vs, m, ml, (zmr g))) rfl ?_
        rw [nI_1]
        refine Wp.sub (a := [(0, .ref 38), (1, .int mo), (2, .int (nI (j + 1)))]) (zle_cons rfl (zle_cons rfl (zle_cons rfl (zle_nil)))) ?_
        refine ih (j + 1) _ (by omega) ⟨hI.1, fun i hi h4 => ?_⟩
        by_cases hij : i = j
        · subst hij
          exact absurd (show m 38 2 >>> (nI i &&& 31) &&& 1 = 0 from by rw [e0]; exact h4) c15
        · exact hI.2 i (by omega) h4
theorem c_day_l2_38 {E : zEn} {vs : List (Nat × Nat)} {mi : Nat → Nat → Int32} {ml : Nat → Nat → Int64} {g : Nat → Nat → Option Nat} (mo : Int32) {g0 : Nat → Nat → Option Nat} {X : Nat → Nat → Int32} {vv : Nat → Prop} {wg : Nat → (Nat → Int32) → Int32} (C : CWs E vs g0 X vv wg) (hg0 : ∀ b, 86 ≤ b → g b = g0 b) (hX : ∀ b, 86 ≤ b → mi b = X b) (hvv : ∀ v, g 38 3 = some v → vv v ∧ 86 ≤ v) {n : Nat} (hn : mi 38 0 = nI n) (h6 : n ≤ 6) (hf : ∀ k, k < n → (if mi 44 k + 1 < mo then mi 44 k + 1 else mo) = mi 44 k + 1) {P : Option Value → zW → Prop} (hn9 : n < 2147483648) (K : ∀ (m : Nat → Nat → Int32) , ((∀ b, ¬ b = 42 → ¬ b = 43 → ¬ b = 44 → m b = mi b) ∧ (∀ k, m 42 k = if k < n then dayU (uB mi 38) (mi 46) (anB X (g 38 3)) k 2 else mi 42 k) ∧ (∀ k, m 43 k = if k < n then dayU (uB mi 38) (mi 46) (anB X (g 38 3)) k 3 else mi 43 k) ∧ ∀ k, m 44 k = if k < n then dayU (uB mi 38) (mi 46) (anB X (g 38 3)) k 5 else mi 44 k) → Wp E 4 pg_Band_goDay 65 [(0, .ref 38), (1, .int mo), (2, .int (nI n))] [] (zsh ++ vs, m, ml, (zmr g)) P) : ∀ (k j : Nat) (m : Nat → Nat → Int32) , j + k = n → ((∀ b, ¬ b = 42 → ¬ b = 43 → ¬ b = 44 → m b = mi b) ∧ (∀ k, m 42 k = if k < j then dayU (uB mi 38) (mi 46) (anB X (g 38 3)) k 2 else mi 42 k) ∧ (∀ k, m 43 k = if k < j then dayU (uB mi 38) (mi 46) (anB X (g 38 3)) k 3 else mi 43 k) ∧ ∀ k, m 44 k = if k < j then dayU (uB mi 38) (mi 46) (anB X (g 38 3)) k 5 else mi 44 k) → Wp E 4 pg_Band_goDay 37 [(0, .ref 38), (1, .int mo), (2, .int (nI j))] [] (zsh ++ vs, m, ml, (zmr g)) P := by
  intro k
  induction k with
  | zero =>
    intro j m  hj9 hI
    obtain rfl : n = j := by omega
    refine Wp.run 1 (38, [(0, .ref 38), (1, .int mo), (2, .int (nI n))], [.int (nI n)], (zsh ++ vs, m, ml, (zmr g))) rfl ?_
    have e0 : m 38 = mi 38 := hI.1 38 (by decide) (by decide) (by decide)
    have e8 : m 46 = mi 46 := hI.1 46 (by decide) (by decide) (by decide)
    have f4 : m 42 n = mi 42 n := by rw [hI.2.1, if_neg (by omega)]
    have f5 : m 43 n = mi 43 n := by rw [hI.2.2.1, if_neg (by omega)]
    have f6 : m 44 n = mi 44 n := by rw [hI.2.2.2, if_neg (by omega)]
    have fa : uB m 38 n 4 = uB mi 38 n 4 := by show awB m 38 n = awB mi 38 n; simp only [awB, e0]
    refine Wp.run 2 (42, [(0, .ref 38), (1, .int mo), (2, .int (nI n))], [.int (m 38 0), .int (nI n)], (zsh ++ vs, m, ml, (zmr g))) rfl ?_
    rw [show m 38 0 = nI n from by rw [e0]; exact hn]
    refine Wp.run 0 (42, [(0, .ref 38), (1, .int mo), (2, .int (nI n))], [.int (nI n), .int (nI n)], (zsh ++ vs, m, ml, (zmr g))) rfl ?_
    refine Wp.icmp_ge rfl (fun h1 => ?_) (fun h1 => ?_)
    · exact K m  hI
    · exact absurd (Int32.le_refl _) h1
  | succ k ih =>
    intro j m  hj9 hI
    have hlt9 : j < n := by omega
    refine Wp.run 1 (38, [(0, .ref 38), (1, .int mo), (2, .int (nI j))], [.int (nI j)], (zsh ++ vs, m, ml, (zmr g))) rfl ?_
    have e0 : m 38 = mi 38 := hI.1 38 (by decide) (by decide) (by decide)
    have e8 : m 46 = mi 46 := hI.1 46 (by decide) (by decide) (by decide)
    have f4 : m 42 j = mi 42 j := by rw [hI.2.1, if_neg (by omega)]
    have f5 : m 43 j = mi 43 j := by rw [hI.2.2.1, if_neg (by omega)]
    have f6 : m 44 j = mi 44 j := by rw [hI.2.2.2, if_neg (by omega)]
    have fa : uB m 38 j 4 = uB mi 38 j 4 := by show awB m 38 j = awB mi 38 j; simp only [awB, e0]
    refine Wp.run 2 (42, [(0, .ref 38), (1, .int mo), (2, .int (nI j))], [.int (m 38 0), .int (nI j)], (zsh ++ vs, m, ml, (zmr g))) rfl ?_
    rw [show m 38 0 = nI n from by rw [e0]; exact hn]
    refine Wp.run 0 (42, [(0, .ref 38), (1, .int mo), (2, .int (nI j))], [.int (nI n), .int (nI j)], (zsh ++ vs, m, ml, (zmr g))) rfl ?_
    refine Wp.icmp_ge rfl (fun h1 => ?_) (fun h1 => ?_)
    · exact absurd h1 (nI_ge hlt9 hn9)
    · refine Wp.run 2 (47, [(0, .ref 38), (1, .int mo), (2, .int (nI j))], [.int (nI j), .ref 38], (zsh ++ vs, m, ml, (zmr g))) rfl ?_
      refine Wp.call (as := [.ref 38, .int (nI j)]) (rest := []) rfl rfl rfl rfl rfl (Nat.le_of_ble_eq_true rfl) (Nat.le_of_ble_eq_true rfl) rfl (by decide) (c_isHere_38 (nI j)) ?_
      rintro _ _ ⟨rfl, rfl⟩
      by_cases c16 : m 38 2 >>> (nI j &&& 31) &&& 1 = 0
      · rw [if_pos c16]
        refine Wp.run 4 (56, [(0, .ref 38), (1, .int mo), (2, .int (nI j))], [.int mo, .int (nI j), .ref 38], (zsh ++ vs, m, ml, (zmr g))) rfl ?_
        refine Wp.call (as := [.ref 38, .int (nI j), .int mo]) (rest := []) rfl rfl rfl rfl rfl (Nat.le_of_ble_eq_true rfl) (Nat.le_of_ble_eq_true rfl) rfl (by decide) (c_fade_38 (mi := m) C hg0 (fun b hb => by rw [hI.1 b (by omega) (by omega) (by omega)]; exact hX b hb) hvv (i := j) (mo := mo) (by omega) c16 (by rw [f6]; exact hf j hlt9)) ?_
        rintro _ _ ⟨rfl, m', rfl, hk, k4, k5, k6⟩
        refine Wp.run 2 (37, [(2, .int ((nI j) + 1)), (0, .ref 38), (1, .int mo)], [], (zsh ++ vs, m', ml, (zmr g))) rfl ?_
        rw [nI_1]
        refine Wp.sub (a := [(0, .ref 38), (1, .int mo), (2, .int (nI (j + 1)))]) (zle_cons rfl (zle_cons rfl (zle_cons rfl (zle_nil)))) ?_
        refine ih (j + 1) _ (by omega) ⟨fun b p q r => (hk b p q r).trans (hI.1 b p q r), fun k => by
          rw [k4]
          by_cases hkj : k = j
          · subst hkj
            simp only [upd, if_true]
            rw [if_pos (by omega), e8]
            exact dayU_congr f4 f5 fa f6 f4 (fun _ => rfl)
          · simp only [upd, if_neg hkj]
            rw [hI.2.1]
            by_cases hlt : k < j
            · rw [if_pos hlt, if_pos (by omega)]
            · rw [if_neg hlt, if_neg (by omega)], fun k => by
          rw [k5]
          by_cases hkj : k = j
          · subst hkj
            simp only [upd, if_true]
            rw [if_pos (by omega), e8]
            exact dayU_congr f4 f5 fa f6 f5 (fun _ => rfl)
          · simp only [upd, if_neg hkj]
            rw [hI.2.2.1]
            by_cases hlt : k < j
            · rw [if_pos hlt, if_pos (by omega)]
            · rw [if_neg hlt, if_neg (by omega)], fun k => by
          rw [k6]
          by_cases hkj : k = j
          · subst hkj
            simp only [upd, if_true]
            rw [if_pos (by omega), e8]
            exact dayU_congr f4 f5 fa f6 f6 (fun _ => rfl)
          · simp only [upd, if_neg hkj]
            rw [hI.2.2.2]
            by_cases hlt : k < j
            · rw [if_pos hlt, if_pos (by omega)]
            · rw [if_neg hlt, if_neg (by omega)]⟩
      · rw [if_neg c16]
        refine Wp.run 3 (37, [(2, .int ((nI j) + 1)), (0, .ref 38), (1, .int mo)], [], (zsh ++ vs, m, ml, (zmr g))) rfl ?_
        rw [nI_1]
        refine Wp.sub (a := [(0, .ref 38), (1, .int mo), (2, .int (nI (j + 1)))]) (zle_cons rfl (zle_cons rfl (zle_cons rfl (zle_nil)))) ?_
        refine ih (j + 1) _ (by omega) ⟨hI.1, fun k => by
          by_cases hkj : k = j
          · subst hkj
            rw [if_pos (by omega), dayU_a 2 (fun q => c16 (fa.trans q))]
            exact f4
          · rw [hI.2.1]
            by_cases hlt : k < j
            · rw [if_pos hlt, if_pos (by omega)]
            · rw [if_neg hlt, if_neg (by omega)], fun k => by
          by_cases hkj : k = j
          · subst hkj
            rw [if_pos (by omega), dayU_a 3 (fun q => c16 (fa.trans q))]
            exact f5
          · rw [hI.2.2.1]
            by_cases hlt : k < j
            · rw [if_pos hlt, if_pos (by omega)]
            · rw [if_neg hlt, if_neg (by omega)], fun k => by
          by_cases hkj : k = j
          · subst hkj
            rw [if_pos (by omega), dayU_a 5 (fun q => c16 (fa.trans q))]
            exact f6
          · rw [hI.2.2.2]
            by_cases hlt : k < j
            · rw [if_pos hlt, if_pos (by omega)]
            · rw [if_neg hlt, if_neg (by omega)]⟩
theorem c_goDay_1 {E : zEn} {vs : List (Nat × Nat)} {mi : Nat → Nat → Int32} {ml : Nat → Nat → Int64} {g : Nat → Nat → Option Nat} {mo : Int32} {g0 : Nat → Nat → Option Nat} {X : Nat → Nat → Int32} {vv : Nat → Prop} {wg : Nat → (Nat → Int32) → Int32} (C : CWs E vs g0 X vv wg) (hg0 : ∀ b, 86 ≤ b → g b = g0 b) (hX : ∀ b, 86 ≤ b → mi b = X b) (hvv : ∀ v, g 1 3 = some v → vv v ∧ 86 ≤ v) {dd : Nat} (hdd : dd < 100000) (hd : mi 1 1 = nI dd) {n : Nat} (hn : mi 1 0 = nI n) (h6 : n ≤ 6) (hz : ∀ k, k < n → zbc (mi 5 k) = zmany (mi 5 k)) (hf : ∀ k, k < n → (if mi 7 k + 1 < mo then mi 7 k + 1 else mo) = mi 7 k + 1) : Wp E 4 pg_Band_goDay 0 (lv_args 0 [.ref 1, .int mo]) [] (zsh ++ vs, mi, ml, (zmr g)) (fun r w' => r = none ∧ ∃ m, w' = (zsh ++ vs, m, ml, zmr g) ∧ (∀ b, ¬ b = 1 → ¬ b = 5 → ¬ b = 6 → ¬ b = 7 → ¬ b = 9 → ¬ b = 10 → m b = mi b) ∧ (∀ f, ¬ f = 1 → m 1 f = mi 1 f) ∧ m 1 1 = nI (dd + 1) ∧ (∀ k, k < n → m 5 k = dayU (uB mi 1) (fun k => strU (uB mi 1) n dd (smB wg (g 1 3) (nmU (uB mi 1) dd k)) k) (anB X (g 1 3)) k 2) ∧ (∀ k, k < n → m 6 k = dayU (uB mi 1) (fun k => strU (uB mi 1) n dd (smB wg (g 1 3) (nmU (uB mi 1) dd k)) k) (anB X (g 1 3)) k 3) ∧ ∀ k, k < n → m 7 k = dayU (uB mi 1) (fun k => strU (uB mi 1) n dd (smB wg (g 1 3) (nmU (uB mi 1) dd k)) k) (anB X (g 1 3)) k 5) := by
  refine Wp.run 2 (2, [(2, .int 0), (0, .ref 1), (1, .int mo)], [], (zsh ++ vs, mi, ml, (zmr g))) rfl ?_
  have K1 : ∀ (m : Nat → Nat → Int32), ((∀ b, ¬ b = 9 → ¬ b = 10 → m b = mi b) ∧ ∀ i, i < n → uB mi 1 i 4 = 0 → m 9 i = strU (uB mi 1) n dd (smB wg (g 1 3) (nmU (uB mi 1) dd i)) i) → Wp E 4 pg_Band_goDay 35 [(0, .ref 1), (1, .int mo), (2, .int (nI n))] [] (zsh ++ vs, m, ml, zmr g) (fun r w' => r = none ∧ ∃ m, w' = (zsh ++ vs, m, ml, zmr g) ∧ (∀ b, ¬ b = 1 → ¬ b = 5 → ¬ b = 6 → ¬ b = 7 → ¬ b = 9 → ¬ b = 10 → m b = mi b) ∧ (∀ f, ¬ f = 1 → m 1 f = mi 1 f) ∧ m 1 1 = nI (dd + 1) ∧ (∀ k, k < n → m 5 k = dayU (uB mi 1) (fun k => strU (uB mi 1) n dd (smB wg (g 1 3) (nmU (uB mi 1) dd k)) k) (anB X (g 1 3)) k 2) ∧ (∀ k, k < n → m 6 k = dayU (uB mi 1) (fun k => strU (uB mi 1) n dd (smB wg (g 1 3) (nmU (uB mi 1) dd k)) k) (anB X (g 1 3)) k 3) ∧ ∀ k, k < n → m 7 k = dayU (uB mi 1) (fun k => strU (uB mi 1) n dd (smB wg (g 1 3) (nmU (uB mi 1) dd k)) k) (anB X (g 1 3)) k 5) := by
    intro m hI
    refine Wp.run 2 (37, [(2, .int 0), (0, .ref 1), (1, .int mo)], [], (zsh ++ vs, m, ml, (zmr g))) rfl ?_
    have e0 : m 1 = mi 1 := hI.1 1 (by decide) (by decide)
    have e2 : m 3 = mi 3 := hI.1 3 (by decide) (by decide)
    have e3 : m 4 = mi 4 := hI.1 4 (by decide) (by decide)
    have e4 : m 5 = mi 5 := hI.1 5 (by decide) (by decide)
    have e5 : m 6 = mi 6 := hI.1 6 (by decide) (by decide)
    have e6 : m 7 = mi 7 := hI.1 7 (by decide) (by decide)
    have e7 : m 8 = mi 8 := hI.1 8 (by decide) (by decide)
    have eu : uB m 1 = uB mi 1 := by funext k f; simp only [uB, awB, show m 1 = mi 1 from e0, show m (1 + 2) = mi (1 + 2) from e2, show m (1 + 3) = mi (1 + 3) from e3, show m (1 + 4) = mi (1 + 4) from e4, show m (1 + 5) = mi (1 + 5) from e5, show m (1 + 6) = mi (1 + 6) from e6, show m (1 + 7) = mi (1 + 7) from e7]
    have K2 : ∀ (m2 : Nat → Nat → Int32), ((∀ b, ¬ b = 5 → ¬ b = 6 → ¬ b = 7 → m2 b = m b) ∧ (∀ k, m2 5 k = if k < n then dayU (uB m 1) (m 9) (anB X (g 1 3)) k 2 else m 5 k) ∧ (∀ k, m2 6 k = if k < n then dayU (uB m 1) (m 9) (anB X (g 1 3)) k 3 else m 6 k) ∧ ∀ k, m2 7 k = if k < n then dayU (uB m 1) (m 9) (anB X (g 1 3)) k 5 else m 7 k) → Wp E 4 pg_Band_goDay 65 [(0, .ref 1), (1, .int mo), (2, .int (nI n))] [] (zsh ++ vs, m2, ml, zmr g) (fun r w' => r = none ∧ ∃ m, w' = (zsh ++ vs, m, ml, zmr g) ∧ (∀ b, ¬ b = 1 → ¬ b = 5 → ¬ b = 6 → ¬ b = 7 → ¬ b = 9 → ¬ b = 10 → m b = mi b) ∧ (∀ f, ¬ f = 1 → m 1 f = mi 1 f) ∧ m 1 1 = nI (dd + 1) ∧ (∀ k, k < n → m 5 k = dayU (uB mi 1) (fun k => strU (uB mi 1) n dd (smB wg (g 1 3) (nmU (uB mi 1) dd k)) k) (anB X (g 1 3)) k 2) ∧ (∀ k, k < n → m 6 k = dayU (uB mi 1) (fun k => strU (uB mi 1) n dd (smB wg (g 1 3) (nmU (uB mi 1) dd k)) k) (anB X (g 1 3)) k 3) ∧ ∀ k, k < n → m 7 k = dayU (uB mi 1) (fun k => strU (uB mi 1) n dd (smB wg (g 1 3) (nmU (uB mi 1) dd k)) k) (anB X (g 1 3)) k 5) := by
      intro m2 hI2
      refine Wp.run 6 (75, [(0, .ref 1), (1, .int mo), (2, .int (nI n))], [], (zsh ++ vs, (zup m2 1 1 ((m2 1 1) + 1)), ml, (zmr g))) rfl ?_
      refine Wp.ret rfl rfl rfl ?_
      refine ⟨rfl, _, rfl, fun b p1 p2 p3 p4 p5 p6 => ?_, fun f hf9 => ?_, ?_, ?_, ?_, ?_⟩
      · rw [zup_ne p1, hI2.1 b p2 p3 p4]; exact hI.1 b p5 p6
      · simp only [zup, if_true, if_neg hf9]; rw [hI2.1 1 (by decide) (by decide) (by decide), e0]
      · simp only [zup, if_true]; rw [hI2.1 1 (by decide) (by decide) (by decide), e0, hd, nI_1]
      · intro k hk9
        rw [zup_ne (by decide), hI2.2.1, if_pos hk9, eu]
        exact dayU_congr rfl rfl rfl rfl rfl (fun h4 => hI.2 k hk9 h4)
      · intro k hk9
        rw [zup_ne (by decide), hI2.2.2.1, if_pos hk9, eu]
        exact dayU_congr rfl rfl rfl rfl rfl (fun h4 => hI.2 k hk9 h4)
      · intro k hk9
        rw [zup_ne (by decide), hI2.2.2.2, if_pos hk9, eu]
        exact dayU_congr rfl rfl rfl rfl rfl (fun h4 => hI.2 k hk9 h4)
    refine Wp.sub (a := [(0, .ref 1), (1, .int mo), (2, .int (nI 0))]) (zle_cons rfl (zle_cons rfl (zle_cons rfl (zle_nil)))) ?_
    exact c_day_l2_1 (mi := m) mo C hg0 (fun b hb => by rw [hI.1 b (by omega) (by omega)]; exact hX b hb) hvv (by rw [e0]; exact hn) h6 (by rw [e6]; exact hf) (by omega) K2 n 0 m (by omega) ⟨fun _ _ _ _ => rfl, fun k => by rw [if_neg (by omega)], fun k => by rw [if_neg (by omega)], fun k => by rw [if_neg (by omega)]⟩
  refine Wp.sub (a := [(0, .ref 1), (1, .int mo), (2, .int (nI 0))]) (zle_cons rfl (zle_cons rfl (zle_cons rfl (zle_nil)))) ?_
  exact c_day_l1_1 mo C hg0 hX hvv hdd hd hn h6 hz (by omega) K1 n 0 mi (by omega) ⟨fun _ _ _ => rfl, fun i hi => absurd hi (by omega)⟩
theorem c_goDay_38 {E : zEn} {vs : List (Nat × Nat)} {mi : Nat → Nat → Int32} {ml : Nat → Nat → Int64} {g : Nat → Nat → Option Nat} {mo : Int32} {g0 : Nat → Nat → Option Nat} {X : Nat → Nat → Int32} {vv : Nat → Prop} {wg : Nat → (Nat → Int32) → Int32} (C : CWs E vs g0 X vv wg) (hg0 : ∀ b, 86 ≤ b → g b = g0 b) (hX : ∀ b, 86 ≤ b → mi b = X b) (hvv : ∀ v, g 38 3 = some v → vv v ∧ 86 ≤ v) {dd : Nat} (hdd : dd < 100000) (hd : mi 38 1 = nI dd) {n : Nat} (hn : mi 38 0 = nI n) (h6 : n ≤ 6) (hz : ∀ k, k < n → zbc (mi 42 k) = zmany (mi 42 k)) (hf : ∀ k, k < n → (if mi 44 k + 1 < mo then mi 44 k + 1 else mo) = mi 44 k + 1) : Wp E 4 pg_Band_goDay 0 (lv_args 0 [.ref 38, .int mo]) [] (zsh ++ vs, mi, ml, (zmr g)) (fun r w' => r = none ∧ ∃ m, w' = (zsh ++ vs, m, ml, zmr g) ∧ (∀ b, ¬ b = 38 → ¬ b = 42 → ¬ b = 43 → ¬ b = 44 → ¬ b = 46 → ¬ b = 47 → m b = mi b) ∧ (∀ f, ¬ f = 1 → m 38 f = mi 38 f) ∧ m 38 1 = nI (dd + 1) ∧ (∀ k, k < n → m 42 k = dayU (uB mi 38) (fun k => strU (uB mi 38) n dd (smB wg (g 38 3) (nmU (uB mi 38) dd k)) k) (anB X (g 38 3)) k 2) ∧ (∀ k, k < n → m 43 k = dayU (uB mi 38) (fun k => strU (uB mi 38) n dd (smB wg (g 38 3) (nmU (uB mi 38) dd k)) k) (anB X (g 38 3)) k 3) ∧ ∀ k, k < n → m 44 k = dayU (uB mi 38) (fun k => strU (uB mi 38) n dd (smB wg (g 38 3) (nmU (uB mi 38) dd k)) k) (anB X (g 38 3)) k 5) := by
  refine Wp.run 2 (2, [(2, .int 0), (0, .ref 38), (1, .int mo)], [], (zsh ++ vs, mi, ml, (zmr g))) rfl ?_
  have K1 : ∀ (m : Nat → Nat → Int32), ((∀ b, ¬ b = 46 → ¬ b = 47 → m b = mi b) ∧ ∀ i, i < n → uB mi 38 i 4 = 0 → m 46 i = strU (uB mi 38) n dd (smB wg (g 38 3) (nmU (uB mi 38) dd i)) i) → Wp E 4 pg_Band_goDay 35 [(0, .ref 38), (1, .int mo), (2, .int (nI n))] [] (zsh ++ vs, m, ml, zmr g) (fun r w' => r = none ∧ ∃ m, w' = (zsh ++ vs, m, ml, zmr g) ∧ (∀ b, ¬ b = 38 → ¬ b = 42 → ¬ b = 43 → ¬ b = 44 → ¬ b = 46 → ¬ b = 47 → m b = mi b) ∧ (∀ f, ¬ f = 1 → m 38 f = mi 38 f) ∧ m 38 1 = nI (dd + 1) ∧ (∀ k, k < n → m 42 k = dayU (uB mi 38) (fun k => strU (uB mi 38) n dd (smB wg (g 38 3) (nmU (uB mi 38) dd k)) k) (anB X (g 38 3)) k 2) ∧ (∀ k, k < n → m 43 k = dayU (uB mi 38) (fun k => strU (uB mi 38) n dd (smB wg (g 38 3) (nmU (uB mi 38) dd k)) k) (anB X (g 38 3)) k 3) ∧ ∀ k, k < n → m 44 k = dayU (uB mi 38) (fun k => strU (uB mi 38) n dd (smB wg (g 38 3) (nmU (uB mi 38) dd k)) k) (anB X (g 38 3)) k 5) := by
    intro m hI
    refine Wp.run 2 (37, [(2, .int 0), (0, .ref 38), (1, .int mo)], [], (zsh ++ vs, m, ml, (zmr g))) rfl ?_
    have e0 : m 38 = mi 38 := hI.1 38 (by decide) (by decide)
    have e2 : m 40 = mi 40 := hI.1 40 (by decide) (by decide)
    have e3 : m 41 = mi 41 := hI.1 41 (by decide) (by decide)
    have e4 : m 42 = mi 42 := hI.1 42 (by decide) (by decide)
    have e5 : m 43 = mi 43 := hI.1 43 (by decide) (by decide)
    have e6 : m 44 = mi 44 := hI.1 44 (by decide) (by decide)
    have e7 : m 45 = mi 45 := hI.1 45 (by decide) (by decide)
    have eu : uB m 38 = uB mi 38 := by funext k f; simp only [uB, awB, show m 38 = mi 38 from e0, show m (38 + 2) = mi (38 + 2) from e2, show m (38 + 3) = mi (38 + 3) from e3, show m (38 + 4) = mi (38 + 4) from e4, show m (38 + 5) = mi (38 + 5) from e5, show m (38 + 6) = mi (38 + 6) from e6, show m (38 + 7) = mi (38 + 7) from e7]
    have K2 : ∀ (m2 : Nat → Nat → Int32), ((∀ b, ¬ b = 42 → ¬ b = 43 → ¬ b = 44 → m2 b = m b) ∧ (∀ k, m2 42 k = if k < n then dayU (uB m 38) (m 46) (anB X (g 38 3)) k 2 else m 42 k) ∧ (∀ k, m2 43 k = if k < n then dayU (uB m 38) (m 46) (anB X (g 38 3)) k 3 else m 43 k) ∧ ∀ k, m2 44 k = if k < n then dayU (uB m 38) (m 46) (anB X (g 38 3)) k 5 else m 44 k) → Wp E 4 pg_Band_goDay 65 [(0, .ref 38), (1, .int mo), (2, .int (nI n))] [] (zsh ++ vs, m2, ml, zmr g) (fun r w' => r = none ∧ ∃ m, w' = (zsh ++ vs, m, ml, zmr g) ∧ (∀ b, ¬ b = 38 → ¬ b = 42 → ¬ b = 43 → ¬ b = 44 → ¬ b = 46 → ¬ b = 47 → m b = mi b) ∧ (∀ f, ¬ f = 1 → m 38 f = mi 38 f) ∧ m 38 1 = nI (dd + 1) ∧ (∀ k, k < n → m 42 k = dayU (uB mi 38) (fun k => strU (uB mi 38) n dd (smB wg (g 38 3) (nmU (uB mi 38) dd k)) k) (anB X (g 38 3)) k 2) ∧ (∀ k, k < n → m 43 k = dayU (uB mi 38) (fun k => strU (uB mi 38) n dd (smB wg (g 38 3) (nmU (uB mi 38) dd k)) k) (anB X (g 38 3)) k 3) ∧ ∀ k, k < n → m 44 k = dayU (uB mi 38) (fun k => strU (uB mi 38) n dd (smB wg (g 38 3) (nmU (uB mi 38) dd k)) k) (anB X (g 38 3)) k 5) := by
      intro m2 hI2
      refine Wp.run 6 (75, [(0, .ref 38), (1, .int mo), (2, .int (nI n))], [], (zsh ++ vs, (zup m2 38 1 ((m2 38 1) + 1)), ml, (zmr g))) rfl ?_
      refine Wp.ret rfl rfl rfl ?_
      refine ⟨rfl, _, rfl, fun b p1 p2 p3 p4 p5 p6 => ?_, fun f hf9 => ?_, ?_, ?_, ?_, ?_⟩
      · rw [zup_ne p1, hI2.1 b p2 p3 p4]; exact hI.1 b p5 p6
      · simp only [zup, if_true, if_neg hf9]; rw [hI2.1 38 (by decide) (by decide) (by decide), e0]
      · simp only [zup, if_true]; rw [hI2.1 38 (by decide) (by decide) (by decide), e0, hd, nI_1]
      · intro k hk9
        rw [zup_ne (by decide), hI2.2.1, if_pos hk9, eu]
        exact dayU_congr rfl rfl rfl rfl rfl (fun h4 => hI.2 k hk9 h4)
      · intro k hk9
        rw [zup_ne (by decide), hI2.2.2.1, if_pos hk9, eu]
        exact dayU_congr rfl rfl rfl rfl rfl (fun h4 => hI.2 k hk9 h4)
      · intro k hk9
        rw [zup_ne (by decide), hI2.2.2.2, if_pos hk9, eu]
        exact dayU_congr rfl rfl rfl rfl rfl (fun h4 => hI.2 k hk9 h4)
    refine Wp.sub (a := [(0, .ref 38), (1, .int mo), (2, .int (nI 0))]) (zle_cons rfl (zle_cons rfl (zle_cons rfl (zle_nil)))) ?_
    exact c_day_l2_38 (mi := m) mo C hg0 (fun b hb => by rw [hI.1 b (by omega) (by omega)]; exact hX b hb) hvv (by rw [e0]; exact hn) h6 (by rw [e6]; exact hf) (by omega) K2 n 0 m (by omega) ⟨fun _ _ _ _ => rfl, fun k => by rw [if_neg (by omega)], fun k => by rw [if_neg (by omega)], fun k => by rw [if_neg (by omega)]⟩
  refine Wp.sub (a := [(0, .ref 38), (1, .int mo), (2, .int (nI 0))]) (zle_cons rfl (zle_cons rfl (zle_cons rfl (zle_nil)))) ?_
  exact c_day_l1_38 mo C hg0 hX hvv hdd hd hn h6 hz (by omega) K1 n 0 mi (by omega) ⟨fun _ _ _ => rfl, fun i hi => absurd hi (by omega)⟩
