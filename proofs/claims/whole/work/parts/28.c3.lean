/-! THE CLASS: a day of a band -/
theorem c_anew_1 {E : zEn} {vs : List (Nat × Nat)} {mi : Nat → Nat → Int32} {ml : Nat → Nat → Int64} {g : Nat → Nat → Option Nat} {g0 : Nat → Nat → Option Nat} {X : Nat → Nat → Int32} {vv : Nat → Prop} {wg : Nat → (Nat → Int32) → Int32} (C : CWs E vs g0 X vv wg) (hg0 : ∀ b, 86 ≤ b → g b = g0 b) (hX : ∀ b, 86 ≤ b → mi b = X b) (hvv : ∀ v, g 1 3 = some v → vv v ∧ 86 ≤ v) : Wp E 0 pg_Band_anew 0 (lv_args 0 [.ref 1]) [] (zsh ++ vs, mi, ml, (zmr g)) (fun r w' => r = some (.int (anB X (g 1 3))) ∧ w' = (zsh ++ vs, mi, ml, zmr g)) := by
  cases hg : g 1 3 with
  | none =>
    refine Wp.run 1 (1, [(0, .ref 1)], [.ref 1], (zsh ++ vs, mi, ml, (zmr g))) rfl ?_
    refine Wp.grefN rfl rfl rfl hg ?_
    refine Wp.run 3 (19, [(0, .ref 1)], [.int 50], (zsh ++ vs, mi, ml, (zmr g))) rfl ?_
    refine Wp.ret rfl rfl rfl ?_
    exact ⟨rfl, rfl⟩
  | some v =>
    obtain ⟨hv1, hv2⟩ := hvv v hg
    have hok : vOK vs g v := (C mi ml g v 10 (mi 10) hv1 hg0 (Or.inl rfl) hX (fun _ _ => rfl)).1
    refine Wp.run 1 (1, [(0, .ref 1)], [.ref 1], (zsh ++ vs, mi, ml, (zmr g))) rfl ?_
    refine Wp.gref rfl rfl rfl hg ?_
    refine Wp.ifnonnull rfl hok.1 ?_
    refine Wp.run 1 (13, [(0, .ref 1)], [.ref 1], (zsh ++ vs, mi, ml, (zmr g))) rfl ?_
    refine Wp.gref rfl rfl rfl hg ?_
    refine Wp.gint rfl (by decide) hok.ob rfl (by decide) ?_
    refine Wp.run 0 (19, [(0, .ref 1)], [.int (mi v 1)], (zsh ++ vs, mi, ml, (zmr g))) rfl ?_
    refine Wp.ret rfl rfl rfl ?_
    exact ⟨by rw [hX v hv2]; rfl, rfl⟩
theorem c_sum_1 {E : zEn} {vs : List (Nat × Nat)} {mi : Nat → Nat → Int32} {ml : Nat → Nat → Int64} {g : Nat → Nat → Option Nat} {g0 : Nat → Nat → Option Nat} {X : Nat → Nat → Int32} {vv : Nat → Prop} {wg : Nat → (Nat → Int32) → Int32} (C : CWs E vs g0 X vv wg) (hg0 : ∀ b, 86 ≤ b → g b = g0 b) (hX : ∀ b, 86 ≤ b → mi b = X b) (hvv : ∀ v, g 1 3 = some v → vv v ∧ 86 ≤ v) {dd : Nat} (hdd : dd < 100000) (hd : mi 1 1 = nI dd) {i : Nat} (hi : i < 6) (hz : zbc (mi 5 i) = zmany (mi 5 i)) : Wp E 2 pg_Band_sum 0 (lv_args 0 [.ref 1, .int (nI i)]) [] (zsh ++ vs, mi, ml, (zmr g)) (fun r w' => r = some (.int (smB wg (g 1 3) (nmU (uB mi 1) dd i))) ∧ ∃ m, w' = (zsh ++ vs, m, ml, zmr g) ∧ ∀ b, ¬ b = 10 → m b = mi b) := by
  cases hg : g 1 3 with
  | none =>
    refine Wp.run 3 (5, [(0, .ref 1), (1, .int (nI i))], [.int (nI i), .ref 5], (zsh ++ vs, mi, ml, (zmr g))) rfl ?_
    refine Wp.ialn rfl (by decide) rfl (by omega) (by decide) ?_
    refine Wp.run 0 (6, [(0, .ref 1), (1, .int (nI i))], [.int (mi 5 i)], (zsh ++ vs, mi, ml, (zmr g))) rfl ?_
    refine Wp.call (as := [.int (mi 5 i)]) (rest := []) rfl rfl rfl rfl rfl (Nat.le_of_ble_eq_true rfl) (Nat.le_of_ble_eq_true rfl) rfl (by decide) (c_bitCount (mi 5 i)) ?_
    rintro _ _ ⟨rfl, rfl⟩
    rw [hz]
    refine Wp.run 2 (11, [(2, .int (zmany (mi 5 i))), (0, .ref 1), (1, .int (nI i))], [.ref 1], (zsh ++ vs, mi, ml, (zmr g))) rfl ?_
    refine Wp.grefN rfl rfl rfl hg ?_
    refine Wp.run 4 (20, [(2, .int (zmany (mi 5 i))), (0, .ref 1), (1, .int (nI i))], [.int (2 * (zmany (mi 5 i)))], (zsh ++ vs, mi, ml, (zmr g))) rfl ?_
    refine Wp.ret rfl rfl rfl ?_
    exact ⟨rfl, mi, rfl, fun _ _ => rfl⟩
  | some v =>
    obtain ⟨hv1, hv2⟩ := hvv v hg
    have hok : vOK vs g v := (C mi ml g v 10 (mi 10) hv1 hg0 (Or.inl rfl) hX (fun _ _ => rfl)).1
    refine Wp.run 3 (5, [(0, .ref 1), (1, .int (nI i))], [.int (nI i), .ref 5], (zsh ++ vs, mi, ml, (zmr g))) rfl ?_
    refine Wp.ialn rfl (by decide) rfl (by omega) (by decide) ?_
    refine Wp.run 0 (6, [(0, .ref 1), (1, .int (nI i))], [.int (mi 5 i)], (zsh ++ vs, mi, ml, (zmr g))) rfl ?_
    refine Wp.call (as := [.int (mi 5 i)]) (rest := []) rfl rfl rfl rfl rfl (Nat.le_of_ble_eq_true rfl) (Nat.le_of_ble_eq_true rfl) rfl (by decide) (c_bitCount (mi 5 i)) ?_
    rintro _ _ ⟨rfl, rfl⟩
    rw [hz]
    refine Wp.run 2 (11, [(2, .int (zmany (mi 5 i))), (0, .ref 1), (1, .int (nI i))], [.ref 1], (zsh ++ vs, mi, ml, (zmr g))) rfl ?_
    refine Wp.gref rfl rfl rfl hg ?_
    refine Wp.ifnonnull rfl hok.1 ?_
    refine Wp.run 11 (38, [(2, .int (zmany (mi 5 i))), (0, .ref 1), (1, .int (nI i))], [.int (nI i), .ref 3, .int 1, .ref 10], (zsh ++ vs, (zup mi 10 0 (nI i)), ml, (zmr g))) rfl ?_
    refine Wp.ialn rfl (by decide) rfl (by omega) (by decide) ?_
    refine Wp.run 7 (50, [(2, .int (zmany (mi 5 i))), (0, .ref 1), (1, .int (nI i))], [.int (nI i), .ref 4, .int 2, .ref 10], (zsh ++ vs, (zup (zup mi 10 0 (nI i)) 10 1 ((zup mi 10 0 (nI i)) 3 i)), ml, (zmr g))) rfl ?_
    refine Wp.ialn rfl (by decide) rfl (by omega) (by decide) ?_
    refine Wp.run 12 (69, [(2, .int (zmany (mi 5 i))), (0, .ref 1), (1, .int (nI i))], [.int (nI i), .ref 6, .int 4, .ref 10], (zsh ++ vs, (zup (zup (zup (zup mi 10 0 (nI i)) 10 1 ((zup mi 10 0 (nI i)) 3 i)) 10 2 ((zup (zup mi 10 0 (nI i)) 10 1 ((zup mi 10 0 (nI i)) 3 i)) 4 i)) 10 3 (zmany (mi 5 i))), ml, (zmr g))) rfl ?_
    refine Wp.ialn rfl (by decide) rfl (by omega) (by decide) ?_
    refine Wp.run 8 (83, [(2, .int (zmany (mi 5 i))), (0, .ref 1), (1, .int (nI i))], [.int (mi 1 1), .int 5, .ref 10], (zsh ++ vs, (zup (zup (zup (zup (zup mi 10 0 (nI i)) 10 1 ((zup mi 10 0 (nI i)) 3 i)) 10 2 ((zup (zup mi 10 0 (nI i)) 10 1 ((zup mi 10 0 (nI i)) 3 i)) 4 i)) 10 3 (zmany (mi 5 i))) 10 4 (((zup (zup (zup (zup mi 10 0 (nI i)) 10 1 ((zup mi 10 0 (nI i)) 3 i)) 10 2 ((zup (zup mi 10 0 (nI i)) 10 1 ((zup mi 10 0 (nI i)) 3 i)) 4 i)) 10 3 (zmany (mi 5 i))) 6 i) / 10)), ml, (zmr g))) rfl ?_
    rw [hd]
    refine Wp.run 2 (86, [(2, .int (zmany (mi 5 i))), (0, .ref 1), (1, .int (nI i))], [.int ((nI dd) - (nI dd) / 10 * 10), .int 5, .ref 10], (zsh ++ vs, (zup (zup (zup (zup (zup mi 10 0 (nI i)) 10 1 ((zup mi 10 0 (nI i)) 3 i)) 10 2 ((zup (zup mi 10 0 (nI i)) 10 1 ((zup mi 10 0 (nI i)) 3 i)) 4 i)) 10 3 (zmany (mi 5 i))) 10 4 (((zup (zup (zup (zup mi 10 0 (nI i)) 10 1 ((zup mi 10 0 (nI i)) 3 i)) 10 2 ((zup (zup mi 10 0 (nI i)) 10 1 ((zup mi 10 0 (nI i)) 3 i)) 4 i)) 10 3 (zmany (mi 5 i))) 6 i) / 10)), ml, (zmr g))) rfl ?_
    rw [show nI dd - nI dd / 10 * 10 = nI (dd % 10) from pk_rem (by omega) (by decide) (by decide)]
    refine Wp.run 5 (91, [(2, .int (zmany (mi 5 i))), (0, .ref 1), (1, .int (nI i))], [.ref 1, .int (2 * (zmany (mi 5 i)))], (zsh ++ vs, (zup (zup (zup (zup (zup (zup mi 10 0 (nI i)) 10 1 ((zup mi 10 0 (nI i)) 3 i)) 10 2 ((zup (zup mi 10 0 (nI i)) 10 1 ((zup mi 10 0 (nI i)) 3 i)) 4 i)) 10 3 (zmany (mi 5 i))) 10 4 (((zup (zup (zup (zup mi 10 0 (nI i)) 10 1 ((zup mi 10 0 (nI i)) 3 i)) 10 2 ((zup (zup mi 10 0 (nI i)) 10 1 ((zup mi 10 0 (nI i)) 3 i)) 4 i)) 10 3 (zmany (mi 5 i))) 6 i) / 10)) 10 5 (nI (dd % 10))), ml, (zmr g))) rfl ?_
    refine Wp.gref rfl rfl rfl hg ?_
    refine Wp.run 2 (98, [(2, .int (zmany (mi 5 i))), (0, .ref 1), (1, .int (nI i))], [.ref 10, .ref v, .int (2 * (zmany (mi 5 i)))], (zsh ++ vs, (zup (zup (zup (zup (zup (zup mi 10 0 (nI i)) 10 1 ((zup mi 10 0 (nI i)) 3 i)) 10 2 ((zup (zup mi 10 0 (nI i)) 10 1 ((zup mi 10 0 (nI i)) 3 i)) 4 i)) 10 3 (zmany (mi 5 i))) 10 4 (((zup (zup (zup (zup mi 10 0 (nI i)) 10 1 ((zup mi 10 0 (nI i)) 3 i)) 10 2 ((zup (zup mi 10 0 (nI i)) 10 1 ((zup mi 10 0 (nI i)) 3 i)) 4 i)) 10 3 (zmany (mi 5 i))) 6 i) / 10)) 10 5 (nI (dd % 10))), ml, (zmr g))) rfl ?_
    refine Wp.call (as := [.ref v, .ref 10]) (rest := [.int (2 * (zmany (mi 5 i)))]) rfl rfl rfl rfl rfl (Nat.le_of_ble_eq_true rfl) (Nat.le_of_ble_eq_true rfl) hok.rc (by decide) ((C (zup (zup (zup (zup (zup (zup mi 10 0 (nI i)) 10 1 ((zup mi 10 0 (nI i)) 3 i)) 10 2 ((zup (zup mi 10 0 (nI i)) 10 1 ((zup mi 10 0 (nI i)) 3 i)) 4 i)) 10 3 (zmany (mi 5 i))) 10 4 (((zup (zup (zup (zup mi 10 0 (nI i)) 10 1 ((zup mi 10 0 (nI i)) 3 i)) 10 2 ((zup (zup mi 10 0 (nI i)) 10 1 ((zup mi 10 0 (nI i)) 3 i)) 4 i)) 10 3 (zmany (mi 5 i))) 6 i) / 10)) 10 5 (nI (dd % 10))) ml g v 10 (nmU (uB mi 1) dd i) hv1 hg0 (Or.inl rfl) (fun b hb => by rw [zup_ne (by omega), zup_ne (by omega), zup_ne (by omega), zup_ne (by omega), zup_ne (by omega), zup_ne (by omega)]; exact hX b hb) (fun f hf => by rcases (show f = 0 ∨ f = 1 ∨ f = 2 ∨ f = 3 ∨ f = 4 ∨ f = 5 by omega) with rfl | rfl | rfl | rfl | rfl | rfl <;> rfl)).2) ?_
    rintro _ _ ⟨rfl, rfl⟩
    refine Wp.run 1 (102, [(2, .int (zmany (mi 5 i))), (0, .ref 1), (1, .int (nI i))], [.int ((2 * (zmany (mi 5 i))) + (wg v (nmU (uB mi 1) dd i)))], (zsh ++ vs, (zup (zup (zup (zup (zup (zup mi 10 0 (nI i)) 10 1 ((zup mi 10 0 (nI i)) 3 i)) 10 2 ((zup (zup mi 10 0 (nI i)) 10 1 ((zup mi 10 0 (nI i)) 3 i)) 4 i)) 10 3 (zmany (mi 5 i))) 10 4 (((zup (zup (zup (zup mi 10 0 (nI i)) 10 1 ((zup mi 10 0 (nI i)) 3 i)) 10 2 ((zup (zup mi 10 0 (nI i)) 10 1 ((zup mi 10 0 (nI i)) 3 i)) 4 i)) 10 3 (zmany (mi 5 i))) 6 i) / 10)) 10 5 (nI (dd % 10))), ml, (zmr g))) rfl ?_
    refine Wp.ret rfl rfl rfl ?_
    refine ⟨rfl, _, rfl, fun b hb => ?_⟩
    rw [zup_ne hb, zup_ne hb, zup_ne hb, zup_ne hb, zup_ne hb, zup_ne hb]
theorem c_strain_1 {E : zEn} {vs : List (Nat × Nat)} {mi : Nat → Nat → Int32} {ml : Nat → Nat → Int64} {g : Nat → Nat → Option Nat} {g0 : Nat → Nat → Option Nat} {X : Nat → Nat → Int32} {vv : Nat → Prop} {wg : Nat → (Nat → Int32) → Int32} (C : CWs E vs g0 X vv wg) (hg0 : ∀ b, 86 ≤ b → g b = g0 b) (hX : ∀ b, 86 ≤ b → mi b = X b) (hvv : ∀ v, g 1 3 = some v → vv v ∧ 86 ≤ v) {dd : Nat} (hdd : dd < 100000) (hd : mi 1 1 = nI dd) {i : Nat} (hi : i < 6) (hz : zbc (mi 5 i) = zmany (mi 5 i)) {n : Nat} (hn : mi 1 0 = nI n) (h6 : n ≤ 6) : Wp E 3 pg_Band_strain 0 (lv_args 0 [.ref 1, .int (nI i)]) [] (zsh ++ vs, mi, ml, (zmr g)) (fun r w' => r = some (.int (strU (uB mi 1) n dd (smB wg (g 1 3) (nmU (uB mi 1) dd i)) i)) ∧ ∃ m, w' = (zsh ++ vs, m, ml, zmr g) ∧ ∀ b, ¬ b = 10 → m b = mi b) := by
  refine Wp.run 2 (2, [(0, .ref 1), (1, .int (nI i))], [.int (nI i), .ref 1], (zsh ++ vs, mi, ml, (zmr g))) rfl ?_
  refine Wp.call (as := [.ref 1, .int (nI i)]) (rest := []) rfl rfl rfl rfl rfl (Nat.le_of_ble_eq_true rfl) (Nat.le_of_ble_eq_true rfl) rfl (by decide) (c_sum_1 C hg0 hX hvv hdd hd hi hz) ?_
  rintro _ _ ⟨rfl, m, rfl, hm⟩
  have e0 : m 1 = mi 1 := hm 1 (by decide)
  have e2 : m 3 = mi 3 := hm 3 (by decide)
  have e3 : m 4 = mi 4 := hm 4 (by decide)
  have e4 : m 5 = mi 5 := hm 5 (by decide)
  have e7 : m 8 = mi 8 := hm 8 (by decide)
  refine Wp.run 4 (11, [(2, .int (smB wg (g 1 3) (nmU (uB mi 1) dd i))), (0, .ref 1), (1, .int (nI i))], [.int (nI i), .ref 3], (zsh ++ vs, m, ml, (zmr g))) rfl ?_
  refine Wp.ialn rfl (by decide) rfl (by omega) (by decide) ?_
  refine Wp.run 0 (12, [(2, .int (smB wg (g 1 3) (nmU (uB mi 1) dd i))), (0, .ref 1), (1, .int (nI i))], [.int (m 3 i)], (zsh ++ vs, m, ml, (zmr g))) rfl ?_
  by_cases s1 : m 3 i = 1
  · rw [s1]
    refine Wp.run 5 (58, [(2, .int (smB wg (g 1 3) (nmU (uB mi 1) dd i))), (0, .ref 1), (1, .int (nI i))], [.int (nI i), .ref 4, .int (smB wg (g 1 3) (nmU (uB mi 1) dd i))], (zsh ++ vs, m, ml, (zmr g))) rfl ?_
    refine Wp.ialn rfl (by decide) rfl (by omega) (by decide) ?_
    refine Wp.run 1 (60, [(2, .int (smB wg (g 1 3) (nmU (uB mi 1) dd i))), (0, .ref 1), (1, .int (nI i))], [.int ((smB wg (g 1 3) (nmU (uB mi 1) dd i)) + (m 4 i))], (zsh ++ vs, m, ml, (zmr g))) rfl ?_
    refine Wp.ret rfl rfl rfl ?_
    refine ⟨?_, m, rfl, hm⟩
    have s1' : uB mi 1 i 0 = 1 := (congrFun e2 i).symm.trans s1
    rw [strU, if_pos s1']
    rw [e3]
    rfl
  by_cases s2 : m 3 i = 2
  · rw [s2]
    refine Wp.run 4 (64, [(2, .int (smB wg (g 1 3) (nmU (uB mi 1) dd i))), (0, .ref 1), (1, .int (nI i))], [.int ((smB wg (g 1 3) (nmU (uB mi 1) dd i)) / 2)], (zsh ++ vs, m, ml, (zmr g))) rfl ?_
    refine Wp.ret rfl rfl rfl ?_
    refine ⟨?_, m, rfl, hm⟩
    have s1' : ¬ (uB mi 1 i 0 = 1) := fun q => s1 ((congrFun e2 i).trans q)
    have s2' : uB mi 1 i 0 = 2 := (congrFun e2 i).symm.trans s2
    rw [strU, if_neg s1', if_pos s2']
  by_cases s3 : m 3 i = 3
  · rw [s3]
    refine Wp.run 5 (69, [(2, .int (smB wg (g 1 3) (nmU (uB mi 1) dd i))), (0, .ref 1), (1, .int (nI i))], [.int (nI i), .ref 1, .int 3, .int (smB wg (g 1 3) (nmU (uB mi 1) dd i))], (zsh ++ vs, m, ml, (zmr g))) rfl ?_
    refine Wp.call (as := [.ref 1, .int (nI i)]) (rest := [.int 3, .int (smB wg (g 1 3) (nmU (uB mi 1) dd i))]) rfl rfl rfl rfl rfl (Nat.le_of_ble_eq_true rfl) (Nat.le_of_ble_eq_true rfl) rfl (by decide) (c_sharers_1 (mi := m) i hi (by rw [e0]; exact hn) h6) ?_
    rintro _ _ ⟨rfl, rfl⟩
    refine Wp.run 2 (74, [(2, .int (smB wg (g 1 3) (nmU (uB mi 1) dd i))), (0, .ref 1), (1, .int (nI i))], [.int ((smB wg (g 1 3) (nmU (uB mi 1) dd i)) - (3 * (zsum (shrF (awB m 1) (m 5) i) n)))], (zsh ++ vs, m, ml, (zmr g))) rfl ?_
    refine Wp.ret rfl rfl rfl ?_
    refine ⟨?_, m, rfl, hm⟩
    have s1' : ¬ (uB mi 1 i 0 = 1) := fun q => s1 ((congrFun e2 i).trans q)
    have s2' : ¬ (uB mi 1 i 0 = 2) := fun q => s2 ((congrFun e2 i).trans q)
    have s3' : uB mi 1 i 0 = 3 := (congrFun e2 i).symm.trans s3
    rw [strU, if_neg s1', if_neg s2', if_pos s3']
    rw [show awB m 1 = awB mi 1 from by funext k; simp only [awB, e0], e4]
    rfl
  by_cases s4 : m 3 i = 4
  · rw [s4]
    refine Wp.run 5 (81, [(2, .int (smB wg (g 1 3) (nmU (uB mi 1) dd i))), (0, .ref 1), (1, .int (nI i))], [.int (nI i), .ref 4, .int (smB wg (g 1 3) (nmU (uB mi 1) dd i))], (zsh ++ vs, m, ml, (zmr g))) rfl ?_
    refine Wp.ialn rfl (by decide) rfl (by omega) (by decide) ?_
    refine Wp.run 4 (88, [(2, .int (smB wg (g 1 3) (nmU (uB mi 1) dd i))), (0, .ref 1), (1, .int (nI i))], [.int (nI i), .ref 5, .int ((smB wg (g 1 3) (nmU (uB mi 1) dd i)) + (m 4 i))], (zsh ++ vs, m, ml, (zmr g))) rfl ?_
    refine Wp.ialn rfl (by decide) rfl (by omega) (by decide) ?_
    refine Wp.run 0 (89, [(2, .int (smB wg (g 1 3) (nmU (uB mi 1) dd i))), (0, .ref 1), (1, .int (nI i))], [.int (m 5 i), .int ((smB wg (g 1 3) (nmU (uB mi 1) dd i)) + (m 4 i))], (zsh ++ vs, m, ml, (zmr g))) rfl ?_
    refine Wp.call (as := [.int (m 5 i)]) (rest := [.int ((smB wg (g 1 3) (nmU (uB mi 1) dd i)) + (m 4 i))]) rfl rfl rfl rfl rfl (Nat.le_of_ble_eq_true rfl) (Nat.le_of_ble_eq_true rfl) rfl (by decide) (c_bitCount (m 5 i)) ?_
    rintro _ _ ⟨rfl, rfl⟩
    rw [show zbc (m 5 i) = zmany (mi 5 i) from by rw [e4]; exact hz]
    refine Wp.run 1 (93, [(2, .int (smB wg (g 1 3) (nmU (uB mi 1) dd i))), (0, .ref 1), (1, .int (nI i))], [.int 4, .int (zmany (mi 5 i)), .int ((smB wg (g 1 3) (nmU (uB mi 1) dd i)) + (m 4 i))], (zsh ++ vs, m, ml, (zmr g))) rfl ?_
    refine Wp.icmp_le rfl (fun h1 => ?_) (fun h1 => ?_)
    · refine Wp.run 2 (102, [(2, .int (smB wg (g 1 3) (nmU (uB mi 1) dd i))), (0, .ref 1), (1, .int (nI i))], [.int (((smB wg (g 1 3) (nmU (uB mi 1) dd i)) + (m 4 i)) * 1)], (zsh ++ vs, m, ml, (zmr g))) rfl ?_
      refine Wp.ret rfl rfl rfl ?_
      refine ⟨?_, m, rfl, hm⟩
      have s1' : ¬ (uB mi 1 i 0 = 1) := fun q => s1 ((congrFun e2 i).trans q)
      have s2' : ¬ (uB mi 1 i 0 = 2) := fun q => s2 ((congrFun e2 i).trans q)
      have s3' : ¬ (uB mi 1 i 0 = 3) := fun q => s3 ((congrFun e2 i).trans q)
      have s4' : uB mi 1 i 0 = 4 := (congrFun e2 i).symm.trans s4
      rw [strU, if_neg s1', if_neg s2', if_neg s3', if_pos s4']
      rw [show zmany (uB mi 1 i 2) = zmany (mi 5 i) from rfl, if_neg (Int32.not_lt.mpr h1), e3]
      exact congrArg (fun z => some (Value.int z)) (Int32.mul_one _)
    · refine Wp.run 3 (102, [(2, .int (smB wg (g 1 3) (nmU (uB mi 1) dd i))), (0, .ref 1), (1, .int (nI i))], [.int (((smB wg (g 1 3) (nmU (uB mi 1) dd i)) + (m 4 i)) * 2)], (zsh ++ vs, m, ml, (zmr g))) rfl ?_
      refine Wp.ret rfl rfl rfl ?_
      refine ⟨?_, m, rfl, hm⟩
      have s1' : ¬ (uB mi 1 i 0 = 1) := fun q => s1 ((congrFun e2 i).trans q)
      have s2' : ¬ (uB mi 1 i 0 = 2) := fun q => s2 ((congrFun e2 i).trans q)
      have s3' : ¬ (uB mi 1 i 0 = 3) := fun q => s3 ((congrFun e2 i).trans q)
      have s4' : uB mi 1 i 0 = 4 := (congrFun e2 i).symm.trans s4
      rw [strU, if_neg s1', if_neg s2', if_neg s3', if_pos s4']
      rw [show zmany (uB mi 1 i 2) = zmany (mi 5 i) from rfl, if_pos (Int32.not_le.mp h1), e3]
      exact congrArg (fun z => some (Value.int z)) (Int32.mul_comm _ _)
  by_cases s5 : m 3 i = 5
  · rw [s5]
    refine Wp.run 6 (110, [(2, .int (smB wg (g 1 3) (nmU (uB mi 1) dd i))), (0, .ref 1), (1, .int (nI i))], [.int (m 1 1), .int ((smB wg (g 1 3) (nmU (uB mi 1) dd i)) / 2)], (zsh ++ vs, m, ml, (zmr g))) rfl ?_
    rw [show m 1 1 = nI dd from by rw [e0]; exact hd]
    refine Wp.run 2 (112, [(2, .int (smB wg (g 1 3) (nmU (uB mi 1) dd i))), (0, .ref 1), (1, .int (nI i))], [.int ((nI dd) - (nI dd) / 2 * 2), .int ((smB wg (g 1 3) (nmU (uB mi 1) dd i)) / 2)], (zsh ++ vs, m, ml, (zmr g))) rfl ?_
    rw [show nI dd - nI dd / 2 * 2 = nI (dd % 2) from pk_rem (by omega) (by decide) (by decide)]
    refine Wp.run 1 (113, [(2, .int (smB wg (g 1 3) (nmU (uB mi 1) dd i))), (0, .ref 1), (1, .int (nI i))], [.int 1, .int (nI (dd % 2)), .int ((smB wg (g 1 3) (nmU (uB mi 1) dd i)) / 2)], (zsh ++ vs, m, ml, (zmr g))) rfl ?_
    refine Wp.icmp_ne rfl (fun h2 => ?_) (fun h2 => ?_)
    · refine Wp.run 2 (127, [(2, .int (smB wg (g 1 3) (nmU (uB mi 1) dd i))), (0, .ref 1), (1, .int (nI i))], [.int (((smB wg (g 1 3) (nmU (uB mi 1) dd i)) / 2) - 0)], (zsh ++ vs, m, ml, (zmr g))) rfl ?_
      refine Wp.ret rfl rfl rfl ?_
      refine ⟨?_, m, rfl, hm⟩
      have s1' : ¬ (uB mi 1 i 0 = 1) := fun q => s1 ((congrFun e2 i).trans q)
      have s2' : ¬ (uB mi 1 i 0 = 2) := fun q => s2 ((congrFun e2 i).trans q)
      have s3' : ¬ (uB mi 1 i 0 = 3) := fun q => s3 ((congrFun e2 i).trans q)
      have s4' : ¬ (uB mi 1 i 0 = 4) := fun q => s4 ((congrFun e2 i).trans q)
      have s5' : uB mi 1 i 0 = 5 := (congrFun e2 i).symm.trans s5
      rw [strU, if_neg s1', if_neg s2', if_neg s3', if_neg s4', if_pos s5']
      rw [if_neg (fun h => h2 (by rw [h]; rfl))]
    · refine Wp.run 3 (121, [(2, .int (smB wg (g 1 3) (nmU (uB mi 1) dd i))), (0, .ref 1), (1, .int (nI i))], [.int (nI i), .ref 4, .int ((smB wg (g 1 3) (nmU (uB mi 1) dd i)) / 2)], (zsh ++ vs, m, ml, (zmr g))) rfl ?_
      refine Wp.ialn rfl (by decide) rfl (by omega) (by decide) ?_
      refine Wp.run 2 (127, [(2, .int (smB wg (g 1 3) (nmU (uB mi 1) dd i))), (0, .ref 1), (1, .int (nI i))], [.int (((smB wg (g 1 3) (nmU (uB mi 1) dd i)) / 2) - (m 4 i))], (zsh ++ vs, m, ml, (zmr g))) rfl ?_
      refine Wp.ret rfl rfl rfl ?_
      refine ⟨?_, m, rfl, hm⟩
      have s1' : ¬ (uB mi 1 i 0 = 1) := fun q => s1 ((congrFun e2 i).trans q)
      have s2' : ¬ (uB mi 1 i 0 = 2) := fun q => s2 ((congrFun e2 i).trans q)
      have s3' : ¬ (uB mi 1 i 0 = 3) := fun q => s3 ((congrFun e2 i).trans q)
      have s4' : ¬ (uB mi 1 i 0 = 4) := fun q => s4 ((congrFun e2 i).trans q)
      have s5' : uB mi 1 i 0 = 5 := (congrFun e2 i).symm.trans s5
      rw [strU, if_neg s1', if_neg s2', if_neg s3', if_neg s4', if_pos s5']
      rw [if_pos ((nI_eq (by omega) (by decide)).mp h2), e3]
      rfl
  by_cases s6 : m 3 i = 6
  · rw [s6]
    refine Wp.run 5 (132, [(2, .int (smB wg (g 1 3) (nmU (uB mi 1) dd i))), (0, .ref 1), (1, .int (nI i))], [.int (nI i), .ref 1, .int 3, .int (smB wg (g 1 3) (nmU (uB mi 1) dd i))], (zsh ++ vs, m, ml, (zmr g))) rfl ?_
    refine Wp.call (as := [.ref 1, .int (nI i)]) (rest := [.int 3, .int (smB wg (g 1 3) (nmU (uB mi 1) dd i))]) rfl rfl rfl rfl rfl (Nat.le_of_ble_eq_true rfl) (Nat.le_of_ble_eq_true rfl) rfl (by decide) (c_sharers_1 (mi := m) i hi (by rw [e0]; exact hn) h6) ?_
    rintro _ _ ⟨rfl, rfl⟩
    refine Wp.run 9 (148, [(2, .int (smB wg (g 1 3) (nmU (uB mi 1) dd i))), (0, .ref 1), (1, .int (nI i))], [.int (m 1 1), .int ((nI i) * 4), .ref 8, .int ((smB wg (g 1 3) (nmU (uB mi 1) dd i)) - (3 * (zsum (shrF (awB m 1) (m 5) i) n)))], (zsh ++ vs, m, ml, (zmr g))) rfl ?_
    rw [show m 1 1 = nI dd from by rw [e0]; exact hd]
    refine Wp.run 2 (150, [(2, .int (smB wg (g 1 3) (nmU (uB mi 1) dd i))), (0, .ref 1), (1, .int (nI i))], [.int ((nI dd) - (nI dd) / 4 * 4), .int ((nI i) * 4), .ref 8, .int ((smB wg (g 1 3) (nmU (uB mi 1) dd i)) - (3 * (zsum (shrF (awB m 1) (m 5) i) n)))], (zsh ++ vs, m, ml, (zmr g))) rfl ?_
    rw [show nI dd - nI dd / 4 * 4 = nI (dd % 4) from pk_rem (by omega) (by decide) (by decide)]
    refine Wp.run 1 (151, [(2, .int (smB wg (g 1 3) (nmU (uB mi 1) dd i))), (0, .ref 1), (1, .int (nI i))], [.int (((nI i) * 4) + (nI (dd % 4))), .ref 8, .int ((smB wg (g 1 3) (nmU (uB mi 1) dd i)) - (3 * (zsum (shrF (awB m 1) (m 5) i) n)))], (zsh ++ vs, m, ml, (zmr g))) rfl ?_
    rw [show nI i * 4 + nI (dd % 4) = nI (4 * i + dd % 4) from by rw [show (4 : Int32) = nI 4 from rfl, pk_mul, nI_add, Nat.mul_comm i 4]]
    refine Wp.ialn rfl (by decide) rfl (by omega) (by decide) ?_
    refine Wp.run 1 (153, [(2, .int (smB wg (g 1 3) (nmU (uB mi 1) dd i))), (0, .ref 1), (1, .int (nI i))], [.int (((smB wg (g 1 3) (nmU (uB mi 1) dd i)) - (3 * (zsum (shrF (awB m 1) (m 5) i) n))) + (m 8 (4 * i + dd % 4)))], (zsh ++ vs, m, ml, (zmr g))) rfl ?_
    refine Wp.ret rfl rfl rfl ?_
    refine ⟨?_, m, rfl, hm⟩
    have s1' : ¬ (uB mi 1 i 0 = 1) := fun q => s1 ((congrFun e2 i).trans q)
    have s2' : ¬ (uB mi 1 i 0 = 2) := fun q => s2 ((congrFun e2 i).trans q)
    have s3' : ¬ (uB mi 1 i 0 = 3) := fun q => s3 ((congrFun e2 i).trans q)
    have s4' : ¬ (uB mi 1 i 0 = 4) := fun q => s4 ((congrFun e2 i).trans q)
    have s5' : ¬ (uB mi 1 i 0 = 5) := fun q => s5 ((congrFun e2 i).trans q)
    have s6' : uB mi 1 i 0 = 6 := (congrFun e2 i).symm.trans s6
    rw [strU, if_neg s1', if_neg s2', if_neg s3', if_neg s4', if_neg s5', if_pos s6']
    rw [show awB m 1 = awB mi 1 from by funext k; simp only [awB, e0], e4, e7, uB_row]
    rfl
  refine Wp.tsw rfl (zsw_out (zsw16 _ s1 s2 s3 s4 s5 s6)) rfl ?_
  refine Wp.run 1 (155, [(2, .int (smB wg (g 1 3) (nmU (uB mi 1) dd i))), (0, .ref 1), (1, .int (nI i))], [.int (smB wg (g 1 3) (nmU (uB mi 1) dd i))], (zsh ++ vs, m, ml, (zmr g))) rfl ?_
  refine Wp.ret rfl rfl rfl ?_
  refine ⟨?_, m, rfl, hm⟩
  have s1' : ¬ (uB mi 1 i 0 = 1) := fun q => s1 ((congrFun e2 i).trans q)
  have s2' : ¬ (uB mi 1 i 0 = 2) := fun q => s2 ((congrFun e2 i).trans q)
  have s3' : ¬ (uB mi 1 i 0 = 3) := fun q => s3 ((congrFun e2 i).trans q)
  have s4' : ¬ (uB mi 1 i 0 = 4) := fun q => s4 ((congrFun e2 i).trans q)
  have s5' : ¬ (uB mi 1 i 0 = 5) := fun q => s5 ((congrFun e2 i).trans q)
  have s6' : ¬ (uB mi 1 i 0 = 6) := fun q => s6 ((congrFun e2 i).trans q)
  rw [strU, if_neg s1', if_neg s2', if_neg s3', if_neg s4', if_neg s5', if_neg s6']
theorem c_anew_38 {E : zEn} {vs : List (Nat × Nat)} {mi : Nat → Nat → Int32} {ml : Nat → Nat → Int64} {g : Nat → Nat → Option Nat} {g0 : Nat → Nat → Option Nat} {X : Nat → Nat → Int32} {vv : Nat → Prop} {wg : Nat → (Nat → Int32) → Int32} (C : CWs E vs g0 X vv wg) (hg0 : ∀ b, 86 ≤ b → g b = g0 b) (hX : ∀ b, 86 ≤ b → mi b = X b) (hvv : ∀ v, g 38 3 = some v → vv v ∧ 86 ≤ v) : Wp E 0 pg_Band_anew 0 (lv_args 0 [.ref 38]) [] (zsh ++ vs, mi, ml, (zmr g)) (fun r w' => r = some (.int (anB X (g 38 3))) ∧ w' = (zsh ++ vs, mi, ml, zmr g)) := by
  cases hg : g 38 3 with
  | none =>
    refine Wp.run 1 (1, [(0, .ref 38)], [.ref 38], (zsh ++ vs, mi, ml, (zmr g))) rfl ?_
    refine Wp.grefN rfl rfl rfl hg ?_
    refine Wp.run 3 (19, [(0, .ref 38)], [.int 50], (zsh ++ vs, mi, ml, (zmr g))) rfl ?_
    refine Wp.ret rfl rfl rfl ?_
    exact ⟨rfl, rfl⟩
  | some v =>
    obtain ⟨hv1, hv2⟩ := hvv v hg
    have hok : vOK vs g v := (C mi ml g v 10 (mi 10) hv1 hg0 (Or.inl rfl) hX (fun _ _ => rfl)).1
    refine Wp.run 1 (1, [(0, .ref 38)], [.ref 38], (zsh ++ vs, mi, ml, (zmr g))) rfl ?_
    refine Wp.gref rfl rfl rfl hg ?_
    refine Wp.ifnonnull rfl hok.1 ?_
    refine Wp.run 1 (13, [(0, .ref 38)], [.ref 38], (zsh ++ vs, mi, ml, (zmr g))) rfl ?_
    refine Wp.gref rfl rfl rfl hg ?_
    refine Wp.gint rfl (by decide) hok.ob rfl (by decide) ?_
    refine Wp.run 0 (19, [(0, .ref 38)], [.int (mi v 1)], (zsh ++ vs, mi, ml, (zmr g))) rfl ?_
    refine Wp.ret rfl rfl rfl ?_
    exact ⟨by rw [hX v hv2]; rfl, rfl⟩
theorem c_sum_38 {E : zEn} {vs : List (Nat × Nat)} {mi : Nat → Nat → Int32} {ml : Nat → Nat → Int64} {g : Nat → Nat → Option Nat} {g0 : Nat → Nat → Option Nat} {X : Nat → Nat → Int32} {vv : Nat → Prop} {wg : Nat → (Nat → Int32) → Int32} (C : CWs E vs g0 X vv wg) (hg0 : ∀ b, 86 ≤ b → g b = g0 b) (hX : ∀ b, 86 ≤ b → mi b = X b) (hvv : ∀ v, g 38 3 = some v → vv v ∧ 86 ≤ v) {dd : Nat} (hdd : dd < 100000) (hd : mi 38 1 = nI dd) {i : Nat} (hi : i < 6) (hz : zbc (mi 42 i) = zmany (mi 42 i)) : Wp E 2 pg_Band_sum 0 (lv_args 0 [.ref 38, .int (nI i)]) [] (zsh ++ vs, mi, ml, (zmr g)) (fun r w' => r = some (.int (smB wg (g 38 3) (nmU (uB mi 38) dd i))) ∧ ∃ m, w' = (zsh ++ vs, m, ml, zmr g) ∧ ∀ b, ¬ b = 47 → m b = mi b) := by
  cases hg : g 38 3 with
  | none =>
    refine Wp.run 3 (5, [(0, .ref 38), (1, .int (nI i))], [.int (nI i), .ref 42], (zsh ++ vs, mi, ml, (zmr g))) rfl ?_
    refine Wp.ialn rfl (by decide) rfl (by omega) (by decide) ?_
    refine Wp.run 0 (6, [(0, .ref 38), (1, .int (nI i))], [.int (mi 42 i)], (zsh ++ vs, mi, ml, (zmr g))) rfl ?_
    refine Wp.call (as := [.int (mi 42 i)]) (rest := []) rfl rfl rfl rfl rfl (Nat.le_of_ble_eq_true rfl) (Nat.le_of_ble_eq_true rfl) rfl (by decide) (c_bitCount (mi 42 i)) ?_
    rintro _ _ ⟨rfl, rfl⟩
    rw [hz]
    refine Wp.run 2 (11, [(2, .int (zmany (mi 42 i))), (0, .ref 38), (1, .int (nI i))], [.ref 38], (zsh ++ vs, mi, ml, (zmr g))) rfl ?_
    refine Wp.grefN rfl rfl rfl hg ?_
    refine Wp.run 4 (20, [(2, .int (zmany (mi 42 i))), (0, .ref 38), (1, .int (nI i))], [.int (2 * (zmany (mi 42 i)))], (zsh ++ vs, mi, ml, (zmr g))) rfl ?_
    refine Wp.ret rfl rfl rfl ?_
    exact ⟨rfl, mi, rfl, fun _ _ => rfl⟩
  | some v =>
    obtain ⟨hv1, hv2⟩ := hvv v hg
    have hok : vOK vs g v := (C mi ml g v 10 (mi 10) hv1 hg0 (Or.inl rfl) hX (fun _ _ => rfl)).1
    refine Wp.run 3 (5, [(0, .ref 38), (1, .int (nI i))], [.int (nI i), .ref 42], (zsh ++ vs, mi, ml, (zmr g))) rfl ?_
    refine Wp.ialn rfl (by decide) rfl (by omega) (by decide) ?_
    refine Wp.run 0 (6, [(0, .ref 38), (1, .int (nI i))], [.int (mi 42 i)], (zsh ++ vs, mi, ml, (zmr g))) rfl ?_
    refine Wp.call (as := [.int (mi 42 i)]) (rest := []) rfl rfl rfl rfl rfl (Nat.le_of_ble_eq_true rfl) (Nat.le_of_ble_eq_true rfl) rfl (by decide) (c_bitCount (mi 42 i)) ?_
    rintro _ _ ⟨rfl, rfl⟩
    rw [hz]
    refine Wp.run 2 (11, [(2, .int (zmany (mi 42 i))), (0, .ref 38), (1, .int (nI i))], [.ref 38], (zsh ++ vs, mi, ml, (zmr g))) rfl ?_
    refine Wp.gref rfl rfl rfl hg ?_
    refine Wp.ifnonnull rfl hok.1 ?_
    refine Wp.run 11 (38, [(2, .int (zmany (mi 42 i))), (0, .ref 38), (1, .int (nI i))], [.int (nI i), .ref 40, .int 1, .ref 47], (zsh ++ vs, (zup mi 47 0 (nI i)), ml, (zmr g))) rfl ?_
    refine Wp.ialn rfl (by decide) rfl (by omega) (by decide) ?_
    refine Wp.run 7 (50, [(2, .int (zmany (mi 42 i))), (0, .ref 38), (1, .int (nI i))], [.int (nI i), .ref 41, .int 2, .ref 47], (zsh ++ vs, (zup (zup mi 47 0 (nI i)) 47 1 ((zup mi 47 0 (nI i)) 40 i)), ml, (zmr g))) rfl ?_
    refine Wp.ialn rfl (by decide) rfl (by omega) (by decide) ?_
    refine Wp.run 12 (69, [(2, .int (zmany (mi 42 i))), (0, .ref 38), (1, .int (nI i))], [.int (nI i), .ref 43, .int 4, .ref 47], (zsh ++ vs, (zup (zup (zup (zup mi 47 0 (nI i)) 47 1 ((zup mi 47 0 (nI i)) 40 i)) 47 2 ((zup (zup mi 47 0 (nI i)) 47 1 ((zup mi 47 0 (nI i)) 40 i)) 41 i)) 47 3 (zmany (mi 42 i))), ml, (zmr g))) rfl ?_
    refine Wp.ialn rfl (by decide) rfl (by omega) (by decide) ?_
    refine Wp.run 8 (83, [(2, .int (zmany (mi 42 i))), (0, .ref 38), (1, .int (nI i))], [.int (mi 38 1), .int 5, .ref 47], (zsh ++ vs, (zup (zup (zup (zup (zup mi 47 0 (nI i)) 47 1 ((zup mi 47 0 (nI i)) 40 i)) 47 2 ((zup (zup mi 47 0 (nI i)) 47 1 ((zup mi 47 0 (nI i)) 40 i)) 41 i)) 47 3 (zmany (mi 42 i))) 47 4 (((zup (zup (zup (zup mi 47 0 (nI i)) 47 1 ((zup mi 47 0 (nI i)) 40 i)) 47 2 ((zup (zup mi 47 0 (nI i)) 47 1 ((zup mi 47 0 (nI i)) 40 i)) 41 i)) 47 3 (zmany (mi 42 i))) 43 i) / 10)), ml, (zmr g))) rfl ?_
    rw [hd]
    refine Wp.run 2 (86, [(2, .int (zmany (mi 42 i))), (0, .ref 38), (1, .int (nI i))], [.int ((nI dd) - (nI dd) / 10 * 10), .int 5, .ref 47], (zsh ++ vs, (zup (zup (zup (zup (zup mi 47 0 (nI i)) 47 1 ((zup mi 47 0 (nI i)) 40 i)) 47 2 ((zup (zup mi 47 0 (nI i)) 47 1 ((zup mi 47 0 (nI i)) 40 i)) 41 i)) 47 3 (zmany (mi 42 i))) 47 4 (((zup (zup (zup (zup mi 47 0 (nI i)) 47 1 ((zup mi 47 0 (nI i)) 40 i)) 47 2 ((zup (zup mi 47 0 (nI i)) 47 1 ((zup mi 47 0 (nI i)) 40 i)) 41 i)) 47 3 (zmany (mi 42 i))) 43 i) / 10)), ml, (zmr g))) rfl ?_
    rw [show nI dd - nI dd / 10 * 10 = nI (dd % 10) from pk_rem (by omega) (by decide) (by decide)]
    refine Wp.run 5 (91, [(2, .int (zmany (mi 42 i))), (0, .ref 38), (1, .int (nI i))], [.ref 38, .int (2 * (zmany (mi 42 i)))], (zsh ++ vs, (zup (zup (zup (zup (zup (zup mi 47 0 (nI i)) 47 1 ((zup mi 47 0 (nI i)) 40 i)) 47 2 ((zup (zup mi 47 0 (nI i)) 47 1 ((zup mi 47 0 (nI i)) 40 i)) 41 i)) 47 3 (zmany (mi 42 i))) 47 4 (((zup (zup (zup (zup mi 47 0 (nI i)) 47 1 ((zup mi 47 0 (nI i)) 40 i)) 47 2 ((zup (zup mi 47 0 (nI i)) 47 1 ((zup mi 47 0 (nI i)) 40 i)) 41 i)) 47 3 (zmany (mi 42 i))) 43 i) / 10)) 47 5 (nI (dd % 10))), ml, (zmr g))) rfl ?_
    refine Wp.gref rfl rfl rfl hg ?_
    refine Wp.run 2 (98, [(2, .int (zmany (mi 42 i))), (0, .ref 38), (1, .int (nI i))], [.ref 47, .ref v, .int (2 * (zmany (mi 42 i)))], (zsh ++ vs, (zup (zup (zup (zup (zup (zup mi 47 0 (nI i)) 47 1 ((zup mi 47 0 (nI i)) 40 i)) 47 2 ((zup (zup mi 47 0 (nI i)) 47 1 ((zup mi 47 0 (nI i)) 40 i)) 41 i)) 47 3 (zmany (mi 42 i))) 47 4 (((zup (zup (zup (zup mi 47 0 (nI i)) 47 1 ((zup mi 47 0 (nI i)) 40 i)) 47 2 ((zup (zup mi 47 0 (nI i)) 47 1 ((zup mi 47 0 (nI i)) 40 i)) 41 i)) 47 3 (zmany (mi 42 i))) 43 i) / 10)) 47 5 (nI (dd % 10))), ml, (zmr g))) rfl ?_
    refine Wp.call (as := [.ref v, .ref 47]) (rest := [.int (2 * (zmany (mi 42 i)))]) rfl rfl rfl rfl rfl (Nat.le_of_ble_eq_true rfl) (Nat.le_of_ble_eq_true rfl) hok.rc (by decide) ((C (zup (zup (zup (zup (zup (zup mi 47 0 (nI i)) 47 1 ((zup mi 47 0 (nI i)) 40 i)) 47 2 ((zup (zup mi 47 0 (nI i)) 47 1 ((zup mi 47 0 (nI i)) 40 i)) 41 i)) 47 3 (zmany (mi 42 i))) 47 4 (((zup (zup (zup (zup mi 47 0 (nI i)) 47 1 ((zup mi 47 0 (nI i)) 40 i)) 47 2 ((zup (zup mi 47 0 (nI i)) 47 1 ((zup mi 47 0 (nI i)) 40 i)) 41 i)) 47 3 (zmany (mi 42 i))) 43 i) / 10)) 47 5 (nI (dd % 10))) ml g v 47 (nmU (uB mi 38) dd i) hv1 hg0 (Or.inr rfl) (fun b hb => by rw [zup_ne (by omega), zup_ne (by omega), zup_ne (by omega), zup_ne (by omega), zup_ne (by omega), zup_ne (by omega)]; exact hX b hb) (fun f hf => by rcases (show f = 0 ∨ f = 1 ∨ f = 2 ∨ f = 3 ∨ f = 4 ∨ f = 5 by omega) with rfl | rfl | rfl | rfl | rfl | rfl <;> rfl)).2) ?_
    rintro _ _ ⟨rfl, rfl⟩
    refine Wp.run 1 (102, [(2, .int (zmany (mi 42 i))), (0, .ref 38), (1, .int (nI i))], [.int ((2 * (zmany (mi 42 i))) + (wg v (nmU (uB mi 38) dd i)))], (zsh ++ vs, (zup (zup (zup (zup (zup (zup mi 47 0 (nI i)) 47 1 ((zup mi 47 0 (nI i)) 40 i)) 47 2 ((zup (zup mi 47 0 (nI i)) 47 1 ((zup mi 47 0 (nI i)) 40 i)) 41 i)) 47 3 (zmany (mi 42 i))) 47 4 (((zup (zup (zup (zup mi 47 0 (nI i)) 47 1 ((zup mi 47 0 (nI i)) 40 i)) 47 2 ((zup (zup mi 47 0 (nI i)) 47 1 ((zup mi 47 0 (nI i)) 40 i)) 41 i)) 47 3 (zmany (mi 42 i))) 43 i) / 10)) 47 5 (nI (dd % 10))), ml, (zmr g))) rfl ?_
    refine Wp.ret rfl rfl rfl ?_
    refine ⟨rfl, _, rfl, fun b hb => ?_⟩
    rw [zup_ne hb, zup_ne hb, zup_ne hb, zup_ne hb, zup_ne hb, zup_ne hb]
theorem c_strain_38 {E : zEn} {vs : List (Nat × Nat)} {mi : Nat → Nat → Int32} {ml : Nat → Nat → Int64} {g : Nat → Nat → Option Nat} {g0 : Nat → Nat → Option Nat} {X : Nat → Nat → Int32} {vv : Nat → Prop} {wg : Nat → (Nat → Int32) → Int32} (C : CWs E vs g0 X vv wg) (hg0 : ∀ b, 86 ≤ b → g b = g0 b) (hX : ∀ b, 86 ≤ b → mi b = X b) (hvv : ∀ v, g 38 3 = some v → vv v ∧ 86 ≤ v) {dd : Nat} (hdd : dd < 100000) (hd : mi 38 1 = nI dd) {i : Nat} (hi : i < 6) (hz : zbc (mi 42 i) = zmany (mi 42 i)) {n : Nat} (hn : mi 38 0 = nI n) (h6 : n ≤ 6) : Wp E 3 pg_Band_strain 0 (lv_args 0 [.ref 38, .int (nI i)]) [] (zsh ++ vs, mi, ml, (zmr g)) (fun r w' => r = some (.int (strU (uB mi 38) n dd (smB wg (g 38 3) (nmU (uB mi 38) dd i)) i)) ∧ ∃ m, w' = (zsh ++ vs, m, ml, zmr g) ∧ ∀ b, ¬ b = 47 → m b = mi b) := by
  refine Wp.run 2 (2, [(0, .ref 38), (1, .int (nI i))], [.int (nI i), .ref 38], (zsh ++ vs, mi, ml, (zmr g))) rfl ?_
  refine Wp.call (as := [.ref 38, .int (nI i)]) (rest := []) rfl rfl rfl rfl rfl (Nat.le_of_ble_eq_true rfl) (Nat.le_of_ble_eq_true rfl) rfl (by decide) (c_sum_38 C hg0 hX hvv hdd hd hi hz) ?_
  rintro _ _ ⟨rfl, m, rfl, hm⟩
  have e0 : m 38 = mi 38 := hm 38 (by decide)
  have e2 : m 40 = mi 40 := hm 40 (by decide)
  have e3 : m 41 = mi 41 := hm 41 (by decide)
  have e4 : m 42 = mi 42 := hm 42 (by decide)
  have e7 : m 45 = mi 45 := hm 45 (by decide)
  refine Wp.run 4 (11, [(2, .int (smB wg (g 38 3) (nmU (uB mi 38) dd i))), (0, .ref 38), (1, .int (nI i))], [.int (nI i), .ref 40], (zsh ++ vs, m, ml, (zmr g))) rfl ?_
  refine Wp.ialn rfl (by decide) rfl (by omega) (by decide) ?_
  refine Wp.run 0 (12, [(2, .int (smB wg (g 38 3) (nmU (uB mi 38) dd i))), (0, .ref 38), (1, .int (nI i))], [.int (m 40 i)], (zsh ++ vs, m, ml, (zmr g))) rfl ?_
  by_cases s1 : m 40 i = 1
  · rw [s1]
    refine Wp.run 5 (58, [(2, .int (smB wg (g 38 3) (nmU (uB mi 38) dd i))), (0, .ref 38), (1, .int (nI i))], [.int (nI i), .ref 41, .int (smB wg (g 38 3) (nmU (uB mi 38) dd i))], (zsh ++ vs, m, ml, (zmr g))) rfl ?_
    refine Wp.ialn rfl (by decide) rfl (by omega) (by decide) ?_
    refine Wp.run 1 (60, [(2, .int (smB wg (g 38 3) (nmU (uB mi 38) dd i))), (0, .ref 38), (1, .int (nI i))], [.int ((smB wg (g 38 3) (nmU (uB mi 38) dd i)) + (m 41 i))], (zsh ++ vs, m, ml, (zmr g))) rfl ?_
    refine Wp.ret rfl rfl rfl ?_
    refine ⟨?_, m, rfl, hm⟩
    have s1' : uB mi 38 i 0 = 1 := (congrFun e2 i).symm.trans s1
    rw [strU, if_pos s1']
    rw [e3]
    rfl
  by_cases s2 : m 40 i = 2
  · rw [s2]
    refine Wp.run 4 (64, [(2, .int (smB wg (g 38 3) (nmU (uB mi 38) dd i))), (0, .ref 38), (1, .int (nI i))], [.int ((smB wg (g 38 3) (nmU (uB mi 38) dd i)) / 2)], (zsh ++ vs, m, ml, (zmr g))) rfl ?_
    refine Wp.ret rfl rfl rfl ?_
    refine ⟨?_, m, rfl, hm⟩
    have s1' : ¬ (uB mi 38 i 0 = 1) := fun q => s1 ((congrFun e2 i).trans q)
    have s2' : uB mi 38 i 0 = 2 := (congrFun e2 i).symm.trans s2
    rw [strU, if_neg s1', if_pos s2']
  by_cases s3 : m 40 i = 3
  · rw [s3]
    refine Wp.run 5 (69, [(2, .int (smB wg (g 38 3) (nmU (uB mi 38) dd i))), (0, .ref 38), (1, .int (nI i))], [.int (nI i), .ref 38, .int 3, .int (smB wg (g 38 3) (nmU (uB mi 38) dd i))], (zsh ++ vs, m, ml, (zmr g))) rfl ?_
    refine Wp.call (as := [.ref 38, .int (nI i)]) (rest := [.int 3, .int (smB wg (g 38 3) (nmU (uB mi 38) dd i))]) rfl rfl rfl rfl rfl (Nat.le_of_ble_eq_true rfl) (Nat.le_of_ble_eq_true rfl) rfl (by decide) (c_sharers_38 (mi := m) i hi (by rw [e0]; exact hn) h6) ?_
    rintro _ _ ⟨rfl, rfl⟩
    refine Wp.run 2 (74, [(2, .int (smB wg (g 38 3) (nmU (uB mi 38) dd i))), (0, .ref 38), (1, .int (nI i))], [.int ((smB wg (g 38 3) (nmU (uB mi 38) dd i)) - (3 * (zsum (shrF (awB m 38) (m 42) i) n)))], (zsh ++ vs, m, ml, (zmr g))) rfl ?_
    refine Wp.ret rfl rfl rfl ?_
    refine ⟨?_, m, rfl, hm⟩
    have s1' : ¬ (uB mi 38 i 0 = 1) := fun q => s1 ((congrFun e2 i).trans q)
    have s2' : ¬ (uB mi 38 i 0 = 2) := fun q => s2 ((congrFun e2 i).trans q)
    have s3' : uB mi 38 i 0 = 3 := (congrFun e2 i).symm.trans s3
    rw [strU, if_neg s1', if_neg s2', if_pos s3']
    rw [show awB m 38 = awB mi 38 from by funext k; simp only [awB, e0], e4]
    rfl
  by_cases s4 : m 40 i = 4
  · rw [s4]
    refine Wp.run 5 (81, [(2, .int (smB wg (g 38 3) (nmU (uB mi 38) dd i))), (0, .ref 38), (1, .int (nI i))], [.int (nI i), .ref 41, .int (smB wg (g 38 3) (nmU (uB mi 38) dd i))], (zsh ++ vs, m, ml, (zmr g))) rfl ?_
    refine Wp.ialn rfl (by decide) rfl (by omega) (by decide) ?_
    refine Wp.run 4 (88, [(2, .int (smB wg (g 38 3) (nmU (uB mi 38) dd i))), (0, .ref 38), (1, .int (nI i))], [.int (nI i), .ref 42, .int ((smB wg (g 38 3) (nmU (uB mi 38) dd i)) + (m 41 i))], (zsh ++ vs, m, ml, (zmr g))) rfl ?_
    refine Wp.ialn rfl (by decide) rfl (by omega) (by decide) ?_
    refine Wp.run 0 (89, [(2, .int (smB wg (g 38 3) (nmU (uB mi 38) dd i))), (0, .ref 38), (1, .int (nI i))], [.int (m 42 i), .int ((smB wg (g 38 3) (nmU (uB mi 38) dd i)) + (m 41 i))], (zsh ++ vs, m, ml, (zmr g))) rfl ?_
    refine Wp.call (as := [.int (m 42 i)]) (rest := [.int ((smB wg (g 38 3) (nmU (uB mi 38) dd i)) + (m 41 i))]) rfl rfl rfl rfl rfl (Nat.le_of_ble_eq_true rfl) (Nat.le_of_ble_eq_true rfl) rfl (by decide) (c_bitCount (m 42 i)) ?_
    rintro _ _ ⟨rfl, rfl⟩
    rw [show zbc (m 42 i) = zmany (mi 42 i) from by rw [e4]; exact hz]
    refine Wp.run 1 (93, [(2, .int (smB wg (g 38 3) (nmU (uB mi 38) dd i))), (0, .ref 38), (1, .int (nI i))], [.int 4, .int (zmany (mi 42 i)), .int ((smB wg (g 38 3) (nmU (uB mi 38) dd i)) + (m 41 i))], (zsh ++ vs, m, ml, (zmr g))) rfl ?_
    refine Wp.icmp_le rfl (fun h1 => ?_) (fun h1 => ?_)
    · refine Wp.run 2 (102, [(2, .int (smB wg (g 38 3) (nmU (uB mi 38) dd i))), (0, .ref 38), (1, .int (nI i))], [.int (((smB wg (g 38 3) (nmU (uB mi 38) dd i)) + (m 41 i)) * 1)], (zsh ++ vs, m, ml, (zmr g))) rfl ?_
      refine Wp.ret rfl rfl rfl ?_
      refine ⟨?_, m, rfl, hm⟩
      have s1' : ¬ (uB mi 38 i 0 = 1) := fun q => s1 ((congrFun e2 i).trans q)
      have s2' : ¬ (uB mi 38 i 0 = 2) := fun q => s2 ((congrFun e2 i).trans q)
      have s3' : ¬ (uB mi 38 i 0 = 3) := fun q => s3 ((congrFun e2 i).trans q)
      have s4' : uB mi 38 i 0 = 4 := (congrFun e2 i).symm.trans s4
      rw [strU, if_neg s1', if_neg s2', if_neg s3', if_pos s4']
      rw [show zmany (uB mi 38 i 2) = zmany (mi 42 i) from rfl, if_neg (Int32.not_lt.mpr h1), e3]
      exact congrArg (fun z => some (Value.int z)) (Int32.mul_one _)
    · refine Wp.run 3 (102, [(2, .int (smB wg (g 38 3) (nmU (uB mi 38) dd i))), (0, .ref 38), (1, .int (nI i))], [.int (((smB wg (g 38 3) (nmU (uB mi 38) dd i)) + (m 41 i)) * 2)], (zsh ++ vs, m, ml, (zmr g))) rfl ?_
      refine Wp.ret rfl rfl rfl ?_
      refine ⟨?_, m, rfl, hm⟩
      have s1' : ¬ (uB mi 38 i 0 = 1) := fun q => s1 ((congrFun e2 i).trans q)
      have s2' : ¬ (uB mi 38 i 0 = 2) := fun q => s2 ((congrFun e2 i).trans q)
      have s3' : ¬ (uB mi 38 i 0 = 3) := fun q => s3 ((congrFun e2 i).trans q)
      have s4' : uB mi 38 i 0 = 4 := (congrFun e2 i).symm.trans s4
      rw [strU, if_neg s1', if_neg s2', if_neg s3', if_pos s4']
      rw [show zmany (uB mi 38 i 2) = zmany (mi 42 i) from rfl, if_pos (Int32.not_le.mp h1), e3]
      exact congrArg (fun z => some (Value.int z)) (Int32.mul_comm _ _)
  by_cases s5 : m 40 i = 5
  · rw [s5]
    refine Wp.run 6 (110, [(2, .int (smB wg (g 38 3) (nmU (uB mi 38) dd i))), (0, .ref 38), (1, .int (nI i))], [.int (m 38 1), .int ((smB wg (g 38 3) (nmU (uB mi 38) dd i)) / 2)], (zsh ++ vs, m, ml, (zmr g))) rfl ?_
    rw [show m 38 1 = nI dd from by rw [e0]; exact hd]
    refine Wp.run 2 (112, [(2, .int (smB wg (g 38 3) (nmU (uB mi 38) dd i))), (0, .ref 38), (1, .int (nI i))], [.int ((nI dd) - (nI dd) / 2 * 2), .int ((smB wg (g 38 3) (nmU (uB mi 38) dd i)) / 2)], (zsh ++ vs, m, ml, (zmr g))) rfl ?_
    rw [show nI dd - nI dd / 2 * 2 = nI (dd % 2) from pk_rem (by omega) (by decide) (by decide)]
    refine Wp.run 1 (113, [(2, .int (smB wg (g 38 3) (nmU (uB mi 38) dd i))), (0, .ref 38), (1, .int (nI i))], [.int 1, .int (nI (dd % 2)), .int ((smB wg (g 38 3) (nmU (uB mi 38) dd i)) / 2)], (zsh ++ vs, m, ml, (zmr g))) rfl ?_
    refine Wp.icmp_ne rfl (fun h2 => ?_) (fun h2 => ?_)
    · refine Wp.run 2 (127, [(2, .int (smB wg (g 38 3) (nmU (uB mi 38) dd i))), (0, .ref 38), (1, .int (nI i))], [.int (((smB wg (g 38 3) (nmU (uB mi 38) dd i)) / 2) - 0)], (zsh ++ vs, m, ml, (zmr g))) rfl ?_
      refine Wp.ret rfl rfl rfl ?_
      refine ⟨?_, m, rfl, hm⟩
      have s1' : ¬ (uB mi 38 i 0 = 1) := fun q => s1 ((congrFun e2 i).trans q)
      have s2' : ¬ (uB mi 38 i 0 = 2) := fun q => s2 ((congrFun e2 i).trans q)
      have s3' : ¬ (uB mi 38 i 0 = 3) := fun q => s3 ((congrFun e2 i).trans q)
      have s4' : ¬ (uB mi 38 i 0 = 4) := fun q => s4 ((congrFun e2 i).trans q)
      have s5' : uB mi 38 i 0 = 5 := (congrFun e2 i).symm.trans s5
      rw [strU, if_neg s1', if_neg s2', if_neg s3', if_neg s4', if_pos s5']
      rw [if_neg (fun h => h2 (by rw [h]; rfl))]
    · refine Wp.run 3 (121, [(2, .int (smB wg (g 38 3) (nmU (uB mi 38) dd i))), (0, .ref 38), (1, .int (nI i))], [.int (nI i), .ref 41, .int ((smB wg (g 38 3) (nmU (uB mi 38) dd i)) / 2)], (zsh ++ vs, m, ml, (zmr g))) rfl ?_
      refine Wp.ialn rfl (by decide) rfl (by omega) (by decide) ?_
      refine Wp.run 2 (127, [(2, .int (smB wg (g 38 3) (nmU (uB mi 38) dd i))), (0, .ref 38), (1, .int (nI i))], [.int (((smB wg (g 38 3) (nmU (uB mi 38) dd i)) / 2) - (m 41 i))], (zsh ++ vs, m, ml, (zmr g))) rfl ?_
      refine Wp.ret rfl rfl rfl ?_
      refine ⟨?_, m, rfl, hm⟩
      have s1' : ¬ (uB mi 38 i 0 = 1) := fun q => s1 ((congrFun e2 i).trans q)
      have s2' : ¬ (uB mi 38 i 0 = 2) := fun q => s2 ((congrFun e2 i).trans q)
      have s3' : ¬ (uB mi 38 i 0 = 3) := fun q => s3 ((congrFun e2 i).trans q)
      have s4' : ¬ (uB mi 38 i 0 = 4) := fun q => s4 ((congrFun e2 i).trans q)
      have s5' : uB mi 38 i 0 = 5 := (congrFun e2 i).symm.trans s5
      rw [strU, if_neg s1', if_neg s2', if_neg s3', if_neg s4', if_pos s5']
      rw [if_pos ((nI_eq (by omega) (by decide)).mp h2), e3]
      rfl
  by_cases s6 : m 40 i = 6
  · rw [s6]
    refine Wp.run 5 (132, [(2, .int (smB wg (g 38 3) (nmU (uB mi 38) dd i))), (0, .ref 38), (1, .int (nI i))], [.int (nI i), .ref 38, .int 3, .int (smB wg (g 38 3) (nmU (uB mi 38) dd i))], (zsh ++ vs, m, ml, (zmr g))) rfl ?_
    refine Wp.call (as := [.ref 38, .int (nI i)]) (rest := [.int 3, .int (smB wg (g 38 3) (nmU (uB mi 38) dd i))]) rfl rfl rfl rfl rfl (Nat.le_of_ble_eq_true rfl) (Nat.le_of_ble_eq_true rfl) rfl (by decide) (c_sharers_38 (mi := m) i hi (by rw [e0]; exact hn) h6) ?_
    rintro _ _ ⟨rfl, rfl⟩
    refine Wp.run 9 (148, [(2, .int (smB wg (g 38 3) (nmU (uB mi 38) dd i))), (0, .ref 38), (1, .int (nI i))], [.int (m 38 1), .int ((nI i) * 4), .ref 45, .int ((smB wg (g 38 3) (nmU (uB mi 38) dd i)) - (3 * (zsum (shrF (awB m 38) (m 42) i) n)))], (zsh ++ vs, m, ml, (zmr g))) rfl ?_
    rw [show m 38 1 = nI dd from by rw [e0]; exact hd]
    refine Wp.run 2 (150, [(2, .int (smB wg (g 38 3) (nmU (uB mi 38) dd i))), (0, .ref 38), (1, .int (nI i))], [.int ((nI dd) - (nI dd) / 4 * 4), .int ((nI i) * 4), .ref 45, .int ((smB wg (g 38 3) (nmU (uB mi 38) dd i)) - (3 * (zsum (shrF (awB m 38) (m 42) i) n)))], (zsh ++ vs, m, ml, (zmr g))) rfl ?_
    rw [show nI dd - nI dd / 4 * 4 = nI (dd % 4) from pk_rem (by omega) (by decide) (by decide)]
    refine Wp.run 1 (151, [(2, .int (smB wg (g 38 3) (nmU (uB mi 38) dd i))), (0, .ref 38), (1, .int (nI i))], [.int (((nI i) * 4) + (nI (dd % 4))), .ref 45, .int ((smB wg (g 38 3) (nmU (uB mi 38) dd i)) - (3 * (zsum (shrF (awB m 38) (m 42) i) n)))], (zsh ++ vs, m, ml, (zmr g))) rfl ?_
    rw [show nI i * 4 + nI (dd % 4) = nI (4 * i + dd % 4) from by rw [show (4 : Int32) = nI 4 from rfl, pk_mul, nI_add, Nat.mul_comm i 4]]
    refine Wp.ialn rfl (by decide) rfl (by omega) (by decide) ?_
    refine Wp.run 1 (153, [(2, .int (smB wg (g 38 3) (nmU (uB mi 38) dd i))), (0, .ref 38), (1, .int (nI i))], [.int (((smB wg (g 38 3) (nmU (uB mi 38) dd i)) - (3 * (zsum (shrF (awB m 38) (m 42) i) n))) + (m 45 (4 * i + dd % 4)))], (zsh ++ vs, m, ml, (zmr g))) rfl ?_
    refine Wp.ret rfl rfl rfl ?_
    refine ⟨?_, m, rfl, hm⟩
    have s1' : ¬ (uB mi 38 i 0 = 1) := fun q => s1 ((congrFun e2 i).trans q)
    have s2' : ¬ (uB mi 38 i 0 = 2) := fun q => s2 ((congrFun e2 i).trans q)
    have s3' : ¬ (uB mi 38 i 0 = 3) := fun q => s3 ((congrFun e2 i).trans q)
    have s4' : ¬ (uB mi 38 i 0 = 4) := fun q => s4 ((congrFun e2 i).trans q)
    have s5' : ¬ (uB mi 38 i 0 = 5) := fun q => s5 ((congrFun e2 i).trans q)
    have s6' : uB mi 38 i 0 = 6 := (congrFun e2 i).symm.trans s6
    rw [strU, if_neg s1', if_neg s2', if_neg s3', if_neg s4', if_neg s5', if_pos s6']
    rw [show awB m 38 = awB mi 38 from by funext k; simp only [awB, e0], e4, e7, uB_row]
    rfl
  refine Wp.tsw rfl (zsw_out (zsw16 _ s1 s2 s3 s4 s5 s6)) rfl ?_
  refine Wp.run 1 (155, [(2, .int (smB wg (g 38 3) (nmU (uB mi 38) dd i))), (0, .ref 38), (1, .int (nI i))], [.int (smB wg (g 38 3) (nmU (uB mi 38) dd i))], (zsh ++ vs, m, ml, (zmr g))) rfl ?_
  refine Wp.ret rfl rfl rfl ?_
  refine ⟨?_, m, rfl, hm⟩
  have s1' : ¬ (uB mi 38 i 0 = 1) := fun q => s1 ((congrFun e2 i).trans q)
  have s2' : ¬ (uB mi 38 i 0 = 2) := fun q => s2 ((congrFun e2 i).trans q)
  have s3' : ¬ (uB mi 38 i 0 = 3) := fun q => s3 ((congrFun e2 i).trans q)
  have s4' : ¬ (uB mi 38 i 0 = 4) := fun q => s4 ((congrFun e2 i).trans q)
  have s5' : ¬ (uB mi 38 i 0 = 5) := fun q => s5 ((congrFun e2 i).trans q)
  have s6' : ¬ (uB mi 38 i 0 = 6) := fun q => s6 ((congrFun e2 i).trans q)
  rw [strU, if_neg s1', if_neg s2', if_neg s3', if_neg s4', if_neg s5', if_neg s6']
