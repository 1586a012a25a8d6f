/-! THE CALLS: ends -/
def plS (sm : Int32 → (Nat → Int32) → Int32) (an : Int32 → Int32) (n : Nat) (st : (Nat → Int32) × Nat) (w q : Nat) : (Nat → Int32) × Nat :=
  if w = 0 then (dayN sm an st.1 n st.2, st.2 + 1) else if w = 1 then (upd st.1 (8 + 10 * q + 4) 1, st.2) else if w = 2 then (upd st.1 (8 + 10 * q + 4) 0, st.2) else (upd st.1 (8 + 10 * q + 3) 99, st.2)
/-- the row and the day behind so many rows of the plan that P has -/
def plR (sm : Int32 → (Nat → Int32) → Int32) (an : Int32 → Int32) (n : Nat) (P : Nat → Int32) (dd : Nat) : Nat → (Nat → Int32) × Nat
  | 0 => (P, dd)
  | r + 1 => plS sm an n (plR sm an n P dd r) (P (88 + 2 * r)).toNatClampNeg (P (89 + 2 * r)).toNatClampNeg
section PL
variable {sm : Int32 → (Nat → Int32) → Int32} {an : Int32 → Int32} {n : Nat} {P : Nat → Int32} {dd r q : Nat}
theorem plR_0 (e : P (88 + 2 * r) = nI 0) : plR sm an n P dd (r + 1) = (dayN sm an (plR sm an n P dd r).1 n (plR sm an n P dd r).2, (plR sm an n P dd r).2 + 1) := by
  rw [plR, e, nI_clamp (by decide), plS, if_pos rfl]
theorem plR_1 (e : P (88 + 2 * r) = nI 1) (h : P (89 + 2 * r) = nI q) (hq : q < 6) : plR sm an n P dd (r + 1) = (upd (plR sm an n P dd r).1 (8 + 10 * q + 4) 1, (plR sm an n P dd r).2) := by
  rw [plR, e, h, nI_clamp (by decide), nI_clamp (by omega), plS, if_neg (by decide), if_pos rfl]
theorem plR_2 (e : P (88 + 2 * r) = nI 2) (h : P (89 + 2 * r) = nI q) (hq : q < 6) : plR sm an n P dd (r + 1) = (upd (plR sm an n P dd r).1 (8 + 10 * q + 4) 0, (plR sm an n P dd r).2) := by
  rw [plR, e, h, nI_clamp (by decide), nI_clamp (by omega), plS, if_neg (by decide), if_neg (by decide), if_pos rfl]
theorem plR_3 (e : P (88 + 2 * r) = nI 3) (h : P (89 + 2 * r) = nI q) (hq : q < 6) : plR sm an n P dd (r + 1) = (upd (plR sm an n P dd r).1 (8 + 10 * q + 3) 99, (plR sm an n P dd r).2) := by
  rw [plR, e, h, nI_clamp (by decide), nI_clamp (by omega), plS, if_neg (by decide), if_neg (by decide), if_neg (by decide)]
end PL
theorem c_pl_l {E : zEn} {vs : List (Nat × Nat)} {mi : Nat → Nat → Int32} {ml : Nat → Nat → Int64} {g : Nat → Nat → Option Nat} {g0 : Nat → Nat → Option Nat} {X : Nat → Nat → Int32} {nv : Nat} {wg : Nat → (Nat → Int32) → Int32} {sm : Int32 → (Nat → Int32) → Int32} {an : Int32 → Int32} (C : CE E vs g0 X nv wg sm an g mi) {n dd : Nat} (h6 : n ≤ 6) (hdd : dd ≤ 9999) {P : Nat → Int32} {c : Nat} (h10 : c ≤ 10) (hr : ∀ r, r < c → ∃ w, w ≤ 3 ∧ P (88 + 2 * r) = nI w ∧ mi 25 r = nI w ∧ (w = 0 ∨ ∃ q, q < n ∧ P (89 + 2 * r) = nI q ∧ mi 26 r = nI q)) (hc : mi 21 1 = nI c) : ∀ (k j : Nat) (m : Nat → Nat → Int32), j + k = c → (frB 38 mi m ∧ BR m 38 (g 38 3) nv (plR sm an n P dd j).1 n (plR sm an n P dd j).2 ∧ (plR sm an n P dd j).2 ≤ dd + j) → Wp E 5 pg_Foresight_behindPlan 10 [(0, .ref 37), (1, .ref 1), (2, .ref 21), (3, .int (nI j))] [] (zsh ++ vs, m, ml, zmr g) (fun r w' => r = some (.ref 38) ∧ ∃ m, w' = (zsh ++ vs, m, ml, zmr g) ∧ frB 38 mi m ∧ BR m 38 (g 38 3) nv (plR sm an n P dd c).1 n (plR sm an n P dd c).2) := by
  intro k
  induction k with
  | zero =>
    intro j m hj hI
    obtain rfl : c = j := by omega
    refine Wp.run 3 (15, [(0, .ref 37), (1, .ref 1), (2, .ref 21), (3, .int (nI c))], [.int (m 21 1), .int (nI c)], (zsh ++ vs, m, ml, (zmr g))) rfl ?_
    refine Wp.topi (y := nI c) ((congrFun (hI.1 21 (by omega)) 1).trans hc) ?_
    refine Wp.run 0 (15, [(0, .ref 37), (1, .ref 1), (2, .ref 21), (3, .int (nI c))], [.int (nI c), .int (nI c)], (zsh ++ vs, m, ml, (zmr g))) rfl ?_
    refine Wp.icmp_ge rfl (fun h1 => ?_) (fun h1 => ?_)
    · refine Wp.run 2 (120, [(0, .ref 37), (1, .ref 1), (2, .ref 21), (3, .int (nI c))], [.ref 38], (zsh ++ vs, m, ml, (zmr g))) rfl ?_
      refine Wp.ret rfl rfl rfl ?_
      exact ⟨rfl, m, rfl, hI.1, hI.2.1⟩
    · exact absurd (Int32.le_refl _) h1
  | succ k ih =>
    intro j m hj hI
    have hjc : j < c := by omega
    obtain ⟨w, hw, e1, e2, e3⟩ := hr j hjc
    have hX : ∀ b, 86 ≤ b → m b = X b := fun b hb => by rw [hI.1 b (by omega)]; exact C.2.2.2.1 b hb
    rcases (show w = 0 ∨ w = 1 ∨ w = 2 ∨ w = 3 by omega) with rfl | rfl | rfl | rfl
    · skip
      refine Wp.run 3 (15, [(0, .ref 37), (1, .ref 1), (2, .ref 21), (3, .int (nI j))], [.int (m 21 1), .int (nI j)], (zsh ++ vs, m, ml, (zmr g))) rfl ?_
      refine Wp.topi (y := nI c) ((congrFun (hI.1 21 (by omega)) 1).trans hc) ?_
      refine Wp.run 0 (15, [(0, .ref 37), (1, .ref 1), (2, .ref 21), (3, .int (nI j))], [.int (nI c), .int (nI j)], (zsh ++ vs, m, ml, (zmr g))) rfl ?_
      refine Wp.icmp_ge rfl (fun h1 => ?_) (fun h1 => ?_)
      · exact absurd h1 (nI_ge hjc (by omega))
      · refine Wp.run 3 (23, [(0, .ref 37), (1, .ref 1), (2, .ref 21), (3, .int (nI j))], [.int (nI j), .ref 26], (zsh ++ vs, m, ml, (zmr g))) rfl ?_
        refine Wp.ialn rfl (by decide) rfl (by omega) (by decide) ?_
        refine Wp.run 4 (31, [(4, .int (m 26 j)), (0, .ref 37), (1, .ref 1), (2, .ref 21), (3, .int (nI j))], [.int (nI j), .ref 25], (zsh ++ vs, m, ml, (zmr g))) rfl ?_
        refine Wp.ialn rfl (by decide) rfl (by omega) (by decide) ?_
        refine Wp.topi (y := 0) ((congrFun (hI.1 25 (by omega)) j).trans e2) ?_
        refine Wp.run 4 (66, [(4, .int (m 26 j)), (0, .ref 37), (1, .ref 1), (2, .ref 21), (3, .int (nI j))], [.int 1000000, .ref 38], (zsh ++ vs, m, ml, (zmr g))) rfl ?_
        refine Wp.call (as := [.ref 38, .int 1000000]) (rest := []) rfl rfl rfl rfl rfl (Nat.le_of_ble_eq_true rfl) (Nat.le_of_ble_eq_true rfl) rfl (by decide) (c_day_38 (mi := m) (M := 1000000) C.1 C.2.1 C.2.2.1 hX hI.2.1 (by omega) (by omega) (by decide)) ?_
        rintro _ _ ⟨rfl, m', rfl, k1, k2⟩
        refine Wp.run 3 (10, [(3, .int ((nI j) + 1)), (4, .int (m 26 j)), (0, .ref 37), (1, .ref 1), (2, .ref 21)], [], (zsh ++ vs, m', ml, (zmr g))) rfl ?_
        rw [nI_1]
        refine Wp.sub (a := [(0, .ref 37), (1, .ref 1), (2, .ref 21), (3, .int (nI (j + 1)))]) (zle_cons rfl (zle_cons rfl (zle_cons rfl (zle_cons rfl (zle_nil))))) ?_
        refine ih (j + 1) _ (by omega) ?_
        rw [plR_0 e1]
        exact ⟨hI.1.tr k1, k2, by show _ + 1 ≤ _; omega⟩
    · obtain ⟨q, hq, e4, e5⟩ := e3.resolve_left (by decide)
      refine Wp.run 3 (15, [(0, .ref 37), (1, .ref 1), (2, .ref 21), (3, .int (nI j))], [.int (m 21 1), .int (nI j)], (zsh ++ vs, m, ml, (zmr g))) rfl ?_
      refine Wp.topi (y := nI c) ((congrFun (hI.1 21 (by omega)) 1).trans hc) ?_
      refine Wp.run 0 (15, [(0, .ref 37), (1, .ref 1), (2, .ref 21), (3, .int (nI j))], [.int (nI c), .int (nI j)], (zsh ++ vs, m, ml, (zmr g))) rfl ?_
      refine Wp.icmp_ge rfl (fun h1 => ?_) (fun h1 => ?_)
      · exact absurd h1 (nI_ge hjc (by omega))
      · refine Wp.run 3 (23, [(0, .ref 37), (1, .ref 1), (2, .ref 21), (3, .int (nI j))], [.int (nI j), .ref 26], (zsh ++ vs, m, ml, (zmr g))) rfl ?_
        refine Wp.ialn rfl (by decide) rfl (by omega) (by decide) ?_
        refine Wp.topi (y := nI q) ((congrFun (hI.1 26 (by omega)) j).trans e5) ?_
        refine Wp.run 4 (31, [(4, .int (nI q)), (0, .ref 37), (1, .ref 1), (2, .ref 21), (3, .int (nI j))], [.int (nI j), .ref 25], (zsh ++ vs, m, ml, (zmr g))) rfl ?_
        refine Wp.ialn rfl (by decide) rfl (by omega) (by decide) ?_
        refine Wp.topi (y := 1) ((congrFun (hI.1 25 (by omega)) j).trans e2) ?_
        refine Wp.run 5 (79, [(4, .int (nI q)), (0, .ref 37), (1, .ref 1), (2, .ref 21), (3, .int (nI j))], [.int 1, .int (nI q), .ref 38], (zsh ++ vs, m, ml, (zmr g))) rfl ?_
        refine Wp.call (as := [.ref 38, .int (nI q), .int 1]) (rest := []) rfl rfl rfl rfl rfl (Nat.le_of_ble_eq_true rfl) (Nat.le_of_ble_eq_true rfl) rfl (by decide) (c_putAway1_38 (mi := m) (nI q)) ?_
        rintro _ _ ⟨rfl, rfl⟩
        refine Wp.run 3 (10, [(3, .int ((nI j) + 1)), (4, .int (nI q)), (0, .ref 37), (1, .ref 1), (2, .ref 21)], [], (zsh ++ vs, (zup m 38 2 (m 38 2 ||| (1 : Int32) <<< (nI q &&& 31))), ml, (zmr g))) rfl ?_
        rw [nI_1]
        refine Wp.sub (a := [(0, .ref 37), (1, .ref 1), (2, .ref 21), (3, .int (nI (j + 1)))]) (zle_cons rfl (zle_cons rfl (zle_cons rfl (zle_cons rfl (zle_nil))))) ?_
        refine ih (j + 1) _ (by omega) ?_
        rw [plR_1 e1 e4 (by omega)]
        exact ⟨fun b hb => by rw [zup_ne (by omega)]; exact hI.1 b hb, BR_aw1 hI.2.1 hq, by show _ ≤ _; omega⟩
    · obtain ⟨q, hq, e4, e5⟩ := e3.resolve_left (by decide)
      refine Wp.run 3 (15, [(0, .ref 37), (1, .ref 1), (2, .ref 21), (3, .int (nI j))], [.int (m 21 1), .int (nI j)], (zsh ++ vs, m, ml, (zmr g))) rfl ?_
      refine Wp.topi (y := nI c) ((congrFun (hI.1 21 (by omega)) 1).trans hc) ?_
      refine Wp.run 0 (15, [(0, .ref 37), (1, .ref 1), (2, .ref 21), (3, .int (nI j))], [.int (nI c), .int (nI j)], (zsh ++ vs, m, ml, (zmr g))) rfl ?_
      refine Wp.icmp_ge rfl (fun h1 => ?_) (fun h1 => ?_)
      · exact absurd h1 (nI_ge hjc (by omega))
      · refine Wp.run 3 (23, [(0, .ref 37), (1, .ref 1), (2, .ref 21), (3, .int (nI j))], [.int (nI j), .ref 26], (zsh ++ vs, m, ml, (zmr g))) rfl ?_
        refine Wp.ialn rfl (by decide) rfl (by omega) (by decide) ?_
        refine Wp.topi (y := nI q) ((congrFun (hI.1 26 (by omega)) j).trans e5) ?_
        refine Wp.run 4 (31, [(4, .int (nI q)), (0, .ref 37), (1, .ref 1), (2, .ref 21), (3, .int (nI j))], [.int (nI j), .ref 25], (zsh ++ vs, m, ml, (zmr g))) rfl ?_
        refine Wp.ialn rfl (by decide) rfl (by omega) (by decide) ?_
        refine Wp.topi (y := 2) ((congrFun (hI.1 25 (by omega)) j).trans e2) ?_
        refine Wp.run 5 (92, [(4, .int (nI q)), (0, .ref 37), (1, .ref 1), (2, .ref 21), (3, .int (nI j))], [.int 0, .int (nI q), .ref 38], (zsh ++ vs, m, ml, (zmr g))) rfl ?_
        refine Wp.call (as := [.ref 38, .int (nI q), .int 0]) (rest := []) rfl rfl rfl rfl rfl (Nat.le_of_ble_eq_true rfl) (Nat.le_of_ble_eq_true rfl) rfl (by decide) (c_putAway0_38 (mi := m) (nI q)) ?_
        rintro _ _ ⟨rfl, rfl⟩
        refine Wp.run 3 (10, [(3, .int ((nI j) + 1)), (4, .int (nI q)), (0, .ref 37), (1, .ref 1), (2, .ref 21)], [], (zsh ++ vs, (zup m 38 2 (m 38 2 &&& ((1 : Int32) <<< (nI q &&& 31) ^^^ -1))), ml, (zmr g))) rfl ?_
        rw [nI_1]
        refine Wp.sub (a := [(0, .ref 37), (1, .ref 1), (2, .ref 21), (3, .int (nI (j + 1)))]) (zle_cons rfl (zle_cons rfl (zle_cons rfl (zle_cons rfl (zle_nil))))) ?_
        refine ih (j + 1) _ (by omega) ?_
        rw [plR_2 e1 e4 (by omega)]
        exact ⟨fun b hb => by rw [zup_ne (by omega)]; exact hI.1 b hb, BR_aw0 hI.2.1 hq, by show _ ≤ _; omega⟩
    · obtain ⟨q, hq, e4, e5⟩ := e3.resolve_left (by decide)
      refine Wp.run 3 (15, [(0, .ref 37), (1, .ref 1), (2, .ref 21), (3, .int (nI j))], [.int (m 21 1), .int (nI j)], (zsh ++ vs, m, ml, (zmr g))) rfl ?_
      refine Wp.topi (y := nI c) ((congrFun (hI.1 21 (by omega)) 1).trans hc) ?_
      refine Wp.run 0 (15, [(0, .ref 37), (1, .ref 1), (2, .ref 21), (3, .int (nI j))], [.int (nI c), .int (nI j)], (zsh ++ vs, m, ml, (zmr g))) rfl ?_
      refine Wp.icmp_ge rfl (fun h1 => ?_) (fun h1 => ?_)
      · exact absurd h1 (nI_ge hjc (by omega))
      · refine Wp.run 3 (23, [(0, .ref 37), (1, .ref 1), (2, .ref 21), (3, .int (nI j))], [.int (nI j), .ref 26], (zsh ++ vs, m, ml, (zmr g))) rfl ?_
        refine Wp.ialn rfl (by decide) rfl (by omega) (by decide) ?_
        refine Wp.topi (y := nI q) ((congrFun (hI.1 26 (by omega)) j).trans e5) ?_
        refine Wp.run 4 (31, [(4, .int (nI q)), (0, .ref 37), (1, .ref 1), (2, .ref 21), (3, .int (nI j))], [.int (nI j), .ref 25], (zsh ++ vs, m, ml, (zmr g))) rfl ?_
        refine Wp.ialn rfl (by decide) rfl (by omega) (by decide) ?_
        refine Wp.topi (y := 3) ((congrFun (hI.1 25 (by omega)) j).trans e2) ?_
        refine Wp.run 6 (109, [(4, .int (nI q)), (0, .ref 37), (1, .ref 1), (2, .ref 21), (3, .int (nI j))], [.int 99, .int (nI q), .ref 43], (zsh ++ vs, m, ml, (zmr g))) rfl ?_
        refine Wp.iasn rfl (by decide) rfl (by omega) (by decide) ?_
        refine Wp.run 2 (10, [(3, .int ((nI j) + 1)), (4, .int (nI q)), (0, .ref 37), (1, .ref 1), (2, .ref 21)], [], (zsh ++ vs, (zup m 43 q 99), ml, (zmr g))) rfl ?_
        rw [nI_1]
        refine Wp.sub (a := [(0, .ref 37), (1, .ref 1), (2, .ref 21), (3, .int (nI (j + 1)))]) (zle_cons rfl (zle_cons rfl (zle_cons rfl (zle_cons rfl (zle_nil))))) ?_
        refine ih (j + 1) _ (by omega) ?_
        rw [plR_3 e1 e4 (by omega)]
        exact ⟨fun b hb => by rw [zup_ne (by omega)]; exact hI.1 b hb, BR_set (f := 3) hI.2.1 hq (Or.inr (Or.inr ⟨rfl, 99, by decide, rfl⟩)), by show _ ≤ _; omega⟩
theorem c_plan {E : zEn} {vs : List (Nat × Nat)} {mi : Nat → Nat → Int32} {ml : Nat → Nat → Int64} {g : Nat → Nat → Option Nat} {g0 : Nat → Nat → Option Nat} {X : Nat → Nat → Int32} {nv : Nat} {wg : Nat → (Nat → Int32) → Int32} {sm : Int32 → (Nat → Int32) → Int32} {an : Int32 → Int32} (C : CE E vs g0 X nv wg sm an g mi) {N : Nat → Int32} {n dd : Nat} (B : BR mi 1 (g 1 3) nv N n dd) (hdd : dd ≤ 9999) {c : Nat} (hc : mi 21 1 = nI c) (h10 : c ≤ 10) (hr : ∀ r, r < c → ∃ w, w ≤ 3 ∧ N (88 + 2 * r) = nI w ∧ mi 25 r = nI w ∧ (w = 0 ∨ ∃ q, q < n ∧ N (89 + 2 * r) = nI q ∧ mi 26 r = nI q)) : Wp E 5 pg_Foresight_behindPlan 0 (lv_args 0 [.ref 37, .ref 1, .ref 21]) [] (zsh ++ vs, mi, ml, (zmr g)) (fun r w' => r = some (.ref 38) ∧ ∃ m, w' = (zsh ++ vs, m, ml, zmr (zup g 38 3 (g 1 3))) ∧ frB 38 mi m ∧ BR m 38 (g 1 3) nv (plR sm an n N dd c).1 n (plR sm an n N dd c).2) := by
  refine Wp.run 3 (5, [(0, .ref 37), (1, .ref 1), (2, .ref 21)], [.ref 1, .ref 38], (zsh ++ vs, mi, ml, (zmr g))) rfl ?_
  refine Wp.call (as := [.ref 38, .ref 1]) (rest := []) rfl rfl rfl rfl rfl (Nat.le_of_ble_eq_true rfl) (Nat.le_of_ble_eq_true rfl) rfl (by decide) (c_become_38_1 (B.2.2.2.2.2.2.lt C.2.2.2.2)) ?_
  rintro _ _ ⟨rfl, m0, rfl, b1, b2, b3, b4, b5, b6⟩
  have B0 : BR m0 38 (g 1 3) nv N n dd := BR_copy B b2 b4 b5 b6
  have C0 : CE E vs g0 X nv wg sm an (zup g 38 3 (g 1 3)) m0 := ⟨C.1, C.2.1, fun b hb => by rw [zup_ne (by omega)]; exact C.2.2.1 b hb, fun b hb => by rw [b1 b (by omega)]; exact C.2.2.2.1 b hb, C.2.2.2.2⟩
  refine Wp.run 2 (10, [(3, .int 0), (0, .ref 37), (1, .ref 1), (2, .ref 21)], [], (zsh ++ vs, m0, ml, (zmr (zup g 38 3 (g 1 3))))) rfl ?_
  refine Wp.sub (a := [(0, .ref 37), (1, .ref 1), (2, .ref 21), (3, .int (nI 0))]) (zle_cons rfl (zle_cons rfl (zle_cons rfl (zle_cons rfl (zle_nil))))) ?_
  refine (c_pl_l (g := (zup g 38 3 (g 1 3))) (mi := m0) C0 B.1.2.1 hdd (P := N) (c := c) h10 (fun r hr9 => by rw [b1 25 (by omega), b1 26 (by omega)]; exact hr r hr9) (by rw [b1 21 (by omega)]; exact hc) c 0 m0 (by omega) ⟨fun _ _ => rfl, B0, Nat.le_refl _⟩).weak ?_
  rintro _ _ ⟨rfl, m, rfl, k1, k2⟩
  exact ⟨rfl, m, rfl, fun b hb => (k1 b hb).trans (b1 b (by omega)), k2⟩
theorem m_pl_l {E : zEn} {vs : List (Nat × Nat)} {mi : Nat → Nat → Int32} {ml : Nat → Nat → Int64} {g : Nat → Nat → Option Nat} {X71 X72 : Nat → Int32} {rv : Int32 → Prop} {sm : Int32 → (Nat → Int32) → Int32} {an : Int32 → Int32} {n dd : Nat} (R : RE E X71 X72 rv sm an mi n dd) (hdd : dd ≤ 9999) {wh : Int32} {c : Nat} (h10 : c ≤ 10) (hc : mi 67 87 = nI c) (hr : ∀ r, r < c → ∃ w, w ≤ 3 ∧ mi 67 (88 + 2 * r) = nI w ∧ (w = 0 ∨ ∃ q, q < n ∧ mi 67 (89 + 2 * r) = nI q)) {P : Option Value → zW → Prop} (K : ∀ (m : Nat → Nat → Int32), (RE E X71 X72 rv sm an m n (plR sm an n (mi 67) dd c).2 ∧ m 67 = (plR sm an n (mi 67) dd c).1 ∧ (∀ i, 70 ≤ i → m 67 i = mi 67 i) ∧ zKep3 mi m ∧ (plR sm an n (mi 67) dd c).2 ≤ dd + c) → Wp E 25 pg_M_ends 106 [(0, .ref 66), (1, .int wh), (2, .int (nI c))] [] (zsh ++ vs, m, ml, zmr g) P) : ∀ (k j : Nat) (m : Nat → Nat → Int32), j + k = c → (RE E X71 X72 rv sm an m n (plR sm an n (mi 67) dd j).2 ∧ m 67 = (plR sm an n (mi 67) dd j).1 ∧ (∀ i, 70 ≤ i → m 67 i = mi 67 i) ∧ zKep3 mi m ∧ (plR sm an n (mi 67) dd j).2 ≤ dd + j) → Wp E 25 pg_M_ends 24 [(0, .ref 66), (1, .int wh), (2, .int (nI j))] [] (zsh ++ vs, m, ml, zmr g) P := by
  intro k
  induction k with
  | zero =>
    intro j m hj hI
    obtain rfl : c = j := by omega
    refine Wp.run 5 (32, [(0, .ref 66), (1, .int wh), (2, .int (nI c))], [.int (m 67 87), .int (nI c)], (zsh ++ vs, m, ml, (zmr g))) rfl ?_
    refine Wp.topi (y := nI c) ((hI.2.2.1 87 (by decide)).trans hc) ?_
    refine Wp.run 0 (32, [(0, .ref 66), (1, .int wh), (2, .int (nI c))], [.int (nI c), .int (nI c)], (zsh ++ vs, m, ml, (zmr g))) rfl ?_
    refine Wp.icmp_ge rfl (fun h1 => ?_) (fun h1 => ?_)
    · exact K m hI
    · exact absurd (Int32.le_refl _) h1
  | succ k ih =>
    intro j m hj hI
    have hjc : j < c := by omega
    have h6 := R.2.2.2.2.2.2
    obtain ⟨w, hw, e1, e3⟩ := hr j hjc
    rcases (show w = 0 ∨ w = 1 ∨ w = 2 ∨ w = 3 by omega) with rfl | rfl | rfl | rfl
    · skip
      refine Wp.run 5 (32, [(0, .ref 66), (1, .int wh), (2, .int (nI j))], [.int (m 67 87), .int (nI j)], (zsh ++ vs, m, ml, (zmr g))) rfl ?_
      refine Wp.topi (y := nI c) ((hI.2.2.1 87 (by decide)).trans hc) ?_
      refine Wp.run 0 (32, [(0, .ref 66), (1, .int wh), (2, .int (nI j))], [.int (nI c), .int (nI j)], (zsh ++ vs, m, ml, (zmr g))) rfl ?_
      refine Wp.icmp_ge rfl (fun h1 => ?_) (fun h1 => ?_)
      · exact absurd h1 (nI_ge hjc (by omega))
      · refine Wp.run 7 (45, [(0, .ref 66), (1, .int wh), (2, .int (nI j))], [.int (88 + (2 * (nI j))), .ref 67], (zsh ++ vs, m, ml, (zmr g))) rfl ?_
        refine Wp.topi (y := nI (88 + 2 * j)) (ix_23 88 2 j) ?_
        refine Wp.ialn rfl (by decide) rfl (by omega) (by decide) ?_
        refine Wp.topi (y := 0) ((hI.2.2.1 _ (by omega)).trans e1) ?_
        refine Wp.run 8 (57, [(3, .int 0), (0, .ref 66), (1, .int wh), (2, .int (nI j))], [.int (89 + (2 * (nI j))), .ref 67], (zsh ++ vs, m, ml, (zmr g))) rfl ?_
        refine Wp.topi (y := nI (89 + 2 * j)) (ix_23 89 2 j) ?_
        refine Wp.ialn rfl (by decide) rfl (by omega) (by decide) ?_
        refine Wp.run 4 (65, [(4, .int (m 67 (89 + 2 * j))), (3, .int 0), (0, .ref 66), (1, .int wh), (2, .int (nI j))], [.ref 66], (zsh ++ vs, m, ml, (zmr g))) rfl ?_
        refine Wp.call (as := [.ref 66]) (rest := []) rfl rfl rfl rfl rfl (Nat.le_of_ble_eq_true rfl) (Nat.le_of_ble_eq_true rfl) rfl (by decide) (m_dayE (mi := m) hI.1 (by have := hI.2.2.2.2; omega)) ?_
        rintro _ _ ⟨rfl, m', rfl, k1, k2⟩
        refine Wp.run 3 (24, [(2, .int ((nI j) + 1)), (4, .int (m 67 (89 + 2 * j))), (3, .int 0), (0, .ref 66), (1, .int wh)], [], (zsh ++ vs, m', ml, (zmr g))) rfl ?_
        rw [nI_1]
        refine Wp.sub (a := [(0, .ref 66), (1, .int wh), (2, .int (nI (j + 1)))]) (zle_cons rfl (zle_cons rfl (zle_cons rfl (zle_nil)))) ?_
        refine ih (j + 1) _ (by omega) ?_
        rw [plR_0 e1]
        exact ⟨hI.1.day k2 k1, by rw [k1, hI.2.1], fun i hi => by rw [k1, dayN_70 h6 (by omega) (by omega)]; exact hI.2.2.1 i hi, hI.2.2.2.1.tr k2, by show _ + 1 ≤ _; have := hI.2.2.2.2; omega⟩
    · obtain ⟨q, hq, e4⟩ := e3.resolve_left (by decide)
      refine Wp.run 5 (32, [(0, .ref 66), (1, .int wh), (2, .int (nI j))], [.int (m 67 87), .int (nI j)], (zsh ++ vs, m, ml, (zmr g))) rfl ?_
      refine Wp.topi (y := nI c) ((hI.2.2.1 87 (by decide)).trans hc) ?_
      refine Wp.run 0 (32, [(0, .ref 66), (1, .int wh), (2, .int (nI j))], [.int (nI c), .int (nI j)], (zsh ++ vs, m, ml, (zmr g))) rfl ?_
      refine Wp.icmp_ge rfl (fun h1 => ?_) (fun h1 => ?_)
      · exact absurd h1 (nI_ge hjc (by omega))
      · refine Wp.run 7 (45, [(0, .ref 66), (1, .int wh), (2, .int (nI j))], [.int (88 + (2 * (nI j))), .ref 67], (zsh ++ vs, m, ml, (zmr g))) rfl ?_
        refine Wp.topi (y := nI (88 + 2 * j)) (ix_23 88 2 j) ?_
        refine Wp.ialn rfl (by decide) rfl (by omega) (by decide) ?_
        refine Wp.topi (y := 1) ((hI.2.2.1 _ (by omega)).trans e1) ?_
        refine Wp.run 8 (57, [(3, .int 1), (0, .ref 66), (1, .int wh), (2, .int (nI j))], [.int (89 + (2 * (nI j))), .ref 67], (zsh ++ vs, m, ml, (zmr g))) rfl ?_
        refine Wp.topi (y := nI (89 + 2 * j)) (ix_23 89 2 j) ?_
        refine Wp.ialn rfl (by decide) rfl (by omega) (by decide) ?_
        refine Wp.topi (y := nI q) ((hI.2.2.1 _ (by omega)).trans e4) ?_
        refine Wp.run 12 (96, [(4, .int (nI q)), (3, .int 1), (0, .ref 66), (1, .int wh), (2, .int (nI j))], [.int 1, .int 4, .int (nI q), .ref 66], (zsh ++ vs, m, ml, (zmr g))) rfl ?_
        refine Wp.call (as := [.ref 66, .int (nI q), .int 4, .int 1]) (rest := []) rfl rfl rfl rfl rfl (Nat.le_of_ble_eq_true rfl) (Nat.le_of_ble_eq_true rfl) rfl (by decide) (m_change (mi := m) q 4 1 (by omega)) ?_
        rintro _ _ ⟨rfl, rfl⟩
        refine Wp.run 3 (24, [(2, .int ((nI j) + 1)), (4, .int (nI q)), (3, .int 1), (0, .ref 66), (1, .int wh)], [], (zsh ++ vs, (zup m 67 (8 + 10 * q + 4) 1), ml, (zmr g))) rfl ?_
        rw [nI_1]
        refine Wp.sub (a := [(0, .ref 66), (1, .int wh), (2, .int (nI (j + 1)))]) (zle_cons rfl (zle_cons rfl (zle_cons rfl (zle_nil)))) ?_
        refine ih (j + 1) _ (by omega) ?_
        rw [plR_1 e1 e4 (by omega)]
        exact ⟨hI.1.row (fun a ha => zup_ne ha) (fun i h1 h2 => zup_rd (by omega)), by rw [zup_eq, hI.2.1], fun i hi => by rw [zup_rd (by omega)]; exact hI.2.2.1 i hi, ⟨fun a p1 p2 p3 p4 p5 => by rw [zup_ne p2]; exact hI.2.2.2.1.1 a p1 p2 p3 p4 p5, fun k hk => by rw [zup_ne (by decide)]; exact hI.2.2.2.1.2 k hk⟩, by show _ ≤ _; have := hI.2.2.2.2; omega⟩
    · obtain ⟨q, hq, e4⟩ := e3.resolve_left (by decide)
      refine Wp.run 5 (32, [(0, .ref 66), (1, .int wh), (2, .int (nI j))], [.int (m 67 87), .int (nI j)], (zsh ++ vs, m, ml, (zmr g))) rfl ?_
      refine Wp.topi (y := nI c) ((hI.2.2.1 87 (by decide)).trans hc) ?_
      refine Wp.run 0 (32, [(0, .ref 66), (1, .int wh), (2, .int (nI j))], [.int (nI c), .int (nI j)], (zsh ++ vs, m, ml, (zmr g))) rfl ?_
      refine Wp.icmp_ge rfl (fun h1 => ?_) (fun h1 => ?_)
      · exact absurd h1 (nI_ge hjc (by omega))
      · refine Wp.run 7 (45, [(0, .ref 66), (1, .int wh), (2, .int (nI j))], [.int (88 + (2 * (nI j))), .ref 67], (zsh ++ vs, m, ml, (zmr g))) rfl ?_
        refine Wp.topi (y := nI (88 + 2 * j)) (ix_23 88 2 j) ?_
        refine Wp.ialn rfl (by decide) rfl (by omega) (by decide) ?_
        refine Wp.topi (y := 2) ((hI.2.2.1 _ (by omega)).trans e1) ?_
        refine Wp.run 8 (57, [(3, .int 2), (0, .ref 66), (1, .int wh), (2, .int (nI j))], [.int (89 + (2 * (nI j))), .ref 67], (zsh ++ vs, m, ml, (zmr g))) rfl ?_
        refine Wp.topi (y := nI (89 + 2 * j)) (ix_23 89 2 j) ?_
        refine Wp.ialn rfl (by decide) rfl (by omega) (by decide) ?_
        refine Wp.topi (y := nI q) ((hI.2.2.1 _ (by omega)).trans e4) ?_
        refine Wp.run 12 (96, [(4, .int (nI q)), (3, .int 2), (0, .ref 66), (1, .int wh), (2, .int (nI j))], [.int 0, .int 4, .int (nI q), .ref 66], (zsh ++ vs, m, ml, (zmr g))) rfl ?_
        refine Wp.call (as := [.ref 66, .int (nI q), .int 4, .int 0]) (rest := []) rfl rfl rfl rfl rfl (Nat.le_of_ble_eq_true rfl) (Nat.le_of_ble_eq_true rfl) rfl (by decide) (m_change (mi := m) q 4 0 (by omega)) ?_
        rintro _ _ ⟨rfl, rfl⟩
        refine Wp.run 3 (24, [(2, .int ((nI j) + 1)), (4, .int (nI q)), (3, .int 2), (0, .ref 66), (1, .int wh)], [], (zsh ++ vs, (zup m 67 (8 + 10 * q + 4) 0), ml, (zmr g))) rfl ?_
        rw [nI_1]
        refine Wp.sub (a := [(0, .ref 66), (1, .int wh), (2, .int (nI (j + 1)))]) (zle_cons rfl (zle_cons rfl (zle_cons rfl (zle_nil)))) ?_
        refine ih (j + 1) _ (by omega) ?_
        rw [plR_2 e1 e4 (by omega)]
        exact ⟨hI.1.row (fun a ha => zup_ne ha) (fun i h1 h2 => zup_rd (by omega)), by rw [zup_eq, hI.2.1], fun i hi => by rw [zup_rd (by omega)]; exact hI.2.2.1 i hi, ⟨fun a p1 p2 p3 p4 p5 => by rw [zup_ne p2]; exact hI.2.2.2.1.1 a p1 p2 p3 p4 p5, fun k hk => by rw [zup_ne (by decide)]; exact hI.2.2.2.1.2 k hk⟩, by show _ ≤ _; have := hI.2.2.2.2; omega⟩
    · obtain ⟨q, hq, e4⟩ := e3.resolve_left (by decide)
      refine Wp.run 5 (32, [(0, .ref 66), (1, .int wh), (2, .int (nI j))], [.int (m 67 87), .int (nI j)], (zsh ++ vs, m, ml, (zmr g))) rfl ?_
      refine Wp.topi (y := nI c) ((hI.2.2.1 87 (by decide)).trans hc) ?_
      refine Wp.run 0 (32, [(0, .ref 66), (1, .int wh), (2, .int (nI j))], [.int (nI c), .int (nI j)], (zsh ++ vs, m, ml, (zmr g))) rfl ?_
      refine Wp.icmp_ge rfl (fun h1 => ?_) (fun h1 => ?_)
      · exact absurd h1 (nI_ge hjc (by omega))
      · refine Wp.run 7 (45, [(0, .ref 66), (1, .int wh), (2, .int (nI j))], [.int (88 + (2 * (nI j))), .ref 67], (zsh ++ vs, m, ml, (zmr g))) rfl ?_
        refine Wp.topi (y := nI (88 + 2 * j)) (ix_23 88 2 j) ?_
        refine Wp.ialn rfl (by decide) rfl (by omega) (by decide) ?_
        refine Wp.topi (y := 3) ((hI.2.2.1 _ (by omega)).trans e1) ?_
        refine Wp.run 8 (57, [(3, .int 3), (0, .ref 66), (1, .int wh), (2, .int (nI j))], [.int (89 + (2 * (nI j))), .ref 67], (zsh ++ vs, m, ml, (zmr g))) rfl ?_
        refine Wp.topi (y := nI (89 + 2 * j)) (ix_23 89 2 j) ?_
        refine Wp.ialn rfl (by decide) rfl (by omega) (by decide) ?_
        refine Wp.topi (y := nI q) ((hI.2.2.1 _ (by omega)).trans e4) ?_
        refine Wp.run 10 (82, [(4, .int (nI q)), (3, .int 3), (0, .ref 66), (1, .int wh), (2, .int (nI j))], [.int 99, .int 3, .int (nI q), .ref 66], (zsh ++ vs, m, ml, (zmr g))) rfl ?_
        refine Wp.call (as := [.ref 66, .int (nI q), .int 3, .int 99]) (rest := []) rfl rfl rfl rfl rfl (Nat.le_of_ble_eq_true rfl) (Nat.le_of_ble_eq_true rfl) rfl (by decide) (m_change (mi := m) q 3 99 (by omega)) ?_
        rintro _ _ ⟨rfl, rfl⟩
        refine Wp.run 4 (24, [(2, .int ((nI j) + 1)), (4, .int (nI q)), (3, .int 3), (0, .ref 66), (1, .int wh)], [], (zsh ++ vs, (zup m 67 (8 + 10 * q + 3) 99), ml, (zmr g))) rfl ?_
        rw [nI_1]
        refine Wp.sub (a := [(0, .ref 66), (1, .int wh), (2, .int (nI (j + 1)))]) (zle_cons rfl (zle_cons rfl (zle_cons rfl (zle_nil)))) ?_
        refine ih (j + 1) _ (by omega) ?_
        rw [plR_3 e1 e4 (by omega)]
        exact ⟨hI.1.row (fun a ha => zup_ne ha) (fun i h1 h2 => zup_rd (by omega)), by rw [zup_eq, hI.2.1], fun i hi => by rw [zup_rd (by omega)]; exact hI.2.2.1 i hi, ⟨fun a p1 p2 p3 p4 p5 => by rw [zup_ne p2]; exact hI.2.2.2.1.1 a p1 p2 p3 p4 p5, fun k hk => by rw [zup_ne (by decide)]; exact hI.2.2.2.1.2 k hk⟩, by show _ ≤ _; have := hI.2.2.2.2; omega⟩
theorem m_fg_l {E : zEn} {vs : List (Nat × Nat)} {mi : Nat → Nat → Int32} {ml : Nat → Nat → Int64} {g : Nat → Nat → Option Nat} {wh : Int32} {n : Nat} (hn : mi 67 68 = nI n) (h6 : n ≤ 6) {P : Option Value → zW → Prop} (hn9 : n < 2147483648) (K : Wp E 25 pg_M_ends 136 [(0, .ref 66), (1, .int wh), (2, .int (zsum (fun k => uN (mi 67) k 5) n)), (3, .int (nI n))] [] (zsh ++ vs, mi, ml, (zmr g)) P) : ∀ (k j : Nat), j + k = n → Wp E 25 pg_M_ends 110 [(0, .ref 66), (1, .int wh), (2, .int (zsum (fun k => uN (mi 67) k 5) j)), (3, .int (nI j))] [] (zsh ++ vs, mi, ml, (zmr g)) P := by
  intro k
  induction k with
  | zero =>
    intro j hj9
    obtain rfl : n = j := by omega
    refine Wp.run 5 (118, [(0, .ref 66), (1, .int wh), (2, .int (zsum (fun k => uN (mi 67) k 5) n)), (3, .int (nI n))], [.int (mi 67 68), .int (nI n)], (zsh ++ vs, mi, ml, (zmr g))) rfl ?_
    refine Wp.topi (y := nI n) (hn) ?_
    refine Wp.run 0 (118, [(0, .ref 66), (1, .int wh), (2, .int (zsum (fun k => uN (mi 67) k 5) n)), (3, .int (nI n))], [.int (nI n), .int (nI n)], (zsh ++ vs, mi, ml, (zmr g))) rfl ?_
    refine Wp.icmp_ge rfl (fun h1 => ?_) (fun h1 => ?_)
    · exact K
    · exact absurd (Int32.le_refl _) h1
  | succ k ih =>
    intro j hj9
    have hlt9 : j < n := by omega
    refine Wp.run 5 (118, [(0, .ref 66), (1, .int wh), (2, .int (zsum (fun k => uN (mi 67) k 5) j)), (3, .int (nI j))], [.int (mi 67 68), .int (nI j)], (zsh ++ vs, mi, ml, (zmr g))) rfl ?_
    refine Wp.topi (y := nI n) (hn) ?_
    refine Wp.run 0 (118, [(0, .ref 66), (1, .int wh), (2, .int (zsum (fun k => uN (mi 67) k 5) j)), (3, .int (nI j))], [.int (nI n), .int (nI j)], (zsh ++ vs, mi, ml, (zmr g))) rfl ?_
    refine Wp.icmp_ge rfl (fun h1 => ?_) (fun h1 => ?_)
    · exact absurd h1 (nI_ge hlt9 hn9)
    · refine Wp.run 4 (125, [(0, .ref 66), (1, .int wh), (2, .int (zsum (fun k => uN (mi 67) k 5) j)), (3, .int (nI j))], [.int 5, .int (nI j), .ref 66, .int (zsum (fun k => uN (mi 67) k 5) j)], (zsh ++ vs, mi, ml, (zmr g))) rfl ?_
      refine Wp.call (as := [.ref 66, .int (nI j), .int 5]) (rest := [.int (zsum (fun k => uN (mi 67) k 5) j)]) rfl rfl rfl rfl rfl (Nat.le_of_ble_eq_true rfl) (Nat.le_of_ble_eq_true rfl) rfl (by decide) (m_one (mi := mi) j 5 (by omega)) ?_
      rintro _ _ ⟨rfl, rfl⟩
      refine Wp.run 4 (110, [(3, .int ((nI j) + 1)), (2, .int ((zsum (fun k => uN (mi 67) k 5) j) + (mi 67 (8 + 10 * j + 5)))), (0, .ref 66), (1, .int wh)], [], (zsh ++ vs, mi, ml, (zmr g))) rfl ?_
      rw [nI_1]
      refine Wp.sub (a := [(0, .ref 66), (1, .int wh), (2, .int (zsum (fun k => uN (mi 67) k 5) (j + 1))), (3, .int (nI (j + 1)))]) (zle_cons rfl (zle_cons rfl (zle_cons rfl (zle_cons rfl (zle_nil))))) ?_
      exact ih (j + 1) (by omega)
theorem m_ends0 {E : zEn} {vs : List (Nat × Nat)} {mi : Nat → Nat → Int32} {ml : Nat → Nat → Int64} {g : Nat → Nat → Option Nat} {X71 X72 : Nat → Int32} {rv : Int32 → Prop} {sm : Int32 → (Nat → Int32) → Int32} {an : Int32 → Int32} {n dd : Nat} (R : RE E X71 X72 rv sm an mi n dd) (hdd : dd ≤ 9999) {c : Nat} (h10 : c ≤ 10) (hc : mi 67 87 = nI c) (hr : ∀ r, r < c → ∃ w, w ≤ 3 ∧ mi 67 (88 + 2 * r) = nI w ∧ (w = 0 ∨ ∃ q, q < n ∧ mi 67 (89 + 2 * r) = nI q)) : Wp E 25 pg_M_ends 0 (lv_args 0 [.ref 66, .int 0]) [] (zsh ++ vs, mi, ml, (zmr g)) (fun r w' => r = some (.int (keptN (plR sm an n (mi 67) dd c).1 n)) ∧ ∃ m, w' = (zsh ++ vs, m, ml, zmr g) ∧ KO mi m) := by
  have h6 := R.2.2.2.2.2.2
  refine Wp.run 3 (3, [(0, .ref 66), (1, .int 0)], [.int 1, .int 0, .int 0], (zsh ++ vs, mi, ml, (zmr g))) rfl ?_
  refine Wp.call (as := [.int 0, .int 0, .int 1]) (rest := []) rfl rfl rfl rfl rfl (Nat.le_of_ble_eq_true rfl) (Nat.le_of_ble_eq_true rfl) rfl (by decide) (m_isIn_t ⟨by decide, by decide⟩) ?_
  rintro _ _ ⟨rfl, rfl⟩
  refine Wp.run 5 (19, [(0, .ref 66), (1, .int 0)], [.ref 68, .ref 67], (zsh ++ vs, mi, ml, (zmr g))) rfl ?_
  refine Wp.call (as := [.ref 67, .ref 68]) (rest := []) rfl rfl rfl rfl rfl (Nat.le_of_ble_eq_true rfl) (Nat.le_of_ble_eq_true rfl) rfl (by decide) (m_move_67_68 (mi := mi)) ?_
  rintro _ _ ⟨rfl, rfl⟩
  obtain ⟨p1, hp1⟩ : ∃ z, z = zrow mi 68 (mvR mi 67 68 125) := ⟨_, rfl⟩
  rw [← hp1]
  have a1 : ∀ b, ¬ b = 68 → p1 b = mi b := fun b hb => by rw [hp1, zrow_ne hb]
  have a2 : ∀ i, i < 125 → p1 68 i = mi 67 i := fun i hi => by rw [hp1, zrow_eq, mvR_lt hi]
  have a3 : ∀ i, 125 ≤ i → p1 68 i = mi 68 i := fun i hi => by rw [hp1, zrow_eq]; exact if_neg (by omega)
  refine Wp.run 2 (24, [(2, .int 0), (0, .ref 66), (1, .int 0)], [], (zsh ++ vs, p1, ml, (zmr g))) rfl ?_
  have R1 : RE E X71 X72 rv sm an p1 n dd := R.fr (fun a ha => a1 a (by omega)) (by rw [a1 67 (by decide)]) (by rw [a1 67 (by decide)]; exact R.2.2.2.2.1) (by rw [a1 67 (by decide)])
  have K : ∀ (m : Nat → Nat → Int32), (RE E X71 X72 rv sm an m n (plR sm an n (p1 67) dd c).2 ∧ m 67 = (plR sm an n (p1 67) dd c).1 ∧ (∀ i, 70 ≤ i → m 67 i = p1 67 i) ∧ zKep3 p1 m ∧ (plR sm an n (p1 67) dd c).2 ≤ dd + c) → Wp E 25 pg_M_ends 106 [(0, .ref 66), (1, .int 0), (2, .int (nI c))] [] (zsh ++ vs, m, ml, zmr g) (fun r w' => r = some (.int (keptN (plR sm an n (mi 67) dd c).1 n)) ∧ ∃ m, w' = (zsh ++ vs, m, ml, zmr g) ∧ KO mi m) := by
    intro m hI
    refine Wp.run 4 (110, [(3, .int 0), (2, .int 0), (0, .ref 66), (1, .int 0)], [], (zsh ++ vs, m, ml, (zmr g))) rfl ?_
    have hn2 := hI.1.2.2.2.2.2.1
    have KF : Wp E 25 pg_M_ends 136 [(0, .ref 66), (1, .int 0), (2, .int (zsum (fun k => uN (m 67) k 5) n)), (3, .int (nI n))] [] (zsh ++ vs, m, ml, zmr g) (fun r w' => r = some (.int (keptN (plR sm an n (mi 67) dd c).1 n)) ∧ ∃ m, w' = (zsh ++ vs, m, ml, zmr g) ∧ KO mi m) := by
      refine Wp.run 3 (141, [(0, .ref 66), (1, .int 0), (2, .int (zsum (fun k => uN (m 67) k 5) n)), (3, .int (nI n))], [.ref 66], (zsh ++ vs, m, ml, (zmr g))) rfl ?_
      refine Wp.call (as := [.ref 66]) (rest := []) rfl rfl rfl rfl rfl (Nat.le_of_ble_eq_true rfl) (Nat.le_of_ble_eq_true rfl) rfl (by decide) (m_keptNow hn2 h6) ?_
      rintro _ _ ⟨rfl, rfl⟩
      refine Wp.run 6 (157, [(3, .int (zor (keptF (uN (m 67))) n)), (0, .ref 66), (1, .int 0), (2, .int (zsum (fun k => uN (m 67) k 5) n))], [.ref 67, .ref 68], (zsh ++ vs, m, ml, (zmr g))) rfl ?_
      refine Wp.call (as := [.ref 68, .ref 67]) (rest := []) rfl rfl rfl rfl rfl (Nat.le_of_ble_eq_true rfl) (Nat.le_of_ble_eq_true rfl) rfl (by decide) (m_move_68_67 (mi := m)) ?_
      rintro _ _ ⟨rfl, rfl⟩
      obtain ⟨p4, hp4⟩ : ∃ z, z = zrow m 67 (mvR m 68 67 125) := ⟨_, rfl⟩
      rw [← hp4]
      have c1 : ∀ b, ¬ b = 67 → p4 b = m b := fun b hb => by rw [hp4, zrow_ne hb]
      have c2 : ∀ i, i < 125 → p4 67 i = m 68 i := fun i hi => by rw [hp4, zrow_eq, mvR_lt hi]
      have c3 : ∀ i, 125 ≤ i → p4 67 i = m 67 i := fun i hi => by rw [hp4, zrow_eq]; exact if_neg (by omega)
      refine Wp.run 1 (161, [(3, .int (zor (keptF (uN (m 67))) n)), (0, .ref 66), (1, .int 0), (2, .int (zsum (fun k => uN (m 67) k 5) n))], [.int (zor (keptF (uN (m 67))) n)], (zsh ++ vs, p4, ml, (zmr g))) rfl ?_
      refine Wp.ret rfl rfl rfl ?_
      refine ⟨?_, p4, rfl, KO.back a1 a2 hI.2.2.2.1 (fun i hi => by rw [hI.2.2.1 i (by omega), a1 67 (by decide)]) c1 c2 c3⟩
      rw [hI.2.1, a1 67 (by decide)]
    refine Wp.sub (a := [(0, .ref 66), (1, .int 0), (2, .int (zsum (fun k => uN (m 67) k 5) 0)), (3, .int (nI 0))]) (zle_cons rfl (zle_cons rfl (zle_cons rfl (zle_cons rfl (zle_nil))))) ?_
    exact m_fg_l (mi := m) hn2 h6 (by omega) KF n 0 (by omega)
  refine Wp.sub (a := [(0, .ref 66), (1, .int 0), (2, .int (nI 0))]) (zle_cons rfl (zle_cons rfl (zle_cons rfl (zle_nil)))) ?_
  exact m_pl_l (mi := p1) R1 hdd h10 (by rw [a1 67 (by decide)]; exact hc) (by rw [a1 67 (by decide)]; exact hr) K c 0 p1 (by omega) ⟨R1, rfl, fun _ _ => rfl, zKep3.rf, Nat.le_refl _⟩
theorem m_ends1 {E : zEn} {vs : List (Nat × Nat)} {mi : Nat → Nat → Int32} {ml : Nat → Nat → Int64} {g : Nat → Nat → Option Nat} {X71 X72 : Nat → Int32} {rv : Int32 → Prop} {sm : Int32 → (Nat → Int32) → Int32} {an : Int32 → Int32} {n dd : Nat} (R : RE E X71 X72 rv sm an mi n dd) (hdd : dd ≤ 9999) {c : Nat} (h10 : c ≤ 10) (hc : mi 67 87 = nI c) (hr : ∀ r, r < c → ∃ w, w ≤ 3 ∧ mi 67 (88 + 2 * r) = nI w ∧ (w = 0 ∨ ∃ q, q < n ∧ mi 67 (89 + 2 * r) = nI q)) : Wp E 25 pg_M_ends 0 (lv_args 0 [.ref 66, .int 1]) [] (zsh ++ vs, mi, ml, (zmr g)) (fun r w' => r = some (.int (zsum (fun k => uN (plR sm an n (mi 67) dd c).1 k 5) n)) ∧ ∃ m, w' = (zsh ++ vs, m, ml, zmr g) ∧ KO mi m) := by
  have h6 := R.2.2.2.2.2.2
  refine Wp.run 3 (3, [(0, .ref 66), (1, .int 1)], [.int 1, .int 0, .int 1], (zsh ++ vs, mi, ml, (zmr g))) rfl ?_
  refine Wp.call (as := [.int 1, .int 0, .int 1]) (rest := []) rfl rfl rfl rfl rfl (Nat.le_of_ble_eq_true rfl) (Nat.le_of_ble_eq_true rfl) rfl (by decide) (m_isIn_t ⟨by decide, by decide⟩) ?_
  rintro _ _ ⟨rfl, rfl⟩
  refine Wp.run 5 (19, [(0, .ref 66), (1, .int 1)], [.ref 68, .ref 67], (zsh ++ vs, mi, ml, (zmr g))) rfl ?_
  refine Wp.call (as := [.ref 67, .ref 68]) (rest := []) rfl rfl rfl rfl rfl (Nat.le_of_ble_eq_true rfl) (Nat.le_of_ble_eq_true rfl) rfl (by decide) (m_move_67_68 (mi := mi)) ?_
  rintro _ _ ⟨rfl, rfl⟩
  obtain ⟨p1, hp1⟩ : ∃ z, z = zrow mi 68 (mvR mi 67 68 125) := ⟨_, rfl⟩
  rw [← hp1]
  have a1 : ∀ b, ¬ b = 68 → p1 b = mi b := fun b hb => by rw [hp1, zrow_ne hb]
  have a2 : ∀ i, i < 125 → p1 68 i = mi 67 i := fun i hi => by rw [hp1, zrow_eq, mvR_lt hi]
  have a3 : ∀ i, 125 ≤ i → p1 68 i = mi 68 i := fun i hi => by rw [hp1, zrow_eq]; exact if_neg (by omega)
  refine Wp.run 2 (24, [(2, .int 0), (0, .ref 66), (1, .int 1)], [], (zsh ++ vs, p1, ml, (zmr g))) rfl ?_
  have R1 : RE E X71 X72 rv sm an p1 n dd := R.fr (fun a ha => a1 a (by omega)) (by rw [a1 67 (by decide)]) (by rw [a1 67 (by decide)]; exact R.2.2.2.2.1) (by rw [a1 67 (by decide)])
  have K : ∀ (m : Nat → Nat → Int32), (RE E X71 X72 rv sm an m n (plR sm an n (p1 67) dd c).2 ∧ m 67 = (plR sm an n (p1 67) dd c).1 ∧ (∀ i, 70 ≤ i → m 67 i = p1 67 i) ∧ zKep3 p1 m ∧ (plR sm an n (p1 67) dd c).2 ≤ dd + c) → Wp E 25 pg_M_ends 106 [(0, .ref 66), (1, .int 1), (2, .int (nI c))] [] (zsh ++ vs, m, ml, zmr g) (fun r w' => r = some (.int (zsum (fun k => uN (plR sm an n (mi 67) dd c).1 k 5) n)) ∧ ∃ m, w' = (zsh ++ vs, m, ml, zmr g) ∧ KO mi m) := by
    intro m hI
    refine Wp.run 4 (110, [(3, .int 0), (2, .int 0), (0, .ref 66), (1, .int 1)], [], (zsh ++ vs, m, ml, (zmr g))) rfl ?_
    have hn2 := hI.1.2.2.2.2.2.1
    have KF : Wp E 25 pg_M_ends 136 [(0, .ref 66), (1, .int 1), (2, .int (zsum (fun k => uN (m 67) k 5) n)), (3, .int (nI n))] [] (zsh ++ vs, m, ml, zmr g) (fun r w' => r = some (.int (zsum (fun k => uN (plR sm an n (mi 67) dd c).1 k 5) n)) ∧ ∃ m, w' = (zsh ++ vs, m, ml, zmr g) ∧ KO mi m) := by
      refine Wp.run 8 (157, [(3, .int (zsum (fun k => uN (m 67) k 5) n)), (0, .ref 66), (1, .int 1), (2, .int (zsum (fun k => uN (m 67) k 5) n))], [.ref 67, .ref 68], (zsh ++ vs, m, ml, (zmr g))) rfl ?_
      refine Wp.call (as := [.ref 68, .ref 67]) (rest := []) rfl rfl rfl rfl rfl (Nat.le_of_ble_eq_true rfl) (Nat.le_of_ble_eq_true rfl) rfl (by decide) (m_move_68_67 (mi := m)) ?_
      rintro _ _ ⟨rfl, rfl⟩
      obtain ⟨p4, hp4⟩ : ∃ z, z = zrow m 67 (mvR m 68 67 125) := ⟨_, rfl⟩
      rw [← hp4]
      have c1 : ∀ b, ¬ b = 67 → p4 b = m b := fun b hb => by rw [hp4, zrow_ne hb]
      have c2 : ∀ i, i < 125 → p4 67 i = m 68 i := fun i hi => by rw [hp4, zrow_eq, mvR_lt hi]
      have c3 : ∀ i, 125 ≤ i → p4 67 i = m 67 i := fun i hi => by rw [hp4, zrow_eq]; exact if_neg (by omega)
      refine Wp.run 1 (161, [(3, .int (zsum (fun k => uN (m 67) k 5) n)), (0, .ref 66), (1, .int 1), (2, .int (zsum (fun k => uN (m 67) k 5) n))], [.int (zsum (fun k => uN (m 67) k 5) n)], (zsh ++ vs, p4, ml, (zmr g))) rfl ?_
      refine Wp.ret rfl rfl rfl ?_
      refine ⟨?_, p4, rfl, KO.back a1 a2 hI.2.2.2.1 (fun i hi => by rw [hI.2.2.1 i (by omega), a1 67 (by decide)]) c1 c2 c3⟩
      rw [hI.2.1, a1 67 (by decide)]
    refine Wp.sub (a := [(0, .ref 66), (1, .int 1), (2, .int (zsum (fun k => uN (m 67) k 5) 0)), (3, .int (nI 0))]) (zle_cons rfl (zle_cons rfl (zle_cons rfl (zle_cons rfl (zle_nil))))) ?_
    exact m_fg_l (mi := m) hn2 h6 (by omega) KF n 0 (by omega)
  refine Wp.sub (a := [(0, .ref 66), (1, .int 1), (2, .int (nI 0))]) (zle_cons rfl (zle_cons rfl (zle_cons rfl (zle_nil)))) ?_
  exact m_pl_l (mi := p1) R1 hdd h10 (by rw [a1 67 (by decide)]; exact hc) (by rw [a1 67 (by decide)]; exact hr) K c 0 p1 (by omega) ⟨R1, rfl, fun _ _ => rfl, zKep3.rf, Nat.le_refl _⟩
theorem sim_ends {E : zEn} {nv : Nat} {VD : Nat → zV} {NL : Nat → Nat} {n dd : Nat} {vs : List (Nat × Nat)} {mi : Nat → Nat → Int32} {ml : Nat → Nat → Int64} {g : Nat → Nat → Option Nat} (I : INV nv VD NL n dd vs mi ml g) (x : Int32) : SIM E vs mi ml g pg_H_ends pg_M_ends [.int x] := by
  have B := I.1.1
  have h6 := B.1.2.1
  have hn := B.2.1
  have hN := B.1.1
  have hd := B.1.2.2.1
  have hdd := I.1.2
  by_cases hx : 0 ≤ x ∧ x ≤ 1
  rotate_left
  · refine SIM.q I (x := -1) (dc := 7) (dm := 27) (by decide) (by decide) ?_ ?_
    · refine Wp.run 2 (2, [(0, .ref 0), (1, .int x)], [.int 1, .int x], (zsh ++ vs, mi, ml, (zmr g))) rfl ?_
      refine Wp.call (as := [.int x, .int 1]) (rest := []) rfl rfl rfl rfl rfl (Nat.le_of_ble_eq_true rfl) (Nat.le_of_ble_eq_true rfl) rfl (by decide) (c_within_f hx) ?_
      rintro _ _ ⟨rfl, rfl⟩
      refine Wp.run 2 (9, [(0, .ref 0), (1, .int x)], [.int (-1)], (zsh ++ vs, mi, ml, (zmr g))) rfl ?_
      refine Wp.ret rfl rfl rfl ?_
      exact ⟨rfl, _, _, rfl, SC.rf, fun _ _ _ => rfl⟩
    · intro m g' I' e67 S
      have B' := I'.1.1
      have hn' := B'.2.1
      have hN' := B'.1.1
      have hd' := B'.1.2.2.1
      refine Wp.run 3 (3, [(0, .ref 66), (1, .int x)], [.int 1, .int 0, .int x], (zsh ++ vs, m, ml, (zmr g'))) rfl ?_
      refine Wp.call (as := [.int x, .int 0, .int 1]) (rest := []) rfl rfl rfl rfl rfl (Nat.le_of_ble_eq_true rfl) (Nat.le_of_ble_eq_true rfl) rfl (by decide) (m_isIn_f hx) ?_
      rintro _ _ ⟨rfl, rfl⟩
      refine Wp.run 2 (10, [(0, .ref 66), (1, .int x)], [.int (-1)], (zsh ++ vs, m, ml, (zmr g'))) rfl ?_
      refine Wp.ret rfl rfl rfl ?_
      exact ⟨rfl, _, rfl, SC.rf⟩
  obtain ⟨q, hq, rfl⟩ := rng_of (h := 1) rfl hx
  obtain ⟨c, h10, c1, c2, c3⟩ := I.2.1.2.1
  rcases (show q = 0 ∨ q = 1 by omega) with rfl | rfl
  · refine SIM.q I (x := keptN (plR (smV VD) (anV VD) n (mi 67) dd c).1 n) (dc := 7) (dm := 27) (by decide) (by decide) ?_ ?_
    · refine Wp.run 2 (2, [(0, .ref 0), (1, .int 0)], [.int 1, .int 0], (zsh ++ vs, mi, ml, (zmr g))) rfl ?_
      refine Wp.call (as := [.int 0, .int 1]) (rest := []) rfl rfl rfl rfl rfl (Nat.le_of_ble_eq_true rfl) (Nat.le_of_ble_eq_true rfl) rfl (by decide) (c_within_t hx) ?_
      rintro _ _ ⟨rfl, rfl⟩
      refine Wp.run 7 (22, [(0, .ref 0), (1, .int 0)], [.ref 21, .ref 1, .ref 37], (zsh ++ vs, mi, ml, (zmr g))) rfl ?_
      refine Wp.call (as := [.ref 37, .ref 1, .ref 21]) (rest := []) rfl rfl rfl rfl rfl (Nat.le_of_ble_eq_true rfl) (Nat.le_of_ble_eq_true rfl) rfl (by decide) (c_plan I.ce B hdd c1 h10 c3) ?_
      rintro _ _ ⟨rfl, p1, rfl, k1, k2⟩
      refine Wp.run 4 (31, [(2, .ref 38), (0, .ref 0), (1, .int 0)], [.ref 38], (zsh ++ vs, p1, ml, (zmr (zup g 38 3 (g 1 3))))) rfl ?_
      refine Wp.call (as := [.ref 38]) (rest := []) rfl rfl rfl rfl rfl (Nat.le_of_ble_eq_true rfl) (Nat.le_of_ble_eq_true rfl) rfl (by decide) (c_kept_38 k2.2.1 h6) ?_
      rintro _ _ ⟨rfl, rfl⟩
      refine Wp.run 1 (41, [(2, .ref 38), (0, .ref 0), (1, .int 0)], [.int (zor (sungF (p1 38 2 ^^^ -1) (p1 42)) n)], (zsh ++ vs, p1, ml, (zmr (zup g 38 3 (g 1 3))))) rfl ?_
      refine Wp.ret rfl rfl rfl ?_
      exact ⟨congrArg (fun z => some (Value.int z)) (k2.kept), _, _, rfl, SC.frB k1, zup38⟩
    · intro m g' I' e67 S
      rw [← e67]
      refine ((m_ends0 I'.re hdd (c := c) h10 (by rw [e67]; exact c2) (fun r hr => by rw [e67]; obtain ⟨w, a1, a2, a3, a4⟩ := c3 r hr; exact ⟨w, a1, a2, a4.imp id (fun ⟨q, z1, z2, z3⟩ => ⟨q, z1, z2⟩)⟩)).weak ?_).deep (by decide)
      rintro _ _ ⟨rfl, p1, rfl, k⟩
      exact ⟨rfl, p1, rfl, k.sc⟩
  · refine SIM.q I (x := zsum (fun k => uN (plR (smV VD) (anV VD) n (mi 67) dd c).1 k 5) n) (dc := 7) (dm := 27) (by decide) (by decide) ?_ ?_
    · refine Wp.run 2 (2, [(0, .ref 0), (1, .int 1)], [.int 1, .int 1], (zsh ++ vs, mi, ml, (zmr g))) rfl ?_
      refine Wp.call (as := [.int 1, .int 1]) (rest := []) rfl rfl rfl rfl rfl (Nat.le_of_ble_eq_true rfl) (Nat.le_of_ble_eq_true rfl) rfl (by decide) (c_within_t hx) ?_
      rintro _ _ ⟨rfl, rfl⟩
      refine Wp.run 7 (22, [(0, .ref 0), (1, .int 1)], [.ref 21, .ref 1, .ref 37], (zsh ++ vs, mi, ml, (zmr g))) rfl ?_
      refine Wp.call (as := [.ref 37, .ref 1, .ref 21]) (rest := []) rfl rfl rfl rfl rfl (Nat.le_of_ble_eq_true rfl) (Nat.le_of_ble_eq_true rfl) rfl (by decide) (c_plan I.ce B hdd c1 h10 c3) ?_
      rintro _ _ ⟨rfl, p1, rfl, k1, k2⟩
      refine Wp.run 4 (38, [(2, .ref 38), (0, .ref 0), (1, .int 1)], [.ref 38], (zsh ++ vs, p1, ml, (zmr (zup g 38 3 (g 1 3))))) rfl ?_
      refine Wp.call (as := [.ref 38]) (rest := []) rfl rfl rfl rfl rfl (Nat.le_of_ble_eq_true rfl) (Nat.le_of_ble_eq_true rfl) rfl (by decide) (c_forgot_38 k2.2.1 h6) ?_
      rintro _ _ ⟨rfl, rfl⟩
      refine Wp.run 0 (41, [(2, .ref 38), (0, .ref 0), (1, .int 1)], [.int (zsum (p1 44) n)], (zsh ++ vs, p1, ml, (zmr (zup g 38 3 (g 1 3))))) rfl ?_
      refine Wp.ret rfl rfl rfl ?_
      exact ⟨congrArg (fun z => some (Value.int z)) (k2.forgot), _, _, rfl, SC.frB k1, zup38⟩
    · intro m g' I' e67 S
      rw [← e67]
      refine ((m_ends1 I'.re hdd (c := c) h10 (by rw [e67]; exact c2) (fun r hr => by rw [e67]; obtain ⟨w, a1, a2, a3, a4⟩ := c3 r hr; exact ⟨w, a1, a2, a4.imp id (fun ⟨q, z1, z2, z3⟩ => ⟨q, z1, z2⟩)⟩)).weak ?_).deep (by decide)
      rintro _ _ ⟨rfl, p1, rfl, k⟩
      exact ⟨rfl, p1, rfl, k.sc⟩
