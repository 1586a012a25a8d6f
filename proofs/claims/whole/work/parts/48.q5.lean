/-! THE REFERENCE: readFor, village -/
theorem ix_100 (a b : Nat) : (100 : Int32) * nI a + nI b = nI (100 * a + b) := by
  show nI 100 * nI a + nI b = _
  rw [pk_mul, nI_add]
/-- the texts of the villages: X71 the bytes, X72 the lengths; VD what each comes to -/
def VT (X71 X72 : Nat → Int32) (nv : Nat) (VD : Nat → zV) (NL : Nat → Nat) : Prop := ∀ k, k < nv → NL k ≤ 100 ∧ X72 k = nI (NL k) ∧ zcsa (fun j => X71 (100 * k + j)) (NL k) 10 ([], fun _ => 0, 50) 0 = (some (VD k), NL k)
def smV (VD : Nat → zV) (ρ : Int32) (nm : Nat → Int32) : Int32 := if ρ = 0 then 2 * nm 3 else 2 * nm 3 + (VD (ρ.toNatClampNeg - 1)).2.1 nm
def anV (VD : Nat → zV) (ρ : Int32) : Int32 := if ρ = 0 then 50 else nI (VD (ρ.toNatClampNeg - 1)).2.2
def rvV (nv : Nat) (ρ : Int32) : Prop := ρ = 0 ∨ ∃ k, k < nv ∧ ρ = nI (k + 1)
theorem smV_k {VD : Nat → zV} {k : Nat} {nm : Nat → Int32} (hk : k < 1000) : smV VD (nI (k + 1)) nm = 2 * nm 3 + (VD k).2.1 nm := by
  unfold smV
  rw [if_neg (nI_ne0 (by omega) (by omega)), nI_clamp (by omega)]
  rfl
theorem anV_k {VD : Nat → zV} {k : Nat} (hk : k < 1000) : anV VD (nI (k + 1)) = nI (VD k).2.2 := by
  unfold anV
  rw [if_neg (nI_ne0 (by omega) (by omega)), nI_clamp (by omega)]
  rfl
theorem m_rf_l {E : zEn} {vs : List (Nat × Nat)} {mi : Nat → Nat → Int32} {ml : Nat → Nat → Int64} {g : Nat → Nat → Option Nat} {i k0 L : Nat} (hk0 : k0 < 6) (hL : mi 66 10 = nI L) (hL100 : L ≤ 100) {P : Option Value → zW → Prop} (hn9 : L < 2147483648) (K : ∀ (m : Nat → Nat → Int32) , ((∀ b, ¬ b = 73 → m b = mi b) ∧ ∀ q, q < L → m 73 q = mi 71 (100 * k0 + q)) → Wp E 22 pg_M_readFor 159 [(0, .ref 66), (1, .int (nI i)), (2, .int (nI k0)), (3, .int (nI L))] [] (zsh ++ vs, m, ml, (zmr g)) P) : ∀ (k j : Nat) (m : Nat → Nat → Int32) , j + k = L → ((∀ b, ¬ b = 73 → m b = mi b) ∧ ∀ q, q < j → m 73 q = mi 71 (100 * k0 + q)) → Wp E 22 pg_M_readFor 128 [(0, .ref 66), (1, .int (nI i)), (2, .int (nI k0)), (3, .int (nI j))] [] (zsh ++ vs, m, ml, (zmr g)) P := by
  intro k
  induction k with
  | zero =>
    intro j m  hj9 hI
    obtain rfl : L = j := by omega
    refine Wp.run 3 (133, [(0, .ref 66), (1, .int (nI i)), (2, .int (nI k0)), (3, .int (nI L))], [.int (m 66 10), .int (nI L)], (zsh ++ vs, m, ml, (zmr g))) rfl ?_
    rw [show m 66 10 = nI L from by rw [hI.1 66 (by decide)]; exact hL]
    refine Wp.run 0 (133, [(0, .ref 66), (1, .int (nI i)), (2, .int (nI k0)), (3, .int (nI L))], [.int (nI L), .int (nI L)], (zsh ++ vs, m, ml, (zmr g))) rfl ?_
    refine Wp.icmp_ge rfl (fun h1 => ?_) (fun h1 => ?_)
    · exact K m  hI
    · exact absurd (Int32.le_refl _) h1
  | succ k ih =>
    intro j m  hj9 hI
    have hlt9 : j < L := by omega
    refine Wp.run 3 (133, [(0, .ref 66), (1, .int (nI i)), (2, .int (nI k0)), (3, .int (nI j))], [.int (m 66 10), .int (nI j)], (zsh ++ vs, m, ml, (zmr g))) rfl ?_
    rw [show m 66 10 = nI L from by rw [hI.1 66 (by decide)]; exact hL]
    refine Wp.run 0 (133, [(0, .ref 66), (1, .int (nI i)), (2, .int (nI k0)), (3, .int (nI j))], [.int (nI L), .int (nI j)], (zsh ++ vs, m, ml, (zmr g))) rfl ?_
    refine Wp.icmp_ge rfl (fun h1 => ?_) (fun h1 => ?_)
    · exact absurd h1 (nI_ge hlt9 hn9)
    · refine Wp.run 10 (151, [(0, .ref 66), (1, .int (nI i)), (2, .int (nI k0)), (3, .int (nI j))], [.int ((100 * (nI k0)) + (nI j)), .ref 71, .int (nI j), .ref 73], (zsh ++ vs, m, ml, (zmr g))) rfl ?_
      rw [ix_100]
      refine Wp.ialn rfl (by decide) rfl (by omega) (by decide) ?_
      refine Wp.iasn rfl (by decide) rfl (by omega) (by decide) ?_
      refine Wp.run 2 (128, [(3, .int ((nI j) + 1)), (0, .ref 66), (1, .int (nI i)), (2, .int (nI k0))], [], (zsh ++ vs, (zup m 73 j (m 71 (100 * k0 + j))), ml, (zmr g))) rfl ?_
      rw [nI_1]
      refine Wp.sub (a := [(0, .ref 66), (1, .int (nI i)), (2, .int (nI k0)), (3, .int (nI (j + 1)))]) (zle_cons rfl (zle_cons rfl (zle_cons rfl (zle_cons rfl (zle_nil))))) ?_
      refine ih (j + 1) _ (by omega) ⟨fun b hb => ?_, fun q hq => ?_⟩
      · rw [zup_ne hb]; exact hI.1 b hb
      · by_cases hqj : q = j
        · subst hqj; simp only [zup, if_true]; rw [hI.1 71 (by decide)]
        · simp only [zup, if_true, if_neg hqj]; exact hI.2 q (by omega)
theorem m_vi_l1 {E : zEn} {vs : List (Nat × Nat)} {mi : Nat → Nat → Int32} {ml : Nat → Nat → Int64} {g : Nat → Nat → Option Nat} {L : Nat} (hL : mi 66 10 = nI L) (hL100 : L ≤ 100) {P : Option Value → zW → Prop} (hn9 : L < 2147483648) (K : ∀ (m : Nat → Nat → Int32) , ((∀ b, ¬ b = 73 → m b = mi b) ∧ ∀ q, q < L → m 73 q = mi 70 q) → Wp E 22 pg_M_village 48 [(0, .ref 66), (1, .int (nI L))] [] (zsh ++ vs, m, ml, (zmr g)) P) : ∀ (k j : Nat) (m : Nat → Nat → Int32) , j + k = L → ((∀ b, ¬ b = 73 → m b = mi b) ∧ ∀ q, q < j → m 73 q = mi 70 q) → Wp E 22 pg_M_village 22 [(0, .ref 66), (1, .int (nI j))] [] (zsh ++ vs, m, ml, (zmr g)) P := by
  intro k
  induction k with
  | zero =>
    intro j m  hj9 hI
    obtain rfl : L = j := by omega
    refine Wp.run 3 (27, [(0, .ref 66), (1, .int (nI L))], [.int (m 66 10), .int (nI L)], (zsh ++ vs, m, ml, (zmr g))) rfl ?_
    rw [show m 66 10 = nI L from by rw [hI.1 66 (by decide)]; exact hL]
    refine Wp.run 0 (27, [(0, .ref 66), (1, .int (nI L))], [.int (nI L), .int (nI L)], (zsh ++ vs, m, ml, (zmr g))) rfl ?_
    refine Wp.icmp_ge rfl (fun h1 => ?_) (fun h1 => ?_)
    · exact K m  hI
    · exact absurd (Int32.le_refl _) h1
  | succ k ih =>
    intro j m  hj9 hI
    have hlt9 : j < L := by omega
    refine Wp.run 3 (27, [(0, .ref 66), (1, .int (nI j))], [.int (m 66 10), .int (nI j)], (zsh ++ vs, m, ml, (zmr g))) rfl ?_
    rw [show m 66 10 = nI L from by rw [hI.1 66 (by decide)]; exact hL]
    refine Wp.run 0 (27, [(0, .ref 66), (1, .int (nI j))], [.int (nI L), .int (nI j)], (zsh ++ vs, m, ml, (zmr g))) rfl ?_
    refine Wp.icmp_ge rfl (fun h1 => ?_) (fun h1 => ?_)
    · exact absurd h1 (nI_ge hlt9 hn9)
    · refine Wp.run 6 (40, [(0, .ref 66), (1, .int (nI j))], [.int (nI j), .ref 70, .int (nI j), .ref 73], (zsh ++ vs, m, ml, (zmr g))) rfl ?_
      refine Wp.ialn rfl (by decide) rfl (by omega) (by decide) ?_
      refine Wp.iasn rfl (by decide) rfl (by omega) (by decide) ?_
      refine Wp.run 2 (22, [(1, .int ((nI j) + 1)), (0, .ref 66)], [], (zsh ++ vs, (zup m 73 j (m 70 j)), ml, (zmr g))) rfl ?_
      rw [nI_1]
      refine Wp.sub (a := [(0, .ref 66), (1, .int (nI (j + 1)))]) (zle_cons rfl (zle_cons rfl (zle_nil))) ?_
      refine ih (j + 1) _ (by omega) ⟨fun b hb => ?_, fun q hq => ?_⟩
      · rw [zup_ne hb]; exact hI.1 b hb
      · by_cases hqj : q = j
        · subst hqj; simp only [zup, if_true]; rw [hI.1 70 (by decide)]
        · simp only [zup, if_true, if_neg hqj]; exact hI.2 q (by omega)
theorem m_vi_l2 {E : zEn} {vs : List (Nat × Nat)} {mi : Nat → Nat → Int32} {ml : Nat → Nat → Int64} {g : Nat → Nat → Option Nat} {L nv : Nat} (hnv : mi 66 8 = nI nv) (h6 : nv < 6) (hL : mi 66 10 = nI L) (hL100 : L ≤ 100) {P : Option Value → zW → Prop} (hn9 : L < 2147483648) (K : ∀ (m : Nat → Nat → Int32) , ((∀ b, ¬ b = 71 → m b = mi b) ∧ (∀ q, q < L → m 71 (100 * nv + q) = mi 73 q) ∧ ∀ x, (x < 100 * nv ∨ 100 * nv + L ≤ x) → m 71 x = mi 71 x) → Wp E 22 pg_M_village 104 [(0, .ref 66), (1, .int (nI L))] [] (zsh ++ vs, m, ml, (zmr g)) P) : ∀ (k j : Nat) (m : Nat → Nat → Int32) , j + k = L → ((∀ b, ¬ b = 71 → m b = mi b) ∧ (∀ q, q < j → m 71 (100 * nv + q) = mi 73 q) ∧ ∀ x, (x < 100 * nv ∨ 100 * nv + j ≤ x) → m 71 x = mi 71 x) → Wp E 22 pg_M_village 70 [(0, .ref 66), (1, .int (nI j))] [] (zsh ++ vs, m, ml, (zmr g)) P := by
  intro k
  induction k with
  | zero =>
    intro j m  hj9 hI
    obtain rfl : L = j := by omega
    refine Wp.run 3 (75, [(0, .ref 66), (1, .int (nI L))], [.int (m 66 10), .int (nI L)], (zsh ++ vs, m, ml, (zmr g))) rfl ?_
    rw [show m 66 10 = nI L from by rw [hI.1 66 (by decide)]; exact hL]
    refine Wp.run 0 (75, [(0, .ref 66), (1, .int (nI L))], [.int (nI L), .int (nI L)], (zsh ++ vs, m, ml, (zmr g))) rfl ?_
    refine Wp.icmp_ge rfl (fun h1 => ?_) (fun h1 => ?_)
    · exact K m  hI
    · exact absurd (Int32.le_refl _) h1
  | succ k ih =>
    intro j m  hj9 hI
    have hlt9 : j < L := by omega
    refine Wp.run 3 (75, [(0, .ref 66), (1, .int (nI j))], [.int (m 66 10), .int (nI j)], (zsh ++ vs, m, ml, (zmr g))) rfl ?_
    rw [show m 66 10 = nI L from by rw [hI.1 66 (by decide)]; exact hL]
    refine Wp.run 0 (75, [(0, .ref 66), (1, .int (nI j))], [.int (nI L), .int (nI j)], (zsh ++ vs, m, ml, (zmr g))) rfl ?_
    refine Wp.icmp_ge rfl (fun h1 => ?_) (fun h1 => ?_)
    · exact absurd h1 (nI_ge hlt9 hn9)
    · refine Wp.run 5 (88, [(0, .ref 66), (1, .int (nI j))], [.int (m 66 8), .int 100, .ref 71], (zsh ++ vs, m, ml, (zmr g))) rfl ?_
      rw [show m 66 8 = nI nv from by rw [hI.1 66 (by decide)]; exact hnv]
      refine Wp.run 3 (91, [(0, .ref 66), (1, .int (nI j))], [.int ((100 * (nI nv)) + (nI j)), .ref 71], (zsh ++ vs, m, ml, (zmr g))) rfl ?_
      rw [ix_100]
      refine Wp.run 3 (96, [(0, .ref 66), (1, .int (nI j))], [.int (nI j), .ref 73, .int (nI (100 * nv + j)), .ref 71], (zsh ++ vs, m, ml, (zmr g))) rfl ?_
      refine Wp.ialn rfl (by decide) rfl (by omega) (by decide) ?_
      refine Wp.iasn rfl (by decide) rfl (by omega) (by decide) ?_
      refine Wp.run 2 (70, [(1, .int ((nI j) + 1)), (0, .ref 66)], [], (zsh ++ vs, (zup m 71 (100 * nv + j) (m 73 j)), ml, (zmr g))) rfl ?_
      rw [nI_1]
      refine Wp.sub (a := [(0, .ref 66), (1, .int (nI (j + 1)))]) (zle_cons rfl (zle_cons rfl (zle_nil))) ?_
      refine ih (j + 1) _ (by omega) ⟨fun b hb => ?_, fun q hq => ?_, fun x hx => ?_⟩
      · rw [zup_ne hb]; exact hI.1 b hb
      · by_cases hqj : q = j
        · subst hqj; simp only [zup, if_true]; rw [hI.1 73 (by decide)]
        · simp only [zup, if_true, if_neg (show ¬ 100 * nv + q = 100 * nv + j by omega)]; exact hI.2.1 q (by omega)
      · simp only [zup, if_true, if_neg (show ¬ x = 100 * nv + j by omega)]; exact hI.2.2 x (by omega)
theorem m_readFor {E : zEn} {X71 X72 : Nat → Int32} {nv : Nat} (h6 : nv ≤ 6) {VD : Nat → zV} {NL : Nat → Nat} (hV : VT X71 X72 nv VD NL) : RFs E X71 X72 (rvV nv) (smV VD) (anV VD) := by
  intro vs mi ml g i dd hi hdd hd h71 h72 hrv
  rcases hrv with h0 | ⟨k, hk, hk1⟩
  · refine Wp.run 11 (15, [(0, .ref 66), (1, .int (nI i))], [.int 0, .int (nI i), .ref 66, .int 1, .ref 74], (zsh ++ vs, (zup mi 74 0 (nI i)), ml, (zmr g))) rfl ?_
    refine Wp.call (as := [.ref 66, .int (nI i), .int 0]) (rest := [.int 1, .ref 74]) rfl rfl rfl rfl rfl (Nat.le_of_ble_eq_true rfl) (Nat.le_of_ble_eq_true rfl) rfl (by decide) (m_one i 0 (by omega)) ?_
    rintro _ _ ⟨rfl, rfl⟩
    refine Wp.run 7 (27, [(0, .ref 66), (1, .int (nI i))], [.int 1, .int (nI i), .ref 66, .int 2, .ref 74], (zsh ++ vs, (zup (zup mi 74 0 (nI i)) 74 1 (mi 67 (8 + 10 * i + 0))), ml, (zmr g))) rfl ?_
    refine Wp.call (as := [.ref 66, .int (nI i), .int 1]) (rest := [.int 2, .ref 74]) rfl rfl rfl rfl rfl (Nat.le_of_ble_eq_true rfl) (Nat.le_of_ble_eq_true rfl) rfl (by decide) (m_one i 1 (by omega)) ?_
    rintro _ _ ⟨rfl, rfl⟩
    refine Wp.run 7 (39, [(0, .ref 66), (1, .int (nI i))], [.int 2, .int (nI i), .ref 66, .int 3, .ref 74], (zsh ++ vs, (zup (zup (zup mi 74 0 (nI i)) 74 1 (mi 67 (8 + 10 * i + 0))) 74 2 (mi 67 (8 + 10 * i + 1))), ml, (zmr g))) rfl ?_
    refine Wp.call (as := [.ref 66, .int (nI i), .int 2]) (rest := [.int 3, .ref 74]) rfl rfl rfl rfl rfl (Nat.le_of_ble_eq_true rfl) (Nat.le_of_ble_eq_true rfl) rfl (by decide) (m_one i 2 (by omega)) ?_
    rintro _ _ ⟨rfl, rfl⟩
    refine Wp.run 0 (42, [(0, .ref 66), (1, .int (nI i))], [.int (mi 67 (8 + 10 * i + 2)), .int 3, .ref 74], (zsh ++ vs, (zup (zup (zup mi 74 0 (nI i)) 74 1 (mi 67 (8 + 10 * i + 0))) 74 2 (mi 67 (8 + 10 * i + 1))), ml, (zmr g))) rfl ?_
    refine Wp.call (as := [.int (mi 67 (8 + 10 * i + 2))]) (rest := [.int 3, .ref 74]) rfl rfl rfl rfl rfl (Nat.le_of_ble_eq_true rfl) (Nat.le_of_ble_eq_true rfl) rfl (by decide) (m_many (mi 67 (8 + 10 * i + 2))) ?_
    rintro _ _ ⟨rfl, rfl⟩
    refine Wp.run 7 (54, [(0, .ref 66), (1, .int (nI i))], [.int 3, .int (nI i), .ref 66, .int 4, .ref 74], (zsh ++ vs, (zup (zup (zup (zup mi 74 0 (nI i)) 74 1 (mi 67 (8 + 10 * i + 0))) 74 2 (mi 67 (8 + 10 * i + 1))) 74 3 (zmany (mi 67 (8 + 10 * i + 2)))), ml, (zmr g))) rfl ?_
    refine Wp.call (as := [.ref 66, .int (nI i), .int 3]) (rest := [.int 4, .ref 74]) rfl rfl rfl rfl rfl (Nat.le_of_ble_eq_true rfl) (Nat.le_of_ble_eq_true rfl) rfl (by decide) (m_one i 3 (by omega)) ?_
    rintro _ _ ⟨rfl, rfl⟩
    refine Wp.run 10 (73, [(0, .ref 66), (1, .int (nI i))], [.int (mi 67 69), .int 5, .ref 74], (zsh ++ vs, (zup (zup (zup (zup (zup mi 74 0 (nI i)) 74 1 (mi 67 (8 + 10 * i + 0))) 74 2 (mi 67 (8 + 10 * i + 1))) 74 3 (zmany (mi 67 (8 + 10 * i + 2)))) 74 4 ((mi 67 (8 + 10 * i + 3)) / 10)), ml, (zmr g))) rfl ?_
    rw [hd]
    refine Wp.run 2 (76, [(0, .ref 66), (1, .int (nI i))], [.int ((nI dd) - (nI dd) / 10 * 10), .int 5, .ref 74], (zsh ++ vs, (zup (zup (zup (zup (zup mi 74 0 (nI i)) 74 1 (mi 67 (8 + 10 * i + 0))) 74 2 (mi 67 (8 + 10 * i + 1))) 74 3 (zmany (mi 67 (8 + 10 * i + 2)))) 74 4 ((mi 67 (8 + 10 * i + 3)) / 10)), ml, (zmr g))) rfl ?_
    rw [show nI dd - nI dd / 10 * 10 = nI (dd % 10) from pk_rem (d := 10) (by omega) (by decide) (by decide)]
    refine Wp.run 1 (77, [(0, .ref 66), (1, .int (nI i))], [], (zsh ++ vs, (zup (zup (zup (zup (zup (zup mi 74 0 (nI i)) 74 1 (mi 67 (8 + 10 * i + 0))) 74 2 (mi 67 (8 + 10 * i + 1))) 74 3 (zmany (mi 67 (8 + 10 * i + 2)))) 74 4 ((mi 67 (8 + 10 * i + 3)) / 10)) 74 5 (nI (dd % 10))), ml, (zmr g))) rfl ?_
    obtain ⟨m1, hm1⟩ : ∃ m9, m9 = (zup (zup (zup (zup (zup (zup mi 74 0 (nI i)) 74 1 (mi 67 (8 + 10 * i + 0))) 74 2 (mi 67 (8 + 10 * i + 1))) 74 3 (zmany (mi 67 (8 + 10 * i + 2)))) 74 4 ((mi 67 (8 + 10 * i + 3)) / 10)) 74 5 (nI (dd % 10))) := ⟨_, rfl⟩
    rw [← hm1]
    have n1 : ∀ b, ¬ b = 74 → m1 b = mi b := fun b hb => by rw [hm1, zup_ne hb, zup_ne hb, zup_ne hb, zup_ne hb, zup_ne hb, zup_ne hb]
    have n2 : ∀ f, f < 6 → m1 74 f = nmU (uN (mi 67)) dd i f := by
      intro f hf
      rw [hm1]
      rcases (show f = 0 ∨ f = 1 ∨ f = 2 ∨ f = 3 ∨ f = 4 ∨ f = 5 by omega) with rfl | rfl | rfl | rfl | rfl | rfl <;> rfl
    refine Wp.run 4 (84, [(0, .ref 66), (1, .int (nI i))], [.int (m1 67 70)], (zsh ++ vs, m1, ml, (zmr g))) rfl ?_
    rw [show m1 67 70 = 0 from by rw [n1 67 (by decide)]; exact h0]
    refine Wp.run 7 (95, [(0, .ref 66), (1, .int (nI i))], [.int (m1 74 3), .int 2, .ref 66], (zsh ++ vs, m1, ml, (zmr g))) rfl ?_
    rw [n2 3 (by decide)]
    refine Wp.run 5 (105, [(0, .ref 66), (1, .int (nI i))], [], (zsh ++ vs, (zup (zup m1 66 14 (2 * (nmU (uN (mi 67)) dd i 3))) 66 15 50), ml, (zmr g))) rfl ?_
    refine Wp.ret rfl rfl rfl ?_
    refine ⟨rfl, _, rfl, ⟨fun a p q r => ?_, fun x hx => ?_⟩, ?_, ?_⟩
    · show zup (zup m1 66 14 _) 66 15 _ a = _
      rw [zup_ne p, zup_ne p, n1 a r]
    · show zup (zup m1 66 14 _) 66 15 _ 66 x = _
      simp only [zup, if_true, if_neg (show ¬ x = 14 by omega), if_neg (show ¬ x = 15 by omega)]
      rw [n1 66 (by decide)]
    · rw [h0, smV, if_pos rfl]; rfl
    · rw [h0, anV, if_pos rfl]; rfl
  · have hv := hV k hk
    refine Wp.run 11 (15, [(0, .ref 66), (1, .int (nI i))], [.int 0, .int (nI i), .ref 66, .int 1, .ref 74], (zsh ++ vs, (zup mi 74 0 (nI i)), ml, (zmr g))) rfl ?_
    refine Wp.call (as := [.ref 66, .int (nI i), .int 0]) (rest := [.int 1, .ref 74]) rfl rfl rfl rfl rfl (Nat.le_of_ble_eq_true rfl) (Nat.le_of_ble_eq_true rfl) rfl (by decide) (m_one i 0 (by omega)) ?_
    rintro _ _ ⟨rfl, rfl⟩
    refine Wp.run 7 (27, [(0, .ref 66), (1, .int (nI i))], [.int 1, .int (nI i), .ref 66, .int 2, .ref 74], (zsh ++ vs, (zup (zup mi 74 0 (nI i)) 74 1 (mi 67 (8 + 10 * i + 0))), ml, (zmr g))) rfl ?_
    refine Wp.call (as := [.ref 66, .int (nI i), .int 1]) (rest := [.int 2, .ref 74]) rfl rfl rfl rfl rfl (Nat.le_of_ble_eq_true rfl) (Nat.le_of_ble_eq_true rfl) rfl (by decide) (m_one i 1 (by omega)) ?_
    rintro _ _ ⟨rfl, rfl⟩
    refine Wp.run 7 (39, [(0, .ref 66), (1, .int (nI i))], [.int 2, .int (nI i), .ref 66, .int 3, .ref 74], (zsh ++ vs, (zup (zup (zup mi 74 0 (nI i)) 74 1 (mi 67 (8 + 10 * i + 0))) 74 2 (mi 67 (8 + 10 * i + 1))), ml, (zmr g))) rfl ?_
    refine Wp.call (as := [.ref 66, .int (nI i), .int 2]) (rest := [.int 3, .ref 74]) rfl rfl rfl rfl rfl (Nat.le_of_ble_eq_true rfl) (Nat.le_of_ble_eq_true rfl) rfl (by decide) (m_one i 2 (by omega)) ?_
    rintro _ _ ⟨rfl, rfl⟩
    refine Wp.run 0 (42, [(0, .ref 66), (1, .int (nI i))], [.int (mi 67 (8 + 10 * i + 2)), .int 3, .ref 74], (zsh ++ vs, (zup (zup (zup mi 74 0 (nI i)) 74 1 (mi 67 (8 + 10 * i + 0))) 74 2 (mi 67 (8 + 10 * i + 1))), ml, (zmr g))) rfl ?_
    refine Wp.call (as := [.int (mi 67 (8 + 10 * i + 2))]) (rest := [.int 3, .ref 74]) rfl rfl rfl rfl rfl (Nat.le_of_ble_eq_true rfl) (Nat.le_of_ble_eq_true rfl) rfl (by decide) (m_many (mi 67 (8 + 10 * i + 2))) ?_
    rintro _ _ ⟨rfl, rfl⟩
    refine Wp.run 7 (54, [(0, .ref 66), (1, .int (nI i))], [.int 3, .int (nI i), .ref 66, .int 4, .ref 74], (zsh ++ vs, (zup (zup (zup (zup mi 74 0 (nI i)) 74 1 (mi 67 (8 + 10 * i + 0))) 74 2 (mi 67 (8 + 10 * i + 1))) 74 3 (zmany (mi 67 (8 + 10 * i + 2)))), ml, (zmr g))) rfl ?_
    refine Wp.call (as := [.ref 66, .int (nI i), .int 3]) (rest := [.int 4, .ref 74]) rfl rfl rfl rfl rfl (Nat.le_of_ble_eq_true rfl) (Nat.le_of_ble_eq_true rfl) rfl (by decide) (m_one i 3 (by omega)) ?_
    rintro _ _ ⟨rfl, rfl⟩
    refine Wp.run 10 (73, [(0, .ref 66), (1, .int (nI i))], [.int (mi 67 69), .int 5, .ref 74], (zsh ++ vs, (zup (zup (zup (zup (zup mi 74 0 (nI i)) 74 1 (mi 67 (8 + 10 * i + 0))) 74 2 (mi 67 (8 + 10 * i + 1))) 74 3 (zmany (mi 67 (8 + 10 * i + 2)))) 74 4 ((mi 67 (8 + 10 * i + 3)) / 10)), ml, (zmr g))) rfl ?_
    rw [hd]
    refine Wp.run 2 (76, [(0, .ref 66), (1, .int (nI i))], [.int ((nI dd) - (nI dd) / 10 * 10), .int 5, .ref 74], (zsh ++ vs, (zup (zup (zup (zup (zup mi 74 0 (nI i)) 74 1 (mi 67 (8 + 10 * i + 0))) 74 2 (mi 67 (8 + 10 * i + 1))) 74 3 (zmany (mi 67 (8 + 10 * i + 2)))) 74 4 ((mi 67 (8 + 10 * i + 3)) / 10)), ml, (zmr g))) rfl ?_
    rw [show nI dd - nI dd / 10 * 10 = nI (dd % 10) from pk_rem (d := 10) (by omega) (by decide) (by decide)]
    refine Wp.run 1 (77, [(0, .ref 66), (1, .int (nI i))], [], (zsh ++ vs, (zup (zup (zup (zup (zup (zup mi 74 0 (nI i)) 74 1 (mi 67 (8 + 10 * i + 0))) 74 2 (mi 67 (8 + 10 * i + 1))) 74 3 (zmany (mi 67 (8 + 10 * i + 2)))) 74 4 ((mi 67 (8 + 10 * i + 3)) / 10)) 74 5 (nI (dd % 10))), ml, (zmr g))) rfl ?_
    obtain ⟨m1, hm1⟩ : ∃ m9, m9 = (zup (zup (zup (zup (zup (zup mi 74 0 (nI i)) 74 1 (mi 67 (8 + 10 * i + 0))) 74 2 (mi 67 (8 + 10 * i + 1))) 74 3 (zmany (mi 67 (8 + 10 * i + 2)))) 74 4 ((mi 67 (8 + 10 * i + 3)) / 10)) 74 5 (nI (dd % 10))) := ⟨_, rfl⟩
    rw [← hm1]
    have n1 : ∀ b, ¬ b = 74 → m1 b = mi b := fun b hb => by rw [hm1, zup_ne hb, zup_ne hb, zup_ne hb, zup_ne hb, zup_ne hb, zup_ne hb]
    have n2 : ∀ f, f < 6 → m1 74 f = nmU (uN (mi 67)) dd i f := by
      intro f hf
      rw [hm1]
      rcases (show f = 0 ∨ f = 1 ∨ f = 2 ∨ f = 3 ∨ f = 4 ∨ f = 5 by omega) with rfl | rfl | rfl | rfl | rfl | rfl <;> rfl
    refine Wp.run 4 (84, [(0, .ref 66), (1, .int (nI i))], [.int (m1 67 70)], (zsh ++ vs, m1, ml, (zmr g))) rfl ?_
    rw [show m1 67 70 = nI (k + 1) from by rw [n1 67 (by decide)]; exact hk1]
    refine Wp.run 0 (84, [(0, .ref 66), (1, .int (nI i))], [.int (nI (k + 1))], (zsh ++ vs, m1, ml, (zmr g))) rfl ?_
    refine Wp.if_ne rfl (fun h1 => ?_) (fun h1 => ?_)
    · refine Wp.run 4 (113, [(0, .ref 66), (1, .int (nI i))], [.int (m1 67 70)], (zsh ++ vs, m1, ml, (zmr g))) rfl ?_
      rw [show m1 67 70 = nI (k + 1) from by rw [n1 67 (by decide)]; exact hk1]
      refine Wp.run 2 (115, [(0, .ref 66), (1, .int (nI i))], [.int ((nI (k + 1)) - 1)], (zsh ++ vs, m1, ml, (zmr g))) rfl ?_
      rw [nI_pred]
      refine Wp.run 5 (122, [(2, .int (nI k)), (0, .ref 66), (1, .int (nI i))], [.int (nI k), .ref 72, .ref 66], (zsh ++ vs, m1, ml, (zmr g))) rfl ?_
      refine Wp.ialn rfl (by decide) rfl (by omega) (by decide) ?_
      refine Wp.run 0 (123, [(2, .int (nI k)), (0, .ref 66), (1, .int (nI i))], [.int (m1 72 k), .ref 66], (zsh ++ vs, m1, ml, (zmr g))) rfl ?_
      rw [show m1 72 k = nI (NL k) from by rw [n1 72 (by decide), h72.1]; exact hv.2.1]
      refine Wp.run 3 (128, [(3, .int 0), (2, .int (nI k)), (0, .ref 66), (1, .int (nI i))], [], (zsh ++ vs, (zup m1 66 10 (nI (NL k))), ml, (zmr g))) rfl ?_
      obtain ⟨m2, hm2⟩ : ∃ m9, m9 = zup m1 66 10 (nI (NL k)) := ⟨_, rfl⟩
      rw [← hm2]
      have o1 : ∀ b, ¬ b = 66 → m2 b = m1 b := fun b hb => by rw [hm2, zup_ne hb]
      have o2 : m2 66 10 = nI (NL k) := by rw [hm2]; simp only [zup, if_true]
      have o3 : ∀ x, ¬ x = 10 → m2 66 x = m1 66 x := fun x hx => by rw [hm2]; simp only [zup, if_true, if_neg hx]
      refine Wp.sub (a := [(0, .ref 66), (1, .int (nI i)), (2, .int (nI k)), (3, .int (nI 0))]) (zle_cons rfl (zle_cons rfl (zle_cons rfl (zle_cons rfl (zle_nil))))) ?_
      refine m_rf_l (i := i) (k0 := k) (L := NL k) (by omega) o2 hv.1 (by omega) (fun m3 hI => ?_) (NL k) 0 m2 (by omega) ⟨fun b hb => rfl, fun q hq => absurd hq (by omega)⟩
      have R3 : RM (fun j => X71 (100 * k + j)) (NL k) (nmU (uN (mi 67)) dd i) m3 := by
        refine ⟨by rw [hI.1 66 (by decide)]; exact o2, hv.1, fun q hq => ?_, fun f hf => ?_, ?_⟩
        · rw [hI.2 q hq, o1 71 (by decide), n1 71 (by decide), h71]
        · rw [hI.1 74 (by decide), o1 74 (by decide)]; exact n2 f hf
        · exact h72.2.fr (fun a ha => by rw [hI.1 a (by omega), o1 a (by omega), n1 a (by omega)])
      refine Wp.run 1 (160, [(0, .ref 66), (1, .int (nI i)), (2, .int (nI k)), (3, .int (nI (NL k)))], [.ref 66], (zsh ++ vs, m3, ml, (zmr g))) rfl ?_
      refine Wp.call (as := [.ref 66]) (rest := []) rfl rfl rfl rfl rfl (Nat.le_of_ble_eq_true rfl) (Nat.le_of_ble_eq_true rfl) rfl (by decide) (m_readAll R3) ?_
      rintro _ _ ⟨m4, d4, rfl, hc⟩
      rw [hv.2.2] at hc
      rcases hc with ⟨U, hU, rfl, H4⟩ | ⟨hU, -, -⟩
      rotate_left
      · cases hU
      cases (show VD k = U from Option.some.inj hU)
      refine Wp.run 1 (164, [(0, .ref 66), (1, .int (nI i)), (2, .int (nI k)), (3, .int (nI (NL k)))], [], (zsh ++ vs, m4, ml, (zmr g))) rfl ?_
      refine Wp.ret rfl rfl rfl ?_
      refine ⟨rfl, _, rfl, ⟨fun a p q r => ?_, fun x hx => ?_⟩, ?_, ?_⟩
      · show m4 a = mi a
        rw [H4.1 a p, hI.1 a q, o1 a p, n1 a r]
      · show m4 66 x = mi 66 x
        rw [H4.2.1 x (by omega), hI.1 66 (by decide), o3 x (by omega), n1 66 (by decide)]
      · show m4 66 14 = _
        rw [hk1, smV_k (by omega)]; exact H4.2.2.2.2.2.1
      · show m4 66 15 = _
        rw [hk1, anV_k (by omega)]; exact H4.2.2.2.2.2.2
    · exact absurd h1 (nI_ne0 (by omega) (by omega))
theorem m_village_full {E : zEn} {vs : List (Nat × Nat)} {mi : Nat → Nat → Int32} {ml : Nat → Nat → Int64} {g : Nat → Nat → Option Nat} (hnv : mi 66 8 = nI 6) : Wp E 0 pg_M_village 0 (lv_args 0 [.ref 66]) [] (zsh ++ vs, mi, ml, (zmr g)) (fun r w' => r = some (.int (-4)) ∧ w' = (zsh ++ vs, mi, ml, zmr g)) := by
  refine Wp.run 2 (4, [(0, .ref 66)], [.int (mi 66 8)], (zsh ++ vs, mi, ml, (zmr g))) rfl ?_
  rw [hnv]
  refine Wp.run 3 (11, [(0, .ref 66)], [.int (-4)], (zsh ++ vs, mi, ml, (zmr g))) rfl ?_
  refine Wp.ret rfl rfl rfl ?_
  exact ⟨rfl, rfl⟩
theorem m_village {E : zEn} {vs : List (Nat × Nat)} {mi : Nat → Nat → Int32} {ml : Nat → Nat → Int64} {g : Nat → Nat → Option Nat} {nv L : Nat} (hnv : mi 66 8 = nI nv) (h6 : nv < 6) (hL : mi 66 5 = nI L) (hL100 : L ≤ 100) (hC : kC mi) : Wp E 22 pg_M_village 0 (lv_args 0 [.ref 66]) [] (zsh ++ vs, mi, ml, zmr g) (fun r w' => ∃ m, w' = (zsh ++ vs, m, ml, zmr g) ∧ (∀ a, ¬ a = 66 → ¬ a = 67 → ¬ a = 71 → ¬ a = 72 → ¬ a = 73 → m a = mi a) ∧ (∀ k, (k < 5 ∨ k = 6 ∨ k = 7 ∨ k = 9 ∨ 15 < k) → m 66 k = mi 66 k) ∧ m 66 5 = 0 ∧ ((∃ q, zcsa (mi 70) L 10 ([], fun _ => 0, 50) 0 = (none, q) ∧ r = some (.int (-10 - nI q)) ∧ m 66 8 = nI nv ∧ m 67 = mi 67 ∧ m 71 = mi 71 ∧ m 72 = mi 72) ∨ ∃ U q, zcsa (mi 70) L 10 ([], fun _ => 0, 50) 0 = (some U, q) ∧ r = some (.int (nI nv)) ∧ m 66 8 = nI (nv + 1) ∧ m 67 = upd (mi 67) 70 (nI (nv + 1)) ∧ (∀ j, j < L → m 71 (100 * nv + j) = mi 70 j) ∧ (∀ x, (x < 100 * nv ∨ 100 * nv + L ≤ x) → m 71 x = mi 71 x) ∧ m 72 = upd (mi 72) nv (nI L))) := by
  refine Wp.run 2 (4, [(0, .ref 66)], [.int (mi 66 8)], (zsh ++ vs, mi, ml, (zmr g))) rfl ?_
  rw [hnv]
  refine Wp.run 1 (6, [(0, .ref 66)], [.int 6, .int (nI nv)], (zsh ++ vs, mi, ml, (zmr g))) rfl ?_
  refine Wp.icmp_ne rfl (fun h1 => ?_) (fun h1 => ?_)
  · refine Wp.run 3 (17, [(0, .ref 66)], [.int (mi 66 5), .ref 66], (zsh ++ vs, mi, ml, (zmr g))) rfl ?_
    rw [hL]
    refine Wp.run 3 (22, [(1, .int 0), (0, .ref 66)], [], (zsh ++ vs, (zup mi 66 10 (nI L)), ml, (zmr g))) rfl ?_
    obtain ⟨m1, hm1⟩ : ∃ m9, m9 = (zup mi 66 10 (nI L)) := ⟨_, rfl⟩
    rw [← hm1]
    have o1 : ∀ b, ¬ b = 66 → m1 b = mi b := fun b hb => by rw [hm1, zup_ne hb]
    have o2 : m1 66 10 = nI L := by rw [hm1]; simp only [zup, if_true]
    have o3 : ∀ x, ¬ x = 10 → m1 66 x = mi 66 x := fun x hx => by rw [hm1]; simp only [zup, if_true, if_neg hx]
    refine Wp.sub (a := [(0, .ref 66), (1, .int (nI 0))]) (zle_cons rfl (zle_cons rfl (zle_nil))) ?_
    refine m_vi_l1 (L := L) o2 hL100 (by omega) (fun m2 hI => ?_) L 0 m1 (by omega) ⟨fun b hb => rfl, fun q hq => absurd hq (by omega)⟩
    refine Wp.run 3 (53, [(0, .ref 66), (1, .int (nI L))], [], (zsh ++ vs, (zup m2 66 5 0), ml, (zmr g))) rfl ?_
    obtain ⟨m3, hm3⟩ : ∃ m9, m9 = (zup m2 66 5 0) := ⟨_, rfl⟩
    rw [← hm3]
    have p1 : ∀ b, ¬ b = 66 → m3 b = m2 b := fun b hb => by rw [hm3, zup_ne hb]
    have p2 : m3 66 5 = 0 := by rw [hm3]; simp only [zup, if_true]
    have p3 : ∀ x, ¬ x = 5 → m3 66 x = m2 66 x := fun x hx => by rw [hm3]; simp only [zup, if_true, if_neg hx]
    have R3 : RM (mi 70) L (mi 74) m3 := by
      refine ⟨by rw [p3 10 (by decide), hI.1 66 (by decide)]; exact o2, hL100, fun q hq => ?_, fun f hf => ?_, ?_⟩
      · rw [p1 73 (by decide), hI.2 q hq, o1 70 (by decide)]
      · rw [p1 74 (by decide), hI.1 74 (by decide), o1 74 (by decide)]
      · exact hC.fr (fun a ha => by rw [p1 a (by omega), hI.1 a (by omega), o1 a (by omega)])
    refine Wp.run 1 (54, [(0, .ref 66), (1, .int (nI L))], [.ref 66], (zsh ++ vs, m3, ml, (zmr g))) rfl ?_
    refine Wp.call (as := [.ref 66]) (rest := []) rfl rfl rfl rfl rfl (Nat.le_of_ble_eq_true rfl) (Nat.le_of_ble_eq_true rfl) rfl (by decide) (m_readAll R3) ?_
    rintro _ _ ⟨m4, d4, rfl, hc⟩
    have q1 : ∀ a, ¬ a = 66 → ¬ a = 73 → ∀ (H : ∀ b, ¬ b = 66 → m4 b = m3 b), m4 a = mi a := fun a p q H => by rw [H a p, p1 a p, hI.1 a q, o1 a p]
    have q2 : ∀ x, ¬ x = 5 → ¬ x = 10 → (x < 11 ∨ 15 < x) → ∀ (H : ∀ k, (k < 11 ∨ 15 < k) → m4 66 k = m3 66 k), m4 66 x = mi 66 x := fun x p q r H => by rw [H x r, p3 x p, hI.1 66 (by decide), o3 x q]
    rcases hz : zcsa (mi 70) L 10 ([], fun _ => 0, 50) 0 with ⟨o9, q9⟩
    rw [hz] at hc
    rcases hc with ⟨U, hU, rfl, H4⟩ | ⟨hU, rfl, wl4, s4, a4, H4⟩
    · cases (show o9 = some U from hU)
      refine Wp.run 3 (70, [(1, .int 0), (0, .ref 66)], [], (zsh ++ vs, m4, ml, (zmr g))) rfl ?_
      refine Wp.sub (a := [(0, .ref 66), (1, .int (nI 0))]) (zle_cons rfl (zle_cons rfl (zle_nil))) ?_
      have nv4 : m4 66 8 = nI nv := (q2 8 (by decide) (by decide) (by omega) H4.2.1).trans hnv
      have L4 : m4 66 10 = nI L := by rw [H4.2.1 10 (by omega)]; exact R3.1
      refine m_vi_l2 (L := L) (nv := nv) nv4 h6 L4 hL100 (by omega) (fun m5 hJ => ?_) L 0 m4 (by omega) ⟨fun b hb => rfl, fun q hq => absurd hq (by omega), fun x hx => rfl⟩
      refine Wp.run 4 (112, [(0, .ref 66), (1, .int (nI L))], [.int (m5 66 8), .ref 72], (zsh ++ vs, m5, ml, (zmr g))) rfl ?_
      rw [show m5 66 8 = nI nv from by rw [hJ.1 66 (by decide)]; exact nv4]
      refine Wp.run 2 (116, [(0, .ref 66), (1, .int (nI L))], [.int (m5 66 10), .int (nI nv), .ref 72], (zsh ++ vs, m5, ml, (zmr g))) rfl ?_
      rw [show m5 66 10 = nI L from by rw [hJ.1 66 (by decide)]; exact L4]
      refine Wp.iasn rfl (by decide) rfl (by omega) (by decide) ?_
      refine Wp.run 3 (122, [(0, .ref 66), (1, .int (nI L))], [.int (m5 66 8), .ref 66], (zsh ++ vs, (zup m5 72 nv (nI L)), ml, (zmr g))) rfl ?_
      rw [show m5 66 8 = nI nv from by rw [hJ.1 66 (by decide)]; exact nv4]
      refine Wp.run 2 (124, [(0, .ref 66), (1, .int (nI L))], [.int ((nI nv) + 1), .ref 66], (zsh ++ vs, (zup m5 72 nv (nI L)), ml, (zmr g))) rfl ?_
      rw [nI_1]
      refine Wp.run 11 (144, [(0, .ref 66), (1, .int (nI L))], [.int ((nI (nv + 1)) - 1)], (zsh ++ vs, (zup (zup (zup m5 72 nv (nI L)) 66 8 (nI (nv + 1))) 67 70 (nI (nv + 1))), ml, (zmr g))) rfl ?_
      rw [nI_pred]
      refine Wp.run 0 (144, [(0, .ref 66), (1, .int (nI L))], [.int (nI nv)], (zsh ++ vs, (zup (zup (zup m5 72 nv (nI L)) 66 8 (nI (nv + 1))) 67 70 (nI (nv + 1))), ml, (zmr g))) rfl ?_
      refine Wp.ret rfl rfl rfl ?_
      refine ⟨_, rfl, fun a p r s t q => ?_, fun k hk => ?_, ?_, Or.inr ⟨U, q9, rfl, rfl, ?_, ?_, ?_, ?_, ?_⟩⟩
      · show (zup (zup (zup m5 72 nv (nI L)) 66 8 (nI (nv + 1))) 67 70 (nI (nv + 1))) a = mi a
        rw [zup_ne r, zup_ne p, zup_ne t, hJ.1 a s]; exact q1 a p q H4.1
      · show (zup (zup (zup m5 72 nv (nI L)) 66 8 (nI (nv + 1))) 67 70 (nI (nv + 1))) 66 k = mi 66 k
        rw [zup_ne (by decide)]
        simp only [zup, if_true, if_neg (show ¬ k = 8 by omega), if_neg (show ¬ 66 = 72 by decide)]
        rw [hJ.1 66 (by decide)]; exact q2 k (by omega) (by omega) (by omega) H4.2.1
      · show m5 66 5 = 0
        rw [hJ.1 66 (by decide), H4.2.1 5 (by omega)]; exact p2
      · rfl
      · show (zup (zup (zup m5 72 nv (nI L)) 66 8 (nI (nv + 1))) 67 70 (nI (nv + 1))) 67 = _
        rw [zup_eq, zup_ne (by decide), zup_ne (by decide), hJ.1 67 (by decide), q1 67 (by decide) (by decide) H4.1]
      · intro j hj
        show m5 71 (100 * nv + j) = _
        rw [hJ.2.1 j hj, H4.1 73 (by decide)]; exact R3.2.2.1 j hj
      · intro x hx
        show m5 71 x = _
        rw [hJ.2.2 x hx, q1 71 (by decide) (by decide) H4.1]
      · show (zup (zup (zup m5 72 nv (nI L)) 66 8 (nI (nv + 1))) 67 70 (nI (nv + 1))) 72 = _
        rw [zup_ne (by decide), zup_ne (by decide), zup_eq, hJ.1 72 (by decide), q1 72 (by decide) (by decide) H4.1]
    · cases (show o9 = none from hU)
      refine Wp.run 4 (66, [(0, .ref 66), (1, .int (nI L))], [.int (m4 66 11), .int (-10)], (zsh ++ vs, m4, ml, (zmr g))) rfl ?_
      rw [show m4 66 11 = nI q9 from H4.2.2.1]
      refine Wp.run 1 (67, [(0, .ref 66), (1, .int (nI L))], [.int ((-10) - (nI q9))], (zsh ++ vs, m4, ml, (zmr g))) rfl ?_
      refine Wp.ret rfl rfl rfl ?_
      refine ⟨_, rfl, fun a p _ _ _ q => q1 a p q H4.1, fun k hk => q2 k (by omega) (by omega) (by omega) H4.2.1, ?_, Or.inl ⟨q9, rfl, rfl, ?_, ?_, ?_, ?_⟩⟩
      · show m4 66 5 = 0
        rw [H4.2.1 5 (by omega)]; exact p2
      · exact (q2 8 (by decide) (by decide) (by omega) H4.2.1).trans hnv
      · exact q1 67 (by decide) (by decide) H4.1
      · exact q1 71 (by decide) (by decide) H4.1
      · exact q1 72 (by decide) (by decide) H4.1
  · exact absurd ((nI_eq (b := 6) (by omega) (by decide)).mp h1) (by omega)
