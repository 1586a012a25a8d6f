/-! THE REFERENCE: a day -/
/-- Math.max(0, Math.min(99, m - s)) -/
abbrev fadeV (m s : Int32) : Int32 := if 0 < (if m - s < 99 then m - s else 99) then (if m - s < 99 then m - s else 99) else 0
/-- a singer behind the day, s its strain, ag what one has who begins again -/
def dayU (u : Nat → Nat → Int32) (s : Nat → Int32) (ag : Int32) (k f : Nat) : Int32 :=
  if u k 4 = 0 then
    (if fadeV (u k 3) (s k) = 0 ∧ ¬ u k 2 = 0 then (if f = 2 then u k 2 &&& (u k 2 - 1) else if f = 3 then ag else if f = 5 then u k 5 + 1 else u k f)
     else if f = 3 then fadeV (u k 3) (s k) else u k f)
  else u k f
/-- the row, the first j singers of it behind the day -/
def dayR (N : Nat → Int32) (s : Nat → Int32) (ag : Int32) (j : Nat) : Nat → Int32 := fun i => if 8 ≤ i ∧ i < 8 + 10 * j then dayU (uN N) s ag ((i - 8) / 10) ((i - 8) % 10) else N i
theorem dayR_0 {N s : Nat → Int32} {ag : Int32} : dayR N s ag 0 = N := by
  funext i
  unfold dayR
  rw [if_neg (by omega)]
theorem dayR_hi {N s : Nat → Int32} {ag : Int32} {j i : Nat} (h : 8 + 10 * j ≤ i) : dayR N s ag j i = N i := by
  unfold dayR
  rw [if_neg (by omega)]
theorem dayR_in {N s : Nat → Int32} {ag : Int32} {j f : Nat} (h : f < 10) : dayR N s ag (j + 1) (8 + 10 * j + f) = dayU (uN N) s ag j f := by
  unfold dayR
  rw [if_pos (by omega), show (8 + 10 * j + f - 8) / 10 = j by omega, show (8 + 10 * j + f - 8) % 10 = f by omega]
theorem dayR_out {N s : Nat → Int32} {ag : Int32} {j i : Nat} (h : i < 8 + 10 * j ∨ 8 + 10 * j + 10 ≤ i) : dayR N s ag (j + 1) i = dayR N s ag j i := by
  unfold dayR
  by_cases h1 : 8 ≤ i ∧ i < 8 + 10 * j
  · rw [if_pos h1, if_pos (by omega)]
  · rw [if_neg h1, if_neg (by omega)]
/-- a row that is right at the singer j and as before elsewhere -/
theorem dayR_step {N s M : Nat → Int32} {ag : Int32} {j : Nat} (h1 : ∀ f, f < 10 → M (8 + 10 * j + f) = dayU (uN N) s ag j f) (h2 : ∀ i, (i < 8 + 10 * j ∨ 8 + 10 * j + 10 ≤ i) → M i = dayR N s ag j i) : M = dayR N s ag (j + 1) := by
  funext i
  by_cases h : i < 8 + 10 * j ∨ 8 + 10 * j + 10 ≤ i
  · rw [dayR_out h, h2 i h]
  · obtain ⟨f, hf, rfl⟩ : ∃ f, f < 10 ∧ i = 8 + 10 * j + f := ⟨i - (8 + 10 * j), by omega, by omega⟩
    rw [dayR_in hf, h1 f hf]
theorem dayR_a {N s : Nat → Int32} {ag : Int32} {j : Nat} (h4 : ¬ N (8 + 10 * j + 4) = 0) : dayR N s ag j = dayR N s ag (j + 1) :=
  dayR_step (fun f hf => by rw [dayR_hi (by omega), dayU, if_neg h4]) (fun _ _ => rfl)
theorem dayR_b {N s : Nat → Int32} {ag : Int32} {j : Nat} (h4 : N (8 + 10 * j + 4) = 0) (h : ¬ (fadeV (N (8 + 10 * j + 3)) (s j) = 0 ∧ ¬ N (8 + 10 * j + 2) = 0)) : upd (dayR N s ag j) (8 + 10 * j + 3) (fadeV (N (8 + 10 * j + 3)) (s j)) = dayR N s ag (j + 1) := by
  refine dayR_step (fun f hf => ?_) (fun i hi => ?_)
  · rw [dayU, if_pos h4, if_neg h]
    by_cases h3 : f = 3
    · subst h3
      rw [if_pos rfl]
      simp only [upd, if_true]
    · rw [if_neg h3]
      simp only [upd, if_neg (show ¬ 8 + 10 * j + f = 8 + 10 * j + 3 by omega)]
      exact dayR_hi (by omega)
  · simp only [upd, if_neg (show ¬ i = 8 + 10 * j + 3 by omega)]
theorem dayR_c {N s : Nat → Int32} {ag : Int32} {j : Nat} (h4 : N (8 + 10 * j + 4) = 0) (h : fadeV (N (8 + 10 * j + 3)) (s j) = 0 ∧ ¬ N (8 + 10 * j + 2) = 0) (x : Int32) : upd (upd (upd (upd (dayR N s ag j) (8 + 10 * j + 3) x) (8 + 10 * j + 2) (N (8 + 10 * j + 2) &&& (N (8 + 10 * j + 2) - 1))) (8 + 10 * j + 5) (N (8 + 10 * j + 5) + 1)) (8 + 10 * j + 3) ag = dayR N s ag (j + 1) := by
  refine dayR_step (fun f hf => ?_) (fun i hi => ?_)
  · rw [dayU, if_pos h4, if_pos h]
    by_cases h3 : f = 3
    · subst h3
      simp [upd]
    · by_cases h5 : f = 5
      · subst h5
        simp [upd]
      · by_cases h2 : f = 2
        · subst h2
          simp [upd]
        · rw [if_neg h2, if_neg h3, if_neg h5]
          simp only [upd, if_neg (show ¬ 8 + 10 * j + f = 8 + 10 * j + 3 by omega), if_neg (show ¬ 8 + 10 * j + f = 8 + 10 * j + 5 by omega), if_neg (show ¬ 8 + 10 * j + f = 8 + 10 * j + 2 by omega)]
          exact dayR_hi (by omega)
  · simp only [upd, if_neg (show ¬ i = 8 + 10 * j + 3 by omega), if_neg (show ¬ i = 8 + 10 * j + 5 by omega), if_neg (show ¬ i = 8 + 10 * j + 2 by omega)]
/-- what a day leaves as it was -/
def zKep2 (mi m : Nat → Nat → Int32) : Prop := (∀ a, ¬ a = 66 → ¬ a = 73 → ¬ a = 74 → ¬ a = 78 → m a = mi a) ∧ ∀ k, (k < 10 ∨ 15 < k) → m 66 k = mi 66 k
theorem m_day_l1 {E : zEn} {vs : List (Nat × Nat)} {mi : Nat → Nat → Int32} {ml : Nat → Nat → Int64} {g : Nat → Nat → Option Nat} (ag : Int32) {X71 X72 : Nat → Int32} {rv : Int32 → Prop} {sm : Int32 → (Nat → Int32) → Int32} {an : Int32 → Int32} (H : RFs E X71 X72 rv sm an) (h71 : mi 71 = X71) (h72 : kH mi X72) (hrv : rv (mi 67 70)) {dd : Nat} (hdd : dd < 100000) (hd : mi 67 69 = nI dd) {n : Nat} (hn : mi 67 68 = nI n) (h6 : n ≤ 6) {P : Option Value → zW → Prop} (hn9 : n < 2147483648) (K : ∀ (m : Nat → Nat → Int32) , (zKep2 mi m ∧ ∀ i, i < n → m 78 i = strU (uN (mi 67)) n dd (sm (mi 67 70) (nmU (uN (mi 67)) dd i)) i) → Wp E 24 pg_M_day 35 [(0, .ref 66), (1, .int ag), (2, .int (nI n))] [] (zsh ++ vs, m, ml, (zmr g)) P) : ∀ (k j : Nat) (m : Nat → Nat → Int32) , j + k = n → (zKep2 mi m ∧ ∀ i, i < j → m 78 i = strU (uN (mi 67)) n dd (sm (mi 67 70) (nmU (uN (mi 67)) dd i)) i) → Wp E 24 pg_M_day 7 [(0, .ref 66), (1, .int ag), (2, .int (nI j))] [] (zsh ++ vs, m, ml, (zmr g)) P := by
  intro k
  induction k with
  | zero =>
    intro j m  hj9 hI
    obtain rfl : n = j := by omega
    refine Wp.run 1 (8, [(0, .ref 66), (1, .int ag), (2, .int (nI n))], [.int (nI n)], (zsh ++ vs, m, ml, (zmr g))) rfl ?_
    have e67 : m 67 = mi 67 := hI.1.1 67 (by decide) (by decide) (by decide) (by decide)
    refine Wp.run 4 (15, [(0, .ref 66), (1, .int ag), (2, .int (nI n))], [.int (m 67 68), .int (nI n)], (zsh ++ vs, m, ml, (zmr g))) rfl ?_
    rw [show m 67 68 = nI n from by rw [e67]; exact hn]
    refine Wp.run 0 (15, [(0, .ref 66), (1, .int ag), (2, .int (nI n))], [.int (nI n), .int (nI n)], (zsh ++ vs, m, ml, (zmr g))) rfl ?_
    refine Wp.icmp_ge rfl (fun h1 => ?_) (fun h1 => ?_)
    · exact K m  hI
    · exact absurd (Int32.le_refl _) h1
  | succ k ih =>
    intro j m  hj9 hI
    have hlt9 : j < n := by omega
    refine Wp.run 1 (8, [(0, .ref 66), (1, .int ag), (2, .int (nI j))], [.int (nI j)], (zsh ++ vs, m, ml, (zmr g))) rfl ?_
    have e67 : m 67 = mi 67 := hI.1.1 67 (by decide) (by decide) (by decide) (by decide)
    refine Wp.run 4 (15, [(0, .ref 66), (1, .int ag), (2, .int (nI j))], [.int (m 67 68), .int (nI j)], (zsh ++ vs, m, ml, (zmr g))) rfl ?_
    rw [show m 67 68 = nI n from by rw [e67]; exact hn]
    refine Wp.run 0 (15, [(0, .ref 66), (1, .int ag), (2, .int (nI j))], [.int (nI n), .int (nI j)], (zsh ++ vs, m, ml, (zmr g))) rfl ?_
    refine Wp.icmp_ge rfl (fun h1 => ?_) (fun h1 => ?_)
    · exact absurd h1 (nI_ge hlt9 hn9)
    · refine Wp.run 5 (25, [(0, .ref 66), (1, .int ag), (2, .int (nI j))], [.int (nI j), .ref 66, .int (nI j), .ref 78], (zsh ++ vs, m, ml, (zmr g))) rfl ?_
      refine Wp.call (as := [.ref 66, .int (nI j)]) (rest := [.int (nI j), .ref 78]) rfl rfl rfl rfl rfl (Nat.le_of_ble_eq_true rfl) (Nat.le_of_ble_eq_true rfl) rfl (by decide) (m_strain (mi := m) H (by rw [hI.1.1 71 (by decide) (by decide) (by decide) (by decide)]; exact h71) (h72.fr (fun a ha => hI.1.1 a (by omega) (by omega) (by omega) (by omega))) (by rw [e67]; exact hrv) hdd (by rw [e67]; exact hd) j (by omega) (by rw [e67]; exact hn) h6) ?_
      rintro _ _ ⟨rfl, m', rfl, hk⟩
      rw [e67]
      refine Wp.iasn rfl (by decide) rfl (by omega) (by decide) ?_
      refine Wp.run 2 (7, [(2, .int ((nI j) + 1)), (0, .ref 66), (1, .int ag)], [], (zsh ++ vs, (zup m' 78 j (strU (uN (mi 67)) n dd (sm (mi 67 70) (nmU (uN (mi 67)) dd j)) j)), ml, (zmr g))) rfl ?_
      rw [nI_1]
      refine Wp.sub (a := [(0, .ref 66), (1, .int ag), (2, .int (nI (j + 1)))]) (zle_cons rfl (zle_cons rfl (zle_cons rfl (zle_nil)))) ?_
      refine ih (j + 1) _ (by omega) ⟨⟨fun a p q r t => ?_, fun x hx => ?_⟩, fun i hi => ?_⟩
      · rw [zup_ne t, hk.1 a p q r]; exact hI.1.1 a p q r t
      · rw [zup_ne (by decide), hk.2 x hx]; exact hI.1.2 x hx
      · by_cases hij : i = j
        · subst hij; simp only [zup, if_true]
        · simp only [zup, if_true, if_neg hij]
          rw [hk.1 78 (by decide) (by decide) (by decide)]
          exact hI.2 i (by omega)
theorem m_day_l2 {E : zEn} {vs : List (Nat × Nat)} {ml : Nat → Nat → Int64} {g : Nat → Nat → Option Nat} (ag : Int32) (N : Nat → Int32) (m0 : Nat → Nat → Int32) {n : Nat} (hn : N 68 = nI n) (h6 : n ≤ 6) {P : Option Value → zW → Prop} (hn9 : n < 2147483648) (K : ∀ (m : Nat → Nat → Int32) , (m 67 = dayR N (m0 78) ag n ∧ ∀ a, ¬ a = 67 → m a = m0 a) → Wp E 24 pg_M_day 146 [(0, .ref 66), (1, .int ag), (2, .int (nI n))] [] (zsh ++ vs, m, ml, (zmr g)) P) : ∀ (k j : Nat) (m : Nat → Nat → Int32) , j + k = n → (m 67 = dayR N (m0 78) ag j ∧ ∀ a, ¬ a = 67 → m a = m0 a) → Wp E 24 pg_M_day 37 [(0, .ref 66), (1, .int ag), (2, .int (nI j))] [] (zsh ++ vs, m, ml, (zmr g)) P := by
  intro k
  induction k with
  | zero =>
    intro j m  hj9 hI
    obtain rfl : n = j := by omega
    refine Wp.run 1 (38, [(0, .ref 66), (1, .int ag), (2, .int (nI n))], [.int (nI n)], (zsh ++ vs, m, ml, (zmr g))) rfl ?_
    have hN : ∀ f, m 67 (8 + 10 * n + f) = N (8 + 10 * n + f) := fun f => by rw [hI.1, dayR_hi (by omega)]
    have h78 : m 78 = m0 78 := hI.2 78 (by decide)
    refine Wp.run 4 (45, [(0, .ref 66), (1, .int ag), (2, .int (nI n))], [.int (m 67 68), .int (nI n)], (zsh ++ vs, m, ml, (zmr g))) rfl ?_
    rw [show m 67 68 = nI n from by rw [hI.1, dayR_hi (by omega)]; exact hn]
    refine Wp.run 0 (45, [(0, .ref 66), (1, .int ag), (2, .int (nI n))], [.int (nI n), .int (nI n)], (zsh ++ vs, m, ml, (zmr g))) rfl ?_
    refine Wp.icmp_ge rfl (fun h1 => ?_) (fun h1 => ?_)
    · exact K m  hI
    · exact absurd (Int32.le_refl _) h1
  | succ k ih =>
    intro j m  hj9 hI
    have hlt9 : j < n := by omega
    refine Wp.run 1 (38, [(0, .ref 66), (1, .int ag), (2, .int (nI j))], [.int (nI j)], (zsh ++ vs, m, ml, (zmr g))) rfl ?_
    have hN : ∀ f, m 67 (8 + 10 * j + f) = N (8 + 10 * j + f) := fun f => by rw [hI.1, dayR_hi (by omega)]
    have h78 : m 78 = m0 78 := hI.2 78 (by decide)
    refine Wp.run 4 (45, [(0, .ref 66), (1, .int ag), (2, .int (nI j))], [.int (m 67 68), .int (nI j)], (zsh ++ vs, m, ml, (zmr g))) rfl ?_
    rw [show m 67 68 = nI n from by rw [hI.1, dayR_hi (by omega)]; exact hn]
    refine Wp.run 0 (45, [(0, .ref 66), (1, .int ag), (2, .int (nI j))], [.int (nI n), .int (nI j)], (zsh ++ vs, m, ml, (zmr g))) rfl ?_
    refine Wp.icmp_ge rfl (fun h1 => ?_) (fun h1 => ?_)
    · exact absurd h1 (nI_ge hlt9 hn9)
    · refine Wp.run 2 (50, [(0, .ref 66), (1, .int ag), (2, .int (nI j))], [.int (nI j), .ref 66], (zsh ++ vs, m, ml, (zmr g))) rfl ?_
      refine Wp.call (as := [.ref 66, .int (nI j)]) (rest := []) rfl rfl rfl rfl rfl (Nat.le_of_ble_eq_true rfl) (Nat.le_of_ble_eq_true rfl) rfl (by decide) (m_isHere j (by omega)) ?_
      rintro _ _ ⟨rfl, rfl⟩
      by_cases c9 : m 67 (8 + 10 * j + 4) = 0
      · rw [if_pos c9]
        refine Wp.run 9 (65, [(0, .ref 66), (1, .int ag), (2, .int (nI j))], [.int 3, .int (nI j), .ref 66, .int 99, .int 0, .int 3, .int (nI j), .ref 66], (zsh ++ vs, m, ml, (zmr g))) rfl ?_
        refine Wp.call (as := [.ref 66, .int (nI j), .int 3]) (rest := [.int 99, .int 0, .int 3, .int (nI j), .ref 66]) rfl rfl rfl rfl rfl (Nat.le_of_ble_eq_true rfl) (Nat.le_of_ble_eq_true rfl) rfl (by decide) (m_one j 3 (by omega)) ?_
        rintro _ _ ⟨rfl, rfl⟩
        refine Wp.run 3 (73, [(0, .ref 66), (1, .int ag), (2, .int (nI j))], [.int (nI j), .ref 78, .int (m 67 (8 + 10 * j + 3)), .int 99, .int 0, .int 3, .int (nI j), .ref 66], (zsh ++ vs, m, ml, (zmr g))) rfl ?_
        refine Wp.ialn rfl (by decide) rfl (by omega) (by decide) ?_
        refine Wp.run 3 (81, [(0, .ref 66), (1, .int ag), (2, .int (nI j))], [.int (if 0 < if (m 67 (8 + 10 * j + 3)) - (m 78 j) < 99 then (m 67 (8 + 10 * j + 3)) - (m 78 j) else 99 then if (m 67 (8 + 10 * j + 3)) - (m 78 j) < 99 then (m 67 (8 + 10 * j + 3)) - (m 78 j) else 99 else 0), .int 3, .int (nI j), .ref 66], (zsh ++ vs, m, ml, (zmr g))) rfl ?_
        refine Wp.call (as := [.ref 66, .int (nI j), .int 3, .int (if 0 < if (m 67 (8 + 10 * j + 3)) - (m 78 j) < 99 then (m 67 (8 + 10 * j + 3)) - (m 78 j) else 99 then if (m 67 (8 + 10 * j + 3)) - (m 78 j) < 99 then (m 67 (8 + 10 * j + 3)) - (m 78 j) else 99 else 0)]) (rest := []) rfl rfl rfl rfl rfl (Nat.le_of_ble_eq_true rfl) (Nat.le_of_ble_eq_true rfl) rfl (by decide) (m_change j 3 (if 0 < if (m 67 (8 + 10 * j + 3)) - (m 78 j) < 99 then (m 67 (8 + 10 * j + 3)) - (m 78 j) else 99 then if (m 67 (8 + 10 * j + 3)) - (m 78 j) < 99 then (m 67 (8 + 10 * j + 3)) - (m 78 j) else 99 else 0) (by omega)) ?_
        rintro _ _ ⟨rfl, rfl⟩
        refine Wp.run 4 (88, [(0, .ref 66), (1, .int ag), (2, .int (nI j))], [.int 2, .int (nI j), .ref 66], (zsh ++ vs, (zup m 67 (8 + 10 * j + 3) (if 0 < if (m 67 (8 + 10 * j + 3)) - (m 78 j) < 99 then (m 67 (8 + 10 * j + 3)) - (m 78 j) else 99 then if (m 67 (8 + 10 * j + 3)) - (m 78 j) < 99 then (m 67 (8 + 10 * j + 3)) - (m 78 j) else 99 else 0)), ml, (zmr g))) rfl ?_
        refine Wp.call (as := [.ref 66, .int (nI j), .int 2]) (rest := []) rfl rfl rfl rfl rfl (Nat.le_of_ble_eq_true rfl) (Nat.le_of_ble_eq_true rfl) rfl (by decide) (m_one j 2 (by omega)) ?_
        rintro _ _ ⟨rfl, rfl⟩
        refine Wp.run 4 (95, [(3, .int ((zup m 67 (8 + 10 * j + 3) (if 0 < if (m 67 (8 + 10 * j + 3)) - (m 78 j) < 99 then (m 67 (8 + 10 * j + 3)) - (m 78 j) else 99 then if (m 67 (8 + 10 * j + 3)) - (m 78 j) < 99 then (m 67 (8 + 10 * j + 3)) - (m 78 j) else 99 else 0)) 67 (8 + 10 * j + 2))), (0, .ref 66), (1, .int ag), (2, .int (nI j))], [.int 3, .int (nI j), .ref 66], (zsh ++ vs, (zup m 67 (8 + 10 * j + 3) (if 0 < if (m 67 (8 + 10 * j + 3)) - (m 78 j) < 99 then (m 67 (8 + 10 * j + 3)) - (m 78 j) else 99 then if (m 67 (8 + 10 * j + 3)) - (m 78 j) < 99 then (m 67 (8 + 10 * j + 3)) - (m 78 j) else 99 else 0)), ml, (zmr g))) rfl ?_
        refine Wp.call (as := [.ref 66, .int (nI j), .int 3]) (rest := []) rfl rfl rfl rfl rfl (Nat.le_of_ble_eq_true rfl) (Nat.le_of_ble_eq_true rfl) rfl (by decide) (m_one j 3 (by omega)) ?_
        rintro _ _ ⟨rfl, rfl⟩
        refine Wp.run 0 (98, [(3, .int ((zup m 67 (8 + 10 * j + 3) (if 0 < if (m 67 (8 + 10 * j + 3)) - (m 78 j) < 99 then (m 67 (8 + 10 * j + 3)) - (m 78 j) else 99 then if (m 67 (8 + 10 * j + 3)) - (m 78 j) < 99 then (m 67 (8 + 10 * j + 3)) - (m 78 j) else 99 else 0)) 67 (8 + 10 * j + 2))), (0, .ref 66), (1, .int ag), (2, .int (nI j))], [.int ((zup m 67 (8 + 10 * j + 3) (if 0 < if (m 67 (8 + 10 * j + 3)) - (m 78 j) < 99 then (m 67 (8 + 10 * j + 3)) - (m 78 j) else 99 then if (m 67 (8 + 10 * j + 3)) - (m 78 j) < 99 then (m 67 (8 + 10 * j + 3)) - (m 78 j) else 99 else 0)) 67 (8 + 10 * j + 3))], (zsh ++ vs, (zup m 67 (8 + 10 * j + 3) (if 0 < if (m 67 (8 + 10 * j + 3)) - (m 78 j) < 99 then (m 67 (8 + 10 * j + 3)) - (m 78 j) else 99 then if (m 67 (8 + 10 * j + 3)) - (m 78 j) < 99 then (m 67 (8 + 10 * j + 3)) - (m 78 j) else 99 else 0)), ml, (zmr g))) rfl ?_
        refine Wp.if_ne rfl (fun h2 => ?_) (fun h2 => ?_)
        · refine Wp.run 2 (37, [(2, .int ((nI j) + 1)), (3, .int ((zup m 67 (8 + 10 * j + 3) (if 0 < if (m 67 (8 + 10 * j + 3)) - (m 78 j) < 99 then (m 67 (8 + 10 * j + 3)) - (m 78 j) else 99 then if (m 67 (8 + 10 * j + 3)) - (m 78 j) < 99 then (m 67 (8 + 10 * j + 3)) - (m 78 j) else 99 else 0)) 67 (8 + 10 * j + 2))), (0, .ref 66), (1, .int ag)], [], (zsh ++ vs, (zup m 67 (8 + 10 * j + 3) (if 0 < if (m 67 (8 + 10 * j + 3)) - (m 78 j) < 99 then (m 67 (8 + 10 * j + 3)) - (m 78 j) else 99 then if (m 67 (8 + 10 * j + 3)) - (m 78 j) < 99 then (m 67 (8 + 10 * j + 3)) - (m 78 j) else 99 else 0)), ml, (zmr g))) rfl ?_
          rw [nI_1]
          refine Wp.sub (a := [(0, .ref 66), (1, .int ag), (2, .int (nI (j + 1)))]) (zle_cons rfl (zle_cons rfl (zle_cons rfl (zle_nil)))) ?_
          refine ih (j + 1) _ (by omega) ⟨?_, ?_⟩
          · rw [zup_eq, hN, h78, hI.1]; exact dayR_b (by rw [← hN]; exact c9) (fun q => h2 (by simp only [zup, if_true]; rw [hN, h78]; exact q.1))
          · intro a ha
            rw [zup_ne ha]
            exact hI.2 a ha
        · refine Wp.run 1 (102, [(3, .int ((zup m 67 (8 + 10 * j + 3) (if 0 < if (m 67 (8 + 10 * j + 3)) - (m 78 j) < 99 then (m 67 (8 + 10 * j + 3)) - (m 78 j) else 99 then if (m 67 (8 + 10 * j + 3)) - (m 78 j) < 99 then (m 67 (8 + 10 * j + 3)) - (m 78 j) else 99 else 0)) 67 (8 + 10 * j + 2))), (0, .ref 66), (1, .int ag), (2, .int (nI j))], [.int ((zup m 67 (8 + 10 * j + 3) (if 0 < if (m 67 (8 + 10 * j + 3)) - (m 78 j) < 99 then (m 67 (8 + 10 * j + 3)) - (m 78 j) else 99 then if (m 67 (8 + 10 * j + 3)) - (m 78 j) < 99 then (m 67 (8 + 10 * j + 3)) - (m 78 j) else 99 else 0)) 67 (8 + 10 * j + 2))], (zsh ++ vs, (zup m 67 (8 + 10 * j + 3) (if 0 < if (m 67 (8 + 10 * j + 3)) - (m 78 j) < 99 then (m 67 (8 + 10 * j + 3)) - (m 78 j) else 99 then if (m 67 (8 + 10 * j + 3)) - (m 78 j) < 99 then (m 67 (8 + 10 * j + 3)) - (m 78 j) else 99 else 0)), ml, (zmr g))) rfl ?_
          refine Wp.if_eq rfl (fun h3 => ?_) (fun h3 => ?_)
          · refine Wp.run 2 (37, [(2, .int ((nI j) + 1)), (3, .int ((zup m 67 (8 + 10 * j + 3) (if 0 < if (m 67 (8 + 10 * j + 3)) - (m 78 j) < 99 then (m 67 (8 + 10 * j + 3)) - (m 78 j) else 99 then if (m 67 (8 + 10 * j + 3)) - (m 78 j) < 99 then (m 67 (8 + 10 * j + 3)) - (m 78 j) else 99 else 0)) 67 (8 + 10 * j + 2))), (0, .ref 66), (1, .int ag)], [], (zsh ++ vs, (zup m 67 (8 + 10 * j + 3) (if 0 < if (m 67 (8 + 10 * j + 3)) - (m 78 j) < 99 then (m 67 (8 + 10 * j + 3)) - (m 78 j) else 99 then if (m 67 (8 + 10 * j + 3)) - (m 78 j) < 99 then (m 67 (8 + 10 * j + 3)) - (m 78 j) else 99 else 0)), ml, (zmr g))) rfl ?_
            rw [nI_1]
            refine Wp.sub (a := [(0, .ref 66), (1, .int ag), (2, .int (nI (j + 1)))]) (zle_cons rfl (zle_cons rfl (zle_cons rfl (zle_nil)))) ?_
            refine ih (j + 1) _ (by omega) ⟨?_, ?_⟩
            · rw [zup_eq, hN, h78, hI.1]; exact dayR_b (by rw [← hN]; exact c9) (fun q => q.2 (by have := h3; simp only [zup, if_true] at this; rw [if_neg (by omega), hN] at this; exact this))
            · intro a ha
              rw [zup_ne ha]
              exact hI.2 a ha
          · refine Wp.run 8 (113, [(3, .int ((zup m 67 (8 + 10 * j + 3) (if 0 < if (m 67 (8 + 10 * j + 3)) - (m 78 j) < 99 then (m 67 (8 + 10 * j + 3)) - (m 78 j) else 99 then if (m 67 (8 + 10 * j + 3)) - (m 78 j) < 99 then (m 67 (8 + 10 * j + 3)) - (m 78 j) else 99 else 0)) 67 (8 + 10 * j + 2))), (0, .ref 66), (1, .int ag), (2, .int (nI j))], [.int (((zup m 67 (8 + 10 * j + 3) (if 0 < if (m 67 (8 + 10 * j + 3)) - (m 78 j) < 99 then (m 67 (8 + 10 * j + 3)) - (m 78 j) else 99 then if (m 67 (8 + 10 * j + 3)) - (m 78 j) < 99 then (m 67 (8 + 10 * j + 3)) - (m 78 j) else 99 else 0)) 67 (8 + 10 * j + 2)) &&& (((zup m 67 (8 + 10 * j + 3) (if 0 < if (m 67 (8 + 10 * j + 3)) - (m 78 j) < 99 then (m 67 (8 + 10 * j + 3)) - (m 78 j) else 99 then if (m 67 (8 + 10 * j + 3)) - (m 78 j) < 99 then (m 67 (8 + 10 * j + 3)) - (m 78 j) else 99 else 0)) 67 (8 + 10 * j + 2)) - 1)), .int 2, .int (nI j), .ref 66], (zsh ++ vs, (zup m 67 (8 + 10 * j + 3) (if 0 < if (m 67 (8 + 10 * j + 3)) - (m 78 j) < 99 then (m 67 (8 + 10 * j + 3)) - (m 78 j) else 99 then if (m 67 (8 + 10 * j + 3)) - (m 78 j) < 99 then (m 67 (8 + 10 * j + 3)) - (m 78 j) else 99 else 0)), ml, (zmr g))) rfl ?_
            refine Wp.call (as := [.ref 66, .int (nI j), .int 2, .int (((zup m 67 (8 + 10 * j + 3) (if 0 < if (m 67 (8 + 10 * j + 3)) - (m 78 j) < 99 then (m 67 (8 + 10 * j + 3)) - (m 78 j) else 99 then if (m 67 (8 + 10 * j + 3)) - (m 78 j) < 99 then (m 67 (8 + 10 * j + 3)) - (m 78 j) else 99 else 0)) 67 (8 + 10 * j + 2)) &&& (((zup m 67 (8 + 10 * j + 3) (if 0 < if (m 67 (8 + 10 * j + 3)) - (m 78 j) < 99 then (m 67 (8 + 10 * j + 3)) - (m 78 j) else 99 then if (m 67 (8 + 10 * j + 3)) - (m 78 j) < 99 then (m 67 (8 + 10 * j + 3)) - (m 78 j) else 99 else 0)) 67 (8 + 10 * j + 2)) - 1))]) (rest := []) rfl rfl rfl rfl rfl (Nat.le_of_ble_eq_true rfl) (Nat.le_of_ble_eq_true rfl) rfl (by decide) (m_change j 2 (((zup m 67 (8 + 10 * j + 3) (if 0 < if (m 67 (8 + 10 * j + 3)) - (m 78 j) < 99 then (m 67 (8 + 10 * j + 3)) - (m 78 j) else 99 then if (m 67 (8 + 10 * j + 3)) - (m 78 j) < 99 then (m 67 (8 + 10 * j + 3)) - (m 78 j) else 99 else 0)) 67 (8 + 10 * j + 2)) &&& (((zup m 67 (8 + 10 * j + 3) (if 0 < if (m 67 (8 + 10 * j + 3)) - (m 78 j) < 99 then (m 67 (8 + 10 * j + 3)) - (m 78 j) else 99 then if (m 67 (8 + 10 * j + 3)) - (m 78 j) < 99 then (m 67 (8 + 10 * j + 3)) - (m 78 j) else 99 else 0)) 67 (8 + 10 * j + 2)) - 1)) (by omega)) ?_
            rintro _ _ ⟨rfl, rfl⟩
            refine Wp.run 7 (123, [(3, .int ((zup m 67 (8 + 10 * j + 3) (if 0 < if (m 67 (8 + 10 * j + 3)) - (m 78 j) < 99 then (m 67 (8 + 10 * j + 3)) - (m 78 j) else 99 then if (m 67 (8 + 10 * j + 3)) - (m 78 j) < 99 then (m 67 (8 + 10 * j + 3)) - (m 78 j) else 99 else 0)) 67 (8 + 10 * j + 2))), (0, .ref 66), (1, .int ag), (2, .int (nI j))], [.int 5, .int (nI j), .ref 66, .int 5, .int (nI j), .ref 66], (zsh ++ vs, (zup (zup m 67 (8 + 10 * j + 3) (if 0 < if (m 67 (8 + 10 * j + 3)) - (m 78 j) < 99 then (m 67 (8 + 10 * j + 3)) - (m 78 j) else 99 then if (m 67 (8 + 10 * j + 3)) - (m 78 j) < 99 then (m 67 (8 + 10 * j + 3)) - (m 78 j) else 99 else 0)) 67 (8 + 10 * j + 2) (((zup m 67 (8 + 10 * j + 3) (if 0 < if (m 67 (8 + 10 * j + 3)) - (m 78 j) < 99 then (m 67 (8 + 10 * j + 3)) - (m 78 j) else 99 then if (m 67 (8 + 10 * j + 3)) - (m 78 j) < 99 then (m 67 (8 + 10 * j + 3)) - (m 78 j) else 99 else 0)) 67 (8 + 10 * j + 2)) &&& (((zup m 67 (8 + 10 * j + 3) (if 0 < if (m 67 (8 + 10 * j + 3)) - (m 78 j) < 99 then (m 67 (8 + 10 * j + 3)) - (m 78 j) else 99 then if (m 67 (8 + 10 * j + 3)) - (m 78 j) < 99 then (m 67 (8 + 10 * j + 3)) - (m 78 j) else 99 else 0)) 67 (8 + 10 * j + 2)) - 1))), ml, (zmr g))) rfl ?_
            refine Wp.call (as := [.ref 66, .int (nI j), .int 5]) (rest := [.int 5, .int (nI j), .ref 66]) rfl rfl rfl rfl rfl (Nat.le_of_ble_eq_true rfl) (Nat.le_of_ble_eq_true rfl) rfl (by decide) (m_one j 5 (by omega)) ?_
            rintro _ _ ⟨rfl, rfl⟩
            refine Wp.run 2 (128, [(3, .int ((zup m 67 (8 + 10 * j + 3) (if 0 < if (m 67 (8 + 10 * j + 3)) - (m 78 j) < 99 then (m 67 (8 + 10 * j + 3)) - (m 78 j) else 99 then if (m 67 (8 + 10 * j + 3)) - (m 78 j) < 99 then (m 67 (8 + 10 * j + 3)) - (m 78 j) else 99 else 0)) 67 (8 + 10 * j + 2))), (0, .ref 66), (1, .int ag), (2, .int (nI j))], [.int (((zup (zup m 67 (8 + 10 * j + 3) (if 0 < if (m 67 (8 + 10 * j + 3)) - (m 78 j) < 99 then (m 67 (8 + 10 * j + 3)) - (m 78 j) else 99 then if (m 67 (8 + 10 * j + 3)) - (m 78 j) < 99 then (m 67 (8 + 10 * j + 3)) - (m 78 j) else 99 else 0)) 67 (8 + 10 * j + 2) (((zup m 67 (8 + 10 * j + 3) (if 0 < if (m 67 (8 + 10 * j + 3)) - (m 78 j) < 99 then (m 67 (8 + 10 * j + 3)) - (m 78 j) else 99 then if (m 67 (8 + 10 * j + 3)) - (m 78 j) < 99 then (m 67 (8 + 10 * j + 3)) - (m 78 j) else 99 else 0)) 67 (8 + 10 * j + 2)) &&& (((zup m 67 (8 + 10 * j + 3) (if 0 < if (m 67 (8 + 10 * j + 3)) - (m 78 j) < 99 then (m 67 (8 + 10 * j + 3)) - (m 78 j) else 99 then if (m 67 (8 + 10 * j + 3)) - (m 78 j) < 99 then (m 67 (8 + 10 * j + 3)) - (m 78 j) else 99 else 0)) 67 (8 + 10 * j + 2)) - 1))) 67 (8 + 10 * j + 5)) + 1), .int 5, .int (nI j), .ref 66], (zsh ++ vs, (zup (zup m 67 (8 + 10 * j + 3) (if 0 < if (m 67 (8 + 10 * j + 3)) - (m 78 j) < 99 then (m 67 (8 + 10 * j + 3)) - (m 78 j) else 99 then if (m 67 (8 + 10 * j + 3)) - (m 78 j) < 99 then (m 67 (8 + 10 * j + 3)) - (m 78 j) else 99 else 0)) 67 (8 + 10 * j + 2) (((zup m 67 (8 + 10 * j + 3) (if 0 < if (m 67 (8 + 10 * j + 3)) - (m 78 j) < 99 then (m 67 (8 + 10 * j + 3)) - (m 78 j) else 99 then if (m 67 (8 + 10 * j + 3)) - (m 78 j) < 99 then (m 67 (8 + 10 * j + 3)) - (m 78 j) else 99 else 0)) 67 (8 + 10 * j + 2)) &&& (((zup m 67 (8 + 10 * j + 3) (if 0 < if (m 67 (8 + 10 * j + 3)) - (m 78 j) < 99 then (m 67 (8 + 10 * j + 3)) - (m 78 j) else 99 then if (m 67 (8 + 10 * j + 3)) - (m 78 j) < 99 then (m 67 (8 + 10 * j + 3)) - (m 78 j) else 99 else 0)) 67 (8 + 10 * j + 2)) - 1))), ml, (zmr g))) rfl ?_
            refine Wp.call (as := [.ref 66, .int (nI j), .int 5, .int (((zup (zup m 67 (8 + 10 * j + 3) (if 0 < if (m 67 (8 + 10 * j + 3)) - (m 78 j) < 99 then (m 67 (8 + 10 * j + 3)) - (m 78 j) else 99 then if (m 67 (8 + 10 * j + 3)) - (m 78 j) < 99 then (m 67 (8 + 10 * j + 3)) - (m 78 j) else 99 else 0)) 67 (8 + 10 * j + 2) (((zup m 67 (8 + 10 * j + 3) (if 0 < if (m 67 (8 + 10 * j + 3)) - (m 78 j) < 99 then (m 67 (8 + 10 * j + 3)) - (m 78 j) else 99 then if (m 67 (8 + 10 * j + 3)) - (m 78 j) < 99 then (m 67 (8 + 10 * j + 3)) - (m 78 j) else 99 else 0)) 67 (8 + 10 * j + 2)) &&& (((zup m 67 (8 + 10 * j + 3) (if 0 < if (m 67 (8 + 10 * j + 3)) - (m 78 j) < 99 then (m 67 (8 + 10 * j + 3)) - (m 78 j) else 99 then if (m 67 (8 + 10 * j + 3)) - (m 78 j) < 99 then (m 67 (8 + 10 * j + 3)) - (m 78 j) else 99 else 0)) 67 (8 + 10 * j + 2)) - 1))) 67 (8 + 10 * j + 5)) + 1)]) (rest := []) rfl rfl rfl rfl rfl (Nat.le_of_ble_eq_true rfl) (Nat.le_of_ble_eq_true rfl) rfl (by decide) (m_change j 5 (((zup (zup m 67 (8 + 10 * j + 3) (if 0 < if (m 67 (8 + 10 * j + 3)) - (m 78 j) < 99 then (m 67 (8 + 10 * j + 3)) - (m 78 j) else 99 then if (m 67 (8 + 10 * j + 3)) - (m 78 j) < 99 then (m 67 (8 + 10 * j + 3)) - (m 78 j) else 99 else 0)) 67 (8 + 10 * j + 2) (((zup m 67 (8 + 10 * j + 3) (if 0 < if (m 67 (8 + 10 * j + 3)) - (m 78 j) < 99 then (m 67 (8 + 10 * j + 3)) - (m 78 j) else 99 then if (m 67 (8 + 10 * j + 3)) - (m 78 j) < 99 then (m 67 (8 + 10 * j + 3)) - (m 78 j) else 99 else 0)) 67 (8 + 10 * j + 2)) &&& (((zup m 67 (8 + 10 * j + 3) (if 0 < if (m 67 (8 + 10 * j + 3)) - (m 78 j) < 99 then (m 67 (8 + 10 * j + 3)) - (m 78 j) else 99 then if (m 67 (8 + 10 * j + 3)) - (m 78 j) < 99 then (m 67 (8 + 10 * j + 3)) - (m 78 j) else 99 else 0)) 67 (8 + 10 * j + 2)) - 1))) 67 (8 + 10 * j + 5)) + 1) (by omega)) ?_
            rintro _ _ ⟨rfl, rfl⟩
            refine Wp.run 5 (136, [(3, .int ((zup m 67 (8 + 10 * j + 3) (if 0 < if (m 67 (8 + 10 * j + 3)) - (m 78 j) < 99 then (m 67 (8 + 10 * j + 3)) - (m 78 j) else 99 then if (m 67 (8 + 10 * j + 3)) - (m 78 j) < 99 then (m 67 (8 + 10 * j + 3)) - (m 78 j) else 99 else 0)) 67 (8 + 10 * j + 2))), (0, .ref 66), (1, .int ag), (2, .int (nI j))], [.int ag, .int 3, .int (nI j), .ref 66], (zsh ++ vs, (zup (zup (zup m 67 (8 + 10 * j + 3) (if 0 < if (m 67 (8 + 10 * j + 3)) - (m 78 j) < 99 then (m 67 (8 + 10 * j + 3)) - (m 78 j) else 99 then if (m 67 (8 + 10 * j + 3)) - (m 78 j) < 99 then (m 67 (8 + 10 * j + 3)) - (m 78 j) else 99 else 0)) 67 (8 + 10 * j + 2) (((zup m 67 (8 + 10 * j + 3) (if 0 < if (m 67 (8 + 10 * j + 3)) - (m 78 j) < 99 then (m 67 (8 + 10 * j + 3)) - (m 78 j) else 99 then if (m 67 (8 + 10 * j + 3)) - (m 78 j) < 99 then (m 67 (8 + 10 * j + 3)) - (m 78 j) else 99 else 0)) 67 (8 + 10 * j + 2)) &&& (((zup m 67 (8 + 10 * j + 3) (if 0 < if (m 67 (8 + 10 * j + 3)) - (m 78 j) < 99 then (m 67 (8 + 10 * j + 3)) - (m 78 j) else 99 then if (m 67 (8 + 10 * j + 3)) - (m 78 j) < 99 then (m 67 (8 + 10 * j + 3)) - (m 78 j) else 99 else 0)) 67 (8 + 10 * j + 2)) - 1))) 67 (8 + 10 * j + 5) (((zup (zup m 67 (8 + 10 * j + 3) (if 0 < if (m 67 (8 + 10 * j + 3)) - (m 78 j) < 99 then (m 67 (8 + 10 * j + 3)) - (m 78 j) else 99 then if (m 67 (8 + 10 * j + 3)) - (m 78 j) < 99 then (m 67 (8 + 10 * j + 3)) - (m 78 j) else 99 else 0)) 67 (8 + 10 * j + 2) (((zup m 67 (8 + 10 * j + 3) (if 0 < if (m 67 (8 + 10 * j + 3)) - (m 78 j) < 99 then (m 67 (8 + 10 * j + 3)) - (m 78 j) else 99 then if (m 67 (8 + 10 * j + 3)) - (m 78 j) < 99 then (m 67 (8 + 10 * j + 3)) - (m 78 j) else 99 else 0)) 67 (8 + 10 * j + 2)) &&& (((zup m 67 (8 + 10 * j + 3) (if 0 < if (m 67 (8 + 10 * j + 3)) - (m 78 j) < 99 then (m 67 (8 + 10 * j + 3)) - (m 78 j) else 99 then if (m 67 (8 + 10 * j + 3)) - (m 78 j) < 99 then (m 67 (8 + 10 * j + 3)) - (m 78 j) else 99 else 0)) 67 (8 + 10 * j + 2)) - 1))) 67 (8 + 10 * j + 5)) + 1)), ml, (zmr g))) rfl ?_
            refine Wp.call (as := [.ref 66, .int (nI j), .int 3, .int ag]) (rest := []) rfl rfl rfl rfl rfl (Nat.le_of_ble_eq_true rfl) (Nat.le_of_ble_eq_true rfl) rfl (by decide) (m_change j 3 ag (by omega)) ?_
            rintro _ _ ⟨rfl, rfl⟩
            refine Wp.run 3 (37, [(2, .int ((nI j) + 1)), (3, .int ((zup m 67 (8 + 10 * j + 3) (if 0 < if (m 67 (8 + 10 * j + 3)) - (m 78 j) < 99 then (m 67 (8 + 10 * j + 3)) - (m 78 j) else 99 then if (m 67 (8 + 10 * j + 3)) - (m 78 j) < 99 then (m 67 (8 + 10 * j + 3)) - (m 78 j) else 99 else 0)) 67 (8 + 10 * j + 2))), (0, .ref 66), (1, .int ag)], [], (zsh ++ vs, (zup (zup (zup (zup m 67 (8 + 10 * j + 3) (if 0 < if (m 67 (8 + 10 * j + 3)) - (m 78 j) < 99 then (m 67 (8 + 10 * j + 3)) - (m 78 j) else 99 then if (m 67 (8 + 10 * j + 3)) - (m 78 j) < 99 then (m 67 (8 + 10 * j + 3)) - (m 78 j) else 99 else 0)) 67 (8 + 10 * j + 2) (((zup m 67 (8 + 10 * j + 3) (if 0 < if (m 67 (8 + 10 * j + 3)) - (m 78 j) < 99 then (m 67 (8 + 10 * j + 3)) - (m 78 j) else 99 then if (m 67 (8 + 10 * j + 3)) - (m 78 j) < 99 then (m 67 (8 + 10 * j + 3)) - (m 78 j) else 99 else 0)) 67 (8 + 10 * j + 2)) &&& (((zup m 67 (8 + 10 * j + 3) (if 0 < if (m 67 (8 + 10 * j + 3)) - (m 78 j) < 99 then (m 67 (8 + 10 * j + 3)) - (m 78 j) else 99 then if (m 67 (8 + 10 * j + 3)) - (m 78 j) < 99 then (m 67 (8 + 10 * j + 3)) - (m 78 j) else 99 else 0)) 67 (8 + 10 * j + 2)) - 1))) 67 (8 + 10 * j + 5) (((zup (zup m 67 (8 + 10 * j + 3) (if 0 < if (m 67 (8 + 10 * j + 3)) - (m 78 j) < 99 then (m 67 (8 + 10 * j + 3)) - (m 78 j) else 99 then if (m 67 (8 + 10 * j + 3)) - (m 78 j) < 99 then (m 67 (8 + 10 * j + 3)) - (m 78 j) else 99 else 0)) 67 (8 + 10 * j + 2) (((zup m 67 (8 + 10 * j + 3) (if 0 < if (m 67 (8 + 10 * j + 3)) - (m 78 j) < 99 then (m 67 (8 + 10 * j + 3)) - (m 78 j) else 99 then if (m 67 (8 + 10 * j + 3)) - (m 78 j) < 99 then (m 67 (8 + 10 * j + 3)) - (m 78 j) else 99 else 0)) 67 (8 + 10 * j + 2)) &&& (((zup m 67 (8 + 10 * j + 3) (if 0 < if (m 67 (8 + 10 * j + 3)) - (m 78 j) < 99 then (m 67 (8 + 10 * j + 3)) - (m 78 j) else 99 then if (m 67 (8 + 10 * j + 3)) - (m 78 j) < 99 then (m 67 (8 + 10 * j + 3)) - (m 78 j) else 99 else 0)) 67 (8 + 10 * j + 2)) - 1))) 67 (8 + 10 * j + 5)) + 1)) 67 (8 + 10 * j + 3) ag), ml, (zmr g))) rfl ?_
            rw [nI_1]
            refine Wp.sub (a := [(0, .ref 66), (1, .int ag), (2, .int (nI (j + 1)))]) (zle_cons rfl (zle_cons rfl (zle_cons rfl (zle_nil)))) ?_
            refine ih (j + 1) _ (by omega) ⟨?_, ?_⟩
            · have r2 : ∀ V, zup m 67 (8 + 10 * j + 3) V 67 (8 + 10 * j + 2) = N (8 + 10 * j + 2) := fun V => by simp only [zup, if_true]; rw [if_neg (by omega), hN]
              have r5 : ∀ V V', zup (zup m 67 (8 + 10 * j + 3) V) 67 (8 + 10 * j + 2) V' 67 (8 + 10 * j + 5) = N (8 + 10 * j + 5) := fun V V' => by simp only [zup, if_true]; rw [if_neg (by omega), if_neg (by omega), hN]
              rw [r5, r2, zup_eq, zup_eq, zup_eq, zup_eq, hI.1]
              exact dayR_c (by rw [← hN]; exact c9) (⟨by have := h2; simp only [zup, if_true] at this; rw [hN, h78] at this; exact this, fun q => h3 (by simp only [zup, if_true]; rw [if_neg (by omega), hN]; exact q)⟩) _
            · intro a ha
              rw [zup_ne ha, zup_ne ha, zup_ne ha, zup_ne ha]
              exact hI.2 a ha
      · rw [if_neg c9]
        refine Wp.run 3 (37, [(2, .int ((nI j) + 1)), (0, .ref 66), (1, .int ag)], [], (zsh ++ vs, m, ml, (zmr g))) rfl ?_
        rw [nI_1]
        refine Wp.sub (a := [(0, .ref 66), (1, .int ag), (2, .int (nI (j + 1)))]) (zle_cons rfl (zle_cons rfl (zle_cons rfl (zle_nil)))) ?_
        refine ih (j + 1) _ (by omega) ⟨?_, ?_⟩
        · rw [hI.1]; exact dayR_a (by rw [← hN]; exact c9)
        · exact hI.2
