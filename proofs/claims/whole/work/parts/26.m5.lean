/-! THE REFERENCE: a day, days -/
theorem dayR_congr {N s s' : Nat → Int32} {ag : Int32} {n : Nat} (h : ∀ k, k < n → s k = s' k) : dayR N s ag n = dayR N s' ag n := by
  funext i
  unfold dayR
  by_cases hi : 8 ≤ i ∧ i < 8 + 10 * n
  · rw [if_pos hi, if_pos hi]
    unfold dayU
    rw [h ((i - 8) / 10) (by omega)]
  · rw [if_neg hi, if_neg hi]
abbrev strN (sm : Int32 → (Nat → Int32) → Int32) (N : Nat → Int32) (n dd k : Nat) : Int32 := strU (uN N) n dd (sm (N 70) (nmU (uN N) dd k)) k
/-- the row behind a day -/
def dayN (sm : Int32 → (Nat → Int32) → Int32) (an : Int32 → Int32) (N : Nat → Int32) (n dd : Nat) : Nat → Int32 := upd (dayR N (strN sm N n dd) (an (N 70)) n) 69 (nI (dd + 1))
def zKep3 (mi m : Nat → Nat → Int32) : Prop := (∀ a, ¬ a = 66 → ¬ a = 67 → ¬ a = 73 → ¬ a = 74 → ¬ a = 78 → m a = mi a) ∧ ∀ k, (k < 10 ∨ 15 < k) → m 66 k = mi 66 k
theorem zKep3.rf {mi : Nat → Nat → Int32} : zKep3 mi mi := ⟨fun _ _ _ _ _ _ => rfl, fun _ _ => rfl⟩
theorem zKep3.tr {a b c : Nat → Nat → Int32} (h1 : zKep3 a b) (h2 : zKep3 b c) : zKep3 a c := ⟨fun x p q r s t => (h2.1 x p q r s t).trans (h1.1 x p q r s t), fun k hk => (h2.2 k hk).trans (h1.2 k hk)⟩
theorem dayN_70 {sm : Int32 → (Nat → Int32) → Int32} {an : Int32 → Int32} {N : Nat → Int32} {n dd i : Nat} (h6 : n ≤ 6) (hi : i < 8 ∨ 68 ≤ i) (h69 : ¬ i = 69) : dayN sm an N n dd i = N i := by
  unfold dayN
  simp only [upd, if_neg h69]
  unfold dayR
  rw [if_neg (by omega)]
theorem dayN_69 {sm : Int32 → (Nat → Int32) → Int32} {an : Int32 → Int32} {N : Nat → Int32} {n dd : Nat} : dayN sm an N n dd 69 = nI (dd + 1) := by
  unfold dayN
  simp only [upd, if_true]
def daysN (sm : Int32 → (Nat → Int32) → Int32) (an : Int32 → Int32) (N : Nat → Int32) (n dd : Nat) : Nat → Nat → Int32
  | 0 => N
  | t + 1 => dayN sm an (daysN sm an N n dd t) n (dd + t)
theorem daysN_70 {sm : Int32 → (Nat → Int32) → Int32} {an : Int32 → Int32} {N : Nat → Int32} {n dd i : Nat} (h6 : n ≤ 6) (hi : i < 8 ∨ 68 ≤ i) (h69 : ¬ i = 69) : ∀ t, daysN sm an N n dd t i = N i
  | 0 => rfl
  | t + 1 => by rw [daysN, dayN_70 h6 hi h69, daysN_70 h6 hi h69 t]
theorem daysN_69 {sm : Int32 → (Nat → Int32) → Int32} {an : Int32 → Int32} {N : Nat → Int32} {n dd : Nat} (hd : N 69 = nI dd) : ∀ t, daysN sm an N n dd t 69 = nI (dd + t)
  | 0 => hd
  | t + 1 => by rw [daysN, dayN_69]; rfl
theorem m_day {E : zEn} {vs : List (Nat × Nat)} {mi : Nat → Nat → Int32} {ml : Nat → Nat → Int64} {g : Nat → Nat → Option Nat} {X71 X72 : Nat → Int32} {rv : Int32 → Prop} {sm : Int32 → (Nat → Int32) → Int32} {an : Int32 → Int32} (H : RFs E X71 X72 rv sm an) (h71 : mi 71 = X71) (h72 : kH mi X72) (hrv : rv (mi 67 70)) {dd : Nat} (hdd : dd < 100000) (hd : mi 67 69 = nI dd) {n : Nat} (hn : mi 67 68 = nI n) (h6 : n ≤ 6) : Wp E 24 pg_M_day 0 (lv_args 0 [.ref 66]) [] (zsh ++ vs, mi, ml, (zmr g)) (fun r w' => r = none ∧ ∃ m, w' = (zsh ++ vs, m, ml, zmr g) ∧ m 67 = dayN sm an (mi 67) n dd ∧ zKep3 mi m) := by
  refine Wp.run 1 (1, [(0, .ref 66)], [.ref 66], (zsh ++ vs, mi, ml, (zmr g))) rfl ?_
  refine Wp.call (as := [.ref 66]) (rest := []) rfl rfl rfl rfl rfl (Nat.le_of_ble_eq_true rfl) (Nat.le_of_ble_eq_true rfl) rfl (by decide) (m_anewNow H h71 h72 hrv hdd hd) ?_
  rintro _ _ ⟨rfl, mi', rfl, hk⟩
  refine Wp.run 3 (7, [(2, .int 0), (1, .int (an (mi 67 70))), (0, .ref 66)], [], (zsh ++ vs, mi', ml, (zmr g))) rfl ?_
  have K1 : ∀ (m : Nat → Nat → Int32), (zKep2 mi m ∧ ∀ i, i < n → m 78 i = strU (uN (mi 67)) n dd (sm (mi 67 70) (nmU (uN (mi 67)) dd i)) i) → Wp E 24 pg_M_day 35 [(0, .ref 66), (1, .int (an (mi 67 70))), (2, .int (nI n))] [] (zsh ++ vs, m, ml, zmr g) (fun r w' => r = none ∧ ∃ m, w' = (zsh ++ vs, m, ml, zmr g) ∧ m 67 = dayN sm an (mi 67) n dd ∧ zKep3 mi m) := by
    intro m hI
    refine Wp.run 2 (37, [(2, .int 0), (0, .ref 66), (1, .int (an (mi 67 70)))], [], (zsh ++ vs, m, ml, (zmr g))) rfl ?_
    have e67 : m 67 = mi 67 := hI.1.1 67 (by decide) (by decide) (by decide) (by decide)
    have K2 : ∀ (m2 : Nat → Nat → Int32), (m2 67 = dayR (m 67) (m 78) (an (mi 67 70)) n ∧ ∀ a, ¬ a = 67 → m2 a = m a) → Wp E 24 pg_M_day 146 [(0, .ref 66), (1, .int (an (mi 67 70))), (2, .int (nI n))] [] (zsh ++ vs, m2, ml, zmr g) (fun r w' => r = none ∧ ∃ m, w' = (zsh ++ vs, m, ml, zmr g) ∧ m 67 = dayN sm an (mi 67) n dd ∧ zKep3 mi m) := by
      intro m2 hI2
      refine Wp.run 8 (157, [(0, .ref 66), (1, .int (an (mi 67 70))), (2, .int (nI n))], [], (zsh ++ vs, (zup m2 67 69 ((m2 67 69) + 1)), ml, (zmr g))) rfl ?_
      refine Wp.ret rfl rfl rfl ?_
      refine ⟨rfl, _, rfl, ?_, ?_, ?_⟩
      · rw [zup_eq, hI2.1, dayN, dayR_hi (by omega), e67, dayR_congr hI.2, hd, nI_1]
      · intro a p1 p2 p3 p4 p5
        rw [zup_ne p2, hI2.2 a p2]
        exact hI.1.1 a p1 p3 p4 p5
      · intro k hk9
        rw [zup_ne (by decide), hI2.2 66 (by decide)]
        exact hI.1.2 k hk9
    refine Wp.sub (a := [(0, .ref 66), (1, .int (an (mi 67 70))), (2, .int (nI 0))]) (zle_cons rfl (zle_cons rfl (zle_cons rfl (zle_nil)))) ?_
    exact m_day_l2 (an (mi 67 70)) (m 67) m (by rw [e67]; exact hn) h6 (by omega) K2 n 0 m (by omega) ⟨by rw [dayR_0], fun _ _ => rfl⟩
  refine Wp.sub (a := [(0, .ref 66), (1, .int (an (mi 67 70))), (2, .int (nI 0))]) (zle_cons rfl (zle_cons rfl (zle_cons rfl (zle_nil)))) ?_
  exact m_day_l1 (an (mi 67 70)) H h71 h72 hrv hdd hd hn h6 (by omega) K1 n 0 mi' (by omega) ⟨⟨fun a p q r _ => hk.1 a p q r, hk.2⟩, fun i hi => absurd hi (by omega)⟩
theorem m_days_l {E : zEn} {vs : List (Nat × Nat)} {mi : Nat → Nat → Int32} {ml : Nat → Nat → Int64} {g : Nat → Nat → Option Nat} {X71 X72 : Nat → Int32} {rv : Int32 → Prop} {sm : Int32 → (Nat → Int32) → Int32} {an : Int32 → Int32} (H : RFs E X71 X72 rv sm an) (h71 : mi 71 = X71) (h72 : kH mi X72) (hrv : rv (mi 67 70)) {dd t : Nat} (hdd : dd + t < 100000) (hd : mi 67 69 = nI dd) {n : Nat} (hn : mi 67 68 = nI n) (h6 : n ≤ 6) {P : Option Value → zW → Prop} (hn9 : t < 2147483648) (K : ∀ (m : Nat → Nat → Int32) , (m 67 = daysN sm an (mi 67) n dd t ∧ zKep3 mi m) → Wp E 25 pg_M_days 17 [(0, .ref 66), (1, .int (nI t)), (2, .int (nI t))] [] (zsh ++ vs, m, ml, (zmr g)) P) : ∀ (k j : Nat) (m : Nat → Nat → Int32) , j + k = t → (m 67 = daysN sm an (mi 67) n dd j ∧ zKep3 mi m) → Wp E 25 pg_M_days 2 [(0, .ref 66), (1, .int (nI t)), (2, .int (nI j))] [] (zsh ++ vs, m, ml, (zmr g)) P := by
  intro k
  induction k with
  | zero =>
    intro j m  hj9 hI
    obtain rfl : t = j := by omega
    refine Wp.run 2 (4, [(0, .ref 66), (1, .int (nI t)), (2, .int (nI t))], [.int (nI t), .int (nI t)], (zsh ++ vs, m, ml, (zmr g))) rfl ?_
    refine Wp.icmp_ge rfl (fun h1 => ?_) (fun h1 => ?_)
    · exact K m  hI
    · exact absurd (Int32.le_refl _) h1
  | succ k ih =>
    intro j m  hj9 hI
    have hlt9 : j < t := by omega
    refine Wp.run 2 (4, [(0, .ref 66), (1, .int (nI t)), (2, .int (nI j))], [.int (nI t), .int (nI j)], (zsh ++ vs, m, ml, (zmr g))) rfl ?_
    refine Wp.icmp_ge rfl (fun h1 => ?_) (fun h1 => ?_)
    · exact absurd h1 (nI_ge hlt9 hn9)
    · refine Wp.run 1 (8, [(0, .ref 66), (1, .int (nI t)), (2, .int (nI j))], [.ref 66], (zsh ++ vs, m, ml, (zmr g))) rfl ?_
      refine Wp.call (as := [.ref 66]) (rest := []) rfl rfl rfl rfl rfl (Nat.le_of_ble_eq_true rfl) (Nat.le_of_ble_eq_true rfl) rfl (by decide) (m_day (mi := m) (dd := dd + j) H (by rw [hI.2.1 71 (by decide) (by decide) (by decide) (by decide) (by decide)]; exact h71) (h72.fr (fun a ha => hI.2.1 a (by omega) (by omega) (by omega) (by omega) (by omega))) (by rw [hI.1, daysN_70 h6 (by omega) (by omega)]; exact hrv) (by omega) (by rw [hI.1]; exact daysN_69 hd j) (n := n) (by rw [hI.1, daysN_70 h6 (by omega) (by omega)]; exact hn) h6) ?_
      rintro _ _ ⟨rfl, m', rfl, hr, hk⟩
      refine Wp.run 2 (2, [(2, .int ((nI j) + 1)), (0, .ref 66), (1, .int (nI t))], [], (zsh ++ vs, m', ml, (zmr g))) rfl ?_
      rw [nI_1]
      refine Wp.sub (a := [(0, .ref 66), (1, .int (nI t)), (2, .int (nI (j + 1)))]) (zle_cons rfl (zle_cons rfl (zle_cons rfl (zle_nil)))) ?_
      exact ih (j + 1) _ (by omega) ⟨by rw [hr, hI.1, daysN], hI.2.tr hk⟩
theorem m_days {E : zEn} {vs : List (Nat × Nat)} {mi : Nat → Nat → Int32} {ml : Nat → Nat → Int64} {g : Nat → Nat → Option Nat} {X71 X72 : Nat → Int32} {rv : Int32 → Prop} {sm : Int32 → (Nat → Int32) → Int32} {an : Int32 → Int32} (H : RFs E X71 X72 rv sm an) (h71 : mi 71 = X71) (h72 : kH mi X72) (hrv : rv (mi 67 70)) {dd t : Nat} (hdd : dd + t < 100000) (hd : mi 67 69 = nI dd) {n : Nat} (hn : mi 67 68 = nI n) (h6 : n ≤ 6) : Wp E 25 pg_M_days 0 (lv_args 0 [.ref 66, .int (nI t)]) [] (zsh ++ vs, mi, ml, (zmr g)) (fun r w' => r = none ∧ ∃ m, w' = (zsh ++ vs, m, ml, zmr g) ∧ m 67 = daysN sm an (mi 67) n dd t ∧ zKep3 mi m) := by
  have K : ∀ (m : Nat → Nat → Int32), (m 67 = daysN sm an (mi 67) n dd t ∧ zKep3 mi m) → Wp E 25 pg_M_days 17 [(0, .ref 66), (1, .int (nI t)), (2, .int (nI t))] [] (zsh ++ vs, m, ml, zmr g) (fun r w' => r = none ∧ ∃ m, w' = (zsh ++ vs, m, ml, zmr g) ∧ m 67 = daysN sm an (mi 67) n dd t ∧ zKep3 mi m) := by
    intro m hI
    refine Wp.run 0 (17, [(0, .ref 66), (1, .int (nI t)), (2, .int (nI t))], [], (zsh ++ vs, m, ml, (zmr g))) rfl ?_
    refine Wp.ret rfl rfl rfl ?_
    exact ⟨rfl, m, rfl, hI.1, hI.2⟩
  refine Wp.run 2 (2, [(2, .int 0), (0, .ref 66), (1, .int (nI t))], [], (zsh ++ vs, mi, ml, (zmr g))) rfl ?_
  refine Wp.sub (a := [(0, .ref 66), (1, .int (nI t)), (2, .int (nI 0))]) (zle_cons rfl (zle_cons rfl (zle_cons rfl (zle_nil)))) ?_
  exact m_days_l H h71 h72 hrv hdd hd hn h6 (by omega) K t 0 mi (by omega) ⟨rfl, zKep3.rf⟩
