/-! THE CALLS: part -/
theorem lostR_rng {f : Nat → Int32} : ∀ (c t : Nat), lostR f c t = -5 ∨ ∃ q, q < t + c ∧ lostR f c t = nI q
  | 0, t => Or.inl rfl
  | c + 1, t => by
    by_cases h : f t = 0
    · rw [lostR_eq h]; exact Or.inr ⟨t, by omega, rfl⟩
    · rw [lostR_ne h]
      rcases lostR_rng c (t + 1) with e | ⟨q, hq, e⟩
      · exact Or.inl e
      · exact Or.inr ⟨q, by omega, e⟩
def lrg (x : Int32) : Prop := x = -5 ∨ ∃ q, q < 61 ∧ x = nI q
theorem lostN_rng {sm : Int32 → (Nat → Int32) → Int32} {an : Int32 → Int32} {N : Nat → Int32} {n dd p : Nat} : lrg (lostN sm an N n dd p) := by
  rcases lostR_rng (f := lostF sm an N n dd p) 61 0 with e | ⟨q, hq, e⟩
  · exact Or.inl e
  · exact Or.inr ⟨q, by omega, e⟩
abbrev lateF (x : Int32) : Int32 := if x = -5 then 1000 else x
theorem ne_m5 {i : Nat} (h : i < 2147483648) : ¬ nI i = -5 := by
  intro e
  have := congrArg Int32.toInt e
  rw [nI_toInt h, show (-5 : Int32).toInt = -5 from by decide] at this
  omega
theorem late_lt {a b : Int32} (ra : lrg a) (rb : lrg b) : lateF a < lateF b ↔ ¬ a = -5 ∧ (b = -5 ∨ a < b) := by
  rcases ra with rfl | ⟨q, hq, rfl⟩
  · rcases rb with rfl | ⟨r, hr, rfl⟩
    · exact ⟨fun h => absurd h (by decide), fun h => absurd rfl h.1⟩
    · rw [show lateF (nI r) = nI r from if_neg (ne_m5 (by omega))]
      exact ⟨fun h => absurd h (nI_nlt (a := 1000) (by omega) (by decide)), fun h => absurd rfl h.1⟩
  · rw [show lateF (nI q) = nI q from if_neg (ne_m5 (by omega))]
    rcases rb with rfl | ⟨r, hr, rfl⟩
    · exact ⟨fun _ => ⟨ne_m5 (by omega), Or.inl rfl⟩, fun _ => nI_lt (b := 1000) (by omega) (by decide)⟩
    · rw [show lateF (nI r) = nI r from if_neg (ne_m5 (by omega))]
      exact ⟨fun h => ⟨ne_m5 (by omega), Or.inr h⟩, fun h => h.2.elim (fun e => absurd e (ne_m5 (by omega))) id⟩
theorem heirS_rng {l0 : Int32} {ok : Nat → Bool} {L : Nat → Int32} (h0 : lrg l0) (hL : ∀ p, lrg (L p)) : ∀ j, lrg (heirS l0 ok L j).1
  | 0 => h0
  | j + 1 => by
    have ih := heirS_rng (ok := ok) h0 hL j
    rw [heirS]
    split
    · exact ih
    · split
      · exact hL j
      · exact ih
/-- a step as the reference does it -/
theorem heirS_st {l0 : Int32} {ok : Nat → Bool} {L : Nat → Int32} (h0 : lrg l0) (hL : ∀ p, lrg (L p)) {j : Nat} (hok : ok j = true) : (lateF (heirS l0 ok L j).1 < lateF (L j) → heirS l0 ok L (j + 1) = (L j, nI j)) ∧ (¬ lateF (heirS l0 ok L j).1 < lateF (L j) → heirS l0 ok L (j + 1) = heirS l0 ok L j) := by
  have ih := heirS_rng (ok := ok) h0 hL j
  rw [late_lt ih (hL j), heirS]
  refine ⟨fun h => ?_, fun h => ?_⟩
  · rw [if_neg h.1, if_pos ⟨hok, h.2⟩]
  · by_cases e : (heirS l0 ok L j).1 = -5
    · rw [if_pos e]
    · rw [if_neg e, if_neg (fun q => h ⟨e, q.2⟩)]
theorem heirS_no {l0 : Int32} {ok : Nat → Bool} {L : Nat → Int32} {j : Nat} (hok : ¬ ok j = true) : heirS l0 ok L (j + 1) = heirS l0 ok L j := by
  rw [heirS]
  split
  · rfl
  · rw [if_neg (fun q => hok q.1)]
theorem upd_back {f : Nat → Int32} {i : Nat} {x : Int32} : upd (upd f i x) i (f i) = f := by
  funext j
  by_cases e : j = i
  · subst e; rw [upd_at]
  · rw [upd_ne e, upd_ne e]
theorem m_lost_t {E : zEn} {vs : List (Nat × Nat)} {mi : Nat → Nat → Int32} {ml : Nat → Nat → Int64} {g : Nat → Nat → Option Nat} {p1 m : Nat → Nat → Int32} (a1 : ∀ b, ¬ b = 68 → p1 b = mi b) (a2 : ∀ i, i < 125 → p1 68 i = mi 67 i) (k : zKep3 p1 m) (hi : ∀ i, 125 ≤ i → m 67 i = mi 67 i) {p : Nat} {x y : Int32} : Wp E 25 pg_M_lost 57 [(0, .ref 66), (1, .int (nI p)), (2, .int x), (3, .int y)] [] (zsh ++ vs, m, ml, zmr g) (fun r w' => r = some (.int x) ∧ ∃ m, w' = (zsh ++ vs, m, ml, zmr g) ∧ KO mi m) := by
  refine Wp.run 4 (65, [(0, .ref 66), (1, .int (nI p)), (2, .int x), (3, .int y)], [.ref 67, .ref 68], (zsh ++ vs, m, ml, (zmr g))) rfl ?_
  refine Wp.call (as := [.ref 68, .ref 67]) (rest := []) rfl rfl rfl rfl rfl (Nat.le_of_ble_eq_true rfl) (Nat.le_of_ble_eq_true rfl) rfl (by decide) (m_move_68_67 (mi := m)) ?_
  rintro _ _ ⟨rfl, rfl⟩
  obtain ⟨p3, hp3⟩ : ∃ z, z = zrow m 67 (mvR m 68 67 125) := ⟨_, rfl⟩
  rw [← hp3]
  have c1 : ∀ b, ¬ b = 67 → p3 b = m b := fun b hb => by rw [hp3, zrow_ne hb]
  have c2 : ∀ i, i < 125 → p3 67 i = m 68 i := fun i hi => by rw [hp3, zrow_eq, mvR_lt hi]
  have c3 : ∀ i, 125 ≤ i → p3 67 i = m 67 i := fun i hi => by rw [hp3, zrow_eq]; exact if_neg (by omega)
  refine Wp.run 1 (69, [(0, .ref 66), (1, .int (nI p)), (2, .int x), (3, .int y)], [.int x], (zsh ++ vs, p3, ml, (zmr g))) rfl ?_
  refine Wp.ret rfl rfl rfl ?_
  exact ⟨rfl, p3, rfl, KO.back a1 a2 k hi c1 c2 c3⟩
theorem m_lost_l {E : zEn} {vs : List (Nat × Nat)} {mi : Nat → Nat → Int32} {ml : Nat → Nat → Int64} {g : Nat → Nat → Option Nat} {X71 X72 : Nat → Int32} {rv : Int32 → Prop} {sm : Int32 → (Nat → Int32) → Int32} {an : Int32 → Int32} {n dd : Nat} (R : RE E X71 X72 rv sm an mi n dd) {p1 : Nat → Nat → Int32} (a1 : ∀ b, ¬ b = 68 → p1 b = mi b) (a2 : ∀ i, i < 125 → p1 68 i = mi 67 i) {p : Nat} (hp : p < 8) (hdd : dd + 61 < 100000) : ∀ (k j : Nat) (m : Nat → Nat → Int32), j + k = 61 → (zKep3 p1 m ∧ m 67 = daysN sm an (mi 67) n dd j ∧ RE E X71 X72 rv sm an m n (dd + j)) → Wp E 25 pg_M_lost 16 [(0, .ref 66), (1, .int (nI p)), (2, .int (-5)), (3, .int (nI j))] [] (zsh ++ vs, m, ml, zmr g) (fun r w' => r = some (.int (lostR (lostF sm an (mi 67) n dd p) k j)) ∧ ∃ m, w' = (zsh ++ vs, m, ml, zmr g) ∧ KO mi m) := by
  have h6 := R.2.2.2.2.2.2
  have hi9 : ∀ (m : Nat → Nat → Int32) t, m 67 = daysN sm an (mi 67) n dd t → ∀ i, 125 ≤ i → m 67 i = mi 67 i := fun m t e i hi => by rw [e, daysN_70 h6 (by omega) (by omega)]
  intro k
  induction k with
  | zero =>
    intro j m hj hI
    obtain rfl : 61 = j := by omega
    refine Wp.run 2 (19, [(0, .ref 66), (1, .int (nI p)), (2, .int (-5)), (3, .int (nI 61))], [.int 60, .int (nI 61)], (zsh ++ vs, m, ml, (zmr g))) rfl ?_
    refine Wp.icmp_gt rfl (fun h1 => ?_) (fun h1 => ?_)
    · exact (m_lost_t a1 a2 hI.1 (hi9 m _ hI.2.1))
    · exact absurd (nI_lt (a := 60) (b := 61) (by decide) (by decide)) h1
  | succ k ih =>
    intro j m hj hI
    refine Wp.run 2 (19, [(0, .ref 66), (1, .int (nI p)), (2, .int (-5)), (3, .int (nI j))], [.int 60, .int (nI j)], (zsh ++ vs, m, ml, (zmr g))) rfl ?_
    refine Wp.icmp_gt rfl (fun h11 => ?_) (fun h11 => ?_)
    · exact absurd h11 (nI_nlt (a := 60) (by omega) (by decide))
    · refine Wp.run 4 (29, [(0, .ref 66), (1, .int (nI p)), (2, .int (-5)), (3, .int (nI j))], [.ref 66], (zsh ++ vs, m, ml, (zmr g))) rfl ?_
      refine Wp.call (as := [.ref 66]) (rest := []) rfl rfl rfl rfl rfl (Nat.le_of_ble_eq_true rfl) (Nat.le_of_ble_eq_true rfl) rfl (by decide) (m_keptNow hI.2.2.2.2.2.2.2.1 h6) ?_
      rintro _ _ ⟨rfl, rfl⟩
      refine Wp.run 5 (37, [(0, .ref 66), (1, .int (nI p)), (2, .int (-5)), (3, .int (nI j))], [.int 1, .int (((zor (keptF (uN (m 67))) n) >>> ((nI p) &&& 31)) &&& 1)], (zsh ++ vs, m, ml, (zmr g))) rfl ?_
      refine Wp.icmp_ne rfl (fun h12 => ?_) (fun h12 => ?_)
      · have f0 : (lostF sm an (mi 67) n dd p) j = 0 := by
          have z : keptN (daysN sm an (mi 67) n dd j) n >>> (nI p &&& 31) &&& 1 = (zor (keptF (uN (m 67))) n) >>> (nI p &&& 31) &&& 1 := by rw [hI.2.1]
          show keptN (daysN sm an (mi 67) n dd j) n >>> (nI p &&& 31) &&& 1 = 0
          rw [z]
          by_cases e : bt (zor (keptF (uN (m 67))) n) p = true
          · exact absurd ((bit1_one _ (by omega)).mpr e) h12
          · exact (bit1_zero _ (by omega)).mpr (by simpa using e)
        refine Wp.run 3 (48, [(2, .int (nI j)), (0, .ref 66), (1, .int (nI p)), (3, .int (nI j))], [.ref 66], (zsh ++ vs, m, ml, (zmr g))) rfl ?_
        refine Wp.call (as := [.ref 66]) (rest := []) rfl rfl rfl rfl rfl (Nat.le_of_ble_eq_true rfl) (Nat.le_of_ble_eq_true rfl) rfl (by decide) (m_dayE (mi := m) hI.2.2 (by omega)) ?_
        rintro _ _ ⟨rfl, m', rfl, k1, k2⟩
        have e2 : m' 67 = daysN sm an (mi 67) n dd (j + 1) := by rw [k1, hI.2.1, daysN]
        refine Wp.run 2 (16, [(3, .int ((nI j) + 1)), (2, .int (nI j)), (0, .ref 66), (1, .int (nI p))], [], (zsh ++ vs, m', ml, (zmr g))) rfl ?_
        rw [nI_1, lostR_eq f0]
        refine Wp.sub (a := [(0, .ref 66), (1, .int (nI p)), (2, .int (nI j)), (3, .int (nI (j + 1)))]) (zle_cons rfl (zle_cons rfl (zle_cons rfl (zle_cons rfl (zle_nil))))) ?_
        refine Wp.run 2 (19, [(0, .ref 66), (1, .int (nI p)), (2, .int (nI j)), (3, .int (nI (j + 1)))], [.int 60, .int (nI (j + 1))], (zsh ++ vs, m', ml, (zmr g))) rfl ?_
        refine Wp.icmp_gt rfl (fun h41 => ?_) (fun h41 => ?_)
        · refine Wp.sub (a := [(0, .ref 66), (1, .int (nI p)), (2, .int (nI j)), (3, .int (nI (j + 1)))]) (zle_cons rfl (zle_cons rfl (zle_cons rfl (zle_cons rfl (zle_nil))))) ?_
          exact m_lost_t a1 a2 (hI.1.tr k2) (hi9 m' _ e2)
        · refine Wp.run 2 (25, [(0, .ref 66), (1, .int (nI p)), (2, .int (nI j)), (3, .int (nI (j + 1)))], [.int (-5), .int (nI j)], (zsh ++ vs, m', ml, (zmr g))) rfl ?_
          refine Wp.icmp_ne rfl (fun h42 => ?_) (fun h42 => ?_)
          · refine Wp.sub (a := [(0, .ref 66), (1, .int (nI p)), (2, .int (nI j)), (3, .int (nI (j + 1)))]) (zle_cons rfl (zle_cons rfl (zle_cons rfl (zle_cons rfl (zle_nil))))) ?_
            exact m_lost_t a1 a2 (hI.1.tr k2) (hi9 m' _ e2)
          · exact absurd h42 (ne_m5 (by omega))
      · have f0 : ¬ (lostF sm an (mi 67) n dd p) j = 0 := by
          show ¬ keptN (daysN sm an (mi 67) n dd j) n >>> (nI p &&& 31) &&& 1 = 0
          rw [← hI.2.1, show (keptN (m 67) n) >>> (nI p &&& 31) &&& 1 = 1 from h12]; decide
        refine Wp.run 4 (48, [(2, .int (-5)), (0, .ref 66), (1, .int (nI p)), (3, .int (nI j))], [.ref 66], (zsh ++ vs, m, ml, (zmr g))) rfl ?_
        refine Wp.call (as := [.ref 66]) (rest := []) rfl rfl rfl rfl rfl (Nat.le_of_ble_eq_true rfl) (Nat.le_of_ble_eq_true rfl) rfl (by decide) (m_dayE (mi := m) hI.2.2 (by omega)) ?_
        rintro _ _ ⟨rfl, m', rfl, k1, k2⟩
        have e2 : m' 67 = daysN sm an (mi 67) n dd (j + 1) := by rw [k1, hI.2.1, daysN]
        refine Wp.run 2 (16, [(3, .int ((nI j) + 1)), (2, .int (-5)), (0, .ref 66), (1, .int (nI p))], [], (zsh ++ vs, m', ml, (zmr g))) rfl ?_
        rw [nI_1, lostR_ne f0]
        refine Wp.sub (a := [(0, .ref 66), (1, .int (nI p)), (2, .int (-5)), (3, .int (nI (j + 1)))]) (zle_cons rfl (zle_cons rfl (zle_cons rfl (zle_cons rfl (zle_nil))))) ?_
        exact ih (j + 1) m' (by omega) ⟨hI.1.tr k2, e2, hI.2.2.day k2 (by rw [k1])⟩
theorem m_lost {E : zEn} {vs : List (Nat × Nat)} {mi : Nat → Nat → Int32} {ml : Nat → Nat → Int64} {g : Nat → Nat → Option Nat} {X71 X72 : Nat → Int32} {rv : Int32 → Prop} {sm : Int32 → (Nat → Int32) → Int32} {an : Int32 → Int32} {n dd : Nat} (R : RE E X71 X72 rv sm an mi n dd) {p : Nat} (hp : p < 8) (hdd : dd + 61 < 100000) : Wp E 25 pg_M_lost 0 (lv_args 0 [.ref 66, .int (nI p)]) [] (zsh ++ vs, mi, ml, (zmr g)) (fun r w' => r = some (.int (lostN sm an (mi 67) n dd p)) ∧ ∃ m, w' = (zsh ++ vs, m, ml, zmr g) ∧ KO mi m) := by
  refine Wp.run 4 (8, [(0, .ref 66), (1, .int (nI p))], [.ref 68, .ref 67], (zsh ++ vs, mi, ml, (zmr g))) rfl ?_
  refine Wp.call (as := [.ref 67, .ref 68]) (rest := []) rfl rfl rfl rfl rfl (Nat.le_of_ble_eq_true rfl) (Nat.le_of_ble_eq_true rfl) rfl (by decide) (m_move_67_68 (mi := mi)) ?_
  rintro _ _ ⟨rfl, rfl⟩
  obtain ⟨p1, hp1⟩ : ∃ z, z = zrow mi 68 (mvR mi 67 68 125) := ⟨_, rfl⟩
  rw [← hp1]
  have a1 : ∀ b, ¬ b = 68 → p1 b = mi b := fun b hb => by rw [hp1, zrow_ne hb]
  have a2 : ∀ i, i < 125 → p1 68 i = mi 67 i := fun i hi => by rw [hp1, zrow_eq, mvR_lt hi]
  have a3 : ∀ i, 125 ≤ i → p1 68 i = mi 68 i := fun i hi => by rw [hp1, zrow_eq]; exact if_neg (by omega)
  refine Wp.run 4 (16, [(3, .int 0), (2, .int (-5)), (0, .ref 66), (1, .int (nI p))], [], (zsh ++ vs, p1, ml, (zmr g))) rfl ?_
  have R1 : RE E X71 X72 rv sm an p1 n dd := R.fr (fun a ha => a1 a (by omega)) (by rw [a1 67 (by decide)]) (by rw [a1 67 (by decide)]; exact R.2.2.2.2.1) (by rw [a1 67 (by decide)])
  refine Wp.sub (a := [(0, .ref 66), (1, .int (nI p)), (2, .int (-5)), (3, .int (nI 0))]) (zle_cons rfl (zle_cons rfl (zle_cons rfl (zle_cons rfl (zle_nil))))) ?_
  exact m_lost_l R a1 a2 hp hdd 61 0 p1 (by omega) ⟨zKep3.rf, a1 67 (by decide), R1⟩
theorem m_heir_l {E : zEn} {vs : List (Nat × Nat)} {mi : Nat → Nat → Int32} {ml : Nat → Nat → Int64} {g : Nat → Nat → Option Nat} {X71 X72 : Nat → Int32} {rv : Int32 → Prop} {sm : Int32 → (Nat → Int32) → Int32} {an : Int32 → Int32} {n dd : Nat} (R : RE E X71 X72 rv sm an mi n dd) (h6 : n ≤ 6) {p : Nat} (hp : p < 8) (hdd : dd + 61 < 100000) {P : Option Value → zW → Prop} (hn9 : n < 2147483648) (K : ∀ (m : Nat → Nat → Int32) , (KO mi m) → Wp E 26 pg_M_heir 112 [(0, .ref 66), (1, .int (nI p)), (2, .int (lateF (heirN sm an (mi 67) n dd p n).1)), (3, .int ((heirN sm an (mi 67) n dd p n).2)), (4, .int (nI n))] [] (zsh ++ vs, m, ml, (zmr g)) P) : ∀ (k j : Nat) (m : Nat → Nat → Int32) , j + k = n → (KO mi m) → Wp E 26 pg_M_heir 15 [(0, .ref 66), (1, .int (nI p)), (2, .int (lateF (heirN sm an (mi 67) n dd p j).1)), (3, .int ((heirN sm an (mi 67) n dd p j).2)), (4, .int (nI j))] [] (zsh ++ vs, m, ml, (zmr g)) P := by
  intro k
  induction k with
  | zero =>
    intro j m  hj9 hI
    obtain rfl : n = j := by omega
    refine Wp.run 5 (24, [(0, .ref 66), (1, .int (nI p)), (2, .int (lateF (heirN sm an (mi 67) n dd p n).1)), (3, .int ((heirN sm an (mi 67) n dd p n).2)), (4, .int (nI n))], [.int (m 67 68), .int (nI n)], (zsh ++ vs, m, ml, (zmr g))) rfl ?_
    refine Wp.topi (y := nI n) (by rw [hI.e67]; exact R.2.2.2.2.2.1) ?_
    refine Wp.run 0 (24, [(0, .ref 66), (1, .int (nI p)), (2, .int (lateF (heirN sm an (mi 67) n dd p n).1)), (3, .int ((heirN sm an (mi 67) n dd p n).2)), (4, .int (nI n))], [.int (nI n), .int (nI n)], (zsh ++ vs, m, ml, (zmr g))) rfl ?_
    refine Wp.icmp_ge rfl (fun h1 => ?_) (fun h1 => ?_)
    · exact K m  hI
    · exact absurd (Int32.le_refl _) h1
  | succ k ih =>
    intro j m  hj9 hI
    have hlt9 : j < n := by omega
    refine Wp.run 5 (24, [(0, .ref 66), (1, .int (nI p)), (2, .int (lateF (heirN sm an (mi 67) n dd p j).1)), (3, .int ((heirN sm an (mi 67) n dd p j).2)), (4, .int (nI j))], [.int (m 67 68), .int (nI j)], (zsh ++ vs, m, ml, (zmr g))) rfl ?_
    refine Wp.topi (y := nI n) (by rw [hI.e67]; exact R.2.2.2.2.2.1) ?_
    refine Wp.run 0 (24, [(0, .ref 66), (1, .int (nI p)), (2, .int (lateF (heirN sm an (mi 67) n dd p j).1)), (3, .int ((heirN sm an (mi 67) n dd p j).2)), (4, .int (nI j))], [.int (nI n), .int (nI j)], (zsh ++ vs, m, ml, (zmr g))) rfl ?_
    refine Wp.icmp_ge rfl (fun h1 => ?_) (fun h1 => ?_)
    · exact absurd h1 (nI_ge hlt9 hn9)
    · refine Wp.run 2 (30, [(0, .ref 66), (1, .int (nI p)), (2, .int (lateF (heirN sm an (mi 67) n dd p j).1)), (3, .int ((heirN sm an (mi 67) n dd p j).2)), (4, .int (nI j))], [.int (nI j), .ref 66], (zsh ++ vs, m, ml, (zmr g))) rfl ?_
      refine Wp.call (as := [.ref 66, .int (nI j)]) (rest := []) rfl rfl rfl rfl rfl (Nat.le_of_ble_eq_true rfl) (Nat.le_of_ble_eq_true rfl) rfl (by decide) (m_isHere (mi := m) j (by omega)) ?_
      rintro _ _ ⟨rfl, rfl⟩
      by_cases c4 : m 67 (8 + 10 * j + 4) = 0
      · rw [if_pos c4]
        refine Wp.run 4 (40, [(0, .ref 66), (1, .int (nI p)), (2, .int (lateF (heirN sm an (mi 67) n dd p j).1)), (3, .int ((heirN sm an (mi 67) n dd p j).2)), (4, .int (nI j))], [.int (nI p), .int (nI j), .ref 66], (zsh ++ vs, m, ml, (zmr g))) rfl ?_
        refine Wp.call (as := [.ref 66, .int (nI j), .int (nI p)]) (rest := []) rfl rfl rfl rfl rfl (Nat.le_of_ble_eq_true rfl) (Nat.le_of_ble_eq_true rfl) rfl (by decide) (m_isHeld (mi := m) j (nI p) (by omega)) ?_
        rintro _ _ ⟨rfl, rfl⟩
        by_cases c5 : m 67 (8 + 10 * j + 2) >>> (nI p &&& 31) &&& 1 = 1
        · rw [if_pos c5]
          refine Wp.run 3 (15, [(4, .int ((nI j) + 1)), (0, .ref 66), (1, .int (nI p)), (2, .int (lateF (heirN sm an (mi 67) n dd p j).1)), (3, .int ((heirN sm an (mi 67) n dd p j).2))], [], (zsh ++ vs, m, ml, (zmr g))) rfl ?_
          have e9 : (heirN sm an (mi 67) n dd p (j + 1)) = (heirN sm an (mi 67) n dd p j) := heirS_no (fun z => absurd (((congrArg (fun y => uN y j 2 >>> (nI p &&& 31) &&& 1) hI.e67).symm.trans c5).symm.trans (of_decide_eq_true z).2) (by decide))
          rw [nI_1]
          refine Wp.sub (a := [(0, .ref 66), (1, .int (nI p)), (2, .int (lateF (heirN sm an (mi 67) n dd p (j + 1)).1)), (3, .int ((heirN sm an (mi 67) n dd p (j + 1)).2)), (4, .int (nI (j + 1)))]) (zle_cons rfl (zle_cons rfl (zle_cons (by rw [e9]; rfl) (zle_cons (by rw [e9]; rfl) (zle_cons rfl zle_nil))))) ?_
          exact ih (j + 1) m (by omega) hI
        · rw [if_neg c5]
          refine Wp.run 7 (54, [(0, .ref 66), (1, .int (nI p)), (2, .int (lateF (heirN sm an (mi 67) n dd p j).1)), (3, .int ((heirN sm an (mi 67) n dd p j).2)), (4, .int (nI j))], [.int 2, .int (nI j), .ref 66, .int 2, .int (nI j), .ref 66], (zsh ++ vs, m, ml, (zmr g))) rfl ?_
          refine Wp.call (as := [.ref 66, .int (nI j), .int 2]) (rest := [.int 2, .int (nI j), .ref 66]) rfl rfl rfl rfl rfl (Nat.le_of_ble_eq_true rfl) (Nat.le_of_ble_eq_true rfl) rfl (by decide) (m_one (mi := m) j 2 (by omega)) ?_
          rintro _ _ ⟨rfl, rfl⟩
          refine Wp.run 4 (61, [(0, .ref 66), (1, .int (nI p)), (2, .int (lateF (heirN sm an (mi 67) n dd p j).1)), (3, .int ((heirN sm an (mi 67) n dd p j).2)), (4, .int (nI j))], [.int ((m 67 (8 + 10 * j + 2)) ||| ((1 : Int32) <<< ((nI p) &&& 31))), .int 2, .int (nI j), .ref 66], (zsh ++ vs, m, ml, (zmr g))) rfl ?_
          refine Wp.call (as := [.ref 66, .int (nI j), .int 2, .int ((m 67 (8 + 10 * j + 2)) ||| ((1 : Int32) <<< ((nI p) &&& 31)))]) (rest := []) rfl rfl rfl rfl rfl (Nat.le_of_ble_eq_true rfl) (Nat.le_of_ble_eq_true rfl) rfl (by decide) (m_change (mi := m) j 2 ((m 67 (8 + 10 * j + 2)) ||| ((1 : Int32) <<< (nI p &&& 31))) (by omega)) ?_
          rintro _ _ ⟨rfl, rfl⟩
          obtain ⟨p1, hp1⟩ : ∃ z, z = zup m 67 (8 + 10 * j + 2) ((m 67 (8 + 10 * j + 2)) ||| ((1 : Int32) <<< (nI p &&& 31))) := ⟨_, rfl⟩
          rw [← hp1]
          have R1 : RE E X71 X72 rv sm an p1 n dd := R.fr (fun a ha => by rw [hp1, zup_ne (by omega)]; exact hI.1 a (by omega) (by omega) (by omega) (by omega) (by omega)) (by rw [hp1, zup_rd (by omega), hI.e67]) (by rw [hp1, zup_rd (by omega), hI.e67]; exact R.2.2.2.2.1) (by rw [hp1, zup_rd (by omega), hI.e67])
          have e1 : p1 67 = upd (mi 67) (8 + 10 * j + 2) (uN (mi 67) j 2 ||| (1 : Int32) <<< (nI p &&& 31)) := by rw [hp1, zup_eq, hI.e67]
          refine Wp.run 3 (68, [(5, .int (m 67 (8 + 10 * j + 2))), (0, .ref 66), (1, .int (nI p)), (2, .int (lateF (heirN sm an (mi 67) n dd p j).1)), (3, .int ((heirN sm an (mi 67) n dd p j).2)), (4, .int (nI j))], [.int (nI p), .ref 66], (zsh ++ vs, p1, ml, (zmr g))) rfl ?_
          refine Wp.call (as := [.ref 66, .int (nI p)]) (rest := []) rfl rfl rfl rfl rfl (Nat.le_of_ble_eq_true rfl) (Nat.le_of_ble_eq_true rfl) rfl (by decide) (m_lost (mi := p1) R1 hp hdd) ?_
          rintro _ _ ⟨rfl, p2, rfl, k2⟩
          rw [e1]
          refine Wp.run 0 (71, [(5, .int (m 67 (8 + 10 * j + 2))), (0, .ref 66), (1, .int (nI p)), (2, .int (lateF (heirN sm an (mi 67) n dd p j).1)), (3, .int ((heirN sm an (mi 67) n dd p j).2)), (4, .int (nI j))], [.int (lostT sm an (mi 67) n dd p j)], (zsh ++ vs, p2, ml, (zmr g))) rfl ?_
          refine Wp.call (as := [.int (lostT sm an (mi 67) n dd p j)]) (rest := []) rfl rfl rfl rfl rfl (Nat.le_of_ble_eq_true rfl) (Nat.le_of_ble_eq_true rfl) rfl (by decide) (m_late (lostT sm an (mi 67) n dd p j)) ?_
          rintro _ _ ⟨rfl, rfl⟩
          refine Wp.run 5 (82, [(6, .int (lateF (lostT sm an (mi 67) n dd p j))), (5, .int (m 67 (8 + 10 * j + 2))), (0, .ref 66), (1, .int (nI p)), (2, .int (lateF (heirN sm an (mi 67) n dd p j).1)), (3, .int ((heirN sm an (mi 67) n dd p j).2)), (4, .int (nI j))], [.int (m 67 (8 + 10 * j + 2)), .int 2, .int (nI j), .ref 66], (zsh ++ vs, p2, ml, (zmr g))) rfl ?_
          refine Wp.call (as := [.ref 66, .int (nI j), .int 2, .int (m 67 (8 + 10 * j + 2))]) (rest := []) rfl rfl rfl rfl rfl (Nat.le_of_ble_eq_true rfl) (Nat.le_of_ble_eq_true rfl) rfl (by decide) (m_change (mi := p2) j 2 (m 67 (8 + 10 * j + 2)) (by omega)) ?_
          rintro _ _ ⟨rfl, rfl⟩
          obtain ⟨p3, hp3⟩ : ∃ z, z = zup p2 67 (8 + 10 * j + 2) (m 67 (8 + 10 * j + 2)) := ⟨_, rfl⟩
          rw [← hp3]
          refine Wp.run 3 (89, [(6, .int (lateF (lostT sm an (mi 67) n dd p j))), (5, .int (m 67 (8 + 10 * j + 2))), (0, .ref 66), (1, .int (nI p)), (2, .int (lateF (heirN sm an (mi 67) n dd p j).1)), (3, .int ((heirN sm an (mi 67) n dd p j).2)), (4, .int (nI j))], [.int (lateF (heirN sm an (mi 67) n dd p j).1), .int (lateF (lostT sm an (mi 67) n dd p j))], (zsh ++ vs, p3, ml, (zmr g))) rfl ?_
          refine Wp.icmp_le rfl (fun h2 => ?_) (fun h2 => ?_)
          · refine Wp.run 8 (15, [(4, .int ((nI j) + 1)), (2, .int (if lateF (lostT sm an (mi 67) n dd p j) < lateF (heirN sm an (mi 67) n dd p j).1 then lateF (heirN sm an (mi 67) n dd p j).1 else lateF (lostT sm an (mi 67) n dd p j))), (3, .int ((heirN sm an (mi 67) n dd p j).2)), (6, .int (lateF (lostT sm an (mi 67) n dd p j))), (5, .int (m 67 (8 + 10 * j + 2))), (0, .ref 66), (1, .int (nI p))], [], (zsh ++ vs, p3, ml, (zmr g))) rfl ?_
            have hok : okH (mi 67) p j = true := decide_eq_true ⟨by rw [← hI.e67]; exact c4, by
              have z := c5
              rw [hI.e67, bit1 _ (by omega)] at z
              show uN (mi 67) j 2 >>> (nI p &&& 31) &&& 1 = 0
              rw [bit1 _ (by omega)]
              split
              · rename_i q; rw [if_pos q] at z; exact absurd rfl z
              · rfl⟩
            have st9 := heirS_st (l0 := lostN sm an (mi 67) n dd p) (ok := okH (mi 67) p) (L := lostT sm an (mi 67) n dd p) lostN_rng (fun _ => lostN_rng) hok
            have e9 : (heirN sm an (mi 67) n dd p (j + 1)) = (heirN sm an (mi 67) n dd p j) := st9.2 (Int32.not_lt.mpr h2)
            have e8 : (if lateF (lostT sm an (mi 67) n dd p j) < lateF (heirN sm an (mi 67) n dd p j).1 then lateF (heirN sm an (mi 67) n dd p j).1 else lateF (lostT sm an (mi 67) n dd p j)) = lateF (heirN sm an (mi 67) n dd p j).1 := by
              by_cases z : lateF (lostT sm an (mi 67) n dd p j) < lateF (heirN sm an (mi 67) n dd p j).1
              · rw [if_pos z]
              · rw [if_neg z]; exact Int32.le_antisymm h2 (Int32.not_lt.mp z)
            rw [nI_1]
            refine Wp.sub (a := [(0, .ref 66), (1, .int (nI p)), (2, .int (lateF (heirN sm an (mi 67) n dd p (j + 1)).1)), (3, .int ((heirN sm an (mi 67) n dd p (j + 1)).2)), (4, .int (nI (j + 1)))]) (zle_cons rfl (zle_cons rfl (zle_cons (by rw [e9]; exact congrArg (fun z => some (Value.int z)) e8) (zle_cons (by rw [e9]; rfl) (zle_cons rfl zle_nil))))) ?_
            exact ih (j + 1) p3 (by omega) ⟨fun a a1 a2 a3 a4 a5 => by
              by_cases ha : a = 67
              · subst ha; rw [hp3, zup_eq, k2.e67, e1, ← hI.e67]; exact upd_back
              · rw [hp3, zup_ne ha, k2.1 a a1 a2 a3 a4 a5, hp1, zup_ne ha]; exact hI.1 a a1 a2 a3 a4 a5, fun k hk => by rw [hp3, zup_ne (by decide), k2.2 k hk, hp1, zup_ne (by decide)]; exact hI.2 k hk⟩
          · refine Wp.run 9 (15, [(4, .int ((nI j) + 1)), (2, .int (if lateF (lostT sm an (mi 67) n dd p j) < lateF (heirN sm an (mi 67) n dd p j).1 then lateF (heirN sm an (mi 67) n dd p j).1 else lateF (lostT sm an (mi 67) n dd p j))), (3, .int (nI j)), (6, .int (lateF (lostT sm an (mi 67) n dd p j))), (5, .int (m 67 (8 + 10 * j + 2))), (0, .ref 66), (1, .int (nI p))], [], (zsh ++ vs, p3, ml, (zmr g))) rfl ?_
            have hok : okH (mi 67) p j = true := decide_eq_true ⟨by rw [← hI.e67]; exact c4, by
              have z := c5
              rw [hI.e67, bit1 _ (by omega)] at z
              show uN (mi 67) j 2 >>> (nI p &&& 31) &&& 1 = 0
              rw [bit1 _ (by omega)]
              split
              · rename_i q; rw [if_pos q] at z; exact absurd rfl z
              · rfl⟩
            have st9 := heirS_st (l0 := lostN sm an (mi 67) n dd p) (ok := okH (mi 67) p) (L := lostT sm an (mi 67) n dd p) lostN_rng (fun _ => lostN_rng) hok
            have e9 : (heirN sm an (mi 67) n dd p (j + 1)) = (lostT sm an (mi 67) n dd p j, nI j) := st9.1 (Int32.not_le.mp h2)
            have e8 : (if lateF (lostT sm an (mi 67) n dd p j) < lateF (heirN sm an (mi 67) n dd p j).1 then lateF (heirN sm an (mi 67) n dd p j).1 else lateF (lostT sm an (mi 67) n dd p j)) = lateF (lostT sm an (mi 67) n dd p j) := if_neg (fun z => h2 (Int32.le_of_lt z))
            rw [nI_1]
            refine Wp.sub (a := [(0, .ref 66), (1, .int (nI p)), (2, .int (lateF (heirN sm an (mi 67) n dd p (j + 1)).1)), (3, .int ((heirN sm an (mi 67) n dd p (j + 1)).2)), (4, .int (nI (j + 1)))]) (zle_cons rfl (zle_cons rfl (zle_cons (by rw [e9]; exact congrArg (fun z => some (Value.int z)) e8) (zle_cons (by rw [e9]; rfl) (zle_cons rfl zle_nil))))) ?_
            exact ih (j + 1) p3 (by omega) ⟨fun a a1 a2 a3 a4 a5 => by
              by_cases ha : a = 67
              · subst ha; rw [hp3, zup_eq, k2.e67, e1, ← hI.e67]; exact upd_back
              · rw [hp3, zup_ne ha, k2.1 a a1 a2 a3 a4 a5, hp1, zup_ne ha]; exact hI.1 a a1 a2 a3 a4 a5, fun k hk => by rw [hp3, zup_ne (by decide), k2.2 k hk, hp1, zup_ne (by decide)]; exact hI.2 k hk⟩
      · rw [if_neg c4]
        refine Wp.run 3 (15, [(4, .int ((nI j) + 1)), (0, .ref 66), (1, .int (nI p)), (2, .int (lateF (heirN sm an (mi 67) n dd p j).1)), (3, .int ((heirN sm an (mi 67) n dd p j).2))], [], (zsh ++ vs, m, ml, (zmr g))) rfl ?_
        have e9 : (heirN sm an (mi 67) n dd p (j + 1)) = (heirN sm an (mi 67) n dd p j) := heirS_no (fun z => c4 (by rw [hI.e67]; exact (of_decide_eq_true z).1))
        rw [nI_1]
        refine Wp.sub (a := [(0, .ref 66), (1, .int (nI p)), (2, .int (lateF (heirN sm an (mi 67) n dd p (j + 1)).1)), (3, .int ((heirN sm an (mi 67) n dd p (j + 1)).2)), (4, .int (nI (j + 1)))]) (zle_cons rfl (zle_cons rfl (zle_cons (by rw [e9]; rfl) (zle_cons (by rw [e9]; rfl) (zle_cons rfl zle_nil))))) ?_
        exact ih (j + 1) m (by omega) hI
theorem m_heir {E : zEn} {vs : List (Nat × Nat)} {mi : Nat → Nat → Int32} {ml : Nat → Nat → Int64} {g : Nat → Nat → Option Nat} {X71 X72 : Nat → Int32} {rv : Int32 → Prop} {sm : Int32 → (Nat → Int32) → Int32} {an : Int32 → Int32} {n dd : Nat} (R : RE E X71 X72 rv sm an mi n dd) {p : Nat} (hp : p < 8) (hdd : dd + 61 < 100000) : Wp E 26 pg_M_heir 0 (lv_args 0 [.ref 66, .int (nI p)]) [] (zsh ++ vs, mi, ml, (zmr g)) (fun r w' => r = some (.int ((heirN sm an (mi 67) n dd p n).2)) ∧ ∃ m, w' = (zsh ++ vs, m, ml, zmr g) ∧ KO mi m) := by
  have h6 := R.2.2.2.2.2.2
  have K : ∀ (m : Nat → Nat → Int32), (KO mi m) → Wp E 26 pg_M_heir 112 [(0, .ref 66), (1, .int (nI p)), (2, .int (lateF (heirN sm an (mi 67) n dd p n).1)), (3, .int ((heirN sm an (mi 67) n dd p n).2)), (4, .int (nI n))] [] (zsh ++ vs, m, ml, zmr g) (fun r w' => r = some (.int ((heirN sm an (mi 67) n dd p n).2)) ∧ ∃ m, w' = (zsh ++ vs, m, ml, zmr g) ∧ KO mi m) := by
    intro m hI
    refine Wp.run 1 (113, [(0, .ref 66), (1, .int (nI p)), (2, .int (lateF (heirN sm an (mi 67) n dd p n).1)), (3, .int ((heirN sm an (mi 67) n dd p n).2)), (4, .int (nI n))], [.int ((heirN sm an (mi 67) n dd p n).2)], (zsh ++ vs, m, ml, (zmr g))) rfl ?_
    refine Wp.ret rfl rfl rfl ?_
    exact ⟨rfl, m, rfl, hI⟩
  refine Wp.run 2 (2, [(0, .ref 66), (1, .int (nI p))], [.int (nI p), .ref 66], (zsh ++ vs, mi, ml, (zmr g))) rfl ?_
  refine Wp.call (as := [.ref 66, .int (nI p)]) (rest := []) rfl rfl rfl rfl rfl (Nat.le_of_ble_eq_true rfl) (Nat.le_of_ble_eq_true rfl) rfl (by decide) (m_lost R hp hdd) ?_
  rintro _ _ ⟨rfl, p2, rfl, k2⟩
  refine Wp.run 0 (5, [(0, .ref 66), (1, .int (nI p))], [.int (lostN sm an (mi 67) n dd p)], (zsh ++ vs, p2, ml, (zmr g))) rfl ?_
  refine Wp.call (as := [.int (lostN sm an (mi 67) n dd p)]) (rest := []) rfl rfl rfl rfl rfl (Nat.le_of_ble_eq_true rfl) (Nat.le_of_ble_eq_true rfl) rfl (by decide) (m_late (lostN sm an (mi 67) n dd p)) ?_
  rintro _ _ ⟨rfl, rfl⟩
  refine Wp.run 5 (15, [(4, .int 0), (3, .int (-5)), (2, .int (lateF (lostN sm an (mi 67) n dd p))), (0, .ref 66), (1, .int (nI p))], [], (zsh ++ vs, p2, ml, (zmr g))) rfl ?_
  refine Wp.sub (a := [(0, .ref 66), (1, .int (nI p)), (2, .int (lateF (heirN sm an (mi 67) n dd p 0).1)), (3, .int ((heirN sm an (mi 67) n dd p 0).2)), (4, .int (nI 0))]) (zle_cons rfl (zle_cons rfl (zle_cons rfl (zle_cons rfl (zle_cons rfl (zle_nil)))))) ?_
  exact m_heir_l R h6 hp hdd (by omega) K n 0 p2 (by omega) k2
