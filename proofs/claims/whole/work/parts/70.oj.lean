/-! WHAT IS SEEN, on both sides -/
def sQ (P : Nat → Int32) (r : Nat) : Nat := (P (72 + 3 * r)).toNatClampNeg
def sT (P : Nat → Int32) (r : Nat) : Nat := (P (73 + 3 * r)).toNatClampNeg
def sU (P : Nat → Int32) (r : Nat) : Nat := (P (74 + 3 * r)).toNatClampNeg
/-- the class's hand at 21 shows what P tells -/
def SE3 (mi : Nat → Nat → Int32) (P : Nat → Int32) (n c : Nat) : Prop := c ≤ 5 ∧ n ≤ 6 ∧ mi 21 0 = nI c ∧ ∀ r, r < c → sQ P r < n ∧ sT P r ≤ 12 ∧ sU P r ≤ 99 ∧ mi 22 r = nI (sQ P r) ∧ mi 23 r = nI (sT P r) ∧ mi 24 r = nI (sU P r)
/-- so does a row -/
def SR3 (N P : Nat → Int32) (n c : Nat) : Prop := c ≤ 5 ∧ n ≤ 6 ∧ N 71 = nI c ∧ ∀ r, r < c → sQ P r < n ∧ sT P r ≤ 12 ∧ sU P r ≤ 99 ∧ N (72 + 3 * r) = nI (sQ P r) ∧ N (73 + 3 * r) = nI (sT P r) ∧ N (74 + 3 * r) = nI (sU P r)
theorem SEr.two {mi : Nat → Nat → Int32} {N : Nat → Int32} {n : Nat} (h : SEr mi 21 N n) (h6 : n ≤ 6) : ∃ c, SE3 mi N n c ∧ SR3 N N n c := by
  obtain ⟨c, h1, h2, h3, h4⟩ := h
  have key : ∀ r, r < c → sQ N r < n ∧ sT N r ≤ 12 ∧ sU N r ≤ 99 ∧ (N (72 + 3 * r) = nI (sQ N r) ∧ N (73 + 3 * r) = nI (sT N r) ∧ N (74 + 3 * r) = nI (sU N r)) ∧ mi 22 r = nI (sQ N r) ∧ mi 23 r = nI (sT N r) ∧ mi 24 r = nI (sU N r) := fun r hr => by
    obtain ⟨q, t, u, a1, a2, a3, a4, a5, a6, a7, a8, a9⟩ := h4 r hr
    have eq : sQ N r = q := by unfold sQ; rw [a4, nI_clamp (by omega)]
    have et : sT N r = t := by unfold sT; rw [a5, nI_clamp (by omega)]
    have eu : sU N r = u := by unfold sU; rw [a6, nI_clamp (by omega)]
    rw [eq, et, eu]
    exact ⟨a1, a2, a3, ⟨a4, a5, a6⟩, a7, a8, a9⟩
  refine ⟨c, ⟨h1, h6, h2, fun r hr => ?_⟩, ⟨h1, h6, h3, fun r hr => ?_⟩⟩
  · obtain ⟨k1, k2, k3, k4, k5⟩ := key r hr
    exact ⟨k1, k2, k3, k5⟩
  · obtain ⟨k1, k2, k3, k4, k5⟩ := key r hr
    exact ⟨k1, k2, k3, k4⟩
theorem SE3.fr {mi m : Nat → Nat → Int32} {P : Nat → Int32} {n c : Nat} (S : SE3 mi P n c) (h : ∀ b, 21 ≤ b → b ≤ 24 → m b = mi b) : SE3 m P n c := by
  obtain ⟨s1, s2, s3, s4⟩ := S
  refine ⟨s1, s2, by rw [h 21 (by omega) (by omega)]; exact s3, fun r hr => ?_⟩
  rw [h 22 (by omega) (by omega), h 23 (by omega) (by omega), h 24 (by omega) (by omega)]
  exact s4 r hr
theorem SR3.fr {N N' P : Nat → Int32} {n c : Nat} (S : SR3 N P n c) (h : ∀ i, 71 ≤ i → N' i = N i) : SR3 N' P n c := by
  obtain ⟨s1, s2, s3, s4⟩ := S
  refine ⟨s1, s2, by rw [h 71 (by omega)]; exact s3, fun r hr => ?_⟩
  rw [h (72 + 3 * r) (by omega), h (73 + 3 * r) (by omega), h (74 + 3 * r) (by omega)]
  exact s4 r hr
/-- on the day d all is as it was seen that day: M, the memories -/
def AG (P M : Nat → Int32) (d c : Nat) : Prop := ∀ r, r < c → sT P r = d → M (sQ P r) = nI (sU P r)
/-- all is as seen -/
def SO (sm : Int32 → (Nat → Int32) → Int32) (an : Int32 → Int32) (N : Nat → Int32) (n dd : Nat) (P : Nat → Int32) (c : Nat) : Prop := ∀ r, r < c → uN (daysN sm an N n dd (sT P r)) (sQ P r) 3 = nI (sU P r)
abbrev AGd (sm : Int32 → (Nat → Int32) → Int32) (an : Int32 → Int32) (N : Nat → Int32) (n dd : Nat) (P : Nat → Int32) (c d : Nat) : Prop := AG P (fun q => uN (daysN sm an N n dd d) q 3) d c
section SOS
variable {sm : Int32 → (Nat → Int32) → Int32} {an : Int32 → Int32} {N : Nat → Int32} {n dd : Nat} {P : Nat → Int32} {c d : Nat}
theorem SO.ag (h : SO sm an N n dd P c) : AGd sm an N n dd P c d := fun r hr e => by
  have := h r hr
  rw [e] at this
  exact this
theorem AG.so {D : Nat} (h : ∀ d, d ≤ D → AGd sm an N n dd P c d) (hD : ∀ r, r < c → sT P r ≤ D) : SO sm an N n dd P c := fun r hr => h (sT P r) (hD r hr) r hr rfl
theorem AG.cg {M M' : Nat → Int32} (h : ∀ q, q < n → M q = M' q) (hq : ∀ r, r < c → sQ P r < n) : AG P M d c ↔ AG P M' d c := ⟨fun z r hr e => by rw [← h _ (hq r hr)]; exact z r hr e, fun z r hr e => by rw [h _ (hq r hr)]; exact z r hr e⟩
end SOS
theorem mx12 {a b : Nat} (ha : a ≤ 12) (hb : b ≤ 12) : ∃ c, c ≤ 12 ∧ a ≤ c ∧ b ≤ c ∧ (if nI a < nI b then nI b else nI a) = nI c := by
  by_cases h : a < b
  · exact ⟨b, hb, by omega, by omega, if_pos (nI_lt h (by omega))⟩
  · exact ⟨a, ha, by omega, by omega, if_neg (nI_nlt (by omega) (by omega))⟩
theorem c_ag_l {E : zEn} {vs : List (Nat × Nat)} {mi : Nat → Nat → Int32} {ml : Nat → Nat → Int64} {g : Nat → Nat → Option Nat} {P : Nat → Int32} {n c d : Nat} (S : SE3 mi P n c) (hd : d < 100) : ∀ (k j : Nat), j + k = c → (∀ r, r < j → sT P r = d → mi 43 (sQ P r) = nI (sU P r)) → Wp E 0 pg_Hand_agrees 2 [(0, .ref 21), (1, .int (nI d)), (2, .ref 43), (3, .int (nI j))] [] (zsh ++ vs, mi, ml, (zmr g)) (fun r w' => (∃ b, r = some (.int b) ∧ ((AG P (mi 43) d c ∧ b = 1) ∨ (¬ (AG P (mi 43) d c) ∧ b = 0))) ∧ w' = (zsh ++ vs, mi, ml, zmr g)) := by
  intro k
  induction k with
  | zero =>
    intro j  hj h1
    obtain rfl : c = j := by omega
    refine Wp.run 3 (7, [(0, .ref 21), (1, .int (nI d)), (2, .ref 43), (3, .int (nI c))], [.int (mi 21 0), .int (nI c)], (zsh ++ vs, mi, ml, (zmr g))) rfl ?_
    refine Wp.topi (y := nI c) (S.2.2.1) ?_
    refine Wp.run 0 (7, [(0, .ref 21), (1, .int (nI d)), (2, .ref 43), (3, .int (nI c))], [.int (nI c), .int (nI c)], (zsh ++ vs, mi, ml, (zmr g))) rfl ?_
    refine Wp.icmp_ge rfl (fun h31 => ?_) (fun h31 => ?_)
    · refine Wp.run 1 (46, [(0, .ref 21), (1, .int (nI d)), (2, .ref 43), (3, .int (nI c))], [.int 1], (zsh ++ vs, mi, ml, (zmr g))) rfl ?_
      refine Wp.ret rfl rfl rfl ?_
      exact ⟨⟨1, rfl, Or.inl ⟨h1, rfl⟩⟩, rfl⟩
    · exact absurd (Int32.le_refl _) h31
  | succ k ih =>
    intro j  hj h1
    have hjc : j < c := by omega
    obtain ⟨s1, s2, s3, s4, s5, s6⟩ := S.2.2.2 j hjc
    have s7 := S.2.1
    have s8 := S.1
    refine Wp.run 3 (7, [(0, .ref 21), (1, .int (nI d)), (2, .ref 43), (3, .int (nI j))], [.int (mi 21 0), .int (nI j)], (zsh ++ vs, mi, ml, (zmr g))) rfl ?_
    refine Wp.topi (y := nI c) (S.2.2.1) ?_
    refine Wp.run 0 (7, [(0, .ref 21), (1, .int (nI d)), (2, .ref 43), (3, .int (nI j))], [.int (nI c), .int (nI j)], (zsh ++ vs, mi, ml, (zmr g))) rfl ?_
    refine Wp.icmp_ge rfl (fun h31 => ?_) (fun h31 => ?_)
    · exact absurd h31 (nI_ge hjc (by have := S.1; omega))
    · refine Wp.run 3 (15, [(0, .ref 21), (1, .int (nI d)), (2, .ref 43), (3, .int (nI j))], [.int (nI j), .ref 23], (zsh ++ vs, mi, ml, (zmr g))) rfl ?_
      refine Wp.ialn rfl (by decide) rfl (by omega) (by decide) ?_
      refine Wp.topi (y := nI (sT P j)) (s5) ?_
      refine Wp.run 1 (17, [(0, .ref 21), (1, .int (nI d)), (2, .ref 43), (3, .int (nI j))], [.int (nI d), .int (nI (sT P j))], (zsh ++ vs, mi, ml, (zmr g))) rfl ?_
      refine Wp.icmp_ne rfl (fun h32 => ?_) (fun h32 => ?_)
      · refine Wp.run 2 (2, [(3, .int ((nI j) + 1)), (0, .ref 21), (1, .int (nI d)), (2, .ref 43)], [], (zsh ++ vs, mi, ml, (zmr g))) rfl ?_
        rw [nI_1]
        refine Wp.sub (a := [(0, .ref 21), (1, .int (nI d)), (2, .ref 43), (3, .int (nI (j + 1)))]) (zle_cons rfl (zle_cons rfl (zle_cons rfl (zle_cons rfl (zle_nil))))) ?_
        refine ih (j + 1) (by omega) (fun r hr e9 => ?_)
        by_cases er : r = j
        · subst er
          exact absurd (congrArg nI e9) h32
        · exact h1 r (by omega) e9
      · refine Wp.run 4 (26, [(0, .ref 21), (1, .int (nI d)), (2, .ref 43), (3, .int (nI j))], [.int (nI j), .ref 22, .ref 43], (zsh ++ vs, mi, ml, (zmr g))) rfl ?_
        refine Wp.ialn rfl (by decide) rfl (by omega) (by decide) ?_
        refine Wp.topi (y := nI (sQ P j)) (s4) ?_
        refine Wp.ialn rfl (by decide) rfl (by omega) (by decide) ?_
        refine Wp.run 3 (33, [(0, .ref 21), (1, .int (nI d)), (2, .ref 43), (3, .int (nI j))], [.int (nI j), .ref 24, .int (mi 43 (sQ P j))], (zsh ++ vs, mi, ml, (zmr g))) rfl ?_
        refine Wp.ialn rfl (by decide) rfl (by omega) (by decide) ?_
        refine Wp.topi (y := nI (sU P j)) (s6) ?_
        refine Wp.run 0 (34, [(0, .ref 21), (1, .int (nI d)), (2, .ref 43), (3, .int (nI j))], [.int (nI (sU P j)), .int (mi 43 (sQ P j))], (zsh ++ vs, mi, ml, (zmr g))) rfl ?_
        refine Wp.icmp_eq rfl (fun h33 => ?_) (fun h33 => ?_)
        · refine Wp.run 2 (2, [(3, .int ((nI j) + 1)), (0, .ref 21), (1, .int (nI d)), (2, .ref 43)], [], (zsh ++ vs, mi, ml, (zmr g))) rfl ?_
          rw [nI_1]
          refine Wp.sub (a := [(0, .ref 21), (1, .int (nI d)), (2, .ref 43), (3, .int (nI (j + 1)))]) (zle_cons rfl (zle_cons rfl (zle_cons rfl (zle_cons rfl (zle_nil))))) ?_
          refine ih (j + 1) (by omega) (fun r hr e9 => ?_)
          by_cases er : r = j
          · subst er
            exact h33
          · exact h1 r (by omega) e9
        · refine Wp.run 1 (38, [(0, .ref 21), (1, .int (nI d)), (2, .ref 43), (3, .int (nI j))], [.int 0], (zsh ++ vs, mi, ml, (zmr g))) rfl ?_
          refine Wp.ret rfl rfl rfl ?_
          exact ⟨⟨0, rfl, Or.inr ⟨fun z => h33 (z j hjc ((nI_eq (by omega) (by omega)).mp h32)), rfl⟩⟩, rfl⟩
theorem c_ag {E : zEn} {vs : List (Nat × Nat)} {mi : Nat → Nat → Int32} {ml : Nat → Nat → Int64} {g : Nat → Nat → Option Nat} {P : Nat → Int32} {n c d : Nat} (S : SE3 mi P n c) (hd : d < 100) : Wp E 0 pg_Hand_agrees 0 (lv_args 0 [.ref 21, .int (nI d), .ref 43]) [] (zsh ++ vs, mi, ml, (zmr g)) (fun r w' => (∃ b, r = some (.int b) ∧ ((AG P (mi 43) d c ∧ b = 1) ∨ (¬ (AG P (mi 43) d c) ∧ b = 0))) ∧ w' = (zsh ++ vs, mi, ml, zmr g)) := by
  refine Wp.run 2 (2, [(3, .int 0), (0, .ref 21), (1, .int (nI d)), (2, .ref 43)], [], (zsh ++ vs, mi, ml, (zmr g))) rfl ?_
  refine Wp.sub (a := [(0, .ref 21), (1, .int (nI d)), (2, .ref 43), (3, .int (nI 0))]) (zle_cons rfl (zle_cons rfl (zle_cons rfl (zle_cons rfl (zle_nil))))) ?_
  exact c_ag_l S hd c 0 (by omega) (fun r hr => absurd hr (Nat.not_lt_zero r))
theorem c_ld_l {E : zEn} {vs : List (Nat × Nat)} {mi : Nat → Nat → Int32} {ml : Nat → Nat → Int64} {g : Nat → Nat → Option Nat} {P : Nat → Int32} {n c : Nat} (S : SE3 mi P n c) : ∀ (k j : Nat) (L : Nat), j + k = c → (L ≤ 12) → (∀ r, r < j → sT P r ≤ L) → Wp E 0 pg_Hand_lastSeenDay 4 [(0, .ref 21), (1, .int (nI L)), (2, .int (nI j))] [] (zsh ++ vs, mi, ml, (zmr g)) (fun r w' => ∃ L, L ≤ 12 ∧ r = some (.int (nI L)) ∧ (∀ r, r < c → sT P r ≤ L) ∧ w' = (zsh ++ vs, mi, ml, zmr g)) := by
  intro k
  induction k with
  | zero =>
    intro j L hj h1 h2
    obtain rfl : c = j := by omega
    refine Wp.run 3 (9, [(0, .ref 21), (1, .int (nI L)), (2, .int (nI c))], [.int (mi 21 0), .int (nI c)], (zsh ++ vs, mi, ml, (zmr g))) rfl ?_
    refine Wp.topi (y := nI c) (S.2.2.1) ?_
    refine Wp.run 0 (9, [(0, .ref 21), (1, .int (nI L)), (2, .int (nI c))], [.int (nI c), .int (nI c)], (zsh ++ vs, mi, ml, (zmr g))) rfl ?_
    refine Wp.icmp_ge rfl (fun h31 => ?_) (fun h31 => ?_)
    · refine Wp.run 1 (30, [(0, .ref 21), (1, .int (nI L)), (2, .int (nI c))], [.int (nI L)], (zsh ++ vs, mi, ml, (zmr g))) rfl ?_
      refine Wp.ret rfl rfl rfl ?_
      exact ⟨L, h1, rfl, h2, rfl⟩
    · exact absurd (Int32.le_refl _) h31
  | succ k ih =>
    intro j L hj h1 h2
    have hjc : j < c := by omega
    obtain ⟨s1, s2, s3, s4, s5, s6⟩ := S.2.2.2 j hjc
    have s8 := S.1
    obtain ⟨M, m1, m2, m3, m4⟩ := mx12 h1 s2
    refine Wp.run 3 (9, [(0, .ref 21), (1, .int (nI L)), (2, .int (nI j))], [.int (mi 21 0), .int (nI j)], (zsh ++ vs, mi, ml, (zmr g))) rfl ?_
    refine Wp.topi (y := nI c) (S.2.2.1) ?_
    refine Wp.run 0 (9, [(0, .ref 21), (1, .int (nI L)), (2, .int (nI j))], [.int (nI c), .int (nI j)], (zsh ++ vs, mi, ml, (zmr g))) rfl ?_
    refine Wp.icmp_ge rfl (fun h31 => ?_) (fun h31 => ?_)
    · exact absurd h31 (nI_ge hjc (by have := S.1; omega))
    · refine Wp.run 4 (18, [(0, .ref 21), (1, .int (nI L)), (2, .int (nI j))], [.int (nI j), .ref 23, .int (nI L)], (zsh ++ vs, mi, ml, (zmr g))) rfl ?_
      refine Wp.ialn rfl (by decide) rfl (by omega) (by decide) ?_
      refine Wp.topi (y := nI (sT P j)) (s5) ?_
      refine Wp.run 1 (22, [(0, .ref 21), (1, .int (nI L)), (2, .int (nI j))], [.int (if nI L < nI (sT P j) then nI (sT P j) else nI L)], (zsh ++ vs, mi, ml, (zmr g))) rfl ?_
      refine Wp.topi (y := nI M) (m4) ?_
      refine Wp.run 3 (4, [(2, .int ((nI j) + 1)), (1, .int (nI M)), (0, .ref 21)], [], (zsh ++ vs, mi, ml, (zmr g))) rfl ?_
      rw [nI_1]
      refine Wp.sub (a := [(0, .ref 21), (1, .int (nI M)), (2, .int (nI (j + 1)))]) (zle_cons rfl (zle_cons rfl (zle_cons rfl (zle_nil)))) ?_
      refine ih (j + 1) M (by omega) m1 (fun r hr => ?_)
      by_cases er : r = j
      · subst er; exact m3
      · exact Nat.le_trans (h2 r (by omega)) m2
theorem c_ld {E : zEn} {vs : List (Nat × Nat)} {mi : Nat → Nat → Int32} {ml : Nat → Nat → Int64} {g : Nat → Nat → Option Nat} {P : Nat → Int32} {n c : Nat} (S : SE3 mi P n c) : Wp E 0 pg_Hand_lastSeenDay 0 (lv_args 0 [.ref 21]) [] (zsh ++ vs, mi, ml, (zmr g)) (fun r w' => ∃ L, L ≤ 12 ∧ r = some (.int (nI L)) ∧ (∀ r, r < c → sT P r ≤ L) ∧ w' = (zsh ++ vs, mi, ml, zmr g)) := by
  refine Wp.run 4 (4, [(2, .int 0), (1, .int 0), (0, .ref 21)], [], (zsh ++ vs, mi, ml, (zmr g))) rfl ?_
  refine Wp.sub (a := [(0, .ref 21), (1, .int (nI 0)), (2, .int (nI 0))]) (zle_cons rfl (zle_cons rfl (zle_cons rfl (zle_nil)))) ?_
  exact c_ld_l S c 0 0 (by omega) (by omega) (fun r hr => absurd hr (Nat.not_lt_zero r))
theorem c_so_l {E : zEn} {vs : List (Nat × Nat)} {mi : Nat → Nat → Int32} {ml : Nat → Nat → Int64} {g : Nat → Nat → Option Nat} {g0 : Nat → Nat → Option Nat} {X : Nat → Nat → Int32} {nv : Nat} {wg : Nat → (Nat → Int32) → Int32} {sm : Int32 → (Nat → Int32) → Int32} {an : Int32 → Int32} (C : CE E vs g0 X nv wg sm an g mi) {N : Nat → Int32} {n dd : Nat}  {P : Nat → Int32} {c : Nat} (S : SE3 mi P n c) (hdd : dd + 13 < 100000) {L : Nat} (hL : L ≤ 12) (hT : ∀ r, r < c → sT P r ≤ L) : ∀ (k j : Nat) (m : Nat → Nat → Int32), j + k = L → (frB 38 mi m ∧ BR m 38 (g 38 3) nv (daysN sm an N n dd j) n (dd + j)) → (∀ d, d < j → AGd sm an N n dd P c d) → Wp E 5 pg_Foresight_seenIsSo 7 [(0, .ref 37), (1, .ref 21), (2, .int (nI L)), (3, .int (nI j))] [] (zsh ++ vs, m, ml, zmr g) (fun r w' => (∃ b, r = some (.int b) ∧ ((SO sm an N n dd P c ∧ b = 1) ∨ (¬ (SO sm an N n dd P c) ∧ b = 0))) ∧ ∃ m, w' = (zsh ++ vs, m, ml, zmr g) ∧ frB 38 mi m) := by
  intro k
  induction k with
  | zero =>
    intro j m hj hI h9
    obtain rfl : L = j := by omega
    refine Wp.run 2 (9, [(0, .ref 37), (1, .ref 21), (2, .int (nI L)), (3, .int (nI L))], [.int (nI L), .int (nI L)], (zsh ++ vs, m, ml, (zmr g))) rfl ?_
    refine Wp.icmp_ge rfl (fun h21 => ?_) (fun h21 => ?_)
    · refine Wp.run 5 (53, [(0, .ref 37), (1, .ref 21), (2, .int (nI L)), (3, .int (nI L))], [.ref 43, .int (nI L), .ref 21], (zsh ++ vs, m, ml, (zmr g))) rfl ?_
      refine Wp.call (as := [.ref 21, .int (nI L), .ref 43]) (rest := []) rfl rfl rfl rfl rfl (Nat.le_of_ble_eq_true rfl) (Nat.le_of_ble_eq_true rfl) rfl (by decide) (c_ag (mi := m) (d := L) (S.fr (fun b h1 h2 => hI.1 b (by omega))) (by omega)) ?_
      rintro _ _ ⟨⟨b, rfl, hb⟩, rfl⟩
      have ag : AG P (m 43) L c ↔ AGd sm an N n dd P c L := AG.cg (n := n) (fun q hq => hI.2.2.2.2.2.1 q hq 3 (by decide)) (fun r hr => (S.2.2.2 r hr).1)
      rcases hb with ⟨ha, rfl⟩ | ⟨ha, rfl⟩
      · refine Wp.run 0 (56, [(0, .ref 37), (1, .ref 21), (2, .int (nI L)), (3, .int (nI L))], [.int 1], (zsh ++ vs, m, ml, (zmr g))) rfl ?_
        refine Wp.ret rfl rfl rfl ?_
        exact ⟨⟨1, rfl, Or.inl ⟨AG.so (D := L) (fun d hd => by
          by_cases e : d = L
          · subst e; exact ag.mp ha
          · exact h9 d (by omega)) hT, rfl⟩⟩, m, rfl, hI.1⟩
      · refine Wp.run 0 (56, [(0, .ref 37), (1, .ref 21), (2, .int (nI L)), (3, .int (nI L))], [.int 0], (zsh ++ vs, m, ml, (zmr g))) rfl ?_
        refine Wp.ret rfl rfl rfl ?_
        exact ⟨⟨0, rfl, Or.inr ⟨fun z => ha (ag.mpr z.ag), rfl⟩⟩, m, rfl, hI.1⟩
    · exact absurd (Int32.le_refl _) h21
  | succ k ih =>
    intro j m hj hI h9
    have hjc : j < L := by omega
    refine Wp.run 2 (9, [(0, .ref 37), (1, .ref 21), (2, .int (nI L)), (3, .int (nI j))], [.int (nI L), .int (nI j)], (zsh ++ vs, m, ml, (zmr g))) rfl ?_
    refine Wp.icmp_ge rfl (fun h21 => ?_) (fun h21 => ?_)
    · exact absurd h21 (nI_ge hjc (by omega))
    · refine Wp.run 5 (21, [(0, .ref 37), (1, .ref 21), (2, .int (nI L)), (3, .int (nI j))], [.ref 43, .int (nI j), .ref 21], (zsh ++ vs, m, ml, (zmr g))) rfl ?_
      refine Wp.call (as := [.ref 21, .int (nI j), .ref 43]) (rest := []) rfl rfl rfl rfl rfl (Nat.le_of_ble_eq_true rfl) (Nat.le_of_ble_eq_true rfl) rfl (by decide) (c_ag (mi := m) (d := j) (S.fr (fun b h1 h2 => hI.1 b (by omega))) (by omega)) ?_
      rintro _ _ ⟨⟨b, rfl, hb⟩, rfl⟩
      have ag : AG P (m 43) j c ↔ AGd sm an N n dd P c j := AG.cg (n := n) (fun q hq => hI.2.2.2.2.2.1 q hq 3 (by decide)) (fun r hr => (S.2.2.2 r hr).1)
      rcases hb with ⟨ha, rfl⟩ | ⟨ha, rfl⟩
      · refine Wp.run 4 (35, [(0, .ref 37), (1, .ref 21), (2, .int (nI L)), (3, .int (nI j))], [.int 1000000, .ref 38], (zsh ++ vs, m, ml, (zmr g))) rfl ?_
        refine Wp.call (as := [.ref 38, .int 1000000]) (rest := []) rfl rfl rfl rfl rfl (Nat.le_of_ble_eq_true rfl) (Nat.le_of_ble_eq_true rfl) rfl (by decide) (c_day_38 (mi := m) (M := 1000000) C.1 C.2.1 C.2.2.1 (fun b hb => by rw [hI.1 b (by omega)]; exact C.2.2.2.1 b hb) hI.2 (by omega) (by omega) (by decide)) ?_
        rintro _ _ ⟨rfl, m', rfl, k1, k2⟩
        refine Wp.run 2 (7, [(3, .int ((nI j) + 1)), (0, .ref 37), (1, .ref 21), (2, .int (nI L))], [], (zsh ++ vs, m', ml, (zmr g))) rfl ?_
        rw [nI_1]
        refine Wp.sub (a := [(0, .ref 37), (1, .ref 21), (2, .int (nI L)), (3, .int (nI (j + 1)))]) (zle_cons rfl (zle_cons rfl (zle_cons rfl (zle_cons rfl (zle_nil))))) ?_
        exact ih (j + 1) m' (by omega) ⟨hI.1.tr k1, k2⟩ (fun d hd => by
          by_cases e : d = j
          · subst e; exact ag.mp ha
          · exact h9 d (by omega))
      · refine Wp.run 2 (28, [(0, .ref 37), (1, .ref 21), (2, .int (nI L)), (3, .int (nI j))], [.int 0], (zsh ++ vs, m, ml, (zmr g))) rfl ?_
        refine Wp.ret rfl rfl rfl ?_
        exact ⟨⟨0, rfl, Or.inr ⟨fun z => ha (ag.mpr z.ag), rfl⟩⟩, m, rfl, hI.1⟩
theorem c_so {E : zEn} {vs : List (Nat × Nat)} {mi : Nat → Nat → Int32} {ml : Nat → Nat → Int64} {g : Nat → Nat → Option Nat} {g0 : Nat → Nat → Option Nat} {X : Nat → Nat → Int32} {nv : Nat} {wg : Nat → (Nat → Int32) → Int32} {sm : Int32 → (Nat → Int32) → Int32} {an : Int32 → Int32} (C : CE E vs g0 X nv wg sm an g mi) {N : Nat → Int32} {n dd : Nat}  (B : BR mi 38 (g 38 3) nv N n dd) {P : Nat → Int32} {c : Nat} (S : SE3 mi P n c) (hdd : dd + 13 < 100000) : Wp E 5 pg_Foresight_seenIsSo 0 (lv_args 0 [.ref 37, .ref 21]) [] (zsh ++ vs, mi, ml, (zmr g)) (fun r w' => (∃ b, r = some (.int b) ∧ ((SO sm an N n dd P c ∧ b = 1) ∨ (¬ (SO sm an N n dd P c) ∧ b = 0))) ∧ ∃ m, w' = (zsh ++ vs, m, ml, zmr g) ∧ frB 38 mi m) := by
  refine Wp.run 1 (1, [(0, .ref 37), (1, .ref 21)], [.ref 21], (zsh ++ vs, mi, ml, (zmr g))) rfl ?_
  refine Wp.call (as := [.ref 21]) (rest := []) rfl rfl rfl rfl rfl (Nat.le_of_ble_eq_true rfl) (Nat.le_of_ble_eq_true rfl) rfl (by decide) (c_ld S) ?_
  rintro _ _ ⟨L, hL, rfl, hT, rfl⟩
  refine Wp.run 3 (7, [(3, .int 0), (2, .int (nI L)), (0, .ref 37), (1, .ref 21)], [], (zsh ++ vs, mi, ml, (zmr g))) rfl ?_
  refine Wp.sub (a := [(0, .ref 37), (1, .ref 21), (2, .int (nI L)), (3, .int (nI 0))]) (zle_cons rfl (zle_cons rfl (zle_cons rfl (zle_cons rfl (zle_nil))))) ?_
  exact c_so_l C S hdd hL hT L 0 mi (by omega) ⟨fun _ _ => rfl, B⟩ (fun d hd => absurd hd (Nat.not_lt_zero d))
theorem m_in_l {E : zEn} {vs : List (Nat × Nat)} {mi : Nat → Nat → Int32} {ml : Nat → Nat → Int64} {g : Nat → Nat → Option Nat} {P : Nat → Int32} {n c d : Nat} (S : SR3 (mi 67) P n c) (hd : d < 100) {Z : Option Value → zW → Prop} (K : ∀ (b : Int32), ((b = 1 ∧ AG P (fun q => mi 67 (8 + 10 * q + 3)) d c) ∨ (b = 0 ∧ ¬ (AG P (fun q => mi 67 (8 + 10 * q + 3)) d c))) → Wp E 25 pg_M_isAllSeen 99 [(0, .ref 66), (1, .int b), (2, .int (nI d)), (3, .int (nI c))] [] (zsh ++ vs, mi, ml, zmr g) Z) : ∀ (k j : Nat) (b : Int32), j + k = c → ((b = 1 ∧ ∀ r, r < j → sT P r = d → mi 67 (8 + 10 * sQ P r + 3) = nI (sU P r)) ∨ (b = 0 ∧ ¬ (∀ r, r < j → sT P r = d → mi 67 (8 + 10 * sQ P r + 3) = nI (sU P r)))) → Wp E 25 pg_M_isAllSeen 27 [(0, .ref 66), (1, .int b), (2, .int (nI d)), (3, .int (nI j))] [] (zsh ++ vs, mi, ml, zmr g) Z := by
  intro k
  induction k with
  | zero =>
    intro j b hj hb
    obtain rfl : c = j := by omega
    refine Wp.run 5 (35, [(0, .ref 66), (1, .int b), (2, .int (nI d)), (3, .int (nI c))], [.int (mi 67 71), .int (nI c)], (zsh ++ vs, mi, ml, (zmr g))) rfl ?_
    refine Wp.topi (y := nI c) (S.2.2.1) ?_
    refine Wp.run 0 (35, [(0, .ref 66), (1, .int b), (2, .int (nI d)), (3, .int (nI c))], [.int (nI c), .int (nI c)], (zsh ++ vs, mi, ml, (zmr g))) rfl ?_
    refine Wp.icmp_ge rfl (fun h1 => ?_) (fun h1 => ?_)
    · exact K b hb
    · exact absurd (Int32.le_refl _) h1
  | succ k ih =>
    intro j b hj hb
    have hjc : j < c := by omega
    obtain ⟨s1, s2, s3, s4, s5, s6⟩ := S.2.2.2 j hjc
    have s7 := S.2.1
    have s8 := S.1
    rcases hb with ⟨rfl, hb⟩ | ⟨rfl, hb⟩
    · skip
      refine Wp.run 5 (35, [(0, .ref 66), (1, .int 1), (2, .int (nI d)), (3, .int (nI j))], [.int (mi 67 71), .int (nI j)], (zsh ++ vs, mi, ml, (zmr g))) rfl ?_
      refine Wp.topi (y := nI c) (S.2.2.1) ?_
      refine Wp.run 0 (35, [(0, .ref 66), (1, .int 1), (2, .int (nI d)), (3, .int (nI j))], [.int (nI c), .int (nI j)], (zsh ++ vs, mi, ml, (zmr g))) rfl ?_
      refine Wp.icmp_ge rfl (fun h21 => ?_) (fun h21 => ?_)
      · exact absurd h21 (nI_ge hjc (by omega))
      · refine Wp.run 5 (44, [(0, .ref 66), (1, .int 1), (2, .int (nI d)), (3, .int (nI j))], [.int (72 + (3 * (nI j)))], (zsh ++ vs, mi, ml, (zmr g))) rfl ?_
        refine Wp.topi (y := nI (72 + 3 * j)) (ix_23 72 3 j) ?_
        refine Wp.run 8 (58, [(4, .int (nI (72 + 3 * j))), (0, .ref 66), (1, .int 1), (2, .int (nI d)), (3, .int (nI j))], [.int ((nI (72 + 3 * j)) + 1), .ref 67], (zsh ++ vs, mi, ml, (zmr g))) rfl ?_
        refine Wp.topi (y := nI (73 + 3 * j)) ((nI_1 _).trans (congrArg nI (by omega))) ?_
        refine Wp.ialn rfl (by decide) rfl (by omega) (by decide) ?_
        refine Wp.topi (y := nI (sT P j)) (s5) ?_
        refine Wp.run 1 (60, [(4, .int (nI (72 + 3 * j))), (0, .ref 66), (1, .int 1), (2, .int (nI d)), (3, .int (nI j))], [.int (nI d), .int (nI (sT P j))], (zsh ++ vs, mi, ml, (zmr g))) rfl ?_
        refine Wp.icmp_ne rfl (fun h22 => ?_) (fun h22 => ?_)
        · refine Wp.run 5 (27, [(3, .int ((nI j) + 1)), (1, .int 1), (4, .int (nI (72 + 3 * j))), (0, .ref 66), (2, .int (nI d))], [], (zsh ++ vs, mi, ml, (zmr g))) rfl ?_
          rw [nI_1]
          refine Wp.sub (a := [(0, .ref 66), (1, .int 1), (2, .int (nI d)), (3, .int (nI (j + 1)))]) (zle_cons rfl (zle_cons rfl (zle_cons rfl (zle_cons rfl (zle_nil))))) ?_
          refine ih (j + 1) 1 (by omega) (Or.inl ⟨rfl, fun r hr e9 => ?_⟩)
          by_cases er : r = j
          · subst er
            exact absurd (congrArg nI e9) h22
          · exact hb r (by omega) e9
        · refine Wp.run 4 (70, [(4, .int (nI (72 + 3 * j))), (0, .ref 66), (1, .int 1), (2, .int (nI d)), (3, .int (nI j))], [.int (nI (72 + 3 * j)), .ref 67, .ref 66], (zsh ++ vs, mi, ml, (zmr g))) rfl ?_
          refine Wp.ialn rfl (by decide) rfl (by omega) (by decide) ?_
          refine Wp.topi (y := nI (sQ P j)) (s4) ?_
          refine Wp.run 1 (72, [(4, .int (nI (72 + 3 * j))), (0, .ref 66), (1, .int 1), (2, .int (nI d)), (3, .int (nI j))], [.int 3, .int (nI (sQ P j)), .ref 66], (zsh ++ vs, mi, ml, (zmr g))) rfl ?_
          refine Wp.call (as := [.ref 66, .int (nI (sQ P j)), .int 3]) (rest := []) rfl rfl rfl rfl rfl (Nat.le_of_ble_eq_true rfl) (Nat.le_of_ble_eq_true rfl) rfl (by decide) (m_one (sQ P j) 3 (by omega)) ?_
          rintro _ _ ⟨rfl, rfl⟩
          refine Wp.run 5 (83, [(4, .int (nI (72 + 3 * j))), (0, .ref 66), (1, .int 1), (2, .int (nI d)), (3, .int (nI j))], [.int ((nI (72 + 3 * j)) + 2), .ref 67, .int (mi 67 (8 + 10 * (sQ P j) + 3))], (zsh ++ vs, mi, ml, (zmr g))) rfl ?_
          refine Wp.topi (y := nI (74 + 3 * j)) ((nI_add _ 2).trans (congrArg nI (by omega))) ?_
          refine Wp.ialn rfl (by decide) rfl (by omega) (by decide) ?_
          refine Wp.topi (y := nI (sU P j)) (s6) ?_
          refine Wp.run 0 (84, [(4, .int (nI (72 + 3 * j))), (0, .ref 66), (1, .int 1), (2, .int (nI d)), (3, .int (nI j))], [.int (nI (sU P j)), .int (mi 67 (8 + 10 * (sQ P j) + 3))], (zsh ++ vs, mi, ml, (zmr g))) rfl ?_
          refine Wp.icmp_ne rfl (fun h23 => ?_) (fun h23 => ?_)
          · refine Wp.run 4 (27, [(3, .int ((nI j) + 1)), (1, .int 0), (4, .int (nI (72 + 3 * j))), (0, .ref 66), (2, .int (nI d))], [], (zsh ++ vs, mi, ml, (zmr g))) rfl ?_
            rw [nI_1]
            refine Wp.sub (a := [(0, .ref 66), (1, .int 0), (2, .int (nI d)), (3, .int (nI (j + 1)))]) (zle_cons rfl (zle_cons rfl (zle_cons rfl (zle_cons rfl (zle_nil))))) ?_
            exact ih (j + 1) 0 (by omega) (Or.inr ⟨rfl, fun z => h23 (z j (by omega) ((nI_eq (by omega) (by omega)).mp h22))⟩)
          · refine Wp.run 5 (27, [(3, .int ((nI j) + 1)), (1, .int 1), (4, .int (nI (72 + 3 * j))), (0, .ref 66), (2, .int (nI d))], [], (zsh ++ vs, mi, ml, (zmr g))) rfl ?_
            rw [nI_1]
            refine Wp.sub (a := [(0, .ref 66), (1, .int 1), (2, .int (nI d)), (3, .int (nI (j + 1)))]) (zle_cons rfl (zle_cons rfl (zle_cons rfl (zle_cons rfl (zle_nil))))) ?_
            refine ih (j + 1) 1 (by omega) (Or.inl ⟨rfl, fun r hr e9 => ?_⟩)
            by_cases er : r = j
            · subst er
              exact h23
            · exact hb r (by omega) e9
    · skip
      refine Wp.run 5 (35, [(0, .ref 66), (1, .int 0), (2, .int (nI d)), (3, .int (nI j))], [.int (mi 67 71), .int (nI j)], (zsh ++ vs, mi, ml, (zmr g))) rfl ?_
      refine Wp.topi (y := nI c) (S.2.2.1) ?_
      refine Wp.run 0 (35, [(0, .ref 66), (1, .int 0), (2, .int (nI d)), (3, .int (nI j))], [.int (nI c), .int (nI j)], (zsh ++ vs, mi, ml, (zmr g))) rfl ?_
      refine Wp.icmp_ge rfl (fun h21 => ?_) (fun h21 => ?_)
      · exact absurd h21 (nI_ge hjc (by omega))
      · refine Wp.run 5 (44, [(0, .ref 66), (1, .int 0), (2, .int (nI d)), (3, .int (nI j))], [.int (72 + (3 * (nI j)))], (zsh ++ vs, mi, ml, (zmr g))) rfl ?_
        refine Wp.topi (y := nI (72 + 3 * j)) (ix_23 72 3 j) ?_
        refine Wp.run 7 (27, [(3, .int ((nI j) + 1)), (1, .int 0), (4, .int (nI (72 + 3 * j))), (0, .ref 66), (2, .int (nI d))], [], (zsh ++ vs, mi, ml, (zmr g))) rfl ?_
        rw [nI_1]
        refine Wp.sub (a := [(0, .ref 66), (1, .int 0), (2, .int (nI d)), (3, .int (nI (j + 1)))]) (zle_cons rfl (zle_cons rfl (zle_cons rfl (zle_cons rfl (zle_nil))))) ?_
        exact ih (j + 1) 0 (by omega) (Or.inr ⟨rfl, fun z => hb (fun r hr => z r (by omega))⟩)
theorem m_as_t0 {E : zEn} {vs : List (Nat × Nat)} {mi : Nat → Nat → Int32} {ml : Nat → Nat → Int64} {g : Nat → Nat → Option Nat} {p1 m : Nat → Nat → Int32} (a1 : ∀ b, ¬ b = 68 → p1 b = mi b) (a2 : ∀ i, i < 125 → p1 68 i = mi 67 i) (k : zKep3 p1 m) (hi : ∀ i, 125 ≤ i → m 67 i = mi 67 i) {y : Int32} : Wp E 25 pg_M_isAllSeen 109 [(0, .ref 66), (1, .int 0), (2, .int y)] [] (zsh ++ vs, m, ml, zmr g) (fun r w' => (r = some (.int 0)) ∧ ∃ m, w' = (zsh ++ vs, m, ml, zmr g) ∧ KO mi m) := by
  refine Wp.run 4 (117, [(0, .ref 66), (1, .int 0), (2, .int y)], [.ref 67, .ref 68], (zsh ++ vs, m, ml, (zmr g))) rfl ?_
  refine Wp.call (as := [.ref 68, .ref 67]) (rest := []) rfl rfl rfl rfl rfl (Nat.le_of_ble_eq_true rfl) (Nat.le_of_ble_eq_true rfl) rfl (by decide) (m_move_68_67 (mi := m)) ?_
  rintro _ _ ⟨rfl, rfl⟩
  obtain ⟨p3, hp3⟩ : ∃ z, z = zrow m 67 (mvR m 68 67 125) := ⟨_, rfl⟩
  rw [← hp3]
  have c1 : ∀ b, ¬ b = 67 → p3 b = m b := fun b hb => by rw [hp3, zrow_ne hb]
  have c2 : ∀ i, i < 125 → p3 67 i = m 68 i := fun i hi => by rw [hp3, zrow_eq, mvR_lt hi]
  have c3 : ∀ i, 125 ≤ i → p3 67 i = m 67 i := fun i hi => by rw [hp3, zrow_eq]; exact if_neg (by omega)
  refine Wp.run 1 (121, [(0, .ref 66), (1, .int 0), (2, .int y)], [.int 0], (zsh ++ vs, p3, ml, (zmr g))) rfl ?_
  refine Wp.ret rfl rfl rfl ?_
  exact ⟨rfl, p3, rfl, KO.back a1 a2 k hi c1 c2 c3⟩
theorem m_as_t1 {E : zEn} {vs : List (Nat × Nat)} {mi : Nat → Nat → Int32} {ml : Nat → Nat → Int64} {g : Nat → Nat → Option Nat} {p1 m : Nat → Nat → Int32} (a1 : ∀ b, ¬ b = 68 → p1 b = mi b) (a2 : ∀ i, i < 125 → p1 68 i = mi 67 i) (k : zKep3 p1 m) (hi : ∀ i, 125 ≤ i → m 67 i = mi 67 i) {y : Int32} : Wp E 25 pg_M_isAllSeen 109 [(0, .ref 66), (1, .int 1), (2, .int y)] [] (zsh ++ vs, m, ml, zmr g) (fun r w' => (r = some (.int 1)) ∧ ∃ m, w' = (zsh ++ vs, m, ml, zmr g) ∧ KO mi m) := by
  refine Wp.run 4 (117, [(0, .ref 66), (1, .int 1), (2, .int y)], [.ref 67, .ref 68], (zsh ++ vs, m, ml, (zmr g))) rfl ?_
  refine Wp.call (as := [.ref 68, .ref 67]) (rest := []) rfl rfl rfl rfl rfl (Nat.le_of_ble_eq_true rfl) (Nat.le_of_ble_eq_true rfl) rfl (by decide) (m_move_68_67 (mi := m)) ?_
  rintro _ _ ⟨rfl, rfl⟩
  obtain ⟨p3, hp3⟩ : ∃ z, z = zrow m 67 (mvR m 68 67 125) := ⟨_, rfl⟩
  rw [← hp3]
  have c1 : ∀ b, ¬ b = 67 → p3 b = m b := fun b hb => by rw [hp3, zrow_ne hb]
  have c2 : ∀ i, i < 125 → p3 67 i = m 68 i := fun i hi => by rw [hp3, zrow_eq, mvR_lt hi]
  have c3 : ∀ i, 125 ≤ i → p3 67 i = m 67 i := fun i hi => by rw [hp3, zrow_eq]; exact if_neg (by omega)
  refine Wp.run 1 (121, [(0, .ref 66), (1, .int 1), (2, .int y)], [.int 1], (zsh ++ vs, p3, ml, (zmr g))) rfl ?_
  refine Wp.ret rfl rfl rfl ?_
  exact ⟨rfl, p3, rfl, KO.back a1 a2 k hi c1 c2 c3⟩
theorem m_as_l {E : zEn} {vs : List (Nat × Nat)} {mi : Nat → Nat → Int32} {ml : Nat → Nat → Int64} {g : Nat → Nat → Option Nat} {X71 X72 : Nat → Int32} {rv : Int32 → Prop} {sm : Int32 → (Nat → Int32) → Int32} {an : Int32 → Int32} {n dd : Nat} (R : RE E X71 X72 rv sm an mi n dd) {p1 : Nat → Nat → Int32} (a1 : ∀ b, ¬ b = 68 → p1 b = mi b) (a2 : ∀ i, i < 125 → p1 68 i = mi 67 i) {P : Nat → Int32} {c : Nat} (S : SR3 (mi 67) P n c) (hdd : dd + 13 < 100000) : ∀ (k j : Nat) (m : Nat → Nat → Int32), j + k = 13 → (zKep3 p1 m ∧ m 67 = daysN sm an (mi 67) n dd j ∧ RE E X71 X72 rv sm an m n (dd + j)) → (∀ d, d < j → AGd sm an (mi 67) n dd P c d) → Wp E 25 pg_M_isAllSeen 15 [(0, .ref 66), (1, .int 1), (2, .int (nI j))] [] (zsh ++ vs, m, ml, zmr g) (fun r w' => (∃ b, r = some (.int b) ∧ ((SO sm an (mi 67) n dd P c ∧ b = 1) ∨ (¬ (SO sm an (mi 67) n dd P c) ∧ b = 0))) ∧ ∃ m, w' = (zsh ++ vs, m, ml, zmr g) ∧ KO mi m) := by
  have h6 := R.2.2.2.2.2.2
  have hi9 : ∀ (m : Nat → Nat → Int32) t, m 67 = daysN sm an (mi 67) n dd t → ∀ i, 125 ≤ i → m 67 i = mi 67 i := fun m t e i hi => by rw [e, daysN_70 h6 (by omega) (by omega)]
  intro k
  induction k with
  | zero =>
    intro j m hj hI h9
    obtain rfl : 13 = j := by omega
    refine Wp.run 2 (18, [(0, .ref 66), (1, .int 1), (2, .int (nI 13))], [.int 12, .int (nI 13)], (zsh ++ vs, m, ml, (zmr g))) rfl ?_
    refine Wp.icmp_gt rfl (fun h1 => ?_) (fun h1 => ?_)
    · refine (m_as_t1 a1 a2 hI.1 (hi9 m _ hI.2.1)).weak ?_
      rintro _ _ ⟨rfl, hk⟩
      exact ⟨⟨1, rfl, Or.inl ⟨AG.so (D := 12) (fun d hd => h9 d (by omega)) (fun r hr => (S.2.2.2 r hr).2.1), rfl⟩⟩, hk⟩
    · exact absurd (nI_lt (a := 12) (b := 13) (by decide) (by decide)) h1
  | succ k ih =>
    intro j m hj hI h9
    refine Wp.run 2 (18, [(0, .ref 66), (1, .int 1), (2, .int (nI j))], [.int 12, .int (nI j)], (zsh ++ vs, m, ml, (zmr g))) rfl ?_
    refine Wp.icmp_gt rfl (fun h21 => ?_) (fun h21 => ?_)
    · exact absurd h21 (nI_nlt (a := 12) (by omega) (by decide))
    · refine Wp.run 4 (27, [(3, .int 0), (0, .ref 66), (1, .int 1), (2, .int (nI j))], [], (zsh ++ vs, m, ml, (zmr g))) rfl ?_
      have ag : AG P (fun q => m 67 (8 + 10 * q + 3)) j c ↔ AGd sm an (mi 67) n dd P c j := by rw [hI.2.1]
      have K : ∀ (b : Int32), ((b = 1 ∧ AG P (fun q => m 67 (8 + 10 * q + 3)) j c) ∨ (b = 0 ∧ ¬ (AG P (fun q => m 67 (8 + 10 * q + 3)) j c))) → Wp E 25 pg_M_isAllSeen 99 [(0, .ref 66), (1, .int b), (2, .int (nI j)), (3, .int (nI c))] [] (zsh ++ vs, m, ml, zmr g) (fun r w' => (∃ b, r = some (.int b) ∧ ((SO sm an (mi 67) n dd P c ∧ b = 1) ∨ (¬ (SO sm an (mi 67) n dd P c) ∧ b = 0))) ∧ ∃ m, w' = (zsh ++ vs, m, ml, zmr g) ∧ KO mi m) := by
        intro b hb
        rcases hb with ⟨rfl, hb⟩ | ⟨rfl, hb⟩
        · skip
          refine Wp.run 1 (100, [(0, .ref 66), (1, .int 1), (2, .int (nI j)), (3, .int (nI c))], [.ref 66], (zsh ++ vs, m, ml, (zmr g))) rfl ?_
          refine Wp.call (as := [.ref 66]) (rest := []) rfl rfl rfl rfl rfl (Nat.le_of_ble_eq_true rfl) (Nat.le_of_ble_eq_true rfl) rfl (by decide) (m_dayE (mi := m) hI.2.2 (by omega)) ?_
          rintro _ _ ⟨rfl, m', rfl, k1, k2⟩
          have e2 : m' 67 = daysN sm an (mi 67) n dd (j + 1) := by rw [k1, hI.2.1, daysN]
          refine Wp.run 2 (15, [(2, .int ((nI j) + 1)), (0, .ref 66), (1, .int 1), (3, .int (nI c))], [], (zsh ++ vs, m', ml, (zmr g))) rfl ?_
          rw [nI_1]
          refine Wp.sub (a := [(0, .ref 66), (1, .int 1), (2, .int (nI (j + 1)))]) (zle_cons rfl (zle_cons rfl (zle_cons rfl (zle_nil)))) ?_
          exact ih (j + 1) m' (by omega) ⟨hI.1.tr k2, e2, hI.2.2.day k2 k1⟩ (fun d hd => by
            by_cases e : d = j
            · subst e; exact ag.mp hb
            · exact h9 d (by omega))
        · skip
          refine Wp.run 1 (100, [(0, .ref 66), (1, .int 0), (2, .int (nI j)), (3, .int (nI c))], [.ref 66], (zsh ++ vs, m, ml, (zmr g))) rfl ?_
          refine Wp.call (as := [.ref 66]) (rest := []) rfl rfl rfl rfl rfl (Nat.le_of_ble_eq_true rfl) (Nat.le_of_ble_eq_true rfl) rfl (by decide) (m_dayE (mi := m) hI.2.2 (by omega)) ?_
          rintro _ _ ⟨rfl, m', rfl, k1, k2⟩
          have e2 : m' 67 = daysN sm an (mi 67) n dd (j + 1) := by rw [k1, hI.2.1, daysN]
          refine Wp.run 2 (15, [(2, .int ((nI j) + 1)), (0, .ref 66), (1, .int 0), (3, .int (nI c))], [], (zsh ++ vs, m', ml, (zmr g))) rfl ?_
          rw [nI_1]
          refine Wp.sub (a := [(0, .ref 66), (1, .int 0), (2, .int (nI (j + 1)))]) (zle_cons rfl (zle_cons rfl (zle_cons rfl (zle_nil)))) ?_
          refine Wp.run 2 (18, [(0, .ref 66), (1, .int 0), (2, .int (nI (j + 1)))], [.int 12, .int (nI (j + 1))], (zsh ++ vs, m', ml, (zmr g))) rfl ?_
          refine Wp.icmp_gt rfl (fun h61 => ?_) (fun h61 => ?_)
          · refine (m_as_t0 a1 a2 (hI.1.tr k2) (hi9 m' _ e2)).weak ?_
            rintro _ _ ⟨rfl, hk⟩
            exact ⟨⟨0, rfl, Or.inr ⟨fun z => hb (ag.mpr z.ag), rfl⟩⟩, hk⟩
          · refine Wp.run 2 (109, [(0, .ref 66), (1, .int 0), (2, .int (nI (j + 1)))], [], (zsh ++ vs, m', ml, (zmr g))) rfl ?_
            refine (m_as_t0 a1 a2 (hI.1.tr k2) (hi9 m' _ e2)).weak ?_
            rintro _ _ ⟨rfl, hk⟩
            exact ⟨⟨0, rfl, Or.inr ⟨fun z => hb (ag.mpr z.ag), rfl⟩⟩, hk⟩
      refine Wp.sub (a := [(0, .ref 66), (1, .int 1), (2, .int (nI j)), (3, .int (nI 0))]) (zle_cons rfl (zle_cons rfl (zle_cons rfl (zle_cons rfl (zle_nil))))) ?_
      exact m_in_l (mi := m) (SR3.fr S (fun i hi => by rw [hI.2.1, daysN_70 h6 (by omega) (by omega)])) (by omega) K c 0 1 (by omega) (Or.inl ⟨rfl, fun r hr => absurd hr (Nat.not_lt_zero r)⟩)
theorem m_as {E : zEn} {vs : List (Nat × Nat)} {mi : Nat → Nat → Int32} {ml : Nat → Nat → Int64} {g : Nat → Nat → Option Nat} {X71 X72 : Nat → Int32} {rv : Int32 → Prop} {sm : Int32 → (Nat → Int32) → Int32} {an : Int32 → Int32} {n dd : Nat} (R : RE E X71 X72 rv sm an mi n dd) {P : Nat → Int32} {c : Nat} (S : SR3 (mi 67) P n c) (hdd : dd + 13 < 100000) : Wp E 25 pg_M_isAllSeen 0 (lv_args 0 [.ref 66]) [] (zsh ++ vs, mi, ml, (zmr g)) (fun r w' => (∃ b, r = some (.int b) ∧ ((SO sm an (mi 67) n dd P c ∧ b = 1) ∨ (¬ (SO sm an (mi 67) n dd P c) ∧ b = 0))) ∧ ∃ m, w' = (zsh ++ vs, m, ml, zmr g) ∧ KO mi m) := by
  refine Wp.run 4 (8, [(0, .ref 66)], [.ref 68, .ref 67], (zsh ++ vs, mi, ml, (zmr g))) rfl ?_
  refine Wp.call (as := [.ref 67, .ref 68]) (rest := []) rfl rfl rfl rfl rfl (Nat.le_of_ble_eq_true rfl) (Nat.le_of_ble_eq_true rfl) rfl (by decide) (m_move_67_68 (mi := mi)) ?_
  rintro _ _ ⟨rfl, rfl⟩
  obtain ⟨p1, hp1⟩ : ∃ z, z = zrow mi 68 (mvR mi 67 68 125) := ⟨_, rfl⟩
  rw [← hp1]
  have a1 : ∀ b, ¬ b = 68 → p1 b = mi b := fun b hb => by rw [hp1, zrow_ne hb]
  have a2 : ∀ i, i < 125 → p1 68 i = mi 67 i := fun i hi => by rw [hp1, zrow_eq, mvR_lt hi]
  have a3 : ∀ i, 125 ≤ i → p1 68 i = mi 68 i := fun i hi => by rw [hp1, zrow_eq]; exact if_neg (by omega)
  refine Wp.run 4 (15, [(2, .int 0), (1, .int 1), (0, .ref 66)], [], (zsh ++ vs, p1, ml, (zmr g))) rfl ?_
  have R1 : RE E X71 X72 rv sm an p1 n dd := R.fr (fun a ha => a1 a (by omega)) (by rw [a1 67 (by decide)]) (by rw [a1 67 (by decide)]; exact R.2.2.2.2.1) (by rw [a1 67 (by decide)])
  refine Wp.sub (a := [(0, .ref 66), (1, .int 1), (2, .int (nI 0))]) (zle_cons rfl (zle_cons rfl (zle_cons rfl (zle_nil)))) ?_
  exact m_as_l R a1 a2 S hdd 13 0 p1 (by omega) ⟨zKep3.rf, a1 67 (by decide), R1⟩ (fun d hd => absurd hd (Nat.not_lt_zero d))
