/-! THE CLASS: HEIR -/
theorem zup_idem {α : Type} {g : Nat → Nat → α} {a f : Nat} {v : α} : zup (zup g a f v) a f v = zup g a f v := by
  funext x y
  simp only [zup]
  split
  · split <;> rfl
  · rfl
/-- the longest and the heir among the first so many: ok, whether one may be taught; L, when it is lost then -/
def heirS (l0 : Int32) (ok : Nat → Bool) (L : Nat → Int32) : Nat → Int32 × Int32
  | 0 => (l0, -5)
  | p + 1 => if (heirS l0 ok L p).1 = -5 then heirS l0 ok L p else if ok p = true ∧ (L p = -5 ∨ (heirS l0 ok L p).1 < L p) then (L p, nI p) else heirS l0 ok L p
theorem heirS_stop {l0 : Int32} {ok : Nat → Bool} {L : Nat → Int32} {j : Nat} (h : (heirS l0 ok L j).1 = -5) : ∀ k, heirS l0 ok L (j + k) = heirS l0 ok L j
  | 0 => rfl
  | k + 1 => by
    have ih := heirS_stop h k
    rw [← Nat.add_assoc, heirS, ih, if_pos h]
abbrev okH (N : Nat → Int32) (p k : Nat) : Bool := decide (uN N k 4 = 0 ∧ uN N k 2 >>> (nI p &&& 31) &&& 1 = 0)
abbrev lostT (sm : Int32 → (Nat → Int32) → Int32) (an : Int32 → Int32) (N : Nat → Int32) (n dd p i : Nat) : Int32 := lostN sm an (upd N (8 + 10 * i + 2) (uN N i 2 ||| (1 : Int32) <<< (nI p &&& 31))) n dd p
abbrev heirN (sm : Int32 → (Nat → Int32) → Int32) (an : Int32 → Int32) (N : Nat → Int32) (n dd p : Nat) : Nat → Int32 × Int32 := heirS (lostN sm an N n dd p) (okH N p) (lostT sm an N n dd p)
theorem c_heir_l {E : zEn} {vs : List (Nat × Nat)} {mi : Nat → Nat → Int32} {ml : Nat → Nat → Int64} {g : Nat → Nat → Option Nat} {g0 : Nat → Nat → Option Nat} {X : Nat → Nat → Int32} {nv : Nat} {wg : Nat → (Nat → Int32) → Int32} {sm : Int32 → (Nat → Int32) → Int32} {an : Int32 → Int32} (C : CWs E vs g0 X (vvN nv) wg) (V : vSem nv X wg sm an) (hg0 : ∀ b, 86 ≤ b → g b = g0 b) (hX : ∀ b, 86 ≤ b → mi b = X b) (hnv : nv ≤ 6) {N : Nat → Int32} {n dd : Nat} (B : BR mi 1 (g 1 3) nv N n dd) {p : Nat} (hp : p < 8) (hdd : dd + 61 < 100000) (hgg : g = zup g 38 3 (g 1 3)) (hn9 : n < 2147483648)  : ∀ (k j : Nat) (m : Nat → Nat → Int32) , j + k = n → (frB 38 mi m) → Wp E 6 pg_Foresight_heir 15 [(0, .ref 37), (1, .ref 1), (2, .int (nI p)), (3, .int ((heirN sm an N n dd p j).1)), (4, .int ((heirN sm an N n dd p j).2)), (5, .int (nI j))] [] (zsh ++ vs, m, ml, (zmr g)) (fun r w' => r = some (.int (heirN sm an N n dd p n).2) ∧ ∃ m, w' = (zsh ++ vs, m, ml, zmr g) ∧ frB 38 mi m) := by
  intro k
  induction k with
  | zero =>
    intro j m  hj9 hI
    obtain rfl : n = j := by omega
    refine Wp.run 1 (17, [(0, .ref 37), (1, .ref 1), (2, .int (nI p)), (3, .int ((heirN sm an N n dd p n).1)), (4, .int ((heirN sm an N n dd p n).2)), (5, .int (nI n))], [.int (nI n)], (zsh ++ vs, m, ml, (zmr g))) rfl ?_
    have Bm : BR m 1 (g 1 3) nv N n dd := BR_fr B (fun b h1 h2 => hI b (by omega))
    have h6 := B.1.2.1
    refine Wp.run 2 (21, [(0, .ref 37), (1, .ref 1), (2, .int (nI p)), (3, .int ((heirN sm an N n dd p n).1)), (4, .int ((heirN sm an N n dd p n).2)), (5, .int (nI n))], [.int (m 1 0), .int (nI n)], (zsh ++ vs, m, ml, (zmr g))) rfl ?_
    rw [Bm.2.1]
    refine Wp.run 0 (21, [(0, .ref 37), (1, .ref 1), (2, .int (nI p)), (3, .int ((heirN sm an N n dd p n).1)), (4, .int ((heirN sm an N n dd p n).2)), (5, .int (nI n))], [.int (nI n), .int (nI n)], (zsh ++ vs, m, ml, (zmr g))) rfl ?_
    refine Wp.icmp_ge rfl (fun h1 => ?_) (fun h1 => ?_)
    · refine Wp.run 1 (91, [(0, .ref 37), (1, .ref 1), (2, .int (nI p)), (3, .int ((heirN sm an N n dd p n).1)), (4, .int ((heirN sm an N n dd p n).2)), (5, .int (nI n))], [.int ((heirN sm an N n dd p n).2)], (zsh ++ vs, m, ml, (zmr g))) rfl ?_
      refine Wp.ret rfl rfl rfl ?_
      exact ⟨rfl, m, rfl, hI⟩
    · exact absurd (Int32.le_refl _) h1
  | succ k ih =>
    intro j m  hj9 hI
    have hlt9 : j < n := by omega
    refine Wp.run 1 (17, [(0, .ref 37), (1, .ref 1), (2, .int (nI p)), (3, .int ((heirN sm an N n dd p j).1)), (4, .int ((heirN sm an N n dd p j).2)), (5, .int (nI j))], [.int (nI j)], (zsh ++ vs, m, ml, (zmr g))) rfl ?_
    have Bm : BR m 1 (g 1 3) nv N n dd := BR_fr B (fun b h1 h2 => hI b (by omega))
    have h6 := B.1.2.1
    refine Wp.run 2 (21, [(0, .ref 37), (1, .ref 1), (2, .int (nI p)), (3, .int ((heirN sm an N n dd p j).1)), (4, .int ((heirN sm an N n dd p j).2)), (5, .int (nI j))], [.int (m 1 0), .int (nI j)], (zsh ++ vs, m, ml, (zmr g))) rfl ?_
    rw [Bm.2.1]
    refine Wp.run 0 (21, [(0, .ref 37), (1, .ref 1), (2, .int (nI p)), (3, .int ((heirN sm an N n dd p j).1)), (4, .int ((heirN sm an N n dd p j).2)), (5, .int (nI j))], [.int (nI n), .int (nI j)], (zsh ++ vs, m, ml, (zmr g))) rfl ?_
    refine Wp.icmp_ge rfl (fun h1 => ?_) (fun h1 => ?_)
    · exact absurd h1 (nI_ge hlt9 hn9)
    · refine Wp.run 2 (27, [(0, .ref 37), (1, .ref 1), (2, .int (nI p)), (3, .int ((heirN sm an N n dd p j).1)), (4, .int ((heirN sm an N n dd p j).2)), (5, .int (nI j))], [.int (-5), .int ((heirN sm an N n dd p j).1)], (zsh ++ vs, m, ml, (zmr g))) rfl ?_
      refine Wp.icmp_eq rfl (fun h2 => ?_) (fun h2 => ?_)
      · refine Wp.run 1 (91, [(0, .ref 37), (1, .ref 1), (2, .int (nI p)), (3, .int ((heirN sm an N n dd p j).1)), (4, .int ((heirN sm an N n dd p j).2)), (5, .int (nI j))], [.int ((heirN sm an N n dd p j).2)], (zsh ++ vs, m, ml, (zmr g))) rfl ?_
        refine Wp.ret rfl rfl rfl ?_
        refine ⟨?_, m, rfl, hI⟩
        obtain ⟨k9, rfl⟩ : ∃ k9, n = j + k9 := ⟨n - j, by omega⟩
        rw [show heirN sm an N (j + k9) dd p (j + k9) = heirN sm an N (j + k9) dd p j from heirS_stop h2 k9]
      · refine Wp.run 2 (33, [(0, .ref 37), (1, .ref 1), (2, .int (nI p)), (3, .int ((heirN sm an N n dd p j).1)), (4, .int ((heirN sm an N n dd p j).2)), (5, .int (nI j))], [.int (nI j), .ref 1], (zsh ++ vs, m, ml, (zmr g))) rfl ?_
        refine Wp.call (as := [.ref 1, .int (nI j)]) (rest := []) rfl rfl rfl rfl rfl (Nat.le_of_ble_eq_true rfl) (Nat.le_of_ble_eq_true rfl) rfl (by decide) (c_isHere_1 (nI j)) ?_
        rintro _ _ ⟨rfl, rfl⟩
        by_cases c17 : m 1 2 >>> (nI j &&& 31) &&& 1 = 0
        · rw [if_pos c17]
          refine Wp.run 4 (45, [(0, .ref 37), (1, .ref 1), (2, .int (nI p)), (3, .int ((heirN sm an N n dd p j).1)), (4, .int ((heirN sm an N n dd p j).2)), (5, .int (nI j))], [.int (nI j), .ref 5], (zsh ++ vs, m, ml, (zmr g))) rfl ?_
          refine Wp.ialn rfl (by decide) rfl (by omega) (by decide) ?_
          refine Wp.run 1 (47, [(0, .ref 37), (1, .ref 1), (2, .int (nI p)), (3, .int ((heirN sm an N n dd p j).1)), (4, .int ((heirN sm an N n dd p j).2)), (5, .int (nI j))], [.int (nI p), .int (m 5 j)], (zsh ++ vs, m, ml, (zmr g))) rfl ?_
          refine Wp.call (as := [.int (m 5 j), .int (nI p)]) (rest := []) rfl rfl rfl rfl rfl (Nat.le_of_ble_eq_true rfl) (Nat.le_of_ble_eq_true rfl) rfl (by decide) (c_bit (m 5 j) (nI p)) ?_
          rintro _ _ ⟨rfl, rfl⟩
          refine Wp.run 0 (50, [(0, .ref 37), (1, .ref 1), (2, .int (nI p)), (3, .int ((heirN sm an N n dd p j).1)), (4, .int ((heirN sm an N n dd p j).2)), (5, .int (nI j))], [.int ((m 5 j) >>> ((nI p) &&& 31) &&& 1)], (zsh ++ vs, m, ml, (zmr g))) rfl ?_
          refine Wp.if_ne rfl (fun h3 => ?_) (fun h3 => ?_)
          · refine Wp.run 2 (15, [(5, .int ((nI j) + 1)), (0, .ref 37), (1, .ref 1), (2, .int (nI p)), (3, .int ((heirN sm an N n dd p j).1)), (4, .int ((heirN sm an N n dd p j).2))], [], (zsh ++ vs, m, ml, (zmr g))) rfl ?_
            have e9 : heirN sm an N n dd p (j + 1) = heirN sm an N n dd p j := by
              show heirS _ _ _ (j + 1) = _
              rw [heirS, if_neg h2, if_neg (fun q => h3 ((congrArg (fun z => z >>> (nI p &&& 31) &&& 1) (show m 5 j = uN N j 2 from Bm.held hlt9)).trans (of_decide_eq_true q.1).2))]
            rw [nI_1]
            refine Wp.sub (a := [(0, .ref 37), (1, .ref 1), (2, .int (nI p)), (3, .int ((heirN sm an N n dd p (j + 1)).1)), (4, .int ((heirN sm an N n dd p (j + 1)).2)), (5, .int (nI (j + 1)))]) (zle_cons rfl (zle_cons rfl (zle_cons rfl (zle_cons (by rw [e9]; rfl) (zle_cons (by rw [e9]; rfl) (zle_cons rfl zle_nil)))))) ?_
            exact ih (j + 1) _ (by omega) (hI)
          · refine Wp.run 4 (58, [(0, .ref 37), (1, .ref 1), (2, .int (nI p)), (3, .int ((heirN sm an N n dd p j).1)), (4, .int ((heirN sm an N n dd p j).2)), (5, .int (nI j))], [.int (nI j), .int (nI p), .ref 1, .ref 37], (zsh ++ vs, m, ml, (zmr g))) rfl ?_
            refine Wp.call (as := [.ref 37, .ref 1, .int (nI p), .int (nI j)]) (rest := []) rfl rfl rfl rfl rfl (Nat.le_of_ble_eq_true rfl) (Nat.le_of_ble_eq_true rfl) rfl (by decide) (c_lostT (mi := m) (N := N) (i := j) C V hg0 (fun b hb => by rw [hI b (by omega)]; exact hX b hb) hnv Bm hp hdd hlt9) ?_
            rintro _ _ ⟨rfl, m', rfl, hk⟩
            rw [← hgg]
            refine Wp.run 3 (67, [(6, .int (lostT sm an N n dd p j)), (0, .ref 37), (1, .ref 1), (2, .int (nI p)), (3, .int ((heirN sm an N n dd p j).1)), (4, .int ((heirN sm an N n dd p j).2)), (5, .int (nI j))], [.int (-5), .int (lostT sm an N n dd p j)], (zsh ++ vs, m', ml, (zmr g))) rfl ?_
            refine Wp.icmp_eq rfl (fun h4 => ?_) (fun h4 => ?_)
            · refine Wp.run 6 (15, [(5, .int ((nI j) + 1)), (4, .int (nI j)), (3, .int (lostT sm an N n dd p j)), (6, .int (lostT sm an N n dd p j)), (0, .ref 37), (1, .ref 1), (2, .int (nI p))], [], (zsh ++ vs, m', ml, (zmr g))) rfl ?_
              have e9 : heirN sm an N n dd p (j + 1) = (lostT sm an N n dd p j, nI j) := by
                show heirS _ _ _ (j + 1) = _
                rw [heirS, if_neg h2, if_pos ⟨decide_eq_true ⟨(show m 1 2 >>> (nI j &&& 31) &&& 1 = uN N j 4 from Bm.aw hlt9).symm.trans c17, (congrArg (fun z => z >>> (nI p &&& 31) &&& 1) (show m 5 j = uN N j 2 from Bm.held hlt9)).symm.trans h3⟩, Or.inl h4⟩]
              rw [nI_1]
              refine Wp.sub (a := [(0, .ref 37), (1, .ref 1), (2, .int (nI p)), (3, .int ((heirN sm an N n dd p (j + 1)).1)), (4, .int ((heirN sm an N n dd p (j + 1)).2)), (5, .int (nI (j + 1)))]) (zle_cons rfl (zle_cons rfl (zle_cons rfl (zle_cons (by rw [e9]; rfl) (zle_cons (by rw [e9]; rfl) (zle_cons rfl zle_nil)))))) ?_
              exact ih (j + 1) _ (by omega) (hI.tr hk)
            · refine Wp.run 2 (73, [(6, .int (lostT sm an N n dd p j)), (0, .ref 37), (1, .ref 1), (2, .int (nI p)), (3, .int ((heirN sm an N n dd p j).1)), (4, .int ((heirN sm an N n dd p j).2)), (5, .int (nI j))], [.int ((heirN sm an N n dd p j).1), .int (lostT sm an N n dd p j)], (zsh ++ vs, m', ml, (zmr g))) rfl ?_
              refine Wp.icmp_le rfl (fun h5 => ?_) (fun h5 => ?_)
              · refine Wp.run 2 (15, [(5, .int ((nI j) + 1)), (6, .int (lostT sm an N n dd p j)), (0, .ref 37), (1, .ref 1), (2, .int (nI p)), (3, .int ((heirN sm an N n dd p j).1)), (4, .int ((heirN sm an N n dd p j).2))], [], (zsh ++ vs, m', ml, (zmr g))) rfl ?_
                have e9 : heirN sm an N n dd p (j + 1) = heirN sm an N n dd p j := by
                  show heirS _ _ _ (j + 1) = _
                  rw [heirS, if_neg h2, if_neg (fun q => q.2.elim h4 (Int32.not_lt.mpr h5))]
                rw [nI_1]
                refine Wp.sub (a := [(0, .ref 37), (1, .ref 1), (2, .int (nI p)), (3, .int ((heirN sm an N n dd p (j + 1)).1)), (4, .int ((heirN sm an N n dd p (j + 1)).2)), (5, .int (nI (j + 1)))]) (zle_cons rfl (zle_cons rfl (zle_cons rfl (zle_cons (by rw [e9]; rfl) (zle_cons (by rw [e9]; rfl) (zle_cons rfl zle_nil)))))) ?_
                exact ih (j + 1) _ (by omega) (hI.tr hk)
              · refine Wp.run 6 (15, [(5, .int ((nI j) + 1)), (4, .int (nI j)), (3, .int (lostT sm an N n dd p j)), (6, .int (lostT sm an N n dd p j)), (0, .ref 37), (1, .ref 1), (2, .int (nI p))], [], (zsh ++ vs, m', ml, (zmr g))) rfl ?_
                have e9 : heirN sm an N n dd p (j + 1) = (lostT sm an N n dd p j, nI j) := by
                  show heirS _ _ _ (j + 1) = _
                  rw [heirS, if_neg h2, if_pos ⟨decide_eq_true ⟨(show m 1 2 >>> (nI j &&& 31) &&& 1 = uN N j 4 from Bm.aw hlt9).symm.trans c17, (congrArg (fun z => z >>> (nI p &&& 31) &&& 1) (show m 5 j = uN N j 2 from Bm.held hlt9)).symm.trans h3⟩, Or.inr (Int32.not_le.mp h5)⟩]
                rw [nI_1]
                refine Wp.sub (a := [(0, .ref 37), (1, .ref 1), (2, .int (nI p)), (3, .int ((heirN sm an N n dd p (j + 1)).1)), (4, .int ((heirN sm an N n dd p (j + 1)).2)), (5, .int (nI (j + 1)))]) (zle_cons rfl (zle_cons rfl (zle_cons rfl (zle_cons (by rw [e9]; rfl) (zle_cons (by rw [e9]; rfl) (zle_cons rfl zle_nil)))))) ?_
                exact ih (j + 1) _ (by omega) (hI.tr hk)
        · rw [if_neg c17]
          refine Wp.run 3 (15, [(5, .int ((nI j) + 1)), (0, .ref 37), (1, .ref 1), (2, .int (nI p)), (3, .int ((heirN sm an N n dd p j).1)), (4, .int ((heirN sm an N n dd p j).2))], [], (zsh ++ vs, m, ml, (zmr g))) rfl ?_
          have e9 : heirN sm an N n dd p (j + 1) = heirN sm an N n dd p j := by
            show heirS _ _ _ (j + 1) = _
            rw [heirS, if_neg h2, if_neg (fun q => c17 ((show m 1 2 >>> (nI j &&& 31) &&& 1 = uN N j 4 from Bm.aw hlt9).trans (of_decide_eq_true q.1).1))]
          rw [nI_1]
          refine Wp.sub (a := [(0, .ref 37), (1, .ref 1), (2, .int (nI p)), (3, .int ((heirN sm an N n dd p (j + 1)).1)), (4, .int ((heirN sm an N n dd p (j + 1)).2)), (5, .int (nI (j + 1)))]) (zle_cons rfl (zle_cons rfl (zle_cons rfl (zle_cons (by rw [e9]; rfl) (zle_cons (by rw [e9]; rfl) (zle_cons rfl zle_nil)))))) ?_
          exact ih (j + 1) _ (by omega) (hI)
theorem c_heir {E : zEn} {vs : List (Nat × Nat)} {mi : Nat → Nat → Int32} {ml : Nat → Nat → Int64} {g : Nat → Nat → Option Nat} {g0 : Nat → Nat → Option Nat} {X : Nat → Nat → Int32} {nv : Nat} {wg : Nat → (Nat → Int32) → Int32} {sm : Int32 → (Nat → Int32) → Int32} {an : Int32 → Int32} (C : CWs E vs g0 X (vvN nv) wg) (V : vSem nv X wg sm an) (hg0 : ∀ b, 86 ≤ b → g b = g0 b) (hX : ∀ b, 86 ≤ b → mi b = X b) (hnv : nv ≤ 6) {N : Nat → Int32} {n dd : Nat} (B : BR mi 1 (g 1 3) nv N n dd) {p : Nat} (hp : p < 8) (hdd : dd + 61 < 100000) : Wp E 6 pg_Foresight_heir 0 (lv_args 0 [.ref 37, .ref 1, .int (nI p)]) [] (zsh ++ vs, mi, ml, (zmr g)) (fun r w' => r = some (.int (heirN sm an N n dd p n).2) ∧ ∃ m, w' = (zsh ++ vs, m, ml, zmr (zup g 38 3 (g 1 3))) ∧ frB 38 mi m) := by
  refine Wp.run 4 (4, [(0, .ref 37), (1, .ref 1), (2, .int (nI p))], [.int (-1), .int (nI p), .ref 1, .ref 37], (zsh ++ vs, mi, ml, (zmr g))) rfl ?_
  refine Wp.call (as := [.ref 37, .ref 1, .int (nI p), .int (-1)]) (rest := []) rfl rfl rfl rfl rfl (Nat.le_of_ble_eq_true rfl) (Nat.le_of_ble_eq_true rfl) rfl (by decide) (c_lost C V hg0 hX hnv B hp hdd) ?_
  rintro _ _ ⟨rfl, m0, rfl, hk⟩
  refine Wp.run 5 (15, [(5, .int 0), (4, .int (-5)), (3, .int (lostN sm an N n dd p)), (0, .ref 37), (1, .ref 1), (2, .int (nI p))], [], (zsh ++ vs, m0, ml, (zmr (zup g 38 3 (g 1 3))))) rfl ?_
  refine Wp.sub (a := [(0, .ref 37), (1, .ref 1), (2, .int (nI p)), (3, .int ((heirN sm an N n dd p 0).1)), (4, .int ((heirN sm an N n dd p 0).2)), (5, .int (nI 0))]) (zle_cons rfl (zle_cons rfl (zle_cons rfl (zle_cons rfl (zle_cons rfl (zle_cons rfl (zle_nil))))))) ?_
  refine Wp.weak (c_heir_l (mi := m0) (g := (zup g 38 3 (g 1 3))) C V (fun b hb => by rw [zup_ne (by omega)]; exact hg0 b hb) (fun b hb => by rw [hk b (by omega)]; exact hX b hb) hnv (N := N) (BR_fr B (fun b h1 h2 => hk b (by omega))) hp hdd (zup_idem (v := g 1 3)).symm (by have := B.1.2.1; omega) n 0 m0 (by omega) (fun _ _ => rfl)) ?_
  rintro r w' ⟨rfl, m, rfl, hk2⟩
  exact ⟨rfl, m, rfl, hk.tr hk2⟩
