/-! HOW MANY NUMBERS FIT, AND THE LEAST -/
noncomputable def fitI (sm : Int32 → (Nat → Int32) → Int32) (an : Int32 → Int32) (N : Nat → Int32) (n dd : Nat) (P : Nat → Int32) (c i f : Nat) (v : Nat) : Int32 := @ite Int32 (SO sm an (upd N (8 + 10 * i + f) (nI v)) n dd P c) (Classical.propDecidable _) 1 0
noncomputable def fitL (sm : Int32 → (Nat → Int32) → Int32) (an : Int32 → Int32) (N : Nat → Int32) (n dd : Nat) (P : Nat → Int32) (c i f : Nat) (v : Nat) : Int32 := @ite Int32 (SO sm an (upd N (8 + 10 * i + f) (nI v)) n dd P c) (Classical.propDecidable _) 0 1
def sF (f : Nat → Int32) : Nat → Nat → Int32
  | 0, _ => 0
  | k + 1, j => sF f k (j + 1) + f j
theorem sF_zsum {f : Nat → Int32} : ∀ (k j : Nat), zsum f j + sF f k j = zsum f (j + k)
  | 0, j => Int32.add_zero _
  | k + 1, j => by
    have ih := sF_zsum (f := f) k (j + 1)
    rw [sF, Int32.add_comm (sF f k (j + 1)) (f j), ← Int32.add_assoc, show j + (k + 1) = j + 1 + k by omega, ← ih]
    rfl
theorem sF_all {f : Nat → Int32} (k : Nat) : sF f k 0 = zsum f k := by
  have := sF_zsum (f := f) k 0
  rw [show zsum f 0 = 0 from rfl, Int32.zero_add, Nat.zero_add] at this
  exact this
def vI : Nat → Int32
  | 0 => -1
  | j + 1 => nI j
theorem vI_m1 (j : Nat) : nI j + (-1) = vI j := by
  cases j with
  | zero => rfl
  | succ j => exact pk_m1 j
theorem upd_upd {f : Nat → Int32} {i : Nat} {x y : Int32} : upd (upd f i x) i y = upd f i y := by
  funext j
  by_cases e : j = i
  · subst e; rw [upd_at, upd_at]
  · rw [upd_ne e, upd_ne e, upd_ne e]
section FT
variable {sm : Int32 → (Nat → Int32) → Int32} {an : Int32 → Int32} {N : Nat → Int32} {n dd : Nat} {P : Nat → Int32} {c i f v : Nat}
theorem fitI_t (h : SO sm an (upd N (8 + 10 * i + f) (nI v)) n dd P c) : fitI sm an N n dd P c i f v = 1 := if_pos h
theorem fitI_f (h : ¬ SO sm an (upd N (8 + 10 * i + f) (nI v)) n dd P c) : fitI sm an N n dd P c i f v = 0 := if_neg h
theorem fitL_t (h : SO sm an (upd N (8 + 10 * i + f) (nI v)) n dd P c) : fitL sm an N n dd P c i f v = 0 := if_pos h
theorem fitL_f (h : ¬ SO sm an (upd N (8 + 10 * i + f) (nI v)) n dd P c) : ¬ fitL sm an N n dd P c i f v = 0 := by rw [show fitL sm an N n dd P c i f v = 1 from if_neg h]; decide
end FT
theorem c_fit_l1_0 {E : zEn} {vs : List (Nat × Nat)} {mi : Nat → Nat → Int32} {ml : Nat → Nat → Int64} {g : Nat → Nat → Option Nat} {g0 : Nat → Nat → Option Nat} {X : Nat → Nat → Int32} {nv : Nat} {wg : Nat → (Nat → Int32) → Int32} {sm : Int32 → (Nat → Int32) → Int32} {an : Int32 → Int32} (C : CE E vs g0 X nv wg sm an g mi) {N : Nat → Int32} {n dd : Nat} (B : BR mi 1 (g 1 3) nv N n dd) {i c : Nat} (hi : i < n) (S : SE3 mi N n c) (hdd : dd + 13 < 100000) : ∀ (k j : Nat) (m : Nat → Nat → Int32) (g' : Nat → Nat → Option Nat), j + k = 100 → (frB 38 mi m ∧ ∀ a f, ¬ (a = 38 ∧ f = 3) → g' a f = g a f) → Wp E 6 pg_Foresight_fitting 20 [(0, .ref 37), (1, .ref 1), (2, .ref 21), (3, .int (nI i)), (4, .int 1), (5, .int 0), (6, .int 99), (7, .int (zsum (fitI sm an N n dd N c i 3) j)), (8, .int (nI j))] [] (zsh ++ vs, m, ml, zmr g') (fun r w' => r = some (.int (zsum (fitI sm an N n dd N c i 3) 100)) ∧ ∃ m g', w' = (zsh ++ vs, m, ml, zmr g') ∧ frB 38 mi m ∧ ∀ a f, ¬ (a = 38 ∧ f = 3) → g' a f = g a f) := by
  have h6 := B.1.2.1
  intro k
  induction k with
  | zero =>
    intro j m g' hj hI
    obtain rfl : 100 = j := by omega
    refine Wp.run 2 (24, [(0, .ref 37), (1, .ref 1), (2, .ref 21), (3, .int (nI i)), (4, .int 1), (5, .int 0), (6, .int 99), (7, .int (zsum (fitI sm an N n dd N c i 3) 100)), (8, .int (nI 100))], [.int 99, .int (nI 100)], (zsh ++ vs, m, ml, (zmr g'))) rfl ?_
    refine Wp.icmp_gt rfl (fun h21 => ?_) (fun h21 => ?_)
    · refine Wp.run 3 (102, [(0, .ref 37), (1, .ref 1), (2, .ref 21), (3, .int (nI i)), (4, .int 1), (5, .int 0), (6, .int 99), (7, .int (zsum (fitI sm an N n dd N c i 3) 100)), (8, .int (nI 100))], [.int (zsum (fitI sm an N n dd N c i 3) 100)], (zsh ++ vs, m, ml, (zmr g'))) rfl ?_
      refine Wp.ret rfl rfl rfl ?_
      exact ⟨rfl, m, g', rfl, hI.1, hI.2⟩
    · exact absurd (nI_lt (a := 99) (b := 100) (by decide) (by decide)) h21
  | succ k ih =>
    intro j m g' hj hI
    refine Wp.run 2 (24, [(0, .ref 37), (1, .ref 1), (2, .ref 21), (3, .int (nI i)), (4, .int 1), (5, .int 0), (6, .int 99), (7, .int (zsum (fitI sm an N n dd N c i 3) j)), (8, .int (nI j))], [.int 99, .int (nI j)], (zsh ++ vs, m, ml, (zmr g'))) rfl ?_
    refine Wp.icmp_gt rfl (fun h21 => ?_) (fun h21 => ?_)
    · exact absurd h21 (nI_nlt (a := 99) (by omega) (by decide))
    · refine Wp.run 3 (32, [(0, .ref 37), (1, .ref 1), (2, .ref 21), (3, .int (nI i)), (4, .int 1), (5, .int 0), (6, .int 99), (7, .int (zsum (fitI sm an N n dd N c i 3) j)), (8, .int (nI j))], [.ref 1, .ref 38], (zsh ++ vs, m, ml, (zmr g'))) rfl ?_
      refine Wp.call (as := [.ref 38, .ref 1]) (rest := []) rfl rfl rfl rfl rfl (Nat.le_of_ble_eq_true rfl) (Nat.le_of_ble_eq_true rfl) rfl (by decide) (c_become_38_1 (g := g') (fun v hv => B.2.2.2.2.2.2.lt C.2.2.2.2 v ((hI.2 1 3 (by decide)).symm.trans hv))) ?_
      rintro _ _ ⟨rfl, m0, rfl, b1, b2, b3, b4, b5, b6⟩
      have B0 : BR m0 38 (g 1 3) nv N n dd := BR_copy (BR_fr B (fun b h1 h2 => hI.1 b (by omega))) b2 b4 b5 b6
      have B1 := BR_set (f := 3) (v := nI j) B0 hi (Or.inr (Or.inr ⟨rfl, j, by omega, rfl⟩))
      refine Wp.run 10 (64, [(9, .ref 43), (0, .ref 37), (1, .ref 1), (2, .ref 21), (3, .int (nI i)), (4, .int 1), (5, .int 0), (6, .int 99), (7, .int (zsum (fitI sm an N n dd N c i 3) j)), (8, .int (nI j))], [.int (nI j), .int (nI i), .ref 43], (zsh ++ vs, m0, ml, (zmr (zup g' 38 3 (g' 1 3))))) rfl ?_
      refine Wp.iasn rfl (by decide) rfl (by omega) (by decide) ?_
      refine Wp.run 0 (65, [(9, .ref 43), (0, .ref 37), (1, .ref 1), (2, .ref 21), (3, .int (nI i)), (4, .int 1), (5, .int 0), (6, .int 99), (7, .int (zsum (fitI sm an N n dd N c i 3) j)), (8, .int (nI j))], [], (zsh ++ vs, (zup m0 43 i (nI j)), ml, (zmr (zup g' 38 3 (g' 1 3))))) rfl ?_
      obtain ⟨m1, hm1⟩ : ∃ z, z = (zup m0 43 i (nI j)) := ⟨_, rfl⟩
      rw [show zup m0 (38 + 2 + 3) i (nI j) = m1 from hm1.symm] at B1
      rw [← hm1]
      have eg : g' 1 3 = g 1 3 := hI.2 1 3 (by decide)
      have B2 : BR m1 38 ((zup g' 38 3 (g' 1 3)) 38 3) nv (upd N (8 + 10 * i + 3) (nI j)) n dd := by
        show BR m1 38 (g' 1 3) nv (upd N (8 + 10 * i + 3) (nI j)) n dd
        rw [eg]; exact B1
      have C1 : CE E vs g0 X nv wg sm an (zup g' 38 3 (g' 1 3)) m1 := ⟨C.1, C.2.1, fun b hb => by rw [zup_ne (by omega)]; exact (funext (fun f => hI.2 b f (by omega))).trans (C.2.2.1 b hb), fun b hb => by rw [hm1, zup_ne (by omega), b1 b (by omega), hI.1 b (by omega)]; exact C.2.2.2.1 b hb, C.2.2.2.2⟩
      have S1 : SE3 m1 N n c := S.fr (fun b h1 h2 => by rw [hm1, zup_ne (by omega), b1 b (by omega), hI.1 b (by omega)])
      refine Wp.run 2 (67, [(9, .ref 43), (0, .ref 37), (1, .ref 1), (2, .ref 21), (3, .int (nI i)), (4, .int 1), (5, .int 0), (6, .int 99), (7, .int (zsum (fitI sm an N n dd N c i 3) j)), (8, .int (nI j))], [.ref 21, .ref 37], (zsh ++ vs, m1, ml, (zmr (zup g' 38 3 (g' 1 3))))) rfl ?_
      refine Wp.call (as := [.ref 37, .ref 21]) (rest := []) rfl rfl rfl rfl rfl (Nat.le_of_ble_eq_true rfl) (Nat.le_of_ble_eq_true rfl) rfl (by decide) (c_so (mi := m1) (g := (zup g' 38 3 (g' 1 3))) C1 B2 S1 hdd) ?_
      rintro _ _ ⟨⟨b, rfl, hb⟩, m2, rfl, k1⟩
      have kf : frB 38 mi m2 := fun b hb => by rw [k1 b hb, hm1, zup_ne (by omega), b1 b (by omega)]; exact hI.1 b hb
      have kg : ∀ a f, ¬ (a = 38 ∧ f = 3) → (zup g' 38 3 (g' 1 3)) a f = g a f := fun a f h => (zup38 a f h).trans (hI.2 a f h)
      rcases hb with ⟨ha, rfl⟩ | ⟨ha, rfl⟩
      · refine Wp.run 6 (20, [(8, .int ((nI j) + 1)), (7, .int ((zsum (fitI sm an N n dd N c i 3) j) + 1)), (9, .ref 43), (0, .ref 37), (1, .ref 1), (2, .ref 21), (3, .int (nI i)), (4, .int 1), (5, .int 0), (6, .int 99)], [], (zsh ++ vs, m2, ml, (zmr (zup g' 38 3 (g' 1 3))))) rfl ?_
        have e9 : zsum (fitI sm an N n dd N c i 3) (j + 1) = zsum (fitI sm an N n dd N c i 3) j + 1 := by rw [zsum, fitI_t ha]
        rw [nI_1]
        refine Wp.sub (a := [(0, .ref 37), (1, .ref 1), (2, .ref 21), (3, .int (nI i)), (4, .int 1), (5, .int 0), (6, .int 99), (7, .int (zsum (fitI sm an N n dd N c i 3) (j + 1))), (8, .int (nI (j + 1)))]) (zle_cons rfl (zle_cons rfl (zle_cons rfl (zle_cons rfl (zle_cons rfl (zle_cons rfl (zle_cons rfl (zle_cons (by rw [e9]; rfl) (zle_cons rfl zle_nil))))))))) ?_
        exact ih (j + 1) m2 (zup g' 38 3 (g' 1 3)) (by omega) ⟨kf, kg⟩
      · refine Wp.run 3 (20, [(8, .int ((nI j) + 1)), (9, .ref 43), (0, .ref 37), (1, .ref 1), (2, .ref 21), (3, .int (nI i)), (4, .int 1), (5, .int 0), (6, .int 99), (7, .int (zsum (fitI sm an N n dd N c i 3) j))], [], (zsh ++ vs, m2, ml, (zmr (zup g' 38 3 (g' 1 3))))) rfl ?_
        have e9 : zsum (fitI sm an N n dd N c i 3) (j + 1) = zsum (fitI sm an N n dd N c i 3) j := by rw [zsum, fitI_f ha, Int32.add_zero]
        rw [nI_1]
        refine Wp.sub (a := [(0, .ref 37), (1, .ref 1), (2, .ref 21), (3, .int (nI i)), (4, .int 1), (5, .int 0), (6, .int 99), (7, .int (zsum (fitI sm an N n dd N c i 3) (j + 1))), (8, .int (nI (j + 1)))]) (zle_cons rfl (zle_cons rfl (zle_cons rfl (zle_cons rfl (zle_cons rfl (zle_cons rfl (zle_cons rfl (zle_cons (by rw [e9]; rfl) (zle_cons rfl zle_nil))))))))) ?_
        exact ih (j + 1) m2 (zup g' 38 3 (g' 1 3)) (by omega) ⟨kf, kg⟩
theorem c_fit_1_0 {E : zEn} {vs : List (Nat × Nat)} {mi : Nat → Nat → Int32} {ml : Nat → Nat → Int64} {g : Nat → Nat → Option Nat} {g0 : Nat → Nat → Option Nat} {X : Nat → Nat → Int32} {nv : Nat} {wg : Nat → (Nat → Int32) → Int32} {sm : Int32 → (Nat → Int32) → Int32} {an : Int32 → Int32} (C : CE E vs g0 X nv wg sm an g mi) {N : Nat → Int32} {n dd : Nat} (B : BR mi 1 (g 1 3) nv N n dd) {i c : Nat} (hi : i < n) (S : SE3 mi N n c) (hdd : dd + 13 < 100000) : Wp E 6 pg_Foresight_fitting 0 (lv_args 0 [.ref 37, .ref 1, .ref 21, .int (nI i), .int 1, .int 0]) [] (zsh ++ vs, mi, ml, (zmr g)) (fun r w' => r = some (.int (zsum (fitI sm an N n dd N c i 3) 100)) ∧ ∃ m g', w' = (zsh ++ vs, m, ml, zmr g') ∧ frB 38 mi m ∧ ∀ a f, ¬ (a = 38 ∧ f = 3) → g' a f = g a f) := by
  refine Wp.run 9 (20, [(8, .int 0), (7, .int 0), (6, .int 99), (0, .ref 37), (1, .ref 1), (2, .ref 21), (3, .int (nI i)), (4, .int 1), (5, .int 0)], [], (zsh ++ vs, mi, ml, (zmr g))) rfl ?_
  refine Wp.sub (a := [(0, .ref 37), (1, .ref 1), (2, .ref 21), (3, .int (nI i)), (4, .int 1), (5, .int 0), (6, .int 99), (7, .int (zsum (fitI sm an N n dd N c i 3) 0)), (8, .int (nI 0))]) (zle_cons rfl (zle_cons rfl (zle_cons rfl (zle_cons rfl (zle_cons rfl (zle_cons rfl (zle_cons rfl (zle_cons rfl (zle_cons rfl (zle_nil)))))))))) ?_
  exact c_fit_l1_0 C B hi S hdd 100 0 mi g (by omega) ⟨fun _ _ => rfl, fun _ _ _ => rfl⟩
theorem c_fit_l1_1 {E : zEn} {vs : List (Nat × Nat)} {mi : Nat → Nat → Int32} {ml : Nat → Nat → Int64} {g : Nat → Nat → Option Nat} {g0 : Nat → Nat → Option Nat} {X : Nat → Nat → Int32} {nv : Nat} {wg : Nat → (Nat → Int32) → Int32} {sm : Int32 → (Nat → Int32) → Int32} {an : Int32 → Int32} (C : CE E vs g0 X nv wg sm an g mi) {N : Nat → Int32} {n dd : Nat} (B : BR mi 1 (g 1 3) nv N n dd) {i c : Nat} (hi : i < n) (S : SE3 mi N n c) (hdd : dd + 13 < 100000) : ∀ (k j : Nat) (m : Nat → Nat → Int32) (g' : Nat → Nat → Option Nat), j + k = 100 → (frB 38 mi m ∧ ∀ a f, ¬ (a = 38 ∧ f = 3) → g' a f = g a f) → Wp E 6 pg_Foresight_fitting 20 [(0, .ref 37), (1, .ref 1), (2, .ref 21), (3, .int (nI i)), (4, .int 1), (5, .int 1), (6, .int 99), (7, .int 0), (8, .int (nI j))] [] (zsh ++ vs, m, ml, zmr g') (fun r w' => r = some (.int (lostR (fitL sm an N n dd N c i 3) k j)) ∧ ∃ m g', w' = (zsh ++ vs, m, ml, zmr g') ∧ frB 38 mi m ∧ ∀ a f, ¬ (a = 38 ∧ f = 3) → g' a f = g a f) := by
  have h6 := B.1.2.1
  intro k
  induction k with
  | zero =>
    intro j m g' hj hI
    obtain rfl : 100 = j := by omega
    refine Wp.run 2 (24, [(0, .ref 37), (1, .ref 1), (2, .ref 21), (3, .int (nI i)), (4, .int 1), (5, .int 1), (6, .int 99), (7, .int 0), (8, .int (nI 100))], [.int 99, .int (nI 100)], (zsh ++ vs, m, ml, (zmr g'))) rfl ?_
    refine Wp.icmp_gt rfl (fun h21 => ?_) (fun h21 => ?_)
    · refine Wp.run 4 (102, [(0, .ref 37), (1, .ref 1), (2, .ref 21), (3, .int (nI i)), (4, .int 1), (5, .int 1), (6, .int 99), (7, .int 0), (8, .int (nI 100))], [.int (-5)], (zsh ++ vs, m, ml, (zmr g'))) rfl ?_
      refine Wp.ret rfl rfl rfl ?_
      exact ⟨rfl, m, g', rfl, hI.1, hI.2⟩
    · exact absurd (nI_lt (a := 99) (b := 100) (by decide) (by decide)) h21
  | succ k ih =>
    intro j m g' hj hI
    refine Wp.run 2 (24, [(0, .ref 37), (1, .ref 1), (2, .ref 21), (3, .int (nI i)), (4, .int 1), (5, .int 1), (6, .int 99), (7, .int 0), (8, .int (nI j))], [.int 99, .int (nI j)], (zsh ++ vs, m, ml, (zmr g'))) rfl ?_
    refine Wp.icmp_gt rfl (fun h21 => ?_) (fun h21 => ?_)
    · exact absurd h21 (nI_nlt (a := 99) (by omega) (by decide))
    · refine Wp.run 3 (32, [(0, .ref 37), (1, .ref 1), (2, .ref 21), (3, .int (nI i)), (4, .int 1), (5, .int 1), (6, .int 99), (7, .int 0), (8, .int (nI j))], [.ref 1, .ref 38], (zsh ++ vs, m, ml, (zmr g'))) rfl ?_
      refine Wp.call (as := [.ref 38, .ref 1]) (rest := []) rfl rfl rfl rfl rfl (Nat.le_of_ble_eq_true rfl) (Nat.le_of_ble_eq_true rfl) rfl (by decide) (c_become_38_1 (g := g') (fun v hv => B.2.2.2.2.2.2.lt C.2.2.2.2 v ((hI.2 1 3 (by decide)).symm.trans hv))) ?_
      rintro _ _ ⟨rfl, m0, rfl, b1, b2, b3, b4, b5, b6⟩
      have B0 : BR m0 38 (g 1 3) nv N n dd := BR_copy (BR_fr B (fun b h1 h2 => hI.1 b (by omega))) b2 b4 b5 b6
      have B1 := BR_set (f := 3) (v := nI j) B0 hi (Or.inr (Or.inr ⟨rfl, j, by omega, rfl⟩))
      refine Wp.run 10 (64, [(9, .ref 43), (0, .ref 37), (1, .ref 1), (2, .ref 21), (3, .int (nI i)), (4, .int 1), (5, .int 1), (6, .int 99), (7, .int 0), (8, .int (nI j))], [.int (nI j), .int (nI i), .ref 43], (zsh ++ vs, m0, ml, (zmr (zup g' 38 3 (g' 1 3))))) rfl ?_
      refine Wp.iasn rfl (by decide) rfl (by omega) (by decide) ?_
      refine Wp.run 0 (65, [(9, .ref 43), (0, .ref 37), (1, .ref 1), (2, .ref 21), (3, .int (nI i)), (4, .int 1), (5, .int 1), (6, .int 99), (7, .int 0), (8, .int (nI j))], [], (zsh ++ vs, (zup m0 43 i (nI j)), ml, (zmr (zup g' 38 3 (g' 1 3))))) rfl ?_
      obtain ⟨m1, hm1⟩ : ∃ z, z = (zup m0 43 i (nI j)) := ⟨_, rfl⟩
      rw [show zup m0 (38 + 2 + 3) i (nI j) = m1 from hm1.symm] at B1
      rw [← hm1]
      have eg : g' 1 3 = g 1 3 := hI.2 1 3 (by decide)
      have B2 : BR m1 38 ((zup g' 38 3 (g' 1 3)) 38 3) nv (upd N (8 + 10 * i + 3) (nI j)) n dd := by
        show BR m1 38 (g' 1 3) nv (upd N (8 + 10 * i + 3) (nI j)) n dd
        rw [eg]; exact B1
      have C1 : CE E vs g0 X nv wg sm an (zup g' 38 3 (g' 1 3)) m1 := ⟨C.1, C.2.1, fun b hb => by rw [zup_ne (by omega)]; exact (funext (fun f => hI.2 b f (by omega))).trans (C.2.2.1 b hb), fun b hb => by rw [hm1, zup_ne (by omega), b1 b (by omega), hI.1 b (by omega)]; exact C.2.2.2.1 b hb, C.2.2.2.2⟩
      have S1 : SE3 m1 N n c := S.fr (fun b h1 h2 => by rw [hm1, zup_ne (by omega), b1 b (by omega), hI.1 b (by omega)])
      refine Wp.run 2 (67, [(9, .ref 43), (0, .ref 37), (1, .ref 1), (2, .ref 21), (3, .int (nI i)), (4, .int 1), (5, .int 1), (6, .int 99), (7, .int 0), (8, .int (nI j))], [.ref 21, .ref 37], (zsh ++ vs, m1, ml, (zmr (zup g' 38 3 (g' 1 3))))) rfl ?_
      refine Wp.call (as := [.ref 37, .ref 21]) (rest := []) rfl rfl rfl rfl rfl (Nat.le_of_ble_eq_true rfl) (Nat.le_of_ble_eq_true rfl) rfl (by decide) (c_so (mi := m1) (g := (zup g' 38 3 (g' 1 3))) C1 B2 S1 hdd) ?_
      rintro _ _ ⟨⟨b, rfl, hb⟩, m2, rfl, k1⟩
      have kf : frB 38 mi m2 := fun b hb => by rw [k1 b hb, hm1, zup_ne (by omega), b1 b (by omega)]; exact hI.1 b hb
      have kg : ∀ a f, ¬ (a = 38 ∧ f = 3) → (zup g' 38 3 (g' 1 3)) a f = g a f := fun a f h => (zup38 a f h).trans (hI.2 a f h)
      rcases hb with ⟨ha, rfl⟩ | ⟨ha, rfl⟩
      · refine Wp.run 4 (80, [(9, .ref 43), (0, .ref 37), (1, .ref 1), (2, .ref 21), (3, .int (nI i)), (4, .int 1), (5, .int 1), (6, .int 99), (7, .int 0), (8, .int (nI j))], [.int (nI j)], (zsh ++ vs, m2, ml, (zmr (zup g' 38 3 (g' 1 3))))) rfl ?_
        refine Wp.ret rfl rfl rfl ?_
        exact ⟨by rw [lostR_eq (fitL_t ha)], m2, (zup g' 38 3 (g' 1 3)), rfl, kf, kg⟩
      · refine Wp.run 3 (20, [(8, .int ((nI j) + 1)), (9, .ref 43), (0, .ref 37), (1, .ref 1), (2, .ref 21), (3, .int (nI i)), (4, .int 1), (5, .int 1), (6, .int 99), (7, .int 0)], [], (zsh ++ vs, m2, ml, (zmr (zup g' 38 3 (g' 1 3))))) rfl ?_
        rw [nI_1, lostR_ne (fitL_f ha)]
        refine Wp.sub (a := [(0, .ref 37), (1, .ref 1), (2, .ref 21), (3, .int (nI i)), (4, .int 1), (5, .int 1), (6, .int 99), (7, .int 0), (8, .int (nI (j + 1)))]) (zle_cons rfl (zle_cons rfl (zle_cons rfl (zle_cons rfl (zle_cons rfl (zle_cons rfl (zle_cons rfl (zle_cons rfl (zle_cons rfl (zle_nil)))))))))) ?_
        exact ih (j + 1) m2 (zup g' 38 3 (g' 1 3)) (by omega) ⟨kf, kg⟩
theorem c_fit_1_1 {E : zEn} {vs : List (Nat × Nat)} {mi : Nat → Nat → Int32} {ml : Nat → Nat → Int64} {g : Nat → Nat → Option Nat} {g0 : Nat → Nat → Option Nat} {X : Nat → Nat → Int32} {nv : Nat} {wg : Nat → (Nat → Int32) → Int32} {sm : Int32 → (Nat → Int32) → Int32} {an : Int32 → Int32} (C : CE E vs g0 X nv wg sm an g mi) {N : Nat → Int32} {n dd : Nat} (B : BR mi 1 (g 1 3) nv N n dd) {i c : Nat} (hi : i < n) (S : SE3 mi N n c) (hdd : dd + 13 < 100000) : Wp E 6 pg_Foresight_fitting 0 (lv_args 0 [.ref 37, .ref 1, .ref 21, .int (nI i), .int 1, .int 1]) [] (zsh ++ vs, mi, ml, (zmr g)) (fun r w' => r = some (.int (lostR (fitL sm an N n dd N c i 3) 100 0)) ∧ ∃ m g', w' = (zsh ++ vs, m, ml, zmr g') ∧ frB 38 mi m ∧ ∀ a f, ¬ (a = 38 ∧ f = 3) → g' a f = g a f) := by
  refine Wp.run 9 (20, [(8, .int 0), (7, .int 0), (6, .int 99), (0, .ref 37), (1, .ref 1), (2, .ref 21), (3, .int (nI i)), (4, .int 1), (5, .int 1)], [], (zsh ++ vs, mi, ml, (zmr g))) rfl ?_
  refine Wp.sub (a := [(0, .ref 37), (1, .ref 1), (2, .ref 21), (3, .int (nI i)), (4, .int 1), (5, .int 1), (6, .int 99), (7, .int 0), (8, .int (nI 0))]) (zle_cons rfl (zle_cons rfl (zle_cons rfl (zle_cons rfl (zle_cons rfl (zle_cons rfl (zle_cons rfl (zle_cons rfl (zle_cons rfl (zle_nil)))))))))) ?_
  exact c_fit_l1_1 C B hi S hdd 100 0 mi g (by omega) ⟨fun _ _ => rfl, fun _ _ _ => rfl⟩
theorem c_fit_l0_0 {E : zEn} {vs : List (Nat × Nat)} {mi : Nat → Nat → Int32} {ml : Nat → Nat → Int64} {g : Nat → Nat → Option Nat} {g0 : Nat → Nat → Option Nat} {X : Nat → Nat → Int32} {nv : Nat} {wg : Nat → (Nat → Int32) → Int32} {sm : Int32 → (Nat → Int32) → Int32} {an : Int32 → Int32} (C : CE E vs g0 X nv wg sm an g mi) {N : Nat → Int32} {n dd : Nat} (B : BR mi 1 (g 1 3) nv N n dd) {i c : Nat} (hi : i < n) (S : SE3 mi N n c) (hdd : dd + 13 < 100000) : ∀ (k j : Nat) (m : Nat → Nat → Int32) (g' : Nat → Nat → Option Nat), j + k = 10 → (frB 38 mi m ∧ ∀ a f, ¬ (a = 38 ∧ f = 3) → g' a f = g a f) → Wp E 6 pg_Foresight_fitting 20 [(0, .ref 37), (1, .ref 1), (2, .ref 21), (3, .int (nI i)), (4, .int 0), (5, .int 0), (6, .int 9), (7, .int (zsum (fitI sm an N n dd N c i 1) j)), (8, .int (nI j))] [] (zsh ++ vs, m, ml, zmr g') (fun r w' => r = some (.int (zsum (fitI sm an N n dd N c i 1) 10)) ∧ ∃ m g', w' = (zsh ++ vs, m, ml, zmr g') ∧ frB 38 mi m ∧ ∀ a f, ¬ (a = 38 ∧ f = 3) → g' a f = g a f) := by
  have h6 := B.1.2.1
  intro k
  induction k with
  | zero =>
    intro j m g' hj hI
    obtain rfl : 10 = j := by omega
    refine Wp.run 2 (24, [(0, .ref 37), (1, .ref 1), (2, .ref 21), (3, .int (nI i)), (4, .int 0), (5, .int 0), (6, .int 9), (7, .int (zsum (fitI sm an N n dd N c i 1) 10)), (8, .int (nI 10))], [.int 9, .int (nI 10)], (zsh ++ vs, m, ml, (zmr g'))) rfl ?_
    refine Wp.icmp_gt rfl (fun h21 => ?_) (fun h21 => ?_)
    · refine Wp.run 3 (102, [(0, .ref 37), (1, .ref 1), (2, .ref 21), (3, .int (nI i)), (4, .int 0), (5, .int 0), (6, .int 9), (7, .int (zsum (fitI sm an N n dd N c i 1) 10)), (8, .int (nI 10))], [.int (zsum (fitI sm an N n dd N c i 1) 10)], (zsh ++ vs, m, ml, (zmr g'))) rfl ?_
      refine Wp.ret rfl rfl rfl ?_
      exact ⟨rfl, m, g', rfl, hI.1, hI.2⟩
    · exact absurd (nI_lt (a := 9) (b := 10) (by decide) (by decide)) h21
  | succ k ih =>
    intro j m g' hj hI
    refine Wp.run 2 (24, [(0, .ref 37), (1, .ref 1), (2, .ref 21), (3, .int (nI i)), (4, .int 0), (5, .int 0), (6, .int 9), (7, .int (zsum (fitI sm an N n dd N c i 1) j)), (8, .int (nI j))], [.int 9, .int (nI j)], (zsh ++ vs, m, ml, (zmr g'))) rfl ?_
    refine Wp.icmp_gt rfl (fun h21 => ?_) (fun h21 => ?_)
    · exact absurd h21 (nI_nlt (a := 9) (by omega) (by decide))
    · refine Wp.run 3 (32, [(0, .ref 37), (1, .ref 1), (2, .ref 21), (3, .int (nI i)), (4, .int 0), (5, .int 0), (6, .int 9), (7, .int (zsum (fitI sm an N n dd N c i 1) j)), (8, .int (nI j))], [.ref 1, .ref 38], (zsh ++ vs, m, ml, (zmr g'))) rfl ?_
      refine Wp.call (as := [.ref 38, .ref 1]) (rest := []) rfl rfl rfl rfl rfl (Nat.le_of_ble_eq_true rfl) (Nat.le_of_ble_eq_true rfl) rfl (by decide) (c_become_38_1 (g := g') (fun v hv => B.2.2.2.2.2.2.lt C.2.2.2.2 v ((hI.2 1 3 (by decide)).symm.trans hv))) ?_
      rintro _ _ ⟨rfl, m0, rfl, b1, b2, b3, b4, b5, b6⟩
      have B0 : BR m0 38 (g 1 3) nv N n dd := BR_copy (BR_fr B (fun b h1 h2 => hI.1 b (by omega))) b2 b4 b5 b6
      have B1 := BR_set (f := 1) (v := nI j) B0 hi (Or.inl ⟨rfl, j, by omega, rfl⟩)
      refine Wp.run 9 (64, [(9, .ref 41), (0, .ref 37), (1, .ref 1), (2, .ref 21), (3, .int (nI i)), (4, .int 0), (5, .int 0), (6, .int 9), (7, .int (zsum (fitI sm an N n dd N c i 1) j)), (8, .int (nI j))], [.int (nI j), .int (nI i), .ref 41], (zsh ++ vs, m0, ml, (zmr (zup g' 38 3 (g' 1 3))))) rfl ?_
      refine Wp.iasn rfl (by decide) rfl (by omega) (by decide) ?_
      refine Wp.run 0 (65, [(9, .ref 41), (0, .ref 37), (1, .ref 1), (2, .ref 21), (3, .int (nI i)), (4, .int 0), (5, .int 0), (6, .int 9), (7, .int (zsum (fitI sm an N n dd N c i 1) j)), (8, .int (nI j))], [], (zsh ++ vs, (zup m0 41 i (nI j)), ml, (zmr (zup g' 38 3 (g' 1 3))))) rfl ?_
      obtain ⟨m1, hm1⟩ : ∃ z, z = (zup m0 41 i (nI j)) := ⟨_, rfl⟩
      rw [show zup m0 (38 + 2 + 1) i (nI j) = m1 from hm1.symm] at B1
      rw [← hm1]
      have eg : g' 1 3 = g 1 3 := hI.2 1 3 (by decide)
      have B2 : BR m1 38 ((zup g' 38 3 (g' 1 3)) 38 3) nv (upd N (8 + 10 * i + 1) (nI j)) n dd := by
        show BR m1 38 (g' 1 3) nv (upd N (8 + 10 * i + 1) (nI j)) n dd
        rw [eg]; exact B1
      have C1 : CE E vs g0 X nv wg sm an (zup g' 38 3 (g' 1 3)) m1 := ⟨C.1, C.2.1, fun b hb => by rw [zup_ne (by omega)]; exact (funext (fun f => hI.2 b f (by omega))).trans (C.2.2.1 b hb), fun b hb => by rw [hm1, zup_ne (by omega), b1 b (by omega), hI.1 b (by omega)]; exact C.2.2.2.1 b hb, C.2.2.2.2⟩
      have S1 : SE3 m1 N n c := S.fr (fun b h1 h2 => by rw [hm1, zup_ne (by omega), b1 b (by omega), hI.1 b (by omega)])
      refine Wp.run 2 (67, [(9, .ref 41), (0, .ref 37), (1, .ref 1), (2, .ref 21), (3, .int (nI i)), (4, .int 0), (5, .int 0), (6, .int 9), (7, .int (zsum (fitI sm an N n dd N c i 1) j)), (8, .int (nI j))], [.ref 21, .ref 37], (zsh ++ vs, m1, ml, (zmr (zup g' 38 3 (g' 1 3))))) rfl ?_
      refine Wp.call (as := [.ref 37, .ref 21]) (rest := []) rfl rfl rfl rfl rfl (Nat.le_of_ble_eq_true rfl) (Nat.le_of_ble_eq_true rfl) rfl (by decide) (c_so (mi := m1) (g := (zup g' 38 3 (g' 1 3))) C1 B2 S1 hdd) ?_
      rintro _ _ ⟨⟨b, rfl, hb⟩, m2, rfl, k1⟩
      have kf : frB 38 mi m2 := fun b hb => by rw [k1 b hb, hm1, zup_ne (by omega), b1 b (by omega)]; exact hI.1 b hb
      have kg : ∀ a f, ¬ (a = 38 ∧ f = 3) → (zup g' 38 3 (g' 1 3)) a f = g a f := fun a f h => (zup38 a f h).trans (hI.2 a f h)
      rcases hb with ⟨ha, rfl⟩ | ⟨ha, rfl⟩
      · refine Wp.run 6 (20, [(8, .int ((nI j) + 1)), (7, .int ((zsum (fitI sm an N n dd N c i 1) j) + 1)), (9, .ref 41), (0, .ref 37), (1, .ref 1), (2, .ref 21), (3, .int (nI i)), (4, .int 0), (5, .int 0), (6, .int 9)], [], (zsh ++ vs, m2, ml, (zmr (zup g' 38 3 (g' 1 3))))) rfl ?_
        have e9 : zsum (fitI sm an N n dd N c i 1) (j + 1) = zsum (fitI sm an N n dd N c i 1) j + 1 := by rw [zsum, fitI_t ha]
        rw [nI_1]
        refine Wp.sub (a := [(0, .ref 37), (1, .ref 1), (2, .ref 21), (3, .int (nI i)), (4, .int 0), (5, .int 0), (6, .int 9), (7, .int (zsum (fitI sm an N n dd N c i 1) (j + 1))), (8, .int (nI (j + 1)))]) (zle_cons rfl (zle_cons rfl (zle_cons rfl (zle_cons rfl (zle_cons rfl (zle_cons rfl (zle_cons rfl (zle_cons (by rw [e9]; rfl) (zle_cons rfl zle_nil))))))))) ?_
        exact ih (j + 1) m2 (zup g' 38 3 (g' 1 3)) (by omega) ⟨kf, kg⟩
      · refine Wp.run 3 (20, [(8, .int ((nI j) + 1)), (9, .ref 41), (0, .ref 37), (1, .ref 1), (2, .ref 21), (3, .int (nI i)), (4, .int 0), (5, .int 0), (6, .int 9), (7, .int (zsum (fitI sm an N n dd N c i 1) j))], [], (zsh ++ vs, m2, ml, (zmr (zup g' 38 3 (g' 1 3))))) rfl ?_
        have e9 : zsum (fitI sm an N n dd N c i 1) (j + 1) = zsum (fitI sm an N n dd N c i 1) j := by rw [zsum, fitI_f ha, Int32.add_zero]
        rw [nI_1]
        refine Wp.sub (a := [(0, .ref 37), (1, .ref 1), (2, .ref 21), (3, .int (nI i)), (4, .int 0), (5, .int 0), (6, .int 9), (7, .int (zsum (fitI sm an N n dd N c i 1) (j + 1))), (8, .int (nI (j + 1)))]) (zle_cons rfl (zle_cons rfl (zle_cons rfl (zle_cons rfl (zle_cons rfl (zle_cons rfl (zle_cons rfl (zle_cons (by rw [e9]; rfl) (zle_cons rfl zle_nil))))))))) ?_
        exact ih (j + 1) m2 (zup g' 38 3 (g' 1 3)) (by omega) ⟨kf, kg⟩
theorem c_fit_0_0 {E : zEn} {vs : List (Nat × Nat)} {mi : Nat → Nat → Int32} {ml : Nat → Nat → Int64} {g : Nat → Nat → Option Nat} {g0 : Nat → Nat → Option Nat} {X : Nat → Nat → Int32} {nv : Nat} {wg : Nat → (Nat → Int32) → Int32} {sm : Int32 → (Nat → Int32) → Int32} {an : Int32 → Int32} (C : CE E vs g0 X nv wg sm an g mi) {N : Nat → Int32} {n dd : Nat} (B : BR mi 1 (g 1 3) nv N n dd) {i c : Nat} (hi : i < n) (S : SE3 mi N n c) (hdd : dd + 13 < 100000) : Wp E 6 pg_Foresight_fitting 0 (lv_args 0 [.ref 37, .ref 1, .ref 21, .int (nI i), .int 0, .int 0]) [] (zsh ++ vs, mi, ml, (zmr g)) (fun r w' => r = some (.int (zsum (fitI sm an N n dd N c i 1) 10)) ∧ ∃ m g', w' = (zsh ++ vs, m, ml, zmr g') ∧ frB 38 mi m ∧ ∀ a f, ¬ (a = 38 ∧ f = 3) → g' a f = g a f) := by
  refine Wp.run 8 (20, [(8, .int 0), (7, .int 0), (6, .int 9), (0, .ref 37), (1, .ref 1), (2, .ref 21), (3, .int (nI i)), (4, .int 0), (5, .int 0)], [], (zsh ++ vs, mi, ml, (zmr g))) rfl ?_
  refine Wp.sub (a := [(0, .ref 37), (1, .ref 1), (2, .ref 21), (3, .int (nI i)), (4, .int 0), (5, .int 0), (6, .int 9), (7, .int (zsum (fitI sm an N n dd N c i 1) 0)), (8, .int (nI 0))]) (zle_cons rfl (zle_cons rfl (zle_cons rfl (zle_cons rfl (zle_cons rfl (zle_cons rfl (zle_cons rfl (zle_cons rfl (zle_cons rfl (zle_nil)))))))))) ?_
  exact c_fit_l0_0 C B hi S hdd 10 0 mi g (by omega) ⟨fun _ _ => rfl, fun _ _ _ => rfl⟩
theorem c_fit_l0_1 {E : zEn} {vs : List (Nat × Nat)} {mi : Nat → Nat → Int32} {ml : Nat → Nat → Int64} {g : Nat → Nat → Option Nat} {g0 : Nat → Nat → Option Nat} {X : Nat → Nat → Int32} {nv : Nat} {wg : Nat → (Nat → Int32) → Int32} {sm : Int32 → (Nat → Int32) → Int32} {an : Int32 → Int32} (C : CE E vs g0 X nv wg sm an g mi) {N : Nat → Int32} {n dd : Nat} (B : BR mi 1 (g 1 3) nv N n dd) {i c : Nat} (hi : i < n) (S : SE3 mi N n c) (hdd : dd + 13 < 100000) : ∀ (k j : Nat) (m : Nat → Nat → Int32) (g' : Nat → Nat → Option Nat), j + k = 10 → (frB 38 mi m ∧ ∀ a f, ¬ (a = 38 ∧ f = 3) → g' a f = g a f) → Wp E 6 pg_Foresight_fitting 20 [(0, .ref 37), (1, .ref 1), (2, .ref 21), (3, .int (nI i)), (4, .int 0), (5, .int 1), (6, .int 9), (7, .int 0), (8, .int (nI j))] [] (zsh ++ vs, m, ml, zmr g') (fun r w' => r = some (.int (lostR (fitL sm an N n dd N c i 1) k j)) ∧ ∃ m g', w' = (zsh ++ vs, m, ml, zmr g') ∧ frB 38 mi m ∧ ∀ a f, ¬ (a = 38 ∧ f = 3) → g' a f = g a f) := by
  have h6 := B.1.2.1
  intro k
  induction k with
  | zero =>
    intro j m g' hj hI
    obtain rfl : 10 = j := by omega
    refine Wp.run 2 (24, [(0, .ref 37), (1, .ref 1), (2, .ref 21), (3, .int (nI i)), (4, .int 0), (5, .int 1), (6, .int 9), (7, .int 0), (8, .int (nI 10))], [.int 9, .int (nI 10)], (zsh ++ vs, m, ml, (zmr g'))) rfl ?_
    refine Wp.icmp_gt rfl (fun h21 => ?_) (fun h21 => ?_)
    · refine Wp.run 4 (102, [(0, .ref 37), (1, .ref 1), (2, .ref 21), (3, .int (nI i)), (4, .int 0), (5, .int 1), (6, .int 9), (7, .int 0), (8, .int (nI 10))], [.int (-5)], (zsh ++ vs, m, ml, (zmr g'))) rfl ?_
      refine Wp.ret rfl rfl rfl ?_
      exact ⟨rfl, m, g', rfl, hI.1, hI.2⟩
    · exact absurd (nI_lt (a := 9) (b := 10) (by decide) (by decide)) h21
  | succ k ih =>
    intro j m g' hj hI
    refine Wp.run 2 (24, [(0, .ref 37), (1, .ref 1), (2, .ref 21), (3, .int (nI i)), (4, .int 0), (5, .int 1), (6, .int 9), (7, .int 0), (8, .int (nI j))], [.int 9, .int (nI j)], (zsh ++ vs, m, ml, (zmr g'))) rfl ?_
    refine Wp.icmp_gt rfl (fun h21 => ?_) (fun h21 => ?_)
    · exact absurd h21 (nI_nlt (a := 9) (by omega) (by decide))
    · refine Wp.run 3 (32, [(0, .ref 37), (1, .ref 1), (2, .ref 21), (3, .int (nI i)), (4, .int 0), (5, .int 1), (6, .int 9), (7, .int 0), (8, .int (nI j))], [.ref 1, .ref 38], (zsh ++ vs, m, ml, (zmr g'))) rfl ?_
      refine Wp.call (as := [.ref 38, .ref 1]) (rest := []) rfl rfl rfl rfl rfl (Nat.le_of_ble_eq_true rfl) (Nat.le_of_ble_eq_true rfl) rfl (by decide) (c_become_38_1 (g := g') (fun v hv => B.2.2.2.2.2.2.lt C.2.2.2.2 v ((hI.2 1 3 (by decide)).symm.trans hv))) ?_
      rintro _ _ ⟨rfl, m0, rfl, b1, b2, b3, b4, b5, b6⟩
      have B0 : BR m0 38 (g 1 3) nv N n dd := BR_copy (BR_fr B (fun b h1 h2 => hI.1 b (by omega))) b2 b4 b5 b6
      have B1 := BR_set (f := 1) (v := nI j) B0 hi (Or.inl ⟨rfl, j, by omega, rfl⟩)
      refine Wp.run 9 (64, [(9, .ref 41), (0, .ref 37), (1, .ref 1), (2, .ref 21), (3, .int (nI i)), (4, .int 0), (5, .int 1), (6, .int 9), (7, .int 0), (8, .int (nI j))], [.int (nI j), .int (nI i), .ref 41], (zsh ++ vs, m0, ml, (zmr (zup g' 38 3 (g' 1 3))))) rfl ?_
      refine Wp.iasn rfl (by decide) rfl (by omega) (by decide) ?_
      refine Wp.run 0 (65, [(9, .ref 41), (0, .ref 37), (1, .ref 1), (2, .ref 21), (3, .int (nI i)), (4, .int 0), (5, .int 1), (6, .int 9), (7, .int 0), (8, .int (nI j))], [], (zsh ++ vs, (zup m0 41 i (nI j)), ml, (zmr (zup g' 38 3 (g' 1 3))))) rfl ?_
      obtain ⟨m1, hm1⟩ : ∃ z, z = (zup m0 41 i (nI j)) := ⟨_, rfl⟩
      rw [show zup m0 (38 + 2 + 1) i (nI j) = m1 from hm1.symm] at B1
      rw [← hm1]
      have eg : g' 1 3 = g 1 3 := hI.2 1 3 (by decide)
      have B2 : BR m1 38 ((zup g' 38 3 (g' 1 3)) 38 3) nv (upd N (8 + 10 * i + 1) (nI j)) n dd := by
        show BR m1 38 (g' 1 3) nv (upd N (8 + 10 * i + 1) (nI j)) n dd
        rw [eg]; exact B1
      have C1 : CE E vs g0 X nv wg sm an (zup g' 38 3 (g' 1 3)) m1 := ⟨C.1, C.2.1, fun b hb => by rw [zup_ne (by omega)]; exact (funext (fun f => hI.2 b f (by omega))).trans (C.2.2.1 b hb), fun b hb => by rw [hm1, zup_ne (by omega), b1 b (by omega), hI.1 b (by omega)]; exact C.2.2.2.1 b hb, C.2.2.2.2⟩
      have S1 : SE3 m1 N n c := S.fr (fun b h1 h2 => by rw [hm1, zup_ne (by omega), b1 b (by omega), hI.1 b (by omega)])
      refine Wp.run 2 (67, [(9, .ref 41), (0, .ref 37), (1, .ref 1), (2, .ref 21), (3, .int (nI i)), (4, .int 0), (5, .int 1), (6, .int 9), (7, .int 0), (8, .int (nI j))], [.ref 21, .ref 37], (zsh ++ vs, m1, ml, (zmr (zup g' 38 3 (g' 1 3))))) rfl ?_
      refine Wp.call (as := [.ref 37, .ref 21]) (rest := []) rfl rfl rfl rfl rfl (Nat.le_of_ble_eq_true rfl) (Nat.le_of_ble_eq_true rfl) rfl (by decide) (c_so (mi := m1) (g := (zup g' 38 3 (g' 1 3))) C1 B2 S1 hdd) ?_
      rintro _ _ ⟨⟨b, rfl, hb⟩, m2, rfl, k1⟩
      have kf : frB 38 mi m2 := fun b hb => by rw [k1 b hb, hm1, zup_ne (by omega), b1 b (by omega)]; exact hI.1 b hb
      have kg : ∀ a f, ¬ (a = 38 ∧ f = 3) → (zup g' 38 3 (g' 1 3)) a f = g a f := fun a f h => (zup38 a f h).trans (hI.2 a f h)
      rcases hb with ⟨ha, rfl⟩ | ⟨ha, rfl⟩
      · refine Wp.run 4 (80, [(9, .ref 41), (0, .ref 37), (1, .ref 1), (2, .ref 21), (3, .int (nI i)), (4, .int 0), (5, .int 1), (6, .int 9), (7, .int 0), (8, .int (nI j))], [.int (nI j)], (zsh ++ vs, m2, ml, (zmr (zup g' 38 3 (g' 1 3))))) rfl ?_
        refine Wp.ret rfl rfl rfl ?_
        exact ⟨by rw [lostR_eq (fitL_t ha)], m2, (zup g' 38 3 (g' 1 3)), rfl, kf, kg⟩
      · refine Wp.run 3 (20, [(8, .int ((nI j) + 1)), (9, .ref 41), (0, .ref 37), (1, .ref 1), (2, .ref 21), (3, .int (nI i)), (4, .int 0), (5, .int 1), (6, .int 9), (7, .int 0)], [], (zsh ++ vs, m2, ml, (zmr (zup g' 38 3 (g' 1 3))))) rfl ?_
        rw [nI_1, lostR_ne (fitL_f ha)]
        refine Wp.sub (a := [(0, .ref 37), (1, .ref 1), (2, .ref 21), (3, .int (nI i)), (4, .int 0), (5, .int 1), (6, .int 9), (7, .int 0), (8, .int (nI (j + 1)))]) (zle_cons rfl (zle_cons rfl (zle_cons rfl (zle_cons rfl (zle_cons rfl (zle_cons rfl (zle_cons rfl (zle_cons rfl (zle_cons rfl (zle_nil)))))))))) ?_
        exact ih (j + 1) m2 (zup g' 38 3 (g' 1 3)) (by omega) ⟨kf, kg⟩
theorem c_fit_0_1 {E : zEn} {vs : List (Nat × Nat)} {mi : Nat → Nat → Int32} {ml : Nat → Nat → Int64} {g : Nat → Nat → Option Nat} {g0 : Nat → Nat → Option Nat} {X : Nat → Nat → Int32} {nv : Nat} {wg : Nat → (Nat → Int32) → Int32} {sm : Int32 → (Nat → Int32) → Int32} {an : Int32 → Int32} (C : CE E vs g0 X nv wg sm an g mi) {N : Nat → Int32} {n dd : Nat} (B : BR mi 1 (g 1 3) nv N n dd) {i c : Nat} (hi : i < n) (S : SE3 mi N n c) (hdd : dd + 13 < 100000) : Wp E 6 pg_Foresight_fitting 0 (lv_args 0 [.ref 37, .ref 1, .ref 21, .int (nI i), .int 0, .int 1]) [] (zsh ++ vs, mi, ml, (zmr g)) (fun r w' => r = some (.int (lostR (fitL sm an N n dd N c i 1) 10 0)) ∧ ∃ m g', w' = (zsh ++ vs, m, ml, zmr g') ∧ frB 38 mi m ∧ ∀ a f, ¬ (a = 38 ∧ f = 3) → g' a f = g a f) := by
  refine Wp.run 8 (20, [(8, .int 0), (7, .int 0), (6, .int 9), (0, .ref 37), (1, .ref 1), (2, .ref 21), (3, .int (nI i)), (4, .int 0), (5, .int 1)], [], (zsh ++ vs, mi, ml, (zmr g))) rfl ?_
  refine Wp.sub (a := [(0, .ref 37), (1, .ref 1), (2, .ref 21), (3, .int (nI i)), (4, .int 0), (5, .int 1), (6, .int 9), (7, .int 0), (8, .int (nI 0))]) (zle_cons rfl (zle_cons rfl (zle_cons rfl (zle_cons rfl (zle_cons rfl (zle_cons rfl (zle_cons rfl (zle_cons rfl (zle_cons rfl (zle_nil)))))))))) ?_
  exact c_fit_l0_1 C B hi S hdd 10 0 mi g (by omega) ⟨fun _ _ => rfl, fun _ _ _ => rfl⟩
theorem m_fit_l3_0 {E : zEn} {vs : List (Nat × Nat)} {mi : Nat → Nat → Int32} {ml : Nat → Nat → Int64} {g : Nat → Nat → Option Nat} {X71 X72 : Nat → Int32} {rv : Int32 → Prop} {sm : Int32 → (Nat → Int32) → Int32} {an : Int32 → Int32} {n dd : Nat} (R : RE E X71 X72 rv sm an mi n dd) {i c : Nat} (hi : i < n) (S : SR3 (mi 67) (mi 67) n c) (hdd : dd + 13 < 100000) : ∀ (j k : Nat) (m : Nat → Nat → Int32), j + k = 100 → ((∃ x, m 67 = upd (mi 67) (8 + 10 * i + 3) x) ∧ (∀ a, ¬ a = 66 → ¬ a = 67 → ¬ a = 68 → ¬ a = 73 → ¬ a = 74 → ¬ a = 78 → m a = mi a) ∧ ∀ k, (k < 10 ∨ 15 < k) → m 66 k = mi 66 k) → Wp E 26 pg_M_fits 18 [(0, .ref 66), (1, .int (nI i)), (2, .int 3), (3, .int 99), (4, .int 0), (5, .int (mi 67 (8 + 10 * i + 3))), (6, .int (sF (fitI sm an (mi 67) n dd (mi 67) c i 3) k j)), (7, .int (lostR (fitL sm an (mi 67) n dd (mi 67) c i 3) k j)), (8, .int (vI j))] [] (zsh ++ vs, m, ml, zmr g) (fun r w' => r = some (.int (lostR (fitL sm an (mi 67) n dd (mi 67) c i 3) 100 0)) ∧ ∃ m, w' = (zsh ++ vs, m, ml, zmr g) ∧ KO mi m) := by
  have h6 := R.2.2.2.2.2.2
  intro j
  induction j with
  | zero =>
    intro k m hj hI
    obtain rfl : 100 = k := by omega
    refine Wp.run 6 (78, [(0, .ref 66), (1, .int (nI i)), (2, .int 3), (3, .int 99), (4, .int 0), (5, .int (mi 67 (8 + 10 * i + 3))), (6, .int (sF (fitI sm an (mi 67) n dd (mi 67) c i 3) 100 0)), (7, .int (lostR (fitL sm an (mi 67) n dd (mi 67) c i 3) 100 0)), (8, .int (-1))], [.int (mi 67 (8 + 10 * i + 3)), .int 3, .int (nI i), .ref 66], (zsh ++ vs, m, ml, (zmr g))) rfl ?_
    refine Wp.call (as := [.ref 66, .int (nI i), .int 3, .int (mi 67 (8 + 10 * i + 3))]) (rest := []) rfl rfl rfl rfl rfl (Nat.le_of_ble_eq_true rfl) (Nat.le_of_ble_eq_true rfl) rfl (by decide) (m_change (mi := m) i 3 (mi 67 (8 + 10 * i + 3)) (by omega)) ?_
    rintro _ _ ⟨rfl, rfl⟩
    obtain ⟨p3, hp3⟩ : ∃ z, z = zup m 67 (8 + 10 * i + 3) (mi 67 (8 + 10 * i + 3)) := ⟨_, rfl⟩
    rw [← hp3]
    refine Wp.run 4 (94, [(0, .ref 66), (1, .int (nI i)), (2, .int 3), (3, .int 99), (4, .int 0), (5, .int (mi 67 (8 + 10 * i + 3))), (6, .int (sF (fitI sm an (mi 67) n dd (mi 67) c i 3) 100 0)), (7, .int (lostR (fitL sm an (mi 67) n dd (mi 67) c i 3) 100 0)), (8, .int (-1))], [.int (lostR (fitL sm an (mi 67) n dd (mi 67) c i 3) 100 0)], (zsh ++ vs, p3, ml, (zmr g))) rfl ?_
    refine Wp.ret rfl rfl rfl ?_
    refine ⟨rfl, p3, rfl, fun a a1 a2 a3 a4 a5 => ?_, fun q hq => ?_⟩
    · by_cases ha : a = 67
      · subst ha; obtain ⟨x, hx⟩ := hI.1; rw [hp3, zup_eq, hx, upd_upd, upd_self]
      · rw [hp3, zup_ne ha]; exact hI.2.1 a a1 ha a2 a3 a4 a5
    · rw [hp3, zup_ne (by decide)]; exact hI.2.2 q hq
  | succ j ih =>
    intro k m hj hI
    refine Wp.run 1 (20, [(0, .ref 66), (1, .int (nI i)), (2, .int 3), (3, .int 99), (4, .int 0), (5, .int (mi 67 (8 + 10 * i + 3))), (6, .int (sF (fitI sm an (mi 67) n dd (mi 67) c i 3) k (j + 1))), (7, .int (lostR (fitL sm an (mi 67) n dd (mi 67) c i 3) k (j + 1))), (8, .int (nI j))], [.int (nI j)], (zsh ++ vs, m, ml, (zmr g))) rfl ?_
    refine Wp.if_lt rfl (fun h21 => ?_) (fun h21 => ?_)
    · exact absurd h21 (nI_pos (by omega))
    · refine Wp.run 4 (28, [(0, .ref 66), (1, .int (nI i)), (2, .int 3), (3, .int 99), (4, .int 0), (5, .int (mi 67 (8 + 10 * i + 3))), (6, .int (sF (fitI sm an (mi 67) n dd (mi 67) c i 3) k (j + 1))), (7, .int (lostR (fitL sm an (mi 67) n dd (mi 67) c i 3) k (j + 1))), (8, .int (nI j))], [.int (nI j), .int 3, .int (nI i), .ref 66], (zsh ++ vs, m, ml, (zmr g))) rfl ?_
      refine Wp.call (as := [.ref 66, .int (nI i), .int 3, .int (nI j)]) (rest := []) rfl rfl rfl rfl rfl (Nat.le_of_ble_eq_true rfl) (Nat.le_of_ble_eq_true rfl) rfl (by decide) (m_change (mi := m) i 3 (nI j) (by omega)) ?_
      rintro _ _ ⟨rfl, rfl⟩
      obtain ⟨p1, hp1⟩ : ∃ z, z = zup m 67 (8 + 10 * i + 3) (nI j) := ⟨_, rfl⟩
      rw [← hp1]
      have e1 : p1 67 = upd (mi 67) (8 + 10 * i + 3) (nI j) := by obtain ⟨x, hx⟩ := hI.1; rw [hp1, zup_eq, hx, upd_upd]
      have R1 : RE E X71 X72 rv sm an p1 n dd := R.fr (fun a ha => by rw [hp1, zup_ne (by omega)]; exact hI.2.1 a (by omega) (by omega) (by omega) (by omega) (by omega) (by omega)) (by rw [e1, upd_ne (by omega)]) (by rw [e1, upd_ne (by omega)]; exact R.2.2.2.2.1) (by rw [e1, upd_ne (by omega)])
      have S1 : SR3 (p1 67) (mi 67) n c := S.fr (fun q hq => by rw [e1, upd_ne (by omega)])
      refine Wp.run 2 (33, [(0, .ref 66), (1, .int (nI i)), (2, .int 3), (3, .int 99), (4, .int 0), (5, .int (mi 67 (8 + 10 * i + 3))), (6, .int (sF (fitI sm an (mi 67) n dd (mi 67) c i 3) k (j + 1))), (7, .int (lostR (fitL sm an (mi 67) n dd (mi 67) c i 3) k (j + 1))), (8, .int (nI j))], [.ref 66], (zsh ++ vs, p1, ml, (zmr g))) rfl ?_
      refine Wp.call (as := [.ref 66]) (rest := []) rfl rfl rfl rfl rfl (Nat.le_of_ble_eq_true rfl) (Nat.le_of_ble_eq_true rfl) rfl (by decide) (m_as (mi := p1) R1 S1 hdd) ?_
      rintro _ _ ⟨⟨b, rfl, hb⟩, p2, rfl, k1⟩
      rw [e1] at hb
      have hJ : ((∃ x, p2 67 = upd (mi 67) (8 + 10 * i + 3) x) ∧ (∀ a, ¬ a = 66 → ¬ a = 67 → ¬ a = 68 → ¬ a = 73 → ¬ a = 74 → ¬ a = 78 → p2 a = mi a) ∧ ∀ k, (k < 10 ∨ 15 < k) → p2 66 k = mi 66 k) := ⟨⟨nI j, by rw [k1.e67, e1]⟩, fun a a1 a2 a3 a4 a5 a6 => by rw [k1.1 a a1 a3 a4 a5 a6, hp1, zup_ne a2]; exact hI.2.1 a a1 a2 a3 a4 a5 a6, fun q hq => by rw [k1.2 q hq, hp1, zup_ne (by decide)]; exact hI.2.2 q hq⟩
      rcases hb with ⟨ha, rfl⟩ | ⟨ha, rfl⟩
      · refine Wp.run 15 (18, [(8, .int ((nI j) + (-1))), (7, .int (nI j)), (6, .int ((sF (fitI sm an (mi 67) n dd (mi 67) c i 3) k (j + 1)) + 1)), (9, .int 1), (0, .ref 66), (1, .int (nI i)), (2, .int 3), (3, .int 99), (4, .int 0), (5, .int (mi 67 (8 + 10 * i + 3)))], [], (zsh ++ vs, p2, ml, (zmr g))) rfl ?_
        have e8 : sF (fitI sm an (mi 67) n dd (mi 67) c i 3) (k + 1) j = sF (fitI sm an (mi 67) n dd (mi 67) c i 3) k (j + 1) + 1 := by rw [sF, fitI_t ha]
        have e9 : lostR (fitL sm an (mi 67) n dd (mi 67) c i 3) (k + 1) j = nI j := lostR_eq (fitL_t ha)
        refine Wp.sub (a := [(0, .ref 66), (1, .int (nI i)), (2, .int 3), (3, .int 99), (4, .int 0), (5, .int (mi 67 (8 + 10 * i + 3))), (6, .int (sF (fitI sm an (mi 67) n dd (mi 67) c i 3) (k + 1) j)), (7, .int (lostR (fitL sm an (mi 67) n dd (mi 67) c i 3) (k + 1) j)), (8, .int (vI j))]) (zle_cons rfl (zle_cons rfl (zle_cons rfl (zle_cons rfl (zle_cons rfl (zle_cons rfl (zle_cons (by rw [e8]; rfl) (zle_cons (by rw [e9]; rfl) (zle_cons (by rw [← vI_m1]; rfl) zle_nil))))))))) ?_
        exact ih (k + 1) p2 (by omega) hJ
      · refine Wp.run 13 (18, [(8, .int ((nI j) + (-1))), (7, .int (lostR (fitL sm an (mi 67) n dd (mi 67) c i 3) k (j + 1))), (6, .int ((sF (fitI sm an (mi 67) n dd (mi 67) c i 3) k (j + 1)) + 0)), (9, .int 0), (0, .ref 66), (1, .int (nI i)), (2, .int 3), (3, .int 99), (4, .int 0), (5, .int (mi 67 (8 + 10 * i + 3)))], [], (zsh ++ vs, p2, ml, (zmr g))) rfl ?_
        have e8 : sF (fitI sm an (mi 67) n dd (mi 67) c i 3) (k + 1) j = sF (fitI sm an (mi 67) n dd (mi 67) c i 3) k (j + 1) + 0 := by rw [sF, fitI_f ha]
        have e9 : lostR (fitL sm an (mi 67) n dd (mi 67) c i 3) (k + 1) j = lostR (fitL sm an (mi 67) n dd (mi 67) c i 3) k (j + 1) := lostR_ne (fitL_f ha)
        refine Wp.sub (a := [(0, .ref 66), (1, .int (nI i)), (2, .int 3), (3, .int 99), (4, .int 0), (5, .int (mi 67 (8 + 10 * i + 3))), (6, .int (sF (fitI sm an (mi 67) n dd (mi 67) c i 3) (k + 1) j)), (7, .int (lostR (fitL sm an (mi 67) n dd (mi 67) c i 3) (k + 1) j)), (8, .int (vI j))]) (zle_cons rfl (zle_cons rfl (zle_cons rfl (zle_cons rfl (zle_cons rfl (zle_cons rfl (zle_cons (by rw [e8]; rfl) (zle_cons (by rw [e9]; rfl) (zle_cons (by rw [← vI_m1]; rfl) zle_nil))))))))) ?_
        exact ih (k + 1) p2 (by omega) hJ
theorem m_fit_3_0 {E : zEn} {vs : List (Nat × Nat)} {mi : Nat → Nat → Int32} {ml : Nat → Nat → Int64} {g : Nat → Nat → Option Nat} {X71 X72 : Nat → Int32} {rv : Int32 → Prop} {sm : Int32 → (Nat → Int32) → Int32} {an : Int32 → Int32} {n dd : Nat} (R : RE E X71 X72 rv sm an mi n dd) {i c : Nat} (hi : i < n) (S : SR3 (mi 67) (mi 67) n c) (hdd : dd + 13 < 100000) : Wp E 26 pg_M_fits 0 (lv_args 0 [.ref 66, .int (nI i), .int 3, .int 99, .int 0]) [] (zsh ++ vs, mi, ml, (zmr g)) (fun r w' => r = some (.int (lostR (fitL sm an (mi 67) n dd (mi 67) c i 3) 100 0)) ∧ ∃ m, w' = (zsh ++ vs, m, ml, zmr g) ∧ KO mi m) := by
  have h6 := R.2.2.2.2.2.2
  refine Wp.run 3 (3, [(0, .ref 66), (1, .int (nI i)), (2, .int 3), (3, .int 99), (4, .int 0)], [.int 3, .int (nI i), .ref 66], (zsh ++ vs, mi, ml, (zmr g))) rfl ?_
  refine Wp.call (as := [.ref 66, .int (nI i), .int 3]) (rest := []) rfl rfl rfl rfl rfl (Nat.le_of_ble_eq_true rfl) (Nat.le_of_ble_eq_true rfl) rfl (by decide) (m_one i 3 (by omega)) ?_
  rintro _ _ ⟨rfl, rfl⟩
  refine Wp.run 7 (18, [(8, .int 99), (7, .int (-5)), (6, .int 0), (5, .int (mi 67 (8 + 10 * i + 3))), (0, .ref 66), (1, .int (nI i)), (2, .int 3), (3, .int 99), (4, .int 0)], [], (zsh ++ vs, mi, ml, (zmr g))) rfl ?_
  refine Wp.sub (a := [(0, .ref 66), (1, .int (nI i)), (2, .int 3), (3, .int 99), (4, .int 0), (5, .int (mi 67 (8 + 10 * i + 3))), (6, .int (sF (fitI sm an (mi 67) n dd (mi 67) c i 3) 0 100)), (7, .int (lostR (fitL sm an (mi 67) n dd (mi 67) c i 3) 0 100)), (8, .int (nI 99))]) (zle_cons rfl (zle_cons rfl (zle_cons rfl (zle_cons rfl (zle_cons rfl (zle_cons rfl (zle_cons rfl (zle_cons rfl (zle_cons rfl (zle_nil)))))))))) ?_
  exact m_fit_l3_0 R hi S hdd 100 0 mi (by omega) ⟨⟨_, (upd_self _ _).symm⟩, fun _ _ _ _ _ _ _ => rfl, fun _ _ => rfl⟩
theorem m_fit_l3_1 {E : zEn} {vs : List (Nat × Nat)} {mi : Nat → Nat → Int32} {ml : Nat → Nat → Int64} {g : Nat → Nat → Option Nat} {X71 X72 : Nat → Int32} {rv : Int32 → Prop} {sm : Int32 → (Nat → Int32) → Int32} {an : Int32 → Int32} {n dd : Nat} (R : RE E X71 X72 rv sm an mi n dd) {i c : Nat} (hi : i < n) (S : SR3 (mi 67) (mi 67) n c) (hdd : dd + 13 < 100000) : ∀ (j k : Nat) (m : Nat → Nat → Int32), j + k = 100 → ((∃ x, m 67 = upd (mi 67) (8 + 10 * i + 3) x) ∧ (∀ a, ¬ a = 66 → ¬ a = 67 → ¬ a = 68 → ¬ a = 73 → ¬ a = 74 → ¬ a = 78 → m a = mi a) ∧ ∀ k, (k < 10 ∨ 15 < k) → m 66 k = mi 66 k) → Wp E 26 pg_M_fits 18 [(0, .ref 66), (1, .int (nI i)), (2, .int 3), (3, .int 99), (4, .int 1), (5, .int (mi 67 (8 + 10 * i + 3))), (6, .int (sF (fitI sm an (mi 67) n dd (mi 67) c i 3) k j)), (7, .int (lostR (fitL sm an (mi 67) n dd (mi 67) c i 3) k j)), (8, .int (vI j))] [] (zsh ++ vs, m, ml, zmr g) (fun r w' => r = some (.int (sF (fitI sm an (mi 67) n dd (mi 67) c i 3) 100 0)) ∧ ∃ m, w' = (zsh ++ vs, m, ml, zmr g) ∧ KO mi m) := by
  have h6 := R.2.2.2.2.2.2
  intro j
  induction j with
  | zero =>
    intro k m hj hI
    obtain rfl : 100 = k := by omega
    refine Wp.run 6 (78, [(0, .ref 66), (1, .int (nI i)), (2, .int 3), (3, .int 99), (4, .int 1), (5, .int (mi 67 (8 + 10 * i + 3))), (6, .int (sF (fitI sm an (mi 67) n dd (mi 67) c i 3) 100 0)), (7, .int (lostR (fitL sm an (mi 67) n dd (mi 67) c i 3) 100 0)), (8, .int (-1))], [.int (mi 67 (8 + 10 * i + 3)), .int 3, .int (nI i), .ref 66], (zsh ++ vs, m, ml, (zmr g))) rfl ?_
    refine Wp.call (as := [.ref 66, .int (nI i), .int 3, .int (mi 67 (8 + 10 * i + 3))]) (rest := []) rfl rfl rfl rfl rfl (Nat.le_of_ble_eq_true rfl) (Nat.le_of_ble_eq_true rfl) rfl (by decide) (m_change (mi := m) i 3 (mi 67 (8 + 10 * i + 3)) (by omega)) ?_
    rintro _ _ ⟨rfl, rfl⟩
    obtain ⟨p3, hp3⟩ : ∃ z, z = zup m 67 (8 + 10 * i + 3) (mi 67 (8 + 10 * i + 3)) := ⟨_, rfl⟩
    rw [← hp3]
    refine Wp.run 5 (94, [(0, .ref 66), (1, .int (nI i)), (2, .int 3), (3, .int 99), (4, .int 1), (5, .int (mi 67 (8 + 10 * i + 3))), (6, .int (sF (fitI sm an (mi 67) n dd (mi 67) c i 3) 100 0)), (7, .int (lostR (fitL sm an (mi 67) n dd (mi 67) c i 3) 100 0)), (8, .int (-1))], [.int (sF (fitI sm an (mi 67) n dd (mi 67) c i 3) 100 0)], (zsh ++ vs, p3, ml, (zmr g))) rfl ?_
    refine Wp.ret rfl rfl rfl ?_
    refine ⟨rfl, p3, rfl, fun a a1 a2 a3 a4 a5 => ?_, fun q hq => ?_⟩
    · by_cases ha : a = 67
      · subst ha; obtain ⟨x, hx⟩ := hI.1; rw [hp3, zup_eq, hx, upd_upd, upd_self]
      · rw [hp3, zup_ne ha]; exact hI.2.1 a a1 ha a2 a3 a4 a5
    · rw [hp3, zup_ne (by decide)]; exact hI.2.2 q hq
  | succ j ih =>
    intro k m hj hI
    refine Wp.run 1 (20, [(0, .ref 66), (1, .int (nI i)), (2, .int 3), (3, .int 99), (4, .int 1), (5, .int (mi 67 (8 + 10 * i + 3))), (6, .int (sF (fitI sm an (mi 67) n dd (mi 67) c i 3) k (j + 1))), (7, .int (lostR (fitL sm an (mi 67) n dd (mi 67) c i 3) k (j + 1))), (8, .int (nI j))], [.int (nI j)], (zsh ++ vs, m, ml, (zmr g))) rfl ?_
    refine Wp.if_lt rfl (fun h21 => ?_) (fun h21 => ?_)
    · exact absurd h21 (nI_pos (by omega))
    · refine Wp.run 4 (28, [(0, .ref 66), (1, .int (nI i)), (2, .int 3), (3, .int 99), (4, .int 1), (5, .int (mi 67 (8 + 10 * i + 3))), (6, .int (sF (fitI sm an (mi 67) n dd (mi 67) c i 3) k (j + 1))), (7, .int (lostR (fitL sm an (mi 67) n dd (mi 67) c i 3) k (j + 1))), (8, .int (nI j))], [.int (nI j), .int 3, .int (nI i), .ref 66], (zsh ++ vs, m, ml, (zmr g))) rfl ?_
      refine Wp.call (as := [.ref 66, .int (nI i), .int 3, .int (nI j)]) (rest := []) rfl rfl rfl rfl rfl (Nat.le_of_ble_eq_true rfl) (Nat.le_of_ble_eq_true rfl) rfl (by decide) (m_change (mi := m) i 3 (nI j) (by omega)) ?_
      rintro _ _ ⟨rfl, rfl⟩
      obtain ⟨p1, hp1⟩ : ∃ z, z = zup m 67 (8 + 10 * i + 3) (nI j) := ⟨_, rfl⟩
      rw [← hp1]
      have e1 : p1 67 = upd (mi 67) (8 + 10 * i + 3) (nI j) := by obtain ⟨x, hx⟩ := hI.1; rw [hp1, zup_eq, hx, upd_upd]
      have R1 : RE E X71 X72 rv sm an p1 n dd := R.fr (fun a ha => by rw [hp1, zup_ne (by omega)]; exact hI.2.1 a (by omega) (by omega) (by omega) (by omega) (by omega) (by omega)) (by rw [e1, upd_ne (by omega)]) (by rw [e1, upd_ne (by omega)]; exact R.2.2.2.2.1) (by rw [e1, upd_ne (by omega)])
      have S1 : SR3 (p1 67) (mi 67) n c := S.fr (fun q hq => by rw [e1, upd_ne (by omega)])
      refine Wp.run 2 (33, [(0, .ref 66), (1, .int (nI i)), (2, .int 3), (3, .int 99), (4, .int 1), (5, .int (mi 67 (8 + 10 * i + 3))), (6, .int (sF (fitI sm an (mi 67) n dd (mi 67) c i 3) k (j + 1))), (7, .int (lostR (fitL sm an (mi 67) n dd (mi 67) c i 3) k (j + 1))), (8, .int (nI j))], [.ref 66], (zsh ++ vs, p1, ml, (zmr g))) rfl ?_
      refine Wp.call (as := [.ref 66]) (rest := []) rfl rfl rfl rfl rfl (Nat.le_of_ble_eq_true rfl) (Nat.le_of_ble_eq_true rfl) rfl (by decide) (m_as (mi := p1) R1 S1 hdd) ?_
      rintro _ _ ⟨⟨b, rfl, hb⟩, p2, rfl, k1⟩
      rw [e1] at hb
      have hJ : ((∃ x, p2 67 = upd (mi 67) (8 + 10 * i + 3) x) ∧ (∀ a, ¬ a = 66 → ¬ a = 67 → ¬ a = 68 → ¬ a = 73 → ¬ a = 74 → ¬ a = 78 → p2 a = mi a) ∧ ∀ k, (k < 10 ∨ 15 < k) → p2 66 k = mi 66 k) := ⟨⟨nI j, by rw [k1.e67, e1]⟩, fun a a1 a2 a3 a4 a5 a6 => by rw [k1.1 a a1 a3 a4 a5 a6, hp1, zup_ne a2]; exact hI.2.1 a a1 a2 a3 a4 a5 a6, fun q hq => by rw [k1.2 q hq, hp1, zup_ne (by decide)]; exact hI.2.2 q hq⟩
      rcases hb with ⟨ha, rfl⟩ | ⟨ha, rfl⟩
      · refine Wp.run 15 (18, [(8, .int ((nI j) + (-1))), (7, .int (nI j)), (6, .int ((sF (fitI sm an (mi 67) n dd (mi 67) c i 3) k (j + 1)) + 1)), (9, .int 1), (0, .ref 66), (1, .int (nI i)), (2, .int 3), (3, .int 99), (4, .int 1), (5, .int (mi 67 (8 + 10 * i + 3)))], [], (zsh ++ vs, p2, ml, (zmr g))) rfl ?_
        have e8 : sF (fitI sm an (mi 67) n dd (mi 67) c i 3) (k + 1) j = sF (fitI sm an (mi 67) n dd (mi 67) c i 3) k (j + 1) + 1 := by rw [sF, fitI_t ha]
        have e9 : lostR (fitL sm an (mi 67) n dd (mi 67) c i 3) (k + 1) j = nI j := lostR_eq (fitL_t ha)
        refine Wp.sub (a := [(0, .ref 66), (1, .int (nI i)), (2, .int 3), (3, .int 99), (4, .int 1), (5, .int (mi 67 (8 + 10 * i + 3))), (6, .int (sF (fitI sm an (mi 67) n dd (mi 67) c i 3) (k + 1) j)), (7, .int (lostR (fitL sm an (mi 67) n dd (mi 67) c i 3) (k + 1) j)), (8, .int (vI j))]) (zle_cons rfl (zle_cons rfl (zle_cons rfl (zle_cons rfl (zle_cons rfl (zle_cons rfl (zle_cons (by rw [e8]; rfl) (zle_cons (by rw [e9]; rfl) (zle_cons (by rw [← vI_m1]; rfl) zle_nil))))))))) ?_
        exact ih (k + 1) p2 (by omega) hJ
      · refine Wp.run 13 (18, [(8, .int ((nI j) + (-1))), (7, .int (lostR (fitL sm an (mi 67) n dd (mi 67) c i 3) k (j + 1))), (6, .int ((sF (fitI sm an (mi 67) n dd (mi 67) c i 3) k (j + 1)) + 0)), (9, .int 0), (0, .ref 66), (1, .int (nI i)), (2, .int 3), (3, .int 99), (4, .int 1), (5, .int (mi 67 (8 + 10 * i + 3)))], [], (zsh ++ vs, p2, ml, (zmr g))) rfl ?_
        have e8 : sF (fitI sm an (mi 67) n dd (mi 67) c i 3) (k + 1) j = sF (fitI sm an (mi 67) n dd (mi 67) c i 3) k (j + 1) + 0 := by rw [sF, fitI_f ha]
        have e9 : lostR (fitL sm an (mi 67) n dd (mi 67) c i 3) (k + 1) j = lostR (fitL sm an (mi 67) n dd (mi 67) c i 3) k (j + 1) := lostR_ne (fitL_f ha)
        refine Wp.sub (a := [(0, .ref 66), (1, .int (nI i)), (2, .int 3), (3, .int 99), (4, .int 1), (5, .int (mi 67 (8 + 10 * i + 3))), (6, .int (sF (fitI sm an (mi 67) n dd (mi 67) c i 3) (k + 1) j)), (7, .int (lostR (fitL sm an (mi 67) n dd (mi 67) c i 3) (k + 1) j)), (8, .int (vI j))]) (zle_cons rfl (zle_cons rfl (zle_cons rfl (zle_cons rfl (zle_cons rfl (zle_cons rfl (zle_cons (by rw [e8]; rfl) (zle_cons (by rw [e9]; rfl) (zle_cons (by rw [← vI_m1]; rfl) zle_nil))))))))) ?_
        exact ih (k + 1) p2 (by omega) hJ
theorem m_fit_3_1 {E : zEn} {vs : List (Nat × Nat)} {mi : Nat → Nat → Int32} {ml : Nat → Nat → Int64} {g : Nat → Nat → Option Nat} {X71 X72 : Nat → Int32} {rv : Int32 → Prop} {sm : Int32 → (Nat → Int32) → Int32} {an : Int32 → Int32} {n dd : Nat} (R : RE E X71 X72 rv sm an mi n dd) {i c : Nat} (hi : i < n) (S : SR3 (mi 67) (mi 67) n c) (hdd : dd + 13 < 100000) : Wp E 26 pg_M_fits 0 (lv_args 0 [.ref 66, .int (nI i), .int 3, .int 99, .int 1]) [] (zsh ++ vs, mi, ml, (zmr g)) (fun r w' => r = some (.int (zsum (fitI sm an (mi 67) n dd (mi 67) c i 3) 100)) ∧ ∃ m, w' = (zsh ++ vs, m, ml, zmr g) ∧ KO mi m) := by
  have h6 := R.2.2.2.2.2.2
  rw [← sF_all]
  refine Wp.run 3 (3, [(0, .ref 66), (1, .int (nI i)), (2, .int 3), (3, .int 99), (4, .int 1)], [.int 3, .int (nI i), .ref 66], (zsh ++ vs, mi, ml, (zmr g))) rfl ?_
  refine Wp.call (as := [.ref 66, .int (nI i), .int 3]) (rest := []) rfl rfl rfl rfl rfl (Nat.le_of_ble_eq_true rfl) (Nat.le_of_ble_eq_true rfl) rfl (by decide) (m_one i 3 (by omega)) ?_
  rintro _ _ ⟨rfl, rfl⟩
  refine Wp.run 7 (18, [(8, .int 99), (7, .int (-5)), (6, .int 0), (5, .int (mi 67 (8 + 10 * i + 3))), (0, .ref 66), (1, .int (nI i)), (2, .int 3), (3, .int 99), (4, .int 1)], [], (zsh ++ vs, mi, ml, (zmr g))) rfl ?_
  refine Wp.sub (a := [(0, .ref 66), (1, .int (nI i)), (2, .int 3), (3, .int 99), (4, .int 1), (5, .int (mi 67 (8 + 10 * i + 3))), (6, .int (sF (fitI sm an (mi 67) n dd (mi 67) c i 3) 0 100)), (7, .int (lostR (fitL sm an (mi 67) n dd (mi 67) c i 3) 0 100)), (8, .int (nI 99))]) (zle_cons rfl (zle_cons rfl (zle_cons rfl (zle_cons rfl (zle_cons rfl (zle_cons rfl (zle_cons rfl (zle_cons rfl (zle_cons rfl (zle_nil)))))))))) ?_
  exact m_fit_l3_1 R hi S hdd 100 0 mi (by omega) ⟨⟨_, (upd_self _ _).symm⟩, fun _ _ _ _ _ _ _ => rfl, fun _ _ => rfl⟩
theorem m_fit_l1_0 {E : zEn} {vs : List (Nat × Nat)} {mi : Nat → Nat → Int32} {ml : Nat → Nat → Int64} {g : Nat → Nat → Option Nat} {X71 X72 : Nat → Int32} {rv : Int32 → Prop} {sm : Int32 → (Nat → Int32) → Int32} {an : Int32 → Int32} {n dd : Nat} (R : RE E X71 X72 rv sm an mi n dd) {i c : Nat} (hi : i < n) (S : SR3 (mi 67) (mi 67) n c) (hdd : dd + 13 < 100000) : ∀ (j k : Nat) (m : Nat → Nat → Int32), j + k = 10 → ((∃ x, m 67 = upd (mi 67) (8 + 10 * i + 1) x) ∧ (∀ a, ¬ a = 66 → ¬ a = 67 → ¬ a = 68 → ¬ a = 73 → ¬ a = 74 → ¬ a = 78 → m a = mi a) ∧ ∀ k, (k < 10 ∨ 15 < k) → m 66 k = mi 66 k) → Wp E 26 pg_M_fits 18 [(0, .ref 66), (1, .int (nI i)), (2, .int 1), (3, .int 9), (4, .int 0), (5, .int (mi 67 (8 + 10 * i + 1))), (6, .int (sF (fitI sm an (mi 67) n dd (mi 67) c i 1) k j)), (7, .int (lostR (fitL sm an (mi 67) n dd (mi 67) c i 1) k j)), (8, .int (vI j))] [] (zsh ++ vs, m, ml, zmr g) (fun r w' => r = some (.int (lostR (fitL sm an (mi 67) n dd (mi 67) c i 1) 10 0)) ∧ ∃ m, w' = (zsh ++ vs, m, ml, zmr g) ∧ KO mi m) := by
  have h6 := R.2.2.2.2.2.2
  intro j
  induction j with
  | zero =>
    intro k m hj hI
    obtain rfl : 10 = k := by omega
    refine Wp.run 6 (78, [(0, .ref 66), (1, .int (nI i)), (2, .int 1), (3, .int 9), (4, .int 0), (5, .int (mi 67 (8 + 10 * i + 1))), (6, .int (sF (fitI sm an (mi 67) n dd (mi 67) c i 1) 10 0)), (7, .int (lostR (fitL sm an (mi 67) n dd (mi 67) c i 1) 10 0)), (8, .int (-1))], [.int (mi 67 (8 + 10 * i + 1)), .int 1, .int (nI i), .ref 66], (zsh ++ vs, m, ml, (zmr g))) rfl ?_
    refine Wp.call (as := [.ref 66, .int (nI i), .int 1, .int (mi 67 (8 + 10 * i + 1))]) (rest := []) rfl rfl rfl rfl rfl (Nat.le_of_ble_eq_true rfl) (Nat.le_of_ble_eq_true rfl) rfl (by decide) (m_change (mi := m) i 1 (mi 67 (8 + 10 * i + 1)) (by omega)) ?_
    rintro _ _ ⟨rfl, rfl⟩
    obtain ⟨p3, hp3⟩ : ∃ z, z = zup m 67 (8 + 10 * i + 1) (mi 67 (8 + 10 * i + 1)) := ⟨_, rfl⟩
    rw [← hp3]
    refine Wp.run 4 (94, [(0, .ref 66), (1, .int (nI i)), (2, .int 1), (3, .int 9), (4, .int 0), (5, .int (mi 67 (8 + 10 * i + 1))), (6, .int (sF (fitI sm an (mi 67) n dd (mi 67) c i 1) 10 0)), (7, .int (lostR (fitL sm an (mi 67) n dd (mi 67) c i 1) 10 0)), (8, .int (-1))], [.int (lostR (fitL sm an (mi 67) n dd (mi 67) c i 1) 10 0)], (zsh ++ vs, p3, ml, (zmr g))) rfl ?_
    refine Wp.ret rfl rfl rfl ?_
    refine ⟨rfl, p3, rfl, fun a a1 a2 a3 a4 a5 => ?_, fun q hq => ?_⟩
    · by_cases ha : a = 67
      · subst ha; obtain ⟨x, hx⟩ := hI.1; rw [hp3, zup_eq, hx, upd_upd, upd_self]
      · rw [hp3, zup_ne ha]; exact hI.2.1 a a1 ha a2 a3 a4 a5
    · rw [hp3, zup_ne (by decide)]; exact hI.2.2 q hq
  | succ j ih =>
    intro k m hj hI
    refine Wp.run 1 (20, [(0, .ref 66), (1, .int (nI i)), (2, .int 1), (3, .int 9), (4, .int 0), (5, .int (mi 67 (8 + 10 * i + 1))), (6, .int (sF (fitI sm an (mi 67) n dd (mi 67) c i 1) k (j + 1))), (7, .int (lostR (fitL sm an (mi 67) n dd (mi 67) c i 1) k (j + 1))), (8, .int (nI j))], [.int (nI j)], (zsh ++ vs, m, ml, (zmr g))) rfl ?_
    refine Wp.if_lt rfl (fun h21 => ?_) (fun h21 => ?_)
    · exact absurd h21 (nI_pos (by omega))
    · refine Wp.run 4 (28, [(0, .ref 66), (1, .int (nI i)), (2, .int 1), (3, .int 9), (4, .int 0), (5, .int (mi 67 (8 + 10 * i + 1))), (6, .int (sF (fitI sm an (mi 67) n dd (mi 67) c i 1) k (j + 1))), (7, .int (lostR (fitL sm an (mi 67) n dd (mi 67) c i 1) k (j + 1))), (8, .int (nI j))], [.int (nI j), .int 1, .int (nI i), .ref 66], (zsh ++ vs, m, ml, (zmr g))) rfl ?_
      refine Wp.call (as := [.ref 66, .int (nI i), .int 1, .int (nI j)]) (rest := []) rfl rfl rfl rfl rfl (Nat.le_of_ble_eq_true rfl) (Nat.le_of_ble_eq_true rfl) rfl (by decide) (m_change (mi := m) i 1 (nI j) (by omega)) ?_
      rintro _ _ ⟨rfl, rfl⟩
      obtain ⟨p1, hp1⟩ : ∃ z, z = zup m 67 (8 + 10 * i + 1) (nI j) := ⟨_, rfl⟩
      rw [← hp1]
      have e1 : p1 67 = upd (mi 67) (8 + 10 * i + 1) (nI j) := by obtain ⟨x, hx⟩ := hI.1; rw [hp1, zup_eq, hx, upd_upd]
      have R1 : RE E X71 X72 rv sm an p1 n dd := R.fr (fun a ha => by rw [hp1, zup_ne (by omega)]; exact hI.2.1 a (by omega) (by omega) (by omega) (by omega) (by omega) (by omega)) (by rw [e1, upd_ne (by omega)]) (by rw [e1, upd_ne (by omega)]; exact R.2.2.2.2.1) (by rw [e1, upd_ne (by omega)])
      have S1 : SR3 (p1 67) (mi 67) n c := S.fr (fun q hq => by rw [e1, upd_ne (by omega)])
      refine Wp.run 2 (33, [(0, .ref 66), (1, .int (nI i)), (2, .int 1), (3, .int 9), (4, .int 0), (5, .int (mi 67 (8 + 10 * i + 1))), (6, .int (sF (fitI sm an (mi 67) n dd (mi 67) c i 1) k (j + 1))), (7, .int (lostR (fitL sm an (mi 67) n dd (mi 67) c i 1) k (j + 1))), (8, .int (nI j))], [.ref 66], (zsh ++ vs, p1, ml, (zmr g))) rfl ?_
      refine Wp.call (as := [.ref 66]) (rest := []) rfl rfl rfl rfl rfl (Nat.le_of_ble_eq_true rfl) (Nat.le_of_ble_eq_true rfl) rfl (by decide) (m_as (mi := p1) R1 S1 hdd) ?_
      rintro _ _ ⟨⟨b, rfl, hb⟩, p2, rfl, k1⟩
      rw [e1] at hb
      have hJ : ((∃ x, p2 67 = upd (mi 67) (8 + 10 * i + 1) x) ∧ (∀ a, ¬ a = 66 → ¬ a = 67 → ¬ a = 68 → ¬ a = 73 → ¬ a = 74 → ¬ a = 78 → p2 a = mi a) ∧ ∀ k, (k < 10 ∨ 15 < k) → p2 66 k = mi 66 k) := ⟨⟨nI j, by rw [k1.e67, e1]⟩, fun a a1 a2 a3 a4 a5 a6 => by rw [k1.1 a a1 a3 a4 a5 a6, hp1, zup_ne a2]; exact hI.2.1 a a1 a2 a3 a4 a5 a6, fun q hq => by rw [k1.2 q hq, hp1, zup_ne (by decide)]; exact hI.2.2 q hq⟩
      rcases hb with ⟨ha, rfl⟩ | ⟨ha, rfl⟩
      · refine Wp.run 15 (18, [(8, .int ((nI j) + (-1))), (7, .int (nI j)), (6, .int ((sF (fitI sm an (mi 67) n dd (mi 67) c i 1) k (j + 1)) + 1)), (9, .int 1), (0, .ref 66), (1, .int (nI i)), (2, .int 1), (3, .int 9), (4, .int 0), (5, .int (mi 67 (8 + 10 * i + 1)))], [], (zsh ++ vs, p2, ml, (zmr g))) rfl ?_
        have e8 : sF (fitI sm an (mi 67) n dd (mi 67) c i 1) (k + 1) j = sF (fitI sm an (mi 67) n dd (mi 67) c i 1) k (j + 1) + 1 := by rw [sF, fitI_t ha]
        have e9 : lostR (fitL sm an (mi 67) n dd (mi 67) c i 1) (k + 1) j = nI j := lostR_eq (fitL_t ha)
        refine Wp.sub (a := [(0, .ref 66), (1, .int (nI i)), (2, .int 1), (3, .int 9), (4, .int 0), (5, .int (mi 67 (8 + 10 * i + 1))), (6, .int (sF (fitI sm an (mi 67) n dd (mi 67) c i 1) (k + 1) j)), (7, .int (lostR (fitL sm an (mi 67) n dd (mi 67) c i 1) (k + 1) j)), (8, .int (vI j))]) (zle_cons rfl (zle_cons rfl (zle_cons rfl (zle_cons rfl (zle_cons rfl (zle_cons rfl (zle_cons (by rw [e8]; rfl) (zle_cons (by rw [e9]; rfl) (zle_cons (by rw [← vI_m1]; rfl) zle_nil))))))))) ?_
        exact ih (k + 1) p2 (by omega) hJ
      · refine Wp.run 13 (18, [(8, .int ((nI j) + (-1))), (7, .int (lostR (fitL sm an (mi 67) n dd (mi 67) c i 1) k (j + 1))), (6, .int ((sF (fitI sm an (mi 67) n dd (mi 67) c i 1) k (j + 1)) + 0)), (9, .int 0), (0, .ref 66), (1, .int (nI i)), (2, .int 1), (3, .int 9), (4, .int 0), (5, .int (mi 67 (8 + 10 * i + 1)))], [], (zsh ++ vs, p2, ml, (zmr g))) rfl ?_
        have e8 : sF (fitI sm an (mi 67) n dd (mi 67) c i 1) (k + 1) j = sF (fitI sm an (mi 67) n dd (mi 67) c i 1) k (j + 1) + 0 := by rw [sF, fitI_f ha]
        have e9 : lostR (fitL sm an (mi 67) n dd (mi 67) c i 1) (k + 1) j = lostR (fitL sm an (mi 67) n dd (mi 67) c i 1) k (j + 1) := lostR_ne (fitL_f ha)
        refine Wp.sub (a := [(0, .ref 66), (1, .int (nI i)), (2, .int 1), (3, .int 9), (4, .int 0), (5, .int (mi 67 (8 + 10 * i + 1))), (6, .int (sF (fitI sm an (mi 67) n dd (mi 67) c i 1) (k + 1) j)), (7, .int (lostR (fitL sm an (mi 67) n dd (mi 67) c i 1) (k + 1) j)), (8, .int (vI j))]) (zle_cons rfl (zle_cons rfl (zle_cons rfl (zle_cons rfl (zle_cons rfl (zle_cons rfl (zle_cons (by rw [e8]; rfl) (zle_cons (by rw [e9]; rfl) (zle_cons (by rw [← vI_m1]; rfl) zle_nil))))))))) ?_
        exact ih (k + 1) p2 (by omega) hJ
theorem m_fit_1_0 {E : zEn} {vs : List (Nat × Nat)} {mi : Nat → Nat → Int32} {ml : Nat → Nat → Int64} {g : Nat → Nat → Option Nat} {X71 X72 : Nat → Int32} {rv : Int32 → Prop} {sm : Int32 → (Nat → Int32) → Int32} {an : Int32 → Int32} {n dd : Nat} (R : RE E X71 X72 rv sm an mi n dd) {i c : Nat} (hi : i < n) (S : SR3 (mi 67) (mi 67) n c) (hdd : dd + 13 < 100000) : Wp E 26 pg_M_fits 0 (lv_args 0 [.ref 66, .int (nI i), .int 1, .int 9, .int 0]) [] (zsh ++ vs, mi, ml, (zmr g)) (fun r w' => r = some (.int (lostR (fitL sm an (mi 67) n dd (mi 67) c i 1) 10 0)) ∧ ∃ m, w' = (zsh ++ vs, m, ml, zmr g) ∧ KO mi m) := by
  have h6 := R.2.2.2.2.2.2
  refine Wp.run 3 (3, [(0, .ref 66), (1, .int (nI i)), (2, .int 1), (3, .int 9), (4, .int 0)], [.int 1, .int (nI i), .ref 66], (zsh ++ vs, mi, ml, (zmr g))) rfl ?_
  refine Wp.call (as := [.ref 66, .int (nI i), .int 1]) (rest := []) rfl rfl rfl rfl rfl (Nat.le_of_ble_eq_true rfl) (Nat.le_of_ble_eq_true rfl) rfl (by decide) (m_one i 1 (by omega)) ?_
  rintro _ _ ⟨rfl, rfl⟩
  refine Wp.run 7 (18, [(8, .int 9), (7, .int (-5)), (6, .int 0), (5, .int (mi 67 (8 + 10 * i + 1))), (0, .ref 66), (1, .int (nI i)), (2, .int 1), (3, .int 9), (4, .int 0)], [], (zsh ++ vs, mi, ml, (zmr g))) rfl ?_
  refine Wp.sub (a := [(0, .ref 66), (1, .int (nI i)), (2, .int 1), (3, .int 9), (4, .int 0), (5, .int (mi 67 (8 + 10 * i + 1))), (6, .int (sF (fitI sm an (mi 67) n dd (mi 67) c i 1) 0 10)), (7, .int (lostR (fitL sm an (mi 67) n dd (mi 67) c i 1) 0 10)), (8, .int (nI 9))]) (zle_cons rfl (zle_cons rfl (zle_cons rfl (zle_cons rfl (zle_cons rfl (zle_cons rfl (zle_cons rfl (zle_cons rfl (zle_cons rfl (zle_nil)))))))))) ?_
  exact m_fit_l1_0 R hi S hdd 10 0 mi (by omega) ⟨⟨_, (upd_self _ _).symm⟩, fun _ _ _ _ _ _ _ => rfl, fun _ _ => rfl⟩
theorem m_fit_l1_1 {E : zEn} {vs : List (Nat × Nat)} {mi : Nat → Nat → Int32} {ml : Nat → Nat → Int64} {g : Nat → Nat → Option Nat} {X71 X72 : Nat → Int32} {rv : Int32 → Prop} {sm : Int32 → (Nat → Int32) → Int32} {an : Int32 → Int32} {n dd : Nat} (R : RE E X71 X72 rv sm an mi n dd) {i c : Nat} (hi : i < n) (S : SR3 (mi 67) (mi 67) n c) (hdd : dd + 13 < 100000) : ∀ (j k : Nat) (m : Nat → Nat → Int32), j + k = 10 → ((∃ x, m 67 = upd (mi 67) (8 + 10 * i + 1) x) ∧ (∀ a, ¬ a = 66 → ¬ a = 67 → ¬ a = 68 → ¬ a = 73 → ¬ a = 74 → ¬ a = 78 → m a = mi a) ∧ ∀ k, (k < 10 ∨ 15 < k) → m 66 k = mi 66 k) → Wp E 26 pg_M_fits 18 [(0, .ref 66), (1, .int (nI i)), (2, .int 1), (3, .int 9), (4, .int 1), (5, .int (mi 67 (8 + 10 * i + 1))), (6, .int (sF (fitI sm an (mi 67) n dd (mi 67) c i 1) k j)), (7, .int (lostR (fitL sm an (mi 67) n dd (mi 67) c i 1) k j)), (8, .int (vI j))] [] (zsh ++ vs, m, ml, zmr g) (fun r w' => r = some (.int (sF (fitI sm an (mi 67) n dd (mi 67) c i 1) 10 0)) ∧ ∃ m, w' = (zsh ++ vs, m, ml, zmr g) ∧ KO mi m) := by
  have h6 := R.2.2.2.2.2.2
  intro j
  induction j with
  | zero =>
    intro k m hj hI
    obtain rfl : 10 = k := by omega
    refine Wp.run 6 (78, [(0, .ref 66), (1, .int (nI i)), (2, .int 1), (3, .int 9), (4, .int 1), (5, .int (mi 67 (8 + 10 * i + 1))), (6, .int (sF (fitI sm an (mi 67) n dd (mi 67) c i 1) 10 0)), (7, .int (lostR (fitL sm an (mi 67) n dd (mi 67) c i 1) 10 0)), (8, .int (-1))], [.int (mi 67 (8 + 10 * i + 1)), .int 1, .int (nI i), .ref 66], (zsh ++ vs, m, ml, (zmr g))) rfl ?_
    refine Wp.call (as := [.ref 66, .int (nI i), .int 1, .int (mi 67 (8 + 10 * i + 1))]) (rest := []) rfl rfl rfl rfl rfl (Nat.le_of_ble_eq_true rfl) (Nat.le_of_ble_eq_true rfl) rfl (by decide) (m_change (mi := m) i 1 (mi 67 (8 + 10 * i + 1)) (by omega)) ?_
    rintro _ _ ⟨rfl, rfl⟩
    obtain ⟨p3, hp3⟩ : ∃ z, z = zup m 67 (8 + 10 * i + 1) (mi 67 (8 + 10 * i + 1)) := ⟨_, rfl⟩
    rw [← hp3]
    refine Wp.run 5 (94, [(0, .ref 66), (1, .int (nI i)), (2, .int 1), (3, .int 9), (4, .int 1), (5, .int (mi 67 (8 + 10 * i + 1))), (6, .int (sF (fitI sm an (mi 67) n dd (mi 67) c i 1) 10 0)), (7, .int (lostR (fitL sm an (mi 67) n dd (mi 67) c i 1) 10 0)), (8, .int (-1))], [.int (sF (fitI sm an (mi 67) n dd (mi 67) c i 1) 10 0)], (zsh ++ vs, p3, ml, (zmr g))) rfl ?_
    refine Wp.ret rfl rfl rfl ?_
    refine ⟨rfl, p3, rfl, fun a a1 a2 a3 a4 a5 => ?_, fun q hq => ?_⟩
    · by_cases ha : a = 67
      · subst ha; obtain ⟨x, hx⟩ := hI.1; rw [hp3, zup_eq, hx, upd_upd, upd_self]
      · rw [hp3, zup_ne ha]; exact hI.2.1 a a1 ha a2 a3 a4 a5
    · rw [hp3, zup_ne (by decide)]; exact hI.2.2 q hq
  | succ j ih =>
    intro k m hj hI
    refine Wp.run 1 (20, [(0, .ref 66), (1, .int (nI i)), (2, .int 1), (3, .int 9), (4, .int 1), (5, .int (mi 67 (8 + 10 * i + 1))), (6, .int (sF (fitI sm an (mi 67) n dd (mi 67) c i 1) k (j + 1))), (7, .int (lostR (fitL sm an (mi 67) n dd (mi 67) c i 1) k (j + 1))), (8, .int (nI j))], [.int (nI j)], (zsh ++ vs, m, ml, (zmr g))) rfl ?_
    refine Wp.if_lt rfl (fun h21 => ?_) (fun h21 => ?_)
    · exact absurd h21 (nI_pos (by omega))
    · refine Wp.run 4 (28, [(0, .ref 66), (1, .int (nI i)), (2, .int 1), (3, .int 9), (4, .int 1), (5, .int (mi 67 (8 + 10 * i + 1))), (6, .int (sF (fitI sm an (mi 67) n dd (mi 67) c i 1) k (j + 1))), (7, .int (lostR (fitL sm an (mi 67) n dd (mi 67) c i 1) k (j + 1))), (8, .int (nI j))], [.int (nI j), .int 1, .int (nI i), .ref 66], (zsh ++ vs, m, ml, (zmr g))) rfl ?_
      refine Wp.call (as := [.ref 66, .int (nI i), .int 1, .int (nI j)]) (rest := []) rfl rfl rfl rfl rfl (Nat.le_of_ble_eq_true rfl) (Nat.le_of_ble_eq_true rfl) rfl (by decide) (m_change (mi := m) i 1 (nI j) (by omega)) ?_
      rintro _ _ ⟨rfl, rfl⟩
      obtain ⟨p1, hp1⟩ : ∃ z, z = zup m 67 (8 + 10 * i + 1) (nI j) := ⟨_, rfl⟩
      rw [← hp1]
      have e1 : p1 67 = upd (mi 67) (8 + 10 * i + 1) (nI j) := by obtain ⟨x, hx⟩ := hI.1; rw [hp1, zup_eq, hx, upd_upd]
      have R1 : RE E X71 X72 rv sm an p1 n dd := R.fr (fun a ha => by rw [hp1, zup_ne (by omega)]; exact hI.2.1 a (by omega) (by omega) (by omega) (by omega) (by omega) (by omega)) (by rw [e1, upd_ne (by omega)]) (by rw [e1, upd_ne (by omega)]; exact R.2.2.2.2.1) (by rw [e1, upd_ne (by omega)])
      have S1 : SR3 (p1 67) (mi 67) n c := S.fr (fun q hq => by rw [e1, upd_ne (by omega)])
      refine Wp.run 2 (33, [(0, .ref 66), (1, .int (nI i)), (2, .int 1), (3, .int 9), (4, .int 1), (5, .int (mi 67 (8 + 10 * i + 1))), (6, .int (sF (fitI sm an (mi 67) n dd (mi 67) c i 1) k (j + 1))), (7, .int (lostR (fitL sm an (mi 67) n dd (mi 67) c i 1) k (j + 1))), (8, .int (nI j))], [.ref 66], (zsh ++ vs, p1, ml, (zmr g))) rfl ?_
      refine Wp.call (as := [.ref 66]) (rest := []) rfl rfl rfl rfl rfl (Nat.le_of_ble_eq_true rfl) (Nat.le_of_ble_eq_true rfl) rfl (by decide) (m_as (mi := p1) R1 S1 hdd) ?_
      rintro _ _ ⟨⟨b, rfl, hb⟩, p2, rfl, k1⟩
      rw [e1] at hb
      have hJ : ((∃ x, p2 67 = upd (mi 67) (8 + 10 * i + 1) x) ∧ (∀ a, ¬ a = 66 → ¬ a = 67 → ¬ a = 68 → ¬ a = 73 → ¬ a = 74 → ¬ a = 78 → p2 a = mi a) ∧ ∀ k, (k < 10 ∨ 15 < k) → p2 66 k = mi 66 k) := ⟨⟨nI j, by rw [k1.e67, e1]⟩, fun a a1 a2 a3 a4 a5 a6 => by rw [k1.1 a a1 a3 a4 a5 a6, hp1, zup_ne a2]; exact hI.2.1 a a1 a2 a3 a4 a5 a6, fun q hq => by rw [k1.2 q hq, hp1, zup_ne (by decide)]; exact hI.2.2 q hq⟩
      rcases hb with ⟨ha, rfl⟩ | ⟨ha, rfl⟩
      · refine Wp.run 15 (18, [(8, .int ((nI j) + (-1))), (7, .int (nI j)), (6, .int ((sF (fitI sm an (mi 67) n dd (mi 67) c i 1) k (j + 1)) + 1)), (9, .int 1), (0, .ref 66), (1, .int (nI i)), (2, .int 1), (3, .int 9), (4, .int 1), (5, .int (mi 67 (8 + 10 * i + 1)))], [], (zsh ++ vs, p2, ml, (zmr g))) rfl ?_
        have e8 : sF (fitI sm an (mi 67) n dd (mi 67) c i 1) (k + 1) j = sF (fitI sm an (mi 67) n dd (mi 67) c i 1) k (j + 1) + 1 := by rw [sF, fitI_t ha]
        have e9 : lostR (fitL sm an (mi 67) n dd (mi 67) c i 1) (k + 1) j = nI j := lostR_eq (fitL_t ha)
        refine Wp.sub (a := [(0, .ref 66), (1, .int (nI i)), (2, .int 1), (3, .int 9), (4, .int 1), (5, .int (mi 67 (8 + 10 * i + 1))), (6, .int (sF (fitI sm an (mi 67) n dd (mi 67) c i 1) (k + 1) j)), (7, .int (lostR (fitL sm an (mi 67) n dd (mi 67) c i 1) (k + 1) j)), (8, .int (vI j))]) (zle_cons rfl (zle_cons rfl (zle_cons rfl (zle_cons rfl (zle_cons rfl (zle_cons rfl (zle_cons (by rw [e8]; rfl) (zle_cons (by rw [e9]; rfl) (zle_cons (by rw [← vI_m1]; rfl) zle_nil))))))))) ?_
        exact ih (k + 1) p2 (by omega) hJ
      · refine Wp.run 13 (18, [(8, .int ((nI j) + (-1))), (7, .int (lostR (fitL sm an (mi 67) n dd (mi 67) c i 1) k (j + 1))), (6, .int ((sF (fitI sm an (mi 67) n dd (mi 67) c i 1) k (j + 1)) + 0)), (9, .int 0), (0, .ref 66), (1, .int (nI i)), (2, .int 1), (3, .int 9), (4, .int 1), (5, .int (mi 67 (8 + 10 * i + 1)))], [], (zsh ++ vs, p2, ml, (zmr g))) rfl ?_
        have e8 : sF (fitI sm an (mi 67) n dd (mi 67) c i 1) (k + 1) j = sF (fitI sm an (mi 67) n dd (mi 67) c i 1) k (j + 1) + 0 := by rw [sF, fitI_f ha]
        have e9 : lostR (fitL sm an (mi 67) n dd (mi 67) c i 1) (k + 1) j = lostR (fitL sm an (mi 67) n dd (mi 67) c i 1) k (j + 1) := lostR_ne (fitL_f ha)
        refine Wp.sub (a := [(0, .ref 66), (1, .int (nI i)), (2, .int 1), (3, .int 9), (4, .int 1), (5, .int (mi 67 (8 + 10 * i + 1))), (6, .int (sF (fitI sm an (mi 67) n dd (mi 67) c i 1) (k + 1) j)), (7, .int (lostR (fitL sm an (mi 67) n dd (mi 67) c i 1) (k + 1) j)), (8, .int (vI j))]) (zle_cons rfl (zle_cons rfl (zle_cons rfl (zle_cons rfl (zle_cons rfl (zle_cons rfl (zle_cons (by rw [e8]; rfl) (zle_cons (by rw [e9]; rfl) (zle_cons (by rw [← vI_m1]; rfl) zle_nil))))))))) ?_
        exact ih (k + 1) p2 (by omega) hJ
theorem m_fit_1_1 {E : zEn} {vs : List (Nat × Nat)} {mi : Nat → Nat → Int32} {ml : Nat → Nat → Int64} {g : Nat → Nat → Option Nat} {X71 X72 : Nat → Int32} {rv : Int32 → Prop} {sm : Int32 → (Nat → Int32) → Int32} {an : Int32 → Int32} {n dd : Nat} (R : RE E X71 X72 rv sm an mi n dd) {i c : Nat} (hi : i < n) (S : SR3 (mi 67) (mi 67) n c) (hdd : dd + 13 < 100000) : Wp E 26 pg_M_fits 0 (lv_args 0 [.ref 66, .int (nI i), .int 1, .int 9, .int 1]) [] (zsh ++ vs, mi, ml, (zmr g)) (fun r w' => r = some (.int (zsum (fitI sm an (mi 67) n dd (mi 67) c i 1) 10)) ∧ ∃ m, w' = (zsh ++ vs, m, ml, zmr g) ∧ KO mi m) := by
  have h6 := R.2.2.2.2.2.2
  rw [← sF_all]
  refine Wp.run 3 (3, [(0, .ref 66), (1, .int (nI i)), (2, .int 1), (3, .int 9), (4, .int 1)], [.int 1, .int (nI i), .ref 66], (zsh ++ vs, mi, ml, (zmr g))) rfl ?_
  refine Wp.call (as := [.ref 66, .int (nI i), .int 1]) (rest := []) rfl rfl rfl rfl rfl (Nat.le_of_ble_eq_true rfl) (Nat.le_of_ble_eq_true rfl) rfl (by decide) (m_one i 1 (by omega)) ?_
  rintro _ _ ⟨rfl, rfl⟩
  refine Wp.run 7 (18, [(8, .int 9), (7, .int (-5)), (6, .int 0), (5, .int (mi 67 (8 + 10 * i + 1))), (0, .ref 66), (1, .int (nI i)), (2, .int 1), (3, .int 9), (4, .int 1)], [], (zsh ++ vs, mi, ml, (zmr g))) rfl ?_
  refine Wp.sub (a := [(0, .ref 66), (1, .int (nI i)), (2, .int 1), (3, .int 9), (4, .int 1), (5, .int (mi 67 (8 + 10 * i + 1))), (6, .int (sF (fitI sm an (mi 67) n dd (mi 67) c i 1) 0 10)), (7, .int (lostR (fitL sm an (mi 67) n dd (mi 67) c i 1) 0 10)), (8, .int (nI 9))]) (zle_cons rfl (zle_cons rfl (zle_cons rfl (zle_cons rfl (zle_cons rfl (zle_cons rfl (zle_cons rfl (zle_cons rfl (zle_cons rfl (zle_nil)))))))))) ?_
  exact m_fit_l1_1 R hi S hdd 10 0 mi (by omega) ⟨⟨_, (upd_self _ _).symm⟩, fun _ _ _ _ _ _ _ => rfl, fun _ _ => rfl⟩
