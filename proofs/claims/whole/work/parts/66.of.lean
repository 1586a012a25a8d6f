/-! THE CALLS: odds -/
abbrev oddF (sm : Int32 → (Nat → Int32) → Int32) (an : Int32 → Int32) (N : Nat → Int32) (n dd t p q : Nat) : Int32 := if uN N q 4 = 0 then keptN (daysN sm an (upd N (8 + 10 * q + 4) 1) n dd t) n >>> (nI p &&& 31) &&& 1 else 0
abbrev cntF (N : Nat → Int32) (q : Nat) : Int32 := if uN N q 4 = 0 then 1 else 0
theorem cnt_all : ∀ n, n < 7 → ∀ s, s < 64 → s < 2 ^ n → nI n - zmany (nI s) = zsum (fun k => if nI s >>> (nI k &&& 31) &&& 1 = 0 then 1 else 0) n := by decide +kernel
theorem BR.count {mi : Nat → Nat → Int32} {a nv : Nat} {h : Option Nat} {N : Nat → Int32} {n dd : Nat} (B : BR mi a h nv N n dd) : mi a 0 - zbc (mi a 2) = zsum (cntF N) n := by
  have h6 := B.1.2.1
  obtain ⟨s, hs, es⟩ := bits_lt (n := n) B.2.2.2.2.2.1
  have h64 : s < 64 := Nat.lt_of_lt_of_le hs (Nat.pow_le_pow_right (by decide) h6 : 2 ^ n ≤ 2 ^ 6)
  rw [B.2.1, es, zbc_256 s (by omega), cnt_all n (by omega) s h64 hs]
  refine zsum_congr (fun k hk => ?_)
  have e : nI s >>> (nI k &&& 31) &&& 1 = uN N k 4 := by rw [← es]; exact B.aw hk
  simp only [e, cntF]
theorem upd_upd0 {f : Nat → Int32} {i : Nat} {x : Int32} (h : f i = 0) : upd (upd f i x) i 0 = f := by
  funext j
  by_cases e : j = i
  · subst e; rw [upd_at, h]
  · rw [upd_ne e, upd_ne e]
theorem oddF_1 {sm : Int32 → (Nat → Int32) → Int32} {an : Int32 → Int32} {N : Nat → Int32} {n dd t p q : Nat} (hp : p < 8) : ∃ c, c ≤ 1 ∧ oddF sm an N n dd t p q = nI c := by
  unfold oddF
  by_cases h : uN N q 4 = 0
  · rw [if_pos h, bit1 _ (by omega)]
    split
    · exact ⟨1, by omega, rfl⟩
    · exact ⟨0, by omega, rfl⟩
  · rw [if_neg h]; exact ⟨0, by omega, rfl⟩
theorem cntF_1 {N : Nat → Int32} {q : Nat} : ∃ c, c ≤ 1 ∧ cntF N q = nI c := by
  unfold cntF
  by_cases h : uN N q 4 = 0
  · rw [if_pos h]; exact ⟨1, by omega, rfl⟩
  · rw [if_neg h]; exact ⟨0, by omega, rfl⟩
theorem c_kwo_l {E : zEn} {vs : List (Nat × Nat)} {mi : Nat → Nat → Int32} {ml : Nat → Nat → Int64} {g : Nat → Nat → Option Nat} {g0 : Nat → Nat → Option Nat} {X : Nat → Nat → Int32} {nv : Nat} {wg : Nat → (Nat → Int32) → Int32} {sm : Int32 → (Nat → Int32) → Int32} {an : Int32 → Int32} (C : CE E vs g0 X nv wg sm an g mi) {N : Nat → Int32} {n dd : Nat} (B : BR mi 1 (g 1 3) nv N n dd) (h6 : n ≤ 6) {t p : Nat} (hdd : dd + t < 100000) {P : Option Value → zW → Prop} (hn9 : n < 2147483648) (K : ∀ (m : Nat → Nat → Int32) (g' : Nat → Nat → Option Nat), (frB 38 mi m ∧ ∀ a f, ¬ (a = 38 ∧ f = 3) → g' a f = g a f) → Wp E 6 pg_Foresight_keptWithoutOne 69 [(0, .ref 37), (1, .ref 1), (2, .int (nI p)), (3, .int (nI t)), (4, .int (zsum (oddF sm an N n dd t p) n)), (5, .int (nI n))] [] (zsh ++ vs, m, ml, (zmr g')) P) : ∀ (k j : Nat) (m : Nat → Nat → Int32) (g' : Nat → Nat → Option Nat), j + k = n → (frB 38 mi m ∧ ∀ a f, ¬ (a = 38 ∧ f = 3) → g' a f = g a f) → Wp E 6 pg_Foresight_keptWithoutOne 6 [(0, .ref 37), (1, .ref 1), (2, .int (nI p)), (3, .int (nI t)), (4, .int (zsum (oddF sm an N n dd t p) j)), (5, .int (nI j))] [] (zsh ++ vs, m, ml, (zmr g')) P := by
  intro k
  induction k with
  | zero =>
    intro j m g' hj9 hI
    obtain rfl : n = j := by omega
    refine Wp.run 3 (12, [(0, .ref 37), (1, .ref 1), (2, .int (nI p)), (3, .int (nI t)), (4, .int (zsum (oddF sm an N n dd t p) n)), (5, .int (nI n))], [.int (m 1 0), .int (nI n)], (zsh ++ vs, m, ml, (zmr g'))) rfl ?_
    refine Wp.topi (y := nI n) ((congrFun (hI.1 1 (by omega)) 0).trans B.2.1) ?_
    refine Wp.run 0 (12, [(0, .ref 37), (1, .ref 1), (2, .int (nI p)), (3, .int (nI t)), (4, .int (zsum (oddF sm an N n dd t p) n)), (5, .int (nI n))], [.int (nI n), .int (nI n)], (zsh ++ vs, m, ml, (zmr g'))) rfl ?_
    refine Wp.icmp_ge rfl (fun h1 => ?_) (fun h1 => ?_)
    · exact K m g' hI
    · exact absurd (Int32.le_refl _) h1
  | succ k ih =>
    intro j m g' hj9 hI
    have hlt9 : j < n := by omega
    refine Wp.run 3 (12, [(0, .ref 37), (1, .ref 1), (2, .int (nI p)), (3, .int (nI t)), (4, .int (zsum (oddF sm an N n dd t p) j)), (5, .int (nI j))], [.int (m 1 0), .int (nI j)], (zsh ++ vs, m, ml, (zmr g'))) rfl ?_
    refine Wp.topi (y := nI n) ((congrFun (hI.1 1 (by omega)) 0).trans B.2.1) ?_
    refine Wp.run 0 (12, [(0, .ref 37), (1, .ref 1), (2, .int (nI p)), (3, .int (nI t)), (4, .int (zsum (oddF sm an N n dd t p) j)), (5, .int (nI j))], [.int (nI n), .int (nI j)], (zsh ++ vs, m, ml, (zmr g'))) rfl ?_
    refine Wp.icmp_ge rfl (fun h1 => ?_) (fun h1 => ?_)
    · exact absurd h1 (nI_ge hlt9 hn9)
    · refine Wp.run 2 (18, [(0, .ref 37), (1, .ref 1), (2, .int (nI p)), (3, .int (nI t)), (4, .int (zsum (oddF sm an N n dd t p) j)), (5, .int (nI j))], [.int (nI j), .ref 1], (zsh ++ vs, m, ml, (zmr g'))) rfl ?_
      refine Wp.call (as := [.ref 1, .int (nI j)]) (rest := []) rfl rfl rfl rfl rfl (Nat.le_of_ble_eq_true rfl) (Nat.le_of_ble_eq_true rfl) rfl (by decide) (c_isHere_1 (mi := m) (nI j)) ?_
      rintro _ _ ⟨rfl, rfl⟩
      by_cases c4 : m 1 2 >>> (nI j &&& 31) &&& 1 = 0
      · rw [if_pos c4]
        refine Wp.run 4 (29, [(0, .ref 37), (1, .ref 1), (2, .int (nI p)), (3, .int (nI t)), (4, .int (zsum (oddF sm an N n dd t p) j)), (5, .int (nI j))], [.ref 1, .ref 38], (zsh ++ vs, m, ml, (zmr g'))) rfl ?_
        refine Wp.call (as := [.ref 38, .ref 1]) (rest := []) rfl rfl rfl rfl rfl (Nat.le_of_ble_eq_true rfl) (Nat.le_of_ble_eq_true rfl) rfl (by decide) (c_become_38_1 (g := g') (fun v hv => B.2.2.2.2.2.2.lt C.2.2.2.2 v ((hI.2 1 3 (by decide)).symm.trans hv))) ?_
        rintro _ _ ⟨rfl, m0, rfl, b1, b2, b3, b4, b5, b6⟩
        have B0 : BR m0 38 (g 1 3) nv N n dd := BR_copy (BR_fr B (fun b h1 h2 => hI.1 b (by omega))) b2 b4 b5 b6
        have B1 := BR_aw1 B0 hlt9
        refine Wp.run 4 (39, [(0, .ref 37), (1, .ref 1), (2, .int (nI p)), (3, .int (nI t)), (4, .int (zsum (oddF sm an N n dd t p) j)), (5, .int (nI j))], [.int 1, .int (nI j), .ref 38], (zsh ++ vs, m0, ml, (zmr (zup g' 38 3 (g' 1 3))))) rfl ?_
        refine Wp.call (as := [.ref 38, .int (nI j), .int 1]) (rest := []) rfl rfl rfl rfl rfl (Nat.le_of_ble_eq_true rfl) (Nat.le_of_ble_eq_true rfl) rfl (by decide) (c_putAway1_38 (mi := m0) (nI j)) ?_
        rintro _ _ ⟨rfl, rfl⟩
        obtain ⟨m1, hm1⟩ : ∃ z, z = zup m0 38 2 (m0 38 2 ||| (1 : Int32) <<< (nI j &&& 31)) := ⟨_, rfl⟩
        rw [← hm1] at B1 ⊢
        have eg : g' 1 3 = g 1 3 := hI.2 1 3 (by decide)
        have B2 : BR m1 38 ((zup g' 38 3 (g' 1 3)) 38 3) nv (upd N (8 + 10 * j + 4) 1) n dd := by
          show BR m1 38 (g' 1 3) nv (upd N (8 + 10 * j + 4) 1) n dd
          rw [eg]; exact B1
        have hG : ∀ b, 86 ≤ b → (zup g' 38 3 (g' 1 3)) b = g0 b := fun b hb => by rw [zup_ne (by omega)]; exact (funext (fun f => hI.2 b f (by omega))).trans (C.2.2.1 b hb)
        have hX1 : ∀ b, 86 ≤ b → m1 b = X b := fun b hb => by rw [hm1, zup_ne (by omega), b1 b (by omega), hI.1 b (by omega)]; exact C.2.2.2.1 b hb
        refine Wp.run 2 (44, [(0, .ref 37), (1, .ref 1), (2, .int (nI p)), (3, .int (nI t)), (4, .int (zsum (oddF sm an N n dd t p) j)), (5, .int (nI j))], [.int (nI t), .ref 37], (zsh ++ vs, m1, ml, (zmr (zup g' 38 3 (g' 1 3))))) rfl ?_
        refine Wp.call (as := [.ref 37, .int (nI t)]) (rest := []) rfl rfl rfl rfl rfl (Nat.le_of_ble_eq_true rfl) (Nat.le_of_ble_eq_true rfl) rfl (by decide) (c_goOn (mi := m1) (g := (zup g' 38 3 (g' 1 3))) (t := t) C.1 C.2.1 hG hX1 hdd B2) ?_
        rintro _ _ ⟨rfl, m2, rfl, k1, k2⟩
        refine Wp.run 3 (53, [(0, .ref 37), (1, .ref 1), (2, .int (nI p)), (3, .int (nI t)), (4, .int (zsum (oddF sm an N n dd t p) j)), (5, .int (nI j))], [.ref 38, .int (zsum (oddF sm an N n dd t p) j)], (zsh ++ vs, m2, ml, (zmr (zup g' 38 3 (g' 1 3))))) rfl ?_
        refine Wp.call (as := [.ref 38]) (rest := [.int (zsum (oddF sm an N n dd t p) j)]) rfl rfl rfl rfl rfl (Nat.le_of_ble_eq_true rfl) (Nat.le_of_ble_eq_true rfl) rfl (by decide) (c_kept_38 k2.2.1 h6) ?_
        rintro _ _ ⟨rfl, rfl⟩
        refine Wp.run 1 (57, [(0, .ref 37), (1, .ref 1), (2, .int (nI p)), (3, .int (nI t)), (4, .int (zsum (oddF sm an N n dd t p) j)), (5, .int (nI j))], [.int (nI p), .int (zor (sungF (m2 38 2 ^^^ -1) (m2 42)) n), .int (zsum (oddF sm an N n dd t p) j)], (zsh ++ vs, m2, ml, (zmr (zup g' 38 3 (g' 1 3))))) rfl ?_
        refine Wp.call (as := [.int (zor (sungF (m2 38 2 ^^^ -1) (m2 42)) n), .int (nI p)]) (rest := [.int (zsum (oddF sm an N n dd t p) j)]) rfl rfl rfl rfl rfl (Nat.le_of_ble_eq_true rfl) (Nat.le_of_ble_eq_true rfl) rfl (by decide) (c_bit (zor (sungF (m2 38 2 ^^^ -1) (m2 42)) n) (nI p)) ?_
        rintro _ _ ⟨rfl, rfl⟩
        refine Wp.run 4 (6, [(5, .int ((nI j) + 1)), (4, .int ((zsum (oddF sm an N n dd t p) j) + ((zor (sungF (m2 38 2 ^^^ -1) (m2 42)) n) >>> (nI p &&& 31) &&& 1))), (0, .ref 37), (1, .ref 1), (2, .int (nI p)), (3, .int (nI t))], [], (zsh ++ vs, m2, ml, (zmr (zup g' 38 3 (g' 1 3))))) rfl ?_
        have e9 : zsum (oddF sm an N n dd t p) (j + 1) = zsum (oddF sm an N n dd t p) j + ((zor (sungF (m2 38 2 ^^^ -1) (m2 42)) n) >>> (nI p &&& 31) &&& 1) := by
          rw [zsum, oddF, if_pos (((show m 1 2 >>> (nI j &&& 31) &&& 1 = awB mi 1 j from by rw [hI.1 1 (by omega)]).trans (show awB mi 1 j = uN N j 4 from B.aw hlt9)).symm.trans c4), show zor (sungF (m2 38 2 ^^^ -1) (m2 42)) n = _ from k2.kept]
        rw [nI_1]
        refine Wp.sub (a := [(0, .ref 37), (1, .ref 1), (2, .int (nI p)), (3, .int (nI t)), (4, .int (zsum (oddF sm an N n dd t p) (j + 1))), (5, .int (nI (j + 1)))]) (zle_cons rfl (zle_cons rfl (zle_cons rfl (zle_cons rfl (zle_cons (by rw [e9]; rfl) (zle_cons rfl zle_nil)))))) ?_
        exact ih (j + 1) m2 (zup g' 38 3 (g' 1 3)) (by omega) ⟨fun b hb => by rw [k1 b hb, hm1, zup_ne (by omega), b1 b (by omega)]; exact hI.1 b hb, fun a f h => (zup38 a f h).trans (hI.2 a f h)⟩
      · rw [if_neg c4]
        refine Wp.run 3 (6, [(5, .int ((nI j) + 1)), (0, .ref 37), (1, .ref 1), (2, .int (nI p)), (3, .int (nI t)), (4, .int (zsum (oddF sm an N n dd t p) j))], [], (zsh ++ vs, m, ml, (zmr g'))) rfl ?_
        have e9 : zsum (oddF sm an N n dd t p) (j + 1) = zsum (oddF sm an N n dd t p) j := by
          rw [zsum, oddF, if_neg (fun q => c4 (((show m 1 2 >>> (nI j &&& 31) &&& 1 = awB mi 1 j from by rw [hI.1 1 (by omega)]).trans (show awB mi 1 j = uN N j 4 from B.aw hlt9)).trans q)), Int32.add_zero]
        rw [nI_1]
        refine Wp.sub (a := [(0, .ref 37), (1, .ref 1), (2, .int (nI p)), (3, .int (nI t)), (4, .int (zsum (oddF sm an N n dd t p) (j + 1))), (5, .int (nI (j + 1)))]) (zle_cons rfl (zle_cons rfl (zle_cons rfl (zle_cons rfl (zle_cons (by rw [e9]; rfl) (zle_cons rfl zle_nil)))))) ?_
        exact ih (j + 1) m g' (by omega) hI
theorem c_kwo {E : zEn} {vs : List (Nat × Nat)} {mi : Nat → Nat → Int32} {ml : Nat → Nat → Int64} {g : Nat → Nat → Option Nat} {g0 : Nat → Nat → Option Nat} {X : Nat → Nat → Int32} {nv : Nat} {wg : Nat → (Nat → Int32) → Int32} {sm : Int32 → (Nat → Int32) → Int32} {an : Int32 → Int32} (C : CE E vs g0 X nv wg sm an g mi) {N : Nat → Int32} {n dd : Nat} (B : BR mi 1 (g 1 3) nv N n dd) {t p : Nat} (hdd : dd + t < 100000) : Wp E 6 pg_Foresight_keptWithoutOne 0 (lv_args 0 [.ref 37, .ref 1, .int (nI p), .int (nI t)]) [] (zsh ++ vs, mi, ml, (zmr g)) (fun r w' => r = some (.int (zsum (oddF sm an N n dd t p) n)) ∧ ∃ m g', w' = (zsh ++ vs, m, ml, zmr g') ∧ frB 38 mi m ∧ ∀ a f, ¬ (a = 38 ∧ f = 3) → g' a f = g a f) := by
  have h6 := B.1.2.1
  have K : ∀ (m : Nat → Nat → Int32) (g' : Nat → Nat → Option Nat), (frB 38 mi m ∧ ∀ a f, ¬ (a = 38 ∧ f = 3) → g' a f = g a f) → Wp E 6 pg_Foresight_keptWithoutOne 69 [(0, .ref 37), (1, .ref 1), (2, .int (nI p)), (3, .int (nI t)), (4, .int (zsum (oddF sm an N n dd t p) n)), (5, .int (nI n))] [] (zsh ++ vs, m, ml, zmr g') (fun r w' => r = some (.int (zsum (oddF sm an N n dd t p) n)) ∧ ∃ m g', w' = (zsh ++ vs, m, ml, zmr g') ∧ frB 38 mi m ∧ ∀ a f, ¬ (a = 38 ∧ f = 3) → g' a f = g a f) := by
    intro m g' hI
    refine Wp.run 1 (71, [(0, .ref 37), (1, .ref 1), (2, .int (nI p)), (3, .int (nI t)), (4, .int (zsum (oddF sm an N n dd t p) n)), (5, .int (nI n))], [.int (zsum (oddF sm an N n dd t p) n)], (zsh ++ vs, m, ml, (zmr g'))) rfl ?_
    refine Wp.ret rfl rfl rfl ?_
    exact ⟨rfl, m, g', rfl, hI.1, hI.2⟩
  refine Wp.run 4 (6, [(5, .int 0), (4, .int 0), (0, .ref 37), (1, .ref 1), (2, .int (nI p)), (3, .int (nI t))], [], (zsh ++ vs, mi, ml, (zmr g))) rfl ?_
  refine Wp.sub (a := [(0, .ref 37), (1, .ref 1), (2, .int (nI p)), (3, .int (nI t)), (4, .int (zsum (oddF sm an N n dd t p) 0)), (5, .int (nI 0))]) (zle_cons rfl (zle_cons rfl (zle_cons rfl (zle_cons rfl (zle_cons rfl (zle_cons rfl (zle_nil))))))) ?_
  exact c_kwo_l C B h6 hdd (by omega) K n 0 mi g (by omega) ⟨fun _ _ => rfl, fun _ _ _ => rfl⟩
theorem m_odds_l {E : zEn} {vs : List (Nat × Nat)} {mi : Nat → Nat → Int32} {ml : Nat → Nat → Int64} {g : Nat → Nat → Option Nat} {X71 X72 : Nat → Int32} {rv : Int32 → Prop} {sm : Int32 → (Nat → Int32) → Int32} {an : Int32 → Int32} {n dd : Nat} (R : RE E X71 X72 rv sm an mi n dd) (h6 : n ≤ 6) {t p : Nat} {pt : Int32} (ht : t ≤ 60) (hdd : dd + t < 100000) {P : Option Value → zW → Prop} (hn9 : n < 2147483648) (K : ∀ (m : Nat → Nat → Int32) , (KO mi m) → Wp E 28 pg_M_odds 102 [(0, .ref 66), (1, .int (nI p)), (2, .int (nI t)), (3, .int pt), (4, .int (zsum (cntF (mi 67)) n)), (5, .int (zsum (oddF sm an (mi 67) n dd t p) n)), (6, .int (nI n))] [] (zsh ++ vs, m, ml, (zmr g)) P) : ∀ (k j : Nat) (m : Nat → Nat → Int32) , j + k = n → (KO mi m) → Wp E 28 pg_M_odds 39 [(0, .ref 66), (1, .int (nI p)), (2, .int (nI t)), (3, .int pt), (4, .int (zsum (cntF (mi 67)) j)), (5, .int (zsum (oddF sm an (mi 67) n dd t p) j)), (6, .int (nI j))] [] (zsh ++ vs, m, ml, (zmr g)) P := by
  intro k
  induction k with
  | zero =>
    intro j m  hj9 hI
    obtain rfl : n = j := by omega
    refine Wp.run 5 (48, [(0, .ref 66), (1, .int (nI p)), (2, .int (nI t)), (3, .int pt), (4, .int (zsum (cntF (mi 67)) n)), (5, .int (zsum (oddF sm an (mi 67) n dd t p) n)), (6, .int (nI n))], [.int (m 67 68), .int (nI n)], (zsh ++ vs, m, ml, (zmr g))) rfl ?_
    refine Wp.topi (y := nI n) (by rw [hI.e67]; exact R.2.2.2.2.2.1) ?_
    refine Wp.run 0 (48, [(0, .ref 66), (1, .int (nI p)), (2, .int (nI t)), (3, .int pt), (4, .int (zsum (cntF (mi 67)) n)), (5, .int (zsum (oddF sm an (mi 67) n dd t p) n)), (6, .int (nI n))], [.int (nI n), .int (nI n)], (zsh ++ vs, m, ml, (zmr g))) rfl ?_
    refine Wp.icmp_ge rfl (fun h1 => ?_) (fun h1 => ?_)
    · exact K m  hI
    · exact absurd (Int32.le_refl _) h1
  | succ k ih =>
    intro j m  hj9 hI
    have hlt9 : j < n := by omega
    refine Wp.run 5 (48, [(0, .ref 66), (1, .int (nI p)), (2, .int (nI t)), (3, .int pt), (4, .int (zsum (cntF (mi 67)) j)), (5, .int (zsum (oddF sm an (mi 67) n dd t p) j)), (6, .int (nI j))], [.int (m 67 68), .int (nI j)], (zsh ++ vs, m, ml, (zmr g))) rfl ?_
    refine Wp.topi (y := nI n) (by rw [hI.e67]; exact R.2.2.2.2.2.1) ?_
    refine Wp.run 0 (48, [(0, .ref 66), (1, .int (nI p)), (2, .int (nI t)), (3, .int pt), (4, .int (zsum (cntF (mi 67)) j)), (5, .int (zsum (oddF sm an (mi 67) n dd t p) j)), (6, .int (nI j))], [.int (nI n), .int (nI j)], (zsh ++ vs, m, ml, (zmr g))) rfl ?_
    refine Wp.icmp_ge rfl (fun h1 => ?_) (fun h1 => ?_)
    · exact absurd h1 (nI_ge hlt9 hn9)
    · refine Wp.run 2 (54, [(0, .ref 66), (1, .int (nI p)), (2, .int (nI t)), (3, .int pt), (4, .int (zsum (cntF (mi 67)) j)), (5, .int (zsum (oddF sm an (mi 67) n dd t p) j)), (6, .int (nI j))], [.int (nI j), .ref 66], (zsh ++ vs, m, ml, (zmr g))) rfl ?_
      refine Wp.call (as := [.ref 66, .int (nI j)]) (rest := []) rfl rfl rfl rfl rfl (Nat.le_of_ble_eq_true rfl) (Nat.le_of_ble_eq_true rfl) rfl (by decide) (m_isHere (mi := m) j (by omega)) ?_
      rintro _ _ ⟨rfl, rfl⟩
      by_cases c5 : m 67 (8 + 10 * j + 4) = 0
      · rw [if_pos c5]
        refine Wp.run 6 (68, [(4, .int ((zsum (cntF (mi 67)) j) + 1)), (0, .ref 66), (1, .int (nI p)), (2, .int (nI t)), (3, .int pt), (5, .int (zsum (oddF sm an (mi 67) n dd t p) j)), (6, .int (nI j))], [.int 1, .int 4, .int (nI j), .ref 66], (zsh ++ vs, m, ml, (zmr g))) rfl ?_
        refine Wp.call (as := [.ref 66, .int (nI j), .int 4, .int 1]) (rest := []) rfl rfl rfl rfl rfl (Nat.le_of_ble_eq_true rfl) (Nat.le_of_ble_eq_true rfl) rfl (by decide) (m_change (mi := m) j 4 1 (by omega)) ?_
        rintro _ _ ⟨rfl, rfl⟩
        obtain ⟨p1, hp1⟩ : ∃ z, z = zup m 67 (8 + 10 * j + 4) 1 := ⟨_, rfl⟩
        rw [← hp1]
        have R1 : RE E X71 X72 rv sm an p1 n dd := R.fr (fun a ha => by rw [hp1, zup_ne (by omega)]; exact hI.1 a (by omega) (by omega) (by omega) (by omega) (by omega)) (by rw [hp1, zup_rd (by omega), hI.e67]) (by rw [hp1, zup_rd (by omega), hI.e67]; exact R.2.2.2.2.1) (by rw [hp1, zup_rd (by omega), hI.e67])
        have e1 : p1 67 = upd (mi 67) (8 + 10 * j + 4) 1 := by rw [hp1, zup_eq, hI.e67]
        refine Wp.run 5 (77, [(4, .int ((zsum (cntF (mi 67)) j) + 1)), (0, .ref 66), (1, .int (nI p)), (2, .int (nI t)), (3, .int pt), (5, .int (zsum (oddF sm an (mi 67) n dd t p) j)), (6, .int (nI j))], [.int 0, .int (nI t), .ref 66, .int (zsum (oddF sm an (mi 67) n dd t p) j)], (zsh ++ vs, p1, ml, (zmr g))) rfl ?_
        refine Wp.call (as := [.ref 66, .int (nI t), .int 0]) (rest := [.int (zsum (oddF sm an (mi 67) n dd t p) j)]) rfl rfl rfl rfl rfl (Nat.le_of_ble_eq_true rfl) (Nat.le_of_ble_eq_true rfl) rfl (by decide) (m_on0 (mi := p1) (t := t) R1 (by omega) hdd) ?_
        rintro _ _ ⟨rfl, p2, rfl, k2⟩
        refine Wp.run 10 (92, [(5, .int ((zsum (oddF sm an (mi 67) n dd t p) j) + (((keptN (daysN sm an (p1 67) n dd t) n) >>> ((nI p) &&& 31)) &&& 1))), (4, .int ((zsum (cntF (mi 67)) j) + 1)), (0, .ref 66), (1, .int (nI p)), (2, .int (nI t)), (3, .int pt), (6, .int (nI j))], [.int 0, .int 4, .int (nI j), .ref 66], (zsh ++ vs, p2, ml, (zmr g))) rfl ?_
        refine Wp.call (as := [.ref 66, .int (nI j), .int 4, .int 0]) (rest := []) rfl rfl rfl rfl rfl (Nat.le_of_ble_eq_true rfl) (Nat.le_of_ble_eq_true rfl) rfl (by decide) (m_change (mi := p2) j 4 0 (by omega)) ?_
        rintro _ _ ⟨rfl, rfl⟩
        obtain ⟨p3, hp3⟩ : ∃ z, z = zup p2 67 (8 + 10 * j + 4) 0 := ⟨_, rfl⟩
        rw [← hp3]
        refine Wp.run 3 (39, [(6, .int ((nI j) + 1)), (5, .int ((zsum (oddF sm an (mi 67) n dd t p) j) + (((keptN (daysN sm an (p1 67) n dd t) n) >>> ((nI p) &&& 31)) &&& 1))), (4, .int ((zsum (cntF (mi 67)) j) + 1)), (0, .ref 66), (1, .int (nI p)), (2, .int (nI t)), (3, .int pt)], [], (zsh ++ vs, p3, ml, (zmr g))) rfl ?_
        have h4 : uN (mi 67) j 4 = 0 := by rw [← hI.e67]; exact c5
        have e8 : zsum (cntF (mi 67)) (j + 1) = zsum (cntF (mi 67)) j + 1 := by rw [zsum, cntF, if_pos h4]
        have e9 : zsum (oddF sm an (mi 67) n dd t p) (j + 1) = zsum (oddF sm an (mi 67) n dd t p) j + (keptN (daysN sm an (p1 67) n dd t) n >>> (nI p &&& 31) &&& 1) := by rw [zsum, oddF, if_pos h4, e1]
        rw [nI_1]
        refine Wp.sub (a := [(0, .ref 66), (1, .int (nI p)), (2, .int (nI t)), (3, .int pt), (4, .int (zsum (cntF (mi 67)) (j + 1))), (5, .int (zsum (oddF sm an (mi 67) n dd t p) (j + 1))), (6, .int (nI (j + 1)))]) (zle_cons rfl (zle_cons rfl (zle_cons rfl (zle_cons rfl (zle_cons (by rw [e8]; rfl) (zle_cons (by rw [e9]; rfl) (zle_cons rfl zle_nil))))))) ?_
        refine ih (j + 1) p3 (by omega) ⟨fun a a1 a2 a3 a4 a5 => ?_, fun k hk => ?_⟩
        · by_cases ha : a = 67
          · subst ha; rw [hp3, zup_eq, k2.e67, e1]; exact upd_upd0 h4
          · rw [hp3, zup_ne ha, k2.1 a a1 a2 a3 a4 a5, hp1, zup_ne ha]; exact hI.1 a a1 a2 a3 a4 a5
        · rw [hp3, zup_ne (by decide), k2.2 k hk, hp1, zup_ne (by decide)]; exact hI.2 k hk
      · rw [if_neg c5]
        refine Wp.run 3 (39, [(6, .int ((nI j) + 1)), (0, .ref 66), (1, .int (nI p)), (2, .int (nI t)), (3, .int pt), (4, .int (zsum (cntF (mi 67)) j)), (5, .int (zsum (oddF sm an (mi 67) n dd t p) j))], [], (zsh ++ vs, m, ml, (zmr g))) rfl ?_
        have h4 : ¬ uN (mi 67) j 4 = 0 := by rw [← hI.e67]; exact c5
        have e8 : zsum (cntF (mi 67)) (j + 1) = zsum (cntF (mi 67)) j := by rw [zsum, cntF, if_neg h4, Int32.add_zero]
        have e9 : zsum (oddF sm an (mi 67) n dd t p) (j + 1) = zsum (oddF sm an (mi 67) n dd t p) j := by rw [zsum, oddF, if_neg h4, Int32.add_zero]
        rw [nI_1]
        refine Wp.sub (a := [(0, .ref 66), (1, .int (nI p)), (2, .int (nI t)), (3, .int pt), (4, .int (zsum (cntF (mi 67)) (j + 1))), (5, .int (zsum (oddF sm an (mi 67) n dd t p) (j + 1))), (6, .int (nI (j + 1)))]) (zle_cons rfl (zle_cons rfl (zle_cons rfl (zle_cons rfl (zle_cons (by rw [e8]; rfl) (zle_cons (by rw [e9]; rfl) (zle_cons rfl zle_nil))))))) ?_
        exact ih (j + 1) m (by omega) hI
theorem sim_odds {E : zEn} {nv : Nat} {VD : Nat → zV} {NL : Nat → Nat} {n dd : Nat} {vs : List (Nat × Nat)} {mi : Nat → Nat → Int32} {ml : Nat → Nat → Int64} {g : Nat → Nat → Option Nat} (I : INV nv VD NL n dd vs mi ml g) (x y z : Int32) : SIML E vs mi ml g pg_H_odds pg_M_odds [.int x, .int y, .int z] := by
  have B := I.1.1
  have h6 := B.1.2.1
  have hn := B.2.1
  have hN := B.1.1
  have hd := B.1.2.2.1
  have hdd := I.1.2
  by_cases hx : 0 ≤ x ∧ x ≤ 7
  rotate_left
  · refine SIML.q I (x := Int64.ofNat 9223372036854775808) (dc := 7) (dm := 27) (by decide) (by decide) ?_ ?_
    · refine Wp.run 2 (3, [(0, .ref 0), (1, .int x), (2, .int y), (3, .int z)], [.int 7, .int x], (zsh ++ vs, mi, ml, (zmr g))) rfl ?_
      refine Wp.call (as := [.int x, .int 7]) (rest := []) rfl rfl rfl rfl rfl (Nat.le_of_ble_eq_true rfl) (Nat.le_of_ble_eq_true rfl) rfl (by decide) (c_within_f hx) ?_
      rintro _ _ ⟨rfl, rfl⟩
      refine Wp.run 2 (29, [(0, .ref 0), (1, .int x), (2, .int y), (3, .int z)], [.long (Int64.ofNat 9223372036854775808)], (zsh ++ vs, mi, ml, (zmr g))) rfl ?_
      refine Wp.ret rfl rfl rfl ?_
      exact ⟨rfl, _, _, rfl, SC.rf, fun _ _ _ => rfl⟩
    · intro m g' I' e67 S
      have B' := I'.1.1
      have hn' := B'.2.1
      have hN' := B'.1.1
      have hd' := B'.1.2.2.1
      refine Wp.run 1 (1, [(0, .ref 66), (1, .int x), (2, .int y), (3, .int z)], [.int x], (zsh ++ vs, m, ml, (zmr g'))) rfl ?_
      refine Wp.call (as := [.int x]) (rest := []) rfl rfl rfl rfl rfl (Nat.le_of_ble_eq_true rfl) (Nat.le_of_ble_eq_true rfl) rfl (by decide) (m_isPart_f hx) ?_
      rintro _ _ ⟨rfl, rfl⟩
      refine Wp.run 2 (29, [(0, .ref 66), (1, .int x), (2, .int y), (3, .int z)], [.long (Int64.ofNat 9223372036854775808)], (zsh ++ vs, m, ml, (zmr g'))) rfl ?_
      refine Wp.ret rfl rfl rfl ?_
      exact ⟨rfl, _, rfl, SC.rf⟩
  by_cases hy : 0 ≤ y ∧ y ≤ 20
  rotate_left
  · refine SIML.q I (x := Int64.ofNat 9223372036854775808) (dc := 7) (dm := 27) (by decide) (by decide) ?_ ?_
    · refine Wp.run 2 (3, [(0, .ref 0), (1, .int x), (2, .int y), (3, .int z)], [.int 7, .int x], (zsh ++ vs, mi, ml, (zmr g))) rfl ?_
      refine Wp.call (as := [.int x, .int 7]) (rest := []) rfl rfl rfl rfl rfl (Nat.le_of_ble_eq_true rfl) (Nat.le_of_ble_eq_true rfl) rfl (by decide) (c_within_t hx) ?_
      rintro _ _ ⟨rfl, rfl⟩
      refine Wp.run 3 (12, [(0, .ref 0), (1, .int x), (2, .int y), (3, .int z)], [.int 20, .int y], (zsh ++ vs, mi, ml, (zmr g))) rfl ?_
      refine Wp.call (as := [.int y, .int 20]) (rest := []) rfl rfl rfl rfl rfl (Nat.le_of_ble_eq_true rfl) (Nat.le_of_ble_eq_true rfl) rfl (by decide) (c_within_f hy) ?_
      rintro _ _ ⟨rfl, rfl⟩
      refine Wp.run 2 (29, [(0, .ref 0), (1, .int x), (2, .int y), (3, .int z)], [.long (Int64.ofNat 9223372036854775808)], (zsh ++ vs, mi, ml, (zmr g))) rfl ?_
      refine Wp.ret rfl rfl rfl ?_
      exact ⟨rfl, _, _, rfl, SC.rf, fun _ _ _ => rfl⟩
    · intro m g' I' e67 S
      have B' := I'.1.1
      have hn' := B'.2.1
      have hN' := B'.1.1
      have hd' := B'.1.2.2.1
      refine Wp.run 1 (1, [(0, .ref 66), (1, .int x), (2, .int y), (3, .int z)], [.int x], (zsh ++ vs, m, ml, (zmr g'))) rfl ?_
      refine Wp.call (as := [.int x]) (rest := []) rfl rfl rfl rfl rfl (Nat.le_of_ble_eq_true rfl) (Nat.le_of_ble_eq_true rfl) rfl (by decide) (m_isPart_t hx) ?_
      rintro _ _ ⟨rfl, rfl⟩
      refine Wp.run 4 (11, [(0, .ref 66), (1, .int x), (2, .int y), (3, .int z)], [.int 20, .int 0, .int y], (zsh ++ vs, m, ml, (zmr g'))) rfl ?_
      refine Wp.call (as := [.int y, .int 0, .int 20]) (rest := []) rfl rfl rfl rfl rfl (Nat.le_of_ble_eq_true rfl) (Nat.le_of_ble_eq_true rfl) rfl (by decide) (m_isIn_f hy) ?_
      rintro _ _ ⟨rfl, rfl⟩
      refine Wp.run 2 (29, [(0, .ref 66), (1, .int x), (2, .int y), (3, .int z)], [.long (Int64.ofNat 9223372036854775808)], (zsh ++ vs, m, ml, (zmr g'))) rfl ?_
      refine Wp.ret rfl rfl rfl ?_
      exact ⟨rfl, _, rfl, SC.rf⟩
  by_cases hz : 0 ≤ z ∧ z ≤ 1
  rotate_left
  · refine SIML.q I (x := Int64.ofNat 9223372036854775808) (dc := 7) (dm := 27) (by decide) (by decide) ?_ ?_
    · refine Wp.run 2 (3, [(0, .ref 0), (1, .int x), (2, .int y), (3, .int z)], [.int 7, .int x], (zsh ++ vs, mi, ml, (zmr g))) rfl ?_
      refine Wp.call (as := [.int x, .int 7]) (rest := []) rfl rfl rfl rfl rfl (Nat.le_of_ble_eq_true rfl) (Nat.le_of_ble_eq_true rfl) rfl (by decide) (c_within_t hx) ?_
      rintro _ _ ⟨rfl, rfl⟩
      refine Wp.run 3 (12, [(0, .ref 0), (1, .int x), (2, .int y), (3, .int z)], [.int 20, .int y], (zsh ++ vs, mi, ml, (zmr g))) rfl ?_
      refine Wp.call (as := [.int y, .int 20]) (rest := []) rfl rfl rfl rfl rfl (Nat.le_of_ble_eq_true rfl) (Nat.le_of_ble_eq_true rfl) rfl (by decide) (c_within_t hy) ?_
      rintro _ _ ⟨rfl, rfl⟩
      refine Wp.run 3 (20, [(0, .ref 0), (1, .int x), (2, .int y), (3, .int z)], [.int 1, .int z], (zsh ++ vs, mi, ml, (zmr g))) rfl ?_
      refine Wp.call (as := [.int z, .int 1]) (rest := []) rfl rfl rfl rfl rfl (Nat.le_of_ble_eq_true rfl) (Nat.le_of_ble_eq_true rfl) rfl (by decide) (c_within_f hz) ?_
      rintro _ _ ⟨rfl, rfl⟩
      refine Wp.run 2 (29, [(0, .ref 0), (1, .int x), (2, .int y), (3, .int z)], [.long (Int64.ofNat 9223372036854775808)], (zsh ++ vs, mi, ml, (zmr g))) rfl ?_
      refine Wp.ret rfl rfl rfl ?_
      exact ⟨rfl, _, _, rfl, SC.rf, fun _ _ _ => rfl⟩
    · intro m g' I' e67 S
      have B' := I'.1.1
      have hn' := B'.2.1
      have hN' := B'.1.1
      have hd' := B'.1.2.2.1
      refine Wp.run 1 (1, [(0, .ref 66), (1, .int x), (2, .int y), (3, .int z)], [.int x], (zsh ++ vs, m, ml, (zmr g'))) rfl ?_
      refine Wp.call (as := [.int x]) (rest := []) rfl rfl rfl rfl rfl (Nat.le_of_ble_eq_true rfl) (Nat.le_of_ble_eq_true rfl) rfl (by decide) (m_isPart_t hx) ?_
      rintro _ _ ⟨rfl, rfl⟩
      refine Wp.run 4 (11, [(0, .ref 66), (1, .int x), (2, .int y), (3, .int z)], [.int 20, .int 0, .int y], (zsh ++ vs, m, ml, (zmr g'))) rfl ?_
      refine Wp.call (as := [.int y, .int 0, .int 20]) (rest := []) rfl rfl rfl rfl rfl (Nat.le_of_ble_eq_true rfl) (Nat.le_of_ble_eq_true rfl) rfl (by decide) (m_isIn_t hy) ?_
      rintro _ _ ⟨rfl, rfl⟩
      refine Wp.run 4 (20, [(0, .ref 66), (1, .int x), (2, .int y), (3, .int z)], [.int 1, .int 0, .int z], (zsh ++ vs, m, ml, (zmr g'))) rfl ?_
      refine Wp.call (as := [.int z, .int 0, .int 1]) (rest := []) rfl rfl rfl rfl rfl (Nat.le_of_ble_eq_true rfl) (Nat.le_of_ble_eq_true rfl) rfl (by decide) (m_isIn_f hz) ?_
      rintro _ _ ⟨rfl, rfl⟩
      refine Wp.run 2 (29, [(0, .ref 66), (1, .int x), (2, .int y), (3, .int z)], [.long (Int64.ofNat 9223372036854775808)], (zsh ++ vs, m, ml, (zmr g'))) rfl ?_
      refine Wp.ret rfl rfl rfl ?_
      exact ⟨rfl, _, rfl, SC.rf⟩
  obtain ⟨p, hp, rfl⟩ := rng_of (h := 7) rfl hx
  obtain ⟨t, ht, rfl⟩ := rng_of (h := 20) rfl hy
  obtain ⟨q, hq, rfl⟩ := rng_of (h := 1) rfl hz
  obtain ⟨A, hA, eA⟩ := zsum_le (f := oddF (smV VD) (anV VD) (mi 67) n dd t p) (M := 1) (n := n) (fun k hk => oddF_1 (by omega))
  obtain ⟨D, hD, eD⟩ := zsum_le (f := cntF (mi 67)) (M := 1) (n := n) (fun k hk => cntF_1)
  rcases (show q = 0 ∨ q = 1 by omega) with rfl | rfl
  · by_cases hD0 : D = 0
    · refine SIML.q I (x := Int64.ofNat 9223372036854775808) (dc := 8) (dm := 28) (by decide) (by decide) ?_ ?_
      · refine Wp.run 2 (3, [(0, .ref 0), (1, .int (nI p)), (2, .int (nI t)), (3, .int 0)], [.int 7, .int (nI p)], (zsh ++ vs, mi, ml, (zmr g))) rfl ?_
        refine Wp.call (as := [.int (nI p), .int 7]) (rest := []) rfl rfl rfl rfl rfl (Nat.le_of_ble_eq_true rfl) (Nat.le_of_ble_eq_true rfl) rfl (by decide) (c_within_t hx) ?_
        rintro _ _ ⟨rfl, rfl⟩
        refine Wp.run 3 (12, [(0, .ref 0), (1, .int (nI p)), (2, .int (nI t)), (3, .int 0)], [.int 20, .int (nI t)], (zsh ++ vs, mi, ml, (zmr g))) rfl ?_
        refine Wp.call (as := [.int (nI t), .int 20]) (rest := []) rfl rfl rfl rfl rfl (Nat.le_of_ble_eq_true rfl) (Nat.le_of_ble_eq_true rfl) rfl (by decide) (c_within_t hy) ?_
        rintro _ _ ⟨rfl, rfl⟩
        refine Wp.run 3 (20, [(0, .ref 0), (1, .int (nI p)), (2, .int (nI t)), (3, .int 0)], [.int 1, .int 0], (zsh ++ vs, mi, ml, (zmr g))) rfl ?_
        refine Wp.call (as := [.int 0, .int 1]) (rest := []) rfl rfl rfl rfl rfl (Nat.le_of_ble_eq_true rfl) (Nat.le_of_ble_eq_true rfl) rfl (by decide) (c_within_t hz) ?_
        rintro _ _ ⟨rfl, rfl⟩
        refine Wp.run 7 (40, [(0, .ref 0), (1, .int (nI p)), (2, .int (nI t)), (3, .int 0)], [.int (nI t), .int (nI p), .ref 1, .ref 37], (zsh ++ vs, mi, ml, (zmr g))) rfl ?_
        refine Wp.call (as := [.ref 37, .ref 1, .int (nI p), .int (nI t)]) (rest := []) rfl rfl rfl rfl rfl (Nat.le_of_ble_eq_true rfl) (Nat.le_of_ble_eq_true rfl) rfl (by decide) (c_kwo (t := t) (p := p) I.ce B (by omega)) ?_
        rintro _ _ ⟨rfl, p1, g1, rfl, k1, k2⟩
        refine Wp.topi (y := nI A) (eA) ?_
        refine Wp.run 2 (47, [(0, .ref 0), (1, .int (nI p)), (2, .int (nI t)), (3, .int 0)], [.ref 1, .int (nI A)], (zsh ++ vs, p1, ml, (zmr g1))) rfl ?_
        refine Wp.call (as := [.ref 1]) (rest := [.int (nI A)]) rfl rfl rfl rfl rfl (Nat.le_of_ble_eq_true rfl) (Nat.le_of_ble_eq_true rfl) rfl (by decide) (c_countHere_1) ?_
        rintro _ _ ⟨rfl, rfl⟩
        refine Wp.topi (y := 0) ((by rw [k1 1 (by omega)]; exact B.count.trans (eD.trans (congrArg nI hD0)))) ?_
        refine Wp.run 1 (51, [(0, .ref 0), (1, .int (nI p)), (2, .int (nI t)), (3, .int 0)], [.int 0, .int 0, .int (nI A)], (zsh ++ vs, p1, ml, (zmr g1))) rfl ?_
        refine Wp.call (as := [.int (nI A), .int 0, .int 0]) (rest := []) rfl rfl rfl rfl rfl (Nat.le_of_ble_eq_true rfl) (Nat.le_of_ble_eq_true rfl) rfl (by decide) (c_fr0_0) ?_
        rintro _ _ ⟨rfl, rfl⟩
        refine Wp.run 0 (54, [(0, .ref 0), (1, .int (nI p)), (2, .int (nI t)), (3, .int 0)], [.long (Int64.ofNat 9223372036854775808)], (zsh ++ vs, p1, ml, (zmr g1))) rfl ?_
        refine Wp.ret rfl rfl rfl ?_
        exact ⟨rfl, _, _, rfl, SC.frB k1, k2⟩
      · intro m g' I' e67 S
        have K : ∀ (p1 : Nat → Nat → Int32), KO m p1 → Wp E 28 pg_M_odds 102 [(0, .ref 66), (1, .int (nI p)), (2, .int (nI t)), (3, .int 0), (4, .int (zsum (cntF (m 67)) n)), (5, .int (zsum (oddF (smV VD) (anV VD) (m 67) n dd t p) n)), (6, .int (nI n))] [] (zsh ++ vs, p1, ml, zmr g') (fun r w' => r = some (.long (Int64.ofNat 9223372036854775808)) ∧ ∃ m', w' = (zsh ++ vs, m', ml, zmr g') ∧ SC m m') := by
          intro p1 k1
          refine Wp.run 1 (104, [(0, .ref 66), (1, .int (nI p)), (2, .int (nI t)), (3, .int 0), (4, .int (zsum (cntF (m 67)) n)), (5, .int (zsum (oddF (smV VD) (anV VD) (m 67) n dd t p) n)), (6, .int (nI n))], [.int (zsum (cntF (m 67)) n)], (zsh ++ vs, p1, ml, (zmr g'))) rfl ?_
          refine Wp.topi (y := 0) (by rw [e67]; exact eD.trans (congrArg nI hD0)) ?_
          refine Wp.run 3 (123, [(0, .ref 66), (1, .int (nI p)), (2, .int (nI t)), (3, .int 0), (4, .int (zsum (cntF (m 67)) n)), (5, .int (zsum (oddF (smV VD) (anV VD) (m 67) n dd t p) n)), (6, .int (nI n))], [.long (Int64.ofNat 9223372036854775808)], (zsh ++ vs, p1, ml, (zmr g'))) rfl ?_
          refine Wp.ret rfl rfl rfl ?_
          exact ⟨rfl, p1, rfl, k1.sc⟩
        refine Wp.run 1 (1, [(0, .ref 66), (1, .int (nI p)), (2, .int (nI t)), (3, .int 0)], [.int (nI p)], (zsh ++ vs, m, ml, (zmr g'))) rfl ?_
        refine Wp.call (as := [.int (nI p)]) (rest := []) rfl rfl rfl rfl rfl (Nat.le_of_ble_eq_true rfl) (Nat.le_of_ble_eq_true rfl) rfl (by decide) (m_isPart_t hx) ?_
        rintro _ _ ⟨rfl, rfl⟩
        refine Wp.run 4 (11, [(0, .ref 66), (1, .int (nI p)), (2, .int (nI t)), (3, .int 0)], [.int 20, .int 0, .int (nI t)], (zsh ++ vs, m, ml, (zmr g'))) rfl ?_
        refine Wp.call (as := [.int (nI t), .int 0, .int 20]) (rest := []) rfl rfl rfl rfl rfl (Nat.le_of_ble_eq_true rfl) (Nat.le_of_ble_eq_true rfl) rfl (by decide) (m_isIn_t hy) ?_
        rintro _ _ ⟨rfl, rfl⟩
        refine Wp.run 4 (20, [(0, .ref 66), (1, .int (nI p)), (2, .int (nI t)), (3, .int 0)], [.int 1, .int 0, .int 0], (zsh ++ vs, m, ml, (zmr g'))) rfl ?_
        refine Wp.call (as := [.int 0, .int 0, .int 1]) (rest := []) rfl rfl rfl rfl rfl (Nat.le_of_ble_eq_true rfl) (Nat.le_of_ble_eq_true rfl) rfl (by decide) (m_isIn_t hz) ?_
        rintro _ _ ⟨rfl, rfl⟩
        refine Wp.run 7 (39, [(6, .int 0), (5, .int 0), (4, .int 0), (0, .ref 66), (1, .int (nI p)), (2, .int (nI t)), (3, .int 0)], [], (zsh ++ vs, m, ml, (zmr g'))) rfl ?_
        refine Wp.sub (a := [(0, .ref 66), (1, .int (nI p)), (2, .int (nI t)), (3, .int 0), (4, .int (zsum (cntF (m 67)) 0)), (5, .int (zsum (oddF (smV VD) (anV VD) (m 67) n dd t p) 0)), (6, .int (nI 0))]) (zle_cons rfl (zle_cons rfl (zle_cons rfl (zle_cons rfl (zle_cons rfl (zle_cons rfl (zle_cons rfl (zle_nil)))))))) ?_
        exact m_odds_l I'.re h6 (by omega) (by omega) (by omega) K n 0 m (by omega) KO.rf
    · refine SIML.q I (x := lN (A / Nat.gcd A D)) (dc := 8) (dm := 28) (by decide) (by decide) ?_ ?_
      · refine Wp.run 2 (3, [(0, .ref 0), (1, .int (nI p)), (2, .int (nI t)), (3, .int 0)], [.int 7, .int (nI p)], (zsh ++ vs, mi, ml, (zmr g))) rfl ?_
        refine Wp.call (as := [.int (nI p), .int 7]) (rest := []) rfl rfl rfl rfl rfl (Nat.le_of_ble_eq_true rfl) (Nat.le_of_ble_eq_true rfl) rfl (by decide) (c_within_t hx) ?_
        rintro _ _ ⟨rfl, rfl⟩
        refine Wp.run 3 (12, [(0, .ref 0), (1, .int (nI p)), (2, .int (nI t)), (3, .int 0)], [.int 20, .int (nI t)], (zsh ++ vs, mi, ml, (zmr g))) rfl ?_
        refine Wp.call (as := [.int (nI t), .int 20]) (rest := []) rfl rfl rfl rfl rfl (Nat.le_of_ble_eq_true rfl) (Nat.le_of_ble_eq_true rfl) rfl (by decide) (c_within_t hy) ?_
        rintro _ _ ⟨rfl, rfl⟩
        refine Wp.run 3 (20, [(0, .ref 0), (1, .int (nI p)), (2, .int (nI t)), (3, .int 0)], [.int 1, .int 0], (zsh ++ vs, mi, ml, (zmr g))) rfl ?_
        refine Wp.call (as := [.int 0, .int 1]) (rest := []) rfl rfl rfl rfl rfl (Nat.le_of_ble_eq_true rfl) (Nat.le_of_ble_eq_true rfl) rfl (by decide) (c_within_t hz) ?_
        rintro _ _ ⟨rfl, rfl⟩
        refine Wp.run 7 (40, [(0, .ref 0), (1, .int (nI p)), (2, .int (nI t)), (3, .int 0)], [.int (nI t), .int (nI p), .ref 1, .ref 37], (zsh ++ vs, mi, ml, (zmr g))) rfl ?_
        refine Wp.call (as := [.ref 37, .ref 1, .int (nI p), .int (nI t)]) (rest := []) rfl rfl rfl rfl rfl (Nat.le_of_ble_eq_true rfl) (Nat.le_of_ble_eq_true rfl) rfl (by decide) (c_kwo (t := t) (p := p) I.ce B (by omega)) ?_
        rintro _ _ ⟨rfl, p1, g1, rfl, k1, k2⟩
        refine Wp.topi (y := nI A) (eA) ?_
        refine Wp.run 2 (47, [(0, .ref 0), (1, .int (nI p)), (2, .int (nI t)), (3, .int 0)], [.ref 1, .int (nI A)], (zsh ++ vs, p1, ml, (zmr g1))) rfl ?_
        refine Wp.call (as := [.ref 1]) (rest := [.int (nI A)]) rfl rfl rfl rfl rfl (Nat.le_of_ble_eq_true rfl) (Nat.le_of_ble_eq_true rfl) rfl (by decide) (c_countHere_1) ?_
        rintro _ _ ⟨rfl, rfl⟩
        refine Wp.topi (y := nI D) ((by rw [k1 1 (by omega)]; exact B.count.trans (eD))) ?_
        refine Wp.run 1 (51, [(0, .ref 0), (1, .int (nI p)), (2, .int (nI t)), (3, .int 0)], [.int 0, .int (nI D), .int (nI A)], (zsh ++ vs, p1, ml, (zmr g1))) rfl ?_
        refine Wp.call (as := [.int (nI A), .int (nI D), .int 0]) (rest := []) rfl rfl rfl rfl rfl (Nat.le_of_ble_eq_true rfl) (Nat.le_of_ble_eq_true rfl) rfl (by decide) (c_fr0 (by omega) (by omega) (by omega)) ?_
        rintro _ _ ⟨rfl, rfl⟩
        refine Wp.run 0 (54, [(0, .ref 0), (1, .int (nI p)), (2, .int (nI t)), (3, .int 0)], [.long (lN (A / Nat.gcd A D))], (zsh ++ vs, p1, ml, (zmr g1))) rfl ?_
        refine Wp.ret rfl rfl rfl ?_
        exact ⟨rfl, _, _, rfl, SC.frB k1, k2⟩
      · intro m g' I' e67 S
        have K : ∀ (p1 : Nat → Nat → Int32), KO m p1 → Wp E 28 pg_M_odds 102 [(0, .ref 66), (1, .int (nI p)), (2, .int (nI t)), (3, .int 0), (4, .int (zsum (cntF (m 67)) n)), (5, .int (zsum (oddF (smV VD) (anV VD) (m 67) n dd t p) n)), (6, .int (nI n))] [] (zsh ++ vs, p1, ml, zmr g') (fun r w' => r = some (.long (lN (A / Nat.gcd A D))) ∧ ∃ m', w' = (zsh ++ vs, m', ml, zmr g') ∧ SC m m') := by
          intro p1 k1
          refine Wp.run 1 (104, [(0, .ref 66), (1, .int (nI p)), (2, .int (nI t)), (3, .int 0), (4, .int (zsum (cntF (m 67)) n)), (5, .int (zsum (oddF (smV VD) (anV VD) (m 67) n dd t p) n)), (6, .int (nI n))], [.int (zsum (cntF (m 67)) n)], (zsh ++ vs, p1, ml, (zmr g'))) rfl ?_
          refine Wp.topi (y := nI D) (by rw [e67]; exact eD) ?_
          refine Wp.run 0 (104, [(0, .ref 66), (1, .int (nI p)), (2, .int (nI t)), (3, .int 0), (4, .int (zsum (cntF (m 67)) n)), (5, .int (zsum (oddF (smV VD) (anV VD) (m 67) n dd t p) n)), (6, .int (nI n))], [.int (nI D)], (zsh ++ vs, p1, ml, (zmr g'))) rfl ?_
          refine Wp.if_ne rfl (fun h51 => ?_) (fun h51 => ?_)
          · refine Wp.run 1 (115, [(0, .ref 66), (1, .int (nI p)), (2, .int (nI t)), (3, .int 0), (4, .int (zsum (cntF (m 67)) n)), (5, .int (zsum (oddF (smV VD) (anV VD) (m 67) n dd t p) n)), (6, .int (nI n))], [.int (zsum (oddF (smV VD) (anV VD) (m 67) n dd t p) n)], (zsh ++ vs, p1, ml, (zmr g'))) rfl ?_
            refine Wp.topi (y := nI A) (by rw [e67]; exact eA) ?_
            refine Wp.run 1 (116, [(0, .ref 66), (1, .int (nI p)), (2, .int (nI t)), (3, .int 0), (4, .int (zsum (cntF (m 67)) n)), (5, .int (zsum (oddF (smV VD) (anV VD) (m 67) n dd t p) n)), (6, .int (nI n))], [.long ((nI A : Int32).toInt64)], (zsh ++ vs, p1, ml, (zmr g'))) rfl ?_
            refine Wp.topl (y := lN A) (nI_l (by omega)) ?_
            refine Wp.run 1 (118, [(0, .ref 66), (1, .int (nI p)), (2, .int (nI t)), (3, .int 0), (4, .int (zsum (cntF (m 67)) n)), (5, .int (zsum (oddF (smV VD) (anV VD) (m 67) n dd t p) n)), (6, .int (nI n))], [.int (zsum (cntF (m 67)) n), .long (lN A)], (zsh ++ vs, p1, ml, (zmr g'))) rfl ?_
            refine Wp.topi (y := nI D) (by rw [e67]; exact eD) ?_
            refine Wp.run 1 (119, [(0, .ref 66), (1, .int (nI p)), (2, .int (nI t)), (3, .int 0), (4, .int (zsum (cntF (m 67)) n)), (5, .int (zsum (oddF (smV VD) (anV VD) (m 67) n dd t p) n)), (6, .int (nI n))], [.long ((nI D : Int32).toInt64), .long (lN A)], (zsh ++ vs, p1, ml, (zmr g'))) rfl ?_
            refine Wp.topl (y := lN D) (nI_l (by omega)) ?_
            refine Wp.run 1 (120, [(0, .ref 66), (1, .int (nI p)), (2, .int (nI t)), (3, .int 0), (4, .int (zsum (cntF (m 67)) n)), (5, .int (zsum (oddF (smV VD) (anV VD) (m 67) n dd t p) n)), (6, .int (nI n))], [.int 0, .long (lN D), .long (lN A)], (zsh ++ vs, p1, ml, (zmr g'))) rfl ?_
            refine Wp.call (as := [.long (lN A), .long (lN D), .int 0]) (rest := []) rfl rfl rfl rfl rfl (Nat.le_of_ble_eq_true rfl) (Nat.le_of_ble_eq_true rfl) rfl (by decide) (m_fr0 (A := A) (D := D) (by omega) (by omega) (by omega)) ?_
            rintro _ _ ⟨rfl, rfl⟩
            refine Wp.run 0 (123, [(0, .ref 66), (1, .int (nI p)), (2, .int (nI t)), (3, .int 0), (4, .int (zsum (cntF (m 67)) n)), (5, .int (zsum (oddF (smV VD) (anV VD) (m 67) n dd t p) n)), (6, .int (nI n))], [.long (lN (A / Nat.gcd A D))], (zsh ++ vs, p1, ml, (zmr g'))) rfl ?_
            refine Wp.ret rfl rfl rfl ?_
            exact ⟨rfl, p1, rfl, k1.sc⟩
          · exact absurd h51 (nI_ne0 (by omega) (by omega))
        refine Wp.run 1 (1, [(0, .ref 66), (1, .int (nI p)), (2, .int (nI t)), (3, .int 0)], [.int (nI p)], (zsh ++ vs, m, ml, (zmr g'))) rfl ?_
        refine Wp.call (as := [.int (nI p)]) (rest := []) rfl rfl rfl rfl rfl (Nat.le_of_ble_eq_true rfl) (Nat.le_of_ble_eq_true rfl) rfl (by decide) (m_isPart_t hx) ?_
        rintro _ _ ⟨rfl, rfl⟩
        refine Wp.run 4 (11, [(0, .ref 66), (1, .int (nI p)), (2, .int (nI t)), (3, .int 0)], [.int 20, .int 0, .int (nI t)], (zsh ++ vs, m, ml, (zmr g'))) rfl ?_
        refine Wp.call (as := [.int (nI t), .int 0, .int 20]) (rest := []) rfl rfl rfl rfl rfl (Nat.le_of_ble_eq_true rfl) (Nat.le_of_ble_eq_true rfl) rfl (by decide) (m_isIn_t hy) ?_
        rintro _ _ ⟨rfl, rfl⟩
        refine Wp.run 4 (20, [(0, .ref 66), (1, .int (nI p)), (2, .int (nI t)), (3, .int 0)], [.int 1, .int 0, .int 0], (zsh ++ vs, m, ml, (zmr g'))) rfl ?_
        refine Wp.call (as := [.int 0, .int 0, .int 1]) (rest := []) rfl rfl rfl rfl rfl (Nat.le_of_ble_eq_true rfl) (Nat.le_of_ble_eq_true rfl) rfl (by decide) (m_isIn_t hz) ?_
        rintro _ _ ⟨rfl, rfl⟩
        refine Wp.run 7 (39, [(6, .int 0), (5, .int 0), (4, .int 0), (0, .ref 66), (1, .int (nI p)), (2, .int (nI t)), (3, .int 0)], [], (zsh ++ vs, m, ml, (zmr g'))) rfl ?_
        refine Wp.sub (a := [(0, .ref 66), (1, .int (nI p)), (2, .int (nI t)), (3, .int 0), (4, .int (zsum (cntF (m 67)) 0)), (5, .int (zsum (oddF (smV VD) (anV VD) (m 67) n dd t p) 0)), (6, .int (nI 0))]) (zle_cons rfl (zle_cons rfl (zle_cons rfl (zle_cons rfl (zle_cons rfl (zle_cons rfl (zle_cons rfl (zle_nil)))))))) ?_
        exact m_odds_l I'.re h6 (by omega) (by omega) (by omega) K n 0 m (by omega) KO.rf
  · by_cases hD0 : D = 0
    · refine SIML.q I (x := Int64.ofNat 9223372036854775808) (dc := 8) (dm := 28) (by decide) (by decide) ?_ ?_
      · refine Wp.run 2 (3, [(0, .ref 0), (1, .int (nI p)), (2, .int (nI t)), (3, .int 1)], [.int 7, .int (nI p)], (zsh ++ vs, mi, ml, (zmr g))) rfl ?_
        refine Wp.call (as := [.int (nI p), .int 7]) (rest := []) rfl rfl rfl rfl rfl (Nat.le_of_ble_eq_true rfl) (Nat.le_of_ble_eq_true rfl) rfl (by decide) (c_within_t hx) ?_
        rintro _ _ ⟨rfl, rfl⟩
        refine Wp.run 3 (12, [(0, .ref 0), (1, .int (nI p)), (2, .int (nI t)), (3, .int 1)], [.int 20, .int (nI t)], (zsh ++ vs, mi, ml, (zmr g))) rfl ?_
        refine Wp.call (as := [.int (nI t), .int 20]) (rest := []) rfl rfl rfl rfl rfl (Nat.le_of_ble_eq_true rfl) (Nat.le_of_ble_eq_true rfl) rfl (by decide) (c_within_t hy) ?_
        rintro _ _ ⟨rfl, rfl⟩
        refine Wp.run 3 (20, [(0, .ref 0), (1, .int (nI p)), (2, .int (nI t)), (3, .int 1)], [.int 1, .int 1], (zsh ++ vs, mi, ml, (zmr g))) rfl ?_
        refine Wp.call (as := [.int 1, .int 1]) (rest := []) rfl rfl rfl rfl rfl (Nat.le_of_ble_eq_true rfl) (Nat.le_of_ble_eq_true rfl) rfl (by decide) (c_within_t hz) ?_
        rintro _ _ ⟨rfl, rfl⟩
        refine Wp.run 7 (40, [(0, .ref 0), (1, .int (nI p)), (2, .int (nI t)), (3, .int 1)], [.int (nI t), .int (nI p), .ref 1, .ref 37], (zsh ++ vs, mi, ml, (zmr g))) rfl ?_
        refine Wp.call (as := [.ref 37, .ref 1, .int (nI p), .int (nI t)]) (rest := []) rfl rfl rfl rfl rfl (Nat.le_of_ble_eq_true rfl) (Nat.le_of_ble_eq_true rfl) rfl (by decide) (c_kwo (t := t) (p := p) I.ce B (by omega)) ?_
        rintro _ _ ⟨rfl, p1, g1, rfl, k1, k2⟩
        refine Wp.topi (y := nI A) (eA) ?_
        refine Wp.run 2 (47, [(0, .ref 0), (1, .int (nI p)), (2, .int (nI t)), (3, .int 1)], [.ref 1, .int (nI A)], (zsh ++ vs, p1, ml, (zmr g1))) rfl ?_
        refine Wp.call (as := [.ref 1]) (rest := [.int (nI A)]) rfl rfl rfl rfl rfl (Nat.le_of_ble_eq_true rfl) (Nat.le_of_ble_eq_true rfl) rfl (by decide) (c_countHere_1) ?_
        rintro _ _ ⟨rfl, rfl⟩
        refine Wp.topi (y := 0) ((by rw [k1 1 (by omega)]; exact B.count.trans (eD.trans (congrArg nI hD0)))) ?_
        refine Wp.run 1 (51, [(0, .ref 0), (1, .int (nI p)), (2, .int (nI t)), (3, .int 1)], [.int 1, .int 0, .int (nI A)], (zsh ++ vs, p1, ml, (zmr g1))) rfl ?_
        refine Wp.call (as := [.int (nI A), .int 0, .int 1]) (rest := []) rfl rfl rfl rfl rfl (Nat.le_of_ble_eq_true rfl) (Nat.le_of_ble_eq_true rfl) rfl (by decide) (c_fr1_0) ?_
        rintro _ _ ⟨rfl, rfl⟩
        refine Wp.run 0 (54, [(0, .ref 0), (1, .int (nI p)), (2, .int (nI t)), (3, .int 1)], [.long (Int64.ofNat 9223372036854775808)], (zsh ++ vs, p1, ml, (zmr g1))) rfl ?_
        refine Wp.ret rfl rfl rfl ?_
        exact ⟨rfl, _, _, rfl, SC.frB k1, k2⟩
      · intro m g' I' e67 S
        have K : ∀ (p1 : Nat → Nat → Int32), KO m p1 → Wp E 28 pg_M_odds 102 [(0, .ref 66), (1, .int (nI p)), (2, .int (nI t)), (3, .int 1), (4, .int (zsum (cntF (m 67)) n)), (5, .int (zsum (oddF (smV VD) (anV VD) (m 67) n dd t p) n)), (6, .int (nI n))] [] (zsh ++ vs, p1, ml, zmr g') (fun r w' => r = some (.long (Int64.ofNat 9223372036854775808)) ∧ ∃ m', w' = (zsh ++ vs, m', ml, zmr g') ∧ SC m m') := by
          intro p1 k1
          refine Wp.run 1 (104, [(0, .ref 66), (1, .int (nI p)), (2, .int (nI t)), (3, .int 1), (4, .int (zsum (cntF (m 67)) n)), (5, .int (zsum (oddF (smV VD) (anV VD) (m 67) n dd t p) n)), (6, .int (nI n))], [.int (zsum (cntF (m 67)) n)], (zsh ++ vs, p1, ml, (zmr g'))) rfl ?_
          refine Wp.topi (y := 0) (by rw [e67]; exact eD.trans (congrArg nI hD0)) ?_
          refine Wp.run 3 (123, [(0, .ref 66), (1, .int (nI p)), (2, .int (nI t)), (3, .int 1), (4, .int (zsum (cntF (m 67)) n)), (5, .int (zsum (oddF (smV VD) (anV VD) (m 67) n dd t p) n)), (6, .int (nI n))], [.long (Int64.ofNat 9223372036854775808)], (zsh ++ vs, p1, ml, (zmr g'))) rfl ?_
          refine Wp.ret rfl rfl rfl ?_
          exact ⟨rfl, p1, rfl, k1.sc⟩
        refine Wp.run 1 (1, [(0, .ref 66), (1, .int (nI p)), (2, .int (nI t)), (3, .int 1)], [.int (nI p)], (zsh ++ vs, m, ml, (zmr g'))) rfl ?_
        refine Wp.call (as := [.int (nI p)]) (rest := []) rfl rfl rfl rfl rfl (Nat.le_of_ble_eq_true rfl) (Nat.le_of_ble_eq_true rfl) rfl (by decide) (m_isPart_t hx) ?_
        rintro _ _ ⟨rfl, rfl⟩
        refine Wp.run 4 (11, [(0, .ref 66), (1, .int (nI p)), (2, .int (nI t)), (3, .int 1)], [.int 20, .int 0, .int (nI t)], (zsh ++ vs, m, ml, (zmr g'))) rfl ?_
        refine Wp.call (as := [.int (nI t), .int 0, .int 20]) (rest := []) rfl rfl rfl rfl rfl (Nat.le_of_ble_eq_true rfl) (Nat.le_of_ble_eq_true rfl) rfl (by decide) (m_isIn_t hy) ?_
        rintro _ _ ⟨rfl, rfl⟩
        refine Wp.run 4 (20, [(0, .ref 66), (1, .int (nI p)), (2, .int (nI t)), (3, .int 1)], [.int 1, .int 0, .int 1], (zsh ++ vs, m, ml, (zmr g'))) rfl ?_
        refine Wp.call (as := [.int 1, .int 0, .int 1]) (rest := []) rfl rfl rfl rfl rfl (Nat.le_of_ble_eq_true rfl) (Nat.le_of_ble_eq_true rfl) rfl (by decide) (m_isIn_t hz) ?_
        rintro _ _ ⟨rfl, rfl⟩
        refine Wp.run 7 (39, [(6, .int 0), (5, .int 0), (4, .int 0), (0, .ref 66), (1, .int (nI p)), (2, .int (nI t)), (3, .int 1)], [], (zsh ++ vs, m, ml, (zmr g'))) rfl ?_
        refine Wp.sub (a := [(0, .ref 66), (1, .int (nI p)), (2, .int (nI t)), (3, .int 1), (4, .int (zsum (cntF (m 67)) 0)), (5, .int (zsum (oddF (smV VD) (anV VD) (m 67) n dd t p) 0)), (6, .int (nI 0))]) (zle_cons rfl (zle_cons rfl (zle_cons rfl (zle_cons rfl (zle_cons rfl (zle_cons rfl (zle_cons rfl (zle_nil)))))))) ?_
        exact m_odds_l I'.re h6 (by omega) (by omega) (by omega) K n 0 m (by omega) KO.rf
    · refine SIML.q I (x := lN (D / Nat.gcd A D)) (dc := 8) (dm := 28) (by decide) (by decide) ?_ ?_
      · refine Wp.run 2 (3, [(0, .ref 0), (1, .int (nI p)), (2, .int (nI t)), (3, .int 1)], [.int 7, .int (nI p)], (zsh ++ vs, mi, ml, (zmr g))) rfl ?_
        refine Wp.call (as := [.int (nI p), .int 7]) (rest := []) rfl rfl rfl rfl rfl (Nat.le_of_ble_eq_true rfl) (Nat.le_of_ble_eq_true rfl) rfl (by decide) (c_within_t hx) ?_
        rintro _ _ ⟨rfl, rfl⟩
        refine Wp.run 3 (12, [(0, .ref 0), (1, .int (nI p)), (2, .int (nI t)), (3, .int 1)], [.int 20, .int (nI t)], (zsh ++ vs, mi, ml, (zmr g))) rfl ?_
        refine Wp.call (as := [.int (nI t), .int 20]) (rest := []) rfl rfl rfl rfl rfl (Nat.le_of_ble_eq_true rfl) (Nat.le_of_ble_eq_true rfl) rfl (by decide) (c_within_t hy) ?_
        rintro _ _ ⟨rfl, rfl⟩
        refine Wp.run 3 (20, [(0, .ref 0), (1, .int (nI p)), (2, .int (nI t)), (3, .int 1)], [.int 1, .int 1], (zsh ++ vs, mi, ml, (zmr g))) rfl ?_
        refine Wp.call (as := [.int 1, .int 1]) (rest := []) rfl rfl rfl rfl rfl (Nat.le_of_ble_eq_true rfl) (Nat.le_of_ble_eq_true rfl) rfl (by decide) (c_within_t hz) ?_
        rintro _ _ ⟨rfl, rfl⟩
        refine Wp.run 7 (40, [(0, .ref 0), (1, .int (nI p)), (2, .int (nI t)), (3, .int 1)], [.int (nI t), .int (nI p), .ref 1, .ref 37], (zsh ++ vs, mi, ml, (zmr g))) rfl ?_
        refine Wp.call (as := [.ref 37, .ref 1, .int (nI p), .int (nI t)]) (rest := []) rfl rfl rfl rfl rfl (Nat.le_of_ble_eq_true rfl) (Nat.le_of_ble_eq_true rfl) rfl (by decide) (c_kwo (t := t) (p := p) I.ce B (by omega)) ?_
        rintro _ _ ⟨rfl, p1, g1, rfl, k1, k2⟩
        refine Wp.topi (y := nI A) (eA) ?_
        refine Wp.run 2 (47, [(0, .ref 0), (1, .int (nI p)), (2, .int (nI t)), (3, .int 1)], [.ref 1, .int (nI A)], (zsh ++ vs, p1, ml, (zmr g1))) rfl ?_
        refine Wp.call (as := [.ref 1]) (rest := [.int (nI A)]) rfl rfl rfl rfl rfl (Nat.le_of_ble_eq_true rfl) (Nat.le_of_ble_eq_true rfl) rfl (by decide) (c_countHere_1) ?_
        rintro _ _ ⟨rfl, rfl⟩
        refine Wp.topi (y := nI D) ((by rw [k1 1 (by omega)]; exact B.count.trans (eD))) ?_
        refine Wp.run 1 (51, [(0, .ref 0), (1, .int (nI p)), (2, .int (nI t)), (3, .int 1)], [.int 1, .int (nI D), .int (nI A)], (zsh ++ vs, p1, ml, (zmr g1))) rfl ?_
        refine Wp.call (as := [.int (nI A), .int (nI D), .int 1]) (rest := []) rfl rfl rfl rfl rfl (Nat.le_of_ble_eq_true rfl) (Nat.le_of_ble_eq_true rfl) rfl (by decide) (c_fr1 (by omega) (by omega) (by omega)) ?_
        rintro _ _ ⟨rfl, rfl⟩
        refine Wp.run 0 (54, [(0, .ref 0), (1, .int (nI p)), (2, .int (nI t)), (3, .int 1)], [.long (lN (D / Nat.gcd A D))], (zsh ++ vs, p1, ml, (zmr g1))) rfl ?_
        refine Wp.ret rfl rfl rfl ?_
        exact ⟨rfl, _, _, rfl, SC.frB k1, k2⟩
      · intro m g' I' e67 S
        have K : ∀ (p1 : Nat → Nat → Int32), KO m p1 → Wp E 28 pg_M_odds 102 [(0, .ref 66), (1, .int (nI p)), (2, .int (nI t)), (3, .int 1), (4, .int (zsum (cntF (m 67)) n)), (5, .int (zsum (oddF (smV VD) (anV VD) (m 67) n dd t p) n)), (6, .int (nI n))] [] (zsh ++ vs, p1, ml, zmr g') (fun r w' => r = some (.long (lN (D / Nat.gcd A D))) ∧ ∃ m', w' = (zsh ++ vs, m', ml, zmr g') ∧ SC m m') := by
          intro p1 k1
          refine Wp.run 1 (104, [(0, .ref 66), (1, .int (nI p)), (2, .int (nI t)), (3, .int 1), (4, .int (zsum (cntF (m 67)) n)), (5, .int (zsum (oddF (smV VD) (anV VD) (m 67) n dd t p) n)), (6, .int (nI n))], [.int (zsum (cntF (m 67)) n)], (zsh ++ vs, p1, ml, (zmr g'))) rfl ?_
          refine Wp.topi (y := nI D) (by rw [e67]; exact eD) ?_
          refine Wp.run 0 (104, [(0, .ref 66), (1, .int (nI p)), (2, .int (nI t)), (3, .int 1), (4, .int (zsum (cntF (m 67)) n)), (5, .int (zsum (oddF (smV VD) (anV VD) (m 67) n dd t p) n)), (6, .int (nI n))], [.int (nI D)], (zsh ++ vs, p1, ml, (zmr g'))) rfl ?_
          refine Wp.if_ne rfl (fun h51 => ?_) (fun h51 => ?_)
          · refine Wp.run 1 (115, [(0, .ref 66), (1, .int (nI p)), (2, .int (nI t)), (3, .int 1), (4, .int (zsum (cntF (m 67)) n)), (5, .int (zsum (oddF (smV VD) (anV VD) (m 67) n dd t p) n)), (6, .int (nI n))], [.int (zsum (oddF (smV VD) (anV VD) (m 67) n dd t p) n)], (zsh ++ vs, p1, ml, (zmr g'))) rfl ?_
            refine Wp.topi (y := nI A) (by rw [e67]; exact eA) ?_
            refine Wp.run 1 (116, [(0, .ref 66), (1, .int (nI p)), (2, .int (nI t)), (3, .int 1), (4, .int (zsum (cntF (m 67)) n)), (5, .int (zsum (oddF (smV VD) (anV VD) (m 67) n dd t p) n)), (6, .int (nI n))], [.long ((nI A : Int32).toInt64)], (zsh ++ vs, p1, ml, (zmr g'))) rfl ?_
            refine Wp.topl (y := lN A) (nI_l (by omega)) ?_
            refine Wp.run 1 (118, [(0, .ref 66), (1, .int (nI p)), (2, .int (nI t)), (3, .int 1), (4, .int (zsum (cntF (m 67)) n)), (5, .int (zsum (oddF (smV VD) (anV VD) (m 67) n dd t p) n)), (6, .int (nI n))], [.int (zsum (cntF (m 67)) n), .long (lN A)], (zsh ++ vs, p1, ml, (zmr g'))) rfl ?_
            refine Wp.topi (y := nI D) (by rw [e67]; exact eD) ?_
            refine Wp.run 1 (119, [(0, .ref 66), (1, .int (nI p)), (2, .int (nI t)), (3, .int 1), (4, .int (zsum (cntF (m 67)) n)), (5, .int (zsum (oddF (smV VD) (anV VD) (m 67) n dd t p) n)), (6, .int (nI n))], [.long ((nI D : Int32).toInt64), .long (lN A)], (zsh ++ vs, p1, ml, (zmr g'))) rfl ?_
            refine Wp.topl (y := lN D) (nI_l (by omega)) ?_
            refine Wp.run 1 (120, [(0, .ref 66), (1, .int (nI p)), (2, .int (nI t)), (3, .int 1), (4, .int (zsum (cntF (m 67)) n)), (5, .int (zsum (oddF (smV VD) (anV VD) (m 67) n dd t p) n)), (6, .int (nI n))], [.int 1, .long (lN D), .long (lN A)], (zsh ++ vs, p1, ml, (zmr g'))) rfl ?_
            refine Wp.call (as := [.long (lN A), .long (lN D), .int 1]) (rest := []) rfl rfl rfl rfl rfl (Nat.le_of_ble_eq_true rfl) (Nat.le_of_ble_eq_true rfl) rfl (by decide) (m_fr1 (A := A) (D := D) (by omega) (by omega) (by omega)) ?_
            rintro _ _ ⟨rfl, rfl⟩
            refine Wp.run 0 (123, [(0, .ref 66), (1, .int (nI p)), (2, .int (nI t)), (3, .int 1), (4, .int (zsum (cntF (m 67)) n)), (5, .int (zsum (oddF (smV VD) (anV VD) (m 67) n dd t p) n)), (6, .int (nI n))], [.long (lN (D / Nat.gcd A D))], (zsh ++ vs, p1, ml, (zmr g'))) rfl ?_
            refine Wp.ret rfl rfl rfl ?_
            exact ⟨rfl, p1, rfl, k1.sc⟩
          · exact absurd h51 (nI_ne0 (by omega) (by omega))
        refine Wp.run 1 (1, [(0, .ref 66), (1, .int (nI p)), (2, .int (nI t)), (3, .int 1)], [.int (nI p)], (zsh ++ vs, m, ml, (zmr g'))) rfl ?_
        refine Wp.call (as := [.int (nI p)]) (rest := []) rfl rfl rfl rfl rfl (Nat.le_of_ble_eq_true rfl) (Nat.le_of_ble_eq_true rfl) rfl (by decide) (m_isPart_t hx) ?_
        rintro _ _ ⟨rfl, rfl⟩
        refine Wp.run 4 (11, [(0, .ref 66), (1, .int (nI p)), (2, .int (nI t)), (3, .int 1)], [.int 20, .int 0, .int (nI t)], (zsh ++ vs, m, ml, (zmr g'))) rfl ?_
        refine Wp.call (as := [.int (nI t), .int 0, .int 20]) (rest := []) rfl rfl rfl rfl rfl (Nat.le_of_ble_eq_true rfl) (Nat.le_of_ble_eq_true rfl) rfl (by decide) (m_isIn_t hy) ?_
        rintro _ _ ⟨rfl, rfl⟩
        refine Wp.run 4 (20, [(0, .ref 66), (1, .int (nI p)), (2, .int (nI t)), (3, .int 1)], [.int 1, .int 0, .int 1], (zsh ++ vs, m, ml, (zmr g'))) rfl ?_
        refine Wp.call (as := [.int 1, .int 0, .int 1]) (rest := []) rfl rfl rfl rfl rfl (Nat.le_of_ble_eq_true rfl) (Nat.le_of_ble_eq_true rfl) rfl (by decide) (m_isIn_t hz) ?_
        rintro _ _ ⟨rfl, rfl⟩
        refine Wp.run 7 (39, [(6, .int 0), (5, .int 0), (4, .int 0), (0, .ref 66), (1, .int (nI p)), (2, .int (nI t)), (3, .int 1)], [], (zsh ++ vs, m, ml, (zmr g'))) rfl ?_
        refine Wp.sub (a := [(0, .ref 66), (1, .int (nI p)), (2, .int (nI t)), (3, .int 1), (4, .int (zsum (cntF (m 67)) 0)), (5, .int (zsum (oddF (smV VD) (anV VD) (m 67) n dd t p) 0)), (6, .int (nI 0))]) (zle_cons rfl (zle_cons rfl (zle_cons rfl (zle_cons rfl (zle_cons rfl (zle_cons rfl (zle_cons rfl (zle_nil)))))))) ?_
        exact m_odds_l I'.re h6 (by omega) (by omega) (by omega) K n 0 m (by omega) KO.rf
