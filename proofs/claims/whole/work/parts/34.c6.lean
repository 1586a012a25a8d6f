/-! THE CLASS: days to come, in the band at 38 -/
/-- the first of so many, from t on, at which f is 0 -/
def lostR (f : Nat → Int32) : Nat → Nat → Int32
  | 0, _ => -5
  | c + 1, t => if f t = 0 then nI t else lostR f c (t + 1)
abbrev keptN (N : Nat → Int32) (n : Nat) : Int32 := zor (keptF (uN N)) n
abbrev lostF (sm : Int32 → (Nat → Int32) → Int32) (an : Int32 → Int32) (N : Nat → Int32) (n dd p : Nat) (t : Nat) : Int32 := keptN (daysN sm an N n dd t) n >>> (nI p &&& 31) &&& 1
def lostN (sm : Int32 → (Nat → Int32) → Int32) (an : Int32 → Int32) (N : Nat → Int32) (n dd p : Nat) : Int32 := lostR (lostF sm an N n dd p) 61 0
theorem rOK_set {N : Nat → Int32} {n dd i f : Nat} {v : Int32} (h : rOK N n dd) (hi : i < n) (hf : (f = 1 ∧ ∃ q, q ≤ 9 ∧ v = nI q) ∨ (f = 2 ∧ ∃ q, q < 256 ∧ v = nI q) ∨ (f = 3 ∧ ∃ q, q ≤ 99 ∧ v = nI q) ∨ (f = 4 ∧ ∃ q, q ≤ 1 ∧ v = nI q)) : rOK (upd N (8 + 10 * i + f) v) n dd := by
  obtain ⟨h68, h6, h69, hst, hs⟩ := h
  have hf4 : 1 ≤ f ∧ f ≤ 4 := by omega
  have e : ∀ x, ¬ x = 8 + 10 * i + f → upd N (8 + 10 * i + f) v x = N x := fun x hx => by simp only [upd, if_neg hx]
  have es : upd N (8 + 10 * i + f) v (8 + 10 * i + f) = v := by simp only [upd, if_true]
  refine ⟨by rw [e 68 (by omega)]; exact h68, h6, by rw [e 69 (by omega)]; exact h69, fun p hp => by rw [e p (by omega)]; exact hst p hp, fun k hk => ?_⟩
  obtain ⟨a0, a1, a2, a3, a4, a5, a6⟩ := hs k hk
  have at' : ∀ c, c < 10 → ¬ (k = i ∧ c = f) → uN (upd N (8 + 10 * i + f) v) k c = uN N k c := fun c hc hn => e _ (by omega)
  refine ⟨by rw [at' 0 (by decide) (by omega)]; exact a0, ?_, ?_, ?_, ?_, by rw [at' 5 (by decide) (by omega)]; exact a5, fun d hd => by rw [at' (6 + d) (by omega) (by omega)]; exact a6 d hd⟩
  · by_cases hc : k = i ∧ 1 = f
    · obtain ⟨rfl, rfl⟩ := hc
      rw [show uN (upd N (8 + 10 * k + 1) v) k 1 = v from es]
      rcases hf with g | g | g | g
      · exact g.2
      · omega
      · omega
      · omega
    · rw [at' 1 (by decide) hc]; exact a1
  · by_cases hc : k = i ∧ 2 = f
    · obtain ⟨rfl, rfl⟩ := hc
      rw [show uN (upd N (8 + 10 * k + 2) v) k 2 = v from es]
      rcases hf with g | g | g | g
      · omega
      · exact g.2
      · omega
      · omega
    · rw [at' 2 (by decide) hc]; exact a2
  · by_cases hc : k = i ∧ 3 = f
    · obtain ⟨rfl, rfl⟩ := hc
      rw [show uN (upd N (8 + 10 * k + 3) v) k 3 = v from es]
      rcases hf with g | g | g | g
      · omega
      · omega
      · exact g.2
      · omega
    · rw [at' 3 (by decide) hc]; exact a3
  · by_cases hc : k = i ∧ 4 = f
    · obtain ⟨rfl, rfl⟩ := hc
      rw [show uN (upd N (8 + 10 * k + 4) v) k 4 = v from es]
      rcases hf with g | g | g | g
      · omega
      · omega
      · omega
      · exact g.2
    · rw [at' 4 (by decide) hc]; exact a4
/-- a singer's v, holds or memory set, on both sides -/
theorem BR_set {mi : Nat → Nat → Int32} {a nv : Nat} {h : Option Nat} {N : Nat → Int32} {n dd i f : Nat} {v : Int32} (B : BR mi a h nv N n dd) (hi : i < n) (hf : (f = 1 ∧ ∃ q, q ≤ 9 ∧ v = nI q) ∨ (f = 2 ∧ ∃ q, q < 256 ∧ v = nI q) ∨ (f = 3 ∧ ∃ q, q ≤ 99 ∧ v = nI q)) : BR (zup mi (a + 2 + f) i v) a h nv (upd N (8 + 10 * i + f) v) n dd := by
  obtain ⟨hr, hn, hd, hst, hu, hab, hh⟩ := B
  have h6 := hr.2.1
  have hf3 : 1 ≤ f ∧ f ≤ 3 := by omega
  refine ⟨rOK_set hr hi (hf.elim Or.inl (fun g => Or.inr (g.elim Or.inl (fun g => Or.inr (Or.inl g))))), by rw [zup_ne (by omega)]; exact hn, by rw [zup_ne (by omega)]; exact hd, fun p hp => ?_, fun k hk c hc => ?_, fun k p q => by rw [zup_ne (by omega)]; exact hab k p q, ?_⟩
  · rw [zup_ne (by omega), hst p hp]
    simp only [upd, if_neg (show ¬ p = 8 + 10 * i + f by omega)]
  · by_cases hc2 : k = i ∧ c = f
    · obtain ⟨rfl, rfl⟩ := hc2
      have e1 : uN (upd N (8 + 10 * k + c) v) k c = v := by simp only [uN, upd, if_true]
      rw [e1]
      rcases (show c = 1 ∨ c = 2 ∨ c = 3 by omega) with rfl | rfl | rfl <;> (show zup mi _ k v _ k = v; simp only [zup, if_true])
    · have e1 : uN (upd N (8 + 10 * i + f) v) k c = uN N k c := by simp only [uN, upd, if_neg (show ¬ 8 + 10 * k + c = 8 + 10 * i + f by omega)]
      rw [e1, ← hu k hk c hc]
      have row : ∀ q x, ¬ (q = 2 + f ∧ x = i) → zup mi (a + 2 + f) i v (a + q) x = mi (a + q) x := by
        intro q x hq
        by_cases h1 : a + q = a + 2 + f
        · simp only [zup, if_pos h1, if_neg (show ¬ x = i by omega)]
        · rw [zup_ne h1]
      have raw : awB (zup mi (a + 2 + f) i v) a k = awB mi a k := by simp only [awB, zup_ne (show ¬ a = a + 2 + f by omega)]
      rcases (show c = 0 ∨ c = 1 ∨ c = 2 ∨ c = 3 ∨ c = 4 ∨ c = 5 ∨ ∃ d, d < 4 ∧ c = 6 + d from by
        rcases (show c < 6 ∨ 6 ≤ c by omega) with g | g
        · omega
        · exact Or.inr (Or.inr (Or.inr (Or.inr (Or.inr (Or.inr ⟨c - 6, by omega, by omega⟩)))))) with rfl | rfl | rfl | rfl | rfl | rfl | ⟨d, hd4, rfl⟩
      · exact row 2 k (by omega)
      · exact row 3 k (by omega)
      · exact row 4 k (by omega)
      · exact row 5 k (by omega)
      · exact raw
      · exact row 6 k (by omega)
      · rw [uB_row, uB_row]; exact row 7 _ (by omega)
  · simp only [upd, if_neg (show ¬ 70 = 8 + 10 * i + f by omega)]
    exact hh
theorem BR_fr {mi m : Nat → Nat → Int32} {a nv : Nat} {h : Option Nat} {N : Nat → Int32} {n dd : Nat} (B : BR mi a h nv N n dd) (hk : ∀ b, a ≤ b → b ≤ a + 7 → m b = mi b) : BR m a h nv N n dd := by
  obtain ⟨hr, hn, hd, hst, hu, hab, hh⟩ := B
  refine ⟨hr, by rw [hk a (by omega) (by omega)]; exact hn, by rw [hk a (by omega) (by omega)]; exact hd, fun p hp => by rw [hk (a + 1) (by omega) (by omega)]; exact hst p hp, fun k hk1 f hf => ?_, fun k p q => by rw [hk a (by omega) (by omega)]; exact hab k p q, hh⟩
  rw [← hu k hk1 f hf]
  unfold uB awB
  rw [hk a (by omega) (by omega), hk (a + 2) (by omega) (by omega), hk (a + 3) (by omega) (by omega), hk (a + 4) (by omega) (by omega), hk (a + 5) (by omega) (by omega), hk (a + 6) (by omega) (by omega), hk (a + 7) (by omega) (by omega)]
theorem hRel.lt {nv : Nat} {h : Option Nat} {ρ : Int32} (H : hRel nv h ρ) (h6 : nv ≤ 6) : ∀ v, h = some v → v < zEX := by
  intro v hv
  obtain ⟨⟨k, hk, e⟩, -⟩ := H.vv v hv
  show v < 500
  omega
theorem rOK_days {sm : Int32 → (Nat → Int32) → Int32} {an : Int32 → Int32} {N : Nat → Int32} {n dd : Nat} (h : rOK N n dd) (ha : ∃ q, q ≤ 99 ∧ an (N 70) = nI q) : ∀ t, rOK (daysN sm an N n dd t) n (dd + t)
  | 0 => h
  | t + 1 => by rw [daysN]; exact rOK_day (rOK_days h ha t) (by rw [daysN_70 h.2.1 (by omega) (by omega)]; exact ha)
theorem c_goOn_l {E : zEn} {vs : List (Nat × Nat)} {mi : Nat → Nat → Int32} {ml : Nat → Nat → Int64} {g : Nat → Nat → Option Nat} {g0 : Nat → Nat → Option Nat} {X : Nat → Nat → Int32} {nv : Nat} {wg : Nat → (Nat → Int32) → Int32} {sm : Int32 → (Nat → Int32) → Int32} {an : Int32 → Int32} (C : CWs E vs g0 X (vvN nv) wg) (V : vSem nv X wg sm an) (hg0 : ∀ b, 86 ≤ b → g b = g0 b) (hX : ∀ b, 86 ≤ b → mi b = X b) {N : Nat → Int32} {n dd t : Nat} (hdd : dd + t < 100000) {P : Option Value → zW → Prop} (hn9 : t < 2147483648) (K : ∀ (m : Nat → Nat → Int32) , (frB 38 mi m ∧ BR m 38 (g 38 3) nv (daysN sm an N n dd t) n (dd + t)) → Wp E 5 pg_Foresight_goOn 22 [(0, .ref 37), (1, .int (nI t)), (2, .int (nI t))] [] (zsh ++ vs, m, ml, (zmr g)) P) : ∀ (k j : Nat) (m : Nat → Nat → Int32) , j + k = t → (frB 38 mi m ∧ BR m 38 (g 38 3) nv (daysN sm an N n dd j) n (dd + j)) → Wp E 5 pg_Foresight_goOn 2 [(0, .ref 37), (1, .int (nI t)), (2, .int (nI j))] [] (zsh ++ vs, m, ml, (zmr g)) P := by
  intro k
  induction k with
  | zero =>
    intro j m  hj9 hI
    obtain rfl : t = j := by omega
    refine Wp.run 2 (4, [(0, .ref 37), (1, .int (nI t)), (2, .int (nI t))], [.int (nI t), .int (nI t)], (zsh ++ vs, m, ml, (zmr g))) rfl ?_
    refine Wp.icmp_ge rfl (fun h1 => ?_) (fun h1 => ?_)
    · exact K m  hI
    · exact absurd (Int32.le_refl _) h1
  | succ k ih =>
    intro j m  hj9 hI
    have hlt9 : j < t := by omega
    refine Wp.run 2 (4, [(0, .ref 37), (1, .int (nI t)), (2, .int (nI j))], [.int (nI t), .int (nI j)], (zsh ++ vs, m, ml, (zmr g))) rfl ?_
    refine Wp.icmp_ge rfl (fun h1 => ?_) (fun h1 => ?_)
    · exact absurd h1 (nI_ge hlt9 hn9)
    · refine Wp.run 3 (13, [(0, .ref 37), (1, .int (nI t)), (2, .int (nI j))], [.int 1000000, .ref 38], (zsh ++ vs, m, ml, (zmr g))) rfl ?_
      refine Wp.call (as := [.ref 38, .int 1000000]) (rest := []) rfl rfl rfl rfl rfl (Nat.le_of_ble_eq_true rfl) (Nat.le_of_ble_eq_true rfl) rfl (by decide) (c_day_38 (mi := m) (M := 1000000) C V hg0 (fun b hb => by rw [hI.1 b (by omega)]; exact hX b hb) hI.2 (by omega) (by omega) (by decide)) ?_
      rintro _ _ ⟨rfl, m', rfl, hk, hB⟩
      refine Wp.run 2 (2, [(2, .int ((nI j) + 1)), (0, .ref 37), (1, .int (nI t))], [], (zsh ++ vs, m', ml, (zmr g))) rfl ?_
      rw [nI_1]
      refine Wp.sub (a := [(0, .ref 37), (1, .int (nI t)), (2, .int (nI (j + 1)))]) (zle_cons rfl (zle_cons rfl (zle_cons rfl (zle_nil)))) ?_
      exact ih (j + 1) _ (by omega) ⟨hI.1.tr hk, hB⟩
theorem c_goOn {E : zEn} {vs : List (Nat × Nat)} {mi : Nat → Nat → Int32} {ml : Nat → Nat → Int64} {g : Nat → Nat → Option Nat} {g0 : Nat → Nat → Option Nat} {X : Nat → Nat → Int32} {nv : Nat} {wg : Nat → (Nat → Int32) → Int32} {sm : Int32 → (Nat → Int32) → Int32} {an : Int32 → Int32} (C : CWs E vs g0 X (vvN nv) wg) (V : vSem nv X wg sm an) (hg0 : ∀ b, 86 ≤ b → g b = g0 b) (hX : ∀ b, 86 ≤ b → mi b = X b) {N : Nat → Int32} {n dd t : Nat} (hdd : dd + t < 100000) (B : BR mi 38 (g 38 3) nv N n dd) : Wp E 5 pg_Foresight_goOn 0 (lv_args 0 [.ref 37, .int (nI t)]) [] (zsh ++ vs, mi, ml, (zmr g)) (fun r w' => r = none ∧ ∃ m, w' = (zsh ++ vs, m, ml, zmr g) ∧ frB 38 mi m ∧ BR m 38 (g 38 3) nv (daysN sm an N n dd t) n (dd + t)) := by
  have K : ∀ (m : Nat → Nat → Int32), (frB 38 mi m ∧ BR m 38 (g 38 3) nv (daysN sm an N n dd t) n (dd + t)) → Wp E 5 pg_Foresight_goOn 22 [(0, .ref 37), (1, .int (nI t)), (2, .int (nI t))] [] (zsh ++ vs, m, ml, zmr g) (fun r w' => r = none ∧ ∃ m, w' = (zsh ++ vs, m, ml, zmr g) ∧ frB 38 mi m ∧ BR m 38 (g 38 3) nv (daysN sm an N n dd t) n (dd + t)) := by
    intro m hI
    refine Wp.run 0 (22, [(0, .ref 37), (1, .int (nI t)), (2, .int (nI t))], [], (zsh ++ vs, m, ml, (zmr g))) rfl ?_
    refine Wp.ret rfl rfl rfl ?_
    exact ⟨rfl, m, rfl, hI.1, hI.2⟩
  refine Wp.run 2 (2, [(2, .int 0), (0, .ref 37), (1, .int (nI t))], [], (zsh ++ vs, mi, ml, (zmr g))) rfl ?_
  refine Wp.sub (a := [(0, .ref 37), (1, .int (nI t)), (2, .int (nI 0))]) (zle_cons rfl (zle_cons rfl (zle_cons rfl (zle_nil)))) ?_
  exact c_goOn_l C V hg0 hX hdd (by omega) K t 0 mi (by omega) ⟨fun _ _ => rfl, B⟩
theorem c_after {E : zEn} {vs : List (Nat × Nat)} {mi : Nat → Nat → Int32} {ml : Nat → Nat → Int64} {g : Nat → Nat → Option Nat} {g0 : Nat → Nat → Option Nat} {X : Nat → Nat → Int32} {nv : Nat} {wg : Nat → (Nat → Int32) → Int32} {sm : Int32 → (Nat → Int32) → Int32} {an : Int32 → Int32} (C : CWs E vs g0 X (vvN nv) wg) (V : vSem nv X wg sm an) (hg0 : ∀ b, 86 ≤ b → g b = g0 b) (hX : ∀ b, 86 ≤ b → mi b = X b) (hnv : nv ≤ 6) {N : Nat → Int32} {n dd : Nat} (B : BR mi 1 (g 1 3) nv N n dd) {t : Nat} (hdd : dd + t < 100000) : Wp E 6 pg_Foresight_after 0 (lv_args 0 [.ref 37, .ref 1, .int (nI t)]) [] (zsh ++ vs, mi, ml, (zmr g)) (fun r w' => r = some (.ref 38) ∧ ∃ m, w' = (zsh ++ vs, m, ml, zmr (zup g 38 3 (g 1 3))) ∧ frB 38 mi m ∧ BR m 38 (g 1 3) nv (daysN sm an N n dd t) n (dd + t)) := by
  refine Wp.run 3 (5, [(0, .ref 37), (1, .ref 1), (2, .int (nI t))], [.ref 1, .ref 38], (zsh ++ vs, mi, ml, (zmr g))) rfl ?_
  refine Wp.call (as := [.ref 38, .ref 1]) (rest := []) rfl rfl rfl rfl rfl (Nat.le_of_ble_eq_true rfl) (Nat.le_of_ble_eq_true rfl) rfl (by decide) (c_become_38_1 (B.2.2.2.2.2.2.lt hnv)) ?_
  rintro _ _ ⟨rfl, m0, rfl, b1, b2, b3, b4, b5, b6⟩
  have B0 : BR m0 38 (g 1 3) nv N n dd := BR_copy B b2 b4 b5 b6
  have hG : ∀ b, 86 ≤ b → (zup g 38 3 (g 1 3)) b = g0 b := fun b hb => by rw [zup_ne (by omega)]; exact hg0 b hb
  have hX0 : ∀ b, 86 ≤ b → m0 b = X b := fun b hb => by rw [b1 b (by omega)]; exact hX b hb
  refine Wp.run 2 (10, [(0, .ref 37), (1, .ref 1), (2, .int (nI t))], [.int (nI t), .ref 37], (zsh ++ vs, m0, ml, (zmr (zup g 38 3 (g 1 3))))) rfl ?_
  refine Wp.call (as := [.ref 37, .int (nI t)]) (rest := []) rfl rfl rfl rfl rfl (Nat.le_of_ble_eq_true rfl) (Nat.le_of_ble_eq_true rfl) rfl (by decide) (c_goOn (mi := m0) (g := (zup g 38 3 (g 1 3))) (t := t) C V hG hX0 hdd B0) ?_
  rintro _ _ ⟨rfl, m, rfl, hk, hB⟩
  refine Wp.run 2 (17, [(0, .ref 37), (1, .ref 1), (2, .int (nI t))], [.ref 38], (zsh ++ vs, m, ml, (zmr (zup g 38 3 (g 1 3))))) rfl ?_
  refine Wp.ret rfl rfl rfl ?_
  exact ⟨rfl, m, rfl, fun b hb => (hk b hb).trans (b1 b (by omega)), hB⟩
theorem lostR_ne {f : Nat → Int32} {c t : Nat} (h : ¬ f t = 0) : lostR f (c + 1) t = lostR f c (t + 1) := by rw [lostR, if_neg h]
theorem lostR_eq {f : Nat → Int32} {c t : Nat} (h : f t = 0) : lostR f (c + 1) t = nI t := by rw [lostR, if_pos h]
theorem or_bit : ∀ p, p < 8 → ∀ q, q < 256 → ∃ r, r < 256 ∧ nI q ||| (1 : Int32) <<< (nI p &&& 31) = nI r := by
  have h : ∀ p : Fin 8, ∀ q : Fin 256, nI q.val ||| (1 : Int32) <<< (nI p.val &&& 31) = nI (q.val ||| 2 ^ p.val) ∧ q.val ||| 2 ^ p.val < 256 := by decide +kernel
  exact fun p hp q hq => ⟨q ||| 2 ^ p, (h ⟨p, hp⟩ ⟨q, hq⟩).2, (h ⟨p, hp⟩ ⟨q, hq⟩).1⟩
theorem c_lost_l {E : zEn} {vs : List (Nat × Nat)} {mi : Nat → Nat → Int32} {ml : Nat → Nat → Int64} {g : Nat → Nat → Option Nat} (ta : Int32) {g0 : Nat → Nat → Option Nat} {X : Nat → Nat → Int32} {nv : Nat} {wg : Nat → (Nat → Int32) → Int32} {sm : Int32 → (Nat → Int32) → Int32} {an : Int32 → Int32} (C : CWs E vs g0 X (vvN nv) wg) (V : vSem nv X wg sm an) (hg0 : ∀ b, 86 ≤ b → g b = g0 b) (hX : ∀ b, 86 ≤ b → mi b = X b) {N : Nat → Int32} {n dd p : Nat} (hp : p < 8) (hdd : dd + 61 < 100000) (hn9 : 61 < 2147483648) (K : ∀ (m : Nat → Nat → Int32) , (frB 38 mi m ∧ BR m 38 (g 38 3) nv (daysN sm an N n dd 61) n (dd + 61) ∧ lostN sm an N n dd p = lostR (lostF sm an N n dd p) (61 - 61) 61) → Wp E 5 pg_Foresight_lost 70 [(0, .ref 37), (1, .ref 1), (2, .int (nI p)), (3, .int ta), (4, .int (nI 61))] [] (zsh ++ vs, m, ml, (zmr g)) (fun r w' => r = some (.int (lostN sm an N n dd p)) ∧ ∃ m, w' = (zsh ++ vs, m, ml, zmr g) ∧ frB 38 mi m)) : ∀ (k j : Nat) (m : Nat → Nat → Int32) , j + k = 61 → (frB 38 mi m ∧ BR m 38 (g 38 3) nv (daysN sm an N n dd j) n (dd + j) ∧ lostN sm an N n dd p = lostR (lostF sm an N n dd p) (61 - j) j) → Wp E 5 pg_Foresight_lost 31 [(0, .ref 37), (1, .ref 1), (2, .int (nI p)), (3, .int ta), (4, .int (nI j))] [] (zsh ++ vs, m, ml, (zmr g)) (fun r w' => r = some (.int (lostN sm an N n dd p)) ∧ ∃ m, w' = (zsh ++ vs, m, ml, zmr g) ∧ frB 38 mi m) := by
  intro k
  induction k with
  | zero =>
    intro j m  hj9 hI
    obtain rfl : 61 = j := by omega
    refine Wp.run 2 (35, [(0, .ref 37), (1, .ref 1), (2, .int (nI p)), (3, .int ta), (4, .int (nI 61))], [.int 60, .int (nI 61)], (zsh ++ vs, m, ml, (zmr g))) rfl ?_
    refine Wp.icmp_gt rfl (fun h1 => ?_) (fun h1 => ?_)
    · exact K m  hI
    · exact absurd (by decide) h1
  | succ k ih =>
    intro j m  hj9 hI
    have hlt9 : j < 61 := by omega
    refine Wp.run 2 (35, [(0, .ref 37), (1, .ref 1), (2, .int (nI p)), (3, .int ta), (4, .int (nI j))], [.int 60, .int (nI j)], (zsh ++ vs, m, ml, (zmr g))) rfl ?_
    refine Wp.icmp_gt rfl (fun h1 => ?_) (fun h1 => ?_)
    · exact absurd h1 (nI_nlt (a := 60) (by omega) (by omega))
    · refine Wp.run 2 (42, [(0, .ref 37), (1, .ref 1), (2, .int (nI p)), (3, .int ta), (4, .int (nI j))], [.ref 38], (zsh ++ vs, m, ml, (zmr g))) rfl ?_
      refine Wp.call (as := [.ref 38]) (rest := []) rfl rfl rfl rfl rfl (Nat.le_of_ble_eq_true rfl) (Nat.le_of_ble_eq_true rfl) rfl (by decide) (c_kept_38 hI.2.1.2.1 hI.2.1.1.2.1) ?_
      rintro _ _ ⟨rfl, rfl⟩
      rw [hI.2.1.kept]
      refine Wp.run 1 (46, [(0, .ref 37), (1, .ref 1), (2, .int (nI p)), (3, .int ta), (4, .int (nI j))], [.int (nI p), .int (keptN (daysN sm an N n dd j) n)], (zsh ++ vs, m, ml, (zmr g))) rfl ?_
      refine Wp.call (as := [.int (keptN (daysN sm an N n dd j) n), .int (nI p)]) (rest := []) rfl rfl rfl rfl rfl (Nat.le_of_ble_eq_true rfl) (Nat.le_of_ble_eq_true rfl) rfl (by decide) (c_bit (keptN (daysN sm an N n dd j) n) (nI p)) ?_
      rintro _ _ ⟨rfl, rfl⟩
      refine Wp.run 0 (49, [(0, .ref 37), (1, .ref 1), (2, .int (nI p)), (3, .int ta), (4, .int (nI j))], [.int ((keptN (daysN sm an N n dd j) n) >>> ((nI p) &&& 31) &&& 1)], (zsh ++ vs, m, ml, (zmr g))) rfl ?_
      refine Wp.if_ne rfl (fun h2 => ?_) (fun h2 => ?_)
      · refine Wp.run 3 (61, [(0, .ref 37), (1, .ref 1), (2, .int (nI p)), (3, .int ta), (4, .int (nI j))], [.int 1000000, .ref 38], (zsh ++ vs, m, ml, (zmr g))) rfl ?_
        refine Wp.call (as := [.ref 38, .int 1000000]) (rest := []) rfl rfl rfl rfl rfl (Nat.le_of_ble_eq_true rfl) (Nat.le_of_ble_eq_true rfl) rfl (by decide) (c_day_38 (mi := m) (M := 1000000) C V hg0 (fun b hb => by rw [hI.1 b (by omega)]; exact hX b hb) hI.2.1 (by omega) (by omega) (by decide)) ?_
        rintro _ _ ⟨rfl, m', rfl, hk, hB⟩
        refine Wp.run 2 (31, [(4, .int ((nI j) + 1)), (0, .ref 37), (1, .ref 1), (2, .int (nI p)), (3, .int ta)], [], (zsh ++ vs, m', ml, (zmr g))) rfl ?_
        rw [nI_1]
        refine Wp.sub (a := [(0, .ref 37), (1, .ref 1), (2, .int (nI p)), (3, .int ta), (4, .int (nI (j + 1)))]) (zle_cons rfl (zle_cons rfl (zle_cons rfl (zle_cons rfl (zle_cons rfl (zle_nil)))))) ?_
        exact ih (j + 1) _ (by omega) ⟨hI.1.tr hk, hB, by rw [hI.2.2, show 61 - j = (61 - (j + 1)) + 1 by omega]; exact lostR_ne h2⟩
      · refine Wp.run 1 (54, [(0, .ref 37), (1, .ref 1), (2, .int (nI p)), (3, .int ta), (4, .int (nI j))], [.int (nI j)], (zsh ++ vs, m, ml, (zmr g))) rfl ?_
        refine Wp.ret rfl rfl rfl ?_
        refine ⟨?_, m, rfl, hI.1⟩
        rw [hI.2.2, show 61 - j = (61 - (j + 1)) + 1 by omega, lostR_eq (Classical.not_not.mp (fun q => absurd h2 q))]
theorem ne_m1 {i : Nat} (h : i < 2147483648) : ¬ nI i = -1 := by
  intro q
  have := congrArg Int32.toInt q
  rw [nI_toInt h] at this
  have h2 : (-1 : Int32).toInt = -1 := by decide
  omega
theorem c_lost {E : zEn} {vs : List (Nat × Nat)} {mi : Nat → Nat → Int32} {ml : Nat → Nat → Int64} {g : Nat → Nat → Option Nat} {g0 : Nat → Nat → Option Nat} {X : Nat → Nat → Int32} {nv : Nat} {wg : Nat → (Nat → Int32) → Int32} {sm : Int32 → (Nat → Int32) → Int32} {an : Int32 → Int32} (C : CWs E vs g0 X (vvN nv) wg) (V : vSem nv X wg sm an) (hg0 : ∀ b, 86 ≤ b → g b = g0 b) (hX : ∀ b, 86 ≤ b → mi b = X b) (hnv : nv ≤ 6) {N : Nat → Int32} {n dd : Nat} (B : BR mi 1 (g 1 3) nv N n dd) {p : Nat} (hp : p < 8) (hdd : dd + 61 < 100000) : Wp E 5 pg_Foresight_lost 0 (lv_args 0 [.ref 37, .ref 1, .int (nI p), .int (-1)]) [] (zsh ++ vs, mi, ml, (zmr g)) (fun r w' => r = some (.int (lostN sm an N n dd p)) ∧ ∃ m, w' = (zsh ++ vs, m, ml, zmr (zup g 38 3 (g 1 3))) ∧ frB 38 mi m) := by
  refine Wp.run 3 (5, [(0, .ref 37), (1, .ref 1), (2, .int (nI p)), (3, .int (-1))], [.ref 1, .ref 38], (zsh ++ vs, mi, ml, (zmr g))) rfl ?_
  refine Wp.call (as := [.ref 38, .ref 1]) (rest := []) rfl rfl rfl rfl rfl (Nat.le_of_ble_eq_true rfl) (Nat.le_of_ble_eq_true rfl) rfl (by decide) (c_become_38_1 (B.2.2.2.2.2.2.lt hnv)) ?_
  rintro _ _ ⟨rfl, m0, rfl, b1, b2, b3, b4, b5, b6⟩
  have B0 : BR m0 38 (g 1 3) nv N n dd := BR_copy B b2 b4 b5 b6
  have hG : ∀ b, 86 ≤ b → (zup g 38 3 (g 1 3)) b = g0 b := fun b hb => by rw [zup_ne (by omega)]; exact hg0 b hb
  have hX0 : ∀ b, 86 ≤ b → m0 b = X b := fun b hb => by rw [b1 b (by omega)]; exact hX b hb
  refine Wp.run 5 (31, [(4, .int 0), (0, .ref 37), (1, .ref 1), (2, .int (nI p)), (3, .int (-1))], [], (zsh ++ vs, m0, ml, (zmr (zup g 38 3 (g 1 3))))) rfl ?_
  
  obtain ⟨m1, hm1⟩ : ∃ m1, m1 = m0 := ⟨_, rfl⟩
  rw [← hm1]
  have f1 : frB 38 mi m1 := by
    intro b hb
    rw [hm1]
    exact b1 b (by omega)
  have B1 : BR m1 38 (g 1 3) nv N n dd := by rw [hm1]; exact B0
  have K : ∀ (m : Nat → Nat → Int32), (frB 38 m1 m ∧ BR m 38 ((zup g 38 3 (g 1 3)) 38 3) nv (daysN sm an N n dd 61) n (dd + 61) ∧ lostN sm an N n dd p = lostR (lostF sm an N n dd p) (61 - 61) 61) → Wp E 5 pg_Foresight_lost 70 [(0, .ref 37), (1, .ref 1), (2, .int (nI p)), (3, .int (-1)), (4, .int (nI 61))] [] (zsh ++ vs, m, ml, zmr (zup g 38 3 (g 1 3))) (fun r w' => r = some (.int (lostN sm an N n dd p)) ∧ ∃ m, w' = (zsh ++ vs, m, ml, zmr (zup g 38 3 (g 1 3))) ∧ frB 38 m1 m) := by
    intro m hI
    refine Wp.run 1 (72, [(0, .ref 37), (1, .ref 1), (2, .int (nI p)), (3, .int (-1)), (4, .int (nI 61))], [.int (-5)], (zsh ++ vs, m, ml, (zmr (zup g 38 3 (g 1 3))))) rfl ?_
    refine Wp.ret rfl rfl rfl ?_
    exact ⟨by rw [hI.2.2]; rfl, m, rfl, hI.1⟩
  refine Wp.sub (a := [(0, .ref 37), (1, .ref 1), (2, .int (nI p)), (3, .int (-1)), (4, .int (nI 0))]) (zle_cons rfl (zle_cons rfl (zle_cons rfl (zle_cons rfl (zle_cons rfl (zle_nil)))))) ?_
  refine Wp.weak (c_lost_l (mi := m1) (g := (zup g 38 3 (g 1 3))) (N := N) (-1) C V hG (fun b hb => by rw [f1 b (by omega)]; exact hX b hb) hp hdd (by decide) K 61 0 m1 (by omega) ⟨fun _ _ => rfl, B1, rfl⟩) ?_
  rintro r w' ⟨rfl, m, rfl, hk⟩
  exact ⟨rfl, m, rfl, f1.tr hk⟩
theorem c_lostT {E : zEn} {vs : List (Nat × Nat)} {mi : Nat → Nat → Int32} {ml : Nat → Nat → Int64} {g : Nat → Nat → Option Nat} {g0 : Nat → Nat → Option Nat} {X : Nat → Nat → Int32} {nv : Nat} {wg : Nat → (Nat → Int32) → Int32} {sm : Int32 → (Nat → Int32) → Int32} {an : Int32 → Int32} (C : CWs E vs g0 X (vvN nv) wg) (V : vSem nv X wg sm an) (hg0 : ∀ b, 86 ≤ b → g b = g0 b) (hX : ∀ b, 86 ≤ b → mi b = X b) (hnv : nv ≤ 6) {N : Nat → Int32} {n dd : Nat} (B : BR mi 1 (g 1 3) nv N n dd) {p : Nat} (hp : p < 8) (hdd : dd + 61 < 100000) {i : Nat} (hi : i < n) : Wp E 5 pg_Foresight_lost 0 (lv_args 0 [.ref 37, .ref 1, .int (nI p), .int (nI i)]) [] (zsh ++ vs, mi, ml, (zmr g)) (fun r w' => r = some (.int (lostN sm an (upd N (8 + 10 * i + 2) (uN N i 2 ||| (1 : Int32) <<< (nI p &&& 31))) n dd p)) ∧ ∃ m, w' = (zsh ++ vs, m, ml, zmr (zup g 38 3 (g 1 3))) ∧ frB 38 mi m) := by
  have h6 := B.1.2.1
  refine Wp.run 3 (5, [(0, .ref 37), (1, .ref 1), (2, .int (nI p)), (3, .int (nI i))], [.ref 1, .ref 38], (zsh ++ vs, mi, ml, (zmr g))) rfl ?_
  refine Wp.call (as := [.ref 38, .ref 1]) (rest := []) rfl rfl rfl rfl rfl (Nat.le_of_ble_eq_true rfl) (Nat.le_of_ble_eq_true rfl) rfl (by decide) (c_become_38_1 (B.2.2.2.2.2.2.lt hnv)) ?_
  rintro _ _ ⟨rfl, m0, rfl, b1, b2, b3, b4, b5, b6⟩
  have B0 : BR m0 38 (g 1 3) nv N n dd := BR_copy B b2 b4 b5 b6
  have hG : ∀ b, 86 ≤ b → (zup g 38 3 (g 1 3)) b = g0 b := fun b hb => by rw [zup_ne (by omega)]; exact hg0 b hb
  have hX0 : ∀ b, 86 ≤ b → m0 b = X b := fun b hb => by rw [b1 b (by omega)]; exact hX b hb
  refine Wp.run 2 (10, [(0, .ref 37), (1, .ref 1), (2, .int (nI p)), (3, .int (nI i))], [.int (-1), .int (nI i)], (zsh ++ vs, m0, ml, (zmr (zup g 38 3 (g 1 3))))) rfl ?_
  refine Wp.icmp_eq rfl (fun h1 => ?_) (fun h1 => ?_)
  · exact absurd h1 (ne_m1 (by omega))
  · refine Wp.run 5 (22, [(0, .ref 37), (1, .ref 1), (2, .int (nI p)), (3, .int (nI i))], [.int (nI i), .ref 42, .int (nI i), .ref 42], (zsh ++ vs, m0, ml, (zmr (zup g 38 3 (g 1 3))))) rfl ?_
    refine Wp.ialn rfl (by decide) rfl (by omega) (by decide) ?_
    refine Wp.run 4 (27, [(0, .ref 37), (1, .ref 1), (2, .int (nI p)), (3, .int (nI i))], [.int ((m0 42 i) ||| ((1 : Int32) <<< ((nI p) &&& 31))), .int (nI i), .ref 42], (zsh ++ vs, m0, ml, (zmr (zup g 38 3 (g 1 3))))) rfl ?_
    refine Wp.iasn rfl (by decide) rfl (by omega) (by decide) ?_
    refine Wp.run 2 (31, [(4, .int 0), (0, .ref 37), (1, .ref 1), (2, .int (nI p)), (3, .int (nI i))], [], (zsh ++ vs, (zup m0 42 i ((m0 42 i) ||| ((1 : Int32) <<< ((nI p) &&& 31)))), ml, (zmr (zup g 38 3 (g 1 3))))) rfl ?_
    rw [show uN N i 2 = m0 42 i from (B0.held hi).symm]
    have hq : ∃ q, q < 256 ∧ m0 42 i ||| (1 : Int32) <<< (nI p &&& 31) = nI q := by
      obtain ⟨q, hq, eq⟩ := (B.1.2.2.2.2 i hi).2.2.1
      rw [show m0 42 i = uN N i 2 from B0.held hi, eq]
      exact or_bit p hp q hq
    obtain ⟨m1, hm1⟩ : ∃ m1, m1 = (zup m0 42 i ((m0 42 i) ||| ((1 : Int32) <<< ((nI p) &&& 31)))) := ⟨_, rfl⟩
    rw [← hm1]
    have f1 : frB 38 mi m1 := by
      intro b hb
      rw [hm1]
      rw [zup_ne (by omega)]; exact b1 b (by omega)
    have B1 : BR m1 38 (g 1 3) nv (upd N (8 + 10 * i + 2) (m0 42 i ||| (1 : Int32) <<< (nI p &&& 31))) n dd := by rw [hm1]; exact BR_set B0 hi (Or.inr (Or.inl ⟨rfl, hq⟩))
    have K : ∀ (m : Nat → Nat → Int32), (frB 38 m1 m ∧ BR m 38 ((zup g 38 3 (g 1 3)) 38 3) nv (daysN sm an (upd N (8 + 10 * i + 2) (m0 42 i ||| (1 : Int32) <<< (nI p &&& 31))) n dd 61) n (dd + 61) ∧ lostN sm an (upd N (8 + 10 * i + 2) (m0 42 i ||| (1 : Int32) <<< (nI p &&& 31))) n dd p = lostR (lostF sm an (upd N (8 + 10 * i + 2) (m0 42 i ||| (1 : Int32) <<< (nI p &&& 31))) n dd p) (61 - 61) 61) → Wp E 5 pg_Foresight_lost 70 [(0, .ref 37), (1, .ref 1), (2, .int (nI p)), (3, .int (nI i)), (4, .int (nI 61))] [] (zsh ++ vs, m, ml, zmr (zup g 38 3 (g 1 3))) (fun r w' => r = some (.int (lostN sm an (upd N (8 + 10 * i + 2) (m0 42 i ||| (1 : Int32) <<< (nI p &&& 31))) n dd p)) ∧ ∃ m, w' = (zsh ++ vs, m, ml, zmr (zup g 38 3 (g 1 3))) ∧ frB 38 m1 m) := by
      intro m hI
      refine Wp.run 1 (72, [(0, .ref 37), (1, .ref 1), (2, .int (nI p)), (3, .int (nI i)), (4, .int (nI 61))], [.int (-5)], (zsh ++ vs, m, ml, (zmr (zup g 38 3 (g 1 3))))) rfl ?_
      refine Wp.ret rfl rfl rfl ?_
      exact ⟨by rw [hI.2.2]; rfl, m, rfl, hI.1⟩
    refine Wp.sub (a := [(0, .ref 37), (1, .ref 1), (2, .int (nI p)), (3, .int (nI i)), (4, .int (nI 0))]) (zle_cons rfl (zle_cons rfl (zle_cons rfl (zle_cons rfl (zle_cons rfl (zle_nil)))))) ?_
    refine Wp.weak (c_lost_l (mi := m1) (g := (zup g 38 3 (g 1 3))) (N := (upd N (8 + 10 * i + 2) (m0 42 i ||| (1 : Int32) <<< (nI p &&& 31)))) (nI i) C V hG (fun b hb => by rw [f1 b (by omega)]; exact hX b hb) hp hdd (by decide) K 61 0 m1 (by omega) ⟨fun _ _ => rfl, B1, rfl⟩) ?_
    rintro r w' ⟨rfl, m, rfl, hk⟩
    exact ⟨rfl, m, rfl, f1.tr hk⟩
