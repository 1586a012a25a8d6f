/-! WHAT A CALL CHANGES, on both sides -/
section TOP
variable {E : zEn} {d : Nat} {cd : List zI} {pc : Nat} {lv : zLv} {rs : List Value} {w : zW} {P : Option Value → zW → Prop}
theorem Wp.topi {x y : Int32} (e : x = y) (h : Wp E d cd pc lv (.int y :: rs) w P) : Wp E d cd pc lv (.int x :: rs) w P := by
  rw [e]
  exact h
theorem Wp.topl {x y : Int64} (e : x = y) (h : Wp E d cd pc lv (.long y :: rs) w P) : Wp E d cd pc lv (.long x :: rs) w P := by
  rw [e]
  exact h
theorem Wp.mi {x y : Nat → Nat → Int32} {sh : List (Nat × Nat)} {ml : Nat → Nat → Int64} {mr : Nat → Nat → Option Nat} {st : List Value} (e : x = y) (h : Wp E d cd pc lv st (sh, y, ml, mr) P) : Wp E d cd pc lv st (sh, x, ml, mr) P := by
  rw [e]
  exact h
end TOP
theorem SIM.u {E : zEn} {vs : List (Nat × Nat)} {mi m1 m2 : Nat → Nat → Int32} {ml l1 l2 : Nat → Nat → Int64} {g : Nat → Nat → Option Nat} {pc pm : List zI} {as : List Value} {x : Int32} {dc dm : Nat} (hc : dc ≤ 30) (hm : dm ≤ 30)
    (h1 : Wp E dc pc 0 (lv_args 0 (.ref 0 :: as)) [] (zsh ++ vs, mi, ml, zmr g) (fun r w' => r = some (.int x) ∧ w' = (zsh ++ vs, m1, l1, zmr g)))
    (h2 : Wp E dm pm 0 (lv_args 0 (.ref 66 :: as)) [] (zsh ++ vs, m1, l1, zmr g) (fun r w' => r = some (.int x) ∧ w' = (zsh ++ vs, m2, l2, zmr g)))
    (h3 : INVx (zsh ++ vs, m2, l2, zmr g)) : SIM E vs mi ml g pc pm as := by
  refine (h1.deep hc).weak ?_
  rintro _ _ ⟨rfl, rfl⟩
  refine ⟨⟨_, _, _, _, rfl⟩, x, rfl, ?_⟩
  refine (h2.deep hm).weak ?_
  rintro _ _ ⟨rfl, rfl⟩
  exact ⟨rfl, h3⟩
section UP
variable {nv : Nat} {VD : Nat → zV} {NL : Nat → Nat} {n dd : Nat} {vs : List (Nat × Nat)} {mi m : Nat → Nat → Int32} {ml : Nat → Nat → Int64} {g : Nat → Nat → Option Nat}
theorem INV.x (I : INV nv VD NL n dd vs mi ml g) : INVx (zsh ++ vs, mi, ml, zmr g) := ⟨nv, VD, NL, n, dd, vs, mi, ml, g, rfl, I⟩
theorem INV.up {n' dd' : Nat} (I : INV nv VD NL n dd vs mi ml g) (h : ∀ b, ¬ (1 ≤ b ∧ b ≤ 8) → ¬ (21 ≤ b ∧ b ≤ 28) → ¬ b = 67 → m b = mi b) (B : BR m 1 (g 1 3) nv (m 67) n' dd') (hd : dd' ≤ 9999) (s : SEr m 21 (m 67) n') (p : PLr m 21 (m 67) n') (k : BKr m 21 (m 67)) : INV nv VD NL n' dd' vs m ml g := by
  obtain ⟨-, -, i6, i7, i8, i9, i10, i11⟩ := I
  refine ⟨⟨B, hd⟩, ⟨s, p, k⟩, ?_, ?_, ?_, ?_, ?_, ?_⟩
  · exact i6.fr (by rw [h 0 (by omega) (by omega) (by omega)]) (by rw [h 66 (by omega) (by omega) (by omega)]) (fun b hb => h b (by omega) (by omega) (by omega)) rfl
  · exact i7.fr (by rw [h 48 (by omega) (by omega) (by omega)]) (by rw [h 66 (by omega) (by omega) (by omega)]) (h _ (by omega) (by omega) (by omega)) (h _ (by omega) (by omega) (by omega))
  · exact i8.fr (by rw [h 0 (by omega) (by omega) (by omega)]) (by rw [h 66 (by omega) (by omega) (by omega)]) (h _ (by omega) (by omega) (by omega)) (h _ (by omega) (by omega) (by omega)) (fun b hb => h b (by omega) (by omega) (by omega)) (fun _ _ => rfl)
  · exact i9.fr (by rw [h 51 (by omega) (by omega) (by omega)]) (by rw [h 66 (by omega) (by omega) (by omega)]) (h _ (by omega) (by omega) (by omega)) (h _ (by omega) (by omega) (by omega))
  · exact i10.fr (fun b p q => h b (by omega) (by omega) (by omega)) (h _ (by omega) (by omega) (by omega)) (h _ (by omega) (by omega) (by omega)) (fun _ _ => rfl)
  · exact i11.fr (fun b hb => h b (by omega) (by omega) (by omega))
/-- only the band and the row's first 70 numbers -/
theorem INV.upB {n' dd' : Nat} (I : INV nv VD NL n dd vs mi ml g) (h : ∀ b, ¬ (1 ≤ b ∧ b ≤ 8) → ¬ b = 67 → m b = mi b) (hN : ∀ i, 71 ≤ i → m 67 i = mi 67 i) (B : BR m 1 (g 1 3) nv (m 67) n' dd') (hd : dd' ≤ 9999) (hn : n ≤ n') : INV nv VD NL n' dd' vs m ml g := by
  refine I.up (fun b p _ q => h b p q) B hd ?_ ?_ ?_
  · exact I.2.1.1.fr (by rw [h 21 (by omega) (by omega)]) (h _ (by omega) (by omega)) (h _ (by omega) (by omega)) (h _ (by omega) (by omega)) (fun i p _ => hN i p) hn
  · exact I.2.1.2.1.fr (by rw [h 21 (by omega) (by omega)]) (h _ (by omega) (by omega)) (h _ (by omega) (by omega)) (fun i p _ => hN i (by omega)) hn
  · exact I.2.1.2.2.fr (by rw [h 21 (by omega) (by omega)]) (h _ (by omega) (by omega)) (h _ (by omega) (by omega)) (fun i p _ => hN i (by omega))
theorem upd_ne {f : Nat → Int32} {i j : Nat} {v : Int32} (h : ¬ i = j) : upd f j v i = f i := by simp only [upd, if_neg h]
theorem upd_at {f : Nat → Int32} {j : Nat} {v : Int32} : upd f j v j = v := by simp only [upd, if_true]
theorem INV.setf {i f : Nat} {v : Int32} (I : INV nv VD NL n dd vs mi ml g) (hi : i < n) (hf : (f = 1 ∧ ∃ q, q ≤ 9 ∧ v = nI q) ∨ (f = 2 ∧ ∃ q, q < 256 ∧ v = nI q) ∨ (f = 3 ∧ ∃ q, q ≤ 99 ∧ v = nI q)) : INV nv VD NL n dd vs (zup (zup mi (1 + 2 + f) i v) 67 (8 + 10 * i + f) v) ml g := by
  have h6 := I.1.1.1.2.1
  have e67 : zup (zup mi (1 + 2 + f) i v) 67 (8 + 10 * i + f) v 67 = upd (mi 67) (8 + 10 * i + f) v := by rw [zup_eq, zup_ne (by omega)]
  refine I.upB (fun b p q => by rw [zup_ne q, zup_ne (by omega)]) (fun j hj => by rw [e67, upd_ne (by omega)]) ?_ I.1.2 (Nat.le_refl _)
  rw [e67]
  exact BR_fr (BR_set I.1.1 hi hf) (fun b p q => zup_ne (by omega))
end UP
/-! those who are away -/
theorem bt_or1 (x : Int32) {i k : Nat} (hi : i < 32) (hk : k < 32) : bt (x ||| (1 : Int32) <<< (nI i &&& 31)) k = (bt x k || decide (k = i)) := by rw [b_or, bt_one i hi k hk]
theorem bt_an1 (x : Int32) {i k : Nat} (hi : i < 32) (hk : k < 32) : bt (x &&& ((1 : Int32) <<< (nI i &&& 31) ^^^ -1)) k = (bt x k && !decide (k = i)) := by rw [b_and, bt_not _ hk, bt_one i hi k hk]
section AW
variable {mi : Nat → Nat → Int32} {a nv : Nat} {h : Option Nat} {N : Nat → Int32} {n dd i : Nat}
theorem BR_aw {X v : Int32} (B : BR mi a h nv N n dd) (hi : i < n) (hv : ∃ q, q ≤ 1 ∧ v = nI q) (hX : ∀ k, k < 32 → ¬ k = i → bt X k = bt (mi a 2) k) (hXi : X >>> (nI i &&& 31) &&& 1 = v) : BR (zup mi a 2 X) a h nv (upd N (8 + 10 * i + 4) v) n dd := by
  obtain ⟨b1, b2, b3, b4, b5, b6, b7⟩ := B
  have h6 := b1.2.1
  have eb : ∀ b, ¬ b = a → zup mi a 2 X b = mi b := fun b hb => zup_ne hb
  refine ⟨rOK_set b1 hi (Or.inr (Or.inr (Or.inr ⟨rfl, hv⟩))), ?_, ?_, fun p hp => ?_, fun k hk f hf => ?_, fun k p q => ?_, ?_⟩
  · show zup mi a 2 X a 0 = _
    simp only [zup, if_true, if_neg (show ¬ 0 = 2 by decide)]; exact b2
  · show zup mi a 2 X a 1 = _
    simp only [zup, if_true, if_neg (show ¬ 1 = 2 by decide)]; exact b3
  · rw [eb _ (by omega), upd_ne (by omega)]; exact b4 p hp
  · by_cases h4 : f = 4
    · subst h4
      show zup mi a 2 X a 2 >>> (nI k &&& 31) &&& 1 = _
      rw [show zup mi a 2 X a 2 = X by simp only [zup, if_true]]
      by_cases hki : k = i
      · subst hki
        rw [hXi]
        show _ = upd N (8 + 10 * k + 4) v (8 + 10 * k + 4)
        rw [upd_at]
      · rw [show uN (upd N (8 + 10 * i + 4) v) k 4 = uN N k 4 from upd_ne (by omega), ← b5 k hk 4 (by decide)]
        show _ = mi a 2 >>> (nI k &&& 31) &&& 1
        rw [bit1 _ (by omega), bit1 _ (by omega), hX k (by omega) hki]
    · rw [show uN (upd N (8 + 10 * i + 4) v) k f = uN N k f from upd_ne (by omega), ← b5 k hk f hf]
      unfold uB
      rw [eb (a + 2) (by omega), eb (a + 3) (by omega), eb (a + 4) (by omega), eb (a + 5) (by omega), eb (a + 6) (by omega), eb (a + 7) (by omega), if_neg h4, if_neg h4]
  · rw [show zup mi a 2 X a 2 = X by simp only [zup, if_true], hX k q (by omega)]
    exact b6 k p q
  · rw [upd_ne (by omega)]; exact b7
theorem BR_aw1 (B : BR mi a h nv N n dd) (hi : i < n) : BR (zup mi a 2 (mi a 2 ||| (1 : Int32) <<< (nI i &&& 31))) a h nv (upd N (8 + 10 * i + 4) 1) n dd := by
  have h6 := B.1.2.1
  refine BR_aw B hi ⟨1, Nat.le_refl _, rfl⟩ (fun k hk hki => ?_) ?_
  · rw [bt_or1 _ (by omega) hk, decide_eq_false hki, Bool.or_false]
  · rw [bit1_one _ (by omega), bt_or1 _ (by omega) (by omega), decide_eq_true rfl, Bool.or_true]
theorem BR_aw0 (B : BR mi a h nv N n dd) (hi : i < n) : BR (zup mi a 2 (mi a 2 &&& ((1 : Int32) <<< (nI i &&& 31) ^^^ -1))) a h nv (upd N (8 + 10 * i + 4) 0) n dd := by
  have h6 := B.1.2.1
  refine BR_aw B hi ⟨0, Nat.zero_le _, rfl⟩ (fun k hk hki => ?_) ?_
  · rw [bt_an1 _ (by omega) hk, decide_eq_false hki, Bool.not_false, Bool.and_true]
  · rw [bit1_zero _ (by omega), bt_an1 _ (by omega) (by omega), decide_eq_true rfl, Bool.not_true, Bool.and_false]
/-- sacks, rows -/
theorem BR_sack {p : Nat} {v : Int32} (B : BR mi a h nv N n dd) (hp : p < 8) (hv : ∃ q, q ≤ 99 ∧ v = nI q) : BR (zup mi (a + 1) p v) a h nv (upd N p v) n dd := by
  obtain ⟨⟨r1, r2, r3, r4, r5⟩, b2, b3, b4, b5, b6, b7⟩ := B
  have eu : ∀ k, k < n → ∀ f, f < 10 → uN (upd N p v) k f = uN N k f := fun k hk f hf => upd_ne (by omega)
  refine ⟨⟨by rw [upd_ne (by omega)]; exact r1, r2, by rw [upd_ne (by omega)]; exact r3, fun q hq => ?_, fun k hk => ?_⟩, by rw [zup_ne (by omega)]; exact b2, by rw [zup_ne (by omega)]; exact b3, fun q hq => ?_, fun k hk f hf => ?_, fun k p q => by rw [zup_ne (by omega)]; exact b6 k p q, by rw [upd_ne (by omega)]; exact b7⟩
  · by_cases hqp : q = p
    · subst hqp; rw [upd_at]; exact hv
    · rw [upd_ne hqp]; exact r4 q hq
  · obtain ⟨a0, a1, a2, a3, a4, a5, a6⟩ := r5 k hk
    exact ⟨by rw [eu k hk 0 (by decide)]; exact a0, by rw [eu k hk 1 (by decide)]; exact a1, by rw [eu k hk 2 (by decide)]; exact a2, by rw [eu k hk 3 (by decide)]; exact a3, by rw [eu k hk 4 (by decide)]; exact a4, by rw [eu k hk 5 (by decide)]; exact a5, fun d hd => by rw [eu k hk (6 + d) (by omega)]; exact a6 d hd⟩
  · by_cases hqp : q = p
    · subst hqp; rw [upd_at]; simp only [zup, if_true]
    · rw [upd_ne hqp]; simp only [zup, if_true, if_neg hqp]; exact b4 q hq
  · rw [eu k hk f hf, ← b5 k hk f hf]
    unfold uB awB
    rw [zup_ne (show ¬ a = a + 1 by omega), zup_ne (show ¬ a + 2 = a + 1 by omega), zup_ne (show ¬ a + 3 = a + 1 by omega), zup_ne (show ¬ a + 4 = a + 1 by omega), zup_ne (show ¬ a + 5 = a + 1 by omega), zup_ne (show ¬ a + 6 = a + 1 by omega), zup_ne (show ¬ a + 7 = a + 1 by omega)]
theorem BR_row4 {d : Nat} {v : Int32} (B : BR mi a h nv N n dd) (hi : i < n) (hd : d < 4) (hv : ∃ q, q ≤ 9 ∧ v = nI q) : BR (zup mi (a + 7) (4 * i + d) v) a h nv (upd N (8 + 10 * i + (6 + d)) v) n dd := by
  obtain ⟨⟨r1, r2, r3, r4, r5⟩, b2, b3, b4, b5, b6, b7⟩ := B
  have eu : ∀ k, k < n → ∀ f, f < 6 → uN (upd N (8 + 10 * i + (6 + d)) v) k f = uN N k f := fun k hk f hf => upd_ne (by omega)
  refine ⟨⟨by rw [upd_ne (by omega)]; exact r1, r2, by rw [upd_ne (by omega)]; exact r3, fun q hq => by rw [upd_ne (by omega)]; exact r4 q hq, fun k hk => ?_⟩, by rw [zup_ne (by omega)]; exact b2, by rw [zup_ne (by omega)]; exact b3, fun q hq => by rw [zup_ne (by omega), upd_ne (by omega)]; exact b4 q hq, fun k hk f hf => ?_, fun k p q => by rw [zup_ne (by omega)]; exact b6 k p q, by rw [upd_ne (by omega)]; exact b7⟩
  · obtain ⟨a0, a1, a2, a3, a4, a5, a6⟩ := r5 k hk
    refine ⟨by rw [eu k hk 0 (by decide)]; exact a0, by rw [eu k hk 1 (by decide)]; exact a1, by rw [eu k hk 2 (by decide)]; exact a2, by rw [eu k hk 3 (by decide)]; exact a3, by rw [eu k hk 4 (by decide)]; exact a4, by rw [eu k hk 5 (by decide)]; exact a5, fun e he => ?_⟩
    by_cases hh : k = i ∧ e = d
    · obtain ⟨rfl, rfl⟩ := hh
      show ∃ q, q ≤ 9 ∧ upd N (8 + 10 * k + (6 + e)) v (8 + 10 * k + (6 + e)) = nI q
      rw [upd_at]; exact hv
    · show ∃ q, q ≤ 9 ∧ upd N (8 + 10 * i + (6 + d)) v (8 + 10 * k + (6 + e)) = nI q
      rw [upd_ne (by omega)]; exact a6 e he
  · rcases (show f < 6 ∨ ∃ e, e < 4 ∧ f = 6 + e from by
      rcases Nat.lt_or_ge f 6 with q | q
      · exact Or.inl q
      · exact Or.inr ⟨f - 6, by omega, by omega⟩) with q | ⟨e, he, rfl⟩
    · rw [eu k hk f q, ← b5 k hk f hf]
      have z0 : zup mi (a + 7) (4 * i + d) v a = mi a := zup_ne (by omega)
      have z2 : zup mi (a + 7) (4 * i + d) v (a + 2) = mi (a + 2) := zup_ne (by omega)
      have z3 : zup mi (a + 7) (4 * i + d) v (a + 3) = mi (a + 3) := zup_ne (by omega)
      have z4 : zup mi (a + 7) (4 * i + d) v (a + 4) = mi (a + 4) := zup_ne (by omega)
      have z5 : zup mi (a + 7) (4 * i + d) v (a + 5) = mi (a + 5) := zup_ne (by omega)
      have z6 : zup mi (a + 7) (4 * i + d) v (a + 6) = mi (a + 6) := zup_ne (by omega)
      unfold uB awB
      rw [z0, z2, z3, z4, z5, z6]
      rcases (show f = 0 ∨ f = 1 ∨ f = 2 ∨ f = 3 ∨ f = 4 ∨ f = 5 by omega) with rfl | rfl | rfl | rfl | rfl | rfl <;> rfl
    · rw [uB_row]
      by_cases hh : k = i ∧ e = d
      · obtain ⟨rfl, rfl⟩ := hh
        show _ = upd N (8 + 10 * k + (6 + e)) v (8 + 10 * k + (6 + e))
        rw [upd_at]
        simp only [zup, if_true]
      · show _ = upd N (8 + 10 * i + (6 + d)) v (8 + 10 * k + (6 + e))
        rw [upd_ne (by omega), show N (8 + 10 * k + (6 + e)) = uN N k (6 + e) from rfl, ← b5 k hk (6 + e) hf, uB_row]
        simp only [zup, if_true, if_neg (show ¬ 4 * k + e = 4 * i + d by omega)]
end AW
