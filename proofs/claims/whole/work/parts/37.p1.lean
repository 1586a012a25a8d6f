/-! THE CLASS'S READER. The text's cells: 48 (0 length, 1 at, 4 steps, 5 anew), 49 the bytes, 50 the program -/
def tOK (T : Nat → Int32) (n : Nat) : Prop := n ≤ 100 ∧ ∀ k, k < n → ∃ q, q ≤ 127 ∧ T k = nI q
def TS (T : Nat → Int32) (mi m : Nat → Nat → Int32) (a : Int32) (n p : Nat) (l : List Int32) : Prop :=
  (∀ b, ¬ b = 48 → ¬ b = 50 → m b = mi b) ∧ m 48 0 = nI n ∧ m 48 1 = nI p ∧ m 48 4 = nI l.length ∧ m 48 5 = a ∧ (∀ k, k < l.length → m 50 k = l.getD k 0) ∧ ∀ k, k < n → m 49 k = T k
section TSL
variable {T : Nat → Int32} {mi m : Nat → Nat → Int32} {a : Int32} {n p : Nat} {l : List Int32}
theorem TS.adv (H : TS T mi m a n p l) : TS T mi (zup m 48 1 (m 48 1 + 1)) a n (p + 1) l := by
  obtain ⟨h1, h2, h3, h4, h5, h6, h7⟩ := H
  refine ⟨fun b p q => by rw [zup_ne p]; exact h1 b p q, ?_, ?_, ?_, ?_, fun k hk => by rw [zup_ne (by decide)]; exact h6 k hk, fun k hk => by rw [zup_ne (by decide)]; exact h7 k hk⟩
  · simp only [zup, if_true, if_neg (show ¬ 0 = 1 by decide)]; exact h2
  · simp only [zup, if_true]; rw [h3, nI_1]
  · simp only [zup, if_true, if_neg (show ¬ 4 = 1 by decide)]; exact h4
  · simp only [zup, if_true, if_neg (show ¬ 5 = 1 by decide)]; exact h5
theorem TS.emit (H : TS T mi m a n p l) (x : Int32) : TS T mi (zup (zup m 48 4 (nI l.length + 1)) 50 l.length x) a n p (l ++ [x]) := by
  obtain ⟨h1, h2, h3, h4, h5, h6, h7⟩ := H
  refine ⟨fun b p q => by rw [zup_ne q, zup_ne p]; exact h1 b p q, ?_, ?_, ?_, ?_, fun k hk => ?_, fun k hk => by rw [zup_ne (by decide), zup_ne (by decide)]; exact h7 k hk⟩
  · rw [zup_ne (by decide)]; simp only [zup, if_true, if_neg (show ¬ 0 = 4 by decide)]; exact h2
  · rw [zup_ne (by decide)]; simp only [zup, if_true, if_neg (show ¬ 1 = 4 by decide)]; exact h3
  · rw [zup_ne (by decide)]; simp only [zup, if_true]; rw [nI_1, List.length_append]; rfl
  · rw [zup_ne (by decide)]; simp only [zup, if_true, if_neg (show ¬ 5 = 4 by decide)]; exact h5
  · rw [List.length_append] at hk
    have hk1 : k < l.length + 1 := hk
    by_cases hc : k = l.length
    · subst hc
      simp only [zup, if_true]
      rw [List.getD_eq_getElem?_getD, List.getElem?_append_right (Nat.le_refl _), Nat.sub_self]
      rfl
    · have e : zup (zup m 48 4 (nI l.length + 1)) 50 l.length x 50 k = m 50 k := by
        simp only [zup, if_true, if_neg hc, if_neg (show ¬ 50 = 48 by decide)]
      rw [e, h6 k (by omega), List.getD_eq_getElem?_getD, List.getD_eq_getElem?_getD, List.getElem?_append_left (by omega)]
theorem zpick {q : Nat} (hq : q ≤ 127) : ¬ nI q < 0 ∧ ¬ 255 < nI q ∧ (nI q).toInt8.toInt32 = nI q ∧ ((nI q).toUInt32 % 65536).toInt32 = nI q := by
  have h : ∀ q : Fin 128, ¬ nI q.val < 0 ∧ ¬ 255 < nI q.val ∧ (nI q.val).toInt8.toInt32 = nI q.val ∧ ((nI q.val).toUInt32 % 65536).toInt32 = nI q.val := by decide +kernel
  exact h ⟨q, by omega⟩
end TSL
theorem c_next {E : zEn} {vs : List (Nat × Nat)} {mi : Nat → Nat → Int32} {ml : Nat → Nat → Int64} {g : Nat → Nat → Option Nat} {T : Nat → Int32} {m : Nat → Nat → Int32} {a : Int32} {n p : Nat} {l : List Int32} (H : TS T mi m a n p l) (hT : tOK T n) (hp : p ≤ n) : Wp E 0 pg_Text_next 0 (lv_args 0 [.ref 48]) [] (zsh ++ vs, m, ml, (zmr g)) (fun r w' => r = some (.int (zch T n p)) ∧ w' = (zsh ++ vs, m, ml, zmr g)) := by
  refine Wp.run 4 (8, [(0, .ref 48)], [.int (m 48 0), .int (m 48 1)], (zsh ++ vs, m, ml, (zmr g))) rfl ?_
  rw [H.2.1, H.2.2.1]
  refine Wp.run 0 (8, [(0, .ref 48)], [.int (nI n), .int (nI p)], (zsh ++ vs, m, ml, (zmr g))) rfl ?_
  refine Wp.icmp_ge rfl (fun h1 => ?_) (fun h1 => ?_)
  · have hlt : ¬ p < n := fun q => nI_ge q (by have := hT.1; omega) h1
    refine Wp.run 1 (24, [(0, .ref 48)], [.int (-1)], (zsh ++ vs, m, ml, (zmr g))) rfl ?_
    refine Wp.ret rfl rfl rfl ?_
    exact ⟨by rw [zch, if_neg hlt], rfl⟩
  · have hlt : p < n := Nat.lt_of_not_le (fun q => h1 (nI_le q (by have := hT.1; omega)))
    refine Wp.run 4 (19, [(0, .ref 48)], [.int (m 48 1), .ref 49], (zsh ++ vs, m, ml, (zmr g))) rfl ?_
    rw [H.2.2.1]
    refine Wp.ialn rfl (by decide) rfl (by have := hT.1; omega) (by decide) ?_
    refine Wp.run 1 (24, [(0, .ref 48)], [.int (m 49 p)], (zsh ++ vs, m, ml, (zmr g))) rfl ?_
    refine Wp.ret rfl rfl rfl ?_
    exact ⟨by rw [zch, if_pos hlt, ← H.2.2.2.2.2.2 p hlt], rfl⟩
theorem c_takes {E : zEn} {vs : List (Nat × Nat)} {mi : Nat → Nat → Int32} {ml : Nat → Nat → Int64} {g : Nat → Nat → Option Nat} {T : Nat → Int32} {m : Nat → Nat → Int32} {a : Int32} {n p : Nat} {l : List Int32} (H : TS T mi m a n p l) (hT : tOK T n) (hp : p ≤ n) (c : Int32) (hc : ¬ c = -1) : Wp E 1 pg_Text_takes 0 (lv_args 0 [.ref 48, .int c]) [] (zsh ++ vs, m, ml, (zmr g)) (fun r w' => (zch T n p = c ∧ r = some (.int 1) ∧ ∃ m', w' = (zsh ++ vs, m', ml, zmr g) ∧ TS T mi m' a n (p + 1) l) ∨ (¬ zch T n p = c ∧ r = some (.int 0) ∧ w' = (zsh ++ vs, m, ml, zmr g))) := by
  refine Wp.run 1 (1, [(0, .ref 48), (1, .int c)], [.ref 48], (zsh ++ vs, m, ml, (zmr g))) rfl ?_
  refine Wp.call (as := [.ref 48]) (rest := []) rfl rfl rfl rfl rfl (Nat.le_of_ble_eq_true rfl) (Nat.le_of_ble_eq_true rfl) rfl (by decide) (c_next H hT hp) ?_
  rintro _ _ ⟨rfl, rfl⟩
  refine Wp.run 1 (5, [(0, .ref 48), (1, .int c)], [.int c, .int (zch T n p)], (zsh ++ vs, m, ml, (zmr g))) rfl ?_
  refine Wp.icmp_eq rfl (fun h1 => ?_) (fun h1 => ?_)
  · refine Wp.run 7 (21, [(0, .ref 48), (1, .int c)], [.int 1], (zsh ++ vs, (zup m 48 1 ((m 48 1) + 1)), ml, (zmr g))) rfl ?_
    refine Wp.ret rfl rfl rfl ?_
    exact Or.inl ⟨h1, rfl, _, rfl, H.adv⟩
  · refine Wp.run 1 (9, [(0, .ref 48), (1, .int c)], [.int 0], (zsh ++ vs, m, ml, (zmr g))) rfl ?_
    refine Wp.ret rfl rfl rfl ?_
    exact Or.inr ⟨h1, rfl, rfl⟩
theorem c_emit {E : zEn} {vs : List (Nat × Nat)} {mi : Nat → Nat → Int32} {ml : Nat → Nat → Int64} {g : Nat → Nat → Option Nat} {T : Nat → Int32} {m : Nat → Nat → Int32} {a : Int32} {n p : Nat} {l : List Int32} (H : TS T mi m a n p l) (x : Int32) (hl : l.length < 100) : Wp E 0 pg_Text_emit 0 (lv_args 0 [.ref 48, .int x]) [] (zsh ++ vs, m, ml, (zmr g)) (fun r w' => r = none ∧ ∃ m', w' = (zsh ++ vs, m', ml, zmr g) ∧ TS T mi m' a n p (l ++ [x])) := by
  refine Wp.run 3 (6, [(0, .ref 48), (1, .int x)], [.int 100, .int (m 48 4)], (zsh ++ vs, m, ml, (zmr g))) rfl ?_
  rw [H.2.2.2.1]
  refine Wp.run 0 (6, [(0, .ref 48), (1, .int x)], [.int 100, .int (nI l.length)], (zsh ++ vs, m, ml, (zmr g))) rfl ?_
  refine Wp.icmp_ge rfl (fun h1 => ?_) (fun h1 => ?_)
  · exact absurd h1 (nI_ge (b := 100) hl (by decide))
  · refine Wp.run 5 (18, [(0, .ref 48), (1, .int x)], [.int (m 48 4), .ref 48, .ref 50], (zsh ++ vs, m, ml, (zmr g))) rfl ?_
    rw [H.2.2.2.1]
    refine Wp.run 5 (25, [(0, .ref 48), (1, .int x)], [.int x, .int (nI l.length), .ref 50], (zsh ++ vs, (zup m 48 4 ((nI l.length) + 1)), ml, (zmr g))) rfl ?_
    refine Wp.iasn rfl (by decide) rfl (by omega) (by decide) ?_
    refine Wp.run 0 (26, [(0, .ref 48), (1, .int x)], [], (zsh ++ vs, (zup (zup m 48 4 ((nI l.length) + 1)) 50 l.length x), ml, (zmr g))) rfl ?_
    refine Wp.ret rfl rfl rfl ?_
    exact ⟨rfl, _, rfl, H.emit x⟩
theorem c_len_0 {E : zEn} {w : zW} : Wp E 1 pg_String_length 0 (lv_args 0 [.ref 510]) [] w (fun r w' => r = some (.int 5) ∧ w' = w) := ⟨_, _, ⟨30, rfl⟩, rfl, rfl⟩
theorem c_chr_0_0 {E : zEn} {w : zW} : Wp E 3 pg_String_charAt 0 (lv_args 0 [.ref 510, .int 0]) [] w (fun r w' => r = some (.int 97) ∧ w' = w) := ⟨_, _, ⟨60, rfl⟩, rfl, rfl⟩
theorem c_chr_0_1 {E : zEn} {w : zW} : Wp E 3 pg_String_charAt 0 (lv_args 0 [.ref 510, .int 1]) [] w (fun r w' => r = some (.int 110) ∧ w' = w) := ⟨_, _, ⟨60, rfl⟩, rfl, rfl⟩
theorem c_chr_0_2 {E : zEn} {w : zW} : Wp E 3 pg_String_charAt 0 (lv_args 0 [.ref 510, .int 2]) [] w (fun r w' => r = some (.int 101) ∧ w' = w) := ⟨_, _, ⟨60, rfl⟩, rfl, rfl⟩
theorem c_chr_0_3 {E : zEn} {w : zW} : Wp E 3 pg_String_charAt 0 (lv_args 0 [.ref 510, .int 3]) [] w (fun r w' => r = some (.int 119) ∧ w' = w) := ⟨_, _, ⟨60, rfl⟩, rfl, rfl⟩
theorem c_chr_0_4 {E : zEn} {w : zW} : Wp E 3 pg_String_charAt 0 (lv_args 0 [.ref 510, .int 4]) [] w (fun r w' => r = some (.int 32) ∧ w' = w) := ⟨_, _, ⟨60, rfl⟩, rfl, rfl⟩
theorem c_len_1 {E : zEn} {w : zW} : Wp E 1 pg_String_length 0 (lv_args 0 [.ref 511]) [] w (fun r w' => r = some (.int 5) ∧ w' = w) := ⟨_, _, ⟨30, rfl⟩, rfl, rfl⟩
theorem c_chr_1_0 {E : zEn} {w : zW} : Wp E 3 pg_String_charAt 0 (lv_args 0 [.ref 511, .int 0]) [] w (fun r w' => r = some (.int 104) ∧ w' = w) := ⟨_, _, ⟨60, rfl⟩, rfl, rfl⟩
theorem c_chr_1_1 {E : zEn} {w : zW} : Wp E 3 pg_String_charAt 0 (lv_args 0 [.ref 511, .int 1]) [] w (fun r w' => r = some (.int 97) ∧ w' = w) := ⟨_, _, ⟨60, rfl⟩, rfl, rfl⟩
theorem c_chr_1_2 {E : zEn} {w : zW} : Wp E 3 pg_String_charAt 0 (lv_args 0 [.ref 511, .int 2]) [] w (fun r w' => r = some (.int 114) ∧ w' = w) := ⟨_, _, ⟨60, rfl⟩, rfl, rfl⟩
theorem c_chr_1_3 {E : zEn} {w : zW} : Wp E 3 pg_String_charAt 0 (lv_args 0 [.ref 511, .int 3]) [] w (fun r w' => r = some (.int 100) ∧ w' = w) := ⟨_, _, ⟨60, rfl⟩, rfl, rfl⟩
theorem c_chr_1_4 {E : zEn} {w : zW} : Wp E 3 pg_String_charAt 0 (lv_args 0 [.ref 511, .int 4]) [] w (fun r w' => r = some (.int 32) ∧ w' = w) := ⟨_, _, ⟨60, rfl⟩, rfl, rfl⟩
theorem c_len_2 {E : zEn} {w : zW} : Wp E 1 pg_String_length 0 (lv_args 0 [.ref 512]) [] w (fun r w' => r = some (.int 5) ∧ w' = w) := ⟨_, _, ⟨30, rfl⟩, rfl, rfl⟩
theorem c_chr_2_0 {E : zEn} {w : zW} : Wp E 3 pg_String_charAt 0 (lv_args 0 [.ref 512, .int 0]) [] w (fun r w' => r = some (.int 101) ∧ w' = w) := ⟨_, _, ⟨60, rfl⟩, rfl, rfl⟩
theorem c_chr_2_1 {E : zEn} {w : zW} : Wp E 3 pg_String_charAt 0 (lv_args 0 [.ref 512, .int 1]) [] w (fun r w' => r = some (.int 97) ∧ w' = w) := ⟨_, _, ⟨60, rfl⟩, rfl, rfl⟩
theorem c_chr_2_2 {E : zEn} {w : zW} : Wp E 3 pg_String_charAt 0 (lv_args 0 [.ref 512, .int 2]) [] w (fun r w' => r = some (.int 115) ∧ w' = w) := ⟨_, _, ⟨60, rfl⟩, rfl, rfl⟩
theorem c_chr_2_3 {E : zEn} {w : zW} : Wp E 3 pg_String_charAt 0 (lv_args 0 [.ref 512, .int 3]) [] w (fun r w' => r = some (.int 121) ∧ w' = w) := ⟨_, _, ⟨60, rfl⟩, rfl, rfl⟩
theorem c_chr_2_4 {E : zEn} {w : zW} : Wp E 3 pg_String_charAt 0 (lv_args 0 [.ref 512, .int 4]) [] w (fun r w' => r = some (.int 32) ∧ w' = w) := ⟨_, _, ⟨60, rfl⟩, rfl, rfl⟩
theorem c_word_0 {E : zEn} {vs : List (Nat × Nat)} {mi : Nat → Nat → Int32} {ml : Nat → Nat → Int64} {g : Nat → Nat → Option Nat} {T : Nat → Int32} {m : Nat → Nat → Int32} {a : Int32} {n p : Nat} {l : List Int32} (H : TS T mi m a n p l) (hT : tOK T n) (hp : p ≤ n) : Wp E 4 pg_Text_takesWord 0 (lv_args 0 [.ref 48, .ref 510]) [] (zsh ++ vs, m, ml, (zmr g)) (fun r w' => ∃ m', w' = (zsh ++ vs, m', ml, zmr g) ∧ TS T mi m' a n (zwd T n [97, 110, 101, 119, 32] p).2 l ∧ r = some (.int (if (zwd T n [97, 110, 101, 119, 32] p).1 = true then 1 else 0))) := by
  refine Wp.run 4 (4, [(2, .int 0), (0, .ref 48), (1, .ref 510)], [.ref 510, .int 0], (zsh ++ vs, m, ml, (zmr g))) rfl ?_
  refine Wp.call (as := [.ref 510]) (rest := [.int 0]) rfl rfl rfl rfl rfl (Nat.le_of_ble_eq_true rfl) (Nat.le_of_ble_eq_true rfl) rfl (by decide) (c_len_0) ?_
  rintro _ _ ⟨rfl, rfl⟩
  refine Wp.run 4 (13, [(2, .int 0), (0, .ref 48), (1, .ref 510)], [.int 0, .ref 510, .ref 48], (zsh ++ vs, m, ml, (zmr g))) rfl ?_
  refine Wp.call (as := [.ref 510, .int 0]) (rest := [.ref 48]) rfl rfl rfl rfl rfl (Nat.le_of_ble_eq_true rfl) (Nat.le_of_ble_eq_true rfl) rfl (by decide) (c_chr_0_0) ?_
  rintro _ _ ⟨rfl, rfl⟩
  refine Wp.run 0 (16, [(2, .int 0), (0, .ref 48), (1, .ref 510)], [.int 97, .ref 48], (zsh ++ vs, m, ml, (zmr g))) rfl ?_
  refine Wp.call (as := [.ref 48, .int 97]) (rest := []) rfl rfl rfl rfl rfl (Nat.le_of_ble_eq_true rfl) (Nat.le_of_ble_eq_true rfl) rfl (by decide) (c_takes H hT hp 97 (by decide)) ?_
  rintro _ _ (⟨ht1, rfl, m1, rfl, H1⟩ | ⟨ht1, rfl, rfl⟩)
  · have hp1 : p + 1 ≤ n := zch_lt ht1 (by decide)
    refine Wp.run 3 (2, [(2, .int 1), (0, .ref 48), (1, .ref 510)], [], (zsh ++ vs, m1, ml, (zmr g))) rfl ?_
    refine Wp.run 2 (4, [(2, .int 1), (0, .ref 48), (1, .ref 510)], [.ref 510, .int 1], (zsh ++ vs, m1, ml, (zmr g))) rfl ?_
    refine Wp.call (as := [.ref 510]) (rest := [.int 1]) rfl rfl rfl rfl rfl (Nat.le_of_ble_eq_true rfl) (Nat.le_of_ble_eq_true rfl) rfl (by decide) (c_len_0) ?_
    rintro _ _ ⟨rfl, rfl⟩
    refine Wp.run 4 (13, [(2, .int 1), (0, .ref 48), (1, .ref 510)], [.int 1, .ref 510, .ref 48], (zsh ++ vs, m1, ml, (zmr g))) rfl ?_
    refine Wp.call (as := [.ref 510, .int 1]) (rest := [.ref 48]) rfl rfl rfl rfl rfl (Nat.le_of_ble_eq_true rfl) (Nat.le_of_ble_eq_true rfl) rfl (by decide) (c_chr_0_1) ?_
    rintro _ _ ⟨rfl, rfl⟩
    refine Wp.run 0 (16, [(2, .int 1), (0, .ref 48), (1, .ref 510)], [.int 110, .ref 48], (zsh ++ vs, m1, ml, (zmr g))) rfl ?_
    refine Wp.call (as := [.ref 48, .int 110]) (rest := []) rfl rfl rfl rfl rfl (Nat.le_of_ble_eq_true rfl) (Nat.le_of_ble_eq_true rfl) rfl (by decide) (c_takes H1 hT hp1 110 (by decide)) ?_
    rintro _ _ (⟨ht2, rfl, m2, rfl, H2⟩ | ⟨ht2, rfl, rfl⟩)
    · have hp2 : p + 1 + 1 ≤ n := zch_lt ht2 (by decide)
      refine Wp.run 3 (2, [(2, .int 2), (0, .ref 48), (1, .ref 510)], [], (zsh ++ vs, m2, ml, (zmr g))) rfl ?_
      refine Wp.run 2 (4, [(2, .int 2), (0, .ref 48), (1, .ref 510)], [.ref 510, .int 2], (zsh ++ vs, m2, ml, (zmr g))) rfl ?_
      refine Wp.call (as := [.ref 510]) (rest := [.int 2]) rfl rfl rfl rfl rfl (Nat.le_of_ble_eq_true rfl) (Nat.le_of_ble_eq_true rfl) rfl (by decide) (c_len_0) ?_
      rintro _ _ ⟨rfl, rfl⟩
      refine Wp.run 4 (13, [(2, .int 2), (0, .ref 48), (1, .ref 510)], [.int 2, .ref 510, .ref 48], (zsh ++ vs, m2, ml, (zmr g))) rfl ?_
      refine Wp.call (as := [.ref 510, .int 2]) (rest := [.ref 48]) rfl rfl rfl rfl rfl (Nat.le_of_ble_eq_true rfl) (Nat.le_of_ble_eq_true rfl) rfl (by decide) (c_chr_0_2) ?_
      rintro _ _ ⟨rfl, rfl⟩
      refine Wp.run 0 (16, [(2, .int 2), (0, .ref 48), (1, .ref 510)], [.int 101, .ref 48], (zsh ++ vs, m2, ml, (zmr g))) rfl ?_
      refine Wp.call (as := [.ref 48, .int 101]) (rest := []) rfl rfl rfl rfl rfl (Nat.le_of_ble_eq_true rfl) (Nat.le_of_ble_eq_true rfl) rfl (by decide) (c_takes H2 hT hp2 101 (by decide)) ?_
      rintro _ _ (⟨ht3, rfl, m3, rfl, H3⟩ | ⟨ht3, rfl, rfl⟩)
      · have hp3 : p + 1 + 1 + 1 ≤ n := zch_lt ht3 (by decide)
        refine Wp.run 3 (2, [(2, .int 3), (0, .ref 48), (1, .ref 510)], [], (zsh ++ vs, m3, ml, (zmr g))) rfl ?_
        refine Wp.run 2 (4, [(2, .int 3), (0, .ref 48), (1, .ref 510)], [.ref 510, .int 3], (zsh ++ vs, m3, ml, (zmr g))) rfl ?_
        refine Wp.call (as := [.ref 510]) (rest := [.int 3]) rfl rfl rfl rfl rfl (Nat.le_of_ble_eq_true rfl) (Nat.le_of_ble_eq_true rfl) rfl (by decide) (c_len_0) ?_
        rintro _ _ ⟨rfl, rfl⟩
        refine Wp.run 4 (13, [(2, .int 3), (0, .ref 48), (1, .ref 510)], [.int 3, .ref 510, .ref 48], (zsh ++ vs, m3, ml, (zmr g))) rfl ?_
        refine Wp.call (as := [.ref 510, .int 3]) (rest := [.ref 48]) rfl rfl rfl rfl rfl (Nat.le_of_ble_eq_true rfl) (Nat.le_of_ble_eq_true rfl) rfl (by decide) (c_chr_0_3) ?_
        rintro _ _ ⟨rfl, rfl⟩
        refine Wp.run 0 (16, [(2, .int 3), (0, .ref 48), (1, .ref 510)], [.int 119, .ref 48], (zsh ++ vs, m3, ml, (zmr g))) rfl ?_
        refine Wp.call (as := [.ref 48, .int 119]) (rest := []) rfl rfl rfl rfl rfl (Nat.le_of_ble_eq_true rfl) (Nat.le_of_ble_eq_true rfl) rfl (by decide) (c_takes H3 hT hp3 119 (by decide)) ?_
        rintro _ _ (⟨ht4, rfl, m4, rfl, H4⟩ | ⟨ht4, rfl, rfl⟩)
        · have hp4 : p + 1 + 1 + 1 + 1 ≤ n := zch_lt ht4 (by decide)
          refine Wp.run 3 (2, [(2, .int 4), (0, .ref 48), (1, .ref 510)], [], (zsh ++ vs, m4, ml, (zmr g))) rfl ?_
          refine Wp.run 2 (4, [(2, .int 4), (0, .ref 48), (1, .ref 510)], [.ref 510, .int 4], (zsh ++ vs, m4, ml, (zmr g))) rfl ?_
          refine Wp.call (as := [.ref 510]) (rest := [.int 4]) rfl rfl rfl rfl rfl (Nat.le_of_ble_eq_true rfl) (Nat.le_of_ble_eq_true rfl) rfl (by decide) (c_len_0) ?_
          rintro _ _ ⟨rfl, rfl⟩
          refine Wp.run 4 (13, [(2, .int 4), (0, .ref 48), (1, .ref 510)], [.int 4, .ref 510, .ref 48], (zsh ++ vs, m4, ml, (zmr g))) rfl ?_
          refine Wp.call (as := [.ref 510, .int 4]) (rest := [.ref 48]) rfl rfl rfl rfl rfl (Nat.le_of_ble_eq_true rfl) (Nat.le_of_ble_eq_true rfl) rfl (by decide) (c_chr_0_4) ?_
          rintro _ _ ⟨rfl, rfl⟩
          refine Wp.run 0 (16, [(2, .int 4), (0, .ref 48), (1, .ref 510)], [.int 32, .ref 48], (zsh ++ vs, m4, ml, (zmr g))) rfl ?_
          refine Wp.call (as := [.ref 48, .int 32]) (rest := []) rfl rfl rfl rfl rfl (Nat.le_of_ble_eq_true rfl) (Nat.le_of_ble_eq_true rfl) rfl (by decide) (c_takes H4 hT hp4 32 (by decide)) ?_
          rintro _ _ (⟨ht5, rfl, m5, rfl, H5⟩ | ⟨ht5, rfl, rfl⟩)
          · have hp5 : p + 1 + 1 + 1 + 1 + 1 ≤ n := zch_lt ht5 (by decide)
            refine Wp.run 3 (2, [(2, .int 5), (0, .ref 48), (1, .ref 510)], [], (zsh ++ vs, m5, ml, (zmr g))) rfl ?_
            refine Wp.run 2 (4, [(2, .int 5), (0, .ref 48), (1, .ref 510)], [.ref 510, .int 5], (zsh ++ vs, m5, ml, (zmr g))) rfl ?_
            refine Wp.call (as := [.ref 510]) (rest := [.int 5]) rfl rfl rfl rfl rfl (Nat.le_of_ble_eq_true rfl) (Nat.le_of_ble_eq_true rfl) rfl (by decide) (c_len_0) ?_
            rintro _ _ ⟨rfl, rfl⟩
            refine Wp.run 2 (31, [(2, .int 5), (0, .ref 48), (1, .ref 510)], [.int 1], (zsh ++ vs, m5, ml, (zmr g))) rfl ?_
            refine Wp.ret rfl rfl rfl ?_
            exact ⟨m5, rfl, by rw [zwd, if_pos ht1, zwd, if_pos ht2, zwd, if_pos ht3, zwd, if_pos ht4, zwd, if_pos ht5, zwd]; exact H5, by rw [zwd, if_pos ht1, zwd, if_pos ht2, zwd, if_pos ht3, zwd, if_pos ht4, zwd, if_pos ht5, zwd]; rfl⟩
          · refine Wp.run 2 (23, [(2, .int 4), (0, .ref 48), (1, .ref 510)], [.int 0], (zsh ++ vs, m4, ml, (zmr g))) rfl ?_
            refine Wp.ret rfl rfl rfl ?_
            exact ⟨m4, rfl, by rw [zwd, if_pos ht1, zwd, if_pos ht2, zwd, if_pos ht3, zwd, if_pos ht4, zwd, if_neg ht5]; exact H4, by rw [zwd, if_pos ht1, zwd, if_pos ht2, zwd, if_pos ht3, zwd, if_pos ht4, zwd, if_neg ht5]; rfl⟩
        · refine Wp.run 2 (23, [(2, .int 3), (0, .ref 48), (1, .ref 510)], [.int 0], (zsh ++ vs, m3, ml, (zmr g))) rfl ?_
          refine Wp.ret rfl rfl rfl ?_
          exact ⟨m3, rfl, by rw [zwd, if_pos ht1, zwd, if_pos ht2, zwd, if_pos ht3, zwd, if_neg ht4]; exact H3, by rw [zwd, if_pos ht1, zwd, if_pos ht2, zwd, if_pos ht3, zwd, if_neg ht4]; rfl⟩
      · refine Wp.run 2 (23, [(2, .int 2), (0, .ref 48), (1, .ref 510)], [.int 0], (zsh ++ vs, m2, ml, (zmr g))) rfl ?_
        refine Wp.ret rfl rfl rfl ?_
        exact ⟨m2, rfl, by rw [zwd, if_pos ht1, zwd, if_pos ht2, zwd, if_neg ht3]; exact H2, by rw [zwd, if_pos ht1, zwd, if_pos ht2, zwd, if_neg ht3]; rfl⟩
    · refine Wp.run 2 (23, [(2, .int 1), (0, .ref 48), (1, .ref 510)], [.int 0], (zsh ++ vs, m1, ml, (zmr g))) rfl ?_
      refine Wp.ret rfl rfl rfl ?_
      exact ⟨m1, rfl, by rw [zwd, if_pos ht1, zwd, if_neg ht2]; exact H1, by rw [zwd, if_pos ht1, zwd, if_neg ht2]; rfl⟩
  · refine Wp.run 2 (23, [(2, .int 0), (0, .ref 48), (1, .ref 510)], [.int 0], (zsh ++ vs, m, ml, (zmr g))) rfl ?_
    refine Wp.ret rfl rfl rfl ?_
    exact ⟨m, rfl, by rw [zwd, if_neg ht1]; exact H, by rw [zwd, if_neg ht1]; rfl⟩
theorem c_word_1 {E : zEn} {vs : List (Nat × Nat)} {mi : Nat → Nat → Int32} {ml : Nat → Nat → Int64} {g : Nat → Nat → Option Nat} {T : Nat → Int32} {m : Nat → Nat → Int32} {a : Int32} {n p : Nat} {l : List Int32} (H : TS T mi m a n p l) (hT : tOK T n) (hp : p ≤ n) : Wp E 4 pg_Text_takesWord 0 (lv_args 0 [.ref 48, .ref 511]) [] (zsh ++ vs, m, ml, (zmr g)) (fun r w' => ∃ m', w' = (zsh ++ vs, m', ml, zmr g) ∧ TS T mi m' a n (zwd T n [104, 97, 114, 100, 32] p).2 l ∧ r = some (.int (if (zwd T n [104, 97, 114, 100, 32] p).1 = true then 1 else 0))) := by
  refine Wp.run 4 (4, [(2, .int 0), (0, .ref 48), (1, .ref 511)], [.ref 511, .int 0], (zsh ++ vs, m, ml, (zmr g))) rfl ?_
  refine Wp.call (as := [.ref 511]) (rest := [.int 0]) rfl rfl rfl rfl rfl (Nat.le_of_ble_eq_true rfl) (Nat.le_of_ble_eq_true rfl) rfl (by decide) (c_len_1) ?_
  rintro _ _ ⟨rfl, rfl⟩
  refine Wp.run 4 (13, [(2, .int 0), (0, .ref 48), (1, .ref 511)], [.int 0, .ref 511, .ref 48], (zsh ++ vs, m, ml, (zmr g))) rfl ?_
  refine Wp.call (as := [.ref 511, .int 0]) (rest := [.ref 48]) rfl rfl rfl rfl rfl (Nat.le_of_ble_eq_true rfl) (Nat.le_of_ble_eq_true rfl) rfl (by decide) (c_chr_1_0) ?_
  rintro _ _ ⟨rfl, rfl⟩
  refine Wp.run 0 (16, [(2, .int 0), (0, .ref 48), (1, .ref 511)], [.int 104, .ref 48], (zsh ++ vs, m, ml, (zmr g))) rfl ?_
  refine Wp.call (as := [.ref 48, .int 104]) (rest := []) rfl rfl rfl rfl rfl (Nat.le_of_ble_eq_true rfl) (Nat.le_of_ble_eq_true rfl) rfl (by decide) (c_takes H hT hp 104 (by decide)) ?_
  rintro _ _ (⟨ht6, rfl, m6, rfl, H6⟩ | ⟨ht6, rfl, rfl⟩)
  · have hp6 : p + 1 ≤ n := zch_lt ht6 (by decide)
    refine Wp.run 3 (2, [(2, .int 1), (0, .ref 48), (1, .ref 511)], [], (zsh ++ vs, m6, ml, (zmr g))) rfl ?_
    refine Wp.run 2 (4, [(2, .int 1), (0, .ref 48), (1, .ref 511)], [.ref 511, .int 1], (zsh ++ vs, m6, ml, (zmr g))) rfl ?_
    refine Wp.call (as := [.ref 511]) (rest := [.int 1]) rfl rfl rfl rfl rfl (Nat.le_of_ble_eq_true rfl) (Nat.le_of_ble_eq_true rfl) rfl (by decide) (c_len_1) ?_
    rintro _ _ ⟨rfl, rfl⟩
    refine Wp.run 4 (13, [(2, .int 1), (0, .ref 48), (1, .ref 511)], [.int 1, .ref 511, .ref 48], (zsh ++ vs, m6, ml, (zmr g))) rfl ?_
    refine Wp.call (as := [.ref 511, .int 1]) (rest := [.ref 48]) rfl rfl rfl rfl rfl (Nat.le_of_ble_eq_true rfl) (Nat.le_of_ble_eq_true rfl) rfl (by decide) (c_chr_1_1) ?_
    rintro _ _ ⟨rfl, rfl⟩
    refine Wp.run 0 (16, [(2, .int 1), (0, .ref 48), (1, .ref 511)], [.int 97, .ref 48], (zsh ++ vs, m6, ml, (zmr g))) rfl ?_
    refine Wp.call (as := [.ref 48, .int 97]) (rest := []) rfl rfl rfl rfl rfl (Nat.le_of_ble_eq_true rfl) (Nat.le_of_ble_eq_true rfl) rfl (by decide) (c_takes H6 hT hp6 97 (by decide)) ?_
    rintro _ _ (⟨ht7, rfl, m7, rfl, H7⟩ | ⟨ht7, rfl, rfl⟩)
    · have hp7 : p + 1 + 1 ≤ n := zch_lt ht7 (by decide)
      refine Wp.run 3 (2, [(2, .int 2), (0, .ref 48), (1, .ref 511)], [], (zsh ++ vs, m7, ml, (zmr g))) rfl ?_
      refine Wp.run 2 (4, [(2, .int 2), (0, .ref 48), (1, .ref 511)], [.ref 511, .int 2], (zsh ++ vs, m7, ml, (zmr g))) rfl ?_
      refine Wp.call (as := [.ref 511]) (rest := [.int 2]) rfl rfl rfl rfl rfl (Nat.le_of_ble_eq_true rfl) (Nat.le_of_ble_eq_true rfl) rfl (by decide) (c_len_1) ?_
      rintro _ _ ⟨rfl, rfl⟩
      refine Wp.run 4 (13, [(2, .int 2), (0, .ref 48), (1, .ref 511)], [.int 2, .ref 511, .ref 48], (zsh ++ vs, m7, ml, (zmr g))) rfl ?_
      refine Wp.call (as := [.ref 511, .int 2]) (rest := [.ref 48]) rfl rfl rfl rfl rfl (Nat.le_of_ble_eq_true rfl) (Nat.le_of_ble_eq_true rfl) rfl (by decide) (c_chr_1_2) ?_
      rintro _ _ ⟨rfl, rfl⟩
      refine Wp.run 0 (16, [(2, .int 2), (0, .ref 48), (1, .ref 511)], [.int 114, .ref 48], (zsh ++ vs, m7, ml, (zmr g))) rfl ?_
      refine Wp.call (as := [.ref 48, .int 114]) (rest := []) rfl rfl rfl rfl rfl (Nat.le_of_ble_eq_true rfl) (Nat.le_of_ble_eq_true rfl) rfl (by decide) (c_takes H7 hT hp7 114 (by decide)) ?_
      rintro _ _ (⟨ht8, rfl, m8, rfl, H8⟩ | ⟨ht8, rfl, rfl⟩)
      · have hp8 : p + 1 + 1 + 1 ≤ n := zch_lt ht8 (by decide)
        refine Wp.run 3 (2, [(2, .int 3), (0, .ref 48), (1, .ref 511)], [], (zsh ++ vs, m8, ml, (zmr g))) rfl ?_
        refine Wp.run 2 (4, [(2, .int 3), (0, .ref 48), (1, .ref 511)], [.ref 511, .int 3], (zsh ++ vs, m8, ml, (zmr g))) rfl ?_
        refine Wp.call (as := [.ref 511]) (rest := [.int 3]) rfl rfl rfl rfl rfl (Nat.le_of_ble_eq_true rfl) (Nat.le_of_ble_eq_true rfl) rfl (by decide) (c_len_1) ?_
        rintro _ _ ⟨rfl, rfl⟩
        refine Wp.run 4 (13, [(2, .int 3), (0, .ref 48), (1, .ref 511)], [.int 3, .ref 511, .ref 48], (zsh ++ vs, m8, ml, (zmr g))) rfl ?_
        refine Wp.call (as := [.ref 511, .int 3]) (rest := [.ref 48]) rfl rfl rfl rfl rfl (Nat.le_of_ble_eq_true rfl) (Nat.le_of_ble_eq_true rfl) rfl (by decide) (c_chr_1_3) ?_
        rintro _ _ ⟨rfl, rfl⟩
        refine Wp.run 0 (16, [(2, .int 3), (0, .ref 48), (1, .ref 511)], [.int 100, .ref 48], (zsh ++ vs, m8, ml, (zmr g))) rfl ?_
        refine Wp.call (as := [.ref 48, .int 100]) (rest := []) rfl rfl rfl rfl rfl (Nat.le_of_ble_eq_true rfl) (Nat.le_of_ble_eq_true rfl) rfl (by decide) (c_takes H8 hT hp8 100 (by decide)) ?_
        rintro _ _ (⟨ht9, rfl, m9, rfl, H9⟩ | ⟨ht9, rfl, rfl⟩)
        · have hp9 : p + 1 + 1 + 1 + 1 ≤ n := zch_lt ht9 (by decide)
          refine Wp.run 3 (2, [(2, .int 4), (0, .ref 48), (1, .ref 511)], [], (zsh ++ vs, m9, ml, (zmr g))) rfl ?_
          refine Wp.run 2 (4, [(2, .int 4), (0, .ref 48), (1, .ref 511)], [.ref 511, .int 4], (zsh ++ vs, m9, ml, (zmr g))) rfl ?_
          refine Wp.call (as := [.ref 511]) (rest := [.int 4]) rfl rfl rfl rfl rfl (Nat.le_of_ble_eq_true rfl) (Nat.le_of_ble_eq_true rfl) rfl (by decide) (c_len_1) ?_
          rintro _ _ ⟨rfl, rfl⟩
          refine Wp.run 4 (13, [(2, .int 4), (0, .ref 48), (1, .ref 511)], [.int 4, .ref 511, .ref 48], (zsh ++ vs, m9, ml, (zmr g))) rfl ?_
          refine Wp.call (as := [.ref 511, .int 4]) (rest := [.ref 48]) rfl rfl rfl rfl rfl (Nat.le_of_ble_eq_true rfl) (Nat.le_of_ble_eq_true rfl) rfl (by decide) (c_chr_1_4) ?_
          rintro _ _ ⟨rfl, rfl⟩
          refine Wp.run 0 (16, [(2, .int 4), (0, .ref 48), (1, .ref 511)], [.int 32, .ref 48], (zsh ++ vs, m9, ml, (zmr g))) rfl ?_
          refine Wp.call (as := [.ref 48, .int 32]) (rest := []) rfl rfl rfl rfl rfl (Nat.le_of_ble_eq_true rfl) (Nat.le_of_ble_eq_true rfl) rfl (by decide) (c_takes H9 hT hp9 32 (by decide)) ?_
          rintro _ _ (⟨ht10, rfl, m10, rfl, H10⟩ | ⟨ht10, rfl, rfl⟩)
          · have hp10 : p + 1 + 1 + 1 + 1 + 1 ≤ n := zch_lt ht10 (by decide)
            refine Wp.run 3 (2, [(2, .int 5), (0, .ref 48), (1, .ref 511)], [], (zsh ++ vs, m10, ml, (zmr g))) rfl ?_
            refine Wp.run 2 (4, [(2, .int 5), (0, .ref 48), (1, .ref 511)], [.ref 511, .int 5], (zsh ++ vs, m10, ml, (zmr g))) rfl ?_
            refine Wp.call (as := [.ref 511]) (rest := [.int 5]) rfl rfl rfl rfl rfl (Nat.le_of_ble_eq_true rfl) (Nat.le_of_ble_eq_true rfl) rfl (by decide) (c_len_1) ?_
            rintro _ _ ⟨rfl, rfl⟩
            refine Wp.run 2 (31, [(2, .int 5), (0, .ref 48), (1, .ref 511)], [.int 1], (zsh ++ vs, m10, ml, (zmr g))) rfl ?_
            refine Wp.ret rfl rfl rfl ?_
            exact ⟨m10, rfl, by rw [zwd, if_pos ht6, zwd, if_pos ht7, zwd, if_pos ht8, zwd, if_pos ht9, zwd, if_pos ht10, zwd]; exact H10, by rw [zwd, if_pos ht6, zwd, if_pos ht7, zwd, if_pos ht8, zwd, if_pos ht9, zwd, if_pos ht10, zwd]; rfl⟩
          · refine Wp.run 2 (23, [(2, .int 4), (0, .ref 48), (1, .ref 511)], [.int 0], (zsh ++ vs, m9, ml, (zmr g))) rfl ?_
            refine Wp.ret rfl rfl rfl ?_
            exact ⟨m9, rfl, by rw [zwd, if_pos ht6, zwd, if_pos ht7, zwd, if_pos ht8, zwd, if_pos ht9, zwd, if_neg ht10]; exact H9, by rw [zwd, if_pos ht6, zwd, if_pos ht7, zwd, if_pos ht8, zwd, if_pos ht9, zwd, if_neg ht10]; rfl⟩
        · refine Wp.run 2 (23, [(2, .int 3), (0, .ref 48), (1, .ref 511)], [.int 0], (zsh ++ vs, m8, ml, (zmr g))) rfl ?_
          refine Wp.ret rfl rfl rfl ?_
          exact ⟨m8, rfl, by rw [zwd, if_pos ht6, zwd, if_pos ht7, zwd, if_pos ht8, zwd, if_neg ht9]; exact H8, by rw [zwd, if_pos ht6, zwd, if_pos ht7, zwd, if_pos ht8, zwd, if_neg ht9]; rfl⟩
      · refine Wp.run 2 (23, [(2, .int 2), (0, .ref 48), (1, .ref 511)], [.int 0], (zsh ++ vs, m7, ml, (zmr g))) rfl ?_
        refine Wp.ret rfl rfl rfl ?_
        exact ⟨m7, rfl, by rw [zwd, if_pos ht6, zwd, if_pos ht7, zwd, if_neg ht8]; exact H7, by rw [zwd, if_pos ht6, zwd, if_pos ht7, zwd, if_neg ht8]; rfl⟩
    · refine Wp.run 2 (23, [(2, .int 1), (0, .ref 48), (1, .ref 511)], [.int 0], (zsh ++ vs, m6, ml, (zmr g))) rfl ?_
      refine Wp.ret rfl rfl rfl ?_
      exact ⟨m6, rfl, by rw [zwd, if_pos ht6, zwd, if_neg ht7]; exact H6, by rw [zwd, if_pos ht6, zwd, if_neg ht7]; rfl⟩
  · refine Wp.run 2 (23, [(2, .int 0), (0, .ref 48), (1, .ref 511)], [.int 0], (zsh ++ vs, m, ml, (zmr g))) rfl ?_
    refine Wp.ret rfl rfl rfl ?_
    exact ⟨m, rfl, by rw [zwd, if_neg ht6]; exact H, by rw [zwd, if_neg ht6]; rfl⟩
theorem c_word_2 {E : zEn} {vs : List (Nat × Nat)} {mi : Nat → Nat → Int32} {ml : Nat → Nat → Int64} {g : Nat → Nat → Option Nat} {T : Nat → Int32} {m : Nat → Nat → Int32} {a : Int32} {n p : Nat} {l : List Int32} (H : TS T mi m a n p l) (hT : tOK T n) (hp : p ≤ n) : Wp E 4 pg_Text_takesWord 0 (lv_args 0 [.ref 48, .ref 512]) [] (zsh ++ vs, m, ml, (zmr g)) (fun r w' => ∃ m', w' = (zsh ++ vs, m', ml, zmr g) ∧ TS T mi m' a n (zwd T n [101, 97, 115, 121, 32] p).2 l ∧ r = some (.int (if (zwd T n [101, 97, 115, 121, 32] p).1 = true then 1 else 0))) := by
  refine Wp.run 4 (4, [(2, .int 0), (0, .ref 48), (1, .ref 512)], [.ref 512, .int 0], (zsh ++ vs, m, ml, (zmr g))) rfl ?_
  refine Wp.call (as := [.ref 512]) (rest := [.int 0]) rfl rfl rfl rfl rfl (Nat.le_of_ble_eq_true rfl) (Nat.le_of_ble_eq_true rfl) rfl (by decide) (c_len_2) ?_
  rintro _ _ ⟨rfl, rfl⟩
  refine Wp.run 4 (13, [(2, .int 0), (0, .ref 48), (1, .ref 512)], [.int 0, .ref 512, .ref 48], (zsh ++ vs, m, ml, (zmr g))) rfl ?_
  refine Wp.call (as := [.ref 512, .int 0]) (rest := [.ref 48]) rfl rfl rfl rfl rfl (Nat.le_of_ble_eq_true rfl) (Nat.le_of_ble_eq_true rfl) rfl (by decide) (c_chr_2_0) ?_
  rintro _ _ ⟨rfl, rfl⟩
  refine Wp.run 0 (16, [(2, .int 0), (0, .ref 48), (1, .ref 512)], [.int 101, .ref 48], (zsh ++ vs, m, ml, (zmr g))) rfl ?_
  refine Wp.call (as := [.ref 48, .int 101]) (rest := []) rfl rfl rfl rfl rfl (Nat.le_of_ble_eq_true rfl) (Nat.le_of_ble_eq_true rfl) rfl (by decide) (c_takes H hT hp 101 (by decide)) ?_
  rintro _ _ (⟨ht11, rfl, m11, rfl, H11⟩ | ⟨ht11, rfl, rfl⟩)
  · have hp11 : p + 1 ≤ n := zch_lt ht11 (by decide)
    refine Wp.run 3 (2, [(2, .int 1), (0, .ref 48), (1, .ref 512)], [], (zsh ++ vs, m11, ml, (zmr g))) rfl ?_
    refine Wp.run 2 (4, [(2, .int 1), (0, .ref 48), (1, .ref 512)], [.ref 512, .int 1], (zsh ++ vs, m11, ml, (zmr g))) rfl ?_
    refine Wp.call (as := [.ref 512]) (rest := [.int 1]) rfl rfl rfl rfl rfl (Nat.le_of_ble_eq_true rfl) (Nat.le_of_ble_eq_true rfl) rfl (by decide) (c_len_2) ?_
    rintro _ _ ⟨rfl, rfl⟩
    refine Wp.run 4 (13, [(2, .int 1), (0, .ref 48), (1, .ref 512)], [.int 1, .ref 512, .ref 48], (zsh ++ vs, m11, ml, (zmr g))) rfl ?_
    refine Wp.call (as := [.ref 512, .int 1]) (rest := [.ref 48]) rfl rfl rfl rfl rfl (Nat.le_of_ble_eq_true rfl) (Nat.le_of_ble_eq_true rfl) rfl (by decide) (c_chr_2_1) ?_
    rintro _ _ ⟨rfl, rfl⟩
    refine Wp.run 0 (16, [(2, .int 1), (0, .ref 48), (1, .ref 512)], [.int 97, .ref 48], (zsh ++ vs, m11, ml, (zmr g))) rfl ?_
    refine Wp.call (as := [.ref 48, .int 97]) (rest := []) rfl rfl rfl rfl rfl (Nat.le_of_ble_eq_true rfl) (Nat.le_of_ble_eq_true rfl) rfl (by decide) (c_takes H11 hT hp11 97 (by decide)) ?_
    rintro _ _ (⟨ht12, rfl, m12, rfl, H12⟩ | ⟨ht12, rfl, rfl⟩)
    · have hp12 : p + 1 + 1 ≤ n := zch_lt ht12 (by decide)
      refine Wp.run 3 (2, [(2, .int 2), (0, .ref 48), (1, .ref 512)], [], (zsh ++ vs, m12, ml, (zmr g))) rfl ?_
      refine Wp.run 2 (4, [(2, .int 2), (0, .ref 48), (1, .ref 512)], [.ref 512, .int 2], (zsh ++ vs, m12, ml, (zmr g))) rfl ?_
      refine Wp.call (as := [.ref 512]) (rest := [.int 2]) rfl rfl rfl rfl rfl (Nat.le_of_ble_eq_true rfl) (Nat.le_of_ble_eq_true rfl) rfl (by decide) (c_len_2) ?_
      rintro _ _ ⟨rfl, rfl⟩
      refine Wp.run 4 (13, [(2, .int 2), (0, .ref 48), (1, .ref 512)], [.int 2, .ref 512, .ref 48], (zsh ++ vs, m12, ml, (zmr g))) rfl ?_
      refine Wp.call (as := [.ref 512, .int 2]) (rest := [.ref 48]) rfl rfl rfl rfl rfl (Nat.le_of_ble_eq_true rfl) (Nat.le_of_ble_eq_true rfl) rfl (by decide) (c_chr_2_2) ?_
      rintro _ _ ⟨rfl, rfl⟩
      refine Wp.run 0 (16, [(2, .int 2), (0, .ref 48), (1, .ref 512)], [.int 115, .ref 48], (zsh ++ vs, m12, ml, (zmr g))) rfl ?_
      refine Wp.call (as := [.ref 48, .int 115]) (rest := []) rfl rfl rfl rfl rfl (Nat.le_of_ble_eq_true rfl) (Nat.le_of_ble_eq_true rfl) rfl (by decide) (c_takes H12 hT hp12 115 (by decide)) ?_
      rintro _ _ (⟨ht13, rfl, m13, rfl, H13⟩ | ⟨ht13, rfl, rfl⟩)
      · have hp13 : p + 1 + 1 + 1 ≤ n := zch_lt ht13 (by decide)
        refine Wp.run 3 (2, [(2, .int 3), (0, .ref 48), (1, .ref 512)], [], (zsh ++ vs, m13, ml, (zmr g))) rfl ?_
        refine Wp.run 2 (4, [(2, .int 3), (0, .ref 48), (1, .ref 512)], [.ref 512, .int 3], (zsh ++ vs, m13, ml, (zmr g))) rfl ?_
        refine Wp.call (as := [.ref 512]) (rest := [.int 3]) rfl rfl rfl rfl rfl (Nat.le_of_ble_eq_true rfl) (Nat.le_of_ble_eq_true rfl) rfl (by decide) (c_len_2) ?_
        rintro _ _ ⟨rfl, rfl⟩
        refine Wp.run 4 (13, [(2, .int 3), (0, .ref 48), (1, .ref 512)], [.int 3, .ref 512, .ref 48], (zsh ++ vs, m13, ml, (zmr g))) rfl ?_
        refine Wp.call (as := [.ref 512, .int 3]) (rest := [.ref 48]) rfl rfl rfl rfl rfl (Nat.le_of_ble_eq_true rfl) (Nat.le_of_ble_eq_true rfl) rfl (by decide) (c_chr_2_3) ?_
        rintro _ _ ⟨rfl, rfl⟩
        refine Wp.run 0 (16, [(2, .int 3), (0, .ref 48), (1, .ref 512)], [.int 121, .ref 48], (zsh ++ vs, m13, ml, (zmr g))) rfl ?_
        refine Wp.call (as := [.ref 48, .int 121]) (rest := []) rfl rfl rfl rfl rfl (Nat.le_of_ble_eq_true rfl) (Nat.le_of_ble_eq_true rfl) rfl (by decide) (c_takes H13 hT hp13 121 (by decide)) ?_
        rintro _ _ (⟨ht14, rfl, m14, rfl, H14⟩ | ⟨ht14, rfl, rfl⟩)
        · have hp14 : p + 1 + 1 + 1 + 1 ≤ n := zch_lt ht14 (by decide)
          refine Wp.run 3 (2, [(2, .int 4), (0, .ref 48), (1, .ref 512)], [], (zsh ++ vs, m14, ml, (zmr g))) rfl ?_
          refine Wp.run 2 (4, [(2, .int 4), (0, .ref 48), (1, .ref 512)], [.ref 512, .int 4], (zsh ++ vs, m14, ml, (zmr g))) rfl ?_
          refine Wp.call (as := [.ref 512]) (rest := [.int 4]) rfl rfl rfl rfl rfl (Nat.le_of_ble_eq_true rfl) (Nat.le_of_ble_eq_true rfl) rfl (by decide) (c_len_2) ?_
          rintro _ _ ⟨rfl, rfl⟩
          refine Wp.run 4 (13, [(2, .int 4), (0, .ref 48), (1, .ref 512)], [.int 4, .ref 512, .ref 48], (zsh ++ vs, m14, ml, (zmr g))) rfl ?_
          refine Wp.call (as := [.ref 512, .int 4]) (rest := [.ref 48]) rfl rfl rfl rfl rfl (Nat.le_of_ble_eq_true rfl) (Nat.le_of_ble_eq_true rfl) rfl (by decide) (c_chr_2_4) ?_
          rintro _ _ ⟨rfl, rfl⟩
          refine Wp.run 0 (16, [(2, .int 4), (0, .ref 48), (1, .ref 512)], [.int 32, .ref 48], (zsh ++ vs, m14, ml, (zmr g))) rfl ?_
          refine Wp.call (as := [.ref 48, .int 32]) (rest := []) rfl rfl rfl rfl rfl (Nat.le_of_ble_eq_true rfl) (Nat.le_of_ble_eq_true rfl) rfl (by decide) (c_takes H14 hT hp14 32 (by decide)) ?_
          rintro _ _ (⟨ht15, rfl, m15, rfl, H15⟩ | ⟨ht15, rfl, rfl⟩)
          · have hp15 : p + 1 + 1 + 1 + 1 + 1 ≤ n := zch_lt ht15 (by decide)
            refine Wp.run 3 (2, [(2, .int 5), (0, .ref 48), (1, .ref 512)], [], (zsh ++ vs, m15, ml, (zmr g))) rfl ?_
            refine Wp.run 2 (4, [(2, .int 5), (0, .ref 48), (1, .ref 512)], [.ref 512, .int 5], (zsh ++ vs, m15, ml, (zmr g))) rfl ?_
            refine Wp.call (as := [.ref 512]) (rest := [.int 5]) rfl rfl rfl rfl rfl (Nat.le_of_ble_eq_true rfl) (Nat.le_of_ble_eq_true rfl) rfl (by decide) (c_len_2) ?_
            rintro _ _ ⟨rfl, rfl⟩
            refine Wp.run 2 (31, [(2, .int 5), (0, .ref 48), (1, .ref 512)], [.int 1], (zsh ++ vs, m15, ml, (zmr g))) rfl ?_
            refine Wp.ret rfl rfl rfl ?_
            exact ⟨m15, rfl, by rw [zwd, if_pos ht11, zwd, if_pos ht12, zwd, if_pos ht13, zwd, if_pos ht14, zwd, if_pos ht15, zwd]; exact H15, by rw [zwd, if_pos ht11, zwd, if_pos ht12, zwd, if_pos ht13, zwd, if_pos ht14, zwd, if_pos ht15, zwd]; rfl⟩
          · refine Wp.run 2 (23, [(2, .int 4), (0, .ref 48), (1, .ref 512)], [.int 0], (zsh ++ vs, m14, ml, (zmr g))) rfl ?_
            refine Wp.ret rfl rfl rfl ?_
            exact ⟨m14, rfl, by rw [zwd, if_pos ht11, zwd, if_pos ht12, zwd, if_pos ht13, zwd, if_pos ht14, zwd, if_neg ht15]; exact H14, by rw [zwd, if_pos ht11, zwd, if_pos ht12, zwd, if_pos ht13, zwd, if_pos ht14, zwd, if_neg ht15]; rfl⟩
        · refine Wp.run 2 (23, [(2, .int 3), (0, .ref 48), (1, .ref 512)], [.int 0], (zsh ++ vs, m13, ml, (zmr g))) rfl ?_
          refine Wp.ret rfl rfl rfl ?_
          exact ⟨m13, rfl, by rw [zwd, if_pos ht11, zwd, if_pos ht12, zwd, if_pos ht13, zwd, if_neg ht14]; exact H13, by rw [zwd, if_pos ht11, zwd, if_pos ht12, zwd, if_pos ht13, zwd, if_neg ht14]; rfl⟩
      · refine Wp.run 2 (23, [(2, .int 2), (0, .ref 48), (1, .ref 512)], [.int 0], (zsh ++ vs, m12, ml, (zmr g))) rfl ?_
        refine Wp.ret rfl rfl rfl ?_
        exact ⟨m12, rfl, by rw [zwd, if_pos ht11, zwd, if_pos ht12, zwd, if_neg ht13]; exact H12, by rw [zwd, if_pos ht11, zwd, if_pos ht12, zwd, if_neg ht13]; rfl⟩
    · refine Wp.run 2 (23, [(2, .int 1), (0, .ref 48), (1, .ref 512)], [.int 0], (zsh ++ vs, m11, ml, (zmr g))) rfl ?_
      refine Wp.ret rfl rfl rfl ?_
      exact ⟨m11, rfl, by rw [zwd, if_pos ht11, zwd, if_neg ht12]; exact H11, by rw [zwd, if_pos ht11, zwd, if_neg ht12]; rfl⟩
  · refine Wp.run 2 (23, [(2, .int 0), (0, .ref 48), (1, .ref 512)], [.int 0], (zsh ++ vs, m, ml, (zmr g))) rfl ?_
    refine Wp.ret rfl rfl rfl ?_
    exact ⟨m, rfl, by rw [zwd, if_neg ht11]; exact H, by rw [zwd, if_neg ht11]; rfl⟩
theorem c_idc_L {E : zEn} {w : zW} {q : Nat} (hq : q ≤ 127) : Wp E 0 pg_StringLatin1_indexOfChar 0 (lv_args 0 [.ref 523, .int (nI q), .int 0, .int 6]) [] w (fun r w' => r = some (.int ((zlt (nI q)).elim (-1) nI)) ∧ w' = w) := by
  refine Wp.run 2 (2, [(0, .ref 523), (1, .int (nI q)), (2, .int 0), (3, .int 6)], [.int ((nI q : Int32).toInt8.toInt32)], (w.1, w.2.1, w.2.2.1, w.2.2.2)) rfl ?_
  rw [(zpick hq).2.2.1]
  refine Wp.run 10 (19, [(5, .int 0), (4, .int (nI q)), (0, .ref 523), (1, .int (nI q)), (2, .int 0), (3, .int 6)], [.int (nI q), .int 112], (w.1, w.2.1, w.2.2.1, w.2.2.2)) rfl ?_
  refine Wp.icmp_ne rfl (fun h1 => ?_) (fun h1 => ?_)
  · refine Wp.run 2 (7, [(5, .int 1), (4, .int (nI q)), (0, .ref 523), (1, .int (nI q)), (2, .int 0), (3, .int 6)], [], (w.1, w.2.1, w.2.2.1, w.2.2.2)) rfl ?_
    refine Wp.run 7 (19, [(5, .int 1), (4, .int (nI q)), (0, .ref 523), (1, .int (nI q)), (2, .int 0), (3, .int 6)], [.int (nI q), .int 107], (w.1, w.2.1, w.2.2.1, w.2.2.2)) rfl ?_
    refine Wp.icmp_ne rfl (fun h2 => ?_) (fun h2 => ?_)
    · refine Wp.run 2 (7, [(5, .int 2), (4, .int (nI q)), (0, .ref 523), (1, .int (nI q)), (2, .int 0), (3, .int 6)], [], (w.1, w.2.1, w.2.2.1, w.2.2.2)) rfl ?_
      refine Wp.run 7 (19, [(5, .int 2), (4, .int (nI q)), (0, .ref 523), (1, .int (nI q)), (2, .int 0), (3, .int 6)], [.int (nI q), .int 118], (w.1, w.2.1, w.2.2.1, w.2.2.2)) rfl ?_
      refine Wp.icmp_ne rfl (fun h3 => ?_) (fun h3 => ?_)
      · refine Wp.run 2 (7, [(5, .int 3), (4, .int (nI q)), (0, .ref 523), (1, .int (nI q)), (2, .int 0), (3, .int 6)], [], (w.1, w.2.1, w.2.2.1, w.2.2.2)) rfl ?_
        refine Wp.run 7 (19, [(5, .int 3), (4, .int (nI q)), (0, .ref 523), (1, .int (nI q)), (2, .int 0), (3, .int 6)], [.int (nI q), .int 110], (w.1, w.2.1, w.2.2.1, w.2.2.2)) rfl ?_
        refine Wp.icmp_ne rfl (fun h4 => ?_) (fun h4 => ?_)
        · refine Wp.run 2 (7, [(5, .int 4), (4, .int (nI q)), (0, .ref 523), (1, .int (nI q)), (2, .int 0), (3, .int 6)], [], (w.1, w.2.1, w.2.2.1, w.2.2.2)) rfl ?_
          refine Wp.run 7 (19, [(5, .int 4), (4, .int (nI q)), (0, .ref 523), (1, .int (nI q)), (2, .int 0), (3, .int 6)], [.int (nI q), .int 109], (w.1, w.2.1, w.2.2.1, w.2.2.2)) rfl ?_
          refine Wp.icmp_ne rfl (fun h5 => ?_) (fun h5 => ?_)
          · refine Wp.run 2 (7, [(5, .int 5), (4, .int (nI q)), (0, .ref 523), (1, .int (nI q)), (2, .int 0), (3, .int 6)], [], (w.1, w.2.1, w.2.2.1, w.2.2.2)) rfl ?_
            refine Wp.run 7 (19, [(5, .int 5), (4, .int (nI q)), (0, .ref 523), (1, .int (nI q)), (2, .int 0), (3, .int 6)], [.int (nI q), .int 100], (w.1, w.2.1, w.2.2.1, w.2.2.2)) rfl ?_
            refine Wp.icmp_ne rfl (fun h6 => ?_) (fun h6 => ?_)
            · refine Wp.run 2 (7, [(5, .int 6), (4, .int (nI q)), (0, .ref 523), (1, .int (nI q)), (2, .int 0), (3, .int 6)], [], (w.1, w.2.1, w.2.2.1, w.2.2.2)) rfl ?_
              refine Wp.run 4 (32, [(5, .int 6), (4, .int (nI q)), (0, .ref 523), (1, .int (nI q)), (2, .int 0), (3, .int 6)], [.int (-1)], (w.1, w.2.1, w.2.2.1, w.2.2.2)) rfl ?_
              refine Wp.ret rfl rfl rfl ?_
              exact ⟨by rw [zlt, if_neg (fun e => h1 e.symm), if_neg (fun e => h2 e.symm), if_neg (fun e => h3 e.symm), if_neg (fun e => h4 e.symm), if_neg (fun e => h5 e.symm), if_neg (fun e => h6 e.symm)]; rfl, rfl⟩
            · refine Wp.run 1 (24, [(5, .int 5), (4, .int (nI q)), (0, .ref 523), (1, .int (nI q)), (2, .int 0), (3, .int 6)], [.int 5], (w.1, w.2.1, w.2.2.1, w.2.2.2)) rfl ?_
              refine Wp.ret rfl rfl rfl ?_
              exact ⟨by rw [← h6]; rfl, rfl⟩
          · refine Wp.run 1 (24, [(5, .int 4), (4, .int (nI q)), (0, .ref 523), (1, .int (nI q)), (2, .int 0), (3, .int 6)], [.int 4], (w.1, w.2.1, w.2.2.1, w.2.2.2)) rfl ?_
            refine Wp.ret rfl rfl rfl ?_
            exact ⟨by rw [← h5]; rfl, rfl⟩
        · refine Wp.run 1 (24, [(5, .int 3), (4, .int (nI q)), (0, .ref 523), (1, .int (nI q)), (2, .int 0), (3, .int 6)], [.int 3], (w.1, w.2.1, w.2.2.1, w.2.2.2)) rfl ?_
          refine Wp.ret rfl rfl rfl ?_
          exact ⟨by rw [← h4]; rfl, rfl⟩
      · refine Wp.run 1 (24, [(5, .int 2), (4, .int (nI q)), (0, .ref 523), (1, .int (nI q)), (2, .int 0), (3, .int 6)], [.int 2], (w.1, w.2.1, w.2.2.1, w.2.2.2)) rfl ?_
        refine Wp.ret rfl rfl rfl ?_
        exact ⟨by rw [← h3]; rfl, rfl⟩
    · refine Wp.run 1 (24, [(5, .int 1), (4, .int (nI q)), (0, .ref 523), (1, .int (nI q)), (2, .int 0), (3, .int 6)], [.int 1], (w.1, w.2.1, w.2.2.1, w.2.2.2)) rfl ?_
      refine Wp.ret rfl rfl rfl ?_
      exact ⟨by rw [← h2]; rfl, rfl⟩
  · refine Wp.run 1 (24, [(5, .int 0), (4, .int (nI q)), (0, .ref 523), (1, .int (nI q)), (2, .int 0), (3, .int 6)], [.int 0], (w.1, w.2.1, w.2.2.1, w.2.2.2)) rfl ?_
    refine Wp.ret rfl rfl rfl ?_
    exact ⟨by rw [← h1]; rfl, rfl⟩
theorem c_enc {E : zEn} {w : zW} {q : Nat} (hq : q ≤ 127) : Wp E 0 pg_StringLatin1_canEncode 0 (lv_args 0 [.int (nI q)]) [] w (fun r w' => r = some (.int 1) ∧ w' = w) := by
  refine Wp.run 1 (1, [(0, .int (nI q))], [.int (nI q)], (w.1, w.2.1, w.2.2.1, w.2.2.2)) rfl ?_
  refine Wp.if_lt rfl (fun h1 => ?_) (fun h1 => ?_)
  · exact absurd h1 (zpick hq).1
  · refine Wp.run 2 (8, [(0, .int (nI q))], [.int 255, .int (nI q)], (w.1, w.2.1, w.2.2.1, w.2.2.2)) rfl ?_
    refine Wp.icmp_gt rfl (fun h2 => ?_) (fun h2 => ?_)
    · exact absurd h2 (zpick hq).2.1
    · refine Wp.run 2 (16, [(0, .int (nI q))], [.int 1], (w.1, w.2.1, w.2.2.1, w.2.2.2)) rfl ?_
      refine Wp.ret rfl rfl rfl ?_
      exact ⟨rfl, rfl⟩
theorem c_idx1_L {E : zEn} {w : zW} {q : Nat} (hq : q ≤ 127) : Wp E 1 pg_StringLatin1_indexOf 0 (lv_args 0 [.ref 523, .int (nI q), .int 0, .int 6]) [] w (fun r w' => r = some (.int ((zlt (nI q)).elim (-1) nI)) ∧ w' = w) := by
  refine Wp.run 1 (1, [(0, .ref 523), (1, .int (nI q)), (2, .int 0), (3, .int 6)], [.int (nI q)], (w.1, w.2.1, w.2.2.1, w.2.2.2)) rfl ?_
  refine Wp.call (as := [.int (nI q)]) (rest := []) rfl rfl rfl rfl rfl (Nat.le_of_ble_eq_true rfl) (Nat.le_of_ble_eq_true rfl) rfl (by decide) (c_enc hq) ?_
  rintro _ _ ⟨rfl, rfl⟩
  refine Wp.run 17 (33, [(3, .int 6), (2, .int 0), (0, .ref 523), (1, .int (nI q))], [.int 6, .int 0, .int (nI q), .ref 523], (w.1, w.2.1, w.2.2.1, w.2.2.2)) rfl ?_
  refine Wp.call (as := [.ref 523, .int (nI q), .int 0, .int 6]) (rest := []) rfl rfl rfl rfl rfl (Nat.le_of_ble_eq_true rfl) (Nat.le_of_ble_eq_true rfl) rfl (by decide) (c_idc_L hq) ?_
  rintro _ _ ⟨rfl, rfl⟩
  refine Wp.run 0 (36, [(3, .int 6), (2, .int 0), (0, .ref 523), (1, .int (nI q))], [.int ((zlt (nI q)).elim (-1) nI)], (w.1, w.2.1, w.2.2.1, w.2.2.2)) rfl ?_
  refine Wp.ret rfl rfl rfl ?_
  exact ⟨rfl, rfl⟩
theorem c_slen_L {E : zEn} {w : zW} : Wp E 1 pg_String_length 0 (lv_args 0 [.ref 513]) [] w (fun r w' => r = some (.int 6) ∧ w' = w) := ⟨_, _, ⟨30, rfl⟩, rfl, rfl⟩
theorem c_slat_L {E : zEn} {w : zW} : Wp E 0 pg_String_isLatin1 0 (lv_args 0 [.ref 513]) [] w (fun r w' => r = some (.int 1) ∧ w' = w) := ⟨_, _, ⟨30, rfl⟩, rfl, rfl⟩
theorem c_idx2_L {E : zEn} {w : zW} {q : Nat} (hq : q ≤ 127) : Wp E 2 pg_String_indexOf 0 (lv_args 0 [.ref 513, .int (nI q), .int 0]) [] w (fun r w' => r = some (.int ((zlt (nI q)).elim (-1) nI)) ∧ w' = w) := by
  refine Wp.run 1 (1, [(0, .ref 513), (1, .int (nI q)), (2, .int 0)], [.ref 513], (w.1, w.2.1, w.2.2.1, w.2.2.2)) rfl ?_
  refine Wp.call (as := [.ref 513]) (rest := []) rfl rfl rfl rfl rfl (Nat.le_of_ble_eq_true rfl) (Nat.le_of_ble_eq_true rfl) rfl (by decide) (c_slat_L) ?_
  rintro _ _ ⟨rfl, rfl⟩
  refine Wp.run 6 (14, [(0, .ref 513), (1, .int (nI q)), (2, .int 0)], [.ref 513, .int 0, .int (nI q), .ref 523], (w.1, w.2.1, w.2.2.1, w.2.2.2)) rfl ?_
  refine Wp.call (as := [.ref 513]) (rest := [.int 0, .int (nI q), .ref 523]) rfl rfl rfl rfl rfl (Nat.le_of_ble_eq_true rfl) (Nat.le_of_ble_eq_true rfl) rfl (by decide) (c_slen_L) ?_
  rintro _ _ ⟨rfl, rfl⟩
  refine Wp.run 0 (17, [(0, .ref 513), (1, .int (nI q)), (2, .int 0)], [.int 6, .int 0, .int (nI q), .ref 523], (w.1, w.2.1, w.2.2.1, w.2.2.2)) rfl ?_
  refine Wp.call (as := [.ref 523, .int (nI q), .int 0, .int 6]) (rest := []) rfl rfl rfl rfl rfl (Nat.le_of_ble_eq_true rfl) (Nat.le_of_ble_eq_true rfl) rfl (by decide) (c_idx1_L hq) ?_
  rintro _ _ ⟨rfl, rfl⟩
  refine Wp.run 1 (36, [(0, .ref 513), (1, .int (nI q)), (2, .int 0)], [.int ((zlt (nI q)).elim (-1) nI)], (w.1, w.2.1, w.2.2.1, w.2.2.2)) rfl ?_
  refine Wp.ret rfl rfl rfl ?_
  exact ⟨rfl, rfl⟩
theorem c_idx_L {E : zEn} {w : zW} {q : Nat} (hq : q ≤ 127) : Wp E 3 pg_String_indexOf2 0 (lv_args 0 [.ref 513, .int (nI q)]) [] w (fun r w' => r = some (.int ((zlt (nI q)).elim (-1) nI)) ∧ w' = w) := by
  refine Wp.run 3 (3, [(0, .ref 513), (1, .int (nI q))], [.int 0, .int (nI q), .ref 513], (w.1, w.2.1, w.2.2.1, w.2.2.2)) rfl ?_
  refine Wp.call (as := [.ref 513, .int (nI q), .int 0]) (rest := []) rfl rfl rfl rfl rfl (Nat.le_of_ble_eq_true rfl) (Nat.le_of_ble_eq_true rfl) rfl (by decide) (c_idx2_L hq) ?_
  rintro _ _ ⟨rfl, rfl⟩
  refine Wp.run 0 (6, [(0, .ref 513), (1, .int (nI q))], [.int ((zlt (nI q)).elim (-1) nI)], (w.1, w.2.1, w.2.2.1, w.2.2.2)) rfl ?_
  refine Wp.ret rfl rfl rfl ?_
  exact ⟨rfl, rfl⟩
theorem c_oneOf_L {E : zEn} {vs : List (Nat × Nat)} {mi : Nat → Nat → Int32} {ml : Nat → Nat → Int64} {g : Nat → Nat → Option Nat} {T : Nat → Int32} {m : Nat → Nat → Int32} {a : Int32} {n p : Nat} {l : List Int32} (H : TS T mi m a n p l) (hT : tOK T n) (hp : p ≤ n) : Wp E 4 pg_Text_takeOneOf 0 (lv_args 0 [.ref 48, .ref 513]) [] (zsh ++ vs, m, ml, (zmr g)) (fun r w' => (zlt (zch T n p) = none ∧ r = some (.int (-1)) ∧ w' = (zsh ++ vs, m, ml, zmr g)) ∨ ∃ k m', zlt (zch T n p) = some k ∧ r = some (.int (nI k)) ∧ w' = (zsh ++ vs, m', ml, zmr g) ∧ TS T mi m' a n (p + 1) l) := by
  refine Wp.run 4 (8, [(0, .ref 48), (1, .ref 513)], [.int (m 48 0), .int (m 48 1)], (zsh ++ vs, m, ml, (zmr g))) rfl ?_
  rw [H.2.1, H.2.2.1]
  refine Wp.run 0 (8, [(0, .ref 48), (1, .ref 513)], [.int (nI n), .int (nI p)], (zsh ++ vs, m, ml, (zmr g))) rfl ?_
  refine Wp.icmp_ge rfl (fun h1 => ?_) (fun h1 => ?_)
  · have hlt : ¬ p < n := fun q => nI_ge q (by have := hT.1; omega) h1
    refine Wp.run 5 (45, [(2, .int (-1)), (0, .ref 48), (1, .ref 513)], [.int (-1)], (zsh ++ vs, m, ml, (zmr g))) rfl ?_
    refine Wp.ret rfl rfl rfl ?_
    exact Or.inl ⟨by rw [zch, if_neg hlt]; rfl, rfl, rfl⟩
  · have hlt : p < n := Nat.lt_of_not_le (fun q => h1 (nI_le q (by have := hT.1; omega)))
    refine Wp.run 5 (20, [(0, .ref 48), (1, .ref 513)], [.int (m 48 1), .ref 49, .ref 513], (zsh ++ vs, m, ml, (zmr g))) rfl ?_
    rw [H.2.2.1]
    refine Wp.ialn rfl (by decide) rfl (by have := hT.1; omega) (by decide) ?_
    refine Wp.run 0 (21, [(0, .ref 48), (1, .ref 513)], [.int (m 49 p), .ref 513], (zsh ++ vs, m, ml, (zmr g))) rfl ?_
    obtain ⟨q, hq, eq⟩ := hT.2 p hlt
    rw [H.2.2.2.2.2.2 p hlt, eq]
    refine Wp.run 1 (22, [(0, .ref 48), (1, .ref 513)], [.int (((nI q : Int32).toUInt32 % 65536).toInt32), .ref 513], (zsh ++ vs, m, ml, (zmr g))) rfl ?_
    rw [(zpick hq).2.2.2]
    have ez : zch T n p = nI q := by rw [zch, if_pos hlt, eq]
    refine Wp.run 0 (22, [(0, .ref 48), (1, .ref 513)], [.int (nI q), .ref 513], (zsh ++ vs, m, ml, (zmr g))) rfl ?_
    refine Wp.call (as := [.ref 513, .int (nI q)]) (rest := []) rfl rfl rfl rfl rfl (Nat.le_of_ble_eq_true rfl) (Nat.le_of_ble_eq_true rfl) rfl (by decide) (c_idx_L hq) ?_
    rintro _ _ ⟨rfl, rfl⟩
    rcases hz : zlt (nI q) with _ | k9
    · refine Wp.run 5 (45, [(2, .int (-1)), (0, .ref 48), (1, .ref 513)], [.int (-1)], (zsh ++ vs, m, ml, (zmr g))) rfl ?_
      refine Wp.ret rfl rfl rfl ?_
      exact Or.inl ⟨by rw [ez, hz], rfl, rfl⟩
    · refine Wp.run 3 (31, [(2, .int (nI k9)), (0, .ref 48), (1, .ref 513)], [.int (nI k9)], (zsh ++ vs, m, ml, (zmr g))) rfl ?_
      refine Wp.if_lt rfl (fun h2 => ?_) (fun h2 => ?_)
      · exact absurd h2 (nI_pos (by have := (zlt_ok hz).1; omega))
      · refine Wp.run 7 (45, [(2, .int (nI k9)), (0, .ref 48), (1, .ref 513)], [.int (nI k9)], (zsh ++ vs, (zup m 48 1 ((m 48 1) + 1)), ml, (zmr g))) rfl ?_
        refine Wp.ret rfl rfl rfl ?_
        exact Or.inr ⟨k9, _, by rw [ez, hz], rfl, rfl, H.adv⟩
theorem c_idc_S {E : zEn} {w : zW} {q : Nat} (hq : q ≤ 127) : Wp E 0 pg_StringLatin1_indexOfChar 0 (lv_args 0 [.ref 524, .int (nI q), .int 0, .int 3]) [] w (fun r w' => r = some (.int ((zsg (nI q)).elim (-1) nI)) ∧ w' = w) := by
  refine Wp.run 2 (2, [(0, .ref 524), (1, .int (nI q)), (2, .int 0), (3, .int 3)], [.int ((nI q : Int32).toInt8.toInt32)], (w.1, w.2.1, w.2.2.1, w.2.2.2)) rfl ?_
  rw [(zpick hq).2.2.1]
  refine Wp.run 10 (19, [(5, .int 0), (4, .int (nI q)), (0, .ref 524), (1, .int (nI q)), (2, .int 0), (3, .int 3)], [.int (nI q), .int 60], (w.1, w.2.1, w.2.2.1, w.2.2.2)) rfl ?_
  refine Wp.icmp_ne rfl (fun h1 => ?_) (fun h1 => ?_)
  · refine Wp.run 2 (7, [(5, .int 1), (4, .int (nI q)), (0, .ref 524), (1, .int (nI q)), (2, .int 0), (3, .int 3)], [], (w.1, w.2.1, w.2.2.1, w.2.2.2)) rfl ?_
    refine Wp.run 7 (19, [(5, .int 1), (4, .int (nI q)), (0, .ref 524), (1, .int (nI q)), (2, .int 0), (3, .int 3)], [.int (nI q), .int 61], (w.1, w.2.1, w.2.2.1, w.2.2.2)) rfl ?_
    refine Wp.icmp_ne rfl (fun h2 => ?_) (fun h2 => ?_)
    · refine Wp.run 2 (7, [(5, .int 2), (4, .int (nI q)), (0, .ref 524), (1, .int (nI q)), (2, .int 0), (3, .int 3)], [], (w.1, w.2.1, w.2.2.1, w.2.2.2)) rfl ?_
      refine Wp.run 7 (19, [(5, .int 2), (4, .int (nI q)), (0, .ref 524), (1, .int (nI q)), (2, .int 0), (3, .int 3)], [.int (nI q), .int 62], (w.1, w.2.1, w.2.2.1, w.2.2.2)) rfl ?_
      refine Wp.icmp_ne rfl (fun h3 => ?_) (fun h3 => ?_)
      · refine Wp.run 2 (7, [(5, .int 3), (4, .int (nI q)), (0, .ref 524), (1, .int (nI q)), (2, .int 0), (3, .int 3)], [], (w.1, w.2.1, w.2.2.1, w.2.2.2)) rfl ?_
        refine Wp.run 4 (32, [(5, .int 3), (4, .int (nI q)), (0, .ref 524), (1, .int (nI q)), (2, .int 0), (3, .int 3)], [.int (-1)], (w.1, w.2.1, w.2.2.1, w.2.2.2)) rfl ?_
        refine Wp.ret rfl rfl rfl ?_
        exact ⟨by rw [zsg, if_neg (fun e => h1 e.symm), if_neg (fun e => h2 e.symm), if_neg (fun e => h3 e.symm)]; rfl, rfl⟩
      · refine Wp.run 1 (24, [(5, .int 2), (4, .int (nI q)), (0, .ref 524), (1, .int (nI q)), (2, .int 0), (3, .int 3)], [.int 2], (w.1, w.2.1, w.2.2.1, w.2.2.2)) rfl ?_
        refine Wp.ret rfl rfl rfl ?_
        exact ⟨by rw [← h3]; rfl, rfl⟩
    · refine Wp.run 1 (24, [(5, .int 1), (4, .int (nI q)), (0, .ref 524), (1, .int (nI q)), (2, .int 0), (3, .int 3)], [.int 1], (w.1, w.2.1, w.2.2.1, w.2.2.2)) rfl ?_
      refine Wp.ret rfl rfl rfl ?_
      exact ⟨by rw [← h2]; rfl, rfl⟩
  · refine Wp.run 1 (24, [(5, .int 0), (4, .int (nI q)), (0, .ref 524), (1, .int (nI q)), (2, .int 0), (3, .int 3)], [.int 0], (w.1, w.2.1, w.2.2.1, w.2.2.2)) rfl ?_
    refine Wp.ret rfl rfl rfl ?_
    exact ⟨by rw [← h1]; rfl, rfl⟩
theorem c_idx1_S {E : zEn} {w : zW} {q : Nat} (hq : q ≤ 127) : Wp E 1 pg_StringLatin1_indexOf 0 (lv_args 0 [.ref 524, .int (nI q), .int 0, .int 3]) [] w (fun r w' => r = some (.int ((zsg (nI q)).elim (-1) nI)) ∧ w' = w) := by
  refine Wp.run 1 (1, [(0, .ref 524), (1, .int (nI q)), (2, .int 0), (3, .int 3)], [.int (nI q)], (w.1, w.2.1, w.2.2.1, w.2.2.2)) rfl ?_
  refine Wp.call (as := [.int (nI q)]) (rest := []) rfl rfl rfl rfl rfl (Nat.le_of_ble_eq_true rfl) (Nat.le_of_ble_eq_true rfl) rfl (by decide) (c_enc hq) ?_
  rintro _ _ ⟨rfl, rfl⟩
  refine Wp.run 17 (33, [(3, .int 3), (2, .int 0), (0, .ref 524), (1, .int (nI q))], [.int 3, .int 0, .int (nI q), .ref 524], (w.1, w.2.1, w.2.2.1, w.2.2.2)) rfl ?_
  refine Wp.call (as := [.ref 524, .int (nI q), .int 0, .int 3]) (rest := []) rfl rfl rfl rfl rfl (Nat.le_of_ble_eq_true rfl) (Nat.le_of_ble_eq_true rfl) rfl (by decide) (c_idc_S hq) ?_
  rintro _ _ ⟨rfl, rfl⟩
  refine Wp.run 0 (36, [(3, .int 3), (2, .int 0), (0, .ref 524), (1, .int (nI q))], [.int ((zsg (nI q)).elim (-1) nI)], (w.1, w.2.1, w.2.2.1, w.2.2.2)) rfl ?_
  refine Wp.ret rfl rfl rfl ?_
  exact ⟨rfl, rfl⟩
theorem c_slen_S {E : zEn} {w : zW} : Wp E 1 pg_String_length 0 (lv_args 0 [.ref 514]) [] w (fun r w' => r = some (.int 3) ∧ w' = w) := ⟨_, _, ⟨30, rfl⟩, rfl, rfl⟩
theorem c_slat_S {E : zEn} {w : zW} : Wp E 0 pg_String_isLatin1 0 (lv_args 0 [.ref 514]) [] w (fun r w' => r = some (.int 1) ∧ w' = w) := ⟨_, _, ⟨30, rfl⟩, rfl, rfl⟩
theorem c_idx2_S {E : zEn} {w : zW} {q : Nat} (hq : q ≤ 127) : Wp E 2 pg_String_indexOf 0 (lv_args 0 [.ref 514, .int (nI q), .int 0]) [] w (fun r w' => r = some (.int ((zsg (nI q)).elim (-1) nI)) ∧ w' = w) := by
  refine Wp.run 1 (1, [(0, .ref 514), (1, .int (nI q)), (2, .int 0)], [.ref 514], (w.1, w.2.1, w.2.2.1, w.2.2.2)) rfl ?_
  refine Wp.call (as := [.ref 514]) (rest := []) rfl rfl rfl rfl rfl (Nat.le_of_ble_eq_true rfl) (Nat.le_of_ble_eq_true rfl) rfl (by decide) (c_slat_S) ?_
  rintro _ _ ⟨rfl, rfl⟩
  refine Wp.run 6 (14, [(0, .ref 514), (1, .int (nI q)), (2, .int 0)], [.ref 514, .int 0, .int (nI q), .ref 524], (w.1, w.2.1, w.2.2.1, w.2.2.2)) rfl ?_
  refine Wp.call (as := [.ref 514]) (rest := [.int 0, .int (nI q), .ref 524]) rfl rfl rfl rfl rfl (Nat.le_of_ble_eq_true rfl) (Nat.le_of_ble_eq_true rfl) rfl (by decide) (c_slen_S) ?_
  rintro _ _ ⟨rfl, rfl⟩
  refine Wp.run 0 (17, [(0, .ref 514), (1, .int (nI q)), (2, .int 0)], [.int 3, .int 0, .int (nI q), .ref 524], (w.1, w.2.1, w.2.2.1, w.2.2.2)) rfl ?_
  refine Wp.call (as := [.ref 524, .int (nI q), .int 0, .int 3]) (rest := []) rfl rfl rfl rfl rfl (Nat.le_of_ble_eq_true rfl) (Nat.le_of_ble_eq_true rfl) rfl (by decide) (c_idx1_S hq) ?_
  rintro _ _ ⟨rfl, rfl⟩
  refine Wp.run 1 (36, [(0, .ref 514), (1, .int (nI q)), (2, .int 0)], [.int ((zsg (nI q)).elim (-1) nI)], (w.1, w.2.1, w.2.2.1, w.2.2.2)) rfl ?_
  refine Wp.ret rfl rfl rfl ?_
  exact ⟨rfl, rfl⟩
theorem c_idx_S {E : zEn} {w : zW} {q : Nat} (hq : q ≤ 127) : Wp E 3 pg_String_indexOf2 0 (lv_args 0 [.ref 514, .int (nI q)]) [] w (fun r w' => r = some (.int ((zsg (nI q)).elim (-1) nI)) ∧ w' = w) := by
  refine Wp.run 3 (3, [(0, .ref 514), (1, .int (nI q))], [.int 0, .int (nI q), .ref 514], (w.1, w.2.1, w.2.2.1, w.2.2.2)) rfl ?_
  refine Wp.call (as := [.ref 514, .int (nI q), .int 0]) (rest := []) rfl rfl rfl rfl rfl (Nat.le_of_ble_eq_true rfl) (Nat.le_of_ble_eq_true rfl) rfl (by decide) (c_idx2_S hq) ?_
  rintro _ _ ⟨rfl, rfl⟩
  refine Wp.run 0 (6, [(0, .ref 514), (1, .int (nI q))], [.int ((zsg (nI q)).elim (-1) nI)], (w.1, w.2.1, w.2.2.1, w.2.2.2)) rfl ?_
  refine Wp.ret rfl rfl rfl ?_
  exact ⟨rfl, rfl⟩
theorem c_oneOf_S {E : zEn} {vs : List (Nat × Nat)} {mi : Nat → Nat → Int32} {ml : Nat → Nat → Int64} {g : Nat → Nat → Option Nat} {T : Nat → Int32} {m : Nat → Nat → Int32} {a : Int32} {n p : Nat} {l : List Int32} (H : TS T mi m a n p l) (hT : tOK T n) (hp : p ≤ n) : Wp E 4 pg_Text_takeOneOf 0 (lv_args 0 [.ref 48, .ref 514]) [] (zsh ++ vs, m, ml, (zmr g)) (fun r w' => (zsg (zch T n p) = none ∧ r = some (.int (-1)) ∧ w' = (zsh ++ vs, m, ml, zmr g)) ∨ ∃ k m', zsg (zch T n p) = some k ∧ r = some (.int (nI k)) ∧ w' = (zsh ++ vs, m', ml, zmr g) ∧ TS T mi m' a n (p + 1) l) := by
  refine Wp.run 4 (8, [(0, .ref 48), (1, .ref 514)], [.int (m 48 0), .int (m 48 1)], (zsh ++ vs, m, ml, (zmr g))) rfl ?_
  rw [H.2.1, H.2.2.1]
  refine Wp.run 0 (8, [(0, .ref 48), (1, .ref 514)], [.int (nI n), .int (nI p)], (zsh ++ vs, m, ml, (zmr g))) rfl ?_
  refine Wp.icmp_ge rfl (fun h1 => ?_) (fun h1 => ?_)
  · have hlt : ¬ p < n := fun q => nI_ge q (by have := hT.1; omega) h1
    refine Wp.run 5 (45, [(2, .int (-1)), (0, .ref 48), (1, .ref 514)], [.int (-1)], (zsh ++ vs, m, ml, (zmr g))) rfl ?_
    refine Wp.ret rfl rfl rfl ?_
    exact Or.inl ⟨by rw [zch, if_neg hlt]; rfl, rfl, rfl⟩
  · have hlt : p < n := Nat.lt_of_not_le (fun q => h1 (nI_le q (by have := hT.1; omega)))
    refine Wp.run 5 (20, [(0, .ref 48), (1, .ref 514)], [.int (m 48 1), .ref 49, .ref 514], (zsh ++ vs, m, ml, (zmr g))) rfl ?_
    rw [H.2.2.1]
    refine Wp.ialn rfl (by decide) rfl (by have := hT.1; omega) (by decide) ?_
    refine Wp.run 0 (21, [(0, .ref 48), (1, .ref 514)], [.int (m 49 p), .ref 514], (zsh ++ vs, m, ml, (zmr g))) rfl ?_
    obtain ⟨q, hq, eq⟩ := hT.2 p hlt
    rw [H.2.2.2.2.2.2 p hlt, eq]
    refine Wp.run 1 (22, [(0, .ref 48), (1, .ref 514)], [.int (((nI q : Int32).toUInt32 % 65536).toInt32), .ref 514], (zsh ++ vs, m, ml, (zmr g))) rfl ?_
    rw [(zpick hq).2.2.2]
    have ez : zch T n p = nI q := by rw [zch, if_pos hlt, eq]
    refine Wp.run 0 (22, [(0, .ref 48), (1, .ref 514)], [.int (nI q), .ref 514], (zsh ++ vs, m, ml, (zmr g))) rfl ?_
    refine Wp.call (as := [.ref 514, .int (nI q)]) (rest := []) rfl rfl rfl rfl rfl (Nat.le_of_ble_eq_true rfl) (Nat.le_of_ble_eq_true rfl) rfl (by decide) (c_idx_S hq) ?_
    rintro _ _ ⟨rfl, rfl⟩
    rcases hz : zsg (nI q) with _ | k9
    · refine Wp.run 5 (45, [(2, .int (-1)), (0, .ref 48), (1, .ref 514)], [.int (-1)], (zsh ++ vs, m, ml, (zmr g))) rfl ?_
      refine Wp.ret rfl rfl rfl ?_
      exact Or.inl ⟨by rw [ez, hz], rfl, rfl⟩
    · refine Wp.run 3 (31, [(2, .int (nI k9)), (0, .ref 48), (1, .ref 514)], [.int (nI k9)], (zsh ++ vs, m, ml, (zmr g))) rfl ?_
      refine Wp.if_lt rfl (fun h2 => ?_) (fun h2 => ?_)
      · exact absurd h2 (nI_pos (by have := (zsg_ok hz).1; omega))
      · refine Wp.run 7 (45, [(2, .int (nI k9)), (0, .ref 48), (1, .ref 514)], [.int (nI k9)], (zsh ++ vs, (zup m 48 1 ((m 48 1) + 1)), ml, (zmr g))) rfl ?_
        refine Wp.ret rfl rfl rfl ?_
        exact Or.inr ⟨k9, _, by rw [ez, hz], rfl, rfl, H.adv⟩
theorem num2 {d e : Nat} {c : Int32} (hd : d ≤ 9) (hc : c - 48 = nI e) : ((if nI d < 0 then 0 else nI d) * 10) + c - 48 = nI (10 * d + e) := by
  rw [if_neg (nI_pos (by omega)), show (10 : Int32) = nI 10 from rfl, pk_mul, Int32.sub_eq_add_neg, Int32.add_assoc, ← Int32.sub_eq_add_neg, hc, nI_add, Nat.mul_comm]
theorem c_num {E : zEn} {vs : List (Nat × Nat)} {mi : Nat → Nat → Int32} {ml : Nat → Nat → Int64} {g : Nat → Nat → Option Nat} {T : Nat → Int32} {m : Nat → Nat → Int32} {a : Int32} {n p : Nat} {l : List Int32} (H : TS T mi m a n p l) (hT : tOK T n) (hp : p ≤ n) : Wp E 1 pg_Text_takeNumber 0 (lv_args 0 [.ref 48]) [] (zsh ++ vs, m, ml, (zmr g)) (fun r w' => (znum T n p = none ∧ r = some (.int (-1)) ∧ w' = (zsh ++ vs, m, ml, zmr g)) ∨ ∃ x m', znum T n p = some x ∧ r = some (.int (nI x.1)) ∧ w' = (zsh ++ vs, m', ml, zmr g) ∧ TS T mi m' a n x.2 l) := by
  refine Wp.run 8 (10, [(2, .int 0), (1, .int (-1)), (0, .ref 48)], [.ref 48], (zsh ++ vs, m, ml, (zmr g))) rfl ?_
  refine Wp.call (as := [.ref 48]) (rest := []) rfl rfl rfl rfl rfl (Nat.le_of_ble_eq_true rfl) (Nat.le_of_ble_eq_true rfl) rfl (by decide) (c_next H hT hp) ?_
  rintro _ _ ⟨rfl, rfl⟩
  refine Wp.run 1 (15, [(2, .int 0), (1, .int (-1)), (0, .ref 48)], [.int 48, .int (zch T n p)], (zsh ++ vs, m, ml, (zmr g))) rfl ?_
  refine Wp.icmp_lt rfl (fun h1 => ?_) (fun h1 => ?_)
  · refine Wp.run 1 (61, [(2, .int 0), (1, .int (-1)), (0, .ref 48)], [.int (-1)], (zsh ++ vs, m, ml, (zmr g))) rfl ?_
    refine Wp.ret rfl rfl rfl ?_
    exact Or.inl ⟨by rw [znum, if_neg (fun q : zdg (zch T n p) => Int32.not_lt.mpr q.1 h1)], rfl, rfl⟩
  · refine Wp.run 1 (19, [(2, .int 0), (1, .int (-1)), (0, .ref 48)], [.ref 48], (zsh ++ vs, m, ml, (zmr g))) rfl ?_
    refine Wp.call (as := [.ref 48]) (rest := []) rfl rfl rfl rfl rfl (Nat.le_of_ble_eq_true rfl) (Nat.le_of_ble_eq_true rfl) rfl (by decide) (c_next H hT hp) ?_
    rintro _ _ ⟨rfl, rfl⟩
    refine Wp.run 1 (24, [(2, .int 0), (1, .int (-1)), (0, .ref 48)], [.int 57, .int (zch T n p)], (zsh ++ vs, m, ml, (zmr g))) rfl ?_
    refine Wp.icmp_gt rfl (fun h2 => ?_) (fun h2 => ?_)
    · refine Wp.run 1 (61, [(2, .int 0), (1, .int (-1)), (0, .ref 48)], [.int (-1)], (zsh ++ vs, m, ml, (zmr g))) rfl ?_
      refine Wp.ret rfl rfl rfl ?_
      exact Or.inl ⟨by rw [znum, if_neg (fun q : zdg (zch T n p) => Int32.not_lt.mpr q.2 h2)], rfl, rfl⟩
    · refine Wp.run 6 (36, [(2, .int 0), (1, .int (-1)), (0, .ref 48)], [.ref 48, .int 0], (zsh ++ vs, m, ml, (zmr g))) rfl ?_
      refine Wp.call (as := [.ref 48]) (rest := [.int 0]) rfl rfl rfl rfl rfl (Nat.le_of_ble_eq_true rfl) (Nat.le_of_ble_eq_true rfl) rfl (by decide) (c_next H hT hp) ?_
      rintro _ _ ⟨rfl, rfl⟩
      refine Wp.run 10 (54, [(1, .int ((0 + (zch T n p)) - 48)), (2, .int 0), (0, .ref 48)], [], (zsh ++ vs, (zup m 48 1 ((m 48 1) + 1)), ml, (zmr g))) rfl ?_
      obtain ⟨m16, hm16⟩ : ∃ m9, m9 = (zup m 48 1 ((m 48 1) + 1)) := ⟨_, rfl⟩
      rw [← hm16]
      have H16 : TS T mi m16 a n (p + 1) l := by rw [hm16]; exact H.adv
      have dg16 : zdg (zch T n p) := ⟨Int32.not_lt.mp h1, Int32.not_lt.mp h2⟩
      have hp16 : p + 1 ≤ n := zdg_lt dg16
      have dv16 := (zdg_v dg16).1
      rw [show (0 + (zch T n p)) - 48 = nI (zdv (zch T n p)) from by rw [Int32.zero_add]; exact dv16]
      refine Wp.run 2 (4, [(2, .int 1), (1, .int (nI (zdv (zch T n p)))), (0, .ref 48)], [], (zsh ++ vs, m16, ml, (zmr g))) rfl ?_
      refine Wp.run 4 (10, [(2, .int 1), (1, .int (nI (zdv (zch T n p)))), (0, .ref 48)], [.ref 48], (zsh ++ vs, m16, ml, (zmr g))) rfl ?_
      refine Wp.call (as := [.ref 48]) (rest := []) rfl rfl rfl rfl rfl (Nat.le_of_ble_eq_true rfl) (Nat.le_of_ble_eq_true rfl) rfl (by decide) (c_next H16 hT hp16) ?_
      rintro _ _ ⟨rfl, rfl⟩
      refine Wp.run 1 (15, [(2, .int 1), (1, .int (nI (zdv (zch T n p)))), (0, .ref 48)], [.int 48, .int (zch T n (p + 1))], (zsh ++ vs, m16, ml, (zmr g))) rfl ?_
      refine Wp.icmp_lt rfl (fun h3 => ?_) (fun h3 => ?_)
      · refine Wp.run 1 (61, [(2, .int 1), (1, .int (nI (zdv (zch T n p)))), (0, .ref 48)], [.int (nI (zdv (zch T n p)))], (zsh ++ vs, m16, ml, (zmr g))) rfl ?_
        refine Wp.ret rfl rfl rfl ?_
        exact Or.inr ⟨(zdv (zch T n p), p + 1), _, by rw [znum, if_pos dg16, if_neg (fun q : zdg (zch T n (p + 1)) => Int32.not_lt.mpr q.1 h3)], rfl, rfl, H16⟩
      · refine Wp.run 1 (19, [(2, .int 1), (1, .int (nI (zdv (zch T n p)))), (0, .ref 48)], [.ref 48], (zsh ++ vs, m16, ml, (zmr g))) rfl ?_
        refine Wp.call (as := [.ref 48]) (rest := []) rfl rfl rfl rfl rfl (Nat.le_of_ble_eq_true rfl) (Nat.le_of_ble_eq_true rfl) rfl (by decide) (c_next H16 hT hp16) ?_
        rintro _ _ ⟨rfl, rfl⟩
        refine Wp.run 1 (24, [(2, .int 1), (1, .int (nI (zdv (zch T n p)))), (0, .ref 48)], [.int 57, .int (zch T n (p + 1))], (zsh ++ vs, m16, ml, (zmr g))) rfl ?_
        refine Wp.icmp_gt rfl (fun h4 => ?_) (fun h4 => ?_)
        · refine Wp.run 1 (61, [(2, .int 1), (1, .int (nI (zdv (zch T n p)))), (0, .ref 48)], [.int (nI (zdv (zch T n p)))], (zsh ++ vs, m16, ml, (zmr g))) rfl ?_
          refine Wp.ret rfl rfl rfl ?_
          exact Or.inr ⟨(zdv (zch T n p), p + 1), _, by rw [znum, if_pos dg16, if_neg (fun q : zdg (zch T n (p + 1)) => Int32.not_lt.mpr q.2 h4)], rfl, rfl, H16⟩
        · refine Wp.run 6 (36, [(2, .int 1), (1, .int (nI (zdv (zch T n p)))), (0, .ref 48)], [.ref 48, .int ((if nI (zdv (zch T n p)) < 0 then 0 else nI (zdv (zch T n p))) * 10)], (zsh ++ vs, m16, ml, (zmr g))) rfl ?_
          refine Wp.call (as := [.ref 48]) (rest := [.int ((if nI (zdv (zch T n p)) < 0 then 0 else nI (zdv (zch T n p))) * 10)]) rfl rfl rfl rfl rfl (Nat.le_of_ble_eq_true rfl) (Nat.le_of_ble_eq_true rfl) rfl (by decide) (c_next H16 hT hp16) ?_
          rintro _ _ ⟨rfl, rfl⟩
          refine Wp.run 10 (54, [(1, .int ((((if nI (zdv (zch T n p)) < 0 then 0 else nI (zdv (zch T n p))) * 10) + (zch T n (p + 1))) - 48)), (2, .int 1), (0, .ref 48)], [], (zsh ++ vs, (zup m16 48 1 ((m16 48 1) + 1)), ml, (zmr g))) rfl ?_
          obtain ⟨m17, hm17⟩ : ∃ m9, m9 = (zup m16 48 1 ((m16 48 1) + 1)) := ⟨_, rfl⟩
          rw [← hm17]
          have H17 : TS T mi m17 a n (p + 1 + 1) l := by rw [hm17]; exact H16.adv
          have dg17 : zdg (zch T n (p + 1)) := ⟨Int32.not_lt.mp h3, Int32.not_lt.mp h4⟩
          have hp17 : p + 1 + 1 ≤ n := zdg_lt dg17
          have dv17 := (zdg_v dg17).1
          have e17 : (((if nI (zdv (zch T n p)) < 0 then 0 else nI (zdv (zch T n p))) * 10) + (zch T n (p + 1))) - 48 = nI (10 * zdv (zch T n p) + zdv (zch T n (p + 1))) := num2 (zdg_v dg16).2 dv17
          rw [e17]
          refine Wp.run 2 (4, [(2, .int 2), (1, .int (nI (10 * zdv (zch T n p) + zdv (zch T n (p + 1))))), (0, .ref 48)], [], (zsh ++ vs, m17, ml, (zmr g))) rfl ?_
          refine Wp.run 4 (61, [(2, .int 2), (1, .int (nI (10 * zdv (zch T n p) + zdv (zch T n (p + 1))))), (0, .ref 48)], [.int (nI (10 * zdv (zch T n p) + zdv (zch T n (p + 1))))], (zsh ++ vs, m17, ml, (zmr g))) rfl ?_
          refine Wp.ret rfl rfl rfl ?_
          exact Or.inr ⟨(10 * zdv (zch T n p) + zdv (zch T n (p + 1)), p + 2), _, by rw [znum, if_pos dg16, if_pos dg17], rfl, rfl, H17⟩
theorem tst3 (l s v : Nat) : nI l * 300 + nI s * 100 + nI v = nI (300 * l + 100 * s + v) := by
  rw [show (300 : Int32) = nI 300 from rfl, show (100 : Int32) = nI 100 from rfl, pk_mul, pk_mul, nI_add, nI_add, Nat.mul_comm l, Nat.mul_comm s]
theorem ztest_l {T : Nat → Int32} {n p : Nat} (h : zlt (zch T n p) = none) : ztest T n p = (none, p) := by rw [ztest, h]
theorem ztest_s {T : Nat → Int32} {n p k : Nat} (h : zlt (zch T n p) = some k) (h2 : zsg (zch T n (p + 1)) = none) : ztest T n p = (none, p + 1) := by rw [ztest, h]; simp only [h2]
theorem ztest_n {T : Nat → Int32} {n p k s : Nat} (h : zlt (zch T n p) = some k) (h2 : zsg (zch T n (p + 1)) = some s) (h3 : znum T n (p + 1 + 1) = none) : ztest T n p = (none, p + 2) := by rw [ztest, h]; simp only [h2, show znum T n (p + 2) = none from h3]
theorem ztest_y {T : Nat → Int32} {n p k s : Nat} {x : Nat × Nat} (h : zlt (zch T n p) = some k) (h2 : zsg (zch T n (p + 1)) = some s) (h3 : znum T n (p + 1 + 1) = some x) : ztest T n p = (some (zTs k s x.1), x.2) := by rw [ztest, h]; simp only [h2, show znum T n (p + 2) = some x from h3]
/-- what a reader of the class leaves -/
def cP (T : Nat → Int32) (mi : Nat → Nat → Int32) (a : Int32) (n : Nat) (l : List Int32) (vs : List (Nat × Nat)) (ml : Nat → Nat → Int64) (g : Nat → Nat → Option Nat) (res : zRs) (r : Option Value) (w' : zW) : Prop :=
  ∃ m', w' = (zsh ++ vs, m', ml, zmr g) ∧ ((∃ t, res.1 = some t ∧ r = some (.int 1) ∧ TS T mi m' a n res.2 (l ++ t.1)) ∨ (res.1 = none ∧ r = some (.int 0) ∧ ∃ l', TS T mi m' a n res.2 l'))
theorem c_test {E : zEn} {vs : List (Nat × Nat)} {mi : Nat → Nat → Int32} {ml : Nat → Nat → Int64} {g : Nat → Nat → Option Nat} {T : Nat → Int32} {m : Nat → Nat → Int32} {a : Int32} {n p : Nat} {l : List Int32} (H : TS T mi m a n p l) (hT : tOK T n) (hp : p ≤ n) (hl : l.length ≤ p) : Wp E 5 pg_Text_readsTest 0 (lv_args 0 [.ref 48]) [] (zsh ++ vs, m, ml, (zmr g)) (cP T mi a n l vs ml g (ztest T n p)) := by
  refine Wp.run 2 (3, [(0, .ref 48)], [.ref 513, .ref 48], (zsh ++ vs, m, ml, (zmr g))) rfl ?_
  refine Wp.call (as := [.ref 48, .ref 513]) (rest := []) rfl rfl rfl rfl rfl (Nat.le_of_ble_eq_true rfl) (Nat.le_of_ble_eq_true rfl) rfl (by decide) (c_oneOf_L H hT hp) ?_
  rintro _ _ (⟨hz18, rfl, rfl⟩ | ⟨k18, m18, hz18, rfl, rfl, H18⟩)
  · refine Wp.run 14 (40, [(3, .int (-1)), (2, .int (-1)), (1, .int (-1)), (0, .ref 48)], [.int 0], (zsh ++ vs, m, ml, (zmr g))) rfl ?_
    refine Wp.ret rfl rfl rfl ?_
    exact ⟨m, rfl, Or.inr ⟨by rw [ztest_l hz18], rfl, l, by rw [ztest_l hz18]; exact H⟩⟩
  · have hp18 : p + 1 ≤ n := zch_lt rfl (zlt_ok hz18).2
    have hq18 := (zlt_ok hz18).1
    refine Wp.run 2 (8, [(1, .int (nI k18)), (0, .ref 48)], [.int (nI k18)], (zsh ++ vs, m18, ml, (zmr g))) rfl ?_
    refine Wp.if_ge rfl (fun h1 => ?_) (fun h1 => ?_)
    · refine Wp.run 2 (18, [(1, .int (nI k18)), (0, .ref 48)], [.ref 514, .ref 48], (zsh ++ vs, m18, ml, (zmr g))) rfl ?_
      refine Wp.call (as := [.ref 48, .ref 514]) (rest := []) rfl rfl rfl rfl rfl (Nat.le_of_ble_eq_true rfl) (Nat.le_of_ble_eq_true rfl) rfl (by decide) (c_oneOf_S H18 hT hp18) ?_
      rintro _ _ (⟨hz19, rfl, rfl⟩ | ⟨k19, m19, hz19, rfl, rfl, H19⟩)
      · refine Wp.run 9 (40, [(3, .int (-1)), (2, .int (-1)), (1, .int (nI k18)), (0, .ref 48)], [.int 0], (zsh ++ vs, m18, ml, (zmr g))) rfl ?_
        refine Wp.ret rfl rfl rfl ?_
        exact ⟨_, rfl, Or.inr ⟨by rw [ztest_s hz18 hz19], rfl, l, by rw [ztest_s hz18 hz19]; exact H18⟩⟩
      · have hp19 : p + 1 + 1 ≤ n := zch_lt rfl (zsg_ok hz19).2
        have hq19 := (zsg_ok hz19).1
        refine Wp.run 2 (23, [(2, .int (nI k19)), (1, .int (nI k18)), (0, .ref 48)], [.int (nI k19)], (zsh ++ vs, m19, ml, (zmr g))) rfl ?_
        refine Wp.if_ge rfl (fun h2 => ?_) (fun h2 => ?_)
        · refine Wp.run 1 (31, [(2, .int (nI k19)), (1, .int (nI k18)), (0, .ref 48)], [.ref 48], (zsh ++ vs, m19, ml, (zmr g))) rfl ?_
          refine Wp.call (as := [.ref 48]) (rest := []) rfl rfl rfl rfl rfl (Nat.le_of_ble_eq_true rfl) (Nat.le_of_ble_eq_true rfl) rfl (by decide) (c_num H19 hT hp19) ?_
          rintro _ _ (⟨hz20, rfl, rfl⟩ | ⟨x20, m20, hz20, rfl, rfl, H20⟩)
          · refine Wp.run 4 (40, [(3, .int (-1)), (2, .int (nI k19)), (1, .int (nI k18)), (0, .ref 48)], [.int 0], (zsh ++ vs, m19, ml, (zmr g))) rfl ?_
            refine Wp.ret rfl rfl rfl ?_
            exact ⟨_, rfl, Or.inr ⟨by rw [ztest_n hz18 hz19 hz20], rfl, l, by rw [ztest_n hz18 hz19 hz20]; exact H19⟩⟩
          · have hq20 := znum_ok hz20
            refine Wp.run 2 (36, [(3, .int (nI x20.1)), (2, .int (nI k19)), (1, .int (nI k18)), (0, .ref 48)], [.int (nI x20.1)], (zsh ++ vs, m20, ml, (zmr g))) rfl ?_
            refine Wp.if_ge rfl (fun h3 => ?_) (fun h3 => ?_)
            · refine Wp.run 10 (54, [(3, .int (nI x20.1)), (2, .int (nI k19)), (1, .int (nI k18)), (0, .ref 48)], [.int ((((nI k18) * 300) + ((nI k19) * 100)) + (nI x20.1)), .ref 48], (zsh ++ vs, m20, ml, (zmr g))) rfl ?_
              refine Wp.call (as := [.ref 48, .int ((((nI k18) * 300) + ((nI k19) * 100)) + (nI x20.1))]) (rest := []) rfl rfl rfl rfl rfl (Nat.le_of_ble_eq_true rfl) (Nat.le_of_ble_eq_true rfl) rfl (by decide) (c_emit H20 ((((nI k18) * 300) + ((nI k19) * 100)) + (nI x20.1)) (by have := hT.1; omega)) ?_
              rintro _ _ ⟨rfl, m21, rfl, H21⟩
              rw [show (((nI k18) * 300) + ((nI k19) * 100)) + (nI x20.1) = nI (300 * k18 + 100 * k19 + x20.1) from tst3 _ _ _] at H21
              refine Wp.run 1 (58, [(3, .int (nI x20.1)), (2, .int (nI k19)), (1, .int (nI k18)), (0, .ref 48)], [.int 1], (zsh ++ vs, m21, ml, (zmr g))) rfl ?_
              refine Wp.ret rfl rfl rfl ?_
              exact ⟨_, rfl, Or.inl ⟨zTs k18 k19 x20.1, by rw [ztest_y hz18 hz19 hz20], rfl, by rw [ztest_y hz18 hz19 hz20]; exact H21⟩⟩
            · exact absurd (nI_pos' (by omega)) h3
        · exact absurd (nI_pos' (by omega)) h2
    · exact absurd (nI_pos' (by omega)) h1
