/-! THE CALLS: mean. Fractions -/
section WD
variable {E : zEn} {d : Nat} {cd : List zI} {pc : Nat} {lv : zLv} {rs : List Value} {w : zW} {P : Option Value → zW → Prop}
theorem Wp.irem {x y : Int32} {len fa fb fc : Nat} (hi : cd[pc]? = some (.irem, len, fa, fb, fc)) (hy : ¬ y = 0) (h : Wp E d cd (pc + 1) lv (.int (x - x / y * y) :: rs) w P) : Wp E d cd pc lv (.int y :: .int x :: rs) w P := by
  obtain ⟨r, w', h, hp⟩ := h
  refine ⟨r, w', Ev.step (x := (pc + 1, lv, .int (x - x / y * y) :: rs, w)) hi rfl ?_ h, hp⟩
  simp only [zstep]
  rw [if_neg hy]
theorem Wp.idiv {x y : Int32} {len fa fb fc : Nat} (hi : cd[pc]? = some (.idiv, len, fa, fb, fc)) (hy : ¬ y = 0) (h : Wp E d cd (pc + 1) lv (.int (x / y) :: rs) w P) : Wp E d cd pc lv (.int y :: .int x :: rs) w P := by
  obtain ⟨r, w', h, hp⟩ := h
  refine ⟨r, w', Ev.step (x := (pc + 1, lv, .int (x / y) :: rs, w)) hi rfl ?_ h, hp⟩
  simp only [zstep]
  rw [if_neg hy]
theorem Wp.lrem {x y : Int64} {len fa fb fc : Nat} (hi : cd[pc]? = some (.lrem, len, fa, fb, fc)) (hy : ¬ y = 0) (h : Wp E d cd (pc + 1) lv (.long (x - x / y * y) :: rs) w P) : Wp E d cd pc lv (.long y :: .long x :: rs) w P := by
  obtain ⟨r, w', h, hp⟩ := h
  refine ⟨r, w', Ev.step (x := (pc + 1, lv, .long (x - x / y * y) :: rs, w)) hi rfl ?_ h, hp⟩
  simp only [zstep]
  rw [if_neg hy]
theorem Wp.ldiv {x y : Int64} {len fa fb fc : Nat} (hi : cd[pc]? = some (.ldiv, len, fa, fb, fc)) (hy : ¬ y = 0) (h : Wp E d cd (pc + 1) lv (.long (x / y) :: rs) w P) : Wp E d cd pc lv (.long y :: .long x :: rs) w P := by
  obtain ⟨r, w', h, hp⟩ := h
  refine ⟨r, w', Ev.step (x := (pc + 1, lv, .long (x / y) :: rs, w)) hi rfl ?_ h, hp⟩
  simp only [zstep]
  rw [if_neg hy]
end WD
theorem gcd_step {d r : Nat} : Nat.gcd r (d % r) = Nat.gcd d r := by rw [Nat.gcd_comm, ← Nat.gcd_rec, Nat.gcd_comm]
theorem lN_ne0 {b : Nat} (h0 : 0 < b) (h : b < 2 ^ 31) : ¬ lN b = 0 := fun e => by
  have := (pk_lEQ (a := b) (b := 0) (by omega) (by decide)).mp e
  omega
theorem bits_lt {x : Int32} {n : Nat} (h : ∀ k, n ≤ k → k < 32 → bt x k = false) : ∃ s, s < 2 ^ n ∧ x = nI s := by
  refine ⟨x.toBitVec.toNat, Nat.lt_pow_two_of_testBit _ (fun i hi => ?_), Int32.toBitVec_inj.mp (by show _ = BitVec.ofNat 32 _; rw [BitVec.ofNat_toNat, BitVec.setWidth_eq])⟩
  by_cases h32 : i < 32
  · exact h i hi h32
  · exact BitVec.getLsbD_of_ge _ _ (by omega)
theorem keptN_256 {N : Nat → Int32} {n dd : Nat} (h : rOK N n dd) : ∃ s, s < 256 ∧ keptN N n = nI s := by
  refine bits_lt (n := 8) (fun k h8 h32 => ?_)
  cases hb : bt (keptN N n) k with
  | false => rfl
  | true =>
    obtain ⟨j, hj, hj2⟩ := (bt_zor n).mp hb
    obtain ⟨q, hq, e⟩ := (h.2.2.2.2 j hj).2.2.1
    rw [show keptF (uN N) j = if uN N j 4 = 0 then uN N j 2 else 0 from rfl, e] at hj2
    by_cases h4 : uN N j 4 = 0
    · rw [if_pos h4, bt_hi q hq k h8 h32] at hj2; cases hj2
    · rw [if_neg h4, b_0] at hj2; cases hj2
theorem zsum_le {f : Nat → Int32} {M : Nat} : ∀ {n : Nat}, (∀ k, k < n → ∃ q, q ≤ M ∧ f k = nI q) → ∃ q, q ≤ n * M ∧ zsum f n = nI q
  | 0, _ => ⟨0, by omega, rfl⟩
  | n + 1, h => by
    obtain ⟨a, ha, ea⟩ := zsum_le (n := n) (fun k hk => h k (by omega))
    obtain ⟨b, hb, eb⟩ := h n (by omega)
    refine ⟨a + b, by rw [Nat.succ_mul]; omega, ?_⟩
    rw [zsum, ea, eb, nI_add]
theorem sacksN_792 {N : Nat → Int32} {n dd : Nat} (h : rOK N n dd) : ∃ s, s ≤ 792 ∧ sacksN N n = nI s := by
  refine zsum_le (n := 8) (M := 99) (fun p hp => ?_)
  by_cases e : zor (keptF (uN N)) n >>> (nI p &&& 31) &&& 1 = 1
  · rw [if_pos e]; exact h.2.2.2.1 p hp
  · rw [if_neg e]; exact ⟨0, by omega, rfl⟩
theorem zmany_8 : ∀ q, q < 256 → ∃ c, c < 9 ∧ zmany (nI q) = nI c := by decide +kernel
theorem c_fr0_l {E : zEn} {w : zW} {A D G : Nat} (hA : A < 2 ^ 30) (hD : D < 2 ^ 30) (hG : 0 < G) : ∀ (k r d j : Nat), r ≤ k → r + j < 100 → d < 2 ^ 30 → Nat.gcd d r = G → Wp E 0 pg_H_fraction 16 [(0, .int (nI A)), (1, .int (nI D)), (2, .int 0), (3, .int (nI d)), (4, .int (nI r)), (5, .int (nI j))] [] w (fun r w' => r = some (.long (lN (A / G))) ∧ w' = w) := by
  intro k
  induction k with
  | zero =>
    intro r d j hr hj hd hg
    obtain rfl : 0 = r := by omega
    have e : d = G := by rw [← hg, Nat.gcd_zero_right]
    have hd0 : 0 < d := by omega
    rw [← e]
    refine Wp.run 2 (20, [(0, .int (nI A)), (1, .int (nI D)), (2, .int 0), (3, .int (nI d)), (4, .int (nI 0)), (5, .int (nI j))], [.int 100, .int (nI j)], (w.1, w.2.1, w.2.2.1, w.2.2.2)) rfl ?_
    refine Wp.icmp_ge rfl (fun h31 => ?_) (fun h31 => ?_)
    · exact absurd h31 (nI_ge (b := 100) (by omega) (by decide))
    · refine Wp.run 1 (25, [(0, .int (nI A)), (1, .int (nI D)), (2, .int 0), (3, .int (nI d)), (4, .int (nI 0)), (5, .int (nI j))], [.int (nI 0)], (w.1, w.2.1, w.2.2.1, w.2.2.2)) rfl ?_
      refine Wp.if_eq rfl (fun h32 => ?_) (fun h32 => ?_)
      · refine Wp.run 1 (48, [(0, .int (nI A)), (1, .int (nI D)), (2, .int 0), (3, .int (nI d)), (4, .int (nI 0)), (5, .int (nI j))], [.int (nI d)], (w.1, w.2.1, w.2.2.1, w.2.2.2)) rfl ?_
        refine Wp.if_ne rfl (fun h33 => ?_) (fun h33 => ?_)
        · refine Wp.run 4 (61, [(0, .int (nI A)), (1, .int (nI D)), (2, .int 0), (3, .int (nI d)), (4, .int (nI 0)), (5, .int (nI j))], [.int (nI d), .int (nI A)], (w.1, w.2.1, w.2.2.1, w.2.2.2)) rfl ?_
          refine Wp.idiv rfl (nI_ne0 hd0 (by omega)) ?_
          refine Wp.topi (y := nI (A / d)) (pk_div (by omega) hd0 (by omega)) ?_
          refine Wp.run 2 (70, [(0, .int (nI A)), (1, .int (nI D)), (2, .int 0), (3, .int (nI d)), (4, .int (nI 0)), (5, .int (nI j))], [.long ((nI (A / d) : Int32).toInt64)], (w.1, w.2.1, w.2.2.1, w.2.2.2)) rfl ?_
          refine Wp.ret rfl rfl rfl ?_
          exact ⟨by rw [nI_l (Nat.lt_of_le_of_lt (Nat.div_le_self _ _) (by omega))], rfl⟩
        · exact absurd h33 (nI_ne0 hd0 (by omega))
      · exact absurd rfl h32
  | succ k ih =>
    intro r d j hr hj hd hg
    by_cases hr0 : r = 0
    · obtain rfl : 0 = r := hr0.symm
      have e : d = G := by rw [← hg, Nat.gcd_zero_right]
      have hd0 : 0 < d := by omega
      rw [← e]
      refine Wp.run 2 (20, [(0, .int (nI A)), (1, .int (nI D)), (2, .int 0), (3, .int (nI d)), (4, .int (nI 0)), (5, .int (nI j))], [.int 100, .int (nI j)], (w.1, w.2.1, w.2.2.1, w.2.2.2)) rfl ?_
      refine Wp.icmp_ge rfl (fun h31 => ?_) (fun h31 => ?_)
      · exact absurd h31 (nI_ge (b := 100) (by omega) (by decide))
      · refine Wp.run 1 (25, [(0, .int (nI A)), (1, .int (nI D)), (2, .int 0), (3, .int (nI d)), (4, .int (nI 0)), (5, .int (nI j))], [.int (nI 0)], (w.1, w.2.1, w.2.2.1, w.2.2.2)) rfl ?_
        refine Wp.if_eq rfl (fun h32 => ?_) (fun h32 => ?_)
        · refine Wp.run 1 (48, [(0, .int (nI A)), (1, .int (nI D)), (2, .int 0), (3, .int (nI d)), (4, .int (nI 0)), (5, .int (nI j))], [.int (nI d)], (w.1, w.2.1, w.2.2.1, w.2.2.2)) rfl ?_
          refine Wp.if_ne rfl (fun h33 => ?_) (fun h33 => ?_)
          · refine Wp.run 4 (61, [(0, .int (nI A)), (1, .int (nI D)), (2, .int 0), (3, .int (nI d)), (4, .int (nI 0)), (5, .int (nI j))], [.int (nI d), .int (nI A)], (w.1, w.2.1, w.2.2.1, w.2.2.2)) rfl ?_
            refine Wp.idiv rfl (nI_ne0 hd0 (by omega)) ?_
            refine Wp.topi (y := nI (A / d)) (pk_div (by omega) hd0 (by omega)) ?_
            refine Wp.run 2 (70, [(0, .int (nI A)), (1, .int (nI D)), (2, .int 0), (3, .int (nI d)), (4, .int (nI 0)), (5, .int (nI j))], [.long ((nI (A / d) : Int32).toInt64)], (w.1, w.2.1, w.2.2.1, w.2.2.2)) rfl ?_
            refine Wp.ret rfl rfl rfl ?_
            exact ⟨by rw [nI_l (Nat.lt_of_le_of_lt (Nat.div_le_self _ _) (by omega))], rfl⟩
          · exact absurd h33 (nI_ne0 hd0 (by omega))
        · exact absurd rfl h32
    · have hrp : 0 < r := by omega
      refine Wp.run 2 (20, [(0, .int (nI A)), (1, .int (nI D)), (2, .int 0), (3, .int (nI d)), (4, .int (nI r)), (5, .int (nI j))], [.int 100, .int (nI j)], (w.1, w.2.1, w.2.2.1, w.2.2.2)) rfl ?_
      refine Wp.icmp_ge rfl (fun h31 => ?_) (fun h31 => ?_)
      · exact absurd h31 (nI_ge (b := 100) (by omega) (by decide))
      · refine Wp.run 1 (25, [(0, .int (nI A)), (1, .int (nI D)), (2, .int 0), (3, .int (nI d)), (4, .int (nI r)), (5, .int (nI j))], [.int (nI r)], (w.1, w.2.1, w.2.2.1, w.2.2.2)) rfl ?_
        refine Wp.if_eq rfl (fun h32 => ?_) (fun h32 => ?_)
        · exact absurd h32 (nI_ne0 hrp (by omega))
        · refine Wp.run 2 (31, [(0, .int (nI A)), (1, .int (nI D)), (2, .int 0), (3, .int (nI d)), (4, .int (nI r)), (5, .int (nI j))], [.int (nI r), .int (nI d)], (w.1, w.2.1, w.2.2.1, w.2.2.2)) rfl ?_
          refine Wp.irem rfl (nI_ne0 hrp (by omega)) ?_
          refine Wp.topi (y := nI (d % r)) (pk_rem (by omega) hrp (by omega)) ?_
          refine Wp.run 7 (16, [(5, .int ((nI j) + 1)), (4, .int (nI (d % r))), (3, .int (nI r)), (6, .int (nI (d % r))), (0, .int (nI A)), (1, .int (nI D)), (2, .int 0)], [], (w.1, w.2.1, w.2.2.1, w.2.2.2)) rfl ?_
          rw [nI_1]
          refine Wp.sub (a := [(0, .int (nI A)), (1, .int (nI D)), (2, .int 0), (3, .int (nI r)), (4, .int (nI (d % r))), (5, .int (nI (j + 1)))]) (zle_cons rfl (zle_cons rfl (zle_cons rfl (zle_cons rfl (zle_cons rfl (zle_cons rfl (zle_nil))))))) ?_
          have hm := Nat.mod_lt d hrp
          exact ih (d % r) r (j + 1) (by omega) (by omega) (by omega) (gcd_step.trans hg)
theorem c_fr0 {E : zEn} {w : zW} {A D : Nat} (hA : A < 1000) (hD : D < 90) (hD0 : 0 < D) : Wp E 0 pg_H_fraction 0 (lv_args 0 [.int (nI A), .int (nI D), .int 0]) [] w (fun r w' => r = some (.long (lN (A / Nat.gcd A D))) ∧ w' = w) := by
  have hG : 0 < Nat.gcd A D := Nat.gcd_pos_of_pos_right _ hD0
  by_cases hA0 : A = 0
  · subst hA0
    refine Wp.run 1 (1, [(0, .int (nI 0)), (1, .int (nI D)), (2, .int 0)], [.int (nI D)], (w.1, w.2.1, w.2.2.1, w.2.2.2)) rfl ?_
    refine Wp.if_gt rfl (fun h1 => ?_) (fun h1 => ?_)
    · refine Wp.run 6 (16, [(5, .int 0), (4, .int (nI 0)), (3, .int (nI D)), (0, .int (nI 0)), (1, .int (nI D)), (2, .int 0)], [], (w.1, w.2.1, w.2.2.1, w.2.2.2)) rfl ?_
      refine Wp.sub (a := [(0, .int (nI 0)), (1, .int (nI D)), (2, .int 0), (3, .int (nI D)), (4, .int (nI 0)), (5, .int (nI 0))]) (zle_cons rfl (zle_cons rfl (zle_cons rfl (zle_cons rfl (zle_cons rfl (zle_cons rfl (zle_nil))))))) ?_
      exact c_fr0_l (by omega) (by omega) hG 0 0 D 0 (by omega) (by omega) (by omega) (Nat.gcd_comm _ _)
    · exact absurd (show (0 : Int32) < nI D from nI_lt (a := 0) hD0 (by omega)) h1
  · have hrp : 0 < A := by omega
    have hm : D % A ≤ D := Nat.mod_le _ _
    refine Wp.run 1 (1, [(0, .int (nI A)), (1, .int (nI D)), (2, .int 0)], [.int (nI D)], (w.1, w.2.1, w.2.2.1, w.2.2.2)) rfl ?_
    refine Wp.if_gt rfl (fun h1 => ?_) (fun h1 => ?_)
    · refine Wp.run 10 (25, [(5, .int 0), (4, .int (nI A)), (3, .int (nI D)), (0, .int (nI A)), (1, .int (nI D)), (2, .int 0)], [.int (nI A)], (w.1, w.2.1, w.2.2.1, w.2.2.2)) rfl ?_
      refine Wp.if_eq rfl (fun h2 => ?_) (fun h2 => ?_)
      · exact absurd h2 (nI_ne0 hrp (by omega))
      · refine Wp.run 2 (31, [(5, .int 0), (4, .int (nI A)), (3, .int (nI D)), (0, .int (nI A)), (1, .int (nI D)), (2, .int 0)], [.int (nI A), .int (nI D)], (w.1, w.2.1, w.2.2.1, w.2.2.2)) rfl ?_
        refine Wp.irem rfl (nI_ne0 hrp (by omega)) ?_
        refine Wp.topi (y := nI (D % A)) (pk_rem (by omega) hrp (by omega)) ?_
        refine Wp.run 6 (44, [(5, .int 1), (4, .int (nI (D % A))), (3, .int (nI A)), (6, .int (nI (D % A))), (0, .int (nI A)), (1, .int (nI D)), (2, .int 0)], [], (w.1, w.2.1, w.2.2.1, w.2.2.2)) rfl ?_
        refine Wp.run 1 (16, [(5, .int 1), (4, .int (nI (D % A))), (3, .int (nI A)), (6, .int (nI (D % A))), (0, .int (nI A)), (1, .int (nI D)), (2, .int 0)], [], (w.1, w.2.1, w.2.2.1, w.2.2.2)) rfl ?_
        refine Wp.sub (a := [(0, .int (nI A)), (1, .int (nI D)), (2, .int 0), (3, .int (nI A)), (4, .int (nI (D % A))), (5, .int (nI 1))]) (zle_cons rfl (zle_cons rfl (zle_cons rfl (zle_cons rfl (zle_cons rfl (zle_cons rfl (zle_nil))))))) ?_
        exact c_fr0_l (by omega) (by omega) hG _ (D % A) A 1 (Nat.le_refl _) (by omega) (by omega) (gcd_step.trans (Nat.gcd_comm _ _))
    · exact absurd (show (0 : Int32) < nI D from nI_lt (a := 0) hD0 (by omega)) h1
theorem c_fr0_0 {E : zEn} {w : zW} {x : Int32} : Wp E 0 pg_H_fraction 0 (lv_args 0 [.int x, .int 0, .int 0]) [] w (fun r w' => r = some (.long (Int64.ofNat 9223372036854775808)) ∧ w' = w) := by
  refine Wp.run 3 (7, [(0, .int x), (1, .int 0), (2, .int 0)], [.long (Int64.ofNat 9223372036854775808)], (w.1, w.2.1, w.2.2.1, w.2.2.2)) rfl ?_
  refine Wp.ret rfl rfl rfl ?_
  exact ⟨rfl, rfl⟩
theorem m_fr0_l {E : zEn} {w : zW} {A D G : Nat} (hA : A < 2 ^ 30) (hD : D < 2 ^ 30) (hG : 0 < G) : ∀ (k b a : Nat), b ≤ k → a < 2 ^ 30 → b < 2 ^ 30 → Nat.gcd a b = G → Wp E 0 pg_M_fraction 6 [(0, .long (lN A)), (2, .long (lN D)), (4, .int 0), (5, .long (lN a)), (7, .long (lN b))] [] w (fun r w' => r = some (.long (lN (A / G))) ∧ w' = w) := by
  intro k
  induction k with
  | zero =>
    intro b a hb ha hb2 hg
    obtain rfl : 0 = b := by omega
    have e : a = G := by rw [← hg, Nat.gcd_zero_right]
    have hd0 : 0 < a := by omega
    rw [← e]
    refine Wp.run 3 (10, [(0, .long (lN A)), (2, .long (lN D)), (4, .int 0), (5, .long (lN a)), (7, .long (lN 0))], [.int (lg_cmp (lN 0) 0)], (w.1, w.2.1, w.2.2.1, w.2.2.2)) rfl ?_
    refine Wp.if_eq rfl (fun h31 => ?_) (fun h31 => ?_)
    · refine Wp.run 4 (39, [(0, .long (lN A)), (2, .long (lN D)), (4, .int 0), (5, .long (lN a)), (7, .long (lN 0))], [.long (lN a), .long (lN A)], (w.1, w.2.1, w.2.2.1, w.2.2.2)) rfl ?_
      refine Wp.ldiv rfl (lN_ne0 hd0 (by omega)) ?_
      refine Wp.topl (y := lN (A / a)) (pk_lDiv (by omega) hd0 (by omega)) ?_
      refine Wp.run 1 (47, [(0, .long (lN A)), (2, .long (lN D)), (4, .int 0), (5, .long (lN a)), (7, .long (lN 0))], [.long (lN (A / a))], (w.1, w.2.1, w.2.2.1, w.2.2.2)) rfl ?_
      refine Wp.ret rfl rfl rfl ?_
      exact ⟨rfl, rfl⟩
    · exact absurd ((lg_cmp_eq _ _).mpr rfl) h31
  | succ k ih =>
    intro b a hb ha hb2 hg
    by_cases hr0 : b = 0
    · obtain rfl : 0 = b := hr0.symm
      have e : a = G := by rw [← hg, Nat.gcd_zero_right]
      have hd0 : 0 < a := by omega
      rw [← e]
      refine Wp.run 3 (10, [(0, .long (lN A)), (2, .long (lN D)), (4, .int 0), (5, .long (lN a)), (7, .long (lN 0))], [.int (lg_cmp (lN 0) 0)], (w.1, w.2.1, w.2.2.1, w.2.2.2)) rfl ?_
      refine Wp.if_eq rfl (fun h31 => ?_) (fun h31 => ?_)
      · refine Wp.run 4 (39, [(0, .long (lN A)), (2, .long (lN D)), (4, .int 0), (5, .long (lN a)), (7, .long (lN 0))], [.long (lN a), .long (lN A)], (w.1, w.2.1, w.2.2.1, w.2.2.2)) rfl ?_
        refine Wp.ldiv rfl (lN_ne0 hd0 (by omega)) ?_
        refine Wp.topl (y := lN (A / a)) (pk_lDiv (by omega) hd0 (by omega)) ?_
        refine Wp.run 1 (47, [(0, .long (lN A)), (2, .long (lN D)), (4, .int 0), (5, .long (lN a)), (7, .long (lN 0))], [.long (lN (A / a))], (w.1, w.2.1, w.2.2.1, w.2.2.2)) rfl ?_
        refine Wp.ret rfl rfl rfl ?_
        exact ⟨rfl, rfl⟩
      · exact absurd ((lg_cmp_eq _ _).mpr rfl) h31
    · have hrp : 0 < b := by omega
      refine Wp.run 3 (10, [(0, .long (lN A)), (2, .long (lN D)), (4, .int 0), (5, .long (lN a)), (7, .long (lN b))], [.int (lg_cmp (lN b) 0)], (w.1, w.2.1, w.2.2.1, w.2.2.2)) rfl ?_
      refine Wp.if_eq rfl (fun h31 => ?_) (fun h31 => ?_)
      · exact absurd ((lg_cmp_eq _ _).mp h31) (lN_ne0 hrp (by omega))
      · refine Wp.run 2 (17, [(0, .long (lN A)), (2, .long (lN D)), (4, .int 0), (5, .long (lN a)), (7, .long (lN b))], [.long (lN b), .long (lN a)], (w.1, w.2.1, w.2.2.1, w.2.2.2)) rfl ?_
        refine Wp.lrem rfl (lN_ne0 hrp (by omega)) ?_
        refine Wp.topl (y := lN (a % b)) (pk_lRem (by omega) hrp (by omega)) ?_
        refine Wp.run 6 (6, [(7, .long (lN (a % b))), (5, .long (lN b)), (9, .long (lN (a % b))), (0, .long (lN A)), (2, .long (lN D)), (4, .int 0)], [], (w.1, w.2.1, w.2.2.1, w.2.2.2)) rfl ?_
        refine Wp.sub (a := [(0, .long (lN A)), (2, .long (lN D)), (4, .int 0), (5, .long (lN b)), (7, .long (lN (a % b)))]) (zle_cons rfl (zle_cons rfl (zle_cons rfl (zle_cons rfl (zle_cons rfl (zle_nil)))))) ?_
        have hm := Nat.mod_lt a hrp
        exact ih (a % b) b (by omega) (by omega) (by omega) (gcd_step.trans hg)
theorem m_fr0 {E : zEn} {w : zW} {A D : Nat} (hA : A < 1000) (hD : D < 90) (hD0 : 0 < D) : Wp E 0 pg_M_fraction 0 (lv_args 0 [.long (lN A), .long (lN D), .int 0]) [] w (fun r w' => r = some (.long (lN (A / Nat.gcd A D))) ∧ w' = w) := by
  have hG : 0 < Nat.gcd A D := Nat.gcd_pos_of_pos_right _ hD0
  refine Wp.run 4 (6, [(7, .long (lN D)), (5, .long (lN A)), (0, .long (lN A)), (2, .long (lN D)), (4, .int 0)], [], (w.1, w.2.1, w.2.2.1, w.2.2.2)) rfl ?_
  refine Wp.sub (a := [(0, .long (lN A)), (2, .long (lN D)), (4, .int 0), (5, .long (lN A)), (7, .long (lN D))]) (zle_cons rfl (zle_cons rfl (zle_cons rfl (zle_cons rfl (zle_cons rfl (zle_nil)))))) ?_
  exact m_fr0_l (by omega) (by omega) hG D D A (Nat.le_refl _) (by omega) (by omega) rfl
theorem c_fr1_l {E : zEn} {w : zW} {A D G : Nat} (hA : A < 2 ^ 30) (hD : D < 2 ^ 30) (hG : 0 < G) : ∀ (k r d j : Nat), r ≤ k → r + j < 100 → d < 2 ^ 30 → Nat.gcd d r = G → Wp E 0 pg_H_fraction 16 [(0, .int (nI A)), (1, .int (nI D)), (2, .int 1), (3, .int (nI d)), (4, .int (nI r)), (5, .int (nI j))] [] w (fun r w' => r = some (.long (lN (D / G))) ∧ w' = w) := by
  intro k
  induction k with
  | zero =>
    intro r d j hr hj hd hg
    obtain rfl : 0 = r := by omega
    have e : d = G := by rw [← hg, Nat.gcd_zero_right]
    have hd0 : 0 < d := by omega
    rw [← e]
    refine Wp.run 2 (20, [(0, .int (nI A)), (1, .int (nI D)), (2, .int 1), (3, .int (nI d)), (4, .int (nI 0)), (5, .int (nI j))], [.int 100, .int (nI j)], (w.1, w.2.1, w.2.2.1, w.2.2.2)) rfl ?_
    refine Wp.icmp_ge rfl (fun h31 => ?_) (fun h31 => ?_)
    · exact absurd h31 (nI_ge (b := 100) (by omega) (by decide))
    · refine Wp.run 1 (25, [(0, .int (nI A)), (1, .int (nI D)), (2, .int 1), (3, .int (nI d)), (4, .int (nI 0)), (5, .int (nI j))], [.int (nI 0)], (w.1, w.2.1, w.2.2.1, w.2.2.2)) rfl ?_
      refine Wp.if_eq rfl (fun h32 => ?_) (fun h32 => ?_)
      · refine Wp.run 1 (48, [(0, .int (nI A)), (1, .int (nI D)), (2, .int 1), (3, .int (nI d)), (4, .int (nI 0)), (5, .int (nI j))], [.int (nI d)], (w.1, w.2.1, w.2.2.1, w.2.2.2)) rfl ?_
        refine Wp.if_ne rfl (fun h33 => ?_) (fun h33 => ?_)
        · refine Wp.run 4 (68, [(0, .int (nI A)), (1, .int (nI D)), (2, .int 1), (3, .int (nI d)), (4, .int (nI 0)), (5, .int (nI j))], [.int (nI d), .int (nI D)], (w.1, w.2.1, w.2.2.1, w.2.2.2)) rfl ?_
          refine Wp.idiv rfl (nI_ne0 hd0 (by omega)) ?_
          refine Wp.topi (y := nI (D / d)) (pk_div (by omega) hd0 (by omega)) ?_
          refine Wp.run 1 (70, [(0, .int (nI A)), (1, .int (nI D)), (2, .int 1), (3, .int (nI d)), (4, .int (nI 0)), (5, .int (nI j))], [.long ((nI (D / d) : Int32).toInt64)], (w.1, w.2.1, w.2.2.1, w.2.2.2)) rfl ?_
          refine Wp.ret rfl rfl rfl ?_
          exact ⟨by rw [nI_l (Nat.lt_of_le_of_lt (Nat.div_le_self _ _) (by omega))], rfl⟩
        · exact absurd h33 (nI_ne0 hd0 (by omega))
      · exact absurd rfl h32
  | succ k ih =>
    intro r d j hr hj hd hg
    by_cases hr0 : r = 0
    · obtain rfl : 0 = r := hr0.symm
      have e : d = G := by rw [← hg, Nat.gcd_zero_right]
      have hd0 : 0 < d := by omega
      rw [← e]
      refine Wp.run 2 (20, [(0, .int (nI A)), (1, .int (nI D)), (2, .int 1), (3, .int (nI d)), (4, .int (nI 0)), (5, .int (nI j))], [.int 100, .int (nI j)], (w.1, w.2.1, w.2.2.1, w.2.2.2)) rfl ?_
      refine Wp.icmp_ge rfl (fun h31 => ?_) (fun h31 => ?_)
      · exact absurd h31 (nI_ge (b := 100) (by omega) (by decide))
      · refine Wp.run 1 (25, [(0, .int (nI A)), (1, .int (nI D)), (2, .int 1), (3, .int (nI d)), (4, .int (nI 0)), (5, .int (nI j))], [.int (nI 0)], (w.1, w.2.1, w.2.2.1, w.2.2.2)) rfl ?_
        refine Wp.if_eq rfl (fun h32 => ?_) (fun h32 => ?_)
        · refine Wp.run 1 (48, [(0, .int (nI A)), (1, .int (nI D)), (2, .int 1), (3, .int (nI d)), (4, .int (nI 0)), (5, .int (nI j))], [.int (nI d)], (w.1, w.2.1, w.2.2.1, w.2.2.2)) rfl ?_
          refine Wp.if_ne rfl (fun h33 => ?_) (fun h33 => ?_)
          · refine Wp.run 4 (68, [(0, .int (nI A)), (1, .int (nI D)), (2, .int 1), (3, .int (nI d)), (4, .int (nI 0)), (5, .int (nI j))], [.int (nI d), .int (nI D)], (w.1, w.2.1, w.2.2.1, w.2.2.2)) rfl ?_
            refine Wp.idiv rfl (nI_ne0 hd0 (by omega)) ?_
            refine Wp.topi (y := nI (D / d)) (pk_div (by omega) hd0 (by omega)) ?_
            refine Wp.run 1 (70, [(0, .int (nI A)), (1, .int (nI D)), (2, .int 1), (3, .int (nI d)), (4, .int (nI 0)), (5, .int (nI j))], [.long ((nI (D / d) : Int32).toInt64)], (w.1, w.2.1, w.2.2.1, w.2.2.2)) rfl ?_
            refine Wp.ret rfl rfl rfl ?_
            exact ⟨by rw [nI_l (Nat.lt_of_le_of_lt (Nat.div_le_self _ _) (by omega))], rfl⟩
          · exact absurd h33 (nI_ne0 hd0 (by omega))
        · exact absurd rfl h32
    · have hrp : 0 < r := by omega
      refine Wp.run 2 (20, [(0, .int (nI A)), (1, .int (nI D)), (2, .int 1), (3, .int (nI d)), (4, .int (nI r)), (5, .int (nI j))], [.int 100, .int (nI j)], (w.1, w.2.1, w.2.2.1, w.2.2.2)) rfl ?_
      refine Wp.icmp_ge rfl (fun h31 => ?_) (fun h31 => ?_)
      · exact absurd h31 (nI_ge (b := 100) (by omega) (by decide))
      · refine Wp.run 1 (25, [(0, .int (nI A)), (1, .int (nI D)), (2, .int 1), (3, .int (nI d)), (4, .int (nI r)), (5, .int (nI j))], [.int (nI r)], (w.1, w.2.1, w.2.2.1, w.2.2.2)) rfl ?_
        refine Wp.if_eq rfl (fun h32 => ?_) (fun h32 => ?_)
        · exact absurd h32 (nI_ne0 hrp (by omega))
        · refine Wp.run 2 (31, [(0, .int (nI A)), (1, .int (nI D)), (2, .int 1), (3, .int (nI d)), (4, .int (nI r)), (5, .int (nI j))], [.int (nI r), .int (nI d)], (w.1, w.2.1, w.2.2.1, w.2.2.2)) rfl ?_
          refine Wp.irem rfl (nI_ne0 hrp (by omega)) ?_
          refine Wp.topi (y := nI (d % r)) (pk_rem (by omega) hrp (by omega)) ?_
          refine Wp.run 7 (16, [(5, .int ((nI j) + 1)), (4, .int (nI (d % r))), (3, .int (nI r)), (6, .int (nI (d % r))), (0, .int (nI A)), (1, .int (nI D)), (2, .int 1)], [], (w.1, w.2.1, w.2.2.1, w.2.2.2)) rfl ?_
          rw [nI_1]
          refine Wp.sub (a := [(0, .int (nI A)), (1, .int (nI D)), (2, .int 1), (3, .int (nI r)), (4, .int (nI (d % r))), (5, .int (nI (j + 1)))]) (zle_cons rfl (zle_cons rfl (zle_cons rfl (zle_cons rfl (zle_cons rfl (zle_cons rfl (zle_nil))))))) ?_
          have hm := Nat.mod_lt d hrp
          exact ih (d % r) r (j + 1) (by omega) (by omega) (by omega) (gcd_step.trans hg)
theorem c_fr1 {E : zEn} {w : zW} {A D : Nat} (hA : A < 1000) (hD : D < 90) (hD0 : 0 < D) : Wp E 0 pg_H_fraction 0 (lv_args 0 [.int (nI A), .int (nI D), .int 1]) [] w (fun r w' => r = some (.long (lN (D / Nat.gcd A D))) ∧ w' = w) := by
  have hG : 0 < Nat.gcd A D := Nat.gcd_pos_of_pos_right _ hD0
  by_cases hA0 : A = 0
  · subst hA0
    refine Wp.run 1 (1, [(0, .int (nI 0)), (1, .int (nI D)), (2, .int 1)], [.int (nI D)], (w.1, w.2.1, w.2.2.1, w.2.2.2)) rfl ?_
    refine Wp.if_gt rfl (fun h1 => ?_) (fun h1 => ?_)
    · refine Wp.run 6 (16, [(5, .int 0), (4, .int (nI 0)), (3, .int (nI D)), (0, .int (nI 0)), (1, .int (nI D)), (2, .int 1)], [], (w.1, w.2.1, w.2.2.1, w.2.2.2)) rfl ?_
      refine Wp.sub (a := [(0, .int (nI 0)), (1, .int (nI D)), (2, .int 1), (3, .int (nI D)), (4, .int (nI 0)), (5, .int (nI 0))]) (zle_cons rfl (zle_cons rfl (zle_cons rfl (zle_cons rfl (zle_cons rfl (zle_cons rfl (zle_nil))))))) ?_
      exact c_fr1_l (by omega) (by omega) hG 0 0 D 0 (by omega) (by omega) (by omega) (Nat.gcd_comm _ _)
    · exact absurd (show (0 : Int32) < nI D from nI_lt (a := 0) hD0 (by omega)) h1
  · have hrp : 0 < A := by omega
    have hm : D % A ≤ D := Nat.mod_le _ _
    refine Wp.run 1 (1, [(0, .int (nI A)), (1, .int (nI D)), (2, .int 1)], [.int (nI D)], (w.1, w.2.1, w.2.2.1, w.2.2.2)) rfl ?_
    refine Wp.if_gt rfl (fun h1 => ?_) (fun h1 => ?_)
    · refine Wp.run 10 (25, [(5, .int 0), (4, .int (nI A)), (3, .int (nI D)), (0, .int (nI A)), (1, .int (nI D)), (2, .int 1)], [.int (nI A)], (w.1, w.2.1, w.2.2.1, w.2.2.2)) rfl ?_
      refine Wp.if_eq rfl (fun h2 => ?_) (fun h2 => ?_)
      · exact absurd h2 (nI_ne0 hrp (by omega))
      · refine Wp.run 2 (31, [(5, .int 0), (4, .int (nI A)), (3, .int (nI D)), (0, .int (nI A)), (1, .int (nI D)), (2, .int 1)], [.int (nI A), .int (nI D)], (w.1, w.2.1, w.2.2.1, w.2.2.2)) rfl ?_
        refine Wp.irem rfl (nI_ne0 hrp (by omega)) ?_
        refine Wp.topi (y := nI (D % A)) (pk_rem (by omega) hrp (by omega)) ?_
        refine Wp.run 6 (44, [(5, .int 1), (4, .int (nI (D % A))), (3, .int (nI A)), (6, .int (nI (D % A))), (0, .int (nI A)), (1, .int (nI D)), (2, .int 1)], [], (w.1, w.2.1, w.2.2.1, w.2.2.2)) rfl ?_
        refine Wp.run 1 (16, [(5, .int 1), (4, .int (nI (D % A))), (3, .int (nI A)), (6, .int (nI (D % A))), (0, .int (nI A)), (1, .int (nI D)), (2, .int 1)], [], (w.1, w.2.1, w.2.2.1, w.2.2.2)) rfl ?_
        refine Wp.sub (a := [(0, .int (nI A)), (1, .int (nI D)), (2, .int 1), (3, .int (nI A)), (4, .int (nI (D % A))), (5, .int (nI 1))]) (zle_cons rfl (zle_cons rfl (zle_cons rfl (zle_cons rfl (zle_cons rfl (zle_cons rfl (zle_nil))))))) ?_
        exact c_fr1_l (by omega) (by omega) hG _ (D % A) A 1 (Nat.le_refl _) (by omega) (by omega) (gcd_step.trans (Nat.gcd_comm _ _))
    · exact absurd (show (0 : Int32) < nI D from nI_lt (a := 0) hD0 (by omega)) h1
theorem c_fr1_0 {E : zEn} {w : zW} {x : Int32} : Wp E 0 pg_H_fraction 0 (lv_args 0 [.int x, .int 0, .int 1]) [] w (fun r w' => r = some (.long (Int64.ofNat 9223372036854775808)) ∧ w' = w) := by
  refine Wp.run 3 (7, [(0, .int x), (1, .int 0), (2, .int 1)], [.long (Int64.ofNat 9223372036854775808)], (w.1, w.2.1, w.2.2.1, w.2.2.2)) rfl ?_
  refine Wp.ret rfl rfl rfl ?_
  exact ⟨rfl, rfl⟩
theorem m_fr1_l {E : zEn} {w : zW} {A D G : Nat} (hA : A < 2 ^ 30) (hD : D < 2 ^ 30) (hG : 0 < G) : ∀ (k b a : Nat), b ≤ k → a < 2 ^ 30 → b < 2 ^ 30 → Nat.gcd a b = G → Wp E 0 pg_M_fraction 6 [(0, .long (lN A)), (2, .long (lN D)), (4, .int 1), (5, .long (lN a)), (7, .long (lN b))] [] w (fun r w' => r = some (.long (lN (D / G))) ∧ w' = w) := by
  intro k
  induction k with
  | zero =>
    intro b a hb ha hb2 hg
    obtain rfl : 0 = b := by omega
    have e : a = G := by rw [← hg, Nat.gcd_zero_right]
    have hd0 : 0 < a := by omega
    rw [← e]
    refine Wp.run 3 (10, [(0, .long (lN A)), (2, .long (lN D)), (4, .int 1), (5, .long (lN a)), (7, .long (lN 0))], [.int (lg_cmp (lN 0) 0)], (w.1, w.2.1, w.2.2.1, w.2.2.2)) rfl ?_
    refine Wp.if_eq rfl (fun h31 => ?_) (fun h31 => ?_)
    · refine Wp.run 4 (46, [(0, .long (lN A)), (2, .long (lN D)), (4, .int 1), (5, .long (lN a)), (7, .long (lN 0))], [.long (lN a), .long (lN D)], (w.1, w.2.1, w.2.2.1, w.2.2.2)) rfl ?_
      refine Wp.ldiv rfl (lN_ne0 hd0 (by omega)) ?_
      refine Wp.topl (y := lN (D / a)) (pk_lDiv (by omega) hd0 (by omega)) ?_
      refine Wp.run 0 (47, [(0, .long (lN A)), (2, .long (lN D)), (4, .int 1), (5, .long (lN a)), (7, .long (lN 0))], [.long (lN (D / a))], (w.1, w.2.1, w.2.2.1, w.2.2.2)) rfl ?_
      refine Wp.ret rfl rfl rfl ?_
      exact ⟨rfl, rfl⟩
    · exact absurd ((lg_cmp_eq _ _).mpr rfl) h31
  | succ k ih =>
    intro b a hb ha hb2 hg
    by_cases hr0 : b = 0
    · obtain rfl : 0 = b := hr0.symm
      have e : a = G := by rw [← hg, Nat.gcd_zero_right]
      have hd0 : 0 < a := by omega
      rw [← e]
      refine Wp.run 3 (10, [(0, .long (lN A)), (2, .long (lN D)), (4, .int 1), (5, .long (lN a)), (7, .long (lN 0))], [.int (lg_cmp (lN 0) 0)], (w.1, w.2.1, w.2.2.1, w.2.2.2)) rfl ?_
      refine Wp.if_eq rfl (fun h31 => ?_) (fun h31 => ?_)
      · refine Wp.run 4 (46, [(0, .long (lN A)), (2, .long (lN D)), (4, .int 1), (5, .long (lN a)), (7, .long (lN 0))], [.long (lN a), .long (lN D)], (w.1, w.2.1, w.2.2.1, w.2.2.2)) rfl ?_
        refine Wp.ldiv rfl (lN_ne0 hd0 (by omega)) ?_
        refine Wp.topl (y := lN (D / a)) (pk_lDiv (by omega) hd0 (by omega)) ?_
        refine Wp.run 0 (47, [(0, .long (lN A)), (2, .long (lN D)), (4, .int 1), (5, .long (lN a)), (7, .long (lN 0))], [.long (lN (D / a))], (w.1, w.2.1, w.2.2.1, w.2.2.2)) rfl ?_
        refine Wp.ret rfl rfl rfl ?_
        exact ⟨rfl, rfl⟩
      · exact absurd ((lg_cmp_eq _ _).mpr rfl) h31
    · have hrp : 0 < b := by omega
      refine Wp.run 3 (10, [(0, .long (lN A)), (2, .long (lN D)), (4, .int 1), (5, .long (lN a)), (7, .long (lN b))], [.int (lg_cmp (lN b) 0)], (w.1, w.2.1, w.2.2.1, w.2.2.2)) rfl ?_
      refine Wp.if_eq rfl (fun h31 => ?_) (fun h31 => ?_)
      · exact absurd ((lg_cmp_eq _ _).mp h31) (lN_ne0 hrp (by omega))
      · refine Wp.run 2 (17, [(0, .long (lN A)), (2, .long (lN D)), (4, .int 1), (5, .long (lN a)), (7, .long (lN b))], [.long (lN b), .long (lN a)], (w.1, w.2.1, w.2.2.1, w.2.2.2)) rfl ?_
        refine Wp.lrem rfl (lN_ne0 hrp (by omega)) ?_
        refine Wp.topl (y := lN (a % b)) (pk_lRem (by omega) hrp (by omega)) ?_
        refine Wp.run 6 (6, [(7, .long (lN (a % b))), (5, .long (lN b)), (9, .long (lN (a % b))), (0, .long (lN A)), (2, .long (lN D)), (4, .int 1)], [], (w.1, w.2.1, w.2.2.1, w.2.2.2)) rfl ?_
        refine Wp.sub (a := [(0, .long (lN A)), (2, .long (lN D)), (4, .int 1), (5, .long (lN b)), (7, .long (lN (a % b)))]) (zle_cons rfl (zle_cons rfl (zle_cons rfl (zle_cons rfl (zle_cons rfl (zle_nil)))))) ?_
        have hm := Nat.mod_lt a hrp
        exact ih (a % b) b (by omega) (by omega) (by omega) (gcd_step.trans hg)
theorem m_fr1 {E : zEn} {w : zW} {A D : Nat} (hA : A < 1000) (hD : D < 90) (hD0 : 0 < D) : Wp E 0 pg_M_fraction 0 (lv_args 0 [.long (lN A), .long (lN D), .int 1]) [] w (fun r w' => r = some (.long (lN (D / Nat.gcd A D))) ∧ w' = w) := by
  have hG : 0 < Nat.gcd A D := Nat.gcd_pos_of_pos_right _ hD0
  refine Wp.run 4 (6, [(7, .long (lN D)), (5, .long (lN A)), (0, .long (lN A)), (2, .long (lN D)), (4, .int 1)], [], (w.1, w.2.1, w.2.2.1, w.2.2.2)) rfl ?_
  refine Wp.sub (a := [(0, .long (lN A)), (2, .long (lN D)), (4, .int 1), (5, .long (lN A)), (7, .long (lN D))]) (zle_cons rfl (zle_cons rfl (zle_cons rfl (zle_cons rfl (zle_cons rfl (zle_nil)))))) ?_
  exact m_fr1_l (by omega) (by omega) hG D D A (Nat.le_refl _) (by omega) (by omega) rfl
theorem sim_mean {E : zEn} {nv : Nat} {VD : Nat → zV} {NL : Nat → Nat} {n dd : Nat} {vs : List (Nat × Nat)} {mi : Nat → Nat → Int32} {ml : Nat → Nat → Int64} {g : Nat → Nat → Option Nat} (I : INV nv VD NL n dd vs mi ml g) (x y : Int32) : SIML E vs mi ml g pg_H_mean pg_M_mean [.int x, .int y] := by
  have B := I.1.1
  have h6 := B.1.2.1
  have hn := B.2.1
  have hN := B.1.1
  have hd := B.1.2.2.1
  have hdd := I.1.2
  by_cases hx : 0 ≤ x ∧ x ≤ 60
  rotate_left
  · refine SIML.q I (x := Int64.ofNat 9223372036854775808) (dc := 7) (dm := 27) (by decide) (by decide) ?_ ?_
    · refine Wp.run 2 (3, [(0, .ref 0), (1, .int x), (2, .int y)], [.int 60, .int x], (zsh ++ vs, mi, ml, (zmr g))) rfl ?_
      refine Wp.call (as := [.int x, .int 60]) (rest := []) rfl rfl rfl rfl rfl (Nat.le_of_ble_eq_true rfl) (Nat.le_of_ble_eq_true rfl) rfl (by decide) (c_within_f hx) ?_
      rintro _ _ ⟨rfl, rfl⟩
      refine Wp.run 2 (20, [(0, .ref 0), (1, .int x), (2, .int y)], [.long (Int64.ofNat 9223372036854775808)], (zsh ++ vs, mi, ml, (zmr g))) rfl ?_
      refine Wp.ret rfl rfl rfl ?_
      exact ⟨rfl, _, _, rfl, SC.rf, fun _ _ _ => rfl⟩
    · intro m g' I' e67 S
      have B' := I'.1.1
      have hn' := B'.2.1
      have hN' := B'.1.1
      have hd' := B'.1.2.2.1
      refine Wp.run 3 (4, [(0, .ref 66), (1, .int x), (2, .int y)], [.int 60, .int 0, .int x], (zsh ++ vs, m, ml, (zmr g'))) rfl ?_
      refine Wp.call (as := [.int x, .int 0, .int 60]) (rest := []) rfl rfl rfl rfl rfl (Nat.le_of_ble_eq_true rfl) (Nat.le_of_ble_eq_true rfl) rfl (by decide) (m_isIn_f hx) ?_
      rintro _ _ ⟨rfl, rfl⟩
      refine Wp.run 2 (22, [(0, .ref 66), (1, .int x), (2, .int y)], [.long (Int64.ofNat 9223372036854775808)], (zsh ++ vs, m, ml, (zmr g'))) rfl ?_
      refine Wp.ret rfl rfl rfl ?_
      exact ⟨rfl, _, rfl, SC.rf⟩
  by_cases hy : 0 ≤ y ∧ y ≤ 1
  rotate_left
  · refine SIML.q I (x := Int64.ofNat 9223372036854775808) (dc := 7) (dm := 27) (by decide) (by decide) ?_ ?_
    · refine Wp.run 2 (3, [(0, .ref 0), (1, .int x), (2, .int y)], [.int 60, .int x], (zsh ++ vs, mi, ml, (zmr g))) rfl ?_
      refine Wp.call (as := [.int x, .int 60]) (rest := []) rfl rfl rfl rfl rfl (Nat.le_of_ble_eq_true rfl) (Nat.le_of_ble_eq_true rfl) rfl (by decide) (c_within_t hx) ?_
      rintro _ _ ⟨rfl, rfl⟩
      refine Wp.run 3 (11, [(0, .ref 0), (1, .int x), (2, .int y)], [.int 1, .int y], (zsh ++ vs, mi, ml, (zmr g))) rfl ?_
      refine Wp.call (as := [.int y, .int 1]) (rest := []) rfl rfl rfl rfl rfl (Nat.le_of_ble_eq_true rfl) (Nat.le_of_ble_eq_true rfl) rfl (by decide) (c_within_f hy) ?_
      rintro _ _ ⟨rfl, rfl⟩
      refine Wp.run 2 (20, [(0, .ref 0), (1, .int x), (2, .int y)], [.long (Int64.ofNat 9223372036854775808)], (zsh ++ vs, mi, ml, (zmr g))) rfl ?_
      refine Wp.ret rfl rfl rfl ?_
      exact ⟨rfl, _, _, rfl, SC.rf, fun _ _ _ => rfl⟩
    · intro m g' I' e67 S
      have B' := I'.1.1
      have hn' := B'.2.1
      have hN' := B'.1.1
      have hd' := B'.1.2.2.1
      refine Wp.run 3 (4, [(0, .ref 66), (1, .int x), (2, .int y)], [.int 60, .int 0, .int x], (zsh ++ vs, m, ml, (zmr g'))) rfl ?_
      refine Wp.call (as := [.int x, .int 0, .int 60]) (rest := []) rfl rfl rfl rfl rfl (Nat.le_of_ble_eq_true rfl) (Nat.le_of_ble_eq_true rfl) rfl (by decide) (m_isIn_t hx) ?_
      rintro _ _ ⟨rfl, rfl⟩
      refine Wp.run 4 (13, [(0, .ref 66), (1, .int x), (2, .int y)], [.int 1, .int 0, .int y], (zsh ++ vs, m, ml, (zmr g'))) rfl ?_
      refine Wp.call (as := [.int y, .int 0, .int 1]) (rest := []) rfl rfl rfl rfl rfl (Nat.le_of_ble_eq_true rfl) (Nat.le_of_ble_eq_true rfl) rfl (by decide) (m_isIn_f hy) ?_
      rintro _ _ ⟨rfl, rfl⟩
      refine Wp.run 2 (22, [(0, .ref 66), (1, .int x), (2, .int y)], [.long (Int64.ofNat 9223372036854775808)], (zsh ++ vs, m, ml, (zmr g'))) rfl ?_
      refine Wp.ret rfl rfl rfl ?_
      exact ⟨rfl, _, rfl, SC.rf⟩
  obtain ⟨t, ht, rfl⟩ := rng_of (h := 60) rfl hx
  obtain ⟨q, hq, rfl⟩ := rng_of (h := 1) rfl hy
  have hO := rOK_days (sm := smV VD) (an := anV VD) B.1 (I.sem _ _ B.2.2.2.2.2.2).2.2 t
  obtain ⟨s, hs, ek⟩ := keptN_256 hO
  obtain ⟨A, hA, es⟩ := sacksN_792 hO
  obtain ⟨D, hD, eD⟩ := zmany_8 s hs
  rcases (show q = 0 ∨ q = 1 by omega) with rfl | rfl
  · by_cases hD0 : D = 0
    · refine SIML.q I (x := Int64.ofNat 9223372036854775808) (dc := 7) (dm := 28) (by decide) (by decide) ?_ ?_
      · refine Wp.run 2 (3, [(0, .ref 0), (1, .int (nI t)), (2, .int 0)], [.int 60, .int (nI t)], (zsh ++ vs, mi, ml, (zmr g))) rfl ?_
        refine Wp.call (as := [.int (nI t), .int 60]) (rest := []) rfl rfl rfl rfl rfl (Nat.le_of_ble_eq_true rfl) (Nat.le_of_ble_eq_true rfl) rfl (by decide) (c_within_t hx) ?_
        rintro _ _ ⟨rfl, rfl⟩
        refine Wp.run 3 (11, [(0, .ref 0), (1, .int (nI t)), (2, .int 0)], [.int 1, .int 0], (zsh ++ vs, mi, ml, (zmr g))) rfl ?_
        refine Wp.call (as := [.int 0, .int 1]) (rest := []) rfl rfl rfl rfl rfl (Nat.le_of_ble_eq_true rfl) (Nat.le_of_ble_eq_true rfl) rfl (by decide) (c_within_t hy) ?_
        rintro _ _ ⟨rfl, rfl⟩
        refine Wp.run 6 (30, [(0, .ref 0), (1, .int (nI t)), (2, .int 0)], [.int (nI t), .ref 1, .ref 37], (zsh ++ vs, mi, ml, (zmr g))) rfl ?_
        refine Wp.call (as := [.ref 37, .ref 1, .int (nI t)]) (rest := []) rfl rfl rfl rfl rfl (Nat.le_of_ble_eq_true rfl) (Nat.le_of_ble_eq_true rfl) rfl (by decide) (c_after (t := t) (I.ce (E := E)).1 (I.ce (E := E)).2.1 (I.ce (E := E)).2.2.1 (I.ce (E := E)).2.2.2.1 (I.ce (E := E)).2.2.2.2 B (by omega)) ?_
        rintro _ _ ⟨rfl, p1, rfl, k1, k2⟩
        have es2 := (show zsum (fun p => (zor (sungF (p1 38 2 ^^^ -1) (p1 42)) n >>> (nI p &&& 31) &&& 1) * p1 39 p) 8 = sacksN (daysN (smV VD) (anV VD) (mi 67) n dd t) n from by rw [show zor (sungF (p1 38 2 ^^^ -1) (p1 42)) n = _ from k2.kept]; exact k2.sacks _).trans es
        have ek2 := (show zor (sungF (p1 38 2 ^^^ -1) (p1 42)) n = keptN (daysN (smV VD) (anV VD) (mi 67) n dd t) n from k2.kept).trans ek
        refine Wp.run 2 (35, [(3, .ref 38), (0, .ref 0), (1, .int (nI t)), (2, .int 0)], [.ref 38], (zsh ++ vs, p1, ml, (zmr (zup g 38 3 (g 1 3))))) rfl ?_
        refine Wp.call (as := [.ref 38]) (rest := []) rfl rfl rfl rfl rfl (Nat.le_of_ble_eq_true rfl) (Nat.le_of_ble_eq_true rfl) rfl (by decide) (c_sacks_38 k2.2.1 h6) ?_
        rintro _ _ ⟨rfl, rfl⟩
        refine Wp.topi (y := nI A) (es2) ?_
        refine Wp.run 1 (39, [(3, .ref 38), (0, .ref 0), (1, .int (nI t)), (2, .int 0)], [.ref 38, .int (nI A)], (zsh ++ vs, p1, ml, (zmr (zup g 38 3 (g 1 3))))) rfl ?_
        refine Wp.call (as := [.ref 38]) (rest := [.int (nI A)]) rfl rfl rfl rfl rfl (Nat.le_of_ble_eq_true rfl) (Nat.le_of_ble_eq_true rfl) rfl (by decide) (c_kept_38 k2.2.1 h6) ?_
        rintro _ _ ⟨rfl, rfl⟩
        refine Wp.topi (y := nI s) (ek2) ?_
        refine Wp.run 0 (42, [(3, .ref 38), (0, .ref 0), (1, .int (nI t)), (2, .int 0)], [.int (nI s), .int (nI A)], (zsh ++ vs, p1, ml, (zmr (zup g 38 3 (g 1 3))))) rfl ?_
        refine Wp.call (as := [.int (nI s)]) (rest := [.int (nI A)]) rfl rfl rfl rfl rfl (Nat.le_of_ble_eq_true rfl) (Nat.le_of_ble_eq_true rfl) rfl (by decide) (c_bitCount (nI s)) ?_
        rintro _ _ ⟨rfl, rfl⟩
        refine Wp.topi (y := 0) ((zbc_256 s hs).trans (eD.trans (congrArg nI hD0))) ?_
        refine Wp.run 1 (46, [(3, .ref 38), (0, .ref 0), (1, .int (nI t)), (2, .int 0)], [.int 0, .int 0, .int (nI A)], (zsh ++ vs, p1, ml, (zmr (zup g 38 3 (g 1 3))))) rfl ?_
        refine Wp.call (as := [.int (nI A), .int 0, .int 0]) (rest := []) rfl rfl rfl rfl rfl (Nat.le_of_ble_eq_true rfl) (Nat.le_of_ble_eq_true rfl) rfl (by decide) (c_fr0_0) ?_
        rintro _ _ ⟨rfl, rfl⟩
        refine Wp.run 0 (49, [(3, .ref 38), (0, .ref 0), (1, .int (nI t)), (2, .int 0)], [.long (Int64.ofNat 9223372036854775808)], (zsh ++ vs, p1, ml, (zmr (zup g 38 3 (g 1 3))))) rfl ?_
        refine Wp.ret rfl rfl rfl ?_
        exact ⟨rfl, _, _, rfl, SC.frB k1, zup38⟩
      · intro m g' I' e67 S
        have B' := I'.1.1
        have hn' := B'.2.1
        have hN' := B'.1.1
        have hd' := B'.1.2.2.1
        refine Wp.run 3 (4, [(0, .ref 66), (1, .int (nI t)), (2, .int 0)], [.int 60, .int 0, .int (nI t)], (zsh ++ vs, m, ml, (zmr g'))) rfl ?_
        refine Wp.call (as := [.int (nI t), .int 0, .int 60]) (rest := []) rfl rfl rfl rfl rfl (Nat.le_of_ble_eq_true rfl) (Nat.le_of_ble_eq_true rfl) rfl (by decide) (m_isIn_t hx) ?_
        rintro _ _ ⟨rfl, rfl⟩
        refine Wp.run 4 (13, [(0, .ref 66), (1, .int (nI t)), (2, .int 0)], [.int 1, .int 0, .int 0], (zsh ++ vs, m, ml, (zmr g'))) rfl ?_
        refine Wp.call (as := [.int 0, .int 0, .int 1]) (rest := []) rfl rfl rfl rfl rfl (Nat.le_of_ble_eq_true rfl) (Nat.le_of_ble_eq_true rfl) rfl (by decide) (m_isIn_t hy) ?_
        rintro _ _ ⟨rfl, rfl⟩
        refine Wp.run 4 (26, [(0, .ref 66), (1, .int (nI t)), (2, .int 0)], [.int 0, .int (nI t), .ref 66], (zsh ++ vs, m, ml, (zmr g'))) rfl ?_
        refine Wp.call (as := [.ref 66, .int (nI t), .int 0]) (rest := []) rfl rfl rfl rfl rfl (Nat.le_of_ble_eq_true rfl) (Nat.le_of_ble_eq_true rfl) rfl (by decide) (m_on0 (t := t) I'.re ht (by omega)) ?_
        rintro _ _ ⟨rfl, p1, rfl, k1⟩
        have J : RE E (m 71) (m 72) (rvV nv) (smV VD) (anV VD) p1 n dd := I'.re.fr (fun a ha => k1.1 a (by omega) (by omega) (by omega) (by omega) (by omega)) (by rw [k1.e67]) (by rw [k1.e67]; exact hd') (by rw [k1.e67])
        refine Wp.topi (y := nI s) (by rw [e67]; exact ek) ?_
        refine Wp.run 0 (29, [(0, .ref 66), (1, .int (nI t)), (2, .int 0)], [.int (nI s)], (zsh ++ vs, p1, ml, (zmr g'))) rfl ?_
        refine Wp.call (as := [.int (nI s)]) (rest := []) rfl rfl rfl rfl rfl (Nat.le_of_ble_eq_true rfl) (Nat.le_of_ble_eq_true rfl) rfl (by decide) (m_many (nI s)) ?_
        rintro _ _ ⟨rfl, rfl⟩
        refine Wp.topi (y := 0) (eD.trans (congrArg nI hD0)) ?_
        refine Wp.run 5 (56, [(3, .int 0), (0, .ref 66), (1, .int (nI t)), (2, .int 0)], [.long (Int64.ofNat 9223372036854775808)], (zsh ++ vs, p1, ml, (zmr g'))) rfl ?_
        refine Wp.ret rfl rfl rfl ?_
        exact ⟨rfl, _, rfl, k1.sc⟩
    · refine SIML.q I (x := lN (A / Nat.gcd A D)) (dc := 7) (dm := 28) (by decide) (by decide) ?_ ?_
      · refine Wp.run 2 (3, [(0, .ref 0), (1, .int (nI t)), (2, .int 0)], [.int 60, .int (nI t)], (zsh ++ vs, mi, ml, (zmr g))) rfl ?_
        refine Wp.call (as := [.int (nI t), .int 60]) (rest := []) rfl rfl rfl rfl rfl (Nat.le_of_ble_eq_true rfl) (Nat.le_of_ble_eq_true rfl) rfl (by decide) (c_within_t hx) ?_
        rintro _ _ ⟨rfl, rfl⟩
        refine Wp.run 3 (11, [(0, .ref 0), (1, .int (nI t)), (2, .int 0)], [.int 1, .int 0], (zsh ++ vs, mi, ml, (zmr g))) rfl ?_
        refine Wp.call (as := [.int 0, .int 1]) (rest := []) rfl rfl rfl rfl rfl (Nat.le_of_ble_eq_true rfl) (Nat.le_of_ble_eq_true rfl) rfl (by decide) (c_within_t hy) ?_
        rintro _ _ ⟨rfl, rfl⟩
        refine Wp.run 6 (30, [(0, .ref 0), (1, .int (nI t)), (2, .int 0)], [.int (nI t), .ref 1, .ref 37], (zsh ++ vs, mi, ml, (zmr g))) rfl ?_
        refine Wp.call (as := [.ref 37, .ref 1, .int (nI t)]) (rest := []) rfl rfl rfl rfl rfl (Nat.le_of_ble_eq_true rfl) (Nat.le_of_ble_eq_true rfl) rfl (by decide) (c_after (t := t) (I.ce (E := E)).1 (I.ce (E := E)).2.1 (I.ce (E := E)).2.2.1 (I.ce (E := E)).2.2.2.1 (I.ce (E := E)).2.2.2.2 B (by omega)) ?_
        rintro _ _ ⟨rfl, p1, rfl, k1, k2⟩
        have es2 := (show zsum (fun p => (zor (sungF (p1 38 2 ^^^ -1) (p1 42)) n >>> (nI p &&& 31) &&& 1) * p1 39 p) 8 = sacksN (daysN (smV VD) (anV VD) (mi 67) n dd t) n from by rw [show zor (sungF (p1 38 2 ^^^ -1) (p1 42)) n = _ from k2.kept]; exact k2.sacks _).trans es
        have ek2 := (show zor (sungF (p1 38 2 ^^^ -1) (p1 42)) n = keptN (daysN (smV VD) (anV VD) (mi 67) n dd t) n from k2.kept).trans ek
        refine Wp.run 2 (35, [(3, .ref 38), (0, .ref 0), (1, .int (nI t)), (2, .int 0)], [.ref 38], (zsh ++ vs, p1, ml, (zmr (zup g 38 3 (g 1 3))))) rfl ?_
        refine Wp.call (as := [.ref 38]) (rest := []) rfl rfl rfl rfl rfl (Nat.le_of_ble_eq_true rfl) (Nat.le_of_ble_eq_true rfl) rfl (by decide) (c_sacks_38 k2.2.1 h6) ?_
        rintro _ _ ⟨rfl, rfl⟩
        refine Wp.topi (y := nI A) (es2) ?_
        refine Wp.run 1 (39, [(3, .ref 38), (0, .ref 0), (1, .int (nI t)), (2, .int 0)], [.ref 38, .int (nI A)], (zsh ++ vs, p1, ml, (zmr (zup g 38 3 (g 1 3))))) rfl ?_
        refine Wp.call (as := [.ref 38]) (rest := [.int (nI A)]) rfl rfl rfl rfl rfl (Nat.le_of_ble_eq_true rfl) (Nat.le_of_ble_eq_true rfl) rfl (by decide) (c_kept_38 k2.2.1 h6) ?_
        rintro _ _ ⟨rfl, rfl⟩
        refine Wp.topi (y := nI s) (ek2) ?_
        refine Wp.run 0 (42, [(3, .ref 38), (0, .ref 0), (1, .int (nI t)), (2, .int 0)], [.int (nI s), .int (nI A)], (zsh ++ vs, p1, ml, (zmr (zup g 38 3 (g 1 3))))) rfl ?_
        refine Wp.call (as := [.int (nI s)]) (rest := [.int (nI A)]) rfl rfl rfl rfl rfl (Nat.le_of_ble_eq_true rfl) (Nat.le_of_ble_eq_true rfl) rfl (by decide) (c_bitCount (nI s)) ?_
        rintro _ _ ⟨rfl, rfl⟩
        refine Wp.topi (y := nI D) ((zbc_256 s hs).trans eD) ?_
        refine Wp.run 1 (46, [(3, .ref 38), (0, .ref 0), (1, .int (nI t)), (2, .int 0)], [.int 0, .int (nI D), .int (nI A)], (zsh ++ vs, p1, ml, (zmr (zup g 38 3 (g 1 3))))) rfl ?_
        refine Wp.call (as := [.int (nI A), .int (nI D), .int 0]) (rest := []) rfl rfl rfl rfl rfl (Nat.le_of_ble_eq_true rfl) (Nat.le_of_ble_eq_true rfl) rfl (by decide) (c_fr0 (by omega) (by omega) (by omega)) ?_
        rintro _ _ ⟨rfl, rfl⟩
        refine Wp.run 0 (49, [(3, .ref 38), (0, .ref 0), (1, .int (nI t)), (2, .int 0)], [.long (lN (A / Nat.gcd A D))], (zsh ++ vs, p1, ml, (zmr (zup g 38 3 (g 1 3))))) rfl ?_
        refine Wp.ret rfl rfl rfl ?_
        exact ⟨rfl, _, _, rfl, SC.frB k1, zup38⟩
      · intro m g' I' e67 S
        have B' := I'.1.1
        have hn' := B'.2.1
        have hN' := B'.1.1
        have hd' := B'.1.2.2.1
        refine Wp.run 3 (4, [(0, .ref 66), (1, .int (nI t)), (2, .int 0)], [.int 60, .int 0, .int (nI t)], (zsh ++ vs, m, ml, (zmr g'))) rfl ?_
        refine Wp.call (as := [.int (nI t), .int 0, .int 60]) (rest := []) rfl rfl rfl rfl rfl (Nat.le_of_ble_eq_true rfl) (Nat.le_of_ble_eq_true rfl) rfl (by decide) (m_isIn_t hx) ?_
        rintro _ _ ⟨rfl, rfl⟩
        refine Wp.run 4 (13, [(0, .ref 66), (1, .int (nI t)), (2, .int 0)], [.int 1, .int 0, .int 0], (zsh ++ vs, m, ml, (zmr g'))) rfl ?_
        refine Wp.call (as := [.int 0, .int 0, .int 1]) (rest := []) rfl rfl rfl rfl rfl (Nat.le_of_ble_eq_true rfl) (Nat.le_of_ble_eq_true rfl) rfl (by decide) (m_isIn_t hy) ?_
        rintro _ _ ⟨rfl, rfl⟩
        refine Wp.run 4 (26, [(0, .ref 66), (1, .int (nI t)), (2, .int 0)], [.int 0, .int (nI t), .ref 66], (zsh ++ vs, m, ml, (zmr g'))) rfl ?_
        refine Wp.call (as := [.ref 66, .int (nI t), .int 0]) (rest := []) rfl rfl rfl rfl rfl (Nat.le_of_ble_eq_true rfl) (Nat.le_of_ble_eq_true rfl) rfl (by decide) (m_on0 (t := t) I'.re ht (by omega)) ?_
        rintro _ _ ⟨rfl, p1, rfl, k1⟩
        have J : RE E (m 71) (m 72) (rvV nv) (smV VD) (anV VD) p1 n dd := I'.re.fr (fun a ha => k1.1 a (by omega) (by omega) (by omega) (by omega) (by omega)) (by rw [k1.e67]) (by rw [k1.e67]; exact hd') (by rw [k1.e67])
        refine Wp.topi (y := nI s) (by rw [e67]; exact ek) ?_
        refine Wp.run 0 (29, [(0, .ref 66), (1, .int (nI t)), (2, .int 0)], [.int (nI s)], (zsh ++ vs, p1, ml, (zmr g'))) rfl ?_
        refine Wp.call (as := [.int (nI s)]) (rest := []) rfl rfl rfl rfl rfl (Nat.le_of_ble_eq_true rfl) (Nat.le_of_ble_eq_true rfl) rfl (by decide) (m_many (nI s)) ?_
        rintro _ _ ⟨rfl, rfl⟩
        refine Wp.topi (y := nI D) (eD) ?_
        refine Wp.run 2 (34, [(3, .int (nI D)), (0, .ref 66), (1, .int (nI t)), (2, .int 0)], [.int (nI D)], (zsh ++ vs, p1, ml, (zmr g'))) rfl ?_
        refine Wp.if_ne rfl (fun h51 => ?_) (fun h51 => ?_)
        · refine Wp.run 3 (46, [(3, .int (nI D)), (0, .ref 66), (1, .int (nI t)), (2, .int 0)], [.int 1, .int (nI t), .ref 66], (zsh ++ vs, p1, ml, (zmr g'))) rfl ?_
          refine Wp.call (as := [.ref 66, .int (nI t), .int 1]) (rest := []) rfl rfl rfl rfl rfl (Nat.le_of_ble_eq_true rfl) (Nat.le_of_ble_eq_true rfl) rfl (by decide) (m_on1 (t := t) J ht (by omega)) ?_
          rintro _ _ ⟨rfl, p2, rfl, k2⟩
          refine Wp.topi (y := nI A) (by rw [k1.e67, e67]; exact es) ?_
          refine Wp.run 1 (50, [(3, .int (nI D)), (0, .ref 66), (1, .int (nI t)), (2, .int 0)], [.long ((nI A : Int32).toInt64)], (zsh ++ vs, p2, ml, (zmr g'))) rfl ?_
          refine Wp.topl (y := lN A) (nI_l (by omega)) ?_
          refine Wp.run 2 (52, [(3, .int (nI D)), (0, .ref 66), (1, .int (nI t)), (2, .int 0)], [.long ((nI D : Int32).toInt64), .long (lN A)], (zsh ++ vs, p2, ml, (zmr g'))) rfl ?_
          refine Wp.topl (y := lN D) (nI_l (by omega)) ?_
          refine Wp.run 1 (53, [(3, .int (nI D)), (0, .ref 66), (1, .int (nI t)), (2, .int 0)], [.int 0, .long (lN D), .long (lN A)], (zsh ++ vs, p2, ml, (zmr g'))) rfl ?_
          refine Wp.call (as := [.long (lN A), .long (lN D), .int 0]) (rest := []) rfl rfl rfl rfl rfl (Nat.le_of_ble_eq_true rfl) (Nat.le_of_ble_eq_true rfl) rfl (by decide) (m_fr0 (A := A) (D := D) (by omega) (by omega) (by omega)) ?_
          rintro _ _ ⟨rfl, rfl⟩
          refine Wp.run 0 (56, [(3, .int (nI D)), (0, .ref 66), (1, .int (nI t)), (2, .int 0)], [.long (lN (A / Nat.gcd A D))], (zsh ++ vs, p2, ml, (zmr g'))) rfl ?_
          refine Wp.ret rfl rfl rfl ?_
          exact ⟨rfl, _, rfl, (k1.tr k2).sc⟩
        · exact absurd h51 (nI_ne0 (by omega) (by omega))
  · by_cases hD0 : D = 0
    · refine SIML.q I (x := Int64.ofNat 9223372036854775808) (dc := 7) (dm := 28) (by decide) (by decide) ?_ ?_
      · refine Wp.run 2 (3, [(0, .ref 0), (1, .int (nI t)), (2, .int 1)], [.int 60, .int (nI t)], (zsh ++ vs, mi, ml, (zmr g))) rfl ?_
        refine Wp.call (as := [.int (nI t), .int 60]) (rest := []) rfl rfl rfl rfl rfl (Nat.le_of_ble_eq_true rfl) (Nat.le_of_ble_eq_true rfl) rfl (by decide) (c_within_t hx) ?_
        rintro _ _ ⟨rfl, rfl⟩
        refine Wp.run 3 (11, [(0, .ref 0), (1, .int (nI t)), (2, .int 1)], [.int 1, .int 1], (zsh ++ vs, mi, ml, (zmr g))) rfl ?_
        refine Wp.call (as := [.int 1, .int 1]) (rest := []) rfl rfl rfl rfl rfl (Nat.le_of_ble_eq_true rfl) (Nat.le_of_ble_eq_true rfl) rfl (by decide) (c_within_t hy) ?_
        rintro _ _ ⟨rfl, rfl⟩
        refine Wp.run 6 (30, [(0, .ref 0), (1, .int (nI t)), (2, .int 1)], [.int (nI t), .ref 1, .ref 37], (zsh ++ vs, mi, ml, (zmr g))) rfl ?_
        refine Wp.call (as := [.ref 37, .ref 1, .int (nI t)]) (rest := []) rfl rfl rfl rfl rfl (Nat.le_of_ble_eq_true rfl) (Nat.le_of_ble_eq_true rfl) rfl (by decide) (c_after (t := t) (I.ce (E := E)).1 (I.ce (E := E)).2.1 (I.ce (E := E)).2.2.1 (I.ce (E := E)).2.2.2.1 (I.ce (E := E)).2.2.2.2 B (by omega)) ?_
        rintro _ _ ⟨rfl, p1, rfl, k1, k2⟩
        have es2 := (show zsum (fun p => (zor (sungF (p1 38 2 ^^^ -1) (p1 42)) n >>> (nI p &&& 31) &&& 1) * p1 39 p) 8 = sacksN (daysN (smV VD) (anV VD) (mi 67) n dd t) n from by rw [show zor (sungF (p1 38 2 ^^^ -1) (p1 42)) n = _ from k2.kept]; exact k2.sacks _).trans es
        have ek2 := (show zor (sungF (p1 38 2 ^^^ -1) (p1 42)) n = keptN (daysN (smV VD) (anV VD) (mi 67) n dd t) n from k2.kept).trans ek
        refine Wp.run 2 (35, [(3, .ref 38), (0, .ref 0), (1, .int (nI t)), (2, .int 1)], [.ref 38], (zsh ++ vs, p1, ml, (zmr (zup g 38 3 (g 1 3))))) rfl ?_
        refine Wp.call (as := [.ref 38]) (rest := []) rfl rfl rfl rfl rfl (Nat.le_of_ble_eq_true rfl) (Nat.le_of_ble_eq_true rfl) rfl (by decide) (c_sacks_38 k2.2.1 h6) ?_
        rintro _ _ ⟨rfl, rfl⟩
        refine Wp.topi (y := nI A) (es2) ?_
        refine Wp.run 1 (39, [(3, .ref 38), (0, .ref 0), (1, .int (nI t)), (2, .int 1)], [.ref 38, .int (nI A)], (zsh ++ vs, p1, ml, (zmr (zup g 38 3 (g 1 3))))) rfl ?_
        refine Wp.call (as := [.ref 38]) (rest := [.int (nI A)]) rfl rfl rfl rfl rfl (Nat.le_of_ble_eq_true rfl) (Nat.le_of_ble_eq_true rfl) rfl (by decide) (c_kept_38 k2.2.1 h6) ?_
        rintro _ _ ⟨rfl, rfl⟩
        refine Wp.topi (y := nI s) (ek2) ?_
        refine Wp.run 0 (42, [(3, .ref 38), (0, .ref 0), (1, .int (nI t)), (2, .int 1)], [.int (nI s), .int (nI A)], (zsh ++ vs, p1, ml, (zmr (zup g 38 3 (g 1 3))))) rfl ?_
        refine Wp.call (as := [.int (nI s)]) (rest := [.int (nI A)]) rfl rfl rfl rfl rfl (Nat.le_of_ble_eq_true rfl) (Nat.le_of_ble_eq_true rfl) rfl (by decide) (c_bitCount (nI s)) ?_
        rintro _ _ ⟨rfl, rfl⟩
        refine Wp.topi (y := 0) ((zbc_256 s hs).trans (eD.trans (congrArg nI hD0))) ?_
        refine Wp.run 1 (46, [(3, .ref 38), (0, .ref 0), (1, .int (nI t)), (2, .int 1)], [.int 1, .int 0, .int (nI A)], (zsh ++ vs, p1, ml, (zmr (zup g 38 3 (g 1 3))))) rfl ?_
        refine Wp.call (as := [.int (nI A), .int 0, .int 1]) (rest := []) rfl rfl rfl rfl rfl (Nat.le_of_ble_eq_true rfl) (Nat.le_of_ble_eq_true rfl) rfl (by decide) (c_fr1_0) ?_
        rintro _ _ ⟨rfl, rfl⟩
        refine Wp.run 0 (49, [(3, .ref 38), (0, .ref 0), (1, .int (nI t)), (2, .int 1)], [.long (Int64.ofNat 9223372036854775808)], (zsh ++ vs, p1, ml, (zmr (zup g 38 3 (g 1 3))))) rfl ?_
        refine Wp.ret rfl rfl rfl ?_
        exact ⟨rfl, _, _, rfl, SC.frB k1, zup38⟩
      · intro m g' I' e67 S
        have B' := I'.1.1
        have hn' := B'.2.1
        have hN' := B'.1.1
        have hd' := B'.1.2.2.1
        refine Wp.run 3 (4, [(0, .ref 66), (1, .int (nI t)), (2, .int 1)], [.int 60, .int 0, .int (nI t)], (zsh ++ vs, m, ml, (zmr g'))) rfl ?_
        refine Wp.call (as := [.int (nI t), .int 0, .int 60]) (rest := []) rfl rfl rfl rfl rfl (Nat.le_of_ble_eq_true rfl) (Nat.le_of_ble_eq_true rfl) rfl (by decide) (m_isIn_t hx) ?_
        rintro _ _ ⟨rfl, rfl⟩
        refine Wp.run 4 (13, [(0, .ref 66), (1, .int (nI t)), (2, .int 1)], [.int 1, .int 0, .int 1], (zsh ++ vs, m, ml, (zmr g'))) rfl ?_
        refine Wp.call (as := [.int 1, .int 0, .int 1]) (rest := []) rfl rfl rfl rfl rfl (Nat.le_of_ble_eq_true rfl) (Nat.le_of_ble_eq_true rfl) rfl (by decide) (m_isIn_t hy) ?_
        rintro _ _ ⟨rfl, rfl⟩
        refine Wp.run 4 (26, [(0, .ref 66), (1, .int (nI t)), (2, .int 1)], [.int 0, .int (nI t), .ref 66], (zsh ++ vs, m, ml, (zmr g'))) rfl ?_
        refine Wp.call (as := [.ref 66, .int (nI t), .int 0]) (rest := []) rfl rfl rfl rfl rfl (Nat.le_of_ble_eq_true rfl) (Nat.le_of_ble_eq_true rfl) rfl (by decide) (m_on0 (t := t) I'.re ht (by omega)) ?_
        rintro _ _ ⟨rfl, p1, rfl, k1⟩
        have J : RE E (m 71) (m 72) (rvV nv) (smV VD) (anV VD) p1 n dd := I'.re.fr (fun a ha => k1.1 a (by omega) (by omega) (by omega) (by omega) (by omega)) (by rw [k1.e67]) (by rw [k1.e67]; exact hd') (by rw [k1.e67])
        refine Wp.topi (y := nI s) (by rw [e67]; exact ek) ?_
        refine Wp.run 0 (29, [(0, .ref 66), (1, .int (nI t)), (2, .int 1)], [.int (nI s)], (zsh ++ vs, p1, ml, (zmr g'))) rfl ?_
        refine Wp.call (as := [.int (nI s)]) (rest := []) rfl rfl rfl rfl rfl (Nat.le_of_ble_eq_true rfl) (Nat.le_of_ble_eq_true rfl) rfl (by decide) (m_many (nI s)) ?_
        rintro _ _ ⟨rfl, rfl⟩
        refine Wp.topi (y := 0) (eD.trans (congrArg nI hD0)) ?_
        refine Wp.run 5 (56, [(3, .int 0), (0, .ref 66), (1, .int (nI t)), (2, .int 1)], [.long (Int64.ofNat 9223372036854775808)], (zsh ++ vs, p1, ml, (zmr g'))) rfl ?_
        refine Wp.ret rfl rfl rfl ?_
        exact ⟨rfl, _, rfl, k1.sc⟩
    · refine SIML.q I (x := lN (D / Nat.gcd A D)) (dc := 7) (dm := 28) (by decide) (by decide) ?_ ?_
      · refine Wp.run 2 (3, [(0, .ref 0), (1, .int (nI t)), (2, .int 1)], [.int 60, .int (nI t)], (zsh ++ vs, mi, ml, (zmr g))) rfl ?_
        refine Wp.call (as := [.int (nI t), .int 60]) (rest := []) rfl rfl rfl rfl rfl (Nat.le_of_ble_eq_true rfl) (Nat.le_of_ble_eq_true rfl) rfl (by decide) (c_within_t hx) ?_
        rintro _ _ ⟨rfl, rfl⟩
        refine Wp.run 3 (11, [(0, .ref 0), (1, .int (nI t)), (2, .int 1)], [.int 1, .int 1], (zsh ++ vs, mi, ml, (zmr g))) rfl ?_
        refine Wp.call (as := [.int 1, .int 1]) (rest := []) rfl rfl rfl rfl rfl (Nat.le_of_ble_eq_true rfl) (Nat.le_of_ble_eq_true rfl) rfl (by decide) (c_within_t hy) ?_
        rintro _ _ ⟨rfl, rfl⟩
        refine Wp.run 6 (30, [(0, .ref 0), (1, .int (nI t)), (2, .int 1)], [.int (nI t), .ref 1, .ref 37], (zsh ++ vs, mi, ml, (zmr g))) rfl ?_
        refine Wp.call (as := [.ref 37, .ref 1, .int (nI t)]) (rest := []) rfl rfl rfl rfl rfl (Nat.le_of_ble_eq_true rfl) (Nat.le_of_ble_eq_true rfl) rfl (by decide) (c_after (t := t) (I.ce (E := E)).1 (I.ce (E := E)).2.1 (I.ce (E := E)).2.2.1 (I.ce (E := E)).2.2.2.1 (I.ce (E := E)).2.2.2.2 B (by omega)) ?_
        rintro _ _ ⟨rfl, p1, rfl, k1, k2⟩
        have es2 := (show zsum (fun p => (zor (sungF (p1 38 2 ^^^ -1) (p1 42)) n >>> (nI p &&& 31) &&& 1) * p1 39 p) 8 = sacksN (daysN (smV VD) (anV VD) (mi 67) n dd t) n from by rw [show zor (sungF (p1 38 2 ^^^ -1) (p1 42)) n = _ from k2.kept]; exact k2.sacks _).trans es
        have ek2 := (show zor (sungF (p1 38 2 ^^^ -1) (p1 42)) n = keptN (daysN (smV VD) (anV VD) (mi 67) n dd t) n from k2.kept).trans ek
        refine Wp.run 2 (35, [(3, .ref 38), (0, .ref 0), (1, .int (nI t)), (2, .int 1)], [.ref 38], (zsh ++ vs, p1, ml, (zmr (zup g 38 3 (g 1 3))))) rfl ?_
        refine Wp.call (as := [.ref 38]) (rest := []) rfl rfl rfl rfl rfl (Nat.le_of_ble_eq_true rfl) (Nat.le_of_ble_eq_true rfl) rfl (by decide) (c_sacks_38 k2.2.1 h6) ?_
        rintro _ _ ⟨rfl, rfl⟩
        refine Wp.topi (y := nI A) (es2) ?_
        refine Wp.run 1 (39, [(3, .ref 38), (0, .ref 0), (1, .int (nI t)), (2, .int 1)], [.ref 38, .int (nI A)], (zsh ++ vs, p1, ml, (zmr (zup g 38 3 (g 1 3))))) rfl ?_
        refine Wp.call (as := [.ref 38]) (rest := [.int (nI A)]) rfl rfl rfl rfl rfl (Nat.le_of_ble_eq_true rfl) (Nat.le_of_ble_eq_true rfl) rfl (by decide) (c_kept_38 k2.2.1 h6) ?_
        rintro _ _ ⟨rfl, rfl⟩
        refine Wp.topi (y := nI s) (ek2) ?_
        refine Wp.run 0 (42, [(3, .ref 38), (0, .ref 0), (1, .int (nI t)), (2, .int 1)], [.int (nI s), .int (nI A)], (zsh ++ vs, p1, ml, (zmr (zup g 38 3 (g 1 3))))) rfl ?_
        refine Wp.call (as := [.int (nI s)]) (rest := [.int (nI A)]) rfl rfl rfl rfl rfl (Nat.le_of_ble_eq_true rfl) (Nat.le_of_ble_eq_true rfl) rfl (by decide) (c_bitCount (nI s)) ?_
        rintro _ _ ⟨rfl, rfl⟩
        refine Wp.topi (y := nI D) ((zbc_256 s hs).trans eD) ?_
        refine Wp.run 1 (46, [(3, .ref 38), (0, .ref 0), (1, .int (nI t)), (2, .int 1)], [.int 1, .int (nI D), .int (nI A)], (zsh ++ vs, p1, ml, (zmr (zup g 38 3 (g 1 3))))) rfl ?_
        refine Wp.call (as := [.int (nI A), .int (nI D), .int 1]) (rest := []) rfl rfl rfl rfl rfl (Nat.le_of_ble_eq_true rfl) (Nat.le_of_ble_eq_true rfl) rfl (by decide) (c_fr1 (by omega) (by omega) (by omega)) ?_
        rintro _ _ ⟨rfl, rfl⟩
        refine Wp.run 0 (49, [(3, .ref 38), (0, .ref 0), (1, .int (nI t)), (2, .int 1)], [.long (lN (D / Nat.gcd A D))], (zsh ++ vs, p1, ml, (zmr (zup g 38 3 (g 1 3))))) rfl ?_
        refine Wp.ret rfl rfl rfl ?_
        exact ⟨rfl, _, _, rfl, SC.frB k1, zup38⟩
      · intro m g' I' e67 S
        have B' := I'.1.1
        have hn' := B'.2.1
        have hN' := B'.1.1
        have hd' := B'.1.2.2.1
        refine Wp.run 3 (4, [(0, .ref 66), (1, .int (nI t)), (2, .int 1)], [.int 60, .int 0, .int (nI t)], (zsh ++ vs, m, ml, (zmr g'))) rfl ?_
        refine Wp.call (as := [.int (nI t), .int 0, .int 60]) (rest := []) rfl rfl rfl rfl rfl (Nat.le_of_ble_eq_true rfl) (Nat.le_of_ble_eq_true rfl) rfl (by decide) (m_isIn_t hx) ?_
        rintro _ _ ⟨rfl, rfl⟩
        refine Wp.run 4 (13, [(0, .ref 66), (1, .int (nI t)), (2, .int 1)], [.int 1, .int 0, .int 1], (zsh ++ vs, m, ml, (zmr g'))) rfl ?_
        refine Wp.call (as := [.int 1, .int 0, .int 1]) (rest := []) rfl rfl rfl rfl rfl (Nat.le_of_ble_eq_true rfl) (Nat.le_of_ble_eq_true rfl) rfl (by decide) (m_isIn_t hy) ?_
        rintro _ _ ⟨rfl, rfl⟩
        refine Wp.run 4 (26, [(0, .ref 66), (1, .int (nI t)), (2, .int 1)], [.int 0, .int (nI t), .ref 66], (zsh ++ vs, m, ml, (zmr g'))) rfl ?_
        refine Wp.call (as := [.ref 66, .int (nI t), .int 0]) (rest := []) rfl rfl rfl rfl rfl (Nat.le_of_ble_eq_true rfl) (Nat.le_of_ble_eq_true rfl) rfl (by decide) (m_on0 (t := t) I'.re ht (by omega)) ?_
        rintro _ _ ⟨rfl, p1, rfl, k1⟩
        have J : RE E (m 71) (m 72) (rvV nv) (smV VD) (anV VD) p1 n dd := I'.re.fr (fun a ha => k1.1 a (by omega) (by omega) (by omega) (by omega) (by omega)) (by rw [k1.e67]) (by rw [k1.e67]; exact hd') (by rw [k1.e67])
        refine Wp.topi (y := nI s) (by rw [e67]; exact ek) ?_
        refine Wp.run 0 (29, [(0, .ref 66), (1, .int (nI t)), (2, .int 1)], [.int (nI s)], (zsh ++ vs, p1, ml, (zmr g'))) rfl ?_
        refine Wp.call (as := [.int (nI s)]) (rest := []) rfl rfl rfl rfl rfl (Nat.le_of_ble_eq_true rfl) (Nat.le_of_ble_eq_true rfl) rfl (by decide) (m_many (nI s)) ?_
        rintro _ _ ⟨rfl, rfl⟩
        refine Wp.topi (y := nI D) (eD) ?_
        refine Wp.run 2 (34, [(3, .int (nI D)), (0, .ref 66), (1, .int (nI t)), (2, .int 1)], [.int (nI D)], (zsh ++ vs, p1, ml, (zmr g'))) rfl ?_
        refine Wp.if_ne rfl (fun h51 => ?_) (fun h51 => ?_)
        · refine Wp.run 3 (46, [(3, .int (nI D)), (0, .ref 66), (1, .int (nI t)), (2, .int 1)], [.int 1, .int (nI t), .ref 66], (zsh ++ vs, p1, ml, (zmr g'))) rfl ?_
          refine Wp.call (as := [.ref 66, .int (nI t), .int 1]) (rest := []) rfl rfl rfl rfl rfl (Nat.le_of_ble_eq_true rfl) (Nat.le_of_ble_eq_true rfl) rfl (by decide) (m_on1 (t := t) J ht (by omega)) ?_
          rintro _ _ ⟨rfl, p2, rfl, k2⟩
          refine Wp.topi (y := nI A) (by rw [k1.e67, e67]; exact es) ?_
          refine Wp.run 1 (50, [(3, .int (nI D)), (0, .ref 66), (1, .int (nI t)), (2, .int 1)], [.long ((nI A : Int32).toInt64)], (zsh ++ vs, p2, ml, (zmr g'))) rfl ?_
          refine Wp.topl (y := lN A) (nI_l (by omega)) ?_
          refine Wp.run 2 (52, [(3, .int (nI D)), (0, .ref 66), (1, .int (nI t)), (2, .int 1)], [.long ((nI D : Int32).toInt64), .long (lN A)], (zsh ++ vs, p2, ml, (zmr g'))) rfl ?_
          refine Wp.topl (y := lN D) (nI_l (by omega)) ?_
          refine Wp.run 1 (53, [(3, .int (nI D)), (0, .ref 66), (1, .int (nI t)), (2, .int 1)], [.int 1, .long (lN D), .long (lN A)], (zsh ++ vs, p2, ml, (zmr g'))) rfl ?_
          refine Wp.call (as := [.long (lN A), .long (lN D), .int 1]) (rest := []) rfl rfl rfl rfl rfl (Nat.le_of_ble_eq_true rfl) (Nat.le_of_ble_eq_true rfl) rfl (by decide) (m_fr1 (A := A) (D := D) (by omega) (by omega) (by omega)) ?_
          rintro _ _ ⟨rfl, rfl⟩
          refine Wp.run 0 (56, [(3, .int (nI D)), (0, .ref 66), (1, .int (nI t)), (2, .int 1)], [.long (lN (D / Nat.gcd A D))], (zsh ++ vs, p2, ml, (zmr g'))) rfl ?_
          refine Wp.ret rfl rfl rfl ?_
          exact ⟨rfl, _, rfl, (k1.tr k2).sc⟩
        · exact absurd h51 (nI_ne0 (by omega) (by omega))
