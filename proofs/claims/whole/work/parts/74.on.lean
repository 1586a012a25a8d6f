/-! THE CALLS: village -/
section CG
variable {T T' : Nat → Int32} {n : Nat}
theorem zch_cg (h : ∀ j, j < n → T j = T' j) : zch T n = zch T' n := by
  funext p
  unfold zch
  by_cases hp : p < n
  · rw [if_pos hp, if_pos hp, h p hp]
  · rw [if_neg hp, if_neg hp]
theorem znum_cg (h : zch T n = zch T' n) : znum T n = znum T' n := by
  funext p
  unfold znum
  rw [h]
theorem ztest_cg (h : zch T n = zch T' n) : ztest T n = ztest T' n := by
  funext p
  unfold ztest
  rw [h, znum_cg h]
theorem zbl_cg (h : zch T n = zch T' n) (f : Nat → zRs) : zbl T n f = zbl T' n f := by
  funext c
  induction c with
  | zero => rfl
  | succ c ih =>
    funext t p
    simp only [zbl, h, ih]
theorem zbo2_cg (h : zch T n = zch T' n) (f : Nat → zRs) : zbo2 T n f = zbo2 T' n f := by
  funext p
  simp only [zbo2, zbl_cg h]
theorem zol_cg (h : zch T n = zch T' n) (f : Nat → zRs) : zol T n f = zol T' n f := by
  funext c
  induction c with
  | zero => rfl
  | succ c ih =>
    funext t p
    simp only [zol, h, ih, zbo2_cg h]
theorem zany_cg (h : zch T n = zch T' n) (f : Nat → zRs) : zany T n f = zany T' n f := by
  funext p
  simp only [zany, zol_cg h, zbo2_cg h]
theorem zfac_cg (h : zch T n = zch T' n) : zfac T n = zfac T' n := by
  funext r
  induction r with
  | zero => funext p; simp only [zfac, ztest_cg h]
  | succ r ih =>
    funext p
    simp only [zfac, h, ih, zany_cg h, ztest_cg h]
theorem zwd_cg (h : zch T n = zch T' n) : zwd T n = zwd T' n := by
  funext l
  induction l with
  | nil => rfl
  | cons c l ih =>
    funext p
    simp only [zwd, h, ih]
theorem zwn_cg (h : zch T n = zch T' n) : zwn T n = zwn T' n := by
  funext l p
  simp only [zwn, zwd_cg h, znum_cg h]
theorem zhe_cg (h : zch T n = zch T' n) : zhe T n = zhe T' n := by
  funext mk l p
  simp only [zhe, h, zwn_cg h, zany_cg h, zfac_cg h]
theorem zcla_cg (h : zch T n = zch T' n) : zcla T n = zcla T' n := by
  funext p
  simp only [zcla, h, zhe_cg h, zwn_cg h]
theorem zcsa_cg (h : zch T n = zch T' n) : zcsa T n = zcsa T' n := by
  funext k
  induction k with
  | zero => rfl
  | succ k ih =>
    funext V p
    simp only [zcsa, h, zcla_cg h, ih]
end CG
section UV
variable {nv : Nat} {VD : Nat → zV} {NL : Nat → Nat} {n dd : Nat} {vs : List (Nat × Nat)} {mi m : Nat → Nat → Int32} {ml l : Nat → Nat → Int64} {g g' : Nat → Nat → Option Nat}
theorem IMr.mono {nv' : Nat} (h : IMr nv mi g) (hn : nv ≤ nv') : IMr nv' mi g := by
  rcases h with h | ⟨h1, h2, n2, dd2, h3, h4⟩
  · exact Or.inl h
  · exact Or.inr ⟨h1, h2, n2, dd2, h3.nv hn, h4⟩
/-- a text that is no village -/
theorem INV.fault (I : INV nv VD NL n dd vs mi ml g) (hb : ∀ b, ¬ b = 48 → ¬ b = 50 → ¬ b = 66 → ¬ b = 73 → m b = mi b) (t0 : m 48 0 = 0) (h66 : ∀ k, (k < 5 ∨ k = 6 ∨ k = 7 ∨ k = 8 ∨ k = 9 ∨ 15 < k) → m 66 k = mi 66 k) (h5 : m 66 5 = 0) : INV nv VD NL n dd vs m ml g := by
  obtain ⟨⟨i1, i2⟩, ⟨i3, i4, i5⟩, i6, i7, i8, i9, i10, i11⟩ := I
  have q : ∀ b, ¬ b = 48 ∧ ¬ b = 50 ∧ ¬ b = 66 ∧ ¬ b = 73 → m b = mi b := fun b h => hb b h.1 h.2.1 h.2.2.1 h.2.2.2
  have e67 : m 67 = mi 67 := q 67 (by decide)
  refine ⟨⟨?_, i2⟩, ⟨?_, ?_, ?_⟩, ?_, ?_, ?_, ?_, ?_, ?_⟩
  · rw [e67]; exact BR_fr i1 (fun b p r => q b (by omega))
  · rw [e67]; exact i3.fr (by rw [q 21 (by decide)]) (q _ (by decide)) (q _ (by decide)) (q _ (by decide)) (fun _ _ _ => rfl) (Nat.le_refl _)
  · rw [e67]; exact i4.fr (by rw [q 21 (by decide)]) (q _ (by decide)) (q _ (by decide)) (fun _ _ _ => rfl) (Nat.le_refl _)
  · rw [e67]; exact i5.fr (by rw [q 21 (by decide)]) (q _ (by decide)) (q _ (by decide)) (fun _ _ _ => rfl)
  · exact i6.fr (by rw [q 0 (by decide)]) (h66 3 (by decide)) (fun b r => q b (by omega)) rfl
  · exact ⟨0, by omega, t0, h5, fun j hj => absurd hj (Nat.not_lt_zero j)⟩
  · exact i8.fr (by rw [q 0 (by decide)]) (h66 8 (by decide)) (q _ (by decide)) (q _ (by decide)) (fun b _ => q b (by omega)) (fun b _ => rfl)
  · exact i9.fr (by rw [q 51 (by decide)]) (h66 24 (by decide)) (q _ (by decide)) (q _ (by decide))
  · exact i10.fr (fun b _ _ => q b (by omega)) (q _ (by decide)) (q _ (by decide)) (fun _ _ => rfl)
  · exact i11.fr (fun b _ => q b (by omega))
/-- a village more -/
theorem INV.vill {U : zV} {L : Nat} (I : INV nv VD NL n dd vs mi ml g) (h6 : nv < 6) (hL : L ≤ 100) (hU : zcsa (mi 70) L 10 ([], fun _ => 0, 50) 0 = (some U, L))
    (hb : ∀ b, b < 86 + vs.length → ¬ b = 0 → ¬ b = 48 → ¬ b = 50 → ¬ b = 66 → ¬ b = 67 → ¬ b = 71 → ¬ b = 72 → ¬ b = 73 → m b = mi b)
    (h0 : ∀ k, ¬ k = 7 → m 0 k = mi 0 k) (h07 : m 0 7 = nI (nv + 1)) (t0 : m 48 0 = 0)
    (h66 : ∀ k, (k < 5 ∨ k = 6 ∨ k = 7 ∨ k = 9 ∨ 15 < k) → m 66 k = mi 66 k) (h5 : m 66 5 = 0) (h8 : m 66 8 = nI (nv + 1)) (h67 : m 67 = upd (mi 67) 70 (nI (nv + 1)))
    (h71 : ∀ j, j < L → m 71 (100 * nv + j) = mi 70 j) (h71' : ∀ x, (x < 100 * nv ∨ 100 * nv + L ≤ x) → m 71 x = mi 71 x) (h72 : m 72 = upd (mi 72) nv (nI L))
    (hv1 : m (86 + vs.length) 1 = nI U.2.2) (hv2 : ∀ j, j < U.1.length → m (86 + vs.length + 1) j = U.1.getD j 0)
    (hl : ∀ b, b < 86 + vs.length → l b = ml b) (hg : ∀ b, b < 86 + vs.length → ¬ b = 1 → g' b = g b) (hg1 : g' 1 3 = some (86 + vs.length)) (hgv : g' (86 + vs.length) 0 = some (86 + vs.length + 1)) :
    INV (nv + 1) (fun k => if k = nv then U else VD k) (fun k => if k = nv then L else NL k) n dd (vs ++ [(16, 2), (0, U.1.length)]) m l g' := by
  obtain ⟨⟨i1, i2⟩, ⟨i3, i4, i5⟩, i6, i7, i8, i9, i10, i11⟩ := I
  obtain ⟨v1, v2, v3, v4, v5, v6⟩ := i8
  have q : ∀ b, b < 86 ∧ ¬ b = 0 ∧ ¬ b = 48 ∧ ¬ b = 50 ∧ ¬ b = 66 ∧ ¬ b = 67 ∧ ¬ b = 71 ∧ ¬ b = 72 ∧ ¬ b = 73 → m b = mi b := fun b h => hb b (by omega) h.2.1 h.2.2.1 h.2.2.2.1 h.2.2.2.2.1 h.2.2.2.2.2.1 h.2.2.2.2.2.2.1 h.2.2.2.2.2.2.2.1 h.2.2.2.2.2.2.2.2
  have eN : ∀ i, ¬ i = 70 → m 67 i = mi 67 i := fun i hi => by rw [h67, upd_ne hi]
  refine ⟨⟨?_, i2⟩, ⟨?_, ?_, ?_⟩, ?_, ?_, ⟨by omega, h07, h8, ?_, ?_, fun k hk => ?_⟩, ?_, fun t ht => ?_, ?_⟩
  · obtain ⟨b1, b2, b3, b4, b5, b6, b7⟩ := i1
    have n6 := b1.2.1
    refine ⟨b1.row (fun i hi => eN i (by omega)), by rw [q 1 (by decide)]; exact b2, by rw [q 1 (by decide)]; exact b3, fun p hp => by rw [q _ (by decide), eN p (by omega)]; exact b4 p hp, fun k hk f hf => ?_, fun k p r => by rw [q 1 (by decide)]; exact b6 k p r, ?_⟩
    · rw [show uN (m 67) k f = uN (mi 67) k f from eN _ (by omega), ← b5 k hk f hf]
      unfold uB awB
      rw [q 1 (by decide), q (1 + 2) (by decide), q (1 + 3) (by decide), q (1 + 4) (by decide), q (1 + 5) (by decide), q (1 + 6) (by decide), q (1 + 7) (by decide)]
    · rw [hg1, h67, upd_at]
      exact Or.inr ⟨nv, by omega, by rw [v5], rfl⟩
  · exact i3.fr (by rw [q 21 (by decide)]) (q _ (by decide)) (q _ (by decide)) (q _ (by decide)) (fun i p _ => eN i (by omega)) (Nat.le_refl _)
  · exact i4.fr (by rw [q 21 (by decide)]) (q _ (by decide)) (q _ (by decide)) (fun i p _ => eN i (by omega)) (Nat.le_refl _)
  · exact i5.fr (by rw [q 21 (by decide)]) (q _ (by decide)) (q _ (by decide)) (fun i p _ => eN i (by omega))
  · exact (i6.fr (h0 4 (by decide)) (h66 3 (by decide)) (fun b r => q b (by omega)) (by rw [hg 11 (by omega) (by decide)])).mono (by omega)
  · exact ⟨0, by omega, t0, h5, fun j hj => absurd hj (Nat.not_lt_zero j)⟩
  · intro k hk
    by_cases e : k = nv
    · subst e
      dsimp only
      rw [if_pos rfl, if_pos rfl, h72, upd_at]
      exact ⟨hL, rfl, by rw [zcsa_cg (T' := mi 70) (zch_cg h71)]; exact hU⟩
    · obtain ⟨a1, a2, a3⟩ := v4 k (by omega)
      dsimp only
      rw [if_neg e, if_neg e, h72, upd_ne e]
      refine ⟨a1, a2, ?_⟩
      rw [zcsa_cg (T' := fun j => mi 71 (100 * k + j)) (zch_cg (fun j hj => h71' _ (by omega)))]
      exact a3
  · rw [List.length_append, v5]
    show 2 * nv + 2 = 2 * (nv + 1)
    omega
  · by_cases e : k = nv
    · subst e
      dsimp only
      rw [if_pos rfl, ← v5]
      refine ⟨?_, ?_, hgv, hv1, hv2⟩
      · rw [List.getElem?_append_right (Nat.le_refl _), Nat.sub_self]; rfl
      · rw [List.getElem?_append_right (by omega), show vs.length + 1 - vs.length = 1 by omega]; rfl
    · obtain ⟨a1, a2, a3, a4, a5⟩ := v6 k (by omega)
      dsimp only
      rw [if_neg e, List.getElem?_append_left (by omega), List.getElem?_append_left (by omega), hg _ (by omega) (by omega), hb (86 + 2 * k) (by omega) (by omega) (by omega) (by omega) (by omega) (by omega) (by omega) (by omega) (by omega), hb (86 + 2 * k + 1) (by omega) (by omega) (by omega) (by omega) (by omega) (by omega) (by omega) (by omega) (by omega)]
      exact ⟨a1, a2, a3, a4, a5⟩
  · exact i9.fr (by rw [q 51 (by decide)]) (h66 24 (by decide)) (q _ (by decide)) (q _ (by decide))
  · obtain ⟨c, a1, a2, a3, a4, a5, a6⟩ := i10 t ht
    exact ⟨c, a1, by rw [q _ (by omega)]; exact a2, by rw [q 83 (by decide)]; exact a3, by rw [q _ (by omega), q 82 (by decide)]; exact a4, by rw [q 82 (by decide)]; exact a5, fun j hj => by rw [hl _ (by omega), hl 84 (by omega)]; exact a6 j hj⟩
  · exact i11.fr (fun b _ => q b (by omega))
end UV
theorem sim_village {E : zEn} {nv : Nat} {VD : Nat → zV} {NL : Nat → Nat} {n dd : Nat} {vs : List (Nat × Nat)} {mi : Nat → Nat → Int32} {ml : Nat → Nat → Int64} {g : Nat → Nat → Option Nat} (I : INV nv VD NL n dd vs mi ml g) : SIM E vs mi ml g pg_H_village pg_M_village [] := by
  have B := I.1.1
  have h6 := B.1.2.1
  have hn := B.2.1
  have hN := B.1.1
  have hd := B.1.2.2.1
  have hdd := I.1.2
  obtain ⟨h6v, v7, v8, v4, v5, v6⟩ := I.2.2.2.2.1
  obtain ⟨L, hL, c1, c2, c3⟩ := I.2.2.2.1
  by_cases h5 : nv = 6
  · refine SIM.q I (x := -4) (dc := 7) (dm := 7) (by decide) (by decide) ?_ ?_
    · refine Wp.run 2 (4, [(0, .ref 0)], [.int (mi 0 7)], (zsh ++ vs, mi, ml, (zmr g))) rfl ?_
      refine Wp.topi (y := 6) (v7.trans (congrArg nI h5)) ?_
      refine Wp.run 3 (11, [(0, .ref 0)], [.int (-4)], (zsh ++ vs, mi, ml, (zmr g))) rfl ?_
      refine Wp.ret rfl rfl rfl ?_
      exact ⟨rfl, _, _, rfl, SC.rf, fun _ _ _ => rfl⟩
    · intro m g' I' e67 S
      refine ((m_village_full (I'.2.2.2.2.1.2.2.1.trans (congrArg nI h5))).deep (by decide)).weak ?_
      rintro _ _ ⟨rfl, rfl⟩
      exact ⟨rfl, _, rfl, SC.rf⟩
  have nv6 : nv < 6 := by omega
  have hT : tOK (mi 70) L := ⟨hL, fun k hk => (c3 k hk).2⟩
  have hvs : vs.length < 390 := by omega
  have hlt : 86 + vs.length < zEX := by show _ < 500; omega
  refine SIM.g (dc := 23) (dm := 23) (fun x vs1 m1 l1 g1 => (∃ U, zcsa (mi 70) L 10 ([], fun _ => 0, 50) 0 = (some U, L) ∧ x = nI nv ∧ vs1 = vs ++ [(16, 2), (0, U.1.length)] ∧ (∀ b, b < 86 + vs.length → ¬ b = 0 → ¬ b = 48 → ¬ b = 50 → m1 b = mi b) ∧ (∀ k, ¬ k = 7 → m1 0 k = mi 0 k) ∧ m1 0 7 = nI (nv + 1) ∧ m1 48 0 = 0 ∧ m1 (86 + vs.length) 1 = nI U.2.2 ∧ (∀ j, j < U.1.length → m1 (86 + vs.length + 1) j = U.1.getD j 0) ∧ (∀ b, b < 86 + vs.length → l1 b = ml b) ∧ (∀ b, b < 86 + vs.length → ¬ b = 1 → g1 b = g b) ∧ g1 1 3 = some (86 + vs.length) ∧ g1 (86 + vs.length) 0 = some (86 + vs.length + 1)) ∨ (∃ q, zcsa (mi 70) L 10 ([], fun _ => 0, 50) 0 = (none, q) ∧ x = -10 - nI q ∧ vs = vs1 ∧ ml = l1 ∧ g = g1 ∧ (∀ b, ¬ b = 48 → ¬ b = 50 → m1 b = mi b) ∧ m1 48 0 = 0)) (by decide) (by decide) ?_ ?_
  · refine Wp.run 2 (4, [(0, .ref 0)], [.int (mi 0 7)], (zsh ++ vs, mi, ml, (zmr g))) rfl ?_
    refine Wp.topi (y := nI nv) (v7) ?_
    refine Wp.run 1 (6, [(0, .ref 0)], [.int 6, .int (nI nv)], (zsh ++ vs, mi, ml, (zmr g))) rfl ?_
    refine Wp.icmp_lt rfl (fun h1 => ?_) (fun h1 => ?_)
    · refine Wp.run 2 (16, [(0, .ref 0)], [.ref 48], (zsh ++ vs, mi, ml, (zmr g))) rfl ?_
      refine Wp.call (as := [.ref 48]) (rest := []) rfl rfl rfl rfl rfl (Nat.le_of_ble_eq_true rfl) (Nat.le_of_ble_eq_true rfl) rfl (by decide) (c_toVillage (T := mi 70) (n := L) hT hvs c1 (fun k hk => (c3 k hk).1)) ?_
      rintro _ _ (⟨V, p1, l1, g1, hz, rfl, rfl, k1, k2, k3, k4, k5, k6, k7, k8⟩ | ⟨p1, hz, rfl, rfl, k1, k2, k3⟩)
      · have e07 : p1 0 7 = nI nv := (congrFun (k1 0 (by decide) (by decide) (by omega)) 7).trans v7
        refine Wp.run 10 (37, [(2, .int (p1 48 1)), (1, .ref (86 + vs.length)), (0, .ref 0)], [.ref (86 + vs.length)], (zsh ++ (vs ++ [(16, 2), (0, V.1.length)]), (zup p1 48 0 0), l1, (zmr g1))) rfl ?_
        refine Wp.ifnonnull rfl hlt ?_
        refine Wp.run 3 (50, [(2, .int (p1 48 1)), (1, .ref (86 + vs.length)), (0, .ref 0)], [.ref (86 + vs.length), .ref 1], (zsh ++ (vs ++ [(16, 2), (0, V.1.length)]), (zup p1 48 0 0), l1, (zmr g1))) rfl ?_
        refine Wp.pref rfl rfl rfl hlt ?_
        refine Wp.run 3 (58, [(2, .int (p1 48 1)), (1, .ref (86 + vs.length)), (0, .ref 0)], [.int (p1 0 7), .ref 0], (zsh ++ (vs ++ [(16, 2), (0, V.1.length)]), (zup p1 48 0 0), l1, (zup (zmr g1) 1 3 (some (86 + vs.length))))) rfl ?_
        refine Wp.topi (y := nI nv) (e07) ?_
        refine Wp.run 3 (61, [(2, .int (p1 48 1)), (1, .ref (86 + vs.length)), (0, .ref 0)], [.int ((nI nv) + 1), .ref 0, .int (nI nv)], (zsh ++ (vs ++ [(16, 2), (0, V.1.length)]), (zup p1 48 0 0), l1, (zup (zmr g1) 1 3 (some (86 + vs.length))))) rfl ?_
        refine Wp.topi (y := nI (nv + 1)) (nI_1 nv) ?_
        refine Wp.run 1 (64, [(2, .int (p1 48 1)), (1, .ref (86 + vs.length)), (0, .ref 0)], [.int (nI nv)], (zsh ++ (vs ++ [(16, 2), (0, V.1.length)]), (zup (zup p1 48 0 0) 0 7 (nI (nv + 1))), l1, (zup (zmr g1) 1 3 (some (86 + vs.length))))) rfl ?_
        refine Wp.ret rfl rfl rfl ?_
        obtain ⟨U, q, eU⟩ : ∃ U q, zcsa (mi 70) L 10 ([], fun _ => 0, 50) 0 = (some U, q) := by
          cases e : zcsa (mi 70) L 10 ([], fun _ => 0, 50) 0 with
          | mk a b =>
            rw [e] at hz
            cases a with
            | none => cases hz
            | some U => exact ⟨U, b, rfl⟩
        obtain ⟨z1, z2, rfl⟩ := zcsa_ok 10 _ 0 _ _ (Nat.zero_le _) zV0_ok eU
        obtain rfl : U = V := by rw [eU] at hz; exact Option.some.inj hz
        refine ⟨_, rfl, vs ++ [(16, 2), (0, U.1.length)], _, l1, zup g1 1 3 (some (86 + vs.length)), by rw [← zmr_up_1], Or.inl ⟨U, eU, rfl, rfl, fun b p p0 p48 p50 => ?_, fun k hk => ?_, ?_, ?_, ?_, fun j hj => ?_, k6, fun b p p1 => ?_, ?_, ?_⟩⟩
        · rw [zup_ne p0, zup_ne p48]; exact k1 b p48 p50 p
        · rw [zup_rd hk, zup_ne (by decide), k1 0 (by decide) (by decide) (by omega)]
        · rw [zup_at]
        · rw [zup_ne (by decide), zup_at]
        · rw [zup_ne (by omega), zup_ne (by omega)]; exact k4
        · rw [zup_ne (by omega), zup_ne (by omega)]; exact k5 j hj
        · rw [zup_ne p1]; exact k7 b p
        · simp only [zup, if_true]
        · rw [zup_ne (by omega)]; exact k8
      · refine Wp.run 14 (44, [(2, .int (p1 48 1)), (1, .null), (0, .ref 0)], [.int ((-10) - (p1 48 1))], (zsh ++ vs, (zup p1 48 0 0), ml, (zmr g))) rfl ?_
        refine Wp.ret rfl rfl rfl ?_
        obtain ⟨q, eU⟩ : ∃ q, zcsa (mi 70) L 10 ([], fun _ => 0, 50) 0 = (none, q) := by
          cases e : zcsa (mi 70) L 10 ([], fun _ => 0, 50) 0 with
          | mk a b =>
            rw [e] at hz
            cases a with
            | none => exact ⟨b, rfl⟩
            | some U => cases hz
        refine ⟨_, rfl, vs, _, ml, g, rfl, Or.inr ⟨q, eU, ?_, rfl, rfl, rfl, fun b p48 p50 => ?_, ?_⟩⟩
        · rw [k3, eU]
        · rw [zup_ne p48]; exact k1 b p48 p50
        · rw [zup_at]
    · exact absurd (nI_lt (b := 6) (show nv < 6 by omega) (by decide)) h1
  · rintro x vs1 m1 l1 g1 (⟨U, eU, rfl, rfl, q1, q2, q3, q4, q5, q6, q7, q8, q9, q10⟩ | ⟨q, eU, rfl, rfl, rfl, rfl, q1, q4⟩)
    · have e66 : m1 66 = mi 66 := q1 66 (by omega) (by decide) (by decide) (by decide)
      have e70 : m1 70 = mi 70 := q1 70 (by omega) (by decide) (by decide) (by decide)
      refine ((m_village (nv := nv) (L := L) (by rw [e66]; exact v8) nv6 (by rw [e66]; exact c2) hL (I.2.2.2.2.2.2.2.1.fr (fun a ha => q1 a (by omega) (by omega) (by omega) (by omega)))).deep (by decide)).weak ?_
      rintro _ _ ⟨m2, rfl, k1, k2, k3, k4⟩
      rw [e70] at k4
      rcases k4 with ⟨q, e, -⟩ | ⟨U', q, e, rfl, k5, k6, k7, k8, k9⟩
      · rw [eU] at e; cases e
      · rw [eU] at e
        cases e
        refine ⟨rfl, (I.vill (m := m2) (l := l1) (g' := g1) (U := U) (L := L) nv6 hL eU (fun b p p0 p48 p50 p66 p67 p71 p72 p73 => ?_) (fun k hk => ?_) ?_ ?_ (fun k hk => ?_) k3 k5 ?_ (fun j hj => ?_) (fun x hx => ?_) ?_ ?_ (fun j hj => ?_) q7 q8 q9 q10).x⟩
        · rw [k1 b p66 p67 p71 p72 p73]; exact q1 b p p0 p48 p50
        · rw [k1 0 (by decide) (by decide) (by decide) (by decide) (by decide)]; exact q2 k hk
        · rw [k1 0 (by decide) (by decide) (by decide) (by decide) (by decide)]; exact q3
        · rw [k1 48 (by decide) (by decide) (by decide) (by decide) (by decide)]; exact q4
        · rw [k2 k hk, e66]
        · rw [k6, q1 67 (by omega) (by decide) (by decide) (by decide)]
        · exact k7 j hj
        · rw [k8 x hx, q1 71 (by omega) (by decide) (by decide) (by decide)]
        · rw [k9, q1 72 (by omega) (by decide) (by decide) (by decide)]
        · rw [k1 _ (by omega) (by omega) (by omega) (by omega) (by omega)]; exact q5
        · rw [k1 _ (by omega) (by omega) (by omega) (by omega) (by omega)]; exact q6 j hj
    · have e66 : m1 66 = mi 66 := q1 66 (by decide) (by decide)
      have e70 : m1 70 = mi 70 := q1 70 (by decide) (by decide)
      refine ((m_village (nv := nv) (L := L) (by rw [e66]; exact v8) nv6 (by rw [e66]; exact c2) hL (I.2.2.2.2.2.2.2.1.fr (fun a ha => q1 a (by omega) (by omega)))).deep (by decide)).weak ?_
      rintro _ _ ⟨m2, rfl, k1, k2, k3, k4⟩
      rw [e70] at k4
      rcases k4 with ⟨q', e, rfl, k5, k6, k7, k8⟩ | ⟨U', q', e, -⟩
      · rw [eU] at e
        cases e
        refine ⟨rfl, (I.fault (m := m2) (fun b p48 p50 p66 p73 => ?_) ?_ (fun k hk => ?_) k3).x⟩
        · by_cases e67 : b = 67
          · subst e67; rw [k6]; exact q1 67 (by decide) (by decide)
          · by_cases e71 : b = 71
            · subst e71; rw [k7]; exact q1 71 (by decide) (by decide)
            · by_cases e72 : b = 72
              · subst e72; rw [k8]; exact q1 72 (by decide) (by decide)
              · rw [k1 b p66 e67 e71 e72 p73]; exact q1 b p48 p50
        · rw [k1 48 (by decide) (by decide) (by decide) (by decide) (by decide)]; exact q4
        · by_cases e8 : k = 8
          · subst e8; rw [k5]; exact v8.symm
          · rw [k2 k (by omega), e66]
      · rw [eU] at e; cases e
