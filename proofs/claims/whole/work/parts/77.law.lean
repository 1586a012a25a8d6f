/-! THE LAW: its loop -/
theorem Wp.iasc {L : Nat} {xs : Nat → Int32} {d : Nat} {cd : List zI} {pc : Nat} {lv : zLv} {rs : List Value} {w : zW} {P : Option Value → zW → Prop} {j : Nat} {len fa fb fc : Nat} (hi : cd[pc]? = some (.iaload, len, fa, fb, fc)) (hj : j < L) (hL : L < 2 ^ 31) (h : Wp (L, xs) d cd (pc + 1) lv (.int (xs j) :: rs) w P) : Wp (L, xs) d cd pc lv (.int (nI j) :: .ref 500 :: rs) w P := by
  obtain ⟨r, w', h, hp⟩ := h
  refine ⟨r, w', Ev.step (x := (pc + 1, lv, .int (xs j) :: rs, w)) hi rfl ?_ h, hp⟩
  have e : zia (L, xs) w 0 500 (nI j) = some (xs j) := by
    unfold zia
    rw [if_neg (by decide)]
    show (if (0 : Nat) = 0 then (if nI j < 0 ∨ L ≤ (nI j).toNatClampNeg then none else some (xs (nI j).toNatClampNeg)) else none) = _
    rw [if_pos rfl, if_neg (nI_in hj hL), nI_clamp (by omega)]
  simp only [zstep, e]
set_option maxRecDepth 20000 in
theorem lw_singer {L : Nat} {xs : Nat → Int32} {i : Nat} (hL : L ≤ 3072) (hi : i + 6 ≤ L) (ih : ∀ (i' : Nat) (w : zW), i' = i + 6 → INVx w → Wp (L, xs) 40 pg_L_law 18 [(3, .int (nI i')), (2, .ref 66), (1, .ref 0), (0, .ref 500)] [] w (fun r w' => r = some (.int 1) ∧ INVx w')) {nv : Nat} {VD : Nat → zV} {NL : Nat → Nat} {n dd : Nat} {vs : List (Nat × Nat)} {mi : Nat → Nat → Int32} {ml : Nat → Nat → Int64} {g : Nat → Nat → Option Nat} (I : INV nv VD NL n dd vs mi ml g) : Wp (L, xs) 40 pg_L_law 180 [(3, .int (nI i)), (2, .ref 66), (1, .ref 0), (0, .ref 500)] [] (zsh ++ vs, mi, ml, zmr g) (fun r w' => r = some (.int 1) ∧ INVx w') := by
  refine Wp.run 5 (185, [(3, .int (nI i)), (2, .ref 66), (1, .ref 0), (0, .ref 500)], [.int ((nI i) + 1), .ref 500, .ref 0], (zsh ++ vs, mi, ml, (zmr g))) rfl ?_
  refine Wp.topi (y := nI (i + 1)) (nI_add i 1) ?_
  refine Wp.iasc rfl (by omega) (by omega) ?_
  refine Wp.run 4 (190, [(3, .int (nI i)), (2, .ref 66), (1, .ref 0), (0, .ref 500)], [.int ((nI i) + 2), .ref 500, .int (xs (i + 1)), .ref 0], (zsh ++ vs, mi, ml, (zmr g))) rfl ?_
  refine Wp.topi (y := nI (i + 2)) (nI_add i 2) ?_
  refine Wp.iasc rfl (by omega) (by omega) ?_
  refine Wp.run 4 (195, [(3, .int (nI i)), (2, .ref 66), (1, .ref 0), (0, .ref 500)], [.int ((nI i) + 3), .ref 500, .int (xs (i + 2)), .int (xs (i + 1)), .ref 0], (zsh ++ vs, mi, ml, (zmr g))) rfl ?_
  refine Wp.topi (y := nI (i + 3)) (nI_add i 3) ?_
  refine Wp.iasc rfl (by omega) (by omega) ?_
  refine Wp.run 4 (200, [(3, .int (nI i)), (2, .ref 66), (1, .ref 0), (0, .ref 500)], [.int ((nI i) + 4), .ref 500, .int (xs (i + 3)), .int (xs (i + 2)), .int (xs (i + 1)), .ref 0], (zsh ++ vs, mi, ml, (zmr g))) rfl ?_
  refine Wp.topi (y := nI (i + 4)) (nI_add i 4) ?_
  refine Wp.iasc rfl (by omega) (by omega) ?_
  refine Wp.run 0 (201, [(3, .int (nI i)), (2, .ref 66), (1, .ref 0), (0, .ref 500)], [.int (xs (i + 4)), .int (xs (i + 3)), .int (xs (i + 2)), .int (xs (i + 1)), .ref 0], (zsh ++ vs, mi, ml, (zmr g))) rfl ?_
  refine Wp.call (as := [.ref 0, .int (xs (i + 1)), .int (xs (i + 2)), .int (xs (i + 3)), .int (xs (i + 4))]) (rest := []) rfl rfl rfl rfl rfl (Nat.le_of_ble_eq_true rfl) (Nat.le_of_ble_eq_true rfl) rfl (by decide) (sim_singer I (xs (i + 1)) (xs (i + 2)) (xs (i + 3)) (xs (i + 4))) ?_
  rintro _ _ ⟨⟨vs1, mi1, ml1, g1, rfl⟩, x, rfl, hm⟩
  refine Wp.run 5 (209, [(3, .int (nI i)), (2, .ref 66), (1, .ref 0), (0, .ref 500)], [.int ((nI i) + 1), .ref 500, .ref 66, .int x], (zsh ++ vs1, mi1, ml1, (zmr g1))) rfl ?_
  refine Wp.topi (y := nI (i + 1)) (nI_add i 1) ?_
  refine Wp.iasc rfl (by omega) (by omega) ?_
  refine Wp.run 4 (214, [(3, .int (nI i)), (2, .ref 66), (1, .ref 0), (0, .ref 500)], [.int ((nI i) + 2), .ref 500, .int (xs (i + 1)), .ref 66, .int x], (zsh ++ vs1, mi1, ml1, (zmr g1))) rfl ?_
  refine Wp.topi (y := nI (i + 2)) (nI_add i 2) ?_
  refine Wp.iasc rfl (by omega) (by omega) ?_
  refine Wp.run 4 (219, [(3, .int (nI i)), (2, .ref 66), (1, .ref 0), (0, .ref 500)], [.int ((nI i) + 3), .ref 500, .int (xs (i + 2)), .int (xs (i + 1)), .ref 66, .int x], (zsh ++ vs1, mi1, ml1, (zmr g1))) rfl ?_
  refine Wp.topi (y := nI (i + 3)) (nI_add i 3) ?_
  refine Wp.iasc rfl (by omega) (by omega) ?_
  refine Wp.run 4 (224, [(3, .int (nI i)), (2, .ref 66), (1, .ref 0), (0, .ref 500)], [.int ((nI i) + 4), .ref 500, .int (xs (i + 3)), .int (xs (i + 2)), .int (xs (i + 1)), .ref 66, .int x], (zsh ++ vs1, mi1, ml1, (zmr g1))) rfl ?_
  refine Wp.topi (y := nI (i + 4)) (nI_add i 4) ?_
  refine Wp.iasc rfl (by omega) (by omega) ?_
  refine Wp.run 0 (225, [(3, .int (nI i)), (2, .ref 66), (1, .ref 0), (0, .ref 500)], [.int (xs (i + 4)), .int (xs (i + 3)), .int (xs (i + 2)), .int (xs (i + 1)), .ref 66, .int x], (zsh ++ vs1, mi1, ml1, (zmr g1))) rfl ?_
  refine Wp.call (as := [.ref 66, .int (xs (i + 1)), .int (xs (i + 2)), .int (xs (i + 3)), .int (xs (i + 4))]) (rest := [.int x]) rfl rfl rfl rfl rfl (Nat.le_of_ble_eq_true rfl) (Nat.le_of_ble_eq_true rfl) rfl (by decide) (hm) ?_
  rintro _ w2 ⟨rfl, hI2⟩
  refine Wp.run 0 (228, [(3, .int (nI i)), (2, .ref 66), (1, .ref 0), (0, .ref 500)], [.int x, .int x], (w2.1, w2.2.1, w2.2.2.1, w2.2.2.2)) rfl ?_
  refine Wp.icmp_eq rfl (fun h21 => ?_) (fun h21 => ?_)
  · refine Wp.run 2 (18, [(3, .int ((nI i) + 6)), (2, .ref 66), (1, .ref 0), (0, .ref 500)], [], (w2.1, w2.2.1, w2.2.2.1, w2.2.2.2)) rfl ?_
    obtain ⟨nv2, VD2, NL2, n2, dd2, vs2, mi2, ml2, g2, rfl, I2⟩ := hI2
    rw [show nI i + 6 = nI (i + 6) from nI_add i 6]
    refine Wp.sub (a := [(3, .int (nI (i + 6))), (2, .ref 66), (1, .ref 0), (0, .ref 500)]) (zle_cons rfl (zle_cons rfl (zle_cons rfl (zle_cons rfl (zle_nil))))) ?_
    exact ih (i + 6) _ rfl ⟨nv2, VD2, NL2, n2, dd2, vs2, mi2, ml2, g2, rfl, I2⟩
  · exact absurd rfl h21
set_option maxRecDepth 20000 in
theorem lw_of {L : Nat} {xs : Nat → Int32} {i : Nat} (hL : L ≤ 3072) (hi : i + 6 ≤ L) (ih : ∀ (i' : Nat) (w : zW), i' = i + 6 → INVx w → Wp (L, xs) 40 pg_L_law 18 [(3, .int (nI i')), (2, .ref 66), (1, .ref 0), (0, .ref 500)] [] w (fun r w' => r = some (.int 1) ∧ INVx w')) {nv : Nat} {VD : Nat → zV} {NL : Nat → Nat} {n dd : Nat} {vs : List (Nat × Nat)} {mi : Nat → Nat → Int32} {ml : Nat → Nat → Int64} {g : Nat → Nat → Option Nat} (I : INV nv VD NL n dd vs mi ml g) : Wp (L, xs) 40 pg_L_law 233 [(3, .int (nI i)), (2, .ref 66), (1, .ref 0), (0, .ref 500)] [] (zsh ++ vs, mi, ml, zmr g) (fun r w' => r = some (.int 1) ∧ INVx w') := by
  refine Wp.run 5 (238, [(3, .int (nI i)), (2, .ref 66), (1, .ref 0), (0, .ref 500)], [.int ((nI i) + 1), .ref 500, .ref 0], (zsh ++ vs, mi, ml, (zmr g))) rfl ?_
  refine Wp.topi (y := nI (i + 1)) (nI_add i 1) ?_
  refine Wp.iasc rfl (by omega) (by omega) ?_
  refine Wp.run 4 (243, [(3, .int (nI i)), (2, .ref 66), (1, .ref 0), (0, .ref 500)], [.int ((nI i) + 2), .ref 500, .int (xs (i + 1)), .ref 0], (zsh ++ vs, mi, ml, (zmr g))) rfl ?_
  refine Wp.topi (y := nI (i + 2)) (nI_add i 2) ?_
  refine Wp.iasc rfl (by omega) (by omega) ?_
  refine Wp.run 0 (244, [(3, .int (nI i)), (2, .ref 66), (1, .ref 0), (0, .ref 500)], [.int (xs (i + 2)), .int (xs (i + 1)), .ref 0], (zsh ++ vs, mi, ml, (zmr g))) rfl ?_
  refine Wp.call (as := [.ref 0, .int (xs (i + 1)), .int (xs (i + 2))]) (rest := []) rfl rfl rfl rfl rfl (Nat.le_of_ble_eq_true rfl) (Nat.le_of_ble_eq_true rfl) rfl (by decide) (sim_of I (xs (i + 1)) (xs (i + 2))) ?_
  rintro _ _ ⟨⟨vs1, mi1, ml1, g1, rfl⟩, x, rfl, hm⟩
  refine Wp.run 5 (252, [(3, .int (nI i)), (2, .ref 66), (1, .ref 0), (0, .ref 500)], [.int ((nI i) + 1), .ref 500, .ref 66, .int x], (zsh ++ vs1, mi1, ml1, (zmr g1))) rfl ?_
  refine Wp.topi (y := nI (i + 1)) (nI_add i 1) ?_
  refine Wp.iasc rfl (by omega) (by omega) ?_
  refine Wp.run 4 (257, [(3, .int (nI i)), (2, .ref 66), (1, .ref 0), (0, .ref 500)], [.int ((nI i) + 2), .ref 500, .int (xs (i + 1)), .ref 66, .int x], (zsh ++ vs1, mi1, ml1, (zmr g1))) rfl ?_
  refine Wp.topi (y := nI (i + 2)) (nI_add i 2) ?_
  refine Wp.iasc rfl (by omega) (by omega) ?_
  refine Wp.run 0 (258, [(3, .int (nI i)), (2, .ref 66), (1, .ref 0), (0, .ref 500)], [.int (xs (i + 2)), .int (xs (i + 1)), .ref 66, .int x], (zsh ++ vs1, mi1, ml1, (zmr g1))) rfl ?_
  refine Wp.call (as := [.ref 66, .int (xs (i + 1)), .int (xs (i + 2))]) (rest := [.int x]) rfl rfl rfl rfl rfl (Nat.le_of_ble_eq_true rfl) (Nat.le_of_ble_eq_true rfl) rfl (by decide) (hm) ?_
  rintro _ w2 ⟨rfl, hI2⟩
  refine Wp.run 0 (261, [(3, .int (nI i)), (2, .ref 66), (1, .ref 0), (0, .ref 500)], [.int x, .int x], (w2.1, w2.2.1, w2.2.2.1, w2.2.2.2)) rfl ?_
  refine Wp.icmp_eq rfl (fun h21 => ?_) (fun h21 => ?_)
  · refine Wp.run 2 (18, [(3, .int ((nI i) + 6)), (2, .ref 66), (1, .ref 0), (0, .ref 500)], [], (w2.1, w2.2.1, w2.2.2.1, w2.2.2.2)) rfl ?_
    obtain ⟨nv2, VD2, NL2, n2, dd2, vs2, mi2, ml2, g2, rfl, I2⟩ := hI2
    rw [show nI i + 6 = nI (i + 6) from nI_add i 6]
    refine Wp.sub (a := [(3, .int (nI (i + 6))), (2, .ref 66), (1, .ref 0), (0, .ref 500)]) (zle_cons rfl (zle_cons rfl (zle_cons rfl (zle_cons rfl (zle_nil))))) ?_
    exact ih (i + 6) _ rfl ⟨nv2, VD2, NL2, n2, dd2, vs2, mi2, ml2, g2, rfl, I2⟩
  · exact absurd rfl h21
set_option maxRecDepth 20000 in
theorem lw_part {L : Nat} {xs : Nat → Int32} {i : Nat} (hL : L ≤ 3072) (hi : i + 6 ≤ L) (ih : ∀ (i' : Nat) (w : zW), i' = i + 6 → INVx w → Wp (L, xs) 40 pg_L_law 18 [(3, .int (nI i')), (2, .ref 66), (1, .ref 0), (0, .ref 500)] [] w (fun r w' => r = some (.int 1) ∧ INVx w')) {nv : Nat} {VD : Nat → zV} {NL : Nat → Nat} {n dd : Nat} {vs : List (Nat × Nat)} {mi : Nat → Nat → Int32} {ml : Nat → Nat → Int64} {g : Nat → Nat → Option Nat} (I : INV nv VD NL n dd vs mi ml g) : Wp (L, xs) 40 pg_L_law 266 [(3, .int (nI i)), (2, .ref 66), (1, .ref 0), (0, .ref 500)] [] (zsh ++ vs, mi, ml, zmr g) (fun r w' => r = some (.int 1) ∧ INVx w') := by
  refine Wp.run 5 (271, [(3, .int (nI i)), (2, .ref 66), (1, .ref 0), (0, .ref 500)], [.int ((nI i) + 1), .ref 500, .ref 0], (zsh ++ vs, mi, ml, (zmr g))) rfl ?_
  refine Wp.topi (y := nI (i + 1)) (nI_add i 1) ?_
  refine Wp.iasc rfl (by omega) (by omega) ?_
  refine Wp.run 4 (276, [(3, .int (nI i)), (2, .ref 66), (1, .ref 0), (0, .ref 500)], [.int ((nI i) + 2), .ref 500, .int (xs (i + 1)), .ref 0], (zsh ++ vs, mi, ml, (zmr g))) rfl ?_
  refine Wp.topi (y := nI (i + 2)) (nI_add i 2) ?_
  refine Wp.iasc rfl (by omega) (by omega) ?_
  refine Wp.run 0 (277, [(3, .int (nI i)), (2, .ref 66), (1, .ref 0), (0, .ref 500)], [.int (xs (i + 2)), .int (xs (i + 1)), .ref 0], (zsh ++ vs, mi, ml, (zmr g))) rfl ?_
  refine Wp.call (as := [.ref 0, .int (xs (i + 1)), .int (xs (i + 2))]) (rest := []) rfl rfl rfl rfl rfl (Nat.le_of_ble_eq_true rfl) (Nat.le_of_ble_eq_true rfl) rfl (by decide) (sim_part I (xs (i + 1)) (xs (i + 2))) ?_
  rintro _ _ ⟨⟨vs1, mi1, ml1, g1, rfl⟩, x, rfl, hm⟩
  refine Wp.run 5 (285, [(3, .int (nI i)), (2, .ref 66), (1, .ref 0), (0, .ref 500)], [.int ((nI i) + 1), .ref 500, .ref 66, .int x], (zsh ++ vs1, mi1, ml1, (zmr g1))) rfl ?_
  refine Wp.topi (y := nI (i + 1)) (nI_add i 1) ?_
  refine Wp.iasc rfl (by omega) (by omega) ?_
  refine Wp.run 4 (290, [(3, .int (nI i)), (2, .ref 66), (1, .ref 0), (0, .ref 500)], [.int ((nI i) + 2), .ref 500, .int (xs (i + 1)), .ref 66, .int x], (zsh ++ vs1, mi1, ml1, (zmr g1))) rfl ?_
  refine Wp.topi (y := nI (i + 2)) (nI_add i 2) ?_
  refine Wp.iasc rfl (by omega) (by omega) ?_
  refine Wp.run 0 (291, [(3, .int (nI i)), (2, .ref 66), (1, .ref 0), (0, .ref 500)], [.int (xs (i + 2)), .int (xs (i + 1)), .ref 66, .int x], (zsh ++ vs1, mi1, ml1, (zmr g1))) rfl ?_
  refine Wp.call (as := [.ref 66, .int (xs (i + 1)), .int (xs (i + 2))]) (rest := [.int x]) rfl rfl rfl rfl rfl (Nat.le_of_ble_eq_true rfl) (Nat.le_of_ble_eq_true rfl) rfl (by decide) (hm) ?_
  rintro _ w2 ⟨rfl, hI2⟩
  refine Wp.run 0 (294, [(3, .int (nI i)), (2, .ref 66), (1, .ref 0), (0, .ref 500)], [.int x, .int x], (w2.1, w2.2.1, w2.2.2.1, w2.2.2.2)) rfl ?_
  refine Wp.icmp_eq rfl (fun h21 => ?_) (fun h21 => ?_)
  · refine Wp.run 2 (18, [(3, .int ((nI i) + 6)), (2, .ref 66), (1, .ref 0), (0, .ref 500)], [], (w2.1, w2.2.1, w2.2.2.1, w2.2.2.2)) rfl ?_
    obtain ⟨nv2, VD2, NL2, n2, dd2, vs2, mi2, ml2, g2, rfl, I2⟩ := hI2
    rw [show nI i + 6 = nI (i + 6) from nI_add i 6]
    refine Wp.sub (a := [(3, .int (nI (i + 6))), (2, .ref 66), (1, .ref 0), (0, .ref 500)]) (zle_cons rfl (zle_cons rfl (zle_cons rfl (zle_cons rfl (zle_nil))))) ?_
    exact ih (i + 6) _ rfl ⟨nv2, VD2, NL2, n2, dd2, vs2, mi2, ml2, g2, rfl, I2⟩
  · exact absurd rfl h21
set_option maxRecDepth 20000 in
theorem lw_set {L : Nat} {xs : Nat → Int32} {i : Nat} (hL : L ≤ 3072) (hi : i + 6 ≤ L) (ih : ∀ (i' : Nat) (w : zW), i' = i + 6 → INVx w → Wp (L, xs) 40 pg_L_law 18 [(3, .int (nI i')), (2, .ref 66), (1, .ref 0), (0, .ref 500)] [] w (fun r w' => r = some (.int 1) ∧ INVx w')) {nv : Nat} {VD : Nat → zV} {NL : Nat → Nat} {n dd : Nat} {vs : List (Nat × Nat)} {mi : Nat → Nat → Int32} {ml : Nat → Nat → Int64} {g : Nat → Nat → Option Nat} (I : INV nv VD NL n dd vs mi ml g) : Wp (L, xs) 40 pg_L_law 299 [(3, .int (nI i)), (2, .ref 66), (1, .ref 0), (0, .ref 500)] [] (zsh ++ vs, mi, ml, zmr g) (fun r w' => r = some (.int 1) ∧ INVx w') := by
  refine Wp.run 5 (304, [(3, .int (nI i)), (2, .ref 66), (1, .ref 0), (0, .ref 500)], [.int ((nI i) + 1), .ref 500, .ref 0], (zsh ++ vs, mi, ml, (zmr g))) rfl ?_
  refine Wp.topi (y := nI (i + 1)) (nI_add i 1) ?_
  refine Wp.iasc rfl (by omega) (by omega) ?_
  refine Wp.run 4 (309, [(3, .int (nI i)), (2, .ref 66), (1, .ref 0), (0, .ref 500)], [.int ((nI i) + 2), .ref 500, .int (xs (i + 1)), .ref 0], (zsh ++ vs, mi, ml, (zmr g))) rfl ?_
  refine Wp.topi (y := nI (i + 2)) (nI_add i 2) ?_
  refine Wp.iasc rfl (by omega) (by omega) ?_
  refine Wp.run 4 (314, [(3, .int (nI i)), (2, .ref 66), (1, .ref 0), (0, .ref 500)], [.int ((nI i) + 3), .ref 500, .int (xs (i + 2)), .int (xs (i + 1)), .ref 0], (zsh ++ vs, mi, ml, (zmr g))) rfl ?_
  refine Wp.topi (y := nI (i + 3)) (nI_add i 3) ?_
  refine Wp.iasc rfl (by omega) (by omega) ?_
  refine Wp.run 0 (315, [(3, .int (nI i)), (2, .ref 66), (1, .ref 0), (0, .ref 500)], [.int (xs (i + 3)), .int (xs (i + 2)), .int (xs (i + 1)), .ref 0], (zsh ++ vs, mi, ml, (zmr g))) rfl ?_
  refine Wp.call (as := [.ref 0, .int (xs (i + 1)), .int (xs (i + 2)), .int (xs (i + 3))]) (rest := []) rfl rfl rfl rfl rfl (Nat.le_of_ble_eq_true rfl) (Nat.le_of_ble_eq_true rfl) rfl (by decide) (sim_set I (xs (i + 1)) (xs (i + 2)) (xs (i + 3))) ?_
  rintro _ _ ⟨⟨vs1, mi1, ml1, g1, rfl⟩, x, rfl, hm⟩
  refine Wp.run 5 (323, [(3, .int (nI i)), (2, .ref 66), (1, .ref 0), (0, .ref 500)], [.int ((nI i) + 1), .ref 500, .ref 66, .int x], (zsh ++ vs1, mi1, ml1, (zmr g1))) rfl ?_
  refine Wp.topi (y := nI (i + 1)) (nI_add i 1) ?_
  refine Wp.iasc rfl (by omega) (by omega) ?_
  refine Wp.run 4 (328, [(3, .int (nI i)), (2, .ref 66), (1, .ref 0), (0, .ref 500)], [.int ((nI i) + 2), .ref 500, .int (xs (i + 1)), .ref 66, .int x], (zsh ++ vs1, mi1, ml1, (zmr g1))) rfl ?_
  refine Wp.topi (y := nI (i + 2)) (nI_add i 2) ?_
  refine Wp.iasc rfl (by omega) (by omega) ?_
  refine Wp.run 4 (333, [(3, .int (nI i)), (2, .ref 66), (1, .ref 0), (0, .ref 500)], [.int ((nI i) + 3), .ref 500, .int (xs (i + 2)), .int (xs (i + 1)), .ref 66, .int x], (zsh ++ vs1, mi1, ml1, (zmr g1))) rfl ?_
  refine Wp.topi (y := nI (i + 3)) (nI_add i 3) ?_
  refine Wp.iasc rfl (by omega) (by omega) ?_
  refine Wp.run 0 (334, [(3, .int (nI i)), (2, .ref 66), (1, .ref 0), (0, .ref 500)], [.int (xs (i + 3)), .int (xs (i + 2)), .int (xs (i + 1)), .ref 66, .int x], (zsh ++ vs1, mi1, ml1, (zmr g1))) rfl ?_
  refine Wp.call (as := [.ref 66, .int (xs (i + 1)), .int (xs (i + 2)), .int (xs (i + 3))]) (rest := [.int x]) rfl rfl rfl rfl rfl (Nat.le_of_ble_eq_true rfl) (Nat.le_of_ble_eq_true rfl) rfl (by decide) (hm) ?_
  rintro _ w2 ⟨rfl, hI2⟩
  refine Wp.run 0 (337, [(3, .int (nI i)), (2, .ref 66), (1, .ref 0), (0, .ref 500)], [.int x, .int x], (w2.1, w2.2.1, w2.2.2.1, w2.2.2.2)) rfl ?_
  refine Wp.icmp_eq rfl (fun h21 => ?_) (fun h21 => ?_)
  · refine Wp.run 2 (18, [(3, .int ((nI i) + 6)), (2, .ref 66), (1, .ref 0), (0, .ref 500)], [], (w2.1, w2.2.1, w2.2.2.1, w2.2.2.2)) rfl ?_
    obtain ⟨nv2, VD2, NL2, n2, dd2, vs2, mi2, ml2, g2, rfl, I2⟩ := hI2
    rw [show nI i + 6 = nI (i + 6) from nI_add i 6]
    refine Wp.sub (a := [(3, .int (nI (i + 6))), (2, .ref 66), (1, .ref 0), (0, .ref 500)]) (zle_cons rfl (zle_cons rfl (zle_cons rfl (zle_cons rfl (zle_nil))))) ?_
    exact ih (i + 6) _ rfl ⟨nv2, VD2, NL2, n2, dd2, vs2, mi2, ml2, g2, rfl, I2⟩
  · exact absurd rfl h21
set_option maxRecDepth 20000 in
theorem lw_away {L : Nat} {xs : Nat → Int32} {i : Nat} (hL : L ≤ 3072) (hi : i + 6 ≤ L) (ih : ∀ (i' : Nat) (w : zW), i' = i + 6 → INVx w → Wp (L, xs) 40 pg_L_law 18 [(3, .int (nI i')), (2, .ref 66), (1, .ref 0), (0, .ref 500)] [] w (fun r w' => r = some (.int 1) ∧ INVx w')) {nv : Nat} {VD : Nat → zV} {NL : Nat → Nat} {n dd : Nat} {vs : List (Nat × Nat)} {mi : Nat → Nat → Int32} {ml : Nat → Nat → Int64} {g : Nat → Nat → Option Nat} (I : INV nv VD NL n dd vs mi ml g) : Wp (L, xs) 40 pg_L_law 342 [(3, .int (nI i)), (2, .ref 66), (1, .ref 0), (0, .ref 500)] [] (zsh ++ vs, mi, ml, zmr g) (fun r w' => r = some (.int 1) ∧ INVx w') := by
  by_cases hz : xs (i + 2) = 0
  · refine Wp.run 5 (347, [(3, .int (nI i)), (2, .ref 66), (1, .ref 0), (0, .ref 500)], [.int ((nI i) + 1), .ref 500, .ref 0], (zsh ++ vs, mi, ml, (zmr g))) rfl ?_
    refine Wp.topi (y := nI (i + 1)) (nI_add i 1) ?_
    refine Wp.iasc rfl (by omega) (by omega) ?_
    refine Wp.run 4 (352, [(3, .int (nI i)), (2, .ref 66), (1, .ref 0), (0, .ref 500)], [.int ((nI i) + 2), .ref 500, .int (xs (i + 1)), .ref 0], (zsh ++ vs, mi, ml, (zmr g))) rfl ?_
    refine Wp.topi (y := nI (i + 2)) (nI_add i 2) ?_
    refine Wp.iasc rfl (by omega) (by omega) ?_
    refine Wp.run 0 (353, [(3, .int (nI i)), (2, .ref 66), (1, .ref 0), (0, .ref 500)], [.int (xs (i + 2)), .int (xs (i + 1)), .ref 0], (zsh ++ vs, mi, ml, (zmr g))) rfl ?_
    refine Wp.if_eq rfl (fun h21 => ?_) (fun h21 => ?_)
    · refine Wp.run 1 (361, [(3, .int (nI i)), (2, .ref 66), (1, .ref 0), (0, .ref 500)], [.int 0, .int (xs (i + 1)), .ref 0], (zsh ++ vs, mi, ml, (zmr g))) rfl ?_
      refine Wp.call (as := [.ref 0, .int (xs (i + 1)), .int 0]) (rest := []) rfl rfl rfl rfl rfl (Nat.le_of_ble_eq_true rfl) (Nat.le_of_ble_eq_true rfl) rfl (by decide) (sim_away I (xs (i + 1)) 0 (Or.inl rfl)) ?_
      rintro _ _ ⟨⟨vs1, mi1, ml1, g1, rfl⟩, x, rfl, hm⟩
      refine Wp.run 5 (369, [(3, .int (nI i)), (2, .ref 66), (1, .ref 0), (0, .ref 500)], [.int ((nI i) + 1), .ref 500, .ref 66, .int x], (zsh ++ vs1, mi1, ml1, (zmr g1))) rfl ?_
      refine Wp.topi (y := nI (i + 1)) (nI_add i 1) ?_
      refine Wp.iasc rfl (by omega) (by omega) ?_
      refine Wp.run 4 (374, [(3, .int (nI i)), (2, .ref 66), (1, .ref 0), (0, .ref 500)], [.int ((nI i) + 2), .ref 500, .int (xs (i + 1)), .ref 66, .int x], (zsh ++ vs1, mi1, ml1, (zmr g1))) rfl ?_
      refine Wp.topi (y := nI (i + 2)) (nI_add i 2) ?_
      refine Wp.iasc rfl (by omega) (by omega) ?_
      refine Wp.run 0 (375, [(3, .int (nI i)), (2, .ref 66), (1, .ref 0), (0, .ref 500)], [.int (xs (i + 2)), .int (xs (i + 1)), .ref 66, .int x], (zsh ++ vs1, mi1, ml1, (zmr g1))) rfl ?_
      refine Wp.if_eq rfl (fun h22 => ?_) (fun h22 => ?_)
      · refine Wp.run 1 (383, [(3, .int (nI i)), (2, .ref 66), (1, .ref 0), (0, .ref 500)], [.int 0, .int (xs (i + 1)), .ref 66, .int x], (zsh ++ vs1, mi1, ml1, (zmr g1))) rfl ?_
        refine Wp.call (as := [.ref 66, .int (xs (i + 1)), .int 0]) (rest := [.int x]) rfl rfl rfl rfl rfl (Nat.le_of_ble_eq_true rfl) (Nat.le_of_ble_eq_true rfl) rfl (by decide) (hm) ?_
        rintro _ w2 ⟨rfl, hI2⟩
        refine Wp.run 0 (386, [(3, .int (nI i)), (2, .ref 66), (1, .ref 0), (0, .ref 500)], [.int x, .int x], (w2.1, w2.2.1, w2.2.2.1, w2.2.2.2)) rfl ?_
        refine Wp.icmp_eq rfl (fun h23 => ?_) (fun h23 => ?_)
        · refine Wp.run 2 (18, [(3, .int ((nI i) + 6)), (2, .ref 66), (1, .ref 0), (0, .ref 500)], [], (w2.1, w2.2.1, w2.2.2.1, w2.2.2.2)) rfl ?_
          obtain ⟨nv2, VD2, NL2, n2, dd2, vs2, mi2, ml2, g2, rfl, I2⟩ := hI2
          rw [show nI i + 6 = nI (i + 6) from nI_add i 6]
          refine Wp.sub (a := [(3, .int (nI (i + 6))), (2, .ref 66), (1, .ref 0), (0, .ref 500)]) (zle_cons rfl (zle_cons rfl (zle_cons rfl (zle_cons rfl (zle_nil))))) ?_
          exact ih (i + 6) _ rfl ⟨nv2, VD2, NL2, n2, dd2, vs2, mi2, ml2, g2, rfl, I2⟩
        · exact absurd rfl h23
      · exact absurd hz h22
    · exact absurd hz h21
  · refine Wp.run 5 (347, [(3, .int (nI i)), (2, .ref 66), (1, .ref 0), (0, .ref 500)], [.int ((nI i) + 1), .ref 500, .ref 0], (zsh ++ vs, mi, ml, (zmr g))) rfl ?_
    refine Wp.topi (y := nI (i + 1)) (nI_add i 1) ?_
    refine Wp.iasc rfl (by omega) (by omega) ?_
    refine Wp.run 4 (352, [(3, .int (nI i)), (2, .ref 66), (1, .ref 0), (0, .ref 500)], [.int ((nI i) + 2), .ref 500, .int (xs (i + 1)), .ref 0], (zsh ++ vs, mi, ml, (zmr g))) rfl ?_
    refine Wp.topi (y := nI (i + 2)) (nI_add i 2) ?_
    refine Wp.iasc rfl (by omega) (by omega) ?_
    refine Wp.run 0 (353, [(3, .int (nI i)), (2, .ref 66), (1, .ref 0), (0, .ref 500)], [.int (xs (i + 2)), .int (xs (i + 1)), .ref 0], (zsh ++ vs, mi, ml, (zmr g))) rfl ?_
    refine Wp.if_eq rfl (fun h21 => ?_) (fun h21 => ?_)
    · exact absurd h21 hz
    · refine Wp.run 2 (361, [(3, .int (nI i)), (2, .ref 66), (1, .ref 0), (0, .ref 500)], [.int 1, .int (xs (i + 1)), .ref 0], (zsh ++ vs, mi, ml, (zmr g))) rfl ?_
      refine Wp.call (as := [.ref 0, .int (xs (i + 1)), .int 1]) (rest := []) rfl rfl rfl rfl rfl (Nat.le_of_ble_eq_true rfl) (Nat.le_of_ble_eq_true rfl) rfl (by decide) (sim_away I (xs (i + 1)) 1 (Or.inr rfl)) ?_
      rintro _ _ ⟨⟨vs1, mi1, ml1, g1, rfl⟩, x, rfl, hm⟩
      refine Wp.run 5 (369, [(3, .int (nI i)), (2, .ref 66), (1, .ref 0), (0, .ref 500)], [.int ((nI i) + 1), .ref 500, .ref 66, .int x], (zsh ++ vs1, mi1, ml1, (zmr g1))) rfl ?_
      refine Wp.topi (y := nI (i + 1)) (nI_add i 1) ?_
      refine Wp.iasc rfl (by omega) (by omega) ?_
      refine Wp.run 4 (374, [(3, .int (nI i)), (2, .ref 66), (1, .ref 0), (0, .ref 500)], [.int ((nI i) + 2), .ref 500, .int (xs (i + 1)), .ref 66, .int x], (zsh ++ vs1, mi1, ml1, (zmr g1))) rfl ?_
      refine Wp.topi (y := nI (i + 2)) (nI_add i 2) ?_
      refine Wp.iasc rfl (by omega) (by omega) ?_
      refine Wp.run 0 (375, [(3, .int (nI i)), (2, .ref 66), (1, .ref 0), (0, .ref 500)], [.int (xs (i + 2)), .int (xs (i + 1)), .ref 66, .int x], (zsh ++ vs1, mi1, ml1, (zmr g1))) rfl ?_
      refine Wp.if_eq rfl (fun h22 => ?_) (fun h22 => ?_)
      · exact absurd h22 hz
      · refine Wp.run 2 (383, [(3, .int (nI i)), (2, .ref 66), (1, .ref 0), (0, .ref 500)], [.int 1, .int (xs (i + 1)), .ref 66, .int x], (zsh ++ vs1, mi1, ml1, (zmr g1))) rfl ?_
        refine Wp.call (as := [.ref 66, .int (xs (i + 1)), .int 1]) (rest := [.int x]) rfl rfl rfl rfl rfl (Nat.le_of_ble_eq_true rfl) (Nat.le_of_ble_eq_true rfl) rfl (by decide) (hm) ?_
        rintro _ w2 ⟨rfl, hI2⟩
        refine Wp.run 0 (386, [(3, .int (nI i)), (2, .ref 66), (1, .ref 0), (0, .ref 500)], [.int x, .int x], (w2.1, w2.2.1, w2.2.2.1, w2.2.2.2)) rfl ?_
        refine Wp.icmp_eq rfl (fun h23 => ?_) (fun h23 => ?_)
        · refine Wp.run 2 (18, [(3, .int ((nI i) + 6)), (2, .ref 66), (1, .ref 0), (0, .ref 500)], [], (w2.1, w2.2.1, w2.2.2.1, w2.2.2.2)) rfl ?_
          obtain ⟨nv2, VD2, NL2, n2, dd2, vs2, mi2, ml2, g2, rfl, I2⟩ := hI2
          rw [show nI i + 6 = nI (i + 6) from nI_add i 6]
          refine Wp.sub (a := [(3, .int (nI (i + 6))), (2, .ref 66), (1, .ref 0), (0, .ref 500)]) (zle_cons rfl (zle_cons rfl (zle_cons rfl (zle_cons rfl (zle_nil))))) ?_
          exact ih (i + 6) _ rfl ⟨nv2, VD2, NL2, n2, dd2, vs2, mi2, ml2, g2, rfl, I2⟩
        · exact absurd rfl h23
set_option maxRecDepth 20000 in
theorem lw_sacks {L : Nat} {xs : Nat → Int32} {i : Nat} (hL : L ≤ 3072) (hi : i + 6 ≤ L) (ih : ∀ (i' : Nat) (w : zW), i' = i + 6 → INVx w → Wp (L, xs) 40 pg_L_law 18 [(3, .int (nI i')), (2, .ref 66), (1, .ref 0), (0, .ref 500)] [] w (fun r w' => r = some (.int 1) ∧ INVx w')) {nv : Nat} {VD : Nat → zV} {NL : Nat → Nat} {n dd : Nat} {vs : List (Nat × Nat)} {mi : Nat → Nat → Int32} {ml : Nat → Nat → Int64} {g : Nat → Nat → Option Nat} (I : INV nv VD NL n dd vs mi ml g) : Wp (L, xs) 40 pg_L_law 391 [(3, .int (nI i)), (2, .ref 66), (1, .ref 0), (0, .ref 500)] [] (zsh ++ vs, mi, ml, zmr g) (fun r w' => r = some (.int 1) ∧ INVx w') := by
  refine Wp.run 5 (396, [(3, .int (nI i)), (2, .ref 66), (1, .ref 0), (0, .ref 500)], [.int ((nI i) + 1), .ref 500, .ref 0], (zsh ++ vs, mi, ml, (zmr g))) rfl ?_
  refine Wp.topi (y := nI (i + 1)) (nI_add i 1) ?_
  refine Wp.iasc rfl (by omega) (by omega) ?_
  refine Wp.run 4 (401, [(3, .int (nI i)), (2, .ref 66), (1, .ref 0), (0, .ref 500)], [.int ((nI i) + 2), .ref 500, .int (xs (i + 1)), .ref 0], (zsh ++ vs, mi, ml, (zmr g))) rfl ?_
  refine Wp.topi (y := nI (i + 2)) (nI_add i 2) ?_
  refine Wp.iasc rfl (by omega) (by omega) ?_
  refine Wp.run 0 (402, [(3, .int (nI i)), (2, .ref 66), (1, .ref 0), (0, .ref 500)], [.int (xs (i + 2)), .int (xs (i + 1)), .ref 0], (zsh ++ vs, mi, ml, (zmr g))) rfl ?_
  refine Wp.call (as := [.ref 0, .int (xs (i + 1)), .int (xs (i + 2))]) (rest := []) rfl rfl rfl rfl rfl (Nat.le_of_ble_eq_true rfl) (Nat.le_of_ble_eq_true rfl) rfl (by decide) (sim_sacks I (xs (i + 1)) (xs (i + 2))) ?_
  rintro _ _ ⟨⟨vs1, mi1, ml1, g1, rfl⟩, x, rfl, hm⟩
  refine Wp.run 5 (410, [(3, .int (nI i)), (2, .ref 66), (1, .ref 0), (0, .ref 500)], [.int ((nI i) + 1), .ref 500, .ref 66, .int x], (zsh ++ vs1, mi1, ml1, (zmr g1))) rfl ?_
  refine Wp.topi (y := nI (i + 1)) (nI_add i 1) ?_
  refine Wp.iasc rfl (by omega) (by omega) ?_
  refine Wp.run 4 (415, [(3, .int (nI i)), (2, .ref 66), (1, .ref 0), (0, .ref 500)], [.int ((nI i) + 2), .ref 500, .int (xs (i + 1)), .ref 66, .int x], (zsh ++ vs1, mi1, ml1, (zmr g1))) rfl ?_
  refine Wp.topi (y := nI (i + 2)) (nI_add i 2) ?_
  refine Wp.iasc rfl (by omega) (by omega) ?_
  refine Wp.run 0 (416, [(3, .int (nI i)), (2, .ref 66), (1, .ref 0), (0, .ref 500)], [.int (xs (i + 2)), .int (xs (i + 1)), .ref 66, .int x], (zsh ++ vs1, mi1, ml1, (zmr g1))) rfl ?_
  refine Wp.call (as := [.ref 66, .int (xs (i + 1)), .int (xs (i + 2))]) (rest := [.int x]) rfl rfl rfl rfl rfl (Nat.le_of_ble_eq_true rfl) (Nat.le_of_ble_eq_true rfl) rfl (by decide) (hm) ?_
  rintro _ w2 ⟨rfl, hI2⟩
  refine Wp.run 0 (419, [(3, .int (nI i)), (2, .ref 66), (1, .ref 0), (0, .ref 500)], [.int x, .int x], (w2.1, w2.2.1, w2.2.2.1, w2.2.2.2)) rfl ?_
  refine Wp.icmp_eq rfl (fun h21 => ?_) (fun h21 => ?_)
  · refine Wp.run 2 (18, [(3, .int ((nI i) + 6)), (2, .ref 66), (1, .ref 0), (0, .ref 500)], [], (w2.1, w2.2.1, w2.2.2.1, w2.2.2.2)) rfl ?_
    obtain ⟨nv2, VD2, NL2, n2, dd2, vs2, mi2, ml2, g2, rfl, I2⟩ := hI2
    rw [show nI i + 6 = nI (i + 6) from nI_add i 6]
    refine Wp.sub (a := [(3, .int (nI (i + 6))), (2, .ref 66), (1, .ref 0), (0, .ref 500)]) (zle_cons rfl (zle_cons rfl (zle_cons rfl (zle_cons rfl (zle_nil))))) ?_
    exact ih (i + 6) _ rfl ⟨nv2, VD2, NL2, n2, dd2, vs2, mi2, ml2, g2, rfl, I2⟩
  · exact absurd rfl h21
set_option maxRecDepth 20000 in
theorem lw_teach {L : Nat} {xs : Nat → Int32} {i : Nat} (hL : L ≤ 3072) (hi : i + 6 ≤ L) (ih : ∀ (i' : Nat) (w : zW), i' = i + 6 → INVx w → Wp (L, xs) 40 pg_L_law 18 [(3, .int (nI i')), (2, .ref 66), (1, .ref 0), (0, .ref 500)] [] w (fun r w' => r = some (.int 1) ∧ INVx w')) {nv : Nat} {VD : Nat → zV} {NL : Nat → Nat} {n dd : Nat} {vs : List (Nat × Nat)} {mi : Nat → Nat → Int32} {ml : Nat → Nat → Int64} {g : Nat → Nat → Option Nat} (I : INV nv VD NL n dd vs mi ml g) : Wp (L, xs) 40 pg_L_law 424 [(3, .int (nI i)), (2, .ref 66), (1, .ref 0), (0, .ref 500)] [] (zsh ++ vs, mi, ml, zmr g) (fun r w' => r = some (.int 1) ∧ INVx w') := by
  refine Wp.run 5 (429, [(3, .int (nI i)), (2, .ref 66), (1, .ref 0), (0, .ref 500)], [.int ((nI i) + 1), .ref 500, .ref 0], (zsh ++ vs, mi, ml, (zmr g))) rfl ?_
  refine Wp.topi (y := nI (i + 1)) (nI_add i 1) ?_
  refine Wp.iasc rfl (by omega) (by omega) ?_
  refine Wp.run 4 (434, [(3, .int (nI i)), (2, .ref 66), (1, .ref 0), (0, .ref 500)], [.int ((nI i) + 2), .ref 500, .int (xs (i + 1)), .ref 0], (zsh ++ vs, mi, ml, (zmr g))) rfl ?_
  refine Wp.topi (y := nI (i + 2)) (nI_add i 2) ?_
  refine Wp.iasc rfl (by omega) (by omega) ?_
  refine Wp.run 4 (439, [(3, .int (nI i)), (2, .ref 66), (1, .ref 0), (0, .ref 500)], [.int ((nI i) + 3), .ref 500, .int (xs (i + 2)), .int (xs (i + 1)), .ref 0], (zsh ++ vs, mi, ml, (zmr g))) rfl ?_
  refine Wp.topi (y := nI (i + 3)) (nI_add i 3) ?_
  refine Wp.iasc rfl (by omega) (by omega) ?_
  refine Wp.run 0 (440, [(3, .int (nI i)), (2, .ref 66), (1, .ref 0), (0, .ref 500)], [.int (xs (i + 3)), .int (xs (i + 2)), .int (xs (i + 1)), .ref 0], (zsh ++ vs, mi, ml, (zmr g))) rfl ?_
  refine Wp.call (as := [.ref 0, .int (xs (i + 1)), .int (xs (i + 2)), .int (xs (i + 3))]) (rest := []) rfl rfl rfl rfl rfl (Nat.le_of_ble_eq_true rfl) (Nat.le_of_ble_eq_true rfl) rfl (by decide) (sim_teach I (xs (i + 1)) (xs (i + 2)) (xs (i + 3))) ?_
  rintro _ _ ⟨⟨vs1, mi1, ml1, g1, rfl⟩, x, rfl, hm⟩
  refine Wp.run 5 (448, [(3, .int (nI i)), (2, .ref 66), (1, .ref 0), (0, .ref 500)], [.int ((nI i) + 1), .ref 500, .ref 66, .int x], (zsh ++ vs1, mi1, ml1, (zmr g1))) rfl ?_
  refine Wp.topi (y := nI (i + 1)) (nI_add i 1) ?_
  refine Wp.iasc rfl (by omega) (by omega) ?_
  refine Wp.run 4 (453, [(3, .int (nI i)), (2, .ref 66), (1, .ref 0), (0, .ref 500)], [.int ((nI i) + 2), .ref 500, .int (xs (i + 1)), .ref 66, .int x], (zsh ++ vs1, mi1, ml1, (zmr g1))) rfl ?_
  refine Wp.topi (y := nI (i + 2)) (nI_add i 2) ?_
  refine Wp.iasc rfl (by omega) (by omega) ?_
  refine Wp.run 4 (458, [(3, .int (nI i)), (2, .ref 66), (1, .ref 0), (0, .ref 500)], [.int ((nI i) + 3), .ref 500, .int (xs (i + 2)), .int (xs (i + 1)), .ref 66, .int x], (zsh ++ vs1, mi1, ml1, (zmr g1))) rfl ?_
  refine Wp.topi (y := nI (i + 3)) (nI_add i 3) ?_
  refine Wp.iasc rfl (by omega) (by omega) ?_
  refine Wp.run 0 (459, [(3, .int (nI i)), (2, .ref 66), (1, .ref 0), (0, .ref 500)], [.int (xs (i + 3)), .int (xs (i + 2)), .int (xs (i + 1)), .ref 66, .int x], (zsh ++ vs1, mi1, ml1, (zmr g1))) rfl ?_
  refine Wp.call (as := [.ref 66, .int (xs (i + 1)), .int (xs (i + 2)), .int (xs (i + 3))]) (rest := [.int x]) rfl rfl rfl rfl rfl (Nat.le_of_ble_eq_true rfl) (Nat.le_of_ble_eq_true rfl) rfl (by decide) (hm) ?_
  rintro _ w2 ⟨rfl, hI2⟩
  refine Wp.run 0 (462, [(3, .int (nI i)), (2, .ref 66), (1, .ref 0), (0, .ref 500)], [.int x, .int x], (w2.1, w2.2.1, w2.2.2.1, w2.2.2.2)) rfl ?_
  refine Wp.icmp_eq rfl (fun h21 => ?_) (fun h21 => ?_)
  · refine Wp.run 2 (18, [(3, .int ((nI i) + 6)), (2, .ref 66), (1, .ref 0), (0, .ref 500)], [], (w2.1, w2.2.1, w2.2.2.1, w2.2.2.2)) rfl ?_
    obtain ⟨nv2, VD2, NL2, n2, dd2, vs2, mi2, ml2, g2, rfl, I2⟩ := hI2
    rw [show nI i + 6 = nI (i + 6) from nI_add i 6]
    refine Wp.sub (a := [(3, .int (nI (i + 6))), (2, .ref 66), (1, .ref 0), (0, .ref 500)]) (zle_cons rfl (zle_cons rfl (zle_cons rfl (zle_cons rfl (zle_nil))))) ?_
    exact ih (i + 6) _ rfl ⟨nv2, VD2, NL2, n2, dd2, vs2, mi2, ml2, g2, rfl, I2⟩
  · exact absurd rfl h21
set_option maxRecDepth 20000 in
theorem lw_row {L : Nat} {xs : Nat → Int32} {i : Nat} (hL : L ≤ 3072) (hi : i + 6 ≤ L) (ih : ∀ (i' : Nat) (w : zW), i' = i + 6 → INVx w → Wp (L, xs) 40 pg_L_law 18 [(3, .int (nI i')), (2, .ref 66), (1, .ref 0), (0, .ref 500)] [] w (fun r w' => r = some (.int 1) ∧ INVx w')) {nv : Nat} {VD : Nat → zV} {NL : Nat → Nat} {n dd : Nat} {vs : List (Nat × Nat)} {mi : Nat → Nat → Int32} {ml : Nat → Nat → Int64} {g : Nat → Nat → Option Nat} (I : INV nv VD NL n dd vs mi ml g) : Wp (L, xs) 40 pg_L_law 467 [(3, .int (nI i)), (2, .ref 66), (1, .ref 0), (0, .ref 500)] [] (zsh ++ vs, mi, ml, zmr g) (fun r w' => r = some (.int 1) ∧ INVx w') := by
  refine Wp.run 5 (472, [(3, .int (nI i)), (2, .ref 66), (1, .ref 0), (0, .ref 500)], [.int ((nI i) + 1), .ref 500, .ref 0], (zsh ++ vs, mi, ml, (zmr g))) rfl ?_
  refine Wp.topi (y := nI (i + 1)) (nI_add i 1) ?_
  refine Wp.iasc rfl (by omega) (by omega) ?_
  refine Wp.run 4 (477, [(3, .int (nI i)), (2, .ref 66), (1, .ref 0), (0, .ref 500)], [.int ((nI i) + 2), .ref 500, .int (xs (i + 1)), .ref 0], (zsh ++ vs, mi, ml, (zmr g))) rfl ?_
  refine Wp.topi (y := nI (i + 2)) (nI_add i 2) ?_
  refine Wp.iasc rfl (by omega) (by omega) ?_
  refine Wp.run 4 (482, [(3, .int (nI i)), (2, .ref 66), (1, .ref 0), (0, .ref 500)], [.int ((nI i) + 3), .ref 500, .int (xs (i + 2)), .int (xs (i + 1)), .ref 0], (zsh ++ vs, mi, ml, (zmr g))) rfl ?_
  refine Wp.topi (y := nI (i + 3)) (nI_add i 3) ?_
  refine Wp.iasc rfl (by omega) (by omega) ?_
  refine Wp.run 0 (483, [(3, .int (nI i)), (2, .ref 66), (1, .ref 0), (0, .ref 500)], [.int (xs (i + 3)), .int (xs (i + 2)), .int (xs (i + 1)), .ref 0], (zsh ++ vs, mi, ml, (zmr g))) rfl ?_
  refine Wp.call (as := [.ref 0, .int (xs (i + 1)), .int (xs (i + 2)), .int (xs (i + 3))]) (rest := []) rfl rfl rfl rfl rfl (Nat.le_of_ble_eq_true rfl) (Nat.le_of_ble_eq_true rfl) rfl (by decide) (sim_row I (xs (i + 1)) (xs (i + 2)) (xs (i + 3))) ?_
  rintro _ _ ⟨⟨vs1, mi1, ml1, g1, rfl⟩, x, rfl, hm⟩
  refine Wp.run 5 (491, [(3, .int (nI i)), (2, .ref 66), (1, .ref 0), (0, .ref 500)], [.int ((nI i) + 1), .ref 500, .ref 66, .int x], (zsh ++ vs1, mi1, ml1, (zmr g1))) rfl ?_
  refine Wp.topi (y := nI (i + 1)) (nI_add i 1) ?_
  refine Wp.iasc rfl (by omega) (by omega) ?_
  refine Wp.run 4 (496, [(3, .int (nI i)), (2, .ref 66), (1, .ref 0), (0, .ref 500)], [.int ((nI i) + 2), .ref 500, .int (xs (i + 1)), .ref 66, .int x], (zsh ++ vs1, mi1, ml1, (zmr g1))) rfl ?_
  refine Wp.topi (y := nI (i + 2)) (nI_add i 2) ?_
  refine Wp.iasc rfl (by omega) (by omega) ?_
  refine Wp.run 4 (501, [(3, .int (nI i)), (2, .ref 66), (1, .ref 0), (0, .ref 500)], [.int ((nI i) + 3), .ref 500, .int (xs (i + 2)), .int (xs (i + 1)), .ref 66, .int x], (zsh ++ vs1, mi1, ml1, (zmr g1))) rfl ?_
  refine Wp.topi (y := nI (i + 3)) (nI_add i 3) ?_
  refine Wp.iasc rfl (by omega) (by omega) ?_
  refine Wp.run 0 (502, [(3, .int (nI i)), (2, .ref 66), (1, .ref 0), (0, .ref 500)], [.int (xs (i + 3)), .int (xs (i + 2)), .int (xs (i + 1)), .ref 66, .int x], (zsh ++ vs1, mi1, ml1, (zmr g1))) rfl ?_
  refine Wp.call (as := [.ref 66, .int (xs (i + 1)), .int (xs (i + 2)), .int (xs (i + 3))]) (rest := [.int x]) rfl rfl rfl rfl rfl (Nat.le_of_ble_eq_true rfl) (Nat.le_of_ble_eq_true rfl) rfl (by decide) (hm) ?_
  rintro _ w2 ⟨rfl, hI2⟩
  refine Wp.run 0 (505, [(3, .int (nI i)), (2, .ref 66), (1, .ref 0), (0, .ref 500)], [.int x, .int x], (w2.1, w2.2.1, w2.2.2.1, w2.2.2.2)) rfl ?_
  refine Wp.icmp_eq rfl (fun h21 => ?_) (fun h21 => ?_)
  · refine Wp.run 2 (18, [(3, .int ((nI i) + 6)), (2, .ref 66), (1, .ref 0), (0, .ref 500)], [], (w2.1, w2.2.1, w2.2.2.1, w2.2.2.2)) rfl ?_
    obtain ⟨nv2, VD2, NL2, n2, dd2, vs2, mi2, ml2, g2, rfl, I2⟩ := hI2
    rw [show nI i + 6 = nI (i + 6) from nI_add i 6]
    refine Wp.sub (a := [(3, .int (nI (i + 6))), (2, .ref 66), (1, .ref 0), (0, .ref 500)]) (zle_cons rfl (zle_cons rfl (zle_cons rfl (zle_cons rfl (zle_nil))))) ?_
    exact ih (i + 6) _ rfl ⟨nv2, VD2, NL2, n2, dd2, vs2, mi2, ml2, g2, rfl, I2⟩
  · exact absurd rfl h21
set_option maxRecDepth 20000 in
theorem lw_feed {L : Nat} {xs : Nat → Int32} {i : Nat} (hL : L ≤ 3072) (hi : i + 6 ≤ L) (ih : ∀ (i' : Nat) (w : zW), i' = i + 6 → INVx w → Wp (L, xs) 40 pg_L_law 18 [(3, .int (nI i')), (2, .ref 66), (1, .ref 0), (0, .ref 500)] [] w (fun r w' => r = some (.int 1) ∧ INVx w')) {nv : Nat} {VD : Nat → zV} {NL : Nat → Nat} {n dd : Nat} {vs : List (Nat × Nat)} {mi : Nat → Nat → Int32} {ml : Nat → Nat → Int64} {g : Nat → Nat → Option Nat} (I : INV nv VD NL n dd vs mi ml g) : Wp (L, xs) 40 pg_L_law 510 [(3, .int (nI i)), (2, .ref 66), (1, .ref 0), (0, .ref 500)] [] (zsh ++ vs, mi, ml, zmr g) (fun r w' => r = some (.int 1) ∧ INVx w') := by
  refine Wp.run 5 (515, [(3, .int (nI i)), (2, .ref 66), (1, .ref 0), (0, .ref 500)], [.int ((nI i) + 1), .ref 500, .ref 0], (zsh ++ vs, mi, ml, (zmr g))) rfl ?_
  refine Wp.topi (y := nI (i + 1)) (nI_add i 1) ?_
  refine Wp.iasc rfl (by omega) (by omega) ?_
  refine Wp.run 0 (516, [(3, .int (nI i)), (2, .ref 66), (1, .ref 0), (0, .ref 500)], [.int (xs (i + 1)), .ref 0], (zsh ++ vs, mi, ml, (zmr g))) rfl ?_
  refine Wp.call (as := [.ref 0, .int (xs (i + 1))]) (rest := []) rfl rfl rfl rfl rfl (Nat.le_of_ble_eq_true rfl) (Nat.le_of_ble_eq_true rfl) rfl (by decide) (sim_feed I (xs (i + 1))) ?_
  rintro _ _ ⟨⟨vs1, mi1, ml1, g1, rfl⟩, x, rfl, hm⟩
  refine Wp.run 5 (524, [(3, .int (nI i)), (2, .ref 66), (1, .ref 0), (0, .ref 500)], [.int ((nI i) + 1), .ref 500, .ref 66, .int x], (zsh ++ vs1, mi1, ml1, (zmr g1))) rfl ?_
  refine Wp.topi (y := nI (i + 1)) (nI_add i 1) ?_
  refine Wp.iasc rfl (by omega) (by omega) ?_
  refine Wp.run 0 (525, [(3, .int (nI i)), (2, .ref 66), (1, .ref 0), (0, .ref 500)], [.int (xs (i + 1)), .ref 66, .int x], (zsh ++ vs1, mi1, ml1, (zmr g1))) rfl ?_
  refine Wp.call (as := [.ref 66, .int (xs (i + 1))]) (rest := [.int x]) rfl rfl rfl rfl rfl (Nat.le_of_ble_eq_true rfl) (Nat.le_of_ble_eq_true rfl) rfl (by decide) (hm) ?_
  rintro _ w2 ⟨rfl, hI2⟩
  refine Wp.run 0 (528, [(3, .int (nI i)), (2, .ref 66), (1, .ref 0), (0, .ref 500)], [.int x, .int x], (w2.1, w2.2.1, w2.2.2.1, w2.2.2.2)) rfl ?_
  refine Wp.icmp_eq rfl (fun h21 => ?_) (fun h21 => ?_)
  · refine Wp.run 2 (18, [(3, .int ((nI i) + 6)), (2, .ref 66), (1, .ref 0), (0, .ref 500)], [], (w2.1, w2.2.1, w2.2.2.1, w2.2.2.2)) rfl ?_
    obtain ⟨nv2, VD2, NL2, n2, dd2, vs2, mi2, ml2, g2, rfl, I2⟩ := hI2
    rw [show nI i + 6 = nI (i + 6) from nI_add i 6]
    refine Wp.sub (a := [(3, .int (nI (i + 6))), (2, .ref 66), (1, .ref 0), (0, .ref 500)]) (zle_cons rfl (zle_cons rfl (zle_cons rfl (zle_cons rfl (zle_nil))))) ?_
    exact ih (i + 6) _ rfl ⟨nv2, VD2, NL2, n2, dd2, vs2, mi2, ml2, g2, rfl, I2⟩
  · exact absurd rfl h21
set_option maxRecDepth 20000 in
theorem lw_village {L : Nat} {xs : Nat → Int32} {i : Nat} (hL : L ≤ 3072) (hi : i + 6 ≤ L) (ih : ∀ (i' : Nat) (w : zW), i' = i + 6 → INVx w → Wp (L, xs) 40 pg_L_law 18 [(3, .int (nI i')), (2, .ref 66), (1, .ref 0), (0, .ref 500)] [] w (fun r w' => r = some (.int 1) ∧ INVx w')) {nv : Nat} {VD : Nat → zV} {NL : Nat → Nat} {n dd : Nat} {vs : List (Nat × Nat)} {mi : Nat → Nat → Int32} {ml : Nat → Nat → Int64} {g : Nat → Nat → Option Nat} (I : INV nv VD NL n dd vs mi ml g) : Wp (L, xs) 40 pg_L_law 533 [(3, .int (nI i)), (2, .ref 66), (1, .ref 0), (0, .ref 500)] [] (zsh ++ vs, mi, ml, zmr g) (fun r w' => r = some (.int 1) ∧ INVx w') := by
  refine Wp.run 1 (534, [(3, .int (nI i)), (2, .ref 66), (1, .ref 0), (0, .ref 500)], [.ref 0], (zsh ++ vs, mi, ml, (zmr g))) rfl ?_
  refine Wp.call (as := [.ref 0]) (rest := []) rfl rfl rfl rfl rfl (Nat.le_of_ble_eq_true rfl) (Nat.le_of_ble_eq_true rfl) rfl (by decide) (sim_village I ) ?_
  rintro _ _ ⟨⟨vs1, mi1, ml1, g1, rfl⟩, x, rfl, hm⟩
  refine Wp.run 1 (538, [(3, .int (nI i)), (2, .ref 66), (1, .ref 0), (0, .ref 500)], [.ref 66, .int x], (zsh ++ vs1, mi1, ml1, (zmr g1))) rfl ?_
  refine Wp.call (as := [.ref 66]) (rest := [.int x]) rfl rfl rfl rfl rfl (Nat.le_of_ble_eq_true rfl) (Nat.le_of_ble_eq_true rfl) rfl (by decide) (hm) ?_
  rintro _ w2 ⟨rfl, hI2⟩
  refine Wp.run 0 (541, [(3, .int (nI i)), (2, .ref 66), (1, .ref 0), (0, .ref 500)], [.int x, .int x], (w2.1, w2.2.1, w2.2.2.1, w2.2.2.2)) rfl ?_
  refine Wp.icmp_eq rfl (fun h21 => ?_) (fun h21 => ?_)
  · refine Wp.run 2 (18, [(3, .int ((nI i) + 6)), (2, .ref 66), (1, .ref 0), (0, .ref 500)], [], (w2.1, w2.2.1, w2.2.2.1, w2.2.2.2)) rfl ?_
    obtain ⟨nv2, VD2, NL2, n2, dd2, vs2, mi2, ml2, g2, rfl, I2⟩ := hI2
    rw [show nI i + 6 = nI (i + 6) from nI_add i 6]
    refine Wp.sub (a := [(3, .int (nI (i + 6))), (2, .ref 66), (1, .ref 0), (0, .ref 500)]) (zle_cons rfl (zle_cons rfl (zle_cons rfl (zle_cons rfl (zle_nil))))) ?_
    exact ih (i + 6) _ rfl ⟨nv2, VD2, NL2, n2, dd2, vs2, mi2, ml2, g2, rfl, I2⟩
  · exact absurd rfl h21
set_option maxRecDepth 20000 in
theorem lw_told {L : Nat} {xs : Nat → Int32} {i : Nat} (hL : L ≤ 3072) (hi : i + 6 ≤ L) (ih : ∀ (i' : Nat) (w : zW), i' = i + 6 → INVx w → Wp (L, xs) 40 pg_L_law 18 [(3, .int (nI i')), (2, .ref 66), (1, .ref 0), (0, .ref 500)] [] w (fun r w' => r = some (.int 1) ∧ INVx w')) {nv : Nat} {VD : Nat → zV} {NL : Nat → Nat} {n dd : Nat} {vs : List (Nat × Nat)} {mi : Nat → Nat → Int32} {ml : Nat → Nat → Int64} {g : Nat → Nat → Option Nat} (I : INV nv VD NL n dd vs mi ml g) : Wp (L, xs) 40 pg_L_law 546 [(3, .int (nI i)), (2, .ref 66), (1, .ref 0), (0, .ref 500)] [] (zsh ++ vs, mi, ml, zmr g) (fun r w' => r = some (.int 1) ∧ INVx w') := by
  refine Wp.run 5 (551, [(3, .int (nI i)), (2, .ref 66), (1, .ref 0), (0, .ref 500)], [.int ((nI i) + 1), .ref 500, .ref 0], (zsh ++ vs, mi, ml, (zmr g))) rfl ?_
  refine Wp.topi (y := nI (i + 1)) (nI_add i 1) ?_
  refine Wp.iasc rfl (by omega) (by omega) ?_
  refine Wp.run 0 (552, [(3, .int (nI i)), (2, .ref 66), (1, .ref 0), (0, .ref 500)], [.int (xs (i + 1)), .ref 0], (zsh ++ vs, mi, ml, (zmr g))) rfl ?_
  refine Wp.call (as := [.ref 0, .int (xs (i + 1))]) (rest := []) rfl rfl rfl rfl rfl (Nat.le_of_ble_eq_true rfl) (Nat.le_of_ble_eq_true rfl) rfl (by decide) (sim_told I (xs (i + 1))) ?_
  rintro _ _ ⟨⟨vs1, mi1, ml1, g1, rfl⟩, x, rfl, hm⟩
  refine Wp.run 5 (560, [(3, .int (nI i)), (2, .ref 66), (1, .ref 0), (0, .ref 500)], [.int ((nI i) + 1), .ref 500, .ref 66, .int x], (zsh ++ vs1, mi1, ml1, (zmr g1))) rfl ?_
  refine Wp.topi (y := nI (i + 1)) (nI_add i 1) ?_
  refine Wp.iasc rfl (by omega) (by omega) ?_
  refine Wp.run 0 (561, [(3, .int (nI i)), (2, .ref 66), (1, .ref 0), (0, .ref 500)], [.int (xs (i + 1)), .ref 66, .int x], (zsh ++ vs1, mi1, ml1, (zmr g1))) rfl ?_
  refine Wp.call (as := [.ref 66, .int (xs (i + 1))]) (rest := [.int x]) rfl rfl rfl rfl rfl (Nat.le_of_ble_eq_true rfl) (Nat.le_of_ble_eq_true rfl) rfl (by decide) (hm) ?_
  rintro _ w2 ⟨rfl, hI2⟩
  refine Wp.run 0 (564, [(3, .int (nI i)), (2, .ref 66), (1, .ref 0), (0, .ref 500)], [.int x, .int x], (w2.1, w2.2.1, w2.2.2.1, w2.2.2.2)) rfl ?_
  refine Wp.icmp_eq rfl (fun h21 => ?_) (fun h21 => ?_)
  · refine Wp.run 2 (18, [(3, .int ((nI i) + 6)), (2, .ref 66), (1, .ref 0), (0, .ref 500)], [], (w2.1, w2.2.1, w2.2.2.1, w2.2.2.2)) rfl ?_
    obtain ⟨nv2, VD2, NL2, n2, dd2, vs2, mi2, ml2, g2, rfl, I2⟩ := hI2
    rw [show nI i + 6 = nI (i + 6) from nI_add i 6]
    refine Wp.sub (a := [(3, .int (nI (i + 6))), (2, .ref 66), (1, .ref 0), (0, .ref 500)]) (zle_cons rfl (zle_cons rfl (zle_cons rfl (zle_cons rfl (zle_nil))))) ?_
    exact ih (i + 6) _ rfl ⟨nv2, VD2, NL2, n2, dd2, vs2, mi2, ml2, g2, rfl, I2⟩
  · exact absurd rfl h21
set_option maxRecDepth 20000 in
theorem lw_pass {L : Nat} {xs : Nat → Int32} {i : Nat} (hL : L ≤ 3072) (hi : i + 6 ≤ L) (ih : ∀ (i' : Nat) (w : zW), i' = i + 6 → INVx w → Wp (L, xs) 40 pg_L_law 18 [(3, .int (nI i')), (2, .ref 66), (1, .ref 0), (0, .ref 500)] [] w (fun r w' => r = some (.int 1) ∧ INVx w')) {nv : Nat} {VD : Nat → zV} {NL : Nat → Nat} {n dd : Nat} {vs : List (Nat × Nat)} {mi : Nat → Nat → Int32} {ml : Nat → Nat → Int64} {g : Nat → Nat → Option Nat} (I : INV nv VD NL n dd vs mi ml g) : Wp (L, xs) 40 pg_L_law 569 [(3, .int (nI i)), (2, .ref 66), (1, .ref 0), (0, .ref 500)] [] (zsh ++ vs, mi, ml, zmr g) (fun r w' => r = some (.int 1) ∧ INVx w') := by
  refine Wp.run 5 (574, [(3, .int (nI i)), (2, .ref 66), (1, .ref 0), (0, .ref 500)], [.int ((nI i) + 1), .ref 500, .ref 0], (zsh ++ vs, mi, ml, (zmr g))) rfl ?_
  refine Wp.topi (y := nI (i + 1)) (nI_add i 1) ?_
  refine Wp.iasc rfl (by omega) (by omega) ?_
  refine Wp.run 0 (575, [(3, .int (nI i)), (2, .ref 66), (1, .ref 0), (0, .ref 500)], [.int (xs (i + 1)), .ref 0], (zsh ++ vs, mi, ml, (zmr g))) rfl ?_
  refine Wp.call (as := [.ref 0, .int (xs (i + 1))]) (rest := []) rfl rfl rfl rfl rfl (Nat.le_of_ble_eq_true rfl) (Nat.le_of_ble_eq_true rfl) rfl (by decide) (sim_pass I (xs (i + 1))) ?_
  rintro _ _ ⟨⟨vs1, mi1, ml1, g1, rfl⟩, x, rfl, hm⟩
  refine Wp.run 5 (583, [(3, .int (nI i)), (2, .ref 66), (1, .ref 0), (0, .ref 500)], [.int ((nI i) + 1), .ref 500, .ref 66, .int x], (zsh ++ vs1, mi1, ml1, (zmr g1))) rfl ?_
  refine Wp.topi (y := nI (i + 1)) (nI_add i 1) ?_
  refine Wp.iasc rfl (by omega) (by omega) ?_
  refine Wp.run 0 (584, [(3, .int (nI i)), (2, .ref 66), (1, .ref 0), (0, .ref 500)], [.int (xs (i + 1)), .ref 66, .int x], (zsh ++ vs1, mi1, ml1, (zmr g1))) rfl ?_
  refine Wp.call (as := [.ref 66, .int (xs (i + 1))]) (rest := [.int x]) rfl rfl rfl rfl rfl (Nat.le_of_ble_eq_true rfl) (Nat.le_of_ble_eq_true rfl) rfl (by decide) (hm) ?_
  rintro _ w2 ⟨rfl, hI2⟩
  refine Wp.run 0 (587, [(3, .int (nI i)), (2, .ref 66), (1, .ref 0), (0, .ref 500)], [.int x, .int x], (w2.1, w2.2.1, w2.2.2.1, w2.2.2.2)) rfl ?_
  refine Wp.icmp_eq rfl (fun h21 => ?_) (fun h21 => ?_)
  · refine Wp.run 2 (18, [(3, .int ((nI i) + 6)), (2, .ref 66), (1, .ref 0), (0, .ref 500)], [], (w2.1, w2.2.1, w2.2.2.1, w2.2.2.2)) rfl ?_
    obtain ⟨nv2, VD2, NL2, n2, dd2, vs2, mi2, ml2, g2, rfl, I2⟩ := hI2
    rw [show nI i + 6 = nI (i + 6) from nI_add i 6]
    refine Wp.sub (a := [(3, .int (nI (i + 6))), (2, .ref 66), (1, .ref 0), (0, .ref 500)]) (zle_cons rfl (zle_cons rfl (zle_cons rfl (zle_cons rfl (zle_nil))))) ?_
    exact ih (i + 6) _ rfl ⟨nv2, VD2, NL2, n2, dd2, vs2, mi2, ml2, g2, rfl, I2⟩
  · exact absurd rfl h21
set_option maxRecDepth 20000 in
theorem lw_on {L : Nat} {xs : Nat → Int32} {i : Nat} (hL : L ≤ 3072) (hi : i + 6 ≤ L) (ih : ∀ (i' : Nat) (w : zW), i' = i + 6 → INVx w → Wp (L, xs) 40 pg_L_law 18 [(3, .int (nI i')), (2, .ref 66), (1, .ref 0), (0, .ref 500)] [] w (fun r w' => r = some (.int 1) ∧ INVx w')) {nv : Nat} {VD : Nat → zV} {NL : Nat → Nat} {n dd : Nat} {vs : List (Nat × Nat)} {mi : Nat → Nat → Int32} {ml : Nat → Nat → Int64} {g : Nat → Nat → Option Nat} (I : INV nv VD NL n dd vs mi ml g) : Wp (L, xs) 40 pg_L_law 592 [(3, .int (nI i)), (2, .ref 66), (1, .ref 0), (0, .ref 500)] [] (zsh ++ vs, mi, ml, zmr g) (fun r w' => r = some (.int 1) ∧ INVx w') := by
  refine Wp.run 5 (597, [(3, .int (nI i)), (2, .ref 66), (1, .ref 0), (0, .ref 500)], [.int ((nI i) + 1), .ref 500, .ref 0], (zsh ++ vs, mi, ml, (zmr g))) rfl ?_
  refine Wp.topi (y := nI (i + 1)) (nI_add i 1) ?_
  refine Wp.iasc rfl (by omega) (by omega) ?_
  refine Wp.run 4 (602, [(3, .int (nI i)), (2, .ref 66), (1, .ref 0), (0, .ref 500)], [.int ((nI i) + 2), .ref 500, .int (xs (i + 1)), .ref 0], (zsh ++ vs, mi, ml, (zmr g))) rfl ?_
  refine Wp.topi (y := nI (i + 2)) (nI_add i 2) ?_
  refine Wp.iasc rfl (by omega) (by omega) ?_
  refine Wp.run 0 (603, [(3, .int (nI i)), (2, .ref 66), (1, .ref 0), (0, .ref 500)], [.int (xs (i + 2)), .int (xs (i + 1)), .ref 0], (zsh ++ vs, mi, ml, (zmr g))) rfl ?_
  refine Wp.call (as := [.ref 0, .int (xs (i + 1)), .int (xs (i + 2))]) (rest := []) rfl rfl rfl rfl rfl (Nat.le_of_ble_eq_true rfl) (Nat.le_of_ble_eq_true rfl) rfl (by decide) (sim_on I (xs (i + 1)) (xs (i + 2))) ?_
  rintro _ _ ⟨⟨vs1, mi1, ml1, g1, rfl⟩, x, rfl, hm⟩
  refine Wp.run 5 (611, [(3, .int (nI i)), (2, .ref 66), (1, .ref 0), (0, .ref 500)], [.int ((nI i) + 1), .ref 500, .ref 66, .int x], (zsh ++ vs1, mi1, ml1, (zmr g1))) rfl ?_
  refine Wp.topi (y := nI (i + 1)) (nI_add i 1) ?_
  refine Wp.iasc rfl (by omega) (by omega) ?_
  refine Wp.run 4 (616, [(3, .int (nI i)), (2, .ref 66), (1, .ref 0), (0, .ref 500)], [.int ((nI i) + 2), .ref 500, .int (xs (i + 1)), .ref 66, .int x], (zsh ++ vs1, mi1, ml1, (zmr g1))) rfl ?_
  refine Wp.topi (y := nI (i + 2)) (nI_add i 2) ?_
  refine Wp.iasc rfl (by omega) (by omega) ?_
  refine Wp.run 0 (617, [(3, .int (nI i)), (2, .ref 66), (1, .ref 0), (0, .ref 500)], [.int (xs (i + 2)), .int (xs (i + 1)), .ref 66, .int x], (zsh ++ vs1, mi1, ml1, (zmr g1))) rfl ?_
  refine Wp.call (as := [.ref 66, .int (xs (i + 1)), .int (xs (i + 2))]) (rest := [.int x]) rfl rfl rfl rfl rfl (Nat.le_of_ble_eq_true rfl) (Nat.le_of_ble_eq_true rfl) rfl (by decide) (hm) ?_
  rintro _ w2 ⟨rfl, hI2⟩
  refine Wp.run 0 (620, [(3, .int (nI i)), (2, .ref 66), (1, .ref 0), (0, .ref 500)], [.int x, .int x], (w2.1, w2.2.1, w2.2.2.1, w2.2.2.2)) rfl ?_
  refine Wp.icmp_eq rfl (fun h21 => ?_) (fun h21 => ?_)
  · refine Wp.run 2 (18, [(3, .int ((nI i) + 6)), (2, .ref 66), (1, .ref 0), (0, .ref 500)], [], (w2.1, w2.2.1, w2.2.2.1, w2.2.2.2)) rfl ?_
    obtain ⟨nv2, VD2, NL2, n2, dd2, vs2, mi2, ml2, g2, rfl, I2⟩ := hI2
    rw [show nI i + 6 = nI (i + 6) from nI_add i 6]
    refine Wp.sub (a := [(3, .int (nI (i + 6))), (2, .ref 66), (1, .ref 0), (0, .ref 500)]) (zle_cons rfl (zle_cons rfl (zle_cons rfl (zle_cons rfl (zle_nil))))) ?_
    exact ih (i + 6) _ rfl ⟨nv2, VD2, NL2, n2, dd2, vs2, mi2, ml2, g2, rfl, I2⟩
  · exact absurd rfl h21
set_option maxRecDepth 20000 in
theorem lw_choir {L : Nat} {xs : Nat → Int32} {i : Nat} (hL : L ≤ 3072) (hi : i + 6 ≤ L) (ih : ∀ (i' : Nat) (w : zW), i' = i + 6 → INVx w → Wp (L, xs) 40 pg_L_law 18 [(3, .int (nI i')), (2, .ref 66), (1, .ref 0), (0, .ref 500)] [] w (fun r w' => r = some (.int 1) ∧ INVx w')) {nv : Nat} {VD : Nat → zV} {NL : Nat → Nat} {n dd : Nat} {vs : List (Nat × Nat)} {mi : Nat → Nat → Int32} {ml : Nat → Nat → Int64} {g : Nat → Nat → Option Nat} (I : INV nv VD NL n dd vs mi ml g) : Wp (L, xs) 40 pg_L_law 625 [(3, .int (nI i)), (2, .ref 66), (1, .ref 0), (0, .ref 500)] [] (zsh ++ vs, mi, ml, zmr g) (fun r w' => r = some (.int 1) ∧ INVx w') := by
  refine Wp.run 5 (630, [(3, .int (nI i)), (2, .ref 66), (1, .ref 0), (0, .ref 500)], [.int ((nI i) + 1), .ref 500, .ref 0], (zsh ++ vs, mi, ml, (zmr g))) rfl ?_
  refine Wp.topi (y := nI (i + 1)) (nI_add i 1) ?_
  refine Wp.iasc rfl (by omega) (by omega) ?_
  refine Wp.run 4 (635, [(3, .int (nI i)), (2, .ref 66), (1, .ref 0), (0, .ref 500)], [.int ((nI i) + 2), .ref 500, .int (xs (i + 1)), .ref 0], (zsh ++ vs, mi, ml, (zmr g))) rfl ?_
  refine Wp.topi (y := nI (i + 2)) (nI_add i 2) ?_
  refine Wp.iasc rfl (by omega) (by omega) ?_
  refine Wp.run 0 (636, [(3, .int (nI i)), (2, .ref 66), (1, .ref 0), (0, .ref 500)], [.int (xs (i + 2)), .int (xs (i + 1)), .ref 0], (zsh ++ vs, mi, ml, (zmr g))) rfl ?_
  refine Wp.call (as := [.ref 0, .int (xs (i + 1)), .int (xs (i + 2))]) (rest := []) rfl rfl rfl rfl rfl (Nat.le_of_ble_eq_true rfl) (Nat.le_of_ble_eq_true rfl) rfl (by decide) (sim_choir I (xs (i + 1)) (xs (i + 2))) ?_
  rintro _ _ ⟨⟨vs1, mi1, ml1, g1, rfl⟩, x, rfl, hm⟩
  refine Wp.run 5 (644, [(3, .int (nI i)), (2, .ref 66), (1, .ref 0), (0, .ref 500)], [.int ((nI i) + 1), .ref 500, .ref 66, .int x], (zsh ++ vs1, mi1, ml1, (zmr g1))) rfl ?_
  refine Wp.topi (y := nI (i + 1)) (nI_add i 1) ?_
  refine Wp.iasc rfl (by omega) (by omega) ?_
  refine Wp.run 4 (649, [(3, .int (nI i)), (2, .ref 66), (1, .ref 0), (0, .ref 500)], [.int ((nI i) + 2), .ref 500, .int (xs (i + 1)), .ref 66, .int x], (zsh ++ vs1, mi1, ml1, (zmr g1))) rfl ?_
  refine Wp.topi (y := nI (i + 2)) (nI_add i 2) ?_
  refine Wp.iasc rfl (by omega) (by omega) ?_
  refine Wp.run 0 (650, [(3, .int (nI i)), (2, .ref 66), (1, .ref 0), (0, .ref 500)], [.int (xs (i + 2)), .int (xs (i + 1)), .ref 66, .int x], (zsh ++ vs1, mi1, ml1, (zmr g1))) rfl ?_
  refine Wp.call (as := [.ref 66, .int (xs (i + 1)), .int (xs (i + 2))]) (rest := [.int x]) rfl rfl rfl rfl rfl (Nat.le_of_ble_eq_true rfl) (Nat.le_of_ble_eq_true rfl) rfl (by decide) (hm) ?_
  rintro _ w2 ⟨rfl, hI2⟩
  refine Wp.run 0 (653, [(3, .int (nI i)), (2, .ref 66), (1, .ref 0), (0, .ref 500)], [.int x, .int x], (w2.1, w2.2.1, w2.2.2.1, w2.2.2.2)) rfl ?_
  refine Wp.icmp_eq rfl (fun h21 => ?_) (fun h21 => ?_)
  · refine Wp.run 2 (18, [(3, .int ((nI i) + 6)), (2, .ref 66), (1, .ref 0), (0, .ref 500)], [], (w2.1, w2.2.1, w2.2.2.1, w2.2.2.2)) rfl ?_
    obtain ⟨nv2, VD2, NL2, n2, dd2, vs2, mi2, ml2, g2, rfl, I2⟩ := hI2
    rw [show nI i + 6 = nI (i + 6) from nI_add i 6]
    refine Wp.sub (a := [(3, .int (nI (i + 6))), (2, .ref 66), (1, .ref 0), (0, .ref 500)]) (zle_cons rfl (zle_cons rfl (zle_cons rfl (zle_cons rfl (zle_nil))))) ?_
    exact ih (i + 6) _ rfl ⟨nv2, VD2, NL2, n2, dd2, vs2, mi2, ml2, g2, rfl, I2⟩
  · exact absurd rfl h21
set_option maxRecDepth 20000 in
theorem lw_see {L : Nat} {xs : Nat → Int32} {i : Nat} (hL : L ≤ 3072) (hi : i + 6 ≤ L) (ih : ∀ (i' : Nat) (w : zW), i' = i + 6 → INVx w → Wp (L, xs) 40 pg_L_law 18 [(3, .int (nI i')), (2, .ref 66), (1, .ref 0), (0, .ref 500)] [] w (fun r w' => r = some (.int 1) ∧ INVx w')) {nv : Nat} {VD : Nat → zV} {NL : Nat → Nat} {n dd : Nat} {vs : List (Nat × Nat)} {mi : Nat → Nat → Int32} {ml : Nat → Nat → Int64} {g : Nat → Nat → Option Nat} (I : INV nv VD NL n dd vs mi ml g) : Wp (L, xs) 40 pg_L_law 658 [(3, .int (nI i)), (2, .ref 66), (1, .ref 0), (0, .ref 500)] [] (zsh ++ vs, mi, ml, zmr g) (fun r w' => r = some (.int 1) ∧ INVx w') := by
  refine Wp.run 5 (663, [(3, .int (nI i)), (2, .ref 66), (1, .ref 0), (0, .ref 500)], [.int ((nI i) + 1), .ref 500, .ref 0], (zsh ++ vs, mi, ml, (zmr g))) rfl ?_
  refine Wp.topi (y := nI (i + 1)) (nI_add i 1) ?_
  refine Wp.iasc rfl (by omega) (by omega) ?_
  refine Wp.run 4 (668, [(3, .int (nI i)), (2, .ref 66), (1, .ref 0), (0, .ref 500)], [.int ((nI i) + 2), .ref 500, .int (xs (i + 1)), .ref 0], (zsh ++ vs, mi, ml, (zmr g))) rfl ?_
  refine Wp.topi (y := nI (i + 2)) (nI_add i 2) ?_
  refine Wp.iasc rfl (by omega) (by omega) ?_
  refine Wp.run 4 (673, [(3, .int (nI i)), (2, .ref 66), (1, .ref 0), (0, .ref 500)], [.int ((nI i) + 3), .ref 500, .int (xs (i + 2)), .int (xs (i + 1)), .ref 0], (zsh ++ vs, mi, ml, (zmr g))) rfl ?_
  refine Wp.topi (y := nI (i + 3)) (nI_add i 3) ?_
  refine Wp.iasc rfl (by omega) (by omega) ?_
  refine Wp.run 0 (674, [(3, .int (nI i)), (2, .ref 66), (1, .ref 0), (0, .ref 500)], [.int (xs (i + 3)), .int (xs (i + 2)), .int (xs (i + 1)), .ref 0], (zsh ++ vs, mi, ml, (zmr g))) rfl ?_
  refine Wp.call (as := [.ref 0, .int (xs (i + 1)), .int (xs (i + 2)), .int (xs (i + 3))]) (rest := []) rfl rfl rfl rfl rfl (Nat.le_of_ble_eq_true rfl) (Nat.le_of_ble_eq_true rfl) rfl (by decide) (sim_see I (xs (i + 1)) (xs (i + 2)) (xs (i + 3))) ?_
  rintro _ _ ⟨⟨vs1, mi1, ml1, g1, rfl⟩, x, rfl, hm⟩
  refine Wp.run 5 (682, [(3, .int (nI i)), (2, .ref 66), (1, .ref 0), (0, .ref 500)], [.int ((nI i) + 1), .ref 500, .ref 66, .int x], (zsh ++ vs1, mi1, ml1, (zmr g1))) rfl ?_
  refine Wp.topi (y := nI (i + 1)) (nI_add i 1) ?_
  refine Wp.iasc rfl (by omega) (by omega) ?_
  refine Wp.run 4 (687, [(3, .int (nI i)), (2, .ref 66), (1, .ref 0), (0, .ref 500)], [.int ((nI i) + 2), .ref 500, .int (xs (i + 1)), .ref 66, .int x], (zsh ++ vs1, mi1, ml1, (zmr g1))) rfl ?_
  refine Wp.topi (y := nI (i + 2)) (nI_add i 2) ?_
  refine Wp.iasc rfl (by omega) (by omega) ?_
  refine Wp.run 4 (692, [(3, .int (nI i)), (2, .ref 66), (1, .ref 0), (0, .ref 500)], [.int ((nI i) + 3), .ref 500, .int (xs (i + 2)), .int (xs (i + 1)), .ref 66, .int x], (zsh ++ vs1, mi1, ml1, (zmr g1))) rfl ?_
  refine Wp.topi (y := nI (i + 3)) (nI_add i 3) ?_
  refine Wp.iasc rfl (by omega) (by omega) ?_
  refine Wp.run 0 (693, [(3, .int (nI i)), (2, .ref 66), (1, .ref 0), (0, .ref 500)], [.int (xs (i + 3)), .int (xs (i + 2)), .int (xs (i + 1)), .ref 66, .int x], (zsh ++ vs1, mi1, ml1, (zmr g1))) rfl ?_
  refine Wp.call (as := [.ref 66, .int (xs (i + 1)), .int (xs (i + 2)), .int (xs (i + 3))]) (rest := [.int x]) rfl rfl rfl rfl rfl (Nat.le_of_ble_eq_true rfl) (Nat.le_of_ble_eq_true rfl) rfl (by decide) (hm) ?_
  rintro _ w2 ⟨rfl, hI2⟩
  refine Wp.run 0 (696, [(3, .int (nI i)), (2, .ref 66), (1, .ref 0), (0, .ref 500)], [.int x, .int x], (w2.1, w2.2.1, w2.2.2.1, w2.2.2.2)) rfl ?_
  refine Wp.icmp_eq rfl (fun h21 => ?_) (fun h21 => ?_)
  · refine Wp.run 2 (18, [(3, .int ((nI i) + 6)), (2, .ref 66), (1, .ref 0), (0, .ref 500)], [], (w2.1, w2.2.1, w2.2.2.1, w2.2.2.2)) rfl ?_
    obtain ⟨nv2, VD2, NL2, n2, dd2, vs2, mi2, ml2, g2, rfl, I2⟩ := hI2
    rw [show nI i + 6 = nI (i + 6) from nI_add i 6]
    refine Wp.sub (a := [(3, .int (nI (i + 6))), (2, .ref 66), (1, .ref 0), (0, .ref 500)]) (zle_cons rfl (zle_cons rfl (zle_cons rfl (zle_cons rfl (zle_nil))))) ?_
    exact ih (i + 6) _ rfl ⟨nv2, VD2, NL2, n2, dd2, vs2, mi2, ml2, g2, rfl, I2⟩
  · exact absurd rfl h21
set_option maxRecDepth 20000 in
theorem lw_can {L : Nat} {xs : Nat → Int32} {i : Nat} (hL : L ≤ 3072) (hi : i + 6 ≤ L) (ih : ∀ (i' : Nat) (w : zW), i' = i + 6 → INVx w → Wp (L, xs) 40 pg_L_law 18 [(3, .int (nI i')), (2, .ref 66), (1, .ref 0), (0, .ref 500)] [] w (fun r w' => r = some (.int 1) ∧ INVx w')) {nv : Nat} {VD : Nat → zV} {NL : Nat → Nat} {n dd : Nat} {vs : List (Nat × Nat)} {mi : Nat → Nat → Int32} {ml : Nat → Nat → Int64} {g : Nat → Nat → Option Nat} (I : INV nv VD NL n dd vs mi ml g) : Wp (L, xs) 40 pg_L_law 701 [(3, .int (nI i)), (2, .ref 66), (1, .ref 0), (0, .ref 500)] [] (zsh ++ vs, mi, ml, zmr g) (fun r w' => r = some (.int 1) ∧ INVx w') := by
  refine Wp.run 5 (706, [(3, .int (nI i)), (2, .ref 66), (1, .ref 0), (0, .ref 500)], [.int ((nI i) + 1), .ref 500, .ref 0], (zsh ++ vs, mi, ml, (zmr g))) rfl ?_
  refine Wp.topi (y := nI (i + 1)) (nI_add i 1) ?_
  refine Wp.iasc rfl (by omega) (by omega) ?_
  refine Wp.run 4 (711, [(3, .int (nI i)), (2, .ref 66), (1, .ref 0), (0, .ref 500)], [.int ((nI i) + 2), .ref 500, .int (xs (i + 1)), .ref 0], (zsh ++ vs, mi, ml, (zmr g))) rfl ?_
  refine Wp.topi (y := nI (i + 2)) (nI_add i 2) ?_
  refine Wp.iasc rfl (by omega) (by omega) ?_
  refine Wp.run 0 (712, [(3, .int (nI i)), (2, .ref 66), (1, .ref 0), (0, .ref 500)], [.int (xs (i + 2)), .int (xs (i + 1)), .ref 0], (zsh ++ vs, mi, ml, (zmr g))) rfl ?_
  refine Wp.call (as := [.ref 0, .int (xs (i + 1)), .int (xs (i + 2))]) (rest := []) rfl rfl rfl rfl rfl (Nat.le_of_ble_eq_true rfl) (Nat.le_of_ble_eq_true rfl) rfl (by decide) (sim_can I (xs (i + 1)) (xs (i + 2))) ?_
  rintro _ _ ⟨⟨vs1, mi1, ml1, g1, rfl⟩, x, rfl, hm⟩
  refine Wp.run 5 (720, [(3, .int (nI i)), (2, .ref 66), (1, .ref 0), (0, .ref 500)], [.int ((nI i) + 1), .ref 500, .ref 66, .int x], (zsh ++ vs1, mi1, ml1, (zmr g1))) rfl ?_
  refine Wp.topi (y := nI (i + 1)) (nI_add i 1) ?_
  refine Wp.iasc rfl (by omega) (by omega) ?_
  refine Wp.run 4 (725, [(3, .int (nI i)), (2, .ref 66), (1, .ref 0), (0, .ref 500)], [.int ((nI i) + 2), .ref 500, .int (xs (i + 1)), .ref 66, .int x], (zsh ++ vs1, mi1, ml1, (zmr g1))) rfl ?_
  refine Wp.topi (y := nI (i + 2)) (nI_add i 2) ?_
  refine Wp.iasc rfl (by omega) (by omega) ?_
  refine Wp.run 0 (726, [(3, .int (nI i)), (2, .ref 66), (1, .ref 0), (0, .ref 500)], [.int (xs (i + 2)), .int (xs (i + 1)), .ref 66, .int x], (zsh ++ vs1, mi1, ml1, (zmr g1))) rfl ?_
  refine Wp.call (as := [.ref 66, .int (xs (i + 1)), .int (xs (i + 2))]) (rest := [.int x]) rfl rfl rfl rfl rfl (Nat.le_of_ble_eq_true rfl) (Nat.le_of_ble_eq_true rfl) rfl (by decide) (hm) ?_
  rintro _ w2 ⟨rfl, hI2⟩
  refine Wp.run 0 (729, [(3, .int (nI i)), (2, .ref 66), (1, .ref 0), (0, .ref 500)], [.int x, .int x], (w2.1, w2.2.1, w2.2.2.1, w2.2.2.2)) rfl ?_
  refine Wp.icmp_eq rfl (fun h21 => ?_) (fun h21 => ?_)
  · refine Wp.run 2 (18, [(3, .int ((nI i) + 6)), (2, .ref 66), (1, .ref 0), (0, .ref 500)], [], (w2.1, w2.2.1, w2.2.2.1, w2.2.2.2)) rfl ?_
    obtain ⟨nv2, VD2, NL2, n2, dd2, vs2, mi2, ml2, g2, rfl, I2⟩ := hI2
    rw [show nI i + 6 = nI (i + 6) from nI_add i 6]
    refine Wp.sub (a := [(3, .int (nI (i + 6))), (2, .ref 66), (1, .ref 0), (0, .ref 500)]) (zle_cons rfl (zle_cons rfl (zle_cons rfl (zle_cons rfl (zle_nil))))) ?_
    exact ih (i + 6) _ rfl ⟨nv2, VD2, NL2, n2, dd2, vs2, mi2, ml2, g2, rfl, I2⟩
  · exact absurd rfl h21
set_option maxRecDepth 20000 in
theorem lw_odds {L : Nat} {xs : Nat → Int32} {i : Nat} (hL : L ≤ 3072) (hi : i + 6 ≤ L) (ih : ∀ (i' : Nat) (w : zW), i' = i + 6 → INVx w → Wp (L, xs) 40 pg_L_law 18 [(3, .int (nI i')), (2, .ref 66), (1, .ref 0), (0, .ref 500)] [] w (fun r w' => r = some (.int 1) ∧ INVx w')) {nv : Nat} {VD : Nat → zV} {NL : Nat → Nat} {n dd : Nat} {vs : List (Nat × Nat)} {mi : Nat → Nat → Int32} {ml : Nat → Nat → Int64} {g : Nat → Nat → Option Nat} (I : INV nv VD NL n dd vs mi ml g) : Wp (L, xs) 40 pg_L_law 734 [(3, .int (nI i)), (2, .ref 66), (1, .ref 0), (0, .ref 500)] [] (zsh ++ vs, mi, ml, zmr g) (fun r w' => r = some (.int 1) ∧ INVx w') := by
  refine Wp.run 5 (739, [(3, .int (nI i)), (2, .ref 66), (1, .ref 0), (0, .ref 500)], [.int ((nI i) + 1), .ref 500, .ref 0], (zsh ++ vs, mi, ml, (zmr g))) rfl ?_
  refine Wp.topi (y := nI (i + 1)) (nI_add i 1) ?_
  refine Wp.iasc rfl (by omega) (by omega) ?_
  refine Wp.run 4 (744, [(3, .int (nI i)), (2, .ref 66), (1, .ref 0), (0, .ref 500)], [.int ((nI i) + 2), .ref 500, .int (xs (i + 1)), .ref 0], (zsh ++ vs, mi, ml, (zmr g))) rfl ?_
  refine Wp.topi (y := nI (i + 2)) (nI_add i 2) ?_
  refine Wp.iasc rfl (by omega) (by omega) ?_
  refine Wp.run 4 (749, [(3, .int (nI i)), (2, .ref 66), (1, .ref 0), (0, .ref 500)], [.int ((nI i) + 3), .ref 500, .int (xs (i + 2)), .int (xs (i + 1)), .ref 0], (zsh ++ vs, mi, ml, (zmr g))) rfl ?_
  refine Wp.topi (y := nI (i + 3)) (nI_add i 3) ?_
  refine Wp.iasc rfl (by omega) (by omega) ?_
  refine Wp.run 0 (750, [(3, .int (nI i)), (2, .ref 66), (1, .ref 0), (0, .ref 500)], [.int (xs (i + 3)), .int (xs (i + 2)), .int (xs (i + 1)), .ref 0], (zsh ++ vs, mi, ml, (zmr g))) rfl ?_
  refine Wp.call (as := [.ref 0, .int (xs (i + 1)), .int (xs (i + 2)), .int (xs (i + 3))]) (rest := []) rfl rfl rfl rfl rfl (Nat.le_of_ble_eq_true rfl) (Nat.le_of_ble_eq_true rfl) rfl (by decide) (sim_odds I (xs (i + 1)) (xs (i + 2)) (xs (i + 3))) ?_
  rintro _ _ ⟨⟨vs1, mi1, ml1, g1, rfl⟩, x, rfl, hm⟩
  refine Wp.run 5 (758, [(3, .int (nI i)), (2, .ref 66), (1, .ref 0), (0, .ref 500)], [.int ((nI i) + 1), .ref 500, .ref 66, .long x], (zsh ++ vs1, mi1, ml1, (zmr g1))) rfl ?_
  refine Wp.topi (y := nI (i + 1)) (nI_add i 1) ?_
  refine Wp.iasc rfl (by omega) (by omega) ?_
  refine Wp.run 4 (763, [(3, .int (nI i)), (2, .ref 66), (1, .ref 0), (0, .ref 500)], [.int ((nI i) + 2), .ref 500, .int (xs (i + 1)), .ref 66, .long x], (zsh ++ vs1, mi1, ml1, (zmr g1))) rfl ?_
  refine Wp.topi (y := nI (i + 2)) (nI_add i 2) ?_
  refine Wp.iasc rfl (by omega) (by omega) ?_
  refine Wp.run 4 (768, [(3, .int (nI i)), (2, .ref 66), (1, .ref 0), (0, .ref 500)], [.int ((nI i) + 3), .ref 500, .int (xs (i + 2)), .int (xs (i + 1)), .ref 66, .long x], (zsh ++ vs1, mi1, ml1, (zmr g1))) rfl ?_
  refine Wp.topi (y := nI (i + 3)) (nI_add i 3) ?_
  refine Wp.iasc rfl (by omega) (by omega) ?_
  refine Wp.run 0 (769, [(3, .int (nI i)), (2, .ref 66), (1, .ref 0), (0, .ref 500)], [.int (xs (i + 3)), .int (xs (i + 2)), .int (xs (i + 1)), .ref 66, .long x], (zsh ++ vs1, mi1, ml1, (zmr g1))) rfl ?_
  refine Wp.call (as := [.ref 66, .int (xs (i + 1)), .int (xs (i + 2)), .int (xs (i + 3))]) (rest := [.long x]) rfl rfl rfl rfl rfl (Nat.le_of_ble_eq_true rfl) (Nat.le_of_ble_eq_true rfl) rfl (by decide) (hm) ?_
  rintro _ w2 ⟨rfl, hI2⟩
  refine Wp.run 1 (773, [(3, .int (nI i)), (2, .ref 66), (1, .ref 0), (0, .ref 500)], [.int (lg_cmp x x)], (w2.1, w2.2.1, w2.2.2.1, w2.2.2.2)) rfl ?_
  refine Wp.if_eq rfl (fun h21 => ?_) (fun h21 => ?_)
  · refine Wp.run 2 (18, [(3, .int ((nI i) + 6)), (2, .ref 66), (1, .ref 0), (0, .ref 500)], [], (w2.1, w2.2.1, w2.2.2.1, w2.2.2.2)) rfl ?_
    obtain ⟨nv2, VD2, NL2, n2, dd2, vs2, mi2, ml2, g2, rfl, I2⟩ := hI2
    rw [show nI i + 6 = nI (i + 6) from nI_add i 6]
    refine Wp.sub (a := [(3, .int (nI (i + 6))), (2, .ref 66), (1, .ref 0), (0, .ref 500)]) (zle_cons rfl (zle_cons rfl (zle_cons rfl (zle_cons rfl (zle_nil))))) ?_
    exact ih (i + 6) _ rfl ⟨nv2, VD2, NL2, n2, dd2, vs2, mi2, ml2, g2, rfl, I2⟩
  · exact absurd ((lg_cmp_eq x x).mpr rfl) h21
set_option maxRecDepth 20000 in
theorem lw_mean {L : Nat} {xs : Nat → Int32} {i : Nat} (hL : L ≤ 3072) (hi : i + 6 ≤ L) (ih : ∀ (i' : Nat) (w : zW), i' = i + 6 → INVx w → Wp (L, xs) 40 pg_L_law 18 [(3, .int (nI i')), (2, .ref 66), (1, .ref 0), (0, .ref 500)] [] w (fun r w' => r = some (.int 1) ∧ INVx w')) {nv : Nat} {VD : Nat → zV} {NL : Nat → Nat} {n dd : Nat} {vs : List (Nat × Nat)} {mi : Nat → Nat → Int32} {ml : Nat → Nat → Int64} {g : Nat → Nat → Option Nat} (I : INV nv VD NL n dd vs mi ml g) : Wp (L, xs) 40 pg_L_law 778 [(3, .int (nI i)), (2, .ref 66), (1, .ref 0), (0, .ref 500)] [] (zsh ++ vs, mi, ml, zmr g) (fun r w' => r = some (.int 1) ∧ INVx w') := by
  refine Wp.run 5 (783, [(3, .int (nI i)), (2, .ref 66), (1, .ref 0), (0, .ref 500)], [.int ((nI i) + 1), .ref 500, .ref 0], (zsh ++ vs, mi, ml, (zmr g))) rfl ?_
  refine Wp.topi (y := nI (i + 1)) (nI_add i 1) ?_
  refine Wp.iasc rfl (by omega) (by omega) ?_
  refine Wp.run 4 (788, [(3, .int (nI i)), (2, .ref 66), (1, .ref 0), (0, .ref 500)], [.int ((nI i) + 2), .ref 500, .int (xs (i + 1)), .ref 0], (zsh ++ vs, mi, ml, (zmr g))) rfl ?_
  refine Wp.topi (y := nI (i + 2)) (nI_add i 2) ?_
  refine Wp.iasc rfl (by omega) (by omega) ?_
  refine Wp.run 0 (789, [(3, .int (nI i)), (2, .ref 66), (1, .ref 0), (0, .ref 500)], [.int (xs (i + 2)), .int (xs (i + 1)), .ref 0], (zsh ++ vs, mi, ml, (zmr g))) rfl ?_
  refine Wp.call (as := [.ref 0, .int (xs (i + 1)), .int (xs (i + 2))]) (rest := []) rfl rfl rfl rfl rfl (Nat.le_of_ble_eq_true rfl) (Nat.le_of_ble_eq_true rfl) rfl (by decide) (sim_mean I (xs (i + 1)) (xs (i + 2))) ?_
  rintro _ _ ⟨⟨vs1, mi1, ml1, g1, rfl⟩, x, rfl, hm⟩
  refine Wp.run 5 (797, [(3, .int (nI i)), (2, .ref 66), (1, .ref 0), (0, .ref 500)], [.int ((nI i) + 1), .ref 500, .ref 66, .long x], (zsh ++ vs1, mi1, ml1, (zmr g1))) rfl ?_
  refine Wp.topi (y := nI (i + 1)) (nI_add i 1) ?_
  refine Wp.iasc rfl (by omega) (by omega) ?_
  refine Wp.run 4 (802, [(3, .int (nI i)), (2, .ref 66), (1, .ref 0), (0, .ref 500)], [.int ((nI i) + 2), .ref 500, .int (xs (i + 1)), .ref 66, .long x], (zsh ++ vs1, mi1, ml1, (zmr g1))) rfl ?_
  refine Wp.topi (y := nI (i + 2)) (nI_add i 2) ?_
  refine Wp.iasc rfl (by omega) (by omega) ?_
  refine Wp.run 0 (803, [(3, .int (nI i)), (2, .ref 66), (1, .ref 0), (0, .ref 500)], [.int (xs (i + 2)), .int (xs (i + 1)), .ref 66, .long x], (zsh ++ vs1, mi1, ml1, (zmr g1))) rfl ?_
  refine Wp.call (as := [.ref 66, .int (xs (i + 1)), .int (xs (i + 2))]) (rest := [.long x]) rfl rfl rfl rfl rfl (Nat.le_of_ble_eq_true rfl) (Nat.le_of_ble_eq_true rfl) rfl (by decide) (hm) ?_
  rintro _ w2 ⟨rfl, hI2⟩
  refine Wp.run 1 (807, [(3, .int (nI i)), (2, .ref 66), (1, .ref 0), (0, .ref 500)], [.int (lg_cmp x x)], (w2.1, w2.2.1, w2.2.2.1, w2.2.2.2)) rfl ?_
  refine Wp.if_eq rfl (fun h21 => ?_) (fun h21 => ?_)
  · refine Wp.run 2 (18, [(3, .int ((nI i) + 6)), (2, .ref 66), (1, .ref 0), (0, .ref 500)], [], (w2.1, w2.2.1, w2.2.2.1, w2.2.2.2)) rfl ?_
    obtain ⟨nv2, VD2, NL2, n2, dd2, vs2, mi2, ml2, g2, rfl, I2⟩ := hI2
    rw [show nI i + 6 = nI (i + 6) from nI_add i 6]
    refine Wp.sub (a := [(3, .int (nI (i + 6))), (2, .ref 66), (1, .ref 0), (0, .ref 500)]) (zle_cons rfl (zle_cons rfl (zle_cons rfl (zle_cons rfl (zle_nil))))) ?_
    exact ih (i + 6) _ rfl ⟨nv2, VD2, NL2, n2, dd2, vs2, mi2, ml2, g2, rfl, I2⟩
  · exact absurd ((lg_cmp_eq x x).mpr rfl) h21
set_option maxRecDepth 20000 in
theorem lw_plan {L : Nat} {xs : Nat → Int32} {i : Nat} (hL : L ≤ 3072) (hi : i + 6 ≤ L) (ih : ∀ (i' : Nat) (w : zW), i' = i + 6 → INVx w → Wp (L, xs) 40 pg_L_law 18 [(3, .int (nI i')), (2, .ref 66), (1, .ref 0), (0, .ref 500)] [] w (fun r w' => r = some (.int 1) ∧ INVx w')) {nv : Nat} {VD : Nat → zV} {NL : Nat → Nat} {n dd : Nat} {vs : List (Nat × Nat)} {mi : Nat → Nat → Int32} {ml : Nat → Nat → Int64} {g : Nat → Nat → Option Nat} (I : INV nv VD NL n dd vs mi ml g) : Wp (L, xs) 40 pg_L_law 812 [(3, .int (nI i)), (2, .ref 66), (1, .ref 0), (0, .ref 500)] [] (zsh ++ vs, mi, ml, zmr g) (fun r w' => r = some (.int 1) ∧ INVx w') := by
  refine Wp.run 5 (817, [(3, .int (nI i)), (2, .ref 66), (1, .ref 0), (0, .ref 500)], [.int ((nI i) + 1), .ref 500, .ref 0], (zsh ++ vs, mi, ml, (zmr g))) rfl ?_
  refine Wp.topi (y := nI (i + 1)) (nI_add i 1) ?_
  refine Wp.iasc rfl (by omega) (by omega) ?_
  refine Wp.run 4 (822, [(3, .int (nI i)), (2, .ref 66), (1, .ref 0), (0, .ref 500)], [.int ((nI i) + 2), .ref 500, .int (xs (i + 1)), .ref 0], (zsh ++ vs, mi, ml, (zmr g))) rfl ?_
  refine Wp.topi (y := nI (i + 2)) (nI_add i 2) ?_
  refine Wp.iasc rfl (by omega) (by omega) ?_
  refine Wp.run 0 (823, [(3, .int (nI i)), (2, .ref 66), (1, .ref 0), (0, .ref 500)], [.int (xs (i + 2)), .int (xs (i + 1)), .ref 0], (zsh ++ vs, mi, ml, (zmr g))) rfl ?_
  refine Wp.call (as := [.ref 0, .int (xs (i + 1)), .int (xs (i + 2))]) (rest := []) rfl rfl rfl rfl rfl (Nat.le_of_ble_eq_true rfl) (Nat.le_of_ble_eq_true rfl) rfl (by decide) (sim_plan I (xs (i + 1)) (xs (i + 2))) ?_
  rintro _ _ ⟨⟨vs1, mi1, ml1, g1, rfl⟩, x, rfl, hm⟩
  refine Wp.run 5 (831, [(3, .int (nI i)), (2, .ref 66), (1, .ref 0), (0, .ref 500)], [.int ((nI i) + 1), .ref 500, .ref 66, .int x], (zsh ++ vs1, mi1, ml1, (zmr g1))) rfl ?_
  refine Wp.topi (y := nI (i + 1)) (nI_add i 1) ?_
  refine Wp.iasc rfl (by omega) (by omega) ?_
  refine Wp.run 4 (836, [(3, .int (nI i)), (2, .ref 66), (1, .ref 0), (0, .ref 500)], [.int ((nI i) + 2), .ref 500, .int (xs (i + 1)), .ref 66, .int x], (zsh ++ vs1, mi1, ml1, (zmr g1))) rfl ?_
  refine Wp.topi (y := nI (i + 2)) (nI_add i 2) ?_
  refine Wp.iasc rfl (by omega) (by omega) ?_
  refine Wp.run 0 (837, [(3, .int (nI i)), (2, .ref 66), (1, .ref 0), (0, .ref 500)], [.int (xs (i + 2)), .int (xs (i + 1)), .ref 66, .int x], (zsh ++ vs1, mi1, ml1, (zmr g1))) rfl ?_
  refine Wp.call (as := [.ref 66, .int (xs (i + 1)), .int (xs (i + 2))]) (rest := [.int x]) rfl rfl rfl rfl rfl (Nat.le_of_ble_eq_true rfl) (Nat.le_of_ble_eq_true rfl) rfl (by decide) (hm) ?_
  rintro _ w2 ⟨rfl, hI2⟩
  refine Wp.run 0 (840, [(3, .int (nI i)), (2, .ref 66), (1, .ref 0), (0, .ref 500)], [.int x, .int x], (w2.1, w2.2.1, w2.2.2.1, w2.2.2.2)) rfl ?_
  refine Wp.icmp_eq rfl (fun h21 => ?_) (fun h21 => ?_)
  · refine Wp.run 2 (18, [(3, .int ((nI i) + 6)), (2, .ref 66), (1, .ref 0), (0, .ref 500)], [], (w2.1, w2.2.1, w2.2.2.1, w2.2.2.2)) rfl ?_
    obtain ⟨nv2, VD2, NL2, n2, dd2, vs2, mi2, ml2, g2, rfl, I2⟩ := hI2
    rw [show nI i + 6 = nI (i + 6) from nI_add i 6]
    refine Wp.sub (a := [(3, .int (nI (i + 6))), (2, .ref 66), (1, .ref 0), (0, .ref 500)]) (zle_cons rfl (zle_cons rfl (zle_cons rfl (zle_cons rfl (zle_nil))))) ?_
    exact ih (i + 6) _ rfl ⟨nv2, VD2, NL2, n2, dd2, vs2, mi2, ml2, g2, rfl, I2⟩
  · exact absurd rfl h21
set_option maxRecDepth 20000 in
theorem lw_ends {L : Nat} {xs : Nat → Int32} {i : Nat} (hL : L ≤ 3072) (hi : i + 6 ≤ L) (ih : ∀ (i' : Nat) (w : zW), i' = i + 6 → INVx w → Wp (L, xs) 40 pg_L_law 18 [(3, .int (nI i')), (2, .ref 66), (1, .ref 0), (0, .ref 500)] [] w (fun r w' => r = some (.int 1) ∧ INVx w')) {nv : Nat} {VD : Nat → zV} {NL : Nat → Nat} {n dd : Nat} {vs : List (Nat × Nat)} {mi : Nat → Nat → Int32} {ml : Nat → Nat → Int64} {g : Nat → Nat → Option Nat} (I : INV nv VD NL n dd vs mi ml g) : Wp (L, xs) 40 pg_L_law 845 [(3, .int (nI i)), (2, .ref 66), (1, .ref 0), (0, .ref 500)] [] (zsh ++ vs, mi, ml, zmr g) (fun r w' => r = some (.int 1) ∧ INVx w') := by
  refine Wp.run 5 (850, [(3, .int (nI i)), (2, .ref 66), (1, .ref 0), (0, .ref 500)], [.int ((nI i) + 1), .ref 500, .ref 0], (zsh ++ vs, mi, ml, (zmr g))) rfl ?_
  refine Wp.topi (y := nI (i + 1)) (nI_add i 1) ?_
  refine Wp.iasc rfl (by omega) (by omega) ?_
  refine Wp.run 0 (851, [(3, .int (nI i)), (2, .ref 66), (1, .ref 0), (0, .ref 500)], [.int (xs (i + 1)), .ref 0], (zsh ++ vs, mi, ml, (zmr g))) rfl ?_
  refine Wp.call (as := [.ref 0, .int (xs (i + 1))]) (rest := []) rfl rfl rfl rfl rfl (Nat.le_of_ble_eq_true rfl) (Nat.le_of_ble_eq_true rfl) rfl (by decide) (sim_ends I (xs (i + 1))) ?_
  rintro _ _ ⟨⟨vs1, mi1, ml1, g1, rfl⟩, x, rfl, hm⟩
  refine Wp.run 5 (859, [(3, .int (nI i)), (2, .ref 66), (1, .ref 0), (0, .ref 500)], [.int ((nI i) + 1), .ref 500, .ref 66, .int x], (zsh ++ vs1, mi1, ml1, (zmr g1))) rfl ?_
  refine Wp.topi (y := nI (i + 1)) (nI_add i 1) ?_
  refine Wp.iasc rfl (by omega) (by omega) ?_
  refine Wp.run 0 (860, [(3, .int (nI i)), (2, .ref 66), (1, .ref 0), (0, .ref 500)], [.int (xs (i + 1)), .ref 66, .int x], (zsh ++ vs1, mi1, ml1, (zmr g1))) rfl ?_
  refine Wp.call (as := [.ref 66, .int (xs (i + 1))]) (rest := [.int x]) rfl rfl rfl rfl rfl (Nat.le_of_ble_eq_true rfl) (Nat.le_of_ble_eq_true rfl) rfl (by decide) (hm) ?_
  rintro _ w2 ⟨rfl, hI2⟩
  refine Wp.run 0 (863, [(3, .int (nI i)), (2, .ref 66), (1, .ref 0), (0, .ref 500)], [.int x, .int x], (w2.1, w2.2.1, w2.2.2.1, w2.2.2.2)) rfl ?_
  refine Wp.icmp_eq rfl (fun h21 => ?_) (fun h21 => ?_)
  · refine Wp.run 2 (18, [(3, .int ((nI i) + 6)), (2, .ref 66), (1, .ref 0), (0, .ref 500)], [], (w2.1, w2.2.1, w2.2.2.1, w2.2.2.2)) rfl ?_
    obtain ⟨nv2, VD2, NL2, n2, dd2, vs2, mi2, ml2, g2, rfl, I2⟩ := hI2
    rw [show nI i + 6 = nI (i + 6) from nI_add i 6]
    refine Wp.sub (a := [(3, .int (nI (i + 6))), (2, .ref 66), (1, .ref 0), (0, .ref 500)]) (zle_cons rfl (zle_cons rfl (zle_cons rfl (zle_cons rfl (zle_nil))))) ?_
    exact ih (i + 6) _ rfl ⟨nv2, VD2, NL2, n2, dd2, vs2, mi2, ml2, g2, rfl, I2⟩
  · exact absurd rfl h21
set_option maxRecDepth 20000 in
theorem lw_book {L : Nat} {xs : Nat → Int32} {i : Nat} (hL : L ≤ 3072) (hi : i + 6 ≤ L) (ih : ∀ (i' : Nat) (w : zW), i' = i + 6 → INVx w → Wp (L, xs) 40 pg_L_law 18 [(3, .int (nI i')), (2, .ref 66), (1, .ref 0), (0, .ref 500)] [] w (fun r w' => r = some (.int 1) ∧ INVx w')) {nv : Nat} {VD : Nat → zV} {NL : Nat → Nat} {n dd : Nat} {vs : List (Nat × Nat)} {mi : Nat → Nat → Int32} {ml : Nat → Nat → Int64} {g : Nat → Nat → Option Nat} (I : INV nv VD NL n dd vs mi ml g) : Wp (L, xs) 40 pg_L_law 868 [(3, .int (nI i)), (2, .ref 66), (1, .ref 0), (0, .ref 500)] [] (zsh ++ vs, mi, ml, zmr g) (fun r w' => r = some (.int 1) ∧ INVx w') := by
  refine Wp.run 5 (873, [(3, .int (nI i)), (2, .ref 66), (1, .ref 0), (0, .ref 500)], [.int ((nI i) + 1), .ref 500, .ref 0], (zsh ++ vs, mi, ml, (zmr g))) rfl ?_
  refine Wp.topi (y := nI (i + 1)) (nI_add i 1) ?_
  refine Wp.iasc rfl (by omega) (by omega) ?_
  refine Wp.run 4 (878, [(3, .int (nI i)), (2, .ref 66), (1, .ref 0), (0, .ref 500)], [.int ((nI i) + 2), .ref 500, .int (xs (i + 1)), .ref 0], (zsh ++ vs, mi, ml, (zmr g))) rfl ?_
  refine Wp.topi (y := nI (i + 2)) (nI_add i 2) ?_
  refine Wp.iasc rfl (by omega) (by omega) ?_
  refine Wp.run 0 (879, [(3, .int (nI i)), (2, .ref 66), (1, .ref 0), (0, .ref 500)], [.int (xs (i + 2)), .int (xs (i + 1)), .ref 0], (zsh ++ vs, mi, ml, (zmr g))) rfl ?_
  refine Wp.call (as := [.ref 0, .int (xs (i + 1)), .int (xs (i + 2))]) (rest := []) rfl rfl rfl rfl rfl (Nat.le_of_ble_eq_true rfl) (Nat.le_of_ble_eq_true rfl) rfl (by decide) (sim_book I (xs (i + 1)) (xs (i + 2))) ?_
  rintro _ _ ⟨⟨vs1, mi1, ml1, g1, rfl⟩, x, rfl, hm⟩
  refine Wp.run 5 (887, [(3, .int (nI i)), (2, .ref 66), (1, .ref 0), (0, .ref 500)], [.int ((nI i) + 1), .ref 500, .ref 66, .int x], (zsh ++ vs1, mi1, ml1, (zmr g1))) rfl ?_
  refine Wp.topi (y := nI (i + 1)) (nI_add i 1) ?_
  refine Wp.iasc rfl (by omega) (by omega) ?_
  refine Wp.run 4 (892, [(3, .int (nI i)), (2, .ref 66), (1, .ref 0), (0, .ref 500)], [.int ((nI i) + 2), .ref 500, .int (xs (i + 1)), .ref 66, .int x], (zsh ++ vs1, mi1, ml1, (zmr g1))) rfl ?_
  refine Wp.topi (y := nI (i + 2)) (nI_add i 2) ?_
  refine Wp.iasc rfl (by omega) (by omega) ?_
  refine Wp.run 0 (893, [(3, .int (nI i)), (2, .ref 66), (1, .ref 0), (0, .ref 500)], [.int (xs (i + 2)), .int (xs (i + 1)), .ref 66, .int x], (zsh ++ vs1, mi1, ml1, (zmr g1))) rfl ?_
  refine Wp.call (as := [.ref 66, .int (xs (i + 1)), .int (xs (i + 2))]) (rest := [.int x]) rfl rfl rfl rfl rfl (Nat.le_of_ble_eq_true rfl) (Nat.le_of_ble_eq_true rfl) rfl (by decide) (hm) ?_
  rintro _ w2 ⟨rfl, hI2⟩
  refine Wp.run 0 (896, [(3, .int (nI i)), (2, .ref 66), (1, .ref 0), (0, .ref 500)], [.int x, .int x], (w2.1, w2.2.1, w2.2.2.1, w2.2.2.2)) rfl ?_
  refine Wp.icmp_eq rfl (fun h21 => ?_) (fun h21 => ?_)
  · refine Wp.run 2 (18, [(3, .int ((nI i) + 6)), (2, .ref 66), (1, .ref 0), (0, .ref 500)], [], (w2.1, w2.2.1, w2.2.2.1, w2.2.2.2)) rfl ?_
    obtain ⟨nv2, VD2, NL2, n2, dd2, vs2, mi2, ml2, g2, rfl, I2⟩ := hI2
    rw [show nI i + 6 = nI (i + 6) from nI_add i 6]
    refine Wp.sub (a := [(3, .int (nI (i + 6))), (2, .ref 66), (1, .ref 0), (0, .ref 500)]) (zle_cons rfl (zle_cons rfl (zle_cons rfl (zle_cons rfl (zle_nil))))) ?_
    exact ih (i + 6) _ rfl ⟨nv2, VD2, NL2, n2, dd2, vs2, mi2, ml2, g2, rfl, I2⟩
  · exact absurd rfl h21
set_option maxRecDepth 20000 in
theorem lw_looked {L : Nat} {xs : Nat → Int32} {i : Nat} (hL : L ≤ 3072) (hi : i + 6 ≤ L) (ih : ∀ (i' : Nat) (w : zW), i' = i + 6 → INVx w → Wp (L, xs) 40 pg_L_law 18 [(3, .int (nI i')), (2, .ref 66), (1, .ref 0), (0, .ref 500)] [] w (fun r w' => r = some (.int 1) ∧ INVx w')) {nv : Nat} {VD : Nat → zV} {NL : Nat → Nat} {n dd : Nat} {vs : List (Nat × Nat)} {mi : Nat → Nat → Int32} {ml : Nat → Nat → Int64} {g : Nat → Nat → Option Nat} (I : INV nv VD NL n dd vs mi ml g) : Wp (L, xs) 40 pg_L_law 901 [(3, .int (nI i)), (2, .ref 66), (1, .ref 0), (0, .ref 500)] [] (zsh ++ vs, mi, ml, zmr g) (fun r w' => r = some (.int 1) ∧ INVx w') := by
  refine Wp.run 1 (902, [(3, .int (nI i)), (2, .ref 66), (1, .ref 0), (0, .ref 500)], [.ref 0], (zsh ++ vs, mi, ml, (zmr g))) rfl ?_
  refine Wp.call (as := [.ref 0]) (rest := []) rfl rfl rfl rfl rfl (Nat.le_of_ble_eq_true rfl) (Nat.le_of_ble_eq_true rfl) rfl (by decide) (sim_looked I ) ?_
  rintro _ _ ⟨⟨vs1, mi1, ml1, g1, rfl⟩, x, rfl, hm⟩
  refine Wp.run 1 (906, [(3, .int (nI i)), (2, .ref 66), (1, .ref 0), (0, .ref 500)], [.ref 66, .int x], (zsh ++ vs1, mi1, ml1, (zmr g1))) rfl ?_
  refine Wp.call (as := [.ref 66]) (rest := [.int x]) rfl rfl rfl rfl rfl (Nat.le_of_ble_eq_true rfl) (Nat.le_of_ble_eq_true rfl) rfl (by decide) (hm) ?_
  rintro _ w2 ⟨rfl, hI2⟩
  refine Wp.run 0 (909, [(3, .int (nI i)), (2, .ref 66), (1, .ref 0), (0, .ref 500)], [.int x, .int x], (w2.1, w2.2.1, w2.2.2.1, w2.2.2.2)) rfl ?_
  refine Wp.icmp_eq rfl (fun h21 => ?_) (fun h21 => ?_)
  · refine Wp.run 2 (18, [(3, .int ((nI i) + 6)), (2, .ref 66), (1, .ref 0), (0, .ref 500)], [], (w2.1, w2.2.1, w2.2.2.1, w2.2.2.2)) rfl ?_
    obtain ⟨nv2, VD2, NL2, n2, dd2, vs2, mi2, ml2, g2, rfl, I2⟩ := hI2
    rw [show nI i + 6 = nI (i + 6) from nI_add i 6]
    refine Wp.sub (a := [(3, .int (nI (i + 6))), (2, .ref 66), (1, .ref 0), (0, .ref 500)]) (zle_cons rfl (zle_cons rfl (zle_cons rfl (zle_cons rfl (zle_nil))))) ?_
    exact ih (i + 6) _ rfl ⟨nv2, VD2, NL2, n2, dd2, vs2, mi2, ml2, g2, rfl, I2⟩
  · exact absurd rfl h21
set_option maxRecDepth 20000 in
theorem lw_judge {L : Nat} {xs : Nat → Int32} {i : Nat} (hL : L ≤ 3072) (hi : i + 6 ≤ L) (ih : ∀ (i' : Nat) (w : zW), i' = i + 6 → INVx w → Wp (L, xs) 40 pg_L_law 18 [(3, .int (nI i')), (2, .ref 66), (1, .ref 0), (0, .ref 500)] [] w (fun r w' => r = some (.int 1) ∧ INVx w')) {nv : Nat} {VD : Nat → zV} {NL : Nat → Nat} {n dd : Nat} {vs : List (Nat × Nat)} {mi : Nat → Nat → Int32} {ml : Nat → Nat → Int64} {g : Nat → Nat → Option Nat} (I : INV nv VD NL n dd vs mi ml g) : Wp (L, xs) 40 pg_L_law 914 [(3, .int (nI i)), (2, .ref 66), (1, .ref 0), (0, .ref 500)] [] (zsh ++ vs, mi, ml, zmr g) (fun r w' => r = some (.int 1) ∧ INVx w') := by
  refine Wp.run 5 (919, [(3, .int (nI i)), (2, .ref 66), (1, .ref 0), (0, .ref 500)], [.int ((nI i) + 1), .ref 500, .ref 0], (zsh ++ vs, mi, ml, (zmr g))) rfl ?_
  refine Wp.topi (y := nI (i + 1)) (nI_add i 1) ?_
  refine Wp.iasc rfl (by omega) (by omega) ?_
  refine Wp.run 4 (924, [(3, .int (nI i)), (2, .ref 66), (1, .ref 0), (0, .ref 500)], [.int ((nI i) + 2), .ref 500, .int (xs (i + 1)), .ref 0], (zsh ++ vs, mi, ml, (zmr g))) rfl ?_
  refine Wp.topi (y := nI (i + 2)) (nI_add i 2) ?_
  refine Wp.iasc rfl (by omega) (by omega) ?_
  refine Wp.run 0 (925, [(3, .int (nI i)), (2, .ref 66), (1, .ref 0), (0, .ref 500)], [.int (xs (i + 2)), .int (xs (i + 1)), .ref 0], (zsh ++ vs, mi, ml, (zmr g))) rfl ?_
  refine Wp.call (as := [.ref 0, .int (xs (i + 1)), .int (xs (i + 2))]) (rest := []) rfl rfl rfl rfl rfl (Nat.le_of_ble_eq_true rfl) (Nat.le_of_ble_eq_true rfl) rfl (by decide) (sim_judge I (xs (i + 1)) (xs (i + 2))) ?_
  rintro _ _ ⟨⟨vs1, mi1, ml1, g1, rfl⟩, x, rfl, hm⟩
  refine Wp.run 5 (933, [(3, .int (nI i)), (2, .ref 66), (1, .ref 0), (0, .ref 500)], [.int ((nI i) + 1), .ref 500, .ref 66, .int x], (zsh ++ vs1, mi1, ml1, (zmr g1))) rfl ?_
  refine Wp.topi (y := nI (i + 1)) (nI_add i 1) ?_
  refine Wp.iasc rfl (by omega) (by omega) ?_
  refine Wp.run 4 (938, [(3, .int (nI i)), (2, .ref 66), (1, .ref 0), (0, .ref 500)], [.int ((nI i) + 2), .ref 500, .int (xs (i + 1)), .ref 66, .int x], (zsh ++ vs1, mi1, ml1, (zmr g1))) rfl ?_
  refine Wp.topi (y := nI (i + 2)) (nI_add i 2) ?_
  refine Wp.iasc rfl (by omega) (by omega) ?_
  refine Wp.run 0 (939, [(3, .int (nI i)), (2, .ref 66), (1, .ref 0), (0, .ref 500)], [.int (xs (i + 2)), .int (xs (i + 1)), .ref 66, .int x], (zsh ++ vs1, mi1, ml1, (zmr g1))) rfl ?_
  refine Wp.call (as := [.ref 66, .int (xs (i + 1)), .int (xs (i + 2))]) (rest := [.int x]) rfl rfl rfl rfl rfl (Nat.le_of_ble_eq_true rfl) (Nat.le_of_ble_eq_true rfl) rfl (by decide) (hm) ?_
  rintro _ w2 ⟨rfl, hI2⟩
  refine Wp.run 0 (942, [(3, .int (nI i)), (2, .ref 66), (1, .ref 0), (0, .ref 500)], [.int x, .int x], (w2.1, w2.2.1, w2.2.2.1, w2.2.2.2)) rfl ?_
  refine Wp.icmp_eq rfl (fun h21 => ?_) (fun h21 => ?_)
  · refine Wp.run 2 (18, [(3, .int ((nI i) + 6)), (2, .ref 66), (1, .ref 0), (0, .ref 500)], [], (w2.1, w2.2.1, w2.2.2.1, w2.2.2.2)) rfl ?_
    obtain ⟨nv2, VD2, NL2, n2, dd2, vs2, mi2, ml2, g2, rfl, I2⟩ := hI2
    rw [show nI i + 6 = nI (i + 6) from nI_add i 6]
    refine Wp.sub (a := [(3, .int (nI (i + 6))), (2, .ref 66), (1, .ref 0), (0, .ref 500)]) (zle_cons rfl (zle_cons rfl (zle_cons rfl (zle_cons rfl (zle_nil))))) ?_
    exact ih (i + 6) _ rfl ⟨nv2, VD2, NL2, n2, dd2, vs2, mi2, ml2, g2, rfl, I2⟩
  · exact absurd rfl h21
set_option maxRecDepth 20000 in
theorem lw_image {L : Nat} {xs : Nat → Int32} {i : Nat} (hL : L ≤ 3072) (hi : i + 6 ≤ L) (ih : ∀ (i' : Nat) (w : zW), i' = i + 6 → INVx w → Wp (L, xs) 40 pg_L_law 18 [(3, .int (nI i')), (2, .ref 66), (1, .ref 0), (0, .ref 500)] [] w (fun r w' => r = some (.int 1) ∧ INVx w')) {nv : Nat} {VD : Nat → zV} {NL : Nat → Nat} {n dd : Nat} {vs : List (Nat × Nat)} {mi : Nat → Nat → Int32} {ml : Nat → Nat → Int64} {g : Nat → Nat → Option Nat} (I : INV nv VD NL n dd vs mi ml g) : Wp (L, xs) 40 pg_L_law 947 [(3, .int (nI i)), (2, .ref 66), (1, .ref 0), (0, .ref 500)] [] (zsh ++ vs, mi, ml, zmr g) (fun r w' => r = some (.int 1) ∧ INVx w') := by
  refine Wp.run 1 (948, [(3, .int (nI i)), (2, .ref 66), (1, .ref 0), (0, .ref 500)], [.ref 0], (zsh ++ vs, mi, ml, (zmr g))) rfl ?_
  refine Wp.call (as := [.ref 0]) (rest := []) rfl rfl rfl rfl rfl (Nat.le_of_ble_eq_true rfl) (Nat.le_of_ble_eq_true rfl) rfl (by decide) (sim_image I ) ?_
  rintro _ _ ⟨⟨vs1, mi1, ml1, g1, rfl⟩, x, rfl, hm⟩
  refine Wp.run 1 (952, [(3, .int (nI i)), (2, .ref 66), (1, .ref 0), (0, .ref 500)], [.ref 66, .int x], (zsh ++ vs1, mi1, ml1, (zmr g1))) rfl ?_
  refine Wp.call (as := [.ref 66]) (rest := [.int x]) rfl rfl rfl rfl rfl (Nat.le_of_ble_eq_true rfl) (Nat.le_of_ble_eq_true rfl) rfl (by decide) (hm) ?_
  rintro _ w2 ⟨rfl, hI2⟩
  refine Wp.run 0 (955, [(3, .int (nI i)), (2, .ref 66), (1, .ref 0), (0, .ref 500)], [.int x, .int x], (w2.1, w2.2.1, w2.2.2.1, w2.2.2.2)) rfl ?_
  refine Wp.icmp_eq rfl (fun h21 => ?_) (fun h21 => ?_)
  · refine Wp.run 2 (18, [(3, .int ((nI i) + 6)), (2, .ref 66), (1, .ref 0), (0, .ref 500)], [], (w2.1, w2.2.1, w2.2.2.1, w2.2.2.2)) rfl ?_
    obtain ⟨nv2, VD2, NL2, n2, dd2, vs2, mi2, ml2, g2, rfl, I2⟩ := hI2
    rw [show nI i + 6 = nI (i + 6) from nI_add i 6]
    refine Wp.sub (a := [(3, .int (nI (i + 6))), (2, .ref 66), (1, .ref 0), (0, .ref 500)]) (zle_cons rfl (zle_cons rfl (zle_cons rfl (zle_cons rfl (zle_nil))))) ?_
    exact ih (i + 6) _ rfl ⟨nv2, VD2, NL2, n2, dd2, vs2, mi2, ml2, g2, rfl, I2⟩
  · exact absurd rfl h21
set_option maxRecDepth 20000 in
theorem lw_undo {L : Nat} {xs : Nat → Int32} {i : Nat} (hL : L ≤ 3072) (hi : i + 6 ≤ L) (ih : ∀ (i' : Nat) (w : zW), i' = i + 6 → INVx w → Wp (L, xs) 40 pg_L_law 18 [(3, .int (nI i')), (2, .ref 66), (1, .ref 0), (0, .ref 500)] [] w (fun r w' => r = some (.int 1) ∧ INVx w')) {nv : Nat} {VD : Nat → zV} {NL : Nat → Nat} {n dd : Nat} {vs : List (Nat × Nat)} {mi : Nat → Nat → Int32} {ml : Nat → Nat → Int64} {g : Nat → Nat → Option Nat} (I : INV nv VD NL n dd vs mi ml g) : Wp (L, xs) 40 pg_L_law 960 [(3, .int (nI i)), (2, .ref 66), (1, .ref 0), (0, .ref 500)] [] (zsh ++ vs, mi, ml, zmr g) (fun r w' => r = some (.int 1) ∧ INVx w') := by
  refine Wp.run 1 (961, [(3, .int (nI i)), (2, .ref 66), (1, .ref 0), (0, .ref 500)], [.ref 0], (zsh ++ vs, mi, ml, (zmr g))) rfl ?_
  refine Wp.call (as := [.ref 0]) (rest := []) rfl rfl rfl rfl rfl (Nat.le_of_ble_eq_true rfl) (Nat.le_of_ble_eq_true rfl) rfl (by decide) (sim_undo I ) ?_
  rintro _ _ ⟨⟨vs1, mi1, ml1, g1, rfl⟩, x, rfl, hm⟩
  refine Wp.run 1 (965, [(3, .int (nI i)), (2, .ref 66), (1, .ref 0), (0, .ref 500)], [.ref 66, .int x], (zsh ++ vs1, mi1, ml1, (zmr g1))) rfl ?_
  refine Wp.call (as := [.ref 66]) (rest := [.int x]) rfl rfl rfl rfl rfl (Nat.le_of_ble_eq_true rfl) (Nat.le_of_ble_eq_true rfl) rfl (by decide) (hm) ?_
  rintro _ w2 ⟨rfl, hI2⟩
  refine Wp.run 0 (968, [(3, .int (nI i)), (2, .ref 66), (1, .ref 0), (0, .ref 500)], [.int x, .int x], (w2.1, w2.2.1, w2.2.2.1, w2.2.2.2)) rfl ?_
  refine Wp.icmp_eq rfl (fun h21 => ?_) (fun h21 => ?_)
  · refine Wp.run 2 (18, [(3, .int ((nI i) + 6)), (2, .ref 66), (1, .ref 0), (0, .ref 500)], [], (w2.1, w2.2.1, w2.2.2.1, w2.2.2.2)) rfl ?_
    obtain ⟨nv2, VD2, NL2, n2, dd2, vs2, mi2, ml2, g2, rfl, I2⟩ := hI2
    rw [show nI i + 6 = nI (i + 6) from nI_add i 6]
    refine Wp.sub (a := [(3, .int (nI (i + 6))), (2, .ref 66), (1, .ref 0), (0, .ref 500)]) (zle_cons rfl (zle_cons rfl (zle_cons rfl (zle_cons rfl (zle_nil))))) ?_
    exact ih (i + 6) _ rfl ⟨nv2, VD2, NL2, n2, dd2, vs2, mi2, ml2, g2, rfl, I2⟩
  · exact absurd rfl h21
set_option maxRecDepth 20000 in
theorem lw_act {L : Nat} {xs : Nat → Int32} {i : Nat} (hL : L ≤ 3072) (hi : i + 6 ≤ L) (ih : ∀ (i' : Nat) (w : zW), i' = i + 6 → INVx w → Wp (L, xs) 40 pg_L_law 18 [(3, .int (nI i')), (2, .ref 66), (1, .ref 0), (0, .ref 500)] [] w (fun r w' => r = some (.int 1) ∧ INVx w')) {nv : Nat} {VD : Nat → zV} {NL : Nat → Nat} {n dd : Nat} {vs : List (Nat × Nat)} {mi : Nat → Nat → Int32} {ml : Nat → Nat → Int64} {g : Nat → Nat → Option Nat} (I : INV nv VD NL n dd vs mi ml g) : Wp (L, xs) 40 pg_L_law 973 [(3, .int (nI i)), (2, .ref 66), (1, .ref 0), (0, .ref 500)] [] (zsh ++ vs, mi, ml, zmr g) (fun r w' => r = some (.int 1) ∧ INVx w') := by
  refine Wp.run 5 (978, [(3, .int (nI i)), (2, .ref 66), (1, .ref 0), (0, .ref 500)], [.int ((nI i) + 1), .ref 500, .ref 0], (zsh ++ vs, mi, ml, (zmr g))) rfl ?_
  refine Wp.topi (y := nI (i + 1)) (nI_add i 1) ?_
  refine Wp.iasc rfl (by omega) (by omega) ?_
  refine Wp.run 4 (983, [(3, .int (nI i)), (2, .ref 66), (1, .ref 0), (0, .ref 500)], [.int ((nI i) + 2), .ref 500, .int (xs (i + 1)), .ref 0], (zsh ++ vs, mi, ml, (zmr g))) rfl ?_
  refine Wp.topi (y := nI (i + 2)) (nI_add i 2) ?_
  refine Wp.iasc rfl (by omega) (by omega) ?_
  refine Wp.run 4 (988, [(3, .int (nI i)), (2, .ref 66), (1, .ref 0), (0, .ref 500)], [.int ((nI i) + 3), .ref 500, .int (xs (i + 2)), .int (xs (i + 1)), .ref 0], (zsh ++ vs, mi, ml, (zmr g))) rfl ?_
  refine Wp.topi (y := nI (i + 3)) (nI_add i 3) ?_
  refine Wp.iasc rfl (by omega) (by omega) ?_
  refine Wp.run 0 (989, [(3, .int (nI i)), (2, .ref 66), (1, .ref 0), (0, .ref 500)], [.int (xs (i + 3)), .int (xs (i + 2)), .int (xs (i + 1)), .ref 0], (zsh ++ vs, mi, ml, (zmr g))) rfl ?_
  refine Wp.call (as := [.ref 0, .int (xs (i + 1)), .int (xs (i + 2)), .int (xs (i + 3))]) (rest := []) rfl rfl rfl rfl rfl (Nat.le_of_ble_eq_true rfl) (Nat.le_of_ble_eq_true rfl) rfl (by decide) (sim_act I (xs (i + 1)) (xs (i + 2)) (xs (i + 3))) ?_
  rintro _ _ ⟨⟨vs1, mi1, ml1, g1, rfl⟩, x, rfl, hm⟩
  refine Wp.run 5 (997, [(3, .int (nI i)), (2, .ref 66), (1, .ref 0), (0, .ref 500)], [.int ((nI i) + 1), .ref 500, .ref 66, .int x], (zsh ++ vs1, mi1, ml1, (zmr g1))) rfl ?_
  refine Wp.topi (y := nI (i + 1)) (nI_add i 1) ?_
  refine Wp.iasc rfl (by omega) (by omega) ?_
  refine Wp.run 4 (1002, [(3, .int (nI i)), (2, .ref 66), (1, .ref 0), (0, .ref 500)], [.int ((nI i) + 2), .ref 500, .int (xs (i + 1)), .ref 66, .int x], (zsh ++ vs1, mi1, ml1, (zmr g1))) rfl ?_
  refine Wp.topi (y := nI (i + 2)) (nI_add i 2) ?_
  refine Wp.iasc rfl (by omega) (by omega) ?_
  refine Wp.run 4 (1007, [(3, .int (nI i)), (2, .ref 66), (1, .ref 0), (0, .ref 500)], [.int ((nI i) + 3), .ref 500, .int (xs (i + 2)), .int (xs (i + 1)), .ref 66, .int x], (zsh ++ vs1, mi1, ml1, (zmr g1))) rfl ?_
  refine Wp.topi (y := nI (i + 3)) (nI_add i 3) ?_
  refine Wp.iasc rfl (by omega) (by omega) ?_
  refine Wp.run 0 (1008, [(3, .int (nI i)), (2, .ref 66), (1, .ref 0), (0, .ref 500)], [.int (xs (i + 3)), .int (xs (i + 2)), .int (xs (i + 1)), .ref 66, .int x], (zsh ++ vs1, mi1, ml1, (zmr g1))) rfl ?_
  refine Wp.call (as := [.ref 66, .int (xs (i + 1)), .int (xs (i + 2)), .int (xs (i + 3))]) (rest := [.int x]) rfl rfl rfl rfl rfl (Nat.le_of_ble_eq_true rfl) (Nat.le_of_ble_eq_true rfl) rfl (by decide) (hm) ?_
  rintro _ w2 ⟨rfl, hI2⟩
  refine Wp.run 0 (1011, [(3, .int (nI i)), (2, .ref 66), (1, .ref 0), (0, .ref 500)], [.int x, .int x], (w2.1, w2.2.1, w2.2.2.1, w2.2.2.2)) rfl ?_
  refine Wp.icmp_eq rfl (fun h21 => ?_) (fun h21 => ?_)
  · refine Wp.run 2 (18, [(3, .int ((nI i) + 6)), (2, .ref 66), (1, .ref 0), (0, .ref 500)], [], (w2.1, w2.2.1, w2.2.2.1, w2.2.2.2)) rfl ?_
    obtain ⟨nv2, VD2, NL2, n2, dd2, vs2, mi2, ml2, g2, rfl, I2⟩ := hI2
    rw [show nI i + 6 = nI (i + 6) from nI_add i 6]
    refine Wp.sub (a := [(3, .int (nI (i + 6))), (2, .ref 66), (1, .ref 0), (0, .ref 500)]) (zle_cons rfl (zle_cons rfl (zle_cons rfl (zle_cons rfl (zle_nil))))) ?_
    exact ih (i + 6) _ rfl ⟨nv2, VD2, NL2, n2, dd2, vs2, mi2, ml2, g2, rfl, I2⟩
  · exact absurd rfl h21
set_option maxRecDepth 20000 in
theorem lw_trace {L : Nat} {xs : Nat → Int32} {i : Nat} (hL : L ≤ 3072) (hi : i + 6 ≤ L) (ih : ∀ (i' : Nat) (w : zW), i' = i + 6 → INVx w → Wp (L, xs) 40 pg_L_law 18 [(3, .int (nI i')), (2, .ref 66), (1, .ref 0), (0, .ref 500)] [] w (fun r w' => r = some (.int 1) ∧ INVx w')) {nv : Nat} {VD : Nat → zV} {NL : Nat → Nat} {n dd : Nat} {vs : List (Nat × Nat)} {mi : Nat → Nat → Int32} {ml : Nat → Nat → Int64} {g : Nat → Nat → Option Nat} (I : INV nv VD NL n dd vs mi ml g) : Wp (L, xs) 40 pg_L_law 1016 [(3, .int (nI i)), (2, .ref 66), (1, .ref 0), (0, .ref 500)] [] (zsh ++ vs, mi, ml, zmr g) (fun r w' => r = some (.int 1) ∧ INVx w') := by
  refine Wp.run 5 (1021, [(3, .int (nI i)), (2, .ref 66), (1, .ref 0), (0, .ref 500)], [.int ((nI i) + 1), .ref 500, .ref 0], (zsh ++ vs, mi, ml, (zmr g))) rfl ?_
  refine Wp.topi (y := nI (i + 1)) (nI_add i 1) ?_
  refine Wp.iasc rfl (by omega) (by omega) ?_
  refine Wp.run 0 (1022, [(3, .int (nI i)), (2, .ref 66), (1, .ref 0), (0, .ref 500)], [.int (xs (i + 1)), .ref 0], (zsh ++ vs, mi, ml, (zmr g))) rfl ?_
  refine Wp.call (as := [.ref 0, .int (xs (i + 1))]) (rest := []) rfl rfl rfl rfl rfl (Nat.le_of_ble_eq_true rfl) (Nat.le_of_ble_eq_true rfl) rfl (by decide) (sim_trace I (xs (i + 1))) ?_
  rintro _ _ ⟨⟨vs1, mi1, ml1, g1, rfl⟩, x, rfl, hm⟩
  refine Wp.run 5 (1030, [(3, .int (nI i)), (2, .ref 66), (1, .ref 0), (0, .ref 500)], [.int ((nI i) + 1), .ref 500, .ref 66, .int x], (zsh ++ vs1, mi1, ml1, (zmr g1))) rfl ?_
  refine Wp.topi (y := nI (i + 1)) (nI_add i 1) ?_
  refine Wp.iasc rfl (by omega) (by omega) ?_
  refine Wp.run 0 (1031, [(3, .int (nI i)), (2, .ref 66), (1, .ref 0), (0, .ref 500)], [.int (xs (i + 1)), .ref 66, .int x], (zsh ++ vs1, mi1, ml1, (zmr g1))) rfl ?_
  refine Wp.call (as := [.ref 66, .int (xs (i + 1))]) (rest := [.int x]) rfl rfl rfl rfl rfl (Nat.le_of_ble_eq_true rfl) (Nat.le_of_ble_eq_true rfl) rfl (by decide) (hm) ?_
  rintro _ w2 ⟨rfl, hI2⟩
  refine Wp.run 0 (1034, [(3, .int (nI i)), (2, .ref 66), (1, .ref 0), (0, .ref 500)], [.int x, .int x], (w2.1, w2.2.1, w2.2.2.1, w2.2.2.2)) rfl ?_
  refine Wp.icmp_eq rfl (fun h21 => ?_) (fun h21 => ?_)
  · refine Wp.run 2 (18, [(3, .int ((nI i) + 6)), (2, .ref 66), (1, .ref 0), (0, .ref 500)], [], (w2.1, w2.2.1, w2.2.2.1, w2.2.2.2)) rfl ?_
    obtain ⟨nv2, VD2, NL2, n2, dd2, vs2, mi2, ml2, g2, rfl, I2⟩ := hI2
    rw [show nI i + 6 = nI (i + 6) from nI_add i 6]
    refine Wp.sub (a := [(3, .int (nI (i + 6))), (2, .ref 66), (1, .ref 0), (0, .ref 500)]) (zle_cons rfl (zle_cons rfl (zle_cons rfl (zle_cons rfl (zle_nil))))) ?_
    exact ih (i + 6) _ rfl ⟨nv2, VD2, NL2, n2, dd2, vs2, mi2, ml2, g2, rfl, I2⟩
  · exact absurd rfl h21
set_option maxRecDepth 20000 in
theorem lw_taken {L : Nat} {xs : Nat → Int32} {i : Nat} (hL : L ≤ 3072) (hi : i + 6 ≤ L) (ih : ∀ (i' : Nat) (w : zW), i' = i + 6 → INVx w → Wp (L, xs) 40 pg_L_law 18 [(3, .int (nI i')), (2, .ref 66), (1, .ref 0), (0, .ref 500)] [] w (fun r w' => r = some (.int 1) ∧ INVx w')) {nv : Nat} {VD : Nat → zV} {NL : Nat → Nat} {n dd : Nat} {vs : List (Nat × Nat)} {mi : Nat → Nat → Int32} {ml : Nat → Nat → Int64} {g : Nat → Nat → Option Nat} (I : INV nv VD NL n dd vs mi ml g) : Wp (L, xs) 40 pg_L_law 1039 [(3, .int (nI i)), (2, .ref 66), (1, .ref 0), (0, .ref 500)] [] (zsh ++ vs, mi, ml, zmr g) (fun r w' => r = some (.int 1) ∧ INVx w') := by
  refine Wp.run 5 (1044, [(3, .int (nI i)), (2, .ref 66), (1, .ref 0), (0, .ref 500)], [.int ((nI i) + 1), .ref 500, .ref 0], (zsh ++ vs, mi, ml, (zmr g))) rfl ?_
  refine Wp.topi (y := nI (i + 1)) (nI_add i 1) ?_
  refine Wp.iasc rfl (by omega) (by omega) ?_
  refine Wp.run 4 (1049, [(3, .int (nI i)), (2, .ref 66), (1, .ref 0), (0, .ref 500)], [.int ((nI i) + 2), .ref 500, .int (xs (i + 1)), .ref 0], (zsh ++ vs, mi, ml, (zmr g))) rfl ?_
  refine Wp.topi (y := nI (i + 2)) (nI_add i 2) ?_
  refine Wp.iasc rfl (by omega) (by omega) ?_
  refine Wp.run 0 (1050, [(3, .int (nI i)), (2, .ref 66), (1, .ref 0), (0, .ref 500)], [.int (xs (i + 2)), .int (xs (i + 1)), .ref 0], (zsh ++ vs, mi, ml, (zmr g))) rfl ?_
  refine Wp.call (as := [.ref 0, .int (xs (i + 1)), .int (xs (i + 2))]) (rest := []) rfl rfl rfl rfl rfl (Nat.le_of_ble_eq_true rfl) (Nat.le_of_ble_eq_true rfl) rfl (by decide) (sim_taken I (xs (i + 1)) (xs (i + 2))) ?_
  rintro _ _ ⟨⟨vs1, mi1, ml1, g1, rfl⟩, x, rfl, hm⟩
  refine Wp.run 5 (1058, [(3, .int (nI i)), (2, .ref 66), (1, .ref 0), (0, .ref 500)], [.int ((nI i) + 1), .ref 500, .ref 66, .int x], (zsh ++ vs1, mi1, ml1, (zmr g1))) rfl ?_
  refine Wp.topi (y := nI (i + 1)) (nI_add i 1) ?_
  refine Wp.iasc rfl (by omega) (by omega) ?_
  refine Wp.run 4 (1063, [(3, .int (nI i)), (2, .ref 66), (1, .ref 0), (0, .ref 500)], [.int ((nI i) + 2), .ref 500, .int (xs (i + 1)), .ref 66, .int x], (zsh ++ vs1, mi1, ml1, (zmr g1))) rfl ?_
  refine Wp.topi (y := nI (i + 2)) (nI_add i 2) ?_
  refine Wp.iasc rfl (by omega) (by omega) ?_
  refine Wp.run 0 (1064, [(3, .int (nI i)), (2, .ref 66), (1, .ref 0), (0, .ref 500)], [.int (xs (i + 2)), .int (xs (i + 1)), .ref 66, .int x], (zsh ++ vs1, mi1, ml1, (zmr g1))) rfl ?_
  refine Wp.call (as := [.ref 66, .int (xs (i + 1)), .int (xs (i + 2))]) (rest := [.int x]) rfl rfl rfl rfl rfl (Nat.le_of_ble_eq_true rfl) (Nat.le_of_ble_eq_true rfl) rfl (by decide) (hm) ?_
  rintro _ w2 ⟨rfl, hI2⟩
  refine Wp.run 0 (1067, [(3, .int (nI i)), (2, .ref 66), (1, .ref 0), (0, .ref 500)], [.int x, .int x], (w2.1, w2.2.1, w2.2.2.1, w2.2.2.2)) rfl ?_
  refine Wp.icmp_eq rfl (fun h21 => ?_) (fun h21 => ?_)
  · refine Wp.run 2 (18, [(3, .int ((nI i) + 6)), (2, .ref 66), (1, .ref 0), (0, .ref 500)], [], (w2.1, w2.2.1, w2.2.2.1, w2.2.2.2)) rfl ?_
    obtain ⟨nv2, VD2, NL2, n2, dd2, vs2, mi2, ml2, g2, rfl, I2⟩ := hI2
    rw [show nI i + 6 = nI (i + 6) from nI_add i 6]
    refine Wp.sub (a := [(3, .int (nI (i + 6))), (2, .ref 66), (1, .ref 0), (0, .ref 500)]) (zle_cons rfl (zle_cons rfl (zle_cons rfl (zle_cons rfl (zle_nil))))) ?_
    exact ih (i + 6) _ rfl ⟨nv2, VD2, NL2, n2, dd2, vs2, mi2, ml2, g2, rfl, I2⟩
  · exact absurd rfl h21
set_option maxRecDepth 20000 in
theorem lw_count {L : Nat} {xs : Nat → Int32} {i : Nat} (hL : L ≤ 3072) (hi : i + 6 ≤ L) (ih : ∀ (i' : Nat) (w : zW), i' = i + 6 → INVx w → Wp (L, xs) 40 pg_L_law 18 [(3, .int (nI i')), (2, .ref 66), (1, .ref 0), (0, .ref 500)] [] w (fun r w' => r = some (.int 1) ∧ INVx w')) {nv : Nat} {VD : Nat → zV} {NL : Nat → Nat} {n dd : Nat} {vs : List (Nat × Nat)} {mi : Nat → Nat → Int32} {ml : Nat → Nat → Int64} {g : Nat → Nat → Option Nat} (I : INV nv VD NL n dd vs mi ml g) : Wp (L, xs) 40 pg_L_law 1072 [(3, .int (nI i)), (2, .ref 66), (1, .ref 0), (0, .ref 500)] [] (zsh ++ vs, mi, ml, zmr g) (fun r w' => r = some (.int 1) ∧ INVx w') := by
  refine Wp.run 5 (1077, [(3, .int (nI i)), (2, .ref 66), (1, .ref 0), (0, .ref 500)], [.int ((nI i) + 1), .ref 500, .ref 0], (zsh ++ vs, mi, ml, (zmr g))) rfl ?_
  refine Wp.topi (y := nI (i + 1)) (nI_add i 1) ?_
  refine Wp.iasc rfl (by omega) (by omega) ?_
  refine Wp.run 0 (1078, [(3, .int (nI i)), (2, .ref 66), (1, .ref 0), (0, .ref 500)], [.int (xs (i + 1)), .ref 0], (zsh ++ vs, mi, ml, (zmr g))) rfl ?_
  refine Wp.call (as := [.ref 0, .int (xs (i + 1))]) (rest := []) rfl rfl rfl rfl rfl (Nat.le_of_ble_eq_true rfl) (Nat.le_of_ble_eq_true rfl) rfl (by decide) (sim_count I (xs (i + 1))) ?_
  rintro _ _ ⟨⟨vs1, mi1, ml1, g1, rfl⟩, x, rfl, hm⟩
  refine Wp.run 5 (1086, [(3, .int (nI i)), (2, .ref 66), (1, .ref 0), (0, .ref 500)], [.int ((nI i) + 1), .ref 500, .ref 66, .int x], (zsh ++ vs1, mi1, ml1, (zmr g1))) rfl ?_
  refine Wp.topi (y := nI (i + 1)) (nI_add i 1) ?_
  refine Wp.iasc rfl (by omega) (by omega) ?_
  refine Wp.run 0 (1087, [(3, .int (nI i)), (2, .ref 66), (1, .ref 0), (0, .ref 500)], [.int (xs (i + 1)), .ref 66, .int x], (zsh ++ vs1, mi1, ml1, (zmr g1))) rfl ?_
  refine Wp.call (as := [.ref 66, .int (xs (i + 1))]) (rest := [.int x]) rfl rfl rfl rfl rfl (Nat.le_of_ble_eq_true rfl) (Nat.le_of_ble_eq_true rfl) rfl (by decide) (hm) ?_
  rintro _ w2 ⟨rfl, hI2⟩
  refine Wp.run 0 (1090, [(3, .int (nI i)), (2, .ref 66), (1, .ref 0), (0, .ref 500)], [.int x, .int x], (w2.1, w2.2.1, w2.2.2.1, w2.2.2.2)) rfl ?_
  refine Wp.icmp_eq rfl (fun h21 => ?_) (fun h21 => ?_)
  · refine Wp.run 2 (18, [(3, .int ((nI i) + 6)), (2, .ref 66), (1, .ref 0), (0, .ref 500)], [], (w2.1, w2.2.1, w2.2.2.1, w2.2.2.2)) rfl ?_
    obtain ⟨nv2, VD2, NL2, n2, dd2, vs2, mi2, ml2, g2, rfl, I2⟩ := hI2
    rw [show nI i + 6 = nI (i + 6) from nI_add i 6]
    refine Wp.sub (a := [(3, .int (nI (i + 6))), (2, .ref 66), (1, .ref 0), (0, .ref 500)]) (zle_cons rfl (zle_cons rfl (zle_cons rfl (zle_cons rfl (zle_nil))))) ?_
    exact ih (i + 6) _ rfl ⟨nv2, VD2, NL2, n2, dd2, vs2, mi2, ml2, g2, rfl, I2⟩
  · exact absurd rfl h21
set_option maxRecDepth 20000 in
theorem lw_tape {L : Nat} {xs : Nat → Int32} {i : Nat} (hL : L ≤ 3072) (hi : i + 6 ≤ L) (ih : ∀ (i' : Nat) (w : zW), i' = i + 6 → INVx w → Wp (L, xs) 40 pg_L_law 18 [(3, .int (nI i')), (2, .ref 66), (1, .ref 0), (0, .ref 500)] [] w (fun r w' => r = some (.int 1) ∧ INVx w')) {nv : Nat} {VD : Nat → zV} {NL : Nat → Nat} {n dd : Nat} {vs : List (Nat × Nat)} {mi : Nat → Nat → Int32} {ml : Nat → Nat → Int64} {g : Nat → Nat → Option Nat} (I : INV nv VD NL n dd vs mi ml g) : Wp (L, xs) 40 pg_L_law 1095 [(3, .int (nI i)), (2, .ref 66), (1, .ref 0), (0, .ref 500)] [] (zsh ++ vs, mi, ml, zmr g) (fun r w' => r = some (.int 1) ∧ INVx w') := by
  refine Wp.run 5 (1100, [(3, .int (nI i)), (2, .ref 66), (1, .ref 0), (0, .ref 500)], [.int ((nI i) + 1), .ref 500, .ref 0], (zsh ++ vs, mi, ml, (zmr g))) rfl ?_
  refine Wp.topi (y := nI (i + 1)) (nI_add i 1) ?_
  refine Wp.iasc rfl (by omega) (by omega) ?_
  refine Wp.run 4 (1105, [(3, .int (nI i)), (2, .ref 66), (1, .ref 0), (0, .ref 500)], [.int ((nI i) + 2), .ref 500, .int (xs (i + 1)), .ref 0], (zsh ++ vs, mi, ml, (zmr g))) rfl ?_
  refine Wp.topi (y := nI (i + 2)) (nI_add i 2) ?_
  refine Wp.iasc rfl (by omega) (by omega) ?_
  refine Wp.run 4 (1110, [(3, .int (nI i)), (2, .ref 66), (1, .ref 0), (0, .ref 500)], [.int ((nI i) + 3), .ref 500, .int (xs (i + 2)), .int (xs (i + 1)), .ref 0], (zsh ++ vs, mi, ml, (zmr g))) rfl ?_
  refine Wp.topi (y := nI (i + 3)) (nI_add i 3) ?_
  refine Wp.iasc rfl (by omega) (by omega) ?_
  refine Wp.run 0 (1111, [(3, .int (nI i)), (2, .ref 66), (1, .ref 0), (0, .ref 500)], [.int (xs (i + 3)), .int (xs (i + 2)), .int (xs (i + 1)), .ref 0], (zsh ++ vs, mi, ml, (zmr g))) rfl ?_
  refine Wp.call (as := [.ref 0, .int (xs (i + 1)), .int (xs (i + 2)), .int (xs (i + 3))]) (rest := []) rfl rfl rfl rfl rfl (Nat.le_of_ble_eq_true rfl) (Nat.le_of_ble_eq_true rfl) rfl (by decide) (sim_tape I (xs (i + 1)) (xs (i + 2)) (xs (i + 3))) ?_
  rintro _ _ ⟨⟨vs1, mi1, ml1, g1, rfl⟩, x, rfl, hm⟩
  refine Wp.run 5 (1119, [(3, .int (nI i)), (2, .ref 66), (1, .ref 0), (0, .ref 500)], [.int ((nI i) + 1), .ref 500, .ref 66, .int x], (zsh ++ vs1, mi1, ml1, (zmr g1))) rfl ?_
  refine Wp.topi (y := nI (i + 1)) (nI_add i 1) ?_
  refine Wp.iasc rfl (by omega) (by omega) ?_
  refine Wp.run 4 (1124, [(3, .int (nI i)), (2, .ref 66), (1, .ref 0), (0, .ref 500)], [.int ((nI i) + 2), .ref 500, .int (xs (i + 1)), .ref 66, .int x], (zsh ++ vs1, mi1, ml1, (zmr g1))) rfl ?_
  refine Wp.topi (y := nI (i + 2)) (nI_add i 2) ?_
  refine Wp.iasc rfl (by omega) (by omega) ?_
  refine Wp.run 4 (1129, [(3, .int (nI i)), (2, .ref 66), (1, .ref 0), (0, .ref 500)], [.int ((nI i) + 3), .ref 500, .int (xs (i + 2)), .int (xs (i + 1)), .ref 66, .int x], (zsh ++ vs1, mi1, ml1, (zmr g1))) rfl ?_
  refine Wp.topi (y := nI (i + 3)) (nI_add i 3) ?_
  refine Wp.iasc rfl (by omega) (by omega) ?_
  refine Wp.run 0 (1130, [(3, .int (nI i)), (2, .ref 66), (1, .ref 0), (0, .ref 500)], [.int (xs (i + 3)), .int (xs (i + 2)), .int (xs (i + 1)), .ref 66, .int x], (zsh ++ vs1, mi1, ml1, (zmr g1))) rfl ?_
  refine Wp.call (as := [.ref 66, .int (xs (i + 1)), .int (xs (i + 2)), .int (xs (i + 3))]) (rest := [.int x]) rfl rfl rfl rfl rfl (Nat.le_of_ble_eq_true rfl) (Nat.le_of_ble_eq_true rfl) rfl (by decide) (hm) ?_
  rintro _ w2 ⟨rfl, hI2⟩
  refine Wp.run 0 (1133, [(3, .int (nI i)), (2, .ref 66), (1, .ref 0), (0, .ref 500)], [.int x, .int x], (w2.1, w2.2.1, w2.2.2.1, w2.2.2.2)) rfl ?_
  refine Wp.icmp_eq rfl (fun h21 => ?_) (fun h21 => ?_)
  · refine Wp.run 2 (18, [(3, .int ((nI i) + 6)), (2, .ref 66), (1, .ref 0), (0, .ref 500)], [], (w2.1, w2.2.1, w2.2.2.1, w2.2.2.2)) rfl ?_
    obtain ⟨nv2, VD2, NL2, n2, dd2, vs2, mi2, ml2, g2, rfl, I2⟩ := hI2
    rw [show nI i + 6 = nI (i + 6) from nI_add i 6]
    refine Wp.sub (a := [(3, .int (nI (i + 6))), (2, .ref 66), (1, .ref 0), (0, .ref 500)]) (zle_cons rfl (zle_cons rfl (zle_cons rfl (zle_cons rfl (zle_nil))))) ?_
    exact ih (i + 6) _ rfl ⟨nv2, VD2, NL2, n2, dd2, vs2, mi2, ml2, g2, rfl, I2⟩
  · exact absurd rfl h21
set_option maxRecDepth 20000 in
theorem lw_item {L : Nat} {xs : Nat → Int32} {i : Nat} (hL : L ≤ 3072) (hi : i + 6 ≤ L) (ih : ∀ (i' : Nat) (w : zW), i' = i + 6 → INVx w → Wp (L, xs) 40 pg_L_law 18 [(3, .int (nI i')), (2, .ref 66), (1, .ref 0), (0, .ref 500)] [] w (fun r w' => r = some (.int 1) ∧ INVx w')) {nv : Nat} {VD : Nat → zV} {NL : Nat → Nat} {n dd : Nat} {vs : List (Nat × Nat)} {mi : Nat → Nat → Int32} {ml : Nat → Nat → Int64} {g : Nat → Nat → Option Nat} (I : INV nv VD NL n dd vs mi ml g) : Wp (L, xs) 40 pg_L_law 1138 [(3, .int (nI i)), (2, .ref 66), (1, .ref 0), (0, .ref 500)] [] (zsh ++ vs, mi, ml, zmr g) (fun r w' => r = some (.int 1) ∧ INVx w') := by
  refine Wp.run 5 (1143, [(3, .int (nI i)), (2, .ref 66), (1, .ref 0), (0, .ref 500)], [.int ((nI i) + 1), .ref 500, .ref 0], (zsh ++ vs, mi, ml, (zmr g))) rfl ?_
  refine Wp.topi (y := nI (i + 1)) (nI_add i 1) ?_
  refine Wp.iasc rfl (by omega) (by omega) ?_
  refine Wp.run 4 (1148, [(3, .int (nI i)), (2, .ref 66), (1, .ref 0), (0, .ref 500)], [.int ((nI i) + 2), .ref 500, .int (xs (i + 1)), .ref 0], (zsh ++ vs, mi, ml, (zmr g))) rfl ?_
  refine Wp.topi (y := nI (i + 2)) (nI_add i 2) ?_
  refine Wp.iasc rfl (by omega) (by omega) ?_
  refine Wp.run 4 (1153, [(3, .int (nI i)), (2, .ref 66), (1, .ref 0), (0, .ref 500)], [.int ((nI i) + 3), .ref 500, .int (xs (i + 2)), .int (xs (i + 1)), .ref 0], (zsh ++ vs, mi, ml, (zmr g))) rfl ?_
  refine Wp.topi (y := nI (i + 3)) (nI_add i 3) ?_
  refine Wp.iasc rfl (by omega) (by omega) ?_
  refine Wp.run 7 (1162, [(3, .int (nI i)), (2, .ref 66), (1, .ref 0), (0, .ref 500)], [.int ((nI i) + 4), .ref 500, .long (((xs (i + 3) : Int32).toInt64) <<< ((32 : Int32).toInt64 &&& 63)), .int (xs (i + 2)), .int (xs (i + 1)), .ref 0], (zsh ++ vs, mi, ml, (zmr g))) rfl ?_
  refine Wp.topi (y := nI (i + 4)) (nI_add i 4) ?_
  refine Wp.iasc rfl (by omega) (by omega) ?_
  refine Wp.run 4 (1169, [(3, .int (nI i)), (2, .ref 66), (1, .ref 0), (0, .ref 500)], [.long ((((xs (i + 3) : Int32).toInt64) <<< ((32 : Int32).toInt64 &&& 63)) ||| (((xs (i + 4) : Int32).toInt64) &&& (Int64.ofNat 4294967295))), .int (xs (i + 2)), .int (xs (i + 1)), .ref 0], (zsh ++ vs, mi, ml, (zmr g))) rfl ?_
  refine Wp.call (as := [.ref 0, .int (xs (i + 1)), .int (xs (i + 2)), .long ((((xs (i + 3) : Int32).toInt64) <<< ((32 : Int32).toInt64 &&& 63)) ||| (((xs (i + 4) : Int32).toInt64) &&& (Int64.ofNat 4294967295)))]) (rest := []) rfl rfl rfl rfl rfl (Nat.le_of_ble_eq_true rfl) (Nat.le_of_ble_eq_true rfl) rfl (by decide) (sim_item I (xs (i + 1)) (xs (i + 2)) ((((xs (i + 3) : Int32).toInt64) <<< ((32 : Int32).toInt64 &&& 63)) ||| (((xs (i + 4) : Int32).toInt64) &&& (Int64.ofNat 4294967295)))) ?_
  rintro _ _ ⟨⟨vs1, mi1, ml1, g1, rfl⟩, x, rfl, hm⟩
  refine Wp.run 5 (1177, [(3, .int (nI i)), (2, .ref 66), (1, .ref 0), (0, .ref 500)], [.int ((nI i) + 1), .ref 500, .ref 66, .int x], (zsh ++ vs1, mi1, ml1, (zmr g1))) rfl ?_
  refine Wp.topi (y := nI (i + 1)) (nI_add i 1) ?_
  refine Wp.iasc rfl (by omega) (by omega) ?_
  refine Wp.run 4 (1182, [(3, .int (nI i)), (2, .ref 66), (1, .ref 0), (0, .ref 500)], [.int ((nI i) + 2), .ref 500, .int (xs (i + 1)), .ref 66, .int x], (zsh ++ vs1, mi1, ml1, (zmr g1))) rfl ?_
  refine Wp.topi (y := nI (i + 2)) (nI_add i 2) ?_
  refine Wp.iasc rfl (by omega) (by omega) ?_
  refine Wp.run 4 (1187, [(3, .int (nI i)), (2, .ref 66), (1, .ref 0), (0, .ref 500)], [.int ((nI i) + 3), .ref 500, .int (xs (i + 2)), .int (xs (i + 1)), .ref 66, .int x], (zsh ++ vs1, mi1, ml1, (zmr g1))) rfl ?_
  refine Wp.topi (y := nI (i + 3)) (nI_add i 3) ?_
  refine Wp.iasc rfl (by omega) (by omega) ?_
  refine Wp.run 7 (1196, [(3, .int (nI i)), (2, .ref 66), (1, .ref 0), (0, .ref 500)], [.int ((nI i) + 4), .ref 500, .long (((xs (i + 3) : Int32).toInt64) <<< ((32 : Int32).toInt64 &&& 63)), .int (xs (i + 2)), .int (xs (i + 1)), .ref 66, .int x], (zsh ++ vs1, mi1, ml1, (zmr g1))) rfl ?_
  refine Wp.topi (y := nI (i + 4)) (nI_add i 4) ?_
  refine Wp.iasc rfl (by omega) (by omega) ?_
  refine Wp.run 4 (1203, [(3, .int (nI i)), (2, .ref 66), (1, .ref 0), (0, .ref 500)], [.long ((((xs (i + 3) : Int32).toInt64) <<< ((32 : Int32).toInt64 &&& 63)) ||| (((xs (i + 4) : Int32).toInt64) &&& (Int64.ofNat 4294967295))), .int (xs (i + 2)), .int (xs (i + 1)), .ref 66, .int x], (zsh ++ vs1, mi1, ml1, (zmr g1))) rfl ?_
  refine Wp.call (as := [.ref 66, .int (xs (i + 1)), .int (xs (i + 2)), .long ((((xs (i + 3) : Int32).toInt64) <<< ((32 : Int32).toInt64 &&& 63)) ||| (((xs (i + 4) : Int32).toInt64) &&& (Int64.ofNat 4294967295)))]) (rest := [.int x]) rfl rfl rfl rfl rfl (Nat.le_of_ble_eq_true rfl) (Nat.le_of_ble_eq_true rfl) rfl (by decide) (hm) ?_
  rintro _ w2 ⟨rfl, hI2⟩
  refine Wp.run 0 (1206, [(3, .int (nI i)), (2, .ref 66), (1, .ref 0), (0, .ref 500)], [.int x, .int x], (w2.1, w2.2.1, w2.2.2.1, w2.2.2.2)) rfl ?_
  refine Wp.icmp_eq rfl (fun h21 => ?_) (fun h21 => ?_)
  · refine Wp.run 2 (18, [(3, .int ((nI i) + 6)), (2, .ref 66), (1, .ref 0), (0, .ref 500)], [], (w2.1, w2.2.1, w2.2.2.1, w2.2.2.2)) rfl ?_
    obtain ⟨nv2, VD2, NL2, n2, dd2, vs2, mi2, ml2, g2, rfl, I2⟩ := hI2
    rw [show nI i + 6 = nI (i + 6) from nI_add i 6]
    refine Wp.sub (a := [(3, .int (nI (i + 6))), (2, .ref 66), (1, .ref 0), (0, .ref 500)]) (zle_cons rfl (zle_cons rfl (zle_cons rfl (zle_cons rfl (zle_nil))))) ?_
    exact ih (i + 6) _ rfl ⟨nv2, VD2, NL2, n2, dd2, vs2, mi2, ml2, g2, rfl, I2⟩
  · exact absurd rfl h21
set_option maxRecDepth 20000 in
theorem lw_read {L : Nat} {xs : Nat → Int32} {i : Nat} (hL : L ≤ 3072) (hi : i + 6 ≤ L) (ih : ∀ (i' : Nat) (w : zW), i' = i + 6 → INVx w → Wp (L, xs) 40 pg_L_law 18 [(3, .int (nI i')), (2, .ref 66), (1, .ref 0), (0, .ref 500)] [] w (fun r w' => r = some (.int 1) ∧ INVx w')) {nv : Nat} {VD : Nat → zV} {NL : Nat → Nat} {n dd : Nat} {vs : List (Nat × Nat)} {mi : Nat → Nat → Int32} {ml : Nat → Nat → Int64} {g : Nat → Nat → Option Nat} (I : INV nv VD NL n dd vs mi ml g) : Wp (L, xs) 40 pg_L_law 1211 [(3, .int (nI i)), (2, .ref 66), (1, .ref 0), (0, .ref 500)] [] (zsh ++ vs, mi, ml, zmr g) (fun r w' => r = some (.int 1) ∧ INVx w') := by
  refine Wp.run 5 (1216, [(3, .int (nI i)), (2, .ref 66), (1, .ref 0), (0, .ref 500)], [.int ((nI i) + 1), .ref 500, .ref 0], (zsh ++ vs, mi, ml, (zmr g))) rfl ?_
  refine Wp.topi (y := nI (i + 1)) (nI_add i 1) ?_
  refine Wp.iasc rfl (by omega) (by omega) ?_
  refine Wp.run 4 (1221, [(3, .int (nI i)), (2, .ref 66), (1, .ref 0), (0, .ref 500)], [.int ((nI i) + 2), .ref 500, .int (xs (i + 1)), .ref 0], (zsh ++ vs, mi, ml, (zmr g))) rfl ?_
  refine Wp.topi (y := nI (i + 2)) (nI_add i 2) ?_
  refine Wp.iasc rfl (by omega) (by omega) ?_
  refine Wp.run 0 (1222, [(3, .int (nI i)), (2, .ref 66), (1, .ref 0), (0, .ref 500)], [.int (xs (i + 2)), .int (xs (i + 1)), .ref 0], (zsh ++ vs, mi, ml, (zmr g))) rfl ?_
  refine Wp.call (as := [.ref 0, .int (xs (i + 1)), .int (xs (i + 2))]) (rest := []) rfl rfl rfl rfl rfl (Nat.le_of_ble_eq_true rfl) (Nat.le_of_ble_eq_true rfl) rfl (by decide) (sim_read I (xs (i + 1)) (xs (i + 2))) ?_
  rintro _ _ ⟨⟨vs1, mi1, ml1, g1, rfl⟩, x, rfl, hm⟩
  refine Wp.run 5 (1230, [(3, .int (nI i)), (2, .ref 66), (1, .ref 0), (0, .ref 500)], [.int ((nI i) + 1), .ref 500, .ref 66, .long x], (zsh ++ vs1, mi1, ml1, (zmr g1))) rfl ?_
  refine Wp.topi (y := nI (i + 1)) (nI_add i 1) ?_
  refine Wp.iasc rfl (by omega) (by omega) ?_
  refine Wp.run 4 (1235, [(3, .int (nI i)), (2, .ref 66), (1, .ref 0), (0, .ref 500)], [.int ((nI i) + 2), .ref 500, .int (xs (i + 1)), .ref 66, .long x], (zsh ++ vs1, mi1, ml1, (zmr g1))) rfl ?_
  refine Wp.topi (y := nI (i + 2)) (nI_add i 2) ?_
  refine Wp.iasc rfl (by omega) (by omega) ?_
  refine Wp.run 0 (1236, [(3, .int (nI i)), (2, .ref 66), (1, .ref 0), (0, .ref 500)], [.int (xs (i + 2)), .int (xs (i + 1)), .ref 66, .long x], (zsh ++ vs1, mi1, ml1, (zmr g1))) rfl ?_
  refine Wp.call (as := [.ref 66, .int (xs (i + 1)), .int (xs (i + 2))]) (rest := [.long x]) rfl rfl rfl rfl rfl (Nat.le_of_ble_eq_true rfl) (Nat.le_of_ble_eq_true rfl) rfl (by decide) (hm) ?_
  rintro _ w2 ⟨rfl, hI2⟩
  refine Wp.run 1 (1240, [(3, .int (nI i)), (2, .ref 66), (1, .ref 0), (0, .ref 500)], [.int (lg_cmp x x)], (w2.1, w2.2.1, w2.2.2.1, w2.2.2.2)) rfl ?_
  refine Wp.if_eq rfl (fun h21 => ?_) (fun h21 => ?_)
  · refine Wp.run 2 (18, [(3, .int ((nI i) + 6)), (2, .ref 66), (1, .ref 0), (0, .ref 500)], [], (w2.1, w2.2.1, w2.2.2.1, w2.2.2.2)) rfl ?_
    obtain ⟨nv2, VD2, NL2, n2, dd2, vs2, mi2, ml2, g2, rfl, I2⟩ := hI2
    rw [show nI i + 6 = nI (i + 6) from nI_add i 6]
    refine Wp.sub (a := [(3, .int (nI (i + 6))), (2, .ref 66), (1, .ref 0), (0, .ref 500)]) (zle_cons rfl (zle_cons rfl (zle_cons rfl (zle_cons rfl (zle_nil))))) ?_
    exact ih (i + 6) _ rfl ⟨nv2, VD2, NL2, n2, dd2, vs2, mi2, ml2, g2, rfl, I2⟩
  · exact absurd ((lg_cmp_eq x x).mpr rfl) h21
set_option maxRecDepth 20000 in
theorem lw_shift {L : Nat} {xs : Nat → Int32} {i : Nat} (hL : L ≤ 3072) (hi : i + 6 ≤ L) (ih : ∀ (i' : Nat) (w : zW), i' = i + 6 → INVx w → Wp (L, xs) 40 pg_L_law 18 [(3, .int (nI i')), (2, .ref 66), (1, .ref 0), (0, .ref 500)] [] w (fun r w' => r = some (.int 1) ∧ INVx w')) {nv : Nat} {VD : Nat → zV} {NL : Nat → Nat} {n dd : Nat} {vs : List (Nat × Nat)} {mi : Nat → Nat → Int32} {ml : Nat → Nat → Int64} {g : Nat → Nat → Option Nat} (I : INV nv VD NL n dd vs mi ml g) : Wp (L, xs) 40 pg_L_law 1245 [(3, .int (nI i)), (2, .ref 66), (1, .ref 0), (0, .ref 500)] [] (zsh ++ vs, mi, ml, zmr g) (fun r w' => r = some (.int 1) ∧ INVx w') := by
  refine Wp.run 5 (1250, [(3, .int (nI i)), (2, .ref 66), (1, .ref 0), (0, .ref 500)], [.int ((nI i) + 1), .ref 500, .ref 0], (zsh ++ vs, mi, ml, (zmr g))) rfl ?_
  refine Wp.topi (y := nI (i + 1)) (nI_add i 1) ?_
  refine Wp.iasc rfl (by omega) (by omega) ?_
  refine Wp.run 4 (1255, [(3, .int (nI i)), (2, .ref 66), (1, .ref 0), (0, .ref 500)], [.int ((nI i) + 2), .ref 500, .int (xs (i + 1)), .ref 0], (zsh ++ vs, mi, ml, (zmr g))) rfl ?_
  refine Wp.topi (y := nI (i + 2)) (nI_add i 2) ?_
  refine Wp.iasc rfl (by omega) (by omega) ?_
  refine Wp.run 4 (1260, [(3, .int (nI i)), (2, .ref 66), (1, .ref 0), (0, .ref 500)], [.int ((nI i) + 3), .ref 500, .int (xs (i + 2)), .int (xs (i + 1)), .ref 0], (zsh ++ vs, mi, ml, (zmr g))) rfl ?_
  refine Wp.topi (y := nI (i + 3)) (nI_add i 3) ?_
  refine Wp.iasc rfl (by omega) (by omega) ?_
  refine Wp.run 4 (1265, [(3, .int (nI i)), (2, .ref 66), (1, .ref 0), (0, .ref 500)], [.int ((nI i) + 4), .ref 500, .int (xs (i + 3)), .int (xs (i + 2)), .int (xs (i + 1)), .ref 0], (zsh ++ vs, mi, ml, (zmr g))) rfl ?_
  refine Wp.topi (y := nI (i + 4)) (nI_add i 4) ?_
  refine Wp.iasc rfl (by omega) (by omega) ?_
  refine Wp.run 4 (1270, [(3, .int (nI i)), (2, .ref 66), (1, .ref 0), (0, .ref 500)], [.int ((nI i) + 5), .ref 500, .int (xs (i + 4)), .int (xs (i + 3)), .int (xs (i + 2)), .int (xs (i + 1)), .ref 0], (zsh ++ vs, mi, ml, (zmr g))) rfl ?_
  refine Wp.topi (y := nI (i + 5)) (nI_add i 5) ?_
  refine Wp.iasc rfl (by omega) (by omega) ?_
  refine Wp.run 0 (1271, [(3, .int (nI i)), (2, .ref 66), (1, .ref 0), (0, .ref 500)], [.int (xs (i + 5)), .int (xs (i + 4)), .int (xs (i + 3)), .int (xs (i + 2)), .int (xs (i + 1)), .ref 0], (zsh ++ vs, mi, ml, (zmr g))) rfl ?_
  refine Wp.call (as := [.ref 0, .int (xs (i + 1)), .int (xs (i + 2)), .int (xs (i + 3)), .int (xs (i + 4)), .int (xs (i + 5))]) (rest := []) rfl rfl rfl rfl rfl (Nat.le_of_ble_eq_true rfl) (Nat.le_of_ble_eq_true rfl) rfl (by decide) (sim_shift I (xs (i + 1)) (xs (i + 2)) (xs (i + 3)) (xs (i + 4)) (xs (i + 5))) ?_
  rintro _ _ ⟨⟨vs1, mi1, ml1, g1, rfl⟩, x, rfl, hm⟩
  refine Wp.run 5 (1279, [(3, .int (nI i)), (2, .ref 66), (1, .ref 0), (0, .ref 500)], [.int ((nI i) + 1), .ref 500, .ref 66, .int x], (zsh ++ vs1, mi1, ml1, (zmr g1))) rfl ?_
  refine Wp.topi (y := nI (i + 1)) (nI_add i 1) ?_
  refine Wp.iasc rfl (by omega) (by omega) ?_
  refine Wp.run 4 (1284, [(3, .int (nI i)), (2, .ref 66), (1, .ref 0), (0, .ref 500)], [.int ((nI i) + 2), .ref 500, .int (xs (i + 1)), .ref 66, .int x], (zsh ++ vs1, mi1, ml1, (zmr g1))) rfl ?_
  refine Wp.topi (y := nI (i + 2)) (nI_add i 2) ?_
  refine Wp.iasc rfl (by omega) (by omega) ?_
  refine Wp.run 4 (1289, [(3, .int (nI i)), (2, .ref 66), (1, .ref 0), (0, .ref 500)], [.int ((nI i) + 3), .ref 500, .int (xs (i + 2)), .int (xs (i + 1)), .ref 66, .int x], (zsh ++ vs1, mi1, ml1, (zmr g1))) rfl ?_
  refine Wp.topi (y := nI (i + 3)) (nI_add i 3) ?_
  refine Wp.iasc rfl (by omega) (by omega) ?_
  refine Wp.run 4 (1294, [(3, .int (nI i)), (2, .ref 66), (1, .ref 0), (0, .ref 500)], [.int ((nI i) + 4), .ref 500, .int (xs (i + 3)), .int (xs (i + 2)), .int (xs (i + 1)), .ref 66, .int x], (zsh ++ vs1, mi1, ml1, (zmr g1))) rfl ?_
  refine Wp.topi (y := nI (i + 4)) (nI_add i 4) ?_
  refine Wp.iasc rfl (by omega) (by omega) ?_
  refine Wp.run 4 (1299, [(3, .int (nI i)), (2, .ref 66), (1, .ref 0), (0, .ref 500)], [.int ((nI i) + 5), .ref 500, .int (xs (i + 4)), .int (xs (i + 3)), .int (xs (i + 2)), .int (xs (i + 1)), .ref 66, .int x], (zsh ++ vs1, mi1, ml1, (zmr g1))) rfl ?_
  refine Wp.topi (y := nI (i + 5)) (nI_add i 5) ?_
  refine Wp.iasc rfl (by omega) (by omega) ?_
  refine Wp.run 0 (1300, [(3, .int (nI i)), (2, .ref 66), (1, .ref 0), (0, .ref 500)], [.int (xs (i + 5)), .int (xs (i + 4)), .int (xs (i + 3)), .int (xs (i + 2)), .int (xs (i + 1)), .ref 66, .int x], (zsh ++ vs1, mi1, ml1, (zmr g1))) rfl ?_
  refine Wp.call (as := [.ref 66, .int (xs (i + 1)), .int (xs (i + 2)), .int (xs (i + 3)), .int (xs (i + 4)), .int (xs (i + 5))]) (rest := [.int x]) rfl rfl rfl rfl rfl (Nat.le_of_ble_eq_true rfl) (Nat.le_of_ble_eq_true rfl) rfl (by decide) (hm) ?_
  rintro _ w2 ⟨rfl, hI2⟩
  refine Wp.run 0 (1303, [(3, .int (nI i)), (2, .ref 66), (1, .ref 0), (0, .ref 500)], [.int x, .int x], (w2.1, w2.2.1, w2.2.2.1, w2.2.2.2)) rfl ?_
  refine Wp.icmp_eq rfl (fun h21 => ?_) (fun h21 => ?_)
  · refine Wp.run 2 (18, [(3, .int ((nI i) + 6)), (2, .ref 66), (1, .ref 0), (0, .ref 500)], [], (w2.1, w2.2.1, w2.2.2.1, w2.2.2.2)) rfl ?_
    obtain ⟨nv2, VD2, NL2, n2, dd2, vs2, mi2, ml2, g2, rfl, I2⟩ := hI2
    rw [show nI i + 6 = nI (i + 6) from nI_add i 6]
    refine Wp.sub (a := [(3, .int (nI (i + 6))), (2, .ref 66), (1, .ref 0), (0, .ref 500)]) (zle_cons rfl (zle_cons rfl (zle_cons rfl (zle_cons rfl (zle_nil))))) ?_
    exact ih (i + 6) _ rfl ⟨nv2, VD2, NL2, n2, dd2, vs2, mi2, ml2, g2, rfl, I2⟩
  · exact absurd rfl h21
set_option maxRecDepth 20000 in
theorem lw_default {L : Nat} {xs : Nat → Int32} {i : Nat} (hL : L ≤ 3072) (hi : i + 6 ≤ L) (ih : ∀ (i' : Nat) (w : zW), i' = i + 6 → INVx w → Wp (L, xs) 40 pg_L_law 18 [(3, .int (nI i')), (2, .ref 66), (1, .ref 0), (0, .ref 500)] [] w (fun r w' => r = some (.int 1) ∧ INVx w')) {nv : Nat} {VD : Nat → zV} {NL : Nat → Nat} {n dd : Nat} {vs : List (Nat × Nat)} {mi : Nat → Nat → Int32} {ml : Nat → Nat → Int64} {g : Nat → Nat → Option Nat} (I : INV nv VD NL n dd vs mi ml g) : Wp (L, xs) 40 pg_L_law 1308 [(3, .int (nI i)), (2, .ref 66), (1, .ref 0), (0, .ref 500)] [] (zsh ++ vs, mi, ml, zmr g) (fun r w' => r = some (.int 1) ∧ INVx w') := by
  refine Wp.run 2 (18, [(3, .int ((nI i) + 6)), (2, .ref 66), (1, .ref 0), (0, .ref 500)], [], (zsh ++ vs, mi, ml, (zmr g))) rfl ?_
  rw [show nI i + 6 = nI (i + 6) from nI_add i 6]
  refine Wp.sub (a := [(3, .int (nI (i + 6))), (2, .ref 66), (1, .ref 0), (0, .ref 500)]) (zle_cons rfl (zle_cons rfl (zle_cons rfl (zle_cons rfl (zle_nil))))) ?_
  exact ih (i + 6) _ rfl I.x
set_option maxRecDepth 20000 in
theorem lw_loop {L : Nat} {xs : Nat → Int32} (hL : L ≤ 3072) : ∀ (k i : Nat) (w : zW), L ≤ i + 6 * k → i ≤ 4000 → INVx w → Wp (L, xs) 40 pg_L_law 18 [(3, .int (nI i)), (2, .ref 66), (1, .ref 0), (0, .ref 500)] [] w (fun r w' => r = some (.int 1) ∧ INVx w') := by
  intro k
  induction k with
  | zero =>
    intro i w hk hi4 hw
    obtain ⟨nv, VD, NL, n, dd, vs, mi, ml, g, rfl, I⟩ := hw
    refine Wp.run 5 (24, [(3, .int (nI i)), (2, .ref 66), (1, .ref 0), (0, .ref 500)], [.int ((nI L) - 6), .int (nI i)], (zsh ++ vs, mi, ml, (zmr g))) rfl ?_
    refine Wp.icmp_gt rfl (fun h21 => ?_) (fun h21 => ?_)
    · refine Wp.run 1 (1315, [(3, .int (nI i)), (2, .ref 66), (1, .ref 0), (0, .ref 500)], [.int 1], (zsh ++ vs, mi, ml, (zmr g))) rfl ?_
      refine Wp.ret rfl rfl rfl ?_
      exact ⟨rfl, I.x⟩
    · exact absurd (Int32.lt_iff_toInt_lt.mpr (by rw [show (nI L - 6).toInt = (L : Int) - 6 from sub_toInt (b := 6) (by omega) (by decide), nI_toInt (by omega)]; omega)) h21
  | succ k ih =>
    intro i w hk hi4 hw
    obtain ⟨nv, VD, NL, n, dd, vs, mi, ml, g, rfl, I⟩ := hw
    by_cases hi : i + 6 ≤ L
    rotate_left
    · skip
      refine Wp.run 5 (24, [(3, .int (nI i)), (2, .ref 66), (1, .ref 0), (0, .ref 500)], [.int ((nI L) - 6), .int (nI i)], (zsh ++ vs, mi, ml, (zmr g))) rfl ?_
      refine Wp.icmp_gt rfl (fun h21 => ?_) (fun h21 => ?_)
      · refine Wp.run 1 (1315, [(3, .int (nI i)), (2, .ref 66), (1, .ref 0), (0, .ref 500)], [.int 1], (zsh ++ vs, mi, ml, (zmr g))) rfl ?_
        refine Wp.ret rfl rfl rfl ?_
        exact ⟨rfl, I.x⟩
      · exact absurd (Int32.lt_iff_toInt_lt.mpr (by rw [show (nI L - 6).toInt = (L : Int) - 6 from sub_toInt (b := 6) (by omega) (by decide), nI_toInt (by omega)]; omega)) h21
    refine Wp.run 5 (24, [(3, .int (nI i)), (2, .ref 66), (1, .ref 0), (0, .ref 500)], [.int ((nI L) - 6), .int (nI i)], (zsh ++ vs, mi, ml, (zmr g))) rfl ?_
    refine Wp.icmp_gt rfl (fun h21 => ?_) (fun h21 => ?_)
    · exact absurd (Int32.lt_iff_toInt_lt.mp h21) (by rw [show (nI L - 6).toInt = (L : Int) - 6 from sub_toInt (b := 6) (by omega) (by decide), nI_toInt (by omega)]; omega)
    · refine Wp.run 2 (29, [(3, .int (nI i)), (2, .ref 66), (1, .ref 0), (0, .ref 500)], [.int (nI i), .ref 500], (zsh ++ vs, mi, ml, (zmr g))) rfl ?_
      refine Wp.iasc rfl (by omega) (by omega) ?_
      refine Wp.run 2 (33, [(3, .int (nI i)), (2, .ref 66), (1, .ref 0), (0, .ref 500)], [.int ((xs i) &&& 63)], (zsh ++ vs, mi, ml, (zmr g))) rfl ?_
      obtain ⟨q, hq, eq⟩ := pk_andE (xs i) (m := 63) 6 (by decide)
      refine Wp.topi eq ?_
      have ih2 : ∀ (i' : Nat) (w : zW), i' = i + 6 → INVx w → Wp (L, xs) 40 pg_L_law 18 [(3, .int (nI i')), (2, .ref 66), (1, .ref 0), (0, .ref 500)] [] w (fun r w' => r = some (.int 1) ∧ INVx w') := fun i' w e hw => ih i' w (by omega) (by omega) hw
      by_cases h32 : q ≤ 32
      rotate_left
      · refine Wp.tsw rfl (zsw_out (Or.inr (by rw [nI_toInt (by omega)]; omega))) rfl ?_
        exact lw_default hL hi ih2 I
      rcases (show q = 0 ∨ q = 1 ∨ q = 2 ∨ q = 3 ∨ q = 4 ∨ q = 5 ∨ q = 6 ∨ q = 7 ∨ q = 8 ∨ q = 9 ∨ q = 10 ∨ q = 11 ∨ q = 12 ∨ q = 13 ∨ q = 14 ∨ q = 15 ∨ q = 16 ∨ q = 17 ∨ q = 18 ∨ q = 19 ∨ q = 20 ∨ q = 21 ∨ q = 22 ∨ q = 23 ∨ q = 24 ∨ q = 25 ∨ q = 26 ∨ q = 27 ∨ q = 28 ∨ q = 29 ∨ q = 30 ∨ q = 31 ∨ q = 32 by omega) with rfl | rfl | rfl | rfl | rfl | rfl | rfl | rfl | rfl | rfl | rfl | rfl | rfl | rfl | rfl | rfl | rfl | rfl | rfl | rfl | rfl | rfl | rfl | rfl | rfl | rfl | rfl | rfl | rfl | rfl | rfl | rfl | rfl
      · refine Wp.tsw (off := 147) rfl rfl rfl ?_
        exact lw_singer hL hi ih2 I
      · refine Wp.tsw (off := 200) rfl rfl rfl ?_
        exact lw_of hL hi ih2 I
      · refine Wp.tsw (off := 233) rfl rfl rfl ?_
        exact lw_part hL hi ih2 I
      · refine Wp.tsw (off := 266) rfl rfl rfl ?_
        exact lw_set hL hi ih2 I
      · refine Wp.tsw (off := 309) rfl rfl rfl ?_
        exact lw_away hL hi ih2 I
      · refine Wp.tsw (off := 358) rfl rfl rfl ?_
        exact lw_sacks hL hi ih2 I
      · refine Wp.tsw (off := 391) rfl rfl rfl ?_
        exact lw_teach hL hi ih2 I
      · refine Wp.tsw (off := 434) rfl rfl rfl ?_
        exact lw_row hL hi ih2 I
      · refine Wp.tsw (off := 477) rfl rfl rfl ?_
        exact lw_feed hL hi ih2 I
      · refine Wp.tsw (off := 500) rfl rfl rfl ?_
        exact lw_village hL hi ih2 I
      · refine Wp.tsw (off := 513) rfl rfl rfl ?_
        exact lw_told hL hi ih2 I
      · refine Wp.tsw (off := 536) rfl rfl rfl ?_
        exact lw_pass hL hi ih2 I
      · refine Wp.tsw (off := 559) rfl rfl rfl ?_
        exact lw_on hL hi ih2 I
      · refine Wp.tsw (off := 592) rfl rfl rfl ?_
        exact lw_choir hL hi ih2 I
      · refine Wp.tsw (off := 625) rfl rfl rfl ?_
        exact lw_see hL hi ih2 I
      · refine Wp.tsw (off := 668) rfl rfl rfl ?_
        exact lw_can hL hi ih2 I
      · refine Wp.tsw (off := 701) rfl rfl rfl ?_
        exact lw_odds hL hi ih2 I
      · refine Wp.tsw (off := 745) rfl rfl rfl ?_
        exact lw_mean hL hi ih2 I
      · refine Wp.tsw (off := 779) rfl rfl rfl ?_
        exact lw_plan hL hi ih2 I
      · refine Wp.tsw (off := 812) rfl rfl rfl ?_
        exact lw_ends hL hi ih2 I
      · refine Wp.tsw (off := 835) rfl rfl rfl ?_
        exact lw_book hL hi ih2 I
      · refine Wp.tsw (off := 868) rfl rfl rfl ?_
        exact lw_looked hL hi ih2 I
      · refine Wp.tsw (off := 881) rfl rfl rfl ?_
        exact lw_judge hL hi ih2 I
      · refine Wp.tsw (off := 914) rfl rfl rfl ?_
        exact lw_image hL hi ih2 I
      · refine Wp.tsw (off := 927) rfl rfl rfl ?_
        exact lw_undo hL hi ih2 I
      · refine Wp.tsw (off := 940) rfl rfl rfl ?_
        exact lw_act hL hi ih2 I
      · refine Wp.tsw (off := 983) rfl rfl rfl ?_
        exact lw_trace hL hi ih2 I
      · refine Wp.tsw (off := 1006) rfl rfl rfl ?_
        exact lw_taken hL hi ih2 I
      · refine Wp.tsw (off := 1039) rfl rfl rfl ?_
        exact lw_count hL hi ih2 I
      · refine Wp.tsw (off := 1062) rfl rfl rfl ?_
        exact lw_tape hL hi ih2 I
      · refine Wp.tsw (off := 1105) rfl rfl rfl ?_
        exact lw_item hL hi ih2 I
      · refine Wp.tsw (off := 1178) rfl rfl rfl ?_
        exact lw_read hL hi ih2 I
      · refine Wp.tsw (off := 1212) rfl rfl rfl ?_
        exact lw_shift hL hi ih2 I
