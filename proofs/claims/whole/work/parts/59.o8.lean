/-! THE CALLS: item, read, judge -/
theorem c_cut_0 {E : zEn} {vs : List (Nat × Nat)} {mi : Nat → Nat → Int32} {ml : Nat → Nat → Int64} {g : Nat → Nat → Option Nat} {t : Nat} {v : Int64} (ht : t < 6) (hs : mi (54 + 2 * t) 0 = nI 0) : Wp E 0 pg_Tape_cut 0 (lv_args 0 [.ref (54 + 2 * t), .long v]) [] (zsh ++ vs, mi, ml, zmr g) (fun r w' => r = some (.long ((v.toInt32.toInt8.toInt32).toInt64)) ∧ w' = (zsh ++ vs, mi, ml, zmr g)) := by
  refine Wp.run 1 (1, [(0, .ref (54 + 2 * t)), (1, .long v)], [.ref (54 + 2 * t)], (zsh ++ vs, mi, ml, (zmr g))) rfl ?_
  refine Wp.gint rfl (by decide) (tp_ob ht) rfl (by decide) ?_
  refine Wp.topi (y := 0) (hs) ?_
  refine Wp.run 5 (40, [(0, .ref (54 + 2 * t)), (1, .long v)], [.long ((((v : Int64).toInt32 : Int32).toInt8.toInt32 : Int32).toInt64)], (zsh ++ vs, mi, ml, (zmr g))) rfl ?_
  refine Wp.ret rfl rfl rfl ?_
  exact ⟨rfl, rfl⟩
theorem c_cut_1 {E : zEn} {vs : List (Nat × Nat)} {mi : Nat → Nat → Int32} {ml : Nat → Nat → Int64} {g : Nat → Nat → Option Nat} {t : Nat} {v : Int64} (ht : t < 6) (hs : mi (54 + 2 * t) 0 = nI 1) : Wp E 0 pg_Tape_cut 0 (lv_args 0 [.ref (54 + 2 * t), .long v]) [] (zsh ++ vs, mi, ml, zmr g) (fun r w' => r = some (.long ((v.toInt32.toInt16.toInt32).toInt64)) ∧ w' = (zsh ++ vs, mi, ml, zmr g)) := by
  refine Wp.run 1 (1, [(0, .ref (54 + 2 * t)), (1, .long v)], [.ref (54 + 2 * t)], (zsh ++ vs, mi, ml, (zmr g))) rfl ?_
  refine Wp.gint rfl (by decide) (tp_ob ht) rfl (by decide) ?_
  refine Wp.topi (y := 1) (hs) ?_
  refine Wp.run 5 (45, [(0, .ref (54 + 2 * t)), (1, .long v)], [.long ((((v : Int64).toInt32 : Int32).toInt16.toInt32 : Int32).toInt64)], (zsh ++ vs, mi, ml, (zmr g))) rfl ?_
  refine Wp.ret rfl rfl rfl ?_
  exact ⟨rfl, rfl⟩
theorem c_cut_2 {E : zEn} {vs : List (Nat × Nat)} {mi : Nat → Nat → Int32} {ml : Nat → Nat → Int64} {g : Nat → Nat → Option Nat} {t : Nat} {v : Int64} (ht : t < 6) (hs : mi (54 + 2 * t) 0 = nI 2) : Wp E 0 pg_Tape_cut 0 (lv_args 0 [.ref (54 + 2 * t), .long v]) [] (zsh ++ vs, mi, ml, zmr g) (fun r w' => r = some (.long (v.toInt32.toInt64)) ∧ w' = (zsh ++ vs, mi, ml, zmr g)) := by
  refine Wp.run 1 (1, [(0, .ref (54 + 2 * t)), (1, .long v)], [.ref (54 + 2 * t)], (zsh ++ vs, mi, ml, (zmr g))) rfl ?_
  refine Wp.gint rfl (by decide) (tp_ob ht) rfl (by decide) ?_
  refine Wp.topi (y := 2) (hs) ?_
  refine Wp.run 4 (49, [(0, .ref (54 + 2 * t)), (1, .long v)], [.long (((v : Int64).toInt32 : Int32).toInt64)], (zsh ++ vs, mi, ml, (zmr g))) rfl ?_
  refine Wp.ret rfl rfl rfl ?_
  exact ⟨rfl, rfl⟩
theorem c_cut_3 {E : zEn} {vs : List (Nat × Nat)} {mi : Nat → Nat → Int32} {ml : Nat → Nat → Int64} {g : Nat → Nat → Option Nat} {t : Nat} {v : Int64} (ht : t < 6) (hs : mi (54 + 2 * t) 0 = nI 3) : Wp E 0 pg_Tape_cut 0 (lv_args 0 [.ref (54 + 2 * t), .long v]) [] (zsh ++ vs, mi, ml, zmr g) (fun r w' => r = some (.long (v)) ∧ w' = (zsh ++ vs, mi, ml, zmr g)) := by
  refine Wp.run 1 (1, [(0, .ref (54 + 2 * t)), (1, .long v)], [.ref (54 + 2 * t)], (zsh ++ vs, mi, ml, (zmr g))) rfl ?_
  refine Wp.gint rfl (by decide) (tp_ob ht) rfl (by decide) ?_
  refine Wp.topi (y := 3) (hs) ?_
  refine Wp.run 2 (51, [(0, .ref (54 + 2 * t)), (1, .long v)], [.long v], (zsh ++ vs, mi, ml, (zmr g))) rfl ?_
  refine Wp.ret rfl rfl rfl ?_
  exact ⟨rfl, rfl⟩
theorem c_cut_4a {E : zEn} {vs : List (Nat × Nat)} {mi : Nat → Nat → Int32} {ml : Nat → Nat → Int64} {g : Nat → Nat → Option Nat} {t : Nat} {v : Int64} (ht : t < 6) (hs : mi (54 + 2 * t) 0 = nI 4) (hv : lg_cmp v 0 = 0) : Wp E 0 pg_Tape_cut 0 (lv_args 0 [.ref (54 + 2 * t), .long v]) [] (zsh ++ vs, mi, ml, zmr g) (fun r w' => r = some (.long (0)) ∧ w' = (zsh ++ vs, mi, ml, zmr g)) := by
  refine Wp.run 1 (1, [(0, .ref (54 + 2 * t)), (1, .long v)], [.ref (54 + 2 * t)], (zsh ++ vs, mi, ml, (zmr g))) rfl ?_
  refine Wp.gint rfl (by decide) (tp_ob ht) rfl (by decide) ?_
  refine Wp.topi (y := 4) (hs) ?_
  refine Wp.run 4 (55, [(0, .ref (54 + 2 * t)), (1, .long v)], [.int (lg_cmp v 0)], (zsh ++ vs, mi, ml, (zmr g))) rfl ?_
  refine Wp.if_ne rfl (fun h1 => ?_) (fun h1 => ?_)
  · exact absurd hv h1
  · refine Wp.run 2 (63, [(0, .ref (54 + 2 * t)), (1, .long v)], [.long 0], (zsh ++ vs, mi, ml, (zmr g))) rfl ?_
    refine Wp.ret rfl rfl rfl ?_
    exact ⟨rfl, rfl⟩
theorem c_cut_4b {E : zEn} {vs : List (Nat × Nat)} {mi : Nat → Nat → Int32} {ml : Nat → Nat → Int64} {g : Nat → Nat → Option Nat} {t : Nat} {v : Int64} (ht : t < 6) (hs : mi (54 + 2 * t) 0 = nI 4) (hv : ¬ lg_cmp v 0 = 0) : Wp E 0 pg_Tape_cut 0 (lv_args 0 [.ref (54 + 2 * t), .long v]) [] (zsh ++ vs, mi, ml, zmr g) (fun r w' => r = some (.long (1)) ∧ w' = (zsh ++ vs, mi, ml, zmr g)) := by
  refine Wp.run 1 (1, [(0, .ref (54 + 2 * t)), (1, .long v)], [.ref (54 + 2 * t)], (zsh ++ vs, mi, ml, (zmr g))) rfl ?_
  refine Wp.gint rfl (by decide) (tp_ob ht) rfl (by decide) ?_
  refine Wp.topi (y := 4) (hs) ?_
  refine Wp.run 4 (55, [(0, .ref (54 + 2 * t)), (1, .long v)], [.int (lg_cmp v 0)], (zsh ++ vs, mi, ml, (zmr g))) rfl ?_
  refine Wp.if_ne rfl (fun h1 => ?_) (fun h1 => ?_)
  · refine Wp.run 1 (63, [(0, .ref (54 + 2 * t)), (1, .long v)], [.long 1], (zsh ++ vs, mi, ml, (zmr g))) rfl ?_
    refine Wp.ret rfl rfl rfl ?_
    exact ⟨rfl, rfl⟩
  · exact absurd h1 hv
theorem sim_item {E : zEn} {nv : Nat} {VD : Nat → zV} {NL : Nat → Nat} {n dd : Nat} {vs : List (Nat × Nat)} {mi : Nat → Nat → Int32} {ml : Nat → Nat → Int64} {g : Nat → Nat → Option Nat} (I : INV nv VD NL n dd vs mi ml g) (x y : Int32) (v : Int64) : SIM E vs mi ml g pg_H_item pg_M_item [.int x, .int y, .long v] := by
  have B := I.1.1
  have h6 := B.1.2.1
  have hn := B.2.1
  have hN := B.1.1
  have hd := B.1.2.2.1
  have hdd := I.1.2
  by_cases hx : 0 ≤ x ∧ x ≤ 5
  rotate_left
  · refine SIM.q I (x := -1) (dc := 7) (dm := 27) (by decide) (by decide) ?_ ?_
    · refine Wp.run 2 (2, [(0, .ref 0), (1, .int x), (2, .int y), (3, .long v)], [.int 5, .int x], (zsh ++ vs, mi, ml, (zmr g))) rfl ?_
      refine Wp.call (as := [.int x, .int 5]) (rest := []) rfl rfl rfl rfl rfl (Nat.le_of_ble_eq_true rfl) (Nat.le_of_ble_eq_true rfl) rfl (by decide) (c_within_f hx) ?_
      rintro _ _ ⟨rfl, rfl⟩
      refine Wp.run 2 (9, [(0, .ref 0), (1, .int x), (2, .int y), (3, .long v)], [.int (-1)], (zsh ++ vs, mi, ml, (zmr g))) rfl ?_
      refine Wp.ret rfl rfl rfl ?_
      exact ⟨rfl, _, _, rfl, SC.rf, fun _ _ _ => rfl⟩
    · intro m g' I' e67 S
      have B' := I'.1.1
      have hn' := B'.2.1
      have hN' := B'.1.1
      have hd' := B'.1.2.2.1
      refine Wp.run 1 (1, [(0, .ref 66), (1, .int x), (2, .int y), (3, .long v)], [.int x], (zsh ++ vs, m, ml, (zmr g'))) rfl ?_
      refine Wp.call (as := [.int x]) (rest := []) rfl rfl rfl rfl rfl (Nat.le_of_ble_eq_true rfl) (Nat.le_of_ble_eq_true rfl) rfl (by decide) (m_isTape_f hx) ?_
      rintro _ _ ⟨rfl, rfl⟩
      refine Wp.run 2 (8, [(0, .ref 66), (1, .int x), (2, .int y), (3, .long v)], [.int (-1)], (zsh ++ vs, m, ml, (zmr g'))) rfl ?_
      refine Wp.ret rfl rfl rfl ?_
      exact ⟨rfl, _, rfl, SC.rf⟩
  obtain ⟨t, ht5, rfl⟩ := rng_of (h := 5) rfl hx
  have ht : t < 6 := by omega
  obtain ⟨l, hl, e1, e2, e3, e4, e5⟩ := I.2.2.2.2.2.2.1 t ht
  have m82 : ∀ {m : Nat → Nat → Int32}, SC mi m → m 82 t = mi 82 t := fun S => congrFun (S.c (b := 82) (by decide)) t
  have m83 : ∀ {m : Nat → Nat → Int32}, SC mi m → m 83 t = nI l := fun S => (congrFun (S.c (b := 83) (by decide)) t).trans e2
  rcases e4 with ⟨e4, l0⟩ | ⟨s, hs, e4⟩
  · refine SIM.q I (x := -11) (dc := 7) (dm := 27) (by decide) (by decide) ?_ ?_
    · refine Wp.run 2 (2, [(0, .ref 0), (1, .int (nI t)), (2, .int y), (3, .long v)], [.int 5, .int (nI t)], (zsh ++ vs, mi, ml, (zmr g))) rfl ?_
      refine Wp.call (as := [.int (nI t), .int 5]) (rest := []) rfl rfl rfl rfl rfl (Nat.le_of_ble_eq_true rfl) (Nat.le_of_ble_eq_true rfl) rfl (by decide) (c_within_t hx) ?_
      rintro _ _ ⟨rfl, rfl⟩
      refine Wp.run 4 (15, [(0, .ref 0), (1, .int (nI t)), (2, .int y), (3, .long v)], [.int (nI t), .ref 53], (zsh ++ vs, mi, ml, (zmr g))) rfl ?_
      refine Wp.aald (v := 54 + 2 * t) rfl (by decide) rfl (vp_nI (by omega) (by decide)) (by show zmr g 53 (nI t).toNatClampNeg = _; rw [nI_clamp (by omega)]; exact tp_ref ht) (by show _ < 500; omega) ?_
      refine Wp.run 2 (20, [(5, .ref (54 + 2 * t)), (0, .ref 0), (1, .int (nI t)), (2, .int y), (3, .long v)], [.ref (54 + 2 * t)], (zsh ++ vs, mi, ml, (zmr g))) rfl ?_
      refine Wp.gint rfl (by decide) (tp_ob ht) rfl (by decide) ?_
      refine Wp.topi (y := -1) (e3.trans e4) ?_
      refine Wp.run 3 (29, [(5, .ref (54 + 2 * t)), (0, .ref 0), (1, .int (nI t)), (2, .int y), (3, .long v)], [.int (-11)], (zsh ++ vs, mi, ml, (zmr g))) rfl ?_
      refine Wp.ret rfl rfl rfl ?_
      exact ⟨rfl, _, _, rfl, SC.rf, fun _ _ _ => rfl⟩
    · intro m g' I' e67 S
      have B' := I'.1.1
      have hn' := B'.2.1
      have hN' := B'.1.1
      have hd' := B'.1.2.2.1
      refine Wp.run 1 (1, [(0, .ref 66), (1, .int (nI t)), (2, .int y), (3, .long v)], [.int (nI t)], (zsh ++ vs, m, ml, (zmr g'))) rfl ?_
      refine Wp.call (as := [.int (nI t)]) (rest := []) rfl rfl rfl rfl rfl (Nat.le_of_ble_eq_true rfl) (Nat.le_of_ble_eq_true rfl) rfl (by decide) (m_isTape_t hx) ?_
      rintro _ _ ⟨rfl, rfl⟩
      refine Wp.run 4 (14, [(0, .ref 66), (1, .int (nI t)), (2, .int y), (3, .long v)], [.int (nI t), .ref 82], (zsh ++ vs, m, ml, (zmr g'))) rfl ?_
      refine Wp.ialn rfl (by decide) rfl (by omega) (by decide) ?_
      refine Wp.topi (y := -1) ((m82 S).trans e4) ?_
      refine Wp.run 2 (20, [(0, .ref 66), (1, .int (nI t)), (2, .int y), (3, .long v)], [.int (-11)], (zsh ++ vs, m, ml, (zmr g'))) rfl ?_
      refine Wp.ret rfl rfl rfl ?_
      exact ⟨rfl, _, rfl, SC.rf⟩
  by_cases hy : one l y
  rotate_left
  · refine SIM.q I (x := -13) (dc := 7) (dm := 27) (by decide) (by decide) ?_ ?_
    · refine Wp.run 2 (2, [(0, .ref 0), (1, .int (nI t)), (2, .int y), (3, .long v)], [.int 5, .int (nI t)], (zsh ++ vs, mi, ml, (zmr g))) rfl ?_
      refine Wp.call (as := [.int (nI t), .int 5]) (rest := []) rfl rfl rfl rfl rfl (Nat.le_of_ble_eq_true rfl) (Nat.le_of_ble_eq_true rfl) rfl (by decide) (c_within_t hx) ?_
      rintro _ _ ⟨rfl, rfl⟩
      refine Wp.run 4 (15, [(0, .ref 0), (1, .int (nI t)), (2, .int y), (3, .long v)], [.int (nI t), .ref 53], (zsh ++ vs, mi, ml, (zmr g))) rfl ?_
      refine Wp.aald (v := 54 + 2 * t) rfl (by decide) rfl (vp_nI (by omega) (by decide)) (by show zmr g 53 (nI t).toNatClampNeg = _; rw [nI_clamp (by omega)]; exact tp_ref ht) (by show _ < 500; omega) ?_
      refine Wp.run 2 (20, [(5, .ref (54 + 2 * t)), (0, .ref 0), (1, .int (nI t)), (2, .int y), (3, .long v)], [.ref (54 + 2 * t)], (zsh ++ vs, mi, ml, (zmr g))) rfl ?_
      refine Wp.gint rfl (by decide) (tp_ob ht) rfl (by decide) ?_
      refine Wp.topi (y := nI s) (e3.trans e4) ?_
      refine Wp.run 1 (24, [(5, .ref (54 + 2 * t)), (0, .ref 0), (1, .int (nI t)), (2, .int y), (3, .long v)], [.int (-1), .int (nI s)], (zsh ++ vs, mi, ml, (zmr g))) rfl ?_
      refine Wp.icmp_ne rfl (fun h1 => ?_) (fun h1 => ?_)
      · refine Wp.run 2 (33, [(5, .ref (54 + 2 * t)), (0, .ref 0), (1, .int (nI t)), (2, .int y), (3, .long v)], [.ref (54 + 2 * t), .int y], (zsh ++ vs, mi, ml, (zmr g))) rfl ?_
        refine Wp.gint rfl (by decide) (tp_ob ht) rfl (by decide) ?_
        refine Wp.topi (y := nI l) (e1) ?_
        refine Wp.run 2 (38, [(5, .ref (54 + 2 * t)), (0, .ref 0), (1, .int (nI t)), (2, .int y), (3, .long v)], [.int ((nI l) - 1), .int y], (zsh ++ vs, mi, ml, (zmr g))) rfl ?_
        refine Wp.call (as := [.int y, .int ((nI l) - 1)]) (rest := []) rfl rfl rfl rfl rfl (Nat.le_of_ble_eq_true rfl) (Nat.le_of_ble_eq_true rfl) rfl (by decide) (c_within_f (fun z => hy ((one_leG (by omega)).mp z))) ?_
        rintro _ _ ⟨rfl, rfl⟩
        refine Wp.run 2 (46, [(5, .ref (54 + 2 * t)), (0, .ref 0), (1, .int (nI t)), (2, .int y), (3, .long v)], [.int (-13)], (zsh ++ vs, mi, ml, (zmr g))) rfl ?_
        refine Wp.ret rfl rfl rfl ?_
        exact ⟨rfl, _, _, rfl, SC.rf, fun _ _ _ => rfl⟩
      · exact absurd h1 (ne_m1 (by omega))
    · intro m g' I' e67 S
      have B' := I'.1.1
      have hn' := B'.2.1
      have hN' := B'.1.1
      have hd' := B'.1.2.2.1
      refine Wp.run 1 (1, [(0, .ref 66), (1, .int (nI t)), (2, .int y), (3, .long v)], [.int (nI t)], (zsh ++ vs, m, ml, (zmr g'))) rfl ?_
      refine Wp.call (as := [.int (nI t)]) (rest := []) rfl rfl rfl rfl rfl (Nat.le_of_ble_eq_true rfl) (Nat.le_of_ble_eq_true rfl) rfl (by decide) (m_isTape_t hx) ?_
      rintro _ _ ⟨rfl, rfl⟩
      refine Wp.run 4 (14, [(0, .ref 66), (1, .int (nI t)), (2, .int y), (3, .long v)], [.int (nI t), .ref 82], (zsh ++ vs, m, ml, (zmr g'))) rfl ?_
      refine Wp.ialn rfl (by decide) rfl (by omega) (by decide) ?_
      refine Wp.topi (y := nI s) ((m82 S).trans e4) ?_
      refine Wp.run 0 (15, [(0, .ref 66), (1, .int (nI t)), (2, .int y), (3, .long v)], [.int (nI s)], (zsh ++ vs, m, ml, (zmr g'))) rfl ?_
      refine Wp.if_ge rfl (fun h51 => ?_) (fun h51 => ?_)
      · refine Wp.run 5 (28, [(0, .ref 66), (1, .int (nI t)), (2, .int y), (3, .long v)], [.int (nI t), .ref 83, .int 0, .int y], (zsh ++ vs, m, ml, (zmr g'))) rfl ?_
        refine Wp.ialn rfl (by decide) rfl (by omega) (by decide) ?_
        refine Wp.topi (y := nI l) (m83 S) ?_
        refine Wp.run 2 (31, [(0, .ref 66), (1, .int (nI t)), (2, .int y), (3, .long v)], [.int ((nI l) - 1), .int 0, .int y], (zsh ++ vs, m, ml, (zmr g'))) rfl ?_
        refine Wp.call (as := [.int y, .int 0, .int ((nI l) - 1)]) (rest := []) rfl rfl rfl rfl rfl (Nat.le_of_ble_eq_true rfl) (Nat.le_of_ble_eq_true rfl) rfl (by decide) (m_isIn_f (fun z => hy ((one_leG (by omega)).mp z))) ?_
        rintro _ _ ⟨rfl, rfl⟩
        refine Wp.run 2 (39, [(0, .ref 66), (1, .int (nI t)), (2, .int y), (3, .long v)], [.int (-13)], (zsh ++ vs, m, ml, (zmr g'))) rfl ?_
        refine Wp.ret rfl rfl rfl ?_
        exact ⟨rfl, _, rfl, SC.rf⟩
      · exact absurd (nI_pos' (by omega)) h51
  have hy9 := hy
  obtain ⟨i, hi, rfl⟩ := hy
  rcases (show s = 0 ∨ s = 1 ∨ s = 2 ∨ s = 3 ∨ s = 4 by omega) with rfl | rfl | rfl | rfl | rfl
  · refine SIM.u (x := 1) (m1 := mi) (l1 := (zup ml (55 + 2 * t) i ((v.toInt32.toInt8.toInt32).toInt64))) (m2 := mi) (l2 := (zup (zup ml (55 + 2 * t) i ((v.toInt32.toInt8.toInt32).toInt64)) 84 (60 * t + i) ((((v : Int64).toInt32 : Int32).toInt8.toInt32 : Int32).toInt64))) (dc := 7) (dm := 27) (by decide) (by decide) ?_ ?_ ?_
    · refine Wp.run 2 (2, [(0, .ref 0), (1, .int (nI t)), (2, .int (nI i)), (3, .long v)], [.int 5, .int (nI t)], (zsh ++ vs, mi, ml, (zmr g))) rfl ?_
      refine Wp.call (as := [.int (nI t), .int 5]) (rest := []) rfl rfl rfl rfl rfl (Nat.le_of_ble_eq_true rfl) (Nat.le_of_ble_eq_true rfl) rfl (by decide) (c_within_t hx) ?_
      rintro _ _ ⟨rfl, rfl⟩
      refine Wp.run 4 (15, [(0, .ref 0), (1, .int (nI t)), (2, .int (nI i)), (3, .long v)], [.int (nI t), .ref 53], (zsh ++ vs, mi, ml, (zmr g))) rfl ?_
      refine Wp.aald (v := 54 + 2 * t) rfl (by decide) rfl (vp_nI (by omega) (by decide)) (by show zmr g 53 (nI t).toNatClampNeg = _; rw [nI_clamp (by omega)]; exact tp_ref ht) (by show _ < 500; omega) ?_
      refine Wp.run 2 (20, [(5, .ref (54 + 2 * t)), (0, .ref 0), (1, .int (nI t)), (2, .int (nI i)), (3, .long v)], [.ref (54 + 2 * t)], (zsh ++ vs, mi, ml, (zmr g))) rfl ?_
      refine Wp.gint rfl (by decide) (tp_ob ht) rfl (by decide) ?_
      refine Wp.topi (y := 0) (e3.trans e4) ?_
      refine Wp.run 4 (33, [(5, .ref (54 + 2 * t)), (0, .ref 0), (1, .int (nI t)), (2, .int (nI i)), (3, .long v)], [.ref (54 + 2 * t), .int (nI i)], (zsh ++ vs, mi, ml, (zmr g))) rfl ?_
      refine Wp.gint rfl (by decide) (tp_ob ht) rfl (by decide) ?_
      refine Wp.topi (y := nI l) (e1) ?_
      refine Wp.run 2 (38, [(5, .ref (54 + 2 * t)), (0, .ref 0), (1, .int (nI t)), (2, .int (nI i)), (3, .long v)], [.int ((nI l) - 1), .int (nI i)], (zsh ++ vs, mi, ml, (zmr g))) rfl ?_
      refine Wp.call (as := [.int (nI i), .int ((nI l) - 1)]) (rest := []) rfl rfl rfl rfl rfl (Nat.le_of_ble_eq_true rfl) (Nat.le_of_ble_eq_true rfl) rfl (by decide) (c_within_t ((one_leG (by omega)).mpr hy9)) ?_
      rintro _ _ ⟨rfl, rfl⟩
      refine Wp.run 2 (49, [(5, .ref (54 + 2 * t)), (0, .ref 0), (1, .int (nI t)), (2, .int (nI i)), (3, .long v)], [.ref (54 + 2 * t)], (zsh ++ vs, mi, ml, (zmr g))) rfl ?_
      refine Wp.gref rfl (tp_g2 ht) rfl (tp_it ht) ?_
      refine Wp.run 3 (56, [(5, .ref (54 + 2 * t)), (0, .ref 0), (1, .int (nI t)), (2, .int (nI i)), (3, .long v)], [.long v, .ref (54 + 2 * t), .int (nI i), .ref (55 + 2 * t)], (zsh ++ vs, mi, ml, (zmr g))) rfl ?_
      refine Wp.call (as := [.ref (54 + 2 * t), .long v]) (rest := [.int (nI i), .ref (55 + 2 * t)]) rfl rfl rfl rfl rfl (Nat.le_of_ble_eq_true rfl) (Nat.le_of_ble_eq_true rfl) (tp_rc ht) (by decide) (c_cut_0 ht (e3.trans e4)) ?_
      rintro _ _ ⟨rfl, rfl⟩
      refine Wp.lasn rfl (by show _ < 500; omega) (tp_sh ht) (by omega) (by decide) ?_
      refine Wp.run 1 (61, [(5, .ref (54 + 2 * t)), (0, .ref 0), (1, .int (nI t)), (2, .int (nI i)), (3, .long v)], [.int 1], (zsh ++ vs, mi, (zup ml (55 + 2 * t) i ((v.toInt32.toInt8.toInt32).toInt64)), (zmr g))) rfl ?_
      refine Wp.ret rfl rfl rfl ?_
      exact ⟨rfl, rfl⟩
    · refine Wp.run 1 (1, [(0, .ref 66), (1, .int (nI t)), (2, .int (nI i)), (3, .long v)], [.int (nI t)], (zsh ++ vs, mi, (zup ml (55 + 2 * t) i ((v.toInt32.toInt8.toInt32).toInt64)), (zmr g))) rfl ?_
      refine Wp.call (as := [.int (nI t)]) (rest := []) rfl rfl rfl rfl rfl (Nat.le_of_ble_eq_true rfl) (Nat.le_of_ble_eq_true rfl) rfl (by decide) (m_isTape_t hx) ?_
      rintro _ _ ⟨rfl, rfl⟩
      refine Wp.run 4 (14, [(0, .ref 66), (1, .int (nI t)), (2, .int (nI i)), (3, .long v)], [.int (nI t), .ref 82], (zsh ++ vs, mi, (zup ml (55 + 2 * t) i ((v.toInt32.toInt8.toInt32).toInt64)), (zmr g))) rfl ?_
      refine Wp.ialn rfl (by decide) rfl (by omega) (by decide) ?_
      refine Wp.topi (y := 0) (e4) ?_
      refine Wp.run 6 (28, [(0, .ref 66), (1, .int (nI t)), (2, .int (nI i)), (3, .long v)], [.int (nI t), .ref 83, .int 0, .int (nI i)], (zsh ++ vs, mi, (zup ml (55 + 2 * t) i ((v.toInt32.toInt8.toInt32).toInt64)), (zmr g))) rfl ?_
      refine Wp.ialn rfl (by decide) rfl (by omega) (by decide) ?_
      refine Wp.topi (y := nI l) (e2) ?_
      refine Wp.run 2 (31, [(0, .ref 66), (1, .int (nI t)), (2, .int (nI i)), (3, .long v)], [.int ((nI l) - 1), .int 0, .int (nI i)], (zsh ++ vs, mi, (zup ml (55 + 2 * t) i ((v.toInt32.toInt8.toInt32).toInt64)), (zmr g))) rfl ?_
      refine Wp.call (as := [.int (nI i), .int 0, .int ((nI l) - 1)]) (rest := []) rfl rfl rfl rfl rfl (Nat.le_of_ble_eq_true rfl) (Nat.le_of_ble_eq_true rfl) rfl (by decide) (m_isIn_t ((one_leG (by omega)).mpr hy9)) ?_
      rintro _ _ ⟨rfl, rfl⟩
      refine Wp.run 4 (45, [(0, .ref 66), (1, .int (nI t)), (2, .int (nI i)), (3, .long v)], [.int (nI t), .ref 82], (zsh ++ vs, mi, (zup ml (55 + 2 * t) i ((v.toInt32.toInt8.toInt32).toInt64)), (zmr g))) rfl ?_
      refine Wp.ialn rfl (by decide) rfl (by omega) (by decide) ?_
      refine Wp.topi (y := 0) (e4) ?_
      refine Wp.run 8 (58, [(5, .int 0), (0, .ref 66), (1, .int (nI t)), (2, .int (nI i)), (3, .long v)], [.int ((60 * (nI t)) + (nI i)), .ref 84], (zsh ++ vs, mi, (zup ml (55 + 2 * t) i ((v.toInt32.toInt8.toInt32).toInt64)), (zmr g))) rfl ?_
      refine Wp.topi (y := nI (60 * t + i)) (ix_60 t i) ?_
      refine Wp.run 7 (116, [(5, .int 0), (0, .ref 66), (1, .int (nI t)), (2, .int (nI i)), (3, .long v)], [.long ((((v : Int64).toInt32 : Int32).toInt8.toInt32 : Int32).toInt64), .int (nI (60 * t + i)), .ref 84], (zsh ++ vs, mi, (zup ml (55 + 2 * t) i ((v.toInt32.toInt8.toInt32).toInt64)), (zmr g))) rfl ?_
      refine Wp.lasn rfl (by decide) rfl (by omega) (by decide) ?_
      refine Wp.run 1 (118, [(5, .int 0), (0, .ref 66), (1, .int (nI t)), (2, .int (nI i)), (3, .long v)], [.int 1], (zsh ++ vs, mi, (zup (zup ml (55 + 2 * t) i ((v.toInt32.toInt8.toInt32).toInt64)) 84 (60 * t + i) ((((v : Int64).toInt32 : Int32).toInt8.toInt32 : Int32).toInt64)), (zmr g))) rfl ?_
      refine Wp.ret rfl rfl rfl ?_
      exact ⟨rfl, rfl⟩
    · refine (I.tp (fun _ _ _ _ => rfl) (I.2.2.2.2.2.2.1.up ht (fun u hu hut => ⟨rfl, rfl, rfl, ?_, fun j hj => ?_⟩) ⟨l, hl, e1, e2, e3, Or.inr ⟨0, by decide, e4⟩, fun j hj => ?_⟩)).x
      · rw [zup_ne (by omega), zup_ne (by omega)]
      · rw [zupL_rd (by omega), zup_ne (by omega)]
      · by_cases e : j = i
        · subst e; rw [zup_ne (by omega), zupL_at, zupL_at]
        · rw [zup_ne (by omega), zupL_rd e, zupL_rd (by omega), zup_ne (by omega)]; exact e5 j hj
  · refine SIM.u (x := 1) (m1 := mi) (l1 := (zup ml (55 + 2 * t) i ((v.toInt32.toInt16.toInt32).toInt64))) (m2 := mi) (l2 := (zup (zup ml (55 + 2 * t) i ((v.toInt32.toInt16.toInt32).toInt64)) 84 (60 * t + i) ((((v : Int64).toInt32 : Int32).toInt16.toInt32 : Int32).toInt64))) (dc := 7) (dm := 27) (by decide) (by decide) ?_ ?_ ?_
    · refine Wp.run 2 (2, [(0, .ref 0), (1, .int (nI t)), (2, .int (nI i)), (3, .long v)], [.int 5, .int (nI t)], (zsh ++ vs, mi, ml, (zmr g))) rfl ?_
      refine Wp.call (as := [.int (nI t), .int 5]) (rest := []) rfl rfl rfl rfl rfl (Nat.le_of_ble_eq_true rfl) (Nat.le_of_ble_eq_true rfl) rfl (by decide) (c_within_t hx) ?_
      rintro _ _ ⟨rfl, rfl⟩
      refine Wp.run 4 (15, [(0, .ref 0), (1, .int (nI t)), (2, .int (nI i)), (3, .long v)], [.int (nI t), .ref 53], (zsh ++ vs, mi, ml, (zmr g))) rfl ?_
      refine Wp.aald (v := 54 + 2 * t) rfl (by decide) rfl (vp_nI (by omega) (by decide)) (by show zmr g 53 (nI t).toNatClampNeg = _; rw [nI_clamp (by omega)]; exact tp_ref ht) (by show _ < 500; omega) ?_
      refine Wp.run 2 (20, [(5, .ref (54 + 2 * t)), (0, .ref 0), (1, .int (nI t)), (2, .int (nI i)), (3, .long v)], [.ref (54 + 2 * t)], (zsh ++ vs, mi, ml, (zmr g))) rfl ?_
      refine Wp.gint rfl (by decide) (tp_ob ht) rfl (by decide) ?_
      refine Wp.topi (y := 1) (e3.trans e4) ?_
      refine Wp.run 4 (33, [(5, .ref (54 + 2 * t)), (0, .ref 0), (1, .int (nI t)), (2, .int (nI i)), (3, .long v)], [.ref (54 + 2 * t), .int (nI i)], (zsh ++ vs, mi, ml, (zmr g))) rfl ?_
      refine Wp.gint rfl (by decide) (tp_ob ht) rfl (by decide) ?_
      refine Wp.topi (y := nI l) (e1) ?_
      refine Wp.run 2 (38, [(5, .ref (54 + 2 * t)), (0, .ref 0), (1, .int (nI t)), (2, .int (nI i)), (3, .long v)], [.int ((nI l) - 1), .int (nI i)], (zsh ++ vs, mi, ml, (zmr g))) rfl ?_
      refine Wp.call (as := [.int (nI i), .int ((nI l) - 1)]) (rest := []) rfl rfl rfl rfl rfl (Nat.le_of_ble_eq_true rfl) (Nat.le_of_ble_eq_true rfl) rfl (by decide) (c_within_t ((one_leG (by omega)).mpr hy9)) ?_
      rintro _ _ ⟨rfl, rfl⟩
      refine Wp.run 2 (49, [(5, .ref (54 + 2 * t)), (0, .ref 0), (1, .int (nI t)), (2, .int (nI i)), (3, .long v)], [.ref (54 + 2 * t)], (zsh ++ vs, mi, ml, (zmr g))) rfl ?_
      refine Wp.gref rfl (tp_g2 ht) rfl (tp_it ht) ?_
      refine Wp.run 3 (56, [(5, .ref (54 + 2 * t)), (0, .ref 0), (1, .int (nI t)), (2, .int (nI i)), (3, .long v)], [.long v, .ref (54 + 2 * t), .int (nI i), .ref (55 + 2 * t)], (zsh ++ vs, mi, ml, (zmr g))) rfl ?_
      refine Wp.call (as := [.ref (54 + 2 * t), .long v]) (rest := [.int (nI i), .ref (55 + 2 * t)]) rfl rfl rfl rfl rfl (Nat.le_of_ble_eq_true rfl) (Nat.le_of_ble_eq_true rfl) (tp_rc ht) (by decide) (c_cut_1 ht (e3.trans e4)) ?_
      rintro _ _ ⟨rfl, rfl⟩
      refine Wp.lasn rfl (by show _ < 500; omega) (tp_sh ht) (by omega) (by decide) ?_
      refine Wp.run 1 (61, [(5, .ref (54 + 2 * t)), (0, .ref 0), (1, .int (nI t)), (2, .int (nI i)), (3, .long v)], [.int 1], (zsh ++ vs, mi, (zup ml (55 + 2 * t) i ((v.toInt32.toInt16.toInt32).toInt64)), (zmr g))) rfl ?_
      refine Wp.ret rfl rfl rfl ?_
      exact ⟨rfl, rfl⟩
    · refine Wp.run 1 (1, [(0, .ref 66), (1, .int (nI t)), (2, .int (nI i)), (3, .long v)], [.int (nI t)], (zsh ++ vs, mi, (zup ml (55 + 2 * t) i ((v.toInt32.toInt16.toInt32).toInt64)), (zmr g))) rfl ?_
      refine Wp.call (as := [.int (nI t)]) (rest := []) rfl rfl rfl rfl rfl (Nat.le_of_ble_eq_true rfl) (Nat.le_of_ble_eq_true rfl) rfl (by decide) (m_isTape_t hx) ?_
      rintro _ _ ⟨rfl, rfl⟩
      refine Wp.run 4 (14, [(0, .ref 66), (1, .int (nI t)), (2, .int (nI i)), (3, .long v)], [.int (nI t), .ref 82], (zsh ++ vs, mi, (zup ml (55 + 2 * t) i ((v.toInt32.toInt16.toInt32).toInt64)), (zmr g))) rfl ?_
      refine Wp.ialn rfl (by decide) rfl (by omega) (by decide) ?_
      refine Wp.topi (y := 1) (e4) ?_
      refine Wp.run 6 (28, [(0, .ref 66), (1, .int (nI t)), (2, .int (nI i)), (3, .long v)], [.int (nI t), .ref 83, .int 0, .int (nI i)], (zsh ++ vs, mi, (zup ml (55 + 2 * t) i ((v.toInt32.toInt16.toInt32).toInt64)), (zmr g))) rfl ?_
      refine Wp.ialn rfl (by decide) rfl (by omega) (by decide) ?_
      refine Wp.topi (y := nI l) (e2) ?_
      refine Wp.run 2 (31, [(0, .ref 66), (1, .int (nI t)), (2, .int (nI i)), (3, .long v)], [.int ((nI l) - 1), .int 0, .int (nI i)], (zsh ++ vs, mi, (zup ml (55 + 2 * t) i ((v.toInt32.toInt16.toInt32).toInt64)), (zmr g))) rfl ?_
      refine Wp.call (as := [.int (nI i), .int 0, .int ((nI l) - 1)]) (rest := []) rfl rfl rfl rfl rfl (Nat.le_of_ble_eq_true rfl) (Nat.le_of_ble_eq_true rfl) rfl (by decide) (m_isIn_t ((one_leG (by omega)).mpr hy9)) ?_
      rintro _ _ ⟨rfl, rfl⟩
      refine Wp.run 4 (45, [(0, .ref 66), (1, .int (nI t)), (2, .int (nI i)), (3, .long v)], [.int (nI t), .ref 82], (zsh ++ vs, mi, (zup ml (55 + 2 * t) i ((v.toInt32.toInt16.toInt32).toInt64)), (zmr g))) rfl ?_
      refine Wp.ialn rfl (by decide) rfl (by omega) (by decide) ?_
      refine Wp.topi (y := 1) (e4) ?_
      refine Wp.run 8 (58, [(5, .int 1), (0, .ref 66), (1, .int (nI t)), (2, .int (nI i)), (3, .long v)], [.int ((60 * (nI t)) + (nI i)), .ref 84], (zsh ++ vs, mi, (zup ml (55 + 2 * t) i ((v.toInt32.toInt16.toInt32).toInt64)), (zmr g))) rfl ?_
      refine Wp.topi (y := nI (60 * t + i)) (ix_60 t i) ?_
      refine Wp.run 10 (116, [(5, .int 1), (0, .ref 66), (1, .int (nI t)), (2, .int (nI i)), (3, .long v)], [.long ((((v : Int64).toInt32 : Int32).toInt16.toInt32 : Int32).toInt64), .int (nI (60 * t + i)), .ref 84], (zsh ++ vs, mi, (zup ml (55 + 2 * t) i ((v.toInt32.toInt16.toInt32).toInt64)), (zmr g))) rfl ?_
      refine Wp.lasn rfl (by decide) rfl (by omega) (by decide) ?_
      refine Wp.run 1 (118, [(5, .int 1), (0, .ref 66), (1, .int (nI t)), (2, .int (nI i)), (3, .long v)], [.int 1], (zsh ++ vs, mi, (zup (zup ml (55 + 2 * t) i ((v.toInt32.toInt16.toInt32).toInt64)) 84 (60 * t + i) ((((v : Int64).toInt32 : Int32).toInt16.toInt32 : Int32).toInt64)), (zmr g))) rfl ?_
      refine Wp.ret rfl rfl rfl ?_
      exact ⟨rfl, rfl⟩
    · refine (I.tp (fun _ _ _ _ => rfl) (I.2.2.2.2.2.2.1.up ht (fun u hu hut => ⟨rfl, rfl, rfl, ?_, fun j hj => ?_⟩) ⟨l, hl, e1, e2, e3, Or.inr ⟨1, by decide, e4⟩, fun j hj => ?_⟩)).x
      · rw [zup_ne (by omega), zup_ne (by omega)]
      · rw [zupL_rd (by omega), zup_ne (by omega)]
      · by_cases e : j = i
        · subst e; rw [zup_ne (by omega), zupL_at, zupL_at]
        · rw [zup_ne (by omega), zupL_rd e, zupL_rd (by omega), zup_ne (by omega)]; exact e5 j hj
  · refine SIM.u (x := 1) (m1 := mi) (l1 := (zup ml (55 + 2 * t) i v.toInt32.toInt64)) (m2 := mi) (l2 := (zup (zup ml (55 + 2 * t) i v.toInt32.toInt64) 84 (60 * t + i) (((v : Int64).toInt32 : Int32).toInt64))) (dc := 7) (dm := 27) (by decide) (by decide) ?_ ?_ ?_
    · refine Wp.run 2 (2, [(0, .ref 0), (1, .int (nI t)), (2, .int (nI i)), (3, .long v)], [.int 5, .int (nI t)], (zsh ++ vs, mi, ml, (zmr g))) rfl ?_
      refine Wp.call (as := [.int (nI t), .int 5]) (rest := []) rfl rfl rfl rfl rfl (Nat.le_of_ble_eq_true rfl) (Nat.le_of_ble_eq_true rfl) rfl (by decide) (c_within_t hx) ?_
      rintro _ _ ⟨rfl, rfl⟩
      refine Wp.run 4 (15, [(0, .ref 0), (1, .int (nI t)), (2, .int (nI i)), (3, .long v)], [.int (nI t), .ref 53], (zsh ++ vs, mi, ml, (zmr g))) rfl ?_
      refine Wp.aald (v := 54 + 2 * t) rfl (by decide) rfl (vp_nI (by omega) (by decide)) (by show zmr g 53 (nI t).toNatClampNeg = _; rw [nI_clamp (by omega)]; exact tp_ref ht) (by show _ < 500; omega) ?_
      refine Wp.run 2 (20, [(5, .ref (54 + 2 * t)), (0, .ref 0), (1, .int (nI t)), (2, .int (nI i)), (3, .long v)], [.ref (54 + 2 * t)], (zsh ++ vs, mi, ml, (zmr g))) rfl ?_
      refine Wp.gint rfl (by decide) (tp_ob ht) rfl (by decide) ?_
      refine Wp.topi (y := 2) (e3.trans e4) ?_
      refine Wp.run 4 (33, [(5, .ref (54 + 2 * t)), (0, .ref 0), (1, .int (nI t)), (2, .int (nI i)), (3, .long v)], [.ref (54 + 2 * t), .int (nI i)], (zsh ++ vs, mi, ml, (zmr g))) rfl ?_
      refine Wp.gint rfl (by decide) (tp_ob ht) rfl (by decide) ?_
      refine Wp.topi (y := nI l) (e1) ?_
      refine Wp.run 2 (38, [(5, .ref (54 + 2 * t)), (0, .ref 0), (1, .int (nI t)), (2, .int (nI i)), (3, .long v)], [.int ((nI l) - 1), .int (nI i)], (zsh ++ vs, mi, ml, (zmr g))) rfl ?_
      refine Wp.call (as := [.int (nI i), .int ((nI l) - 1)]) (rest := []) rfl rfl rfl rfl rfl (Nat.le_of_ble_eq_true rfl) (Nat.le_of_ble_eq_true rfl) rfl (by decide) (c_within_t ((one_leG (by omega)).mpr hy9)) ?_
      rintro _ _ ⟨rfl, rfl⟩
      refine Wp.run 2 (49, [(5, .ref (54 + 2 * t)), (0, .ref 0), (1, .int (nI t)), (2, .int (nI i)), (3, .long v)], [.ref (54 + 2 * t)], (zsh ++ vs, mi, ml, (zmr g))) rfl ?_
      refine Wp.gref rfl (tp_g2 ht) rfl (tp_it ht) ?_
      refine Wp.run 3 (56, [(5, .ref (54 + 2 * t)), (0, .ref 0), (1, .int (nI t)), (2, .int (nI i)), (3, .long v)], [.long v, .ref (54 + 2 * t), .int (nI i), .ref (55 + 2 * t)], (zsh ++ vs, mi, ml, (zmr g))) rfl ?_
      refine Wp.call (as := [.ref (54 + 2 * t), .long v]) (rest := [.int (nI i), .ref (55 + 2 * t)]) rfl rfl rfl rfl rfl (Nat.le_of_ble_eq_true rfl) (Nat.le_of_ble_eq_true rfl) (tp_rc ht) (by decide) (c_cut_2 ht (e3.trans e4)) ?_
      rintro _ _ ⟨rfl, rfl⟩
      refine Wp.lasn rfl (by show _ < 500; omega) (tp_sh ht) (by omega) (by decide) ?_
      refine Wp.run 1 (61, [(5, .ref (54 + 2 * t)), (0, .ref 0), (1, .int (nI t)), (2, .int (nI i)), (3, .long v)], [.int 1], (zsh ++ vs, mi, (zup ml (55 + 2 * t) i v.toInt32.toInt64), (zmr g))) rfl ?_
      refine Wp.ret rfl rfl rfl ?_
      exact ⟨rfl, rfl⟩
    · refine Wp.run 1 (1, [(0, .ref 66), (1, .int (nI t)), (2, .int (nI i)), (3, .long v)], [.int (nI t)], (zsh ++ vs, mi, (zup ml (55 + 2 * t) i v.toInt32.toInt64), (zmr g))) rfl ?_
      refine Wp.call (as := [.int (nI t)]) (rest := []) rfl rfl rfl rfl rfl (Nat.le_of_ble_eq_true rfl) (Nat.le_of_ble_eq_true rfl) rfl (by decide) (m_isTape_t hx) ?_
      rintro _ _ ⟨rfl, rfl⟩
      refine Wp.run 4 (14, [(0, .ref 66), (1, .int (nI t)), (2, .int (nI i)), (3, .long v)], [.int (nI t), .ref 82], (zsh ++ vs, mi, (zup ml (55 + 2 * t) i v.toInt32.toInt64), (zmr g))) rfl ?_
      refine Wp.ialn rfl (by decide) rfl (by omega) (by decide) ?_
      refine Wp.topi (y := 2) (e4) ?_
      refine Wp.run 6 (28, [(0, .ref 66), (1, .int (nI t)), (2, .int (nI i)), (3, .long v)], [.int (nI t), .ref 83, .int 0, .int (nI i)], (zsh ++ vs, mi, (zup ml (55 + 2 * t) i v.toInt32.toInt64), (zmr g))) rfl ?_
      refine Wp.ialn rfl (by decide) rfl (by omega) (by decide) ?_
      refine Wp.topi (y := nI l) (e2) ?_
      refine Wp.run 2 (31, [(0, .ref 66), (1, .int (nI t)), (2, .int (nI i)), (3, .long v)], [.int ((nI l) - 1), .int 0, .int (nI i)], (zsh ++ vs, mi, (zup ml (55 + 2 * t) i v.toInt32.toInt64), (zmr g))) rfl ?_
      refine Wp.call (as := [.int (nI i), .int 0, .int ((nI l) - 1)]) (rest := []) rfl rfl rfl rfl rfl (Nat.le_of_ble_eq_true rfl) (Nat.le_of_ble_eq_true rfl) rfl (by decide) (m_isIn_t ((one_leG (by omega)).mpr hy9)) ?_
      rintro _ _ ⟨rfl, rfl⟩
      refine Wp.run 4 (45, [(0, .ref 66), (1, .int (nI t)), (2, .int (nI i)), (3, .long v)], [.int (nI t), .ref 82], (zsh ++ vs, mi, (zup ml (55 + 2 * t) i v.toInt32.toInt64), (zmr g))) rfl ?_
      refine Wp.ialn rfl (by decide) rfl (by omega) (by decide) ?_
      refine Wp.topi (y := 2) (e4) ?_
      refine Wp.run 8 (58, [(5, .int 2), (0, .ref 66), (1, .int (nI t)), (2, .int (nI i)), (3, .long v)], [.int ((60 * (nI t)) + (nI i)), .ref 84], (zsh ++ vs, mi, (zup ml (55 + 2 * t) i v.toInt32.toInt64), (zmr g))) rfl ?_
      refine Wp.topi (y := nI (60 * t + i)) (ix_60 t i) ?_
      refine Wp.run 12 (116, [(5, .int 2), (0, .ref 66), (1, .int (nI t)), (2, .int (nI i)), (3, .long v)], [.long (((v : Int64).toInt32 : Int32).toInt64), .int (nI (60 * t + i)), .ref 84], (zsh ++ vs, mi, (zup ml (55 + 2 * t) i v.toInt32.toInt64), (zmr g))) rfl ?_
      refine Wp.lasn rfl (by decide) rfl (by omega) (by decide) ?_
      refine Wp.run 1 (118, [(5, .int 2), (0, .ref 66), (1, .int (nI t)), (2, .int (nI i)), (3, .long v)], [.int 1], (zsh ++ vs, mi, (zup (zup ml (55 + 2 * t) i v.toInt32.toInt64) 84 (60 * t + i) (((v : Int64).toInt32 : Int32).toInt64)), (zmr g))) rfl ?_
      refine Wp.ret rfl rfl rfl ?_
      exact ⟨rfl, rfl⟩
    · refine (I.tp (fun _ _ _ _ => rfl) (I.2.2.2.2.2.2.1.up ht (fun u hu hut => ⟨rfl, rfl, rfl, ?_, fun j hj => ?_⟩) ⟨l, hl, e1, e2, e3, Or.inr ⟨2, by decide, e4⟩, fun j hj => ?_⟩)).x
      · rw [zup_ne (by omega), zup_ne (by omega)]
      · rw [zupL_rd (by omega), zup_ne (by omega)]
      · by_cases e : j = i
        · subst e; rw [zup_ne (by omega), zupL_at, zupL_at]
        · rw [zup_ne (by omega), zupL_rd e, zupL_rd (by omega), zup_ne (by omega)]; exact e5 j hj
  · refine SIM.u (x := 1) (m1 := mi) (l1 := (zup ml (55 + 2 * t) i v)) (m2 := mi) (l2 := (zup (zup ml (55 + 2 * t) i v) 84 (60 * t + i) v)) (dc := 7) (dm := 27) (by decide) (by decide) ?_ ?_ ?_
    · refine Wp.run 2 (2, [(0, .ref 0), (1, .int (nI t)), (2, .int (nI i)), (3, .long v)], [.int 5, .int (nI t)], (zsh ++ vs, mi, ml, (zmr g))) rfl ?_
      refine Wp.call (as := [.int (nI t), .int 5]) (rest := []) rfl rfl rfl rfl rfl (Nat.le_of_ble_eq_true rfl) (Nat.le_of_ble_eq_true rfl) rfl (by decide) (c_within_t hx) ?_
      rintro _ _ ⟨rfl, rfl⟩
      refine Wp.run 4 (15, [(0, .ref 0), (1, .int (nI t)), (2, .int (nI i)), (3, .long v)], [.int (nI t), .ref 53], (zsh ++ vs, mi, ml, (zmr g))) rfl ?_
      refine Wp.aald (v := 54 + 2 * t) rfl (by decide) rfl (vp_nI (by omega) (by decide)) (by show zmr g 53 (nI t).toNatClampNeg = _; rw [nI_clamp (by omega)]; exact tp_ref ht) (by show _ < 500; omega) ?_
      refine Wp.run 2 (20, [(5, .ref (54 + 2 * t)), (0, .ref 0), (1, .int (nI t)), (2, .int (nI i)), (3, .long v)], [.ref (54 + 2 * t)], (zsh ++ vs, mi, ml, (zmr g))) rfl ?_
      refine Wp.gint rfl (by decide) (tp_ob ht) rfl (by decide) ?_
      refine Wp.topi (y := 3) (e3.trans e4) ?_
      refine Wp.run 4 (33, [(5, .ref (54 + 2 * t)), (0, .ref 0), (1, .int (nI t)), (2, .int (nI i)), (3, .long v)], [.ref (54 + 2 * t), .int (nI i)], (zsh ++ vs, mi, ml, (zmr g))) rfl ?_
      refine Wp.gint rfl (by decide) (tp_ob ht) rfl (by decide) ?_
      refine Wp.topi (y := nI l) (e1) ?_
      refine Wp.run 2 (38, [(5, .ref (54 + 2 * t)), (0, .ref 0), (1, .int (nI t)), (2, .int (nI i)), (3, .long v)], [.int ((nI l) - 1), .int (nI i)], (zsh ++ vs, mi, ml, (zmr g))) rfl ?_
      refine Wp.call (as := [.int (nI i), .int ((nI l) - 1)]) (rest := []) rfl rfl rfl rfl rfl (Nat.le_of_ble_eq_true rfl) (Nat.le_of_ble_eq_true rfl) rfl (by decide) (c_within_t ((one_leG (by omega)).mpr hy9)) ?_
      rintro _ _ ⟨rfl, rfl⟩
      refine Wp.run 2 (49, [(5, .ref (54 + 2 * t)), (0, .ref 0), (1, .int (nI t)), (2, .int (nI i)), (3, .long v)], [.ref (54 + 2 * t)], (zsh ++ vs, mi, ml, (zmr g))) rfl ?_
      refine Wp.gref rfl (tp_g2 ht) rfl (tp_it ht) ?_
      refine Wp.run 3 (56, [(5, .ref (54 + 2 * t)), (0, .ref 0), (1, .int (nI t)), (2, .int (nI i)), (3, .long v)], [.long v, .ref (54 + 2 * t), .int (nI i), .ref (55 + 2 * t)], (zsh ++ vs, mi, ml, (zmr g))) rfl ?_
      refine Wp.call (as := [.ref (54 + 2 * t), .long v]) (rest := [.int (nI i), .ref (55 + 2 * t)]) rfl rfl rfl rfl rfl (Nat.le_of_ble_eq_true rfl) (Nat.le_of_ble_eq_true rfl) (tp_rc ht) (by decide) (c_cut_3 ht (e3.trans e4)) ?_
      rintro _ _ ⟨rfl, rfl⟩
      refine Wp.lasn rfl (by show _ < 500; omega) (tp_sh ht) (by omega) (by decide) ?_
      refine Wp.run 1 (61, [(5, .ref (54 + 2 * t)), (0, .ref 0), (1, .int (nI t)), (2, .int (nI i)), (3, .long v)], [.int 1], (zsh ++ vs, mi, (zup ml (55 + 2 * t) i v), (zmr g))) rfl ?_
      refine Wp.ret rfl rfl rfl ?_
      exact ⟨rfl, rfl⟩
    · refine Wp.run 1 (1, [(0, .ref 66), (1, .int (nI t)), (2, .int (nI i)), (3, .long v)], [.int (nI t)], (zsh ++ vs, mi, (zup ml (55 + 2 * t) i v), (zmr g))) rfl ?_
      refine Wp.call (as := [.int (nI t)]) (rest := []) rfl rfl rfl rfl rfl (Nat.le_of_ble_eq_true rfl) (Nat.le_of_ble_eq_true rfl) rfl (by decide) (m_isTape_t hx) ?_
      rintro _ _ ⟨rfl, rfl⟩
      refine Wp.run 4 (14, [(0, .ref 66), (1, .int (nI t)), (2, .int (nI i)), (3, .long v)], [.int (nI t), .ref 82], (zsh ++ vs, mi, (zup ml (55 + 2 * t) i v), (zmr g))) rfl ?_
      refine Wp.ialn rfl (by decide) rfl (by omega) (by decide) ?_
      refine Wp.topi (y := 3) (e4) ?_
      refine Wp.run 6 (28, [(0, .ref 66), (1, .int (nI t)), (2, .int (nI i)), (3, .long v)], [.int (nI t), .ref 83, .int 0, .int (nI i)], (zsh ++ vs, mi, (zup ml (55 + 2 * t) i v), (zmr g))) rfl ?_
      refine Wp.ialn rfl (by decide) rfl (by omega) (by decide) ?_
      refine Wp.topi (y := nI l) (e2) ?_
      refine Wp.run 2 (31, [(0, .ref 66), (1, .int (nI t)), (2, .int (nI i)), (3, .long v)], [.int ((nI l) - 1), .int 0, .int (nI i)], (zsh ++ vs, mi, (zup ml (55 + 2 * t) i v), (zmr g))) rfl ?_
      refine Wp.call (as := [.int (nI i), .int 0, .int ((nI l) - 1)]) (rest := []) rfl rfl rfl rfl rfl (Nat.le_of_ble_eq_true rfl) (Nat.le_of_ble_eq_true rfl) rfl (by decide) (m_isIn_t ((one_leG (by omega)).mpr hy9)) ?_
      rintro _ _ ⟨rfl, rfl⟩
      refine Wp.run 4 (45, [(0, .ref 66), (1, .int (nI t)), (2, .int (nI i)), (3, .long v)], [.int (nI t), .ref 82], (zsh ++ vs, mi, (zup ml (55 + 2 * t) i v), (zmr g))) rfl ?_
      refine Wp.ialn rfl (by decide) rfl (by omega) (by decide) ?_
      refine Wp.topi (y := 3) (e4) ?_
      refine Wp.run 8 (58, [(5, .int 3), (0, .ref 66), (1, .int (nI t)), (2, .int (nI i)), (3, .long v)], [.int ((60 * (nI t)) + (nI i)), .ref 84], (zsh ++ vs, mi, (zup ml (55 + 2 * t) i v), (zmr g))) rfl ?_
      refine Wp.topi (y := nI (60 * t + i)) (ix_60 t i) ?_
      refine Wp.run 13 (116, [(5, .int 3), (0, .ref 66), (1, .int (nI t)), (2, .int (nI i)), (3, .long v)], [.long v, .int (nI (60 * t + i)), .ref 84], (zsh ++ vs, mi, (zup ml (55 + 2 * t) i v), (zmr g))) rfl ?_
      refine Wp.lasn rfl (by decide) rfl (by omega) (by decide) ?_
      refine Wp.run 1 (118, [(5, .int 3), (0, .ref 66), (1, .int (nI t)), (2, .int (nI i)), (3, .long v)], [.int 1], (zsh ++ vs, mi, (zup (zup ml (55 + 2 * t) i v) 84 (60 * t + i) v), (zmr g))) rfl ?_
      refine Wp.ret rfl rfl rfl ?_
      exact ⟨rfl, rfl⟩
    · refine (I.tp (fun _ _ _ _ => rfl) (I.2.2.2.2.2.2.1.up ht (fun u hu hut => ⟨rfl, rfl, rfl, ?_, fun j hj => ?_⟩) ⟨l, hl, e1, e2, e3, Or.inr ⟨3, by decide, e4⟩, fun j hj => ?_⟩)).x
      · rw [zup_ne (by omega), zup_ne (by omega)]
      · rw [zupL_rd (by omega), zup_ne (by omega)]
      · by_cases e : j = i
        · subst e; rw [zup_ne (by omega), zupL_at, zupL_at]
        · rw [zup_ne (by omega), zupL_rd e, zupL_rd (by omega), zup_ne (by omega)]; exact e5 j hj
  · by_cases hv : lg_cmp v 0 = 0
    · refine SIM.u (x := 1) (m1 := mi) (l1 := (zup ml (55 + 2 * t) i 0)) (m2 := mi) (l2 := (zup (zup ml (55 + 2 * t) i 0) 84 (60 * t + i) 0)) (dc := 7) (dm := 27) (by decide) (by decide) ?_ ?_ ?_
      · refine Wp.run 2 (2, [(0, .ref 0), (1, .int (nI t)), (2, .int (nI i)), (3, .long v)], [.int 5, .int (nI t)], (zsh ++ vs, mi, ml, (zmr g))) rfl ?_
        refine Wp.call (as := [.int (nI t), .int 5]) (rest := []) rfl rfl rfl rfl rfl (Nat.le_of_ble_eq_true rfl) (Nat.le_of_ble_eq_true rfl) rfl (by decide) (c_within_t hx) ?_
        rintro _ _ ⟨rfl, rfl⟩
        refine Wp.run 4 (15, [(0, .ref 0), (1, .int (nI t)), (2, .int (nI i)), (3, .long v)], [.int (nI t), .ref 53], (zsh ++ vs, mi, ml, (zmr g))) rfl ?_
        refine Wp.aald (v := 54 + 2 * t) rfl (by decide) rfl (vp_nI (by omega) (by decide)) (by show zmr g 53 (nI t).toNatClampNeg = _; rw [nI_clamp (by omega)]; exact tp_ref ht) (by show _ < 500; omega) ?_
        refine Wp.run 2 (20, [(5, .ref (54 + 2 * t)), (0, .ref 0), (1, .int (nI t)), (2, .int (nI i)), (3, .long v)], [.ref (54 + 2 * t)], (zsh ++ vs, mi, ml, (zmr g))) rfl ?_
        refine Wp.gint rfl (by decide) (tp_ob ht) rfl (by decide) ?_
        refine Wp.topi (y := 4) (e3.trans e4) ?_
        refine Wp.run 4 (33, [(5, .ref (54 + 2 * t)), (0, .ref 0), (1, .int (nI t)), (2, .int (nI i)), (3, .long v)], [.ref (54 + 2 * t), .int (nI i)], (zsh ++ vs, mi, ml, (zmr g))) rfl ?_
        refine Wp.gint rfl (by decide) (tp_ob ht) rfl (by decide) ?_
        refine Wp.topi (y := nI l) (e1) ?_
        refine Wp.run 2 (38, [(5, .ref (54 + 2 * t)), (0, .ref 0), (1, .int (nI t)), (2, .int (nI i)), (3, .long v)], [.int ((nI l) - 1), .int (nI i)], (zsh ++ vs, mi, ml, (zmr g))) rfl ?_
        refine Wp.call (as := [.int (nI i), .int ((nI l) - 1)]) (rest := []) rfl rfl rfl rfl rfl (Nat.le_of_ble_eq_true rfl) (Nat.le_of_ble_eq_true rfl) rfl (by decide) (c_within_t ((one_leG (by omega)).mpr hy9)) ?_
        rintro _ _ ⟨rfl, rfl⟩
        refine Wp.run 2 (49, [(5, .ref (54 + 2 * t)), (0, .ref 0), (1, .int (nI t)), (2, .int (nI i)), (3, .long v)], [.ref (54 + 2 * t)], (zsh ++ vs, mi, ml, (zmr g))) rfl ?_
        refine Wp.gref rfl (tp_g2 ht) rfl (tp_it ht) ?_
        refine Wp.run 3 (56, [(5, .ref (54 + 2 * t)), (0, .ref 0), (1, .int (nI t)), (2, .int (nI i)), (3, .long v)], [.long v, .ref (54 + 2 * t), .int (nI i), .ref (55 + 2 * t)], (zsh ++ vs, mi, ml, (zmr g))) rfl ?_
        refine Wp.call (as := [.ref (54 + 2 * t), .long v]) (rest := [.int (nI i), .ref (55 + 2 * t)]) rfl rfl rfl rfl rfl (Nat.le_of_ble_eq_true rfl) (Nat.le_of_ble_eq_true rfl) (tp_rc ht) (by decide) (c_cut_4a ht (e3.trans e4) hv) ?_
        rintro _ _ ⟨rfl, rfl⟩
        refine Wp.lasn rfl (by show _ < 500; omega) (tp_sh ht) (by omega) (by decide) ?_
        refine Wp.run 1 (61, [(5, .ref (54 + 2 * t)), (0, .ref 0), (1, .int (nI t)), (2, .int (nI i)), (3, .long v)], [.int 1], (zsh ++ vs, mi, (zup ml (55 + 2 * t) i 0), (zmr g))) rfl ?_
        refine Wp.ret rfl rfl rfl ?_
        exact ⟨rfl, rfl⟩
      · refine Wp.run 1 (1, [(0, .ref 66), (1, .int (nI t)), (2, .int (nI i)), (3, .long v)], [.int (nI t)], (zsh ++ vs, mi, (zup ml (55 + 2 * t) i 0), (zmr g))) rfl ?_
        refine Wp.call (as := [.int (nI t)]) (rest := []) rfl rfl rfl rfl rfl (Nat.le_of_ble_eq_true rfl) (Nat.le_of_ble_eq_true rfl) rfl (by decide) (m_isTape_t hx) ?_
        rintro _ _ ⟨rfl, rfl⟩
        refine Wp.run 4 (14, [(0, .ref 66), (1, .int (nI t)), (2, .int (nI i)), (3, .long v)], [.int (nI t), .ref 82], (zsh ++ vs, mi, (zup ml (55 + 2 * t) i 0), (zmr g))) rfl ?_
        refine Wp.ialn rfl (by decide) rfl (by omega) (by decide) ?_
        refine Wp.topi (y := 4) (e4) ?_
        refine Wp.run 6 (28, [(0, .ref 66), (1, .int (nI t)), (2, .int (nI i)), (3, .long v)], [.int (nI t), .ref 83, .int 0, .int (nI i)], (zsh ++ vs, mi, (zup ml (55 + 2 * t) i 0), (zmr g))) rfl ?_
        refine Wp.ialn rfl (by decide) rfl (by omega) (by decide) ?_
        refine Wp.topi (y := nI l) (e2) ?_
        refine Wp.run 2 (31, [(0, .ref 66), (1, .int (nI t)), (2, .int (nI i)), (3, .long v)], [.int ((nI l) - 1), .int 0, .int (nI i)], (zsh ++ vs, mi, (zup ml (55 + 2 * t) i 0), (zmr g))) rfl ?_
        refine Wp.call (as := [.int (nI i), .int 0, .int ((nI l) - 1)]) (rest := []) rfl rfl rfl rfl rfl (Nat.le_of_ble_eq_true rfl) (Nat.le_of_ble_eq_true rfl) rfl (by decide) (m_isIn_t ((one_leG (by omega)).mpr hy9)) ?_
        rintro _ _ ⟨rfl, rfl⟩
        refine Wp.run 4 (45, [(0, .ref 66), (1, .int (nI t)), (2, .int (nI i)), (3, .long v)], [.int (nI t), .ref 82], (zsh ++ vs, mi, (zup ml (55 + 2 * t) i 0), (zmr g))) rfl ?_
        refine Wp.ialn rfl (by decide) rfl (by omega) (by decide) ?_
        refine Wp.topi (y := 4) (e4) ?_
        refine Wp.run 8 (58, [(5, .int 4), (0, .ref 66), (1, .int (nI t)), (2, .int (nI i)), (3, .long v)], [.int ((60 * (nI t)) + (nI i)), .ref 84], (zsh ++ vs, mi, (zup ml (55 + 2 * t) i 0), (zmr g))) rfl ?_
        refine Wp.topi (y := nI (60 * t + i)) (ix_60 t i) ?_
        refine Wp.run 14 (108, [(5, .int 4), (0, .ref 66), (1, .int (nI t)), (2, .int (nI i)), (3, .long v)], [.int (lg_cmp v 0), .int (nI (60 * t + i)), .ref 84], (zsh ++ vs, mi, (zup ml (55 + 2 * t) i 0), (zmr g))) rfl ?_
        refine Wp.if_eq rfl (fun h51 => ?_) (fun h51 => ?_)
        · refine Wp.run 1 (116, [(5, .int 4), (0, .ref 66), (1, .int (nI t)), (2, .int (nI i)), (3, .long v)], [.long 0, .int (nI (60 * t + i)), .ref 84], (zsh ++ vs, mi, (zup ml (55 + 2 * t) i 0), (zmr g))) rfl ?_
          refine Wp.lasn rfl (by decide) rfl (by omega) (by decide) ?_
          refine Wp.run 1 (118, [(5, .int 4), (0, .ref 66), (1, .int (nI t)), (2, .int (nI i)), (3, .long v)], [.int 1], (zsh ++ vs, mi, (zup (zup ml (55 + 2 * t) i 0) 84 (60 * t + i) 0), (zmr g))) rfl ?_
          refine Wp.ret rfl rfl rfl ?_
          exact ⟨rfl, rfl⟩
        · exact absurd hv h51
      · refine (I.tp (fun _ _ _ _ => rfl) (I.2.2.2.2.2.2.1.up ht (fun u hu hut => ⟨rfl, rfl, rfl, ?_, fun j hj => ?_⟩) ⟨l, hl, e1, e2, e3, Or.inr ⟨4, by decide, e4⟩, fun j hj => ?_⟩)).x
        · rw [zup_ne (by omega), zup_ne (by omega)]
        · rw [zupL_rd (by omega), zup_ne (by omega)]
        · by_cases e : j = i
          · subst e; rw [zup_ne (by omega), zupL_at, zupL_at]
          · rw [zup_ne (by omega), zupL_rd e, zupL_rd (by omega), zup_ne (by omega)]; exact e5 j hj
    · refine SIM.u (x := 1) (m1 := mi) (l1 := (zup ml (55 + 2 * t) i 1)) (m2 := mi) (l2 := (zup (zup ml (55 + 2 * t) i 1) 84 (60 * t + i) 1)) (dc := 7) (dm := 27) (by decide) (by decide) ?_ ?_ ?_
      · refine Wp.run 2 (2, [(0, .ref 0), (1, .int (nI t)), (2, .int (nI i)), (3, .long v)], [.int 5, .int (nI t)], (zsh ++ vs, mi, ml, (zmr g))) rfl ?_
        refine Wp.call (as := [.int (nI t), .int 5]) (rest := []) rfl rfl rfl rfl rfl (Nat.le_of_ble_eq_true rfl) (Nat.le_of_ble_eq_true rfl) rfl (by decide) (c_within_t hx) ?_
        rintro _ _ ⟨rfl, rfl⟩
        refine Wp.run 4 (15, [(0, .ref 0), (1, .int (nI t)), (2, .int (nI i)), (3, .long v)], [.int (nI t), .ref 53], (zsh ++ vs, mi, ml, (zmr g))) rfl ?_
        refine Wp.aald (v := 54 + 2 * t) rfl (by decide) rfl (vp_nI (by omega) (by decide)) (by show zmr g 53 (nI t).toNatClampNeg = _; rw [nI_clamp (by omega)]; exact tp_ref ht) (by show _ < 500; omega) ?_
        refine Wp.run 2 (20, [(5, .ref (54 + 2 * t)), (0, .ref 0), (1, .int (nI t)), (2, .int (nI i)), (3, .long v)], [.ref (54 + 2 * t)], (zsh ++ vs, mi, ml, (zmr g))) rfl ?_
        refine Wp.gint rfl (by decide) (tp_ob ht) rfl (by decide) ?_
        refine Wp.topi (y := 4) (e3.trans e4) ?_
        refine Wp.run 4 (33, [(5, .ref (54 + 2 * t)), (0, .ref 0), (1, .int (nI t)), (2, .int (nI i)), (3, .long v)], [.ref (54 + 2 * t), .int (nI i)], (zsh ++ vs, mi, ml, (zmr g))) rfl ?_
        refine Wp.gint rfl (by decide) (tp_ob ht) rfl (by decide) ?_
        refine Wp.topi (y := nI l) (e1) ?_
        refine Wp.run 2 (38, [(5, .ref (54 + 2 * t)), (0, .ref 0), (1, .int (nI t)), (2, .int (nI i)), (3, .long v)], [.int ((nI l) - 1), .int (nI i)], (zsh ++ vs, mi, ml, (zmr g))) rfl ?_
        refine Wp.call (as := [.int (nI i), .int ((nI l) - 1)]) (rest := []) rfl rfl rfl rfl rfl (Nat.le_of_ble_eq_true rfl) (Nat.le_of_ble_eq_true rfl) rfl (by decide) (c_within_t ((one_leG (by omega)).mpr hy9)) ?_
        rintro _ _ ⟨rfl, rfl⟩
        refine Wp.run 2 (49, [(5, .ref (54 + 2 * t)), (0, .ref 0), (1, .int (nI t)), (2, .int (nI i)), (3, .long v)], [.ref (54 + 2 * t)], (zsh ++ vs, mi, ml, (zmr g))) rfl ?_
        refine Wp.gref rfl (tp_g2 ht) rfl (tp_it ht) ?_
        refine Wp.run 3 (56, [(5, .ref (54 + 2 * t)), (0, .ref 0), (1, .int (nI t)), (2, .int (nI i)), (3, .long v)], [.long v, .ref (54 + 2 * t), .int (nI i), .ref (55 + 2 * t)], (zsh ++ vs, mi, ml, (zmr g))) rfl ?_
        refine Wp.call (as := [.ref (54 + 2 * t), .long v]) (rest := [.int (nI i), .ref (55 + 2 * t)]) rfl rfl rfl rfl rfl (Nat.le_of_ble_eq_true rfl) (Nat.le_of_ble_eq_true rfl) (tp_rc ht) (by decide) (c_cut_4b ht (e3.trans e4) hv) ?_
        rintro _ _ ⟨rfl, rfl⟩
        refine Wp.lasn rfl (by show _ < 500; omega) (tp_sh ht) (by omega) (by decide) ?_
        refine Wp.run 1 (61, [(5, .ref (54 + 2 * t)), (0, .ref 0), (1, .int (nI t)), (2, .int (nI i)), (3, .long v)], [.int 1], (zsh ++ vs, mi, (zup ml (55 + 2 * t) i 1), (zmr g))) rfl ?_
        refine Wp.ret rfl rfl rfl ?_
        exact ⟨rfl, rfl⟩
      · refine Wp.run 1 (1, [(0, .ref 66), (1, .int (nI t)), (2, .int (nI i)), (3, .long v)], [.int (nI t)], (zsh ++ vs, mi, (zup ml (55 + 2 * t) i 1), (zmr g))) rfl ?_
        refine Wp.call (as := [.int (nI t)]) (rest := []) rfl rfl rfl rfl rfl (Nat.le_of_ble_eq_true rfl) (Nat.le_of_ble_eq_true rfl) rfl (by decide) (m_isTape_t hx) ?_
        rintro _ _ ⟨rfl, rfl⟩
        refine Wp.run 4 (14, [(0, .ref 66), (1, .int (nI t)), (2, .int (nI i)), (3, .long v)], [.int (nI t), .ref 82], (zsh ++ vs, mi, (zup ml (55 + 2 * t) i 1), (zmr g))) rfl ?_
        refine Wp.ialn rfl (by decide) rfl (by omega) (by decide) ?_
        refine Wp.topi (y := 4) (e4) ?_
        refine Wp.run 6 (28, [(0, .ref 66), (1, .int (nI t)), (2, .int (nI i)), (3, .long v)], [.int (nI t), .ref 83, .int 0, .int (nI i)], (zsh ++ vs, mi, (zup ml (55 + 2 * t) i 1), (zmr g))) rfl ?_
        refine Wp.ialn rfl (by decide) rfl (by omega) (by decide) ?_
        refine Wp.topi (y := nI l) (e2) ?_
        refine Wp.run 2 (31, [(0, .ref 66), (1, .int (nI t)), (2, .int (nI i)), (3, .long v)], [.int ((nI l) - 1), .int 0, .int (nI i)], (zsh ++ vs, mi, (zup ml (55 + 2 * t) i 1), (zmr g))) rfl ?_
        refine Wp.call (as := [.int (nI i), .int 0, .int ((nI l) - 1)]) (rest := []) rfl rfl rfl rfl rfl (Nat.le_of_ble_eq_true rfl) (Nat.le_of_ble_eq_true rfl) rfl (by decide) (m_isIn_t ((one_leG (by omega)).mpr hy9)) ?_
        rintro _ _ ⟨rfl, rfl⟩
        refine Wp.run 4 (45, [(0, .ref 66), (1, .int (nI t)), (2, .int (nI i)), (3, .long v)], [.int (nI t), .ref 82], (zsh ++ vs, mi, (zup ml (55 + 2 * t) i 1), (zmr g))) rfl ?_
        refine Wp.ialn rfl (by decide) rfl (by omega) (by decide) ?_
        refine Wp.topi (y := 4) (e4) ?_
        refine Wp.run 8 (58, [(5, .int 4), (0, .ref 66), (1, .int (nI t)), (2, .int (nI i)), (3, .long v)], [.int ((60 * (nI t)) + (nI i)), .ref 84], (zsh ++ vs, mi, (zup ml (55 + 2 * t) i 1), (zmr g))) rfl ?_
        refine Wp.topi (y := nI (60 * t + i)) (ix_60 t i) ?_
        refine Wp.run 14 (108, [(5, .int 4), (0, .ref 66), (1, .int (nI t)), (2, .int (nI i)), (3, .long v)], [.int (lg_cmp v 0), .int (nI (60 * t + i)), .ref 84], (zsh ++ vs, mi, (zup ml (55 + 2 * t) i 1), (zmr g))) rfl ?_
        refine Wp.if_eq rfl (fun h51 => ?_) (fun h51 => ?_)
        · exact absurd h51 hv
        · refine Wp.run 2 (116, [(5, .int 4), (0, .ref 66), (1, .int (nI t)), (2, .int (nI i)), (3, .long v)], [.long 1, .int (nI (60 * t + i)), .ref 84], (zsh ++ vs, mi, (zup ml (55 + 2 * t) i 1), (zmr g))) rfl ?_
          refine Wp.lasn rfl (by decide) rfl (by omega) (by decide) ?_
          refine Wp.run 1 (118, [(5, .int 4), (0, .ref 66), (1, .int (nI t)), (2, .int (nI i)), (3, .long v)], [.int 1], (zsh ++ vs, mi, (zup (zup ml (55 + 2 * t) i 1) 84 (60 * t + i) 1), (zmr g))) rfl ?_
          refine Wp.ret rfl rfl rfl ?_
          exact ⟨rfl, rfl⟩
      · refine (I.tp (fun _ _ _ _ => rfl) (I.2.2.2.2.2.2.1.up ht (fun u hu hut => ⟨rfl, rfl, rfl, ?_, fun j hj => ?_⟩) ⟨l, hl, e1, e2, e3, Or.inr ⟨4, by decide, e4⟩, fun j hj => ?_⟩)).x
        · rw [zup_ne (by omega), zup_ne (by omega)]
        · rw [zupL_rd (by omega), zup_ne (by omega)]
        · by_cases e : j = i
          · subst e; rw [zup_ne (by omega), zupL_at, zupL_at]
          · rw [zup_ne (by omega), zupL_rd e, zupL_rd (by omega), zup_ne (by omega)]; exact e5 j hj
theorem sim_read {E : zEn} {nv : Nat} {VD : Nat → zV} {NL : Nat → Nat} {n dd : Nat} {vs : List (Nat × Nat)} {mi : Nat → Nat → Int32} {ml : Nat → Nat → Int64} {g : Nat → Nat → Option Nat} (I : INV nv VD NL n dd vs mi ml g) (x y : Int32) : SIML E vs mi ml g pg_H_read pg_M_read [.int x, .int y] := by
  have B := I.1.1
  have h6 := B.1.2.1
  have hn := B.2.1
  have hN := B.1.1
  have hd := B.1.2.2.1
  have hdd := I.1.2
  by_cases hx : 0 ≤ x ∧ x ≤ 5
  rotate_left
  · refine SIML.q I (x := Int64.ofNat 9223372036854775808) (dc := 7) (dm := 27) (by decide) (by decide) ?_ ?_
    · refine Wp.run 2 (2, [(0, .ref 0), (1, .int x), (2, .int y)], [.int 5, .int x], (zsh ++ vs, mi, ml, (zmr g))) rfl ?_
      refine Wp.call (as := [.int x, .int 5]) (rest := []) rfl rfl rfl rfl rfl (Nat.le_of_ble_eq_true rfl) (Nat.le_of_ble_eq_true rfl) rfl (by decide) (c_within_f hx) ?_
      rintro _ _ ⟨rfl, rfl⟩
      refine Wp.run 2 (29, [(0, .ref 0), (1, .int x), (2, .int y)], [.long (Int64.ofNat 9223372036854775808)], (zsh ++ vs, mi, ml, (zmr g))) rfl ?_
      refine Wp.ret rfl rfl rfl ?_
      exact ⟨rfl, _, _, rfl, SC.rf, fun _ _ _ => rfl⟩
    · intro m g' I' e67 S
      have B' := I'.1.1
      have hn' := B'.2.1
      have hN' := B'.1.1
      have hd' := B'.1.2.2.1
      refine Wp.run 1 (1, [(0, .ref 66), (1, .int x), (2, .int y)], [.int x], (zsh ++ vs, m, ml, (zmr g'))) rfl ?_
      refine Wp.call (as := [.int x]) (rest := []) rfl rfl rfl rfl rfl (Nat.le_of_ble_eq_true rfl) (Nat.le_of_ble_eq_true rfl) rfl (by decide) (m_isTape_f hx) ?_
      rintro _ _ ⟨rfl, rfl⟩
      refine Wp.run 2 (40, [(0, .ref 66), (1, .int x), (2, .int y)], [.long (Int64.ofNat 9223372036854775808)], (zsh ++ vs, m, ml, (zmr g'))) rfl ?_
      refine Wp.ret rfl rfl rfl ?_
      exact ⟨rfl, _, rfl, SC.rf⟩
  obtain ⟨t, ht5, rfl⟩ := rng_of (h := 5) rfl hx
  have ht : t < 6 := by omega
  obtain ⟨l, hl, e1, e2, e3, e4, e5⟩ := I.2.2.2.2.2.2.1 t ht
  have m83 : ∀ {m : Nat → Nat → Int32}, SC mi m → m 83 t = nI l := fun S => (congrFun (S.c (b := 83) (by decide)) t).trans e2
  by_cases hy : one l y
  rotate_left
  · refine SIML.q I (x := Int64.ofNat 9223372036854775808) (dc := 7) (dm := 27) (by decide) (by decide) ?_ ?_
    · refine Wp.run 2 (2, [(0, .ref 0), (1, .int (nI t)), (2, .int y)], [.int 5, .int (nI t)], (zsh ++ vs, mi, ml, (zmr g))) rfl ?_
      refine Wp.call (as := [.int (nI t), .int 5]) (rest := []) rfl rfl rfl rfl rfl (Nat.le_of_ble_eq_true rfl) (Nat.le_of_ble_eq_true rfl) rfl (by decide) (c_within_t hx) ?_
      rintro _ _ ⟨rfl, rfl⟩
      refine Wp.run 5 (14, [(0, .ref 0), (1, .int (nI t)), (2, .int y)], [.int (nI t), .ref 53, .int y], (zsh ++ vs, mi, ml, (zmr g))) rfl ?_
      refine Wp.aald (v := 54 + 2 * t) rfl (by decide) rfl (vp_nI (by omega) (by decide)) (by show zmr g 53 (nI t).toNatClampNeg = _; rw [nI_clamp (by omega)]; exact tp_ref ht) (by show _ < 500; omega) ?_
      refine Wp.gint rfl (by decide) (tp_ob ht) rfl (by decide) ?_
      refine Wp.topi (y := nI l) (e1) ?_
      refine Wp.run 2 (20, [(0, .ref 0), (1, .int (nI t)), (2, .int y)], [.int ((nI l) - 1), .int y], (zsh ++ vs, mi, ml, (zmr g))) rfl ?_
      refine Wp.call (as := [.int y, .int ((nI l) - 1)]) (rest := []) rfl rfl rfl rfl rfl (Nat.le_of_ble_eq_true rfl) (Nat.le_of_ble_eq_true rfl) rfl (by decide) (c_within_f (fun z => hy ((one_leG (by omega)).mp z))) ?_
      rintro _ _ ⟨rfl, rfl⟩
      refine Wp.run 2 (29, [(0, .ref 0), (1, .int (nI t)), (2, .int y)], [.long (Int64.ofNat 9223372036854775808)], (zsh ++ vs, mi, ml, (zmr g))) rfl ?_
      refine Wp.ret rfl rfl rfl ?_
      exact ⟨rfl, _, _, rfl, SC.rf, fun _ _ _ => rfl⟩
    · intro m g' I' e67 S
      have B' := I'.1.1
      have hn' := B'.2.1
      have hN' := B'.1.1
      have hd' := B'.1.2.2.1
      refine Wp.run 1 (1, [(0, .ref 66), (1, .int (nI t)), (2, .int y)], [.int (nI t)], (zsh ++ vs, m, ml, (zmr g'))) rfl ?_
      refine Wp.call (as := [.int (nI t)]) (rest := []) rfl rfl rfl rfl rfl (Nat.le_of_ble_eq_true rfl) (Nat.le_of_ble_eq_true rfl) rfl (by decide) (m_isTape_t hx) ?_
      rintro _ _ ⟨rfl, rfl⟩
      refine Wp.run 6 (14, [(0, .ref 66), (1, .int (nI t)), (2, .int y)], [.int (nI t), .ref 83, .int 0, .int y], (zsh ++ vs, m, ml, (zmr g'))) rfl ?_
      refine Wp.ialn rfl (by decide) rfl (by omega) (by decide) ?_
      refine Wp.topi (y := nI l) (m83 S) ?_
      refine Wp.run 2 (17, [(0, .ref 66), (1, .int (nI t)), (2, .int y)], [.int ((nI l) - 1), .int 0, .int y], (zsh ++ vs, m, ml, (zmr g'))) rfl ?_
      refine Wp.call (as := [.int y, .int 0, .int ((nI l) - 1)]) (rest := []) rfl rfl rfl rfl rfl (Nat.le_of_ble_eq_true rfl) (Nat.le_of_ble_eq_true rfl) rfl (by decide) (m_isIn_f (fun z => hy ((one_leG (by omega)).mp z))) ?_
      rintro _ _ ⟨rfl, rfl⟩
      refine Wp.run 2 (40, [(0, .ref 66), (1, .int (nI t)), (2, .int y)], [.long (Int64.ofNat 9223372036854775808)], (zsh ++ vs, m, ml, (zmr g'))) rfl ?_
      refine Wp.ret rfl rfl rfl ?_
      exact ⟨rfl, _, rfl, SC.rf⟩
  have hy9 := hy
  obtain ⟨i, hi, rfl⟩ := hy
  refine SIML.q I (x := ml (55 + 2 * t) i) (dc := 7) (dm := 27) (by decide) (by decide) ?_ ?_
  · refine Wp.run 2 (2, [(0, .ref 0), (1, .int (nI t)), (2, .int (nI i))], [.int 5, .int (nI t)], (zsh ++ vs, mi, ml, (zmr g))) rfl ?_
    refine Wp.call (as := [.int (nI t), .int 5]) (rest := []) rfl rfl rfl rfl rfl (Nat.le_of_ble_eq_true rfl) (Nat.le_of_ble_eq_true rfl) rfl (by decide) (c_within_t hx) ?_
    rintro _ _ ⟨rfl, rfl⟩
    refine Wp.run 5 (14, [(0, .ref 0), (1, .int (nI t)), (2, .int (nI i))], [.int (nI t), .ref 53, .int (nI i)], (zsh ++ vs, mi, ml, (zmr g))) rfl ?_
    refine Wp.aald (v := 54 + 2 * t) rfl (by decide) rfl (vp_nI (by omega) (by decide)) (by show zmr g 53 (nI t).toNatClampNeg = _; rw [nI_clamp (by omega)]; exact tp_ref ht) (by show _ < 500; omega) ?_
    refine Wp.gint rfl (by decide) (tp_ob ht) rfl (by decide) ?_
    refine Wp.topi (y := nI l) (e1) ?_
    refine Wp.run 2 (20, [(0, .ref 0), (1, .int (nI t)), (2, .int (nI i))], [.int ((nI l) - 1), .int (nI i)], (zsh ++ vs, mi, ml, (zmr g))) rfl ?_
    refine Wp.call (as := [.int (nI i), .int ((nI l) - 1)]) (rest := []) rfl rfl rfl rfl rfl (Nat.le_of_ble_eq_true rfl) (Nat.le_of_ble_eq_true rfl) rfl (by decide) (c_within_t ((one_leG (by omega)).mpr hy9)) ?_
    rintro _ _ ⟨rfl, rfl⟩
    refine Wp.run 4 (35, [(0, .ref 0), (1, .int (nI t)), (2, .int (nI i))], [.int (nI t), .ref 53], (zsh ++ vs, mi, ml, (zmr g))) rfl ?_
    refine Wp.aald (v := 54 + 2 * t) rfl (by decide) rfl (vp_nI (by omega) (by decide)) (by show zmr g 53 (nI t).toNatClampNeg = _; rw [nI_clamp (by omega)]; exact tp_ref ht) (by show _ < 500; omega) ?_
    refine Wp.gref rfl (tp_g2 ht) rfl (tp_it ht) ?_
    refine Wp.run 1 (40, [(0, .ref 0), (1, .int (nI t)), (2, .int (nI i))], [.int (nI i), .ref (55 + 2 * t)], (zsh ++ vs, mi, ml, (zmr g))) rfl ?_
    refine Wp.laln rfl (by show _ < 500; omega) (tp_sh ht) (by omega) (by omega) ?_
    refine Wp.run 0 (41, [(0, .ref 0), (1, .int (nI t)), (2, .int (nI i))], [.long (ml (55 + 2 * t) i)], (zsh ++ vs, mi, ml, (zmr g))) rfl ?_
    refine Wp.ret rfl rfl rfl ?_
    exact ⟨rfl, _, _, rfl, SC.rf, fun _ _ _ => rfl⟩
  · intro m g' I' e67 S
    have B' := I'.1.1
    have hn' := B'.2.1
    have hN' := B'.1.1
    have hd' := B'.1.2.2.1
    refine Wp.run 1 (1, [(0, .ref 66), (1, .int (nI t)), (2, .int (nI i))], [.int (nI t)], (zsh ++ vs, m, ml, (zmr g'))) rfl ?_
    refine Wp.call (as := [.int (nI t)]) (rest := []) rfl rfl rfl rfl rfl (Nat.le_of_ble_eq_true rfl) (Nat.le_of_ble_eq_true rfl) rfl (by decide) (m_isTape_t hx) ?_
    rintro _ _ ⟨rfl, rfl⟩
    refine Wp.run 6 (14, [(0, .ref 66), (1, .int (nI t)), (2, .int (nI i))], [.int (nI t), .ref 83, .int 0, .int (nI i)], (zsh ++ vs, m, ml, (zmr g'))) rfl ?_
    refine Wp.ialn rfl (by decide) rfl (by omega) (by decide) ?_
    refine Wp.topi (y := nI l) (m83 S) ?_
    refine Wp.run 2 (17, [(0, .ref 66), (1, .int (nI t)), (2, .int (nI i))], [.int ((nI l) - 1), .int 0, .int (nI i)], (zsh ++ vs, m, ml, (zmr g'))) rfl ?_
    refine Wp.call (as := [.int (nI i), .int 0, .int ((nI l) - 1)]) (rest := []) rfl rfl rfl rfl rfl (Nat.le_of_ble_eq_true rfl) (Nat.le_of_ble_eq_true rfl) rfl (by decide) (m_isIn_t ((one_leG (by omega)).mpr hy9)) ?_
    rintro _ _ ⟨rfl, rfl⟩
    refine Wp.run 8 (33, [(0, .ref 66), (1, .int (nI t)), (2, .int (nI i))], [.int ((60 * (nI t)) + (nI i)), .ref 84], (zsh ++ vs, m, ml, (zmr g'))) rfl ?_
    refine Wp.topi (y := nI (60 * t + i)) (ix_60 t i) ?_
    refine Wp.laln rfl (by decide) rfl (by omega) (by decide) ?_
    refine Wp.run 1 (40, [(0, .ref 66), (1, .int (nI t)), (2, .int (nI i))], [.long (ml 84 (60 * t + i))], (zsh ++ vs, m, ml, (zmr g'))) rfl ?_
    refine Wp.ret rfl rfl rfl ?_
    exact ⟨congrArg (fun z => some (Value.long z)) ((e5 i (by omega)).symm), _, rfl, SC.rf⟩
def jdR (l j : Nat) (a : Nat → Bool) : Nat → Nat → Int32
  | 0, _ => -5
  | k + 1, p => if l ≤ j + p then nI (100 + p) else if a p = true then jdR l j a k (p + 1) else nI p
theorem jdR_a {l j k p : Nat} {a : Nat → Bool} (h : l ≤ j + p) : jdR l j a (k + 1) p = nI (100 + p) := by rw [jdR, if_pos h]
theorem jdR_b {l j k p : Nat} {a : Nat → Bool} (h : ¬ l ≤ j + p) (h2 : a p = true) : jdR l j a (k + 1) p = jdR l j a k (p + 1) := by rw [jdR, if_neg h, if_pos h2]
theorem jdR_c {l j k p : Nat} {a : Nat → Bool} (h : ¬ l ≤ j + p) (h2 : ¬ a p = true) : jdR l j a (k + 1) p = nI p := by rw [jdR, if_neg h, if_neg h2]
theorem sub_toInt {a b : Nat} (ha : a < 2 ^ 30) (hb : b < 2 ^ 31) : (nI a - nI b).toInt = (a : Int) - b := by
  rw [Int32.toInt_sub, nI_toInt (by omega), nI_toInt (by omega)]
  exact Int.bmod_eq_of_le (by omega) (by omega)
theorem jd_lt {l j p : Nat} (hl : l ≤ 60) (hj : j < 2 ^ 31) (hp : p < 8) : nI j < nI l - nI p ↔ ¬ l ≤ j + p := by
  rw [Int32.lt_iff_toInt_lt, sub_toInt (by omega) (by omega), nI_toInt hj]
  omega
theorem jd_ltL {l j p : Nat} (hl : l ≤ 60) (hj : j < 2 ^ 31) (hp : p < 8) : lg_cmp ((nI j).toInt64 + (nI p).toInt64) ((nI l).toInt64) < 0 ↔ ¬ l ≤ j + p := by
  rw [lg_cmp_lt, nI_l hj, nI_l (by omega), nI_l (by omega), lN_add, pk_lLT (by omega) (by omega)]
  omega
theorem jd_ix {j p : Nat} (hj : j < 2 ^ 31) (hp : p < 8) : ((nI j).toInt64 + (nI p).toInt64).toInt32 = nI (j + p) := by
  rw [nI_l hj, nI_l (by omega), lN_add, lN_i]
abbrev jdA (mi : Nat → Nat → Int32) (ml : Nat → Nat → Int64) (t j : Nat) (p : Nat) : Bool := decide (ml 84 (60 * t + (j + p)) = (mi 67 p).toInt64)
theorem c_jd {E : zEn} {vs : List (Nat × Nat)} {mi : Nat → Nat → Int32} {ml : Nat → Nat → Int64} {g : Nat → Nat → Option Nat} {t i l : Nat} (ht : t < 6) (hl : l ≤ 60) (hi31 : i < 2 ^ 31) (e1 : mi (54 + 2 * t) 1 = nI l) (e5 : ∀ j, j < 60 → ml (55 + 2 * t) j = ml 84 (60 * t + j)) (hst : ∀ p, p < 8 → mi 2 p = mi 67 p) : ∀ (k j : Nat), j + k = 8 → Wp E 0 pg_Tape_firstOtherwise 9 [(0, .ref (54 + 2 * t)), (1, .int (nI i)), (2, .ref 2), (3, .int (nI j))] [] (zsh ++ vs, mi, ml, (zmr g)) (fun r w' => r = some (.int (jdR l i (jdA mi ml t i) k j)) ∧ w' = (zsh ++ vs, mi, ml, zmr g)) := by
  intro k
  induction k with
  | zero =>
    intro j  hj 
    obtain rfl : 8 = j := by omega
    refine Wp.run 2 (12, [(0, .ref (54 + 2 * t)), (1, .int (nI i)), (2, .ref 2), (3, .int (nI 8))], [.int 8, .int (nI 8)], (zsh ++ vs, mi, ml, (zmr g))) rfl ?_
    refine Wp.icmp_ge rfl (fun h31 => ?_) (fun h31 => ?_)
    · refine Wp.run 1 (56, [(0, .ref (54 + 2 * t)), (1, .int (nI i)), (2, .ref 2), (3, .int (nI 8))], [.int (-5)], (zsh ++ vs, mi, ml, (zmr g))) rfl ?_
      refine Wp.ret rfl rfl rfl ?_
      exact ⟨rfl, rfl⟩
    · exact absurd (Int32.le_refl _) h31
  | succ k ih =>
    intro j  hj 
    have hjc : j < 8 := by omega
    refine Wp.run 2 (12, [(0, .ref (54 + 2 * t)), (1, .int (nI i)), (2, .ref 2), (3, .int (nI j))], [.int 8, .int (nI j)], (zsh ++ vs, mi, ml, (zmr g))) rfl ?_
    refine Wp.icmp_ge rfl (fun h31 => ?_) (fun h31 => ?_)
    · exact absurd h31 (nI_ge (b := 8) hjc (by omega))
    · refine Wp.run 2 (17, [(0, .ref (54 + 2 * t)), (1, .int (nI i)), (2, .ref 2), (3, .int (nI j))], [.ref (54 + 2 * t), .int (nI i)], (zsh ++ vs, mi, ml, (zmr g))) rfl ?_
      refine Wp.gint rfl (by decide) (tp_ob ht) rfl (by decide) ?_
      refine Wp.topi (y := nI l) (e1) ?_
      refine Wp.run 2 (22, [(0, .ref (54 + 2 * t)), (1, .int (nI i)), (2, .ref 2), (3, .int (nI j))], [.int ((nI l) - (nI j)), .int (nI i)], (zsh ++ vs, mi, ml, (zmr g))) rfl ?_
      refine Wp.icmp_lt rfl (fun h32 => ?_) (fun h32 => ?_)
      · have hlj := (jd_lt hl hi31 (by omega)).mp h32
        have he : ml (55 + 2 * t) (i + j) = ml 84 (60 * t + (i + j)) := e5 (i + j) (by omega)
        refine Wp.run 1 (31, [(0, .ref (54 + 2 * t)), (1, .int (nI i)), (2, .ref 2), (3, .int (nI j))], [.ref (54 + 2 * t)], (zsh ++ vs, mi, ml, (zmr g))) rfl ?_
        refine Wp.gref rfl (tp_g2 ht) rfl (tp_it ht) ?_
        refine Wp.run 3 (37, [(0, .ref (54 + 2 * t)), (1, .int (nI i)), (2, .ref 2), (3, .int (nI j))], [.int ((nI i) + (nI j)), .ref (55 + 2 * t)], (zsh ++ vs, mi, ml, (zmr g))) rfl ?_
        refine Wp.topi (y := nI (i + j)) (nI_add i j) ?_
        refine Wp.laln rfl (by show _ < 500; omega) (tp_sh ht) (by omega) (by omega) ?_
        refine Wp.run 2 (40, [(0, .ref (54 + 2 * t)), (1, .int (nI i)), (2, .ref 2), (3, .int (nI j))], [.int (nI j), .ref 2, .long (ml (55 + 2 * t) (i + j))], (zsh ++ vs, mi, ml, (zmr g))) rfl ?_
        refine Wp.ialn rfl (by decide) rfl (by omega) (by decide) ?_
        refine Wp.topi (y := mi 67 j) (hst j (by omega)) ?_
        refine Wp.run 2 (43, [(0, .ref (54 + 2 * t)), (1, .int (nI i)), (2, .ref 2), (3, .int (nI j))], [.int (lg_cmp (ml (55 + 2 * t) (i + j)) ((mi 67 j : Int32).toInt64))], (zsh ++ vs, mi, ml, (zmr g))) rfl ?_
        refine Wp.if_eq rfl (fun h33 => ?_) (fun h33 => ?_)
        · refine Wp.run 2 (9, [(3, .int ((nI j) + 1)), (0, .ref (54 + 2 * t)), (1, .int (nI i)), (2, .ref 2)], [], (zsh ++ vs, mi, ml, (zmr g))) rfl ?_
          rw [nI_1]
          refine Wp.sub (a := [(0, .ref (54 + 2 * t)), (1, .int (nI i)), (2, .ref 2), (3, .int (nI (j + 1)))]) (zle_cons rfl (zle_cons rfl (zle_cons rfl (zle_cons rfl (zle_nil))))) ?_
          rw [jdR_b hlj (by simp only [jdA, decide_eq_true_eq]; exact he.symm.trans ((lg_cmp_eq _ _).mp h33))]
          exact ih (j + 1) (by omega)
        · refine Wp.run 1 (47, [(0, .ref (54 + 2 * t)), (1, .int (nI i)), (2, .ref 2), (3, .int (nI j))], [.int (nI j)], (zsh ++ vs, mi, ml, (zmr g))) rfl ?_
          refine Wp.ret rfl rfl rfl ?_
          exact ⟨by rw [jdR_c hlj (by simp only [jdA, decide_eq_true_eq]; exact fun z => h33 ((lg_cmp_eq _ _).mpr (he.trans z)))], rfl⟩
      · refine Wp.run 3 (29, [(0, .ref (54 + 2 * t)), (1, .int (nI i)), (2, .ref 2), (3, .int (nI j))], [.int (100 + (nI j))], (zsh ++ vs, mi, ml, (zmr g))) rfl ?_
        refine Wp.ret rfl rfl rfl ?_
        refine ⟨congrArg (fun z => some (Value.int z)) ?_, rfl⟩
        rw [jdR_a (Classical.byContradiction (fun z => h32 ((jd_lt hl hi31 (by omega)).mpr z)))]
        exact nI_add 100 j
theorem m_jd {E : zEn} {vs : List (Nat × Nat)} {mi : Nat → Nat → Int32} {ml : Nat → Nat → Int64} {g : Nat → Nat → Option Nat} {t i l : Nat} (ht : t < 6) (hl : l ≤ 60) (hi31 : i < 2 ^ 31) (e2 : mi 83 t = nI l) : ∀ (k j : Nat), j + k = 8 → Wp E 2 pg_M_judge 23 [(0, .ref 66), (1, .int (nI t)), (2, .int (nI i)), (3, .int (nI j))] [] (zsh ++ vs, mi, ml, (zmr g)) (fun r w' => r = some (.int (jdR l i (jdA mi ml t i) k j)) ∧ w' = (zsh ++ vs, mi, ml, zmr g)) := by
  intro k
  induction k with
  | zero =>
    intro j  hj 
    obtain rfl : 8 = j := by omega
    refine Wp.run 2 (26, [(0, .ref 66), (1, .int (nI t)), (2, .int (nI i)), (3, .int (nI 8))], [.int 8, .int (nI 8)], (zsh ++ vs, mi, ml, (zmr g))) rfl ?_
    refine Wp.icmp_ge rfl (fun h31 => ?_) (fun h31 => ?_)
    · refine Wp.run 1 (92, [(0, .ref 66), (1, .int (nI t)), (2, .int (nI i)), (3, .int (nI 8))], [.int (-5)], (zsh ++ vs, mi, ml, (zmr g))) rfl ?_
      refine Wp.ret rfl rfl rfl ?_
      exact ⟨rfl, rfl⟩
    · exact absurd (Int32.le_refl _) h31
  | succ k ih =>
    intro j  hj 
    have hjc : j < 8 := by omega
    refine Wp.run 2 (26, [(0, .ref 66), (1, .int (nI t)), (2, .int (nI i)), (3, .int (nI j))], [.int 8, .int (nI j)], (zsh ++ vs, mi, ml, (zmr g))) rfl ?_
    refine Wp.icmp_ge rfl (fun h31 => ?_) (fun h31 => ?_)
    · exact absurd h31 (nI_ge (b := 8) hjc (by omega))
    · refine Wp.run 7 (37, [(4, .long (((nI i : Int32).toInt64) + ((nI j : Int32).toInt64))), (0, .ref 66), (1, .int (nI t)), (2, .int (nI i)), (3, .int (nI j))], [.int (nI i)], (zsh ++ vs, mi, ml, (zmr g))) rfl ?_
      refine Wp.if_lt rfl (fun h32 => ?_) (fun h32 => ?_)
      · exact absurd h32 (Int32.not_lt.mpr (nI_pos' hi31))
      · refine Wp.run 4 (47, [(4, .long (((nI i : Int32).toInt64) + ((nI j : Int32).toInt64))), (0, .ref 66), (1, .int (nI t)), (2, .int (nI i)), (3, .int (nI j))], [.int (nI t), .ref 83, .long (((nI i : Int32).toInt64) + ((nI j : Int32).toInt64))], (zsh ++ vs, mi, ml, (zmr g))) rfl ?_
        refine Wp.ialn rfl (by decide) rfl (by omega) (by decide) ?_
        refine Wp.topi (y := nI l) (e2) ?_
        refine Wp.run 2 (50, [(4, .long (((nI i : Int32).toInt64) + ((nI j : Int32).toInt64))), (0, .ref 66), (1, .int (nI t)), (2, .int (nI i)), (3, .int (nI j))], [.int (lg_cmp (((nI i : Int32).toInt64) + ((nI j : Int32).toInt64)) ((nI l : Int32).toInt64))], (zsh ++ vs, mi, ml, (zmr g))) rfl ?_
        refine Wp.if_lt rfl (fun h33 => ?_) (fun h33 => ?_)
        · have hlj := (jd_ltL hl hi31 (by omega)).mp h33
          refine Wp.run 7 (69, [(4, .long (((nI i : Int32).toInt64) + ((nI j : Int32).toInt64))), (0, .ref 66), (1, .int (nI t)), (2, .int (nI i)), (3, .int (nI j))], [.int ((((nI i : Int32).toInt64) + ((nI j : Int32).toInt64) : Int64).toInt32), .int (60 * (nI t)), .ref 84], (zsh ++ vs, mi, ml, (zmr g))) rfl ?_
          refine Wp.topi (y := nI (i + j)) (jd_ix hi31 (by omega)) ?_
          refine Wp.run 1 (70, [(4, .long (((nI i : Int32).toInt64) + ((nI j : Int32).toInt64))), (0, .ref 66), (1, .int (nI t)), (2, .int (nI i)), (3, .int (nI j))], [.int ((60 * (nI t)) + (nI (i + j))), .ref 84], (zsh ++ vs, mi, ml, (zmr g))) rfl ?_
          refine Wp.topi (y := nI (60 * t + (i + j))) (ix_60 t (i + j)) ?_
          refine Wp.laln rfl (by decide) rfl (by omega) (by decide) ?_
          refine Wp.run 3 (76, [(4, .long (((nI i : Int32).toInt64) + ((nI j : Int32).toInt64))), (0, .ref 66), (1, .int (nI t)), (2, .int (nI i)), (3, .int (nI j))], [.int (nI j), .ref 67, .long (ml 84 (60 * t + (i + j)))], (zsh ++ vs, mi, ml, (zmr g))) rfl ?_
          refine Wp.ialn rfl (by decide) rfl (by omega) (by decide) ?_
          refine Wp.run 2 (79, [(4, .long (((nI i : Int32).toInt64) + ((nI j : Int32).toInt64))), (0, .ref 66), (1, .int (nI t)), (2, .int (nI i)), (3, .int (nI j))], [.int (lg_cmp (ml 84 (60 * t + (i + j))) ((mi 67 j : Int32).toInt64))], (zsh ++ vs, mi, ml, (zmr g))) rfl ?_
          refine Wp.if_eq rfl (fun h34 => ?_) (fun h34 => ?_)
          · refine Wp.run 2 (23, [(3, .int ((nI j) + 1)), (4, .long (((nI i : Int32).toInt64) + ((nI j : Int32).toInt64))), (0, .ref 66), (1, .int (nI t)), (2, .int (nI i))], [], (zsh ++ vs, mi, ml, (zmr g))) rfl ?_
            rw [nI_1]
            refine Wp.sub (a := [(0, .ref 66), (1, .int (nI t)), (2, .int (nI i)), (3, .int (nI (j + 1)))]) (zle_cons rfl (zle_cons rfl (zle_cons rfl (zle_cons rfl (zle_nil))))) ?_
            rw [jdR_b hlj (by simp only [jdA, decide_eq_true_eq]; exact (lg_cmp_eq _ _).mp h34)]
            exact ih (j + 1) (by omega)
          · refine Wp.run 1 (83, [(4, .long (((nI i : Int32).toInt64) + ((nI j : Int32).toInt64))), (0, .ref 66), (1, .int (nI t)), (2, .int (nI i)), (3, .int (nI j))], [.int (nI j)], (zsh ++ vs, mi, ml, (zmr g))) rfl ?_
            refine Wp.ret rfl rfl rfl ?_
            exact ⟨by rw [jdR_c hlj (by simp only [jdA, decide_eq_true_eq]; exact fun z => h34 ((lg_cmp_eq _ _).mpr z))], rfl⟩
        · refine Wp.run 3 (57, [(4, .long (((nI i : Int32).toInt64) + ((nI j : Int32).toInt64))), (0, .ref 66), (1, .int (nI t)), (2, .int (nI i)), (3, .int (nI j))], [.int (100 + (nI j))], (zsh ++ vs, mi, ml, (zmr g))) rfl ?_
          refine Wp.ret rfl rfl rfl ?_
          refine ⟨congrArg (fun z => some (Value.int z)) ?_, rfl⟩
          rw [jdR_a (Classical.byContradiction (fun z => h33 ((jd_ltL hl hi31 (by omega)).mpr z)))]
          exact nI_add 100 j
theorem c_jd0 {E : zEn} {vs : List (Nat × Nat)} {mi : Nat → Nat → Int32} {ml : Nat → Nat → Int64} {g : Nat → Nat → Option Nat} {t : Nat} {y : Int32} (hy : y < 0) : Wp E 0 pg_Tape_firstOtherwise 0 (lv_args 0 [.ref (54 + 2 * t), .int y, .ref 2]) [] (zsh ++ vs, mi, ml, zmr g) (fun r w' => r = some (.int 100) ∧ w' = (zsh ++ vs, mi, ml, zmr g)) := by
  refine Wp.run 1 (1, [(0, .ref (54 + 2 * t)), (1, .int y), (2, .ref 2)], [.int y], (zsh ++ vs, mi, ml, (zmr g))) rfl ?_
  refine Wp.if_ge rfl (fun h1 => ?_) (fun h1 => ?_)
  · exact absurd hy (Int32.not_lt.mpr h1)
  · refine Wp.run 1 (6, [(0, .ref (54 + 2 * t)), (1, .int y), (2, .ref 2)], [.int 100], (zsh ++ vs, mi, ml, (zmr g))) rfl ?_
    refine Wp.ret rfl rfl rfl ?_
    exact ⟨rfl, rfl⟩
theorem c_jdf {E : zEn} {vs : List (Nat × Nat)} {mi : Nat → Nat → Int32} {ml : Nat → Nat → Int64} {g : Nat → Nat → Option Nat} {t i l : Nat} (ht : t < 6) (hl : l ≤ 60) (hi31 : i < 2 ^ 31) (e1 : mi (54 + 2 * t) 1 = nI l) (e5 : ∀ j, j < 60 → ml (55 + 2 * t) j = ml 84 (60 * t + j)) (hst : ∀ p, p < 8 → mi 2 p = mi 67 p) : Wp E 0 pg_Tape_firstOtherwise 0 (lv_args 0 [.ref (54 + 2 * t), .int (nI i), .ref 2]) [] (zsh ++ vs, mi, ml, (zmr g)) (fun r w' => r = some (.int (jdR l i (jdA mi ml t i) 8 0)) ∧ w' = (zsh ++ vs, mi, ml, zmr g)) := by
  refine Wp.run 1 (1, [(0, .ref (54 + 2 * t)), (1, .int (nI i)), (2, .ref 2)], [.int (nI i)], (zsh ++ vs, mi, ml, (zmr g))) rfl ?_
  refine Wp.if_ge rfl (fun h1 => ?_) (fun h1 => ?_)
  · refine Wp.run 2 (9, [(3, .int 0), (0, .ref (54 + 2 * t)), (1, .int (nI i)), (2, .ref 2)], [], (zsh ++ vs, mi, ml, (zmr g))) rfl ?_
    refine Wp.sub (a := [(0, .ref (54 + 2 * t)), (1, .int (nI i)), (2, .ref 2), (3, .int (nI 0))]) (zle_cons rfl (zle_cons rfl (zle_cons rfl (zle_cons rfl (zle_nil))))) ?_
    exact c_jd ht hl hi31 e1 e5 hst 8 0 (by omega)
  · exact absurd (nI_pos' hi31) h1
theorem sim_judge {E : zEn} {nv : Nat} {VD : Nat → zV} {NL : Nat → Nat} {n dd : Nat} {vs : List (Nat × Nat)} {mi : Nat → Nat → Int32} {ml : Nat → Nat → Int64} {g : Nat → Nat → Option Nat} (I : INV nv VD NL n dd vs mi ml g) (x y : Int32) : SIM E vs mi ml g pg_H_judge pg_M_judge [.int x, .int y] := by
  have B := I.1.1
  have h6 := B.1.2.1
  have hn := B.2.1
  have hN := B.1.1
  have hd := B.1.2.2.1
  have hdd := I.1.2
  by_cases hx : 0 ≤ x ∧ x ≤ 5
  rotate_left
  · refine SIM.q I (x := -1) (dc := 7) (dm := 27) (by decide) (by decide) ?_ ?_
    · refine Wp.run 2 (2, [(0, .ref 0), (1, .int x), (2, .int y)], [.int 5, .int x], (zsh ++ vs, mi, ml, (zmr g))) rfl ?_
      refine Wp.call (as := [.int x, .int 5]) (rest := []) rfl rfl rfl rfl rfl (Nat.le_of_ble_eq_true rfl) (Nat.le_of_ble_eq_true rfl) rfl (by decide) (c_within_f hx) ?_
      rintro _ _ ⟨rfl, rfl⟩
      refine Wp.run 2 (9, [(0, .ref 0), (1, .int x), (2, .int y)], [.int (-1)], (zsh ++ vs, mi, ml, (zmr g))) rfl ?_
      refine Wp.ret rfl rfl rfl ?_
      exact ⟨rfl, _, _, rfl, SC.rf, fun _ _ _ => rfl⟩
    · intro m g' I' e67 S
      have B' := I'.1.1
      have hn' := B'.2.1
      have hN' := B'.1.1
      have hd' := B'.1.2.2.1
      refine Wp.run 1 (1, [(0, .ref 66), (1, .int x), (2, .int y)], [.int x], (zsh ++ vs, m, ml, (zmr g'))) rfl ?_
      refine Wp.call (as := [.int x]) (rest := []) rfl rfl rfl rfl rfl (Nat.le_of_ble_eq_true rfl) (Nat.le_of_ble_eq_true rfl) rfl (by decide) (m_isTape_f hx) ?_
      rintro _ _ ⟨rfl, rfl⟩
      refine Wp.run 2 (8, [(0, .ref 66), (1, .int x), (2, .int y)], [.int (-1)], (zsh ++ vs, m, ml, (zmr g'))) rfl ?_
      refine Wp.ret rfl rfl rfl ?_
      exact ⟨rfl, _, rfl, SC.rf⟩
  obtain ⟨t, ht5, rfl⟩ := rng_of (h := 5) rfl hx
  have ht : t < 6 := by omega
  obtain ⟨l, hl, e1, e2, e3, e4, e5⟩ := I.2.2.2.2.2.2.1 t ht
  have m82 : ∀ {m : Nat → Nat → Int32}, SC mi m → m 82 t = mi 82 t := fun S => congrFun (S.c (b := 82) (by decide)) t
  have m83 : ∀ {m : Nat → Nat → Int32}, SC mi m → m 83 t = nI l := fun S => (congrFun (S.c (b := 83) (by decide)) t).trans e2
  by_cases hs : mi 82 t = -1 ∨ mi 82 t = 0
  rotate_left
  · rcases e4 with ⟨e4, -⟩ | ⟨s, hs5, e4⟩
    · exact absurd (Or.inl e4) hs
    have s0 : 0 < s := Nat.pos_of_ne_zero (fun q => hs (Or.inr (e4.trans (congrArg nI q))))
    refine SIM.q I (x := -12) (dc := 7) (dm := 27) (by decide) (by decide) ?_ ?_
    · refine Wp.run 2 (2, [(0, .ref 0), (1, .int (nI t)), (2, .int y)], [.int 5, .int (nI t)], (zsh ++ vs, mi, ml, (zmr g))) rfl ?_
      refine Wp.call (as := [.int (nI t), .int 5]) (rest := []) rfl rfl rfl rfl rfl (Nat.le_of_ble_eq_true rfl) (Nat.le_of_ble_eq_true rfl) rfl (by decide) (c_within_t hx) ?_
      rintro _ _ ⟨rfl, rfl⟩
      refine Wp.run 4 (15, [(0, .ref 0), (1, .int (nI t)), (2, .int y)], [.int (nI t), .ref 53], (zsh ++ vs, mi, ml, (zmr g))) rfl ?_
      refine Wp.aald (v := 54 + 2 * t) rfl (by decide) rfl (vp_nI (by omega) (by decide)) (by show zmr g 53 (nI t).toNatClampNeg = _; rw [nI_clamp (by omega)]; exact tp_ref ht) (by show _ < 500; omega) ?_
      refine Wp.run 2 (18, [(3, .ref (54 + 2 * t)), (0, .ref 0), (1, .int (nI t)), (2, .int y)], [.ref (54 + 2 * t)], (zsh ++ vs, mi, ml, (zmr g))) rfl ?_
      refine Wp.gint rfl (by decide) (tp_ob ht) rfl (by decide) ?_
      refine Wp.topi (y := nI s) (e3.trans e4) ?_
      refine Wp.run 1 (22, [(3, .ref (54 + 2 * t)), (0, .ref 0), (1, .int (nI t)), (2, .int y)], [.int (-1), .int (nI s)], (zsh ++ vs, mi, ml, (zmr g))) rfl ?_
      refine Wp.icmp_eq rfl (fun h1 => ?_) (fun h1 => ?_)
      · exact absurd h1 (ne_m1 (by omega))
      · refine Wp.run 1 (26, [(3, .ref (54 + 2 * t)), (0, .ref 0), (1, .int (nI t)), (2, .int y)], [.ref (54 + 2 * t)], (zsh ++ vs, mi, ml, (zmr g))) rfl ?_
        refine Wp.gint rfl (by decide) (tp_ob ht) rfl (by decide) ?_
        refine Wp.topi (y := nI s) (e3.trans e4) ?_
        refine Wp.run 0 (29, [(3, .ref (54 + 2 * t)), (0, .ref 0), (1, .int (nI t)), (2, .int y)], [.int (nI s)], (zsh ++ vs, mi, ml, (zmr g))) rfl ?_
        refine Wp.if_eq rfl (fun h2 => ?_) (fun h2 => ?_)
        · exact absurd h2 (nI_ne0 s0 (by omega))
        · refine Wp.run 1 (34, [(3, .ref (54 + 2 * t)), (0, .ref 0), (1, .int (nI t)), (2, .int y)], [.int (-12)], (zsh ++ vs, mi, ml, (zmr g))) rfl ?_
          refine Wp.ret rfl rfl rfl ?_
          exact ⟨rfl, _, _, rfl, SC.rf, fun _ _ _ => rfl⟩
    · intro m g' I' e67 S
      have B' := I'.1.1
      have hn' := B'.2.1
      have hN' := B'.1.1
      have hd' := B'.1.2.2.1
      refine Wp.run 1 (1, [(0, .ref 66), (1, .int (nI t)), (2, .int y)], [.int (nI t)], (zsh ++ vs, m, ml, (zmr g'))) rfl ?_
      refine Wp.call (as := [.int (nI t)]) (rest := []) rfl rfl rfl rfl rfl (Nat.le_of_ble_eq_true rfl) (Nat.le_of_ble_eq_true rfl) rfl (by decide) (m_isTape_t hx) ?_
      rintro _ _ ⟨rfl, rfl⟩
      refine Wp.run 4 (14, [(0, .ref 66), (1, .int (nI t)), (2, .int y)], [.int (nI t), .ref 82], (zsh ++ vs, m, ml, (zmr g'))) rfl ?_
      refine Wp.ialn rfl (by decide) rfl (by omega) (by decide) ?_
      refine Wp.topi (y := nI s) ((m82 S).trans e4) ?_
      refine Wp.run 0 (15, [(0, .ref 66), (1, .int (nI t)), (2, .int y)], [.int (nI s)], (zsh ++ vs, m, ml, (zmr g'))) rfl ?_
      refine Wp.if_le rfl (fun h51 => ?_) (fun h51 => ?_)
      · exact absurd h51 (nI_nle s0 (by omega))
      · refine Wp.run 1 (20, [(0, .ref 66), (1, .int (nI t)), (2, .int y)], [.int (-12)], (zsh ++ vs, m, ml, (zmr g'))) rfl ?_
        refine Wp.ret rfl rfl rfl ?_
        exact ⟨rfl, _, rfl, SC.rf⟩
  by_cases hy : y < 0
  · rcases hs with hs | hs
    · refine SIM.q I (x := 100) (dc := 7) (dm := 27) (by decide) (by decide) ?_ ?_
      · refine Wp.run 2 (2, [(0, .ref 0), (1, .int (nI t)), (2, .int y)], [.int 5, .int (nI t)], (zsh ++ vs, mi, ml, (zmr g))) rfl ?_
        refine Wp.call (as := [.int (nI t), .int 5]) (rest := []) rfl rfl rfl rfl rfl (Nat.le_of_ble_eq_true rfl) (Nat.le_of_ble_eq_true rfl) rfl (by decide) (c_within_t hx) ?_
        rintro _ _ ⟨rfl, rfl⟩
        refine Wp.run 4 (15, [(0, .ref 0), (1, .int (nI t)), (2, .int y)], [.int (nI t), .ref 53], (zsh ++ vs, mi, ml, (zmr g))) rfl ?_
        refine Wp.aald (v := 54 + 2 * t) rfl (by decide) rfl (vp_nI (by omega) (by decide)) (by show zmr g 53 (nI t).toNatClampNeg = _; rw [nI_clamp (by omega)]; exact tp_ref ht) (by show _ < 500; omega) ?_
        refine Wp.run 2 (18, [(3, .ref (54 + 2 * t)), (0, .ref 0), (1, .int (nI t)), (2, .int y)], [.ref (54 + 2 * t)], (zsh ++ vs, mi, ml, (zmr g))) rfl ?_
        refine Wp.gint rfl (by decide) (tp_ob ht) rfl (by decide) ?_
        refine Wp.topi (y := -1) (e3.trans hs) ?_
        refine Wp.run 7 (44, [(3, .ref (54 + 2 * t)), (0, .ref 0), (1, .int (nI t)), (2, .int y)], [.ref 2, .int y, .ref (54 + 2 * t)], (zsh ++ vs, mi, ml, (zmr g))) rfl ?_
        refine Wp.call (as := [.ref (54 + 2 * t), .int y, .ref 2]) (rest := []) rfl rfl rfl rfl rfl (Nat.le_of_ble_eq_true rfl) (Nat.le_of_ble_eq_true rfl) (tp_rc ht) (by decide) (c_jd0 hy) ?_
        rintro _ _ ⟨rfl, rfl⟩
        refine Wp.run 0 (47, [(3, .ref (54 + 2 * t)), (0, .ref 0), (1, .int (nI t)), (2, .int y)], [.int 100], (zsh ++ vs, mi, ml, (zmr g))) rfl ?_
        refine Wp.ret rfl rfl rfl ?_
        exact ⟨rfl, _, _, rfl, SC.rf, fun _ _ _ => rfl⟩
      · intro m g' I' e67 S
        have B' := I'.1.1
        have hn' := B'.2.1
        have hN' := B'.1.1
        have hd' := B'.1.2.2.1
        refine Wp.run 1 (1, [(0, .ref 66), (1, .int (nI t)), (2, .int y)], [.int (nI t)], (zsh ++ vs, m, ml, (zmr g'))) rfl ?_
        refine Wp.call (as := [.int (nI t)]) (rest := []) rfl rfl rfl rfl rfl (Nat.le_of_ble_eq_true rfl) (Nat.le_of_ble_eq_true rfl) rfl (by decide) (m_isTape_t hx) ?_
        rintro _ _ ⟨rfl, rfl⟩
        refine Wp.run 4 (14, [(0, .ref 66), (1, .int (nI t)), (2, .int y)], [.int (nI t), .ref 82], (zsh ++ vs, m, ml, (zmr g'))) rfl ?_
        refine Wp.ialn rfl (by decide) rfl (by omega) (by decide) ?_
        refine Wp.topi (y := -1) ((m82 S).trans hs) ?_
        refine Wp.run 13 (37, [(4, .long (((y : Int32).toInt64) + ((0 : Int32).toInt64))), (3, .int 0), (0, .ref 66), (1, .int (nI t)), (2, .int y)], [.int y], (zsh ++ vs, m, ml, (zmr g'))) rfl ?_
        refine Wp.if_lt rfl (fun h51 => ?_) (fun h51 => ?_)
        · refine Wp.run 3 (57, [(4, .long (((y : Int32).toInt64) + ((0 : Int32).toInt64))), (3, .int 0), (0, .ref 66), (1, .int (nI t)), (2, .int y)], [.int 100], (zsh ++ vs, m, ml, (zmr g'))) rfl ?_
          refine Wp.ret rfl rfl rfl ?_
          exact ⟨rfl, _, rfl, SC.rf⟩
        · exact absurd hy h51
    · refine SIM.q I (x := 100) (dc := 7) (dm := 27) (by decide) (by decide) ?_ ?_
      · refine Wp.run 2 (2, [(0, .ref 0), (1, .int (nI t)), (2, .int y)], [.int 5, .int (nI t)], (zsh ++ vs, mi, ml, (zmr g))) rfl ?_
        refine Wp.call (as := [.int (nI t), .int 5]) (rest := []) rfl rfl rfl rfl rfl (Nat.le_of_ble_eq_true rfl) (Nat.le_of_ble_eq_true rfl) rfl (by decide) (c_within_t hx) ?_
        rintro _ _ ⟨rfl, rfl⟩
        refine Wp.run 4 (15, [(0, .ref 0), (1, .int (nI t)), (2, .int y)], [.int (nI t), .ref 53], (zsh ++ vs, mi, ml, (zmr g))) rfl ?_
        refine Wp.aald (v := 54 + 2 * t) rfl (by decide) rfl (vp_nI (by omega) (by decide)) (by show zmr g 53 (nI t).toNatClampNeg = _; rw [nI_clamp (by omega)]; exact tp_ref ht) (by show _ < 500; omega) ?_
        refine Wp.run 2 (18, [(3, .ref (54 + 2 * t)), (0, .ref 0), (1, .int (nI t)), (2, .int y)], [.ref (54 + 2 * t)], (zsh ++ vs, mi, ml, (zmr g))) rfl ?_
        refine Wp.gint rfl (by decide) (tp_ob ht) rfl (by decide) ?_
        refine Wp.topi (y := 0) (e3.trans hs) ?_
        refine Wp.run 3 (26, [(3, .ref (54 + 2 * t)), (0, .ref 0), (1, .int (nI t)), (2, .int y)], [.ref (54 + 2 * t)], (zsh ++ vs, mi, ml, (zmr g))) rfl ?_
        refine Wp.gint rfl (by decide) (tp_ob ht) rfl (by decide) ?_
        refine Wp.topi (y := 0) (e3.trans hs) ?_
        refine Wp.run 6 (44, [(3, .ref (54 + 2 * t)), (0, .ref 0), (1, .int (nI t)), (2, .int y)], [.ref 2, .int y, .ref (54 + 2 * t)], (zsh ++ vs, mi, ml, (zmr g))) rfl ?_
        refine Wp.call (as := [.ref (54 + 2 * t), .int y, .ref 2]) (rest := []) rfl rfl rfl rfl rfl (Nat.le_of_ble_eq_true rfl) (Nat.le_of_ble_eq_true rfl) (tp_rc ht) (by decide) (c_jd0 hy) ?_
        rintro _ _ ⟨rfl, rfl⟩
        refine Wp.run 0 (47, [(3, .ref (54 + 2 * t)), (0, .ref 0), (1, .int (nI t)), (2, .int y)], [.int 100], (zsh ++ vs, mi, ml, (zmr g))) rfl ?_
        refine Wp.ret rfl rfl rfl ?_
        exact ⟨rfl, _, _, rfl, SC.rf, fun _ _ _ => rfl⟩
      · intro m g' I' e67 S
        have B' := I'.1.1
        have hn' := B'.2.1
        have hN' := B'.1.1
        have hd' := B'.1.2.2.1
        refine Wp.run 1 (1, [(0, .ref 66), (1, .int (nI t)), (2, .int y)], [.int (nI t)], (zsh ++ vs, m, ml, (zmr g'))) rfl ?_
        refine Wp.call (as := [.int (nI t)]) (rest := []) rfl rfl rfl rfl rfl (Nat.le_of_ble_eq_true rfl) (Nat.le_of_ble_eq_true rfl) rfl (by decide) (m_isTape_t hx) ?_
        rintro _ _ ⟨rfl, rfl⟩
        refine Wp.run 4 (14, [(0, .ref 66), (1, .int (nI t)), (2, .int y)], [.int (nI t), .ref 82], (zsh ++ vs, m, ml, (zmr g'))) rfl ?_
        refine Wp.ialn rfl (by decide) rfl (by omega) (by decide) ?_
        refine Wp.topi (y := 0) ((m82 S).trans hs) ?_
        refine Wp.run 13 (37, [(4, .long (((y : Int32).toInt64) + ((0 : Int32).toInt64))), (3, .int 0), (0, .ref 66), (1, .int (nI t)), (2, .int y)], [.int y], (zsh ++ vs, m, ml, (zmr g'))) rfl ?_
        refine Wp.if_lt rfl (fun h51 => ?_) (fun h51 => ?_)
        · refine Wp.run 3 (57, [(4, .long (((y : Int32).toInt64) + ((0 : Int32).toInt64))), (3, .int 0), (0, .ref 66), (1, .int (nI t)), (2, .int y)], [.int 100], (zsh ++ vs, m, ml, (zmr g'))) rfl ?_
          refine Wp.ret rfl rfl rfl ?_
          exact ⟨rfl, _, rfl, SC.rf⟩
        · exact absurd hy h51
  obtain ⟨i, hi31, rfl⟩ := nI_of hy
  rcases hs with hs | hs
  · refine SIM.q I (x := jdR l i (jdA mi ml t i) 8 0) (dc := 7) (dm := 27) (by decide) (by decide) ?_ ?_
    · refine Wp.run 2 (2, [(0, .ref 0), (1, .int (nI t)), (2, .int (nI i))], [.int 5, .int (nI t)], (zsh ++ vs, mi, ml, (zmr g))) rfl ?_
      refine Wp.call (as := [.int (nI t), .int 5]) (rest := []) rfl rfl rfl rfl rfl (Nat.le_of_ble_eq_true rfl) (Nat.le_of_ble_eq_true rfl) rfl (by decide) (c_within_t hx) ?_
      rintro _ _ ⟨rfl, rfl⟩
      refine Wp.run 4 (15, [(0, .ref 0), (1, .int (nI t)), (2, .int (nI i))], [.int (nI t), .ref 53], (zsh ++ vs, mi, ml, (zmr g))) rfl ?_
      refine Wp.aald (v := 54 + 2 * t) rfl (by decide) rfl (vp_nI (by omega) (by decide)) (by show zmr g 53 (nI t).toNatClampNeg = _; rw [nI_clamp (by omega)]; exact tp_ref ht) (by show _ < 500; omega) ?_
      refine Wp.run 2 (18, [(3, .ref (54 + 2 * t)), (0, .ref 0), (1, .int (nI t)), (2, .int (nI i))], [.ref (54 + 2 * t)], (zsh ++ vs, mi, ml, (zmr g))) rfl ?_
      refine Wp.gint rfl (by decide) (tp_ob ht) rfl (by decide) ?_
      refine Wp.topi (y := -1) (e3.trans hs) ?_
      refine Wp.run 7 (44, [(3, .ref (54 + 2 * t)), (0, .ref 0), (1, .int (nI t)), (2, .int (nI i))], [.ref 2, .int (nI i), .ref (54 + 2 * t)], (zsh ++ vs, mi, ml, (zmr g))) rfl ?_
      refine Wp.call (as := [.ref (54 + 2 * t), .int (nI i), .ref 2]) (rest := []) rfl rfl rfl rfl rfl (Nat.le_of_ble_eq_true rfl) (Nat.le_of_ble_eq_true rfl) (tp_rc ht) (by decide) (c_jdf ht hl hi31 e1 e5 (fun p hp => B.2.2.2.1 p hp)) ?_
      rintro _ _ ⟨rfl, rfl⟩
      refine Wp.run 0 (47, [(3, .ref (54 + 2 * t)), (0, .ref 0), (1, .int (nI t)), (2, .int (nI i))], [.int (jdR l i (jdA mi ml t i) 8 0)], (zsh ++ vs, mi, ml, (zmr g))) rfl ?_
      refine Wp.ret rfl rfl rfl ?_
      exact ⟨rfl, _, _, rfl, SC.rf, fun _ _ _ => rfl⟩
    · intro m g' I' e67 S
      refine Wp.run 1 (1, [(0, .ref 66), (1, .int (nI t)), (2, .int (nI i))], [.int (nI t)], (zsh ++ vs, m, ml, (zmr g'))) rfl ?_
      refine Wp.call (as := [.int (nI t)]) (rest := []) rfl rfl rfl rfl rfl (Nat.le_of_ble_eq_true rfl) (Nat.le_of_ble_eq_true rfl) rfl (by decide) (m_isTape_t hx) ?_
      rintro _ _ ⟨rfl, rfl⟩
      refine Wp.run 4 (14, [(0, .ref 66), (1, .int (nI t)), (2, .int (nI i))], [.int (nI t), .ref 82], (zsh ++ vs, m, ml, (zmr g'))) rfl ?_
      refine Wp.ialn rfl (by decide) rfl (by omega) (by decide) ?_
      refine Wp.topi (y := -1) ((m82 S).trans hs) ?_
      refine Wp.run 3 (23, [(3, .int 0), (0, .ref 66), (1, .int (nI t)), (2, .int (nI i))], [], (zsh ++ vs, m, ml, (zmr g'))) rfl ?_
      refine Wp.sub (a := [(0, .ref 66), (1, .int (nI t)), (2, .int (nI i)), (3, .int (nI 0))]) (zle_cons rfl (zle_cons rfl (zle_cons rfl (zle_cons rfl (zle_nil))))) ?_
      refine ((m_jd (mi := m) ht hl hi31 (m83 S) 8 0 (by omega)).deep (by decide)).weak ?_
      rintro _ _ ⟨rfl, rfl⟩
      refine ⟨?_, _, rfl, SC.rf⟩
      rw [show jdA m ml t i = jdA mi ml t i from by unfold jdA; rw [e67]]
  · refine SIM.q I (x := jdR l i (jdA mi ml t i) 8 0) (dc := 7) (dm := 27) (by decide) (by decide) ?_ ?_
    · refine Wp.run 2 (2, [(0, .ref 0), (1, .int (nI t)), (2, .int (nI i))], [.int 5, .int (nI t)], (zsh ++ vs, mi, ml, (zmr g))) rfl ?_
      refine Wp.call (as := [.int (nI t), .int 5]) (rest := []) rfl rfl rfl rfl rfl (Nat.le_of_ble_eq_true rfl) (Nat.le_of_ble_eq_true rfl) rfl (by decide) (c_within_t hx) ?_
      rintro _ _ ⟨rfl, rfl⟩
      refine Wp.run 4 (15, [(0, .ref 0), (1, .int (nI t)), (2, .int (nI i))], [.int (nI t), .ref 53], (zsh ++ vs, mi, ml, (zmr g))) rfl ?_
      refine Wp.aald (v := 54 + 2 * t) rfl (by decide) rfl (vp_nI (by omega) (by decide)) (by show zmr g 53 (nI t).toNatClampNeg = _; rw [nI_clamp (by omega)]; exact tp_ref ht) (by show _ < 500; omega) ?_
      refine Wp.run 2 (18, [(3, .ref (54 + 2 * t)), (0, .ref 0), (1, .int (nI t)), (2, .int (nI i))], [.ref (54 + 2 * t)], (zsh ++ vs, mi, ml, (zmr g))) rfl ?_
      refine Wp.gint rfl (by decide) (tp_ob ht) rfl (by decide) ?_
      refine Wp.topi (y := 0) (e3.trans hs) ?_
      refine Wp.run 3 (26, [(3, .ref (54 + 2 * t)), (0, .ref 0), (1, .int (nI t)), (2, .int (nI i))], [.ref (54 + 2 * t)], (zsh ++ vs, mi, ml, (zmr g))) rfl ?_
      refine Wp.gint rfl (by decide) (tp_ob ht) rfl (by decide) ?_
      refine Wp.topi (y := 0) (e3.trans hs) ?_
      refine Wp.run 6 (44, [(3, .ref (54 + 2 * t)), (0, .ref 0), (1, .int (nI t)), (2, .int (nI i))], [.ref 2, .int (nI i), .ref (54 + 2 * t)], (zsh ++ vs, mi, ml, (zmr g))) rfl ?_
      refine Wp.call (as := [.ref (54 + 2 * t), .int (nI i), .ref 2]) (rest := []) rfl rfl rfl rfl rfl (Nat.le_of_ble_eq_true rfl) (Nat.le_of_ble_eq_true rfl) (tp_rc ht) (by decide) (c_jdf ht hl hi31 e1 e5 (fun p hp => B.2.2.2.1 p hp)) ?_
      rintro _ _ ⟨rfl, rfl⟩
      refine Wp.run 0 (47, [(3, .ref (54 + 2 * t)), (0, .ref 0), (1, .int (nI t)), (2, .int (nI i))], [.int (jdR l i (jdA mi ml t i) 8 0)], (zsh ++ vs, mi, ml, (zmr g))) rfl ?_
      refine Wp.ret rfl rfl rfl ?_
      exact ⟨rfl, _, _, rfl, SC.rf, fun _ _ _ => rfl⟩
    · intro m g' I' e67 S
      refine Wp.run 1 (1, [(0, .ref 66), (1, .int (nI t)), (2, .int (nI i))], [.int (nI t)], (zsh ++ vs, m, ml, (zmr g'))) rfl ?_
      refine Wp.call (as := [.int (nI t)]) (rest := []) rfl rfl rfl rfl rfl (Nat.le_of_ble_eq_true rfl) (Nat.le_of_ble_eq_true rfl) rfl (by decide) (m_isTape_t hx) ?_
      rintro _ _ ⟨rfl, rfl⟩
      refine Wp.run 4 (14, [(0, .ref 66), (1, .int (nI t)), (2, .int (nI i))], [.int (nI t), .ref 82], (zsh ++ vs, m, ml, (zmr g'))) rfl ?_
      refine Wp.ialn rfl (by decide) rfl (by omega) (by decide) ?_
      refine Wp.topi (y := 0) ((m82 S).trans hs) ?_
      refine Wp.run 3 (23, [(3, .int 0), (0, .ref 66), (1, .int (nI t)), (2, .int (nI i))], [], (zsh ++ vs, m, ml, (zmr g'))) rfl ?_
      refine Wp.sub (a := [(0, .ref 66), (1, .int (nI t)), (2, .int (nI i)), (3, .int (nI 0))]) (zle_cons rfl (zle_cons rfl (zle_cons rfl (zle_cons rfl (zle_nil))))) ?_
      refine ((m_jd (mi := m) ht hl hi31 (m83 S) 8 0 (by omega)).deep (by decide)).weak ?_
      rintro _ _ ⟨rfl, rfl⟩
      refine ⟨?_, _, rfl, SC.rf⟩
      rw [show jdA m ml t i = jdA mi ml t i from by unfold jdA; rw [e67]]
