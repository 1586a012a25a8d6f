/-! THE LAW'S START: the classes, what lies outside -/
theorem zpl {x : Jvm.Cond} (i : Nat) (h : lw_tbl[i]? = some x) : x ∈ lw_tbl := List.mem_of_getElem? h
theorem zAcls {s : State} {args : Array Value} {ty : FieldType} (h : (Jvm.Cond.arrayClass ty).before args s = true) (hty : ∀ C, ¬ ty = .object C) : ∃ cA : ClassId, ArrOfT s cA ty ∧ va_RA s cA ty := by
  obtain ⟨cA, kA, comp, h1, h2, h3⟩ := Cond.arrayClass_spec h
  refine ⟨cA, fun n z => ⟨fun k h => (by cases h), kA, h2, comp, h3⟩, ?_⟩
  cases ty with
  | object C => exact absurd rfl (hty C)
  | _ => exact h1
set_option maxRecDepth 20000 in
set_option maxHeartbeats 4000000 in
theorem zstart {p : Program} {s : State} {m : MethodId} {meth : Method} {c : Code} {b L : Nat} {xs : Nat → Int32} (hL : L ≤ 3072) (C0 : lw_At p s m meth c b L xs) : ∃ (ex : Nat → Value) (dA dC : Nat → ClassId) (dI : Nat → Nat → Nat), va_K (dC, dI) vwCl (zty dA) s ∧ zXt s.heap.size ex (L, xs) s s.heap ∧ ex 0 = .ref b := by
  obtain ⟨hx, hb, hr, hml, hown, hts, hX, hbl, hlocks, hgv⟩ := C0
  have htz : ∀ x ∈ zTbl, x.before #[Value.ref b] s = true := fun x h => hts x (List.mem_filter.mp h).1
  have hs := flat_of_before _ hgv
  have hA : ∀ a : Nat, a < s.heap.size → ¬ (fun x : Nat => s.heap.size ≤ x) a := fun a h => Nat.not_le.mpr h
  -- the classes
  obtain ⟨c0, i0, k0⟩ := u_known (C := RX0) (T := TX0) (N := 13) htz zcw_0 (htz _ zci_0)
  obtain ⟨c1, i1, k1⟩ := u_known (C := RX1) (T := TX1) (N := 1) htz zcw_1 (htz _ zci_1)
  obtain ⟨c2, i2, k2⟩ := u_known (C := RX2) (T := TX2) (N := 10) htz zcw_2 (htz _ zci_2)
  obtain ⟨c3, i3, k3⟩ := u_known (C := RX3) (T := TX3) (N := 5) htz zcw_3 (htz _ zci_3)
  obtain ⟨c4, i4, k4⟩ := u_known (C := RX4) (T := TX4) (N := 3) htz zcw_4 (htz _ zci_4)
  obtain ⟨c5, i5, k5⟩ := u_known (C := RX5) (T := TX5) (N := 6) htz zcw_5 (htz _ zci_5)
  obtain ⟨c6, i6, k6⟩ := u_known (C := RX6) (T := TX6) (N := 2) htz zcw_6 (htz _ zci_6)
  obtain ⟨c7, i7, k7⟩ := u_known (C := RX7) (T := TX7) (N := 10) htz zcw_7 (htz _ zci_7)
  obtain ⟨c8, i8, k8⟩ := u_known (C := RX8) (T := TX8) (N := 29) htz zcw_8 (htz _ zci_8)
  obtain ⟨dC, dI, hKc⟩ : ∃ (dC : Nat → ClassId) (dI : Nat → Nat → Nat), ∀ (k : Nat) (q : vw_C), vwCl[k]? = some q → u_Kn s q.1 q.2.1 q.2.2 (dC k) (dI k) := by
    refine ⟨fun k => [c0, c1, c2, c3, c4, c5, c6, c7, c8].getD k c0, fun k => [i0, i1, i2, i3, i4, i5, i6, i7, i8].getD k i0, ?_⟩
    intro k q hq
    match k, hq with
    | 0, hq => cases hq; exact k0
    | 1, hq => cases hq; exact k1
    | 2, hq => cases hq; exact k2
    | 3, hq => cases hq; exact k3
    | 4, hq => cases hq; exact k4
    | 5, hq => cases hq; exact k5
    | 6, hq => cases hq; exact k6
    | 7, hq => cases hq; exact k7
    | 8, hq => cases hq; exact k8
    | k + 9, hq => simp [vwCl] at hq
  -- the arrays
  obtain ⟨a0, A0, B0⟩ := zAcls (htz _ zb_aint) (fun C h => by cases h)
  obtain ⟨a1, A1, B1⟩ := zAcls (htz _ zb_along) (fun C h => by cases h)
  obtain ⟨a2, A2, B2⟩ := zAcls (htz _ zb_achar) (fun C h => by cases h)
  have hO : va_AO "SungHarvest$Tape" s := va_AO.of (hts (.arrayOver (.object "SungHarvest$Tape")) (zpl 252 (by decide +kernel)))
  obtain ⟨comp, a3, k9, f1, f2, f3, f4, f5⟩ := Cond.arrayOver_spec hO
  have hK : va_K (dC, dI) vwCl (zty (fun k => [a0, a1, a2, a3].getD k a0)) s := by
    refine ⟨hKc, fun k q hq => ?_⟩
    match k, hq with
    | 0, hq => cases hq; exact ⟨A0, B0⟩
    | 1, hq => cases hq; exact ⟨A1, B1⟩
    | 2, hq => cases hq; exact ⟨A2, B2⟩
    | 3, hq => cases hq; exact ⟨fun n z => ⟨fun k h => (by cases h), k9, f3, comp, f4⟩, ⟨k9, comp, f3, f4, f1, f5⟩⟩
    | k + 4, hq => simp [zty] at hq
  -- statics
  have m1 : ∀ j, j < 7 → Jvm.Cond.eq (.elem (.static "SungHarvest" "ABOVE" "[I") (.int (Int32.ofNat j))) (.int (zab.getD j 0)) ∈ flatC (Jvm.Cond.and given_1 narrow_1) := by decide +kernel
  have m2 : ∀ j, j < 21 → Jvm.Cond.eq (.elem (.static "SungHarvest$Performance" "BODIES" "[I") (.int (Int32.ofNat j))) (.int (zbo.getD j 0)) ∈ flatC (Jvm.Cond.and given_1 narrow_1) := by decide +kernel
  obtain ⟨t1, e1, T1⟩ := va_Tof (A := fun x : Nat => s.heap.size ≤ x) (tm := .static "SungHarvest" "ABOVE" "[I") (ty := .int) (N := 7) (f := fun j => .int (zab.getD j 0)) (by decide) (hs _ (by decide +kernel)) (va_eqt (hs (.eq (.length (.static "SungHarvest" "ABOVE" "[I")) (.int 7)) (by decide +kernel))) (fun j hj => va_eqt (hs _ (m1 j hj))) hA
  obtain ⟨t2, e2, T2⟩ := va_Tof (A := fun x : Nat => s.heap.size ≤ x) (tm := .static "SungHarvest$Performance" "BODIES" "[I") (ty := .int) (N := 21) (f := fun j => .int (zbo.getD j 0)) (by decide) (hs _ (by decide +kernel)) (va_eqt (hs (.eq (.length (.static "SungHarvest$Performance" "BODIES" "[I")) (.int 21)) (by decide +kernel))) (fun j hj => va_eqt (hs _ (m2 j hj))) hA
  have Z1 := va_Zof (A := fun x : Nat => s.heap.size ≤ x) (hts (.laysStatic "SungHarvest" "ABOVE" "[I") (zpl 796 (by decide +kernel))) (htz _ zct_7) e1 hA
  have Z2 := va_Zof (A := fun x : Nat => s.heap.size ≤ x) (hts (.laysStatic "SungHarvest$Performance" "BODIES" "[I") (zpl 794 (by decide +kernel))) (htz _ zct_3) e2 hA
  have Z3 := va_Zof (A := fun x : Nat => s.heap.size ≤ x) (hts (.laysStatic "java/lang/String" "COMPACT_STRINGS" "Z") (zpl 497 (by decide +kernel))) (hts (.initialized "java/lang/String") (zpl 64 (by decide +kernel))) (va_eqt (hs (.eq (.static "java/lang/String" "COMPACT_STRINGS" "Z") (.int 1)) (by decide +kernel))) hA
  have Z4q := va_Zqof (A := fun x : Nat => s.heap.size ≤ x) (hts (.laysStatic "jdk/internal/util/Preconditions" "SIOOBE_FORMATTER" "Ljava/util/function/BiFunction;") (zpl 513 (by decide +kernel))) (hts (.initialized "jdk/internal/util/Preconditions") (zpl 66 (by decide +kernel))) (hs (.isRef (.static "jdk/internal/util/Preconditions" "SIOOBE_FORMATTER" "Ljava/util/function/BiFunction;")) (by decide +kernel)) hA
  obtain ⟨v3, hv3, Z4⟩ : ∃ v3 : Value, (v3 = .null ∨ ∃ t, v3 = .ref t) ∧ va_Z "jdk/internal/util/Preconditions" "SIOOBE_FORMATTER" "Ljava/util/function/BiFunction;" v3 (fun x : Nat => s.heap.size ≤ x) s s.heap := by
    rcases Z4q with h | ⟨t, h⟩
    · exact ⟨_, Or.inl rfl, h⟩
    · exact ⟨_, Or.inr ⟨t, rfl⟩, h⟩
  -- texts
  have n1 : ∀ i, i < 5 → Jvm.Cond.exactly (.string "SungHarvest$Text" (zid.getD i 0)) "java/lang/String" ∈ flatC (Jvm.Cond.and given_1 narrow_1) := by decide +kernel
  have n2 : ∀ i, i < 5 → Jvm.Cond.eq (.field (.string "SungHarvest$Text" (zid.getD i 0)) "java/lang/String" "coder" "B") (.int 0) ∈ flatC (Jvm.Cond.and given_1 narrow_1) := by decide +kernel
  have n3 : ∀ i, i < 5 → Jvm.Cond.arrayOf (.field (.string "SungHarvest$Text" (zid.getD i 0)) "java/lang/String" "value" "[B") .byte ∈ flatC (Jvm.Cond.and given_1 narrow_1) := by decide +kernel
  have n4 : ∀ i, i < 5 → Jvm.Cond.eq (.length (.field (.string "SungHarvest$Text" (zid.getD i 0)) "java/lang/String" "value" "[B")) (.int (Int32.ofNat (([5, 5, 5, 6, 3] : List Nat).getD i 0))) ∈ flatC (Jvm.Cond.and given_1 narrow_1) := by decide +kernel
  have n5 : ∀ i, i < 5 → ∀ j, j < ([5, 5, 5, 6, 3] : List Nat).getD i 0 → Jvm.Cond.eq (.elem (.field (.string "SungHarvest$Text" (zid.getD i 0)) "java/lang/String" "value" "[B") (.int (Int32.ofNat j))) (.int ((zby.getD i []).getD j 0)) ∈ flatC (Jvm.Cond.and given_1 narrow_1) := by decide +kernel
  have n6 : ∀ i, i < 5 → ∀ j, j < 5 → i ≠ j → (Jvm.Cond.not (.eq (.string "SungHarvest$Text" (zid.getD i 0)) (.string "SungHarvest$Text" (zid.getD j 0))) ∈ flatC (Jvm.Cond.and given_1 narrow_1)) ∨ (Jvm.Cond.not (.eq (.string "SungHarvest$Text" (zid.getD j 0)) (.string "SungHarvest$Text" (zid.getD i 0))) ∈ flatC (Jvm.Cond.and given_1 narrow_1)) := by decide +kernel
  obtain ⟨adK, adV, hSt, hev⟩ := vk_Sof (A := fun x : Nat => s.heap.size ≤ x) (N := 5) (tm := fun i => .string "SungHarvest$Text" (zid.getD i 0)) (len := [5, 5, 5, 6, 3]) (byt := zby) (by decide) (fun i hi => hs _ (n1 i hi)) (fun i hi => hs _ (n2 i hi)) (fun i hi => hs _ (n3 i hi)) (fun i hi => hs _ (n4 i hi)) (fun i hi j hj => hs _ (n5 i hi j hj)) (fun i j hi hj hne => (n6 i hi j hj hne).elim (fun h => Or.inl (hs _ h)) (fun h => Or.inr (hs _ h))) hA
  have m5 : ∀ i, i < 5 → Jvm.Cond.stringRef "SungHarvest$Text" (zid.getD i 0) (ztx.getD i "") ∈ lw_tbl := by
    have h : ∀ i, i < 5 → lw_tbl[([483, 541, 542, 555, 615] : List Nat).getD i 0]? = some (Jvm.Cond.stringRef "SungHarvest$Text" (zid.getD i 0) (ztx.getD i "")) := by decide +kernel
    exact fun i hi => zpl _ (h i hi)
  have hN : ∀ x ∈ zNests, va_Nw x s := by
    have h : ∀ x ∈ zNests, x ∈ lw_tbl ∧ x.onTables = true := by
      have h1 : zNests = ([147, 190, 202, 229, 254, 330, 422, 795] : List Nat).filterMap (fun i => lw_tbl[i]?) := by decide +kernel
      have h2 : zNests.all (fun x => x.onTables) = true := by decide +kernel
      intro x hx
      refine ⟨?_, List.all_eq_true.mp h2 x hx⟩
      rw [h1] at hx
      obtain ⟨i, -, hi⟩ := List.mem_filterMap.mp hx
      exact List.mem_of_getElem? hi
    exact fun x hx => va_Nw.of (h x hx).2 (hts x (h x hx).1)
  have T0 : va_T .int b L (fun j => .int (xs j)) (fun x : Nat => s.heap.size ≤ x) s s.heap := by
    obtain ⟨scr, g1, g2, g3, g4, g5⟩ := hX
    exact ⟨scr, g1, g2, g3, Nat.le_of_eq g4.symm, by rw [g4], g5, Nat.not_le.mpr hbl⟩
  refine ⟨fun j => if j = 0 then .ref b else if j = 1 then .ref t1 else if j = 2 then .ref t2 else if j = 3 then v3 else if j < 10 then .null else if j < 20 then .ref (adK (j - 10)) else .ref (adV (j - 20)), _, dC, dI, hK, ⟨?_, ⟨b, rfl, T0⟩, ⟨t1, rfl, T1, Z1⟩, ⟨t2, rfl, T2, Z2⟩, Z3, Z4, fun i hi => ?_, hN, hO⟩, rfl⟩
  · intro j
    dsimp only
    repeat' split
    · exact Or.inr ⟨_, rfl⟩
    · exact Or.inr ⟨_, rfl⟩
    · exact Or.inr ⟨_, rfl⟩
    · exact hv3
    · exact Or.inl rfl
    · exact Or.inr ⟨_, rfl⟩
    · exact Or.inr ⟨_, rfl⟩
  · obtain ⟨g1, g2, g3, g4⟩ := hSt.1 i hi
    have hlen : (zby.getD i []).length = ([5, 5, 5, 6, 3] : List Nat).getD i 0 := by
      have : ∀ i, i < 5 → (zby.getD i []).length = ([5, 5, 5, 6, 3] : List Nat).getD i 0 := by decide +kernel
      exact this i hi
    refine ⟨adK i, adV i, ?_, ?_, g1, g2, g3, ?_, ?_⟩
    · dsimp only
      rw [if_neg (by omega), if_neg (by omega), if_neg (by omega), if_neg (by omega), if_neg (by omega), if_pos (by omega), Nat.add_sub_cancel_left]
    · dsimp only
      rw [if_neg (by omega), if_neg (by omega), if_neg (by omega), if_neg (by omega), if_neg (by omega), if_neg (by omega), Nat.add_sub_cancel_left]
    · rw [hlen]; exact g4
    · exact vk_R.of (hts _ (m5 i hi)) (hev i hi)
