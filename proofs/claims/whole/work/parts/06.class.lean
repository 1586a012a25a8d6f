/-! THE CLASSES: their words, their fields -/
theorem zcw_0 : ∀ x ∈ u_ws RX0 TX0 13, x ∈ zTbl := by
  have h : (u_ws RX0 TX0 13) = ([117, 119, 121, 123, 125, 127, 129, 131, 133, 135, 137, 139, 141] : List Nat).filterMap (fun i => lw_tbl[i]?) := by decide +kernel
  have h2 : (u_ws RX0 TX0 13).all goodWord = true := by decide +kernel
  intro x hx
  have h3 := List.all_eq_true.mp h2 x hx
  rw [h] at hx
  obtain ⟨i, -, hi⟩ := List.mem_filterMap.mp hx
  exact List.mem_filter.mpr ⟨List.mem_of_getElem? hi, h3⟩
theorem zcw_1 : ∀ x ∈ u_ws RX1 TX1 1, x ∈ zTbl := by
  have h : (u_ws RX1 TX1 1) = ([197] : List Nat).filterMap (fun i => lw_tbl[i]?) := by decide +kernel
  have h2 : (u_ws RX1 TX1 1).all goodWord = true := by decide +kernel
  intro x hx
  have h3 := List.all_eq_true.mp h2 x hx
  rw [h] at hx
  obtain ⟨i, -, hi⟩ := List.mem_filterMap.mp hx
  exact List.mem_filter.mpr ⟨List.mem_of_getElem? hi, h3⟩
theorem zcw_2 : ∀ x ∈ u_ws RX2 TX2 10, x ∈ zTbl := by
  have h : (u_ws RX2 TX2 10) = ([167, 169, 171, 173, 175, 177, 179, 181, 183, 185] : List Nat).filterMap (fun i => lw_tbl[i]?) := by decide +kernel
  have h2 : (u_ws RX2 TX2 10).all goodWord = true := by decide +kernel
  intro x hx
  have h3 := List.all_eq_true.mp h2 x hx
  rw [h] at hx
  obtain ⟨i, -, hi⟩ := List.mem_filterMap.mp hx
  exact List.mem_filter.mpr ⟨List.mem_of_getElem? hi, h3⟩
theorem zcw_3 : ∀ x ∈ u_ws RX3 TX3 5, x ∈ zTbl := by
  have h : (u_ws RX3 TX3 5) = ([240, 242, 244, 246, 248] : List Nat).filterMap (fun i => lw_tbl[i]?) := by decide +kernel
  have h2 : (u_ws RX3 TX3 5).all goodWord = true := by decide +kernel
  intro x hx
  have h3 := List.all_eq_true.mp h2 x hx
  rw [h] at hx
  obtain ⟨i, -, hi⟩ := List.mem_filterMap.mp hx
  exact List.mem_filter.mpr ⟨List.mem_of_getElem? hi, h3⟩
theorem zcw_4 : ∀ x ∈ u_ws RX4 TX4 3, x ∈ zTbl := by
  have h : (u_ws RX4 TX4 3) = ([264, 266, 268] : List Nat).filterMap (fun i => lw_tbl[i]?) := by decide +kernel
  have h2 : (u_ws RX4 TX4 3).all goodWord = true := by decide +kernel
  intro x hx
  have h3 := List.all_eq_true.mp h2 x hx
  rw [h] at hx
  obtain ⟨i, -, hi⟩ := List.mem_filterMap.mp hx
  exact List.mem_filter.mpr ⟨List.mem_of_getElem? hi, h3⟩
theorem zcw_5 : ∀ x ∈ u_ws RX5 TX5 6, x ∈ zTbl := by
  have h : (u_ws RX5 TX5 6) = ([214, 216, 218, 220, 222, 224] : List Nat).filterMap (fun i => lw_tbl[i]?) := by decide +kernel
  have h2 : (u_ws RX5 TX5 6).all goodWord = true := by decide +kernel
  intro x hx
  have h3 := List.all_eq_true.mp h2 x hx
  rw [h] at hx
  obtain ⟨i, -, hi⟩ := List.mem_filterMap.mp hx
  exact List.mem_filter.mpr ⟨List.mem_of_getElem? hi, h3⟩
theorem zcw_6 : ∀ x ∈ u_ws RX6 TX6 2, x ∈ zTbl := by
  have h : (u_ws RX6 TX6 2) = ([641, 643] : List Nat).filterMap (fun i => lw_tbl[i]?) := by decide +kernel
  have h2 : (u_ws RX6 TX6 2).all goodWord = true := by decide +kernel
  intro x hx
  have h3 := List.all_eq_true.mp h2 x hx
  rw [h] at hx
  obtain ⟨i, -, hi⟩ := List.mem_filterMap.mp hx
  exact List.mem_filter.mpr ⟨List.mem_of_getElem? hi, h3⟩
theorem zcw_7 : ∀ x ∈ u_ws RX7 TX7 10, x ∈ zTbl := by
  have h : (u_ws RX7 TX7 10) = ([282, 284, 286, 288, 290, 292, 294, 296, 298, 300] : List Nat).filterMap (fun i => lw_tbl[i]?) := by decide +kernel
  have h2 : (u_ws RX7 TX7 10).all goodWord = true := by decide +kernel
  intro x hx
  have h3 := List.all_eq_true.mp h2 x hx
  rw [h] at hx
  obtain ⟨i, -, hi⟩ := List.mem_filterMap.mp hx
  exact List.mem_filter.mpr ⟨List.mem_of_getElem? hi, h3⟩
theorem zcw_8 : ∀ x ∈ u_ws RX8 TX8 29, x ∈ zTbl := by
  have h : (u_ws RX8 TX8 29) = ([892, 894, 896, 898, 900, 902, 904, 906, 908, 910, 912, 914, 916, 918, 920, 922, 924, 926, 928, 930, 932, 934, 936, 938, 940, 942, 944, 946, 948] : List Nat).filterMap (fun i => lw_tbl[i]?) := by decide +kernel
  have h2 : (u_ws RX8 TX8 29).all goodWord = true := by decide +kernel
  intro x hx
  have h3 := List.all_eq_true.mp h2 x hx
  rw [h] at hx
  obtain ⟨i, -, hi⟩ := List.mem_filterMap.mp hx
  exact List.mem_filter.mpr ⟨List.mem_of_getElem? hi, h3⟩
theorem zci_0 : Jvm.Cond.instantiable RX0 13 ∈ zTbl := zw_in (c := 79) (by decide +kernel)
theorem zct_0 : Jvm.Cond.initialized RX0 ∈ zTbl := zw_in (c := 53) (by decide +kernel)
theorem zci_1 : Jvm.Cond.instantiable RX1 1 ∈ zTbl := zw_in (c := 189) (by decide +kernel)
theorem zct_1 : Jvm.Cond.initialized RX1 ∈ zTbl := zw_in (c := 56) (by decide +kernel)
theorem zci_2 : Jvm.Cond.instantiable RX2 10 ∈ zTbl := zw_in (c := 146) (by decide +kernel)
theorem zct_2 : Jvm.Cond.initialized RX2 ∈ zTbl := zw_in (c := 55) (by decide +kernel)
theorem zci_3 : Jvm.Cond.instantiable RX3 5 ∈ zTbl := zw_in (c := 228) (by decide +kernel)
theorem zct_3 : Jvm.Cond.initialized RX3 ∈ zTbl := zw_in (c := 58) (by decide +kernel)
theorem zci_4 : Jvm.Cond.instantiable RX4 3 ∈ zTbl := zw_in (c := 253) (by decide +kernel)
theorem zct_4 : Jvm.Cond.initialized RX4 ∈ zTbl := zw_in (c := 59) (by decide +kernel)
theorem zci_5 : Jvm.Cond.instantiable RX5 6 ∈ zTbl := zw_in (c := 201) (by decide +kernel)
theorem zct_5 : Jvm.Cond.initialized RX5 ∈ zTbl := zw_in (c := 57) (by decide +kernel)
theorem zci_6 : Jvm.Cond.instantiable RX6 2 ∈ zTbl := zw_in (c := 621) (by decide +kernel)
theorem zct_6 : Jvm.Cond.initialized RX6 ∈ zTbl := zw_in (c := 69) (by decide +kernel)
theorem zci_7 : Jvm.Cond.instantiable RX7 10 ∈ zTbl := zw_in (c := 71) (by decide +kernel)
theorem zct_7 : Jvm.Cond.initialized RX7 ∈ zTbl := zw_in (c := 52) (by decide +kernel)
theorem zci_8 : Jvm.Cond.instantiable RX8 29 ∈ zTbl := zw_in (c := 855) (by decide +kernel)
theorem zct_8 : Jvm.Cond.initialized RX8 ∈ zTbl := zw_in (c := 60) (by decide +kernel)
/-- what the tables say of a class -/
theorem zcl {ci : Nat} {r : vw_C} (h : vwCl[ci]? = some r) : (∀ x ∈ u_ws r.1 r.2.1 r.2.2, x ∈ zTbl) ∧ Jvm.Cond.instantiable r.1 r.2.2 ∈ zTbl ∧ Jvm.Cond.initialized r.1 ∈ zTbl ∧ (∃ ty : Nat → FieldType, ∀ k, k < r.2.2 → parseFieldDescriptor (r.2.1 k).2.2.1 = some (ty k)) ∧ (∀ a, a < r.2.2 → ∀ b, b < r.2.2 → a ≠ b → (r.2.1 a).2.1 ≠ (r.2.1 b).2.1) ∧ r.2.2 = zN ci := by
  match ci, h with
  | 0, h => cases h; exact ⟨zcw_0, zci_0, zct_0, ⟨tyX0, tyX0_ok⟩, nmX0, by decide +kernel⟩
  | 1, h => cases h; exact ⟨zcw_1, zci_1, zct_1, ⟨tyX1, tyX1_ok⟩, nmX1, by decide +kernel⟩
  | 2, h => cases h; exact ⟨zcw_2, zci_2, zct_2, ⟨tyX2, tyX2_ok⟩, nmX2, by decide +kernel⟩
  | 3, h => cases h; exact ⟨zcw_3, zci_3, zct_3, ⟨tyX3, tyX3_ok⟩, nmX3, by decide +kernel⟩
  | 4, h => cases h; exact ⟨zcw_4, zci_4, zct_4, ⟨tyX4, tyX4_ok⟩, nmX4, by decide +kernel⟩
  | 5, h => cases h; exact ⟨zcw_5, zci_5, zct_5, ⟨tyX5, tyX5_ok⟩, nmX5, by decide +kernel⟩
  | 6, h => cases h; exact ⟨zcw_6, zci_6, zct_6, ⟨tyX6, tyX6_ok⟩, nmX6, by decide +kernel⟩
  | 7, h => cases h; exact ⟨zcw_7, zci_7, zct_7, ⟨tyX7, tyX7_ok⟩, nmX7, by decide +kernel⟩
  | 8, h => cases h; exact ⟨zcw_8, zci_8, zct_8, ⟨tyX8, tyX8_ok⟩, nmX8, by decide +kernel⟩
  | n + 9, h => simp [vwCl] at h
/-- a field's kind and its type -/
def zft (t : Nat) (ty : FieldType) : Bool := match ty with
  | .int => t == 0
  | .boolean => t == 2
  | .object _ => t == 1
  | .array _ => t == 1
  | _ => false
theorem zF_ok {ci : Nat} {r : vw_C} {k t : Nat} (h : vwCl[ci]? = some r) (hk : zF ci k = some t) : k < r.2.2 ∧ ∃ ty, parseFieldDescriptor (r.2.1 k).2.2.1 = some ty ∧ zft t ty = true := by
  have key : ∀ ci, ci < 9 → ∀ k, k < zN ci → (match vwCl[ci]?, zF ci k with
    | some r, some t => (match parseFieldDescriptor (r.2.1 k).2.2.1 with
      | some ty => zft t ty
      | none => false)
    | _, _ => false) = true := by decide +kernel
  have h9 : ci < 9 := (List.getElem?_eq_some_iff.mp h).1
  have hN : r.2.2 = zN ci := (zcl h).2.2.2.2.2
  have hkn : k < zN ci := by
    unfold zF at hk
    unfold zN
    cases hl : zfk[ci]? with
    | none => rw [hl] at hk; cases hk
    | some l => rw [hl] at hk; exact (List.getElem?_eq_some_iff.mp hk).1
  have h1 := key ci h9 k hkn
  rw [h, hk] at h1
  dsimp only at h1
  refine ⟨by rw [hN]; exact hkn, ?_⟩
  cases hp : parseFieldDescriptor (r.2.1 k).2.2.1 with
  | none => rw [hp] at h1; cases h1
  | some ty => rw [hp] at h1; exact ⟨ty, rfl, h1⟩
theorem zfs_get {B : Nat} {ex : Nat → Value} {w : zW} {r ci k t : Nat} (h : zF ci k = some t) : (zfs B ex w r ci)[k]? = some (if t = 1 then zv B ex (zrf (w.2.2.2 r k)) else .int (w.2.1 r k)) := by
  unfold zF at h
  cases hl : zfk[ci]? with
  | none => rw [hl] at h; cases h
  | some l =>
    rw [hl] at h
    have : zfk.getD ci [] = l := by simp [hl]
    have h : l[k]? = some t := h
    simp only [zfs, this, List.getElem?_mapIdx]
    rw [h]
    rfl
theorem zfs_len {B : Nat} {ex : Nat → Value} {w w' : zW} {r ci : Nat} : (zfs B ex w r ci).length = (zfs B ex w' r ci).length := by simp [zfs]
theorem zfs_seti {B : Nat} {ex : Nat → Value} {w : zW} {r ci k t : Nat} {v : Int32} (h : zF ci k = some t) (ht : ¬ t = 1) : (zfs B ex w r ci).set k (.int v) = zfs B ex (w.1, zup w.2.1 r k v, w.2.2.1, w.2.2.2) r ci := by
  apply List.ext_getElem?
  intro j
  have hlt : k < (zfs B ex w r ci).length := (List.getElem?_eq_some_iff.mp (zfs_get (B := B) (ex := ex) (w := w) (r := r) h)).1
  by_cases hj : j = k
  · subst hj
    rw [List.getElem?_set_self hlt, zfs_get h, if_neg ht]
    simp [zup]
  · rw [List.getElem?_set_ne (Ne.symm hj)]
    simp only [zfs, List.getElem?_mapIdx, zup, if_true, if_neg hj]
theorem zfs_setr {B : Nat} {ex : Nat → Value} {w : zW} {r ci k : Nat} {o : Option Nat} (h : zF ci k = some 1) : (zfs B ex w r ci).set k (zv B ex (zrf o)) = zfs B ex (w.1, w.2.1, w.2.2.1, zup w.2.2.2 r k o) r ci := by
  apply List.ext_getElem?
  intro j
  have hlt : k < (zfs B ex w r ci).length := (List.getElem?_eq_some_iff.mp (zfs_get (B := B) (ex := ex) (w := w) (r := r) h)).1
  by_cases hj : j = k
  · subst hj
    rw [List.getElem?_set_self hlt, zfs_get h, if_pos rfl]
    simp [zup]
  · rw [List.getElem?_set_ne (Ne.symm hj)]
    simp only [zfs, List.getElem?_mapIdx, zup, if_true, if_neg hj]
theorem zob_of {w : zW} {r ci : Nat} (h : zob w r ci = true) : r < zEX ∧ ∃ y, w.1[r]? = some y ∧ y.1 = 10 + ci := by
  unfold zob at h
  split at h
  · rename_i hr
    split at h
    · rename_i y hy
      exact ⟨hr, y, hy, of_decide_eq_true h⟩
    · cases h
  · cases h
theorem zin_of {w : zW} {t r : Nat} {i : Int32} (h : zin w t r i = true) : r < zEX ∧ ∃ y, w.1[r]? = some y ∧ y.1 = t ∧ vp_in i y.2 := by
  unfold zin at h
  split at h
  · rename_i hr
    split at h
    · rename_i y hy
      split at h
      · rename_i ht
        split at h
        · cases h
        · rename_i hi
          exact ⟨hr, y, hy, ht, hi⟩
      · cases h
    · cases h
  · cases h
theorem zb_max_s : (Jvm.Cond.static Lib.Math.max.name) ∈ zTbl := zw_in (c := 380) (by decide +kernel)
theorem zb_max_c : (Jvm.Cond.code Lib.Math.max.name Lib.Math.max.code 2 (some .int)) ∈ zTbl := zw_in (c := 381) (by decide +kernel)
theorem zb_min_s : (Jvm.Cond.static Lib.Math.min.name) ∈ zTbl := zw_in (c := 397) (by decide +kernel)
theorem zb_min_c : (Jvm.Cond.code Lib.Math.min.name Lib.Math.min.code 2 (some .int)) ∈ zTbl := zw_in (c := 398) (by decide +kernel)
theorem zb_math_i : (Jvm.Cond.initialized "java/lang/Math") ∈ zTbl := zw_in (c := 63) (by decide +kernel)
theorem zb_ac_n : (Jvm.Cond.native arraycopyName) ∈ zTbl := zw_in (c := 370) (by decide +kernel)
theorem zb_ac_s : (Jvm.Cond.static arraycopyName) ∈ zTbl := zw_in (c := 369) (by decide +kernel)
theorem zb_sys_i : (Jvm.Cond.initialized "java/lang/System") ∈ zTbl := zw_in (c := 62) (by decide +kernel)
theorem zb_oi_m : (Jvm.Cond.instanceMethod objectInit) ∈ zTbl := zw_in (c := 76) (by decide +kernel)
theorem zb_oi_c : (Jvm.Cond.code objectInit ⟨#[0xb1]⟩ 1 none) ∈ zTbl := zw_in (c := 77) (by decide +kernel)
theorem zb_aint : (Jvm.Cond.arrayClass .int) ∈ zTbl := zw_in (c := 144) (by decide +kernel)
theorem zb_along : (Jvm.Cond.arrayClass .long) ∈ zTbl := zw_in (c := 271) (by decide +kernel)
theorem zb_achar : (Jvm.Cond.arrayClass .char) ∈ zTbl := zw_in (c := 951) (by decide +kernel)
