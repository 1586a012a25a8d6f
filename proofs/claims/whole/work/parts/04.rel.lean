/-! WHAT A WORLD IS ON THE MACHINE: cell r lies at B + r; zv: a value as the machine has it -/
def zv (B : Nat) (ex : Nat → Value) : Value → Value
  | .ref k => if k < zEX then .ref (B + k) else ex (k - zEX)
  | v => v
theorem zv_lt {B : Nat} {ex : Nat → Value} {k : Nat} (h : k < zEX) : zv B ex (.ref k) = .ref (B + k) := by simp only [zv, if_pos h]
theorem zv_ge {B : Nat} {ex : Nat → Value} {k : Nat} (h : ¬ k < zEX) : zv B ex (.ref k) = ex (k - zEX) := by simp only [zv, if_neg h]
theorem zv_ex {B : Nat} {ex : Nat → Value} (k : Nat) : zv B ex (.ref (zEX + k)) = ex k := by
  rw [zv_ge (Nat.not_lt.mpr (Nat.le_add_right _ _)), Nat.add_sub_cancel_left]
def zfs (B : Nat) (ex : Nat → Value) (w : zW) (r ci : Nat) : List Value := (zfk.getD ci []).mapIdx (fun k t => if t = 1 then zv B ex (zrf (w.2.2.2 r k)) else .int (w.2.1 r k))
def zE1 (B : Nat) (ex : Nat → Value) (dA : Nat → ClassId) (w : zW) (r : Nat) (q : Nat × Nat) : va_E :=
  if q.1 = 0 then .inl (dA 0, q.2, .inl (w.2.1 r))
  else if q.1 = 1 then .inl (dA 1, q.2, .inr (.inl (w.2.2.1 r)))
  else if q.1 = 2 then .inl (dA 2, q.2, .inl (w.2.1 r))
  else if q.1 = 3 then .inl (dA 3, q.2, .inr (.inr (.inr (.inr (fun j => (w.2.2.2 r j).map (fun a => B + a))))))
  else .inr (q.1 - 10, zfs B ex w r (q.1 - 10))
def zws (B : Nat) (ex : Nat → Value) (dA : Nat → ClassId) (w : zW) : va_W := w.1.mapIdx (fun r q => (B + r, zE1 B ex dA w r q))
theorem zws_len {B : Nat} {ex : Nat → Value} {dA : Nat → ClassId} {w : zW} : (zws B ex dA w).length = w.1.length := by simp [zws]
theorem zws_get {B : Nat} {ex : Nat → Value} {dA : Nat → ClassId} {w : zW} {r : Nat} {q : Nat × Nat} (h : w.1[r]? = some q) : (zws B ex dA w)[r]? = some (B + r, zE1 B ex dA w r q) := by
  simp [zws, h]
theorem zws_of {B : Nat} {ex : Nat → Value} {dA : Nat → ClassId} {w : zW} {r : Nat} {x : Nat × va_E} (h : (zws B ex dA w)[r]? = some x) : ∃ q, w.1[r]? = some q ∧ x = (B + r, zE1 B ex dA w r q) := by
  simp only [zws, List.getElem?_mapIdx] at h
  cases hq : w.1[r]? with
  | none => rw [hq] at h; cases h
  | some q => rw [hq] at h; exact ⟨q, rfl, (Option.some.inj h).symm⟩
theorem zE1_0 {B : Nat} {ex : Nat → Value} {dA : Nat → ClassId} {w : zW} {r : Nat} {q : Nat × Nat} (h : q.1 = 0) : zE1 B ex dA w r q = .inl (dA 0, q.2, .inl (w.2.1 r)) := by simp only [zE1, if_pos h]
theorem zE1_1 {B : Nat} {ex : Nat → Value} {dA : Nat → ClassId} {w : zW} {r : Nat} {q : Nat × Nat} (h : q.1 = 1) : zE1 B ex dA w r q = .inl (dA 1, q.2, .inr (.inl (w.2.2.1 r))) := by simp [zE1, h]
theorem zE1_2 {B : Nat} {ex : Nat → Value} {dA : Nat → ClassId} {w : zW} {r : Nat} {q : Nat × Nat} (h : q.1 = 2) : zE1 B ex dA w r q = .inl (dA 2, q.2, .inl (w.2.1 r)) := by simp [zE1, h]
theorem zE1_3 {B : Nat} {ex : Nat → Value} {dA : Nat → ClassId} {w : zW} {r : Nat} {q : Nat × Nat} (h : q.1 = 3) : zE1 B ex dA w r q = .inl (dA 3, q.2, .inr (.inr (.inr (.inr (fun j => (w.2.2.2 r j).map (fun a => B + a)))))) := by simp [zE1, h]
theorem zE1_o {B : Nat} {ex : Nat → Value} {dA : Nat → ClassId} {w : zW} {r ci : Nat} {q : Nat × Nat} (h : q.1 = 10 + ci) : zE1 B ex dA w r q = .inr (ci, zfs B ex w r ci) := by
  have h0 : ¬ q.1 = 0 := by omega
  have h1 : ¬ q.1 = 1 := by omega
  have h2 : ¬ q.1 = 2 := by omega
  have h3 : ¬ q.1 = 3 := by omega
  have h4 : q.1 - 10 = ci := by omega
  simp only [zE1, if_neg h0, if_neg h1, if_neg h2, if_neg h3, h4]
theorem zD {B : Nat} {ex : Nat → Value} {dA : Nat → ClassId} {w : zW} : va_D (fun x : Nat => B ≤ x) (zws B ex dA w) := by
  refine ⟨fun i j x y hi hj he => ?_, fun k x hk => ?_⟩
  · obtain ⟨q1, -, rfl⟩ := zws_of hi
    obtain ⟨q2, -, rfl⟩ := zws_of hj
    dsimp only at he
    omega
  · obtain ⟨q1, -, rfl⟩ := zws_of hk
    show B ≤ B + k
    omega
theorem zup_ne {α : Type} {m : Nat → Nat → α} {k j : Nat} {v : α} {a : Nat} (h : ¬ a = k) : zup m k j v a = m a := by
  funext b
  simp only [zup, if_neg h]
theorem zup_eq {m : Nat → Nat → Int32} {k j : Nat} {v : Int32} : zup m k j v k = upd (m k) j v := by
  funext b
  simp only [zup, upd, if_true]
theorem zup_eqL {m : Nat → Nat → Int64} {k j : Nat} {v : Int64} : zup m k j v k = vp_updL (m k) j v := by
  funext b
  simp only [zup, vp_updL, if_true]
theorem zrow_ne {α : Type} {m : Nat → Nat → α} {k : Nat} {f : Nat → α} {a : Nat} (h : ¬ a = k) : zrow m k f a = m a := by simp only [zrow, if_neg h]
theorem zrow_eq {α : Type} {m : Nat → Nat → α} {k : Nat} {f : Nat → α} : zrow m k f k = f := by simp only [zrow, if_true]
/-- two worlds that have the same rows at a cell have the same cell -/
theorem zE1_congr {B : Nat} {ex : Nat → Value} {dA : Nat → ClassId} {w w' : zW} {r : Nat} {q : Nat × Nat} (h1 : w'.2.1 r = w.2.1 r) (h2 : w'.2.2.1 r = w.2.2.1 r) (h3 : w'.2.2.2 r = w.2.2.2 r) : zE1 B ex dA w' r q = zE1 B ex dA w r q := by
  simp only [zE1, zfs, h1, h2, h3]
theorem zset {B : Nat} {ex : Nat → Value} {dA : Nat → ClassId} {w w' : zW} {r : Nat} {q : Nat × Nat} {x : va_E} (h0 : w'.1 = w.1) (hq : w.1[r]? = some q) (hx : x = zE1 B ex dA w' r q) (h1 : ∀ a, ¬ a = r → w'.2.1 a = w.2.1 a) (h2 : ∀ a, ¬ a = r → w'.2.2.1 a = w.2.2.1 a) (h3 : ∀ a, ¬ a = r → w'.2.2.2 a = w.2.2.2 a) : (zws B ex dA w).set r (B + r, x) = zws B ex dA w' := by
  subst hx
  apply List.ext_getElem?
  intro k
  have hl : r < (zws B ex dA w).length := by rw [zws_len]; exact (List.getElem?_eq_some_iff.mp hq).1
  by_cases hk : k = r
  · subst hk
    rw [List.getElem?_set_self hl, zws_get (w := w') (by rw [h0]; exact hq)]
  · rw [List.getElem?_set_ne (Ne.symm hk)]
    cases hx : w.1[k]? with
    | none => simp [zws, hx, h0]
    | some y =>
      rw [zws_get hx, zws_get (w := w') (by rw [h0]; exact hx), zE1_congr (h1 k hk) (h2 k hk) (h3 k hk)]
def zsl (sh : List (Nat × Nat)) : Nat := (sh.map (fun x => x.2)).sum
theorem zsl_app (sh : List (Nat × Nat)) (t n : Nat) : zsl (sh ++ [(t, n)]) = zsl sh + n := by simp [zsl]
theorem znew_ws {B : Nat} {ex : Nat → Value} {dA : Nat → ClassId} {w : zW} {t n : Nat} {x : va_E} (hx : x = zE1 B ex dA (znew w t n) w.1.length (t, n)) : zws B ex dA w ++ [(B + w.1.length, x)] = zws B ex dA (znew w t n) := by
  subst hx
  apply List.ext_getElem?
  intro k
  by_cases hk : k < w.1.length
  · rw [List.getElem?_append_left (by rw [zws_len]; exact hk)]
    obtain ⟨y, hy⟩ : ∃ y, w.1[k]? = some y := ⟨w.1[k], List.getElem?_eq_getElem hk⟩
    have hy' : (znew w t n).1[k]? = some y := by
      show (w.1 ++ [(t, n)])[k]? = some y
      rw [List.getElem?_append_left hk]
      exact hy
    have hne : ¬ k = w.1.length := by omega
    have hz : zE1 B ex dA (znew w t n) k y = zE1 B ex dA w k y := zE1_congr (zrow_ne hne) (zrow_ne hne) (zrow_ne hne)
    rw [zws_get hy, zws_get hy', hz]
  · rw [List.getElem?_append_right (by rw [zws_len]; omega), zws_len]
    by_cases hk2 : k = w.1.length
    · subst hk2
      have hy' : (znew w t n).1[w.1.length]? = some (t, n) := by
        show (w.1 ++ [(t, n)])[w.1.length]? = some (t, n)
        simp
      rw [Nat.sub_self, zws_get hy']
      rfl
    · have h1 : ([(B + w.1.length, zE1 B ex dA (znew w t n) w.1.length (t, n))] : va_W)[k - w.1.length]? = none := by
        rw [List.getElem?_eq_none]
        simp
        omega
      have h2 : (zws B ex dA (znew w t n))[k]? = none := by
        rw [List.getElem?_eq_none]
        rw [zws_len]
        show (w.1 ++ [(t, n)]).length ≤ k
        simp
        omega
      rw [h1, h2]
def zR (B : Nat) (ex : Nat → Value) (dA dC : Nat → ClassId) (dI : Nat → Nat → Nat) (w : zW) (H : Heap) : Prop := B + w.1.length ≤ H.size ∧ va_P (dC, dI) vwCl (zws B ex dA w) H
abbrev zty (dA : Nat → ClassId) : List (ClassId × FieldType) := [(dA 0, .int), (dA 1, .long), (dA 2, .char), (dA 3, .object "SungHarvest$Tape")]
def zid : List Nat := [54, 63, 65, 81, 87]
def ztx : List String := ["anew ", "hard ", "easy ", "pkvnmd", "<=>"]
/-- what lies outside: the script, statics, texts -/
def zXt (B : Nat) (ex : Nat → Value) (E : zEn) (U : State) (H : Heap) : Prop :=
  (∀ j, ex j = .null ∨ ∃ t, ex j = .ref t) ∧
  (∃ t, ex 0 = .ref t ∧ va_T .int t E.1 (fun j => .int (E.2 j)) (fun x : Nat => B ≤ x) U H) ∧
  (∃ t, ex 1 = .ref t ∧ va_T .int t 7 (fun j => .int (zab.getD j 0)) (fun x : Nat => B ≤ x) U H ∧ va_Z "SungHarvest" "ABOVE" "[I" (.ref t) (fun x : Nat => B ≤ x) U H) ∧
  (∃ t, ex 2 = .ref t ∧ va_T .int t 21 (fun j => .int (zbo.getD j 0)) (fun x : Nat => B ≤ x) U H ∧ va_Z "SungHarvest$Performance" "BODIES" "[I" (.ref t) (fun x : Nat => B ≤ x) U H) ∧
  va_Z "java/lang/String" "COMPACT_STRINGS" "Z" (.int 1) (fun x : Nat => B ≤ x) U H ∧
  va_Z "jdk/internal/util/Preconditions" "SIOOBE_FORMATTER" "Ljava/util/function/BiFunction;" (ex 3) (fun x : Nat => B ≤ x) U H ∧
  (∀ i, i < 5 → ∃ a b, ex (10 + i) = .ref a ∧ ex (20 + i) = .ref b ∧ va_O "java/lang/String" a (fun x : Nat => B ≤ x) U H ∧ va_OF "java/lang/String" "coder" "B" (.int 0) a (fun x : Nat => B ≤ x) U H ∧ va_OF "java/lang/String" "value" "[B" (.ref b) a (fun x : Nat => B ≤ x) U H ∧ va_T .byte b (zby.getD i []).length (fun j => .int ((zby.getD i []).getD j 0)) (fun x : Nat => B ≤ x) U H ∧ vk_R "SungHarvest$Text" (zid.getD i 0) (ztx.getD i "") a U) ∧
  (∀ x ∈ zNests, va_Nw x U) ∧ va_AO "SungHarvest$Tape" U
theorem zXt.moved {B : Nat} {ex : Nat → Value} {E : zEn} {u U : State} {H H1 : Heap} (hW : u.WarmedH U.vm) (hq : ∀ a : Nat, a < H.size → ¬ B ≤ a → H1[a]? = H[a]?) (h : zXt B ex E u H) : zXt B ex E U H1 := by
  obtain ⟨h0, ⟨t1, e1, T1⟩, ⟨t2, e2, T2, Z2⟩, ⟨t3, e3, T3, Z3⟩, Z4, Z5, S, N, O⟩ := h
  have hv := hW.alike
  refine ⟨h0, ⟨t1, e1, (T1.moved hv).kept hq⟩, ⟨t2, e2, (T2.moved hv).kept hq, (Z2.moved hv).kept hq⟩, ⟨t3, e3, (T3.moved hv).kept hq, (Z3.moved hv).kept hq⟩, (Z4.moved hv).kept hq, (Z5.moved hv).kept hq, fun i hi => ?_, fun x hx => ?_, O.moved hv⟩
  · obtain ⟨a, b, f1, f2, f3, f4, f5, f6, f7⟩ := S i hi
    exact ⟨a, b, f1, f2, (f3.moved hv).kept hq, (f4.moved hv).kept hq, (f5.moved hv).kept hq, (f6.moved hv).kept hq, f7.warm hW⟩
  · have hz := N x hx
    simp only [zNests, List.mem_cons, List.not_mem_nil, or_false] at hx
    rcases hx with rfl | rfl | rfl | rfl | rfl | rfl | rfl | rfl
    · exact va_Nw.warmM hW hz
    · exact va_Nw.warmM hW hz
    · exact va_Nw.warmM hW hz
    · exact va_Nw.warmM hW hz
    · exact va_Nw.warmM hW hz
    · exact va_Nw.warmM hW hz
    · exact va_Nw.warmM hW hz
    · exact va_Nw.warmF hW hz
theorem zcat {B : Nat} {ex : Nat → Value} (h0 : ∀ j, ex j = .null ∨ ∃ t, ex j = .ref t) (v : Value) : (zv B ex v).category = v.category := by
  cases v with
  | ref k =>
    by_cases hk : k < zEX
    · rw [zv_lt hk]; rfl
    · rw [zv_ge hk]
      rcases h0 (k - zEX) with h | ⟨t, h⟩ <;> rw [h] <;> rfl
  | _ => rfl
abbrev zmv (B : Nat) (ex : Nat → Value) (lv : zLv) : zLv := lv.map (fun x => (x.1, zv B ex x.2))
theorem zlk_ls {B : Nat} {ex : Nat → Value} {ls : Array Slot} {nL : Nat} : ∀ {lv : zLv} {k : Nat} {v : Value}, lv_has ls nL (zmv B ex lv) → zlk lv k = some v → ls[k]? = some (.val (zv B ex v))
  | [], _, _, _, h => by cases h
  | x :: lv, k, v, hl, h => by
    simp only [zlk] at h
    by_cases hk : x.1 = k
    · rw [if_pos hk] at h
      cases h
      subst hk
      exact hl.2.2 (x.1, zv B ex x.2) (by simp [zmv])
    · rw [if_neg hk] at h
      exact zlk_ls (lv := lv) ⟨hl.1, hl.2.1, fun y hy => hl.2.2 y (by simp only [zmv, List.map_cons, List.mem_cons]; exact Or.inr hy)⟩ h
theorem zlk_place {B : Nat} {ex : Nat → Value} : ∀ {lv : zLv} {k : Nat} {v : Value}, zlk lv k = some v → ∃ n : Nat, (zmv B ex lv)[n]? = some (k, zv B ex v)
  | [], _, _, h => by cases h
  | x :: lv, k, v, h => by
    simp only [zlk] at h
    by_cases hk : x.1 = k
    · rw [if_pos hk] at h
      cases h
      subst hk
      exact ⟨0, rfl⟩
    · rw [if_neg hk] at h
      obtain ⟨n, hn⟩ := zlk_place (B := B) (ex := ex) (lv := lv) h
      exact ⟨n + 1, by simpa [zmv] using hn⟩
theorem zs1_mv {B : Nat} {ex : Nat → Value} (h0 : ∀ j, ex j = .null ∨ ∃ t, ex j = .ref t) (lv : zLv) (i : Nat) (v : Value) : (i, zv B ex v) :: (zmv B ex lv).filter (fun q => !(q.1 == i) && !(q.1 + 1 == i && q.2.category == 2)) = zmv B ex (zs1 lv i v) := by
  simp only [zs1, zmv, List.map_cons, List.filter_map]
  congr 2
  apply List.filter_congr
  intro x _
  simp only [Function.comp, zcat h0]
theorem zs2_mv {B : Nat} {ex : Nat → Value} (h0 : ∀ j, ex j = .null ∨ ∃ t, ex j = .ref t) (lv : zLv) (i : Nat) (v : Value) : (i, zv B ex v) :: (zmv B ex lv).filter (fun q => !(q.1 == i) && (!(q.1 == i + 1) && !(q.1 + 1 == i && q.2.category == 2))) = zmv B ex (zs2 lv i v) := by
  simp only [zs2, zmv, List.map_cons, List.filter_map]
  congr 2
  apply List.filter_congr
  intro x _
  simp only [Function.comp, zcat h0]
theorem zct_mv {B : Nat} {ex : Nat → Value} (h0 : ∀ j, ex j = .null ∨ ∃ t, ex j = .ref t) (st : List Value) : ((st.map (zv B ex)).map fun v => v.category).sum = zct st := by
  simp only [zct, List.map_map]
  congr 1
  apply List.map_congr_left
  intro v _
  exact zcat h0 v
theorem W.szle {p : Program} {l : Launch} {e : Env} {R : Room} {s : State} {m : MethodId} {args : Array Value} {below : List Frame} {meth : Method} {c : Code} {H : Heap} {locs : List Loc} {cells slots : Nat} {Q : State → Prop} {g : JFrame} (kk : H.size ≤ s.heap.size + cells → W p l e R s m args below meth c H locs cells slots Q g) : W p l e R s m args below meth c H locs cells slots Q g :=
  fun T hT X => kk (by have h := X.same.2.2.1; rw [← hT]; exact h) T hT X
theorem va_S.trans1 {A : Nat → Prop} {H0 H H1 : Heap} {locs locs1 : List Loc} (h : va_S A H0 H locs) (h1 : va_S A H H1 locs1) : va_S A H0 H1 locs1 :=
  ⟨Nat.le_trans h.1 h1.1, fun x g1 g2 => (h1.2.1 x (Nat.lt_of_lt_of_le g1 h.1) g2).trans (h.2.1 x g1 g2), h1.2.2⟩
theorem va_S.here {A : Nat → Prop} {H0 H : Heap} {locs : List Loc} (h : va_S A H0 H locs) : va_S A H H locs := ⟨Nat.le_refl _, fun _ _ _ => rfl, h.2.2⟩
