/-! CALLS AND RETURNS -/
theorem zgrow {E : zEn} : ∀ (n d : Nat) (cd : List zI) (pc : Nat) (lv : zLv) (st : List Value) (w : zW) (r : Option Value) (w' : zW), zexec E n d cd pc lv st w = some (r, w') → ∃ t, w'.1 = w.1 ++ t := by
  intro n
  induction n with
  | zero => intro d cd pc lv st w r w' h; simp [zexec] at h
  | succ n ih =>
    intro d cd pc lv st w r w' h
    simp only [zexec] at h
    split at h
    · cases h
    · rename_i i hi
      split at h
      · split at h
        · rename_i x hx
          obtain ⟨t1, h1⟩ := zstep_grow hx
          obtain ⟨t2, h2⟩ := ih _ _ _ _ _ _ _ _ h
          exact ⟨t1 ++ t2, by rw [h2, h1, List.append_assoc]⟩
        · cases h
      · split at h
        · cases h; exact ⟨[], (List.append_nil _).symm⟩
        · cases h
      · split at h
        · cases h
        · split at h
          · cases h
          · split at h
            · split at h
              · rename_i x hx
                obtain ⟨t1, h1⟩ := ih _ _ _ _ _ _ _ _ hx
                obtain ⟨t2, h2⟩ := ih _ _ _ _ _ _ _ _ h
                exact ⟨t1 ++ t2, by rw [h2, h1, List.append_assoc]⟩
              · cases h
            · cases h
theorem zsl_mono (a t : List (Nat × Nat)) : zsl a ≤ zsl (a ++ t) := by
  unfold zsl
  rw [List.map_append, List.sum_append]
  omega
theorem zgood {y : Jvm.Cond} (h : y ∈ zTbl) : (y.onTables && y.keeps) = true ∨ ∃ ty, y = .arrayClass ty := good_of_word (List.mem_filter.mp h).2
theorem zgoodIn {ws : List Jvm.Cond} (h : ∀ y ∈ ws, y ∈ zTbl) : GoodIn zTbl ws := fun y hy => ⟨h y hy, zgood (h y hy)⟩
theorem zlv_args {B : Nat} {ex : Nat → Value} (h0 : ∀ j, ex j = .null ∨ ∃ t, ex j = .ref t) : ∀ (vs : List Value) (i : Nat), lv_args i (vs.map (zv B ex)) = zmv B ex (lv_args i vs)
  | [], _ => rfl
  | v :: vs, i => by
    simp only [List.map_cons, lv_args, zmv, zcat h0]
    congr 1
    exact zlv_args h0 vs _
theorem zlg {B : Nat} {ex : Nat → Value} (h0 : ∀ j, ex j = .null ∨ ∃ t, ex j = .ref t) : ∀ vs : List Value, (lg_sl (vs.map (zv B ex))).length = zct vs
  | [] => rfl
  | v :: vs => by
    have ih := zlg (B := B) h0 vs
    unfold lg_sl zct at *
    simp only [List.map_cons, List.flatMap_cons, List.length_append, List.sum_cons, ih]
    congr 1
    rw [zcat h0]
    rcases lv_cat v with h | h <;> simp [h]
section ZC
variable {p : Program} {l : Launch} {e : Env} {R : Room} {s : State} {m : MethodId} {args : Array Value} {below : List Frame} {meth : Method} {c : Code} {Q : State → Prop} {B : Nat} {ex : Nat → Value} {dA dC : Nat → ClassId} {dI : Nat → Nat → Nat} {E : zEn} {q : zMe} {n0 s0 d : Nat} {pc : Nat} {lv : zLv} {st : List Value} {w w' : zW} {x : zS}
/-- how a method begins and ends -/
def zPc (B : Nat) (ex : Nat → Value) (dA dC : Nat → ClassId) (dI : Nat → Nat → Nat) (E : zEn) (as : List Value) (w : zW) : Array Value → State → Prop := fun v U => v = (as.map (zv B ex)).toArray ∧ U.heap.size = B + w.1.length ∧ zR B ex dA dC dI w U.heap ∧ va_K (dC, dI) vwCl (zty dA) U ∧ zXt B ex E U U.heap
def zQc (B : Nat) (ex : Nat → Value) (dA dC : Nat → ClassId) (dI : Nat → Nat → Nat) (r : Option Value) (w' : zW) : Array Value → State → Outcome → State → Prop := fun _ su oc t => oc = .returned (r.map (zv B ex)) ∧ zR B ex dA dC dI w' t.heap ∧ su.heap.size ≤ t.heap.size ∧ ∀ a : Nat, a < su.heap.size → ¬ B ≤ a → t.heap[a]? = su.heap[a]?
theorem zPc_blind {as : List Value} : FrameBlind (zPc B ex dA dC dI E as w) := by
  intro a U g mk h
  obtain ⟨h1, h2, h3, h4, h5⟩ := h
  exact ⟨h1, h2, h3, va_K.moved (u := U) (U := U.calling g mk a) (Vm.Alike.refl U.vm) h4, zXt.moved (u := U) (U := U.calling g mk a) (State.WarmedH.refl U) (fun _ _ _ => rfl) h5⟩
/-- a call's end -/
theorem zcallW {H : Heap} {locs : List Loc} {cells slots mc ms : Nat} {ls : Array Slot} {st0 rest : List Value} {a : Array Value} {r : Option Value} (hr : va_Run p l e R s m args below meth c H locs cells slots mc ms (F0 m pc ls st0) rest (zQc B ex dA dC dI r w' a) (fun y : Nat => B ≤ y)) (hS : va_S (fun y : Nat => B ≤ y) s.heap H locs)
    (kk : ∀ (H1 : Heap) (locs1 : List Loc), zR B ex dA dC dI w' H1 → va_S (fun y : Nat => B ≤ y) s.heap H1 locs1 → W p l e R s m args below meth c H1 locs1 (cells + mc) (slots + ms) Q (F0 m (pc + 3) ls ((r.map (zv B ex)).toList ++ rest))) : W p l e R s m args below meth c H locs cells slots Q (F0 m pc ls st0) := by
  intro T hT X
  obtain ⟨v, st₀, t, T', L, h0, X', hL, e1, e2, ⟨hv, hq1, hq2, hq3⟩, stp⟩ := hr T hT X
  cases hv
  rw [h0] at hq2 hq3
  obtain ⟨t2, a1, b1⟩ := kk T'.heap (locs ++ L) (by rw [e1]; exact hq1) ⟨Nat.le_trans hS.1 (by rw [e1]; exact hq2), fun y h1 h2 => by rw [e1, hq3 y (Nat.lt_of_lt_of_le h1 hS.1) h2]; exact hS.2.1 y h1 h2, fun y hy => by
      rcases List.mem_append.mp hy with h | h
      · exact hS.2.2 y h
      · exact hL y h⟩ T' rfl X'
  exact ⟨t2, stp t2 a1, b1⟩
/-- a method's own end -/
theorem zretW (C : zCx B ex dA dC dI E p R s m args meth c q n0 d) (hr : meth.sig.returnType = q.2.2.2.1) (hlocks : meth.locks = false) {i : zI} {r : Option Value} (hck : zck q pc i = true) (hk1 : zkind i = 1) (hrt : zret i st = some r) : zWn p l e R s m args below meth c (MQ below (zQc B ex dA dC dI r w) args s (w.1.length - n0) (zsl w.1 - s0) (fun y : Nat => B ≤ y)) B ex dA dC dI q n0 s0 (pc, lv, st, w) := by
  unfold zck at hck
  rw [Bool.or_eq_true, Bool.and_eq_true, decide_eq_true_eq, decide_eq_true_eq] at hck
  rcases hck with rfl | ⟨hd, hk2⟩
  · simp [zkind] at hk1
  obtain ⟨ins, len, fa, fb, fc⟩ := i
  dsimp only at hd
  intro H locs ls hR hS hl
  have hq : ∀ t : State, t.heap = H → s.WarmedH t.vm → zQc B ex dA dC dI r w args s (.returned (r.map (zv B ex))) t := fun t ht _ => ⟨rfl, by rw [ht]; exact hR, by rw [ht]; exact hS.1, fun a h1 h2 => by rw [ht]; exact hS.2.1 a h1 h2⟩
  have hf : ∀ y ∈ locs, (fun y : Nat => B ≤ y) y.base := hS.2.2
  cases ins with
  | return_ =>
    simp only [zck2, Bool.and_eq_true, beq_iff_eq, decide_eq_true_eq] at hk2
    obtain ⟨hlen, hty⟩ := hk2
    subst hlen
    simp only [zret] at hrt
    split at hrt
    · cases hrt
      exact W.vret C.hx C.hb (hr.trans hty) hq hf hd hlocks
    · cases hrt
  | lreturn =>
    simp only [zck2, Bool.and_eq_true, beq_iff_eq, decide_eq_true_eq] at hk2
    obtain ⟨hlen, hty⟩ := hk2
    subst hlen
    simp only [zret] at hrt
    split at hrt
    · cases hrt
      exact W.lret C.hx C.hb (hr.trans hty) hq hf hd
    · cases hrt
  | areturn =>
    simp only [zck2, Bool.and_eq_true, beq_iff_eq] at hk2
    obtain ⟨hlen, hty⟩ := hk2
    subst hlen
    have hrt2 : ∃ rt, q.2.2.2.1 = some rt ∧ ((∃ n, rt = .object n) ∨ ∃ t, rt = .array t) := by
      split at hty
      · rename_i h9; exact ⟨_, h9, Or.inl ⟨_, rfl⟩⟩
      · rename_i h9; exact ⟨_, h9, Or.inr ⟨_, rfl⟩⟩
      · cases hty
    obtain ⟨rt, hrt3, hrt4⟩ := hrt2
    simp only [zret] at hrt
    split at hrt
    · rename_i y
      split at hrt
      · rename_i hy
        cases hrt
        have e1 : zv B ex (.ref y) = .ref (B + y) := zv_lt hy
        exact W.aret (v := zv B ex (.ref y)) C.hx C.hb (hr.trans hrt3) hrt4 (Or.inr ⟨_, e1⟩) hq hf hd hlocks
      · cases hrt
    · cases hrt
      exact W.aret (v := .null) C.hx C.hb (hr.trans hrt3) hrt4 (Or.inl rfl) hq hf hd hlocks
    · cases hrt
  | ireturn =>
    simp only [zck2, Bool.and_eq_true, beq_iff_eq, decide_eq_true_eq] at hk2
    obtain ⟨hlen, hty⟩ := hk2
    subst hlen
    simp only [zret] at hrt
    split at hrt
    · rename_i y
      split at hrt
      · rename_i h1
        rw [if_pos h1] at hty
        cases hrt
        exact W.iret C.hx C.hb (hr.trans hty) hq hf hd hlocks
      · rename_i h1
        rw [if_neg h1] at hty
        split at hrt
        · rename_i h2
          rw [if_pos h2] at hty
          split at hrt
          · rename_i h3
            cases hrt
            refine W.zret C.hx C.hb (hr.trans hty) ?_ hq hf hd hlocks
            rcases h3 with rfl | rfl <;> rfl
          · cases hrt
        · rename_i h2
          rw [if_neg h2] at hty
          split at hrt
          · rename_i h3
            rw [if_pos h3] at hty
            split at hrt
            · rename_i h4
              cases hrt
              exact W.zret C.hx C.hb (hr.trans hty) h4 hq hf hd hlocks
            · cases hrt
          · rename_i h3
            rw [if_neg h3] at hty
            split at hrt
            · rename_i h4
              cases hrt
              exact W.zret C.hx C.hb (hr.trans hty) h4 hq hf hd hlocks
            · cases hrt
    · cases hrt
  | _ => simp [zret] at hrt
end ZC
