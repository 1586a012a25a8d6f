/-! EACH INSTRUCTION OF THE INTERPRETER IS THE MACHINE'S -/
def zCx (B : Nat) (ex : Nat → Value) (dA dC : Nat → ClassId) (dI : Nat → Nat → Nat) (E : zEn) (p : Program) (R : Room) (s : State) (m : MethodId) (args : Array Value) (meth : Method) (c : Code) (q : zMe) (n0 d : Nat) : Prop :=
  p.tables.exec = Jvm.exec ∧ c.code = q.2.1 ∧ c.maxLocals = q.2.2.1 ∧ s.vm.findClass q.1.cls = some m.cls ∧ (∀ x ∈ zTbl, x.before args s = true) ∧ va_K (dC, dI) vwCl (zty dA) s ∧ zXt B ex E s s.heap ∧ s.heap.size = B + n0 ∧ (q.1.name = "<init>" → meth.name = "<init>") ∧ d + 1 ≤ R.frames ∧ 60 * (d + 1) ≤ R.locals
/-- the machine, at this state of the interpreter's, comes to Q -/
def zWn (p : Program) (l : Launch) (e : Env) (R : Room) (s : State) (m : MethodId) (args : Array Value) (below : List Frame) (meth : Method) (c : Code) (Q : State → Prop) (B : Nat) (ex : Nat → Value) (dA dC : Nat → ClassId) (dI : Nat → Nat → Nat) (q : zMe) (n0 s0 : Nat) (x : zS) : Prop :=
  ∀ (H : Heap) (locs : List Loc) (ls : Array Slot), zR B ex dA dC dI x.2.2.2 H → va_S (fun y : Nat => B ≤ y) s.heap H locs → lv_has ls q.2.2.1 (zmv B ex x.2.1) → W p l e R s m args below meth c H locs (x.2.2.2.1.length - n0) (zsl x.2.2.2.1 - s0) Q (F0 m x.1 ls (x.2.2.1.map (zv B ex)))
section ZS
variable {p : Program} {l : Launch} {e : Env} {R : Room} {s : State} {m : MethodId} {args : Array Value} {below : List Frame} {meth : Method} {c : Code} {Q : State → Prop} {B : Nat} {ex : Nat → Value} {dA dC : Nat → ClassId} {dI : Nat → Nat → Nat} {E : zEn} {q : zMe} {n0 s0 d : Nat} {pc : Nat} {lv : zLv} {st : List Value} {w : zW} {x : zS} {fa fb fc : Nat}
theorem zCx.hx (h : zCx B ex dA dC dI E p R s m args meth c q n0 d) : p.tables.exec = Jvm.exec := h.1
theorem zCx.hb (h : zCx B ex dA dC dI E p R s m args meth c q n0 d) : c.code = q.2.1 := h.2.1
theorem zCx.hml (h : zCx B ex dA dC dI E p R s m args meth c q n0 d) : c.maxLocals = q.2.2.1 := h.2.2.1
theorem zCx.hown (h : zCx B ex dA dC dI E p R s m args meth c q n0 d) : s.vm.findClass q.1.cls = some m.cls := h.2.2.2.1
theorem zCx.hts (h : zCx B ex dA dC dI E p R s m args meth c q n0 d) : ∀ x ∈ zTbl, x.before args s = true := h.2.2.2.2.1
theorem zCx.hK (h : zCx B ex dA dC dI E p R s m args meth c q n0 d) : va_K (dC, dI) vwCl (zty dA) s := h.2.2.2.2.2.1
theorem zCx.hX (h : zCx B ex dA dC dI E p R s m args meth c q n0 d) : zXt B ex E s s.heap := h.2.2.2.2.2.2.1
theorem zCx.hz (h : zCx B ex dA dC dI E p R s m args meth c q n0 d) : s.heap.size = B + n0 := h.2.2.2.2.2.2.2.1
theorem zCx.hnm (h : zCx B ex dA dC dI E p R s m args meth c q n0 d) : q.1.name = "<init>" → meth.name = "<init>" := h.2.2.2.2.2.2.2.2.1
theorem zCx.hfr (h : zCx B ex dA dC dI E p R s m args meth c q n0 d) : d + 1 ≤ R.frames := h.2.2.2.2.2.2.2.2.2.1
theorem zCx.hlo (h : zCx B ex dA dC dI E p R s m args meth c q n0 d) : 60 * (d + 1) ≤ R.locals := h.2.2.2.2.2.2.2.2.2.2
theorem zCx.h0 (h : zCx B ex dA dC dI E p R s m args meth c q n0 d) : ∀ j, ex j = .null ∨ ∃ t, ex j = .ref t := h.hX.1
theorem zrefs (h0 : ∀ j, ex j = .null ∨ ∃ t, ex j = .ref t) (y : Nat) : zv B ex (.ref y) = .null ∨ ∃ t, zv B ex (.ref y) = .ref t := by
  by_cases hk : y < zEX
  · exact Or.inr ⟨_, zv_lt hk⟩
  · rw [zv_ge hk]; exact h0 _
theorem zo_iconst (C : zCx B ex dA dC dI E p R s m args meth c q n0 d) {n : Int} (hd : decode q.2.1 pc = .ok (.iconst n, 1)) (h : zstep E (.iconst n, 1, fa, fb, fc) pc lv st w = some x) (k : zWn p l e R s m args below meth c Q B ex dA dC dI q n0 s0 x) : zWn p l e R s m args below meth c Q B ex dA dC dI q n0 s0 (pc, lv, st, w) := by
  simp only [zstep] at h
  cases h
  exact fun H locs ls hR hS hl => lv_iconst C.hx C.hb hd rfl (k H locs ls hR hS hl)
theorem zo_lconst (C : zCx B ex dA dC dI E p R s m args meth c q n0 d) {n : Fin 2} (hd : decode q.2.1 pc = .ok (.lconst n, 1)) (h : zstep E (.lconst n, 1, fa, fb, fc) pc lv st w = some x) (k : zWn p l e R s m args below meth c Q B ex dA dC dI q n0 s0 x) : zWn p l e R s m args below meth c Q B ex dA dC dI q n0 s0 (pc, lv, st, w) := by
  simp only [zstep] at h
  cases h
  exact fun H locs ls hR hS hl => lv_lconst C.hx C.hb hd rfl (k H locs ls hR hS hl)
theorem zo_bipush (C : zCx B ex dA dC dI E p R s m args meth c q n0 d) {n : Int} (hd : decode q.2.1 pc = .ok (.bipush n, 2)) (h : zstep E (.bipush n, 2, fa, fb, fc) pc lv st w = some x) (k : zWn p l e R s m args below meth c Q B ex dA dC dI q n0 s0 x) : zWn p l e R s m args below meth c Q B ex dA dC dI q n0 s0 (pc, lv, st, w) := by
  simp only [zstep] at h
  cases h
  exact fun H locs ls hR hS hl => lv_bipush C.hx C.hb hd rfl (k H locs ls hR hS hl)
theorem zo_sipush (C : zCx B ex dA dC dI E p R s m args meth c q n0 d) {n : Int} (hd : decode q.2.1 pc = .ok (.sipush n, 3)) (h : zstep E (.sipush n, 3, fa, fb, fc) pc lv st w = some x) (k : zWn p l e R s m args below meth c Q B ex dA dC dI q n0 s0 x) : zWn p l e R s m args below meth c Q B ex dA dC dI q n0 s0 (pc, lv, st, w) := by
  simp only [zstep] at h
  cases h
  exact fun H locs ls hR hS hl => lv_sipush C.hx C.hb hd rfl (k H locs ls hR hS hl)
theorem zo_aconst_null (C : zCx B ex dA dC dI E p R s m args meth c q n0 d) (hd : decode q.2.1 pc = .ok (.aconst_null, 1)) (h : zstep E (.aconst_null, 1, fa, fb, fc) pc lv st w = some x) (k : zWn p l e R s m args below meth c Q B ex dA dC dI q n0 s0 x) : zWn p l e R s m args below meth c Q B ex dA dC dI q n0 s0 (pc, lv, st, w) := by
  simp only [zstep] at h
  cases h
  exact fun H locs ls hR hS hl => lv_null C.hx C.hb hd (k H locs ls hR hS hl)
theorem zo_goto (C : zCx B ex dA dC dI E p R s m args meth c q n0 d) {n : Int} (hd : decode q.2.1 pc = .ok (.goto n, 3)) (ht : (pc : Int) + n = (fa : Int)) (h : zstep E (.goto n, 3, fa, fb, fc) pc lv st w = some x) (k : zWn p l e R s m args below meth c Q B ex dA dC dI q n0 s0 x) : zWn p l e R s m args below meth c Q B ex dA dC dI q n0 s0 (pc, lv, st, w) := by
  simp only [zstep] at h
  cases h
  exact fun H locs ls hR hS hl => lv_goto C.hx C.hb hd ht (k H locs ls hR hS hl)
theorem zo_iload (C : zCx B ex dA dC dI E p R s m args meth c q n0 d) {j : Nat} (hd : decode q.2.1 pc = .ok (.iload j, 2)) (h : zstep E (.iload j, 2, fa, fb, fc) pc lv st w = some x) (k : zWn p l e R s m args below meth c Q B ex dA dC dI q n0 s0 x) : zWn p l e R s m args below meth c Q B ex dA dC dI q n0 s0 (pc, lv, st, w) := by
  simp only [zstep] at h
  split at h
  · rename_i y hy
    cases h
    exact fun H locs ls hR hS hl => lv_iload C.hx C.hb hd (zlk_ls hl hy) (k H locs ls hR hS hl)
  · cases h
theorem zo_iload_n (C : zCx B ex dA dC dI E p R s m args meth c q n0 d) {j : Fin 4} (hd : decode q.2.1 pc = .ok (.iload_n j, 1)) (h : zstep E (.iload_n j, 1, fa, fb, fc) pc lv st w = some x) (k : zWn p l e R s m args below meth c Q B ex dA dC dI q n0 s0 x) : zWn p l e R s m args below meth c Q B ex dA dC dI q n0 s0 (pc, lv, st, w) := by
  simp only [zstep] at h
  split at h
  · rename_i y hy
    cases h
    exact fun H locs ls hR hS hl => lv_iload_n C.hx C.hb hd rfl (zlk_ls hl hy) (k H locs ls hR hS hl)
  · cases h
theorem zo_lload (C : zCx B ex dA dC dI E p R s m args meth c q n0 d) {j : Nat} (hd : decode q.2.1 pc = .ok (.lload j, 2)) (h : zstep E (.lload j, 2, fa, fb, fc) pc lv st w = some x) (k : zWn p l e R s m args below meth c Q B ex dA dC dI q n0 s0 x) : zWn p l e R s m args below meth c Q B ex dA dC dI q n0 s0 (pc, lv, st, w) := by
  simp only [zstep] at h
  split at h
  · rename_i y hy
    cases h
    exact fun H locs ls hR hS hl => lv_lload C.hx C.hb hd (zlk_ls hl hy) (k H locs ls hR hS hl)
  · cases h
theorem zo_lload_n (C : zCx B ex dA dC dI E p R s m args meth c q n0 d) {j : Fin 4} (hd : decode q.2.1 pc = .ok (.lload_n j, 1)) (h : zstep E (.lload_n j, 1, fa, fb, fc) pc lv st w = some x) (k : zWn p l e R s m args below meth c Q B ex dA dC dI q n0 s0 x) : zWn p l e R s m args below meth c Q B ex dA dC dI q n0 s0 (pc, lv, st, w) := by
  simp only [zstep] at h
  split at h
  · rename_i y hy
    cases h
    exact fun H locs ls hR hS hl => lv_lload_n C.hx C.hb hd rfl (zlk_ls hl hy) (k H locs ls hR hS hl)
  · cases h
theorem zo_aload (C : zCx B ex dA dC dI E p R s m args meth c q n0 d) {j : Nat} (hd : decode q.2.1 pc = .ok (.aload j, 2)) (h : zstep E (.aload j, 2, fa, fb, fc) pc lv st w = some x) (k : zWn p l e R s m args below meth c Q B ex dA dC dI q n0 s0 x) : zWn p l e R s m args below meth c Q B ex dA dC dI q n0 s0 (pc, lv, st, w) := by
  simp only [zstep] at h
  split at h
  · rename_i y hy
    cases h
    intro H locs ls hR hS hl
    have hk : W p l e R s m args below meth c H locs (w.1.length - n0) (zsl w.1 - s0) Q (F0 m (pc + 2) ls (zv B ex (.ref y) :: st.map (zv B ex))) := k H locs ls hR hS hl
    have hz := zlk_ls hl hy
    rcases zrefs (B := B) C.h0 y with e | ⟨t, e⟩
    · rw [e] at hk hz
      exact lv_aloadN C.hx C.hb hd hz hk
    · rw [e] at hk hz
      exact lv_aload C.hx C.hb hd hz hk
  · rename_i hy
    cases h
    exact fun H locs ls hR hS hl => lv_aloadN C.hx C.hb hd (zlk_ls hl hy) (k H locs ls hR hS hl)
  · cases h
theorem zo_aload_n (C : zCx B ex dA dC dI E p R s m args meth c q n0 d) {j : Fin 4} (hd : decode q.2.1 pc = .ok (.aload_n j, 1)) (h : zstep E (.aload_n j, 1, fa, fb, fc) pc lv st w = some x) (k : zWn p l e R s m args below meth c Q B ex dA dC dI q n0 s0 x) : zWn p l e R s m args below meth c Q B ex dA dC dI q n0 s0 (pc, lv, st, w) := by
  simp only [zstep] at h
  split at h
  · rename_i y hy
    cases h
    intro H locs ls hR hS hl
    have hk : W p l e R s m args below meth c H locs (w.1.length - n0) (zsl w.1 - s0) Q (F0 m (pc + 1) ls (zv B ex (.ref y) :: st.map (zv B ex))) := k H locs ls hR hS hl
    have hz := zlk_ls hl hy
    rcases zrefs (B := B) C.h0 y with e | ⟨t, e⟩
    · rw [e] at hk hz
      exact lv_aload_nN C.hx C.hb hd rfl hz hk
    · rw [e] at hk hz
      exact lv_aload_n C.hx C.hb hd rfl hz hk
  · rename_i hy
    cases h
    exact fun H locs ls hR hS hl => lv_aload_nN C.hx C.hb hd rfl (zlk_ls hl hy) (k H locs ls hR hS hl)
  · cases h
theorem zo_istore (C : zCx B ex dA dC dI E p R s m args meth c q n0 d) {j : Nat} (hd : decode q.2.1 pc = .ok (.istore j, 2)) (hn : j < q.2.2.1) (h : zstep E (.istore j, 2, fa, fb, fc) pc lv st w = some x) (k : zWn p l e R s m args below meth c Q B ex dA dC dI q n0 s0 x) : zWn p l e R s m args below meth c Q B ex dA dC dI q n0 s0 (pc, lv, st, w) := by
  simp only [zstep] at h
  split at h
  · rename_i y r
    cases h
    exact fun H locs ls hR hS hl => lv_istore C.hx C.hb hd hl hn (zs1_mv C.h0 lv j (.int y)) (fun ls' hl' => k H locs ls' hR hS hl')
  · cases h
theorem zo_istore_n (C : zCx B ex dA dC dI E p R s m args meth c q n0 d) {j : Fin 4} (hd : decode q.2.1 pc = .ok (.istore_n j, 1)) (hn : j.val < q.2.2.1) (h : zstep E (.istore_n j, 1, fa, fb, fc) pc lv st w = some x) (k : zWn p l e R s m args below meth c Q B ex dA dC dI q n0 s0 x) : zWn p l e R s m args below meth c Q B ex dA dC dI q n0 s0 (pc, lv, st, w) := by
  simp only [zstep] at h
  split at h
  · rename_i y r
    cases h
    exact fun H locs ls hR hS hl => lv_istore_n C.hx C.hb hd rfl hl hn (zs1_mv C.h0 lv j.val (.int y)) (fun ls' hl' => k H locs ls' hR hS hl')
  · cases h
theorem zo_lstore (C : zCx B ex dA dC dI E p R s m args meth c q n0 d) {j : Nat} (hd : decode q.2.1 pc = .ok (.lstore j, 2)) (hn : j + 1 < q.2.2.1) (h : zstep E (.lstore j, 2, fa, fb, fc) pc lv st w = some x) (k : zWn p l e R s m args below meth c Q B ex dA dC dI q n0 s0 x) : zWn p l e R s m args below meth c Q B ex dA dC dI q n0 s0 (pc, lv, st, w) := by
  simp only [zstep] at h
  split at h
  · rename_i y r
    cases h
    exact fun H locs ls hR hS hl => lv_lstore C.hx C.hb hd hl hn (zs2_mv C.h0 lv j (.long y)) (fun ls' hl' => k H locs ls' hR hS hl')
  · cases h
theorem zo_lstore_n (C : zCx B ex dA dC dI E p R s m args meth c q n0 d) {j : Fin 4} (hd : decode q.2.1 pc = .ok (.lstore_n j, 1)) (hn : j.val + 1 < q.2.2.1) (h : zstep E (.lstore_n j, 1, fa, fb, fc) pc lv st w = some x) (k : zWn p l e R s m args below meth c Q B ex dA dC dI q n0 s0 x) : zWn p l e R s m args below meth c Q B ex dA dC dI q n0 s0 (pc, lv, st, w) := by
  simp only [zstep] at h
  split at h
  · rename_i y r
    cases h
    exact fun H locs ls hR hS hl => lv_lstore_n C.hx C.hb hd rfl hl hn (zs2_mv C.h0 lv j.val (.long y)) (fun ls' hl' => k H locs ls' hR hS hl')
  · cases h
theorem zo_astore (C : zCx B ex dA dC dI E p R s m args meth c q n0 d) {j : Nat} (hd : decode q.2.1 pc = .ok (.astore j, 2)) (hn : j < q.2.2.1) (h : zstep E (.astore j, 2, fa, fb, fc) pc lv st w = some x) (k : zWn p l e R s m args below meth c Q B ex dA dC dI q n0 s0 x) : zWn p l e R s m args below meth c Q B ex dA dC dI q n0 s0 (pc, lv, st, w) := by
  simp only [zstep] at h
  split at h
  · rename_i y r
    cases h
    intro H locs ls hR hS hl
    have hm := zs1_mv (B := B) C.h0 lv j (.ref y)
    show W p l e R s m args below meth c H locs _ _ Q (F0 m pc ls (zv B ex (.ref y) :: r.map (zv B ex)))
    rcases zrefs (B := B) C.h0 y with e | ⟨t, e⟩
    · rw [e] at hm ⊢
      exact lv_astoreN C.hx C.hb hd hl hn hm (fun ls' hl' => k H locs ls' hR hS hl')
    · rw [e] at hm ⊢
      exact lv_astore C.hx C.hb hd hl hn hm (fun ls' hl' => k H locs ls' hR hS hl')
  · rename_i r
    cases h
    exact fun H locs ls hR hS hl => lv_astoreN C.hx C.hb hd hl hn (zs1_mv C.h0 lv j .null) (fun ls' hl' => k H locs ls' hR hS hl')
  · cases h
theorem zo_astore_n (C : zCx B ex dA dC dI E p R s m args meth c q n0 d) {j : Fin 4} (hd : decode q.2.1 pc = .ok (.astore_n j, 1)) (hn : j.val < q.2.2.1) (h : zstep E (.astore_n j, 1, fa, fb, fc) pc lv st w = some x) (k : zWn p l e R s m args below meth c Q B ex dA dC dI q n0 s0 x) : zWn p l e R s m args below meth c Q B ex dA dC dI q n0 s0 (pc, lv, st, w) := by
  simp only [zstep] at h
  split at h
  · rename_i y r
    cases h
    intro H locs ls hR hS hl
    have hm := zs1_mv (B := B) C.h0 lv j.val (.ref y)
    show W p l e R s m args below meth c H locs _ _ Q (F0 m pc ls (zv B ex (.ref y) :: r.map (zv B ex)))
    rcases zrefs (B := B) C.h0 y with e | ⟨t, e⟩
    · rw [e] at hm ⊢
      exact lv_astore_nN C.hx C.hb hd rfl hl hn hm (fun ls' hl' => k H locs ls' hR hS hl')
    · rw [e] at hm ⊢
      exact lv_astore_n C.hx C.hb hd rfl hl hn hm (fun ls' hl' => k H locs ls' hR hS hl')
  · rename_i r
    cases h
    exact fun H locs ls hR hS hl => lv_astore_nN C.hx C.hb hd rfl hl hn (zs1_mv C.h0 lv j.val .null) (fun ls' hl' => k H locs ls' hR hS hl')
  · cases h
theorem zo_iinc (C : zCx B ex dA dC dI E p R s m args meth c q n0 d) {j : Nat} {n : Int} (hd : decode q.2.1 pc = .ok (.iinc j n, 3)) (hn : j < q.2.2.1) (h : zstep E (.iinc j n, 3, fa, fb, fc) pc lv st w = some x) (k : zWn p l e R s m args below meth c Q B ex dA dC dI q n0 s0 x) : zWn p l e R s m args below meth c Q B ex dA dC dI q n0 s0 (pc, lv, st, w) := by
  simp only [zstep] at h
  split at h
  · rename_i y hy
    cases h
    intro H locs ls hR hS hl
    obtain ⟨g, hg⟩ := zlk_place (B := B) (ex := ex) hy
    exact lv_iinc C.hx C.hb hd hl hg rfl hn (zs1_mv C.h0 lv j (.int (y + Int32.ofInt n))) (fun ls' hl' => k H locs ls' hR hS hl')
  · cases h
theorem zo_iadd (C : zCx B ex dA dC dI E p R s m args meth c q n0 d) (hd : decode q.2.1 pc = .ok (.iadd, 1)) (h : zstep E (.iadd, 1, fa, fb, fc) pc lv st w = some x) (k : zWn p l e R s m args below meth c Q B ex dA dC dI q n0 s0 x) : zWn p l e R s m args below meth c Q B ex dA dC dI q n0 s0 (pc, lv, st, w) := by
  simp only [zstep] at h
  split at h
  · cases h
    exact fun H locs ls hR hS hl => lv_iadd C.hx C.hb hd (k H locs ls hR hS hl)
  · cases h
theorem zo_isub (C : zCx B ex dA dC dI E p R s m args meth c q n0 d) (hd : decode q.2.1 pc = .ok (.isub, 1)) (h : zstep E (.isub, 1, fa, fb, fc) pc lv st w = some x) (k : zWn p l e R s m args below meth c Q B ex dA dC dI q n0 s0 x) : zWn p l e R s m args below meth c Q B ex dA dC dI q n0 s0 (pc, lv, st, w) := by
  simp only [zstep] at h
  split at h
  · cases h
    exact fun H locs ls hR hS hl => lv_isub C.hx C.hb hd (k H locs ls hR hS hl)
  · cases h
theorem zo_imul (C : zCx B ex dA dC dI E p R s m args meth c q n0 d) (hd : decode q.2.1 pc = .ok (.imul, 1)) (h : zstep E (.imul, 1, fa, fb, fc) pc lv st w = some x) (k : zWn p l e R s m args below meth c Q B ex dA dC dI q n0 s0 x) : zWn p l e R s m args below meth c Q B ex dA dC dI q n0 s0 (pc, lv, st, w) := by
  simp only [zstep] at h
  split at h
  · cases h
    exact fun H locs ls hR hS hl => lv_imul C.hx C.hb hd (k H locs ls hR hS hl)
  · cases h
theorem zo_iand (C : zCx B ex dA dC dI E p R s m args meth c q n0 d) (hd : decode q.2.1 pc = .ok (.iand, 1)) (h : zstep E (.iand, 1, fa, fb, fc) pc lv st w = some x) (k : zWn p l e R s m args below meth c Q B ex dA dC dI q n0 s0 x) : zWn p l e R s m args below meth c Q B ex dA dC dI q n0 s0 (pc, lv, st, w) := by
  simp only [zstep] at h
  split at h
  · cases h
    exact fun H locs ls hR hS hl => lv_iand C.hx C.hb hd (k H locs ls hR hS hl)
  · cases h
theorem zo_ior (C : zCx B ex dA dC dI E p R s m args meth c q n0 d) (hd : decode q.2.1 pc = .ok (.ior, 1)) (h : zstep E (.ior, 1, fa, fb, fc) pc lv st w = some x) (k : zWn p l e R s m args below meth c Q B ex dA dC dI q n0 s0 x) : zWn p l e R s m args below meth c Q B ex dA dC dI q n0 s0 (pc, lv, st, w) := by
  simp only [zstep] at h
  split at h
  · cases h
    exact fun H locs ls hR hS hl => lv_ior C.hx C.hb hd (k H locs ls hR hS hl)
  · cases h
theorem zo_ixor (C : zCx B ex dA dC dI E p R s m args meth c q n0 d) (hd : decode q.2.1 pc = .ok (.ixor, 1)) (h : zstep E (.ixor, 1, fa, fb, fc) pc lv st w = some x) (k : zWn p l e R s m args below meth c Q B ex dA dC dI q n0 s0 x) : zWn p l e R s m args below meth c Q B ex dA dC dI q n0 s0 (pc, lv, st, w) := by
  simp only [zstep] at h
  split at h
  · cases h
    exact fun H locs ls hR hS hl => lv_ixor C.hx C.hb hd (k H locs ls hR hS hl)
  · cases h
theorem zo_ladd (C : zCx B ex dA dC dI E p R s m args meth c q n0 d) (hd : decode q.2.1 pc = .ok (.ladd, 1)) (h : zstep E (.ladd, 1, fa, fb, fc) pc lv st w = some x) (k : zWn p l e R s m args below meth c Q B ex dA dC dI q n0 s0 x) : zWn p l e R s m args below meth c Q B ex dA dC dI q n0 s0 (pc, lv, st, w) := by
  simp only [zstep] at h
  split at h
  · cases h
    exact fun H locs ls hR hS hl => lv_ladd C.hx C.hb hd (k H locs ls hR hS hl)
  · cases h
theorem zo_land (C : zCx B ex dA dC dI E p R s m args meth c q n0 d) (hd : decode q.2.1 pc = .ok (.land, 1)) (h : zstep E (.land, 1, fa, fb, fc) pc lv st w = some x) (k : zWn p l e R s m args below meth c Q B ex dA dC dI q n0 s0 x) : zWn p l e R s m args below meth c Q B ex dA dC dI q n0 s0 (pc, lv, st, w) := by
  simp only [zstep] at h
  split at h
  · cases h
    exact fun H locs ls hR hS hl => lv_land C.hx C.hb hd (k H locs ls hR hS hl)
  · cases h
theorem zo_lor (C : zCx B ex dA dC dI E p R s m args meth c q n0 d) (hd : decode q.2.1 pc = .ok (.lor, 1)) (h : zstep E (.lor, 1, fa, fb, fc) pc lv st w = some x) (k : zWn p l e R s m args below meth c Q B ex dA dC dI q n0 s0 x) : zWn p l e R s m args below meth c Q B ex dA dC dI q n0 s0 (pc, lv, st, w) := by
  simp only [zstep] at h
  split at h
  · cases h
    exact fun H locs ls hR hS hl => lv_lor C.hx C.hb hd (k H locs ls hR hS hl)
  · cases h
theorem zo_lxor (C : zCx B ex dA dC dI E p R s m args meth c q n0 d) (hd : decode q.2.1 pc = .ok (.lxor, 1)) (h : zstep E (.lxor, 1, fa, fb, fc) pc lv st w = some x) (k : zWn p l e R s m args below meth c Q B ex dA dC dI q n0 s0 x) : zWn p l e R s m args below meth c Q B ex dA dC dI q n0 s0 (pc, lv, st, w) := by
  simp only [zstep] at h
  split at h
  · cases h
    exact fun H locs ls hR hS hl => lv_lxor C.hx C.hb hd (k H locs ls hR hS hl)
  · cases h
theorem zo_ineg (C : zCx B ex dA dC dI E p R s m args meth c q n0 d) (hd : decode q.2.1 pc = .ok (.ineg, 1)) (h : zstep E (.ineg, 1, fa, fb, fc) pc lv st w = some x) (k : zWn p l e R s m args below meth c Q B ex dA dC dI q n0 s0 x) : zWn p l e R s m args below meth c Q B ex dA dC dI q n0 s0 (pc, lv, st, w) := by
  simp only [zstep] at h
  split at h
  · cases h
    exact fun H locs ls hR hS hl => lv_ineg C.hx C.hb hd (k H locs ls hR hS hl)
  · cases h
theorem zo_ishl (C : zCx B ex dA dC dI E p R s m args meth c q n0 d) (hd : decode q.2.1 pc = .ok (.ishl, 1)) (h : zstep E (.ishl, 1, fa, fb, fc) pc lv st w = some x) (k : zWn p l e R s m args below meth c Q B ex dA dC dI q n0 s0 x) : zWn p l e R s m args below meth c Q B ex dA dC dI q n0 s0 (pc, lv, st, w) := by
  simp only [zstep] at h
  split at h
  · cases h
    exact fun H locs ls hR hS hl => lv_ishl C.hx C.hb hd (k H locs ls hR hS hl)
  · cases h
theorem zo_ishr (C : zCx B ex dA dC dI E p R s m args meth c q n0 d) (hd : decode q.2.1 pc = .ok (.ishr, 1)) (h : zstep E (.ishr, 1, fa, fb, fc) pc lv st w = some x) (k : zWn p l e R s m args below meth c Q B ex dA dC dI q n0 s0 x) : zWn p l e R s m args below meth c Q B ex dA dC dI q n0 s0 (pc, lv, st, w) := by
  simp only [zstep] at h
  split at h
  · cases h
    exact fun H locs ls hR hS hl => lv_ishr C.hx C.hb hd (k H locs ls hR hS hl)
  · cases h
theorem zo_lcmp (C : zCx B ex dA dC dI E p R s m args meth c q n0 d) (hd : decode q.2.1 pc = .ok (.lcmp, 1)) (h : zstep E (.lcmp, 1, fa, fb, fc) pc lv st w = some x) (k : zWn p l e R s m args below meth c Q B ex dA dC dI q n0 s0 x) : zWn p l e R s m args below meth c Q B ex dA dC dI q n0 s0 (pc, lv, st, w) := by
  simp only [zstep] at h
  split at h
  · cases h
    exact fun H locs ls hR hS hl => W.lcmp C.hx C.hb hd (k H locs ls hR hS hl)
  · cases h
theorem zo_idiv (C : zCx B ex dA dC dI E p R s m args meth c q n0 d) (hd : decode q.2.1 pc = .ok (.idiv, 1)) (h : zstep E (.idiv, 1, fa, fb, fc) pc lv st w = some x) (k : zWn p l e R s m args below meth c Q B ex dA dC dI q n0 s0 x) : zWn p l e R s m args below meth c Q B ex dA dC dI q n0 s0 (pc, lv, st, w) := by
  simp only [zstep] at h
  split at h
  · split at h
    · cases h
    · rename_i hne
      cases h
      exact fun H locs ls hR hS hl => lv_idiv C.hx C.hb hd hne (k H locs ls hR hS hl)
  · cases h
theorem zo_irem (C : zCx B ex dA dC dI E p R s m args meth c q n0 d) (hd : decode q.2.1 pc = .ok (.irem, 1)) (h : zstep E (.irem, 1, fa, fb, fc) pc lv st w = some x) (k : zWn p l e R s m args below meth c Q B ex dA dC dI q n0 s0 x) : zWn p l e R s m args below meth c Q B ex dA dC dI q n0 s0 (pc, lv, st, w) := by
  simp only [zstep] at h
  split at h
  · split at h
    · cases h
    · rename_i hne
      cases h
      exact fun H locs ls hR hS hl => lv_irem C.hx C.hb hd hne (k H locs ls hR hS hl)
  · cases h
theorem zo_ldiv (C : zCx B ex dA dC dI E p R s m args meth c q n0 d) (hd : decode q.2.1 pc = .ok (.ldiv, 1)) (h : zstep E (.ldiv, 1, fa, fb, fc) pc lv st w = some x) (k : zWn p l e R s m args below meth c Q B ex dA dC dI q n0 s0 x) : zWn p l e R s m args below meth c Q B ex dA dC dI q n0 s0 (pc, lv, st, w) := by
  simp only [zstep] at h
  split at h
  · split at h
    · cases h
    · rename_i hne
      cases h
      exact fun H locs ls hR hS hl => lv_ldiv C.hx C.hb hd hne (k H locs ls hR hS hl)
  · cases h
theorem zo_lrem (C : zCx B ex dA dC dI E p R s m args meth c q n0 d) (hd : decode q.2.1 pc = .ok (.lrem, 1)) (h : zstep E (.lrem, 1, fa, fb, fc) pc lv st w = some x) (k : zWn p l e R s m args below meth c Q B ex dA dC dI q n0 s0 x) : zWn p l e R s m args below meth c Q B ex dA dC dI q n0 s0 (pc, lv, st, w) := by
  simp only [zstep] at h
  split at h
  · split at h
    · cases h
    · rename_i hne
      cases h
      exact fun H locs ls hR hS hl => lv_lrem C.hx C.hb hd hne (k H locs ls hR hS hl)
  · cases h
theorem zo_i2l (C : zCx B ex dA dC dI E p R s m args meth c q n0 d) (hd : decode q.2.1 pc = .ok (.i2l, 1)) (h : zstep E (.i2l, 1, fa, fb, fc) pc lv st w = some x) (k : zWn p l e R s m args below meth c Q B ex dA dC dI q n0 s0 x) : zWn p l e R s m args below meth c Q B ex dA dC dI q n0 s0 (pc, lv, st, w) := by
  simp only [zstep] at h
  split at h
  · cases h
    exact fun H locs ls hR hS hl => lv_i2l C.hx C.hb hd rfl (k H locs ls hR hS hl)
  · cases h
theorem zo_l2i (C : zCx B ex dA dC dI E p R s m args meth c q n0 d) (hd : decode q.2.1 pc = .ok (.l2i, 1)) (h : zstep E (.l2i, 1, fa, fb, fc) pc lv st w = some x) (k : zWn p l e R s m args below meth c Q B ex dA dC dI q n0 s0 x) : zWn p l e R s m args below meth c Q B ex dA dC dI q n0 s0 (pc, lv, st, w) := by
  simp only [zstep] at h
  split at h
  · cases h
    exact fun H locs ls hR hS hl => lv_l2i C.hx C.hb hd rfl (k H locs ls hR hS hl)
  · cases h
theorem zo_i2b (C : zCx B ex dA dC dI E p R s m args meth c q n0 d) (hd : decode q.2.1 pc = .ok (.i2b, 1)) (h : zstep E (.i2b, 1, fa, fb, fc) pc lv st w = some x) (k : zWn p l e R s m args below meth c Q B ex dA dC dI q n0 s0 x) : zWn p l e R s m args below meth c Q B ex dA dC dI q n0 s0 (pc, lv, st, w) := by
  simp only [zstep] at h
  split at h
  · cases h
    exact fun H locs ls hR hS hl => lv_i2b C.hx C.hb hd rfl (k H locs ls hR hS hl)
  · cases h
theorem zo_i2s (C : zCx B ex dA dC dI E p R s m args meth c q n0 d) (hd : decode q.2.1 pc = .ok (.i2s, 1)) (h : zstep E (.i2s, 1, fa, fb, fc) pc lv st w = some x) (k : zWn p l e R s m args below meth c Q B ex dA dC dI q n0 s0 x) : zWn p l e R s m args below meth c Q B ex dA dC dI q n0 s0 (pc, lv, st, w) := by
  simp only [zstep] at h
  split at h
  · cases h
    exact fun H locs ls hR hS hl => lv_i2s C.hx C.hb hd rfl (k H locs ls hR hS hl)
  · cases h
theorem zo_i2c (C : zCx B ex dA dC dI E p R s m args meth c q n0 d) (hd : decode q.2.1 pc = .ok (.i2c, 1)) (h : zstep E (.i2c, 1, fa, fb, fc) pc lv st w = some x) (k : zWn p l e R s m args below meth c Q B ex dA dC dI q n0 s0 x) : zWn p l e R s m args below meth c Q B ex dA dC dI q n0 s0 (pc, lv, st, w) := by
  simp only [zstep] at h
  split at h
  · cases h
    exact fun H locs ls hR hS hl => lv_i2c C.hx C.hb hd rfl (k H locs ls hR hS hl)
  · cases h
theorem zo_iushr (C : zCx B ex dA dC dI E p R s m args meth c q n0 d) (hd : decode q.2.1 pc = .ok (.iushr, 1)) (h : zstep E (.iushr, 1, fa, fb, fc) pc lv st w = some x) (k : zWn p l e R s m args below meth c Q B ex dA dC dI q n0 s0 x) : zWn p l e R s m args below meth c Q B ex dA dC dI q n0 s0 (pc, lv, st, w) := by
  simp only [zstep] at h
  split at h
  · cases h
    exact fun H locs ls hR hS hl => lv_iushr C.hx C.hb hd rfl (k H locs ls hR hS hl)
  · cases h
theorem zo_lushr (C : zCx B ex dA dC dI E p R s m args meth c q n0 d) (hd : decode q.2.1 pc = .ok (.lushr, 1)) (h : zstep E (.lushr, 1, fa, fb, fc) pc lv st w = some x) (k : zWn p l e R s m args below meth c Q B ex dA dC dI q n0 s0 x) : zWn p l e R s m args below meth c Q B ex dA dC dI q n0 s0 (pc, lv, st, w) := by
  simp only [zstep] at h
  split at h
  · cases h
    exact fun H locs ls hR hS hl => lv_lushr C.hx C.hb hd rfl (k H locs ls hR hS hl)
  · cases h
theorem zo_lshl (C : zCx B ex dA dC dI E p R s m args meth c q n0 d) (hd : decode q.2.1 pc = .ok (.lshl, 1)) (h : zstep E (.lshl, 1, fa, fb, fc) pc lv st w = some x) (k : zWn p l e R s m args below meth c Q B ex dA dC dI q n0 s0 x) : zWn p l e R s m args below meth c Q B ex dA dC dI q n0 s0 (pc, lv, st, w) := by
  simp only [zstep] at h
  split at h
  · cases h
    exact fun H locs ls hR hS hl => lv_lshl C.hx C.hb hd rfl (k H locs ls hR hS hl)
  · cases h
theorem zo_dup (C : zCx B ex dA dC dI E p R s m args meth c q n0 d) (hd : decode q.2.1 pc = .ok (.dup, 1)) (h : zstep E (.dup, 1, fa, fb, fc) pc lv st w = some x) (k : zWn p l e R s m args below meth c Q B ex dA dC dI q n0 s0 x) : zWn p l e R s m args below meth c Q B ex dA dC dI q n0 s0 (pc, lv, st, w) := by
  simp only [zstep] at h
  split at h
  · split at h
    · rename_i hc
      cases h
      exact fun H locs ls hR hS hl => lv_dup C.hx C.hb hd ((zcat C.h0 _).trans hc) (k H locs ls hR hS hl)
    · cases h
  · cases h
theorem zo_pop (C : zCx B ex dA dC dI E p R s m args meth c q n0 d) (hd : decode q.2.1 pc = .ok (.pop, 1)) (h : zstep E (.pop, 1, fa, fb, fc) pc lv st w = some x) (k : zWn p l e R s m args below meth c Q B ex dA dC dI q n0 s0 x) : zWn p l e R s m args below meth c Q B ex dA dC dI q n0 s0 (pc, lv, st, w) := by
  simp only [zstep] at h
  split at h
  · split at h
    · rename_i hc
      cases h
      exact fun H locs ls hR hS hl => lv_pop C.hx C.hb hd ((zcat C.h0 _).trans hc) (k H locs ls hR hS hl)
    · cases h
  · cases h
theorem zo_dup_x1 (C : zCx B ex dA dC dI E p R s m args meth c q n0 d) (hd : decode q.2.1 pc = .ok (.dup_x1, 1)) (h : zstep E (.dup_x1, 1, fa, fb, fc) pc lv st w = some x) (k : zWn p l e R s m args below meth c Q B ex dA dC dI q n0 s0 x) : zWn p l e R s m args below meth c Q B ex dA dC dI q n0 s0 (pc, lv, st, w) := by
  simp only [zstep] at h
  split at h
  · split at h
    · rename_i hc
      cases h
      exact fun H locs ls hR hS hl => lv_dup_x1 C.hx C.hb hd ((zcat C.h0 _).trans hc.1) ((zcat C.h0 _).trans hc.2) (k H locs ls hR hS hl)
    · cases h
  · cases h
theorem zo_dup2 (C : zCx B ex dA dC dI E p R s m args meth c q n0 d) (hd : decode q.2.1 pc = .ok (.dup2, 1)) (h : zstep E (.dup2, 1, fa, fb, fc) pc lv st w = some x) (k : zWn p l e R s m args below meth c Q B ex dA dC dI q n0 s0 x) : zWn p l e R s m args below meth c Q B ex dA dC dI q n0 s0 (pc, lv, st, w) := by
  simp only [zstep] at h
  split at h
  · split at h
    · rename_i hc
      cases h
      exact fun H locs ls hR hS hl => lv_dup2_11 C.hx C.hb hd ((zcat C.h0 _).trans hc.1) ((zcat C.h0 _).trans hc.2) (k H locs ls hR hS hl)
    · cases h
  · cases h
theorem zo_ifCond (C : zCx B ex dA dC dI E p R s m args meth c q n0 d) {cd : ClassFile.Cond} {n : Int} (hd : decode q.2.1 pc = .ok (.ifCond cd n, 3)) (ht : (pc : Int) + n = (fa : Int)) (h : zstep E (.ifCond cd n, 3, fa, fb, fc) pc lv st w = some x) (k : zWn p l e R s m args below meth c Q B ex dA dC dI q n0 s0 x) : zWn p l e R s m args below meth c Q B ex dA dC dI q n0 s0 (pc, lv, st, w) := by
  simp only [zstep] at h
  split at h
  · cases h
    intro H locs ls hR hS hl
    have hk := k H locs ls hR hS hl
    dsimp only at hk
    cases cd with
    | eq =>
      refine lv_if_eq C.hx C.hb hd ht (fun hc => ?_) (fun hc => ?_)
      · rw [if_pos (by simp only [zcpb, decide_eq_true_eq]; exact hc)] at hk
        exact hk
      · rw [if_neg (by simp only [zcpb, decide_eq_true_eq]; exact hc)] at hk
        exact hk
    | ne =>
      refine lv_if_ne C.hx C.hb hd ht (fun hc => ?_) (fun hc => ?_)
      · rw [if_pos (by simp only [zcpb, decide_eq_true_eq]; exact hc)] at hk
        exact hk
      · rw [if_neg (by simp only [zcpb, decide_eq_true_eq]; exact fun h9 => h9 hc)] at hk
        exact hk
    | lt =>
      refine lv_if_lt C.hx C.hb hd ht (fun hc => ?_) (fun hc => ?_)
      · rw [if_pos (by simp only [zcpb, decide_eq_true_eq]; exact hc)] at hk
        exact hk
      · rw [if_neg (by simp only [zcpb, decide_eq_true_eq]; exact hc)] at hk
        exact hk
    | ge =>
      refine lv_if_ge C.hx C.hb hd ht (fun hc => ?_) (fun hc => ?_)
      · rw [if_pos (by simp only [zcpb, decide_eq_true_eq]; exact hc)] at hk
        exact hk
      · rw [if_neg (by simp only [zcpb, decide_eq_true_eq]; exact hc)] at hk
        exact hk
    | gt =>
      refine lv_if_gt C.hx C.hb hd ht (fun hc => ?_) (fun hc => ?_)
      · rw [if_pos (by simp only [zcpb, decide_eq_true_eq]; exact hc)] at hk
        exact hk
      · rw [if_neg (by simp only [zcpb, decide_eq_true_eq]; exact hc)] at hk
        exact hk
    | le =>
      refine lv_if_le C.hx C.hb hd ht (fun hc => ?_) (fun hc => ?_)
      · rw [if_pos (by simp only [zcpb, decide_eq_true_eq]; exact hc)] at hk
        exact hk
      · rw [if_neg (by simp only [zcpb, decide_eq_true_eq]; exact hc)] at hk
        exact hk
  · cases h
theorem zo_if_icmp (C : zCx B ex dA dC dI E p R s m args meth c q n0 d) {cd : ClassFile.Cond} {n : Int} (hd : decode q.2.1 pc = .ok (.if_icmp cd n, 3)) (ht : (pc : Int) + n = (fa : Int)) (h : zstep E (.if_icmp cd n, 3, fa, fb, fc) pc lv st w = some x) (k : zWn p l e R s m args below meth c Q B ex dA dC dI q n0 s0 x) : zWn p l e R s m args below meth c Q B ex dA dC dI q n0 s0 (pc, lv, st, w) := by
  simp only [zstep] at h
  split at h
  · cases h
    intro H locs ls hR hS hl
    have hk := k H locs ls hR hS hl
    dsimp only at hk
    cases cd with
    | eq =>
      refine lv_icmp_eq C.hx C.hb hd ht (fun hc => ?_) (fun hc => ?_)
      · rw [if_pos (by simp only [zcpb, decide_eq_true_eq]; exact hc)] at hk
        exact hk
      · rw [if_neg (by simp only [zcpb, decide_eq_true_eq]; exact hc)] at hk
        exact hk
    | ne =>
      refine lv_icmp_ne C.hx C.hb hd ht (fun hc => ?_) (fun hc => ?_)
      · rw [if_pos (by simp only [zcpb, decide_eq_true_eq]; exact hc)] at hk
        exact hk
      · rw [if_neg (by simp only [zcpb, decide_eq_true_eq]; exact fun h9 => h9 hc)] at hk
        exact hk
    | lt =>
      refine lv_icmp_lt C.hx C.hb hd ht (fun hc => ?_) (fun hc => ?_)
      · rw [if_pos (by simp only [zcpb, decide_eq_true_eq]; exact hc)] at hk
        exact hk
      · rw [if_neg (by simp only [zcpb, decide_eq_true_eq]; exact hc)] at hk
        exact hk
    | ge =>
      refine lv_icmp_ge C.hx C.hb hd ht (fun hc => ?_) (fun hc => ?_)
      · rw [if_pos (by simp only [zcpb, decide_eq_true_eq]; exact hc)] at hk
        exact hk
      · rw [if_neg (by simp only [zcpb, decide_eq_true_eq]; exact hc)] at hk
        exact hk
    | gt =>
      refine lv_icmp_gt C.hx C.hb hd ht (fun hc => ?_) (fun hc => ?_)
      · rw [if_pos (by simp only [zcpb, decide_eq_true_eq]; exact hc)] at hk
        exact hk
      · rw [if_neg (by simp only [zcpb, decide_eq_true_eq]; exact hc)] at hk
        exact hk
    | le =>
      refine lv_icmp_le C.hx C.hb hd ht (fun hc => ?_) (fun hc => ?_)
      · rw [if_pos (by simp only [zcpb, decide_eq_true_eq]; exact hc)] at hk
        exact hk
      · rw [if_neg (by simp only [zcpb, decide_eq_true_eq]; exact hc)] at hk
        exact hk
  · cases h
theorem zo_ifnull (C : zCx B ex dA dC dI E p R s m args meth c q n0 d) {n : Int} (hd : decode q.2.1 pc = .ok (.ifnull n, 3)) (ht : (pc : Int) + n = (fa : Int)) (h : zstep E (.ifnull n, 3, fa, fb, fc) pc lv st w = some x) (k : zWn p l e R s m args below meth c Q B ex dA dC dI q n0 s0 x) : zWn p l e R s m args below meth c Q B ex dA dC dI q n0 s0 (pc, lv, st, w) := by
  simp only [zstep] at h
  split at h
  · cases h
    exact fun H locs ls hR hS hl => lv_ifnullN C.hx C.hb hd ht (k H locs ls hR hS hl)
  · rename_i y r
    split at h
    · rename_i hy
      cases h
      intro H locs ls hR hS hl
      show W p l e R s m args below meth c H locs _ _ Q (F0 m pc ls (zv B ex (.ref y) :: r.map (zv B ex)))
      rw [zv_lt hy]
      exact lv_ifnull C.hx C.hb hd (k H locs ls hR hS hl)
    · cases h
  · cases h
theorem zo_ifnonnull (C : zCx B ex dA dC dI E p R s m args meth c q n0 d) {n : Int} (hd : decode q.2.1 pc = .ok (.ifnonnull n, 3)) (ht : (pc : Int) + n = (fa : Int)) (h : zstep E (.ifnonnull n, 3, fa, fb, fc) pc lv st w = some x) (k : zWn p l e R s m args below meth c Q B ex dA dC dI q n0 s0 x) : zWn p l e R s m args below meth c Q B ex dA dC dI q n0 s0 (pc, lv, st, w) := by
  simp only [zstep] at h
  split at h
  · cases h
    exact fun H locs ls hR hS hl => lv_ifnonnullN C.hx C.hb hd (k H locs ls hR hS hl)
  · rename_i y r
    split at h
    · rename_i hy
      cases h
      intro H locs ls hR hS hl
      show W p l e R s m args below meth c H locs _ _ Q (F0 m pc ls (zv B ex (.ref y) :: r.map (zv B ex)))
      rw [zv_lt hy]
      exact lv_ifnonnull C.hx C.hb hd ht (k H locs ls hR hS hl)
    · cases h
  · cases h
theorem zbr_eq {pc t : Nat} {off : Int} (h : zbr pc off = some t) : (pc : Int) + off = (t : Int) := by
  unfold zbr at h
  split at h
  · rename_i u hu
    cases h
    rw [hu]; rfl
  · cases h
theorem zo_tableswitch (C : zCx B ex dA dC dI E p R s m args meth c q n0 d) {df lo hi : Int} {offs : Array Int} {len : Nat} (hd : decode q.2.1 pc = .ok (.tableswitch df lo hi offs, len)) (h : zstep E (.tableswitch df lo hi offs, len, fa, fb, fc) pc lv st w = some x) (k : zWn p l e R s m args below meth c Q B ex dA dC dI q n0 s0 x) : zWn p l e R s m args below meth c Q B ex dA dC dI q n0 s0 (pc, lv, st, w) := by
  simp only [zstep] at h
  split at h
  · rename_i y r
    split at h
    · rename_i off ho
      split at h
      · rename_i t ht
        cases h
        intro H locs ls hR hS hl
        have hk := k H locs ls hR hS hl
        unfold zsw at ho
        split at ho
        · rename_i hr
          cases ho
          exact lv_tableOut C.hx C.hb hd hr (zbr_eq ht) hk
        · rename_i hr
          exact lv_tableIn C.hx C.hb hd (fun z => hr (Or.inl z)) (fun z => hr (Or.inr z)) ho (zbr_eq ht) hk
      · cases h
    · cases h
  · cases h
theorem zo_lookupswitch (C : zCx B ex dA dC dI E p R s m args meth c q n0 d) {df : Int} {ps : Array (Int × Int)} {len : Nat} (hd : decode q.2.1 pc = .ok (.lookupswitch df ps, len)) (hp : (ps.toList.zip (ps.toList.drop 1)).all (fun (a, next) => a.1 < next.1) = true) (h : zstep E (.lookupswitch df ps, len, fa, fb, fc) pc lv st w = some x) (k : zWn p l e R s m args below meth c Q B ex dA dC dI q n0 s0 x) : zWn p l e R s m args below meth c Q B ex dA dC dI q n0 s0 (pc, lv, st, w) := by
  simp only [zstep] at h
  split at h
  · rename_i y r
    split at h
    · rename_i t ht
      cases h
      intro H locs ls hR hS hl
      exact lv_lookup C.hx C.hb hd hp rfl (zbr_eq ht) (k H locs ls hR hS hl)
    · cases h
  · cases h
end ZS
