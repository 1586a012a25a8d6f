/-! THE WHOLE INTERPRETER -/
/-- the words of a method's contract -/
abbrev zwm (y : zMe) : List Jvm.Cond := .code y.1 y.2.1 y.2.2.1 y.2.2.2.1 :: zTbl
abbrev zrm (d : Nat) (w w' : zW) : Room := { frames := d + 1, cells := w'.1.length - w.1.length, slots := zsl w'.1 - zsl w.1, locals := 60 * (d + 1) }
/-- what the checks say of a method -/
theorem zmq_words {y : zMe} (h : zmq y) : (Jvm.Cond.code y.1 y.2.1 y.2.2.1 y.2.2.2.1 ∈ zTbl) ∧ (Jvm.Cond.initialized y.1.cls ∈ zTbl) ∧ (y.2.2.2.2.1 = 50 → Jvm.Cond.static y.1 ∈ zTbl) ∧ (¬ y.2.2.2.2.1 = 50 → Jvm.Cond.instanceMethod y.1 ∈ zTbl ∧ (¬ y.1.name = "<init>" → Jvm.Cond.selects y.1.cls y.1 y.1 ∈ zTbl)) ∧ y.2.2.1 ≤ 40 ∧ plainName y.1.cls = true ∧ (y.1.cls ≠ "java/lang/invoke/MethodHandle" ∧ y.1.cls ≠ "java/lang/invoke/VarHandle") ∧ (y.2.2.2.2.1 = 50 ∨ (y.2.2.2.2.1 = 20 ∧ y.1.cls = "java/lang/String") ∨ ∃ r, vwCl[y.2.2.2.2.1]? = some r ∧ r.1 = y.1.cls) := by
  obtain ⟨-, a, b, c, d, h⟩ := h
  unfold zmk at h
  simp only [Bool.and_eq_true, Bool.or_eq_true, decide_eq_true_eq, beq_iff_eq] at h
  obtain ⟨⟨⟨⟨⟨⟨⟨h1, h2⟩, h3⟩, h4⟩, h5⟩, h6⟩, h7⟩, -⟩ := h
  refine ⟨zw_in h1, zw_in h2, fun h => ?_, fun h => ?_, h4, h5, h6, ?_⟩
  · rw [if_pos h] at h3; exact zw_in h3
  · rw [if_neg h] at h3
    simp only [Bool.and_eq_true, Bool.or_eq_true, beq_iff_eq] at h3
    refine ⟨zw_in h3.1, fun hi => ?_⟩
    rcases h3.2 with g | g
    · exact absurd g hi
    · exact zw_in g
  · rcases h7 with (g | g) | g
    · exact Or.inl g
    · exact Or.inr (Or.inl g)
    · refine Or.inr (Or.inr ?_)
      cases hr : vwCl[y.2.2.2.2.1]? with
      | none => rw [hr] at g; cases g
      | some r => rw [hr] at g; exact ⟨r, rfl, Option.some.inj g⟩
section ZM
variable {B : Nat} {ex : Nat → Value} {dA dC : Nat → ClassId} {dI : Nat → Nat → Nat} {E : zEn}
/-- what is shown of all runs of n steps: the machine comes to the return -/
def zSnd (E : zEn) (n : Nat) : Prop := ∀ (p : Program) (l : Launch) (e : Env) (R : Room) (s : State) (m : MethodId) (args : Array Value) (below : List Frame) (meth : Method) (c : Code) (Q : State → Prop) (B : Nat) (ex : Nat → Value) (dA dC : Nat → ClassId) (dI : Nat → Nat → Nat) (q : zMe) (n0 s0 d : Nat) (pc : Nat) (lv : zLv) (st : List Value) (w w' : zW) (r : Option Value),
  zCx B ex dA dC dI E p R s m args meth c q n0 d → zckl q 0 q.2.2.2.2.2 = true → zexec E n d q.2.2.2.2.2 pc lv st w = some (r, w') → n0 ≤ w.1.length → s0 ≤ zsl w.1 → w'.1.length - n0 ≤ R.cells → zsl w'.1 - s0 ≤ R.slots →
  (∀ (pcr : Nat) (lvr : zLv) (str : List Value) (i : zI), q.2.2.2.2.2[pcr]? = some i → zkind i = 1 → zret i str = some r → zWn p l e R s m args below meth c Q B ex dA dC dI q n0 s0 (pcr, lvr, str, w')) → zWn p l e R s m args below meth c Q B ex dA dC dI q n0 s0 (pc, lv, st, w)
/-- a method's contract out of its run -/
theorem zmet (l : Launch) {n d : Nat} (ih : zSnd E n) {y : zMe} (hy : zmq y) {as : List Value} {w w' : zW} {r : Option Value} (hct : zct as ≤ y.2.2.1) (h : zexec E n d y.2.2.2.2.2 0 (lv_args 0 as) [] w = some (r, w')) :
    Met l y.1 (zwm y) (zrm d w w') (zPc B ex dA dC dI E as w) (zQc B ex dA dC dI r w') (w'.1.length - w.1.length) (zsl w'.1 - zsl w.1) (fun a : Nat => B ≤ a) := by
  obtain ⟨hw1, hw2, hw3, hw4, hw5, hw6, hw7, hw8⟩ := zmq_words hy
  refine Met.ofW (cc := y.2.1) (maxL := y.2.2.1) (ret := y.2.2.2.1) hw6 rfl ?_
  intro p e s m args below meth c s₁ Bd hml hv
  obtain ⟨rfl, hsz, hR, hK, hX⟩ := hv
  have hts : ∀ z ∈ zwm y, z.before ((as.map (zv B ex)).toArray) s = true := atoms_spec (ws := zwm y) Bd.pre
  have hown : s.vm.findClass y.1.cls = some m.cls := findClass_of_methodNamed Bd.named
  have hnm : meth.name = y.1.name := (name_of_methodNamed Bd.named Bd.method).1
  have C : zCx B ex dA dC dI E p (headSpec (zwm y) (zrm d w w')).room s m ((as.map (zv B ex)).toArray) meth c y w.1.length d :=
    ⟨Bd.exec, Bd.bytes, hml, hown, fun z hz => hts z (List.mem_cons_of_mem _ hz), hK, hX, hsz, fun h => hnm.trans h, Nat.le_refl _, Nat.le_refl _⟩
  have hl := lv_entry (as.map (zv B ex)) (n := y.2.2.1) (by rw [zlg C.h0]; exact hct)
  rw [lg_entry_eq]
  rw [zlv_args C.h0] at hl
  have hk := ih p l e (headSpec (zwm y) (zrm d w w')).room s m ((as.map (zv B ex)).toArray) below meth c (MQ below (zQc B ex dA dC dI r w') ((as.map (zv B ex)).toArray) s (w'.1.length - w.1.length) (zsl w'.1 - zsl w.1) (fun a : Nat => B ≤ a)) B ex dA dC dI y w.1.length (zsl w.1) d 0 (lv_args 0 as) [] w w' r C hy.1 h (Nat.le_refl _) (Nat.le_refl _) (Nat.le_refl _) (Nat.le_refl _)
    (fun pcr lvr str i hi hk1 hrt => zretW C Bd.returns Bd.notSynchronized (by have := zckl_get hy.1 hi; rwa [Nat.zero_add] at this) hk1 hrt)
    s.heap [] _ hR va_S.rf hl
  dsimp only at hk
  rw [Nat.sub_self, Nat.sub_self] at hk
  exact hk
end ZM
