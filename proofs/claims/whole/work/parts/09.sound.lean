/-! THE INTERPRETER'S RUNS ARE THE MACHINE'S -/
section ZZ
variable {p : Program} {l : Launch} {e : Env} {R : Room} {s : State} {m : MethodId} {args : Array Value} {below : List Frame} {meth : Method} {c : Code} {Q : State → Prop} {B : Nat} {ex : Nat → Value} {dA dC : Nat → ClassId} {dI : Nat → Nat → Nat} {E : zEn} {q : zMe} {n0 s0 d : Nat} {pc : Nat} {lv : zLv} {st : List Value} {w w' : zW} {x : zS}
set_option maxHeartbeats 4000000 in
theorem zstep_ok (C : zCx B ex dA dC dI E p R s m args meth c q n0 d) {i : zI} (hck : zck q pc i = true) (hn : n0 ≤ w.1.length) (hs : s0 ≤ zsl w.1) (h : zstep E i pc lv st w = some x) (hc0 : w.1.length - n0 ≤ R.cells) (hc00 : zsl w.1 - s0 ≤ R.slots) (hc1 : x.2.2.2.1.length - n0 ≤ R.cells) (hc2 : zsl x.2.2.2.1 - s0 ≤ R.slots) (k : zWn p l e R s m args below meth c Q B ex dA dC dI q n0 s0 x) : zWn p l e R s m args below meth c Q B ex dA dC dI q n0 s0 (pc, lv, st, w) := by
  unfold zck at hck
  rw [Bool.or_eq_true, Bool.and_eq_true, decide_eq_true_eq, decide_eq_true_eq] at hck
  rcases hck with rfl | ⟨hd, hk2⟩
  · simp [zstep] at h
  obtain ⟨ins, len, fa, fb, fc⟩ := i
  dsimp only at hd
  cases ins with
  | iadd =>
    have hlen : len = 1 := by simpa [zck2] using hk2
    subst hlen
    exact zo_iadd C hd h k
  | isub =>
    have hlen : len = 1 := by simpa [zck2] using hk2
    subst hlen
    exact zo_isub C hd h k
  | imul =>
    have hlen : len = 1 := by simpa [zck2] using hk2
    subst hlen
    exact zo_imul C hd h k
  | iand =>
    have hlen : len = 1 := by simpa [zck2] using hk2
    subst hlen
    exact zo_iand C hd h k
  | ior =>
    have hlen : len = 1 := by simpa [zck2] using hk2
    subst hlen
    exact zo_ior C hd h k
  | ixor =>
    have hlen : len = 1 := by simpa [zck2] using hk2
    subst hlen
    exact zo_ixor C hd h k
  | ladd =>
    have hlen : len = 1 := by simpa [zck2] using hk2
    subst hlen
    exact zo_ladd C hd h k
  | land =>
    have hlen : len = 1 := by simpa [zck2] using hk2
    subst hlen
    exact zo_land C hd h k
  | lor =>
    have hlen : len = 1 := by simpa [zck2] using hk2
    subst hlen
    exact zo_lor C hd h k
  | lxor =>
    have hlen : len = 1 := by simpa [zck2] using hk2
    subst hlen
    exact zo_lxor C hd h k
  | ineg =>
    have hlen : len = 1 := by simpa [zck2] using hk2
    subst hlen
    exact zo_ineg C hd h k
  | ishl =>
    have hlen : len = 1 := by simpa [zck2] using hk2
    subst hlen
    exact zo_ishl C hd h k
  | ishr =>
    have hlen : len = 1 := by simpa [zck2] using hk2
    subst hlen
    exact zo_ishr C hd h k
  | lcmp =>
    have hlen : len = 1 := by simpa [zck2] using hk2
    subst hlen
    exact zo_lcmp C hd h k
  | idiv =>
    have hlen : len = 1 := by simpa [zck2] using hk2
    subst hlen
    exact zo_idiv C hd h k
  | irem =>
    have hlen : len = 1 := by simpa [zck2] using hk2
    subst hlen
    exact zo_irem C hd h k
  | ldiv =>
    have hlen : len = 1 := by simpa [zck2] using hk2
    subst hlen
    exact zo_ldiv C hd h k
  | lrem =>
    have hlen : len = 1 := by simpa [zck2] using hk2
    subst hlen
    exact zo_lrem C hd h k
  | i2l =>
    have hlen : len = 1 := by simpa [zck2] using hk2
    subst hlen
    exact zo_i2l C hd h k
  | l2i =>
    have hlen : len = 1 := by simpa [zck2] using hk2
    subst hlen
    exact zo_l2i C hd h k
  | i2b =>
    have hlen : len = 1 := by simpa [zck2] using hk2
    subst hlen
    exact zo_i2b C hd h k
  | i2s =>
    have hlen : len = 1 := by simpa [zck2] using hk2
    subst hlen
    exact zo_i2s C hd h k
  | i2c =>
    have hlen : len = 1 := by simpa [zck2] using hk2
    subst hlen
    exact zo_i2c C hd h k
  | iushr =>
    have hlen : len = 1 := by simpa [zck2] using hk2
    subst hlen
    exact zo_iushr C hd h k
  | lushr =>
    have hlen : len = 1 := by simpa [zck2] using hk2
    subst hlen
    exact zo_lushr C hd h k
  | lshl =>
    have hlen : len = 1 := by simpa [zck2] using hk2
    subst hlen
    exact zo_lshl C hd h k
  | dup =>
    have hlen : len = 1 := by simpa [zck2] using hk2
    subst hlen
    exact zo_dup C hd h k
  | pop =>
    have hlen : len = 1 := by simpa [zck2] using hk2
    subst hlen
    exact zo_pop C hd h k
  | dup_x1 =>
    have hlen : len = 1 := by simpa [zck2] using hk2
    subst hlen
    exact zo_dup_x1 C hd h k
  | dup2 =>
    have hlen : len = 1 := by simpa [zck2] using hk2
    subst hlen
    exact zo_dup2 C hd h k
  | aconst_null =>
    have hlen : len = 1 := by simpa [zck2] using hk2
    subst hlen
    exact zo_aconst_null C hd h k
  | iaload =>
    have hlen : len = 1 := by simpa [zck2] using hk2
    subst hlen
    exact zo_iaload C hd h k
  | caload =>
    have hlen : len = 1 := by simpa [zck2] using hk2
    subst hlen
    exact zo_caload C hd h k
  | baload =>
    have hlen : len = 1 := by simpa [zck2] using hk2
    subst hlen
    exact zo_baload C hd h k
  | laload =>
    have hlen : len = 1 := by simpa [zck2] using hk2
    subst hlen
    exact zo_laload C hd h k
  | aaload =>
    have hlen : len = 1 := by simpa [zck2] using hk2
    subst hlen
    exact zo_aaload C hd h k
  | arraylength =>
    have hlen : len = 1 := by simpa [zck2] using hk2
    subst hlen
    exact zo_arraylength C hd h k
  | iastore =>
    have hlen : len = 1 := by simpa [zck2] using hk2
    subst hlen
    exact zo_iastore C hd h k
  | castore =>
    have hlen : len = 1 := by simpa [zck2] using hk2
    subst hlen
    exact zo_castore C hd h k
  | lastore =>
    have hlen : len = 1 := by simpa [zck2] using hk2
    subst hlen
    exact zo_lastore C hd h k
  | aastore =>
    have hlen : len = 1 := by simpa [zck2] using hk2
    subst hlen
    exact zo_aastore C hd h k
  | iconst n =>
    have hlen : len = 1 := by simpa [zck2] using hk2
    subst hlen
    exact zo_iconst C hd h k
  | lconst n =>
    have hlen : len = 1 := by simpa [zck2] using hk2
    subst hlen
    exact zo_lconst C hd h k
  | iload_n n =>
    have hlen : len = 1 := by simpa [zck2] using hk2
    subst hlen
    exact zo_iload_n C hd h k
  | lload_n n =>
    have hlen : len = 1 := by simpa [zck2] using hk2
    subst hlen
    exact zo_lload_n C hd h k
  | aload_n n =>
    have hlen : len = 1 := by simpa [zck2] using hk2
    subst hlen
    exact zo_aload_n C hd h k
  | iload n =>
    have hlen : len = 2 := by simpa [zck2] using hk2
    subst hlen
    exact zo_iload C hd h k
  | lload n =>
    have hlen : len = 2 := by simpa [zck2] using hk2
    subst hlen
    exact zo_lload C hd h k
  | aload n =>
    have hlen : len = 2 := by simpa [zck2] using hk2
    subst hlen
    exact zo_aload C hd h k
  | bipush n =>
    have hlen : len = 2 := by simpa [zck2] using hk2
    subst hlen
    exact zo_bipush C hd h k
  | sipush n =>
    have hlen : len = 3 := by simpa [zck2] using hk2
    subst hlen
    exact zo_sipush C hd h k
  | istore n =>
    simp only [zck2, Bool.and_eq_true, beq_iff_eq, decide_eq_true_eq] at hk2
    obtain ⟨hlen, hj⟩ := hk2
    subst hlen
    exact zo_istore C hd hj h k
  | astore n =>
    simp only [zck2, Bool.and_eq_true, beq_iff_eq, decide_eq_true_eq] at hk2
    obtain ⟨hlen, hj⟩ := hk2
    subst hlen
    exact zo_astore C hd hj h k
  | lstore n =>
    simp only [zck2, Bool.and_eq_true, beq_iff_eq, decide_eq_true_eq] at hk2
    obtain ⟨hlen, hj⟩ := hk2
    subst hlen
    exact zo_lstore C hd hj h k
  | istore_n n =>
    simp only [zck2, Bool.and_eq_true, beq_iff_eq, decide_eq_true_eq] at hk2
    obtain ⟨hlen, hj⟩ := hk2
    subst hlen
    exact zo_istore_n C hd hj h k
  | astore_n n =>
    simp only [zck2, Bool.and_eq_true, beq_iff_eq, decide_eq_true_eq] at hk2
    obtain ⟨hlen, hj⟩ := hk2
    subst hlen
    exact zo_astore_n C hd hj h k
  | lstore_n n =>
    simp only [zck2, Bool.and_eq_true, beq_iff_eq, decide_eq_true_eq] at hk2
    obtain ⟨hlen, hj⟩ := hk2
    subst hlen
    exact zo_lstore_n C hd hj h k
  | iinc n v =>
    simp only [zck2, Bool.and_eq_true, beq_iff_eq, decide_eq_true_eq] at hk2
    obtain ⟨hlen, hj⟩ := hk2
    subst hlen
    exact zo_iinc C hd hj h k
  | goto v =>
    simp only [zck2, Bool.and_eq_true, beq_iff_eq, decide_eq_true_eq] at hk2
    obtain ⟨hlen, hj⟩ := hk2
    subst hlen
    exact zo_goto C hd hj h k
  | ifCond cd v =>
    simp only [zck2, Bool.and_eq_true, beq_iff_eq, decide_eq_true_eq] at hk2
    obtain ⟨hlen, hj⟩ := hk2
    subst hlen
    exact zo_ifCond C hd hj h k
  | if_icmp cd v =>
    simp only [zck2, Bool.and_eq_true, beq_iff_eq, decide_eq_true_eq] at hk2
    obtain ⟨hlen, hj⟩ := hk2
    subst hlen
    exact zo_if_icmp C hd hj h k
  | ifnull v =>
    simp only [zck2, Bool.and_eq_true, beq_iff_eq, decide_eq_true_eq] at hk2
    obtain ⟨hlen, hj⟩ := hk2
    subst hlen
    exact zo_ifnull C hd hj h k
  | ifnonnull v =>
    simp only [zck2, Bool.and_eq_true, beq_iff_eq, decide_eq_true_eq] at hk2
    obtain ⟨hlen, hj⟩ := hk2
    subst hlen
    exact zo_ifnonnull C hd hj h k
  | tableswitch df lo hi offs => exact zo_tableswitch C hd h k
  | lookupswitch df ps => exact zo_lookupswitch C hd (by simpa only [zck2] using hk2) h k
  | ldc n =>
    have hlen : len = 2 := by simp only [zck2, Bool.and_eq_true, beq_iff_eq] at hk2; exact hk2.1
    subst hlen
    exact zo_ldc C hd hk2 h k
  | ldc_w n =>
    have hlen : len = 3 := by simp only [zck2, Bool.and_eq_true, beq_iff_eq] at hk2; exact hk2.1
    subst hlen
    exact zo_ldc_w C hd hk2 h k
  | ldc2_w n =>
    have hlen : len = 3 := by simp only [zck2, Bool.and_eq_true, beq_iff_eq] at hk2; exact hk2.1
    subst hlen
    exact zo_ldc2_w C hd hk2 h k
  | getstatic n =>
    have hlen : len = 3 := by simp only [zck2, Bool.and_eq_true, beq_iff_eq] at hk2; exact hk2.1
    subst hlen
    exact zo_getstatic C hd hk2 h k
  | getfield n =>
    have hlen : len = 3 := by simp only [zck2, Bool.and_eq_true, beq_iff_eq] at hk2; exact hk2.1
    subst hlen
    exact zo_getfield C hd hk2 h k
  | putfield n =>
    have hlen : len = 3 := by simp only [zck2, Bool.and_eq_true, beq_iff_eq] at hk2; exact hk2.1
    subst hlen
    exact zo_putfield C hd hk2 h k
  | new n =>
    have hlen : len = 3 := by simp only [zck2, Bool.and_eq_true, beq_iff_eq] at hk2; exact hk2.1
    subst hlen
    have hfa : fa < 9 := by
      simp only [zck2, Bool.and_eq_true] at hk2
      have h2 := hk2.2
      split at h2
      · rename_i r hr
        exact (List.getElem?_eq_some_iff.mp hr).1
      · cases h2
    exact zo_new C hd hk2 hfa hn hs h hc1 hc2 k
  | newarray t =>
    have hlen : len = 2 := by simpa [zck2] using hk2
    subst hlen
    exact zo_newarray C hd hn hs h hc1 hc2 k
  | anewarray n =>
    have hlen : len = 3 := by simp only [zck2, Bool.and_eq_true, beq_iff_eq] at hk2; exact hk2.1
    subst hlen
    exact zo_anewarray C hd hk2 hn hs h hc1 hc2 k
  | invokespecial n =>
    have hlen : len = 3 := by simp only [zck2, Bool.and_eq_true, beq_iff_eq] at hk2; exact hk2.1
    subst hlen
    exact zo_objInit C hd hk2 h k
  | invokestatic n =>
    have hlen : len = 3 := by simp only [zck2, Bool.and_eq_true, beq_iff_eq] at hk2; exact hk2.1
    subst hlen
    exact zo_static C hd hk2 hc0 hc00 h k
  | _ => simp [zstep] at h
theorem zpf_grow {r ci k : Nat} {v : Value} (h : zpf w r ci k v = some w') : w'.1 = w.1 := by
  unfold zpf at h
  split at h
  · split at h
    · cases h; rfl
    · split at h
      · cases h; rfl
      · cases h
    · split at h
      · cases h; rfl
      · cases h
    · cases h; rfl
    · cases h
  · cases h
set_option maxHeartbeats 4000000 in
theorem zstep_grow {i : zI} (h : zstep E i pc lv st w = some x) : ∃ t, x.2.2.2.1 = w.1 ++ t := by
  obtain ⟨ins, len, fa, fb, fc⟩ := i
  cases ins with
  | putfield n =>
    simp only [zstep] at h
    split at h
    · split at h
      · rename_i hp
        cases h
        exact ⟨[], by rw [List.append_nil]; exact zpf_grow hp⟩
      · cases h
    · cases h
  | new n =>
    simp only [zstep] at h
    split at h
    · cases h; exact ⟨_, rfl⟩
    · cases h
  | newarray n =>
    simp only [zstep] at h
    split at h
    · split at h
      · split at h
        · cases h; exact ⟨_, rfl⟩
        · cases h
      · cases h
    · cases h
  | anewarray n =>
    simp only [zstep] at h
    split at h
    · split at h
      · cases h; exact ⟨_, rfl⟩
      · cases h
    · cases h
  | _ =>
    refine ⟨[], ?_⟩
    rw [List.append_nil]
    simp only [zstep] at h
    repeat' (split at h)
    all_goals first
      | (cases h; rfl)
      | (cases h)
end ZZ
