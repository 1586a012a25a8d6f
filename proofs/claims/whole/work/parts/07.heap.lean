/-! THE INSTRUCTIONS THAT READ OR WRITE CELLS -/
theorem zsplit {j a : Nat} (h : a ≤ j ∧ j < a + 5) : ∃ i : Nat, i < 5 ∧ j = a + i := ⟨j - a, by omega, by omega⟩
section ZH
variable {p : Program} {l : Launch} {e : Env} {R : Room} {s : State} {m : MethodId} {args : Array Value} {below : List Frame} {meth : Method} {c : Code} {Q : State → Prop} {B : Nat} {ex : Nat → Value} {dA dC : Nat → ClassId} {dI : Nat → Nat → Nat} {E : zEn} {q : zMe} {n0 s0 d : Nat} {pc : Nat} {lv : zLv} {st : List Value} {w : zW} {x : zS} {fa fb fc : Nat}
theorem zo_ldc (C : zCx B ex dA dC dI E p R s m args meth c q n0 d) {j : Nat} (hd : decode q.2.1 pc = .ok (.ldc j, 2)) (hk2 : zck2 q pc (.ldc j, 2, fa, fb, fc) = true) (h : zstep E (.ldc j, 2, fa, fb, fc) pc lv st w = some x) (k : zWn p l e R s m args below meth c Q B ex dA dC dI q n0 s0 x) : zWn p l e R s m args below meth c Q B ex dA dC dI q n0 s0 (pc, lv, st, w) := by
  simp only [zstep] at h
  simp only [zck2, Bool.and_eq_true] at hk2
  have hk2 := hk2.2
  split at h
  · rename_i h1
    rw [if_pos h1] at hk2
    cases h
    exact fun H locs ls hR hS hl => lv_ldc C.hx C.hb C.hown (C.hts _ (zw_in hk2)) hd (k H locs ls hR hS hl)
  · rename_i h1
    rw [if_neg h1] at hk2
    split at h
    · cases h
      obtain ⟨-, h5, -, hcls, hj⟩ := of_decide_eq_true hk2
      obtain ⟨-, -, -, -, -, -, S, -⟩ := C.hX
      obtain ⟨a, b, f1, -, -, -, -, -, f7⟩ := S fa h5
      intro H locs ls hR hS hl
      have hk := k H locs ls hR hS hl
      have e1 : zv B ex (.ref (zEX + 10 + fa)) = .ref a := by rw [Nat.add_assoc, zv_ex, f1]
      have hk : W p l e R s m args below meth c H locs (w.1.length - n0) (zsl w.1 - s0) Q (F0 m (pc + 2) ls (zv B ex (.ref (zEX + 10 + fa)) :: st.map (zv B ex))) := hk
      rw [e1] at hk
      refine va_ldcS C.hx C.hb C.hown (tx := ztx.getD fa "") ?_ hd hk
      rw [hcls, hj]
      exact f7
    · cases h
theorem zo_ldc_w (C : zCx B ex dA dC dI E p R s m args meth c q n0 d) {j : Nat} (hd : decode q.2.1 pc = .ok (.ldc_w j, 3)) (hk2 : zck2 q pc (.ldc_w j, 3, fa, fb, fc) = true) (h : zstep E (.ldc_w j, 3, fa, fb, fc) pc lv st w = some x) (k : zWn p l e R s m args below meth c Q B ex dA dC dI q n0 s0 x) : zWn p l e R s m args below meth c Q B ex dA dC dI q n0 s0 (pc, lv, st, w) := by
  simp only [zstep] at h
  simp only [zck2, Bool.and_eq_true, Bool.or_eq_true] at hk2
  have hk2 := hk2.2
  split at h
  · rename_i h1
    cases h
    rcases hk2 with h2 | h2
    · rw [h1] at h2; cases h2
    · exact fun H locs ls hR hS hl => lv_ldcw C.hx C.hb C.hown (C.hts _ (zw_in h2)) hd (k H locs ls hR hS hl)
  · cases h
theorem zo_ldc2_w (C : zCx B ex dA dC dI E p R s m args meth c q n0 d) {j : Nat} (hd : decode q.2.1 pc = .ok (.ldc2_w j, 3)) (hk2 : zck2 q pc (.ldc2_w j, 3, fa, fb, fc) = true) (h : zstep E (.ldc2_w j, 3, fa, fb, fc) pc lv st w = some x) (k : zWn p l e R s m args below meth c Q B ex dA dC dI q n0 s0 x) : zWn p l e R s m args below meth c Q B ex dA dC dI q n0 s0 (pc, lv, st, w) := by
  simp only [zstep] at h
  simp only [zck2, Bool.and_eq_true] at hk2
  cases h
  exact fun H locs ls hR hS hl => lv_ldc2 C.hx C.hb C.hown (C.hts _ (zw_in hk2.2)) hd (k H locs ls hR hS hl)
theorem zo_getstatic (C : zCx B ex dA dC dI E p R s m args meth c q n0 d) {j : Nat} (hd : decode q.2.1 pc = .ok (.getstatic j, 3)) (hk2 : zck2 q pc (.getstatic j, 3, fa, fb, fc) = true) (h : zstep E (.getstatic j, 3, fa, fb, fc) pc lv st w = some x) (k : zWn p l e R s m args below meth c Q B ex dA dC dI q n0 s0 x) : zWn p l e R s m args below meth c Q B ex dA dC dI q n0 s0 (pc, lv, st, w) := by
  simp only [zstep] at h
  simp only [zck2, Bool.and_eq_true] at hk2
  have hk2 := hk2.2
  obtain ⟨-, -, ⟨t1, e1, -, Z1⟩, ⟨t2, e2, -, Z2⟩, Z3, Z4, -, N, -⟩ := C.hX
  split at h
  · rename_i h1
    rw [if_pos h1, Bool.or_eq_true] at hk2
    cases h
    intro H locs ls hR hS hl
    have hk : W p l e R s m args below meth c H locs (w.1.length - n0) (zsl w.1 - s0) Q (F0 m (pc + 3) ls (zv B ex (.ref (zEX + 1)) :: st.map (zv B ex))) := k H locs ls hR hS hl
    rw [zv_ex, e1] at hk
    rcases hk2 with h2 | h2
    · exact va_gets C.hx C.hb Z1 hS C.hown (C.hts _ (zw_in h2)) (fun _ h => h) hd hk
    · exact va_getsN C.hx C.hb Z1 hS C.hown (va_Nw.use rfl (N _ (of_decide_eq_true h2))) (fun _ h => h) hd hk
  · rename_i h1
    rw [if_neg h1] at hk2
    split at h
    · rename_i h2
      rw [if_pos h2] at hk2
      cases h
      intro H locs ls hR hS hl
      have hk : W p l e R s m args below meth c H locs (w.1.length - n0) (zsl w.1 - s0) Q (F0 m (pc + 3) ls (zv B ex (.ref (zEX + 2)) :: st.map (zv B ex))) := k H locs ls hR hS hl
      rw [zv_ex, e2] at hk
      exact va_gets C.hx C.hb Z2 hS C.hown (C.hts _ (zw_in hk2)) (fun _ h => h) hd hk
    · rename_i h2
      rw [if_neg h2] at hk2
      split at h
      · rename_i h3
        rw [if_pos h3] at hk2
        cases h
        exact fun H locs ls hR hS hl => va_gets C.hx C.hb Z3 hS C.hown (C.hts _ (zw_in hk2)) (fun _ h => h) hd (k H locs ls hR hS hl)
      · rename_i h3
        rw [if_neg h3] at hk2
        split at h
        · cases h
          intro H locs ls hR hS hl
          have hk : W p l e R s m args below meth c H locs (w.1.length - n0) (zsl w.1 - s0) Q (F0 m (pc + 3) ls (zv B ex (.ref (zEX + 3)) :: st.map (zv B ex))) := k H locs ls hR hS hl
          rw [zv_ex] at hk
          exact va_gets C.hx C.hb Z4 hS C.hown (C.hts _ (zw_in hk2)) (fun _ h => h) hd hk
        · cases h
theorem zo_getfield (C : zCx B ex dA dC dI E p R s m args meth c q n0 d) {j : Nat} (hd : decode q.2.1 pc = .ok (.getfield j, 3)) (hk2 : zck2 q pc (.getfield j, 3, fa, fb, fc) = true) (h : zstep E (.getfield j, 3, fa, fb, fc) pc lv st w = some x) (k : zWn p l e R s m args below meth c Q B ex dA dC dI q n0 s0 x) : zWn p l e R s m args below meth c Q B ex dA dC dI q n0 s0 (pc, lv, st, w) := by
  simp only [zstep] at h
  simp only [zck2, Bool.and_eq_true] at hk2
  have hk2 := hk2.2
  split at h
  · rename_i r rs
    split at h
    · rename_i v hv
      cases h
      intro H locs ls hR hS hl
      have hk : W p l e R s m args below meth c H locs (w.1.length - n0) (zsl w.1 - s0) Q (F0 m (pc + 3) ls (zv B ex v :: rs.map (zv B ex))) := k H locs ls hR hS hl
      show W p l e R s m args below meth c H locs _ _ Q (F0 m pc ls (zv B ex (.ref r) :: rs.map (zv B ex)))
      unfold zgf at hv
      split at hv
      · rename_i h20
        rw [if_pos h20] at hk2
        obtain ⟨-, -, -, -, -, -, S, -⟩ := C.hX
        split at hv
        · rename_i hr
          obtain ⟨i, hi, hri⟩ := zsplit (a := zEX + 10) (j := r) hr
          rw [Nat.add_assoc] at hri
          subst hri
          obtain ⟨a, b, f1, f2, f3, f4, f5, f6, f7⟩ := S i hi
          rw [zv_ex, f1]
          split at hv
          · rename_i hb0
            rw [if_pos hb0] at hk2
            cases hv
            have e1 : zv B ex (.ref (zEX + (10 + i) + 10)) = .ref b := by rw [show zEX + (10 + i) + 10 = zEX + (20 + i) from by omega, zv_ex, f2]
            rw [e1] at hk
            exact vk_getf C.hx C.hb f5 hS C.hown (C.hts _ (zw_in hk2)) (fun _ h => h) hd hk
          · rename_i hb0
            rw [if_neg hb0] at hk2
            cases hv
            exact vk_getf C.hx C.hb f4 hS C.hown (C.hts _ (zw_in hk2)) (fun _ h => h) hd hk
        · cases hv
      · rename_i h20
        rw [if_neg h20] at hk2
        split at hv
        · rename_i ho
          obtain ⟨hr, y, hy, hy1⟩ := zob_of ho
          rw [zv_lt hr]
          split at hk2
          · rename_i cr hcr
            simp only [Bool.and_eq_true, decide_eq_true_eq] at hk2
            have hg := zws_get (B := B) (ex := ex) (dA := dA) hy
            rw [zE1_o hy1] at hg
            cases hF : zF fa fb with
            | none => rw [hF] at hv; simp at hv
            | some t =>
              refine va_get (D := (dC, dI)) (ci := fa) C.hx C.hb C.hts (zcl hcr).1 C.hown C.hK hR.2 r hg hcr fb hk2.1 (C.hts _ (zw_in hk2.2)) (fun _ h => h) (zfs_get hF) hd ?_
              rw [hF] at hv
              by_cases ht : t = 1
              · subst ht
                cases hv
                rw [if_pos rfl]
                exact hk
              · rw [if_neg ht]
                have hv2 : v = .int (w.2.1 r fb) := by
                  split at hv
                  · rename_i h9; exact absurd (Option.some.inj h9) ht
                  · exact (Option.some.inj hv).symm
                  · cases hv
                rw [hv2] at hk
                exact hk
          · cases hk2
        · cases hv
    · cases h
  · cases h
theorem zo_iaload (C : zCx B ex dA dC dI E p R s m args meth c q n0 d) (hd : decode q.2.1 pc = .ok (.iaload, 1)) (h : zstep E (.iaload, 1, fa, fb, fc) pc lv st w = some x) (k : zWn p l e R s m args below meth c Q B ex dA dC dI q n0 s0 x) : zWn p l e R s m args below meth c Q B ex dA dC dI q n0 s0 (pc, lv, st, w) := by
  simp only [zstep] at h
  split at h
  · rename_i i r rs
    split at h
    · rename_i v hv
      cases h
      intro H locs ls hR hS hl
      have hk : W p l e R s m args below meth c H locs (w.1.length - n0) (zsl w.1 - s0) Q (F0 m (pc + 1) ls (.int v :: rs.map (zv B ex))) := k H locs ls hR hS hl
      show W p l e R s m args below meth c H locs _ _ Q (F0 m pc ls (.int i :: zv B ex (.ref r) :: rs.map (zv B ex)))
      unfold zia at hv
      split at hv
      · rename_i hr
        rw [zv_lt hr]
        split at hv
        · rename_i y hy
          split at hv
          · rename_i hy1
            split at hv
            · cases hv
            · rename_i hin
              cases hv
              have hg := zws_get (B := B) (ex := ex) (dA := dA) hy
              rw [zE1_0 hy1] at hg
              exact va_iald (D := (dC, dI)) C.hx C.hb C.hK hR.2 r 0 hg rfl hin hd hk
          · cases hv
        · cases hv
      · rename_i hr
        rw [zv_ge hr]
        generalize r - zEX = j at hv ⊢
        obtain ⟨-, ⟨t0, e0, T0⟩, ⟨t1, e1, T1, -⟩, ⟨t2, e2, T2, -⟩, -⟩ := C.hX
        split at hv
        · rename_i y hy
          split at hv
          · rename_i hy1
            split at hv
            · cases hv
            · rename_i hin
              cases hv
              unfold zx at hy
              split at hy
              · rename_i hj; cases hy; subst hj; rw [e0]
                exact va_ti C.hx C.hb T0 hS hin rfl hd hk
              · split at hy
                · rename_i hj; cases hy; subst hj; rw [e1]
                  exact va_ti C.hx C.hb T1 hS hin rfl hd hk
                · split at hy
                  · rename_i hj; cases hy; subst hj; rw [e2]
                    exact va_ti C.hx C.hb T2 hS hin rfl hd hk
                  · split at hy
                    · cases hy; cases hy1
                    · cases hy
          · cases hv
        · cases hv
    · cases h
  · cases h
theorem zo_caload (C : zCx B ex dA dC dI E p R s m args meth c q n0 d) (hd : decode q.2.1 pc = .ok (.caload, 1)) (h : zstep E (.caload, 1, fa, fb, fc) pc lv st w = some x) (k : zWn p l e R s m args below meth c Q B ex dA dC dI q n0 s0 x) : zWn p l e R s m args below meth c Q B ex dA dC dI q n0 s0 (pc, lv, st, w) := by
  simp only [zstep] at h
  split at h
  · rename_i i r rs
    split at h
    · rename_i v hv
      cases h
      intro H locs ls hR hS hl
      have hk : W p l e R s m args below meth c H locs (w.1.length - n0) (zsl w.1 - s0) Q (F0 m (pc + 1) ls (.int v :: rs.map (zv B ex))) := k H locs ls hR hS hl
      show W p l e R s m args below meth c H locs _ _ Q (F0 m pc ls (.int i :: zv B ex (.ref r) :: rs.map (zv B ex)))
      unfold zia at hv
      split at hv
      · rename_i hr
        rw [zv_lt hr]
        split at hv
        · rename_i y hy
          split at hv
          · rename_i hy1
            split at hv
            · cases hv
            · rename_i hin
              cases hv
              have hg := zws_get (B := B) (ex := ex) (dA := dA) hy
              rw [zE1_2 hy1] at hg
              exact va_cald (D := (dC, dI)) C.hx C.hb C.hK hR.2 r 2 hg rfl hin hd hk
          · cases hv
        · cases hv
      · split at hv
        · rename_i y hy
          split at hv
          · rename_i hy1
            unfold zx at hy
            split at hy
            · cases hy; cases hy1
            · split at hy
              · cases hy; cases hy1
              · split at hy
                · cases hy; cases hy1
                · split at hy
                  · cases hy; cases hy1
                  · cases hy
          · cases hv
        · cases hv
    · cases h
  · cases h
theorem zo_baload (C : zCx B ex dA dC dI E p R s m args meth c q n0 d) (hd : decode q.2.1 pc = .ok (.baload, 1)) (h : zstep E (.baload, 1, fa, fb, fc) pc lv st w = some x) (k : zWn p l e R s m args below meth c Q B ex dA dC dI q n0 s0 x) : zWn p l e R s m args below meth c Q B ex dA dC dI q n0 s0 (pc, lv, st, w) := by
  simp only [zstep] at h
  split at h
  · rename_i i r rs
    split at h
    · cases h
    · rename_i hr
      split at h
      · rename_i v hv
        cases h
        intro H locs ls hR hS hl
        have hk : W p l e R s m args below meth c H locs (w.1.length - n0) (zsl w.1 - s0) Q (F0 m (pc + 1) ls (.int v :: rs.map (zv B ex))) := k H locs ls hR hS hl
        show W p l e R s m args below meth c H locs _ _ Q (F0 m pc ls (.int i :: zv B ex (.ref r) :: rs.map (zv B ex)))
        unfold zia at hv
        rw [if_neg hr] at hv
        rw [zv_ge hr]
        generalize r - zEX = j at hv ⊢
        obtain ⟨-, -, -, -, -, -, S, -⟩ := C.hX
        split at hv
        · rename_i y hy
          split at hv
          · rename_i hy1
            split at hv
            · cases hv
            · rename_i hin
              cases hv
              unfold zx at hy
              split at hy
              · cases hy; cases hy1
              · split at hy
                · cases hy; cases hy1
                · split at hy
                  · cases hy; cases hy1
                  · split at hy
                    · rename_i hj
                      cases hy
                      obtain ⟨i9, hi, rfl⟩ := zsplit (a := 20) (j := j) hj
                      obtain ⟨a, b, f1, f2, f3, f4, f5, f6, f7⟩ := S i9 hi
                      rw [f2]
                      rw [Nat.add_sub_cancel_left] at hin hk
                      exact va_tb C.hx C.hb f6 hS hin rfl hd hk
                    · cases hy
          · cases hv
        · cases hv
      · cases h
  · cases h
theorem zo_laload (C : zCx B ex dA dC dI E p R s m args meth c q n0 d) (hd : decode q.2.1 pc = .ok (.laload, 1)) (h : zstep E (.laload, 1, fa, fb, fc) pc lv st w = some x) (k : zWn p l e R s m args below meth c Q B ex dA dC dI q n0 s0 x) : zWn p l e R s m args below meth c Q B ex dA dC dI q n0 s0 (pc, lv, st, w) := by
  simp only [zstep] at h
  split at h
  · rename_i i r rs
    split at h
    · rename_i v hv
      cases h
      intro H locs ls hR hS hl
      have hk : W p l e R s m args below meth c H locs (w.1.length - n0) (zsl w.1 - s0) Q (F0 m (pc + 1) ls (.long v :: rs.map (zv B ex))) := k H locs ls hR hS hl
      show W p l e R s m args below meth c H locs _ _ Q (F0 m pc ls (.int i :: zv B ex (.ref r) :: rs.map (zv B ex)))
      unfold zla at hv
      split at hv
      · rename_i hr
        rw [zv_lt hr]
        split at hv
        · rename_i y hy
          split at hv
          · rename_i hy1
            split at hv
            · cases hv
            · rename_i hin
              cases hv
              have hg := zws_get (B := B) (ex := ex) (dA := dA) hy
              rw [zE1_1 hy1] at hg
              exact va_lald (D := (dC, dI)) C.hx C.hb C.hK hR.2 r 1 hg rfl hin hd hk
          · cases hv
        · cases hv
      · cases hv
    · cases h
  · cases h
theorem zo_aaload (C : zCx B ex dA dC dI E p R s m args meth c q n0 d) (hd : decode q.2.1 pc = .ok (.aaload, 1)) (h : zstep E (.aaload, 1, fa, fb, fc) pc lv st w = some x) (k : zWn p l e R s m args below meth c Q B ex dA dC dI q n0 s0 x) : zWn p l e R s m args below meth c Q B ex dA dC dI q n0 s0 (pc, lv, st, w) := by
  simp only [zstep] at h
  split at h
  · rename_i i r rs
    split at h
    · rename_i v hv
      cases h
      intro H locs ls hR hS hl
      have hk : W p l e R s m args below meth c H locs (w.1.length - n0) (zsl w.1 - s0) Q (F0 m (pc + 1) ls (zv B ex (zrf v) :: rs.map (zv B ex))) := k H locs ls hR hS hl
      show W p l e R s m args below meth c H locs _ _ Q (F0 m pc ls (.int i :: zv B ex (.ref r) :: rs.map (zv B ex)))
      unfold zra at hv
      split at hv
      · rename_i hr
        rw [zv_lt hr]
        split at hv
        · rename_i y hy
          split at hv
          · rename_i hy1
            split at hv
            · cases hv
            · rename_i hin
              have hg := zws_get (B := B) (ex := ex) (dA := dA) hy
              rw [zE1_3 hy1] at hg
              refine va_aldq (D := (dC, dI)) C.hx C.hb C.hK hR.2 r 3 hg rfl hin hd ?_
              split at hv
              · rename_i a ha
                split at hv
                · rename_i hax
                  cases hv
                  have e1 : zv B ex (zrf (some a)) = .ref (B + a) := zv_lt hax
                  rw [e1] at hk
                  rw [ha]
                  exact hk
                · cases hv
              · rename_i ha
                cases hv
                rw [ha]
                exact hk
          · cases hv
        · cases hv
      · cases hv
    · cases h
  · cases h
theorem zo_arraylength (C : zCx B ex dA dC dI E p R s m args meth c q n0 d) (hd : decode q.2.1 pc = .ok (.arraylength, 1)) (h : zstep E (.arraylength, 1, fa, fb, fc) pc lv st w = some x) (k : zWn p l e R s m args below meth c Q B ex dA dC dI q n0 s0 x) : zWn p l e R s m args below meth c Q B ex dA dC dI q n0 s0 (pc, lv, st, w) := by
  simp only [zstep] at h
  split at h
  · rename_i r rs
    split at h
    · rename_i v hv
      cases h
      intro H locs ls hR hS hl
      have hk : W p l e R s m args below meth c H locs (w.1.length - n0) (zsl w.1 - s0) Q (F0 m (pc + 1) ls (.int (Int32.ofNat v) :: rs.map (zv B ex))) := k H locs ls hR hS hl
      show W p l e R s m args below meth c H locs _ _ Q (F0 m pc ls (zv B ex (.ref r) :: rs.map (zv B ex)))
      unfold zal at hv
      split at hv
      · rename_i hr
        rw [zv_lt hr]
        split at hv
        · rename_i y hy
          split at hv
          · rename_i hy1
            cases hv
            have hg := zws_get (B := B) (ex := ex) (dA := dA) hy
            rcases (show y.1 = 0 ∨ y.1 = 1 ∨ y.1 = 2 ∨ y.1 = 3 by omega) with g | g | g | g
            · rw [zE1_0 g] at hg; exact va_alen (D := (dC, dI)) C.hx C.hb C.hK hR.2 r 0 hg (ty := .int) rfl rfl hd hk
            · rw [zE1_1 g] at hg; exact va_alen (D := (dC, dI)) C.hx C.hb C.hK hR.2 r 1 hg (ty := .long) rfl rfl hd hk
            · rw [zE1_2 g] at hg; exact va_alen (D := (dC, dI)) C.hx C.hb C.hK hR.2 r 2 hg (ty := .char) rfl rfl hd hk
            · rw [zE1_3 g] at hg; exact va_alen (D := (dC, dI)) C.hx C.hb C.hK hR.2 r 3 hg (ty := .object "SungHarvest$Tape") rfl rfl hd hk
          · cases hv
        · cases hv
      · rename_i hr
        rw [zv_ge hr]
        generalize r - zEX = j at hv ⊢
        obtain ⟨-, ⟨t0, e0, T0⟩, ⟨t1, e1, T1, -⟩, ⟨t2, e2, T2, -⟩, -, -, S, -⟩ := C.hX
        split at hv
        · rename_i y hy
          cases hv
          unfold zx at hy
          split at hy
          · rename_i hj; cases hy; subst hj; rw [e0]
            exact va_tlen C.hx C.hb T0 hS rfl hd hk
          · split at hy
            · rename_i hj; cases hy; subst hj; rw [e1]
              exact va_tlen C.hx C.hb T1 hS rfl hd hk
            · split at hy
              · rename_i hj; cases hy; subst hj; rw [e2]
                exact va_tlen C.hx C.hb T2 hS rfl hd hk
              · split at hy
                · rename_i hj
                  cases hy
                  obtain ⟨i9, hi, rfl⟩ := zsplit (a := 20) (j := j) hj
                  obtain ⟨a, b, f1, f2, f3, f4, f5, f6, f7⟩ := S i9 hi
                  rw [f2]
                  rw [Nat.add_sub_cancel_left] at hk
                  exact va_tlen C.hx C.hb f6 hS rfl hd hk
                · cases hy
        · cases hv
    · cases h
  · cases h
end ZH
