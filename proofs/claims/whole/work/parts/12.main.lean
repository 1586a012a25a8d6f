/-! THE MACHINE DOES WHAT THE INTERPRETER COMPUTES -/
theorem zparse {y : MethodName} {k b : Nat} (h : (parseMethodDescriptor y.desc).map (fun d => d.parameters.length + k) = some b) : ∃ n, (parseMethodDescriptor y.desc).map (fun d => d.parameters.length) = some n ∧ n + k = b := by
  cases hp : parseMethodDescriptor y.desc with
  | none => rw [hp] at h; cases h
  | some sg => rw [hp] at h; exact ⟨sg.parameters.length, rfl, Option.some.inj h⟩
section ZN
variable {p : Program} {l : Launch} {e : Env} {R : Room} {s : State} {m : MethodId} {args : Array Value} {below : List Frame} {meth : Method} {c : Code} {Q : State → Prop} {B : Nat} {ex : Nat → Value} {dA dC : Nat → ClassId} {dI : Nat → Nat → Nat} {E : zEn} {q : zMe} {n0 s0 d : Nat} {pc : Nat} {lv : zLv} {st : List Value} {w w' : zW}
theorem ztake {b : Nat} {r : Nat} {as : List Value} (h : (st.take b).reverse = .ref r :: as) : st.map (zv B ex) = (as.map (zv B ex)).reverse ++ zv B ex (.ref r) :: (st.drop b).map (zv B ex) := by
  have h1 : st.take b = as.reverse ++ [.ref r] := by
    rw [← List.reverse_reverse (st.take b), h, List.reverse_cons]
  have h2 : st = as.reverse ++ [.ref r] ++ st.drop b := by rw [← h1, List.take_append_drop]
  rw [← List.map_reverse]
  conv => lhs; rw [h2]
  simp
/-- a call -/
theorem zcall (C : zCx B ex dA dC dI E p R s m args meth c q n0 (d + 1)) {i : zI} (hck : zck q pc i = true) (hk0 : ¬ zkind i = 0) (hk1 : ¬ zkind i = 1) (hme : ∀ q ∈ zme, zmq q) {y : zMe} (hy : zme[i.2.2.1]? = some y) (hb : i.2.2.2.1 ≤ st.length) (hc8 : zct (st.drop i.2.2.2.1) ≤ 8) (hrv : zrecv w y.2.2.2.2.1 (st.take i.2.2.2.1).reverse = true) {r1 : Option Value} {w1 : zW}
    (hM : ∀ l, Met l y.1 (zwm y) (zrm d w w1) (zPc B ex dA dC dI E (st.take i.2.2.2.1).reverse w) (zQc B ex dA dC dI r1 w1) (w1.1.length - w.1.length) (zsl w1.1 - zsl w.1) (fun a : Nat => B ≤ a)) (hg1 : w.1.length ≤ w1.1.length) (hg2 : zsl w.1 ≤ zsl w1.1) (hn : n0 ≤ w.1.length) (hs : s0 ≤ zsl w.1) (hc1 : w1.1.length - n0 ≤ R.cells) (hc2 : zsl w1.1 - s0 ≤ R.slots)
    (k : zWn p l e R s m args below meth c Q B ex dA dC dI q n0 s0 (pc + 3, lv, r1.toList ++ st.drop i.2.2.2.1, w1)) : zWn p l e R s m args below meth c Q B ex dA dC dI q n0 s0 (pc, lv, st, w) := by
  have hyq := hme y (List.mem_of_getElem? hy)
  obtain ⟨hw1, hw2, hw3, hw4, hw5, hw6, hw7, hw8⟩ := zmq_words hyq
  unfold zck at hck
  rw [Bool.or_eq_true, Bool.and_eq_true, decide_eq_true_eq, decide_eq_true_eq] at hck
  rcases hck with rfl | ⟨hd, hk2⟩
  · exact absurd rfl hk0
  obtain ⟨ins, len, fa, fb, fc⟩ := i
  dsimp only at hd hy hb hc8 hrv hM k
  intro H locs ls hR hS hl
  refine W.szle (fun hle => ?_)
  dsimp only at hle ⊢
  have hsz : H.size = B + w.1.length := by
    have := C.hz
    have := hR.1
    dsimp only at this
    omega
  have hfr : (zrm d w w1).frames + 1 ≤ R.frames ∧ 8 + (y.2.2.1 + 11) + (zrm d w w1).locals ≤ R.locals := by
    have h1 := C.hfr
    have h2 := C.hlo
    refine ⟨by dsimp only [zrm]; omega, by dsimp only [zrm]; omega⟩
  have hcf : (w.1.length - n0) + (w1.1.length - w.1.length) ≤ R.cells ∧ (zsl w.1 - s0) + (zsl w1.1 - zsl w.1) ≤ R.slots := ⟨by omega, by omega⟩
  have hpre : ∀ U : State, U.heap = H → s.WarmedH U.vm → zPc B ex dA dC dI E (st.take fb).reverse w (((st.take fb).reverse.map (zv B ex)).toArray) U := fun U hU hW =>
    ⟨rfl, by rw [hU]; exact hsz, by rw [hU]; exact hR, va_K.moved hW.alike C.hK, by rw [hU]; exact zXt.moved hW hS.2.1 C.hX⟩
  have fin : va_Run p l e R s m args below meth c H locs (w.1.length - n0) (zsl w.1 - s0) (w1.1.length - w.1.length) (zsl w1.1 - zsl w.1) (F0 m pc ls (st.map (zv B ex))) ((st.drop fb).map (zv B ex)) (zQc B ex dA dC dI r1 w1 (((st.take fb).reverse.map (zv B ex)).toArray)) (fun a : Nat => B ≤ a) → W p l e R s m args below meth c H locs (w.1.length - n0) (zsl w.1 - s0) Q (F0 m pc ls (st.map (zv B ex))) := by
    intro hrun
    refine zcallW hrun hS (fun H1 locs1 hR1 hS1 => ?_)
    have hk := k H1 locs1 ls hR1 hS1 hl
    dsimp only at hk
    rw [show w.1.length - n0 + (w1.1.length - w.1.length) = w1.1.length - n0 by omega, show zsl w.1 - s0 + (zsl w1.1 - zsl w.1) = zsl w1.1 - s0 by omega]
    rw [List.map_append] at hk
    cases r1 <;> exact hk
  have hcat8 : 2 * (F0 m pc ls (st.map (zv B ex))).monitorRoom + (((st.drop fb).map (zv B ex)).map fun v => v.category).sum ≤ 8 := lv_room (by rw [zct_mv C.h0]; exact hc8)
  have hln : (st.take fb).reverse.length = fb := by rw [List.length_reverse, List.length_take]; omega
  -- the receiver
  have hrc : ¬ y.2.2.2.2.1 = 50 → ∃ r9 as, (st.take fb).reverse = .ref r9 :: as ∧ ∃ b : Nat, zv B ex (.ref r9) = .ref b ∧ ∃ cellB : Cell, H[b]? = some cellB ∧ cellB.vm.isStatics = false ∧ s.vm.findClass y.1.cls = some cellB.cls := by
    intro h50
    unfold zrecv at hrv
    rw [if_neg h50] at hrv
    split at hrv
    · rename_i r9 as has
      refine ⟨r9, as, has, ?_⟩
      split at hrv
      · rename_i h20
        obtain ⟨i9, hi, hri⟩ := zsplit (a := zEX + 10) (j := r9) (of_decide_eq_true hrv)
        rw [Nat.add_assoc] at hri
        subst hri
        obtain ⟨-, -, -, -, -, -, S, -⟩ := C.hX
        obtain ⟨a, b, f1, f2, f3, f4, f5, f6, f7⟩ := S i9 hi
        rw [zv_ex, f1]
        obtain ⟨cell, g1, g2, g3, -⟩ := f3.kept hS.2.1
        refine ⟨a, rfl, cell, g1, g2, ?_⟩
        rcases hw8 with g | g | ⟨cr, g, -⟩
        · exact absurd g h50
        · rw [g.2]; exact g3
        · rw [h20] at g; simp [vwCl] at g
      · rename_i h20
        obtain ⟨hr, u, hu, hu1⟩ := zob_of hrv
        have hg := zws_get (B := B) (ex := ex) (dA := dA) hu
        rw [zE1_o hu1] at hg
        refine ⟨B + r9, zv_lt hr, ?_⟩
        rcases hw8 with g | g | ⟨cr, g, g2⟩
        · exact absurd g h50
        · exact absurd g.1 h20
        · rw [← g2]
          exact va_recv C.hK hR.2 g hg
    · cases hrv
  cases ins with
  | invokevirtual idx =>
    simp only [zck2, Bool.and_eq_true, beq_iff_eq] at hk2
    obtain ⟨hlen, hk2⟩ := hk2
    subst hlen
    rw [hy] at hk2
    simp only [Bool.and_eq_true, decide_eq_true_eq, Bool.not_eq_true', beq_eq_false_iff_ne, bne_iff_ne, ne_eq] at hk2
    obtain ⟨⟨⟨g1, g2⟩, g3⟩, g4⟩ := hk2
    obtain ⟨n, hp1, hp2⟩ := zparse g4
    obtain ⟨r9, as, has, b, hb9, hcell⟩ := hrc g3
    obtain ⟨hin, hsel⟩ := hw4 g3
    have e0 : ((st.take fb).reverse.map (zv B ex)).toArray = (Value.ref b :: as.map (zv B ex)).toArray := by rw [has, List.map_cons, hb9]
    have hstk : st.map (zv B ex) = (as.map (zv B ex)).reverse ++ .ref b :: (st.drop fb).map (zv B ex) := by rw [ztake has, hb9]
    have hal : (as.map (zv B ex)).length = n := by
      have := hln
      rw [has] at this
      rw [List.length_map]
      simp only [List.length_cons] at this
      omega
    refine fin ?_
    rw [e0]
    refine va_runV (Ts := zTbl) (own := q.1.cls) (C := y.1.cls) ⟨C.hx, C.hb, C.hml, C.hown, C.hts⟩ (hM l) (cwV n C.hts (zgoodIn ?_) rfl rfl rfl ⟨rfl, hw7.1, hw7.2, hp1⟩ hfr) ⟨zPc_blind, hcell, fun U hU hW => ?_⟩ rfl hal hl.1 hstk hcat8 hd hcf
    · intro z hz
      simp only [wsV, List.mem_append, List.mem_cons, List.not_mem_nil, or_false] at hz
      rcases hz with (rfl | rfl | rfl | rfl) | (rfl | hz)
      · exact zw_in g1
      · exact hin
      · exact hsel g2
      · exact hw2
      · exact hw1
      · exact hz
    · rw [← e0]; exact hpre U hU hW
  | invokespecial idx =>
    have hfa : fa < 999 := by
      by_cases h : fa < 999
      · exact h
      · exact absurd (by simp only [zkind, if_neg h]) hk0
    simp only [zck2, Bool.and_eq_true, beq_iff_eq] at hk2
    obtain ⟨hlen, hk2⟩ := hk2
    subst hlen
    rw [if_neg (by omega), hy] at hk2
    simp only [Bool.and_eq_true, Bool.or_eq_true, decide_eq_true_eq, beq_iff_eq, bne_iff_ne, ne_eq] at hk2
    obtain ⟨⟨⟨⟨g1, g2⟩, g3⟩, g5⟩, g4⟩ := hk2
    obtain ⟨n, hp1, hp2⟩ := zparse g4
    obtain ⟨r9, as, has, b, hb9, hcell⟩ := hrc g3
    obtain ⟨hin, -⟩ := hw4 g3
    have e0 : ((st.take fb).reverse.map (zv B ex)).toArray = (Value.ref b :: as.map (zv B ex)).toArray := by rw [has, List.map_cons, hb9]
    have hstk : st.map (zv B ex) = (as.map (zv B ex)).reverse ++ .ref b :: (st.drop fb).map (zv B ex) := by rw [ztake has, hb9]
    have hal : (as.map (zv B ex)).length = n := by
      have := hln
      rw [has] at this
      rw [List.length_map]
      simp only [List.length_cons] at this
      omega
    have hwz : zwm y = Jvm.Cond.code y.1 y.2.1 y.2.2.1 none :: zTbl := by rw [← g5]
    refine fin ?_
    rw [e0]
    rcases g1 with g1 | g1
    · exact va_runI (Ts := zTbl) (own := q.1.cls) ⟨C.hx, C.hb, C.hml, C.hown, C.hts⟩ (hM l) (cwI n C.hts (zgoodIn (fun z hz => (List.mem_cons.mp hz).elim (fun h => h ▸ hw1) id)) hwz rfl rfl (C.hts _ hw2) (C.hts _ (zw_in g1)) (C.hts _ hin) g2 ⟨hw7.1, hw7.2, hp1⟩ hfr) ⟨zPc_blind, fun U hU hW => by rw [← e0]; exact hpre U hU hW⟩ rfl hal hl.1 hstk hcat8 hd hcf
    · obtain ⟨-, -, -, -, -, -, -, N, -⟩ := C.hX
      exact va_runIN (Ts := zTbl) (own := q.1.cls) ⟨C.hx, C.hb, C.hml, C.hown, C.hts⟩ (hM l) ⟨va_cnB n C.hts (zgoodIn (fun z hz => (List.mem_cons.mp hz).elim (fun h => h ▸ hw1) id)) hwz rfl rfl (N _ g1) (C.hts _ hw2) ⟨hw7.1, hw7.2, hp1⟩ hfr, g2, C.hts _ hin⟩ ⟨zPc_blind, fun U hU hW => by rw [← e0]; exact hpre U hU hW⟩ rfl hal hl.1 hstk hcat8 hd hcf
  | invokestatic idx =>
    have hfa : fa < 999 := by
      by_cases h : fa < 999
      · exact h
      · exact absurd (by simp only [zkind, if_neg h]) hk0
    simp only [zck2, Bool.and_eq_true, beq_iff_eq] at hk2
    obtain ⟨hlen, hk2⟩ := hk2
    subst hlen
    rw [if_neg (by omega), if_neg (by omega), if_neg (by omega), hy] at hk2
    simp only [Bool.and_eq_true, Bool.or_eq_true, decide_eq_true_eq, beq_iff_eq] at hk2
    obtain ⟨⟨g1, g3⟩, g4⟩ := hk2
    obtain ⟨n, hp1, hp2⟩ := zparse (k := 0) g4
    have hstk : st.map (zv B ex) = ((st.take fb).reverse.map (zv B ex)).reverse ++ (st.drop fb).map (zv B ex) := by
      rw [← List.map_reverse, List.reverse_reverse, ← List.map_append, List.take_append_drop]
    have hal : ((st.take fb).reverse.map (zv B ex)).length = n := by rw [List.length_map, hln]; omega
    have hst := hw3 g3
    refine fin ?_
    rcases g1 with g1 | g1
    · refine va_runS (Ts := zTbl) (own := q.1.cls) ⟨C.hx, C.hb, C.hml, C.hown, C.hts⟩ (hM l) (va_cwS n C.hts (zgoodIn ?_) rfl rfl rfl ⟨hw7.1, hw7.2, hp1⟩ hfr) ⟨zPc_blind, hpre⟩ rfl hal hl.1 hstk hcat8 hd hcf
      intro z hz
      simp only [va_wsS, List.mem_append, List.mem_cons, List.not_mem_nil, or_false] at hz
      rcases hz with (rfl | rfl | rfl) | (rfl | hz)
      · exact zw_in g1
      · exact hst
      · exact hw2
      · exact hw1
      · exact hz
    · obtain ⟨-, -, -, -, -, -, -, N, -⟩ := C.hX
      exact va_runSN (Ts := zTbl) (own := q.1.cls) ⟨C.hx, C.hb, C.hml, C.hown, C.hts⟩ (hM l) ⟨va_cnB n C.hts (zgoodIn (fun z hz => (List.mem_cons.mp hz).elim (fun h => h ▸ hw1) id)) rfl rfl rfl (N _ g1) (C.hts _ hw2) ⟨hw7.1, hw7.2, hp1⟩ hfr, C.hts _ hst, trivial⟩ ⟨zPc_blind, hpre⟩ rfl hal hl.1 hstk hcat8 hd hcf
  | _ => first | exact absurd rfl hk0 | exact absurd rfl hk1
end ZN
theorem zsnd (hme : ∀ q ∈ zme, zmq q) {E : zEn} : ∀ n, zSnd E n := by
  intro n
  induction n with
  | zero =>
    intro p l e R s m args below meth c Q B ex dA dC dI q n0 s0 d pc lv st w w' r C hq h
    simp [zexec] at h
  | succ n ih =>
    intro p l e R s m args below meth c Q B ex dA dC dI q n0 s0 d pc lv st w w' r C hq h hn hs hc1 hc2 K
    simp only [zexec] at h
    split at h
    · cases h
    · rename_i i hi
      have hck : zck q pc i = true := by have := zckl_get hq hi; rwa [Nat.zero_add] at this
      split at h
      · rename_i hk0
        split at h
        · rename_i x hx
          obtain ⟨t1, h1⟩ := zstep_grow hx
          obtain ⟨t2, h2⟩ := zgrow _ _ _ _ _ _ _ _ _ h
          have g1 : w.1.length ≤ x.2.2.2.1.length := by rw [h1]; simp
          have g2 : zsl w.1 ≤ zsl x.2.2.2.1 := by rw [h1]; exact zsl_mono _ _
          have g3 : x.2.2.2.1.length ≤ w'.1.length := by rw [h2]; simp
          have g4 : zsl x.2.2.2.1 ≤ zsl w'.1 := by rw [h2]; exact zsl_mono _ _
          exact zstep_ok C hck hn hs hx (by omega) (by omega) (by omega) (by omega) (ih p l e R s m args below meth c Q B ex dA dC dI q n0 s0 d _ _ _ _ w' r C hq h (Nat.le_trans hn g1) (Nat.le_trans hs g2) hc1 hc2 K)
        · cases h
      · rename_i hk1
        split at h
        · rename_i r9 hr9
          cases h
          exact K pc lv st i hi hk1 hr9
        · cases h
      · rename_i hk0 hk1
        split at h
        · cases h
        · rename_i d'
          split at h
          · cases h
          · rename_i y hy
            split at h
            · rename_i hcon
              obtain ⟨hb, hc8, hct, hrv⟩ := hcon
              split at h
              · rename_i x hx
                obtain ⟨r1, w1⟩ := x
                obtain ⟨t1, h1⟩ := zgrow _ _ _ _ _ _ _ _ _ hx
                obtain ⟨t2, h2⟩ := zgrow _ _ _ _ _ _ _ _ _ h
                have g1 : w.1.length ≤ w1.1.length := by rw [h1]; simp
                have g2 : zsl w.1 ≤ zsl w1.1 := by rw [h1]; exact zsl_mono _ _
                have g3 : w1.1.length ≤ w'.1.length := by rw [h2]; simp
                have g4 : zsl w1.1 ≤ zsl w'.1 := by rw [h2]; exact zsl_mono _ _
                exact zcall C hck hk0 hk1 hme hy hb hc8 hrv (fun l => zmet l ih (hme y (List.mem_of_getElem? hy)) hct hx) g1 g2 hn hs (by omega) (by omega) (ih p l e R s m args below meth c Q B ex dA dC dI q n0 s0 (d' + 1) _ _ _ _ w' r C hq h (by omega) (by omega) hc1 hc2 K)
              · cases h
            · cases h
