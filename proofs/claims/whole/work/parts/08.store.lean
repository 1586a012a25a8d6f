/-! THE INSTRUCTIONS THAT WRITE OR MAKE CELLS, and the four library methods that are taken as one step -/
section ZT
variable {p : Program} {l : Launch} {e : Env} {R : Room} {s : State} {m : MethodId} {args : Array Value} {below : List Frame} {meth : Method} {c : Code} {Q : State → Prop} {B : Nat} {ex : Nat → Value} {dA dC : Nat → ClassId} {dI : Nat → Nat → Nat} {E : zEn} {q : zMe} {n0 s0 d : Nat} {pc : Nat} {lv : zLv} {st : List Value} {w w' : zW} {x : zS} {fa fb fc : Nat}
/-- behind a store -/
theorem zafter {H H1 : Heap} {locs locs1 : List Loc} {r : Nat} {y : Nat × Nat} {z : va_E} (hR : zR B ex dA dC dI w H) (hS : va_S (fun y : Nat => B ≤ y) s.heap H locs) (hw : w'.1 = w.1) (hset : (zws B ex dA w).set r (B + r, z) = zws B ex dA w') (hP1 : va_P (dC, dI) vwCl ((zws B ex dA w).set r (B + r, z)) H1) (hS1 : va_S (fun y : Nat => B ≤ y) H H1 locs1) : zR B ex dA dC dI w' H1 ∧ va_S (fun y : Nat => B ≤ y) s.heap H1 locs1 :=
  ⟨⟨by rw [hw]; exact Nat.le_trans hR.1 hS1.1, by rw [← hset]; exact hP1⟩, hS.trans1 hS1⟩
theorem zo_putfield (C : zCx B ex dA dC dI E p R s m args meth c q n0 d) {j : Nat} (hd : decode q.2.1 pc = .ok (.putfield j, 3)) (hk2 : zck2 q pc (.putfield j, 3, fa, fb, fc) = true) (h : zstep E (.putfield j, 3, fa, fb, fc) pc lv st w = some x) (k : zWn p l e R s m args below meth c Q B ex dA dC dI q n0 s0 x) : zWn p l e R s m args below meth c Q B ex dA dC dI q n0 s0 (pc, lv, st, w) := by
  simp only [zstep] at h
  simp only [zck2, Bool.and_eq_true] at hk2
  have hk2 := hk2.2
  split at h
  · rename_i v r rs
    split at h
    · rename_i w' hw
      cases h
      split at hk2
      · rename_i cr hcr
        simp only [Bool.and_eq_true, decide_eq_true_eq, Bool.or_eq_true, Bool.not_eq_true'] at hk2
        obtain ⟨⟨hfb, hlink⟩, hfin⟩ := hk2
        intro H locs ls hR hS hl
        show W p l e R s m args below meth c H locs _ _ Q (F0 m pc ls (zv B ex v :: zv B ex (.ref r) :: rs.map (zv B ex)))
        unfold zpf at hw
        split at hw
        · rename_i ho
          obtain ⟨hr, y, hy, hy1⟩ := zob_of ho
          rw [zv_lt hr]
          have hg := zws_get (B := B) (ex := ex) (dA := dA) hy
          rw [zE1_o hy1] at hg
          cases hF : zF fa fb with
          | none => rw [hF] at hw; simp at hw
          | some t =>
            obtain ⟨-, ty, hty, hft⟩ := zF_ok hcr hF
            have hlt : fb < (zfs B ex w r fa).length := (List.getElem?_eq_some_iff.mp (zfs_get (B := B) (ex := ex) (w := w) (r := r) hF)).1
            obtain ⟨ty0, hty0⟩ := (zcl hcr).2.2.2.1
            have hap := (zcl hcr).2.2.2.2.1
            -- what is left to show of each kind
            have fin : ∀ (u : Value) (wn : zW), narrow ty u = u → fits ty u = true → wn.1 = w.1 → (zws B ex dA w).set r (B + r, .inr (fa, (zfs B ex w r fa).set fb u)) = zws B ex dA wn → zWn p l e R s m args below meth c Q B ex dA dC dI q n0 s0 (pc + 3, lv, rs, wn) → W p l e R s m args below meth c H locs (w.1.length - n0) (zsl w.1 - s0) Q (F0 m pc ls (u :: .ref (B + r) :: rs.map (zv B ex))) := by
              intro u wn hn hfit hw1 hset kn
              have go : ∀ (H1 : Heap) (locs1 : List Loc), va_P (dC, dI) vwCl ((zws B ex dA w).set r (B + r, .inr (fa, (zfs B ex w r fa).set fb u))) H1 → va_D (fun y : Nat => B ≤ y) ((zws B ex dA w).set r (B + r, .inr (fa, (zfs B ex w r fa).set fb u))) → va_S (fun y : Nat => B ≤ y) H H1 locs1 → W p l e R s m args below meth c H1 locs1 (w.1.length - n0) (zsl w.1 - s0) Q (F0 m (pc + 3) ls (rs.map (zv B ex))) := by
                intro H1 locs1 hP1 _ hS1
                obtain ⟨a1, a2⟩ := zafter (y := y) hR hS hw1 hset hP1 hS1
                have := kn H1 locs1 ls a1 a2 hl
                rw [hw1] at this
                exact this
              cases hfl : (cr.2.1 fb).2.2.2 with
              | false => exact va_put (D := (dC, dI)) (ci := fa) C.hx C.hb C.hts (zcl hcr).1 ty0 hty0 hap C.hown C.hK hR.2 zD hS.here r hg hcr fb hfb (C.hts _ (zw_in hlink)) (fun _ h => h) hfl hty hn hfit hlt hd go
              | true =>
                rcases hfin with h9 | h9
                · rw [hfl] at h9; cases h9
                · exact va_putF (D := (dC, dI)) (ci := fa) C.hx C.hb C.hts (zcl hcr).1 ty0 hty0 hap C.hown C.hK hR.2 zD hS.here r hg hcr fb hfb (C.hts _ (zw_in hlink)) (fun _ h => h) hfl (C.hnm h9.1) h9.2 hty hn hfit hlt hd go
            rw [hF] at hw
            have seti : ∀ v : Int32, ¬ t = 1 → (zws B ex dA w).set r (B + r, .inr (fa, (zfs B ex w r fa).set fb (.int v))) = zws B ex dA (w.1, zup w.2.1 r fb v, w.2.2.1, w.2.2.2) := by
              intro v ht
              refine zset rfl hy ?_ (fun a ha => zup_ne ha) (fun _ _ => rfl) (fun _ _ => rfl)
              rw [zE1_o hy1, zfs_seti hF ht]
            have setr : ∀ o : Option Nat, t = 1 → (zws B ex dA w).set r (B + r, .inr (fa, (zfs B ex w r fa).set fb (zv B ex (zrf o)))) = zws B ex dA (w.1, w.2.1, w.2.2.1, zup w.2.2.2 r fb o) := by
              intro o ht
              subst ht
              refine zset rfl hy ?_ (fun _ _ => rfl) (fun _ _ => rfl) (fun a ha => zup_ne ha)
              rw [zE1_o hy1, zfs_setr hF]
            split at hw
            · rename_i z h0
              cases h0; cases hw
              have : ty = .int := by cases ty <;> simp [zft] at hft <;> rfl
              subst this
              exact fin (.int z) (w.1, zup w.2.1 r fb z, w.2.2.1, w.2.2.2) rfl rfl rfl (seti z (by decide)) k
            · rename_i z h0
              cases h0
              split at hw
              · rename_i hz
                cases hw
                have : ty = .boolean := by cases ty <;> simp [zft] at hft <;> rfl
                subst this
                rcases hz with rfl | rfl
                · exact fin (.int 0) (w.1, zup w.2.1 r fb 0, w.2.2.1, w.2.2.2) rfl rfl rfl (seti 0 (by decide)) k
                · exact fin (.int 1) (w.1, zup w.2.1 r fb 1, w.2.2.1, w.2.2.2) rfl rfl rfl (seti 1 (by decide)) k
              · cases hw
            · rename_i z h0
              cases h0
              split at hw
              · rename_i hz
                cases hw
                have e1 : zv B ex (zrf (some z)) = .ref (B + z) := zv_lt hz
                have e2 := setr (some z) rfl
                rw [e1] at e2
                have e3 : zv B ex (.ref z) = .ref (B + z) := zv_lt hz
                rw [e3]
                cases ty with
                | object n => exact fin (.ref (B + z)) (w.1, w.2.1, w.2.2.1, zup w.2.2.2 r fb (some z)) rfl rfl rfl e2 k
                | array n => exact fin (.ref (B + z)) (w.1, w.2.1, w.2.2.1, zup w.2.2.2 r fb (some z)) rfl rfl rfl e2 k
                | _ => simp [zft] at hft
              · cases hw
            · rename_i h0
              cases h0; cases hw
              cases ty with
              | object n => exact fin .null (w.1, w.2.1, w.2.2.1, zup w.2.2.2 r fb none) rfl rfl rfl (setr none rfl) k
              | array n => exact fin .null (w.1, w.2.1, w.2.2.1, zup w.2.2.2 r fb none) rfl rfl rfl (setr none rfl) k
              | _ => simp [zft] at hft
            · cases hw
        · cases hw
      · cases hk2
    · cases h
  · cases h
theorem zo_iastore (C : zCx B ex dA dC dI E p R s m args meth c q n0 d) (hd : decode q.2.1 pc = .ok (.iastore, 1)) (h : zstep E (.iastore, 1, fa, fb, fc) pc lv st w = some x) (k : zWn p l e R s m args below meth c Q B ex dA dC dI q n0 s0 x) : zWn p l e R s m args below meth c Q B ex dA dC dI q n0 s0 (pc, lv, st, w) := by
  simp only [zstep] at h
  split at h
  · rename_i v i r rs
    split at h
    · rename_i hi
      cases h
      obtain ⟨hr, y, hy, hy1, hin⟩ := zin_of hi
      intro H locs ls hR hS hl
      show W p l e R s m args below meth c H locs _ _ Q (F0 m pc ls (.int v :: .int i :: zv B ex (.ref r) :: rs.map (zv B ex)))
      rw [zv_lt hr]
      have hg := zws_get (B := B) (ex := ex) (dA := dA) hy
      rw [zE1_0 hy1] at hg
      refine va_iast (D := (dC, dI)) C.hx C.hb C.hK hR.2 zD hS.here r 0 hg rfl hin hd (fun H1 locs1 hP1 _ hS1 => ?_)
      obtain ⟨a1, a2⟩ := zafter (w' := (w.1, zup w.2.1 r i.toNatClampNeg v, w.2.2.1, w.2.2.2)) (y := y) hR hS rfl (zset rfl hy (by rw [zE1_0 hy1]; dsimp only; rw [zup_eq]) (fun a ha => zup_ne ha) (fun _ _ => rfl) (fun _ _ => rfl)) hP1 hS1
      exact k H1 locs1 ls a1 a2 hl
    · cases h
  · cases h
theorem zo_castore (C : zCx B ex dA dC dI E p R s m args meth c q n0 d) (hd : decode q.2.1 pc = .ok (.castore, 1)) (h : zstep E (.castore, 1, fa, fb, fc) pc lv st w = some x) (k : zWn p l e R s m args below meth c Q B ex dA dC dI q n0 s0 x) : zWn p l e R s m args below meth c Q B ex dA dC dI q n0 s0 (pc, lv, st, w) := by
  simp only [zstep] at h
  split at h
  · rename_i v i r rs
    split at h
    · rename_i hi
      cases h
      obtain ⟨hr, y, hy, hy1, hin⟩ := zin_of hi
      intro H locs ls hR hS hl
      show W p l e R s m args below meth c H locs _ _ Q (F0 m pc ls (.int v :: .int i :: zv B ex (.ref r) :: rs.map (zv B ex)))
      rw [zv_lt hr]
      have hg := zws_get (B := B) (ex := ex) (dA := dA) hy
      rw [zE1_2 hy1] at hg
      refine va_cast (D := (dC, dI)) C.hx C.hb C.hK hR.2 zD hS.here r 2 hg rfl hin hd (fun H1 locs1 hP1 _ hS1 => ?_)
      obtain ⟨a1, a2⟩ := zafter (w' := (w.1, zup w.2.1 r i.toNatClampNeg (vp_nar .char v), w.2.2.1, w.2.2.2)) (y := y) hR hS rfl (zset rfl hy (by rw [zE1_2 hy1]; dsimp only; rw [zup_eq]) (fun a ha => zup_ne ha) (fun _ _ => rfl) (fun _ _ => rfl)) hP1 hS1
      exact k H1 locs1 ls a1 a2 hl
    · cases h
  · cases h
theorem zo_lastore (C : zCx B ex dA dC dI E p R s m args meth c q n0 d) (hd : decode q.2.1 pc = .ok (.lastore, 1)) (h : zstep E (.lastore, 1, fa, fb, fc) pc lv st w = some x) (k : zWn p l e R s m args below meth c Q B ex dA dC dI q n0 s0 x) : zWn p l e R s m args below meth c Q B ex dA dC dI q n0 s0 (pc, lv, st, w) := by
  simp only [zstep] at h
  split at h
  · rename_i v i r rs
    split at h
    · rename_i hi
      cases h
      obtain ⟨hr, y, hy, hy1, hin⟩ := zin_of hi
      intro H locs ls hR hS hl
      show W p l e R s m args below meth c H locs _ _ Q (F0 m pc ls (.long v :: .int i :: zv B ex (.ref r) :: rs.map (zv B ex)))
      rw [zv_lt hr]
      have hg := zws_get (B := B) (ex := ex) (dA := dA) hy
      rw [zE1_1 hy1] at hg
      refine va_last (D := (dC, dI)) C.hx C.hb C.hK hR.2 zD hS.here r 1 hg rfl hin hd (fun H1 locs1 hP1 _ hS1 => ?_)
      obtain ⟨a1, a2⟩ := zafter (w' := (w.1, w.2.1, zup w.2.2.1 r i.toNatClampNeg v, w.2.2.2)) (y := y) hR hS rfl (zset rfl hy (by rw [zE1_1 hy1]; dsimp only; rw [zup_eqL]) (fun _ _ => rfl) (fun a ha => zup_ne ha) (fun _ _ => rfl)) hP1 hS1
      exact k H1 locs1 ls a1 a2 hl
    · cases h
  · cases h
theorem zo_aastore (C : zCx B ex dA dC dI E p R s m args meth c q n0 d) (hd : decode q.2.1 pc = .ok (.aastore, 1)) (h : zstep E (.aastore, 1, fa, fb, fc) pc lv st w = some x) (k : zWn p l e R s m args below meth c Q B ex dA dC dI q n0 s0 x) : zWn p l e R s m args below meth c Q B ex dA dC dI q n0 s0 (pc, lv, st, w) := by
  simp only [zstep] at h
  split at h
  · rename_i v i r rs
    split at h
    · rename_i hi
      cases h
      rw [Bool.and_eq_true] at hi
      obtain ⟨hr, y, hy, hy1, hin⟩ := zin_of hi.1
      obtain ⟨hv, u, hu, hu1⟩ := zob_of hi.2
      intro H locs ls hR hS hl
      show W p l e R s m args below meth c H locs _ _ Q (F0 m pc ls (zv B ex (.ref v) :: .int i :: zv B ex (.ref r) :: rs.map (zv B ex)))
      rw [zv_lt hr, zv_lt hv]
      have hg := zws_get (B := B) (ex := ex) (dA := dA) hy
      rw [zE1_3 hy1] at hg
      have hgv := zws_get (B := B) (ex := ex) (dA := dA) hu
      rw [zE1_o hu1] at hgv
      refine va_astq (D := (dC, dI)) C.hx C.hb C.hK hR.2 zD hS.here r 3 v 4 (r := (RX4, TX4, 3)) hg rfl hgv rfl hin hd (fun H1 locs1 hP1 _ hS1 => ?_)
      obtain ⟨a1, a2⟩ := zafter (w' := (w.1, w.2.1, w.2.2.1, zup w.2.2.2 r i.toNatClampNeg (some v))) (y := y) hR hS rfl (zset rfl hy (by
        rw [zE1_3 hy1]
        congr 7
        funext j
        simp only [va_up, zup, if_true]
        split <;> rfl) (fun _ _ => rfl) (fun _ _ => rfl) (fun a ha => zup_ne ha)) hP1 hS1
      exact k H1 locs1 ls a1 a2 hl
    · cases h
  · cases h
/-- where a new cell lies -/
theorem zborn {H1 : Heap} {a : Nat} {z : va_E} (hz : s.heap.size = B + n0) (hn : n0 ≤ w.1.length) (hP1 : va_P (dC, dI) vwCl (zws B ex dA w ++ [(a, z)]) H1) (hD1 : va_D (fun y : Nat => B ≤ y) (zws B ex dA w ++ [(a, z)])) (hle : H1.size ≤ s.heap.size + (w.1.length - n0 + 1)) : a = B + w.1.length ∧ B + (w.1.length + 1) ≤ H1.size := by
  have ha : (zws B ex dA w ++ [(a, z)])[w.1.length]? = some (a, z) := by
    rw [List.getElem?_append_right (by rw [zws_len]; exact Nat.le_refl _), zws_len, Nat.sub_self]
    rfl
  have h1 : a < H1.size := (hP1 _ _ ha).lt
  have h2 : B ≤ a := hD1.2 _ _ ha
  have h3 : ¬ a < B + w.1.length := by
    intro h
    have hr : a - B < w.1.length := by omega
    obtain ⟨y, hy⟩ : ∃ y, w.1[a - B]? = some y := ⟨_, List.getElem?_eq_getElem hr⟩
    have hg : (zws B ex dA w ++ [(a, z)])[a - B]? = some (B + (a - B), zE1 B ex dA w (a - B) y) := by
      rw [List.getElem?_append_left (by rw [zws_len]; exact hr)]
      exact zws_get hy
    have := hD1.1 _ _ _ _ hg ha (by dsimp only; omega)
    omega
  omega
theorem zo_new (C : zCx B ex dA dC dI E p R s m args meth c q n0 d) {j : Nat} (hd : decode q.2.1 pc = .ok (.new j, 3)) (hk2 : zck2 q pc (.new j, 3, fa, fb, fc) = true) (hfa : fa < 9) (hn : n0 ≤ w.1.length) (hs : s0 ≤ zsl w.1) (h : zstep E (.new j, 3, fa, fb, fc) pc lv st w = some x) (hc1 : x.2.2.2.1.length - n0 ≤ R.cells) (hc2 : zsl x.2.2.2.1 - s0 ≤ R.slots) (k : zWn p l e R s m args below meth c Q B ex dA dC dI q n0 s0 x) : zWn p l e R s m args below meth c Q B ex dA dC dI q n0 s0 (pc, lv, st, w) := by
  simp only [zstep] at h
  simp only [zck2, Bool.and_eq_true] at hk2
  have hk2 := hk2.2
  split at h
  · rename_i hlen
    cases h
    dsimp only [znew] at hc1 hc2
    rw [List.length_append, List.length_singleton] at hc1
    rw [zsl_app] at hc2
    split at hk2
    · rename_i cr hcr
      intro H locs ls hR hS hl
      dsimp only
      obtain ⟨ty0, hty0⟩ := (zcl hcr).2.2.2.1
      have hN : cr.2.2 = zN fa := (zcl hcr).2.2.2.2.2
      refine va_new (D := (dC, dI)) (ci := fa) (fs := zfs B ex (znew w (10 + fa) (zN fa)) w.1.length fa) C.hx C.hb C.hts (zcl hcr).1 ty0 hty0 C.hown (C.hts _ (zw_in hk2)) (C.hts _ (zcl hcr).2.1) (C.hts _ (zcl hcr).2.2.1) C.hK hR.2 zD hS.here (fun y hy => Nat.le_trans (Nat.le_trans (Nat.le_add_right _ _) hR.1) hy) hcr ?_ (by omega) (by omega) hd (fun a H1 hP1 hD1 hS1 => ?_)
      · intro t ht
        have htn : t < zN fa := by rw [← hN]; exact ht
        obtain ⟨f, hf⟩ : ∃ f, zF fa t = some f := by
          unfold zN at htn
          unfold zF
          split at htn
          · rename_i l9 hl9
            exact ⟨_, List.getElem?_eq_getElem htn⟩
          · exact absurd htn (Nat.not_lt_zero _)
        obtain ⟨-, ty, hty, hft⟩ := zF_ok hcr hf
        have e1 : ty0 t = ty := Option.some.inj ((hty0 t ht).symm.trans hty)
        rw [e1]
        have e2 := zfs_get (B := B) (ex := ex) (w := znew w (10 + fa) (zN fa)) (r := w.1.length) hf
        simp only [vp_V, List.getD_eq_getElem?_getD, e2, Option.getD_some]
        have e3 : (znew w (10 + fa) (zN fa)).2.1 w.1.length t = 0 := by simp [znew, zrow]
        have e4 : (znew w (10 + fa) (zN fa)).2.2.2 w.1.length t = none := by simp [znew, zrow]
        rw [e3, e4]
        cases ty <;> simp [zft] at hft <;> subst hft <;> rfl
      · refine W.szle (fun hle => ?_)
        obtain ⟨rfl, b2⟩ := zborn C.hz hn hP1 hD1 hle
        rw [znew_ws (t := 10 + fa) (n := zN fa) (by rw [zE1_o (ci := fa) rfl])] at hP1
        have hk := k H1 locs ls ⟨by dsimp only [znew]; rw [List.length_append]; exact b2, hP1⟩ (hS.trans1 hS1) hl
        dsimp only [znew] at hk
        rw [List.length_append, List.length_singleton, zsl_app, Nat.sub_add_comm hn, Nat.sub_add_comm hs] at hk
        rw [hN]
        rw [List.map_cons, zv_lt hlen] at hk
        exact hk
    · rename_i hcr
      rw [List.getElem?_eq_none_iff] at hcr
      exact absurd hfa (Nat.not_lt.mpr hcr)
  · cases h
/-- arrays: the class is the one that the tables have -/
theorem zcls {tys : List (ClassId × FieldType)} {cA : ClassId} {ty : FieldType} {i : Nat} (hK : va_K (dC, dI) vwCl tys s) (hK1 : va_K (dC, dI) vwCl (tys ++ [(cA, ty)]) s) {cB : ClassId} (hi : tys[i]? = some (cB, ty)) : cA = cB := by
  have h1 := (hK.2 i _ hi).2
  have h2 := (hK1.2 tys.length (cA, ty) (by simp)).2
  cases ty with
  | object C =>
    obtain ⟨-, -, -, -, -, h1⟩ := h1
    obtain ⟨-, -, -, -, -, h2⟩ := h2
    exact Option.some.inj (h2.symm.trans h1)
  | _ => exact Option.some.inj (h2.symm.trans h1)
theorem zo_newarray (C : zCx B ex dA dC dI E p R s m args meth c q n0 d) {t : ArrayType} (hd : decode q.2.1 pc = .ok (.newarray t, 2)) (hn : n0 ≤ w.1.length) (hs : s0 ≤ zsl w.1) (h : zstep E (.newarray t, 2, fa, fb, fc) pc lv st w = some x) (hc1 : x.2.2.2.1.length - n0 ≤ R.cells) (hc2 : zsl x.2.2.2.1 - s0 ≤ R.slots) (k : zWn p l e R s m args below meth c Q B ex dA dC dI q n0 s0 x) : zWn p l e R s m args below meth c Q B ex dA dC dI q n0 s0 (pc, lv, st, w) := by
  simp only [zstep] at h
  split at h
  · rename_i n rs
    split at h
    · rename_i g hg
      split at h
      · rename_i hcon
        obtain ⟨hlen, hn0, hbig⟩ := hcon
        cases h
        dsimp only [znew] at hc1 hc2
        rw [List.length_append, List.length_singleton] at hc1
        rw [zsl_app] at hc2
        intro H locs ls hR hS hl
        have fin : ∀ (ty : FieldType) (i : Nat) (a0 : vp_A), newarray.typeOf t = ty → (Jvm.Cond.arrayClass ty) ∈ zTbl → (zty dA)[i]? = some (dA i, ty) → (∀ cA : ClassId, vp_cell cA a0 = arrV cA n.toNatClampNeg (fun _ => defaultValue ty)) → componentBytes ty ≤ 8 → (Sum.inl (dA i, a0) : va_E) = zE1 B ex dA (znew w g n.toNatClampNeg) w.1.length (g, n.toNatClampNeg) → W p l e R s m args below meth c H locs (w.1.length - n0) (zsl w.1 - s0) Q (F0 m pc ls (.int n :: rs.map (zv B ex))) := by
          intro ty i a0 hty hwd hi ha hcb hz
          refine va_newa (D := (dC, dI)) (atype := t) C.hx C.hb (by rw [hty]; exact C.hts _ hwd) hty C.hK hR.2 zD hS.here (fun y hy => Nat.le_trans (Nat.le_trans (Nat.le_add_right _ _) hR.1) hy) ha hn0 rfl ?_ (by omega) (by omega) hd (fun a cA H1 hK1 hP1 hD1 hS1 => ?_)
          · exact Nat.le_trans (Nat.mul_le_mul hbig hcb) (by decide)
          · have hcA : cA = dA i := zcls C.hK hK1 hi
            subst hcA
            refine W.szle (fun hle => ?_)
            obtain ⟨rfl, b2⟩ := zborn C.hz hn hP1 hD1 hle
            rw [znew_ws (t := g) (n := n.toNatClampNeg) hz] at hP1
            have hk := k H1 locs ls ⟨by dsimp only [znew]; rw [List.length_append]; exact b2, hP1⟩ (hS.trans1 hS1) hl
            dsimp only [znew] at hk
            rw [List.length_append, List.length_singleton, zsl_app, Nat.sub_add_comm hn, Nat.sub_add_comm hs, List.map_cons, zv_lt hlen] at hk
            exact hk
        cases t with
        | int =>
          cases hg
          exact fin .int 0 (n.toNatClampNeg, .inl (fun _ => 0)) rfl zb_aint rfl (fun _ => rfl) (by decide) (by rw [zE1_0 rfl]; simp only [znew, zrow_eq])
        | long =>
          cases hg
          exact fin .long 1 (n.toNatClampNeg, .inr (.inl (fun _ => 0))) rfl zb_along rfl (fun _ => rfl) (by decide) (by rw [zE1_1 rfl]; simp only [znew, zrow_eq])
        | char =>
          cases hg
          exact fin .char 2 (n.toNatClampNeg, .inl (fun _ => 0)) rfl zb_achar rfl (fun _ => rfl) (by decide) (by rw [zE1_2 rfl]; simp only [znew, zrow_eq])
        | _ => cases hg
      · cases h
    · cases h
  · cases h
theorem zo_anewarray (C : zCx B ex dA dC dI E p R s m args meth c q n0 d) {j : Nat} (hd : decode q.2.1 pc = .ok (.anewarray j, 3)) (hk2 : zck2 q pc (.anewarray j, 3, fa, fb, fc) = true) (hn : n0 ≤ w.1.length) (hs : s0 ≤ zsl w.1) (h : zstep E (.anewarray j, 3, fa, fb, fc) pc lv st w = some x) (hc1 : x.2.2.2.1.length - n0 ≤ R.cells) (hc2 : zsl x.2.2.2.1 - s0 ≤ R.slots) (k : zWn p l e R s m args below meth c Q B ex dA dC dI q n0 s0 x) : zWn p l e R s m args below meth c Q B ex dA dC dI q n0 s0 (pc, lv, st, w) := by
  simp only [zstep] at h
  simp only [zck2, Bool.and_eq_true] at hk2
  split at h
  · rename_i n rs
    split at h
    · rename_i hcon
      obtain ⟨hlen, hn0, hbig⟩ := hcon
      cases h
      dsimp only [znew] at hc1 hc2
      rw [List.length_append, List.length_singleton] at hc1
      rw [zsl_app] at hc2
      intro H locs ls hR hS hl
      obtain ⟨-, -, -, -, -, -, -, -, hO⟩ := C.hX
      refine va_newq (D := (dC, dI)) C.hx C.hb C.hown (C.hts _ (zw_in hk2.2)) hO C.hK hR.2 zD hS.here (fun y hy => Nat.le_trans (Nat.le_trans (Nat.le_add_right _ _) hR.1) hy) hn0 rfl ?_ (by dsimp only; omega) (by dsimp only; omega) hd (fun a cA H1 hK1 hP1 hD1 hS1 => ?_)
      · exact Nat.le_trans (Nat.mul_le_mul_right 4 hbig) (by decide)
      · have hcA : cA = dA 3 := zcls C.hK hK1 (i := 3) rfl
        subst hcA
        refine W.szle (fun hle => ?_)
        obtain ⟨rfl, b2⟩ := zborn C.hz hn hP1 hD1 hle
        rw [znew_ws (t := 3) (n := n.toNatClampNeg) (by rw [zE1_3 rfl]; simp only [znew, zrow_eq]; rfl)] at hP1
        have hk := k H1 locs ls ⟨by dsimp only [znew]; rw [List.length_append]; exact b2, hP1⟩ (hS.trans1 hS1) hl
        dsimp only [znew] at hk
        rw [List.length_append, List.length_singleton, zsl_app, Nat.sub_add_comm hn, Nat.sub_add_comm hs, List.map_cons, zv_lt hlen] at hk
        exact hk
    · cases h
  · cases h
theorem zo_objInit (C : zCx B ex dA dC dI E p R s m args meth c q n0 d) {j : Nat} (hd : decode q.2.1 pc = .ok (.invokespecial j, 3)) (hk2 : zck2 q pc (.invokespecial j, 3, fa, fb, fc) = true) (h : zstep E (.invokespecial j, 3, fa, fb, fc) pc lv st w = some x) (k : zWn p l e R s m args below meth c Q B ex dA dC dI q n0 s0 x) : zWn p l e R s m args below meth c Q B ex dA dC dI q n0 s0 (pc, lv, st, w) := by
  simp only [zstep] at h
  simp only [zck2, Bool.and_eq_true] at hk2
  have hk2 := hk2.2
  split at h
  · rename_i r rs
    split at h
    · rename_i hcon
      obtain ⟨hfa, hr, hct⟩ := hcon
      cases h
      rw [if_pos hfa] at hk2
      intro H locs ls hR hS hl
      show W p l e R s m args below meth c H locs _ _ Q (F0 m pc ls (zv B ex (.ref r) :: rs.map (zv B ex)))
      rw [zv_lt hr]
      have hc8 := zct_mv (B := B) C.h0 rs
      refine W.objInit C.hx C.hb C.hown (C.hts _ (zw_in hk2)) (C.hts _ zb_oi_m) (C.hts _ zb_oi_c) rfl (by rw [C.hml]; exact hl.1) rfl hd ?_ ?_ (k H locs ls hR hS hl)
      · have := C.hfr; omega
      · have h60 := C.hlo
        show 2 * 0 + ((rs.map (zv B ex)).map fun v => v.category).sum + 12 ≤ R.locals
        omega
    · cases h
  · cases h
theorem zo_static (C : zCx B ex dA dC dI E p R s m args meth c q n0 d) {j : Nat} (hd : decode q.2.1 pc = .ok (.invokestatic j, 3)) (hk2 : zck2 q pc (.invokestatic j, 3, fa, fb, fc) = true) (hc1 : w.1.length - n0 ≤ R.cells) (hc2 : zsl w.1 - s0 ≤ R.slots) (h : zstep E (.invokestatic j, 3, fa, fb, fc) pc lv st w = some x) (k : zWn p l e R s m args below meth c Q B ex dA dC dI q n0 s0 x) : zWn p l e R s m args below meth c Q B ex dA dC dI q n0 s0 (pc, lv, st, w) := by
  simp only [zstep] at h
  simp only [zck2, Bool.and_eq_true] at hk2
  have hk2 := hk2.2
  have hfr : 1 ≤ R.frames := by have := C.hfr; omega
  have hlo : 60 ≤ R.locals := by have := C.hlo; omega
  split at h
  · rename_i n dp a sp b rs
    split at h
    · rename_i hcon
      obtain ⟨hfa, hct, h1, h2, h3, ha, hb⟩ := hcon
      rw [if_neg (by omega), if_neg (by omega), if_pos hfa] at hk2
      split at h
      · rename_i q0 q1 hq0 hq1
        split at h
        · rename_i hcon
          obtain ⟨hsame, h4, h5⟩ := hcon
          have hc8 := zct_mv (B := B) C.h0 rs
          have hroom : ((rs.map (zv B ex)).map fun v => v.category).sum + (nativeFrameWords "java/lang/System" "arraycopy" 5 + 11) ≤ R.locals := by
            have : nativeFrameWords "java/lang/System" "arraycopy" 5 = 7 := by decide
            rw [this]
            omega
          split at h
          · rename_i hq10
            cases h
            intro H locs ls hR hS hl
            show W p l e R s m args below meth c H locs _ _ Q (F0 m pc ls (.int n :: .int dp :: zv B ex (.ref a) :: .int sp :: zv B ex (.ref b) :: rs.map (zv B ex)))
            rw [zv_lt ha, zv_lt hb]
            have g0 := zws_get (B := B) (ex := ex) (dA := dA) hq0
            rw [zE1_0 (hsame.trans hq10)] at g0
            have g1 := zws_get (B := B) (ex := ex) (dA := dA) hq1
            rw [zE1_0 hq10] at g1
            refine va_copyi (D := (dC, dI)) C.hx C.hb (C.hml.trans hl.1.symm) C.hown (C.hts _ (zw_in hk2)) (C.hts _ zb_ac_n) (C.hts _ zb_ac_s) (C.hts _ zb_sys_i) C.hK hR.2 zD hS.here b a 0 0 g0 g1 rfl rfl rfl h1 h2 h3 h4 h5 (fun _ _ => rfl) hfr hroom hd (fun H1 locs1 hP1 _ hS1 => ?_)
            obtain ⟨a1, a2⟩ := zafter (w' := (w.1, zrow w.2.1 a (va_cpy (w.2.1 b) (w.2.1 a) sp.toNatClampNeg dp.toNatClampNeg n.toNatClampNeg), w.2.2.1, w.2.2.2)) (y := q1) hR hS rfl (zset rfl hq1 (by rw [zE1_0 hq10]; dsimp only; rw [zrow_eq]) (fun a ha => zrow_ne ha) (fun _ _ => rfl) (fun _ _ => rfl)) hP1 hS1
            exact k H1 locs1 ls a1 a2 hl
          · split at h
            · rename_i hq11
              cases h
              intro H locs ls hR hS hl
              show W p l e R s m args below meth c H locs _ _ Q (F0 m pc ls (.int n :: .int dp :: zv B ex (.ref a) :: .int sp :: zv B ex (.ref b) :: rs.map (zv B ex)))
              rw [zv_lt ha, zv_lt hb]
              have g0 := zws_get (B := B) (ex := ex) (dA := dA) hq0
              rw [zE1_1 (hsame.trans hq11)] at g0
              have g1 := zws_get (B := B) (ex := ex) (dA := dA) hq1
              rw [zE1_1 hq11] at g1
              refine va_copyl (D := (dC, dI)) C.hx C.hb (C.hml.trans hl.1.symm) C.hown (C.hts _ (zw_in hk2)) (C.hts _ zb_ac_n) (C.hts _ zb_ac_s) (C.hts _ zb_sys_i) C.hK hR.2 zD hS.here b a 1 1 g0 g1 rfl rfl rfl h1 h2 h3 h4 h5 (fun _ _ => rfl) hfr hroom hd (fun H1 locs1 hP1 _ hS1 => ?_)
              obtain ⟨a1, a2⟩ := zafter (w' := (w.1, w.2.1, zrow w.2.2.1 a (va_cpy (w.2.2.1 b) (w.2.2.1 a) sp.toNatClampNeg dp.toNatClampNeg n.toNatClampNeg), w.2.2.2)) (y := q1) hR hS rfl (zset rfl hq1 (by rw [zE1_1 hq11]; dsimp only; rw [zrow_eq]) (fun _ _ => rfl) (fun a ha => zrow_ne ha) (fun _ _ => rfl)) hP1 hS1
              exact k H1 locs1 ls a1 a2 hl
            · cases h
        · cases h
      · cases h
    · cases h
  · rename_i y z rs hne9
    split at h
    · rename_i hct
      have hc8 := zct_mv (B := B) C.h0 rs
      split at h
      · rename_i hfa
        cases h
        rw [if_pos hfa] at hk2
        intro H locs ls hR hS hl
        exact va_mmax C.hx C.hb (C.hml.trans hl.1.symm) C.hown (C.hts _ (zw_in hk2)) (C.hts _ zb_max_s) (C.hts _ zb_math_i) (C.hts _ zb_max_c) hfr (by omega) hc1 hc2 hd (k H locs ls hR hS hl)
      · rename_i hfa
        rw [if_neg hfa] at hk2
        split at h
        · rename_i hfa
          cases h
          rw [if_pos hfa] at hk2
          intro H locs ls hR hS hl
          exact va_mmin C.hx C.hb (C.hml.trans hl.1.symm) C.hown (C.hts _ (zw_in hk2)) (C.hts _ zb_min_s) (C.hts _ zb_math_i) (C.hts _ zb_min_c) hfr (by omega) hc1 hc2 hd (k H locs ls hR hS hl)
        · cases h
    · cases h
  · cases h
end ZT
