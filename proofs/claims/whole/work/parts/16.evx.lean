theorem zsub {E : zEn} : ∀ (n d : Nat) (cd : List zI) (pc : Nat) (a b : zLv) (st : List Value) (w : zW) (x : Option Value × zW), zle a b → zexec E n d cd pc a st w = some x → zexec E n d cd pc b st w = some x := by
  intro n
  induction n with
  | zero => intro d cd pc a b st w x _ h; simp [zexec] at h
  | succ n ih =>
    intro d cd pc a b st w x hab h
    rw [zexec] at h ⊢
    cases hi : cd[pc]? with
    | none => rw [hi] at h; cases h
    | some i =>
      simp only [hi] at h ⊢
      cases hk : zkind i with
      | zero =>
        simp only [hk] at h ⊢
        cases hs : zstep E i pc a st w with
        | none => simp only [hs] at h; cases h
        | some s =>
          simp only [hs] at h
          obtain ⟨b', hb', hle⟩ := zstep_sub hab hs
          rw [hb']
          exact ih _ _ _ _ _ _ _ _ hle h
      | succ k =>
        cases k with
        | zero => simp only [hk] at h ⊢; exact h
        | succ k =>
          simp only [hk] at h ⊢
          cases d with
          | zero => cases h
          | succ d =>
            simp only at h ⊢
            cases hy : zme[i.2.2.1]? with
            | none => simp only [hy] at h; cases h
            | some q =>
              simp only [hy] at h ⊢
              split at h
              · rename_i hc
                rw [if_pos hc]
                cases hx : zexec E n d q.2.2.2.2.2 0 (lv_args 0 (st.take i.2.2.2.1).reverse) [] w with
                | none => rw [hx] at h; cases h
                | some y =>
                  rw [hx] at h
                  exact ih _ _ _ _ _ _ _ _ hab h
              · cases h
section EX
variable {E : zEn} {d : Nat} {cd : List zI} {pc : Nat} {lv : zLv} {st rs : List Value} {w w' : zW} {r : Option Value}
theorem Ev.sub {a b : zLv} (hab : zle a b) (h : Ev E d cd pc a st w r w') : Ev E d cd pc b st w r w' := by
  obtain ⟨n, h⟩ := h
  exact ⟨n, zsub _ _ _ _ _ _ _ _ _ hab h⟩
theorem zle_nil {b : zLv} : zle [] b := fun _ h => by cases h
theorem zle_cons {a b : zLv} {i : Nat} {v : Value} (h1 : zlk b i = some v) (h2 : zle a b) : zle ((i, v) :: a) b := fun q hq => by
  rcases List.mem_cons.mp hq with rfl | h
  · exact h1
  · exact h2 q h
/-- numbers of places -/
theorem vp_nI {j n : Nat} (h : j < n) (hn : n < 2 ^ 31) : vp_in (nI j) n := vp_in_nI h hn
theorem Ev.iald {a n : Nat} {i : Int32} {len fa fb fc : Nat} (hi : cd[pc]? = some (.iaload, len, fa, fb, fc)) (hr : a < zEX) (hs : w.1[a]? = some (0, n)) (hin : vp_in i n) (h : Ev E d cd (pc + 1) lv (.int (w.2.1 a i.toNatClampNeg) :: rs) w r w') : Ev E d cd pc lv (.int i :: .ref a :: rs) w r w' := by
  refine Ev.step (x := (pc + 1, lv, .int (w.2.1 a i.toNatClampNeg) :: rs, w)) hi rfl ?_ h
  have : zia E w 0 a i = some (w.2.1 a i.toNatClampNeg) := by
    unfold zia
    rw [if_pos hr, hs]
    dsimp only
    rw [if_pos rfl, if_neg hin]
  simp only [zstep, this]
theorem Ev.ialn {a n j : Nat} {len fa fb fc : Nat} (hi : cd[pc]? = some (.iaload, len, fa, fb, fc)) (hr : a < zEX) (hs : w.1[a]? = some (0, n)) (hj : j < n) (hn : n < 2 ^ 31) (h : Ev E d cd (pc + 1) lv (.int (w.2.1 a j) :: rs) w r w') : Ev E d cd pc lv (.int (nI j) :: .ref a :: rs) w r w' :=
  Ev.iald hi hr hs (vp_nI hj hn) (by rw [nI_clamp (by omega)]; exact h)
theorem Ev.iast {a n : Nat} {i v : Int32} {len fa fb fc : Nat} (hi : cd[pc]? = some (.iastore, len, fa, fb, fc)) (hr : a < zEX) (hs : w.1[a]? = some (0, n)) (hin : vp_in i n) (h : Ev E d cd (pc + 1) lv rs (w.1, zup w.2.1 a i.toNatClampNeg v, w.2.2.1, w.2.2.2) r w') : Ev E d cd pc lv (.int v :: .int i :: .ref a :: rs) w r w' := by
  refine Ev.step (x := (pc + 1, lv, rs, (w.1, zup w.2.1 a i.toNatClampNeg v, w.2.2.1, w.2.2.2))) hi rfl ?_ h
  have : zin w 0 a i = true := by
    unfold zin
    rw [if_pos hr, hs]
    dsimp only
    rw [if_pos rfl, if_neg hin]
  simp only [zstep, this, if_true]
theorem Ev.iasn {a n j : Nat} {v : Int32} {len fa fb fc : Nat} (hi : cd[pc]? = some (.iastore, len, fa, fb, fc)) (hr : a < zEX) (hs : w.1[a]? = some (0, n)) (hj : j < n) (hn : n < 2 ^ 31) (h : Ev E d cd (pc + 1) lv rs (w.1, zup w.2.1 a j v, w.2.2.1, w.2.2.2) r w') : Ev E d cd pc lv (.int v :: .int (nI j) :: .ref a :: rs) w r w' :=
  Ev.iast hi hr hs (vp_nI hj hn) (by rw [nI_clamp (by omega)]; exact h)
theorem Ev.cald {a n : Nat} {i : Int32} {len fa fb fc : Nat} (hi : cd[pc]? = some (.caload, len, fa, fb, fc)) (hr : a < zEX) (hs : w.1[a]? = some (2, n)) (hin : vp_in i n) (h : Ev E d cd (pc + 1) lv (.int (w.2.1 a i.toNatClampNeg) :: rs) w r w') : Ev E d cd pc lv (.int i :: .ref a :: rs) w r w' := by
  refine Ev.step (x := (pc + 1, lv, .int (w.2.1 a i.toNatClampNeg) :: rs, w)) hi rfl ?_ h
  have : zia E w 2 a i = some (w.2.1 a i.toNatClampNeg) := by
    unfold zia
    rw [if_pos hr, hs]
    dsimp only
    rw [if_pos rfl, if_neg hin]
  simp only [zstep, this]
theorem Ev.lald {a n : Nat} {i : Int32} {len fa fb fc : Nat} (hi : cd[pc]? = some (.laload, len, fa, fb, fc)) (hr : a < zEX) (hs : w.1[a]? = some (1, n)) (hin : vp_in i n) (h : Ev E d cd (pc + 1) lv (.long (w.2.2.1 a i.toNatClampNeg) :: rs) w r w') : Ev E d cd pc lv (.int i :: .ref a :: rs) w r w' := by
  refine Ev.step (x := (pc + 1, lv, .long (w.2.2.1 a i.toNatClampNeg) :: rs, w)) hi rfl ?_ h
  have : zla w a i = some (w.2.2.1 a i.toNatClampNeg) := by
    unfold zla
    rw [if_pos hr, hs]
    dsimp only
    rw [if_pos rfl, if_neg hin]
  simp only [zstep, this]
theorem Ev.last {a n : Nat} {i : Int32} {v : Int64} {len fa fb fc : Nat} (hi : cd[pc]? = some (.lastore, len, fa, fb, fc)) (hr : a < zEX) (hs : w.1[a]? = some (1, n)) (hin : vp_in i n) (h : Ev E d cd (pc + 1) lv rs (w.1, w.2.1, zup w.2.2.1 a i.toNatClampNeg v, w.2.2.2) r w') : Ev E d cd pc lv (.long v :: .int i :: .ref a :: rs) w r w' := by
  refine Ev.step (x := (pc + 1, lv, rs, (w.1, w.2.1, zup w.2.2.1 a i.toNatClampNeg v, w.2.2.2))) hi rfl ?_ h
  have : zin w 1 a i = true := by
    unfold zin
    rw [if_pos hr, hs]
    dsimp only
    rw [if_pos rfl, if_neg hin]
  simp only [zstep, this, if_true]
theorem Ev.aald {a n v : Nat} {i : Int32} {len fa fb fc : Nat} (hi : cd[pc]? = some (.aaload, len, fa, fb, fc)) (hr : a < zEX) (hs : w.1[a]? = some (3, n)) (hin : vp_in i n) (hv : w.2.2.2 a i.toNatClampNeg = some v) (hvx : v < zEX) (h : Ev E d cd (pc + 1) lv (.ref v :: rs) w r w') : Ev E d cd pc lv (.int i :: .ref a :: rs) w r w' := by
  refine Ev.step (x := (pc + 1, lv, .ref v :: rs, w)) hi rfl ?_ h
  have : zra w a i = some (some v) := by
    unfold zra
    rw [if_pos hr, hs]
    dsimp only
    rw [if_pos rfl, if_neg hin, hv]
    dsimp only
    rw [if_pos hvx]
  simp only [zstep, this, zrf]
end EX
def zsh : List (Nat × Nat) := [(17, 10), (10, 13), (0, 8), (0, 6), (0, 6), (0, 6), (0, 6), (0, 6), (0, 24), (0, 6), (0, 6), (10, 13), (0, 8), (0, 6), (0, 6), (0, 6), (0, 6), (0, 6), (0, 24), (0, 6), (0, 6), (12, 10), (0, 5), (0, 5), (0, 5), (0, 10), (0, 10), (0, 8), (0, 8), (12, 10), (0, 5), (0, 5), (0, 5), (0, 10), (0, 10), (0, 8), (0, 8), (11, 1), (10, 13), (0, 8), (0, 6), (0, 6), (0, 6), (0, 6), (0, 6), (0, 24), (0, 6), (0, 6), (15, 6), (0, 100), (0, 100), (13, 5), (0, 20), (3, 6), (14, 3), (1, 60), (14, 3), (1, 60), (14, 3), (1, 60), (14, 3), (1, 60), (14, 3), (1, 60), (14, 3), (1, 60), (18, 29), (0, 125), (0, 125), (0, 125), (0, 100), (0, 600), (0, 6), (0, 100), (0, 6), (2, 6), (2, 3), (2, 15), (0, 6), (0, 7), (0, 21), (0, 20), (0, 6), (0, 6), (1, 360), (1, 60)]
