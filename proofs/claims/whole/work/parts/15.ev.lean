/-! RUNS OF THE INTERPRETER, goal first -/
theorem zmono1 {E : zEn} : ∀ (n d : Nat) (cd : List zI) (pc : Nat) (lv : zLv) (st : List Value) (w : zW) (x : Option Value × zW), zexec E n d cd pc lv st w = some x → zexec E (n + 1) d cd pc lv st w = some x := by
  intro n
  induction n with
  | zero => intro d cd pc lv st w x h; simp [zexec] at h
  | succ n ih =>
    intro d cd pc lv st w x h
    rw [zexec] at h ⊢
    cases hi : cd[pc]? with
    | none => rw [hi] at h; cases h
    | some i =>
      simp only [hi] at h ⊢
      cases hk : zkind i with
      | zero =>
        simp only [hk] at h ⊢
        cases hs : zstep E i pc lv st w with
        | none => simp only [hs] at h; cases h
        | some s => simp only [hs] at h; exact ih _ _ _ _ _ _ _ h
      | succ k =>
        cases k with
        | zero => simp only [hk] at h ⊢; exact h
        | succ k =>
          simp only [hk] at h ⊢
          cases d with
          | zero => cases h
          | succ d =>
            simp only at h ⊢
            cases hy : zme[i.2.2.1]? with
            | none => simp only [hy] at h; cases h
            | some q =>
              simp only [hy] at h ⊢
              split at h
              · rename_i hc
                rw [if_pos hc]
                cases hx : zexec E n d q.2.2.2.2.2 0 (lv_args 0 (st.take i.2.2.2.1).reverse) [] w with
                | none => rw [hx] at h; cases h
                | some y =>
                  rw [hx] at h
                  rw [ih _ _ _ _ _ _ _ hx]
                  exact ih _ _ _ _ _ _ _ h
              · cases h
theorem zmono {E : zEn} {n d : Nat} {cd : List zI} {pc : Nat} {lv : zLv} {st : List Value} {w : zW} {x : Option Value × zW} (h : zexec E n d cd pc lv st w = some x) : ∀ k, zexec E (n + k) d cd pc lv st w = some x
  | 0 => h
  | k + 1 => zmono1 _ _ _ _ _ _ _ _ (zmono h k)
theorem zdeep1 {E : zEn} : ∀ (n d : Nat) (cd : List zI) (pc : Nat) (lv : zLv) (st : List Value) (w : zW) (x : Option Value × zW), zexec E n d cd pc lv st w = some x → zexec E n (d + 1) cd pc lv st w = some x := by
  intro n
  induction n with
  | zero => intro d cd pc lv st w x h; simp [zexec] at h
  | succ n ih =>
    intro d cd pc lv st w x h
    rw [zexec] at h ⊢
    cases hi : cd[pc]? with
    | none => rw [hi] at h; cases h
    | some i =>
      simp only [hi] at h ⊢
      cases hk : zkind i with
      | zero =>
        simp only [hk] at h ⊢
        cases hs : zstep E i pc lv st w with
        | none => simp only [hs] at h; cases h
        | some s => simp only [hs] at h; exact ih _ _ _ _ _ _ _ h
      | succ k =>
        cases k with
        | zero => simp only [hk] at h ⊢; exact h
        | succ k =>
          simp only [hk] at h ⊢
          cases d with
          | zero => cases h
          | succ d =>
            simp only at h ⊢
            cases hy : zme[i.2.2.1]? with
            | none => simp only [hy] at h; cases h
            | some q =>
              simp only [hy] at h ⊢
              split at h
              · rename_i hc
                rw [if_pos hc]
                cases hx : zexec E n d q.2.2.2.2.2 0 (lv_args 0 (st.take i.2.2.2.1).reverse) [] w with
                | none => rw [hx] at h; cases h
                | some y =>
                  rw [hx] at h
                  rw [ih _ _ _ _ _ _ _ hx]
                  exact ih _ _ _ _ _ _ _ h
              · cases h
/-- from this state the method's run ends with the answer r and the world w' -/
def Ev (E : zEn) (d : Nat) (cd : List zI) (pc : Nat) (lv : zLv) (st : List Value) (w : zW) (r : Option Value) (w' : zW) : Prop := ∃ n, zexec E n d cd pc lv st w = some (r, w')
section EV
variable {E : zEn} {d : Nat} {cd : List zI} {pc : Nat} {lv : zLv} {st : List Value} {w w' : zW} {r : Option Value}
theorem Ev.deep (h : Ev E d cd pc lv st w r w') {k : Nat} (hk : d ≤ k) : Ev E k cd pc lv st w r w' := by
  obtain ⟨n, h⟩ := h
  obtain ⟨j, rfl⟩ : ∃ j, k = d + j := ⟨k - d, by omega⟩
  clear hk
  induction j with
  | zero => exact ⟨n, h⟩
  | succ j ih =>
    obtain ⟨n, h⟩ := ih
    exact ⟨n, zdeep1 _ _ _ _ _ _ _ _ h⟩
theorem Ev.step {i : zI} {x : zS} (hi : cd[pc]? = some i) (hk : zkind i = 0) (hs : zstep E i pc lv st w = some x) (h : Ev E d cd x.1 x.2.1 x.2.2.1 x.2.2.2 r w') : Ev E d cd pc lv st w r w' := by
  obtain ⟨n, h⟩ := h
  refine ⟨n + 1, ?_⟩
  rw [zexec]
  simp only [hi, hk, hs]
  exact h
theorem Ev.ret {i : zI} (hi : cd[pc]? = some i) (hk : zkind i = 1) (hs : zret i st = some r) : Ev E d cd pc lv st w r w := by
  refine ⟨1, ?_⟩
  rw [zexec]
  simp only [hi, hk, hs]
theorem Ev.call {i : zI} {q : zMe} {r1 : Option Value} {w1 : zW} {as : List Value} {rest : List Value} {dc : Nat} (hi : cd[pc]? = some i) (hk : zkind i = 2) (hq : zme[i.2.2.1]? = some q) (hs : st = as.reverse ++ rest) (hn : as.length = i.2.2.2.1) (h8 : zct rest ≤ 8) (hl : zct as ≤ q.2.2.1) (hr : zrecv w q.2.2.2.2.1 as = true) (hd : dc < d)
    (h1 : Ev E dc q.2.2.2.2.2 0 (lv_args 0 as) [] w r1 w1) (h : Ev E d cd (pc + 3) lv (r1.toList ++ rest) w1 r w') : Ev E d cd pc lv st w r w' := by
  obtain ⟨d, rfl⟩ : ∃ j, d = j + 1 := ⟨d - 1, by omega⟩
  obtain ⟨n1, h1⟩ := Ev.deep h1 (k := d) (by omega)
  obtain ⟨n2, h⟩ := h
  have e1 : st.take i.2.2.2.1 = as.reverse := by rw [hs, ← hn, ← List.length_reverse, List.take_left]
  have e2 : st.drop i.2.2.2.1 = rest := by rw [hs, ← hn, ← List.length_reverse, List.drop_left]
  refine ⟨n1 + n2 + 1, ?_⟩
  rw [zexec]
  simp only [hi, hk, hq]
  rw [e1, e2, List.reverse_reverse]
  rw [if_pos ⟨by rw [hs, List.length_append, List.length_reverse]; omega, h8, hl, hr⟩]
  rw [zmono h1 n2]
  dsimp only
  rw [Nat.add_comm n1 n2]
  exact zmono h n1
/-- k steps at once, none a call or a return -/
def zrn (E : zEn) (cd : List zI) : Nat → zS → Option zS
  | 0, s => some s
  | k + 1, s => match cd[s.1]? with
    | some i => (match zkind i with
      | 0 => (match zstep E i s.1 s.2.1 s.2.2.1 s.2.2.2 with
        | some x => zrn E cd k x
        | none => none)
      | _ => none)
    | none => none
theorem Ev.run (k : Nat) {x : zS} (hx : zrn E cd k (pc, lv, st, w) = some x) (h : Ev E d cd x.1 x.2.1 x.2.2.1 x.2.2.2 r w') : Ev E d cd pc lv st w r w' := by
  induction k generalizing pc lv st w with
  | zero =>
    cases hx
    exact h
  | succ k ih =>
    simp only [zrn] at hx
    split at hx
    · rename_i i hi
      split at hx
      · rename_i hk
        split at hx
        · rename_i y hy
          exact Ev.step hi hk hy (ih hx)
        · cases hx
      · cases hx
    · cases hx
/-- branches -/
theorem Ev.br {i : zI} {c : ClassFile.Cond} {n : Int} {x y : Int32} {rs : List Value} (hi : cd[pc]? = some i) (h1 : i.1 = .if_icmp c n) (kt : zcpb c x y = true → Ev E d cd i.2.2.1 lv rs w r w') (kf : ¬ zcpb c x y = true → Ev E d cd (pc + 3) lv rs w r w') : Ev E d cd pc lv (.int y :: .int x :: rs) w r w' := by
  by_cases hc : zcpb c x y = true
  · refine Ev.step (x := (i.2.2.1, lv, rs, w)) hi (by simp only [zkind, h1]) ?_ (kt hc)
    simp only [zstep, h1, hc, if_true]
  · refine Ev.step (x := (pc + 3, lv, rs, w)) hi (by simp only [zkind, h1]) ?_ (kf hc)
    simp only [zstep, h1, if_neg hc]
theorem Ev.br0 {i : zI} {c : ClassFile.Cond} {n : Int} {x : Int32} {rs : List Value} (hi : cd[pc]? = some i) (h1 : i.1 = .ifCond c n) (kt : zcpb c x 0 = true → Ev E d cd i.2.2.1 lv rs w r w') (kf : ¬ zcpb c x 0 = true → Ev E d cd (pc + 3) lv rs w r w') : Ev E d cd pc lv (.int x :: rs) w r w' := by
  by_cases hc : zcpb c x 0 = true
  · refine Ev.step (x := (i.2.2.1, lv, rs, w)) hi (by simp only [zkind, h1]) ?_ (kt hc)
    simp only [zstep, h1, hc, if_true]
  · refine Ev.step (x := (pc + 3, lv, rs, w)) hi (by simp only [zkind, h1]) ?_ (kf hc)
    simp only [zstep, h1, if_neg hc]
theorem Ev.icmp_eq {n : Int} {x y : Int32} {rs : List Value} {len fa fb fc : Nat} (hi : cd[pc]? = some (.if_icmp .eq n, len, fa, fb, fc)) (kt : x = y → Ev E d cd fa lv rs w r w') (kf : ¬ x = y → Ev E d cd (pc + 3) lv rs w r w') : Ev E d cd pc lv (.int y :: .int x :: rs) w r w' := Ev.br hi rfl (fun h => kt (of_decide_eq_true h)) (fun h => kf (fun g => h (decide_eq_true g)))
theorem Ev.icmp_ne {n : Int} {x y : Int32} {rs : List Value} {len fa fb fc : Nat} (hi : cd[pc]? = some (.if_icmp .ne n, len, fa, fb, fc)) (kt : ¬ x = y → Ev E d cd fa lv rs w r w') (kf : x = y → Ev E d cd (pc + 3) lv rs w r w') : Ev E d cd pc lv (.int y :: .int x :: rs) w r w' := Ev.br hi rfl (fun h => kt (of_decide_eq_true h)) (fun h => kf (Classical.byContradiction fun g => h (decide_eq_true g)))
theorem Ev.icmp_lt {n : Int} {x y : Int32} {rs : List Value} {len fa fb fc : Nat} (hi : cd[pc]? = some (.if_icmp .lt n, len, fa, fb, fc)) (kt : x < y → Ev E d cd fa lv rs w r w') (kf : ¬ x < y → Ev E d cd (pc + 3) lv rs w r w') : Ev E d cd pc lv (.int y :: .int x :: rs) w r w' := Ev.br hi rfl (fun h => kt (of_decide_eq_true h)) (fun h => kf (fun g => h (decide_eq_true g)))
theorem Ev.icmp_ge {n : Int} {x y : Int32} {rs : List Value} {len fa fb fc : Nat} (hi : cd[pc]? = some (.if_icmp .ge n, len, fa, fb, fc)) (kt : y ≤ x → Ev E d cd fa lv rs w r w') (kf : ¬ y ≤ x → Ev E d cd (pc + 3) lv rs w r w') : Ev E d cd pc lv (.int y :: .int x :: rs) w r w' := Ev.br hi rfl (fun h => kt (of_decide_eq_true h)) (fun h => kf (fun g => h (decide_eq_true g)))
theorem Ev.icmp_gt {n : Int} {x y : Int32} {rs : List Value} {len fa fb fc : Nat} (hi : cd[pc]? = some (.if_icmp .gt n, len, fa, fb, fc)) (kt : y < x → Ev E d cd fa lv rs w r w') (kf : ¬ y < x → Ev E d cd (pc + 3) lv rs w r w') : Ev E d cd pc lv (.int y :: .int x :: rs) w r w' := Ev.br hi rfl (fun h => kt (of_decide_eq_true h)) (fun h => kf (fun g => h (decide_eq_true g)))
theorem Ev.icmp_le {n : Int} {x y : Int32} {rs : List Value} {len fa fb fc : Nat} (hi : cd[pc]? = some (.if_icmp .le n, len, fa, fb, fc)) (kt : x ≤ y → Ev E d cd fa lv rs w r w') (kf : ¬ x ≤ y → Ev E d cd (pc + 3) lv rs w r w') : Ev E d cd pc lv (.int y :: .int x :: rs) w r w' := Ev.br hi rfl (fun h => kt (of_decide_eq_true h)) (fun h => kf (fun g => h (decide_eq_true g)))
theorem Ev.if_eq {n : Int} {x : Int32} {rs : List Value} {len fa fb fc : Nat} (hi : cd[pc]? = some (.ifCond .eq n, len, fa, fb, fc)) (kt : x = 0 → Ev E d cd fa lv rs w r w') (kf : ¬ x = 0 → Ev E d cd (pc + 3) lv rs w r w') : Ev E d cd pc lv (.int x :: rs) w r w' := Ev.br0 hi rfl (fun h => kt (of_decide_eq_true h)) (fun h => kf (fun g => h (decide_eq_true g)))
theorem Ev.if_ne {n : Int} {x : Int32} {rs : List Value} {len fa fb fc : Nat} (hi : cd[pc]? = some (.ifCond .ne n, len, fa, fb, fc)) (kt : ¬ x = 0 → Ev E d cd fa lv rs w r w') (kf : x = 0 → Ev E d cd (pc + 3) lv rs w r w') : Ev E d cd pc lv (.int x :: rs) w r w' := Ev.br0 hi rfl (fun h => kt (of_decide_eq_true h)) (fun h => kf (Classical.byContradiction fun g => h (decide_eq_true g)))
theorem Ev.if_lt {n : Int} {x : Int32} {rs : List Value} {len fa fb fc : Nat} (hi : cd[pc]? = some (.ifCond .lt n, len, fa, fb, fc)) (kt : x < 0 → Ev E d cd fa lv rs w r w') (kf : ¬ x < 0 → Ev E d cd (pc + 3) lv rs w r w') : Ev E d cd pc lv (.int x :: rs) w r w' := Ev.br0 hi rfl (fun h => kt (of_decide_eq_true h)) (fun h => kf (fun g => h (decide_eq_true g)))
theorem Ev.if_ge {n : Int} {x : Int32} {rs : List Value} {len fa fb fc : Nat} (hi : cd[pc]? = some (.ifCond .ge n, len, fa, fb, fc)) (kt : 0 ≤ x → Ev E d cd fa lv rs w r w') (kf : ¬ 0 ≤ x → Ev E d cd (pc + 3) lv rs w r w') : Ev E d cd pc lv (.int x :: rs) w r w' := Ev.br0 hi rfl (fun h => kt (of_decide_eq_true h)) (fun h => kf (fun g => h (decide_eq_true g)))
theorem Ev.if_gt {n : Int} {x : Int32} {rs : List Value} {len fa fb fc : Nat} (hi : cd[pc]? = some (.ifCond .gt n, len, fa, fb, fc)) (kt : 0 < x → Ev E d cd fa lv rs w r w') (kf : ¬ 0 < x → Ev E d cd (pc + 3) lv rs w r w') : Ev E d cd pc lv (.int x :: rs) w r w' := Ev.br0 hi rfl (fun h => kt (of_decide_eq_true h)) (fun h => kf (fun g => h (decide_eq_true g)))
theorem Ev.if_le {n : Int} {x : Int32} {rs : List Value} {len fa fb fc : Nat} (hi : cd[pc]? = some (.ifCond .le n, len, fa, fb, fc)) (kt : x ≤ 0 → Ev E d cd fa lv rs w r w') (kf : ¬ x ≤ 0 → Ev E d cd (pc + 3) lv rs w r w') : Ev E d cd pc lv (.int x :: rs) w r w' := Ev.br0 hi rfl (fun h => kt (of_decide_eq_true h)) (fun h => kf (fun g => h (decide_eq_true g)))
end EV
/-- fewer locals, in any order -/
def zle (a b : zLv) : Prop := ∀ q ∈ a, zlk b q.1 = some q.2
theorem zlk_mem : ∀ {a : zLv} {k : Nat} {v : Value}, zlk a k = some v → (k, v) ∈ a
  | [], _, _, h => by cases h
  | q :: a, k, v, h => by
    simp only [zlk] at h
    split at h
    · rename_i hk
      cases h
      subst hk
      exact List.mem_cons_self
    · exact List.mem_cons_of_mem _ (zlk_mem h)
theorem zle.lk {a b : zLv} (h : zle a b) {k : Nat} {v : Value} (hk : zlk a k = some v) : zlk b k = some v := h (k, v) (zlk_mem hk)
theorem zlk_filter {f : Nat × Value → Bool} : ∀ {a : zLv} {k : Nat} {v : Value}, zlk a k = some v → f (k, v) = true → zlk (a.filter f) k = some v
  | [], _, _, h, _ => by cases h
  | q :: a, k, v, h, hf => by
    simp only [zlk] at h
    split at h
    · rename_i hk
      cases h
      subst hk
      rw [List.filter_cons, if_pos (by exact hf)]
      simp [zlk]
    · rename_i hk
      rw [List.filter_cons]
      split
      · simp only [zlk, if_neg hk]
        exact zlk_filter h hf
      · exact zlk_filter h hf
theorem zle.s1 {a b : zLv} (h : zle a b) (i : Nat) (v : Value) : zle (zs1 a i v) (zs1 b i v) := by
  intro q hq
  simp only [zs1, List.mem_cons, List.mem_filter] at hq
  rcases hq with rfl | ⟨h1, h2⟩
  · simp [zs1, zlk]
  · have hne : ¬ i = q.1 := by
      simp only [Bool.and_eq_true, Bool.not_eq_true', beq_eq_false_iff_ne, ne_eq] at h2
      exact fun e => h2.1 e.symm
    simp only [zs1, zlk, if_neg hne]
    exact zlk_filter (h q h1) h2
theorem zle.s2 {a b : zLv} (h : zle a b) (i : Nat) (v : Value) : zle (zs2 a i v) (zs2 b i v) := by
  intro q hq
  simp only [zs2, List.mem_cons, List.mem_filter] at hq
  rcases hq with rfl | ⟨h1, h2⟩
  · simp [zs2, zlk]
  · have hne : ¬ i = q.1 := by
      simp only [Bool.and_eq_true, Bool.not_eq_true', beq_eq_false_iff_ne, ne_eq] at h2
      exact fun e => h2.1 e.symm
    simp only [zs2, zlk, if_neg hne]
    exact zlk_filter (h q h1) h2
set_option maxHeartbeats 8000000 in
theorem zstep_sub {E : zEn} {i : zI} {pc : Nat} {a b : zLv} {st : List Value} {w : zW} {x : zS} (hab : zle a b) (h : zstep E i pc a st w = some x) : ∃ b', zstep E i pc b st w = some (x.1, b', x.2.2.1, x.2.2.2) ∧ zle x.2.1 b' := by
  obtain ⟨ins, len, fa, fb, fc⟩ := i
  cases ins with
  | iload k =>
    simp only [zstep] at h ⊢
    split at h
    · rename_i y hy; rw [hab.lk hy]; cases h; exact ⟨b, rfl, hab⟩
    · cases h
  | iload_n k =>
    simp only [zstep] at h ⊢
    split at h
    · rename_i y hy; rw [hab.lk hy]; cases h; exact ⟨b, rfl, hab⟩
    · cases h
  | lload k =>
    simp only [zstep] at h ⊢
    split at h
    · rename_i y hy; rw [hab.lk hy]; cases h; exact ⟨b, rfl, hab⟩
    · cases h
  | lload_n k =>
    simp only [zstep] at h ⊢
    split at h
    · rename_i y hy; rw [hab.lk hy]; cases h; exact ⟨b, rfl, hab⟩
    · cases h
  | aload k =>
    simp only [zstep] at h ⊢
    split at h
    · rename_i y hy; rw [hab.lk hy]; cases h; exact ⟨b, rfl, hab⟩
    · rename_i hy; rw [hab.lk hy]; cases h; exact ⟨b, rfl, hab⟩
    · cases h
  | aload_n k =>
    simp only [zstep] at h ⊢
    split at h
    · rename_i y hy; rw [hab.lk hy]; cases h; exact ⟨b, rfl, hab⟩
    · rename_i hy; rw [hab.lk hy]; cases h; exact ⟨b, rfl, hab⟩
    · cases h
  | iinc k n =>
    simp only [zstep] at h ⊢
    split at h
    · rename_i y hy; rw [hab.lk hy]; cases h; exact ⟨_, rfl, hab.s1 _ _⟩
    · cases h
  | istore k =>
    simp only [zstep] at h ⊢
    split at h
    · cases h; exact ⟨_, rfl, hab.s1 _ _⟩
    · cases h
  | istore_n k =>
    simp only [zstep] at h ⊢
    split at h
    · cases h; exact ⟨_, rfl, hab.s1 _ _⟩
    · cases h
  | lstore k =>
    simp only [zstep] at h ⊢
    split at h
    · cases h; exact ⟨_, rfl, hab.s2 _ _⟩
    · cases h
  | lstore_n k =>
    simp only [zstep] at h ⊢
    split at h
    · cases h; exact ⟨_, rfl, hab.s2 _ _⟩
    · cases h
  | astore k =>
    simp only [zstep] at h ⊢
    split at h
    · cases h; exact ⟨_, rfl, hab.s1 _ _⟩
    · cases h; exact ⟨_, rfl, hab.s1 _ _⟩
    · cases h
  | astore_n k =>
    simp only [zstep] at h ⊢
    split at h
    · cases h; exact ⟨_, rfl, hab.s1 _ _⟩
    · cases h; exact ⟨_, rfl, hab.s1 _ _⟩
    · cases h
  | _ =>
    refine ⟨b, ?_⟩
    simp only [zstep] at h ⊢
    repeat' (split at h)
    all_goals first
      | (cases h; exact ⟨rfl, hab⟩)
      | (cases h; done)
      | (cases h; refine ⟨?_, hab⟩; simp [*]; done)
      | (cases h; refine ⟨?_, hab⟩; simp_all; done)
