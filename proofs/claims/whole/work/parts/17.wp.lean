/-! THE SAME WITH A PREDICATE AT THE END -/
def Wp (E : zEn) (d : Nat) (cd : List zI) (pc : Nat) (lv : zLv) (st : List Value) (w : zW) (P : Option Value → zW → Prop) : Prop := ∃ r w', Ev E d cd pc lv st w r w' ∧ P r w'
section WP
variable {E : zEn} {d : Nat} {cd : List zI} {pc : Nat} {lv : zLv} {st rs : List Value} {w : zW} {P : Option Value → zW → Prop}
theorem Wp.run (k : Nat) (x : zS) (hx : zrn E cd k (pc, lv, st, w) = some x) (h : Wp E d cd x.1 x.2.1 x.2.2.1 x.2.2.2 P) : Wp E d cd pc lv st w P := by
  obtain ⟨r, w', h, hp⟩ := h
  exact ⟨r, w', Ev.run k hx h, hp⟩
theorem Wp.weak {P' : Option Value → zW → Prop} (h : Wp E d cd pc lv st w P') (hp : ∀ r w', P' r w' → P r w') : Wp E d cd pc lv st w P := by
  obtain ⟨r, w', h, h2⟩ := h
  exact ⟨r, w', h, hp _ _ h2⟩
theorem Wp.deep {k : Nat} (h : Wp E d cd pc lv st w P) (hk : d ≤ k) : Wp E k cd pc lv st w P := by
  obtain ⟨r, w', h, h2⟩ := h
  exact ⟨r, w', h.deep hk, h2⟩
theorem Wp.sub {a b : zLv} (hab : zle a b) (h : Wp E d cd pc a st w P) : Wp E d cd pc b st w P := by
  obtain ⟨r, w', h, h2⟩ := h
  exact ⟨r, w', h.sub hab, h2⟩
theorem Wp.ret {i : zI} {r : Option Value} (hi : cd[pc]? = some i) (hk : zkind i = 1) (hs : zret i st = some r) (hp : P r w) : Wp E d cd pc lv st w P := ⟨r, w, Ev.ret hi hk hs, hp⟩
theorem Wp.call {i : zI} {q : zMe} {as rest : List Value} {dc : Nat} {P1 : Option Value → zW → Prop} (hi : cd[pc]? = some i) (hk : zkind i = 2) (hq : zme[i.2.2.1]? = some q) (hs : st = as.reverse ++ rest) (hn : as.length = i.2.2.2.1) (h8 : zct rest ≤ 8) (hl : zct as ≤ q.2.2.1) (hr : zrecv w q.2.2.2.2.1 as = true) (hd : dc < d)
    (h1 : Wp E dc q.2.2.2.2.2 0 (lv_args 0 as) [] w P1) (h : ∀ r1 w1, P1 r1 w1 → Wp E d cd (pc + 3) lv (r1.toList ++ rest) w1 P) : Wp E d cd pc lv st w P := by
  obtain ⟨r1, w1, h1, hp1⟩ := h1
  obtain ⟨r, w', h, hp⟩ := h r1 w1 hp1
  exact ⟨r, w', Ev.call hi hk hq hs hn h8 hl hr hd h1 h, hp⟩
end WP
section WB
variable {E : zEn} {d : Nat} {cd : List zI} {pc : Nat} {lv : zLv} {rs : List Value} {w : zW} {P : Option Value → zW → Prop}
theorem Wp.icmp_eq {n : Int} {x y : Int32} {len fa fb fc : Nat} (hi : cd[pc]? = some (.if_icmp .eq n, len, fa, fb, fc)) (kt : x = y → Wp E d cd fa lv rs w P) (kf : ¬ x = y → Wp E d cd (pc + 3) lv rs w P) : Wp E d cd pc lv (.int y :: .int x :: rs) w P := by
  by_cases hc : x = y
  · obtain ⟨r, w', h, hp⟩ := kt hc
    exact ⟨r, w', Ev.icmp_eq hi (fun _ => h) (fun g => absurd hc g), hp⟩
  · obtain ⟨r, w', h, hp⟩ := kf hc
    exact ⟨r, w', Ev.icmp_eq hi (fun g => absurd g hc) (fun _ => h), hp⟩
theorem Wp.if_eq {n : Int} {x : Int32} {len fa fb fc : Nat} (hi : cd[pc]? = some (.ifCond .eq n, len, fa, fb, fc)) (kt : x = 0 → Wp E d cd fa lv rs w P) (kf : ¬ x = 0 → Wp E d cd (pc + 3) lv rs w P) : Wp E d cd pc lv (.int x :: rs) w P := by
  by_cases hc : x = 0
  · obtain ⟨r, w', h, hp⟩ := kt hc
    exact ⟨r, w', Ev.if_eq hi (fun _ => h) (fun g => absurd hc g), hp⟩
  · obtain ⟨r, w', h, hp⟩ := kf hc
    exact ⟨r, w', Ev.if_eq hi (fun g => absurd g hc) (fun _ => h), hp⟩
theorem Wp.icmp_ne {n : Int} {x y : Int32} {len fa fb fc : Nat} (hi : cd[pc]? = some (.if_icmp .ne n, len, fa, fb, fc)) (kt : ¬ x = y → Wp E d cd fa lv rs w P) (kf : x = y → Wp E d cd (pc + 3) lv rs w P) : Wp E d cd pc lv (.int y :: .int x :: rs) w P := by
  by_cases hc : ¬ x = y
  · obtain ⟨r, w', h, hp⟩ := kt hc
    exact ⟨r, w', Ev.icmp_ne hi (fun _ => h) (fun g => absurd g hc), hp⟩
  · obtain ⟨r, w', h, hp⟩ := kf (Classical.byContradiction hc)
    exact ⟨r, w', Ev.icmp_ne hi (fun g => absurd g hc) (fun _ => h), hp⟩
theorem Wp.if_ne {n : Int} {x : Int32} {len fa fb fc : Nat} (hi : cd[pc]? = some (.ifCond .ne n, len, fa, fb, fc)) (kt : ¬ x = 0 → Wp E d cd fa lv rs w P) (kf : x = 0 → Wp E d cd (pc + 3) lv rs w P) : Wp E d cd pc lv (.int x :: rs) w P := by
  by_cases hc : ¬ x = 0
  · obtain ⟨r, w', h, hp⟩ := kt hc
    exact ⟨r, w', Ev.if_ne hi (fun _ => h) (fun g => absurd g hc), hp⟩
  · obtain ⟨r, w', h, hp⟩ := kf (Classical.byContradiction hc)
    exact ⟨r, w', Ev.if_ne hi (fun g => absurd g hc) (fun _ => h), hp⟩
theorem Wp.icmp_lt {n : Int} {x y : Int32} {len fa fb fc : Nat} (hi : cd[pc]? = some (.if_icmp .lt n, len, fa, fb, fc)) (kt : x < y → Wp E d cd fa lv rs w P) (kf : ¬ x < y → Wp E d cd (pc + 3) lv rs w P) : Wp E d cd pc lv (.int y :: .int x :: rs) w P := by
  by_cases hc : x < y
  · obtain ⟨r, w', h, hp⟩ := kt hc
    exact ⟨r, w', Ev.icmp_lt hi (fun _ => h) (fun g => absurd hc g), hp⟩
  · obtain ⟨r, w', h, hp⟩ := kf hc
    exact ⟨r, w', Ev.icmp_lt hi (fun g => absurd g hc) (fun _ => h), hp⟩
theorem Wp.if_lt {n : Int} {x : Int32} {len fa fb fc : Nat} (hi : cd[pc]? = some (.ifCond .lt n, len, fa, fb, fc)) (kt : x < 0 → Wp E d cd fa lv rs w P) (kf : ¬ x < 0 → Wp E d cd (pc + 3) lv rs w P) : Wp E d cd pc lv (.int x :: rs) w P := by
  by_cases hc : x < 0
  · obtain ⟨r, w', h, hp⟩ := kt hc
    exact ⟨r, w', Ev.if_lt hi (fun _ => h) (fun g => absurd hc g), hp⟩
  · obtain ⟨r, w', h, hp⟩ := kf hc
    exact ⟨r, w', Ev.if_lt hi (fun g => absurd g hc) (fun _ => h), hp⟩
theorem Wp.icmp_ge {n : Int} {x y : Int32} {len fa fb fc : Nat} (hi : cd[pc]? = some (.if_icmp .ge n, len, fa, fb, fc)) (kt : y ≤ x → Wp E d cd fa lv rs w P) (kf : ¬ y ≤ x → Wp E d cd (pc + 3) lv rs w P) : Wp E d cd pc lv (.int y :: .int x :: rs) w P := by
  by_cases hc : y ≤ x
  · obtain ⟨r, w', h, hp⟩ := kt hc
    exact ⟨r, w', Ev.icmp_ge hi (fun _ => h) (fun g => absurd hc g), hp⟩
  · obtain ⟨r, w', h, hp⟩ := kf hc
    exact ⟨r, w', Ev.icmp_ge hi (fun g => absurd g hc) (fun _ => h), hp⟩
theorem Wp.if_ge {n : Int} {x : Int32} {len fa fb fc : Nat} (hi : cd[pc]? = some (.ifCond .ge n, len, fa, fb, fc)) (kt : 0 ≤ x → Wp E d cd fa lv rs w P) (kf : ¬ 0 ≤ x → Wp E d cd (pc + 3) lv rs w P) : Wp E d cd pc lv (.int x :: rs) w P := by
  by_cases hc : 0 ≤ x
  · obtain ⟨r, w', h, hp⟩ := kt hc
    exact ⟨r, w', Ev.if_ge hi (fun _ => h) (fun g => absurd hc g), hp⟩
  · obtain ⟨r, w', h, hp⟩ := kf hc
    exact ⟨r, w', Ev.if_ge hi (fun g => absurd g hc) (fun _ => h), hp⟩
theorem Wp.icmp_gt {n : Int} {x y : Int32} {len fa fb fc : Nat} (hi : cd[pc]? = some (.if_icmp .gt n, len, fa, fb, fc)) (kt : y < x → Wp E d cd fa lv rs w P) (kf : ¬ y < x → Wp E d cd (pc + 3) lv rs w P) : Wp E d cd pc lv (.int y :: .int x :: rs) w P := by
  by_cases hc : y < x
  · obtain ⟨r, w', h, hp⟩ := kt hc
    exact ⟨r, w', Ev.icmp_gt hi (fun _ => h) (fun g => absurd hc g), hp⟩
  · obtain ⟨r, w', h, hp⟩ := kf hc
    exact ⟨r, w', Ev.icmp_gt hi (fun g => absurd g hc) (fun _ => h), hp⟩
theorem Wp.if_gt {n : Int} {x : Int32} {len fa fb fc : Nat} (hi : cd[pc]? = some (.ifCond .gt n, len, fa, fb, fc)) (kt : 0 < x → Wp E d cd fa lv rs w P) (kf : ¬ 0 < x → Wp E d cd (pc + 3) lv rs w P) : Wp E d cd pc lv (.int x :: rs) w P := by
  by_cases hc : 0 < x
  · obtain ⟨r, w', h, hp⟩ := kt hc
    exact ⟨r, w', Ev.if_gt hi (fun _ => h) (fun g => absurd hc g), hp⟩
  · obtain ⟨r, w', h, hp⟩ := kf hc
    exact ⟨r, w', Ev.if_gt hi (fun g => absurd g hc) (fun _ => h), hp⟩
theorem Wp.icmp_le {n : Int} {x y : Int32} {len fa fb fc : Nat} (hi : cd[pc]? = some (.if_icmp .le n, len, fa, fb, fc)) (kt : x ≤ y → Wp E d cd fa lv rs w P) (kf : ¬ x ≤ y → Wp E d cd (pc + 3) lv rs w P) : Wp E d cd pc lv (.int y :: .int x :: rs) w P := by
  by_cases hc : x ≤ y
  · obtain ⟨r, w', h, hp⟩ := kt hc
    exact ⟨r, w', Ev.icmp_le hi (fun _ => h) (fun g => absurd hc g), hp⟩
  · obtain ⟨r, w', h, hp⟩ := kf hc
    exact ⟨r, w', Ev.icmp_le hi (fun g => absurd g hc) (fun _ => h), hp⟩
theorem Wp.if_le {n : Int} {x : Int32} {len fa fb fc : Nat} (hi : cd[pc]? = some (.ifCond .le n, len, fa, fb, fc)) (kt : x ≤ 0 → Wp E d cd fa lv rs w P) (kf : ¬ x ≤ 0 → Wp E d cd (pc + 3) lv rs w P) : Wp E d cd pc lv (.int x :: rs) w P := by
  by_cases hc : x ≤ 0
  · obtain ⟨r, w', h, hp⟩ := kt hc
    exact ⟨r, w', Ev.if_le hi (fun _ => h) (fun g => absurd hc g), hp⟩
  · obtain ⟨r, w', h, hp⟩ := kf hc
    exact ⟨r, w', Ev.if_le hi (fun g => absurd g hc) (fun _ => h), hp⟩
theorem Wp.iald {a n : Nat} {i : Int32} {len fa fb fc : Nat} (hi : cd[pc]? = some (.iaload, len, fa, fb, fc)) (hr : a < zEX) (hs : w.1[a]? = some (0, n)) (hin : vp_in i n) (h : Wp E d cd (pc + 1) lv (.int (w.2.1 a i.toNatClampNeg) :: rs) w P) : Wp E d cd pc lv (.int i :: .ref a :: rs) w P := by
  obtain ⟨r, w', h, hp⟩ := h
  exact ⟨r, w', Ev.iald hi hr hs hin h, hp⟩
theorem Wp.ialn {a n j : Nat} {len fa fb fc : Nat} (hi : cd[pc]? = some (.iaload, len, fa, fb, fc)) (hr : a < zEX) (hs : w.1[a]? = some (0, n)) (hj : j < n) (hn : n < 2 ^ 31) (h : Wp E d cd (pc + 1) lv (.int (w.2.1 a j) :: rs) w P) : Wp E d cd pc lv (.int (nI j) :: .ref a :: rs) w P := by
  obtain ⟨r, w', h, hp⟩ := h
  exact ⟨r, w', Ev.ialn hi hr hs hj hn h, hp⟩
theorem Wp.iast {a n : Nat} {i v : Int32} {len fa fb fc : Nat} (hi : cd[pc]? = some (.iastore, len, fa, fb, fc)) (hr : a < zEX) (hs : w.1[a]? = some (0, n)) (hin : vp_in i n) (h : Wp E d cd (pc + 1) lv rs (w.1, zup w.2.1 a i.toNatClampNeg v, w.2.2.1, w.2.2.2) P) : Wp E d cd pc lv (.int v :: .int i :: .ref a :: rs) w P := by
  obtain ⟨r, w', h, hp⟩ := h
  exact ⟨r, w', Ev.iast hi hr hs hin h, hp⟩
theorem Wp.iasn {a n j : Nat} {v : Int32} {len fa fb fc : Nat} (hi : cd[pc]? = some (.iastore, len, fa, fb, fc)) (hr : a < zEX) (hs : w.1[a]? = some (0, n)) (hj : j < n) (hn : n < 2 ^ 31) (h : Wp E d cd (pc + 1) lv rs (w.1, zup w.2.1 a j v, w.2.2.1, w.2.2.2) P) : Wp E d cd pc lv (.int v :: .int (nI j) :: .ref a :: rs) w P := by
  obtain ⟨r, w', h, hp⟩ := h
  exact ⟨r, w', Ev.iasn hi hr hs hj hn h, hp⟩
theorem Wp.cald {a n : Nat} {i : Int32} {len fa fb fc : Nat} (hi : cd[pc]? = some (.caload, len, fa, fb, fc)) (hr : a < zEX) (hs : w.1[a]? = some (2, n)) (hin : vp_in i n) (h : Wp E d cd (pc + 1) lv (.int (w.2.1 a i.toNatClampNeg) :: rs) w P) : Wp E d cd pc lv (.int i :: .ref a :: rs) w P := by
  obtain ⟨r, w', h, hp⟩ := h
  exact ⟨r, w', Ev.cald hi hr hs hin h, hp⟩
theorem Wp.lald {a n : Nat} {i : Int32} {len fa fb fc : Nat} (hi : cd[pc]? = some (.laload, len, fa, fb, fc)) (hr : a < zEX) (hs : w.1[a]? = some (1, n)) (hin : vp_in i n) (h : Wp E d cd (pc + 1) lv (.long (w.2.2.1 a i.toNatClampNeg) :: rs) w P) : Wp E d cd pc lv (.int i :: .ref a :: rs) w P := by
  obtain ⟨r, w', h, hp⟩ := h
  exact ⟨r, w', Ev.lald hi hr hs hin h, hp⟩
theorem Wp.last {a n : Nat} {i : Int32} {v : Int64} {len fa fb fc : Nat} (hi : cd[pc]? = some (.lastore, len, fa, fb, fc)) (hr : a < zEX) (hs : w.1[a]? = some (1, n)) (hin : vp_in i n) (h : Wp E d cd (pc + 1) lv rs (w.1, w.2.1, zup w.2.2.1 a i.toNatClampNeg v, w.2.2.2) P) : Wp E d cd pc lv (.long v :: .int i :: .ref a :: rs) w P := by
  obtain ⟨r, w', h, hp⟩ := h
  exact ⟨r, w', Ev.last hi hr hs hin h, hp⟩
theorem Wp.aald {a n v : Nat} {i : Int32} {len fa fb fc : Nat} (hi : cd[pc]? = some (.aaload, len, fa, fb, fc)) (hr : a < zEX) (hs : w.1[a]? = some (3, n)) (hin : vp_in i n) (hv : w.2.2.2 a i.toNatClampNeg = some v) (hvx : v < zEX) (h : Wp E d cd (pc + 1) lv (.ref v :: rs) w P) : Wp E d cd pc lv (.int i :: .ref a :: rs) w P := by
  obtain ⟨r, w', h, hp⟩ := h
  exact ⟨r, w', Ev.aald hi hr hs hin hv hvx h, hp⟩
theorem Wp.tsw {df lo hi9 : Int} {offs : Array Int} {len fa fb fc t : Nat} {x : Int32} {off : Int} (hi : cd[pc]? = some (.tableswitch df lo hi9 offs, len, fa, fb, fc)) (ho : zsw df lo hi9 offs x = some off) (ht : zbr pc off = some t) (h : Wp E d cd t lv rs w P) : Wp E d cd pc lv (.int x :: rs) w P := by
  obtain ⟨r, w', h, hp⟩ := h
  refine ⟨r, w', Ev.step (x := (t, lv, rs, w)) hi rfl ?_ h, hp⟩
  simp only [zstep, ho, ht]
theorem zsw_out {df lo hi9 : Int} {offs : Array Int} {x : Int32} (h : x.toInt < lo ∨ hi9 < x.toInt) : zsw df lo hi9 offs x = some df := by
  unfold zsw
  rw [if_pos h]
end WB
