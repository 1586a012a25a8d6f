/-! THE WEIGHING, walked -/
theorem Wp.alen {E : zEn} {d : Nat} {cd : List zI} {pc : Nat} {lv : zLv} {rs : List Value} {w : zW} {P : Option Value → zW → Prop} {len fa fb fc a t n : Nat} (hi : cd[pc]? = some (.arraylength, len, fa, fb, fc)) (ha : a < zEX) (hs : w.1[a]? = some (t, n)) (ht : t < 4) (h : Wp E d cd (pc + 1) lv (.int (nI n) :: rs) w P) : Wp E d cd pc lv (.ref a :: rs) w P := by
  obtain ⟨r, w', h, hp⟩ := h
  refine ⟨r, w', Ev.step (x := (pc + 1, lv, .int (nI n) :: rs, w)) hi rfl ?_ h, hp⟩
  have : zal E w a = some n := by
    unfold zal
    rw [if_pos ha, hs]
    show (if t < 4 then some n else none) = some n
    rw [if_pos ht]
  simp only [zstep, this]
  rfl
theorem wst_t {nm : Nat → Int32} {s : Int32} {a l1 s1 v1 : Nat} (h1 : l1 < 6) (h2 : s1 < 3) (h3 : v1 ≤ 99) : wst nm (s, a) (nI (300 * l1 + 100 * s1 + v1)) = (s, 2 * a + zbn (ztb nm l1 s1 v1)) := by
  have e : nI (300 * l1 + 100 * s1 + v1) < 2000 := by
    apply Int32.lt_iff_toInt_lt.mpr
    rw [nI_toInt (by omega), show (2000 : Int32).toInt = 2000 by decide]
    omega
  unfold wst
  rw [if_pos e, nI_clamp (by omega), show (300 * l1 + 100 * s1 + v1) / 300 = l1 by omega, show (300 * l1 + 100 * s1 + v1) % 300 / 100 = s1 by omega, show (300 * l1 + 100 * s1 + v1) % 100 = v1 by omega]
theorem pow63 {a c k : Nat} (h : a < 2 ^ (c + 1)) (hc : c + k ≤ 40) : a < 2 ^ 63 := Nat.lt_of_lt_of_le h (Nat.pow_le_pow_right (by decide) (by omega))
theorem c_weigh_l10 {E : zEn} {vs : List (Nat × Nat)} {mi : Nat → Nat → Int32} {ml : Nat → Nat → Int64} {g : Nat → Nat → Option Nat} {v u : Nat} {prog : List Int32} {nm : Nat → Int32} (hu : u < zEX) (hs : (zsh ++ vs)[u]? = some (0, prog.length)) (hpl : prog.length ≤ 100) (hpr : ∀ j, j < prog.length → mi u j = prog.getD j 0) (hnm : ∀ f, f < 6 → mi 10 f = nm f) : ∀ (ys xs : List Int32) (s : Int32) (a c : Nat), xs ++ ys = prog → a < 2 ^ (c + 1) → c + zct2 ys ≤ 40 → (∀ x, x ∈ ys → zvx x) → Wp E 1 pg_Village_weigh 18 [(7, .int (nI xs.length)), (6, .int (nI prog.length)), (5, .ref u), (3, .long (lN a)), (2, .int s), (0, .ref v), (1, .ref 10)] [] (zsh ++ vs, mi, ml, zmr g) (fun r w' => r = some (.int (wrn nm ys (s, a)).1) ∧ w' = (zsh ++ vs, mi, ml, zmr g)) := by
  intro ys
  induction ys with
  | nil =>
    intro xs s a c hxy ha hc hvx
    rw [List.append_nil] at hxy
    subst hxy
    refine Wp.run 2 (22, [(7, .int (nI xs.length)), (6, .int (nI xs.length)), (5, .ref u), (3, .long (lN a)), (2, .int s), (0, .ref v), (1, .ref 10)], [.int (nI xs.length), .int (nI xs.length)], (zsh ++ vs, mi, ml, (zmr g))) rfl ?_
    refine Wp.icmp_ge rfl (fun h1 => ?_) (fun h1 => ?_)
    · refine Wp.run 1 (196, [(7, .int (nI xs.length)), (6, .int (nI xs.length)), (5, .ref u), (3, .long (lN a)), (2, .int s), (0, .ref v), (1, .ref 10)], [.int s], (zsh ++ vs, mi, ml, (zmr g))) rfl ?_
      refine Wp.ret rfl rfl rfl ?_
      exact ⟨rfl, rfl⟩
    · exact absurd (Int32.le_refl _) h1
  | cons x ys ih =>
    intro xs s a c hxy ha hc hvx
    have hlen : prog.length = xs.length + (ys.length + 1) := by rw [← hxy, List.length_append]; rfl
    have hlt9 : xs.length < prog.length := by omega
    have hget : mi u xs.length = x := by
      rw [hpr _ hlt9, ← hxy, List.getD_eq_getElem?_getD, List.getElem?_append_right (Nat.le_refl _), Nat.sub_self]
      rfl
    have h63 : a < 2 ^ 63 := pow63 ha hc
    have hzx : c + (if x < 2000 then 1 else 0) + zct2 ys ≤ 40 := by rw [Nat.add_assoc]; exact hc
    have hb := wst_b (nm := nm) (s := (s, a)) (x := x) ha
    have hnx : (xs ++ [x]) ++ ys = prog := by rw [List.append_assoc]; exact hxy
    refine Wp.run 2 (22, [(7, .int (nI xs.length)), (6, .int (nI prog.length)), (5, .ref u), (3, .long (lN a)), (2, .int s), (0, .ref v), (1, .ref 10)], [.int (nI prog.length), .int (nI xs.length)], (zsh ++ vs, mi, ml, (zmr g))) rfl ?_
    refine Wp.icmp_ge rfl (fun h1 => ?_) (fun h1 => ?_)
    · exact absurd h1 (nI_ge hlt9 (by omega))
    · refine Wp.run 2 (29, [(7, .int (nI xs.length)), (6, .int (nI prog.length)), (5, .ref u), (3, .long (lN a)), (2, .int s), (0, .ref v), (1, .ref 10)], [.int (nI xs.length), .ref u], (zsh ++ vs, mi, ml, (zmr g))) rfl ?_
      refine Wp.ialn rfl hu hs hlt9 (by omega) ?_
      refine Wp.run 0 (30, [(7, .int (nI xs.length)), (6, .int (nI prog.length)), (5, .ref u), (3, .long (lN a)), (2, .int s), (0, .ref v), (1, .ref 10)], [.int (mi u xs.length)], (zsh ++ vs, mi, ml, (zmr g))) rfl ?_
      rw [hget]
      refine Wp.run 3 (37, [(8, .int x), (7, .int (nI xs.length)), (6, .int (nI prog.length)), (5, .ref u), (3, .long (lN a)), (2, .int s), (0, .ref v), (1, .ref 10)], [.int 2000, .int x], (zsh ++ vs, mi, ml, (zmr g))) rfl ?_
      refine Wp.icmp_ge rfl (fun h2 => ?_) (fun h2 => ?_)
      · refine Wp.run 2 (93, [(8, .int x), (7, .int (nI xs.length)), (6, .int (nI prog.length)), (5, .ref u), (3, .long (lN a)), (2, .int s), (0, .ref v), (1, .ref 10)], [.int 2000, .int x], (zsh ++ vs, mi, ml, (zmr g))) rfl ?_
        refine Wp.icmp_ne rfl (fun h3 => ?_) (fun h3 => ?_)
        · refine Wp.run 2 (108, [(8, .int x), (7, .int (nI xs.length)), (6, .int (nI prog.length)), (5, .ref u), (3, .long (lN a)), (2, .int s), (0, .ref v), (1, .ref 10)], [.int 2001, .int x], (zsh ++ vs, mi, ml, (zmr g))) rfl ?_
          refine Wp.icmp_ne rfl (fun h4 => ?_) (fun h4 => ?_)
          · refine Wp.run 2 (129, [(8, .int x), (7, .int (nI xs.length)), (6, .int (nI prog.length)), (5, .ref u), (3, .long (lN a)), (2, .int s), (0, .ref v), (1, .ref 10)], [.int 2002, .int x], (zsh ++ vs, mi, ml, (zmr g))) rfl ?_
            refine Wp.icmp_ne rfl (fun h5 => ?_) (fun h5 => ?_)
            · refine Wp.run 2 (148, [(8, .int x), (7, .int (nI xs.length)), (6, .int (nI prog.length)), (5, .ref u), (3, .long (lN a)), (2, .int s), (0, .ref v), (1, .ref 10)], [.int 4000, .int x], (zsh ++ vs, mi, ml, (zmr g))) rfl ?_
              refine Wp.icmp_lt rfl (fun h6 => ?_) (fun h6 => ?_)
              · refine Wp.run 10 (174, [(9, .int (x - 3000)), (8, .int x), (7, .int (nI xs.length)), (6, .int (nI prog.length)), (5, .ref u), (3, .long (lN a)), (2, .int s), (0, .ref v), (1, .ref 10)], [.int (lg_cmp ((lN a) &&& 1) 1), .int s], (zsh ++ vs, mi, ml, (zmr g))) rfl ?_
                refine Wp.if_ne rfl (fun h7 => ?_) (fun h7 => ?_)
                · refine Wp.run 9 (18, [(7, .int ((nI xs.length) + 1)), (3, .long (((lN a).toUInt64 >>> ((1 : Int32).toInt64.toUInt64 &&& Int64.toUInt64 63)).toInt64)), (2, .int (s + 0)), (9, .int (x - 3000)), (8, .int x), (6, .int (nI prog.length)), (5, .ref u), (0, .ref v), (1, .ref 10)], [], (zsh ++ vs, mi, ml, (zmr g))) rfl ?_
                  rw [l_half h63]
                  have ew : wst nm (s, a) x = (s + 0, a / 2) := by unfold wst; rw [if_neg (Int32.not_lt.mpr h2), if_neg h3, if_neg h4, if_neg h5, if_neg (Int32.not_le.mpr h6)]; show (s + (if a % 2 = 1 then x - 3000 else 0), a / 2) = _; rw [if_neg (fun q => h7 ((l_cmp a).mpr q))]
                  rw [ew] at hb
                  have e9 := ih (xs ++ [x]) (s + 0) (a / 2) _ hnx hb hzx (fun y hy => hvx y (List.mem_cons_of_mem _ hy))
                  rw [List.length_append] at e9
                  have ez : (wrn nm (x :: ys) (s, a)) = wrn nm ys (s + 0, a / 2) := by rw [wrn, ew]
                  rw [ez, nI_1]
                  refine Wp.sub (a := [(7, .int (nI (xs.length + 1))), (6, .int (nI prog.length)), (5, .ref u), (3, .long (lN (a / 2))), (2, .int (s + 0)), (0, .ref v), (1, .ref 10)]) (zle_cons rfl (zle_cons rfl (zle_cons rfl (zle_cons rfl (zle_cons rfl (zle_cons rfl (zle_cons rfl (zle_nil)))))))) ?_
                  exact e9
                · refine Wp.run 10 (18, [(7, .int ((nI xs.length) + 1)), (3, .long (((lN a).toUInt64 >>> ((1 : Int32).toInt64.toUInt64 &&& Int64.toUInt64 63)).toInt64)), (2, .int (s + (x - 3000))), (9, .int (x - 3000)), (8, .int x), (6, .int (nI prog.length)), (5, .ref u), (0, .ref v), (1, .ref 10)], [], (zsh ++ vs, mi, ml, (zmr g))) rfl ?_
                  rw [l_half h63]
                  have ew : wst nm (s, a) x = (s + (x - 3000), a / 2) := by unfold wst; rw [if_neg (Int32.not_lt.mpr h2), if_neg h3, if_neg h4, if_neg h5, if_neg (Int32.not_le.mpr h6)]; show (s + (if a % 2 = 1 then x - 3000 else 0), a / 2) = _; rw [if_pos ((l_cmp a).mp h7)]
                  rw [ew] at hb
                  have e9 := ih (xs ++ [x]) (s + (x - 3000)) (a / 2) _ hnx hb hzx (fun y hy => hvx y (List.mem_cons_of_mem _ hy))
                  rw [List.length_append] at e9
                  have ez : (wrn nm (x :: ys) (s, a)) = wrn nm ys (s + (x - 3000), a / 2) := by rw [wrn, ew]
                  rw [ez, nI_1]
                  refine Wp.sub (a := [(7, .int (nI (xs.length + 1))), (6, .int (nI prog.length)), (5, .ref u), (3, .long (lN (a / 2))), (2, .int (s + (x - 3000))), (0, .ref v), (1, .ref 10)]) (zle_cons rfl (zle_cons rfl (zle_cons rfl (zle_cons rfl (zle_cons rfl (zle_cons rfl (zle_cons rfl (zle_nil)))))))) ?_
                  exact e9
              · refine Wp.run 11 (174, [(9, .int (4000 - x)), (8, .int x), (7, .int (nI xs.length)), (6, .int (nI prog.length)), (5, .ref u), (3, .long (lN a)), (2, .int s), (0, .ref v), (1, .ref 10)], [.int (lg_cmp ((lN a) &&& 1) 1), .int s], (zsh ++ vs, mi, ml, (zmr g))) rfl ?_
                refine Wp.if_ne rfl (fun h8 => ?_) (fun h8 => ?_)
                · refine Wp.run 9 (18, [(7, .int ((nI xs.length) + 1)), (3, .long (((lN a).toUInt64 >>> ((1 : Int32).toInt64.toUInt64 &&& Int64.toUInt64 63)).toInt64)), (2, .int (s + 0)), (9, .int (4000 - x)), (8, .int x), (6, .int (nI prog.length)), (5, .ref u), (0, .ref v), (1, .ref 10)], [], (zsh ++ vs, mi, ml, (zmr g))) rfl ?_
                  rw [l_half h63]
                  have ew : wst nm (s, a) x = (s + 0, a / 2) := by unfold wst; rw [if_neg (Int32.not_lt.mpr h2), if_neg h3, if_neg h4, if_neg h5, if_pos (Int32.not_lt.mp h6)]; show (s + (if a % 2 = 1 then 4000 - x else 0), a / 2) = _; rw [if_neg (fun q => h8 ((l_cmp a).mpr q))]
                  rw [ew] at hb
                  have e9 := ih (xs ++ [x]) (s + 0) (a / 2) _ hnx hb hzx (fun y hy => hvx y (List.mem_cons_of_mem _ hy))
                  rw [List.length_append] at e9
                  have ez : (wrn nm (x :: ys) (s, a)) = wrn nm ys (s + 0, a / 2) := by rw [wrn, ew]
                  rw [ez, nI_1]
                  refine Wp.sub (a := [(7, .int (nI (xs.length + 1))), (6, .int (nI prog.length)), (5, .ref u), (3, .long (lN (a / 2))), (2, .int (s + 0)), (0, .ref v), (1, .ref 10)]) (zle_cons rfl (zle_cons rfl (zle_cons rfl (zle_cons rfl (zle_cons rfl (zle_cons rfl (zle_cons rfl (zle_nil)))))))) ?_
                  exact e9
                · refine Wp.run 10 (18, [(7, .int ((nI xs.length) + 1)), (3, .long (((lN a).toUInt64 >>> ((1 : Int32).toInt64.toUInt64 &&& Int64.toUInt64 63)).toInt64)), (2, .int (s + (4000 - x))), (9, .int (4000 - x)), (8, .int x), (6, .int (nI prog.length)), (5, .ref u), (0, .ref v), (1, .ref 10)], [], (zsh ++ vs, mi, ml, (zmr g))) rfl ?_
                  rw [l_half h63]
                  have ew : wst nm (s, a) x = (s + (4000 - x), a / 2) := by unfold wst; rw [if_neg (Int32.not_lt.mpr h2), if_neg h3, if_neg h4, if_neg h5, if_pos (Int32.not_lt.mp h6)]; show (s + (if a % 2 = 1 then 4000 - x else 0), a / 2) = _; rw [if_pos ((l_cmp a).mp h8)]
                  rw [ew] at hb
                  have e9 := ih (xs ++ [x]) (s + (4000 - x)) (a / 2) _ hnx hb hzx (fun y hy => hvx y (List.mem_cons_of_mem _ hy))
                  rw [List.length_append] at e9
                  have ez : (wrn nm (x :: ys) (s, a)) = wrn nm ys (s + (4000 - x), a / 2) := by rw [wrn, ew]
                  rw [ez, nI_1]
                  refine Wp.sub (a := [(7, .int (nI (xs.length + 1))), (6, .int (nI prog.length)), (5, .ref u), (3, .long (lN (a / 2))), (2, .int (s + (4000 - x))), (0, .ref v), (1, .ref 10)]) (zle_cons rfl (zle_cons rfl (zle_cons rfl (zle_cons rfl (zle_cons rfl (zle_cons rfl (zle_cons rfl (zle_nil)))))))) ?_
                  exact e9
            · refine Wp.run 11 (18, [(7, .int ((nI xs.length) + 1)), (3, .long ((((lN a).toUInt64 >>> ((1 : Int32).toInt64.toUInt64 &&& Int64.toUInt64 63)).toInt64) ||| ((lN a) &&& 1))), (8, .int x), (6, .int (nI prog.length)), (5, .ref u), (2, .int s), (0, .ref v), (1, .ref 10)], [], (zsh ++ vs, mi, ml, (zmr g))) rfl ?_
              rw [l_or h63]
              have ew : wst nm (s, a) x = (s, if a % 2 = 1 then a / 2 / 2 * 2 + 1 else a / 2) := by unfold wst; rw [if_neg (Int32.not_lt.mpr h2), if_neg h3, if_neg h4, if_pos h5]
              rw [ew] at hb
              have e9 := ih (xs ++ [x]) s (if a % 2 = 1 then a / 2 / 2 * 2 + 1 else a / 2) _ hnx hb hzx (fun y hy => hvx y (List.mem_cons_of_mem _ hy))
              rw [List.length_append] at e9
              have ez : (wrn nm (x :: ys) (s, a)) = wrn nm ys (s, if a % 2 = 1 then a / 2 / 2 * 2 + 1 else a / 2) := by rw [wrn, ew]
              rw [ez, nI_1]
              refine Wp.sub (a := [(7, .int (nI (xs.length + 1))), (6, .int (nI prog.length)), (5, .ref u), (3, .long (lN (if a % 2 = 1 then a / 2 / 2 * 2 + 1 else a / 2))), (2, .int s), (0, .ref v), (1, .ref 10)]) (zle_cons rfl (zle_cons rfl (zle_cons rfl (zle_cons rfl (zle_cons rfl (zle_cons rfl (zle_cons rfl (zle_nil)))))))) ?_
              exact e9
          · refine Wp.run 11 (18, [(7, .int ((nI xs.length) + 1)), (3, .long ((((lN a).toUInt64 >>> ((1 : Int32).toInt64.toUInt64 &&& Int64.toUInt64 63)).toInt64) &&& ((lN a) ||| (Int64.ofNat 18446744073709551614)))), (8, .int x), (6, .int (nI prog.length)), (5, .ref u), (2, .int s), (0, .ref v), (1, .ref 10)], [], (zsh ++ vs, mi, ml, (zmr g))) rfl ?_
            rw [l_and h63]
            have ew : wst nm (s, a) x = (s, if a % 2 = 1 then a / 2 else a / 2 / 2 * 2) := by unfold wst; rw [if_neg (Int32.not_lt.mpr h2), if_neg h3, if_pos h4]
            rw [ew] at hb
            have e9 := ih (xs ++ [x]) s (if a % 2 = 1 then a / 2 else a / 2 / 2 * 2) _ hnx hb hzx (fun y hy => hvx y (List.mem_cons_of_mem _ hy))
            rw [List.length_append] at e9
            have ez : (wrn nm (x :: ys) (s, a)) = wrn nm ys (s, if a % 2 = 1 then a / 2 else a / 2 / 2 * 2) := by rw [wrn, ew]
            rw [ez, nI_1]
            refine Wp.sub (a := [(7, .int (nI (xs.length + 1))), (6, .int (nI prog.length)), (5, .ref u), (3, .long (lN (if a % 2 = 1 then a / 2 else a / 2 / 2 * 2))), (2, .int s), (0, .ref v), (1, .ref 10)]) (zle_cons rfl (zle_cons rfl (zle_cons rfl (zle_cons rfl (zle_cons rfl (zle_cons rfl (zle_cons rfl (zle_nil)))))))) ?_
            exact e9
        · refine Wp.run 7 (18, [(7, .int ((nI xs.length) + 1)), (3, .long ((lN a) ^^^ 1)), (8, .int x), (6, .int (nI prog.length)), (5, .ref u), (2, .int s), (0, .ref v), (1, .ref 10)], [], (zsh ++ vs, mi, ml, (zmr g))) rfl ?_
          rw [l_not]
          have ew : wst nm (s, a) x = (s, if a % 2 = 0 then a + 1 else a - 1) := by unfold wst; rw [if_neg (Int32.not_lt.mpr h2), if_pos h3]
          rw [ew] at hb
          have e9 := ih (xs ++ [x]) s (if a % 2 = 0 then a + 1 else a - 1) _ hnx hb hzx (fun y hy => hvx y (List.mem_cons_of_mem _ hy))
          rw [List.length_append] at e9
          have ez : (wrn nm (x :: ys) (s, a)) = wrn nm ys (s, if a % 2 = 0 then a + 1 else a - 1) := by rw [wrn, ew]
          rw [ez, nI_1]
          refine Wp.sub (a := [(7, .int (nI (xs.length + 1))), (6, .int (nI prog.length)), (5, .ref u), (3, .long (lN (if a % 2 = 0 then a + 1 else a - 1))), (2, .int s), (0, .ref v), (1, .ref 10)]) (zle_cons rfl (zle_cons rfl (zle_cons rfl (zle_cons rfl (zle_cons rfl (zle_cons rfl (zle_cons rfl (zle_nil)))))))) ?_
          exact e9
      · have hx2 : x < 2000 := Int32.not_le.mp h2
        obtain ⟨l1, s1, v1, h91, h92, h93, hx⟩ := (hvx x List.mem_cons_self).resolve_right (fun q => q hx2)
        refine Wp.run 4 (47, [(8, .int x), (7, .int (nI xs.length)), (6, .int (nI prog.length)), (5, .ref u), (3, .long (lN a)), (2, .int s), (0, .ref v), (1, .ref 10)], [.int (x / 300), .ref 10], (zsh ++ vs, mi, ml, (zmr g))) rfl ?_
        rw [show x / 300 = nI l1 from by rw [hx]; exact (stx h91 h92 h93).1]
        refine Wp.ialn rfl (by decide) rfl h91 (by decide) ?_
        refine Wp.run 3 (53, [(8, .int x), (7, .int (nI xs.length)), (6, .int (nI prog.length)), (5, .ref u), (3, .long (lN a)), (2, .int s), (0, .ref v), (1, .ref 10)], [.int (x - x / 100 * 100), .int (mi 10 l1)], (zsh ++ vs, mi, ml, (zmr g))) rfl ?_
        rw [show x - x / 100 * 100 = nI v1 from by rw [hx]; exact (stx h91 h92 h93).2.1, hnm l1 h91]
        refine Wp.run 0 (53, [(8, .int x), (7, .int (nI xs.length)), (6, .int (nI prog.length)), (5, .ref u), (3, .long (lN a)), (2, .int s), (0, .ref v), (1, .ref 10)], [.int (nI v1), .int (nm l1)], (zsh ++ vs, mi, ml, (zmr g))) rfl ?_
        refine Wp.call (as := [.int (nm l1), .int (nI v1)]) (rest := []) rfl rfl rfl rfl rfl (Nat.le_of_ble_eq_true rfl) (Nat.le_of_ble_eq_true rfl) rfl (by decide) (c_compare (nm l1) (nI v1)) ?_
        rintro _ _ ⟨rfl, rfl⟩
        refine Wp.run 12 (74, [(9, .int (if nm l1 < nI v1 then -1 else if nm l1 = nI v1 then 0 else 1)), (8, .int x), (7, .int (nI xs.length)), (6, .int (nI prog.length)), (5, .ref u), (3, .long (lN a)), (2, .int s), (0, .ref v), (1, .ref 10)], [.int ((x - x / 300 * 300) / 100), .int ((if nm l1 < nI v1 then -1 else if nm l1 = nI v1 then 0 else 1) + 1), .long ((lN a) <<< ((1 : Int32).toInt64 &&& 63))], (zsh ++ vs, mi, ml, (zmr g))) rfl ?_
        rw [show (x - x / 300 * 300) / 100 = nI s1 from by rw [hx]; exact (stx h91 h92 h93).2.2]
        refine Wp.run 0 (74, [(9, .int (if nm l1 < nI v1 then -1 else if nm l1 = nI v1 then 0 else 1)), (8, .int x), (7, .int (nI xs.length)), (6, .int (nI prog.length)), (5, .ref u), (3, .long (lN a)), (2, .int s), (0, .ref v), (1, .ref 10)], [.int (nI s1), .int ((if nm l1 < nI v1 then -1 else if nm l1 = nI v1 then 0 else 1) + 1), .long ((lN a) <<< ((1 : Int32).toInt64 &&& 63))], (zsh ++ vs, mi, ml, (zmr g))) rfl ?_
        refine Wp.icmp_ne rfl (fun h9 => ?_) (fun h9 => ?_)
        · refine Wp.run 7 (18, [(7, .int ((nI xs.length) + 1)), (3, .long (((lN a) <<< ((1 : Int32).toInt64 &&& 63)) ||| ((0 : Int32).toInt64))), (9, .int (if nm l1 < nI v1 then -1 else if nm l1 = nI v1 then 0 else 1)), (8, .int x), (6, .int (nI prog.length)), (5, .ref u), (2, .int s), (0, .ref v), (1, .ref 10)], [], (zsh ++ vs, mi, ml, (zmr g))) rfl ?_
          have zt : ztb nm l1 s1 v1 = false := Bool.eq_false_iff.mpr (fun q => h9 ((cmp3 h92).mpr q))
          rw [l_push0]
          have ew : wst nm (s, a) x = (s, 2 * a + 0) := by rw [hx, wst_t h91 h92 h93, zt]; rfl
          rw [ew] at hb
          have e9 := ih (xs ++ [x]) s (2 * a + 0) _ hnx hb hzx (fun y hy => hvx y (List.mem_cons_of_mem _ hy))
          rw [List.length_append] at e9
          have ez : (wrn nm (x :: ys) (s, a)) = wrn nm ys (s, 2 * a + 0) := by rw [wrn, ew]
          rw [ez, nI_1]
          refine Wp.sub (a := [(7, .int (nI (xs.length + 1))), (6, .int (nI prog.length)), (5, .ref u), (3, .long (lN (2 * a + 0))), (2, .int s), (0, .ref v), (1, .ref 10)]) (zle_cons rfl (zle_cons rfl (zle_cons rfl (zle_cons rfl (zle_cons rfl (zle_cons rfl (zle_cons rfl (zle_nil)))))))) ?_
          exact e9
        · refine Wp.run 8 (18, [(7, .int ((nI xs.length) + 1)), (3, .long (((lN a) <<< ((1 : Int32).toInt64 &&& 63)) ||| ((1 : Int32).toInt64))), (9, .int (if nm l1 < nI v1 then -1 else if nm l1 = nI v1 then 0 else 1)), (8, .int x), (6, .int (nI prog.length)), (5, .ref u), (2, .int s), (0, .ref v), (1, .ref 10)], [], (zsh ++ vs, mi, ml, (zmr g))) rfl ?_
          have zt : ztb nm l1 s1 v1 = true := (cmp3 h92).mp h9
          rw [l_push1]
          have ew : wst nm (s, a) x = (s, 2 * a + 1) := by rw [hx, wst_t h91 h92 h93, zt]; rfl
          rw [ew] at hb
          have e9 := ih (xs ++ [x]) s (2 * a + 1) _ hnx hb hzx (fun y hy => hvx y (List.mem_cons_of_mem _ hy))
          rw [List.length_append] at e9
          have ez : (wrn nm (x :: ys) (s, a)) = wrn nm ys (s, 2 * a + 1) := by rw [wrn, ew]
          rw [ez, nI_1]
          refine Wp.sub (a := [(7, .int (nI (xs.length + 1))), (6, .int (nI prog.length)), (5, .ref u), (3, .long (lN (2 * a + 1))), (2, .int s), (0, .ref v), (1, .ref 10)]) (zle_cons rfl (zle_cons rfl (zle_cons rfl (zle_cons rfl (zle_cons rfl (zle_cons rfl (zle_cons rfl (zle_nil)))))))) ?_
          exact e9
theorem c_weigh_10 {E : zEn} {vs : List (Nat × Nat)} {mi : Nat → Nat → Int32} {ml : Nat → Nat → Int64} {g : Nat → Nat → Option Nat} {v u : Nat} {prog : List Int32} {nm : Nat → Int32} (hu : u < zEX) (hs : (zsh ++ vs)[u]? = some (0, prog.length)) (hpl : prog.length ≤ 100) (hpr : ∀ j, j < prog.length → mi u j = prog.getD j 0) (hnm : ∀ f, f < 6 → mi 10 f = nm f) (hv : vOK vs g v) (hgu : g v 0 = some u) (h86 : 86 ≤ v) (hct : zct2 prog ≤ 40) (hvx : ∀ x, x ∈ prog → zvx x) : Wp E 1 pg_Village_weigh 0 (lv_args 0 [.ref v, .ref 10]) [] (zsh ++ vs, mi, ml, zmr g) (fun r w' => r = some (.int (wrn nm prog (0, 0)).1) ∧ w' = (zsh ++ vs, mi, ml, zmr g)) := by
  refine Wp.run 5 (5, [(3, .long 0), (2, .int 0), (0, .ref v), (1, .ref 10)], [.ref v], (zsh ++ vs, mi, ml, (zmr g))) rfl ?_
  refine Wp.gref rfl (by rw [hv.ob]; rfl) rfl (show zmr g v 0 = some u by rw [zmr_hi h86]; exact hgu) ?_
  refine Wp.run 2 (12, [(5, .ref u), (3, .long 0), (2, .int 0), (0, .ref v), (1, .ref 10)], [.ref u], (zsh ++ vs, mi, ml, (zmr g))) rfl ?_
  refine Wp.alen rfl hu hs (by decide) ?_
  refine Wp.run 3 (18, [(7, .int 0), (6, .int (nI prog.length)), (5, .ref u), (3, .long 0), (2, .int 0), (0, .ref v), (1, .ref 10)], [], (zsh ++ vs, mi, ml, (zmr g))) rfl ?_
  refine Wp.sub (a := [(7, .int (nI 0)), (6, .int (nI prog.length)), (5, .ref u), (3, .long (lN 0)), (2, .int 0), (0, .ref v), (1, .ref 10)]) (zle_cons rfl (zle_cons rfl (zle_cons rfl (zle_cons rfl (zle_cons rfl (zle_cons rfl (zle_cons rfl (zle_nil)))))))) ?_
  exact c_weigh_l10 hu hs hpl hpr hnm prog [] 0 0 0 rfl (by decide) (by rw [Nat.zero_add]; exact hct) hvx
theorem c_weigh_l47 {E : zEn} {vs : List (Nat × Nat)} {mi : Nat → Nat → Int32} {ml : Nat → Nat → Int64} {g : Nat → Nat → Option Nat} {v u : Nat} {prog : List Int32} {nm : Nat → Int32} (hu : u < zEX) (hs : (zsh ++ vs)[u]? = some (0, prog.length)) (hpl : prog.length ≤ 100) (hpr : ∀ j, j < prog.length → mi u j = prog.getD j 0) (hnm : ∀ f, f < 6 → mi 47 f = nm f) : ∀ (ys xs : List Int32) (s : Int32) (a c : Nat), xs ++ ys = prog → a < 2 ^ (c + 1) → c + zct2 ys ≤ 40 → (∀ x, x ∈ ys → zvx x) → Wp E 1 pg_Village_weigh 18 [(7, .int (nI xs.length)), (6, .int (nI prog.length)), (5, .ref u), (3, .long (lN a)), (2, .int s), (0, .ref v), (1, .ref 47)] [] (zsh ++ vs, mi, ml, zmr g) (fun r w' => r = some (.int (wrn nm ys (s, a)).1) ∧ w' = (zsh ++ vs, mi, ml, zmr g)) := by
  intro ys
  induction ys with
  | nil =>
    intro xs s a c hxy ha hc hvx
    rw [List.append_nil] at hxy
    subst hxy
    refine Wp.run 2 (22, [(7, .int (nI xs.length)), (6, .int (nI xs.length)), (5, .ref u), (3, .long (lN a)), (2, .int s), (0, .ref v), (1, .ref 47)], [.int (nI xs.length), .int (nI xs.length)], (zsh ++ vs, mi, ml, (zmr g))) rfl ?_
    refine Wp.icmp_ge rfl (fun h1 => ?_) (fun h1 => ?_)
    · refine Wp.run 1 (196, [(7, .int (nI xs.length)), (6, .int (nI xs.length)), (5, .ref u), (3, .long (lN a)), (2, .int s), (0, .ref v), (1, .ref 47)], [.int s], (zsh ++ vs, mi, ml, (zmr g))) rfl ?_
      refine Wp.ret rfl rfl rfl ?_
      exact ⟨rfl, rfl⟩
    · exact absurd (Int32.le_refl _) h1
  | cons x ys ih =>
    intro xs s a c hxy ha hc hvx
    have hlen : prog.length = xs.length + (ys.length + 1) := by rw [← hxy, List.length_append]; rfl
    have hlt9 : xs.length < prog.length := by omega
    have hget : mi u xs.length = x := by
      rw [hpr _ hlt9, ← hxy, List.getD_eq_getElem?_getD, List.getElem?_append_right (Nat.le_refl _), Nat.sub_self]
      rfl
    have h63 : a < 2 ^ 63 := pow63 ha hc
    have hzx : c + (if x < 2000 then 1 else 0) + zct2 ys ≤ 40 := by rw [Nat.add_assoc]; exact hc
    have hb := wst_b (nm := nm) (s := (s, a)) (x := x) ha
    have hnx : (xs ++ [x]) ++ ys = prog := by rw [List.append_assoc]; exact hxy
    refine Wp.run 2 (22, [(7, .int (nI xs.length)), (6, .int (nI prog.length)), (5, .ref u), (3, .long (lN a)), (2, .int s), (0, .ref v), (1, .ref 47)], [.int (nI prog.length), .int (nI xs.length)], (zsh ++ vs, mi, ml, (zmr g))) rfl ?_
    refine Wp.icmp_ge rfl (fun h1 => ?_) (fun h1 => ?_)
    · exact absurd h1 (nI_ge hlt9 (by omega))
    · refine Wp.run 2 (29, [(7, .int (nI xs.length)), (6, .int (nI prog.length)), (5, .ref u), (3, .long (lN a)), (2, .int s), (0, .ref v), (1, .ref 47)], [.int (nI xs.length), .ref u], (zsh ++ vs, mi, ml, (zmr g))) rfl ?_
      refine Wp.ialn rfl hu hs hlt9 (by omega) ?_
      refine Wp.run 0 (30, [(7, .int (nI xs.length)), (6, .int (nI prog.length)), (5, .ref u), (3, .long (lN a)), (2, .int s), (0, .ref v), (1, .ref 47)], [.int (mi u xs.length)], (zsh ++ vs, mi, ml, (zmr g))) rfl ?_
      rw [hget]
      refine Wp.run 3 (37, [(8, .int x), (7, .int (nI xs.length)), (6, .int (nI prog.length)), (5, .ref u), (3, .long (lN a)), (2, .int s), (0, .ref v), (1, .ref 47)], [.int 2000, .int x], (zsh ++ vs, mi, ml, (zmr g))) rfl ?_
      refine Wp.icmp_ge rfl (fun h2 => ?_) (fun h2 => ?_)
      · refine Wp.run 2 (93, [(8, .int x), (7, .int (nI xs.length)), (6, .int (nI prog.length)), (5, .ref u), (3, .long (lN a)), (2, .int s), (0, .ref v), (1, .ref 47)], [.int 2000, .int x], (zsh ++ vs, mi, ml, (zmr g))) rfl ?_
        refine Wp.icmp_ne rfl (fun h3 => ?_) (fun h3 => ?_)
        · refine Wp.run 2 (108, [(8, .int x), (7, .int (nI xs.length)), (6, .int (nI prog.length)), (5, .ref u), (3, .long (lN a)), (2, .int s), (0, .ref v), (1, .ref 47)], [.int 2001, .int x], (zsh ++ vs, mi, ml, (zmr g))) rfl ?_
          refine Wp.icmp_ne rfl (fun h4 => ?_) (fun h4 => ?_)
          · refine Wp.run 2 (129, [(8, .int x), (7, .int (nI xs.length)), (6, .int (nI prog.length)), (5, .ref u), (3, .long (lN a)), (2, .int s), (0, .ref v), (1, .ref 47)], [.int 2002, .int x], (zsh ++ vs, mi, ml, (zmr g))) rfl ?_
            refine Wp.icmp_ne rfl (fun h5 => ?_) (fun h5 => ?_)
            · refine Wp.run 2 (148, [(8, .int x), (7, .int (nI xs.length)), (6, .int (nI prog.length)), (5, .ref u), (3, .long (lN a)), (2, .int s), (0, .ref v), (1, .ref 47)], [.int 4000, .int x], (zsh ++ vs, mi, ml, (zmr g))) rfl ?_
              refine Wp.icmp_lt rfl (fun h6 => ?_) (fun h6 => ?_)
              · refine Wp.run 10 (174, [(9, .int (x - 3000)), (8, .int x), (7, .int (nI xs.length)), (6, .int (nI prog.length)), (5, .ref u), (3, .long (lN a)), (2, .int s), (0, .ref v), (1, .ref 47)], [.int (lg_cmp ((lN a) &&& 1) 1), .int s], (zsh ++ vs, mi, ml, (zmr g))) rfl ?_
                refine Wp.if_ne rfl (fun h7 => ?_) (fun h7 => ?_)
                · refine Wp.run 9 (18, [(7, .int ((nI xs.length) + 1)), (3, .long (((lN a).toUInt64 >>> ((1 : Int32).toInt64.toUInt64 &&& Int64.toUInt64 63)).toInt64)), (2, .int (s + 0)), (9, .int (x - 3000)), (8, .int x), (6, .int (nI prog.length)), (5, .ref u), (0, .ref v), (1, .ref 47)], [], (zsh ++ vs, mi, ml, (zmr g))) rfl ?_
                  rw [l_half h63]
                  have ew : wst nm (s, a) x = (s + 0, a / 2) := by unfold wst; rw [if_neg (Int32.not_lt.mpr h2), if_neg h3, if_neg h4, if_neg h5, if_neg (Int32.not_le.mpr h6)]; show (s + (if a % 2 = 1 then x - 3000 else 0), a / 2) = _; rw [if_neg (fun q => h7 ((l_cmp a).mpr q))]
                  rw [ew] at hb
                  have e9 := ih (xs ++ [x]) (s + 0) (a / 2) _ hnx hb hzx (fun y hy => hvx y (List.mem_cons_of_mem _ hy))
                  rw [List.length_append] at e9
                  have ez : (wrn nm (x :: ys) (s, a)) = wrn nm ys (s + 0, a / 2) := by rw [wrn, ew]
                  rw [ez, nI_1]
                  refine Wp.sub (a := [(7, .int (nI (xs.length + 1))), (6, .int (nI prog.length)), (5, .ref u), (3, .long (lN (a / 2))), (2, .int (s + 0)), (0, .ref v), (1, .ref 47)]) (zle_cons rfl (zle_cons rfl (zle_cons rfl (zle_cons rfl (zle_cons rfl (zle_cons rfl (zle_cons rfl (zle_nil)))))))) ?_
                  exact e9
                · refine Wp.run 10 (18, [(7, .int ((nI xs.length) + 1)), (3, .long (((lN a).toUInt64 >>> ((1 : Int32).toInt64.toUInt64 &&& Int64.toUInt64 63)).toInt64)), (2, .int (s + (x - 3000))), (9, .int (x - 3000)), (8, .int x), (6, .int (nI prog.length)), (5, .ref u), (0, .ref v), (1, .ref 47)], [], (zsh ++ vs, mi, ml, (zmr g))) rfl ?_
                  rw [l_half h63]
                  have ew : wst nm (s, a) x = (s + (x - 3000), a / 2) := by unfold wst; rw [if_neg (Int32.not_lt.mpr h2), if_neg h3, if_neg h4, if_neg h5, if_neg (Int32.not_le.mpr h6)]; show (s + (if a % 2 = 1 then x - 3000 else 0), a / 2) = _; rw [if_pos ((l_cmp a).mp h7)]
                  rw [ew] at hb
                  have e9 := ih (xs ++ [x]) (s + (x - 3000)) (a / 2) _ hnx hb hzx (fun y hy => hvx y (List.mem_cons_of_mem _ hy))
                  rw [List.length_append] at e9
                  have ez : (wrn nm (x :: ys) (s, a)) = wrn nm ys (s + (x - 3000), a / 2) := by rw [wrn, ew]
                  rw [ez, nI_1]
                  refine Wp.sub (a := [(7, .int (nI (xs.length + 1))), (6, .int (nI prog.length)), (5, .ref u), (3, .long (lN (a / 2))), (2, .int (s + (x - 3000))), (0, .ref v), (1, .ref 47)]) (zle_cons rfl (zle_cons rfl (zle_cons rfl (zle_cons rfl (zle_cons rfl (zle_cons rfl (zle_cons rfl (zle_nil)))))))) ?_
                  exact e9
              · refine Wp.run 11 (174, [(9, .int (4000 - x)), (8, .int x), (7, .int (nI xs.length)), (6, .int (nI prog.length)), (5, .ref u), (3, .long (lN a)), (2, .int s), (0, .ref v), (1, .ref 47)], [.int (lg_cmp ((lN a) &&& 1) 1), .int s], (zsh ++ vs, mi, ml, (zmr g))) rfl ?_
                refine Wp.if_ne rfl (fun h8 => ?_) (fun h8 => ?_)
                · refine Wp.run 9 (18, [(7, .int ((nI xs.length) + 1)), (3, .long (((lN a).toUInt64 >>> ((1 : Int32).toInt64.toUInt64 &&& Int64.toUInt64 63)).toInt64)), (2, .int (s + 0)), (9, .int (4000 - x)), (8, .int x), (6, .int (nI prog.length)), (5, .ref u), (0, .ref v), (1, .ref 47)], [], (zsh ++ vs, mi, ml, (zmr g))) rfl ?_
                  rw [l_half h63]
                  have ew : wst nm (s, a) x = (s + 0, a / 2) := by unfold wst; rw [if_neg (Int32.not_lt.mpr h2), if_neg h3, if_neg h4, if_neg h5, if_pos (Int32.not_lt.mp h6)]; show (s + (if a % 2 = 1 then 4000 - x else 0), a / 2) = _; rw [if_neg (fun q => h8 ((l_cmp a).mpr q))]
                  rw [ew] at hb
                  have e9 := ih (xs ++ [x]) (s + 0) (a / 2) _ hnx hb hzx (fun y hy => hvx y (List.mem_cons_of_mem _ hy))
                  rw [List.length_append] at e9
                  have ez : (wrn nm (x :: ys) (s, a)) = wrn nm ys (s + 0, a / 2) := by rw [wrn, ew]
                  rw [ez, nI_1]
                  refine Wp.sub (a := [(7, .int (nI (xs.length + 1))), (6, .int (nI prog.length)), (5, .ref u), (3, .long (lN (a / 2))), (2, .int (s + 0)), (0, .ref v), (1, .ref 47)]) (zle_cons rfl (zle_cons rfl (zle_cons rfl (zle_cons rfl (zle_cons rfl (zle_cons rfl (zle_cons rfl (zle_nil)))))))) ?_
                  exact e9
                · refine Wp.run 10 (18, [(7, .int ((nI xs.length) + 1)), (3, .long (((lN a).toUInt64 >>> ((1 : Int32).toInt64.toUInt64 &&& Int64.toUInt64 63)).toInt64)), (2, .int (s + (4000 - x))), (9, .int (4000 - x)), (8, .int x), (6, .int (nI prog.length)), (5, .ref u), (0, .ref v), (1, .ref 47)], [], (zsh ++ vs, mi, ml, (zmr g))) rfl ?_
                  rw [l_half h63]
                  have ew : wst nm (s, a) x = (s + (4000 - x), a / 2) := by unfold wst; rw [if_neg (Int32.not_lt.mpr h2), if_neg h3, if_neg h4, if_neg h5, if_pos (Int32.not_lt.mp h6)]; show (s + (if a % 2 = 1 then 4000 - x else 0), a / 2) = _; rw [if_pos ((l_cmp a).mp h8)]
                  rw [ew] at hb
                  have e9 := ih (xs ++ [x]) (s + (4000 - x)) (a / 2) _ hnx hb hzx (fun y hy => hvx y (List.mem_cons_of_mem _ hy))
                  rw [List.length_append] at e9
                  have ez : (wrn nm (x :: ys) (s, a)) = wrn nm ys (s + (4000 - x), a / 2) := by rw [wrn, ew]
                  rw [ez, nI_1]
                  refine Wp.sub (a := [(7, .int (nI (xs.length + 1))), (6, .int (nI prog.length)), (5, .ref u), (3, .long (lN (a / 2))), (2, .int (s + (4000 - x))), (0, .ref v), (1, .ref 47)]) (zle_cons rfl (zle_cons rfl (zle_cons rfl (zle_cons rfl (zle_cons rfl (zle_cons rfl (zle_cons rfl (zle_nil)))))))) ?_
                  exact e9
            · refine Wp.run 11 (18, [(7, .int ((nI xs.length) + 1)), (3, .long ((((lN a).toUInt64 >>> ((1 : Int32).toInt64.toUInt64 &&& Int64.toUInt64 63)).toInt64) ||| ((lN a) &&& 1))), (8, .int x), (6, .int (nI prog.length)), (5, .ref u), (2, .int s), (0, .ref v), (1, .ref 47)], [], (zsh ++ vs, mi, ml, (zmr g))) rfl ?_
              rw [l_or h63]
              have ew : wst nm (s, a) x = (s, if a % 2 = 1 then a / 2 / 2 * 2 + 1 else a / 2) := by unfold wst; rw [if_neg (Int32.not_lt.mpr h2), if_neg h3, if_neg h4, if_pos h5]
              rw [ew] at hb
              have e9 := ih (xs ++ [x]) s (if a % 2 = 1 then a / 2 / 2 * 2 + 1 else a / 2) _ hnx hb hzx (fun y hy => hvx y (List.mem_cons_of_mem _ hy))
              rw [List.length_append] at e9
              have ez : (wrn nm (x :: ys) (s, a)) = wrn nm ys (s, if a % 2 = 1 then a / 2 / 2 * 2 + 1 else a / 2) := by rw [wrn, ew]
              rw [ez, nI_1]
              refine Wp.sub (a := [(7, .int (nI (xs.length + 1))), (6, .int (nI prog.length)), (5, .ref u), (3, .long (lN (if a % 2 = 1 then a / 2 / 2 * 2 + 1 else a / 2))), (2, .int s), (0, .ref v), (1, .ref 47)]) (zle_cons rfl (zle_cons rfl (zle_cons rfl (zle_cons rfl (zle_cons rfl (zle_cons rfl (zle_cons rfl (zle_nil)))))))) ?_
              exact e9
          · refine Wp.run 11 (18, [(7, .int ((nI xs.length) + 1)), (3, .long ((((lN a).toUInt64 >>> ((1 : Int32).toInt64.toUInt64 &&& Int64.toUInt64 63)).toInt64) &&& ((lN a) ||| (Int64.ofNat 18446744073709551614)))), (8, .int x), (6, .int (nI prog.length)), (5, .ref u), (2, .int s), (0, .ref v), (1, .ref 47)], [], (zsh ++ vs, mi, ml, (zmr g))) rfl ?_
            rw [l_and h63]
            have ew : wst nm (s, a) x = (s, if a % 2 = 1 then a / 2 else a / 2 / 2 * 2) := by unfold wst; rw [if_neg (Int32.not_lt.mpr h2), if_neg h3, if_pos h4]
            rw [ew] at hb
            have e9 := ih (xs ++ [x]) s (if a % 2 = 1 then a / 2 else a / 2 / 2 * 2) _ hnx hb hzx (fun y hy => hvx y (List.mem_cons_of_mem _ hy))
            rw [List.length_append] at e9
            have ez : (wrn nm (x :: ys) (s, a)) = wrn nm ys (s, if a % 2 = 1 then a / 2 else a / 2 / 2 * 2) := by rw [wrn, ew]
            rw [ez, nI_1]
            refine Wp.sub (a := [(7, .int (nI (xs.length + 1))), (6, .int (nI prog.length)), (5, .ref u), (3, .long (lN (if a % 2 = 1 then a / 2 else a / 2 / 2 * 2))), (2, .int s), (0, .ref v), (1, .ref 47)]) (zle_cons rfl (zle_cons rfl (zle_cons rfl (zle_cons rfl (zle_cons rfl (zle_cons rfl (zle_cons rfl (zle_nil)))))))) ?_
            exact e9
        · refine Wp.run 7 (18, [(7, .int ((nI xs.length) + 1)), (3, .long ((lN a) ^^^ 1)), (8, .int x), (6, .int (nI prog.length)), (5, .ref u), (2, .int s), (0, .ref v), (1, .ref 47)], [], (zsh ++ vs, mi, ml, (zmr g))) rfl ?_
          rw [l_not]
          have ew : wst nm (s, a) x = (s, if a % 2 = 0 then a + 1 else a - 1) := by unfold wst; rw [if_neg (Int32.not_lt.mpr h2), if_pos h3]
          rw [ew] at hb
          have e9 := ih (xs ++ [x]) s (if a % 2 = 0 then a + 1 else a - 1) _ hnx hb hzx (fun y hy => hvx y (List.mem_cons_of_mem _ hy))
          rw [List.length_append] at e9
          have ez : (wrn nm (x :: ys) (s, a)) = wrn nm ys (s, if a % 2 = 0 then a + 1 else a - 1) := by rw [wrn, ew]
          rw [ez, nI_1]
          refine Wp.sub (a := [(7, .int (nI (xs.length + 1))), (6, .int (nI prog.length)), (5, .ref u), (3, .long (lN (if a % 2 = 0 then a + 1 else a - 1))), (2, .int s), (0, .ref v), (1, .ref 47)]) (zle_cons rfl (zle_cons rfl (zle_cons rfl (zle_cons rfl (zle_cons rfl (zle_cons rfl (zle_cons rfl (zle_nil)))))))) ?_
          exact e9
      · have hx2 : x < 2000 := Int32.not_le.mp h2
        obtain ⟨l1, s1, v1, h91, h92, h93, hx⟩ := (hvx x List.mem_cons_self).resolve_right (fun q => q hx2)
        refine Wp.run 4 (47, [(8, .int x), (7, .int (nI xs.length)), (6, .int (nI prog.length)), (5, .ref u), (3, .long (lN a)), (2, .int s), (0, .ref v), (1, .ref 47)], [.int (x / 300), .ref 47], (zsh ++ vs, mi, ml, (zmr g))) rfl ?_
        rw [show x / 300 = nI l1 from by rw [hx]; exact (stx h91 h92 h93).1]
        refine Wp.ialn rfl (by decide) rfl h91 (by decide) ?_
        refine Wp.run 3 (53, [(8, .int x), (7, .int (nI xs.length)), (6, .int (nI prog.length)), (5, .ref u), (3, .long (lN a)), (2, .int s), (0, .ref v), (1, .ref 47)], [.int (x - x / 100 * 100), .int (mi 47 l1)], (zsh ++ vs, mi, ml, (zmr g))) rfl ?_
        rw [show x - x / 100 * 100 = nI v1 from by rw [hx]; exact (stx h91 h92 h93).2.1, hnm l1 h91]
        refine Wp.run 0 (53, [(8, .int x), (7, .int (nI xs.length)), (6, .int (nI prog.length)), (5, .ref u), (3, .long (lN a)), (2, .int s), (0, .ref v), (1, .ref 47)], [.int (nI v1), .int (nm l1)], (zsh ++ vs, mi, ml, (zmr g))) rfl ?_
        refine Wp.call (as := [.int (nm l1), .int (nI v1)]) (rest := []) rfl rfl rfl rfl rfl (Nat.le_of_ble_eq_true rfl) (Nat.le_of_ble_eq_true rfl) rfl (by decide) (c_compare (nm l1) (nI v1)) ?_
        rintro _ _ ⟨rfl, rfl⟩
        refine Wp.run 12 (74, [(9, .int (if nm l1 < nI v1 then -1 else if nm l1 = nI v1 then 0 else 1)), (8, .int x), (7, .int (nI xs.length)), (6, .int (nI prog.length)), (5, .ref u), (3, .long (lN a)), (2, .int s), (0, .ref v), (1, .ref 47)], [.int ((x - x / 300 * 300) / 100), .int ((if nm l1 < nI v1 then -1 else if nm l1 = nI v1 then 0 else 1) + 1), .long ((lN a) <<< ((1 : Int32).toInt64 &&& 63))], (zsh ++ vs, mi, ml, (zmr g))) rfl ?_
        rw [show (x - x / 300 * 300) / 100 = nI s1 from by rw [hx]; exact (stx h91 h92 h93).2.2]
        refine Wp.run 0 (74, [(9, .int (if nm l1 < nI v1 then -1 else if nm l1 = nI v1 then 0 else 1)), (8, .int x), (7, .int (nI xs.length)), (6, .int (nI prog.length)), (5, .ref u), (3, .long (lN a)), (2, .int s), (0, .ref v), (1, .ref 47)], [.int (nI s1), .int ((if nm l1 < nI v1 then -1 else if nm l1 = nI v1 then 0 else 1) + 1), .long ((lN a) <<< ((1 : Int32).toInt64 &&& 63))], (zsh ++ vs, mi, ml, (zmr g))) rfl ?_
        refine Wp.icmp_ne rfl (fun h9 => ?_) (fun h9 => ?_)
        · refine Wp.run 7 (18, [(7, .int ((nI xs.length) + 1)), (3, .long (((lN a) <<< ((1 : Int32).toInt64 &&& 63)) ||| ((0 : Int32).toInt64))), (9, .int (if nm l1 < nI v1 then -1 else if nm l1 = nI v1 then 0 else 1)), (8, .int x), (6, .int (nI prog.length)), (5, .ref u), (2, .int s), (0, .ref v), (1, .ref 47)], [], (zsh ++ vs, mi, ml, (zmr g))) rfl ?_
          have zt : ztb nm l1 s1 v1 = false := Bool.eq_false_iff.mpr (fun q => h9 ((cmp3 h92).mpr q))
          rw [l_push0]
          have ew : wst nm (s, a) x = (s, 2 * a + 0) := by rw [hx, wst_t h91 h92 h93, zt]; rfl
          rw [ew] at hb
          have e9 := ih (xs ++ [x]) s (2 * a + 0) _ hnx hb hzx (fun y hy => hvx y (List.mem_cons_of_mem _ hy))
          rw [List.length_append] at e9
          have ez : (wrn nm (x :: ys) (s, a)) = wrn nm ys (s, 2 * a + 0) := by rw [wrn, ew]
          rw [ez, nI_1]
          refine Wp.sub (a := [(7, .int (nI (xs.length + 1))), (6, .int (nI prog.length)), (5, .ref u), (3, .long (lN (2 * a + 0))), (2, .int s), (0, .ref v), (1, .ref 47)]) (zle_cons rfl (zle_cons rfl (zle_cons rfl (zle_cons rfl (zle_cons rfl (zle_cons rfl (zle_cons rfl (zle_nil)))))))) ?_
          exact e9
        · refine Wp.run 8 (18, [(7, .int ((nI xs.length) + 1)), (3, .long (((lN a) <<< ((1 : Int32).toInt64 &&& 63)) ||| ((1 : Int32).toInt64))), (9, .int (if nm l1 < nI v1 then -1 else if nm l1 = nI v1 then 0 else 1)), (8, .int x), (6, .int (nI prog.length)), (5, .ref u), (2, .int s), (0, .ref v), (1, .ref 47)], [], (zsh ++ vs, mi, ml, (zmr g))) rfl ?_
          have zt : ztb nm l1 s1 v1 = true := (cmp3 h92).mp h9
          rw [l_push1]
          have ew : wst nm (s, a) x = (s, 2 * a + 1) := by rw [hx, wst_t h91 h92 h93, zt]; rfl
          rw [ew] at hb
          have e9 := ih (xs ++ [x]) s (2 * a + 1) _ hnx hb hzx (fun y hy => hvx y (List.mem_cons_of_mem _ hy))
          rw [List.length_append] at e9
          have ez : (wrn nm (x :: ys) (s, a)) = wrn nm ys (s, 2 * a + 1) := by rw [wrn, ew]
          rw [ez, nI_1]
          refine Wp.sub (a := [(7, .int (nI (xs.length + 1))), (6, .int (nI prog.length)), (5, .ref u), (3, .long (lN (2 * a + 1))), (2, .int s), (0, .ref v), (1, .ref 47)]) (zle_cons rfl (zle_cons rfl (zle_cons rfl (zle_cons rfl (zle_cons rfl (zle_cons rfl (zle_cons rfl (zle_nil)))))))) ?_
          exact e9
theorem c_weigh_47 {E : zEn} {vs : List (Nat × Nat)} {mi : Nat → Nat → Int32} {ml : Nat → Nat → Int64} {g : Nat → Nat → Option Nat} {v u : Nat} {prog : List Int32} {nm : Nat → Int32} (hu : u < zEX) (hs : (zsh ++ vs)[u]? = some (0, prog.length)) (hpl : prog.length ≤ 100) (hpr : ∀ j, j < prog.length → mi u j = prog.getD j 0) (hnm : ∀ f, f < 6 → mi 47 f = nm f) (hv : vOK vs g v) (hgu : g v 0 = some u) (h86 : 86 ≤ v) (hct : zct2 prog ≤ 40) (hvx : ∀ x, x ∈ prog → zvx x) : Wp E 1 pg_Village_weigh 0 (lv_args 0 [.ref v, .ref 47]) [] (zsh ++ vs, mi, ml, zmr g) (fun r w' => r = some (.int (wrn nm prog (0, 0)).1) ∧ w' = (zsh ++ vs, mi, ml, zmr g)) := by
  refine Wp.run 5 (5, [(3, .long 0), (2, .int 0), (0, .ref v), (1, .ref 47)], [.ref v], (zsh ++ vs, mi, ml, (zmr g))) rfl ?_
  refine Wp.gref rfl (by rw [hv.ob]; rfl) rfl (show zmr g v 0 = some u by rw [zmr_hi h86]; exact hgu) ?_
  refine Wp.run 2 (12, [(5, .ref u), (3, .long 0), (2, .int 0), (0, .ref v), (1, .ref 47)], [.ref u], (zsh ++ vs, mi, ml, (zmr g))) rfl ?_
  refine Wp.alen rfl hu hs (by decide) ?_
  refine Wp.run 3 (18, [(7, .int 0), (6, .int (nI prog.length)), (5, .ref u), (3, .long 0), (2, .int 0), (0, .ref v), (1, .ref 47)], [], (zsh ++ vs, mi, ml, (zmr g))) rfl ?_
  refine Wp.sub (a := [(7, .int (nI 0)), (6, .int (nI prog.length)), (5, .ref u), (3, .long (lN 0)), (2, .int 0), (0, .ref v), (1, .ref 47)]) (zle_cons rfl (zle_cons rfl (zle_cons rfl (zle_cons rfl (zle_cons rfl (zle_cons rfl (zle_cons rfl (zle_nil)))))))) ?_
  exact c_weigh_l47 hu hs hpl hpr hnm prog [] 0 0 0 rfl (by decide) (by rw [Nat.zero_add]; exact hct) hvx
