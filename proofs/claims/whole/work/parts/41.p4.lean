/-! NEW CELLS, and rows copied -/
theorem zsh_len {vs : List (Nat × Nat)} : (zsh ++ vs).length = 86 + vs.length := by rw [List.length_append]; rfl
theorem zsh_hi {vs : List (Nat × Nat)} {j : Nat} : (zsh ++ vs)[86 + j]? = vs[j]? := by
  rw [List.getElem?_append_right (show zsh.length ≤ 86 + j from Nat.le_add_right 86 j), show zsh.length = 86 from rfl, Nat.add_sub_cancel_left]
theorem snoc_at {vs : List (Nat × Nat)} {q : Nat × Nat} : (vs ++ [q])[vs.length]? = some q := by
  rw [List.getElem?_append_right (Nat.le_refl _), Nat.sub_self]
  rfl
theorem snoc_lt {vs us : List (Nat × Nat)} {j : Nat} (h : j < vs.length) : (vs ++ us)[j]? = vs[j]? := List.getElem?_append_left h
theorem zrt_hi {v : Nat} (h : 86 ≤ v) : zrt[v]? = none := List.getElem?_eq_none (Nat.le_trans (by decide) h)
theorem zmr_hi {g : Nat → Nat → Option Nat} {v f : Nat} (h : 86 ≤ v) : zmr g v f = g v f := by
  unfold zmr
  rw [zrt_hi h]
theorem zmr_uph {g : Nat → Nat → Option Nat} {v f : Nat} {x : Option Nat} (h : 86 ≤ v) : zup (zmr g) v f x = zmr (zup g v f x) := zmr_up (fun l u hl => by rw [zrt_hi h] at hl; cases hl)
theorem zmr_rowh {g : Nat → Nat → Option Nat} {v : Nat} (h : 86 ≤ v) : zrow (zmr g) v (fun _ => none) = zmr (zrow g v (fun _ => none)) := by
  funext a b
  by_cases hc : a = v
  · subst hc
    rw [zmr_hi h, zrow_eq, zrow_eq]
  · rw [zrow_ne hc]
    unfold zmr
    rw [zrow_ne hc]
section WN
variable {E : zEn} {d : Nat} {cd : List zI} {pc : Nat} {lv : zLv} {rs : List Value} {w : zW} {P : Option Value → zW → Prop} {vs : List (Nat × Nat)} {mi : Nat → Nat → Int32} {ml : Nat → Nat → Int64} {g : Nat → Nat → Option Nat}
theorem Wp.newC {idx len fa fb fc : Nat} (hi : cd[pc]? = some (.new idx, len, fa, fb, fc)) (hv : vs.length < 400) (h : Wp E d cd (pc + 3) lv (.ref (86 + vs.length) :: rs) (zsh ++ (vs ++ [(10 + fa, zN fa)]), zrow mi (86 + vs.length) (fun _ => 0), zrow ml (86 + vs.length) (fun _ => 0), zmr (zrow g (86 + vs.length) (fun _ => none))) P) : Wp E d cd pc lv rs (zsh ++ vs, mi, ml, zmr g) P := by
  obtain ⟨r, w', h, hp⟩ := h
  rw [← List.append_assoc, ← zmr_rowh (Nat.le_add_right 86 _), ← zsh_len] at h
  refine ⟨r, w', Ev.step (x := (pc + 3, lv, .ref (zsh ++ vs).length :: rs, znew (zsh ++ vs, mi, ml, zmr g) (10 + fa) (zN fa))) hi rfl ?_ h, hp⟩
  have : (zsh ++ vs).length < zEX := by rw [zsh_len]; show _ < 500; omega
  simp only [zstep, if_pos this]
theorem Wp.newiC {len fa fb fc k : Nat} (hi : cd[pc]? = some (.newarray .int, len, fa, fb, fc)) (hv : vs.length < 400) (hk : k ≤ 10000) (h : Wp E d cd (pc + 2) lv (.ref (86 + vs.length) :: rs) (zsh ++ (vs ++ [(0, k)]), zrow mi (86 + vs.length) (fun _ => 0), zrow ml (86 + vs.length) (fun _ => 0), zmr (zrow g (86 + vs.length) (fun _ => none))) P) : Wp E d cd pc lv (.int (nI k) :: rs) (zsh ++ vs, mi, ml, zmr g) P := by
  obtain ⟨r, w', h, hp⟩ := h
  rw [← List.append_assoc, ← zmr_rowh (Nat.le_add_right 86 _), ← zsh_len] at h
  refine ⟨r, w', Ev.step (x := (pc + 2, lv, .ref (zsh ++ vs).length :: rs, znew (zsh ++ vs, mi, ml, zmr g) 0 k)) hi rfl ?_ h, hp⟩
  have : (zsh ++ vs).length < zEX := by rw [zsh_len]; show _ < 500; omega
  have e := nI_clamp (n := k) (by omega)
  simp only [zstep, zat]
  rw [if_pos ⟨this, nI_pos (by omega), by rw [e]; exact hk⟩, e]
theorem Wp.acp {idx len fb fc a b n0 n1 sp dp c : Nat} (hi : cd[pc]? = some (.invokestatic idx, len, 1004, fb, fc)) (h8 : zct rs ≤ 8) (ha : a < zEX) (hb : b < zEX) (q0 : w.1[b]? = some (0, n0)) (q1 : w.1[a]? = some (0, n1)) (h0 : sp + c ≤ n0) (h1 : dp + c ≤ n1) (l0 : n0 < 2147483648) (l1 : n1 < 2147483648) (h : Wp E d cd (pc + 3) lv rs (w.1, zrow w.2.1 a (va_cpy (w.2.1 b) (w.2.1 a) sp dp c), w.2.2.1, w.2.2.2) P) : Wp E d cd pc lv (.int (nI c) :: .int (nI dp) :: .ref a :: .int (nI sp) :: .ref b :: rs) w P := by
  obtain ⟨r, w', h, hp⟩ := h
  refine ⟨r, w', Ev.step (x := (pc + 3, lv, rs, (w.1, zrow w.2.1 a (va_cpy (w.2.1 b) (w.2.1 a) sp dp c), w.2.2.1, w.2.2.2))) hi rfl ?_ h, hp⟩
  simp only [zstep]
  rw [if_pos ⟨True.intro, h8, nI_pos (by omega), nI_pos (by omega), nI_pos (by omega), ha, hb⟩, q0, q1]
  dsimp only
  rw [nI_clamp (n := c) (by omega), nI_clamp (n := sp) (by omega), nI_clamp (n := dp) (by omega), if_pos ⟨rfl, h0, h1⟩, if_pos rfl]
theorem Wp.acpl {idx len fb fc a b n0 n1 sp dp c : Nat} (hi : cd[pc]? = some (.invokestatic idx, len, 1004, fb, fc)) (h8 : zct rs ≤ 8) (ha : a < zEX) (hb : b < zEX) (q0 : w.1[b]? = some (1, n0)) (q1 : w.1[a]? = some (1, n1)) (h0 : sp + c ≤ n0) (h1 : dp + c ≤ n1) (l0 : n0 < 2147483648) (l1 : n1 < 2147483648) (h : Wp E d cd (pc + 3) lv rs (w.1, w.2.1, zrow w.2.2.1 a (va_cpy (w.2.2.1 b) (w.2.2.1 a) sp dp c), w.2.2.2) P) : Wp E d cd pc lv (.int (nI c) :: .int (nI dp) :: .ref a :: .int (nI sp) :: .ref b :: rs) w P := by
  obtain ⟨r, w', h, hp⟩ := h
  refine ⟨r, w', Ev.step (x := (pc + 3, lv, rs, (w.1, w.2.1, zrow w.2.2.1 a (va_cpy (w.2.2.1 b) (w.2.2.1 a) sp dp c), w.2.2.2))) hi rfl ?_ h, hp⟩
  simp only [zstep]
  rw [if_pos ⟨True.intro, h8, nI_pos (by omega), nI_pos (by omega), nI_pos (by omega), ha, hb⟩, q0, q1]
  dsimp only
  rw [nI_clamp (n := c) (by omega), nI_clamp (n := sp) (by omega), nI_clamp (n := dp) (by omega), if_pos ⟨rfl, h0, h1⟩, if_neg (by decide), if_pos rfl]
theorem Wp.oinit {idx len fb fc a : Nat} (hi : cd[pc]? = some (.invokespecial idx, len, 1001, fb, fc)) (ha : a < zEX) (h8 : zct rs ≤ 8) (h : Wp E d cd (pc + 3) lv rs w P) : Wp E d cd pc lv (.ref a :: rs) w P := by
  obtain ⟨r, w', h, hp⟩ := h
  refine ⟨r, w', Ev.step (x := (pc + 3, lv, rs, w)) hi rfl ?_ h, hp⟩
  simp only [zstep]
  rw [if_pos ⟨True.intro, ha, h8⟩]
theorem Wp.pint {idx len fa fb fc a : Nat} {x : Int32} (hi : cd[pc]? = some (.putfield idx, len, fa, fb, fc)) (ho : zob w a fa = true) (hF : zF fa fb = some 0) (h : Wp E d cd (pc + 3) lv rs (w.1, zup w.2.1 a fb x, w.2.2.1, w.2.2.2) P) : Wp E d cd pc lv (.int x :: .ref a :: rs) w P := by
  obtain ⟨r, w', h, hp⟩ := h
  refine ⟨r, w', Ev.step (x := (pc + 3, lv, rs, (w.1, zup w.2.1 a fb x, w.2.2.1, w.2.2.2))) hi rfl ?_ h, hp⟩
  have : zpf w a fa fb (.int x) = some (w.1, zup w.2.1 a fb x, w.2.2.1, w.2.2.2) := by
    unfold zpf
    rw [if_pos ho, hF]
    rfl
  simp only [zstep, this]
theorem c_copyOf {k : Nat} (hk : k < 100) (hv : vs.length < 400) : Wp E 0 pg_Arrays_copyOf 0 (lv_args 0 [.ref 50, .int (nI k)]) [] (zsh ++ vs, mi, ml, zmr g) (fun r w' => r = some (.ref (86 + vs.length)) ∧ ∃ m', w' = (zsh ++ (vs ++ [(0, k)]), m', zrow ml (86 + vs.length) (fun _ => 0), zmr (zrow g (86 + vs.length) (fun _ => none))) ∧ (∀ b, ¬ b = 86 + vs.length → m' b = mi b) ∧ ∀ j, j < k → m' (86 + vs.length) j = mi 50 j) := by
  refine Wp.run 3 (3, [(0, .ref 50), (1, .int (nI k))], [.int 100, .int (nI k)], (zsh ++ vs, mi, ml, zmr g)) rfl ?_
  refine Wp.icmp_ne rfl (fun h1 => ?_) (fun h1 => ?_)
  · refine Wp.run 1 (15, [(0, .ref 50), (1, .int (nI k))], [.int (nI k)], (zsh ++ vs, mi, ml, zmr g)) rfl ?_
    refine Wp.newiC rfl hv (by omega) ?_
    have hx : 86 + vs.length < zEX := by show _ < 500; omega
    have hs : (zsh ++ (vs ++ [(0, k)]))[86 + vs.length]? = some (0, k) := by rw [zsh_hi, snoc_at]
    refine Wp.run 8 (25, [(2, .ref (86 + vs.length)), (0, .ref 50), (1, .int (nI k))], [.int (nI k), .int 100, .int 0, .ref (86 + vs.length), .int 0, .ref 50], (zsh ++ (vs ++ [(0, k)]), zrow mi (86 + vs.length) (fun _ => 0), zrow ml (86 + vs.length) (fun _ => 0), zmr (zrow g (86 + vs.length) (fun _ => none)))) rfl ?_
    refine Wp.run 1 (28, [(2, .ref (86 + vs.length)), (0, .ref 50), (1, .int (nI k))], [.int (if nI k < 100 then nI k else 100), .int 0, .ref (86 + vs.length), .int 0, .ref 50], (zsh ++ (vs ++ [(0, k)]), zrow mi (86 + vs.length) (fun _ => 0), zrow ml (86 + vs.length) (fun _ => 0), zmr (zrow g (86 + vs.length) (fun _ => none)))) rfl ?_
    rw [if_pos (show nI k < 100 from nI_lt (b := 100) hk (by decide))]
    refine Wp.acp (sp := 0) (dp := 0) (n0 := 100) (n1 := k) rfl (by decide) hx (by decide) rfl hs (by omega) (by omega) (by decide) (by omega) ?_
    refine Wp.run 1 (32, [(2, .ref (86 + vs.length)), (0, .ref 50), (1, .int (nI k))], [.ref (86 + vs.length)], (zsh ++ (vs ++ [(0, k)]), zrow (zrow mi (86 + vs.length) (fun _ => 0)) (86 + vs.length) (va_cpy (zrow mi (86 + vs.length) (fun _ => 0) 50) (zrow mi (86 + vs.length) (fun _ => 0) (86 + vs.length)) 0 0 k), zrow ml (86 + vs.length) (fun _ => 0), zmr (zrow g (86 + vs.length) (fun _ => none)))) rfl ?_
    refine Wp.ret rfl rfl (by show (if 86 + vs.length < zEX then some (some (Value.ref (86 + vs.length))) else none) = _; rw [if_pos hx]) ?_
    refine ⟨rfl, _, rfl, fun b hb => by rw [zrow_ne hb, zrow_ne hb], fun j hj => ?_⟩
    rw [zrow_eq, va_cpy_lt hj, zrow_ne (by omega)]
  · exact absurd (show nI k = nI 100 from h1) (fun e => by have := (nI_eq (by omega) (by decide)).mp e; omega)
theorem c_vinit {v u : Nat} {x : Int32} (hv : vOK vs g v) (h86 : 86 ≤ v) (hu : u < zEX) : Wp E 0 pg_Village_init 0 (lv_args 0 [.ref v, .ref u, .int x]) [] (zsh ++ vs, mi, ml, zmr g) (fun r w' => r = none ∧ w' = (zsh ++ vs, zup mi v 1 x, ml, zmr (zup g v 0 (some u)))) := by
  refine Wp.run 1 (1, [(0, .ref v), (1, .ref u), (2, .int x)], [.ref v], (zsh ++ vs, mi, ml, zmr g)) rfl ?_
  refine Wp.oinit rfl hv.1 (by decide) ?_
  refine Wp.run 2 (6, [(0, .ref v), (1, .ref u), (2, .int x)], [.ref u, .ref v], (zsh ++ vs, mi, ml, zmr g)) rfl ?_
  refine Wp.pref rfl hv.ob rfl hu ?_
  dsimp only
  rw [zmr_uph h86]
  refine Wp.run 2 (11, [(0, .ref v), (1, .ref u), (2, .int x)], [.int x, .ref v], (zsh ++ vs, mi, ml, zmr (zup g v 0 (some u)))) rfl ?_
  refine Wp.pint rfl (vOK.ob (g := zup g v 0 (some u)) hv) rfl ?_
  refine Wp.run 0 (14, [(0, .ref v), (1, .ref u), (2, .int x)], [], (zsh ++ vs, zup mi v 1 x, ml, zmr (zup g v 0 (some u)))) rfl ?_
  exact Wp.ret rfl rfl rfl ⟨rfl, rfl⟩
end WN
/-- what toVillage leaves -/
def cV (mi : Nat → Nat → Int32) (n : Nat) (vs : List (Nat × Nat)) (ml : Nat → Nat → Int64) (g : Nat → Nat → Option Nat) (res : Option zV × Nat) (r : Option Value) (w' : zW) : Prop :=
  (∃ V m' ml' g', res.1 = some V ∧ r = some (.ref (86 + vs.length)) ∧ w' = (zsh ++ (vs ++ [(16, 2), (0, V.1.length)]), m', ml', zmr g') ∧ (∀ b, ¬ b = 48 → ¬ b = 50 → b < 86 + vs.length → m' b = mi b) ∧ m' 48 0 = nI n ∧ m' 48 1 = nI res.2 ∧ m' (86 + vs.length) 1 = nI V.2.2 ∧ (∀ j, j < V.1.length → m' (86 + vs.length + 1) j = V.1.getD j 0) ∧ (∀ b, b < 86 + vs.length → ml' b = ml b) ∧ (∀ b, b < 86 + vs.length → g' b = g b) ∧ g' (86 + vs.length) 0 = some (86 + vs.length + 1)) ∨
  (∃ m', res.1 = none ∧ r = some .null ∧ w' = (zsh ++ vs, m', ml, zmr g) ∧ (∀ b, ¬ b = 48 → ¬ b = 50 → m' b = mi b) ∧ m' 48 0 = nI n ∧ m' 48 1 = nI res.2)
theorem c_make {E : zEn} {vs : List (Nat × Nat)} {mi : Nat → Nat → Int32} {ml : Nat → Nat → Int64} {g : Nat → Nat → Option Nat} {T : Nat → Int32} {m : Nat → Nat → Int32} {n p c : Nat} {V : zV} (H : TS T mi m (nI V.2.2) n p V.1) (hk : V.1.length < 100) (hv : vs.length < 390) : Wp E 21 pg_Text_toVillage 57 [(0, .ref 48), (1, .int (nI c))] [] (zsh ++ vs, m, ml, zmr g) (cV mi n vs ml g (some V, p)) := by
  have hx : 86 + vs.length < zEX := by show _ < 500; omega
  have e48 : ¬ 48 = 86 + vs.length := by omega
  have e50 : ¬ 50 = 86 + vs.length := by omega
  refine Wp.newC rfl (by omega) ?_
  refine Wp.run 5 (69, [(0, .ref 48), (1, .int (nI c))], [.int (zrow m (86 + vs.length) (fun _ => 0) 48 4), .ref 50, .ref (86 + vs.length), .ref (86 + vs.length)], (zsh ++ (vs ++ [(16, 2)]), zrow m (86 + vs.length) (fun _ => 0), zrow ml (86 + vs.length) (fun _ => 0), zmr (zrow g (86 + vs.length) (fun _ => none)))) rfl ?_
  rw [show zrow m (86 + vs.length) (fun _ => 0) 48 4 = nI V.1.length by rw [zrow_ne e48]; exact H.2.2.2.1]
  have hl1 : (vs ++ [((16 : Nat), (2 : Nat))]).length = vs.length + 1 := by rw [List.length_append]; rfl
  refine Wp.call (as := [.ref 50, .int (nI V.1.length)]) (rest := [.ref (86 + vs.length), .ref (86 + vs.length)]) rfl rfl rfl rfl rfl (Nat.le_of_ble_eq_true rfl) (Nat.le_of_ble_eq_true rfl) rfl (by decide) (c_copyOf (vs := vs ++ [(16, 2)]) hk (by rw [hl1]; omega)) ?_
  rintro _ _ ⟨rfl, m', rfl, k1, k2⟩
  rw [hl1] at k1 k2 ⊢
  rw [List.append_assoc vs]
  refine Wp.run 2 (76, [(0, .ref 48), (1, .int (nI c))], [.int (m' 48 5), .ref (86 + (vs.length + 1)), .ref (86 + vs.length), .ref (86 + vs.length)], (zsh ++ (vs ++ ([(16, 2)] ++ [(0, V.1.length)])), m', zrow (zrow ml (86 + vs.length) (fun _ => 0)) (86 + (vs.length + 1)) (fun _ => 0), zmr (zrow (zrow g (86 + vs.length) (fun _ => none)) (86 + (vs.length + 1)) (fun _ => none)))) rfl ?_
  have hV : vOK (vs ++ ([(16, 2)] ++ [(0, V.1.length)])) (zrow (zrow g (86 + vs.length) (fun _ => none)) (86 + (vs.length + 1)) (fun _ => none)) (86 + vs.length) := by
    refine ⟨hx, ?_⟩
    rw [zsh_hi, ← List.append_assoc, snoc_lt (by rw [hl1]; omega), snoc_at]
  rw [show m' 48 5 = nI V.2.2 by rw [k1 48 (by omega), zrow_ne e48]; exact H.2.2.2.2.1]
  refine Wp.call (as := [.ref (86 + vs.length), .ref (86 + (vs.length + 1)), .int (nI V.2.2)]) (rest := [.ref (86 + vs.length)]) rfl rfl rfl rfl rfl (Nat.le_of_ble_eq_true rfl) (Nat.le_of_ble_eq_true rfl) hV.rc (by decide) (c_vinit hV (by omega) (by show _ < 500; omega)) ?_
  rintro _ _ ⟨rfl, rfl⟩
  refine Wp.ret rfl rfl (by show (if 86 + vs.length < zEX then some (some (Value.ref (86 + vs.length))) else none) = _; rw [if_pos hx]) ?_
  refine Or.inl ⟨V, _, _, _, rfl, rfl, rfl, fun b h1 h2 h3 => ?_, ?_, ?_, ?_, fun j hj => ?_, fun b hb => ?_, fun b hb => ?_, ?_⟩
  · rw [zup_ne (by omega), k1 b (by omega), zrow_ne (by omega)]; exact H.1 b h1 h2
  · rw [zup_ne (by omega), k1 48 (by omega), zrow_ne e48]; exact H.2.1
  · rw [zup_ne (by omega), k1 48 (by omega), zrow_ne e48]; exact H.2.2.1
  · simp only [zup, if_true]
  · rw [zup_ne (by omega), show 86 + vs.length + 1 = 86 + (vs.length + 1) from Nat.add_assoc _ _ _, k2 j hj, zrow_ne e50]; exact H.2.2.2.2.2.1 j hj
  · rw [zrow_ne (by omega), zrow_ne (by omega)]
  · rw [zup_ne (by omega), zrow_ne (by omega), zrow_ne (by omega)]
  · simp only [zup, if_true]; rfl
theorem c_tv {E : zEn} {vs : List (Nat × Nat)} {mi : Nat → Nat → Int32} {ml : Nat → Nat → Int64} {g : Nat → Nat → Option Nat} {T : Nat → Int32} {n : Nat} (hT : tOK T n) (hv : vs.length < 390) : ∀ (k c : Nat) (V : zV) (p : Nat) (m : Nat → Nat → Int32), c + (k + 1) = 10 → TS T mi m (nI V.2.2) n p V.1 → p ≤ n → zVok V p → Wp E 21 pg_Text_toVillage 37 [(0, .ref 48), (1, .int (nI c))] [] (zsh ++ vs, m, ml, zmr g) (cV mi n vs ml g (zcsa T n (k + 1) V p)) := by
  intro k
  induction k with
  | zero =>
    intro c V p m hc H hp hV
    obtain rfl : c = 9 := by omega
    refine Wp.run 1 (38, [(0, .ref 48), (1, .int (nI 9))], [.ref 48], (zsh ++ vs, m, ml, (zmr g))) rfl ?_
    refine Wp.call (as := [.ref 48]) (rest := []) rfl rfl rfl rfl rfl (Nat.le_of_ble_eq_true rfl) (Nat.le_of_ble_eq_true rfl) rfl (by decide) (c_clause H hT hp hV.2.2.2.1) ?_
    rintro _ _ ⟨m13, rfl, hc13⟩
    rcases hr13 : zcla T n p with ⟨o13, q13⟩
    rw [hr13] at hc13
    rcases hc13 with ⟨c13, ho13, rfl, H13⟩ | ⟨ho13, rfl, a13, l13, H13⟩
    · cases (show o13 = some c13 from ho13)
      have hg13 := zcla_ok hp hr13
      have hV13 := zad_ok hV hg13.1 hg13.2.2.1 hg13.2.2.2
      refine Wp.run 5 (54, [(0, .ref 48), (1, .int (nI 9))], [.int (m13 48 0), .int (m13 48 1)], (zsh ++ vs, m13, ml, (zmr g))) rfl ?_
      rw [H13.2.1, H13.2.2.1]
      refine Wp.run 0 (54, [(0, .ref 48), (1, .int (nI 9))], [.int (nI n), .int (nI q13)], (zsh ++ vs, m13, ml, (zmr g))) rfl ?_
      refine Wp.icmp_ne rfl (fun h1 => ?_) (fun h1 => ?_)
      · refine Wp.run 2 (18, [(1, .int ((nI 9) + 1)), (0, .ref 48)], [], (zsh ++ vs, m13, ml, (zmr g))) rfl ?_
        refine Wp.run 0 (18, [(1, .int ((nI 9) + 1)), (0, .ref 48)], [], (zsh ++ vs, m13, ml, (zmr g))) rfl ?_
        rw [show nI 9 + 1 = 10 from rfl]
        refine Wp.run 4 (87, [(1, .int 10), (0, .ref 48)], [.null], (zsh ++ vs, m13, ml, (zmr g))) rfl ?_
        refine Wp.ret rfl rfl rfl ?_
        have hqn : ¬ q13 = n := fun e => h1 (by rw [e])
        have e9 : zcsa T n (0 + 1) V p = (none, q13) := by rw [zcsa, hr13]; simp only [if_neg hqn, if_true]
        rw [e9]
        exact Or.inr ⟨_, rfl, rfl, rfl, H13.1, H13.2.1, H13.2.2.1⟩
      · refine Wp.run 0 (57, [(0, .ref 48), (1, .int (nI 9))], [], (zsh ++ vs, m13, ml, (zmr g))) rfl ?_
        have hqn : q13 = n := (nI_eq (by have := hT.1; omega) (by have := hT.1; omega)).mp h1
        have e9 : zcsa T n (0 + 1) V p = (some (zad V c13), q13) := by rw [zcsa, hr13]; simp only [if_pos hqn]
        rw [e9]
        exact c_make (V := zad V c13) H13 (by have := hT.1; have := hV13.2; omega) hv
    · cases (show o13 = none from ho13)
      refine Wp.run 2 (45, [(0, .ref 48), (1, .int (nI 9))], [.null], (zsh ++ vs, m13, ml, (zmr g))) rfl ?_
      refine Wp.ret rfl rfl rfl ?_
      have e9 : zcsa T n (0 + 1) V p = (none, q13) := by rw [zcsa, hr13]
      rw [e9]
      exact Or.inr ⟨_, rfl, rfl, rfl, H13.1, H13.2.1, H13.2.2.1⟩
  | succ k ih =>
    intro c V p m hc H hp hV
    refine Wp.run 1 (38, [(0, .ref 48), (1, .int (nI c))], [.ref 48], (zsh ++ vs, m, ml, (zmr g))) rfl ?_
    refine Wp.call (as := [.ref 48]) (rest := []) rfl rfl rfl rfl rfl (Nat.le_of_ble_eq_true rfl) (Nat.le_of_ble_eq_true rfl) rfl (by decide) (c_clause H hT hp hV.2.2.2.1) ?_
    rintro _ _ ⟨m14, rfl, hc14⟩
    rcases hr14 : zcla T n p with ⟨o14, q14⟩
    rw [hr14] at hc14
    rcases hc14 with ⟨c14, ho14, rfl, H14⟩ | ⟨ho14, rfl, a14, l14, H14⟩
    · cases (show o14 = some c14 from ho14)
      have hg14 := zcla_ok hp hr14
      have hV14 := zad_ok hV hg14.1 hg14.2.2.1 hg14.2.2.2
      refine Wp.run 5 (54, [(0, .ref 48), (1, .int (nI c))], [.int (m14 48 0), .int (m14 48 1)], (zsh ++ vs, m14, ml, (zmr g))) rfl ?_
      rw [H14.2.1, H14.2.2.1]
      refine Wp.run 0 (54, [(0, .ref 48), (1, .int (nI c))], [.int (nI n), .int (nI q14)], (zsh ++ vs, m14, ml, (zmr g))) rfl ?_
      refine Wp.icmp_ne rfl (fun h1 => ?_) (fun h1 => ?_)
      · refine Wp.run 2 (18, [(1, .int ((nI c) + 1)), (0, .ref 48)], [], (zsh ++ vs, m14, ml, (zmr g))) rfl ?_
        refine Wp.run 0 (18, [(1, .int ((nI c) + 1)), (0, .ref 48)], [], (zsh ++ vs, m14, ml, (zmr g))) rfl ?_
        rw [nI_1]
        refine Wp.run 2 (21, [(1, .int (nI (c + 1))), (0, .ref 48)], [.int 10, .int (nI (c + 1))], (zsh ++ vs, m14, ml, (zmr g))) rfl ?_
        refine Wp.icmp_ge rfl (fun h2 => ?_) (fun h2 => ?_)
        · exact absurd h2 (nI_ge (b := 10) (by omega) (by decide))
        · refine Wp.run 1 (25, [(1, .int (nI (c + 1))), (0, .ref 48)], [.int (nI (c + 1))], (zsh ++ vs, m14, ml, (zmr g))) rfl ?_
          refine Wp.if_le rfl (fun h3 => ?_) (fun h3 => ?_)
          · exact absurd h3 (nI_nle (by omega) (by omega))
          · refine Wp.run 2 (31, [(1, .int (nI (c + 1))), (0, .ref 48)], [.int 59, .ref 48], (zsh ++ vs, m14, ml, (zmr g))) rfl ?_
            refine Wp.call (as := [.ref 48, .int 59]) (rest := []) rfl rfl rfl rfl rfl (Nat.le_of_ble_eq_true rfl) (Nat.le_of_ble_eq_true rfl) rfl (by decide) (c_takes H14 hT hg14.2.1 59 (by decide)) ?_
            rintro _ _ (⟨ht15, rfl, m15, rfl, H15⟩ | ⟨ht15, rfl, rfl⟩)
            · have hp15 : q14 + 1 ≤ n := zch_lt ht15 (by decide)
              refine Wp.run 1 (37, [(1, .int (nI (c + 1))), (0, .ref 48)], [], (zsh ++ vs, m15, ml, (zmr g))) rfl ?_
              have hqn : ¬ q14 = n := fun e => h1 (by rw [e])
              have e9 : zcsa T n (k + 1 + 1) V p = zcsa T n (k + 1) (zad V c14) (q14 + 1) := by rw [zcsa, hr14]; simp only [if_neg hqn, if_neg (Nat.succ_ne_zero k), if_pos ht15]
              rw [e9]
              refine Wp.sub (a := [(0, .ref 48), (1, .int (nI (c + 1)))]) (zle_cons rfl (zle_cons rfl (zle_nil))) ?_
              exact ih (c + 1) (zad V c14) (q14 + 1) _ (by omega) H15 hp15 ⟨hV14.1.1, hV14.1.2.1, hV14.1.2.2.1, Nat.le_succ_of_le hV14.1.2.2.2.1, Nat.le_succ_of_le hV14.1.2.2.2.2⟩
            · refine Wp.run 2 (45, [(1, .int (nI (c + 1))), (0, .ref 48)], [.null], (zsh ++ vs, m14, ml, (zmr g))) rfl ?_
              refine Wp.ret rfl rfl rfl ?_
              have hqn : ¬ q14 = n := fun e => h1 (by rw [e])
              have e9 : zcsa T n (k + 1 + 1) V p = (none, q14) := by rw [zcsa, hr14]; simp only [if_neg hqn, if_neg (Nat.succ_ne_zero k), if_neg ht15]
              rw [e9]
              exact Or.inr ⟨_, rfl, rfl, rfl, H14.1, H14.2.1, H14.2.2.1⟩
      · refine Wp.run 0 (57, [(0, .ref 48), (1, .int (nI c))], [], (zsh ++ vs, m14, ml, (zmr g))) rfl ?_
        have hqn : q14 = n := (nI_eq (by have := hT.1; omega) (by have := hT.1; omega)).mp h1
        have e9 : zcsa T n (k + 1 + 1) V p = (some (zad V c14), q14) := by rw [zcsa, hr14]; simp only [if_pos hqn]
        rw [e9]
        exact c_make (V := zad V c14) H14 (by have := hT.1; have := hV14.2; omega) hv
    · cases (show o14 = none from ho14)
      refine Wp.run 2 (45, [(0, .ref 48), (1, .int (nI c))], [.null], (zsh ++ vs, m14, ml, (zmr g))) rfl ?_
      refine Wp.ret rfl rfl rfl ?_
      have e9 : zcsa T n (k + 1 + 1) V p = (none, q14) := by rw [zcsa, hr14]
      rw [e9]
      exact Or.inr ⟨_, rfl, rfl, rfl, H14.1, H14.2.1, H14.2.2.1⟩
theorem c_toVillage {E : zEn} {vs : List (Nat × Nat)} {mi : Nat → Nat → Int32} {ml : Nat → Nat → Int64} {g : Nat → Nat → Option Nat} {T : Nat → Int32} {n : Nat} (hT : tOK T n) (hv : vs.length < 390) (h0 : mi 48 0 = nI n) (h49 : ∀ k, k < n → mi 49 k = T k) : Wp E 21 pg_Text_toVillage 0 (lv_args 0 [.ref 48]) [] (zsh ++ vs, mi, ml, zmr g) (cV mi n vs ml g (zcsa T n 10 ([], fun _ => 0, 50) 0)) := by
  refine Wp.run 16 (37, [(1, .int 0), (0, .ref 48)], [], (zsh ++ vs, (zup (zup (zup mi 48 1 0) 48 4 0) 48 5 50), ml, (zmr g))) rfl ?_
  obtain ⟨m1, hm1⟩ : ∃ m1, m1 = (zup (zup (zup mi 48 1 0) 48 4 0) 48 5 50) := ⟨_, rfl⟩
  rw [← hm1]
  have H : TS T mi m1 (nI 50) n 0 [] := by
    rw [hm1]
    refine ⟨fun b p q => by rw [zup_ne p, zup_ne p, zup_ne p], ?_, ?_, ?_, ?_, fun k hk => (by cases hk), fun k hk => by rw [zup_ne (by decide), zup_ne (by decide), zup_ne (by decide)]; exact h49 k hk⟩
    · simp only [zup, if_true, if_neg (show ¬ 0 = 5 by decide), if_neg (show ¬ 0 = 4 by decide), if_neg (show ¬ 0 = 1 by decide)]; exact h0
    · simp only [zup, if_true, if_neg (show ¬ 1 = 5 by decide), if_neg (show ¬ 1 = 4 by decide)]; rfl
    · simp only [zup, if_true, if_neg (show ¬ 4 = 5 by decide)]; rfl
    · simp only [zup, if_true]; rfl
  refine Wp.sub (a := [(0, .ref 48), (1, .int (nI 0))]) (zle_cons rfl (zle_cons rfl (zle_nil))) ?_
  exact c_tv hT hv 9 0 ([], fun _ => 0, 50) 0 m1 rfl H (Nat.zero_le _) ⟨fun nm s => (by show (s, 0) = (s + 0, 0); rw [Int32.add_zero]), fun x hx => (by cases hx), (by decide), Nat.le_refl _, Nat.le_refl _⟩
