/-! CELLS WHOSE NUMBER ISN'T WRITTEN: the villages -/
section WV
variable {E : zEn} {d : Nat} {cd : List zI} {pc : Nat} {lv : zLv} {rs : List Value} {w : zW} {P : Option Value → zW → Prop}
theorem Wp.ifnonnull {n : Int} {len fa fb fc a : Nat} (hi : cd[pc]? = some (.ifnonnull n, len, fa, fb, fc)) (ha : a < zEX) (h : Wp E d cd fa lv rs w P) : Wp E d cd pc lv (.ref a :: rs) w P := by
  obtain ⟨r, w', h, hp⟩ := h
  refine ⟨r, w', Ev.step (x := (fa, lv, rs, w)) hi rfl ?_ h, hp⟩
  simp only [zstep, if_pos ha]
theorem Wp.ifnull {n : Int} {len fa fb fc a : Nat} (hi : cd[pc]? = some (.ifnull n, len, fa, fb, fc)) (ha : a < zEX) (h : Wp E d cd (pc + 3) lv rs w P) : Wp E d cd pc lv (.ref a :: rs) w P := by
  obtain ⟨r, w', h, hp⟩ := h
  refine ⟨r, w', Ev.step (x := (pc + 3, lv, rs, w)) hi rfl ?_ h, hp⟩
  simp only [zstep, if_pos ha]
theorem Wp.gint {idx len fa fb fc a t : Nat} (hi : cd[pc]? = some (.getfield idx, len, fa, fb, fc)) (h20 : ¬ fa = 20) (ho : zob w a fa = true) (hF : zF fa fb = some t) (ht : ¬ t = 1) (h : Wp E d cd (pc + 3) lv (.int (w.2.1 a fb) :: rs) w P) : Wp E d cd pc lv (.ref a :: rs) w P := by
  obtain ⟨r, w', h, hp⟩ := h
  refine ⟨r, w', Ev.step (x := (pc + 3, lv, .int (w.2.1 a fb) :: rs, w)) hi rfl ?_ h, hp⟩
  have : zgf w a fa fb = some (.int (w.2.1 a fb)) := by
    unfold zgf
    rw [if_neg h20, if_pos ho, hF]
    split
    · rename_i h9; exact absurd (Option.some.inj h9) ht
    · rfl
    · rename_i h9; cases h9
  simp only [zstep, this]
end WV
/-- a village at v, its program at p -/
def vOK (vs : List (Nat × Nat)) (g : Nat → Nat → Option Nat) (v : Nat) : Prop := v < 500 ∧ (zsh ++ vs)[v]? = some (16, 2)
theorem vOK.ob {vs : List (Nat × Nat)} {g : Nat → Nat → Option Nat} {v : Nat} {mi : Nat → Nat → Int32} {ml : Nat → Nat → Int64} (h : vOK vs g v) : zob (zsh ++ vs, mi, ml, zmr g) v 6 = true := by
  unfold zob
  rw [if_pos h.1]
  dsimp only
  rw [h.2]
  rfl
theorem vOK.rc {vs : List (Nat × Nat)} {g : Nat → Nat → Option Nat} {v : Nat} {mi : Nat → Nat → Int32} {ml : Nat → Nat → Int64} {as : List Value} (h : vOK vs g v) : zrecv (zsh ++ vs, mi, ml, zmr g) 6 (.ref v :: as) = true := by
  show (if 6 = 50 then true else if 6 = 20 then _ else zob (zsh ++ vs, mi, ml, zmr g) v 6) = true
  rw [if_neg (by decide), if_neg (by decide)]
  exact h.ob
/-- how the villages weigh: wg v names, of the villages that hold somewhere (vv); their rows are X -/
def CWs (E : zEn) (vs : List (Nat × Nat)) (g0 : Nat → Nat → Option Nat) (X : Nat → Nat → Int32) (vv : Nat → Prop) (wg : Nat → (Nat → Int32) → Int32) : Prop :=
  ∀ (mi : Nat → Nat → Int32) (ml : Nat → Nat → Int64) (g : Nat → Nat → Option Nat) (v l : Nat) (nm : Nat → Int32), vv v → (∀ b, 86 ≤ b → g b = g0 b) → (l = 10 ∨ l = 47) → (∀ b, 86 ≤ b → mi b = X b) → (∀ f, f < 6 → mi l f = nm f) →
    vOK vs g v ∧ Wp E 1 pg_Village_weigh 0 (lv_args 0 [.ref v, .ref l]) [] (zsh ++ vs, mi, ml, zmr g) (fun r w' => r = some (.int (wg v nm)) ∧ w' = (zsh ++ vs, mi, ml, zmr g))
/-- a band's view -/
def uB (mi : Nat → Nat → Int32) (a k f : Nat) : Int32 := if f = 0 then mi (a + 2) k else if f = 1 then mi (a + 3) k else if f = 2 then mi (a + 4) k else if f = 3 then mi (a + 5) k else if f = 4 then awB mi a k else if f = 5 then mi (a + 6) k else mi (a + 7) (4 * k + (f - 6))
theorem uB_row {mi : Nat → Nat → Int32} {a k d : Nat} : uB mi a k (6 + d) = mi (a + 7) (4 * k + d) := by
  unfold uB
  rw [if_neg (by omega), if_neg (by omega), if_neg (by omega), if_neg (by omega), if_neg (by omega), if_neg (by omega), Nat.add_sub_cancel_left]
def smB (wg : Nat → (Nat → Int32) → Int32) (h : Option Nat) (nm : Nat → Int32) : Int32 := match h with
  | none => 2 * nm 3
  | some v => 2 * nm 3 + wg v nm
def anB (X : Nat → Nat → Int32) (h : Option Nat) : Int32 := match h with
  | none => 50
  | some v => X v 1
