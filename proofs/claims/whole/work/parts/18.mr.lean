/-! THE REFERENCES THAT NEVER CHANGE: cell, field; the rest (which village holds, a village's program) by g -/
def zrt : List (List (Option Nat)) := [[some 1, some 11, some 21, some 29, none, some 37, some 48, none, some 51, some 53], [none, none, none, none, some 2, some 3, some 4, some 5, some 6, some 7, some 8, some 9, some 10], [], [], [], [], [], [], [], [], [], [none, none, none, none, some 12, some 13, some 14, some 15, some 16, some 17, some 18, some 19, some 20], [], [], [], [], [], [], [], [], [], [none, none, none, some 22, some 23, some 24, some 25, some 26, some 27, some 28], [], [], [], [], [], [], [], [none, none, none, some 30, some 31, some 32, some 33, some 34, some 35, some 36], [], [], [], [], [], [], [], [some 38], [none, none, none, none, some 39, some 40, some 41, some 42, some 43, some 44, some 45, some 46, some 47], [], [], [], [], [], [], [], [], [], [none, none, some 49, some 50, none, none], [], [], [some 52, none, none, none, none], [], [some 54, some 56, some 58, some 60, some 62, some 64], [none, none, some 55], [], [none, none, some 57], [], [none, none, some 59], [], [none, none, some 61], [], [none, none, some 63], [], [none, none, some 65], [], [some 67, some 68, some 69, none, some 70, none, some 71, some 72, none, some 73, none, none, none, none, none, none, some 74, some 75, some 76, some 77, some 78, some 79, some 80, some 81, none, some 82, some 83, some 84, some 85], [], [], [], [], [], [], [], [], [], [], [], [], [], [], [], [], [], [], []]
def zmr (g : Nat → Nat → Option Nat) (a f : Nat) : Option Nat := match zrt[a]? with
  | some l => (match l[f]? with
    | some (some v) => some v
    | _ => g a f)
  | none => g a f
theorem zmr_up {g : Nat → Nat → Option Nat} {a f : Nat} {v : Option Nat} (h : ∀ l v, zrt[a]? = some l → ¬ l[f]? = some (some v)) : zup (zmr g) a f v = zmr (zup g a f v) := by
  funext x y
  by_cases hx : x = a
  · subst hx
    by_cases hy : y = f
    · subst hy
      simp only [zup, if_true, zmr]
      split
      · rename_i l hl
        split
        · rename_i u hu
          exact absurd hu (h l u hl)
        · rfl
      · rfl
    · simp only [zup, if_true, zmr, if_neg hy]
  · simp only [zup, zmr, if_neg hx]
section WR
variable {E : zEn} {d : Nat} {cd : List zI} {pc : Nat} {lv : zLv} {rs : List Value} {w : zW} {P : Option Value → zW → Prop}
theorem Wp.gref {idx len fa fb fc a v : Nat} (hi : cd[pc]? = some (.getfield idx, len, fa, fb, fc)) (h20 : (zob w a fa && !(decide (fa = 20))) = true) (hF : zF fa fb = some 1) (hv : w.2.2.2 a fb = some v) (h : Wp E d cd (pc + 3) lv (.ref v :: rs) w P) : Wp E d cd pc lv (.ref a :: rs) w P := by
  obtain ⟨r, w', h, hp⟩ := h
  refine ⟨r, w', Ev.step (x := (pc + 3, lv, .ref v :: rs, w)) hi rfl ?_ h, hp⟩
  simp only [Bool.and_eq_true, Bool.not_eq_true', decide_eq_false_iff_not] at h20
  have : zgf w a fa fb = some (.ref v) := by
    unfold zgf
    rw [if_neg h20.2, if_pos h20.1, hF]
    show some (zrf (w.2.2.2 a fb)) = _
    rw [hv]
    rfl
  simp only [zstep, this]
theorem Wp.grefN {idx len fa fb fc a : Nat} (hi : cd[pc]? = some (.getfield idx, len, fa, fb, fc)) (h20 : (zob w a fa && !(decide (fa = 20))) = true) (hF : zF fa fb = some 1) (hv : w.2.2.2 a fb = none) (h : Wp E d cd (pc + 3) lv (.null :: rs) w P) : Wp E d cd pc lv (.ref a :: rs) w P := by
  obtain ⟨r, w', h, hp⟩ := h
  refine ⟨r, w', Ev.step (x := (pc + 3, lv, .null :: rs, w)) hi rfl ?_ h, hp⟩
  simp only [Bool.and_eq_true, Bool.not_eq_true', decide_eq_false_iff_not] at h20
  have : zgf w a fa fb = some .null := by
    unfold zgf
    rw [if_neg h20.2, if_pos h20.1, hF]
    show some (zrf (w.2.2.2 a fb)) = _
    rw [hv]
    rfl
  simp only [zstep, this]
end WR
