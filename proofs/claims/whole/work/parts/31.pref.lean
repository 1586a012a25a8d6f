section WF
variable {E : zEn} {d : Nat} {cd : List zI} {pc : Nat} {lv : zLv} {rs : List Value} {w : zW} {P : Option Value → zW → Prop}
theorem Wp.pref {idx len fa fb fc a v : Nat} (hi : cd[pc]? = some (.putfield idx, len, fa, fb, fc)) (ho : zob w a fa = true) (hF : zF fa fb = some 1) (hv : v < zEX) (h : Wp E d cd (pc + 3) lv rs (w.1, w.2.1, w.2.2.1, zup w.2.2.2 a fb (some v)) P) : Wp E d cd pc lv (.ref v :: .ref a :: rs) w P := by
  obtain ⟨r, w', h, hp⟩ := h
  refine ⟨r, w', Ev.step (x := (pc + 3, lv, rs, (w.1, w.2.1, w.2.2.1, zup w.2.2.2 a fb (some v)))) hi rfl ?_ h, hp⟩
  have : zpf w a fa fb (.ref v) = some (w.1, w.2.1, w.2.2.1, zup w.2.2.2 a fb (some v)) := by
    unfold zpf
    rw [if_pos ho, hF]
    show (if v < zEX then _ else _) = _
    rw [if_pos hv]
  simp only [zstep, this]
end WF
theorem zmr_up_1 {g : Nat → Nat → Option Nat} {v : Option Nat} : zup (zmr g) 1 3 v = zmr (zup g 1 3 v) := zmr_up (fun l u hl => by cases hl; intro h; cases h)
theorem zmr_up_11 {g : Nat → Nat → Option Nat} {v : Option Nat} : zup (zmr g) 11 3 v = zmr (zup g 11 3 v) := zmr_up (fun l u hl => by cases hl; intro h; cases h)
theorem zmr_up_38 {g : Nat → Nat → Option Nat} {v : Option Nat} : zup (zmr g) 38 3 v = zmr (zup g 38 3 v) := zmr_up (fun l u hl => by cases hl; intro h; cases h)
theorem va_cpy_lt {f h : Nat → Int32} {n k : Nat} (hk : k < n) : va_cpy f h 0 0 n k = f k := by
  unfold va_cpy
  rw [if_pos ⟨Nat.zero_le _, by omega⟩, Nat.sub_zero, Nat.zero_add]
