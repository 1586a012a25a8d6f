theorem zckl_app {q : zMe} : ∀ (a b : List zI) (p : Nat), zckl q p (a ++ b) = (zckl q p a && zckl q (p + a.length) b)
  | [], b, p => by simp [zckl]
  | i :: a, b, p => by
    rw [List.cons_append, zckl, zckl, zckl_app a b (p + 1), Bool.and_assoc, List.length_cons, show p + 1 + a.length = p + (a.length + 1) by omega]
theorem ck_L_0 : zckl zm_L_law 0 pg_L_law_0 = true := by decide +kernel
theorem ck_L_1 : zckl zm_L_law 192 pg_L_law_1 = true := by decide +kernel
theorem ck_L_2 : zckl zm_L_law 384 pg_L_law_2 = true := by decide +kernel
theorem ck_L_3 : zckl zm_L_law 576 pg_L_law_3 = true := by decide +kernel
theorem ck_L_4 : zckl zm_L_law 768 pg_L_law_4 = true := by decide +kernel
theorem ck_L_5 : zckl zm_L_law 960 pg_L_law_5 = true := by decide +kernel
theorem ck_L_6 : zckl zm_L_law 1152 pg_L_law_6 = true := by decide +kernel
set_option maxRecDepth 100000 in
theorem ck_L_law : zckl zm_L_law 0 pg_L_law = true := by
  unfold pg_L_law
  simp only [zckl_app, Bool.and_eq_true]
  exact ⟨ck_L_0, ⟨ck_L_1, ⟨ck_L_2, ⟨ck_L_3, ⟨ck_L_4, ⟨ck_L_5, ck_L_6⟩⟩⟩⟩⟩⟩
