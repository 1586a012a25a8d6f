/-! THE CALLS: act. What an act of a kind does is a tree that hangs on the kind alone: a theorem a node -/
theorem c_rn_0_0_0_0_0 {E : zEn} {vs : List (Nat × Nat)} {mi : Nat → Nat → Int32} {ml : Nat → Nat → Int64} {g : Nat → Nat → Option Nat} {x y v : Int32} (h1 : mi 51 1 = 1) (h2 : mi 51 2 = 0) (h3 : mi 51 3 = y) (h4 : mi 51 4 = v) : Wp E 0 pg_Performance_run 0 (lv_args 0 [.ref 51, .int 10, .int 0, .int x, .int 1]) [] (zsh ++ vs, mi, ml, (zmr g)) (fun r w' => r = some (.int (x + y)) ∧ w' = (zsh ++ vs, mi, ml, zmr g)) := by
  refine Wp.run 5 (105, [(0, .ref 51), (1, .int 10), (2, .int 0), (3, .int x), (4, .int 1)], [.int (mi 51 3), .int x], (zsh ++ vs, mi, ml, (zmr g))) rfl ?_
  refine Wp.topi (y := y) (h3) ?_
  refine Wp.run 1 (106, [(0, .ref 51), (1, .int 10), (2, .int 0), (3, .int x), (4, .int 1)], [.int (x + y)], (zsh ++ vs, mi, ml, (zmr g))) rfl ?_
  refine Wp.ret rfl rfl rfl ?_
  exact ⟨rfl, rfl⟩
theorem c_pf_0_0_0_0_0 {E : zEn} {vs : List (Nat × Nat)} {mi : Nat → Nat → Int32} {ml : Nat → Nat → Int64} {g : Nat → Nat → Option Nat} {x y v : Int32} (h1 : mi 51 1 = 0) (h2 : mi 51 2 = 0) (h3 : mi 51 3 = y) (h4 : mi 51 4 = v) : Wp E 1 pg_Performance_perform 0 (lv_args 0 [.ref 51, .int 0, .int 0, .int x, .int 0]) [] (zsh ++ vs, mi, ml, (zmr g)) (fun r w' => r = some (.int (x + y)) ∧ w' = (zsh ++ vs, (zup (zup mi 52 0 10) 51 1 1), ml, zmr g)) := by
  refine Wp.run 24 (58, [(6, .int 0), (5, .int 0), (0, .ref 51), (1, .int 0), (2, .int 0), (3, .int x), (4, .int 0)], [.int 0, .ref 502], (zsh ++ vs, mi, ml, (zmr g))) rfl ?_
  refine Wp.run 4 (65, [(6, .int 10), (5, .int 0), (0, .ref 51), (1, .int 0), (2, .int 0), (3, .int x), (4, .int 0)], [.int (mi 51 1)], (zsh ++ vs, mi, ml, (zmr g))) rfl ?_
  refine Wp.topi (y := 0) (h1) ?_
  refine Wp.run 6 (78, [(6, .int 10), (5, .int 0), (0, .ref 51), (1, .int 0), (2, .int 0), (3, .int x), (4, .int 0)], [.int (mi 51 1), .ref 52], (zsh ++ vs, mi, ml, (zmr g))) rfl ?_
  refine Wp.topi (y := 0) (h1) ?_
  refine Wp.run 5 (86, [(6, .int 10), (5, .int 0), (0, .ref 51), (1, .int 0), (2, .int 0), (3, .int x), (4, .int 0)], [.int (mi 51 1), .ref 51], (zsh ++ vs, (zup mi 52 0 10), ml, (zmr g))) rfl ?_
  refine Wp.topi (y := 0) (h1) ?_
  refine Wp.run 12 (105, [(6, .int 10), (5, .int 0), (0, .ref 51), (1, .int 0), (2, .int 0), (3, .int x), (4, .int 0)], [.int 1, .int x, .int 0, .int 10, .ref 51], (zsh ++ vs, (zup (zup mi 52 0 10) 51 1 1), ml, (zmr g))) rfl ?_
  refine Wp.call (as := [.ref 51, .int 10, .int 0, .int x, .int 1]) (rest := []) rfl rfl rfl rfl rfl (Nat.le_of_ble_eq_true rfl) (Nat.le_of_ble_eq_true rfl) rfl (by decide) (c_rn_0_0_0_0_0 (mi := (zup (zup mi 52 0 10) 51 1 1)) rfl h2 h3 h4) ?_
  rintro _ _ ⟨rfl, rfl⟩
  refine Wp.run 0 (108, [(6, .int 10), (5, .int 0), (0, .ref 51), (1, .int 0), (2, .int 0), (3, .int x), (4, .int 0)], [.int (x + y)], (zsh ++ vs, (zup (zup mi 52 0 10) 51 1 1), ml, (zmr g))) rfl ?_
  refine Wp.ret rfl rfl rfl ?_
  exact ⟨rfl, rfl⟩
theorem c_rn_0_0_0_1_1 {E : zEn} {vs : List (Nat × Nat)} {mi : Nat → Nat → Int32} {ml : Nat → Nat → Int64} {g : Nat → Nat → Option Nat} {x y v : Int32} (h1 : mi 51 1 = 2) (h2 : mi 51 2 = 0) (h3 : mi 51 3 = y) (h4 : mi 51 4 = v) : Wp E 0 pg_Performance_run 0 (lv_args 0 [.ref 51, .int 10, .int 0, .int x, .int 2]) [] (zsh ++ vs, mi, ml, (zmr g)) (fun r w' => r = some (.int (x + y)) ∧ w' = (zsh ++ vs, mi, ml, zmr g)) := by
  refine Wp.run 5 (105, [(0, .ref 51), (1, .int 10), (2, .int 0), (3, .int x), (4, .int 2)], [.int (mi 51 3), .int x], (zsh ++ vs, mi, ml, (zmr g))) rfl ?_
  refine Wp.topi (y := y) (h3) ?_
  refine Wp.run 1 (106, [(0, .ref 51), (1, .int 10), (2, .int 0), (3, .int x), (4, .int 2)], [.int (x + y)], (zsh ++ vs, mi, ml, (zmr g))) rfl ?_
  refine Wp.ret rfl rfl rfl ?_
  exact ⟨rfl, rfl⟩
theorem c_pf_0_0_0_1_1 {E : zEn} {vs : List (Nat × Nat)} {mi : Nat → Nat → Int32} {ml : Nat → Nat → Int64} {g : Nat → Nat → Option Nat} {x y v : Int32} (h1 : mi 51 1 = 1) (h2 : mi 51 2 = 0) (h3 : mi 51 3 = y) (h4 : mi 51 4 = v) : Wp E 1 pg_Performance_perform 0 (lv_args 0 [.ref 51, .int 0, .int 0, .int x, .int 1]) [] (zsh ++ vs, mi, ml, (zmr g)) (fun r w' => r = some (.int (x + y)) ∧ w' = (zsh ++ vs, (zup (zup mi 52 1 10) 51 1 2), ml, zmr g)) := by
  refine Wp.run 24 (58, [(6, .int 0), (5, .int 0), (0, .ref 51), (1, .int 0), (2, .int 0), (3, .int x), (4, .int 1)], [.int 0, .ref 502], (zsh ++ vs, mi, ml, (zmr g))) rfl ?_
  refine Wp.run 4 (65, [(6, .int 10), (5, .int 0), (0, .ref 51), (1, .int 0), (2, .int 0), (3, .int x), (4, .int 1)], [.int (mi 51 1)], (zsh ++ vs, mi, ml, (zmr g))) rfl ?_
  refine Wp.topi (y := 1) (h1) ?_
  refine Wp.run 6 (78, [(6, .int 10), (5, .int 0), (0, .ref 51), (1, .int 0), (2, .int 0), (3, .int x), (4, .int 1)], [.int (mi 51 1), .ref 52], (zsh ++ vs, mi, ml, (zmr g))) rfl ?_
  refine Wp.topi (y := 1) (h1) ?_
  refine Wp.run 5 (86, [(6, .int 10), (5, .int 0), (0, .ref 51), (1, .int 0), (2, .int 0), (3, .int x), (4, .int 1)], [.int (mi 51 1), .ref 51], (zsh ++ vs, (zup mi 52 1 10), ml, (zmr g))) rfl ?_
  refine Wp.topi (y := 1) (h1) ?_
  refine Wp.run 12 (105, [(6, .int 10), (5, .int 0), (0, .ref 51), (1, .int 0), (2, .int 0), (3, .int x), (4, .int 1)], [.int 2, .int x, .int 0, .int 10, .ref 51], (zsh ++ vs, (zup (zup mi 52 1 10) 51 1 2), ml, (zmr g))) rfl ?_
  refine Wp.call (as := [.ref 51, .int 10, .int 0, .int x, .int 2]) (rest := []) rfl rfl rfl rfl rfl (Nat.le_of_ble_eq_true rfl) (Nat.le_of_ble_eq_true rfl) rfl (by decide) (c_rn_0_0_0_1_1 (mi := (zup (zup mi 52 1 10) 51 1 2)) rfl h2 h3 h4) ?_
  rintro _ _ ⟨rfl, rfl⟩
  refine Wp.run 0 (108, [(6, .int 10), (5, .int 0), (0, .ref 51), (1, .int 0), (2, .int 0), (3, .int x), (4, .int 1)], [.int (x + y)], (zsh ++ vs, (zup (zup mi 52 1 10) 51 1 2), ml, (zmr g))) rfl ?_
  refine Wp.ret rfl rfl rfl ?_
  exact ⟨rfl, rfl⟩
theorem c_rn_0_0_1_0_0 {E : zEn} {vs : List (Nat × Nat)} {mi : Nat → Nat → Int32} {ml : Nat → Nat → Int64} {g : Nat → Nat → Option Nat} {x y v : Int32} (h1 : mi 51 1 = 1) (h2 : mi 51 2 = 0) (h3 : mi 51 3 = y) (h4 : mi 51 4 = v) : Wp E 2 pg_Performance_run 0 (lv_args 0 [.ref 51, .int 11, .int 0, .int x, .int 1]) [] (zsh ++ vs, mi, ml, (zmr g)) (fun r w' => r = some (.int ((x + y) - v)) ∧ w' = (zsh ++ vs, (zup (zup mi 52 1 10) 51 1 2), ml, zmr g)) := by
  refine Wp.run 5 (112, [(0, .ref 51), (1, .int 11), (2, .int 0), (3, .int x), (4, .int 1)], [.int (mi 51 2), .ref 51], (zsh ++ vs, mi, ml, (zmr g))) rfl ?_
  refine Wp.topi (y := 0) (h2) ?_
  refine Wp.run 3 (116, [(0, .ref 51), (1, .int 11), (2, .int 0), (3, .int x), (4, .int 1)], [.int 1, .int x, .int 0, .int 0, .ref 51], (zsh ++ vs, mi, ml, (zmr g))) rfl ?_
  refine Wp.call (as := [.ref 51, .int 0, .int 0, .int x, .int 1]) (rest := []) rfl rfl rfl rfl rfl (Nat.le_of_ble_eq_true rfl) (Nat.le_of_ble_eq_true rfl) rfl (by decide) (c_pf_0_0_0_1_1 (mi := mi) (x := x) h1 h2 h3 h4) ?_
  rintro _ _ ⟨rfl, rfl⟩
  refine Wp.run 2 (123, [(0, .ref 51), (1, .int 11), (2, .int 0), (3, .int x), (4, .int 1)], [.int (mi 51 4), .int (x + y)], (zsh ++ vs, (zup (zup mi 52 1 10) 51 1 2), ml, (zmr g))) rfl ?_
  refine Wp.topi (y := v) (h4) ?_
  refine Wp.run 1 (124, [(0, .ref 51), (1, .int 11), (2, .int 0), (3, .int x), (4, .int 1)], [.int ((x + y) - v)], (zsh ++ vs, (zup (zup mi 52 1 10) 51 1 2), ml, (zmr g))) rfl ?_
  refine Wp.ret rfl rfl rfl ?_
  exact ⟨rfl, rfl⟩
theorem c_pf_0_0_1_0_0 {E : zEn} {vs : List (Nat × Nat)} {mi : Nat → Nat → Int32} {ml : Nat → Nat → Int64} {g : Nat → Nat → Option Nat} {x y v : Int32} (h1 : mi 51 1 = 0) (h2 : mi 51 2 = 0) (h3 : mi 51 3 = y) (h4 : mi 51 4 = v) : Wp E 3 pg_Performance_perform 0 (lv_args 0 [.ref 51, .int 0, .int 1, .int x, .int 0]) [] (zsh ++ vs, mi, ml, (zmr g)) (fun r w' => r = some (.int ((x + y) - v)) ∧ w' = (zsh ++ vs, (zup (zup (zup (zup mi 52 0 11) 51 1 1) 52 1 10) 51 1 2), ml, zmr g)) := by
  refine Wp.run 24 (58, [(6, .int 0), (5, .int 0), (0, .ref 51), (1, .int 0), (2, .int 1), (3, .int x), (4, .int 0)], [.int 1, .ref 502], (zsh ++ vs, mi, ml, (zmr g))) rfl ?_
  refine Wp.run 4 (65, [(6, .int 11), (5, .int 0), (0, .ref 51), (1, .int 0), (2, .int 1), (3, .int x), (4, .int 0)], [.int (mi 51 1)], (zsh ++ vs, mi, ml, (zmr g))) rfl ?_
  refine Wp.topi (y := 0) (h1) ?_
  refine Wp.run 6 (78, [(6, .int 11), (5, .int 0), (0, .ref 51), (1, .int 0), (2, .int 1), (3, .int x), (4, .int 0)], [.int (mi 51 1), .ref 52], (zsh ++ vs, mi, ml, (zmr g))) rfl ?_
  refine Wp.topi (y := 0) (h1) ?_
  refine Wp.run 5 (86, [(6, .int 11), (5, .int 0), (0, .ref 51), (1, .int 0), (2, .int 1), (3, .int x), (4, .int 0)], [.int (mi 51 1), .ref 51], (zsh ++ vs, (zup mi 52 0 11), ml, (zmr g))) rfl ?_
  refine Wp.topi (y := 0) (h1) ?_
  refine Wp.run 12 (105, [(6, .int 11), (5, .int 0), (0, .ref 51), (1, .int 0), (2, .int 1), (3, .int x), (4, .int 0)], [.int 1, .int x, .int 0, .int 11, .ref 51], (zsh ++ vs, (zup (zup mi 52 0 11) 51 1 1), ml, (zmr g))) rfl ?_
  refine Wp.call (as := [.ref 51, .int 11, .int 0, .int x, .int 1]) (rest := []) rfl rfl rfl rfl rfl (Nat.le_of_ble_eq_true rfl) (Nat.le_of_ble_eq_true rfl) rfl (by decide) (c_rn_0_0_1_0_0 (mi := (zup (zup mi 52 0 11) 51 1 1)) rfl h2 h3 h4) ?_
  rintro _ _ ⟨rfl, rfl⟩
  refine Wp.run 0 (108, [(6, .int 11), (5, .int 0), (0, .ref 51), (1, .int 0), (2, .int 1), (3, .int x), (4, .int 0)], [.int ((x + y) - v)], (zsh ++ vs, (zup (zup (zup (zup mi 52 0 11) 51 1 1) 52 1 10) 51 1 2), ml, (zmr g))) rfl ?_
  refine Wp.ret rfl rfl rfl ?_
  exact ⟨rfl, rfl⟩
theorem c_rn_0_0_0_2_2 {E : zEn} {vs : List (Nat × Nat)} {mi : Nat → Nat → Int32} {ml : Nat → Nat → Int64} {g : Nat → Nat → Option Nat} {x y v : Int32} (h1 : mi 51 1 = 3) (h2 : mi 51 2 = 0) (h3 : mi 51 3 = y) (h4 : mi 51 4 = v) : Wp E 0 pg_Performance_run 0 (lv_args 0 [.ref 51, .int 10, .int 0, .int x, .int 3]) [] (zsh ++ vs, mi, ml, (zmr g)) (fun r w' => r = some (.int (x + y)) ∧ w' = (zsh ++ vs, mi, ml, zmr g)) := by
  refine Wp.run 5 (105, [(0, .ref 51), (1, .int 10), (2, .int 0), (3, .int x), (4, .int 3)], [.int (mi 51 3), .int x], (zsh ++ vs, mi, ml, (zmr g))) rfl ?_
  refine Wp.topi (y := y) (h3) ?_
  refine Wp.run 1 (106, [(0, .ref 51), (1, .int 10), (2, .int 0), (3, .int x), (4, .int 3)], [.int (x + y)], (zsh ++ vs, mi, ml, (zmr g))) rfl ?_
  refine Wp.ret rfl rfl rfl ?_
  exact ⟨rfl, rfl⟩
theorem c_pf_0_0_0_2_2 {E : zEn} {vs : List (Nat × Nat)} {mi : Nat → Nat → Int32} {ml : Nat → Nat → Int64} {g : Nat → Nat → Option Nat} {x y v : Int32} (h1 : mi 51 1 = 2) (h2 : mi 51 2 = 0) (h3 : mi 51 3 = y) (h4 : mi 51 4 = v) : Wp E 1 pg_Performance_perform 0 (lv_args 0 [.ref 51, .int 0, .int 0, .int x, .int 2]) [] (zsh ++ vs, mi, ml, (zmr g)) (fun r w' => r = some (.int (x + y)) ∧ w' = (zsh ++ vs, (zup (zup mi 52 2 10) 51 1 3), ml, zmr g)) := by
  refine Wp.run 24 (58, [(6, .int 0), (5, .int 0), (0, .ref 51), (1, .int 0), (2, .int 0), (3, .int x), (4, .int 2)], [.int 0, .ref 502], (zsh ++ vs, mi, ml, (zmr g))) rfl ?_
  refine Wp.run 4 (65, [(6, .int 10), (5, .int 0), (0, .ref 51), (1, .int 0), (2, .int 0), (3, .int x), (4, .int 2)], [.int (mi 51 1)], (zsh ++ vs, mi, ml, (zmr g))) rfl ?_
  refine Wp.topi (y := 2) (h1) ?_
  refine Wp.run 6 (78, [(6, .int 10), (5, .int 0), (0, .ref 51), (1, .int 0), (2, .int 0), (3, .int x), (4, .int 2)], [.int (mi 51 1), .ref 52], (zsh ++ vs, mi, ml, (zmr g))) rfl ?_
  refine Wp.topi (y := 2) (h1) ?_
  refine Wp.run 5 (86, [(6, .int 10), (5, .int 0), (0, .ref 51), (1, .int 0), (2, .int 0), (3, .int x), (4, .int 2)], [.int (mi 51 1), .ref 51], (zsh ++ vs, (zup mi 52 2 10), ml, (zmr g))) rfl ?_
  refine Wp.topi (y := 2) (h1) ?_
  refine Wp.run 12 (105, [(6, .int 10), (5, .int 0), (0, .ref 51), (1, .int 0), (2, .int 0), (3, .int x), (4, .int 2)], [.int 3, .int x, .int 0, .int 10, .ref 51], (zsh ++ vs, (zup (zup mi 52 2 10) 51 1 3), ml, (zmr g))) rfl ?_
  refine Wp.call (as := [.ref 51, .int 10, .int 0, .int x, .int 3]) (rest := []) rfl rfl rfl rfl rfl (Nat.le_of_ble_eq_true rfl) (Nat.le_of_ble_eq_true rfl) rfl (by decide) (c_rn_0_0_0_2_2 (mi := (zup (zup mi 52 2 10) 51 1 3)) rfl h2 h3 h4) ?_
  rintro _ _ ⟨rfl, rfl⟩
  refine Wp.run 0 (108, [(6, .int 10), (5, .int 0), (0, .ref 51), (1, .int 0), (2, .int 0), (3, .int x), (4, .int 2)], [.int (x + y)], (zsh ++ vs, (zup (zup mi 52 2 10) 51 1 3), ml, (zmr g))) rfl ?_
  refine Wp.ret rfl rfl rfl ?_
  exact ⟨rfl, rfl⟩
theorem c_rn_0_0_1_1_1 {E : zEn} {vs : List (Nat × Nat)} {mi : Nat → Nat → Int32} {ml : Nat → Nat → Int64} {g : Nat → Nat → Option Nat} {x y v : Int32} (h1 : mi 51 1 = 2) (h2 : mi 51 2 = 0) (h3 : mi 51 3 = y) (h4 : mi 51 4 = v) : Wp E 2 pg_Performance_run 0 (lv_args 0 [.ref 51, .int 11, .int 0, .int x, .int 2]) [] (zsh ++ vs, mi, ml, (zmr g)) (fun r w' => r = some (.int ((x + y) - v)) ∧ w' = (zsh ++ vs, (zup (zup mi 52 2 10) 51 1 3), ml, zmr g)) := by
  refine Wp.run 5 (112, [(0, .ref 51), (1, .int 11), (2, .int 0), (3, .int x), (4, .int 2)], [.int (mi 51 2), .ref 51], (zsh ++ vs, mi, ml, (zmr g))) rfl ?_
  refine Wp.topi (y := 0) (h2) ?_
  refine Wp.run 3 (116, [(0, .ref 51), (1, .int 11), (2, .int 0), (3, .int x), (4, .int 2)], [.int 2, .int x, .int 0, .int 0, .ref 51], (zsh ++ vs, mi, ml, (zmr g))) rfl ?_
  refine Wp.call (as := [.ref 51, .int 0, .int 0, .int x, .int 2]) (rest := []) rfl rfl rfl rfl rfl (Nat.le_of_ble_eq_true rfl) (Nat.le_of_ble_eq_true rfl) rfl (by decide) (c_pf_0_0_0_2_2 (mi := mi) (x := x) h1 h2 h3 h4) ?_
  rintro _ _ ⟨rfl, rfl⟩
  refine Wp.run 2 (123, [(0, .ref 51), (1, .int 11), (2, .int 0), (3, .int x), (4, .int 2)], [.int (mi 51 4), .int (x + y)], (zsh ++ vs, (zup (zup mi 52 2 10) 51 1 3), ml, (zmr g))) rfl ?_
  refine Wp.topi (y := v) (h4) ?_
  refine Wp.run 1 (124, [(0, .ref 51), (1, .int 11), (2, .int 0), (3, .int x), (4, .int 2)], [.int ((x + y) - v)], (zsh ++ vs, (zup (zup mi 52 2 10) 51 1 3), ml, (zmr g))) rfl ?_
  refine Wp.ret rfl rfl rfl ?_
  exact ⟨rfl, rfl⟩
theorem c_pf_0_0_1_1_1 {E : zEn} {vs : List (Nat × Nat)} {mi : Nat → Nat → Int32} {ml : Nat → Nat → Int64} {g : Nat → Nat → Option Nat} {x y v : Int32} (h1 : mi 51 1 = 1) (h2 : mi 51 2 = 0) (h3 : mi 51 3 = y) (h4 : mi 51 4 = v) : Wp E 3 pg_Performance_perform 0 (lv_args 0 [.ref 51, .int 0, .int 1, .int x, .int 1]) [] (zsh ++ vs, mi, ml, (zmr g)) (fun r w' => r = some (.int ((x + y) - v)) ∧ w' = (zsh ++ vs, (zup (zup (zup (zup mi 52 1 11) 51 1 2) 52 2 10) 51 1 3), ml, zmr g)) := by
  refine Wp.run 24 (58, [(6, .int 0), (5, .int 0), (0, .ref 51), (1, .int 0), (2, .int 1), (3, .int x), (4, .int 1)], [.int 1, .ref 502], (zsh ++ vs, mi, ml, (zmr g))) rfl ?_
  refine Wp.run 4 (65, [(6, .int 11), (5, .int 0), (0, .ref 51), (1, .int 0), (2, .int 1), (3, .int x), (4, .int 1)], [.int (mi 51 1)], (zsh ++ vs, mi, ml, (zmr g))) rfl ?_
  refine Wp.topi (y := 1) (h1) ?_
  refine Wp.run 6 (78, [(6, .int 11), (5, .int 0), (0, .ref 51), (1, .int 0), (2, .int 1), (3, .int x), (4, .int 1)], [.int (mi 51 1), .ref 52], (zsh ++ vs, mi, ml, (zmr g))) rfl ?_
  refine Wp.topi (y := 1) (h1) ?_
  refine Wp.run 5 (86, [(6, .int 11), (5, .int 0), (0, .ref 51), (1, .int 0), (2, .int 1), (3, .int x), (4, .int 1)], [.int (mi 51 1), .ref 51], (zsh ++ vs, (zup mi 52 1 11), ml, (zmr g))) rfl ?_
  refine Wp.topi (y := 1) (h1) ?_
  refine Wp.run 12 (105, [(6, .int 11), (5, .int 0), (0, .ref 51), (1, .int 0), (2, .int 1), (3, .int x), (4, .int 1)], [.int 2, .int x, .int 0, .int 11, .ref 51], (zsh ++ vs, (zup (zup mi 52 1 11) 51 1 2), ml, (zmr g))) rfl ?_
  refine Wp.call (as := [.ref 51, .int 11, .int 0, .int x, .int 2]) (rest := []) rfl rfl rfl rfl rfl (Nat.le_of_ble_eq_true rfl) (Nat.le_of_ble_eq_true rfl) rfl (by decide) (c_rn_0_0_1_1_1 (mi := (zup (zup mi 52 1 11) 51 1 2)) rfl h2 h3 h4) ?_
  rintro _ _ ⟨rfl, rfl⟩
  refine Wp.run 0 (108, [(6, .int 11), (5, .int 0), (0, .ref 51), (1, .int 0), (2, .int 1), (3, .int x), (4, .int 1)], [.int ((x + y) - v)], (zsh ++ vs, (zup (zup (zup (zup mi 52 1 11) 51 1 2) 52 2 10) 51 1 3), ml, (zmr g))) rfl ?_
  refine Wp.ret rfl rfl rfl ?_
  exact ⟨rfl, rfl⟩
theorem c_rn_0_0_2_0_0 {E : zEn} {vs : List (Nat × Nat)} {mi : Nat → Nat → Int32} {ml : Nat → Nat → Int64} {g : Nat → Nat → Option Nat} {x y v : Int32} (h1 : mi 51 1 = 1) (h2 : mi 51 2 = 0) (h3 : mi 51 3 = y) (h4 : mi 51 4 = v) : Wp E 4 pg_Performance_run 0 (lv_args 0 [.ref 51, .int 12, .int 0, .int x, .int 1]) [] (zsh ++ vs, mi, ml, (zmr g)) (fun r w' => r = some (.int (((x + y) - v) * 2)) ∧ w' = (zsh ++ vs, (zup (zup (zup (zup mi 52 1 11) 51 1 2) 52 2 10) 51 1 3), ml, zmr g)) := by
  refine Wp.run 5 (130, [(0, .ref 51), (1, .int 12), (2, .int 0), (3, .int x), (4, .int 1)], [.int (mi 51 2), .ref 51], (zsh ++ vs, mi, ml, (zmr g))) rfl ?_
  refine Wp.topi (y := 0) (h2) ?_
  refine Wp.run 3 (134, [(0, .ref 51), (1, .int 12), (2, .int 0), (3, .int x), (4, .int 1)], [.int 1, .int x, .int 1, .int 0, .ref 51], (zsh ++ vs, mi, ml, (zmr g))) rfl ?_
  refine Wp.call (as := [.ref 51, .int 0, .int 1, .int x, .int 1]) (rest := []) rfl rfl rfl rfl rfl (Nat.le_of_ble_eq_true rfl) (Nat.le_of_ble_eq_true rfl) rfl (by decide) (c_pf_0_0_1_1_1 (mi := mi) (x := x) h1 h2 h3 h4) ?_
  rintro _ _ ⟨rfl, rfl⟩
  refine Wp.run 2 (139, [(0, .ref 51), (1, .int 12), (2, .int 0), (3, .int x), (4, .int 1)], [.int (((x + y) - v) * 2)], (zsh ++ vs, (zup (zup (zup (zup mi 52 1 11) 51 1 2) 52 2 10) 51 1 3), ml, (zmr g))) rfl ?_
  refine Wp.ret rfl rfl rfl ?_
  exact ⟨rfl, rfl⟩
theorem c_pf_0_0_2_0_0 {E : zEn} {vs : List (Nat × Nat)} {mi : Nat → Nat → Int32} {ml : Nat → Nat → Int64} {g : Nat → Nat → Option Nat} {x y v : Int32} (h1 : mi 51 1 = 0) (h2 : mi 51 2 = 0) (h3 : mi 51 3 = y) (h4 : mi 51 4 = v) : Wp E 5 pg_Performance_perform 0 (lv_args 0 [.ref 51, .int 0, .int 2, .int x, .int 0]) [] (zsh ++ vs, mi, ml, (zmr g)) (fun r w' => r = some (.int (((x + y) - v) * 2)) ∧ w' = (zsh ++ vs, (zup (zup (zup (zup (zup (zup mi 52 0 12) 51 1 1) 52 1 11) 51 1 2) 52 2 10) 51 1 3), ml, zmr g)) := by
  refine Wp.run 24 (58, [(6, .int 0), (5, .int 0), (0, .ref 51), (1, .int 0), (2, .int 2), (3, .int x), (4, .int 0)], [.int 2, .ref 502], (zsh ++ vs, mi, ml, (zmr g))) rfl ?_
  refine Wp.run 4 (65, [(6, .int 12), (5, .int 0), (0, .ref 51), (1, .int 0), (2, .int 2), (3, .int x), (4, .int 0)], [.int (mi 51 1)], (zsh ++ vs, mi, ml, (zmr g))) rfl ?_
  refine Wp.topi (y := 0) (h1) ?_
  refine Wp.run 6 (78, [(6, .int 12), (5, .int 0), (0, .ref 51), (1, .int 0), (2, .int 2), (3, .int x), (4, .int 0)], [.int (mi 51 1), .ref 52], (zsh ++ vs, mi, ml, (zmr g))) rfl ?_
  refine Wp.topi (y := 0) (h1) ?_
  refine Wp.run 5 (86, [(6, .int 12), (5, .int 0), (0, .ref 51), (1, .int 0), (2, .int 2), (3, .int x), (4, .int 0)], [.int (mi 51 1), .ref 51], (zsh ++ vs, (zup mi 52 0 12), ml, (zmr g))) rfl ?_
  refine Wp.topi (y := 0) (h1) ?_
  refine Wp.run 12 (105, [(6, .int 12), (5, .int 0), (0, .ref 51), (1, .int 0), (2, .int 2), (3, .int x), (4, .int 0)], [.int 1, .int x, .int 0, .int 12, .ref 51], (zsh ++ vs, (zup (zup mi 52 0 12) 51 1 1), ml, (zmr g))) rfl ?_
  refine Wp.call (as := [.ref 51, .int 12, .int 0, .int x, .int 1]) (rest := []) rfl rfl rfl rfl rfl (Nat.le_of_ble_eq_true rfl) (Nat.le_of_ble_eq_true rfl) rfl (by decide) (c_rn_0_0_2_0_0 (mi := (zup (zup mi 52 0 12) 51 1 1)) rfl h2 h3 h4) ?_
  rintro _ _ ⟨rfl, rfl⟩
  refine Wp.run 0 (108, [(6, .int 12), (5, .int 0), (0, .ref 51), (1, .int 0), (2, .int 2), (3, .int x), (4, .int 0)], [.int (((x + y) - v) * 2)], (zsh ++ vs, (zup (zup (zup (zup (zup (zup mi 52 0 12) 51 1 1) 52 1 11) 51 1 2) 52 2 10) 51 1 3), ml, (zmr g))) rfl ?_
  refine Wp.ret rfl rfl rfl ?_
  exact ⟨rfl, rfl⟩
theorem c_rn_1_1_0_0_0 {E : zEn} {vs : List (Nat × Nat)} {mi : Nat → Nat → Int32} {ml : Nat → Nat → Int64} {g : Nat → Nat → Option Nat} {x y v : Int32} (h1 : mi 51 1 = 1) (h2 : mi 51 2 = 1) (h3 : mi 51 3 = y) (h4 : mi 51 4 = v) : Wp E 0 pg_Performance_run 0 (lv_args 0 [.ref 51, .int 10, .int 0, .int x, .int 1]) [] (zsh ++ vs, mi, ml, (zmr g)) (fun r w' => r = some (.int (x + y)) ∧ w' = (zsh ++ vs, mi, ml, zmr g)) := by
  refine Wp.run 5 (105, [(0, .ref 51), (1, .int 10), (2, .int 0), (3, .int x), (4, .int 1)], [.int (mi 51 3), .int x], (zsh ++ vs, mi, ml, (zmr g))) rfl ?_
  refine Wp.topi (y := y) (h3) ?_
  refine Wp.run 1 (106, [(0, .ref 51), (1, .int 10), (2, .int 0), (3, .int x), (4, .int 1)], [.int (x + y)], (zsh ++ vs, mi, ml, (zmr g))) rfl ?_
  refine Wp.ret rfl rfl rfl ?_
  exact ⟨rfl, rfl⟩
theorem c_pf_1_1_0_0_0 {E : zEn} {vs : List (Nat × Nat)} {mi : Nat → Nat → Int32} {ml : Nat → Nat → Int64} {g : Nat → Nat → Option Nat} {x y v : Int32} (h1 : mi 51 1 = 0) (h2 : mi 51 2 = 1) (h3 : mi 51 3 = y) (h4 : mi 51 4 = v) : Wp E 1 pg_Performance_perform 0 (lv_args 0 [.ref 51, .int 1, .int 0, .int x, .int 0]) [] (zsh ++ vs, mi, ml, (zmr g)) (fun r w' => r = some (.int (x + y)) ∧ w' = (zsh ++ vs, (zup (zup mi 52 0 10) 51 1 1), ml, zmr g)) := by
  refine Wp.run 24 (15, [(6, .int 1), (5, .int 0), (0, .ref 51), (1, .int 1), (2, .int 0), (3, .int x), (4, .int 0)], [], (zsh ++ vs, mi, ml, (zmr g))) rfl ?_
  refine Wp.run 21 (65, [(6, .int 10), (5, .int 0), (0, .ref 51), (1, .int 1), (2, .int 0), (3, .int x), (4, .int 0)], [.int (mi 51 1)], (zsh ++ vs, mi, ml, (zmr g))) rfl ?_
  refine Wp.topi (y := 0) (h1) ?_
  refine Wp.run 6 (78, [(6, .int 10), (5, .int 0), (0, .ref 51), (1, .int 1), (2, .int 0), (3, .int x), (4, .int 0)], [.int (mi 51 1), .ref 52], (zsh ++ vs, mi, ml, (zmr g))) rfl ?_
  refine Wp.topi (y := 0) (h1) ?_
  refine Wp.run 5 (86, [(6, .int 10), (5, .int 0), (0, .ref 51), (1, .int 1), (2, .int 0), (3, .int x), (4, .int 0)], [.int (mi 51 1), .ref 51], (zsh ++ vs, (zup mi 52 0 10), ml, (zmr g))) rfl ?_
  refine Wp.topi (y := 0) (h1) ?_
  refine Wp.run 12 (105, [(6, .int 10), (5, .int 0), (0, .ref 51), (1, .int 1), (2, .int 0), (3, .int x), (4, .int 0)], [.int 1, .int x, .int 0, .int 10, .ref 51], (zsh ++ vs, (zup (zup mi 52 0 10) 51 1 1), ml, (zmr g))) rfl ?_
  refine Wp.call (as := [.ref 51, .int 10, .int 0, .int x, .int 1]) (rest := []) rfl rfl rfl rfl rfl (Nat.le_of_ble_eq_true rfl) (Nat.le_of_ble_eq_true rfl) rfl (by decide) (c_rn_1_1_0_0_0 (mi := (zup (zup mi 52 0 10) 51 1 1)) rfl h2 h3 h4) ?_
  rintro _ _ ⟨rfl, rfl⟩
  refine Wp.run 0 (108, [(6, .int 10), (5, .int 0), (0, .ref 51), (1, .int 1), (2, .int 0), (3, .int x), (4, .int 0)], [.int (x + y)], (zsh ++ vs, (zup (zup mi 52 0 10) 51 1 1), ml, (zmr g))) rfl ?_
  refine Wp.ret rfl rfl rfl ?_
  exact ⟨rfl, rfl⟩
theorem c_rn_1_1_0_2_2 {E : zEn} {vs : List (Nat × Nat)} {mi : Nat → Nat → Int32} {ml : Nat → Nat → Int64} {g : Nat → Nat → Option Nat} {x y v : Int32} (h1 : mi 51 1 = 3) (h2 : mi 51 2 = 1) (h3 : mi 51 3 = y) (h4 : mi 51 4 = v) : Wp E 0 pg_Performance_run 0 (lv_args 0 [.ref 51, .int 10, .int 0, .int x, .int 3]) [] (zsh ++ vs, mi, ml, (zmr g)) (fun r w' => r = some (.int (x + y)) ∧ w' = (zsh ++ vs, mi, ml, zmr g)) := by
  refine Wp.run 5 (105, [(0, .ref 51), (1, .int 10), (2, .int 0), (3, .int x), (4, .int 3)], [.int (mi 51 3), .int x], (zsh ++ vs, mi, ml, (zmr g))) rfl ?_
  refine Wp.topi (y := y) (h3) ?_
  refine Wp.run 1 (106, [(0, .ref 51), (1, .int 10), (2, .int 0), (3, .int x), (4, .int 3)], [.int (x + y)], (zsh ++ vs, mi, ml, (zmr g))) rfl ?_
  refine Wp.ret rfl rfl rfl ?_
  exact ⟨rfl, rfl⟩
theorem c_pf_1_1_0_2_2 {E : zEn} {vs : List (Nat × Nat)} {mi : Nat → Nat → Int32} {ml : Nat → Nat → Int64} {g : Nat → Nat → Option Nat} {x y v : Int32} (h1 : mi 51 1 = 2) (h2 : mi 51 2 = 1) (h3 : mi 51 3 = y) (h4 : mi 51 4 = v) : Wp E 1 pg_Performance_perform 0 (lv_args 0 [.ref 51, .int 1, .int 0, .int x, .int 2]) [] (zsh ++ vs, mi, ml, (zmr g)) (fun r w' => r = some (.int (x + y)) ∧ w' = (zsh ++ vs, (zup (zup mi 52 2 10) 51 1 3), ml, zmr g)) := by
  refine Wp.run 24 (15, [(6, .int 1), (5, .int 0), (0, .ref 51), (1, .int 1), (2, .int 0), (3, .int x), (4, .int 2)], [], (zsh ++ vs, mi, ml, (zmr g))) rfl ?_
  refine Wp.run 21 (65, [(6, .int 10), (5, .int 0), (0, .ref 51), (1, .int 1), (2, .int 0), (3, .int x), (4, .int 2)], [.int (mi 51 1)], (zsh ++ vs, mi, ml, (zmr g))) rfl ?_
  refine Wp.topi (y := 2) (h1) ?_
  refine Wp.run 6 (78, [(6, .int 10), (5, .int 0), (0, .ref 51), (1, .int 1), (2, .int 0), (3, .int x), (4, .int 2)], [.int (mi 51 1), .ref 52], (zsh ++ vs, mi, ml, (zmr g))) rfl ?_
  refine Wp.topi (y := 2) (h1) ?_
  refine Wp.run 5 (86, [(6, .int 10), (5, .int 0), (0, .ref 51), (1, .int 1), (2, .int 0), (3, .int x), (4, .int 2)], [.int (mi 51 1), .ref 51], (zsh ++ vs, (zup mi 52 2 10), ml, (zmr g))) rfl ?_
  refine Wp.topi (y := 2) (h1) ?_
  refine Wp.run 12 (105, [(6, .int 10), (5, .int 0), (0, .ref 51), (1, .int 1), (2, .int 0), (3, .int x), (4, .int 2)], [.int 3, .int x, .int 0, .int 10, .ref 51], (zsh ++ vs, (zup (zup mi 52 2 10) 51 1 3), ml, (zmr g))) rfl ?_
  refine Wp.call (as := [.ref 51, .int 10, .int 0, .int x, .int 3]) (rest := []) rfl rfl rfl rfl rfl (Nat.le_of_ble_eq_true rfl) (Nat.le_of_ble_eq_true rfl) rfl (by decide) (c_rn_1_1_0_2_2 (mi := (zup (zup mi 52 2 10) 51 1 3)) rfl h2 h3 h4) ?_
  rintro _ _ ⟨rfl, rfl⟩
  refine Wp.run 0 (108, [(6, .int 10), (5, .int 0), (0, .ref 51), (1, .int 1), (2, .int 0), (3, .int x), (4, .int 2)], [.int (x + y)], (zsh ++ vs, (zup (zup mi 52 2 10) 51 1 3), ml, (zmr g))) rfl ?_
  refine Wp.ret rfl rfl rfl ?_
  exact ⟨rfl, rfl⟩
theorem c_rn_1_0_1_1_1 {E : zEn} {vs : List (Nat × Nat)} {mi : Nat → Nat → Int32} {ml : Nat → Nat → Int64} {g : Nat → Nat → Option Nat} {x y v : Int32} (h1 : mi 51 1 = 2) (h2 : mi 51 2 = 1) (h3 : mi 51 3 = y) (h4 : mi 51 4 = v) : Wp E 2 pg_Performance_run 0 (lv_args 0 [.ref 51, .int 11, .int 0, .int x, .int 2]) [] (zsh ++ vs, mi, ml, (zmr g)) (fun r w' => r = some (.int ((x + y) - v)) ∧ w' = (zsh ++ vs, (zup (zup mi 52 2 10) 51 1 3), ml, zmr g)) := by
  refine Wp.run 5 (112, [(0, .ref 51), (1, .int 11), (2, .int 0), (3, .int x), (4, .int 2)], [.int (mi 51 2), .ref 51], (zsh ++ vs, mi, ml, (zmr g))) rfl ?_
  refine Wp.topi (y := 1) (h2) ?_
  refine Wp.run 3 (116, [(0, .ref 51), (1, .int 11), (2, .int 0), (3, .int x), (4, .int 2)], [.int 2, .int x, .int 0, .int 1, .ref 51], (zsh ++ vs, mi, ml, (zmr g))) rfl ?_
  refine Wp.call (as := [.ref 51, .int 1, .int 0, .int x, .int 2]) (rest := []) rfl rfl rfl rfl rfl (Nat.le_of_ble_eq_true rfl) (Nat.le_of_ble_eq_true rfl) rfl (by decide) (c_pf_1_1_0_2_2 (mi := mi) (x := x) h1 h2 h3 h4) ?_
  rintro _ _ ⟨rfl, rfl⟩
  refine Wp.run 2 (123, [(0, .ref 51), (1, .int 11), (2, .int 0), (3, .int x), (4, .int 2)], [.int (mi 51 4), .int (x + y)], (zsh ++ vs, (zup (zup mi 52 2 10) 51 1 3), ml, (zmr g))) rfl ?_
  refine Wp.topi (y := v) (h4) ?_
  refine Wp.run 1 (124, [(0, .ref 51), (1, .int 11), (2, .int 0), (3, .int x), (4, .int 2)], [.int ((x + y) - v)], (zsh ++ vs, (zup (zup mi 52 2 10) 51 1 3), ml, (zmr g))) rfl ?_
  refine Wp.ret rfl rfl rfl ?_
  exact ⟨rfl, rfl⟩
theorem c_pf_1_0_1_1_1 {E : zEn} {vs : List (Nat × Nat)} {mi : Nat → Nat → Int32} {ml : Nat → Nat → Int64} {g : Nat → Nat → Option Nat} {x y v : Int32} (h1 : mi 51 1 = 1) (h2 : mi 51 2 = 1) (h3 : mi 51 3 = y) (h4 : mi 51 4 = v) : Wp E 3 pg_Performance_perform 0 (lv_args 0 [.ref 51, .int 0, .int 1, .int x, .int 1]) [] (zsh ++ vs, mi, ml, (zmr g)) (fun r w' => r = some (.int ((x + y) - v)) ∧ w' = (zsh ++ vs, (zup (zup (zup (zup mi 52 1 11) 51 1 2) 52 2 10) 51 1 3), ml, zmr g)) := by
  refine Wp.run 24 (58, [(6, .int 0), (5, .int 0), (0, .ref 51), (1, .int 0), (2, .int 1), (3, .int x), (4, .int 1)], [.int 1, .ref 502], (zsh ++ vs, mi, ml, (zmr g))) rfl ?_
  refine Wp.run 4 (65, [(6, .int 11), (5, .int 0), (0, .ref 51), (1, .int 0), (2, .int 1), (3, .int x), (4, .int 1)], [.int (mi 51 1)], (zsh ++ vs, mi, ml, (zmr g))) rfl ?_
  refine Wp.topi (y := 1) (h1) ?_
  refine Wp.run 6 (78, [(6, .int 11), (5, .int 0), (0, .ref 51), (1, .int 0), (2, .int 1), (3, .int x), (4, .int 1)], [.int (mi 51 1), .ref 52], (zsh ++ vs, mi, ml, (zmr g))) rfl ?_
  refine Wp.topi (y := 1) (h1) ?_
  refine Wp.run 5 (86, [(6, .int 11), (5, .int 0), (0, .ref 51), (1, .int 0), (2, .int 1), (3, .int x), (4, .int 1)], [.int (mi 51 1), .ref 51], (zsh ++ vs, (zup mi 52 1 11), ml, (zmr g))) rfl ?_
  refine Wp.topi (y := 1) (h1) ?_
  refine Wp.run 12 (105, [(6, .int 11), (5, .int 0), (0, .ref 51), (1, .int 0), (2, .int 1), (3, .int x), (4, .int 1)], [.int 2, .int x, .int 0, .int 11, .ref 51], (zsh ++ vs, (zup (zup mi 52 1 11) 51 1 2), ml, (zmr g))) rfl ?_
  refine Wp.call (as := [.ref 51, .int 11, .int 0, .int x, .int 2]) (rest := []) rfl rfl rfl rfl rfl (Nat.le_of_ble_eq_true rfl) (Nat.le_of_ble_eq_true rfl) rfl (by decide) (c_rn_1_0_1_1_1 (mi := (zup (zup mi 52 1 11) 51 1 2)) rfl h2 h3 h4) ?_
  rintro _ _ ⟨rfl, rfl⟩
  refine Wp.run 0 (108, [(6, .int 11), (5, .int 0), (0, .ref 51), (1, .int 0), (2, .int 1), (3, .int x), (4, .int 1)], [.int ((x + y) - v)], (zsh ++ vs, (zup (zup (zup (zup mi 52 1 11) 51 1 2) 52 2 10) 51 1 3), ml, (zmr g))) rfl ?_
  refine Wp.ret rfl rfl rfl ?_
  exact ⟨rfl, rfl⟩
theorem c_rn_1_1_1_0_0 {E : zEn} {vs : List (Nat × Nat)} {mi : Nat → Nat → Int32} {ml : Nat → Nat → Int64} {g : Nat → Nat → Option Nat} {x y v : Int32} (h1 : mi 51 1 = 1) (h2 : mi 51 2 = 1) (h3 : mi 51 3 = y) (h4 : mi 51 4 = v) : Wp E 4 pg_Performance_run 0 (lv_args 0 [.ref 51, .int 20, .int 0, .int x, .int 1]) [] (zsh ++ vs, mi, ml, (zmr g)) (fun r w' => r = some (.int (((x + y) - v) ^^^ 6)) ∧ w' = (zsh ++ vs, (zup (zup (zup (zup mi 52 1 11) 51 1 2) 52 2 10) 51 1 3), ml, zmr g)) := by
  refine Wp.run 7 (146, [(0, .ref 51), (1, .int 20), (2, .int 0), (3, .int x), (4, .int 1)], [.int 1, .int x, .int 1, .int 0, .ref 51], (zsh ++ vs, mi, ml, (zmr g))) rfl ?_
  refine Wp.call (as := [.ref 51, .int 0, .int 1, .int x, .int 1]) (rest := []) rfl rfl rfl rfl rfl (Nat.le_of_ble_eq_true rfl) (Nat.le_of_ble_eq_true rfl) rfl (by decide) (c_pf_1_0_1_1_1 (mi := mi) (x := x) h1 h2 h3 h4) ?_
  rintro _ _ ⟨rfl, rfl⟩
  refine Wp.run 2 (152, [(0, .ref 51), (1, .int 20), (2, .int 0), (3, .int x), (4, .int 1)], [.int (((x + y) - v) ^^^ 6)], (zsh ++ vs, (zup (zup (zup (zup mi 52 1 11) 51 1 2) 52 2 10) 51 1 3), ml, (zmr g))) rfl ?_
  refine Wp.ret rfl rfl rfl ?_
  exact ⟨rfl, rfl⟩
theorem c_pf_1_1_1_0_0 {E : zEn} {vs : List (Nat × Nat)} {mi : Nat → Nat → Int32} {ml : Nat → Nat → Int64} {g : Nat → Nat → Option Nat} {x y v : Int32} (h1 : mi 51 1 = 0) (h2 : mi 51 2 = 1) (h3 : mi 51 3 = y) (h4 : mi 51 4 = v) : Wp E 5 pg_Performance_perform 0 (lv_args 0 [.ref 51, .int 1, .int 1, .int x, .int 0]) [] (zsh ++ vs, mi, ml, (zmr g)) (fun r w' => r = some (.int (((x + y) - v) ^^^ 6)) ∧ w' = (zsh ++ vs, (zup (zup (zup (zup (zup (zup mi 52 0 20) 51 1 1) 52 1 11) 51 1 2) 52 2 10) 51 1 3), ml, zmr g)) := by
  refine Wp.run 24 (58, [(6, .int 0), (5, .int 1), (0, .ref 51), (1, .int 1), (2, .int 1), (3, .int x), (4, .int 0)], [.int 4, .ref 502], (zsh ++ vs, mi, ml, (zmr g))) rfl ?_
  refine Wp.run 4 (65, [(6, .int 20), (5, .int 1), (0, .ref 51), (1, .int 1), (2, .int 1), (3, .int x), (4, .int 0)], [.int (mi 51 1)], (zsh ++ vs, mi, ml, (zmr g))) rfl ?_
  refine Wp.topi (y := 0) (h1) ?_
  refine Wp.run 6 (78, [(6, .int 20), (5, .int 1), (0, .ref 51), (1, .int 1), (2, .int 1), (3, .int x), (4, .int 0)], [.int (mi 51 1), .ref 52], (zsh ++ vs, mi, ml, (zmr g))) rfl ?_
  refine Wp.topi (y := 0) (h1) ?_
  refine Wp.run 5 (86, [(6, .int 20), (5, .int 1), (0, .ref 51), (1, .int 1), (2, .int 1), (3, .int x), (4, .int 0)], [.int (mi 51 1), .ref 51], (zsh ++ vs, (zup mi 52 0 20), ml, (zmr g))) rfl ?_
  refine Wp.topi (y := 0) (h1) ?_
  refine Wp.run 12 (105, [(6, .int 20), (5, .int 1), (0, .ref 51), (1, .int 1), (2, .int 1), (3, .int x), (4, .int 0)], [.int 1, .int x, .int 0, .int 20, .ref 51], (zsh ++ vs, (zup (zup mi 52 0 20) 51 1 1), ml, (zmr g))) rfl ?_
  refine Wp.call (as := [.ref 51, .int 20, .int 0, .int x, .int 1]) (rest := []) rfl rfl rfl rfl rfl (Nat.le_of_ble_eq_true rfl) (Nat.le_of_ble_eq_true rfl) rfl (by decide) (c_rn_1_1_1_0_0 (mi := (zup (zup mi 52 0 20) 51 1 1)) rfl h2 h3 h4) ?_
  rintro _ _ ⟨rfl, rfl⟩
  refine Wp.run 0 (108, [(6, .int 20), (5, .int 1), (0, .ref 51), (1, .int 1), (2, .int 1), (3, .int x), (4, .int 0)], [.int (((x + y) - v) ^^^ 6)], (zsh ++ vs, (zup (zup (zup (zup (zup (zup mi 52 0 20) 51 1 1) 52 1 11) 51 1 2) 52 2 10) 51 1 3), ml, (zmr g))) rfl ?_
  refine Wp.ret rfl rfl rfl ?_
  exact ⟨rfl, rfl⟩
theorem c_rn_1_1_0_3_3 {E : zEn} {vs : List (Nat × Nat)} {mi : Nat → Nat → Int32} {ml : Nat → Nat → Int64} {g : Nat → Nat → Option Nat} {x y v : Int32} (h1 : mi 51 1 = 4) (h2 : mi 51 2 = 1) (h3 : mi 51 3 = y) (h4 : mi 51 4 = v) : Wp E 0 pg_Performance_run 0 (lv_args 0 [.ref 51, .int 10, .int 0, .int x, .int 4]) [] (zsh ++ vs, mi, ml, (zmr g)) (fun r w' => r = some (.int (x + y)) ∧ w' = (zsh ++ vs, mi, ml, zmr g)) := by
  refine Wp.run 5 (105, [(0, .ref 51), (1, .int 10), (2, .int 0), (3, .int x), (4, .int 4)], [.int (mi 51 3), .int x], (zsh ++ vs, mi, ml, (zmr g))) rfl ?_
  refine Wp.topi (y := y) (h3) ?_
  refine Wp.run 1 (106, [(0, .ref 51), (1, .int 10), (2, .int 0), (3, .int x), (4, .int 4)], [.int (x + y)], (zsh ++ vs, mi, ml, (zmr g))) rfl ?_
  refine Wp.ret rfl rfl rfl ?_
  exact ⟨rfl, rfl⟩
theorem c_pf_1_1_0_3_3 {E : zEn} {vs : List (Nat × Nat)} {mi : Nat → Nat → Int32} {ml : Nat → Nat → Int64} {g : Nat → Nat → Option Nat} {x y v : Int32} (h1 : mi 51 1 = 3) (h2 : mi 51 2 = 1) (h3 : mi 51 3 = y) (h4 : mi 51 4 = v) : Wp E 1 pg_Performance_perform 0 (lv_args 0 [.ref 51, .int 1, .int 0, .int x, .int 3]) [] (zsh ++ vs, mi, ml, (zmr g)) (fun r w' => r = some (.int (x + y)) ∧ w' = (zsh ++ vs, (zup (zup mi 52 3 10) 51 1 4), ml, zmr g)) := by
  refine Wp.run 24 (15, [(6, .int 1), (5, .int 0), (0, .ref 51), (1, .int 1), (2, .int 0), (3, .int x), (4, .int 3)], [], (zsh ++ vs, mi, ml, (zmr g))) rfl ?_
  refine Wp.run 21 (65, [(6, .int 10), (5, .int 0), (0, .ref 51), (1, .int 1), (2, .int 0), (3, .int x), (4, .int 3)], [.int (mi 51 1)], (zsh ++ vs, mi, ml, (zmr g))) rfl ?_
  refine Wp.topi (y := 3) (h1) ?_
  refine Wp.run 6 (78, [(6, .int 10), (5, .int 0), (0, .ref 51), (1, .int 1), (2, .int 0), (3, .int x), (4, .int 3)], [.int (mi 51 1), .ref 52], (zsh ++ vs, mi, ml, (zmr g))) rfl ?_
  refine Wp.topi (y := 3) (h1) ?_
  refine Wp.run 5 (86, [(6, .int 10), (5, .int 0), (0, .ref 51), (1, .int 1), (2, .int 0), (3, .int x), (4, .int 3)], [.int (mi 51 1), .ref 51], (zsh ++ vs, (zup mi 52 3 10), ml, (zmr g))) rfl ?_
  refine Wp.topi (y := 3) (h1) ?_
  refine Wp.run 12 (105, [(6, .int 10), (5, .int 0), (0, .ref 51), (1, .int 1), (2, .int 0), (3, .int x), (4, .int 3)], [.int 4, .int x, .int 0, .int 10, .ref 51], (zsh ++ vs, (zup (zup mi 52 3 10) 51 1 4), ml, (zmr g))) rfl ?_
  refine Wp.call (as := [.ref 51, .int 10, .int 0, .int x, .int 4]) (rest := []) rfl rfl rfl rfl rfl (Nat.le_of_ble_eq_true rfl) (Nat.le_of_ble_eq_true rfl) rfl (by decide) (c_rn_1_1_0_3_3 (mi := (zup (zup mi 52 3 10) 51 1 4)) rfl h2 h3 h4) ?_
  rintro _ _ ⟨rfl, rfl⟩
  refine Wp.run 0 (108, [(6, .int 10), (5, .int 0), (0, .ref 51), (1, .int 1), (2, .int 0), (3, .int x), (4, .int 3)], [.int (x + y)], (zsh ++ vs, (zup (zup mi 52 3 10) 51 1 4), ml, (zmr g))) rfl ?_
  refine Wp.ret rfl rfl rfl ?_
  exact ⟨rfl, rfl⟩
theorem c_rn_1_0_1_2_2 {E : zEn} {vs : List (Nat × Nat)} {mi : Nat → Nat → Int32} {ml : Nat → Nat → Int64} {g : Nat → Nat → Option Nat} {x y v : Int32} (h1 : mi 51 1 = 3) (h2 : mi 51 2 = 1) (h3 : mi 51 3 = y) (h4 : mi 51 4 = v) : Wp E 2 pg_Performance_run 0 (lv_args 0 [.ref 51, .int 11, .int 0, .int x, .int 3]) [] (zsh ++ vs, mi, ml, (zmr g)) (fun r w' => r = some (.int ((x + y) - v)) ∧ w' = (zsh ++ vs, (zup (zup mi 52 3 10) 51 1 4), ml, zmr g)) := by
  refine Wp.run 5 (112, [(0, .ref 51), (1, .int 11), (2, .int 0), (3, .int x), (4, .int 3)], [.int (mi 51 2), .ref 51], (zsh ++ vs, mi, ml, (zmr g))) rfl ?_
  refine Wp.topi (y := 1) (h2) ?_
  refine Wp.run 3 (116, [(0, .ref 51), (1, .int 11), (2, .int 0), (3, .int x), (4, .int 3)], [.int 3, .int x, .int 0, .int 1, .ref 51], (zsh ++ vs, mi, ml, (zmr g))) rfl ?_
  refine Wp.call (as := [.ref 51, .int 1, .int 0, .int x, .int 3]) (rest := []) rfl rfl rfl rfl rfl (Nat.le_of_ble_eq_true rfl) (Nat.le_of_ble_eq_true rfl) rfl (by decide) (c_pf_1_1_0_3_3 (mi := mi) (x := x) h1 h2 h3 h4) ?_
  rintro _ _ ⟨rfl, rfl⟩
  refine Wp.run 2 (123, [(0, .ref 51), (1, .int 11), (2, .int 0), (3, .int x), (4, .int 3)], [.int (mi 51 4), .int (x + y)], (zsh ++ vs, (zup (zup mi 52 3 10) 51 1 4), ml, (zmr g))) rfl ?_
  refine Wp.topi (y := v) (h4) ?_
  refine Wp.run 1 (124, [(0, .ref 51), (1, .int 11), (2, .int 0), (3, .int x), (4, .int 3)], [.int ((x + y) - v)], (zsh ++ vs, (zup (zup mi 52 3 10) 51 1 4), ml, (zmr g))) rfl ?_
  refine Wp.ret rfl rfl rfl ?_
  exact ⟨rfl, rfl⟩
theorem c_pf_1_0_1_2_2 {E : zEn} {vs : List (Nat × Nat)} {mi : Nat → Nat → Int32} {ml : Nat → Nat → Int64} {g : Nat → Nat → Option Nat} {x y v : Int32} (h1 : mi 51 1 = 2) (h2 : mi 51 2 = 1) (h3 : mi 51 3 = y) (h4 : mi 51 4 = v) : Wp E 3 pg_Performance_perform 0 (lv_args 0 [.ref 51, .int 0, .int 1, .int x, .int 2]) [] (zsh ++ vs, mi, ml, (zmr g)) (fun r w' => r = some (.int ((x + y) - v)) ∧ w' = (zsh ++ vs, (zup (zup (zup (zup mi 52 2 11) 51 1 3) 52 3 10) 51 1 4), ml, zmr g)) := by
  refine Wp.run 24 (58, [(6, .int 0), (5, .int 0), (0, .ref 51), (1, .int 0), (2, .int 1), (3, .int x), (4, .int 2)], [.int 1, .ref 502], (zsh ++ vs, mi, ml, (zmr g))) rfl ?_
  refine Wp.run 4 (65, [(6, .int 11), (5, .int 0), (0, .ref 51), (1, .int 0), (2, .int 1), (3, .int x), (4, .int 2)], [.int (mi 51 1)], (zsh ++ vs, mi, ml, (zmr g))) rfl ?_
  refine Wp.topi (y := 2) (h1) ?_
  refine Wp.run 6 (78, [(6, .int 11), (5, .int 0), (0, .ref 51), (1, .int 0), (2, .int 1), (3, .int x), (4, .int 2)], [.int (mi 51 1), .ref 52], (zsh ++ vs, mi, ml, (zmr g))) rfl ?_
  refine Wp.topi (y := 2) (h1) ?_
  refine Wp.run 5 (86, [(6, .int 11), (5, .int 0), (0, .ref 51), (1, .int 0), (2, .int 1), (3, .int x), (4, .int 2)], [.int (mi 51 1), .ref 51], (zsh ++ vs, (zup mi 52 2 11), ml, (zmr g))) rfl ?_
  refine Wp.topi (y := 2) (h1) ?_
  refine Wp.run 12 (105, [(6, .int 11), (5, .int 0), (0, .ref 51), (1, .int 0), (2, .int 1), (3, .int x), (4, .int 2)], [.int 3, .int x, .int 0, .int 11, .ref 51], (zsh ++ vs, (zup (zup mi 52 2 11) 51 1 3), ml, (zmr g))) rfl ?_
  refine Wp.call (as := [.ref 51, .int 11, .int 0, .int x, .int 3]) (rest := []) rfl rfl rfl rfl rfl (Nat.le_of_ble_eq_true rfl) (Nat.le_of_ble_eq_true rfl) rfl (by decide) (c_rn_1_0_1_2_2 (mi := (zup (zup mi 52 2 11) 51 1 3)) rfl h2 h3 h4) ?_
  rintro _ _ ⟨rfl, rfl⟩
  refine Wp.run 0 (108, [(6, .int 11), (5, .int 0), (0, .ref 51), (1, .int 0), (2, .int 1), (3, .int x), (4, .int 2)], [.int ((x + y) - v)], (zsh ++ vs, (zup (zup (zup (zup mi 52 2 11) 51 1 3) 52 3 10) 51 1 4), ml, (zmr g))) rfl ?_
  refine Wp.ret rfl rfl rfl ?_
  exact ⟨rfl, rfl⟩
theorem c_rn_1_1_1_1_1 {E : zEn} {vs : List (Nat × Nat)} {mi : Nat → Nat → Int32} {ml : Nat → Nat → Int64} {g : Nat → Nat → Option Nat} {x y v : Int32} (h1 : mi 51 1 = 2) (h2 : mi 51 2 = 1) (h3 : mi 51 3 = y) (h4 : mi 51 4 = v) : Wp E 4 pg_Performance_run 0 (lv_args 0 [.ref 51, .int 20, .int 0, .int x, .int 2]) [] (zsh ++ vs, mi, ml, (zmr g)) (fun r w' => r = some (.int (((x + y) - v) ^^^ 6)) ∧ w' = (zsh ++ vs, (zup (zup (zup (zup mi 52 2 11) 51 1 3) 52 3 10) 51 1 4), ml, zmr g)) := by
  refine Wp.run 7 (146, [(0, .ref 51), (1, .int 20), (2, .int 0), (3, .int x), (4, .int 2)], [.int 2, .int x, .int 1, .int 0, .ref 51], (zsh ++ vs, mi, ml, (zmr g))) rfl ?_
  refine Wp.call (as := [.ref 51, .int 0, .int 1, .int x, .int 2]) (rest := []) rfl rfl rfl rfl rfl (Nat.le_of_ble_eq_true rfl) (Nat.le_of_ble_eq_true rfl) rfl (by decide) (c_pf_1_0_1_2_2 (mi := mi) (x := x) h1 h2 h3 h4) ?_
  rintro _ _ ⟨rfl, rfl⟩
  refine Wp.run 2 (152, [(0, .ref 51), (1, .int 20), (2, .int 0), (3, .int x), (4, .int 2)], [.int (((x + y) - v) ^^^ 6)], (zsh ++ vs, (zup (zup (zup (zup mi 52 2 11) 51 1 3) 52 3 10) 51 1 4), ml, (zmr g))) rfl ?_
  refine Wp.ret rfl rfl rfl ?_
  exact ⟨rfl, rfl⟩
theorem c_pf_1_1_1_1_1 {E : zEn} {vs : List (Nat × Nat)} {mi : Nat → Nat → Int32} {ml : Nat → Nat → Int64} {g : Nat → Nat → Option Nat} {x y v : Int32} (h1 : mi 51 1 = 1) (h2 : mi 51 2 = 1) (h3 : mi 51 3 = y) (h4 : mi 51 4 = v) : Wp E 5 pg_Performance_perform 0 (lv_args 0 [.ref 51, .int 1, .int 1, .int x, .int 1]) [] (zsh ++ vs, mi, ml, (zmr g)) (fun r w' => r = some (.int (((x + y) - v) ^^^ 6)) ∧ w' = (zsh ++ vs, (zup (zup (zup (zup (zup (zup mi 52 1 20) 51 1 2) 52 2 11) 51 1 3) 52 3 10) 51 1 4), ml, zmr g)) := by
  refine Wp.run 24 (58, [(6, .int 0), (5, .int 1), (0, .ref 51), (1, .int 1), (2, .int 1), (3, .int x), (4, .int 1)], [.int 4, .ref 502], (zsh ++ vs, mi, ml, (zmr g))) rfl ?_
  refine Wp.run 4 (65, [(6, .int 20), (5, .int 1), (0, .ref 51), (1, .int 1), (2, .int 1), (3, .int x), (4, .int 1)], [.int (mi 51 1)], (zsh ++ vs, mi, ml, (zmr g))) rfl ?_
  refine Wp.topi (y := 1) (h1) ?_
  refine Wp.run 6 (78, [(6, .int 20), (5, .int 1), (0, .ref 51), (1, .int 1), (2, .int 1), (3, .int x), (4, .int 1)], [.int (mi 51 1), .ref 52], (zsh ++ vs, mi, ml, (zmr g))) rfl ?_
  refine Wp.topi (y := 1) (h1) ?_
  refine Wp.run 5 (86, [(6, .int 20), (5, .int 1), (0, .ref 51), (1, .int 1), (2, .int 1), (3, .int x), (4, .int 1)], [.int (mi 51 1), .ref 51], (zsh ++ vs, (zup mi 52 1 20), ml, (zmr g))) rfl ?_
  refine Wp.topi (y := 1) (h1) ?_
  refine Wp.run 12 (105, [(6, .int 20), (5, .int 1), (0, .ref 51), (1, .int 1), (2, .int 1), (3, .int x), (4, .int 1)], [.int 2, .int x, .int 0, .int 20, .ref 51], (zsh ++ vs, (zup (zup mi 52 1 20) 51 1 2), ml, (zmr g))) rfl ?_
  refine Wp.call (as := [.ref 51, .int 20, .int 0, .int x, .int 2]) (rest := []) rfl rfl rfl rfl rfl (Nat.le_of_ble_eq_true rfl) (Nat.le_of_ble_eq_true rfl) rfl (by decide) (c_rn_1_1_1_1_1 (mi := (zup (zup mi 52 1 20) 51 1 2)) rfl h2 h3 h4) ?_
  rintro _ _ ⟨rfl, rfl⟩
  refine Wp.run 0 (108, [(6, .int 20), (5, .int 1), (0, .ref 51), (1, .int 1), (2, .int 1), (3, .int x), (4, .int 1)], [.int (((x + y) - v) ^^^ 6)], (zsh ++ vs, (zup (zup (zup (zup (zup (zup mi 52 1 20) 51 1 2) 52 2 11) 51 1 3) 52 3 10) 51 1 4), ml, (zmr g))) rfl ?_
  refine Wp.ret rfl rfl rfl ?_
  exact ⟨rfl, rfl⟩
theorem c_rn_1_1_2_0_0 {E : zEn} {vs : List (Nat × Nat)} {mi : Nat → Nat → Int32} {ml : Nat → Nat → Int64} {g : Nat → Nat → Option Nat} {x y v : Int32} (h1 : mi 51 1 = 1) (h2 : mi 51 2 = 1) (h3 : mi 51 3 = y) (h4 : mi 51 4 = v) : Wp E 6 pg_Performance_run 0 (lv_args 0 [.ref 51, .int 12, .int 0, .int x, .int 1]) [] (zsh ++ vs, mi, ml, (zmr g)) (fun r w' => r = some (.int ((((x + y) - v) ^^^ 6) * 2)) ∧ w' = (zsh ++ vs, (zup (zup (zup (zup (zup (zup mi 52 1 20) 51 1 2) 52 2 11) 51 1 3) 52 3 10) 51 1 4), ml, zmr g)) := by
  refine Wp.run 5 (130, [(0, .ref 51), (1, .int 12), (2, .int 0), (3, .int x), (4, .int 1)], [.int (mi 51 2), .ref 51], (zsh ++ vs, mi, ml, (zmr g))) rfl ?_
  refine Wp.topi (y := 1) (h2) ?_
  refine Wp.run 3 (134, [(0, .ref 51), (1, .int 12), (2, .int 0), (3, .int x), (4, .int 1)], [.int 1, .int x, .int 1, .int 1, .ref 51], (zsh ++ vs, mi, ml, (zmr g))) rfl ?_
  refine Wp.call (as := [.ref 51, .int 1, .int 1, .int x, .int 1]) (rest := []) rfl rfl rfl rfl rfl (Nat.le_of_ble_eq_true rfl) (Nat.le_of_ble_eq_true rfl) rfl (by decide) (c_pf_1_1_1_1_1 (mi := mi) (x := x) h1 h2 h3 h4) ?_
  rintro _ _ ⟨rfl, rfl⟩
  refine Wp.run 2 (139, [(0, .ref 51), (1, .int 12), (2, .int 0), (3, .int x), (4, .int 1)], [.int ((((x + y) - v) ^^^ 6) * 2)], (zsh ++ vs, (zup (zup (zup (zup (zup (zup mi 52 1 20) 51 1 2) 52 2 11) 51 1 3) 52 3 10) 51 1 4), ml, (zmr g))) rfl ?_
  refine Wp.ret rfl rfl rfl ?_
  exact ⟨rfl, rfl⟩
theorem c_pf_1_1_2_0_0 {E : zEn} {vs : List (Nat × Nat)} {mi : Nat → Nat → Int32} {ml : Nat → Nat → Int64} {g : Nat → Nat → Option Nat} {x y v : Int32} (h1 : mi 51 1 = 0) (h2 : mi 51 2 = 1) (h3 : mi 51 3 = y) (h4 : mi 51 4 = v) : Wp E 7 pg_Performance_perform 0 (lv_args 0 [.ref 51, .int 1, .int 2, .int x, .int 0]) [] (zsh ++ vs, mi, ml, (zmr g)) (fun r w' => r = some (.int ((((x + y) - v) ^^^ 6) * 2)) ∧ w' = (zsh ++ vs, (zup (zup (zup (zup (zup (zup (zup (zup mi 52 0 12) 51 1 1) 52 1 20) 51 1 2) 52 2 11) 51 1 3) 52 3 10) 51 1 4), ml, zmr g)) := by
  refine Wp.run 24 (15, [(6, .int 1), (5, .int 0), (0, .ref 51), (1, .int 1), (2, .int 2), (3, .int x), (4, .int 0)], [], (zsh ++ vs, mi, ml, (zmr g))) rfl ?_
  refine Wp.run 21 (65, [(6, .int 12), (5, .int 0), (0, .ref 51), (1, .int 1), (2, .int 2), (3, .int x), (4, .int 0)], [.int (mi 51 1)], (zsh ++ vs, mi, ml, (zmr g))) rfl ?_
  refine Wp.topi (y := 0) (h1) ?_
  refine Wp.run 6 (78, [(6, .int 12), (5, .int 0), (0, .ref 51), (1, .int 1), (2, .int 2), (3, .int x), (4, .int 0)], [.int (mi 51 1), .ref 52], (zsh ++ vs, mi, ml, (zmr g))) rfl ?_
  refine Wp.topi (y := 0) (h1) ?_
  refine Wp.run 5 (86, [(6, .int 12), (5, .int 0), (0, .ref 51), (1, .int 1), (2, .int 2), (3, .int x), (4, .int 0)], [.int (mi 51 1), .ref 51], (zsh ++ vs, (zup mi 52 0 12), ml, (zmr g))) rfl ?_
  refine Wp.topi (y := 0) (h1) ?_
  refine Wp.run 12 (105, [(6, .int 12), (5, .int 0), (0, .ref 51), (1, .int 1), (2, .int 2), (3, .int x), (4, .int 0)], [.int 1, .int x, .int 0, .int 12, .ref 51], (zsh ++ vs, (zup (zup mi 52 0 12) 51 1 1), ml, (zmr g))) rfl ?_
  refine Wp.call (as := [.ref 51, .int 12, .int 0, .int x, .int 1]) (rest := []) rfl rfl rfl rfl rfl (Nat.le_of_ble_eq_true rfl) (Nat.le_of_ble_eq_true rfl) rfl (by decide) (c_rn_1_1_2_0_0 (mi := (zup (zup mi 52 0 12) 51 1 1)) rfl h2 h3 h4) ?_
  rintro _ _ ⟨rfl, rfl⟩
  refine Wp.run 0 (108, [(6, .int 12), (5, .int 0), (0, .ref 51), (1, .int 1), (2, .int 2), (3, .int x), (4, .int 0)], [.int ((((x + y) - v) ^^^ 6) * 2)], (zsh ++ vs, (zup (zup (zup (zup (zup (zup (zup (zup mi 52 0 12) 51 1 1) 52 1 20) 51 1 2) 52 2 11) 51 1 3) 52 3 10) 51 1 4), ml, (zmr g))) rfl ?_
  refine Wp.ret rfl rfl rfl ?_
  exact ⟨rfl, rfl⟩
theorem c_rn_2_0_0_1_1 {E : zEn} {vs : List (Nat × Nat)} {mi : Nat → Nat → Int32} {ml : Nat → Nat → Int64} {g : Nat → Nat → Option Nat} {x y v : Int32} (h1 : mi 51 1 = 2) (h2 : mi 51 2 = 2) (h3 : mi 51 3 = y) (h4 : mi 51 4 = v) : Wp E 0 pg_Performance_run 0 (lv_args 0 [.ref 51, .int 10, .int 0, .int x, .int 2]) [] (zsh ++ vs, mi, ml, (zmr g)) (fun r w' => r = some (.int (x + y)) ∧ w' = (zsh ++ vs, mi, ml, zmr g)) := by
  refine Wp.run 5 (105, [(0, .ref 51), (1, .int 10), (2, .int 0), (3, .int x), (4, .int 2)], [.int (mi 51 3), .int x], (zsh ++ vs, mi, ml, (zmr g))) rfl ?_
  refine Wp.topi (y := y) (h3) ?_
  refine Wp.run 1 (106, [(0, .ref 51), (1, .int 10), (2, .int 0), (3, .int x), (4, .int 2)], [.int (x + y)], (zsh ++ vs, mi, ml, (zmr g))) rfl ?_
  refine Wp.ret rfl rfl rfl ?_
  exact ⟨rfl, rfl⟩
theorem c_pf_2_0_0_1_1 {E : zEn} {vs : List (Nat × Nat)} {mi : Nat → Nat → Int32} {ml : Nat → Nat → Int64} {g : Nat → Nat → Option Nat} {x y v : Int32} (h1 : mi 51 1 = 1) (h2 : mi 51 2 = 2) (h3 : mi 51 3 = y) (h4 : mi 51 4 = v) : Wp E 1 pg_Performance_perform 0 (lv_args 0 [.ref 51, .int 0, .int 0, .int x, .int 1]) [] (zsh ++ vs, mi, ml, (zmr g)) (fun r w' => r = some (.int (x + y)) ∧ w' = (zsh ++ vs, (zup (zup mi 52 1 10) 51 1 2), ml, zmr g)) := by
  refine Wp.run 24 (58, [(6, .int 0), (5, .int 0), (0, .ref 51), (1, .int 0), (2, .int 0), (3, .int x), (4, .int 1)], [.int 0, .ref 502], (zsh ++ vs, mi, ml, (zmr g))) rfl ?_
  refine Wp.run 4 (65, [(6, .int 10), (5, .int 0), (0, .ref 51), (1, .int 0), (2, .int 0), (3, .int x), (4, .int 1)], [.int (mi 51 1)], (zsh ++ vs, mi, ml, (zmr g))) rfl ?_
  refine Wp.topi (y := 1) (h1) ?_
  refine Wp.run 6 (78, [(6, .int 10), (5, .int 0), (0, .ref 51), (1, .int 0), (2, .int 0), (3, .int x), (4, .int 1)], [.int (mi 51 1), .ref 52], (zsh ++ vs, mi, ml, (zmr g))) rfl ?_
  refine Wp.topi (y := 1) (h1) ?_
  refine Wp.run 5 (86, [(6, .int 10), (5, .int 0), (0, .ref 51), (1, .int 0), (2, .int 0), (3, .int x), (4, .int 1)], [.int (mi 51 1), .ref 51], (zsh ++ vs, (zup mi 52 1 10), ml, (zmr g))) rfl ?_
  refine Wp.topi (y := 1) (h1) ?_
  refine Wp.run 12 (105, [(6, .int 10), (5, .int 0), (0, .ref 51), (1, .int 0), (2, .int 0), (3, .int x), (4, .int 1)], [.int 2, .int x, .int 0, .int 10, .ref 51], (zsh ++ vs, (zup (zup mi 52 1 10) 51 1 2), ml, (zmr g))) rfl ?_
  refine Wp.call (as := [.ref 51, .int 10, .int 0, .int x, .int 2]) (rest := []) rfl rfl rfl rfl rfl (Nat.le_of_ble_eq_true rfl) (Nat.le_of_ble_eq_true rfl) rfl (by decide) (c_rn_2_0_0_1_1 (mi := (zup (zup mi 52 1 10) 51 1 2)) rfl h2 h3 h4) ?_
  rintro _ _ ⟨rfl, rfl⟩
  refine Wp.run 0 (108, [(6, .int 10), (5, .int 0), (0, .ref 51), (1, .int 0), (2, .int 0), (3, .int x), (4, .int 1)], [.int (x + y)], (zsh ++ vs, (zup (zup mi 52 1 10) 51 1 2), ml, (zmr g))) rfl ?_
  refine Wp.ret rfl rfl rfl ?_
  exact ⟨rfl, rfl⟩
theorem c_rn_2_2_0_0_0 {E : zEn} {vs : List (Nat × Nat)} {mi : Nat → Nat → Int32} {ml : Nat → Nat → Int64} {g : Nat → Nat → Option Nat} {x y v : Int32} (h1 : mi 51 1 = 1) (h2 : mi 51 2 = 2) (h3 : mi 51 3 = y) (h4 : mi 51 4 = v) : Wp E 2 pg_Performance_run 0 (lv_args 0 [.ref 51, .int 30, .int 0, .int x, .int 1]) [] (zsh ++ vs, mi, ml, (zmr g)) (fun r w' => r = some (.int (((x * 3) + y))) ∧ w' = (zsh ++ vs, (zup (zup mi 52 1 10) 51 1 2), ml, zmr g)) := by
  refine Wp.run 9 (161, [(0, .ref 51), (1, .int 30), (2, .int 0), (3, .int x), (4, .int 1)], [.int 1, .int (x * 3), .int 0, .int 0, .ref 51], (zsh ++ vs, mi, ml, (zmr g))) rfl ?_
  refine Wp.call (as := [.ref 51, .int 0, .int 0, .int (x * 3), .int 1]) (rest := []) rfl rfl rfl rfl rfl (Nat.le_of_ble_eq_true rfl) (Nat.le_of_ble_eq_true rfl) rfl (by decide) (c_pf_2_0_0_1_1 (mi := mi) (x := (x * 3)) h1 h2 h3 h4) ?_
  rintro _ _ ⟨rfl, rfl⟩
  refine Wp.run 0 (164, [(0, .ref 51), (1, .int 30), (2, .int 0), (3, .int x), (4, .int 1)], [.int ((x * 3) + y)], (zsh ++ vs, (zup (zup mi 52 1 10) 51 1 2), ml, (zmr g))) rfl ?_
  refine Wp.ret rfl rfl rfl ?_
  exact ⟨rfl, rfl⟩
theorem c_pf_2_2_0_0_0 {E : zEn} {vs : List (Nat × Nat)} {mi : Nat → Nat → Int32} {ml : Nat → Nat → Int64} {g : Nat → Nat → Option Nat} {x y v : Int32} (h1 : mi 51 1 = 0) (h2 : mi 51 2 = 2) (h3 : mi 51 3 = y) (h4 : mi 51 4 = v) : Wp E 3 pg_Performance_perform 0 (lv_args 0 [.ref 51, .int 2, .int 0, .int x, .int 0]) [] (zsh ++ vs, mi, ml, (zmr g)) (fun r w' => r = some (.int (((x * 3) + y))) ∧ w' = (zsh ++ vs, (zup (zup (zup (zup mi 52 0 30) 51 1 1) 52 1 10) 51 1 2), ml, zmr g)) := by
  refine Wp.run 24 (58, [(6, .int 0), (5, .int 2), (0, .ref 51), (1, .int 2), (2, .int 0), (3, .int x), (4, .int 0)], [.int 6, .ref 502], (zsh ++ vs, mi, ml, (zmr g))) rfl ?_
  refine Wp.run 4 (65, [(6, .int 30), (5, .int 2), (0, .ref 51), (1, .int 2), (2, .int 0), (3, .int x), (4, .int 0)], [.int (mi 51 1)], (zsh ++ vs, mi, ml, (zmr g))) rfl ?_
  refine Wp.topi (y := 0) (h1) ?_
  refine Wp.run 6 (78, [(6, .int 30), (5, .int 2), (0, .ref 51), (1, .int 2), (2, .int 0), (3, .int x), (4, .int 0)], [.int (mi 51 1), .ref 52], (zsh ++ vs, mi, ml, (zmr g))) rfl ?_
  refine Wp.topi (y := 0) (h1) ?_
  refine Wp.run 5 (86, [(6, .int 30), (5, .int 2), (0, .ref 51), (1, .int 2), (2, .int 0), (3, .int x), (4, .int 0)], [.int (mi 51 1), .ref 51], (zsh ++ vs, (zup mi 52 0 30), ml, (zmr g))) rfl ?_
  refine Wp.topi (y := 0) (h1) ?_
  refine Wp.run 12 (105, [(6, .int 30), (5, .int 2), (0, .ref 51), (1, .int 2), (2, .int 0), (3, .int x), (4, .int 0)], [.int 1, .int x, .int 0, .int 30, .ref 51], (zsh ++ vs, (zup (zup mi 52 0 30) 51 1 1), ml, (zmr g))) rfl ?_
  refine Wp.call (as := [.ref 51, .int 30, .int 0, .int x, .int 1]) (rest := []) rfl rfl rfl rfl rfl (Nat.le_of_ble_eq_true rfl) (Nat.le_of_ble_eq_true rfl) rfl (by decide) (c_rn_2_2_0_0_0 (mi := (zup (zup mi 52 0 30) 51 1 1)) rfl h2 h3 h4) ?_
  rintro _ _ ⟨rfl, rfl⟩
  refine Wp.run 0 (108, [(6, .int 30), (5, .int 2), (0, .ref 51), (1, .int 2), (2, .int 0), (3, .int x), (4, .int 0)], [.int ((x * 3) + y)], (zsh ++ vs, (zup (zup (zup (zup mi 52 0 30) 51 1 1) 52 1 10) 51 1 2), ml, (zmr g))) rfl ?_
  refine Wp.ret rfl rfl rfl ?_
  exact ⟨rfl, rfl⟩
theorem c_rn_2_0_0_2_2 {E : zEn} {vs : List (Nat × Nat)} {mi : Nat → Nat → Int32} {ml : Nat → Nat → Int64} {g : Nat → Nat → Option Nat} {x y v : Int32} (h1 : mi 51 1 = 3) (h2 : mi 51 2 = 2) (h3 : mi 51 3 = y) (h4 : mi 51 4 = v) : Wp E 0 pg_Performance_run 0 (lv_args 0 [.ref 51, .int 10, .int 0, .int x, .int 3]) [] (zsh ++ vs, mi, ml, (zmr g)) (fun r w' => r = some (.int (x + y)) ∧ w' = (zsh ++ vs, mi, ml, zmr g)) := by
  refine Wp.run 5 (105, [(0, .ref 51), (1, .int 10), (2, .int 0), (3, .int x), (4, .int 3)], [.int (mi 51 3), .int x], (zsh ++ vs, mi, ml, (zmr g))) rfl ?_
  refine Wp.topi (y := y) (h3) ?_
  refine Wp.run 1 (106, [(0, .ref 51), (1, .int 10), (2, .int 0), (3, .int x), (4, .int 3)], [.int (x + y)], (zsh ++ vs, mi, ml, (zmr g))) rfl ?_
  refine Wp.ret rfl rfl rfl ?_
  exact ⟨rfl, rfl⟩
theorem c_pf_2_0_0_2_2 {E : zEn} {vs : List (Nat × Nat)} {mi : Nat → Nat → Int32} {ml : Nat → Nat → Int64} {g : Nat → Nat → Option Nat} {x y v : Int32} (h1 : mi 51 1 = 2) (h2 : mi 51 2 = 2) (h3 : mi 51 3 = y) (h4 : mi 51 4 = v) : Wp E 1 pg_Performance_perform 0 (lv_args 0 [.ref 51, .int 0, .int 0, .int x, .int 2]) [] (zsh ++ vs, mi, ml, (zmr g)) (fun r w' => r = some (.int (x + y)) ∧ w' = (zsh ++ vs, (zup (zup mi 52 2 10) 51 1 3), ml, zmr g)) := by
  refine Wp.run 24 (58, [(6, .int 0), (5, .int 0), (0, .ref 51), (1, .int 0), (2, .int 0), (3, .int x), (4, .int 2)], [.int 0, .ref 502], (zsh ++ vs, mi, ml, (zmr g))) rfl ?_
  refine Wp.run 4 (65, [(6, .int 10), (5, .int 0), (0, .ref 51), (1, .int 0), (2, .int 0), (3, .int x), (4, .int 2)], [.int (mi 51 1)], (zsh ++ vs, mi, ml, (zmr g))) rfl ?_
  refine Wp.topi (y := 2) (h1) ?_
  refine Wp.run 6 (78, [(6, .int 10), (5, .int 0), (0, .ref 51), (1, .int 0), (2, .int 0), (3, .int x), (4, .int 2)], [.int (mi 51 1), .ref 52], (zsh ++ vs, mi, ml, (zmr g))) rfl ?_
  refine Wp.topi (y := 2) (h1) ?_
  refine Wp.run 5 (86, [(6, .int 10), (5, .int 0), (0, .ref 51), (1, .int 0), (2, .int 0), (3, .int x), (4, .int 2)], [.int (mi 51 1), .ref 51], (zsh ++ vs, (zup mi 52 2 10), ml, (zmr g))) rfl ?_
  refine Wp.topi (y := 2) (h1) ?_
  refine Wp.run 12 (105, [(6, .int 10), (5, .int 0), (0, .ref 51), (1, .int 0), (2, .int 0), (3, .int x), (4, .int 2)], [.int 3, .int x, .int 0, .int 10, .ref 51], (zsh ++ vs, (zup (zup mi 52 2 10) 51 1 3), ml, (zmr g))) rfl ?_
  refine Wp.call (as := [.ref 51, .int 10, .int 0, .int x, .int 3]) (rest := []) rfl rfl rfl rfl rfl (Nat.le_of_ble_eq_true rfl) (Nat.le_of_ble_eq_true rfl) rfl (by decide) (c_rn_2_0_0_2_2 (mi := (zup (zup mi 52 2 10) 51 1 3)) rfl h2 h3 h4) ?_
  rintro _ _ ⟨rfl, rfl⟩
  refine Wp.run 0 (108, [(6, .int 10), (5, .int 0), (0, .ref 51), (1, .int 0), (2, .int 0), (3, .int x), (4, .int 2)], [.int (x + y)], (zsh ++ vs, (zup (zup mi 52 2 10) 51 1 3), ml, (zmr g))) rfl ?_
  refine Wp.ret rfl rfl rfl ?_
  exact ⟨rfl, rfl⟩
theorem c_rn_2_2_0_1_1 {E : zEn} {vs : List (Nat × Nat)} {mi : Nat → Nat → Int32} {ml : Nat → Nat → Int64} {g : Nat → Nat → Option Nat} {x y v : Int32} (h1 : mi 51 1 = 2) (h2 : mi 51 2 = 2) (h3 : mi 51 3 = y) (h4 : mi 51 4 = v) : Wp E 2 pg_Performance_run 0 (lv_args 0 [.ref 51, .int 30, .int 0, .int x, .int 2]) [] (zsh ++ vs, mi, ml, (zmr g)) (fun r w' => r = some (.int (((x * 3) + y))) ∧ w' = (zsh ++ vs, (zup (zup mi 52 2 10) 51 1 3), ml, zmr g)) := by
  refine Wp.run 9 (161, [(0, .ref 51), (1, .int 30), (2, .int 0), (3, .int x), (4, .int 2)], [.int 2, .int (x * 3), .int 0, .int 0, .ref 51], (zsh ++ vs, mi, ml, (zmr g))) rfl ?_
  refine Wp.call (as := [.ref 51, .int 0, .int 0, .int (x * 3), .int 2]) (rest := []) rfl rfl rfl rfl rfl (Nat.le_of_ble_eq_true rfl) (Nat.le_of_ble_eq_true rfl) rfl (by decide) (c_pf_2_0_0_2_2 (mi := mi) (x := (x * 3)) h1 h2 h3 h4) ?_
  rintro _ _ ⟨rfl, rfl⟩
  refine Wp.run 0 (164, [(0, .ref 51), (1, .int 30), (2, .int 0), (3, .int x), (4, .int 2)], [.int ((x * 3) + y)], (zsh ++ vs, (zup (zup mi 52 2 10) 51 1 3), ml, (zmr g))) rfl ?_
  refine Wp.ret rfl rfl rfl ?_
  exact ⟨rfl, rfl⟩
theorem c_pf_2_2_0_1_1 {E : zEn} {vs : List (Nat × Nat)} {mi : Nat → Nat → Int32} {ml : Nat → Nat → Int64} {g : Nat → Nat → Option Nat} {x y v : Int32} (h1 : mi 51 1 = 1) (h2 : mi 51 2 = 2) (h3 : mi 51 3 = y) (h4 : mi 51 4 = v) : Wp E 3 pg_Performance_perform 0 (lv_args 0 [.ref 51, .int 2, .int 0, .int x, .int 1]) [] (zsh ++ vs, mi, ml, (zmr g)) (fun r w' => r = some (.int (((x * 3) + y))) ∧ w' = (zsh ++ vs, (zup (zup (zup (zup mi 52 1 30) 51 1 2) 52 2 10) 51 1 3), ml, zmr g)) := by
  refine Wp.run 24 (58, [(6, .int 0), (5, .int 2), (0, .ref 51), (1, .int 2), (2, .int 0), (3, .int x), (4, .int 1)], [.int 6, .ref 502], (zsh ++ vs, mi, ml, (zmr g))) rfl ?_
  refine Wp.run 4 (65, [(6, .int 30), (5, .int 2), (0, .ref 51), (1, .int 2), (2, .int 0), (3, .int x), (4, .int 1)], [.int (mi 51 1)], (zsh ++ vs, mi, ml, (zmr g))) rfl ?_
  refine Wp.topi (y := 1) (h1) ?_
  refine Wp.run 6 (78, [(6, .int 30), (5, .int 2), (0, .ref 51), (1, .int 2), (2, .int 0), (3, .int x), (4, .int 1)], [.int (mi 51 1), .ref 52], (zsh ++ vs, mi, ml, (zmr g))) rfl ?_
  refine Wp.topi (y := 1) (h1) ?_
  refine Wp.run 5 (86, [(6, .int 30), (5, .int 2), (0, .ref 51), (1, .int 2), (2, .int 0), (3, .int x), (4, .int 1)], [.int (mi 51 1), .ref 51], (zsh ++ vs, (zup mi 52 1 30), ml, (zmr g))) rfl ?_
  refine Wp.topi (y := 1) (h1) ?_
  refine Wp.run 12 (105, [(6, .int 30), (5, .int 2), (0, .ref 51), (1, .int 2), (2, .int 0), (3, .int x), (4, .int 1)], [.int 2, .int x, .int 0, .int 30, .ref 51], (zsh ++ vs, (zup (zup mi 52 1 30) 51 1 2), ml, (zmr g))) rfl ?_
  refine Wp.call (as := [.ref 51, .int 30, .int 0, .int x, .int 2]) (rest := []) rfl rfl rfl rfl rfl (Nat.le_of_ble_eq_true rfl) (Nat.le_of_ble_eq_true rfl) rfl (by decide) (c_rn_2_2_0_1_1 (mi := (zup (zup mi 52 1 30) 51 1 2)) rfl h2 h3 h4) ?_
  rintro _ _ ⟨rfl, rfl⟩
  refine Wp.run 0 (108, [(6, .int 30), (5, .int 2), (0, .ref 51), (1, .int 2), (2, .int 0), (3, .int x), (4, .int 1)], [.int ((x * 3) + y)], (zsh ++ vs, (zup (zup (zup (zup mi 52 1 30) 51 1 2) 52 2 10) 51 1 3), ml, (zmr g))) rfl ?_
  refine Wp.ret rfl rfl rfl ?_
  exact ⟨rfl, rfl⟩
theorem c_rn_2_2_1_0_0 {E : zEn} {vs : List (Nat × Nat)} {mi : Nat → Nat → Int32} {ml : Nat → Nat → Int64} {g : Nat → Nat → Option Nat} {x y v : Int32} (h1 : mi 51 1 = 1) (h2 : mi 51 2 = 2) (h3 : mi 51 3 = y) (h4 : mi 51 4 = v) : Wp E 4 pg_Performance_run 0 (lv_args 0 [.ref 51, .int 11, .int 0, .int x, .int 1]) [] (zsh ++ vs, mi, ml, (zmr g)) (fun r w' => r = some (.int (((x * 3) + y) - v)) ∧ w' = (zsh ++ vs, (zup (zup (zup (zup mi 52 1 30) 51 1 2) 52 2 10) 51 1 3), ml, zmr g)) := by
  refine Wp.run 5 (112, [(0, .ref 51), (1, .int 11), (2, .int 0), (3, .int x), (4, .int 1)], [.int (mi 51 2), .ref 51], (zsh ++ vs, mi, ml, (zmr g))) rfl ?_
  refine Wp.topi (y := 2) (h2) ?_
  refine Wp.run 3 (116, [(0, .ref 51), (1, .int 11), (2, .int 0), (3, .int x), (4, .int 1)], [.int 1, .int x, .int 0, .int 2, .ref 51], (zsh ++ vs, mi, ml, (zmr g))) rfl ?_
  refine Wp.call (as := [.ref 51, .int 2, .int 0, .int x, .int 1]) (rest := []) rfl rfl rfl rfl rfl (Nat.le_of_ble_eq_true rfl) (Nat.le_of_ble_eq_true rfl) rfl (by decide) (c_pf_2_2_0_1_1 (mi := mi) (x := x) h1 h2 h3 h4) ?_
  rintro _ _ ⟨rfl, rfl⟩
  refine Wp.run 2 (123, [(0, .ref 51), (1, .int 11), (2, .int 0), (3, .int x), (4, .int 1)], [.int (mi 51 4), .int ((x * 3) + y)], (zsh ++ vs, (zup (zup (zup (zup mi 52 1 30) 51 1 2) 52 2 10) 51 1 3), ml, (zmr g))) rfl ?_
  refine Wp.topi (y := v) (h4) ?_
  refine Wp.run 1 (124, [(0, .ref 51), (1, .int 11), (2, .int 0), (3, .int x), (4, .int 1)], [.int (((x * 3) + y) - v)], (zsh ++ vs, (zup (zup (zup (zup mi 52 1 30) 51 1 2) 52 2 10) 51 1 3), ml, (zmr g))) rfl ?_
  refine Wp.ret rfl rfl rfl ?_
  exact ⟨rfl, rfl⟩
theorem c_pf_2_2_1_0_0 {E : zEn} {vs : List (Nat × Nat)} {mi : Nat → Nat → Int32} {ml : Nat → Nat → Int64} {g : Nat → Nat → Option Nat} {x y v : Int32} (h1 : mi 51 1 = 0) (h2 : mi 51 2 = 2) (h3 : mi 51 3 = y) (h4 : mi 51 4 = v) : Wp E 5 pg_Performance_perform 0 (lv_args 0 [.ref 51, .int 2, .int 1, .int x, .int 0]) [] (zsh ++ vs, mi, ml, (zmr g)) (fun r w' => r = some (.int (((x * 3) + y) - v)) ∧ w' = (zsh ++ vs, (zup (zup (zup (zup (zup (zup mi 52 0 11) 51 1 1) 52 1 30) 51 1 2) 52 2 10) 51 1 3), ml, zmr g)) := by
  refine Wp.run 24 (15, [(6, .int 1), (5, .int 0), (0, .ref 51), (1, .int 2), (2, .int 1), (3, .int x), (4, .int 0)], [], (zsh ++ vs, mi, ml, (zmr g))) rfl ?_
  refine Wp.run 21 (65, [(6, .int 11), (5, .int 0), (0, .ref 51), (1, .int 2), (2, .int 1), (3, .int x), (4, .int 0)], [.int (mi 51 1)], (zsh ++ vs, mi, ml, (zmr g))) rfl ?_
  refine Wp.topi (y := 0) (h1) ?_
  refine Wp.run 6 (78, [(6, .int 11), (5, .int 0), (0, .ref 51), (1, .int 2), (2, .int 1), (3, .int x), (4, .int 0)], [.int (mi 51 1), .ref 52], (zsh ++ vs, mi, ml, (zmr g))) rfl ?_
  refine Wp.topi (y := 0) (h1) ?_
  refine Wp.run 5 (86, [(6, .int 11), (5, .int 0), (0, .ref 51), (1, .int 2), (2, .int 1), (3, .int x), (4, .int 0)], [.int (mi 51 1), .ref 51], (zsh ++ vs, (zup mi 52 0 11), ml, (zmr g))) rfl ?_
  refine Wp.topi (y := 0) (h1) ?_
  refine Wp.run 12 (105, [(6, .int 11), (5, .int 0), (0, .ref 51), (1, .int 2), (2, .int 1), (3, .int x), (4, .int 0)], [.int 1, .int x, .int 0, .int 11, .ref 51], (zsh ++ vs, (zup (zup mi 52 0 11) 51 1 1), ml, (zmr g))) rfl ?_
  refine Wp.call (as := [.ref 51, .int 11, .int 0, .int x, .int 1]) (rest := []) rfl rfl rfl rfl rfl (Nat.le_of_ble_eq_true rfl) (Nat.le_of_ble_eq_true rfl) rfl (by decide) (c_rn_2_2_1_0_0 (mi := (zup (zup mi 52 0 11) 51 1 1)) rfl h2 h3 h4) ?_
  rintro _ _ ⟨rfl, rfl⟩
  refine Wp.run 0 (108, [(6, .int 11), (5, .int 0), (0, .ref 51), (1, .int 2), (2, .int 1), (3, .int x), (4, .int 0)], [.int (((x * 3) + y) - v)], (zsh ++ vs, (zup (zup (zup (zup (zup (zup mi 52 0 11) 51 1 1) 52 1 30) 51 1 2) 52 2 10) 51 1 3), ml, (zmr g))) rfl ?_
  refine Wp.ret rfl rfl rfl ?_
  exact ⟨rfl, rfl⟩
theorem c_rn_2_0_0_3_3 {E : zEn} {vs : List (Nat × Nat)} {mi : Nat → Nat → Int32} {ml : Nat → Nat → Int64} {g : Nat → Nat → Option Nat} {x y v : Int32} (h1 : mi 51 1 = 4) (h2 : mi 51 2 = 2) (h3 : mi 51 3 = y) (h4 : mi 51 4 = v) : Wp E 0 pg_Performance_run 0 (lv_args 0 [.ref 51, .int 10, .int 0, .int x, .int 4]) [] (zsh ++ vs, mi, ml, (zmr g)) (fun r w' => r = some (.int (x + y)) ∧ w' = (zsh ++ vs, mi, ml, zmr g)) := by
  refine Wp.run 5 (105, [(0, .ref 51), (1, .int 10), (2, .int 0), (3, .int x), (4, .int 4)], [.int (mi 51 3), .int x], (zsh ++ vs, mi, ml, (zmr g))) rfl ?_
  refine Wp.topi (y := y) (h3) ?_
  refine Wp.run 1 (106, [(0, .ref 51), (1, .int 10), (2, .int 0), (3, .int x), (4, .int 4)], [.int (x + y)], (zsh ++ vs, mi, ml, (zmr g))) rfl ?_
  refine Wp.ret rfl rfl rfl ?_
  exact ⟨rfl, rfl⟩
theorem c_pf_2_0_0_3_3 {E : zEn} {vs : List (Nat × Nat)} {mi : Nat → Nat → Int32} {ml : Nat → Nat → Int64} {g : Nat → Nat → Option Nat} {x y v : Int32} (h1 : mi 51 1 = 3) (h2 : mi 51 2 = 2) (h3 : mi 51 3 = y) (h4 : mi 51 4 = v) : Wp E 1 pg_Performance_perform 0 (lv_args 0 [.ref 51, .int 0, .int 0, .int x, .int 3]) [] (zsh ++ vs, mi, ml, (zmr g)) (fun r w' => r = some (.int (x + y)) ∧ w' = (zsh ++ vs, (zup (zup mi 52 3 10) 51 1 4), ml, zmr g)) := by
  refine Wp.run 24 (58, [(6, .int 0), (5, .int 0), (0, .ref 51), (1, .int 0), (2, .int 0), (3, .int x), (4, .int 3)], [.int 0, .ref 502], (zsh ++ vs, mi, ml, (zmr g))) rfl ?_
  refine Wp.run 4 (65, [(6, .int 10), (5, .int 0), (0, .ref 51), (1, .int 0), (2, .int 0), (3, .int x), (4, .int 3)], [.int (mi 51 1)], (zsh ++ vs, mi, ml, (zmr g))) rfl ?_
  refine Wp.topi (y := 3) (h1) ?_
  refine Wp.run 6 (78, [(6, .int 10), (5, .int 0), (0, .ref 51), (1, .int 0), (2, .int 0), (3, .int x), (4, .int 3)], [.int (mi 51 1), .ref 52], (zsh ++ vs, mi, ml, (zmr g))) rfl ?_
  refine Wp.topi (y := 3) (h1) ?_
  refine Wp.run 5 (86, [(6, .int 10), (5, .int 0), (0, .ref 51), (1, .int 0), (2, .int 0), (3, .int x), (4, .int 3)], [.int (mi 51 1), .ref 51], (zsh ++ vs, (zup mi 52 3 10), ml, (zmr g))) rfl ?_
  refine Wp.topi (y := 3) (h1) ?_
  refine Wp.run 12 (105, [(6, .int 10), (5, .int 0), (0, .ref 51), (1, .int 0), (2, .int 0), (3, .int x), (4, .int 3)], [.int 4, .int x, .int 0, .int 10, .ref 51], (zsh ++ vs, (zup (zup mi 52 3 10) 51 1 4), ml, (zmr g))) rfl ?_
  refine Wp.call (as := [.ref 51, .int 10, .int 0, .int x, .int 4]) (rest := []) rfl rfl rfl rfl rfl (Nat.le_of_ble_eq_true rfl) (Nat.le_of_ble_eq_true rfl) rfl (by decide) (c_rn_2_0_0_3_3 (mi := (zup (zup mi 52 3 10) 51 1 4)) rfl h2 h3 h4) ?_
  rintro _ _ ⟨rfl, rfl⟩
  refine Wp.run 0 (108, [(6, .int 10), (5, .int 0), (0, .ref 51), (1, .int 0), (2, .int 0), (3, .int x), (4, .int 3)], [.int (x + y)], (zsh ++ vs, (zup (zup mi 52 3 10) 51 1 4), ml, (zmr g))) rfl ?_
  refine Wp.ret rfl rfl rfl ?_
  exact ⟨rfl, rfl⟩
theorem c_rn_2_2_0_2_2 {E : zEn} {vs : List (Nat × Nat)} {mi : Nat → Nat → Int32} {ml : Nat → Nat → Int64} {g : Nat → Nat → Option Nat} {x y v : Int32} (h1 : mi 51 1 = 3) (h2 : mi 51 2 = 2) (h3 : mi 51 3 = y) (h4 : mi 51 4 = v) : Wp E 2 pg_Performance_run 0 (lv_args 0 [.ref 51, .int 30, .int 0, .int x, .int 3]) [] (zsh ++ vs, mi, ml, (zmr g)) (fun r w' => r = some (.int (((x * 3) + y))) ∧ w' = (zsh ++ vs, (zup (zup mi 52 3 10) 51 1 4), ml, zmr g)) := by
  refine Wp.run 9 (161, [(0, .ref 51), (1, .int 30), (2, .int 0), (3, .int x), (4, .int 3)], [.int 3, .int (x * 3), .int 0, .int 0, .ref 51], (zsh ++ vs, mi, ml, (zmr g))) rfl ?_
  refine Wp.call (as := [.ref 51, .int 0, .int 0, .int (x * 3), .int 3]) (rest := []) rfl rfl rfl rfl rfl (Nat.le_of_ble_eq_true rfl) (Nat.le_of_ble_eq_true rfl) rfl (by decide) (c_pf_2_0_0_3_3 (mi := mi) (x := (x * 3)) h1 h2 h3 h4) ?_
  rintro _ _ ⟨rfl, rfl⟩
  refine Wp.run 0 (164, [(0, .ref 51), (1, .int 30), (2, .int 0), (3, .int x), (4, .int 3)], [.int ((x * 3) + y)], (zsh ++ vs, (zup (zup mi 52 3 10) 51 1 4), ml, (zmr g))) rfl ?_
  refine Wp.ret rfl rfl rfl ?_
  exact ⟨rfl, rfl⟩
theorem c_pf_2_2_0_2_2 {E : zEn} {vs : List (Nat × Nat)} {mi : Nat → Nat → Int32} {ml : Nat → Nat → Int64} {g : Nat → Nat → Option Nat} {x y v : Int32} (h1 : mi 51 1 = 2) (h2 : mi 51 2 = 2) (h3 : mi 51 3 = y) (h4 : mi 51 4 = v) : Wp E 3 pg_Performance_perform 0 (lv_args 0 [.ref 51, .int 2, .int 0, .int x, .int 2]) [] (zsh ++ vs, mi, ml, (zmr g)) (fun r w' => r = some (.int (((x * 3) + y))) ∧ w' = (zsh ++ vs, (zup (zup (zup (zup mi 52 2 30) 51 1 3) 52 3 10) 51 1 4), ml, zmr g)) := by
  refine Wp.run 24 (58, [(6, .int 0), (5, .int 2), (0, .ref 51), (1, .int 2), (2, .int 0), (3, .int x), (4, .int 2)], [.int 6, .ref 502], (zsh ++ vs, mi, ml, (zmr g))) rfl ?_
  refine Wp.run 4 (65, [(6, .int 30), (5, .int 2), (0, .ref 51), (1, .int 2), (2, .int 0), (3, .int x), (4, .int 2)], [.int (mi 51 1)], (zsh ++ vs, mi, ml, (zmr g))) rfl ?_
  refine Wp.topi (y := 2) (h1) ?_
  refine Wp.run 6 (78, [(6, .int 30), (5, .int 2), (0, .ref 51), (1, .int 2), (2, .int 0), (3, .int x), (4, .int 2)], [.int (mi 51 1), .ref 52], (zsh ++ vs, mi, ml, (zmr g))) rfl ?_
  refine Wp.topi (y := 2) (h1) ?_
  refine Wp.run 5 (86, [(6, .int 30), (5, .int 2), (0, .ref 51), (1, .int 2), (2, .int 0), (3, .int x), (4, .int 2)], [.int (mi 51 1), .ref 51], (zsh ++ vs, (zup mi 52 2 30), ml, (zmr g))) rfl ?_
  refine Wp.topi (y := 2) (h1) ?_
  refine Wp.run 12 (105, [(6, .int 30), (5, .int 2), (0, .ref 51), (1, .int 2), (2, .int 0), (3, .int x), (4, .int 2)], [.int 3, .int x, .int 0, .int 30, .ref 51], (zsh ++ vs, (zup (zup mi 52 2 30) 51 1 3), ml, (zmr g))) rfl ?_
  refine Wp.call (as := [.ref 51, .int 30, .int 0, .int x, .int 3]) (rest := []) rfl rfl rfl rfl rfl (Nat.le_of_ble_eq_true rfl) (Nat.le_of_ble_eq_true rfl) rfl (by decide) (c_rn_2_2_0_2_2 (mi := (zup (zup mi 52 2 30) 51 1 3)) rfl h2 h3 h4) ?_
  rintro _ _ ⟨rfl, rfl⟩
  refine Wp.run 0 (108, [(6, .int 30), (5, .int 2), (0, .ref 51), (1, .int 2), (2, .int 0), (3, .int x), (4, .int 2)], [.int ((x * 3) + y)], (zsh ++ vs, (zup (zup (zup (zup mi 52 2 30) 51 1 3) 52 3 10) 51 1 4), ml, (zmr g))) rfl ?_
  refine Wp.ret rfl rfl rfl ?_
  exact ⟨rfl, rfl⟩
theorem c_rn_2_2_1_1_1 {E : zEn} {vs : List (Nat × Nat)} {mi : Nat → Nat → Int32} {ml : Nat → Nat → Int64} {g : Nat → Nat → Option Nat} {x y v : Int32} (h1 : mi 51 1 = 2) (h2 : mi 51 2 = 2) (h3 : mi 51 3 = y) (h4 : mi 51 4 = v) : Wp E 4 pg_Performance_run 0 (lv_args 0 [.ref 51, .int 11, .int 0, .int x, .int 2]) [] (zsh ++ vs, mi, ml, (zmr g)) (fun r w' => r = some (.int (((x * 3) + y) - v)) ∧ w' = (zsh ++ vs, (zup (zup (zup (zup mi 52 2 30) 51 1 3) 52 3 10) 51 1 4), ml, zmr g)) := by
  refine Wp.run 5 (112, [(0, .ref 51), (1, .int 11), (2, .int 0), (3, .int x), (4, .int 2)], [.int (mi 51 2), .ref 51], (zsh ++ vs, mi, ml, (zmr g))) rfl ?_
  refine Wp.topi (y := 2) (h2) ?_
  refine Wp.run 3 (116, [(0, .ref 51), (1, .int 11), (2, .int 0), (3, .int x), (4, .int 2)], [.int 2, .int x, .int 0, .int 2, .ref 51], (zsh ++ vs, mi, ml, (zmr g))) rfl ?_
  refine Wp.call (as := [.ref 51, .int 2, .int 0, .int x, .int 2]) (rest := []) rfl rfl rfl rfl rfl (Nat.le_of_ble_eq_true rfl) (Nat.le_of_ble_eq_true rfl) rfl (by decide) (c_pf_2_2_0_2_2 (mi := mi) (x := x) h1 h2 h3 h4) ?_
  rintro _ _ ⟨rfl, rfl⟩
  refine Wp.run 2 (123, [(0, .ref 51), (1, .int 11), (2, .int 0), (3, .int x), (4, .int 2)], [.int (mi 51 4), .int ((x * 3) + y)], (zsh ++ vs, (zup (zup (zup (zup mi 52 2 30) 51 1 3) 52 3 10) 51 1 4), ml, (zmr g))) rfl ?_
  refine Wp.topi (y := v) (h4) ?_
  refine Wp.run 1 (124, [(0, .ref 51), (1, .int 11), (2, .int 0), (3, .int x), (4, .int 2)], [.int (((x * 3) + y) - v)], (zsh ++ vs, (zup (zup (zup (zup mi 52 2 30) 51 1 3) 52 3 10) 51 1 4), ml, (zmr g))) rfl ?_
  refine Wp.ret rfl rfl rfl ?_
  exact ⟨rfl, rfl⟩
theorem c_pf_2_2_1_1_1 {E : zEn} {vs : List (Nat × Nat)} {mi : Nat → Nat → Int32} {ml : Nat → Nat → Int64} {g : Nat → Nat → Option Nat} {x y v : Int32} (h1 : mi 51 1 = 1) (h2 : mi 51 2 = 2) (h3 : mi 51 3 = y) (h4 : mi 51 4 = v) : Wp E 5 pg_Performance_perform 0 (lv_args 0 [.ref 51, .int 2, .int 1, .int x, .int 1]) [] (zsh ++ vs, mi, ml, (zmr g)) (fun r w' => r = some (.int (((x * 3) + y) - v)) ∧ w' = (zsh ++ vs, (zup (zup (zup (zup (zup (zup mi 52 1 11) 51 1 2) 52 2 30) 51 1 3) 52 3 10) 51 1 4), ml, zmr g)) := by
  refine Wp.run 24 (15, [(6, .int 1), (5, .int 0), (0, .ref 51), (1, .int 2), (2, .int 1), (3, .int x), (4, .int 1)], [], (zsh ++ vs, mi, ml, (zmr g))) rfl ?_
  refine Wp.run 21 (65, [(6, .int 11), (5, .int 0), (0, .ref 51), (1, .int 2), (2, .int 1), (3, .int x), (4, .int 1)], [.int (mi 51 1)], (zsh ++ vs, mi, ml, (zmr g))) rfl ?_
  refine Wp.topi (y := 1) (h1) ?_
  refine Wp.run 6 (78, [(6, .int 11), (5, .int 0), (0, .ref 51), (1, .int 2), (2, .int 1), (3, .int x), (4, .int 1)], [.int (mi 51 1), .ref 52], (zsh ++ vs, mi, ml, (zmr g))) rfl ?_
  refine Wp.topi (y := 1) (h1) ?_
  refine Wp.run 5 (86, [(6, .int 11), (5, .int 0), (0, .ref 51), (1, .int 2), (2, .int 1), (3, .int x), (4, .int 1)], [.int (mi 51 1), .ref 51], (zsh ++ vs, (zup mi 52 1 11), ml, (zmr g))) rfl ?_
  refine Wp.topi (y := 1) (h1) ?_
  refine Wp.run 12 (105, [(6, .int 11), (5, .int 0), (0, .ref 51), (1, .int 2), (2, .int 1), (3, .int x), (4, .int 1)], [.int 2, .int x, .int 0, .int 11, .ref 51], (zsh ++ vs, (zup (zup mi 52 1 11) 51 1 2), ml, (zmr g))) rfl ?_
  refine Wp.call (as := [.ref 51, .int 11, .int 0, .int x, .int 2]) (rest := []) rfl rfl rfl rfl rfl (Nat.le_of_ble_eq_true rfl) (Nat.le_of_ble_eq_true rfl) rfl (by decide) (c_rn_2_2_1_1_1 (mi := (zup (zup mi 52 1 11) 51 1 2)) rfl h2 h3 h4) ?_
  rintro _ _ ⟨rfl, rfl⟩
  refine Wp.run 0 (108, [(6, .int 11), (5, .int 0), (0, .ref 51), (1, .int 2), (2, .int 1), (3, .int x), (4, .int 1)], [.int (((x * 3) + y) - v)], (zsh ++ vs, (zup (zup (zup (zup (zup (zup mi 52 1 11) 51 1 2) 52 2 30) 51 1 3) 52 3 10) 51 1 4), ml, (zmr g))) rfl ?_
  refine Wp.ret rfl rfl rfl ?_
  exact ⟨rfl, rfl⟩
theorem c_rn_2_2_2_0_0 {E : zEn} {vs : List (Nat × Nat)} {mi : Nat → Nat → Int32} {ml : Nat → Nat → Int64} {g : Nat → Nat → Option Nat} {x y v : Int32} (h1 : mi 51 1 = 1) (h2 : mi 51 2 = 2) (h3 : mi 51 3 = y) (h4 : mi 51 4 = v) : Wp E 6 pg_Performance_run 0 (lv_args 0 [.ref 51, .int 12, .int 0, .int x, .int 1]) [] (zsh ++ vs, mi, ml, (zmr g)) (fun r w' => r = some (.int ((((x * 3) + y) - v) * 2)) ∧ w' = (zsh ++ vs, (zup (zup (zup (zup (zup (zup mi 52 1 11) 51 1 2) 52 2 30) 51 1 3) 52 3 10) 51 1 4), ml, zmr g)) := by
  refine Wp.run 5 (130, [(0, .ref 51), (1, .int 12), (2, .int 0), (3, .int x), (4, .int 1)], [.int (mi 51 2), .ref 51], (zsh ++ vs, mi, ml, (zmr g))) rfl ?_
  refine Wp.topi (y := 2) (h2) ?_
  refine Wp.run 3 (134, [(0, .ref 51), (1, .int 12), (2, .int 0), (3, .int x), (4, .int 1)], [.int 1, .int x, .int 1, .int 2, .ref 51], (zsh ++ vs, mi, ml, (zmr g))) rfl ?_
  refine Wp.call (as := [.ref 51, .int 2, .int 1, .int x, .int 1]) (rest := []) rfl rfl rfl rfl rfl (Nat.le_of_ble_eq_true rfl) (Nat.le_of_ble_eq_true rfl) rfl (by decide) (c_pf_2_2_1_1_1 (mi := mi) (x := x) h1 h2 h3 h4) ?_
  rintro _ _ ⟨rfl, rfl⟩
  refine Wp.run 2 (139, [(0, .ref 51), (1, .int 12), (2, .int 0), (3, .int x), (4, .int 1)], [.int ((((x * 3) + y) - v) * 2)], (zsh ++ vs, (zup (zup (zup (zup (zup (zup mi 52 1 11) 51 1 2) 52 2 30) 51 1 3) 52 3 10) 51 1 4), ml, (zmr g))) rfl ?_
  refine Wp.ret rfl rfl rfl ?_
  exact ⟨rfl, rfl⟩
theorem c_pf_2_2_2_0_0 {E : zEn} {vs : List (Nat × Nat)} {mi : Nat → Nat → Int32} {ml : Nat → Nat → Int64} {g : Nat → Nat → Option Nat} {x y v : Int32} (h1 : mi 51 1 = 0) (h2 : mi 51 2 = 2) (h3 : mi 51 3 = y) (h4 : mi 51 4 = v) : Wp E 7 pg_Performance_perform 0 (lv_args 0 [.ref 51, .int 2, .int 2, .int x, .int 0]) [] (zsh ++ vs, mi, ml, (zmr g)) (fun r w' => r = some (.int ((((x * 3) + y) - v) * 2)) ∧ w' = (zsh ++ vs, (zup (zup (zup (zup (zup (zup (zup (zup mi 52 0 12) 51 1 1) 52 1 11) 51 1 2) 52 2 30) 51 1 3) 52 3 10) 51 1 4), ml, zmr g)) := by
  refine Wp.run 24 (15, [(6, .int 1), (5, .int 0), (0, .ref 51), (1, .int 2), (2, .int 2), (3, .int x), (4, .int 0)], [], (zsh ++ vs, mi, ml, (zmr g))) rfl ?_
  refine Wp.run 21 (65, [(6, .int 12), (5, .int 0), (0, .ref 51), (1, .int 2), (2, .int 2), (3, .int x), (4, .int 0)], [.int (mi 51 1)], (zsh ++ vs, mi, ml, (zmr g))) rfl ?_
  refine Wp.topi (y := 0) (h1) ?_
  refine Wp.run 6 (78, [(6, .int 12), (5, .int 0), (0, .ref 51), (1, .int 2), (2, .int 2), (3, .int x), (4, .int 0)], [.int (mi 51 1), .ref 52], (zsh ++ vs, mi, ml, (zmr g))) rfl ?_
  refine Wp.topi (y := 0) (h1) ?_
  refine Wp.run 5 (86, [(6, .int 12), (5, .int 0), (0, .ref 51), (1, .int 2), (2, .int 2), (3, .int x), (4, .int 0)], [.int (mi 51 1), .ref 51], (zsh ++ vs, (zup mi 52 0 12), ml, (zmr g))) rfl ?_
  refine Wp.topi (y := 0) (h1) ?_
  refine Wp.run 12 (105, [(6, .int 12), (5, .int 0), (0, .ref 51), (1, .int 2), (2, .int 2), (3, .int x), (4, .int 0)], [.int 1, .int x, .int 0, .int 12, .ref 51], (zsh ++ vs, (zup (zup mi 52 0 12) 51 1 1), ml, (zmr g))) rfl ?_
  refine Wp.call (as := [.ref 51, .int 12, .int 0, .int x, .int 1]) (rest := []) rfl rfl rfl rfl rfl (Nat.le_of_ble_eq_true rfl) (Nat.le_of_ble_eq_true rfl) rfl (by decide) (c_rn_2_2_2_0_0 (mi := (zup (zup mi 52 0 12) 51 1 1)) rfl h2 h3 h4) ?_
  rintro _ _ ⟨rfl, rfl⟩
  refine Wp.run 0 (108, [(6, .int 12), (5, .int 0), (0, .ref 51), (1, .int 2), (2, .int 2), (3, .int x), (4, .int 0)], [.int ((((x * 3) + y) - v) * 2)], (zsh ++ vs, (zup (zup (zup (zup (zup (zup (zup (zup mi 52 0 12) 51 1 1) 52 1 11) 51 1 2) 52 2 30) 51 1 3) 52 3 10) 51 1 4), ml, (zmr g))) rfl ?_
  refine Wp.ret rfl rfl rfl ?_
  exact ⟨rfl, rfl⟩
theorem c_rn_3_3_0_0_0 {E : zEn} {vs : List (Nat × Nat)} {mi : Nat → Nat → Int32} {ml : Nat → Nat → Int64} {g : Nat → Nat → Option Nat} {x y v : Int32} (h1 : mi 51 1 = 1) (h2 : mi 51 2 = 3) (h3 : mi 51 3 = y) (h4 : mi 51 4 = v) : Wp E 0 pg_Performance_run 0 (lv_args 0 [.ref 51, .int 10, .int 0, .int x, .int 1]) [] (zsh ++ vs, mi, ml, (zmr g)) (fun r w' => r = some (.int (x + y)) ∧ w' = (zsh ++ vs, mi, ml, zmr g)) := by
  refine Wp.run 5 (105, [(0, .ref 51), (1, .int 10), (2, .int 0), (3, .int x), (4, .int 1)], [.int (mi 51 3), .int x], (zsh ++ vs, mi, ml, (zmr g))) rfl ?_
  refine Wp.topi (y := y) (h3) ?_
  refine Wp.run 1 (106, [(0, .ref 51), (1, .int 10), (2, .int 0), (3, .int x), (4, .int 1)], [.int (x + y)], (zsh ++ vs, mi, ml, (zmr g))) rfl ?_
  refine Wp.ret rfl rfl rfl ?_
  exact ⟨rfl, rfl⟩
theorem c_pf_3_3_0_0_0 {E : zEn} {vs : List (Nat × Nat)} {mi : Nat → Nat → Int32} {ml : Nat → Nat → Int64} {g : Nat → Nat → Option Nat} {x y v : Int32} (h1 : mi 51 1 = 0) (h2 : mi 51 2 = 3) (h3 : mi 51 3 = y) (h4 : mi 51 4 = v) : Wp E 1 pg_Performance_perform 0 (lv_args 0 [.ref 51, .int 3, .int 0, .int x, .int 0]) [] (zsh ++ vs, mi, ml, (zmr g)) (fun r w' => r = some (.int (x + y)) ∧ w' = (zsh ++ vs, (zup (zup mi 52 0 10) 51 1 1), ml, zmr g)) := by
  refine Wp.run 24 (15, [(6, .int 1), (5, .int 0), (0, .ref 51), (1, .int 3), (2, .int 0), (3, .int x), (4, .int 0)], [], (zsh ++ vs, mi, ml, (zmr g))) rfl ?_
  refine Wp.run 21 (65, [(6, .int 10), (5, .int 0), (0, .ref 51), (1, .int 3), (2, .int 0), (3, .int x), (4, .int 0)], [.int (mi 51 1)], (zsh ++ vs, mi, ml, (zmr g))) rfl ?_
  refine Wp.topi (y := 0) (h1) ?_
  refine Wp.run 6 (78, [(6, .int 10), (5, .int 0), (0, .ref 51), (1, .int 3), (2, .int 0), (3, .int x), (4, .int 0)], [.int (mi 51 1), .ref 52], (zsh ++ vs, mi, ml, (zmr g))) rfl ?_
  refine Wp.topi (y := 0) (h1) ?_
  refine Wp.run 5 (86, [(6, .int 10), (5, .int 0), (0, .ref 51), (1, .int 3), (2, .int 0), (3, .int x), (4, .int 0)], [.int (mi 51 1), .ref 51], (zsh ++ vs, (zup mi 52 0 10), ml, (zmr g))) rfl ?_
  refine Wp.topi (y := 0) (h1) ?_
  refine Wp.run 12 (105, [(6, .int 10), (5, .int 0), (0, .ref 51), (1, .int 3), (2, .int 0), (3, .int x), (4, .int 0)], [.int 1, .int x, .int 0, .int 10, .ref 51], (zsh ++ vs, (zup (zup mi 52 0 10) 51 1 1), ml, (zmr g))) rfl ?_
  refine Wp.call (as := [.ref 51, .int 10, .int 0, .int x, .int 1]) (rest := []) rfl rfl rfl rfl rfl (Nat.le_of_ble_eq_true rfl) (Nat.le_of_ble_eq_true rfl) rfl (by decide) (c_rn_3_3_0_0_0 (mi := (zup (zup mi 52 0 10) 51 1 1)) rfl h2 h3 h4) ?_
  rintro _ _ ⟨rfl, rfl⟩
  refine Wp.run 0 (108, [(6, .int 10), (5, .int 0), (0, .ref 51), (1, .int 3), (2, .int 0), (3, .int x), (4, .int 0)], [.int (x + y)], (zsh ++ vs, (zup (zup mi 52 0 10) 51 1 1), ml, (zmr g))) rfl ?_
  refine Wp.ret rfl rfl rfl ?_
  exact ⟨rfl, rfl⟩
theorem c_rn_3_3_0_1_1 {E : zEn} {vs : List (Nat × Nat)} {mi : Nat → Nat → Int32} {ml : Nat → Nat → Int64} {g : Nat → Nat → Option Nat} {x y v : Int32} (h1 : mi 51 1 = 2) (h2 : mi 51 2 = 3) (h3 : mi 51 3 = y) (h4 : mi 51 4 = v) : Wp E 0 pg_Performance_run 0 (lv_args 0 [.ref 51, .int 10, .int 0, .int x, .int 2]) [] (zsh ++ vs, mi, ml, (zmr g)) (fun r w' => r = some (.int (x + y)) ∧ w' = (zsh ++ vs, mi, ml, zmr g)) := by
  refine Wp.run 5 (105, [(0, .ref 51), (1, .int 10), (2, .int 0), (3, .int x), (4, .int 2)], [.int (mi 51 3), .int x], (zsh ++ vs, mi, ml, (zmr g))) rfl ?_
  refine Wp.topi (y := y) (h3) ?_
  refine Wp.run 1 (106, [(0, .ref 51), (1, .int 10), (2, .int 0), (3, .int x), (4, .int 2)], [.int (x + y)], (zsh ++ vs, mi, ml, (zmr g))) rfl ?_
  refine Wp.ret rfl rfl rfl ?_
  exact ⟨rfl, rfl⟩
theorem c_pf_3_3_0_1_1 {E : zEn} {vs : List (Nat × Nat)} {mi : Nat → Nat → Int32} {ml : Nat → Nat → Int64} {g : Nat → Nat → Option Nat} {x y v : Int32} (h1 : mi 51 1 = 1) (h2 : mi 51 2 = 3) (h3 : mi 51 3 = y) (h4 : mi 51 4 = v) : Wp E 1 pg_Performance_perform 0 (lv_args 0 [.ref 51, .int 3, .int 0, .int x, .int 1]) [] (zsh ++ vs, mi, ml, (zmr g)) (fun r w' => r = some (.int (x + y)) ∧ w' = (zsh ++ vs, (zup (zup mi 52 1 10) 51 1 2), ml, zmr g)) := by
  refine Wp.run 24 (15, [(6, .int 1), (5, .int 0), (0, .ref 51), (1, .int 3), (2, .int 0), (3, .int x), (4, .int 1)], [], (zsh ++ vs, mi, ml, (zmr g))) rfl ?_
  refine Wp.run 21 (65, [(6, .int 10), (5, .int 0), (0, .ref 51), (1, .int 3), (2, .int 0), (3, .int x), (4, .int 1)], [.int (mi 51 1)], (zsh ++ vs, mi, ml, (zmr g))) rfl ?_
  refine Wp.topi (y := 1) (h1) ?_
  refine Wp.run 6 (78, [(6, .int 10), (5, .int 0), (0, .ref 51), (1, .int 3), (2, .int 0), (3, .int x), (4, .int 1)], [.int (mi 51 1), .ref 52], (zsh ++ vs, mi, ml, (zmr g))) rfl ?_
  refine Wp.topi (y := 1) (h1) ?_
  refine Wp.run 5 (86, [(6, .int 10), (5, .int 0), (0, .ref 51), (1, .int 3), (2, .int 0), (3, .int x), (4, .int 1)], [.int (mi 51 1), .ref 51], (zsh ++ vs, (zup mi 52 1 10), ml, (zmr g))) rfl ?_
  refine Wp.topi (y := 1) (h1) ?_
  refine Wp.run 12 (105, [(6, .int 10), (5, .int 0), (0, .ref 51), (1, .int 3), (2, .int 0), (3, .int x), (4, .int 1)], [.int 2, .int x, .int 0, .int 10, .ref 51], (zsh ++ vs, (zup (zup mi 52 1 10) 51 1 2), ml, (zmr g))) rfl ?_
  refine Wp.call (as := [.ref 51, .int 10, .int 0, .int x, .int 2]) (rest := []) rfl rfl rfl rfl rfl (Nat.le_of_ble_eq_true rfl) (Nat.le_of_ble_eq_true rfl) rfl (by decide) (c_rn_3_3_0_1_1 (mi := (zup (zup mi 52 1 10) 51 1 2)) rfl h2 h3 h4) ?_
  rintro _ _ ⟨rfl, rfl⟩
  refine Wp.run 0 (108, [(6, .int 10), (5, .int 0), (0, .ref 51), (1, .int 3), (2, .int 0), (3, .int x), (4, .int 1)], [.int (x + y)], (zsh ++ vs, (zup (zup mi 52 1 10) 51 1 2), ml, (zmr g))) rfl ?_
  refine Wp.ret rfl rfl rfl ?_
  exact ⟨rfl, rfl⟩
theorem c_rn_3_3_1_0_0 {E : zEn} {vs : List (Nat × Nat)} {mi : Nat → Nat → Int32} {ml : Nat → Nat → Int64} {g : Nat → Nat → Option Nat} {x y v : Int32} (h1 : mi 51 1 = 1) (h2 : mi 51 2 = 3) (h3 : mi 51 3 = y) (h4 : mi 51 4 = v) : Wp E 2 pg_Performance_run 0 (lv_args 0 [.ref 51, .int 11, .int 0, .int x, .int 1]) [] (zsh ++ vs, mi, ml, (zmr g)) (fun r w' => r = some (.int ((x + y) - v)) ∧ w' = (zsh ++ vs, (zup (zup mi 52 1 10) 51 1 2), ml, zmr g)) := by
  refine Wp.run 5 (112, [(0, .ref 51), (1, .int 11), (2, .int 0), (3, .int x), (4, .int 1)], [.int (mi 51 2), .ref 51], (zsh ++ vs, mi, ml, (zmr g))) rfl ?_
  refine Wp.topi (y := 3) (h2) ?_
  refine Wp.run 3 (116, [(0, .ref 51), (1, .int 11), (2, .int 0), (3, .int x), (4, .int 1)], [.int 1, .int x, .int 0, .int 3, .ref 51], (zsh ++ vs, mi, ml, (zmr g))) rfl ?_
  refine Wp.call (as := [.ref 51, .int 3, .int 0, .int x, .int 1]) (rest := []) rfl rfl rfl rfl rfl (Nat.le_of_ble_eq_true rfl) (Nat.le_of_ble_eq_true rfl) rfl (by decide) (c_pf_3_3_0_1_1 (mi := mi) (x := x) h1 h2 h3 h4) ?_
  rintro _ _ ⟨rfl, rfl⟩
  refine Wp.run 2 (123, [(0, .ref 51), (1, .int 11), (2, .int 0), (3, .int x), (4, .int 1)], [.int (mi 51 4), .int (x + y)], (zsh ++ vs, (zup (zup mi 52 1 10) 51 1 2), ml, (zmr g))) rfl ?_
  refine Wp.topi (y := v) (h4) ?_
  refine Wp.run 1 (124, [(0, .ref 51), (1, .int 11), (2, .int 0), (3, .int x), (4, .int 1)], [.int ((x + y) - v)], (zsh ++ vs, (zup (zup mi 52 1 10) 51 1 2), ml, (zmr g))) rfl ?_
  refine Wp.ret rfl rfl rfl ?_
  exact ⟨rfl, rfl⟩
theorem c_pf_3_3_1_0_0 {E : zEn} {vs : List (Nat × Nat)} {mi : Nat → Nat → Int32} {ml : Nat → Nat → Int64} {g : Nat → Nat → Option Nat} {x y v : Int32} (h1 : mi 51 1 = 0) (h2 : mi 51 2 = 3) (h3 : mi 51 3 = y) (h4 : mi 51 4 = v) : Wp E 3 pg_Performance_perform 0 (lv_args 0 [.ref 51, .int 3, .int 1, .int x, .int 0]) [] (zsh ++ vs, mi, ml, (zmr g)) (fun r w' => r = some (.int ((x + y) - v)) ∧ w' = (zsh ++ vs, (zup (zup (zup (zup mi 52 0 11) 51 1 1) 52 1 10) 51 1 2), ml, zmr g)) := by
  refine Wp.run 24 (15, [(6, .int 1), (5, .int 0), (0, .ref 51), (1, .int 3), (2, .int 1), (3, .int x), (4, .int 0)], [], (zsh ++ vs, mi, ml, (zmr g))) rfl ?_
  refine Wp.run 21 (65, [(6, .int 11), (5, .int 0), (0, .ref 51), (1, .int 3), (2, .int 1), (3, .int x), (4, .int 0)], [.int (mi 51 1)], (zsh ++ vs, mi, ml, (zmr g))) rfl ?_
  refine Wp.topi (y := 0) (h1) ?_
  refine Wp.run 6 (78, [(6, .int 11), (5, .int 0), (0, .ref 51), (1, .int 3), (2, .int 1), (3, .int x), (4, .int 0)], [.int (mi 51 1), .ref 52], (zsh ++ vs, mi, ml, (zmr g))) rfl ?_
  refine Wp.topi (y := 0) (h1) ?_
  refine Wp.run 5 (86, [(6, .int 11), (5, .int 0), (0, .ref 51), (1, .int 3), (2, .int 1), (3, .int x), (4, .int 0)], [.int (mi 51 1), .ref 51], (zsh ++ vs, (zup mi 52 0 11), ml, (zmr g))) rfl ?_
  refine Wp.topi (y := 0) (h1) ?_
  refine Wp.run 12 (105, [(6, .int 11), (5, .int 0), (0, .ref 51), (1, .int 3), (2, .int 1), (3, .int x), (4, .int 0)], [.int 1, .int x, .int 0, .int 11, .ref 51], (zsh ++ vs, (zup (zup mi 52 0 11) 51 1 1), ml, (zmr g))) rfl ?_
  refine Wp.call (as := [.ref 51, .int 11, .int 0, .int x, .int 1]) (rest := []) rfl rfl rfl rfl rfl (Nat.le_of_ble_eq_true rfl) (Nat.le_of_ble_eq_true rfl) rfl (by decide) (c_rn_3_3_1_0_0 (mi := (zup (zup mi 52 0 11) 51 1 1)) rfl h2 h3 h4) ?_
  rintro _ _ ⟨rfl, rfl⟩
  refine Wp.run 0 (108, [(6, .int 11), (5, .int 0), (0, .ref 51), (1, .int 3), (2, .int 1), (3, .int x), (4, .int 0)], [.int ((x + y) - v)], (zsh ++ vs, (zup (zup (zup (zup mi 52 0 11) 51 1 1) 52 1 10) 51 1 2), ml, (zmr g))) rfl ?_
  refine Wp.ret rfl rfl rfl ?_
  exact ⟨rfl, rfl⟩
theorem c_rn_3_3_0_3_3 {E : zEn} {vs : List (Nat × Nat)} {mi : Nat → Nat → Int32} {ml : Nat → Nat → Int64} {g : Nat → Nat → Option Nat} {x y v : Int32} (h1 : mi 51 1 = 4) (h2 : mi 51 2 = 3) (h3 : mi 51 3 = y) (h4 : mi 51 4 = v) : Wp E 0 pg_Performance_run 0 (lv_args 0 [.ref 51, .int 10, .int 0, .int x, .int 4]) [] (zsh ++ vs, mi, ml, (zmr g)) (fun r w' => r = some (.int (x + y)) ∧ w' = (zsh ++ vs, mi, ml, zmr g)) := by
  refine Wp.run 5 (105, [(0, .ref 51), (1, .int 10), (2, .int 0), (3, .int x), (4, .int 4)], [.int (mi 51 3), .int x], (zsh ++ vs, mi, ml, (zmr g))) rfl ?_
  refine Wp.topi (y := y) (h3) ?_
  refine Wp.run 1 (106, [(0, .ref 51), (1, .int 10), (2, .int 0), (3, .int x), (4, .int 4)], [.int (x + y)], (zsh ++ vs, mi, ml, (zmr g))) rfl ?_
  refine Wp.ret rfl rfl rfl ?_
  exact ⟨rfl, rfl⟩
theorem c_pf_3_3_0_3_3 {E : zEn} {vs : List (Nat × Nat)} {mi : Nat → Nat → Int32} {ml : Nat → Nat → Int64} {g : Nat → Nat → Option Nat} {x y v : Int32} (h1 : mi 51 1 = 3) (h2 : mi 51 2 = 3) (h3 : mi 51 3 = y) (h4 : mi 51 4 = v) : Wp E 1 pg_Performance_perform 0 (lv_args 0 [.ref 51, .int 3, .int 0, .int x, .int 3]) [] (zsh ++ vs, mi, ml, (zmr g)) (fun r w' => r = some (.int (x + y)) ∧ w' = (zsh ++ vs, (zup (zup mi 52 3 10) 51 1 4), ml, zmr g)) := by
  refine Wp.run 24 (15, [(6, .int 1), (5, .int 0), (0, .ref 51), (1, .int 3), (2, .int 0), (3, .int x), (4, .int 3)], [], (zsh ++ vs, mi, ml, (zmr g))) rfl ?_
  refine Wp.run 21 (65, [(6, .int 10), (5, .int 0), (0, .ref 51), (1, .int 3), (2, .int 0), (3, .int x), (4, .int 3)], [.int (mi 51 1)], (zsh ++ vs, mi, ml, (zmr g))) rfl ?_
  refine Wp.topi (y := 3) (h1) ?_
  refine Wp.run 6 (78, [(6, .int 10), (5, .int 0), (0, .ref 51), (1, .int 3), (2, .int 0), (3, .int x), (4, .int 3)], [.int (mi 51 1), .ref 52], (zsh ++ vs, mi, ml, (zmr g))) rfl ?_
  refine Wp.topi (y := 3) (h1) ?_
  refine Wp.run 5 (86, [(6, .int 10), (5, .int 0), (0, .ref 51), (1, .int 3), (2, .int 0), (3, .int x), (4, .int 3)], [.int (mi 51 1), .ref 51], (zsh ++ vs, (zup mi 52 3 10), ml, (zmr g))) rfl ?_
  refine Wp.topi (y := 3) (h1) ?_
  refine Wp.run 12 (105, [(6, .int 10), (5, .int 0), (0, .ref 51), (1, .int 3), (2, .int 0), (3, .int x), (4, .int 3)], [.int 4, .int x, .int 0, .int 10, .ref 51], (zsh ++ vs, (zup (zup mi 52 3 10) 51 1 4), ml, (zmr g))) rfl ?_
  refine Wp.call (as := [.ref 51, .int 10, .int 0, .int x, .int 4]) (rest := []) rfl rfl rfl rfl rfl (Nat.le_of_ble_eq_true rfl) (Nat.le_of_ble_eq_true rfl) rfl (by decide) (c_rn_3_3_0_3_3 (mi := (zup (zup mi 52 3 10) 51 1 4)) rfl h2 h3 h4) ?_
  rintro _ _ ⟨rfl, rfl⟩
  refine Wp.run 0 (108, [(6, .int 10), (5, .int 0), (0, .ref 51), (1, .int 3), (2, .int 0), (3, .int x), (4, .int 3)], [.int (x + y)], (zsh ++ vs, (zup (zup mi 52 3 10) 51 1 4), ml, (zmr g))) rfl ?_
  refine Wp.ret rfl rfl rfl ?_
  exact ⟨rfl, rfl⟩
theorem c_rn_3_3_1_2_2 {E : zEn} {vs : List (Nat × Nat)} {mi : Nat → Nat → Int32} {ml : Nat → Nat → Int64} {g : Nat → Nat → Option Nat} {x y v : Int32} (h1 : mi 51 1 = 3) (h2 : mi 51 2 = 3) (h3 : mi 51 3 = y) (h4 : mi 51 4 = v) : Wp E 2 pg_Performance_run 0 (lv_args 0 [.ref 51, .int 11, .int 0, .int x, .int 3]) [] (zsh ++ vs, mi, ml, (zmr g)) (fun r w' => r = some (.int ((x + y) - v)) ∧ w' = (zsh ++ vs, (zup (zup mi 52 3 10) 51 1 4), ml, zmr g)) := by
  refine Wp.run 5 (112, [(0, .ref 51), (1, .int 11), (2, .int 0), (3, .int x), (4, .int 3)], [.int (mi 51 2), .ref 51], (zsh ++ vs, mi, ml, (zmr g))) rfl ?_
  refine Wp.topi (y := 3) (h2) ?_
  refine Wp.run 3 (116, [(0, .ref 51), (1, .int 11), (2, .int 0), (3, .int x), (4, .int 3)], [.int 3, .int x, .int 0, .int 3, .ref 51], (zsh ++ vs, mi, ml, (zmr g))) rfl ?_
  refine Wp.call (as := [.ref 51, .int 3, .int 0, .int x, .int 3]) (rest := []) rfl rfl rfl rfl rfl (Nat.le_of_ble_eq_true rfl) (Nat.le_of_ble_eq_true rfl) rfl (by decide) (c_pf_3_3_0_3_3 (mi := mi) (x := x) h1 h2 h3 h4) ?_
  rintro _ _ ⟨rfl, rfl⟩
  refine Wp.run 2 (123, [(0, .ref 51), (1, .int 11), (2, .int 0), (3, .int x), (4, .int 3)], [.int (mi 51 4), .int (x + y)], (zsh ++ vs, (zup (zup mi 52 3 10) 51 1 4), ml, (zmr g))) rfl ?_
  refine Wp.topi (y := v) (h4) ?_
  refine Wp.run 1 (124, [(0, .ref 51), (1, .int 11), (2, .int 0), (3, .int x), (4, .int 3)], [.int ((x + y) - v)], (zsh ++ vs, (zup (zup mi 52 3 10) 51 1 4), ml, (zmr g))) rfl ?_
  refine Wp.ret rfl rfl rfl ?_
  exact ⟨rfl, rfl⟩
theorem c_pf_3_3_1_2_2 {E : zEn} {vs : List (Nat × Nat)} {mi : Nat → Nat → Int32} {ml : Nat → Nat → Int64} {g : Nat → Nat → Option Nat} {x y v : Int32} (h1 : mi 51 1 = 2) (h2 : mi 51 2 = 3) (h3 : mi 51 3 = y) (h4 : mi 51 4 = v) : Wp E 3 pg_Performance_perform 0 (lv_args 0 [.ref 51, .int 3, .int 1, .int x, .int 2]) [] (zsh ++ vs, mi, ml, (zmr g)) (fun r w' => r = some (.int ((x + y) - v)) ∧ w' = (zsh ++ vs, (zup (zup (zup (zup mi 52 2 11) 51 1 3) 52 3 10) 51 1 4), ml, zmr g)) := by
  refine Wp.run 24 (15, [(6, .int 1), (5, .int 0), (0, .ref 51), (1, .int 3), (2, .int 1), (3, .int x), (4, .int 2)], [], (zsh ++ vs, mi, ml, (zmr g))) rfl ?_
  refine Wp.run 21 (65, [(6, .int 11), (5, .int 0), (0, .ref 51), (1, .int 3), (2, .int 1), (3, .int x), (4, .int 2)], [.int (mi 51 1)], (zsh ++ vs, mi, ml, (zmr g))) rfl ?_
  refine Wp.topi (y := 2) (h1) ?_
  refine Wp.run 6 (78, [(6, .int 11), (5, .int 0), (0, .ref 51), (1, .int 3), (2, .int 1), (3, .int x), (4, .int 2)], [.int (mi 51 1), .ref 52], (zsh ++ vs, mi, ml, (zmr g))) rfl ?_
  refine Wp.topi (y := 2) (h1) ?_
  refine Wp.run 5 (86, [(6, .int 11), (5, .int 0), (0, .ref 51), (1, .int 3), (2, .int 1), (3, .int x), (4, .int 2)], [.int (mi 51 1), .ref 51], (zsh ++ vs, (zup mi 52 2 11), ml, (zmr g))) rfl ?_
  refine Wp.topi (y := 2) (h1) ?_
  refine Wp.run 12 (105, [(6, .int 11), (5, .int 0), (0, .ref 51), (1, .int 3), (2, .int 1), (3, .int x), (4, .int 2)], [.int 3, .int x, .int 0, .int 11, .ref 51], (zsh ++ vs, (zup (zup mi 52 2 11) 51 1 3), ml, (zmr g))) rfl ?_
  refine Wp.call (as := [.ref 51, .int 11, .int 0, .int x, .int 3]) (rest := []) rfl rfl rfl rfl rfl (Nat.le_of_ble_eq_true rfl) (Nat.le_of_ble_eq_true rfl) rfl (by decide) (c_rn_3_3_1_2_2 (mi := (zup (zup mi 52 2 11) 51 1 3)) rfl h2 h3 h4) ?_
  rintro _ _ ⟨rfl, rfl⟩
  refine Wp.run 0 (108, [(6, .int 11), (5, .int 0), (0, .ref 51), (1, .int 3), (2, .int 1), (3, .int x), (4, .int 2)], [.int ((x + y) - v)], (zsh ++ vs, (zup (zup (zup (zup mi 52 2 11) 51 1 3) 52 3 10) 51 1 4), ml, (zmr g))) rfl ?_
  refine Wp.ret rfl rfl rfl ?_
  exact ⟨rfl, rfl⟩
theorem c_rn_3_0_2_1_1 {E : zEn} {vs : List (Nat × Nat)} {mi : Nat → Nat → Int32} {ml : Nat → Nat → Int64} {g : Nat → Nat → Option Nat} {x y v : Int32} (h1 : mi 51 1 = 2) (h2 : mi 51 2 = 3) (h3 : mi 51 3 = y) (h4 : mi 51 4 = v) : Wp E 4 pg_Performance_run 0 (lv_args 0 [.ref 51, .int 12, .int 0, .int x, .int 2]) [] (zsh ++ vs, mi, ml, (zmr g)) (fun r w' => r = some (.int (((x + y) - v) * 2)) ∧ w' = (zsh ++ vs, (zup (zup (zup (zup mi 52 2 11) 51 1 3) 52 3 10) 51 1 4), ml, zmr g)) := by
  refine Wp.run 5 (130, [(0, .ref 51), (1, .int 12), (2, .int 0), (3, .int x), (4, .int 2)], [.int (mi 51 2), .ref 51], (zsh ++ vs, mi, ml, (zmr g))) rfl ?_
  refine Wp.topi (y := 3) (h2) ?_
  refine Wp.run 3 (134, [(0, .ref 51), (1, .int 12), (2, .int 0), (3, .int x), (4, .int 2)], [.int 2, .int x, .int 1, .int 3, .ref 51], (zsh ++ vs, mi, ml, (zmr g))) rfl ?_
  refine Wp.call (as := [.ref 51, .int 3, .int 1, .int x, .int 2]) (rest := []) rfl rfl rfl rfl rfl (Nat.le_of_ble_eq_true rfl) (Nat.le_of_ble_eq_true rfl) rfl (by decide) (c_pf_3_3_1_2_2 (mi := mi) (x := x) h1 h2 h3 h4) ?_
  rintro _ _ ⟨rfl, rfl⟩
  refine Wp.run 2 (139, [(0, .ref 51), (1, .int 12), (2, .int 0), (3, .int x), (4, .int 2)], [.int (((x + y) - v) * 2)], (zsh ++ vs, (zup (zup (zup (zup mi 52 2 11) 51 1 3) 52 3 10) 51 1 4), ml, (zmr g))) rfl ?_
  refine Wp.ret rfl rfl rfl ?_
  exact ⟨rfl, rfl⟩
theorem c_pf_3_0_2_1_1 {E : zEn} {vs : List (Nat × Nat)} {mi : Nat → Nat → Int32} {ml : Nat → Nat → Int64} {g : Nat → Nat → Option Nat} {x y v : Int32} (h1 : mi 51 1 = 1) (h2 : mi 51 2 = 3) (h3 : mi 51 3 = y) (h4 : mi 51 4 = v) : Wp E 5 pg_Performance_perform 0 (lv_args 0 [.ref 51, .int 0, .int 2, .int x, .int 1]) [] (zsh ++ vs, mi, ml, (zmr g)) (fun r w' => r = some (.int (((x + y) - v) * 2)) ∧ w' = (zsh ++ vs, (zup (zup (zup (zup (zup (zup mi 52 1 12) 51 1 2) 52 2 11) 51 1 3) 52 3 10) 51 1 4), ml, zmr g)) := by
  refine Wp.run 24 (58, [(6, .int 0), (5, .int 0), (0, .ref 51), (1, .int 0), (2, .int 2), (3, .int x), (4, .int 1)], [.int 2, .ref 502], (zsh ++ vs, mi, ml, (zmr g))) rfl ?_
  refine Wp.run 4 (65, [(6, .int 12), (5, .int 0), (0, .ref 51), (1, .int 0), (2, .int 2), (3, .int x), (4, .int 1)], [.int (mi 51 1)], (zsh ++ vs, mi, ml, (zmr g))) rfl ?_
  refine Wp.topi (y := 1) (h1) ?_
  refine Wp.run 6 (78, [(6, .int 12), (5, .int 0), (0, .ref 51), (1, .int 0), (2, .int 2), (3, .int x), (4, .int 1)], [.int (mi 51 1), .ref 52], (zsh ++ vs, mi, ml, (zmr g))) rfl ?_
  refine Wp.topi (y := 1) (h1) ?_
  refine Wp.run 5 (86, [(6, .int 12), (5, .int 0), (0, .ref 51), (1, .int 0), (2, .int 2), (3, .int x), (4, .int 1)], [.int (mi 51 1), .ref 51], (zsh ++ vs, (zup mi 52 1 12), ml, (zmr g))) rfl ?_
  refine Wp.topi (y := 1) (h1) ?_
  refine Wp.run 12 (105, [(6, .int 12), (5, .int 0), (0, .ref 51), (1, .int 0), (2, .int 2), (3, .int x), (4, .int 1)], [.int 2, .int x, .int 0, .int 12, .ref 51], (zsh ++ vs, (zup (zup mi 52 1 12) 51 1 2), ml, (zmr g))) rfl ?_
  refine Wp.call (as := [.ref 51, .int 12, .int 0, .int x, .int 2]) (rest := []) rfl rfl rfl rfl rfl (Nat.le_of_ble_eq_true rfl) (Nat.le_of_ble_eq_true rfl) rfl (by decide) (c_rn_3_0_2_1_1 (mi := (zup (zup mi 52 1 12) 51 1 2)) rfl h2 h3 h4) ?_
  rintro _ _ ⟨rfl, rfl⟩
  refine Wp.run 0 (108, [(6, .int 12), (5, .int 0), (0, .ref 51), (1, .int 0), (2, .int 2), (3, .int x), (4, .int 1)], [.int (((x + y) - v) * 2)], (zsh ++ vs, (zup (zup (zup (zup (zup (zup mi 52 1 12) 51 1 2) 52 2 11) 51 1 3) 52 3 10) 51 1 4), ml, (zmr g))) rfl ?_
  refine Wp.ret rfl rfl rfl ?_
  exact ⟨rfl, rfl⟩
theorem c_rn_3_3_0_5_2 {E : zEn} {vs : List (Nat × Nat)} {mi : Nat → Nat → Int32} {ml : Nat → Nat → Int64} {g : Nat → Nat → Option Nat} {x y v : Int32} (h1 : mi 51 1 = 6) (h2 : mi 51 2 = 3) (h3 : mi 51 3 = y) (h4 : mi 51 4 = v) : Wp E 0 pg_Performance_run 0 (lv_args 0 [.ref 51, .int 10, .int 0, .int x, .int 3]) [] (zsh ++ vs, mi, ml, (zmr g)) (fun r w' => r = some (.int (x + y)) ∧ w' = (zsh ++ vs, mi, ml, zmr g)) := by
  refine Wp.run 5 (105, [(0, .ref 51), (1, .int 10), (2, .int 0), (3, .int x), (4, .int 3)], [.int (mi 51 3), .int x], (zsh ++ vs, mi, ml, (zmr g))) rfl ?_
  refine Wp.topi (y := y) (h3) ?_
  refine Wp.run 1 (106, [(0, .ref 51), (1, .int 10), (2, .int 0), (3, .int x), (4, .int 3)], [.int (x + y)], (zsh ++ vs, mi, ml, (zmr g))) rfl ?_
  refine Wp.ret rfl rfl rfl ?_
  exact ⟨rfl, rfl⟩
theorem c_pf_3_3_0_5_2 {E : zEn} {vs : List (Nat × Nat)} {mi : Nat → Nat → Int32} {ml : Nat → Nat → Int64} {g : Nat → Nat → Option Nat} {x y v : Int32} (h1 : mi 51 1 = 5) (h2 : mi 51 2 = 3) (h3 : mi 51 3 = y) (h4 : mi 51 4 = v) : Wp E 1 pg_Performance_perform 0 (lv_args 0 [.ref 51, .int 3, .int 0, .int x, .int 2]) [] (zsh ++ vs, mi, ml, (zmr g)) (fun r w' => r = some (.int (x + y)) ∧ w' = (zsh ++ vs, (zup (zup mi 52 5 10) 51 1 6), ml, zmr g)) := by
  refine Wp.run 24 (15, [(6, .int 1), (5, .int 0), (0, .ref 51), (1, .int 3), (2, .int 0), (3, .int x), (4, .int 2)], [], (zsh ++ vs, mi, ml, (zmr g))) rfl ?_
  refine Wp.run 21 (65, [(6, .int 10), (5, .int 0), (0, .ref 51), (1, .int 3), (2, .int 0), (3, .int x), (4, .int 2)], [.int (mi 51 1)], (zsh ++ vs, mi, ml, (zmr g))) rfl ?_
  refine Wp.topi (y := 5) (h1) ?_
  refine Wp.run 6 (78, [(6, .int 10), (5, .int 0), (0, .ref 51), (1, .int 3), (2, .int 0), (3, .int x), (4, .int 2)], [.int (mi 51 1), .ref 52], (zsh ++ vs, mi, ml, (zmr g))) rfl ?_
  refine Wp.topi (y := 5) (h1) ?_
  refine Wp.run 5 (86, [(6, .int 10), (5, .int 0), (0, .ref 51), (1, .int 3), (2, .int 0), (3, .int x), (4, .int 2)], [.int (mi 51 1), .ref 51], (zsh ++ vs, (zup mi 52 5 10), ml, (zmr g))) rfl ?_
  refine Wp.topi (y := 5) (h1) ?_
  refine Wp.run 12 (105, [(6, .int 10), (5, .int 0), (0, .ref 51), (1, .int 3), (2, .int 0), (3, .int x), (4, .int 2)], [.int 3, .int x, .int 0, .int 10, .ref 51], (zsh ++ vs, (zup (zup mi 52 5 10) 51 1 6), ml, (zmr g))) rfl ?_
  refine Wp.call (as := [.ref 51, .int 10, .int 0, .int x, .int 3]) (rest := []) rfl rfl rfl rfl rfl (Nat.le_of_ble_eq_true rfl) (Nat.le_of_ble_eq_true rfl) rfl (by decide) (c_rn_3_3_0_5_2 (mi := (zup (zup mi 52 5 10) 51 1 6)) rfl h2 h3 h4) ?_
  rintro _ _ ⟨rfl, rfl⟩
  refine Wp.run 0 (108, [(6, .int 10), (5, .int 0), (0, .ref 51), (1, .int 3), (2, .int 0), (3, .int x), (4, .int 2)], [.int (x + y)], (zsh ++ vs, (zup (zup mi 52 5 10) 51 1 6), ml, (zmr g))) rfl ?_
  refine Wp.ret rfl rfl rfl ?_
  exact ⟨rfl, rfl⟩
theorem c_rn_3_3_1_4_1 {E : zEn} {vs : List (Nat × Nat)} {mi : Nat → Nat → Int32} {ml : Nat → Nat → Int64} {g : Nat → Nat → Option Nat} {x y v : Int32} (h1 : mi 51 1 = 5) (h2 : mi 51 2 = 3) (h3 : mi 51 3 = y) (h4 : mi 51 4 = v) : Wp E 2 pg_Performance_run 0 (lv_args 0 [.ref 51, .int 11, .int 0, .int x, .int 2]) [] (zsh ++ vs, mi, ml, (zmr g)) (fun r w' => r = some (.int ((x + y) - v)) ∧ w' = (zsh ++ vs, (zup (zup mi 52 5 10) 51 1 6), ml, zmr g)) := by
  refine Wp.run 5 (112, [(0, .ref 51), (1, .int 11), (2, .int 0), (3, .int x), (4, .int 2)], [.int (mi 51 2), .ref 51], (zsh ++ vs, mi, ml, (zmr g))) rfl ?_
  refine Wp.topi (y := 3) (h2) ?_
  refine Wp.run 3 (116, [(0, .ref 51), (1, .int 11), (2, .int 0), (3, .int x), (4, .int 2)], [.int 2, .int x, .int 0, .int 3, .ref 51], (zsh ++ vs, mi, ml, (zmr g))) rfl ?_
  refine Wp.call (as := [.ref 51, .int 3, .int 0, .int x, .int 2]) (rest := []) rfl rfl rfl rfl rfl (Nat.le_of_ble_eq_true rfl) (Nat.le_of_ble_eq_true rfl) rfl (by decide) (c_pf_3_3_0_5_2 (mi := mi) (x := x) h1 h2 h3 h4) ?_
  rintro _ _ ⟨rfl, rfl⟩
  refine Wp.run 2 (123, [(0, .ref 51), (1, .int 11), (2, .int 0), (3, .int x), (4, .int 2)], [.int (mi 51 4), .int (x + y)], (zsh ++ vs, (zup (zup mi 52 5 10) 51 1 6), ml, (zmr g))) rfl ?_
  refine Wp.topi (y := v) (h4) ?_
  refine Wp.run 1 (124, [(0, .ref 51), (1, .int 11), (2, .int 0), (3, .int x), (4, .int 2)], [.int ((x + y) - v)], (zsh ++ vs, (zup (zup mi 52 5 10) 51 1 6), ml, (zmr g))) rfl ?_
  refine Wp.ret rfl rfl rfl ?_
  exact ⟨rfl, rfl⟩
theorem c_pf_3_3_1_4_1 {E : zEn} {vs : List (Nat × Nat)} {mi : Nat → Nat → Int32} {ml : Nat → Nat → Int64} {g : Nat → Nat → Option Nat} {x y v : Int32} (h1 : mi 51 1 = 4) (h2 : mi 51 2 = 3) (h3 : mi 51 3 = y) (h4 : mi 51 4 = v) : Wp E 3 pg_Performance_perform 0 (lv_args 0 [.ref 51, .int 3, .int 1, .int x, .int 1]) [] (zsh ++ vs, mi, ml, (zmr g)) (fun r w' => r = some (.int ((x + y) - v)) ∧ w' = (zsh ++ vs, (zup (zup (zup (zup mi 52 4 11) 51 1 5) 52 5 10) 51 1 6), ml, zmr g)) := by
  refine Wp.run 24 (15, [(6, .int 1), (5, .int 0), (0, .ref 51), (1, .int 3), (2, .int 1), (3, .int x), (4, .int 1)], [], (zsh ++ vs, mi, ml, (zmr g))) rfl ?_
  refine Wp.run 21 (65, [(6, .int 11), (5, .int 0), (0, .ref 51), (1, .int 3), (2, .int 1), (3, .int x), (4, .int 1)], [.int (mi 51 1)], (zsh ++ vs, mi, ml, (zmr g))) rfl ?_
  refine Wp.topi (y := 4) (h1) ?_
  refine Wp.run 6 (78, [(6, .int 11), (5, .int 0), (0, .ref 51), (1, .int 3), (2, .int 1), (3, .int x), (4, .int 1)], [.int (mi 51 1), .ref 52], (zsh ++ vs, mi, ml, (zmr g))) rfl ?_
  refine Wp.topi (y := 4) (h1) ?_
  refine Wp.run 5 (86, [(6, .int 11), (5, .int 0), (0, .ref 51), (1, .int 3), (2, .int 1), (3, .int x), (4, .int 1)], [.int (mi 51 1), .ref 51], (zsh ++ vs, (zup mi 52 4 11), ml, (zmr g))) rfl ?_
  refine Wp.topi (y := 4) (h1) ?_
  refine Wp.run 12 (105, [(6, .int 11), (5, .int 0), (0, .ref 51), (1, .int 3), (2, .int 1), (3, .int x), (4, .int 1)], [.int 2, .int x, .int 0, .int 11, .ref 51], (zsh ++ vs, (zup (zup mi 52 4 11) 51 1 5), ml, (zmr g))) rfl ?_
  refine Wp.call (as := [.ref 51, .int 11, .int 0, .int x, .int 2]) (rest := []) rfl rfl rfl rfl rfl (Nat.le_of_ble_eq_true rfl) (Nat.le_of_ble_eq_true rfl) rfl (by decide) (c_rn_3_3_1_4_1 (mi := (zup (zup mi 52 4 11) 51 1 5)) rfl h2 h3 h4) ?_
  rintro _ _ ⟨rfl, rfl⟩
  refine Wp.run 0 (108, [(6, .int 11), (5, .int 0), (0, .ref 51), (1, .int 3), (2, .int 1), (3, .int x), (4, .int 1)], [.int ((x + y) - v)], (zsh ++ vs, (zup (zup (zup (zup mi 52 4 11) 51 1 5) 52 5 10) 51 1 6), ml, (zmr g))) rfl ?_
  refine Wp.ret rfl rfl rfl ?_
  exact ⟨rfl, rfl⟩
theorem c_rn_3_3_2_0_0 {E : zEn} {vs : List (Nat × Nat)} {mi : Nat → Nat → Int32} {ml : Nat → Nat → Int64} {g : Nat → Nat → Option Nat} {x y v : Int32} (h1 : mi 51 1 = 1) (h2 : mi 51 2 = 3) (h3 : mi 51 3 = y) (h4 : mi 51 4 = v) : Wp E 6 pg_Performance_run 0 (lv_args 0 [.ref 51, .int 40, .int 0, .int x, .int 1]) [] (zsh ++ vs, mi, ml, (zmr g)) (fun r w' => r = some (.int ((((x + y) - v) * 2) + ((1 + y) - v))) ∧ w' = (zsh ++ vs, (zup (zup (zup (zup (zup (zup (zup (zup (zup (zup mi 52 1 12) 51 1 2) 52 2 11) 51 1 3) 52 3 10) 51 1 4) 52 4 11) 51 1 5) 52 5 10) 51 1 6), ml, zmr g)) := by
  refine Wp.run 7 (171, [(0, .ref 51), (1, .int 40), (2, .int 0), (3, .int x), (4, .int 1)], [.int 1, .int x, .int 2, .int 0, .ref 51], (zsh ++ vs, mi, ml, (zmr g))) rfl ?_
  refine Wp.call (as := [.ref 51, .int 0, .int 2, .int x, .int 1]) (rest := []) rfl rfl rfl rfl rfl (Nat.le_of_ble_eq_true rfl) (Nat.le_of_ble_eq_true rfl) rfl (by decide) (c_pf_3_0_2_1_1 (mi := mi) (x := x) h1 h2 h3 h4) ?_
  rintro _ _ ⟨rfl, rfl⟩
  refine Wp.run 3 (179, [(0, .ref 51), (1, .int 40), (2, .int 0), (3, .int x), (4, .int 1)], [.int (mi 51 2), .ref 51, .int (((x + y) - v) * 2)], (zsh ++ vs, (zup (zup (zup (zup (zup (zup mi 52 1 12) 51 1 2) 52 2 11) 51 1 3) 52 3 10) 51 1 4), ml, (zmr g))) rfl ?_
  refine Wp.topi (y := 3) (h2) ?_
  refine Wp.run 3 (183, [(0, .ref 51), (1, .int 40), (2, .int 0), (3, .int x), (4, .int 1)], [.int 1, .int 1, .int 1, .int 3, .ref 51, .int (((x + y) - v) * 2)], (zsh ++ vs, (zup (zup (zup (zup (zup (zup mi 52 1 12) 51 1 2) 52 2 11) 51 1 3) 52 3 10) 51 1 4), ml, (zmr g))) rfl ?_
  refine Wp.call (as := [.ref 51, .int 3, .int 1, .int 1, .int 1]) (rest := [.int (((x + y) - v) * 2)]) rfl rfl rfl rfl rfl (Nat.le_of_ble_eq_true rfl) (Nat.le_of_ble_eq_true rfl) rfl (by decide) (c_pf_3_3_1_4_1 (mi := (zup (zup (zup (zup (zup (zup mi 52 1 12) 51 1 2) 52 2 11) 51 1 3) 52 3 10) 51 1 4)) (x := 1) rfl h2 h3 h4) ?_
  rintro _ _ ⟨rfl, rfl⟩
  refine Wp.run 1 (187, [(0, .ref 51), (1, .int 40), (2, .int 0), (3, .int x), (4, .int 1)], [.int ((((x + y) - v) * 2) + ((1 + y) - v))], (zsh ++ vs, (zup (zup (zup (zup (zup (zup (zup (zup (zup (zup mi 52 1 12) 51 1 2) 52 2 11) 51 1 3) 52 3 10) 51 1 4) 52 4 11) 51 1 5) 52 5 10) 51 1 6), ml, (zmr g))) rfl ?_
  refine Wp.ret rfl rfl rfl ?_
  exact ⟨rfl, rfl⟩
theorem c_pf_3_3_2_0_0 {E : zEn} {vs : List (Nat × Nat)} {mi : Nat → Nat → Int32} {ml : Nat → Nat → Int64} {g : Nat → Nat → Option Nat} {x y v : Int32} (h1 : mi 51 1 = 0) (h2 : mi 51 2 = 3) (h3 : mi 51 3 = y) (h4 : mi 51 4 = v) : Wp E 7 pg_Performance_perform 0 (lv_args 0 [.ref 51, .int 3, .int 2, .int x, .int 0]) [] (zsh ++ vs, mi, ml, (zmr g)) (fun r w' => r = some (.int ((((x + y) - v) * 2) + ((1 + y) - v))) ∧ w' = (zsh ++ vs, (zup (zup (zup (zup (zup (zup (zup (zup (zup (zup (zup (zup mi 52 0 40) 51 1 1) 52 1 12) 51 1 2) 52 2 11) 51 1 3) 52 3 10) 51 1 4) 52 4 11) 51 1 5) 52 5 10) 51 1 6), ml, zmr g)) := by
  refine Wp.run 24 (58, [(6, .int 0), (5, .int 3), (0, .ref 51), (1, .int 3), (2, .int 2), (3, .int x), (4, .int 0)], [.int 11, .ref 502], (zsh ++ vs, mi, ml, (zmr g))) rfl ?_
  refine Wp.run 4 (65, [(6, .int 40), (5, .int 3), (0, .ref 51), (1, .int 3), (2, .int 2), (3, .int x), (4, .int 0)], [.int (mi 51 1)], (zsh ++ vs, mi, ml, (zmr g))) rfl ?_
  refine Wp.topi (y := 0) (h1) ?_
  refine Wp.run 6 (78, [(6, .int 40), (5, .int 3), (0, .ref 51), (1, .int 3), (2, .int 2), (3, .int x), (4, .int 0)], [.int (mi 51 1), .ref 52], (zsh ++ vs, mi, ml, (zmr g))) rfl ?_
  refine Wp.topi (y := 0) (h1) ?_
  refine Wp.run 5 (86, [(6, .int 40), (5, .int 3), (0, .ref 51), (1, .int 3), (2, .int 2), (3, .int x), (4, .int 0)], [.int (mi 51 1), .ref 51], (zsh ++ vs, (zup mi 52 0 40), ml, (zmr g))) rfl ?_
  refine Wp.topi (y := 0) (h1) ?_
  refine Wp.run 12 (105, [(6, .int 40), (5, .int 3), (0, .ref 51), (1, .int 3), (2, .int 2), (3, .int x), (4, .int 0)], [.int 1, .int x, .int 0, .int 40, .ref 51], (zsh ++ vs, (zup (zup mi 52 0 40) 51 1 1), ml, (zmr g))) rfl ?_
  refine Wp.call (as := [.ref 51, .int 40, .int 0, .int x, .int 1]) (rest := []) rfl rfl rfl rfl rfl (Nat.le_of_ble_eq_true rfl) (Nat.le_of_ble_eq_true rfl) rfl (by decide) (c_rn_3_3_2_0_0 (mi := (zup (zup mi 52 0 40) 51 1 1)) rfl h2 h3 h4) ?_
  rintro _ _ ⟨rfl, rfl⟩
  refine Wp.run 0 (108, [(6, .int 40), (5, .int 3), (0, .ref 51), (1, .int 3), (2, .int 2), (3, .int x), (4, .int 0)], [.int ((((x + y) - v) * 2) + ((1 + y) - v))], (zsh ++ vs, (zup (zup (zup (zup (zup (zup (zup (zup (zup (zup (zup (zup mi 52 0 40) 51 1 1) 52 1 12) 51 1 2) 52 2 11) 51 1 3) 52 3 10) 51 1 4) 52 4 11) 51 1 5) 52 5 10) 51 1 6), ml, (zmr g))) rfl ?_
  refine Wp.ret rfl rfl rfl ?_
  exact ⟨rfl, rfl⟩
theorem c_rn_4_1_0_1_1 {E : zEn} {vs : List (Nat × Nat)} {mi : Nat → Nat → Int32} {ml : Nat → Nat → Int64} {g : Nat → Nat → Option Nat} {x y v : Int32} (h1 : mi 51 1 = 2) (h2 : mi 51 2 = 4) (h3 : mi 51 3 = y) (h4 : mi 51 4 = v) : Wp E 0 pg_Performance_run 0 (lv_args 0 [.ref 51, .int 10, .int 0, .int x, .int 2]) [] (zsh ++ vs, mi, ml, (zmr g)) (fun r w' => r = some (.int (x + y)) ∧ w' = (zsh ++ vs, mi, ml, zmr g)) := by
  refine Wp.run 5 (105, [(0, .ref 51), (1, .int 10), (2, .int 0), (3, .int x), (4, .int 2)], [.int (mi 51 3), .int x], (zsh ++ vs, mi, ml, (zmr g))) rfl ?_
  refine Wp.topi (y := y) (h3) ?_
  refine Wp.run 1 (106, [(0, .ref 51), (1, .int 10), (2, .int 0), (3, .int x), (4, .int 2)], [.int (x + y)], (zsh ++ vs, mi, ml, (zmr g))) rfl ?_
  refine Wp.ret rfl rfl rfl ?_
  exact ⟨rfl, rfl⟩
theorem c_pf_4_1_0_1_1 {E : zEn} {vs : List (Nat × Nat)} {mi : Nat → Nat → Int32} {ml : Nat → Nat → Int64} {g : Nat → Nat → Option Nat} {x y v : Int32} (h1 : mi 51 1 = 1) (h2 : mi 51 2 = 4) (h3 : mi 51 3 = y) (h4 : mi 51 4 = v) : Wp E 1 pg_Performance_perform 0 (lv_args 0 [.ref 51, .int 1, .int 0, .int x, .int 1]) [] (zsh ++ vs, mi, ml, (zmr g)) (fun r w' => r = some (.int (x + y)) ∧ w' = (zsh ++ vs, (zup (zup mi 52 1 10) 51 1 2), ml, zmr g)) := by
  refine Wp.run 24 (15, [(6, .int 1), (5, .int 0), (0, .ref 51), (1, .int 1), (2, .int 0), (3, .int x), (4, .int 1)], [], (zsh ++ vs, mi, ml, (zmr g))) rfl ?_
  refine Wp.run 21 (65, [(6, .int 10), (5, .int 0), (0, .ref 51), (1, .int 1), (2, .int 0), (3, .int x), (4, .int 1)], [.int (mi 51 1)], (zsh ++ vs, mi, ml, (zmr g))) rfl ?_
  refine Wp.topi (y := 1) (h1) ?_
  refine Wp.run 6 (78, [(6, .int 10), (5, .int 0), (0, .ref 51), (1, .int 1), (2, .int 0), (3, .int x), (4, .int 1)], [.int (mi 51 1), .ref 52], (zsh ++ vs, mi, ml, (zmr g))) rfl ?_
  refine Wp.topi (y := 1) (h1) ?_
  refine Wp.run 5 (86, [(6, .int 10), (5, .int 0), (0, .ref 51), (1, .int 1), (2, .int 0), (3, .int x), (4, .int 1)], [.int (mi 51 1), .ref 51], (zsh ++ vs, (zup mi 52 1 10), ml, (zmr g))) rfl ?_
  refine Wp.topi (y := 1) (h1) ?_
  refine Wp.run 12 (105, [(6, .int 10), (5, .int 0), (0, .ref 51), (1, .int 1), (2, .int 0), (3, .int x), (4, .int 1)], [.int 2, .int x, .int 0, .int 10, .ref 51], (zsh ++ vs, (zup (zup mi 52 1 10) 51 1 2), ml, (zmr g))) rfl ?_
  refine Wp.call (as := [.ref 51, .int 10, .int 0, .int x, .int 2]) (rest := []) rfl rfl rfl rfl rfl (Nat.le_of_ble_eq_true rfl) (Nat.le_of_ble_eq_true rfl) rfl (by decide) (c_rn_4_1_0_1_1 (mi := (zup (zup mi 52 1 10) 51 1 2)) rfl h2 h3 h4) ?_
  rintro _ _ ⟨rfl, rfl⟩
  refine Wp.run 0 (108, [(6, .int 10), (5, .int 0), (0, .ref 51), (1, .int 1), (2, .int 0), (3, .int x), (4, .int 1)], [.int (x + y)], (zsh ++ vs, (zup (zup mi 52 1 10) 51 1 2), ml, (zmr g))) rfl ?_
  refine Wp.ret rfl rfl rfl ?_
  exact ⟨rfl, rfl⟩
theorem c_rn_4_4_0_0_0 {E : zEn} {vs : List (Nat × Nat)} {mi : Nat → Nat → Int32} {ml : Nat → Nat → Int64} {g : Nat → Nat → Option Nat} {x y v : Int32} (h1 : mi 51 1 = 1) (h2 : mi 51 2 = 4) (h3 : mi 51 3 = y) (h4 : mi 51 4 = v) : Wp E 2 pg_Performance_run 0 (lv_args 0 [.ref 51, .int 50, .int 1, .int x, .int 1]) [] (zsh ++ vs, mi, ml, (zmr g)) (fun r w' => r = some (.int (-(x + y))) ∧ w' = (zsh ++ vs, (zup (zup mi 52 1 10) 51 1 2), ml, zmr g)) := by
  refine Wp.run 7 (194, [(0, .ref 51), (1, .int 50), (2, .int 1), (3, .int x), (4, .int 1)], [.int 1, .int x, .int 0, .int 1, .ref 51], (zsh ++ vs, mi, ml, (zmr g))) rfl ?_
  refine Wp.call (as := [.ref 51, .int 1, .int 0, .int x, .int 1]) (rest := []) rfl rfl rfl rfl rfl (Nat.le_of_ble_eq_true rfl) (Nat.le_of_ble_eq_true rfl) rfl (by decide) (c_pf_4_1_0_1_1 (mi := mi) (x := x) h1 h2 h3 h4) ?_
  rintro _ _ ⟨rfl, rfl⟩
  refine Wp.run 1 (198, [(0, .ref 51), (1, .int 50), (2, .int 1), (3, .int x), (4, .int 1)], [.int (-(x + y))], (zsh ++ vs, (zup (zup mi 52 1 10) 51 1 2), ml, (zmr g))) rfl ?_
  refine Wp.ret rfl rfl rfl ?_
  exact ⟨rfl, rfl⟩
theorem c_pf_4_4_0_0_0 {E : zEn} {vs : List (Nat × Nat)} {mi : Nat → Nat → Int32} {ml : Nat → Nat → Int64} {g : Nat → Nat → Option Nat} {x y v : Int32} (h1 : mi 51 1 = 0) (h2 : mi 51 2 = 4) (h3 : mi 51 3 = y) (h4 : mi 51 4 = v) : Wp E 3 pg_Performance_perform 0 (lv_args 0 [.ref 51, .int 4, .int 0, .int x, .int 0]) [] (zsh ++ vs, mi, ml, (zmr g)) (fun r w' => r = some (.int (-(x + y))) ∧ w' = (zsh ++ vs, (zup (zup (zup (zup mi 52 0 50) 51 1 1) 52 1 10) 51 1 2), ml, zmr g)) := by
  refine Wp.run 24 (58, [(6, .int 0), (5, .int 4), (0, .ref 51), (1, .int 4), (2, .int 0), (3, .int x), (4, .int 0)], [.int 12, .ref 502], (zsh ++ vs, mi, ml, (zmr g))) rfl ?_
  refine Wp.run 4 (65, [(6, .int 50), (5, .int 4), (0, .ref 51), (1, .int 4), (2, .int 0), (3, .int x), (4, .int 0)], [.int (mi 51 1)], (zsh ++ vs, mi, ml, (zmr g))) rfl ?_
  refine Wp.topi (y := 0) (h1) ?_
  refine Wp.run 6 (78, [(6, .int 50), (5, .int 4), (0, .ref 51), (1, .int 4), (2, .int 0), (3, .int x), (4, .int 0)], [.int (mi 51 1), .ref 52], (zsh ++ vs, mi, ml, (zmr g))) rfl ?_
  refine Wp.topi (y := 0) (h1) ?_
  refine Wp.run 5 (86, [(6, .int 50), (5, .int 4), (0, .ref 51), (1, .int 4), (2, .int 0), (3, .int x), (4, .int 0)], [.int (mi 51 1), .ref 51], (zsh ++ vs, (zup mi 52 0 50), ml, (zmr g))) rfl ?_
  refine Wp.topi (y := 0) (h1) ?_
  refine Wp.run 12 (105, [(6, .int 50), (5, .int 4), (0, .ref 51), (1, .int 4), (2, .int 0), (3, .int x), (4, .int 0)], [.int 1, .int x, .int 1, .int 50, .ref 51], (zsh ++ vs, (zup (zup mi 52 0 50) 51 1 1), ml, (zmr g))) rfl ?_
  refine Wp.call (as := [.ref 51, .int 50, .int 1, .int x, .int 1]) (rest := []) rfl rfl rfl rfl rfl (Nat.le_of_ble_eq_true rfl) (Nat.le_of_ble_eq_true rfl) rfl (by decide) (c_rn_4_4_0_0_0 (mi := (zup (zup mi 52 0 50) 51 1 1)) rfl h2 h3 h4) ?_
  rintro _ _ ⟨rfl, rfl⟩
  refine Wp.run 0 (108, [(6, .int 50), (5, .int 4), (0, .ref 51), (1, .int 4), (2, .int 0), (3, .int x), (4, .int 0)], [.int (-(x + y))], (zsh ++ vs, (zup (zup (zup (zup mi 52 0 50) 51 1 1) 52 1 10) 51 1 2), ml, (zmr g))) rfl ?_
  refine Wp.ret rfl rfl rfl ?_
  exact ⟨rfl, rfl⟩
theorem c_rn_4_1_0_4_4 {E : zEn} {vs : List (Nat × Nat)} {mi : Nat → Nat → Int32} {ml : Nat → Nat → Int64} {g : Nat → Nat → Option Nat} {x y v : Int32} (h1 : mi 51 1 = 5) (h2 : mi 51 2 = 4) (h3 : mi 51 3 = y) (h4 : mi 51 4 = v) : Wp E 0 pg_Performance_run 0 (lv_args 0 [.ref 51, .int 10, .int 0, .int x, .int 5]) [] (zsh ++ vs, mi, ml, (zmr g)) (fun r w' => r = some (.int (x + y)) ∧ w' = (zsh ++ vs, mi, ml, zmr g)) := by
  refine Wp.run 5 (105, [(0, .ref 51), (1, .int 10), (2, .int 0), (3, .int x), (4, .int 5)], [.int (mi 51 3), .int x], (zsh ++ vs, mi, ml, (zmr g))) rfl ?_
  refine Wp.topi (y := y) (h3) ?_
  refine Wp.run 1 (106, [(0, .ref 51), (1, .int 10), (2, .int 0), (3, .int x), (4, .int 5)], [.int (x + y)], (zsh ++ vs, mi, ml, (zmr g))) rfl ?_
  refine Wp.ret rfl rfl rfl ?_
  exact ⟨rfl, rfl⟩
theorem c_pf_4_1_0_4_4 {E : zEn} {vs : List (Nat × Nat)} {mi : Nat → Nat → Int32} {ml : Nat → Nat → Int64} {g : Nat → Nat → Option Nat} {x y v : Int32} (h1 : mi 51 1 = 4) (h2 : mi 51 2 = 4) (h3 : mi 51 3 = y) (h4 : mi 51 4 = v) : Wp E 1 pg_Performance_perform 0 (lv_args 0 [.ref 51, .int 1, .int 0, .int x, .int 4]) [] (zsh ++ vs, mi, ml, (zmr g)) (fun r w' => r = some (.int (x + y)) ∧ w' = (zsh ++ vs, (zup (zup mi 52 4 10) 51 1 5), ml, zmr g)) := by
  refine Wp.run 24 (15, [(6, .int 1), (5, .int 0), (0, .ref 51), (1, .int 1), (2, .int 0), (3, .int x), (4, .int 4)], [], (zsh ++ vs, mi, ml, (zmr g))) rfl ?_
  refine Wp.run 21 (65, [(6, .int 10), (5, .int 0), (0, .ref 51), (1, .int 1), (2, .int 0), (3, .int x), (4, .int 4)], [.int (mi 51 1)], (zsh ++ vs, mi, ml, (zmr g))) rfl ?_
  refine Wp.topi (y := 4) (h1) ?_
  refine Wp.run 6 (78, [(6, .int 10), (5, .int 0), (0, .ref 51), (1, .int 1), (2, .int 0), (3, .int x), (4, .int 4)], [.int (mi 51 1), .ref 52], (zsh ++ vs, mi, ml, (zmr g))) rfl ?_
  refine Wp.topi (y := 4) (h1) ?_
  refine Wp.run 5 (86, [(6, .int 10), (5, .int 0), (0, .ref 51), (1, .int 1), (2, .int 0), (3, .int x), (4, .int 4)], [.int (mi 51 1), .ref 51], (zsh ++ vs, (zup mi 52 4 10), ml, (zmr g))) rfl ?_
  refine Wp.topi (y := 4) (h1) ?_
  refine Wp.run 12 (105, [(6, .int 10), (5, .int 0), (0, .ref 51), (1, .int 1), (2, .int 0), (3, .int x), (4, .int 4)], [.int 5, .int x, .int 0, .int 10, .ref 51], (zsh ++ vs, (zup (zup mi 52 4 10) 51 1 5), ml, (zmr g))) rfl ?_
  refine Wp.call (as := [.ref 51, .int 10, .int 0, .int x, .int 5]) (rest := []) rfl rfl rfl rfl rfl (Nat.le_of_ble_eq_true rfl) (Nat.le_of_ble_eq_true rfl) rfl (by decide) (c_rn_4_1_0_4_4 (mi := (zup (zup mi 52 4 10) 51 1 5)) rfl h2 h3 h4) ?_
  rintro _ _ ⟨rfl, rfl⟩
  refine Wp.run 0 (108, [(6, .int 10), (5, .int 0), (0, .ref 51), (1, .int 1), (2, .int 0), (3, .int x), (4, .int 4)], [.int (x + y)], (zsh ++ vs, (zup (zup mi 52 4 10) 51 1 5), ml, (zmr g))) rfl ?_
  refine Wp.ret rfl rfl rfl ?_
  exact ⟨rfl, rfl⟩
theorem c_rn_4_4_0_3_3 {E : zEn} {vs : List (Nat × Nat)} {mi : Nat → Nat → Int32} {ml : Nat → Nat → Int64} {g : Nat → Nat → Option Nat} {x y v : Int32} (h1 : mi 51 1 = 4) (h2 : mi 51 2 = 4) (h3 : mi 51 3 = y) (h4 : mi 51 4 = v) : Wp E 2 pg_Performance_run 0 (lv_args 0 [.ref 51, .int 50, .int 1, .int x, .int 4]) [] (zsh ++ vs, mi, ml, (zmr g)) (fun r w' => r = some (.int (-(x + y))) ∧ w' = (zsh ++ vs, (zup (zup mi 52 4 10) 51 1 5), ml, zmr g)) := by
  refine Wp.run 7 (194, [(0, .ref 51), (1, .int 50), (2, .int 1), (3, .int x), (4, .int 4)], [.int 4, .int x, .int 0, .int 1, .ref 51], (zsh ++ vs, mi, ml, (zmr g))) rfl ?_
  refine Wp.call (as := [.ref 51, .int 1, .int 0, .int x, .int 4]) (rest := []) rfl rfl rfl rfl rfl (Nat.le_of_ble_eq_true rfl) (Nat.le_of_ble_eq_true rfl) rfl (by decide) (c_pf_4_1_0_4_4 (mi := mi) (x := x) h1 h2 h3 h4) ?_
  rintro _ _ ⟨rfl, rfl⟩
  refine Wp.run 1 (198, [(0, .ref 51), (1, .int 50), (2, .int 1), (3, .int x), (4, .int 4)], [.int (-(x + y))], (zsh ++ vs, (zup (zup mi 52 4 10) 51 1 5), ml, (zmr g))) rfl ?_
  refine Wp.ret rfl rfl rfl ?_
  exact ⟨rfl, rfl⟩
theorem c_pf_4_4_0_3_3 {E : zEn} {vs : List (Nat × Nat)} {mi : Nat → Nat → Int32} {ml : Nat → Nat → Int64} {g : Nat → Nat → Option Nat} {x y v : Int32} (h1 : mi 51 1 = 3) (h2 : mi 51 2 = 4) (h3 : mi 51 3 = y) (h4 : mi 51 4 = v) : Wp E 3 pg_Performance_perform 0 (lv_args 0 [.ref 51, .int 4, .int 0, .int x, .int 3]) [] (zsh ++ vs, mi, ml, (zmr g)) (fun r w' => r = some (.int (-(x + y))) ∧ w' = (zsh ++ vs, (zup (zup (zup (zup mi 52 3 50) 51 1 4) 52 4 10) 51 1 5), ml, zmr g)) := by
  refine Wp.run 24 (58, [(6, .int 0), (5, .int 4), (0, .ref 51), (1, .int 4), (2, .int 0), (3, .int x), (4, .int 3)], [.int 12, .ref 502], (zsh ++ vs, mi, ml, (zmr g))) rfl ?_
  refine Wp.run 4 (65, [(6, .int 50), (5, .int 4), (0, .ref 51), (1, .int 4), (2, .int 0), (3, .int x), (4, .int 3)], [.int (mi 51 1)], (zsh ++ vs, mi, ml, (zmr g))) rfl ?_
  refine Wp.topi (y := 3) (h1) ?_
  refine Wp.run 6 (78, [(6, .int 50), (5, .int 4), (0, .ref 51), (1, .int 4), (2, .int 0), (3, .int x), (4, .int 3)], [.int (mi 51 1), .ref 52], (zsh ++ vs, mi, ml, (zmr g))) rfl ?_
  refine Wp.topi (y := 3) (h1) ?_
  refine Wp.run 5 (86, [(6, .int 50), (5, .int 4), (0, .ref 51), (1, .int 4), (2, .int 0), (3, .int x), (4, .int 3)], [.int (mi 51 1), .ref 51], (zsh ++ vs, (zup mi 52 3 50), ml, (zmr g))) rfl ?_
  refine Wp.topi (y := 3) (h1) ?_
  refine Wp.run 12 (105, [(6, .int 50), (5, .int 4), (0, .ref 51), (1, .int 4), (2, .int 0), (3, .int x), (4, .int 3)], [.int 4, .int x, .int 1, .int 50, .ref 51], (zsh ++ vs, (zup (zup mi 52 3 50) 51 1 4), ml, (zmr g))) rfl ?_
  refine Wp.call (as := [.ref 51, .int 50, .int 1, .int x, .int 4]) (rest := []) rfl rfl rfl rfl rfl (Nat.le_of_ble_eq_true rfl) (Nat.le_of_ble_eq_true rfl) rfl (by decide) (c_rn_4_4_0_3_3 (mi := (zup (zup mi 52 3 50) 51 1 4)) rfl h2 h3 h4) ?_
  rintro _ _ ⟨rfl, rfl⟩
  refine Wp.run 0 (108, [(6, .int 50), (5, .int 4), (0, .ref 51), (1, .int 4), (2, .int 0), (3, .int x), (4, .int 3)], [.int (-(x + y))], (zsh ++ vs, (zup (zup (zup (zup mi 52 3 50) 51 1 4) 52 4 10) 51 1 5), ml, (zmr g))) rfl ?_
  refine Wp.ret rfl rfl rfl ?_
  exact ⟨rfl, rfl⟩
theorem c_rn_4_0_1_2_2 {E : zEn} {vs : List (Nat × Nat)} {mi : Nat → Nat → Int32} {ml : Nat → Nat → Int64} {g : Nat → Nat → Option Nat} {x y v : Int32} (h1 : mi 51 1 = 3) (h2 : mi 51 2 = 4) (h3 : mi 51 3 = y) (h4 : mi 51 4 = v) : Wp E 4 pg_Performance_run 0 (lv_args 0 [.ref 51, .int 11, .int 0, .int x, .int 3]) [] (zsh ++ vs, mi, ml, (zmr g)) (fun r w' => r = some (.int ((-(x + y)) - v)) ∧ w' = (zsh ++ vs, (zup (zup (zup (zup mi 52 3 50) 51 1 4) 52 4 10) 51 1 5), ml, zmr g)) := by
  refine Wp.run 5 (112, [(0, .ref 51), (1, .int 11), (2, .int 0), (3, .int x), (4, .int 3)], [.int (mi 51 2), .ref 51], (zsh ++ vs, mi, ml, (zmr g))) rfl ?_
  refine Wp.topi (y := 4) (h2) ?_
  refine Wp.run 3 (116, [(0, .ref 51), (1, .int 11), (2, .int 0), (3, .int x), (4, .int 3)], [.int 3, .int x, .int 0, .int 4, .ref 51], (zsh ++ vs, mi, ml, (zmr g))) rfl ?_
  refine Wp.call (as := [.ref 51, .int 4, .int 0, .int x, .int 3]) (rest := []) rfl rfl rfl rfl rfl (Nat.le_of_ble_eq_true rfl) (Nat.le_of_ble_eq_true rfl) rfl (by decide) (c_pf_4_4_0_3_3 (mi := mi) (x := x) h1 h2 h3 h4) ?_
  rintro _ _ ⟨rfl, rfl⟩
  refine Wp.run 2 (123, [(0, .ref 51), (1, .int 11), (2, .int 0), (3, .int x), (4, .int 3)], [.int (mi 51 4), .int (-(x + y))], (zsh ++ vs, (zup (zup (zup (zup mi 52 3 50) 51 1 4) 52 4 10) 51 1 5), ml, (zmr g))) rfl ?_
  refine Wp.topi (y := v) (h4) ?_
  refine Wp.run 1 (124, [(0, .ref 51), (1, .int 11), (2, .int 0), (3, .int x), (4, .int 3)], [.int ((-(x + y)) - v)], (zsh ++ vs, (zup (zup (zup (zup mi 52 3 50) 51 1 4) 52 4 10) 51 1 5), ml, (zmr g))) rfl ?_
  refine Wp.ret rfl rfl rfl ?_
  exact ⟨rfl, rfl⟩
theorem c_pf_4_0_1_2_2 {E : zEn} {vs : List (Nat × Nat)} {mi : Nat → Nat → Int32} {ml : Nat → Nat → Int64} {g : Nat → Nat → Option Nat} {x y v : Int32} (h1 : mi 51 1 = 2) (h2 : mi 51 2 = 4) (h3 : mi 51 3 = y) (h4 : mi 51 4 = v) : Wp E 5 pg_Performance_perform 0 (lv_args 0 [.ref 51, .int 0, .int 1, .int x, .int 2]) [] (zsh ++ vs, mi, ml, (zmr g)) (fun r w' => r = some (.int ((-(x + y)) - v)) ∧ w' = (zsh ++ vs, (zup (zup (zup (zup (zup (zup mi 52 2 11) 51 1 3) 52 3 50) 51 1 4) 52 4 10) 51 1 5), ml, zmr g)) := by
  refine Wp.run 24 (58, [(6, .int 0), (5, .int 0), (0, .ref 51), (1, .int 0), (2, .int 1), (3, .int x), (4, .int 2)], [.int 1, .ref 502], (zsh ++ vs, mi, ml, (zmr g))) rfl ?_
  refine Wp.run 4 (65, [(6, .int 11), (5, .int 0), (0, .ref 51), (1, .int 0), (2, .int 1), (3, .int x), (4, .int 2)], [.int (mi 51 1)], (zsh ++ vs, mi, ml, (zmr g))) rfl ?_
  refine Wp.topi (y := 2) (h1) ?_
  refine Wp.run 6 (78, [(6, .int 11), (5, .int 0), (0, .ref 51), (1, .int 0), (2, .int 1), (3, .int x), (4, .int 2)], [.int (mi 51 1), .ref 52], (zsh ++ vs, mi, ml, (zmr g))) rfl ?_
  refine Wp.topi (y := 2) (h1) ?_
  refine Wp.run 5 (86, [(6, .int 11), (5, .int 0), (0, .ref 51), (1, .int 0), (2, .int 1), (3, .int x), (4, .int 2)], [.int (mi 51 1), .ref 51], (zsh ++ vs, (zup mi 52 2 11), ml, (zmr g))) rfl ?_
  refine Wp.topi (y := 2) (h1) ?_
  refine Wp.run 12 (105, [(6, .int 11), (5, .int 0), (0, .ref 51), (1, .int 0), (2, .int 1), (3, .int x), (4, .int 2)], [.int 3, .int x, .int 0, .int 11, .ref 51], (zsh ++ vs, (zup (zup mi 52 2 11) 51 1 3), ml, (zmr g))) rfl ?_
  refine Wp.call (as := [.ref 51, .int 11, .int 0, .int x, .int 3]) (rest := []) rfl rfl rfl rfl rfl (Nat.le_of_ble_eq_true rfl) (Nat.le_of_ble_eq_true rfl) rfl (by decide) (c_rn_4_0_1_2_2 (mi := (zup (zup mi 52 2 11) 51 1 3)) rfl h2 h3 h4) ?_
  rintro _ _ ⟨rfl, rfl⟩
  refine Wp.run 0 (108, [(6, .int 11), (5, .int 0), (0, .ref 51), (1, .int 0), (2, .int 1), (3, .int x), (4, .int 2)], [.int ((-(x + y)) - v)], (zsh ++ vs, (zup (zup (zup (zup (zup (zup mi 52 2 11) 51 1 3) 52 3 50) 51 1 4) 52 4 10) 51 1 5), ml, (zmr g))) rfl ?_
  refine Wp.ret rfl rfl rfl ?_
  exact ⟨rfl, rfl⟩
theorem c_rn_4_1_1_1_1 {E : zEn} {vs : List (Nat × Nat)} {mi : Nat → Nat → Int32} {ml : Nat → Nat → Int64} {g : Nat → Nat → Option Nat} {x y v : Int32} (h1 : mi 51 1 = 2) (h2 : mi 51 2 = 4) (h3 : mi 51 3 = y) (h4 : mi 51 4 = v) : Wp E 6 pg_Performance_run 0 (lv_args 0 [.ref 51, .int 20, .int 0, .int x, .int 2]) [] (zsh ++ vs, mi, ml, (zmr g)) (fun r w' => r = some (.int (((-(x + y)) - v) ^^^ 6)) ∧ w' = (zsh ++ vs, (zup (zup (zup (zup (zup (zup mi 52 2 11) 51 1 3) 52 3 50) 51 1 4) 52 4 10) 51 1 5), ml, zmr g)) := by
  refine Wp.run 7 (146, [(0, .ref 51), (1, .int 20), (2, .int 0), (3, .int x), (4, .int 2)], [.int 2, .int x, .int 1, .int 0, .ref 51], (zsh ++ vs, mi, ml, (zmr g))) rfl ?_
  refine Wp.call (as := [.ref 51, .int 0, .int 1, .int x, .int 2]) (rest := []) rfl rfl rfl rfl rfl (Nat.le_of_ble_eq_true rfl) (Nat.le_of_ble_eq_true rfl) rfl (by decide) (c_pf_4_0_1_2_2 (mi := mi) (x := x) h1 h2 h3 h4) ?_
  rintro _ _ ⟨rfl, rfl⟩
  refine Wp.run 2 (152, [(0, .ref 51), (1, .int 20), (2, .int 0), (3, .int x), (4, .int 2)], [.int (((-(x + y)) - v) ^^^ 6)], (zsh ++ vs, (zup (zup (zup (zup (zup (zup mi 52 2 11) 51 1 3) 52 3 50) 51 1 4) 52 4 10) 51 1 5), ml, (zmr g))) rfl ?_
  refine Wp.ret rfl rfl rfl ?_
  exact ⟨rfl, rfl⟩
theorem c_pf_4_1_1_1_1 {E : zEn} {vs : List (Nat × Nat)} {mi : Nat → Nat → Int32} {ml : Nat → Nat → Int64} {g : Nat → Nat → Option Nat} {x y v : Int32} (h1 : mi 51 1 = 1) (h2 : mi 51 2 = 4) (h3 : mi 51 3 = y) (h4 : mi 51 4 = v) : Wp E 7 pg_Performance_perform 0 (lv_args 0 [.ref 51, .int 1, .int 1, .int x, .int 1]) [] (zsh ++ vs, mi, ml, (zmr g)) (fun r w' => r = some (.int (((-(x + y)) - v) ^^^ 6)) ∧ w' = (zsh ++ vs, (zup (zup (zup (zup (zup (zup (zup (zup mi 52 1 20) 51 1 2) 52 2 11) 51 1 3) 52 3 50) 51 1 4) 52 4 10) 51 1 5), ml, zmr g)) := by
  refine Wp.run 24 (58, [(6, .int 0), (5, .int 1), (0, .ref 51), (1, .int 1), (2, .int 1), (3, .int x), (4, .int 1)], [.int 4, .ref 502], (zsh ++ vs, mi, ml, (zmr g))) rfl ?_
  refine Wp.run 4 (65, [(6, .int 20), (5, .int 1), (0, .ref 51), (1, .int 1), (2, .int 1), (3, .int x), (4, .int 1)], [.int (mi 51 1)], (zsh ++ vs, mi, ml, (zmr g))) rfl ?_
  refine Wp.topi (y := 1) (h1) ?_
  refine Wp.run 6 (78, [(6, .int 20), (5, .int 1), (0, .ref 51), (1, .int 1), (2, .int 1), (3, .int x), (4, .int 1)], [.int (mi 51 1), .ref 52], (zsh ++ vs, mi, ml, (zmr g))) rfl ?_
  refine Wp.topi (y := 1) (h1) ?_
  refine Wp.run 5 (86, [(6, .int 20), (5, .int 1), (0, .ref 51), (1, .int 1), (2, .int 1), (3, .int x), (4, .int 1)], [.int (mi 51 1), .ref 51], (zsh ++ vs, (zup mi 52 1 20), ml, (zmr g))) rfl ?_
  refine Wp.topi (y := 1) (h1) ?_
  refine Wp.run 12 (105, [(6, .int 20), (5, .int 1), (0, .ref 51), (1, .int 1), (2, .int 1), (3, .int x), (4, .int 1)], [.int 2, .int x, .int 0, .int 20, .ref 51], (zsh ++ vs, (zup (zup mi 52 1 20) 51 1 2), ml, (zmr g))) rfl ?_
  refine Wp.call (as := [.ref 51, .int 20, .int 0, .int x, .int 2]) (rest := []) rfl rfl rfl rfl rfl (Nat.le_of_ble_eq_true rfl) (Nat.le_of_ble_eq_true rfl) rfl (by decide) (c_rn_4_1_1_1_1 (mi := (zup (zup mi 52 1 20) 51 1 2)) rfl h2 h3 h4) ?_
  rintro _ _ ⟨rfl, rfl⟩
  refine Wp.run 0 (108, [(6, .int 20), (5, .int 1), (0, .ref 51), (1, .int 1), (2, .int 1), (3, .int x), (4, .int 1)], [.int (((-(x + y)) - v) ^^^ 6)], (zsh ++ vs, (zup (zup (zup (zup (zup (zup (zup (zup mi 52 1 20) 51 1 2) 52 2 11) 51 1 3) 52 3 50) 51 1 4) 52 4 10) 51 1 5), ml, (zmr g))) rfl ?_
  refine Wp.ret rfl rfl rfl ?_
  exact ⟨rfl, rfl⟩
theorem c_rn_4_4_1_0_0 {E : zEn} {vs : List (Nat × Nat)} {mi : Nat → Nat → Int32} {ml : Nat → Nat → Int64} {g : Nat → Nat → Option Nat} {x y v : Int32} (h1 : mi 51 1 = 1) (h2 : mi 51 2 = 4) (h3 : mi 51 3 = y) (h4 : mi 51 4 = v) : Wp E 8 pg_Performance_run 0 (lv_args 0 [.ref 51, .int 51, .int 1, .int x, .int 1]) [] (zsh ++ vs, mi, ml, (zmr g)) (fun r w' => r = some (.int ((((-((x + 1) + y)) - v) ^^^ 6))) ∧ w' = (zsh ++ vs, (zup (zup (zup (zup (zup (zup (zup (zup mi 52 1 20) 51 1 2) 52 2 11) 51 1 3) 52 3 50) 51 1 4) 52 4 10) 51 1 5), ml, zmr g)) := by
  refine Wp.run 9 (207, [(0, .ref 51), (1, .int 51), (2, .int 1), (3, .int x), (4, .int 1)], [.int 1, .int (x + 1), .int 1, .int 1, .ref 51], (zsh ++ vs, mi, ml, (zmr g))) rfl ?_
  refine Wp.call (as := [.ref 51, .int 1, .int 1, .int (x + 1), .int 1]) (rest := []) rfl rfl rfl rfl rfl (Nat.le_of_ble_eq_true rfl) (Nat.le_of_ble_eq_true rfl) rfl (by decide) (c_pf_4_1_1_1_1 (mi := mi) (x := (x + 1)) h1 h2 h3 h4) ?_
  rintro _ _ ⟨rfl, rfl⟩
  refine Wp.run 0 (210, [(0, .ref 51), (1, .int 51), (2, .int 1), (3, .int x), (4, .int 1)], [.int (((-((x + 1) + y)) - v) ^^^ 6)], (zsh ++ vs, (zup (zup (zup (zup (zup (zup (zup (zup mi 52 1 20) 51 1 2) 52 2 11) 51 1 3) 52 3 50) 51 1 4) 52 4 10) 51 1 5), ml, (zmr g))) rfl ?_
  refine Wp.ret rfl rfl rfl ?_
  exact ⟨rfl, rfl⟩
theorem c_pf_4_4_1_0_0 {E : zEn} {vs : List (Nat × Nat)} {mi : Nat → Nat → Int32} {ml : Nat → Nat → Int64} {g : Nat → Nat → Option Nat} {x y v : Int32} (h1 : mi 51 1 = 0) (h2 : mi 51 2 = 4) (h3 : mi 51 3 = y) (h4 : mi 51 4 = v) : Wp E 9 pg_Performance_perform 0 (lv_args 0 [.ref 51, .int 4, .int 1, .int x, .int 0]) [] (zsh ++ vs, mi, ml, (zmr g)) (fun r w' => r = some (.int ((((-((x + 1) + y)) - v) ^^^ 6))) ∧ w' = (zsh ++ vs, (zup (zup (zup (zup (zup (zup (zup (zup (zup (zup mi 52 0 51) 51 1 1) 52 1 20) 51 1 2) 52 2 11) 51 1 3) 52 3 50) 51 1 4) 52 4 10) 51 1 5), ml, zmr g)) := by
  refine Wp.run 24 (58, [(6, .int 0), (5, .int 4), (0, .ref 51), (1, .int 4), (2, .int 1), (3, .int x), (4, .int 0)], [.int 13, .ref 502], (zsh ++ vs, mi, ml, (zmr g))) rfl ?_
  refine Wp.run 4 (65, [(6, .int 51), (5, .int 4), (0, .ref 51), (1, .int 4), (2, .int 1), (3, .int x), (4, .int 0)], [.int (mi 51 1)], (zsh ++ vs, mi, ml, (zmr g))) rfl ?_
  refine Wp.topi (y := 0) (h1) ?_
  refine Wp.run 6 (78, [(6, .int 51), (5, .int 4), (0, .ref 51), (1, .int 4), (2, .int 1), (3, .int x), (4, .int 0)], [.int (mi 51 1), .ref 52], (zsh ++ vs, mi, ml, (zmr g))) rfl ?_
  refine Wp.topi (y := 0) (h1) ?_
  refine Wp.run 5 (86, [(6, .int 51), (5, .int 4), (0, .ref 51), (1, .int 4), (2, .int 1), (3, .int x), (4, .int 0)], [.int (mi 51 1), .ref 51], (zsh ++ vs, (zup mi 52 0 51), ml, (zmr g))) rfl ?_
  refine Wp.topi (y := 0) (h1) ?_
  refine Wp.run 12 (105, [(6, .int 51), (5, .int 4), (0, .ref 51), (1, .int 4), (2, .int 1), (3, .int x), (4, .int 0)], [.int 1, .int x, .int 1, .int 51, .ref 51], (zsh ++ vs, (zup (zup mi 52 0 51) 51 1 1), ml, (zmr g))) rfl ?_
  refine Wp.call (as := [.ref 51, .int 51, .int 1, .int x, .int 1]) (rest := []) rfl rfl rfl rfl rfl (Nat.le_of_ble_eq_true rfl) (Nat.le_of_ble_eq_true rfl) rfl (by decide) (c_rn_4_4_1_0_0 (mi := (zup (zup mi 52 0 51) 51 1 1)) rfl h2 h3 h4) ?_
  rintro _ _ ⟨rfl, rfl⟩
  refine Wp.run 0 (108, [(6, .int 51), (5, .int 4), (0, .ref 51), (1, .int 4), (2, .int 1), (3, .int x), (4, .int 0)], [.int (((-((x + 1) + y)) - v) ^^^ 6)], (zsh ++ vs, (zup (zup (zup (zup (zup (zup (zup (zup (zup (zup mi 52 0 51) 51 1 1) 52 1 20) 51 1 2) 52 2 11) 51 1 3) 52 3 50) 51 1 4) 52 4 10) 51 1 5), ml, (zmr g))) rfl ?_
  refine Wp.ret rfl rfl rfl ?_
  exact ⟨rfl, rfl⟩
theorem c_rn_4_1_0_5_5 {E : zEn} {vs : List (Nat × Nat)} {mi : Nat → Nat → Int32} {ml : Nat → Nat → Int64} {g : Nat → Nat → Option Nat} {x y v : Int32} (h1 : mi 51 1 = 6) (h2 : mi 51 2 = 4) (h3 : mi 51 3 = y) (h4 : mi 51 4 = v) : Wp E 0 pg_Performance_run 0 (lv_args 0 [.ref 51, .int 10, .int 0, .int x, .int 6]) [] (zsh ++ vs, mi, ml, (zmr g)) (fun r w' => r = some (.int (x + y)) ∧ w' = (zsh ++ vs, mi, ml, zmr g)) := by
  refine Wp.run 5 (105, [(0, .ref 51), (1, .int 10), (2, .int 0), (3, .int x), (4, .int 6)], [.int (mi 51 3), .int x], (zsh ++ vs, mi, ml, (zmr g))) rfl ?_
  refine Wp.topi (y := y) (h3) ?_
  refine Wp.run 1 (106, [(0, .ref 51), (1, .int 10), (2, .int 0), (3, .int x), (4, .int 6)], [.int (x + y)], (zsh ++ vs, mi, ml, (zmr g))) rfl ?_
  refine Wp.ret rfl rfl rfl ?_
  exact ⟨rfl, rfl⟩
theorem c_pf_4_1_0_5_5 {E : zEn} {vs : List (Nat × Nat)} {mi : Nat → Nat → Int32} {ml : Nat → Nat → Int64} {g : Nat → Nat → Option Nat} {x y v : Int32} (h1 : mi 51 1 = 5) (h2 : mi 51 2 = 4) (h3 : mi 51 3 = y) (h4 : mi 51 4 = v) : Wp E 1 pg_Performance_perform 0 (lv_args 0 [.ref 51, .int 1, .int 0, .int x, .int 5]) [] (zsh ++ vs, mi, ml, (zmr g)) (fun r w' => r = some (.int (x + y)) ∧ w' = (zsh ++ vs, (zup (zup mi 52 5 10) 51 1 6), ml, zmr g)) := by
  refine Wp.run 24 (15, [(6, .int 1), (5, .int 0), (0, .ref 51), (1, .int 1), (2, .int 0), (3, .int x), (4, .int 5)], [], (zsh ++ vs, mi, ml, (zmr g))) rfl ?_
  refine Wp.run 21 (65, [(6, .int 10), (5, .int 0), (0, .ref 51), (1, .int 1), (2, .int 0), (3, .int x), (4, .int 5)], [.int (mi 51 1)], (zsh ++ vs, mi, ml, (zmr g))) rfl ?_
  refine Wp.topi (y := 5) (h1) ?_
  refine Wp.run 6 (78, [(6, .int 10), (5, .int 0), (0, .ref 51), (1, .int 1), (2, .int 0), (3, .int x), (4, .int 5)], [.int (mi 51 1), .ref 52], (zsh ++ vs, mi, ml, (zmr g))) rfl ?_
  refine Wp.topi (y := 5) (h1) ?_
  refine Wp.run 5 (86, [(6, .int 10), (5, .int 0), (0, .ref 51), (1, .int 1), (2, .int 0), (3, .int x), (4, .int 5)], [.int (mi 51 1), .ref 51], (zsh ++ vs, (zup mi 52 5 10), ml, (zmr g))) rfl ?_
  refine Wp.topi (y := 5) (h1) ?_
  refine Wp.run 12 (105, [(6, .int 10), (5, .int 0), (0, .ref 51), (1, .int 1), (2, .int 0), (3, .int x), (4, .int 5)], [.int 6, .int x, .int 0, .int 10, .ref 51], (zsh ++ vs, (zup (zup mi 52 5 10) 51 1 6), ml, (zmr g))) rfl ?_
  refine Wp.call (as := [.ref 51, .int 10, .int 0, .int x, .int 6]) (rest := []) rfl rfl rfl rfl rfl (Nat.le_of_ble_eq_true rfl) (Nat.le_of_ble_eq_true rfl) rfl (by decide) (c_rn_4_1_0_5_5 (mi := (zup (zup mi 52 5 10) 51 1 6)) rfl h2 h3 h4) ?_
  rintro _ _ ⟨rfl, rfl⟩
  refine Wp.run 0 (108, [(6, .int 10), (5, .int 0), (0, .ref 51), (1, .int 1), (2, .int 0), (3, .int x), (4, .int 5)], [.int (x + y)], (zsh ++ vs, (zup (zup mi 52 5 10) 51 1 6), ml, (zmr g))) rfl ?_
  refine Wp.ret rfl rfl rfl ?_
  exact ⟨rfl, rfl⟩
theorem c_rn_4_4_0_4_4 {E : zEn} {vs : List (Nat × Nat)} {mi : Nat → Nat → Int32} {ml : Nat → Nat → Int64} {g : Nat → Nat → Option Nat} {x y v : Int32} (h1 : mi 51 1 = 5) (h2 : mi 51 2 = 4) (h3 : mi 51 3 = y) (h4 : mi 51 4 = v) : Wp E 2 pg_Performance_run 0 (lv_args 0 [.ref 51, .int 50, .int 1, .int x, .int 5]) [] (zsh ++ vs, mi, ml, (zmr g)) (fun r w' => r = some (.int (-(x + y))) ∧ w' = (zsh ++ vs, (zup (zup mi 52 5 10) 51 1 6), ml, zmr g)) := by
  refine Wp.run 7 (194, [(0, .ref 51), (1, .int 50), (2, .int 1), (3, .int x), (4, .int 5)], [.int 5, .int x, .int 0, .int 1, .ref 51], (zsh ++ vs, mi, ml, (zmr g))) rfl ?_
  refine Wp.call (as := [.ref 51, .int 1, .int 0, .int x, .int 5]) (rest := []) rfl rfl rfl rfl rfl (Nat.le_of_ble_eq_true rfl) (Nat.le_of_ble_eq_true rfl) rfl (by decide) (c_pf_4_1_0_5_5 (mi := mi) (x := x) h1 h2 h3 h4) ?_
  rintro _ _ ⟨rfl, rfl⟩
  refine Wp.run 1 (198, [(0, .ref 51), (1, .int 50), (2, .int 1), (3, .int x), (4, .int 5)], [.int (-(x + y))], (zsh ++ vs, (zup (zup mi 52 5 10) 51 1 6), ml, (zmr g))) rfl ?_
  refine Wp.ret rfl rfl rfl ?_
  exact ⟨rfl, rfl⟩
theorem c_pf_4_4_0_4_4 {E : zEn} {vs : List (Nat × Nat)} {mi : Nat → Nat → Int32} {ml : Nat → Nat → Int64} {g : Nat → Nat → Option Nat} {x y v : Int32} (h1 : mi 51 1 = 4) (h2 : mi 51 2 = 4) (h3 : mi 51 3 = y) (h4 : mi 51 4 = v) : Wp E 3 pg_Performance_perform 0 (lv_args 0 [.ref 51, .int 4, .int 0, .int x, .int 4]) [] (zsh ++ vs, mi, ml, (zmr g)) (fun r w' => r = some (.int (-(x + y))) ∧ w' = (zsh ++ vs, (zup (zup (zup (zup mi 52 4 50) 51 1 5) 52 5 10) 51 1 6), ml, zmr g)) := by
  refine Wp.run 24 (58, [(6, .int 0), (5, .int 4), (0, .ref 51), (1, .int 4), (2, .int 0), (3, .int x), (4, .int 4)], [.int 12, .ref 502], (zsh ++ vs, mi, ml, (zmr g))) rfl ?_
  refine Wp.run 4 (65, [(6, .int 50), (5, .int 4), (0, .ref 51), (1, .int 4), (2, .int 0), (3, .int x), (4, .int 4)], [.int (mi 51 1)], (zsh ++ vs, mi, ml, (zmr g))) rfl ?_
  refine Wp.topi (y := 4) (h1) ?_
  refine Wp.run 6 (78, [(6, .int 50), (5, .int 4), (0, .ref 51), (1, .int 4), (2, .int 0), (3, .int x), (4, .int 4)], [.int (mi 51 1), .ref 52], (zsh ++ vs, mi, ml, (zmr g))) rfl ?_
  refine Wp.topi (y := 4) (h1) ?_
  refine Wp.run 5 (86, [(6, .int 50), (5, .int 4), (0, .ref 51), (1, .int 4), (2, .int 0), (3, .int x), (4, .int 4)], [.int (mi 51 1), .ref 51], (zsh ++ vs, (zup mi 52 4 50), ml, (zmr g))) rfl ?_
  refine Wp.topi (y := 4) (h1) ?_
  refine Wp.run 12 (105, [(6, .int 50), (5, .int 4), (0, .ref 51), (1, .int 4), (2, .int 0), (3, .int x), (4, .int 4)], [.int 5, .int x, .int 1, .int 50, .ref 51], (zsh ++ vs, (zup (zup mi 52 4 50) 51 1 5), ml, (zmr g))) rfl ?_
  refine Wp.call (as := [.ref 51, .int 50, .int 1, .int x, .int 5]) (rest := []) rfl rfl rfl rfl rfl (Nat.le_of_ble_eq_true rfl) (Nat.le_of_ble_eq_true rfl) rfl (by decide) (c_rn_4_4_0_4_4 (mi := (zup (zup mi 52 4 50) 51 1 5)) rfl h2 h3 h4) ?_
  rintro _ _ ⟨rfl, rfl⟩
  refine Wp.run 0 (108, [(6, .int 50), (5, .int 4), (0, .ref 51), (1, .int 4), (2, .int 0), (3, .int x), (4, .int 4)], [.int (-(x + y))], (zsh ++ vs, (zup (zup (zup (zup mi 52 4 50) 51 1 5) 52 5 10) 51 1 6), ml, (zmr g))) rfl ?_
  refine Wp.ret rfl rfl rfl ?_
  exact ⟨rfl, rfl⟩
theorem c_rn_4_0_1_3_3 {E : zEn} {vs : List (Nat × Nat)} {mi : Nat → Nat → Int32} {ml : Nat → Nat → Int64} {g : Nat → Nat → Option Nat} {x y v : Int32} (h1 : mi 51 1 = 4) (h2 : mi 51 2 = 4) (h3 : mi 51 3 = y) (h4 : mi 51 4 = v) : Wp E 4 pg_Performance_run 0 (lv_args 0 [.ref 51, .int 11, .int 0, .int x, .int 4]) [] (zsh ++ vs, mi, ml, (zmr g)) (fun r w' => r = some (.int ((-(x + y)) - v)) ∧ w' = (zsh ++ vs, (zup (zup (zup (zup mi 52 4 50) 51 1 5) 52 5 10) 51 1 6), ml, zmr g)) := by
  refine Wp.run 5 (112, [(0, .ref 51), (1, .int 11), (2, .int 0), (3, .int x), (4, .int 4)], [.int (mi 51 2), .ref 51], (zsh ++ vs, mi, ml, (zmr g))) rfl ?_
  refine Wp.topi (y := 4) (h2) ?_
  refine Wp.run 3 (116, [(0, .ref 51), (1, .int 11), (2, .int 0), (3, .int x), (4, .int 4)], [.int 4, .int x, .int 0, .int 4, .ref 51], (zsh ++ vs, mi, ml, (zmr g))) rfl ?_
  refine Wp.call (as := [.ref 51, .int 4, .int 0, .int x, .int 4]) (rest := []) rfl rfl rfl rfl rfl (Nat.le_of_ble_eq_true rfl) (Nat.le_of_ble_eq_true rfl) rfl (by decide) (c_pf_4_4_0_4_4 (mi := mi) (x := x) h1 h2 h3 h4) ?_
  rintro _ _ ⟨rfl, rfl⟩
  refine Wp.run 2 (123, [(0, .ref 51), (1, .int 11), (2, .int 0), (3, .int x), (4, .int 4)], [.int (mi 51 4), .int (-(x + y))], (zsh ++ vs, (zup (zup (zup (zup mi 52 4 50) 51 1 5) 52 5 10) 51 1 6), ml, (zmr g))) rfl ?_
  refine Wp.topi (y := v) (h4) ?_
  refine Wp.run 1 (124, [(0, .ref 51), (1, .int 11), (2, .int 0), (3, .int x), (4, .int 4)], [.int ((-(x + y)) - v)], (zsh ++ vs, (zup (zup (zup (zup mi 52 4 50) 51 1 5) 52 5 10) 51 1 6), ml, (zmr g))) rfl ?_
  refine Wp.ret rfl rfl rfl ?_
  exact ⟨rfl, rfl⟩
theorem c_pf_4_0_1_3_3 {E : zEn} {vs : List (Nat × Nat)} {mi : Nat → Nat → Int32} {ml : Nat → Nat → Int64} {g : Nat → Nat → Option Nat} {x y v : Int32} (h1 : mi 51 1 = 3) (h2 : mi 51 2 = 4) (h3 : mi 51 3 = y) (h4 : mi 51 4 = v) : Wp E 5 pg_Performance_perform 0 (lv_args 0 [.ref 51, .int 0, .int 1, .int x, .int 3]) [] (zsh ++ vs, mi, ml, (zmr g)) (fun r w' => r = some (.int ((-(x + y)) - v)) ∧ w' = (zsh ++ vs, (zup (zup (zup (zup (zup (zup mi 52 3 11) 51 1 4) 52 4 50) 51 1 5) 52 5 10) 51 1 6), ml, zmr g)) := by
  refine Wp.run 24 (58, [(6, .int 0), (5, .int 0), (0, .ref 51), (1, .int 0), (2, .int 1), (3, .int x), (4, .int 3)], [.int 1, .ref 502], (zsh ++ vs, mi, ml, (zmr g))) rfl ?_
  refine Wp.run 4 (65, [(6, .int 11), (5, .int 0), (0, .ref 51), (1, .int 0), (2, .int 1), (3, .int x), (4, .int 3)], [.int (mi 51 1)], (zsh ++ vs, mi, ml, (zmr g))) rfl ?_
  refine Wp.topi (y := 3) (h1) ?_
  refine Wp.run 6 (78, [(6, .int 11), (5, .int 0), (0, .ref 51), (1, .int 0), (2, .int 1), (3, .int x), (4, .int 3)], [.int (mi 51 1), .ref 52], (zsh ++ vs, mi, ml, (zmr g))) rfl ?_
  refine Wp.topi (y := 3) (h1) ?_
  refine Wp.run 5 (86, [(6, .int 11), (5, .int 0), (0, .ref 51), (1, .int 0), (2, .int 1), (3, .int x), (4, .int 3)], [.int (mi 51 1), .ref 51], (zsh ++ vs, (zup mi 52 3 11), ml, (zmr g))) rfl ?_
  refine Wp.topi (y := 3) (h1) ?_
  refine Wp.run 12 (105, [(6, .int 11), (5, .int 0), (0, .ref 51), (1, .int 0), (2, .int 1), (3, .int x), (4, .int 3)], [.int 4, .int x, .int 0, .int 11, .ref 51], (zsh ++ vs, (zup (zup mi 52 3 11) 51 1 4), ml, (zmr g))) rfl ?_
  refine Wp.call (as := [.ref 51, .int 11, .int 0, .int x, .int 4]) (rest := []) rfl rfl rfl rfl rfl (Nat.le_of_ble_eq_true rfl) (Nat.le_of_ble_eq_true rfl) rfl (by decide) (c_rn_4_0_1_3_3 (mi := (zup (zup mi 52 3 11) 51 1 4)) rfl h2 h3 h4) ?_
  rintro _ _ ⟨rfl, rfl⟩
  refine Wp.run 0 (108, [(6, .int 11), (5, .int 0), (0, .ref 51), (1, .int 0), (2, .int 1), (3, .int x), (4, .int 3)], [.int ((-(x + y)) - v)], (zsh ++ vs, (zup (zup (zup (zup (zup (zup mi 52 3 11) 51 1 4) 52 4 50) 51 1 5) 52 5 10) 51 1 6), ml, (zmr g))) rfl ?_
  refine Wp.ret rfl rfl rfl ?_
  exact ⟨rfl, rfl⟩
theorem c_rn_4_1_1_2_2 {E : zEn} {vs : List (Nat × Nat)} {mi : Nat → Nat → Int32} {ml : Nat → Nat → Int64} {g : Nat → Nat → Option Nat} {x y v : Int32} (h1 : mi 51 1 = 3) (h2 : mi 51 2 = 4) (h3 : mi 51 3 = y) (h4 : mi 51 4 = v) : Wp E 6 pg_Performance_run 0 (lv_args 0 [.ref 51, .int 20, .int 0, .int x, .int 3]) [] (zsh ++ vs, mi, ml, (zmr g)) (fun r w' => r = some (.int (((-(x + y)) - v) ^^^ 6)) ∧ w' = (zsh ++ vs, (zup (zup (zup (zup (zup (zup mi 52 3 11) 51 1 4) 52 4 50) 51 1 5) 52 5 10) 51 1 6), ml, zmr g)) := by
  refine Wp.run 7 (146, [(0, .ref 51), (1, .int 20), (2, .int 0), (3, .int x), (4, .int 3)], [.int 3, .int x, .int 1, .int 0, .ref 51], (zsh ++ vs, mi, ml, (zmr g))) rfl ?_
  refine Wp.call (as := [.ref 51, .int 0, .int 1, .int x, .int 3]) (rest := []) rfl rfl rfl rfl rfl (Nat.le_of_ble_eq_true rfl) (Nat.le_of_ble_eq_true rfl) rfl (by decide) (c_pf_4_0_1_3_3 (mi := mi) (x := x) h1 h2 h3 h4) ?_
  rintro _ _ ⟨rfl, rfl⟩
  refine Wp.run 2 (152, [(0, .ref 51), (1, .int 20), (2, .int 0), (3, .int x), (4, .int 3)], [.int (((-(x + y)) - v) ^^^ 6)], (zsh ++ vs, (zup (zup (zup (zup (zup (zup mi 52 3 11) 51 1 4) 52 4 50) 51 1 5) 52 5 10) 51 1 6), ml, (zmr g))) rfl ?_
  refine Wp.ret rfl rfl rfl ?_
  exact ⟨rfl, rfl⟩
theorem c_pf_4_1_1_2_2 {E : zEn} {vs : List (Nat × Nat)} {mi : Nat → Nat → Int32} {ml : Nat → Nat → Int64} {g : Nat → Nat → Option Nat} {x y v : Int32} (h1 : mi 51 1 = 2) (h2 : mi 51 2 = 4) (h3 : mi 51 3 = y) (h4 : mi 51 4 = v) : Wp E 7 pg_Performance_perform 0 (lv_args 0 [.ref 51, .int 1, .int 1, .int x, .int 2]) [] (zsh ++ vs, mi, ml, (zmr g)) (fun r w' => r = some (.int (((-(x + y)) - v) ^^^ 6)) ∧ w' = (zsh ++ vs, (zup (zup (zup (zup (zup (zup (zup (zup mi 52 2 20) 51 1 3) 52 3 11) 51 1 4) 52 4 50) 51 1 5) 52 5 10) 51 1 6), ml, zmr g)) := by
  refine Wp.run 24 (58, [(6, .int 0), (5, .int 1), (0, .ref 51), (1, .int 1), (2, .int 1), (3, .int x), (4, .int 2)], [.int 4, .ref 502], (zsh ++ vs, mi, ml, (zmr g))) rfl ?_
  refine Wp.run 4 (65, [(6, .int 20), (5, .int 1), (0, .ref 51), (1, .int 1), (2, .int 1), (3, .int x), (4, .int 2)], [.int (mi 51 1)], (zsh ++ vs, mi, ml, (zmr g))) rfl ?_
  refine Wp.topi (y := 2) (h1) ?_
  refine Wp.run 6 (78, [(6, .int 20), (5, .int 1), (0, .ref 51), (1, .int 1), (2, .int 1), (3, .int x), (4, .int 2)], [.int (mi 51 1), .ref 52], (zsh ++ vs, mi, ml, (zmr g))) rfl ?_
  refine Wp.topi (y := 2) (h1) ?_
  refine Wp.run 5 (86, [(6, .int 20), (5, .int 1), (0, .ref 51), (1, .int 1), (2, .int 1), (3, .int x), (4, .int 2)], [.int (mi 51 1), .ref 51], (zsh ++ vs, (zup mi 52 2 20), ml, (zmr g))) rfl ?_
  refine Wp.topi (y := 2) (h1) ?_
  refine Wp.run 12 (105, [(6, .int 20), (5, .int 1), (0, .ref 51), (1, .int 1), (2, .int 1), (3, .int x), (4, .int 2)], [.int 3, .int x, .int 0, .int 20, .ref 51], (zsh ++ vs, (zup (zup mi 52 2 20) 51 1 3), ml, (zmr g))) rfl ?_
  refine Wp.call (as := [.ref 51, .int 20, .int 0, .int x, .int 3]) (rest := []) rfl rfl rfl rfl rfl (Nat.le_of_ble_eq_true rfl) (Nat.le_of_ble_eq_true rfl) rfl (by decide) (c_rn_4_1_1_2_2 (mi := (zup (zup mi 52 2 20) 51 1 3)) rfl h2 h3 h4) ?_
  rintro _ _ ⟨rfl, rfl⟩
  refine Wp.run 0 (108, [(6, .int 20), (5, .int 1), (0, .ref 51), (1, .int 1), (2, .int 1), (3, .int x), (4, .int 2)], [.int (((-(x + y)) - v) ^^^ 6)], (zsh ++ vs, (zup (zup (zup (zup (zup (zup (zup (zup mi 52 2 20) 51 1 3) 52 3 11) 51 1 4) 52 4 50) 51 1 5) 52 5 10) 51 1 6), ml, (zmr g))) rfl ?_
  refine Wp.ret rfl rfl rfl ?_
  exact ⟨rfl, rfl⟩
theorem c_rn_4_4_1_1_1 {E : zEn} {vs : List (Nat × Nat)} {mi : Nat → Nat → Int32} {ml : Nat → Nat → Int64} {g : Nat → Nat → Option Nat} {x y v : Int32} (h1 : mi 51 1 = 2) (h2 : mi 51 2 = 4) (h3 : mi 51 3 = y) (h4 : mi 51 4 = v) : Wp E 8 pg_Performance_run 0 (lv_args 0 [.ref 51, .int 51, .int 1, .int x, .int 2]) [] (zsh ++ vs, mi, ml, (zmr g)) (fun r w' => r = some (.int ((((-((x + 1) + y)) - v) ^^^ 6))) ∧ w' = (zsh ++ vs, (zup (zup (zup (zup (zup (zup (zup (zup mi 52 2 20) 51 1 3) 52 3 11) 51 1 4) 52 4 50) 51 1 5) 52 5 10) 51 1 6), ml, zmr g)) := by
  refine Wp.run 9 (207, [(0, .ref 51), (1, .int 51), (2, .int 1), (3, .int x), (4, .int 2)], [.int 2, .int (x + 1), .int 1, .int 1, .ref 51], (zsh ++ vs, mi, ml, (zmr g))) rfl ?_
  refine Wp.call (as := [.ref 51, .int 1, .int 1, .int (x + 1), .int 2]) (rest := []) rfl rfl rfl rfl rfl (Nat.le_of_ble_eq_true rfl) (Nat.le_of_ble_eq_true rfl) rfl (by decide) (c_pf_4_1_1_2_2 (mi := mi) (x := (x + 1)) h1 h2 h3 h4) ?_
  rintro _ _ ⟨rfl, rfl⟩
  refine Wp.run 0 (210, [(0, .ref 51), (1, .int 51), (2, .int 1), (3, .int x), (4, .int 2)], [.int (((-((x + 1) + y)) - v) ^^^ 6)], (zsh ++ vs, (zup (zup (zup (zup (zup (zup (zup (zup mi 52 2 20) 51 1 3) 52 3 11) 51 1 4) 52 4 50) 51 1 5) 52 5 10) 51 1 6), ml, (zmr g))) rfl ?_
  refine Wp.ret rfl rfl rfl ?_
  exact ⟨rfl, rfl⟩
theorem c_pf_4_4_1_1_1 {E : zEn} {vs : List (Nat × Nat)} {mi : Nat → Nat → Int32} {ml : Nat → Nat → Int64} {g : Nat → Nat → Option Nat} {x y v : Int32} (h1 : mi 51 1 = 1) (h2 : mi 51 2 = 4) (h3 : mi 51 3 = y) (h4 : mi 51 4 = v) : Wp E 9 pg_Performance_perform 0 (lv_args 0 [.ref 51, .int 4, .int 1, .int x, .int 1]) [] (zsh ++ vs, mi, ml, (zmr g)) (fun r w' => r = some (.int ((((-((x + 1) + y)) - v) ^^^ 6))) ∧ w' = (zsh ++ vs, (zup (zup (zup (zup (zup (zup (zup (zup (zup (zup mi 52 1 51) 51 1 2) 52 2 20) 51 1 3) 52 3 11) 51 1 4) 52 4 50) 51 1 5) 52 5 10) 51 1 6), ml, zmr g)) := by
  refine Wp.run 24 (58, [(6, .int 0), (5, .int 4), (0, .ref 51), (1, .int 4), (2, .int 1), (3, .int x), (4, .int 1)], [.int 13, .ref 502], (zsh ++ vs, mi, ml, (zmr g))) rfl ?_
  refine Wp.run 4 (65, [(6, .int 51), (5, .int 4), (0, .ref 51), (1, .int 4), (2, .int 1), (3, .int x), (4, .int 1)], [.int (mi 51 1)], (zsh ++ vs, mi, ml, (zmr g))) rfl ?_
  refine Wp.topi (y := 1) (h1) ?_
  refine Wp.run 6 (78, [(6, .int 51), (5, .int 4), (0, .ref 51), (1, .int 4), (2, .int 1), (3, .int x), (4, .int 1)], [.int (mi 51 1), .ref 52], (zsh ++ vs, mi, ml, (zmr g))) rfl ?_
  refine Wp.topi (y := 1) (h1) ?_
  refine Wp.run 5 (86, [(6, .int 51), (5, .int 4), (0, .ref 51), (1, .int 4), (2, .int 1), (3, .int x), (4, .int 1)], [.int (mi 51 1), .ref 51], (zsh ++ vs, (zup mi 52 1 51), ml, (zmr g))) rfl ?_
  refine Wp.topi (y := 1) (h1) ?_
  refine Wp.run 12 (105, [(6, .int 51), (5, .int 4), (0, .ref 51), (1, .int 4), (2, .int 1), (3, .int x), (4, .int 1)], [.int 2, .int x, .int 1, .int 51, .ref 51], (zsh ++ vs, (zup (zup mi 52 1 51) 51 1 2), ml, (zmr g))) rfl ?_
  refine Wp.call (as := [.ref 51, .int 51, .int 1, .int x, .int 2]) (rest := []) rfl rfl rfl rfl rfl (Nat.le_of_ble_eq_true rfl) (Nat.le_of_ble_eq_true rfl) rfl (by decide) (c_rn_4_4_1_1_1 (mi := (zup (zup mi 52 1 51) 51 1 2)) rfl h2 h3 h4) ?_
  rintro _ _ ⟨rfl, rfl⟩
  refine Wp.run 0 (108, [(6, .int 51), (5, .int 4), (0, .ref 51), (1, .int 4), (2, .int 1), (3, .int x), (4, .int 1)], [.int (((-((x + 1) + y)) - v) ^^^ 6)], (zsh ++ vs, (zup (zup (zup (zup (zup (zup (zup (zup (zup (zup mi 52 1 51) 51 1 2) 52 2 20) 51 1 3) 52 3 11) 51 1 4) 52 4 50) 51 1 5) 52 5 10) 51 1 6), ml, (zmr g))) rfl ?_
  refine Wp.ret rfl rfl rfl ?_
  exact ⟨rfl, rfl⟩
theorem c_rn_4_4_2_0_0 {E : zEn} {vs : List (Nat × Nat)} {mi : Nat → Nat → Int32} {ml : Nat → Nat → Int64} {g : Nat → Nat → Option Nat} {x y v : Int32} (h1 : mi 51 1 = 1) (h2 : mi 51 2 = 4) (h3 : mi 51 3 = y) (h4 : mi 51 4 = v) : Wp E 10 pg_Performance_run 0 (lv_args 0 [.ref 51, .int 12, .int 0, .int x, .int 1]) [] (zsh ++ vs, mi, ml, (zmr g)) (fun r w' => r = some (.int ((((-((x + 1) + y)) - v) ^^^ 6) * 2)) ∧ w' = (zsh ++ vs, (zup (zup (zup (zup (zup (zup (zup (zup (zup (zup mi 52 1 51) 51 1 2) 52 2 20) 51 1 3) 52 3 11) 51 1 4) 52 4 50) 51 1 5) 52 5 10) 51 1 6), ml, zmr g)) := by
  refine Wp.run 5 (130, [(0, .ref 51), (1, .int 12), (2, .int 0), (3, .int x), (4, .int 1)], [.int (mi 51 2), .ref 51], (zsh ++ vs, mi, ml, (zmr g))) rfl ?_
  refine Wp.topi (y := 4) (h2) ?_
  refine Wp.run 3 (134, [(0, .ref 51), (1, .int 12), (2, .int 0), (3, .int x), (4, .int 1)], [.int 1, .int x, .int 1, .int 4, .ref 51], (zsh ++ vs, mi, ml, (zmr g))) rfl ?_
  refine Wp.call (as := [.ref 51, .int 4, .int 1, .int x, .int 1]) (rest := []) rfl rfl rfl rfl rfl (Nat.le_of_ble_eq_true rfl) (Nat.le_of_ble_eq_true rfl) rfl (by decide) (c_pf_4_4_1_1_1 (mi := mi) (x := x) h1 h2 h3 h4) ?_
  rintro _ _ ⟨rfl, rfl⟩
  refine Wp.run 2 (139, [(0, .ref 51), (1, .int 12), (2, .int 0), (3, .int x), (4, .int 1)], [.int ((((-((x + 1) + y)) - v) ^^^ 6) * 2)], (zsh ++ vs, (zup (zup (zup (zup (zup (zup (zup (zup (zup (zup mi 52 1 51) 51 1 2) 52 2 20) 51 1 3) 52 3 11) 51 1 4) 52 4 50) 51 1 5) 52 5 10) 51 1 6), ml, (zmr g))) rfl ?_
  refine Wp.ret rfl rfl rfl ?_
  exact ⟨rfl, rfl⟩
theorem c_pf_4_4_2_0_0 {E : zEn} {vs : List (Nat × Nat)} {mi : Nat → Nat → Int32} {ml : Nat → Nat → Int64} {g : Nat → Nat → Option Nat} {x y v : Int32} (h1 : mi 51 1 = 0) (h2 : mi 51 2 = 4) (h3 : mi 51 3 = y) (h4 : mi 51 4 = v) : Wp E 11 pg_Performance_perform 0 (lv_args 0 [.ref 51, .int 4, .int 2, .int x, .int 0]) [] (zsh ++ vs, mi, ml, (zmr g)) (fun r w' => r = some (.int ((((-((x + 1) + y)) - v) ^^^ 6) * 2)) ∧ w' = (zsh ++ vs, (zup (zup (zup (zup (zup (zup (zup (zup (zup (zup (zup (zup mi 52 0 12) 51 1 1) 52 1 51) 51 1 2) 52 2 20) 51 1 3) 52 3 11) 51 1 4) 52 4 50) 51 1 5) 52 5 10) 51 1 6), ml, zmr g)) := by
  refine Wp.run 24 (15, [(6, .int 1), (5, .int 1), (0, .ref 51), (1, .int 4), (2, .int 2), (3, .int x), (4, .int 0)], [], (zsh ++ vs, mi, ml, (zmr g))) rfl ?_
  refine Wp.run 17 (15, [(6, .int 2), (5, .int 0), (0, .ref 51), (1, .int 4), (2, .int 2), (3, .int x), (4, .int 0)], [], (zsh ++ vs, mi, ml, (zmr g))) rfl ?_
  refine Wp.run 21 (65, [(6, .int 12), (5, .int 0), (0, .ref 51), (1, .int 4), (2, .int 2), (3, .int x), (4, .int 0)], [.int (mi 51 1)], (zsh ++ vs, mi, ml, (zmr g))) rfl ?_
  refine Wp.topi (y := 0) (h1) ?_
  refine Wp.run 6 (78, [(6, .int 12), (5, .int 0), (0, .ref 51), (1, .int 4), (2, .int 2), (3, .int x), (4, .int 0)], [.int (mi 51 1), .ref 52], (zsh ++ vs, mi, ml, (zmr g))) rfl ?_
  refine Wp.topi (y := 0) (h1) ?_
  refine Wp.run 5 (86, [(6, .int 12), (5, .int 0), (0, .ref 51), (1, .int 4), (2, .int 2), (3, .int x), (4, .int 0)], [.int (mi 51 1), .ref 51], (zsh ++ vs, (zup mi 52 0 12), ml, (zmr g))) rfl ?_
  refine Wp.topi (y := 0) (h1) ?_
  refine Wp.run 12 (105, [(6, .int 12), (5, .int 0), (0, .ref 51), (1, .int 4), (2, .int 2), (3, .int x), (4, .int 0)], [.int 1, .int x, .int 0, .int 12, .ref 51], (zsh ++ vs, (zup (zup mi 52 0 12) 51 1 1), ml, (zmr g))) rfl ?_
  refine Wp.call (as := [.ref 51, .int 12, .int 0, .int x, .int 1]) (rest := []) rfl rfl rfl rfl rfl (Nat.le_of_ble_eq_true rfl) (Nat.le_of_ble_eq_true rfl) rfl (by decide) (c_rn_4_4_2_0_0 (mi := (zup (zup mi 52 0 12) 51 1 1)) rfl h2 h3 h4) ?_
  rintro _ _ ⟨rfl, rfl⟩
  refine Wp.run 0 (108, [(6, .int 12), (5, .int 0), (0, .ref 51), (1, .int 4), (2, .int 2), (3, .int x), (4, .int 0)], [.int ((((-((x + 1) + y)) - v) ^^^ 6) * 2)], (zsh ++ vs, (zup (zup (zup (zup (zup (zup (zup (zup (zup (zup (zup (zup mi 52 0 12) 51 1 1) 52 1 51) 51 1 2) 52 2 20) 51 1 3) 52 3 11) 51 1 4) 52 4 50) 51 1 5) 52 5 10) 51 1 6), ml, (zmr g))) rfl ?_
  refine Wp.ret rfl rfl rfl ?_
  exact ⟨rfl, rfl⟩
theorem c_rn_5_0_0_1_1 {E : zEn} {vs : List (Nat × Nat)} {mi : Nat → Nat → Int32} {ml : Nat → Nat → Int64} {g : Nat → Nat → Option Nat} {x y v : Int32} (h1 : mi 51 1 = 2) (h2 : mi 51 2 = 5) (h3 : mi 51 3 = y) (h4 : mi 51 4 = v) : Wp E 0 pg_Performance_run 0 (lv_args 0 [.ref 51, .int 10, .int 0, .int x, .int 2]) [] (zsh ++ vs, mi, ml, (zmr g)) (fun r w' => r = some (.int (x + y)) ∧ w' = (zsh ++ vs, mi, ml, zmr g)) := by
  refine Wp.run 5 (105, [(0, .ref 51), (1, .int 10), (2, .int 0), (3, .int x), (4, .int 2)], [.int (mi 51 3), .int x], (zsh ++ vs, mi, ml, (zmr g))) rfl ?_
  refine Wp.topi (y := y) (h3) ?_
  refine Wp.run 1 (106, [(0, .ref 51), (1, .int 10), (2, .int 0), (3, .int x), (4, .int 2)], [.int (x + y)], (zsh ++ vs, mi, ml, (zmr g))) rfl ?_
  refine Wp.ret rfl rfl rfl ?_
  exact ⟨rfl, rfl⟩
theorem c_pf_5_0_0_1_1 {E : zEn} {vs : List (Nat × Nat)} {mi : Nat → Nat → Int32} {ml : Nat → Nat → Int64} {g : Nat → Nat → Option Nat} {x y v : Int32} (h1 : mi 51 1 = 1) (h2 : mi 51 2 = 5) (h3 : mi 51 3 = y) (h4 : mi 51 4 = v) : Wp E 1 pg_Performance_perform 0 (lv_args 0 [.ref 51, .int 0, .int 0, .int x, .int 1]) [] (zsh ++ vs, mi, ml, (zmr g)) (fun r w' => r = some (.int (x + y)) ∧ w' = (zsh ++ vs, (zup (zup mi 52 1 10) 51 1 2), ml, zmr g)) := by
  refine Wp.run 24 (58, [(6, .int 0), (5, .int 0), (0, .ref 51), (1, .int 0), (2, .int 0), (3, .int x), (4, .int 1)], [.int 0, .ref 502], (zsh ++ vs, mi, ml, (zmr g))) rfl ?_
  refine Wp.run 4 (65, [(6, .int 10), (5, .int 0), (0, .ref 51), (1, .int 0), (2, .int 0), (3, .int x), (4, .int 1)], [.int (mi 51 1)], (zsh ++ vs, mi, ml, (zmr g))) rfl ?_
  refine Wp.topi (y := 1) (h1) ?_
  refine Wp.run 6 (78, [(6, .int 10), (5, .int 0), (0, .ref 51), (1, .int 0), (2, .int 0), (3, .int x), (4, .int 1)], [.int (mi 51 1), .ref 52], (zsh ++ vs, mi, ml, (zmr g))) rfl ?_
  refine Wp.topi (y := 1) (h1) ?_
  refine Wp.run 5 (86, [(6, .int 10), (5, .int 0), (0, .ref 51), (1, .int 0), (2, .int 0), (3, .int x), (4, .int 1)], [.int (mi 51 1), .ref 51], (zsh ++ vs, (zup mi 52 1 10), ml, (zmr g))) rfl ?_
  refine Wp.topi (y := 1) (h1) ?_
  refine Wp.run 12 (105, [(6, .int 10), (5, .int 0), (0, .ref 51), (1, .int 0), (2, .int 0), (3, .int x), (4, .int 1)], [.int 2, .int x, .int 0, .int 10, .ref 51], (zsh ++ vs, (zup (zup mi 52 1 10) 51 1 2), ml, (zmr g))) rfl ?_
  refine Wp.call (as := [.ref 51, .int 10, .int 0, .int x, .int 2]) (rest := []) rfl rfl rfl rfl rfl (Nat.le_of_ble_eq_true rfl) (Nat.le_of_ble_eq_true rfl) rfl (by decide) (c_rn_5_0_0_1_1 (mi := (zup (zup mi 52 1 10) 51 1 2)) rfl h2 h3 h4) ?_
  rintro _ _ ⟨rfl, rfl⟩
  refine Wp.run 0 (108, [(6, .int 10), (5, .int 0), (0, .ref 51), (1, .int 0), (2, .int 0), (3, .int x), (4, .int 1)], [.int (x + y)], (zsh ++ vs, (zup (zup mi 52 1 10) 51 1 2), ml, (zmr g))) rfl ?_
  refine Wp.ret rfl rfl rfl ?_
  exact ⟨rfl, rfl⟩
theorem c_rn_5_5_0_0_0 {E : zEn} {vs : List (Nat × Nat)} {mi : Nat → Nat → Int32} {ml : Nat → Nat → Int64} {g : Nat → Nat → Option Nat} {x y v : Int32} (h1 : mi 51 1 = 1) (h2 : mi 51 2 = 5) (h3 : mi 51 3 = y) (h4 : mi 51 4 = v) : Wp E 2 pg_Performance_run 0 (lv_args 0 [.ref 51, .int 30, .int 0, .int x, .int 1]) [] (zsh ++ vs, mi, ml, (zmr g)) (fun r w' => r = some (.int (((x * 3) + y))) ∧ w' = (zsh ++ vs, (zup (zup mi 52 1 10) 51 1 2), ml, zmr g)) := by
  refine Wp.run 9 (161, [(0, .ref 51), (1, .int 30), (2, .int 0), (3, .int x), (4, .int 1)], [.int 1, .int (x * 3), .int 0, .int 0, .ref 51], (zsh ++ vs, mi, ml, (zmr g))) rfl ?_
  refine Wp.call (as := [.ref 51, .int 0, .int 0, .int (x * 3), .int 1]) (rest := []) rfl rfl rfl rfl rfl (Nat.le_of_ble_eq_true rfl) (Nat.le_of_ble_eq_true rfl) rfl (by decide) (c_pf_5_0_0_1_1 (mi := mi) (x := (x * 3)) h1 h2 h3 h4) ?_
  rintro _ _ ⟨rfl, rfl⟩
  refine Wp.run 0 (164, [(0, .ref 51), (1, .int 30), (2, .int 0), (3, .int x), (4, .int 1)], [.int ((x * 3) + y)], (zsh ++ vs, (zup (zup mi 52 1 10) 51 1 2), ml, (zmr g))) rfl ?_
  refine Wp.ret rfl rfl rfl ?_
  exact ⟨rfl, rfl⟩
theorem c_pf_5_5_0_0_0 {E : zEn} {vs : List (Nat × Nat)} {mi : Nat → Nat → Int32} {ml : Nat → Nat → Int64} {g : Nat → Nat → Option Nat} {x y v : Int32} (h1 : mi 51 1 = 0) (h2 : mi 51 2 = 5) (h3 : mi 51 3 = y) (h4 : mi 51 4 = v) : Wp E 3 pg_Performance_perform 0 (lv_args 0 [.ref 51, .int 5, .int 0, .int x, .int 0]) [] (zsh ++ vs, mi, ml, (zmr g)) (fun r w' => r = some (.int (((x * 3) + y))) ∧ w' = (zsh ++ vs, (zup (zup (zup (zup mi 52 0 30) 51 1 1) 52 1 10) 51 1 2), ml, zmr g)) := by
  refine Wp.run 24 (15, [(6, .int 1), (5, .int 2), (0, .ref 51), (1, .int 5), (2, .int 0), (3, .int x), (4, .int 0)], [], (zsh ++ vs, mi, ml, (zmr g))) rfl ?_
  refine Wp.run 21 (65, [(6, .int 30), (5, .int 2), (0, .ref 51), (1, .int 5), (2, .int 0), (3, .int x), (4, .int 0)], [.int (mi 51 1)], (zsh ++ vs, mi, ml, (zmr g))) rfl ?_
  refine Wp.topi (y := 0) (h1) ?_
  refine Wp.run 6 (78, [(6, .int 30), (5, .int 2), (0, .ref 51), (1, .int 5), (2, .int 0), (3, .int x), (4, .int 0)], [.int (mi 51 1), .ref 52], (zsh ++ vs, mi, ml, (zmr g))) rfl ?_
  refine Wp.topi (y := 0) (h1) ?_
  refine Wp.run 5 (86, [(6, .int 30), (5, .int 2), (0, .ref 51), (1, .int 5), (2, .int 0), (3, .int x), (4, .int 0)], [.int (mi 51 1), .ref 51], (zsh ++ vs, (zup mi 52 0 30), ml, (zmr g))) rfl ?_
  refine Wp.topi (y := 0) (h1) ?_
  refine Wp.run 12 (105, [(6, .int 30), (5, .int 2), (0, .ref 51), (1, .int 5), (2, .int 0), (3, .int x), (4, .int 0)], [.int 1, .int x, .int 0, .int 30, .ref 51], (zsh ++ vs, (zup (zup mi 52 0 30) 51 1 1), ml, (zmr g))) rfl ?_
  refine Wp.call (as := [.ref 51, .int 30, .int 0, .int x, .int 1]) (rest := []) rfl rfl rfl rfl rfl (Nat.le_of_ble_eq_true rfl) (Nat.le_of_ble_eq_true rfl) rfl (by decide) (c_rn_5_5_0_0_0 (mi := (zup (zup mi 52 0 30) 51 1 1)) rfl h2 h3 h4) ?_
  rintro _ _ ⟨rfl, rfl⟩
  refine Wp.run 0 (108, [(6, .int 30), (5, .int 2), (0, .ref 51), (1, .int 5), (2, .int 0), (3, .int x), (4, .int 0)], [.int ((x * 3) + y)], (zsh ++ vs, (zup (zup (zup (zup mi 52 0 30) 51 1 1) 52 1 10) 51 1 2), ml, (zmr g))) rfl ?_
  refine Wp.ret rfl rfl rfl ?_
  exact ⟨rfl, rfl⟩
theorem c_rn_5_0_0_2_2 {E : zEn} {vs : List (Nat × Nat)} {mi : Nat → Nat → Int32} {ml : Nat → Nat → Int64} {g : Nat → Nat → Option Nat} {x y v : Int32} (h1 : mi 51 1 = 3) (h2 : mi 51 2 = 5) (h3 : mi 51 3 = y) (h4 : mi 51 4 = v) : Wp E 0 pg_Performance_run 0 (lv_args 0 [.ref 51, .int 10, .int 0, .int x, .int 3]) [] (zsh ++ vs, mi, ml, (zmr g)) (fun r w' => r = some (.int (x + y)) ∧ w' = (zsh ++ vs, mi, ml, zmr g)) := by
  refine Wp.run 5 (105, [(0, .ref 51), (1, .int 10), (2, .int 0), (3, .int x), (4, .int 3)], [.int (mi 51 3), .int x], (zsh ++ vs, mi, ml, (zmr g))) rfl ?_
  refine Wp.topi (y := y) (h3) ?_
  refine Wp.run 1 (106, [(0, .ref 51), (1, .int 10), (2, .int 0), (3, .int x), (4, .int 3)], [.int (x + y)], (zsh ++ vs, mi, ml, (zmr g))) rfl ?_
  refine Wp.ret rfl rfl rfl ?_
  exact ⟨rfl, rfl⟩
theorem c_pf_5_0_0_2_2 {E : zEn} {vs : List (Nat × Nat)} {mi : Nat → Nat → Int32} {ml : Nat → Nat → Int64} {g : Nat → Nat → Option Nat} {x y v : Int32} (h1 : mi 51 1 = 2) (h2 : mi 51 2 = 5) (h3 : mi 51 3 = y) (h4 : mi 51 4 = v) : Wp E 1 pg_Performance_perform 0 (lv_args 0 [.ref 51, .int 0, .int 0, .int x, .int 2]) [] (zsh ++ vs, mi, ml, (zmr g)) (fun r w' => r = some (.int (x + y)) ∧ w' = (zsh ++ vs, (zup (zup mi 52 2 10) 51 1 3), ml, zmr g)) := by
  refine Wp.run 24 (58, [(6, .int 0), (5, .int 0), (0, .ref 51), (1, .int 0), (2, .int 0), (3, .int x), (4, .int 2)], [.int 0, .ref 502], (zsh ++ vs, mi, ml, (zmr g))) rfl ?_
  refine Wp.run 4 (65, [(6, .int 10), (5, .int 0), (0, .ref 51), (1, .int 0), (2, .int 0), (3, .int x), (4, .int 2)], [.int (mi 51 1)], (zsh ++ vs, mi, ml, (zmr g))) rfl ?_
  refine Wp.topi (y := 2) (h1) ?_
  refine Wp.run 6 (78, [(6, .int 10), (5, .int 0), (0, .ref 51), (1, .int 0), (2, .int 0), (3, .int x), (4, .int 2)], [.int (mi 51 1), .ref 52], (zsh ++ vs, mi, ml, (zmr g))) rfl ?_
  refine Wp.topi (y := 2) (h1) ?_
  refine Wp.run 5 (86, [(6, .int 10), (5, .int 0), (0, .ref 51), (1, .int 0), (2, .int 0), (3, .int x), (4, .int 2)], [.int (mi 51 1), .ref 51], (zsh ++ vs, (zup mi 52 2 10), ml, (zmr g))) rfl ?_
  refine Wp.topi (y := 2) (h1) ?_
  refine Wp.run 12 (105, [(6, .int 10), (5, .int 0), (0, .ref 51), (1, .int 0), (2, .int 0), (3, .int x), (4, .int 2)], [.int 3, .int x, .int 0, .int 10, .ref 51], (zsh ++ vs, (zup (zup mi 52 2 10) 51 1 3), ml, (zmr g))) rfl ?_
  refine Wp.call (as := [.ref 51, .int 10, .int 0, .int x, .int 3]) (rest := []) rfl rfl rfl rfl rfl (Nat.le_of_ble_eq_true rfl) (Nat.le_of_ble_eq_true rfl) rfl (by decide) (c_rn_5_0_0_2_2 (mi := (zup (zup mi 52 2 10) 51 1 3)) rfl h2 h3 h4) ?_
  rintro _ _ ⟨rfl, rfl⟩
  refine Wp.run 0 (108, [(6, .int 10), (5, .int 0), (0, .ref 51), (1, .int 0), (2, .int 0), (3, .int x), (4, .int 2)], [.int (x + y)], (zsh ++ vs, (zup (zup mi 52 2 10) 51 1 3), ml, (zmr g))) rfl ?_
  refine Wp.ret rfl rfl rfl ?_
  exact ⟨rfl, rfl⟩
theorem c_rn_5_5_0_1_1 {E : zEn} {vs : List (Nat × Nat)} {mi : Nat → Nat → Int32} {ml : Nat → Nat → Int64} {g : Nat → Nat → Option Nat} {x y v : Int32} (h1 : mi 51 1 = 2) (h2 : mi 51 2 = 5) (h3 : mi 51 3 = y) (h4 : mi 51 4 = v) : Wp E 2 pg_Performance_run 0 (lv_args 0 [.ref 51, .int 30, .int 0, .int x, .int 2]) [] (zsh ++ vs, mi, ml, (zmr g)) (fun r w' => r = some (.int (((x * 3) + y))) ∧ w' = (zsh ++ vs, (zup (zup mi 52 2 10) 51 1 3), ml, zmr g)) := by
  refine Wp.run 9 (161, [(0, .ref 51), (1, .int 30), (2, .int 0), (3, .int x), (4, .int 2)], [.int 2, .int (x * 3), .int 0, .int 0, .ref 51], (zsh ++ vs, mi, ml, (zmr g))) rfl ?_
  refine Wp.call (as := [.ref 51, .int 0, .int 0, .int (x * 3), .int 2]) (rest := []) rfl rfl rfl rfl rfl (Nat.le_of_ble_eq_true rfl) (Nat.le_of_ble_eq_true rfl) rfl (by decide) (c_pf_5_0_0_2_2 (mi := mi) (x := (x * 3)) h1 h2 h3 h4) ?_
  rintro _ _ ⟨rfl, rfl⟩
  refine Wp.run 0 (164, [(0, .ref 51), (1, .int 30), (2, .int 0), (3, .int x), (4, .int 2)], [.int ((x * 3) + y)], (zsh ++ vs, (zup (zup mi 52 2 10) 51 1 3), ml, (zmr g))) rfl ?_
  refine Wp.ret rfl rfl rfl ?_
  exact ⟨rfl, rfl⟩
theorem c_pf_5_5_0_1_1 {E : zEn} {vs : List (Nat × Nat)} {mi : Nat → Nat → Int32} {ml : Nat → Nat → Int64} {g : Nat → Nat → Option Nat} {x y v : Int32} (h1 : mi 51 1 = 1) (h2 : mi 51 2 = 5) (h3 : mi 51 3 = y) (h4 : mi 51 4 = v) : Wp E 3 pg_Performance_perform 0 (lv_args 0 [.ref 51, .int 5, .int 0, .int x, .int 1]) [] (zsh ++ vs, mi, ml, (zmr g)) (fun r w' => r = some (.int (((x * 3) + y))) ∧ w' = (zsh ++ vs, (zup (zup (zup (zup mi 52 1 30) 51 1 2) 52 2 10) 51 1 3), ml, zmr g)) := by
  refine Wp.run 24 (15, [(6, .int 1), (5, .int 2), (0, .ref 51), (1, .int 5), (2, .int 0), (3, .int x), (4, .int 1)], [], (zsh ++ vs, mi, ml, (zmr g))) rfl ?_
  refine Wp.run 21 (65, [(6, .int 30), (5, .int 2), (0, .ref 51), (1, .int 5), (2, .int 0), (3, .int x), (4, .int 1)], [.int (mi 51 1)], (zsh ++ vs, mi, ml, (zmr g))) rfl ?_
  refine Wp.topi (y := 1) (h1) ?_
  refine Wp.run 6 (78, [(6, .int 30), (5, .int 2), (0, .ref 51), (1, .int 5), (2, .int 0), (3, .int x), (4, .int 1)], [.int (mi 51 1), .ref 52], (zsh ++ vs, mi, ml, (zmr g))) rfl ?_
  refine Wp.topi (y := 1) (h1) ?_
  refine Wp.run 5 (86, [(6, .int 30), (5, .int 2), (0, .ref 51), (1, .int 5), (2, .int 0), (3, .int x), (4, .int 1)], [.int (mi 51 1), .ref 51], (zsh ++ vs, (zup mi 52 1 30), ml, (zmr g))) rfl ?_
  refine Wp.topi (y := 1) (h1) ?_
  refine Wp.run 12 (105, [(6, .int 30), (5, .int 2), (0, .ref 51), (1, .int 5), (2, .int 0), (3, .int x), (4, .int 1)], [.int 2, .int x, .int 0, .int 30, .ref 51], (zsh ++ vs, (zup (zup mi 52 1 30) 51 1 2), ml, (zmr g))) rfl ?_
  refine Wp.call (as := [.ref 51, .int 30, .int 0, .int x, .int 2]) (rest := []) rfl rfl rfl rfl rfl (Nat.le_of_ble_eq_true rfl) (Nat.le_of_ble_eq_true rfl) rfl (by decide) (c_rn_5_5_0_1_1 (mi := (zup (zup mi 52 1 30) 51 1 2)) rfl h2 h3 h4) ?_
  rintro _ _ ⟨rfl, rfl⟩
  refine Wp.run 0 (108, [(6, .int 30), (5, .int 2), (0, .ref 51), (1, .int 5), (2, .int 0), (3, .int x), (4, .int 1)], [.int ((x * 3) + y)], (zsh ++ vs, (zup (zup (zup (zup mi 52 1 30) 51 1 2) 52 2 10) 51 1 3), ml, (zmr g))) rfl ?_
  refine Wp.ret rfl rfl rfl ?_
  exact ⟨rfl, rfl⟩
theorem c_rn_5_5_1_0_0 {E : zEn} {vs : List (Nat × Nat)} {mi : Nat → Nat → Int32} {ml : Nat → Nat → Int64} {g : Nat → Nat → Option Nat} {x y v : Int32} (h1 : mi 51 1 = 1) (h2 : mi 51 2 = 5) (h3 : mi 51 3 = y) (h4 : mi 51 4 = v) : Wp E 4 pg_Performance_run 0 (lv_args 0 [.ref 51, .int 11, .int 0, .int x, .int 1]) [] (zsh ++ vs, mi, ml, (zmr g)) (fun r w' => r = some (.int (((x * 3) + y) - v)) ∧ w' = (zsh ++ vs, (zup (zup (zup (zup mi 52 1 30) 51 1 2) 52 2 10) 51 1 3), ml, zmr g)) := by
  refine Wp.run 5 (112, [(0, .ref 51), (1, .int 11), (2, .int 0), (3, .int x), (4, .int 1)], [.int (mi 51 2), .ref 51], (zsh ++ vs, mi, ml, (zmr g))) rfl ?_
  refine Wp.topi (y := 5) (h2) ?_
  refine Wp.run 3 (116, [(0, .ref 51), (1, .int 11), (2, .int 0), (3, .int x), (4, .int 1)], [.int 1, .int x, .int 0, .int 5, .ref 51], (zsh ++ vs, mi, ml, (zmr g))) rfl ?_
  refine Wp.call (as := [.ref 51, .int 5, .int 0, .int x, .int 1]) (rest := []) rfl rfl rfl rfl rfl (Nat.le_of_ble_eq_true rfl) (Nat.le_of_ble_eq_true rfl) rfl (by decide) (c_pf_5_5_0_1_1 (mi := mi) (x := x) h1 h2 h3 h4) ?_
  rintro _ _ ⟨rfl, rfl⟩
  refine Wp.run 2 (123, [(0, .ref 51), (1, .int 11), (2, .int 0), (3, .int x), (4, .int 1)], [.int (mi 51 4), .int ((x * 3) + y)], (zsh ++ vs, (zup (zup (zup (zup mi 52 1 30) 51 1 2) 52 2 10) 51 1 3), ml, (zmr g))) rfl ?_
  refine Wp.topi (y := v) (h4) ?_
  refine Wp.run 1 (124, [(0, .ref 51), (1, .int 11), (2, .int 0), (3, .int x), (4, .int 1)], [.int (((x * 3) + y) - v)], (zsh ++ vs, (zup (zup (zup (zup mi 52 1 30) 51 1 2) 52 2 10) 51 1 3), ml, (zmr g))) rfl ?_
  refine Wp.ret rfl rfl rfl ?_
  exact ⟨rfl, rfl⟩
theorem c_pf_5_5_1_0_0 {E : zEn} {vs : List (Nat × Nat)} {mi : Nat → Nat → Int32} {ml : Nat → Nat → Int64} {g : Nat → Nat → Option Nat} {x y v : Int32} (h1 : mi 51 1 = 0) (h2 : mi 51 2 = 5) (h3 : mi 51 3 = y) (h4 : mi 51 4 = v) : Wp E 5 pg_Performance_perform 0 (lv_args 0 [.ref 51, .int 5, .int 1, .int x, .int 0]) [] (zsh ++ vs, mi, ml, (zmr g)) (fun r w' => r = some (.int (((x * 3) + y) - v)) ∧ w' = (zsh ++ vs, (zup (zup (zup (zup (zup (zup mi 52 0 11) 51 1 1) 52 1 30) 51 1 2) 52 2 10) 51 1 3), ml, zmr g)) := by
  refine Wp.run 24 (15, [(6, .int 1), (5, .int 2), (0, .ref 51), (1, .int 5), (2, .int 1), (3, .int x), (4, .int 0)], [], (zsh ++ vs, mi, ml, (zmr g))) rfl ?_
  refine Wp.run 17 (15, [(6, .int 2), (5, .int 0), (0, .ref 51), (1, .int 5), (2, .int 1), (3, .int x), (4, .int 0)], [], (zsh ++ vs, mi, ml, (zmr g))) rfl ?_
  refine Wp.run 21 (65, [(6, .int 11), (5, .int 0), (0, .ref 51), (1, .int 5), (2, .int 1), (3, .int x), (4, .int 0)], [.int (mi 51 1)], (zsh ++ vs, mi, ml, (zmr g))) rfl ?_
  refine Wp.topi (y := 0) (h1) ?_
  refine Wp.run 6 (78, [(6, .int 11), (5, .int 0), (0, .ref 51), (1, .int 5), (2, .int 1), (3, .int x), (4, .int 0)], [.int (mi 51 1), .ref 52], (zsh ++ vs, mi, ml, (zmr g))) rfl ?_
  refine Wp.topi (y := 0) (h1) ?_
  refine Wp.run 5 (86, [(6, .int 11), (5, .int 0), (0, .ref 51), (1, .int 5), (2, .int 1), (3, .int x), (4, .int 0)], [.int (mi 51 1), .ref 51], (zsh ++ vs, (zup mi 52 0 11), ml, (zmr g))) rfl ?_
  refine Wp.topi (y := 0) (h1) ?_
  refine Wp.run 12 (105, [(6, .int 11), (5, .int 0), (0, .ref 51), (1, .int 5), (2, .int 1), (3, .int x), (4, .int 0)], [.int 1, .int x, .int 0, .int 11, .ref 51], (zsh ++ vs, (zup (zup mi 52 0 11) 51 1 1), ml, (zmr g))) rfl ?_
  refine Wp.call (as := [.ref 51, .int 11, .int 0, .int x, .int 1]) (rest := []) rfl rfl rfl rfl rfl (Nat.le_of_ble_eq_true rfl) (Nat.le_of_ble_eq_true rfl) rfl (by decide) (c_rn_5_5_1_0_0 (mi := (zup (zup mi 52 0 11) 51 1 1)) rfl h2 h3 h4) ?_
  rintro _ _ ⟨rfl, rfl⟩
  refine Wp.run 0 (108, [(6, .int 11), (5, .int 0), (0, .ref 51), (1, .int 5), (2, .int 1), (3, .int x), (4, .int 0)], [.int (((x * 3) + y) - v)], (zsh ++ vs, (zup (zup (zup (zup (zup (zup mi 52 0 11) 51 1 1) 52 1 30) 51 1 2) 52 2 10) 51 1 3), ml, (zmr g))) rfl ?_
  refine Wp.ret rfl rfl rfl ?_
  exact ⟨rfl, rfl⟩
theorem c_rn_5_0_0_4_4 {E : zEn} {vs : List (Nat × Nat)} {mi : Nat → Nat → Int32} {ml : Nat → Nat → Int64} {g : Nat → Nat → Option Nat} {x y v : Int32} (h1 : mi 51 1 = 5) (h2 : mi 51 2 = 5) (h3 : mi 51 3 = y) (h4 : mi 51 4 = v) : Wp E 0 pg_Performance_run 0 (lv_args 0 [.ref 51, .int 10, .int 0, .int x, .int 5]) [] (zsh ++ vs, mi, ml, (zmr g)) (fun r w' => r = some (.int (x + y)) ∧ w' = (zsh ++ vs, mi, ml, zmr g)) := by
  refine Wp.run 5 (105, [(0, .ref 51), (1, .int 10), (2, .int 0), (3, .int x), (4, .int 5)], [.int (mi 51 3), .int x], (zsh ++ vs, mi, ml, (zmr g))) rfl ?_
  refine Wp.topi (y := y) (h3) ?_
  refine Wp.run 1 (106, [(0, .ref 51), (1, .int 10), (2, .int 0), (3, .int x), (4, .int 5)], [.int (x + y)], (zsh ++ vs, mi, ml, (zmr g))) rfl ?_
  refine Wp.ret rfl rfl rfl ?_
  exact ⟨rfl, rfl⟩
theorem c_pf_5_0_0_4_4 {E : zEn} {vs : List (Nat × Nat)} {mi : Nat → Nat → Int32} {ml : Nat → Nat → Int64} {g : Nat → Nat → Option Nat} {x y v : Int32} (h1 : mi 51 1 = 4) (h2 : mi 51 2 = 5) (h3 : mi 51 3 = y) (h4 : mi 51 4 = v) : Wp E 1 pg_Performance_perform 0 (lv_args 0 [.ref 51, .int 0, .int 0, .int x, .int 4]) [] (zsh ++ vs, mi, ml, (zmr g)) (fun r w' => r = some (.int (x + y)) ∧ w' = (zsh ++ vs, (zup (zup mi 52 4 10) 51 1 5), ml, zmr g)) := by
  refine Wp.run 24 (58, [(6, .int 0), (5, .int 0), (0, .ref 51), (1, .int 0), (2, .int 0), (3, .int x), (4, .int 4)], [.int 0, .ref 502], (zsh ++ vs, mi, ml, (zmr g))) rfl ?_
  refine Wp.run 4 (65, [(6, .int 10), (5, .int 0), (0, .ref 51), (1, .int 0), (2, .int 0), (3, .int x), (4, .int 4)], [.int (mi 51 1)], (zsh ++ vs, mi, ml, (zmr g))) rfl ?_
  refine Wp.topi (y := 4) (h1) ?_
  refine Wp.run 6 (78, [(6, .int 10), (5, .int 0), (0, .ref 51), (1, .int 0), (2, .int 0), (3, .int x), (4, .int 4)], [.int (mi 51 1), .ref 52], (zsh ++ vs, mi, ml, (zmr g))) rfl ?_
  refine Wp.topi (y := 4) (h1) ?_
  refine Wp.run 5 (86, [(6, .int 10), (5, .int 0), (0, .ref 51), (1, .int 0), (2, .int 0), (3, .int x), (4, .int 4)], [.int (mi 51 1), .ref 51], (zsh ++ vs, (zup mi 52 4 10), ml, (zmr g))) rfl ?_
  refine Wp.topi (y := 4) (h1) ?_
  refine Wp.run 12 (105, [(6, .int 10), (5, .int 0), (0, .ref 51), (1, .int 0), (2, .int 0), (3, .int x), (4, .int 4)], [.int 5, .int x, .int 0, .int 10, .ref 51], (zsh ++ vs, (zup (zup mi 52 4 10) 51 1 5), ml, (zmr g))) rfl ?_
  refine Wp.call (as := [.ref 51, .int 10, .int 0, .int x, .int 5]) (rest := []) rfl rfl rfl rfl rfl (Nat.le_of_ble_eq_true rfl) (Nat.le_of_ble_eq_true rfl) rfl (by decide) (c_rn_5_0_0_4_4 (mi := (zup (zup mi 52 4 10) 51 1 5)) rfl h2 h3 h4) ?_
  rintro _ _ ⟨rfl, rfl⟩
  refine Wp.run 0 (108, [(6, .int 10), (5, .int 0), (0, .ref 51), (1, .int 0), (2, .int 0), (3, .int x), (4, .int 4)], [.int (x + y)], (zsh ++ vs, (zup (zup mi 52 4 10) 51 1 5), ml, (zmr g))) rfl ?_
  refine Wp.ret rfl rfl rfl ?_
  exact ⟨rfl, rfl⟩
theorem c_rn_5_5_0_3_3 {E : zEn} {vs : List (Nat × Nat)} {mi : Nat → Nat → Int32} {ml : Nat → Nat → Int64} {g : Nat → Nat → Option Nat} {x y v : Int32} (h1 : mi 51 1 = 4) (h2 : mi 51 2 = 5) (h3 : mi 51 3 = y) (h4 : mi 51 4 = v) : Wp E 2 pg_Performance_run 0 (lv_args 0 [.ref 51, .int 30, .int 0, .int x, .int 4]) [] (zsh ++ vs, mi, ml, (zmr g)) (fun r w' => r = some (.int (((x * 3) + y))) ∧ w' = (zsh ++ vs, (zup (zup mi 52 4 10) 51 1 5), ml, zmr g)) := by
  refine Wp.run 9 (161, [(0, .ref 51), (1, .int 30), (2, .int 0), (3, .int x), (4, .int 4)], [.int 4, .int (x * 3), .int 0, .int 0, .ref 51], (zsh ++ vs, mi, ml, (zmr g))) rfl ?_
  refine Wp.call (as := [.ref 51, .int 0, .int 0, .int (x * 3), .int 4]) (rest := []) rfl rfl rfl rfl rfl (Nat.le_of_ble_eq_true rfl) (Nat.le_of_ble_eq_true rfl) rfl (by decide) (c_pf_5_0_0_4_4 (mi := mi) (x := (x * 3)) h1 h2 h3 h4) ?_
  rintro _ _ ⟨rfl, rfl⟩
  refine Wp.run 0 (164, [(0, .ref 51), (1, .int 30), (2, .int 0), (3, .int x), (4, .int 4)], [.int ((x * 3) + y)], (zsh ++ vs, (zup (zup mi 52 4 10) 51 1 5), ml, (zmr g))) rfl ?_
  refine Wp.ret rfl rfl rfl ?_
  exact ⟨rfl, rfl⟩
theorem c_pf_5_5_0_3_3 {E : zEn} {vs : List (Nat × Nat)} {mi : Nat → Nat → Int32} {ml : Nat → Nat → Int64} {g : Nat → Nat → Option Nat} {x y v : Int32} (h1 : mi 51 1 = 3) (h2 : mi 51 2 = 5) (h3 : mi 51 3 = y) (h4 : mi 51 4 = v) : Wp E 3 pg_Performance_perform 0 (lv_args 0 [.ref 51, .int 5, .int 0, .int x, .int 3]) [] (zsh ++ vs, mi, ml, (zmr g)) (fun r w' => r = some (.int (((x * 3) + y))) ∧ w' = (zsh ++ vs, (zup (zup (zup (zup mi 52 3 30) 51 1 4) 52 4 10) 51 1 5), ml, zmr g)) := by
  refine Wp.run 24 (15, [(6, .int 1), (5, .int 2), (0, .ref 51), (1, .int 5), (2, .int 0), (3, .int x), (4, .int 3)], [], (zsh ++ vs, mi, ml, (zmr g))) rfl ?_
  refine Wp.run 21 (65, [(6, .int 30), (5, .int 2), (0, .ref 51), (1, .int 5), (2, .int 0), (3, .int x), (4, .int 3)], [.int (mi 51 1)], (zsh ++ vs, mi, ml, (zmr g))) rfl ?_
  refine Wp.topi (y := 3) (h1) ?_
  refine Wp.run 6 (78, [(6, .int 30), (5, .int 2), (0, .ref 51), (1, .int 5), (2, .int 0), (3, .int x), (4, .int 3)], [.int (mi 51 1), .ref 52], (zsh ++ vs, mi, ml, (zmr g))) rfl ?_
  refine Wp.topi (y := 3) (h1) ?_
  refine Wp.run 5 (86, [(6, .int 30), (5, .int 2), (0, .ref 51), (1, .int 5), (2, .int 0), (3, .int x), (4, .int 3)], [.int (mi 51 1), .ref 51], (zsh ++ vs, (zup mi 52 3 30), ml, (zmr g))) rfl ?_
  refine Wp.topi (y := 3) (h1) ?_
  refine Wp.run 12 (105, [(6, .int 30), (5, .int 2), (0, .ref 51), (1, .int 5), (2, .int 0), (3, .int x), (4, .int 3)], [.int 4, .int x, .int 0, .int 30, .ref 51], (zsh ++ vs, (zup (zup mi 52 3 30) 51 1 4), ml, (zmr g))) rfl ?_
  refine Wp.call (as := [.ref 51, .int 30, .int 0, .int x, .int 4]) (rest := []) rfl rfl rfl rfl rfl (Nat.le_of_ble_eq_true rfl) (Nat.le_of_ble_eq_true rfl) rfl (by decide) (c_rn_5_5_0_3_3 (mi := (zup (zup mi 52 3 30) 51 1 4)) rfl h2 h3 h4) ?_
  rintro _ _ ⟨rfl, rfl⟩
  refine Wp.run 0 (108, [(6, .int 30), (5, .int 2), (0, .ref 51), (1, .int 5), (2, .int 0), (3, .int x), (4, .int 3)], [.int ((x * 3) + y)], (zsh ++ vs, (zup (zup (zup (zup mi 52 3 30) 51 1 4) 52 4 10) 51 1 5), ml, (zmr g))) rfl ?_
  refine Wp.ret rfl rfl rfl ?_
  exact ⟨rfl, rfl⟩
theorem c_rn_5_5_1_2_2 {E : zEn} {vs : List (Nat × Nat)} {mi : Nat → Nat → Int32} {ml : Nat → Nat → Int64} {g : Nat → Nat → Option Nat} {x y v : Int32} (h1 : mi 51 1 = 3) (h2 : mi 51 2 = 5) (h3 : mi 51 3 = y) (h4 : mi 51 4 = v) : Wp E 4 pg_Performance_run 0 (lv_args 0 [.ref 51, .int 11, .int 0, .int x, .int 3]) [] (zsh ++ vs, mi, ml, (zmr g)) (fun r w' => r = some (.int (((x * 3) + y) - v)) ∧ w' = (zsh ++ vs, (zup (zup (zup (zup mi 52 3 30) 51 1 4) 52 4 10) 51 1 5), ml, zmr g)) := by
  refine Wp.run 5 (112, [(0, .ref 51), (1, .int 11), (2, .int 0), (3, .int x), (4, .int 3)], [.int (mi 51 2), .ref 51], (zsh ++ vs, mi, ml, (zmr g))) rfl ?_
  refine Wp.topi (y := 5) (h2) ?_
  refine Wp.run 3 (116, [(0, .ref 51), (1, .int 11), (2, .int 0), (3, .int x), (4, .int 3)], [.int 3, .int x, .int 0, .int 5, .ref 51], (zsh ++ vs, mi, ml, (zmr g))) rfl ?_
  refine Wp.call (as := [.ref 51, .int 5, .int 0, .int x, .int 3]) (rest := []) rfl rfl rfl rfl rfl (Nat.le_of_ble_eq_true rfl) (Nat.le_of_ble_eq_true rfl) rfl (by decide) (c_pf_5_5_0_3_3 (mi := mi) (x := x) h1 h2 h3 h4) ?_
  rintro _ _ ⟨rfl, rfl⟩
  refine Wp.run 2 (123, [(0, .ref 51), (1, .int 11), (2, .int 0), (3, .int x), (4, .int 3)], [.int (mi 51 4), .int ((x * 3) + y)], (zsh ++ vs, (zup (zup (zup (zup mi 52 3 30) 51 1 4) 52 4 10) 51 1 5), ml, (zmr g))) rfl ?_
  refine Wp.topi (y := v) (h4) ?_
  refine Wp.run 1 (124, [(0, .ref 51), (1, .int 11), (2, .int 0), (3, .int x), (4, .int 3)], [.int (((x * 3) + y) - v)], (zsh ++ vs, (zup (zup (zup (zup mi 52 3 30) 51 1 4) 52 4 10) 51 1 5), ml, (zmr g))) rfl ?_
  refine Wp.ret rfl rfl rfl ?_
  exact ⟨rfl, rfl⟩
theorem c_pf_5_5_1_2_2 {E : zEn} {vs : List (Nat × Nat)} {mi : Nat → Nat → Int32} {ml : Nat → Nat → Int64} {g : Nat → Nat → Option Nat} {x y v : Int32} (h1 : mi 51 1 = 2) (h2 : mi 51 2 = 5) (h3 : mi 51 3 = y) (h4 : mi 51 4 = v) : Wp E 5 pg_Performance_perform 0 (lv_args 0 [.ref 51, .int 5, .int 1, .int x, .int 2]) [] (zsh ++ vs, mi, ml, (zmr g)) (fun r w' => r = some (.int (((x * 3) + y) - v)) ∧ w' = (zsh ++ vs, (zup (zup (zup (zup (zup (zup mi 52 2 11) 51 1 3) 52 3 30) 51 1 4) 52 4 10) 51 1 5), ml, zmr g)) := by
  refine Wp.run 24 (15, [(6, .int 1), (5, .int 2), (0, .ref 51), (1, .int 5), (2, .int 1), (3, .int x), (4, .int 2)], [], (zsh ++ vs, mi, ml, (zmr g))) rfl ?_
  refine Wp.run 17 (15, [(6, .int 2), (5, .int 0), (0, .ref 51), (1, .int 5), (2, .int 1), (3, .int x), (4, .int 2)], [], (zsh ++ vs, mi, ml, (zmr g))) rfl ?_
  refine Wp.run 21 (65, [(6, .int 11), (5, .int 0), (0, .ref 51), (1, .int 5), (2, .int 1), (3, .int x), (4, .int 2)], [.int (mi 51 1)], (zsh ++ vs, mi, ml, (zmr g))) rfl ?_
  refine Wp.topi (y := 2) (h1) ?_
  refine Wp.run 6 (78, [(6, .int 11), (5, .int 0), (0, .ref 51), (1, .int 5), (2, .int 1), (3, .int x), (4, .int 2)], [.int (mi 51 1), .ref 52], (zsh ++ vs, mi, ml, (zmr g))) rfl ?_
  refine Wp.topi (y := 2) (h1) ?_
  refine Wp.run 5 (86, [(6, .int 11), (5, .int 0), (0, .ref 51), (1, .int 5), (2, .int 1), (3, .int x), (4, .int 2)], [.int (mi 51 1), .ref 51], (zsh ++ vs, (zup mi 52 2 11), ml, (zmr g))) rfl ?_
  refine Wp.topi (y := 2) (h1) ?_
  refine Wp.run 12 (105, [(6, .int 11), (5, .int 0), (0, .ref 51), (1, .int 5), (2, .int 1), (3, .int x), (4, .int 2)], [.int 3, .int x, .int 0, .int 11, .ref 51], (zsh ++ vs, (zup (zup mi 52 2 11) 51 1 3), ml, (zmr g))) rfl ?_
  refine Wp.call (as := [.ref 51, .int 11, .int 0, .int x, .int 3]) (rest := []) rfl rfl rfl rfl rfl (Nat.le_of_ble_eq_true rfl) (Nat.le_of_ble_eq_true rfl) rfl (by decide) (c_rn_5_5_1_2_2 (mi := (zup (zup mi 52 2 11) 51 1 3)) rfl h2 h3 h4) ?_
  rintro _ _ ⟨rfl, rfl⟩
  refine Wp.run 0 (108, [(6, .int 11), (5, .int 0), (0, .ref 51), (1, .int 5), (2, .int 1), (3, .int x), (4, .int 2)], [.int (((x * 3) + y) - v)], (zsh ++ vs, (zup (zup (zup (zup (zup (zup mi 52 2 11) 51 1 3) 52 3 30) 51 1 4) 52 4 10) 51 1 5), ml, (zmr g))) rfl ?_
  refine Wp.ret rfl rfl rfl ?_
  exact ⟨rfl, rfl⟩
theorem c_rn_5_2_2_1_1 {E : zEn} {vs : List (Nat × Nat)} {mi : Nat → Nat → Int32} {ml : Nat → Nat → Int64} {g : Nat → Nat → Option Nat} {x y v : Int32} (h1 : mi 51 1 = 2) (h2 : mi 51 2 = 5) (h3 : mi 51 3 = y) (h4 : mi 51 4 = v) : Wp E 6 pg_Performance_run 0 (lv_args 0 [.ref 51, .int 12, .int 0, .int x, .int 2]) [] (zsh ++ vs, mi, ml, (zmr g)) (fun r w' => r = some (.int ((((x * 3) + y) - v) * 2)) ∧ w' = (zsh ++ vs, (zup (zup (zup (zup (zup (zup mi 52 2 11) 51 1 3) 52 3 30) 51 1 4) 52 4 10) 51 1 5), ml, zmr g)) := by
  refine Wp.run 5 (130, [(0, .ref 51), (1, .int 12), (2, .int 0), (3, .int x), (4, .int 2)], [.int (mi 51 2), .ref 51], (zsh ++ vs, mi, ml, (zmr g))) rfl ?_
  refine Wp.topi (y := 5) (h2) ?_
  refine Wp.run 3 (134, [(0, .ref 51), (1, .int 12), (2, .int 0), (3, .int x), (4, .int 2)], [.int 2, .int x, .int 1, .int 5, .ref 51], (zsh ++ vs, mi, ml, (zmr g))) rfl ?_
  refine Wp.call (as := [.ref 51, .int 5, .int 1, .int x, .int 2]) (rest := []) rfl rfl rfl rfl rfl (Nat.le_of_ble_eq_true rfl) (Nat.le_of_ble_eq_true rfl) rfl (by decide) (c_pf_5_5_1_2_2 (mi := mi) (x := x) h1 h2 h3 h4) ?_
  rintro _ _ ⟨rfl, rfl⟩
  refine Wp.run 2 (139, [(0, .ref 51), (1, .int 12), (2, .int 0), (3, .int x), (4, .int 2)], [.int ((((x * 3) + y) - v) * 2)], (zsh ++ vs, (zup (zup (zup (zup (zup (zup mi 52 2 11) 51 1 3) 52 3 30) 51 1 4) 52 4 10) 51 1 5), ml, (zmr g))) rfl ?_
  refine Wp.ret rfl rfl rfl ?_
  exact ⟨rfl, rfl⟩
theorem c_pf_5_2_2_1_1 {E : zEn} {vs : List (Nat × Nat)} {mi : Nat → Nat → Int32} {ml : Nat → Nat → Int64} {g : Nat → Nat → Option Nat} {x y v : Int32} (h1 : mi 51 1 = 1) (h2 : mi 51 2 = 5) (h3 : mi 51 3 = y) (h4 : mi 51 4 = v) : Wp E 7 pg_Performance_perform 0 (lv_args 0 [.ref 51, .int 2, .int 2, .int x, .int 1]) [] (zsh ++ vs, mi, ml, (zmr g)) (fun r w' => r = some (.int ((((x * 3) + y) - v) * 2)) ∧ w' = (zsh ++ vs, (zup (zup (zup (zup (zup (zup (zup (zup mi 52 1 12) 51 1 2) 52 2 11) 51 1 3) 52 3 30) 51 1 4) 52 4 10) 51 1 5), ml, zmr g)) := by
  refine Wp.run 24 (15, [(6, .int 1), (5, .int 0), (0, .ref 51), (1, .int 2), (2, .int 2), (3, .int x), (4, .int 1)], [], (zsh ++ vs, mi, ml, (zmr g))) rfl ?_
  refine Wp.run 21 (65, [(6, .int 12), (5, .int 0), (0, .ref 51), (1, .int 2), (2, .int 2), (3, .int x), (4, .int 1)], [.int (mi 51 1)], (zsh ++ vs, mi, ml, (zmr g))) rfl ?_
  refine Wp.topi (y := 1) (h1) ?_
  refine Wp.run 6 (78, [(6, .int 12), (5, .int 0), (0, .ref 51), (1, .int 2), (2, .int 2), (3, .int x), (4, .int 1)], [.int (mi 51 1), .ref 52], (zsh ++ vs, mi, ml, (zmr g))) rfl ?_
  refine Wp.topi (y := 1) (h1) ?_
  refine Wp.run 5 (86, [(6, .int 12), (5, .int 0), (0, .ref 51), (1, .int 2), (2, .int 2), (3, .int x), (4, .int 1)], [.int (mi 51 1), .ref 51], (zsh ++ vs, (zup mi 52 1 12), ml, (zmr g))) rfl ?_
  refine Wp.topi (y := 1) (h1) ?_
  refine Wp.run 12 (105, [(6, .int 12), (5, .int 0), (0, .ref 51), (1, .int 2), (2, .int 2), (3, .int x), (4, .int 1)], [.int 2, .int x, .int 0, .int 12, .ref 51], (zsh ++ vs, (zup (zup mi 52 1 12) 51 1 2), ml, (zmr g))) rfl ?_
  refine Wp.call (as := [.ref 51, .int 12, .int 0, .int x, .int 2]) (rest := []) rfl rfl rfl rfl rfl (Nat.le_of_ble_eq_true rfl) (Nat.le_of_ble_eq_true rfl) rfl (by decide) (c_rn_5_2_2_1_1 (mi := (zup (zup mi 52 1 12) 51 1 2)) rfl h2 h3 h4) ?_
  rintro _ _ ⟨rfl, rfl⟩
  refine Wp.run 0 (108, [(6, .int 12), (5, .int 0), (0, .ref 51), (1, .int 2), (2, .int 2), (3, .int x), (4, .int 1)], [.int ((((x * 3) + y) - v) * 2)], (zsh ++ vs, (zup (zup (zup (zup (zup (zup (zup (zup mi 52 1 12) 51 1 2) 52 2 11) 51 1 3) 52 3 30) 51 1 4) 52 4 10) 51 1 5), ml, (zmr g))) rfl ?_
  refine Wp.ret rfl rfl rfl ?_
  exact ⟨rfl, rfl⟩
theorem c_rn_5_5_2_0_0 {E : zEn} {vs : List (Nat × Nat)} {mi : Nat → Nat → Int32} {ml : Nat → Nat → Int64} {g : Nat → Nat → Option Nat} {x y v : Int32} (h1 : mi 51 1 = 1) (h2 : mi 51 2 = 5) (h3 : mi 51 3 = y) (h4 : mi 51 4 = v) : Wp E 8 pg_Performance_run 0 (lv_args 0 [.ref 51, .int 60, .int 2, .int x, .int 1]) [] (zsh ++ vs, mi, ml, (zmr g)) (fun r w' => r = some (.int ((((((x - y) * 3) + y) - v) * 2))) ∧ w' = (zsh ++ vs, (zup (zup (zup (zup (zup (zup (zup (zup mi 52 1 12) 51 1 2) 52 2 11) 51 1 3) 52 3 30) 51 1 4) 52 4 10) 51 1 5), ml, zmr g)) := by
  refine Wp.run 8 (219, [(0, .ref 51), (1, .int 60), (2, .int 2), (3, .int x), (4, .int 1)], [.int (mi 51 3), .int x, .int 2, .int 2, .ref 51], (zsh ++ vs, mi, ml, (zmr g))) rfl ?_
  refine Wp.topi (y := y) (h3) ?_
  refine Wp.run 2 (222, [(0, .ref 51), (1, .int 60), (2, .int 2), (3, .int x), (4, .int 1)], [.int 1, .int (x - y), .int 2, .int 2, .ref 51], (zsh ++ vs, mi, ml, (zmr g))) rfl ?_
  refine Wp.call (as := [.ref 51, .int 2, .int 2, .int (x - y), .int 1]) (rest := []) rfl rfl rfl rfl rfl (Nat.le_of_ble_eq_true rfl) (Nat.le_of_ble_eq_true rfl) rfl (by decide) (c_pf_5_2_2_1_1 (mi := mi) (x := (x - y)) h1 h2 h3 h4) ?_
  rintro _ _ ⟨rfl, rfl⟩
  refine Wp.run 0 (225, [(0, .ref 51), (1, .int 60), (2, .int 2), (3, .int x), (4, .int 1)], [.int (((((x - y) * 3) + y) - v) * 2)], (zsh ++ vs, (zup (zup (zup (zup (zup (zup (zup (zup mi 52 1 12) 51 1 2) 52 2 11) 51 1 3) 52 3 30) 51 1 4) 52 4 10) 51 1 5), ml, (zmr g))) rfl ?_
  refine Wp.ret rfl rfl rfl ?_
  exact ⟨rfl, rfl⟩
theorem c_pf_5_5_2_0_0 {E : zEn} {vs : List (Nat × Nat)} {mi : Nat → Nat → Int32} {ml : Nat → Nat → Int64} {g : Nat → Nat → Option Nat} {x y v : Int32} (h1 : mi 51 1 = 0) (h2 : mi 51 2 = 5) (h3 : mi 51 3 = y) (h4 : mi 51 4 = v) : Wp E 9 pg_Performance_perform 0 (lv_args 0 [.ref 51, .int 5, .int 2, .int x, .int 0]) [] (zsh ++ vs, mi, ml, (zmr g)) (fun r w' => r = some (.int ((((((x - y) * 3) + y) - v) * 2))) ∧ w' = (zsh ++ vs, (zup (zup (zup (zup (zup (zup (zup (zup (zup (zup mi 52 0 60) 51 1 1) 52 1 12) 51 1 2) 52 2 11) 51 1 3) 52 3 30) 51 1 4) 52 4 10) 51 1 5), ml, zmr g)) := by
  refine Wp.run 24 (58, [(6, .int 0), (5, .int 5), (0, .ref 51), (1, .int 5), (2, .int 2), (3, .int x), (4, .int 0)], [.int 17, .ref 502], (zsh ++ vs, mi, ml, (zmr g))) rfl ?_
  refine Wp.run 4 (65, [(6, .int 60), (5, .int 5), (0, .ref 51), (1, .int 5), (2, .int 2), (3, .int x), (4, .int 0)], [.int (mi 51 1)], (zsh ++ vs, mi, ml, (zmr g))) rfl ?_
  refine Wp.topi (y := 0) (h1) ?_
  refine Wp.run 6 (78, [(6, .int 60), (5, .int 5), (0, .ref 51), (1, .int 5), (2, .int 2), (3, .int x), (4, .int 0)], [.int (mi 51 1), .ref 52], (zsh ++ vs, mi, ml, (zmr g))) rfl ?_
  refine Wp.topi (y := 0) (h1) ?_
  refine Wp.run 5 (86, [(6, .int 60), (5, .int 5), (0, .ref 51), (1, .int 5), (2, .int 2), (3, .int x), (4, .int 0)], [.int (mi 51 1), .ref 51], (zsh ++ vs, (zup mi 52 0 60), ml, (zmr g))) rfl ?_
  refine Wp.topi (y := 0) (h1) ?_
  refine Wp.run 12 (105, [(6, .int 60), (5, .int 5), (0, .ref 51), (1, .int 5), (2, .int 2), (3, .int x), (4, .int 0)], [.int 1, .int x, .int 2, .int 60, .ref 51], (zsh ++ vs, (zup (zup mi 52 0 60) 51 1 1), ml, (zmr g))) rfl ?_
  refine Wp.call (as := [.ref 51, .int 60, .int 2, .int x, .int 1]) (rest := []) rfl rfl rfl rfl rfl (Nat.le_of_ble_eq_true rfl) (Nat.le_of_ble_eq_true rfl) rfl (by decide) (c_rn_5_5_2_0_0 (mi := (zup (zup mi 52 0 60) 51 1 1)) rfl h2 h3 h4) ?_
  rintro _ _ ⟨rfl, rfl⟩
  refine Wp.run 0 (108, [(6, .int 60), (5, .int 5), (0, .ref 51), (1, .int 5), (2, .int 2), (3, .int x), (4, .int 0)], [.int (((((x - y) * 3) + y) - v) * 2)], (zsh ++ vs, (zup (zup (zup (zup (zup (zup (zup (zup (zup (zup mi 52 0 60) 51 1 1) 52 1 12) 51 1 2) 52 2 11) 51 1 3) 52 3 30) 51 1 4) 52 4 10) 51 1 5), ml, (zmr g))) rfl ?_
  refine Wp.ret rfl rfl rfl ?_
  exact ⟨rfl, rfl⟩
theorem c_rn_6_3_0_1_1 {E : zEn} {vs : List (Nat × Nat)} {mi : Nat → Nat → Int32} {ml : Nat → Nat → Int64} {g : Nat → Nat → Option Nat} {x y v : Int32} (h1 : mi 51 1 = 2) (h2 : mi 51 2 = 6) (h3 : mi 51 3 = y) (h4 : mi 51 4 = v) : Wp E 0 pg_Performance_run 0 (lv_args 0 [.ref 51, .int 10, .int 0, .int x, .int 2]) [] (zsh ++ vs, mi, ml, (zmr g)) (fun r w' => r = some (.int (x + y)) ∧ w' = (zsh ++ vs, mi, ml, zmr g)) := by
  refine Wp.run 5 (105, [(0, .ref 51), (1, .int 10), (2, .int 0), (3, .int x), (4, .int 2)], [.int (mi 51 3), .int x], (zsh ++ vs, mi, ml, (zmr g))) rfl ?_
  refine Wp.topi (y := y) (h3) ?_
  refine Wp.run 1 (106, [(0, .ref 51), (1, .int 10), (2, .int 0), (3, .int x), (4, .int 2)], [.int (x + y)], (zsh ++ vs, mi, ml, (zmr g))) rfl ?_
  refine Wp.ret rfl rfl rfl ?_
  exact ⟨rfl, rfl⟩
theorem c_pf_6_3_0_1_1 {E : zEn} {vs : List (Nat × Nat)} {mi : Nat → Nat → Int32} {ml : Nat → Nat → Int64} {g : Nat → Nat → Option Nat} {x y v : Int32} (h1 : mi 51 1 = 1) (h2 : mi 51 2 = 6) (h3 : mi 51 3 = y) (h4 : mi 51 4 = v) : Wp E 1 pg_Performance_perform 0 (lv_args 0 [.ref 51, .int 3, .int 0, .int x, .int 1]) [] (zsh ++ vs, mi, ml, (zmr g)) (fun r w' => r = some (.int (x + y)) ∧ w' = (zsh ++ vs, (zup (zup mi 52 1 10) 51 1 2), ml, zmr g)) := by
  refine Wp.run 24 (15, [(6, .int 1), (5, .int 0), (0, .ref 51), (1, .int 3), (2, .int 0), (3, .int x), (4, .int 1)], [], (zsh ++ vs, mi, ml, (zmr g))) rfl ?_
  refine Wp.run 21 (65, [(6, .int 10), (5, .int 0), (0, .ref 51), (1, .int 3), (2, .int 0), (3, .int x), (4, .int 1)], [.int (mi 51 1)], (zsh ++ vs, mi, ml, (zmr g))) rfl ?_
  refine Wp.topi (y := 1) (h1) ?_
  refine Wp.run 6 (78, [(6, .int 10), (5, .int 0), (0, .ref 51), (1, .int 3), (2, .int 0), (3, .int x), (4, .int 1)], [.int (mi 51 1), .ref 52], (zsh ++ vs, mi, ml, (zmr g))) rfl ?_
  refine Wp.topi (y := 1) (h1) ?_
  refine Wp.run 5 (86, [(6, .int 10), (5, .int 0), (0, .ref 51), (1, .int 3), (2, .int 0), (3, .int x), (4, .int 1)], [.int (mi 51 1), .ref 51], (zsh ++ vs, (zup mi 52 1 10), ml, (zmr g))) rfl ?_
  refine Wp.topi (y := 1) (h1) ?_
  refine Wp.run 12 (105, [(6, .int 10), (5, .int 0), (0, .ref 51), (1, .int 3), (2, .int 0), (3, .int x), (4, .int 1)], [.int 2, .int x, .int 0, .int 10, .ref 51], (zsh ++ vs, (zup (zup mi 52 1 10) 51 1 2), ml, (zmr g))) rfl ?_
  refine Wp.call (as := [.ref 51, .int 10, .int 0, .int x, .int 2]) (rest := []) rfl rfl rfl rfl rfl (Nat.le_of_ble_eq_true rfl) (Nat.le_of_ble_eq_true rfl) rfl (by decide) (c_rn_6_3_0_1_1 (mi := (zup (zup mi 52 1 10) 51 1 2)) rfl h2 h3 h4) ?_
  rintro _ _ ⟨rfl, rfl⟩
  refine Wp.run 0 (108, [(6, .int 10), (5, .int 0), (0, .ref 51), (1, .int 3), (2, .int 0), (3, .int x), (4, .int 1)], [.int (x + y)], (zsh ++ vs, (zup (zup mi 52 1 10) 51 1 2), ml, (zmr g))) rfl ?_
  refine Wp.ret rfl rfl rfl ?_
  exact ⟨rfl, rfl⟩
theorem c_rn_6_6_0_0_0 {E : zEn} {vs : List (Nat × Nat)} {mi : Nat → Nat → Int32} {ml : Nat → Nat → Int64} {g : Nat → Nat → Option Nat} {x y v : Int32} (h1 : mi 51 1 = 1) (h2 : mi 51 2 = 6) (h3 : mi 51 3 = y) (h4 : mi 51 4 = v) : Wp E 2 pg_Performance_run 0 (lv_args 0 [.ref 51, .int 71, .int 3, .int x, .int 1]) [] (zsh ++ vs, mi, ml, (zmr g)) (fun r w' => r = some (.int ((x + y) ^^^ v)) ∧ w' = (zsh ++ vs, (zup (zup mi 52 1 10) 51 1 2), ml, zmr g)) := by
  refine Wp.run 7 (252, [(0, .ref 51), (1, .int 71), (2, .int 3), (3, .int x), (4, .int 1)], [.int 1, .int x, .int 0, .int 3, .ref 51], (zsh ++ vs, mi, ml, (zmr g))) rfl ?_
  refine Wp.call (as := [.ref 51, .int 3, .int 0, .int x, .int 1]) (rest := []) rfl rfl rfl rfl rfl (Nat.le_of_ble_eq_true rfl) (Nat.le_of_ble_eq_true rfl) rfl (by decide) (c_pf_6_3_0_1_1 (mi := mi) (x := x) h1 h2 h3 h4) ?_
  rintro _ _ ⟨rfl, rfl⟩
  refine Wp.run 2 (259, [(0, .ref 51), (1, .int 71), (2, .int 3), (3, .int x), (4, .int 1)], [.int (mi 51 4), .int (x + y)], (zsh ++ vs, (zup (zup mi 52 1 10) 51 1 2), ml, (zmr g))) rfl ?_
  refine Wp.topi (y := v) (h4) ?_
  refine Wp.run 1 (260, [(0, .ref 51), (1, .int 71), (2, .int 3), (3, .int x), (4, .int 1)], [.int ((x + y) ^^^ v)], (zsh ++ vs, (zup (zup mi 52 1 10) 51 1 2), ml, (zmr g))) rfl ?_
  refine Wp.ret rfl rfl rfl ?_
  exact ⟨rfl, rfl⟩
theorem c_pf_6_6_0_0_0 {E : zEn} {vs : List (Nat × Nat)} {mi : Nat → Nat → Int32} {ml : Nat → Nat → Int64} {g : Nat → Nat → Option Nat} {x y v : Int32} (h1 : mi 51 1 = 0) (h2 : mi 51 2 = 6) (h3 : mi 51 3 = y) (h4 : mi 51 4 = v) : Wp E 3 pg_Performance_perform 0 (lv_args 0 [.ref 51, .int 6, .int 0, .int x, .int 0]) [] (zsh ++ vs, mi, ml, (zmr g)) (fun r w' => r = some (.int ((x + y) ^^^ v)) ∧ w' = (zsh ++ vs, (zup (zup (zup (zup mi 52 0 71) 51 1 1) 52 1 10) 51 1 2), ml, zmr g)) := by
  refine Wp.run 24 (58, [(6, .int 0), (5, .int 6), (0, .ref 51), (1, .int 6), (2, .int 0), (3, .int x), (4, .int 0)], [.int 18, .ref 502], (zsh ++ vs, mi, ml, (zmr g))) rfl ?_
  refine Wp.run 4 (65, [(6, .int 71), (5, .int 6), (0, .ref 51), (1, .int 6), (2, .int 0), (3, .int x), (4, .int 0)], [.int (mi 51 1)], (zsh ++ vs, mi, ml, (zmr g))) rfl ?_
  refine Wp.topi (y := 0) (h1) ?_
  refine Wp.run 6 (78, [(6, .int 71), (5, .int 6), (0, .ref 51), (1, .int 6), (2, .int 0), (3, .int x), (4, .int 0)], [.int (mi 51 1), .ref 52], (zsh ++ vs, mi, ml, (zmr g))) rfl ?_
  refine Wp.topi (y := 0) (h1) ?_
  refine Wp.run 5 (86, [(6, .int 71), (5, .int 6), (0, .ref 51), (1, .int 6), (2, .int 0), (3, .int x), (4, .int 0)], [.int (mi 51 1), .ref 51], (zsh ++ vs, (zup mi 52 0 71), ml, (zmr g))) rfl ?_
  refine Wp.topi (y := 0) (h1) ?_
  refine Wp.run 12 (105, [(6, .int 71), (5, .int 6), (0, .ref 51), (1, .int 6), (2, .int 0), (3, .int x), (4, .int 0)], [.int 1, .int x, .int 3, .int 71, .ref 51], (zsh ++ vs, (zup (zup mi 52 0 71) 51 1 1), ml, (zmr g))) rfl ?_
  refine Wp.call (as := [.ref 51, .int 71, .int 3, .int x, .int 1]) (rest := []) rfl rfl rfl rfl rfl (Nat.le_of_ble_eq_true rfl) (Nat.le_of_ble_eq_true rfl) rfl (by decide) (c_rn_6_6_0_0_0 (mi := (zup (zup mi 52 0 71) 51 1 1)) rfl h2 h3 h4) ?_
  rintro _ _ ⟨rfl, rfl⟩
  refine Wp.run 0 (108, [(6, .int 71), (5, .int 6), (0, .ref 51), (1, .int 6), (2, .int 0), (3, .int x), (4, .int 0)], [.int ((x + y) ^^^ v)], (zsh ++ vs, (zup (zup (zup (zup mi 52 0 71) 51 1 1) 52 1 10) 51 1 2), ml, (zmr g))) rfl ?_
  refine Wp.ret rfl rfl rfl ?_
  exact ⟨rfl, rfl⟩
theorem c_rn_6_3_0_3_3 {E : zEn} {vs : List (Nat × Nat)} {mi : Nat → Nat → Int32} {ml : Nat → Nat → Int64} {g : Nat → Nat → Option Nat} {x y v : Int32} (h1 : mi 51 1 = 4) (h2 : mi 51 2 = 6) (h3 : mi 51 3 = y) (h4 : mi 51 4 = v) : Wp E 0 pg_Performance_run 0 (lv_args 0 [.ref 51, .int 10, .int 0, .int x, .int 4]) [] (zsh ++ vs, mi, ml, (zmr g)) (fun r w' => r = some (.int (x + y)) ∧ w' = (zsh ++ vs, mi, ml, zmr g)) := by
  refine Wp.run 5 (105, [(0, .ref 51), (1, .int 10), (2, .int 0), (3, .int x), (4, .int 4)], [.int (mi 51 3), .int x], (zsh ++ vs, mi, ml, (zmr g))) rfl ?_
  refine Wp.topi (y := y) (h3) ?_
  refine Wp.run 1 (106, [(0, .ref 51), (1, .int 10), (2, .int 0), (3, .int x), (4, .int 4)], [.int (x + y)], (zsh ++ vs, mi, ml, (zmr g))) rfl ?_
  refine Wp.ret rfl rfl rfl ?_
  exact ⟨rfl, rfl⟩
theorem c_pf_6_3_0_3_3 {E : zEn} {vs : List (Nat × Nat)} {mi : Nat → Nat → Int32} {ml : Nat → Nat → Int64} {g : Nat → Nat → Option Nat} {x y v : Int32} (h1 : mi 51 1 = 3) (h2 : mi 51 2 = 6) (h3 : mi 51 3 = y) (h4 : mi 51 4 = v) : Wp E 1 pg_Performance_perform 0 (lv_args 0 [.ref 51, .int 3, .int 0, .int x, .int 3]) [] (zsh ++ vs, mi, ml, (zmr g)) (fun r w' => r = some (.int (x + y)) ∧ w' = (zsh ++ vs, (zup (zup mi 52 3 10) 51 1 4), ml, zmr g)) := by
  refine Wp.run 24 (15, [(6, .int 1), (5, .int 0), (0, .ref 51), (1, .int 3), (2, .int 0), (3, .int x), (4, .int 3)], [], (zsh ++ vs, mi, ml, (zmr g))) rfl ?_
  refine Wp.run 21 (65, [(6, .int 10), (5, .int 0), (0, .ref 51), (1, .int 3), (2, .int 0), (3, .int x), (4, .int 3)], [.int (mi 51 1)], (zsh ++ vs, mi, ml, (zmr g))) rfl ?_
  refine Wp.topi (y := 3) (h1) ?_
  refine Wp.run 6 (78, [(6, .int 10), (5, .int 0), (0, .ref 51), (1, .int 3), (2, .int 0), (3, .int x), (4, .int 3)], [.int (mi 51 1), .ref 52], (zsh ++ vs, mi, ml, (zmr g))) rfl ?_
  refine Wp.topi (y := 3) (h1) ?_
  refine Wp.run 5 (86, [(6, .int 10), (5, .int 0), (0, .ref 51), (1, .int 3), (2, .int 0), (3, .int x), (4, .int 3)], [.int (mi 51 1), .ref 51], (zsh ++ vs, (zup mi 52 3 10), ml, (zmr g))) rfl ?_
  refine Wp.topi (y := 3) (h1) ?_
  refine Wp.run 12 (105, [(6, .int 10), (5, .int 0), (0, .ref 51), (1, .int 3), (2, .int 0), (3, .int x), (4, .int 3)], [.int 4, .int x, .int 0, .int 10, .ref 51], (zsh ++ vs, (zup (zup mi 52 3 10) 51 1 4), ml, (zmr g))) rfl ?_
  refine Wp.call (as := [.ref 51, .int 10, .int 0, .int x, .int 4]) (rest := []) rfl rfl rfl rfl rfl (Nat.le_of_ble_eq_true rfl) (Nat.le_of_ble_eq_true rfl) rfl (by decide) (c_rn_6_3_0_3_3 (mi := (zup (zup mi 52 3 10) 51 1 4)) rfl h2 h3 h4) ?_
  rintro _ _ ⟨rfl, rfl⟩
  refine Wp.run 0 (108, [(6, .int 10), (5, .int 0), (0, .ref 51), (1, .int 3), (2, .int 0), (3, .int x), (4, .int 3)], [.int (x + y)], (zsh ++ vs, (zup (zup mi 52 3 10) 51 1 4), ml, (zmr g))) rfl ?_
  refine Wp.ret rfl rfl rfl ?_
  exact ⟨rfl, rfl⟩
theorem c_rn_6_6_0_2_2 {E : zEn} {vs : List (Nat × Nat)} {mi : Nat → Nat → Int32} {ml : Nat → Nat → Int64} {g : Nat → Nat → Option Nat} {x y v : Int32} (h1 : mi 51 1 = 3) (h2 : mi 51 2 = 6) (h3 : mi 51 3 = y) (h4 : mi 51 4 = v) : Wp E 2 pg_Performance_run 0 (lv_args 0 [.ref 51, .int 71, .int 3, .int x, .int 3]) [] (zsh ++ vs, mi, ml, (zmr g)) (fun r w' => r = some (.int ((x + y) ^^^ v)) ∧ w' = (zsh ++ vs, (zup (zup mi 52 3 10) 51 1 4), ml, zmr g)) := by
  refine Wp.run 7 (252, [(0, .ref 51), (1, .int 71), (2, .int 3), (3, .int x), (4, .int 3)], [.int 3, .int x, .int 0, .int 3, .ref 51], (zsh ++ vs, mi, ml, (zmr g))) rfl ?_
  refine Wp.call (as := [.ref 51, .int 3, .int 0, .int x, .int 3]) (rest := []) rfl rfl rfl rfl rfl (Nat.le_of_ble_eq_true rfl) (Nat.le_of_ble_eq_true rfl) rfl (by decide) (c_pf_6_3_0_3_3 (mi := mi) (x := x) h1 h2 h3 h4) ?_
  rintro _ _ ⟨rfl, rfl⟩
  refine Wp.run 2 (259, [(0, .ref 51), (1, .int 71), (2, .int 3), (3, .int x), (4, .int 3)], [.int (mi 51 4), .int (x + y)], (zsh ++ vs, (zup (zup mi 52 3 10) 51 1 4), ml, (zmr g))) rfl ?_
  refine Wp.topi (y := v) (h4) ?_
  refine Wp.run 1 (260, [(0, .ref 51), (1, .int 71), (2, .int 3), (3, .int x), (4, .int 3)], [.int ((x + y) ^^^ v)], (zsh ++ vs, (zup (zup mi 52 3 10) 51 1 4), ml, (zmr g))) rfl ?_
  refine Wp.ret rfl rfl rfl ?_
  exact ⟨rfl, rfl⟩
theorem c_pf_6_6_0_2_2 {E : zEn} {vs : List (Nat × Nat)} {mi : Nat → Nat → Int32} {ml : Nat → Nat → Int64} {g : Nat → Nat → Option Nat} {x y v : Int32} (h1 : mi 51 1 = 2) (h2 : mi 51 2 = 6) (h3 : mi 51 3 = y) (h4 : mi 51 4 = v) : Wp E 3 pg_Performance_perform 0 (lv_args 0 [.ref 51, .int 6, .int 0, .int x, .int 2]) [] (zsh ++ vs, mi, ml, (zmr g)) (fun r w' => r = some (.int ((x + y) ^^^ v)) ∧ w' = (zsh ++ vs, (zup (zup (zup (zup mi 52 2 71) 51 1 3) 52 3 10) 51 1 4), ml, zmr g)) := by
  refine Wp.run 24 (58, [(6, .int 0), (5, .int 6), (0, .ref 51), (1, .int 6), (2, .int 0), (3, .int x), (4, .int 2)], [.int 18, .ref 502], (zsh ++ vs, mi, ml, (zmr g))) rfl ?_
  refine Wp.run 4 (65, [(6, .int 71), (5, .int 6), (0, .ref 51), (1, .int 6), (2, .int 0), (3, .int x), (4, .int 2)], [.int (mi 51 1)], (zsh ++ vs, mi, ml, (zmr g))) rfl ?_
  refine Wp.topi (y := 2) (h1) ?_
  refine Wp.run 6 (78, [(6, .int 71), (5, .int 6), (0, .ref 51), (1, .int 6), (2, .int 0), (3, .int x), (4, .int 2)], [.int (mi 51 1), .ref 52], (zsh ++ vs, mi, ml, (zmr g))) rfl ?_
  refine Wp.topi (y := 2) (h1) ?_
  refine Wp.run 5 (86, [(6, .int 71), (5, .int 6), (0, .ref 51), (1, .int 6), (2, .int 0), (3, .int x), (4, .int 2)], [.int (mi 51 1), .ref 51], (zsh ++ vs, (zup mi 52 2 71), ml, (zmr g))) rfl ?_
  refine Wp.topi (y := 2) (h1) ?_
  refine Wp.run 12 (105, [(6, .int 71), (5, .int 6), (0, .ref 51), (1, .int 6), (2, .int 0), (3, .int x), (4, .int 2)], [.int 3, .int x, .int 3, .int 71, .ref 51], (zsh ++ vs, (zup (zup mi 52 2 71) 51 1 3), ml, (zmr g))) rfl ?_
  refine Wp.call (as := [.ref 51, .int 71, .int 3, .int x, .int 3]) (rest := []) rfl rfl rfl rfl rfl (Nat.le_of_ble_eq_true rfl) (Nat.le_of_ble_eq_true rfl) rfl (by decide) (c_rn_6_6_0_2_2 (mi := (zup (zup mi 52 2 71) 51 1 3)) rfl h2 h3 h4) ?_
  rintro _ _ ⟨rfl, rfl⟩
  refine Wp.run 0 (108, [(6, .int 71), (5, .int 6), (0, .ref 51), (1, .int 6), (2, .int 0), (3, .int x), (4, .int 2)], [.int ((x + y) ^^^ v)], (zsh ++ vs, (zup (zup (zup (zup mi 52 2 71) 51 1 3) 52 3 10) 51 1 4), ml, (zmr g))) rfl ?_
  refine Wp.ret rfl rfl rfl ?_
  exact ⟨rfl, rfl⟩
theorem c_rn_6_3_1_1_1 {E : zEn} {vs : List (Nat × Nat)} {mi : Nat → Nat → Int32} {ml : Nat → Nat → Int64} {g : Nat → Nat → Option Nat} {x y v : Int32} (h1 : mi 51 1 = 2) (h2 : mi 51 2 = 6) (h3 : mi 51 3 = y) (h4 : mi 51 4 = v) : Wp E 4 pg_Performance_run 0 (lv_args 0 [.ref 51, .int 11, .int 0, .int x, .int 2]) [] (zsh ++ vs, mi, ml, (zmr g)) (fun r w' => r = some (.int (((x + y) ^^^ v) - v)) ∧ w' = (zsh ++ vs, (zup (zup (zup (zup mi 52 2 71) 51 1 3) 52 3 10) 51 1 4), ml, zmr g)) := by
  refine Wp.run 5 (112, [(0, .ref 51), (1, .int 11), (2, .int 0), (3, .int x), (4, .int 2)], [.int (mi 51 2), .ref 51], (zsh ++ vs, mi, ml, (zmr g))) rfl ?_
  refine Wp.topi (y := 6) (h2) ?_
  refine Wp.run 3 (116, [(0, .ref 51), (1, .int 11), (2, .int 0), (3, .int x), (4, .int 2)], [.int 2, .int x, .int 0, .int 6, .ref 51], (zsh ++ vs, mi, ml, (zmr g))) rfl ?_
  refine Wp.call (as := [.ref 51, .int 6, .int 0, .int x, .int 2]) (rest := []) rfl rfl rfl rfl rfl (Nat.le_of_ble_eq_true rfl) (Nat.le_of_ble_eq_true rfl) rfl (by decide) (c_pf_6_6_0_2_2 (mi := mi) (x := x) h1 h2 h3 h4) ?_
  rintro _ _ ⟨rfl, rfl⟩
  refine Wp.run 2 (123, [(0, .ref 51), (1, .int 11), (2, .int 0), (3, .int x), (4, .int 2)], [.int (mi 51 4), .int ((x + y) ^^^ v)], (zsh ++ vs, (zup (zup (zup (zup mi 52 2 71) 51 1 3) 52 3 10) 51 1 4), ml, (zmr g))) rfl ?_
  refine Wp.topi (y := v) (h4) ?_
  refine Wp.run 1 (124, [(0, .ref 51), (1, .int 11), (2, .int 0), (3, .int x), (4, .int 2)], [.int (((x + y) ^^^ v) - v)], (zsh ++ vs, (zup (zup (zup (zup mi 52 2 71) 51 1 3) 52 3 10) 51 1 4), ml, (zmr g))) rfl ?_
  refine Wp.ret rfl rfl rfl ?_
  exact ⟨rfl, rfl⟩
theorem c_pf_6_3_1_1_1 {E : zEn} {vs : List (Nat × Nat)} {mi : Nat → Nat → Int32} {ml : Nat → Nat → Int64} {g : Nat → Nat → Option Nat} {x y v : Int32} (h1 : mi 51 1 = 1) (h2 : mi 51 2 = 6) (h3 : mi 51 3 = y) (h4 : mi 51 4 = v) : Wp E 5 pg_Performance_perform 0 (lv_args 0 [.ref 51, .int 3, .int 1, .int x, .int 1]) [] (zsh ++ vs, mi, ml, (zmr g)) (fun r w' => r = some (.int (((x + y) ^^^ v) - v)) ∧ w' = (zsh ++ vs, (zup (zup (zup (zup (zup (zup mi 52 1 11) 51 1 2) 52 2 71) 51 1 3) 52 3 10) 51 1 4), ml, zmr g)) := by
  refine Wp.run 24 (15, [(6, .int 1), (5, .int 0), (0, .ref 51), (1, .int 3), (2, .int 1), (3, .int x), (4, .int 1)], [], (zsh ++ vs, mi, ml, (zmr g))) rfl ?_
  refine Wp.run 21 (65, [(6, .int 11), (5, .int 0), (0, .ref 51), (1, .int 3), (2, .int 1), (3, .int x), (4, .int 1)], [.int (mi 51 1)], (zsh ++ vs, mi, ml, (zmr g))) rfl ?_
  refine Wp.topi (y := 1) (h1) ?_
  refine Wp.run 6 (78, [(6, .int 11), (5, .int 0), (0, .ref 51), (1, .int 3), (2, .int 1), (3, .int x), (4, .int 1)], [.int (mi 51 1), .ref 52], (zsh ++ vs, mi, ml, (zmr g))) rfl ?_
  refine Wp.topi (y := 1) (h1) ?_
  refine Wp.run 5 (86, [(6, .int 11), (5, .int 0), (0, .ref 51), (1, .int 3), (2, .int 1), (3, .int x), (4, .int 1)], [.int (mi 51 1), .ref 51], (zsh ++ vs, (zup mi 52 1 11), ml, (zmr g))) rfl ?_
  refine Wp.topi (y := 1) (h1) ?_
  refine Wp.run 12 (105, [(6, .int 11), (5, .int 0), (0, .ref 51), (1, .int 3), (2, .int 1), (3, .int x), (4, .int 1)], [.int 2, .int x, .int 0, .int 11, .ref 51], (zsh ++ vs, (zup (zup mi 52 1 11) 51 1 2), ml, (zmr g))) rfl ?_
  refine Wp.call (as := [.ref 51, .int 11, .int 0, .int x, .int 2]) (rest := []) rfl rfl rfl rfl rfl (Nat.le_of_ble_eq_true rfl) (Nat.le_of_ble_eq_true rfl) rfl (by decide) (c_rn_6_3_1_1_1 (mi := (zup (zup mi 52 1 11) 51 1 2)) rfl h2 h3 h4) ?_
  rintro _ _ ⟨rfl, rfl⟩
  refine Wp.run 0 (108, [(6, .int 11), (5, .int 0), (0, .ref 51), (1, .int 3), (2, .int 1), (3, .int x), (4, .int 1)], [.int (((x + y) ^^^ v) - v)], (zsh ++ vs, (zup (zup (zup (zup (zup (zup mi 52 1 11) 51 1 2) 52 2 71) 51 1 3) 52 3 10) 51 1 4), ml, (zmr g))) rfl ?_
  refine Wp.ret rfl rfl rfl ?_
  exact ⟨rfl, rfl⟩
theorem c_rn_6_3_0_4_1 {E : zEn} {vs : List (Nat × Nat)} {mi : Nat → Nat → Int32} {ml : Nat → Nat → Int64} {g : Nat → Nat → Option Nat} {x y v : Int32} (h1 : mi 51 1 = 5) (h2 : mi 51 2 = 6) (h3 : mi 51 3 = y) (h4 : mi 51 4 = v) : Wp E 0 pg_Performance_run 0 (lv_args 0 [.ref 51, .int 10, .int 0, .int x, .int 2]) [] (zsh ++ vs, mi, ml, (zmr g)) (fun r w' => r = some (.int (x + y)) ∧ w' = (zsh ++ vs, mi, ml, zmr g)) := by
  refine Wp.run 5 (105, [(0, .ref 51), (1, .int 10), (2, .int 0), (3, .int x), (4, .int 2)], [.int (mi 51 3), .int x], (zsh ++ vs, mi, ml, (zmr g))) rfl ?_
  refine Wp.topi (y := y) (h3) ?_
  refine Wp.run 1 (106, [(0, .ref 51), (1, .int 10), (2, .int 0), (3, .int x), (4, .int 2)], [.int (x + y)], (zsh ++ vs, mi, ml, (zmr g))) rfl ?_
  refine Wp.ret rfl rfl rfl ?_
  exact ⟨rfl, rfl⟩
theorem c_pf_6_3_0_4_1 {E : zEn} {vs : List (Nat × Nat)} {mi : Nat → Nat → Int32} {ml : Nat → Nat → Int64} {g : Nat → Nat → Option Nat} {x y v : Int32} (h1 : mi 51 1 = 4) (h2 : mi 51 2 = 6) (h3 : mi 51 3 = y) (h4 : mi 51 4 = v) : Wp E 1 pg_Performance_perform 0 (lv_args 0 [.ref 51, .int 3, .int 0, .int x, .int 1]) [] (zsh ++ vs, mi, ml, (zmr g)) (fun r w' => r = some (.int (x + y)) ∧ w' = (zsh ++ vs, (zup (zup mi 52 4 10) 51 1 5), ml, zmr g)) := by
  refine Wp.run 24 (15, [(6, .int 1), (5, .int 0), (0, .ref 51), (1, .int 3), (2, .int 0), (3, .int x), (4, .int 1)], [], (zsh ++ vs, mi, ml, (zmr g))) rfl ?_
  refine Wp.run 21 (65, [(6, .int 10), (5, .int 0), (0, .ref 51), (1, .int 3), (2, .int 0), (3, .int x), (4, .int 1)], [.int (mi 51 1)], (zsh ++ vs, mi, ml, (zmr g))) rfl ?_
  refine Wp.topi (y := 4) (h1) ?_
  refine Wp.run 6 (78, [(6, .int 10), (5, .int 0), (0, .ref 51), (1, .int 3), (2, .int 0), (3, .int x), (4, .int 1)], [.int (mi 51 1), .ref 52], (zsh ++ vs, mi, ml, (zmr g))) rfl ?_
  refine Wp.topi (y := 4) (h1) ?_
  refine Wp.run 5 (86, [(6, .int 10), (5, .int 0), (0, .ref 51), (1, .int 3), (2, .int 0), (3, .int x), (4, .int 1)], [.int (mi 51 1), .ref 51], (zsh ++ vs, (zup mi 52 4 10), ml, (zmr g))) rfl ?_
  refine Wp.topi (y := 4) (h1) ?_
  refine Wp.run 12 (105, [(6, .int 10), (5, .int 0), (0, .ref 51), (1, .int 3), (2, .int 0), (3, .int x), (4, .int 1)], [.int 2, .int x, .int 0, .int 10, .ref 51], (zsh ++ vs, (zup (zup mi 52 4 10) 51 1 5), ml, (zmr g))) rfl ?_
  refine Wp.call (as := [.ref 51, .int 10, .int 0, .int x, .int 2]) (rest := []) rfl rfl rfl rfl rfl (Nat.le_of_ble_eq_true rfl) (Nat.le_of_ble_eq_true rfl) rfl (by decide) (c_rn_6_3_0_4_1 (mi := (zup (zup mi 52 4 10) 51 1 5)) rfl h2 h3 h4) ?_
  rintro _ _ ⟨rfl, rfl⟩
  refine Wp.run 0 (108, [(6, .int 10), (5, .int 0), (0, .ref 51), (1, .int 3), (2, .int 0), (3, .int x), (4, .int 1)], [.int (x + y)], (zsh ++ vs, (zup (zup mi 52 4 10) 51 1 5), ml, (zmr g))) rfl ?_
  refine Wp.ret rfl rfl rfl ?_
  exact ⟨rfl, rfl⟩
theorem c_rn_6_6_1_0_0 {E : zEn} {vs : List (Nat × Nat)} {mi : Nat → Nat → Int32} {ml : Nat → Nat → Int64} {g : Nat → Nat → Option Nat} {x y v : Int32} (h1 : mi 51 1 = 1) (h2 : mi 51 2 = 6) (h3 : mi 51 3 = y) (h4 : mi 51 4 = v) : Wp E 6 pg_Performance_run 0 (lv_args 0 [.ref 51, .int 70, .int 3, .int x, .int 1]) [] (zsh ++ vs, mi, ml, (zmr g)) (fun r w' => r = some (.int ((((x + y) ^^^ v) - v) + (2 + y))) ∧ w' = (zsh ++ vs, (zup (zup (zup (zup (zup (zup (zup (zup mi 52 1 11) 51 1 2) 52 2 71) 51 1 3) 52 3 10) 51 1 4) 52 4 10) 51 1 5), ml, zmr g)) := by
  refine Wp.run 7 (232, [(0, .ref 51), (1, .int 70), (2, .int 3), (3, .int x), (4, .int 1)], [.int 1, .int x, .int 1, .int 3, .ref 51], (zsh ++ vs, mi, ml, (zmr g))) rfl ?_
  refine Wp.call (as := [.ref 51, .int 3, .int 1, .int x, .int 1]) (rest := []) rfl rfl rfl rfl rfl (Nat.le_of_ble_eq_true rfl) (Nat.le_of_ble_eq_true rfl) rfl (by decide) (c_pf_6_3_1_1_1 (mi := mi) (x := x) h1 h2 h3 h4) ?_
  rintro _ _ ⟨rfl, rfl⟩
  refine Wp.run 5 (241, [(0, .ref 51), (1, .int 70), (2, .int 3), (3, .int x), (4, .int 1)], [.int 1, .int 2, .int 0, .int 3, .ref 51, .int (((x + y) ^^^ v) - v)], (zsh ++ vs, (zup (zup (zup (zup (zup (zup mi 52 1 11) 51 1 2) 52 2 71) 51 1 3) 52 3 10) 51 1 4), ml, (zmr g))) rfl ?_
  refine Wp.call (as := [.ref 51, .int 3, .int 0, .int 2, .int 1]) (rest := [.int (((x + y) ^^^ v) - v)]) rfl rfl rfl rfl rfl (Nat.le_of_ble_eq_true rfl) (Nat.le_of_ble_eq_true rfl) rfl (by decide) (c_pf_6_3_0_4_1 (mi := (zup (zup (zup (zup (zup (zup mi 52 1 11) 51 1 2) 52 2 71) 51 1 3) 52 3 10) 51 1 4)) (x := 2) rfl h2 h3 h4) ?_
  rintro _ _ ⟨rfl, rfl⟩
  refine Wp.run 1 (245, [(0, .ref 51), (1, .int 70), (2, .int 3), (3, .int x), (4, .int 1)], [.int ((((x + y) ^^^ v) - v) + (2 + y))], (zsh ++ vs, (zup (zup (zup (zup (zup (zup (zup (zup mi 52 1 11) 51 1 2) 52 2 71) 51 1 3) 52 3 10) 51 1 4) 52 4 10) 51 1 5), ml, (zmr g))) rfl ?_
  refine Wp.ret rfl rfl rfl ?_
  exact ⟨rfl, rfl⟩
theorem c_pf_6_6_1_0_0 {E : zEn} {vs : List (Nat × Nat)} {mi : Nat → Nat → Int32} {ml : Nat → Nat → Int64} {g : Nat → Nat → Option Nat} {x y v : Int32} (h1 : mi 51 1 = 0) (h2 : mi 51 2 = 6) (h3 : mi 51 3 = y) (h4 : mi 51 4 = v) : Wp E 7 pg_Performance_perform 0 (lv_args 0 [.ref 51, .int 6, .int 1, .int x, .int 0]) [] (zsh ++ vs, mi, ml, (zmr g)) (fun r w' => r = some (.int ((((x + y) ^^^ v) - v) + (2 + y))) ∧ w' = (zsh ++ vs, (zup (zup (zup (zup (zup (zup (zup (zup (zup (zup mi 52 0 70) 51 1 1) 52 1 11) 51 1 2) 52 2 71) 51 1 3) 52 3 10) 51 1 4) 52 4 10) 51 1 5), ml, zmr g)) := by
  refine Wp.run 24 (58, [(6, .int 0), (5, .int 6), (0, .ref 51), (1, .int 6), (2, .int 1), (3, .int x), (4, .int 0)], [.int 19, .ref 502], (zsh ++ vs, mi, ml, (zmr g))) rfl ?_
  refine Wp.run 4 (65, [(6, .int 70), (5, .int 6), (0, .ref 51), (1, .int 6), (2, .int 1), (3, .int x), (4, .int 0)], [.int (mi 51 1)], (zsh ++ vs, mi, ml, (zmr g))) rfl ?_
  refine Wp.topi (y := 0) (h1) ?_
  refine Wp.run 6 (78, [(6, .int 70), (5, .int 6), (0, .ref 51), (1, .int 6), (2, .int 1), (3, .int x), (4, .int 0)], [.int (mi 51 1), .ref 52], (zsh ++ vs, mi, ml, (zmr g))) rfl ?_
  refine Wp.topi (y := 0) (h1) ?_
  refine Wp.run 5 (86, [(6, .int 70), (5, .int 6), (0, .ref 51), (1, .int 6), (2, .int 1), (3, .int x), (4, .int 0)], [.int (mi 51 1), .ref 51], (zsh ++ vs, (zup mi 52 0 70), ml, (zmr g))) rfl ?_
  refine Wp.topi (y := 0) (h1) ?_
  refine Wp.run 12 (105, [(6, .int 70), (5, .int 6), (0, .ref 51), (1, .int 6), (2, .int 1), (3, .int x), (4, .int 0)], [.int 1, .int x, .int 3, .int 70, .ref 51], (zsh ++ vs, (zup (zup mi 52 0 70) 51 1 1), ml, (zmr g))) rfl ?_
  refine Wp.call (as := [.ref 51, .int 70, .int 3, .int x, .int 1]) (rest := []) rfl rfl rfl rfl rfl (Nat.le_of_ble_eq_true rfl) (Nat.le_of_ble_eq_true rfl) rfl (by decide) (c_rn_6_6_1_0_0 (mi := (zup (zup mi 52 0 70) 51 1 1)) rfl h2 h3 h4) ?_
  rintro _ _ ⟨rfl, rfl⟩
  refine Wp.run 0 (108, [(6, .int 70), (5, .int 6), (0, .ref 51), (1, .int 6), (2, .int 1), (3, .int x), (4, .int 0)], [.int ((((x + y) ^^^ v) - v) + (2 + y))], (zsh ++ vs, (zup (zup (zup (zup (zup (zup (zup (zup (zup (zup mi 52 0 70) 51 1 1) 52 1 11) 51 1 2) 52 2 71) 51 1 3) 52 3 10) 51 1 4) 52 4 10) 51 1 5), ml, (zmr g))) rfl ?_
  refine Wp.ret rfl rfl rfl ?_
  exact ⟨rfl, rfl⟩
theorem c_rn_6_3_0_5_5 {E : zEn} {vs : List (Nat × Nat)} {mi : Nat → Nat → Int32} {ml : Nat → Nat → Int64} {g : Nat → Nat → Option Nat} {x y v : Int32} (h1 : mi 51 1 = 6) (h2 : mi 51 2 = 6) (h3 : mi 51 3 = y) (h4 : mi 51 4 = v) : Wp E 0 pg_Performance_run 0 (lv_args 0 [.ref 51, .int 10, .int 0, .int x, .int 6]) [] (zsh ++ vs, mi, ml, (zmr g)) (fun r w' => r = some (.int (x + y)) ∧ w' = (zsh ++ vs, mi, ml, zmr g)) := by
  refine Wp.run 5 (105, [(0, .ref 51), (1, .int 10), (2, .int 0), (3, .int x), (4, .int 6)], [.int (mi 51 3), .int x], (zsh ++ vs, mi, ml, (zmr g))) rfl ?_
  refine Wp.topi (y := y) (h3) ?_
  refine Wp.run 1 (106, [(0, .ref 51), (1, .int 10), (2, .int 0), (3, .int x), (4, .int 6)], [.int (x + y)], (zsh ++ vs, mi, ml, (zmr g))) rfl ?_
  refine Wp.ret rfl rfl rfl ?_
  exact ⟨rfl, rfl⟩
theorem c_pf_6_3_0_5_5 {E : zEn} {vs : List (Nat × Nat)} {mi : Nat → Nat → Int32} {ml : Nat → Nat → Int64} {g : Nat → Nat → Option Nat} {x y v : Int32} (h1 : mi 51 1 = 5) (h2 : mi 51 2 = 6) (h3 : mi 51 3 = y) (h4 : mi 51 4 = v) : Wp E 1 pg_Performance_perform 0 (lv_args 0 [.ref 51, .int 3, .int 0, .int x, .int 5]) [] (zsh ++ vs, mi, ml, (zmr g)) (fun r w' => r = some (.int (x + y)) ∧ w' = (zsh ++ vs, (zup (zup mi 52 5 10) 51 1 6), ml, zmr g)) := by
  refine Wp.run 24 (15, [(6, .int 1), (5, .int 0), (0, .ref 51), (1, .int 3), (2, .int 0), (3, .int x), (4, .int 5)], [], (zsh ++ vs, mi, ml, (zmr g))) rfl ?_
  refine Wp.run 21 (65, [(6, .int 10), (5, .int 0), (0, .ref 51), (1, .int 3), (2, .int 0), (3, .int x), (4, .int 5)], [.int (mi 51 1)], (zsh ++ vs, mi, ml, (zmr g))) rfl ?_
  refine Wp.topi (y := 5) (h1) ?_
  refine Wp.run 6 (78, [(6, .int 10), (5, .int 0), (0, .ref 51), (1, .int 3), (2, .int 0), (3, .int x), (4, .int 5)], [.int (mi 51 1), .ref 52], (zsh ++ vs, mi, ml, (zmr g))) rfl ?_
  refine Wp.topi (y := 5) (h1) ?_
  refine Wp.run 5 (86, [(6, .int 10), (5, .int 0), (0, .ref 51), (1, .int 3), (2, .int 0), (3, .int x), (4, .int 5)], [.int (mi 51 1), .ref 51], (zsh ++ vs, (zup mi 52 5 10), ml, (zmr g))) rfl ?_
  refine Wp.topi (y := 5) (h1) ?_
  refine Wp.run 12 (105, [(6, .int 10), (5, .int 0), (0, .ref 51), (1, .int 3), (2, .int 0), (3, .int x), (4, .int 5)], [.int 6, .int x, .int 0, .int 10, .ref 51], (zsh ++ vs, (zup (zup mi 52 5 10) 51 1 6), ml, (zmr g))) rfl ?_
  refine Wp.call (as := [.ref 51, .int 10, .int 0, .int x, .int 6]) (rest := []) rfl rfl rfl rfl rfl (Nat.le_of_ble_eq_true rfl) (Nat.le_of_ble_eq_true rfl) rfl (by decide) (c_rn_6_3_0_5_5 (mi := (zup (zup mi 52 5 10) 51 1 6)) rfl h2 h3 h4) ?_
  rintro _ _ ⟨rfl, rfl⟩
  refine Wp.run 0 (108, [(6, .int 10), (5, .int 0), (0, .ref 51), (1, .int 3), (2, .int 0), (3, .int x), (4, .int 5)], [.int (x + y)], (zsh ++ vs, (zup (zup mi 52 5 10) 51 1 6), ml, (zmr g))) rfl ?_
  refine Wp.ret rfl rfl rfl ?_
  exact ⟨rfl, rfl⟩
theorem c_rn_6_6_0_4_4 {E : zEn} {vs : List (Nat × Nat)} {mi : Nat → Nat → Int32} {ml : Nat → Nat → Int64} {g : Nat → Nat → Option Nat} {x y v : Int32} (h1 : mi 51 1 = 5) (h2 : mi 51 2 = 6) (h3 : mi 51 3 = y) (h4 : mi 51 4 = v) : Wp E 2 pg_Performance_run 0 (lv_args 0 [.ref 51, .int 71, .int 3, .int x, .int 5]) [] (zsh ++ vs, mi, ml, (zmr g)) (fun r w' => r = some (.int ((x + y) ^^^ v)) ∧ w' = (zsh ++ vs, (zup (zup mi 52 5 10) 51 1 6), ml, zmr g)) := by
  refine Wp.run 7 (252, [(0, .ref 51), (1, .int 71), (2, .int 3), (3, .int x), (4, .int 5)], [.int 5, .int x, .int 0, .int 3, .ref 51], (zsh ++ vs, mi, ml, (zmr g))) rfl ?_
  refine Wp.call (as := [.ref 51, .int 3, .int 0, .int x, .int 5]) (rest := []) rfl rfl rfl rfl rfl (Nat.le_of_ble_eq_true rfl) (Nat.le_of_ble_eq_true rfl) rfl (by decide) (c_pf_6_3_0_5_5 (mi := mi) (x := x) h1 h2 h3 h4) ?_
  rintro _ _ ⟨rfl, rfl⟩
  refine Wp.run 2 (259, [(0, .ref 51), (1, .int 71), (2, .int 3), (3, .int x), (4, .int 5)], [.int (mi 51 4), .int (x + y)], (zsh ++ vs, (zup (zup mi 52 5 10) 51 1 6), ml, (zmr g))) rfl ?_
  refine Wp.topi (y := v) (h4) ?_
  refine Wp.run 1 (260, [(0, .ref 51), (1, .int 71), (2, .int 3), (3, .int x), (4, .int 5)], [.int ((x + y) ^^^ v)], (zsh ++ vs, (zup (zup mi 52 5 10) 51 1 6), ml, (zmr g))) rfl ?_
  refine Wp.ret rfl rfl rfl ?_
  exact ⟨rfl, rfl⟩
theorem c_pf_6_6_0_4_4 {E : zEn} {vs : List (Nat × Nat)} {mi : Nat → Nat → Int32} {ml : Nat → Nat → Int64} {g : Nat → Nat → Option Nat} {x y v : Int32} (h1 : mi 51 1 = 4) (h2 : mi 51 2 = 6) (h3 : mi 51 3 = y) (h4 : mi 51 4 = v) : Wp E 3 pg_Performance_perform 0 (lv_args 0 [.ref 51, .int 6, .int 0, .int x, .int 4]) [] (zsh ++ vs, mi, ml, (zmr g)) (fun r w' => r = some (.int ((x + y) ^^^ v)) ∧ w' = (zsh ++ vs, (zup (zup (zup (zup mi 52 4 71) 51 1 5) 52 5 10) 51 1 6), ml, zmr g)) := by
  refine Wp.run 24 (58, [(6, .int 0), (5, .int 6), (0, .ref 51), (1, .int 6), (2, .int 0), (3, .int x), (4, .int 4)], [.int 18, .ref 502], (zsh ++ vs, mi, ml, (zmr g))) rfl ?_
  refine Wp.run 4 (65, [(6, .int 71), (5, .int 6), (0, .ref 51), (1, .int 6), (2, .int 0), (3, .int x), (4, .int 4)], [.int (mi 51 1)], (zsh ++ vs, mi, ml, (zmr g))) rfl ?_
  refine Wp.topi (y := 4) (h1) ?_
  refine Wp.run 6 (78, [(6, .int 71), (5, .int 6), (0, .ref 51), (1, .int 6), (2, .int 0), (3, .int x), (4, .int 4)], [.int (mi 51 1), .ref 52], (zsh ++ vs, mi, ml, (zmr g))) rfl ?_
  refine Wp.topi (y := 4) (h1) ?_
  refine Wp.run 5 (86, [(6, .int 71), (5, .int 6), (0, .ref 51), (1, .int 6), (2, .int 0), (3, .int x), (4, .int 4)], [.int (mi 51 1), .ref 51], (zsh ++ vs, (zup mi 52 4 71), ml, (zmr g))) rfl ?_
  refine Wp.topi (y := 4) (h1) ?_
  refine Wp.run 12 (105, [(6, .int 71), (5, .int 6), (0, .ref 51), (1, .int 6), (2, .int 0), (3, .int x), (4, .int 4)], [.int 5, .int x, .int 3, .int 71, .ref 51], (zsh ++ vs, (zup (zup mi 52 4 71) 51 1 5), ml, (zmr g))) rfl ?_
  refine Wp.call (as := [.ref 51, .int 71, .int 3, .int x, .int 5]) (rest := []) rfl rfl rfl rfl rfl (Nat.le_of_ble_eq_true rfl) (Nat.le_of_ble_eq_true rfl) rfl (by decide) (c_rn_6_6_0_4_4 (mi := (zup (zup mi 52 4 71) 51 1 5)) rfl h2 h3 h4) ?_
  rintro _ _ ⟨rfl, rfl⟩
  refine Wp.run 0 (108, [(6, .int 71), (5, .int 6), (0, .ref 51), (1, .int 6), (2, .int 0), (3, .int x), (4, .int 4)], [.int ((x + y) ^^^ v)], (zsh ++ vs, (zup (zup (zup (zup mi 52 4 71) 51 1 5) 52 5 10) 51 1 6), ml, (zmr g))) rfl ?_
  refine Wp.ret rfl rfl rfl ?_
  exact ⟨rfl, rfl⟩
theorem c_rn_6_3_1_3_3 {E : zEn} {vs : List (Nat × Nat)} {mi : Nat → Nat → Int32} {ml : Nat → Nat → Int64} {g : Nat → Nat → Option Nat} {x y v : Int32} (h1 : mi 51 1 = 4) (h2 : mi 51 2 = 6) (h3 : mi 51 3 = y) (h4 : mi 51 4 = v) : Wp E 4 pg_Performance_run 0 (lv_args 0 [.ref 51, .int 11, .int 0, .int x, .int 4]) [] (zsh ++ vs, mi, ml, (zmr g)) (fun r w' => r = some (.int (((x + y) ^^^ v) - v)) ∧ w' = (zsh ++ vs, (zup (zup (zup (zup mi 52 4 71) 51 1 5) 52 5 10) 51 1 6), ml, zmr g)) := by
  refine Wp.run 5 (112, [(0, .ref 51), (1, .int 11), (2, .int 0), (3, .int x), (4, .int 4)], [.int (mi 51 2), .ref 51], (zsh ++ vs, mi, ml, (zmr g))) rfl ?_
  refine Wp.topi (y := 6) (h2) ?_
  refine Wp.run 3 (116, [(0, .ref 51), (1, .int 11), (2, .int 0), (3, .int x), (4, .int 4)], [.int 4, .int x, .int 0, .int 6, .ref 51], (zsh ++ vs, mi, ml, (zmr g))) rfl ?_
  refine Wp.call (as := [.ref 51, .int 6, .int 0, .int x, .int 4]) (rest := []) rfl rfl rfl rfl rfl (Nat.le_of_ble_eq_true rfl) (Nat.le_of_ble_eq_true rfl) rfl (by decide) (c_pf_6_6_0_4_4 (mi := mi) (x := x) h1 h2 h3 h4) ?_
  rintro _ _ ⟨rfl, rfl⟩
  refine Wp.run 2 (123, [(0, .ref 51), (1, .int 11), (2, .int 0), (3, .int x), (4, .int 4)], [.int (mi 51 4), .int ((x + y) ^^^ v)], (zsh ++ vs, (zup (zup (zup (zup mi 52 4 71) 51 1 5) 52 5 10) 51 1 6), ml, (zmr g))) rfl ?_
  refine Wp.topi (y := v) (h4) ?_
  refine Wp.run 1 (124, [(0, .ref 51), (1, .int 11), (2, .int 0), (3, .int x), (4, .int 4)], [.int (((x + y) ^^^ v) - v)], (zsh ++ vs, (zup (zup (zup (zup mi 52 4 71) 51 1 5) 52 5 10) 51 1 6), ml, (zmr g))) rfl ?_
  refine Wp.ret rfl rfl rfl ?_
  exact ⟨rfl, rfl⟩
theorem c_pf_6_3_1_3_3 {E : zEn} {vs : List (Nat × Nat)} {mi : Nat → Nat → Int32} {ml : Nat → Nat → Int64} {g : Nat → Nat → Option Nat} {x y v : Int32} (h1 : mi 51 1 = 3) (h2 : mi 51 2 = 6) (h3 : mi 51 3 = y) (h4 : mi 51 4 = v) : Wp E 5 pg_Performance_perform 0 (lv_args 0 [.ref 51, .int 3, .int 1, .int x, .int 3]) [] (zsh ++ vs, mi, ml, (zmr g)) (fun r w' => r = some (.int (((x + y) ^^^ v) - v)) ∧ w' = (zsh ++ vs, (zup (zup (zup (zup (zup (zup mi 52 3 11) 51 1 4) 52 4 71) 51 1 5) 52 5 10) 51 1 6), ml, zmr g)) := by
  refine Wp.run 24 (15, [(6, .int 1), (5, .int 0), (0, .ref 51), (1, .int 3), (2, .int 1), (3, .int x), (4, .int 3)], [], (zsh ++ vs, mi, ml, (zmr g))) rfl ?_
  refine Wp.run 21 (65, [(6, .int 11), (5, .int 0), (0, .ref 51), (1, .int 3), (2, .int 1), (3, .int x), (4, .int 3)], [.int (mi 51 1)], (zsh ++ vs, mi, ml, (zmr g))) rfl ?_
  refine Wp.topi (y := 3) (h1) ?_
  refine Wp.run 6 (78, [(6, .int 11), (5, .int 0), (0, .ref 51), (1, .int 3), (2, .int 1), (3, .int x), (4, .int 3)], [.int (mi 51 1), .ref 52], (zsh ++ vs, mi, ml, (zmr g))) rfl ?_
  refine Wp.topi (y := 3) (h1) ?_
  refine Wp.run 5 (86, [(6, .int 11), (5, .int 0), (0, .ref 51), (1, .int 3), (2, .int 1), (3, .int x), (4, .int 3)], [.int (mi 51 1), .ref 51], (zsh ++ vs, (zup mi 52 3 11), ml, (zmr g))) rfl ?_
  refine Wp.topi (y := 3) (h1) ?_
  refine Wp.run 12 (105, [(6, .int 11), (5, .int 0), (0, .ref 51), (1, .int 3), (2, .int 1), (3, .int x), (4, .int 3)], [.int 4, .int x, .int 0, .int 11, .ref 51], (zsh ++ vs, (zup (zup mi 52 3 11) 51 1 4), ml, (zmr g))) rfl ?_
  refine Wp.call (as := [.ref 51, .int 11, .int 0, .int x, .int 4]) (rest := []) rfl rfl rfl rfl rfl (Nat.le_of_ble_eq_true rfl) (Nat.le_of_ble_eq_true rfl) rfl (by decide) (c_rn_6_3_1_3_3 (mi := (zup (zup mi 52 3 11) 51 1 4)) rfl h2 h3 h4) ?_
  rintro _ _ ⟨rfl, rfl⟩
  refine Wp.run 0 (108, [(6, .int 11), (5, .int 0), (0, .ref 51), (1, .int 3), (2, .int 1), (3, .int x), (4, .int 3)], [.int (((x + y) ^^^ v) - v)], (zsh ++ vs, (zup (zup (zup (zup (zup (zup mi 52 3 11) 51 1 4) 52 4 71) 51 1 5) 52 5 10) 51 1 6), ml, (zmr g))) rfl ?_
  refine Wp.ret rfl rfl rfl ?_
  exact ⟨rfl, rfl⟩
theorem c_rn_6_3_0_6_3 {E : zEn} {vs : List (Nat × Nat)} {mi : Nat → Nat → Int32} {ml : Nat → Nat → Int64} {g : Nat → Nat → Option Nat} {x y v : Int32} (h1 : mi 51 1 = 7) (h2 : mi 51 2 = 6) (h3 : mi 51 3 = y) (h4 : mi 51 4 = v) : Wp E 0 pg_Performance_run 0 (lv_args 0 [.ref 51, .int 10, .int 0, .int x, .int 4]) [] (zsh ++ vs, mi, ml, (zmr g)) (fun r w' => r = some (.int (x + y)) ∧ w' = (zsh ++ vs, mi, ml, zmr g)) := by
  refine Wp.run 5 (105, [(0, .ref 51), (1, .int 10), (2, .int 0), (3, .int x), (4, .int 4)], [.int (mi 51 3), .int x], (zsh ++ vs, mi, ml, (zmr g))) rfl ?_
  refine Wp.topi (y := y) (h3) ?_
  refine Wp.run 1 (106, [(0, .ref 51), (1, .int 10), (2, .int 0), (3, .int x), (4, .int 4)], [.int (x + y)], (zsh ++ vs, mi, ml, (zmr g))) rfl ?_
  refine Wp.ret rfl rfl rfl ?_
  exact ⟨rfl, rfl⟩
theorem c_pf_6_3_0_6_3 {E : zEn} {vs : List (Nat × Nat)} {mi : Nat → Nat → Int32} {ml : Nat → Nat → Int64} {g : Nat → Nat → Option Nat} {x y v : Int32} (h1 : mi 51 1 = 6) (h2 : mi 51 2 = 6) (h3 : mi 51 3 = y) (h4 : mi 51 4 = v) : Wp E 1 pg_Performance_perform 0 (lv_args 0 [.ref 51, .int 3, .int 0, .int x, .int 3]) [] (zsh ++ vs, mi, ml, (zmr g)) (fun r w' => r = some (.int (x + y)) ∧ w' = (zsh ++ vs, (zup (zup mi 52 6 10) 51 1 7), ml, zmr g)) := by
  refine Wp.run 24 (15, [(6, .int 1), (5, .int 0), (0, .ref 51), (1, .int 3), (2, .int 0), (3, .int x), (4, .int 3)], [], (zsh ++ vs, mi, ml, (zmr g))) rfl ?_
  refine Wp.run 21 (65, [(6, .int 10), (5, .int 0), (0, .ref 51), (1, .int 3), (2, .int 0), (3, .int x), (4, .int 3)], [.int (mi 51 1)], (zsh ++ vs, mi, ml, (zmr g))) rfl ?_
  refine Wp.topi (y := 6) (h1) ?_
  refine Wp.run 6 (78, [(6, .int 10), (5, .int 0), (0, .ref 51), (1, .int 3), (2, .int 0), (3, .int x), (4, .int 3)], [.int (mi 51 1), .ref 52], (zsh ++ vs, mi, ml, (zmr g))) rfl ?_
  refine Wp.topi (y := 6) (h1) ?_
  refine Wp.run 5 (86, [(6, .int 10), (5, .int 0), (0, .ref 51), (1, .int 3), (2, .int 0), (3, .int x), (4, .int 3)], [.int (mi 51 1), .ref 51], (zsh ++ vs, (zup mi 52 6 10), ml, (zmr g))) rfl ?_
  refine Wp.topi (y := 6) (h1) ?_
  refine Wp.run 12 (105, [(6, .int 10), (5, .int 0), (0, .ref 51), (1, .int 3), (2, .int 0), (3, .int x), (4, .int 3)], [.int 4, .int x, .int 0, .int 10, .ref 51], (zsh ++ vs, (zup (zup mi 52 6 10) 51 1 7), ml, (zmr g))) rfl ?_
  refine Wp.call (as := [.ref 51, .int 10, .int 0, .int x, .int 4]) (rest := []) rfl rfl rfl rfl rfl (Nat.le_of_ble_eq_true rfl) (Nat.le_of_ble_eq_true rfl) rfl (by decide) (c_rn_6_3_0_6_3 (mi := (zup (zup mi 52 6 10) 51 1 7)) rfl h2 h3 h4) ?_
  rintro _ _ ⟨rfl, rfl⟩
  refine Wp.run 0 (108, [(6, .int 10), (5, .int 0), (0, .ref 51), (1, .int 3), (2, .int 0), (3, .int x), (4, .int 3)], [.int (x + y)], (zsh ++ vs, (zup (zup mi 52 6 10) 51 1 7), ml, (zmr g))) rfl ?_
  refine Wp.ret rfl rfl rfl ?_
  exact ⟨rfl, rfl⟩
theorem c_rn_6_6_1_2_2 {E : zEn} {vs : List (Nat × Nat)} {mi : Nat → Nat → Int32} {ml : Nat → Nat → Int64} {g : Nat → Nat → Option Nat} {x y v : Int32} (h1 : mi 51 1 = 3) (h2 : mi 51 2 = 6) (h3 : mi 51 3 = y) (h4 : mi 51 4 = v) : Wp E 6 pg_Performance_run 0 (lv_args 0 [.ref 51, .int 70, .int 3, .int x, .int 3]) [] (zsh ++ vs, mi, ml, (zmr g)) (fun r w' => r = some (.int ((((x + y) ^^^ v) - v) + (2 + y))) ∧ w' = (zsh ++ vs, (zup (zup (zup (zup (zup (zup (zup (zup mi 52 3 11) 51 1 4) 52 4 71) 51 1 5) 52 5 10) 51 1 6) 52 6 10) 51 1 7), ml, zmr g)) := by
  refine Wp.run 7 (232, [(0, .ref 51), (1, .int 70), (2, .int 3), (3, .int x), (4, .int 3)], [.int 3, .int x, .int 1, .int 3, .ref 51], (zsh ++ vs, mi, ml, (zmr g))) rfl ?_
  refine Wp.call (as := [.ref 51, .int 3, .int 1, .int x, .int 3]) (rest := []) rfl rfl rfl rfl rfl (Nat.le_of_ble_eq_true rfl) (Nat.le_of_ble_eq_true rfl) rfl (by decide) (c_pf_6_3_1_3_3 (mi := mi) (x := x) h1 h2 h3 h4) ?_
  rintro _ _ ⟨rfl, rfl⟩
  refine Wp.run 5 (241, [(0, .ref 51), (1, .int 70), (2, .int 3), (3, .int x), (4, .int 3)], [.int 3, .int 2, .int 0, .int 3, .ref 51, .int (((x + y) ^^^ v) - v)], (zsh ++ vs, (zup (zup (zup (zup (zup (zup mi 52 3 11) 51 1 4) 52 4 71) 51 1 5) 52 5 10) 51 1 6), ml, (zmr g))) rfl ?_
  refine Wp.call (as := [.ref 51, .int 3, .int 0, .int 2, .int 3]) (rest := [.int (((x + y) ^^^ v) - v)]) rfl rfl rfl rfl rfl (Nat.le_of_ble_eq_true rfl) (Nat.le_of_ble_eq_true rfl) rfl (by decide) (c_pf_6_3_0_6_3 (mi := (zup (zup (zup (zup (zup (zup mi 52 3 11) 51 1 4) 52 4 71) 51 1 5) 52 5 10) 51 1 6)) (x := 2) rfl h2 h3 h4) ?_
  rintro _ _ ⟨rfl, rfl⟩
  refine Wp.run 1 (245, [(0, .ref 51), (1, .int 70), (2, .int 3), (3, .int x), (4, .int 3)], [.int ((((x + y) ^^^ v) - v) + (2 + y))], (zsh ++ vs, (zup (zup (zup (zup (zup (zup (zup (zup mi 52 3 11) 51 1 4) 52 4 71) 51 1 5) 52 5 10) 51 1 6) 52 6 10) 51 1 7), ml, (zmr g))) rfl ?_
  refine Wp.ret rfl rfl rfl ?_
  exact ⟨rfl, rfl⟩
theorem c_pf_6_6_1_2_2 {E : zEn} {vs : List (Nat × Nat)} {mi : Nat → Nat → Int32} {ml : Nat → Nat → Int64} {g : Nat → Nat → Option Nat} {x y v : Int32} (h1 : mi 51 1 = 2) (h2 : mi 51 2 = 6) (h3 : mi 51 3 = y) (h4 : mi 51 4 = v) : Wp E 7 pg_Performance_perform 0 (lv_args 0 [.ref 51, .int 6, .int 1, .int x, .int 2]) [] (zsh ++ vs, mi, ml, (zmr g)) (fun r w' => r = some (.int ((((x + y) ^^^ v) - v) + (2 + y))) ∧ w' = (zsh ++ vs, (zup (zup (zup (zup (zup (zup (zup (zup (zup (zup mi 52 2 70) 51 1 3) 52 3 11) 51 1 4) 52 4 71) 51 1 5) 52 5 10) 51 1 6) 52 6 10) 51 1 7), ml, zmr g)) := by
  refine Wp.run 24 (58, [(6, .int 0), (5, .int 6), (0, .ref 51), (1, .int 6), (2, .int 1), (3, .int x), (4, .int 2)], [.int 19, .ref 502], (zsh ++ vs, mi, ml, (zmr g))) rfl ?_
  refine Wp.run 4 (65, [(6, .int 70), (5, .int 6), (0, .ref 51), (1, .int 6), (2, .int 1), (3, .int x), (4, .int 2)], [.int (mi 51 1)], (zsh ++ vs, mi, ml, (zmr g))) rfl ?_
  refine Wp.topi (y := 2) (h1) ?_
  refine Wp.run 6 (78, [(6, .int 70), (5, .int 6), (0, .ref 51), (1, .int 6), (2, .int 1), (3, .int x), (4, .int 2)], [.int (mi 51 1), .ref 52], (zsh ++ vs, mi, ml, (zmr g))) rfl ?_
  refine Wp.topi (y := 2) (h1) ?_
  refine Wp.run 5 (86, [(6, .int 70), (5, .int 6), (0, .ref 51), (1, .int 6), (2, .int 1), (3, .int x), (4, .int 2)], [.int (mi 51 1), .ref 51], (zsh ++ vs, (zup mi 52 2 70), ml, (zmr g))) rfl ?_
  refine Wp.topi (y := 2) (h1) ?_
  refine Wp.run 12 (105, [(6, .int 70), (5, .int 6), (0, .ref 51), (1, .int 6), (2, .int 1), (3, .int x), (4, .int 2)], [.int 3, .int x, .int 3, .int 70, .ref 51], (zsh ++ vs, (zup (zup mi 52 2 70) 51 1 3), ml, (zmr g))) rfl ?_
  refine Wp.call (as := [.ref 51, .int 70, .int 3, .int x, .int 3]) (rest := []) rfl rfl rfl rfl rfl (Nat.le_of_ble_eq_true rfl) (Nat.le_of_ble_eq_true rfl) rfl (by decide) (c_rn_6_6_1_2_2 (mi := (zup (zup mi 52 2 70) 51 1 3)) rfl h2 h3 h4) ?_
  rintro _ _ ⟨rfl, rfl⟩
  refine Wp.run 0 (108, [(6, .int 70), (5, .int 6), (0, .ref 51), (1, .int 6), (2, .int 1), (3, .int x), (4, .int 2)], [.int ((((x + y) ^^^ v) - v) + (2 + y))], (zsh ++ vs, (zup (zup (zup (zup (zup (zup (zup (zup (zup (zup mi 52 2 70) 51 1 3) 52 3 11) 51 1 4) 52 4 71) 51 1 5) 52 5 10) 51 1 6) 52 6 10) 51 1 7), ml, (zmr g))) rfl ?_
  refine Wp.ret rfl rfl rfl ?_
  exact ⟨rfl, rfl⟩
theorem c_rn_6_0_2_1_1 {E : zEn} {vs : List (Nat × Nat)} {mi : Nat → Nat → Int32} {ml : Nat → Nat → Int64} {g : Nat → Nat → Option Nat} {x y v : Int32} (h1 : mi 51 1 = 2) (h2 : mi 51 2 = 6) (h3 : mi 51 3 = y) (h4 : mi 51 4 = v) : Wp E 8 pg_Performance_run 0 (lv_args 0 [.ref 51, .int 12, .int 0, .int x, .int 2]) [] (zsh ++ vs, mi, ml, (zmr g)) (fun r w' => r = some (.int (((((x + y) ^^^ v) - v) + (2 + y)) * 2)) ∧ w' = (zsh ++ vs, (zup (zup (zup (zup (zup (zup (zup (zup (zup (zup mi 52 2 70) 51 1 3) 52 3 11) 51 1 4) 52 4 71) 51 1 5) 52 5 10) 51 1 6) 52 6 10) 51 1 7), ml, zmr g)) := by
  refine Wp.run 5 (130, [(0, .ref 51), (1, .int 12), (2, .int 0), (3, .int x), (4, .int 2)], [.int (mi 51 2), .ref 51], (zsh ++ vs, mi, ml, (zmr g))) rfl ?_
  refine Wp.topi (y := 6) (h2) ?_
  refine Wp.run 3 (134, [(0, .ref 51), (1, .int 12), (2, .int 0), (3, .int x), (4, .int 2)], [.int 2, .int x, .int 1, .int 6, .ref 51], (zsh ++ vs, mi, ml, (zmr g))) rfl ?_
  refine Wp.call (as := [.ref 51, .int 6, .int 1, .int x, .int 2]) (rest := []) rfl rfl rfl rfl rfl (Nat.le_of_ble_eq_true rfl) (Nat.le_of_ble_eq_true rfl) rfl (by decide) (c_pf_6_6_1_2_2 (mi := mi) (x := x) h1 h2 h3 h4) ?_
  rintro _ _ ⟨rfl, rfl⟩
  refine Wp.run 2 (139, [(0, .ref 51), (1, .int 12), (2, .int 0), (3, .int x), (4, .int 2)], [.int (((((x + y) ^^^ v) - v) + (2 + y)) * 2)], (zsh ++ vs, (zup (zup (zup (zup (zup (zup (zup (zup (zup (zup mi 52 2 70) 51 1 3) 52 3 11) 51 1 4) 52 4 71) 51 1 5) 52 5 10) 51 1 6) 52 6 10) 51 1 7), ml, (zmr g))) rfl ?_
  refine Wp.ret rfl rfl rfl ?_
  exact ⟨rfl, rfl⟩
theorem c_pf_6_0_2_1_1 {E : zEn} {vs : List (Nat × Nat)} {mi : Nat → Nat → Int32} {ml : Nat → Nat → Int64} {g : Nat → Nat → Option Nat} {x y v : Int32} (h1 : mi 51 1 = 1) (h2 : mi 51 2 = 6) (h3 : mi 51 3 = y) (h4 : mi 51 4 = v) : Wp E 9 pg_Performance_perform 0 (lv_args 0 [.ref 51, .int 0, .int 2, .int x, .int 1]) [] (zsh ++ vs, mi, ml, (zmr g)) (fun r w' => r = some (.int (((((x + y) ^^^ v) - v) + (2 + y)) * 2)) ∧ w' = (zsh ++ vs, (zup (zup (zup (zup (zup (zup (zup (zup (zup (zup (zup (zup mi 52 1 12) 51 1 2) 52 2 70) 51 1 3) 52 3 11) 51 1 4) 52 4 71) 51 1 5) 52 5 10) 51 1 6) 52 6 10) 51 1 7), ml, zmr g)) := by
  refine Wp.run 24 (58, [(6, .int 0), (5, .int 0), (0, .ref 51), (1, .int 0), (2, .int 2), (3, .int x), (4, .int 1)], [.int 2, .ref 502], (zsh ++ vs, mi, ml, (zmr g))) rfl ?_
  refine Wp.run 4 (65, [(6, .int 12), (5, .int 0), (0, .ref 51), (1, .int 0), (2, .int 2), (3, .int x), (4, .int 1)], [.int (mi 51 1)], (zsh ++ vs, mi, ml, (zmr g))) rfl ?_
  refine Wp.topi (y := 1) (h1) ?_
  refine Wp.run 6 (78, [(6, .int 12), (5, .int 0), (0, .ref 51), (1, .int 0), (2, .int 2), (3, .int x), (4, .int 1)], [.int (mi 51 1), .ref 52], (zsh ++ vs, mi, ml, (zmr g))) rfl ?_
  refine Wp.topi (y := 1) (h1) ?_
  refine Wp.run 5 (86, [(6, .int 12), (5, .int 0), (0, .ref 51), (1, .int 0), (2, .int 2), (3, .int x), (4, .int 1)], [.int (mi 51 1), .ref 51], (zsh ++ vs, (zup mi 52 1 12), ml, (zmr g))) rfl ?_
  refine Wp.topi (y := 1) (h1) ?_
  refine Wp.run 12 (105, [(6, .int 12), (5, .int 0), (0, .ref 51), (1, .int 0), (2, .int 2), (3, .int x), (4, .int 1)], [.int 2, .int x, .int 0, .int 12, .ref 51], (zsh ++ vs, (zup (zup mi 52 1 12) 51 1 2), ml, (zmr g))) rfl ?_
  refine Wp.call (as := [.ref 51, .int 12, .int 0, .int x, .int 2]) (rest := []) rfl rfl rfl rfl rfl (Nat.le_of_ble_eq_true rfl) (Nat.le_of_ble_eq_true rfl) rfl (by decide) (c_rn_6_0_2_1_1 (mi := (zup (zup mi 52 1 12) 51 1 2)) rfl h2 h3 h4) ?_
  rintro _ _ ⟨rfl, rfl⟩
  refine Wp.run 0 (108, [(6, .int 12), (5, .int 0), (0, .ref 51), (1, .int 0), (2, .int 2), (3, .int x), (4, .int 1)], [.int (((((x + y) ^^^ v) - v) + (2 + y)) * 2)], (zsh ++ vs, (zup (zup (zup (zup (zup (zup (zup (zup (zup (zup (zup (zup mi 52 1 12) 51 1 2) 52 2 70) 51 1 3) 52 3 11) 51 1 4) 52 4 71) 51 1 5) 52 5 10) 51 1 6) 52 6 10) 51 1 7), ml, (zmr g))) rfl ?_
  refine Wp.ret rfl rfl rfl ?_
  exact ⟨rfl, rfl⟩
theorem c_rn_6_3_0_10_4 {E : zEn} {vs : List (Nat × Nat)} {mi : Nat → Nat → Int32} {ml : Nat → Nat → Int64} {g : Nat → Nat → Option Nat} {x y v : Int32} (h1 : mi 51 1 = 11) (h2 : mi 51 2 = 6) (h3 : mi 51 3 = y) (h4 : mi 51 4 = v) : Wp E 0 pg_Performance_run 0 (lv_args 0 [.ref 51, .int 10, .int 0, .int x, .int 5]) [] (zsh ++ vs, mi, ml, (zmr g)) (fun r w' => r = some (.int (x + y)) ∧ w' = (zsh ++ vs, mi, ml, zmr g)) := by
  refine Wp.run 5 (105, [(0, .ref 51), (1, .int 10), (2, .int 0), (3, .int x), (4, .int 5)], [.int (mi 51 3), .int x], (zsh ++ vs, mi, ml, (zmr g))) rfl ?_
  refine Wp.topi (y := y) (h3) ?_
  refine Wp.run 1 (106, [(0, .ref 51), (1, .int 10), (2, .int 0), (3, .int x), (4, .int 5)], [.int (x + y)], (zsh ++ vs, mi, ml, (zmr g))) rfl ?_
  refine Wp.ret rfl rfl rfl ?_
  exact ⟨rfl, rfl⟩
theorem c_pf_6_3_0_10_4 {E : zEn} {vs : List (Nat × Nat)} {mi : Nat → Nat → Int32} {ml : Nat → Nat → Int64} {g : Nat → Nat → Option Nat} {x y v : Int32} (h1 : mi 51 1 = 10) (h2 : mi 51 2 = 6) (h3 : mi 51 3 = y) (h4 : mi 51 4 = v) : Wp E 1 pg_Performance_perform 0 (lv_args 0 [.ref 51, .int 3, .int 0, .int x, .int 4]) [] (zsh ++ vs, mi, ml, (zmr g)) (fun r w' => r = some (.int (x + y)) ∧ w' = (zsh ++ vs, (zup (zup mi 52 10 10) 51 1 11), ml, zmr g)) := by
  refine Wp.run 24 (15, [(6, .int 1), (5, .int 0), (0, .ref 51), (1, .int 3), (2, .int 0), (3, .int x), (4, .int 4)], [], (zsh ++ vs, mi, ml, (zmr g))) rfl ?_
  refine Wp.run 21 (65, [(6, .int 10), (5, .int 0), (0, .ref 51), (1, .int 3), (2, .int 0), (3, .int x), (4, .int 4)], [.int (mi 51 1)], (zsh ++ vs, mi, ml, (zmr g))) rfl ?_
  refine Wp.topi (y := 10) (h1) ?_
  refine Wp.run 6 (78, [(6, .int 10), (5, .int 0), (0, .ref 51), (1, .int 3), (2, .int 0), (3, .int x), (4, .int 4)], [.int (mi 51 1), .ref 52], (zsh ++ vs, mi, ml, (zmr g))) rfl ?_
  refine Wp.topi (y := 10) (h1) ?_
  refine Wp.run 5 (86, [(6, .int 10), (5, .int 0), (0, .ref 51), (1, .int 3), (2, .int 0), (3, .int x), (4, .int 4)], [.int (mi 51 1), .ref 51], (zsh ++ vs, (zup mi 52 10 10), ml, (zmr g))) rfl ?_
  refine Wp.topi (y := 10) (h1) ?_
  refine Wp.run 12 (105, [(6, .int 10), (5, .int 0), (0, .ref 51), (1, .int 3), (2, .int 0), (3, .int x), (4, .int 4)], [.int 5, .int x, .int 0, .int 10, .ref 51], (zsh ++ vs, (zup (zup mi 52 10 10) 51 1 11), ml, (zmr g))) rfl ?_
  refine Wp.call (as := [.ref 51, .int 10, .int 0, .int x, .int 5]) (rest := []) rfl rfl rfl rfl rfl (Nat.le_of_ble_eq_true rfl) (Nat.le_of_ble_eq_true rfl) rfl (by decide) (c_rn_6_3_0_10_4 (mi := (zup (zup mi 52 10 10) 51 1 11)) rfl h2 h3 h4) ?_
  rintro _ _ ⟨rfl, rfl⟩
  refine Wp.run 0 (108, [(6, .int 10), (5, .int 0), (0, .ref 51), (1, .int 3), (2, .int 0), (3, .int x), (4, .int 4)], [.int (x + y)], (zsh ++ vs, (zup (zup mi 52 10 10) 51 1 11), ml, (zmr g))) rfl ?_
  refine Wp.ret rfl rfl rfl ?_
  exact ⟨rfl, rfl⟩
theorem c_rn_6_6_0_9_3 {E : zEn} {vs : List (Nat × Nat)} {mi : Nat → Nat → Int32} {ml : Nat → Nat → Int64} {g : Nat → Nat → Option Nat} {x y v : Int32} (h1 : mi 51 1 = 10) (h2 : mi 51 2 = 6) (h3 : mi 51 3 = y) (h4 : mi 51 4 = v) : Wp E 2 pg_Performance_run 0 (lv_args 0 [.ref 51, .int 71, .int 3, .int x, .int 4]) [] (zsh ++ vs, mi, ml, (zmr g)) (fun r w' => r = some (.int ((x + y) ^^^ v)) ∧ w' = (zsh ++ vs, (zup (zup mi 52 10 10) 51 1 11), ml, zmr g)) := by
  refine Wp.run 7 (252, [(0, .ref 51), (1, .int 71), (2, .int 3), (3, .int x), (4, .int 4)], [.int 4, .int x, .int 0, .int 3, .ref 51], (zsh ++ vs, mi, ml, (zmr g))) rfl ?_
  refine Wp.call (as := [.ref 51, .int 3, .int 0, .int x, .int 4]) (rest := []) rfl rfl rfl rfl rfl (Nat.le_of_ble_eq_true rfl) (Nat.le_of_ble_eq_true rfl) rfl (by decide) (c_pf_6_3_0_10_4 (mi := mi) (x := x) h1 h2 h3 h4) ?_
  rintro _ _ ⟨rfl, rfl⟩
  refine Wp.run 2 (259, [(0, .ref 51), (1, .int 71), (2, .int 3), (3, .int x), (4, .int 4)], [.int (mi 51 4), .int (x + y)], (zsh ++ vs, (zup (zup mi 52 10 10) 51 1 11), ml, (zmr g))) rfl ?_
  refine Wp.topi (y := v) (h4) ?_
  refine Wp.run 1 (260, [(0, .ref 51), (1, .int 71), (2, .int 3), (3, .int x), (4, .int 4)], [.int ((x + y) ^^^ v)], (zsh ++ vs, (zup (zup mi 52 10 10) 51 1 11), ml, (zmr g))) rfl ?_
  refine Wp.ret rfl rfl rfl ?_
  exact ⟨rfl, rfl⟩
theorem c_pf_6_6_0_9_3 {E : zEn} {vs : List (Nat × Nat)} {mi : Nat → Nat → Int32} {ml : Nat → Nat → Int64} {g : Nat → Nat → Option Nat} {x y v : Int32} (h1 : mi 51 1 = 9) (h2 : mi 51 2 = 6) (h3 : mi 51 3 = y) (h4 : mi 51 4 = v) : Wp E 3 pg_Performance_perform 0 (lv_args 0 [.ref 51, .int 6, .int 0, .int x, .int 3]) [] (zsh ++ vs, mi, ml, (zmr g)) (fun r w' => r = some (.int ((x + y) ^^^ v)) ∧ w' = (zsh ++ vs, (zup (zup (zup (zup mi 52 9 71) 51 1 10) 52 10 10) 51 1 11), ml, zmr g)) := by
  refine Wp.run 24 (58, [(6, .int 0), (5, .int 6), (0, .ref 51), (1, .int 6), (2, .int 0), (3, .int x), (4, .int 3)], [.int 18, .ref 502], (zsh ++ vs, mi, ml, (zmr g))) rfl ?_
  refine Wp.run 4 (65, [(6, .int 71), (5, .int 6), (0, .ref 51), (1, .int 6), (2, .int 0), (3, .int x), (4, .int 3)], [.int (mi 51 1)], (zsh ++ vs, mi, ml, (zmr g))) rfl ?_
  refine Wp.topi (y := 9) (h1) ?_
  refine Wp.run 6 (78, [(6, .int 71), (5, .int 6), (0, .ref 51), (1, .int 6), (2, .int 0), (3, .int x), (4, .int 3)], [.int (mi 51 1), .ref 52], (zsh ++ vs, mi, ml, (zmr g))) rfl ?_
  refine Wp.topi (y := 9) (h1) ?_
  refine Wp.run 5 (86, [(6, .int 71), (5, .int 6), (0, .ref 51), (1, .int 6), (2, .int 0), (3, .int x), (4, .int 3)], [.int (mi 51 1), .ref 51], (zsh ++ vs, (zup mi 52 9 71), ml, (zmr g))) rfl ?_
  refine Wp.topi (y := 9) (h1) ?_
  refine Wp.run 12 (105, [(6, .int 71), (5, .int 6), (0, .ref 51), (1, .int 6), (2, .int 0), (3, .int x), (4, .int 3)], [.int 4, .int x, .int 3, .int 71, .ref 51], (zsh ++ vs, (zup (zup mi 52 9 71) 51 1 10), ml, (zmr g))) rfl ?_
  refine Wp.call (as := [.ref 51, .int 71, .int 3, .int x, .int 4]) (rest := []) rfl rfl rfl rfl rfl (Nat.le_of_ble_eq_true rfl) (Nat.le_of_ble_eq_true rfl) rfl (by decide) (c_rn_6_6_0_9_3 (mi := (zup (zup mi 52 9 71) 51 1 10)) rfl h2 h3 h4) ?_
  rintro _ _ ⟨rfl, rfl⟩
  refine Wp.run 0 (108, [(6, .int 71), (5, .int 6), (0, .ref 51), (1, .int 6), (2, .int 0), (3, .int x), (4, .int 3)], [.int ((x + y) ^^^ v)], (zsh ++ vs, (zup (zup (zup (zup mi 52 9 71) 51 1 10) 52 10 10) 51 1 11), ml, (zmr g))) rfl ?_
  refine Wp.ret rfl rfl rfl ?_
  exact ⟨rfl, rfl⟩
theorem c_rn_6_3_1_8_2 {E : zEn} {vs : List (Nat × Nat)} {mi : Nat → Nat → Int32} {ml : Nat → Nat → Int64} {g : Nat → Nat → Option Nat} {x y v : Int32} (h1 : mi 51 1 = 9) (h2 : mi 51 2 = 6) (h3 : mi 51 3 = y) (h4 : mi 51 4 = v) : Wp E 4 pg_Performance_run 0 (lv_args 0 [.ref 51, .int 11, .int 0, .int x, .int 3]) [] (zsh ++ vs, mi, ml, (zmr g)) (fun r w' => r = some (.int (((x + y) ^^^ v) - v)) ∧ w' = (zsh ++ vs, (zup (zup (zup (zup mi 52 9 71) 51 1 10) 52 10 10) 51 1 11), ml, zmr g)) := by
  refine Wp.run 5 (112, [(0, .ref 51), (1, .int 11), (2, .int 0), (3, .int x), (4, .int 3)], [.int (mi 51 2), .ref 51], (zsh ++ vs, mi, ml, (zmr g))) rfl ?_
  refine Wp.topi (y := 6) (h2) ?_
  refine Wp.run 3 (116, [(0, .ref 51), (1, .int 11), (2, .int 0), (3, .int x), (4, .int 3)], [.int 3, .int x, .int 0, .int 6, .ref 51], (zsh ++ vs, mi, ml, (zmr g))) rfl ?_
  refine Wp.call (as := [.ref 51, .int 6, .int 0, .int x, .int 3]) (rest := []) rfl rfl rfl rfl rfl (Nat.le_of_ble_eq_true rfl) (Nat.le_of_ble_eq_true rfl) rfl (by decide) (c_pf_6_6_0_9_3 (mi := mi) (x := x) h1 h2 h3 h4) ?_
  rintro _ _ ⟨rfl, rfl⟩
  refine Wp.run 2 (123, [(0, .ref 51), (1, .int 11), (2, .int 0), (3, .int x), (4, .int 3)], [.int (mi 51 4), .int ((x + y) ^^^ v)], (zsh ++ vs, (zup (zup (zup (zup mi 52 9 71) 51 1 10) 52 10 10) 51 1 11), ml, (zmr g))) rfl ?_
  refine Wp.topi (y := v) (h4) ?_
  refine Wp.run 1 (124, [(0, .ref 51), (1, .int 11), (2, .int 0), (3, .int x), (4, .int 3)], [.int (((x + y) ^^^ v) - v)], (zsh ++ vs, (zup (zup (zup (zup mi 52 9 71) 51 1 10) 52 10 10) 51 1 11), ml, (zmr g))) rfl ?_
  refine Wp.ret rfl rfl rfl ?_
  exact ⟨rfl, rfl⟩
theorem c_pf_6_3_1_8_2 {E : zEn} {vs : List (Nat × Nat)} {mi : Nat → Nat → Int32} {ml : Nat → Nat → Int64} {g : Nat → Nat → Option Nat} {x y v : Int32} (h1 : mi 51 1 = 8) (h2 : mi 51 2 = 6) (h3 : mi 51 3 = y) (h4 : mi 51 4 = v) : Wp E 5 pg_Performance_perform 0 (lv_args 0 [.ref 51, .int 3, .int 1, .int x, .int 2]) [] (zsh ++ vs, mi, ml, (zmr g)) (fun r w' => r = some (.int (((x + y) ^^^ v) - v)) ∧ w' = (zsh ++ vs, (zup (zup (zup (zup (zup (zup mi 52 8 11) 51 1 9) 52 9 71) 51 1 10) 52 10 10) 51 1 11), ml, zmr g)) := by
  refine Wp.run 24 (15, [(6, .int 1), (5, .int 0), (0, .ref 51), (1, .int 3), (2, .int 1), (3, .int x), (4, .int 2)], [], (zsh ++ vs, mi, ml, (zmr g))) rfl ?_
  refine Wp.run 21 (65, [(6, .int 11), (5, .int 0), (0, .ref 51), (1, .int 3), (2, .int 1), (3, .int x), (4, .int 2)], [.int (mi 51 1)], (zsh ++ vs, mi, ml, (zmr g))) rfl ?_
  refine Wp.topi (y := 8) (h1) ?_
  refine Wp.run 6 (78, [(6, .int 11), (5, .int 0), (0, .ref 51), (1, .int 3), (2, .int 1), (3, .int x), (4, .int 2)], [.int (mi 51 1), .ref 52], (zsh ++ vs, mi, ml, (zmr g))) rfl ?_
  refine Wp.topi (y := 8) (h1) ?_
  refine Wp.run 5 (86, [(6, .int 11), (5, .int 0), (0, .ref 51), (1, .int 3), (2, .int 1), (3, .int x), (4, .int 2)], [.int (mi 51 1), .ref 51], (zsh ++ vs, (zup mi 52 8 11), ml, (zmr g))) rfl ?_
  refine Wp.topi (y := 8) (h1) ?_
  refine Wp.run 12 (105, [(6, .int 11), (5, .int 0), (0, .ref 51), (1, .int 3), (2, .int 1), (3, .int x), (4, .int 2)], [.int 3, .int x, .int 0, .int 11, .ref 51], (zsh ++ vs, (zup (zup mi 52 8 11) 51 1 9), ml, (zmr g))) rfl ?_
  refine Wp.call (as := [.ref 51, .int 11, .int 0, .int x, .int 3]) (rest := []) rfl rfl rfl rfl rfl (Nat.le_of_ble_eq_true rfl) (Nat.le_of_ble_eq_true rfl) rfl (by decide) (c_rn_6_3_1_8_2 (mi := (zup (zup mi 52 8 11) 51 1 9)) rfl h2 h3 h4) ?_
  rintro _ _ ⟨rfl, rfl⟩
  refine Wp.run 0 (108, [(6, .int 11), (5, .int 0), (0, .ref 51), (1, .int 3), (2, .int 1), (3, .int x), (4, .int 2)], [.int (((x + y) ^^^ v) - v)], (zsh ++ vs, (zup (zup (zup (zup (zup (zup mi 52 8 11) 51 1 9) 52 9 71) 51 1 10) 52 10 10) 51 1 11), ml, (zmr g))) rfl ?_
  refine Wp.ret rfl rfl rfl ?_
  exact ⟨rfl, rfl⟩
theorem c_rn_6_3_0_11_2 {E : zEn} {vs : List (Nat × Nat)} {mi : Nat → Nat → Int32} {ml : Nat → Nat → Int64} {g : Nat → Nat → Option Nat} {x y v : Int32} (h1 : mi 51 1 = 12) (h2 : mi 51 2 = 6) (h3 : mi 51 3 = y) (h4 : mi 51 4 = v) : Wp E 0 pg_Performance_run 0 (lv_args 0 [.ref 51, .int 10, .int 0, .int x, .int 3]) [] (zsh ++ vs, mi, ml, (zmr g)) (fun r w' => r = some (.int (x + y)) ∧ w' = (zsh ++ vs, mi, ml, zmr g)) := by
  refine Wp.run 5 (105, [(0, .ref 51), (1, .int 10), (2, .int 0), (3, .int x), (4, .int 3)], [.int (mi 51 3), .int x], (zsh ++ vs, mi, ml, (zmr g))) rfl ?_
  refine Wp.topi (y := y) (h3) ?_
  refine Wp.run 1 (106, [(0, .ref 51), (1, .int 10), (2, .int 0), (3, .int x), (4, .int 3)], [.int (x + y)], (zsh ++ vs, mi, ml, (zmr g))) rfl ?_
  refine Wp.ret rfl rfl rfl ?_
  exact ⟨rfl, rfl⟩
theorem c_pf_6_3_0_11_2 {E : zEn} {vs : List (Nat × Nat)} {mi : Nat → Nat → Int32} {ml : Nat → Nat → Int64} {g : Nat → Nat → Option Nat} {x y v : Int32} (h1 : mi 51 1 = 11) (h2 : mi 51 2 = 6) (h3 : mi 51 3 = y) (h4 : mi 51 4 = v) : Wp E 1 pg_Performance_perform 0 (lv_args 0 [.ref 51, .int 3, .int 0, .int x, .int 2]) [] (zsh ++ vs, mi, ml, (zmr g)) (fun r w' => r = some (.int (x + y)) ∧ w' = (zsh ++ vs, (zup (zup mi 52 11 10) 51 1 12), ml, zmr g)) := by
  refine Wp.run 24 (15, [(6, .int 1), (5, .int 0), (0, .ref 51), (1, .int 3), (2, .int 0), (3, .int x), (4, .int 2)], [], (zsh ++ vs, mi, ml, (zmr g))) rfl ?_
  refine Wp.run 21 (65, [(6, .int 10), (5, .int 0), (0, .ref 51), (1, .int 3), (2, .int 0), (3, .int x), (4, .int 2)], [.int (mi 51 1)], (zsh ++ vs, mi, ml, (zmr g))) rfl ?_
  refine Wp.topi (y := 11) (h1) ?_
  refine Wp.run 6 (78, [(6, .int 10), (5, .int 0), (0, .ref 51), (1, .int 3), (2, .int 0), (3, .int x), (4, .int 2)], [.int (mi 51 1), .ref 52], (zsh ++ vs, mi, ml, (zmr g))) rfl ?_
  refine Wp.topi (y := 11) (h1) ?_
  refine Wp.run 5 (86, [(6, .int 10), (5, .int 0), (0, .ref 51), (1, .int 3), (2, .int 0), (3, .int x), (4, .int 2)], [.int (mi 51 1), .ref 51], (zsh ++ vs, (zup mi 52 11 10), ml, (zmr g))) rfl ?_
  refine Wp.topi (y := 11) (h1) ?_
  refine Wp.run 12 (105, [(6, .int 10), (5, .int 0), (0, .ref 51), (1, .int 3), (2, .int 0), (3, .int x), (4, .int 2)], [.int 3, .int x, .int 0, .int 10, .ref 51], (zsh ++ vs, (zup (zup mi 52 11 10) 51 1 12), ml, (zmr g))) rfl ?_
  refine Wp.call (as := [.ref 51, .int 10, .int 0, .int x, .int 3]) (rest := []) rfl rfl rfl rfl rfl (Nat.le_of_ble_eq_true rfl) (Nat.le_of_ble_eq_true rfl) rfl (by decide) (c_rn_6_3_0_11_2 (mi := (zup (zup mi 52 11 10) 51 1 12)) rfl h2 h3 h4) ?_
  rintro _ _ ⟨rfl, rfl⟩
  refine Wp.run 0 (108, [(6, .int 10), (5, .int 0), (0, .ref 51), (1, .int 3), (2, .int 0), (3, .int x), (4, .int 2)], [.int (x + y)], (zsh ++ vs, (zup (zup mi 52 11 10) 51 1 12), ml, (zmr g))) rfl ?_
  refine Wp.ret rfl rfl rfl ?_
  exact ⟨rfl, rfl⟩
theorem c_rn_6_6_1_7_1 {E : zEn} {vs : List (Nat × Nat)} {mi : Nat → Nat → Int32} {ml : Nat → Nat → Int64} {g : Nat → Nat → Option Nat} {x y v : Int32} (h1 : mi 51 1 = 8) (h2 : mi 51 2 = 6) (h3 : mi 51 3 = y) (h4 : mi 51 4 = v) : Wp E 6 pg_Performance_run 0 (lv_args 0 [.ref 51, .int 70, .int 3, .int x, .int 2]) [] (zsh ++ vs, mi, ml, (zmr g)) (fun r w' => r = some (.int ((((x + y) ^^^ v) - v) + (2 + y))) ∧ w' = (zsh ++ vs, (zup (zup (zup (zup (zup (zup (zup (zup mi 52 8 11) 51 1 9) 52 9 71) 51 1 10) 52 10 10) 51 1 11) 52 11 10) 51 1 12), ml, zmr g)) := by
  refine Wp.run 7 (232, [(0, .ref 51), (1, .int 70), (2, .int 3), (3, .int x), (4, .int 2)], [.int 2, .int x, .int 1, .int 3, .ref 51], (zsh ++ vs, mi, ml, (zmr g))) rfl ?_
  refine Wp.call (as := [.ref 51, .int 3, .int 1, .int x, .int 2]) (rest := []) rfl rfl rfl rfl rfl (Nat.le_of_ble_eq_true rfl) (Nat.le_of_ble_eq_true rfl) rfl (by decide) (c_pf_6_3_1_8_2 (mi := mi) (x := x) h1 h2 h3 h4) ?_
  rintro _ _ ⟨rfl, rfl⟩
  refine Wp.run 5 (241, [(0, .ref 51), (1, .int 70), (2, .int 3), (3, .int x), (4, .int 2)], [.int 2, .int 2, .int 0, .int 3, .ref 51, .int (((x + y) ^^^ v) - v)], (zsh ++ vs, (zup (zup (zup (zup (zup (zup mi 52 8 11) 51 1 9) 52 9 71) 51 1 10) 52 10 10) 51 1 11), ml, (zmr g))) rfl ?_
  refine Wp.call (as := [.ref 51, .int 3, .int 0, .int 2, .int 2]) (rest := [.int (((x + y) ^^^ v) - v)]) rfl rfl rfl rfl rfl (Nat.le_of_ble_eq_true rfl) (Nat.le_of_ble_eq_true rfl) rfl (by decide) (c_pf_6_3_0_11_2 (mi := (zup (zup (zup (zup (zup (zup mi 52 8 11) 51 1 9) 52 9 71) 51 1 10) 52 10 10) 51 1 11)) (x := 2) rfl h2 h3 h4) ?_
  rintro _ _ ⟨rfl, rfl⟩
  refine Wp.run 1 (245, [(0, .ref 51), (1, .int 70), (2, .int 3), (3, .int x), (4, .int 2)], [.int ((((x + y) ^^^ v) - v) + (2 + y))], (zsh ++ vs, (zup (zup (zup (zup (zup (zup (zup (zup mi 52 8 11) 51 1 9) 52 9 71) 51 1 10) 52 10 10) 51 1 11) 52 11 10) 51 1 12), ml, (zmr g))) rfl ?_
  refine Wp.ret rfl rfl rfl ?_
  exact ⟨rfl, rfl⟩
theorem c_pf_6_6_1_7_1 {E : zEn} {vs : List (Nat × Nat)} {mi : Nat → Nat → Int32} {ml : Nat → Nat → Int64} {g : Nat → Nat → Option Nat} {x y v : Int32} (h1 : mi 51 1 = 7) (h2 : mi 51 2 = 6) (h3 : mi 51 3 = y) (h4 : mi 51 4 = v) : Wp E 7 pg_Performance_perform 0 (lv_args 0 [.ref 51, .int 6, .int 1, .int x, .int 1]) [] (zsh ++ vs, mi, ml, (zmr g)) (fun r w' => r = some (.int ((((x + y) ^^^ v) - v) + (2 + y))) ∧ w' = (zsh ++ vs, (zup (zup (zup (zup (zup (zup (zup (zup (zup (zup mi 52 7 70) 51 1 8) 52 8 11) 51 1 9) 52 9 71) 51 1 10) 52 10 10) 51 1 11) 52 11 10) 51 1 12), ml, zmr g)) := by
  refine Wp.run 24 (58, [(6, .int 0), (5, .int 6), (0, .ref 51), (1, .int 6), (2, .int 1), (3, .int x), (4, .int 1)], [.int 19, .ref 502], (zsh ++ vs, mi, ml, (zmr g))) rfl ?_
  refine Wp.run 4 (65, [(6, .int 70), (5, .int 6), (0, .ref 51), (1, .int 6), (2, .int 1), (3, .int x), (4, .int 1)], [.int (mi 51 1)], (zsh ++ vs, mi, ml, (zmr g))) rfl ?_
  refine Wp.topi (y := 7) (h1) ?_
  refine Wp.run 6 (78, [(6, .int 70), (5, .int 6), (0, .ref 51), (1, .int 6), (2, .int 1), (3, .int x), (4, .int 1)], [.int (mi 51 1), .ref 52], (zsh ++ vs, mi, ml, (zmr g))) rfl ?_
  refine Wp.topi (y := 7) (h1) ?_
  refine Wp.run 5 (86, [(6, .int 70), (5, .int 6), (0, .ref 51), (1, .int 6), (2, .int 1), (3, .int x), (4, .int 1)], [.int (mi 51 1), .ref 51], (zsh ++ vs, (zup mi 52 7 70), ml, (zmr g))) rfl ?_
  refine Wp.topi (y := 7) (h1) ?_
  refine Wp.run 12 (105, [(6, .int 70), (5, .int 6), (0, .ref 51), (1, .int 6), (2, .int 1), (3, .int x), (4, .int 1)], [.int 2, .int x, .int 3, .int 70, .ref 51], (zsh ++ vs, (zup (zup mi 52 7 70) 51 1 8), ml, (zmr g))) rfl ?_
  refine Wp.call (as := [.ref 51, .int 70, .int 3, .int x, .int 2]) (rest := []) rfl rfl rfl rfl rfl (Nat.le_of_ble_eq_true rfl) (Nat.le_of_ble_eq_true rfl) rfl (by decide) (c_rn_6_6_1_7_1 (mi := (zup (zup mi 52 7 70) 51 1 8)) rfl h2 h3 h4) ?_
  rintro _ _ ⟨rfl, rfl⟩
  refine Wp.run 0 (108, [(6, .int 70), (5, .int 6), (0, .ref 51), (1, .int 6), (2, .int 1), (3, .int x), (4, .int 1)], [.int ((((x + y) ^^^ v) - v) + (2 + y))], (zsh ++ vs, (zup (zup (zup (zup (zup (zup (zup (zup (zup (zup mi 52 7 70) 51 1 8) 52 8 11) 51 1 9) 52 9 71) 51 1 10) 52 10 10) 51 1 11) 52 11 10) 51 1 12), ml, (zmr g))) rfl ?_
  refine Wp.ret rfl rfl rfl ?_
  exact ⟨rfl, rfl⟩
theorem c_rn_6_6_2_0_0 {E : zEn} {vs : List (Nat × Nat)} {mi : Nat → Nat → Int32} {ml : Nat → Nat → Int64} {g : Nat → Nat → Option Nat} {x y v : Int32} (h1 : mi 51 1 = 1) (h2 : mi 51 2 = 6) (h3 : mi 51 3 = y) (h4 : mi 51 4 = v) : Wp E 10 pg_Performance_run 0 (lv_args 0 [.ref 51, .int 40, .int 0, .int x, .int 1]) [] (zsh ++ vs, mi, ml, (zmr g)) (fun r w' => r = some (.int ((((((x + y) ^^^ v) - v) + (2 + y)) * 2) + ((((1 + y) ^^^ v) - v) + (2 + y)))) ∧ w' = (zsh ++ vs, (zup (zup (zup (zup (zup (zup (zup (zup (zup (zup (zup (zup (zup (zup (zup (zup (zup (zup (zup (zup (zup (zup mi 52 1 12) 51 1 2) 52 2 70) 51 1 3) 52 3 11) 51 1 4) 52 4 71) 51 1 5) 52 5 10) 51 1 6) 52 6 10) 51 1 7) 52 7 70) 51 1 8) 52 8 11) 51 1 9) 52 9 71) 51 1 10) 52 10 10) 51 1 11) 52 11 10) 51 1 12), ml, zmr g)) := by
  refine Wp.run 7 (171, [(0, .ref 51), (1, .int 40), (2, .int 0), (3, .int x), (4, .int 1)], [.int 1, .int x, .int 2, .int 0, .ref 51], (zsh ++ vs, mi, ml, (zmr g))) rfl ?_
  refine Wp.call (as := [.ref 51, .int 0, .int 2, .int x, .int 1]) (rest := []) rfl rfl rfl rfl rfl (Nat.le_of_ble_eq_true rfl) (Nat.le_of_ble_eq_true rfl) rfl (by decide) (c_pf_6_0_2_1_1 (mi := mi) (x := x) h1 h2 h3 h4) ?_
  rintro _ _ ⟨rfl, rfl⟩
  refine Wp.run 3 (179, [(0, .ref 51), (1, .int 40), (2, .int 0), (3, .int x), (4, .int 1)], [.int (mi 51 2), .ref 51, .int (((((x + y) ^^^ v) - v) + (2 + y)) * 2)], (zsh ++ vs, (zup (zup (zup (zup (zup (zup (zup (zup (zup (zup (zup (zup mi 52 1 12) 51 1 2) 52 2 70) 51 1 3) 52 3 11) 51 1 4) 52 4 71) 51 1 5) 52 5 10) 51 1 6) 52 6 10) 51 1 7), ml, (zmr g))) rfl ?_
  refine Wp.topi (y := 6) (h2) ?_
  refine Wp.run 3 (183, [(0, .ref 51), (1, .int 40), (2, .int 0), (3, .int x), (4, .int 1)], [.int 1, .int 1, .int 1, .int 6, .ref 51, .int (((((x + y) ^^^ v) - v) + (2 + y)) * 2)], (zsh ++ vs, (zup (zup (zup (zup (zup (zup (zup (zup (zup (zup (zup (zup mi 52 1 12) 51 1 2) 52 2 70) 51 1 3) 52 3 11) 51 1 4) 52 4 71) 51 1 5) 52 5 10) 51 1 6) 52 6 10) 51 1 7), ml, (zmr g))) rfl ?_
  refine Wp.call (as := [.ref 51, .int 6, .int 1, .int 1, .int 1]) (rest := [.int (((((x + y) ^^^ v) - v) + (2 + y)) * 2)]) rfl rfl rfl rfl rfl (Nat.le_of_ble_eq_true rfl) (Nat.le_of_ble_eq_true rfl) rfl (by decide) (c_pf_6_6_1_7_1 (mi := (zup (zup (zup (zup (zup (zup (zup (zup (zup (zup (zup (zup mi 52 1 12) 51 1 2) 52 2 70) 51 1 3) 52 3 11) 51 1 4) 52 4 71) 51 1 5) 52 5 10) 51 1 6) 52 6 10) 51 1 7)) (x := 1) rfl h2 h3 h4) ?_
  rintro _ _ ⟨rfl, rfl⟩
  refine Wp.run 1 (187, [(0, .ref 51), (1, .int 40), (2, .int 0), (3, .int x), (4, .int 1)], [.int ((((((x + y) ^^^ v) - v) + (2 + y)) * 2) + ((((1 + y) ^^^ v) - v) + (2 + y)))], (zsh ++ vs, (zup (zup (zup (zup (zup (zup (zup (zup (zup (zup (zup (zup (zup (zup (zup (zup (zup (zup (zup (zup (zup (zup mi 52 1 12) 51 1 2) 52 2 70) 51 1 3) 52 3 11) 51 1 4) 52 4 71) 51 1 5) 52 5 10) 51 1 6) 52 6 10) 51 1 7) 52 7 70) 51 1 8) 52 8 11) 51 1 9) 52 9 71) 51 1 10) 52 10 10) 51 1 11) 52 11 10) 51 1 12), ml, (zmr g))) rfl ?_
  refine Wp.ret rfl rfl rfl ?_
  exact ⟨rfl, rfl⟩
theorem c_pf_6_6_2_0_0 {E : zEn} {vs : List (Nat × Nat)} {mi : Nat → Nat → Int32} {ml : Nat → Nat → Int64} {g : Nat → Nat → Option Nat} {x y v : Int32} (h1 : mi 51 1 = 0) (h2 : mi 51 2 = 6) (h3 : mi 51 3 = y) (h4 : mi 51 4 = v) : Wp E 11 pg_Performance_perform 0 (lv_args 0 [.ref 51, .int 6, .int 2, .int x, .int 0]) [] (zsh ++ vs, mi, ml, (zmr g)) (fun r w' => r = some (.int ((((((x + y) ^^^ v) - v) + (2 + y)) * 2) + ((((1 + y) ^^^ v) - v) + (2 + y)))) ∧ w' = (zsh ++ vs, (zup (zup (zup (zup (zup (zup (zup (zup (zup (zup (zup (zup (zup (zup (zup (zup (zup (zup (zup (zup (zup (zup (zup (zup mi 52 0 40) 51 1 1) 52 1 12) 51 1 2) 52 2 70) 51 1 3) 52 3 11) 51 1 4) 52 4 71) 51 1 5) 52 5 10) 51 1 6) 52 6 10) 51 1 7) 52 7 70) 51 1 8) 52 8 11) 51 1 9) 52 9 71) 51 1 10) 52 10 10) 51 1 11) 52 11 10) 51 1 12), ml, zmr g)) := by
  refine Wp.run 24 (15, [(6, .int 1), (5, .int 3), (0, .ref 51), (1, .int 6), (2, .int 2), (3, .int x), (4, .int 0)], [], (zsh ++ vs, mi, ml, (zmr g))) rfl ?_
  refine Wp.run 21 (65, [(6, .int 40), (5, .int 3), (0, .ref 51), (1, .int 6), (2, .int 2), (3, .int x), (4, .int 0)], [.int (mi 51 1)], (zsh ++ vs, mi, ml, (zmr g))) rfl ?_
  refine Wp.topi (y := 0) (h1) ?_
  refine Wp.run 6 (78, [(6, .int 40), (5, .int 3), (0, .ref 51), (1, .int 6), (2, .int 2), (3, .int x), (4, .int 0)], [.int (mi 51 1), .ref 52], (zsh ++ vs, mi, ml, (zmr g))) rfl ?_
  refine Wp.topi (y := 0) (h1) ?_
  refine Wp.run 5 (86, [(6, .int 40), (5, .int 3), (0, .ref 51), (1, .int 6), (2, .int 2), (3, .int x), (4, .int 0)], [.int (mi 51 1), .ref 51], (zsh ++ vs, (zup mi 52 0 40), ml, (zmr g))) rfl ?_
  refine Wp.topi (y := 0) (h1) ?_
  refine Wp.run 12 (105, [(6, .int 40), (5, .int 3), (0, .ref 51), (1, .int 6), (2, .int 2), (3, .int x), (4, .int 0)], [.int 1, .int x, .int 0, .int 40, .ref 51], (zsh ++ vs, (zup (zup mi 52 0 40) 51 1 1), ml, (zmr g))) rfl ?_
  refine Wp.call (as := [.ref 51, .int 40, .int 0, .int x, .int 1]) (rest := []) rfl rfl rfl rfl rfl (Nat.le_of_ble_eq_true rfl) (Nat.le_of_ble_eq_true rfl) rfl (by decide) (c_rn_6_6_2_0_0 (mi := (zup (zup mi 52 0 40) 51 1 1)) rfl h2 h3 h4) ?_
  rintro _ _ ⟨rfl, rfl⟩
  refine Wp.run 0 (108, [(6, .int 40), (5, .int 3), (0, .ref 51), (1, .int 6), (2, .int 2), (3, .int x), (4, .int 0)], [.int ((((((x + y) ^^^ v) - v) + (2 + y)) * 2) + ((((1 + y) ^^^ v) - v) + (2 + y)))], (zsh ++ vs, (zup (zup (zup (zup (zup (zup (zup (zup (zup (zup (zup (zup (zup (zup (zup (zup (zup (zup (zup (zup (zup (zup (zup (zup mi 52 0 40) 51 1 1) 52 1 12) 51 1 2) 52 2 70) 51 1 3) 52 3 11) 51 1 4) 52 4 71) 51 1 5) 52 5 10) 51 1 6) 52 6 10) 51 1 7) 52 7 70) 51 1 8) 52 8 11) 51 1 9) 52 9 71) 51 1 10) 52 10 10) 51 1 11) 52 11 10) 51 1 12), ml, (zmr g))) rfl ?_
  refine Wp.ret rfl rfl rfl ?_
  exact ⟨rfl, rfl⟩
theorem c_begin_0_0 {E : zEn} {vs : List (Nat × Nat)} {mi : Nat → Nat → Int32} {ml : Nat → Nat → Int64} {g : Nat → Nat → Option Nat} {x v : Int32} {i : Nat} (hi : i < 6) (h1 : mi 51 1 = 0) (h2 : mi 3 i = 0) (h4 : mi 4 i = v) : Wp E 2 pg_Performance_begin 0 (lv_args 0 [.ref 51, .ref 1, .int (nI i), .int 0, .int x]) [] (zsh ++ vs, mi, ml, (zmr g)) (fun r w' => r = some (.int (x + (nI i))) ∧ w' = (zsh ++ vs, (zup (zup (zup (zup (zup mi 51 2 0) 51 3 (nI i)) 51 4 v) 52 0 10) 51 1 1), ml, zmr g)) := by
  refine Wp.run 4 (6, [(0, .ref 51), (1, .ref 1), (2, .int (nI i)), (3, .int 0), (4, .int x)], [.int (nI i), .ref 3, .ref 51], (zsh ++ vs, mi, ml, (zmr g))) rfl ?_
  refine Wp.ialn rfl (by decide) rfl (by omega) (by decide) ?_
  refine Wp.topi (y := 0) (h2) ?_
  refine Wp.run 8 (21, [(0, .ref 51), (1, .ref 1), (2, .int (nI i)), (3, .int 0), (4, .int x)], [.int (nI i), .ref 4, .ref 51], (zsh ++ vs, (zup (zup mi 51 2 0) 51 3 (nI i)), ml, (zmr g))) rfl ?_
  refine Wp.ialn rfl (by decide) rfl (by omega) (by decide) ?_
  refine Wp.topi (y := v) (h4) ?_
  refine Wp.run 7 (34, [(0, .ref 51), (1, .ref 1), (2, .int (nI i)), (3, .int 0), (4, .int x)], [.int 0, .int x, .int 0, .int 0, .ref 51], (zsh ++ vs, (zup (zup (zup mi 51 2 0) 51 3 (nI i)) 51 4 v), ml, (zmr g))) rfl ?_
  refine Wp.call (as := [.ref 51, .int 0, .int 0, .int x, .int 0]) (rest := []) rfl rfl rfl rfl rfl (Nat.le_of_ble_eq_true rfl) (Nat.le_of_ble_eq_true rfl) rfl (by decide) (c_pf_0_0_0_0_0 (mi := (zup (zup (zup mi 51 2 0) 51 3 (nI i)) 51 4 v)) (y := nI i) (v := v) h1 rfl rfl rfl) ?_
  rintro _ _ ⟨rfl, rfl⟩
  refine Wp.run 0 (37, [(0, .ref 51), (1, .ref 1), (2, .int (nI i)), (3, .int 0), (4, .int x)], [.int (x + (nI i))], (zsh ++ vs, (zup (zup (zup (zup (zup mi 51 2 0) 51 3 (nI i)) 51 4 v) 52 0 10) 51 1 1), ml, (zmr g))) rfl ?_
  refine Wp.ret rfl rfl rfl ?_
  exact ⟨rfl, rfl⟩
theorem c_begin_0_1 {E : zEn} {vs : List (Nat × Nat)} {mi : Nat → Nat → Int32} {ml : Nat → Nat → Int64} {g : Nat → Nat → Option Nat} {x v : Int32} {i : Nat} (hi : i < 6) (h1 : mi 51 1 = 0) (h2 : mi 3 i = 0) (h4 : mi 4 i = v) : Wp E 4 pg_Performance_begin 0 (lv_args 0 [.ref 51, .ref 1, .int (nI i), .int 1, .int x]) [] (zsh ++ vs, mi, ml, (zmr g)) (fun r w' => r = some (.int ((x + (nI i)) - v)) ∧ w' = (zsh ++ vs, (zup (zup (zup (zup (zup (zup (zup mi 51 2 0) 51 3 (nI i)) 51 4 v) 52 0 11) 51 1 1) 52 1 10) 51 1 2), ml, zmr g)) := by
  refine Wp.run 4 (6, [(0, .ref 51), (1, .ref 1), (2, .int (nI i)), (3, .int 1), (4, .int x)], [.int (nI i), .ref 3, .ref 51], (zsh ++ vs, mi, ml, (zmr g))) rfl ?_
  refine Wp.ialn rfl (by decide) rfl (by omega) (by decide) ?_
  refine Wp.topi (y := 0) (h2) ?_
  refine Wp.run 8 (21, [(0, .ref 51), (1, .ref 1), (2, .int (nI i)), (3, .int 1), (4, .int x)], [.int (nI i), .ref 4, .ref 51], (zsh ++ vs, (zup (zup mi 51 2 0) 51 3 (nI i)), ml, (zmr g))) rfl ?_
  refine Wp.ialn rfl (by decide) rfl (by omega) (by decide) ?_
  refine Wp.topi (y := v) (h4) ?_
  refine Wp.run 7 (34, [(0, .ref 51), (1, .ref 1), (2, .int (nI i)), (3, .int 1), (4, .int x)], [.int 0, .int x, .int 1, .int 0, .ref 51], (zsh ++ vs, (zup (zup (zup mi 51 2 0) 51 3 (nI i)) 51 4 v), ml, (zmr g))) rfl ?_
  refine Wp.call (as := [.ref 51, .int 0, .int 1, .int x, .int 0]) (rest := []) rfl rfl rfl rfl rfl (Nat.le_of_ble_eq_true rfl) (Nat.le_of_ble_eq_true rfl) rfl (by decide) (c_pf_0_0_1_0_0 (mi := (zup (zup (zup mi 51 2 0) 51 3 (nI i)) 51 4 v)) (y := nI i) (v := v) h1 rfl rfl rfl) ?_
  rintro _ _ ⟨rfl, rfl⟩
  refine Wp.run 0 (37, [(0, .ref 51), (1, .ref 1), (2, .int (nI i)), (3, .int 1), (4, .int x)], [.int ((x + (nI i)) - v)], (zsh ++ vs, (zup (zup (zup (zup (zup (zup (zup mi 51 2 0) 51 3 (nI i)) 51 4 v) 52 0 11) 51 1 1) 52 1 10) 51 1 2), ml, (zmr g))) rfl ?_
  refine Wp.ret rfl rfl rfl ?_
  exact ⟨rfl, rfl⟩
theorem c_begin_0_2 {E : zEn} {vs : List (Nat × Nat)} {mi : Nat → Nat → Int32} {ml : Nat → Nat → Int64} {g : Nat → Nat → Option Nat} {x v : Int32} {i : Nat} (hi : i < 6) (h1 : mi 51 1 = 0) (h2 : mi 3 i = 0) (h4 : mi 4 i = v) : Wp E 6 pg_Performance_begin 0 (lv_args 0 [.ref 51, .ref 1, .int (nI i), .int 2, .int x]) [] (zsh ++ vs, mi, ml, (zmr g)) (fun r w' => r = some (.int (((x + (nI i)) - v) * 2)) ∧ w' = (zsh ++ vs, (zup (zup (zup (zup (zup (zup (zup (zup (zup mi 51 2 0) 51 3 (nI i)) 51 4 v) 52 0 12) 51 1 1) 52 1 11) 51 1 2) 52 2 10) 51 1 3), ml, zmr g)) := by
  refine Wp.run 4 (6, [(0, .ref 51), (1, .ref 1), (2, .int (nI i)), (3, .int 2), (4, .int x)], [.int (nI i), .ref 3, .ref 51], (zsh ++ vs, mi, ml, (zmr g))) rfl ?_
  refine Wp.ialn rfl (by decide) rfl (by omega) (by decide) ?_
  refine Wp.topi (y := 0) (h2) ?_
  refine Wp.run 8 (21, [(0, .ref 51), (1, .ref 1), (2, .int (nI i)), (3, .int 2), (4, .int x)], [.int (nI i), .ref 4, .ref 51], (zsh ++ vs, (zup (zup mi 51 2 0) 51 3 (nI i)), ml, (zmr g))) rfl ?_
  refine Wp.ialn rfl (by decide) rfl (by omega) (by decide) ?_
  refine Wp.topi (y := v) (h4) ?_
  refine Wp.run 7 (34, [(0, .ref 51), (1, .ref 1), (2, .int (nI i)), (3, .int 2), (4, .int x)], [.int 0, .int x, .int 2, .int 0, .ref 51], (zsh ++ vs, (zup (zup (zup mi 51 2 0) 51 3 (nI i)) 51 4 v), ml, (zmr g))) rfl ?_
  refine Wp.call (as := [.ref 51, .int 0, .int 2, .int x, .int 0]) (rest := []) rfl rfl rfl rfl rfl (Nat.le_of_ble_eq_true rfl) (Nat.le_of_ble_eq_true rfl) rfl (by decide) (c_pf_0_0_2_0_0 (mi := (zup (zup (zup mi 51 2 0) 51 3 (nI i)) 51 4 v)) (y := nI i) (v := v) h1 rfl rfl rfl) ?_
  rintro _ _ ⟨rfl, rfl⟩
  refine Wp.run 0 (37, [(0, .ref 51), (1, .ref 1), (2, .int (nI i)), (3, .int 2), (4, .int x)], [.int (((x + (nI i)) - v) * 2)], (zsh ++ vs, (zup (zup (zup (zup (zup (zup (zup (zup (zup mi 51 2 0) 51 3 (nI i)) 51 4 v) 52 0 12) 51 1 1) 52 1 11) 51 1 2) 52 2 10) 51 1 3), ml, (zmr g))) rfl ?_
  refine Wp.ret rfl rfl rfl ?_
  exact ⟨rfl, rfl⟩
theorem c_begin_1_0 {E : zEn} {vs : List (Nat × Nat)} {mi : Nat → Nat → Int32} {ml : Nat → Nat → Int64} {g : Nat → Nat → Option Nat} {x v : Int32} {i : Nat} (hi : i < 6) (h1 : mi 51 1 = 0) (h2 : mi 3 i = 1) (h4 : mi 4 i = v) : Wp E 2 pg_Performance_begin 0 (lv_args 0 [.ref 51, .ref 1, .int (nI i), .int 0, .int x]) [] (zsh ++ vs, mi, ml, (zmr g)) (fun r w' => r = some (.int (x + (nI i))) ∧ w' = (zsh ++ vs, (zup (zup (zup (zup (zup mi 51 2 1) 51 3 (nI i)) 51 4 v) 52 0 10) 51 1 1), ml, zmr g)) := by
  refine Wp.run 4 (6, [(0, .ref 51), (1, .ref 1), (2, .int (nI i)), (3, .int 0), (4, .int x)], [.int (nI i), .ref 3, .ref 51], (zsh ++ vs, mi, ml, (zmr g))) rfl ?_
  refine Wp.ialn rfl (by decide) rfl (by omega) (by decide) ?_
  refine Wp.topi (y := 1) (h2) ?_
  refine Wp.run 8 (21, [(0, .ref 51), (1, .ref 1), (2, .int (nI i)), (3, .int 0), (4, .int x)], [.int (nI i), .ref 4, .ref 51], (zsh ++ vs, (zup (zup mi 51 2 1) 51 3 (nI i)), ml, (zmr g))) rfl ?_
  refine Wp.ialn rfl (by decide) rfl (by omega) (by decide) ?_
  refine Wp.topi (y := v) (h4) ?_
  refine Wp.run 7 (34, [(0, .ref 51), (1, .ref 1), (2, .int (nI i)), (3, .int 0), (4, .int x)], [.int 0, .int x, .int 0, .int 1, .ref 51], (zsh ++ vs, (zup (zup (zup mi 51 2 1) 51 3 (nI i)) 51 4 v), ml, (zmr g))) rfl ?_
  refine Wp.call (as := [.ref 51, .int 1, .int 0, .int x, .int 0]) (rest := []) rfl rfl rfl rfl rfl (Nat.le_of_ble_eq_true rfl) (Nat.le_of_ble_eq_true rfl) rfl (by decide) (c_pf_1_1_0_0_0 (mi := (zup (zup (zup mi 51 2 1) 51 3 (nI i)) 51 4 v)) (y := nI i) (v := v) h1 rfl rfl rfl) ?_
  rintro _ _ ⟨rfl, rfl⟩
  refine Wp.run 0 (37, [(0, .ref 51), (1, .ref 1), (2, .int (nI i)), (3, .int 0), (4, .int x)], [.int (x + (nI i))], (zsh ++ vs, (zup (zup (zup (zup (zup mi 51 2 1) 51 3 (nI i)) 51 4 v) 52 0 10) 51 1 1), ml, (zmr g))) rfl ?_
  refine Wp.ret rfl rfl rfl ?_
  exact ⟨rfl, rfl⟩
theorem c_begin_1_1 {E : zEn} {vs : List (Nat × Nat)} {mi : Nat → Nat → Int32} {ml : Nat → Nat → Int64} {g : Nat → Nat → Option Nat} {x v : Int32} {i : Nat} (hi : i < 6) (h1 : mi 51 1 = 0) (h2 : mi 3 i = 1) (h4 : mi 4 i = v) : Wp E 6 pg_Performance_begin 0 (lv_args 0 [.ref 51, .ref 1, .int (nI i), .int 1, .int x]) [] (zsh ++ vs, mi, ml, (zmr g)) (fun r w' => r = some (.int (((x + (nI i)) - v) ^^^ 6)) ∧ w' = (zsh ++ vs, (zup (zup (zup (zup (zup (zup (zup (zup (zup mi 51 2 1) 51 3 (nI i)) 51 4 v) 52 0 20) 51 1 1) 52 1 11) 51 1 2) 52 2 10) 51 1 3), ml, zmr g)) := by
  refine Wp.run 4 (6, [(0, .ref 51), (1, .ref 1), (2, .int (nI i)), (3, .int 1), (4, .int x)], [.int (nI i), .ref 3, .ref 51], (zsh ++ vs, mi, ml, (zmr g))) rfl ?_
  refine Wp.ialn rfl (by decide) rfl (by omega) (by decide) ?_
  refine Wp.topi (y := 1) (h2) ?_
  refine Wp.run 8 (21, [(0, .ref 51), (1, .ref 1), (2, .int (nI i)), (3, .int 1), (4, .int x)], [.int (nI i), .ref 4, .ref 51], (zsh ++ vs, (zup (zup mi 51 2 1) 51 3 (nI i)), ml, (zmr g))) rfl ?_
  refine Wp.ialn rfl (by decide) rfl (by omega) (by decide) ?_
  refine Wp.topi (y := v) (h4) ?_
  refine Wp.run 7 (34, [(0, .ref 51), (1, .ref 1), (2, .int (nI i)), (3, .int 1), (4, .int x)], [.int 0, .int x, .int 1, .int 1, .ref 51], (zsh ++ vs, (zup (zup (zup mi 51 2 1) 51 3 (nI i)) 51 4 v), ml, (zmr g))) rfl ?_
  refine Wp.call (as := [.ref 51, .int 1, .int 1, .int x, .int 0]) (rest := []) rfl rfl rfl rfl rfl (Nat.le_of_ble_eq_true rfl) (Nat.le_of_ble_eq_true rfl) rfl (by decide) (c_pf_1_1_1_0_0 (mi := (zup (zup (zup mi 51 2 1) 51 3 (nI i)) 51 4 v)) (y := nI i) (v := v) h1 rfl rfl rfl) ?_
  rintro _ _ ⟨rfl, rfl⟩
  refine Wp.run 0 (37, [(0, .ref 51), (1, .ref 1), (2, .int (nI i)), (3, .int 1), (4, .int x)], [.int (((x + (nI i)) - v) ^^^ 6)], (zsh ++ vs, (zup (zup (zup (zup (zup (zup (zup (zup (zup mi 51 2 1) 51 3 (nI i)) 51 4 v) 52 0 20) 51 1 1) 52 1 11) 51 1 2) 52 2 10) 51 1 3), ml, (zmr g))) rfl ?_
  refine Wp.ret rfl rfl rfl ?_
  exact ⟨rfl, rfl⟩
theorem c_begin_1_2 {E : zEn} {vs : List (Nat × Nat)} {mi : Nat → Nat → Int32} {ml : Nat → Nat → Int64} {g : Nat → Nat → Option Nat} {x v : Int32} {i : Nat} (hi : i < 6) (h1 : mi 51 1 = 0) (h2 : mi 3 i = 1) (h4 : mi 4 i = v) : Wp E 8 pg_Performance_begin 0 (lv_args 0 [.ref 51, .ref 1, .int (nI i), .int 2, .int x]) [] (zsh ++ vs, mi, ml, (zmr g)) (fun r w' => r = some (.int ((((x + (nI i)) - v) ^^^ 6) * 2)) ∧ w' = (zsh ++ vs, (zup (zup (zup (zup (zup (zup (zup (zup (zup (zup (zup mi 51 2 1) 51 3 (nI i)) 51 4 v) 52 0 12) 51 1 1) 52 1 20) 51 1 2) 52 2 11) 51 1 3) 52 3 10) 51 1 4), ml, zmr g)) := by
  refine Wp.run 4 (6, [(0, .ref 51), (1, .ref 1), (2, .int (nI i)), (3, .int 2), (4, .int x)], [.int (nI i), .ref 3, .ref 51], (zsh ++ vs, mi, ml, (zmr g))) rfl ?_
  refine Wp.ialn rfl (by decide) rfl (by omega) (by decide) ?_
  refine Wp.topi (y := 1) (h2) ?_
  refine Wp.run 8 (21, [(0, .ref 51), (1, .ref 1), (2, .int (nI i)), (3, .int 2), (4, .int x)], [.int (nI i), .ref 4, .ref 51], (zsh ++ vs, (zup (zup mi 51 2 1) 51 3 (nI i)), ml, (zmr g))) rfl ?_
  refine Wp.ialn rfl (by decide) rfl (by omega) (by decide) ?_
  refine Wp.topi (y := v) (h4) ?_
  refine Wp.run 7 (34, [(0, .ref 51), (1, .ref 1), (2, .int (nI i)), (3, .int 2), (4, .int x)], [.int 0, .int x, .int 2, .int 1, .ref 51], (zsh ++ vs, (zup (zup (zup mi 51 2 1) 51 3 (nI i)) 51 4 v), ml, (zmr g))) rfl ?_
  refine Wp.call (as := [.ref 51, .int 1, .int 2, .int x, .int 0]) (rest := []) rfl rfl rfl rfl rfl (Nat.le_of_ble_eq_true rfl) (Nat.le_of_ble_eq_true rfl) rfl (by decide) (c_pf_1_1_2_0_0 (mi := (zup (zup (zup mi 51 2 1) 51 3 (nI i)) 51 4 v)) (y := nI i) (v := v) h1 rfl rfl rfl) ?_
  rintro _ _ ⟨rfl, rfl⟩
  refine Wp.run 0 (37, [(0, .ref 51), (1, .ref 1), (2, .int (nI i)), (3, .int 2), (4, .int x)], [.int ((((x + (nI i)) - v) ^^^ 6) * 2)], (zsh ++ vs, (zup (zup (zup (zup (zup (zup (zup (zup (zup (zup (zup mi 51 2 1) 51 3 (nI i)) 51 4 v) 52 0 12) 51 1 1) 52 1 20) 51 1 2) 52 2 11) 51 1 3) 52 3 10) 51 1 4), ml, (zmr g))) rfl ?_
  refine Wp.ret rfl rfl rfl ?_
  exact ⟨rfl, rfl⟩
theorem c_begin_2_0 {E : zEn} {vs : List (Nat × Nat)} {mi : Nat → Nat → Int32} {ml : Nat → Nat → Int64} {g : Nat → Nat → Option Nat} {x v : Int32} {i : Nat} (hi : i < 6) (h1 : mi 51 1 = 0) (h2 : mi 3 i = 2) (h4 : mi 4 i = v) : Wp E 4 pg_Performance_begin 0 (lv_args 0 [.ref 51, .ref 1, .int (nI i), .int 0, .int x]) [] (zsh ++ vs, mi, ml, (zmr g)) (fun r w' => r = some (.int (((x * 3) + (nI i)))) ∧ w' = (zsh ++ vs, (zup (zup (zup (zup (zup (zup (zup mi 51 2 2) 51 3 (nI i)) 51 4 v) 52 0 30) 51 1 1) 52 1 10) 51 1 2), ml, zmr g)) := by
  refine Wp.run 4 (6, [(0, .ref 51), (1, .ref 1), (2, .int (nI i)), (3, .int 0), (4, .int x)], [.int (nI i), .ref 3, .ref 51], (zsh ++ vs, mi, ml, (zmr g))) rfl ?_
  refine Wp.ialn rfl (by decide) rfl (by omega) (by decide) ?_
  refine Wp.topi (y := 2) (h2) ?_
  refine Wp.run 8 (21, [(0, .ref 51), (1, .ref 1), (2, .int (nI i)), (3, .int 0), (4, .int x)], [.int (nI i), .ref 4, .ref 51], (zsh ++ vs, (zup (zup mi 51 2 2) 51 3 (nI i)), ml, (zmr g))) rfl ?_
  refine Wp.ialn rfl (by decide) rfl (by omega) (by decide) ?_
  refine Wp.topi (y := v) (h4) ?_
  refine Wp.run 7 (34, [(0, .ref 51), (1, .ref 1), (2, .int (nI i)), (3, .int 0), (4, .int x)], [.int 0, .int x, .int 0, .int 2, .ref 51], (zsh ++ vs, (zup (zup (zup mi 51 2 2) 51 3 (nI i)) 51 4 v), ml, (zmr g))) rfl ?_
  refine Wp.call (as := [.ref 51, .int 2, .int 0, .int x, .int 0]) (rest := []) rfl rfl rfl rfl rfl (Nat.le_of_ble_eq_true rfl) (Nat.le_of_ble_eq_true rfl) rfl (by decide) (c_pf_2_2_0_0_0 (mi := (zup (zup (zup mi 51 2 2) 51 3 (nI i)) 51 4 v)) (y := nI i) (v := v) h1 rfl rfl rfl) ?_
  rintro _ _ ⟨rfl, rfl⟩
  refine Wp.run 0 (37, [(0, .ref 51), (1, .ref 1), (2, .int (nI i)), (3, .int 0), (4, .int x)], [.int ((x * 3) + (nI i))], (zsh ++ vs, (zup (zup (zup (zup (zup (zup (zup mi 51 2 2) 51 3 (nI i)) 51 4 v) 52 0 30) 51 1 1) 52 1 10) 51 1 2), ml, (zmr g))) rfl ?_
  refine Wp.ret rfl rfl rfl ?_
  exact ⟨rfl, rfl⟩
theorem c_begin_2_1 {E : zEn} {vs : List (Nat × Nat)} {mi : Nat → Nat → Int32} {ml : Nat → Nat → Int64} {g : Nat → Nat → Option Nat} {x v : Int32} {i : Nat} (hi : i < 6) (h1 : mi 51 1 = 0) (h2 : mi 3 i = 2) (h4 : mi 4 i = v) : Wp E 6 pg_Performance_begin 0 (lv_args 0 [.ref 51, .ref 1, .int (nI i), .int 1, .int x]) [] (zsh ++ vs, mi, ml, (zmr g)) (fun r w' => r = some (.int (((x * 3) + (nI i)) - v)) ∧ w' = (zsh ++ vs, (zup (zup (zup (zup (zup (zup (zup (zup (zup mi 51 2 2) 51 3 (nI i)) 51 4 v) 52 0 11) 51 1 1) 52 1 30) 51 1 2) 52 2 10) 51 1 3), ml, zmr g)) := by
  refine Wp.run 4 (6, [(0, .ref 51), (1, .ref 1), (2, .int (nI i)), (3, .int 1), (4, .int x)], [.int (nI i), .ref 3, .ref 51], (zsh ++ vs, mi, ml, (zmr g))) rfl ?_
  refine Wp.ialn rfl (by decide) rfl (by omega) (by decide) ?_
  refine Wp.topi (y := 2) (h2) ?_
  refine Wp.run 8 (21, [(0, .ref 51), (1, .ref 1), (2, .int (nI i)), (3, .int 1), (4, .int x)], [.int (nI i), .ref 4, .ref 51], (zsh ++ vs, (zup (zup mi 51 2 2) 51 3 (nI i)), ml, (zmr g))) rfl ?_
  refine Wp.ialn rfl (by decide) rfl (by omega) (by decide) ?_
  refine Wp.topi (y := v) (h4) ?_
  refine Wp.run 7 (34, [(0, .ref 51), (1, .ref 1), (2, .int (nI i)), (3, .int 1), (4, .int x)], [.int 0, .int x, .int 1, .int 2, .ref 51], (zsh ++ vs, (zup (zup (zup mi 51 2 2) 51 3 (nI i)) 51 4 v), ml, (zmr g))) rfl ?_
  refine Wp.call (as := [.ref 51, .int 2, .int 1, .int x, .int 0]) (rest := []) rfl rfl rfl rfl rfl (Nat.le_of_ble_eq_true rfl) (Nat.le_of_ble_eq_true rfl) rfl (by decide) (c_pf_2_2_1_0_0 (mi := (zup (zup (zup mi 51 2 2) 51 3 (nI i)) 51 4 v)) (y := nI i) (v := v) h1 rfl rfl rfl) ?_
  rintro _ _ ⟨rfl, rfl⟩
  refine Wp.run 0 (37, [(0, .ref 51), (1, .ref 1), (2, .int (nI i)), (3, .int 1), (4, .int x)], [.int (((x * 3) + (nI i)) - v)], (zsh ++ vs, (zup (zup (zup (zup (zup (zup (zup (zup (zup mi 51 2 2) 51 3 (nI i)) 51 4 v) 52 0 11) 51 1 1) 52 1 30) 51 1 2) 52 2 10) 51 1 3), ml, (zmr g))) rfl ?_
  refine Wp.ret rfl rfl rfl ?_
  exact ⟨rfl, rfl⟩
theorem c_begin_2_2 {E : zEn} {vs : List (Nat × Nat)} {mi : Nat → Nat → Int32} {ml : Nat → Nat → Int64} {g : Nat → Nat → Option Nat} {x v : Int32} {i : Nat} (hi : i < 6) (h1 : mi 51 1 = 0) (h2 : mi 3 i = 2) (h4 : mi 4 i = v) : Wp E 8 pg_Performance_begin 0 (lv_args 0 [.ref 51, .ref 1, .int (nI i), .int 2, .int x]) [] (zsh ++ vs, mi, ml, (zmr g)) (fun r w' => r = some (.int ((((x * 3) + (nI i)) - v) * 2)) ∧ w' = (zsh ++ vs, (zup (zup (zup (zup (zup (zup (zup (zup (zup (zup (zup mi 51 2 2) 51 3 (nI i)) 51 4 v) 52 0 12) 51 1 1) 52 1 11) 51 1 2) 52 2 30) 51 1 3) 52 3 10) 51 1 4), ml, zmr g)) := by
  refine Wp.run 4 (6, [(0, .ref 51), (1, .ref 1), (2, .int (nI i)), (3, .int 2), (4, .int x)], [.int (nI i), .ref 3, .ref 51], (zsh ++ vs, mi, ml, (zmr g))) rfl ?_
  refine Wp.ialn rfl (by decide) rfl (by omega) (by decide) ?_
  refine Wp.topi (y := 2) (h2) ?_
  refine Wp.run 8 (21, [(0, .ref 51), (1, .ref 1), (2, .int (nI i)), (3, .int 2), (4, .int x)], [.int (nI i), .ref 4, .ref 51], (zsh ++ vs, (zup (zup mi 51 2 2) 51 3 (nI i)), ml, (zmr g))) rfl ?_
  refine Wp.ialn rfl (by decide) rfl (by omega) (by decide) ?_
  refine Wp.topi (y := v) (h4) ?_
  refine Wp.run 7 (34, [(0, .ref 51), (1, .ref 1), (2, .int (nI i)), (3, .int 2), (4, .int x)], [.int 0, .int x, .int 2, .int 2, .ref 51], (zsh ++ vs, (zup (zup (zup mi 51 2 2) 51 3 (nI i)) 51 4 v), ml, (zmr g))) rfl ?_
  refine Wp.call (as := [.ref 51, .int 2, .int 2, .int x, .int 0]) (rest := []) rfl rfl rfl rfl rfl (Nat.le_of_ble_eq_true rfl) (Nat.le_of_ble_eq_true rfl) rfl (by decide) (c_pf_2_2_2_0_0 (mi := (zup (zup (zup mi 51 2 2) 51 3 (nI i)) 51 4 v)) (y := nI i) (v := v) h1 rfl rfl rfl) ?_
  rintro _ _ ⟨rfl, rfl⟩
  refine Wp.run 0 (37, [(0, .ref 51), (1, .ref 1), (2, .int (nI i)), (3, .int 2), (4, .int x)], [.int ((((x * 3) + (nI i)) - v) * 2)], (zsh ++ vs, (zup (zup (zup (zup (zup (zup (zup (zup (zup (zup (zup mi 51 2 2) 51 3 (nI i)) 51 4 v) 52 0 12) 51 1 1) 52 1 11) 51 1 2) 52 2 30) 51 1 3) 52 3 10) 51 1 4), ml, (zmr g))) rfl ?_
  refine Wp.ret rfl rfl rfl ?_
  exact ⟨rfl, rfl⟩
theorem c_begin_3_0 {E : zEn} {vs : List (Nat × Nat)} {mi : Nat → Nat → Int32} {ml : Nat → Nat → Int64} {g : Nat → Nat → Option Nat} {x v : Int32} {i : Nat} (hi : i < 6) (h1 : mi 51 1 = 0) (h2 : mi 3 i = 3) (h4 : mi 4 i = v) : Wp E 2 pg_Performance_begin 0 (lv_args 0 [.ref 51, .ref 1, .int (nI i), .int 0, .int x]) [] (zsh ++ vs, mi, ml, (zmr g)) (fun r w' => r = some (.int (x + (nI i))) ∧ w' = (zsh ++ vs, (zup (zup (zup (zup (zup mi 51 2 3) 51 3 (nI i)) 51 4 v) 52 0 10) 51 1 1), ml, zmr g)) := by
  refine Wp.run 4 (6, [(0, .ref 51), (1, .ref 1), (2, .int (nI i)), (3, .int 0), (4, .int x)], [.int (nI i), .ref 3, .ref 51], (zsh ++ vs, mi, ml, (zmr g))) rfl ?_
  refine Wp.ialn rfl (by decide) rfl (by omega) (by decide) ?_
  refine Wp.topi (y := 3) (h2) ?_
  refine Wp.run 8 (21, [(0, .ref 51), (1, .ref 1), (2, .int (nI i)), (3, .int 0), (4, .int x)], [.int (nI i), .ref 4, .ref 51], (zsh ++ vs, (zup (zup mi 51 2 3) 51 3 (nI i)), ml, (zmr g))) rfl ?_
  refine Wp.ialn rfl (by decide) rfl (by omega) (by decide) ?_
  refine Wp.topi (y := v) (h4) ?_
  refine Wp.run 7 (34, [(0, .ref 51), (1, .ref 1), (2, .int (nI i)), (3, .int 0), (4, .int x)], [.int 0, .int x, .int 0, .int 3, .ref 51], (zsh ++ vs, (zup (zup (zup mi 51 2 3) 51 3 (nI i)) 51 4 v), ml, (zmr g))) rfl ?_
  refine Wp.call (as := [.ref 51, .int 3, .int 0, .int x, .int 0]) (rest := []) rfl rfl rfl rfl rfl (Nat.le_of_ble_eq_true rfl) (Nat.le_of_ble_eq_true rfl) rfl (by decide) (c_pf_3_3_0_0_0 (mi := (zup (zup (zup mi 51 2 3) 51 3 (nI i)) 51 4 v)) (y := nI i) (v := v) h1 rfl rfl rfl) ?_
  rintro _ _ ⟨rfl, rfl⟩
  refine Wp.run 0 (37, [(0, .ref 51), (1, .ref 1), (2, .int (nI i)), (3, .int 0), (4, .int x)], [.int (x + (nI i))], (zsh ++ vs, (zup (zup (zup (zup (zup mi 51 2 3) 51 3 (nI i)) 51 4 v) 52 0 10) 51 1 1), ml, (zmr g))) rfl ?_
  refine Wp.ret rfl rfl rfl ?_
  exact ⟨rfl, rfl⟩
theorem c_begin_3_1 {E : zEn} {vs : List (Nat × Nat)} {mi : Nat → Nat → Int32} {ml : Nat → Nat → Int64} {g : Nat → Nat → Option Nat} {x v : Int32} {i : Nat} (hi : i < 6) (h1 : mi 51 1 = 0) (h2 : mi 3 i = 3) (h4 : mi 4 i = v) : Wp E 4 pg_Performance_begin 0 (lv_args 0 [.ref 51, .ref 1, .int (nI i), .int 1, .int x]) [] (zsh ++ vs, mi, ml, (zmr g)) (fun r w' => r = some (.int ((x + (nI i)) - v)) ∧ w' = (zsh ++ vs, (zup (zup (zup (zup (zup (zup (zup mi 51 2 3) 51 3 (nI i)) 51 4 v) 52 0 11) 51 1 1) 52 1 10) 51 1 2), ml, zmr g)) := by
  refine Wp.run 4 (6, [(0, .ref 51), (1, .ref 1), (2, .int (nI i)), (3, .int 1), (4, .int x)], [.int (nI i), .ref 3, .ref 51], (zsh ++ vs, mi, ml, (zmr g))) rfl ?_
  refine Wp.ialn rfl (by decide) rfl (by omega) (by decide) ?_
  refine Wp.topi (y := 3) (h2) ?_
  refine Wp.run 8 (21, [(0, .ref 51), (1, .ref 1), (2, .int (nI i)), (3, .int 1), (4, .int x)], [.int (nI i), .ref 4, .ref 51], (zsh ++ vs, (zup (zup mi 51 2 3) 51 3 (nI i)), ml, (zmr g))) rfl ?_
  refine Wp.ialn rfl (by decide) rfl (by omega) (by decide) ?_
  refine Wp.topi (y := v) (h4) ?_
  refine Wp.run 7 (34, [(0, .ref 51), (1, .ref 1), (2, .int (nI i)), (3, .int 1), (4, .int x)], [.int 0, .int x, .int 1, .int 3, .ref 51], (zsh ++ vs, (zup (zup (zup mi 51 2 3) 51 3 (nI i)) 51 4 v), ml, (zmr g))) rfl ?_
  refine Wp.call (as := [.ref 51, .int 3, .int 1, .int x, .int 0]) (rest := []) rfl rfl rfl rfl rfl (Nat.le_of_ble_eq_true rfl) (Nat.le_of_ble_eq_true rfl) rfl (by decide) (c_pf_3_3_1_0_0 (mi := (zup (zup (zup mi 51 2 3) 51 3 (nI i)) 51 4 v)) (y := nI i) (v := v) h1 rfl rfl rfl) ?_
  rintro _ _ ⟨rfl, rfl⟩
  refine Wp.run 0 (37, [(0, .ref 51), (1, .ref 1), (2, .int (nI i)), (3, .int 1), (4, .int x)], [.int ((x + (nI i)) - v)], (zsh ++ vs, (zup (zup (zup (zup (zup (zup (zup mi 51 2 3) 51 3 (nI i)) 51 4 v) 52 0 11) 51 1 1) 52 1 10) 51 1 2), ml, (zmr g))) rfl ?_
  refine Wp.ret rfl rfl rfl ?_
  exact ⟨rfl, rfl⟩
theorem c_begin_3_2 {E : zEn} {vs : List (Nat × Nat)} {mi : Nat → Nat → Int32} {ml : Nat → Nat → Int64} {g : Nat → Nat → Option Nat} {x v : Int32} {i : Nat} (hi : i < 6) (h1 : mi 51 1 = 0) (h2 : mi 3 i = 3) (h4 : mi 4 i = v) : Wp E 8 pg_Performance_begin 0 (lv_args 0 [.ref 51, .ref 1, .int (nI i), .int 2, .int x]) [] (zsh ++ vs, mi, ml, (zmr g)) (fun r w' => r = some (.int ((((x + (nI i)) - v) * 2) + ((1 + (nI i)) - v))) ∧ w' = (zsh ++ vs, (zup (zup (zup (zup (zup (zup (zup (zup (zup (zup (zup (zup (zup (zup (zup mi 51 2 3) 51 3 (nI i)) 51 4 v) 52 0 40) 51 1 1) 52 1 12) 51 1 2) 52 2 11) 51 1 3) 52 3 10) 51 1 4) 52 4 11) 51 1 5) 52 5 10) 51 1 6), ml, zmr g)) := by
  refine Wp.run 4 (6, [(0, .ref 51), (1, .ref 1), (2, .int (nI i)), (3, .int 2), (4, .int x)], [.int (nI i), .ref 3, .ref 51], (zsh ++ vs, mi, ml, (zmr g))) rfl ?_
  refine Wp.ialn rfl (by decide) rfl (by omega) (by decide) ?_
  refine Wp.topi (y := 3) (h2) ?_
  refine Wp.run 8 (21, [(0, .ref 51), (1, .ref 1), (2, .int (nI i)), (3, .int 2), (4, .int x)], [.int (nI i), .ref 4, .ref 51], (zsh ++ vs, (zup (zup mi 51 2 3) 51 3 (nI i)), ml, (zmr g))) rfl ?_
  refine Wp.ialn rfl (by decide) rfl (by omega) (by decide) ?_
  refine Wp.topi (y := v) (h4) ?_
  refine Wp.run 7 (34, [(0, .ref 51), (1, .ref 1), (2, .int (nI i)), (3, .int 2), (4, .int x)], [.int 0, .int x, .int 2, .int 3, .ref 51], (zsh ++ vs, (zup (zup (zup mi 51 2 3) 51 3 (nI i)) 51 4 v), ml, (zmr g))) rfl ?_
  refine Wp.call (as := [.ref 51, .int 3, .int 2, .int x, .int 0]) (rest := []) rfl rfl rfl rfl rfl (Nat.le_of_ble_eq_true rfl) (Nat.le_of_ble_eq_true rfl) rfl (by decide) (c_pf_3_3_2_0_0 (mi := (zup (zup (zup mi 51 2 3) 51 3 (nI i)) 51 4 v)) (y := nI i) (v := v) h1 rfl rfl rfl) ?_
  rintro _ _ ⟨rfl, rfl⟩
  refine Wp.run 0 (37, [(0, .ref 51), (1, .ref 1), (2, .int (nI i)), (3, .int 2), (4, .int x)], [.int ((((x + (nI i)) - v) * 2) + ((1 + (nI i)) - v))], (zsh ++ vs, (zup (zup (zup (zup (zup (zup (zup (zup (zup (zup (zup (zup (zup (zup (zup mi 51 2 3) 51 3 (nI i)) 51 4 v) 52 0 40) 51 1 1) 52 1 12) 51 1 2) 52 2 11) 51 1 3) 52 3 10) 51 1 4) 52 4 11) 51 1 5) 52 5 10) 51 1 6), ml, (zmr g))) rfl ?_
  refine Wp.ret rfl rfl rfl ?_
  exact ⟨rfl, rfl⟩
theorem c_begin_4_0 {E : zEn} {vs : List (Nat × Nat)} {mi : Nat → Nat → Int32} {ml : Nat → Nat → Int64} {g : Nat → Nat → Option Nat} {x v : Int32} {i : Nat} (hi : i < 6) (h1 : mi 51 1 = 0) (h2 : mi 3 i = 4) (h4 : mi 4 i = v) : Wp E 4 pg_Performance_begin 0 (lv_args 0 [.ref 51, .ref 1, .int (nI i), .int 0, .int x]) [] (zsh ++ vs, mi, ml, (zmr g)) (fun r w' => r = some (.int (-(x + (nI i)))) ∧ w' = (zsh ++ vs, (zup (zup (zup (zup (zup (zup (zup mi 51 2 4) 51 3 (nI i)) 51 4 v) 52 0 50) 51 1 1) 52 1 10) 51 1 2), ml, zmr g)) := by
  refine Wp.run 4 (6, [(0, .ref 51), (1, .ref 1), (2, .int (nI i)), (3, .int 0), (4, .int x)], [.int (nI i), .ref 3, .ref 51], (zsh ++ vs, mi, ml, (zmr g))) rfl ?_
  refine Wp.ialn rfl (by decide) rfl (by omega) (by decide) ?_
  refine Wp.topi (y := 4) (h2) ?_
  refine Wp.run 8 (21, [(0, .ref 51), (1, .ref 1), (2, .int (nI i)), (3, .int 0), (4, .int x)], [.int (nI i), .ref 4, .ref 51], (zsh ++ vs, (zup (zup mi 51 2 4) 51 3 (nI i)), ml, (zmr g))) rfl ?_
  refine Wp.ialn rfl (by decide) rfl (by omega) (by decide) ?_
  refine Wp.topi (y := v) (h4) ?_
  refine Wp.run 7 (34, [(0, .ref 51), (1, .ref 1), (2, .int (nI i)), (3, .int 0), (4, .int x)], [.int 0, .int x, .int 0, .int 4, .ref 51], (zsh ++ vs, (zup (zup (zup mi 51 2 4) 51 3 (nI i)) 51 4 v), ml, (zmr g))) rfl ?_
  refine Wp.call (as := [.ref 51, .int 4, .int 0, .int x, .int 0]) (rest := []) rfl rfl rfl rfl rfl (Nat.le_of_ble_eq_true rfl) (Nat.le_of_ble_eq_true rfl) rfl (by decide) (c_pf_4_4_0_0_0 (mi := (zup (zup (zup mi 51 2 4) 51 3 (nI i)) 51 4 v)) (y := nI i) (v := v) h1 rfl rfl rfl) ?_
  rintro _ _ ⟨rfl, rfl⟩
  refine Wp.run 0 (37, [(0, .ref 51), (1, .ref 1), (2, .int (nI i)), (3, .int 0), (4, .int x)], [.int (-(x + (nI i)))], (zsh ++ vs, (zup (zup (zup (zup (zup (zup (zup mi 51 2 4) 51 3 (nI i)) 51 4 v) 52 0 50) 51 1 1) 52 1 10) 51 1 2), ml, (zmr g))) rfl ?_
  refine Wp.ret rfl rfl rfl ?_
  exact ⟨rfl, rfl⟩
theorem c_begin_4_1 {E : zEn} {vs : List (Nat × Nat)} {mi : Nat → Nat → Int32} {ml : Nat → Nat → Int64} {g : Nat → Nat → Option Nat} {x v : Int32} {i : Nat} (hi : i < 6) (h1 : mi 51 1 = 0) (h2 : mi 3 i = 4) (h4 : mi 4 i = v) : Wp E 10 pg_Performance_begin 0 (lv_args 0 [.ref 51, .ref 1, .int (nI i), .int 1, .int x]) [] (zsh ++ vs, mi, ml, (zmr g)) (fun r w' => r = some (.int ((((-((x + 1) + (nI i))) - v) ^^^ 6))) ∧ w' = (zsh ++ vs, (zup (zup (zup (zup (zup (zup (zup (zup (zup (zup (zup (zup (zup mi 51 2 4) 51 3 (nI i)) 51 4 v) 52 0 51) 51 1 1) 52 1 20) 51 1 2) 52 2 11) 51 1 3) 52 3 50) 51 1 4) 52 4 10) 51 1 5), ml, zmr g)) := by
  refine Wp.run 4 (6, [(0, .ref 51), (1, .ref 1), (2, .int (nI i)), (3, .int 1), (4, .int x)], [.int (nI i), .ref 3, .ref 51], (zsh ++ vs, mi, ml, (zmr g))) rfl ?_
  refine Wp.ialn rfl (by decide) rfl (by omega) (by decide) ?_
  refine Wp.topi (y := 4) (h2) ?_
  refine Wp.run 8 (21, [(0, .ref 51), (1, .ref 1), (2, .int (nI i)), (3, .int 1), (4, .int x)], [.int (nI i), .ref 4, .ref 51], (zsh ++ vs, (zup (zup mi 51 2 4) 51 3 (nI i)), ml, (zmr g))) rfl ?_
  refine Wp.ialn rfl (by decide) rfl (by omega) (by decide) ?_
  refine Wp.topi (y := v) (h4) ?_
  refine Wp.run 7 (34, [(0, .ref 51), (1, .ref 1), (2, .int (nI i)), (3, .int 1), (4, .int x)], [.int 0, .int x, .int 1, .int 4, .ref 51], (zsh ++ vs, (zup (zup (zup mi 51 2 4) 51 3 (nI i)) 51 4 v), ml, (zmr g))) rfl ?_
  refine Wp.call (as := [.ref 51, .int 4, .int 1, .int x, .int 0]) (rest := []) rfl rfl rfl rfl rfl (Nat.le_of_ble_eq_true rfl) (Nat.le_of_ble_eq_true rfl) rfl (by decide) (c_pf_4_4_1_0_0 (mi := (zup (zup (zup mi 51 2 4) 51 3 (nI i)) 51 4 v)) (y := nI i) (v := v) h1 rfl rfl rfl) ?_
  rintro _ _ ⟨rfl, rfl⟩
  refine Wp.run 0 (37, [(0, .ref 51), (1, .ref 1), (2, .int (nI i)), (3, .int 1), (4, .int x)], [.int (((-((x + 1) + (nI i))) - v) ^^^ 6)], (zsh ++ vs, (zup (zup (zup (zup (zup (zup (zup (zup (zup (zup (zup (zup (zup mi 51 2 4) 51 3 (nI i)) 51 4 v) 52 0 51) 51 1 1) 52 1 20) 51 1 2) 52 2 11) 51 1 3) 52 3 50) 51 1 4) 52 4 10) 51 1 5), ml, (zmr g))) rfl ?_
  refine Wp.ret rfl rfl rfl ?_
  exact ⟨rfl, rfl⟩
theorem c_begin_4_2 {E : zEn} {vs : List (Nat × Nat)} {mi : Nat → Nat → Int32} {ml : Nat → Nat → Int64} {g : Nat → Nat → Option Nat} {x v : Int32} {i : Nat} (hi : i < 6) (h1 : mi 51 1 = 0) (h2 : mi 3 i = 4) (h4 : mi 4 i = v) : Wp E 12 pg_Performance_begin 0 (lv_args 0 [.ref 51, .ref 1, .int (nI i), .int 2, .int x]) [] (zsh ++ vs, mi, ml, (zmr g)) (fun r w' => r = some (.int ((((-((x + 1) + (nI i))) - v) ^^^ 6) * 2)) ∧ w' = (zsh ++ vs, (zup (zup (zup (zup (zup (zup (zup (zup (zup (zup (zup (zup (zup (zup (zup mi 51 2 4) 51 3 (nI i)) 51 4 v) 52 0 12) 51 1 1) 52 1 51) 51 1 2) 52 2 20) 51 1 3) 52 3 11) 51 1 4) 52 4 50) 51 1 5) 52 5 10) 51 1 6), ml, zmr g)) := by
  refine Wp.run 4 (6, [(0, .ref 51), (1, .ref 1), (2, .int (nI i)), (3, .int 2), (4, .int x)], [.int (nI i), .ref 3, .ref 51], (zsh ++ vs, mi, ml, (zmr g))) rfl ?_
  refine Wp.ialn rfl (by decide) rfl (by omega) (by decide) ?_
  refine Wp.topi (y := 4) (h2) ?_
  refine Wp.run 8 (21, [(0, .ref 51), (1, .ref 1), (2, .int (nI i)), (3, .int 2), (4, .int x)], [.int (nI i), .ref 4, .ref 51], (zsh ++ vs, (zup (zup mi 51 2 4) 51 3 (nI i)), ml, (zmr g))) rfl ?_
  refine Wp.ialn rfl (by decide) rfl (by omega) (by decide) ?_
  refine Wp.topi (y := v) (h4) ?_
  refine Wp.run 7 (34, [(0, .ref 51), (1, .ref 1), (2, .int (nI i)), (3, .int 2), (4, .int x)], [.int 0, .int x, .int 2, .int 4, .ref 51], (zsh ++ vs, (zup (zup (zup mi 51 2 4) 51 3 (nI i)) 51 4 v), ml, (zmr g))) rfl ?_
  refine Wp.call (as := [.ref 51, .int 4, .int 2, .int x, .int 0]) (rest := []) rfl rfl rfl rfl rfl (Nat.le_of_ble_eq_true rfl) (Nat.le_of_ble_eq_true rfl) rfl (by decide) (c_pf_4_4_2_0_0 (mi := (zup (zup (zup mi 51 2 4) 51 3 (nI i)) 51 4 v)) (y := nI i) (v := v) h1 rfl rfl rfl) ?_
  rintro _ _ ⟨rfl, rfl⟩
  refine Wp.run 0 (37, [(0, .ref 51), (1, .ref 1), (2, .int (nI i)), (3, .int 2), (4, .int x)], [.int ((((-((x + 1) + (nI i))) - v) ^^^ 6) * 2)], (zsh ++ vs, (zup (zup (zup (zup (zup (zup (zup (zup (zup (zup (zup (zup (zup (zup (zup mi 51 2 4) 51 3 (nI i)) 51 4 v) 52 0 12) 51 1 1) 52 1 51) 51 1 2) 52 2 20) 51 1 3) 52 3 11) 51 1 4) 52 4 50) 51 1 5) 52 5 10) 51 1 6), ml, (zmr g))) rfl ?_
  refine Wp.ret rfl rfl rfl ?_
  exact ⟨rfl, rfl⟩
theorem c_begin_5_0 {E : zEn} {vs : List (Nat × Nat)} {mi : Nat → Nat → Int32} {ml : Nat → Nat → Int64} {g : Nat → Nat → Option Nat} {x v : Int32} {i : Nat} (hi : i < 6) (h1 : mi 51 1 = 0) (h2 : mi 3 i = 5) (h4 : mi 4 i = v) : Wp E 4 pg_Performance_begin 0 (lv_args 0 [.ref 51, .ref 1, .int (nI i), .int 0, .int x]) [] (zsh ++ vs, mi, ml, (zmr g)) (fun r w' => r = some (.int (((x * 3) + (nI i)))) ∧ w' = (zsh ++ vs, (zup (zup (zup (zup (zup (zup (zup mi 51 2 5) 51 3 (nI i)) 51 4 v) 52 0 30) 51 1 1) 52 1 10) 51 1 2), ml, zmr g)) := by
  refine Wp.run 4 (6, [(0, .ref 51), (1, .ref 1), (2, .int (nI i)), (3, .int 0), (4, .int x)], [.int (nI i), .ref 3, .ref 51], (zsh ++ vs, mi, ml, (zmr g))) rfl ?_
  refine Wp.ialn rfl (by decide) rfl (by omega) (by decide) ?_
  refine Wp.topi (y := 5) (h2) ?_
  refine Wp.run 8 (21, [(0, .ref 51), (1, .ref 1), (2, .int (nI i)), (3, .int 0), (4, .int x)], [.int (nI i), .ref 4, .ref 51], (zsh ++ vs, (zup (zup mi 51 2 5) 51 3 (nI i)), ml, (zmr g))) rfl ?_
  refine Wp.ialn rfl (by decide) rfl (by omega) (by decide) ?_
  refine Wp.topi (y := v) (h4) ?_
  refine Wp.run 7 (34, [(0, .ref 51), (1, .ref 1), (2, .int (nI i)), (3, .int 0), (4, .int x)], [.int 0, .int x, .int 0, .int 5, .ref 51], (zsh ++ vs, (zup (zup (zup mi 51 2 5) 51 3 (nI i)) 51 4 v), ml, (zmr g))) rfl ?_
  refine Wp.call (as := [.ref 51, .int 5, .int 0, .int x, .int 0]) (rest := []) rfl rfl rfl rfl rfl (Nat.le_of_ble_eq_true rfl) (Nat.le_of_ble_eq_true rfl) rfl (by decide) (c_pf_5_5_0_0_0 (mi := (zup (zup (zup mi 51 2 5) 51 3 (nI i)) 51 4 v)) (y := nI i) (v := v) h1 rfl rfl rfl) ?_
  rintro _ _ ⟨rfl, rfl⟩
  refine Wp.run 0 (37, [(0, .ref 51), (1, .ref 1), (2, .int (nI i)), (3, .int 0), (4, .int x)], [.int ((x * 3) + (nI i))], (zsh ++ vs, (zup (zup (zup (zup (zup (zup (zup mi 51 2 5) 51 3 (nI i)) 51 4 v) 52 0 30) 51 1 1) 52 1 10) 51 1 2), ml, (zmr g))) rfl ?_
  refine Wp.ret rfl rfl rfl ?_
  exact ⟨rfl, rfl⟩
theorem c_begin_5_1 {E : zEn} {vs : List (Nat × Nat)} {mi : Nat → Nat → Int32} {ml : Nat → Nat → Int64} {g : Nat → Nat → Option Nat} {x v : Int32} {i : Nat} (hi : i < 6) (h1 : mi 51 1 = 0) (h2 : mi 3 i = 5) (h4 : mi 4 i = v) : Wp E 6 pg_Performance_begin 0 (lv_args 0 [.ref 51, .ref 1, .int (nI i), .int 1, .int x]) [] (zsh ++ vs, mi, ml, (zmr g)) (fun r w' => r = some (.int (((x * 3) + (nI i)) - v)) ∧ w' = (zsh ++ vs, (zup (zup (zup (zup (zup (zup (zup (zup (zup mi 51 2 5) 51 3 (nI i)) 51 4 v) 52 0 11) 51 1 1) 52 1 30) 51 1 2) 52 2 10) 51 1 3), ml, zmr g)) := by
  refine Wp.run 4 (6, [(0, .ref 51), (1, .ref 1), (2, .int (nI i)), (3, .int 1), (4, .int x)], [.int (nI i), .ref 3, .ref 51], (zsh ++ vs, mi, ml, (zmr g))) rfl ?_
  refine Wp.ialn rfl (by decide) rfl (by omega) (by decide) ?_
  refine Wp.topi (y := 5) (h2) ?_
  refine Wp.run 8 (21, [(0, .ref 51), (1, .ref 1), (2, .int (nI i)), (3, .int 1), (4, .int x)], [.int (nI i), .ref 4, .ref 51], (zsh ++ vs, (zup (zup mi 51 2 5) 51 3 (nI i)), ml, (zmr g))) rfl ?_
  refine Wp.ialn rfl (by decide) rfl (by omega) (by decide) ?_
  refine Wp.topi (y := v) (h4) ?_
  refine Wp.run 7 (34, [(0, .ref 51), (1, .ref 1), (2, .int (nI i)), (3, .int 1), (4, .int x)], [.int 0, .int x, .int 1, .int 5, .ref 51], (zsh ++ vs, (zup (zup (zup mi 51 2 5) 51 3 (nI i)) 51 4 v), ml, (zmr g))) rfl ?_
  refine Wp.call (as := [.ref 51, .int 5, .int 1, .int x, .int 0]) (rest := []) rfl rfl rfl rfl rfl (Nat.le_of_ble_eq_true rfl) (Nat.le_of_ble_eq_true rfl) rfl (by decide) (c_pf_5_5_1_0_0 (mi := (zup (zup (zup mi 51 2 5) 51 3 (nI i)) 51 4 v)) (y := nI i) (v := v) h1 rfl rfl rfl) ?_
  rintro _ _ ⟨rfl, rfl⟩
  refine Wp.run 0 (37, [(0, .ref 51), (1, .ref 1), (2, .int (nI i)), (3, .int 1), (4, .int x)], [.int (((x * 3) + (nI i)) - v)], (zsh ++ vs, (zup (zup (zup (zup (zup (zup (zup (zup (zup mi 51 2 5) 51 3 (nI i)) 51 4 v) 52 0 11) 51 1 1) 52 1 30) 51 1 2) 52 2 10) 51 1 3), ml, (zmr g))) rfl ?_
  refine Wp.ret rfl rfl rfl ?_
  exact ⟨rfl, rfl⟩
theorem c_begin_5_2 {E : zEn} {vs : List (Nat × Nat)} {mi : Nat → Nat → Int32} {ml : Nat → Nat → Int64} {g : Nat → Nat → Option Nat} {x v : Int32} {i : Nat} (hi : i < 6) (h1 : mi 51 1 = 0) (h2 : mi 3 i = 5) (h4 : mi 4 i = v) : Wp E 10 pg_Performance_begin 0 (lv_args 0 [.ref 51, .ref 1, .int (nI i), .int 2, .int x]) [] (zsh ++ vs, mi, ml, (zmr g)) (fun r w' => r = some (.int ((((((x - (nI i)) * 3) + (nI i)) - v) * 2))) ∧ w' = (zsh ++ vs, (zup (zup (zup (zup (zup (zup (zup (zup (zup (zup (zup (zup (zup mi 51 2 5) 51 3 (nI i)) 51 4 v) 52 0 60) 51 1 1) 52 1 12) 51 1 2) 52 2 11) 51 1 3) 52 3 30) 51 1 4) 52 4 10) 51 1 5), ml, zmr g)) := by
  refine Wp.run 4 (6, [(0, .ref 51), (1, .ref 1), (2, .int (nI i)), (3, .int 2), (4, .int x)], [.int (nI i), .ref 3, .ref 51], (zsh ++ vs, mi, ml, (zmr g))) rfl ?_
  refine Wp.ialn rfl (by decide) rfl (by omega) (by decide) ?_
  refine Wp.topi (y := 5) (h2) ?_
  refine Wp.run 8 (21, [(0, .ref 51), (1, .ref 1), (2, .int (nI i)), (3, .int 2), (4, .int x)], [.int (nI i), .ref 4, .ref 51], (zsh ++ vs, (zup (zup mi 51 2 5) 51 3 (nI i)), ml, (zmr g))) rfl ?_
  refine Wp.ialn rfl (by decide) rfl (by omega) (by decide) ?_
  refine Wp.topi (y := v) (h4) ?_
  refine Wp.run 7 (34, [(0, .ref 51), (1, .ref 1), (2, .int (nI i)), (3, .int 2), (4, .int x)], [.int 0, .int x, .int 2, .int 5, .ref 51], (zsh ++ vs, (zup (zup (zup mi 51 2 5) 51 3 (nI i)) 51 4 v), ml, (zmr g))) rfl ?_
  refine Wp.call (as := [.ref 51, .int 5, .int 2, .int x, .int 0]) (rest := []) rfl rfl rfl rfl rfl (Nat.le_of_ble_eq_true rfl) (Nat.le_of_ble_eq_true rfl) rfl (by decide) (c_pf_5_5_2_0_0 (mi := (zup (zup (zup mi 51 2 5) 51 3 (nI i)) 51 4 v)) (y := nI i) (v := v) h1 rfl rfl rfl) ?_
  rintro _ _ ⟨rfl, rfl⟩
  refine Wp.run 0 (37, [(0, .ref 51), (1, .ref 1), (2, .int (nI i)), (3, .int 2), (4, .int x)], [.int (((((x - (nI i)) * 3) + (nI i)) - v) * 2)], (zsh ++ vs, (zup (zup (zup (zup (zup (zup (zup (zup (zup (zup (zup (zup (zup mi 51 2 5) 51 3 (nI i)) 51 4 v) 52 0 60) 51 1 1) 52 1 12) 51 1 2) 52 2 11) 51 1 3) 52 3 30) 51 1 4) 52 4 10) 51 1 5), ml, (zmr g))) rfl ?_
  refine Wp.ret rfl rfl rfl ?_
  exact ⟨rfl, rfl⟩
theorem c_begin_6_0 {E : zEn} {vs : List (Nat × Nat)} {mi : Nat → Nat → Int32} {ml : Nat → Nat → Int64} {g : Nat → Nat → Option Nat} {x v : Int32} {i : Nat} (hi : i < 6) (h1 : mi 51 1 = 0) (h2 : mi 3 i = 6) (h4 : mi 4 i = v) : Wp E 4 pg_Performance_begin 0 (lv_args 0 [.ref 51, .ref 1, .int (nI i), .int 0, .int x]) [] (zsh ++ vs, mi, ml, (zmr g)) (fun r w' => r = some (.int ((x + (nI i)) ^^^ v)) ∧ w' = (zsh ++ vs, (zup (zup (zup (zup (zup (zup (zup mi 51 2 6) 51 3 (nI i)) 51 4 v) 52 0 71) 51 1 1) 52 1 10) 51 1 2), ml, zmr g)) := by
  refine Wp.run 4 (6, [(0, .ref 51), (1, .ref 1), (2, .int (nI i)), (3, .int 0), (4, .int x)], [.int (nI i), .ref 3, .ref 51], (zsh ++ vs, mi, ml, (zmr g))) rfl ?_
  refine Wp.ialn rfl (by decide) rfl (by omega) (by decide) ?_
  refine Wp.topi (y := 6) (h2) ?_
  refine Wp.run 8 (21, [(0, .ref 51), (1, .ref 1), (2, .int (nI i)), (3, .int 0), (4, .int x)], [.int (nI i), .ref 4, .ref 51], (zsh ++ vs, (zup (zup mi 51 2 6) 51 3 (nI i)), ml, (zmr g))) rfl ?_
  refine Wp.ialn rfl (by decide) rfl (by omega) (by decide) ?_
  refine Wp.topi (y := v) (h4) ?_
  refine Wp.run 7 (34, [(0, .ref 51), (1, .ref 1), (2, .int (nI i)), (3, .int 0), (4, .int x)], [.int 0, .int x, .int 0, .int 6, .ref 51], (zsh ++ vs, (zup (zup (zup mi 51 2 6) 51 3 (nI i)) 51 4 v), ml, (zmr g))) rfl ?_
  refine Wp.call (as := [.ref 51, .int 6, .int 0, .int x, .int 0]) (rest := []) rfl rfl rfl rfl rfl (Nat.le_of_ble_eq_true rfl) (Nat.le_of_ble_eq_true rfl) rfl (by decide) (c_pf_6_6_0_0_0 (mi := (zup (zup (zup mi 51 2 6) 51 3 (nI i)) 51 4 v)) (y := nI i) (v := v) h1 rfl rfl rfl) ?_
  rintro _ _ ⟨rfl, rfl⟩
  refine Wp.run 0 (37, [(0, .ref 51), (1, .ref 1), (2, .int (nI i)), (3, .int 0), (4, .int x)], [.int ((x + (nI i)) ^^^ v)], (zsh ++ vs, (zup (zup (zup (zup (zup (zup (zup mi 51 2 6) 51 3 (nI i)) 51 4 v) 52 0 71) 51 1 1) 52 1 10) 51 1 2), ml, (zmr g))) rfl ?_
  refine Wp.ret rfl rfl rfl ?_
  exact ⟨rfl, rfl⟩
theorem c_begin_6_1 {E : zEn} {vs : List (Nat × Nat)} {mi : Nat → Nat → Int32} {ml : Nat → Nat → Int64} {g : Nat → Nat → Option Nat} {x v : Int32} {i : Nat} (hi : i < 6) (h1 : mi 51 1 = 0) (h2 : mi 3 i = 6) (h4 : mi 4 i = v) : Wp E 8 pg_Performance_begin 0 (lv_args 0 [.ref 51, .ref 1, .int (nI i), .int 1, .int x]) [] (zsh ++ vs, mi, ml, (zmr g)) (fun r w' => r = some (.int ((((x + (nI i)) ^^^ v) - v) + (2 + (nI i)))) ∧ w' = (zsh ++ vs, (zup (zup (zup (zup (zup (zup (zup (zup (zup (zup (zup (zup (zup mi 51 2 6) 51 3 (nI i)) 51 4 v) 52 0 70) 51 1 1) 52 1 11) 51 1 2) 52 2 71) 51 1 3) 52 3 10) 51 1 4) 52 4 10) 51 1 5), ml, zmr g)) := by
  refine Wp.run 4 (6, [(0, .ref 51), (1, .ref 1), (2, .int (nI i)), (3, .int 1), (4, .int x)], [.int (nI i), .ref 3, .ref 51], (zsh ++ vs, mi, ml, (zmr g))) rfl ?_
  refine Wp.ialn rfl (by decide) rfl (by omega) (by decide) ?_
  refine Wp.topi (y := 6) (h2) ?_
  refine Wp.run 8 (21, [(0, .ref 51), (1, .ref 1), (2, .int (nI i)), (3, .int 1), (4, .int x)], [.int (nI i), .ref 4, .ref 51], (zsh ++ vs, (zup (zup mi 51 2 6) 51 3 (nI i)), ml, (zmr g))) rfl ?_
  refine Wp.ialn rfl (by decide) rfl (by omega) (by decide) ?_
  refine Wp.topi (y := v) (h4) ?_
  refine Wp.run 7 (34, [(0, .ref 51), (1, .ref 1), (2, .int (nI i)), (3, .int 1), (4, .int x)], [.int 0, .int x, .int 1, .int 6, .ref 51], (zsh ++ vs, (zup (zup (zup mi 51 2 6) 51 3 (nI i)) 51 4 v), ml, (zmr g))) rfl ?_
  refine Wp.call (as := [.ref 51, .int 6, .int 1, .int x, .int 0]) (rest := []) rfl rfl rfl rfl rfl (Nat.le_of_ble_eq_true rfl) (Nat.le_of_ble_eq_true rfl) rfl (by decide) (c_pf_6_6_1_0_0 (mi := (zup (zup (zup mi 51 2 6) 51 3 (nI i)) 51 4 v)) (y := nI i) (v := v) h1 rfl rfl rfl) ?_
  rintro _ _ ⟨rfl, rfl⟩
  refine Wp.run 0 (37, [(0, .ref 51), (1, .ref 1), (2, .int (nI i)), (3, .int 1), (4, .int x)], [.int ((((x + (nI i)) ^^^ v) - v) + (2 + (nI i)))], (zsh ++ vs, (zup (zup (zup (zup (zup (zup (zup (zup (zup (zup (zup (zup (zup mi 51 2 6) 51 3 (nI i)) 51 4 v) 52 0 70) 51 1 1) 52 1 11) 51 1 2) 52 2 71) 51 1 3) 52 3 10) 51 1 4) 52 4 10) 51 1 5), ml, (zmr g))) rfl ?_
  refine Wp.ret rfl rfl rfl ?_
  exact ⟨rfl, rfl⟩
theorem c_begin_6_2 {E : zEn} {vs : List (Nat × Nat)} {mi : Nat → Nat → Int32} {ml : Nat → Nat → Int64} {g : Nat → Nat → Option Nat} {x v : Int32} {i : Nat} (hi : i < 6) (h1 : mi 51 1 = 0) (h2 : mi 3 i = 6) (h4 : mi 4 i = v) : Wp E 12 pg_Performance_begin 0 (lv_args 0 [.ref 51, .ref 1, .int (nI i), .int 2, .int x]) [] (zsh ++ vs, mi, ml, (zmr g)) (fun r w' => r = some (.int ((((((x + (nI i)) ^^^ v) - v) + (2 + (nI i))) * 2) + ((((1 + (nI i)) ^^^ v) - v) + (2 + (nI i))))) ∧ w' = (zsh ++ vs, (zup (zup (zup (zup (zup (zup (zup (zup (zup (zup (zup (zup (zup (zup (zup (zup (zup (zup (zup (zup (zup (zup (zup (zup (zup (zup (zup mi 51 2 6) 51 3 (nI i)) 51 4 v) 52 0 40) 51 1 1) 52 1 12) 51 1 2) 52 2 70) 51 1 3) 52 3 11) 51 1 4) 52 4 71) 51 1 5) 52 5 10) 51 1 6) 52 6 10) 51 1 7) 52 7 70) 51 1 8) 52 8 11) 51 1 9) 52 9 71) 51 1 10) 52 10 10) 51 1 11) 52 11 10) 51 1 12), ml, zmr g)) := by
  refine Wp.run 4 (6, [(0, .ref 51), (1, .ref 1), (2, .int (nI i)), (3, .int 2), (4, .int x)], [.int (nI i), .ref 3, .ref 51], (zsh ++ vs, mi, ml, (zmr g))) rfl ?_
  refine Wp.ialn rfl (by decide) rfl (by omega) (by decide) ?_
  refine Wp.topi (y := 6) (h2) ?_
  refine Wp.run 8 (21, [(0, .ref 51), (1, .ref 1), (2, .int (nI i)), (3, .int 2), (4, .int x)], [.int (nI i), .ref 4, .ref 51], (zsh ++ vs, (zup (zup mi 51 2 6) 51 3 (nI i)), ml, (zmr g))) rfl ?_
  refine Wp.ialn rfl (by decide) rfl (by omega) (by decide) ?_
  refine Wp.topi (y := v) (h4) ?_
  refine Wp.run 7 (34, [(0, .ref 51), (1, .ref 1), (2, .int (nI i)), (3, .int 2), (4, .int x)], [.int 0, .int x, .int 2, .int 6, .ref 51], (zsh ++ vs, (zup (zup (zup mi 51 2 6) 51 3 (nI i)) 51 4 v), ml, (zmr g))) rfl ?_
  refine Wp.call (as := [.ref 51, .int 6, .int 2, .int x, .int 0]) (rest := []) rfl rfl rfl rfl rfl (Nat.le_of_ble_eq_true rfl) (Nat.le_of_ble_eq_true rfl) rfl (by decide) (c_pf_6_6_2_0_0 (mi := (zup (zup (zup mi 51 2 6) 51 3 (nI i)) 51 4 v)) (y := nI i) (v := v) h1 rfl rfl rfl) ?_
  rintro _ _ ⟨rfl, rfl⟩
  refine Wp.run 0 (37, [(0, .ref 51), (1, .ref 1), (2, .int (nI i)), (3, .int 2), (4, .int x)], [.int ((((((x + (nI i)) ^^^ v) - v) + (2 + (nI i))) * 2) + ((((1 + (nI i)) ^^^ v) - v) + (2 + (nI i))))], (zsh ++ vs, (zup (zup (zup (zup (zup (zup (zup (zup (zup (zup (zup (zup (zup (zup (zup (zup (zup (zup (zup (zup (zup (zup (zup (zup (zup (zup (zup mi 51 2 6) 51 3 (nI i)) 51 4 v) 52 0 40) 51 1 1) 52 1 12) 51 1 2) 52 2 70) 51 1 3) 52 3 11) 51 1 4) 52 4 71) 51 1 5) 52 5 10) 51 1 6) 52 6 10) 51 1 7) 52 7 70) 51 1 8) 52 8 11) 51 1 9) 52 9 71) 51 1 10) 52 10 10) 51 1 11) 52 11 10) 51 1 12), ml, (zmr g))) rfl ?_
  refine Wp.ret rfl rfl rfl ?_
  exact ⟨rfl, rfl⟩
theorem m_body_0 {E : zEn} {vs : List (Nat × Nat)} {mi : Nat → Nat → Int32} {ml : Nat → Nat → Int64} {g : Nat → Nat → Option Nat} {b : Int32} (h1 : mi 66 24 = 0) : Wp E 0 pg_M_body 0 (lv_args 0 [.ref 66, .int b]) [] (zsh ++ vs, mi, ml, (zmr g)) (fun r w' => r = some (.int b) ∧ w' = (zsh ++ vs, (zup (zup mi 81 0 b) 66 24 1), ml, zmr g)) := by
  refine Wp.run 2 (4, [(0, .ref 66), (1, .int b)], [.int (mi 66 24)], (zsh ++ vs, mi, ml, (zmr g))) rfl ?_
  refine Wp.topi (y := 0) (h1) ?_
  refine Wp.run 6 (17, [(0, .ref 66), (1, .int b)], [.int (mi 66 24), .ref 81], (zsh ++ vs, mi, ml, (zmr g))) rfl ?_
  refine Wp.topi (y := 0) (h1) ?_
  refine Wp.run 5 (24, [(0, .ref 66), (1, .int b)], [.int (mi 66 24), .ref 66], (zsh ++ vs, (zup mi 81 0 b), ml, (zmr g))) rfl ?_
  refine Wp.topi (y := 0) (h1) ?_
  refine Wp.run 4 (30, [(0, .ref 66), (1, .int b)], [.int b], (zsh ++ vs, (zup (zup mi 81 0 b) 66 24 1), ml, (zmr g))) rfl ?_
  refine Wp.ret rfl rfl rfl ?_
  exact ⟨rfl, rfl⟩
theorem m_body_1 {E : zEn} {vs : List (Nat × Nat)} {mi : Nat → Nat → Int32} {ml : Nat → Nat → Int64} {g : Nat → Nat → Option Nat} {b : Int32} (h1 : mi 66 24 = 1) : Wp E 0 pg_M_body 0 (lv_args 0 [.ref 66, .int b]) [] (zsh ++ vs, mi, ml, (zmr g)) (fun r w' => r = some (.int b) ∧ w' = (zsh ++ vs, (zup (zup mi 81 1 b) 66 24 2), ml, zmr g)) := by
  refine Wp.run 2 (4, [(0, .ref 66), (1, .int b)], [.int (mi 66 24)], (zsh ++ vs, mi, ml, (zmr g))) rfl ?_
  refine Wp.topi (y := 1) (h1) ?_
  refine Wp.run 6 (17, [(0, .ref 66), (1, .int b)], [.int (mi 66 24), .ref 81], (zsh ++ vs, mi, ml, (zmr g))) rfl ?_
  refine Wp.topi (y := 1) (h1) ?_
  refine Wp.run 5 (24, [(0, .ref 66), (1, .int b)], [.int (mi 66 24), .ref 66], (zsh ++ vs, (zup mi 81 1 b), ml, (zmr g))) rfl ?_
  refine Wp.topi (y := 1) (h1) ?_
  refine Wp.run 4 (30, [(0, .ref 66), (1, .int b)], [.int b], (zsh ++ vs, (zup (zup mi 81 1 b) 66 24 2), ml, (zmr g))) rfl ?_
  refine Wp.ret rfl rfl rfl ?_
  exact ⟨rfl, rfl⟩
theorem m_body_2 {E : zEn} {vs : List (Nat × Nat)} {mi : Nat → Nat → Int32} {ml : Nat → Nat → Int64} {g : Nat → Nat → Option Nat} {b : Int32} (h1 : mi 66 24 = 2) : Wp E 0 pg_M_body 0 (lv_args 0 [.ref 66, .int b]) [] (zsh ++ vs, mi, ml, (zmr g)) (fun r w' => r = some (.int b) ∧ w' = (zsh ++ vs, (zup (zup mi 81 2 b) 66 24 3), ml, zmr g)) := by
  refine Wp.run 2 (4, [(0, .ref 66), (1, .int b)], [.int (mi 66 24)], (zsh ++ vs, mi, ml, (zmr g))) rfl ?_
  refine Wp.topi (y := 2) (h1) ?_
  refine Wp.run 6 (17, [(0, .ref 66), (1, .int b)], [.int (mi 66 24), .ref 81], (zsh ++ vs, mi, ml, (zmr g))) rfl ?_
  refine Wp.topi (y := 2) (h1) ?_
  refine Wp.run 5 (24, [(0, .ref 66), (1, .int b)], [.int (mi 66 24), .ref 66], (zsh ++ vs, (zup mi 81 2 b), ml, (zmr g))) rfl ?_
  refine Wp.topi (y := 2) (h1) ?_
  refine Wp.run 4 (30, [(0, .ref 66), (1, .int b)], [.int b], (zsh ++ vs, (zup (zup mi 81 2 b) 66 24 3), ml, (zmr g))) rfl ?_
  refine Wp.ret rfl rfl rfl ?_
  exact ⟨rfl, rfl⟩
theorem m_body_3 {E : zEn} {vs : List (Nat × Nat)} {mi : Nat → Nat → Int32} {ml : Nat → Nat → Int64} {g : Nat → Nat → Option Nat} {b : Int32} (h1 : mi 66 24 = 3) : Wp E 0 pg_M_body 0 (lv_args 0 [.ref 66, .int b]) [] (zsh ++ vs, mi, ml, (zmr g)) (fun r w' => r = some (.int b) ∧ w' = (zsh ++ vs, (zup (zup mi 81 3 b) 66 24 4), ml, zmr g)) := by
  refine Wp.run 2 (4, [(0, .ref 66), (1, .int b)], [.int (mi 66 24)], (zsh ++ vs, mi, ml, (zmr g))) rfl ?_
  refine Wp.topi (y := 3) (h1) ?_
  refine Wp.run 6 (17, [(0, .ref 66), (1, .int b)], [.int (mi 66 24), .ref 81], (zsh ++ vs, mi, ml, (zmr g))) rfl ?_
  refine Wp.topi (y := 3) (h1) ?_
  refine Wp.run 5 (24, [(0, .ref 66), (1, .int b)], [.int (mi 66 24), .ref 66], (zsh ++ vs, (zup mi 81 3 b), ml, (zmr g))) rfl ?_
  refine Wp.topi (y := 3) (h1) ?_
  refine Wp.run 4 (30, [(0, .ref 66), (1, .int b)], [.int b], (zsh ++ vs, (zup (zup mi 81 3 b) 66 24 4), ml, (zmr g))) rfl ?_
  refine Wp.ret rfl rfl rfl ?_
  exact ⟨rfl, rfl⟩
theorem m_body_4 {E : zEn} {vs : List (Nat × Nat)} {mi : Nat → Nat → Int32} {ml : Nat → Nat → Int64} {g : Nat → Nat → Option Nat} {b : Int32} (h1 : mi 66 24 = 4) : Wp E 0 pg_M_body 0 (lv_args 0 [.ref 66, .int b]) [] (zsh ++ vs, mi, ml, (zmr g)) (fun r w' => r = some (.int b) ∧ w' = (zsh ++ vs, (zup (zup mi 81 4 b) 66 24 5), ml, zmr g)) := by
  refine Wp.run 2 (4, [(0, .ref 66), (1, .int b)], [.int (mi 66 24)], (zsh ++ vs, mi, ml, (zmr g))) rfl ?_
  refine Wp.topi (y := 4) (h1) ?_
  refine Wp.run 6 (17, [(0, .ref 66), (1, .int b)], [.int (mi 66 24), .ref 81], (zsh ++ vs, mi, ml, (zmr g))) rfl ?_
  refine Wp.topi (y := 4) (h1) ?_
  refine Wp.run 5 (24, [(0, .ref 66), (1, .int b)], [.int (mi 66 24), .ref 66], (zsh ++ vs, (zup mi 81 4 b), ml, (zmr g))) rfl ?_
  refine Wp.topi (y := 4) (h1) ?_
  refine Wp.run 4 (30, [(0, .ref 66), (1, .int b)], [.int b], (zsh ++ vs, (zup (zup mi 81 4 b) 66 24 5), ml, (zmr g))) rfl ?_
  refine Wp.ret rfl rfl rfl ?_
  exact ⟨rfl, rfl⟩
theorem m_body_5 {E : zEn} {vs : List (Nat × Nat)} {mi : Nat → Nat → Int32} {ml : Nat → Nat → Int64} {g : Nat → Nat → Option Nat} {b : Int32} (h1 : mi 66 24 = 5) : Wp E 0 pg_M_body 0 (lv_args 0 [.ref 66, .int b]) [] (zsh ++ vs, mi, ml, (zmr g)) (fun r w' => r = some (.int b) ∧ w' = (zsh ++ vs, (zup (zup mi 81 5 b) 66 24 6), ml, zmr g)) := by
  refine Wp.run 2 (4, [(0, .ref 66), (1, .int b)], [.int (mi 66 24)], (zsh ++ vs, mi, ml, (zmr g))) rfl ?_
  refine Wp.topi (y := 5) (h1) ?_
  refine Wp.run 6 (17, [(0, .ref 66), (1, .int b)], [.int (mi 66 24), .ref 81], (zsh ++ vs, mi, ml, (zmr g))) rfl ?_
  refine Wp.topi (y := 5) (h1) ?_
  refine Wp.run 5 (24, [(0, .ref 66), (1, .int b)], [.int (mi 66 24), .ref 66], (zsh ++ vs, (zup mi 81 5 b), ml, (zmr g))) rfl ?_
  refine Wp.topi (y := 5) (h1) ?_
  refine Wp.run 4 (30, [(0, .ref 66), (1, .int b)], [.int b], (zsh ++ vs, (zup (zup mi 81 5 b) 66 24 6), ml, (zmr g))) rfl ?_
  refine Wp.ret rfl rfl rfl ?_
  exact ⟨rfl, rfl⟩
theorem m_body_6 {E : zEn} {vs : List (Nat × Nat)} {mi : Nat → Nat → Int32} {ml : Nat → Nat → Int64} {g : Nat → Nat → Option Nat} {b : Int32} (h1 : mi 66 24 = 6) : Wp E 0 pg_M_body 0 (lv_args 0 [.ref 66, .int b]) [] (zsh ++ vs, mi, ml, (zmr g)) (fun r w' => r = some (.int b) ∧ w' = (zsh ++ vs, (zup (zup mi 81 6 b) 66 24 7), ml, zmr g)) := by
  refine Wp.run 2 (4, [(0, .ref 66), (1, .int b)], [.int (mi 66 24)], (zsh ++ vs, mi, ml, (zmr g))) rfl ?_
  refine Wp.topi (y := 6) (h1) ?_
  refine Wp.run 6 (17, [(0, .ref 66), (1, .int b)], [.int (mi 66 24), .ref 81], (zsh ++ vs, mi, ml, (zmr g))) rfl ?_
  refine Wp.topi (y := 6) (h1) ?_
  refine Wp.run 5 (24, [(0, .ref 66), (1, .int b)], [.int (mi 66 24), .ref 66], (zsh ++ vs, (zup mi 81 6 b), ml, (zmr g))) rfl ?_
  refine Wp.topi (y := 6) (h1) ?_
  refine Wp.run 4 (30, [(0, .ref 66), (1, .int b)], [.int b], (zsh ++ vs, (zup (zup mi 81 6 b) 66 24 7), ml, (zmr g))) rfl ?_
  refine Wp.ret rfl rfl rfl ?_
  exact ⟨rfl, rfl⟩
theorem m_body_7 {E : zEn} {vs : List (Nat × Nat)} {mi : Nat → Nat → Int32} {ml : Nat → Nat → Int64} {g : Nat → Nat → Option Nat} {b : Int32} (h1 : mi 66 24 = 7) : Wp E 0 pg_M_body 0 (lv_args 0 [.ref 66, .int b]) [] (zsh ++ vs, mi, ml, (zmr g)) (fun r w' => r = some (.int b) ∧ w' = (zsh ++ vs, (zup (zup mi 81 7 b) 66 24 8), ml, zmr g)) := by
  refine Wp.run 2 (4, [(0, .ref 66), (1, .int b)], [.int (mi 66 24)], (zsh ++ vs, mi, ml, (zmr g))) rfl ?_
  refine Wp.topi (y := 7) (h1) ?_
  refine Wp.run 6 (17, [(0, .ref 66), (1, .int b)], [.int (mi 66 24), .ref 81], (zsh ++ vs, mi, ml, (zmr g))) rfl ?_
  refine Wp.topi (y := 7) (h1) ?_
  refine Wp.run 5 (24, [(0, .ref 66), (1, .int b)], [.int (mi 66 24), .ref 66], (zsh ++ vs, (zup mi 81 7 b), ml, (zmr g))) rfl ?_
  refine Wp.topi (y := 7) (h1) ?_
  refine Wp.run 4 (30, [(0, .ref 66), (1, .int b)], [.int b], (zsh ++ vs, (zup (zup mi 81 7 b) 66 24 8), ml, (zmr g))) rfl ?_
  refine Wp.ret rfl rfl rfl ?_
  exact ⟨rfl, rfl⟩
theorem m_body_8 {E : zEn} {vs : List (Nat × Nat)} {mi : Nat → Nat → Int32} {ml : Nat → Nat → Int64} {g : Nat → Nat → Option Nat} {b : Int32} (h1 : mi 66 24 = 8) : Wp E 0 pg_M_body 0 (lv_args 0 [.ref 66, .int b]) [] (zsh ++ vs, mi, ml, (zmr g)) (fun r w' => r = some (.int b) ∧ w' = (zsh ++ vs, (zup (zup mi 81 8 b) 66 24 9), ml, zmr g)) := by
  refine Wp.run 2 (4, [(0, .ref 66), (1, .int b)], [.int (mi 66 24)], (zsh ++ vs, mi, ml, (zmr g))) rfl ?_
  refine Wp.topi (y := 8) (h1) ?_
  refine Wp.run 6 (17, [(0, .ref 66), (1, .int b)], [.int (mi 66 24), .ref 81], (zsh ++ vs, mi, ml, (zmr g))) rfl ?_
  refine Wp.topi (y := 8) (h1) ?_
  refine Wp.run 5 (24, [(0, .ref 66), (1, .int b)], [.int (mi 66 24), .ref 66], (zsh ++ vs, (zup mi 81 8 b), ml, (zmr g))) rfl ?_
  refine Wp.topi (y := 8) (h1) ?_
  refine Wp.run 4 (30, [(0, .ref 66), (1, .int b)], [.int b], (zsh ++ vs, (zup (zup mi 81 8 b) 66 24 9), ml, (zmr g))) rfl ?_
  refine Wp.ret rfl rfl rfl ?_
  exact ⟨rfl, rfl⟩
theorem m_body_9 {E : zEn} {vs : List (Nat × Nat)} {mi : Nat → Nat → Int32} {ml : Nat → Nat → Int64} {g : Nat → Nat → Option Nat} {b : Int32} (h1 : mi 66 24 = 9) : Wp E 0 pg_M_body 0 (lv_args 0 [.ref 66, .int b]) [] (zsh ++ vs, mi, ml, (zmr g)) (fun r w' => r = some (.int b) ∧ w' = (zsh ++ vs, (zup (zup mi 81 9 b) 66 24 10), ml, zmr g)) := by
  refine Wp.run 2 (4, [(0, .ref 66), (1, .int b)], [.int (mi 66 24)], (zsh ++ vs, mi, ml, (zmr g))) rfl ?_
  refine Wp.topi (y := 9) (h1) ?_
  refine Wp.run 6 (17, [(0, .ref 66), (1, .int b)], [.int (mi 66 24), .ref 81], (zsh ++ vs, mi, ml, (zmr g))) rfl ?_
  refine Wp.topi (y := 9) (h1) ?_
  refine Wp.run 5 (24, [(0, .ref 66), (1, .int b)], [.int (mi 66 24), .ref 66], (zsh ++ vs, (zup mi 81 9 b), ml, (zmr g))) rfl ?_
  refine Wp.topi (y := 9) (h1) ?_
  refine Wp.run 4 (30, [(0, .ref 66), (1, .int b)], [.int b], (zsh ++ vs, (zup (zup mi 81 9 b) 66 24 10), ml, (zmr g))) rfl ?_
  refine Wp.ret rfl rfl rfl ?_
  exact ⟨rfl, rfl⟩
theorem m_body_10 {E : zEn} {vs : List (Nat × Nat)} {mi : Nat → Nat → Int32} {ml : Nat → Nat → Int64} {g : Nat → Nat → Option Nat} {b : Int32} (h1 : mi 66 24 = 10) : Wp E 0 pg_M_body 0 (lv_args 0 [.ref 66, .int b]) [] (zsh ++ vs, mi, ml, (zmr g)) (fun r w' => r = some (.int b) ∧ w' = (zsh ++ vs, (zup (zup mi 81 10 b) 66 24 11), ml, zmr g)) := by
  refine Wp.run 2 (4, [(0, .ref 66), (1, .int b)], [.int (mi 66 24)], (zsh ++ vs, mi, ml, (zmr g))) rfl ?_
  refine Wp.topi (y := 10) (h1) ?_
  refine Wp.run 6 (17, [(0, .ref 66), (1, .int b)], [.int (mi 66 24), .ref 81], (zsh ++ vs, mi, ml, (zmr g))) rfl ?_
  refine Wp.topi (y := 10) (h1) ?_
  refine Wp.run 5 (24, [(0, .ref 66), (1, .int b)], [.int (mi 66 24), .ref 66], (zsh ++ vs, (zup mi 81 10 b), ml, (zmr g))) rfl ?_
  refine Wp.topi (y := 10) (h1) ?_
  refine Wp.run 4 (30, [(0, .ref 66), (1, .int b)], [.int b], (zsh ++ vs, (zup (zup mi 81 10 b) 66 24 11), ml, (zmr g))) rfl ?_
  refine Wp.ret rfl rfl rfl ?_
  exact ⟨rfl, rfl⟩
theorem m_body_11 {E : zEn} {vs : List (Nat × Nat)} {mi : Nat → Nat → Int32} {ml : Nat → Nat → Int64} {g : Nat → Nat → Option Nat} {b : Int32} (h1 : mi 66 24 = 11) : Wp E 0 pg_M_body 0 (lv_args 0 [.ref 66, .int b]) [] (zsh ++ vs, mi, ml, (zmr g)) (fun r w' => r = some (.int b) ∧ w' = (zsh ++ vs, (zup (zup mi 81 11 b) 66 24 12), ml, zmr g)) := by
  refine Wp.run 2 (4, [(0, .ref 66), (1, .int b)], [.int (mi 66 24)], (zsh ++ vs, mi, ml, (zmr g))) rfl ?_
  refine Wp.topi (y := 11) (h1) ?_
  refine Wp.run 6 (17, [(0, .ref 66), (1, .int b)], [.int (mi 66 24), .ref 81], (zsh ++ vs, mi, ml, (zmr g))) rfl ?_
  refine Wp.topi (y := 11) (h1) ?_
  refine Wp.run 5 (24, [(0, .ref 66), (1, .int b)], [.int (mi 66 24), .ref 66], (zsh ++ vs, (zup mi 81 11 b), ml, (zmr g))) rfl ?_
  refine Wp.topi (y := 11) (h1) ?_
  refine Wp.run 4 (30, [(0, .ref 66), (1, .int b)], [.int b], (zsh ++ vs, (zup (zup mi 81 11 b) 66 24 12), ml, (zmr g))) rfl ?_
  refine Wp.ret rfl rfl rfl ?_
  exact ⟨rfl, rfl⟩
theorem m_bk_0_0_0_0 {E : zEn} {vs : List (Nat × Nat)} {mi : Nat → Nat → Int32} {ml : Nat → Nat → Int64} {g : Nat → Nat → Option Nat} {x v : Int32} {i : Nat} (hi : i < 6) (h1 : mi 66 24 = 0) (h2 : mi 67 (8 + 10 * i + 0) = 0) (h4 : mi 67 (8 + 10 * i + 1) = v) (h79 : ∀ k, k < 7 → mi 79 k = zab9.getD k 0) (h80 : ∀ k, k < 21 → mi 80 k = zbo.getD k 0) : Wp E 1 pg_M_byKind 0 (lv_args 0 [.ref 66, .int 0, .int (nI i), .int 0, .int x]) [] (zsh ++ vs, mi, ml, (zmr g)) (fun r w' => r = some (.int (x + (nI i))) ∧ w' = (zsh ++ vs, (zup (zup mi 81 0 10) 66 24 1), ml, zmr g)) := by
  refine Wp.run 10 (14, [(5, .int 0), (0, .ref 66), (1, .int 0), (2, .int (nI i)), (3, .int 0), (4, .int x)], [.int (mi 80 0)], (zsh ++ vs, mi, ml, (zmr g))) rfl ?_
  refine Wp.topi (y := 10) (h80 0 (by decide)) ?_
  refine Wp.run 5 (36, [(5, .int 0), (0, .ref 66), (1, .int 0), (2, .int (nI i)), (3, .int 0), (4, .int x)], [.int (mi 79 0)], (zsh ++ vs, mi, ml, (zmr g))) rfl ?_
  refine Wp.topi (y := -1) (h79 0 (by decide)) ?_
  refine Wp.run 10 (50, [(6, .int (-1)), (5, .int 0), (0, .ref 66), (1, .int 0), (2, .int (nI i)), (3, .int 0), (4, .int x)], [.int (mi 80 0), .ref 66], (zsh ++ vs, mi, ml, (zmr g))) rfl ?_
  refine Wp.topi (y := 10) (h80 0 (by decide)) ?_
  refine Wp.run 0 (50, [(6, .int (-1)), (5, .int 0), (0, .ref 66), (1, .int 0), (2, .int (nI i)), (3, .int 0), (4, .int x)], [.int 10, .ref 66], (zsh ++ vs, mi, ml, (zmr g))) rfl ?_
  refine Wp.call (as := [.ref 66, .int 10]) (rest := []) rfl rfl rfl rfl rfl (Nat.le_of_ble_eq_true rfl) (Nat.le_of_ble_eq_true rfl) rfl (by decide) (m_body_0 (b := 10) h1) ?_
  rintro _ _ ⟨rfl, rfl⟩
  refine Wp.run 4 (148, [(6, .int (-1)), (5, .int 0), (0, .ref 66), (1, .int 0), (2, .int (nI i)), (3, .int 0), (4, .int x)], [.int (x + (nI i))], (zsh ++ vs, (zup (zup mi 81 0 10) 66 24 1), ml, (zmr g))) rfl ?_
  refine Wp.ret rfl rfl rfl ?_
  exact ⟨rfl, rfl⟩
theorem m_al_0_0_0_0 {E : zEn} {vs : List (Nat × Nat)} {mi : Nat → Nat → Int32} {ml : Nat → Nat → Int64} {g : Nat → Nat → Option Nat} {x v : Int32} {i : Nat} (hi : i < 6) (h1 : mi 66 24 = 0) (h2 : mi 67 (8 + 10 * i + 0) = 0) (h4 : mi 67 (8 + 10 * i + 1) = v) (h79 : ∀ k, k < 7 → mi 79 k = zab9.getD k 0) (h80 : ∀ k, k < 21 → mi 80 k = zbo.getD k 0) : Wp E 2 pg_M_all 0 (lv_args 0 [.ref 66, .int (nI i), .int 0, .int x]) [] (zsh ++ vs, mi, ml, (zmr g)) (fun r w' => r = some (.int (x + (nI i))) ∧ w' = (zsh ++ vs, (zup (zup mi 81 0 10) 66 24 1), ml, zmr g)) := by
  refine Wp.run 4 (4, [(0, .ref 66), (1, .int (nI i)), (2, .int 0), (3, .int x)], [.int 0, .int (nI i), .ref 66, .ref 66], (zsh ++ vs, mi, ml, (zmr g))) rfl ?_
  refine Wp.call (as := [.ref 66, .int (nI i), .int 0]) (rest := [.ref 66]) rfl rfl rfl rfl rfl (Nat.le_of_ble_eq_true rfl) (Nat.le_of_ble_eq_true rfl) rfl (by decide) (m_one (mi := mi) i 0 (by omega)) ?_
  rintro _ _ ⟨rfl, rfl⟩
  refine Wp.topi (y := 0) (h2) ?_
  refine Wp.run 3 (10, [(0, .ref 66), (1, .int (nI i)), (2, .int 0), (3, .int x)], [.int x, .int 0, .int (nI i), .int 0, .ref 66], (zsh ++ vs, mi, ml, (zmr g))) rfl ?_
  refine Wp.call (as := [.ref 66, .int 0, .int (nI i), .int 0, .int x]) (rest := []) rfl rfl rfl rfl rfl (Nat.le_of_ble_eq_true rfl) (Nat.le_of_ble_eq_true rfl) rfl (by decide) (m_bk_0_0_0_0 hi h1 h2 h4 h79 h80) ?_
  rintro _ _ ⟨rfl, rfl⟩
  refine Wp.run 0 (13, [(0, .ref 66), (1, .int (nI i)), (2, .int 0), (3, .int x)], [.int (x + (nI i))], (zsh ++ vs, (zup (zup mi 81 0 10) 66 24 1), ml, (zmr g))) rfl ?_
  refine Wp.ret rfl rfl rfl ?_
  exact ⟨rfl, rfl⟩
theorem m_bk_0_0_0_1 {E : zEn} {vs : List (Nat × Nat)} {mi : Nat → Nat → Int32} {ml : Nat → Nat → Int64} {g : Nat → Nat → Option Nat} {x v : Int32} {i : Nat} (hi : i < 6) (h1 : mi 66 24 = 1) (h2 : mi 67 (8 + 10 * i + 0) = 0) (h4 : mi 67 (8 + 10 * i + 1) = v) (h79 : ∀ k, k < 7 → mi 79 k = zab9.getD k 0) (h80 : ∀ k, k < 21 → mi 80 k = zbo.getD k 0) : Wp E 1 pg_M_byKind 0 (lv_args 0 [.ref 66, .int 0, .int (nI i), .int 0, .int x]) [] (zsh ++ vs, mi, ml, (zmr g)) (fun r w' => r = some (.int (x + (nI i))) ∧ w' = (zsh ++ vs, (zup (zup mi 81 1 10) 66 24 2), ml, zmr g)) := by
  refine Wp.run 10 (14, [(5, .int 0), (0, .ref 66), (1, .int 0), (2, .int (nI i)), (3, .int 0), (4, .int x)], [.int (mi 80 0)], (zsh ++ vs, mi, ml, (zmr g))) rfl ?_
  refine Wp.topi (y := 10) (h80 0 (by decide)) ?_
  refine Wp.run 5 (36, [(5, .int 0), (0, .ref 66), (1, .int 0), (2, .int (nI i)), (3, .int 0), (4, .int x)], [.int (mi 79 0)], (zsh ++ vs, mi, ml, (zmr g))) rfl ?_
  refine Wp.topi (y := -1) (h79 0 (by decide)) ?_
  refine Wp.run 10 (50, [(6, .int (-1)), (5, .int 0), (0, .ref 66), (1, .int 0), (2, .int (nI i)), (3, .int 0), (4, .int x)], [.int (mi 80 0), .ref 66], (zsh ++ vs, mi, ml, (zmr g))) rfl ?_
  refine Wp.topi (y := 10) (h80 0 (by decide)) ?_
  refine Wp.run 0 (50, [(6, .int (-1)), (5, .int 0), (0, .ref 66), (1, .int 0), (2, .int (nI i)), (3, .int 0), (4, .int x)], [.int 10, .ref 66], (zsh ++ vs, mi, ml, (zmr g))) rfl ?_
  refine Wp.call (as := [.ref 66, .int 10]) (rest := []) rfl rfl rfl rfl rfl (Nat.le_of_ble_eq_true rfl) (Nat.le_of_ble_eq_true rfl) rfl (by decide) (m_body_1 (b := 10) h1) ?_
  rintro _ _ ⟨rfl, rfl⟩
  refine Wp.run 4 (148, [(6, .int (-1)), (5, .int 0), (0, .ref 66), (1, .int 0), (2, .int (nI i)), (3, .int 0), (4, .int x)], [.int (x + (nI i))], (zsh ++ vs, (zup (zup mi 81 1 10) 66 24 2), ml, (zmr g))) rfl ?_
  refine Wp.ret rfl rfl rfl ?_
  exact ⟨rfl, rfl⟩
theorem m_al_0_0_0_1 {E : zEn} {vs : List (Nat × Nat)} {mi : Nat → Nat → Int32} {ml : Nat → Nat → Int64} {g : Nat → Nat → Option Nat} {x v : Int32} {i : Nat} (hi : i < 6) (h1 : mi 66 24 = 1) (h2 : mi 67 (8 + 10 * i + 0) = 0) (h4 : mi 67 (8 + 10 * i + 1) = v) (h79 : ∀ k, k < 7 → mi 79 k = zab9.getD k 0) (h80 : ∀ k, k < 21 → mi 80 k = zbo.getD k 0) : Wp E 2 pg_M_all 0 (lv_args 0 [.ref 66, .int (nI i), .int 0, .int x]) [] (zsh ++ vs, mi, ml, (zmr g)) (fun r w' => r = some (.int (x + (nI i))) ∧ w' = (zsh ++ vs, (zup (zup mi 81 1 10) 66 24 2), ml, zmr g)) := by
  refine Wp.run 4 (4, [(0, .ref 66), (1, .int (nI i)), (2, .int 0), (3, .int x)], [.int 0, .int (nI i), .ref 66, .ref 66], (zsh ++ vs, mi, ml, (zmr g))) rfl ?_
  refine Wp.call (as := [.ref 66, .int (nI i), .int 0]) (rest := [.ref 66]) rfl rfl rfl rfl rfl (Nat.le_of_ble_eq_true rfl) (Nat.le_of_ble_eq_true rfl) rfl (by decide) (m_one (mi := mi) i 0 (by omega)) ?_
  rintro _ _ ⟨rfl, rfl⟩
  refine Wp.topi (y := 0) (h2) ?_
  refine Wp.run 3 (10, [(0, .ref 66), (1, .int (nI i)), (2, .int 0), (3, .int x)], [.int x, .int 0, .int (nI i), .int 0, .ref 66], (zsh ++ vs, mi, ml, (zmr g))) rfl ?_
  refine Wp.call (as := [.ref 66, .int 0, .int (nI i), .int 0, .int x]) (rest := []) rfl rfl rfl rfl rfl (Nat.le_of_ble_eq_true rfl) (Nat.le_of_ble_eq_true rfl) rfl (by decide) (m_bk_0_0_0_1 hi h1 h2 h4 h79 h80) ?_
  rintro _ _ ⟨rfl, rfl⟩
  refine Wp.run 0 (13, [(0, .ref 66), (1, .int (nI i)), (2, .int 0), (3, .int x)], [.int (x + (nI i))], (zsh ++ vs, (zup (zup mi 81 1 10) 66 24 2), ml, (zmr g))) rfl ?_
  refine Wp.ret rfl rfl rfl ?_
  exact ⟨rfl, rfl⟩
theorem m_bk_0_0_1_0 {E : zEn} {vs : List (Nat × Nat)} {mi : Nat → Nat → Int32} {ml : Nat → Nat → Int64} {g : Nat → Nat → Option Nat} {x v : Int32} {i : Nat} (hi : i < 6) (h1 : mi 66 24 = 0) (h2 : mi 67 (8 + 10 * i + 0) = 0) (h4 : mi 67 (8 + 10 * i + 1) = v) (h79 : ∀ k, k < 7 → mi 79 k = zab9.getD k 0) (h80 : ∀ k, k < 21 → mi 80 k = zbo.getD k 0) : Wp E 3 pg_M_byKind 0 (lv_args 0 [.ref 66, .int 0, .int (nI i), .int 1, .int x]) [] (zsh ++ vs, mi, ml, (zmr g)) (fun r w' => r = some (.int ((x + (nI i)) - v)) ∧ w' = (zsh ++ vs, (zup (zup (zup (zup mi 81 0 11) 66 24 1) 81 1 10) 66 24 2), ml, zmr g)) := by
  refine Wp.run 10 (14, [(5, .int 0), (0, .ref 66), (1, .int 0), (2, .int (nI i)), (3, .int 1), (4, .int x)], [.int (mi 80 1)], (zsh ++ vs, mi, ml, (zmr g))) rfl ?_
  refine Wp.topi (y := 11) (h80 1 (by decide)) ?_
  refine Wp.run 5 (36, [(5, .int 0), (0, .ref 66), (1, .int 0), (2, .int (nI i)), (3, .int 1), (4, .int x)], [.int (mi 79 0)], (zsh ++ vs, mi, ml, (zmr g))) rfl ?_
  refine Wp.topi (y := -1) (h79 0 (by decide)) ?_
  refine Wp.run 10 (50, [(6, .int (-1)), (5, .int 0), (0, .ref 66), (1, .int 0), (2, .int (nI i)), (3, .int 1), (4, .int x)], [.int (mi 80 1), .ref 66], (zsh ++ vs, mi, ml, (zmr g))) rfl ?_
  refine Wp.topi (y := 11) (h80 1 (by decide)) ?_
  refine Wp.run 0 (50, [(6, .int (-1)), (5, .int 0), (0, .ref 66), (1, .int 0), (2, .int (nI i)), (3, .int 1), (4, .int x)], [.int 11, .ref 66], (zsh ++ vs, mi, ml, (zmr g))) rfl ?_
  refine Wp.call (as := [.ref 66, .int 11]) (rest := []) rfl rfl rfl rfl rfl (Nat.le_of_ble_eq_true rfl) (Nat.le_of_ble_eq_true rfl) rfl (by decide) (m_body_0 (b := 11) h1) ?_
  rintro _ _ ⟨rfl, rfl⟩
  refine Wp.run 5 (154, [(6, .int (-1)), (5, .int 0), (0, .ref 66), (1, .int 0), (2, .int (nI i)), (3, .int 1), (4, .int x)], [.int x, .int 0, .int (nI i), .ref 66], (zsh ++ vs, (zup (zup mi 81 0 11) 66 24 1), ml, (zmr g))) rfl ?_
  refine Wp.call (as := [.ref 66, .int (nI i), .int 0, .int x]) (rest := []) rfl rfl rfl rfl rfl (Nat.le_of_ble_eq_true rfl) (Nat.le_of_ble_eq_true rfl) rfl (by decide) (m_al_0_0_0_1 (mi := (zup (zup mi 81 0 11) 66 24 1)) (x := x) (i := i) hi rfl h2 h4 h79 h80) ?_
  rintro _ _ ⟨rfl, rfl⟩
  refine Wp.run 3 (160, [(6, .int (-1)), (5, .int 0), (0, .ref 66), (1, .int 0), (2, .int (nI i)), (3, .int 1), (4, .int x)], [.int 1, .int (nI i), .ref 66, .int (x + (nI i))], (zsh ++ vs, (zup (zup (zup (zup mi 81 0 11) 66 24 1) 81 1 10) 66 24 2), ml, (zmr g))) rfl ?_
  refine Wp.call (as := [.ref 66, .int (nI i), .int 1]) (rest := [.int (x + (nI i))]) rfl rfl rfl rfl rfl (Nat.le_of_ble_eq_true rfl) (Nat.le_of_ble_eq_true rfl) rfl (by decide) (m_one (mi := (zup (zup (zup (zup mi 81 0 11) 66 24 1) 81 1 10) 66 24 2)) i 1 (by omega)) ?_
  rintro _ _ ⟨rfl, rfl⟩
  refine Wp.topi (y := v) (h4) ?_
  refine Wp.run 1 (164, [(6, .int (-1)), (5, .int 0), (0, .ref 66), (1, .int 0), (2, .int (nI i)), (3, .int 1), (4, .int x)], [.int ((x + (nI i)) - v)], (zsh ++ vs, (zup (zup (zup (zup mi 81 0 11) 66 24 1) 81 1 10) 66 24 2), ml, (zmr g))) rfl ?_
  refine Wp.ret rfl rfl rfl ?_
  exact ⟨rfl, rfl⟩
theorem m_al_0_0_1_0 {E : zEn} {vs : List (Nat × Nat)} {mi : Nat → Nat → Int32} {ml : Nat → Nat → Int64} {g : Nat → Nat → Option Nat} {x v : Int32} {i : Nat} (hi : i < 6) (h1 : mi 66 24 = 0) (h2 : mi 67 (8 + 10 * i + 0) = 0) (h4 : mi 67 (8 + 10 * i + 1) = v) (h79 : ∀ k, k < 7 → mi 79 k = zab9.getD k 0) (h80 : ∀ k, k < 21 → mi 80 k = zbo.getD k 0) : Wp E 4 pg_M_all 0 (lv_args 0 [.ref 66, .int (nI i), .int 1, .int x]) [] (zsh ++ vs, mi, ml, (zmr g)) (fun r w' => r = some (.int ((x + (nI i)) - v)) ∧ w' = (zsh ++ vs, (zup (zup (zup (zup mi 81 0 11) 66 24 1) 81 1 10) 66 24 2), ml, zmr g)) := by
  refine Wp.run 4 (4, [(0, .ref 66), (1, .int (nI i)), (2, .int 1), (3, .int x)], [.int 0, .int (nI i), .ref 66, .ref 66], (zsh ++ vs, mi, ml, (zmr g))) rfl ?_
  refine Wp.call (as := [.ref 66, .int (nI i), .int 0]) (rest := [.ref 66]) rfl rfl rfl rfl rfl (Nat.le_of_ble_eq_true rfl) (Nat.le_of_ble_eq_true rfl) rfl (by decide) (m_one (mi := mi) i 0 (by omega)) ?_
  rintro _ _ ⟨rfl, rfl⟩
  refine Wp.topi (y := 0) (h2) ?_
  refine Wp.run 3 (10, [(0, .ref 66), (1, .int (nI i)), (2, .int 1), (3, .int x)], [.int x, .int 1, .int (nI i), .int 0, .ref 66], (zsh ++ vs, mi, ml, (zmr g))) rfl ?_
  refine Wp.call (as := [.ref 66, .int 0, .int (nI i), .int 1, .int x]) (rest := []) rfl rfl rfl rfl rfl (Nat.le_of_ble_eq_true rfl) (Nat.le_of_ble_eq_true rfl) rfl (by decide) (m_bk_0_0_1_0 hi h1 h2 h4 h79 h80) ?_
  rintro _ _ ⟨rfl, rfl⟩
  refine Wp.run 0 (13, [(0, .ref 66), (1, .int (nI i)), (2, .int 1), (3, .int x)], [.int ((x + (nI i)) - v)], (zsh ++ vs, (zup (zup (zup (zup mi 81 0 11) 66 24 1) 81 1 10) 66 24 2), ml, (zmr g))) rfl ?_
  refine Wp.ret rfl rfl rfl ?_
  exact ⟨rfl, rfl⟩
theorem m_bk_0_0_0_2 {E : zEn} {vs : List (Nat × Nat)} {mi : Nat → Nat → Int32} {ml : Nat → Nat → Int64} {g : Nat → Nat → Option Nat} {x v : Int32} {i : Nat} (hi : i < 6) (h1 : mi 66 24 = 2) (h2 : mi 67 (8 + 10 * i + 0) = 0) (h4 : mi 67 (8 + 10 * i + 1) = v) (h79 : ∀ k, k < 7 → mi 79 k = zab9.getD k 0) (h80 : ∀ k, k < 21 → mi 80 k = zbo.getD k 0) : Wp E 1 pg_M_byKind 0 (lv_args 0 [.ref 66, .int 0, .int (nI i), .int 0, .int x]) [] (zsh ++ vs, mi, ml, (zmr g)) (fun r w' => r = some (.int (x + (nI i))) ∧ w' = (zsh ++ vs, (zup (zup mi 81 2 10) 66 24 3), ml, zmr g)) := by
  refine Wp.run 10 (14, [(5, .int 0), (0, .ref 66), (1, .int 0), (2, .int (nI i)), (3, .int 0), (4, .int x)], [.int (mi 80 0)], (zsh ++ vs, mi, ml, (zmr g))) rfl ?_
  refine Wp.topi (y := 10) (h80 0 (by decide)) ?_
  refine Wp.run 5 (36, [(5, .int 0), (0, .ref 66), (1, .int 0), (2, .int (nI i)), (3, .int 0), (4, .int x)], [.int (mi 79 0)], (zsh ++ vs, mi, ml, (zmr g))) rfl ?_
  refine Wp.topi (y := -1) (h79 0 (by decide)) ?_
  refine Wp.run 10 (50, [(6, .int (-1)), (5, .int 0), (0, .ref 66), (1, .int 0), (2, .int (nI i)), (3, .int 0), (4, .int x)], [.int (mi 80 0), .ref 66], (zsh ++ vs, mi, ml, (zmr g))) rfl ?_
  refine Wp.topi (y := 10) (h80 0 (by decide)) ?_
  refine Wp.run 0 (50, [(6, .int (-1)), (5, .int 0), (0, .ref 66), (1, .int 0), (2, .int (nI i)), (3, .int 0), (4, .int x)], [.int 10, .ref 66], (zsh ++ vs, mi, ml, (zmr g))) rfl ?_
  refine Wp.call (as := [.ref 66, .int 10]) (rest := []) rfl rfl rfl rfl rfl (Nat.le_of_ble_eq_true rfl) (Nat.le_of_ble_eq_true rfl) rfl (by decide) (m_body_2 (b := 10) h1) ?_
  rintro _ _ ⟨rfl, rfl⟩
  refine Wp.run 4 (148, [(6, .int (-1)), (5, .int 0), (0, .ref 66), (1, .int 0), (2, .int (nI i)), (3, .int 0), (4, .int x)], [.int (x + (nI i))], (zsh ++ vs, (zup (zup mi 81 2 10) 66 24 3), ml, (zmr g))) rfl ?_
  refine Wp.ret rfl rfl rfl ?_
  exact ⟨rfl, rfl⟩
theorem m_al_0_0_0_2 {E : zEn} {vs : List (Nat × Nat)} {mi : Nat → Nat → Int32} {ml : Nat → Nat → Int64} {g : Nat → Nat → Option Nat} {x v : Int32} {i : Nat} (hi : i < 6) (h1 : mi 66 24 = 2) (h2 : mi 67 (8 + 10 * i + 0) = 0) (h4 : mi 67 (8 + 10 * i + 1) = v) (h79 : ∀ k, k < 7 → mi 79 k = zab9.getD k 0) (h80 : ∀ k, k < 21 → mi 80 k = zbo.getD k 0) : Wp E 2 pg_M_all 0 (lv_args 0 [.ref 66, .int (nI i), .int 0, .int x]) [] (zsh ++ vs, mi, ml, (zmr g)) (fun r w' => r = some (.int (x + (nI i))) ∧ w' = (zsh ++ vs, (zup (zup mi 81 2 10) 66 24 3), ml, zmr g)) := by
  refine Wp.run 4 (4, [(0, .ref 66), (1, .int (nI i)), (2, .int 0), (3, .int x)], [.int 0, .int (nI i), .ref 66, .ref 66], (zsh ++ vs, mi, ml, (zmr g))) rfl ?_
  refine Wp.call (as := [.ref 66, .int (nI i), .int 0]) (rest := [.ref 66]) rfl rfl rfl rfl rfl (Nat.le_of_ble_eq_true rfl) (Nat.le_of_ble_eq_true rfl) rfl (by decide) (m_one (mi := mi) i 0 (by omega)) ?_
  rintro _ _ ⟨rfl, rfl⟩
  refine Wp.topi (y := 0) (h2) ?_
  refine Wp.run 3 (10, [(0, .ref 66), (1, .int (nI i)), (2, .int 0), (3, .int x)], [.int x, .int 0, .int (nI i), .int 0, .ref 66], (zsh ++ vs, mi, ml, (zmr g))) rfl ?_
  refine Wp.call (as := [.ref 66, .int 0, .int (nI i), .int 0, .int x]) (rest := []) rfl rfl rfl rfl rfl (Nat.le_of_ble_eq_true rfl) (Nat.le_of_ble_eq_true rfl) rfl (by decide) (m_bk_0_0_0_2 hi h1 h2 h4 h79 h80) ?_
  rintro _ _ ⟨rfl, rfl⟩
  refine Wp.run 0 (13, [(0, .ref 66), (1, .int (nI i)), (2, .int 0), (3, .int x)], [.int (x + (nI i))], (zsh ++ vs, (zup (zup mi 81 2 10) 66 24 3), ml, (zmr g))) rfl ?_
  refine Wp.ret rfl rfl rfl ?_
  exact ⟨rfl, rfl⟩
theorem m_bk_0_0_1_1 {E : zEn} {vs : List (Nat × Nat)} {mi : Nat → Nat → Int32} {ml : Nat → Nat → Int64} {g : Nat → Nat → Option Nat} {x v : Int32} {i : Nat} (hi : i < 6) (h1 : mi 66 24 = 1) (h2 : mi 67 (8 + 10 * i + 0) = 0) (h4 : mi 67 (8 + 10 * i + 1) = v) (h79 : ∀ k, k < 7 → mi 79 k = zab9.getD k 0) (h80 : ∀ k, k < 21 → mi 80 k = zbo.getD k 0) : Wp E 3 pg_M_byKind 0 (lv_args 0 [.ref 66, .int 0, .int (nI i), .int 1, .int x]) [] (zsh ++ vs, mi, ml, (zmr g)) (fun r w' => r = some (.int ((x + (nI i)) - v)) ∧ w' = (zsh ++ vs, (zup (zup (zup (zup mi 81 1 11) 66 24 2) 81 2 10) 66 24 3), ml, zmr g)) := by
  refine Wp.run 10 (14, [(5, .int 0), (0, .ref 66), (1, .int 0), (2, .int (nI i)), (3, .int 1), (4, .int x)], [.int (mi 80 1)], (zsh ++ vs, mi, ml, (zmr g))) rfl ?_
  refine Wp.topi (y := 11) (h80 1 (by decide)) ?_
  refine Wp.run 5 (36, [(5, .int 0), (0, .ref 66), (1, .int 0), (2, .int (nI i)), (3, .int 1), (4, .int x)], [.int (mi 79 0)], (zsh ++ vs, mi, ml, (zmr g))) rfl ?_
  refine Wp.topi (y := -1) (h79 0 (by decide)) ?_
  refine Wp.run 10 (50, [(6, .int (-1)), (5, .int 0), (0, .ref 66), (1, .int 0), (2, .int (nI i)), (3, .int 1), (4, .int x)], [.int (mi 80 1), .ref 66], (zsh ++ vs, mi, ml, (zmr g))) rfl ?_
  refine Wp.topi (y := 11) (h80 1 (by decide)) ?_
  refine Wp.run 0 (50, [(6, .int (-1)), (5, .int 0), (0, .ref 66), (1, .int 0), (2, .int (nI i)), (3, .int 1), (4, .int x)], [.int 11, .ref 66], (zsh ++ vs, mi, ml, (zmr g))) rfl ?_
  refine Wp.call (as := [.ref 66, .int 11]) (rest := []) rfl rfl rfl rfl rfl (Nat.le_of_ble_eq_true rfl) (Nat.le_of_ble_eq_true rfl) rfl (by decide) (m_body_1 (b := 11) h1) ?_
  rintro _ _ ⟨rfl, rfl⟩
  refine Wp.run 5 (154, [(6, .int (-1)), (5, .int 0), (0, .ref 66), (1, .int 0), (2, .int (nI i)), (3, .int 1), (4, .int x)], [.int x, .int 0, .int (nI i), .ref 66], (zsh ++ vs, (zup (zup mi 81 1 11) 66 24 2), ml, (zmr g))) rfl ?_
  refine Wp.call (as := [.ref 66, .int (nI i), .int 0, .int x]) (rest := []) rfl rfl rfl rfl rfl (Nat.le_of_ble_eq_true rfl) (Nat.le_of_ble_eq_true rfl) rfl (by decide) (m_al_0_0_0_2 (mi := (zup (zup mi 81 1 11) 66 24 2)) (x := x) (i := i) hi rfl h2 h4 h79 h80) ?_
  rintro _ _ ⟨rfl, rfl⟩
  refine Wp.run 3 (160, [(6, .int (-1)), (5, .int 0), (0, .ref 66), (1, .int 0), (2, .int (nI i)), (3, .int 1), (4, .int x)], [.int 1, .int (nI i), .ref 66, .int (x + (nI i))], (zsh ++ vs, (zup (zup (zup (zup mi 81 1 11) 66 24 2) 81 2 10) 66 24 3), ml, (zmr g))) rfl ?_
  refine Wp.call (as := [.ref 66, .int (nI i), .int 1]) (rest := [.int (x + (nI i))]) rfl rfl rfl rfl rfl (Nat.le_of_ble_eq_true rfl) (Nat.le_of_ble_eq_true rfl) rfl (by decide) (m_one (mi := (zup (zup (zup (zup mi 81 1 11) 66 24 2) 81 2 10) 66 24 3)) i 1 (by omega)) ?_
  rintro _ _ ⟨rfl, rfl⟩
  refine Wp.topi (y := v) (h4) ?_
  refine Wp.run 1 (164, [(6, .int (-1)), (5, .int 0), (0, .ref 66), (1, .int 0), (2, .int (nI i)), (3, .int 1), (4, .int x)], [.int ((x + (nI i)) - v)], (zsh ++ vs, (zup (zup (zup (zup mi 81 1 11) 66 24 2) 81 2 10) 66 24 3), ml, (zmr g))) rfl ?_
  refine Wp.ret rfl rfl rfl ?_
  exact ⟨rfl, rfl⟩
theorem m_al_0_0_1_1 {E : zEn} {vs : List (Nat × Nat)} {mi : Nat → Nat → Int32} {ml : Nat → Nat → Int64} {g : Nat → Nat → Option Nat} {x v : Int32} {i : Nat} (hi : i < 6) (h1 : mi 66 24 = 1) (h2 : mi 67 (8 + 10 * i + 0) = 0) (h4 : mi 67 (8 + 10 * i + 1) = v) (h79 : ∀ k, k < 7 → mi 79 k = zab9.getD k 0) (h80 : ∀ k, k < 21 → mi 80 k = zbo.getD k 0) : Wp E 4 pg_M_all 0 (lv_args 0 [.ref 66, .int (nI i), .int 1, .int x]) [] (zsh ++ vs, mi, ml, (zmr g)) (fun r w' => r = some (.int ((x + (nI i)) - v)) ∧ w' = (zsh ++ vs, (zup (zup (zup (zup mi 81 1 11) 66 24 2) 81 2 10) 66 24 3), ml, zmr g)) := by
  refine Wp.run 4 (4, [(0, .ref 66), (1, .int (nI i)), (2, .int 1), (3, .int x)], [.int 0, .int (nI i), .ref 66, .ref 66], (zsh ++ vs, mi, ml, (zmr g))) rfl ?_
  refine Wp.call (as := [.ref 66, .int (nI i), .int 0]) (rest := [.ref 66]) rfl rfl rfl rfl rfl (Nat.le_of_ble_eq_true rfl) (Nat.le_of_ble_eq_true rfl) rfl (by decide) (m_one (mi := mi) i 0 (by omega)) ?_
  rintro _ _ ⟨rfl, rfl⟩
  refine Wp.topi (y := 0) (h2) ?_
  refine Wp.run 3 (10, [(0, .ref 66), (1, .int (nI i)), (2, .int 1), (3, .int x)], [.int x, .int 1, .int (nI i), .int 0, .ref 66], (zsh ++ vs, mi, ml, (zmr g))) rfl ?_
  refine Wp.call (as := [.ref 66, .int 0, .int (nI i), .int 1, .int x]) (rest := []) rfl rfl rfl rfl rfl (Nat.le_of_ble_eq_true rfl) (Nat.le_of_ble_eq_true rfl) rfl (by decide) (m_bk_0_0_1_1 hi h1 h2 h4 h79 h80) ?_
  rintro _ _ ⟨rfl, rfl⟩
  refine Wp.run 0 (13, [(0, .ref 66), (1, .int (nI i)), (2, .int 1), (3, .int x)], [.int ((x + (nI i)) - v)], (zsh ++ vs, (zup (zup (zup (zup mi 81 1 11) 66 24 2) 81 2 10) 66 24 3), ml, (zmr g))) rfl ?_
  refine Wp.ret rfl rfl rfl ?_
  exact ⟨rfl, rfl⟩
theorem m_bk_0_0_2_0 {E : zEn} {vs : List (Nat × Nat)} {mi : Nat → Nat → Int32} {ml : Nat → Nat → Int64} {g : Nat → Nat → Option Nat} {x v : Int32} {i : Nat} (hi : i < 6) (h1 : mi 66 24 = 0) (h2 : mi 67 (8 + 10 * i + 0) = 0) (h4 : mi 67 (8 + 10 * i + 1) = v) (h79 : ∀ k, k < 7 → mi 79 k = zab9.getD k 0) (h80 : ∀ k, k < 21 → mi 80 k = zbo.getD k 0) : Wp E 5 pg_M_byKind 0 (lv_args 0 [.ref 66, .int 0, .int (nI i), .int 2, .int x]) [] (zsh ++ vs, mi, ml, (zmr g)) (fun r w' => r = some (.int (((x + (nI i)) - v) * 2)) ∧ w' = (zsh ++ vs, (zup (zup (zup (zup (zup (zup mi 81 0 12) 66 24 1) 81 1 11) 66 24 2) 81 2 10) 66 24 3), ml, zmr g)) := by
  refine Wp.run 10 (14, [(5, .int 0), (0, .ref 66), (1, .int 0), (2, .int (nI i)), (3, .int 2), (4, .int x)], [.int (mi 80 2)], (zsh ++ vs, mi, ml, (zmr g))) rfl ?_
  refine Wp.topi (y := 12) (h80 2 (by decide)) ?_
  refine Wp.run 5 (36, [(5, .int 0), (0, .ref 66), (1, .int 0), (2, .int (nI i)), (3, .int 2), (4, .int x)], [.int (mi 79 0)], (zsh ++ vs, mi, ml, (zmr g))) rfl ?_
  refine Wp.topi (y := -1) (h79 0 (by decide)) ?_
  refine Wp.run 10 (50, [(6, .int (-1)), (5, .int 0), (0, .ref 66), (1, .int 0), (2, .int (nI i)), (3, .int 2), (4, .int x)], [.int (mi 80 2), .ref 66], (zsh ++ vs, mi, ml, (zmr g))) rfl ?_
  refine Wp.topi (y := 12) (h80 2 (by decide)) ?_
  refine Wp.run 0 (50, [(6, .int (-1)), (5, .int 0), (0, .ref 66), (1, .int 0), (2, .int (nI i)), (3, .int 2), (4, .int x)], [.int 12, .ref 66], (zsh ++ vs, mi, ml, (zmr g))) rfl ?_
  refine Wp.call (as := [.ref 66, .int 12]) (rest := []) rfl rfl rfl rfl rfl (Nat.le_of_ble_eq_true rfl) (Nat.le_of_ble_eq_true rfl) rfl (by decide) (m_body_0 (b := 12) h1) ?_
  rintro _ _ ⟨rfl, rfl⟩
  refine Wp.run 5 (170, [(6, .int (-1)), (5, .int 0), (0, .ref 66), (1, .int 0), (2, .int (nI i)), (3, .int 2), (4, .int x)], [.int x, .int 1, .int (nI i), .ref 66], (zsh ++ vs, (zup (zup mi 81 0 12) 66 24 1), ml, (zmr g))) rfl ?_
  refine Wp.call (as := [.ref 66, .int (nI i), .int 1, .int x]) (rest := []) rfl rfl rfl rfl rfl (Nat.le_of_ble_eq_true rfl) (Nat.le_of_ble_eq_true rfl) rfl (by decide) (m_al_0_0_1_1 (mi := (zup (zup mi 81 0 12) 66 24 1)) (x := x) (i := i) hi rfl h2 h4 h79 h80) ?_
  rintro _ _ ⟨rfl, rfl⟩
  refine Wp.run 2 (175, [(6, .int (-1)), (5, .int 0), (0, .ref 66), (1, .int 0), (2, .int (nI i)), (3, .int 2), (4, .int x)], [.int (((x + (nI i)) - v) * 2)], (zsh ++ vs, (zup (zup (zup (zup (zup (zup mi 81 0 12) 66 24 1) 81 1 11) 66 24 2) 81 2 10) 66 24 3), ml, (zmr g))) rfl ?_
  refine Wp.ret rfl rfl rfl ?_
  exact ⟨rfl, rfl⟩
theorem m_al_0_0_2_0 {E : zEn} {vs : List (Nat × Nat)} {mi : Nat → Nat → Int32} {ml : Nat → Nat → Int64} {g : Nat → Nat → Option Nat} {x v : Int32} {i : Nat} (hi : i < 6) (h1 : mi 66 24 = 0) (h2 : mi 67 (8 + 10 * i + 0) = 0) (h4 : mi 67 (8 + 10 * i + 1) = v) (h79 : ∀ k, k < 7 → mi 79 k = zab9.getD k 0) (h80 : ∀ k, k < 21 → mi 80 k = zbo.getD k 0) : Wp E 6 pg_M_all 0 (lv_args 0 [.ref 66, .int (nI i), .int 2, .int x]) [] (zsh ++ vs, mi, ml, (zmr g)) (fun r w' => r = some (.int (((x + (nI i)) - v) * 2)) ∧ w' = (zsh ++ vs, (zup (zup (zup (zup (zup (zup mi 81 0 12) 66 24 1) 81 1 11) 66 24 2) 81 2 10) 66 24 3), ml, zmr g)) := by
  refine Wp.run 4 (4, [(0, .ref 66), (1, .int (nI i)), (2, .int 2), (3, .int x)], [.int 0, .int (nI i), .ref 66, .ref 66], (zsh ++ vs, mi, ml, (zmr g))) rfl ?_
  refine Wp.call (as := [.ref 66, .int (nI i), .int 0]) (rest := [.ref 66]) rfl rfl rfl rfl rfl (Nat.le_of_ble_eq_true rfl) (Nat.le_of_ble_eq_true rfl) rfl (by decide) (m_one (mi := mi) i 0 (by omega)) ?_
  rintro _ _ ⟨rfl, rfl⟩
  refine Wp.topi (y := 0) (h2) ?_
  refine Wp.run 3 (10, [(0, .ref 66), (1, .int (nI i)), (2, .int 2), (3, .int x)], [.int x, .int 2, .int (nI i), .int 0, .ref 66], (zsh ++ vs, mi, ml, (zmr g))) rfl ?_
  refine Wp.call (as := [.ref 66, .int 0, .int (nI i), .int 2, .int x]) (rest := []) rfl rfl rfl rfl rfl (Nat.le_of_ble_eq_true rfl) (Nat.le_of_ble_eq_true rfl) rfl (by decide) (m_bk_0_0_2_0 hi h1 h2 h4 h79 h80) ?_
  rintro _ _ ⟨rfl, rfl⟩
  refine Wp.run 0 (13, [(0, .ref 66), (1, .int (nI i)), (2, .int 2), (3, .int x)], [.int (((x + (nI i)) - v) * 2)], (zsh ++ vs, (zup (zup (zup (zup (zup (zup mi 81 0 12) 66 24 1) 81 1 11) 66 24 2) 81 2 10) 66 24 3), ml, (zmr g))) rfl ?_
  refine Wp.ret rfl rfl rfl ?_
  exact ⟨rfl, rfl⟩
theorem m_bk_1_1_0_0 {E : zEn} {vs : List (Nat × Nat)} {mi : Nat → Nat → Int32} {ml : Nat → Nat → Int64} {g : Nat → Nat → Option Nat} {x v : Int32} {i : Nat} (hi : i < 6) (h1 : mi 66 24 = 0) (h2 : mi 67 (8 + 10 * i + 0) = 1) (h4 : mi 67 (8 + 10 * i + 1) = v) (h79 : ∀ k, k < 7 → mi 79 k = zab9.getD k 0) (h80 : ∀ k, k < 21 → mi 80 k = zbo.getD k 0) : Wp E 1 pg_M_byKind 0 (lv_args 0 [.ref 66, .int 1, .int (nI i), .int 0, .int x]) [] (zsh ++ vs, mi, ml, (zmr g)) (fun r w' => r = some (.int (x + (nI i))) ∧ w' = (zsh ++ vs, (zup (zup mi 81 0 10) 66 24 1), ml, zmr g)) := by
  refine Wp.run 10 (14, [(5, .int 1), (0, .ref 66), (1, .int 1), (2, .int (nI i)), (3, .int 0), (4, .int x)], [.int (mi 80 3)], (zsh ++ vs, mi, ml, (zmr g))) rfl ?_
  refine Wp.topi (y := 0) (h80 3 (by decide)) ?_
  refine Wp.run 5 (24, [(5, .int 1), (0, .ref 66), (1, .int 1), (2, .int (nI i)), (3, .int 0), (4, .int x)], [.int (mi 79 1)], (zsh ++ vs, mi, ml, (zmr g))) rfl ?_
  refine Wp.topi (y := 0) (h79 1 (by decide)) ?_
  refine Wp.run 2 (3, [(5, .int 0), (0, .ref 66), (1, .int 1), (2, .int (nI i)), (3, .int 0), (4, .int x)], [], (zsh ++ vs, mi, ml, (zmr g))) rfl ?_
  refine Wp.run 8 (14, [(5, .int 0), (0, .ref 66), (1, .int 1), (2, .int (nI i)), (3, .int 0), (4, .int x)], [.int (mi 80 0)], (zsh ++ vs, mi, ml, (zmr g))) rfl ?_
  refine Wp.topi (y := 10) (h80 0 (by decide)) ?_
  refine Wp.run 5 (36, [(5, .int 0), (0, .ref 66), (1, .int 1), (2, .int (nI i)), (3, .int 0), (4, .int x)], [.int (mi 79 0)], (zsh ++ vs, mi, ml, (zmr g))) rfl ?_
  refine Wp.topi (y := -1) (h79 0 (by decide)) ?_
  refine Wp.run 10 (50, [(6, .int (-1)), (5, .int 0), (0, .ref 66), (1, .int 1), (2, .int (nI i)), (3, .int 0), (4, .int x)], [.int (mi 80 0), .ref 66], (zsh ++ vs, mi, ml, (zmr g))) rfl ?_
  refine Wp.topi (y := 10) (h80 0 (by decide)) ?_
  refine Wp.run 0 (50, [(6, .int (-1)), (5, .int 0), (0, .ref 66), (1, .int 1), (2, .int (nI i)), (3, .int 0), (4, .int x)], [.int 10, .ref 66], (zsh ++ vs, mi, ml, (zmr g))) rfl ?_
  refine Wp.call (as := [.ref 66, .int 10]) (rest := []) rfl rfl rfl rfl rfl (Nat.le_of_ble_eq_true rfl) (Nat.le_of_ble_eq_true rfl) rfl (by decide) (m_body_0 (b := 10) h1) ?_
  rintro _ _ ⟨rfl, rfl⟩
  refine Wp.run 4 (148, [(6, .int (-1)), (5, .int 0), (0, .ref 66), (1, .int 1), (2, .int (nI i)), (3, .int 0), (4, .int x)], [.int (x + (nI i))], (zsh ++ vs, (zup (zup mi 81 0 10) 66 24 1), ml, (zmr g))) rfl ?_
  refine Wp.ret rfl rfl rfl ?_
  exact ⟨rfl, rfl⟩
theorem m_al_1_1_0_0 {E : zEn} {vs : List (Nat × Nat)} {mi : Nat → Nat → Int32} {ml : Nat → Nat → Int64} {g : Nat → Nat → Option Nat} {x v : Int32} {i : Nat} (hi : i < 6) (h1 : mi 66 24 = 0) (h2 : mi 67 (8 + 10 * i + 0) = 1) (h4 : mi 67 (8 + 10 * i + 1) = v) (h79 : ∀ k, k < 7 → mi 79 k = zab9.getD k 0) (h80 : ∀ k, k < 21 → mi 80 k = zbo.getD k 0) : Wp E 2 pg_M_all 0 (lv_args 0 [.ref 66, .int (nI i), .int 0, .int x]) [] (zsh ++ vs, mi, ml, (zmr g)) (fun r w' => r = some (.int (x + (nI i))) ∧ w' = (zsh ++ vs, (zup (zup mi 81 0 10) 66 24 1), ml, zmr g)) := by
  refine Wp.run 4 (4, [(0, .ref 66), (1, .int (nI i)), (2, .int 0), (3, .int x)], [.int 0, .int (nI i), .ref 66, .ref 66], (zsh ++ vs, mi, ml, (zmr g))) rfl ?_
  refine Wp.call (as := [.ref 66, .int (nI i), .int 0]) (rest := [.ref 66]) rfl rfl rfl rfl rfl (Nat.le_of_ble_eq_true rfl) (Nat.le_of_ble_eq_true rfl) rfl (by decide) (m_one (mi := mi) i 0 (by omega)) ?_
  rintro _ _ ⟨rfl, rfl⟩
  refine Wp.topi (y := 1) (h2) ?_
  refine Wp.run 3 (10, [(0, .ref 66), (1, .int (nI i)), (2, .int 0), (3, .int x)], [.int x, .int 0, .int (nI i), .int 1, .ref 66], (zsh ++ vs, mi, ml, (zmr g))) rfl ?_
  refine Wp.call (as := [.ref 66, .int 1, .int (nI i), .int 0, .int x]) (rest := []) rfl rfl rfl rfl rfl (Nat.le_of_ble_eq_true rfl) (Nat.le_of_ble_eq_true rfl) rfl (by decide) (m_bk_1_1_0_0 hi h1 h2 h4 h79 h80) ?_
  rintro _ _ ⟨rfl, rfl⟩
  refine Wp.run 0 (13, [(0, .ref 66), (1, .int (nI i)), (2, .int 0), (3, .int x)], [.int (x + (nI i))], (zsh ++ vs, (zup (zup mi 81 0 10) 66 24 1), ml, (zmr g))) rfl ?_
  refine Wp.ret rfl rfl rfl ?_
  exact ⟨rfl, rfl⟩
theorem m_bk_1_1_0_2 {E : zEn} {vs : List (Nat × Nat)} {mi : Nat → Nat → Int32} {ml : Nat → Nat → Int64} {g : Nat → Nat → Option Nat} {x v : Int32} {i : Nat} (hi : i < 6) (h1 : mi 66 24 = 2) (h2 : mi 67 (8 + 10 * i + 0) = 1) (h4 : mi 67 (8 + 10 * i + 1) = v) (h79 : ∀ k, k < 7 → mi 79 k = zab9.getD k 0) (h80 : ∀ k, k < 21 → mi 80 k = zbo.getD k 0) : Wp E 1 pg_M_byKind 0 (lv_args 0 [.ref 66, .int 1, .int (nI i), .int 0, .int x]) [] (zsh ++ vs, mi, ml, (zmr g)) (fun r w' => r = some (.int (x + (nI i))) ∧ w' = (zsh ++ vs, (zup (zup mi 81 2 10) 66 24 3), ml, zmr g)) := by
  refine Wp.run 10 (14, [(5, .int 1), (0, .ref 66), (1, .int 1), (2, .int (nI i)), (3, .int 0), (4, .int x)], [.int (mi 80 3)], (zsh ++ vs, mi, ml, (zmr g))) rfl ?_
  refine Wp.topi (y := 0) (h80 3 (by decide)) ?_
  refine Wp.run 5 (24, [(5, .int 1), (0, .ref 66), (1, .int 1), (2, .int (nI i)), (3, .int 0), (4, .int x)], [.int (mi 79 1)], (zsh ++ vs, mi, ml, (zmr g))) rfl ?_
  refine Wp.topi (y := 0) (h79 1 (by decide)) ?_
  refine Wp.run 2 (3, [(5, .int 0), (0, .ref 66), (1, .int 1), (2, .int (nI i)), (3, .int 0), (4, .int x)], [], (zsh ++ vs, mi, ml, (zmr g))) rfl ?_
  refine Wp.run 8 (14, [(5, .int 0), (0, .ref 66), (1, .int 1), (2, .int (nI i)), (3, .int 0), (4, .int x)], [.int (mi 80 0)], (zsh ++ vs, mi, ml, (zmr g))) rfl ?_
  refine Wp.topi (y := 10) (h80 0 (by decide)) ?_
  refine Wp.run 5 (36, [(5, .int 0), (0, .ref 66), (1, .int 1), (2, .int (nI i)), (3, .int 0), (4, .int x)], [.int (mi 79 0)], (zsh ++ vs, mi, ml, (zmr g))) rfl ?_
  refine Wp.topi (y := -1) (h79 0 (by decide)) ?_
  refine Wp.run 10 (50, [(6, .int (-1)), (5, .int 0), (0, .ref 66), (1, .int 1), (2, .int (nI i)), (3, .int 0), (4, .int x)], [.int (mi 80 0), .ref 66], (zsh ++ vs, mi, ml, (zmr g))) rfl ?_
  refine Wp.topi (y := 10) (h80 0 (by decide)) ?_
  refine Wp.run 0 (50, [(6, .int (-1)), (5, .int 0), (0, .ref 66), (1, .int 1), (2, .int (nI i)), (3, .int 0), (4, .int x)], [.int 10, .ref 66], (zsh ++ vs, mi, ml, (zmr g))) rfl ?_
  refine Wp.call (as := [.ref 66, .int 10]) (rest := []) rfl rfl rfl rfl rfl (Nat.le_of_ble_eq_true rfl) (Nat.le_of_ble_eq_true rfl) rfl (by decide) (m_body_2 (b := 10) h1) ?_
  rintro _ _ ⟨rfl, rfl⟩
  refine Wp.run 4 (148, [(6, .int (-1)), (5, .int 0), (0, .ref 66), (1, .int 1), (2, .int (nI i)), (3, .int 0), (4, .int x)], [.int (x + (nI i))], (zsh ++ vs, (zup (zup mi 81 2 10) 66 24 3), ml, (zmr g))) rfl ?_
  refine Wp.ret rfl rfl rfl ?_
  exact ⟨rfl, rfl⟩
theorem m_al_1_1_0_2 {E : zEn} {vs : List (Nat × Nat)} {mi : Nat → Nat → Int32} {ml : Nat → Nat → Int64} {g : Nat → Nat → Option Nat} {x v : Int32} {i : Nat} (hi : i < 6) (h1 : mi 66 24 = 2) (h2 : mi 67 (8 + 10 * i + 0) = 1) (h4 : mi 67 (8 + 10 * i + 1) = v) (h79 : ∀ k, k < 7 → mi 79 k = zab9.getD k 0) (h80 : ∀ k, k < 21 → mi 80 k = zbo.getD k 0) : Wp E 2 pg_M_all 0 (lv_args 0 [.ref 66, .int (nI i), .int 0, .int x]) [] (zsh ++ vs, mi, ml, (zmr g)) (fun r w' => r = some (.int (x + (nI i))) ∧ w' = (zsh ++ vs, (zup (zup mi 81 2 10) 66 24 3), ml, zmr g)) := by
  refine Wp.run 4 (4, [(0, .ref 66), (1, .int (nI i)), (2, .int 0), (3, .int x)], [.int 0, .int (nI i), .ref 66, .ref 66], (zsh ++ vs, mi, ml, (zmr g))) rfl ?_
  refine Wp.call (as := [.ref 66, .int (nI i), .int 0]) (rest := [.ref 66]) rfl rfl rfl rfl rfl (Nat.le_of_ble_eq_true rfl) (Nat.le_of_ble_eq_true rfl) rfl (by decide) (m_one (mi := mi) i 0 (by omega)) ?_
  rintro _ _ ⟨rfl, rfl⟩
  refine Wp.topi (y := 1) (h2) ?_
  refine Wp.run 3 (10, [(0, .ref 66), (1, .int (nI i)), (2, .int 0), (3, .int x)], [.int x, .int 0, .int (nI i), .int 1, .ref 66], (zsh ++ vs, mi, ml, (zmr g))) rfl ?_
  refine Wp.call (as := [.ref 66, .int 1, .int (nI i), .int 0, .int x]) (rest := []) rfl rfl rfl rfl rfl (Nat.le_of_ble_eq_true rfl) (Nat.le_of_ble_eq_true rfl) rfl (by decide) (m_bk_1_1_0_2 hi h1 h2 h4 h79 h80) ?_
  rintro _ _ ⟨rfl, rfl⟩
  refine Wp.run 0 (13, [(0, .ref 66), (1, .int (nI i)), (2, .int 0), (3, .int x)], [.int (x + (nI i))], (zsh ++ vs, (zup (zup mi 81 2 10) 66 24 3), ml, (zmr g))) rfl ?_
  refine Wp.ret rfl rfl rfl ?_
  exact ⟨rfl, rfl⟩
theorem m_bk_1_0_1_1 {E : zEn} {vs : List (Nat × Nat)} {mi : Nat → Nat → Int32} {ml : Nat → Nat → Int64} {g : Nat → Nat → Option Nat} {x v : Int32} {i : Nat} (hi : i < 6) (h1 : mi 66 24 = 1) (h2 : mi 67 (8 + 10 * i + 0) = 1) (h4 : mi 67 (8 + 10 * i + 1) = v) (h79 : ∀ k, k < 7 → mi 79 k = zab9.getD k 0) (h80 : ∀ k, k < 21 → mi 80 k = zbo.getD k 0) : Wp E 3 pg_M_byKind 0 (lv_args 0 [.ref 66, .int 0, .int (nI i), .int 1, .int x]) [] (zsh ++ vs, mi, ml, (zmr g)) (fun r w' => r = some (.int ((x + (nI i)) - v)) ∧ w' = (zsh ++ vs, (zup (zup (zup (zup mi 81 1 11) 66 24 2) 81 2 10) 66 24 3), ml, zmr g)) := by
  refine Wp.run 10 (14, [(5, .int 0), (0, .ref 66), (1, .int 0), (2, .int (nI i)), (3, .int 1), (4, .int x)], [.int (mi 80 1)], (zsh ++ vs, mi, ml, (zmr g))) rfl ?_
  refine Wp.topi (y := 11) (h80 1 (by decide)) ?_
  refine Wp.run 5 (36, [(5, .int 0), (0, .ref 66), (1, .int 0), (2, .int (nI i)), (3, .int 1), (4, .int x)], [.int (mi 79 0)], (zsh ++ vs, mi, ml, (zmr g))) rfl ?_
  refine Wp.topi (y := -1) (h79 0 (by decide)) ?_
  refine Wp.run 10 (50, [(6, .int (-1)), (5, .int 0), (0, .ref 66), (1, .int 0), (2, .int (nI i)), (3, .int 1), (4, .int x)], [.int (mi 80 1), .ref 66], (zsh ++ vs, mi, ml, (zmr g))) rfl ?_
  refine Wp.topi (y := 11) (h80 1 (by decide)) ?_
  refine Wp.run 0 (50, [(6, .int (-1)), (5, .int 0), (0, .ref 66), (1, .int 0), (2, .int (nI i)), (3, .int 1), (4, .int x)], [.int 11, .ref 66], (zsh ++ vs, mi, ml, (zmr g))) rfl ?_
  refine Wp.call (as := [.ref 66, .int 11]) (rest := []) rfl rfl rfl rfl rfl (Nat.le_of_ble_eq_true rfl) (Nat.le_of_ble_eq_true rfl) rfl (by decide) (m_body_1 (b := 11) h1) ?_
  rintro _ _ ⟨rfl, rfl⟩
  refine Wp.run 5 (154, [(6, .int (-1)), (5, .int 0), (0, .ref 66), (1, .int 0), (2, .int (nI i)), (3, .int 1), (4, .int x)], [.int x, .int 0, .int (nI i), .ref 66], (zsh ++ vs, (zup (zup mi 81 1 11) 66 24 2), ml, (zmr g))) rfl ?_
  refine Wp.call (as := [.ref 66, .int (nI i), .int 0, .int x]) (rest := []) rfl rfl rfl rfl rfl (Nat.le_of_ble_eq_true rfl) (Nat.le_of_ble_eq_true rfl) rfl (by decide) (m_al_1_1_0_2 (mi := (zup (zup mi 81 1 11) 66 24 2)) (x := x) (i := i) hi rfl h2 h4 h79 h80) ?_
  rintro _ _ ⟨rfl, rfl⟩
  refine Wp.run 3 (160, [(6, .int (-1)), (5, .int 0), (0, .ref 66), (1, .int 0), (2, .int (nI i)), (3, .int 1), (4, .int x)], [.int 1, .int (nI i), .ref 66, .int (x + (nI i))], (zsh ++ vs, (zup (zup (zup (zup mi 81 1 11) 66 24 2) 81 2 10) 66 24 3), ml, (zmr g))) rfl ?_
  refine Wp.call (as := [.ref 66, .int (nI i), .int 1]) (rest := [.int (x + (nI i))]) rfl rfl rfl rfl rfl (Nat.le_of_ble_eq_true rfl) (Nat.le_of_ble_eq_true rfl) rfl (by decide) (m_one (mi := (zup (zup (zup (zup mi 81 1 11) 66 24 2) 81 2 10) 66 24 3)) i 1 (by omega)) ?_
  rintro _ _ ⟨rfl, rfl⟩
  refine Wp.topi (y := v) (h4) ?_
  refine Wp.run 1 (164, [(6, .int (-1)), (5, .int 0), (0, .ref 66), (1, .int 0), (2, .int (nI i)), (3, .int 1), (4, .int x)], [.int ((x + (nI i)) - v)], (zsh ++ vs, (zup (zup (zup (zup mi 81 1 11) 66 24 2) 81 2 10) 66 24 3), ml, (zmr g))) rfl ?_
  refine Wp.ret rfl rfl rfl ?_
  exact ⟨rfl, rfl⟩
theorem m_bk_1_1_1_0 {E : zEn} {vs : List (Nat × Nat)} {mi : Nat → Nat → Int32} {ml : Nat → Nat → Int64} {g : Nat → Nat → Option Nat} {x v : Int32} {i : Nat} (hi : i < 6) (h1 : mi 66 24 = 0) (h2 : mi 67 (8 + 10 * i + 0) = 1) (h4 : mi 67 (8 + 10 * i + 1) = v) (h79 : ∀ k, k < 7 → mi 79 k = zab9.getD k 0) (h80 : ∀ k, k < 21 → mi 80 k = zbo.getD k 0) : Wp E 4 pg_M_byKind 0 (lv_args 0 [.ref 66, .int 1, .int (nI i), .int 1, .int x]) [] (zsh ++ vs, mi, ml, (zmr g)) (fun r w' => r = some (.int (((x + (nI i)) - v) ^^^ 6)) ∧ w' = (zsh ++ vs, (zup (zup (zup (zup (zup (zup mi 81 0 20) 66 24 1) 81 1 11) 66 24 2) 81 2 10) 66 24 3), ml, zmr g)) := by
  refine Wp.run 10 (14, [(5, .int 1), (0, .ref 66), (1, .int 1), (2, .int (nI i)), (3, .int 1), (4, .int x)], [.int (mi 80 4)], (zsh ++ vs, mi, ml, (zmr g))) rfl ?_
  refine Wp.topi (y := 20) (h80 4 (by decide)) ?_
  refine Wp.run 5 (36, [(5, .int 1), (0, .ref 66), (1, .int 1), (2, .int (nI i)), (3, .int 1), (4, .int x)], [.int (mi 79 1)], (zsh ++ vs, mi, ml, (zmr g))) rfl ?_
  refine Wp.topi (y := 0) (h79 1 (by decide)) ?_
  refine Wp.run 10 (50, [(6, .int 0), (5, .int 1), (0, .ref 66), (1, .int 1), (2, .int (nI i)), (3, .int 1), (4, .int x)], [.int (mi 80 4), .ref 66], (zsh ++ vs, mi, ml, (zmr g))) rfl ?_
  refine Wp.topi (y := 20) (h80 4 (by decide)) ?_
  refine Wp.run 0 (50, [(6, .int 0), (5, .int 1), (0, .ref 66), (1, .int 1), (2, .int (nI i)), (3, .int 1), (4, .int x)], [.int 20, .ref 66], (zsh ++ vs, mi, ml, (zmr g))) rfl ?_
  refine Wp.call (as := [.ref 66, .int 20]) (rest := []) rfl rfl rfl rfl rfl (Nat.le_of_ble_eq_true rfl) (Nat.le_of_ble_eq_true rfl) rfl (by decide) (m_body_0 (b := 20) h1) ?_
  rintro _ _ ⟨rfl, rfl⟩
  refine Wp.run 6 (183, [(6, .int 0), (5, .int 1), (0, .ref 66), (1, .int 1), (2, .int (nI i)), (3, .int 1), (4, .int x)], [.int x, .int 1, .int (nI i), .int 0, .ref 66], (zsh ++ vs, (zup (zup mi 81 0 20) 66 24 1), ml, (zmr g))) rfl ?_
  refine Wp.call (as := [.ref 66, .int 0, .int (nI i), .int 1, .int x]) (rest := []) rfl rfl rfl rfl rfl (Nat.le_of_ble_eq_true rfl) (Nat.le_of_ble_eq_true rfl) rfl (by decide) (m_bk_1_0_1_1 (mi := (zup (zup mi 81 0 20) 66 24 1)) (x := x) (i := i) hi rfl h2 h4 h79 h80) ?_
  rintro _ _ ⟨rfl, rfl⟩
  refine Wp.run 2 (189, [(6, .int 0), (5, .int 1), (0, .ref 66), (1, .int 1), (2, .int (nI i)), (3, .int 1), (4, .int x)], [.int (((x + (nI i)) - v) ^^^ 6)], (zsh ++ vs, (zup (zup (zup (zup (zup (zup mi 81 0 20) 66 24 1) 81 1 11) 66 24 2) 81 2 10) 66 24 3), ml, (zmr g))) rfl ?_
  refine Wp.ret rfl rfl rfl ?_
  exact ⟨rfl, rfl⟩
theorem m_al_1_1_1_0 {E : zEn} {vs : List (Nat × Nat)} {mi : Nat → Nat → Int32} {ml : Nat → Nat → Int64} {g : Nat → Nat → Option Nat} {x v : Int32} {i : Nat} (hi : i < 6) (h1 : mi 66 24 = 0) (h2 : mi 67 (8 + 10 * i + 0) = 1) (h4 : mi 67 (8 + 10 * i + 1) = v) (h79 : ∀ k, k < 7 → mi 79 k = zab9.getD k 0) (h80 : ∀ k, k < 21 → mi 80 k = zbo.getD k 0) : Wp E 5 pg_M_all 0 (lv_args 0 [.ref 66, .int (nI i), .int 1, .int x]) [] (zsh ++ vs, mi, ml, (zmr g)) (fun r w' => r = some (.int (((x + (nI i)) - v) ^^^ 6)) ∧ w' = (zsh ++ vs, (zup (zup (zup (zup (zup (zup mi 81 0 20) 66 24 1) 81 1 11) 66 24 2) 81 2 10) 66 24 3), ml, zmr g)) := by
  refine Wp.run 4 (4, [(0, .ref 66), (1, .int (nI i)), (2, .int 1), (3, .int x)], [.int 0, .int (nI i), .ref 66, .ref 66], (zsh ++ vs, mi, ml, (zmr g))) rfl ?_
  refine Wp.call (as := [.ref 66, .int (nI i), .int 0]) (rest := [.ref 66]) rfl rfl rfl rfl rfl (Nat.le_of_ble_eq_true rfl) (Nat.le_of_ble_eq_true rfl) rfl (by decide) (m_one (mi := mi) i 0 (by omega)) ?_
  rintro _ _ ⟨rfl, rfl⟩
  refine Wp.topi (y := 1) (h2) ?_
  refine Wp.run 3 (10, [(0, .ref 66), (1, .int (nI i)), (2, .int 1), (3, .int x)], [.int x, .int 1, .int (nI i), .int 1, .ref 66], (zsh ++ vs, mi, ml, (zmr g))) rfl ?_
  refine Wp.call (as := [.ref 66, .int 1, .int (nI i), .int 1, .int x]) (rest := []) rfl rfl rfl rfl rfl (Nat.le_of_ble_eq_true rfl) (Nat.le_of_ble_eq_true rfl) rfl (by decide) (m_bk_1_1_1_0 hi h1 h2 h4 h79 h80) ?_
  rintro _ _ ⟨rfl, rfl⟩
  refine Wp.run 0 (13, [(0, .ref 66), (1, .int (nI i)), (2, .int 1), (3, .int x)], [.int (((x + (nI i)) - v) ^^^ 6)], (zsh ++ vs, (zup (zup (zup (zup (zup (zup mi 81 0 20) 66 24 1) 81 1 11) 66 24 2) 81 2 10) 66 24 3), ml, (zmr g))) rfl ?_
  refine Wp.ret rfl rfl rfl ?_
  exact ⟨rfl, rfl⟩
theorem m_bk_1_1_0_3 {E : zEn} {vs : List (Nat × Nat)} {mi : Nat → Nat → Int32} {ml : Nat → Nat → Int64} {g : Nat → Nat → Option Nat} {x v : Int32} {i : Nat} (hi : i < 6) (h1 : mi 66 24 = 3) (h2 : mi 67 (8 + 10 * i + 0) = 1) (h4 : mi 67 (8 + 10 * i + 1) = v) (h79 : ∀ k, k < 7 → mi 79 k = zab9.getD k 0) (h80 : ∀ k, k < 21 → mi 80 k = zbo.getD k 0) : Wp E 1 pg_M_byKind 0 (lv_args 0 [.ref 66, .int 1, .int (nI i), .int 0, .int x]) [] (zsh ++ vs, mi, ml, (zmr g)) (fun r w' => r = some (.int (x + (nI i))) ∧ w' = (zsh ++ vs, (zup (zup mi 81 3 10) 66 24 4), ml, zmr g)) := by
  refine Wp.run 10 (14, [(5, .int 1), (0, .ref 66), (1, .int 1), (2, .int (nI i)), (3, .int 0), (4, .int x)], [.int (mi 80 3)], (zsh ++ vs, mi, ml, (zmr g))) rfl ?_
  refine Wp.topi (y := 0) (h80 3 (by decide)) ?_
  refine Wp.run 5 (24, [(5, .int 1), (0, .ref 66), (1, .int 1), (2, .int (nI i)), (3, .int 0), (4, .int x)], [.int (mi 79 1)], (zsh ++ vs, mi, ml, (zmr g))) rfl ?_
  refine Wp.topi (y := 0) (h79 1 (by decide)) ?_
  refine Wp.run 2 (3, [(5, .int 0), (0, .ref 66), (1, .int 1), (2, .int (nI i)), (3, .int 0), (4, .int x)], [], (zsh ++ vs, mi, ml, (zmr g))) rfl ?_
  refine Wp.run 8 (14, [(5, .int 0), (0, .ref 66), (1, .int 1), (2, .int (nI i)), (3, .int 0), (4, .int x)], [.int (mi 80 0)], (zsh ++ vs, mi, ml, (zmr g))) rfl ?_
  refine Wp.topi (y := 10) (h80 0 (by decide)) ?_
  refine Wp.run 5 (36, [(5, .int 0), (0, .ref 66), (1, .int 1), (2, .int (nI i)), (3, .int 0), (4, .int x)], [.int (mi 79 0)], (zsh ++ vs, mi, ml, (zmr g))) rfl ?_
  refine Wp.topi (y := -1) (h79 0 (by decide)) ?_
  refine Wp.run 10 (50, [(6, .int (-1)), (5, .int 0), (0, .ref 66), (1, .int 1), (2, .int (nI i)), (3, .int 0), (4, .int x)], [.int (mi 80 0), .ref 66], (zsh ++ vs, mi, ml, (zmr g))) rfl ?_
  refine Wp.topi (y := 10) (h80 0 (by decide)) ?_
  refine Wp.run 0 (50, [(6, .int (-1)), (5, .int 0), (0, .ref 66), (1, .int 1), (2, .int (nI i)), (3, .int 0), (4, .int x)], [.int 10, .ref 66], (zsh ++ vs, mi, ml, (zmr g))) rfl ?_
  refine Wp.call (as := [.ref 66, .int 10]) (rest := []) rfl rfl rfl rfl rfl (Nat.le_of_ble_eq_true rfl) (Nat.le_of_ble_eq_true rfl) rfl (by decide) (m_body_3 (b := 10) h1) ?_
  rintro _ _ ⟨rfl, rfl⟩
  refine Wp.run 4 (148, [(6, .int (-1)), (5, .int 0), (0, .ref 66), (1, .int 1), (2, .int (nI i)), (3, .int 0), (4, .int x)], [.int (x + (nI i))], (zsh ++ vs, (zup (zup mi 81 3 10) 66 24 4), ml, (zmr g))) rfl ?_
  refine Wp.ret rfl rfl rfl ?_
  exact ⟨rfl, rfl⟩
theorem m_al_1_1_0_3 {E : zEn} {vs : List (Nat × Nat)} {mi : Nat → Nat → Int32} {ml : Nat → Nat → Int64} {g : Nat → Nat → Option Nat} {x v : Int32} {i : Nat} (hi : i < 6) (h1 : mi 66 24 = 3) (h2 : mi 67 (8 + 10 * i + 0) = 1) (h4 : mi 67 (8 + 10 * i + 1) = v) (h79 : ∀ k, k < 7 → mi 79 k = zab9.getD k 0) (h80 : ∀ k, k < 21 → mi 80 k = zbo.getD k 0) : Wp E 2 pg_M_all 0 (lv_args 0 [.ref 66, .int (nI i), .int 0, .int x]) [] (zsh ++ vs, mi, ml, (zmr g)) (fun r w' => r = some (.int (x + (nI i))) ∧ w' = (zsh ++ vs, (zup (zup mi 81 3 10) 66 24 4), ml, zmr g)) := by
  refine Wp.run 4 (4, [(0, .ref 66), (1, .int (nI i)), (2, .int 0), (3, .int x)], [.int 0, .int (nI i), .ref 66, .ref 66], (zsh ++ vs, mi, ml, (zmr g))) rfl ?_
  refine Wp.call (as := [.ref 66, .int (nI i), .int 0]) (rest := [.ref 66]) rfl rfl rfl rfl rfl (Nat.le_of_ble_eq_true rfl) (Nat.le_of_ble_eq_true rfl) rfl (by decide) (m_one (mi := mi) i 0 (by omega)) ?_
  rintro _ _ ⟨rfl, rfl⟩
  refine Wp.topi (y := 1) (h2) ?_
  refine Wp.run 3 (10, [(0, .ref 66), (1, .int (nI i)), (2, .int 0), (3, .int x)], [.int x, .int 0, .int (nI i), .int 1, .ref 66], (zsh ++ vs, mi, ml, (zmr g))) rfl ?_
  refine Wp.call (as := [.ref 66, .int 1, .int (nI i), .int 0, .int x]) (rest := []) rfl rfl rfl rfl rfl (Nat.le_of_ble_eq_true rfl) (Nat.le_of_ble_eq_true rfl) rfl (by decide) (m_bk_1_1_0_3 hi h1 h2 h4 h79 h80) ?_
  rintro _ _ ⟨rfl, rfl⟩
  refine Wp.run 0 (13, [(0, .ref 66), (1, .int (nI i)), (2, .int 0), (3, .int x)], [.int (x + (nI i))], (zsh ++ vs, (zup (zup mi 81 3 10) 66 24 4), ml, (zmr g))) rfl ?_
  refine Wp.ret rfl rfl rfl ?_
  exact ⟨rfl, rfl⟩
theorem m_bk_1_0_1_2 {E : zEn} {vs : List (Nat × Nat)} {mi : Nat → Nat → Int32} {ml : Nat → Nat → Int64} {g : Nat → Nat → Option Nat} {x v : Int32} {i : Nat} (hi : i < 6) (h1 : mi 66 24 = 2) (h2 : mi 67 (8 + 10 * i + 0) = 1) (h4 : mi 67 (8 + 10 * i + 1) = v) (h79 : ∀ k, k < 7 → mi 79 k = zab9.getD k 0) (h80 : ∀ k, k < 21 → mi 80 k = zbo.getD k 0) : Wp E 3 pg_M_byKind 0 (lv_args 0 [.ref 66, .int 0, .int (nI i), .int 1, .int x]) [] (zsh ++ vs, mi, ml, (zmr g)) (fun r w' => r = some (.int ((x + (nI i)) - v)) ∧ w' = (zsh ++ vs, (zup (zup (zup (zup mi 81 2 11) 66 24 3) 81 3 10) 66 24 4), ml, zmr g)) := by
  refine Wp.run 10 (14, [(5, .int 0), (0, .ref 66), (1, .int 0), (2, .int (nI i)), (3, .int 1), (4, .int x)], [.int (mi 80 1)], (zsh ++ vs, mi, ml, (zmr g))) rfl ?_
  refine Wp.topi (y := 11) (h80 1 (by decide)) ?_
  refine Wp.run 5 (36, [(5, .int 0), (0, .ref 66), (1, .int 0), (2, .int (nI i)), (3, .int 1), (4, .int x)], [.int (mi 79 0)], (zsh ++ vs, mi, ml, (zmr g))) rfl ?_
  refine Wp.topi (y := -1) (h79 0 (by decide)) ?_
  refine Wp.run 10 (50, [(6, .int (-1)), (5, .int 0), (0, .ref 66), (1, .int 0), (2, .int (nI i)), (3, .int 1), (4, .int x)], [.int (mi 80 1), .ref 66], (zsh ++ vs, mi, ml, (zmr g))) rfl ?_
  refine Wp.topi (y := 11) (h80 1 (by decide)) ?_
  refine Wp.run 0 (50, [(6, .int (-1)), (5, .int 0), (0, .ref 66), (1, .int 0), (2, .int (nI i)), (3, .int 1), (4, .int x)], [.int 11, .ref 66], (zsh ++ vs, mi, ml, (zmr g))) rfl ?_
  refine Wp.call (as := [.ref 66, .int 11]) (rest := []) rfl rfl rfl rfl rfl (Nat.le_of_ble_eq_true rfl) (Nat.le_of_ble_eq_true rfl) rfl (by decide) (m_body_2 (b := 11) h1) ?_
  rintro _ _ ⟨rfl, rfl⟩
  refine Wp.run 5 (154, [(6, .int (-1)), (5, .int 0), (0, .ref 66), (1, .int 0), (2, .int (nI i)), (3, .int 1), (4, .int x)], [.int x, .int 0, .int (nI i), .ref 66], (zsh ++ vs, (zup (zup mi 81 2 11) 66 24 3), ml, (zmr g))) rfl ?_
  refine Wp.call (as := [.ref 66, .int (nI i), .int 0, .int x]) (rest := []) rfl rfl rfl rfl rfl (Nat.le_of_ble_eq_true rfl) (Nat.le_of_ble_eq_true rfl) rfl (by decide) (m_al_1_1_0_3 (mi := (zup (zup mi 81 2 11) 66 24 3)) (x := x) (i := i) hi rfl h2 h4 h79 h80) ?_
  rintro _ _ ⟨rfl, rfl⟩
  refine Wp.run 3 (160, [(6, .int (-1)), (5, .int 0), (0, .ref 66), (1, .int 0), (2, .int (nI i)), (3, .int 1), (4, .int x)], [.int 1, .int (nI i), .ref 66, .int (x + (nI i))], (zsh ++ vs, (zup (zup (zup (zup mi 81 2 11) 66 24 3) 81 3 10) 66 24 4), ml, (zmr g))) rfl ?_
  refine Wp.call (as := [.ref 66, .int (nI i), .int 1]) (rest := [.int (x + (nI i))]) rfl rfl rfl rfl rfl (Nat.le_of_ble_eq_true rfl) (Nat.le_of_ble_eq_true rfl) rfl (by decide) (m_one (mi := (zup (zup (zup (zup mi 81 2 11) 66 24 3) 81 3 10) 66 24 4)) i 1 (by omega)) ?_
  rintro _ _ ⟨rfl, rfl⟩
  refine Wp.topi (y := v) (h4) ?_
  refine Wp.run 1 (164, [(6, .int (-1)), (5, .int 0), (0, .ref 66), (1, .int 0), (2, .int (nI i)), (3, .int 1), (4, .int x)], [.int ((x + (nI i)) - v)], (zsh ++ vs, (zup (zup (zup (zup mi 81 2 11) 66 24 3) 81 3 10) 66 24 4), ml, (zmr g))) rfl ?_
  refine Wp.ret rfl rfl rfl ?_
  exact ⟨rfl, rfl⟩
theorem m_bk_1_1_1_1 {E : zEn} {vs : List (Nat × Nat)} {mi : Nat → Nat → Int32} {ml : Nat → Nat → Int64} {g : Nat → Nat → Option Nat} {x v : Int32} {i : Nat} (hi : i < 6) (h1 : mi 66 24 = 1) (h2 : mi 67 (8 + 10 * i + 0) = 1) (h4 : mi 67 (8 + 10 * i + 1) = v) (h79 : ∀ k, k < 7 → mi 79 k = zab9.getD k 0) (h80 : ∀ k, k < 21 → mi 80 k = zbo.getD k 0) : Wp E 4 pg_M_byKind 0 (lv_args 0 [.ref 66, .int 1, .int (nI i), .int 1, .int x]) [] (zsh ++ vs, mi, ml, (zmr g)) (fun r w' => r = some (.int (((x + (nI i)) - v) ^^^ 6)) ∧ w' = (zsh ++ vs, (zup (zup (zup (zup (zup (zup mi 81 1 20) 66 24 2) 81 2 11) 66 24 3) 81 3 10) 66 24 4), ml, zmr g)) := by
  refine Wp.run 10 (14, [(5, .int 1), (0, .ref 66), (1, .int 1), (2, .int (nI i)), (3, .int 1), (4, .int x)], [.int (mi 80 4)], (zsh ++ vs, mi, ml, (zmr g))) rfl ?_
  refine Wp.topi (y := 20) (h80 4 (by decide)) ?_
  refine Wp.run 5 (36, [(5, .int 1), (0, .ref 66), (1, .int 1), (2, .int (nI i)), (3, .int 1), (4, .int x)], [.int (mi 79 1)], (zsh ++ vs, mi, ml, (zmr g))) rfl ?_
  refine Wp.topi (y := 0) (h79 1 (by decide)) ?_
  refine Wp.run 10 (50, [(6, .int 0), (5, .int 1), (0, .ref 66), (1, .int 1), (2, .int (nI i)), (3, .int 1), (4, .int x)], [.int (mi 80 4), .ref 66], (zsh ++ vs, mi, ml, (zmr g))) rfl ?_
  refine Wp.topi (y := 20) (h80 4 (by decide)) ?_
  refine Wp.run 0 (50, [(6, .int 0), (5, .int 1), (0, .ref 66), (1, .int 1), (2, .int (nI i)), (3, .int 1), (4, .int x)], [.int 20, .ref 66], (zsh ++ vs, mi, ml, (zmr g))) rfl ?_
  refine Wp.call (as := [.ref 66, .int 20]) (rest := []) rfl rfl rfl rfl rfl (Nat.le_of_ble_eq_true rfl) (Nat.le_of_ble_eq_true rfl) rfl (by decide) (m_body_1 (b := 20) h1) ?_
  rintro _ _ ⟨rfl, rfl⟩
  refine Wp.run 6 (183, [(6, .int 0), (5, .int 1), (0, .ref 66), (1, .int 1), (2, .int (nI i)), (3, .int 1), (4, .int x)], [.int x, .int 1, .int (nI i), .int 0, .ref 66], (zsh ++ vs, (zup (zup mi 81 1 20) 66 24 2), ml, (zmr g))) rfl ?_
  refine Wp.call (as := [.ref 66, .int 0, .int (nI i), .int 1, .int x]) (rest := []) rfl rfl rfl rfl rfl (Nat.le_of_ble_eq_true rfl) (Nat.le_of_ble_eq_true rfl) rfl (by decide) (m_bk_1_0_1_2 (mi := (zup (zup mi 81 1 20) 66 24 2)) (x := x) (i := i) hi rfl h2 h4 h79 h80) ?_
  rintro _ _ ⟨rfl, rfl⟩
  refine Wp.run 2 (189, [(6, .int 0), (5, .int 1), (0, .ref 66), (1, .int 1), (2, .int (nI i)), (3, .int 1), (4, .int x)], [.int (((x + (nI i)) - v) ^^^ 6)], (zsh ++ vs, (zup (zup (zup (zup (zup (zup mi 81 1 20) 66 24 2) 81 2 11) 66 24 3) 81 3 10) 66 24 4), ml, (zmr g))) rfl ?_
  refine Wp.ret rfl rfl rfl ?_
  exact ⟨rfl, rfl⟩
theorem m_al_1_1_1_1 {E : zEn} {vs : List (Nat × Nat)} {mi : Nat → Nat → Int32} {ml : Nat → Nat → Int64} {g : Nat → Nat → Option Nat} {x v : Int32} {i : Nat} (hi : i < 6) (h1 : mi 66 24 = 1) (h2 : mi 67 (8 + 10 * i + 0) = 1) (h4 : mi 67 (8 + 10 * i + 1) = v) (h79 : ∀ k, k < 7 → mi 79 k = zab9.getD k 0) (h80 : ∀ k, k < 21 → mi 80 k = zbo.getD k 0) : Wp E 5 pg_M_all 0 (lv_args 0 [.ref 66, .int (nI i), .int 1, .int x]) [] (zsh ++ vs, mi, ml, (zmr g)) (fun r w' => r = some (.int (((x + (nI i)) - v) ^^^ 6)) ∧ w' = (zsh ++ vs, (zup (zup (zup (zup (zup (zup mi 81 1 20) 66 24 2) 81 2 11) 66 24 3) 81 3 10) 66 24 4), ml, zmr g)) := by
  refine Wp.run 4 (4, [(0, .ref 66), (1, .int (nI i)), (2, .int 1), (3, .int x)], [.int 0, .int (nI i), .ref 66, .ref 66], (zsh ++ vs, mi, ml, (zmr g))) rfl ?_
  refine Wp.call (as := [.ref 66, .int (nI i), .int 0]) (rest := [.ref 66]) rfl rfl rfl rfl rfl (Nat.le_of_ble_eq_true rfl) (Nat.le_of_ble_eq_true rfl) rfl (by decide) (m_one (mi := mi) i 0 (by omega)) ?_
  rintro _ _ ⟨rfl, rfl⟩
  refine Wp.topi (y := 1) (h2) ?_
  refine Wp.run 3 (10, [(0, .ref 66), (1, .int (nI i)), (2, .int 1), (3, .int x)], [.int x, .int 1, .int (nI i), .int 1, .ref 66], (zsh ++ vs, mi, ml, (zmr g))) rfl ?_
  refine Wp.call (as := [.ref 66, .int 1, .int (nI i), .int 1, .int x]) (rest := []) rfl rfl rfl rfl rfl (Nat.le_of_ble_eq_true rfl) (Nat.le_of_ble_eq_true rfl) rfl (by decide) (m_bk_1_1_1_1 hi h1 h2 h4 h79 h80) ?_
  rintro _ _ ⟨rfl, rfl⟩
  refine Wp.run 0 (13, [(0, .ref 66), (1, .int (nI i)), (2, .int 1), (3, .int x)], [.int (((x + (nI i)) - v) ^^^ 6)], (zsh ++ vs, (zup (zup (zup (zup (zup (zup mi 81 1 20) 66 24 2) 81 2 11) 66 24 3) 81 3 10) 66 24 4), ml, (zmr g))) rfl ?_
  refine Wp.ret rfl rfl rfl ?_
  exact ⟨rfl, rfl⟩
theorem m_bk_1_1_2_0 {E : zEn} {vs : List (Nat × Nat)} {mi : Nat → Nat → Int32} {ml : Nat → Nat → Int64} {g : Nat → Nat → Option Nat} {x v : Int32} {i : Nat} (hi : i < 6) (h1 : mi 66 24 = 0) (h2 : mi 67 (8 + 10 * i + 0) = 1) (h4 : mi 67 (8 + 10 * i + 1) = v) (h79 : ∀ k, k < 7 → mi 79 k = zab9.getD k 0) (h80 : ∀ k, k < 21 → mi 80 k = zbo.getD k 0) : Wp E 6 pg_M_byKind 0 (lv_args 0 [.ref 66, .int 1, .int (nI i), .int 2, .int x]) [] (zsh ++ vs, mi, ml, (zmr g)) (fun r w' => r = some (.int ((((x + (nI i)) - v) ^^^ 6) * 2)) ∧ w' = (zsh ++ vs, (zup (zup (zup (zup (zup (zup (zup (zup mi 81 0 12) 66 24 1) 81 1 20) 66 24 2) 81 2 11) 66 24 3) 81 3 10) 66 24 4), ml, zmr g)) := by
  refine Wp.run 10 (14, [(5, .int 1), (0, .ref 66), (1, .int 1), (2, .int (nI i)), (3, .int 2), (4, .int x)], [.int (mi 80 5)], (zsh ++ vs, mi, ml, (zmr g))) rfl ?_
  refine Wp.topi (y := 0) (h80 5 (by decide)) ?_
  refine Wp.run 5 (24, [(5, .int 1), (0, .ref 66), (1, .int 1), (2, .int (nI i)), (3, .int 2), (4, .int x)], [.int (mi 79 1)], (zsh ++ vs, mi, ml, (zmr g))) rfl ?_
  refine Wp.topi (y := 0) (h79 1 (by decide)) ?_
  refine Wp.run 2 (3, [(5, .int 0), (0, .ref 66), (1, .int 1), (2, .int (nI i)), (3, .int 2), (4, .int x)], [], (zsh ++ vs, mi, ml, (zmr g))) rfl ?_
  refine Wp.run 8 (14, [(5, .int 0), (0, .ref 66), (1, .int 1), (2, .int (nI i)), (3, .int 2), (4, .int x)], [.int (mi 80 2)], (zsh ++ vs, mi, ml, (zmr g))) rfl ?_
  refine Wp.topi (y := 12) (h80 2 (by decide)) ?_
  refine Wp.run 5 (36, [(5, .int 0), (0, .ref 66), (1, .int 1), (2, .int (nI i)), (3, .int 2), (4, .int x)], [.int (mi 79 0)], (zsh ++ vs, mi, ml, (zmr g))) rfl ?_
  refine Wp.topi (y := -1) (h79 0 (by decide)) ?_
  refine Wp.run 10 (50, [(6, .int (-1)), (5, .int 0), (0, .ref 66), (1, .int 1), (2, .int (nI i)), (3, .int 2), (4, .int x)], [.int (mi 80 2), .ref 66], (zsh ++ vs, mi, ml, (zmr g))) rfl ?_
  refine Wp.topi (y := 12) (h80 2 (by decide)) ?_
  refine Wp.run 0 (50, [(6, .int (-1)), (5, .int 0), (0, .ref 66), (1, .int 1), (2, .int (nI i)), (3, .int 2), (4, .int x)], [.int 12, .ref 66], (zsh ++ vs, mi, ml, (zmr g))) rfl ?_
  refine Wp.call (as := [.ref 66, .int 12]) (rest := []) rfl rfl rfl rfl rfl (Nat.le_of_ble_eq_true rfl) (Nat.le_of_ble_eq_true rfl) rfl (by decide) (m_body_0 (b := 12) h1) ?_
  rintro _ _ ⟨rfl, rfl⟩
  refine Wp.run 5 (170, [(6, .int (-1)), (5, .int 0), (0, .ref 66), (1, .int 1), (2, .int (nI i)), (3, .int 2), (4, .int x)], [.int x, .int 1, .int (nI i), .ref 66], (zsh ++ vs, (zup (zup mi 81 0 12) 66 24 1), ml, (zmr g))) rfl ?_
  refine Wp.call (as := [.ref 66, .int (nI i), .int 1, .int x]) (rest := []) rfl rfl rfl rfl rfl (Nat.le_of_ble_eq_true rfl) (Nat.le_of_ble_eq_true rfl) rfl (by decide) (m_al_1_1_1_1 (mi := (zup (zup mi 81 0 12) 66 24 1)) (x := x) (i := i) hi rfl h2 h4 h79 h80) ?_
  rintro _ _ ⟨rfl, rfl⟩
  refine Wp.run 2 (175, [(6, .int (-1)), (5, .int 0), (0, .ref 66), (1, .int 1), (2, .int (nI i)), (3, .int 2), (4, .int x)], [.int ((((x + (nI i)) - v) ^^^ 6) * 2)], (zsh ++ vs, (zup (zup (zup (zup (zup (zup (zup (zup mi 81 0 12) 66 24 1) 81 1 20) 66 24 2) 81 2 11) 66 24 3) 81 3 10) 66 24 4), ml, (zmr g))) rfl ?_
  refine Wp.ret rfl rfl rfl ?_
  exact ⟨rfl, rfl⟩
theorem m_al_1_1_2_0 {E : zEn} {vs : List (Nat × Nat)} {mi : Nat → Nat → Int32} {ml : Nat → Nat → Int64} {g : Nat → Nat → Option Nat} {x v : Int32} {i : Nat} (hi : i < 6) (h1 : mi 66 24 = 0) (h2 : mi 67 (8 + 10 * i + 0) = 1) (h4 : mi 67 (8 + 10 * i + 1) = v) (h79 : ∀ k, k < 7 → mi 79 k = zab9.getD k 0) (h80 : ∀ k, k < 21 → mi 80 k = zbo.getD k 0) : Wp E 7 pg_M_all 0 (lv_args 0 [.ref 66, .int (nI i), .int 2, .int x]) [] (zsh ++ vs, mi, ml, (zmr g)) (fun r w' => r = some (.int ((((x + (nI i)) - v) ^^^ 6) * 2)) ∧ w' = (zsh ++ vs, (zup (zup (zup (zup (zup (zup (zup (zup mi 81 0 12) 66 24 1) 81 1 20) 66 24 2) 81 2 11) 66 24 3) 81 3 10) 66 24 4), ml, zmr g)) := by
  refine Wp.run 4 (4, [(0, .ref 66), (1, .int (nI i)), (2, .int 2), (3, .int x)], [.int 0, .int (nI i), .ref 66, .ref 66], (zsh ++ vs, mi, ml, (zmr g))) rfl ?_
  refine Wp.call (as := [.ref 66, .int (nI i), .int 0]) (rest := [.ref 66]) rfl rfl rfl rfl rfl (Nat.le_of_ble_eq_true rfl) (Nat.le_of_ble_eq_true rfl) rfl (by decide) (m_one (mi := mi) i 0 (by omega)) ?_
  rintro _ _ ⟨rfl, rfl⟩
  refine Wp.topi (y := 1) (h2) ?_
  refine Wp.run 3 (10, [(0, .ref 66), (1, .int (nI i)), (2, .int 2), (3, .int x)], [.int x, .int 2, .int (nI i), .int 1, .ref 66], (zsh ++ vs, mi, ml, (zmr g))) rfl ?_
  refine Wp.call (as := [.ref 66, .int 1, .int (nI i), .int 2, .int x]) (rest := []) rfl rfl rfl rfl rfl (Nat.le_of_ble_eq_true rfl) (Nat.le_of_ble_eq_true rfl) rfl (by decide) (m_bk_1_1_2_0 hi h1 h2 h4 h79 h80) ?_
  rintro _ _ ⟨rfl, rfl⟩
  refine Wp.run 0 (13, [(0, .ref 66), (1, .int (nI i)), (2, .int 2), (3, .int x)], [.int ((((x + (nI i)) - v) ^^^ 6) * 2)], (zsh ++ vs, (zup (zup (zup (zup (zup (zup (zup (zup mi 81 0 12) 66 24 1) 81 1 20) 66 24 2) 81 2 11) 66 24 3) 81 3 10) 66 24 4), ml, (zmr g))) rfl ?_
  refine Wp.ret rfl rfl rfl ?_
  exact ⟨rfl, rfl⟩
theorem m_bk_2_0_0_1 {E : zEn} {vs : List (Nat × Nat)} {mi : Nat → Nat → Int32} {ml : Nat → Nat → Int64} {g : Nat → Nat → Option Nat} {x v : Int32} {i : Nat} (hi : i < 6) (h1 : mi 66 24 = 1) (h2 : mi 67 (8 + 10 * i + 0) = 2) (h4 : mi 67 (8 + 10 * i + 1) = v) (h79 : ∀ k, k < 7 → mi 79 k = zab9.getD k 0) (h80 : ∀ k, k < 21 → mi 80 k = zbo.getD k 0) : Wp E 1 pg_M_byKind 0 (lv_args 0 [.ref 66, .int 0, .int (nI i), .int 0, .int x]) [] (zsh ++ vs, mi, ml, (zmr g)) (fun r w' => r = some (.int (x + (nI i))) ∧ w' = (zsh ++ vs, (zup (zup mi 81 1 10) 66 24 2), ml, zmr g)) := by
  refine Wp.run 10 (14, [(5, .int 0), (0, .ref 66), (1, .int 0), (2, .int (nI i)), (3, .int 0), (4, .int x)], [.int (mi 80 0)], (zsh ++ vs, mi, ml, (zmr g))) rfl ?_
  refine Wp.topi (y := 10) (h80 0 (by decide)) ?_
  refine Wp.run 5 (36, [(5, .int 0), (0, .ref 66), (1, .int 0), (2, .int (nI i)), (3, .int 0), (4, .int x)], [.int (mi 79 0)], (zsh ++ vs, mi, ml, (zmr g))) rfl ?_
  refine Wp.topi (y := -1) (h79 0 (by decide)) ?_
  refine Wp.run 10 (50, [(6, .int (-1)), (5, .int 0), (0, .ref 66), (1, .int 0), (2, .int (nI i)), (3, .int 0), (4, .int x)], [.int (mi 80 0), .ref 66], (zsh ++ vs, mi, ml, (zmr g))) rfl ?_
  refine Wp.topi (y := 10) (h80 0 (by decide)) ?_
  refine Wp.run 0 (50, [(6, .int (-1)), (5, .int 0), (0, .ref 66), (1, .int 0), (2, .int (nI i)), (3, .int 0), (4, .int x)], [.int 10, .ref 66], (zsh ++ vs, mi, ml, (zmr g))) rfl ?_
  refine Wp.call (as := [.ref 66, .int 10]) (rest := []) rfl rfl rfl rfl rfl (Nat.le_of_ble_eq_true rfl) (Nat.le_of_ble_eq_true rfl) rfl (by decide) (m_body_1 (b := 10) h1) ?_
  rintro _ _ ⟨rfl, rfl⟩
  refine Wp.run 4 (148, [(6, .int (-1)), (5, .int 0), (0, .ref 66), (1, .int 0), (2, .int (nI i)), (3, .int 0), (4, .int x)], [.int (x + (nI i))], (zsh ++ vs, (zup (zup mi 81 1 10) 66 24 2), ml, (zmr g))) rfl ?_
  refine Wp.ret rfl rfl rfl ?_
  exact ⟨rfl, rfl⟩
theorem m_bk_2_2_0_0 {E : zEn} {vs : List (Nat × Nat)} {mi : Nat → Nat → Int32} {ml : Nat → Nat → Int64} {g : Nat → Nat → Option Nat} {x v : Int32} {i : Nat} (hi : i < 6) (h1 : mi 66 24 = 0) (h2 : mi 67 (8 + 10 * i + 0) = 2) (h4 : mi 67 (8 + 10 * i + 1) = v) (h79 : ∀ k, k < 7 → mi 79 k = zab9.getD k 0) (h80 : ∀ k, k < 21 → mi 80 k = zbo.getD k 0) : Wp E 2 pg_M_byKind 0 (lv_args 0 [.ref 66, .int 2, .int (nI i), .int 0, .int x]) [] (zsh ++ vs, mi, ml, (zmr g)) (fun r w' => r = some (.int (((x * 3) + (nI i)))) ∧ w' = (zsh ++ vs, (zup (zup (zup (zup mi 81 0 30) 66 24 1) 81 1 10) 66 24 2), ml, zmr g)) := by
  refine Wp.run 10 (14, [(5, .int 2), (0, .ref 66), (1, .int 2), (2, .int (nI i)), (3, .int 0), (4, .int x)], [.int (mi 80 6)], (zsh ++ vs, mi, ml, (zmr g))) rfl ?_
  refine Wp.topi (y := 30) (h80 6 (by decide)) ?_
  refine Wp.run 5 (36, [(5, .int 2), (0, .ref 66), (1, .int 2), (2, .int (nI i)), (3, .int 0), (4, .int x)], [.int (mi 79 2)], (zsh ++ vs, mi, ml, (zmr g))) rfl ?_
  refine Wp.topi (y := 0) (h79 2 (by decide)) ?_
  refine Wp.run 10 (50, [(6, .int 0), (5, .int 2), (0, .ref 66), (1, .int 2), (2, .int (nI i)), (3, .int 0), (4, .int x)], [.int (mi 80 6), .ref 66], (zsh ++ vs, mi, ml, (zmr g))) rfl ?_
  refine Wp.topi (y := 30) (h80 6 (by decide)) ?_
  refine Wp.run 0 (50, [(6, .int 0), (5, .int 2), (0, .ref 66), (1, .int 2), (2, .int (nI i)), (3, .int 0), (4, .int x)], [.int 30, .ref 66], (zsh ++ vs, mi, ml, (zmr g))) rfl ?_
  refine Wp.call (as := [.ref 66, .int 30]) (rest := []) rfl rfl rfl rfl rfl (Nat.le_of_ble_eq_true rfl) (Nat.le_of_ble_eq_true rfl) rfl (by decide) (m_body_0 (b := 30) h1) ?_
  rintro _ _ ⟨rfl, rfl⟩
  refine Wp.run 8 (199, [(6, .int 0), (5, .int 2), (0, .ref 66), (1, .int 2), (2, .int (nI i)), (3, .int 0), (4, .int x)], [.int (x * 3), .int 0, .int (nI i), .int 0, .ref 66], (zsh ++ vs, (zup (zup mi 81 0 30) 66 24 1), ml, (zmr g))) rfl ?_
  refine Wp.call (as := [.ref 66, .int 0, .int (nI i), .int 0, .int (x * 3)]) (rest := []) rfl rfl rfl rfl rfl (Nat.le_of_ble_eq_true rfl) (Nat.le_of_ble_eq_true rfl) rfl (by decide) (m_bk_2_0_0_1 (mi := (zup (zup mi 81 0 30) 66 24 1)) (x := (x * 3)) (i := i) hi rfl h2 h4 h79 h80) ?_
  rintro _ _ ⟨rfl, rfl⟩
  refine Wp.run 0 (202, [(6, .int 0), (5, .int 2), (0, .ref 66), (1, .int 2), (2, .int (nI i)), (3, .int 0), (4, .int x)], [.int ((x * 3) + (nI i))], (zsh ++ vs, (zup (zup (zup (zup mi 81 0 30) 66 24 1) 81 1 10) 66 24 2), ml, (zmr g))) rfl ?_
  refine Wp.ret rfl rfl rfl ?_
  exact ⟨rfl, rfl⟩
theorem m_al_2_2_0_0 {E : zEn} {vs : List (Nat × Nat)} {mi : Nat → Nat → Int32} {ml : Nat → Nat → Int64} {g : Nat → Nat → Option Nat} {x v : Int32} {i : Nat} (hi : i < 6) (h1 : mi 66 24 = 0) (h2 : mi 67 (8 + 10 * i + 0) = 2) (h4 : mi 67 (8 + 10 * i + 1) = v) (h79 : ∀ k, k < 7 → mi 79 k = zab9.getD k 0) (h80 : ∀ k, k < 21 → mi 80 k = zbo.getD k 0) : Wp E 3 pg_M_all 0 (lv_args 0 [.ref 66, .int (nI i), .int 0, .int x]) [] (zsh ++ vs, mi, ml, (zmr g)) (fun r w' => r = some (.int (((x * 3) + (nI i)))) ∧ w' = (zsh ++ vs, (zup (zup (zup (zup mi 81 0 30) 66 24 1) 81 1 10) 66 24 2), ml, zmr g)) := by
  refine Wp.run 4 (4, [(0, .ref 66), (1, .int (nI i)), (2, .int 0), (3, .int x)], [.int 0, .int (nI i), .ref 66, .ref 66], (zsh ++ vs, mi, ml, (zmr g))) rfl ?_
  refine Wp.call (as := [.ref 66, .int (nI i), .int 0]) (rest := [.ref 66]) rfl rfl rfl rfl rfl (Nat.le_of_ble_eq_true rfl) (Nat.le_of_ble_eq_true rfl) rfl (by decide) (m_one (mi := mi) i 0 (by omega)) ?_
  rintro _ _ ⟨rfl, rfl⟩
  refine Wp.topi (y := 2) (h2) ?_
  refine Wp.run 3 (10, [(0, .ref 66), (1, .int (nI i)), (2, .int 0), (3, .int x)], [.int x, .int 0, .int (nI i), .int 2, .ref 66], (zsh ++ vs, mi, ml, (zmr g))) rfl ?_
  refine Wp.call (as := [.ref 66, .int 2, .int (nI i), .int 0, .int x]) (rest := []) rfl rfl rfl rfl rfl (Nat.le_of_ble_eq_true rfl) (Nat.le_of_ble_eq_true rfl) rfl (by decide) (m_bk_2_2_0_0 hi h1 h2 h4 h79 h80) ?_
  rintro _ _ ⟨rfl, rfl⟩
  refine Wp.run 0 (13, [(0, .ref 66), (1, .int (nI i)), (2, .int 0), (3, .int x)], [.int ((x * 3) + (nI i))], (zsh ++ vs, (zup (zup (zup (zup mi 81 0 30) 66 24 1) 81 1 10) 66 24 2), ml, (zmr g))) rfl ?_
  refine Wp.ret rfl rfl rfl ?_
  exact ⟨rfl, rfl⟩
theorem m_bk_2_0_0_2 {E : zEn} {vs : List (Nat × Nat)} {mi : Nat → Nat → Int32} {ml : Nat → Nat → Int64} {g : Nat → Nat → Option Nat} {x v : Int32} {i : Nat} (hi : i < 6) (h1 : mi 66 24 = 2) (h2 : mi 67 (8 + 10 * i + 0) = 2) (h4 : mi 67 (8 + 10 * i + 1) = v) (h79 : ∀ k, k < 7 → mi 79 k = zab9.getD k 0) (h80 : ∀ k, k < 21 → mi 80 k = zbo.getD k 0) : Wp E 1 pg_M_byKind 0 (lv_args 0 [.ref 66, .int 0, .int (nI i), .int 0, .int x]) [] (zsh ++ vs, mi, ml, (zmr g)) (fun r w' => r = some (.int (x + (nI i))) ∧ w' = (zsh ++ vs, (zup (zup mi 81 2 10) 66 24 3), ml, zmr g)) := by
  refine Wp.run 10 (14, [(5, .int 0), (0, .ref 66), (1, .int 0), (2, .int (nI i)), (3, .int 0), (4, .int x)], [.int (mi 80 0)], (zsh ++ vs, mi, ml, (zmr g))) rfl ?_
  refine Wp.topi (y := 10) (h80 0 (by decide)) ?_
  refine Wp.run 5 (36, [(5, .int 0), (0, .ref 66), (1, .int 0), (2, .int (nI i)), (3, .int 0), (4, .int x)], [.int (mi 79 0)], (zsh ++ vs, mi, ml, (zmr g))) rfl ?_
  refine Wp.topi (y := -1) (h79 0 (by decide)) ?_
  refine Wp.run 10 (50, [(6, .int (-1)), (5, .int 0), (0, .ref 66), (1, .int 0), (2, .int (nI i)), (3, .int 0), (4, .int x)], [.int (mi 80 0), .ref 66], (zsh ++ vs, mi, ml, (zmr g))) rfl ?_
  refine Wp.topi (y := 10) (h80 0 (by decide)) ?_
  refine Wp.run 0 (50, [(6, .int (-1)), (5, .int 0), (0, .ref 66), (1, .int 0), (2, .int (nI i)), (3, .int 0), (4, .int x)], [.int 10, .ref 66], (zsh ++ vs, mi, ml, (zmr g))) rfl ?_
  refine Wp.call (as := [.ref 66, .int 10]) (rest := []) rfl rfl rfl rfl rfl (Nat.le_of_ble_eq_true rfl) (Nat.le_of_ble_eq_true rfl) rfl (by decide) (m_body_2 (b := 10) h1) ?_
  rintro _ _ ⟨rfl, rfl⟩
  refine Wp.run 4 (148, [(6, .int (-1)), (5, .int 0), (0, .ref 66), (1, .int 0), (2, .int (nI i)), (3, .int 0), (4, .int x)], [.int (x + (nI i))], (zsh ++ vs, (zup (zup mi 81 2 10) 66 24 3), ml, (zmr g))) rfl ?_
  refine Wp.ret rfl rfl rfl ?_
  exact ⟨rfl, rfl⟩
theorem m_bk_2_2_0_1 {E : zEn} {vs : List (Nat × Nat)} {mi : Nat → Nat → Int32} {ml : Nat → Nat → Int64} {g : Nat → Nat → Option Nat} {x v : Int32} {i : Nat} (hi : i < 6) (h1 : mi 66 24 = 1) (h2 : mi 67 (8 + 10 * i + 0) = 2) (h4 : mi 67 (8 + 10 * i + 1) = v) (h79 : ∀ k, k < 7 → mi 79 k = zab9.getD k 0) (h80 : ∀ k, k < 21 → mi 80 k = zbo.getD k 0) : Wp E 2 pg_M_byKind 0 (lv_args 0 [.ref 66, .int 2, .int (nI i), .int 0, .int x]) [] (zsh ++ vs, mi, ml, (zmr g)) (fun r w' => r = some (.int (((x * 3) + (nI i)))) ∧ w' = (zsh ++ vs, (zup (zup (zup (zup mi 81 1 30) 66 24 2) 81 2 10) 66 24 3), ml, zmr g)) := by
  refine Wp.run 10 (14, [(5, .int 2), (0, .ref 66), (1, .int 2), (2, .int (nI i)), (3, .int 0), (4, .int x)], [.int (mi 80 6)], (zsh ++ vs, mi, ml, (zmr g))) rfl ?_
  refine Wp.topi (y := 30) (h80 6 (by decide)) ?_
  refine Wp.run 5 (36, [(5, .int 2), (0, .ref 66), (1, .int 2), (2, .int (nI i)), (3, .int 0), (4, .int x)], [.int (mi 79 2)], (zsh ++ vs, mi, ml, (zmr g))) rfl ?_
  refine Wp.topi (y := 0) (h79 2 (by decide)) ?_
  refine Wp.run 10 (50, [(6, .int 0), (5, .int 2), (0, .ref 66), (1, .int 2), (2, .int (nI i)), (3, .int 0), (4, .int x)], [.int (mi 80 6), .ref 66], (zsh ++ vs, mi, ml, (zmr g))) rfl ?_
  refine Wp.topi (y := 30) (h80 6 (by decide)) ?_
  refine Wp.run 0 (50, [(6, .int 0), (5, .int 2), (0, .ref 66), (1, .int 2), (2, .int (nI i)), (3, .int 0), (4, .int x)], [.int 30, .ref 66], (zsh ++ vs, mi, ml, (zmr g))) rfl ?_
  refine Wp.call (as := [.ref 66, .int 30]) (rest := []) rfl rfl rfl rfl rfl (Nat.le_of_ble_eq_true rfl) (Nat.le_of_ble_eq_true rfl) rfl (by decide) (m_body_1 (b := 30) h1) ?_
  rintro _ _ ⟨rfl, rfl⟩
  refine Wp.run 8 (199, [(6, .int 0), (5, .int 2), (0, .ref 66), (1, .int 2), (2, .int (nI i)), (3, .int 0), (4, .int x)], [.int (x * 3), .int 0, .int (nI i), .int 0, .ref 66], (zsh ++ vs, (zup (zup mi 81 1 30) 66 24 2), ml, (zmr g))) rfl ?_
  refine Wp.call (as := [.ref 66, .int 0, .int (nI i), .int 0, .int (x * 3)]) (rest := []) rfl rfl rfl rfl rfl (Nat.le_of_ble_eq_true rfl) (Nat.le_of_ble_eq_true rfl) rfl (by decide) (m_bk_2_0_0_2 (mi := (zup (zup mi 81 1 30) 66 24 2)) (x := (x * 3)) (i := i) hi rfl h2 h4 h79 h80) ?_
  rintro _ _ ⟨rfl, rfl⟩
  refine Wp.run 0 (202, [(6, .int 0), (5, .int 2), (0, .ref 66), (1, .int 2), (2, .int (nI i)), (3, .int 0), (4, .int x)], [.int ((x * 3) + (nI i))], (zsh ++ vs, (zup (zup (zup (zup mi 81 1 30) 66 24 2) 81 2 10) 66 24 3), ml, (zmr g))) rfl ?_
  refine Wp.ret rfl rfl rfl ?_
  exact ⟨rfl, rfl⟩
theorem m_al_2_2_0_1 {E : zEn} {vs : List (Nat × Nat)} {mi : Nat → Nat → Int32} {ml : Nat → Nat → Int64} {g : Nat → Nat → Option Nat} {x v : Int32} {i : Nat} (hi : i < 6) (h1 : mi 66 24 = 1) (h2 : mi 67 (8 + 10 * i + 0) = 2) (h4 : mi 67 (8 + 10 * i + 1) = v) (h79 : ∀ k, k < 7 → mi 79 k = zab9.getD k 0) (h80 : ∀ k, k < 21 → mi 80 k = zbo.getD k 0) : Wp E 3 pg_M_all 0 (lv_args 0 [.ref 66, .int (nI i), .int 0, .int x]) [] (zsh ++ vs, mi, ml, (zmr g)) (fun r w' => r = some (.int (((x * 3) + (nI i)))) ∧ w' = (zsh ++ vs, (zup (zup (zup (zup mi 81 1 30) 66 24 2) 81 2 10) 66 24 3), ml, zmr g)) := by
  refine Wp.run 4 (4, [(0, .ref 66), (1, .int (nI i)), (2, .int 0), (3, .int x)], [.int 0, .int (nI i), .ref 66, .ref 66], (zsh ++ vs, mi, ml, (zmr g))) rfl ?_
  refine Wp.call (as := [.ref 66, .int (nI i), .int 0]) (rest := [.ref 66]) rfl rfl rfl rfl rfl (Nat.le_of_ble_eq_true rfl) (Nat.le_of_ble_eq_true rfl) rfl (by decide) (m_one (mi := mi) i 0 (by omega)) ?_
  rintro _ _ ⟨rfl, rfl⟩
  refine Wp.topi (y := 2) (h2) ?_
  refine Wp.run 3 (10, [(0, .ref 66), (1, .int (nI i)), (2, .int 0), (3, .int x)], [.int x, .int 0, .int (nI i), .int 2, .ref 66], (zsh ++ vs, mi, ml, (zmr g))) rfl ?_
  refine Wp.call (as := [.ref 66, .int 2, .int (nI i), .int 0, .int x]) (rest := []) rfl rfl rfl rfl rfl (Nat.le_of_ble_eq_true rfl) (Nat.le_of_ble_eq_true rfl) rfl (by decide) (m_bk_2_2_0_1 hi h1 h2 h4 h79 h80) ?_
  rintro _ _ ⟨rfl, rfl⟩
  refine Wp.run 0 (13, [(0, .ref 66), (1, .int (nI i)), (2, .int 0), (3, .int x)], [.int ((x * 3) + (nI i))], (zsh ++ vs, (zup (zup (zup (zup mi 81 1 30) 66 24 2) 81 2 10) 66 24 3), ml, (zmr g))) rfl ?_
  refine Wp.ret rfl rfl rfl ?_
  exact ⟨rfl, rfl⟩
theorem m_bk_2_2_1_0 {E : zEn} {vs : List (Nat × Nat)} {mi : Nat → Nat → Int32} {ml : Nat → Nat → Int64} {g : Nat → Nat → Option Nat} {x v : Int32} {i : Nat} (hi : i < 6) (h1 : mi 66 24 = 0) (h2 : mi 67 (8 + 10 * i + 0) = 2) (h4 : mi 67 (8 + 10 * i + 1) = v) (h79 : ∀ k, k < 7 → mi 79 k = zab9.getD k 0) (h80 : ∀ k, k < 21 → mi 80 k = zbo.getD k 0) : Wp E 4 pg_M_byKind 0 (lv_args 0 [.ref 66, .int 2, .int (nI i), .int 1, .int x]) [] (zsh ++ vs, mi, ml, (zmr g)) (fun r w' => r = some (.int (((x * 3) + (nI i)) - v)) ∧ w' = (zsh ++ vs, (zup (zup (zup (zup (zup (zup mi 81 0 11) 66 24 1) 81 1 30) 66 24 2) 81 2 10) 66 24 3), ml, zmr g)) := by
  refine Wp.run 10 (14, [(5, .int 2), (0, .ref 66), (1, .int 2), (2, .int (nI i)), (3, .int 1), (4, .int x)], [.int (mi 80 7)], (zsh ++ vs, mi, ml, (zmr g))) rfl ?_
  refine Wp.topi (y := 0) (h80 7 (by decide)) ?_
  refine Wp.run 5 (24, [(5, .int 2), (0, .ref 66), (1, .int 2), (2, .int (nI i)), (3, .int 1), (4, .int x)], [.int (mi 79 2)], (zsh ++ vs, mi, ml, (zmr g))) rfl ?_
  refine Wp.topi (y := 0) (h79 2 (by decide)) ?_
  refine Wp.run 2 (3, [(5, .int 0), (0, .ref 66), (1, .int 2), (2, .int (nI i)), (3, .int 1), (4, .int x)], [], (zsh ++ vs, mi, ml, (zmr g))) rfl ?_
  refine Wp.run 8 (14, [(5, .int 0), (0, .ref 66), (1, .int 2), (2, .int (nI i)), (3, .int 1), (4, .int x)], [.int (mi 80 1)], (zsh ++ vs, mi, ml, (zmr g))) rfl ?_
  refine Wp.topi (y := 11) (h80 1 (by decide)) ?_
  refine Wp.run 5 (36, [(5, .int 0), (0, .ref 66), (1, .int 2), (2, .int (nI i)), (3, .int 1), (4, .int x)], [.int (mi 79 0)], (zsh ++ vs, mi, ml, (zmr g))) rfl ?_
  refine Wp.topi (y := -1) (h79 0 (by decide)) ?_
  refine Wp.run 10 (50, [(6, .int (-1)), (5, .int 0), (0, .ref 66), (1, .int 2), (2, .int (nI i)), (3, .int 1), (4, .int x)], [.int (mi 80 1), .ref 66], (zsh ++ vs, mi, ml, (zmr g))) rfl ?_
  refine Wp.topi (y := 11) (h80 1 (by decide)) ?_
  refine Wp.run 0 (50, [(6, .int (-1)), (5, .int 0), (0, .ref 66), (1, .int 2), (2, .int (nI i)), (3, .int 1), (4, .int x)], [.int 11, .ref 66], (zsh ++ vs, mi, ml, (zmr g))) rfl ?_
  refine Wp.call (as := [.ref 66, .int 11]) (rest := []) rfl rfl rfl rfl rfl (Nat.le_of_ble_eq_true rfl) (Nat.le_of_ble_eq_true rfl) rfl (by decide) (m_body_0 (b := 11) h1) ?_
  rintro _ _ ⟨rfl, rfl⟩
  refine Wp.run 5 (154, [(6, .int (-1)), (5, .int 0), (0, .ref 66), (1, .int 2), (2, .int (nI i)), (3, .int 1), (4, .int x)], [.int x, .int 0, .int (nI i), .ref 66], (zsh ++ vs, (zup (zup mi 81 0 11) 66 24 1), ml, (zmr g))) rfl ?_
  refine Wp.call (as := [.ref 66, .int (nI i), .int 0, .int x]) (rest := []) rfl rfl rfl rfl rfl (Nat.le_of_ble_eq_true rfl) (Nat.le_of_ble_eq_true rfl) rfl (by decide) (m_al_2_2_0_1 (mi := (zup (zup mi 81 0 11) 66 24 1)) (x := x) (i := i) hi rfl h2 h4 h79 h80) ?_
  rintro _ _ ⟨rfl, rfl⟩
  refine Wp.run 3 (160, [(6, .int (-1)), (5, .int 0), (0, .ref 66), (1, .int 2), (2, .int (nI i)), (3, .int 1), (4, .int x)], [.int 1, .int (nI i), .ref 66, .int ((x * 3) + (nI i))], (zsh ++ vs, (zup (zup (zup (zup (zup (zup mi 81 0 11) 66 24 1) 81 1 30) 66 24 2) 81 2 10) 66 24 3), ml, (zmr g))) rfl ?_
  refine Wp.call (as := [.ref 66, .int (nI i), .int 1]) (rest := [.int ((x * 3) + (nI i))]) rfl rfl rfl rfl rfl (Nat.le_of_ble_eq_true rfl) (Nat.le_of_ble_eq_true rfl) rfl (by decide) (m_one (mi := (zup (zup (zup (zup (zup (zup mi 81 0 11) 66 24 1) 81 1 30) 66 24 2) 81 2 10) 66 24 3)) i 1 (by omega)) ?_
  rintro _ _ ⟨rfl, rfl⟩
  refine Wp.topi (y := v) (h4) ?_
  refine Wp.run 1 (164, [(6, .int (-1)), (5, .int 0), (0, .ref 66), (1, .int 2), (2, .int (nI i)), (3, .int 1), (4, .int x)], [.int (((x * 3) + (nI i)) - v)], (zsh ++ vs, (zup (zup (zup (zup (zup (zup mi 81 0 11) 66 24 1) 81 1 30) 66 24 2) 81 2 10) 66 24 3), ml, (zmr g))) rfl ?_
  refine Wp.ret rfl rfl rfl ?_
  exact ⟨rfl, rfl⟩
theorem m_al_2_2_1_0 {E : zEn} {vs : List (Nat × Nat)} {mi : Nat → Nat → Int32} {ml : Nat → Nat → Int64} {g : Nat → Nat → Option Nat} {x v : Int32} {i : Nat} (hi : i < 6) (h1 : mi 66 24 = 0) (h2 : mi 67 (8 + 10 * i + 0) = 2) (h4 : mi 67 (8 + 10 * i + 1) = v) (h79 : ∀ k, k < 7 → mi 79 k = zab9.getD k 0) (h80 : ∀ k, k < 21 → mi 80 k = zbo.getD k 0) : Wp E 5 pg_M_all 0 (lv_args 0 [.ref 66, .int (nI i), .int 1, .int x]) [] (zsh ++ vs, mi, ml, (zmr g)) (fun r w' => r = some (.int (((x * 3) + (nI i)) - v)) ∧ w' = (zsh ++ vs, (zup (zup (zup (zup (zup (zup mi 81 0 11) 66 24 1) 81 1 30) 66 24 2) 81 2 10) 66 24 3), ml, zmr g)) := by
  refine Wp.run 4 (4, [(0, .ref 66), (1, .int (nI i)), (2, .int 1), (3, .int x)], [.int 0, .int (nI i), .ref 66, .ref 66], (zsh ++ vs, mi, ml, (zmr g))) rfl ?_
  refine Wp.call (as := [.ref 66, .int (nI i), .int 0]) (rest := [.ref 66]) rfl rfl rfl rfl rfl (Nat.le_of_ble_eq_true rfl) (Nat.le_of_ble_eq_true rfl) rfl (by decide) (m_one (mi := mi) i 0 (by omega)) ?_
  rintro _ _ ⟨rfl, rfl⟩
  refine Wp.topi (y := 2) (h2) ?_
  refine Wp.run 3 (10, [(0, .ref 66), (1, .int (nI i)), (2, .int 1), (3, .int x)], [.int x, .int 1, .int (nI i), .int 2, .ref 66], (zsh ++ vs, mi, ml, (zmr g))) rfl ?_
  refine Wp.call (as := [.ref 66, .int 2, .int (nI i), .int 1, .int x]) (rest := []) rfl rfl rfl rfl rfl (Nat.le_of_ble_eq_true rfl) (Nat.le_of_ble_eq_true rfl) rfl (by decide) (m_bk_2_2_1_0 hi h1 h2 h4 h79 h80) ?_
  rintro _ _ ⟨rfl, rfl⟩
  refine Wp.run 0 (13, [(0, .ref 66), (1, .int (nI i)), (2, .int 1), (3, .int x)], [.int (((x * 3) + (nI i)) - v)], (zsh ++ vs, (zup (zup (zup (zup (zup (zup mi 81 0 11) 66 24 1) 81 1 30) 66 24 2) 81 2 10) 66 24 3), ml, (zmr g))) rfl ?_
  refine Wp.ret rfl rfl rfl ?_
  exact ⟨rfl, rfl⟩
theorem m_bk_2_0_0_3 {E : zEn} {vs : List (Nat × Nat)} {mi : Nat → Nat → Int32} {ml : Nat → Nat → Int64} {g : Nat → Nat → Option Nat} {x v : Int32} {i : Nat} (hi : i < 6) (h1 : mi 66 24 = 3) (h2 : mi 67 (8 + 10 * i + 0) = 2) (h4 : mi 67 (8 + 10 * i + 1) = v) (h79 : ∀ k, k < 7 → mi 79 k = zab9.getD k 0) (h80 : ∀ k, k < 21 → mi 80 k = zbo.getD k 0) : Wp E 1 pg_M_byKind 0 (lv_args 0 [.ref 66, .int 0, .int (nI i), .int 0, .int x]) [] (zsh ++ vs, mi, ml, (zmr g)) (fun r w' => r = some (.int (x + (nI i))) ∧ w' = (zsh ++ vs, (zup (zup mi 81 3 10) 66 24 4), ml, zmr g)) := by
  refine Wp.run 10 (14, [(5, .int 0), (0, .ref 66), (1, .int 0), (2, .int (nI i)), (3, .int 0), (4, .int x)], [.int (mi 80 0)], (zsh ++ vs, mi, ml, (zmr g))) rfl ?_
  refine Wp.topi (y := 10) (h80 0 (by decide)) ?_
  refine Wp.run 5 (36, [(5, .int 0), (0, .ref 66), (1, .int 0), (2, .int (nI i)), (3, .int 0), (4, .int x)], [.int (mi 79 0)], (zsh ++ vs, mi, ml, (zmr g))) rfl ?_
  refine Wp.topi (y := -1) (h79 0 (by decide)) ?_
  refine Wp.run 10 (50, [(6, .int (-1)), (5, .int 0), (0, .ref 66), (1, .int 0), (2, .int (nI i)), (3, .int 0), (4, .int x)], [.int (mi 80 0), .ref 66], (zsh ++ vs, mi, ml, (zmr g))) rfl ?_
  refine Wp.topi (y := 10) (h80 0 (by decide)) ?_
  refine Wp.run 0 (50, [(6, .int (-1)), (5, .int 0), (0, .ref 66), (1, .int 0), (2, .int (nI i)), (3, .int 0), (4, .int x)], [.int 10, .ref 66], (zsh ++ vs, mi, ml, (zmr g))) rfl ?_
  refine Wp.call (as := [.ref 66, .int 10]) (rest := []) rfl rfl rfl rfl rfl (Nat.le_of_ble_eq_true rfl) (Nat.le_of_ble_eq_true rfl) rfl (by decide) (m_body_3 (b := 10) h1) ?_
  rintro _ _ ⟨rfl, rfl⟩
  refine Wp.run 4 (148, [(6, .int (-1)), (5, .int 0), (0, .ref 66), (1, .int 0), (2, .int (nI i)), (3, .int 0), (4, .int x)], [.int (x + (nI i))], (zsh ++ vs, (zup (zup mi 81 3 10) 66 24 4), ml, (zmr g))) rfl ?_
  refine Wp.ret rfl rfl rfl ?_
  exact ⟨rfl, rfl⟩
theorem m_bk_2_2_0_2 {E : zEn} {vs : List (Nat × Nat)} {mi : Nat → Nat → Int32} {ml : Nat → Nat → Int64} {g : Nat → Nat → Option Nat} {x v : Int32} {i : Nat} (hi : i < 6) (h1 : mi 66 24 = 2) (h2 : mi 67 (8 + 10 * i + 0) = 2) (h4 : mi 67 (8 + 10 * i + 1) = v) (h79 : ∀ k, k < 7 → mi 79 k = zab9.getD k 0) (h80 : ∀ k, k < 21 → mi 80 k = zbo.getD k 0) : Wp E 2 pg_M_byKind 0 (lv_args 0 [.ref 66, .int 2, .int (nI i), .int 0, .int x]) [] (zsh ++ vs, mi, ml, (zmr g)) (fun r w' => r = some (.int (((x * 3) + (nI i)))) ∧ w' = (zsh ++ vs, (zup (zup (zup (zup mi 81 2 30) 66 24 3) 81 3 10) 66 24 4), ml, zmr g)) := by
  refine Wp.run 10 (14, [(5, .int 2), (0, .ref 66), (1, .int 2), (2, .int (nI i)), (3, .int 0), (4, .int x)], [.int (mi 80 6)], (zsh ++ vs, mi, ml, (zmr g))) rfl ?_
  refine Wp.topi (y := 30) (h80 6 (by decide)) ?_
  refine Wp.run 5 (36, [(5, .int 2), (0, .ref 66), (1, .int 2), (2, .int (nI i)), (3, .int 0), (4, .int x)], [.int (mi 79 2)], (zsh ++ vs, mi, ml, (zmr g))) rfl ?_
  refine Wp.topi (y := 0) (h79 2 (by decide)) ?_
  refine Wp.run 10 (50, [(6, .int 0), (5, .int 2), (0, .ref 66), (1, .int 2), (2, .int (nI i)), (3, .int 0), (4, .int x)], [.int (mi 80 6), .ref 66], (zsh ++ vs, mi, ml, (zmr g))) rfl ?_
  refine Wp.topi (y := 30) (h80 6 (by decide)) ?_
  refine Wp.run 0 (50, [(6, .int 0), (5, .int 2), (0, .ref 66), (1, .int 2), (2, .int (nI i)), (3, .int 0), (4, .int x)], [.int 30, .ref 66], (zsh ++ vs, mi, ml, (zmr g))) rfl ?_
  refine Wp.call (as := [.ref 66, .int 30]) (rest := []) rfl rfl rfl rfl rfl (Nat.le_of_ble_eq_true rfl) (Nat.le_of_ble_eq_true rfl) rfl (by decide) (m_body_2 (b := 30) h1) ?_
  rintro _ _ ⟨rfl, rfl⟩
  refine Wp.run 8 (199, [(6, .int 0), (5, .int 2), (0, .ref 66), (1, .int 2), (2, .int (nI i)), (3, .int 0), (4, .int x)], [.int (x * 3), .int 0, .int (nI i), .int 0, .ref 66], (zsh ++ vs, (zup (zup mi 81 2 30) 66 24 3), ml, (zmr g))) rfl ?_
  refine Wp.call (as := [.ref 66, .int 0, .int (nI i), .int 0, .int (x * 3)]) (rest := []) rfl rfl rfl rfl rfl (Nat.le_of_ble_eq_true rfl) (Nat.le_of_ble_eq_true rfl) rfl (by decide) (m_bk_2_0_0_3 (mi := (zup (zup mi 81 2 30) 66 24 3)) (x := (x * 3)) (i := i) hi rfl h2 h4 h79 h80) ?_
  rintro _ _ ⟨rfl, rfl⟩
  refine Wp.run 0 (202, [(6, .int 0), (5, .int 2), (0, .ref 66), (1, .int 2), (2, .int (nI i)), (3, .int 0), (4, .int x)], [.int ((x * 3) + (nI i))], (zsh ++ vs, (zup (zup (zup (zup mi 81 2 30) 66 24 3) 81 3 10) 66 24 4), ml, (zmr g))) rfl ?_
  refine Wp.ret rfl rfl rfl ?_
  exact ⟨rfl, rfl⟩
theorem m_al_2_2_0_2 {E : zEn} {vs : List (Nat × Nat)} {mi : Nat → Nat → Int32} {ml : Nat → Nat → Int64} {g : Nat → Nat → Option Nat} {x v : Int32} {i : Nat} (hi : i < 6) (h1 : mi 66 24 = 2) (h2 : mi 67 (8 + 10 * i + 0) = 2) (h4 : mi 67 (8 + 10 * i + 1) = v) (h79 : ∀ k, k < 7 → mi 79 k = zab9.getD k 0) (h80 : ∀ k, k < 21 → mi 80 k = zbo.getD k 0) : Wp E 3 pg_M_all 0 (lv_args 0 [.ref 66, .int (nI i), .int 0, .int x]) [] (zsh ++ vs, mi, ml, (zmr g)) (fun r w' => r = some (.int (((x * 3) + (nI i)))) ∧ w' = (zsh ++ vs, (zup (zup (zup (zup mi 81 2 30) 66 24 3) 81 3 10) 66 24 4), ml, zmr g)) := by
  refine Wp.run 4 (4, [(0, .ref 66), (1, .int (nI i)), (2, .int 0), (3, .int x)], [.int 0, .int (nI i), .ref 66, .ref 66], (zsh ++ vs, mi, ml, (zmr g))) rfl ?_
  refine Wp.call (as := [.ref 66, .int (nI i), .int 0]) (rest := [.ref 66]) rfl rfl rfl rfl rfl (Nat.le_of_ble_eq_true rfl) (Nat.le_of_ble_eq_true rfl) rfl (by decide) (m_one (mi := mi) i 0 (by omega)) ?_
  rintro _ _ ⟨rfl, rfl⟩
  refine Wp.topi (y := 2) (h2) ?_
  refine Wp.run 3 (10, [(0, .ref 66), (1, .int (nI i)), (2, .int 0), (3, .int x)], [.int x, .int 0, .int (nI i), .int 2, .ref 66], (zsh ++ vs, mi, ml, (zmr g))) rfl ?_
  refine Wp.call (as := [.ref 66, .int 2, .int (nI i), .int 0, .int x]) (rest := []) rfl rfl rfl rfl rfl (Nat.le_of_ble_eq_true rfl) (Nat.le_of_ble_eq_true rfl) rfl (by decide) (m_bk_2_2_0_2 hi h1 h2 h4 h79 h80) ?_
  rintro _ _ ⟨rfl, rfl⟩
  refine Wp.run 0 (13, [(0, .ref 66), (1, .int (nI i)), (2, .int 0), (3, .int x)], [.int ((x * 3) + (nI i))], (zsh ++ vs, (zup (zup (zup (zup mi 81 2 30) 66 24 3) 81 3 10) 66 24 4), ml, (zmr g))) rfl ?_
  refine Wp.ret rfl rfl rfl ?_
  exact ⟨rfl, rfl⟩
theorem m_bk_2_2_1_1 {E : zEn} {vs : List (Nat × Nat)} {mi : Nat → Nat → Int32} {ml : Nat → Nat → Int64} {g : Nat → Nat → Option Nat} {x v : Int32} {i : Nat} (hi : i < 6) (h1 : mi 66 24 = 1) (h2 : mi 67 (8 + 10 * i + 0) = 2) (h4 : mi 67 (8 + 10 * i + 1) = v) (h79 : ∀ k, k < 7 → mi 79 k = zab9.getD k 0) (h80 : ∀ k, k < 21 → mi 80 k = zbo.getD k 0) : Wp E 4 pg_M_byKind 0 (lv_args 0 [.ref 66, .int 2, .int (nI i), .int 1, .int x]) [] (zsh ++ vs, mi, ml, (zmr g)) (fun r w' => r = some (.int (((x * 3) + (nI i)) - v)) ∧ w' = (zsh ++ vs, (zup (zup (zup (zup (zup (zup mi 81 1 11) 66 24 2) 81 2 30) 66 24 3) 81 3 10) 66 24 4), ml, zmr g)) := by
  refine Wp.run 10 (14, [(5, .int 2), (0, .ref 66), (1, .int 2), (2, .int (nI i)), (3, .int 1), (4, .int x)], [.int (mi 80 7)], (zsh ++ vs, mi, ml, (zmr g))) rfl ?_
  refine Wp.topi (y := 0) (h80 7 (by decide)) ?_
  refine Wp.run 5 (24, [(5, .int 2), (0, .ref 66), (1, .int 2), (2, .int (nI i)), (3, .int 1), (4, .int x)], [.int (mi 79 2)], (zsh ++ vs, mi, ml, (zmr g))) rfl ?_
  refine Wp.topi (y := 0) (h79 2 (by decide)) ?_
  refine Wp.run 2 (3, [(5, .int 0), (0, .ref 66), (1, .int 2), (2, .int (nI i)), (3, .int 1), (4, .int x)], [], (zsh ++ vs, mi, ml, (zmr g))) rfl ?_
  refine Wp.run 8 (14, [(5, .int 0), (0, .ref 66), (1, .int 2), (2, .int (nI i)), (3, .int 1), (4, .int x)], [.int (mi 80 1)], (zsh ++ vs, mi, ml, (zmr g))) rfl ?_
  refine Wp.topi (y := 11) (h80 1 (by decide)) ?_
  refine Wp.run 5 (36, [(5, .int 0), (0, .ref 66), (1, .int 2), (2, .int (nI i)), (3, .int 1), (4, .int x)], [.int (mi 79 0)], (zsh ++ vs, mi, ml, (zmr g))) rfl ?_
  refine Wp.topi (y := -1) (h79 0 (by decide)) ?_
  refine Wp.run 10 (50, [(6, .int (-1)), (5, .int 0), (0, .ref 66), (1, .int 2), (2, .int (nI i)), (3, .int 1), (4, .int x)], [.int (mi 80 1), .ref 66], (zsh ++ vs, mi, ml, (zmr g))) rfl ?_
  refine Wp.topi (y := 11) (h80 1 (by decide)) ?_
  refine Wp.run 0 (50, [(6, .int (-1)), (5, .int 0), (0, .ref 66), (1, .int 2), (2, .int (nI i)), (3, .int 1), (4, .int x)], [.int 11, .ref 66], (zsh ++ vs, mi, ml, (zmr g))) rfl ?_
  refine Wp.call (as := [.ref 66, .int 11]) (rest := []) rfl rfl rfl rfl rfl (Nat.le_of_ble_eq_true rfl) (Nat.le_of_ble_eq_true rfl) rfl (by decide) (m_body_1 (b := 11) h1) ?_
  rintro _ _ ⟨rfl, rfl⟩
  refine Wp.run 5 (154, [(6, .int (-1)), (5, .int 0), (0, .ref 66), (1, .int 2), (2, .int (nI i)), (3, .int 1), (4, .int x)], [.int x, .int 0, .int (nI i), .ref 66], (zsh ++ vs, (zup (zup mi 81 1 11) 66 24 2), ml, (zmr g))) rfl ?_
  refine Wp.call (as := [.ref 66, .int (nI i), .int 0, .int x]) (rest := []) rfl rfl rfl rfl rfl (Nat.le_of_ble_eq_true rfl) (Nat.le_of_ble_eq_true rfl) rfl (by decide) (m_al_2_2_0_2 (mi := (zup (zup mi 81 1 11) 66 24 2)) (x := x) (i := i) hi rfl h2 h4 h79 h80) ?_
  rintro _ _ ⟨rfl, rfl⟩
  refine Wp.run 3 (160, [(6, .int (-1)), (5, .int 0), (0, .ref 66), (1, .int 2), (2, .int (nI i)), (3, .int 1), (4, .int x)], [.int 1, .int (nI i), .ref 66, .int ((x * 3) + (nI i))], (zsh ++ vs, (zup (zup (zup (zup (zup (zup mi 81 1 11) 66 24 2) 81 2 30) 66 24 3) 81 3 10) 66 24 4), ml, (zmr g))) rfl ?_
  refine Wp.call (as := [.ref 66, .int (nI i), .int 1]) (rest := [.int ((x * 3) + (nI i))]) rfl rfl rfl rfl rfl (Nat.le_of_ble_eq_true rfl) (Nat.le_of_ble_eq_true rfl) rfl (by decide) (m_one (mi := (zup (zup (zup (zup (zup (zup mi 81 1 11) 66 24 2) 81 2 30) 66 24 3) 81 3 10) 66 24 4)) i 1 (by omega)) ?_
  rintro _ _ ⟨rfl, rfl⟩
  refine Wp.topi (y := v) (h4) ?_
  refine Wp.run 1 (164, [(6, .int (-1)), (5, .int 0), (0, .ref 66), (1, .int 2), (2, .int (nI i)), (3, .int 1), (4, .int x)], [.int (((x * 3) + (nI i)) - v)], (zsh ++ vs, (zup (zup (zup (zup (zup (zup mi 81 1 11) 66 24 2) 81 2 30) 66 24 3) 81 3 10) 66 24 4), ml, (zmr g))) rfl ?_
  refine Wp.ret rfl rfl rfl ?_
  exact ⟨rfl, rfl⟩
theorem m_al_2_2_1_1 {E : zEn} {vs : List (Nat × Nat)} {mi : Nat → Nat → Int32} {ml : Nat → Nat → Int64} {g : Nat → Nat → Option Nat} {x v : Int32} {i : Nat} (hi : i < 6) (h1 : mi 66 24 = 1) (h2 : mi 67 (8 + 10 * i + 0) = 2) (h4 : mi 67 (8 + 10 * i + 1) = v) (h79 : ∀ k, k < 7 → mi 79 k = zab9.getD k 0) (h80 : ∀ k, k < 21 → mi 80 k = zbo.getD k 0) : Wp E 5 pg_M_all 0 (lv_args 0 [.ref 66, .int (nI i), .int 1, .int x]) [] (zsh ++ vs, mi, ml, (zmr g)) (fun r w' => r = some (.int (((x * 3) + (nI i)) - v)) ∧ w' = (zsh ++ vs, (zup (zup (zup (zup (zup (zup mi 81 1 11) 66 24 2) 81 2 30) 66 24 3) 81 3 10) 66 24 4), ml, zmr g)) := by
  refine Wp.run 4 (4, [(0, .ref 66), (1, .int (nI i)), (2, .int 1), (3, .int x)], [.int 0, .int (nI i), .ref 66, .ref 66], (zsh ++ vs, mi, ml, (zmr g))) rfl ?_
  refine Wp.call (as := [.ref 66, .int (nI i), .int 0]) (rest := [.ref 66]) rfl rfl rfl rfl rfl (Nat.le_of_ble_eq_true rfl) (Nat.le_of_ble_eq_true rfl) rfl (by decide) (m_one (mi := mi) i 0 (by omega)) ?_
  rintro _ _ ⟨rfl, rfl⟩
  refine Wp.topi (y := 2) (h2) ?_
  refine Wp.run 3 (10, [(0, .ref 66), (1, .int (nI i)), (2, .int 1), (3, .int x)], [.int x, .int 1, .int (nI i), .int 2, .ref 66], (zsh ++ vs, mi, ml, (zmr g))) rfl ?_
  refine Wp.call (as := [.ref 66, .int 2, .int (nI i), .int 1, .int x]) (rest := []) rfl rfl rfl rfl rfl (Nat.le_of_ble_eq_true rfl) (Nat.le_of_ble_eq_true rfl) rfl (by decide) (m_bk_2_2_1_1 hi h1 h2 h4 h79 h80) ?_
  rintro _ _ ⟨rfl, rfl⟩
  refine Wp.run 0 (13, [(0, .ref 66), (1, .int (nI i)), (2, .int 1), (3, .int x)], [.int (((x * 3) + (nI i)) - v)], (zsh ++ vs, (zup (zup (zup (zup (zup (zup mi 81 1 11) 66 24 2) 81 2 30) 66 24 3) 81 3 10) 66 24 4), ml, (zmr g))) rfl ?_
  refine Wp.ret rfl rfl rfl ?_
  exact ⟨rfl, rfl⟩
theorem m_bk_2_2_2_0 {E : zEn} {vs : List (Nat × Nat)} {mi : Nat → Nat → Int32} {ml : Nat → Nat → Int64} {g : Nat → Nat → Option Nat} {x v : Int32} {i : Nat} (hi : i < 6) (h1 : mi 66 24 = 0) (h2 : mi 67 (8 + 10 * i + 0) = 2) (h4 : mi 67 (8 + 10 * i + 1) = v) (h79 : ∀ k, k < 7 → mi 79 k = zab9.getD k 0) (h80 : ∀ k, k < 21 → mi 80 k = zbo.getD k 0) : Wp E 6 pg_M_byKind 0 (lv_args 0 [.ref 66, .int 2, .int (nI i), .int 2, .int x]) [] (zsh ++ vs, mi, ml, (zmr g)) (fun r w' => r = some (.int ((((x * 3) + (nI i)) - v) * 2)) ∧ w' = (zsh ++ vs, (zup (zup (zup (zup (zup (zup (zup (zup mi 81 0 12) 66 24 1) 81 1 11) 66 24 2) 81 2 30) 66 24 3) 81 3 10) 66 24 4), ml, zmr g)) := by
  refine Wp.run 10 (14, [(5, .int 2), (0, .ref 66), (1, .int 2), (2, .int (nI i)), (3, .int 2), (4, .int x)], [.int (mi 80 8)], (zsh ++ vs, mi, ml, (zmr g))) rfl ?_
  refine Wp.topi (y := 0) (h80 8 (by decide)) ?_
  refine Wp.run 5 (24, [(5, .int 2), (0, .ref 66), (1, .int 2), (2, .int (nI i)), (3, .int 2), (4, .int x)], [.int (mi 79 2)], (zsh ++ vs, mi, ml, (zmr g))) rfl ?_
  refine Wp.topi (y := 0) (h79 2 (by decide)) ?_
  refine Wp.run 2 (3, [(5, .int 0), (0, .ref 66), (1, .int 2), (2, .int (nI i)), (3, .int 2), (4, .int x)], [], (zsh ++ vs, mi, ml, (zmr g))) rfl ?_
  refine Wp.run 8 (14, [(5, .int 0), (0, .ref 66), (1, .int 2), (2, .int (nI i)), (3, .int 2), (4, .int x)], [.int (mi 80 2)], (zsh ++ vs, mi, ml, (zmr g))) rfl ?_
  refine Wp.topi (y := 12) (h80 2 (by decide)) ?_
  refine Wp.run 5 (36, [(5, .int 0), (0, .ref 66), (1, .int 2), (2, .int (nI i)), (3, .int 2), (4, .int x)], [.int (mi 79 0)], (zsh ++ vs, mi, ml, (zmr g))) rfl ?_
  refine Wp.topi (y := -1) (h79 0 (by decide)) ?_
  refine Wp.run 10 (50, [(6, .int (-1)), (5, .int 0), (0, .ref 66), (1, .int 2), (2, .int (nI i)), (3, .int 2), (4, .int x)], [.int (mi 80 2), .ref 66], (zsh ++ vs, mi, ml, (zmr g))) rfl ?_
  refine Wp.topi (y := 12) (h80 2 (by decide)) ?_
  refine Wp.run 0 (50, [(6, .int (-1)), (5, .int 0), (0, .ref 66), (1, .int 2), (2, .int (nI i)), (3, .int 2), (4, .int x)], [.int 12, .ref 66], (zsh ++ vs, mi, ml, (zmr g))) rfl ?_
  refine Wp.call (as := [.ref 66, .int 12]) (rest := []) rfl rfl rfl rfl rfl (Nat.le_of_ble_eq_true rfl) (Nat.le_of_ble_eq_true rfl) rfl (by decide) (m_body_0 (b := 12) h1) ?_
  rintro _ _ ⟨rfl, rfl⟩
  refine Wp.run 5 (170, [(6, .int (-1)), (5, .int 0), (0, .ref 66), (1, .int 2), (2, .int (nI i)), (3, .int 2), (4, .int x)], [.int x, .int 1, .int (nI i), .ref 66], (zsh ++ vs, (zup (zup mi 81 0 12) 66 24 1), ml, (zmr g))) rfl ?_
  refine Wp.call (as := [.ref 66, .int (nI i), .int 1, .int x]) (rest := []) rfl rfl rfl rfl rfl (Nat.le_of_ble_eq_true rfl) (Nat.le_of_ble_eq_true rfl) rfl (by decide) (m_al_2_2_1_1 (mi := (zup (zup mi 81 0 12) 66 24 1)) (x := x) (i := i) hi rfl h2 h4 h79 h80) ?_
  rintro _ _ ⟨rfl, rfl⟩
  refine Wp.run 2 (175, [(6, .int (-1)), (5, .int 0), (0, .ref 66), (1, .int 2), (2, .int (nI i)), (3, .int 2), (4, .int x)], [.int ((((x * 3) + (nI i)) - v) * 2)], (zsh ++ vs, (zup (zup (zup (zup (zup (zup (zup (zup mi 81 0 12) 66 24 1) 81 1 11) 66 24 2) 81 2 30) 66 24 3) 81 3 10) 66 24 4), ml, (zmr g))) rfl ?_
  refine Wp.ret rfl rfl rfl ?_
  exact ⟨rfl, rfl⟩
theorem m_al_2_2_2_0 {E : zEn} {vs : List (Nat × Nat)} {mi : Nat → Nat → Int32} {ml : Nat → Nat → Int64} {g : Nat → Nat → Option Nat} {x v : Int32} {i : Nat} (hi : i < 6) (h1 : mi 66 24 = 0) (h2 : mi 67 (8 + 10 * i + 0) = 2) (h4 : mi 67 (8 + 10 * i + 1) = v) (h79 : ∀ k, k < 7 → mi 79 k = zab9.getD k 0) (h80 : ∀ k, k < 21 → mi 80 k = zbo.getD k 0) : Wp E 7 pg_M_all 0 (lv_args 0 [.ref 66, .int (nI i), .int 2, .int x]) [] (zsh ++ vs, mi, ml, (zmr g)) (fun r w' => r = some (.int ((((x * 3) + (nI i)) - v) * 2)) ∧ w' = (zsh ++ vs, (zup (zup (zup (zup (zup (zup (zup (zup mi 81 0 12) 66 24 1) 81 1 11) 66 24 2) 81 2 30) 66 24 3) 81 3 10) 66 24 4), ml, zmr g)) := by
  refine Wp.run 4 (4, [(0, .ref 66), (1, .int (nI i)), (2, .int 2), (3, .int x)], [.int 0, .int (nI i), .ref 66, .ref 66], (zsh ++ vs, mi, ml, (zmr g))) rfl ?_
  refine Wp.call (as := [.ref 66, .int (nI i), .int 0]) (rest := [.ref 66]) rfl rfl rfl rfl rfl (Nat.le_of_ble_eq_true rfl) (Nat.le_of_ble_eq_true rfl) rfl (by decide) (m_one (mi := mi) i 0 (by omega)) ?_
  rintro _ _ ⟨rfl, rfl⟩
  refine Wp.topi (y := 2) (h2) ?_
  refine Wp.run 3 (10, [(0, .ref 66), (1, .int (nI i)), (2, .int 2), (3, .int x)], [.int x, .int 2, .int (nI i), .int 2, .ref 66], (zsh ++ vs, mi, ml, (zmr g))) rfl ?_
  refine Wp.call (as := [.ref 66, .int 2, .int (nI i), .int 2, .int x]) (rest := []) rfl rfl rfl rfl rfl (Nat.le_of_ble_eq_true rfl) (Nat.le_of_ble_eq_true rfl) rfl (by decide) (m_bk_2_2_2_0 hi h1 h2 h4 h79 h80) ?_
  rintro _ _ ⟨rfl, rfl⟩
  refine Wp.run 0 (13, [(0, .ref 66), (1, .int (nI i)), (2, .int 2), (3, .int x)], [.int ((((x * 3) + (nI i)) - v) * 2)], (zsh ++ vs, (zup (zup (zup (zup (zup (zup (zup (zup mi 81 0 12) 66 24 1) 81 1 11) 66 24 2) 81 2 30) 66 24 3) 81 3 10) 66 24 4), ml, (zmr g))) rfl ?_
  refine Wp.ret rfl rfl rfl ?_
  exact ⟨rfl, rfl⟩
theorem m_bk_3_3_0_0 {E : zEn} {vs : List (Nat × Nat)} {mi : Nat → Nat → Int32} {ml : Nat → Nat → Int64} {g : Nat → Nat → Option Nat} {x v : Int32} {i : Nat} (hi : i < 6) (h1 : mi 66 24 = 0) (h2 : mi 67 (8 + 10 * i + 0) = 3) (h4 : mi 67 (8 + 10 * i + 1) = v) (h79 : ∀ k, k < 7 → mi 79 k = zab9.getD k 0) (h80 : ∀ k, k < 21 → mi 80 k = zbo.getD k 0) : Wp E 1 pg_M_byKind 0 (lv_args 0 [.ref 66, .int 3, .int (nI i), .int 0, .int x]) [] (zsh ++ vs, mi, ml, (zmr g)) (fun r w' => r = some (.int (x + (nI i))) ∧ w' = (zsh ++ vs, (zup (zup mi 81 0 10) 66 24 1), ml, zmr g)) := by
  refine Wp.run 10 (14, [(5, .int 3), (0, .ref 66), (1, .int 3), (2, .int (nI i)), (3, .int 0), (4, .int x)], [.int (mi 80 9)], (zsh ++ vs, mi, ml, (zmr g))) rfl ?_
  refine Wp.topi (y := 0) (h80 9 (by decide)) ?_
  refine Wp.run 5 (24, [(5, .int 3), (0, .ref 66), (1, .int 3), (2, .int (nI i)), (3, .int 0), (4, .int x)], [.int (mi 79 3)], (zsh ++ vs, mi, ml, (zmr g))) rfl ?_
  refine Wp.topi (y := 0) (h79 3 (by decide)) ?_
  refine Wp.run 2 (3, [(5, .int 0), (0, .ref 66), (1, .int 3), (2, .int (nI i)), (3, .int 0), (4, .int x)], [], (zsh ++ vs, mi, ml, (zmr g))) rfl ?_
  refine Wp.run 8 (14, [(5, .int 0), (0, .ref 66), (1, .int 3), (2, .int (nI i)), (3, .int 0), (4, .int x)], [.int (mi 80 0)], (zsh ++ vs, mi, ml, (zmr g))) rfl ?_
  refine Wp.topi (y := 10) (h80 0 (by decide)) ?_
  refine Wp.run 5 (36, [(5, .int 0), (0, .ref 66), (1, .int 3), (2, .int (nI i)), (3, .int 0), (4, .int x)], [.int (mi 79 0)], (zsh ++ vs, mi, ml, (zmr g))) rfl ?_
  refine Wp.topi (y := -1) (h79 0 (by decide)) ?_
  refine Wp.run 10 (50, [(6, .int (-1)), (5, .int 0), (0, .ref 66), (1, .int 3), (2, .int (nI i)), (3, .int 0), (4, .int x)], [.int (mi 80 0), .ref 66], (zsh ++ vs, mi, ml, (zmr g))) rfl ?_
  refine Wp.topi (y := 10) (h80 0 (by decide)) ?_
  refine Wp.run 0 (50, [(6, .int (-1)), (5, .int 0), (0, .ref 66), (1, .int 3), (2, .int (nI i)), (3, .int 0), (4, .int x)], [.int 10, .ref 66], (zsh ++ vs, mi, ml, (zmr g))) rfl ?_
  refine Wp.call (as := [.ref 66, .int 10]) (rest := []) rfl rfl rfl rfl rfl (Nat.le_of_ble_eq_true rfl) (Nat.le_of_ble_eq_true rfl) rfl (by decide) (m_body_0 (b := 10) h1) ?_
  rintro _ _ ⟨rfl, rfl⟩
  refine Wp.run 4 (148, [(6, .int (-1)), (5, .int 0), (0, .ref 66), (1, .int 3), (2, .int (nI i)), (3, .int 0), (4, .int x)], [.int (x + (nI i))], (zsh ++ vs, (zup (zup mi 81 0 10) 66 24 1), ml, (zmr g))) rfl ?_
  refine Wp.ret rfl rfl rfl ?_
  exact ⟨rfl, rfl⟩
theorem m_al_3_3_0_0 {E : zEn} {vs : List (Nat × Nat)} {mi : Nat → Nat → Int32} {ml : Nat → Nat → Int64} {g : Nat → Nat → Option Nat} {x v : Int32} {i : Nat} (hi : i < 6) (h1 : mi 66 24 = 0) (h2 : mi 67 (8 + 10 * i + 0) = 3) (h4 : mi 67 (8 + 10 * i + 1) = v) (h79 : ∀ k, k < 7 → mi 79 k = zab9.getD k 0) (h80 : ∀ k, k < 21 → mi 80 k = zbo.getD k 0) : Wp E 2 pg_M_all 0 (lv_args 0 [.ref 66, .int (nI i), .int 0, .int x]) [] (zsh ++ vs, mi, ml, (zmr g)) (fun r w' => r = some (.int (x + (nI i))) ∧ w' = (zsh ++ vs, (zup (zup mi 81 0 10) 66 24 1), ml, zmr g)) := by
  refine Wp.run 4 (4, [(0, .ref 66), (1, .int (nI i)), (2, .int 0), (3, .int x)], [.int 0, .int (nI i), .ref 66, .ref 66], (zsh ++ vs, mi, ml, (zmr g))) rfl ?_
  refine Wp.call (as := [.ref 66, .int (nI i), .int 0]) (rest := [.ref 66]) rfl rfl rfl rfl rfl (Nat.le_of_ble_eq_true rfl) (Nat.le_of_ble_eq_true rfl) rfl (by decide) (m_one (mi := mi) i 0 (by omega)) ?_
  rintro _ _ ⟨rfl, rfl⟩
  refine Wp.topi (y := 3) (h2) ?_
  refine Wp.run 3 (10, [(0, .ref 66), (1, .int (nI i)), (2, .int 0), (3, .int x)], [.int x, .int 0, .int (nI i), .int 3, .ref 66], (zsh ++ vs, mi, ml, (zmr g))) rfl ?_
  refine Wp.call (as := [.ref 66, .int 3, .int (nI i), .int 0, .int x]) (rest := []) rfl rfl rfl rfl rfl (Nat.le_of_ble_eq_true rfl) (Nat.le_of_ble_eq_true rfl) rfl (by decide) (m_bk_3_3_0_0 hi h1 h2 h4 h79 h80) ?_
  rintro _ _ ⟨rfl, rfl⟩
  refine Wp.run 0 (13, [(0, .ref 66), (1, .int (nI i)), (2, .int 0), (3, .int x)], [.int (x + (nI i))], (zsh ++ vs, (zup (zup mi 81 0 10) 66 24 1), ml, (zmr g))) rfl ?_
  refine Wp.ret rfl rfl rfl ?_
  exact ⟨rfl, rfl⟩
theorem m_bk_3_3_0_1 {E : zEn} {vs : List (Nat × Nat)} {mi : Nat → Nat → Int32} {ml : Nat → Nat → Int64} {g : Nat → Nat → Option Nat} {x v : Int32} {i : Nat} (hi : i < 6) (h1 : mi 66 24 = 1) (h2 : mi 67 (8 + 10 * i + 0) = 3) (h4 : mi 67 (8 + 10 * i + 1) = v) (h79 : ∀ k, k < 7 → mi 79 k = zab9.getD k 0) (h80 : ∀ k, k < 21 → mi 80 k = zbo.getD k 0) : Wp E 1 pg_M_byKind 0 (lv_args 0 [.ref 66, .int 3, .int (nI i), .int 0, .int x]) [] (zsh ++ vs, mi, ml, (zmr g)) (fun r w' => r = some (.int (x + (nI i))) ∧ w' = (zsh ++ vs, (zup (zup mi 81 1 10) 66 24 2), ml, zmr g)) := by
  refine Wp.run 10 (14, [(5, .int 3), (0, .ref 66), (1, .int 3), (2, .int (nI i)), (3, .int 0), (4, .int x)], [.int (mi 80 9)], (zsh ++ vs, mi, ml, (zmr g))) rfl ?_
  refine Wp.topi (y := 0) (h80 9 (by decide)) ?_
  refine Wp.run 5 (24, [(5, .int 3), (0, .ref 66), (1, .int 3), (2, .int (nI i)), (3, .int 0), (4, .int x)], [.int (mi 79 3)], (zsh ++ vs, mi, ml, (zmr g))) rfl ?_
  refine Wp.topi (y := 0) (h79 3 (by decide)) ?_
  refine Wp.run 2 (3, [(5, .int 0), (0, .ref 66), (1, .int 3), (2, .int (nI i)), (3, .int 0), (4, .int x)], [], (zsh ++ vs, mi, ml, (zmr g))) rfl ?_
  refine Wp.run 8 (14, [(5, .int 0), (0, .ref 66), (1, .int 3), (2, .int (nI i)), (3, .int 0), (4, .int x)], [.int (mi 80 0)], (zsh ++ vs, mi, ml, (zmr g))) rfl ?_
  refine Wp.topi (y := 10) (h80 0 (by decide)) ?_
  refine Wp.run 5 (36, [(5, .int 0), (0, .ref 66), (1, .int 3), (2, .int (nI i)), (3, .int 0), (4, .int x)], [.int (mi 79 0)], (zsh ++ vs, mi, ml, (zmr g))) rfl ?_
  refine Wp.topi (y := -1) (h79 0 (by decide)) ?_
  refine Wp.run 10 (50, [(6, .int (-1)), (5, .int 0), (0, .ref 66), (1, .int 3), (2, .int (nI i)), (3, .int 0), (4, .int x)], [.int (mi 80 0), .ref 66], (zsh ++ vs, mi, ml, (zmr g))) rfl ?_
  refine Wp.topi (y := 10) (h80 0 (by decide)) ?_
  refine Wp.run 0 (50, [(6, .int (-1)), (5, .int 0), (0, .ref 66), (1, .int 3), (2, .int (nI i)), (3, .int 0), (4, .int x)], [.int 10, .ref 66], (zsh ++ vs, mi, ml, (zmr g))) rfl ?_
  refine Wp.call (as := [.ref 66, .int 10]) (rest := []) rfl rfl rfl rfl rfl (Nat.le_of_ble_eq_true rfl) (Nat.le_of_ble_eq_true rfl) rfl (by decide) (m_body_1 (b := 10) h1) ?_
  rintro _ _ ⟨rfl, rfl⟩
  refine Wp.run 4 (148, [(6, .int (-1)), (5, .int 0), (0, .ref 66), (1, .int 3), (2, .int (nI i)), (3, .int 0), (4, .int x)], [.int (x + (nI i))], (zsh ++ vs, (zup (zup mi 81 1 10) 66 24 2), ml, (zmr g))) rfl ?_
  refine Wp.ret rfl rfl rfl ?_
  exact ⟨rfl, rfl⟩
theorem m_al_3_3_0_1 {E : zEn} {vs : List (Nat × Nat)} {mi : Nat → Nat → Int32} {ml : Nat → Nat → Int64} {g : Nat → Nat → Option Nat} {x v : Int32} {i : Nat} (hi : i < 6) (h1 : mi 66 24 = 1) (h2 : mi 67 (8 + 10 * i + 0) = 3) (h4 : mi 67 (8 + 10 * i + 1) = v) (h79 : ∀ k, k < 7 → mi 79 k = zab9.getD k 0) (h80 : ∀ k, k < 21 → mi 80 k = zbo.getD k 0) : Wp E 2 pg_M_all 0 (lv_args 0 [.ref 66, .int (nI i), .int 0, .int x]) [] (zsh ++ vs, mi, ml, (zmr g)) (fun r w' => r = some (.int (x + (nI i))) ∧ w' = (zsh ++ vs, (zup (zup mi 81 1 10) 66 24 2), ml, zmr g)) := by
  refine Wp.run 4 (4, [(0, .ref 66), (1, .int (nI i)), (2, .int 0), (3, .int x)], [.int 0, .int (nI i), .ref 66, .ref 66], (zsh ++ vs, mi, ml, (zmr g))) rfl ?_
  refine Wp.call (as := [.ref 66, .int (nI i), .int 0]) (rest := [.ref 66]) rfl rfl rfl rfl rfl (Nat.le_of_ble_eq_true rfl) (Nat.le_of_ble_eq_true rfl) rfl (by decide) (m_one (mi := mi) i 0 (by omega)) ?_
  rintro _ _ ⟨rfl, rfl⟩
  refine Wp.topi (y := 3) (h2) ?_
  refine Wp.run 3 (10, [(0, .ref 66), (1, .int (nI i)), (2, .int 0), (3, .int x)], [.int x, .int 0, .int (nI i), .int 3, .ref 66], (zsh ++ vs, mi, ml, (zmr g))) rfl ?_
  refine Wp.call (as := [.ref 66, .int 3, .int (nI i), .int 0, .int x]) (rest := []) rfl rfl rfl rfl rfl (Nat.le_of_ble_eq_true rfl) (Nat.le_of_ble_eq_true rfl) rfl (by decide) (m_bk_3_3_0_1 hi h1 h2 h4 h79 h80) ?_
  rintro _ _ ⟨rfl, rfl⟩
  refine Wp.run 0 (13, [(0, .ref 66), (1, .int (nI i)), (2, .int 0), (3, .int x)], [.int (x + (nI i))], (zsh ++ vs, (zup (zup mi 81 1 10) 66 24 2), ml, (zmr g))) rfl ?_
  refine Wp.ret rfl rfl rfl ?_
  exact ⟨rfl, rfl⟩
theorem m_bk_3_3_1_0 {E : zEn} {vs : List (Nat × Nat)} {mi : Nat → Nat → Int32} {ml : Nat → Nat → Int64} {g : Nat → Nat → Option Nat} {x v : Int32} {i : Nat} (hi : i < 6) (h1 : mi 66 24 = 0) (h2 : mi 67 (8 + 10 * i + 0) = 3) (h4 : mi 67 (8 + 10 * i + 1) = v) (h79 : ∀ k, k < 7 → mi 79 k = zab9.getD k 0) (h80 : ∀ k, k < 21 → mi 80 k = zbo.getD k 0) : Wp E 3 pg_M_byKind 0 (lv_args 0 [.ref 66, .int 3, .int (nI i), .int 1, .int x]) [] (zsh ++ vs, mi, ml, (zmr g)) (fun r w' => r = some (.int ((x + (nI i)) - v)) ∧ w' = (zsh ++ vs, (zup (zup (zup (zup mi 81 0 11) 66 24 1) 81 1 10) 66 24 2), ml, zmr g)) := by
  refine Wp.run 10 (14, [(5, .int 3), (0, .ref 66), (1, .int 3), (2, .int (nI i)), (3, .int 1), (4, .int x)], [.int (mi 80 10)], (zsh ++ vs, mi, ml, (zmr g))) rfl ?_
  refine Wp.topi (y := 0) (h80 10 (by decide)) ?_
  refine Wp.run 5 (24, [(5, .int 3), (0, .ref 66), (1, .int 3), (2, .int (nI i)), (3, .int 1), (4, .int x)], [.int (mi 79 3)], (zsh ++ vs, mi, ml, (zmr g))) rfl ?_
  refine Wp.topi (y := 0) (h79 3 (by decide)) ?_
  refine Wp.run 2 (3, [(5, .int 0), (0, .ref 66), (1, .int 3), (2, .int (nI i)), (3, .int 1), (4, .int x)], [], (zsh ++ vs, mi, ml, (zmr g))) rfl ?_
  refine Wp.run 8 (14, [(5, .int 0), (0, .ref 66), (1, .int 3), (2, .int (nI i)), (3, .int 1), (4, .int x)], [.int (mi 80 1)], (zsh ++ vs, mi, ml, (zmr g))) rfl ?_
  refine Wp.topi (y := 11) (h80 1 (by decide)) ?_
  refine Wp.run 5 (36, [(5, .int 0), (0, .ref 66), (1, .int 3), (2, .int (nI i)), (3, .int 1), (4, .int x)], [.int (mi 79 0)], (zsh ++ vs, mi, ml, (zmr g))) rfl ?_
  refine Wp.topi (y := -1) (h79 0 (by decide)) ?_
  refine Wp.run 10 (50, [(6, .int (-1)), (5, .int 0), (0, .ref 66), (1, .int 3), (2, .int (nI i)), (3, .int 1), (4, .int x)], [.int (mi 80 1), .ref 66], (zsh ++ vs, mi, ml, (zmr g))) rfl ?_
  refine Wp.topi (y := 11) (h80 1 (by decide)) ?_
  refine Wp.run 0 (50, [(6, .int (-1)), (5, .int 0), (0, .ref 66), (1, .int 3), (2, .int (nI i)), (3, .int 1), (4, .int x)], [.int 11, .ref 66], (zsh ++ vs, mi, ml, (zmr g))) rfl ?_
  refine Wp.call (as := [.ref 66, .int 11]) (rest := []) rfl rfl rfl rfl rfl (Nat.le_of_ble_eq_true rfl) (Nat.le_of_ble_eq_true rfl) rfl (by decide) (m_body_0 (b := 11) h1) ?_
  rintro _ _ ⟨rfl, rfl⟩
  refine Wp.run 5 (154, [(6, .int (-1)), (5, .int 0), (0, .ref 66), (1, .int 3), (2, .int (nI i)), (3, .int 1), (4, .int x)], [.int x, .int 0, .int (nI i), .ref 66], (zsh ++ vs, (zup (zup mi 81 0 11) 66 24 1), ml, (zmr g))) rfl ?_
  refine Wp.call (as := [.ref 66, .int (nI i), .int 0, .int x]) (rest := []) rfl rfl rfl rfl rfl (Nat.le_of_ble_eq_true rfl) (Nat.le_of_ble_eq_true rfl) rfl (by decide) (m_al_3_3_0_1 (mi := (zup (zup mi 81 0 11) 66 24 1)) (x := x) (i := i) hi rfl h2 h4 h79 h80) ?_
  rintro _ _ ⟨rfl, rfl⟩
  refine Wp.run 3 (160, [(6, .int (-1)), (5, .int 0), (0, .ref 66), (1, .int 3), (2, .int (nI i)), (3, .int 1), (4, .int x)], [.int 1, .int (nI i), .ref 66, .int (x + (nI i))], (zsh ++ vs, (zup (zup (zup (zup mi 81 0 11) 66 24 1) 81 1 10) 66 24 2), ml, (zmr g))) rfl ?_
  refine Wp.call (as := [.ref 66, .int (nI i), .int 1]) (rest := [.int (x + (nI i))]) rfl rfl rfl rfl rfl (Nat.le_of_ble_eq_true rfl) (Nat.le_of_ble_eq_true rfl) rfl (by decide) (m_one (mi := (zup (zup (zup (zup mi 81 0 11) 66 24 1) 81 1 10) 66 24 2)) i 1 (by omega)) ?_
  rintro _ _ ⟨rfl, rfl⟩
  refine Wp.topi (y := v) (h4) ?_
  refine Wp.run 1 (164, [(6, .int (-1)), (5, .int 0), (0, .ref 66), (1, .int 3), (2, .int (nI i)), (3, .int 1), (4, .int x)], [.int ((x + (nI i)) - v)], (zsh ++ vs, (zup (zup (zup (zup mi 81 0 11) 66 24 1) 81 1 10) 66 24 2), ml, (zmr g))) rfl ?_
  refine Wp.ret rfl rfl rfl ?_
  exact ⟨rfl, rfl⟩
theorem m_al_3_3_1_0 {E : zEn} {vs : List (Nat × Nat)} {mi : Nat → Nat → Int32} {ml : Nat → Nat → Int64} {g : Nat → Nat → Option Nat} {x v : Int32} {i : Nat} (hi : i < 6) (h1 : mi 66 24 = 0) (h2 : mi 67 (8 + 10 * i + 0) = 3) (h4 : mi 67 (8 + 10 * i + 1) = v) (h79 : ∀ k, k < 7 → mi 79 k = zab9.getD k 0) (h80 : ∀ k, k < 21 → mi 80 k = zbo.getD k 0) : Wp E 4 pg_M_all 0 (lv_args 0 [.ref 66, .int (nI i), .int 1, .int x]) [] (zsh ++ vs, mi, ml, (zmr g)) (fun r w' => r = some (.int ((x + (nI i)) - v)) ∧ w' = (zsh ++ vs, (zup (zup (zup (zup mi 81 0 11) 66 24 1) 81 1 10) 66 24 2), ml, zmr g)) := by
  refine Wp.run 4 (4, [(0, .ref 66), (1, .int (nI i)), (2, .int 1), (3, .int x)], [.int 0, .int (nI i), .ref 66, .ref 66], (zsh ++ vs, mi, ml, (zmr g))) rfl ?_
  refine Wp.call (as := [.ref 66, .int (nI i), .int 0]) (rest := [.ref 66]) rfl rfl rfl rfl rfl (Nat.le_of_ble_eq_true rfl) (Nat.le_of_ble_eq_true rfl) rfl (by decide) (m_one (mi := mi) i 0 (by omega)) ?_
  rintro _ _ ⟨rfl, rfl⟩
  refine Wp.topi (y := 3) (h2) ?_
  refine Wp.run 3 (10, [(0, .ref 66), (1, .int (nI i)), (2, .int 1), (3, .int x)], [.int x, .int 1, .int (nI i), .int 3, .ref 66], (zsh ++ vs, mi, ml, (zmr g))) rfl ?_
  refine Wp.call (as := [.ref 66, .int 3, .int (nI i), .int 1, .int x]) (rest := []) rfl rfl rfl rfl rfl (Nat.le_of_ble_eq_true rfl) (Nat.le_of_ble_eq_true rfl) rfl (by decide) (m_bk_3_3_1_0 hi h1 h2 h4 h79 h80) ?_
  rintro _ _ ⟨rfl, rfl⟩
  refine Wp.run 0 (13, [(0, .ref 66), (1, .int (nI i)), (2, .int 1), (3, .int x)], [.int ((x + (nI i)) - v)], (zsh ++ vs, (zup (zup (zup (zup mi 81 0 11) 66 24 1) 81 1 10) 66 24 2), ml, (zmr g))) rfl ?_
  refine Wp.ret rfl rfl rfl ?_
  exact ⟨rfl, rfl⟩
theorem m_bk_3_3_0_3 {E : zEn} {vs : List (Nat × Nat)} {mi : Nat → Nat → Int32} {ml : Nat → Nat → Int64} {g : Nat → Nat → Option Nat} {x v : Int32} {i : Nat} (hi : i < 6) (h1 : mi 66 24 = 3) (h2 : mi 67 (8 + 10 * i + 0) = 3) (h4 : mi 67 (8 + 10 * i + 1) = v) (h79 : ∀ k, k < 7 → mi 79 k = zab9.getD k 0) (h80 : ∀ k, k < 21 → mi 80 k = zbo.getD k 0) : Wp E 1 pg_M_byKind 0 (lv_args 0 [.ref 66, .int 3, .int (nI i), .int 0, .int x]) [] (zsh ++ vs, mi, ml, (zmr g)) (fun r w' => r = some (.int (x + (nI i))) ∧ w' = (zsh ++ vs, (zup (zup mi 81 3 10) 66 24 4), ml, zmr g)) := by
  refine Wp.run 10 (14, [(5, .int 3), (0, .ref 66), (1, .int 3), (2, .int (nI i)), (3, .int 0), (4, .int x)], [.int (mi 80 9)], (zsh ++ vs, mi, ml, (zmr g))) rfl ?_
  refine Wp.topi (y := 0) (h80 9 (by decide)) ?_
  refine Wp.run 5 (24, [(5, .int 3), (0, .ref 66), (1, .int 3), (2, .int (nI i)), (3, .int 0), (4, .int x)], [.int (mi 79 3)], (zsh ++ vs, mi, ml, (zmr g))) rfl ?_
  refine Wp.topi (y := 0) (h79 3 (by decide)) ?_
  refine Wp.run 2 (3, [(5, .int 0), (0, .ref 66), (1, .int 3), (2, .int (nI i)), (3, .int 0), (4, .int x)], [], (zsh ++ vs, mi, ml, (zmr g))) rfl ?_
  refine Wp.run 8 (14, [(5, .int 0), (0, .ref 66), (1, .int 3), (2, .int (nI i)), (3, .int 0), (4, .int x)], [.int (mi 80 0)], (zsh ++ vs, mi, ml, (zmr g))) rfl ?_
  refine Wp.topi (y := 10) (h80 0 (by decide)) ?_
  refine Wp.run 5 (36, [(5, .int 0), (0, .ref 66), (1, .int 3), (2, .int (nI i)), (3, .int 0), (4, .int x)], [.int (mi 79 0)], (zsh ++ vs, mi, ml, (zmr g))) rfl ?_
  refine Wp.topi (y := -1) (h79 0 (by decide)) ?_
  refine Wp.run 10 (50, [(6, .int (-1)), (5, .int 0), (0, .ref 66), (1, .int 3), (2, .int (nI i)), (3, .int 0), (4, .int x)], [.int (mi 80 0), .ref 66], (zsh ++ vs, mi, ml, (zmr g))) rfl ?_
  refine Wp.topi (y := 10) (h80 0 (by decide)) ?_
  refine Wp.run 0 (50, [(6, .int (-1)), (5, .int 0), (0, .ref 66), (1, .int 3), (2, .int (nI i)), (3, .int 0), (4, .int x)], [.int 10, .ref 66], (zsh ++ vs, mi, ml, (zmr g))) rfl ?_
  refine Wp.call (as := [.ref 66, .int 10]) (rest := []) rfl rfl rfl rfl rfl (Nat.le_of_ble_eq_true rfl) (Nat.le_of_ble_eq_true rfl) rfl (by decide) (m_body_3 (b := 10) h1) ?_
  rintro _ _ ⟨rfl, rfl⟩
  refine Wp.run 4 (148, [(6, .int (-1)), (5, .int 0), (0, .ref 66), (1, .int 3), (2, .int (nI i)), (3, .int 0), (4, .int x)], [.int (x + (nI i))], (zsh ++ vs, (zup (zup mi 81 3 10) 66 24 4), ml, (zmr g))) rfl ?_
  refine Wp.ret rfl rfl rfl ?_
  exact ⟨rfl, rfl⟩
theorem m_al_3_3_0_3 {E : zEn} {vs : List (Nat × Nat)} {mi : Nat → Nat → Int32} {ml : Nat → Nat → Int64} {g : Nat → Nat → Option Nat} {x v : Int32} {i : Nat} (hi : i < 6) (h1 : mi 66 24 = 3) (h2 : mi 67 (8 + 10 * i + 0) = 3) (h4 : mi 67 (8 + 10 * i + 1) = v) (h79 : ∀ k, k < 7 → mi 79 k = zab9.getD k 0) (h80 : ∀ k, k < 21 → mi 80 k = zbo.getD k 0) : Wp E 2 pg_M_all 0 (lv_args 0 [.ref 66, .int (nI i), .int 0, .int x]) [] (zsh ++ vs, mi, ml, (zmr g)) (fun r w' => r = some (.int (x + (nI i))) ∧ w' = (zsh ++ vs, (zup (zup mi 81 3 10) 66 24 4), ml, zmr g)) := by
  refine Wp.run 4 (4, [(0, .ref 66), (1, .int (nI i)), (2, .int 0), (3, .int x)], [.int 0, .int (nI i), .ref 66, .ref 66], (zsh ++ vs, mi, ml, (zmr g))) rfl ?_
  refine Wp.call (as := [.ref 66, .int (nI i), .int 0]) (rest := [.ref 66]) rfl rfl rfl rfl rfl (Nat.le_of_ble_eq_true rfl) (Nat.le_of_ble_eq_true rfl) rfl (by decide) (m_one (mi := mi) i 0 (by omega)) ?_
  rintro _ _ ⟨rfl, rfl⟩
  refine Wp.topi (y := 3) (h2) ?_
  refine Wp.run 3 (10, [(0, .ref 66), (1, .int (nI i)), (2, .int 0), (3, .int x)], [.int x, .int 0, .int (nI i), .int 3, .ref 66], (zsh ++ vs, mi, ml, (zmr g))) rfl ?_
  refine Wp.call (as := [.ref 66, .int 3, .int (nI i), .int 0, .int x]) (rest := []) rfl rfl rfl rfl rfl (Nat.le_of_ble_eq_true rfl) (Nat.le_of_ble_eq_true rfl) rfl (by decide) (m_bk_3_3_0_3 hi h1 h2 h4 h79 h80) ?_
  rintro _ _ ⟨rfl, rfl⟩
  refine Wp.run 0 (13, [(0, .ref 66), (1, .int (nI i)), (2, .int 0), (3, .int x)], [.int (x + (nI i))], (zsh ++ vs, (zup (zup mi 81 3 10) 66 24 4), ml, (zmr g))) rfl ?_
  refine Wp.ret rfl rfl rfl ?_
  exact ⟨rfl, rfl⟩
theorem m_bk_3_3_1_2 {E : zEn} {vs : List (Nat × Nat)} {mi : Nat → Nat → Int32} {ml : Nat → Nat → Int64} {g : Nat → Nat → Option Nat} {x v : Int32} {i : Nat} (hi : i < 6) (h1 : mi 66 24 = 2) (h2 : mi 67 (8 + 10 * i + 0) = 3) (h4 : mi 67 (8 + 10 * i + 1) = v) (h79 : ∀ k, k < 7 → mi 79 k = zab9.getD k 0) (h80 : ∀ k, k < 21 → mi 80 k = zbo.getD k 0) : Wp E 3 pg_M_byKind 0 (lv_args 0 [.ref 66, .int 3, .int (nI i), .int 1, .int x]) [] (zsh ++ vs, mi, ml, (zmr g)) (fun r w' => r = some (.int ((x + (nI i)) - v)) ∧ w' = (zsh ++ vs, (zup (zup (zup (zup mi 81 2 11) 66 24 3) 81 3 10) 66 24 4), ml, zmr g)) := by
  refine Wp.run 10 (14, [(5, .int 3), (0, .ref 66), (1, .int 3), (2, .int (nI i)), (3, .int 1), (4, .int x)], [.int (mi 80 10)], (zsh ++ vs, mi, ml, (zmr g))) rfl ?_
  refine Wp.topi (y := 0) (h80 10 (by decide)) ?_
  refine Wp.run 5 (24, [(5, .int 3), (0, .ref 66), (1, .int 3), (2, .int (nI i)), (3, .int 1), (4, .int x)], [.int (mi 79 3)], (zsh ++ vs, mi, ml, (zmr g))) rfl ?_
  refine Wp.topi (y := 0) (h79 3 (by decide)) ?_
  refine Wp.run 2 (3, [(5, .int 0), (0, .ref 66), (1, .int 3), (2, .int (nI i)), (3, .int 1), (4, .int x)], [], (zsh ++ vs, mi, ml, (zmr g))) rfl ?_
  refine Wp.run 8 (14, [(5, .int 0), (0, .ref 66), (1, .int 3), (2, .int (nI i)), (3, .int 1), (4, .int x)], [.int (mi 80 1)], (zsh ++ vs, mi, ml, (zmr g))) rfl ?_
  refine Wp.topi (y := 11) (h80 1 (by decide)) ?_
  refine Wp.run 5 (36, [(5, .int 0), (0, .ref 66), (1, .int 3), (2, .int (nI i)), (3, .int 1), (4, .int x)], [.int (mi 79 0)], (zsh ++ vs, mi, ml, (zmr g))) rfl ?_
  refine Wp.topi (y := -1) (h79 0 (by decide)) ?_
  refine Wp.run 10 (50, [(6, .int (-1)), (5, .int 0), (0, .ref 66), (1, .int 3), (2, .int (nI i)), (3, .int 1), (4, .int x)], [.int (mi 80 1), .ref 66], (zsh ++ vs, mi, ml, (zmr g))) rfl ?_
  refine Wp.topi (y := 11) (h80 1 (by decide)) ?_
  refine Wp.run 0 (50, [(6, .int (-1)), (5, .int 0), (0, .ref 66), (1, .int 3), (2, .int (nI i)), (3, .int 1), (4, .int x)], [.int 11, .ref 66], (zsh ++ vs, mi, ml, (zmr g))) rfl ?_
  refine Wp.call (as := [.ref 66, .int 11]) (rest := []) rfl rfl rfl rfl rfl (Nat.le_of_ble_eq_true rfl) (Nat.le_of_ble_eq_true rfl) rfl (by decide) (m_body_2 (b := 11) h1) ?_
  rintro _ _ ⟨rfl, rfl⟩
  refine Wp.run 5 (154, [(6, .int (-1)), (5, .int 0), (0, .ref 66), (1, .int 3), (2, .int (nI i)), (3, .int 1), (4, .int x)], [.int x, .int 0, .int (nI i), .ref 66], (zsh ++ vs, (zup (zup mi 81 2 11) 66 24 3), ml, (zmr g))) rfl ?_
  refine Wp.call (as := [.ref 66, .int (nI i), .int 0, .int x]) (rest := []) rfl rfl rfl rfl rfl (Nat.le_of_ble_eq_true rfl) (Nat.le_of_ble_eq_true rfl) rfl (by decide) (m_al_3_3_0_3 (mi := (zup (zup mi 81 2 11) 66 24 3)) (x := x) (i := i) hi rfl h2 h4 h79 h80) ?_
  rintro _ _ ⟨rfl, rfl⟩
  refine Wp.run 3 (160, [(6, .int (-1)), (5, .int 0), (0, .ref 66), (1, .int 3), (2, .int (nI i)), (3, .int 1), (4, .int x)], [.int 1, .int (nI i), .ref 66, .int (x + (nI i))], (zsh ++ vs, (zup (zup (zup (zup mi 81 2 11) 66 24 3) 81 3 10) 66 24 4), ml, (zmr g))) rfl ?_
  refine Wp.call (as := [.ref 66, .int (nI i), .int 1]) (rest := [.int (x + (nI i))]) rfl rfl rfl rfl rfl (Nat.le_of_ble_eq_true rfl) (Nat.le_of_ble_eq_true rfl) rfl (by decide) (m_one (mi := (zup (zup (zup (zup mi 81 2 11) 66 24 3) 81 3 10) 66 24 4)) i 1 (by omega)) ?_
  rintro _ _ ⟨rfl, rfl⟩
  refine Wp.topi (y := v) (h4) ?_
  refine Wp.run 1 (164, [(6, .int (-1)), (5, .int 0), (0, .ref 66), (1, .int 3), (2, .int (nI i)), (3, .int 1), (4, .int x)], [.int ((x + (nI i)) - v)], (zsh ++ vs, (zup (zup (zup (zup mi 81 2 11) 66 24 3) 81 3 10) 66 24 4), ml, (zmr g))) rfl ?_
  refine Wp.ret rfl rfl rfl ?_
  exact ⟨rfl, rfl⟩
theorem m_al_3_3_1_2 {E : zEn} {vs : List (Nat × Nat)} {mi : Nat → Nat → Int32} {ml : Nat → Nat → Int64} {g : Nat → Nat → Option Nat} {x v : Int32} {i : Nat} (hi : i < 6) (h1 : mi 66 24 = 2) (h2 : mi 67 (8 + 10 * i + 0) = 3) (h4 : mi 67 (8 + 10 * i + 1) = v) (h79 : ∀ k, k < 7 → mi 79 k = zab9.getD k 0) (h80 : ∀ k, k < 21 → mi 80 k = zbo.getD k 0) : Wp E 4 pg_M_all 0 (lv_args 0 [.ref 66, .int (nI i), .int 1, .int x]) [] (zsh ++ vs, mi, ml, (zmr g)) (fun r w' => r = some (.int ((x + (nI i)) - v)) ∧ w' = (zsh ++ vs, (zup (zup (zup (zup mi 81 2 11) 66 24 3) 81 3 10) 66 24 4), ml, zmr g)) := by
  refine Wp.run 4 (4, [(0, .ref 66), (1, .int (nI i)), (2, .int 1), (3, .int x)], [.int 0, .int (nI i), .ref 66, .ref 66], (zsh ++ vs, mi, ml, (zmr g))) rfl ?_
  refine Wp.call (as := [.ref 66, .int (nI i), .int 0]) (rest := [.ref 66]) rfl rfl rfl rfl rfl (Nat.le_of_ble_eq_true rfl) (Nat.le_of_ble_eq_true rfl) rfl (by decide) (m_one (mi := mi) i 0 (by omega)) ?_
  rintro _ _ ⟨rfl, rfl⟩
  refine Wp.topi (y := 3) (h2) ?_
  refine Wp.run 3 (10, [(0, .ref 66), (1, .int (nI i)), (2, .int 1), (3, .int x)], [.int x, .int 1, .int (nI i), .int 3, .ref 66], (zsh ++ vs, mi, ml, (zmr g))) rfl ?_
  refine Wp.call (as := [.ref 66, .int 3, .int (nI i), .int 1, .int x]) (rest := []) rfl rfl rfl rfl rfl (Nat.le_of_ble_eq_true rfl) (Nat.le_of_ble_eq_true rfl) rfl (by decide) (m_bk_3_3_1_2 hi h1 h2 h4 h79 h80) ?_
  rintro _ _ ⟨rfl, rfl⟩
  refine Wp.run 0 (13, [(0, .ref 66), (1, .int (nI i)), (2, .int 1), (3, .int x)], [.int ((x + (nI i)) - v)], (zsh ++ vs, (zup (zup (zup (zup mi 81 2 11) 66 24 3) 81 3 10) 66 24 4), ml, (zmr g))) rfl ?_
  refine Wp.ret rfl rfl rfl ?_
  exact ⟨rfl, rfl⟩
theorem m_bk_3_0_2_1 {E : zEn} {vs : List (Nat × Nat)} {mi : Nat → Nat → Int32} {ml : Nat → Nat → Int64} {g : Nat → Nat → Option Nat} {x v : Int32} {i : Nat} (hi : i < 6) (h1 : mi 66 24 = 1) (h2 : mi 67 (8 + 10 * i + 0) = 3) (h4 : mi 67 (8 + 10 * i + 1) = v) (h79 : ∀ k, k < 7 → mi 79 k = zab9.getD k 0) (h80 : ∀ k, k < 21 → mi 80 k = zbo.getD k 0) : Wp E 5 pg_M_byKind 0 (lv_args 0 [.ref 66, .int 0, .int (nI i), .int 2, .int x]) [] (zsh ++ vs, mi, ml, (zmr g)) (fun r w' => r = some (.int (((x + (nI i)) - v) * 2)) ∧ w' = (zsh ++ vs, (zup (zup (zup (zup (zup (zup mi 81 1 12) 66 24 2) 81 2 11) 66 24 3) 81 3 10) 66 24 4), ml, zmr g)) := by
  refine Wp.run 10 (14, [(5, .int 0), (0, .ref 66), (1, .int 0), (2, .int (nI i)), (3, .int 2), (4, .int x)], [.int (mi 80 2)], (zsh ++ vs, mi, ml, (zmr g))) rfl ?_
  refine Wp.topi (y := 12) (h80 2 (by decide)) ?_
  refine Wp.run 5 (36, [(5, .int 0), (0, .ref 66), (1, .int 0), (2, .int (nI i)), (3, .int 2), (4, .int x)], [.int (mi 79 0)], (zsh ++ vs, mi, ml, (zmr g))) rfl ?_
  refine Wp.topi (y := -1) (h79 0 (by decide)) ?_
  refine Wp.run 10 (50, [(6, .int (-1)), (5, .int 0), (0, .ref 66), (1, .int 0), (2, .int (nI i)), (3, .int 2), (4, .int x)], [.int (mi 80 2), .ref 66], (zsh ++ vs, mi, ml, (zmr g))) rfl ?_
  refine Wp.topi (y := 12) (h80 2 (by decide)) ?_
  refine Wp.run 0 (50, [(6, .int (-1)), (5, .int 0), (0, .ref 66), (1, .int 0), (2, .int (nI i)), (3, .int 2), (4, .int x)], [.int 12, .ref 66], (zsh ++ vs, mi, ml, (zmr g))) rfl ?_
  refine Wp.call (as := [.ref 66, .int 12]) (rest := []) rfl rfl rfl rfl rfl (Nat.le_of_ble_eq_true rfl) (Nat.le_of_ble_eq_true rfl) rfl (by decide) (m_body_1 (b := 12) h1) ?_
  rintro _ _ ⟨rfl, rfl⟩
  refine Wp.run 5 (170, [(6, .int (-1)), (5, .int 0), (0, .ref 66), (1, .int 0), (2, .int (nI i)), (3, .int 2), (4, .int x)], [.int x, .int 1, .int (nI i), .ref 66], (zsh ++ vs, (zup (zup mi 81 1 12) 66 24 2), ml, (zmr g))) rfl ?_
  refine Wp.call (as := [.ref 66, .int (nI i), .int 1, .int x]) (rest := []) rfl rfl rfl rfl rfl (Nat.le_of_ble_eq_true rfl) (Nat.le_of_ble_eq_true rfl) rfl (by decide) (m_al_3_3_1_2 (mi := (zup (zup mi 81 1 12) 66 24 2)) (x := x) (i := i) hi rfl h2 h4 h79 h80) ?_
  rintro _ _ ⟨rfl, rfl⟩
  refine Wp.run 2 (175, [(6, .int (-1)), (5, .int 0), (0, .ref 66), (1, .int 0), (2, .int (nI i)), (3, .int 2), (4, .int x)], [.int (((x + (nI i)) - v) * 2)], (zsh ++ vs, (zup (zup (zup (zup (zup (zup mi 81 1 12) 66 24 2) 81 2 11) 66 24 3) 81 3 10) 66 24 4), ml, (zmr g))) rfl ?_
  refine Wp.ret rfl rfl rfl ?_
  exact ⟨rfl, rfl⟩
theorem m_bk_3_3_0_5 {E : zEn} {vs : List (Nat × Nat)} {mi : Nat → Nat → Int32} {ml : Nat → Nat → Int64} {g : Nat → Nat → Option Nat} {x v : Int32} {i : Nat} (hi : i < 6) (h1 : mi 66 24 = 5) (h2 : mi 67 (8 + 10 * i + 0) = 3) (h4 : mi 67 (8 + 10 * i + 1) = v) (h79 : ∀ k, k < 7 → mi 79 k = zab9.getD k 0) (h80 : ∀ k, k < 21 → mi 80 k = zbo.getD k 0) : Wp E 1 pg_M_byKind 0 (lv_args 0 [.ref 66, .int 3, .int (nI i), .int 0, .int x]) [] (zsh ++ vs, mi, ml, (zmr g)) (fun r w' => r = some (.int (x + (nI i))) ∧ w' = (zsh ++ vs, (zup (zup mi 81 5 10) 66 24 6), ml, zmr g)) := by
  refine Wp.run 10 (14, [(5, .int 3), (0, .ref 66), (1, .int 3), (2, .int (nI i)), (3, .int 0), (4, .int x)], [.int (mi 80 9)], (zsh ++ vs, mi, ml, (zmr g))) rfl ?_
  refine Wp.topi (y := 0) (h80 9 (by decide)) ?_
  refine Wp.run 5 (24, [(5, .int 3), (0, .ref 66), (1, .int 3), (2, .int (nI i)), (3, .int 0), (4, .int x)], [.int (mi 79 3)], (zsh ++ vs, mi, ml, (zmr g))) rfl ?_
  refine Wp.topi (y := 0) (h79 3 (by decide)) ?_
  refine Wp.run 2 (3, [(5, .int 0), (0, .ref 66), (1, .int 3), (2, .int (nI i)), (3, .int 0), (4, .int x)], [], (zsh ++ vs, mi, ml, (zmr g))) rfl ?_
  refine Wp.run 8 (14, [(5, .int 0), (0, .ref 66), (1, .int 3), (2, .int (nI i)), (3, .int 0), (4, .int x)], [.int (mi 80 0)], (zsh ++ vs, mi, ml, (zmr g))) rfl ?_
  refine Wp.topi (y := 10) (h80 0 (by decide)) ?_
  refine Wp.run 5 (36, [(5, .int 0), (0, .ref 66), (1, .int 3), (2, .int (nI i)), (3, .int 0), (4, .int x)], [.int (mi 79 0)], (zsh ++ vs, mi, ml, (zmr g))) rfl ?_
  refine Wp.topi (y := -1) (h79 0 (by decide)) ?_
  refine Wp.run 10 (50, [(6, .int (-1)), (5, .int 0), (0, .ref 66), (1, .int 3), (2, .int (nI i)), (3, .int 0), (4, .int x)], [.int (mi 80 0), .ref 66], (zsh ++ vs, mi, ml, (zmr g))) rfl ?_
  refine Wp.topi (y := 10) (h80 0 (by decide)) ?_
  refine Wp.run 0 (50, [(6, .int (-1)), (5, .int 0), (0, .ref 66), (1, .int 3), (2, .int (nI i)), (3, .int 0), (4, .int x)], [.int 10, .ref 66], (zsh ++ vs, mi, ml, (zmr g))) rfl ?_
  refine Wp.call (as := [.ref 66, .int 10]) (rest := []) rfl rfl rfl rfl rfl (Nat.le_of_ble_eq_true rfl) (Nat.le_of_ble_eq_true rfl) rfl (by decide) (m_body_5 (b := 10) h1) ?_
  rintro _ _ ⟨rfl, rfl⟩
  refine Wp.run 4 (148, [(6, .int (-1)), (5, .int 0), (0, .ref 66), (1, .int 3), (2, .int (nI i)), (3, .int 0), (4, .int x)], [.int (x + (nI i))], (zsh ++ vs, (zup (zup mi 81 5 10) 66 24 6), ml, (zmr g))) rfl ?_
  refine Wp.ret rfl rfl rfl ?_
  exact ⟨rfl, rfl⟩
theorem m_al_3_3_0_5 {E : zEn} {vs : List (Nat × Nat)} {mi : Nat → Nat → Int32} {ml : Nat → Nat → Int64} {g : Nat → Nat → Option Nat} {x v : Int32} {i : Nat} (hi : i < 6) (h1 : mi 66 24 = 5) (h2 : mi 67 (8 + 10 * i + 0) = 3) (h4 : mi 67 (8 + 10 * i + 1) = v) (h79 : ∀ k, k < 7 → mi 79 k = zab9.getD k 0) (h80 : ∀ k, k < 21 → mi 80 k = zbo.getD k 0) : Wp E 2 pg_M_all 0 (lv_args 0 [.ref 66, .int (nI i), .int 0, .int x]) [] (zsh ++ vs, mi, ml, (zmr g)) (fun r w' => r = some (.int (x + (nI i))) ∧ w' = (zsh ++ vs, (zup (zup mi 81 5 10) 66 24 6), ml, zmr g)) := by
  refine Wp.run 4 (4, [(0, .ref 66), (1, .int (nI i)), (2, .int 0), (3, .int x)], [.int 0, .int (nI i), .ref 66, .ref 66], (zsh ++ vs, mi, ml, (zmr g))) rfl ?_
  refine Wp.call (as := [.ref 66, .int (nI i), .int 0]) (rest := [.ref 66]) rfl rfl rfl rfl rfl (Nat.le_of_ble_eq_true rfl) (Nat.le_of_ble_eq_true rfl) rfl (by decide) (m_one (mi := mi) i 0 (by omega)) ?_
  rintro _ _ ⟨rfl, rfl⟩
  refine Wp.topi (y := 3) (h2) ?_
  refine Wp.run 3 (10, [(0, .ref 66), (1, .int (nI i)), (2, .int 0), (3, .int x)], [.int x, .int 0, .int (nI i), .int 3, .ref 66], (zsh ++ vs, mi, ml, (zmr g))) rfl ?_
  refine Wp.call (as := [.ref 66, .int 3, .int (nI i), .int 0, .int x]) (rest := []) rfl rfl rfl rfl rfl (Nat.le_of_ble_eq_true rfl) (Nat.le_of_ble_eq_true rfl) rfl (by decide) (m_bk_3_3_0_5 hi h1 h2 h4 h79 h80) ?_
  rintro _ _ ⟨rfl, rfl⟩
  refine Wp.run 0 (13, [(0, .ref 66), (1, .int (nI i)), (2, .int 0), (3, .int x)], [.int (x + (nI i))], (zsh ++ vs, (zup (zup mi 81 5 10) 66 24 6), ml, (zmr g))) rfl ?_
  refine Wp.ret rfl rfl rfl ?_
  exact ⟨rfl, rfl⟩
theorem m_bk_3_3_1_4 {E : zEn} {vs : List (Nat × Nat)} {mi : Nat → Nat → Int32} {ml : Nat → Nat → Int64} {g : Nat → Nat → Option Nat} {x v : Int32} {i : Nat} (hi : i < 6) (h1 : mi 66 24 = 4) (h2 : mi 67 (8 + 10 * i + 0) = 3) (h4 : mi 67 (8 + 10 * i + 1) = v) (h79 : ∀ k, k < 7 → mi 79 k = zab9.getD k 0) (h80 : ∀ k, k < 21 → mi 80 k = zbo.getD k 0) : Wp E 3 pg_M_byKind 0 (lv_args 0 [.ref 66, .int 3, .int (nI i), .int 1, .int x]) [] (zsh ++ vs, mi, ml, (zmr g)) (fun r w' => r = some (.int ((x + (nI i)) - v)) ∧ w' = (zsh ++ vs, (zup (zup (zup (zup mi 81 4 11) 66 24 5) 81 5 10) 66 24 6), ml, zmr g)) := by
  refine Wp.run 10 (14, [(5, .int 3), (0, .ref 66), (1, .int 3), (2, .int (nI i)), (3, .int 1), (4, .int x)], [.int (mi 80 10)], (zsh ++ vs, mi, ml, (zmr g))) rfl ?_
  refine Wp.topi (y := 0) (h80 10 (by decide)) ?_
  refine Wp.run 5 (24, [(5, .int 3), (0, .ref 66), (1, .int 3), (2, .int (nI i)), (3, .int 1), (4, .int x)], [.int (mi 79 3)], (zsh ++ vs, mi, ml, (zmr g))) rfl ?_
  refine Wp.topi (y := 0) (h79 3 (by decide)) ?_
  refine Wp.run 2 (3, [(5, .int 0), (0, .ref 66), (1, .int 3), (2, .int (nI i)), (3, .int 1), (4, .int x)], [], (zsh ++ vs, mi, ml, (zmr g))) rfl ?_
  refine Wp.run 8 (14, [(5, .int 0), (0, .ref 66), (1, .int 3), (2, .int (nI i)), (3, .int 1), (4, .int x)], [.int (mi 80 1)], (zsh ++ vs, mi, ml, (zmr g))) rfl ?_
  refine Wp.topi (y := 11) (h80 1 (by decide)) ?_
  refine Wp.run 5 (36, [(5, .int 0), (0, .ref 66), (1, .int 3), (2, .int (nI i)), (3, .int 1), (4, .int x)], [.int (mi 79 0)], (zsh ++ vs, mi, ml, (zmr g))) rfl ?_
  refine Wp.topi (y := -1) (h79 0 (by decide)) ?_
  refine Wp.run 10 (50, [(6, .int (-1)), (5, .int 0), (0, .ref 66), (1, .int 3), (2, .int (nI i)), (3, .int 1), (4, .int x)], [.int (mi 80 1), .ref 66], (zsh ++ vs, mi, ml, (zmr g))) rfl ?_
  refine Wp.topi (y := 11) (h80 1 (by decide)) ?_
  refine Wp.run 0 (50, [(6, .int (-1)), (5, .int 0), (0, .ref 66), (1, .int 3), (2, .int (nI i)), (3, .int 1), (4, .int x)], [.int 11, .ref 66], (zsh ++ vs, mi, ml, (zmr g))) rfl ?_
  refine Wp.call (as := [.ref 66, .int 11]) (rest := []) rfl rfl rfl rfl rfl (Nat.le_of_ble_eq_true rfl) (Nat.le_of_ble_eq_true rfl) rfl (by decide) (m_body_4 (b := 11) h1) ?_
  rintro _ _ ⟨rfl, rfl⟩
  refine Wp.run 5 (154, [(6, .int (-1)), (5, .int 0), (0, .ref 66), (1, .int 3), (2, .int (nI i)), (3, .int 1), (4, .int x)], [.int x, .int 0, .int (nI i), .ref 66], (zsh ++ vs, (zup (zup mi 81 4 11) 66 24 5), ml, (zmr g))) rfl ?_
  refine Wp.call (as := [.ref 66, .int (nI i), .int 0, .int x]) (rest := []) rfl rfl rfl rfl rfl (Nat.le_of_ble_eq_true rfl) (Nat.le_of_ble_eq_true rfl) rfl (by decide) (m_al_3_3_0_5 (mi := (zup (zup mi 81 4 11) 66 24 5)) (x := x) (i := i) hi rfl h2 h4 h79 h80) ?_
  rintro _ _ ⟨rfl, rfl⟩
  refine Wp.run 3 (160, [(6, .int (-1)), (5, .int 0), (0, .ref 66), (1, .int 3), (2, .int (nI i)), (3, .int 1), (4, .int x)], [.int 1, .int (nI i), .ref 66, .int (x + (nI i))], (zsh ++ vs, (zup (zup (zup (zup mi 81 4 11) 66 24 5) 81 5 10) 66 24 6), ml, (zmr g))) rfl ?_
  refine Wp.call (as := [.ref 66, .int (nI i), .int 1]) (rest := [.int (x + (nI i))]) rfl rfl rfl rfl rfl (Nat.le_of_ble_eq_true rfl) (Nat.le_of_ble_eq_true rfl) rfl (by decide) (m_one (mi := (zup (zup (zup (zup mi 81 4 11) 66 24 5) 81 5 10) 66 24 6)) i 1 (by omega)) ?_
  rintro _ _ ⟨rfl, rfl⟩
  refine Wp.topi (y := v) (h4) ?_
  refine Wp.run 1 (164, [(6, .int (-1)), (5, .int 0), (0, .ref 66), (1, .int 3), (2, .int (nI i)), (3, .int 1), (4, .int x)], [.int ((x + (nI i)) - v)], (zsh ++ vs, (zup (zup (zup (zup mi 81 4 11) 66 24 5) 81 5 10) 66 24 6), ml, (zmr g))) rfl ?_
  refine Wp.ret rfl rfl rfl ?_
  exact ⟨rfl, rfl⟩
theorem m_al_3_3_1_4 {E : zEn} {vs : List (Nat × Nat)} {mi : Nat → Nat → Int32} {ml : Nat → Nat → Int64} {g : Nat → Nat → Option Nat} {x v : Int32} {i : Nat} (hi : i < 6) (h1 : mi 66 24 = 4) (h2 : mi 67 (8 + 10 * i + 0) = 3) (h4 : mi 67 (8 + 10 * i + 1) = v) (h79 : ∀ k, k < 7 → mi 79 k = zab9.getD k 0) (h80 : ∀ k, k < 21 → mi 80 k = zbo.getD k 0) : Wp E 4 pg_M_all 0 (lv_args 0 [.ref 66, .int (nI i), .int 1, .int x]) [] (zsh ++ vs, mi, ml, (zmr g)) (fun r w' => r = some (.int ((x + (nI i)) - v)) ∧ w' = (zsh ++ vs, (zup (zup (zup (zup mi 81 4 11) 66 24 5) 81 5 10) 66 24 6), ml, zmr g)) := by
  refine Wp.run 4 (4, [(0, .ref 66), (1, .int (nI i)), (2, .int 1), (3, .int x)], [.int 0, .int (nI i), .ref 66, .ref 66], (zsh ++ vs, mi, ml, (zmr g))) rfl ?_
  refine Wp.call (as := [.ref 66, .int (nI i), .int 0]) (rest := [.ref 66]) rfl rfl rfl rfl rfl (Nat.le_of_ble_eq_true rfl) (Nat.le_of_ble_eq_true rfl) rfl (by decide) (m_one (mi := mi) i 0 (by omega)) ?_
  rintro _ _ ⟨rfl, rfl⟩
  refine Wp.topi (y := 3) (h2) ?_
  refine Wp.run 3 (10, [(0, .ref 66), (1, .int (nI i)), (2, .int 1), (3, .int x)], [.int x, .int 1, .int (nI i), .int 3, .ref 66], (zsh ++ vs, mi, ml, (zmr g))) rfl ?_
  refine Wp.call (as := [.ref 66, .int 3, .int (nI i), .int 1, .int x]) (rest := []) rfl rfl rfl rfl rfl (Nat.le_of_ble_eq_true rfl) (Nat.le_of_ble_eq_true rfl) rfl (by decide) (m_bk_3_3_1_4 hi h1 h2 h4 h79 h80) ?_
  rintro _ _ ⟨rfl, rfl⟩
  refine Wp.run 0 (13, [(0, .ref 66), (1, .int (nI i)), (2, .int 1), (3, .int x)], [.int ((x + (nI i)) - v)], (zsh ++ vs, (zup (zup (zup (zup mi 81 4 11) 66 24 5) 81 5 10) 66 24 6), ml, (zmr g))) rfl ?_
  refine Wp.ret rfl rfl rfl ?_
  exact ⟨rfl, rfl⟩
theorem m_bk_3_3_2_0 {E : zEn} {vs : List (Nat × Nat)} {mi : Nat → Nat → Int32} {ml : Nat → Nat → Int64} {g : Nat → Nat → Option Nat} {x v : Int32} {i : Nat} (hi : i < 6) (h1 : mi 66 24 = 0) (h2 : mi 67 (8 + 10 * i + 0) = 3) (h4 : mi 67 (8 + 10 * i + 1) = v) (h79 : ∀ k, k < 7 → mi 79 k = zab9.getD k 0) (h80 : ∀ k, k < 21 → mi 80 k = zbo.getD k 0) : Wp E 6 pg_M_byKind 0 (lv_args 0 [.ref 66, .int 3, .int (nI i), .int 2, .int x]) [] (zsh ++ vs, mi, ml, (zmr g)) (fun r w' => r = some (.int ((((x + (nI i)) - v) * 2) + ((1 + (nI i)) - v))) ∧ w' = (zsh ++ vs, (zup (zup (zup (zup (zup (zup (zup (zup (zup (zup (zup (zup mi 81 0 40) 66 24 1) 81 1 12) 66 24 2) 81 2 11) 66 24 3) 81 3 10) 66 24 4) 81 4 11) 66 24 5) 81 5 10) 66 24 6), ml, zmr g)) := by
  refine Wp.run 10 (14, [(5, .int 3), (0, .ref 66), (1, .int 3), (2, .int (nI i)), (3, .int 2), (4, .int x)], [.int (mi 80 11)], (zsh ++ vs, mi, ml, (zmr g))) rfl ?_
  refine Wp.topi (y := 40) (h80 11 (by decide)) ?_
  refine Wp.run 5 (36, [(5, .int 3), (0, .ref 66), (1, .int 3), (2, .int (nI i)), (3, .int 2), (4, .int x)], [.int (mi 79 3)], (zsh ++ vs, mi, ml, (zmr g))) rfl ?_
  refine Wp.topi (y := 0) (h79 3 (by decide)) ?_
  refine Wp.run 10 (50, [(6, .int 0), (5, .int 3), (0, .ref 66), (1, .int 3), (2, .int (nI i)), (3, .int 2), (4, .int x)], [.int (mi 80 11), .ref 66], (zsh ++ vs, mi, ml, (zmr g))) rfl ?_
  refine Wp.topi (y := 40) (h80 11 (by decide)) ?_
  refine Wp.run 0 (50, [(6, .int 0), (5, .int 3), (0, .ref 66), (1, .int 3), (2, .int (nI i)), (3, .int 2), (4, .int x)], [.int 40, .ref 66], (zsh ++ vs, mi, ml, (zmr g))) rfl ?_
  refine Wp.call (as := [.ref 66, .int 40]) (rest := []) rfl rfl rfl rfl rfl (Nat.le_of_ble_eq_true rfl) (Nat.le_of_ble_eq_true rfl) rfl (by decide) (m_body_0 (b := 40) h1) ?_
  rintro _ _ ⟨rfl, rfl⟩
  refine Wp.run 6 (210, [(6, .int 0), (5, .int 3), (0, .ref 66), (1, .int 3), (2, .int (nI i)), (3, .int 2), (4, .int x)], [.int x, .int 2, .int (nI i), .int 0, .ref 66], (zsh ++ vs, (zup (zup mi 81 0 40) 66 24 1), ml, (zmr g))) rfl ?_
  refine Wp.call (as := [.ref 66, .int 0, .int (nI i), .int 2, .int x]) (rest := []) rfl rfl rfl rfl rfl (Nat.le_of_ble_eq_true rfl) (Nat.le_of_ble_eq_true rfl) rfl (by decide) (m_bk_3_0_2_1 (mi := (zup (zup mi 81 0 40) 66 24 1)) (x := x) (i := i) hi rfl h2 h4 h79 h80) ?_
  rintro _ _ ⟨rfl, rfl⟩
  refine Wp.run 4 (217, [(6, .int 0), (5, .int 3), (0, .ref 66), (1, .int 3), (2, .int (nI i)), (3, .int 2), (4, .int x)], [.int 1, .int 1, .int (nI i), .ref 66, .int (((x + (nI i)) - v) * 2)], (zsh ++ vs, (zup (zup (zup (zup (zup (zup (zup (zup mi 81 0 40) 66 24 1) 81 1 12) 66 24 2) 81 2 11) 66 24 3) 81 3 10) 66 24 4), ml, (zmr g))) rfl ?_
  refine Wp.call (as := [.ref 66, .int (nI i), .int 1, .int 1]) (rest := [.int (((x + (nI i)) - v) * 2)]) rfl rfl rfl rfl rfl (Nat.le_of_ble_eq_true rfl) (Nat.le_of_ble_eq_true rfl) rfl (by decide) (m_al_3_3_1_4 (mi := (zup (zup (zup (zup (zup (zup (zup (zup mi 81 0 40) 66 24 1) 81 1 12) 66 24 2) 81 2 11) 66 24 3) 81 3 10) 66 24 4)) (x := 1) (i := i) hi rfl h2 h4 h79 h80) ?_
  rintro _ _ ⟨rfl, rfl⟩
  refine Wp.run 1 (221, [(6, .int 0), (5, .int 3), (0, .ref 66), (1, .int 3), (2, .int (nI i)), (3, .int 2), (4, .int x)], [.int ((((x + (nI i)) - v) * 2) + ((1 + (nI i)) - v))], (zsh ++ vs, (zup (zup (zup (zup (zup (zup (zup (zup (zup (zup (zup (zup mi 81 0 40) 66 24 1) 81 1 12) 66 24 2) 81 2 11) 66 24 3) 81 3 10) 66 24 4) 81 4 11) 66 24 5) 81 5 10) 66 24 6), ml, (zmr g))) rfl ?_
  refine Wp.ret rfl rfl rfl ?_
  exact ⟨rfl, rfl⟩
theorem m_al_3_3_2_0 {E : zEn} {vs : List (Nat × Nat)} {mi : Nat → Nat → Int32} {ml : Nat → Nat → Int64} {g : Nat → Nat → Option Nat} {x v : Int32} {i : Nat} (hi : i < 6) (h1 : mi 66 24 = 0) (h2 : mi 67 (8 + 10 * i + 0) = 3) (h4 : mi 67 (8 + 10 * i + 1) = v) (h79 : ∀ k, k < 7 → mi 79 k = zab9.getD k 0) (h80 : ∀ k, k < 21 → mi 80 k = zbo.getD k 0) : Wp E 7 pg_M_all 0 (lv_args 0 [.ref 66, .int (nI i), .int 2, .int x]) [] (zsh ++ vs, mi, ml, (zmr g)) (fun r w' => r = some (.int ((((x + (nI i)) - v) * 2) + ((1 + (nI i)) - v))) ∧ w' = (zsh ++ vs, (zup (zup (zup (zup (zup (zup (zup (zup (zup (zup (zup (zup mi 81 0 40) 66 24 1) 81 1 12) 66 24 2) 81 2 11) 66 24 3) 81 3 10) 66 24 4) 81 4 11) 66 24 5) 81 5 10) 66 24 6), ml, zmr g)) := by
  refine Wp.run 4 (4, [(0, .ref 66), (1, .int (nI i)), (2, .int 2), (3, .int x)], [.int 0, .int (nI i), .ref 66, .ref 66], (zsh ++ vs, mi, ml, (zmr g))) rfl ?_
  refine Wp.call (as := [.ref 66, .int (nI i), .int 0]) (rest := [.ref 66]) rfl rfl rfl rfl rfl (Nat.le_of_ble_eq_true rfl) (Nat.le_of_ble_eq_true rfl) rfl (by decide) (m_one (mi := mi) i 0 (by omega)) ?_
  rintro _ _ ⟨rfl, rfl⟩
  refine Wp.topi (y := 3) (h2) ?_
  refine Wp.run 3 (10, [(0, .ref 66), (1, .int (nI i)), (2, .int 2), (3, .int x)], [.int x, .int 2, .int (nI i), .int 3, .ref 66], (zsh ++ vs, mi, ml, (zmr g))) rfl ?_
  refine Wp.call (as := [.ref 66, .int 3, .int (nI i), .int 2, .int x]) (rest := []) rfl rfl rfl rfl rfl (Nat.le_of_ble_eq_true rfl) (Nat.le_of_ble_eq_true rfl) rfl (by decide) (m_bk_3_3_2_0 hi h1 h2 h4 h79 h80) ?_
  rintro _ _ ⟨rfl, rfl⟩
  refine Wp.run 0 (13, [(0, .ref 66), (1, .int (nI i)), (2, .int 2), (3, .int x)], [.int ((((x + (nI i)) - v) * 2) + ((1 + (nI i)) - v))], (zsh ++ vs, (zup (zup (zup (zup (zup (zup (zup (zup (zup (zup (zup (zup mi 81 0 40) 66 24 1) 81 1 12) 66 24 2) 81 2 11) 66 24 3) 81 3 10) 66 24 4) 81 4 11) 66 24 5) 81 5 10) 66 24 6), ml, (zmr g))) rfl ?_
  refine Wp.ret rfl rfl rfl ?_
  exact ⟨rfl, rfl⟩
theorem m_bk_4_1_0_1 {E : zEn} {vs : List (Nat × Nat)} {mi : Nat → Nat → Int32} {ml : Nat → Nat → Int64} {g : Nat → Nat → Option Nat} {x v : Int32} {i : Nat} (hi : i < 6) (h1 : mi 66 24 = 1) (h2 : mi 67 (8 + 10 * i + 0) = 4) (h4 : mi 67 (8 + 10 * i + 1) = v) (h79 : ∀ k, k < 7 → mi 79 k = zab9.getD k 0) (h80 : ∀ k, k < 21 → mi 80 k = zbo.getD k 0) : Wp E 1 pg_M_byKind 0 (lv_args 0 [.ref 66, .int 1, .int (nI i), .int 0, .int x]) [] (zsh ++ vs, mi, ml, (zmr g)) (fun r w' => r = some (.int (x + (nI i))) ∧ w' = (zsh ++ vs, (zup (zup mi 81 1 10) 66 24 2), ml, zmr g)) := by
  refine Wp.run 10 (14, [(5, .int 1), (0, .ref 66), (1, .int 1), (2, .int (nI i)), (3, .int 0), (4, .int x)], [.int (mi 80 3)], (zsh ++ vs, mi, ml, (zmr g))) rfl ?_
  refine Wp.topi (y := 0) (h80 3 (by decide)) ?_
  refine Wp.run 5 (24, [(5, .int 1), (0, .ref 66), (1, .int 1), (2, .int (nI i)), (3, .int 0), (4, .int x)], [.int (mi 79 1)], (zsh ++ vs, mi, ml, (zmr g))) rfl ?_
  refine Wp.topi (y := 0) (h79 1 (by decide)) ?_
  refine Wp.run 2 (3, [(5, .int 0), (0, .ref 66), (1, .int 1), (2, .int (nI i)), (3, .int 0), (4, .int x)], [], (zsh ++ vs, mi, ml, (zmr g))) rfl ?_
  refine Wp.run 8 (14, [(5, .int 0), (0, .ref 66), (1, .int 1), (2, .int (nI i)), (3, .int 0), (4, .int x)], [.int (mi 80 0)], (zsh ++ vs, mi, ml, (zmr g))) rfl ?_
  refine Wp.topi (y := 10) (h80 0 (by decide)) ?_
  refine Wp.run 5 (36, [(5, .int 0), (0, .ref 66), (1, .int 1), (2, .int (nI i)), (3, .int 0), (4, .int x)], [.int (mi 79 0)], (zsh ++ vs, mi, ml, (zmr g))) rfl ?_
  refine Wp.topi (y := -1) (h79 0 (by decide)) ?_
  refine Wp.run 10 (50, [(6, .int (-1)), (5, .int 0), (0, .ref 66), (1, .int 1), (2, .int (nI i)), (3, .int 0), (4, .int x)], [.int (mi 80 0), .ref 66], (zsh ++ vs, mi, ml, (zmr g))) rfl ?_
  refine Wp.topi (y := 10) (h80 0 (by decide)) ?_
  refine Wp.run 0 (50, [(6, .int (-1)), (5, .int 0), (0, .ref 66), (1, .int 1), (2, .int (nI i)), (3, .int 0), (4, .int x)], [.int 10, .ref 66], (zsh ++ vs, mi, ml, (zmr g))) rfl ?_
  refine Wp.call (as := [.ref 66, .int 10]) (rest := []) rfl rfl rfl rfl rfl (Nat.le_of_ble_eq_true rfl) (Nat.le_of_ble_eq_true rfl) rfl (by decide) (m_body_1 (b := 10) h1) ?_
  rintro _ _ ⟨rfl, rfl⟩
  refine Wp.run 4 (148, [(6, .int (-1)), (5, .int 0), (0, .ref 66), (1, .int 1), (2, .int (nI i)), (3, .int 0), (4, .int x)], [.int (x + (nI i))], (zsh ++ vs, (zup (zup mi 81 1 10) 66 24 2), ml, (zmr g))) rfl ?_
  refine Wp.ret rfl rfl rfl ?_
  exact ⟨rfl, rfl⟩
theorem m_bk_4_4_0_0 {E : zEn} {vs : List (Nat × Nat)} {mi : Nat → Nat → Int32} {ml : Nat → Nat → Int64} {g : Nat → Nat → Option Nat} {x v : Int32} {i : Nat} (hi : i < 6) (h1 : mi 66 24 = 0) (h2 : mi 67 (8 + 10 * i + 0) = 4) (h4 : mi 67 (8 + 10 * i + 1) = v) (h79 : ∀ k, k < 7 → mi 79 k = zab9.getD k 0) (h80 : ∀ k, k < 21 → mi 80 k = zbo.getD k 0) : Wp E 2 pg_M_byKind 0 (lv_args 0 [.ref 66, .int 4, .int (nI i), .int 0, .int x]) [] (zsh ++ vs, mi, ml, (zmr g)) (fun r w' => r = some (.int (-(x + (nI i)))) ∧ w' = (zsh ++ vs, (zup (zup (zup (zup mi 81 0 50) 66 24 1) 81 1 10) 66 24 2), ml, zmr g)) := by
  refine Wp.run 10 (14, [(5, .int 4), (0, .ref 66), (1, .int 4), (2, .int (nI i)), (3, .int 0), (4, .int x)], [.int (mi 80 12)], (zsh ++ vs, mi, ml, (zmr g))) rfl ?_
  refine Wp.topi (y := 50) (h80 12 (by decide)) ?_
  refine Wp.run 5 (36, [(5, .int 4), (0, .ref 66), (1, .int 4), (2, .int (nI i)), (3, .int 0), (4, .int x)], [.int (mi 79 4)], (zsh ++ vs, mi, ml, (zmr g))) rfl ?_
  refine Wp.topi (y := 1) (h79 4 (by decide)) ?_
  refine Wp.run 10 (50, [(6, .int 1), (5, .int 4), (0, .ref 66), (1, .int 4), (2, .int (nI i)), (3, .int 0), (4, .int x)], [.int (mi 80 12), .ref 66], (zsh ++ vs, mi, ml, (zmr g))) rfl ?_
  refine Wp.topi (y := 50) (h80 12 (by decide)) ?_
  refine Wp.run 0 (50, [(6, .int 1), (5, .int 4), (0, .ref 66), (1, .int 4), (2, .int (nI i)), (3, .int 0), (4, .int x)], [.int 50, .ref 66], (zsh ++ vs, mi, ml, (zmr g))) rfl ?_
  refine Wp.call (as := [.ref 66, .int 50]) (rest := []) rfl rfl rfl rfl rfl (Nat.le_of_ble_eq_true rfl) (Nat.le_of_ble_eq_true rfl) rfl (by decide) (m_body_0 (b := 50) h1) ?_
  rintro _ _ ⟨rfl, rfl⟩
  refine Wp.run 6 (229, [(6, .int 1), (5, .int 4), (0, .ref 66), (1, .int 4), (2, .int (nI i)), (3, .int 0), (4, .int x)], [.int x, .int 0, .int (nI i), .int 1, .ref 66], (zsh ++ vs, (zup (zup mi 81 0 50) 66 24 1), ml, (zmr g))) rfl ?_
  refine Wp.call (as := [.ref 66, .int 1, .int (nI i), .int 0, .int x]) (rest := []) rfl rfl rfl rfl rfl (Nat.le_of_ble_eq_true rfl) (Nat.le_of_ble_eq_true rfl) rfl (by decide) (m_bk_4_1_0_1 (mi := (zup (zup mi 81 0 50) 66 24 1)) (x := x) (i := i) hi rfl h2 h4 h79 h80) ?_
  rintro _ _ ⟨rfl, rfl⟩
  refine Wp.run 1 (233, [(6, .int 1), (5, .int 4), (0, .ref 66), (1, .int 4), (2, .int (nI i)), (3, .int 0), (4, .int x)], [.int (-(x + (nI i)))], (zsh ++ vs, (zup (zup (zup (zup mi 81 0 50) 66 24 1) 81 1 10) 66 24 2), ml, (zmr g))) rfl ?_
  refine Wp.ret rfl rfl rfl ?_
  exact ⟨rfl, rfl⟩
theorem m_al_4_4_0_0 {E : zEn} {vs : List (Nat × Nat)} {mi : Nat → Nat → Int32} {ml : Nat → Nat → Int64} {g : Nat → Nat → Option Nat} {x v : Int32} {i : Nat} (hi : i < 6) (h1 : mi 66 24 = 0) (h2 : mi 67 (8 + 10 * i + 0) = 4) (h4 : mi 67 (8 + 10 * i + 1) = v) (h79 : ∀ k, k < 7 → mi 79 k = zab9.getD k 0) (h80 : ∀ k, k < 21 → mi 80 k = zbo.getD k 0) : Wp E 3 pg_M_all 0 (lv_args 0 [.ref 66, .int (nI i), .int 0, .int x]) [] (zsh ++ vs, mi, ml, (zmr g)) (fun r w' => r = some (.int (-(x + (nI i)))) ∧ w' = (zsh ++ vs, (zup (zup (zup (zup mi 81 0 50) 66 24 1) 81 1 10) 66 24 2), ml, zmr g)) := by
  refine Wp.run 4 (4, [(0, .ref 66), (1, .int (nI i)), (2, .int 0), (3, .int x)], [.int 0, .int (nI i), .ref 66, .ref 66], (zsh ++ vs, mi, ml, (zmr g))) rfl ?_
  refine Wp.call (as := [.ref 66, .int (nI i), .int 0]) (rest := [.ref 66]) rfl rfl rfl rfl rfl (Nat.le_of_ble_eq_true rfl) (Nat.le_of_ble_eq_true rfl) rfl (by decide) (m_one (mi := mi) i 0 (by omega)) ?_
  rintro _ _ ⟨rfl, rfl⟩
  refine Wp.topi (y := 4) (h2) ?_
  refine Wp.run 3 (10, [(0, .ref 66), (1, .int (nI i)), (2, .int 0), (3, .int x)], [.int x, .int 0, .int (nI i), .int 4, .ref 66], (zsh ++ vs, mi, ml, (zmr g))) rfl ?_
  refine Wp.call (as := [.ref 66, .int 4, .int (nI i), .int 0, .int x]) (rest := []) rfl rfl rfl rfl rfl (Nat.le_of_ble_eq_true rfl) (Nat.le_of_ble_eq_true rfl) rfl (by decide) (m_bk_4_4_0_0 hi h1 h2 h4 h79 h80) ?_
  rintro _ _ ⟨rfl, rfl⟩
  refine Wp.run 0 (13, [(0, .ref 66), (1, .int (nI i)), (2, .int 0), (3, .int x)], [.int (-(x + (nI i)))], (zsh ++ vs, (zup (zup (zup (zup mi 81 0 50) 66 24 1) 81 1 10) 66 24 2), ml, (zmr g))) rfl ?_
  refine Wp.ret rfl rfl rfl ?_
  exact ⟨rfl, rfl⟩
theorem m_bk_4_1_0_4 {E : zEn} {vs : List (Nat × Nat)} {mi : Nat → Nat → Int32} {ml : Nat → Nat → Int64} {g : Nat → Nat → Option Nat} {x v : Int32} {i : Nat} (hi : i < 6) (h1 : mi 66 24 = 4) (h2 : mi 67 (8 + 10 * i + 0) = 4) (h4 : mi 67 (8 + 10 * i + 1) = v) (h79 : ∀ k, k < 7 → mi 79 k = zab9.getD k 0) (h80 : ∀ k, k < 21 → mi 80 k = zbo.getD k 0) : Wp E 1 pg_M_byKind 0 (lv_args 0 [.ref 66, .int 1, .int (nI i), .int 0, .int x]) [] (zsh ++ vs, mi, ml, (zmr g)) (fun r w' => r = some (.int (x + (nI i))) ∧ w' = (zsh ++ vs, (zup (zup mi 81 4 10) 66 24 5), ml, zmr g)) := by
  refine Wp.run 10 (14, [(5, .int 1), (0, .ref 66), (1, .int 1), (2, .int (nI i)), (3, .int 0), (4, .int x)], [.int (mi 80 3)], (zsh ++ vs, mi, ml, (zmr g))) rfl ?_
  refine Wp.topi (y := 0) (h80 3 (by decide)) ?_
  refine Wp.run 5 (24, [(5, .int 1), (0, .ref 66), (1, .int 1), (2, .int (nI i)), (3, .int 0), (4, .int x)], [.int (mi 79 1)], (zsh ++ vs, mi, ml, (zmr g))) rfl ?_
  refine Wp.topi (y := 0) (h79 1 (by decide)) ?_
  refine Wp.run 2 (3, [(5, .int 0), (0, .ref 66), (1, .int 1), (2, .int (nI i)), (3, .int 0), (4, .int x)], [], (zsh ++ vs, mi, ml, (zmr g))) rfl ?_
  refine Wp.run 8 (14, [(5, .int 0), (0, .ref 66), (1, .int 1), (2, .int (nI i)), (3, .int 0), (4, .int x)], [.int (mi 80 0)], (zsh ++ vs, mi, ml, (zmr g))) rfl ?_
  refine Wp.topi (y := 10) (h80 0 (by decide)) ?_
  refine Wp.run 5 (36, [(5, .int 0), (0, .ref 66), (1, .int 1), (2, .int (nI i)), (3, .int 0), (4, .int x)], [.int (mi 79 0)], (zsh ++ vs, mi, ml, (zmr g))) rfl ?_
  refine Wp.topi (y := -1) (h79 0 (by decide)) ?_
  refine Wp.run 10 (50, [(6, .int (-1)), (5, .int 0), (0, .ref 66), (1, .int 1), (2, .int (nI i)), (3, .int 0), (4, .int x)], [.int (mi 80 0), .ref 66], (zsh ++ vs, mi, ml, (zmr g))) rfl ?_
  refine Wp.topi (y := 10) (h80 0 (by decide)) ?_
  refine Wp.run 0 (50, [(6, .int (-1)), (5, .int 0), (0, .ref 66), (1, .int 1), (2, .int (nI i)), (3, .int 0), (4, .int x)], [.int 10, .ref 66], (zsh ++ vs, mi, ml, (zmr g))) rfl ?_
  refine Wp.call (as := [.ref 66, .int 10]) (rest := []) rfl rfl rfl rfl rfl (Nat.le_of_ble_eq_true rfl) (Nat.le_of_ble_eq_true rfl) rfl (by decide) (m_body_4 (b := 10) h1) ?_
  rintro _ _ ⟨rfl, rfl⟩
  refine Wp.run 4 (148, [(6, .int (-1)), (5, .int 0), (0, .ref 66), (1, .int 1), (2, .int (nI i)), (3, .int 0), (4, .int x)], [.int (x + (nI i))], (zsh ++ vs, (zup (zup mi 81 4 10) 66 24 5), ml, (zmr g))) rfl ?_
  refine Wp.ret rfl rfl rfl ?_
  exact ⟨rfl, rfl⟩
theorem m_bk_4_4_0_3 {E : zEn} {vs : List (Nat × Nat)} {mi : Nat → Nat → Int32} {ml : Nat → Nat → Int64} {g : Nat → Nat → Option Nat} {x v : Int32} {i : Nat} (hi : i < 6) (h1 : mi 66 24 = 3) (h2 : mi 67 (8 + 10 * i + 0) = 4) (h4 : mi 67 (8 + 10 * i + 1) = v) (h79 : ∀ k, k < 7 → mi 79 k = zab9.getD k 0) (h80 : ∀ k, k < 21 → mi 80 k = zbo.getD k 0) : Wp E 2 pg_M_byKind 0 (lv_args 0 [.ref 66, .int 4, .int (nI i), .int 0, .int x]) [] (zsh ++ vs, mi, ml, (zmr g)) (fun r w' => r = some (.int (-(x + (nI i)))) ∧ w' = (zsh ++ vs, (zup (zup (zup (zup mi 81 3 50) 66 24 4) 81 4 10) 66 24 5), ml, zmr g)) := by
  refine Wp.run 10 (14, [(5, .int 4), (0, .ref 66), (1, .int 4), (2, .int (nI i)), (3, .int 0), (4, .int x)], [.int (mi 80 12)], (zsh ++ vs, mi, ml, (zmr g))) rfl ?_
  refine Wp.topi (y := 50) (h80 12 (by decide)) ?_
  refine Wp.run 5 (36, [(5, .int 4), (0, .ref 66), (1, .int 4), (2, .int (nI i)), (3, .int 0), (4, .int x)], [.int (mi 79 4)], (zsh ++ vs, mi, ml, (zmr g))) rfl ?_
  refine Wp.topi (y := 1) (h79 4 (by decide)) ?_
  refine Wp.run 10 (50, [(6, .int 1), (5, .int 4), (0, .ref 66), (1, .int 4), (2, .int (nI i)), (3, .int 0), (4, .int x)], [.int (mi 80 12), .ref 66], (zsh ++ vs, mi, ml, (zmr g))) rfl ?_
  refine Wp.topi (y := 50) (h80 12 (by decide)) ?_
  refine Wp.run 0 (50, [(6, .int 1), (5, .int 4), (0, .ref 66), (1, .int 4), (2, .int (nI i)), (3, .int 0), (4, .int x)], [.int 50, .ref 66], (zsh ++ vs, mi, ml, (zmr g))) rfl ?_
  refine Wp.call (as := [.ref 66, .int 50]) (rest := []) rfl rfl rfl rfl rfl (Nat.le_of_ble_eq_true rfl) (Nat.le_of_ble_eq_true rfl) rfl (by decide) (m_body_3 (b := 50) h1) ?_
  rintro _ _ ⟨rfl, rfl⟩
  refine Wp.run 6 (229, [(6, .int 1), (5, .int 4), (0, .ref 66), (1, .int 4), (2, .int (nI i)), (3, .int 0), (4, .int x)], [.int x, .int 0, .int (nI i), .int 1, .ref 66], (zsh ++ vs, (zup (zup mi 81 3 50) 66 24 4), ml, (zmr g))) rfl ?_
  refine Wp.call (as := [.ref 66, .int 1, .int (nI i), .int 0, .int x]) (rest := []) rfl rfl rfl rfl rfl (Nat.le_of_ble_eq_true rfl) (Nat.le_of_ble_eq_true rfl) rfl (by decide) (m_bk_4_1_0_4 (mi := (zup (zup mi 81 3 50) 66 24 4)) (x := x) (i := i) hi rfl h2 h4 h79 h80) ?_
  rintro _ _ ⟨rfl, rfl⟩
  refine Wp.run 1 (233, [(6, .int 1), (5, .int 4), (0, .ref 66), (1, .int 4), (2, .int (nI i)), (3, .int 0), (4, .int x)], [.int (-(x + (nI i)))], (zsh ++ vs, (zup (zup (zup (zup mi 81 3 50) 66 24 4) 81 4 10) 66 24 5), ml, (zmr g))) rfl ?_
  refine Wp.ret rfl rfl rfl ?_
  exact ⟨rfl, rfl⟩
theorem m_al_4_4_0_3 {E : zEn} {vs : List (Nat × Nat)} {mi : Nat → Nat → Int32} {ml : Nat → Nat → Int64} {g : Nat → Nat → Option Nat} {x v : Int32} {i : Nat} (hi : i < 6) (h1 : mi 66 24 = 3) (h2 : mi 67 (8 + 10 * i + 0) = 4) (h4 : mi 67 (8 + 10 * i + 1) = v) (h79 : ∀ k, k < 7 → mi 79 k = zab9.getD k 0) (h80 : ∀ k, k < 21 → mi 80 k = zbo.getD k 0) : Wp E 3 pg_M_all 0 (lv_args 0 [.ref 66, .int (nI i), .int 0, .int x]) [] (zsh ++ vs, mi, ml, (zmr g)) (fun r w' => r = some (.int (-(x + (nI i)))) ∧ w' = (zsh ++ vs, (zup (zup (zup (zup mi 81 3 50) 66 24 4) 81 4 10) 66 24 5), ml, zmr g)) := by
  refine Wp.run 4 (4, [(0, .ref 66), (1, .int (nI i)), (2, .int 0), (3, .int x)], [.int 0, .int (nI i), .ref 66, .ref 66], (zsh ++ vs, mi, ml, (zmr g))) rfl ?_
  refine Wp.call (as := [.ref 66, .int (nI i), .int 0]) (rest := [.ref 66]) rfl rfl rfl rfl rfl (Nat.le_of_ble_eq_true rfl) (Nat.le_of_ble_eq_true rfl) rfl (by decide) (m_one (mi := mi) i 0 (by omega)) ?_
  rintro _ _ ⟨rfl, rfl⟩
  refine Wp.topi (y := 4) (h2) ?_
  refine Wp.run 3 (10, [(0, .ref 66), (1, .int (nI i)), (2, .int 0), (3, .int x)], [.int x, .int 0, .int (nI i), .int 4, .ref 66], (zsh ++ vs, mi, ml, (zmr g))) rfl ?_
  refine Wp.call (as := [.ref 66, .int 4, .int (nI i), .int 0, .int x]) (rest := []) rfl rfl rfl rfl rfl (Nat.le_of_ble_eq_true rfl) (Nat.le_of_ble_eq_true rfl) rfl (by decide) (m_bk_4_4_0_3 hi h1 h2 h4 h79 h80) ?_
  rintro _ _ ⟨rfl, rfl⟩
  refine Wp.run 0 (13, [(0, .ref 66), (1, .int (nI i)), (2, .int 0), (3, .int x)], [.int (-(x + (nI i)))], (zsh ++ vs, (zup (zup (zup (zup mi 81 3 50) 66 24 4) 81 4 10) 66 24 5), ml, (zmr g))) rfl ?_
  refine Wp.ret rfl rfl rfl ?_
  exact ⟨rfl, rfl⟩
theorem m_bk_4_0_1_2 {E : zEn} {vs : List (Nat × Nat)} {mi : Nat → Nat → Int32} {ml : Nat → Nat → Int64} {g : Nat → Nat → Option Nat} {x v : Int32} {i : Nat} (hi : i < 6) (h1 : mi 66 24 = 2) (h2 : mi 67 (8 + 10 * i + 0) = 4) (h4 : mi 67 (8 + 10 * i + 1) = v) (h79 : ∀ k, k < 7 → mi 79 k = zab9.getD k 0) (h80 : ∀ k, k < 21 → mi 80 k = zbo.getD k 0) : Wp E 4 pg_M_byKind 0 (lv_args 0 [.ref 66, .int 0, .int (nI i), .int 1, .int x]) [] (zsh ++ vs, mi, ml, (zmr g)) (fun r w' => r = some (.int ((-(x + (nI i))) - v)) ∧ w' = (zsh ++ vs, (zup (zup (zup (zup (zup (zup mi 81 2 11) 66 24 3) 81 3 50) 66 24 4) 81 4 10) 66 24 5), ml, zmr g)) := by
  refine Wp.run 10 (14, [(5, .int 0), (0, .ref 66), (1, .int 0), (2, .int (nI i)), (3, .int 1), (4, .int x)], [.int (mi 80 1)], (zsh ++ vs, mi, ml, (zmr g))) rfl ?_
  refine Wp.topi (y := 11) (h80 1 (by decide)) ?_
  refine Wp.run 5 (36, [(5, .int 0), (0, .ref 66), (1, .int 0), (2, .int (nI i)), (3, .int 1), (4, .int x)], [.int (mi 79 0)], (zsh ++ vs, mi, ml, (zmr g))) rfl ?_
  refine Wp.topi (y := -1) (h79 0 (by decide)) ?_
  refine Wp.run 10 (50, [(6, .int (-1)), (5, .int 0), (0, .ref 66), (1, .int 0), (2, .int (nI i)), (3, .int 1), (4, .int x)], [.int (mi 80 1), .ref 66], (zsh ++ vs, mi, ml, (zmr g))) rfl ?_
  refine Wp.topi (y := 11) (h80 1 (by decide)) ?_
  refine Wp.run 0 (50, [(6, .int (-1)), (5, .int 0), (0, .ref 66), (1, .int 0), (2, .int (nI i)), (3, .int 1), (4, .int x)], [.int 11, .ref 66], (zsh ++ vs, mi, ml, (zmr g))) rfl ?_
  refine Wp.call (as := [.ref 66, .int 11]) (rest := []) rfl rfl rfl rfl rfl (Nat.le_of_ble_eq_true rfl) (Nat.le_of_ble_eq_true rfl) rfl (by decide) (m_body_2 (b := 11) h1) ?_
  rintro _ _ ⟨rfl, rfl⟩
  refine Wp.run 5 (154, [(6, .int (-1)), (5, .int 0), (0, .ref 66), (1, .int 0), (2, .int (nI i)), (3, .int 1), (4, .int x)], [.int x, .int 0, .int (nI i), .ref 66], (zsh ++ vs, (zup (zup mi 81 2 11) 66 24 3), ml, (zmr g))) rfl ?_
  refine Wp.call (as := [.ref 66, .int (nI i), .int 0, .int x]) (rest := []) rfl rfl rfl rfl rfl (Nat.le_of_ble_eq_true rfl) (Nat.le_of_ble_eq_true rfl) rfl (by decide) (m_al_4_4_0_3 (mi := (zup (zup mi 81 2 11) 66 24 3)) (x := x) (i := i) hi rfl h2 h4 h79 h80) ?_
  rintro _ _ ⟨rfl, rfl⟩
  refine Wp.run 3 (160, [(6, .int (-1)), (5, .int 0), (0, .ref 66), (1, .int 0), (2, .int (nI i)), (3, .int 1), (4, .int x)], [.int 1, .int (nI i), .ref 66, .int (-(x + (nI i)))], (zsh ++ vs, (zup (zup (zup (zup (zup (zup mi 81 2 11) 66 24 3) 81 3 50) 66 24 4) 81 4 10) 66 24 5), ml, (zmr g))) rfl ?_
  refine Wp.call (as := [.ref 66, .int (nI i), .int 1]) (rest := [.int (-(x + (nI i)))]) rfl rfl rfl rfl rfl (Nat.le_of_ble_eq_true rfl) (Nat.le_of_ble_eq_true rfl) rfl (by decide) (m_one (mi := (zup (zup (zup (zup (zup (zup mi 81 2 11) 66 24 3) 81 3 50) 66 24 4) 81 4 10) 66 24 5)) i 1 (by omega)) ?_
  rintro _ _ ⟨rfl, rfl⟩
  refine Wp.topi (y := v) (h4) ?_
  refine Wp.run 1 (164, [(6, .int (-1)), (5, .int 0), (0, .ref 66), (1, .int 0), (2, .int (nI i)), (3, .int 1), (4, .int x)], [.int ((-(x + (nI i))) - v)], (zsh ++ vs, (zup (zup (zup (zup (zup (zup mi 81 2 11) 66 24 3) 81 3 50) 66 24 4) 81 4 10) 66 24 5), ml, (zmr g))) rfl ?_
  refine Wp.ret rfl rfl rfl ?_
  exact ⟨rfl, rfl⟩
theorem m_bk_4_1_1_1 {E : zEn} {vs : List (Nat × Nat)} {mi : Nat → Nat → Int32} {ml : Nat → Nat → Int64} {g : Nat → Nat → Option Nat} {x v : Int32} {i : Nat} (hi : i < 6) (h1 : mi 66 24 = 1) (h2 : mi 67 (8 + 10 * i + 0) = 4) (h4 : mi 67 (8 + 10 * i + 1) = v) (h79 : ∀ k, k < 7 → mi 79 k = zab9.getD k 0) (h80 : ∀ k, k < 21 → mi 80 k = zbo.getD k 0) : Wp E 5 pg_M_byKind 0 (lv_args 0 [.ref 66, .int 1, .int (nI i), .int 1, .int x]) [] (zsh ++ vs, mi, ml, (zmr g)) (fun r w' => r = some (.int (((-(x + (nI i))) - v) ^^^ 6)) ∧ w' = (zsh ++ vs, (zup (zup (zup (zup (zup (zup (zup (zup mi 81 1 20) 66 24 2) 81 2 11) 66 24 3) 81 3 50) 66 24 4) 81 4 10) 66 24 5), ml, zmr g)) := by
  refine Wp.run 10 (14, [(5, .int 1), (0, .ref 66), (1, .int 1), (2, .int (nI i)), (3, .int 1), (4, .int x)], [.int (mi 80 4)], (zsh ++ vs, mi, ml, (zmr g))) rfl ?_
  refine Wp.topi (y := 20) (h80 4 (by decide)) ?_
  refine Wp.run 5 (36, [(5, .int 1), (0, .ref 66), (1, .int 1), (2, .int (nI i)), (3, .int 1), (4, .int x)], [.int (mi 79 1)], (zsh ++ vs, mi, ml, (zmr g))) rfl ?_
  refine Wp.topi (y := 0) (h79 1 (by decide)) ?_
  refine Wp.run 10 (50, [(6, .int 0), (5, .int 1), (0, .ref 66), (1, .int 1), (2, .int (nI i)), (3, .int 1), (4, .int x)], [.int (mi 80 4), .ref 66], (zsh ++ vs, mi, ml, (zmr g))) rfl ?_
  refine Wp.topi (y := 20) (h80 4 (by decide)) ?_
  refine Wp.run 0 (50, [(6, .int 0), (5, .int 1), (0, .ref 66), (1, .int 1), (2, .int (nI i)), (3, .int 1), (4, .int x)], [.int 20, .ref 66], (zsh ++ vs, mi, ml, (zmr g))) rfl ?_
  refine Wp.call (as := [.ref 66, .int 20]) (rest := []) rfl rfl rfl rfl rfl (Nat.le_of_ble_eq_true rfl) (Nat.le_of_ble_eq_true rfl) rfl (by decide) (m_body_1 (b := 20) h1) ?_
  rintro _ _ ⟨rfl, rfl⟩
  refine Wp.run 6 (183, [(6, .int 0), (5, .int 1), (0, .ref 66), (1, .int 1), (2, .int (nI i)), (3, .int 1), (4, .int x)], [.int x, .int 1, .int (nI i), .int 0, .ref 66], (zsh ++ vs, (zup (zup mi 81 1 20) 66 24 2), ml, (zmr g))) rfl ?_
  refine Wp.call (as := [.ref 66, .int 0, .int (nI i), .int 1, .int x]) (rest := []) rfl rfl rfl rfl rfl (Nat.le_of_ble_eq_true rfl) (Nat.le_of_ble_eq_true rfl) rfl (by decide) (m_bk_4_0_1_2 (mi := (zup (zup mi 81 1 20) 66 24 2)) (x := x) (i := i) hi rfl h2 h4 h79 h80) ?_
  rintro _ _ ⟨rfl, rfl⟩
  refine Wp.run 2 (189, [(6, .int 0), (5, .int 1), (0, .ref 66), (1, .int 1), (2, .int (nI i)), (3, .int 1), (4, .int x)], [.int (((-(x + (nI i))) - v) ^^^ 6)], (zsh ++ vs, (zup (zup (zup (zup (zup (zup (zup (zup mi 81 1 20) 66 24 2) 81 2 11) 66 24 3) 81 3 50) 66 24 4) 81 4 10) 66 24 5), ml, (zmr g))) rfl ?_
  refine Wp.ret rfl rfl rfl ?_
  exact ⟨rfl, rfl⟩
theorem m_bk_4_4_1_0 {E : zEn} {vs : List (Nat × Nat)} {mi : Nat → Nat → Int32} {ml : Nat → Nat → Int64} {g : Nat → Nat → Option Nat} {x v : Int32} {i : Nat} (hi : i < 6) (h1 : mi 66 24 = 0) (h2 : mi 67 (8 + 10 * i + 0) = 4) (h4 : mi 67 (8 + 10 * i + 1) = v) (h79 : ∀ k, k < 7 → mi 79 k = zab9.getD k 0) (h80 : ∀ k, k < 21 → mi 80 k = zbo.getD k 0) : Wp E 6 pg_M_byKind 0 (lv_args 0 [.ref 66, .int 4, .int (nI i), .int 1, .int x]) [] (zsh ++ vs, mi, ml, (zmr g)) (fun r w' => r = some (.int ((((-((x + 1) + (nI i))) - v) ^^^ 6))) ∧ w' = (zsh ++ vs, (zup (zup (zup (zup (zup (zup (zup (zup (zup (zup mi 81 0 51) 66 24 1) 81 1 20) 66 24 2) 81 2 11) 66 24 3) 81 3 50) 66 24 4) 81 4 10) 66 24 5), ml, zmr g)) := by
  refine Wp.run 10 (14, [(5, .int 4), (0, .ref 66), (1, .int 4), (2, .int (nI i)), (3, .int 1), (4, .int x)], [.int (mi 80 13)], (zsh ++ vs, mi, ml, (zmr g))) rfl ?_
  refine Wp.topi (y := 51) (h80 13 (by decide)) ?_
  refine Wp.run 5 (36, [(5, .int 4), (0, .ref 66), (1, .int 4), (2, .int (nI i)), (3, .int 1), (4, .int x)], [.int (mi 79 4)], (zsh ++ vs, mi, ml, (zmr g))) rfl ?_
  refine Wp.topi (y := 1) (h79 4 (by decide)) ?_
  refine Wp.run 10 (50, [(6, .int 1), (5, .int 4), (0, .ref 66), (1, .int 4), (2, .int (nI i)), (3, .int 1), (4, .int x)], [.int (mi 80 13), .ref 66], (zsh ++ vs, mi, ml, (zmr g))) rfl ?_
  refine Wp.topi (y := 51) (h80 13 (by decide)) ?_
  refine Wp.run 0 (50, [(6, .int 1), (5, .int 4), (0, .ref 66), (1, .int 4), (2, .int (nI i)), (3, .int 1), (4, .int x)], [.int 51, .ref 66], (zsh ++ vs, mi, ml, (zmr g))) rfl ?_
  refine Wp.call (as := [.ref 66, .int 51]) (rest := []) rfl rfl rfl rfl rfl (Nat.le_of_ble_eq_true rfl) (Nat.le_of_ble_eq_true rfl) rfl (by decide) (m_body_0 (b := 51) h1) ?_
  rintro _ _ ⟨rfl, rfl⟩
  refine Wp.run 8 (243, [(6, .int 1), (5, .int 4), (0, .ref 66), (1, .int 4), (2, .int (nI i)), (3, .int 1), (4, .int x)], [.int (x + 1), .int 1, .int (nI i), .int 1, .ref 66], (zsh ++ vs, (zup (zup mi 81 0 51) 66 24 1), ml, (zmr g))) rfl ?_
  refine Wp.call (as := [.ref 66, .int 1, .int (nI i), .int 1, .int (x + 1)]) (rest := []) rfl rfl rfl rfl rfl (Nat.le_of_ble_eq_true rfl) (Nat.le_of_ble_eq_true rfl) rfl (by decide) (m_bk_4_1_1_1 (mi := (zup (zup mi 81 0 51) 66 24 1)) (x := (x + 1)) (i := i) hi rfl h2 h4 h79 h80) ?_
  rintro _ _ ⟨rfl, rfl⟩
  refine Wp.run 0 (246, [(6, .int 1), (5, .int 4), (0, .ref 66), (1, .int 4), (2, .int (nI i)), (3, .int 1), (4, .int x)], [.int (((-((x + 1) + (nI i))) - v) ^^^ 6)], (zsh ++ vs, (zup (zup (zup (zup (zup (zup (zup (zup (zup (zup mi 81 0 51) 66 24 1) 81 1 20) 66 24 2) 81 2 11) 66 24 3) 81 3 50) 66 24 4) 81 4 10) 66 24 5), ml, (zmr g))) rfl ?_
  refine Wp.ret rfl rfl rfl ?_
  exact ⟨rfl, rfl⟩
theorem m_al_4_4_1_0 {E : zEn} {vs : List (Nat × Nat)} {mi : Nat → Nat → Int32} {ml : Nat → Nat → Int64} {g : Nat → Nat → Option Nat} {x v : Int32} {i : Nat} (hi : i < 6) (h1 : mi 66 24 = 0) (h2 : mi 67 (8 + 10 * i + 0) = 4) (h4 : mi 67 (8 + 10 * i + 1) = v) (h79 : ∀ k, k < 7 → mi 79 k = zab9.getD k 0) (h80 : ∀ k, k < 21 → mi 80 k = zbo.getD k 0) : Wp E 7 pg_M_all 0 (lv_args 0 [.ref 66, .int (nI i), .int 1, .int x]) [] (zsh ++ vs, mi, ml, (zmr g)) (fun r w' => r = some (.int ((((-((x + 1) + (nI i))) - v) ^^^ 6))) ∧ w' = (zsh ++ vs, (zup (zup (zup (zup (zup (zup (zup (zup (zup (zup mi 81 0 51) 66 24 1) 81 1 20) 66 24 2) 81 2 11) 66 24 3) 81 3 50) 66 24 4) 81 4 10) 66 24 5), ml, zmr g)) := by
  refine Wp.run 4 (4, [(0, .ref 66), (1, .int (nI i)), (2, .int 1), (3, .int x)], [.int 0, .int (nI i), .ref 66, .ref 66], (zsh ++ vs, mi, ml, (zmr g))) rfl ?_
  refine Wp.call (as := [.ref 66, .int (nI i), .int 0]) (rest := [.ref 66]) rfl rfl rfl rfl rfl (Nat.le_of_ble_eq_true rfl) (Nat.le_of_ble_eq_true rfl) rfl (by decide) (m_one (mi := mi) i 0 (by omega)) ?_
  rintro _ _ ⟨rfl, rfl⟩
  refine Wp.topi (y := 4) (h2) ?_
  refine Wp.run 3 (10, [(0, .ref 66), (1, .int (nI i)), (2, .int 1), (3, .int x)], [.int x, .int 1, .int (nI i), .int 4, .ref 66], (zsh ++ vs, mi, ml, (zmr g))) rfl ?_
  refine Wp.call (as := [.ref 66, .int 4, .int (nI i), .int 1, .int x]) (rest := []) rfl rfl rfl rfl rfl (Nat.le_of_ble_eq_true rfl) (Nat.le_of_ble_eq_true rfl) rfl (by decide) (m_bk_4_4_1_0 hi h1 h2 h4 h79 h80) ?_
  rintro _ _ ⟨rfl, rfl⟩
  refine Wp.run 0 (13, [(0, .ref 66), (1, .int (nI i)), (2, .int 1), (3, .int x)], [.int (((-((x + 1) + (nI i))) - v) ^^^ 6)], (zsh ++ vs, (zup (zup (zup (zup (zup (zup (zup (zup (zup (zup mi 81 0 51) 66 24 1) 81 1 20) 66 24 2) 81 2 11) 66 24 3) 81 3 50) 66 24 4) 81 4 10) 66 24 5), ml, (zmr g))) rfl ?_
  refine Wp.ret rfl rfl rfl ?_
  exact ⟨rfl, rfl⟩
theorem m_bk_4_1_0_5 {E : zEn} {vs : List (Nat × Nat)} {mi : Nat → Nat → Int32} {ml : Nat → Nat → Int64} {g : Nat → Nat → Option Nat} {x v : Int32} {i : Nat} (hi : i < 6) (h1 : mi 66 24 = 5) (h2 : mi 67 (8 + 10 * i + 0) = 4) (h4 : mi 67 (8 + 10 * i + 1) = v) (h79 : ∀ k, k < 7 → mi 79 k = zab9.getD k 0) (h80 : ∀ k, k < 21 → mi 80 k = zbo.getD k 0) : Wp E 1 pg_M_byKind 0 (lv_args 0 [.ref 66, .int 1, .int (nI i), .int 0, .int x]) [] (zsh ++ vs, mi, ml, (zmr g)) (fun r w' => r = some (.int (x + (nI i))) ∧ w' = (zsh ++ vs, (zup (zup mi 81 5 10) 66 24 6), ml, zmr g)) := by
  refine Wp.run 10 (14, [(5, .int 1), (0, .ref 66), (1, .int 1), (2, .int (nI i)), (3, .int 0), (4, .int x)], [.int (mi 80 3)], (zsh ++ vs, mi, ml, (zmr g))) rfl ?_
  refine Wp.topi (y := 0) (h80 3 (by decide)) ?_
  refine Wp.run 5 (24, [(5, .int 1), (0, .ref 66), (1, .int 1), (2, .int (nI i)), (3, .int 0), (4, .int x)], [.int (mi 79 1)], (zsh ++ vs, mi, ml, (zmr g))) rfl ?_
  refine Wp.topi (y := 0) (h79 1 (by decide)) ?_
  refine Wp.run 2 (3, [(5, .int 0), (0, .ref 66), (1, .int 1), (2, .int (nI i)), (3, .int 0), (4, .int x)], [], (zsh ++ vs, mi, ml, (zmr g))) rfl ?_
  refine Wp.run 8 (14, [(5, .int 0), (0, .ref 66), (1, .int 1), (2, .int (nI i)), (3, .int 0), (4, .int x)], [.int (mi 80 0)], (zsh ++ vs, mi, ml, (zmr g))) rfl ?_
  refine Wp.topi (y := 10) (h80 0 (by decide)) ?_
  refine Wp.run 5 (36, [(5, .int 0), (0, .ref 66), (1, .int 1), (2, .int (nI i)), (3, .int 0), (4, .int x)], [.int (mi 79 0)], (zsh ++ vs, mi, ml, (zmr g))) rfl ?_
  refine Wp.topi (y := -1) (h79 0 (by decide)) ?_
  refine Wp.run 10 (50, [(6, .int (-1)), (5, .int 0), (0, .ref 66), (1, .int 1), (2, .int (nI i)), (3, .int 0), (4, .int x)], [.int (mi 80 0), .ref 66], (zsh ++ vs, mi, ml, (zmr g))) rfl ?_
  refine Wp.topi (y := 10) (h80 0 (by decide)) ?_
  refine Wp.run 0 (50, [(6, .int (-1)), (5, .int 0), (0, .ref 66), (1, .int 1), (2, .int (nI i)), (3, .int 0), (4, .int x)], [.int 10, .ref 66], (zsh ++ vs, mi, ml, (zmr g))) rfl ?_
  refine Wp.call (as := [.ref 66, .int 10]) (rest := []) rfl rfl rfl rfl rfl (Nat.le_of_ble_eq_true rfl) (Nat.le_of_ble_eq_true rfl) rfl (by decide) (m_body_5 (b := 10) h1) ?_
  rintro _ _ ⟨rfl, rfl⟩
  refine Wp.run 4 (148, [(6, .int (-1)), (5, .int 0), (0, .ref 66), (1, .int 1), (2, .int (nI i)), (3, .int 0), (4, .int x)], [.int (x + (nI i))], (zsh ++ vs, (zup (zup mi 81 5 10) 66 24 6), ml, (zmr g))) rfl ?_
  refine Wp.ret rfl rfl rfl ?_
  exact ⟨rfl, rfl⟩
theorem m_bk_4_4_0_4 {E : zEn} {vs : List (Nat × Nat)} {mi : Nat → Nat → Int32} {ml : Nat → Nat → Int64} {g : Nat → Nat → Option Nat} {x v : Int32} {i : Nat} (hi : i < 6) (h1 : mi 66 24 = 4) (h2 : mi 67 (8 + 10 * i + 0) = 4) (h4 : mi 67 (8 + 10 * i + 1) = v) (h79 : ∀ k, k < 7 → mi 79 k = zab9.getD k 0) (h80 : ∀ k, k < 21 → mi 80 k = zbo.getD k 0) : Wp E 2 pg_M_byKind 0 (lv_args 0 [.ref 66, .int 4, .int (nI i), .int 0, .int x]) [] (zsh ++ vs, mi, ml, (zmr g)) (fun r w' => r = some (.int (-(x + (nI i)))) ∧ w' = (zsh ++ vs, (zup (zup (zup (zup mi 81 4 50) 66 24 5) 81 5 10) 66 24 6), ml, zmr g)) := by
  refine Wp.run 10 (14, [(5, .int 4), (0, .ref 66), (1, .int 4), (2, .int (nI i)), (3, .int 0), (4, .int x)], [.int (mi 80 12)], (zsh ++ vs, mi, ml, (zmr g))) rfl ?_
  refine Wp.topi (y := 50) (h80 12 (by decide)) ?_
  refine Wp.run 5 (36, [(5, .int 4), (0, .ref 66), (1, .int 4), (2, .int (nI i)), (3, .int 0), (4, .int x)], [.int (mi 79 4)], (zsh ++ vs, mi, ml, (zmr g))) rfl ?_
  refine Wp.topi (y := 1) (h79 4 (by decide)) ?_
  refine Wp.run 10 (50, [(6, .int 1), (5, .int 4), (0, .ref 66), (1, .int 4), (2, .int (nI i)), (3, .int 0), (4, .int x)], [.int (mi 80 12), .ref 66], (zsh ++ vs, mi, ml, (zmr g))) rfl ?_
  refine Wp.topi (y := 50) (h80 12 (by decide)) ?_
  refine Wp.run 0 (50, [(6, .int 1), (5, .int 4), (0, .ref 66), (1, .int 4), (2, .int (nI i)), (3, .int 0), (4, .int x)], [.int 50, .ref 66], (zsh ++ vs, mi, ml, (zmr g))) rfl ?_
  refine Wp.call (as := [.ref 66, .int 50]) (rest := []) rfl rfl rfl rfl rfl (Nat.le_of_ble_eq_true rfl) (Nat.le_of_ble_eq_true rfl) rfl (by decide) (m_body_4 (b := 50) h1) ?_
  rintro _ _ ⟨rfl, rfl⟩
  refine Wp.run 6 (229, [(6, .int 1), (5, .int 4), (0, .ref 66), (1, .int 4), (2, .int (nI i)), (3, .int 0), (4, .int x)], [.int x, .int 0, .int (nI i), .int 1, .ref 66], (zsh ++ vs, (zup (zup mi 81 4 50) 66 24 5), ml, (zmr g))) rfl ?_
  refine Wp.call (as := [.ref 66, .int 1, .int (nI i), .int 0, .int x]) (rest := []) rfl rfl rfl rfl rfl (Nat.le_of_ble_eq_true rfl) (Nat.le_of_ble_eq_true rfl) rfl (by decide) (m_bk_4_1_0_5 (mi := (zup (zup mi 81 4 50) 66 24 5)) (x := x) (i := i) hi rfl h2 h4 h79 h80) ?_
  rintro _ _ ⟨rfl, rfl⟩
  refine Wp.run 1 (233, [(6, .int 1), (5, .int 4), (0, .ref 66), (1, .int 4), (2, .int (nI i)), (3, .int 0), (4, .int x)], [.int (-(x + (nI i)))], (zsh ++ vs, (zup (zup (zup (zup mi 81 4 50) 66 24 5) 81 5 10) 66 24 6), ml, (zmr g))) rfl ?_
  refine Wp.ret rfl rfl rfl ?_
  exact ⟨rfl, rfl⟩
theorem m_al_4_4_0_4 {E : zEn} {vs : List (Nat × Nat)} {mi : Nat → Nat → Int32} {ml : Nat → Nat → Int64} {g : Nat → Nat → Option Nat} {x v : Int32} {i : Nat} (hi : i < 6) (h1 : mi 66 24 = 4) (h2 : mi 67 (8 + 10 * i + 0) = 4) (h4 : mi 67 (8 + 10 * i + 1) = v) (h79 : ∀ k, k < 7 → mi 79 k = zab9.getD k 0) (h80 : ∀ k, k < 21 → mi 80 k = zbo.getD k 0) : Wp E 3 pg_M_all 0 (lv_args 0 [.ref 66, .int (nI i), .int 0, .int x]) [] (zsh ++ vs, mi, ml, (zmr g)) (fun r w' => r = some (.int (-(x + (nI i)))) ∧ w' = (zsh ++ vs, (zup (zup (zup (zup mi 81 4 50) 66 24 5) 81 5 10) 66 24 6), ml, zmr g)) := by
  refine Wp.run 4 (4, [(0, .ref 66), (1, .int (nI i)), (2, .int 0), (3, .int x)], [.int 0, .int (nI i), .ref 66, .ref 66], (zsh ++ vs, mi, ml, (zmr g))) rfl ?_
  refine Wp.call (as := [.ref 66, .int (nI i), .int 0]) (rest := [.ref 66]) rfl rfl rfl rfl rfl (Nat.le_of_ble_eq_true rfl) (Nat.le_of_ble_eq_true rfl) rfl (by decide) (m_one (mi := mi) i 0 (by omega)) ?_
  rintro _ _ ⟨rfl, rfl⟩
  refine Wp.topi (y := 4) (h2) ?_
  refine Wp.run 3 (10, [(0, .ref 66), (1, .int (nI i)), (2, .int 0), (3, .int x)], [.int x, .int 0, .int (nI i), .int 4, .ref 66], (zsh ++ vs, mi, ml, (zmr g))) rfl ?_
  refine Wp.call (as := [.ref 66, .int 4, .int (nI i), .int 0, .int x]) (rest := []) rfl rfl rfl rfl rfl (Nat.le_of_ble_eq_true rfl) (Nat.le_of_ble_eq_true rfl) rfl (by decide) (m_bk_4_4_0_4 hi h1 h2 h4 h79 h80) ?_
  rintro _ _ ⟨rfl, rfl⟩
  refine Wp.run 0 (13, [(0, .ref 66), (1, .int (nI i)), (2, .int 0), (3, .int x)], [.int (-(x + (nI i)))], (zsh ++ vs, (zup (zup (zup (zup mi 81 4 50) 66 24 5) 81 5 10) 66 24 6), ml, (zmr g))) rfl ?_
  refine Wp.ret rfl rfl rfl ?_
  exact ⟨rfl, rfl⟩
theorem m_bk_4_0_1_3 {E : zEn} {vs : List (Nat × Nat)} {mi : Nat → Nat → Int32} {ml : Nat → Nat → Int64} {g : Nat → Nat → Option Nat} {x v : Int32} {i : Nat} (hi : i < 6) (h1 : mi 66 24 = 3) (h2 : mi 67 (8 + 10 * i + 0) = 4) (h4 : mi 67 (8 + 10 * i + 1) = v) (h79 : ∀ k, k < 7 → mi 79 k = zab9.getD k 0) (h80 : ∀ k, k < 21 → mi 80 k = zbo.getD k 0) : Wp E 4 pg_M_byKind 0 (lv_args 0 [.ref 66, .int 0, .int (nI i), .int 1, .int x]) [] (zsh ++ vs, mi, ml, (zmr g)) (fun r w' => r = some (.int ((-(x + (nI i))) - v)) ∧ w' = (zsh ++ vs, (zup (zup (zup (zup (zup (zup mi 81 3 11) 66 24 4) 81 4 50) 66 24 5) 81 5 10) 66 24 6), ml, zmr g)) := by
  refine Wp.run 10 (14, [(5, .int 0), (0, .ref 66), (1, .int 0), (2, .int (nI i)), (3, .int 1), (4, .int x)], [.int (mi 80 1)], (zsh ++ vs, mi, ml, (zmr g))) rfl ?_
  refine Wp.topi (y := 11) (h80 1 (by decide)) ?_
  refine Wp.run 5 (36, [(5, .int 0), (0, .ref 66), (1, .int 0), (2, .int (nI i)), (3, .int 1), (4, .int x)], [.int (mi 79 0)], (zsh ++ vs, mi, ml, (zmr g))) rfl ?_
  refine Wp.topi (y := -1) (h79 0 (by decide)) ?_
  refine Wp.run 10 (50, [(6, .int (-1)), (5, .int 0), (0, .ref 66), (1, .int 0), (2, .int (nI i)), (3, .int 1), (4, .int x)], [.int (mi 80 1), .ref 66], (zsh ++ vs, mi, ml, (zmr g))) rfl ?_
  refine Wp.topi (y := 11) (h80 1 (by decide)) ?_
  refine Wp.run 0 (50, [(6, .int (-1)), (5, .int 0), (0, .ref 66), (1, .int 0), (2, .int (nI i)), (3, .int 1), (4, .int x)], [.int 11, .ref 66], (zsh ++ vs, mi, ml, (zmr g))) rfl ?_
  refine Wp.call (as := [.ref 66, .int 11]) (rest := []) rfl rfl rfl rfl rfl (Nat.le_of_ble_eq_true rfl) (Nat.le_of_ble_eq_true rfl) rfl (by decide) (m_body_3 (b := 11) h1) ?_
  rintro _ _ ⟨rfl, rfl⟩
  refine Wp.run 5 (154, [(6, .int (-1)), (5, .int 0), (0, .ref 66), (1, .int 0), (2, .int (nI i)), (3, .int 1), (4, .int x)], [.int x, .int 0, .int (nI i), .ref 66], (zsh ++ vs, (zup (zup mi 81 3 11) 66 24 4), ml, (zmr g))) rfl ?_
  refine Wp.call (as := [.ref 66, .int (nI i), .int 0, .int x]) (rest := []) rfl rfl rfl rfl rfl (Nat.le_of_ble_eq_true rfl) (Nat.le_of_ble_eq_true rfl) rfl (by decide) (m_al_4_4_0_4 (mi := (zup (zup mi 81 3 11) 66 24 4)) (x := x) (i := i) hi rfl h2 h4 h79 h80) ?_
  rintro _ _ ⟨rfl, rfl⟩
  refine Wp.run 3 (160, [(6, .int (-1)), (5, .int 0), (0, .ref 66), (1, .int 0), (2, .int (nI i)), (3, .int 1), (4, .int x)], [.int 1, .int (nI i), .ref 66, .int (-(x + (nI i)))], (zsh ++ vs, (zup (zup (zup (zup (zup (zup mi 81 3 11) 66 24 4) 81 4 50) 66 24 5) 81 5 10) 66 24 6), ml, (zmr g))) rfl ?_
  refine Wp.call (as := [.ref 66, .int (nI i), .int 1]) (rest := [.int (-(x + (nI i)))]) rfl rfl rfl rfl rfl (Nat.le_of_ble_eq_true rfl) (Nat.le_of_ble_eq_true rfl) rfl (by decide) (m_one (mi := (zup (zup (zup (zup (zup (zup mi 81 3 11) 66 24 4) 81 4 50) 66 24 5) 81 5 10) 66 24 6)) i 1 (by omega)) ?_
  rintro _ _ ⟨rfl, rfl⟩
  refine Wp.topi (y := v) (h4) ?_
  refine Wp.run 1 (164, [(6, .int (-1)), (5, .int 0), (0, .ref 66), (1, .int 0), (2, .int (nI i)), (3, .int 1), (4, .int x)], [.int ((-(x + (nI i))) - v)], (zsh ++ vs, (zup (zup (zup (zup (zup (zup mi 81 3 11) 66 24 4) 81 4 50) 66 24 5) 81 5 10) 66 24 6), ml, (zmr g))) rfl ?_
  refine Wp.ret rfl rfl rfl ?_
  exact ⟨rfl, rfl⟩
theorem m_bk_4_1_1_2 {E : zEn} {vs : List (Nat × Nat)} {mi : Nat → Nat → Int32} {ml : Nat → Nat → Int64} {g : Nat → Nat → Option Nat} {x v : Int32} {i : Nat} (hi : i < 6) (h1 : mi 66 24 = 2) (h2 : mi 67 (8 + 10 * i + 0) = 4) (h4 : mi 67 (8 + 10 * i + 1) = v) (h79 : ∀ k, k < 7 → mi 79 k = zab9.getD k 0) (h80 : ∀ k, k < 21 → mi 80 k = zbo.getD k 0) : Wp E 5 pg_M_byKind 0 (lv_args 0 [.ref 66, .int 1, .int (nI i), .int 1, .int x]) [] (zsh ++ vs, mi, ml, (zmr g)) (fun r w' => r = some (.int (((-(x + (nI i))) - v) ^^^ 6)) ∧ w' = (zsh ++ vs, (zup (zup (zup (zup (zup (zup (zup (zup mi 81 2 20) 66 24 3) 81 3 11) 66 24 4) 81 4 50) 66 24 5) 81 5 10) 66 24 6), ml, zmr g)) := by
  refine Wp.run 10 (14, [(5, .int 1), (0, .ref 66), (1, .int 1), (2, .int (nI i)), (3, .int 1), (4, .int x)], [.int (mi 80 4)], (zsh ++ vs, mi, ml, (zmr g))) rfl ?_
  refine Wp.topi (y := 20) (h80 4 (by decide)) ?_
  refine Wp.run 5 (36, [(5, .int 1), (0, .ref 66), (1, .int 1), (2, .int (nI i)), (3, .int 1), (4, .int x)], [.int (mi 79 1)], (zsh ++ vs, mi, ml, (zmr g))) rfl ?_
  refine Wp.topi (y := 0) (h79 1 (by decide)) ?_
  refine Wp.run 10 (50, [(6, .int 0), (5, .int 1), (0, .ref 66), (1, .int 1), (2, .int (nI i)), (3, .int 1), (4, .int x)], [.int (mi 80 4), .ref 66], (zsh ++ vs, mi, ml, (zmr g))) rfl ?_
  refine Wp.topi (y := 20) (h80 4 (by decide)) ?_
  refine Wp.run 0 (50, [(6, .int 0), (5, .int 1), (0, .ref 66), (1, .int 1), (2, .int (nI i)), (3, .int 1), (4, .int x)], [.int 20, .ref 66], (zsh ++ vs, mi, ml, (zmr g))) rfl ?_
  refine Wp.call (as := [.ref 66, .int 20]) (rest := []) rfl rfl rfl rfl rfl (Nat.le_of_ble_eq_true rfl) (Nat.le_of_ble_eq_true rfl) rfl (by decide) (m_body_2 (b := 20) h1) ?_
  rintro _ _ ⟨rfl, rfl⟩
  refine Wp.run 6 (183, [(6, .int 0), (5, .int 1), (0, .ref 66), (1, .int 1), (2, .int (nI i)), (3, .int 1), (4, .int x)], [.int x, .int 1, .int (nI i), .int 0, .ref 66], (zsh ++ vs, (zup (zup mi 81 2 20) 66 24 3), ml, (zmr g))) rfl ?_
  refine Wp.call (as := [.ref 66, .int 0, .int (nI i), .int 1, .int x]) (rest := []) rfl rfl rfl rfl rfl (Nat.le_of_ble_eq_true rfl) (Nat.le_of_ble_eq_true rfl) rfl (by decide) (m_bk_4_0_1_3 (mi := (zup (zup mi 81 2 20) 66 24 3)) (x := x) (i := i) hi rfl h2 h4 h79 h80) ?_
  rintro _ _ ⟨rfl, rfl⟩
  refine Wp.run 2 (189, [(6, .int 0), (5, .int 1), (0, .ref 66), (1, .int 1), (2, .int (nI i)), (3, .int 1), (4, .int x)], [.int (((-(x + (nI i))) - v) ^^^ 6)], (zsh ++ vs, (zup (zup (zup (zup (zup (zup (zup (zup mi 81 2 20) 66 24 3) 81 3 11) 66 24 4) 81 4 50) 66 24 5) 81 5 10) 66 24 6), ml, (zmr g))) rfl ?_
  refine Wp.ret rfl rfl rfl ?_
  exact ⟨rfl, rfl⟩
theorem m_bk_4_4_1_1 {E : zEn} {vs : List (Nat × Nat)} {mi : Nat → Nat → Int32} {ml : Nat → Nat → Int64} {g : Nat → Nat → Option Nat} {x v : Int32} {i : Nat} (hi : i < 6) (h1 : mi 66 24 = 1) (h2 : mi 67 (8 + 10 * i + 0) = 4) (h4 : mi 67 (8 + 10 * i + 1) = v) (h79 : ∀ k, k < 7 → mi 79 k = zab9.getD k 0) (h80 : ∀ k, k < 21 → mi 80 k = zbo.getD k 0) : Wp E 6 pg_M_byKind 0 (lv_args 0 [.ref 66, .int 4, .int (nI i), .int 1, .int x]) [] (zsh ++ vs, mi, ml, (zmr g)) (fun r w' => r = some (.int ((((-((x + 1) + (nI i))) - v) ^^^ 6))) ∧ w' = (zsh ++ vs, (zup (zup (zup (zup (zup (zup (zup (zup (zup (zup mi 81 1 51) 66 24 2) 81 2 20) 66 24 3) 81 3 11) 66 24 4) 81 4 50) 66 24 5) 81 5 10) 66 24 6), ml, zmr g)) := by
  refine Wp.run 10 (14, [(5, .int 4), (0, .ref 66), (1, .int 4), (2, .int (nI i)), (3, .int 1), (4, .int x)], [.int (mi 80 13)], (zsh ++ vs, mi, ml, (zmr g))) rfl ?_
  refine Wp.topi (y := 51) (h80 13 (by decide)) ?_
  refine Wp.run 5 (36, [(5, .int 4), (0, .ref 66), (1, .int 4), (2, .int (nI i)), (3, .int 1), (4, .int x)], [.int (mi 79 4)], (zsh ++ vs, mi, ml, (zmr g))) rfl ?_
  refine Wp.topi (y := 1) (h79 4 (by decide)) ?_
  refine Wp.run 10 (50, [(6, .int 1), (5, .int 4), (0, .ref 66), (1, .int 4), (2, .int (nI i)), (3, .int 1), (4, .int x)], [.int (mi 80 13), .ref 66], (zsh ++ vs, mi, ml, (zmr g))) rfl ?_
  refine Wp.topi (y := 51) (h80 13 (by decide)) ?_
  refine Wp.run 0 (50, [(6, .int 1), (5, .int 4), (0, .ref 66), (1, .int 4), (2, .int (nI i)), (3, .int 1), (4, .int x)], [.int 51, .ref 66], (zsh ++ vs, mi, ml, (zmr g))) rfl ?_
  refine Wp.call (as := [.ref 66, .int 51]) (rest := []) rfl rfl rfl rfl rfl (Nat.le_of_ble_eq_true rfl) (Nat.le_of_ble_eq_true rfl) rfl (by decide) (m_body_1 (b := 51) h1) ?_
  rintro _ _ ⟨rfl, rfl⟩
  refine Wp.run 8 (243, [(6, .int 1), (5, .int 4), (0, .ref 66), (1, .int 4), (2, .int (nI i)), (3, .int 1), (4, .int x)], [.int (x + 1), .int 1, .int (nI i), .int 1, .ref 66], (zsh ++ vs, (zup (zup mi 81 1 51) 66 24 2), ml, (zmr g))) rfl ?_
  refine Wp.call (as := [.ref 66, .int 1, .int (nI i), .int 1, .int (x + 1)]) (rest := []) rfl rfl rfl rfl rfl (Nat.le_of_ble_eq_true rfl) (Nat.le_of_ble_eq_true rfl) rfl (by decide) (m_bk_4_1_1_2 (mi := (zup (zup mi 81 1 51) 66 24 2)) (x := (x + 1)) (i := i) hi rfl h2 h4 h79 h80) ?_
  rintro _ _ ⟨rfl, rfl⟩
  refine Wp.run 0 (246, [(6, .int 1), (5, .int 4), (0, .ref 66), (1, .int 4), (2, .int (nI i)), (3, .int 1), (4, .int x)], [.int (((-((x + 1) + (nI i))) - v) ^^^ 6)], (zsh ++ vs, (zup (zup (zup (zup (zup (zup (zup (zup (zup (zup mi 81 1 51) 66 24 2) 81 2 20) 66 24 3) 81 3 11) 66 24 4) 81 4 50) 66 24 5) 81 5 10) 66 24 6), ml, (zmr g))) rfl ?_
  refine Wp.ret rfl rfl rfl ?_
  exact ⟨rfl, rfl⟩
theorem m_al_4_4_1_1 {E : zEn} {vs : List (Nat × Nat)} {mi : Nat → Nat → Int32} {ml : Nat → Nat → Int64} {g : Nat → Nat → Option Nat} {x v : Int32} {i : Nat} (hi : i < 6) (h1 : mi 66 24 = 1) (h2 : mi 67 (8 + 10 * i + 0) = 4) (h4 : mi 67 (8 + 10 * i + 1) = v) (h79 : ∀ k, k < 7 → mi 79 k = zab9.getD k 0) (h80 : ∀ k, k < 21 → mi 80 k = zbo.getD k 0) : Wp E 7 pg_M_all 0 (lv_args 0 [.ref 66, .int (nI i), .int 1, .int x]) [] (zsh ++ vs, mi, ml, (zmr g)) (fun r w' => r = some (.int ((((-((x + 1) + (nI i))) - v) ^^^ 6))) ∧ w' = (zsh ++ vs, (zup (zup (zup (zup (zup (zup (zup (zup (zup (zup mi 81 1 51) 66 24 2) 81 2 20) 66 24 3) 81 3 11) 66 24 4) 81 4 50) 66 24 5) 81 5 10) 66 24 6), ml, zmr g)) := by
  refine Wp.run 4 (4, [(0, .ref 66), (1, .int (nI i)), (2, .int 1), (3, .int x)], [.int 0, .int (nI i), .ref 66, .ref 66], (zsh ++ vs, mi, ml, (zmr g))) rfl ?_
  refine Wp.call (as := [.ref 66, .int (nI i), .int 0]) (rest := [.ref 66]) rfl rfl rfl rfl rfl (Nat.le_of_ble_eq_true rfl) (Nat.le_of_ble_eq_true rfl) rfl (by decide) (m_one (mi := mi) i 0 (by omega)) ?_
  rintro _ _ ⟨rfl, rfl⟩
  refine Wp.topi (y := 4) (h2) ?_
  refine Wp.run 3 (10, [(0, .ref 66), (1, .int (nI i)), (2, .int 1), (3, .int x)], [.int x, .int 1, .int (nI i), .int 4, .ref 66], (zsh ++ vs, mi, ml, (zmr g))) rfl ?_
  refine Wp.call (as := [.ref 66, .int 4, .int (nI i), .int 1, .int x]) (rest := []) rfl rfl rfl rfl rfl (Nat.le_of_ble_eq_true rfl) (Nat.le_of_ble_eq_true rfl) rfl (by decide) (m_bk_4_4_1_1 hi h1 h2 h4 h79 h80) ?_
  rintro _ _ ⟨rfl, rfl⟩
  refine Wp.run 0 (13, [(0, .ref 66), (1, .int (nI i)), (2, .int 1), (3, .int x)], [.int (((-((x + 1) + (nI i))) - v) ^^^ 6)], (zsh ++ vs, (zup (zup (zup (zup (zup (zup (zup (zup (zup (zup mi 81 1 51) 66 24 2) 81 2 20) 66 24 3) 81 3 11) 66 24 4) 81 4 50) 66 24 5) 81 5 10) 66 24 6), ml, (zmr g))) rfl ?_
  refine Wp.ret rfl rfl rfl ?_
  exact ⟨rfl, rfl⟩
theorem m_bk_4_4_2_0 {E : zEn} {vs : List (Nat × Nat)} {mi : Nat → Nat → Int32} {ml : Nat → Nat → Int64} {g : Nat → Nat → Option Nat} {x v : Int32} {i : Nat} (hi : i < 6) (h1 : mi 66 24 = 0) (h2 : mi 67 (8 + 10 * i + 0) = 4) (h4 : mi 67 (8 + 10 * i + 1) = v) (h79 : ∀ k, k < 7 → mi 79 k = zab9.getD k 0) (h80 : ∀ k, k < 21 → mi 80 k = zbo.getD k 0) : Wp E 8 pg_M_byKind 0 (lv_args 0 [.ref 66, .int 4, .int (nI i), .int 2, .int x]) [] (zsh ++ vs, mi, ml, (zmr g)) (fun r w' => r = some (.int ((((-((x + 1) + (nI i))) - v) ^^^ 6) * 2)) ∧ w' = (zsh ++ vs, (zup (zup (zup (zup (zup (zup (zup (zup (zup (zup (zup (zup mi 81 0 12) 66 24 1) 81 1 51) 66 24 2) 81 2 20) 66 24 3) 81 3 11) 66 24 4) 81 4 50) 66 24 5) 81 5 10) 66 24 6), ml, zmr g)) := by
  refine Wp.run 10 (14, [(5, .int 4), (0, .ref 66), (1, .int 4), (2, .int (nI i)), (3, .int 2), (4, .int x)], [.int (mi 80 14)], (zsh ++ vs, mi, ml, (zmr g))) rfl ?_
  refine Wp.topi (y := 0) (h80 14 (by decide)) ?_
  refine Wp.run 5 (24, [(5, .int 4), (0, .ref 66), (1, .int 4), (2, .int (nI i)), (3, .int 2), (4, .int x)], [.int (mi 79 4)], (zsh ++ vs, mi, ml, (zmr g))) rfl ?_
  refine Wp.topi (y := 1) (h79 4 (by decide)) ?_
  refine Wp.run 2 (3, [(5, .int 1), (0, .ref 66), (1, .int 4), (2, .int (nI i)), (3, .int 2), (4, .int x)], [], (zsh ++ vs, mi, ml, (zmr g))) rfl ?_
  refine Wp.run 8 (14, [(5, .int 1), (0, .ref 66), (1, .int 4), (2, .int (nI i)), (3, .int 2), (4, .int x)], [.int (mi 80 5)], (zsh ++ vs, mi, ml, (zmr g))) rfl ?_
  refine Wp.topi (y := 0) (h80 5 (by decide)) ?_
  refine Wp.run 5 (24, [(5, .int 1), (0, .ref 66), (1, .int 4), (2, .int (nI i)), (3, .int 2), (4, .int x)], [.int (mi 79 1)], (zsh ++ vs, mi, ml, (zmr g))) rfl ?_
  refine Wp.topi (y := 0) (h79 1 (by decide)) ?_
  refine Wp.run 2 (3, [(5, .int 0), (0, .ref 66), (1, .int 4), (2, .int (nI i)), (3, .int 2), (4, .int x)], [], (zsh ++ vs, mi, ml, (zmr g))) rfl ?_
  refine Wp.run 8 (14, [(5, .int 0), (0, .ref 66), (1, .int 4), (2, .int (nI i)), (3, .int 2), (4, .int x)], [.int (mi 80 2)], (zsh ++ vs, mi, ml, (zmr g))) rfl ?_
  refine Wp.topi (y := 12) (h80 2 (by decide)) ?_
  refine Wp.run 5 (36, [(5, .int 0), (0, .ref 66), (1, .int 4), (2, .int (nI i)), (3, .int 2), (4, .int x)], [.int (mi 79 0)], (zsh ++ vs, mi, ml, (zmr g))) rfl ?_
  refine Wp.topi (y := -1) (h79 0 (by decide)) ?_
  refine Wp.run 10 (50, [(6, .int (-1)), (5, .int 0), (0, .ref 66), (1, .int 4), (2, .int (nI i)), (3, .int 2), (4, .int x)], [.int (mi 80 2), .ref 66], (zsh ++ vs, mi, ml, (zmr g))) rfl ?_
  refine Wp.topi (y := 12) (h80 2 (by decide)) ?_
  refine Wp.run 0 (50, [(6, .int (-1)), (5, .int 0), (0, .ref 66), (1, .int 4), (2, .int (nI i)), (3, .int 2), (4, .int x)], [.int 12, .ref 66], (zsh ++ vs, mi, ml, (zmr g))) rfl ?_
  refine Wp.call (as := [.ref 66, .int 12]) (rest := []) rfl rfl rfl rfl rfl (Nat.le_of_ble_eq_true rfl) (Nat.le_of_ble_eq_true rfl) rfl (by decide) (m_body_0 (b := 12) h1) ?_
  rintro _ _ ⟨rfl, rfl⟩
  refine Wp.run 5 (170, [(6, .int (-1)), (5, .int 0), (0, .ref 66), (1, .int 4), (2, .int (nI i)), (3, .int 2), (4, .int x)], [.int x, .int 1, .int (nI i), .ref 66], (zsh ++ vs, (zup (zup mi 81 0 12) 66 24 1), ml, (zmr g))) rfl ?_
  refine Wp.call (as := [.ref 66, .int (nI i), .int 1, .int x]) (rest := []) rfl rfl rfl rfl rfl (Nat.le_of_ble_eq_true rfl) (Nat.le_of_ble_eq_true rfl) rfl (by decide) (m_al_4_4_1_1 (mi := (zup (zup mi 81 0 12) 66 24 1)) (x := x) (i := i) hi rfl h2 h4 h79 h80) ?_
  rintro _ _ ⟨rfl, rfl⟩
  refine Wp.run 2 (175, [(6, .int (-1)), (5, .int 0), (0, .ref 66), (1, .int 4), (2, .int (nI i)), (3, .int 2), (4, .int x)], [.int ((((-((x + 1) + (nI i))) - v) ^^^ 6) * 2)], (zsh ++ vs, (zup (zup (zup (zup (zup (zup (zup (zup (zup (zup (zup (zup mi 81 0 12) 66 24 1) 81 1 51) 66 24 2) 81 2 20) 66 24 3) 81 3 11) 66 24 4) 81 4 50) 66 24 5) 81 5 10) 66 24 6), ml, (zmr g))) rfl ?_
  refine Wp.ret rfl rfl rfl ?_
  exact ⟨rfl, rfl⟩
theorem m_al_4_4_2_0 {E : zEn} {vs : List (Nat × Nat)} {mi : Nat → Nat → Int32} {ml : Nat → Nat → Int64} {g : Nat → Nat → Option Nat} {x v : Int32} {i : Nat} (hi : i < 6) (h1 : mi 66 24 = 0) (h2 : mi 67 (8 + 10 * i + 0) = 4) (h4 : mi 67 (8 + 10 * i + 1) = v) (h79 : ∀ k, k < 7 → mi 79 k = zab9.getD k 0) (h80 : ∀ k, k < 21 → mi 80 k = zbo.getD k 0) : Wp E 9 pg_M_all 0 (lv_args 0 [.ref 66, .int (nI i), .int 2, .int x]) [] (zsh ++ vs, mi, ml, (zmr g)) (fun r w' => r = some (.int ((((-((x + 1) + (nI i))) - v) ^^^ 6) * 2)) ∧ w' = (zsh ++ vs, (zup (zup (zup (zup (zup (zup (zup (zup (zup (zup (zup (zup mi 81 0 12) 66 24 1) 81 1 51) 66 24 2) 81 2 20) 66 24 3) 81 3 11) 66 24 4) 81 4 50) 66 24 5) 81 5 10) 66 24 6), ml, zmr g)) := by
  refine Wp.run 4 (4, [(0, .ref 66), (1, .int (nI i)), (2, .int 2), (3, .int x)], [.int 0, .int (nI i), .ref 66, .ref 66], (zsh ++ vs, mi, ml, (zmr g))) rfl ?_
  refine Wp.call (as := [.ref 66, .int (nI i), .int 0]) (rest := [.ref 66]) rfl rfl rfl rfl rfl (Nat.le_of_ble_eq_true rfl) (Nat.le_of_ble_eq_true rfl) rfl (by decide) (m_one (mi := mi) i 0 (by omega)) ?_
  rintro _ _ ⟨rfl, rfl⟩
  refine Wp.topi (y := 4) (h2) ?_
  refine Wp.run 3 (10, [(0, .ref 66), (1, .int (nI i)), (2, .int 2), (3, .int x)], [.int x, .int 2, .int (nI i), .int 4, .ref 66], (zsh ++ vs, mi, ml, (zmr g))) rfl ?_
  refine Wp.call (as := [.ref 66, .int 4, .int (nI i), .int 2, .int x]) (rest := []) rfl rfl rfl rfl rfl (Nat.le_of_ble_eq_true rfl) (Nat.le_of_ble_eq_true rfl) rfl (by decide) (m_bk_4_4_2_0 hi h1 h2 h4 h79 h80) ?_
  rintro _ _ ⟨rfl, rfl⟩
  refine Wp.run 0 (13, [(0, .ref 66), (1, .int (nI i)), (2, .int 2), (3, .int x)], [.int ((((-((x + 1) + (nI i))) - v) ^^^ 6) * 2)], (zsh ++ vs, (zup (zup (zup (zup (zup (zup (zup (zup (zup (zup (zup (zup mi 81 0 12) 66 24 1) 81 1 51) 66 24 2) 81 2 20) 66 24 3) 81 3 11) 66 24 4) 81 4 50) 66 24 5) 81 5 10) 66 24 6), ml, (zmr g))) rfl ?_
  refine Wp.ret rfl rfl rfl ?_
  exact ⟨rfl, rfl⟩
theorem m_bk_5_0_0_1 {E : zEn} {vs : List (Nat × Nat)} {mi : Nat → Nat → Int32} {ml : Nat → Nat → Int64} {g : Nat → Nat → Option Nat} {x v : Int32} {i : Nat} (hi : i < 6) (h1 : mi 66 24 = 1) (h2 : mi 67 (8 + 10 * i + 0) = 5) (h4 : mi 67 (8 + 10 * i + 1) = v) (h79 : ∀ k, k < 7 → mi 79 k = zab9.getD k 0) (h80 : ∀ k, k < 21 → mi 80 k = zbo.getD k 0) : Wp E 1 pg_M_byKind 0 (lv_args 0 [.ref 66, .int 0, .int (nI i), .int 0, .int x]) [] (zsh ++ vs, mi, ml, (zmr g)) (fun r w' => r = some (.int (x + (nI i))) ∧ w' = (zsh ++ vs, (zup (zup mi 81 1 10) 66 24 2), ml, zmr g)) := by
  refine Wp.run 10 (14, [(5, .int 0), (0, .ref 66), (1, .int 0), (2, .int (nI i)), (3, .int 0), (4, .int x)], [.int (mi 80 0)], (zsh ++ vs, mi, ml, (zmr g))) rfl ?_
  refine Wp.topi (y := 10) (h80 0 (by decide)) ?_
  refine Wp.run 5 (36, [(5, .int 0), (0, .ref 66), (1, .int 0), (2, .int (nI i)), (3, .int 0), (4, .int x)], [.int (mi 79 0)], (zsh ++ vs, mi, ml, (zmr g))) rfl ?_
  refine Wp.topi (y := -1) (h79 0 (by decide)) ?_
  refine Wp.run 10 (50, [(6, .int (-1)), (5, .int 0), (0, .ref 66), (1, .int 0), (2, .int (nI i)), (3, .int 0), (4, .int x)], [.int (mi 80 0), .ref 66], (zsh ++ vs, mi, ml, (zmr g))) rfl ?_
  refine Wp.topi (y := 10) (h80 0 (by decide)) ?_
  refine Wp.run 0 (50, [(6, .int (-1)), (5, .int 0), (0, .ref 66), (1, .int 0), (2, .int (nI i)), (3, .int 0), (4, .int x)], [.int 10, .ref 66], (zsh ++ vs, mi, ml, (zmr g))) rfl ?_
  refine Wp.call (as := [.ref 66, .int 10]) (rest := []) rfl rfl rfl rfl rfl (Nat.le_of_ble_eq_true rfl) (Nat.le_of_ble_eq_true rfl) rfl (by decide) (m_body_1 (b := 10) h1) ?_
  rintro _ _ ⟨rfl, rfl⟩
  refine Wp.run 4 (148, [(6, .int (-1)), (5, .int 0), (0, .ref 66), (1, .int 0), (2, .int (nI i)), (3, .int 0), (4, .int x)], [.int (x + (nI i))], (zsh ++ vs, (zup (zup mi 81 1 10) 66 24 2), ml, (zmr g))) rfl ?_
  refine Wp.ret rfl rfl rfl ?_
  exact ⟨rfl, rfl⟩
theorem m_bk_5_5_0_0 {E : zEn} {vs : List (Nat × Nat)} {mi : Nat → Nat → Int32} {ml : Nat → Nat → Int64} {g : Nat → Nat → Option Nat} {x v : Int32} {i : Nat} (hi : i < 6) (h1 : mi 66 24 = 0) (h2 : mi 67 (8 + 10 * i + 0) = 5) (h4 : mi 67 (8 + 10 * i + 1) = v) (h79 : ∀ k, k < 7 → mi 79 k = zab9.getD k 0) (h80 : ∀ k, k < 21 → mi 80 k = zbo.getD k 0) : Wp E 2 pg_M_byKind 0 (lv_args 0 [.ref 66, .int 5, .int (nI i), .int 0, .int x]) [] (zsh ++ vs, mi, ml, (zmr g)) (fun r w' => r = some (.int (((x * 3) + (nI i)))) ∧ w' = (zsh ++ vs, (zup (zup (zup (zup mi 81 0 30) 66 24 1) 81 1 10) 66 24 2), ml, zmr g)) := by
  refine Wp.run 10 (14, [(5, .int 5), (0, .ref 66), (1, .int 5), (2, .int (nI i)), (3, .int 0), (4, .int x)], [.int (mi 80 15)], (zsh ++ vs, mi, ml, (zmr g))) rfl ?_
  refine Wp.topi (y := 0) (h80 15 (by decide)) ?_
  refine Wp.run 5 (24, [(5, .int 5), (0, .ref 66), (1, .int 5), (2, .int (nI i)), (3, .int 0), (4, .int x)], [.int (mi 79 5)], (zsh ++ vs, mi, ml, (zmr g))) rfl ?_
  refine Wp.topi (y := 2) (h79 5 (by decide)) ?_
  refine Wp.run 2 (3, [(5, .int 2), (0, .ref 66), (1, .int 5), (2, .int (nI i)), (3, .int 0), (4, .int x)], [], (zsh ++ vs, mi, ml, (zmr g))) rfl ?_
  refine Wp.run 8 (14, [(5, .int 2), (0, .ref 66), (1, .int 5), (2, .int (nI i)), (3, .int 0), (4, .int x)], [.int (mi 80 6)], (zsh ++ vs, mi, ml, (zmr g))) rfl ?_
  refine Wp.topi (y := 30) (h80 6 (by decide)) ?_
  refine Wp.run 5 (36, [(5, .int 2), (0, .ref 66), (1, .int 5), (2, .int (nI i)), (3, .int 0), (4, .int x)], [.int (mi 79 2)], (zsh ++ vs, mi, ml, (zmr g))) rfl ?_
  refine Wp.topi (y := 0) (h79 2 (by decide)) ?_
  refine Wp.run 10 (50, [(6, .int 0), (5, .int 2), (0, .ref 66), (1, .int 5), (2, .int (nI i)), (3, .int 0), (4, .int x)], [.int (mi 80 6), .ref 66], (zsh ++ vs, mi, ml, (zmr g))) rfl ?_
  refine Wp.topi (y := 30) (h80 6 (by decide)) ?_
  refine Wp.run 0 (50, [(6, .int 0), (5, .int 2), (0, .ref 66), (1, .int 5), (2, .int (nI i)), (3, .int 0), (4, .int x)], [.int 30, .ref 66], (zsh ++ vs, mi, ml, (zmr g))) rfl ?_
  refine Wp.call (as := [.ref 66, .int 30]) (rest := []) rfl rfl rfl rfl rfl (Nat.le_of_ble_eq_true rfl) (Nat.le_of_ble_eq_true rfl) rfl (by decide) (m_body_0 (b := 30) h1) ?_
  rintro _ _ ⟨rfl, rfl⟩
  refine Wp.run 8 (199, [(6, .int 0), (5, .int 2), (0, .ref 66), (1, .int 5), (2, .int (nI i)), (3, .int 0), (4, .int x)], [.int (x * 3), .int 0, .int (nI i), .int 0, .ref 66], (zsh ++ vs, (zup (zup mi 81 0 30) 66 24 1), ml, (zmr g))) rfl ?_
  refine Wp.call (as := [.ref 66, .int 0, .int (nI i), .int 0, .int (x * 3)]) (rest := []) rfl rfl rfl rfl rfl (Nat.le_of_ble_eq_true rfl) (Nat.le_of_ble_eq_true rfl) rfl (by decide) (m_bk_5_0_0_1 (mi := (zup (zup mi 81 0 30) 66 24 1)) (x := (x * 3)) (i := i) hi rfl h2 h4 h79 h80) ?_
  rintro _ _ ⟨rfl, rfl⟩
  refine Wp.run 0 (202, [(6, .int 0), (5, .int 2), (0, .ref 66), (1, .int 5), (2, .int (nI i)), (3, .int 0), (4, .int x)], [.int ((x * 3) + (nI i))], (zsh ++ vs, (zup (zup (zup (zup mi 81 0 30) 66 24 1) 81 1 10) 66 24 2), ml, (zmr g))) rfl ?_
  refine Wp.ret rfl rfl rfl ?_
  exact ⟨rfl, rfl⟩
theorem m_al_5_5_0_0 {E : zEn} {vs : List (Nat × Nat)} {mi : Nat → Nat → Int32} {ml : Nat → Nat → Int64} {g : Nat → Nat → Option Nat} {x v : Int32} {i : Nat} (hi : i < 6) (h1 : mi 66 24 = 0) (h2 : mi 67 (8 + 10 * i + 0) = 5) (h4 : mi 67 (8 + 10 * i + 1) = v) (h79 : ∀ k, k < 7 → mi 79 k = zab9.getD k 0) (h80 : ∀ k, k < 21 → mi 80 k = zbo.getD k 0) : Wp E 3 pg_M_all 0 (lv_args 0 [.ref 66, .int (nI i), .int 0, .int x]) [] (zsh ++ vs, mi, ml, (zmr g)) (fun r w' => r = some (.int (((x * 3) + (nI i)))) ∧ w' = (zsh ++ vs, (zup (zup (zup (zup mi 81 0 30) 66 24 1) 81 1 10) 66 24 2), ml, zmr g)) := by
  refine Wp.run 4 (4, [(0, .ref 66), (1, .int (nI i)), (2, .int 0), (3, .int x)], [.int 0, .int (nI i), .ref 66, .ref 66], (zsh ++ vs, mi, ml, (zmr g))) rfl ?_
  refine Wp.call (as := [.ref 66, .int (nI i), .int 0]) (rest := [.ref 66]) rfl rfl rfl rfl rfl (Nat.le_of_ble_eq_true rfl) (Nat.le_of_ble_eq_true rfl) rfl (by decide) (m_one (mi := mi) i 0 (by omega)) ?_
  rintro _ _ ⟨rfl, rfl⟩
  refine Wp.topi (y := 5) (h2) ?_
  refine Wp.run 3 (10, [(0, .ref 66), (1, .int (nI i)), (2, .int 0), (3, .int x)], [.int x, .int 0, .int (nI i), .int 5, .ref 66], (zsh ++ vs, mi, ml, (zmr g))) rfl ?_
  refine Wp.call (as := [.ref 66, .int 5, .int (nI i), .int 0, .int x]) (rest := []) rfl rfl rfl rfl rfl (Nat.le_of_ble_eq_true rfl) (Nat.le_of_ble_eq_true rfl) rfl (by decide) (m_bk_5_5_0_0 hi h1 h2 h4 h79 h80) ?_
  rintro _ _ ⟨rfl, rfl⟩
  refine Wp.run 0 (13, [(0, .ref 66), (1, .int (nI i)), (2, .int 0), (3, .int x)], [.int ((x * 3) + (nI i))], (zsh ++ vs, (zup (zup (zup (zup mi 81 0 30) 66 24 1) 81 1 10) 66 24 2), ml, (zmr g))) rfl ?_
  refine Wp.ret rfl rfl rfl ?_
  exact ⟨rfl, rfl⟩
theorem m_bk_5_0_0_2 {E : zEn} {vs : List (Nat × Nat)} {mi : Nat → Nat → Int32} {ml : Nat → Nat → Int64} {g : Nat → Nat → Option Nat} {x v : Int32} {i : Nat} (hi : i < 6) (h1 : mi 66 24 = 2) (h2 : mi 67 (8 + 10 * i + 0) = 5) (h4 : mi 67 (8 + 10 * i + 1) = v) (h79 : ∀ k, k < 7 → mi 79 k = zab9.getD k 0) (h80 : ∀ k, k < 21 → mi 80 k = zbo.getD k 0) : Wp E 1 pg_M_byKind 0 (lv_args 0 [.ref 66, .int 0, .int (nI i), .int 0, .int x]) [] (zsh ++ vs, mi, ml, (zmr g)) (fun r w' => r = some (.int (x + (nI i))) ∧ w' = (zsh ++ vs, (zup (zup mi 81 2 10) 66 24 3), ml, zmr g)) := by
  refine Wp.run 10 (14, [(5, .int 0), (0, .ref 66), (1, .int 0), (2, .int (nI i)), (3, .int 0), (4, .int x)], [.int (mi 80 0)], (zsh ++ vs, mi, ml, (zmr g))) rfl ?_
  refine Wp.topi (y := 10) (h80 0 (by decide)) ?_
  refine Wp.run 5 (36, [(5, .int 0), (0, .ref 66), (1, .int 0), (2, .int (nI i)), (3, .int 0), (4, .int x)], [.int (mi 79 0)], (zsh ++ vs, mi, ml, (zmr g))) rfl ?_
  refine Wp.topi (y := -1) (h79 0 (by decide)) ?_
  refine Wp.run 10 (50, [(6, .int (-1)), (5, .int 0), (0, .ref 66), (1, .int 0), (2, .int (nI i)), (3, .int 0), (4, .int x)], [.int (mi 80 0), .ref 66], (zsh ++ vs, mi, ml, (zmr g))) rfl ?_
  refine Wp.topi (y := 10) (h80 0 (by decide)) ?_
  refine Wp.run 0 (50, [(6, .int (-1)), (5, .int 0), (0, .ref 66), (1, .int 0), (2, .int (nI i)), (3, .int 0), (4, .int x)], [.int 10, .ref 66], (zsh ++ vs, mi, ml, (zmr g))) rfl ?_
  refine Wp.call (as := [.ref 66, .int 10]) (rest := []) rfl rfl rfl rfl rfl (Nat.le_of_ble_eq_true rfl) (Nat.le_of_ble_eq_true rfl) rfl (by decide) (m_body_2 (b := 10) h1) ?_
  rintro _ _ ⟨rfl, rfl⟩
  refine Wp.run 4 (148, [(6, .int (-1)), (5, .int 0), (0, .ref 66), (1, .int 0), (2, .int (nI i)), (3, .int 0), (4, .int x)], [.int (x + (nI i))], (zsh ++ vs, (zup (zup mi 81 2 10) 66 24 3), ml, (zmr g))) rfl ?_
  refine Wp.ret rfl rfl rfl ?_
  exact ⟨rfl, rfl⟩
theorem m_bk_5_5_0_1 {E : zEn} {vs : List (Nat × Nat)} {mi : Nat → Nat → Int32} {ml : Nat → Nat → Int64} {g : Nat → Nat → Option Nat} {x v : Int32} {i : Nat} (hi : i < 6) (h1 : mi 66 24 = 1) (h2 : mi 67 (8 + 10 * i + 0) = 5) (h4 : mi 67 (8 + 10 * i + 1) = v) (h79 : ∀ k, k < 7 → mi 79 k = zab9.getD k 0) (h80 : ∀ k, k < 21 → mi 80 k = zbo.getD k 0) : Wp E 2 pg_M_byKind 0 (lv_args 0 [.ref 66, .int 5, .int (nI i), .int 0, .int x]) [] (zsh ++ vs, mi, ml, (zmr g)) (fun r w' => r = some (.int (((x * 3) + (nI i)))) ∧ w' = (zsh ++ vs, (zup (zup (zup (zup mi 81 1 30) 66 24 2) 81 2 10) 66 24 3), ml, zmr g)) := by
  refine Wp.run 10 (14, [(5, .int 5), (0, .ref 66), (1, .int 5), (2, .int (nI i)), (3, .int 0), (4, .int x)], [.int (mi 80 15)], (zsh ++ vs, mi, ml, (zmr g))) rfl ?_
  refine Wp.topi (y := 0) (h80 15 (by decide)) ?_
  refine Wp.run 5 (24, [(5, .int 5), (0, .ref 66), (1, .int 5), (2, .int (nI i)), (3, .int 0), (4, .int x)], [.int (mi 79 5)], (zsh ++ vs, mi, ml, (zmr g))) rfl ?_
  refine Wp.topi (y := 2) (h79 5 (by decide)) ?_
  refine Wp.run 2 (3, [(5, .int 2), (0, .ref 66), (1, .int 5), (2, .int (nI i)), (3, .int 0), (4, .int x)], [], (zsh ++ vs, mi, ml, (zmr g))) rfl ?_
  refine Wp.run 8 (14, [(5, .int 2), (0, .ref 66), (1, .int 5), (2, .int (nI i)), (3, .int 0), (4, .int x)], [.int (mi 80 6)], (zsh ++ vs, mi, ml, (zmr g))) rfl ?_
  refine Wp.topi (y := 30) (h80 6 (by decide)) ?_
  refine Wp.run 5 (36, [(5, .int 2), (0, .ref 66), (1, .int 5), (2, .int (nI i)), (3, .int 0), (4, .int x)], [.int (mi 79 2)], (zsh ++ vs, mi, ml, (zmr g))) rfl ?_
  refine Wp.topi (y := 0) (h79 2 (by decide)) ?_
  refine Wp.run 10 (50, [(6, .int 0), (5, .int 2), (0, .ref 66), (1, .int 5), (2, .int (nI i)), (3, .int 0), (4, .int x)], [.int (mi 80 6), .ref 66], (zsh ++ vs, mi, ml, (zmr g))) rfl ?_
  refine Wp.topi (y := 30) (h80 6 (by decide)) ?_
  refine Wp.run 0 (50, [(6, .int 0), (5, .int 2), (0, .ref 66), (1, .int 5), (2, .int (nI i)), (3, .int 0), (4, .int x)], [.int 30, .ref 66], (zsh ++ vs, mi, ml, (zmr g))) rfl ?_
  refine Wp.call (as := [.ref 66, .int 30]) (rest := []) rfl rfl rfl rfl rfl (Nat.le_of_ble_eq_true rfl) (Nat.le_of_ble_eq_true rfl) rfl (by decide) (m_body_1 (b := 30) h1) ?_
  rintro _ _ ⟨rfl, rfl⟩
  refine Wp.run 8 (199, [(6, .int 0), (5, .int 2), (0, .ref 66), (1, .int 5), (2, .int (nI i)), (3, .int 0), (4, .int x)], [.int (x * 3), .int 0, .int (nI i), .int 0, .ref 66], (zsh ++ vs, (zup (zup mi 81 1 30) 66 24 2), ml, (zmr g))) rfl ?_
  refine Wp.call (as := [.ref 66, .int 0, .int (nI i), .int 0, .int (x * 3)]) (rest := []) rfl rfl rfl rfl rfl (Nat.le_of_ble_eq_true rfl) (Nat.le_of_ble_eq_true rfl) rfl (by decide) (m_bk_5_0_0_2 (mi := (zup (zup mi 81 1 30) 66 24 2)) (x := (x * 3)) (i := i) hi rfl h2 h4 h79 h80) ?_
  rintro _ _ ⟨rfl, rfl⟩
  refine Wp.run 0 (202, [(6, .int 0), (5, .int 2), (0, .ref 66), (1, .int 5), (2, .int (nI i)), (3, .int 0), (4, .int x)], [.int ((x * 3) + (nI i))], (zsh ++ vs, (zup (zup (zup (zup mi 81 1 30) 66 24 2) 81 2 10) 66 24 3), ml, (zmr g))) rfl ?_
  refine Wp.ret rfl rfl rfl ?_
  exact ⟨rfl, rfl⟩
theorem m_al_5_5_0_1 {E : zEn} {vs : List (Nat × Nat)} {mi : Nat → Nat → Int32} {ml : Nat → Nat → Int64} {g : Nat → Nat → Option Nat} {x v : Int32} {i : Nat} (hi : i < 6) (h1 : mi 66 24 = 1) (h2 : mi 67 (8 + 10 * i + 0) = 5) (h4 : mi 67 (8 + 10 * i + 1) = v) (h79 : ∀ k, k < 7 → mi 79 k = zab9.getD k 0) (h80 : ∀ k, k < 21 → mi 80 k = zbo.getD k 0) : Wp E 3 pg_M_all 0 (lv_args 0 [.ref 66, .int (nI i), .int 0, .int x]) [] (zsh ++ vs, mi, ml, (zmr g)) (fun r w' => r = some (.int (((x * 3) + (nI i)))) ∧ w' = (zsh ++ vs, (zup (zup (zup (zup mi 81 1 30) 66 24 2) 81 2 10) 66 24 3), ml, zmr g)) := by
  refine Wp.run 4 (4, [(0, .ref 66), (1, .int (nI i)), (2, .int 0), (3, .int x)], [.int 0, .int (nI i), .ref 66, .ref 66], (zsh ++ vs, mi, ml, (zmr g))) rfl ?_
  refine Wp.call (as := [.ref 66, .int (nI i), .int 0]) (rest := [.ref 66]) rfl rfl rfl rfl rfl (Nat.le_of_ble_eq_true rfl) (Nat.le_of_ble_eq_true rfl) rfl (by decide) (m_one (mi := mi) i 0 (by omega)) ?_
  rintro _ _ ⟨rfl, rfl⟩
  refine Wp.topi (y := 5) (h2) ?_
  refine Wp.run 3 (10, [(0, .ref 66), (1, .int (nI i)), (2, .int 0), (3, .int x)], [.int x, .int 0, .int (nI i), .int 5, .ref 66], (zsh ++ vs, mi, ml, (zmr g))) rfl ?_
  refine Wp.call (as := [.ref 66, .int 5, .int (nI i), .int 0, .int x]) (rest := []) rfl rfl rfl rfl rfl (Nat.le_of_ble_eq_true rfl) (Nat.le_of_ble_eq_true rfl) rfl (by decide) (m_bk_5_5_0_1 hi h1 h2 h4 h79 h80) ?_
  rintro _ _ ⟨rfl, rfl⟩
  refine Wp.run 0 (13, [(0, .ref 66), (1, .int (nI i)), (2, .int 0), (3, .int x)], [.int ((x * 3) + (nI i))], (zsh ++ vs, (zup (zup (zup (zup mi 81 1 30) 66 24 2) 81 2 10) 66 24 3), ml, (zmr g))) rfl ?_
  refine Wp.ret rfl rfl rfl ?_
  exact ⟨rfl, rfl⟩
theorem m_bk_5_5_1_0 {E : zEn} {vs : List (Nat × Nat)} {mi : Nat → Nat → Int32} {ml : Nat → Nat → Int64} {g : Nat → Nat → Option Nat} {x v : Int32} {i : Nat} (hi : i < 6) (h1 : mi 66 24 = 0) (h2 : mi 67 (8 + 10 * i + 0) = 5) (h4 : mi 67 (8 + 10 * i + 1) = v) (h79 : ∀ k, k < 7 → mi 79 k = zab9.getD k 0) (h80 : ∀ k, k < 21 → mi 80 k = zbo.getD k 0) : Wp E 4 pg_M_byKind 0 (lv_args 0 [.ref 66, .int 5, .int (nI i), .int 1, .int x]) [] (zsh ++ vs, mi, ml, (zmr g)) (fun r w' => r = some (.int (((x * 3) + (nI i)) - v)) ∧ w' = (zsh ++ vs, (zup (zup (zup (zup (zup (zup mi 81 0 11) 66 24 1) 81 1 30) 66 24 2) 81 2 10) 66 24 3), ml, zmr g)) := by
  refine Wp.run 10 (14, [(5, .int 5), (0, .ref 66), (1, .int 5), (2, .int (nI i)), (3, .int 1), (4, .int x)], [.int (mi 80 16)], (zsh ++ vs, mi, ml, (zmr g))) rfl ?_
  refine Wp.topi (y := 0) (h80 16 (by decide)) ?_
  refine Wp.run 5 (24, [(5, .int 5), (0, .ref 66), (1, .int 5), (2, .int (nI i)), (3, .int 1), (4, .int x)], [.int (mi 79 5)], (zsh ++ vs, mi, ml, (zmr g))) rfl ?_
  refine Wp.topi (y := 2) (h79 5 (by decide)) ?_
  refine Wp.run 2 (3, [(5, .int 2), (0, .ref 66), (1, .int 5), (2, .int (nI i)), (3, .int 1), (4, .int x)], [], (zsh ++ vs, mi, ml, (zmr g))) rfl ?_
  refine Wp.run 8 (14, [(5, .int 2), (0, .ref 66), (1, .int 5), (2, .int (nI i)), (3, .int 1), (4, .int x)], [.int (mi 80 7)], (zsh ++ vs, mi, ml, (zmr g))) rfl ?_
  refine Wp.topi (y := 0) (h80 7 (by decide)) ?_
  refine Wp.run 5 (24, [(5, .int 2), (0, .ref 66), (1, .int 5), (2, .int (nI i)), (3, .int 1), (4, .int x)], [.int (mi 79 2)], (zsh ++ vs, mi, ml, (zmr g))) rfl ?_
  refine Wp.topi (y := 0) (h79 2 (by decide)) ?_
  refine Wp.run 2 (3, [(5, .int 0), (0, .ref 66), (1, .int 5), (2, .int (nI i)), (3, .int 1), (4, .int x)], [], (zsh ++ vs, mi, ml, (zmr g))) rfl ?_
  refine Wp.run 8 (14, [(5, .int 0), (0, .ref 66), (1, .int 5), (2, .int (nI i)), (3, .int 1), (4, .int x)], [.int (mi 80 1)], (zsh ++ vs, mi, ml, (zmr g))) rfl ?_
  refine Wp.topi (y := 11) (h80 1 (by decide)) ?_
  refine Wp.run 5 (36, [(5, .int 0), (0, .ref 66), (1, .int 5), (2, .int (nI i)), (3, .int 1), (4, .int x)], [.int (mi 79 0)], (zsh ++ vs, mi, ml, (zmr g))) rfl ?_
  refine Wp.topi (y := -1) (h79 0 (by decide)) ?_
  refine Wp.run 10 (50, [(6, .int (-1)), (5, .int 0), (0, .ref 66), (1, .int 5), (2, .int (nI i)), (3, .int 1), (4, .int x)], [.int (mi 80 1), .ref 66], (zsh ++ vs, mi, ml, (zmr g))) rfl ?_
  refine Wp.topi (y := 11) (h80 1 (by decide)) ?_
  refine Wp.run 0 (50, [(6, .int (-1)), (5, .int 0), (0, .ref 66), (1, .int 5), (2, .int (nI i)), (3, .int 1), (4, .int x)], [.int 11, .ref 66], (zsh ++ vs, mi, ml, (zmr g))) rfl ?_
  refine Wp.call (as := [.ref 66, .int 11]) (rest := []) rfl rfl rfl rfl rfl (Nat.le_of_ble_eq_true rfl) (Nat.le_of_ble_eq_true rfl) rfl (by decide) (m_body_0 (b := 11) h1) ?_
  rintro _ _ ⟨rfl, rfl⟩
  refine Wp.run 5 (154, [(6, .int (-1)), (5, .int 0), (0, .ref 66), (1, .int 5), (2, .int (nI i)), (3, .int 1), (4, .int x)], [.int x, .int 0, .int (nI i), .ref 66], (zsh ++ vs, (zup (zup mi 81 0 11) 66 24 1), ml, (zmr g))) rfl ?_
  refine Wp.call (as := [.ref 66, .int (nI i), .int 0, .int x]) (rest := []) rfl rfl rfl rfl rfl (Nat.le_of_ble_eq_true rfl) (Nat.le_of_ble_eq_true rfl) rfl (by decide) (m_al_5_5_0_1 (mi := (zup (zup mi 81 0 11) 66 24 1)) (x := x) (i := i) hi rfl h2 h4 h79 h80) ?_
  rintro _ _ ⟨rfl, rfl⟩
  refine Wp.run 3 (160, [(6, .int (-1)), (5, .int 0), (0, .ref 66), (1, .int 5), (2, .int (nI i)), (3, .int 1), (4, .int x)], [.int 1, .int (nI i), .ref 66, .int ((x * 3) + (nI i))], (zsh ++ vs, (zup (zup (zup (zup (zup (zup mi 81 0 11) 66 24 1) 81 1 30) 66 24 2) 81 2 10) 66 24 3), ml, (zmr g))) rfl ?_
  refine Wp.call (as := [.ref 66, .int (nI i), .int 1]) (rest := [.int ((x * 3) + (nI i))]) rfl rfl rfl rfl rfl (Nat.le_of_ble_eq_true rfl) (Nat.le_of_ble_eq_true rfl) rfl (by decide) (m_one (mi := (zup (zup (zup (zup (zup (zup mi 81 0 11) 66 24 1) 81 1 30) 66 24 2) 81 2 10) 66 24 3)) i 1 (by omega)) ?_
  rintro _ _ ⟨rfl, rfl⟩
  refine Wp.topi (y := v) (h4) ?_
  refine Wp.run 1 (164, [(6, .int (-1)), (5, .int 0), (0, .ref 66), (1, .int 5), (2, .int (nI i)), (3, .int 1), (4, .int x)], [.int (((x * 3) + (nI i)) - v)], (zsh ++ vs, (zup (zup (zup (zup (zup (zup mi 81 0 11) 66 24 1) 81 1 30) 66 24 2) 81 2 10) 66 24 3), ml, (zmr g))) rfl ?_
  refine Wp.ret rfl rfl rfl ?_
  exact ⟨rfl, rfl⟩
theorem m_al_5_5_1_0 {E : zEn} {vs : List (Nat × Nat)} {mi : Nat → Nat → Int32} {ml : Nat → Nat → Int64} {g : Nat → Nat → Option Nat} {x v : Int32} {i : Nat} (hi : i < 6) (h1 : mi 66 24 = 0) (h2 : mi 67 (8 + 10 * i + 0) = 5) (h4 : mi 67 (8 + 10 * i + 1) = v) (h79 : ∀ k, k < 7 → mi 79 k = zab9.getD k 0) (h80 : ∀ k, k < 21 → mi 80 k = zbo.getD k 0) : Wp E 5 pg_M_all 0 (lv_args 0 [.ref 66, .int (nI i), .int 1, .int x]) [] (zsh ++ vs, mi, ml, (zmr g)) (fun r w' => r = some (.int (((x * 3) + (nI i)) - v)) ∧ w' = (zsh ++ vs, (zup (zup (zup (zup (zup (zup mi 81 0 11) 66 24 1) 81 1 30) 66 24 2) 81 2 10) 66 24 3), ml, zmr g)) := by
  refine Wp.run 4 (4, [(0, .ref 66), (1, .int (nI i)), (2, .int 1), (3, .int x)], [.int 0, .int (nI i), .ref 66, .ref 66], (zsh ++ vs, mi, ml, (zmr g))) rfl ?_
  refine Wp.call (as := [.ref 66, .int (nI i), .int 0]) (rest := [.ref 66]) rfl rfl rfl rfl rfl (Nat.le_of_ble_eq_true rfl) (Nat.le_of_ble_eq_true rfl) rfl (by decide) (m_one (mi := mi) i 0 (by omega)) ?_
  rintro _ _ ⟨rfl, rfl⟩
  refine Wp.topi (y := 5) (h2) ?_
  refine Wp.run 3 (10, [(0, .ref 66), (1, .int (nI i)), (2, .int 1), (3, .int x)], [.int x, .int 1, .int (nI i), .int 5, .ref 66], (zsh ++ vs, mi, ml, (zmr g))) rfl ?_
  refine Wp.call (as := [.ref 66, .int 5, .int (nI i), .int 1, .int x]) (rest := []) rfl rfl rfl rfl rfl (Nat.le_of_ble_eq_true rfl) (Nat.le_of_ble_eq_true rfl) rfl (by decide) (m_bk_5_5_1_0 hi h1 h2 h4 h79 h80) ?_
  rintro _ _ ⟨rfl, rfl⟩
  refine Wp.run 0 (13, [(0, .ref 66), (1, .int (nI i)), (2, .int 1), (3, .int x)], [.int (((x * 3) + (nI i)) - v)], (zsh ++ vs, (zup (zup (zup (zup (zup (zup mi 81 0 11) 66 24 1) 81 1 30) 66 24 2) 81 2 10) 66 24 3), ml, (zmr g))) rfl ?_
  refine Wp.ret rfl rfl rfl ?_
  exact ⟨rfl, rfl⟩
theorem m_bk_5_0_0_4 {E : zEn} {vs : List (Nat × Nat)} {mi : Nat → Nat → Int32} {ml : Nat → Nat → Int64} {g : Nat → Nat → Option Nat} {x v : Int32} {i : Nat} (hi : i < 6) (h1 : mi 66 24 = 4) (h2 : mi 67 (8 + 10 * i + 0) = 5) (h4 : mi 67 (8 + 10 * i + 1) = v) (h79 : ∀ k, k < 7 → mi 79 k = zab9.getD k 0) (h80 : ∀ k, k < 21 → mi 80 k = zbo.getD k 0) : Wp E 1 pg_M_byKind 0 (lv_args 0 [.ref 66, .int 0, .int (nI i), .int 0, .int x]) [] (zsh ++ vs, mi, ml, (zmr g)) (fun r w' => r = some (.int (x + (nI i))) ∧ w' = (zsh ++ vs, (zup (zup mi 81 4 10) 66 24 5), ml, zmr g)) := by
  refine Wp.run 10 (14, [(5, .int 0), (0, .ref 66), (1, .int 0), (2, .int (nI i)), (3, .int 0), (4, .int x)], [.int (mi 80 0)], (zsh ++ vs, mi, ml, (zmr g))) rfl ?_
  refine Wp.topi (y := 10) (h80 0 (by decide)) ?_
  refine Wp.run 5 (36, [(5, .int 0), (0, .ref 66), (1, .int 0), (2, .int (nI i)), (3, .int 0), (4, .int x)], [.int (mi 79 0)], (zsh ++ vs, mi, ml, (zmr g))) rfl ?_
  refine Wp.topi (y := -1) (h79 0 (by decide)) ?_
  refine Wp.run 10 (50, [(6, .int (-1)), (5, .int 0), (0, .ref 66), (1, .int 0), (2, .int (nI i)), (3, .int 0), (4, .int x)], [.int (mi 80 0), .ref 66], (zsh ++ vs, mi, ml, (zmr g))) rfl ?_
  refine Wp.topi (y := 10) (h80 0 (by decide)) ?_
  refine Wp.run 0 (50, [(6, .int (-1)), (5, .int 0), (0, .ref 66), (1, .int 0), (2, .int (nI i)), (3, .int 0), (4, .int x)], [.int 10, .ref 66], (zsh ++ vs, mi, ml, (zmr g))) rfl ?_
  refine Wp.call (as := [.ref 66, .int 10]) (rest := []) rfl rfl rfl rfl rfl (Nat.le_of_ble_eq_true rfl) (Nat.le_of_ble_eq_true rfl) rfl (by decide) (m_body_4 (b := 10) h1) ?_
  rintro _ _ ⟨rfl, rfl⟩
  refine Wp.run 4 (148, [(6, .int (-1)), (5, .int 0), (0, .ref 66), (1, .int 0), (2, .int (nI i)), (3, .int 0), (4, .int x)], [.int (x + (nI i))], (zsh ++ vs, (zup (zup mi 81 4 10) 66 24 5), ml, (zmr g))) rfl ?_
  refine Wp.ret rfl rfl rfl ?_
  exact ⟨rfl, rfl⟩
theorem m_bk_5_5_0_3 {E : zEn} {vs : List (Nat × Nat)} {mi : Nat → Nat → Int32} {ml : Nat → Nat → Int64} {g : Nat → Nat → Option Nat} {x v : Int32} {i : Nat} (hi : i < 6) (h1 : mi 66 24 = 3) (h2 : mi 67 (8 + 10 * i + 0) = 5) (h4 : mi 67 (8 + 10 * i + 1) = v) (h79 : ∀ k, k < 7 → mi 79 k = zab9.getD k 0) (h80 : ∀ k, k < 21 → mi 80 k = zbo.getD k 0) : Wp E 2 pg_M_byKind 0 (lv_args 0 [.ref 66, .int 5, .int (nI i), .int 0, .int x]) [] (zsh ++ vs, mi, ml, (zmr g)) (fun r w' => r = some (.int (((x * 3) + (nI i)))) ∧ w' = (zsh ++ vs, (zup (zup (zup (zup mi 81 3 30) 66 24 4) 81 4 10) 66 24 5), ml, zmr g)) := by
  refine Wp.run 10 (14, [(5, .int 5), (0, .ref 66), (1, .int 5), (2, .int (nI i)), (3, .int 0), (4, .int x)], [.int (mi 80 15)], (zsh ++ vs, mi, ml, (zmr g))) rfl ?_
  refine Wp.topi (y := 0) (h80 15 (by decide)) ?_
  refine Wp.run 5 (24, [(5, .int 5), (0, .ref 66), (1, .int 5), (2, .int (nI i)), (3, .int 0), (4, .int x)], [.int (mi 79 5)], (zsh ++ vs, mi, ml, (zmr g))) rfl ?_
  refine Wp.topi (y := 2) (h79 5 (by decide)) ?_
  refine Wp.run 2 (3, [(5, .int 2), (0, .ref 66), (1, .int 5), (2, .int (nI i)), (3, .int 0), (4, .int x)], [], (zsh ++ vs, mi, ml, (zmr g))) rfl ?_
  refine Wp.run 8 (14, [(5, .int 2), (0, .ref 66), (1, .int 5), (2, .int (nI i)), (3, .int 0), (4, .int x)], [.int (mi 80 6)], (zsh ++ vs, mi, ml, (zmr g))) rfl ?_
  refine Wp.topi (y := 30) (h80 6 (by decide)) ?_
  refine Wp.run 5 (36, [(5, .int 2), (0, .ref 66), (1, .int 5), (2, .int (nI i)), (3, .int 0), (4, .int x)], [.int (mi 79 2)], (zsh ++ vs, mi, ml, (zmr g))) rfl ?_
  refine Wp.topi (y := 0) (h79 2 (by decide)) ?_
  refine Wp.run 10 (50, [(6, .int 0), (5, .int 2), (0, .ref 66), (1, .int 5), (2, .int (nI i)), (3, .int 0), (4, .int x)], [.int (mi 80 6), .ref 66], (zsh ++ vs, mi, ml, (zmr g))) rfl ?_
  refine Wp.topi (y := 30) (h80 6 (by decide)) ?_
  refine Wp.run 0 (50, [(6, .int 0), (5, .int 2), (0, .ref 66), (1, .int 5), (2, .int (nI i)), (3, .int 0), (4, .int x)], [.int 30, .ref 66], (zsh ++ vs, mi, ml, (zmr g))) rfl ?_
  refine Wp.call (as := [.ref 66, .int 30]) (rest := []) rfl rfl rfl rfl rfl (Nat.le_of_ble_eq_true rfl) (Nat.le_of_ble_eq_true rfl) rfl (by decide) (m_body_3 (b := 30) h1) ?_
  rintro _ _ ⟨rfl, rfl⟩
  refine Wp.run 8 (199, [(6, .int 0), (5, .int 2), (0, .ref 66), (1, .int 5), (2, .int (nI i)), (3, .int 0), (4, .int x)], [.int (x * 3), .int 0, .int (nI i), .int 0, .ref 66], (zsh ++ vs, (zup (zup mi 81 3 30) 66 24 4), ml, (zmr g))) rfl ?_
  refine Wp.call (as := [.ref 66, .int 0, .int (nI i), .int 0, .int (x * 3)]) (rest := []) rfl rfl rfl rfl rfl (Nat.le_of_ble_eq_true rfl) (Nat.le_of_ble_eq_true rfl) rfl (by decide) (m_bk_5_0_0_4 (mi := (zup (zup mi 81 3 30) 66 24 4)) (x := (x * 3)) (i := i) hi rfl h2 h4 h79 h80) ?_
  rintro _ _ ⟨rfl, rfl⟩
  refine Wp.run 0 (202, [(6, .int 0), (5, .int 2), (0, .ref 66), (1, .int 5), (2, .int (nI i)), (3, .int 0), (4, .int x)], [.int ((x * 3) + (nI i))], (zsh ++ vs, (zup (zup (zup (zup mi 81 3 30) 66 24 4) 81 4 10) 66 24 5), ml, (zmr g))) rfl ?_
  refine Wp.ret rfl rfl rfl ?_
  exact ⟨rfl, rfl⟩
theorem m_al_5_5_0_3 {E : zEn} {vs : List (Nat × Nat)} {mi : Nat → Nat → Int32} {ml : Nat → Nat → Int64} {g : Nat → Nat → Option Nat} {x v : Int32} {i : Nat} (hi : i < 6) (h1 : mi 66 24 = 3) (h2 : mi 67 (8 + 10 * i + 0) = 5) (h4 : mi 67 (8 + 10 * i + 1) = v) (h79 : ∀ k, k < 7 → mi 79 k = zab9.getD k 0) (h80 : ∀ k, k < 21 → mi 80 k = zbo.getD k 0) : Wp E 3 pg_M_all 0 (lv_args 0 [.ref 66, .int (nI i), .int 0, .int x]) [] (zsh ++ vs, mi, ml, (zmr g)) (fun r w' => r = some (.int (((x * 3) + (nI i)))) ∧ w' = (zsh ++ vs, (zup (zup (zup (zup mi 81 3 30) 66 24 4) 81 4 10) 66 24 5), ml, zmr g)) := by
  refine Wp.run 4 (4, [(0, .ref 66), (1, .int (nI i)), (2, .int 0), (3, .int x)], [.int 0, .int (nI i), .ref 66, .ref 66], (zsh ++ vs, mi, ml, (zmr g))) rfl ?_
  refine Wp.call (as := [.ref 66, .int (nI i), .int 0]) (rest := [.ref 66]) rfl rfl rfl rfl rfl (Nat.le_of_ble_eq_true rfl) (Nat.le_of_ble_eq_true rfl) rfl (by decide) (m_one (mi := mi) i 0 (by omega)) ?_
  rintro _ _ ⟨rfl, rfl⟩
  refine Wp.topi (y := 5) (h2) ?_
  refine Wp.run 3 (10, [(0, .ref 66), (1, .int (nI i)), (2, .int 0), (3, .int x)], [.int x, .int 0, .int (nI i), .int 5, .ref 66], (zsh ++ vs, mi, ml, (zmr g))) rfl ?_
  refine Wp.call (as := [.ref 66, .int 5, .int (nI i), .int 0, .int x]) (rest := []) rfl rfl rfl rfl rfl (Nat.le_of_ble_eq_true rfl) (Nat.le_of_ble_eq_true rfl) rfl (by decide) (m_bk_5_5_0_3 hi h1 h2 h4 h79 h80) ?_
  rintro _ _ ⟨rfl, rfl⟩
  refine Wp.run 0 (13, [(0, .ref 66), (1, .int (nI i)), (2, .int 0), (3, .int x)], [.int ((x * 3) + (nI i))], (zsh ++ vs, (zup (zup (zup (zup mi 81 3 30) 66 24 4) 81 4 10) 66 24 5), ml, (zmr g))) rfl ?_
  refine Wp.ret rfl rfl rfl ?_
  exact ⟨rfl, rfl⟩
theorem m_bk_5_5_1_2 {E : zEn} {vs : List (Nat × Nat)} {mi : Nat → Nat → Int32} {ml : Nat → Nat → Int64} {g : Nat → Nat → Option Nat} {x v : Int32} {i : Nat} (hi : i < 6) (h1 : mi 66 24 = 2) (h2 : mi 67 (8 + 10 * i + 0) = 5) (h4 : mi 67 (8 + 10 * i + 1) = v) (h79 : ∀ k, k < 7 → mi 79 k = zab9.getD k 0) (h80 : ∀ k, k < 21 → mi 80 k = zbo.getD k 0) : Wp E 4 pg_M_byKind 0 (lv_args 0 [.ref 66, .int 5, .int (nI i), .int 1, .int x]) [] (zsh ++ vs, mi, ml, (zmr g)) (fun r w' => r = some (.int (((x * 3) + (nI i)) - v)) ∧ w' = (zsh ++ vs, (zup (zup (zup (zup (zup (zup mi 81 2 11) 66 24 3) 81 3 30) 66 24 4) 81 4 10) 66 24 5), ml, zmr g)) := by
  refine Wp.run 10 (14, [(5, .int 5), (0, .ref 66), (1, .int 5), (2, .int (nI i)), (3, .int 1), (4, .int x)], [.int (mi 80 16)], (zsh ++ vs, mi, ml, (zmr g))) rfl ?_
  refine Wp.topi (y := 0) (h80 16 (by decide)) ?_
  refine Wp.run 5 (24, [(5, .int 5), (0, .ref 66), (1, .int 5), (2, .int (nI i)), (3, .int 1), (4, .int x)], [.int (mi 79 5)], (zsh ++ vs, mi, ml, (zmr g))) rfl ?_
  refine Wp.topi (y := 2) (h79 5 (by decide)) ?_
  refine Wp.run 2 (3, [(5, .int 2), (0, .ref 66), (1, .int 5), (2, .int (nI i)), (3, .int 1), (4, .int x)], [], (zsh ++ vs, mi, ml, (zmr g))) rfl ?_
  refine Wp.run 8 (14, [(5, .int 2), (0, .ref 66), (1, .int 5), (2, .int (nI i)), (3, .int 1), (4, .int x)], [.int (mi 80 7)], (zsh ++ vs, mi, ml, (zmr g))) rfl ?_
  refine Wp.topi (y := 0) (h80 7 (by decide)) ?_
  refine Wp.run 5 (24, [(5, .int 2), (0, .ref 66), (1, .int 5), (2, .int (nI i)), (3, .int 1), (4, .int x)], [.int (mi 79 2)], (zsh ++ vs, mi, ml, (zmr g))) rfl ?_
  refine Wp.topi (y := 0) (h79 2 (by decide)) ?_
  refine Wp.run 2 (3, [(5, .int 0), (0, .ref 66), (1, .int 5), (2, .int (nI i)), (3, .int 1), (4, .int x)], [], (zsh ++ vs, mi, ml, (zmr g))) rfl ?_
  refine Wp.run 8 (14, [(5, .int 0), (0, .ref 66), (1, .int 5), (2, .int (nI i)), (3, .int 1), (4, .int x)], [.int (mi 80 1)], (zsh ++ vs, mi, ml, (zmr g))) rfl ?_
  refine Wp.topi (y := 11) (h80 1 (by decide)) ?_
  refine Wp.run 5 (36, [(5, .int 0), (0, .ref 66), (1, .int 5), (2, .int (nI i)), (3, .int 1), (4, .int x)], [.int (mi 79 0)], (zsh ++ vs, mi, ml, (zmr g))) rfl ?_
  refine Wp.topi (y := -1) (h79 0 (by decide)) ?_
  refine Wp.run 10 (50, [(6, .int (-1)), (5, .int 0), (0, .ref 66), (1, .int 5), (2, .int (nI i)), (3, .int 1), (4, .int x)], [.int (mi 80 1), .ref 66], (zsh ++ vs, mi, ml, (zmr g))) rfl ?_
  refine Wp.topi (y := 11) (h80 1 (by decide)) ?_
  refine Wp.run 0 (50, [(6, .int (-1)), (5, .int 0), (0, .ref 66), (1, .int 5), (2, .int (nI i)), (3, .int 1), (4, .int x)], [.int 11, .ref 66], (zsh ++ vs, mi, ml, (zmr g))) rfl ?_
  refine Wp.call (as := [.ref 66, .int 11]) (rest := []) rfl rfl rfl rfl rfl (Nat.le_of_ble_eq_true rfl) (Nat.le_of_ble_eq_true rfl) rfl (by decide) (m_body_2 (b := 11) h1) ?_
  rintro _ _ ⟨rfl, rfl⟩
  refine Wp.run 5 (154, [(6, .int (-1)), (5, .int 0), (0, .ref 66), (1, .int 5), (2, .int (nI i)), (3, .int 1), (4, .int x)], [.int x, .int 0, .int (nI i), .ref 66], (zsh ++ vs, (zup (zup mi 81 2 11) 66 24 3), ml, (zmr g))) rfl ?_
  refine Wp.call (as := [.ref 66, .int (nI i), .int 0, .int x]) (rest := []) rfl rfl rfl rfl rfl (Nat.le_of_ble_eq_true rfl) (Nat.le_of_ble_eq_true rfl) rfl (by decide) (m_al_5_5_0_3 (mi := (zup (zup mi 81 2 11) 66 24 3)) (x := x) (i := i) hi rfl h2 h4 h79 h80) ?_
  rintro _ _ ⟨rfl, rfl⟩
  refine Wp.run 3 (160, [(6, .int (-1)), (5, .int 0), (0, .ref 66), (1, .int 5), (2, .int (nI i)), (3, .int 1), (4, .int x)], [.int 1, .int (nI i), .ref 66, .int ((x * 3) + (nI i))], (zsh ++ vs, (zup (zup (zup (zup (zup (zup mi 81 2 11) 66 24 3) 81 3 30) 66 24 4) 81 4 10) 66 24 5), ml, (zmr g))) rfl ?_
  refine Wp.call (as := [.ref 66, .int (nI i), .int 1]) (rest := [.int ((x * 3) + (nI i))]) rfl rfl rfl rfl rfl (Nat.le_of_ble_eq_true rfl) (Nat.le_of_ble_eq_true rfl) rfl (by decide) (m_one (mi := (zup (zup (zup (zup (zup (zup mi 81 2 11) 66 24 3) 81 3 30) 66 24 4) 81 4 10) 66 24 5)) i 1 (by omega)) ?_
  rintro _ _ ⟨rfl, rfl⟩
  refine Wp.topi (y := v) (h4) ?_
  refine Wp.run 1 (164, [(6, .int (-1)), (5, .int 0), (0, .ref 66), (1, .int 5), (2, .int (nI i)), (3, .int 1), (4, .int x)], [.int (((x * 3) + (nI i)) - v)], (zsh ++ vs, (zup (zup (zup (zup (zup (zup mi 81 2 11) 66 24 3) 81 3 30) 66 24 4) 81 4 10) 66 24 5), ml, (zmr g))) rfl ?_
  refine Wp.ret rfl rfl rfl ?_
  exact ⟨rfl, rfl⟩
theorem m_al_5_5_1_2 {E : zEn} {vs : List (Nat × Nat)} {mi : Nat → Nat → Int32} {ml : Nat → Nat → Int64} {g : Nat → Nat → Option Nat} {x v : Int32} {i : Nat} (hi : i < 6) (h1 : mi 66 24 = 2) (h2 : mi 67 (8 + 10 * i + 0) = 5) (h4 : mi 67 (8 + 10 * i + 1) = v) (h79 : ∀ k, k < 7 → mi 79 k = zab9.getD k 0) (h80 : ∀ k, k < 21 → mi 80 k = zbo.getD k 0) : Wp E 5 pg_M_all 0 (lv_args 0 [.ref 66, .int (nI i), .int 1, .int x]) [] (zsh ++ vs, mi, ml, (zmr g)) (fun r w' => r = some (.int (((x * 3) + (nI i)) - v)) ∧ w' = (zsh ++ vs, (zup (zup (zup (zup (zup (zup mi 81 2 11) 66 24 3) 81 3 30) 66 24 4) 81 4 10) 66 24 5), ml, zmr g)) := by
  refine Wp.run 4 (4, [(0, .ref 66), (1, .int (nI i)), (2, .int 1), (3, .int x)], [.int 0, .int (nI i), .ref 66, .ref 66], (zsh ++ vs, mi, ml, (zmr g))) rfl ?_
  refine Wp.call (as := [.ref 66, .int (nI i), .int 0]) (rest := [.ref 66]) rfl rfl rfl rfl rfl (Nat.le_of_ble_eq_true rfl) (Nat.le_of_ble_eq_true rfl) rfl (by decide) (m_one (mi := mi) i 0 (by omega)) ?_
  rintro _ _ ⟨rfl, rfl⟩
  refine Wp.topi (y := 5) (h2) ?_
  refine Wp.run 3 (10, [(0, .ref 66), (1, .int (nI i)), (2, .int 1), (3, .int x)], [.int x, .int 1, .int (nI i), .int 5, .ref 66], (zsh ++ vs, mi, ml, (zmr g))) rfl ?_
  refine Wp.call (as := [.ref 66, .int 5, .int (nI i), .int 1, .int x]) (rest := []) rfl rfl rfl rfl rfl (Nat.le_of_ble_eq_true rfl) (Nat.le_of_ble_eq_true rfl) rfl (by decide) (m_bk_5_5_1_2 hi h1 h2 h4 h79 h80) ?_
  rintro _ _ ⟨rfl, rfl⟩
  refine Wp.run 0 (13, [(0, .ref 66), (1, .int (nI i)), (2, .int 1), (3, .int x)], [.int (((x * 3) + (nI i)) - v)], (zsh ++ vs, (zup (zup (zup (zup (zup (zup mi 81 2 11) 66 24 3) 81 3 30) 66 24 4) 81 4 10) 66 24 5), ml, (zmr g))) rfl ?_
  refine Wp.ret rfl rfl rfl ?_
  exact ⟨rfl, rfl⟩
theorem m_bk_5_2_2_1 {E : zEn} {vs : List (Nat × Nat)} {mi : Nat → Nat → Int32} {ml : Nat → Nat → Int64} {g : Nat → Nat → Option Nat} {x v : Int32} {i : Nat} (hi : i < 6) (h1 : mi 66 24 = 1) (h2 : mi 67 (8 + 10 * i + 0) = 5) (h4 : mi 67 (8 + 10 * i + 1) = v) (h79 : ∀ k, k < 7 → mi 79 k = zab9.getD k 0) (h80 : ∀ k, k < 21 → mi 80 k = zbo.getD k 0) : Wp E 6 pg_M_byKind 0 (lv_args 0 [.ref 66, .int 2, .int (nI i), .int 2, .int x]) [] (zsh ++ vs, mi, ml, (zmr g)) (fun r w' => r = some (.int ((((x * 3) + (nI i)) - v) * 2)) ∧ w' = (zsh ++ vs, (zup (zup (zup (zup (zup (zup (zup (zup mi 81 1 12) 66 24 2) 81 2 11) 66 24 3) 81 3 30) 66 24 4) 81 4 10) 66 24 5), ml, zmr g)) := by
  refine Wp.run 10 (14, [(5, .int 2), (0, .ref 66), (1, .int 2), (2, .int (nI i)), (3, .int 2), (4, .int x)], [.int (mi 80 8)], (zsh ++ vs, mi, ml, (zmr g))) rfl ?_
  refine Wp.topi (y := 0) (h80 8 (by decide)) ?_
  refine Wp.run 5 (24, [(5, .int 2), (0, .ref 66), (1, .int 2), (2, .int (nI i)), (3, .int 2), (4, .int x)], [.int (mi 79 2)], (zsh ++ vs, mi, ml, (zmr g))) rfl ?_
  refine Wp.topi (y := 0) (h79 2 (by decide)) ?_
  refine Wp.run 2 (3, [(5, .int 0), (0, .ref 66), (1, .int 2), (2, .int (nI i)), (3, .int 2), (4, .int x)], [], (zsh ++ vs, mi, ml, (zmr g))) rfl ?_
  refine Wp.run 8 (14, [(5, .int 0), (0, .ref 66), (1, .int 2), (2, .int (nI i)), (3, .int 2), (4, .int x)], [.int (mi 80 2)], (zsh ++ vs, mi, ml, (zmr g))) rfl ?_
  refine Wp.topi (y := 12) (h80 2 (by decide)) ?_
  refine Wp.run 5 (36, [(5, .int 0), (0, .ref 66), (1, .int 2), (2, .int (nI i)), (3, .int 2), (4, .int x)], [.int (mi 79 0)], (zsh ++ vs, mi, ml, (zmr g))) rfl ?_
  refine Wp.topi (y := -1) (h79 0 (by decide)) ?_
  refine Wp.run 10 (50, [(6, .int (-1)), (5, .int 0), (0, .ref 66), (1, .int 2), (2, .int (nI i)), (3, .int 2), (4, .int x)], [.int (mi 80 2), .ref 66], (zsh ++ vs, mi, ml, (zmr g))) rfl ?_
  refine Wp.topi (y := 12) (h80 2 (by decide)) ?_
  refine Wp.run 0 (50, [(6, .int (-1)), (5, .int 0), (0, .ref 66), (1, .int 2), (2, .int (nI i)), (3, .int 2), (4, .int x)], [.int 12, .ref 66], (zsh ++ vs, mi, ml, (zmr g))) rfl ?_
  refine Wp.call (as := [.ref 66, .int 12]) (rest := []) rfl rfl rfl rfl rfl (Nat.le_of_ble_eq_true rfl) (Nat.le_of_ble_eq_true rfl) rfl (by decide) (m_body_1 (b := 12) h1) ?_
  rintro _ _ ⟨rfl, rfl⟩
  refine Wp.run 5 (170, [(6, .int (-1)), (5, .int 0), (0, .ref 66), (1, .int 2), (2, .int (nI i)), (3, .int 2), (4, .int x)], [.int x, .int 1, .int (nI i), .ref 66], (zsh ++ vs, (zup (zup mi 81 1 12) 66 24 2), ml, (zmr g))) rfl ?_
  refine Wp.call (as := [.ref 66, .int (nI i), .int 1, .int x]) (rest := []) rfl rfl rfl rfl rfl (Nat.le_of_ble_eq_true rfl) (Nat.le_of_ble_eq_true rfl) rfl (by decide) (m_al_5_5_1_2 (mi := (zup (zup mi 81 1 12) 66 24 2)) (x := x) (i := i) hi rfl h2 h4 h79 h80) ?_
  rintro _ _ ⟨rfl, rfl⟩
  refine Wp.run 2 (175, [(6, .int (-1)), (5, .int 0), (0, .ref 66), (1, .int 2), (2, .int (nI i)), (3, .int 2), (4, .int x)], [.int ((((x * 3) + (nI i)) - v) * 2)], (zsh ++ vs, (zup (zup (zup (zup (zup (zup (zup (zup mi 81 1 12) 66 24 2) 81 2 11) 66 24 3) 81 3 30) 66 24 4) 81 4 10) 66 24 5), ml, (zmr g))) rfl ?_
  refine Wp.ret rfl rfl rfl ?_
  exact ⟨rfl, rfl⟩
theorem m_bk_5_5_2_0 {E : zEn} {vs : List (Nat × Nat)} {mi : Nat → Nat → Int32} {ml : Nat → Nat → Int64} {g : Nat → Nat → Option Nat} {x v : Int32} {i : Nat} (hi : i < 6) (h1 : mi 66 24 = 0) (h2 : mi 67 (8 + 10 * i + 0) = 5) (h4 : mi 67 (8 + 10 * i + 1) = v) (h79 : ∀ k, k < 7 → mi 79 k = zab9.getD k 0) (h80 : ∀ k, k < 21 → mi 80 k = zbo.getD k 0) : Wp E 7 pg_M_byKind 0 (lv_args 0 [.ref 66, .int 5, .int (nI i), .int 2, .int x]) [] (zsh ++ vs, mi, ml, (zmr g)) (fun r w' => r = some (.int ((((((x - (nI i)) * 3) + (nI i)) - v) * 2))) ∧ w' = (zsh ++ vs, (zup (zup (zup (zup (zup (zup (zup (zup (zup (zup mi 81 0 60) 66 24 1) 81 1 12) 66 24 2) 81 2 11) 66 24 3) 81 3 30) 66 24 4) 81 4 10) 66 24 5), ml, zmr g)) := by
  refine Wp.run 10 (14, [(5, .int 5), (0, .ref 66), (1, .int 5), (2, .int (nI i)), (3, .int 2), (4, .int x)], [.int (mi 80 17)], (zsh ++ vs, mi, ml, (zmr g))) rfl ?_
  refine Wp.topi (y := 60) (h80 17 (by decide)) ?_
  refine Wp.run 5 (36, [(5, .int 5), (0, .ref 66), (1, .int 5), (2, .int (nI i)), (3, .int 2), (4, .int x)], [.int (mi 79 5)], (zsh ++ vs, mi, ml, (zmr g))) rfl ?_
  refine Wp.topi (y := 2) (h79 5 (by decide)) ?_
  refine Wp.run 10 (50, [(6, .int 2), (5, .int 5), (0, .ref 66), (1, .int 5), (2, .int (nI i)), (3, .int 2), (4, .int x)], [.int (mi 80 17), .ref 66], (zsh ++ vs, mi, ml, (zmr g))) rfl ?_
  refine Wp.topi (y := 60) (h80 17 (by decide)) ?_
  refine Wp.run 0 (50, [(6, .int 2), (5, .int 5), (0, .ref 66), (1, .int 5), (2, .int (nI i)), (3, .int 2), (4, .int x)], [.int 60, .ref 66], (zsh ++ vs, mi, ml, (zmr g))) rfl ?_
  refine Wp.call (as := [.ref 66, .int 60]) (rest := []) rfl rfl rfl rfl rfl (Nat.le_of_ble_eq_true rfl) (Nat.le_of_ble_eq_true rfl) rfl (by decide) (m_body_0 (b := 60) h1) ?_
  rintro _ _ ⟨rfl, rfl⟩
  refine Wp.run 8 (256, [(6, .int 2), (5, .int 5), (0, .ref 66), (1, .int 5), (2, .int (nI i)), (3, .int 2), (4, .int x)], [.int (x - (nI i)), .int 2, .int (nI i), .int 2, .ref 66], (zsh ++ vs, (zup (zup mi 81 0 60) 66 24 1), ml, (zmr g))) rfl ?_
  refine Wp.call (as := [.ref 66, .int 2, .int (nI i), .int 2, .int (x - (nI i))]) (rest := []) rfl rfl rfl rfl rfl (Nat.le_of_ble_eq_true rfl) (Nat.le_of_ble_eq_true rfl) rfl (by decide) (m_bk_5_2_2_1 (mi := (zup (zup mi 81 0 60) 66 24 1)) (x := (x - (nI i))) (i := i) hi rfl h2 h4 h79 h80) ?_
  rintro _ _ ⟨rfl, rfl⟩
  refine Wp.run 0 (259, [(6, .int 2), (5, .int 5), (0, .ref 66), (1, .int 5), (2, .int (nI i)), (3, .int 2), (4, .int x)], [.int (((((x - (nI i)) * 3) + (nI i)) - v) * 2)], (zsh ++ vs, (zup (zup (zup (zup (zup (zup (zup (zup (zup (zup mi 81 0 60) 66 24 1) 81 1 12) 66 24 2) 81 2 11) 66 24 3) 81 3 30) 66 24 4) 81 4 10) 66 24 5), ml, (zmr g))) rfl ?_
  refine Wp.ret rfl rfl rfl ?_
  exact ⟨rfl, rfl⟩
theorem m_al_5_5_2_0 {E : zEn} {vs : List (Nat × Nat)} {mi : Nat → Nat → Int32} {ml : Nat → Nat → Int64} {g : Nat → Nat → Option Nat} {x v : Int32} {i : Nat} (hi : i < 6) (h1 : mi 66 24 = 0) (h2 : mi 67 (8 + 10 * i + 0) = 5) (h4 : mi 67 (8 + 10 * i + 1) = v) (h79 : ∀ k, k < 7 → mi 79 k = zab9.getD k 0) (h80 : ∀ k, k < 21 → mi 80 k = zbo.getD k 0) : Wp E 8 pg_M_all 0 (lv_args 0 [.ref 66, .int (nI i), .int 2, .int x]) [] (zsh ++ vs, mi, ml, (zmr g)) (fun r w' => r = some (.int ((((((x - (nI i)) * 3) + (nI i)) - v) * 2))) ∧ w' = (zsh ++ vs, (zup (zup (zup (zup (zup (zup (zup (zup (zup (zup mi 81 0 60) 66 24 1) 81 1 12) 66 24 2) 81 2 11) 66 24 3) 81 3 30) 66 24 4) 81 4 10) 66 24 5), ml, zmr g)) := by
  refine Wp.run 4 (4, [(0, .ref 66), (1, .int (nI i)), (2, .int 2), (3, .int x)], [.int 0, .int (nI i), .ref 66, .ref 66], (zsh ++ vs, mi, ml, (zmr g))) rfl ?_
  refine Wp.call (as := [.ref 66, .int (nI i), .int 0]) (rest := [.ref 66]) rfl rfl rfl rfl rfl (Nat.le_of_ble_eq_true rfl) (Nat.le_of_ble_eq_true rfl) rfl (by decide) (m_one (mi := mi) i 0 (by omega)) ?_
  rintro _ _ ⟨rfl, rfl⟩
  refine Wp.topi (y := 5) (h2) ?_
  refine Wp.run 3 (10, [(0, .ref 66), (1, .int (nI i)), (2, .int 2), (3, .int x)], [.int x, .int 2, .int (nI i), .int 5, .ref 66], (zsh ++ vs, mi, ml, (zmr g))) rfl ?_
  refine Wp.call (as := [.ref 66, .int 5, .int (nI i), .int 2, .int x]) (rest := []) rfl rfl rfl rfl rfl (Nat.le_of_ble_eq_true rfl) (Nat.le_of_ble_eq_true rfl) rfl (by decide) (m_bk_5_5_2_0 hi h1 h2 h4 h79 h80) ?_
  rintro _ _ ⟨rfl, rfl⟩
  refine Wp.run 0 (13, [(0, .ref 66), (1, .int (nI i)), (2, .int 2), (3, .int x)], [.int (((((x - (nI i)) * 3) + (nI i)) - v) * 2)], (zsh ++ vs, (zup (zup (zup (zup (zup (zup (zup (zup (zup (zup mi 81 0 60) 66 24 1) 81 1 12) 66 24 2) 81 2 11) 66 24 3) 81 3 30) 66 24 4) 81 4 10) 66 24 5), ml, (zmr g))) rfl ?_
  refine Wp.ret rfl rfl rfl ?_
  exact ⟨rfl, rfl⟩
theorem m_bk_6_3_0_1 {E : zEn} {vs : List (Nat × Nat)} {mi : Nat → Nat → Int32} {ml : Nat → Nat → Int64} {g : Nat → Nat → Option Nat} {x v : Int32} {i : Nat} (hi : i < 6) (h1 : mi 66 24 = 1) (h2 : mi 67 (8 + 10 * i + 0) = 6) (h4 : mi 67 (8 + 10 * i + 1) = v) (h79 : ∀ k, k < 7 → mi 79 k = zab9.getD k 0) (h80 : ∀ k, k < 21 → mi 80 k = zbo.getD k 0) : Wp E 1 pg_M_byKind 0 (lv_args 0 [.ref 66, .int 3, .int (nI i), .int 0, .int x]) [] (zsh ++ vs, mi, ml, (zmr g)) (fun r w' => r = some (.int (x + (nI i))) ∧ w' = (zsh ++ vs, (zup (zup mi 81 1 10) 66 24 2), ml, zmr g)) := by
  refine Wp.run 10 (14, [(5, .int 3), (0, .ref 66), (1, .int 3), (2, .int (nI i)), (3, .int 0), (4, .int x)], [.int (mi 80 9)], (zsh ++ vs, mi, ml, (zmr g))) rfl ?_
  refine Wp.topi (y := 0) (h80 9 (by decide)) ?_
  refine Wp.run 5 (24, [(5, .int 3), (0, .ref 66), (1, .int 3), (2, .int (nI i)), (3, .int 0), (4, .int x)], [.int (mi 79 3)], (zsh ++ vs, mi, ml, (zmr g))) rfl ?_
  refine Wp.topi (y := 0) (h79 3 (by decide)) ?_
  refine Wp.run 2 (3, [(5, .int 0), (0, .ref 66), (1, .int 3), (2, .int (nI i)), (3, .int 0), (4, .int x)], [], (zsh ++ vs, mi, ml, (zmr g))) rfl ?_
  refine Wp.run 8 (14, [(5, .int 0), (0, .ref 66), (1, .int 3), (2, .int (nI i)), (3, .int 0), (4, .int x)], [.int (mi 80 0)], (zsh ++ vs, mi, ml, (zmr g))) rfl ?_
  refine Wp.topi (y := 10) (h80 0 (by decide)) ?_
  refine Wp.run 5 (36, [(5, .int 0), (0, .ref 66), (1, .int 3), (2, .int (nI i)), (3, .int 0), (4, .int x)], [.int (mi 79 0)], (zsh ++ vs, mi, ml, (zmr g))) rfl ?_
  refine Wp.topi (y := -1) (h79 0 (by decide)) ?_
  refine Wp.run 10 (50, [(6, .int (-1)), (5, .int 0), (0, .ref 66), (1, .int 3), (2, .int (nI i)), (3, .int 0), (4, .int x)], [.int (mi 80 0), .ref 66], (zsh ++ vs, mi, ml, (zmr g))) rfl ?_
  refine Wp.topi (y := 10) (h80 0 (by decide)) ?_
  refine Wp.run 0 (50, [(6, .int (-1)), (5, .int 0), (0, .ref 66), (1, .int 3), (2, .int (nI i)), (3, .int 0), (4, .int x)], [.int 10, .ref 66], (zsh ++ vs, mi, ml, (zmr g))) rfl ?_
  refine Wp.call (as := [.ref 66, .int 10]) (rest := []) rfl rfl rfl rfl rfl (Nat.le_of_ble_eq_true rfl) (Nat.le_of_ble_eq_true rfl) rfl (by decide) (m_body_1 (b := 10) h1) ?_
  rintro _ _ ⟨rfl, rfl⟩
  refine Wp.run 4 (148, [(6, .int (-1)), (5, .int 0), (0, .ref 66), (1, .int 3), (2, .int (nI i)), (3, .int 0), (4, .int x)], [.int (x + (nI i))], (zsh ++ vs, (zup (zup mi 81 1 10) 66 24 2), ml, (zmr g))) rfl ?_
  refine Wp.ret rfl rfl rfl ?_
  exact ⟨rfl, rfl⟩
theorem m_bk_6_6_0_0 {E : zEn} {vs : List (Nat × Nat)} {mi : Nat → Nat → Int32} {ml : Nat → Nat → Int64} {g : Nat → Nat → Option Nat} {x v : Int32} {i : Nat} (hi : i < 6) (h1 : mi 66 24 = 0) (h2 : mi 67 (8 + 10 * i + 0) = 6) (h4 : mi 67 (8 + 10 * i + 1) = v) (h79 : ∀ k, k < 7 → mi 79 k = zab9.getD k 0) (h80 : ∀ k, k < 21 → mi 80 k = zbo.getD k 0) : Wp E 2 pg_M_byKind 0 (lv_args 0 [.ref 66, .int 6, .int (nI i), .int 0, .int x]) [] (zsh ++ vs, mi, ml, (zmr g)) (fun r w' => r = some (.int ((x + (nI i)) ^^^ v)) ∧ w' = (zsh ++ vs, (zup (zup (zup (zup mi 81 0 71) 66 24 1) 81 1 10) 66 24 2), ml, zmr g)) := by
  refine Wp.run 10 (14, [(5, .int 6), (0, .ref 66), (1, .int 6), (2, .int (nI i)), (3, .int 0), (4, .int x)], [.int (mi 80 18)], (zsh ++ vs, mi, ml, (zmr g))) rfl ?_
  refine Wp.topi (y := 71) (h80 18 (by decide)) ?_
  refine Wp.run 5 (36, [(5, .int 6), (0, .ref 66), (1, .int 6), (2, .int (nI i)), (3, .int 0), (4, .int x)], [.int (mi 79 6)], (zsh ++ vs, mi, ml, (zmr g))) rfl ?_
  refine Wp.topi (y := 3) (h79 6 (by decide)) ?_
  refine Wp.run 10 (50, [(6, .int 3), (5, .int 6), (0, .ref 66), (1, .int 6), (2, .int (nI i)), (3, .int 0), (4, .int x)], [.int (mi 80 18), .ref 66], (zsh ++ vs, mi, ml, (zmr g))) rfl ?_
  refine Wp.topi (y := 71) (h80 18 (by decide)) ?_
  refine Wp.run 0 (50, [(6, .int 3), (5, .int 6), (0, .ref 66), (1, .int 6), (2, .int (nI i)), (3, .int 0), (4, .int x)], [.int 71, .ref 66], (zsh ++ vs, mi, ml, (zmr g))) rfl ?_
  refine Wp.call (as := [.ref 66, .int 71]) (rest := []) rfl rfl rfl rfl rfl (Nat.le_of_ble_eq_true rfl) (Nat.le_of_ble_eq_true rfl) rfl (by decide) (m_body_0 (b := 71) h1) ?_
  rintro _ _ ⟨rfl, rfl⟩
  refine Wp.run 6 (288, [(6, .int 3), (5, .int 6), (0, .ref 66), (1, .int 6), (2, .int (nI i)), (3, .int 0), (4, .int x)], [.int x, .int 0, .int (nI i), .int 3, .ref 66], (zsh ++ vs, (zup (zup mi 81 0 71) 66 24 1), ml, (zmr g))) rfl ?_
  refine Wp.call (as := [.ref 66, .int 3, .int (nI i), .int 0, .int x]) (rest := []) rfl rfl rfl rfl rfl (Nat.le_of_ble_eq_true rfl) (Nat.le_of_ble_eq_true rfl) rfl (by decide) (m_bk_6_3_0_1 (mi := (zup (zup mi 81 0 71) 66 24 1)) (x := x) (i := i) hi rfl h2 h4 h79 h80) ?_
  rintro _ _ ⟨rfl, rfl⟩
  refine Wp.run 3 (294, [(6, .int 3), (5, .int 6), (0, .ref 66), (1, .int 6), (2, .int (nI i)), (3, .int 0), (4, .int x)], [.int 1, .int (nI i), .ref 66, .int (x + (nI i))], (zsh ++ vs, (zup (zup (zup (zup mi 81 0 71) 66 24 1) 81 1 10) 66 24 2), ml, (zmr g))) rfl ?_
  refine Wp.call (as := [.ref 66, .int (nI i), .int 1]) (rest := [.int (x + (nI i))]) rfl rfl rfl rfl rfl (Nat.le_of_ble_eq_true rfl) (Nat.le_of_ble_eq_true rfl) rfl (by decide) (m_one (mi := (zup (zup (zup (zup mi 81 0 71) 66 24 1) 81 1 10) 66 24 2)) i 1 (by omega)) ?_
  rintro _ _ ⟨rfl, rfl⟩
  refine Wp.topi (y := v) (h4) ?_
  refine Wp.run 1 (298, [(6, .int 3), (5, .int 6), (0, .ref 66), (1, .int 6), (2, .int (nI i)), (3, .int 0), (4, .int x)], [.int ((x + (nI i)) ^^^ v)], (zsh ++ vs, (zup (zup (zup (zup mi 81 0 71) 66 24 1) 81 1 10) 66 24 2), ml, (zmr g))) rfl ?_
  refine Wp.ret rfl rfl rfl ?_
  exact ⟨rfl, rfl⟩
theorem m_al_6_6_0_0 {E : zEn} {vs : List (Nat × Nat)} {mi : Nat → Nat → Int32} {ml : Nat → Nat → Int64} {g : Nat → Nat → Option Nat} {x v : Int32} {i : Nat} (hi : i < 6) (h1 : mi 66 24 = 0) (h2 : mi 67 (8 + 10 * i + 0) = 6) (h4 : mi 67 (8 + 10 * i + 1) = v) (h79 : ∀ k, k < 7 → mi 79 k = zab9.getD k 0) (h80 : ∀ k, k < 21 → mi 80 k = zbo.getD k 0) : Wp E 3 pg_M_all 0 (lv_args 0 [.ref 66, .int (nI i), .int 0, .int x]) [] (zsh ++ vs, mi, ml, (zmr g)) (fun r w' => r = some (.int ((x + (nI i)) ^^^ v)) ∧ w' = (zsh ++ vs, (zup (zup (zup (zup mi 81 0 71) 66 24 1) 81 1 10) 66 24 2), ml, zmr g)) := by
  refine Wp.run 4 (4, [(0, .ref 66), (1, .int (nI i)), (2, .int 0), (3, .int x)], [.int 0, .int (nI i), .ref 66, .ref 66], (zsh ++ vs, mi, ml, (zmr g))) rfl ?_
  refine Wp.call (as := [.ref 66, .int (nI i), .int 0]) (rest := [.ref 66]) rfl rfl rfl rfl rfl (Nat.le_of_ble_eq_true rfl) (Nat.le_of_ble_eq_true rfl) rfl (by decide) (m_one (mi := mi) i 0 (by omega)) ?_
  rintro _ _ ⟨rfl, rfl⟩
  refine Wp.topi (y := 6) (h2) ?_
  refine Wp.run 3 (10, [(0, .ref 66), (1, .int (nI i)), (2, .int 0), (3, .int x)], [.int x, .int 0, .int (nI i), .int 6, .ref 66], (zsh ++ vs, mi, ml, (zmr g))) rfl ?_
  refine Wp.call (as := [.ref 66, .int 6, .int (nI i), .int 0, .int x]) (rest := []) rfl rfl rfl rfl rfl (Nat.le_of_ble_eq_true rfl) (Nat.le_of_ble_eq_true rfl) rfl (by decide) (m_bk_6_6_0_0 hi h1 h2 h4 h79 h80) ?_
  rintro _ _ ⟨rfl, rfl⟩
  refine Wp.run 0 (13, [(0, .ref 66), (1, .int (nI i)), (2, .int 0), (3, .int x)], [.int ((x + (nI i)) ^^^ v)], (zsh ++ vs, (zup (zup (zup (zup mi 81 0 71) 66 24 1) 81 1 10) 66 24 2), ml, (zmr g))) rfl ?_
  refine Wp.ret rfl rfl rfl ?_
  exact ⟨rfl, rfl⟩
theorem m_bk_6_3_0_3 {E : zEn} {vs : List (Nat × Nat)} {mi : Nat → Nat → Int32} {ml : Nat → Nat → Int64} {g : Nat → Nat → Option Nat} {x v : Int32} {i : Nat} (hi : i < 6) (h1 : mi 66 24 = 3) (h2 : mi 67 (8 + 10 * i + 0) = 6) (h4 : mi 67 (8 + 10 * i + 1) = v) (h79 : ∀ k, k < 7 → mi 79 k = zab9.getD k 0) (h80 : ∀ k, k < 21 → mi 80 k = zbo.getD k 0) : Wp E 1 pg_M_byKind 0 (lv_args 0 [.ref 66, .int 3, .int (nI i), .int 0, .int x]) [] (zsh ++ vs, mi, ml, (zmr g)) (fun r w' => r = some (.int (x + (nI i))) ∧ w' = (zsh ++ vs, (zup (zup mi 81 3 10) 66 24 4), ml, zmr g)) := by
  refine Wp.run 10 (14, [(5, .int 3), (0, .ref 66), (1, .int 3), (2, .int (nI i)), (3, .int 0), (4, .int x)], [.int (mi 80 9)], (zsh ++ vs, mi, ml, (zmr g))) rfl ?_
  refine Wp.topi (y := 0) (h80 9 (by decide)) ?_
  refine Wp.run 5 (24, [(5, .int 3), (0, .ref 66), (1, .int 3), (2, .int (nI i)), (3, .int 0), (4, .int x)], [.int (mi 79 3)], (zsh ++ vs, mi, ml, (zmr g))) rfl ?_
  refine Wp.topi (y := 0) (h79 3 (by decide)) ?_
  refine Wp.run 2 (3, [(5, .int 0), (0, .ref 66), (1, .int 3), (2, .int (nI i)), (3, .int 0), (4, .int x)], [], (zsh ++ vs, mi, ml, (zmr g))) rfl ?_
  refine Wp.run 8 (14, [(5, .int 0), (0, .ref 66), (1, .int 3), (2, .int (nI i)), (3, .int 0), (4, .int x)], [.int (mi 80 0)], (zsh ++ vs, mi, ml, (zmr g))) rfl ?_
  refine Wp.topi (y := 10) (h80 0 (by decide)) ?_
  refine Wp.run 5 (36, [(5, .int 0), (0, .ref 66), (1, .int 3), (2, .int (nI i)), (3, .int 0), (4, .int x)], [.int (mi 79 0)], (zsh ++ vs, mi, ml, (zmr g))) rfl ?_
  refine Wp.topi (y := -1) (h79 0 (by decide)) ?_
  refine Wp.run 10 (50, [(6, .int (-1)), (5, .int 0), (0, .ref 66), (1, .int 3), (2, .int (nI i)), (3, .int 0), (4, .int x)], [.int (mi 80 0), .ref 66], (zsh ++ vs, mi, ml, (zmr g))) rfl ?_
  refine Wp.topi (y := 10) (h80 0 (by decide)) ?_
  refine Wp.run 0 (50, [(6, .int (-1)), (5, .int 0), (0, .ref 66), (1, .int 3), (2, .int (nI i)), (3, .int 0), (4, .int x)], [.int 10, .ref 66], (zsh ++ vs, mi, ml, (zmr g))) rfl ?_
  refine Wp.call (as := [.ref 66, .int 10]) (rest := []) rfl rfl rfl rfl rfl (Nat.le_of_ble_eq_true rfl) (Nat.le_of_ble_eq_true rfl) rfl (by decide) (m_body_3 (b := 10) h1) ?_
  rintro _ _ ⟨rfl, rfl⟩
  refine Wp.run 4 (148, [(6, .int (-1)), (5, .int 0), (0, .ref 66), (1, .int 3), (2, .int (nI i)), (3, .int 0), (4, .int x)], [.int (x + (nI i))], (zsh ++ vs, (zup (zup mi 81 3 10) 66 24 4), ml, (zmr g))) rfl ?_
  refine Wp.ret rfl rfl rfl ?_
  exact ⟨rfl, rfl⟩
theorem m_bk_6_6_0_2 {E : zEn} {vs : List (Nat × Nat)} {mi : Nat → Nat → Int32} {ml : Nat → Nat → Int64} {g : Nat → Nat → Option Nat} {x v : Int32} {i : Nat} (hi : i < 6) (h1 : mi 66 24 = 2) (h2 : mi 67 (8 + 10 * i + 0) = 6) (h4 : mi 67 (8 + 10 * i + 1) = v) (h79 : ∀ k, k < 7 → mi 79 k = zab9.getD k 0) (h80 : ∀ k, k < 21 → mi 80 k = zbo.getD k 0) : Wp E 2 pg_M_byKind 0 (lv_args 0 [.ref 66, .int 6, .int (nI i), .int 0, .int x]) [] (zsh ++ vs, mi, ml, (zmr g)) (fun r w' => r = some (.int ((x + (nI i)) ^^^ v)) ∧ w' = (zsh ++ vs, (zup (zup (zup (zup mi 81 2 71) 66 24 3) 81 3 10) 66 24 4), ml, zmr g)) := by
  refine Wp.run 10 (14, [(5, .int 6), (0, .ref 66), (1, .int 6), (2, .int (nI i)), (3, .int 0), (4, .int x)], [.int (mi 80 18)], (zsh ++ vs, mi, ml, (zmr g))) rfl ?_
  refine Wp.topi (y := 71) (h80 18 (by decide)) ?_
  refine Wp.run 5 (36, [(5, .int 6), (0, .ref 66), (1, .int 6), (2, .int (nI i)), (3, .int 0), (4, .int x)], [.int (mi 79 6)], (zsh ++ vs, mi, ml, (zmr g))) rfl ?_
  refine Wp.topi (y := 3) (h79 6 (by decide)) ?_
  refine Wp.run 10 (50, [(6, .int 3), (5, .int 6), (0, .ref 66), (1, .int 6), (2, .int (nI i)), (3, .int 0), (4, .int x)], [.int (mi 80 18), .ref 66], (zsh ++ vs, mi, ml, (zmr g))) rfl ?_
  refine Wp.topi (y := 71) (h80 18 (by decide)) ?_
  refine Wp.run 0 (50, [(6, .int 3), (5, .int 6), (0, .ref 66), (1, .int 6), (2, .int (nI i)), (3, .int 0), (4, .int x)], [.int 71, .ref 66], (zsh ++ vs, mi, ml, (zmr g))) rfl ?_
  refine Wp.call (as := [.ref 66, .int 71]) (rest := []) rfl rfl rfl rfl rfl (Nat.le_of_ble_eq_true rfl) (Nat.le_of_ble_eq_true rfl) rfl (by decide) (m_body_2 (b := 71) h1) ?_
  rintro _ _ ⟨rfl, rfl⟩
  refine Wp.run 6 (288, [(6, .int 3), (5, .int 6), (0, .ref 66), (1, .int 6), (2, .int (nI i)), (3, .int 0), (4, .int x)], [.int x, .int 0, .int (nI i), .int 3, .ref 66], (zsh ++ vs, (zup (zup mi 81 2 71) 66 24 3), ml, (zmr g))) rfl ?_
  refine Wp.call (as := [.ref 66, .int 3, .int (nI i), .int 0, .int x]) (rest := []) rfl rfl rfl rfl rfl (Nat.le_of_ble_eq_true rfl) (Nat.le_of_ble_eq_true rfl) rfl (by decide) (m_bk_6_3_0_3 (mi := (zup (zup mi 81 2 71) 66 24 3)) (x := x) (i := i) hi rfl h2 h4 h79 h80) ?_
  rintro _ _ ⟨rfl, rfl⟩
  refine Wp.run 3 (294, [(6, .int 3), (5, .int 6), (0, .ref 66), (1, .int 6), (2, .int (nI i)), (3, .int 0), (4, .int x)], [.int 1, .int (nI i), .ref 66, .int (x + (nI i))], (zsh ++ vs, (zup (zup (zup (zup mi 81 2 71) 66 24 3) 81 3 10) 66 24 4), ml, (zmr g))) rfl ?_
  refine Wp.call (as := [.ref 66, .int (nI i), .int 1]) (rest := [.int (x + (nI i))]) rfl rfl rfl rfl rfl (Nat.le_of_ble_eq_true rfl) (Nat.le_of_ble_eq_true rfl) rfl (by decide) (m_one (mi := (zup (zup (zup (zup mi 81 2 71) 66 24 3) 81 3 10) 66 24 4)) i 1 (by omega)) ?_
  rintro _ _ ⟨rfl, rfl⟩
  refine Wp.topi (y := v) (h4) ?_
  refine Wp.run 1 (298, [(6, .int 3), (5, .int 6), (0, .ref 66), (1, .int 6), (2, .int (nI i)), (3, .int 0), (4, .int x)], [.int ((x + (nI i)) ^^^ v)], (zsh ++ vs, (zup (zup (zup (zup mi 81 2 71) 66 24 3) 81 3 10) 66 24 4), ml, (zmr g))) rfl ?_
  refine Wp.ret rfl rfl rfl ?_
  exact ⟨rfl, rfl⟩
theorem m_al_6_6_0_2 {E : zEn} {vs : List (Nat × Nat)} {mi : Nat → Nat → Int32} {ml : Nat → Nat → Int64} {g : Nat → Nat → Option Nat} {x v : Int32} {i : Nat} (hi : i < 6) (h1 : mi 66 24 = 2) (h2 : mi 67 (8 + 10 * i + 0) = 6) (h4 : mi 67 (8 + 10 * i + 1) = v) (h79 : ∀ k, k < 7 → mi 79 k = zab9.getD k 0) (h80 : ∀ k, k < 21 → mi 80 k = zbo.getD k 0) : Wp E 3 pg_M_all 0 (lv_args 0 [.ref 66, .int (nI i), .int 0, .int x]) [] (zsh ++ vs, mi, ml, (zmr g)) (fun r w' => r = some (.int ((x + (nI i)) ^^^ v)) ∧ w' = (zsh ++ vs, (zup (zup (zup (zup mi 81 2 71) 66 24 3) 81 3 10) 66 24 4), ml, zmr g)) := by
  refine Wp.run 4 (4, [(0, .ref 66), (1, .int (nI i)), (2, .int 0), (3, .int x)], [.int 0, .int (nI i), .ref 66, .ref 66], (zsh ++ vs, mi, ml, (zmr g))) rfl ?_
  refine Wp.call (as := [.ref 66, .int (nI i), .int 0]) (rest := [.ref 66]) rfl rfl rfl rfl rfl (Nat.le_of_ble_eq_true rfl) (Nat.le_of_ble_eq_true rfl) rfl (by decide) (m_one (mi := mi) i 0 (by omega)) ?_
  rintro _ _ ⟨rfl, rfl⟩
  refine Wp.topi (y := 6) (h2) ?_
  refine Wp.run 3 (10, [(0, .ref 66), (1, .int (nI i)), (2, .int 0), (3, .int x)], [.int x, .int 0, .int (nI i), .int 6, .ref 66], (zsh ++ vs, mi, ml, (zmr g))) rfl ?_
  refine Wp.call (as := [.ref 66, .int 6, .int (nI i), .int 0, .int x]) (rest := []) rfl rfl rfl rfl rfl (Nat.le_of_ble_eq_true rfl) (Nat.le_of_ble_eq_true rfl) rfl (by decide) (m_bk_6_6_0_2 hi h1 h2 h4 h79 h80) ?_
  rintro _ _ ⟨rfl, rfl⟩
  refine Wp.run 0 (13, [(0, .ref 66), (1, .int (nI i)), (2, .int 0), (3, .int x)], [.int ((x + (nI i)) ^^^ v)], (zsh ++ vs, (zup (zup (zup (zup mi 81 2 71) 66 24 3) 81 3 10) 66 24 4), ml, (zmr g))) rfl ?_
  refine Wp.ret rfl rfl rfl ?_
  exact ⟨rfl, rfl⟩
theorem m_bk_6_3_1_1 {E : zEn} {vs : List (Nat × Nat)} {mi : Nat → Nat → Int32} {ml : Nat → Nat → Int64} {g : Nat → Nat → Option Nat} {x v : Int32} {i : Nat} (hi : i < 6) (h1 : mi 66 24 = 1) (h2 : mi 67 (8 + 10 * i + 0) = 6) (h4 : mi 67 (8 + 10 * i + 1) = v) (h79 : ∀ k, k < 7 → mi 79 k = zab9.getD k 0) (h80 : ∀ k, k < 21 → mi 80 k = zbo.getD k 0) : Wp E 4 pg_M_byKind 0 (lv_args 0 [.ref 66, .int 3, .int (nI i), .int 1, .int x]) [] (zsh ++ vs, mi, ml, (zmr g)) (fun r w' => r = some (.int (((x + (nI i)) ^^^ v) - v)) ∧ w' = (zsh ++ vs, (zup (zup (zup (zup (zup (zup mi 81 1 11) 66 24 2) 81 2 71) 66 24 3) 81 3 10) 66 24 4), ml, zmr g)) := by
  refine Wp.run 10 (14, [(5, .int 3), (0, .ref 66), (1, .int 3), (2, .int (nI i)), (3, .int 1), (4, .int x)], [.int (mi 80 10)], (zsh ++ vs, mi, ml, (zmr g))) rfl ?_
  refine Wp.topi (y := 0) (h80 10 (by decide)) ?_
  refine Wp.run 5 (24, [(5, .int 3), (0, .ref 66), (1, .int 3), (2, .int (nI i)), (3, .int 1), (4, .int x)], [.int (mi 79 3)], (zsh ++ vs, mi, ml, (zmr g))) rfl ?_
  refine Wp.topi (y := 0) (h79 3 (by decide)) ?_
  refine Wp.run 2 (3, [(5, .int 0), (0, .ref 66), (1, .int 3), (2, .int (nI i)), (3, .int 1), (4, .int x)], [], (zsh ++ vs, mi, ml, (zmr g))) rfl ?_
  refine Wp.run 8 (14, [(5, .int 0), (0, .ref 66), (1, .int 3), (2, .int (nI i)), (3, .int 1), (4, .int x)], [.int (mi 80 1)], (zsh ++ vs, mi, ml, (zmr g))) rfl ?_
  refine Wp.topi (y := 11) (h80 1 (by decide)) ?_
  refine Wp.run 5 (36, [(5, .int 0), (0, .ref 66), (1, .int 3), (2, .int (nI i)), (3, .int 1), (4, .int x)], [.int (mi 79 0)], (zsh ++ vs, mi, ml, (zmr g))) rfl ?_
  refine Wp.topi (y := -1) (h79 0 (by decide)) ?_
  refine Wp.run 10 (50, [(6, .int (-1)), (5, .int 0), (0, .ref 66), (1, .int 3), (2, .int (nI i)), (3, .int 1), (4, .int x)], [.int (mi 80 1), .ref 66], (zsh ++ vs, mi, ml, (zmr g))) rfl ?_
  refine Wp.topi (y := 11) (h80 1 (by decide)) ?_
  refine Wp.run 0 (50, [(6, .int (-1)), (5, .int 0), (0, .ref 66), (1, .int 3), (2, .int (nI i)), (3, .int 1), (4, .int x)], [.int 11, .ref 66], (zsh ++ vs, mi, ml, (zmr g))) rfl ?_
  refine Wp.call (as := [.ref 66, .int 11]) (rest := []) rfl rfl rfl rfl rfl (Nat.le_of_ble_eq_true rfl) (Nat.le_of_ble_eq_true rfl) rfl (by decide) (m_body_1 (b := 11) h1) ?_
  rintro _ _ ⟨rfl, rfl⟩
  refine Wp.run 5 (154, [(6, .int (-1)), (5, .int 0), (0, .ref 66), (1, .int 3), (2, .int (nI i)), (3, .int 1), (4, .int x)], [.int x, .int 0, .int (nI i), .ref 66], (zsh ++ vs, (zup (zup mi 81 1 11) 66 24 2), ml, (zmr g))) rfl ?_
  refine Wp.call (as := [.ref 66, .int (nI i), .int 0, .int x]) (rest := []) rfl rfl rfl rfl rfl (Nat.le_of_ble_eq_true rfl) (Nat.le_of_ble_eq_true rfl) rfl (by decide) (m_al_6_6_0_2 (mi := (zup (zup mi 81 1 11) 66 24 2)) (x := x) (i := i) hi rfl h2 h4 h79 h80) ?_
  rintro _ _ ⟨rfl, rfl⟩
  refine Wp.run 3 (160, [(6, .int (-1)), (5, .int 0), (0, .ref 66), (1, .int 3), (2, .int (nI i)), (3, .int 1), (4, .int x)], [.int 1, .int (nI i), .ref 66, .int ((x + (nI i)) ^^^ v)], (zsh ++ vs, (zup (zup (zup (zup (zup (zup mi 81 1 11) 66 24 2) 81 2 71) 66 24 3) 81 3 10) 66 24 4), ml, (zmr g))) rfl ?_
  refine Wp.call (as := [.ref 66, .int (nI i), .int 1]) (rest := [.int ((x + (nI i)) ^^^ v)]) rfl rfl rfl rfl rfl (Nat.le_of_ble_eq_true rfl) (Nat.le_of_ble_eq_true rfl) rfl (by decide) (m_one (mi := (zup (zup (zup (zup (zup (zup mi 81 1 11) 66 24 2) 81 2 71) 66 24 3) 81 3 10) 66 24 4)) i 1 (by omega)) ?_
  rintro _ _ ⟨rfl, rfl⟩
  refine Wp.topi (y := v) (h4) ?_
  refine Wp.run 1 (164, [(6, .int (-1)), (5, .int 0), (0, .ref 66), (1, .int 3), (2, .int (nI i)), (3, .int 1), (4, .int x)], [.int (((x + (nI i)) ^^^ v) - v)], (zsh ++ vs, (zup (zup (zup (zup (zup (zup mi 81 1 11) 66 24 2) 81 2 71) 66 24 3) 81 3 10) 66 24 4), ml, (zmr g))) rfl ?_
  refine Wp.ret rfl rfl rfl ?_
  exact ⟨rfl, rfl⟩
theorem m_bk_6_3_0_4 {E : zEn} {vs : List (Nat × Nat)} {mi : Nat → Nat → Int32} {ml : Nat → Nat → Int64} {g : Nat → Nat → Option Nat} {x v : Int32} {i : Nat} (hi : i < 6) (h1 : mi 66 24 = 4) (h2 : mi 67 (8 + 10 * i + 0) = 6) (h4 : mi 67 (8 + 10 * i + 1) = v) (h79 : ∀ k, k < 7 → mi 79 k = zab9.getD k 0) (h80 : ∀ k, k < 21 → mi 80 k = zbo.getD k 0) : Wp E 1 pg_M_byKind 0 (lv_args 0 [.ref 66, .int 3, .int (nI i), .int 0, .int x]) [] (zsh ++ vs, mi, ml, (zmr g)) (fun r w' => r = some (.int (x + (nI i))) ∧ w' = (zsh ++ vs, (zup (zup mi 81 4 10) 66 24 5), ml, zmr g)) := by
  refine Wp.run 10 (14, [(5, .int 3), (0, .ref 66), (1, .int 3), (2, .int (nI i)), (3, .int 0), (4, .int x)], [.int (mi 80 9)], (zsh ++ vs, mi, ml, (zmr g))) rfl ?_
  refine Wp.topi (y := 0) (h80 9 (by decide)) ?_
  refine Wp.run 5 (24, [(5, .int 3), (0, .ref 66), (1, .int 3), (2, .int (nI i)), (3, .int 0), (4, .int x)], [.int (mi 79 3)], (zsh ++ vs, mi, ml, (zmr g))) rfl ?_
  refine Wp.topi (y := 0) (h79 3 (by decide)) ?_
  refine Wp.run 2 (3, [(5, .int 0), (0, .ref 66), (1, .int 3), (2, .int (nI i)), (3, .int 0), (4, .int x)], [], (zsh ++ vs, mi, ml, (zmr g))) rfl ?_
  refine Wp.run 8 (14, [(5, .int 0), (0, .ref 66), (1, .int 3), (2, .int (nI i)), (3, .int 0), (4, .int x)], [.int (mi 80 0)], (zsh ++ vs, mi, ml, (zmr g))) rfl ?_
  refine Wp.topi (y := 10) (h80 0 (by decide)) ?_
  refine Wp.run 5 (36, [(5, .int 0), (0, .ref 66), (1, .int 3), (2, .int (nI i)), (3, .int 0), (4, .int x)], [.int (mi 79 0)], (zsh ++ vs, mi, ml, (zmr g))) rfl ?_
  refine Wp.topi (y := -1) (h79 0 (by decide)) ?_
  refine Wp.run 10 (50, [(6, .int (-1)), (5, .int 0), (0, .ref 66), (1, .int 3), (2, .int (nI i)), (3, .int 0), (4, .int x)], [.int (mi 80 0), .ref 66], (zsh ++ vs, mi, ml, (zmr g))) rfl ?_
  refine Wp.topi (y := 10) (h80 0 (by decide)) ?_
  refine Wp.run 0 (50, [(6, .int (-1)), (5, .int 0), (0, .ref 66), (1, .int 3), (2, .int (nI i)), (3, .int 0), (4, .int x)], [.int 10, .ref 66], (zsh ++ vs, mi, ml, (zmr g))) rfl ?_
  refine Wp.call (as := [.ref 66, .int 10]) (rest := []) rfl rfl rfl rfl rfl (Nat.le_of_ble_eq_true rfl) (Nat.le_of_ble_eq_true rfl) rfl (by decide) (m_body_4 (b := 10) h1) ?_
  rintro _ _ ⟨rfl, rfl⟩
  refine Wp.run 4 (148, [(6, .int (-1)), (5, .int 0), (0, .ref 66), (1, .int 3), (2, .int (nI i)), (3, .int 0), (4, .int x)], [.int (x + (nI i))], (zsh ++ vs, (zup (zup mi 81 4 10) 66 24 5), ml, (zmr g))) rfl ?_
  refine Wp.ret rfl rfl rfl ?_
  exact ⟨rfl, rfl⟩
theorem m_bk_6_6_1_0 {E : zEn} {vs : List (Nat × Nat)} {mi : Nat → Nat → Int32} {ml : Nat → Nat → Int64} {g : Nat → Nat → Option Nat} {x v : Int32} {i : Nat} (hi : i < 6) (h1 : mi 66 24 = 0) (h2 : mi 67 (8 + 10 * i + 0) = 6) (h4 : mi 67 (8 + 10 * i + 1) = v) (h79 : ∀ k, k < 7 → mi 79 k = zab9.getD k 0) (h80 : ∀ k, k < 21 → mi 80 k = zbo.getD k 0) : Wp E 5 pg_M_byKind 0 (lv_args 0 [.ref 66, .int 6, .int (nI i), .int 1, .int x]) [] (zsh ++ vs, mi, ml, (zmr g)) (fun r w' => r = some (.int ((((x + (nI i)) ^^^ v) - v) + (2 + (nI i)))) ∧ w' = (zsh ++ vs, (zup (zup (zup (zup (zup (zup (zup (zup (zup (zup mi 81 0 70) 66 24 1) 81 1 11) 66 24 2) 81 2 71) 66 24 3) 81 3 10) 66 24 4) 81 4 10) 66 24 5), ml, zmr g)) := by
  refine Wp.run 10 (14, [(5, .int 6), (0, .ref 66), (1, .int 6), (2, .int (nI i)), (3, .int 1), (4, .int x)], [.int (mi 80 19)], (zsh ++ vs, mi, ml, (zmr g))) rfl ?_
  refine Wp.topi (y := 70) (h80 19 (by decide)) ?_
  refine Wp.run 5 (36, [(5, .int 6), (0, .ref 66), (1, .int 6), (2, .int (nI i)), (3, .int 1), (4, .int x)], [.int (mi 79 6)], (zsh ++ vs, mi, ml, (zmr g))) rfl ?_
  refine Wp.topi (y := 3) (h79 6 (by decide)) ?_
  refine Wp.run 10 (50, [(6, .int 3), (5, .int 6), (0, .ref 66), (1, .int 6), (2, .int (nI i)), (3, .int 1), (4, .int x)], [.int (mi 80 19), .ref 66], (zsh ++ vs, mi, ml, (zmr g))) rfl ?_
  refine Wp.topi (y := 70) (h80 19 (by decide)) ?_
  refine Wp.run 0 (50, [(6, .int 3), (5, .int 6), (0, .ref 66), (1, .int 6), (2, .int (nI i)), (3, .int 1), (4, .int x)], [.int 70, .ref 66], (zsh ++ vs, mi, ml, (zmr g))) rfl ?_
  refine Wp.call (as := [.ref 66, .int 70]) (rest := []) rfl rfl rfl rfl rfl (Nat.le_of_ble_eq_true rfl) (Nat.le_of_ble_eq_true rfl) rfl (by decide) (m_body_0 (b := 70) h1) ?_
  rintro _ _ ⟨rfl, rfl⟩
  refine Wp.run 6 (267, [(6, .int 3), (5, .int 6), (0, .ref 66), (1, .int 6), (2, .int (nI i)), (3, .int 1), (4, .int x)], [.int x, .int 1, .int (nI i), .int 3, .ref 66], (zsh ++ vs, (zup (zup mi 81 0 70) 66 24 1), ml, (zmr g))) rfl ?_
  refine Wp.call (as := [.ref 66, .int 3, .int (nI i), .int 1, .int x]) (rest := []) rfl rfl rfl rfl rfl (Nat.le_of_ble_eq_true rfl) (Nat.le_of_ble_eq_true rfl) rfl (by decide) (m_bk_6_3_1_1 (mi := (zup (zup mi 81 0 70) 66 24 1)) (x := x) (i := i) hi rfl h2 h4 h79 h80) ?_
  rintro _ _ ⟨rfl, rfl⟩
  refine Wp.run 5 (276, [(6, .int 3), (5, .int 6), (0, .ref 66), (1, .int 6), (2, .int (nI i)), (3, .int 1), (4, .int x)], [.int 2, .int 0, .int (nI i), .int 3, .ref 66, .int (((x + (nI i)) ^^^ v) - v)], (zsh ++ vs, (zup (zup (zup (zup (zup (zup (zup (zup mi 81 0 70) 66 24 1) 81 1 11) 66 24 2) 81 2 71) 66 24 3) 81 3 10) 66 24 4), ml, (zmr g))) rfl ?_
  refine Wp.call (as := [.ref 66, .int 3, .int (nI i), .int 0, .int 2]) (rest := [.int (((x + (nI i)) ^^^ v) - v)]) rfl rfl rfl rfl rfl (Nat.le_of_ble_eq_true rfl) (Nat.le_of_ble_eq_true rfl) rfl (by decide) (m_bk_6_3_0_4 (mi := (zup (zup (zup (zup (zup (zup (zup (zup mi 81 0 70) 66 24 1) 81 1 11) 66 24 2) 81 2 71) 66 24 3) 81 3 10) 66 24 4)) (x := 2) (i := i) hi rfl h2 h4 h79 h80) ?_
  rintro _ _ ⟨rfl, rfl⟩
  refine Wp.run 1 (280, [(6, .int 3), (5, .int 6), (0, .ref 66), (1, .int 6), (2, .int (nI i)), (3, .int 1), (4, .int x)], [.int ((((x + (nI i)) ^^^ v) - v) + (2 + (nI i)))], (zsh ++ vs, (zup (zup (zup (zup (zup (zup (zup (zup (zup (zup mi 81 0 70) 66 24 1) 81 1 11) 66 24 2) 81 2 71) 66 24 3) 81 3 10) 66 24 4) 81 4 10) 66 24 5), ml, (zmr g))) rfl ?_
  refine Wp.ret rfl rfl rfl ?_
  exact ⟨rfl, rfl⟩
theorem m_al_6_6_1_0 {E : zEn} {vs : List (Nat × Nat)} {mi : Nat → Nat → Int32} {ml : Nat → Nat → Int64} {g : Nat → Nat → Option Nat} {x v : Int32} {i : Nat} (hi : i < 6) (h1 : mi 66 24 = 0) (h2 : mi 67 (8 + 10 * i + 0) = 6) (h4 : mi 67 (8 + 10 * i + 1) = v) (h79 : ∀ k, k < 7 → mi 79 k = zab9.getD k 0) (h80 : ∀ k, k < 21 → mi 80 k = zbo.getD k 0) : Wp E 6 pg_M_all 0 (lv_args 0 [.ref 66, .int (nI i), .int 1, .int x]) [] (zsh ++ vs, mi, ml, (zmr g)) (fun r w' => r = some (.int ((((x + (nI i)) ^^^ v) - v) + (2 + (nI i)))) ∧ w' = (zsh ++ vs, (zup (zup (zup (zup (zup (zup (zup (zup (zup (zup mi 81 0 70) 66 24 1) 81 1 11) 66 24 2) 81 2 71) 66 24 3) 81 3 10) 66 24 4) 81 4 10) 66 24 5), ml, zmr g)) := by
  refine Wp.run 4 (4, [(0, .ref 66), (1, .int (nI i)), (2, .int 1), (3, .int x)], [.int 0, .int (nI i), .ref 66, .ref 66], (zsh ++ vs, mi, ml, (zmr g))) rfl ?_
  refine Wp.call (as := [.ref 66, .int (nI i), .int 0]) (rest := [.ref 66]) rfl rfl rfl rfl rfl (Nat.le_of_ble_eq_true rfl) (Nat.le_of_ble_eq_true rfl) rfl (by decide) (m_one (mi := mi) i 0 (by omega)) ?_
  rintro _ _ ⟨rfl, rfl⟩
  refine Wp.topi (y := 6) (h2) ?_
  refine Wp.run 3 (10, [(0, .ref 66), (1, .int (nI i)), (2, .int 1), (3, .int x)], [.int x, .int 1, .int (nI i), .int 6, .ref 66], (zsh ++ vs, mi, ml, (zmr g))) rfl ?_
  refine Wp.call (as := [.ref 66, .int 6, .int (nI i), .int 1, .int x]) (rest := []) rfl rfl rfl rfl rfl (Nat.le_of_ble_eq_true rfl) (Nat.le_of_ble_eq_true rfl) rfl (by decide) (m_bk_6_6_1_0 hi h1 h2 h4 h79 h80) ?_
  rintro _ _ ⟨rfl, rfl⟩
  refine Wp.run 0 (13, [(0, .ref 66), (1, .int (nI i)), (2, .int 1), (3, .int x)], [.int ((((x + (nI i)) ^^^ v) - v) + (2 + (nI i)))], (zsh ++ vs, (zup (zup (zup (zup (zup (zup (zup (zup (zup (zup mi 81 0 70) 66 24 1) 81 1 11) 66 24 2) 81 2 71) 66 24 3) 81 3 10) 66 24 4) 81 4 10) 66 24 5), ml, (zmr g))) rfl ?_
  refine Wp.ret rfl rfl rfl ?_
  exact ⟨rfl, rfl⟩
theorem m_bk_6_3_0_5 {E : zEn} {vs : List (Nat × Nat)} {mi : Nat → Nat → Int32} {ml : Nat → Nat → Int64} {g : Nat → Nat → Option Nat} {x v : Int32} {i : Nat} (hi : i < 6) (h1 : mi 66 24 = 5) (h2 : mi 67 (8 + 10 * i + 0) = 6) (h4 : mi 67 (8 + 10 * i + 1) = v) (h79 : ∀ k, k < 7 → mi 79 k = zab9.getD k 0) (h80 : ∀ k, k < 21 → mi 80 k = zbo.getD k 0) : Wp E 1 pg_M_byKind 0 (lv_args 0 [.ref 66, .int 3, .int (nI i), .int 0, .int x]) [] (zsh ++ vs, mi, ml, (zmr g)) (fun r w' => r = some (.int (x + (nI i))) ∧ w' = (zsh ++ vs, (zup (zup mi 81 5 10) 66 24 6), ml, zmr g)) := by
  refine Wp.run 10 (14, [(5, .int 3), (0, .ref 66), (1, .int 3), (2, .int (nI i)), (3, .int 0), (4, .int x)], [.int (mi 80 9)], (zsh ++ vs, mi, ml, (zmr g))) rfl ?_
  refine Wp.topi (y := 0) (h80 9 (by decide)) ?_
  refine Wp.run 5 (24, [(5, .int 3), (0, .ref 66), (1, .int 3), (2, .int (nI i)), (3, .int 0), (4, .int x)], [.int (mi 79 3)], (zsh ++ vs, mi, ml, (zmr g))) rfl ?_
  refine Wp.topi (y := 0) (h79 3 (by decide)) ?_
  refine Wp.run 2 (3, [(5, .int 0), (0, .ref 66), (1, .int 3), (2, .int (nI i)), (3, .int 0), (4, .int x)], [], (zsh ++ vs, mi, ml, (zmr g))) rfl ?_
  refine Wp.run 8 (14, [(5, .int 0), (0, .ref 66), (1, .int 3), (2, .int (nI i)), (3, .int 0), (4, .int x)], [.int (mi 80 0)], (zsh ++ vs, mi, ml, (zmr g))) rfl ?_
  refine Wp.topi (y := 10) (h80 0 (by decide)) ?_
  refine Wp.run 5 (36, [(5, .int 0), (0, .ref 66), (1, .int 3), (2, .int (nI i)), (3, .int 0), (4, .int x)], [.int (mi 79 0)], (zsh ++ vs, mi, ml, (zmr g))) rfl ?_
  refine Wp.topi (y := -1) (h79 0 (by decide)) ?_
  refine Wp.run 10 (50, [(6, .int (-1)), (5, .int 0), (0, .ref 66), (1, .int 3), (2, .int (nI i)), (3, .int 0), (4, .int x)], [.int (mi 80 0), .ref 66], (zsh ++ vs, mi, ml, (zmr g))) rfl ?_
  refine Wp.topi (y := 10) (h80 0 (by decide)) ?_
  refine Wp.run 0 (50, [(6, .int (-1)), (5, .int 0), (0, .ref 66), (1, .int 3), (2, .int (nI i)), (3, .int 0), (4, .int x)], [.int 10, .ref 66], (zsh ++ vs, mi, ml, (zmr g))) rfl ?_
  refine Wp.call (as := [.ref 66, .int 10]) (rest := []) rfl rfl rfl rfl rfl (Nat.le_of_ble_eq_true rfl) (Nat.le_of_ble_eq_true rfl) rfl (by decide) (m_body_5 (b := 10) h1) ?_
  rintro _ _ ⟨rfl, rfl⟩
  refine Wp.run 4 (148, [(6, .int (-1)), (5, .int 0), (0, .ref 66), (1, .int 3), (2, .int (nI i)), (3, .int 0), (4, .int x)], [.int (x + (nI i))], (zsh ++ vs, (zup (zup mi 81 5 10) 66 24 6), ml, (zmr g))) rfl ?_
  refine Wp.ret rfl rfl rfl ?_
  exact ⟨rfl, rfl⟩
theorem m_bk_6_6_0_4 {E : zEn} {vs : List (Nat × Nat)} {mi : Nat → Nat → Int32} {ml : Nat → Nat → Int64} {g : Nat → Nat → Option Nat} {x v : Int32} {i : Nat} (hi : i < 6) (h1 : mi 66 24 = 4) (h2 : mi 67 (8 + 10 * i + 0) = 6) (h4 : mi 67 (8 + 10 * i + 1) = v) (h79 : ∀ k, k < 7 → mi 79 k = zab9.getD k 0) (h80 : ∀ k, k < 21 → mi 80 k = zbo.getD k 0) : Wp E 2 pg_M_byKind 0 (lv_args 0 [.ref 66, .int 6, .int (nI i), .int 0, .int x]) [] (zsh ++ vs, mi, ml, (zmr g)) (fun r w' => r = some (.int ((x + (nI i)) ^^^ v)) ∧ w' = (zsh ++ vs, (zup (zup (zup (zup mi 81 4 71) 66 24 5) 81 5 10) 66 24 6), ml, zmr g)) := by
  refine Wp.run 10 (14, [(5, .int 6), (0, .ref 66), (1, .int 6), (2, .int (nI i)), (3, .int 0), (4, .int x)], [.int (mi 80 18)], (zsh ++ vs, mi, ml, (zmr g))) rfl ?_
  refine Wp.topi (y := 71) (h80 18 (by decide)) ?_
  refine Wp.run 5 (36, [(5, .int 6), (0, .ref 66), (1, .int 6), (2, .int (nI i)), (3, .int 0), (4, .int x)], [.int (mi 79 6)], (zsh ++ vs, mi, ml, (zmr g))) rfl ?_
  refine Wp.topi (y := 3) (h79 6 (by decide)) ?_
  refine Wp.run 10 (50, [(6, .int 3), (5, .int 6), (0, .ref 66), (1, .int 6), (2, .int (nI i)), (3, .int 0), (4, .int x)], [.int (mi 80 18), .ref 66], (zsh ++ vs, mi, ml, (zmr g))) rfl ?_
  refine Wp.topi (y := 71) (h80 18 (by decide)) ?_
  refine Wp.run 0 (50, [(6, .int 3), (5, .int 6), (0, .ref 66), (1, .int 6), (2, .int (nI i)), (3, .int 0), (4, .int x)], [.int 71, .ref 66], (zsh ++ vs, mi, ml, (zmr g))) rfl ?_
  refine Wp.call (as := [.ref 66, .int 71]) (rest := []) rfl rfl rfl rfl rfl (Nat.le_of_ble_eq_true rfl) (Nat.le_of_ble_eq_true rfl) rfl (by decide) (m_body_4 (b := 71) h1) ?_
  rintro _ _ ⟨rfl, rfl⟩
  refine Wp.run 6 (288, [(6, .int 3), (5, .int 6), (0, .ref 66), (1, .int 6), (2, .int (nI i)), (3, .int 0), (4, .int x)], [.int x, .int 0, .int (nI i), .int 3, .ref 66], (zsh ++ vs, (zup (zup mi 81 4 71) 66 24 5), ml, (zmr g))) rfl ?_
  refine Wp.call (as := [.ref 66, .int 3, .int (nI i), .int 0, .int x]) (rest := []) rfl rfl rfl rfl rfl (Nat.le_of_ble_eq_true rfl) (Nat.le_of_ble_eq_true rfl) rfl (by decide) (m_bk_6_3_0_5 (mi := (zup (zup mi 81 4 71) 66 24 5)) (x := x) (i := i) hi rfl h2 h4 h79 h80) ?_
  rintro _ _ ⟨rfl, rfl⟩
  refine Wp.run 3 (294, [(6, .int 3), (5, .int 6), (0, .ref 66), (1, .int 6), (2, .int (nI i)), (3, .int 0), (4, .int x)], [.int 1, .int (nI i), .ref 66, .int (x + (nI i))], (zsh ++ vs, (zup (zup (zup (zup mi 81 4 71) 66 24 5) 81 5 10) 66 24 6), ml, (zmr g))) rfl ?_
  refine Wp.call (as := [.ref 66, .int (nI i), .int 1]) (rest := [.int (x + (nI i))]) rfl rfl rfl rfl rfl (Nat.le_of_ble_eq_true rfl) (Nat.le_of_ble_eq_true rfl) rfl (by decide) (m_one (mi := (zup (zup (zup (zup mi 81 4 71) 66 24 5) 81 5 10) 66 24 6)) i 1 (by omega)) ?_
  rintro _ _ ⟨rfl, rfl⟩
  refine Wp.topi (y := v) (h4) ?_
  refine Wp.run 1 (298, [(6, .int 3), (5, .int 6), (0, .ref 66), (1, .int 6), (2, .int (nI i)), (3, .int 0), (4, .int x)], [.int ((x + (nI i)) ^^^ v)], (zsh ++ vs, (zup (zup (zup (zup mi 81 4 71) 66 24 5) 81 5 10) 66 24 6), ml, (zmr g))) rfl ?_
  refine Wp.ret rfl rfl rfl ?_
  exact ⟨rfl, rfl⟩
theorem m_al_6_6_0_4 {E : zEn} {vs : List (Nat × Nat)} {mi : Nat → Nat → Int32} {ml : Nat → Nat → Int64} {g : Nat → Nat → Option Nat} {x v : Int32} {i : Nat} (hi : i < 6) (h1 : mi 66 24 = 4) (h2 : mi 67 (8 + 10 * i + 0) = 6) (h4 : mi 67 (8 + 10 * i + 1) = v) (h79 : ∀ k, k < 7 → mi 79 k = zab9.getD k 0) (h80 : ∀ k, k < 21 → mi 80 k = zbo.getD k 0) : Wp E 3 pg_M_all 0 (lv_args 0 [.ref 66, .int (nI i), .int 0, .int x]) [] (zsh ++ vs, mi, ml, (zmr g)) (fun r w' => r = some (.int ((x + (nI i)) ^^^ v)) ∧ w' = (zsh ++ vs, (zup (zup (zup (zup mi 81 4 71) 66 24 5) 81 5 10) 66 24 6), ml, zmr g)) := by
  refine Wp.run 4 (4, [(0, .ref 66), (1, .int (nI i)), (2, .int 0), (3, .int x)], [.int 0, .int (nI i), .ref 66, .ref 66], (zsh ++ vs, mi, ml, (zmr g))) rfl ?_
  refine Wp.call (as := [.ref 66, .int (nI i), .int 0]) (rest := [.ref 66]) rfl rfl rfl rfl rfl (Nat.le_of_ble_eq_true rfl) (Nat.le_of_ble_eq_true rfl) rfl (by decide) (m_one (mi := mi) i 0 (by omega)) ?_
  rintro _ _ ⟨rfl, rfl⟩
  refine Wp.topi (y := 6) (h2) ?_
  refine Wp.run 3 (10, [(0, .ref 66), (1, .int (nI i)), (2, .int 0), (3, .int x)], [.int x, .int 0, .int (nI i), .int 6, .ref 66], (zsh ++ vs, mi, ml, (zmr g))) rfl ?_
  refine Wp.call (as := [.ref 66, .int 6, .int (nI i), .int 0, .int x]) (rest := []) rfl rfl rfl rfl rfl (Nat.le_of_ble_eq_true rfl) (Nat.le_of_ble_eq_true rfl) rfl (by decide) (m_bk_6_6_0_4 hi h1 h2 h4 h79 h80) ?_
  rintro _ _ ⟨rfl, rfl⟩
  refine Wp.run 0 (13, [(0, .ref 66), (1, .int (nI i)), (2, .int 0), (3, .int x)], [.int ((x + (nI i)) ^^^ v)], (zsh ++ vs, (zup (zup (zup (zup mi 81 4 71) 66 24 5) 81 5 10) 66 24 6), ml, (zmr g))) rfl ?_
  refine Wp.ret rfl rfl rfl ?_
  exact ⟨rfl, rfl⟩
theorem m_bk_6_3_1_3 {E : zEn} {vs : List (Nat × Nat)} {mi : Nat → Nat → Int32} {ml : Nat → Nat → Int64} {g : Nat → Nat → Option Nat} {x v : Int32} {i : Nat} (hi : i < 6) (h1 : mi 66 24 = 3) (h2 : mi 67 (8 + 10 * i + 0) = 6) (h4 : mi 67 (8 + 10 * i + 1) = v) (h79 : ∀ k, k < 7 → mi 79 k = zab9.getD k 0) (h80 : ∀ k, k < 21 → mi 80 k = zbo.getD k 0) : Wp E 4 pg_M_byKind 0 (lv_args 0 [.ref 66, .int 3, .int (nI i), .int 1, .int x]) [] (zsh ++ vs, mi, ml, (zmr g)) (fun r w' => r = some (.int (((x + (nI i)) ^^^ v) - v)) ∧ w' = (zsh ++ vs, (zup (zup (zup (zup (zup (zup mi 81 3 11) 66 24 4) 81 4 71) 66 24 5) 81 5 10) 66 24 6), ml, zmr g)) := by
  refine Wp.run 10 (14, [(5, .int 3), (0, .ref 66), (1, .int 3), (2, .int (nI i)), (3, .int 1), (4, .int x)], [.int (mi 80 10)], (zsh ++ vs, mi, ml, (zmr g))) rfl ?_
  refine Wp.topi (y := 0) (h80 10 (by decide)) ?_
  refine Wp.run 5 (24, [(5, .int 3), (0, .ref 66), (1, .int 3), (2, .int (nI i)), (3, .int 1), (4, .int x)], [.int (mi 79 3)], (zsh ++ vs, mi, ml, (zmr g))) rfl ?_
  refine Wp.topi (y := 0) (h79 3 (by decide)) ?_
  refine Wp.run 2 (3, [(5, .int 0), (0, .ref 66), (1, .int 3), (2, .int (nI i)), (3, .int 1), (4, .int x)], [], (zsh ++ vs, mi, ml, (zmr g))) rfl ?_
  refine Wp.run 8 (14, [(5, .int 0), (0, .ref 66), (1, .int 3), (2, .int (nI i)), (3, .int 1), (4, .int x)], [.int (mi 80 1)], (zsh ++ vs, mi, ml, (zmr g))) rfl ?_
  refine Wp.topi (y := 11) (h80 1 (by decide)) ?_
  refine Wp.run 5 (36, [(5, .int 0), (0, .ref 66), (1, .int 3), (2, .int (nI i)), (3, .int 1), (4, .int x)], [.int (mi 79 0)], (zsh ++ vs, mi, ml, (zmr g))) rfl ?_
  refine Wp.topi (y := -1) (h79 0 (by decide)) ?_
  refine Wp.run 10 (50, [(6, .int (-1)), (5, .int 0), (0, .ref 66), (1, .int 3), (2, .int (nI i)), (3, .int 1), (4, .int x)], [.int (mi 80 1), .ref 66], (zsh ++ vs, mi, ml, (zmr g))) rfl ?_
  refine Wp.topi (y := 11) (h80 1 (by decide)) ?_
  refine Wp.run 0 (50, [(6, .int (-1)), (5, .int 0), (0, .ref 66), (1, .int 3), (2, .int (nI i)), (3, .int 1), (4, .int x)], [.int 11, .ref 66], (zsh ++ vs, mi, ml, (zmr g))) rfl ?_
  refine Wp.call (as := [.ref 66, .int 11]) (rest := []) rfl rfl rfl rfl rfl (Nat.le_of_ble_eq_true rfl) (Nat.le_of_ble_eq_true rfl) rfl (by decide) (m_body_3 (b := 11) h1) ?_
  rintro _ _ ⟨rfl, rfl⟩
  refine Wp.run 5 (154, [(6, .int (-1)), (5, .int 0), (0, .ref 66), (1, .int 3), (2, .int (nI i)), (3, .int 1), (4, .int x)], [.int x, .int 0, .int (nI i), .ref 66], (zsh ++ vs, (zup (zup mi 81 3 11) 66 24 4), ml, (zmr g))) rfl ?_
  refine Wp.call (as := [.ref 66, .int (nI i), .int 0, .int x]) (rest := []) rfl rfl rfl rfl rfl (Nat.le_of_ble_eq_true rfl) (Nat.le_of_ble_eq_true rfl) rfl (by decide) (m_al_6_6_0_4 (mi := (zup (zup mi 81 3 11) 66 24 4)) (x := x) (i := i) hi rfl h2 h4 h79 h80) ?_
  rintro _ _ ⟨rfl, rfl⟩
  refine Wp.run 3 (160, [(6, .int (-1)), (5, .int 0), (0, .ref 66), (1, .int 3), (2, .int (nI i)), (3, .int 1), (4, .int x)], [.int 1, .int (nI i), .ref 66, .int ((x + (nI i)) ^^^ v)], (zsh ++ vs, (zup (zup (zup (zup (zup (zup mi 81 3 11) 66 24 4) 81 4 71) 66 24 5) 81 5 10) 66 24 6), ml, (zmr g))) rfl ?_
  refine Wp.call (as := [.ref 66, .int (nI i), .int 1]) (rest := [.int ((x + (nI i)) ^^^ v)]) rfl rfl rfl rfl rfl (Nat.le_of_ble_eq_true rfl) (Nat.le_of_ble_eq_true rfl) rfl (by decide) (m_one (mi := (zup (zup (zup (zup (zup (zup mi 81 3 11) 66 24 4) 81 4 71) 66 24 5) 81 5 10) 66 24 6)) i 1 (by omega)) ?_
  rintro _ _ ⟨rfl, rfl⟩
  refine Wp.topi (y := v) (h4) ?_
  refine Wp.run 1 (164, [(6, .int (-1)), (5, .int 0), (0, .ref 66), (1, .int 3), (2, .int (nI i)), (3, .int 1), (4, .int x)], [.int (((x + (nI i)) ^^^ v) - v)], (zsh ++ vs, (zup (zup (zup (zup (zup (zup mi 81 3 11) 66 24 4) 81 4 71) 66 24 5) 81 5 10) 66 24 6), ml, (zmr g))) rfl ?_
  refine Wp.ret rfl rfl rfl ?_
  exact ⟨rfl, rfl⟩
theorem m_bk_6_3_0_6 {E : zEn} {vs : List (Nat × Nat)} {mi : Nat → Nat → Int32} {ml : Nat → Nat → Int64} {g : Nat → Nat → Option Nat} {x v : Int32} {i : Nat} (hi : i < 6) (h1 : mi 66 24 = 6) (h2 : mi 67 (8 + 10 * i + 0) = 6) (h4 : mi 67 (8 + 10 * i + 1) = v) (h79 : ∀ k, k < 7 → mi 79 k = zab9.getD k 0) (h80 : ∀ k, k < 21 → mi 80 k = zbo.getD k 0) : Wp E 1 pg_M_byKind 0 (lv_args 0 [.ref 66, .int 3, .int (nI i), .int 0, .int x]) [] (zsh ++ vs, mi, ml, (zmr g)) (fun r w' => r = some (.int (x + (nI i))) ∧ w' = (zsh ++ vs, (zup (zup mi 81 6 10) 66 24 7), ml, zmr g)) := by
  refine Wp.run 10 (14, [(5, .int 3), (0, .ref 66), (1, .int 3), (2, .int (nI i)), (3, .int 0), (4, .int x)], [.int (mi 80 9)], (zsh ++ vs, mi, ml, (zmr g))) rfl ?_
  refine Wp.topi (y := 0) (h80 9 (by decide)) ?_
  refine Wp.run 5 (24, [(5, .int 3), (0, .ref 66), (1, .int 3), (2, .int (nI i)), (3, .int 0), (4, .int x)], [.int (mi 79 3)], (zsh ++ vs, mi, ml, (zmr g))) rfl ?_
  refine Wp.topi (y := 0) (h79 3 (by decide)) ?_
  refine Wp.run 2 (3, [(5, .int 0), (0, .ref 66), (1, .int 3), (2, .int (nI i)), (3, .int 0), (4, .int x)], [], (zsh ++ vs, mi, ml, (zmr g))) rfl ?_
  refine Wp.run 8 (14, [(5, .int 0), (0, .ref 66), (1, .int 3), (2, .int (nI i)), (3, .int 0), (4, .int x)], [.int (mi 80 0)], (zsh ++ vs, mi, ml, (zmr g))) rfl ?_
  refine Wp.topi (y := 10) (h80 0 (by decide)) ?_
  refine Wp.run 5 (36, [(5, .int 0), (0, .ref 66), (1, .int 3), (2, .int (nI i)), (3, .int 0), (4, .int x)], [.int (mi 79 0)], (zsh ++ vs, mi, ml, (zmr g))) rfl ?_
  refine Wp.topi (y := -1) (h79 0 (by decide)) ?_
  refine Wp.run 10 (50, [(6, .int (-1)), (5, .int 0), (0, .ref 66), (1, .int 3), (2, .int (nI i)), (3, .int 0), (4, .int x)], [.int (mi 80 0), .ref 66], (zsh ++ vs, mi, ml, (zmr g))) rfl ?_
  refine Wp.topi (y := 10) (h80 0 (by decide)) ?_
  refine Wp.run 0 (50, [(6, .int (-1)), (5, .int 0), (0, .ref 66), (1, .int 3), (2, .int (nI i)), (3, .int 0), (4, .int x)], [.int 10, .ref 66], (zsh ++ vs, mi, ml, (zmr g))) rfl ?_
  refine Wp.call (as := [.ref 66, .int 10]) (rest := []) rfl rfl rfl rfl rfl (Nat.le_of_ble_eq_true rfl) (Nat.le_of_ble_eq_true rfl) rfl (by decide) (m_body_6 (b := 10) h1) ?_
  rintro _ _ ⟨rfl, rfl⟩
  refine Wp.run 4 (148, [(6, .int (-1)), (5, .int 0), (0, .ref 66), (1, .int 3), (2, .int (nI i)), (3, .int 0), (4, .int x)], [.int (x + (nI i))], (zsh ++ vs, (zup (zup mi 81 6 10) 66 24 7), ml, (zmr g))) rfl ?_
  refine Wp.ret rfl rfl rfl ?_
  exact ⟨rfl, rfl⟩
theorem m_bk_6_6_1_2 {E : zEn} {vs : List (Nat × Nat)} {mi : Nat → Nat → Int32} {ml : Nat → Nat → Int64} {g : Nat → Nat → Option Nat} {x v : Int32} {i : Nat} (hi : i < 6) (h1 : mi 66 24 = 2) (h2 : mi 67 (8 + 10 * i + 0) = 6) (h4 : mi 67 (8 + 10 * i + 1) = v) (h79 : ∀ k, k < 7 → mi 79 k = zab9.getD k 0) (h80 : ∀ k, k < 21 → mi 80 k = zbo.getD k 0) : Wp E 5 pg_M_byKind 0 (lv_args 0 [.ref 66, .int 6, .int (nI i), .int 1, .int x]) [] (zsh ++ vs, mi, ml, (zmr g)) (fun r w' => r = some (.int ((((x + (nI i)) ^^^ v) - v) + (2 + (nI i)))) ∧ w' = (zsh ++ vs, (zup (zup (zup (zup (zup (zup (zup (zup (zup (zup mi 81 2 70) 66 24 3) 81 3 11) 66 24 4) 81 4 71) 66 24 5) 81 5 10) 66 24 6) 81 6 10) 66 24 7), ml, zmr g)) := by
  refine Wp.run 10 (14, [(5, .int 6), (0, .ref 66), (1, .int 6), (2, .int (nI i)), (3, .int 1), (4, .int x)], [.int (mi 80 19)], (zsh ++ vs, mi, ml, (zmr g))) rfl ?_
  refine Wp.topi (y := 70) (h80 19 (by decide)) ?_
  refine Wp.run 5 (36, [(5, .int 6), (0, .ref 66), (1, .int 6), (2, .int (nI i)), (3, .int 1), (4, .int x)], [.int (mi 79 6)], (zsh ++ vs, mi, ml, (zmr g))) rfl ?_
  refine Wp.topi (y := 3) (h79 6 (by decide)) ?_
  refine Wp.run 10 (50, [(6, .int 3), (5, .int 6), (0, .ref 66), (1, .int 6), (2, .int (nI i)), (3, .int 1), (4, .int x)], [.int (mi 80 19), .ref 66], (zsh ++ vs, mi, ml, (zmr g))) rfl ?_
  refine Wp.topi (y := 70) (h80 19 (by decide)) ?_
  refine Wp.run 0 (50, [(6, .int 3), (5, .int 6), (0, .ref 66), (1, .int 6), (2, .int (nI i)), (3, .int 1), (4, .int x)], [.int 70, .ref 66], (zsh ++ vs, mi, ml, (zmr g))) rfl ?_
  refine Wp.call (as := [.ref 66, .int 70]) (rest := []) rfl rfl rfl rfl rfl (Nat.le_of_ble_eq_true rfl) (Nat.le_of_ble_eq_true rfl) rfl (by decide) (m_body_2 (b := 70) h1) ?_
  rintro _ _ ⟨rfl, rfl⟩
  refine Wp.run 6 (267, [(6, .int 3), (5, .int 6), (0, .ref 66), (1, .int 6), (2, .int (nI i)), (3, .int 1), (4, .int x)], [.int x, .int 1, .int (nI i), .int 3, .ref 66], (zsh ++ vs, (zup (zup mi 81 2 70) 66 24 3), ml, (zmr g))) rfl ?_
  refine Wp.call (as := [.ref 66, .int 3, .int (nI i), .int 1, .int x]) (rest := []) rfl rfl rfl rfl rfl (Nat.le_of_ble_eq_true rfl) (Nat.le_of_ble_eq_true rfl) rfl (by decide) (m_bk_6_3_1_3 (mi := (zup (zup mi 81 2 70) 66 24 3)) (x := x) (i := i) hi rfl h2 h4 h79 h80) ?_
  rintro _ _ ⟨rfl, rfl⟩
  refine Wp.run 5 (276, [(6, .int 3), (5, .int 6), (0, .ref 66), (1, .int 6), (2, .int (nI i)), (3, .int 1), (4, .int x)], [.int 2, .int 0, .int (nI i), .int 3, .ref 66, .int (((x + (nI i)) ^^^ v) - v)], (zsh ++ vs, (zup (zup (zup (zup (zup (zup (zup (zup mi 81 2 70) 66 24 3) 81 3 11) 66 24 4) 81 4 71) 66 24 5) 81 5 10) 66 24 6), ml, (zmr g))) rfl ?_
  refine Wp.call (as := [.ref 66, .int 3, .int (nI i), .int 0, .int 2]) (rest := [.int (((x + (nI i)) ^^^ v) - v)]) rfl rfl rfl rfl rfl (Nat.le_of_ble_eq_true rfl) (Nat.le_of_ble_eq_true rfl) rfl (by decide) (m_bk_6_3_0_6 (mi := (zup (zup (zup (zup (zup (zup (zup (zup mi 81 2 70) 66 24 3) 81 3 11) 66 24 4) 81 4 71) 66 24 5) 81 5 10) 66 24 6)) (x := 2) (i := i) hi rfl h2 h4 h79 h80) ?_
  rintro _ _ ⟨rfl, rfl⟩
  refine Wp.run 1 (280, [(6, .int 3), (5, .int 6), (0, .ref 66), (1, .int 6), (2, .int (nI i)), (3, .int 1), (4, .int x)], [.int ((((x + (nI i)) ^^^ v) - v) + (2 + (nI i)))], (zsh ++ vs, (zup (zup (zup (zup (zup (zup (zup (zup (zup (zup mi 81 2 70) 66 24 3) 81 3 11) 66 24 4) 81 4 71) 66 24 5) 81 5 10) 66 24 6) 81 6 10) 66 24 7), ml, (zmr g))) rfl ?_
  refine Wp.ret rfl rfl rfl ?_
  exact ⟨rfl, rfl⟩
theorem m_al_6_6_1_2 {E : zEn} {vs : List (Nat × Nat)} {mi : Nat → Nat → Int32} {ml : Nat → Nat → Int64} {g : Nat → Nat → Option Nat} {x v : Int32} {i : Nat} (hi : i < 6) (h1 : mi 66 24 = 2) (h2 : mi 67 (8 + 10 * i + 0) = 6) (h4 : mi 67 (8 + 10 * i + 1) = v) (h79 : ∀ k, k < 7 → mi 79 k = zab9.getD k 0) (h80 : ∀ k, k < 21 → mi 80 k = zbo.getD k 0) : Wp E 6 pg_M_all 0 (lv_args 0 [.ref 66, .int (nI i), .int 1, .int x]) [] (zsh ++ vs, mi, ml, (zmr g)) (fun r w' => r = some (.int ((((x + (nI i)) ^^^ v) - v) + (2 + (nI i)))) ∧ w' = (zsh ++ vs, (zup (zup (zup (zup (zup (zup (zup (zup (zup (zup mi 81 2 70) 66 24 3) 81 3 11) 66 24 4) 81 4 71) 66 24 5) 81 5 10) 66 24 6) 81 6 10) 66 24 7), ml, zmr g)) := by
  refine Wp.run 4 (4, [(0, .ref 66), (1, .int (nI i)), (2, .int 1), (3, .int x)], [.int 0, .int (nI i), .ref 66, .ref 66], (zsh ++ vs, mi, ml, (zmr g))) rfl ?_
  refine Wp.call (as := [.ref 66, .int (nI i), .int 0]) (rest := [.ref 66]) rfl rfl rfl rfl rfl (Nat.le_of_ble_eq_true rfl) (Nat.le_of_ble_eq_true rfl) rfl (by decide) (m_one (mi := mi) i 0 (by omega)) ?_
  rintro _ _ ⟨rfl, rfl⟩
  refine Wp.topi (y := 6) (h2) ?_
  refine Wp.run 3 (10, [(0, .ref 66), (1, .int (nI i)), (2, .int 1), (3, .int x)], [.int x, .int 1, .int (nI i), .int 6, .ref 66], (zsh ++ vs, mi, ml, (zmr g))) rfl ?_
  refine Wp.call (as := [.ref 66, .int 6, .int (nI i), .int 1, .int x]) (rest := []) rfl rfl rfl rfl rfl (Nat.le_of_ble_eq_true rfl) (Nat.le_of_ble_eq_true rfl) rfl (by decide) (m_bk_6_6_1_2 hi h1 h2 h4 h79 h80) ?_
  rintro _ _ ⟨rfl, rfl⟩
  refine Wp.run 0 (13, [(0, .ref 66), (1, .int (nI i)), (2, .int 1), (3, .int x)], [.int ((((x + (nI i)) ^^^ v) - v) + (2 + (nI i)))], (zsh ++ vs, (zup (zup (zup (zup (zup (zup (zup (zup (zup (zup mi 81 2 70) 66 24 3) 81 3 11) 66 24 4) 81 4 71) 66 24 5) 81 5 10) 66 24 6) 81 6 10) 66 24 7), ml, (zmr g))) rfl ?_
  refine Wp.ret rfl rfl rfl ?_
  exact ⟨rfl, rfl⟩
theorem m_bk_6_0_2_1 {E : zEn} {vs : List (Nat × Nat)} {mi : Nat → Nat → Int32} {ml : Nat → Nat → Int64} {g : Nat → Nat → Option Nat} {x v : Int32} {i : Nat} (hi : i < 6) (h1 : mi 66 24 = 1) (h2 : mi 67 (8 + 10 * i + 0) = 6) (h4 : mi 67 (8 + 10 * i + 1) = v) (h79 : ∀ k, k < 7 → mi 79 k = zab9.getD k 0) (h80 : ∀ k, k < 21 → mi 80 k = zbo.getD k 0) : Wp E 7 pg_M_byKind 0 (lv_args 0 [.ref 66, .int 0, .int (nI i), .int 2, .int x]) [] (zsh ++ vs, mi, ml, (zmr g)) (fun r w' => r = some (.int (((((x + (nI i)) ^^^ v) - v) + (2 + (nI i))) * 2)) ∧ w' = (zsh ++ vs, (zup (zup (zup (zup (zup (zup (zup (zup (zup (zup (zup (zup mi 81 1 12) 66 24 2) 81 2 70) 66 24 3) 81 3 11) 66 24 4) 81 4 71) 66 24 5) 81 5 10) 66 24 6) 81 6 10) 66 24 7), ml, zmr g)) := by
  refine Wp.run 10 (14, [(5, .int 0), (0, .ref 66), (1, .int 0), (2, .int (nI i)), (3, .int 2), (4, .int x)], [.int (mi 80 2)], (zsh ++ vs, mi, ml, (zmr g))) rfl ?_
  refine Wp.topi (y := 12) (h80 2 (by decide)) ?_
  refine Wp.run 5 (36, [(5, .int 0), (0, .ref 66), (1, .int 0), (2, .int (nI i)), (3, .int 2), (4, .int x)], [.int (mi 79 0)], (zsh ++ vs, mi, ml, (zmr g))) rfl ?_
  refine Wp.topi (y := -1) (h79 0 (by decide)) ?_
  refine Wp.run 10 (50, [(6, .int (-1)), (5, .int 0), (0, .ref 66), (1, .int 0), (2, .int (nI i)), (3, .int 2), (4, .int x)], [.int (mi 80 2), .ref 66], (zsh ++ vs, mi, ml, (zmr g))) rfl ?_
  refine Wp.topi (y := 12) (h80 2 (by decide)) ?_
  refine Wp.run 0 (50, [(6, .int (-1)), (5, .int 0), (0, .ref 66), (1, .int 0), (2, .int (nI i)), (3, .int 2), (4, .int x)], [.int 12, .ref 66], (zsh ++ vs, mi, ml, (zmr g))) rfl ?_
  refine Wp.call (as := [.ref 66, .int 12]) (rest := []) rfl rfl rfl rfl rfl (Nat.le_of_ble_eq_true rfl) (Nat.le_of_ble_eq_true rfl) rfl (by decide) (m_body_1 (b := 12) h1) ?_
  rintro _ _ ⟨rfl, rfl⟩
  refine Wp.run 5 (170, [(6, .int (-1)), (5, .int 0), (0, .ref 66), (1, .int 0), (2, .int (nI i)), (3, .int 2), (4, .int x)], [.int x, .int 1, .int (nI i), .ref 66], (zsh ++ vs, (zup (zup mi 81 1 12) 66 24 2), ml, (zmr g))) rfl ?_
  refine Wp.call (as := [.ref 66, .int (nI i), .int 1, .int x]) (rest := []) rfl rfl rfl rfl rfl (Nat.le_of_ble_eq_true rfl) (Nat.le_of_ble_eq_true rfl) rfl (by decide) (m_al_6_6_1_2 (mi := (zup (zup mi 81 1 12) 66 24 2)) (x := x) (i := i) hi rfl h2 h4 h79 h80) ?_
  rintro _ _ ⟨rfl, rfl⟩
  refine Wp.run 2 (175, [(6, .int (-1)), (5, .int 0), (0, .ref 66), (1, .int 0), (2, .int (nI i)), (3, .int 2), (4, .int x)], [.int (((((x + (nI i)) ^^^ v) - v) + (2 + (nI i))) * 2)], (zsh ++ vs, (zup (zup (zup (zup (zup (zup (zup (zup (zup (zup (zup (zup mi 81 1 12) 66 24 2) 81 2 70) 66 24 3) 81 3 11) 66 24 4) 81 4 71) 66 24 5) 81 5 10) 66 24 6) 81 6 10) 66 24 7), ml, (zmr g))) rfl ?_
  refine Wp.ret rfl rfl rfl ?_
  exact ⟨rfl, rfl⟩
theorem m_bk_6_3_0_10 {E : zEn} {vs : List (Nat × Nat)} {mi : Nat → Nat → Int32} {ml : Nat → Nat → Int64} {g : Nat → Nat → Option Nat} {x v : Int32} {i : Nat} (hi : i < 6) (h1 : mi 66 24 = 10) (h2 : mi 67 (8 + 10 * i + 0) = 6) (h4 : mi 67 (8 + 10 * i + 1) = v) (h79 : ∀ k, k < 7 → mi 79 k = zab9.getD k 0) (h80 : ∀ k, k < 21 → mi 80 k = zbo.getD k 0) : Wp E 1 pg_M_byKind 0 (lv_args 0 [.ref 66, .int 3, .int (nI i), .int 0, .int x]) [] (zsh ++ vs, mi, ml, (zmr g)) (fun r w' => r = some (.int (x + (nI i))) ∧ w' = (zsh ++ vs, (zup (zup mi 81 10 10) 66 24 11), ml, zmr g)) := by
  refine Wp.run 10 (14, [(5, .int 3), (0, .ref 66), (1, .int 3), (2, .int (nI i)), (3, .int 0), (4, .int x)], [.int (mi 80 9)], (zsh ++ vs, mi, ml, (zmr g))) rfl ?_
  refine Wp.topi (y := 0) (h80 9 (by decide)) ?_
  refine Wp.run 5 (24, [(5, .int 3), (0, .ref 66), (1, .int 3), (2, .int (nI i)), (3, .int 0), (4, .int x)], [.int (mi 79 3)], (zsh ++ vs, mi, ml, (zmr g))) rfl ?_
  refine Wp.topi (y := 0) (h79 3 (by decide)) ?_
  refine Wp.run 2 (3, [(5, .int 0), (0, .ref 66), (1, .int 3), (2, .int (nI i)), (3, .int 0), (4, .int x)], [], (zsh ++ vs, mi, ml, (zmr g))) rfl ?_
  refine Wp.run 8 (14, [(5, .int 0), (0, .ref 66), (1, .int 3), (2, .int (nI i)), (3, .int 0), (4, .int x)], [.int (mi 80 0)], (zsh ++ vs, mi, ml, (zmr g))) rfl ?_
  refine Wp.topi (y := 10) (h80 0 (by decide)) ?_
  refine Wp.run 5 (36, [(5, .int 0), (0, .ref 66), (1, .int 3), (2, .int (nI i)), (3, .int 0), (4, .int x)], [.int (mi 79 0)], (zsh ++ vs, mi, ml, (zmr g))) rfl ?_
  refine Wp.topi (y := -1) (h79 0 (by decide)) ?_
  refine Wp.run 10 (50, [(6, .int (-1)), (5, .int 0), (0, .ref 66), (1, .int 3), (2, .int (nI i)), (3, .int 0), (4, .int x)], [.int (mi 80 0), .ref 66], (zsh ++ vs, mi, ml, (zmr g))) rfl ?_
  refine Wp.topi (y := 10) (h80 0 (by decide)) ?_
  refine Wp.run 0 (50, [(6, .int (-1)), (5, .int 0), (0, .ref 66), (1, .int 3), (2, .int (nI i)), (3, .int 0), (4, .int x)], [.int 10, .ref 66], (zsh ++ vs, mi, ml, (zmr g))) rfl ?_
  refine Wp.call (as := [.ref 66, .int 10]) (rest := []) rfl rfl rfl rfl rfl (Nat.le_of_ble_eq_true rfl) (Nat.le_of_ble_eq_true rfl) rfl (by decide) (m_body_10 (b := 10) h1) ?_
  rintro _ _ ⟨rfl, rfl⟩
  refine Wp.run 4 (148, [(6, .int (-1)), (5, .int 0), (0, .ref 66), (1, .int 3), (2, .int (nI i)), (3, .int 0), (4, .int x)], [.int (x + (nI i))], (zsh ++ vs, (zup (zup mi 81 10 10) 66 24 11), ml, (zmr g))) rfl ?_
  refine Wp.ret rfl rfl rfl ?_
  exact ⟨rfl, rfl⟩
theorem m_bk_6_6_0_9 {E : zEn} {vs : List (Nat × Nat)} {mi : Nat → Nat → Int32} {ml : Nat → Nat → Int64} {g : Nat → Nat → Option Nat} {x v : Int32} {i : Nat} (hi : i < 6) (h1 : mi 66 24 = 9) (h2 : mi 67 (8 + 10 * i + 0) = 6) (h4 : mi 67 (8 + 10 * i + 1) = v) (h79 : ∀ k, k < 7 → mi 79 k = zab9.getD k 0) (h80 : ∀ k, k < 21 → mi 80 k = zbo.getD k 0) : Wp E 2 pg_M_byKind 0 (lv_args 0 [.ref 66, .int 6, .int (nI i), .int 0, .int x]) [] (zsh ++ vs, mi, ml, (zmr g)) (fun r w' => r = some (.int ((x + (nI i)) ^^^ v)) ∧ w' = (zsh ++ vs, (zup (zup (zup (zup mi 81 9 71) 66 24 10) 81 10 10) 66 24 11), ml, zmr g)) := by
  refine Wp.run 10 (14, [(5, .int 6), (0, .ref 66), (1, .int 6), (2, .int (nI i)), (3, .int 0), (4, .int x)], [.int (mi 80 18)], (zsh ++ vs, mi, ml, (zmr g))) rfl ?_
  refine Wp.topi (y := 71) (h80 18 (by decide)) ?_
  refine Wp.run 5 (36, [(5, .int 6), (0, .ref 66), (1, .int 6), (2, .int (nI i)), (3, .int 0), (4, .int x)], [.int (mi 79 6)], (zsh ++ vs, mi, ml, (zmr g))) rfl ?_
  refine Wp.topi (y := 3) (h79 6 (by decide)) ?_
  refine Wp.run 10 (50, [(6, .int 3), (5, .int 6), (0, .ref 66), (1, .int 6), (2, .int (nI i)), (3, .int 0), (4, .int x)], [.int (mi 80 18), .ref 66], (zsh ++ vs, mi, ml, (zmr g))) rfl ?_
  refine Wp.topi (y := 71) (h80 18 (by decide)) ?_
  refine Wp.run 0 (50, [(6, .int 3), (5, .int 6), (0, .ref 66), (1, .int 6), (2, .int (nI i)), (3, .int 0), (4, .int x)], [.int 71, .ref 66], (zsh ++ vs, mi, ml, (zmr g))) rfl ?_
  refine Wp.call (as := [.ref 66, .int 71]) (rest := []) rfl rfl rfl rfl rfl (Nat.le_of_ble_eq_true rfl) (Nat.le_of_ble_eq_true rfl) rfl (by decide) (m_body_9 (b := 71) h1) ?_
  rintro _ _ ⟨rfl, rfl⟩
  refine Wp.run 6 (288, [(6, .int 3), (5, .int 6), (0, .ref 66), (1, .int 6), (2, .int (nI i)), (3, .int 0), (4, .int x)], [.int x, .int 0, .int (nI i), .int 3, .ref 66], (zsh ++ vs, (zup (zup mi 81 9 71) 66 24 10), ml, (zmr g))) rfl ?_
  refine Wp.call (as := [.ref 66, .int 3, .int (nI i), .int 0, .int x]) (rest := []) rfl rfl rfl rfl rfl (Nat.le_of_ble_eq_true rfl) (Nat.le_of_ble_eq_true rfl) rfl (by decide) (m_bk_6_3_0_10 (mi := (zup (zup mi 81 9 71) 66 24 10)) (x := x) (i := i) hi rfl h2 h4 h79 h80) ?_
  rintro _ _ ⟨rfl, rfl⟩
  refine Wp.run 3 (294, [(6, .int 3), (5, .int 6), (0, .ref 66), (1, .int 6), (2, .int (nI i)), (3, .int 0), (4, .int x)], [.int 1, .int (nI i), .ref 66, .int (x + (nI i))], (zsh ++ vs, (zup (zup (zup (zup mi 81 9 71) 66 24 10) 81 10 10) 66 24 11), ml, (zmr g))) rfl ?_
  refine Wp.call (as := [.ref 66, .int (nI i), .int 1]) (rest := [.int (x + (nI i))]) rfl rfl rfl rfl rfl (Nat.le_of_ble_eq_true rfl) (Nat.le_of_ble_eq_true rfl) rfl (by decide) (m_one (mi := (zup (zup (zup (zup mi 81 9 71) 66 24 10) 81 10 10) 66 24 11)) i 1 (by omega)) ?_
  rintro _ _ ⟨rfl, rfl⟩
  refine Wp.topi (y := v) (h4) ?_
  refine Wp.run 1 (298, [(6, .int 3), (5, .int 6), (0, .ref 66), (1, .int 6), (2, .int (nI i)), (3, .int 0), (4, .int x)], [.int ((x + (nI i)) ^^^ v)], (zsh ++ vs, (zup (zup (zup (zup mi 81 9 71) 66 24 10) 81 10 10) 66 24 11), ml, (zmr g))) rfl ?_
  refine Wp.ret rfl rfl rfl ?_
  exact ⟨rfl, rfl⟩
theorem m_al_6_6_0_9 {E : zEn} {vs : List (Nat × Nat)} {mi : Nat → Nat → Int32} {ml : Nat → Nat → Int64} {g : Nat → Nat → Option Nat} {x v : Int32} {i : Nat} (hi : i < 6) (h1 : mi 66 24 = 9) (h2 : mi 67 (8 + 10 * i + 0) = 6) (h4 : mi 67 (8 + 10 * i + 1) = v) (h79 : ∀ k, k < 7 → mi 79 k = zab9.getD k 0) (h80 : ∀ k, k < 21 → mi 80 k = zbo.getD k 0) : Wp E 3 pg_M_all 0 (lv_args 0 [.ref 66, .int (nI i), .int 0, .int x]) [] (zsh ++ vs, mi, ml, (zmr g)) (fun r w' => r = some (.int ((x + (nI i)) ^^^ v)) ∧ w' = (zsh ++ vs, (zup (zup (zup (zup mi 81 9 71) 66 24 10) 81 10 10) 66 24 11), ml, zmr g)) := by
  refine Wp.run 4 (4, [(0, .ref 66), (1, .int (nI i)), (2, .int 0), (3, .int x)], [.int 0, .int (nI i), .ref 66, .ref 66], (zsh ++ vs, mi, ml, (zmr g))) rfl ?_
  refine Wp.call (as := [.ref 66, .int (nI i), .int 0]) (rest := [.ref 66]) rfl rfl rfl rfl rfl (Nat.le_of_ble_eq_true rfl) (Nat.le_of_ble_eq_true rfl) rfl (by decide) (m_one (mi := mi) i 0 (by omega)) ?_
  rintro _ _ ⟨rfl, rfl⟩
  refine Wp.topi (y := 6) (h2) ?_
  refine Wp.run 3 (10, [(0, .ref 66), (1, .int (nI i)), (2, .int 0), (3, .int x)], [.int x, .int 0, .int (nI i), .int 6, .ref 66], (zsh ++ vs, mi, ml, (zmr g))) rfl ?_
  refine Wp.call (as := [.ref 66, .int 6, .int (nI i), .int 0, .int x]) (rest := []) rfl rfl rfl rfl rfl (Nat.le_of_ble_eq_true rfl) (Nat.le_of_ble_eq_true rfl) rfl (by decide) (m_bk_6_6_0_9 hi h1 h2 h4 h79 h80) ?_
  rintro _ _ ⟨rfl, rfl⟩
  refine Wp.run 0 (13, [(0, .ref 66), (1, .int (nI i)), (2, .int 0), (3, .int x)], [.int ((x + (nI i)) ^^^ v)], (zsh ++ vs, (zup (zup (zup (zup mi 81 9 71) 66 24 10) 81 10 10) 66 24 11), ml, (zmr g))) rfl ?_
  refine Wp.ret rfl rfl rfl ?_
  exact ⟨rfl, rfl⟩
theorem m_bk_6_3_1_8 {E : zEn} {vs : List (Nat × Nat)} {mi : Nat → Nat → Int32} {ml : Nat → Nat → Int64} {g : Nat → Nat → Option Nat} {x v : Int32} {i : Nat} (hi : i < 6) (h1 : mi 66 24 = 8) (h2 : mi 67 (8 + 10 * i + 0) = 6) (h4 : mi 67 (8 + 10 * i + 1) = v) (h79 : ∀ k, k < 7 → mi 79 k = zab9.getD k 0) (h80 : ∀ k, k < 21 → mi 80 k = zbo.getD k 0) : Wp E 4 pg_M_byKind 0 (lv_args 0 [.ref 66, .int 3, .int (nI i), .int 1, .int x]) [] (zsh ++ vs, mi, ml, (zmr g)) (fun r w' => r = some (.int (((x + (nI i)) ^^^ v) - v)) ∧ w' = (zsh ++ vs, (zup (zup (zup (zup (zup (zup mi 81 8 11) 66 24 9) 81 9 71) 66 24 10) 81 10 10) 66 24 11), ml, zmr g)) := by
  refine Wp.run 10 (14, [(5, .int 3), (0, .ref 66), (1, .int 3), (2, .int (nI i)), (3, .int 1), (4, .int x)], [.int (mi 80 10)], (zsh ++ vs, mi, ml, (zmr g))) rfl ?_
  refine Wp.topi (y := 0) (h80 10 (by decide)) ?_
  refine Wp.run 5 (24, [(5, .int 3), (0, .ref 66), (1, .int 3), (2, .int (nI i)), (3, .int 1), (4, .int x)], [.int (mi 79 3)], (zsh ++ vs, mi, ml, (zmr g))) rfl ?_
  refine Wp.topi (y := 0) (h79 3 (by decide)) ?_
  refine Wp.run 2 (3, [(5, .int 0), (0, .ref 66), (1, .int 3), (2, .int (nI i)), (3, .int 1), (4, .int x)], [], (zsh ++ vs, mi, ml, (zmr g))) rfl ?_
  refine Wp.run 8 (14, [(5, .int 0), (0, .ref 66), (1, .int 3), (2, .int (nI i)), (3, .int 1), (4, .int x)], [.int (mi 80 1)], (zsh ++ vs, mi, ml, (zmr g))) rfl ?_
  refine Wp.topi (y := 11) (h80 1 (by decide)) ?_
  refine Wp.run 5 (36, [(5, .int 0), (0, .ref 66), (1, .int 3), (2, .int (nI i)), (3, .int 1), (4, .int x)], [.int (mi 79 0)], (zsh ++ vs, mi, ml, (zmr g))) rfl ?_
  refine Wp.topi (y := -1) (h79 0 (by decide)) ?_
  refine Wp.run 10 (50, [(6, .int (-1)), (5, .int 0), (0, .ref 66), (1, .int 3), (2, .int (nI i)), (3, .int 1), (4, .int x)], [.int (mi 80 1), .ref 66], (zsh ++ vs, mi, ml, (zmr g))) rfl ?_
  refine Wp.topi (y := 11) (h80 1 (by decide)) ?_
  refine Wp.run 0 (50, [(6, .int (-1)), (5, .int 0), (0, .ref 66), (1, .int 3), (2, .int (nI i)), (3, .int 1), (4, .int x)], [.int 11, .ref 66], (zsh ++ vs, mi, ml, (zmr g))) rfl ?_
  refine Wp.call (as := [.ref 66, .int 11]) (rest := []) rfl rfl rfl rfl rfl (Nat.le_of_ble_eq_true rfl) (Nat.le_of_ble_eq_true rfl) rfl (by decide) (m_body_8 (b := 11) h1) ?_
  rintro _ _ ⟨rfl, rfl⟩
  refine Wp.run 5 (154, [(6, .int (-1)), (5, .int 0), (0, .ref 66), (1, .int 3), (2, .int (nI i)), (3, .int 1), (4, .int x)], [.int x, .int 0, .int (nI i), .ref 66], (zsh ++ vs, (zup (zup mi 81 8 11) 66 24 9), ml, (zmr g))) rfl ?_
  refine Wp.call (as := [.ref 66, .int (nI i), .int 0, .int x]) (rest := []) rfl rfl rfl rfl rfl (Nat.le_of_ble_eq_true rfl) (Nat.le_of_ble_eq_true rfl) rfl (by decide) (m_al_6_6_0_9 (mi := (zup (zup mi 81 8 11) 66 24 9)) (x := x) (i := i) hi rfl h2 h4 h79 h80) ?_
  rintro _ _ ⟨rfl, rfl⟩
  refine Wp.run 3 (160, [(6, .int (-1)), (5, .int 0), (0, .ref 66), (1, .int 3), (2, .int (nI i)), (3, .int 1), (4, .int x)], [.int 1, .int (nI i), .ref 66, .int ((x + (nI i)) ^^^ v)], (zsh ++ vs, (zup (zup (zup (zup (zup (zup mi 81 8 11) 66 24 9) 81 9 71) 66 24 10) 81 10 10) 66 24 11), ml, (zmr g))) rfl ?_
  refine Wp.call (as := [.ref 66, .int (nI i), .int 1]) (rest := [.int ((x + (nI i)) ^^^ v)]) rfl rfl rfl rfl rfl (Nat.le_of_ble_eq_true rfl) (Nat.le_of_ble_eq_true rfl) rfl (by decide) (m_one (mi := (zup (zup (zup (zup (zup (zup mi 81 8 11) 66 24 9) 81 9 71) 66 24 10) 81 10 10) 66 24 11)) i 1 (by omega)) ?_
  rintro _ _ ⟨rfl, rfl⟩
  refine Wp.topi (y := v) (h4) ?_
  refine Wp.run 1 (164, [(6, .int (-1)), (5, .int 0), (0, .ref 66), (1, .int 3), (2, .int (nI i)), (3, .int 1), (4, .int x)], [.int (((x + (nI i)) ^^^ v) - v)], (zsh ++ vs, (zup (zup (zup (zup (zup (zup mi 81 8 11) 66 24 9) 81 9 71) 66 24 10) 81 10 10) 66 24 11), ml, (zmr g))) rfl ?_
  refine Wp.ret rfl rfl rfl ?_
  exact ⟨rfl, rfl⟩
theorem m_bk_6_3_0_11 {E : zEn} {vs : List (Nat × Nat)} {mi : Nat → Nat → Int32} {ml : Nat → Nat → Int64} {g : Nat → Nat → Option Nat} {x v : Int32} {i : Nat} (hi : i < 6) (h1 : mi 66 24 = 11) (h2 : mi 67 (8 + 10 * i + 0) = 6) (h4 : mi 67 (8 + 10 * i + 1) = v) (h79 : ∀ k, k < 7 → mi 79 k = zab9.getD k 0) (h80 : ∀ k, k < 21 → mi 80 k = zbo.getD k 0) : Wp E 1 pg_M_byKind 0 (lv_args 0 [.ref 66, .int 3, .int (nI i), .int 0, .int x]) [] (zsh ++ vs, mi, ml, (zmr g)) (fun r w' => r = some (.int (x + (nI i))) ∧ w' = (zsh ++ vs, (zup (zup mi 81 11 10) 66 24 12), ml, zmr g)) := by
  refine Wp.run 10 (14, [(5, .int 3), (0, .ref 66), (1, .int 3), (2, .int (nI i)), (3, .int 0), (4, .int x)], [.int (mi 80 9)], (zsh ++ vs, mi, ml, (zmr g))) rfl ?_
  refine Wp.topi (y := 0) (h80 9 (by decide)) ?_
  refine Wp.run 5 (24, [(5, .int 3), (0, .ref 66), (1, .int 3), (2, .int (nI i)), (3, .int 0), (4, .int x)], [.int (mi 79 3)], (zsh ++ vs, mi, ml, (zmr g))) rfl ?_
  refine Wp.topi (y := 0) (h79 3 (by decide)) ?_
  refine Wp.run 2 (3, [(5, .int 0), (0, .ref 66), (1, .int 3), (2, .int (nI i)), (3, .int 0), (4, .int x)], [], (zsh ++ vs, mi, ml, (zmr g))) rfl ?_
  refine Wp.run 8 (14, [(5, .int 0), (0, .ref 66), (1, .int 3), (2, .int (nI i)), (3, .int 0), (4, .int x)], [.int (mi 80 0)], (zsh ++ vs, mi, ml, (zmr g))) rfl ?_
  refine Wp.topi (y := 10) (h80 0 (by decide)) ?_
  refine Wp.run 5 (36, [(5, .int 0), (0, .ref 66), (1, .int 3), (2, .int (nI i)), (3, .int 0), (4, .int x)], [.int (mi 79 0)], (zsh ++ vs, mi, ml, (zmr g))) rfl ?_
  refine Wp.topi (y := -1) (h79 0 (by decide)) ?_
  refine Wp.run 10 (50, [(6, .int (-1)), (5, .int 0), (0, .ref 66), (1, .int 3), (2, .int (nI i)), (3, .int 0), (4, .int x)], [.int (mi 80 0), .ref 66], (zsh ++ vs, mi, ml, (zmr g))) rfl ?_
  refine Wp.topi (y := 10) (h80 0 (by decide)) ?_
  refine Wp.run 0 (50, [(6, .int (-1)), (5, .int 0), (0, .ref 66), (1, .int 3), (2, .int (nI i)), (3, .int 0), (4, .int x)], [.int 10, .ref 66], (zsh ++ vs, mi, ml, (zmr g))) rfl ?_
  refine Wp.call (as := [.ref 66, .int 10]) (rest := []) rfl rfl rfl rfl rfl (Nat.le_of_ble_eq_true rfl) (Nat.le_of_ble_eq_true rfl) rfl (by decide) (m_body_11 (b := 10) h1) ?_
  rintro _ _ ⟨rfl, rfl⟩
  refine Wp.run 4 (148, [(6, .int (-1)), (5, .int 0), (0, .ref 66), (1, .int 3), (2, .int (nI i)), (3, .int 0), (4, .int x)], [.int (x + (nI i))], (zsh ++ vs, (zup (zup mi 81 11 10) 66 24 12), ml, (zmr g))) rfl ?_
  refine Wp.ret rfl rfl rfl ?_
  exact ⟨rfl, rfl⟩
theorem m_bk_6_6_1_7 {E : zEn} {vs : List (Nat × Nat)} {mi : Nat → Nat → Int32} {ml : Nat → Nat → Int64} {g : Nat → Nat → Option Nat} {x v : Int32} {i : Nat} (hi : i < 6) (h1 : mi 66 24 = 7) (h2 : mi 67 (8 + 10 * i + 0) = 6) (h4 : mi 67 (8 + 10 * i + 1) = v) (h79 : ∀ k, k < 7 → mi 79 k = zab9.getD k 0) (h80 : ∀ k, k < 21 → mi 80 k = zbo.getD k 0) : Wp E 5 pg_M_byKind 0 (lv_args 0 [.ref 66, .int 6, .int (nI i), .int 1, .int x]) [] (zsh ++ vs, mi, ml, (zmr g)) (fun r w' => r = some (.int ((((x + (nI i)) ^^^ v) - v) + (2 + (nI i)))) ∧ w' = (zsh ++ vs, (zup (zup (zup (zup (zup (zup (zup (zup (zup (zup mi 81 7 70) 66 24 8) 81 8 11) 66 24 9) 81 9 71) 66 24 10) 81 10 10) 66 24 11) 81 11 10) 66 24 12), ml, zmr g)) := by
  refine Wp.run 10 (14, [(5, .int 6), (0, .ref 66), (1, .int 6), (2, .int (nI i)), (3, .int 1), (4, .int x)], [.int (mi 80 19)], (zsh ++ vs, mi, ml, (zmr g))) rfl ?_
  refine Wp.topi (y := 70) (h80 19 (by decide)) ?_
  refine Wp.run 5 (36, [(5, .int 6), (0, .ref 66), (1, .int 6), (2, .int (nI i)), (3, .int 1), (4, .int x)], [.int (mi 79 6)], (zsh ++ vs, mi, ml, (zmr g))) rfl ?_
  refine Wp.topi (y := 3) (h79 6 (by decide)) ?_
  refine Wp.run 10 (50, [(6, .int 3), (5, .int 6), (0, .ref 66), (1, .int 6), (2, .int (nI i)), (3, .int 1), (4, .int x)], [.int (mi 80 19), .ref 66], (zsh ++ vs, mi, ml, (zmr g))) rfl ?_
  refine Wp.topi (y := 70) (h80 19 (by decide)) ?_
  refine Wp.run 0 (50, [(6, .int 3), (5, .int 6), (0, .ref 66), (1, .int 6), (2, .int (nI i)), (3, .int 1), (4, .int x)], [.int 70, .ref 66], (zsh ++ vs, mi, ml, (zmr g))) rfl ?_
  refine Wp.call (as := [.ref 66, .int 70]) (rest := []) rfl rfl rfl rfl rfl (Nat.le_of_ble_eq_true rfl) (Nat.le_of_ble_eq_true rfl) rfl (by decide) (m_body_7 (b := 70) h1) ?_
  rintro _ _ ⟨rfl, rfl⟩
  refine Wp.run 6 (267, [(6, .int 3), (5, .int 6), (0, .ref 66), (1, .int 6), (2, .int (nI i)), (3, .int 1), (4, .int x)], [.int x, .int 1, .int (nI i), .int 3, .ref 66], (zsh ++ vs, (zup (zup mi 81 7 70) 66 24 8), ml, (zmr g))) rfl ?_
  refine Wp.call (as := [.ref 66, .int 3, .int (nI i), .int 1, .int x]) (rest := []) rfl rfl rfl rfl rfl (Nat.le_of_ble_eq_true rfl) (Nat.le_of_ble_eq_true rfl) rfl (by decide) (m_bk_6_3_1_8 (mi := (zup (zup mi 81 7 70) 66 24 8)) (x := x) (i := i) hi rfl h2 h4 h79 h80) ?_
  rintro _ _ ⟨rfl, rfl⟩
  refine Wp.run 5 (276, [(6, .int 3), (5, .int 6), (0, .ref 66), (1, .int 6), (2, .int (nI i)), (3, .int 1), (4, .int x)], [.int 2, .int 0, .int (nI i), .int 3, .ref 66, .int (((x + (nI i)) ^^^ v) - v)], (zsh ++ vs, (zup (zup (zup (zup (zup (zup (zup (zup mi 81 7 70) 66 24 8) 81 8 11) 66 24 9) 81 9 71) 66 24 10) 81 10 10) 66 24 11), ml, (zmr g))) rfl ?_
  refine Wp.call (as := [.ref 66, .int 3, .int (nI i), .int 0, .int 2]) (rest := [.int (((x + (nI i)) ^^^ v) - v)]) rfl rfl rfl rfl rfl (Nat.le_of_ble_eq_true rfl) (Nat.le_of_ble_eq_true rfl) rfl (by decide) (m_bk_6_3_0_11 (mi := (zup (zup (zup (zup (zup (zup (zup (zup mi 81 7 70) 66 24 8) 81 8 11) 66 24 9) 81 9 71) 66 24 10) 81 10 10) 66 24 11)) (x := 2) (i := i) hi rfl h2 h4 h79 h80) ?_
  rintro _ _ ⟨rfl, rfl⟩
  refine Wp.run 1 (280, [(6, .int 3), (5, .int 6), (0, .ref 66), (1, .int 6), (2, .int (nI i)), (3, .int 1), (4, .int x)], [.int ((((x + (nI i)) ^^^ v) - v) + (2 + (nI i)))], (zsh ++ vs, (zup (zup (zup (zup (zup (zup (zup (zup (zup (zup mi 81 7 70) 66 24 8) 81 8 11) 66 24 9) 81 9 71) 66 24 10) 81 10 10) 66 24 11) 81 11 10) 66 24 12), ml, (zmr g))) rfl ?_
  refine Wp.ret rfl rfl rfl ?_
  exact ⟨rfl, rfl⟩
theorem m_al_6_6_1_7 {E : zEn} {vs : List (Nat × Nat)} {mi : Nat → Nat → Int32} {ml : Nat → Nat → Int64} {g : Nat → Nat → Option Nat} {x v : Int32} {i : Nat} (hi : i < 6) (h1 : mi 66 24 = 7) (h2 : mi 67 (8 + 10 * i + 0) = 6) (h4 : mi 67 (8 + 10 * i + 1) = v) (h79 : ∀ k, k < 7 → mi 79 k = zab9.getD k 0) (h80 : ∀ k, k < 21 → mi 80 k = zbo.getD k 0) : Wp E 6 pg_M_all 0 (lv_args 0 [.ref 66, .int (nI i), .int 1, .int x]) [] (zsh ++ vs, mi, ml, (zmr g)) (fun r w' => r = some (.int ((((x + (nI i)) ^^^ v) - v) + (2 + (nI i)))) ∧ w' = (zsh ++ vs, (zup (zup (zup (zup (zup (zup (zup (zup (zup (zup mi 81 7 70) 66 24 8) 81 8 11) 66 24 9) 81 9 71) 66 24 10) 81 10 10) 66 24 11) 81 11 10) 66 24 12), ml, zmr g)) := by
  refine Wp.run 4 (4, [(0, .ref 66), (1, .int (nI i)), (2, .int 1), (3, .int x)], [.int 0, .int (nI i), .ref 66, .ref 66], (zsh ++ vs, mi, ml, (zmr g))) rfl ?_
  refine Wp.call (as := [.ref 66, .int (nI i), .int 0]) (rest := [.ref 66]) rfl rfl rfl rfl rfl (Nat.le_of_ble_eq_true rfl) (Nat.le_of_ble_eq_true rfl) rfl (by decide) (m_one (mi := mi) i 0 (by omega)) ?_
  rintro _ _ ⟨rfl, rfl⟩
  refine Wp.topi (y := 6) (h2) ?_
  refine Wp.run 3 (10, [(0, .ref 66), (1, .int (nI i)), (2, .int 1), (3, .int x)], [.int x, .int 1, .int (nI i), .int 6, .ref 66], (zsh ++ vs, mi, ml, (zmr g))) rfl ?_
  refine Wp.call (as := [.ref 66, .int 6, .int (nI i), .int 1, .int x]) (rest := []) rfl rfl rfl rfl rfl (Nat.le_of_ble_eq_true rfl) (Nat.le_of_ble_eq_true rfl) rfl (by decide) (m_bk_6_6_1_7 hi h1 h2 h4 h79 h80) ?_
  rintro _ _ ⟨rfl, rfl⟩
  refine Wp.run 0 (13, [(0, .ref 66), (1, .int (nI i)), (2, .int 1), (3, .int x)], [.int ((((x + (nI i)) ^^^ v) - v) + (2 + (nI i)))], (zsh ++ vs, (zup (zup (zup (zup (zup (zup (zup (zup (zup (zup mi 81 7 70) 66 24 8) 81 8 11) 66 24 9) 81 9 71) 66 24 10) 81 10 10) 66 24 11) 81 11 10) 66 24 12), ml, (zmr g))) rfl ?_
  refine Wp.ret rfl rfl rfl ?_
  exact ⟨rfl, rfl⟩
theorem m_bk_6_6_2_0 {E : zEn} {vs : List (Nat × Nat)} {mi : Nat → Nat → Int32} {ml : Nat → Nat → Int64} {g : Nat → Nat → Option Nat} {x v : Int32} {i : Nat} (hi : i < 6) (h1 : mi 66 24 = 0) (h2 : mi 67 (8 + 10 * i + 0) = 6) (h4 : mi 67 (8 + 10 * i + 1) = v) (h79 : ∀ k, k < 7 → mi 79 k = zab9.getD k 0) (h80 : ∀ k, k < 21 → mi 80 k = zbo.getD k 0) : Wp E 8 pg_M_byKind 0 (lv_args 0 [.ref 66, .int 6, .int (nI i), .int 2, .int x]) [] (zsh ++ vs, mi, ml, (zmr g)) (fun r w' => r = some (.int ((((((x + (nI i)) ^^^ v) - v) + (2 + (nI i))) * 2) + ((((1 + (nI i)) ^^^ v) - v) + (2 + (nI i))))) ∧ w' = (zsh ++ vs, (zup (zup (zup (zup (zup (zup (zup (zup (zup (zup (zup (zup (zup (zup (zup (zup (zup (zup (zup (zup (zup (zup (zup (zup mi 81 0 40) 66 24 1) 81 1 12) 66 24 2) 81 2 70) 66 24 3) 81 3 11) 66 24 4) 81 4 71) 66 24 5) 81 5 10) 66 24 6) 81 6 10) 66 24 7) 81 7 70) 66 24 8) 81 8 11) 66 24 9) 81 9 71) 66 24 10) 81 10 10) 66 24 11) 81 11 10) 66 24 12), ml, zmr g)) := by
  refine Wp.run 10 (14, [(5, .int 6), (0, .ref 66), (1, .int 6), (2, .int (nI i)), (3, .int 2), (4, .int x)], [.int (mi 80 20)], (zsh ++ vs, mi, ml, (zmr g))) rfl ?_
  refine Wp.topi (y := 0) (h80 20 (by decide)) ?_
  refine Wp.run 5 (24, [(5, .int 6), (0, .ref 66), (1, .int 6), (2, .int (nI i)), (3, .int 2), (4, .int x)], [.int (mi 79 6)], (zsh ++ vs, mi, ml, (zmr g))) rfl ?_
  refine Wp.topi (y := 3) (h79 6 (by decide)) ?_
  refine Wp.run 2 (3, [(5, .int 3), (0, .ref 66), (1, .int 6), (2, .int (nI i)), (3, .int 2), (4, .int x)], [], (zsh ++ vs, mi, ml, (zmr g))) rfl ?_
  refine Wp.run 8 (14, [(5, .int 3), (0, .ref 66), (1, .int 6), (2, .int (nI i)), (3, .int 2), (4, .int x)], [.int (mi 80 11)], (zsh ++ vs, mi, ml, (zmr g))) rfl ?_
  refine Wp.topi (y := 40) (h80 11 (by decide)) ?_
  refine Wp.run 5 (36, [(5, .int 3), (0, .ref 66), (1, .int 6), (2, .int (nI i)), (3, .int 2), (4, .int x)], [.int (mi 79 3)], (zsh ++ vs, mi, ml, (zmr g))) rfl ?_
  refine Wp.topi (y := 0) (h79 3 (by decide)) ?_
  refine Wp.run 10 (50, [(6, .int 0), (5, .int 3), (0, .ref 66), (1, .int 6), (2, .int (nI i)), (3, .int 2), (4, .int x)], [.int (mi 80 11), .ref 66], (zsh ++ vs, mi, ml, (zmr g))) rfl ?_
  refine Wp.topi (y := 40) (h80 11 (by decide)) ?_
  refine Wp.run 0 (50, [(6, .int 0), (5, .int 3), (0, .ref 66), (1, .int 6), (2, .int (nI i)), (3, .int 2), (4, .int x)], [.int 40, .ref 66], (zsh ++ vs, mi, ml, (zmr g))) rfl ?_
  refine Wp.call (as := [.ref 66, .int 40]) (rest := []) rfl rfl rfl rfl rfl (Nat.le_of_ble_eq_true rfl) (Nat.le_of_ble_eq_true rfl) rfl (by decide) (m_body_0 (b := 40) h1) ?_
  rintro _ _ ⟨rfl, rfl⟩
  refine Wp.run 6 (210, [(6, .int 0), (5, .int 3), (0, .ref 66), (1, .int 6), (2, .int (nI i)), (3, .int 2), (4, .int x)], [.int x, .int 2, .int (nI i), .int 0, .ref 66], (zsh ++ vs, (zup (zup mi 81 0 40) 66 24 1), ml, (zmr g))) rfl ?_
  refine Wp.call (as := [.ref 66, .int 0, .int (nI i), .int 2, .int x]) (rest := []) rfl rfl rfl rfl rfl (Nat.le_of_ble_eq_true rfl) (Nat.le_of_ble_eq_true rfl) rfl (by decide) (m_bk_6_0_2_1 (mi := (zup (zup mi 81 0 40) 66 24 1)) (x := x) (i := i) hi rfl h2 h4 h79 h80) ?_
  rintro _ _ ⟨rfl, rfl⟩
  refine Wp.run 4 (217, [(6, .int 0), (5, .int 3), (0, .ref 66), (1, .int 6), (2, .int (nI i)), (3, .int 2), (4, .int x)], [.int 1, .int 1, .int (nI i), .ref 66, .int (((((x + (nI i)) ^^^ v) - v) + (2 + (nI i))) * 2)], (zsh ++ vs, (zup (zup (zup (zup (zup (zup (zup (zup (zup (zup (zup (zup (zup (zup mi 81 0 40) 66 24 1) 81 1 12) 66 24 2) 81 2 70) 66 24 3) 81 3 11) 66 24 4) 81 4 71) 66 24 5) 81 5 10) 66 24 6) 81 6 10) 66 24 7), ml, (zmr g))) rfl ?_
  refine Wp.call (as := [.ref 66, .int (nI i), .int 1, .int 1]) (rest := [.int (((((x + (nI i)) ^^^ v) - v) + (2 + (nI i))) * 2)]) rfl rfl rfl rfl rfl (Nat.le_of_ble_eq_true rfl) (Nat.le_of_ble_eq_true rfl) rfl (by decide) (m_al_6_6_1_7 (mi := (zup (zup (zup (zup (zup (zup (zup (zup (zup (zup (zup (zup (zup (zup mi 81 0 40) 66 24 1) 81 1 12) 66 24 2) 81 2 70) 66 24 3) 81 3 11) 66 24 4) 81 4 71) 66 24 5) 81 5 10) 66 24 6) 81 6 10) 66 24 7)) (x := 1) (i := i) hi rfl h2 h4 h79 h80) ?_
  rintro _ _ ⟨rfl, rfl⟩
  refine Wp.run 1 (221, [(6, .int 0), (5, .int 3), (0, .ref 66), (1, .int 6), (2, .int (nI i)), (3, .int 2), (4, .int x)], [.int ((((((x + (nI i)) ^^^ v) - v) + (2 + (nI i))) * 2) + ((((1 + (nI i)) ^^^ v) - v) + (2 + (nI i))))], (zsh ++ vs, (zup (zup (zup (zup (zup (zup (zup (zup (zup (zup (zup (zup (zup (zup (zup (zup (zup (zup (zup (zup (zup (zup (zup (zup mi 81 0 40) 66 24 1) 81 1 12) 66 24 2) 81 2 70) 66 24 3) 81 3 11) 66 24 4) 81 4 71) 66 24 5) 81 5 10) 66 24 6) 81 6 10) 66 24 7) 81 7 70) 66 24 8) 81 8 11) 66 24 9) 81 9 71) 66 24 10) 81 10 10) 66 24 11) 81 11 10) 66 24 12), ml, (zmr g))) rfl ?_
  refine Wp.ret rfl rfl rfl ?_
  exact ⟨rfl, rfl⟩
theorem m_al_6_6_2_0 {E : zEn} {vs : List (Nat × Nat)} {mi : Nat → Nat → Int32} {ml : Nat → Nat → Int64} {g : Nat → Nat → Option Nat} {x v : Int32} {i : Nat} (hi : i < 6) (h1 : mi 66 24 = 0) (h2 : mi 67 (8 + 10 * i + 0) = 6) (h4 : mi 67 (8 + 10 * i + 1) = v) (h79 : ∀ k, k < 7 → mi 79 k = zab9.getD k 0) (h80 : ∀ k, k < 21 → mi 80 k = zbo.getD k 0) : Wp E 9 pg_M_all 0 (lv_args 0 [.ref 66, .int (nI i), .int 2, .int x]) [] (zsh ++ vs, mi, ml, (zmr g)) (fun r w' => r = some (.int ((((((x + (nI i)) ^^^ v) - v) + (2 + (nI i))) * 2) + ((((1 + (nI i)) ^^^ v) - v) + (2 + (nI i))))) ∧ w' = (zsh ++ vs, (zup (zup (zup (zup (zup (zup (zup (zup (zup (zup (zup (zup (zup (zup (zup (zup (zup (zup (zup (zup (zup (zup (zup (zup mi 81 0 40) 66 24 1) 81 1 12) 66 24 2) 81 2 70) 66 24 3) 81 3 11) 66 24 4) 81 4 71) 66 24 5) 81 5 10) 66 24 6) 81 6 10) 66 24 7) 81 7 70) 66 24 8) 81 8 11) 66 24 9) 81 9 71) 66 24 10) 81 10 10) 66 24 11) 81 11 10) 66 24 12), ml, zmr g)) := by
  refine Wp.run 4 (4, [(0, .ref 66), (1, .int (nI i)), (2, .int 2), (3, .int x)], [.int 0, .int (nI i), .ref 66, .ref 66], (zsh ++ vs, mi, ml, (zmr g))) rfl ?_
  refine Wp.call (as := [.ref 66, .int (nI i), .int 0]) (rest := [.ref 66]) rfl rfl rfl rfl rfl (Nat.le_of_ble_eq_true rfl) (Nat.le_of_ble_eq_true rfl) rfl (by decide) (m_one (mi := mi) i 0 (by omega)) ?_
  rintro _ _ ⟨rfl, rfl⟩
  refine Wp.topi (y := 6) (h2) ?_
  refine Wp.run 3 (10, [(0, .ref 66), (1, .int (nI i)), (2, .int 2), (3, .int x)], [.int x, .int 2, .int (nI i), .int 6, .ref 66], (zsh ++ vs, mi, ml, (zmr g))) rfl ?_
  refine Wp.call (as := [.ref 66, .int 6, .int (nI i), .int 2, .int x]) (rest := []) rfl rfl rfl rfl rfl (Nat.le_of_ble_eq_true rfl) (Nat.le_of_ble_eq_true rfl) rfl (by decide) (m_bk_6_6_2_0 hi h1 h2 h4 h79 h80) ?_
  rintro _ _ ⟨rfl, rfl⟩
  refine Wp.run 0 (13, [(0, .ref 66), (1, .int (nI i)), (2, .int 2), (3, .int x)], [.int ((((((x + (nI i)) ^^^ v) - v) + (2 + (nI i))) * 2) + ((((1 + (nI i)) ^^^ v) - v) + (2 + (nI i))))], (zsh ++ vs, (zup (zup (zup (zup (zup (zup (zup (zup (zup (zup (zup (zup (zup (zup (zup (zup (zup (zup (zup (zup (zup (zup (zup (zup mi 81 0 40) 66 24 1) 81 1 12) 66 24 2) 81 2 70) 66 24 3) 81 3 11) 66 24 4) 81 4 71) 66 24 5) 81 5 10) 66 24 6) 81 6 10) 66 24 7) 81 7 70) 66 24 8) 81 8 11) 66 24 9) 81 9 71) 66 24 10) 81 10 10) 66 24 11) 81 11 10) 66 24 12), ml, (zmr g))) rfl ?_
  refine Wp.ret rfl rfl rfl ?_
  exact ⟨rfl, rfl⟩
