/-! THE REFERENCE: its small methods -/
theorem m_isIn {E : zEn} {w : zW} (x lo hi : Int32) : Wp E 0 pg_M_isIn 0 (lv_args 0 [.int x, .int lo, .int hi]) [] w (fun r w' => r = some (.int (if lo ≤ x ∧ x ≤ hi then 1 else 0)) ∧ w' = w) := by
  refine Wp.run 2 (2, [(0, .int x), (1, .int lo), (2, .int hi)], [.int lo, .int x], (w.1, w.2.1, w.2.2.1, w.2.2.2)) rfl ?_
  refine Wp.icmp_lt rfl (fun h1 => ?_) (fun h1 => ?_)
  · refine Wp.run 1 (15, [(0, .int x), (1, .int lo), (2, .int hi)], [.int 0], (w.1, w.2.1, w.2.2.1, w.2.2.2)) rfl ?_
    refine Wp.ret rfl rfl rfl ?_
    exact ⟨by rw [if_neg (fun h => Int32.not_le.mpr h1 h.1)], rfl⟩
  · refine Wp.run 2 (7, [(0, .int x), (1, .int lo), (2, .int hi)], [.int hi, .int x], (w.1, w.2.1, w.2.2.1, w.2.2.2)) rfl ?_
    refine Wp.icmp_gt rfl (fun h2 => ?_) (fun h2 => ?_)
    · refine Wp.run 1 (15, [(0, .int x), (1, .int lo), (2, .int hi)], [.int 0], (w.1, w.2.1, w.2.2.1, w.2.2.2)) rfl ?_
      refine Wp.ret rfl rfl rfl ?_
      exact ⟨by rw [if_neg (fun h => Int32.not_le.mpr h2 h.2)], rfl⟩
    · refine Wp.run 2 (15, [(0, .int x), (1, .int lo), (2, .int hi)], [.int 1], (w.1, w.2.1, w.2.2.1, w.2.2.2)) rfl ?_
      refine Wp.ret rfl rfl rfl ?_
      exact ⟨by rw [if_pos ⟨Int32.not_lt.mp h1, Int32.not_lt.mp h2⟩], rfl⟩
