/-! DAYS TO COME, asked of both -/
/-- what the reference's days rest on -/
def RE (E : zEn) (X71 X72 : Nat → Int32) (rv : Int32 → Prop) (sm : Int32 → (Nat → Int32) → Int32) (an : Int32 → Int32) (mi : Nat → Nat → Int32) (n dd : Nat) : Prop :=
  RFs E X71 X72 rv sm an ∧ mi 71 = X71 ∧ kH mi X72 ∧ rv (mi 67 70) ∧ mi 67 69 = nI dd ∧ mi 67 68 = nI n ∧ n ≤ 6
/-- what the class's days rest on -/
def CE (E : zEn) (vs : List (Nat × Nat)) (g0 : Nat → Nat → Option Nat) (X : Nat → Nat → Int32) (nv : Nat) (wg : Nat → (Nat → Int32) → Int32) (sm : Int32 → (Nat → Int32) → Int32) (an : Int32 → Int32) (g : Nat → Nat → Option Nat) (mi : Nat → Nat → Int32) : Prop :=
  CWs E vs g0 X (vvN nv) wg ∧ vSem nv X wg sm an ∧ (∀ b, 86 ≤ b → g b = g0 b) ∧ (∀ b, 86 ≤ b → mi b = X b) ∧ nv ≤ 6
section ENV
variable {E : zEn} {vs : List (Nat × Nat)} {mi m : Nat → Nat → Int32} {ml : Nat → Nat → Int64} {g : Nat → Nat → Option Nat} {X71 X72 : Nat → Int32} {rv : Int32 → Prop} {sm : Int32 → (Nat → Int32) → Int32} {an : Int32 → Int32} {n dd dd' : Nat}
theorem RE.fr (R : RE E X71 X72 rv sm an mi n dd) (e : ∀ a, a = 71 ∨ a = 72 ∨ a = 75 ∨ a = 76 ∨ a = 77 → m a = mi a) (e70 : m 67 70 = mi 67 70) (e69 : m 67 69 = nI dd') (e68 : m 67 68 = mi 67 68) : RE E X71 X72 rv sm an m n dd' := by
  obtain ⟨h1, h2, h3, h4, h5, h6, h7⟩ := R
  exact ⟨h1, by rw [e 71 (by omega)]; exact h2, h3.fr (fun a ha => e a (by omega)), by rw [e70]; exact h4, e69, by rw [e68]; exact h6, h7⟩
theorem RE.day (R : RE E X71 X72 rv sm an mi n dd) (k : zKep3 mi m) (e : m 67 = dayN sm an (mi 67) n dd) : RE E X71 X72 rv sm an m n (dd + 1) := by
  have h6 := R.2.2.2.2.2.2
  exact R.fr (fun a ha => k.1 a (by omega) (by omega) (by omega) (by omega) (by omega)) (by rw [e, dayN_70 h6 (by omega) (by omega)]) (by rw [e, dayN_69]) (by rw [e, dayN_70 h6 (by omega) (by omega)])
theorem RE.row (R : RE E X71 X72 rv sm an mi n dd) (k : ∀ a, ¬ a = 67 → m a = mi a) (e : ∀ i, 68 ≤ i → i ≤ 70 → m 67 i = mi 67 i) : RE E X71 X72 rv sm an m n dd := R.fr (fun a ha => k a (by omega)) (e 70 (by omega) (by omega)) (by rw [e 69 (by omega) (by omega)]; exact R.2.2.2.2.1) (e 68 (by omega) (by omega))
theorem m_dayE (R : RE E X71 X72 rv sm an mi n dd) (hdd : dd < 100000) : Wp E 24 pg_M_day 0 (lv_args 0 [.ref 66]) [] (zsh ++ vs, mi, ml, zmr g) (fun r w' => r = none ∧ ∃ m, w' = (zsh ++ vs, m, ml, zmr g) ∧ m 67 = dayN sm an (mi 67) n dd ∧ zKep3 mi m) := m_day R.1 R.2.1 R.2.2.1 R.2.2.2.1 hdd R.2.2.2.2.1 R.2.2.2.2.2.1 R.2.2.2.2.2.2
theorem m_daysE {t : Nat} (R : RE E X71 X72 rv sm an mi n dd) (hdd : dd + t < 100000) : Wp E 25 pg_M_days 0 (lv_args 0 [.ref 66, .int (nI t)]) [] (zsh ++ vs, mi, ml, zmr g) (fun r w' => r = none ∧ ∃ m, w' = (zsh ++ vs, m, ml, zmr g) ∧ m 67 = daysN sm an (mi 67) n dd t ∧ zKep3 mi m) := m_days R.1 R.2.1 R.2.2.1 R.2.2.2.1 hdd R.2.2.2.2.1 R.2.2.2.2.2.1 R.2.2.2.2.2.2
end ENV
theorem INV.re {E : zEn} {nv : Nat} {VD : Nat → zV} {NL : Nat → Nat} {n dd : Nat} {vs : List (Nat × Nat)} {mi : Nat → Nat → Int32} {ml : Nat → Nat → Int64} {g : Nat → Nat → Option Nat} (I : INV nv VD NL n dd vs mi ml g) : RE E (mi 71) (mi 72) (rvV nv) (smV VD) (anV VD) mi n dd := ⟨I.rf, rfl, I.kh, I.rv, I.1.1.1.2.2.1, I.1.1.1.1, I.1.1.1.2.1⟩
theorem INV.ce {E : zEn} {nv : Nat} {VD : Nat → zV} {NL : Nat → Nat} {n dd : Nat} {vs : List (Nat × Nat)} {mi : Nat → Nat → Int32} {ml : Nat → Nat → Int64} {g : Nat → Nat → Option Nat} (I : INV nv VD NL n dd vs mi ml g) : CE E vs g mi nv (wgV VD) (smV VD) (anV VD) g mi := ⟨I.cw, I.sem, fun _ _ => rfl, fun _ _ => rfl, I.2.2.2.2.1.1⟩
/-- what a question leaves in the reference -/
def KO (mi m : Nat → Nat → Int32) : Prop := (∀ a, ¬ a = 66 → ¬ a = 68 → ¬ a = 73 → ¬ a = 74 → ¬ a = 78 → m a = mi a) ∧ ∀ k, (k < 10 ∨ 15 < k) → m 66 k = mi 66 k
theorem KO.rf {mi : Nat → Nat → Int32} : KO mi mi := ⟨fun _ _ _ _ _ _ => rfl, fun _ _ => rfl⟩
theorem KO.tr {a b c : Nat → Nat → Int32} (h1 : KO a b) (h2 : KO b c) : KO a c := ⟨fun x p q r s t => (h2.1 x p q r s t).trans (h1.1 x p q r s t), fun k hk => (h2.2 k hk).trans (h1.2 k hk)⟩
theorem KO.keep {mi m : Nat → Nat → Int32} (h : zKeep mi m) : KO mi m := ⟨fun a p _ q r _ => h.1 a p q r, h.2⟩
theorem KO.sc {mi m : Nat → Nat → Int32} (h : KO mi m) : SC mi m := ⟨fun b _ _ _ _ _ p66 p68 p73 p74 p78 => h.1 b p66 p68 p73 p74 p78, by rw [h.1 48 (by decide) (by decide) (by decide) (by decide) (by decide)], by rw [h.1 51 (by decide) (by decide) (by decide) (by decide) (by decide)], h.2⟩
theorem KO.e67 {mi m : Nat → Nat → Int32} (h : KO mi m) : m 67 = mi 67 := h.1 67 (by decide) (by decide) (by decide) (by decide) (by decide)
/-- the row put back -/
theorem KO.back {mi m1 m2 m3 : Nat → Nat → Int32} (a1 : ∀ b, ¬ b = 68 → m1 b = mi b) (a2 : ∀ i, i < 125 → m1 68 i = mi 67 i) (k : zKep3 m1 m2) (hi : ∀ i, 125 ≤ i → m2 67 i = mi 67 i) (c1 : ∀ b, ¬ b = 67 → m3 b = m2 b) (c2 : ∀ i, i < 125 → m3 67 i = m2 68 i) (c3 : ∀ i, 125 ≤ i → m3 67 i = m2 67 i) : KO mi m3 := by
  refine ⟨fun b p1 p2 p3 p4 p5 => ?_, fun q hq => by rw [c1 66 (by decide), k.2 q hq, a1 66 (by decide)]⟩
  by_cases e : b = 67
  · subst e
    funext i
    by_cases h : i < 125
    · rw [c2 i h, k.1 68 (by decide) (by decide) (by decide) (by decide) (by decide)]; exact a2 i h
    · rw [c3 i (by omega)]; exact hi i (by omega)
  · rw [c1 b e, k.1 b p1 e p3 p4 p5]; exact a1 b p2
abbrev sacksN (N : Nat → Int32) (n : Nat) : Int32 := zsum (fun p => if zor (keptF (uN N)) n >>> (nI p &&& 31) &&& 1 = 1 then N p else 0) 8
theorem m_on0 {E : zEn} {vs : List (Nat × Nat)} {mi : Nat → Nat → Int32} {ml : Nat → Nat → Int64} {g : Nat → Nat → Option Nat} {X71 X72 : Nat → Int32} {rv : Int32 → Prop} {sm : Int32 → (Nat → Int32) → Int32} {an : Int32 → Int32} {n dd : Nat} (R : RE E X71 X72 rv sm an mi n dd) {t : Nat} (ht : t ≤ 60) (hdd : dd + t < 100000)  : Wp E 26 pg_M_on 0 (lv_args 0 [.ref 66, .int (nI t), .int 0]) [] (zsh ++ vs, mi, ml, (zmr g)) (fun r w' => r = some (.int (keptN (daysN sm an (mi 67) n dd t) n)) ∧ ∃ m, w' = (zsh ++ vs, m, ml, zmr g) ∧ KO mi m) := by
  have h6 := R.2.2.2.2.2.2
  refine Wp.run 3 (3, [(0, .ref 66), (1, .int (nI t)), (2, .int 0)], [.int 1, .int 0, .int 0], (zsh ++ vs, mi, ml, (zmr g))) rfl ?_
  refine Wp.call (as := [.int 0, .int 0, .int 1]) (rest := []) rfl rfl rfl rfl rfl (Nat.le_of_ble_eq_true rfl) (Nat.le_of_ble_eq_true rfl) rfl (by decide) (m_isIn_t ⟨by decide, by decide⟩) ?_
  rintro _ _ ⟨rfl, rfl⟩
  refine Wp.run 4 (37, [(0, .ref 66), (1, .int (nI t)), (2, .int 0)], [.int 60, .int 0, .int (nI t)], (zsh ++ vs, mi, ml, (zmr g))) rfl ?_
  refine Wp.call (as := [.int (nI t), .int 0, .int 60]) (rest := []) rfl rfl rfl rfl rfl (Nat.le_of_ble_eq_true rfl) (Nat.le_of_ble_eq_true rfl) rfl (by decide) (m_isIn_t (rngI ht (by decide))) ?_
  rintro _ _ ⟨rfl, rfl⟩
  refine Wp.run 5 (54, [(0, .ref 66), (1, .int (nI t)), (2, .int 0)], [.ref 68, .ref 67], (zsh ++ vs, mi, ml, (zmr g))) rfl ?_
  refine Wp.call (as := [.ref 67, .ref 68]) (rest := []) rfl rfl rfl rfl rfl (Nat.le_of_ble_eq_true rfl) (Nat.le_of_ble_eq_true rfl) rfl (by decide) (m_move_67_68 (mi := mi)) ?_
  rintro _ _ ⟨rfl, rfl⟩
  obtain ⟨p1, hp1⟩ : ∃ z, z = zrow mi 68 (mvR mi 67 68 125) := ⟨_, rfl⟩
  rw [← hp1]
  have a1 : ∀ b, ¬ b = 68 → p1 b = mi b := fun b hb => by rw [hp1, zrow_ne hb]
  have a2 : ∀ i, i < 125 → p1 68 i = mi 67 i := fun i hi => by rw [hp1, zrow_eq, mvR_lt hi]
  have a3 : ∀ i, 125 ≤ i → p1 68 i = mi 68 i := fun i hi => by rw [hp1, zrow_eq]; exact if_neg (by omega)
  have R1 : RE E X71 X72 rv sm an p1 n dd := R.fr (fun a ha => a1 a (by omega)) (by rw [a1 67 (by decide)]) (by rw [a1 67 (by decide)]; exact R.2.2.2.2.1) (by rw [a1 67 (by decide)])
  refine Wp.run 2 (59, [(0, .ref 66), (1, .int (nI t)), (2, .int 0)], [.int (nI t), .ref 66], (zsh ++ vs, p1, ml, (zmr g))) rfl ?_
  refine Wp.call (as := [.ref 66, .int (nI t)]) (rest := []) rfl rfl rfl rfl rfl (Nat.le_of_ble_eq_true rfl) (Nat.le_of_ble_eq_true rfl) rfl (by decide) (m_daysE (mi := p1) (t := t) R1 hdd) ?_
  rintro _ _ ⟨rfl, p2, rfl, d1, d2⟩
  have d3 : p2 67 = daysN sm an (mi 67) n dd t := by rw [d1, a1 67 (by decide)]
  have hn2 : p2 67 68 = nI n := by rw [d3, daysN_70 h6 (by omega) (by omega)]; exact R.2.2.2.2.2.1
  refine Wp.run 3 (67, [(0, .ref 66), (1, .int (nI t)), (2, .int 0)], [.ref 66], (zsh ++ vs, p2, ml, (zmr g))) rfl ?_
  refine Wp.call (as := [.ref 66]) (rest := []) rfl rfl rfl rfl rfl (Nat.le_of_ble_eq_true rfl) (Nat.le_of_ble_eq_true rfl) rfl (by decide) (m_keptNow hn2 h6) ?_
  rintro _ _ ⟨rfl, rfl⟩
  refine Wp.run 6 (121, [(3, .int (zor (keptF (uN (p2 67))) n)), (0, .ref 66), (1, .int (nI t)), (2, .int 0)], [.ref 67, .ref 68], (zsh ++ vs, p2, ml, (zmr g))) rfl ?_
  refine Wp.call (as := [.ref 68, .ref 67]) (rest := []) rfl rfl rfl rfl rfl (Nat.le_of_ble_eq_true rfl) (Nat.le_of_ble_eq_true rfl) rfl (by decide) (m_move_68_67 (mi := p2)) ?_
  rintro _ _ ⟨rfl, rfl⟩
  obtain ⟨p3, hp3⟩ : ∃ z, z = zrow p2 67 (mvR p2 68 67 125) := ⟨_, rfl⟩
  rw [← hp3]
  have c1 : ∀ b, ¬ b = 67 → p3 b = p2 b := fun b hb => by rw [hp3, zrow_ne hb]
  have c2 : ∀ i, i < 125 → p3 67 i = p2 68 i := fun i hi => by rw [hp3, zrow_eq, mvR_lt hi]
  have c3 : ∀ i, 125 ≤ i → p3 67 i = p2 67 i := fun i hi => by rw [hp3, zrow_eq]; exact if_neg (by omega)
  refine Wp.run 1 (125, [(3, .int (zor (keptF (uN (p2 67))) n)), (0, .ref 66), (1, .int (nI t)), (2, .int 0)], [.int (zor (keptF (uN (p2 67))) n)], (zsh ++ vs, p3, ml, (zmr g))) rfl ?_
  refine Wp.ret rfl rfl rfl ?_
  refine ⟨?_, p3, rfl, KO.back a1 a2 d2 (fun i hi => by rw [d3, daysN_70 h6 (by omega) (by omega)]) c1 c2 c3⟩
  rw [d3]
theorem m_on1 {E : zEn} {vs : List (Nat × Nat)} {mi : Nat → Nat → Int32} {ml : Nat → Nat → Int64} {g : Nat → Nat → Option Nat} {X71 X72 : Nat → Int32} {rv : Int32 → Prop} {sm : Int32 → (Nat → Int32) → Int32} {an : Int32 → Int32} {n dd : Nat} (R : RE E X71 X72 rv sm an mi n dd) {t : Nat} (ht : t ≤ 60) (hdd : dd + t < 100000)  : Wp E 26 pg_M_on 0 (lv_args 0 [.ref 66, .int (nI t), .int 1]) [] (zsh ++ vs, mi, ml, (zmr g)) (fun r w' => r = some (.int (sacksN (daysN sm an (mi 67) n dd t) n)) ∧ ∃ m, w' = (zsh ++ vs, m, ml, zmr g) ∧ KO mi m) := by
  have h6 := R.2.2.2.2.2.2
  refine Wp.run 3 (3, [(0, .ref 66), (1, .int (nI t)), (2, .int 1)], [.int 1, .int 0, .int 1], (zsh ++ vs, mi, ml, (zmr g))) rfl ?_
  refine Wp.call (as := [.int 1, .int 0, .int 1]) (rest := []) rfl rfl rfl rfl rfl (Nat.le_of_ble_eq_true rfl) (Nat.le_of_ble_eq_true rfl) rfl (by decide) (m_isIn_t ⟨by decide, by decide⟩) ?_
  rintro _ _ ⟨rfl, rfl⟩
  refine Wp.run 4 (37, [(0, .ref 66), (1, .int (nI t)), (2, .int 1)], [.int 60, .int 0, .int (nI t)], (zsh ++ vs, mi, ml, (zmr g))) rfl ?_
  refine Wp.call (as := [.int (nI t), .int 0, .int 60]) (rest := []) rfl rfl rfl rfl rfl (Nat.le_of_ble_eq_true rfl) (Nat.le_of_ble_eq_true rfl) rfl (by decide) (m_isIn_t (rngI ht (by decide))) ?_
  rintro _ _ ⟨rfl, rfl⟩
  refine Wp.run 5 (54, [(0, .ref 66), (1, .int (nI t)), (2, .int 1)], [.ref 68, .ref 67], (zsh ++ vs, mi, ml, (zmr g))) rfl ?_
  refine Wp.call (as := [.ref 67, .ref 68]) (rest := []) rfl rfl rfl rfl rfl (Nat.le_of_ble_eq_true rfl) (Nat.le_of_ble_eq_true rfl) rfl (by decide) (m_move_67_68 (mi := mi)) ?_
  rintro _ _ ⟨rfl, rfl⟩
  obtain ⟨p1, hp1⟩ : ∃ z, z = zrow mi 68 (mvR mi 67 68 125) := ⟨_, rfl⟩
  rw [← hp1]
  have a1 : ∀ b, ¬ b = 68 → p1 b = mi b := fun b hb => by rw [hp1, zrow_ne hb]
  have a2 : ∀ i, i < 125 → p1 68 i = mi 67 i := fun i hi => by rw [hp1, zrow_eq, mvR_lt hi]
  have a3 : ∀ i, 125 ≤ i → p1 68 i = mi 68 i := fun i hi => by rw [hp1, zrow_eq]; exact if_neg (by omega)
  have R1 : RE E X71 X72 rv sm an p1 n dd := R.fr (fun a ha => a1 a (by omega)) (by rw [a1 67 (by decide)]) (by rw [a1 67 (by decide)]; exact R.2.2.2.2.1) (by rw [a1 67 (by decide)])
  refine Wp.run 2 (59, [(0, .ref 66), (1, .int (nI t)), (2, .int 1)], [.int (nI t), .ref 66], (zsh ++ vs, p1, ml, (zmr g))) rfl ?_
  refine Wp.call (as := [.ref 66, .int (nI t)]) (rest := []) rfl rfl rfl rfl rfl (Nat.le_of_ble_eq_true rfl) (Nat.le_of_ble_eq_true rfl) rfl (by decide) (m_daysE (mi := p1) (t := t) R1 hdd) ?_
  rintro _ _ ⟨rfl, p2, rfl, d1, d2⟩
  have d3 : p2 67 = daysN sm an (mi 67) n dd t := by rw [d1, a1 67 (by decide)]
  have hn2 : p2 67 68 = nI n := by rw [d3, daysN_70 h6 (by omega) (by omega)]; exact R.2.2.2.2.2.1
  refine Wp.run 6 (79, [(0, .ref 66), (1, .int (nI t)), (2, .int 1)], [.ref 66], (zsh ++ vs, p2, ml, (zmr g))) rfl ?_
  refine Wp.call (as := [.ref 66]) (rest := []) rfl rfl rfl rfl rfl (Nat.le_of_ble_eq_true rfl) (Nat.le_of_ble_eq_true rfl) rfl (by decide) (m_sacks hn2 h6) ?_
  rintro _ _ ⟨rfl, rfl⟩
  refine Wp.run 6 (121, [(3, .int (sacksN (p2 67) n)), (0, .ref 66), (1, .int (nI t)), (2, .int 1)], [.ref 67, .ref 68], (zsh ++ vs, p2, ml, (zmr g))) rfl ?_
  refine Wp.call (as := [.ref 68, .ref 67]) (rest := []) rfl rfl rfl rfl rfl (Nat.le_of_ble_eq_true rfl) (Nat.le_of_ble_eq_true rfl) rfl (by decide) (m_move_68_67 (mi := p2)) ?_
  rintro _ _ ⟨rfl, rfl⟩
  obtain ⟨p3, hp3⟩ : ∃ z, z = zrow p2 67 (mvR p2 68 67 125) := ⟨_, rfl⟩
  rw [← hp3]
  have c1 : ∀ b, ¬ b = 67 → p3 b = p2 b := fun b hb => by rw [hp3, zrow_ne hb]
  have c2 : ∀ i, i < 125 → p3 67 i = p2 68 i := fun i hi => by rw [hp3, zrow_eq, mvR_lt hi]
  have c3 : ∀ i, 125 ≤ i → p3 67 i = p2 67 i := fun i hi => by rw [hp3, zrow_eq]; exact if_neg (by omega)
  refine Wp.run 1 (125, [(3, .int (sacksN (p2 67) n)), (0, .ref 66), (1, .int (nI t)), (2, .int 1)], [.int (sacksN (p2 67) n)], (zsh ++ vs, p3, ml, (zmr g))) rfl ?_
  refine Wp.ret rfl rfl rfl ?_
  refine ⟨?_, p3, rfl, KO.back a1 a2 d2 (fun i hi => by rw [d3, daysN_70 h6 (by omega) (by omega)]) c1 c2 c3⟩
  rw [d3]
theorem nI_sub {i a : Nat} : nI (a + i) - nI a = nI i := by rw [pk_sub (by omega), Nat.add_sub_cancel_left]
theorem m_on10 {E : zEn} {vs : List (Nat × Nat)} {mi : Nat → Nat → Int32} {ml : Nat → Nat → Int64} {g : Nat → Nat → Option Nat} {X71 X72 : Nat → Int32} {rv : Int32 → Prop} {sm : Int32 → (Nat → Int32) → Int32} {an : Int32 → Int32} {n dd : Nat} (R : RE E X71 X72 rv sm an mi n dd) {t i : Nat} (ht : t ≤ 60) (hdd : dd + t < 100000) (hi : i < n) : Wp E 26 pg_M_on 0 (lv_args 0 [.ref 66, .int (nI t), .int (nI (10 + i))]) [] (zsh ++ vs, mi, ml, (zmr g)) (fun r w' => r = some (.int (uN (daysN sm an (mi 67) n dd t) i 3)) ∧ ∃ m, w' = (zsh ++ vs, m, ml, zmr g) ∧ KO mi m) := by
  have h6 := R.2.2.2.2.2.2
  refine Wp.run 3 (3, [(0, .ref 66), (1, .int (nI t)), (2, .int (nI (10 + i)))], [.int 1, .int 0, .int (nI (10 + i))], (zsh ++ vs, mi, ml, (zmr g))) rfl ?_
  refine Wp.call (as := [.int (nI (10 + i)), .int 0, .int 1]) (rest := []) rfl rfl rfl rfl rfl (Nat.le_of_ble_eq_true rfl) (Nat.le_of_ble_eq_true rfl) rfl (by decide) (m_isIn_f (fun z => absurd ((nI_leI (b := 1) (by omega) (by decide)).mp z.2) (by omega))) ?_
  rintro _ _ ⟨rfl, rfl⟩
  refine Wp.run 5 (14, [(0, .ref 66), (1, .int (nI t)), (2, .int (nI (10 + i)))], [.int ((nI (10 + i)) - 10), .ref 66], (zsh ++ vs, mi, ml, (zmr g))) rfl ?_
  refine Wp.topi (y := nI i) (nI_sub) ?_
  refine Wp.run 0 (14, [(0, .ref 66), (1, .int (nI t)), (2, .int (nI (10 + i)))], [.int (nI i), .ref 66], (zsh ++ vs, mi, ml, (zmr g))) rfl ?_
  refine Wp.call (as := [.ref 66, .int (nI i)]) (rest := []) rfl rfl rfl rfl rfl (Nat.le_of_ble_eq_true rfl) (Nat.le_of_ble_eq_true rfl) rfl (by decide) (m_isOne_t (mi := mi) R.2.2.2.2.2.1 h6 ⟨i, hi, rfl⟩) ?_
  rintro _ _ ⟨rfl, rfl⟩
  refine Wp.run 4 (37, [(0, .ref 66), (1, .int (nI t)), (2, .int (nI (10 + i)))], [.int 60, .int 0, .int (nI t)], (zsh ++ vs, mi, ml, (zmr g))) rfl ?_
  refine Wp.call (as := [.int (nI t), .int 0, .int 60]) (rest := []) rfl rfl rfl rfl rfl (Nat.le_of_ble_eq_true rfl) (Nat.le_of_ble_eq_true rfl) rfl (by decide) (m_isIn_t (rngI ht (by decide))) ?_
  rintro _ _ ⟨rfl, rfl⟩
  refine Wp.run 5 (54, [(0, .ref 66), (1, .int (nI t)), (2, .int (nI (10 + i)))], [.ref 68, .ref 67], (zsh ++ vs, mi, ml, (zmr g))) rfl ?_
  refine Wp.call (as := [.ref 67, .ref 68]) (rest := []) rfl rfl rfl rfl rfl (Nat.le_of_ble_eq_true rfl) (Nat.le_of_ble_eq_true rfl) rfl (by decide) (m_move_67_68 (mi := mi)) ?_
  rintro _ _ ⟨rfl, rfl⟩
  obtain ⟨p1, hp1⟩ : ∃ z, z = zrow mi 68 (mvR mi 67 68 125) := ⟨_, rfl⟩
  rw [← hp1]
  have a1 : ∀ b, ¬ b = 68 → p1 b = mi b := fun b hb => by rw [hp1, zrow_ne hb]
  have a2 : ∀ i, i < 125 → p1 68 i = mi 67 i := fun i hi => by rw [hp1, zrow_eq, mvR_lt hi]
  have a3 : ∀ i, 125 ≤ i → p1 68 i = mi 68 i := fun i hi => by rw [hp1, zrow_eq]; exact if_neg (by omega)
  have R1 : RE E X71 X72 rv sm an p1 n dd := R.fr (fun a ha => a1 a (by omega)) (by rw [a1 67 (by decide)]) (by rw [a1 67 (by decide)]; exact R.2.2.2.2.1) (by rw [a1 67 (by decide)])
  refine Wp.run 2 (59, [(0, .ref 66), (1, .int (nI t)), (2, .int (nI (10 + i)))], [.int (nI t), .ref 66], (zsh ++ vs, p1, ml, (zmr g))) rfl ?_
  refine Wp.call (as := [.ref 66, .int (nI t)]) (rest := []) rfl rfl rfl rfl rfl (Nat.le_of_ble_eq_true rfl) (Nat.le_of_ble_eq_true rfl) rfl (by decide) (m_daysE (mi := p1) (t := t) R1 hdd) ?_
  rintro _ _ ⟨rfl, p2, rfl, d1, d2⟩
  have d3 : p2 67 = daysN sm an (mi 67) n dd t := by rw [d1, a1 67 (by decide)]
  have hn2 : p2 67 68 = nI n := by rw [d3, daysN_70 h6 (by omega) (by omega)]; exact R.2.2.2.2.2.1
  refine Wp.run 1 (63, [(0, .ref 66), (1, .int (nI t)), (2, .int (nI (10 + i)))], [.int (nI (10 + i))], (zsh ++ vs, p2, ml, (zmr g))) rfl ?_
  refine Wp.if_ne rfl (fun h1 => ?_) (fun h1 => ?_)
  · refine Wp.run 2 (75, [(0, .ref 66), (1, .int (nI t)), (2, .int (nI (10 + i)))], [.int 1, .int (nI (10 + i))], (zsh ++ vs, p2, ml, (zmr g))) rfl ?_
    refine Wp.icmp_ne rfl (fun h2 => ?_) (fun h2 => ?_)
    · refine Wp.run 2 (88, [(0, .ref 66), (1, .int (nI t)), (2, .int (nI (10 + i)))], [.int 20, .int (nI (10 + i))], (zsh ++ vs, p2, ml, (zmr g))) rfl ?_
      refine Wp.icmp_ge rfl (fun h3 => ?_) (fun h3 => ?_)
      · exact absurd h3 (nI_ge (b := 20) (by omega) (by decide))
      · refine Wp.run 4 (96, [(0, .ref 66), (1, .int (nI t)), (2, .int (nI (10 + i)))], [.int ((nI (10 + i)) - 10), .ref 66], (zsh ++ vs, p2, ml, (zmr g))) rfl ?_
        refine Wp.topi (y := nI i) (nI_sub) ?_
        refine Wp.run 1 (97, [(0, .ref 66), (1, .int (nI t)), (2, .int (nI (10 + i)))], [.int 3, .int (nI i), .ref 66], (zsh ++ vs, p2, ml, (zmr g))) rfl ?_
        refine Wp.call (as := [.ref 66, .int (nI i), .int 3]) (rest := []) rfl rfl rfl rfl rfl (Nat.le_of_ble_eq_true rfl) (Nat.le_of_ble_eq_true rfl) rfl (by decide) (m_one (mi := p2) i 3 (by omega)) ?_
        rintro _ _ ⟨rfl, rfl⟩
        refine Wp.run 6 (121, [(3, .int (p2 67 (8 + 10 * i + 3))), (0, .ref 66), (1, .int (nI t)), (2, .int (nI (10 + i)))], [.ref 67, .ref 68], (zsh ++ vs, p2, ml, (zmr g))) rfl ?_
        refine Wp.call (as := [.ref 68, .ref 67]) (rest := []) rfl rfl rfl rfl rfl (Nat.le_of_ble_eq_true rfl) (Nat.le_of_ble_eq_true rfl) rfl (by decide) (m_move_68_67 (mi := p2)) ?_
        rintro _ _ ⟨rfl, rfl⟩
        obtain ⟨p3, hp3⟩ : ∃ z, z = zrow p2 67 (mvR p2 68 67 125) := ⟨_, rfl⟩
        rw [← hp3]
        have c1 : ∀ b, ¬ b = 67 → p3 b = p2 b := fun b hb => by rw [hp3, zrow_ne hb]
        have c2 : ∀ i, i < 125 → p3 67 i = p2 68 i := fun i hi => by rw [hp3, zrow_eq, mvR_lt hi]
        have c3 : ∀ i, 125 ≤ i → p3 67 i = p2 67 i := fun i hi => by rw [hp3, zrow_eq]; exact if_neg (by omega)
        refine Wp.run 1 (125, [(3, .int (p2 67 (8 + 10 * i + 3))), (0, .ref 66), (1, .int (nI t)), (2, .int (nI (10 + i)))], [.int (p2 67 (8 + 10 * i + 3))], (zsh ++ vs, p3, ml, (zmr g))) rfl ?_
        refine Wp.ret rfl rfl rfl ?_
        refine ⟨?_, p3, rfl, KO.back a1 a2 d2 (fun i hi => by rw [d3, daysN_70 h6 (by omega) (by omega)]) c1 c2 c3⟩
        rw [d3]
    · exact absurd ((nI_eq (b := 1) (by omega) (by decide)).mp h2) (by omega)
  · exact absurd h1 (nI_ne0 (by omega) (by omega))
theorem m_on20 {E : zEn} {vs : List (Nat × Nat)} {mi : Nat → Nat → Int32} {ml : Nat → Nat → Int64} {g : Nat → Nat → Option Nat} {X71 X72 : Nat → Int32} {rv : Int32 → Prop} {sm : Int32 → (Nat → Int32) → Int32} {an : Int32 → Int32} {n dd : Nat} (R : RE E X71 X72 rv sm an mi n dd) {t i : Nat} (ht : t ≤ 60) (hdd : dd + t < 100000) (hi : i < n) : Wp E 26 pg_M_on 0 (lv_args 0 [.ref 66, .int (nI t), .int (nI (20 + i))]) [] (zsh ++ vs, mi, ml, (zmr g)) (fun r w' => r = some (.int (uN (daysN sm an (mi 67) n dd t) i 2)) ∧ ∃ m, w' = (zsh ++ vs, m, ml, zmr g) ∧ KO mi m) := by
  have h6 := R.2.2.2.2.2.2
  have hno : ¬ one n (nI (10 + i)) := by
    rintro ⟨j, hj, e⟩
    have := (nI_eq (by omega) (by omega)).mp e
    omega
  refine Wp.run 3 (3, [(0, .ref 66), (1, .int (nI t)), (2, .int (nI (20 + i)))], [.int 1, .int 0, .int (nI (20 + i))], (zsh ++ vs, mi, ml, (zmr g))) rfl ?_
  refine Wp.call (as := [.int (nI (20 + i)), .int 0, .int 1]) (rest := []) rfl rfl rfl rfl rfl (Nat.le_of_ble_eq_true rfl) (Nat.le_of_ble_eq_true rfl) rfl (by decide) (m_isIn_f (fun z => absurd ((nI_leI (b := 1) (by omega) (by decide)).mp z.2) (by omega))) ?_
  rintro _ _ ⟨rfl, rfl⟩
  refine Wp.run 5 (14, [(0, .ref 66), (1, .int (nI t)), (2, .int (nI (20 + i)))], [.int ((nI (20 + i)) - 10), .ref 66], (zsh ++ vs, mi, ml, (zmr g))) rfl ?_
  refine Wp.topi (y := nI (10 + i)) ((congrArg (fun z => nI z - nI 10) (show 20 + i = 10 + (10 + i) by omega)).trans nI_sub) ?_
  refine Wp.run 0 (14, [(0, .ref 66), (1, .int (nI t)), (2, .int (nI (20 + i)))], [.int (nI (10 + i)), .ref 66], (zsh ++ vs, mi, ml, (zmr g))) rfl ?_
  refine Wp.call (as := [.ref 66, .int (nI (10 + i))]) (rest := []) rfl rfl rfl rfl rfl (Nat.le_of_ble_eq_true rfl) (Nat.le_of_ble_eq_true rfl) rfl (by decide) (m_isOne_f (mi := mi) R.2.2.2.2.2.1 h6 (hno)) ?_
  rintro _ _ ⟨rfl, rfl⟩
  refine Wp.run 5 (25, [(0, .ref 66), (1, .int (nI t)), (2, .int (nI (20 + i)))], [.int ((nI (20 + i)) - 20), .ref 66], (zsh ++ vs, mi, ml, (zmr g))) rfl ?_
  refine Wp.topi (y := nI i) (nI_sub) ?_
  refine Wp.run 0 (25, [(0, .ref 66), (1, .int (nI t)), (2, .int (nI (20 + i)))], [.int (nI i), .ref 66], (zsh ++ vs, mi, ml, (zmr g))) rfl ?_
  refine Wp.call (as := [.ref 66, .int (nI i)]) (rest := []) rfl rfl rfl rfl rfl (Nat.le_of_ble_eq_true rfl) (Nat.le_of_ble_eq_true rfl) rfl (by decide) (m_isOne_t (mi := mi) R.2.2.2.2.2.1 h6 ⟨i, hi, rfl⟩) ?_
  rintro _ _ ⟨rfl, rfl⟩
  refine Wp.run 4 (37, [(0, .ref 66), (1, .int (nI t)), (2, .int (nI (20 + i)))], [.int 60, .int 0, .int (nI t)], (zsh ++ vs, mi, ml, (zmr g))) rfl ?_
  refine Wp.call (as := [.int (nI t), .int 0, .int 60]) (rest := []) rfl rfl rfl rfl rfl (Nat.le_of_ble_eq_true rfl) (Nat.le_of_ble_eq_true rfl) rfl (by decide) (m_isIn_t (rngI ht (by decide))) ?_
  rintro _ _ ⟨rfl, rfl⟩
  refine Wp.run 5 (54, [(0, .ref 66), (1, .int (nI t)), (2, .int (nI (20 + i)))], [.ref 68, .ref 67], (zsh ++ vs, mi, ml, (zmr g))) rfl ?_
  refine Wp.call (as := [.ref 67, .ref 68]) (rest := []) rfl rfl rfl rfl rfl (Nat.le_of_ble_eq_true rfl) (Nat.le_of_ble_eq_true rfl) rfl (by decide) (m_move_67_68 (mi := mi)) ?_
  rintro _ _ ⟨rfl, rfl⟩
  obtain ⟨p1, hp1⟩ : ∃ z, z = zrow mi 68 (mvR mi 67 68 125) := ⟨_, rfl⟩
  rw [← hp1]
  have a1 : ∀ b, ¬ b = 68 → p1 b = mi b := fun b hb => by rw [hp1, zrow_ne hb]
  have a2 : ∀ i, i < 125 → p1 68 i = mi 67 i := fun i hi => by rw [hp1, zrow_eq, mvR_lt hi]
  have a3 : ∀ i, 125 ≤ i → p1 68 i = mi 68 i := fun i hi => by rw [hp1, zrow_eq]; exact if_neg (by omega)
  have R1 : RE E X71 X72 rv sm an p1 n dd := R.fr (fun a ha => a1 a (by omega)) (by rw [a1 67 (by decide)]) (by rw [a1 67 (by decide)]; exact R.2.2.2.2.1) (by rw [a1 67 (by decide)])
  refine Wp.run 2 (59, [(0, .ref 66), (1, .int (nI t)), (2, .int (nI (20 + i)))], [.int (nI t), .ref 66], (zsh ++ vs, p1, ml, (zmr g))) rfl ?_
  refine Wp.call (as := [.ref 66, .int (nI t)]) (rest := []) rfl rfl rfl rfl rfl (Nat.le_of_ble_eq_true rfl) (Nat.le_of_ble_eq_true rfl) rfl (by decide) (m_daysE (mi := p1) (t := t) R1 hdd) ?_
  rintro _ _ ⟨rfl, p2, rfl, d1, d2⟩
  have d3 : p2 67 = daysN sm an (mi 67) n dd t := by rw [d1, a1 67 (by decide)]
  have hn2 : p2 67 68 = nI n := by rw [d3, daysN_70 h6 (by omega) (by omega)]; exact R.2.2.2.2.2.1
  refine Wp.run 1 (63, [(0, .ref 66), (1, .int (nI t)), (2, .int (nI (20 + i)))], [.int (nI (20 + i))], (zsh ++ vs, p2, ml, (zmr g))) rfl ?_
  refine Wp.if_ne rfl (fun h1 => ?_) (fun h1 => ?_)
  · refine Wp.run 2 (75, [(0, .ref 66), (1, .int (nI t)), (2, .int (nI (20 + i)))], [.int 1, .int (nI (20 + i))], (zsh ++ vs, p2, ml, (zmr g))) rfl ?_
    refine Wp.icmp_ne rfl (fun h2 => ?_) (fun h2 => ?_)
    · refine Wp.run 2 (88, [(0, .ref 66), (1, .int (nI t)), (2, .int (nI (20 + i)))], [.int 20, .int (nI (20 + i))], (zsh ++ vs, p2, ml, (zmr g))) rfl ?_
      refine Wp.icmp_ge rfl (fun h3 => ?_) (fun h3 => ?_)
      · refine Wp.run 4 (108, [(0, .ref 66), (1, .int (nI t)), (2, .int (nI (20 + i)))], [.int ((nI (20 + i)) - 20), .ref 66], (zsh ++ vs, p2, ml, (zmr g))) rfl ?_
        refine Wp.topi (y := nI i) (nI_sub) ?_
        refine Wp.run 1 (109, [(0, .ref 66), (1, .int (nI t)), (2, .int (nI (20 + i)))], [.int 2, .int (nI i), .ref 66], (zsh ++ vs, p2, ml, (zmr g))) rfl ?_
        refine Wp.call (as := [.ref 66, .int (nI i), .int 2]) (rest := []) rfl rfl rfl rfl rfl (Nat.le_of_ble_eq_true rfl) (Nat.le_of_ble_eq_true rfl) rfl (by decide) (m_one (mi := p2) i 2 (by omega)) ?_
        rintro _ _ ⟨rfl, rfl⟩
        refine Wp.run 5 (121, [(3, .int (p2 67 (8 + 10 * i + 2))), (0, .ref 66), (1, .int (nI t)), (2, .int (nI (20 + i)))], [.ref 67, .ref 68], (zsh ++ vs, p2, ml, (zmr g))) rfl ?_
        refine Wp.call (as := [.ref 68, .ref 67]) (rest := []) rfl rfl rfl rfl rfl (Nat.le_of_ble_eq_true rfl) (Nat.le_of_ble_eq_true rfl) rfl (by decide) (m_move_68_67 (mi := p2)) ?_
        rintro _ _ ⟨rfl, rfl⟩
        obtain ⟨p3, hp3⟩ : ∃ z, z = zrow p2 67 (mvR p2 68 67 125) := ⟨_, rfl⟩
        rw [← hp3]
        have c1 : ∀ b, ¬ b = 67 → p3 b = p2 b := fun b hb => by rw [hp3, zrow_ne hb]
        have c2 : ∀ i, i < 125 → p3 67 i = p2 68 i := fun i hi => by rw [hp3, zrow_eq, mvR_lt hi]
        have c3 : ∀ i, 125 ≤ i → p3 67 i = p2 67 i := fun i hi => by rw [hp3, zrow_eq]; exact if_neg (by omega)
        refine Wp.run 1 (125, [(3, .int (p2 67 (8 + 10 * i + 2))), (0, .ref 66), (1, .int (nI t)), (2, .int (nI (20 + i)))], [.int (p2 67 (8 + 10 * i + 2))], (zsh ++ vs, p3, ml, (zmr g))) rfl ?_
        refine Wp.ret rfl rfl rfl ?_
        refine ⟨?_, p3, rfl, KO.back a1 a2 d2 (fun i hi => by rw [d3, daysN_70 h6 (by omega) (by omega)]) c1 c2 c3⟩
        rw [d3]
      · exact absurd (nI_le (a := 20) (by omega) (by omega)) h3
    · exact absurd ((nI_eq (b := 1) (by omega) (by decide)).mp h2) (by omega)
  · exact absurd h1 (nI_ne0 (by omega) (by omega))
theorem INV.days {nv : Nat} {VD : Nat → zV} {NL : Nat → Nat} {n dd dd' : Nat} {vs : List (Nat × Nat)} {mi m : Nat → Nat → Int32} {ml : Nat → Nat → Int64} {g : Nat → Nat → Option Nat} (I : INV nv VD NL n dd vs mi ml g) (hb : ∀ b, (b < 1 ∨ 10 < b) → ¬ b = 66 → ¬ b = 67 → ¬ b = 73 → ¬ b = 74 → ¬ b = 78 → m b = mi b) (h66 : ∀ k, (k < 10 ∨ 15 < k) → m 66 k = mi 66 k) (hN : ∀ i, 71 ≤ i → m 67 i = mi 67 i) (B : BR m 1 (g 1 3) nv (m 67) n dd') (hd : dd' ≤ 9999) : INV nv VD NL n dd' vs m ml g := by
  obtain ⟨⟨i1, i2⟩, ⟨i3, i4, i5⟩, i6, i7, i8, i9, i10, i11⟩ := I
  have q : ∀ b, (b < 1 ∨ 10 < b) ∧ ¬ b = 66 ∧ ¬ b = 67 ∧ ¬ b = 73 ∧ ¬ b = 74 ∧ ¬ b = 78 → m b = mi b := fun b h => hb b h.1 h.2.1 h.2.2.1 h.2.2.2.1 h.2.2.2.2.1 h.2.2.2.2.2
  refine ⟨⟨B, hd⟩, ⟨?_, ?_, ?_⟩, ?_, ?_, ?_, ?_, ?_, ?_⟩
  · exact i3.fr (by rw [q 21 (by decide)]) (q _ (by decide)) (q _ (by decide)) (q _ (by decide)) (fun i p _ => hN i (by omega)) (Nat.le_refl _)
  · exact i4.fr (by rw [q 21 (by decide)]) (q _ (by decide)) (q _ (by decide)) (fun i p _ => hN i (by omega)) (Nat.le_refl _)
  · exact i5.fr (by rw [q 21 (by decide)]) (q _ (by decide)) (q _ (by decide)) (fun i p _ => hN i (by omega))
  · exact i6.fr (by rw [q 0 (by decide)]) (h66 3 (by decide)) (fun b r => q b (by omega)) rfl
  · exact i7.fr (by rw [q 48 (by decide)]) (h66 5 (by decide)) (q _ (by decide)) (q _ (by decide))
  · exact i8.fr (by rw [q 0 (by decide)]) (h66 8 (by decide)) (q _ (by decide)) (q _ (by decide)) (fun b _ => q b (by omega)) (fun b _ => rfl)
  · exact i9.fr (by rw [q 51 (by decide)]) (h66 24 (by decide)) (q _ (by decide)) (q _ (by decide))
  · exact i10.fr (fun b _ _ => q b (by omega)) (q _ (by decide)) (q _ (by decide)) (fun _ _ => rfl)
  · exact i11.fr (fun b _ => q b (by omega))
theorem c_pass_l {E : zEn} {vs : List (Nat × Nat)} {mi : Nat → Nat → Int32} {ml : Nat → Nat → Int64} {g : Nat → Nat → Option Nat} {g0 : Nat → Nat → Option Nat} {X : Nat → Nat → Int32} {nv : Nat} {wg : Nat → (Nat → Int32) → Int32} {sm : Int32 → (Nat → Int32) → Int32} {an : Int32 → Int32} (C : CE E vs g0 X nv wg sm an g mi) {N : Nat → Int32} {n dd : Nat} {t : Nat} (hdd : dd + t ≤ 9999) {P : Option Value → zW → Prop} (hn9 : t < 2147483648) (K : ∀ (m : Nat → Nat → Int32) , (frB 1 mi m ∧ BR m 1 (g 1 3) nv (daysN sm an N n dd t) n (dd + t)) → Wp E 5 pg_H_pass 53 [(0, .ref 0), (1, .int (nI t)), (2, .int (nI t))] [] (zsh ++ vs, m, ml, (zmr g)) P) : ∀ (k j : Nat) (m : Nat → Nat → Int32) , j + k = t → (frB 1 mi m ∧ BR m 1 (g 1 3) nv (daysN sm an N n dd j) n (dd + j)) → Wp E 5 pg_H_pass 32 [(0, .ref 0), (1, .int (nI t)), (2, .int (nI j))] [] (zsh ++ vs, m, ml, (zmr g)) P := by
  intro k
  induction k with
  | zero =>
    intro j m  hj9 hI
    obtain rfl : t = j := by omega
    refine Wp.run 2 (34, [(0, .ref 0), (1, .int (nI t)), (2, .int (nI t))], [.int (nI t), .int (nI t)], (zsh ++ vs, m, ml, (zmr g))) rfl ?_
    refine Wp.icmp_ge rfl (fun h1 => ?_) (fun h1 => ?_)
    · exact K m  hI
    · exact absurd (Int32.le_refl _) h1
  | succ k ih =>
    intro j m  hj9 hI
    have hlt9 : j < t := by omega
    refine Wp.run 2 (34, [(0, .ref 0), (1, .int (nI t)), (2, .int (nI j))], [.int (nI t), .int (nI j)], (zsh ++ vs, m, ml, (zmr g))) rfl ?_
    refine Wp.icmp_ge rfl (fun h1 => ?_) (fun h1 => ?_)
    · exact absurd h1 (nI_ge hlt9 hn9)
    · refine Wp.run 3 (44, [(0, .ref 0), (1, .int (nI t)), (2, .int (nI j))], [.int 9999, .ref 1], (zsh ++ vs, m, ml, (zmr g))) rfl ?_
      refine Wp.call (as := [.ref 1, .int 9999]) (rest := []) rfl rfl rfl rfl rfl (Nat.le_of_ble_eq_true rfl) (Nat.le_of_ble_eq_true rfl) rfl (by decide) (c_day_1 (mi := m) (M := 9999) C.1 C.2.1 C.2.2.1 (fun b hb => by rw [hI.1 b (by omega)]; exact C.2.2.2.1 b hb) hI.2 (by omega) (by omega) (by decide)) ?_
      rintro _ _ ⟨rfl, m', rfl, k1, k2⟩
      refine Wp.run 2 (32, [(2, .int ((nI j) + 1)), (0, .ref 0), (1, .int (nI t))], [], (zsh ++ vs, m', ml, (zmr g))) rfl ?_
      rw [nI_1]
      refine Wp.sub (a := [(0, .ref 0), (1, .int (nI t)), (2, .int (nI (j + 1)))]) (zle_cons rfl (zle_cons rfl (zle_cons rfl (zle_nil)))) ?_
      exact ih (j + 1) _ (by omega) ⟨hI.1.tr k1, k2⟩
theorem c_pass {E : zEn} {vs : List (Nat × Nat)} {mi : Nat → Nat → Int32} {ml : Nat → Nat → Int64} {g : Nat → Nat → Option Nat} {g0 : Nat → Nat → Option Nat} {X : Nat → Nat → Int32} {nv : Nat} {wg : Nat → (Nat → Int32) → Int32} {sm : Int32 → (Nat → Int32) → Int32} {an : Int32 → Int32} (C : CE E vs g0 X nv wg sm an g mi) {N : Nat → Int32} {n dd : Nat} (B : BR mi 1 (g 1 3) nv N n dd) {t : Nat} (ht : t ≤ 60) (hdd : dd + t ≤ 9999) : Wp E 5 pg_H_pass 0 (lv_args 0 [.ref 0, .int (nI t)]) [] (zsh ++ vs, mi, ml, (zmr g)) (fun r w' => r = some (.int (nI (dd + t))) ∧ ∃ m, w' = (zsh ++ vs, m, ml, zmr g) ∧ frB 1 mi m ∧ BR m 1 (g 1 3) nv (daysN sm an N n dd t) n (dd + t)) := by
  have K : ∀ (m : Nat → Nat → Int32), (frB 1 mi m ∧ BR m 1 (g 1 3) nv (daysN sm an N n dd t) n (dd + t)) → Wp E 5 pg_H_pass 53 [(0, .ref 0), (1, .int (nI t)), (2, .int (nI t))] [] (zsh ++ vs, m, ml, zmr g) (fun r w' => r = some (.int (nI (dd + t))) ∧ ∃ m, w' = (zsh ++ vs, m, ml, zmr g) ∧ frB 1 mi m ∧ BR m 1 (g 1 3) nv (daysN sm an N n dd t) n (dd + t)) := by
    intro m hI
    refine Wp.run 3 (60, [(0, .ref 0), (1, .int (nI t)), (2, .int (nI t))], [.int (m 1 1)], (zsh ++ vs, m, ml, (zmr g))) rfl ?_
    refine Wp.ret rfl rfl rfl ?_
    exact ⟨congrArg (fun z => some (Value.int z)) hI.2.2.2.1, m, rfl, hI.1, hI.2⟩
  refine Wp.run 2 (3, [(0, .ref 0), (1, .int (nI t))], [.int 60, .int (nI t)], (zsh ++ vs, mi, ml, (zmr g))) rfl ?_
  refine Wp.call (as := [.int (nI t), .int 60]) (rest := []) rfl rfl rfl rfl rfl (Nat.le_of_ble_eq_true rfl) (Nat.le_of_ble_eq_true rfl) rfl (by decide) (c_within_t (rngI ht (by decide))) ?_
  rintro _ _ ⟨rfl, rfl⟩
  refine Wp.run 4 (19, [(0, .ref 0), (1, .int (nI t))], [.int (mi 1 1)], (zsh ++ vs, mi, ml, (zmr g))) rfl ?_
  refine Wp.topi (y := nI dd) (B.2.2.1) ?_
  refine Wp.run 2 (21, [(0, .ref 0), (1, .int (nI t))], [.int ((nI dd) + (nI t))], (zsh ++ vs, mi, ml, (zmr g))) rfl ?_
  refine Wp.topi (y := nI (dd + t)) (nI_add dd t) ?_
  refine Wp.run 1 (24, [(0, .ref 0), (1, .int (nI t))], [.int 9999, .int (nI (dd + t))], (zsh ++ vs, mi, ml, (zmr g))) rfl ?_
  refine Wp.icmp_le rfl (fun h1 => ?_) (fun h1 => ?_)
  · refine Wp.run 2 (32, [(2, .int 0), (0, .ref 0), (1, .int (nI t))], [], (zsh ++ vs, mi, ml, (zmr g))) rfl ?_
    refine Wp.sub (a := [(0, .ref 0), (1, .int (nI t)), (2, .int (nI 0))]) (zle_cons rfl (zle_cons rfl (zle_cons rfl (zle_nil)))) ?_
    exact c_pass_l C hdd (by omega) K t 0 mi (by omega) ⟨fun _ _ => rfl, B⟩
  · exact absurd (nI_le (b := 9999) hdd (by decide)) h1
theorem sim_pass {E : zEn} {nv : Nat} {VD : Nat → zV} {NL : Nat → Nat} {n dd : Nat} {vs : List (Nat × Nat)} {mi : Nat → Nat → Int32} {ml : Nat → Nat → Int64} {g : Nat → Nat → Option Nat} (I : INV nv VD NL n dd vs mi ml g) (x : Int32) : SIM E vs mi ml g pg_H_pass pg_M_pass [.int x] := by
  have B := I.1.1
  have h6 := B.1.2.1
  have hn := B.2.1
  have hN := B.1.1
  have hd := B.1.2.2.1
  have hdd := I.1.2
  by_cases hx : 0 ≤ x ∧ x ≤ 60
  rotate_left
  · refine SIM.q I (x := -2) (dc := 7) (dm := 27) (by decide) (by decide) ?_ ?_
    · refine Wp.run 2 (3, [(0, .ref 0), (1, .int x)], [.int 60, .int x], (zsh ++ vs, mi, ml, (zmr g))) rfl ?_
      refine Wp.call (as := [.int x, .int 60]) (rest := []) rfl rfl rfl rfl rfl (Nat.le_of_ble_eq_true rfl) (Nat.le_of_ble_eq_true rfl) rfl (by decide) (c_within_f hx) ?_
      rintro _ _ ⟨rfl, rfl⟩
      refine Wp.run 2 (11, [(0, .ref 0), (1, .int x)], [.int (-2)], (zsh ++ vs, mi, ml, (zmr g))) rfl ?_
      refine Wp.ret rfl rfl rfl ?_
      exact ⟨rfl, _, _, rfl, SC.rf, fun _ _ _ => rfl⟩
    · intro m g' I' e67 S
      have B' := I'.1.1
      have hn' := B'.2.1
      have hN' := B'.1.1
      have hd' := B'.1.2.2.1
      refine Wp.run 3 (4, [(0, .ref 66), (1, .int x)], [.int 60, .int 0, .int x], (zsh ++ vs, m, ml, (zmr g'))) rfl ?_
      refine Wp.call (as := [.int x, .int 0, .int 60]) (rest := []) rfl rfl rfl rfl rfl (Nat.le_of_ble_eq_true rfl) (Nat.le_of_ble_eq_true rfl) rfl (by decide) (m_isIn_f hx) ?_
      rintro _ _ ⟨rfl, rfl⟩
      refine Wp.run 2 (12, [(0, .ref 66), (1, .int x)], [.int (-2)], (zsh ++ vs, m, ml, (zmr g'))) rfl ?_
      refine Wp.ret rfl rfl rfl ?_
      exact ⟨rfl, _, rfl, SC.rf⟩
  obtain ⟨t, ht, rfl⟩ := rng_of (h := 60) rfl hx
  by_cases h9 : dd + t ≤ 9999
  rotate_left
  · refine SIM.q I (x := -3) (dc := 7) (dm := 27) (by decide) (by decide) ?_ ?_
    · refine Wp.run 2 (3, [(0, .ref 0), (1, .int (nI t))], [.int 60, .int (nI t)], (zsh ++ vs, mi, ml, (zmr g))) rfl ?_
      refine Wp.call (as := [.int (nI t), .int 60]) (rest := []) rfl rfl rfl rfl rfl (Nat.le_of_ble_eq_true rfl) (Nat.le_of_ble_eq_true rfl) rfl (by decide) (c_within_t hx) ?_
      rintro _ _ ⟨rfl, rfl⟩
      refine Wp.run 4 (19, [(0, .ref 0), (1, .int (nI t))], [.int (mi 1 1)], (zsh ++ vs, mi, ml, (zmr g))) rfl ?_
      refine Wp.topi (y := nI dd) (B.2.2.1) ?_
      refine Wp.run 2 (21, [(0, .ref 0), (1, .int (nI t))], [.int ((nI dd) + (nI t))], (zsh ++ vs, mi, ml, (zmr g))) rfl ?_
      refine Wp.topi (y := nI (dd + t)) (nI_add dd t) ?_
      refine Wp.run 1 (24, [(0, .ref 0), (1, .int (nI t))], [.int 9999, .int (nI (dd + t))], (zsh ++ vs, mi, ml, (zmr g))) rfl ?_
      refine Wp.icmp_le rfl (fun h1 => ?_) (fun h1 => ?_)
      · exact absurd ((nI_leI (b := 9999) (by omega) (by decide)).mp h1) h9
      · refine Wp.run 1 (29, [(0, .ref 0), (1, .int (nI t))], [.int (-3)], (zsh ++ vs, mi, ml, (zmr g))) rfl ?_
        refine Wp.ret rfl rfl rfl ?_
        exact ⟨rfl, _, _, rfl, SC.rf, fun _ _ _ => rfl⟩
    · intro m g' I' e67 S
      have B' := I'.1.1
      have hn' := B'.2.1
      have hN' := B'.1.1
      have hd' := B'.1.2.2.1
      refine Wp.run 3 (4, [(0, .ref 66), (1, .int (nI t))], [.int 60, .int 0, .int (nI t)], (zsh ++ vs, m, ml, (zmr g'))) rfl ?_
      refine Wp.call (as := [.int (nI t), .int 0, .int 60]) (rest := []) rfl rfl rfl rfl rfl (Nat.le_of_ble_eq_true rfl) (Nat.le_of_ble_eq_true rfl) rfl (by decide) (m_isIn_t hx) ?_
      rintro _ _ ⟨rfl, rfl⟩
      refine Wp.run 5 (20, [(0, .ref 66), (1, .int (nI t))], [.int (m 67 69)], (zsh ++ vs, m, ml, (zmr g'))) rfl ?_
      refine Wp.topi (y := nI dd) (hd') ?_
      refine Wp.run 2 (22, [(0, .ref 66), (1, .int (nI t))], [.int ((nI dd) + (nI t))], (zsh ++ vs, m, ml, (zmr g'))) rfl ?_
      refine Wp.topi (y := nI (dd + t)) (nI_add dd t) ?_
      refine Wp.run 1 (25, [(0, .ref 66), (1, .int (nI t))], [.int 9999, .int (nI (dd + t))], (zsh ++ vs, m, ml, (zmr g'))) rfl ?_
      refine Wp.icmp_le rfl (fun h51 => ?_) (fun h51 => ?_)
      · exact absurd ((nI_leI (b := 9999) (by omega) (by decide)).mp h51) h9
      · refine Wp.run 1 (30, [(0, .ref 66), (1, .int (nI t))], [.int (-3)], (zsh ++ vs, m, ml, (zmr g'))) rfl ?_
        refine Wp.ret rfl rfl rfl ?_
        exact ⟨rfl, _, rfl, SC.rf⟩
  refine SIM.g (dc := 7) (dm := 27) (fun x vs1 m1 l1 g1 => x = nI (dd + t) ∧ vs = vs1 ∧ ml = l1 ∧ g = g1 ∧ frB 1 mi m1 ∧ BR m1 1 (g 1 3) nv (daysN (smV VD) (anV VD) (mi 67) n dd t) n (dd + t)) (by decide) (by decide) ?_ ?_
  · refine ((c_pass I.ce B ht h9).deep (by decide)).weak ?_
    rintro _ _ ⟨rfl, m, rfl, k1, k2⟩
    exact ⟨_, rfl, vs, m, ml, g, rfl, rfl, rfl, rfl, rfl, k1, k2⟩
  · rintro x vs1 m1 l1 g1 ⟨rfl, rfl, rfl, rfl, q1, q2⟩
    have R1 : RE E (mi 71) (mi 72) (rvV nv) (smV VD) (anV VD) m1 n dd := I.re.fr (fun a ha => q1 a (by omega)) (by rw [q1 67 (by decide)]) (by rw [q1 67 (by decide)]; exact hd) (by rw [q1 67 (by decide)])
    refine Wp.run 3 (4, [(0, .ref 66), (1, .int (nI t))], [.int 60, .int 0, .int (nI t)], (zsh ++ vs, m1, ml, (zmr g))) rfl ?_
    refine Wp.call (as := [.int (nI t), .int 0, .int 60]) (rest := []) rfl rfl rfl rfl rfl (Nat.le_of_ble_eq_true rfl) (Nat.le_of_ble_eq_true rfl) rfl (by decide) (m_isIn_t hx) ?_
    rintro _ _ ⟨rfl, rfl⟩
    refine Wp.run 5 (20, [(0, .ref 66), (1, .int (nI t))], [.int (m1 67 69)], (zsh ++ vs, m1, ml, (zmr g))) rfl ?_
    refine Wp.topi (y := nI dd) ((congrFun (q1 67 (by decide)) 69).trans hd) ?_
    refine Wp.run 2 (22, [(0, .ref 66), (1, .int (nI t))], [.int ((nI dd) + (nI t))], (zsh ++ vs, m1, ml, (zmr g))) rfl ?_
    refine Wp.topi (y := nI (dd + t)) (nI_add dd t) ?_
    refine Wp.run 1 (25, [(0, .ref 66), (1, .int (nI t))], [.int 9999, .int (nI (dd + t))], (zsh ++ vs, m1, ml, (zmr g))) rfl ?_
    refine Wp.icmp_le rfl (fun h51 => ?_) (fun h51 => ?_)
    · refine Wp.run 2 (33, [(0, .ref 66), (1, .int (nI t))], [.int (nI t), .ref 66], (zsh ++ vs, m1, ml, (zmr g))) rfl ?_
      refine Wp.call (as := [.ref 66, .int (nI t)]) (rest := []) rfl rfl rfl rfl rfl (Nat.le_of_ble_eq_true rfl) (Nat.le_of_ble_eq_true rfl) rfl (by decide) (m_daysE (mi := m1) (t := t) R1 (by omega)) ?_
      rintro _ _ ⟨rfl, p2, rfl, d1, d2⟩
      have d3 : p2 67 = daysN (smV VD) (anV VD) (mi 67) n dd t := by rw [d1, q1 67 (by decide)]
      refine Wp.run 4 (43, [(0, .ref 66), (1, .int (nI t))], [.int (p2 67 69)], (zsh ++ vs, p2, ml, (zmr g))) rfl ?_
      refine Wp.ret rfl rfl rfl ?_
      refine ⟨congrArg (fun z => some (Value.int z)) ?_, (I.days (fun b p a1 a2 a3 a4 a5 => ?_) (fun k hk => ?_) (fun i hi => ?_) ?_ h9).x⟩
      · rw [d3]; exact daysN_69 hd t
      · rw [d2.1 b a1 a2 a3 a4 a5]; exact q1 b (by omega)
      · rw [d2.2 k hk, q1 66 (by decide)]
      · rw [d3, daysN_70 h6 (by omega) (by omega)]
      · rw [d3]; exact BR_fr q2 (fun b p q => d2.1 b (by omega) (by omega) (by omega) (by omega) (by omega))
    · exact absurd (nI_le (b := 9999) h9 (by decide)) h51
