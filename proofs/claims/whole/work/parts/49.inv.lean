/-! THE STATE OF BOTH, between two calls -/
def one (n : Nat) (x : Int32) : Prop := ∃ i, i < n ∧ x = nI i
/-- what is seen, the plan, the book: the hand at b shows the row N -/
def SEr (mi : Nat → Nat → Int32) (b : Nat) (N : Nat → Int32) (n : Nat) : Prop :=
  ∃ c, c ≤ 5 ∧ mi b 0 = nI c ∧ N 71 = nI c ∧ ∀ r, r < c → ∃ q t u, q < n ∧ t ≤ 12 ∧ u ≤ 99 ∧ N (72 + 3 * r) = nI q ∧ N (73 + 3 * r) = nI t ∧ N (74 + 3 * r) = nI u ∧ mi (b + 1) r = nI q ∧ mi (b + 2) r = nI t ∧ mi (b + 3) r = nI u
def PLr (mi : Nat → Nat → Int32) (b : Nat) (N : Nat → Int32) (n : Nat) : Prop :=
  ∃ c, c ≤ 10 ∧ mi b 1 = nI c ∧ N 87 = nI c ∧ ∀ r, r < c → ∃ w, w ≤ 3 ∧ N (88 + 2 * r) = nI w ∧ mi (b + 4) r = nI w ∧ (w = 0 ∨ ∃ q, q < n ∧ N (89 + 2 * r) = nI q ∧ mi (b + 5) r = nI q)
def BKr (mi : Nat → Nat → Int32) (b : Nat) (N : Nat → Int32) : Prop :=
  ∃ c, c ≤ 8 ∧ mi b 2 = nI c ∧ N 108 = nI c ∧ ∀ r, r < c → ∃ q, q ≤ 7 ∧ N (109 + 2 * r) = nI q ∧ mi (b + 6) r = nI q ∧ mi (b + 7) r = N (110 + 2 * r)
theorem SEr.fr {mi m : Nat → Nat → Int32} {b n n' : Nat} {N N' : Nat → Int32} (h : SEr mi b N n) (e0 : m b 0 = mi b 0) (e1 : m (b + 1) = mi (b + 1)) (e2 : m (b + 2) = mi (b + 2)) (e3 : m (b + 3) = mi (b + 3)) (hN : ∀ i, 71 ≤ i → i < 87 → N' i = N i) (hn : n ≤ n') : SEr m b N' n' := by
  obtain ⟨c, h1, h2, h3, h4⟩ := h
  refine ⟨c, h1, by rw [e0]; exact h2, by rw [hN 71 (by omega) (by omega)]; exact h3, fun r hr => ?_⟩
  obtain ⟨q, t, u, a1, a2, a3, a4, a5, a6, a7, a8, a9⟩ := h4 r hr
  exact ⟨q, t, u, by omega, a2, a3, by rw [hN _ (by omega) (by omega)]; exact a4, by rw [hN _ (by omega) (by omega)]; exact a5, by rw [hN _ (by omega) (by omega)]; exact a6, by rw [e1]; exact a7, by rw [e2]; exact a8, by rw [e3]; exact a9⟩
theorem PLr.fr {mi m : Nat → Nat → Int32} {b n n' : Nat} {N N' : Nat → Int32} (h : PLr mi b N n) (e0 : m b 1 = mi b 1) (e1 : m (b + 4) = mi (b + 4)) (e2 : m (b + 5) = mi (b + 5)) (hN : ∀ i, 87 ≤ i → i < 108 → N' i = N i) (hn : n ≤ n') : PLr m b N' n' := by
  obtain ⟨c, h1, h2, h3, h4⟩ := h
  refine ⟨c, h1, by rw [e0]; exact h2, by rw [hN 87 (by omega) (by omega)]; exact h3, fun r hr => ?_⟩
  obtain ⟨w, a1, a2, a3, a4⟩ := h4 r hr
  refine ⟨w, a1, by rw [hN _ (by omega) (by omega)]; exact a2, by rw [e1]; exact a3, ?_⟩
  rcases a4 with a4 | ⟨q, b1, b2, b3⟩
  · exact Or.inl a4
  · exact Or.inr ⟨q, by omega, by rw [hN _ (by omega) (by omega)]; exact b2, by rw [e2]; exact b3⟩
theorem BKr.fr {mi m : Nat → Nat → Int32} {b : Nat} {N N' : Nat → Int32} (h : BKr mi b N) (e0 : m b 2 = mi b 2) (e1 : m (b + 6) = mi (b + 6)) (e2 : m (b + 7) = mi (b + 7)) (hN : ∀ i, 108 ≤ i → i < 125 → N' i = N i) : BKr m b N' := by
  obtain ⟨c, h1, h2, h3, h4⟩ := h
  refine ⟨c, h1, by rw [e0]; exact h2, by rw [hN 108 (by omega) (by omega)]; exact h3, fun r hr => ?_⟩
  obtain ⟨q, a1, a2, a3, a4⟩ := h4 r hr
  exact ⟨q, a1, by rw [hN _ (by omega) (by omega)]; exact a2, by rw [e1]; exact a3, by rw [e2, hN _ (by omega) (by omega)]; exact a4⟩
theorem hRel.mono {nv nv' : Nat} {h : Option Nat} {ρ : Int32} (H : hRel nv h ρ) (hn : nv ≤ nv') : hRel nv' h ρ := by
  rcases H with H | ⟨k, h1, h2⟩
  · exact Or.inl H
  · exact Or.inr ⟨k, by omega, h2⟩
theorem BR.nv {mi : Nat → Nat → Int32} {a nv nv' : Nat} {h : Option Nat} {N : Nat → Int32} {n dd : Nat} (B : BR mi a h nv N n dd) (hn : nv ≤ nv') : BR mi a h nv' N n dd := by
  obtain ⟨b1, b2, b3, b4, b5, b6, b7⟩ := B
  exact ⟨b1, b2, b3, b4, b5, b6, b7.mono hn⟩
theorem rOK.row {N N' : Nat → Int32} {n dd : Nat} (h : rOK N n dd) (e : ∀ i, i < 70 → N' i = N i) : rOK N' n dd := by
  obtain ⟨h1, h2, h3, h4, h5⟩ := h
  have ee : ∀ k, k < n → ∀ f, f < 10 → uN N' k f = uN N k f := fun k hk f hf => e _ (by omega)
  refine ⟨by rw [e 68 (by omega)]; exact h1, h2, by rw [e 69 (by omega)]; exact h3, fun p hp => by rw [e p (by omega)]; exact h4 p hp, fun k hk => ?_⟩
  obtain ⟨a0, a1, a2, a3, a4, a5, a6⟩ := h5 k hk
  exact ⟨by rw [ee k hk 0 (by decide)]; exact a0, by rw [ee k hk 1 (by decide)]; exact a1, by rw [ee k hk 2 (by decide)]; exact a2, by rw [ee k hk 3 (by decide)]; exact a3, by rw [ee k hk 4 (by decide)]; exact a4, by rw [ee k hk 5 (by decide)]; exact a5, fun d hd => by rw [ee k hk (6 + d) (by omega)]; exact a6 d hd⟩
theorem BR.row {mi : Nat → Nat → Int32} {a nv : Nat} {h : Option Nat} {N N' : Nat → Int32} {n dd : Nat} (B : BR mi a h nv N n dd) (e : ∀ i, i < 71 → N' i = N i) : BR mi a h nv N' n dd := by
  obtain ⟨b1, b2, b3, b4, b5, b6, b7⟩ := B
  have h6 := b1.2.1
  exact ⟨b1.row (fun i hi => e i (by omega)), b2, b3, fun p hp => by rw [e p (by omega)]; exact b4 p hp, fun k hk f hf => by rw [show uN N' k f = uN N k f from e _ (by omega)]; exact b5 k hk f hf, b6, by rw [e 70 (by omega)]; exact b7⟩
def IMr (nv : Nat) (mi : Nat → Nat → Int32) (g : Nat → Nat → Option Nat) : Prop :=
  (mi 0 4 = 0 ∧ mi 66 3 = 0) ∨ (mi 0 4 = 1 ∧ mi 66 3 = 1 ∧ ∃ n2 dd2, BR mi 11 (g 11 3) nv (mi 69) n2 dd2 ∧ dd2 ≤ 9999 ∧ SEr mi 29 (mi 69) n2 ∧ PLr mi 29 (mi 69) n2 ∧ BKr mi 29 (mi 69))
def TXr (mi : Nat → Nat → Int32) : Prop := ∃ L, L ≤ 100 ∧ mi 48 0 = nI L ∧ mi 66 5 = nI L ∧ ∀ j, j < L → mi 49 j = mi 70 j ∧ ∃ c, c ≤ 127 ∧ mi 70 j = nI c
def VLr (nv : Nat) (VD : Nat → zV) (NL : Nat → Nat) (vs : List (Nat × Nat)) (mi : Nat → Nat → Int32) (g : Nat → Nat → Option Nat) : Prop :=
  nv ≤ 6 ∧ mi 0 7 = nI nv ∧ mi 66 8 = nI nv ∧ VT (mi 71) (mi 72) nv VD NL ∧ vs.length = 2 * nv ∧ ∀ k, k < nv → vs[2 * k]? = some (16, 2) ∧ vs[2 * k + 1]? = some (0, (VD k).1.length) ∧ g (86 + 2 * k) 0 = some (86 + 2 * k + 1) ∧ mi (86 + 2 * k) 1 = nI (VD k).2.2 ∧ ∀ j, j < (VD k).1.length → mi (86 + 2 * k + 1) j = (VD k).1.getD j 0
def PFr (mi : Nat → Nat → Int32) : Prop := ∃ R, R < 1000 ∧ mi 51 1 = nI R ∧ mi 66 24 = nI R ∧ ∀ k, k < R → k < 20 → mi 52 k = mi 81 k
def TPr (mi : Nat → Nat → Int32) (ml : Nat → Nat → Int64) : Prop := ∀ t, t < 6 → ∃ l, l ≤ 60 ∧ mi (54 + 2 * t) 1 = nI l ∧ mi 83 t = nI l ∧ mi (54 + 2 * t) 0 = mi 82 t ∧ ((mi 82 t = -1 ∧ l = 0) ∨ ∃ s, s ≤ 4 ∧ mi 82 t = nI s) ∧ ∀ j, j < 60 → ml (55 + 2 * t) j = ml 84 (60 * t + j)
def zab9 : List Int32 := [-1, 0, 0, 0, 1, 2, 3]
def KOr (mi : Nat → Nat → Int32) : Prop := kC mi ∧ (∀ k, k < 7 → mi 79 k = zab9.getD k 0) ∧ ∀ k, k < 21 → mi 80 k = zbo.getD k 0
def INV (nv : Nat) (VD : Nat → zV) (NL : Nat → Nat) (n dd : Nat) (vs : List (Nat × Nat)) (mi : Nat → Nat → Int32) (ml : Nat → Nat → Int64) (g : Nat → Nat → Option Nat) : Prop :=
  (BR mi 1 (g 1 3) nv (mi 67) n dd ∧ dd ≤ 9999) ∧ (SEr mi 21 (mi 67) n ∧ PLr mi 21 (mi 67) n ∧ BKr mi 21 (mi 67)) ∧ IMr nv mi g ∧ TXr mi ∧ VLr nv VD NL vs mi g ∧ PFr mi ∧ TPr mi ml ∧ KOr mi
def INVx (w : zW) : Prop := ∃ nv VD NL n dd vs mi ml g, w = (zsh ++ vs, mi, ml, zmr g) ∧ INV nv VD NL n dd vs mi ml g
/-- only what is written anew before it is read -/
def SC (mi m : Nat → Nat → Int32) : Prop := (∀ b, ¬ b = 9 → ¬ b = 10 → (b < 38 ∨ 48 < b) → ¬ b = 50 → ¬ b = 51 → ¬ b = 66 → ¬ b = 68 → ¬ b = 73 → ¬ b = 74 → ¬ b = 78 → m b = mi b) ∧ m 48 0 = mi 48 0 ∧ m 51 1 = mi 51 1 ∧ ∀ k, (k < 10 ∨ 15 < k) → m 66 k = mi 66 k
theorem SC.rf {mi : Nat → Nat → Int32} : SC mi mi := ⟨fun _ _ _ _ _ _ _ _ _ _ _ => rfl, rfl, rfl, fun _ _ => rfl⟩
theorem SC.tr {a b c : Nat → Nat → Int32} (h1 : SC a b) (h2 : SC b c) : SC a c := ⟨fun x p1 p2 p3 p4 p5 p6 p7 p8 p9 p0 => (h2.1 x p1 p2 p3 p4 p5 p6 p7 p8 p9 p0).trans (h1.1 x p1 p2 p3 p4 p5 p6 p7 p8 p9 p0), h2.2.1.trans h1.2.1, h2.2.2.1.trans h1.2.2.1, fun k hk => (h2.2.2.2 k hk).trans (h1.2.2.2 k hk)⟩
theorem SC.frB {mi m : Nat → Nat → Int32} (h : frB 38 mi m) : SC mi m := ⟨fun b _ _ h3 _ _ _ _ _ _ _ => h b (by omega), by rw [h 48 (by omega)], by rw [h 51 (by omega)], fun k _ => by rw [h 66 (by omega)]⟩
theorem SC.kep {mi m : Nat → Nat → Int32} (h : zKep3 mi m) (e : m 67 = mi 67) : SC mi m := ⟨fun b _ _ _ _ _ p66 _ p73 p74 p78 => by
    by_cases hb : b = 67
    · subst hb; exact e
    · exact h.1 b p66 hb p73 p74 p78, by rw [h.1 48 (by decide) (by decide) (by decide) (by decide) (by decide)], by rw [h.1 51 (by decide) (by decide) (by decide) (by decide) (by decide)], h.2⟩
theorem SC.c {mi m : Nat → Nat → Int32} (h : SC mi m) {b : Nat} (hb : (¬ b = 9 ∧ ¬ b = 10 ∧ (b < 38 ∨ 48 < b) ∧ ¬ b = 50 ∧ ¬ b = 51 ∧ ¬ b = 66 ∧ ¬ b = 68 ∧ ¬ b = 73 ∧ ¬ b = 74 ∧ ¬ b = 78)) : m b = mi b := h.1 b hb.1 hb.2.1 hb.2.2.1 hb.2.2.2.1 hb.2.2.2.2.1 hb.2.2.2.2.2.1 hb.2.2.2.2.2.2.1 hb.2.2.2.2.2.2.2.1 hb.2.2.2.2.2.2.2.2.1 hb.2.2.2.2.2.2.2.2.2
theorem IMr.fr {nv : Nat} {mi m : Nat → Nat → Int32} {g g' : Nat → Nat → Option Nat} (h : IMr nv mi g) (e0 : m 0 4 = mi 0 4) (e66 : m 66 3 = mi 66 3) (e : ∀ b, (11 ≤ b ∧ b ≤ 18) ∨ (29 ≤ b ∧ b ≤ 36) ∨ b = 69 → m b = mi b) (eg : g' 11 3 = g 11 3) : IMr nv m g' := by
  rcases h with ⟨h1, h2⟩ | ⟨h1, h2, n2, dd2, h3, h4, h5, h6, h7⟩
  · exact Or.inl ⟨by rw [e0]; exact h1, by rw [e66]; exact h2⟩
  · refine Or.inr ⟨by rw [e0]; exact h1, by rw [e66]; exact h2, n2, dd2, ?_, h4, ?_, ?_, ?_⟩
    · rw [eg, e 69 (by omega)]; exact BR_fr h3 (fun b p q => e b (by omega))
    · rw [e 69 (by omega)]; exact h5.fr (by rw [e 29 (by omega)]) (e _ (by omega)) (e _ (by omega)) (e _ (by omega)) (fun _ _ _ => rfl) (Nat.le_refl _)
    · rw [e 69 (by omega)]; exact h6.fr (by rw [e 29 (by omega)]) (e _ (by omega)) (e _ (by omega)) (fun _ _ _ => rfl) (Nat.le_refl _)
    · rw [e 69 (by omega)]; exact h7.fr (by rw [e 29 (by omega)]) (e _ (by omega)) (e _ (by omega)) (fun _ _ _ => rfl)
theorem TXr.fr {mi m : Nat → Nat → Int32} (h : TXr mi) (e0 : m 48 0 = mi 48 0) (e1 : m 66 5 = mi 66 5) (e2 : m 49 = mi 49) (e3 : m 70 = mi 70) : TXr m := by
  obtain ⟨L, h1, h2, h3, h4⟩ := h
  exact ⟨L, h1, by rw [e0]; exact h2, by rw [e1]; exact h3, fun j hj => by rw [e2, e3]; exact h4 j hj⟩
theorem VLr.fr {nv : Nat} {VD : Nat → zV} {NL : Nat → Nat} {vs : List (Nat × Nat)} {mi m : Nat → Nat → Int32} {g g' : Nat → Nat → Option Nat} (h : VLr nv VD NL vs mi g) (e0 : m 0 7 = mi 0 7) (e1 : m 66 8 = mi 66 8) (e2 : m 71 = mi 71) (e3 : m 72 = mi 72) (e4 : ∀ b, 86 ≤ b → m b = mi b) (eg : ∀ b, 86 ≤ b → g' b = g b) : VLr nv VD NL vs m g' := by
  obtain ⟨h1, h2, h3, h4, h5, h6⟩ := h
  refine ⟨h1, by rw [e0]; exact h2, by rw [e1]; exact h3, by rw [e2, e3]; exact h4, h5, fun k hk => ?_⟩
  rw [eg _ (by omega), e4 (86 + 2 * k) (by omega), e4 (86 + 2 * k + 1) (by omega)]
  exact h6 k hk
theorem PFr.fr {mi m : Nat → Nat → Int32} (h : PFr mi) (e0 : m 51 1 = mi 51 1) (e1 : m 66 24 = mi 66 24) (e2 : m 52 = mi 52) (e3 : m 81 = mi 81) : PFr m := by
  obtain ⟨R, h1, h2, h3, h4⟩ := h
  exact ⟨R, h1, by rw [e0]; exact h2, by rw [e1]; exact h3, fun k p q => by rw [e2, e3]; exact h4 k p q⟩
theorem TPr.fr {mi m : Nat → Nat → Int32} {ml ml' : Nat → Nat → Int64} (h : TPr mi ml) (e0 : ∀ b, 54 ≤ b → b < 66 → m b = mi b) (e1 : m 82 = mi 82) (e2 : m 83 = mi 83) (el : ∀ b, ¬ b = 85 → ml' b = ml b) : TPr m ml' := by
  intro t ht
  obtain ⟨l, h1, h2, h3, h4, h5, h6⟩ := h t ht
  exact ⟨l, h1, by rw [e0 _ (by omega) (by omega)]; exact h2, by rw [e2]; exact h3, by rw [e0 _ (by omega) (by omega), e1]; exact h4, by rw [e1]; exact h5, fun j hj => by rw [el _ (by omega), el 84 (by decide)]; exact h6 j hj⟩
theorem KOr.fr {mi m : Nat → Nat → Int32} (h : KOr mi) (e : ∀ b, (75 ≤ b ∧ b ≤ 77) ∨ b = 79 ∨ b = 80 → m b = mi b) : KOr m := by
  obtain ⟨h1, h2, h3⟩ := h
  exact ⟨h1.fr (fun a ha => e a (by omega)), fun k hk => by rw [e 79 (by omega)]; exact h2 k hk, fun k hk => by rw [e 80 (by omega)]; exact h3 k hk⟩
section INVS
variable {nv : Nat} {VD : Nat → zV} {NL : Nat → Nat} {n dd : Nat} {vs : List (Nat × Nat)} {mi : Nat → Nat → Int32} {ml : Nat → Nat → Int64} {g : Nat → Nat → Option Nat}
theorem INV.sc {m : Nat → Nat → Int32} {ml' : Nat → Nat → Int64} {g' : Nat → Nat → Option Nat} (I : INV nv VD NL n dd vs mi ml g) (S : SC mi m) (hg : ∀ a f, ¬ (a = 38 ∧ f = 3) → g' a f = g a f) (hl : ∀ a, ¬ a = 85 → ml' a = ml a) : INV nv VD NL n dd vs m ml' g' := by
  obtain ⟨⟨i1, i2⟩, ⟨i3, i4, i5⟩, i6, i7, i8, i9, i10, i11⟩ := I
  have e67 : m 67 = mi 67 := S.c (by decide)
  refine ⟨⟨?_, i2⟩, ⟨?_, ?_, ?_⟩, ?_, ?_, ?_, ?_, ?_, ?_⟩
  · rw [hg 1 3 (by decide), e67]; exact BR_fr i1 (fun b p q => S.c (by omega))
  · rw [e67]; exact i3.fr (by rw [S.c (b := 21) (by decide)]) (S.c (by decide)) (S.c (by decide)) (S.c (by decide)) (fun _ _ _ => rfl) (Nat.le_refl _)
  · rw [e67]; exact i4.fr (by rw [S.c (b := 21) (by decide)]) (S.c (by decide)) (S.c (by decide)) (fun _ _ _ => rfl) (Nat.le_refl _)
  · rw [e67]; exact i5.fr (by rw [S.c (b := 21) (by decide)]) (S.c (by decide)) (S.c (by decide)) (fun _ _ _ => rfl)
  · exact i6.fr (by rw [S.c (b := 0) (by decide)]) (S.2.2.2 3 (by decide)) (fun b hb => S.c (by omega)) (hg 11 3 (by decide))
  · exact i7.fr S.2.1 (S.2.2.2 5 (by decide)) (S.c (by decide)) (S.c (by decide))
  · exact i8.fr (by rw [S.c (b := 0) (by decide)]) (S.2.2.2 8 (by decide)) (S.c (by decide)) (S.c (by decide)) (fun b hb => S.c (by omega)) (fun b hb => funext (fun f => hg b f (by omega)))
  · exact i9.fr S.2.2.1 (S.2.2.2 24 (by decide)) (S.c (by decide)) (S.c (by decide))
  · exact i10.fr (fun b p q => S.c (by omega)) (S.c (by decide)) (S.c (by decide)) hl
  · exact i11.fr (fun b hb => S.c (by omega))
theorem zV0_ok : zVok ([], fun _ => 0, 50) 0 := ⟨fun nm s => by show (s, 0) = (s + 0, 0); rw [Int32.add_zero], fun x hx => (by cases hx), (by decide), Nat.le_refl _, Nat.le_refl _⟩
theorem INV.vd (I : INV nv VD NL n dd vs mi ml g) {k : Nat} (hk : k < nv) : zVok (VD k) (NL k) ∧ (VD k).1.length < NL k ∧ NL k ≤ 100 := by
  obtain ⟨h1, h2, h3⟩ := I.2.2.2.2.1.2.2.2.1 k hk
  have := zcsa_ok 10 _ 0 _ _ (Nat.zero_le _) zV0_ok h3
  exact ⟨this.1, this.2.1, h1⟩
abbrev wgV (VD : Nat → zV) (v : Nat) (nm : Nat → Int32) : Int32 := (VD ((v - 86) / 2)).2.1 nm
theorem INV.cw {E : zEn} (I : INV nv VD NL n dd vs mi ml g) : CWs E vs g mi (vvN nv) (wgV VD) := by
  intro mi' ml' g' v l nm hv hg hl hX hnm
  obtain ⟨k, hk, rfl⟩ := hv
  obtain ⟨v1, v2, v3⟩ := I.vd hk
  obtain ⟨h1, h2, h3, h4, h5, h6⟩ := I.2.2.2.2.1
  obtain ⟨a1, a2, a3, a4, a5⟩ := h6 k hk
  have e0 : (86 + 2 * k - 86) / 2 = k := by omega
  have ok : vOK vs g' (86 + 2 * k) := ⟨by omega, by rw [zsh_hi]; exact a1⟩
  refine ⟨ok, ?_⟩
  have es : (zsh ++ vs)[86 + 2 * k + 1]? = some (0, (VD k).1.length) := by rw [show 86 + 2 * k + 1 = 86 + (2 * k + 1) by omega, zsh_hi]; exact a2
  have ep : ∀ j, j < (VD k).1.length → mi' (86 + 2 * k + 1) j = (VD k).1.getD j 0 := fun j hj => by rw [hX _ (by omega)]; exact a5 j hj
  have eg : g' (86 + 2 * k) 0 = some (86 + 2 * k + 1) := by rw [hg _ (by omega)]; exact a3
  have ew : (wrn nm (VD k).1 (0, 0)).1 = wgV VD (86 + 2 * k) nm := by
    rw [v1.1 nm 0]
    show 0 + (VD k).2.1 nm = (VD ((86 + 2 * k - 86) / 2)).2.1 nm
    rw [e0, Int32.zero_add]
  have hct : zct2 (VD k).1 ≤ 40 := by have := v1.2.2.2.2; omega
  rw [← ew]
  rcases hl with rfl | rfl
  · exact c_weigh_10 (u := 86 + 2 * k + 1) (prog := (VD k).1) (by show _ < 500; omega) es (by omega) ep hnm ok eg (by omega) hct v1.2.1
  · exact c_weigh_47 (u := 86 + 2 * k + 1) (prog := (VD k).1) (by show _ < 500; omega) es (by omega) ep hnm ok eg (by omega) hct v1.2.1
theorem INV.sem (I : INV nv VD NL n dd vs mi ml g) : vSem nv mi (wgV VD) (smV VD) (anV VD) := by
  intro h ρ H
  rcases H with ⟨rfl, rfl⟩ | ⟨k, hk, rfl, rfl⟩
  · exact ⟨fun nm => by rw [smV, if_pos rfl]; rfl, by rw [anV, if_pos rfl]; rfl, 50, by decide, by rw [anV, if_pos rfl]; rfl⟩
  · have h6 := I.2.2.2.2.1.1
    refine ⟨fun nm => ?_, ?_, (VD k).2.2, (I.vd hk).1.2.2.1, anV_k (by omega)⟩
    · rw [smV_k (by omega)]
      show 2 * nm 3 + (VD ((86 + 2 * k - 86) / 2)).2.1 nm = _
      rw [show (86 + 2 * k - 86) / 2 = k by omega]
    · rw [anV_k (by omega)]
      exact (I.2.2.2.2.1.2.2.2.2.2 k hk).2.2.2.1
theorem INV.rf {E : zEn} (I : INV nv VD NL n dd vs mi ml g) : RFs E (mi 71) (mi 72) (rvV nv) (smV VD) (anV VD) := m_readFor I.2.2.2.2.1.1 I.2.2.2.2.1.2.2.2.1
theorem INV.kh (I : INV nv VD NL n dd vs mi ml g) : kH mi (mi 72) := ⟨rfl, I.2.2.2.2.2.2.2.1⟩
theorem INV.rv (I : INV nv VD NL n dd vs mi ml g) : rvV nv (mi 67 70) := by
  rcases I.1.1.2.2.2.2.2.2 with ⟨-, h⟩ | ⟨k, h1, -, h2⟩
  · exact Or.inl h
  · exact Or.inr ⟨k, h1, h2⟩
end INVS
/-! CALLS WHOSE OUTCOME IS KNOWN -/
section KN
variable {E : zEn} {w : zW} {x hi lo : Int32} {vs : List (Nat × Nat)} {mi : Nat → Nat → Int32} {ml : Nat → Nat → Int64} {g : Nat → Nat → Option Nat} {n i : Nat}
theorem rng_of {M : Int32} {h : Nat} (hM : M.toInt = h) (hx : 0 ≤ x ∧ x ≤ M) : ∃ q, q ≤ h ∧ x = nI q := nI_of2 hM (Int32.not_lt.mpr hx.1) hx.2
theorem rngI {q h : Nat} (hq : q ≤ h) (hh : h < 2147483648) : 0 ≤ nI q ∧ nI q ≤ nI h := ⟨nI_pos' (by omega), nI_le hq (by omega)⟩
theorem c_within_t (h : 0 ≤ x ∧ x ≤ hi) : Wp E 0 pg_H_within 0 (lv_args 0 [.int x, .int hi]) [] w (fun r w' => r = some (.int 1) ∧ w' = w) := by
  have := c_within (E := E) (w := w) x hi
  rw [if_pos h] at this
  exact this
theorem c_within_f (h : ¬ (0 ≤ x ∧ x ≤ hi)) : Wp E 0 pg_H_within 0 (lv_args 0 [.int x, .int hi]) [] w (fun r w' => r = some (.int 0) ∧ w' = w) := by
  have := c_within (E := E) (w := w) x hi
  rw [if_neg h] at this
  exact this
theorem m_isIn_t (h : lo ≤ x ∧ x ≤ hi) : Wp E 0 pg_M_isIn 0 (lv_args 0 [.int x, .int lo, .int hi]) [] w (fun r w' => r = some (.int 1) ∧ w' = w) := by
  have := m_isIn (E := E) (w := w) x lo hi
  rw [if_pos h] at this
  exact this
theorem m_isIn_f (h : ¬ (lo ≤ x ∧ x ≤ hi)) : Wp E 0 pg_M_isIn 0 (lv_args 0 [.int x, .int lo, .int hi]) [] w (fun r w' => r = some (.int 0) ∧ w' = w) := by
  have := m_isIn (E := E) (w := w) x lo hi
  rw [if_neg h] at this
  exact this
theorem m_isPart_t (h : 0 ≤ x ∧ x ≤ 7) : Wp E 1 pg_M_isPart 0 (lv_args 0 [.int x]) [] (zsh ++ vs, mi, ml, zmr g) (fun r w' => r = some (.int 1) ∧ w' = (zsh ++ vs, mi, ml, zmr g)) := by
  have := m_isPart (E := E) (vs := vs) (mi := mi) (ml := ml) (g := g) x
  rw [if_pos h] at this
  exact this
theorem m_isPart_f (h : ¬ (0 ≤ x ∧ x ≤ 7)) : Wp E 1 pg_M_isPart 0 (lv_args 0 [.int x]) [] (zsh ++ vs, mi, ml, zmr g) (fun r w' => r = some (.int 0) ∧ w' = (zsh ++ vs, mi, ml, zmr g)) := by
  have := m_isPart (E := E) (vs := vs) (mi := mi) (ml := ml) (g := g) x
  rw [if_neg h] at this
  exact this
theorem m_isTape_t (h : 0 ≤ x ∧ x ≤ 5) : Wp E 1 pg_M_isTape 0 (lv_args 0 [.int x]) [] (zsh ++ vs, mi, ml, zmr g) (fun r w' => r = some (.int 1) ∧ w' = (zsh ++ vs, mi, ml, zmr g)) := by
  have := m_isTape (E := E) (vs := vs) (mi := mi) (ml := ml) (g := g) x
  rw [if_pos h] at this
  exact this
theorem m_isTape_f (h : ¬ (0 ≤ x ∧ x ≤ 5)) : Wp E 1 pg_M_isTape 0 (lv_args 0 [.int x]) [] (zsh ++ vs, mi, ml, zmr g) (fun r w' => r = some (.int 0) ∧ w' = (zsh ++ vs, mi, ml, zmr g)) := by
  have := m_isTape (E := E) (vs := vs) (mi := mi) (ml := ml) (g := g) x
  rw [if_neg h] at this
  exact this
theorem one_lt (h6 : n ≤ 6) : (0 ≤ x ∧ x < nI n) ↔ one n x := by
  constructor
  · rintro ⟨h1, h2⟩
    obtain ⟨j, hj, rfl⟩ := nI_of (Int32.not_lt.mpr h1)
    exact ⟨j, (nI_ltI hj (by omega)).mp h2, rfl⟩
  · rintro ⟨j, hj, rfl⟩
    exact ⟨nI_pos' (by omega), nI_lt hj (by omega)⟩
theorem one_le (h6 : n ≤ 6) : (0 ≤ x ∧ x ≤ nI n - 1) ↔ one n x := by
  constructor
  · rintro ⟨h1, h2⟩
    obtain ⟨j, hj, rfl⟩ := nI_of (Int32.not_lt.mpr h1)
    cases n with
    | zero => exact absurd (Int32.le_trans h1 h2) (by decide)
    | succ n =>
      rw [nI_pred] at h2
      exact ⟨j, Nat.lt_succ_of_le ((nI_leI hj (by omega)).mp h2), rfl⟩
  · rintro ⟨j, hj, rfl⟩
    cases n with
    | zero => omega
    | succ n =>
      rw [nI_pred]
      exact ⟨nI_pos' (by omega), nI_le (by omega) (by omega)⟩
theorem c_has_t (hn : mi 1 0 = nI n) (h6 : n ≤ 6) (h : one n x) : Wp E 0 pg_Band_has 0 (lv_args 0 [.ref 1, .int x]) [] (zsh ++ vs, mi, ml, zmr g) (fun r w' => r = some (.int 1) ∧ w' = (zsh ++ vs, mi, ml, zmr g)) := by
  have := c_has_1 (E := E) (vs := vs) (mi := mi) (ml := ml) (g := g) x
  rw [hn, if_pos ((one_lt h6).mpr h)] at this
  exact this
theorem c_has_f (hn : mi 1 0 = nI n) (h6 : n ≤ 6) (h : ¬ one n x) : Wp E 0 pg_Band_has 0 (lv_args 0 [.ref 1, .int x]) [] (zsh ++ vs, mi, ml, zmr g) (fun r w' => r = some (.int 0) ∧ w' = (zsh ++ vs, mi, ml, zmr g)) := by
  have := c_has_1 (E := E) (vs := vs) (mi := mi) (ml := ml) (g := g) x
  rw [hn, if_neg (fun q => h ((one_lt h6).mp q))] at this
  exact this
theorem m_isOne_t (hn : mi 67 68 = nI n) (h6 : n ≤ 6) (h : one n x) : Wp E 1 pg_M_isOne 0 (lv_args 0 [.ref 66, .int x]) [] (zsh ++ vs, mi, ml, zmr g) (fun r w' => r = some (.int 1) ∧ w' = (zsh ++ vs, mi, ml, zmr g)) := by
  have := m_isOne (E := E) (vs := vs) (mi := mi) (ml := ml) (g := g) x
  rw [hn, if_pos ((one_le h6).mpr h)] at this
  exact this
theorem m_isOne_f (hn : mi 67 68 = nI n) (h6 : n ≤ 6) (h : ¬ one n x) : Wp E 1 pg_M_isOne 0 (lv_args 0 [.ref 66, .int x]) [] (zsh ++ vs, mi, ml, zmr g) (fun r w' => r = some (.int 0) ∧ w' = (zsh ++ vs, mi, ml, zmr g)) := by
  have := m_isOne (E := E) (vs := vs) (mi := mi) (ml := ml) (g := g) x
  rw [hn, if_neg (fun q => h ((one_le h6).mp q))] at this
  exact this
theorem c_isHere_t (h : awB mi 1 i = 0) : Wp E 1 pg_Band_isHere 0 (lv_args 0 [.ref 1, .int (nI i)]) [] (zsh ++ vs, mi, ml, zmr g) (fun r w' => r = some (.int 1) ∧ w' = (zsh ++ vs, mi, ml, zmr g)) := by
  have := c_isHere_1 (E := E) (vs := vs) (mi := mi) (ml := ml) (g := g) (nI i)
  rw [if_pos h] at this
  exact this
theorem c_isHere_f (h : ¬ awB mi 1 i = 0) : Wp E 1 pg_Band_isHere 0 (lv_args 0 [.ref 1, .int (nI i)]) [] (zsh ++ vs, mi, ml, zmr g) (fun r w' => r = some (.int 0) ∧ w' = (zsh ++ vs, mi, ml, zmr g)) := by
  have := c_isHere_1 (E := E) (vs := vs) (mi := mi) (ml := ml) (g := g) (nI i)
  rw [if_neg h] at this
  exact this
theorem m_isHere_t (h6 : i < 6) (h : mi 67 (8 + 10 * i + 4) = 0) : Wp E 1 pg_M_isHere 0 (lv_args 0 [.ref 66, .int (nI i)]) [] (zsh ++ vs, mi, ml, zmr g) (fun r w' => r = some (.int 1) ∧ w' = (zsh ++ vs, mi, ml, zmr g)) := by
  have := m_isHere (E := E) (vs := vs) (mi := mi) (ml := ml) (g := g) i (by omega)
  rw [if_pos h] at this
  exact this
theorem m_isHere_f (h6 : i < 6) (h : ¬ mi 67 (8 + 10 * i + 4) = 0) : Wp E 1 pg_M_isHere 0 (lv_args 0 [.ref 66, .int (nI i)]) [] (zsh ++ vs, mi, ml, zmr g) (fun r w' => r = some (.int 0) ∧ w' = (zsh ++ vs, mi, ml, zmr g)) := by
  have := m_isHere (E := E) (vs := vs) (mi := mi) (ml := ml) (g := g) i (by omega)
  rw [if_neg h] at this
  exact this
end KN
/-- one call on both sides: the same answer, and the state of both behind it -/
def SIM (E : zEn) (vs : List (Nat × Nat)) (mi : Nat → Nat → Int32) (ml : Nat → Nat → Int64) (g : Nat → Nat → Option Nat) (pc pm : List zI) (as : List Value) : Prop :=
  Wp E 30 pc 0 (lv_args 0 (.ref 0 :: as)) [] (zsh ++ vs, mi, ml, zmr g) (fun r w1 => (∃ vs1 mi1 ml1 g1, w1 = (zsh ++ vs1, mi1, ml1, zmr g1)) ∧ ∃ x, r = some (.int x) ∧ Wp E 30 pm 0 (lv_args 0 (.ref 66 :: as)) [] w1 (fun r' w2 => r' = some (.int x) ∧ INVx w2))
def SIML (E : zEn) (vs : List (Nat × Nat)) (mi : Nat → Nat → Int32) (ml : Nat → Nat → Int64) (g : Nat → Nat → Option Nat) (pc pm : List zI) (as : List Value) : Prop :=
  Wp E 30 pc 0 (lv_args 0 (.ref 0 :: as)) [] (zsh ++ vs, mi, ml, zmr g) (fun r w1 => (∃ vs1 mi1 ml1 g1, w1 = (zsh ++ vs1, mi1, ml1, zmr g1)) ∧ ∃ x, r = some (.long x) ∧ Wp E 30 pm 0 (lv_args 0 (.ref 66 :: as)) [] w1 (fun r' w2 => r' = some (.long x) ∧ INVx w2))
/-- a query: on either side only what is written anew -/
theorem SIM.q {E : zEn} {nv : Nat} {VD : Nat → zV} {NL : Nat → Nat} {n dd : Nat} {vs : List (Nat × Nat)} {mi : Nat → Nat → Int32} {ml : Nat → Nat → Int64} {g : Nat → Nat → Option Nat} {pc pm : List zI} {as : List Value} {x : Int32} {dc dm : Nat} (I : INV nv VD NL n dd vs mi ml g) (hc : dc ≤ 30) (hm : dm ≤ 30)
    (h1 : Wp E dc pc 0 (lv_args 0 (.ref 0 :: as)) [] (zsh ++ vs, mi, ml, zmr g) (fun r w' => r = some (.int x) ∧ ∃ m g', w' = (zsh ++ vs, m, ml, zmr g') ∧ SC mi m ∧ ∀ a f, ¬ (a = 38 ∧ f = 3) → g' a f = g a f))
    (h2 : ∀ m g', INV nv VD NL n dd vs m ml g' → m 67 = mi 67 → SC mi m → Wp E dm pm 0 (lv_args 0 (.ref 66 :: as)) [] (zsh ++ vs, m, ml, zmr g') (fun r w' => r = some (.int x) ∧ ∃ m', w' = (zsh ++ vs, m', ml, zmr g') ∧ SC m m')) : SIM E vs mi ml g pc pm as := by
  refine (h1.deep hc).weak ?_
  rintro _ _ ⟨rfl, m, g', rfl, S, hg⟩
  have I2 := I.sc S hg (fun _ _ => rfl)
  refine ⟨⟨_, _, _, _, rfl⟩, x, rfl, ?_⟩
  refine ((h2 m g' I2 (S.c (by decide)) S).deep hm).weak ?_
  rintro _ _ ⟨rfl, m', rfl, S'⟩
  exact ⟨rfl, nv, VD, NL, n, dd, vs, m', ml, g', rfl, I2.sc S' (fun _ _ _ => rfl) (fun _ _ => rfl)⟩
theorem SIML.q {E : zEn} {nv : Nat} {VD : Nat → zV} {NL : Nat → Nat} {n dd : Nat} {vs : List (Nat × Nat)} {mi : Nat → Nat → Int32} {ml : Nat → Nat → Int64} {g : Nat → Nat → Option Nat} {pc pm : List zI} {as : List Value} {x : Int64} {dc dm : Nat} (I : INV nv VD NL n dd vs mi ml g) (hc : dc ≤ 30) (hm : dm ≤ 30)
    (h1 : Wp E dc pc 0 (lv_args 0 (.ref 0 :: as)) [] (zsh ++ vs, mi, ml, zmr g) (fun r w' => r = some (.long x) ∧ ∃ m g', w' = (zsh ++ vs, m, ml, zmr g') ∧ SC mi m ∧ ∀ a f, ¬ (a = 38 ∧ f = 3) → g' a f = g a f))
    (h2 : ∀ m g', INV nv VD NL n dd vs m ml g' → m 67 = mi 67 → SC mi m → Wp E dm pm 0 (lv_args 0 (.ref 66 :: as)) [] (zsh ++ vs, m, ml, zmr g') (fun r w' => r = some (.long x) ∧ ∃ m', w' = (zsh ++ vs, m', ml, zmr g') ∧ SC m m')) : SIML E vs mi ml g pc pm as := by
  refine (h1.deep hc).weak ?_
  rintro _ _ ⟨rfl, m, g', rfl, S, hg⟩
  have I2 := I.sc S hg (fun _ _ => rfl)
  refine ⟨⟨_, _, _, _, rfl⟩, x, rfl, ?_⟩
  refine ((h2 m g' I2 (S.c (by decide)) S).deep hm).weak ?_
  rintro _ _ ⟨rfl, m', rfl, S'⟩
  exact ⟨rfl, nv, VD, NL, n, dd, vs, m', ml, g', rfl, I2.sc S' (fun _ _ _ => rfl) (fun _ _ => rfl)⟩
