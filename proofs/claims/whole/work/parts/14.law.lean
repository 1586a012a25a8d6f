/-! THE CLAIM OUT OF A RUN OF THE INTERPRETER -/
def zw0 : zW := ([], fun _ _ => 0, fun _ _ => 0, fun _ _ => none)
/-- what is left to show: on every script the interpreter's run of the law ends with 1 -/
def zRun : Prop := ∀ (L : Nat) (xs : Nat → Int32), L ≤ 3072 → ∃ (n : Nat) (w' : zW), zexec (L, xs) n 40 pg_L_law 0 [(0, .ref 500)] [] zw0 = some (some (.int 1), w') ∧ w'.1.length ≤ 600000 ∧ zsl w'.1 ≤ 7302250
set_option maxRecDepth 20000 in
theorem zwhole (hme : ∀ q ∈ zme, zmq q) (hlk : zckl zm_L_law 0 pg_L_law = true) (hrun : zRun) {p : Program} {e : Env} {s : State} {m : MethodId} {below : List Frame} {meth : Method} {c : Code} (l : Launch) {b L : Nat} {xs : Nat → Int32} (hL : L ≤ 3072) (C0 : lw_At p s m meth c b L xs) : W p l e room_1 s m #[Value.ref b] below meth c s.heap [] 0 0 (lw_Z below #[Value.ref b] s) (entryFrame m ([Value.ref b] : List Value).toArray 4) := by
  obtain ⟨ex, dA, dC, dI, hK, hX, hex⟩ := zstart hL C0
  obtain ⟨hx, hb, hr, hml, hown, hts, -, hbl, hlocks, hgv⟩ := id C0
  obtain ⟨n, w', hz, hz1, hz2⟩ := hrun L xs hL
  have C : zCx s.heap.size ex dA dC dI (L, xs) p room_1 s m #[Value.ref b] meth c zm_L_law 0 40 :=
    ⟨hx, hb, hml, hown, fun y hy => hts y (List.mem_filter.mp hy).1, hK, hX, rfl, fun h => absurd h (by decide +kernel), Nat.le_of_ble_eq_true rfl, Nat.le_of_ble_eq_true rfl⟩
  have hl := lv_entry ([.ref b]) (n := 4) (Nat.le_of_ble_eq_true rfl)
  rw [lg_entry_eq]
  have hl2 : lv_has ((lg_sl ([.ref b]) ++ List.replicate (4 - (lg_sl ([.ref b])).length) Slot.unset).toArray) 4 (zmv s.heap.size ex [(0, .ref 500)]) := by
    have e1 : zv s.heap.size ex (.ref 500) = .ref b := (zv_ex 0).trans hex
    have e2 : zmv s.heap.size ex [(0, .ref 500)] = [(0, Value.ref b)] := by simp only [zmv, List.map_cons, List.map_nil, e1]
    rw [e2]
    exact hl
  have hk := zsnd hme n p l e room_1 s m #[Value.ref b] below meth c (lw_Z below #[Value.ref b] s) s.heap.size ex dA dC dI zm_L_law 0 0 40 0 [(0, .ref 500)] [] zw0 w' (some (.int 1)) C hlk hz (Nat.zero_le _) (Nat.zero_le _) hz1 hz2 ?_ s.heap [] _ ⟨Nat.le_refl _, fun k q h => by simp [zws, zw0] at h⟩ va_S.rf hl2
  · exact hk
  · intro pcr lvr str i hi hk1 hrt H locs ls hR hS hl
    have hck := zckl_get hlk hi
    rw [Nat.zero_add] at hck
    unfold zck at hck
    rw [Bool.or_eq_true, Bool.and_eq_true, decide_eq_true_eq, decide_eq_true_eq] at hck
    rcases hck with rfl | ⟨hd, hk2⟩
    · simp [zkind] at hk1
    obtain ⟨ins, len, fa, fb, fc⟩ := i
    dsimp only at hd
    refine va_forget (fun y hy => hS.2.2 y hy) ?_
    refine W.widen (k := 600000) (n := 7302250) hz1 hz2 ?_
    cases ins with
    | ireturn =>
      have hlen : len = 1 := by simp only [zck2, Bool.and_eq_true, beq_iff_eq] at hk2; exact hk2.1
      subst hlen
      have hstr : str = [.int 1] := by
        simp only [zret] at hrt
        split at hrt
        · rename_i y
          have : y = 1 := by
            repeat' (split at hrt)
            all_goals first
              | (cases hrt; rfl)
              | (cases hrt)
          rw [this]
        · cases hrt
      subst hstr
      exact lw_ret hx hb hr hlocks hd
    | lreturn =>
      simp only [zret] at hrt
      split at hrt <;> cases hrt
    | areturn =>
      simp only [zret] at hrt
      repeat' (split at hrt)
      all_goals cases hrt
    | return_ =>
      simp only [zret] at hrt
      split at hrt <;> cases hrt
    | _ => simp [zret] at hrt
