/-! AN INTERPRETER OF THE BYTECODE over a world of numbered cells: what it computes, the machine does (part 05). A world: the cells' kinds and lengths (0 int[], 1 long[], 2 char[], 3 Tape[], 10 + ci an object), and what stands in them; a reference is a cell's number; from zEX on those outside (the script, statics, texts). -/
abbrev zW : Type := List (Nat × Nat) × (Nat → Nat → Int32) × (Nat → Nat → Int64) × (Nat → Nat → Option Nat)
abbrev zLv : Type := List (Nat × Value)
abbrev zS : Type := Nat × zLv × List Value × zW
abbrev zEn : Type := Nat × (Nat → Int32)
abbrev zEX : Nat := 500
def zup {α : Type} (m : Nat → Nat → α) (k j : Nat) (v : α) : Nat → Nat → α := fun a b => if a = k then (if b = j then v else m a b) else m a b
def zrow {α : Type} (m : Nat → Nat → α) (k : Nat) (f : Nat → α) : Nat → Nat → α := fun a => if a = k then f else m a
def zrf : Option Nat → Value
  | none => .null
  | some r => .ref r
def zlk : zLv → Nat → Option Value
  | [], _ => none
  | q :: l, i => if q.1 = i then some q.2 else zlk l i
def zs1 (lv : zLv) (i : Nat) (v : Value) : zLv := (i, v) :: lv.filter (fun q => !(q.1 == i) && !(q.1 + 1 == i && q.2.category == 2))
def zs2 (lv : zLv) (i : Nat) (v : Value) : zLv := (i, v) :: lv.filter (fun q => !(q.1 == i) && (!(q.1 == i + 1) && !(q.1 + 1 == i && q.2.category == 2)))
def zab : List Int32 := [0, 0, 0, 0, 1, 2, 3]
def zbo : List Int32 := [10, 11, 12, 0, 20, 0, 30, 0, 0, 0, 0, 40, 50, 51, 0, 0, 0, 60, 71, 70, 0]
def zby : List (List Int32) := [[97, 110, 101, 119, 32], [104, 97, 114, 100, 32], [101, 97, 115, 121, 32], [112, 107, 118, 110, 109, 100], [60, 61, 62]]
def zx (E : zEn) (j : Nat) : Option (Nat × Nat × (Nat → Int32)) :=
  if j = 0 then some (0, E) else if j = 1 then some (0, 7, fun i => zab.getD i 0) else if j = 2 then some (0, 21, fun i => zbo.getD i 0)
  else if 20 ≤ j ∧ j < 25 then some (5, (zby.getD (j - 20) []).length, fun i => (zby.getD (j - 20) []).getD i 0) else none
/-- an int out of an array of kind t -/
def zia (E : zEn) (w : zW) (t r : Nat) (i : Int32) : Option Int32 :=
  if r < zEX then (match w.1[r]? with
    | some q => if q.1 = t then (if i < 0 ∨ q.2 ≤ i.toNatClampNeg then none else some (w.2.1 r i.toNatClampNeg)) else none
    | none => none)
  else (match zx E (r - zEX) with
    | some x => if x.1 = t then (if i < 0 ∨ x.2.1 ≤ i.toNatClampNeg then none else some (x.2.2 i.toNatClampNeg)) else none
    | none => none)
def zla (w : zW) (r : Nat) (i : Int32) : Option Int64 :=
  if r < zEX then (match w.1[r]? with
    | some q => if q.1 = 1 then (if i < 0 ∨ q.2 ≤ i.toNatClampNeg then none else some (w.2.2.1 r i.toNatClampNeg)) else none
    | none => none) else none
def zra (w : zW) (r : Nat) (i : Int32) : Option (Option Nat) :=
  if r < zEX then (match w.1[r]? with
    | some q => if q.1 = 3 then (if i < 0 ∨ q.2 ≤ i.toNatClampNeg then none else (match w.2.2.2 r i.toNatClampNeg with
      | some a => if a < zEX then some (some a) else none
      | none => some none)) else none
    | none => none) else none
def zal (E : zEn) (w : zW) (r : Nat) : Option Nat :=
  if r < zEX then (match w.1[r]? with
    | some q => if q.1 < 4 then some q.2 else none
    | none => none)
  else (match zx E (r - zEX) with
    | some x => some x.2.1
    | none => none)
/-- an array's own row at a store: the array is of kind t, the place within -/
def zin (w : zW) (t r : Nat) (i : Int32) : Bool :=
  if r < zEX then (match w.1[r]? with
    | some q => if q.1 = t then (if i < 0 ∨ q.2 ≤ i.toNatClampNeg then false else true) else false
    | none => false) else false
def zF (ci k : Nat) : Option Nat := match zfk[ci]? with
  | some l => l[k]?
  | none => none
def zN (ci : Nat) : Nat := match zfk[ci]? with
  | some l => l.length
  | none => 0
def zob (w : zW) (r ci : Nat) : Bool := if r < zEX then (match w.1[r]? with
    | some q => decide (q.1 = 10 + ci)
    | none => false) else false
def zgf (w : zW) (r ci k : Nat) : Option Value :=
  if ci = 20 then (if zEX + 10 ≤ r ∧ r < zEX + 15 then (if k = 0 then some (.ref (r + 10)) else some (.int 0)) else none)
  else if zob w r ci then (match zF ci k with
    | some 1 => some (zrf (w.2.2.2 r k))
    | some _ => some (.int (w.2.1 r k))
    | none => none) else none
def zpf (w : zW) (r ci k : Nat) (v : Value) : Option zW :=
  if zob w r ci then (match zF ci k, v with
    | some 0, .int x => some (w.1, zup w.2.1 r k x, w.2.2.1, w.2.2.2)
    | some 2, .int x => if x = 0 ∨ x = 1 then some (w.1, zup w.2.1 r k x, w.2.2.1, w.2.2.2) else none
    | some 1, .ref a => if a < zEX then some (w.1, w.2.1, w.2.2.1, zup w.2.2.2 r k (some a)) else none
    | some 1, .null => some (w.1, w.2.1, w.2.2.1, zup w.2.2.2 r k none)
    | _, _ => none) else none
/-- a new cell, of kind t with n places -/
def znew (w : zW) (t n : Nat) : zW := (w.1 ++ [(t, n)], zrow w.2.1 w.1.length (fun _ => 0), zrow w.2.2.1 w.1.length (fun _ => 0), zrow w.2.2.2 w.1.length (fun _ => none))
def zct (st : List Value) : Nat := (st.map fun v => v.category).sum
/-- does the branch go -/
def zcpb (c : ClassFile.Cond) (x y : Int32) : Bool := match c with
  | .eq => decide (x = y)
  | .ne => decide (¬ x = y)
  | .lt => decide (x < y)
  | .ge => decide (y ≤ x)
  | .gt => decide (y < x)
  | .le => decide (x ≤ y)
def zbr (pc : Nat) (off : Int) : Option Nat := match (pc : Int) + off with
  | .ofNat t => some t
  | .negSucc _ => none
def zat : ArrayType → Option Nat
  | .int => some 0
  | .long => some 1
  | .char => some 2
  | _ => none
def zsw (dflt lo hi : Int) (offs : Array Int) (x : Int32) : Option Int := if x.toInt < lo ∨ hi < x.toInt then some dflt else offs[(x.toInt - lo).toNat]?
/-- one instruction that neither calls nor returns -/
def zstep (E : zEn) (i : zI) (pc : Nat) (lv : zLv) (st : List Value) (w : zW) : Option zS :=
  match i.1 with
  | .aconst_null => some (pc + 1, lv, .null :: st, w)
  | .iconst n => some (pc + 1, lv, .int (Int32.ofInt n) :: st, w)
  | .lconst n => some (pc + 1, lv, .long (Int64.ofNat n.val) :: st, w)
  | .bipush n => some (pc + 2, lv, .int (Int8.ofInt n).toInt32 :: st, w)
  | .sipush n => some (pc + 3, lv, .int (Int16.ofInt n).toInt32 :: st, w)
  | .ldc _ => if i.2.2.2.1 = 0 then some (pc + 2, lv, .int (Int32.ofNat i.2.2.1) :: st, w) else if i.2.2.2.1 = 1 then some (pc + 2, lv, .ref (zEX + 10 + i.2.2.1) :: st, w) else none
  | .ldc_w _ => if i.2.2.2.1 = 0 then some (pc + 3, lv, .int (Int32.ofNat i.2.2.1) :: st, w) else none
  | .ldc2_w _ => some (pc + 3, lv, .long (Int64.ofNat i.2.2.1) :: st, w)
  | .iload k => match zlk lv k with
    | some (.int x) => some (pc + 2, lv, .int x :: st, w)
    | _ => none
  | .iload_n k => match zlk lv k.val with
    | some (.int x) => some (pc + 1, lv, .int x :: st, w)
    | _ => none
  | .lload k => match zlk lv k with
    | some (.long x) => some (pc + 2, lv, .long x :: st, w)
    | _ => none
  | .lload_n k => match zlk lv k.val with
    | some (.long x) => some (pc + 1, lv, .long x :: st, w)
    | _ => none
  | .aload k => match zlk lv k with
    | some (.ref x) => some (pc + 2, lv, .ref x :: st, w)
    | some .null => some (pc + 2, lv, .null :: st, w)
    | _ => none
  | .aload_n k => match zlk lv k.val with
    | some (.ref x) => some (pc + 1, lv, .ref x :: st, w)
    | some .null => some (pc + 1, lv, .null :: st, w)
    | _ => none
  | .istore k => match st with
    | .int x :: r => some (pc + 2, zs1 lv k (.int x), r, w)
    | _ => none
  | .istore_n k => match st with
    | .int x :: r => some (pc + 1, zs1 lv k.val (.int x), r, w)
    | _ => none
  | .lstore k => match st with
    | .long x :: r => some (pc + 2, zs2 lv k (.long x), r, w)
    | _ => none
  | .lstore_n k => match st with
    | .long x :: r => some (pc + 1, zs2 lv k.val (.long x), r, w)
    | _ => none
  | .astore k => match st with
    | .ref x :: r => some (pc + 2, zs1 lv k (.ref x), r, w)
    | .null :: r => some (pc + 2, zs1 lv k .null, r, w)
    | _ => none
  | .astore_n k => match st with
    | .ref x :: r => some (pc + 1, zs1 lv k.val (.ref x), r, w)
    | .null :: r => some (pc + 1, zs1 lv k.val .null, r, w)
    | _ => none
  | .iinc k n => match zlk lv k with
    | some (.int x) => some (pc + 3, zs1 lv k (.int (x + Int32.ofInt n)), st, w)
    | _ => none
  | .iadd => match st with
    | .int y :: .int x :: r => some (pc + 1, lv, .int (x + y) :: r, w)
    | _ => none
  | .isub => match st with
    | .int y :: .int x :: r => some (pc + 1, lv, .int (x - y) :: r, w)
    | _ => none
  | .imul => match st with
    | .int y :: .int x :: r => some (pc + 1, lv, .int (x * y) :: r, w)
    | _ => none
  | .iand => match st with
    | .int y :: .int x :: r => some (pc + 1, lv, .int (x &&& y) :: r, w)
    | _ => none
  | .ior => match st with
    | .int y :: .int x :: r => some (pc + 1, lv, .int (x ||| y) :: r, w)
    | _ => none
  | .ixor => match st with
    | .int y :: .int x :: r => some (pc + 1, lv, .int (x ^^^ y) :: r, w)
    | _ => none
  | .idiv => match st with
    | .int y :: .int x :: r => if y = 0 then none else some (pc + 1, lv, .int (x / y) :: r, w)
    | _ => none
  | .irem => match st with
    | .int y :: .int x :: r => if y = 0 then none else some (pc + 1, lv, .int (x - x / y * y) :: r, w)
    | _ => none
  | .ineg => match st with
    | .int x :: r => some (pc + 1, lv, .int (-x) :: r, w)
    | _ => none
  | .ishl => match st with
    | .int y :: .int x :: r => some (pc + 1, lv, .int (x <<< (y &&& 31)) :: r, w)
    | _ => none
  | .ishr => match st with
    | .int y :: .int x :: r => some (pc + 1, lv, .int (x >>> (y &&& 31)) :: r, w)
    | _ => none
  | .iushr => match st with
    | .int y :: .int x :: r => some (pc + 1, lv, .int (x.toUInt32 >>> (y.toUInt32 &&& Int32.toUInt32 31)).toInt32 :: r, w)
    | _ => none
  | .ladd => match st with
    | .long y :: .long x :: r => some (pc + 1, lv, .long (x + y) :: r, w)
    | _ => none
  | .land => match st with
    | .long y :: .long x :: r => some (pc + 1, lv, .long (x &&& y) :: r, w)
    | _ => none
  | .lor => match st with
    | .long y :: .long x :: r => some (pc + 1, lv, .long (x ||| y) :: r, w)
    | _ => none
  | .lxor => match st with
    | .long y :: .long x :: r => some (pc + 1, lv, .long (x ^^^ y) :: r, w)
    | _ => none
  | .ldiv => match st with
    | .long y :: .long x :: r => if y = 0 then none else some (pc + 1, lv, .long (x / y) :: r, w)
    | _ => none
  | .lrem => match st with
    | .long y :: .long x :: r => if y = 0 then none else some (pc + 1, lv, .long (x - x / y * y) :: r, w)
    | _ => none
  | .lshl => match st with
    | .int y :: .long x :: r => some (pc + 1, lv, .long (x <<< (y.toInt64 &&& 63)) :: r, w)
    | _ => none
  | .lushr => match st with
    | .int y :: .long x :: r => some (pc + 1, lv, .long (x.toUInt64 >>> (y.toInt64.toUInt64 &&& Int64.toUInt64 63)).toInt64 :: r, w)
    | _ => none
  | .lcmp => match st with
    | .long y :: .long x :: r => some (pc + 1, lv, .int (lg_cmp x y) :: r, w)
    | _ => none
  | .i2l => match st with
    | .int x :: r => some (pc + 1, lv, .long x.toInt64 :: r, w)
    | _ => none
  | .l2i => match st with
    | .long x :: r => some (pc + 1, lv, .int x.toInt32 :: r, w)
    | _ => none
  | .i2b => match st with
    | .int x :: r => some (pc + 1, lv, .int x.toInt8.toInt32 :: r, w)
    | _ => none
  | .i2s => match st with
    | .int x :: r => some (pc + 1, lv, .int x.toInt16.toInt32 :: r, w)
    | _ => none
  | .i2c => match st with
    | .int x :: r => some (pc + 1, lv, .int (x.toUInt32 % 65536).toInt32 :: r, w)
    | _ => none
  | .dup => match st with
    | v :: r => if v.category = 1 then some (pc + 1, lv, v :: v :: r, w) else none
    | _ => none
  | .pop => match st with
    | v :: r => if v.category = 1 then some (pc + 1, lv, r, w) else none
    | _ => none
  | .dup_x1 => match st with
    | v :: u :: r => if v.category = 1 ∧ u.category = 1 then some (pc + 1, lv, v :: u :: v :: r, w) else none
    | _ => none
  | .dup2 => match st with
    | v :: u :: r => if v.category = 1 ∧ u.category = 1 then some (pc + 1, lv, v :: u :: v :: u :: r, w) else none
    | _ => none
  | .goto _ => some (i.2.2.1, lv, st, w)
  | .ifCond c _ => match st with
    | .int x :: r => some (if zcpb c x 0 then i.2.2.1 else pc + 3, lv, r, w)
    | _ => none
  | .if_icmp c _ => match st with
    | .int y :: .int x :: r => some (if zcpb c x y then i.2.2.1 else pc + 3, lv, r, w)
    | _ => none
  | .ifnull _ => match st with
    | .null :: r => some (i.2.2.1, lv, r, w)
    | .ref a :: r => if a < zEX then some (pc + 3, lv, r, w) else none
    | _ => none
  | .ifnonnull _ => match st with
    | .null :: r => some (pc + 3, lv, r, w)
    | .ref a :: r => if a < zEX then some (i.2.2.1, lv, r, w) else none
    | _ => none
  | .tableswitch d lo hi offs => match st with
    | .int x :: r => (match zsw d lo hi offs x with
      | some off => (match zbr pc off with
        | some t => some (t, lv, r, w)
        | none => none)
      | none => none)
    | _ => none
  | .lookupswitch d ps => match st with
    | .int x :: r => (match zbr pc (Op.lookupswitch.offset ps.toList d x.toInt) with
        | some t => some (t, lv, r, w)
        | none => none)
    | _ => none
  | .getstatic _ => if i.2.2.1 = 0 then some (pc + 3, lv, .ref (zEX + 1) :: st, w) else if i.2.2.1 = 1 then some (pc + 3, lv, .ref (zEX + 2) :: st, w) else if i.2.2.1 = 2 then some (pc + 3, lv, .int 1 :: st, w) else if i.2.2.1 = 3 then some (pc + 3, lv, .ref (zEX + 3) :: st, w) else none
  | .getfield _ => match st with
    | .ref r :: rs => (match zgf w r i.2.2.1 i.2.2.2.1 with
      | some v => some (pc + 3, lv, v :: rs, w)
      | none => none)
    | _ => none
  | .putfield _ => match st with
    | v :: .ref r :: rs => (match zpf w r i.2.2.1 i.2.2.2.1 v with
      | some w' => some (pc + 3, lv, rs, w')
      | none => none)
    | _ => none
  | .iaload => match st with
    | .int x :: .ref r :: rs => (match zia E w 0 r x with
      | some v => some (pc + 1, lv, .int v :: rs, w)
      | none => none)
    | _ => none
  | .caload => match st with
    | .int x :: .ref r :: rs => (match zia E w 2 r x with
      | some v => some (pc + 1, lv, .int v :: rs, w)
      | none => none)
    | _ => none
  | .baload => match st with
    | .int x :: .ref r :: rs => if r < zEX then none else (match zia E w 5 r x with
      | some v => some (pc + 1, lv, .int v :: rs, w)
      | none => none)
    | _ => none
  | .laload => match st with
    | .int x :: .ref r :: rs => (match zla w r x with
      | some v => some (pc + 1, lv, .long v :: rs, w)
      | none => none)
    | _ => none
  | .aaload => match st with
    | .int x :: .ref r :: rs => (match zra w r x with
      | some v => some (pc + 1, lv, zrf v :: rs, w)
      | none => none)
    | _ => none
  | .iastore => match st with
    | .int v :: .int x :: .ref r :: rs => if zin w 0 r x then some (pc + 1, lv, rs, (w.1, zup w.2.1 r x.toNatClampNeg v, w.2.2.1, w.2.2.2)) else none
    | _ => none
  | .castore => match st with
    | .int v :: .int x :: .ref r :: rs => if zin w 2 r x then some (pc + 1, lv, rs, (w.1, zup w.2.1 r x.toNatClampNeg (vp_nar .char v), w.2.2.1, w.2.2.2)) else none
    | _ => none
  | .lastore => match st with
    | .long v :: .int x :: .ref r :: rs => if zin w 1 r x then some (pc + 1, lv, rs, (w.1, w.2.1, zup w.2.2.1 r x.toNatClampNeg v, w.2.2.2)) else none
    | _ => none
  | .aastore => match st with
    | .ref v :: .int x :: .ref r :: rs => if zin w 3 r x && zob w v 4 then some (pc + 1, lv, rs, (w.1, w.2.1, w.2.2.1, zup w.2.2.2 r x.toNatClampNeg (some v))) else none
    | _ => none
  | .arraylength => match st with
    | .ref r :: rs => (match zal E w r with
      | some n => some (pc + 1, lv, .int (Int32.ofNat n) :: rs, w)
      | none => none)
    | _ => none
  | .new _ => if w.1.length < zEX then some (pc + 3, lv, .ref w.1.length :: st, znew w (10 + i.2.2.1) (zN i.2.2.1)) else none
  | .newarray t => match st with
    | .int n :: rs => (match zat t with
      | some k => if w.1.length < zEX ∧ ¬ n < 0 ∧ n.toNatClampNeg ≤ 10000 then some (pc + 2, lv, .ref w.1.length :: rs, znew w k n.toNatClampNeg) else none
      | none => none)
    | _ => none
  | .anewarray _ => match st with
    | .int n :: rs => if w.1.length < zEX ∧ ¬ n < 0 ∧ n.toNatClampNeg ≤ 10000 then some (pc + 3, lv, .ref w.1.length :: rs, znew w 3 n.toNatClampNeg) else none
    | _ => none
  | .invokespecial _ => match st with
    | .ref r :: rs => if i.2.2.1 = 1001 ∧ r < zEX ∧ zct rs ≤ 8 then some (pc + 3, lv, rs, w) else none
    | _ => none
  | .invokestatic _ => match st with
    | .int n :: .int dp :: .ref a :: .int sp :: .ref b :: rs => if i.2.2.1 = 1004 ∧ zct rs ≤ 8 ∧ ¬ sp < 0 ∧ ¬ dp < 0 ∧ ¬ n < 0 ∧ a < zEX ∧ b < zEX then
        (match w.1[b]?, w.1[a]? with
        | some q0, some q1 => if q0.1 = q1.1 ∧ sp.toNatClampNeg + n.toNatClampNeg ≤ q0.2 ∧ dp.toNatClampNeg + n.toNatClampNeg ≤ q1.2 then
            (if q1.1 = 0 then some (pc + 3, lv, rs, (w.1, zrow w.2.1 a (va_cpy (w.2.1 b) (w.2.1 a) sp.toNatClampNeg dp.toNatClampNeg n.toNatClampNeg), w.2.2.1, w.2.2.2))
             else if q1.1 = 1 then some (pc + 3, lv, rs, (w.1, w.2.1, zrow w.2.2.1 a (va_cpy (w.2.2.1 b) (w.2.2.1 a) sp.toNatClampNeg dp.toNatClampNeg n.toNatClampNeg), w.2.2.2)) else none) else none
        | _, _ => none) else none
    | .int y :: .int x :: rs => if zct rs ≤ 8 then (if i.2.2.1 = 1002 then some (pc + 3, lv, .int (if x < y then y else x) :: rs, w) else if i.2.2.1 = 1003 then some (pc + 3, lv, .int (if y < x then y else x) :: rs, w) else none) else none
    | _ => none
  | _ => none
/-- 0: a step, 1: a return, 2: a call -/
def zkind (i : zI) : Nat := match i.1 with
  | .ireturn => 1
  | .lreturn => 1
  | .areturn => 1
  | .return_ => 1
  | .invokevirtual _ => 2
  | .invokespecial _ => if i.2.2.1 < 999 then 2 else 0
  | .invokestatic _ => if i.2.2.1 < 999 then 2 else 0
  | _ => 0
/-- what a return gives -/
def zret (i : zI) (st : List Value) : Option (Option Value) := match i.1 with
  | .return_ => (match st with
    | [] => some none
    | _ => none)
  | .ireturn => (match st with
    | [.int x] => if i.2.2.1 = 0 then some (some (.int x)) else if i.2.2.1 = 1 then (if x = 0 ∨ x = 1 then some (some (.int x)) else none) else if i.2.2.1 = 2 then (if narrow .char (.int x) = .int x then some (some (.int x)) else none) else if narrow .byte (.int x) = .int x then some (some (.int x)) else none
    | _ => none)
  | .lreturn => (match st with
    | [.long x] => some (some (.long x))
    | _ => none)
  | .areturn => (match st with
    | [.ref x] => if x < zEX then some (some (.ref x)) else none
    | [.null] => some (some .null)
    | _ => none)
  | _ => none
/-- a receiver of class ci (50: a static method has none) -/
def zrecv (w : zW) (ci : Nat) (as : List Value) : Bool := if ci = 50 then true else match as with
  | .ref r :: _ => if ci = 20 then decide (zEX + 10 ≤ r ∧ r < zEX + 15) else zob w r ci
  | _ => false
def zexec (E : zEn) : Nat → Nat → List zI → Nat → zLv → List Value → zW → Option (Option Value × zW)
  | 0, _, _, _, _, _, _ => none
  | n + 1, d, cd, pc, lv, st, w =>
    match cd[pc]? with
    | none => none
    | some i =>
      match zkind i with
      | 0 => (match zstep E i pc lv st w with
        | some s => zexec E n d cd s.1 s.2.1 s.2.2.1 s.2.2.2
        | none => none)
      | 1 => (match zret i st with
        | some r => some (r, w)
        | none => none)
      | _ => (match d with
        | 0 => none
        | d + 1 => (match zme[i.2.2.1]? with
          | none => none
          | some q => if i.2.2.2.1 ≤ st.length ∧ zct (st.drop i.2.2.2.1) ≤ 8 ∧ zct (st.take i.2.2.2.1).reverse ≤ q.2.2.1 ∧ zrecv w q.2.2.2.2.1 (st.take i.2.2.2.1).reverse = true then
              (match zexec E n d q.2.2.2.2.2 0 (lv_args 0 (st.take i.2.2.2.1).reverse) [] w with
              | some x => zexec E n (d + 1) cd (pc + 3) lv (x.1.toList ++ st.drop i.2.2.2.1) x.2
              | none => none) else none))
/-! THE CHECKS that the lists are the code: per instruction and per method -/
def zTbl : List Jvm.Cond := lw_tbl.filter goodWord
def zw (c : Nat) (x : Jvm.Cond) : Bool := decide (lw_tbl[c]? = some x) && goodWord x
theorem zw_in {c : Nat} {x : Jvm.Cond} (h : zw c x = true) : x ∈ zTbl := by
  simp only [zw, Bool.and_eq_true, decide_eq_true_eq] at h
  exact List.mem_filter.mpr ⟨List.mem_of_getElem? h.1, h.2⟩
/-- the links to private members of a nest mate -/
def zNests : List Jvm.Cond := [.methodLinkNest "SungHarvest" 23 ⟨"SungHarvest$Hand", "<init>", "()V"⟩ "SungHarvest", .methodLinkNest "SungHarvest" 33 ⟨"SungHarvest$Foresight", "<init>", "()V"⟩ "SungHarvest", .methodLinkNest "SungHarvest" 40 ⟨"SungHarvest$Text", "<init>", "()V"⟩ "SungHarvest", .methodLinkNest "SungHarvest" 47 ⟨"SungHarvest$Performance", "<init>", "()V"⟩ "SungHarvest", .methodLinkNest "SungHarvest" 58 ⟨"SungHarvest$Tape", "<init>", "()V"⟩ "SungHarvest", .methodLinkNest "SungHarvest$Band" 71 ⟨"SungHarvest", "bit", "(II)I"⟩ "SungHarvest", .methodLinkNest "SungHarvest$Foresight" 38 ⟨"SungHarvest", "bit", "(II)I"⟩ "SungHarvest", .fieldLinkNest "SungHarvest$Performance" 49 "SungHarvest" "ABOVE" "[I" "SungHarvest"]
/-- what an instruction's list row must say besides its decoding: c the class, nL the locals, iname the method's name, rt its type -/
def zck2 (q : zMe) (pc : Nat) (i : zI) : Bool :=
  match i.1 with
  | .nop => false
  | .bipush _ => i.2.1 == 2
  | .sipush _ => i.2.1 == 3
  | .ldc idx => i.2.1 == 2 && (if i.2.2.2.1 = 0 then zw i.2.2.2.2 (.constant q.1.cls idx (Int32.ofNat i.2.2.1)) else decide (i.2.2.2.1 = 1 ∧ i.2.2.1 < 5 ∧ lw_tbl[i.2.2.2.2]? = some (.stringRef q.1.cls idx (["anew ", "hard ", "easy ", "pkvnmd", "<=>"].getD i.2.2.1 "")) ∧ q.1.cls = "SungHarvest$Text" ∧ idx = [54, 63, 65, 81, 87].getD i.2.2.1 0))
  | .ldc_w idx => i.2.1 == 3 && (i.2.2.2.1 == 9 || zw i.2.2.2.2 (.constant q.1.cls idx (Int32.ofNat i.2.2.1)))
  | .ldc2_w idx => i.2.1 == 3 && zw i.2.2.2.2 (.constantLong q.1.cls idx (Int64.ofNat i.2.2.1))
  | .iload _ | .lload _ | .aload _ => i.2.1 == 2
  | .istore k | .astore k => i.2.1 == 2 && decide (k < q.2.2.1)
  | .lstore k => i.2.1 == 2 && decide (k + 1 < q.2.2.1)
  | .istore_n k | .astore_n k => i.2.1 == 1 && decide (k.val < q.2.2.1)
  | .lstore_n k => i.2.1 == 1 && decide (k.val + 1 < q.2.2.1)
  | .iinc k _ => i.2.1 == 3 && decide (k < q.2.2.1)
  | .goto off | .ifCond _ off | .if_icmp _ off | .ifnull off | .ifnonnull off => i.2.1 == 3 && decide ((pc : Int) + off = (i.2.2.1 : Int))
  | .tableswitch _ _ _ _ => true
  | .lookupswitch _ ps => (ps.toList.zip (ps.toList.drop 1)).all (fun (a, next) => a.1 < next.1)
  | .getfield idx => i.2.1 == 3 && (if i.2.2.1 = 20 then (if i.2.2.2.1 = 0 then zw i.2.2.2.2 (.fieldLink q.1.cls idx "java/lang/String" "value" "[B") else zw i.2.2.2.2 (.fieldLink q.1.cls idx "java/lang/String" "coder" "B"))
      else match vwCl[i.2.2.1]? with
        | some r => decide (i.2.2.2.1 < r.2.2) && zw i.2.2.2.2 (.fieldLink q.1.cls idx (r.2.1 i.2.2.2.1).1 (r.2.1 i.2.2.2.1).2.1 (r.2.1 i.2.2.2.1).2.2.1)
        | none => false)
  | .putfield idx => i.2.1 == 3 && (match vwCl[i.2.2.1]? with
        | some r => decide (i.2.2.2.1 < r.2.2) && zw i.2.2.2.2 (.fieldLink q.1.cls idx (r.2.1 i.2.2.2.1).1 (r.2.1 i.2.2.2.1).2.1 (r.2.1 i.2.2.2.1).2.2.1) && (!(r.2.1 i.2.2.2.1).2.2.2 || decide (q.1.name = "<init>" ∧ (r.2.1 i.2.2.2.1).1 = q.1.cls))
        | none => false)
  | .getstatic idx => i.2.1 == 3 && (if i.2.2.1 = 0 then (zw i.2.2.2.2 (.fieldLink q.1.cls idx "SungHarvest" "ABOVE" "[I") || decide (Jvm.Cond.fieldLinkNest q.1.cls idx "SungHarvest" "ABOVE" "[I" "SungHarvest" ∈ zNests))
      else if i.2.2.1 = 1 then zw i.2.2.2.2 (.fieldLink q.1.cls idx "SungHarvest$Performance" "BODIES" "[I")
      else if i.2.2.1 = 2 then zw i.2.2.2.2 (.fieldLink q.1.cls idx "java/lang/String" "COMPACT_STRINGS" "Z")
      else zw i.2.2.2.2 (.fieldLink q.1.cls idx "jdk/internal/util/Preconditions" "SIOOBE_FORMATTER" "Ljava/util/function/BiFunction;"))
  | .new idx => i.2.1 == 3 && (match vwCl[i.2.2.1]? with
        | some r => zw i.2.2.2.2 (.classLink q.1.cls idx r.1)
        | none => false)
  | .newarray _ => i.2.1 == 2
  | .anewarray idx => i.2.1 == 3 && zw i.2.2.2.2 (.classLink q.1.cls idx "SungHarvest$Tape")
  | .invokevirtual idx => i.2.1 == 3 && (match zme[i.2.2.1]? with
        | some y => zw i.2.2.2.2 (.methodLink q.1.cls idx y.1) && !(y.1.name == "<init>") && y.2.2.2.2.1 != 50 && decide ((parseMethodDescriptor y.1.desc).map (fun d => d.parameters.length + 1) = some i.2.2.2.1)
        | none => true)
  | .invokespecial idx => i.2.1 == 3 && (if i.2.2.1 = 1001 then zw i.2.2.2.2 (.methodLink q.1.cls idx objectInit) else match zme[i.2.2.1]? with
        | some y => (zw i.2.2.2.2 (.methodLink q.1.cls idx y.1) || decide (Jvm.Cond.methodLinkNest q.1.cls idx y.1 "SungHarvest" ∈ zNests)) && y.1.name == "<init>" && y.2.2.2.2.1 != 50 && decide (y.2.2.2.1 = none) && decide ((parseMethodDescriptor y.1.desc).map (fun d => d.parameters.length + 1) = some i.2.2.2.1)
        | none => true)
  | .invokestatic idx => i.2.1 == 3 && (if i.2.2.1 = 1002 then zw i.2.2.2.2 (.methodLink q.1.cls idx Lib.Math.max.name) else if i.2.2.1 = 1003 then zw i.2.2.2.2 (.methodLink q.1.cls idx Lib.Math.min.name) else if i.2.2.1 = 1004 then zw i.2.2.2.2 (.methodLink q.1.cls idx arraycopyName) else match zme[i.2.2.1]? with
        | some y => (zw i.2.2.2.2 (.methodLink q.1.cls idx y.1) || decide (Jvm.Cond.methodLinkNest q.1.cls idx y.1 "SungHarvest" ∈ zNests)) && y.2.2.2.2.1 == 50 && decide ((parseMethodDescriptor y.1.desc).map (fun d => d.parameters.length) = some i.2.2.2.1)
        | none => true)
  | .ireturn => i.2.1 == 1 && decide (q.2.2.2.1 = some (if i.2.2.1 = 0 then .int else if i.2.2.1 = 1 then .boolean else if i.2.2.1 = 2 then .char else .byte))
  | .lreturn => i.2.1 == 1 && decide (q.2.2.2.1 = some .long)
  | .areturn => i.2.1 == 1 && (match q.2.2.2.1 with
        | some (.object _) => true
        | some (.array _) => true
        | _ => false)
  | .return_ => i.2.1 == 1 && decide (q.2.2.2.1 = none)
  | _ => i.2.1 == 1
def zck (q : zMe) (pc : Nat) (i : zI) : Bool := decide (i = zn) || (decide (decode q.2.1 pc = .ok (i.1, i.2.1)) && zck2 q pc i)
def zckl (q : zMe) : Nat → List zI → Bool
  | _, [] => true
  | pc, i :: l => zck q pc i && zckl q (pc + 1) l
theorem zckl_get {q : zMe} : ∀ {l : List zI} {p k : Nat} {i : zI}, zckl q p l = true → l[k]? = some i → zck q (p + k) i = true
  | [], _, _, _, _, h => by simp at h
  | j :: l, p, 0, i, h, hk => by
    simp only [zckl, Bool.and_eq_true] at h
    simp at hk
    subst hk
    exact h.1
  | j :: l, p, k + 1, i, h, hk => by
    simp only [zckl, Bool.and_eq_true] at h
    have := zckl_get (k := k) h.2 (by simpa using hk)
    rw [show p + (k + 1) = p + 1 + k by omega]
    exact this
/-- the words of a method: its code, its class, how it is called -/
def zmk (q : zMe) (a b c d : Nat) : Bool := zw a (.code q.1 q.2.1 q.2.2.1 q.2.2.2.1) && zw b (.initialized q.1.cls) && (if q.2.2.2.2.1 = 50 then zw c (.static q.1) else zw c (.instanceMethod q.1) && (q.1.name == "<init>" || zw d (.selects q.1.cls q.1 q.1))) && decide (q.2.2.1 ≤ 40) && plainName q.1.cls && decide (q.1.cls ≠ "java/lang/invoke/MethodHandle" ∧ q.1.cls ≠ "java/lang/invoke/VarHandle") && (q.2.2.2.2.1 == 50 || q.2.2.2.2.1 == 20 && q.1.cls == "java/lang/String" || decide ((vwCl[q.2.2.2.2.1]?).map (fun r => r.1) = some q.1.cls)) && !(q.1.name == "<init>" && q.2.2.2.2.1 == 50)
def zmq (q : zMe) : Prop := zckl q 0 q.2.2.2.2.2 = true ∧ ∃ a b c d : Nat, zmk q a b c d = true
