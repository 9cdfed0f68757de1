-- THE ABSTRACT MACHINE: a heap of typed cells by number, one step an instruction
/-- kinds of cells (kind, length): below 100 an object of that class; 100 ints, 101 booleans, 102 longs, 103 Ways, 104 Blocks, 105 Tapes, 106 rows of ints, 107 of booleans, 108 of longs -/
abbrev mm_H : Type := List (Nat × Nat) × (Nat → Nat → Option Nat) × (Nat → Nat → Int32) × (Nat → Nat → Int64)
abbrev mm_L : Type := List (Option Value)
abbrev mm_S : Type := Nat × mm_L × List Value × mm_H
def mm_u2 {α : Type} (f : Nat → Nat → α) (a k : Nat) (v : α) : Nat → Nat → α := fun x j => if x = a ∧ j = k then v else f x j
def mm_row {α : Type} (f : Nat → Nat → α) (a : Nat) (g : Nat → α) : Nat → Nat → α := fun x j => if x = a then g j else f x j
def mm_get : mm_L → Nat → Option Value
  | [], _ => none
  | a :: _, 0 => a
  | _ :: t, n + 1 => mm_get t n
def mm_clr : Option Value → Option Value
  | some (.long _) => none
  | some (.double _) => none
  | a => a
def mm_set : mm_L → Nat → Value → mm_L
  | [], _, _ => []
  | _ :: t, 0, v => some v :: t
  | a :: t, 1, v => mm_clr a :: mm_set t 0 v
  | a :: t, n + 2, v => a :: mm_set t (n + 1) v
/-- a store of one slot, where the row has the place -/
def mm_put (ls : mm_L) (i : Nat) (v : Value) : Option mm_L := if i < ls.length then some (mm_set ls i v) else none
def mm_cat (st : List Value) : Nat := (st.map fun v => v.category).sum
def mm_cmp (c : Jvm.ClassFile.Cond) (x y : Int32) : Bool := match c with
  | .eq => decide (x = y)
  | .ne => decide (x ≠ y)
  | .lt => decide (x < y)
  | .ge => decide (y ≤ x)
  | .gt => decide (y < x)
  | .le => decide (x ≤ y)
def mm_tg (pc : Nat) (off : Int) : Nat := ((pc : Int) + off).toNat
def mm_ok (pc : Nat) (off : Int) : Bool := decide (0 ≤ (pc : Int) + off)
def mm_shl (x y : Int32) : Int32 := x <<< (y &&& 31)
def mm_shr (x y : Int32) : Int32 := x >>> (y &&& 31)
def mm_ushr (x y : Int32) : Int32 := (x.toUInt32 >>> (y.toUInt32 &&& Int32.toUInt32 31)).toInt32
def mm_rem (x y : Int32) : Int32 := x - x / y * y
def mm_lshl (x : Int64) (y : Int32) : Int64 := x <<< (y.toInt64 &&& 63)
/-- constants, locals, the stack -/
def mm_x1 (o : Nat) (i : Instr) (n pc : Nat) (ls : mm_L) (st : List Value) (h : mm_H) : Option mm_S := match i with
  | .iconst v => some (pc + n, ls, .int (Int32.ofInt v) :: st, h)
  | .bipush v => some (pc + n, ls, .int (Int8.ofInt v).toInt32 :: st, h)
  | .sipush v => some (pc + n, ls, .int (Int16.ofInt v).toInt32 :: st, h)
  | .lconst v => some (pc + n, ls, .long (Int64.ofNat (v : Nat)) :: st, h)
  | .aconst_null => some (pc + n, ls, .null :: st, h)
  | .ldc j => match mm_ki o j with
    | some v => some (pc + n, ls, .int v :: st, h)
    | none => none
  | .ldc_w j => match mm_ki o j with
    | some v => some (pc + n, ls, .int v :: st, h)
    | none => none
  | .ldc2_w j => match mm_kl o j with
    | some v => some (pc + n, ls, .long v :: st, h)
    | none => none
  | .iload_n k => match mm_get ls k with
    | some (.int x) => some (pc + n, ls, .int x :: st, h)
    | _ => none
  | .iload k => match mm_get ls k with
    | some (.int x) => some (pc + n, ls, .int x :: st, h)
    | _ => none
  | .lload_n k => match mm_get ls k with
    | some (.long x) => some (pc + n, ls, .long x :: st, h)
    | _ => none
  | .lload k => match mm_get ls k with
    | some (.long x) => some (pc + n, ls, .long x :: st, h)
    | _ => none
  | .aload_n k => match mm_get ls k with
    | some (.ref x) => some (pc + n, ls, .ref x :: st, h)
    | some .null => some (pc + n, ls, .null :: st, h)
    | _ => none
  | .aload k => match mm_get ls k with
    | some (.ref x) => some (pc + n, ls, .ref x :: st, h)
    | some .null => some (pc + n, ls, .null :: st, h)
    | _ => none
  | .istore_n k => match st with
    | .int x :: r => match mm_put ls k (.int x) with
      | some l => some (pc + n, l, r, h)
      | none => none
    | _ => none
  | .istore k => match st with
    | .int x :: r => match mm_put ls k (.int x) with
      | some l => some (pc + n, l, r, h)
      | none => none
    | _ => none
  | .astore_n k => match st with
    | .ref x :: r => match mm_put ls k (.ref x) with
      | some l => some (pc + n, l, r, h)
      | none => none
    | .null :: r => match mm_put ls k .null with
      | some l => some (pc + n, l, r, h)
      | none => none
    | _ => none
  | .astore k => match st with
    | .ref x :: r => match mm_put ls k (.ref x) with
      | some l => some (pc + n, l, r, h)
      | none => none
    | .null :: r => match mm_put ls k .null with
      | some l => some (pc + n, l, r, h)
      | none => none
    | _ => none
  | .iinc k v => match mm_get ls k with
    | some (.int x) => match mm_put ls k (.int (x + Int32.ofInt v)) with
      | some l => some (pc + n, l, st, h)
      | none => none
    | _ => none
  | .dup => match st with
    | .int x :: r => some (pc + n, ls, .int x :: .int x :: r, h)
    | .ref x :: r => some (pc + n, ls, .ref x :: .ref x :: r, h)
    | _ => none
  | .dup2 => match st with
    | .int x :: .ref y :: r => some (pc + n, ls, .int x :: .ref y :: .int x :: .ref y :: r, h)
    | _ => none
  | .dup_x1 => match st with
    | .int x :: .ref y :: r => some (pc + n, ls, .int x :: .ref y :: .int x :: r, h)
    | _ => none
  | .pop => match st with
    | .int _ :: r => some (pc + n, ls, r, h)
    | _ => none
  | _ => none
/-- arithmetic -/
def mm_x2 (i : Instr) (n pc : Nat) (ls : mm_L) (st : List Value) (h : mm_H) : Option mm_S := match i with
  | .iadd => match st with
    | .int y :: .int x :: r => some (pc + n, ls, .int (x + y) :: r, h)
    | _ => none
  | .isub => match st with
    | .int y :: .int x :: r => some (pc + n, ls, .int (x - y) :: r, h)
    | _ => none
  | .imul => match st with
    | .int y :: .int x :: r => some (pc + n, ls, .int (x * y) :: r, h)
    | _ => none
  | .idiv => match st with
    | .int y :: .int x :: r => if y = 0 then none else some (pc + n, ls, .int (x / y) :: r, h)
    | _ => none
  | .irem => match st with
    | .int y :: .int x :: r => if y = 0 then none else some (pc + n, ls, .int (mm_rem x y) :: r, h)
    | _ => none
  | .iand => match st with
    | .int y :: .int x :: r => some (pc + n, ls, .int (x &&& y) :: r, h)
    | _ => none
  | .ior => match st with
    | .int y :: .int x :: r => some (pc + n, ls, .int (x ||| y) :: r, h)
    | _ => none
  | .ixor => match st with
    | .int y :: .int x :: r => some (pc + n, ls, .int (x ^^^ y) :: r, h)
    | _ => none
  | .ishl => match st with
    | .int y :: .int x :: r => some (pc + n, ls, .int (mm_shl x y) :: r, h)
    | _ => none
  | .ishr => match st with
    | .int y :: .int x :: r => some (pc + n, ls, .int (mm_shr x y) :: r, h)
    | _ => none
  | .iushr => match st with
    | .int y :: .int x :: r => some (pc + n, ls, .int (mm_ushr x y) :: r, h)
    | _ => none
  | .land => match st with
    | .long y :: .long x :: r => some (pc + n, ls, .long (x &&& y) :: r, h)
    | _ => none
  | .lor => match st with
    | .long y :: .long x :: r => some (pc + n, ls, .long (x ||| y) :: r, h)
    | _ => none
  | .lshl => match st with
    | .int y :: .long x :: r => some (pc + n, ls, .long (mm_lshl x y) :: r, h)
    | _ => none
  | .lcmp => match st with
    | .long y :: .long x :: r => some (pc + n, ls, .int (lg_cmp x y) :: r, h)
    | _ => none
  | .i2l => match st with
    | .int x :: r => some (pc + n, ls, .long x.toInt64 :: r, h)
    | _ => none
  | .l2i => match st with
    | .long x :: r => some (pc + n, ls, .int x.toInt32 :: r, h)
    | _ => none
  | .i2b => match st with
    | .int x :: r => some (pc + n, ls, .int x.toInt8.toInt32 :: r, h)
    | _ => none
  | .i2s => match st with
    | .int x :: r => some (pc + n, ls, .int x.toInt16.toInt32 :: r, h)
    | _ => none
  | _ => none
/-- branches -/
def mm_x3 (i : Instr) (n pc : Nat) (ls : mm_L) (st : List Value) (h : mm_H) : Option mm_S := match i with
  | .goto off => if mm_ok pc off then some (mm_tg pc off, ls, st, h) else none
  | .ifCond c off => match st with
    | .int x :: r => if mm_ok pc off then some (if mm_cmp c x 0 then mm_tg pc off else pc + n, ls, r, h) else none
    | _ => none
  | .if_icmp c off => match st with
    | .int y :: .int x :: r => if mm_ok pc off then some (if mm_cmp c x y then mm_tg pc off else pc + n, ls, r, h) else none
    | _ => none
  | .ifnull off => match st with
    | .null :: r => if mm_ok pc off then some (mm_tg pc off, ls, r, h) else none
    | .ref _ :: r => some (pc + n, ls, r, h)
    | _ => none
  | .ifnonnull off => match st with
    | .ref _ :: r => if mm_ok pc off then some (mm_tg pc off, ls, r, h) else none
    | .null :: r => some (pc + n, ls, r, h)
    | _ => none
  | .tableswitch dflt lo hi offs => match st with
    | .int x :: r => if x.toInt < lo ∨ hi < x.toInt then (if mm_ok pc dflt then some (mm_tg pc dflt, ls, r, h) else none) else match offs[(x.toInt - lo).toNat]? with
      | some off => if mm_ok pc off then some (mm_tg pc off, ls, r, h) else none
      | none => none
    | _ => none
  | .lookupswitch dflt ps => match st with
    | .int x :: r => if (ps.toList.zip (ps.toList.drop 1)).all (fun (a, next) => a.1 < next.1) ∧ mm_ok pc (Op.lookupswitch.offset ps.toList dflt x.toInt) then some (mm_tg pc (Op.lookupswitch.offset ps.toList dflt x.toInt), ls, r, h) else none
    | _ => none
  | _ => none
/-- a place of a cell of that kind: its length -/
def mm_in1 (h : mm_H) (a t : Nat) (j : Int32) : Bool := match h.1[a]? with
  | some (t', n) => t' == t && !(decide (j < 0 ∨ n ≤ j.toNatClampNeg))
  | none => false
/-- reads of the heap -/
def mm_x4 (o : Nat) (i : Instr) (n pc : Nat) (ls : mm_L) (st : List Value) (h : mm_H) : Option mm_S := match i with
  | .getfield j => match mm_lf o j, st with
    | some (c, k), .ref a :: r => match h.1[a]? with
      | some (c', _) => if c' = c then (if mm_fk c k = 2 then some (pc + n, ls, va_rf (h.2.1 a k) :: r, h) else if mm_fk c k = 9 then none else some (pc + n, ls, .int (h.2.2.1 a k) :: r, h)) else none
      | none => none
    | _, _ => none
  | .arraylength => match st with
    | .ref a :: r => match h.1[a]? with
      | some (t, m) => if 100 ≤ t ∧ t ≤ 108 then some (pc + n, ls, .int (Int32.ofNat m) :: r, h) else none
      | none => none
    | _ => none
  | .iaload => match st with
    | .int j :: .ref a :: r => if mm_in1 h a 100 j then some (pc + n, ls, .int (h.2.2.1 a j.toNatClampNeg) :: r, h) else none
    | _ => none
  | .baload => match st with
    | .int j :: .ref a :: r => if mm_in1 h a 101 j then some (pc + n, ls, .int (h.2.2.1 a j.toNatClampNeg) :: r, h) else none
    | _ => none
  | .laload => match st with
    | .int j :: .ref a :: r => if mm_in1 h a 102 j then some (pc + n, ls, .long (h.2.2.2 a j.toNatClampNeg) :: r, h) else none
    | _ => none
  | .aaload => match st with
    | .int j :: .ref a :: r => match h.1[a]? with
      | some (t, m) => if 103 ≤ t ∧ t ≤ 108 ∧ ¬ (j < 0 ∨ m ≤ j.toNatClampNeg) then some (pc + n, ls, va_rf (h.2.1 a j.toNatClampNeg) :: r, h) else none
      | none => none
    | _ => none
  | _ => none
/-- writes; k is the method, which may set final fields of its class if it is a constructor -/
def mm_x5 (k : Nat) (i : Instr) (n pc : Nat) (ls : mm_L) (st : List Value) (h : mm_H) : Option mm_S := match i with
  | .putfield j => match mm_lf (mm_o k) j, st with
    | some (c, f), .int x :: .ref a :: r => match h.1[a]? with
      | some (c', _) => if c' = c ∧ (mm_fk c f = 0 ∨ mm_fk c f = 1 ∧ (x = 0 ∨ x = 1)) ∧ mm_ff c f = false then some (pc + n, ls, r, (h.1, h.2.1, mm_u2 h.2.2.1 a f x, h.2.2.2)) else none
      | none => none
    | some (c, f), .ref x :: .ref a :: r => match h.1[a]? with
      | some (c', _) => if c' = c ∧ mm_fk c f = 2 ∧ mm_ff c f = true ∧ mm_o k = c ∧ mm_kd k = 2 then some (pc + n, ls, r, (h.1, mm_u2 h.2.1 a f (some x), h.2.2.1, h.2.2.2)) else none
      | none => none
    | _, _ => none
  | .iastore => match st with
    | .int x :: .int j :: .ref a :: r => if mm_in1 h a 100 j ∧ a ≠ 0 then some (pc + n, ls, r, (h.1, h.2.1, mm_u2 h.2.2.1 a j.toNatClampNeg x, h.2.2.2)) else none
    | _ => none
  | .bastore => match st with
    | .int x :: .int j :: .ref a :: r => if mm_in1 h a 101 j ∧ a ≠ 0 then some (pc + n, ls, r, (h.1, h.2.1, mm_u2 h.2.2.1 a j.toNatClampNeg (vp_nar .boolean x), h.2.2.2)) else none
    | _ => none
  | .lastore => match st with
    | .long x :: .int j :: .ref a :: r => if mm_in1 h a 102 j ∧ a ≠ 0 then some (pc + n, ls, r, (h.1, h.2.1, h.2.2.1, mm_u2 h.2.2.2 a j.toNatClampNeg x)) else none
    | _ => none
  | .aastore => match st with
    | .ref x :: .int j :: .ref a :: r => match h.1[a]?, h.1[x]? with
      | some (t, m), some (c, _) => if (t = 103 ∧ c = 9 ∨ t = 104 ∧ c = 0 ∨ t = 105 ∧ c = 7) ∧ ¬ (j < 0 ∨ m ≤ j.toNatClampNeg) then some (pc + n, ls, r, (h.1, mm_u2 h.2.1 a j.toNatClampNeg (some x), h.2.2.1, h.2.2.2)) else none
      | _, _ => none
    | _ => none
  | _ => none
def mm_at (a : ArrayType) : Nat := match a with
  | .int => 100
  | .boolean => 101
  | .long => 102
  | _ => 99
def mm_oa (c : Nat) : Nat := if c = 9 then 103 else if c = 0 then 104 else if c = 7 then 105 else 99
/-- a new cell, all of it at first nothing -/
def mm_new (h : mm_H) (t m : Nat) : mm_H := (h.1 ++ [(t, m)], mm_row h.2.1 h.1.length (fun _ => none), mm_row h.2.2.1 h.1.length (fun _ => 0), mm_row h.2.2.2 h.1.length (fun _ => 0))
/-- a new row of m rows of q each, of kind t below kind t + 6 -/
def mm_new2 (h : mm_H) (t m q : Nat) : mm_H := ((h.1 ++ [(t, m)]) ++ List.replicate m (t - 6, q), (fun x j => if x = h.1.length then (if j < m then some (h.1.length + 1 + j) else none) else if h.1.length < x then none else h.2.1 x j), (fun x j => if h.1.length ≤ x then 0 else h.2.2.1 x j), (fun x j => if h.1.length ≤ x then 0 else h.2.2.2 x j))
/-- makings -/
def mm_x6 (o : Nat) (i : Instr) (n pc : Nat) (ls : mm_L) (st : List Value) (h : mm_H) : Option mm_S := match i with
  | .new j => match mm_lc o j with
    | some c => if c < 12 then some (pc + n, ls, .ref h.1.length :: st, mm_new h c (mm_fn c)) else none
    | none => none
  | .newarray t => match st with
    | .int x :: r => if ¬ x < 0 ∧ x.toNatClampNeg ≤ 5000 ∧ mm_at t ≠ 99 then some (pc + n, ls, .ref h.1.length :: r, mm_new h (mm_at t) x.toNatClampNeg) else none
    | _ => none
  | .anewarray j => match mm_lc o j, st with
    | some c, .int x :: r => if ¬ x < 0 ∧ x.toNatClampNeg ≤ 5000 ∧ mm_oa c ≠ 99 then some (pc + n, ls, .ref h.1.length :: r, mm_new h (mm_oa c) x.toNatClampNeg) else none
    | _, _ => none
  | .multianewarray j dm => match mm_lc o j, st with
    | some t, .int y :: .int x :: r => if dm = 2 ∧ 106 ≤ t ∧ t ≤ 108 ∧ ¬ x < 0 ∧ ¬ y < 0 ∧ x.toNatClampNeg ≤ 5000 ∧ y.toNatClampNeg ≤ 5000 then some (pc + n, ls, .ref h.1.length :: r, mm_new2 h t x.toNatClampNeg y.toNatClampNeg) else none
    | _, _ => none
  | _ => none
/-- a call's arguments, in order, and what stays -/
def mm_pop (n : Nat) (st : List Value) : Option (List Value × List Value) := if n ≤ st.length then some ((st.take n).reverse, st.drop n) else none
def mm_copy {α : Type} (f g : Nat → α) (sp dp n : Nat) : Nat → α := va_cpy f g sp dp n
/-- System.arraycopy of ints or longs -/
def mm_ac (n pc : Nat) (ls : mm_L) (st : List Value) (h : mm_H) : Option mm_S := match st with
  | .int q :: .int dp :: .ref a :: .int sp :: .ref b :: r => match h.1[b]?, h.1[a]? with
    | some (t0, n0), some (t1, n1) => if (t0 = 100 ∨ t0 = 102) ∧ t1 = t0 ∧ a ≠ 0 ∧ b ≠ 0 ∧ ¬ sp < 0 ∧ ¬ dp < 0 ∧ ¬ q < 0 ∧ sp.toNatClampNeg + q.toNatClampNeg ≤ n0 ∧ dp.toNatClampNeg + q.toNatClampNeg ≤ n1 ∧ mm_cat r ≤ 8 then
        (if t0 = 100 then some (pc + n, ls, r, (h.1, h.2.1, mm_row h.2.2.1 a (va_cpy (h.2.2.1 b) (h.2.2.1 a) sp.toNatClampNeg dp.toNatClampNeg q.toNatClampNeg), h.2.2.2))
         else some (pc + n, ls, r, (h.1, h.2.1, h.2.2.1, mm_row h.2.2.2 a (va_cpy (h.2.2.2 b) (h.2.2.2 a) sp.toNatClampNeg dp.toNatClampNeg q.toNatClampNeg)))) else none
    | _, _ => none
  | _ => none
abbrev mm_C : Type := Nat → List Value → mm_H → Option (Option Value × mm_H)
/-- behind a call of a method of that answer -/
def mm_bk (n pc : Nat) (ls : mm_L) (r : List Value) (x : Option (Option Value × mm_H)) : Option mm_S := match x with
  | some (v, h) => some (pc + n, ls, v.toList ++ r, h)
  | none => none
def mm_kA (h : mm_H) (a : Nat) : Nat := match h.1[a]? with
  | some (c, _) => c
  | none => 99
/-- calls: d the frames that may still come -/
def mm_x7 (d : Nat) (C : mm_C) (o : Nat) (i : Instr) (n pc : Nat) (ls : mm_L) (st : List Value) (h : mm_H) : Option mm_S := match i with
  | .invokevirtual j => match mm_lm o j with
    | some (k, kd) => if kd = 0 ∧ d ≠ 0 then match mm_pop (mm_np k) st with
        | some (as, .ref a :: r) => if mm_kA h a = mm_o k ∧ mm_kA h a < 12 ∧ mm_cat r ≤ 8 then mm_bk n pc ls r (C k (.ref a :: as) h) else none
        | _ => none
      else none
    | none => none
  | .invokestatic j => match mm_lm o j with
    | some (k, kd) => if d ≠ 0 then (if kd = 1 ∨ kd = 3 then match mm_pop (mm_np k) st with
        | some (as, r) => if mm_cat r ≤ 8 then mm_bk n pc ls r (C k as h) else none
        | _ => none
      else if kd = 4 then mm_ac n pc ls st h
      else if kd = 6 then match st with
        | .int y :: .int x :: r => if mm_cat r ≤ 8 then some (pc + n, ls, .int (if x < y then y else x) :: r, h) else none
        | _ => none
      else if kd = 7 then match st with
        | .int y :: .int x :: r => if mm_cat r ≤ 8 then some (pc + n, ls, .int (if y < x then y else x) :: r, h) else none
        | _ => none
      else none) else none
    | none => none
  | .invokespecial j => match mm_lm o j with
    | some (k, kd) => if d ≠ 0 then (if kd = 2 then match mm_pop (mm_np k) st with
        | some (as, .ref a :: r) => if mm_cat r ≤ 8 then mm_bk n pc ls r (C k (.ref a :: as) h) else none
        | _ => none
      else if kd = 5 then match st with
        | .ref _ :: r => if mm_cat r ≤ 8 then some (pc + n, ls, r, h) else none
        | _ => none
      else none) else none
    | none => none
  | _ => none
/-- the length that the rows ask for -/
def mm_ln (i : Instr) (n : Nat) : Bool := match i with
  | .bipush _ | .ldc _ | .iload _ | .lload _ | .aload _ | .istore _ | .astore _ | .newarray _ => n == 2
  | .sipush _ | .ldc_w _ | .ldc2_w _ | .iinc _ _ | .goto _ | .ifCond _ _ | .if_icmp _ _ | .ifnull _ | .ifnonnull _ | .getfield _ | .putfield _ | .new _ | .anewarray _ | .invokevirtual _ | .invokestatic _ | .invokespecial _ => n == 3
  | .multianewarray _ _ => n == 4
  | .tableswitch _ _ _ _ | .lookupswitch _ _ => true
  | _ => n == 1
/-- an answer: of which kind the method is -/
def mm_rt1 (k : Nat) (i : Instr) (st : List Value) : Option (Option Value) := match i with
  | .return_ => match st with
    | [] => if mm_rt k = none then some none else none
    | _ => none
  | .ireturn => match st with
    | [.int x] => if mm_rt k = some .int ∨ mm_rt k = some .boolean ∧ (x = 0 ∨ x = 1) then some (some (.int x)) else none
    | _ => none
  | .lreturn => match st with
    | [.long x] => if mm_rt k = some .long then some (some (.long x)) else none
    | _ => none
  | .areturn => match st with
    | [.ref x] => match mm_rt k with
      | some (.object _) => some (some (.ref x))
      | _ => none
    | [.null] => match mm_rt k with
      | some (.object _) => some (some .null)
      | _ => none
    | _ => none
  | _ => none
def mm_or {α : Type} (a : Option α) (b : Option α) : Option α := match a with
  | some x => some x
  | none => b
/-- one instruction of method k -/
def mm_x (d : Nat) (C : mm_C) (k : Nat) (i : Instr) (n pc : Nat) (ls : mm_L) (st : List Value) (h : mm_H) : Option mm_S :=
  mm_or (mm_x1 (mm_o k) i n pc ls st h) (mm_or (mm_x2 i n pc ls st h) (mm_or (mm_x3 i n pc ls st h) (mm_or (mm_x4 (mm_o k) i n pc ls st h) (mm_or (mm_x5 k i n pc ls st h) (mm_or (mm_x6 (mm_o k) i n pc ls st h) (mm_x7 d C (mm_o k) i n pc ls st h))))))
def mm_sl (M : List (Nat × Nat)) : Nat := (M.map (fun q => q.2)).sum
def mm_run (d : Nat) (C : mm_C) (k : Nat) : Nat → Nat → mm_L → List Value → mm_H → Option (Option Value × mm_H)
  | 0, _, _, _, _ => none
  | f + 1, pc, ls, st, h => match decode (mm_b k) pc with
    | .ok (i, n) => if mm_ln i n then match mm_rt1 k i st with
        | some r => some (r, h)
        | none => match mm_x d C k i n pc ls st h with
          | some (pc', ls', st', h') => if h.1.length ≤ h'.1.length ∧ mm_sl h.1 ≤ mm_sl h'.1 then mm_run d C k f pc' ls' st' h' else none
          | none => none
      else none
    | .error _ => none
def mm_ex : List Value → mm_L
  | [] => []
  | .long x :: t => some (.long x) :: none :: mm_ex t
  | .double x :: t => some (.double x) :: none :: mm_ex t
  | v :: t => some v :: mm_ex t
def mm_pad : Nat → mm_L → mm_L
  | 0, _ => []
  | n + 1, [] => none :: mm_pad n []
  | n + 1, a :: t => a :: mm_pad n t
def mm_call : Nat → Nat → mm_C
  | 0, _, _, _, _ => none
  | d + 1, f, k, as, h => if (mm_ex as).length ≤ mm_nL k ∧ mm_kd k < 3 ∧ k < 232 then mm_run d (mm_call d f) k f 0 (mm_pad (mm_nL k) (mm_ex as)) [] h else none
