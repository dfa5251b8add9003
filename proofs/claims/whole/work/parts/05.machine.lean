/-! the small machine's steps -/
def mm_find : List (Nat × Instr × Nat) → Nat → Option Instr
  | [], _ => none
  | e :: t, pc => bif Nat.beq e.1 pc then some e.2.1 else mm_find t pc
def mm_find2 : List (Nat × Nat) → Nat → Option Nat
  | [], _ => none
  | e :: t, k => bif Nat.beq e.1 k then some e.2 else mm_find2 t k
def mm_find4 : List (Nat × Nat × Nat × Nat) → Nat → Option (Nat × Nat × Nat)
  | [], _ => none
  | e :: t, k => bif Nat.beq e.1 k then some e.2 else mm_find4 t k
/-- the constants of the pools -/
def mm_cl (o k : Nat) : Option Int64 :=
  bif (Nat.beq o 2 || Nat.beq o 5) && Nat.beq k 63 then some (-1)
  else bif Nat.beq o 10 then (bif Nat.beq k 314 then some 6148914691236517205 else bif Nat.beq k 316 then some 3689348814741910323 else bif Nat.beq k 318 then some 1085102592571150095 else none)
  else bif (Nat.beq o 6 && Nat.beq k 160) || (Nat.beq o 7 && Nat.beq k 60) then some (-9223372036854775808) else none
def mm_ci (k : Nat) : Option Int32 :=
  bif Nat.beq k 265 then some 1431655765 else bif Nat.beq k 266 then some 858993459 else bif Nat.beq k 267 then some 252645135 else none
def mm_st1 (L : mm_L) (i : Nat) (v : Value) : mm_L :=
  (match i with
    | 0 => L
    | j + 1 => match L[j]? with
      | some (some w) => bif Nat.beq w.category 2 then L.set j none else L
      | _ => L).set i (some v)
def mm_st2 (L : mm_L) (i : Nat) (v : Value) : mm_L := (mm_st1 L i v).set (i + 1) none
def mm_sz (S : List Value) : Nat := (S.map fun v => v.category).sum
def mx_1i (S : List Value) (f : Int32 → List Value → Option mm_F) : Option mm_F := match S with
  | .int x :: S => f x S
  | _ => none
def mx_2i (S : List Value) (f : Int32 → Int32 → List Value → Option mm_F) : Option mm_F := match S with
  | .int y :: .int x :: S => f x y S
  | _ => none
def mx_1l (S : List Value) (f : Int64 → List Value → Option mm_F) : Option mm_F := match S with
  | .long x :: S => f x S
  | _ => none
def mx_2l (S : List Value) (f : Int64 → Int64 → List Value → Option mm_F) : Option mm_F := match S with
  | .long y :: .long x :: S => f x y S
  | _ => none
def mx_il (S : List Value) (f : Int64 → Int32 → List Value → Option mm_F) : Option mm_F := match S with
  | .int y :: .long x :: S => f x y S
  | _ => none
def mx_1r (S : List Value) (f : Nat → List Value → Option mm_F) : Option mm_F := match S with
  | .ref q :: S => f q S
  | _ => none
def mx_ri (S : List Value) (f : Nat → Int32 → List Value → Option mm_F) : Option mm_F := match S with
  | .int i :: .ref q :: S => f q i S
  | _ => none
def mx_rii (S : List Value) (f : Nat → Int32 → Int32 → List Value → Option mm_F) : Option mm_F := match S with
  | .int x :: .int i :: .ref q :: S => f q i x S
  | _ => none
def mx_ril (S : List Value) (f : Nat → Int32 → Int64 → List Value → Option mm_F) : Option mm_F := match S with
  | .long x :: .int i :: .ref q :: S => f q i x S
  | _ => none
/-- a local variable -/
def mx_ldi (L : mm_L) (i : Nat) (f : Int32 → Option mm_F) : Option mm_F := match L[i]? with
  | some (some (.int x)) => f x
  | _ => none
def mx_ldl (L : mm_L) (i : Nat) (f : Int64 → Option mm_F) : Option mm_F := match L[i]? with
  | some (some (.long x)) => f x
  | _ => none
def mx_lda (L : mm_L) (i : Nat) (f : Nat → Option mm_F) : Option mm_F := match L[i]? with
  | some (some (.ref x)) => f x
  | _ => none
/-- a jump's target -/
def mx_to (pc : Nat) (off : Int) (f : Nat → Option mm_F) : Option mm_F := match (pc : Int) + off with
  | .ofNat t => f t
  | _ => none
/-- arrays: of ints, of longs, of booleans, of references -/
def mx_ai (h : mm_H) (q : Nat) (f : Nat → (Nat → Int32) → Option mm_F) : Option mm_F := match h[q]? with
  | some (.inl (0, n, .inl g)) => f n g
  | _ => none
def mx_al (h : mm_H) (q : Nat) (f : Nat → (Nat → Int64) → Option mm_F) : Option mm_F := match h[q]? with
  | some (.inl (1, n, .inr (.inl g))) => f n g
  | _ => none
def mx_ab (h : mm_H) (q : Nat) (f : Nat → (Nat → Int32) → Option mm_F) : Option mm_F := match h[q]? with
  | some (.inl (2, n, .inl g)) => f n g
  | _ => none
def mx_ar (h : mm_H) (q : Nat) (f : Nat → (Nat → Option Nat) → Option mm_F) : Option mm_F := match h[q]? with
  | some (.inl (3, n, .inr (.inr (.inr (.inr g))))) => f n g
  | _ => none
def mx_an (h : mm_H) (q : Nat) (f : Nat → Option mm_F) : Option mm_F := match h[q]? with
  | some (.inl (_, n, _)) => f n
  | _ => none
/-- an object of a class -/
def mx_ob (h : mm_H) (q ci : Nat) (f : List Value → Option mm_F) : Option mm_F := match h[q]? with
  | some (.inr (c, fs)) => bif Nat.beq c ci then f fs else none
  | _ => none
def mm_cond (c : ClassFile.Cond) (x y : Int32) : Bool := match c with
  | .eq => decide (x = y)
  | .ne => !decide (x = y)
  | .lt => decide (x < y)
  | .ge => decide (y ≤ x)
  | .gt => decide (y < x)
  | .le => decide (x ≤ y)
/-- one instruction that neither calls nor returns -/
def mm_x (o : Nat) (i : Instr) (pc : Nat) (L : mm_L) (S : List Value) (h : mm_H) : Option mm_F := match i with
  | .iconst n => some (pc + 1, L, .int (Int32.ofInt n) :: S, h)
  | .bipush n => some (pc + 2, L, .int (Int8.ofInt n).toInt32 :: S, h)
  | .sipush n => some (pc + 3, L, .int (Int16.ofInt n).toInt32 :: S, h)
  | .lconst n => some (pc + 1, L, .long (Int64.ofNat n.val) :: S, h)
  | .ldc_w k => bif Nat.beq o 9 then (match mm_ci k with | some v => some (pc + 3, L, .int v :: S, h) | none => none) else none
  | .ldc2_w k => match mm_cl o k with | some v => some (pc + 3, L, .long v :: S, h) | none => none
  | .iload_n k => mx_ldi L k.val fun x => some (pc + 1, L, .int x :: S, h)
  | .iload k => mx_ldi L k fun x => some (pc + 2, L, .int x :: S, h)
  | .lload_n k => mx_ldl L k.val fun x => some (pc + 1, L, .long x :: S, h)
  | .lload k => mx_ldl L k fun x => some (pc + 2, L, .long x :: S, h)
  | .aload_n k => mx_lda L k.val fun x => some (pc + 1, L, .ref x :: S, h)
  | .aload k => mx_lda L k fun x => some (pc + 2, L, .ref x :: S, h)
  | .istore_n k => mx_1i S fun x S => bif Nat.blt k.val L.length then some (pc + 1, mm_st1 L k.val (.int x), S, h) else none
  | .istore k => mx_1i S fun x S => bif Nat.blt k L.length then some (pc + 2, mm_st1 L k (.int x), S, h) else none
  | .lstore_n k => mx_1l S fun x S => bif Nat.blt (k.val + 1) L.length then some (pc + 1, mm_st2 L k.val (.long x), S, h) else none
  | .lstore k => mx_1l S fun x S => bif Nat.blt (k + 1) L.length then some (pc + 2, mm_st2 L k (.long x), S, h) else none
  | .astore_n k => mx_1r S fun x S => bif Nat.blt k.val L.length then some (pc + 1, mm_st1 L k.val (.ref x), S, h) else none
  | .astore k => mx_1r S fun x S => bif Nat.blt k L.length then some (pc + 2, mm_st1 L k (.ref x), S, h) else none
  | .iinc k n => mx_ldi L k fun x => bif Nat.blt k L.length then some (pc + 3, mm_st1 L k (.int (x + Int32.ofInt n)), S, h) else none
  | .iadd => mx_2i S fun x y S => some (pc + 1, L, .int (x + y) :: S, h)
  | .isub => mx_2i S fun x y S => some (pc + 1, L, .int (x - y) :: S, h)
  | .imul => mx_2i S fun x y S => some (pc + 1, L, .int (x * y) :: S, h)
  | .iand => mx_2i S fun x y S => some (pc + 1, L, .int (x &&& y) :: S, h)
  | .ior => mx_2i S fun x y S => some (pc + 1, L, .int (x ||| y) :: S, h)
  | .ixor => mx_2i S fun x y S => some (pc + 1, L, .int (x ^^^ y) :: S, h)
  | .ishl => mx_2i S fun x y S => some (pc + 1, L, .int (x <<< (y &&& 31)) :: S, h)
  | .ishr => mx_2i S fun x y S => some (pc + 1, L, .int (x >>> (y &&& 31)) :: S, h)
  | .iushr => mx_2i S fun x y S => some (pc + 1, L, .int (x.toUInt32 >>> (y.toUInt32 &&& Int32.toUInt32 31)).toInt32 :: S, h)
  | .idiv => mx_2i S fun x y S => if y = 0 then none else some (pc + 1, L, .int (x / y) :: S, h)
  | .irem => mx_2i S fun x y S => if y = 0 then none else some (pc + 1, L, .int (x - x / y * y) :: S, h)
  | .ineg => mx_1i S fun x S => some (pc + 1, L, .int (-x) :: S, h)
  | .ladd => mx_2l S fun x y S => some (pc + 1, L, .long (x + y) :: S, h)
  | .lsub => mx_2l S fun x y S => some (pc + 1, L, .long (x - y) :: S, h)
  | .land => mx_2l S fun x y S => some (pc + 1, L, .long (x &&& y) :: S, h)
  | .lor => mx_2l S fun x y S => some (pc + 1, L, .long (x ||| y) :: S, h)
  | .lxor => mx_2l S fun x y S => some (pc + 1, L, .long (x ^^^ y) :: S, h)
  | .lneg => mx_1l S fun x S => some (pc + 1, L, .long (-x) :: S, h)
  | .lshl => mx_il S fun x y S => some (pc + 1, L, .long (x <<< (y.toInt64 &&& 63)) :: S, h)
  | .lushr => mx_il S fun x y S => some (pc + 1, L, .long (x.toUInt64 >>> (y.toInt64.toUInt64 &&& Int64.toUInt64 63)).toInt64 :: S, h)
  | .lcmp => mx_2l S fun x y S => some (pc + 1, L, .int (lg_cmp x y) :: S, h)
  | .i2l => mx_1i S fun x S => some (pc + 1, L, .long x.toInt64 :: S, h)
  | .l2i => mx_1l S fun x S => some (pc + 1, L, .int x.toInt32 :: S, h)
  | .i2b => mx_1i S fun x S => some (pc + 1, L, .int x.toInt8.toInt32 :: S, h)
  | .i2s => mx_1i S fun x S => some (pc + 1, L, .int x.toInt16.toInt32 :: S, h)
  | .dup => match S with
    | v :: S => bif Nat.beq v.category 1 then some (pc + 1, L, v :: v :: S, h) else none
    | _ => none
  | .dup2 => match S with
    | v :: w :: S => bif Nat.beq v.category 1 && Nat.beq w.category 1 then some (pc + 1, L, v :: w :: v :: w :: S, h) else none
    | _ => none
  | .goto d => mx_to pc d fun t => some (t, L, S, h)
  | .ifCond c d => mx_1i S fun x S => mx_to pc d fun t => some (bif mm_cond c x 0 then t else pc + 3, L, S, h)
  | .if_icmp c d => mx_2i S fun x y S => mx_to pc d fun t => some (bif mm_cond c x y then t else pc + 3, L, S, h)
  | .tableswitch d lo hi offs => mx_1i S fun x S =>
      if x.toInt < lo ∨ hi < x.toInt then mx_to pc d fun t => some (t, L, S, h)
      else match offs[(x.toInt - lo).toNat]? with
        | some off => mx_to pc off fun t => some (t, L, S, h)
        | none => none
  | .lookupswitch d ps => mx_1i S fun x S =>
      bif (ps.toList.zip (ps.toList.drop 1)).all (fun (a, next) => a.1 < next.1) then mx_to pc (Op.lookupswitch.offset ps.toList d x.toInt) fun t => some (t, L, S, h) else none
  | .getfield k => mx_1r S fun q S => match mm_find4 (mm_fT o) k with
    | some (ci, j, _) => mx_ob h q ci fun fs => match fs[j]? with
      | some v => some (pc + 3, L, v :: S, h)
      | none => none
    | none => none
  | .putfield k => match mm_find4 (mm_fT o) k with
    | some (ci, j, tt) => match S with
      | .int x :: .ref q :: S => mx_ob h q ci fun fs => bif Nat.blt j fs.length then (bif Nat.beq tt 1 then some (pc + 3, L, S, h.set q (.inr (ci, fs.set j (.int x)))) else bif Nat.beq tt 3 then (if x = 0 ∨ x = 1 then some (pc + 3, L, S, h.set q (.inr (ci, fs.set j (.int x)))) else none) else none) else none
      | .long x :: .ref q :: S => mx_ob h q ci fun fs => bif Nat.blt j fs.length && Nat.beq tt 2 then some (pc + 3, L, S, h.set q (.inr (ci, fs.set j (.long x)))) else none
      | _ => none
    | none => none
  | .getstatic k => bif (Nat.beq o 0 && Nat.beq k 25) || (Nat.beq o 6 && Nat.beq k 255) then some (pc + 3, L, .ref 0 :: S, h) else none
  | .iaload => mx_ri S fun q i S => mx_ai h q fun n g => if i < 0 ∨ n ≤ i.toNatClampNeg then none else some (pc + 1, L, .int (g i.toNatClampNeg) :: S, h)
  | .laload => mx_ri S fun q i S => mx_al h q fun n g => if i < 0 ∨ n ≤ i.toNatClampNeg then none else some (pc + 1, L, .long (g i.toNatClampNeg) :: S, h)
  | .baload => mx_ri S fun q i S => mx_ab h q fun n g => if i < 0 ∨ n ≤ i.toNatClampNeg then none else some (pc + 1, L, .int (g i.toNatClampNeg) :: S, h)
  | .aaload => mx_ri S fun q i S => mx_ar h q fun n g => if i < 0 ∨ n ≤ i.toNatClampNeg then none else match g i.toNatClampNeg with
    | some p => some (pc + 1, L, .ref p :: S, h)
    | none => none
  | .iastore => mx_rii S fun q i x S => mx_ai h q fun n g => if i < 0 ∨ n ≤ i.toNatClampNeg then none else bif Nat.blt 1 q then some (pc + 1, L, S, h.set q (.inl (0, n, .inl (upd g i.toNatClampNeg x)))) else none
  | .lastore => mx_ril S fun q i x S => mx_al h q fun n g => if i < 0 ∨ n ≤ i.toNatClampNeg then none else bif Nat.blt 1 q then some (pc + 1, L, S, h.set q (.inl (1, n, .inr (.inl (vp_updL g i.toNatClampNeg x))))) else none
  | .bastore => mx_rii S fun q i x S => mx_ab h q fun n g => if i < 0 ∨ n ≤ i.toNatClampNeg then none else if x = 0 ∨ x = 1 then (bif Nat.blt 1 q then some (pc + 1, L, S, h.set q (.inl (2, n, .inl (upd g i.toNatClampNeg x)))) else none) else none
  | .arraylength => mx_1r S fun q S => mx_an h q fun n => some (pc + 1, L, .int (Int32.ofNat n) :: S, h)
  | .invokestatic k => match mm_find2 (mm_sT o) k with
    | some z =>
      bif Nat.beq z 1000 then mx_2i S fun x y S => bif Nat.ble (mm_sz S) 8 then some (pc + 3, L, .int (if x < y then y else x) :: S, h) else none
      else bif Nat.beq z 1001 then mx_2i S fun x y S => bif Nat.ble (mm_sz S) 8 then some (pc + 3, L, .int (if y < x then y else x) :: S, h) else none
      else bif Nat.beq z 1002 then mx_1i S fun x S => bif Nat.ble (mm_sz S) 8 then some (pc + 3, L, .int (if 0 ≤ x then x else 0 - x) :: S, h) else none
      else bif Nat.beq z 1003 then (match S with
        | .int n :: .int dp :: .ref q1 :: .int sp :: .ref q0 :: S => mx_ai h q0 fun n0 f => mx_ai h q1 fun n1 g =>
          if sp < 0 ∨ dp < 0 ∨ n < 0 ∨ n0 < sp.toNatClampNeg + n.toNatClampNeg ∨ n1 < dp.toNatClampNeg + n.toNatClampNeg then none
          else bif Nat.ble (mm_sz S) 8 && (Nat.blt 1 q0 && Nat.blt 1 q1) then some (pc + 3, L, S, h.set q1 (.inl (0, n1, .inl (va_cpy f g sp.toNatClampNeg dp.toNatClampNeg n.toNatClampNeg)))) else none
        | _ => none)
      else none
    | none => none
  | _ => none
/-- what an instruction returns -/
def mm_ret (rt : Option FieldType) (i : Instr) (S : List Value) : Option (Option Value) := match i with
  | .ireturn => match S, rt with
    | [.int v], some .int => some (some (.int v))
    | [.int v], some .boolean => if v = 0 ∨ v = 1 then some (some (.int v)) else none
    | _, _ => none
  | .lreturn => match S, rt with
    | [.long v], some .long => some (some (.long v))
    | _, _ => none
  | .return_ => match S, rt with
    | [], none => some none
    | _, _ => none
  | _ => none
/-- the static calls of a nest mate's private method -/
def mm_nest (o k : Nat) : Bool := (Nat.beq o 1 && Nat.beq k 49) || (Nat.beq o 5 && Nat.beq k 65)
/-- what an instruction calls, with which arguments, and what stays on the stack -/
def mm_call (o : Nat) (i : Instr) (S : List Value) (h : mm_H) : Option (Nat × List Value × List Value) := match i with
  | .invokevirtual k => match mm_find2 (mm_vT o) k with
    | some z => match S.drop (mm_M z).2.2.2.2.2.1 with
      | .ref q :: S' => match h[q]? with
        | some (.inr (c, _)) => bif Nat.beq c (mm_M z).2.2.2.2.2.2 && Nat.ble (mm_sz S') 8 then some (z, .ref q :: (S.take (mm_M z).2.2.2.2.2.1).reverse, S') else none
        | _ => none
      | _ => none
    | none => none
  | .invokestatic k => bif mm_nest o k then (match S with
      | .long x :: S' => bif Nat.ble (mm_sz S') 8 then some (i_X6_lowestBit, [.long x], S') else none
      | _ => none)
    else match mm_find2 (mm_sT o) k with
    | some z => bif Nat.blt z 1000 && (Nat.ble (mm_M z).2.2.2.2.2.1 S.length && Nat.ble (mm_sz (S.drop (mm_M z).2.2.2.2.2.1)) 8) then some (z, (S.take (mm_M z).2.2.2.2.2.1).reverse, S.drop (mm_M z).2.2.2.2.2.1) else none
    | none => none
  | _ => none
def mm_lay : List Value → mm_L
  | [] => []
  | v :: t => bif Nat.beq v.category 2 then some v :: none :: mm_lay t else some v :: mm_lay t
/-- the locals with which a method begins -/
def mm_ent (n : Nat) (as : List Value) : mm_L := mm_lay as ++ List.replicate (n - (mm_lay as).length) none
/-- n: how far at most; d: how deep at most -/
def mm_run : Nat → Nat → Nat → mm_F → Option (Option Value × mm_H)
  | 0, _, _, _ => none
  | n + 1, d, y, (pc, L, S, h) => match mm_find (mm_M y).1 pc with
    | none => none
    | some i => match mm_ret (mm_M y).2.2.2.2.1 i S with
      | some r => some (r, h)
      | none => match mm_call (mm_M y).2.2.2.2.2.2 i S h with
        | some (z, as, S') => (match d with
          | 0 => none
          | d + 1 => bif Nat.ble (mm_lay as).length (mm_M z).2.2.2.1 then (match mm_run n d z (0, mm_ent (mm_M z).2.2.2.1 as, [], h) with
            | none => none
            | some (r, h') => mm_run n (d + 1) y (pc + 3, L, r.toList ++ S', h')) else none)
        | none => match mm_x (mm_M y).2.2.2.2.2.2 i pc L S h with
          | none => none
          | some F => mm_run n d y F
def mm_Runs (d y : Nat) (F : mm_F) (r : Option Value × mm_H) : Prop := ∃ n, mm_run n d y F = some r
