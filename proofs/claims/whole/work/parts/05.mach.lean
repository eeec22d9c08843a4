/-! THE PURE MACHINE: the bytecode that these classes use, over a pure world: shapes of the cells (kind, length), and what they hold as functions of (cell, place): ints, longs, references. A reference is a place in the list of shapes; the first seven are arrays that nobody writes (the script, six static tables). Kinds: 0 int[], 1 boolean[], 2 long[], 3 Shelf[], 4 int[] only read, 5 long[] only read, 10 + c an object of class c. -/
abbrev mm_W : Type := List (Nat × Nat) × (Nat → Nat → Int32) × (Nat → Nat → Int64) × (Nat → Nat → Option Nat)
abbrev mm_L : Type := List (Option Value)
def mm_nth : List (Nat × Nat) → Nat → Nat × Nat
  | [], _ => (99, 0)
  | a :: _, 0 => a
  | _ :: l, n + 1 => mm_nth l n
def mm_get : mm_L → Nat → Option Value
  | [], _ => none
  | a :: _, 0 => a
  | _ :: l, n + 1 => mm_get l n
def mm_clr (L : mm_L) (i : Nat) : mm_L := match i with
  | 0 => L
  | j + 1 => match mm_get L j with
    | some v => cond (Nat.beq v.category 2) (L.set j none) L
    | none => L
def mm_set1 (L : mm_L) (i : Nat) (v : Value) : Option mm_L := cond (Nat.blt i L.length) (some ((mm_clr L i).set i (some v))) none
def mm_set2 (L : mm_L) (i : Nat) (v : Value) : Option mm_L := cond (Nat.blt (i + 1) L.length) (some (((mm_clr L i).set i (some v)).set (i + 1) none)) none
/-- one cell's contents exchanged -/
def mm_uc {α : Type} (I : Nat → Nat → α) (o : Nat) (f : Nat → α) : Nat → Nat → α := fun a => if a = o then f else I a
theorem mm_uc_self {α : Type} (I : Nat → Nat → α) (o : Nat) (f : Nat → α) : mm_uc I o f o = f := if_pos rfl
theorem mm_uc_ne {α : Type} (I : Nat → Nat → α) {o a : Nat} (f : Nat → α) (h : a ≠ o) : mm_uc I o f a = I a := if_neg h
/-- what a field holds -/
def mm_fa (w : mm_W) (k ci j : Nat) : Value := match mm_ty ci j with
  | .int => .int (w.2.1 k j)
  | .boolean => .int (w.2.1 k j)
  | .long => .long (w.2.2.1 k j)
  | _ => va_rf (w.2.2.2 k j)
def mm_cat (st : List Value) : Nat := match st with
  | [] => 0
  | v :: t => v.category + mm_cat t
/-- an instruction with its table's places resolved (and its length held against the one that it has) -/
def mm_res (o : Nat) (ini : Bool) (i : Instr) (len : Nat) : Option Instr := match i, len with
  | .iconst n, 1 => some (.iconst n)
  | .bipush n, 2 => cond (decide ((Int8.ofInt n).toInt32 = Int32.ofInt n)) (some (.iconst n)) none
  | .sipush n, 3 => cond (decide ((Int16.ofInt n).toInt32 = Int32.ofInt n)) (some (.iconst n)) none
  | .ldc x, 2 => (mm_look mm_conL o x).map .iconst
  | .ldc_w x, 3 => (mm_look mm_conL o x).map .iconst
  | .lconst n, 1 => cond (decide (Int64.ofNat (n : Nat) = Int64.ofInt ((n : Nat) : Int))) (some (.goto_w ((n : Nat) : Int))) none
  | .ldc2_w x, 3 => (mm_look mm_lonL o x).map .goto_w
  | .iload_n n, 1 => some (.iload n)
  | .iload n, 2 => some (.iload n)
  | .lload_n n, 1 => some (.lload n)
  | .lload n, 2 => some (.lload n)
  | .aload_n n, 1 => some (.aload n)
  | .aload n, 2 => some (.aload n)
  | .istore_n n, 1 => some (.istore n)
  | .istore n, 2 => some (.istore n)
  | .lstore_n n, 1 => some (.lstore n)
  | .lstore n, 2 => some (.lstore n)
  | .astore_n n, 1 => some (.astore n)
  | .astore n, 2 => some (.astore n)
  | .iinc n d, 3 => some (.iinc n d)
  | .iadd, 1 => some .iadd
  | .isub, 1 => some .isub
  | .imul, 1 => some .imul
  | .idiv, 1 => some .idiv
  | .irem, 1 => some .irem
  | .ineg, 1 => some .ineg
  | .iand, 1 => some .iand
  | .ior, 1 => some .ior
  | .ixor, 1 => some .ixor
  | .ishl, 1 => some .ishl
  | .ishr, 1 => some .ishr
  | .iushr, 1 => some .iushr
  | .i2l, 1 => some .i2l
  | .l2i, 1 => some .l2i
  | .i2b, 1 => some .i2b
  | .i2s, 1 => some .i2s
  | .ladd, 1 => some .ladd
  | .lsub, 1 => some .lsub
  | .lmul, 1 => some .lmul
  | .ldiv, 1 => some .ldiv
  | .lrem, 1 => some .lrem
  | .land, 1 => some .land
  | .lor, 1 => some .lor
  | .lshl, 1 => some .lshl
  | .lcmp, 1 => some .lcmp
  | .dup, 1 => some .dup
  | .dup2, 1 => some .dup2
  | .pop, 1 => some .pop
  | .aconst_null, 1 => some .aconst_null
  | .arraylength, 1 => some .arraylength
  | .iaload, 1 => some .iaload
  | .iastore, 1 => some .iastore
  | .laload, 1 => some .laload
  | .lastore, 1 => some .lastore
  | .baload, 1 => some .baload
  | .bastore, 1 => some .bastore
  | .aaload, 1 => some .aaload
  | .aastore, 1 => some .aastore
  | .getfield x, 3 => (mm_look mm_fldL o x).map fun q => .getfield (q.1 * 64 + q.2)
  | .putfield x, 3 => (mm_look mm_fldL o x).bind fun q => cond (!(mm_T q.1 q.2).2.2.2 || (ini && Nat.beq q.1 o)) (some (.putfield (q.1 * 64 + q.2))) none
  | .getstatic x, 3 => (mm_look mm_staL o x).map fun q => .getstatic q.1
  | .new x, 3 => (mm_look mm_claL o x).map .new
  | .newarray t, 2 => some (.newarray t)
  | .anewarray x, 3 => (mm_look mm_claL o x).bind fun q => cond (Nat.beq q 8) (some (.anewarray q)) none
  | .goto d, 3 => some (.goto d)
  | .ifCond c d, 3 => some (.ifCond c d)
  | .if_icmp c d, 3 => some (.if_icmp c d)
  | .ifnull d, 3 => some (.ifnull d)
  | .ifnonnull d, 3 => some (.ifnonnull d)
  | .tableswitch d lo hi os, _ => some (.tableswitch d lo hi os)
  | .lookupswitch d ps, _ => some (.lookupswitch d ps)
  | .ireturn, 1 => some .ireturn
  | .lreturn, 1 => some .lreturn
  | .areturn, 1 => some .areturn
  | .return_, 1 => some .return_
  | .invokevirtual x, 3 => (mm_look mm_calL o x).bind fun q => match q.1 with
    | 0 => some (.invokevirtual (q.2.1 * 16 + q.2.2))
    | _ => none
  | .invokestatic x, 3 => (mm_look mm_calL o x).bind fun q => match q.1 with
    | 1 => some (.invokestatic (q.2.1 * 16 + q.2.2))
    | 5 => some .monitorexit
    | _ => none
  | .invokespecial x, 3 => (mm_look mm_calL o x).bind fun q => match q.1 with
    | 2 => some (.invokespecial (q.2.1 * 16 + q.2.2))
    | 3 => some (.invokespecial (q.2.1 * 16 + q.2.2))
    | 4 => some .monitorenter
    | _ => none
  | _, _ => none
abbrev mm_Rs : Type := Option (Prop × mm_L × List Value × mm_W)
def mm_ii (f : Int32 → Int32 → Int32) (L : mm_L) (st : List Value) (w : mm_W) : mm_Rs := match st with
  | .int y :: .int x :: t => some (True, L, .int (f x y) :: t, w)
  | _ => none
def mm_jj (f : Int64 → Int64 → Int64) (L : mm_L) (st : List Value) (w : mm_W) : mm_Rs := match st with
  | .long y :: .long x :: t => some (True, L, .long (f x y) :: t, w)
  | _ => none
def mm_ix (i : Int32) (n : Nat) : Prop := ¬ (i < 0 ∨ n ≤ i.toNatClampNeg)
/-- the straight instructions: what must hold, and what then stands -/
def mm_seq (i : Instr) (L : mm_L) (st : List Value) (w : mm_W) : mm_Rs := match i with
  | .iconst n => some (True, L, .int (Int32.ofInt n) :: st, w)
  | .goto_w n => some (True, L, .long (Int64.ofInt n) :: st, w)
  | .iload n => match mm_get L n with
    | some (.int x) => some (True, L, .int x :: st, w)
    | _ => none
  | .lload n => match mm_get L n with
    | some (.long x) => some (True, L, .long x :: st, w)
    | _ => none
  | .aload n => match mm_get L n with
    | some (.ref x) => some (True, L, .ref x :: st, w)
    | some .null => some (True, L, .null :: st, w)
    | _ => none
  | .istore n => match st with
    | .int x :: t => (mm_set1 L n (.int x)).map fun L1 => (True, L1, t, w)
    | _ => none
  | .lstore n => match st with
    | .long x :: t => (mm_set2 L n (.long x)).map fun L1 => (True, L1, t, w)
    | _ => none
  | .astore n => match st with
    | .ref x :: t => (mm_set1 L n (.ref x)).map fun L1 => (True, L1, t, w)
    | .null :: t => (mm_set1 L n .null).map fun L1 => (True, L1, t, w)
    | _ => none
  | .iinc n d => match mm_get L n with
    | some (.int x) => (mm_set1 L n (.int (x + Int32.ofInt d))).map fun L1 => (True, L1, st, w)
    | _ => none
  | .iadd => mm_ii (fun x y => x + y) L st w
  | .isub => mm_ii (fun x y => x - y) L st w
  | .imul => mm_ii (fun x y => x * y) L st w
  | .iand => mm_ii (fun x y => x &&& y) L st w
  | .ior => mm_ii (fun x y => x ||| y) L st w
  | .ixor => mm_ii (fun x y => x ^^^ y) L st w
  | .ishl => mm_ii (fun x y => x <<< (y &&& 31)) L st w
  | .ishr => mm_ii (fun x y => x >>> (y &&& 31)) L st w
  | .iushr => mm_ii (fun x y => (x.toUInt32 >>> (y.toUInt32 &&& Int32.toUInt32 31)).toInt32) L st w
  | .idiv => match st with
    | .int y :: .int x :: t => some (¬ y = 0, L, .int (x / y) :: t, w)
    | _ => none
  | .irem => match st with
    | .int y :: .int x :: t => some (¬ y = 0, L, .int (x - x / y * y) :: t, w)
    | _ => none
  | .ineg => match st with
    | .int x :: t => some (True, L, .int (-x) :: t, w)
    | _ => none
  | .i2l => match st with
    | .int x :: t => some (True, L, .long x.toInt64 :: t, w)
    | _ => none
  | .l2i => match st with
    | .long x :: t => some (True, L, .int x.toInt32 :: t, w)
    | _ => none
  | .i2b => match st with
    | .int x :: t => some (True, L, .int x.toInt8.toInt32 :: t, w)
    | _ => none
  | .i2s => match st with
    | .int x :: t => some (True, L, .int x.toInt16.toInt32 :: t, w)
    | _ => none
  | .ladd => mm_jj (fun x y => x + y) L st w
  | .lsub => mm_jj (fun x y => x - y) L st w
  | .lmul => mm_jj (fun x y => x * y) L st w
  | .land => mm_jj (fun x y => x &&& y) L st w
  | .lor => mm_jj (fun x y => x ||| y) L st w
  | .ldiv => match st with
    | .long y :: .long x :: t => some (¬ y = 0, L, .long (x / y) :: t, w)
    | _ => none
  | .lrem => match st with
    | .long y :: .long x :: t => some (¬ y = 0, L, .long (x - x / y * y) :: t, w)
    | _ => none
  | .lshl => match st with
    | .int y :: .long x :: t => some (True, L, .long (x <<< (y.toInt64 &&& 63)) :: t, w)
    | _ => none
  | .lcmp => match st with
    | .long y :: .long x :: t => some (True, L, .int (lg_cmp x y) :: t, w)
    | _ => none
  | .dup => match st with
    | v :: t => cond (Nat.beq v.category 1) (some (True, L, v :: v :: t, w)) none
    | _ => none
  | .dup2 => match st with
    | v :: u :: t => cond (Nat.beq v.category 1 && Nat.beq u.category 1) (some (True, L, v :: u :: v :: u :: t, w)) none
    | _ => none
  | .pop => match st with
    | v :: t => cond (Nat.beq v.category 1) (some (True, L, t, w)) none
    | _ => none
  | .aconst_null => some (True, L, .null :: st, w)
  | .getstatic k => cond (Nat.blt k 7 && Nat.blt 0 k) (some (True, L, .ref k :: st, w)) none
  | .arraylength => match st with
    | .ref k :: t => cond (Nat.blt (mm_nth w.1 k).1 6) (some (True, L, .int (Int32.ofNat (mm_nth w.1 k).2) :: t, w)) none
    | _ => none
  | .iaload => match st with
    | .int i :: .ref k :: t => cond (Nat.beq (mm_nth w.1 k).1 0 || Nat.beq (mm_nth w.1 k).1 4) (some (mm_ix i (mm_nth w.1 k).2, L, .int (w.2.1 k i.toNatClampNeg) :: t, w)) none
    | _ => none
  | .baload => match st with
    | .int i :: .ref k :: t => cond (Nat.beq (mm_nth w.1 k).1 1) (some (mm_ix i (mm_nth w.1 k).2, L, .int (w.2.1 k i.toNatClampNeg) :: t, w)) none
    | _ => none
  | .laload => match st with
    | .int i :: .ref k :: t => cond (Nat.beq (mm_nth w.1 k).1 2 || Nat.beq (mm_nth w.1 k).1 5) (some (mm_ix i (mm_nth w.1 k).2, L, .long (w.2.2.1 k i.toNatClampNeg) :: t, w)) none
    | _ => none
  | .aaload => match st with
    | .int i :: .ref k :: t => cond (Nat.beq (mm_nth w.1 k).1 3) (some (mm_ix i (mm_nth w.1 k).2, L, va_rf (w.2.2.2 k i.toNatClampNeg) :: t, w)) none
    | _ => none
  | .iastore => match st with
    | .int x :: .int i :: .ref k :: t => cond (Nat.beq (mm_nth w.1 k).1 0) (some (mm_ix i (mm_nth w.1 k).2, L, t, (w.1, mm_uc w.2.1 k (upd (w.2.1 k) i.toNatClampNeg x), w.2.2))) none
    | _ => none
  | .bastore => match st with
    | .int x :: .int i :: .ref k :: t => cond (Nat.beq (mm_nth w.1 k).1 1) (some (mm_ix i (mm_nth w.1 k).2, L, t, (w.1, mm_uc w.2.1 k (upd (w.2.1 k) i.toNatClampNeg (vp_nar .boolean x)), w.2.2))) none
    | _ => none
  | .lastore => match st with
    | .long x :: .int i :: .ref k :: t => cond (Nat.beq (mm_nth w.1 k).1 2) (some (mm_ix i (mm_nth w.1 k).2, L, t, (w.1, w.2.1, mm_uc w.2.2.1 k (vp_updL (w.2.2.1 k) i.toNatClampNeg x), w.2.2.2))) none
    | _ => none
  | .aastore => match st with
    | .ref v :: .int i :: .ref k :: t => cond (Nat.beq (mm_nth w.1 k).1 3 && Nat.beq (mm_nth w.1 v).1 18) (some (mm_ix i (mm_nth w.1 k).2, L, t, (w.1, w.2.1, w.2.2.1, mm_uc w.2.2.2 k (va_up (w.2.2.2 k) i.toNatClampNeg (some v))))) none
    | _ => none
  | .getfield e => match st with
    | .ref k :: t => cond (Nat.beq (mm_nth w.1 k).1 (e / 64 + 10)) (some (True, L, mm_fa w k (e / 64) (e % 64) :: t, w)) none
    | _ => none
  | .putfield e => match st with
    | v :: .ref k :: t => cond (Nat.beq (mm_nth w.1 k).1 (e / 64 + 10)) (match mm_ty (e / 64) (e % 64), v with
      | .int, .int x => some (True, L, t, (w.1, mm_uc w.2.1 k (upd (w.2.1 k) (e % 64) x), w.2.2))
      | .boolean, .int x => some (x = 0 ∨ x = 1, L, t, (w.1, mm_uc w.2.1 k (upd (w.2.1 k) (e % 64) x), w.2.2))
      | .long, .long x => some (True, L, t, (w.1, w.2.1, mm_uc w.2.2.1 k (vp_updL (w.2.2.1 k) (e % 64) x), w.2.2.2))
      | .object _, .ref x => some (True, L, t, (w.1, w.2.1, w.2.2.1, mm_uc w.2.2.2 k (va_up (w.2.2.2 k) (e % 64) (some x))))
      | .array _, .ref x => some (True, L, t, (w.1, w.2.1, w.2.2.1, mm_uc w.2.2.2 k (va_up (w.2.2.2 k) (e % 64) (some x))))
      | _, _ => none) none
    | _ => none
  | .new ci => some (True, L, .ref w.1.length :: st, (w.1 ++ [(ci + 10, mm_n ci)], mm_uc w.2.1 w.1.length (fun _ => 0), mm_uc w.2.2.1 w.1.length (fun _ => 0), mm_uc w.2.2.2 w.1.length (fun _ => none)))
  | .newarray .int => match st with
    | .int n :: t => some (¬ n < 0 ∧ n.toNatClampNeg ≤ 100000, L, .ref w.1.length :: t, (w.1 ++ [(0, n.toNatClampNeg)], mm_uc w.2.1 w.1.length (fun _ => 0), w.2.2))
    | _ => none
  | .newarray .boolean => match st with
    | .int n :: t => some (¬ n < 0 ∧ n.toNatClampNeg ≤ 100000, L, .ref w.1.length :: t, (w.1 ++ [(1, n.toNatClampNeg)], mm_uc w.2.1 w.1.length (fun _ => 0), w.2.2))
    | _ => none
  | .newarray .long => match st with
    | .int n :: t => some (¬ n < 0 ∧ n.toNatClampNeg ≤ 100000, L, .ref w.1.length :: t, (w.1 ++ [(2, n.toNatClampNeg)], w.2.1, mm_uc w.2.2.1 w.1.length (fun _ => 0), w.2.2.2))
    | _ => none
  | .anewarray _ => match st with
    | .int n :: t => some (¬ n < 0 ∧ n.toNatClampNeg ≤ 100000, L, .ref w.1.length :: t, (w.1 ++ [(3, n.toNatClampNeg)], w.2.1, w.2.2.1, mm_uc w.2.2.2 w.1.length (fun _ => none)))
    | _ => none
  | .monitorenter => match st with
    | .ref _ :: t => cond (Nat.ble (mm_cat t) 8) (some (True, L, t, w)) none
    | _ => none
  | .monitorexit => match st with
    | .int n :: .int dp :: .ref b :: .int sp :: .ref a :: t => cond (Nat.ble (mm_cat t) 8)
      (cond (Nat.beq (mm_nth w.1 a).1 0 && Nat.beq (mm_nth w.1 b).1 0)
        (some ((¬ sp < 0 ∧ ¬ dp < 0 ∧ ¬ n < 0) ∧ sp.toNatClampNeg + n.toNatClampNeg ≤ (mm_nth w.1 a).2 ∧ dp.toNatClampNeg + n.toNatClampNeg ≤ (mm_nth w.1 b).2, L, t, (w.1, mm_uc w.2.1 b (va_cpy (w.2.1 a) (w.2.1 b) sp.toNatClampNeg dp.toNatClampNeg n.toNatClampNeg), w.2.2)))
        (cond (Nat.beq (mm_nth w.1 a).1 2 && Nat.beq (mm_nth w.1 b).1 2)
          (some ((¬ sp < 0 ∧ ¬ dp < 0 ∧ ¬ n < 0) ∧ sp.toNatClampNeg + n.toNatClampNeg ≤ (mm_nth w.1 a).2 ∧ dp.toNatClampNeg + n.toNatClampNeg ≤ (mm_nth w.1 b).2, L, t, (w.1, w.2.1, mm_uc w.2.2.1 b (va_cpy (w.2.2.1 a) (w.2.2.1 b) sp.toNatClampNeg dp.toNatClampNeg n.toNatClampNeg), w.2.2.2)))
          none)) none
    | _ => none
  | _ => none
def mm_c2 (c : ClassFile.Cond) (x y : Int32) (t f : Nat) : Nat := match c with
  | .eq => if x = y then t else f
  | .ne => if x = y then f else t
  | .lt => if x < y then t else f
  | .ge => if y ≤ x then t else f
  | .gt => if y < x then t else f
  | .le => if x ≤ y then t else f
def mm_tgt (pc : Nat) (d : Int) : Nat := ((pc : Int) + d).toNat
/-- the branches: whither, and what is left on the stack -/
def mm_br (i : Instr) (pc : Nat) (st : List Value) : Option (Nat × List Value) := match i with
  | .goto d => cond (decide (0 ≤ (pc : Int) + d)) (some (mm_tgt pc d, st)) none
  | .ifCond c d => match st with
    | .int x :: t => cond (decide (0 ≤ (pc : Int) + d)) (some (mm_c2 c x 0 (mm_tgt pc d) (pc + 3), t)) none
    | _ => none
  | .if_icmp c d => match st with
    | .int y :: .int x :: t => cond (decide (0 ≤ (pc : Int) + d)) (some (mm_c2 c x y (mm_tgt pc d) (pc + 3), t)) none
    | _ => none
  | .ifnull d => match st with
    | .null :: t => cond (decide (0 ≤ (pc : Int) + d)) (some (mm_tgt pc d, t)) none
    | .ref _ :: t => some (pc + 3, t)
    | _ => none
  | .ifnonnull d => match st with
    | .null :: t => some (pc + 3, t)
    | .ref _ :: t => cond (decide (0 ≤ (pc : Int) + d)) (some (mm_tgt pc d, t)) none
    | _ => none
  | .tableswitch d lo hi os => match st with
    | .int x :: t => cond (os.all (fun q => decide (0 ≤ (pc : Int) + q)) && decide (0 ≤ (pc : Int) + d) && decide (os.size = (hi - lo + 1).toNat))
      (some (if x.toInt < lo ∨ hi < x.toInt then mm_tgt pc d else mm_tgt pc (os.toList.getD (x.toInt - lo).toNat 0), t)) none
    | _ => none
  | .lookupswitch d ps => match st with
    | .int x :: t => cond (ps.all (fun q => decide (0 ≤ (pc : Int) + q.2)) && decide (0 ≤ (pc : Int) + d) && (ps.toList.zip (ps.toList.drop 1)).all (fun (a, next) => a.1 < next.1))
      (some (mm_tgt pc (Op.lookupswitch.offset ps.toList d x.toInt), t)) none
    | _ => none
  | _ => none
def mm_ret (i : Instr) (rt : Option FieldType) (st : List Value) (r : Option Value) : Prop := match i, rt, st with
  | .ireturn, some .int, [.int x] => r = some (.int x)
  | .ireturn, some .boolean, [.int x] => (x = 0 ∨ x = 1) ∧ r = some (.int x)
  | .lreturn, some .long, [.long x] => r = some (.long x)
  | .areturn, some (.object _), [.ref x] => r = some (.ref x)
  | .areturn, some (.object _), [.null] => r = some .null
  | .return_, none, [] => r = none
  | _, _, _ => False
/-- the calls: the method, its arguments, what is left on the stack -/
def mm_call (i : Instr) (st : List Value) (w : mm_W) : Option (Nat × List Value × List Value) := match i with
  | .invokestatic e => cond (Nat.ble (e % 16) st.length && Nat.ble (mm_cat (st.drop (e % 16))) 8) (some (e / 16, (st.take (e % 16)).reverse, st.drop (e % 16))) none
  | .invokevirtual e => match st.drop (e % 16) with
    | .ref k :: t => cond (Nat.ble (mm_cat t) 8 && Nat.beq (mm_nth w.1 k).1 ((mm_me (e / 16)).1 + 10)) (some (e / 16, .ref k :: (st.take (e % 16)).reverse, t)) none
    | _ => none
  | .invokespecial e => match st.drop (e % 16) with
    | .ref k :: t => cond (Nat.ble (mm_cat t) 8) (some (e / 16, .ref k :: (st.take (e % 16)).reverse, t)) none
    | _ => none
  | _ => none
/-- how a method begins -/
def mm_ini (n : Nat) (as : List Value) : mm_L := match as with
  | [] => List.replicate n none
  | v :: t => cond (Nat.beq v.category 2) (some v :: none :: mm_ini (n - 2) t) (some v :: mm_ini (n - 1) t)
abbrev mm_Cl : Type := Nat → List Value → mm_W → Option Value → mm_W → Prop
/-- in n steps it returns r, with the world w1 behind it -/
def mm_Ex (Cl : mm_Cl) (o : Nat) (ini : Bool) (cc : ByteArray) (rt : Option FieldType) : Nat → Nat → mm_L → List Value → mm_W → Option Value → mm_W → Prop
  | 0, _, _, _, _, _, _ => False
  | n + 1, pc, L, st, w, r, w1 => ∃ (i : Instr) (len : Nat) (j : Instr), decode cc pc = .ok (i, len) ∧ mm_res o ini i len = some j ∧
    ((∃ (P : Prop) (L' : mm_L) (st' : List Value) (w' : mm_W), mm_seq j L st w = some (P, L', st', w') ∧ P ∧ mm_Ex Cl o ini cc rt n (pc + len) L' st' w' r w1) ∨
     (∃ (pc' : Nat) (st' : List Value), mm_br j pc st = some (pc', st') ∧ mm_Ex Cl o ini cc rt n pc' L st' w r w1) ∨
     (mm_ret j rt st r ∧ w1 = w) ∨
     (∃ (y : Nat) (as t : List Value) (r' : Option Value) (w' : mm_W), mm_call j st w = some (y, as, t) ∧ Cl y as w r' w' ∧ mm_Ex Cl o ini cc rt n (pc + 3) L (r'.toList ++ t) w' r w1))
/-- method y, calls at most d deep -/
def mm_Runs : Nat → mm_Cl
  | 0 => fun _ _ _ _ _ => False
  | d + 1 => fun y as w r w1 => (mm_ini (mm_me y).2.2.2.1 as).length = (mm_me y).2.2.2.1 ∧ y < mm_meL.length ∧
    ∃ n, mm_Ex (mm_Runs d) (mm_me y).1 (decide ((mm_me y).2.1.name = "<init>")) (mm_me y).2.2.1 (mm_me y).2.2.2.2.1 n 0 (mm_ini (mm_me y).2.2.2.1 as) [] w r w1
