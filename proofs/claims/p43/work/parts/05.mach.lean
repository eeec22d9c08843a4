/-! THE PURE MACHINE: the bytecode that these classes use, over a pure world: shapes of the cells (kind, length), and what they hold as functions of (cell, place): ints, longs, references. A reference is a place in the list of shapes; the first seven are arrays that nobody writes (the script, six static tables). Kinds: 0 int[], 1 boolean[], 2 long[], 3 Shelf[], 4 int[] only read, 5 long[] only read, 10 + c an object of class c. -/
abbrev mm_W : Type := List (Nat × Nat) × (Nat → Nat → Int32) × (Nat → Nat → Int64) × (Nat → Nat → Option Nat)
abbrev mm_L : Type := List (Option Value)
def mm_nth : List (Nat × Nat) → Nat → Nat × Nat
  | [], _ => (99, 0)
  | a :: _, 0 => a
  | _ :: l, n + 1 => mm_nth l n
def mm_get : mm_L → Nat → Option Value
  | [], _ => none
  | a :: _, 0 => a
  | _ :: l, n + 1 => mm_get l n
def mm_clr (L : mm_L) (i : Nat) : mm_L := match i with
  | 0 => L
  | j + 1 => match mm_get L j with
    | some v => cond (Nat.beq v.category 2) (L.set j none) L
    | none => L
def mm_set1 (L : mm_L) (i : Nat) (v : Value) : Option mm_L := cond (Nat.blt i L.length) (some ((mm_clr L i).set i (some v))) none
def mm_set2 (L : mm_L) (i : Nat) (v : Value) : Option mm_L := cond (Nat.blt (i + 1) L.length) (some (((mm_clr L i).set i (some v)).set (i + 1) none)) none
/-- one cell's contents exchanged -/
def mm_uc {α : Type} (I : Nat → Nat → α) (o : Nat) (f : Nat → α) : Nat → Nat → α := fun a => if a = o then f else I a
theorem mm_uc_self {α : Type} (I : Nat → Nat → α) (o : Nat) (f : Nat → α) : mm_uc I o f o = f := if_pos rfl
theorem mm_uc_ne {α : Type} (I : Nat → Nat → α) {o a : Nat} (f : Nat → α) (h : a ≠ o) : mm_uc I o f a = I a := if_neg h
/-- what a field holds -/
def mm_fa (w : mm_W) (k ci j : Nat) : Value := match mm_ty ci j with
  | .int => .int (w.2.1 k j)
  | .boolean => .int (w.2.1 k j)
  | .long => .long (w.2.2.1 k j)
  | _ => va_rf (w.2.2.2 k j)
def mm_cat (st : List Value) : Nat := match st with
  | [] => 0
  | v :: t => v.category + mm_cat t
/-- an instruction with its table's places resolved (and its length held against the one that it has) -/
def mm_res (o : Nat) (ini : Bool) (i : Instr) (len : Nat) : Option Instr := match i with
  | .iconst n => cond (Nat.beq len 1) (some (.iconst n)) none
  | .bipush n => cond (Nat.beq len 2) (cond (decide ((Int8.ofInt n).toInt32 = Int32.ofInt n)) (some (.iconst n)) none) none
  | .sipush n => cond (Nat.beq len 3) (cond (decide ((Int16.ofInt n).toInt32 = Int32.ofInt n)) (some (.iconst n)) none) none
  | .ldc x => cond (Nat.beq len 2) ((mm_look mm_conL o x).map .iconst) none
  | .ldc_w x => cond (Nat.beq len 3) ((mm_look mm_conL o x).map .iconst) none
  | .lconst n => cond (Nat.beq len 1) (cond (decide (Int64.ofNat (n : Nat) = Int64.ofInt ((n : Nat) : Int))) (some (.goto_w ((n : Nat) : Int))) none) none
  | .ldc2_w x => cond (Nat.beq len 3) ((mm_look mm_lonL o x).map .goto_w) none
  | .iload_n n => cond (Nat.beq len 1) (some (.iload n)) none
  | .iload n => cond (Nat.beq len 2) (some (.iload n)) none
  | .lload_n n => cond (Nat.beq len 1) (some (.lload n)) none
  | .lload n => cond (Nat.beq len 2) (some (.lload n)) none
  | .aload_n n => cond (Nat.beq len 1) (some (.aload n)) none
  | .aload n => cond (Nat.beq len 2) (some (.aload n)) none
  | .istore_n n => cond (Nat.beq len 1) (some (.istore n)) none
  | .istore n => cond (Nat.beq len 2) (some (.istore n)) none
  | .lstore_n n => cond (Nat.beq len 1) (some (.lstore n)) none
  | .lstore n => cond (Nat.beq len 2) (some (.lstore n)) none
  | .astore_n n => cond (Nat.beq len 1) (some (.astore n)) none
  | .astore n => cond (Nat.beq len 2) (some (.astore n)) none
  | .iinc n d => cond (Nat.beq len 3) (some (.iinc n d)) none
  | .iadd => cond (Nat.beq len 1) (some .iadd) none
  | .isub => cond (Nat.beq len 1) (some .isub) none
  | .imul => cond (Nat.beq len 1) (some .imul) none
  | .idiv => cond (Nat.beq len 1) (some .idiv) none
  | .irem => cond (Nat.beq len 1) (some .irem) none
  | .ineg => cond (Nat.beq len 1) (some .ineg) none
  | .iand => cond (Nat.beq len 1) (some .iand) none
  | .ior => cond (Nat.beq len 1) (some .ior) none
  | .ixor => cond (Nat.beq len 1) (some .ixor) none
  | .ishl => cond (Nat.beq len 1) (some .ishl) none
  | .ishr => cond (Nat.beq len 1) (some .ishr) none
  | .iushr => cond (Nat.beq len 1) (some .iushr) none
  | .i2l => cond (Nat.beq len 1) (some .i2l) none
  | .l2i => cond (Nat.beq len 1) (some .l2i) none
  | .i2b => cond (Nat.beq len 1) (some .i2b) none
  | .i2s => cond (Nat.beq len 1) (some .i2s) none
  | .ladd => cond (Nat.beq len 1) (some .ladd) none
  | .lsub => cond (Nat.beq len 1) (some .lsub) none
  | .lmul => cond (Nat.beq len 1) (some .lmul) none
  | .ldiv => cond (Nat.beq len 1) (some .ldiv) none
  | .lrem => cond (Nat.beq len 1) (some .lrem) none
  | .land => cond (Nat.beq len 1) (some .land) none
  | .lor => cond (Nat.beq len 1) (some .lor) none
  | .lshl => cond (Nat.beq len 1) (some .lshl) none
  | .lcmp => cond (Nat.beq len 1) (some .lcmp) none
  | .dup => cond (Nat.beq len 1) (some .dup) none
  | .dup2 => cond (Nat.beq len 1) (some .dup2) none
  | .pop => cond (Nat.beq len 1) (some .pop) none
  | .aconst_null => cond (Nat.beq len 1) (some .aconst_null) none
  | .arraylength => cond (Nat.beq len 1) (some .arraylength) none
  | .iaload => cond (Nat.beq len 1) (some .iaload) none
  | .iastore => cond (Nat.beq len 1) (some .iastore) none
  | .laload => cond (Nat.beq len 1) (some .laload) none
  | .lastore => cond (Nat.beq len 1) (some .lastore) none
  | .aaload => cond (Nat.beq len 1) (some .aaload) none
  | .aastore => cond (Nat.beq len 1) (some .aastore) none
  | .getfield x => cond (Nat.beq len 3) ((mm_look mm_fldL o x).map fun q => .getfield (q.1 * 64 + q.2)) none
  | .putfield x => cond (Nat.beq len 3) ((mm_look mm_fldL o x).bind fun q => cond (!(mm_T q.1 q.2).2.2.2 || (ini && Nat.beq q.1 o)) (some (.putfield (q.1 * 64 + q.2))) none) none
  | .getstatic x => cond (Nat.beq len 3) ((mm_look mm_staL o x).map fun q => .getstatic q.1) none
  | .new x => cond (Nat.beq len 3) ((mm_look mm_claL o x).map .new) none
  | .newarray t => cond (Nat.beq len 2) (some (.newarray t)) none
  | .anewarray x => cond (Nat.beq len 3) ((mm_look mm_claL o x).bind fun q => cond (Nat.beq q 8) (some (.anewarray q)) none) none
  | .goto d => cond (Nat.beq len 3) (some (.goto d)) none
  | .ifCond c d => cond (Nat.beq len 3) (some (.ifCond c d)) none
  | .if_icmp c d => cond (Nat.beq len 3) (some (.if_icmp c d)) none
  | .ifnull d => cond (Nat.beq len 3) (some (.ifnull d)) none
  | .ifnonnull d => cond (Nat.beq len 3) (some (.ifnonnull d)) none
  | .tableswitch d lo hi os => some (.tableswitch d lo hi os)
  | .lookupswitch d ps => some (.lookupswitch d ps)
  | .ireturn => cond (Nat.beq len 1) (some .ireturn) none
  | .lreturn => cond (Nat.beq len 1) (some .lreturn) none
  | .areturn => cond (Nat.beq len 1) (some .areturn) none
  | .return_ => cond (Nat.beq len 1) (some .return_) none
  | .invokevirtual x => cond (Nat.beq len 3) ((mm_look mm_calL o x).bind fun q => match q.1 with
    | 0 => some (.invokevirtual (q.2.1 * 16 + q.2.2))
    | _ => none) none
  | .invokestatic x => cond (Nat.beq len 3) ((mm_look mm_calL o x).bind fun q => match q.1 with
    | 1 => some (.invokestatic (q.2.1 * 16 + q.2.2))
    | 5 => some .monitorexit
    | 6 => some (.ldc 0)
    | 7 => some (.ldc 1)
    | 8 => some (.ldc 2)
    | 9 => some (.ldc 3)
    | _ => none) none
  | .invokespecial x => cond (Nat.beq len 3) ((mm_look mm_calL o x).bind fun q => match q.1 with
    | 2 => some (.invokespecial (q.2.1 * 16 + q.2.2))
    | 3 => some (.invokespecial (q.2.1 * 16 + q.2.2))
    | 4 => some .monitorenter
    | _ => none) none
  | _ => none
abbrev mm_Rs : Type := Option (Prop × mm_L × List Value × mm_W)
def mm_ii (f : Int32 → Int32 → Int32) (L : mm_L) (st : List Value) (w : mm_W) : mm_Rs := match st with
  | .int y :: .int x :: t => some (True, L, .int (f x y) :: t, w)
  | _ => none
theorem mm_ii_inv {f : Int32 → Int32 → Int32} {L : mm_L} {st : List Value} {w : mm_W} {r : Prop × mm_L × List Value × mm_W} (h : mm_ii f L st w = some r) : ∃ y x t, st = .int y :: .int x :: t ∧ (True, L, Value.int (f x y) :: t, w) = r := by
  unfold mm_ii at h
  split at h <;> cases h
  exact ⟨_, _, _, rfl, rfl⟩
def mm_jj (f : Int64 → Int64 → Int64) (L : mm_L) (st : List Value) (w : mm_W) : mm_Rs := match st with
  | .long y :: .long x :: t => some (True, L, .long (f x y) :: t, w)
  | _ => none
theorem mm_jj_inv {f : Int64 → Int64 → Int64} {L : mm_L} {st : List Value} {w : mm_W} {r : Prop × mm_L × List Value × mm_W} (h : mm_jj f L st w = some r) : ∃ y x t, st = .long y :: .long x :: t ∧ (True, L, Value.long (f x y) :: t, w) = r := by
  unfold mm_jj at h
  split at h <;> cases h
  exact ⟨_, _, _, rfl, rfl⟩
def mm_in (f : Int32 → Int32 → Int32) (L : mm_L) (st : List Value) (w : mm_W) : mm_Rs := match st with
  | .int y :: .int x :: t => some (¬ y = 0, L, .int (f x y) :: t, w)
  | _ => none
theorem mm_in_inv {f : Int32 → Int32 → Int32} {L : mm_L} {st : List Value} {w : mm_W} {r : Prop × mm_L × List Value × mm_W} (h : mm_in f L st w = some r) : ∃ y x t, st = .int y :: .int x :: t ∧ (¬ y = 0, L, Value.int (f x y) :: t, w) = r := by
  unfold mm_in at h
  split at h <;> cases h
  exact ⟨_, _, _, rfl, rfl⟩
def mm_jn (f : Int64 → Int64 → Int64) (L : mm_L) (st : List Value) (w : mm_W) : mm_Rs := match st with
  | .long y :: .long x :: t => some (¬ y = 0, L, .long (f x y) :: t, w)
  | _ => none
theorem mm_jn_inv {f : Int64 → Int64 → Int64} {L : mm_L} {st : List Value} {w : mm_W} {r : Prop × mm_L × List Value × mm_W} (h : mm_jn f L st w = some r) : ∃ y x t, st = .long y :: .long x :: t ∧ (¬ y = 0, L, Value.long (f x y) :: t, w) = r := by
  unfold mm_jn at h
  split at h <;> cases h
  exact ⟨_, _, _, rfl, rfl⟩
def mm_i1 (f : Int32 → Value) (L : mm_L) (st : List Value) (w : mm_W) : mm_Rs := match st with
  | .int x :: t => some (True, L, f x :: t, w)
  | _ => none
theorem mm_i1_inv {f : Int32 → Value} {L : mm_L} {st : List Value} {w : mm_W} {r : Prop × mm_L × List Value × mm_W} (h : mm_i1 f L st w = some r) : ∃ x t, st = .int x :: t ∧ (True, L, f x :: t, w) = r := by
  unfold mm_i1 at h
  split at h <;> cases h
  exact ⟨_, _, rfl, rfl⟩
def mm_j1 (f : Int64 → Value) (L : mm_L) (st : List Value) (w : mm_W) : mm_Rs := match st with
  | .long x :: t => some (True, L, f x :: t, w)
  | _ => none
theorem mm_j1_inv {f : Int64 → Value} {L : mm_L} {st : List Value} {w : mm_W} {r : Prop × mm_L × List Value × mm_W} (h : mm_j1 f L st w = some r) : ∃ x t, st = .long x :: t ∧ (True, L, f x :: t, w) = r := by
  unfold mm_j1 at h
  split at h <;> cases h
  exact ⟨_, _, rfl, rfl⟩
def mm_ij (f : Int64 → Int32 → Int64) (L : mm_L) (st : List Value) (w : mm_W) : mm_Rs := match st with
  | .int y :: .long x :: t => some (True, L, .long (f x y) :: t, w)
  | _ => none
theorem mm_ij_inv {f : Int64 → Int32 → Int64} {L : mm_L} {st : List Value} {w : mm_W} {r : Prop × mm_L × List Value × mm_W} (h : mm_ij f L st w = some r) : ∃ y x t, st = .int y :: .long x :: t ∧ (True, L, Value.long (f x y) :: t, w) = r := by
  unfold mm_ij at h
  split at h <;> cases h
  exact ⟨_, _, _, rfl, rfl⟩
def mm_ji (f : Int64 → Int64 → Int32) (L : mm_L) (st : List Value) (w : mm_W) : mm_Rs := match st with
  | .long y :: .long x :: t => some (True, L, .int (f x y) :: t, w)
  | _ => none
theorem mm_ji_inv {f : Int64 → Int64 → Int32} {L : mm_L} {st : List Value} {w : mm_W} {r : Prop × mm_L × List Value × mm_W} (h : mm_ji f L st w = some r) : ∃ y x t, st = .long y :: .long x :: t ∧ (True, L, Value.int (f x y) :: t, w) = r := by
  unfold mm_ji at h
  split at h <;> cases h
  exact ⟨_, _, _, rfl, rfl⟩
def mm_ldi (n : Nat) (L : mm_L) (st : List Value) (w : mm_W) : mm_Rs := match mm_get L n with
  | some (.int x) => some (True, L, .int x :: st, w)
  | _ => none
theorem mm_ldi_inv {n : Nat} {L : mm_L} {st : List Value} {w : mm_W} {r : Prop × mm_L × List Value × mm_W} (h : mm_ldi n L st w = some r) : ∃ x, mm_get L n = some (.int x) ∧ (True, L, Value.int x :: st, w) = r := by
  unfold mm_ldi at h
  split at h
  · cases h; exact ⟨_, ‹_›, rfl⟩
  · cases h
def mm_ldl (n : Nat) (L : mm_L) (st : List Value) (w : mm_W) : mm_Rs := match mm_get L n with
  | some (.long x) => some (True, L, .long x :: st, w)
  | _ => none
theorem mm_ldl_inv {n : Nat} {L : mm_L} {st : List Value} {w : mm_W} {r : Prop × mm_L × List Value × mm_W} (h : mm_ldl n L st w = some r) : ∃ x, mm_get L n = some (.long x) ∧ (True, L, Value.long x :: st, w) = r := by
  unfold mm_ldl at h
  split at h
  · cases h; exact ⟨_, ‹_›, rfl⟩
  · cases h
def mm_lda (n : Nat) (L : mm_L) (st : List Value) (w : mm_W) : mm_Rs := match mm_get L n with
  | some (.ref x) => some (True, L, .ref x :: st, w)
  | some .null => some (True, L, .null :: st, w)
  | _ => none
theorem mm_lda_inv {n : Nat} {L : mm_L} {st : List Value} {w : mm_W} {r : Prop × mm_L × List Value × mm_W} (h : mm_lda n L st w = some r) : (∃ x, mm_get L n = some (.ref x) ∧ (True, L, Value.ref x :: st, w) = r) ∨ (mm_get L n = some .null ∧ (True, L, Value.null :: st, w) = r) := by
  unfold mm_lda at h
  split at h
  · cases h; exact Or.inl ⟨_, ‹_›, rfl⟩
  · cases h; exact Or.inr ⟨‹_›, rfl⟩
  · cases h
def mm_sti (n : Nat) (L : mm_L) (st : List Value) (w : mm_W) : mm_Rs := match st with
  | .int x :: t => (mm_set1 L n (.int x)).map fun L1 => (True, L1, t, w)
  | _ => none
theorem mm_sti_inv {n : Nat} {L : mm_L} {st : List Value} {w : mm_W} {r : Prop × mm_L × List Value × mm_W} (h : mm_sti n L st w = some r) : ∃ x t L1, st = .int x :: t ∧ mm_set1 L n (.int x) = some L1 ∧ (True, L1, t, w) = r := by
  unfold mm_sti at h
  split at h
  · obtain ⟨L1, h1, h2⟩ := Option.map_eq_some_iff.mp h
    exact ⟨_, _, L1, rfl, h1, h2⟩
  · cases h
def mm_stl (n : Nat) (L : mm_L) (st : List Value) (w : mm_W) : mm_Rs := match st with
  | .long x :: t => (mm_set2 L n (.long x)).map fun L1 => (True, L1, t, w)
  | _ => none
theorem mm_stl_inv {n : Nat} {L : mm_L} {st : List Value} {w : mm_W} {r : Prop × mm_L × List Value × mm_W} (h : mm_stl n L st w = some r) : ∃ x t L1, st = .long x :: t ∧ mm_set2 L n (.long x) = some L1 ∧ (True, L1, t, w) = r := by
  unfold mm_stl at h
  split at h
  · obtain ⟨L1, h1, h2⟩ := Option.map_eq_some_iff.mp h
    exact ⟨_, _, L1, rfl, h1, h2⟩
  · cases h
def mm_sta (n : Nat) (L : mm_L) (st : List Value) (w : mm_W) : mm_Rs := match st with
  | .ref x :: t => (mm_set1 L n (.ref x)).map fun L1 => (True, L1, t, w)
  | .null :: t => (mm_set1 L n .null).map fun L1 => (True, L1, t, w)
  | _ => none
theorem mm_sta_inv {n : Nat} {L : mm_L} {st : List Value} {w : mm_W} {r : Prop × mm_L × List Value × mm_W} (h : mm_sta n L st w = some r) : (∃ x t L1, st = .ref x :: t ∧ mm_set1 L n (.ref x) = some L1 ∧ (True, L1, t, w) = r) ∨ (∃ t L1, st = .null :: t ∧ mm_set1 L n .null = some L1 ∧ (True, L1, t, w) = r) := by
  unfold mm_sta at h
  split at h
  · obtain ⟨L1, h1, h2⟩ := Option.map_eq_some_iff.mp h
    exact Or.inl ⟨_, _, L1, rfl, h1, h2⟩
  · obtain ⟨L1, h1, h2⟩ := Option.map_eq_some_iff.mp h
    exact Or.inr ⟨_, L1, rfl, h1, h2⟩
  · cases h
def mm_inc (n : Nat) (d : Int) (L : mm_L) (st : List Value) (w : mm_W) : mm_Rs := match mm_get L n with
  | some (.int x) => (mm_set1 L n (.int (x + Int32.ofInt d))).map fun L1 => (True, L1, st, w)
  | _ => none
theorem mm_inc_inv {n : Nat} {d : Int} {L : mm_L} {st : List Value} {w : mm_W} {r : Prop × mm_L × List Value × mm_W} (h : mm_inc n d L st w = some r) : ∃ x L1, mm_get L n = some (.int x) ∧ mm_set1 L n (.int (x + Int32.ofInt d)) = some L1 ∧ (True, L1, st, w) = r := by
  unfold mm_inc at h
  split at h
  · obtain ⟨L1, h1, h2⟩ := Option.map_eq_some_iff.mp h
    exact ⟨_, L1, ‹_›, h1, h2⟩
  · cases h
def mm_ix (i : Int32) (n : Nat) : Prop := ¬ (i < 0 ∨ n ≤ i.toNatClampNeg)
def mm_cond (b : Bool) (r : mm_Rs) : mm_Rs := match b with
  | true => r
  | false => none
theorem mm_cond_inv {b : Bool} {r : mm_Rs} {q : Prop × mm_L × List Value × mm_W} (h : mm_cond b r = some q) : b = true ∧ r = some q := by
  cases b
  · cases h
  · exact ⟨rfl, h⟩
def mm_dup (L : mm_L) (st : List Value) (w : mm_W) : mm_Rs := match st with
  | v :: t => mm_cond (Nat.beq v.category 1) (some (True, L, v :: v :: t, w))
  | _ => none
def mm_dup2 (L : mm_L) (st : List Value) (w : mm_W) : mm_Rs := match st with
  | v :: u :: t => mm_cond (Nat.beq v.category 1 && Nat.beq u.category 1) (some (True, L, v :: u :: v :: u :: t, w))
  | _ => none
def mm_pop (L : mm_L) (st : List Value) (w : mm_W) : mm_Rs := match st with
  | v :: t => mm_cond (Nat.beq v.category 1) (some (True, L, t, w))
  | _ => none
def mm_len (L : mm_L) (st : List Value) (w : mm_W) : mm_Rs := match st with
  | .ref k :: t => mm_cond (Nat.blt (mm_nth w.1 k).1 6) (some (True, L, .int (Int32.ofNat (mm_nth w.1 k).2) :: t, w))
  | _ => none
def mm_ald (ok : Nat → Bool) (f : mm_W → Nat → Nat → Value) (L : mm_L) (st : List Value) (w : mm_W) : mm_Rs := match st with
  | .int i :: .ref k :: t => mm_cond (ok (mm_nth w.1 k).1) (some (mm_ix i (mm_nth w.1 k).2, L, f w k i.toNatClampNeg :: t, w))
  | _ => none
theorem mm_ald_inv {ok : Nat → Bool} {f : mm_W → Nat → Nat → Value} {L : mm_L} {st : List Value} {w : mm_W} {r : Prop × mm_L × List Value × mm_W} (h : mm_ald ok f L st w = some r) : ∃ i k t, st = .int i :: .ref k :: t ∧ ok (mm_nth w.1 k).1 = true ∧ (mm_ix i (mm_nth w.1 k).2, L, f w k i.toNatClampNeg :: t, w) = r := by
  unfold mm_ald at h
  split at h
  · obtain ⟨h1, h2⟩ := mm_cond_inv h
    cases h2
    exact ⟨_, _, _, rfl, h1, rfl⟩
  · cases h
def mm_ist (kd : Nat) (f : Int32 → Int32) (L : mm_L) (st : List Value) (w : mm_W) : mm_Rs := match st with
  | .int x :: .int i :: .ref k :: t => mm_cond (Nat.beq (mm_nth w.1 k).1 kd) (some (mm_ix i (mm_nth w.1 k).2, L, t, (w.1, mm_uc w.2.1 k (upd (w.2.1 k) i.toNatClampNeg (f x)), w.2.2)))
  | _ => none
theorem mm_ist_inv {kd : Nat} {f : Int32 → Int32} {L : mm_L} {st : List Value} {w : mm_W} {r : Prop × mm_L × List Value × mm_W} (h : mm_ist kd f L st w = some r) : ∃ x i k t, st = .int x :: .int i :: .ref k :: t ∧ (mm_nth w.1 k).1 = kd ∧ (mm_ix i (mm_nth w.1 k).2, L, t, (w.1, mm_uc w.2.1 k (upd (w.2.1 k) i.toNatClampNeg (f x)), w.2.2)) = r := by
  unfold mm_ist at h
  split at h
  · obtain ⟨h1, h2⟩ := mm_cond_inv h
    cases h2
    exact ⟨_, _, _, _, rfl, Nat.eq_of_beq_eq_true h1, rfl⟩
  · cases h
def mm_jst (L : mm_L) (st : List Value) (w : mm_W) : mm_Rs := match st with
  | .long x :: .int i :: .ref k :: t => mm_cond (Nat.beq (mm_nth w.1 k).1 2) (some (mm_ix i (mm_nth w.1 k).2, L, t, (w.1, w.2.1, mm_uc w.2.2.1 k (vp_updL (w.2.2.1 k) i.toNatClampNeg x), w.2.2.2)))
  | _ => none
def mm_rst (L : mm_L) (st : List Value) (w : mm_W) : mm_Rs := match st with
  | .ref v :: .int i :: .ref k :: t => mm_cond (Nat.beq (mm_nth w.1 k).1 3 && Nat.beq (mm_nth w.1 v).1 18) (some (mm_ix i (mm_nth w.1 k).2, L, t, (w.1, w.2.1, w.2.2.1, mm_uc w.2.2.2 k (va_up (w.2.2.2 k) i.toNatClampNeg (some v)))))
  | _ => none
def mm_gf (e : Nat) (L : mm_L) (st : List Value) (w : mm_W) : mm_Rs := match st with
  | .ref k :: t => mm_cond (Nat.beq (mm_nth w.1 k).1 (e / 64 + 10)) (some (True, L, mm_fa w k (e / 64) (e % 64) :: t, w))
  | _ => none
def mm_pv (ty : FieldType) (k j : Nat) (v : Value) (L : mm_L) (t : List Value) (w : mm_W) : mm_Rs := match ty, v with
  | .int, .int x => some (True, L, t, (w.1, mm_uc w.2.1 k (upd (w.2.1 k) j x), w.2.2))
  | .boolean, .int x => some (x = 0 ∨ x = 1, L, t, (w.1, mm_uc w.2.1 k (upd (w.2.1 k) j x), w.2.2))
  | .long, .long x => some (True, L, t, (w.1, w.2.1, mm_uc w.2.2.1 k (vp_updL (w.2.2.1 k) j x), w.2.2.2))
  | .object _, .ref x => some (True, L, t, (w.1, w.2.1, w.2.2.1, mm_uc w.2.2.2 k (va_up (w.2.2.2 k) j (some x))))
  | .array _, .ref x => some (True, L, t, (w.1, w.2.1, w.2.2.1, mm_uc w.2.2.2 k (va_up (w.2.2.2 k) j (some x))))
  | _, _ => none
def mm_pf (e : Nat) (L : mm_L) (st : List Value) (w : mm_W) : mm_Rs := match st with
  | v :: .ref k :: t => mm_cond (Nat.beq (mm_nth w.1 k).1 (e / 64 + 10)) (mm_pv (mm_ty (e / 64) (e % 64)) k (e % 64) v L t w)
  | _ => none
def mm_nw (ci : Nat) (L : mm_L) (st : List Value) (w : mm_W) : mm_Rs := some (True, L, .ref w.1.length :: st, (w.1 ++ [(ci + 10, mm_n ci)], mm_uc w.2.1 w.1.length (fun _ => 0), mm_uc w.2.2.1 w.1.length (fun _ => 0), mm_uc w.2.2.2 w.1.length (fun _ => none)))
def mm_na (kd : Nat) (L : mm_L) (st : List Value) (w : mm_W) : mm_Rs := match st with
  | .int n :: t => some (¬ n < 0 ∧ n.toNatClampNeg ≤ 100000, L, .ref w.1.length :: t, (w.1 ++ [(kd, n.toNatClampNeg)], mm_uc w.2.1 w.1.length (fun _ => 0), mm_uc w.2.2.1 w.1.length (fun _ => 0), mm_uc w.2.2.2 w.1.length (fun _ => none)))
  | _ => none
theorem mm_na_inv {kd : Nat} {L : mm_L} {st : List Value} {w : mm_W} {r : Prop × mm_L × List Value × mm_W} (h : mm_na kd L st w = some r) : ∃ n t, st = .int n :: t ∧ (¬ n < 0 ∧ n.toNatClampNeg ≤ 100000, L, Value.ref w.1.length :: t, ((w.1 ++ [(kd, n.toNatClampNeg)], mm_uc w.2.1 w.1.length (fun _ => 0), mm_uc w.2.2.1 w.1.length (fun _ => 0), mm_uc w.2.2.2 w.1.length (fun _ => none)) : mm_W)) = r := by
  unfold mm_na at h
  split at h <;> cases h
  exact ⟨_, _, rfl, rfl⟩
def mm_nat (t : ArrayType) (L : mm_L) (st : List Value) (w : mm_W) : mm_Rs := match t with
  | .int => mm_na 0 L st w
  | .long => mm_na 2 L st w
  | _ => none
def mm_oi (L : mm_L) (st : List Value) (w : mm_W) : mm_Rs := match st with
  | .ref _ :: t => mm_cond (Nat.ble (mm_cat t) 8) (some (True, L, t, w))
  | _ => none
def mm_ma (k : Nat) (L : mm_L) (st : List Value) (w : mm_W) : mm_Rs := match k, st with
  | 0, .int y :: .int x :: t => mm_cond (Nat.ble (mm_cat t) 8) (some (True, L, .int (if x < y then y else x) :: t, w))
  | 1, .int x :: t => mm_cond (Nat.ble (mm_cat t) 8) (some (True, L, .int (if 0 ≤ x then x else 0 - x) :: t, w))
  | 2, .int y :: .int x :: t => mm_cond (Nat.ble (mm_cat t) 8) (some (True, L, .int (if y < x then y else x) :: t, w))
  | 3, .long y :: .long x :: t => mm_cond (Nat.ble (mm_cat t) 8) (some (True, L, .long (if y < x then y else x) :: t, w))
  | _, _ => none
def mm_ac (L : mm_L) (st : List Value) (w : mm_W) : mm_Rs := match st with
  | .int n :: .int dp :: .ref b :: .int sp :: .ref a :: t => mm_cond (Nat.ble (mm_cat t) 8)
      (cond (Nat.beq (mm_nth w.1 a).1 0 && Nat.beq (mm_nth w.1 b).1 0)
        (some ((¬ sp < 0 ∧ ¬ dp < 0 ∧ ¬ n < 0) ∧ sp.toNatClampNeg + n.toNatClampNeg ≤ (mm_nth w.1 a).2 ∧ dp.toNatClampNeg + n.toNatClampNeg ≤ (mm_nth w.1 b).2, L, t, (w.1, mm_uc w.2.1 b (va_cpy (w.2.1 a) (w.2.1 b) sp.toNatClampNeg dp.toNatClampNeg n.toNatClampNeg), w.2.2)))
        (mm_cond (Nat.beq (mm_nth w.1 a).1 2 && Nat.beq (mm_nth w.1 b).1 2)
          (some ((¬ sp < 0 ∧ ¬ dp < 0 ∧ ¬ n < 0) ∧ sp.toNatClampNeg + n.toNatClampNeg ≤ (mm_nth w.1 a).2 ∧ dp.toNatClampNeg + n.toNatClampNeg ≤ (mm_nth w.1 b).2, L, t, (w.1, w.2.1, mm_uc w.2.2.1 b (va_cpy (w.2.2.1 a) (w.2.2.1 b) sp.toNatClampNeg dp.toNatClampNeg n.toNatClampNeg), w.2.2.2)))))
  | _ => none
/-- the straight instructions: what must hold, and what then stands -/
def mm_seq (i : Instr) (L : mm_L) (st : List Value) (w : mm_W) : mm_Rs := match i with
  | .iconst n => some (True, L, .int (Int32.ofInt n) :: st, w)
  | .goto_w n => some (True, L, .long (Int64.ofInt n) :: st, w)
  | .iload n => mm_ldi n L st w
  | .lload n => mm_ldl n L st w
  | .aload n => mm_lda n L st w
  | .istore n => mm_sti n L st w
  | .lstore n => mm_stl n L st w
  | .astore n => mm_sta n L st w
  | .iinc n d => mm_inc n d L st w
  | .iadd => mm_ii (fun x y => x + y) L st w
  | .isub => mm_ii (fun x y => x - y) L st w
  | .imul => mm_ii (fun x y => x * y) L st w
  | .iand => mm_ii (fun x y => x &&& y) L st w
  | .ior => mm_ii (fun x y => x ||| y) L st w
  | .ixor => mm_ii (fun x y => x ^^^ y) L st w
  | .ishl => mm_ii (fun x y => x <<< (y &&& 31)) L st w
  | .ishr => mm_ii (fun x y => x >>> (y &&& 31)) L st w
  | .iushr => mm_ii (fun x y => (x.toUInt32 >>> (y.toUInt32 &&& Int32.toUInt32 31)).toInt32) L st w
  | .idiv => mm_in (fun x y => x / y) L st w
  | .irem => mm_in (fun x y => x - x / y * y) L st w
  | .ineg => mm_i1 (fun x => .int (-x)) L st w
  | .i2l => mm_i1 (fun x => .long x.toInt64) L st w
  | .l2i => mm_j1 (fun x => .int x.toInt32) L st w
  | .i2b => mm_i1 (fun x => .int x.toInt8.toInt32) L st w
  | .i2s => mm_i1 (fun x => .int x.toInt16.toInt32) L st w
  | .ladd => mm_jj (fun x y => x + y) L st w
  | .lsub => mm_jj (fun x y => x - y) L st w
  | .lmul => mm_jj (fun x y => x * y) L st w
  | .land => mm_jj (fun x y => x &&& y) L st w
  | .lor => mm_jj (fun x y => x ||| y) L st w
  | .ldiv => mm_jn (fun x y => x / y) L st w
  | .lrem => mm_jn (fun x y => x - x / y * y) L st w
  | .lshl => mm_ij (fun x y => x <<< (y.toInt64 &&& 63)) L st w
  | .lcmp => mm_ji lg_cmp L st w
  | .dup => mm_dup L st w
  | .dup2 => mm_dup2 L st w
  | .pop => mm_pop L st w
  | .aconst_null => some (True, L, .null :: st, w)
  | .getstatic k => mm_cond (Nat.blt k 7 && Nat.blt 0 k) (some (True, L, .ref k :: st, w))
  | .arraylength => mm_len L st w
  | .iaload => mm_ald (fun k => Nat.beq k 0 || Nat.beq k 4) (fun w k i => .int (w.2.1 k i)) L st w
  | .baload => mm_ald (fun k => Nat.beq k 1) (fun w k i => .int (w.2.1 k i)) L st w
  | .laload => mm_ald (fun k => Nat.beq k 2 || Nat.beq k 5) (fun w k i => .long (w.2.2.1 k i)) L st w
  | .aaload => mm_ald (fun k => Nat.beq k 3) (fun w k i => va_rf (w.2.2.2 k i)) L st w
  | .iastore => mm_ist 0 (fun x => x) L st w
  | .bastore => mm_ist 1 (vp_nar .boolean) L st w
  | .lastore => mm_jst L st w
  | .aastore => mm_rst L st w
  | .getfield e => mm_gf e L st w
  | .putfield e => mm_pf e L st w
  | .new ci => mm_nw ci L st w
  | .newarray t => mm_nat t L st w
  | .anewarray _ => mm_na 3 L st w
  | .monitorenter => mm_oi L st w
  | .ldc k => mm_ma k L st w
  | .monitorexit => mm_ac L st w
  | _ => none
def mm_c2 (c : ClassFile.Cond) (x y : Int32) (t f : Nat) : Nat := match c with
  | .eq => if x = y then t else f
  | .ne => if x = y then f else t
  | .lt => if x < y then t else f
  | .ge => if y ≤ x then t else f
  | .gt => if y < x then t else f
  | .le => if x ≤ y then t else f
def mm_tgt (pc : Nat) (d : Int) : Nat := ((pc : Int) + d).toNat
/-- the branches: whither, and what is left on the stack -/
def mm_br (i : Instr) (pc : Nat) (st : List Value) : Option (Nat × List Value) := match i with
  | .goto d => cond (decide (0 ≤ (pc : Int) + d)) (some (mm_tgt pc d, st)) none
  | .ifCond c d => match st with
    | .int x :: t => cond (decide (0 ≤ (pc : Int) + d)) (some (mm_c2 c x 0 (mm_tgt pc d) (pc + 3), t)) none
    | _ => none
  | .if_icmp c d => match st with
    | .int y :: .int x :: t => cond (decide (0 ≤ (pc : Int) + d)) (some (mm_c2 c x y (mm_tgt pc d) (pc + 3), t)) none
    | _ => none
  | .ifnull d => match st with
    | .null :: t => cond (decide (0 ≤ (pc : Int) + d)) (some (mm_tgt pc d, t)) none
    | .ref _ :: t => some (pc + 3, t)
    | _ => none
  | .ifnonnull d => match st with
    | .null :: t => some (pc + 3, t)
    | .ref _ :: t => cond (decide (0 ≤ (pc : Int) + d)) (some (mm_tgt pc d, t)) none
    | _ => none
  | .tableswitch d lo hi os => match st with
    | .int x :: t => cond (os.all (fun q => decide (0 ≤ (pc : Int) + q)) && decide (0 ≤ (pc : Int) + d) && decide (os.size = (hi - lo + 1).toNat))
      (some (if x.toInt < lo ∨ hi < x.toInt then mm_tgt pc d else mm_tgt pc (os.toList.getD (x.toInt - lo).toNat 0), t)) none
    | _ => none
  | .lookupswitch d ps => match st with
    | .int x :: t => cond (ps.all (fun q => decide (0 ≤ (pc : Int) + q.2)) && decide (0 ≤ (pc : Int) + d) && (ps.toList.zip (ps.toList.drop 1)).all (fun (a, next) => a.1 < next.1))
      (some (mm_tgt pc (Op.lookupswitch.offset ps.toList d x.toInt), t)) none
    | _ => none
  | _ => none
def mm_ret (i : Instr) (rt : Option FieldType) (st : List Value) (r : Option Value) : Prop := match i, rt, st with
  | .ireturn, some .int, [.int x] => r = some (.int x)
  | .ireturn, some .boolean, [.int x] => (x = 0 ∨ x = 1) ∧ r = some (.int x)
  | .lreturn, some .long, [.long x] => r = some (.long x)
  | .areturn, some (.object _), [.ref x] => r = some (.ref x)
  | .areturn, some (.object _), [.null] => r = some .null
  | .return_, none, [] => r = none
  | _, _, _ => False
/-- the calls: the method, its arguments, what is left on the stack -/
def mm_call (i : Instr) (st : List Value) (w : mm_W) : Option (Nat × List Value × List Value) := match i with
  | .invokestatic e => cond (Nat.ble (e % 16) st.length && Nat.ble (mm_cat (st.drop (e % 16))) 8) (some (e / 16, (st.take (e % 16)).reverse, st.drop (e % 16))) none
  | .invokevirtual e => match st.drop (e % 16) with
    | .ref k :: t => cond (Nat.ble (mm_cat t) 8 && Nat.beq (mm_nth w.1 k).1 ((mm_me (e / 16)).1 + 10)) (some (e / 16, .ref k :: (st.take (e % 16)).reverse, t)) none
    | _ => none
  | .invokespecial e => match st.drop (e % 16) with
    | .ref k :: t => cond (Nat.ble (mm_cat t) 8) (some (e / 16, .ref k :: (st.take (e % 16)).reverse, t)) none
    | _ => none
  | _ => none
/-- how a method begins -/
def mm_ini (n : Nat) (as : List Value) : mm_L := match as with
  | [] => List.replicate n none
  | v :: t => cond (Nat.beq v.category 2) (some v :: none :: mm_ini (n - 2) t) (some v :: mm_ini (n - 1) t)
abbrev mm_Cl : Type := Nat → List Value → mm_W → Option Value → mm_W → Prop
/-- in n steps it returns r, with the world w1 behind it -/
def mm_Ex (Cl : mm_Cl) (o : Nat) (ini : Bool) (cc : ByteArray) (rt : Option FieldType) : Nat → Nat → mm_L → List Value → mm_W → Option Value → mm_W → Prop
  | 0, _, _, _, _, _, _ => False
  | n + 1, pc, L, st, w, r, w1 => ∃ (i : Instr) (len : Nat) (j : Instr), decode cc pc = .ok (i, len) ∧ mm_res o ini i len = some j ∧
    ((∃ (P : Prop) (L' : mm_L) (st' : List Value) (w' : mm_W), mm_seq j L st w = some (P, L', st', w') ∧ P ∧ mm_Ex Cl o ini cc rt n (pc + len) L' st' w' r w1) ∨
     (∃ (pc' : Nat) (st' : List Value), mm_br j pc st = some (pc', st') ∧ mm_Ex Cl o ini cc rt n pc' L st' w r w1) ∨
     (mm_ret j rt st r ∧ w1 = w) ∨
     (∃ (y : Nat) (as t : List Value) (r' : Option Value) (w' : mm_W), mm_call j st w = some (y, as, t) ∧ Cl y as w r' w' ∧ mm_Ex Cl o ini cc rt n (pc + 3) L (r'.toList ++ t) w' r w1))
/-- method y, calls at most d deep -/
def mm_Runs : Nat → mm_Cl
  | 0 => fun _ _ _ _ _ => False
  | d + 1 => fun y as w r w1 => (mm_ini (mm_me y).2.2.2.1 as).length = (mm_me y).2.2.2.1 ∧ y < mm_meL.length ∧
    ∃ n, mm_Ex (mm_Runs d) (mm_me y).1 (decide ((mm_me y).2.1.name = "<init>")) (mm_me y).2.2.1 (mm_me y).2.2.2.2.1 n 0 (mm_ini (mm_me y).2.2.2.1 as) [] w r w1
