/-! each straight instruction of the pure machine is one of the machine over the heap that holds the pure world -/
def mm_lyL : List (List Nat) := [[284, 286, 288, 290, 292], [156, 158, 160, 162, 164], [216, 218, 220, 222, 224, 226, 228, 230, 232, 234, 236, 238, 240], [269, 271, 273], [50, 52], [66, 68, 70, 72], [252, 254, 256, 258], [183, 185, 187, 189, 191, 193, 195, 197, 199, 201], [111, 113, 115, 117, 119], [134, 136, 138, 140, 142], [88, 90, 92, 94, 96, 98, 100], [306, 308, 310, 312, 314, 316, 318, 320, 322, 324, 326]]
def mm_rg (n : Nat) (f : Nat → Prop) : Prop := ∀ k ∈ List.range n, f k
theorem mm_ly_ok : ∀ ci ∈ List.range 12, ∀ k ∈ List.range (mm_n ci), lw_tbl[((mm_lyL.getD ci []).getD k 0)]? = some (u_lay (mm_R ci) (mm_T ci) k) ∧ goodWord (u_lay (mm_R ci) (mm_T ci) k) = true := by decide +kernel
theorem mm_uws {ci : Nat} (h : ci < 12) : ∀ w ∈ u_ws (mm_R ci) (mm_T ci) (mm_n ci), w ∈ mm_wds := by
  intro w hw
  obtain ⟨k, hk, rfl⟩ := List.mem_map.mp hw
  obtain ⟨h1, h2⟩ := mm_ly_ok ci (List.mem_range.mpr h) k hk
  exact mm_wds_in h1 h2
theorem mm_vwCl {ci : Nat} (h : ci < 12) : vwCl[ci]? = some (mm_R ci, mm_T ci, mm_n ci) := by
  rcases (show ci = 0 ∨ ci = 1 ∨ ci = 2 ∨ ci = 3 ∨ ci = 4 ∨ ci = 5 ∨ ci = 6 ∨ ci = 7 ∨ ci = 8 ∨ ci = 9 ∨ ci = 10 ∨ ci = 11 by omega) with rfl | rfl | rfl | rfl | rfl | rfl | rfl | rfl | rfl | rfl | rfl | rfl <;> rfl
theorem mm_tyk {ci : Nat} (h : ci < 12) : ∀ k, k < mm_n ci → parseFieldDescriptor (mm_T ci k).2.2.1 = some (mm_ty ci k) := by
  rcases (show ci = 0 ∨ ci = 1 ∨ ci = 2 ∨ ci = 3 ∨ ci = 4 ∨ ci = 5 ∨ ci = 6 ∨ ci = 7 ∨ ci = 8 ∨ ci = 9 ∨ ci = 10 ∨ ci = 11 by omega) with rfl | rfl | rfl | rfl | rfl | rfl | rfl | rfl | rfl | rfl | rfl | rfl
  · exact tyX0_ok
  · exact tyX1_ok
  · exact tyX2_ok
  · exact tyX3_ok
  · exact tyX4_ok
  · exact tyX5_ok
  · exact tyX6_ok
  · exact tyX7_ok
  · exact tyX8_ok
  · exact tyX9_ok
  · exact tyX10_ok
  · exact tyX11_ok
theorem mm_nmk {ci : Nat} (h : ci < 12) : ∀ a, a < mm_n ci → ∀ b, b < mm_n ci → a ≠ b → (mm_T ci a).2.1 ≠ (mm_T ci b).2.1 := by
  rcases (show ci = 0 ∨ ci = 1 ∨ ci = 2 ∨ ci = 3 ∨ ci = 4 ∨ ci = 5 ∨ ci = 6 ∨ ci = 7 ∨ ci = 8 ∨ ci = 9 ∨ ci = 10 ∨ ci = 11 by omega) with rfl | rfl | rfl | rfl | rfl | rfl | rfl | rfl | rfl | rfl | rfl | rfl
  · exact nmX0
  · exact nmX1
  · exact nmX2
  · exact nmX3
  · exact nmX4
  · exact nmX5
  · exact nmX6
  · exact nmX7
  · exact nmX8
  · exact nmX9
  · exact nmX10
  · exact nmX11
def mm_zv (ty : FieldType) : Value := match ty with
  | .int => .int 0
  | .boolean => .int 0
  | .long => .long 0
  | _ => .null
theorem mm_zv_ok : ∀ ci ∈ List.range 12, ∀ k ∈ List.range (mm_n ci), defaultValue (mm_ty ci k) = mm_zv (mm_ty ci k) := by decide +kernel
theorem mm_n48 {ci : Nat} (h : ci < 12) : mm_n ci ≤ 48 := by
  rcases (show ci = 0 ∨ ci = 1 ∨ ci = 2 ∨ ci = 3 ∨ ci = 4 ∨ ci = 5 ∨ ci = 6 ∨ ci = 7 ∨ ci = 8 ∨ ci = 9 ∨ ci = 10 ∨ ci = 11 by omega) with rfl | rfl | rfl | rfl | rfl | rfl | rfl | rfl | rfl | rfl | rfl | rfl <;> decide
def mm_tys (cT : Nat → ClassId) : List (ClassId × FieldType) := [(cT 0, .int), (cT 1, .int), (cT 2, .long), (cT 3, .object RX8)]
def mm_A (base : Nat) : Nat → Prop := fun q => base ≤ q
def mm_sts (base : Nat) (ro : Nat → Nat) (U : State) : Prop := ∀ q ∈ mm_staL, va_Z q.2.2.2.1 q.2.2.2.2.1 q.2.2.2.2.2 (.ref (ro q.2.2.1)) (mm_A base) U U.heap
def mm_nests (U : State) : Prop := ∀ w ∈ lw_tbl, mm_nest w = true → va_Nw w U
/-- what is fixed in a method's run -/
def mm_Cx (p : Program) (R : Room) (s : State) (m : MethodId) (args : Array Value) (meth : Method) (c : Code) (o : Nat) (ini : Bool) (cc : ByteArray) (nL : Nat) (D : va_G) (cT : Nat → ClassId) (base : Nat) (ro : Nat → Nat) : Prop :=
  p.tables.exec = Jvm.exec ∧ c.code = cc ∧ c.maxLocals = nL ∧ s.vm.findClass (mm_R o) = some m.cls ∧ (∀ w ∈ mm_wds, w.before args s = true) ∧ mm_nests s ∧ (ini = true → meth.name = "<init>") ∧ va_K D vwCl (mm_tys cT) s ∧ mm_sts base ro s ∧ va_AO RX8 s ∧ 1 ≤ R.frames ∧ 100 ≤ R.locals
/-- a point of it: the heap holds the pure world w; w0 was the method's first -/
def mm_Pt (D : va_G) (cT : Nat → ClassId) (base : Nat) (ro : Nat → Nat) (s : State) (w0 : mm_W) (H : Heap) (locs : List Loc) (cells slots : Nat) (w : mm_W) : Prop :=
  mm_H D cT base ro s H w ∧ va_S (mm_A base) s.heap H locs ∧ w0.1.length + cells = w.1.length ∧ mm_sl w0.1 + slots = mm_sl w.1 ∧ (s.heap.size + 7 = base + w0.1.length ∧ 7 ≤ w0.1.length)
theorem mm_c1 {α : Type} {b : Bool} {x y : α} (h : cond b (some x) none = some y) : b = true ∧ x = y := by
  cases b
  · cases h
  · exact ⟨rfl, Option.some.inj h⟩
theorem mm_c2' {α : Type} {b : Bool} {x : Option α} {y : α} (h : cond b x none = some y) : b = true ∧ x = some y := by
  cases b
  · cases h
  · exact ⟨rfl, h⟩
section MMS
variable {p : Program} {l : Launch} {e : Env} {R : Room} {s : State} {m : MethodId} {args : Array Value} {below : List Frame} {meth : Method} {c : Code} {H : Heap} {locs : List Loc} {cells slots : Nat} {Q : State → Prop}
variable {cc : ByteArray} {pc len nL o : Nat} {ini : Bool} {ls : Array Slot} {L L' : mm_L} {st st' : List Value} {w w' w0 : mm_W} {D : va_G} {cT : Nat → ClassId} {base : Nat} {ro : Nat → Nat} {P : Prop} {j : Instr}
/-- what goes on behind an instruction -/
def mm_KK (p : Program) (l : Launch) (e : Env) (R : Room) (s : State) (m : MethodId) (args : Array Value) (below : List Frame) (meth : Method) (c : Code) (Q : State → Prop) (nL : Nat) (D : va_G) (cT : Nat → ClassId) (base : Nat) (ro : Nat → Nat) (w0 : mm_W) (pc : Nat) (L : mm_L) (st : List Value) (w : mm_W) : Prop :=
  ∀ (H : Heap) (locs : List Loc) (cells slots : Nat) (ls : Array Slot), mm_LH (mm_ad base ro) ls nL L → mm_Pt D cT base ro s w0 H locs cells slots w → W p l e R s m args below meth c H locs cells slots Q (F0 m pc ls (st.map (mm_cv (mm_ad base ro))))
theorem mm_Cx.has (C : mm_Cx p R s m args meth c o ini cc nL D cT base ro) {n : Nat} {x : Jvm.Cond} (h : lw_tbl[n]? = some x) (hg : goodWord x = true) : x.before args s = true := C.2.2.2.2.1 x (mm_wds_in h hg)
theorem mm_Pt.at (h : mm_Pt D cT base ro s w0 H locs cells slots w) {k : Nat} (h4 : (mm_nth w.1 k).1 ≠ 4) (h5 : (mm_nth w.1 k).1 ≠ 5) (h9 : (mm_nth w.1 k).1 ≠ 99) : (mm_all cT base ro w)[k - 7]? = some (mm_ad base ro k, mm_cell cT (mm_ad base ro) w k) := h.1.at h4 h5 h9
theorem mm_Pt.sets (h : mm_Pt D cT base ro s w0 H locs cells slots w) {k : Nat} {H1 : Heap} {locs1 : List Loc} {ce : va_E} (ho : mm_off k w w') (h4 : (mm_nth w.1 k).1 ≠ 4) (h5 : (mm_nth w.1 k).1 ≠ 5) (h9 : (mm_nth w.1 k).1 ≠ 99) (hP : va_P D vwCl ((mm_all cT base ro w).set (k - 7) (mm_ad base ro k, ce)) H1) (hc : ce = mm_cell cT (mm_ad base ro) w' k) (hS : va_S (mm_A base) s.heap H1 locs1) : mm_Pt D cT base ro s w0 H1 locs1 cells slots w' := by
  subst hc
  exact ⟨h.1.set ho h4 h5 h9 hP, hS, by rw [ho.1]; exact h.2.2.1, by rw [ho.1]; exact h.2.2.2.1, h.2.2.2.2⟩
theorem mm_Pt.ro4 (h : mm_Pt D cT base ro s w0 H locs cells slots w) {k : Nat} (h4 : (mm_nth w.1 k).1 = 4) : mm_ad base ro k = ro k ∧ va_T .int (ro k) (mm_nth w.1 k).2 (fun j => .int (w.2.1 k j)) (mm_A base) s s.heap := by
  rcases Nat.lt_or_ge k 7 with h1 | h1
  · refine ⟨if_pos h1, ?_⟩
    rcases h.1.2.2.1 k h1 with ⟨-, q⟩ | ⟨q, -⟩
    · exact q
    · rw [h4] at q; cases q
  · exact absurd h4 (h.1.2.2.2 k h1).1
theorem mm_Pt.ro5 (h : mm_Pt D cT base ro s w0 H locs cells slots w) {k : Nat} (h5 : (mm_nth w.1 k).1 = 5) : mm_ad base ro k = ro k ∧ va_T .long (ro k) (mm_nth w.1 k).2 (fun j => .long (w.2.2.1 k j)) (mm_A base) s s.heap := by
  rcases Nat.lt_or_ge k 7 with h1 | h1
  · refine ⟨if_pos h1, ?_⟩
    rcases h.1.2.2.1 k h1 with ⟨q, -⟩ | ⟨-, q⟩
    · rw [h5] at q; cases q
    · exact q
  · exact absurd h5 (h.1.2.2.2 k h1).2
theorem mm_k_iconst {n : Int} (C : mm_Cx p R s m args meth c o ini cc nL D cT base ro) (hl : mm_LH (mm_ad base ro) ls nL L) (hp : mm_Pt D cT base ro s w0 H locs cells slots w) (hroom : w'.1.length ≤ w0.1.length + R.cells ∧ mm_sl w'.1 ≤ mm_sl w0.1 + R.slots) (hj : mm_seq j L st w = some (P, L', st', w')) (hP : P) (kk : mm_KK p l e R s m args below meth c Q nL D cT base ro w0 (pc + len) L' st' w') (hd : decode cc pc = .ok (.iconst n, len)) (hr : mm_res o ini (.iconst n) len = some j) : W p l e R s m args below meth c H locs cells slots Q (F0 m pc ls (st.map (mm_cv (mm_ad base ro)))) := by
  obtain ⟨hb1, rfl⟩ := mm_c1 (show cond (Nat.beq len 1) (some (.iconst n)) none = some j from hr)
  obtain rfl := Nat.eq_of_beq_eq_true hb1
  cases hj
  exact lv_iconst C.1 C.2.1 hd rfl (kk _ _ _ _ _ hl hp)
theorem mm_k_bipush {n : Int} (C : mm_Cx p R s m args meth c o ini cc nL D cT base ro) (hl : mm_LH (mm_ad base ro) ls nL L) (hp : mm_Pt D cT base ro s w0 H locs cells slots w) (hroom : w'.1.length ≤ w0.1.length + R.cells ∧ mm_sl w'.1 ≤ mm_sl w0.1 + R.slots) (hj : mm_seq j L st w = some (P, L', st', w')) (hP : P) (kk : mm_KK p l e R s m args below meth c Q nL D cT base ro w0 (pc + len) L' st' w') (hd : decode cc pc = .ok (.bipush n, len)) (hr : mm_res o ini (.bipush n) len = some j) : W p l e R s m args below meth c H locs cells slots Q (F0 m pc ls (st.map (mm_cv (mm_ad base ro)))) := by
  obtain ⟨hb1, hr⟩ := mm_c2' (show cond (Nat.beq len 2) (cond (decide ((Int8.ofInt n).toInt32 = Int32.ofInt n)) (some (Instr.iconst n)) none) none = some j from hr)
  obtain rfl := Nat.eq_of_beq_eq_true hb1
  obtain ⟨hb2, rfl⟩ := mm_c1 hr
  cases hj
  exact lv_bipush C.1 C.2.1 hd (of_decide_eq_true hb2) (kk _ _ _ _ _ hl hp)
theorem mm_k_sipush {n : Int} (C : mm_Cx p R s m args meth c o ini cc nL D cT base ro) (hl : mm_LH (mm_ad base ro) ls nL L) (hp : mm_Pt D cT base ro s w0 H locs cells slots w) (hroom : w'.1.length ≤ w0.1.length + R.cells ∧ mm_sl w'.1 ≤ mm_sl w0.1 + R.slots) (hj : mm_seq j L st w = some (P, L', st', w')) (hP : P) (kk : mm_KK p l e R s m args below meth c Q nL D cT base ro w0 (pc + len) L' st' w') (hd : decode cc pc = .ok (.sipush n, len)) (hr : mm_res o ini (.sipush n) len = some j) : W p l e R s m args below meth c H locs cells slots Q (F0 m pc ls (st.map (mm_cv (mm_ad base ro)))) := by
  obtain ⟨hb1, hr⟩ := mm_c2' (show cond (Nat.beq len 3) (cond (decide ((Int16.ofInt n).toInt32 = Int32.ofInt n)) (some (Instr.iconst n)) none) none = some j from hr)
  obtain rfl := Nat.eq_of_beq_eq_true hb1
  obtain ⟨hb2, rfl⟩ := mm_c1 hr
  cases hj
  exact lv_sipush C.1 C.2.1 hd (of_decide_eq_true hb2) (kk _ _ _ _ _ hl hp)
theorem mm_k_ldc {x : Nat} (C : mm_Cx p R s m args meth c o ini cc nL D cT base ro) (hl : mm_LH (mm_ad base ro) ls nL L) (hp : mm_Pt D cT base ro s w0 H locs cells slots w) (hroom : w'.1.length ≤ w0.1.length + R.cells ∧ mm_sl w'.1 ≤ mm_sl w0.1 + R.slots) (hj : mm_seq j L st w = some (P, L', st', w')) (hP : P) (kk : mm_KK p l e R s m args below meth c Q nL D cT base ro w0 (pc + len) L' st' w') (hd : decode cc pc = .ok (.ldc x, len)) (hr : mm_res o ini (.ldc x) len = some j) : W p l e R s m args below meth c H locs cells slots Q (F0 m pc ls (st.map (mm_cv (mm_ad base ro)))) := by
  obtain ⟨hb1, hr⟩ := mm_c2' (show cond (Nat.beq len 2) ((mm_look mm_conL o x).map Instr.iconst) none = some j from hr)
  obtain rfl := Nat.eq_of_beq_eq_true hb1
  obtain ⟨z, hz, rfl⟩ := Option.map_eq_some_iff.mp hr
  obtain ⟨n, hn⟩ := mm_look_in hz
  cases hj
  exact lv_ldc C.1 C.2.1 C.2.2.2.1 (C.has (mm_con_ok _ hn) rfl) hd (kk _ _ _ _ _ hl hp)
theorem mm_k_ldc_w {x : Nat} (C : mm_Cx p R s m args meth c o ini cc nL D cT base ro) (hl : mm_LH (mm_ad base ro) ls nL L) (hp : mm_Pt D cT base ro s w0 H locs cells slots w) (hroom : w'.1.length ≤ w0.1.length + R.cells ∧ mm_sl w'.1 ≤ mm_sl w0.1 + R.slots) (hj : mm_seq j L st w = some (P, L', st', w')) (hP : P) (kk : mm_KK p l e R s m args below meth c Q nL D cT base ro w0 (pc + len) L' st' w') (hd : decode cc pc = .ok (.ldc_w x, len)) (hr : mm_res o ini (.ldc_w x) len = some j) : W p l e R s m args below meth c H locs cells slots Q (F0 m pc ls (st.map (mm_cv (mm_ad base ro)))) := by
  obtain ⟨hb1, hr⟩ := mm_c2' (show cond (Nat.beq len 3) ((mm_look mm_conL o x).map Instr.iconst) none = some j from hr)
  obtain rfl := Nat.eq_of_beq_eq_true hb1
  obtain ⟨z, hz, rfl⟩ := Option.map_eq_some_iff.mp hr
  obtain ⟨n, hn⟩ := mm_look_in hz
  cases hj
  exact lv_ldcw C.1 C.2.1 C.2.2.2.1 (C.has (mm_con_ok _ hn) rfl) hd (kk _ _ _ _ _ hl hp)
theorem mm_k_lconst {n : Fin 2} (C : mm_Cx p R s m args meth c o ini cc nL D cT base ro) (hl : mm_LH (mm_ad base ro) ls nL L) (hp : mm_Pt D cT base ro s w0 H locs cells slots w) (hroom : w'.1.length ≤ w0.1.length + R.cells ∧ mm_sl w'.1 ≤ mm_sl w0.1 + R.slots) (hj : mm_seq j L st w = some (P, L', st', w')) (hP : P) (kk : mm_KK p l e R s m args below meth c Q nL D cT base ro w0 (pc + len) L' st' w') (hd : decode cc pc = .ok (.lconst n, len)) (hr : mm_res o ini (.lconst n) len = some j) : W p l e R s m args below meth c H locs cells slots Q (F0 m pc ls (st.map (mm_cv (mm_ad base ro)))) := by
  obtain ⟨hb1, hr⟩ := mm_c2' (show cond (Nat.beq len 1) (cond (decide (Int64.ofNat (n : Nat) = Int64.ofInt ((n : Nat) : Int))) (some (Instr.goto_w ((n : Nat) : Int))) none) none = some j from hr)
  obtain rfl := Nat.eq_of_beq_eq_true hb1
  obtain ⟨hb2, rfl⟩ := mm_c1 hr
  cases hj
  exact lv_lconst C.1 C.2.1 hd (of_decide_eq_true hb2) (kk _ _ _ _ _ hl hp)
theorem mm_k_ldc2_w {x : Nat} (C : mm_Cx p R s m args meth c o ini cc nL D cT base ro) (hl : mm_LH (mm_ad base ro) ls nL L) (hp : mm_Pt D cT base ro s w0 H locs cells slots w) (hroom : w'.1.length ≤ w0.1.length + R.cells ∧ mm_sl w'.1 ≤ mm_sl w0.1 + R.slots) (hj : mm_seq j L st w = some (P, L', st', w')) (hP : P) (kk : mm_KK p l e R s m args below meth c Q nL D cT base ro w0 (pc + len) L' st' w') (hd : decode cc pc = .ok (.ldc2_w x, len)) (hr : mm_res o ini (.ldc2_w x) len = some j) : W p l e R s m args below meth c H locs cells slots Q (F0 m pc ls (st.map (mm_cv (mm_ad base ro)))) := by
  obtain ⟨hb1, hr⟩ := mm_c2' (show cond (Nat.beq len 3) ((mm_look mm_lonL o x).map Instr.goto_w) none = some j from hr)
  obtain rfl := Nat.eq_of_beq_eq_true hb1
  obtain ⟨z, hz, rfl⟩ := Option.map_eq_some_iff.mp hr
  obtain ⟨n, hn⟩ := mm_look_in hz
  cases hj
  exact lv_ldc2 C.1 C.2.1 C.2.2.2.1 (C.has (mm_lon_ok _ hn) rfl) hd (kk _ _ _ _ _ hl hp)
theorem mm_k_iload_n {n : Fin 4} (C : mm_Cx p R s m args meth c o ini cc nL D cT base ro) (hl : mm_LH (mm_ad base ro) ls nL L) (hp : mm_Pt D cT base ro s w0 H locs cells slots w) (hroom : w'.1.length ≤ w0.1.length + R.cells ∧ mm_sl w'.1 ≤ mm_sl w0.1 + R.slots) (hj : mm_seq j L st w = some (P, L', st', w')) (hP : P) (kk : mm_KK p l e R s m args below meth c Q nL D cT base ro w0 (pc + len) L' st' w') (hd : decode cc pc = .ok (.iload_n n, len)) (hr : mm_res o ini (.iload_n n) len = some j) : W p l e R s m args below meth c H locs cells slots Q (F0 m pc ls (st.map (mm_cv (mm_ad base ro)))) := by
  obtain ⟨hb1, rfl⟩ := mm_c1 (show cond (Nat.beq len 1) (some (Instr.iload n)) none = some j from hr)
  obtain rfl := Nat.eq_of_beq_eq_true hb1
  obtain ⟨x, hx, he⟩ := mm_ldi_inv hj
  cases he
  exact lv_iload_n C.1 C.2.1 hd rfl (hl.2.2.2 _ _ hx) (kk _ _ _ _ _ hl hp)
theorem mm_k_iload {n : Nat} (C : mm_Cx p R s m args meth c o ini cc nL D cT base ro) (hl : mm_LH (mm_ad base ro) ls nL L) (hp : mm_Pt D cT base ro s w0 H locs cells slots w) (hroom : w'.1.length ≤ w0.1.length + R.cells ∧ mm_sl w'.1 ≤ mm_sl w0.1 + R.slots) (hj : mm_seq j L st w = some (P, L', st', w')) (hP : P) (kk : mm_KK p l e R s m args below meth c Q nL D cT base ro w0 (pc + len) L' st' w') (hd : decode cc pc = .ok (.iload n, len)) (hr : mm_res o ini (.iload n) len = some j) : W p l e R s m args below meth c H locs cells slots Q (F0 m pc ls (st.map (mm_cv (mm_ad base ro)))) := by
  obtain ⟨hb1, rfl⟩ := mm_c1 (show cond (Nat.beq len 2) (some (Instr.iload n)) none = some j from hr)
  obtain rfl := Nat.eq_of_beq_eq_true hb1
  obtain ⟨x, hx, he⟩ := mm_ldi_inv hj
  cases he
  exact lv_iload C.1 C.2.1 hd (hl.2.2.2 _ _ hx) (kk _ _ _ _ _ hl hp)
theorem mm_k_lload_n {n : Fin 4} (C : mm_Cx p R s m args meth c o ini cc nL D cT base ro) (hl : mm_LH (mm_ad base ro) ls nL L) (hp : mm_Pt D cT base ro s w0 H locs cells slots w) (hroom : w'.1.length ≤ w0.1.length + R.cells ∧ mm_sl w'.1 ≤ mm_sl w0.1 + R.slots) (hj : mm_seq j L st w = some (P, L', st', w')) (hP : P) (kk : mm_KK p l e R s m args below meth c Q nL D cT base ro w0 (pc + len) L' st' w') (hd : decode cc pc = .ok (.lload_n n, len)) (hr : mm_res o ini (.lload_n n) len = some j) : W p l e R s m args below meth c H locs cells slots Q (F0 m pc ls (st.map (mm_cv (mm_ad base ro)))) := by
  obtain ⟨hb1, rfl⟩ := mm_c1 (show cond (Nat.beq len 1) (some (Instr.lload n)) none = some j from hr)
  obtain rfl := Nat.eq_of_beq_eq_true hb1
  obtain ⟨x, hx, he⟩ := mm_ldl_inv hj
  cases he
  exact lv_lload_n C.1 C.2.1 hd rfl (hl.2.2.2 _ _ hx) (kk _ _ _ _ _ hl hp)
theorem mm_k_lload {n : Nat} (C : mm_Cx p R s m args meth c o ini cc nL D cT base ro) (hl : mm_LH (mm_ad base ro) ls nL L) (hp : mm_Pt D cT base ro s w0 H locs cells slots w) (hroom : w'.1.length ≤ w0.1.length + R.cells ∧ mm_sl w'.1 ≤ mm_sl w0.1 + R.slots) (hj : mm_seq j L st w = some (P, L', st', w')) (hP : P) (kk : mm_KK p l e R s m args below meth c Q nL D cT base ro w0 (pc + len) L' st' w') (hd : decode cc pc = .ok (.lload n, len)) (hr : mm_res o ini (.lload n) len = some j) : W p l e R s m args below meth c H locs cells slots Q (F0 m pc ls (st.map (mm_cv (mm_ad base ro)))) := by
  obtain ⟨hb1, rfl⟩ := mm_c1 (show cond (Nat.beq len 2) (some (Instr.lload n)) none = some j from hr)
  obtain rfl := Nat.eq_of_beq_eq_true hb1
  obtain ⟨x, hx, he⟩ := mm_ldl_inv hj
  cases he
  exact lv_lload C.1 C.2.1 hd (hl.2.2.2 _ _ hx) (kk _ _ _ _ _ hl hp)
theorem mm_k_aload_n {n : Fin 4} (C : mm_Cx p R s m args meth c o ini cc nL D cT base ro) (hl : mm_LH (mm_ad base ro) ls nL L) (hp : mm_Pt D cT base ro s w0 H locs cells slots w) (hroom : w'.1.length ≤ w0.1.length + R.cells ∧ mm_sl w'.1 ≤ mm_sl w0.1 + R.slots) (hj : mm_seq j L st w = some (P, L', st', w')) (hP : P) (kk : mm_KK p l e R s m args below meth c Q nL D cT base ro w0 (pc + len) L' st' w') (hd : decode cc pc = .ok (.aload_n n, len)) (hr : mm_res o ini (.aload_n n) len = some j) : W p l e R s m args below meth c H locs cells slots Q (F0 m pc ls (st.map (mm_cv (mm_ad base ro)))) := by
  obtain ⟨hb1, rfl⟩ := mm_c1 (show cond (Nat.beq len 1) (some (Instr.aload n)) none = some j from hr)
  obtain rfl := Nat.eq_of_beq_eq_true hb1
  rcases mm_lda_inv hj with ⟨x, hx, he⟩ | ⟨hx, he⟩
  · cases he
    exact lv_aload_n C.1 C.2.1 hd rfl (hl.2.2.2 _ _ hx) (kk _ _ _ _ _ hl hp)
  · cases he
    exact lv_aload_nN C.1 C.2.1 hd rfl (hl.2.2.2 _ _ hx) (kk _ _ _ _ _ hl hp)
theorem mm_k_aload {n : Nat} (C : mm_Cx p R s m args meth c o ini cc nL D cT base ro) (hl : mm_LH (mm_ad base ro) ls nL L) (hp : mm_Pt D cT base ro s w0 H locs cells slots w) (hroom : w'.1.length ≤ w0.1.length + R.cells ∧ mm_sl w'.1 ≤ mm_sl w0.1 + R.slots) (hj : mm_seq j L st w = some (P, L', st', w')) (hP : P) (kk : mm_KK p l e R s m args below meth c Q nL D cT base ro w0 (pc + len) L' st' w') (hd : decode cc pc = .ok (.aload n, len)) (hr : mm_res o ini (.aload n) len = some j) : W p l e R s m args below meth c H locs cells slots Q (F0 m pc ls (st.map (mm_cv (mm_ad base ro)))) := by
  obtain ⟨hb1, rfl⟩ := mm_c1 (show cond (Nat.beq len 2) (some (Instr.aload n)) none = some j from hr)
  obtain rfl := Nat.eq_of_beq_eq_true hb1
  rcases mm_lda_inv hj with ⟨x, hx, he⟩ | ⟨hx, he⟩
  · cases he
    exact lv_aload C.1 C.2.1 hd (hl.2.2.2 _ _ hx) (kk _ _ _ _ _ hl hp)
  · cases he
    exact lv_aloadN C.1 C.2.1 hd (hl.2.2.2 _ _ hx) (kk _ _ _ _ _ hl hp)
theorem mm_k_istore_n {n : Fin 4} (C : mm_Cx p R s m args meth c o ini cc nL D cT base ro) (hl : mm_LH (mm_ad base ro) ls nL L) (hp : mm_Pt D cT base ro s w0 H locs cells slots w) (hroom : w'.1.length ≤ w0.1.length + R.cells ∧ mm_sl w'.1 ≤ mm_sl w0.1 + R.slots) (hj : mm_seq j L st w = some (P, L', st', w')) (hP : P) (kk : mm_KK p l e R s m args below meth c Q nL D cT base ro w0 (pc + len) L' st' w') (hd : decode cc pc = .ok (.istore_n n, len)) (hr : mm_res o ini (.istore_n n) len = some j) : W p l e R s m args below meth c H locs cells slots Q (F0 m pc ls (st.map (mm_cv (mm_ad base ro)))) := by
  obtain ⟨hb1, rfl⟩ := mm_c1 (show cond (Nat.beq len 1) (some (Instr.istore n)) none = some j from hr)
  obtain rfl := Nat.eq_of_beq_eq_true hb1
  obtain ⟨x, t, L1, rfl, hs, he⟩ := mm_sti_inv hj
  cases he
  have hi := mm_set1_lt hs
  rw [hl.2.1] at hi
  exact lv_istore_n C.1 C.2.1 hd rfl hl.has hi rfl (fun ls1 h1 => kk _ _ _ _ _ (mm_set1_ok hl hs h1) hp)
theorem mm_k_lstore_n {n : Fin 4} (C : mm_Cx p R s m args meth c o ini cc nL D cT base ro) (hl : mm_LH (mm_ad base ro) ls nL L) (hp : mm_Pt D cT base ro s w0 H locs cells slots w) (hroom : w'.1.length ≤ w0.1.length + R.cells ∧ mm_sl w'.1 ≤ mm_sl w0.1 + R.slots) (hj : mm_seq j L st w = some (P, L', st', w')) (hP : P) (kk : mm_KK p l e R s m args below meth c Q nL D cT base ro w0 (pc + len) L' st' w') (hd : decode cc pc = .ok (.lstore_n n, len)) (hr : mm_res o ini (.lstore_n n) len = some j) : W p l e R s m args below meth c H locs cells slots Q (F0 m pc ls (st.map (mm_cv (mm_ad base ro)))) := by
  obtain ⟨hb1, rfl⟩ := mm_c1 (show cond (Nat.beq len 1) (some (Instr.lstore n)) none = some j from hr)
  obtain rfl := Nat.eq_of_beq_eq_true hb1
  obtain ⟨x, t, L1, rfl, hs, he⟩ := mm_stl_inv hj
  cases he
  have hi := mm_set2_lt hs
  rw [hl.2.1] at hi
  exact lv_lstore_n C.1 C.2.1 hd rfl hl.has hi rfl (fun ls1 h1 => kk _ _ _ _ _ (mm_set2_ok hl hs h1) hp)
theorem mm_k_astore_n {n : Fin 4} (C : mm_Cx p R s m args meth c o ini cc nL D cT base ro) (hl : mm_LH (mm_ad base ro) ls nL L) (hp : mm_Pt D cT base ro s w0 H locs cells slots w) (hroom : w'.1.length ≤ w0.1.length + R.cells ∧ mm_sl w'.1 ≤ mm_sl w0.1 + R.slots) (hj : mm_seq j L st w = some (P, L', st', w')) (hP : P) (kk : mm_KK p l e R s m args below meth c Q nL D cT base ro w0 (pc + len) L' st' w') (hd : decode cc pc = .ok (.astore_n n, len)) (hr : mm_res o ini (.astore_n n) len = some j) : W p l e R s m args below meth c H locs cells slots Q (F0 m pc ls (st.map (mm_cv (mm_ad base ro)))) := by
  obtain ⟨hb1, rfl⟩ := mm_c1 (show cond (Nat.beq len 1) (some (Instr.astore n)) none = some j from hr)
  obtain rfl := Nat.eq_of_beq_eq_true hb1
  rcases mm_sta_inv hj with ⟨x, t, L1, rfl, hs, he⟩ | ⟨t, L1, rfl, hs, he⟩
  · cases he
    have hi := mm_set1_lt hs
    rw [hl.2.1] at hi
    exact lv_astore_n C.1 C.2.1 hd rfl hl.has hi rfl (fun ls1 h1 => kk _ _ _ _ _ (mm_set1_ok hl hs h1) hp)
  · cases he
    have hi := mm_set1_lt hs
    rw [hl.2.1] at hi
    exact lv_astore_nN C.1 C.2.1 hd rfl hl.has hi rfl (fun ls1 h1 => kk _ _ _ _ _ (mm_set1_ok hl hs h1) hp)
theorem mm_k_istore {n : Nat} (C : mm_Cx p R s m args meth c o ini cc nL D cT base ro) (hl : mm_LH (mm_ad base ro) ls nL L) (hp : mm_Pt D cT base ro s w0 H locs cells slots w) (hroom : w'.1.length ≤ w0.1.length + R.cells ∧ mm_sl w'.1 ≤ mm_sl w0.1 + R.slots) (hj : mm_seq j L st w = some (P, L', st', w')) (hP : P) (kk : mm_KK p l e R s m args below meth c Q nL D cT base ro w0 (pc + len) L' st' w') (hd : decode cc pc = .ok (.istore n, len)) (hr : mm_res o ini (.istore n) len = some j) : W p l e R s m args below meth c H locs cells slots Q (F0 m pc ls (st.map (mm_cv (mm_ad base ro)))) := by
  obtain ⟨hb1, rfl⟩ := mm_c1 (show cond (Nat.beq len 2) (some (Instr.istore n)) none = some j from hr)
  obtain rfl := Nat.eq_of_beq_eq_true hb1
  obtain ⟨x, t, L1, rfl, hs, he⟩ := mm_sti_inv hj
  cases he
  have hi := mm_set1_lt hs
  rw [hl.2.1] at hi
  exact lv_istore C.1 C.2.1 hd hl.has hi rfl (fun ls1 h1 => kk _ _ _ _ _ (mm_set1_ok hl hs h1) hp)
theorem mm_k_lstore {n : Nat} (C : mm_Cx p R s m args meth c o ini cc nL D cT base ro) (hl : mm_LH (mm_ad base ro) ls nL L) (hp : mm_Pt D cT base ro s w0 H locs cells slots w) (hroom : w'.1.length ≤ w0.1.length + R.cells ∧ mm_sl w'.1 ≤ mm_sl w0.1 + R.slots) (hj : mm_seq j L st w = some (P, L', st', w')) (hP : P) (kk : mm_KK p l e R s m args below meth c Q nL D cT base ro w0 (pc + len) L' st' w') (hd : decode cc pc = .ok (.lstore n, len)) (hr : mm_res o ini (.lstore n) len = some j) : W p l e R s m args below meth c H locs cells slots Q (F0 m pc ls (st.map (mm_cv (mm_ad base ro)))) := by
  obtain ⟨hb1, rfl⟩ := mm_c1 (show cond (Nat.beq len 2) (some (Instr.lstore n)) none = some j from hr)
  obtain rfl := Nat.eq_of_beq_eq_true hb1
  obtain ⟨x, t, L1, rfl, hs, he⟩ := mm_stl_inv hj
  cases he
  have hi := mm_set2_lt hs
  rw [hl.2.1] at hi
  exact lv_lstore C.1 C.2.1 hd hl.has hi rfl (fun ls1 h1 => kk _ _ _ _ _ (mm_set2_ok hl hs h1) hp)
theorem mm_k_astore {n : Nat} (C : mm_Cx p R s m args meth c o ini cc nL D cT base ro) (hl : mm_LH (mm_ad base ro) ls nL L) (hp : mm_Pt D cT base ro s w0 H locs cells slots w) (hroom : w'.1.length ≤ w0.1.length + R.cells ∧ mm_sl w'.1 ≤ mm_sl w0.1 + R.slots) (hj : mm_seq j L st w = some (P, L', st', w')) (hP : P) (kk : mm_KK p l e R s m args below meth c Q nL D cT base ro w0 (pc + len) L' st' w') (hd : decode cc pc = .ok (.astore n, len)) (hr : mm_res o ini (.astore n) len = some j) : W p l e R s m args below meth c H locs cells slots Q (F0 m pc ls (st.map (mm_cv (mm_ad base ro)))) := by
  obtain ⟨hb1, rfl⟩ := mm_c1 (show cond (Nat.beq len 2) (some (Instr.astore n)) none = some j from hr)
  obtain rfl := Nat.eq_of_beq_eq_true hb1
  rcases mm_sta_inv hj with ⟨x, t, L1, rfl, hs, he⟩ | ⟨t, L1, rfl, hs, he⟩
  · cases he
    have hi := mm_set1_lt hs
    rw [hl.2.1] at hi
    exact lv_astore C.1 C.2.1 hd hl.has hi rfl (fun ls1 h1 => kk _ _ _ _ _ (mm_set1_ok hl hs h1) hp)
  · cases he
    have hi := mm_set1_lt hs
    rw [hl.2.1] at hi
    exact lv_astoreN C.1 C.2.1 hd hl.has hi rfl (fun ls1 h1 => kk _ _ _ _ _ (mm_set1_ok hl hs h1) hp)
theorem mm_k_iinc {n : Nat} {d : Int} (C : mm_Cx p R s m args meth c o ini cc nL D cT base ro) (hl : mm_LH (mm_ad base ro) ls nL L) (hp : mm_Pt D cT base ro s w0 H locs cells slots w) (hroom : w'.1.length ≤ w0.1.length + R.cells ∧ mm_sl w'.1 ≤ mm_sl w0.1 + R.slots) (hj : mm_seq j L st w = some (P, L', st', w')) (hP : P) (kk : mm_KK p l e R s m args below meth c Q nL D cT base ro w0 (pc + len) L' st' w') (hd : decode cc pc = .ok (.iinc n d, len)) (hr : mm_res o ini (.iinc n d) len = some j) : W p l e R s m args below meth c H locs cells slots Q (F0 m pc ls (st.map (mm_cv (mm_ad base ro)))) := by
  obtain ⟨hb1, rfl⟩ := mm_c1 (show cond (Nat.beq len 3) (some (Instr.iinc n d)) none = some j from hr)
  obtain rfl := Nat.eq_of_beq_eq_true hb1
  obtain ⟨x, L1, hx, hs, he⟩ := mm_inc_inv hj
  cases he
  have hi := mm_set1_lt hs
  rw [hl.2.1] at hi
  obtain ⟨k, hk⟩ := List.getElem?_of_mem (mm_ll_in (ad := mm_ad base ro) hx)
  exact lv_iinc C.1 C.2.1 hd hl.has hk rfl hi rfl (fun ls1 h1 => kk _ _ _ _ _ (mm_set1_ok hl hs h1) hp)
theorem mm_k_iadd (C : mm_Cx p R s m args meth c o ini cc nL D cT base ro) (hl : mm_LH (mm_ad base ro) ls nL L) (hp : mm_Pt D cT base ro s w0 H locs cells slots w) (hroom : w'.1.length ≤ w0.1.length + R.cells ∧ mm_sl w'.1 ≤ mm_sl w0.1 + R.slots) (hj : mm_seq j L st w = some (P, L', st', w')) (hP : P) (kk : mm_KK p l e R s m args below meth c Q nL D cT base ro w0 (pc + len) L' st' w') (hd : decode cc pc = .ok (.iadd, len)) (hr : mm_res o ini (.iadd) len = some j) : W p l e R s m args below meth c H locs cells slots Q (F0 m pc ls (st.map (mm_cv (mm_ad base ro)))) := by
  obtain ⟨hb1, rfl⟩ := mm_c1 (show cond (Nat.beq len 1) (some (Instr.iadd)) none = some j from hr)
  obtain rfl := Nat.eq_of_beq_eq_true hb1
  obtain ⟨y, x, t, rfl, he⟩ := mm_ii_inv hj
  cases he
  exact lv_iadd C.1 C.2.1 hd (kk _ _ _ _ _ hl hp)
theorem mm_k_isub (C : mm_Cx p R s m args meth c o ini cc nL D cT base ro) (hl : mm_LH (mm_ad base ro) ls nL L) (hp : mm_Pt D cT base ro s w0 H locs cells slots w) (hroom : w'.1.length ≤ w0.1.length + R.cells ∧ mm_sl w'.1 ≤ mm_sl w0.1 + R.slots) (hj : mm_seq j L st w = some (P, L', st', w')) (hP : P) (kk : mm_KK p l e R s m args below meth c Q nL D cT base ro w0 (pc + len) L' st' w') (hd : decode cc pc = .ok (.isub, len)) (hr : mm_res o ini (.isub) len = some j) : W p l e R s m args below meth c H locs cells slots Q (F0 m pc ls (st.map (mm_cv (mm_ad base ro)))) := by
  obtain ⟨hb1, rfl⟩ := mm_c1 (show cond (Nat.beq len 1) (some (Instr.isub)) none = some j from hr)
  obtain rfl := Nat.eq_of_beq_eq_true hb1
  obtain ⟨y, x, t, rfl, he⟩ := mm_ii_inv hj
  cases he
  exact lv_isub C.1 C.2.1 hd (kk _ _ _ _ _ hl hp)
theorem mm_k_imul (C : mm_Cx p R s m args meth c o ini cc nL D cT base ro) (hl : mm_LH (mm_ad base ro) ls nL L) (hp : mm_Pt D cT base ro s w0 H locs cells slots w) (hroom : w'.1.length ≤ w0.1.length + R.cells ∧ mm_sl w'.1 ≤ mm_sl w0.1 + R.slots) (hj : mm_seq j L st w = some (P, L', st', w')) (hP : P) (kk : mm_KK p l e R s m args below meth c Q nL D cT base ro w0 (pc + len) L' st' w') (hd : decode cc pc = .ok (.imul, len)) (hr : mm_res o ini (.imul) len = some j) : W p l e R s m args below meth c H locs cells slots Q (F0 m pc ls (st.map (mm_cv (mm_ad base ro)))) := by
  obtain ⟨hb1, rfl⟩ := mm_c1 (show cond (Nat.beq len 1) (some (Instr.imul)) none = some j from hr)
  obtain rfl := Nat.eq_of_beq_eq_true hb1
  obtain ⟨y, x, t, rfl, he⟩ := mm_ii_inv hj
  cases he
  exact lv_imul C.1 C.2.1 hd (kk _ _ _ _ _ hl hp)
theorem mm_k_iand (C : mm_Cx p R s m args meth c o ini cc nL D cT base ro) (hl : mm_LH (mm_ad base ro) ls nL L) (hp : mm_Pt D cT base ro s w0 H locs cells slots w) (hroom : w'.1.length ≤ w0.1.length + R.cells ∧ mm_sl w'.1 ≤ mm_sl w0.1 + R.slots) (hj : mm_seq j L st w = some (P, L', st', w')) (hP : P) (kk : mm_KK p l e R s m args below meth c Q nL D cT base ro w0 (pc + len) L' st' w') (hd : decode cc pc = .ok (.iand, len)) (hr : mm_res o ini (.iand) len = some j) : W p l e R s m args below meth c H locs cells slots Q (F0 m pc ls (st.map (mm_cv (mm_ad base ro)))) := by
  obtain ⟨hb1, rfl⟩ := mm_c1 (show cond (Nat.beq len 1) (some (Instr.iand)) none = some j from hr)
  obtain rfl := Nat.eq_of_beq_eq_true hb1
  obtain ⟨y, x, t, rfl, he⟩ := mm_ii_inv hj
  cases he
  exact lv_iand C.1 C.2.1 hd (kk _ _ _ _ _ hl hp)
theorem mm_k_ior (C : mm_Cx p R s m args meth c o ini cc nL D cT base ro) (hl : mm_LH (mm_ad base ro) ls nL L) (hp : mm_Pt D cT base ro s w0 H locs cells slots w) (hroom : w'.1.length ≤ w0.1.length + R.cells ∧ mm_sl w'.1 ≤ mm_sl w0.1 + R.slots) (hj : mm_seq j L st w = some (P, L', st', w')) (hP : P) (kk : mm_KK p l e R s m args below meth c Q nL D cT base ro w0 (pc + len) L' st' w') (hd : decode cc pc = .ok (.ior, len)) (hr : mm_res o ini (.ior) len = some j) : W p l e R s m args below meth c H locs cells slots Q (F0 m pc ls (st.map (mm_cv (mm_ad base ro)))) := by
  obtain ⟨hb1, rfl⟩ := mm_c1 (show cond (Nat.beq len 1) (some (Instr.ior)) none = some j from hr)
  obtain rfl := Nat.eq_of_beq_eq_true hb1
  obtain ⟨y, x, t, rfl, he⟩ := mm_ii_inv hj
  cases he
  exact lv_ior C.1 C.2.1 hd (kk _ _ _ _ _ hl hp)
theorem mm_k_ixor (C : mm_Cx p R s m args meth c o ini cc nL D cT base ro) (hl : mm_LH (mm_ad base ro) ls nL L) (hp : mm_Pt D cT base ro s w0 H locs cells slots w) (hroom : w'.1.length ≤ w0.1.length + R.cells ∧ mm_sl w'.1 ≤ mm_sl w0.1 + R.slots) (hj : mm_seq j L st w = some (P, L', st', w')) (hP : P) (kk : mm_KK p l e R s m args below meth c Q nL D cT base ro w0 (pc + len) L' st' w') (hd : decode cc pc = .ok (.ixor, len)) (hr : mm_res o ini (.ixor) len = some j) : W p l e R s m args below meth c H locs cells slots Q (F0 m pc ls (st.map (mm_cv (mm_ad base ro)))) := by
  obtain ⟨hb1, rfl⟩ := mm_c1 (show cond (Nat.beq len 1) (some (Instr.ixor)) none = some j from hr)
  obtain rfl := Nat.eq_of_beq_eq_true hb1
  obtain ⟨y, x, t, rfl, he⟩ := mm_ii_inv hj
  cases he
  exact lv_ixor C.1 C.2.1 hd (kk _ _ _ _ _ hl hp)
theorem mm_k_ishl (C : mm_Cx p R s m args meth c o ini cc nL D cT base ro) (hl : mm_LH (mm_ad base ro) ls nL L) (hp : mm_Pt D cT base ro s w0 H locs cells slots w) (hroom : w'.1.length ≤ w0.1.length + R.cells ∧ mm_sl w'.1 ≤ mm_sl w0.1 + R.slots) (hj : mm_seq j L st w = some (P, L', st', w')) (hP : P) (kk : mm_KK p l e R s m args below meth c Q nL D cT base ro w0 (pc + len) L' st' w') (hd : decode cc pc = .ok (.ishl, len)) (hr : mm_res o ini (.ishl) len = some j) : W p l e R s m args below meth c H locs cells slots Q (F0 m pc ls (st.map (mm_cv (mm_ad base ro)))) := by
  obtain ⟨hb1, rfl⟩ := mm_c1 (show cond (Nat.beq len 1) (some (Instr.ishl)) none = some j from hr)
  obtain rfl := Nat.eq_of_beq_eq_true hb1
  obtain ⟨y, x, t, rfl, he⟩ := mm_ii_inv hj
  cases he
  exact lv_ishl C.1 C.2.1 hd (kk _ _ _ _ _ hl hp)
theorem mm_k_ishr (C : mm_Cx p R s m args meth c o ini cc nL D cT base ro) (hl : mm_LH (mm_ad base ro) ls nL L) (hp : mm_Pt D cT base ro s w0 H locs cells slots w) (hroom : w'.1.length ≤ w0.1.length + R.cells ∧ mm_sl w'.1 ≤ mm_sl w0.1 + R.slots) (hj : mm_seq j L st w = some (P, L', st', w')) (hP : P) (kk : mm_KK p l e R s m args below meth c Q nL D cT base ro w0 (pc + len) L' st' w') (hd : decode cc pc = .ok (.ishr, len)) (hr : mm_res o ini (.ishr) len = some j) : W p l e R s m args below meth c H locs cells slots Q (F0 m pc ls (st.map (mm_cv (mm_ad base ro)))) := by
  obtain ⟨hb1, rfl⟩ := mm_c1 (show cond (Nat.beq len 1) (some (Instr.ishr)) none = some j from hr)
  obtain rfl := Nat.eq_of_beq_eq_true hb1
  obtain ⟨y, x, t, rfl, he⟩ := mm_ii_inv hj
  cases he
  exact lv_ishr C.1 C.2.1 hd (kk _ _ _ _ _ hl hp)
theorem mm_k_iushr (C : mm_Cx p R s m args meth c o ini cc nL D cT base ro) (hl : mm_LH (mm_ad base ro) ls nL L) (hp : mm_Pt D cT base ro s w0 H locs cells slots w) (hroom : w'.1.length ≤ w0.1.length + R.cells ∧ mm_sl w'.1 ≤ mm_sl w0.1 + R.slots) (hj : mm_seq j L st w = some (P, L', st', w')) (hP : P) (kk : mm_KK p l e R s m args below meth c Q nL D cT base ro w0 (pc + len) L' st' w') (hd : decode cc pc = .ok (.iushr, len)) (hr : mm_res o ini (.iushr) len = some j) : W p l e R s m args below meth c H locs cells slots Q (F0 m pc ls (st.map (mm_cv (mm_ad base ro)))) := by
  obtain ⟨hb1, rfl⟩ := mm_c1 (show cond (Nat.beq len 1) (some (Instr.iushr)) none = some j from hr)
  obtain rfl := Nat.eq_of_beq_eq_true hb1
  obtain ⟨y, x, t, rfl, he⟩ := mm_ii_inv hj
  cases he
  exact lv_iushr C.1 C.2.1 hd rfl (kk _ _ _ _ _ hl hp)
theorem mm_k_idiv (C : mm_Cx p R s m args meth c o ini cc nL D cT base ro) (hl : mm_LH (mm_ad base ro) ls nL L) (hp : mm_Pt D cT base ro s w0 H locs cells slots w) (hroom : w'.1.length ≤ w0.1.length + R.cells ∧ mm_sl w'.1 ≤ mm_sl w0.1 + R.slots) (hj : mm_seq j L st w = some (P, L', st', w')) (hP : P) (kk : mm_KK p l e R s m args below meth c Q nL D cT base ro w0 (pc + len) L' st' w') (hd : decode cc pc = .ok (.idiv, len)) (hr : mm_res o ini (.idiv) len = some j) : W p l e R s m args below meth c H locs cells slots Q (F0 m pc ls (st.map (mm_cv (mm_ad base ro)))) := by
  obtain ⟨hb1, rfl⟩ := mm_c1 (show cond (Nat.beq len 1) (some (Instr.idiv)) none = some j from hr)
  obtain rfl := Nat.eq_of_beq_eq_true hb1
  obtain ⟨y, x, t, rfl, he⟩ := mm_in_inv hj
  cases he
  exact lv_idiv C.1 C.2.1 hd hP (kk _ _ _ _ _ hl hp)
theorem mm_k_irem (C : mm_Cx p R s m args meth c o ini cc nL D cT base ro) (hl : mm_LH (mm_ad base ro) ls nL L) (hp : mm_Pt D cT base ro s w0 H locs cells slots w) (hroom : w'.1.length ≤ w0.1.length + R.cells ∧ mm_sl w'.1 ≤ mm_sl w0.1 + R.slots) (hj : mm_seq j L st w = some (P, L', st', w')) (hP : P) (kk : mm_KK p l e R s m args below meth c Q nL D cT base ro w0 (pc + len) L' st' w') (hd : decode cc pc = .ok (.irem, len)) (hr : mm_res o ini (.irem) len = some j) : W p l e R s m args below meth c H locs cells slots Q (F0 m pc ls (st.map (mm_cv (mm_ad base ro)))) := by
  obtain ⟨hb1, rfl⟩ := mm_c1 (show cond (Nat.beq len 1) (some (Instr.irem)) none = some j from hr)
  obtain rfl := Nat.eq_of_beq_eq_true hb1
  obtain ⟨y, x, t, rfl, he⟩ := mm_in_inv hj
  cases he
  exact lv_irem C.1 C.2.1 hd hP (kk _ _ _ _ _ hl hp)
theorem mm_k_ineg (C : mm_Cx p R s m args meth c o ini cc nL D cT base ro) (hl : mm_LH (mm_ad base ro) ls nL L) (hp : mm_Pt D cT base ro s w0 H locs cells slots w) (hroom : w'.1.length ≤ w0.1.length + R.cells ∧ mm_sl w'.1 ≤ mm_sl w0.1 + R.slots) (hj : mm_seq j L st w = some (P, L', st', w')) (hP : P) (kk : mm_KK p l e R s m args below meth c Q nL D cT base ro w0 (pc + len) L' st' w') (hd : decode cc pc = .ok (.ineg, len)) (hr : mm_res o ini (.ineg) len = some j) : W p l e R s m args below meth c H locs cells slots Q (F0 m pc ls (st.map (mm_cv (mm_ad base ro)))) := by
  obtain ⟨hb1, rfl⟩ := mm_c1 (show cond (Nat.beq len 1) (some (Instr.ineg)) none = some j from hr)
  obtain rfl := Nat.eq_of_beq_eq_true hb1
  obtain ⟨x, t, rfl, he⟩ := mm_i1_inv hj
  cases he
  exact lv_ineg C.1 C.2.1 hd (kk _ _ _ _ _ hl hp)
theorem mm_k_i2l (C : mm_Cx p R s m args meth c o ini cc nL D cT base ro) (hl : mm_LH (mm_ad base ro) ls nL L) (hp : mm_Pt D cT base ro s w0 H locs cells slots w) (hroom : w'.1.length ≤ w0.1.length + R.cells ∧ mm_sl w'.1 ≤ mm_sl w0.1 + R.slots) (hj : mm_seq j L st w = some (P, L', st', w')) (hP : P) (kk : mm_KK p l e R s m args below meth c Q nL D cT base ro w0 (pc + len) L' st' w') (hd : decode cc pc = .ok (.i2l, len)) (hr : mm_res o ini (.i2l) len = some j) : W p l e R s m args below meth c H locs cells slots Q (F0 m pc ls (st.map (mm_cv (mm_ad base ro)))) := by
  obtain ⟨hb1, rfl⟩ := mm_c1 (show cond (Nat.beq len 1) (some (Instr.i2l)) none = some j from hr)
  obtain rfl := Nat.eq_of_beq_eq_true hb1
  obtain ⟨x, t, rfl, he⟩ := mm_i1_inv hj
  cases he
  exact lv_i2l C.1 C.2.1 hd rfl (kk _ _ _ _ _ hl hp)
theorem mm_k_i2b (C : mm_Cx p R s m args meth c o ini cc nL D cT base ro) (hl : mm_LH (mm_ad base ro) ls nL L) (hp : mm_Pt D cT base ro s w0 H locs cells slots w) (hroom : w'.1.length ≤ w0.1.length + R.cells ∧ mm_sl w'.1 ≤ mm_sl w0.1 + R.slots) (hj : mm_seq j L st w = some (P, L', st', w')) (hP : P) (kk : mm_KK p l e R s m args below meth c Q nL D cT base ro w0 (pc + len) L' st' w') (hd : decode cc pc = .ok (.i2b, len)) (hr : mm_res o ini (.i2b) len = some j) : W p l e R s m args below meth c H locs cells slots Q (F0 m pc ls (st.map (mm_cv (mm_ad base ro)))) := by
  obtain ⟨hb1, rfl⟩ := mm_c1 (show cond (Nat.beq len 1) (some (Instr.i2b)) none = some j from hr)
  obtain rfl := Nat.eq_of_beq_eq_true hb1
  obtain ⟨x, t, rfl, he⟩ := mm_i1_inv hj
  cases he
  exact lv_i2b C.1 C.2.1 hd rfl (kk _ _ _ _ _ hl hp)
theorem mm_k_i2s (C : mm_Cx p R s m args meth c o ini cc nL D cT base ro) (hl : mm_LH (mm_ad base ro) ls nL L) (hp : mm_Pt D cT base ro s w0 H locs cells slots w) (hroom : w'.1.length ≤ w0.1.length + R.cells ∧ mm_sl w'.1 ≤ mm_sl w0.1 + R.slots) (hj : mm_seq j L st w = some (P, L', st', w')) (hP : P) (kk : mm_KK p l e R s m args below meth c Q nL D cT base ro w0 (pc + len) L' st' w') (hd : decode cc pc = .ok (.i2s, len)) (hr : mm_res o ini (.i2s) len = some j) : W p l e R s m args below meth c H locs cells slots Q (F0 m pc ls (st.map (mm_cv (mm_ad base ro)))) := by
  obtain ⟨hb1, rfl⟩ := mm_c1 (show cond (Nat.beq len 1) (some (Instr.i2s)) none = some j from hr)
  obtain rfl := Nat.eq_of_beq_eq_true hb1
  obtain ⟨x, t, rfl, he⟩ := mm_i1_inv hj
  cases he
  exact lv_i2s C.1 C.2.1 hd rfl (kk _ _ _ _ _ hl hp)
theorem mm_k_l2i (C : mm_Cx p R s m args meth c o ini cc nL D cT base ro) (hl : mm_LH (mm_ad base ro) ls nL L) (hp : mm_Pt D cT base ro s w0 H locs cells slots w) (hroom : w'.1.length ≤ w0.1.length + R.cells ∧ mm_sl w'.1 ≤ mm_sl w0.1 + R.slots) (hj : mm_seq j L st w = some (P, L', st', w')) (hP : P) (kk : mm_KK p l e R s m args below meth c Q nL D cT base ro w0 (pc + len) L' st' w') (hd : decode cc pc = .ok (.l2i, len)) (hr : mm_res o ini (.l2i) len = some j) : W p l e R s m args below meth c H locs cells slots Q (F0 m pc ls (st.map (mm_cv (mm_ad base ro)))) := by
  obtain ⟨hb1, rfl⟩ := mm_c1 (show cond (Nat.beq len 1) (some (Instr.l2i)) none = some j from hr)
  obtain rfl := Nat.eq_of_beq_eq_true hb1
  obtain ⟨x, t, rfl, he⟩ := mm_j1_inv hj
  cases he
  exact lv_l2i C.1 C.2.1 hd rfl (kk _ _ _ _ _ hl hp)
theorem mm_k_ladd (C : mm_Cx p R s m args meth c o ini cc nL D cT base ro) (hl : mm_LH (mm_ad base ro) ls nL L) (hp : mm_Pt D cT base ro s w0 H locs cells slots w) (hroom : w'.1.length ≤ w0.1.length + R.cells ∧ mm_sl w'.1 ≤ mm_sl w0.1 + R.slots) (hj : mm_seq j L st w = some (P, L', st', w')) (hP : P) (kk : mm_KK p l e R s m args below meth c Q nL D cT base ro w0 (pc + len) L' st' w') (hd : decode cc pc = .ok (.ladd, len)) (hr : mm_res o ini (.ladd) len = some j) : W p l e R s m args below meth c H locs cells slots Q (F0 m pc ls (st.map (mm_cv (mm_ad base ro)))) := by
  obtain ⟨hb1, rfl⟩ := mm_c1 (show cond (Nat.beq len 1) (some (Instr.ladd)) none = some j from hr)
  obtain rfl := Nat.eq_of_beq_eq_true hb1
  obtain ⟨y, x, t, rfl, he⟩ := mm_jj_inv hj
  cases he
  exact lv_ladd C.1 C.2.1 hd (kk _ _ _ _ _ hl hp)
theorem mm_k_lsub (C : mm_Cx p R s m args meth c o ini cc nL D cT base ro) (hl : mm_LH (mm_ad base ro) ls nL L) (hp : mm_Pt D cT base ro s w0 H locs cells slots w) (hroom : w'.1.length ≤ w0.1.length + R.cells ∧ mm_sl w'.1 ≤ mm_sl w0.1 + R.slots) (hj : mm_seq j L st w = some (P, L', st', w')) (hP : P) (kk : mm_KK p l e R s m args below meth c Q nL D cT base ro w0 (pc + len) L' st' w') (hd : decode cc pc = .ok (.lsub, len)) (hr : mm_res o ini (.lsub) len = some j) : W p l e R s m args below meth c H locs cells slots Q (F0 m pc ls (st.map (mm_cv (mm_ad base ro)))) := by
  obtain ⟨hb1, rfl⟩ := mm_c1 (show cond (Nat.beq len 1) (some (Instr.lsub)) none = some j from hr)
  obtain rfl := Nat.eq_of_beq_eq_true hb1
  obtain ⟨y, x, t, rfl, he⟩ := mm_jj_inv hj
  cases he
  exact lv_lsub C.1 C.2.1 hd (kk _ _ _ _ _ hl hp)
theorem mm_k_lmul (C : mm_Cx p R s m args meth c o ini cc nL D cT base ro) (hl : mm_LH (mm_ad base ro) ls nL L) (hp : mm_Pt D cT base ro s w0 H locs cells slots w) (hroom : w'.1.length ≤ w0.1.length + R.cells ∧ mm_sl w'.1 ≤ mm_sl w0.1 + R.slots) (hj : mm_seq j L st w = some (P, L', st', w')) (hP : P) (kk : mm_KK p l e R s m args below meth c Q nL D cT base ro w0 (pc + len) L' st' w') (hd : decode cc pc = .ok (.lmul, len)) (hr : mm_res o ini (.lmul) len = some j) : W p l e R s m args below meth c H locs cells slots Q (F0 m pc ls (st.map (mm_cv (mm_ad base ro)))) := by
  obtain ⟨hb1, rfl⟩ := mm_c1 (show cond (Nat.beq len 1) (some (Instr.lmul)) none = some j from hr)
  obtain rfl := Nat.eq_of_beq_eq_true hb1
  obtain ⟨y, x, t, rfl, he⟩ := mm_jj_inv hj
  cases he
  exact lv_lmul C.1 C.2.1 hd (kk _ _ _ _ _ hl hp)
theorem mm_k_land (C : mm_Cx p R s m args meth c o ini cc nL D cT base ro) (hl : mm_LH (mm_ad base ro) ls nL L) (hp : mm_Pt D cT base ro s w0 H locs cells slots w) (hroom : w'.1.length ≤ w0.1.length + R.cells ∧ mm_sl w'.1 ≤ mm_sl w0.1 + R.slots) (hj : mm_seq j L st w = some (P, L', st', w')) (hP : P) (kk : mm_KK p l e R s m args below meth c Q nL D cT base ro w0 (pc + len) L' st' w') (hd : decode cc pc = .ok (.land, len)) (hr : mm_res o ini (.land) len = some j) : W p l e R s m args below meth c H locs cells slots Q (F0 m pc ls (st.map (mm_cv (mm_ad base ro)))) := by
  obtain ⟨hb1, rfl⟩ := mm_c1 (show cond (Nat.beq len 1) (some (Instr.land)) none = some j from hr)
  obtain rfl := Nat.eq_of_beq_eq_true hb1
  obtain ⟨y, x, t, rfl, he⟩ := mm_jj_inv hj
  cases he
  exact lv_land C.1 C.2.1 hd (kk _ _ _ _ _ hl hp)
theorem mm_k_lor (C : mm_Cx p R s m args meth c o ini cc nL D cT base ro) (hl : mm_LH (mm_ad base ro) ls nL L) (hp : mm_Pt D cT base ro s w0 H locs cells slots w) (hroom : w'.1.length ≤ w0.1.length + R.cells ∧ mm_sl w'.1 ≤ mm_sl w0.1 + R.slots) (hj : mm_seq j L st w = some (P, L', st', w')) (hP : P) (kk : mm_KK p l e R s m args below meth c Q nL D cT base ro w0 (pc + len) L' st' w') (hd : decode cc pc = .ok (.lor, len)) (hr : mm_res o ini (.lor) len = some j) : W p l e R s m args below meth c H locs cells slots Q (F0 m pc ls (st.map (mm_cv (mm_ad base ro)))) := by
  obtain ⟨hb1, rfl⟩ := mm_c1 (show cond (Nat.beq len 1) (some (Instr.lor)) none = some j from hr)
  obtain rfl := Nat.eq_of_beq_eq_true hb1
  obtain ⟨y, x, t, rfl, he⟩ := mm_jj_inv hj
  cases he
  exact lv_lor C.1 C.2.1 hd (kk _ _ _ _ _ hl hp)
theorem mm_k_ldiv (C : mm_Cx p R s m args meth c o ini cc nL D cT base ro) (hl : mm_LH (mm_ad base ro) ls nL L) (hp : mm_Pt D cT base ro s w0 H locs cells slots w) (hroom : w'.1.length ≤ w0.1.length + R.cells ∧ mm_sl w'.1 ≤ mm_sl w0.1 + R.slots) (hj : mm_seq j L st w = some (P, L', st', w')) (hP : P) (kk : mm_KK p l e R s m args below meth c Q nL D cT base ro w0 (pc + len) L' st' w') (hd : decode cc pc = .ok (.ldiv, len)) (hr : mm_res o ini (.ldiv) len = some j) : W p l e R s m args below meth c H locs cells slots Q (F0 m pc ls (st.map (mm_cv (mm_ad base ro)))) := by
  obtain ⟨hb1, rfl⟩ := mm_c1 (show cond (Nat.beq len 1) (some (Instr.ldiv)) none = some j from hr)
  obtain rfl := Nat.eq_of_beq_eq_true hb1
  obtain ⟨y, x, t, rfl, he⟩ := mm_jn_inv hj
  cases he
  exact lv_ldiv C.1 C.2.1 hd hP (kk _ _ _ _ _ hl hp)
theorem mm_k_lrem (C : mm_Cx p R s m args meth c o ini cc nL D cT base ro) (hl : mm_LH (mm_ad base ro) ls nL L) (hp : mm_Pt D cT base ro s w0 H locs cells slots w) (hroom : w'.1.length ≤ w0.1.length + R.cells ∧ mm_sl w'.1 ≤ mm_sl w0.1 + R.slots) (hj : mm_seq j L st w = some (P, L', st', w')) (hP : P) (kk : mm_KK p l e R s m args below meth c Q nL D cT base ro w0 (pc + len) L' st' w') (hd : decode cc pc = .ok (.lrem, len)) (hr : mm_res o ini (.lrem) len = some j) : W p l e R s m args below meth c H locs cells slots Q (F0 m pc ls (st.map (mm_cv (mm_ad base ro)))) := by
  obtain ⟨hb1, rfl⟩ := mm_c1 (show cond (Nat.beq len 1) (some (Instr.lrem)) none = some j from hr)
  obtain rfl := Nat.eq_of_beq_eq_true hb1
  obtain ⟨y, x, t, rfl, he⟩ := mm_jn_inv hj
  cases he
  exact lv_lrem C.1 C.2.1 hd hP (kk _ _ _ _ _ hl hp)
theorem mm_k_lshl (C : mm_Cx p R s m args meth c o ini cc nL D cT base ro) (hl : mm_LH (mm_ad base ro) ls nL L) (hp : mm_Pt D cT base ro s w0 H locs cells slots w) (hroom : w'.1.length ≤ w0.1.length + R.cells ∧ mm_sl w'.1 ≤ mm_sl w0.1 + R.slots) (hj : mm_seq j L st w = some (P, L', st', w')) (hP : P) (kk : mm_KK p l e R s m args below meth c Q nL D cT base ro w0 (pc + len) L' st' w') (hd : decode cc pc = .ok (.lshl, len)) (hr : mm_res o ini (.lshl) len = some j) : W p l e R s m args below meth c H locs cells slots Q (F0 m pc ls (st.map (mm_cv (mm_ad base ro)))) := by
  obtain ⟨hb1, rfl⟩ := mm_c1 (show cond (Nat.beq len 1) (some (Instr.lshl)) none = some j from hr)
  obtain rfl := Nat.eq_of_beq_eq_true hb1
  obtain ⟨y, x, t, rfl, he⟩ := mm_ij_inv hj
  cases he
  exact lv_lshl C.1 C.2.1 hd rfl (kk _ _ _ _ _ hl hp)
theorem mm_k_lcmp (C : mm_Cx p R s m args meth c o ini cc nL D cT base ro) (hl : mm_LH (mm_ad base ro) ls nL L) (hp : mm_Pt D cT base ro s w0 H locs cells slots w) (hroom : w'.1.length ≤ w0.1.length + R.cells ∧ mm_sl w'.1 ≤ mm_sl w0.1 + R.slots) (hj : mm_seq j L st w = some (P, L', st', w')) (hP : P) (kk : mm_KK p l e R s m args below meth c Q nL D cT base ro w0 (pc + len) L' st' w') (hd : decode cc pc = .ok (.lcmp, len)) (hr : mm_res o ini (.lcmp) len = some j) : W p l e R s m args below meth c H locs cells slots Q (F0 m pc ls (st.map (mm_cv (mm_ad base ro)))) := by
  obtain ⟨hb1, rfl⟩ := mm_c1 (show cond (Nat.beq len 1) (some (Instr.lcmp)) none = some j from hr)
  obtain rfl := Nat.eq_of_beq_eq_true hb1
  obtain ⟨y, x, t, rfl, he⟩ := mm_ji_inv hj
  cases he
  exact W.lcmp C.1 C.2.1 hd (kk _ _ _ _ _ hl hp)
theorem mm_k_dup (C : mm_Cx p R s m args meth c o ini cc nL D cT base ro) (hl : mm_LH (mm_ad base ro) ls nL L) (hp : mm_Pt D cT base ro s w0 H locs cells slots w) (hroom : w'.1.length ≤ w0.1.length + R.cells ∧ mm_sl w'.1 ≤ mm_sl w0.1 + R.slots) (hj : mm_seq j L st w = some (P, L', st', w')) (hP : P) (kk : mm_KK p l e R s m args below meth c Q nL D cT base ro w0 (pc + len) L' st' w') (hd : decode cc pc = .ok (.dup, len)) (hr : mm_res o ini (.dup) len = some j) : W p l e R s m args below meth c H locs cells slots Q (F0 m pc ls (st.map (mm_cv (mm_ad base ro)))) := by
  obtain ⟨hb1, rfl⟩ := mm_c1 (show cond (Nat.beq len 1) (some (Instr.dup)) none = some j from hr)
  obtain rfl := Nat.eq_of_beq_eq_true hb1
  replace hj : mm_dup L st w = some (P, L', st', w') := hj
  unfold mm_dup at hj
  split at hj
  · obtain ⟨hb2, he⟩ := mm_cond_inv hj
    cases he
    exact lv_dup C.1 C.2.1 hd (by rw [mm_cv_cat]; exact Nat.eq_of_beq_eq_true hb2) (kk _ _ _ _ _ hl hp)
  · cases hj
theorem mm_k_dup2 (C : mm_Cx p R s m args meth c o ini cc nL D cT base ro) (hl : mm_LH (mm_ad base ro) ls nL L) (hp : mm_Pt D cT base ro s w0 H locs cells slots w) (hroom : w'.1.length ≤ w0.1.length + R.cells ∧ mm_sl w'.1 ≤ mm_sl w0.1 + R.slots) (hj : mm_seq j L st w = some (P, L', st', w')) (hP : P) (kk : mm_KK p l e R s m args below meth c Q nL D cT base ro w0 (pc + len) L' st' w') (hd : decode cc pc = .ok (.dup2, len)) (hr : mm_res o ini (.dup2) len = some j) : W p l e R s m args below meth c H locs cells slots Q (F0 m pc ls (st.map (mm_cv (mm_ad base ro)))) := by
  obtain ⟨hb1, rfl⟩ := mm_c1 (show cond (Nat.beq len 1) (some (Instr.dup2)) none = some j from hr)
  obtain rfl := Nat.eq_of_beq_eq_true hb1
  replace hj : mm_dup2 L st w = some (P, L', st', w') := hj
  unfold mm_dup2 at hj
  split at hj
  · obtain ⟨hb2, he⟩ := mm_cond_inv hj
    simp only [Bool.and_eq_true] at hb2
    cases he
    exact lv_dup2_11 C.1 C.2.1 hd (by rw [mm_cv_cat]; exact Nat.eq_of_beq_eq_true hb2.1) (by rw [mm_cv_cat]; exact Nat.eq_of_beq_eq_true hb2.2) (kk _ _ _ _ _ hl hp)
  · cases hj
theorem mm_k_pop (C : mm_Cx p R s m args meth c o ini cc nL D cT base ro) (hl : mm_LH (mm_ad base ro) ls nL L) (hp : mm_Pt D cT base ro s w0 H locs cells slots w) (hroom : w'.1.length ≤ w0.1.length + R.cells ∧ mm_sl w'.1 ≤ mm_sl w0.1 + R.slots) (hj : mm_seq j L st w = some (P, L', st', w')) (hP : P) (kk : mm_KK p l e R s m args below meth c Q nL D cT base ro w0 (pc + len) L' st' w') (hd : decode cc pc = .ok (.pop, len)) (hr : mm_res o ini (.pop) len = some j) : W p l e R s m args below meth c H locs cells slots Q (F0 m pc ls (st.map (mm_cv (mm_ad base ro)))) := by
  obtain ⟨hb1, rfl⟩ := mm_c1 (show cond (Nat.beq len 1) (some (Instr.pop)) none = some j from hr)
  obtain rfl := Nat.eq_of_beq_eq_true hb1
  replace hj : mm_pop L st w = some (P, L', st', w') := hj
  unfold mm_pop at hj
  split at hj
  · obtain ⟨hb2, he⟩ := mm_cond_inv hj
    cases he
    exact lv_pop C.1 C.2.1 hd (by rw [mm_cv_cat]; exact Nat.eq_of_beq_eq_true hb2) (kk _ _ _ _ _ hl hp)
  · cases hj
theorem mm_k_aconst_null (C : mm_Cx p R s m args meth c o ini cc nL D cT base ro) (hl : mm_LH (mm_ad base ro) ls nL L) (hp : mm_Pt D cT base ro s w0 H locs cells slots w) (hroom : w'.1.length ≤ w0.1.length + R.cells ∧ mm_sl w'.1 ≤ mm_sl w0.1 + R.slots) (hj : mm_seq j L st w = some (P, L', st', w')) (hP : P) (kk : mm_KK p l e R s m args below meth c Q nL D cT base ro w0 (pc + len) L' st' w') (hd : decode cc pc = .ok (.aconst_null, len)) (hr : mm_res o ini (.aconst_null) len = some j) : W p l e R s m args below meth c H locs cells slots Q (F0 m pc ls (st.map (mm_cv (mm_ad base ro)))) := by
  obtain ⟨hb1, rfl⟩ := mm_c1 (show cond (Nat.beq len 1) (some (Instr.aconst_null)) none = some j from hr)
  obtain rfl := Nat.eq_of_beq_eq_true hb1
  cases hj
  exact lv_null C.1 C.2.1 hd (kk _ _ _ _ _ hl hp)
theorem mm_k_getstatic {x : Nat} (C : mm_Cx p R s m args meth c o ini cc nL D cT base ro) (hl : mm_LH (mm_ad base ro) ls nL L) (hp : mm_Pt D cT base ro s w0 H locs cells slots w) (hroom : w'.1.length ≤ w0.1.length + R.cells ∧ mm_sl w'.1 ≤ mm_sl w0.1 + R.slots) (hj : mm_seq j L st w = some (P, L', st', w')) (hP : P) (kk : mm_KK p l e R s m args below meth c Q nL D cT base ro w0 (pc + len) L' st' w') (hd : decode cc pc = .ok (.getstatic x, len)) (hr : mm_res o ini (.getstatic x) len = some j) : W p l e R s m args below meth c H locs cells slots Q (F0 m pc ls (st.map (mm_cv (mm_ad base ro)))) := by
  obtain ⟨hb1, hr⟩ := mm_c2' (show cond (Nat.beq len 3) ((mm_look mm_staL o x).map fun q => Instr.getstatic q.1) none = some j from hr)
  obtain rfl := Nat.eq_of_beq_eq_true hb1
  obtain ⟨z, hz, rfl⟩ := Option.map_eq_some_iff.mp hr
  obtain ⟨n, hn⟩ := mm_look_in hz
  obtain ⟨hb2, he⟩ := mm_cond_inv (show mm_cond (Nat.blt z.1 7 && Nat.blt 0 z.1) (some (True, L, Value.ref z.1 :: st, w)) = _ from hj)
  simp only [Bool.and_eq_true] at hb2
  cases he
  have h7 : z.1 < 7 := Nat.le_of_ble_eq_true hb2.1
  have e1 : mm_ad base ro z.1 = ro z.1 := if_pos h7
  refine va_gets C.1 C.2.1 (C.2.2.2.2.2.2.2.2.1 _ hn) hp.2.1 C.2.2.2.1 (C.has (mm_sta_ok _ hn) rfl) (fun _ h => h) hd ?_
  have k1 := kk _ _ _ _ _ hl hp
  rw [← e1]
  exact k1
theorem mm_k_arraylength (C : mm_Cx p R s m args meth c o ini cc nL D cT base ro) (hl : mm_LH (mm_ad base ro) ls nL L) (hp : mm_Pt D cT base ro s w0 H locs cells slots w) (hroom : w'.1.length ≤ w0.1.length + R.cells ∧ mm_sl w'.1 ≤ mm_sl w0.1 + R.slots) (hj : mm_seq j L st w = some (P, L', st', w')) (hP : P) (kk : mm_KK p l e R s m args below meth c Q nL D cT base ro w0 (pc + len) L' st' w') (hd : decode cc pc = .ok (.arraylength, len)) (hr : mm_res o ini (.arraylength) len = some j) : W p l e R s m args below meth c H locs cells slots Q (F0 m pc ls (st.map (mm_cv (mm_ad base ro)))) := by
  obtain ⟨hb1, rfl⟩ := mm_c1 (show cond (Nat.beq len 1) (some (Instr.arraylength)) none = some j from hr)
  obtain rfl := Nat.eq_of_beq_eq_true hb1
  replace hj : mm_len L st w = some (P, L', st', w') := hj
  unfold mm_len at hj
  split at hj
  · rename_i k t
    obtain ⟨hb2, he⟩ := mm_cond_inv hj
    cases he
    have hk6 : (mm_nth w.1 k).1 < 6 := Nat.le_of_ble_eq_true hb2
    rcases (show (mm_nth w.1 k).1 = 0 ∨ (mm_nth w.1 k).1 = 1 ∨ (mm_nth w.1 k).1 = 2 ∨ (mm_nth w.1 k).1 = 3 ∨ (mm_nth w.1 k).1 = 4 ∨ (mm_nth w.1 k).1 = 5 by omega) with hk | hk | hk | hk | hk | hk
    · have ha := hp.at (by rw [hk]; decide) (by rw [hk]; decide) (by rw [hk]; decide)
      rw [mm_cell0 hk] at ha
      exact va_alen C.1 C.2.1 C.2.2.2.2.2.2.2.1 hp.1.1 (k - 7) 0 ha rfl rfl hd (kk _ _ _ _ _ hl hp)
    · have ha := hp.at (by rw [hk]; decide) (by rw [hk]; decide) (by rw [hk]; decide)
      rw [mm_cell1 hk] at ha
      exact va_alen C.1 C.2.1 C.2.2.2.2.2.2.2.1 hp.1.1 (k - 7) 1 ha rfl rfl hd (kk _ _ _ _ _ hl hp)
    · have ha := hp.at (by rw [hk]; decide) (by rw [hk]; decide) (by rw [hk]; decide)
      rw [mm_cell2 hk] at ha
      exact va_alen C.1 C.2.1 C.2.2.2.2.2.2.2.1 hp.1.1 (k - 7) 2 ha rfl rfl hd (kk _ _ _ _ _ hl hp)
    · have ha := hp.at (by rw [hk]; decide) (by rw [hk]; decide) (by rw [hk]; decide)
      rw [mm_cell3 hk] at ha
      exact va_alen C.1 C.2.1 C.2.2.2.2.2.2.2.1 hp.1.1 (k - 7) 3 ha rfl rfl hd (kk _ _ _ _ _ hl hp)
    · obtain ⟨e1, hT⟩ := hp.ro4 hk
      have k1 := kk _ _ _ _ _ hl hp
      show W p l e R s m args below meth c H locs cells slots Q (F0 m pc ls (.ref (mm_ad base ro k) :: t.map (mm_cv (mm_ad base ro))))
      rw [e1]
      exact va_tlen C.1 C.2.1 hT hp.2.1 rfl hd k1
    · obtain ⟨e1, hT⟩ := hp.ro5 hk
      have k1 := kk _ _ _ _ _ hl hp
      show W p l e R s m args below meth c H locs cells slots Q (F0 m pc ls (.ref (mm_ad base ro k) :: t.map (mm_cv (mm_ad base ro))))
      rw [e1]
      exact va_tlen C.1 C.2.1 hT hp.2.1 rfl hd k1
  · cases hj
theorem mm_k_iaload (C : mm_Cx p R s m args meth c o ini cc nL D cT base ro) (hl : mm_LH (mm_ad base ro) ls nL L) (hp : mm_Pt D cT base ro s w0 H locs cells slots w) (hroom : w'.1.length ≤ w0.1.length + R.cells ∧ mm_sl w'.1 ≤ mm_sl w0.1 + R.slots) (hj : mm_seq j L st w = some (P, L', st', w')) (hP : P) (kk : mm_KK p l e R s m args below meth c Q nL D cT base ro w0 (pc + len) L' st' w') (hd : decode cc pc = .ok (.iaload, len)) (hr : mm_res o ini (.iaload) len = some j) : W p l e R s m args below meth c H locs cells slots Q (F0 m pc ls (st.map (mm_cv (mm_ad base ro)))) := by
  obtain ⟨hb1, rfl⟩ := mm_c1 (show cond (Nat.beq len 1) (some (Instr.iaload)) none = some j from hr)
  obtain rfl := Nat.eq_of_beq_eq_true hb1
  obtain ⟨i, k, t, rfl, hb2, he⟩ := mm_ald_inv (ok := fun k => Nat.beq k 0 || Nat.beq k 4) (f := fun w k i => .int (w.2.1 k i)) hj
  cases he
  rcases Bool.or_eq_true _ _ ▸ hb2 with hb2 | hb2
  · have hk : (mm_nth w.1 k).1 = 0 := Nat.eq_of_beq_eq_true hb2
    have ha := hp.at (by rw [hk]; decide) (by rw [hk]; decide) (by rw [hk]; decide)
    rw [mm_cell0 hk] at ha
    exact va_iald C.1 C.2.1 C.2.2.2.2.2.2.2.1 hp.1.1 (k - 7) 0 ha rfl hP hd (kk _ _ _ _ _ hl hp)
  · have hk : (mm_nth w.1 k).1 = 4 := Nat.eq_of_beq_eq_true hb2
    obtain ⟨e1, hT⟩ := hp.ro4 hk
    have k1 := kk _ _ _ _ _ hl hp
    show W p l e R s m args below meth c H locs cells slots Q (F0 m pc ls (.int i :: .ref (mm_ad base ro k) :: t.map (mm_cv (mm_ad base ro))))
    rw [e1]
    exact va_ti C.1 C.2.1 hT hp.2.1 hP rfl hd k1
theorem mm_k_laload (C : mm_Cx p R s m args meth c o ini cc nL D cT base ro) (hl : mm_LH (mm_ad base ro) ls nL L) (hp : mm_Pt D cT base ro s w0 H locs cells slots w) (hroom : w'.1.length ≤ w0.1.length + R.cells ∧ mm_sl w'.1 ≤ mm_sl w0.1 + R.slots) (hj : mm_seq j L st w = some (P, L', st', w')) (hP : P) (kk : mm_KK p l e R s m args below meth c Q nL D cT base ro w0 (pc + len) L' st' w') (hd : decode cc pc = .ok (.laload, len)) (hr : mm_res o ini (.laload) len = some j) : W p l e R s m args below meth c H locs cells slots Q (F0 m pc ls (st.map (mm_cv (mm_ad base ro)))) := by
  obtain ⟨hb1, rfl⟩ := mm_c1 (show cond (Nat.beq len 1) (some (Instr.laload)) none = some j from hr)
  obtain rfl := Nat.eq_of_beq_eq_true hb1
  obtain ⟨i, k, t, rfl, hb2, he⟩ := mm_ald_inv (ok := fun k => Nat.beq k 2 || Nat.beq k 5) (f := fun w k i => .long (w.2.2.1 k i)) hj
  cases he
  rcases Bool.or_eq_true _ _ ▸ hb2 with hb2 | hb2
  · have hk : (mm_nth w.1 k).1 = 2 := Nat.eq_of_beq_eq_true hb2
    have ha := hp.at (by rw [hk]; decide) (by rw [hk]; decide) (by rw [hk]; decide)
    rw [mm_cell2 hk] at ha
    exact va_lald C.1 C.2.1 C.2.2.2.2.2.2.2.1 hp.1.1 (k - 7) 2 ha rfl hP hd (kk _ _ _ _ _ hl hp)
  · have hk : (mm_nth w.1 k).1 = 5 := Nat.eq_of_beq_eq_true hb2
    obtain ⟨e1, hT⟩ := hp.ro5 hk
    have k1 := kk _ _ _ _ _ hl hp
    show W p l e R s m args below meth c H locs cells slots Q (F0 m pc ls (.int i :: .ref (mm_ad base ro k) :: t.map (mm_cv (mm_ad base ro))))
    rw [e1]
    exact va_tl C.1 C.2.1 hT hp.2.1 hP rfl hd k1
theorem mm_k_aaload (C : mm_Cx p R s m args meth c o ini cc nL D cT base ro) (hl : mm_LH (mm_ad base ro) ls nL L) (hp : mm_Pt D cT base ro s w0 H locs cells slots w) (hroom : w'.1.length ≤ w0.1.length + R.cells ∧ mm_sl w'.1 ≤ mm_sl w0.1 + R.slots) (hj : mm_seq j L st w = some (P, L', st', w')) (hP : P) (kk : mm_KK p l e R s m args below meth c Q nL D cT base ro w0 (pc + len) L' st' w') (hd : decode cc pc = .ok (.aaload, len)) (hr : mm_res o ini (.aaload) len = some j) : W p l e R s m args below meth c H locs cells slots Q (F0 m pc ls (st.map (mm_cv (mm_ad base ro)))) := by
  obtain ⟨hb1, rfl⟩ := mm_c1 (show cond (Nat.beq len 1) (some (Instr.aaload)) none = some j from hr)
  obtain rfl := Nat.eq_of_beq_eq_true hb1
  obtain ⟨i, k, t, rfl, hb2, he⟩ := mm_ald_inv (ok := fun k => Nat.beq k 3) (f := fun w k i => va_rf (w.2.2.2 k i)) hj
  cases he
  have hk : (mm_nth w.1 k).1 = 3 := Nat.eq_of_beq_eq_true hb2
  have ha := hp.at (by rw [hk]; decide) (by rw [hk]; decide) (by rw [hk]; decide)
  rw [mm_cell3 hk] at ha
  have k1 := kk _ _ _ _ _ hl hp
  rw [List.map_cons, mm_cv_rf] at k1
  exact va_aldq C.1 C.2.1 C.2.2.2.2.2.2.2.1 hp.1.1 (k - 7) 3 ha rfl hP hd k1
theorem mm_k_iastore (C : mm_Cx p R s m args meth c o ini cc nL D cT base ro) (hl : mm_LH (mm_ad base ro) ls nL L) (hp : mm_Pt D cT base ro s w0 H locs cells slots w) (hroom : w'.1.length ≤ w0.1.length + R.cells ∧ mm_sl w'.1 ≤ mm_sl w0.1 + R.slots) (hj : mm_seq j L st w = some (P, L', st', w')) (hP : P) (kk : mm_KK p l e R s m args below meth c Q nL D cT base ro w0 (pc + len) L' st' w') (hd : decode cc pc = .ok (.iastore, len)) (hr : mm_res o ini (.iastore) len = some j) : W p l e R s m args below meth c H locs cells slots Q (F0 m pc ls (st.map (mm_cv (mm_ad base ro)))) := by
  obtain ⟨hb1, rfl⟩ := mm_c1 (show cond (Nat.beq len 1) (some (Instr.iastore)) none = some j from hr)
  obtain rfl := Nat.eq_of_beq_eq_true hb1
  obtain ⟨x, i, k, t, rfl, hk, he⟩ := mm_ist_inv (kd := 0) (f := fun x => x) hj
  cases he
  have ha := hp.at (by rw [hk]; decide) (by rw [hk]; decide) (by rw [hk]; decide)
  rw [mm_cell0 hk] at ha
  refine va_iast C.1 C.2.1 C.2.2.2.2.2.2.2.1 hp.1.1 mm_all_D hp.2.1 (k - 7) 0 ha rfl hP hd (fun H1 locs1 hP1 _ hS1 => kk _ _ _ _ _ hl (hp.sets (mm_off_I _) (by rw [hk]; decide) (by rw [hk]; decide) (by rw [hk]; decide) hP1 ?_ hS1))
  rw [mm_cell0 (w := (w.1, mm_uc w.2.1 k _, w.2.2)) hk]
  simp only [mm_uc_self]
theorem mm_k_lastore (C : mm_Cx p R s m args meth c o ini cc nL D cT base ro) (hl : mm_LH (mm_ad base ro) ls nL L) (hp : mm_Pt D cT base ro s w0 H locs cells slots w) (hroom : w'.1.length ≤ w0.1.length + R.cells ∧ mm_sl w'.1 ≤ mm_sl w0.1 + R.slots) (hj : mm_seq j L st w = some (P, L', st', w')) (hP : P) (kk : mm_KK p l e R s m args below meth c Q nL D cT base ro w0 (pc + len) L' st' w') (hd : decode cc pc = .ok (.lastore, len)) (hr : mm_res o ini (.lastore) len = some j) : W p l e R s m args below meth c H locs cells slots Q (F0 m pc ls (st.map (mm_cv (mm_ad base ro)))) := by
  obtain ⟨hb1, rfl⟩ := mm_c1 (show cond (Nat.beq len 1) (some (Instr.lastore)) none = some j from hr)
  obtain rfl := Nat.eq_of_beq_eq_true hb1
  replace hj : mm_jst L st w = some (P, L', st', w') := hj
  unfold mm_jst at hj
  split at hj
  · rename_i x i k t
    obtain ⟨hb2, he⟩ := mm_cond_inv hj
    have hk : (mm_nth w.1 k).1 = 2 := Nat.eq_of_beq_eq_true hb2
    cases he
    have ha := hp.at (by rw [hk]; decide) (by rw [hk]; decide) (by rw [hk]; decide)
    rw [mm_cell2 hk] at ha
    refine va_last C.1 C.2.1 C.2.2.2.2.2.2.2.1 hp.1.1 mm_all_D hp.2.1 (k - 7) 2 ha rfl hP hd (fun H1 locs1 hP1 _ hS1 => kk _ _ _ _ _ hl (hp.sets (mm_off_J _) (by rw [hk]; decide) (by rw [hk]; decide) (by rw [hk]; decide) hP1 ?_ hS1))
    rw [mm_cell2 (w := (w.1, w.2.1, mm_uc w.2.2.1 k _, w.2.2.2)) hk]
    simp only [mm_uc_self]
  · cases hj
theorem mm_k_aastore (C : mm_Cx p R s m args meth c o ini cc nL D cT base ro) (hl : mm_LH (mm_ad base ro) ls nL L) (hp : mm_Pt D cT base ro s w0 H locs cells slots w) (hroom : w'.1.length ≤ w0.1.length + R.cells ∧ mm_sl w'.1 ≤ mm_sl w0.1 + R.slots) (hj : mm_seq j L st w = some (P, L', st', w')) (hP : P) (kk : mm_KK p l e R s m args below meth c Q nL D cT base ro w0 (pc + len) L' st' w') (hd : decode cc pc = .ok (.aastore, len)) (hr : mm_res o ini (.aastore) len = some j) : W p l e R s m args below meth c H locs cells slots Q (F0 m pc ls (st.map (mm_cv (mm_ad base ro)))) := by
  obtain ⟨hb1, rfl⟩ := mm_c1 (show cond (Nat.beq len 1) (some (Instr.aastore)) none = some j from hr)
  obtain rfl := Nat.eq_of_beq_eq_true hb1
  replace hj : mm_rst L st w = some (P, L', st', w') := hj
  unfold mm_rst at hj
  split at hj
  · rename_i v i k t
    obtain ⟨hb2, he⟩ := mm_cond_inv hj
    simp only [Bool.and_eq_true] at hb2
    have hk : (mm_nth w.1 k).1 = 3 := Nat.eq_of_beq_eq_true hb2.1
    have hv : (mm_nth w.1 v).1 = 8 + 10 := Nat.eq_of_beq_eq_true hb2.2
    cases he
    have ha := hp.at (by rw [hk]; decide) (by rw [hk]; decide) (by rw [hk]; decide)
    rw [mm_cell3 hk] at ha
    have hv1 := hp.at (by rw [hv]; decide) (by rw [hv]; decide) (by rw [hv]; decide)
    rw [mm_cellO hv] at hv1
    refine va_astq C.1 C.2.1 C.2.2.2.2.2.2.2.1 hp.1.1 mm_all_D hp.2.1 (k - 7) 3 (v - 7) 8 ha (r := (RX8, TX8, 5)) rfl hv1 rfl hP hd (fun H1 locs1 hP1 _ hS1 => kk _ _ _ _ _ hl (hp.sets (mm_off_R _) (by rw [hk]; decide) (by rw [hk]; decide) (by rw [hk]; decide) hP1 ?_ hS1))
    rw [mm_cell3 (w := (w.1, w.2.1, w.2.2.1, mm_uc w.2.2.2 k _)) hk]
    simp only [mm_uc_self]
    congr 7
    funext q
    unfold va_up
    split <;> rfl
  · cases hj
end MMS
