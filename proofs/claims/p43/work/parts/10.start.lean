/-! THE CLAIM OUT OF ONE WALK OF THE LAW'S BODY. Your part is whole_start (and what it stands on); all else here is the same for every law, but numbers. -/
def R_law : String := "StonesOverLaw"
def lw_P (b : Addr) (xs : List Int32) (args : Array Value) (s : State) : Prop := args = #[.ref b] ∧ s.IntsAt b xs ∧ xs.length ≤ 260 ∧ (Jvm.Cond.and given_1 narrow_1).before args s = true
def lw_Q (_ : Array Value) (s : State) (o : Outcome) (t : State) : Prop := o = .returned (some (.int 1)) ∧ Framed s o t [] 600000 7302250
def lw_Z (below : List Frame) (a : Array Value) (s : State) : State → Prop := fun t => ∃ o, t.status = .running ∧ Ended t below o ∧ lw_Q a s o t
/-- the law's own end, with 1 on the stack, nothing written that was there before, its room as the claim has it -/
theorem lw_ret {p : Program} {l : Launch} {e : Env} {s : State} {m : MethodId} {below : List Frame} {meth : Method} {c : Code} {b : Nat} (hx : p.tables.exec = Jvm.exec) (hb : c.code = code) (hr : meth.sig.returnType = ret) (hlocks : meth.locks = false) {pc : Nat} {H : Heap} {ls : Array Slot} (hdg : decode code pc = .ok (.ireturn, 1)) : W p l e room_1 s m #[Value.ref b] below meth c H [] 600000 7302250 (lw_Z below #[Value.ref b] s) (F0 m pc ls [.int 1]) := by
  intro T hT X
  obtain ⟨fs, hret, hrun, hended, hW, hframe⟩ := X.leave (v := some (.int 1)) (hlocks := hlocks) (fun h => by rw [hr] at h; cases h)
  have hmeth' : T.vm.method? m = some meth := X.method'
  refine ⟨T.setFrames fs, ?_, .returned (some (.int 1)), hrun, hended, rfl, ⟨_, rfl⟩, hW, hframe⟩
  jvm_step X.here [X.here.top, hx, hb, hdg, hmeth', hr, ret, narrow_b1]
  (try refine ⟨rfl, ?_⟩); (try refine ⟨rfl, ?_⟩)
  first | (intro acts; rw [hret _ acts rfl rfl rfl]) | rw [hret _ _ rfl rfl rfl]
  exact Steps.refl _
/-- what holds at the law's entry: the machine, the code, the tables' words (any of lw_tbl by 'hts w (by decide +kernel)'), the script of L ints xs at the cell b, what the Statement gives of the start (any of its parts by flat_of_before) -/
def lw_At (p : Program) (s : State) (m : MethodId) (meth : Method) (c : Code) (b L : Nat) (xs : Nat → Int32) : Prop :=
  p.tables.exec = Jvm.exec ∧ c.code = code ∧ meth.sig.returnType = ret ∧ c.maxLocals = 39 ∧ s.vm.findClass R_law = some m.cls ∧ (∀ w ∈ lw_tbl, w.before #[Value.ref b] s = true) ∧ va_X b L xs s s.heap ∧ b < s.heap.size ∧ meth.locks = false ∧ (Jvm.Cond.and given_1 narrow_1).before #[Value.ref b] s = true

def mm_t1 : List Int32 := [1, 0, 1, 0, 10, 5, 0, 0, 999, 400, 5, -1, 0]
def mm_t2 : List Int32 := [1, 0, 0, 0, 1, 1, 0, -9, 0, 0, 0, -1, 0]
def mm_t3 : List Int32 := [9, 9, 9, 12, 20, 9, 1, 9, 999, 999, 20, 999, 12]
/-- the pure world at the law's start: the script, the six tables -/
def mm_I0 (xs : Nat → Int32) : Nat → Nat → Int32 := fun k j => match k with
  | 0 => xs j
  | 1 => mm_t1.getD j 0
  | 2 => mm_t2.getD j 0
  | 3 => mm_t3.getD j 0
  | 4 => mm_t1.getD j 0
  | 5 => mm_t1.getD j 0
  | 6 => mm_t1.getD j 0
  | _ => 0
def mm_J0 : Nat → Nat → Int64 := fun _ _ => 0
def mm_w0 (L : Nat) (xs : Nat → Int32) : mm_W := ([(4, L), (4, 13), (4, 13), (4, 13), (4, 13), (4, 13), (4, 13)], mm_I0 xs, mm_J0, fun _ _ => none)
/-- what is left: the law's run in the pure machine -/
def mm_Law (L : Nat) (xs : Nat → Int32) : Prop := ∃ (d n : Nat) (w1 : mm_W), d ≤ 1000 ∧ w1.1.length ≤ 500000 ∧ mm_sl w1.1 ≤ 7000000 ∧ mm_Ex (mm_Runs d) 14 false code (some .boolean) n 0 [some (.ref 0), none, none, none, none, none, none, none, none, none, none, none, none, none, none, none, none, none, none, none, none, none, none, none, none, none, none, none, none, none, none, none, none, none, none, none, none, none, none] [] (mm_w0 L xs) (some (.int 1)) w1
theorem mm_inst_ok : ∀ ci ∈ List.range 12, Jvm.Cond.instantiable (mm_R ci) (mm_n ci) ∈ lw_tbl := by decide +kernel
section MMST
variable {s : State} {args : Array Value}
theorem mm_tabI {C n : String} {N : Nat} {f : Nat → Int32} (hN : N < 2 ^ 31) (harr : (Cond.arrayOf (.static C n "[I") .int).before args s = true) (hlen : (Cond.eq (.length (.static C n "[I")) (.int (Int32.ofNat N))).before args s = true) (hel : ∀ j : Nat, j < N → (Cond.eq (.elem (.static C n "[I") (.int (Int32.ofNat j))) (.int (f j))).before args s = true) (hlay : (Cond.laysStatic C n "[I").before args s = true) (hini : (Cond.initialized C).before args s = true) : ∃ t : Nat, va_Z C n "[I" (.ref t) (mm_A s.heap.size) s s.heap ∧ va_T .int t N (fun j => .int (f j)) (mm_A s.heap.size) s s.heap := by
  have hA : ∀ a : Nat, a < s.heap.size → ¬ mm_A s.heap.size a := fun a ha hz => by unfold mm_A at hz; omega
  obtain ⟨t, ht, hT⟩ := va_Tof (f := fun j => .int (f j)) hN harr (va_eqt hlen) (fun j hj => va_eqt (hel j hj)) hA
  exact ⟨t, va_Zof hlay hini ht hA, hT⟩
theorem mm_tabJ {C n : String} {N : Nat} {f : Nat → Int64} (hN : N < 2 ^ 31) (harr : (Cond.arrayOf (.static C n "[J") .long).before args s = true) (hlen : (Cond.eq (.length (.static C n "[J")) (.int (Int32.ofNat N))).before args s = true) (hel : ∀ j : Nat, j < N → (Cond.eq (.elem (.static C n "[J") (.int (Int32.ofNat j))) (.long (f j))).before args s = true) (hlay : (Cond.laysStatic C n "[J").before args s = true) (hini : (Cond.initialized C).before args s = true) : ∃ t : Nat, va_Z C n "[J" (.ref t) (mm_A s.heap.size) s s.heap ∧ va_T .long t N (fun j => .long (f j)) (mm_A s.heap.size) s s.heap := by
  have hA : ∀ a : Nat, a < s.heap.size → ¬ mm_A s.heap.size a := fun a ha hz => by unfold mm_A at hz; omega
  obtain ⟨t, ht, hT⟩ := va_Tof (f := fun j => .long (f j)) hN harr (va_eqt hlen) (fun j hj => va_eqtl (hel j hj)) hA
  exact ⟨t, va_Zof hlay hini ht hA, hT⟩
theorem mm_arrc {ty : FieldType} (h : (Cond.arrayClass ty).before args s = true) : ∃ cA : ClassId, ArrOfT s cA ty ∧ s.vm.findClass ("[" ++ ty.toString) = some cA := by
  obtain ⟨c, k, comp, h1, h2, h3⟩ := Cond.arrayClass_spec h
  exact ⟨c, fun N z => ⟨(fun k h => by cases h), k, h2, comp, h3⟩, h1⟩
end MMST
theorem mm_el1 : ∀ j ∈ List.range 13, Cond.eq (.elem (.static "StonesOver$Lane" "AT_FIRST" "[I") (.int (Int32.ofNat j))) (.int (mm_t1.getD j 0)) ∈ flatC narrow_1 := by decide +kernel
theorem mm_el2 : ∀ j ∈ List.range 13, Cond.eq (.elem (.static "StonesOver$Lane" "LEAST" "[I") (.int (Int32.ofNat j))) (.int (mm_t2.getD j 0)) ∈ flatC narrow_1 := by decide +kernel
theorem mm_el3 : ∀ j ∈ List.range 13, Cond.eq (.elem (.static "StonesOver$Lane" "MOST" "[I") (.int (Int32.ofNat j))) (.int (mm_t3.getD j 0)) ∈ flatC narrow_1 := by decide +kernel
theorem mm_start {p : Program} {e : Env} {s : State} {m : MethodId} {below : List Frame} {meth : Method} {c : Code} (l : Launch) {b L : Nat} {xs : Nat → Int32} (hLaw : mm_Law L xs) (hL : L ≤ 260) (C0 : lw_At p s m meth c b L xs) : W p l e room_1 s m #[Value.ref b] below meth c s.heap [] 0 0 (lw_Z below #[Value.ref b] s) (entryFrame m ([Value.ref b] : List Value).toArray 39) := by
  obtain ⟨d, n, w1, hd, hcells, hslots, hex⟩ := hLaw
  obtain ⟨hx, hb, hrt, hml, hown, hts, hX, hbl, hlocks, hgv⟩ := C0
  have hflat := flat_of_before _ hgv
  have hnar : ∀ c ∈ flatC narrow_1, c.before #[Value.ref b] s = true := by
    refine flat_of_before _ ?_
    rw [Cond.before_and, Bool.and_eq_true] at hgv
    exact hgv.2
  have has : ∀ {i : Nat} {x : Jvm.Cond}, lw_tbl[i]? = some x → x.before #[Value.ref b] s = true := fun h => hts _ (List.mem_of_getElem? h)
  obtain ⟨a1, z1, t1⟩ := mm_tabI (C := "StonesOver$Lane") (n := "AT_FIRST") (N := 13) (f := fun j => mm_t1.getD j 0) (by decide) (hnar _ (by decide +kernel)) (hnar _ (by decide +kernel)) (fun j hj => hnar _ (mm_el1 j (List.mem_range.mpr hj))) (has (i := 47) (by decide +kernel)) (has (i := 18) (by decide +kernel))
  obtain ⟨a2, z2, t2⟩ := mm_tabI (C := "StonesOver$Lane") (n := "LEAST") (N := 13) (f := fun j => mm_t2.getD j 0) (by decide) (hnar _ (by decide +kernel)) (hnar _ (by decide +kernel)) (fun j hj => hnar _ (mm_el2 j (List.mem_range.mpr hj))) (has (i := 529) (by decide +kernel)) (has (i := 18) (by decide +kernel))
  obtain ⟨a3, z3, t3⟩ := mm_tabI (C := "StonesOver$Lane") (n := "MOST") (N := 13) (f := fun j => mm_t3.getD j 0) (by decide) (hnar _ (by decide +kernel)) (hnar _ (by decide +kernel)) (fun j hj => hnar _ (mm_el3 j (List.mem_range.mpr hj))) (has (i := 531) (by decide +kernel)) (has (i := 18) (by decide +kernel))
  obtain ⟨c0, k0, r0⟩ := mm_arrc (ty := .int) (has (i := 55) (by decide +kernel))
  obtain ⟨c2, k2, r2⟩ := mm_arrc (ty := .long) (has (i := 122) (by decide +kernel))
  have hover : (Cond.arrayOver (.object RX8)).before #[Value.ref b] s = true := has (i := 104) (by decide +kernel)
  obtain ⟨comp, c3, kA, hcomp, hidx, hkA, hkindA, hnameA⟩ := Cond.arrayOver_spec hover
  have k3 : ArrOfT s c3 (.object RX8) := fun N z => ⟨(fun k h => by cases h), kA, hkA, comp, hkindA⟩
  have hkn : ∀ ci : Nat, ∃ q : ClassId × (Nat → Nat), ci < 12 → u_Kn s (mm_R ci) (mm_T ci) (mm_n ci) q.1 q.2 := by
    intro ci
    by_cases h : ci < 12
    · obtain ⟨cC, iS, hk⟩ := u_known (C := mm_R ci) (T := mm_T ci) (N := mm_n ci) (fun w hw => hts w (List.mem_filter.mp hw).1) (mm_uws h) (hts _ (mm_inst_ok ci (List.mem_range.mpr h)))
      exact ⟨(cC, iS), fun _ => hk⟩
    · exact ⟨(0, fun _ => 0), fun z => absurd z h⟩
  have hK : va_K (fun ci => (Classical.choose (hkn ci)).1, fun ci => (Classical.choose (hkn ci)).2) vwCl (mm_tys (fun k => match k with | 0 => c0 | 1 => c0 | 2 => c2 | _ => c3)) s := by
    refine ⟨fun ci q hq => ?_, fun k q hq => ?_⟩
    · have h13 : ci < 12 := (List.getElem?_eq_some_iff.mp hq).1
      rw [mm_vwCl h13] at hq
      cases hq
      exact Classical.choose_spec (hkn ci) h13
    · match k, hq with
      | 0, hq => cases hq; exact ⟨k0, r0⟩
      | 1, hq => cases hq; exact ⟨k0, r0⟩
      | 2, hq => cases hq; exact ⟨k2, r2⟩
      | 3, hq => cases hq; exact ⟨k3, kA, comp, hkA, hkindA, hcomp, hnameA⟩
      | n + 4, hq => cases hq
  obtain ⟨scr, x1, x2, x3, x4, x5⟩ := hX
  have tb : va_T .int b L (fun j => .int (xs j)) (mm_A s.heap.size) s s.heap := ⟨scr, x1, x2, x3, by omega, by rw [x4], x5, fun hz => by unfold mm_A at hz; omega⟩
  have C : mm_Cx p room_1 s m #[Value.ref b] meth c 14 false code 39 (fun ci => (Classical.choose (hkn ci)).1, fun ci => (Classical.choose (hkn ci)).2) (fun k => match k with | 0 => c0 | 1 => c0 | 2 => c2 | _ => c3) s.heap.size (fun k => match k with | 0 => b | 1 => a1 | 2 => a2 | 3 => a3 | 4 => a1 | 5 => a1 | _ => a1) := by
    refine ⟨hx, hb, hml, hown, fun w hw => hts w (List.mem_filter.mp hw).1, fun w hw hn => ?_, (fun h => by cases h), hK, fun q hq => ?_, va_AO.of hover, by decide, by decide⟩
    · have h1 := hts w hw
      cases w with
      | methodLinkNest a i x b => exact va_Nw.of rfl h1
      | _ => cases hn
    · simp only [mm_staL, List.mem_cons, List.not_mem_nil, or_false] at hq
      rcases hq with rfl | rfl | rfl
      · exact z1
      · exact z2
      · exact z3
  have hp : mm_Pt (fun ci => (Classical.choose (hkn ci)).1, fun ci => (Classical.choose (hkn ci)).2) (fun k => match k with | 0 => c0 | 1 => c0 | 2 => c2 | _ => c3) s.heap.size (fun k => match k with | 0 => b | 1 => a1 | 2 => a2 | 3 => a3 | 4 => a1 | 5 => a1 | _ => a1) s (mm_w0 L xs) s.heap [] 0 0 (mm_w0 L xs) := by
    refine ⟨⟨fun k q hq => ?_, Nat.le_refl 7, fun k hk => ?_, fun k hk => ?_⟩, va_S.rf, rfl, rfl, rfl, Nat.le_refl 7⟩
    · cases hq
    · match k, hk with
      | 0, _ => exact Or.inl ⟨rfl, tb⟩
      | 1, _ => exact Or.inl ⟨rfl, t1⟩
      | 2, _ => exact Or.inl ⟨rfl, t2⟩
      | 3, _ => exact Or.inl ⟨rfl, t3⟩
      | 4, _ => exact Or.inl ⟨rfl, t1⟩
      | 5, _ => exact Or.inl ⟨rfl, t1⟩
      | 6, _ => exact Or.inl ⟨rfl, t1⟩
      | n + 7, h => exact absurd h (by omega)
    · rw [mm_nth_out (by exact hk)]
      exact ⟨by decide, by decide⟩
  have hR : d + 2 ≤ room_1.frames ∧ 60 * d + 160 ≤ room_1.locals := by
    show d + 2 ≤ 2048 ∧ 60 * d + 160 ≤ 84000
    omega
  have hroom : w1.1.length ≤ (mm_w0 L xs).1.length + room_1.cells ∧ mm_sl w1.1 ≤ mm_sl (mm_w0 L xs).1 + room_1.slots := by
    show w1.1.length ≤ _ + 600000 ∧ mm_sl w1.1 ≤ _ + 7302250
    omega
  rw [lg_entry_eq]
  refine mm_ex_ok (d := d) C hR (mm_runs_le d) (mm_sound l d) hroom ?_ n 0 _ [] _ hex _ _ _ _ _ (mm_entry (as := [.ref 0]) rfl) hp
  intro pc j st H locs cells slots ls hp1 hd1 hj hret
  have e1 := hp1.2.2.1
  have e2 := hp1.2.2.2.1
  have e3 : (mm_w0 L xs).1.length = 7 := rfl
  unfold mm_ret at hret
  split at hret
  · rename_i h
    cases h
  · rename_i x _
    obtain ⟨-, hx1⟩ := hret
    cases hx1
    refine va_forget (fun q hq => hp1.2.1.2.2 q hq) (W.widen (k := 600000) (n := 7302250) (by omega) (by omega) ?_)
    exact lw_ret hx hb hrt hlocks hd1
  all_goals first | (rename_i h; cases h; done) | exact hret.elim

