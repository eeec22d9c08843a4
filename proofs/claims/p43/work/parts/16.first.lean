/-! where the run begins: reads of the first ints -/
def f0_rd (l : List (Nat × Option (Nat × Int32))) (k : Nat) (c : Nat → Int32) : Nat → Int32 := l.foldl (fun c o => if k = o.1 then (match o.2 with | none => fun _ => 0 | some (i, v) => upd c i v) else c) c
def f0_T (j : Nat) : Int32 := mm_t1.getD j 0
def f0_P (f : (Nat → Nat → Int32) → Nat → Nat → Int32) (l : List (Nat × Option (Nat × Int32))) : Prop := ∀ I, I 1 = f0_T → f I 1 = f0_T ∧ ∀ k, f I k = f0_rd l k (I k)
theorem f0_id : f0_P (fun I => I) [] := fun _ h => ⟨h, fun _ => rfl⟩
theorem f0_uc {k0 : Nat} {b : (Nat → Nat → Int32) → Nat → Nat → Int32} {l : List (Nat × Option (Nat × Int32))} (z : 1 ≠ k0) (h : f0_P b l) : f0_P (fun I => mm_lw (mm_uc I k0 (fun _ => 0)) b) ((k0, none) :: l) := by
  intro I hI
  obtain ⟨h1, h2⟩ := h (mm_uc I k0 (fun _ => 0)) ((mm_uc_ne _ _ z).trans hI)
  refine ⟨h1, fun k => (h2 k).trans ?_⟩
  show f0_rd l k _ = f0_rd l k (if k = k0 then (fun _ => 0) else I k)
  congr 1
theorem f0_up {k0 i : Nat} {v : (Nat → Nat → Int32) → Int32} {w : Int32} {b : (Nat → Nat → Int32) → Nat → Nat → Int32} {l : List (Nat × Option (Nat × Int32))} (z : 1 ≠ k0) (hv : ∀ I, I 1 = f0_T → v I = w) (h : f0_P b l) : f0_P (fun I => mm_lw (mm_uc I k0 (upd (I k0) i (v I))) b) ((k0, some (i, w)) :: l) := by
  intro I hI
  obtain ⟨h1, h2⟩ := h (mm_uc I k0 (upd (I k0) i (v I))) ((mm_uc_ne _ _ z).trans hI)
  refine ⟨h1, fun k => (h2 k).trans ?_⟩
  show f0_rd l k _ = f0_rd l k (if k = k0 then upd (I k) i w else I k)
  congr 1
  by_cases y : k = k0
  · rw [if_pos y, y, hv I hI]; exact mm_uc_self _ _ _
  · rw [if_neg y]; exact mm_uc_ne _ _ y
theorem f0_zc {a b : (Nat → Nat → Int32) → Nat → Nat → Int32} {la l : List (Nat × Option (Nat × Int32))} (g : f0_P a la) (h : f0_P b l) : f0_P (fun I => mm_lw (a I) b) (la ++ l) := by
  intro I hI
  obtain ⟨g1, g2⟩ := g I hI
  obtain ⟨h1, h2⟩ := h (a I) g1
  refine ⟨h1, fun k => (h2 k).trans ?_⟩
  rw [g2]
  unfold f0_rd
  rw [List.foldl_append]
def f0_z2 : List (Nat × Option (Nat × Int32)) := ((9, none) :: ((9, some (((((30 : Int32) + (((5 : Int32) - (5 : Int32)) * (9 : Int32))) + (0 : Int32)).toNatClampNeg), ((f0_T 5)))) :: ((9, some (((((30 : Int32) + (((5 : Int32) - (5 : Int32)) * (9 : Int32))) + ((0 : Int32) + (1 : Int32))).toNatClampNeg), ((f0_T 5)))) :: ((9, some (((((30 : Int32) + (((5 : Int32) - (5 : Int32)) * (9 : Int32))) + (((0 : Int32) + (1 : Int32)) + (1 : Int32))).toNatClampNeg), ((f0_T 5)))) :: ((9, some (((((30 : Int32) + (((5 : Int32) - (5 : Int32)) * (9 : Int32))) + ((((0 : Int32) + (1 : Int32)) + (1 : Int32)) + (1 : Int32))).toNatClampNeg), ((f0_T 5)))) :: ((9, some (((((30 : Int32) + (((5 : Int32) - (5 : Int32)) * (9 : Int32))) + (((((0 : Int32) + (1 : Int32)) + (1 : Int32)) + (1 : Int32)) + (1 : Int32))).toNatClampNeg), ((f0_T 5)))) :: ((9, some (((((30 : Int32) + (((5 : Int32) - (5 : Int32)) * (9 : Int32))) + ((((((0 : Int32) + (1 : Int32)) + (1 : Int32)) + (1 : Int32)) + (1 : Int32)) + (1 : Int32))).toNatClampNeg), ((f0_T 5)))) :: ((9, some (((((30 : Int32) + (((5 : Int32) - (5 : Int32)) * (9 : Int32))) + (((((((0 : Int32) + (1 : Int32)) + (1 : Int32)) + (1 : Int32)) + (1 : Int32)) + (1 : Int32)) + (1 : Int32))).toNatClampNeg), ((f0_T 5)))) :: ((9, some (((((30 : Int32) + (((5 : Int32) - (5 : Int32)) * (9 : Int32))) + ((((((((0 : Int32) + (1 : Int32)) + (1 : Int32)) + (1 : Int32)) + (1 : Int32)) + (1 : Int32)) + (1 : Int32)) + (1 : Int32))).toNatClampNeg), ((f0_T 5)))) :: ((9, some (((((30 : Int32) + (((5 : Int32) - (5 : Int32)) * (9 : Int32))) + (((((((((0 : Int32) + (1 : Int32)) + (1 : Int32)) + (1 : Int32)) + (1 : Int32)) + (1 : Int32)) + (1 : Int32)) + (1 : Int32)) + (1 : Int32))).toNatClampNeg), ((f0_T 5)))) :: ((9, some (((((30 : Int32) + ((((5 : Int32) + (1 : Int32)) - (5 : Int32)) * (9 : Int32))) + (0 : Int32)).toNatClampNeg), ((f0_T ((5 : Int32) + (1 : Int32)).toNatClampNeg)))) :: ((9, some (((((30 : Int32) + ((((5 : Int32) + (1 : Int32)) - (5 : Int32)) * (9 : Int32))) + ((0 : Int32) + (1 : Int32))).toNatClampNeg), ((f0_T ((5 : Int32) + (1 : Int32)).toNatClampNeg)))) :: ((9, some (((((30 : Int32) + ((((5 : Int32) + (1 : Int32)) - (5 : Int32)) * (9 : Int32))) + (((0 : Int32) + (1 : Int32)) + (1 : Int32))).toNatClampNeg), ((f0_T ((5 : Int32) + (1 : Int32)).toNatClampNeg)))) :: ((9, some (((((30 : Int32) + ((((5 : Int32) + (1 : Int32)) - (5 : Int32)) * (9 : Int32))) + ((((0 : Int32) + (1 : Int32)) + (1 : Int32)) + (1 : Int32))).toNatClampNeg), ((f0_T ((5 : Int32) + (1 : Int32)).toNatClampNeg)))) :: ((9, some (((((30 : Int32) + ((((5 : Int32) + (1 : Int32)) - (5 : Int32)) * (9 : Int32))) + (((((0 : Int32) + (1 : Int32)) + (1 : Int32)) + (1 : Int32)) + (1 : Int32))).toNatClampNeg), ((f0_T ((5 : Int32) + (1 : Int32)).toNatClampNeg)))) :: ((9, some (((((30 : Int32) + ((((5 : Int32) + (1 : Int32)) - (5 : Int32)) * (9 : Int32))) + ((((((0 : Int32) + (1 : Int32)) + (1 : Int32)) + (1 : Int32)) + (1 : Int32)) + (1 : Int32))).toNatClampNeg), ((f0_T ((5 : Int32) + (1 : Int32)).toNatClampNeg)))) :: ((9, some (((((30 : Int32) + ((((5 : Int32) + (1 : Int32)) - (5 : Int32)) * (9 : Int32))) + (((((((0 : Int32) + (1 : Int32)) + (1 : Int32)) + (1 : Int32)) + (1 : Int32)) + (1 : Int32)) + (1 : Int32))).toNatClampNeg), ((f0_T ((5 : Int32) + (1 : Int32)).toNatClampNeg)))) :: ((9, some (((((30 : Int32) + ((((5 : Int32) + (1 : Int32)) - (5 : Int32)) * (9 : Int32))) + ((((((((0 : Int32) + (1 : Int32)) + (1 : Int32)) + (1 : Int32)) + (1 : Int32)) + (1 : Int32)) + (1 : Int32)) + (1 : Int32))).toNatClampNeg), ((f0_T ((5 : Int32) + (1 : Int32)).toNatClampNeg)))) :: ((9, some (((((30 : Int32) + ((((5 : Int32) + (1 : Int32)) - (5 : Int32)) * (9 : Int32))) + (((((((((0 : Int32) + (1 : Int32)) + (1 : Int32)) + (1 : Int32)) + (1 : Int32)) + (1 : Int32)) + (1 : Int32)) + (1 : Int32)) + (1 : Int32))).toNatClampNeg), ((f0_T ((5 : Int32) + (1 : Int32)).toNatClampNeg)))) :: ((9, some (((((48 : Int32) + (7 : Int32)) - (7 : Int32)).toNatClampNeg), ((f0_T 7)))) :: ((9, some (((((48 : Int32) + ((7 : Int32) + (1 : Int32))) - (7 : Int32)).toNatClampNeg), ((f0_T ((7 : Int32) + (1 : Int32)).toNatClampNeg)))) :: ((9, some (((((48 : Int32) + (((7 : Int32) + (1 : Int32)) + (1 : Int32))) - (7 : Int32)).toNatClampNeg), ((f0_T (((7 : Int32) + (1 : Int32)) + (1 : Int32)).toNatClampNeg)))) :: ((9, some (((((48 : Int32) + ((((7 : Int32) + (1 : Int32)) + (1 : Int32)) + (1 : Int32))) - (7 : Int32)).toNatClampNeg), ((f0_T ((((7 : Int32) + (1 : Int32)) + (1 : Int32)) + (1 : Int32)).toNatClampNeg)))) :: ((9, some (((((48 : Int32) + (((((7 : Int32) + (1 : Int32)) + (1 : Int32)) + (1 : Int32)) + (1 : Int32))) - (7 : Int32)).toNatClampNeg), ((f0_T (((((7 : Int32) + (1 : Int32)) + (1 : Int32)) + (1 : Int32)) + (1 : Int32)).toNatClampNeg)))) :: ((9, some (((((48 : Int32) + ((((((7 : Int32) + (1 : Int32)) + (1 : Int32)) + (1 : Int32)) + (1 : Int32)) + (1 : Int32))) - (7 : Int32)).toNatClampNeg), ((f0_T ((((((7 : Int32) + (1 : Int32)) + (1 : Int32)) + (1 : Int32)) + (1 : Int32)) + (1 : Int32)).toNatClampNeg)))) :: [])))))))))))))))))))))))))
set_option maxRecDepth 20000 in
theorem f0_z2_P : f0_P zc2I f0_z2 := by
  unfold zc2I f0_z2
  exact f0_uc (by decide) (f0_up (by decide) (fun _ h => congrFun h _) (f0_up (by decide) (fun _ h => congrFun h _) (f0_up (by decide) (fun _ h => congrFun h _) (f0_up (by decide) (fun _ h => congrFun h _) (f0_up (by decide) (fun _ h => congrFun h _) (f0_up (by decide) (fun _ h => congrFun h _) (f0_up (by decide) (fun _ h => congrFun h _) (f0_up (by decide) (fun _ h => congrFun h _) (f0_up (by decide) (fun _ h => congrFun h _) (f0_up (by decide) (fun _ h => congrFun h _) (f0_up (by decide) (fun _ h => congrFun h _) (f0_up (by decide) (fun _ h => congrFun h _) (f0_up (by decide) (fun _ h => congrFun h _) (f0_up (by decide) (fun _ h => congrFun h _) (f0_up (by decide) (fun _ h => congrFun h _) (f0_up (by decide) (fun _ h => congrFun h _) (f0_up (by decide) (fun _ h => congrFun h _) (f0_up (by decide) (fun _ h => congrFun h _) (f0_up (by decide) (fun _ h => congrFun h _) (f0_up (by decide) (fun _ h => congrFun h _) (f0_up (by decide) (fun _ h => congrFun h _) (f0_up (by decide) (fun _ h => congrFun h _) (f0_up (by decide) (fun _ h => congrFun h _) (f0_up (by decide) (fun _ h => congrFun h _) (f0_id)))))))))))))))))))))))))
def f0_z3 : List (Nat × Option (Nat × Int32)) := ((11, none) :: ((12, none) :: ((13, none) :: [])))
set_option maxRecDepth 20000 in
theorem f0_z3_P : f0_P zc3I f0_z3 := by
  unfold zc3I f0_z3
  exact f0_uc (by decide) (f0_uc (by decide) (f0_uc (by decide) (f0_id)))
def f0_z4 : List (Nat × Option (Nat × Int32)) := []
set_option maxRecDepth 20000 in
theorem f0_z4_P : f0_P zc4I f0_z4 := by
  unfold zc4I f0_z4
  exact f0_id
def f0_z5 : List (Nat × Option (Nat × Int32)) := ((17, none) :: [])
set_option maxRecDepth 20000 in
theorem f0_z5_P : f0_P zc5I f0_z5 := by
  unfold zc5I f0_z5
  exact f0_uc (by decide) (f0_id)
def f0_z6 : List (Nat × Option (Nat × Int32)) := ((19, none) :: [])
set_option maxRecDepth 20000 in
theorem f0_z6_P : f0_P zc6I f0_z6 := by
  unfold zc6I f0_z6
  exact f0_uc (by decide) (f0_id)
def f0_z7 : List (Nat × Option (Nat × Int32)) := ((21, none) :: [])
set_option maxRecDepth 20000 in
theorem f0_z7_P : f0_P zc7I f0_z7 := by
  unfold zc7I f0_z7
  exact f0_uc (by decide) (f0_id)
def f0_z8 : List (Nat × Option (Nat × Int32)) := ((23, none) :: [])
set_option maxRecDepth 20000 in
theorem f0_z8_P : f0_P zc8I f0_z8 := by
  unfold zc8I f0_z8
  exact f0_uc (by decide) (f0_id)
def f0_z9 : List (Nat × Option (Nat × Int32)) := ((25, none) :: [])
set_option maxRecDepth 20000 in
theorem f0_z9_P : f0_P zc9I f0_z9 := by
  unfold zc9I f0_z9
  exact f0_uc (by decide) (f0_id)
def f0_z10 : List (Nat × Option (Nat × Int32)) := ((27, none) :: [])
set_option maxRecDepth 20000 in
theorem f0_z10_P : f0_P zc10I f0_z10 := by
  unfold zc10I f0_z10
  exact f0_uc (by decide) (f0_id)
def f0_z11 : List (Nat × Option (Nat × Int32)) := ((29, none) :: ((30, none) :: []))
set_option maxRecDepth 20000 in
theorem f0_z11_P : f0_P zc11I f0_z11 := by
  unfold zc11I f0_z11
  exact f0_uc (by decide) (f0_uc (by decide) (f0_id))
def f0_z12 : List (Nat × Option (Nat × Int32)) := ((32, none) :: ((33, none) :: ((34, none) :: [])))
set_option maxRecDepth 20000 in
theorem f0_z12_P : f0_P zc12I f0_z12 := by
  unfold zc12I f0_z12
  exact f0_uc (by decide) (f0_uc (by decide) (f0_uc (by decide) (f0_id)))
def f0_z13 : List (Nat × Option (Nat × Int32)) := ((36, none) :: ((37, none) :: ((38, none) :: [])))
set_option maxRecDepth 20000 in
theorem f0_z13_P : f0_P zc13I f0_z13 := by
  unfold zc13I f0_z13
  exact f0_uc (by decide) (f0_uc (by decide) (f0_uc (by decide) (f0_id)))
def f0_z14 : List (Nat × Option (Nat × Int32)) := ((40, none) :: ((41, none) :: ((42, none) :: ((43, none) :: []))))
set_option maxRecDepth 20000 in
theorem f0_z14_P : f0_P zc14I f0_z14 := by
  unfold zc14I f0_z14
  exact f0_uc (by decide) (f0_uc (by decide) (f0_uc (by decide) (f0_uc (by decide) (f0_id))))
def f0_z15 : List (Nat × Option (Nat × Int32)) := ((45, none) :: [])
set_option maxRecDepth 20000 in
theorem f0_z15_P : f0_P zc15I f0_z15 := by
  unfold zc15I f0_z15
  exact f0_uc (by decide) (f0_id)
def f0_z16 : List (Nat × Option (Nat × Int32)) := ((47, none) :: ((48, none) :: ((48, some (((((3 : Int32) * (0 : Int32)) + (1 : Int32)).toNatClampNeg), (-2 : Int32))) :: ((48, some (((((3 : Int32) * ((0 : Int32) + (1 : Int32))) + (1 : Int32)).toNatClampNeg), (-2 : Int32))) :: ((48, some (((((3 : Int32) * (((0 : Int32) + (1 : Int32)) + (1 : Int32))) + (1 : Int32)).toNatClampNeg), (-2 : Int32))) :: ((48, some (((((3 : Int32) * ((((0 : Int32) + (1 : Int32)) + (1 : Int32)) + (1 : Int32))) + (1 : Int32)).toNatClampNeg), (-2 : Int32))) :: ((48, some (((((3 : Int32) * (((((0 : Int32) + (1 : Int32)) + (1 : Int32)) + (1 : Int32)) + (1 : Int32))) + (1 : Int32)).toNatClampNeg), (-2 : Int32))) :: ((48, some (((((3 : Int32) * ((((((0 : Int32) + (1 : Int32)) + (1 : Int32)) + (1 : Int32)) + (1 : Int32)) + (1 : Int32))) + (1 : Int32)).toNatClampNeg), (-2 : Int32))) :: []))))))))
set_option maxRecDepth 20000 in
theorem f0_z16_P : f0_P zc16I f0_z16 := by
  unfold zc16I f0_z16
  exact f0_uc (by decide) (f0_uc (by decide) (f0_up (by decide) (fun _ _ => rfl) (f0_up (by decide) (fun _ _ => rfl) (f0_up (by decide) (fun _ _ => rfl) (f0_up (by decide) (fun _ _ => rfl) (f0_up (by decide) (fun _ _ => rfl) (f0_up (by decide) (fun _ _ => rfl) (f0_id))))))))
def f0_z17 : List (Nat × Option (Nat × Int32)) := ((50, none) :: ((51, none) :: []))
set_option maxRecDepth 20000 in
theorem f0_z17_P : f0_P zc17I f0_z17 := by
  unfold zc17I f0_z17
  exact f0_uc (by decide) (f0_uc (by decide) (f0_id))
def f0_z1 : List (Nat × Option (Nat × Int32)) := ((8, none) :: (f0_z2 ++ ((10, none) :: (f0_z3 ++ ((14, none) :: (f0_z4 ++ ((15, none) :: ((16, none) :: (f0_z5 ++ ((18, none) :: (f0_z6 ++ ((20, none) :: (f0_z7 ++ ((22, none) :: (f0_z8 ++ ((24, none) :: (f0_z9 ++ ((26, none) :: (f0_z10 ++ ((28, none) :: (f0_z11 ++ ((31, none) :: (f0_z12 ++ ((35, none) :: (f0_z13 ++ ((39, none) :: (f0_z14 ++ ((44, none) :: (f0_z15 ++ ((46, none) :: (f0_z16 ++ ((49, none) :: (f0_z17 ++ [])))))))))))))))))))))))))))))))))
set_option maxRecDepth 20000 in
theorem f0_z1_P : f0_P zc1I f0_z1 := by
  unfold zc1I f0_z1
  exact f0_uc (by decide) (f0_zc f0_z2_P (f0_uc (by decide) (f0_zc f0_z3_P (f0_uc (by decide) (f0_zc f0_z4_P (f0_uc (by decide) (f0_uc (by decide) (f0_zc f0_z5_P (f0_uc (by decide) (f0_zc f0_z6_P (f0_uc (by decide) (f0_zc f0_z7_P (f0_uc (by decide) (f0_zc f0_z8_P (f0_uc (by decide) (f0_zc f0_z9_P (f0_uc (by decide) (f0_zc f0_z10_P (f0_uc (by decide) (f0_zc f0_z11_P (f0_uc (by decide) (f0_zc f0_z12_P (f0_uc (by decide) (f0_zc f0_z13_P (f0_uc (by decide) (f0_zc f0_z14_P (f0_uc (by decide) (f0_zc f0_z15_P (f0_uc (by decide) (f0_zc f0_z16_P (f0_uc (by decide) (f0_zc f0_z17_P (f0_id)))))))))))))))))))))))))))))))))
theorem f0_Iz (xs : Nat → Int32) (k : Nat) (h7 : k ≠ 7) (h52 : k < 52) : mm_Iz xs k = f0_rd f0_z1 k (mm_I0 xs k) := by
  obtain ⟨a1, a2⟩ := f0_z1_P (mm_uc (mm_I0 xs) 7 (fun _ => 0)) ((mm_uc_ne _ _ (by decide)).trans rfl)
  unfold mm_Iz
  rw [mm_uc_ne _ _ (by omega), mm_uc_ne _ _ (by omega), mm_uc_ne _ _ (by omega), mm_uc_ne _ _ (by omega), a2, mm_uc_ne _ _ h7]
theorem f0_row (xs : Nat → Int32) : mm_Iz xs 52 = (fun _ => 0) ∧ mm_Iz xs 53 = (fun _ => 0) ∧ mm_Iz xs 54 = (fun _ => 0) ∧ mm_Iz xs 55 = fun _ => 0 := by
  unfold mm_Iz
  refine ⟨?_, ?_, ?_, mm_uc_self _ _ _⟩
  · rw [mm_uc_ne _ _ (by decide), mm_uc_ne _ _ (by decide), mm_uc_ne _ _ (by decide), mm_uc_self]
  · rw [mm_uc_ne _ _ (by decide), mm_uc_ne _ _ (by decide), mm_uc_self]
  · rw [mm_uc_ne _ _ (by decide), mm_uc_self]
def f0_c (k : Nat) : Nat → Int32 := f0_rd f0_z1 k (fun _ => 0)
theorem f0_9 : ∀ j, j < 54 → f0_c 9 j = (if j < 30 then 0 else if j < 39 then 5 else if j < 49 then 0 else if j = 49 then 999 else if j = 50 then 400 else if j = 51 then 5 else if j = 52 then Int32.ofInt (-1) else 0) := by decide +kernel
theorem f0_n : f0_c 8 1 = 0 ∧ f0_c 31 3 = 0 ∧ f0_c 28 2 = 0 ∧ f0_c 10 3 = 0 := by decide +kernel
theorem f0_at (xs : Nat → Int32) : mm_Iz xs 0 = xs ∧ (∀ j, mm_Iz xs 1 j = mm_t1.getD j 0) ∧ (∀ j, mm_Iz xs 2 j = mm_t2.getD j 0) ∧ (∀ j, mm_Iz xs 3 j = mm_t3.getD j 0) ∧ mm_Iz xs 8 1 = 0 ∧ mm_Iz xs 9 = f0_c 9 ∧ mm_Iz xs 31 3 = 0 ∧ mm_Iz xs 28 2 = 0 ∧ mm_Iz xs 10 3 = 0 := by
  have e : ∀ k, k ≠ 7 → k < 52 → mm_Iz xs k = f0_rd f0_z1 k (mm_I0 xs k) := f0_Iz xs
  refine ⟨(e 0 (by decide) (by decide)).trans rfl, fun j => by rw [e 1 (by decide) (by decide)]; rfl, fun j => by rw [e 2 (by decide) (by decide)]; rfl, fun j => by rw [e 3 (by decide) (by decide)]; rfl, ?_, (e 9 (by decide) (by decide)).trans rfl, ?_, ?_, ?_⟩
  · rw [e 8 (by decide) (by decide)]
    exact f0_n.1
  · rw [e 31 (by decide) (by decide)]
    exact f0_n.2.1
  · rw [e 28 (by decide) (by decide)]
    exact f0_n.2.2.1
  · rw [e 10 (by decide) (by decide)]
    exact f0_n.2.2.2
