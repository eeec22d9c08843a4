/-! of the class alone: out of the rows of the whole claim (wip/p43/extract2.py) -/
def lb (b : Nat → Bool) : Nat → Nat → List Nat
  | 0, _ => []
  | m + 1, i => cond (b i) (i :: lb b m (i + 1)) (lb b m (i + 1))
theorem lb_congr {b b' : Nat → Bool} : ∀ m i, (∀ j, i ≤ j → j < i + m → b j = b' j) → lb b m i = lb b' m i
  | 0, _, _ => rfl
  | m + 1, i, h => by
    show cond (b i) _ _ = cond (b' i) _ _
    rw [h i (Nat.le_refl _) (by omega), lb_congr m (i + 1) (fun j h1 h2 => h j (by omega) (by omega))]
def rm (x : Nat) (l : List Nat) : List Nat := l.filter (fun y => y != x)
theorem rm_cons (x y : Nat) (l : List Nat) : rm x (y :: l) = if y = x then rm x l else y :: rm x l := by
  unfold rm
  rw [List.filter_cons]
  by_cases h : y = x
  · rw [if_pos h, if_neg (by simp [h])]
  · rw [if_neg h, if_pos (by simp [h])]
theorem mem_lb {b : Nat → Bool} {x : Nat} : ∀ m i, x ∈ lb b m i ↔ i ≤ x ∧ x < i + m ∧ b x = true
  | 0, i => ⟨fun h => absurd h (List.not_mem_nil), fun h => by omega⟩
  | m + 1, i => by
    show x ∈ cond (b i) (i :: lb b m (i + 1)) (lb b m (i + 1)) ↔ _
    have ih := mem_lb (b := b) (x := x) m (i + 1)
    cases hb : b i with
    | true =>
      rw [cond_true, List.mem_cons, ih]
      constructor
      · rintro (rfl | ⟨h1, h2, h3⟩)
        · exact ⟨Nat.le_refl _, by omega, hb⟩
        · exact ⟨by omega, by omega, h3⟩
      · rintro ⟨h1, h2, h3⟩
        by_cases e : x = i
        · exact Or.inl e
        · exact Or.inr ⟨by omega, by omega, h3⟩
    | false =>
      rw [cond_false, ih]
      constructor
      · rintro ⟨h1, h2, h3⟩
        exact ⟨by omega, by omega, h3⟩
      · rintro ⟨h1, h2, h3⟩
        have : x ≠ i := fun e => by rw [e, hb] at h3; exact absurd h3 (by decide)
        exact ⟨by omega, by omega, h3⟩
theorem lb_rm {b b' : Nat → Bool} {x : Nat} : ∀ m i, (∀ j, i ≤ j → j < i + m → b' j = (b j && j != x)) → rm x (lb b m i) = lb b' m i
  | 0, _, _ => rfl
  | m + 1, i, h => by
    have ih := lb_rm (b := b) (b' := b') (x := x) m (i + 1) (fun j h1 h2 => h j (by omega) (by omega))
    show rm x (cond (b i) (i :: lb b m (i + 1)) (lb b m (i + 1))) = cond (b' i) (i :: lb b' m (i + 1)) (lb b' m (i + 1))
    rw [h i (Nat.le_refl _) (by omega)]
    cases hb : b i with
    | true =>
      rw [cond_true, rm_cons, ih, Bool.true_and]
      by_cases e : i = x
      · rw [if_pos e, e]
        simp
      · rw [if_neg e]
        have : (i != x) = true := by simp [e]
        rw [this, cond_true]
    | false =>
      rw [cond_false, ih, Bool.false_and, cond_false]
theorem lb_len {b b' : Nat → Bool} {x : Nat} : ∀ m i, (∀ j, i ≤ j → j < i + m → b' j = (b j && j != x)) → i ≤ x → x < i + m → b x = true → (lb b m i).length = (lb b' m i).length + 1
  | 0, i, _, h1, h2, _ => by omega
  | m + 1, i, h, h1, h2, hx => by
    show (cond (b i) (i :: lb b m (i + 1)) (lb b m (i + 1))).length = (cond (b' i) (i :: lb b' m (i + 1)) (lb b' m (i + 1))).length + 1
    rw [h i (Nat.le_refl _) (by omega)]
    by_cases e : i = x
    · subst e
      have en : lb b m (i + 1) = lb b' m (i + 1) := lb_congr m (i + 1) (fun j a1 a2 => by
        rw [h j (by omega) (by omega)]
        have : (j != i) = true := by simp; omega
        rw [this, Bool.and_true])
      rw [hx, cond_true]
      have : (i != i) = false := by simp
      rw [this, Bool.true_and, cond_false, en]
      rfl
    · have ih := lb_len (b := b) (b' := b') (x := x) m (i + 1) (fun j a1 a2 => h j (by omega) (by omega)) (by omega) (by omega) hx
      have : (i != x) = true := by simp [e]
      rw [this, Bool.and_true]
      cases hb : b i with
      | true =>
        rw [cond_true, cond_true, List.length_cons, List.length_cons, ih]
      | false =>
        rw [cond_false, cond_false, ih]
def mf (f : Nat → Int32) : List Nat → Int32 → Int32
  | [], a => a
  | x :: l, a => mf f l (mm_max a (f x))
theorem mf_congr {f g : Nat → Int32} : ∀ (l : List Nat) (a : Int32), (∀ x, x ∈ l → f x = g x) → mf f l a = mf g l a
  | [], _, _ => rfl
  | x :: l, a, h => by
    show mf f l (mm_max a (f x)) = mf g l (mm_max a (g x))
    rw [h x List.mem_cons_self]
    exact mf_congr l _ (fun y hy => h y (List.mem_cons_of_mem _ hy))
theorem mf_rng {f : Nat → Int32} {y : Int} : ∀ (l : List Nat) (a : Int32), (∀ x, x ∈ l → 0 ≤ (f x).toInt ∧ (f x).toInt ≤ y) → 0 ≤ a.toInt → a.toInt ≤ y → 0 ≤ (mf f l a).toInt ∧ (mf f l a).toInt ≤ y
  | [], a, _, h0, h1 => ⟨h0, h1⟩
  | x :: l, a, h, h0, h1 => by
    have hx := h x List.mem_cons_self
    exact mf_rng l (mm_max a (f x)) (fun z hz => h z (List.mem_cons_of_mem _ hz)) (by rw [max_ti]; omega) (by rw [max_ti]; omega)
theorem mf_ge {f : Nat → Int32} : ∀ (l : List Nat) (a : Int32), a.toInt ≤ (mf f l a).toInt ∧ (∀ x, x ∈ l → (f x).toInt ≤ (mf f l a).toInt) ∧ ((mf f l a) = a ∨ ∃ x, x ∈ l ∧ mf f l a = f x)
  | [], a => ⟨Int.le_refl _, fun x hx => absurd hx (List.not_mem_nil), Or.inl rfl⟩
  | x :: l, a => by
    obtain ⟨h1, h2, h3⟩ := mf_ge (f := f) l (mm_max a (f x))
    have mt := max_ti a (f x)
    refine ⟨?_, ?_, ?_⟩
    · show a.toInt ≤ (mf f l (mm_max a (f x))).toInt
      omega
    · intro y hy
      show (f y).toInt ≤ (mf f l (mm_max a (f x))).toInt
      rcases List.mem_cons.mp hy with e | e
      · rw [e]; omega
      · exact h2 y e
    · show mf f l (mm_max a (f x)) = a ∨ ∃ y, y ∈ x :: l ∧ mf f l (mm_max a (f x)) = f y
      rcases h3 with e | ⟨y, hy, e⟩
      · rw [e]
        unfold mm_max
        by_cases c : a < f x
        · rw [if_pos c]
          exact Or.inr ⟨x, List.mem_cons_self, rfl⟩
        · rw [if_neg c]
          exact Or.inl rfl
      · exact Or.inr ⟨y, List.mem_cons_of_mem _ hy, e⟩
theorem max_assoc (a b c : Int32) : mm_max a (mm_max b c) = mm_max (mm_max a b) c := by
  rw [eq32, max_ti, max_ti, max_ti, max_ti]
  omega
theorem tg_assoc (rl h a b : Int32) : tg rl h (tg rl a b) = tg rl (tg rl h a) b := by
  unfold tg
  by_cases e : rl = 0
  · rw [if_pos e, if_pos e, if_pos e, if_pos e, max_assoc]
  · rw [if_neg e, if_neg e, if_neg e, if_neg e, Int32.add_assoc]
theorem tg_0 {rl h : Int32} (h0 : 0 ≤ h.toInt) : tg rl h 0 = h := by
  unfold tg
  by_cases e : rl = 0
  · rw [if_pos e, max_0 h0]
  · rw [if_neg e, Int32.add_zero]
theorem tg_0l {rl a : Int32} (h0 : 0 ≤ a.toInt) : tg rl 0 a = a := by
  unfold tg
  by_cases e : rl = 0
  · rw [if_pos e, eq32, max_ti, ti0]
    omega
  · rw [if_neg e, Int32.zero_add]
theorem tg_mono {rl h a b : Int32} (hh : 0 ≤ h.toInt ∧ h.toInt ≤ 50000) (ha : 0 ≤ a.toInt ∧ a.toInt ≤ 50000) (hb : 0 ≤ b.toInt ∧ b.toInt ≤ 50000) (hab : a.toInt ≤ b.toInt) : (tg rl h a).toInt ≤ (tg rl h b).toInt := by
  unfold tg
  by_cases e : rl = 0
  · rw [if_pos e, if_pos e, max_ti, max_ti]
    omega
  · rw [if_neg e, if_neg e, mm_add_ti (by omega) (by omega), mm_add_ti (by omega) (by omega)]
    omega
section ORD
variable (rl : Int32) (w : Nat → Nat → Int32)
def Mo : Nat → List Nat → Nat → Int32
  | 0, _, _ => 0
  | n + 1, l, t => mf (fun x => tg rl (w x t) (Mo n (rm x l) (t + 1))) l 0
def Vx (n : Nat) (l : List Nat) (t : Nat) (h : Int32) (x : Nat) : Int32 := tg rl (tg rl h (w x t)) (Mo rl w n (rm x l) (t + 1))
def fst1 (f : Nat → Int32) (g : Int32) : List Nat → Nat
  | [] => 0
  | x :: l => if f x = g then x else fst1 f g l
def gr : Nat → List Nat → Nat → Int32 → Int32 → List Nat
  | 0, _, _, _, _ => []
  | n + 1, l, t, h, g => fst1 (Vx rl w n l t h) g l :: gr n (rm (fst1 (Vx rl w n l t h) g l) l) (t + 1) (tg rl h (w (fst1 (Vx rl w n l t h) g l) t)) g
end ORD
section ORE
variable {rl : Int32} {w : Nat → Nat → Int32}
theorem Mo_rng (hw : ∀ x t, 0 ≤ (w x t).toInt ∧ (w x t).toInt ≤ 129) : ∀ (n : Nat) (l : List Nat) (t : Nat), n ≤ 10 → 0 ≤ (Mo rl w n l t).toInt ∧ (Mo rl w n l t).toInt ≤ 129 * n
  | 0, _, _, _ => by
    show 0 ≤ (0 : Int32).toInt ∧ (0 : Int32).toInt ≤ _
    rw [ti0]
    omega
  | n + 1, l, t, hn => by
    refine mf_rng (y := 129 * ((n + 1 : Nat) : Int)) l 0 (fun x _ => ?_) (by rw [ti0]; omega) (by rw [ti0]; omega)
    have ih := Mo_rng hw n (rm x l) (t + 1) (by omega)
    have := tg_rng (rl := rl) (hw x t) ih (by omega) (by omega) (by omega)
    omega
theorem tg_mf {h : Int32} (hh : 0 ≤ h.toInt ∧ h.toInt ≤ 2000) {f : Nat → Int32} : ∀ (l : List Nat) (a : Int32), (∀ x, x ∈ l → 0 ≤ (f x).toInt ∧ (f x).toInt ≤ 2000) → 0 ≤ a.toInt → a.toInt ≤ 2000 → tg rl h (mf f l a) = mf (fun x => tg rl h (f x)) l (tg rl h a)
  | [], _, _, _, _ => rfl
  | x :: l, a, hf, h0, h1 => by
    have hx := hf x List.mem_cons_self
    show tg rl h (mf f l (mm_max a (f x))) = mf (fun x => tg rl h (f x)) l (mm_max (tg rl h a) (tg rl h (f x)))
    rw [tg_mf hh l (mm_max a (f x)) (fun y hy => hf y (List.mem_cons_of_mem _ hy)) (by rw [max_ti]; omega) (by rw [max_ti]; omega)]
    have : tg rl h (mm_max a (f x)) = mm_max (tg rl h a) (tg rl h (f x)) := by
      unfold tg
      by_cases e : rl = 0
      · rw [if_pos e, if_pos e, if_pos e, eq32, max_ti, max_ti, max_ti, max_ti, max_ti]
        omega
      · rw [if_neg e, if_neg e, if_neg e, eq32, max_ti, mm_add_ti (by rw [max_ti]; omega) (by rw [max_ti]; omega), mm_add_ti (by omega) (by omega), mm_add_ti (by omega) (by omega), max_ti]
        omega
    rw [this]
theorem Vx_rng (hw : ∀ x t, 0 ≤ (w x t).toInt ∧ (w x t).toInt ≤ 129) {n : Nat} (hn : n ≤ 9) {h : Int32} (hh : 0 ≤ h.toInt ∧ h.toInt ≤ 2000) (l : List Nat) (t x : Nat) : h.toInt ≤ (Vx rl w n l t h x).toInt ∧ 0 ≤ (Vx rl w n l t h x).toInt ∧ (Vx rl w n l t h x).toInt ≤ 4000 := by
  have m := Mo_rng (rl := rl) hw n (rm x l) (t + 1) (by omega)
  have a := tg_rng (rl := rl) (x := 2000) (y := 129) hh (hw x t) (by omega) (by omega) (by omega)
  have a' := tg_ge (a := h) ⟨hh.1, by omega⟩ (hw x t) rl
  have b := tg_rng (rl := rl) (x := 2129) (y := 1290) (a := tg rl h (w x t)) (b := Mo rl w n (rm x l) (t + 1)) (by omega) (by omega) (by omega) (by omega) (by omega)
  have c : (tg rl h (w x t)).toInt ≤ (Vx rl w n l t h x).toInt := by
    unfold Vx
    have := tg_mono (rl := rl) (h := tg rl h (w x t)) (a := 0) (b := Mo rl w n (rm x l) (t + 1)) ⟨a.1, by omega⟩ (by rw [ti0]; omega) (by omega) (by rw [ti0]; omega)
    rw [tg_0 a.1] at this
    exact this
  unfold Vx at c ⊢
  omega
theorem V_eq (hw : ∀ x t, 0 ≤ (w x t).toInt ∧ (w x t).toInt ≤ 129) {n : Nat} (hn : n ≤ 9) {h : Int32} (hh : 0 ≤ h.toInt ∧ h.toInt ≤ 2000) {l : List Nat} (hl : l ≠ []) (t : Nat) : (∀ x, x ∈ l → (Vx rl w n l t h x).toInt ≤ (tg rl h (Mo rl w (n + 1) l t)).toInt) ∧ ∃ x, x ∈ l ∧ tg rl h (Mo rl w (n + 1) l t) = Vx rl w n l t h x := by
  have e : tg rl h (Mo rl w (n + 1) l t) = mf (Vx rl w n l t h) l h := by
    show tg rl h (mf (fun x => tg rl (w x t) (Mo rl w n (rm x l) (t + 1))) l 0) = _
    rw [tg_mf hh l 0 (fun x _ => ?_) (by rw [ti0]; omega) (by rw [ti0]; omega), tg_0 hh.1]
    · exact mf_congr l h (fun x _ => tg_assoc _ _ _ _)
    · have m := Mo_rng (rl := rl) hw n (rm x l) (t + 1) (by omega)
      have b := tg_rng (rl := rl) (x := 129) (y := 1290) (a := w x t) (b := Mo rl w n (rm x l) (t + 1)) (hw x t) (by omega) (by omega) (by omega) (by omega)
      omega
  obtain ⟨g1, g2, g3⟩ := mf_ge (f := Vx rl w n l t h) l h
  rw [e]
  refine ⟨g2, ?_⟩
  rcases g3 with g3 | g3
  · cases l with
    | nil => exact absurd rfl hl
    | cons y l' =>
      have := g2 y List.mem_cons_self
      have v := (Vx_rng (rl := rl) hw hn hh (y :: l') t y).1
      refine ⟨y, List.mem_cons_self, ?_⟩
      rw [eq32]
      rw [g3] at this ⊢
      omega
  · exact g3
theorem fst1_at {f : Nat → Int32} {g : Int32} : ∀ (r1 : List Nat) (x : Nat) (r2 : List Nat), (∀ y, y ∈ r1 → f y ≠ g) → f x = g → fst1 f g (r1 ++ x :: r2) = x
  | [], x, r2, _, h => if_pos h
  | y :: r1, x, r2, h1, h => by
    show (if f y = g then y else fst1 f g (r1 ++ x :: r2)) = x
    rw [if_neg (h1 y List.mem_cons_self)]
    exact fst1_at r1 x r2 (fun z hz => h1 z (List.mem_cons_of_mem _ hz)) h
theorem fst1_mem {f : Nat → Int32} {g : Int32} : ∀ (l : List Nat), (∃ x, x ∈ l ∧ f x = g) → fst1 f g l ∈ l ∧ f (fst1 f g l) = g
  | [], h => by
    obtain ⟨x, hx, -⟩ := h
    exact absurd hx (List.not_mem_nil)
  | y :: l, h => by
    show (if f y = g then y else fst1 f g l) ∈ y :: l ∧ f (if f y = g then y else fst1 f g l) = g
    by_cases c : f y = g
    · rw [if_pos c]
      exact ⟨List.mem_cons_self, c⟩
    · rw [if_neg c]
      obtain ⟨x, hx, e⟩ := h
      have ih := fst1_mem l (by
        rcases List.mem_cons.mp hx with z | z
        · rw [z] at e
          exact absurd e c
        · exact ⟨x, z, e⟩)
      exact ⟨List.mem_cons_of_mem _ ih.1, ih.2⟩
end ORE
theorem y_getD {l : List Nat} {i : Nat} (h : i < l.length) : l.getD i 0 = l[i] := by
  rw [List.getD_eq_getElem?_getD, List.getElem?_eq_getElem h]
  rfl
theorem tb_xor {s i : Nat} (h : s.testBit i = true) (j : Nat) : (s ^^^ 2 ^ i).testBit j = (s.testBit j && j != i) := by
  rw [Nat.testBit_xor, Nat.testBit_two_pow]
  by_cases e : i = j
  · subst e
    rw [h]
    simp
  · have : (j != i) = true := by simp; omega
    rw [this, Bool.and_true, decide_eq_false e, Bool.xor_false]
theorem bit9 : ∀ s, s < 512 → ∀ z, z < 9 → (((Int32.ofNat s >>> (Int32.ofNat z &&& 31)) &&& 1 = 1) ↔ s.testBit z = true) := by decide +kernel
theorem bit7_x : ∀ l, l < 128 → ∀ i, i < 7 → l.testBit i = true → Int32.ofNat l ^^^ ((1 : Int32) <<< (Int32.ofNat i &&& 31)) = Int32.ofNat (l ^^^ 2 ^ i) ∧ l ^^^ 2 ^ i < l := by decide +kernel
def bcv (a : Int32) : Int32 := match j_bitCount_0f7a4 a (fun _ _ => 0, fun _ _ => 0) with
  | some (r, _) => r
  | none => 0
theorem bc_eq (a : Int32) (q : mm_Q) : j_bitCount_0f7a4 a q = some (bcv a, q) := rfl
theorem bc9 : ∀ s, s < 512 → bcv (Int32.ofNat s) = Int32.ofNat (lb s.testBit 9 0).length := by decide +kernel
theorem bc7 : ∀ k, k ≤ 7 → ∀ l, l < 128 → l < 2 ^ k → bcv (Int32.ofNat l) = Int32.ofNat (lb l.testBit k 0).length := by decide +kernel
theorem shl7 : ∀ k, k ≤ 7 → ((1 : Int32) <<< (Int32.ofNat k &&& 31)).toInt = ((2 ^ k : Nat) : Int) ∧ 2 ^ k ≤ 128 ∧ 0 < 2 ^ k := by decide
theorem lb_sorted {b : Nat → Bool} : ∀ m i, ∀ x, x < (lb b m i).length → i ≤ (lb b m i).getD x 0 ∧ (lb b m i).getD x 0 < i + m ∧ ∀ y, y < x → (lb b m i).getD y 0 < (lb b m i).getD x 0
  | 0, i, x, h => absurd h (Nat.not_lt_zero x)
  | m + 1, i, x, h => by
    have ih := lb_sorted (b := b) m (i + 1)
    have e : lb b (m + 1) i = cond (b i) (i :: lb b m (i + 1)) (lb b m (i + 1)) := rfl
    rw [e] at h ⊢
    cases hb : b i with
    | true =>
      rw [hb, cond_true] at h
      rw [cond_true]
      cases x with
      | zero => exact ⟨Nat.le_refl _, by show i < _; omega, fun y hy => absurd hy (Nat.not_lt_zero y)⟩
      | succ x =>
        have hx : x < (lb b m (i + 1)).length := by
          rw [List.length_cons] at h
          omega
        have a := ih x hx
        rw [List.getD_cons_succ]
        refine ⟨by omega, by omega, fun y hy => ?_⟩
        cases y with
        | zero =>
          rw [List.getD_cons_zero]
          omega
        | succ y =>
          rw [List.getD_cons_succ]
          exact a.2.2 y (by omega)
    | false =>
      rw [hb, cond_false] at h
      rw [cond_false]
      have a := ih x h
      exact ⟨by omega, by omega, a.2.2⟩
theorem lb_all (l : List Nat) : ∀ m i, i + m = l.length → (lb (fun _ => true) m i).map (fun j => l.getD j 0) = l.drop i
  | 0, i, h => by
    rw [List.drop_eq_nil_of_le (by omega)]
    rfl
  | m + 1, i, h => by
    show (l.getD i 0) :: (lb (fun _ => true) m (i + 1)).map (fun j => l.getD j 0) = l.drop i
    rw [lb_all l m (i + 1) (by omega), List.drop_eq_getElem_cons (show i < l.length by omega)]
    rw [y_getD (show i < l.length by omega)]
theorem mf_map (f : Nat → Int32) (g : Nat → Nat) : ∀ (l : List Nat) (a : Int32), mf f (l.map g) a = mf (fun x => f (g x)) l a
  | [], _ => rfl
  | x :: l, a => mf_map f g l (mm_max a (f (g x)))
theorem rm_map {g : Nat → Nat} {x : Nat} : ∀ (l : List Nat), (∀ y, y ∈ l → g y = g x → y = x) → rm (g x) (l.map g) = (rm x l).map g
  | [], _ => rfl
  | y :: l, h => by
    rw [List.map_cons, rm_cons, rm_cons, rm_map l (fun z hz => h z (List.mem_cons_of_mem _ hz))]
    by_cases e : y = x
    · rw [if_pos e, if_pos (by rw [e])]
    · rw [if_neg e, if_neg (fun w => e (h y List.mem_cons_self w)), List.map_cons]
theorem fst1_map (f : Nat → Int32) (g : Nat → Nat) (v : Int32) : ∀ (l : List Nat), (∃ x, x ∈ l ∧ f (g x) = v) → fst1 f v (l.map g) = g (fst1 (fun x => f (g x)) v l)
  | [], h => by
    obtain ⟨x, hx, -⟩ := h
    exact absurd hx (List.not_mem_nil)
  | y :: l, h => by
    show (if f (g y) = v then g y else fst1 f v (l.map g)) = g (if f (g y) = v then y else fst1 (fun x => f (g x)) v l)
    by_cases c : f (g y) = v
    · rw [if_pos c, if_pos c]
    · rw [if_neg c, if_neg c]
      obtain ⟨x, hx, e⟩ := h
      exact fst1_map f g v l (by
        rcases List.mem_cons.mp hx with z | z
        · rw [z] at e
          exact absurd e c
        · exact ⟨x, z, e⟩)
def lc9 (st : List Nat) (k l : Nat) : List Nat := (lb l.testBit k 0).map (fun j => st.getD j 0)
theorem lc9_rm {st : List Nat} {k l i : Nat} (hk : k = st.length) (hs : ∀ x, x < st.length → ∀ y, y < x → st.getD y 0 < st.getD x 0) (hi : i < k) (hb : l.testBit i = true) : rm (st.getD i 0) (lc9 st k l) = lc9 st k (l ^^^ 2 ^ i) := by
  unfold lc9
  rw [rm_map (g := fun j => st.getD j 0) (x := i) (lb l.testBit k 0) (fun y hy e => ?_), lb_rm k 0 (fun j _ _ => tb_xor hb j)]
  have hy2 := (mem_lb k 0).mp hy
  rcases (show y = i ∨ y < i ∨ i < y by omega) with z | z | z
  · exact z
  · have := hs i (by omega) y z
    omega
  · have := hs y (by omega) i z
    omega
theorem pc_x {k l i : Nat} (hi : i < k) (hb : l.testBit i = true) : (lb l.testBit k 0).length = (lb (l ^^^ 2 ^ i).testBit k 0).length + 1 := lb_len k 0 (fun j _ _ => tb_xor hb j) (by omega) (by omega) hb
section OC
variable {F : mm_F} {c : Nat → Int32} {sp : Int32} {p S : Nat}
theorem gst_h (hS : S < 512) {f : Nat} : ∀ (m z : Nat) (a2 : Int32) (P : List Nat) (q : mm_Q), a2.toInt = z → z + m = 9 → (P ++ lb S.testBit m z).length ≤ 7 → (q.1 35 5).toInt = P.length → (∀ j, j < P.length → q.1 36 j = Int32.ofNat (P.getD j 0)) → ∃ q', x7_gatherStones_h7 (f + m + 1) (Int32.ofNat S) a2 q = some ((), q') ∧ fr [35, 36] q q' ∧ (q'.1 35 5).toInt = (P ++ lb S.testBit m z).length ∧ q'.1 35 6 = q.1 35 6 ∧ ∀ j, j < (P ++ lb S.testBit m z).length → q'.1 36 j = Int32.ofNat ((P ++ lb S.testBit m z).getD j 0) := by
  intro m
  induction m with
  | zero =>
    intro z a2 P q e1 e2 h7 h5 h36
    rw [show lb S.testBit 0 z = [] from rfl, List.append_nil] at *
    refine ⟨q, ?_, fr_rfl _ _, h5, rfl, h36⟩
    rw [x7_gatherStones_h7, if_pos (by rw [le32, ti9]; omega)]
  | succ m ih =>
    intro z a2 P q e1 e2 h7 h5 h36
    have el : lb S.testBit (m + 1) z = cond (S.testBit z) (z :: lb S.testBit m (z + 1)) (lb S.testBit m (z + 1)) := rfl
    have b9 := bit9 S hS z (by omega)
    rw [show f + (m + 1) + 1 = (f + m + 1) + 1 by omega, x7_gatherStones_h7, if_neg (by rw [le32, ti9]; omega)]
    unfold x7_gatherStones_j50
    by_cases c7 : 7 ≤ q.1 35 5
    · rw [if_pos c7]
      rw [le32, ti7] at c7
      have : lb S.testBit (m + 1) z = [] := by
        rw [List.length_append] at h7
        exact List.eq_nil_of_length_eq_zero (by omega)
      rw [this, List.append_nil]
      exact ⟨q, rfl, fr_rfl _ _, h5, rfl, h36⟩
    · rw [if_neg c7]
      rw [el] at h7 ⊢
      rw [le32, ti7] at c7
      cases hb : S.testBit z with
      | true =>
        rw [hb, cond_true] at h7
        rw [cond_true, if_neg (fun w => (bit_0.mp w) (by rw [mm_ofn e1]; exact b9.mpr hb)), mm_ck_t (mm_inb_c h5 (by omega)), mm_lt_s, mm_lt_s, mm_tcn h5]
        have ap : (P ++ [z]) ++ lb S.testBit m (z + 1) = P ++ (z :: lb S.testBit m (z + 1)) := by rw [List.append_assoc]; rfl
        have pl : (P ++ [z]).length = P.length + 1 := by rw [List.length_append]; rfl
        obtain ⟨q1, y1, y2, y3, y4, y5⟩ := ih (z + 1) (a2 + 1) (P ++ [z]) (mm_si (mm_si q 36 P.length a2) 35 5 ((mm_si q 36 P.length a2).1 35 5 + 1)) (mm_inc1 e1 (by omega)) (by omega) (by rw [ap]; exact h7) (by
          rw [mm_si_self, upd_self, pl]
          exact mm_inc1 h5 (by omega)) (fun j hj => by
          rw [mm_si_ne _ _ _ _ (by decide), mm_si_self]
          rw [pl] at hj
          by_cases e : j = P.length
          · rw [e, upd_self, y_getD (show P.length < (P ++ [z]).length by rw [pl]; omega), List.getElem_append_right (Nat.le_refl _)]
            simp [mm_ofn e1]
          · rw [upd_ne _ _ _ e, h36 j (by omega), y_getD (show j < (P ++ [z]).length by rw [pl]; omega), List.getElem_append_left (by omega), y_getD (show j < P.length by omega)])
        rw [ap] at y3 y5
        refine ⟨q1, y1, fr_trans (fr_trans (fr_si _ _ _ (by decide)) (fr_si _ _ _ (by decide))) y2, y3, ?_, y5⟩
        rw [y4, mm_si_self, upd_ne _ _ _ (by decide)]
        rfl
      | false =>
        rw [hb, cond_false] at h7
        rw [cond_false, if_pos (bit_0.mpr (fun w => by
          rw [mm_ofn e1] at w
          rw [b9.mp w] at hb
          exact absurd hb (by decide)))]
        exact ih (z + 1) (a2 + 1) P q (mm_inc1 e1 (by omega)) (by omega) h7 h5 h36
def oc (st : List Nat) (rl : Int32) (q : mm_Q) : Prop := (q.1 35 5).toInt = st.length ∧ q.1 35 6 = rl ∧ ∀ j, j < st.length → q.1 36 j = Int32.ofNat (st.getD j 0)
theorem oc_fr {st : List Nat} {rl : Int32} {q q' : mm_Q} {T : List Nat} (h : oc st rl q) (f : fr T q q') (h35 : 35 ∉ T) (h36 : 36 ∉ T) : oc st rl q' := by
  unfold oc
  rw [f.2 35 h35, f.2 36 h36]
  exact h
abbrev wo (F : mm_F) (c : Nat → Int32) (p : Nat) (ah : Int32) (x t : Nat) : Int32 := BP F c (GL c p x (ah + Int32.ofNat t) 0) 0
theorem ws19_h (hb : bd sp c) (hs6 : sp.toInt ≤ 6) {a1 ah : Int32} (hp : a1.toInt = p) (hps : (p : Int) < sp.toInt) {st : List Nat} (h7 : st.length ≤ 7) {rl : Int32} (hst : ∀ j, j < st.length → st.getD j 0 < 9) (rr : Int32 → Int32 → Int32 → mm_Q → Option (Unit × mm_Q)) {a3 : Int32} {i : Nat} (h3 : a3.toInt = i) (hi : i < st.length) {f : Nat} : ∀ (m t : Nat) (a4 : Int32) (q : mm_Q), a4.toInt = t → t + m = st.length → cw F c sp q → oc st rl q → (∀ t', t' < t → q.1 37 (7 * i + t') = wo F c p ah (st.getD i 0) t') → ∃ q', x7_weighStones_h19 rr (f + m + 1) a1 ah a3 a4 q = rr a1 ah (a3 + 1) q' ∧ fr [12, 13, 14, 37] q q' ∧ (∀ j, j < 7 * i → q'.1 37 j = q.1 37 j) ∧ ∀ t', t' < st.length → q'.1 37 (7 * i + t') = wo F c p ah (st.getD i 0) t' := by
  intro m
  induction m with
  | zero =>
    intro t a4 q e1 e2 hx ho h37
    refine ⟨q, ?_, fr_rfl _ _, fun _ _ => rfl, fun t' ht => h37 t' (by omega)⟩
    rw [x7_weighStones_h19, if_pos (by rw [le32, ho.1]; omega)]
    rfl
  | succ m ih =>
    intro t a4 q e1 e2 hx ho h37
    have es : (q.1 36 i).toInt = ((st.getD i 0 : Nat) : Int) := by
      have := hst i hi
      rw [ho.2.2 i hi, mm_ofNat_ti (by omega)]
    obtain ⟨q1, q2, y1, y2, y3, y4⟩ := take_best hx hb hs6 hp hps es (hst i hi) (ah + a4) 0
    have e7 : (a3 * 7 + a4).toInt = ((i * 7 + t : Nat) : Int) := mm_lin (b := 7) (k := 7) (by decide) h3 e1 (by omega)
    rw [show i * 7 + t = 7 * i + t by omega] at e7
    have f3 : fr [12, 13, 14, 37] q (mm_si q2 37 (7 * i + t) (wo F c p ah (st.getD i 0) t)) := fr_trans (fr_mono y3 (by decide)) (fr_si _ _ _ (by decide))
    have g37 : q2.1 37 = q.1 37 := y3.2 37 (by decide)
    obtain ⟨q3, z1, z2, z3, z4⟩ := ih (t + 1) (a4 + 1) (mm_si q2 37 (7 * i + t) (wo F c p ah (st.getD i 0) t)) (mm_inc1 e1 (by omega)) (by omega) (cw_fr hx f3 (by decide) (by decide) (by decide) (by decide)) (oc_fr ho f3 (by decide) (by decide)) (fun t' ht => by
      rw [mm_si_self, g37]
      by_cases e : t' = t
      · rw [e, upd_self]
      · rw [upd_ne _ _ _ (by omega)]
        exact h37 t' (by omega))
    refine ⟨q3, ?_, fr_trans f3 z2, fun j hj => ?_, z4⟩
    · rw [show f + (m + 1) + 1 = (f + m + 1) + 1 by omega, x7_weighStones_h19, if_neg (by rw [le32, ho.1]; omega), if_neg (by rw [le32, ti7]; omega), mm_ck_t (mm_inb_c h3 (by omega)), mm_tcn h3, y1, mm_cl_s, y2, mm_cl_s, mm_ck_t (mm_inb_c e7 (by omega)), mm_lt_s, mm_tcn e7, mm_ofn e1]
      rw [mm_ofn e1] at z1
      exact z1
    · rw [z3 j hj, mm_si_self, upd_ne _ _ _ (by omega), g37]
theorem ws2_h (hb : bd sp c) (hs6 : sp.toInt ≤ 6) {a1 ah : Int32} (hp : a1.toInt = p) (hps : (p : Int) < sp.toInt) {st : List Nat} (h7 : st.length ≤ 7) {rl : Int32} (hst : ∀ j, j < st.length → st.getD j 0 < 9) {f : Nat} : ∀ (m i : Nat) (a3 : Int32) (q : mm_Q), a3.toInt = i → i + m = st.length → cw F c sp q → oc st rl q → (∀ i', i' < i → ∀ t, t < st.length → q.1 37 (7 * i' + t) = wo F c p ah (st.getD i' 0) t) → ∃ q', x7_weighStones_h2 (f + m + 1) a1 ah a3 q = some ((), q') ∧ fr [12, 13, 14, 37] q q' ∧ ∀ i', i' < st.length → ∀ t, t < st.length → q'.1 37 (7 * i' + t) = wo F c p ah (st.getD i' 0) t := by
  intro m
  induction m with
  | zero =>
    intro i a3 q e1 e2 hx ho h37
    refine ⟨q, ?_, fr_rfl _ _, fun i' hi => h37 i' (by omega)⟩
    rw [x7_weighStones_h2, if_pos (by rw [le32, ho.1]; omega)]
  | succ m ih =>
    intro i a3 q e1 e2 hx ho h37
    obtain ⟨q1, y1, y2, y3, y4⟩ := ws19_h hb hs6 (ah := ah) hp hps h7 hst (x7_weighStones_h2 (f + m + 1)) e1 (by omega) (f := 999 - st.length) st.length 0 0 q ti0 (by omega) hx ho (fun t' ht => absurd ht (Nat.not_lt_zero t'))
    rw [show 999 - st.length + st.length + 1 = mm_fu by show _ = 1000; omega] at y1
    obtain ⟨q2, z1, z2, z3⟩ := ih (i + 1) (a3 + 1) q1 (mm_inc1 e1 (by omega)) (by omega) (cw_fr hx y2 (by decide) (by decide) (by decide) (by decide)) (oc_fr ho y2 (by decide) (by decide)) (fun i' hi t ht => by
      by_cases e : i' = i
      · rw [e]
        exact y4 t ht
      · rw [y3 _ (by omega)]
        exact h37 i' (by omega) t ht)
    refine ⟨q2, ?_, fr_trans y2 z2, z3⟩
    rw [show f + (m + 1) + 1 = (f + m + 1) + 1 by omega, x7_weighStones_h2, if_neg (by rw [le32, ho.1]; omega), if_neg (by rw [le32, ti7]; omega), y1]
    exact z1
end OC
theorem lb_le (b : Nat → Bool) : ∀ m i, (lb b m i).length ≤ m
  | 0, _ => Nat.le_refl _
  | m + 1, i => by
    have ih := lb_le b m (i + 1)
    show (cond (b i) (i :: lb b m (i + 1)) (lb b m (i + 1))).length ≤ m + 1
    cases b i with
    | true => rw [cond_true, List.length_cons]; omega
    | false => rw [cond_false]; omega
section OT
variable {st : List Nat} {rl : Int32} {w : Nat → Nat → Int32}
def ot (st : List Nat) (rl : Int32) (w : Nat → Nat → Int32) (q : mm_Q) : Prop := oc st rl q ∧ ∀ i, i < st.length → ∀ t, t < st.length → q.1 37 (7 * i + t) = w (st.getD i 0) t
def Tm (rl : Int32) (w : Nat → Nat → Int32) (st : List Nat) (l : Nat) : Int32 := Mo rl w (lb l.testBit st.length 0).length (lc9 st st.length l) (st.length - (lb l.testBit st.length 0).length)
theorem worth_eq (h7 : st.length ≤ 7) {q : mm_Q} (h : ot st rl w q) {a1 a2 : Int32} {i t : Nat} (h1 : a1.toInt = i) (h2 : a2.toInt = t) (hi : i < st.length) (ht : t < st.length) : x7_worthOf a1 a2 q = some (w (st.getD i 0) t, q) := by
  have e7 : (a1 * 7 + a2).toInt = ((i * 7 + t : Nat) : Int) := mm_lin (b := 7) (k := 7) (by decide) h1 h2 (by omega)
  unfold x7_worthOf
  rw [if_neg (by rw [lt32, ti0]; omega), if_neg (by rw [le32, show (49 : Int32).toInt = 49 by decide]; omega), mm_ck_t (mm_inb_c e7 (by omega)), mm_tcn e7, show i * 7 + t = 7 * i + t by omega, h.2 i hi t ht]
theorem most_eq {q : mm_Q} {a : Int32} {l : Nat} (h : a.toInt = l) (hl : l < 128) : x7_mostOf a q = some (q.1 38 l, q) := by
  unfold x7_mostOf
  rw [if_neg (by rw [lt32, ti0]; omega), if_neg (by rw [le32, show (128 : Int32).toInt = 128 by decide]; omega), mm_ck_t (mm_inb_c h hl), mm_tcn h]
theorem tog7_eq {q : mm_Q} (h : ot st rl w q) (a b : Int32) : x7_together a b q = some (tg rl a b, q) := by
  unfold x7_together tg
  rw [h.1.2.1, mm_some_ite]
theorem bit7_n {l i : Nat} (hl : l < 128) (hi : i < 9) {a : Int32} (ha : a.toInt = i) : ((Int32.ofNat l >>> (a &&& 31)) &&& 1 = 0) ↔ l.testBit i = false := by
  have b := bit9 l (by omega) i hi
  rw [bit_0, mm_ofn ha, b]
  cases l.testBit i <;> simp
theorem h66_h (h7 : st.length ≤ 7) {q : mm_Q} (h : ot st rl w q) {l t : Nat} (hl : l < 128) (ht : t < st.length ∨ lb l.testBit st.length 0 = []) (rr : Int32 → mm_Q → Option (Unit × mm_Q)) {f : Nat} : ∀ (m i : Nat) (a7 a8 : Int32), a8.toInt = i → i + m = st.length → x7_weighOrders_h66 rr (f + m + 1) (Int32.ofNat l) (Int32.ofNat t) a7 a8 q = rr (Int32.ofNat l + 1) (mm_si q 38 l (mf (fun j => tg rl (w (st.getD j 0) t) (q.1 38 (l ^^^ 2 ^ j))) (lb l.testBit m i) a7)) := by
  have el : (Int32.ofNat l).toInt = ((l : Nat) : Int) := mm_ofNat_ti (by omega)
  intro m
  induction m with
  | zero =>
    intro i a7 a8 e1 e2
    rw [x7_weighOrders_h66, if_pos (by rw [le32, h.1.1]; omega), mm_ck_t (mm_inb_c el hl), mm_lt_s, mm_tcn el]
    rfl
  | succ m ih =>
    intro i a7 a8 e1 e2
    have eL : lb l.testBit (m + 1) i = cond (l.testBit i) (i :: lb l.testBit m (i + 1)) (lb l.testBit m (i + 1)) := rfl
    have b7 := bit7_n (l := l) hl (show i < 9 by omega) e1
    rw [show f + (m + 1) + 1 = (f + m + 1) + 1 by omega, x7_weighOrders_h66, if_neg (by rw [le32, h.1.1]; omega), eL]
    unfold x7_weighOrders_j115
    cases hb : l.testBit i with
    | true =>
      obtain ⟨x1, x2⟩ := bit7_x l hl i (by omega) hb
      have tt : t < st.length := by
        rcases ht with ht | ht
        · exact ht
        · have : i ∈ lb l.testBit st.length 0 := (mem_lb st.length 0).mpr ⟨by omega, by omega, hb⟩
          rw [ht] at this
          exact absurd this (List.not_mem_nil)
      have et : (Int32.ofNat t).toInt = ((t : Nat) : Int) := mm_ofNat_ti (by omega)
      have ex : (Int32.ofNat (l ^^^ 2 ^ i)).toInt = ((l ^^^ 2 ^ i : Nat) : Int) := mm_ofNat_ti (by omega)
      have w1 : Int32.ofNat l ^^^ ((1 : Int32) <<< (a8 &&& 31)) = Int32.ofNat (l ^^^ 2 ^ i) := by rw [mm_ofn e1]; exact x1
      rw [cond_true, if_neg (fun z => by rw [b7.mp z] at hb; exact absurd hb (by decide)), worth_eq h7 h e1 et (by omega) tt, mm_cl_s, w1, most_eq ex (by omega), mm_cl_s, tog7_eq h, mm_cl_s]
      exact ih (i + 1) _ (a8 + 1) (mm_inc1 e1 (by omega)) (by omega)
    | false =>
      rw [cond_false, if_pos (b7.mpr hb)]
      exact ih (i + 1) a7 (a8 + 1) (mm_inc1 e1 (by omega)) (by omega)
theorem Tm_s (hs : ∀ x, x < st.length → ∀ y, y < x → st.getD y 0 < st.getD x 0) {T : Nat → Int32} {l : Nat} (h7 : st.length ≤ 7) (hl : l < 128) (hT : ∀ l', l' < l → T l' = Tm rl w st l') : mf (fun j => tg rl (w (st.getD j 0) (st.length - (lb l.testBit st.length 0).length)) (T (l ^^^ 2 ^ j))) (lb l.testBit st.length 0) 0 = Tm rl w st l := by
  unfold Tm
  generalize hn : (lb l.testBit st.length 0).length = n
  cases n with
  | zero =>
    rw [List.eq_nil_of_length_eq_zero hn]
    rfl
  | succ n =>
    have le := lb_le l.testBit st.length 0
    show _ = mf (fun x => tg rl (w x (st.length - (n + 1))) (Mo rl w n (rm x (lc9 st st.length l)) (st.length - (n + 1) + 1))) ((lb l.testBit st.length 0).map (fun j => st.getD j 0)) 0
    rw [mf_map]
    refine mf_congr _ _ (fun i hi => ?_)
    obtain ⟨-, i2, i3⟩ := (mem_lb st.length 0).mp hi
    have x := bit7_x l hl i (by omega) i3
    have pc := pc_x (k := st.length) (show i < st.length by omega) i3
    rw [hT _ x.2, lc9_rm rfl hs (by omega) i3]
    unfold Tm
    rw [show (lb (l ^^^ 2 ^ i).testBit st.length 0).length = n by omega, show st.length - (n + 1) + 1 = st.length - n by omega]
theorem h27_h (h7 : st.length ≤ 7) (hs : ∀ x, x < st.length → ∀ y, y < x → st.getD y 0 < st.getD x 0) {f : Nat} : ∀ (m l : Nat) (q : mm_Q), 1 ≤ l → l + m = 2 ^ st.length → ot st rl w q → (∀ l', l' < l → q.1 38 l' = Tm rl w st l') → ∃ q', x7_weighOrders_h27 (f + m + 1) (Int32.ofNat l) q = some ((), q') ∧ fr [38] q q' ∧ ∀ l', l' < 2 ^ st.length → q'.1 38 l' = Tm rl w st l' := by
  have sh := shl7 st.length h7
  intro m
  induction m with
  | zero =>
    intro l q h1 h2 h hT
    have el : (Int32.ofNat l).toInt = ((l : Nat) : Int) := mm_ofNat_ti (by omega)
    refine ⟨q, ?_, fr_rfl _ _, fun l' hl => hT l' (by omega)⟩
    rw [x7_weighOrders_h27, mm_ofn h.1.1, if_pos (by rw [le32]; omega)]
  | succ m ih =>
    intro l q h1 h2 h hT
    have el : (Int32.ofNat l).toInt = ((l : Nat) : Int) := mm_ofNat_ti (by omega)
    have le := lb_le l.testBit st.length 0
    have et : q.1 35 5 - Int32.ofNat (lb l.testBit st.length 0).length = Int32.ofNat (st.length - (lb l.testBit st.length 0).length) := by
      have e1 : (Int32.ofNat (lb l.testBit st.length 0).length).toInt = (((lb l.testBit st.length 0).length : Nat) : Int) := mm_ofNat_ti (by omega)
      have := h.1.1
      refine mm_ofn ?_
      rw [mm_sub_ti (by omega) (by omega)]
      omega
    have bc := bc7 st.length h7 l (by omega) (by omega)
    have key := h66_h h7 h (l := l) (t := st.length - (lb l.testBit st.length 0).length) (by omega) (by
      by_cases z : lb l.testBit st.length 0 = []
      · exact Or.inr z
      · have : 0 < (lb l.testBit st.length 0).length := List.length_pos_iff.mpr z
        exact Or.inl (by omega)) (x7_weighOrders_h27 (f + m + 1)) (f := 999 - st.length) st.length 0 0 0 ti0 (by omega)
    rw [show 999 - st.length + st.length + 1 = mm_fu by show _ = 1000; omega, Tm_s hs h7 (by omega) hT, ofn_s (by omega)] at key
    have h' : ot st rl w (mm_si q 38 l (Tm rl w st l)) := h
    obtain ⟨q2, z1, z2, z3⟩ := ih (l + 1) (mm_si q 38 l (Tm rl w st l)) (by omega) (by omega) h' (fun l' hl => by
      rw [mm_si_self]
      by_cases e : l' = l
      · rw [e, upd_self]
      · rw [upd_ne _ _ _ e]
        exact hT l' (by omega))
    refine ⟨q2, ?_, fr_trans (fr_si _ _ _ (by decide)) z2, z3⟩
    have big : ¬ (1 : Int32) <<< (q.1 35 5 &&& 31) ≤ Int32.ofNat l := by rw [mm_ofn h.1.1, le32]; omega
    rw [show f + (m + 1) + 1 = (f + m + 1) + 1 by omega, x7_weighOrders_h27, if_neg big, if_neg (by rw [le32, show (128 : Int32).toInt = 128 by decide]; omega), bc_eq, mm_cl_s, bc, et, key]
    exact z1
theorem leaststone_h (h7 : st.length ≤ 7) {q : mm_Q} (h : ot st rl w q) {l t : Nat} (hl : l < 128) (ht : t < st.length) {had G : Int32} {f : Nat} : ∀ (m i : Nat) (a5 : Int32), a5.toInt = i → i + m = st.length → (∃ j, j ∈ lb l.testBit m i ∧ tg rl (tg rl had (w (st.getD j 0) t)) (q.1 38 (l ^^^ 2 ^ j)) = G) → x7_leastStone_h3 (f + m + 1) (Int32.ofNat l) (Int32.ofNat t) had G a5 q = some (Int32.ofNat (fst1 (fun j => tg rl (tg rl had (w (st.getD j 0) t)) (q.1 38 (l ^^^ 2 ^ j))) G (lb l.testBit m i)), q) := by
  have et : (Int32.ofNat t).toInt = ((t : Nat) : Int) := mm_ofNat_ti (by omega)
  intro m
  induction m with
  | zero =>
    intro i a5 e1 e2 hj
    obtain ⟨j, hj, -⟩ := hj
    exact absurd hj (List.not_mem_nil)
  | succ m ih =>
    intro i a5 e1 e2 hj
    have eL : lb l.testBit (m + 1) i = cond (l.testBit i) (i :: lb l.testBit m (i + 1)) (lb l.testBit m (i + 1)) := rfl
    have b7 := bit7_n (l := l) hl (show i < 9 by omega) e1
    rw [show f + (m + 1) + 1 = (f + m + 1) + 1 by omega, x7_leastStone_h3, if_neg (by rw [le32, h.1.1]; omega)]
    rw [eL] at hj ⊢
    unfold x7_leastStone_j59
    cases hb : l.testBit i with
    | true =>
      rw [hb, cond_true] at hj
      obtain ⟨x1, x2⟩ := bit7_x l hl i (by omega) hb
      have ex : (Int32.ofNat (l ^^^ 2 ^ i)).toInt = ((l ^^^ 2 ^ i : Nat) : Int) := mm_ofNat_ti (by omega)
      have w1 : Int32.ofNat l ^^^ ((1 : Int32) <<< (a5 &&& 31)) = Int32.ofNat (l ^^^ 2 ^ i) := by rw [mm_ofn e1]; exact x1
      rw [cond_true, if_neg (fun z => by rw [b7.mp z] at hb; exact absurd hb (by decide)), worth_eq h7 h e1 et (by omega) ht, mm_cl_s, tog7_eq h, mm_cl_s, w1, most_eq ex (by omega), mm_cl_s, tog7_eq h, mm_cl_s]
      show _ = some (Int32.ofNat (if tg rl (tg rl had (w (st.getD i 0) t)) (q.1 38 (l ^^^ 2 ^ i)) = G then i else fst1 _ G (lb l.testBit m (i + 1))), q)
      by_cases c : tg rl (tg rl had (w (st.getD i 0) t)) (q.1 38 (l ^^^ 2 ^ i)) = G
      · rw [if_pos c, if_pos c, mm_ofn e1]
      · rw [if_neg c, if_neg c]
        obtain ⟨j, hj1, hj2⟩ := hj
        refine ih (i + 1) (a5 + 1) (mm_inc1 e1 (by omega)) (by omega) ?_
        rcases List.mem_cons.mp hj1 with z | z
        · rw [z] at hj2
          exact absurd hj2 c
        · exact ⟨j, z, hj2⟩
    | false =>
      rw [hb, cond_false] at hj
      rw [cond_false, if_pos (b7.mpr hb)]
      exact ih (i + 1) (a5 + 1) (mm_inc1 e1 (by omega)) (by omega) hj
theorem stone_h (hw : ∀ x t, 0 ≤ (w x t).toInt ∧ (w x t).toInt ≤ 129) (h7 : st.length ≤ 7) (hs : ∀ x, x < st.length → ∀ y, y < x → st.getD y 0 < st.getD x 0) (hst : ∀ j, j < st.length → st.getD j 0 < 9) {q : mm_Q} (h : ot st rl w q) (hT : ∀ l', l' < 2 ^ st.length → q.1 38 l' = Tm rl w st l') {a1 G : Int32} {i : Nat} (e1 : a1.toInt = i) (hi : i < st.length) {f : Nat} : ∀ (n l t : Nat) (had a5 : Int32), l < 2 ^ st.length → (lb l.testBit st.length 0).length = n + 1 → t + (n + 1) = st.length → t ≤ i → 0 ≤ had.toInt → had.toInt ≤ 129 * t → tg rl had (Mo rl w (n + 1) (lc9 st st.length l) t) = G → x7_stoneInOrder_h24 (f + n + 2) a1 (Int32.ofNat l) G had a5 (Int32.ofNat t) q = some (Int32.ofNat ((gr rl w (n + 1) (lc9 st st.length l) t had G).getD (i - t) 0), q) := by
  have sh := shl7 st.length h7
  intro n
  induction n with
  | zero =>
    intro l t had a5 hl hn htn hti h0 h1 hG
    have e := htn
    have et : (Int32.ofNat t).toInt = ((t : Nat) : Int) := mm_ofNat_ti (by omega)
    have ll : l < 128 := by omega
    obtain ⟨v1, x, v2, v3⟩ := V_eq (rl := rl) hw (n := 0) (by omega) (h := had) ⟨h0, by omega⟩ (l := lc9 st st.length l) (by
      intro z
      have := congrArg List.length z
      unfold lc9 at this
      rw [List.length_map, hn] at this
      exact absurd this (by decide)) t
    rw [hG] at v3
    have key : ∀ j, j ∈ lb l.testBit st.length 0 → tg rl (tg rl had (w (st.getD j 0) t)) (q.1 38 (l ^^^ 2 ^ j)) = Vx rl w 0 (lc9 st st.length l) t had (st.getD j 0) := by
      intro j hj
      obtain ⟨-, j2, j3⟩ := (mem_lb st.length 0).mp hj
      have x7 := bit7_x l ll j (by omega) j3
      have pc := pc_x (k := st.length) (show j < st.length by omega) j3
      unfold Vx
      rw [hT _ (by omega), lc9_rm rfl hs (by omega) j3]
      unfold Tm
      rw [show (lb (l ^^^ 2 ^ j).testBit st.length 0).length = 0 by omega, show st.length - 0 = t + 1 by omega]
    have ex : ∃ j, j ∈ lb l.testBit st.length 0 ∧ tg rl (tg rl had (w (st.getD j 0) t)) (q.1 38 (l ^^^ 2 ^ j)) = G := by
      unfold lc9 at v2
      obtain ⟨j, j1, j2⟩ := List.mem_map.mp v2
      exact ⟨j, j1, by rw [key j j1, j2]; exact v3.symm⟩
    have ls := leaststone_h h7 h ll (show t < st.length by omega) (had := had) (G := G) (f := 999 - st.length) st.length 0 0 ti0 (by omega) ex
    rw [show 999 - st.length + st.length + 1 = mm_fu by show _ = 1000; omega] at ls
    obtain ⟨fm, fv⟩ := fst1_mem (f := fun j => tg rl (tg rl had (w (st.getD j 0) t)) (q.1 38 (l ^^^ 2 ^ j))) (g := G) _ ex
    generalize hj : fst1 (fun j => tg rl (tg rl had (w (st.getD j 0) t)) (q.1 38 (l ^^^ 2 ^ j))) G (lb l.testBit st.length 0) = j at ls fm fv
    obtain ⟨-, j2, j3⟩ := (mem_lb st.length 0).mp fm
    have ej : (Int32.ofNat j).toInt = ((j : Nat) : Int) := mm_ofNat_ti (by omega)
    have gj : fst1 (Vx rl w 0 (lc9 st st.length l) t had) G (lc9 st st.length l) = st.getD j 0 := by
      have e2 : (∃ x, x ∈ lb l.testBit st.length 0 ∧ Vx rl w 0 (lc9 st st.length l) t had (st.getD x 0) = G) := ⟨j, fm, by rw [← key j fm]; exact fv⟩
      have := fst1_map (Vx rl w 0 (lc9 st st.length l) t had) (fun j => st.getD j 0) G (lb l.testBit st.length 0) e2
      show fst1 _ G ((lb l.testBit st.length 0).map (fun j => st.getD j 0)) = _
      rw [this, ← hj]
      congr 1
      have cg : ∀ (L : List Nat), (∀ y, y ∈ L → y ∈ lb l.testBit st.length 0) → fst1 (fun x => Vx rl w 0 (lc9 st st.length l) t had (st.getD x 0)) G L = fst1 (fun j => tg rl (tg rl had (w (st.getD j 0) t)) (q.1 38 (l ^^^ 2 ^ j))) G L := by
        intro L
        induction L with
        | nil => intro _; rfl
        | cons y L ihL =>
          intro hL
          show (if Vx rl w 0 (lc9 st st.length l) t had (st.getD y 0) = G then y else _) = (if tg rl (tg rl had (w (st.getD y 0) t)) (q.1 38 (l ^^^ 2 ^ y)) = G then y else _)
          rw [key y (hL y List.mem_cons_self), ihL (fun z hz => hL z (List.mem_cons_of_mem _ hz))]
      exact cg _ (fun y hy => hy)
    have egr : gr rl w 1 (lc9 st st.length l) t had G = [st.getD j 0] := by
      show fst1 (Vx rl w 0 (lc9 st st.length l) t had) G (lc9 st st.length l) :: [] = _
      rw [gj]
    have ii : i = t := by omega
    rw [show f + 0 + 2 = (f + 1) + 1 from rfl, x7_stoneInOrder_h24, if_neg (by rw [lt32]; omega), if_neg (by rw [le32, h.1.1]; omega)]
    unfold x7_leastStone
    rw [ls, mm_cl_s, worth_eq h7 h ej et (by omega) (by omega), mm_cl_s, tog7_eq h, mm_cl_s, ofn_s (by omega), x7_stoneInOrder_h24, if_pos (by rw [lt32, mm_ofNat_ti (by omega)]; omega)]
    unfold x7_stoneInOrder_j80
    rw [if_neg (by rw [lt32, ti0]; omega), if_neg (by rw [le32, ti7]; omega), mm_ck_t (mm_inb_c ej (by omega)), mm_tcn ej, h.1.2.2 j (by omega), egr, show i - t = 0 by omega]
    rfl
  | succ n ih =>
    intro l t had a5 hl hn htn hti h0 h1 hG
    have et : (Int32.ofNat t).toInt = ((t : Nat) : Int) := mm_ofNat_ti (by omega)
    have ll : l < 128 := by omega
    obtain ⟨v1, x, v2, v3⟩ := V_eq (rl := rl) hw (n := n + 1) (by omega) (h := had) ⟨h0, by omega⟩ (l := lc9 st st.length l) (by
      intro z
      have := congrArg List.length z
      unfold lc9 at this
      rw [List.length_map, hn] at this
      exact absurd this (by simp)) t
    rw [hG] at v3
    have key : ∀ j, j ∈ lb l.testBit st.length 0 → tg rl (tg rl had (w (st.getD j 0) t)) (q.1 38 (l ^^^ 2 ^ j)) = Vx rl w (n + 1) (lc9 st st.length l) t had (st.getD j 0) := by
      intro j hj
      obtain ⟨-, j2, j3⟩ := (mem_lb st.length 0).mp hj
      have x7 := bit7_x l ll j (by omega) j3
      have pc := pc_x (k := st.length) (show j < st.length by omega) j3
      unfold Vx
      rw [hT _ (by omega), lc9_rm rfl hs (by omega) j3]
      unfold Tm
      rw [show (lb (l ^^^ 2 ^ j).testBit st.length 0).length = n + 1 by omega, show st.length - (n + 1) = t + 1 by omega]
    have ex : ∃ j, j ∈ lb l.testBit st.length 0 ∧ tg rl (tg rl had (w (st.getD j 0) t)) (q.1 38 (l ^^^ 2 ^ j)) = G := by
      unfold lc9 at v2
      obtain ⟨j, j1, j2⟩ := List.mem_map.mp v2
      exact ⟨j, j1, by rw [key j j1, j2]; exact v3.symm⟩
    have ls := leaststone_h h7 h ll (show t < st.length by omega) (had := had) (G := G) (f := 999 - st.length) st.length 0 0 ti0 (by omega) ex
    rw [show 999 - st.length + st.length + 1 = mm_fu by show _ = 1000; omega] at ls
    obtain ⟨fm, fv⟩ := fst1_mem (f := fun j => tg rl (tg rl had (w (st.getD j 0) t)) (q.1 38 (l ^^^ 2 ^ j))) (g := G) _ ex
    generalize hj : fst1 (fun j => tg rl (tg rl had (w (st.getD j 0) t)) (q.1 38 (l ^^^ 2 ^ j))) G (lb l.testBit st.length 0) = j at ls fm fv
    obtain ⟨-, j2, j3⟩ := (mem_lb st.length 0).mp fm
    have ej : (Int32.ofNat j).toInt = ((j : Nat) : Int) := mm_ofNat_ti (by omega)
    have gj : fst1 (Vx rl w (n + 1) (lc9 st st.length l) t had) G (lc9 st st.length l) = st.getD j 0 := by
      have e2 : (∃ x, x ∈ lb l.testBit st.length 0 ∧ Vx rl w (n + 1) (lc9 st st.length l) t had (st.getD x 0) = G) := ⟨j, fm, by rw [← key j fm]; exact fv⟩
      have := fst1_map (Vx rl w (n + 1) (lc9 st st.length l) t had) (fun j => st.getD j 0) G (lb l.testBit st.length 0) e2
      show fst1 _ G ((lb l.testBit st.length 0).map (fun j => st.getD j 0)) = _
      rw [this, ← hj]
      congr 1
      have cg : ∀ (L : List Nat), (∀ y, y ∈ L → y ∈ lb l.testBit st.length 0) → fst1 (fun x => Vx rl w (n + 1) (lc9 st st.length l) t had (st.getD x 0)) G L = fst1 (fun j => tg rl (tg rl had (w (st.getD j 0) t)) (q.1 38 (l ^^^ 2 ^ j))) G L := by
        intro L
        induction L with
        | nil => intro _; rfl
        | cons y L ihL =>
          intro hL
          show (if Vx rl w (n + 1) (lc9 st st.length l) t had (st.getD y 0) = G then y else _) = (if tg rl (tg rl had (w (st.getD y 0) t)) (q.1 38 (l ^^^ 2 ^ y)) = G then y else _)
          rw [key y (hL y List.mem_cons_self), ihL (fun z hz => hL z (List.mem_cons_of_mem _ hz))]
      exact cg _ (fun y hy => hy)
    have x7 := bit7_x l ll j (by omega) j3
    have egr : gr rl w (n + 1 + 1) (lc9 st st.length l) t had G = st.getD j 0 :: gr rl w (n + 1) (lc9 st st.length (l ^^^ 2 ^ j)) (t + 1) (tg rl had (w (st.getD j 0) t)) G := by
      show fst1 (Vx rl w (n + 1) (lc9 st st.length l) t had) G (lc9 st st.length l) :: gr rl w (n + 1) (rm (fst1 (Vx rl w (n + 1) (lc9 st st.length l) t had) G (lc9 st st.length l)) (lc9 st st.length l)) (t + 1) (tg rl had (w (fst1 (Vx rl w (n + 1) (lc9 st st.length l) t had) G (lc9 st st.length l)) t)) G = _
      rw [gj, lc9_rm rfl hs (by omega) j3]
    have hge := tg_ge (a := had) ⟨h0, by omega⟩ (hw (st.getD j 0) t) rl
    have sx : Int32.ofNat l ^^^ ((1 : Int32) <<< (Int32.ofNat j &&& 31)) = Int32.ofNat (l ^^^ 2 ^ j) := x7.1
    rw [show f + (n + 1) + 2 = (f + n + 2) + 1 by omega, x7_stoneInOrder_h24, if_neg (by rw [lt32]; omega), if_neg (by rw [le32, h.1.1]; omega)]
    unfold x7_leastStone
    rw [ls, mm_cl_s, worth_eq h7 h ej et (by omega) (by omega), mm_cl_s, tog7_eq h, mm_cl_s, sx, ofn_s (by omega), egr]
    by_cases c : i = t
    · rw [show f + n + 2 = (f + n + 1) + 1 by omega, x7_stoneInOrder_h24, if_pos (by rw [lt32, mm_ofNat_ti (by omega)]; omega)]
      unfold x7_stoneInOrder_j80
      rw [if_neg (by rw [lt32, ti0]; omega), if_neg (by rw [le32, ti7]; omega), mm_ck_t (mm_inb_c ej (by omega)), mm_tcn ej, h.1.2.2 j (by omega), show i - t = 0 by omega]
      rfl
    · have pc := pc_x (k := st.length) (show j < st.length by omega) j3
      rw [ih (l ^^^ 2 ^ j) (t + 1) (tg rl had (w (st.getD j 0) t)) (Int32.ofNat j) (by omega) (by omega) (by omega) (by omega) (by omega) (by omega) (by
        have k2 := key j fm
        have k3 : tg rl (tg rl had (w (st.getD j 0) t)) (q.1 38 (l ^^^ 2 ^ j)) = G := fv
        rw [k3] at k2
        rw [k2]
        unfold Vx
        rw [lc9_rm rfl hs (by omega) j3])]
      rw [show i - t = (i - (t + 1)) + 1 by omega, List.getD_cons_succ]
end OT
theorem lb_0 : ∀ m i, lb (0 : Nat).testBit m i = []
  | 0, _ => rfl
  | m + 1, i => by
    show cond ((0 : Nat).testBit i) _ _ = []
    rw [Nat.zero_testBit, cond_false]
    exact lb_0 m (i + 1)
theorem lb_true_len : ∀ m i, (lb (fun _ => true) m i).length = m
  | 0, _ => rfl
  | m + 1, i => by
    show (i :: lb (fun _ => true) m (i + 1)).length = m + 1
    rw [List.length_cons, lb_true_len m (i + 1)]
theorem lb_full (k : Nat) : lb (2 ^ k - 1).testBit k 0 = lb (fun _ => true) k 0 := lb_congr k 0 (fun j _ hj => by
  rw [Nat.testBit_two_pow_sub_one]
  exact decide_eq_true (by omega))
theorem lc9_full (st : List Nat) : lc9 st st.length (2 ^ st.length - 1) = st := by
  unfold lc9
  rw [lb_full, lb_all st st.length 0 (by omega)]
  rfl
