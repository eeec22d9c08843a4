/-! orders of stones: lists, the most of them, the first of the best -/
def lb (b : Nat → Bool) : Nat → Nat → List Nat
  | 0, _ => []
  | m + 1, i => cond (b i) (i :: lb b m (i + 1)) (lb b m (i + 1))
theorem lb_congr {b b' : Nat → Bool} : ∀ m i, (∀ j, i ≤ j → j < i + m → b j = b' j) → lb b m i = lb b' m i
  | 0, _, _ => rfl
  | m + 1, i, h => by
    show cond (b i) _ _ = cond (b' i) _ _
    rw [h i (Nat.le_refl _) (by omega), lb_congr m (i + 1) (fun j h1 h2 => h j (by omega) (by omega))]
def rm (x : Nat) (l : List Nat) : List Nat := l.filter (fun y => y != x)
theorem rm_cons (x y : Nat) (l : List Nat) : rm x (y :: l) = if y = x then rm x l else y :: rm x l := by
  unfold rm
  rw [List.filter_cons]
  by_cases h : y = x
  · rw [if_pos h, if_neg (by simp [h])]
  · rw [if_neg h, if_pos (by simp [h])]
theorem mem_lb {b : Nat → Bool} {x : Nat} : ∀ m i, x ∈ lb b m i ↔ i ≤ x ∧ x < i + m ∧ b x = true
  | 0, i => ⟨fun h => absurd h (List.not_mem_nil), fun h => by omega⟩
  | m + 1, i => by
    show x ∈ cond (b i) (i :: lb b m (i + 1)) (lb b m (i + 1)) ↔ _
    have ih := mem_lb (b := b) (x := x) m (i + 1)
    cases hb : b i with
    | true =>
      rw [cond_true, List.mem_cons, ih]
      constructor
      · rintro (rfl | ⟨h1, h2, h3⟩)
        · exact ⟨Nat.le_refl _, by omega, hb⟩
        · exact ⟨by omega, by omega, h3⟩
      · rintro ⟨h1, h2, h3⟩
        by_cases e : x = i
        · exact Or.inl e
        · exact Or.inr ⟨by omega, by omega, h3⟩
    | false =>
      rw [cond_false, ih]
      constructor
      · rintro ⟨h1, h2, h3⟩
        exact ⟨by omega, by omega, h3⟩
      · rintro ⟨h1, h2, h3⟩
        have : x ≠ i := fun e => by rw [e, hb] at h3; exact absurd h3 (by decide)
        exact ⟨by omega, by omega, h3⟩
theorem lb_rm {b b' : Nat → Bool} {x : Nat} : ∀ m i, (∀ j, i ≤ j → j < i + m → b' j = (b j && j != x)) → rm x (lb b m i) = lb b' m i
  | 0, _, _ => rfl
  | m + 1, i, h => by
    have ih := lb_rm (b := b) (b' := b') (x := x) m (i + 1) (fun j h1 h2 => h j (by omega) (by omega))
    show rm x (cond (b i) (i :: lb b m (i + 1)) (lb b m (i + 1))) = cond (b' i) (i :: lb b' m (i + 1)) (lb b' m (i + 1))
    rw [h i (Nat.le_refl _) (by omega)]
    cases hb : b i with
    | true =>
      rw [cond_true, rm_cons, ih, Bool.true_and]
      by_cases e : i = x
      · rw [if_pos e, e]
        simp
      · rw [if_neg e]
        have : (i != x) = true := by simp [e]
        rw [this, cond_true]
    | false =>
      rw [cond_false, ih, Bool.false_and, cond_false]
theorem lb_len {b b' : Nat → Bool} {x : Nat} : ∀ m i, (∀ j, i ≤ j → j < i + m → b' j = (b j && j != x)) → i ≤ x → x < i + m → b x = true → (lb b m i).length = (lb b' m i).length + 1
  | 0, i, _, h1, h2, _ => by omega
  | m + 1, i, h, h1, h2, hx => by
    show (cond (b i) (i :: lb b m (i + 1)) (lb b m (i + 1))).length = (cond (b' i) (i :: lb b' m (i + 1)) (lb b' m (i + 1))).length + 1
    rw [h i (Nat.le_refl _) (by omega)]
    by_cases e : i = x
    · subst e
      have en : lb b m (i + 1) = lb b' m (i + 1) := lb_congr m (i + 1) (fun j a1 a2 => by
        rw [h j (by omega) (by omega)]
        have : (j != i) = true := by simp; omega
        rw [this, Bool.and_true])
      rw [hx, cond_true]
      have : (i != i) = false := by simp
      rw [this, Bool.true_and, cond_false, en]
      rfl
    · have ih := lb_len (b := b) (b' := b') (x := x) m (i + 1) (fun j a1 a2 => h j (by omega) (by omega)) (by omega) (by omega) hx
      have : (i != x) = true := by simp [e]
      rw [this, Bool.and_true]
      cases hb : b i with
      | true =>
        rw [cond_true, cond_true, List.length_cons, List.length_cons, ih]
      | false =>
        rw [cond_false, cond_false, ih]
/-- the most of f over a list -/
def mf (f : Nat → Int32) : List Nat → Int32 → Int32
  | [], a => a
  | x :: l, a => mf f l (mm_max a (f x))
theorem mf_congr {f g : Nat → Int32} : ∀ (l : List Nat) (a : Int32), (∀ x, x ∈ l → f x = g x) → mf f l a = mf g l a
  | [], _, _ => rfl
  | x :: l, a, h => by
    show mf f l (mm_max a (f x)) = mf g l (mm_max a (g x))
    rw [h x List.mem_cons_self]
    exact mf_congr l _ (fun y hy => h y (List.mem_cons_of_mem _ hy))
theorem mf_rng {f : Nat → Int32} {y : Int} : ∀ (l : List Nat) (a : Int32), (∀ x, x ∈ l → 0 ≤ (f x).toInt ∧ (f x).toInt ≤ y) → 0 ≤ a.toInt → a.toInt ≤ y → 0 ≤ (mf f l a).toInt ∧ (mf f l a).toInt ≤ y
  | [], a, _, h0, h1 => ⟨h0, h1⟩
  | x :: l, a, h, h0, h1 => by
    have hx := h x List.mem_cons_self
    exact mf_rng l (mm_max a (f x)) (fun z hz => h z (List.mem_cons_of_mem _ hz)) (by rw [max_ti]; omega) (by rw [max_ti]; omega)
/-- the most is somebody's, or the first -/
theorem mf_ge {f : Nat → Int32} : ∀ (l : List Nat) (a : Int32), a.toInt ≤ (mf f l a).toInt ∧ (∀ x, x ∈ l → (f x).toInt ≤ (mf f l a).toInt) ∧ ((mf f l a) = a ∨ ∃ x, x ∈ l ∧ mf f l a = f x)
  | [], a => ⟨Int.le_refl _, fun x hx => absurd hx (List.not_mem_nil), Or.inl rfl⟩
  | x :: l, a => by
    obtain ⟨h1, h2, h3⟩ := mf_ge (f := f) l (mm_max a (f x))
    have mt := max_ti a (f x)
    refine ⟨?_, ?_, ?_⟩
    · show a.toInt ≤ (mf f l (mm_max a (f x))).toInt
      omega
    · intro y hy
      show (f y).toInt ≤ (mf f l (mm_max a (f x))).toInt
      rcases List.mem_cons.mp hy with e | e
      · rw [e]; omega
      · exact h2 y e
    · show mf f l (mm_max a (f x)) = a ∨ ∃ y, y ∈ x :: l ∧ mf f l (mm_max a (f x)) = f y
      rcases h3 with e | ⟨y, hy, e⟩
      · rw [e]
        unfold mm_max
        by_cases c : a < f x
        · rw [if_pos c]
          exact Or.inr ⟨x, List.mem_cons_self, rfl⟩
        · rw [if_neg c]
          exact Or.inl rfl
      · exact Or.inr ⟨y, List.mem_cons_of_mem _ hy, e⟩
theorem max_assoc (a b c : Int32) : mm_max a (mm_max b c) = mm_max (mm_max a b) c := by
  rw [eq32, max_ti, max_ti, max_ti, max_ti]
  omega
theorem tg_assoc (rl h a b : Int32) : tg rl h (tg rl a b) = tg rl (tg rl h a) b := by
  unfold tg
  by_cases e : rl = 0
  · rw [if_pos e, if_pos e, if_pos e, if_pos e, max_assoc]
  · rw [if_neg e, if_neg e, if_neg e, if_neg e, Int32.add_assoc]
theorem tg_0 {rl h : Int32} (h0 : 0 ≤ h.toInt) : tg rl h 0 = h := by
  unfold tg
  by_cases e : rl = 0
  · rw [if_pos e, max_0 h0]
  · rw [if_neg e, Int32.add_zero]
theorem tg_0l {rl a : Int32} (h0 : 0 ≤ a.toInt) : tg rl 0 a = a := by
  unfold tg
  by_cases e : rl = 0
  · rw [if_pos e, eq32, max_ti, ti0]
    omega
  · rw [if_neg e, Int32.zero_add]
theorem tg_mono {rl h a b : Int32} (hh : 0 ≤ h.toInt ∧ h.toInt ≤ 50000) (ha : 0 ≤ a.toInt ∧ a.toInt ≤ 50000) (hb : 0 ≤ b.toInt ∧ b.toInt ≤ 50000) (hab : a.toInt ≤ b.toInt) : (tg rl h a).toInt ≤ (tg rl h b).toInt := by
  unfold tg
  by_cases e : rl = 0
  · rw [if_pos e, if_pos e, max_ti, max_ti]
    omega
  · rw [if_neg e, if_neg e, mm_add_ti (by omega) (by omega), mm_add_ti (by omega) (by omega)]
    omega
section ORD
variable (rl : Int32) (w : Nat → Nat → Int32)
/-- the most that the stones of a list bring, from turn t on -/
def Mo : Nat → List Nat → Nat → Int32
  | 0, _, _ => 0
  | n + 1, l, t => mf (fun x => tg rl (w x t) (Mo n (rm x l) (t + 1))) l 0
/-- what comes in all, if x is the next -/
def Vx (n : Nat) (l : List Nat) (t : Nat) (h : Int32) (x : Nat) : Int32 := tg rl (tg rl h (w x t)) (Mo rl w n (rm x l) (t + 1))
/-- the first of a list by which the goal is come by -/
def fst1 (f : Nat → Int32) (g : Int32) : List Nat → Nat
  | [] => 0
  | x :: l => if f x = g then x else fst1 f g l
/-- the first order that comes to the goal -/
def gr : Nat → List Nat → Nat → Int32 → Int32 → List Nat
  | 0, _, _, _, _ => []
  | n + 1, l, t, h, g => fst1 (Vx rl w n l t h) g l :: gr n (rm (fst1 (Vx rl w n l t h) g l) l) (t + 1) (tg rl h (w (fst1 (Vx rl w n l t h) g l) t)) g
end ORD
section ORE
variable {rl : Int32} {w : Nat → Nat → Int32}
theorem Mo_rng (hw : ∀ x t, 0 ≤ (w x t).toInt ∧ (w x t).toInt ≤ 129) : ∀ (n : Nat) (l : List Nat) (t : Nat), n ≤ 10 → 0 ≤ (Mo rl w n l t).toInt ∧ (Mo rl w n l t).toInt ≤ 129 * n
  | 0, _, _, _ => by
    show 0 ≤ (0 : Int32).toInt ∧ (0 : Int32).toInt ≤ _
    rw [ti0]
    omega
  | n + 1, l, t, hn => by
    refine mf_rng (y := 129 * ((n + 1 : Nat) : Int)) l 0 (fun x _ => ?_) (by rw [ti0]; omega) (by rw [ti0]; omega)
    have ih := Mo_rng hw n (rm x l) (t + 1) (by omega)
    have := tg_rng (rl := rl) (hw x t) ih (by omega) (by omega) (by omega)
    omega
theorem tg_mf {h : Int32} (hh : 0 ≤ h.toInt ∧ h.toInt ≤ 2000) {f : Nat → Int32} : ∀ (l : List Nat) (a : Int32), (∀ x, x ∈ l → 0 ≤ (f x).toInt ∧ (f x).toInt ≤ 2000) → 0 ≤ a.toInt → a.toInt ≤ 2000 → tg rl h (mf f l a) = mf (fun x => tg rl h (f x)) l (tg rl h a)
  | [], _, _, _, _ => rfl
  | x :: l, a, hf, h0, h1 => by
    have hx := hf x List.mem_cons_self
    show tg rl h (mf f l (mm_max a (f x))) = mf (fun x => tg rl h (f x)) l (mm_max (tg rl h a) (tg rl h (f x)))
    rw [tg_mf hh l (mm_max a (f x)) (fun y hy => hf y (List.mem_cons_of_mem _ hy)) (by rw [max_ti]; omega) (by rw [max_ti]; omega)]
    have : tg rl h (mm_max a (f x)) = mm_max (tg rl h a) (tg rl h (f x)) := by
      unfold tg
      by_cases e : rl = 0
      · rw [if_pos e, if_pos e, if_pos e, eq32, max_ti, max_ti, max_ti, max_ti, max_ti]
        omega
      · rw [if_neg e, if_neg e, if_neg e, eq32, max_ti, mm_add_ti (by rw [max_ti]; omega) (by rw [max_ti]; omega), mm_add_ti (by omega) (by omega), mm_add_ti (by omega) (by omega), max_ti]
        omega
    rw [this]
theorem Vx_rng (hw : ∀ x t, 0 ≤ (w x t).toInt ∧ (w x t).toInt ≤ 129) {n : Nat} (hn : n ≤ 9) {h : Int32} (hh : 0 ≤ h.toInt ∧ h.toInt ≤ 2000) (l : List Nat) (t x : Nat) : h.toInt ≤ (Vx rl w n l t h x).toInt ∧ 0 ≤ (Vx rl w n l t h x).toInt ∧ (Vx rl w n l t h x).toInt ≤ 4000 := by
  have m := Mo_rng (rl := rl) hw n (rm x l) (t + 1) (by omega)
  have a := tg_rng (rl := rl) (x := 2000) (y := 129) hh (hw x t) (by omega) (by omega) (by omega)
  have a' := tg_ge (a := h) ⟨hh.1, by omega⟩ (hw x t) rl
  have b := tg_rng (rl := rl) (x := 2129) (y := 1290) (a := tg rl h (w x t)) (b := Mo rl w n (rm x l) (t + 1)) (by omega) (by omega) (by omega) (by omega) (by omega)
  have c : (tg rl h (w x t)).toInt ≤ (Vx rl w n l t h x).toInt := by
    unfold Vx
    have := tg_mono (rl := rl) (h := tg rl h (w x t)) (a := 0) (b := Mo rl w n (rm x l) (t + 1)) ⟨a.1, by omega⟩ (by rw [ti0]; omega) (by omega) (by rw [ti0]; omega)
    rw [tg_0 a.1] at this
    exact this
  unfold Vx at c ⊢
  omega
/-- the most of all, told by its parts -/
theorem V_eq (hw : ∀ x t, 0 ≤ (w x t).toInt ∧ (w x t).toInt ≤ 129) {n : Nat} (hn : n ≤ 9) {h : Int32} (hh : 0 ≤ h.toInt ∧ h.toInt ≤ 2000) {l : List Nat} (hl : l ≠ []) (t : Nat) : (∀ x, x ∈ l → (Vx rl w n l t h x).toInt ≤ (tg rl h (Mo rl w (n + 1) l t)).toInt) ∧ ∃ x, x ∈ l ∧ tg rl h (Mo rl w (n + 1) l t) = Vx rl w n l t h x := by
  have e : tg rl h (Mo rl w (n + 1) l t) = mf (Vx rl w n l t h) l h := by
    show tg rl h (mf (fun x => tg rl (w x t) (Mo rl w n (rm x l) (t + 1))) l 0) = _
    rw [tg_mf hh l 0 (fun x _ => ?_) (by rw [ti0]; omega) (by rw [ti0]; omega), tg_0 hh.1]
    · exact mf_congr l h (fun x _ => tg_assoc _ _ _ _)
    · have m := Mo_rng (rl := rl) hw n (rm x l) (t + 1) (by omega)
      have b := tg_rng (rl := rl) (x := 129) (y := 1290) (a := w x t) (b := Mo rl w n (rm x l) (t + 1)) (hw x t) (by omega) (by omega) (by omega) (by omega)
      omega
  obtain ⟨g1, g2, g3⟩ := mf_ge (f := Vx rl w n l t h) l h
  rw [e]
  refine ⟨g2, ?_⟩
  rcases g3 with g3 | g3
  · cases l with
    | nil => exact absurd rfl hl
    | cons y l' =>
      have := g2 y List.mem_cons_self
      have v := (Vx_rng (rl := rl) hw hn hh (y :: l') t y).1
      refine ⟨y, List.mem_cons_self, ?_⟩
      rw [eq32]
      rw [g3] at this ⊢
      omega
  · exact g3
theorem fst1_at {f : Nat → Int32} {g : Int32} : ∀ (r1 : List Nat) (x : Nat) (r2 : List Nat), (∀ y, y ∈ r1 → f y ≠ g) → f x = g → fst1 f g (r1 ++ x :: r2) = x
  | [], x, r2, _, h => if_pos h
  | y :: r1, x, r2, h1, h => by
    show (if f y = g then y else fst1 f g (r1 ++ x :: r2)) = x
    rw [if_neg (h1 y List.mem_cons_self)]
    exact fst1_at r1 x r2 (fun z hz => h1 z (List.mem_cons_of_mem _ hz)) h
theorem fst1_mem {f : Nat → Int32} {g : Int32} : ∀ (l : List Nat), (∃ x, x ∈ l ∧ f x = g) → fst1 f g l ∈ l ∧ f (fst1 f g l) = g
  | [], h => by
    obtain ⟨x, hx, -⟩ := h
    exact absurd hx (List.not_mem_nil)
  | y :: l, h => by
    show (if f y = g then y else fst1 f g l) ∈ y :: l ∧ f (if f y = g then y else fst1 f g l) = g
    by_cases c : f y = g
    · rw [if_pos c]
      exact ⟨List.mem_cons_self, c⟩
    · rw [if_neg c]
      obtain ⟨x, hx, e⟩ := h
      have ih := fst1_mem l (by
        rcases List.mem_cons.mp hx with z | z
        · rw [z] at e
          exact absurd e c
        · exact ⟨x, z, e⟩)
      exact ⟨List.mem_cons_of_mem _ ih.1, ih.2⟩
end ORE
