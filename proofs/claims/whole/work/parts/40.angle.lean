/-! the best angle -/
def st1 (key v : Int32) (b : Int32 × Int32) : Int32 × Int32 := if v ≤ b.2 then b else (key, v)
/-- of all angles and both: the reference's way -/
def b2 (f0 f1 : Int32 → Int32) : Nat → Int32 × Int32
  | 0 => (0, -1)
  | n + 1 => st1 (10 * Int32.ofNat n + 1) (f1 (Int32.ofNat n)) (st1 (10 * Int32.ofNat n + 0) (f0 (Int32.ofNat n)) (b2 f0 f1 n))
theorem key_ti {n : Nat} (h : n < 100) : (10 * Int32.ofNat n + 0).toInt = 10 * (n : Int) ∧ (10 * Int32.ofNat n + 1).toInt = 10 * (n : Int) + 1 := by
  have e : (Int32.ofNat n).toInt = ((n : Nat) : Int) := mm_ofNat_ti (by omega)
  have e1 : (10 * Int32.ofNat n).toInt = ((10 * n : Nat) : Int) := mm_lin0 (b := Int32.ofNat n) (a := 10) (m := 10) e (by decide) (by omega)
  refine ⟨?_, ?_⟩
  · rw [Int32.add_zero, e1]; omega
  · rw [mm_add_ti (by rw [ti1]; omega) (by rw [ti1]; omega), e1, ti1]; omega
theorem st1_1 (key v : Int32) (b : Int32 × Int32) : (st1 key v b).1.toInt = if v.toInt ≤ b.2.toInt then b.1.toInt else key.toInt := by
  unfold st1
  by_cases h : v ≤ b.2
  · rw [if_pos h]
    rw [le32] at h
    rw [if_pos h]
  · rw [if_neg h]
    rw [le32] at h
    rw [if_neg h]
theorem st1_2 (key v : Int32) (b : Int32 × Int32) : (st1 key v b).2.toInt = if v.toInt ≤ b.2.toInt then b.2.toInt else v.toInt := by
  unfold st1
  by_cases h : v ≤ b.2
  · rw [if_pos h]
    rw [le32] at h
    rw [if_pos h]
  · rw [if_neg h]
    rw [le32] at h
    rw [if_neg h]
theorem ban_st (f : Int32 → Int32) (n : Nat) : ban f (n + 1) = st1 (Int32.ofNat n) (f (Int32.ofNat n)) (ban f n) := rfl
theorem b2_st (f0 f1 : Int32 → Int32) (n : Nat) : b2 f0 f1 (n + 1) = st1 (10 * Int32.ofNat n + 1) (f1 (Int32.ofNat n)) (st1 (10 * Int32.ofNat n + 0) (f0 (Int32.ofNat n)) (b2 f0 f1 n)) := rfl
/-- best and most of both and of all -/
def b2_P (n a0 m0 a1 m1 B M : Int) : Prop := (0 ≤ a0 ∧ a0 ≤ n) ∧ (0 ≤ a1 ∧ a1 ≤ n) ∧ (m0 ≤ M ∧ m1 ≤ M ∧ (M = m0 ∨ M = m1)) ∧ (m0 < m1 → B = 10 * a1 + 1) ∧ (m1 < m0 → B = 10 * a0) ∧ (m0 = m1 → B ≤ 10 * a0 ∧ B ≤ 10 * a1 + 1 ∧ (B = 10 * a0 ∨ B = 10 * a1 + 1))
theorem b2_P0 {v0 v1 : Int} (h0 : 0 ≤ v0) (h1 : 0 ≤ v1) : b2_P 0 (if v0 ≤ -1 then 0 else 0) (if v0 ≤ -1 then -1 else v0) (if v1 ≤ -1 then 0 else 0) (if v1 ≤ -1 then -1 else v1) (if v1 ≤ (if v0 ≤ -1 then -1 else v0) then (if v0 ≤ -1 then 0 else 0) else 1) (if v1 ≤ (if v0 ≤ -1 then -1 else v0) then (if v0 ≤ -1 then -1 else v0) else v1) := by
  have c0 : ¬ v0 ≤ -1 := by omega
  have c1 : ¬ v1 ≤ -1 := by omega
  simp only [if_neg c0, if_neg c1]
  unfold b2_P
  by_cases c2 : v1 ≤ v0
  · simp only [if_pos c2]
    refine ⟨⟨?_, ?_⟩, ⟨?_, ?_⟩, ⟨?_, ?_, ?_⟩, fun _ => ?_, fun _ => ?_, fun _ => ⟨?_, ?_, ?_⟩⟩ <;> first | omega | exact trivial | exact Or.inl trivial | exact Or.inr trivial
  · simp only [if_neg c2]
    refine ⟨⟨?_, ?_⟩, ⟨?_, ?_⟩, ⟨?_, ?_, ?_⟩, fun _ => ?_, fun _ => ?_, fun _ => ⟨?_, ?_, ?_⟩⟩ <;> first | omega | exact trivial | exact Or.inl trivial | exact Or.inr trivial
theorem b2_Ps {n a0 m0 a1 m1 B M v0 v1 : Int} (h : b2_P n a0 m0 a1 m1 B M) : b2_P (n + 1) (if v0 ≤ m0 then a0 else n + 1) (if v0 ≤ m0 then m0 else v0) (if v1 ≤ m1 then a1 else n + 1) (if v1 ≤ m1 then m1 else v1) (if v1 ≤ (if v0 ≤ M then M else v0) then (if v0 ≤ M then B else 10 * (n + 1)) else 10 * (n + 1) + 1) (if v1 ≤ (if v0 ≤ M then M else v0) then (if v0 ≤ M then M else v0) else v1) := by
  obtain ⟨h1, h2, h3, h4, h5, h6⟩ := h
  unfold b2_P
  by_cases c2 : v0 ≤ M
  · simp only [if_pos c2]
    by_cases c3 : v1 ≤ M
    · simp only [if_pos c3]
      by_cases c0 : v0 ≤ m0 <;> by_cases c1 : v1 ≤ m1 <;> simp only [c0, c1, if_true, if_false] <;> refine ⟨⟨?_, ?_⟩, ⟨?_, ?_⟩, ⟨?_, ?_, ?_⟩, fun _ => ?_, fun _ => ?_, fun _ => ⟨?_, ?_, ?_⟩⟩ <;> first | omega | exact trivial | exact Or.inl trivial | exact Or.inr trivial
    · simp only [if_neg c3]
      by_cases c0 : v0 ≤ m0 <;> by_cases c1 : v1 ≤ m1 <;> simp only [c0, c1, if_true, if_false] <;> refine ⟨⟨?_, ?_⟩, ⟨?_, ?_⟩, ⟨?_, ?_, ?_⟩, fun _ => ?_, fun _ => ?_, fun _ => ⟨?_, ?_, ?_⟩⟩ <;> first | omega | exact trivial | exact Or.inl trivial | exact Or.inr trivial
  · simp only [if_neg c2]
    by_cases c3 : v1 ≤ v0
    · simp only [if_pos c3]
      by_cases c0 : v0 ≤ m0 <;> by_cases c1 : v1 ≤ m1 <;> simp only [c0, c1, if_true, if_false] <;> refine ⟨⟨?_, ?_⟩, ⟨?_, ?_⟩, ⟨?_, ?_, ?_⟩, fun _ => ?_, fun _ => ?_, fun _ => ⟨?_, ?_, ?_⟩⟩ <;> first | omega | exact trivial | exact Or.inl trivial | exact Or.inr trivial
    · simp only [if_neg c3]
      by_cases c0 : v0 ≤ m0 <;> by_cases c1 : v1 ≤ m1 <;> simp only [c0, c1, if_true, if_false] <;> refine ⟨⟨?_, ?_⟩, ⟨?_, ?_⟩, ⟨?_, ?_, ?_⟩, fun _ => ?_, fun _ => ?_, fun _ => ⟨?_, ?_, ?_⟩⟩ <;> first | omega | exact trivial | exact Or.inl trivial | exact Or.inr trivial
theorem b2_ok {f0 f1 : Int32 → Int32} (h0 : ∀ a, 0 ≤ (f0 a).toInt) (h1 : ∀ a, 0 ≤ (f1 a).toInt) : ∀ n : Nat, n < 50 → b2_P n (ban f0 (n + 1)).1.toInt (ban f0 (n + 1)).2.toInt (ban f1 (n + 1)).1.toInt (ban f1 (n + 1)).2.toInt (b2 f0 f1 (n + 1)).1.toInt (b2 f0 f1 (n + 1)).2.toInt
  | 0, _ => by
    have z := b2_P0 (h0 (Int32.ofNat 0)) (h1 (Int32.ofNat 0))
    have e0 : (ban f0 0).1.toInt = 0 := ti0
    have e1 : (ban f0 0).2.toInt = -1 := tin1
    have e2 : (ban f1 0).1.toInt = 0 := ti0
    have e3 : (ban f1 0).2.toInt = -1 := tin1
    have e4 : (b2 f0 f1 0).1.toInt = 0 := ti0
    have e5 : (b2 f0 f1 0).2.toInt = -1 := tin1
    have k0 : (10 * Int32.ofNat 0 + 0).toInt = 0 := by decide
    have k1 : (10 * Int32.ofNat 0 + 1).toInt = 1 := by decide
    have k2 : (Int32.ofNat 0).toInt = 0 := by decide
    rw [b2_st, ban_st, ban_st]
    simp only [st1_1, st1_2, e0, e1, e2, e3, e4, e5, k0, k1, k2]
    exact z
  | n + 1, hn => by
    have ih := b2_ok h0 h1 n (by omega)
    obtain ⟨k0, k1⟩ := key_ti (n := n + 1) (by omega)
    have e : (Int32.ofNat (n + 1)).toInt = (n : Int) + 1 := by rw [mm_ofNat_ti (by omega)]; omega
    rw [b2_st _ _ (n + 1), ban_st _ (n + 1), ban_st _ (n + 1)]
    generalize f0 (Int32.ofNat (n + 1)) = w0
    generalize f1 (Int32.ofNat (n + 1)) = w1
    generalize ban f0 (n + 1) = B0 at *
    generalize ban f1 (n + 1) = B1 at *
    generalize b2 f0 f1 (n + 1) = B2 at *
    have z := b2_Ps (v0 := w0.toInt) (v1 := w1.toInt) ih
    have e9 : ((n + 1 : Nat) : Int) = (n : Int) + 1 := by omega
    rw [e9] at k0 k1
    simp only [st1_1, st1_2, k0, k1, e]
    rw [e9]
    exact z
theorem bestBoth_eq {F : mm_F} {c g : Nat → Int32} {sp : Int32} (hb : bd sp c) {q : mm_Q} (h : cx F c g q) : ∃ q', x10_bestAngleAndRun q = some ((b2 (PT F c g 0) (PT F c g 1) 9).1, q') ∧ fr [12, 13] q q' := by
  obtain ⟨q1, e1, f1⟩ := bestAngle_eq h 0
  have x1 := cx_fr h f1 (by decide) (by decide) (by decide) (by decide)
  obtain ⟨q2, e2, f2⟩ := bestAngle_eq x1 1
  have x2 := cx_fr x1 f2 (by decide) (by decide) (by decide) (by decide)
  obtain ⟨q3, e3, f3⟩ := landing_eq x2.2.2 (ban (PT F c g 0) 9).1 0
  have x3 := cx_fr x2 f3 (by decide) (by decide) (by decide) (by decide)
  obtain ⟨q4, e4, f4⟩ := landing_eq x3.2.2 (ban (PT F c g 1) 9).1 1
  have x4 := cx_fr x3 f4 (by decide) (by decide) (by decide) (by decide)
  refine ⟨q4, ?_, fr_trans (fr_trans (fr_trans f1 f2) f3) f4⟩
  have o0 := (ban_ok (fun a => (PT_rng hb F g 0 a).1) 8).1
  have o1 := (ban_ok (fun a => (PT_rng hb F g 1 a).1) 8).1
  obtain ⟨a1, a2, a5, a6, a7, a8⟩ := b2_ok (fun a => (PT_rng hb F g 0 a).1) (fun a => (PT_rng hb F g 1 a).1) 8 (by omega)
  unfold x10_bestAngleAndRun
  rw [e1, mm_cl_s, e2, mm_cl_s, e3, mm_cl_s, pointsOf_eq, mm_cl_s, e4, mm_cl_s, pointsOf_eq, mm_cl_s, x3.1, x4.1, x2.2.1, x3.2.1]
  show (if PT F c g 1 (ban (PT F c g 1) (8 + 1)).1 = PT F c g 0 (ban (PT F c g 0) (8 + 1)).1 then _ else if PT F c g 1 (ban (PT F c g 1) (8 + 1)).1 ≤ PT F c g 0 (ban (PT F c g 0) (8 + 1)).1 then _ else _) = _
  rw [← o0, ← o1]
  show (if _ then some (mm_mn (10 * (ban (PT F c g 0) (8 + 1)).1) (10 * (ban (PT F c g 1) (8 + 1)).1 + 1), q4) else if _ then some (10 * (ban (PT F c g 0) (8 + 1)).1, q4) else some (10 * (ban (PT F c g 1) (8 + 1)).1 + 1, q4)) = some ((b2 (PT F c g 0) (PT F c g 1) (8 + 1)).1, q4)
  generalize ban (PT F c g 0) (8 + 1) = B0 at *
  generalize ban (PT F c g 1) (8 + 1) = B1 at *
  have k0 : (10 * B0.1).toInt = 10 * B0.1.toInt := by rw [mm_mul_ti (by rw [ti10]; omega) (by rw [ti10]; omega), ti10]
  have k1' : (10 * B1.1).toInt = 10 * B1.1.toInt := by rw [mm_mul_ti (by rw [ti10]; omega) (by rw [ti10]; omega), ti10]
  have k1 : (10 * B1.1 + 1).toInt = 10 * B1.1.toInt + 1 := by rw [mm_add_ti (by rw [ti1]; omega) (by rw [ti1]; omega), ti1, k1']
  by_cases c0 : B1.2 = B0.2
  · rw [if_pos c0]
    have : mm_mn (10 * B0.1) (10 * B1.1 + 1) = (b2 (PT F c g 0) (PT F c g 1) (8 + 1)).1 := by
      have := a8 (by rw [c0])
      rw [eq32, mn_ti, k0, k1]
      omega
    rw [this]
  · rw [if_neg c0]
    by_cases c1 : B1.2 ≤ B0.2
    · rw [if_pos c1]
      rw [le32] at c1
      rw [eq32] at c0
      have : 10 * B0.1 = (b2 (PT F c g 0) (PT F c g 1) (8 + 1)).1 := by
        rw [eq32, k0, a7 (by omega)]
      rw [this]
    · rw [if_neg c1]
      rw [le32] at c1
      have : 10 * B1.1 + 1 = (b2 (PT F c g 0) (PT F c g 1) (8 + 1)).1 := by
        rw [eq32, k1, a6 (by omega)]
      rw [this]
theorem ban_lt {f : Int32 → Int32} (n : Nat) : ∃ i, i ≤ n ∧ (ban f n).1 = Int32.ofNat i := by
  induction n with
  | zero => exact ⟨0, by omega, rfl⟩
  | succ n ih =>
    obtain ⟨i, hi, e⟩ := ih
    rw [ban_s]
    by_cases c : f (Int32.ofNat n) ≤ (ban f n).2
    · rw [if_pos c]
      exact ⟨i, by omega, e⟩
    · rw [if_neg c]
      exact ⟨n, by omega, rfl⟩
section A12
variable {F : mm_F} {c : Nat → Int32} {sp lg : Int32} {a1 a4 : Int32} {p s : Nat}
/-- for stops alone -/
theorem ang0_h (hb : bd sp c) (hp : a1.toInt = p) (h6 : p < 6) (hs : a4.toInt = s) (h9 : s < 9) (k : Int32) {f : Nat} : ∀ (m i : Nat) (a8 : Int32) (q : mm_Q), a8.toInt = i → i + m = 9 → rx F c sp lg q → ∃ q', x12_angle_h69 (f + m + 1) a1 0 a4 k (10 * (ban (fun a => stp c (LN F (GL c p s k lg) a 0)) i).1) (ban (fun a => stp c (LN F (GL c p s k lg) a 0)) i).2 a8 q = some ((ban (fun a => stp c (LN F (GL c p s k lg) a 0)) 9).1, q') ∧ fq q q' ∧ rx F c sp lg q' := by
  intro m
  induction m with
  | zero =>
    intro i a8 q h1 h2 hx
    refine ⟨q, ?_, fq_rfl q, hx⟩
    obtain ⟨j, hj, e⟩ := ban_lt (f := fun a => stp c (LN F (GL c p s k lg) a 0)) 9
    have k0 := (key_ti (n := j) (by omega)).1
    rw [Int32.add_zero] at k0
    rw [x12_angle_h69, if_pos (by rw [le32, ti9]; omega), if_pos rfl, show i = 9 by omega, e]
    have : 10 * Int32.ofNat j / 10 = Int32.ofNat j := by
      rw [eq32, div_ti (by omega) (by decide), k0, ti10, mm_ofNat_ti (by omega)]
      omega
    rw [this]
  | succ m ih =>
    intro i a8 q h1 h2 hx
    obtain ⟨q1, e1, f1, x1⟩ := landsAt_eq hx hp h6 hs h9 k a8 0
    obtain ⟨q2, e2, f2, x2⟩ := ih (i + 1) (a8 + 1) q1 (mm_inc1 h1 (by omega)) (by omega) x1
    refine ⟨q2, ?_, fq_trans f1 f2, x2⟩
    rw [ban_s, ← mm_ofn h1] at e2
    have inner : ∀ b m2 : Int32, x12_angle_h79 (x12_angle_h69 (f + m + 1)) mm_fu a1 0 a4 k b m2 a8 0 q = x12_angle_h69 (f + m + 1) a1 0 a4 k (if stp c (LN F (GL c p s k lg) a8 0) ≤ m2 then b else 10 * a8 + 0) (if stp c (LN F (GL c p s k lg) a8 0) ≤ m2 then m2 else stp c (LN F (GL c p s k lg) a8 0)) (a8 + 1) q1 := by
      intro b m2
      show x12_angle_h79 _ (998 + 1 + 1) a1 0 a4 k b m2 a8 0 q = _
      rw [x12_angle_h79, if_neg (by decide)]
      unfold x12_angle_j91
      rw [if_neg (by decide), e1, mm_cl_s, if_pos rfl, stopsFrom_eq hb (LN_rng _ _ _ _).1 (LN_rng _ _ _ _).2 x1.1, mm_cl_s]
      have out : ∀ b3 m3 : Int32, x12_angle_h79 (x12_angle_h69 (f + m + 1)) (998 + 1) a1 0 a4 k b3 m3 a8 (0 + 1) q1 = x12_angle_h69 (f + m + 1) a1 0 a4 k b3 m3 (a8 + 1) q1 := by
        intro b3 m3
        rw [x12_angle_h79, if_neg (by decide)]
        unfold x12_angle_j91
        rw [if_pos (by decide)]
      unfold x12_angle_j128 x12_angle_j150 x12_angle_j166
      by_cases z : stp c (LN F (GL c p s k lg) a8 0) ≤ m2
      · rw [if_pos z, if_pos z, if_pos z, if_pos z]
        exact out _ _
      · rw [if_neg z, if_neg z, if_neg z, if_neg z]
        exact out _ _
    rw [show f + (m + 1) + 1 = (f + m + 1) + 1 by omega, x12_angle_h69, if_neg (by rw [le32, ti9]; omega), inner]
    by_cases z : stp c (LN F (GL c p s k lg) a8 0) ≤ (ban (fun a => stp c (LN F (GL c p s k lg) a 0)) i).2
    · rw [if_pos z] at e2
      rw [if_pos z, if_pos z]
      exact e2
    · rw [if_neg z] at e2
      rw [if_neg z, if_neg z, Int32.add_zero]
      exact e2
/-- for all angles and both -/
theorem ang2_h (hb : bd sp c) (hp : a1.toInt = p) (h6 : p < 6) (hs : a4.toInt = s) (h9 : s < 9) (k : Int32) {f : Nat} : ∀ (m i : Nat) (a8 : Int32) (q : mm_Q), a8.toInt = i → i + m = 9 → rx F c sp lg q → ∃ q', x12_angle_h69 (f + m + 1) a1 2 a4 k (b2 (PT F c (GL c p s k lg) 0) (PT F c (GL c p s k lg) 1) i).1 (b2 (PT F c (GL c p s k lg) 0) (PT F c (GL c p s k lg) 1) i).2 a8 q = some ((b2 (PT F c (GL c p s k lg) 0) (PT F c (GL c p s k lg) 1) 9).1, q') ∧ fq q q' ∧ rx F c sp lg q' := by
  intro m
  induction m with
  | zero =>
    intro i a8 q h1 h2 hx
    refine ⟨q, ?_, fq_rfl q, hx⟩
    rw [x12_angle_h69, if_pos (by rw [le32, ti9]; omega), if_neg (by decide), show i = 9 by omega]
  | succ m ih =>
    intro i a8 q h1 h2 hx
    obtain ⟨q1, e1, f1, x1⟩ := landsAt_eq hx hp h6 hs h9 k a8 0
    obtain ⟨q2, e2, f2, x2⟩ := landsAt_eq x1 hp h6 hs h9 k a8 1
    obtain ⟨q3, e3, f3, x3⟩ := ih (i + 1) (a8 + 1) q2 (mm_inc1 h1 (by omega)) (by omega) x2
    refine ⟨q3, ?_, fq_trans (fq_trans f1 f2) f3, x3⟩
    have one : ∀ (r : Int32) (n : Nat) (b m2 : Int32) (qa qb : mm_Q), r ≤ 1 → x12_landsAt a1 a4 k a8 r qa = some (LN F (GL c p s k lg) a8 r, qb) → rx F c sp lg qb → x12_angle_h79 (x12_angle_h69 (f + m + 1)) (n + 1) a1 2 a4 k b m2 a8 r qa = x12_angle_h79 (x12_angle_h69 (f + m + 1)) n a1 2 a4 k (st1 (10 * a8 + r) (PT F c (GL c p s k lg) r a8) (b, m2)).1 (st1 (10 * a8 + r) (PT F c (GL c p s k lg) r a8) (b, m2)).2 a8 (r + 1) qb := by
      intro r n b m2 qa qb hr ea xb
      rw [x12_angle_h79, if_pos rfl]
      unfold x12_angle_j91
      rw [if_neg (Int32.not_lt.mpr hr), ea, mm_cl_s, if_neg (by decide), pointsFrom_eq hb (LN_rng _ _ _ _).1 (LN_rng _ _ _ _).2 xb.1, mm_cl_s]
      unfold x12_angle_j128 x12_angle_j150 x12_angle_j166 st1
      show (if PT F c (GL c p s k lg) r a8 ≤ m2 then _ else _) = _
      by_cases z : PT F c (GL c p s k lg) r a8 ≤ m2
      · rw [if_pos z, if_pos z, if_pos (show pnt c (LN F (GL c p s k lg) a8 r) ≤ m2 from z)]
      · rw [if_neg z, if_neg z, if_neg (show ¬ pnt c (LN F (GL c p s k lg) a8 r) ≤ m2 from z)]
        rfl
    have out : ∀ (n : Nat) (b3 m3 : Int32) (qa : mm_Q), x12_angle_h79 (x12_angle_h69 (f + m + 1)) (n + 1) a1 2 a4 k b3 m3 a8 (0 + 1 + 1) qa = x12_angle_h69 (f + m + 1) a1 2 a4 k b3 m3 (a8 + 1) qa := by
      intro n b3 m3 qa
      rw [x12_angle_h79, if_pos rfl]
      unfold x12_angle_j91
      rw [if_pos (by decide)]
    rw [show f + (m + 1) + 1 = (f + m + 1) + 1 by omega, x12_angle_h69, if_neg (by rw [le32, ti9]; omega)]
    show x12_angle_h79 _ (997 + 1 + 1 + 1) _ _ _ _ _ _ _ _ _ = _
    rw [one 0 _ _ _ q q1 (by decide) e1 x1, one (0 + 1) _ _ _ q1 q2 (by decide) (by rw [show (0 : Int32) + 1 = 1 by decide]; exact e2) x2, out]
    rw [show (0 : Int32) + 1 = 1 by decide]
    rw [mm_ofn h1] at *
    exact e3
end A12
theorem pr_angle (v0 v1 v2 : Int32) : mm_pr (mm_Iv mm_LX) (x11_angle v0 v1 v2) (x12_angle v0 v1 v2) := by
  intro q h
  obtain ⟨F, hw, hb, ⟨hs0, hs6⟩, e6, hx, hd⟩ := mm_think h
  by_cases g : (0 ≤ v0.toInt ∧ v0.toInt < (q.1 8 1).toInt) ∧ (0 ≤ v1.toInt ∧ v1.toInt / 1000 < 9 ∧ v1.toInt % 1000 ≤ 99) ∧ 0 ≤ v2.toInt ∧ v2.toInt ≤ 2
  · obtain ⟨g1, g2, g4, g5⟩ := g
    obtain ⟨s1, s2, s3⟩ := sk_parts g2
    have hp := nat_of g1.1
    obtain ⟨q1, y1, y2, y3⟩ := take_eq hw hs6 hp (by omega) s1 s2 (mm_rem v1 1000)
    have hX : x11_angle v0 v1 v2 q = if v2 = 0 then mm_cl (x10_bestAngleForStop q1) (fun r12 q13 => some (r12, q13)) else if v2 = 1 then mm_cl (x10_bestAngle 0 q1) (fun r12 q13 => some (r12, q13)) else mm_cl (x10_bestAngleAndRun q1) (fun r12 q13 => some (r12, q13)) := by
      unfold x11_angle
      rw [isSpitter4_eq, mm_cl_s, if_neg (by rw [mm_p0]; omega), sk11_eq, mm_cl_s, if_neg (by rw [mm_p0]; omega), if_neg (by rw [lt32, ti0]; omega), if_pos (by rw [le32, ti2]; omega), y1, mm_cl_s]
    have hM : ∀ q2 : mm_Q, q2.1 52 6 = q.1 8 1 → x12_angle v0 v1 v2 q2 = if v2 = 1 then mm_cl (x12_angleFor v0 (v1 / 1000) (mm_rem v1 1000) 0 q2) (fun r11 q12 => some (r11, q12)) else x12_angle_h69 mm_fu v0 v2 (v1 / 1000) (mm_rem v1 1000) 0 (-1) 0 q2 := by
      intro q2 f52
      unfold x12_angle
      rw [isSpitter12_eq (by rw [f52]; exact hs0), mm_cl_s, mm_i64, f52, if_neg (by rw [mm_p0]; omega), sk12_eq, mm_cl_s, if_neg (by rw [mm_p0]; omega), within_eq, mm_cl_s, mm_i64, tl0, tl2, if_neg (by rw [mm_p0]; omega)]
    have fin : ∀ (r : Int32) (q2 q3 : mm_Q), x11_angle v0 v1 v2 q = some (r, q2) → fr [12, 13] q1 q2 → (∀ q2 : mm_Q, q2.1 52 6 = q.1 8 1 → rx F (q.1 9) (q.1 8 1) 0 q2 → ∃ q3, x12_angle v0 v1 v2 q2 = some (r, q3) ∧ fq q2 q3 ∧ rx F (q.1 9) (q.1 8 1) 0 q3) → ∃ r q1 q2, x11_angle v0 v1 v2 q = some (r, q1) ∧ q1.1 0 = q.1 0 ∧ x12_angle v0 v1 v2 q1 = some (r, q2) ∧ mm_Iv mm_LX q2 := by
      intro r q2 q3 e f hh
      have k2 : fk q q2 := fk_trans (fk_fr y3 (by decide)) (fk_fr f (by decide))
      obtain ⟨q3, z1, z2, z3⟩ := hh q2 (by rw [k2.1 52 (by decide)]; exact e6) (hx q2 k2)
      exact ⟨r, q2, q3, e, by rw [k2.1 0 (by decide)], z1, hd q2 q3 k2 (fz_fq z2) z3⟩
    by_cases c0 : v2 = 0
    · obtain ⟨q2, z1, z2⟩ := bestStop_eq y2
      rw [LN_tk hb F s2] at z1
      refine fin _ q2 q2 (by rw [hX, if_pos c0, z1, mm_cl_s]) z2 (fun qa fa xa => ?_)
      obtain ⟨q3, w1, w2, w3⟩ := ang0_h (f := 990) hb hp (by omega) s1 s2 (mm_rem v1 1000) 9 0 0 qa ti0 (by omega) xa
      refine ⟨q3, ?_, w2, w3⟩
      rw [hM qa fa, if_neg (by rw [c0]; decide), c0]
      exact w1
    · by_cases c1 : v2 = 1
      · obtain ⟨q2, z1, z2⟩ := bestAngle_eq y2 0
        rw [PT_tk hb F s2] at z1
        refine fin _ q2 q2 (by rw [hX, if_neg c0, if_pos c1, z1, mm_cl_s]) z2 (fun qa fa xa => ?_)
        obtain ⟨q3, w1, w2, w3⟩ := angleFor_eq xa hb hp (by omega) s1 s2 (mm_rem v1 1000) 0
        refine ⟨q3, ?_, w2, w3⟩
        rw [hM qa fa, if_pos c1, w1, mm_cl_s]
      · have c2 : v2 = 2 := by
          rw [eq32, ti0] at c0
          rw [eq32, ti1] at c1
          rw [eq32, ti2]
          omega
        obtain ⟨q2, z1, z2⟩ := bestBoth_eq hb y2
        rw [PT_tk hb F s2] at z1
        refine fin _ q2 q2 (by rw [hX, if_neg c0, if_neg c1, z1, mm_cl_s]) z2 (fun qa fa xa => ?_)
        obtain ⟨q3, w1, w2, w3⟩ := ang2_h (f := 990) hb hp (by omega) s1 s2 (mm_rem v1 1000) 9 0 0 qa ti0 (by omega) xa
        refine ⟨q3, ?_, w2, w3⟩
        rw [hM qa fa, if_neg c1, c2]
        exact w1
  · refine ⟨-1, q, q, ?_, rfl, ?_, h⟩
    · unfold x11_angle
      simp only [isSpitter4_eq, sk11_eq, mm_cl_s, mm_p0, lt32, le32, ti0, ti2]
      repeat' split
      all_goals first | rfl | (exfalso; omega)
    · unfold x12_angle
      simp only [isSpitter12_eq (show 0 ≤ (q.1 52 6).toInt by rw [e6]; exact hs0), sk12_eq, within_eq, mm_cl_s, mm_p0, mm_i64, e6, tl0, tl2]
      repeat' split
      all_goals first | rfl | (exfalso; omega)
