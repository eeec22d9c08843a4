/-! risk and risks -/
theorem isg : ∀ (k a b : Nat) (b0 b2 b4 b6 b8 b10 : Int64) (n : Nat) (q : mm_Q), b8.toInt = a → b10.toInt = b → b < 2 ^ k → 2 * k + 1 ≤ n → ∃ g : Int64, g.toInt = (Nat.gcd a b : Nat) ∧ x14_is_h33 n b0 b2 b4 b6 b8 b10 q = x14_is_h33 1 b0 b2 b4 b6 g 0 q
  | 0, a, b, b0, b2, b4, b6, b8, b10, n, q => by
    intro h1 h2 h3 h6
    have hb : b = 0 := by omega
    obtain ⟨m, rfl⟩ : ∃ m, n = m + 1 := ⟨n - 1, by omega⟩
    have hz : b10 = 0 := by rw [eq64, tl0]; omega
    refine ⟨b8, by rw [hb, Nat.gcd_zero_right]; exact h1, ?_⟩
    rw [hz, x14_is_h33, if_pos (mm_cmp_self 0), x14_is_h33, if_pos (mm_cmp_self 0)]
  | k + 1, a, b, b0, b2, b4, b6, b8, b10, n, q => by
    intro h1 h2 h3 h6
    obtain ⟨m, rfl⟩ : ∃ m, n = m + 1 + 1 := ⟨n - 2, by omega⟩
    by_cases hb : b = 0
    · have hz : b10 = 0 := by rw [eq64, tl0]; omega
      refine ⟨b8, by rw [hb, Nat.gcd_zero_right]; exact h1, ?_⟩
      rw [hz, x14_is_h33, if_pos (mm_cmp_self 0), x14_is_h33, if_pos (mm_cmp_self 0)]
    · have e1 : (mm_reml b8 b10).toInt = ((a % b : Nat) : Int) := by rw [ml_rem (by omega) (by omega), h1, h2]; omega
      have g1 : Nat.gcd a b = Nat.gcd b (a % b) := by rw [Nat.gcd_comm, Nat.gcd_rec, Nat.gcd_comm]
      have s1 : x14_is_h33 (m + 1 + 1) b0 b2 b4 b6 b8 b10 q = x14_is_h33 (m + 1) b0 b2 b4 b6 b10 (mm_reml b8 b10) q := by
        rw [x14_is_h33, if_neg (fun z => by rw [mm_cmp_eq, eq64, tl0] at z; omega), mm_ck_t (nzl_t (by omega))]
      rw [s1, g1]
      by_cases hr : a % b = 0
      · have hz : mm_reml b8 b10 = 0 := by rw [eq64, tl0]; omega
        refine ⟨b10, by rw [hr, Nat.gcd_zero_right]; exact h2, ?_⟩
        rw [hz, x14_is_h33, if_pos (mm_cmp_self 0), x14_is_h33, if_pos (mm_cmp_self 0)]
      · have lt : a % b < b := Nat.mod_lt _ (by omega)
        have e2 : (mm_reml b10 (mm_reml b8 b10)).toInt = ((b % (a % b) : Nat) : Int) := by rw [ml_rem (by omega) (by omega), e1, h2]; omega
        have g2 : Nat.gcd b (a % b) = Nat.gcd (a % b) (b % (a % b)) := by rw [Nat.gcd_comm, Nat.gcd_rec, Nat.gcd_comm]
        have s2 : x14_is_h33 (m + 1) b0 b2 b4 b6 b10 (mm_reml b8 b10) q = x14_is_h33 m b0 b2 b4 b6 (mm_reml b8 b10) (mm_reml b10 (mm_reml b8 b10)) q := by
          rw [x14_is_h33, if_neg (fun z => by rw [mm_cmp_eq, eq64, tl0] at z; omega), mm_ck_t (nzl_t (by omega))]
        have lt2 : b % (a % b) < a % b := Nat.mod_lt _ (by omega)
        have half : 2 * (b % (a % b)) < b := by
          have h7 := Nat.mod_add_div b (a % b)
          have h8 : 1 ≤ b / (a % b) := Nat.div_pos (Nat.le_of_lt lt) (by omega)
          have h9 := Nat.mul_le_mul_left (a % b) h8
          omega
        have hk : b % (a % b) < 2 ^ k := by
          rw [Nat.pow_succ] at h3
          omega
        rw [s2, g2]
        exact isg k (a % b) (b % (a % b)) _ _ _ _ _ _ m q e1 e2 hk (by omega)
/-- a fraction in its lowest terms is that fraction -/
theorem is_ok {a b g : Int64} (ha : 0 ≤ a.toInt) (ha2 : a.toInt < 8589934592) (hb : 0 < b.toInt) (hb2 : b.toInt < 8589934592) (hg : g.toInt = (Nat.gcd a.toInt.toNat b.toInt.toNat : Nat)) (q : mm_Q) : x14_is (a / g) (b / g) a b q = some (1, q) := by
  have p33 : (2 : Nat) ^ 33 = 8589934592 := by decide
  obtain ⟨A, hA⟩ : ∃ A : Nat, a.toInt = A := ⟨a.toInt.toNat, by omega⟩
  obtain ⟨B, hB⟩ : ∃ B : Nat, b.toInt = B := ⟨b.toInt.toNat, by omega⟩
  rw [hA, hB] at hg
  have hg2 : g.toInt = (Nat.gcd A B : Nat) := hg
  have gp : 0 < Nat.gcd A B := Nat.gcd_pos_of_pos_right A (by omega)
  unfold x14_is
  by_cases z : a = 0
  · have gb : g = b := by
      rw [eq64, hg2, hB]
      rw [eq64, tl0] at z
      rw [show A = 0 by omega, Nat.gcd_zero_left]
    have d0 : b / g = 1 := by rw [gb, eq64, ml_div (by omega) hb, Int.ediv_self (by omega), tl1]
    have d1 : a / g = 0 := by rw [gb, eq64, ml_div (by omega) hb, z, tl0, Int.zero_ediv]
    rw [if_pos ((mm_cmp_eq _ _).mpr z), d0, d1, if_pos (mm_cmp_self 0), if_pos (mm_cmp_self 1)]
  · obtain ⟨g', h1, h2⟩ := isg 33 A B (a / g) (b / g) a b a b 1000 q hA hB (by rw [p33]; omega) (by omega)
    have e : g' = g := by rw [eq64, h1, hg2]
    rw [if_neg (fun w => z ((mm_cmp_eq _ _).mp w)), show mm_fu = 1000 from rfl, h2, e, x14_is_h33, if_pos (mm_cmp_self 0), mm_ck_t (nzl_t (by omega)), if_pos (mm_cmp_self _), mm_ck_t (nzl_t (by omega)), if_pos (mm_cmp_self _)]
theorem ten_parts {a r : Int32} (ha : 0 ≤ a.toInt ∧ a.toInt ≤ 999) (hr : 0 ≤ r.toInt ∧ r.toInt ≤ 9) : (10 * a + r).toInt = 10 * a.toInt + r.toInt ∧ (10 * a + r) / 10 = a ∧ mm_rem (10 * a + r) 10 = r := by
  have e1 : ((10 : Int32) * a).toInt = 10 * a.toInt := by rw [mm_mul_ti (by rw [ti10]; omega) (by rw [ti10]; omega), ti10]
  have e2 : (10 * a + r).toInt = 10 * a.toInt + r.toInt := by rw [mm_add_ti (by omega) (by omega), e1]
  refine ⟨e2, ?_, ?_⟩
  · rw [eq32, div_ti (by omega) (by decide), e2, ti10]
    omega
  · rw [eq32, rem_ti (by omega) (by decide), e2, ti10]
    omega
section LR
variable {F : mm_F} {c : Nat → Int32} {sp : Int32} {xs : Nat → Int32} {len : Nat} {rr50 : Nat → Int32 → mm_Q → Option (Int32 × mm_Q)} {t : Nat} {a6 a7 a8 a9 a10 a11 : Int32} {p s : Nat}
/-- the law's two ways of a try, by what it is worth -/
theorem lr_s (hb : bd sp c) (hs6 : sp.toInt ≤ 6) (pa : PA sp a8 a9 a10 a11 p s) {q : mm_Q} (hi : IL F c sp xs q) {a14 a15 a20 a21 : Int32} {i : Nat} (h21 : a21.toInt = i) {C W : Int64} {L : Int} (hW : 1 ≤ W.toInt ∧ W.toInt ≤ 429981696) (hC : C.toInt = W.toInt - L) (h0 : 0 ≤ L) (hL : L ≤ W.toInt) (n : Nat) : ∃ (C' W' : Int64) (fi : Int32), law_h570 len rr50 (n + 1) t a6 a8 a9 a10 a11 a14 a15 C W a20 a21 q = law_h570 len rr50 n t a6 a8 a9 a10 a11 a14 a15 C' W' fi (a21 + Int32.ofInt (-1)) q ∧ W'.toInt = 12 * W.toInt ∧ C'.toInt = 12 * W.toInt - min (L * (12 - (CT F c p s a10 a14 i 1).toInt)) (L * (12 - (CT F c p s a10 a14 i 0).toInt)) ∧ fi = if L * (12 - (CT F c p s a10 a14 i 1).toInt) < L * (12 - (CT F c p s a10 a14 i 0).toInt) then 1 else 0 := by
  obtain ⟨⟨p1, p2⟩, ⟨p3, p4⟩, -, -⟩ := pa
  have c0 := CT_rng hb hs6 p2 F s a10 a14 i 0
  have c1 := CT_rng hb hs6 p2 F s a10 a14 i 1
  have b3 := bd_sp hb (w := 3) p2 hs6 (by decide) (a := 0) (b := 12) (by decide) (by decide)
  rw [show 6 * 3 + p = 18 + p by omega] at b3
  have e3 := e3_ti p1 (by omega)
  have g3 := hi.2.2.2.1 p 3 p2 (by omega)
  rw [show 6 * 3 + p = 18 + p by omega] at g3
  have bs0 := best_eq (a7 := 0) hi.2.2 hb hs6 p1 p2 p3 p4 (a10 + a21) (Or.inl rfl)
  have bs1 := best_eq (a7 := 1) hi.2.2 hb hs6 p1 p2 p3 p4 (a10 + a21) (Or.inr rfl)
  have e21 := mm_ofn h21
  have w12 : (W * 12).toInt = 12 * W.toInt := by rw [ml_mul (by rw [tl12]; omega) (by rw [tl12]; omega), tl12]; omega
  have t12W : ((12 : Int64) * W).toInt = 12 * W.toInt := by rw [ml_mul (by rw [tl12]; omega) (by rw [tl12]; omega), tl12]
  have t12C : ((12 : Int64) * C).toInt = 12 * W.toInt - 12 * L := by rw [ml_mul (by rw [tl12]; omega) (by rw [tl12]; omega), tl12, hC]; omega
  have r0 := mul_rng h0 c0.1 c0.2
  have r1 := mul_rng h0 c1.1 c1.2
  -- without a run
  obtain ⟨x, hx1, hx2⟩ : ∃ x : Int64, (if BP F c (GL c p s (a10 + a21) 0) 0 ≤ a14 then 12 * C else 12 * W) = x ∧ x.toInt = 12 * W.toInt - L * (12 - (CT F c p s a10 a14 i 0).toInt) := by
    refine ⟨_, rfl, ?_⟩
    have ec : CT F c p s a10 a14 i 0 = if a14 < BP F c (GL c p s (a10 + a21) 0) 0 then 12 else 0 := by
      rw [e21]
      show (if a14 < BP F c (GL c p s (a10 + Int32.ofNat i) 0) 0 then (if (0 : Int32) = 1 then 12 - c (18 + p) else 12) else 0) = _
      rw [if_neg (show ¬ (0 : Int32) = 1 by decide)]
    by_cases z : BP F c (GL c p s (a10 + a21) 0) 0 ≤ a14
    · rw [if_pos z, t12C, ec, if_neg (Int32.not_lt.mpr z), ti0]
      omega
    · rw [if_neg z, t12W, ec, if_pos (Int32.not_le.mp z), ti12]
      omega
  -- with a run
  obtain ⟨y, hy1, hy2⟩ : ∃ y : Int64, (if BP F c (GL c p s (a10 + a21) 0) 1 ≤ a14 then 12 * C else ((12 - c (18 + p)).toInt64 * W) + ((c (18 + p)).toInt64 * C)) = y ∧ y.toInt = 12 * W.toInt - L * (12 - (CT F c p s a10 a14 i 1).toInt) := by
    refine ⟨_, rfl, ?_⟩
    have ec : CT F c p s a10 a14 i 1 = if a14 < BP F c (GL c p s (a10 + a21) 0) 1 then 12 - c (18 + p) else 0 := by
      rw [e21]
      show (if a14 < BP F c (GL c p s (a10 + Int32.ofNat i) 0) 1 then (if (1 : Int32) = 1 then 12 - c (18 + p) else 12) else 0) = _
      rw [if_pos rfl]
    by_cases z : BP F c (GL c p s (a10 + a21) 0) 1 ≤ a14
    · rw [if_pos z, t12C, ec, if_neg (Int32.not_lt.mpr z), ti0]
      omega
    · have e12 : (12 - c (18 + p)).toInt = 12 - (c (18 + p)).toInt := by rw [mm_sub_ti (by rw [ti12]; omega) (by rw [ti12]; omega), ti12]
      have f1 : ((12 - c (18 + p)).toInt64).toInt = 12 - (c (18 + p)).toInt := by rw [mm_i64, e12]
      have f2 : ((c (18 + p)).toInt64).toInt = (c (18 + p)).toInt := mm_i64 _
      have m1 := Int.mul_le_mul_of_nonneg_right (show 12 - (c (18 + p)).toInt ≤ 12 by omega) (show 0 ≤ W.toInt by omega)
      have m2 := Int.mul_nonneg (show 0 ≤ 12 - (c (18 + p)).toInt by omega) (show 0 ≤ W.toInt by omega)
      have m3 := Int.mul_le_mul_of_nonneg_right (show (c (18 + p)).toInt ≤ 12 by omega) (show 0 ≤ W.toInt - L by omega)
      have m4 := Int.mul_nonneg (show 0 ≤ (c (18 + p)).toInt by omega) (show 0 ≤ W.toInt - L by omega)
      have t1 : ((12 - c (18 + p)).toInt64 * W).toInt = (12 - (c (18 + p)).toInt) * W.toInt := by rw [ml_mul (by rw [f1]; omega) (by rw [f1]; omega), f1]
      have t2 : ((c (18 + p)).toInt64 * C).toInt = (c (18 + p)).toInt * (W.toInt - L) := by rw [ml_mul (by rw [f2, hC]; omega) (by rw [f2, hC]; omega), f2, hC]
      rw [if_neg z, ml_add (by rw [t1, t2]; omega) (by rw [t1, t2]; omega), t1, t2, ec, if_pos (Int32.not_le.mp z), e12]
      have m5 : (c (18 + p)).toInt * L = L * (c (18 + p)).toInt := Int.mul_comm _ _
      have m6 : L * (12 - (12 - (c (18 + p)).toInt)) = L * (c (18 + p)).toInt := by rw [show 12 - (12 - (c (18 + p)).toInt) = (c (18 + p)).toInt by omega]
      rw [m6]
      simp only [Int.sub_mul, Int.mul_sub]
      omega
  have tail : ∀ qq : mm_Q, law_j677 len rr50 (law_h570 len rr50 n) t a6 a8 a9 a10 a11 a14 a15 W a21 x y qq = if lg_cmp y x ≤ 0 then law_h570 len rr50 n t a6 a8 a9 a10 a11 a14 a15 x (W * 12) 0 (a21 + Int32.ofInt (-1)) qq else law_h570 len rr50 n t a6 a8 a9 a10 a11 a14 a15 y (W * 12) 1 (a21 + Int32.ofInt (-1)) qq := by
    intro qq
    unfold law_j677 law_j692 law_j709
    by_cases z : lg_cmp y x ≤ 0
    · rw [if_pos z, if_pos z, if_pos z]
    · rw [if_neg z, if_neg z, if_neg z]
  have j614 : ∀ v : Int64, v = x → law_j614 len rr50 (law_h570 len rr50 n) t a6 a8 a9 a10 a11 a14 a15 C W a21 v q = law_j677 len rr50 (law_h570 len rr50 n) t a6 a8 a9 a10 a11 a14 a15 W a21 x y q := by
    intro v hv
    unfold law_j614
    rw [bs1, mm_cl_s, hv]
    by_cases z : BP F c (GL c p s (a10 + a21) 0) 1 ≤ a14
    · rw [if_pos z] at hy1 ⊢
      rw [hy1]
    · rw [if_neg z] at hy1 ⊢
      rw [mm_ck_t (mm_inb_c e3 (by omega)), mm_ck_t (mm_inb_c e3 (by omega)), mm_tcn e3, g3, hy1]
  have st : law_h570 len rr50 (n + 1) t a6 a8 a9 a10 a11 a14 a15 C W a20 a21 q = law_j677 len rr50 (law_h570 len rr50 n) t a6 a8 a9 a10 a11 a14 a15 W a21 x y q := by
    rw [law_h570, if_neg (by rw [lt32, ti0]; omega), bs0, mm_cl_s]
    by_cases z : BP F c (GL c p s (a10 + a21) 0) 0 ≤ a14
    · rw [if_pos z] at hx1 ⊢
      exact j614 _ hx1
    · rw [if_neg z] at hx1 ⊢
      exact j614 _ hx1
  rw [st, tail]
  by_cases z : L * (12 - (CT F c p s a10 a14 i 1).toInt) < L * (12 - (CT F c p s a10 a14 i 0).toInt)
  · refine ⟨y, W * 12, 1, ?_, w12, by rw [hy2]; omega, by rw [if_pos z]⟩
    rw [if_neg (fun w => by rw [mm_cmp_le, le64, hx2, hy2] at w; omega)]
  · refine ⟨x, W * 12, 0, ?_, w12, by rw [hx2]; omega, by rw [if_neg z]⟩
    rw [if_pos (by rw [mm_cmp_le, le64, hx2, hy2]; omega)]
theorem lr_h (hb : bd sp c) (hs6 : sp.toInt ≤ 6) (pa : PA sp a8 a9 a10 a11 p s) {q : mm_Q} (hi : IL F c sp xs q) {a14 a15 : Int32} {n : Nat} (hn : n ≤ 9) {f : Nat} : ∀ (m : Nat) (C W : Int64) (a20 a21 : Int32), a21.toInt = m → m + 1 ≤ n → W.toInt = pw (n - 1 - m) → C.toInt = W.toInt - Qd (ce F c p s a10 a14) (m + 1) (n - 1 - m) → ∃ (C' W' : Int64) (fi : Int32), law_h570 len rr50 (f + m) t a6 a8 a9 a10 a11 a14 a15 C W a20 a21 q = law_h570 len rr50 f t a6 a8 a9 a10 a11 a14 a15 C' W' fi 0 q ∧ W'.toInt = pw (n - 1) ∧ C'.toInt = W'.toInt - Qd (ce F c p s a10 a14) 1 (n - 1) := by
  intro m
  induction m with
  | zero =>
    intro C W a20 a21 h1 h2 h3 h4
    have e0 : a21 = 0 := by rw [eq32, h1, ti0]; omega
    refine ⟨C, W, a20, ?_, h3, h4⟩
    rw [e0]
    rfl
  | succ m ih =>
    intro C W a20 a21 h1 h2 h3 h4
    have er : ∀ i, 0 ≤ ce F c p s a10 a14 i ∧ ce F c p s a10 a14 i ≤ 12 := fun i => ce_rng hb hs6 pa.1.2 F s a10 a14 i
    have hq := Qd_rng er (n - 1 - (m + 1)) (m + 1 + 1)
    have hp8 := pw_8 (n - 1 - (m + 1)) (by omega)
    obtain ⟨C1, W1, f1, y1, y4, y5, -⟩ := lr_s (t := t) (a6 := a6) (len := len) (rr50 := rr50) (a14 := a14) (a15 := a15) (a20 := a20) hb hs6 pa hi (i := m + 1) h1 (C := C) (W := W) (L := Qd (ce F c p s a10 a14) (m + 1 + 1) (n - 1 - (m + 1))) (by omega) h4 hq.1 (by omega) (f + m)
    have ew : n - 1 - m = (n - 1 - (m + 1)) + 1 := by omega
    have w1 : W1.toInt = pw (n - 1 - m) := by rw [y4, h3, ew, pw_s]
    have c1 : C1.toInt = W1.toInt - Qd (ce F c p s a10 a14) (m + 1) (n - 1 - m) := by
      rw [y5, y4, min_mul hq.1, ew]
      show _ = _ - ce F c p s a10 a14 (m + 1) * Qd (ce F c p s a10 a14) (m + 1 + 1) (n - 1 - (m + 1))
      rw [Int.mul_comm (ce F c p s a10 a14 (m + 1))]
      have : max (CT F c p s a10 a14 (m + 1) 1).toInt (CT F c p s a10 a14 (m + 1) 0).toInt = max (CT F c p s a10 a14 (m + 1) 0).toInt (CT F c p s a10 a14 (m + 1) 1).toInt := by omega
      rw [this]
    obtain ⟨C2, W2, f2, z1, z4, z5⟩ := ih C1 W1 f1 (a21 + Int32.ofInt (-1)) (by
      rw [show Int32.ofInt (-1) = (-1 : Int32) from rfl, mm_add_ti (by rw [tin1]; omega) (by rw [tin1]; omega), tin1]
      omega) (by omega) w1 c1
    refine ⟨C2, W2, f2, ?_, z4, z5⟩
    rw [show f + (m + 1) = (f + m) + 1 by omega, y1]
    exact z1
/-- the risk of so many tries -/
theorem stD (hb : bd sp c) (hs : 0 ≤ sp.toInt ∧ sp.toInt ≤ 6) (hl : len ≤ 260) (h66 : 0 ≤ a6.toInt ∧ a6.toInt < 6) (pa : PA sp a8 a9 a10 a11 p s) {a14 a15 a21 : Int32} (g14 : 0 ≤ a14.toInt ∧ a14.toInt ≤ 999) {m : Nat} (h15 : a15.toInt = ((m + 1 : Nat) : Int)) (hm9 : m + 1 ≤ 9) (h21 : a21.toInt = m) (hr : ∀ q', IL F c sp xs q' → ok1 (rr50 (t + 1) (a6 + 1) q')) {q : mm_Q} (hi : IL F c sp xs q) : ok1 (law_h570 len rr50 mm_fv t a6 a8 a9 a10 a11 a14 a15 0 1 0 a21 q) := by
  obtain ⟨s1, s2, s3, s4, s5, s6⟩ := PA_sk pa
  obtain ⟨k1, k2, k3⟩ := ten_parts g14 (r := a15) (by omega)
  obtain ⟨C, W, f1, z1, z4, z5⟩ := lr_h (t := t) (a6 := a6) (len := len) (rr50 := rr50) (a14 := a14) (a15 := a15) hb hs.2 pa hi hm9 (f := 9000 - m) m 0 1 0 a21 h21 (by omega) (by rw [show m + 1 - 1 - m = 0 by omega]; decide) (by rw [show m + 1 - 1 - m = 0 by omega]; show (0 : Int64).toInt = (1 : Int64).toInt - 1; decide)
  rw [show m + 1 - 1 = m by omega] at z4 z5
  have er := ce_rng hb hs.2 pa.1.2 F s a10 a14
  have hq := Qd_rng er m 1
  have hp8 := pw_8 m (by omega)
  obtain ⟨k, hk⟩ : ∃ k, 9000 - m = k + 1 + 1 := ⟨8998 - m, by omega⟩
  obtain ⟨C3, W3, fi, u1, u4, u5, u6⟩ := lr_s (t := t) (a6 := a6) (len := len) (rr50 := rr50) (a14 := a14) (a15 := a15) (a20 := f1) hb hs.2 pa hi (a21 := 0) (i := 0) ti0 (C := C) (W := W) (L := Qd (ce F c p s a10 a14) 1 m) (by omega) z5 hq.1 (by omega) (k + 1)
  rw [z4] at u4 u5
  have p9 := pw_rng (m + 1) hm9
  have d0 := CT_rng hb hs.2 pa.1.2 F s a10 a14 0 0
  have d1 := CT_rng hb hs.2 pa.1.2 F s a10 a14 0 1
  have r0 := mul_rng hq.1 d0.1 d0.2
  have r1 := mul_rng hq.1 d1.1 d1.2
  have call : ∀ (qa : mm_Q) (v3 : Int32), IL F c sp xs qa → 0 ≤ v3.toInt → v3.toInt ≤ 2 → ∃ q1, x11_risks a8 a11 (10 * a14 + a15) v3 qa = (if v3 = 2 then mm_cl (x7_firstWithRun q1) (fun r15 q16 => if r15 = 0 then some ((0 : Int64), q16) else some ((1 : Int64), q16)) else mm_cl (x11_fractionPart C3 W3 v3 q1) (fun r22 q23 => some (r22, q23))) ∧ IL F c sp xs q1 ∧ q1.1 35 9 = fi := by
    intro qa v3 ha h0 h2
    obtain ⟨q1, y1, y2, y3, y4, y5⟩ := cl_risks (v0 := a8) (v1 := a11) (v2 := 10 * a14 + a15) (v3 := v3) (m := m) ha.2.1 hb hs.2 ⟨⟨s5, s6⟩, s1, ⟨by omega, by omega⟩, h0, h2⟩ (by omega)
    rw [s2, s3, s4, k2] at y4 y5
    rw [pw_s] at y3 y4
    have eC : q1.2 35 7 = C3 := by rw [eq64, u5, y4]
    have eW : q1.2 35 8 = W3 := by rw [eq64, u4, y3]
    rw [eC, eW] at y1
    exact ⟨q1, y1, IL_fk ha y2, by rw [y5, u6]⟩
  rw [pw_s] at p9
  have ra : 0 ≤ C3.toInt ∧ C3.toInt < 8589934592 ∧ 0 < W3.toInt ∧ W3.toInt < 8589934592 := by omega
  obtain ⟨q1, y1, i1, -⟩ := call q 0 hi (by rw [ti0]; omega) (by rw [ti0]; omega)
  obtain ⟨g, hg, -, fg⟩ := cl_frac (a := C3) (b := W3) ra.1 ra.2.1 ra.2.2.1 ra.2.2.2 0 q1
  rw [if_neg (by decide), fg, mm_cl_s, if_pos rfl] at y1
  obtain ⟨q2, y2, i2, -⟩ := call q1 1 i1 (by rw [ti1]; omega) (by rw [ti1]; omega)
  obtain ⟨g', hg', -, fg'⟩ := cl_frac (a := C3) (b := W3) ra.1 ra.2.1 ra.2.2.1 ra.2.2.2 1 q2
  have egg : g' = g := by rw [eq64, hg, hg']
  rw [if_neg (by decide), fg', mm_cl_s, if_neg (by decide), egg] at y2
  obtain ⟨q3, y3, i3, e9⟩ := call q2 2 i2 (by rw [ti2]; omega) (by rw [ti2]; omega)
  have y3' : x11_risks a8 a11 (10 * a14 + a15) 2 q2 = some (fi.toInt64, q3) := by
    rw [y3, if_pos rfl]
    unfold x7_firstWithRun
    rw [e9]
    rw [u6]
    by_cases w : Qd (ce F c p s a10 a14) 1 m * (12 - (CT F c p s a10 a14 0 1).toInt) < Qd (ce F c p s a10 a14) 1 m * (12 - (CT F c p s a10 a14 0 0).toInt)
    · rw [if_pos w, mm_ck_t (by decide), mm_cl_s, if_neg (by decide)]
      rfl
    · rw [if_neg w, mm_ck_t (by decide), mm_cl_s, if_pos rfl]
      rfl
  rw [show mm_fv = 9000 - m + m by show 9000 = _; omega, z1, hk, u1, show (0 : Int32) + Int32.ofInt (-1) = -1 from by decide, law_h570, if_pos (by decide), y1, mm_cl_s, y2, mm_cl_s, is_ok ra.1 ra.2.1 ra.2.2.1 ra.2.2.2 hg, mm_cl_s, if_neg (by decide), y3', mm_cl_s, if_pos (mm_cmp_self _)]
  exact stE hb hs hl h66 pa g14 hr i3
/-- the risk of one -/
theorem stC_s (hb : bd sp c) (hs6 : sp.toInt ≤ 6) (pa : PA sp a8 a9 a10 a11 p s) {q : mm_Q} (hi : IL F c sp xs q) {a14 a15 : Int32} (g14 : 0 ≤ a14.toInt ∧ a14.toInt ≤ 999) (h15 : a15 = 0 ∨ a15 = 1) {n : Nat} (hn : ∀ q', IL F c sp xs q' → ok1 (law_h433 len rr50 n t a6 a7 a8 a9 a10 a11 a14 (a15 + 1) q')) : ok1 (law_h433 len rr50 (n + 1) t a6 a7 a8 a9 a10 a11 a14 a15 q) := by
  obtain ⟨s1, s2, s3, s4, s5, s6⟩ := PA_sk pa
  obtain ⟨⟨p1, p2⟩, ⟨p3, p4⟩, -, -⟩ := pa
  have hrt : 0 ≤ a15.toInt ∧ a15.toInt ≤ 1 := by
    rcases h15 with e | e
    · rw [e, ti0]; omega
    · rw [e, ti1]; omega
  obtain ⟨k1, k2, k3⟩ := ten_parts g14 (r := a15) (by omega)
  have e3 := e3_ti p1 (by omega)
  have g3 := hi.2.2.2.1 p 3 p2 (by omega)
  rw [show 6 * 3 + p = 18 + p by omega] at g3
  have bs := best_eq (a7 := a15) hi.2.2 hb hs6 p1 p2 p3 p4 a10 h15
  have cr := CH_rng hb hs6 p2 F (GL c p s a10 0) a14 a15
  obtain ⟨A, hA⟩ : ∃ A, CH F c (GL c p s a10 0) p a14 a15 = A := ⟨_, rfl⟩
  rw [hA] at cr
  have ra : 0 ≤ (A.toInt64).toInt ∧ (A.toInt64).toInt < 8589934592 ∧ 0 < (12 : Int64).toInt ∧ (12 : Int64).toInt < 8589934592 := by rw [mm_i64, tl12]; omega
  have call : ∀ (qa : mm_Q) (v3 : Int32), IL F c sp xs qa → 0 ≤ v3.toInt → v3.toInt ≤ 1 → ∃ q1, x11_risk a8 a11 (10 * a14 + a15) v3 qa = mm_cl (x11_fractionPart A.toInt64 12 v3 q1) (fun r q => some (r, q)) ∧ IL F c sp xs q1 := by
    intro qa v3 ha h0 h1
    obtain ⟨q1, y1, y2⟩ := cl_risk (v0 := a8) (v1 := a11) (v2 := 10 * a14 + a15) (v3 := v3) ha.2.1 hb hs6 ⟨⟨s5, s6⟩, s1, ⟨by omega, by omega, by omega⟩, h0, h1⟩
    rw [s2, s3, s4, k2, k3, hA] at y1
    exact ⟨q1, y1, IL_fk ha y2⟩
  obtain ⟨q1, y1, i1⟩ := call q 0 hi (by rw [ti0]; omega) (by rw [ti0]; omega)
  obtain ⟨g, hg, -, fg⟩ := cl_frac (a := A.toInt64) (b := 12) ra.1 ra.2.1 ra.2.2.1 ra.2.2.2 0 q1
  rw [fg, mm_cl_s, if_pos rfl] at y1
  obtain ⟨q2, y2, i2⟩ := call q1 1 i1 (by rw [ti1]; omega) (by rw [ti1]; omega)
  obtain ⟨g', hg', -, fg'⟩ := cl_frac (a := A.toInt64) (b := 12) ra.1 ra.2.1 ra.2.2.1 ra.2.2.2 1 q2
  have egg : g' = g := by rw [eq64, hg, hg']
  rw [fg', mm_cl_s, if_neg (by decide), egg] at y2
  have j487 : ∀ v : Int32, v = A → ok1 (law_j487 len rr50 (law_h433 len rr50 n) t a6 a7 a8 a9 a10 a11 a14 a15 v q) := by
    intro v hv
    unfold law_j487
    rw [hv, y1, mm_cl_s, y2, mm_cl_s, is_ok ra.1 ra.2.1 ra.2.2.1 ra.2.2.2 hg, mm_cl_s, if_neg (by decide)]
    exact hn q2 i2
  rw [law_h433, if_neg (by rw [le32, ti2]; omega), bs, mm_cl_s]
  by_cases z : a14 < BP F c (GL c p s a10 0) a15
  · rw [if_pos z]
    by_cases z1 : a15 = 1
    · rw [if_pos z1, mm_ck_t (mm_inb_c e3 (by omega)), mm_tcn e3, g3]
      refine j487 _ ?_
      rw [← hA]
      unfold CH
      rw [if_pos z, if_pos z1]
    · rw [if_neg z1]
      refine j487 _ ?_
      rw [← hA]
      unfold CH
      rw [if_pos z, if_neg z1]
  · rw [if_neg z]
    refine j487 _ ?_
    rw [← hA]
    unfold CH
    rw [if_neg z]
theorem stC (hb : bd sp c) (hs : 0 ≤ sp.toInt ∧ sp.toInt ≤ 6) (hl : len ≤ 260) (h66 : 0 ≤ a6.toInt ∧ a6.toInt < 6) (pa : PA sp a8 a9 a10 a11 p s) {a14 : Int32} (g14 : 0 ≤ a14.toInt ∧ a14.toInt ≤ 999) (hr : ∀ q', IL F c sp xs q' → ok1 (rr50 (t + 1) (a6 + 1) q')) {q : mm_Q} (hi : IL F c sp xs q) : ok1 (law_h433 len rr50 mm_fv t a6 a7 a8 a9 a10 a11 a14 0 q) := by
  refine stC_s (n := 8999) hb hs.2 pa hi g14 (Or.inl rfl) (fun q1 h1 => ?_)
  rw [show (0 : Int32) + 1 = 1 by decide]
  refine stC_s (n := 8998) hb hs.2 pa h1 g14 (Or.inr rfl) (fun q2 h2 => ?_)
  rw [show (1 : Int32) + 1 = 2 by decide, show 8998 = 8997 + 1 from rfl, law_h433, if_pos (by decide), mm_lt_s]
  have r9 := rem_rng (a := mm_ushr a7 21) (b := 9) (ushr_nn a7 21 (by omega) (by omega)) (by decide)
  rw [ti9] at r9
  have e1 : (1 + mm_rem (mm_ushr a7 21) 9).toInt = 1 + (mm_rem (mm_ushr a7 21) 9).toInt := by rw [mm_add_ti (by rw [ti1]; omega) (by rw [ti1]; omega), ti1]
  have e2 : (1 + mm_rem (mm_ushr a7 21) 9 - 1).toInt = (mm_rem (mm_ushr a7 21) 9).toInt := by rw [mm_sub_ti (by rw [ti1]; omega) (by rw [ti1]; omega), ti1, e1]; omega
  obtain ⟨m, hm⟩ : ∃ m : Nat, (mm_rem (mm_ushr a7 21) 9).toInt = m := ⟨(mm_rem (mm_ushr a7 21) 9).toInt.toNat, by omega⟩
  exact stD hb hs hl h66 pa g14 (m := m) (by rw [e1, hm]; omega) (by omega) (by rw [e2, hm]) hr h2
end LR
