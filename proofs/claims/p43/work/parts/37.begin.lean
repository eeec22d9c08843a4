/-! the law's beginning: the lane made, and told alike by both -/
section BG
variable {xs : Nat → Int32} {len : Nat}
/-- what is left behind the stones -/
theorem end_ok (hl : len ≤ 260) {sp : Int32} (hs : 1 ≤ sp.toInt ∧ sp.toInt ≤ 6) {r : Nat → Nat → Int32} {c : Nat → Int32} {q : mm_Q} (h : LZ xs sp r 9 c q) (hr : r 52 0 = sp ∧ r 52 1 = r 0 48 ∧ r 52 2 = r 0 49 ∧ r 52 3 = r 0 50 ∧ r 52 4 = r 0 51 ∧ r 52 5 = r 0 52 ∧ r 52 6 = r 0 53 ∧ r 52 7 = 0) {b9 : Int32} (h9 : 9 ≤ b9) (n : Nat) : ∃ (F : mm_F) (q' : mm_Q), x14_lane_h402 len (n + 1) b9 q = some (1, q') ∧ IL F c sp xs q' := by
  obtain ⟨⟨⟨t0, t1, t2, t3⟩, h8, hc9, -, h28, h10⟩, hb, ⟨g52, g55⟩, h4, h5, -, h7⟩ := h
  have lw : ∀ (F : mm_F) (q' : mm_Q), q'.1 52 = q.1 52 → q'.1 53 = q.1 53 → q'.1 54 = q.1 54 → LF F (q'.1 55) → lwx F c sp q' := by
    intro F q' a b d e
    obtain ⟨x0, x1, x2, x3, x4, x5, x6, x7⟩ := hr
    refine ⟨?_, fun p w hp hw => by rw [b]; exact h4 p w hp hw, fun s hs => by rw [d]; exact h5 s hs, e⟩
    rw [a, g52, h7 48 (by omega) (by omega), h7 49 (by omega) (by omega), h7 50 (by omega) (by omega), h7 51 (by omega) (by omega), h7 52 (by omega) (by omega), h7 53 (by omega) (by omega)]
    exact ⟨x0, x1, x2, x3, x4, x5, x6, x7⟩
  have cel := cell_eq (len := len) hl (xs := xs) (a := 17) (by decide) (q := q) t0
  obtain ⟨v, hv⟩ : ∃ v, CE len xs 17 = v := ⟨_, rfl⟩
  rw [hv] at cel
  by_cases z : v &&& 1 = 0
  · refine ⟨mm_F0, mm_si q 55 0 (-1), ?_, ⟨⟨(mm_si_ne _ _ _ _ (by decide)).trans t0, fun j => by rw [mm_si_ne _ _ _ _ (by decide)]; exact t2 j, fun j => by rw [mm_si_ne _ _ _ _ (by decide)]; exact t3 j⟩, ⟨(mm_si_ne _ _ _ _ (by decide)).trans hc9, by rw [mm_si_ne _ _ _ _ (by decide)]; exact h8, Or.inl ⟨by rw [mm_si_ne _ _ _ _ (by decide)]; exact h10, rfl⟩⟩, ?_⟩⟩
    · rw [x14_lane_h402, if_pos h9, cel, mm_cl_s, mm_lt_s, if_pos z]
    · refine lw _ _ (mm_si_ne _ _ _ _ (by decide)) (mm_si_ne _ _ _ _ (by decide)) (mm_si_ne _ _ _ _ (by decide)) (Or.inl ⟨?_, rfl⟩)
      rw [mm_si_self, upd_self, tin1]
      omega
  · have r1 := rem_rng (a := mm_ushr v 1) (b := 10) (ushr_nn v 1 (by omega) (by omega)) (by decide)
    have r5 := rem_rng (a := mm_ushr v 5) (b := 9) (ushr_nn v 5 (by omega) (by omega)) (by decide)
    have r9 := rem_rng (a := mm_ushr v 9) (b := 10) (ushr_nn v 9 (by omega) (by omega)) (by decide)
    rw [ti10] at r1 r9
    rw [ti9] at r5
    obtain ⟨B0, hB0⟩ : ∃ B0, mm_rem (mm_ushr v 1) 10 = B0 := ⟨_, rfl⟩
    obtain ⟨B1, hB1⟩ : ∃ B1, 1 + mm_rem (mm_ushr v 5) 9 = B1 := ⟨_, rfl⟩
    obtain ⟨B2, hB2⟩ : ∃ B2, mm_rem (mm_ushr v 9) 10 = B2 := ⟨_, rfl⟩
    have b1 : 1 ≤ B1.toInt ∧ B1.toInt ≤ 9 := by
      rw [← hB1, mm_add_ti (by rw [ti1]; omega) (by rw [ti1]; omega), ti1]
      omega
    rw [hB0] at r1
    rw [hB2] at r9
    have dig : ∀ B : Int32, 0 ≤ B.toInt → B.toInt ≤ 9 → (48 ≤ (48 + B).toInt ∧ (48 + B).toInt ≤ 57) ∧ 0 * 10 + (48 + B) - 48 = B := by
      intro B h0 h1
      have e : (48 + B).toInt = 48 + B.toInt := by rw [mm_add_ti (by rw [ti48]; omega) (by rw [ti48]; omega), ti48]
      refine ⟨by omega, ?_⟩
      rw [Int32.zero_mul, Int32.zero_add, eq32, mm_sub_ti (by rw [e, ti48]; omega) (by rw [e, ti48]; omega), e, ti48]
      omega
    have d0 := dig B0 r1.1 (by omega)
    have d1 := dig B1 (by omega) b1.2
    have d2 := dig B2 r9.1 (by omega)
    obtain ⟨qa, hqa⟩ : ∃ qa, mm_si (mm_si (mm_si (mm_si q 55 0 (-1)) 55 0 B0) 55 1 B1) 55 2 B2 = qa := ⟨_, rfl⟩
    have ra : ∀ k, k ≠ 55 → qa.1 k = q.1 k := fun k hk => by rw [← hqa, mm_si_ne _ _ _ _ hk, mm_si_ne _ _ _ _ hk, mm_si_ne _ _ _ _ hk, mm_si_ne _ _ _ _ hk]
    have x0 : qa.1 55 0 = B0 := by rw [← hqa, mm_si_self, upd_ne _ _ _ (by decide), mm_si_self, upd_ne _ _ _ (by decide), mm_si_self, upd_self]
    have x1 : qa.1 55 1 = B1 := by rw [← hqa, mm_si_self, upd_ne _ _ _ (by decide), mm_si_self, upd_self]
    have x2 : qa.1 55 2 = B2 := by rw [← hqa, mm_si_self, upd_self]
    have tp0 : TP [] qa := ⟨by rw [ra 28 (by decide), h28]; rfl, fun j hj => absurd hj (Nat.not_lt_zero j)⟩
    have L : ∀ x : Int32, 0 ≤ x.toInt → x.toInt ≤ 255 → 0 ≤ x.toInt ∧ x.toInt ≤ 255 := fun _ a b => ⟨a, b⟩
    obtain ⟨q1, y1, p1, f1, k1⟩ := three_ok tp0 (by simp) (a := 112) (b := 42) (c := 48 + B0) (by decide) (by decide) (by omega)
    obtain ⟨q2, y2, p2, f2, k2⟩ := three_ok p1 (by simp) (a := 43) (b := 97) (c := 42) (by decide) (by decide) (by decide)
    obtain ⟨q3, y3, p3, f3, k3⟩ := three_ok p2 (by simp) (a := 48 + B1) (b := 45) (c := 122) (by omega) (by decide) (by decide)
    obtain ⟨q4, y4, p4, f4, k4⟩ := three_ok p3 (by simp) (a := 42) (b := 48 + B2) (c := 43) (by decide) (by omega) (by decide)
    obtain ⟨q5, y5, p5, f5, k5⟩ := three_ok p4 (by simp) (a := 119) (b := 42) (c := 57) (by decide) (by decide) (by decide)
    obtain ⟨q6, y6, p6, f6, k6⟩ := three_ok p5 (by simp) (a := 43) (b := 101) (c := 42) (by decide) (by decide) (by decide)
    obtain ⟨q7, y7, p7, f7, k7⟩ := three_ok p6 (by simp) (a := 50) (b := 45) (c := 116) (by decide) (by decide) (by decide)
    obtain ⟨r8, q8, y8, z8, p8, f8, k8⟩ := feed_ok p7 (by simp) (v := 47) (by decide) (by decide)
    obtain ⟨r9', q9, y9, z9, p9, f9, k9⟩ := feed_ok p8 (by simp) (v := 50) (by decide) (by decide)
    have el : (([] ++ [112, 42, 48 + B0] ++ [43, 97, 42] ++ [48 + B1, 45, 122] ++ [42, 48 + B2, 43] ++ [119, 42, 57] ++ [43, 101, 42] ++ [50, 45, 116] ++ [47] ++ [50] : List Int32)) = tb (48 + B0) (48 + B1) (48 + B2) := rfl
    rw [el] at p9
    have f18 : fr [28, 29] qa q9 := fr_trans (fr_trans (fr_trans (fr_trans (fr_trans (fr_trans (fr_trans (fr_trans f1 f2) f3) f4) f5) f6) f7) f8) f9
    have n23 : (q9.1 28 2).toInt = ((23 : Nat) : Int) := p9.1
    obtain ⟨C, hC⟩ := text_ok (ch := chs (q9.1 29) 23) d0.1 d1.1 d2.1 d0.2 d1.2 d2.2 (fun i hi => by
      show (if i < 23 then q9.1 29 i else -1) = _
      rw [if_pos hi]
      exact p9.2 i hi) (by
      show (if 23 < 23 then q9.1 29 23 else -1) = _
      rw [if_neg (by decide)])
    obtain ⟨qz, w1, w2, w3⟩ := law_ok (N := 23) (by decide) n23 hC
    have fz' : ∀ k, k ∉ [28, 29, 30, 11, 10, 55] → qz.1 k = q.1 k := fun k hk => by
      rw [w2.2 k (fun z => hk (by revert z; simp only [List.mem_cons, List.not_mem_nil, or_false]; omega)), f18.2 k (fun z => hk (by revert z; simp only [List.mem_cons, List.not_mem_nil, or_false]; omega)), ra k (fun z => hk (by rw [z]; decide))]
    have z55 : ∀ i, qz.1 55 i = qa.1 55 i := fun i => by rw [w2.2 55 (by decide), f18.2 55 (by decide)]
    refine ⟨FT B0 B1 B2, qz, ?_, ⟨⟨(fz' 0 (by decide)).trans t0, fun j => by rw [fz' 2 (by decide)]; exact t2 j, fun j => by rw [fz' 3 (by decide)]; exact t3 j⟩, ⟨(fz' 9 (by decide)).trans hc9, by rw [fz' 8 (by decide)]; exact h8, w3⟩, ?_⟩⟩
    · have c55 : ∀ (qq : mm_Q) (i : Nat), qq.1 55 = qa.1 55 → qq.1 55 i = qa.1 55 i := fun qq i e => by rw [e]
      have e2 : q2.1 55 = qa.1 55 := by rw [f2.2 55 (by decide), f1.2 55 (by decide)]
      have e3 : q3.1 55 = qa.1 55 := by rw [f3.2 55 (by decide), e2]
      rw [x14_lane_h402, if_pos h9, cel, mm_cl_s, mm_lt_s, if_neg z, hB0, hB1, hB2, mm_lt_s, mm_lt_s, mm_lt_s, hqa, x0, y1, mm_cl_s, if_neg (by decide), y2, mm_cl_s, if_neg (by decide), e2, x1, y3, mm_cl_s, if_neg (by decide), e3, x2, y4, mm_cl_s, if_neg (by decide), y5, mm_cl_s, if_neg (by decide), y6, mm_cl_s, if_neg (by decide), y7, mm_cl_s, if_neg (by decide), y8, mm_cl_s, if_neg (by rw [le32, ti0]; omega), y9, mm_cl_s, if_neg (by rw [le32, ti0]; omega)]
      unfold x14_lane_j684
      rw [if_neg (by decide), w1, mm_cl_s, if_pos rfl]
    · refine lw _ _ (fz' 52 (by decide)) (fz' 53 (by decide)) (fz' 54 (by decide)) (Or.inr ⟨?_, ?_⟩)
      · rw [z55 0, x0]
        exact r1.1
      · rw [z55 0, z55 1, z55 2, x0, x1, x2]
theorem bd0 : bd 0 (f0_c 9) := by
  intro j hj
  obtain ⟨h1, h2⟩ := hj
  have n : ¬ j < 30 := fun z => by
    have := h2 z
    rw [ti0] at this
    omega
  have a : ∀ j, j < 54 → j < 30 ∨ ((mm_t2.getD (mm_wh j) 0).toInt ≤ (f0_c 9 j).toInt ∧ (f0_c 9 j).toInt ≤ (mm_t3.getD (mm_wh j) 0).toInt) := by decide +kernel
  exact (a j h1).resolve_left n
theorem lane_ok (hl : len ≤ 260) : ∃ (F : mm_F) (c : Nat → Int32) (sp : Int32) (q' : mm_Q), x14_lane len 6 (mm_Iz xs, mm_Jz) = some (1, q') ∧ IL F c sp xs q' ∧ bd sp c ∧ 1 ≤ sp.toInt ∧ sp.toInt ≤ 6 := by
  obtain ⟨a0, a1, a2, a3, a8, a9, a31, a28, a10⟩ := f0_at xs
  obtain ⟨w52, w53, w54, w55⟩ := f0_row xs
  obtain ⟨q, hq⟩ : ∃ q : mm_Q, ((mm_Iz xs, mm_Jz) : mm_Q) = q := ⟨_, rfl⟩
  have hI : q.1 = mm_Iz xs := by rw [← hq]
  have L0 : LNS xs 0 (f0_c 9) q := by
    unfold LNS
    rw [hI]
    exact ⟨⟨a0, a1, a2, a3⟩, a8, a9, by rw [a31, ti0]; omega, a28, a10⟩
  rw [hq]
  obtain ⟨c0, hc0⟩ : ∃ c0, CE len xs 0 = c0 := ⟨_, rfl⟩
  obtain ⟨c1, hc1⟩ : ∃ c1, CE len xs 1 = c1 := ⟨_, rfl⟩
  have cel0 := cell_eq (len := len) hl (xs := xs) (a := 0) (by decide) (q := q) L0.1.1
  have cel1 := cell_eq (len := len) hl (xs := xs) (a := 1) (by decide) (q := q) L0.1.1
  rw [hc0] at cel0
  rw [hc1] at cel1
  have rr : ∀ (v b : Int32) (k : Nat), 1 ≤ k → k < 32 → 0 < b.toInt → 0 ≤ (mm_rem (mm_ushr v (Int32.ofNat k)) b).toInt ∧ (mm_rem (mm_ushr v (Int32.ofNat k)) b).toInt < b.toInt := fun v b k h1 h2 h3 => rem_rng (ushr_nn v k h1 h2) h3
  have q1 := rr c0 6 1 (by omega) (by omega) (by decide)
  have q4 := rr c0 19 4 (by omega) (by omega) (by decide)
  have q9 := rr c0 400 9 (by omega) (by omega) (by decide)
  have q18 := rr c0 400 18 (by omega) (by omega) (by decide)
  have p1 := rr c1 21 1 (by omega) (by omega) (by decide)
  have p6 := rr c1 300 6 (by omega) (by omega) (by decide)
  have p15 := rr c1 13 15 (by omega) (by omega) (by decide)
  have t19 : (19 : Int32).toInt = 19 := by decide
  have t400 : (400 : Int32).toInt = 400 := by decide
  have t21 : (21 : Int32).toInt = 21 := by decide
  have t300 : (300 : Int32).toInt = 300 := by decide
  rw [ti6] at q1
  rw [t19] at q4
  rw [t400] at q9 q18
  rw [t21] at p1
  rw [t300] at p6
  rw [ti13] at p15
  obtain ⟨X0, hX0⟩ : ∃ X, 1 + mm_rem (mm_ushr c0 1) 6 = X := ⟨_, rfl⟩
  obtain ⟨X1, hX1⟩ : ∃ X, mm_rem (mm_ushr c0 4) 19 - 9 = X := ⟨_, rfl⟩
  obtain ⟨X2, hX2⟩ : ∃ X, (if c0 &&& 1 = 0 then (999 : Int32) else mm_rem (mm_ushr c0 9) 400) = X := ⟨_, rfl⟩
  obtain ⟨X3, hX3⟩ : ∃ X, mm_rem (mm_ushr c0 18) 400 = X := ⟨_, rfl⟩
  obtain ⟨X4, hX4⟩ : ∃ X, mm_rem (mm_ushr c1 1) 21 = X := ⟨_, rfl⟩
  obtain ⟨X5, hX5⟩ : ∃ X, (if c1 &&& 1 = 0 then (-1 : Int32) else mm_rem (mm_ushr c1 6) 300) = X := ⟨_, rfl⟩
  obtain ⟨X6, hX6⟩ : ∃ X, mm_rem (mm_ushr c1 15) 13 = X := ⟨_, rfl⟩
  have b0 : 1 ≤ X0.toInt ∧ X0.toInt ≤ 6 := by
    have u1 : 0 ≤ (mm_rem (mm_ushr c0 1) 6).toInt := q1.1
    have u2 : (mm_rem (mm_ushr c0 1) 6).toInt < 6 := q1.2
    rw [← hX0, mm_add_ti (by rw [ti1]; omega) (by rw [ti1]; omega), ti1]
    omega
  have b1 : -9 ≤ X1.toInt ∧ X1.toInt ≤ 9 := by
    have u1 : 0 ≤ (mm_rem (mm_ushr c0 4) 19).toInt := q4.1
    have u2 : (mm_rem (mm_ushr c0 4) 19).toInt < 19 := q4.2
    rw [← hX1, mm_sub_ti (by rw [ti9]; omega) (by rw [ti9]; omega), ti9]
    omega
  have b2 : 0 ≤ X2.toInt ∧ X2.toInt ≤ 999 := by
    have u1 : 0 ≤ (mm_rem (mm_ushr c0 9) 400).toInt := q9.1
    have u2 : (mm_rem (mm_ushr c0 9) 400).toInt < 400 := q9.2
    rw [← hX2]
    by_cases z : c0 &&& 1 = 0
    · rw [if_pos z, ti999]; omega
    · rw [if_neg z]; omega
  have b3 : 0 ≤ X3.toInt ∧ X3.toInt ≤ 999 := by
    have u1 : 0 ≤ (mm_rem (mm_ushr c0 18) 400).toInt := q18.1
    have u2 : (mm_rem (mm_ushr c0 18) 400).toInt < 400 := q18.2
    rw [← hX3]; omega
  have b4 : 0 ≤ X4.toInt ∧ X4.toInt ≤ 20 := by
    have u1 : 0 ≤ (mm_rem (mm_ushr c1 1) 21).toInt := p1.1
    have u2 : (mm_rem (mm_ushr c1 1) 21).toInt < 21 := p1.2
    rw [← hX4]; omega
  have b5 : -1 ≤ X5.toInt ∧ X5.toInt ≤ 999 := by
    have u1 : 0 ≤ (mm_rem (mm_ushr c1 6) 300).toInt := p6.1
    have u2 : (mm_rem (mm_ushr c1 6) 300).toInt < 300 := p6.2
    rw [← hX5]
    by_cases z : c1 &&& 1 = 0
    · rw [if_pos z, tin1]; omega
    · rw [if_neg z]; omega
  have b6 : 0 ≤ X6.toInt ∧ X6.toInt ≤ 12 := by
    have u1 : 0 ≤ (mm_rem (mm_ushr c1 15) 13).toInt := p15.1
    have u2 : (mm_rem (mm_ushr c1 15) 13).toInt < 13 := p15.2
    rw [← hX6]; omega
  -- the row of the lane
  obtain ⟨qa, hqa⟩ : ∃ qa, mm_si (mm_si (mm_si (mm_si (mm_si (mm_si (mm_si q 52 0 X0) 52 1 X1) 52 2 X2) 52 3 X3) 52 4 X4) 52 5 X5) 52 6 X6 = qa := ⟨_, rfl⟩
  have la : LNS xs 0 (f0_c 9) qa := by
    rw [← hqa]
    exact LS_si (LS_si (LS_si (LS_si (LS_si (LS_si (LS_si L0 (by decide) _ _) (by decide) _ _) (by decide) _ _) (by decide) _ _) (by decide) _ _) (by decide) _ _) (by decide) _ _
  have r52 : qa.1 52 = upd (upd (upd (upd (upd (upd (upd (fun _ => 0) 0 X0) 1 X1) 2 X2) 3 X3) 4 X4) 5 X5) 6 X6 := by
    rw [← hqa, mm_si_self, mm_si_self, mm_si_self, mm_si_self, mm_si_self, mm_si_self, mm_si_self, hI, w52]
  have g0 : qa.1 52 0 = X0 := by rw [r52]; rfl
  have g1 : qa.1 52 1 = X1 := by rw [r52]; rfl
  have g2 : qa.1 52 2 = X2 := by rw [r52]; rfl
  have g3 : qa.1 52 3 = X3 := by rw [r52]; rfl
  have g4 : qa.1 52 4 = X4 := by rw [r52]; rfl
  have g5 : qa.1 52 5 = X5 := by rw [r52]; rfl
  have g6 : qa.1 52 6 = X6 := by rw [r52]; rfl
  have g7 : qa.1 52 7 = 0 := by rw [r52]; rfl
  -- to the mends
  have j63 : ∀ q7 : mm_Q, x14_lane_j63 len c0 c1 2 X2 q7 = x14_lane_j108 len c1 5 X5 (mm_si (mm_si (mm_si q7 52 2 X2) 52 3 X3) 52 4 X4) := by
    intro q7
    unfold x14_lane_j63
    rw [mm_ck_t (by decide), mm_lt_s, mm_lt_s, mm_lt_s, show (2 : Int32).toNatClampNeg = 2 from rfl, hX3, hX4]
    by_cases z : c1 &&& 1 = 0
    · rw [if_pos z] at hX5 ⊢
      rw [← hX5]
    · rw [if_neg z] at hX5 ⊢
      rw [hX5]
  have start : x14_lane len 6 q = x14_lane_j108 len c1 5 X5 (mm_si (mm_si (mm_si (mm_si (mm_si q 52 0 X0) 52 1 X1) 52 2 X2) 52 3 X3) 52 4 X4) := by
    unfold x14_lane
    rw [cel0, mm_cl_s, cel1, mm_cl_s, mm_ck_t (by decide), mm_lt_s, mm_lt_s, hX0, hX1]
    by_cases z : c0 &&& 1 = 0
    · rw [if_pos z] at hX2 ⊢
      rw [hX2, j63]
    · rw [if_neg z] at hX2 ⊢
      rw [hX2, j63]
  have f9 := f0_9
  have wl : ∀ k, 48 ≤ k → k < 54 → mm_wh k = k - 41 := fun k h1 h2 => by
    unfold mm_wh
    rw [if_neg (by omega), if_neg (by omega), if_neg (by omega)]
  obtain ⟨m1, y1, l1, e1⟩ := LS_mend la (v0 := 0) (v1 := 7) (v2 := X1) (k := 48) (w := 7) (by rw [pl_l (by decide)]; decide) (by decide) (by decide) (by decide) (by rw [show (mm_t2.getD 7 0).toInt = -9 from by decide, show (mm_t3.getD 7 0).toInt = 9 from by decide]; exact b1)
  obtain ⟨m2, y2, l2, e2⟩ := LS_mend l1 (v0 := 0) (v1 := 8) (v2 := X2) (k := 49) (w := 8) (by rw [pl_l (by decide)]; decide) (by decide) (by decide) (by decide) (by rw [show (mm_t2.getD 8 0).toInt = 0 from by decide, show (mm_t3.getD 8 0).toInt = 999 from by decide]; exact b2)
  obtain ⟨m3, y3, l3, e3⟩ := LS_mend l2 (v0 := 0) (v1 := 9) (v2 := X3) (k := 50) (w := 9) (by rw [pl_l (by decide)]; decide) (by decide) (by decide) (by decide) (by rw [show (mm_t2.getD 9 0).toInt = 0 from by decide, show (mm_t3.getD 9 0).toInt = 999 from by decide]; exact b3)
  obtain ⟨m4, y4, l4, e4⟩ := LS_mend l3 (v0 := 0) (v1 := 10) (v2 := X4) (k := 51) (w := 10) (by rw [pl_l (by decide)]; decide) (by decide) (by decide) (by decide) (by rw [show (mm_t2.getD 10 0).toInt = 0 from by decide, show (mm_t3.getD 10 0).toInt = 20 from by decide]; exact b4)
  obtain ⟨m5, y5, l5, e5⟩ := LS_mend l4 (v0 := 0) (v1 := 11) (v2 := X5) (k := 52) (w := 11) (by rw [pl_l (by decide)]; decide) (by decide) (by decide) (by decide) (by rw [show (mm_t2.getD 11 0).toInt = -1 from by decide, show (mm_t3.getD 11 0).toInt = 999 from by decide]; exact b5)
  obtain ⟨m6, y6, l6, e6⟩ := LS_mend l5 (v0 := 0) (v1 := 12) (v2 := X6) (k := 53) (w := 12) (by rw [pl_l (by decide)]; decide) (by decide) (by decide) (by decide) (by rw [show (mm_t2.getD 12 0).toInt = 0 from by decide, show (mm_t3.getD 12 0).toInt = 12 from by decide]; exact b6)
  obtain ⟨d, hd⟩ : ∃ d, upd (upd (upd (upd (upd (upd (f0_c 9) 48 X1) 49 X2) 50 X3) 51 X4) 52 X5) 53 X6 = d := ⟨_, rfl⟩
  have bdd : bd 0 d := by
    rw [← hd]
    exact bd_set (bd_set (bd_set (bd_set (bd_set (bd_set bd0 (okc_of (wl 48 (by decide) (by decide)) (by rw [show (mm_t2.getD (48 - 41) 0).toInt = -9 from by decide, show (mm_t3.getD (48 - 41) 0).toInt = 9 from by decide]; exact b1))) (okc_of (wl 49 (by decide) (by decide)) (by rw [show (mm_t2.getD (49 - 41) 0).toInt = 0 from by decide, show (mm_t3.getD (49 - 41) 0).toInt = 999 from by decide]; exact b2))) (okc_of (wl 50 (by decide) (by decide)) (by rw [show (mm_t2.getD (50 - 41) 0).toInt = 0 from by decide, show (mm_t3.getD (50 - 41) 0).toInt = 999 from by decide]; exact b3))) (okc_of (wl 51 (by decide) (by decide)) (by rw [show (mm_t2.getD (51 - 41) 0).toInt = 0 from by decide, show (mm_t3.getD (51 - 41) 0).toInt = 20 from by decide]; exact b4))) (okc_of (wl 52 (by decide) (by decide)) (by rw [show (mm_t2.getD (52 - 41) 0).toInt = -1 from by decide, show (mm_t3.getD (52 - 41) 0).toInt = 999 from by decide]; exact b5))) (okc_of (wl 53 (by decide) (by decide)) (by rw [show (mm_t2.getD (53 - 41) 0).toInt = 0 from by decide, show (mm_t3.getD (53 - 41) 0).toInt = 12 from by decide]; exact b6))
  have d48 : d 48 = X1 ∧ d 49 = X2 ∧ d 50 = X3 ∧ d 51 = X4 ∧ d 52 = X5 ∧ d 53 = X6 := by
    rw [← hd]
    exact ⟨rfl, rfl, rfl, rfl, rfl, rfl⟩
  have dlo : ∀ j, j < 48 → d j = f0_c 9 j := fun j hj => by
    rw [← hd, upd_ne _ _ _ (by omega), upd_ne _ _ _ (by omega), upd_ne _ _ _ (by omega), upd_ne _ _ _ (by omega), upd_ne _ _ _ (by omega), upd_ne _ _ _ (by omega)]
  rw [hd] at l6
  have z48 : f0_c 9 48 = 0 := (f9 48 (by decide)).trans rfl
  have z49 : upd (f0_c 9) 48 X1 49 = 999 := ((upd_ne _ _ _ (by decide)).trans (f9 49 (by decide))).trans rfl
  have z50 : upd (upd (f0_c 9) 48 X1) 49 X2 50 = 400 := (((upd_ne _ _ _ (by decide)).trans (upd_ne _ _ _ (by decide))).trans (f9 50 (by decide))).trans rfl
  have z51 : upd (upd (upd (f0_c 9) 48 X1) 49 X2) 50 X3 51 = 5 := ((((upd_ne _ _ _ (by decide)).trans (upd_ne _ _ _ (by decide))).trans (upd_ne _ _ _ (by decide))).trans (f9 51 (by decide))).trans rfl
  have z52 : upd (upd (upd (upd (f0_c 9) 48 X1) 49 X2) 50 X3) 51 X4 52 = -1 := (((((upd_ne _ _ _ (by decide)).trans (upd_ne _ _ _ (by decide))).trans (upd_ne _ _ _ (by decide))).trans (upd_ne _ _ _ (by decide))).trans (f9 52 (by decide))).trans rfl
  have z53 : upd (upd (upd (upd (upd (f0_c 9) 48 X1) 49 X2) 50 X3) 51 X4) 52 X5 53 = 0 := ((((((upd_ne _ _ _ (by decide)).trans (upd_ne _ _ _ (by decide))).trans (upd_ne _ _ _ (by decide))).trans (upd_ne _ _ _ (by decide))).trans (upd_ne _ _ _ (by decide))).trans (f9 53 (by decide))).trans rfl
  rw [z48] at y1
  rw [z49] at y2
  rw [z50] at y3
  rw [z51] at y4
  rw [z52] at y5
  rw [z53] at y6
  have s1 : ∀ k, 52 ≤ k → m1.1 k = qa.1 k := e1
  have s2 : ∀ k, 52 ≤ k → m2.1 k = qa.1 k := fun k hk => (e2 k hk).trans (s1 k hk)
  have s3 : ∀ k, 52 ≤ k → m3.1 k = qa.1 k := fun k hk => (e3 k hk).trans (s2 k hk)
  have s4 : ∀ k, 52 ≤ k → m4.1 k = qa.1 k := fun k hk => (e4 k hk).trans (s3 k hk)
  have s5 : ∀ k, 52 ≤ k → m5.1 k = qa.1 k := fun k hk => (e5 k hk).trans (s4 k hk)
  have s6 : ∀ k, 52 ≤ k → m6.1 k = qa.1 k := fun k hk => (e6 k hk).trans (s5 k hk)
  have j108 : x14_lane_j108 len c1 5 X5 (mm_si (mm_si (mm_si (mm_si (mm_si q 52 0 X0) 52 1 X1) 52 2 X2) 52 3 X3) 52 4 X4) = x14_lane_h213 len mm_fu 0 m6 := by
    unfold x14_lane_j108
    rw [mm_ck_t (by decide), mm_lt_s, mm_lt_s, show (5 : Int32).toNatClampNeg = 5 from rfl, hX6, hqa, g1, y1, mm_cl_s, if_pos rfl, s1 52 (by decide), g2, y2, mm_cl_s, if_pos rfl, s2 52 (by decide), g3, y3, mm_cl_s, if_pos rfl, s3 52 (by decide), g4, y4, mm_cl_s, if_pos rfl, s4 52 (by decide), g5, y5, mm_cl_s, if_pos rfl, s5 52 (by decide), g6, y6, mm_cl_s, if_pos rfl]
  -- the spitters
  have li : LI xs d (fun k => qa.1 k) 0 d m6 := ⟨l6, bdd, ⟨s6 52 (by decide), s6 54 (by decide), s6 55 (by decide)⟩, fun p w hp _ => absurd hp (Nat.not_lt_zero p), fun _ _ _ => rfl⟩
  obtain ⟨m, hm⟩ : ∃ m : Nat, X0.toInt = m := ⟨X0.toInt.toNat, by omega⟩
  obtain ⟨c', qs, N, n0, n1, n2⟩ := spit_h (len := len) hl (f := 999 - m) m 0 d 0 m6 li ti0 (by show ((0 : Nat) : Int) + m = (qa.1 52 0).toInt; rw [g0]; omega) (by show (qa.1 52 0).toInt ≤ 6; rw [g0]; omega)
  have eN : X0.toInt = N := by
    have : (qa.1 52 0).toInt = N := n0
    rw [g0] at this
    exact this
  have spN : Int32.ofNat N = X0 := (mm_ofn eN).symm
  obtain ⟨u1, u2, ⟨u3, -, u5⟩, u6, u7⟩ := n2
  rw [spN] at u1 u2
  -- the stones
  have lz : LZ xs X0 (fun k => if k = 0 then d else qa.1 k) 0 c' qs := by
    refine ⟨u1, u2, ⟨u3, u5⟩, fun p w hp hw => u6 p w (by omega) hw, fun s hs => absurd hs (Nat.not_lt_zero s), fun s _ hs9 => ⟨?_, ?_⟩, fun j hj hj2 => u7 j (by omega) hj2⟩
    · rw [u7 (30 + s) (by omega) (by omega), dlo (30 + s) (by omega), f9 (30 + s) (by omega), if_neg (by omega), if_pos (by omega)]
    · rw [u7 (39 + s) (by omega) (by omega), dlo (39 + s) (by omega), f9 (39 + s) (by omega), if_neg (by omega), if_neg (by omega), if_pos (by omega)]
  obtain ⟨c2, qt, b9, v0, v1, v2⟩ := stone_l (len := len) hl (by omega) (f := 990) 9 0 c' 0 qs lz ti0 (by omega)
  have hr2 : (fun k => if k = 0 then d else qa.1 k) 52 0 = X0 := g0
  obtain ⟨F, qz, x1, x2⟩ := end_ok (len := len) hl (sp := X0) ⟨b0.1, b0.2⟩ v2 ⟨g0, g1.trans d48.1.symm, g2.trans d48.2.1.symm, g3.trans d48.2.2.1.symm, g4.trans d48.2.2.2.1.symm, g5.trans d48.2.2.2.2.1.symm, g6.trans d48.2.2.2.2.2.symm, g7⟩ v0 990
  refine ⟨F, c2, X0, qz, ?_, x2, v2.2.1, b0.1, b0.2⟩
  rw [start, j108, show mm_fu = 999 - m + m + 1 by show 1000 = _; omega, n1, show mm_fu = 990 + 9 + 1 from rfl, v1]
  exact x1
end BG
