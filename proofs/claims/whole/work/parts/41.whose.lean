/-! whose steps -/
theorem inSteps_eq {sp : Int32} {c : Nat → Int32} (hb : bd sp c) {q : mm_Q} {a1 x : Int32} {p : Nat} (hc : q.1 9 = c) (h8 : q.1 8 1 = sp) (hs : sp.toInt ≤ 6) (hp : a1.toInt = p) (hps : (p : Int) < sp.toInt) : x6_inSteps a1 x q = some (x / c (24 + p), q) ∧ mm_nz (c (24 + p)) = true := by
  have b := bd_sp hb (w := 4) hps hs (by decide) (a := 1) (b := 20) (by decide) (by decide)
  have nz : ¬ c (24 + p) = 0 := by
    rw [eq32, ti0]
    rw [show 6 * 4 + p = 24 + p by omega] at b
    omega
  have z : mm_nz (c (24 + p)) = true := by
    unfold mm_nz
    rw [decide_eq_false nz]
    rfl
  refine ⟨?_, z⟩
  unfold x6_inSteps
  rw [y_told (j := 24 + p) (by rw [h8, pl_sp hs hp hps (w := 4) (by decide) (by decide)]) (by omega), mm_cl_s, hc, if_neg nz, mm_ck_t z]
theorem whose_h {sp : Int32} {c : Nat → Int32} (hb : bd sp c) (hs : sp.toInt ≤ 6) (x n : Int32) {q : mm_Q} (hc : q.1 9 = c) (h8 : q.1 8 1 = sp) (hc2 : ∀ j, j < 54 → q.1 53 j = c j) (h6 : q.1 52 6 = sp) {f : Nat} : ∀ (m i : Nat) (a3 a4 : Int32), a4.toInt = i → (i : Int) + m = sp.toInt → ∃ r, x6_bitsOfSteppers_h5 (f + m + 1) x n a3 a4 q = some (r, q) ∧ x12_whose_h31 (f + m + 1) x n a3 a4 q = some (r, q) := by
  intro m
  induction m with
  | zero =>
    intro i a3 a4 h1 h2
    refine ⟨a3, ?_, ?_⟩
    · rw [x6_bitsOfSteppers_h5]
      unfold x4_size
      rw [mm_cl_s, h8, if_pos (by rw [le32]; omega)]
    · rw [x12_whose_h31, h6, if_pos (by rw [le32]; omega)]
  | succ m ih =>
    intro i a3 a4 h1 h2
    obtain ⟨e1, e2⟩ := inSteps_eq hb (x := x) hc h8 hs h1 (by omega)
    have e3 := ofSpitter_eq (q := q) (a2 := 4) h1 (by omega) (w := 4) (by decide) (by decide)
    rw [show 6 * 4 + i = 24 + i by omega, hc2 (24 + i) (by omega)] at e3
    by_cases z : x / c (24 + i) = n
    · obtain ⟨r, y1, y2⟩ := ih (i + 1) (a3 ||| ((1 : Int32) <<< (a4 &&& 31))) (a4 + 1) (mm_inc1 h1 (by omega)) (by omega)
      refine ⟨r, ?_, ?_⟩
      · rw [show f + (m + 1) + 1 = (f + m + 1) + 1 by omega, x6_bitsOfSteppers_h5]
        unfold x4_size
        rw [mm_cl_s, h8, if_neg (by rw [le32]; omega), e1, mm_cl_s, if_pos z]
        exact y1
      · rw [show f + (m + 1) + 1 = (f + m + 1) + 1 by omega, x12_whose_h31, h6, if_neg (by rw [le32]; omega), e3, mm_cl_s, mm_ck_t e2, if_pos z]
        exact y2
    · obtain ⟨r, y1, y2⟩ := ih (i + 1) a3 (a4 + 1) (mm_inc1 h1 (by omega)) (by omega)
      refine ⟨r, ?_, ?_⟩
      · rw [show f + (m + 1) + 1 = (f + m + 1) + 1 by omega, x6_bitsOfSteppers_h5]
        unfold x4_size
        rw [mm_cl_s, h8, if_neg (by rw [le32]; omega), e1, mm_cl_s, if_neg z]
        exact y1
      · rw [show f + (m + 1) + 1 = (f + m + 1) + 1 by omega, x12_whose_h31, h6, if_neg (by rw [le32]; omega), e3, mm_cl_s, mm_ck_t e2, if_neg z]
        unfold x12_whose_j62
        rw [Int32.or_zero]
        exact y2
theorem pr_whose (v0 v1 : Int32) : mm_pr (mm_Iv mm_LX) (x11_whose v0 v1) (x12_whose v0 v1) := by
  intro q h
  obtain ⟨F, hw, hb, ⟨hs0, hs6⟩, e6, hx, hd⟩ := mm_think h
  by_cases g : 0 ≤ v0.toInt ∧ v0.toInt ≤ 999 ∧ 0 ≤ v1.toInt ∧ v1.toInt ≤ 999
  · obtain ⟨m, hm⟩ : ∃ m : Nat, (q.1 8 1).toInt = m := ⟨(q.1 8 1).toInt.toNat, by omega⟩
    obtain ⟨r, y1, y2⟩ := whose_h hb hs6 v0 v1 (q := q) rfl rfl (hx q (fk_rfl q)).1 e6 (f := 999 - m) m 0 0 0 ti0 (by omega)
    have fu : 999 - m + m + 1 = mm_fu := by show _ = 1000; omega
    rw [fu] at y1 y2
    refine ⟨r, q, q, ?_, rfl, ?_, h⟩
    · unfold x11_whose x6_bitsOfSteppers
      rw [if_neg (by rw [lt32, ti0]; omega), if_neg (by rw [lt32, ti999]; omega), if_neg (by rw [lt32, ti0]; omega), if_pos (by rw [le32, ti999]; omega), y1, mm_cl_s]
    · unfold x12_whose
      rw [within_eq, mm_cl_s, mm_i64, tl0, tl999, if_neg (by rw [mm_p0]; omega), within_eq, mm_cl_s, mm_i64, tl0, tl999, if_neg (by rw [mm_p0]; omega)]
      exact y2
  · refine ⟨-1, q, q, ?_, rfl, ?_, h⟩
    · unfold x11_whose
      simp only [lt32, le32, ti0, ti999]
      repeat' split
      all_goals first | rfl | (exfalso; omega)
    · unfold x12_whose
      simp only [within_eq, mm_cl_s, mm_p0, mm_i64, tl0, tl999]
      repeat' split
      all_goals first | rfl | (exfalso; omega)
