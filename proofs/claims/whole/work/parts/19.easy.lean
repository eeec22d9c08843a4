/-! pairs that need no landing -/
theorem mm_upd_eq (f : Nat → Int32) (k : Nat) (x : Int32) : upd f k x k = x := if_pos rfl
theorem mm_upd_ne (f : Nat → Int32) {k j : Nat} (x : Int32) (h : j ≠ k) : upd f k x j = f j := if_neg h
section IV
variable {LR : mm_LR}
theorem pr_feed (v0 : Int32) : mm_pr (mm_Iv LR) (x11_feed v0) (x12_feed v0) := by
  intro q h
  obtain ⟨h1, h2, h3, h4, h5, h6, h7, h8, h9, h10⟩ := h
  obtain ⟨t1, t2, t3⟩ := h4
  by_cases c1 : 0 ≤ v0.toInt ∧ v0.toInt ≤ 255
  · by_cases c2 : (q.1 28 2).toInt < 120
    · have hn : (q.1 28 2).toInt = ((q.1 28 2).toInt.toNat : Nat) := by omega
      have e1 : (q.1 28 2 + 1).toInt = (q.1 28 2).toInt + 1 := by rw [mm_add_ti (by rw [ti1]; omega) (by rw [ti1]; omega), ti1]
      have hin : mm_inb (q.1 28 2) 120 = true := mm_inb_c hn (by omega)
      refine ⟨q.1 28 2 + 1, mm_si (mm_si q 29 (q.1 28 2).toNatClampNeg v0) 28 2 (q.1 28 2 + 1), mm_si (mm_si (mm_si (mm_si q 29 (q.1 28 2).toNatClampNeg v0) 28 2 (q.1 28 2 + 1)) 57 (q.1 28 2).toNatClampNeg v0) 52 8 (q.1 28 2 + 1), ?_, rfl, ?_, h1, h2, h3, ?_, h5, h6, h7, h8, h9, h10⟩
      · unfold x11_feed x9_isFull x9_append
        rw [if_neg (by rw [lt32, ti0]; omega), if_pos (by rw [le32, ti255]; omega), if_pos (by rw [lt32, ti120]; omega), mm_cl_s, if_pos rfl, if_neg (by rw [lt32, ti0]; omega), if_neg (by rw [le32, ti120]; omega), mm_ck_t hin]
        rfl
      · unfold x12_feed
        rw [within_eq, mm_cl_s, if_neg (by rw [mm_p0, mm_i64, tl0, tl255]; omega)]
        have z : (mm_si (mm_si q 29 (q.1 28 2).toNatClampNeg v0) 28 2 (q.1 28 2 + 1)).1 52 8 = q.1 28 2 := t2
        rw [z, if_neg (by rw [eq32, ti120]; omega), mm_ck_t hin]
        show some ((mm_si (mm_si (mm_si q 29 (q.1 28 2).toNatClampNeg v0) 28 2 (q.1 28 2 + 1)) 57 (q.1 28 2).toNatClampNeg v0).1 52 8 + 1, mm_si (mm_si (mm_si (mm_si q 29 (q.1 28 2).toNatClampNeg v0) 28 2 (q.1 28 2 + 1)) 57 (q.1 28 2).toNatClampNeg v0) 52 8 ((mm_si (mm_si (mm_si q 29 (q.1 28 2).toNatClampNeg v0) 28 2 (q.1 28 2 + 1)) 57 (q.1 28 2).toNatClampNeg v0).1 52 8 + 1)) = _
        rw [show (mm_si (mm_si (mm_si q 29 (q.1 28 2).toNatClampNeg v0) 28 2 (q.1 28 2 + 1)) 57 (q.1 28 2).toNatClampNeg v0).1 52 8 = q.1 28 2 from t2]
      · refine ⟨⟨?_, ?_⟩, rfl, ?_⟩
        · show 0 ≤ (q.1 28 2 + 1).toInt
          omega
        · show (q.1 28 2 + 1).toInt ≤ 120
          omega
        · intro j hj
          show upd (q.1 57) (q.1 28 2).toNatClampNeg v0 j = upd (q.1 29) (q.1 28 2).toNatClampNeg v0 j ∧ 0 ≤ (upd (q.1 29) (q.1 28 2).toNatClampNeg v0 j).toInt ∧ (upd (q.1 29) (q.1 28 2).toNatClampNeg v0 j).toInt ≤ 255
          unfold upd
          by_cases z : j = (q.1 28 2).toNatClampNeg
          · rw [if_pos z, if_pos z]; exact ⟨rfl, c1⟩
          · rw [if_neg z, if_neg z]; exact t3 j hj
    · refine ⟨-3, q, q, ?_, rfl, ?_, h1, h2, h3, ⟨t1, t2, t3⟩, h5, h6, h7, h8, h9, h10⟩
      · unfold x11_feed x9_isFull
        rw [if_neg (by rw [lt32, ti0]; omega), if_pos (by rw [le32, ti255]; omega), if_neg (by rw [lt32, ti120]; omega), mm_cl_s, if_neg (by decide)]
      · unfold x12_feed
        rw [within_eq, mm_cl_s, if_neg (by rw [mm_p0, mm_i64, tl0, tl255]; omega), t2, if_pos (by rw [eq32, ti120]; omega)]
  · refine ⟨-1, q, q, ?_, rfl, ?_, h1, h2, h3, ⟨t1, t2, t3⟩, h5, h6, h7, h8, h9, h10⟩
    · unfold x11_feed
      simp only [lt32, le32, ti0, ti255]
      repeat' split
      all_goals first | rfl | (exfalso; omega)
    · unfold x12_feed
      rw [within_eq, mm_cl_s, if_pos (by rw [mm_p0, mm_i64, tl0, tl255]; omega)]
theorem pr_trace (v0 : Int32) : mm_pr (mm_Iv LR) (x11_trace v0) (x12_trace v0) := by
  intro q h
  have h7 := h.2.2.2.2.2.2.1
  have e2 := h7.2.1.2
  by_cases c : 0 ≤ v0.toInt ∧ v0.toInt < (q.1 49 3).toInt ∧ v0.toInt < 24
  · have hn : v0.toInt = (v0.toInt.toNat : Nat) := by omega
    refine ⟨q.1 51 v0.toNatClampNeg, q, q, ?_, rfl, ?_, h⟩
    · unfold x11_trace x0_tracedAt
      rw [if_neg (by rw [lt32, ti0]; omega), if_neg (by rw [le32]; omega), if_neg (by rw [le32, ti24]; omega), mm_ck_t (mm_inb_c hn (by omega))]
      rfl
    · unfold x12_trace
      rw [e2, if_neg (by rw [lt32, ti0]; omega), if_neg (by rw [le32]; omega), if_neg (by rw [le32, ti24]; omega), mm_ck_t (mm_inb_c hn (by omega)), h7.2.2.2 _ (by rw [mm_tcn hn]; omega)]
  · refine ⟨-1, q, q, ?_, rfl, ?_, h⟩
    · unfold x11_trace x0_tracedAt
      simp only [lt32, le32, ti0, ti24]
      repeat' split
      all_goals first | rfl | (exfalso; omega)
    · unfold x12_trace
      rw [e2]
      simp only [lt32, le32, ti0, ti24]
      repeat' split
      all_goals first | rfl | (exfalso; omega)
theorem pr_body (v0 : Int32) : mm_pr (mm_Iv LR) (x11_body v0) (x12_body v0) := by
  intro q h
  obtain ⟨h1, h2, h3, h4, h5, h6, h7, h8, h9, h10⟩ := h
  obtain ⟨⟨t1, t2⟩, t3, t4, t5⟩ := h7
  have kd : x0_isKind v0 q = some (mm_p (0 ≤ v0.toInt ∧ v0.toInt ≤ 7), q) := by
    unfold x0_isKind mm_p
    simp only [lt32, le32, ti0, ti8]
    repeat' split
    all_goals first | rfl | (exfalso; omega)
  by_cases c1 : 0 ≤ v0.toInt ∧ v0.toInt ≤ 7
  · by_cases c2 : (q.1 49 2).toInt < 50
    · have hn : (q.1 49 2).toInt = ((q.1 49 2).toInt.toNat : Nat) := by omega
      have e1 : (q.1 49 2 + 1).toInt = (q.1 49 2).toInt + 1 := by rw [mm_add_ti (by rw [ti1]; omega) (by rw [ti1]; omega), ti1]
      have e3 : q.1 49 2 + 1 - 1 = q.1 49 2 := by rw [eq32, mm_sub_ti (by rw [ti1]; omega) (by rw [ti1]; omega), ti1]; omega
      have hin : mm_inb (q.1 49 2) 50 = true := mm_inb_c hn (by omega)
      refine ⟨q.1 49 2, mm_si (mm_si q 50 (q.1 49 2).toNatClampNeg v0) 49 2 (q.1 49 2 + 1), mm_si (mm_si (mm_si (mm_si q 50 (q.1 49 2).toNatClampNeg v0) 49 2 (q.1 49 2 + 1)) 69 (q.1 49 2).toNatClampNeg v0) 52 38 (q.1 49 2 + 1), ?_, rfl, ?_, h1, h2, h3, h4, h5, h6, ?_, ?_, h9, h10⟩
      · unfold x11_body x0_isFull x0_store
        rw [kd, mm_cl_s, if_neg (by rw [mm_p0]; omega), if_pos (by rw [lt32, ti50]; omega), mm_cl_s, if_pos rfl, if_neg (by rw [lt32, ti0]; omega), if_neg (by rw [le32, ti50]; omega), mm_ck_t hin]
        rfl
      · unfold x12_body
        rw [within_eq, mm_cl_s, if_neg (by rw [mm_p0, mm_i64, tl0, tl7]; omega)]
        have z : (mm_si (mm_si q 50 (q.1 49 2).toNatClampNeg v0) 49 2 (q.1 49 2 + 1)).1 52 38 = q.1 49 2 := t2
        rw [z, if_neg (by rw [eq32, ti50]; omega), mm_ck_t hin]
        rw [mm_lt_s, mm_lt_s]
        have z2 : (mm_si (mm_si (mm_si q 50 (q.1 49 2).toNatClampNeg v0) 49 2 (q.1 49 2 + 1)) 69 (q.1 49 2).toNatClampNeg v0).1 52 38 = q.1 49 2 := t2
        rw [z2]
        show some (q.1 49 2 + 1 - 1, _) = _
        rw [e3]
      · refine ⟨⟨⟨?_, ?_⟩, rfl⟩, t3, ?_, t5⟩
        · show 0 ≤ (q.1 49 2 + 1).toInt
          omega
        · show (q.1 49 2 + 1).toInt ≤ 50
          omega
        · intro j hj
          show upd (q.1 69) (q.1 49 2).toNatClampNeg v0 j = upd (q.1 50) (q.1 49 2).toNatClampNeg v0 j ∧ 0 ≤ (upd (q.1 50) (q.1 49 2).toNatClampNeg v0 j).toInt ∧ (upd (q.1 50) (q.1 49 2).toNatClampNeg v0 j).toInt ≤ 7
          unfold upd
          by_cases z : j = (q.1 49 2).toNatClampNeg
          · rw [if_pos z, if_pos z]; exact ⟨rfl, c1⟩
          · rw [if_neg z, if_neg z]; exact t4 j hj
      · have up : ∀ (d : Nat) (ch : Nat → Int32) (eh : Nat → Int64) (c71 c72 : Nat → Int32) (d73 : Nat → Int64), mm_she (q.1 49 2) d ch eh c71 c72 d73 → mm_she (q.1 49 2 + 1) d ch eh c71 c72 d73 := by
          intro d ch eh c71 c72 d73 hh
          rcases hh with a | ⟨a, b, c, d⟩ | a
          · exact Or.inl a
          · exact Or.inr (Or.inl ⟨a, b, ⟨c.1, by omega⟩, d⟩)
          · exact Or.inr (Or.inr a)
        obtain ⟨s0, s1, s2, s3, s4, s5⟩ := h8
        exact ⟨up _ _ _ _ _ _ s0, up _ _ _ _ _ _ s1, up _ _ _ _ _ _ s2, up _ _ _ _ _ _ s3, up _ _ _ _ _ _ s4, up _ _ _ _ _ _ s5⟩
    · refine ⟨-3, q, q, ?_, rfl, ?_, h1, h2, h3, h4, h5, h6, ⟨⟨t1, t2⟩, t3, t4, t5⟩, h8, h9, h10⟩
      · unfold x11_body x0_isFull
        rw [kd, mm_cl_s, if_neg (by rw [mm_p0]; omega), if_neg (by rw [lt32, ti50]; omega), mm_cl_s, if_neg (by decide)]
      · unfold x12_body
        rw [within_eq, mm_cl_s, if_neg (by rw [mm_p0, mm_i64, tl0, tl7]; omega), t2, if_pos (by rw [eq32, ti50]; omega)]
  · refine ⟨-1, q, q, ?_, rfl, ?_, h1, h2, h3, h4, h5, h6, ⟨⟨t1, t2⟩, t3, t4, t5⟩, h8, h9, h10⟩
    · unfold x11_body
      rw [kd, mm_cl_s, if_pos (by rw [mm_p0]; omega)]
    · unfold x12_body
      rw [within_eq, mm_cl_s, if_pos (by rw [mm_p0, mm_i64, tl0, tl7]; omega)]
/-- a spitter's number what, on both sides -/
theorem mm_spc {sp p k : Int32} (hs : sp.toInt ≤ 6) (hp : 0 ≤ p.toInt ∧ p.toInt < sp.toInt) (hk : 0 ≤ k.toInt ∧ k.toInt ≤ 4) : (mm_pl sp p k).toInt = ((6 * k.toInt + p.toInt).toNat : Nat) ∧ (6 * k + p).toInt = ((6 * k.toInt + p.toInt).toNat : Nat) := by
  have e1 : (k * 6).toInt = k.toInt * 6 := by rw [mm_mul_ti (by rw [ti6]; omega) (by rw [ti6]; omega), ti6]
  have e2 : (k * 6 + p).toInt = k.toInt * 6 + p.toInt := by rw [mm_add_ti (by omega) (by omega), e1]
  unfold mm_pl
  rw [if_pos hk, if_pos hp, Int32.mul_comm 6 k, e2]
  omega
theorem told_eq {q : mm_Q} {p k : Int32} (hs : (q.1 8 1).toInt ≤ 6) (hp : 0 ≤ p.toInt ∧ p.toInt < (q.1 8 1).toInt) (hk : 0 ≤ k.toInt ∧ k.toInt ≤ 4) : x4_told p k q = some (q.1 9 (6 * k.toInt + p.toInt).toNat, q) := by
  have e := (mm_spc hs hp hk).1
  unfold x4_told
  rw [cellOf_eq, mm_cl_s, if_neg (by rw [lt32, ti0]; omega), if_neg (by rw [le32, ti54]; omega), mm_ck_t (mm_inb_c e (by omega)), mm_tcn e]
theorem ofSp_eq {q : mm_Q} {p k : Int32} (hs : (q.1 52 6).toInt ≤ 6) (hp : 0 ≤ p.toInt ∧ p.toInt < (q.1 52 6).toInt) (hk : 0 ≤ k.toInt ∧ k.toInt ≤ 4) : x12_ofSpitter p k q = some (q.1 53 (6 * k.toInt + p.toInt).toNat, q) := by
  have e := (mm_spc hs hp hk).2
  unfold x12_ofSpitter
  rw [mm_ck_t (mm_inb_c e (by omega)), mm_tcn e]
theorem mm_nz_of {x : Int32} (h : ¬ x = 0) : mm_nz x = true := by
  unfold mm_nz
  simp [h]
theorem mm_step_pos {q : mm_Q} (hl : iv_lane (q.1 8 1) (q.1 52 6) (q.1 9) (q.1 53)) {p : Int32} (hp : 0 ≤ p.toInt ∧ p.toInt < (q.1 8 1).toInt) : 1 ≤ (q.1 9 (6 * 4 + p.toInt).toNat).toInt := by
  have hs := hl.1.2
  obtain ⟨a, -⟩ := hl.2.2.2 (6 * 4 + p.toInt).toNat ⟨by omega, fun _ => by omega⟩
  have e : mm_wh (6 * 4 + p.toInt).toNat = 4 := by
    unfold mm_wh
    rw [if_pos (by omega)]
    omega
  rw [e] at a
  exact a
theorem pr_steps (v0 v1 : Int32) : mm_pr (mm_Iv LR) (x11_steps v0 v1) (x12_steps v0 v1) := by
  intro q h
  have hl := h.2.1
  have hs : 0 ≤ (q.1 52 6).toInt := by rw [hl.2.1]; exact hl.1.1
  by_cases c1 : 0 ≤ v0.toInt ∧ v0.toInt < (q.1 8 1).toInt
  · by_cases c2 : 0 ≤ v1.toInt ∧ v1.toInt ≤ 999
    · have hp := mm_step_pos hl c1
      have hz : ¬ q.1 9 (6 * 4 + v0.toInt).toNat = 0 := by rw [eq32, ti0]; omega
      refine ⟨v1 / q.1 9 (6 * 4 + v0.toInt).toNat, q, q, ?_, rfl, ?_, h⟩
      · unfold x11_steps x6_inSteps
        rw [isSpitter4_eq, mm_cl_s, if_neg (by rw [mm_p0]; omega), if_neg (by rw [lt32, ti0]; omega), if_pos (by rw [le32, ti999]; omega), told_eq hl.1.2 c1 (by rw [ti4]; omega), ti4, mm_cl_s, if_neg hz, mm_ck_t (mm_nz_of hz)]
        rfl
      · unfold x12_steps
        rw [isSpitter12_eq hs, mm_cl_s, mm_i64, hl.2.1, if_neg (by rw [mm_p0]; omega), within_eq, mm_cl_s, mm_i64, tl0, tl999, if_neg (by rw [mm_p0]; omega), ofSp_eq (by rw [hl.2.1]; exact hl.1.2) (by rw [hl.2.1]; exact c1) (by rw [ti4]; omega), ti4, mm_cl_s, hl.2.2.1 _ (by have := hl.1.2; omega), mm_ck_t (mm_nz_of hz)]
    · refine ⟨-1, q, q, ?_, rfl, ?_, h⟩
      · unfold x11_steps
        rw [isSpitter4_eq, mm_cl_s, if_neg (by rw [mm_p0]; omega)]
        simp only [lt32, le32, ti0, ti999]
        repeat' split
        all_goals first | rfl | (exfalso; omega)
      · unfold x12_steps
        rw [isSpitter12_eq hs, mm_cl_s, mm_i64, hl.2.1, if_neg (by rw [mm_p0]; omega), within_eq, mm_cl_s, mm_i64, tl0, tl999, if_pos (by rw [mm_p0]; omega)]
  · refine ⟨-1, q, q, ?_, rfl, ?_, h⟩
    · unfold x11_steps
      rw [isSpitter4_eq, mm_cl_s, if_pos (by rw [mm_p0]; omega)]
    · unfold x12_steps
      rw [isSpitter12_eq hs, mm_cl_s, mm_i64, hl.2.1, if_pos (by rw [mm_p0]; omega)]
end IV
