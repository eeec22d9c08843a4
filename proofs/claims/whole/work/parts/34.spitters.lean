/-! spitters from a shelf -/
section IV
variable {LR : mm_LR}
theorem mm_Iv_lane {q q' : mm_Q} (h : mm_Iv LR q) (e1 : ∀ a, a ≠ 8 → a ≠ 9 → a ≠ 52 → a ≠ 53 → q'.1 a = q.1 a) (e2 : q'.2 = q.2) (e52 : ∀ j, j ≠ 6 → q'.1 52 j = q.1 52 j) (u : (q.1 8 1).toInt ≤ (q'.1 8 1).toInt) (hl : iv_lane (q'.1 8 1) (q'.1 52 6) (q'.1 9) (q'.1 53)) : mm_Iv LR q' := by
  obtain ⟨h1, h2, h3, h4, h5, h6, h7, h8, h9, h10⟩ := h
  have f1 := e1 1 (by decide) (by decide) (by decide) (by decide)
  have f2 := e1 2 (by decide) (by decide) (by decide) (by decide)
  have f3 := e1 3 (by decide) (by decide) (by decide) (by decide)
  have f5 := e1 5 (by decide) (by decide) (by decide) (by decide)
  have f6 := e1 6 (by decide) (by decide) (by decide) (by decide)
  have f10 := e1 10 (by decide) (by decide) (by decide) (by decide)
  have f11 := e1 11 (by decide) (by decide) (by decide) (by decide)
  have f28 := e1 28 (by decide) (by decide) (by decide) (by decide)
  have f29 := e1 29 (by decide) (by decide) (by decide) (by decide)
  have f31 := e1 31 (by decide) (by decide) (by decide) (by decide)
  have f32 := e1 32 (by decide) (by decide) (by decide) (by decide)
  have f33 := e1 33 (by decide) (by decide) (by decide) (by decide)
  have f34 := e1 34 (by decide) (by decide) (by decide) (by decide)
  have f46 := e1 46 (by decide) (by decide) (by decide) (by decide)
  have f47 := e1 47 (by decide) (by decide) (by decide) (by decide)
  have f48 := e1 48 (by decide) (by decide) (by decide) (by decide)
  have f49 := e1 49 (by decide) (by decide) (by decide) (by decide)
  have f50 := e1 50 (by decide) (by decide) (by decide) (by decide)
  have f51 := e1 51 (by decide) (by decide) (by decide) (by decide)
  have f54 := e1 54 (by decide) (by decide) (by decide) (by decide)
  have f55 := e1 55 (by decide) (by decide) (by decide) (by decide)
  have f56 := e1 56 (by decide) (by decide) (by decide) (by decide)
  have f57 := e1 57 (by decide) (by decide) (by decide) (by decide)
  have f58 := e1 58 (by decide) (by decide) (by decide) (by decide)
  have f60 := e1 60 (by decide) (by decide) (by decide) (by decide)
  have f61 := e1 61 (by decide) (by decide) (by decide) (by decide)
  have f65 := e1 65 (by decide) (by decide) (by decide) (by decide)
  have f66 := e1 66 (by decide) (by decide) (by decide) (by decide)
  have f67 := e1 67 (by decide) (by decide) (by decide) (by decide)
  have f68 := e1 68 (by decide) (by decide) (by decide) (by decide)
  have f69 := e1 69 (by decide) (by decide) (by decide) (by decide)
  have f70 := e1 70 (by decide) (by decide) (by decide) (by decide)
  have r5 := e52 5 (by decide)
  have r4 := e52 4 (by decide)
  have r8 := e52 8 (by decide)
  have r32 := e52 32 (by decide)
  have r33 := e52 33 (by decide)
  have r34 := e52 34 (by decide)
  have r35 := e52 35 (by decide)
  have r36 := e52 36 (by decide)
  have r38 := e52 38 (by decide)
  have r41 := e52 41 (by decide)
  have r10 := e52 10 (by decide)
  have r17 := e52 17 (by decide)
  have h8' : iv_shf (q.1 49 2) q' := by
    rw [iv_shf_all]
    intro j hj
    rw [e1 (16 + 2 * j) (by omega) (by omega) (by omega) (by omega), e1 71 (by decide) (by decide) (by decide) (by decide), e1 72 (by decide) (by decide) (by decide) (by decide), e2]
    exact iv_shf_all.mp h8 j hj
  unfold mm_Iv
  rw [e2, f1, f2, f3, f5, f6, f10, f11, f28, f29, f31, f32, f33, f34, f46, f47, f48, f49, f50, f51, f54, f55, f56, f57, f58, f60, f61, f65, f66, f67, f68, f69, f70, r5, r4, r8, r32, r33, r34, r35, r36, r38, r41, r10, r17]
  exact ⟨h1, hl, mm_chg_up u h3, h4, mm_deed_up u h5, mm_pic_up u h6, h7, h8', h9, h10⟩
theorem pr_spitters (v0 v1 v2 : Int32) : mm_pr (mm_Iv LR) (x11_spitters v0 v1 v2) (x12_spitters v0 v1 v2) := by
  intro q h
  obtain ⟨h1, h2, h3, h4, h5, h6, h7, h8, h9, h10⟩ := id h
  have hbd : (q.1 49 2).toInt ≤ 50 := h7.1.1.2
  rcases mm_shf_at v0 with ⟨e, hn⟩ | ⟨k, hk, hd, e⟩
  · refine ⟨-1, q, q, ?_, rfl, ?_, h⟩
    · unfold x11_spitters x11_shelfAt
      rw [mm_cl_s, e]
      rfl
    · unfold x12_spitters
      rw [isShelf_eq, mm_cl_s, if_pos (by rw [mm_p0]; exact hn)]
  have hin : mm_inb v0 6 = true := mm_inb_c hd hk
  have hs := iv_shf_all.mp h8 k hk
  have hl := mm_she_len hs
  have hx : x11_spitters v0 v1 v2 q = if v2 < 1 then some (-1, q) else if v2 ≤ 6 then mm_cl (x8_rowRefusal (16 + 2 * k) 0 q) (fun r7 q8 => if r7 = -12 then some (-12, q8) else x11_spitters_h46 mm_fu v1 v2 (16 + 2 * k) 0 q8) else some (-1, q) := by
    unfold x11_spitters x11_shelfAt
    rw [mm_cl_s, e]
    show mm_ck (mm_shb (16 + 2 * k)) _ = _
    rw [mm_ck_t (mm_shb_k hk)]
  have hy : ∀ q1 : mm_Q, x12_spitters v0 v1 v2 q1 = if 1 ≤ v2.toInt ∧ v2.toInt ≤ 6 then (if q1.1 71 k < 0 then x12_spitters_j44 v0 v1 v2 q1 else if q1.1 71 k = 50 then x12_spitters_j44 v0 v1 v2 q1 else some (-12, q1)) else some (-1, q1) := by
    intro q1
    unfold x12_spitters
    rw [isShelf_eq, mm_cl_s, if_neg (by rw [mm_p0]; omega), within_eq, mm_cl_s, mm_i64, tl1, tl6]
    by_cases c : 1 ≤ v2.toInt ∧ v2.toInt ≤ 6
    · rw [if_neg (by rw [mm_p0]; exact fun w => w c), if_pos c, mm_ck_t hin, mm_ck_t hin, mm_tcn hd]
    · rw [if_pos (by rw [mm_p0]; exact c), if_neg c]
  have hj : ∀ q1 : mm_Q, x12_spitters_j44 v0 v1 v2 q1 = if q1.1 71 k = 50 then (if v1 < 0 then some (0, q1) else x12_spitters_h69 mm_fu v0 v1 v2 0 1 q1) else some (0, q1) := by
    intro q1
    unfold x12_spitters_j44 x12_spitters_j66 x12_spitters_j67
    rw [mm_ck_t hin, mm_tcn hd, show x12_spitters_h69 mm_fu v0 v1 v2 0 0 q1 = some (0, q1) from sp_stop 999 v0 v1 v2 0 q1]
  by_cases c : 1 ≤ v2.toInt ∧ v2.toInt ≤ 6
  · rw [if_neg (by rw [lt32, ti1]; omega), if_pos (by rw [le32, ti6]; omega)] at hx
    have hno : (¬ 0 ≤ v1.toInt ∨ (q.1 (16 + 2 * k) 4).toInt < 3) → x11_spitters_h46 mm_fu v1 v2 (16 + 2 * k) 0 q = some (0, q) := by
      intro z
      show x11_spitters_h46 (999 + 1) v1 v2 (16 + 2 * k) 0 q = some (0, q)
      have e0 : v1 + 3 * 0 = v1 := by rw [show (3 * 0 : Int32) = 0 by decide, Int32.add_zero]
      rw [x11_spitters_h46, if_neg (by rw [le32, ti0]; omega), hasPlaces_eq hl, mm_cl_s, if_pos (by rw [mm_p0, ti3, e0]; omega)]
    rcases id hs with ⟨g1, g2, g4, -⟩ | ⟨g1, g2, g3, -⟩ | ⟨g1, g3, g4, g5, g6, g7, -⟩
    · refine ⟨0, q, q, ?_, rfl, ?_, h⟩
      · rw [hx]
        unfold x8_rowRefusal
        rw [if_pos g1, mm_cl_s, if_neg (by decide)]
        exact hno (Or.inr (by rw [g4]; decide))
      · rw [hy, if_pos c, g2, if_pos (by decide), hj, g2, if_neg (by decide)]
    · refine ⟨-12, q, q, ?_, rfl, ?_, h⟩
      · rw [hx]
        unfold x8_rowRefusal
        rw [g1, if_neg (by decide), if_neg (by decide), mm_cl_s, if_pos rfl]
      · rw [hy, if_pos c, g2, if_neg (by rw [lt32, ti0]; omega), if_neg (by rw [eq32, ti50]; omega)]
    · have e5 : (50 + q.1 (16 + 2 * k) 3).toInt = 50 + (q.1 (16 + 2 * k) 3).toInt := by rw [mm_add_ti (by rw [ti50]; omega) (by rw [ti50]; omega), ti50]
      by_cases c0 : q.1 (16 + 2 * k) 3 = 0
      · have g71 : q.1 71 k = 50 := by rw [g4, c0]; decide
        have hr : x8_rowRefusal (16 + 2 * k) 0 q = some (0, q) := by
          unfold x8_rowRefusal
          rw [g1, if_neg (by decide), if_pos rfl, if_pos c0]
        rw [hr, mm_cl_s, if_neg (by decide)] at hx
        by_cases cp : v1 < 0
        · refine ⟨0, q, q, ?_, rfl, ?_, h⟩
          · rw [hx]
            rw [lt32, ti0] at cp
            exact hno (Or.inl (by omega))
          · rw [hy, if_pos c, g71, if_neg (by decide), if_pos rfl, hj, g71, if_pos rfl, if_pos cp]
        · have cp' := cp
          rw [lt32, ti0] at cp'
          obtain ⟨P, hP⟩ : ∃ P : Nat, v1.toInt = P := ⟨v1.toInt.toNat, by omega⟩
          obtain ⟨C, hC⟩ : ∃ C : Nat, v2.toInt = C := ⟨v2.toInt.toNat, by omega⟩
          obtain ⟨L, hL⟩ : ∃ L : Nat, (q.1 (16 + 2 * k) 4).toInt = L := ⟨(q.1 (16 + 2 * k) 4).toInt.toNat, by omega⟩
          obtain ⟨r, q', z1, z2, z3, z4, z5⟩ := sp_loop (f := 998 - C) hd hk hP hC (by omega) (show L ≤ 60 by omega) C 0 0 q (q.1 52) (q.1 53) (by omega) ti0 h1.1 h1.2.1 h1.2.2.1 h2 hL
          obtain ⟨q2, y1, y2, y3, y4, y5⟩ := z5 q' (z2 52 (by decide) (by decide)) (z2 53 (by decide) (by decide)) (by rw [z2 72 (by decide) (by decide), g6]; exact hL) (fun j hj2 => by rw [z3]; exact g7 j (by omega))
          have fu : mm_fu = 998 - C + C + 2 := by show 1000 = _; omega
          have y8 := y2 8 (by decide) (by decide)
          have y9 := y2 9 (by decide) (by decide)
          refine ⟨r, q', q2, by rw [hx, fu]; exact z1, z2 0 (by decide) (by decide), ?_, mm_Iv_lane h (fun a a1 a2 a3 a4 => (y2 a a3 a4).trans (z2 a a1 a2)) (y3.trans z3) y4 (by rw [y8]; exact z4) (by rw [y8, y9]; exact y5)⟩
          rw [hy, if_pos c, z2 71 (by decide) (by decide), g71, if_neg (by decide), if_pos rfl, hj, z2 71 (by decide) (by decide), g71, if_pos rfl, if_neg cp, fu]
          exact y1
      · refine ⟨-12, q, q, ?_, rfl, ?_, h⟩
        · rw [hx]
          unfold x8_rowRefusal
          rw [if_neg (by rw [g1]; decide), if_pos g1, if_neg c0, mm_cl_s, if_pos rfl]
        · rw [eq32, ti0] at c0
          rw [hy, if_pos c, g4, if_neg (by rw [lt32, ti0]; omega), if_neg (by rw [eq32, ti50]; omega)]
  · refine ⟨-1, q, q, ?_, rfl, by rw [hy, if_neg c], h⟩
    rw [hx]
    by_cases c1 : v2 < 1
    · rw [if_pos c1]
    · rw [lt32, ti1] at c1
      rw [if_neg (by rw [lt32, ti1]; exact c1), if_neg (by rw [le32, ti6]; omega)]
end IV
