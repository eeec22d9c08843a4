/-! calls that think, and change nothing that counts -/
/-- the class's scratch -/
def fk (q q' : mm_Q) : Prop := (∀ k, k ∉ [12, 13, 14, 35, 36, 37, 38, 39, 40, 41, 42, 43, 44, 45] → q'.1 k = q.1 k) ∧ ∀ k, k ∉ [35, 39] → q'.2 k = q.2 k
/-- the reference's scratch -/
def fz (q q' : mm_Q) : Prop := (∀ k, k ∉ [52, 59, 60, 61, 62, 63, 64] → q'.1 k = q.1 k) ∧ q'.2 = q.2 ∧ ∀ j, j ∉ [11, 12, 13, 14, 15, 22, 23, 24, 25, 26, 27, 28] → q'.1 52 j = q.1 52 j
theorem fk_rfl (q : mm_Q) : fk q q := ⟨fun _ _ => rfl, fun _ _ => rfl⟩
theorem fk_trans {q q1 q2 : mm_Q} (h1 : fk q q1) (h2 : fk q1 q2) : fk q q2 := ⟨fun k hk => (h2.1 k hk).trans (h1.1 k hk), fun k hk => (h2.2 k hk).trans (h1.2 k hk)⟩
theorem fk_fr {S : List Nat} {q q' : mm_Q} (h : fr S q q') (hs : ∀ k, k ∈ S → k ∈ [12, 13, 14, 35, 36, 37, 38, 39, 40, 41, 42, 43, 44, 45]) : fk q q' := ⟨fun k hk => h.2 k (fun z => hk (hs k z)), fun k _ => by rw [h.1]⟩
theorem fz_rfl (q : mm_Q) : fz q q := ⟨fun _ _ => rfl, rfl, fun _ _ => rfl⟩
theorem fz_trans {q q1 q2 : mm_Q} (h1 : fz q q1) (h2 : fz q1 q2) : fz q q2 := ⟨fun k hk => (h2.1 k hk).trans (h1.1 k hk), h2.2.1.trans h1.2.1, fun j hj => (h2.2.2 j hj).trans (h1.2.2 j hj)⟩
theorem fz_sub : ∀ k, k ∈ [52, 59, 60, 61] → k ∈ [52, 59, 60, 61, 62, 63, 64] := by decide
theorem fz_sub2 : ∀ k, k ∈ [11, 12, 13, 14, 15] → k ∈ [11, 12, 13, 14, 15, 22, 23, 24, 25, 26, 27, 28] := by decide
theorem fz_fq {q q' : mm_Q} (h : fq q q') : fz q q' := ⟨fun k hk => h.1.2 k (fun z => hk (fz_sub k z)), h.1.1, fun j hj => h.2 j (fun z => hj (fz_sub2 j z))⟩
theorem not_mem_of {S T : List Nat} {k : Nat} (h : k ∉ T) (hs : ∀ k, k ∈ S → k ∈ T) : k ∉ S := fun z => h (hs k z)
theorem scr_shelf {j : Nat} (hj : j < 6) : (16 + 2 * j) ∉ [12, 13, 14, 35, 36, 37, 38, 39, 40, 41, 42, 43, 44, 45] ∧ (17 + 2 * j) ∉ [35, 39] ∧ (16 + 2 * j) ∉ [52, 59, 60, 61, 62, 63, 64] := by
  rcases (show j = 0 ∨ j = 1 ∨ j = 2 ∨ j = 3 ∨ j = 4 ∨ j = 5 by omega) with rfl | rfl | rfl | rfl | rfl | rfl <;> decide
theorem mm_Iv_scr {q q1 q2 : mm_Q} (h : mm_Iv mm_LX q) (f1 : fk q q1) (f2 : fz q1 q2) (hl : mm_LX (q2.1 11) (q2.1 10 3) (q2.1 58) (q2.1 52 10) (q2.1 60) (q2.1 61)) : mm_Iv mm_LX q2 := by
  obtain ⟨h1, h2, h3, h4, h5, h6, h7, h8, h9, h10⟩ := h
  have e : ∀ k, k ∉ [12, 13, 14, 35, 36, 37, 38, 39, 40, 41, 42, 43, 44, 45] → k ∉ [52, 59, 60, 61, 62, 63, 64] → q2.1 k = q.1 k := fun k a b => (f2.1 k b).trans (f1.1 k a)
  have e52 : ∀ j, j ∉ [11, 12, 13, 14, 15, 22, 23, 24, 25, 26, 27, 28] → q2.1 52 j = q.1 52 j := fun j hj => (f2.2.2 j hj).trans (by rw [f1.1 52 (by decide)])
  have el : ∀ k, k ∉ [35, 39] → q2.2 k = q.2 k := fun k a => by rw [f2.2.1]; exact f1.2 k a
  have g1 := e 1 (by decide) (by decide)
  have g2 := e 2 (by decide) (by decide)
  have g3 := e 3 (by decide) (by decide)
  have g5 := e 5 (by decide) (by decide)
  have g6 := e 6 (by decide) (by decide)
  have g8 := e 8 (by decide) (by decide)
  have g9 := e 9 (by decide) (by decide)
  have g28 := e 28 (by decide) (by decide)
  have g29 := e 29 (by decide) (by decide)
  have g31 := e 31 (by decide) (by decide)
  have g32 := e 32 (by decide) (by decide)
  have g33 := e 33 (by decide) (by decide)
  have g34 := e 34 (by decide) (by decide)
  have g46 := e 46 (by decide) (by decide)
  have g47 := e 47 (by decide) (by decide)
  have g48 := e 48 (by decide) (by decide)
  have g49 := e 49 (by decide) (by decide)
  have g50 := e 50 (by decide) (by decide)
  have g51 := e 51 (by decide) (by decide)
  have g53 := e 53 (by decide) (by decide)
  have g54 := e 54 (by decide) (by decide)
  have g55 := e 55 (by decide) (by decide)
  have g56 := e 56 (by decide) (by decide)
  have g57 := e 57 (by decide) (by decide)
  have g65 := e 65 (by decide) (by decide)
  have g66 := e 66 (by decide) (by decide)
  have g67 := e 67 (by decide) (by decide)
  have g68 := e 68 (by decide) (by decide)
  have g69 := e 69 (by decide) (by decide)
  have g70 := e 70 (by decide) (by decide)
  have r4 := e52 4 (by decide)
  have r5 := e52 5 (by decide)
  have r6 := e52 6 (by decide)
  have r8 := e52 8 (by decide)
  have r17 := e52 17 (by decide)
  have r32 := e52 32 (by decide)
  have r33 := e52 33 (by decide)
  have r34 := e52 34 (by decide)
  have r35 := e52 35 (by decide)
  have r36 := e52 36 (by decide)
  have r38 := e52 38 (by decide)
  have r41 := e52 41 (by decide)
  have h8' : iv_shf (q.1 49 2) q2 := by
    rw [iv_shf_all]
    intro j hj
    have a := scr_shelf hj
    rw [e (16 + 2 * j) a.1 a.2.2, e 71 (by decide) (by decide), e 72 (by decide) (by decide), el 73 (by decide), el (17 + 2 * j) a.2.1]
    exact iv_shf_all.mp h8 j hj
  unfold mm_Iv
  rw [el 4 (by decide), g1, g2, g3, g5, g6, g8, g9, g28, g29, g31, g32, g33, g34, g46, g47, g48, g49, g50, g51, g53, g54, g55, g56, g57, g65, g66, g67, g68, g69, g70, r4, r5, r6, r8, r17, r32, r33, r34, r35, r36, r38, r41]
  exact ⟨h1, h2, h3, h4, h5, h6, h7, h8', hl, h10⟩
theorem mm_think {q : mm_Q} (h : mm_Iv mm_LX q) : ∃ F, cw F (q.1 9) (q.1 8 1) q ∧ bd (q.1 8 1) (q.1 9) ∧ (0 ≤ (q.1 8 1).toInt ∧ (q.1 8 1).toInt ≤ 6) ∧ q.1 52 6 = q.1 8 1 ∧ (∀ q1, fk q q1 → rx F (q.1 9) (q.1 8 1) 0 q1) ∧ ∀ q1 q2, fk q q1 → fz q1 q2 → rx F (q.1 9) (q.1 8 1) 0 q2 → mm_Iv mm_LX q2 := by
  obtain ⟨h1, h2, h3, h4, h5, h6, h7, h8, ⟨F, h9, h9'⟩, h10⟩ := id h
  refine ⟨F, ⟨rfl, rfl, h9⟩, h2.2.2.2, h2.1, h2.2.1, fun q1 f1 => ⟨fun j hj => ?_, ?_, ?_, ?_⟩, fun q1 q2 f1 f2 hx => mm_Iv_scr h f1 f2 ⟨F, ?_, hx.2.2.2⟩⟩
  · rw [f1.1 53 (by decide)]
    exact h2.2.2.1 j hj
  · rw [f1.1 52 (by decide)]
    exact h2.2.1
  · rw [f1.1 52 (by decide)]
    exact h10
  · rw [f1.1 58 (by decide), f1.1 52 (by decide), f1.1 60 (by decide), f1.1 61 (by decide)]
    exact h9'
  · rw [f2.1 11 (by decide), f2.1 10 (by decide), f1.1 11 (by decide), f1.1 10 (by decide)]
    exact h9
theorem sk11_eq (a : Int32) (q : mm_Q) : x11_isStoneAndAhead a q = some (mm_p (0 ≤ a.toInt ∧ a.toInt / 1000 < 9 ∧ a.toInt % 1000 ≤ 99), q) := by
  unfold x11_isStoneAndAhead mm_p
  by_cases h : a < 0
  · rw [if_pos h]
    rw [lt32, ti0] at h
    rw [if_neg (by omega)]
  · rw [if_neg h]
    rw [lt32, ti0] at h
    have e1 : (a / 1000).toInt = a.toInt / 1000 := by rw [div_ti (by omega) (by decide), ti1000]
    have e2 : (mm_rem a 1000).toInt = a.toInt % 1000 := by rw [rem_ti (by omega) (by decide), ti1000]
    simp only [le32, lt32, e1, e2, ti9, ti99]
    repeat' split
    all_goals first | rfl | (exfalso; omega)
theorem sk12_eq (a : Int32) (q : mm_Q) : x12_isSk a q = some (mm_p (0 ≤ a.toInt ∧ a.toInt / 1000 < 9 ∧ a.toInt % 1000 ≤ 99), q) := by
  unfold x12_isSk
  by_cases h : a < 0
  · rw [if_pos h]
    rw [lt32, ti0] at h
    unfold mm_p
    rw [if_neg (by omega)]
  · rw [if_neg h, isStone12_eq, mm_cl_s]
    rw [lt32, ti0] at h
    have e1 : (a / 1000).toInt = a.toInt / 1000 := by rw [div_ti (by omega) (by decide), ti1000]
    have e2 : (mm_rem a 1000).toInt = a.toInt % 1000 := by rw [rem_ti (by omega) (by decide), ti1000]
    have e3 : 0 ≤ a.toInt / 1000 := Int.ediv_nonneg (by omega) (by omega)
    simp only [mm_p0, lt32, e1, e2, ti99]
    unfold mm_p
    repeat' split
    all_goals first | rfl | (exfalso; omega)
theorem how11_eq (a : Int32) (q : mm_Q) : x11_isHow a q = some (mm_p (0 ≤ a.toInt ∧ a.toInt / 10 < 9 ∧ a.toInt % 10 ≤ 1), q) := by
  unfold x11_isHow mm_p
  by_cases h : a < 0
  · rw [if_pos h]
    rw [lt32, ti0] at h
    rw [if_neg (by omega)]
  · rw [if_neg h]
    rw [lt32, ti0] at h
    have e1 : (a / 10).toInt = a.toInt / 10 := by rw [div_ti (by omega) (by decide), ti10]
    have e2 : (mm_rem a 10).toInt = a.toInt % 10 := by rw [rem_ti (by omega) (by decide), ti10]
    simp only [le32, lt32, e1, e2, ti9, ti1]
    repeat' split
    all_goals first | rfl | (exfalso; omega)
theorem how12_eq (a : Int32) (q : mm_Q) : x12_isHow a q = some (mm_p (0 ≤ a.toInt ∧ a.toInt / 10 < 9 ∧ a.toInt % 10 ≤ 1), q) := how11_eq a q
/-- the parts of a told number -/
theorem sk_parts {a : Int32} (h : 0 ≤ a.toInt ∧ a.toInt / 1000 < 9 ∧ a.toInt % 1000 ≤ 99) : (a / 1000).toInt = (((a.toInt / 1000).toNat : Nat) : Int) ∧ (a.toInt / 1000).toNat < 9 ∧ (mm_rem a 1000).toInt = a.toInt % 1000 := by
  have e1 : (a / 1000).toInt = a.toInt / 1000 := by rw [div_ti (by omega) (by decide), ti1000]
  have e2 : (mm_rem a 1000).toInt = a.toInt % 1000 := by rw [rem_ti (by omega) (by decide), ti1000]
  have e3 : 0 ≤ a.toInt / 1000 := Int.ediv_nonneg (by omega) (by omega)
  exact ⟨by omega, by omega, e2⟩
theorem nat_of {a : Int32} (h : 0 ≤ a.toInt) : a.toInt = ((a.toInt.toNat : Nat) : Int) := by omega
theorem pr_tries (v0 v1 v2 v3 : Int32) : mm_pr (mm_Iv mm_LX) (x11_tries v0 v1 v2 v3) (x12_tries v0 v1 v2 v3) := by
  intro q h
  obtain ⟨F, hw, hb, ⟨hs0, hs6⟩, e6, hx, hd⟩ := mm_think h
  by_cases g : (0 ≤ v0.toInt ∧ v0.toInt < (q.1 8 1).toInt) ∧ (0 ≤ v1.toInt ∧ v1.toInt / 1000 < 9 ∧ v1.toInt % 1000 ≤ 99) ∧ (0 ≤ v2.toInt ∧ v2.toInt / 10 < 9 ∧ v2.toInt % 10 ≤ 1) ∧ 0 ≤ v3.toInt ∧ v3.toInt ≤ 2
  · obtain ⟨g1, g2, g3, g4, g5⟩ := g
    obtain ⟨s1, s2, s3⟩ := sk_parts g2
    have hp := nat_of g1.1
    obtain ⟨q1, q2, y1, y2, y3, y4⟩ := take_land hw hb hs6 hp (by omega) s1 s2 (mm_rem v1 1000) (v2 / 10) (mm_rem v2 10)
    have k2 : fk q q2 := fk_fr y3 (by decide)
    obtain ⟨q3, z1, z2, z3⟩ := landsAt_eq (hx q2 k2) hp (by omega) s1 s2 (mm_rem v1 1000) (v2 / 10) (mm_rem v2 10)
    have f52 : q2.1 52 6 = q.1 8 1 := by rw [k2.1 52 (by decide)]; exact e6
    refine ⟨if v3 = 0 then LN F (GL (q.1 9) v0.toInt.toNat (v1.toInt / 1000).toNat (mm_rem v1 1000) 0) (v2 / 10) (mm_rem v2 10) else if v3 = 1 then stp (q.1 9) (LN F (GL (q.1 9) v0.toInt.toNat (v1.toInt / 1000).toNat (mm_rem v1 1000) 0) (v2 / 10) (mm_rem v2 10)) else pnt (q.1 9) (LN F (GL (q.1 9) v0.toInt.toNat (v1.toInt / 1000).toNat (mm_rem v1 1000) 0) (v2 / 10) (mm_rem v2 10)), q2, q3, ?_, by rw [k2.1 0 (by decide)], ?_, hd q2 q3 k2 (fz_fq z2) z3⟩
    · unfold x11_tries
      rw [isSpitter4_eq, mm_cl_s, if_neg (by rw [mm_p0]; omega), sk11_eq, mm_cl_s, if_neg (by rw [mm_p0]; omega), how11_eq, mm_cl_s, if_neg (by rw [mm_p0]; omega), if_neg (by rw [lt32, ti0]; omega), if_pos (by rw [le32, ti2]; omega), y1, mm_cl_s, y2, mm_cl_s, stopOf_eq, mm_cl_s, pointsOf_eq, mm_cl_s, y4.1]
      by_cases c0 : v3 = 0
      · rw [if_pos c0, if_pos c0]
      · rw [if_neg c0, if_neg c0]
        by_cases c1 : v3 = 1
        · rw [if_pos c1, if_pos c1]
        · rw [if_neg c1, if_neg c1]
    · unfold x12_tries
      rw [isSpitter12_eq (by rw [f52]; exact hs0), mm_cl_s, mm_i64, f52, if_neg (by rw [mm_p0]; omega), sk12_eq, mm_cl_s, if_neg (by rw [mm_p0]; omega), how12_eq, mm_cl_s, if_neg (by rw [mm_p0]; omega), within_eq, mm_cl_s, mm_i64, tl0, tl2, if_neg (by rw [mm_p0]; omega), z1, mm_cl_s, stopsFrom_eq hb (LN_rng _ _ _ _).1 (LN_rng _ _ _ _).2 z3.1, mm_cl_s, pointsFrom_eq hb (LN_rng _ _ _ _).1 (LN_rng _ _ _ _).2 z3.1, mm_cl_s]
      by_cases c0 : v3 = 0
      · rw [if_pos c0, if_pos c0]
      · rw [if_neg c0, if_neg c0]
        by_cases c1 : v3 = 1
        · rw [if_pos c1, if_pos c1]
        · rw [if_neg c1, if_neg c1]
  · refine ⟨-1, q, q, ?_, rfl, ?_, h⟩
    · unfold x11_tries
      simp only [isSpitter4_eq, sk11_eq, how11_eq, mm_cl_s, mm_p0, lt32, le32, ti0, ti2]
      repeat' split
      all_goals first | rfl | (exfalso; omega)
    · unfold x12_tries
      simp only [isSpitter12_eq (show 0 ≤ (q.1 52 6).toInt by rw [e6]; exact hs0), sk12_eq, how12_eq, within_eq, mm_cl_s, mm_p0, mm_i64, e6, tl0, tl2]
      repeat' split
      all_goals first | rfl | (exfalso; omega)
