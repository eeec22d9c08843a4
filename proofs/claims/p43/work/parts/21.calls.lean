/-! what the class's calls answer: the class's side alone -/
section CLS
variable {F : mm_F} {c : Nat → Int32} {sp : Int32} {q : mm_Q}
theorem cl_tries {v0 v1 v2 v3 : Int32} (hw : cw F c sp q) (hb : bd sp c) (hs6 : sp.toInt ≤ 6) (g : (0 ≤ v0.toInt ∧ v0.toInt < sp.toInt) ∧ (0 ≤ v1.toInt ∧ v1.toInt / 1000 < 9 ∧ v1.toInt % 1000 ≤ 99) ∧ (0 ≤ v2.toInt ∧ v2.toInt / 10 < 9 ∧ v2.toInt % 10 ≤ 1) ∧ 0 ≤ v3.toInt ∧ v3.toInt ≤ 2) : ∃ q2, x11_tries v0 v1 v2 v3 q = some (if v3 = 0 then LN F (GL c v0.toInt.toNat (v1.toInt / 1000).toNat (mm_rem v1 1000) 0) (v2 / 10) (mm_rem v2 10) else if v3 = 1 then stp c (LN F (GL c v0.toInt.toNat (v1.toInt / 1000).toNat (mm_rem v1 1000) 0) (v2 / 10) (mm_rem v2 10)) else pnt c (LN F (GL c v0.toInt.toNat (v1.toInt / 1000).toNat (mm_rem v1 1000) 0) (v2 / 10) (mm_rem v2 10)), q2) ∧ fk q q2 := by
  obtain ⟨g1, g2, g3, g4, g5⟩ := g
  obtain ⟨s1, s2, s3⟩ := sk_parts g2
  have hp := nat_of g1.1
  obtain ⟨q1, q2, y1, y2, y3, y4⟩ := take_land hw hb hs6 hp (by omega) s1 s2 (mm_rem v1 1000) (v2 / 10) (mm_rem v2 10)
  refine ⟨q2, ?_, fk_fr y3 (by decide)⟩
  unfold x11_tries
  rw [isSpitter4_eq, mm_cl_s, hw.2.1, if_neg (by rw [mm_p0]; omega), sk11_eq, mm_cl_s, if_neg (by rw [mm_p0]; omega), how11_eq, mm_cl_s, if_neg (by rw [mm_p0]; omega), if_neg (by rw [lt32, ti0]; omega), if_pos (by rw [le32, ti2]; omega), y1, mm_cl_s, y2, mm_cl_s, stopOf_eq, mm_cl_s, pointsOf_eq, mm_cl_s, y4.1]
  by_cases c0 : v3 = 0
  · rw [if_pos c0, if_pos c0]
  · rw [if_neg c0, if_neg c0]
    by_cases c1 : v3 = 1
    · rw [if_pos c1, if_pos c1]
    · rw [if_neg c1, if_neg c1]
theorem cl_tries_no {v0 v1 v2 v3 : Int32} (g : ¬ ((0 ≤ v0.toInt ∧ v0.toInt < (q.1 8 1).toInt) ∧ (0 ≤ v1.toInt ∧ v1.toInt / 1000 < 9 ∧ v1.toInt % 1000 ≤ 99) ∧ (0 ≤ v2.toInt ∧ v2.toInt / 10 < 9 ∧ v2.toInt % 10 ≤ 1) ∧ 0 ≤ v3.toInt ∧ v3.toInt ≤ 2)) : x11_tries v0 v1 v2 v3 q = some (-1, q) := by
  unfold x11_tries
  simp only [isSpitter4_eq, sk11_eq, how11_eq, mm_cl_s, mm_p0, lt32, le32, ti0, ti2]
  repeat' split
  all_goals first | rfl | (exfalso; omega)
theorem cl_angle {v0 v1 v2 : Int32} (hw : cw F c sp q) (hb : bd sp c) (hs6 : sp.toInt ≤ 6) (g : (0 ≤ v0.toInt ∧ v0.toInt < sp.toInt) ∧ (0 ≤ v1.toInt ∧ v1.toInt / 1000 < 9 ∧ v1.toInt % 1000 ≤ 99) ∧ 0 ≤ v2.toInt ∧ v2.toInt ≤ 2) : ∃ q2, x11_angle v0 v1 v2 q = some (if v2 = 0 then (ban (fun a => stp c (LN F (GL c v0.toInt.toNat (v1.toInt / 1000).toNat (mm_rem v1 1000) 0) a 0)) 9).1 else if v2 = 1 then (ban (PT F c (GL c v0.toInt.toNat (v1.toInt / 1000).toNat (mm_rem v1 1000) 0) 0) 9).1 else (b2 (PT F c (GL c v0.toInt.toNat (v1.toInt / 1000).toNat (mm_rem v1 1000) 0) 0) (PT F c (GL c v0.toInt.toNat (v1.toInt / 1000).toNat (mm_rem v1 1000) 0) 1) 9).1, q2) ∧ fk q q2 := by
  obtain ⟨g1, g2, g4, g5⟩ := g
  obtain ⟨s1, s2, s3⟩ := sk_parts g2
  have hp := nat_of g1.1
  obtain ⟨q1, y1, y2, y3⟩ := take_eq hw hs6 hp (by omega) s1 s2 (mm_rem v1 1000)
  have hX : x11_angle v0 v1 v2 q = if v2 = 0 then mm_cl (x10_bestAngleForStop q1) (fun r12 q13 => some (r12, q13)) else if v2 = 1 then mm_cl (x10_bestAngle 0 q1) (fun r12 q13 => some (r12, q13)) else mm_cl (x10_bestAngleAndRun q1) (fun r12 q13 => some (r12, q13)) := by
    unfold x11_angle
    rw [isSpitter4_eq, mm_cl_s, hw.2.1, if_neg (by rw [mm_p0]; omega), sk11_eq, mm_cl_s, if_neg (by rw [mm_p0]; omega), if_neg (by rw [lt32, ti0]; omega), if_pos (by rw [le32, ti2]; omega), y1, mm_cl_s]
  by_cases c0 : v2 = 0
  · obtain ⟨q2, z1, z2⟩ := bestStop_eq y2
    rw [LN_tk hb F s2] at z1
    exact ⟨q2, by rw [hX, if_pos c0, if_pos c0, z1, mm_cl_s], fk_trans (fk_fr y3 (by decide)) (fk_fr z2 (by decide))⟩
  · by_cases c1 : v2 = 1
    · obtain ⟨q2, z1, z2⟩ := bestAngle_eq y2 0
      rw [PT_tk hb F s2] at z1
      exact ⟨q2, by rw [hX, if_neg c0, if_pos c1, if_neg c0, if_pos c1, z1, mm_cl_s], fk_trans (fk_fr y3 (by decide)) (fk_fr z2 (by decide))⟩
    · obtain ⟨q2, z1, z2⟩ := bestBoth_eq hb y2
      rw [PT_tk hb F s2] at z1
      exact ⟨q2, by rw [hX, if_neg c0, if_neg c1, if_neg c0, if_neg c1, z1, mm_cl_s], fk_trans (fk_fr y3 (by decide)) (fk_fr z2 (by decide))⟩
theorem cl_angle_no {v0 v1 v2 : Int32} (g : ¬ ((0 ≤ v0.toInt ∧ v0.toInt < (q.1 8 1).toInt) ∧ (0 ≤ v1.toInt ∧ v1.toInt / 1000 < 9 ∧ v1.toInt % 1000 ≤ 99) ∧ 0 ≤ v2.toInt ∧ v2.toInt ≤ 2)) : x11_angle v0 v1 v2 q = some (-1, q) := by
  unfold x11_angle
  simp only [isSpitter4_eq, sk11_eq, mm_cl_s, mm_p0, lt32, le32, ti0, ti2]
  repeat' split
  all_goals first | rfl | (exfalso; omega)
/-- a fraction in its lowest terms -/
theorem cl_frac {a b : Int64} (ha : 0 ≤ a.toInt) (ha2 : a.toInt < 8589934592) (hb : 0 < b.toInt) (hb2 : b.toInt < 8589934592) (v : Int32) (q : mm_Q) : ∃ g : Int64, g.toInt = (Nat.gcd a.toInt.toNat b.toInt.toNat : Nat) ∧ mm_nzl g = true ∧ x11_fractionPart a b v q = some (if v = 0 then a / g else b / g, q) := by
  have p33 : (2 : Nat) ^ 33 = 8589934592 := by decide
  obtain ⟨A, hA⟩ : ∃ A : Nat, a.toInt = A := ⟨a.toInt.toNat, by omega⟩
  obtain ⟨B, hB⟩ : ∃ B : Nat, b.toInt = B := ⟨b.toInt.toNat, by omega⟩
  obtain ⟨g, hg, eg⟩ := gcd11 33 A B a b 0 1000 q hA hB (by rw [p33]; omega) (by rw [ti0]; omega) (by rw [ti0]; omega) (by omega)
  have gp : 0 < Nat.gcd A B := Nat.gcd_pos_of_pos_right A (by omega)
  have nz : mm_nzl g = true := nzl_t (by omega)
  refine ⟨g, by rw [hA, hB]; exact hg, nz, ?_⟩
  unfold x11_fractionPart x11_greatestDivisor
  rw [show mm_fu = 1000 from rfl, eg, mm_cl_s, if_neg (fun z => by rw [mm_cmp_eq, eq64, tl0] at z; omega), mm_ck_t nz, mm_ck_t nz]
  by_cases v0 : v = 0
  · rw [if_pos v0, if_pos v0]
  · rw [if_neg v0, if_neg v0]
theorem cl_risk {v0 v1 v2 v3 : Int32} (hw : cw F c sp q) (hb : bd sp c) (hs6 : sp.toInt ≤ 6) (g : (0 ≤ v0.toInt ∧ v0.toInt < sp.toInt) ∧ (0 ≤ v1.toInt ∧ v1.toInt / 1000 < 9 ∧ v1.toInt % 1000 ≤ 99) ∧ (0 ≤ v2.toInt ∧ v2.toInt / 10 ≤ 999 ∧ v2.toInt % 10 ≤ 1) ∧ 0 ≤ v3.toInt ∧ v3.toInt ≤ 1) : ∃ q2, x11_risk v0 v1 v2 v3 q = mm_cl (x11_fractionPart (CH F c (GL c v0.toInt.toNat (v1.toInt / 1000).toNat (mm_rem v1 1000) 0) v0.toInt.toNat (v2 / 10) (mm_rem v2 10)).toInt64 12 v3 q2) (fun r q => some (r, q)) ∧ fk q q2 := by
  obtain ⟨g1, g2, ⟨c2, g3, g3'⟩, g4, g5⟩ := g
  have n1 : (v2 / 10).toInt = v2.toInt / 10 := by rw [div_ti (by omega) (by decide), ti10]
  have n2 : (mm_rem v2 10).toInt = v2.toInt % 10 := by rw [rem_ti (by omega) (by decide), ti10]
  obtain ⟨s1, s2, s3⟩ := sk_parts g2
  have hp := nat_of g1.1
  obtain ⟨q1, y1, y2, y3⟩ := take_eq hw hs6 hp (by omega) s1 s2 (mm_rem v1 1000)
  obtain ⟨q2, y4, y5⟩ := chances_eq y2 (by rw [y3.2 8 (by decide)]; exact hw.2.1) hs6 hp (by omega) (v2 / 10) (mm_rem v2 10)
  rw [CH_tk hb F s2] at y4
  refine ⟨q2, ?_, fk_trans (fk_fr y3 (by decide)) (fk_fr y5 (by decide))⟩
  unfold x11_risk
  rw [isSpitter4_eq, mm_cl_s, hw.2.1, if_neg (by rw [mm_p0]; omega), sk11_eq, mm_cl_s, if_neg (by rw [mm_p0]; omega), if_neg (by rw [lt32, ti0]; omega), if_neg (by rw [lt32, ti999]; omega), if_neg (by rw [lt32, ti1]; omega), if_neg (by rw [lt32, ti0]; omega), if_pos (by rw [le32, ti1]; omega), y1, mm_cl_s, y4, mm_cl_s]
theorem cl_risk_no {v0 v1 v2 v3 : Int32} (c2 : 0 ≤ v2.toInt) (g : ¬ ((0 ≤ v0.toInt ∧ v0.toInt < (q.1 8 1).toInt) ∧ (0 ≤ v1.toInt ∧ v1.toInt / 1000 < 9 ∧ v1.toInt % 1000 ≤ 99) ∧ (v2.toInt / 10 ≤ 999 ∧ v2.toInt % 10 ≤ 1) ∧ 0 ≤ v3.toInt ∧ v3.toInt ≤ 1)) : x11_risk v0 v1 v2 v3 q = some (-9223372036854775808, q) := by
  have n1 : (v2 / 10).toInt = v2.toInt / 10 := by rw [div_ti (by omega) (by decide), ti10]
  have n2 : (mm_rem v2 10).toInt = v2.toInt % 10 := by rw [rem_ti (by omega) (by decide), ti10]
  unfold x11_risk
  simp only [isSpitter4_eq, sk11_eq, mm_cl_s, mm_p0, lt32, le32, ti0, ti1, ti999, n1, n2]
  repeat' split
  all_goals first | rfl | (exfalso; omega)
theorem cl_risks {v0 v1 v2 v3 : Int32} {m : Nat} (hw : cw F c sp q) (hb : bd sp c) (hs6 : sp.toInt ≤ 6) (g : (0 ≤ v0.toInt ∧ v0.toInt < sp.toInt) ∧ (0 ≤ v1.toInt ∧ v1.toInt / 1000 < 9 ∧ v1.toInt % 1000 ≤ 99) ∧ (0 ≤ v2.toInt ∧ v2.toInt / 10 ≤ 999) ∧ 0 ≤ v3.toInt ∧ v3.toInt ≤ 2) (hm : v2.toInt % 10 = ((m + 1 : Nat) : Int)) : ∃ q1, x11_risks v0 v1 v2 v3 q = (if v3 = 2 then mm_cl (x7_firstWithRun q1) (fun r15 q16 => if r15 = 0 then some ((0 : Int64), q16) else some ((1 : Int64), q16)) else mm_cl (x11_fractionPart (q1.2 35 7) (q1.2 35 8) v3 q1) (fun r22 q23 => some (r22, q23))) ∧ fk q q1 ∧ (q1.2 35 8).toInt = pw (m + 1) ∧ (q1.2 35 7).toInt = pw (m + 1) - min (Qd (ce F c v0.toInt.toNat (v1.toInt / 1000).toNat (mm_rem v1 1000) (v2 / 10)) 1 m * (12 - (CT F c v0.toInt.toNat (v1.toInt / 1000).toNat (mm_rem v1 1000) (v2 / 10) 0 1).toInt)) (Qd (ce F c v0.toInt.toNat (v1.toInt / 1000).toNat (mm_rem v1 1000) (v2 / 10)) 1 m * (12 - (CT F c v0.toInt.toNat (v1.toInt / 1000).toNat (mm_rem v1 1000) (v2 / 10) 0 0).toInt)) ∧ q1.1 35 9 = if Qd (ce F c v0.toInt.toNat (v1.toInt / 1000).toNat (mm_rem v1 1000) (v2 / 10)) 1 m * (12 - (CT F c v0.toInt.toNat (v1.toInt / 1000).toNat (mm_rem v1 1000) (v2 / 10) 0 1).toInt) < Qd (ce F c v0.toInt.toNat (v1.toInt / 1000).toNat (mm_rem v1 1000) (v2 / 10)) 1 m * (12 - (CT F c v0.toInt.toNat (v1.toInt / 1000).toNat (mm_rem v1 1000) (v2 / 10) 0 0).toInt) then 1 else 0 := by
  obtain ⟨g1, g2, ⟨c2, g3⟩, g4, g5⟩ := g
  have n1 : (v2 / 10).toInt = v2.toInt / 10 := by rw [div_ti (by omega) (by decide), ti10]
  have n2 : (mm_rem v2 10).toInt = v2.toInt % 10 := by rw [rem_ti (by omega) (by decide), ti10]
  obtain ⟨s1, s2, s3⟩ := sk_parts g2
  have hp := nat_of g1.1
  have hn4 : (mm_rem v2 10).toInt = ((m + 1 : Nat) : Int) := by rw [n2, hm]
  have hm9 : m + 1 ≤ 9 := by omega
  have w0 : cw F c sp (mm_sj q 35 8 1) := hw
  obtain ⟨q1, y1, y2, y3, y4, y5⟩ := weigh_h (x := v2 / 10) hb hs6 hp (by omega) s1 s2 hn4 hm9 (f := 999 - m) m 0 1 1 1 (mm_sj q 35 8 1) (by decide) (by omega) tl1 (by omega) (by decide) (by rw [mm_sj_self]; exact tl1) w0
  have fsj : fk q (mm_sj q 35 8 1) := ⟨fun _ _ => rfl, fun k hk => mm_sj_ne q 35 8 _ (fun z => hk (by rw [z]; decide))⟩
  rw [show 0 + 1 = 1 from rfl, Int.one_mul] at y4 y5
  refine ⟨q1, ?_, fk_trans fsj y2, y3, y4, y5⟩
  unfold x11_risks x7_weighTries
  rw [isSpitter4_eq, mm_cl_s, hw.2.1, if_neg (by rw [mm_p0]; omega), sk11_eq, mm_cl_s, if_neg (by rw [mm_p0]; omega), if_neg (by rw [lt32, ti0]; omega), if_neg (by rw [lt32, ti999]; omega), if_neg (by rw [lt32, ti1]; omega), if_neg (by rw [lt32, ti0]; omega), if_pos (by rw [le32, ti2]; omega), mm_lt_s, show mm_fu = 999 - m + m + 1 by show 1000 = _; omega, y1, mm_cl_s]
  rfl
theorem cl_risks_no {v0 v1 v2 v3 : Int32} (c2 : 0 ≤ v2.toInt) (g : ¬ ((0 ≤ v0.toInt ∧ v0.toInt < (q.1 8 1).toInt) ∧ (0 ≤ v1.toInt ∧ v1.toInt / 1000 < 9 ∧ v1.toInt % 1000 ≤ 99) ∧ (v2.toInt / 10 ≤ 999 ∧ 1 ≤ v2.toInt % 10) ∧ 0 ≤ v3.toInt ∧ v3.toInt ≤ 2)) : x11_risks v0 v1 v2 v3 q = some (-9223372036854775808, q) := by
  have n1 : (v2 / 10).toInt = v2.toInt / 10 := by rw [div_ti (by omega) (by decide), ti10]
  have n2 : (mm_rem v2 10).toInt = v2.toInt % 10 := by rw [rem_ti (by omega) (by decide), ti10]
  unfold x11_risks
  simp only [isSpitter4_eq, sk11_eq, mm_cl_s, mm_p0, lt32, le32, ti0, ti1, ti2, ti999, n1, n2]
  repeat' split
  all_goals first | rfl | (exfalso; omega)
/-- w: 1 for what = 0 (skill), 0 for what = 1 (mouth) -/
theorem cl_practice {v0 v1 v2 v3 : Int32} {w : Nat} (hw : cw F c sp q) (hb : bd sp c) (hs6 : sp.toInt ≤ 6) (ht2 : ∀ j, q.1 2 j = mm_t2.getD j 0) (ht3 : ∀ j, q.1 3 j = mm_t3.getD j 0) (g : (0 ≤ v0.toInt ∧ v0.toInt < sp.toInt) ∧ (0 ≤ v1.toInt ∧ v1.toInt / 1000 < 9 ∧ v1.toInt % 1000 ≤ 99) ∧ (0 ≤ v2.toInt ∧ v2.toInt ≤ 999)) (hw1 : w ≤ 1) (h3 : v3.toInt = ((1 - w : Nat) : Int)) : ∃ q1, x11_practice v0 v1 v2 v3 q = some (lst (VW F c v0.toInt.toNat (v1.toInt / 1000).toNat (mm_rem v1 1000) w) v2 (10 - (1 - w)), q1) ∧ fk q q1 := by
  obtain ⟨g1, g2, g3⟩ := g
  obtain ⟨s1, s2, s3⟩ := sk_parts g2
  have hp := nat_of g1.1
  have hX : x11_practice v0 v1 v2 v3 q = if v3 = 0 then mm_cl (x7_leastFor v0 v1 v2 1 q) (fun r12 q13 => some (r12, q13)) else mm_cl (x7_leastFor v0 v1 v2 0 q) (fun r12 q13 => some (r12, q13)) := by
    unfold x11_practice
    rw [isSpitter4_eq, mm_cl_s, hw.2.1, if_neg (by rw [mm_p0]; omega), sk11_eq, mm_cl_s, if_neg (by rw [mm_p0]; omega), if_neg (by rw [lt32, ti0]; omega), if_neg (by rw [lt32, ti999]; omega), if_neg (by rw [lt32, ti0]; omega), if_pos (by rw [le32, ti1]; omega)]
  have go : ∀ a4 : Int32, a4.toInt = ((w : Nat) : Int) → ∃ q1, x7_leastFor v0 v1 v2 a4 q = some (lst (VW F c v0.toInt.toNat (v1.toInt / 1000).toNat (mm_rem v1 1000) w) v2 (10 - (1 - w)), q1) ∧ fk q q1 := by
    intro a4 h4
    have et : x4_told v0 a4 q = some (c (6 * w + v0.toInt.toNat), q) := by
      rw [y_told (j := 6 * w + v0.toInt.toNat) (by rw [hw.2.1, pl_sp hs6 hp (by omega) h4 (by omega)]; omega) (by omega), hw.1]
    have e10 : ∃ q1, x7_leastFor_h15 mm_fu v0 v1 v2 a4 (c (6 * w + v0.toInt.toNat)) 0 q = some (lst (VW F c v0.toInt.toNat (v1.toInt / 1000).toNat (mm_rem v1 1000) w) v2 (10 - (1 - w)), q1) ∧ fr [12, 13, 14] q q1 := by
      rcases (show w = 0 ∨ w = 1 by omega) with rfl | rfl
      · have nx := least_h hb hs6 hp (by omega) s1 s2 h4 (by omega) v2 (f := 989) 9 1 (0 + 1) q (by decide) (by omega) (by omega) hw ht2 ht3
        obtain ⟨q1, y1, y2⟩ := nx
        refine ⟨q1, ?_, y2⟩
        show x7_leastFor_h15 (999 + 1) v0 v1 v2 a4 _ 0 q = _
        rw [x7_leastFor_h15, if_neg (by decide), y_within ht2 ht3 h4 (by omega), mm_cl_s, if_pos (by rw [mm_p0]; decide)]
        exact y1
      · exact least_h hb hs6 hp (by omega) s1 s2 h4 (by omega) v2 (f := 989) 10 0 0 q ti0 (by omega) (by omega) hw ht2 ht3
    obtain ⟨q1, y1, y2⟩ := e10
    refine ⟨q1, ?_, fk_fr y2 (by decide)⟩
    unfold x7_leastFor
    rw [et, mm_cl_s]
    exact y1
  rcases (show w = 0 ∨ w = 1 by omega) with rfl | rfl
  · obtain ⟨q1, y1, y2⟩ := go 0 (by decide)
    exact ⟨q1, by rw [hX, if_neg (by rw [eq32, ti0]; omega), y1, mm_cl_s], y2⟩
  · obtain ⟨q1, y1, y2⟩ := go 1 (by decide)
    exact ⟨q1, by rw [hX, if_pos (by rw [eq32, ti0]; omega), y1, mm_cl_s], y2⟩
theorem cl_practice_no {v0 v1 v2 v3 : Int32} (g : ¬ ((0 ≤ v0.toInt ∧ v0.toInt < (q.1 8 1).toInt) ∧ (0 ≤ v1.toInt ∧ v1.toInt / 1000 < 9 ∧ v1.toInt % 1000 ≤ 99) ∧ (0 ≤ v2.toInt ∧ v2.toInt ≤ 999) ∧ 0 ≤ v3.toInt ∧ v3.toInt ≤ 1)) : x11_practice v0 v1 v2 v3 q = some (-1, q) := by
  unfold x11_practice
  simp only [isSpitter4_eq, sk11_eq, mm_cl_s, mm_p0, lt32, le32, ti0, ti1, ti999]
  repeat' split
  all_goals first | rfl | (exfalso; omega)
theorem cl_steps {v0 v1 : Int32} (hw : cw F c sp q) (hb : bd sp c) (hs6 : sp.toInt ≤ 6) {p : Nat} (hp : v0.toInt = p) (hps : (p : Int) < sp.toInt) (h0 : 0 ≤ v1.toInt) (h1 : v1.toInt ≤ 999) : x11_steps v0 v1 q = some (v1 / c (24 + p), q) := by
  unfold x11_steps
  rw [isSpitter4_eq, mm_cl_s, hw.2.1, if_neg (by rw [mm_p0]; omega), if_neg (by rw [lt32, ti0]; omega), if_pos (by rw [le32, ti999]; omega), (inSteps_eq hb hw.1 hw.2.1 hs6 hp hps).1, mm_cl_s]
theorem cl_steps_no {v0 v1 : Int32} (h1 : ¬ v1.toInt ≤ 999) : x11_steps v0 v1 q = some (-1, q) := by
  unfold x11_steps
  simp only [isSpitter4_eq, mm_cl_s, mm_p0, lt32, le32, ti0, ti999]
  repeat' split
  all_goals first | rfl | (exfalso; omega)
/-- whose steps come to so many: the law's own way -/
def wb (c : Nat → Int32) (x n : Int32) : Nat → Nat → Int32 → Int32
  | 0, _, a => a
  | m + 1, i, a => wb c x n m (i + 1) (if x / c (24 + i) = n then a ||| ((1 : Int32) <<< (Int32.ofNat i &&& 31)) else a)
theorem wb_h (hw : cw F c sp q) (hb : bd sp c) (hs6 : sp.toInt ≤ 6) (x n : Int32) {f : Nat} : ∀ (m i : Nat) (a3 a4 : Int32), a4.toInt = i → (i : Int) + m = sp.toInt → x6_bitsOfSteppers_h5 (f + m + 1) x n a3 a4 q = some (wb c x n m i a3, q) := by
  intro m
  induction m with
  | zero =>
    intro i a3 a4 h1 h2
    rw [x6_bitsOfSteppers_h5]
    unfold x4_size
    rw [mm_cl_s, hw.2.1, if_pos (by rw [le32]; omega)]
    rfl
  | succ m ih =>
    intro i a3 a4 h1 h2
    obtain ⟨e1, e2⟩ := inSteps_eq hb (x := x) hw.1 hw.2.1 hs6 h1 (by omega)
    rw [show f + (m + 1) + 1 = (f + m + 1) + 1 by omega, x6_bitsOfSteppers_h5]
    unfold x4_size
    rw [mm_cl_s, hw.2.1, if_neg (by rw [le32]; omega), e1, mm_cl_s, wb, ← mm_ofn h1]
    by_cases z : x / c (24 + i) = n
    · rw [if_pos z, if_pos z]
      exact ih (i + 1) _ (a4 + 1) (mm_inc1 h1 (by omega)) (by omega)
    · rw [if_neg z, if_neg z]
      exact ih (i + 1) _ (a4 + 1) (mm_inc1 h1 (by omega)) (by omega)
theorem cl_whose {v0 v1 : Int32} (hw : cw F c sp q) (hb : bd sp c) (hs0 : 0 ≤ sp.toInt) (hs6 : sp.toInt ≤ 6) (g : 0 ≤ v0.toInt ∧ v0.toInt ≤ 999 ∧ 0 ≤ v1.toInt ∧ v1.toInt ≤ 999) {m : Nat} (hm : sp.toInt = m) : x11_whose v0 v1 q = some (wb c v0 v1 m 0 0, q) := by
  have y1 := wb_h hw hb hs6 v0 v1 (f := 999 - m) m 0 0 0 ti0 (by omega)
  rw [show 999 - m + m + 1 = mm_fu by show _ = 1000; omega] at y1
  unfold x11_whose x6_bitsOfSteppers
  rw [if_neg (by rw [lt32, ti0]; omega), if_neg (by rw [lt32, ti999]; omega), if_neg (by rw [lt32, ti0]; omega), if_pos (by rw [le32, ti999]; omega), y1, mm_cl_s]
theorem cl_whose_no {v0 v1 : Int32} (h1 : ¬ v0.toInt ≤ 999) : x11_whose v0 v1 q = some (-1, q) := by
  unfold x11_whose
  simp only [lt32, le32, ti0, ti999]
  repeat' split
  all_goals first | rfl | (exfalso; omega)
theorem cl_drawn {v0 v1 v2 v3 : Int32} {m : Nat} (hw : cw F c sp q) (hb : bd sp c) (hs6 : sp.toInt ≤ 6) (g : (0 ≤ v0.toInt ∧ v0.toInt < sp.toInt) ∧ (0 ≤ v1.toInt ∧ v1.toInt / 1000 < 9 ∧ v1.toInt % 1000 ≤ 99) ∧ (100 ≤ v3.toInt ∧ v3.toInt ≤ 9999) ∧ v3.toInt / 10 % 10 ≤ 1 ∧ v3.toInt % 10 ≤ 1) (hm : v3.toInt / 100 = m) : ∃ q1, x11_drawn v0 v1 v2 v3 q = some (if mm_rem v3 10 = 0 then (dr F c v0.toInt.toNat (v1.toInt / 1000).toNat (mm_rem v1 1000) (mm_rem (v3 / 10) 10) m v2 0 0 0).1 else (dr F c v0.toInt.toNat (v1.toInt / 1000).toNat (mm_rem v1 1000) (mm_rem (v3 / 10) 10) m v2 0 0 0).2, q1) ∧ fk q q1 := by
  obtain ⟨g1, g2, g3, g4, g5⟩ := g
  obtain ⟨s1, s2, s3⟩ := sk_parts g2
  have hp := nat_of g1.1
  have n1 : (v3 / 100).toInt = v3.toInt / 100 := by rw [div_ti (by omega) (by decide), ti100]
  have n2 : (v3 / 10).toInt = v3.toInt / 10 := by rw [div_ti (by omega) (by decide), ti10]
  have n3 : (mm_rem v3 10).toInt = v3.toInt % 10 := by rw [rem_ti (by omega) (by decide), ti10]
  have n4 : (mm_rem (v3 / 10) 10).toInt = v3.toInt / 10 % 10 := by rw [rem_ti (by omega) (by decide), ti10, n2]
  obtain ⟨q1, y1, y2⟩ := draw_h (a4 := v3) (a6 := mm_rem (v3 / 10) 10) hb hs6 hp (by omega) s1 s2 (a5 := v3 / 100) (f := 999 - m) m 0 v2 0 0 0 q ti0 (by omega) (by omega) (by rw [ti0]; omega) hw
  rw [show 999 - m + m + 1 = mm_fu by show _ = 1000; omega] at y1
  refine ⟨q1, ?_, fk_fr y2 (by decide)⟩
  unfold x11_drawn x7_draw
  rw [isSpitter4_eq, mm_cl_s, hw.2.1, if_neg (by rw [mm_p0]; omega), sk11_eq, mm_cl_s, if_neg (by rw [mm_p0]; omega), if_neg (by rw [lt32, ti100]; omega), if_neg (by rw [lt32, show (9999 : Int32).toInt = 9999 from by decide]; omega), if_neg (by rw [lt32, ti1]; omega), if_pos (by rw [le32, ti1]; omega), y1, mm_cl_s]
theorem cl_drawn_no {v0 v1 v2 v3 : Int32} (hc : 0 ≤ v3.toInt) (g : ¬ ((100 ≤ v3.toInt ∧ v3.toInt ≤ 9999) ∧ v3.toInt / 10 % 10 ≤ 1 ∧ v3.toInt % 10 ≤ 1)) : x11_drawn v0 v1 v2 v3 q = some (-1, q) := by
  have n2 : (v3 / 10).toInt = v3.toInt / 10 := by rw [div_ti (by omega) (by decide), ti10]
  have n3 : (mm_rem v3 10).toInt = v3.toInt % 10 := by rw [rem_ti (by omega) (by decide), ti10]
  have n4 : (mm_rem (v3 / 10) 10).toInt = v3.toInt / 10 % 10 := by rw [rem_ti (by omega) (by decide), ti10, n2]
  unfold x11_drawn
  simp only [isSpitter4_eq, sk11_eq, mm_cl_s, mm_p0, lt32, le32, ti0, ti1, ti100, n3, n4, show (9999 : Int32).toInt = 9999 from by decide]
  repeat' split
  all_goals first | rfl | (exfalso; omega)
end CLS
