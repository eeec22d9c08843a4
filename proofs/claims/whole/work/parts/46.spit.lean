/-! spitting in deed -/
theorem spit_shelf {j : Nat} (hj : j < 6) : (16 + 2 * j) ∉ [12, 13, 14, 48] ∧ (16 + 2 * j) ∉ [52, 59, 60, 61, 65, 66, 67] := by
  rcases (show j = 0 ∨ j = 1 ∨ j = 2 ∨ j = 3 ∨ j = 4 ∨ j = 5 by omega) with rfl | rfl | rfl | rfl | rfl | rfl <;> decide
theorem mm_Iv_deed {q q2 : mm_Q} (h : mm_Iv mm_LX q) (e : ∀ k, k ∉ [12, 13, 14, 48] → k ∉ [52, 59, 60, 61, 65, 66, 67] → q2.1 k = q.1 k) (el : q2.2 = q.2) (e52 : ∀ j, j ∉ [11, 12, 13, 14, 15, 32, 33, 34] → q2.1 52 j = q.1 52 j) (hdd : iv_deed (q.1 8 1) (q2.1 52 32) (q2.1 52 33) (q2.1 52 34) (q2.1 48) (q2.1 65) (q2.1 66) (q2.1 67)) (hl : mm_LX (q2.1 11) (q2.1 10 3) (q2.1 58) (q2.1 52 10) (q2.1 60) (q2.1 61)) : mm_Iv mm_LX q2 := by
  obtain ⟨h1, h2, h3, h4, h5, h6, h7, h8, h9, h10⟩ := h
  have g1 := e 1 (by decide) (by decide)
  have g2 := e 2 (by decide) (by decide)
  have g3 := e 3 (by decide) (by decide)
  have g5 := e 5 (by decide) (by decide)
  have g6 := e 6 (by decide) (by decide)
  have g8 := e 8 (by decide) (by decide)
  have g9 := e 9 (by decide) (by decide)
  have g28 := e 28 (by decide) (by decide)
  have g29 := e 29 (by decide) (by decide)
  have g31 := e 31 (by decide) (by decide)
  have g32 := e 32 (by decide) (by decide)
  have g33 := e 33 (by decide) (by decide)
  have g34 := e 34 (by decide) (by decide)
  have g46 := e 46 (by decide) (by decide)
  have g47 := e 47 (by decide) (by decide)
  have g49 := e 49 (by decide) (by decide)
  have g50 := e 50 (by decide) (by decide)
  have g51 := e 51 (by decide) (by decide)
  have g53 := e 53 (by decide) (by decide)
  have g54 := e 54 (by decide) (by decide)
  have g55 := e 55 (by decide) (by decide)
  have g56 := e 56 (by decide) (by decide)
  have g57 := e 57 (by decide) (by decide)
  have g68 := e 68 (by decide) (by decide)
  have g69 := e 69 (by decide) (by decide)
  have g70 := e 70 (by decide) (by decide)
  have r4 := e52 4 (by decide)
  have r5 := e52 5 (by decide)
  have r6 := e52 6 (by decide)
  have r8 := e52 8 (by decide)
  have r17 := e52 17 (by decide)
  have r35 := e52 35 (by decide)
  have r36 := e52 36 (by decide)
  have r38 := e52 38 (by decide)
  have r41 := e52 41 (by decide)
  have h8' : iv_shf (q.1 49 2) q2 := by
    rw [iv_shf_all]
    intro j hj
    have a := spit_shelf hj
    rw [e (16 + 2 * j) a.1 a.2, e 71 (by decide) (by decide), e 72 (by decide) (by decide), el]
    exact iv_shf_all.mp h8 j hj
  unfold mm_Iv
  rw [el, g1, g2, g3, g5, g6, g8, g9, g28, g29, g31, g32, g33, g34, g46, g47, g49, g50, g51, g53, g54, g55, g56, g57, g68, g69, g70, r4, r5, r6, r8, r17, r35, r36, r38, r41]
  exact ⟨h1, h2, h3, h4, hdd, h6, h7, h8', hl, h10⟩
/-- 1 or 0 more -/
abbrev one (P : Prop) [Decidable P] : Int32 := if P then 1 else 0
theorem y_note {q : mm_Q} {a1 : Int32} {p : Nat} (hp : a1.toInt = p) (h6 : p < 6) (v : Int32) (H B : Prop) [Decidable H] [Decidable B] : ∃ q', x3_note a1 v (mm_p H) (mm_p B) q = some ((), q') ∧ fr [48] q q' ∧ (∀ j, j < 18 → j ≠ 3 * p → j ≠ 3 * p + 1 → j ≠ 3 * p + 2 → q'.1 48 j = q.1 48 j) ∧ q'.1 48 (3 * p) = q.1 48 (3 * p) + v ∧ q'.1 48 (3 * p + 1) = mm_max (q.1 48 (3 * p + 1)) v ∧ q'.1 48 (3 * p + 2) = q.1 48 (3 * p + 2) + 1 ∧ q'.1 48 18 = q.1 48 18 + 1 ∧ q'.1 48 19 = (q.1 48 19 + one H) ∧ q'.1 48 20 = q.1 48 20 + one B := by
  have l0 : ((3 : Int32) * a1 + 0).toInt = ((3 * p : Nat) : Int) := mm_lin (m := 3) (n := 0) hp ti3 ti0 (by omega)
  have l1 : ((3 : Int32) * a1 + 1).toInt = ((3 * p + 1 : Nat) : Int) := mm_lin (m := 3) (n := 1) hp ti3 ti1 (by omega)
  have l2 : ((3 : Int32) * a1 + 2).toInt = ((3 * p + 2 : Nat) : Int) := mm_lin (m := 3) (n := 2) hp ti3 ti2 (by omega)
  obtain ⟨N, hN⟩ : ∃ N : Nat → Int32, N = upd (upd (upd (upd (q.1 48) (3 * p) (q.1 48 (3 * p) + v)) (3 * p + 1) (mm_max (q.1 48 (3 * p + 1)) v)) (3 * p + 2) (q.1 48 (3 * p + 2) + 1)) 18 (q.1 48 18 + 1) := ⟨_, rfl⟩
  obtain ⟨q4, e4, f4, g4⟩ : ∃ q4, x3_note a1 v (mm_p H) (mm_p B) q = (if mm_p H = 0 then x3_note_j90 (mm_p B) q4 else mm_lt (mm_si q4 48 19 ((q4.1 48 19) + (1 : Int32))) (fun q14 => (x3_note_j90 (mm_p B) q14))) ∧ fr [48] q q4 ∧ q4.1 48 = N := by
    refine ⟨mm_si (mm_si (mm_si (mm_si q 48 (3 * p) (q.1 48 (3 * p) + v)) 48 (3 * p + 1) (mm_max (q.1 48 (3 * p + 1)) v)) 48 (3 * p + 2) (q.1 48 (3 * p + 2) + 1)) 48 18 (q.1 48 18 + 1), ?_, fr_trans (fr_trans (fr_trans (fr_si _ _ _ (by decide)) (fr_si _ _ _ (by decide))) (fr_si _ _ _ (by decide))) (fr_si _ _ _ (by decide)), ?_⟩
    · unfold x3_note
      rw [if_neg (by rw [lt32, ti0]; omega), if_pos (by rw [lt32, ti6]; omega), mm_ck_t (mm_inb_c l0 (by omega)), mm_ck_t (mm_inb_c l0 (by omega)), mm_lt_s, mm_ck_t (mm_inb_c l1 (by omega)), mm_ck_t (mm_inb_c l1 (by omega)), mm_lt_s, mm_ck_t (mm_inb_c l2 (by omega)), mm_ck_t (mm_inb_c l2 (by omega)), mm_lt_s, mm_lt_s, mm_tcn l0, mm_tcn l1, mm_tcn l2]
      have u1 : (mm_si q 48 (3 * p) (q.1 48 (3 * p) + v)).1 48 (3 * p + 1) = q.1 48 (3 * p + 1) := by rw [mm_si_self, upd_ne _ _ _ (by omega)]
      rw [u1]
      have u2 : (mm_si (mm_si q 48 (3 * p) (q.1 48 (3 * p) + v)) 48 (3 * p + 1) (mm_max (q.1 48 (3 * p + 1)) v)).1 48 (3 * p + 2) = q.1 48 (3 * p + 2) := by rw [mm_si_self, upd_ne _ _ _ (by omega), mm_si_self, upd_ne _ _ _ (by omega)]
      rw [u2]
      have u3 : (mm_si (mm_si (mm_si q 48 (3 * p) (q.1 48 (3 * p) + v)) 48 (3 * p + 1) (mm_max (q.1 48 (3 * p + 1)) v)) 48 (3 * p + 2) (q.1 48 (3 * p + 2) + 1)).1 48 18 = q.1 48 18 := by rw [mm_si_self, upd_ne _ _ _ (by omega), mm_si_self, upd_ne _ _ _ (by omega), mm_si_self, upd_ne _ _ _ (by omega)]
      rw [u3]
    · rw [mm_si_self, mm_si_self, mm_si_self, mm_si_self, hN]
  obtain ⟨q5, e5, f5, g5⟩ : ∃ q5, x3_note a1 v (mm_p H) (mm_p B) q = x3_note_j90 (mm_p B) q5 ∧ fr [48] q q5 ∧ q5.1 48 = upd N 19 (q.1 48 19 + one H) := by
    have n19 : N 19 = q.1 48 19 := by rw [hN, upd_ne _ _ _ (by omega), upd_ne _ _ _ (by omega), upd_ne _ _ _ (by omega), upd_ne _ _ _ (by omega)]
    by_cases c : H
    · refine ⟨_, by rw [e4, if_neg (by rw [mm_p0]; exact fun w => w c), mm_lt_s], fr_trans f4 (fr_si _ _ _ (by decide)), ?_⟩
      rw [mm_si_self, g4, n19, show one H = 1 from if_pos c]
    · refine ⟨q4, by rw [e4, if_pos (by rw [mm_p0]; exact c)], f4, ?_⟩
      rw [g4, show one H = 0 from if_neg c, Int32.add_zero, ← n19]
      funext j
      by_cases e : j = 19
      · rw [e, upd_self]
      · rw [upd_ne _ _ _ e]
  have n20 : upd N 19 (q.1 48 19 + one H) 20 = q.1 48 20 := by rw [upd_ne _ _ _ (by omega), hN, upd_ne _ _ _ (by omega), upd_ne _ _ _ (by omega), upd_ne _ _ _ (by omega), upd_ne _ _ _ (by omega)]
  obtain ⟨q6, e6, f6, g6⟩ : ∃ q6, x3_note a1 v (mm_p H) (mm_p B) q = some ((), q6) ∧ fr [48] q q6 ∧ q6.1 48 = upd (upd N 19 (q.1 48 19 + one H)) 20 (q.1 48 20 + one B) := by
    unfold x3_note_j90 at e5
    by_cases c : B
    · refine ⟨_, by rw [e5, if_neg (by rw [mm_p0]; exact fun w => w c), mm_lt_s], fr_trans f5 (fr_si _ _ _ (by decide)), ?_⟩
      rw [mm_si_self, g5, n20, show one B = 1 from if_pos c]
    · refine ⟨q5, by rw [e5, if_pos (by rw [mm_p0]; exact c)], f5, ?_⟩
      rw [g5, show one B = 0 from if_neg c, Int32.add_zero, ← n20]
      funext j
      by_cases e : j = 20
      · rw [e, upd_self]
      · rw [upd_ne _ _ _ e]
  refine ⟨q6, e6, f6, fun j hj h0 h1 h2 => ?_, ?_, ?_, ?_, ?_, ?_, ?_⟩
  · rw [g6, upd_ne _ _ _ (by omega), upd_ne _ _ _ (by omega), hN, upd_ne _ _ _ (by omega), upd_ne _ _ _ (by omega), upd_ne _ _ _ (by omega), upd_ne _ _ _ (by omega)]
  · rw [g6, upd_ne _ _ _ (by omega), upd_ne _ _ _ (by omega), hN, upd_ne _ _ _ (by omega), upd_ne _ _ _ (by omega), upd_ne _ _ _ (by omega), upd_self]
  · rw [g6, upd_ne _ _ _ (by omega), upd_ne _ _ _ (by omega), hN, upd_ne _ _ _ (by omega), upd_ne _ _ _ (by omega), upd_self]
  · rw [g6, upd_ne _ _ _ (by omega), upd_ne _ _ _ (by omega), hN, upd_ne _ _ _ (by omega), upd_self]
  · rw [g6, upd_ne _ _ _ (by omega), upd_ne _ _ _ (by omega), hN, upd_self]
  · rw [g6, upd_ne _ _ _ (by omega), upd_self]
  · rw [g6, upd_self]
theorem mm_best_up {b m v : Int32} (h : mm_best b m) (h0 : 0 ≤ v.toInt) (h1 : v.toInt ≤ 129) : mm_best (mm_max b v) (if v + 1 ≤ m then m else v + 1) := by
  have e1 : (v + 1).toInt = v.toInt + 1 := by rw [mm_add_ti (by rw [ti1]; omega) (by rw [ti1]; omega), ti1]
  unfold mm_best
  refine Or.inr ?_
  rw [max_ti]
  rcases h with ⟨rfl, rfl⟩ | ⟨a, b', c⟩
  · rw [if_neg (by rw [le32, e1, ti0]; omega), e1, tin2]
    omega
  · by_cases z : v + 1 ≤ m
    · rw [if_pos z]
      rw [le32, e1] at z
      omega
    · rw [if_neg z, e1]
      rw [le32, e1] at z
      omega
theorem pr_spit (v0 v1 v2 : Int32) : mm_pr (mm_Iv mm_LX) (x11_spit v0 v1 v2) (x12_spit v0 v1 v2) := by
  intro q h
  obtain ⟨F, hw, hb, ⟨hs0, hs6⟩, e6, hx, hd⟩ := mm_think h
  obtain ⟨t1, t2, t3⟩ := h.2.2.2.2.1
  by_cases g : (0 ≤ v0.toInt ∧ v0.toInt < (q.1 8 1).toInt) ∧ (0 ≤ v1.toInt ∧ v1.toInt ≤ 8) ∧ (0 ≤ v2.toInt ∧ v2.toInt / 10 < 9 ∧ v2.toInt % 10 ≤ 1)
  · obtain ⟨g1, g2, g3⟩ := g
    have hp := nat_of g1.1
    have hs := nat_of g2.1
    obtain ⟨p, hpp⟩ : ∃ p, p = v0.toInt.toNat := ⟨_, rfl⟩
    obtain ⟨s, hss⟩ : ∃ s, s = v1.toInt.toNat := ⟨_, rfl⟩
    rw [← hpp] at hp
    rw [← hss] at hs
    have h6 : p < 6 := by omega
    have kk : x3_ofOne v0 2 q = some (q.1 48 (3 * p + 2), q) := by
      have e := mm_lin (m := 3) (n := 2) hp ti3 ti2 (by omega)
      unfold x3_ofOne
      rw [if_neg (by rw [lt32, ti0]; omega), if_neg (by rw [le32, ti18]; omega), mm_ck_t (mm_inb_c e (by omega)), mm_tcn e]
    obtain ⟨q1, q2, y1, y2, y3, y4⟩ := take_land hw hb hs6 hp (by omega) hs (by omega) (q.1 48 (3 * p + 2)) (v2 / 10) (mm_rem v2 10)
    obtain ⟨L, hL⟩ : ∃ L, L = LN F (GL (q.1 9) p s (q.1 48 (3 * p + 2)) 0) (v2 / 10) (mm_rem v2 10) := ⟨_, rfl⟩
    rw [← hL] at y2
    have Lr : 0 ≤ L.toInt ∧ L.toInt ≤ 999 := by rw [hL]; exact LN_rng _ _ _ _
    have pr := pnt_rng hb Lr.1 Lr.2
    obtain ⟨q3, z1, z2, z3, z4, z5, z6, z7, z8, z9⟩ := y_note (q := q2) hp h6 (pnt (q.1 9) L) (L = q.1 9 52) (inB (q.1 9) L)
    have f3 : fr [12, 13, 14, 48] q q3 := fr_trans (fr_mono y3 (by decide)) (fr_mono z2 (by decide))
    have g48 : q2.1 48 = q.1 48 := y3.2 48 (by decide)
    rw [g48] at z3 z4 z5 z6 z7 z8 z9
    have hx3 : rx F (q.1 9) (q.1 8 1) 0 q3 := by
      have a := hx q (fk_rfl q)
      refine ⟨fun j hj => by rw [f3.2 53 (by decide)]; exact a.1 j hj, by rw [f3.2 52 (by decide)]; exact a.2.1, by rw [f3.2 52 (by decide)]; exact a.2.2.1, ?_⟩
      rw [f3.2 58 (by decide), f3.2 52 (by decide), f3.2 60 (by decide), f3.2 61 (by decide)]
      exact a.2.2.2
    obtain ⟨q4, u1, u2, u3⟩ := landsAt_eq hx3 hp h6 hs (by omega) (q.1 48 (3 * p + 2)) (v2 / 10) (mm_rem v2 10)
    rw [← hL] at u1
    have f52 : q3.1 52 6 = q.1 8 1 := hx3.2.1
    have b65 : q3.1 65 p = q.1 48 (3 * p + 2) := by rw [f3.2 65 (by decide), (t1 p h6).2.1]
    have k65 : q4.1 65 = q.1 65 := by rw [u2.1.2 65 (by decide), f3.2 65 (by decide)]
    have k66 : q4.1 66 = q.1 66 := by rw [u2.1.2 66 (by decide), f3.2 66 (by decide)]
    have k67 : q4.1 67 = q.1 67 := by rw [u2.1.2 67 (by decide), f3.2 67 (by decide)]
    have k52 : ∀ j, j ∉ [11, 12, 13, 14, 15] → q4.1 52 j = q.1 52 j := fun j hj => by rw [u2.2 j hj, f3.2 52 (by decide)]
    have in6 : mm_inb v0 6 = true := mm_inb_c hp h6
    have hX : x11_spit v0 v1 v2 q = some (pnt (q.1 9) L, q3) := by
      unfold x11_spit x3_sinceRest
      rw [isSpitter4_eq, mm_cl_s, if_neg (by rw [mm_p0]; omega), if_neg (by rw [lt32, ti0]; omega), if_neg (by rw [le32, ti9]; omega), how11_eq, mm_cl_s, if_neg (by rw [mm_p0]; omega), kk, mm_cl_s, mm_cl_s, y1, mm_cl_s, y2, mm_cl_s, pointsOf_eq, mm_cl_s, isHit_eq, mm_cl_s, isInBarrel_eq, mm_cl_s, y4.1, z1, mm_cl_s]
    -- the reference's cells, one after the other
    obtain ⟨m67, hm67⟩ : ∃ m67, m67 = if pnt (q.1 9) L + 1 ≤ q.1 67 p then q.1 67 p else pnt (q.1 9) L + 1 := ⟨_, rfl⟩
    obtain ⟨qe, hqe⟩ : ∃ qe, qe = mm_si (mm_si (mm_si (mm_si (mm_si (mm_si q4 65 p (q.1 65 p + 1)) 66 p (q.1 66 p + pnt (q.1 9) L)) 67 p m67) 52 32 (q.1 52 32 + 1)) 52 33 (q.1 52 33 + one (L = q.1 9 52))) 52 34 (q.1 52 34 + one (inB (q.1 9) L)) := ⟨_, rfl⟩
    have hM : x12_spit v0 v1 v2 q3 = some (pnt (q.1 9) L, qe) := by
      unfold x12_spit
      rw [isSpitter12_eq (by rw [f52]; exact hs0), mm_cl_s, mm_i64, f52, if_neg (by rw [mm_p0]; omega), isStone12_eq, mm_cl_s, if_neg (by rw [mm_p0]; omega), how12_eq, mm_cl_s, if_neg (by rw [mm_p0]; omega), mm_ck_t in6, mm_tcn hp, b65, u1, mm_cl_s, pointsFrom_eq hb Lr.1 Lr.2 u3.1, mm_cl_s, mm_ck_t in6, mm_ck_t in6, mm_lt_s, mm_ck_t in6, mm_ck_t in6, mm_lt_s, mm_ck_t in6, mm_ck_t in6]
      have e65 : q4.1 65 p = q.1 65 p := by rw [k65]
      have e66 : (mm_si q4 65 p (q.1 65 p + 1)).1 66 p = q.1 66 p := by rw [mm_si_ne _ _ _ _ (by decide), k66]
      have e67 : (mm_si (mm_si q4 65 p (q.1 65 p + 1)) 66 p (q.1 66 p + pnt (q.1 9) L)).1 67 p = q.1 67 p := by rw [mm_si_ne _ _ _ _ (by decide), mm_si_ne _ _ _ _ (by decide), k67]
      rw [e65, e66, e67]
      have j107 : ∀ s2 : Int32, x12_spit_j107 L (pnt (q.1 9) L) v0 s2 (mm_si (mm_si q4 65 p (q.1 65 p + 1)) 66 p (q.1 66 p + pnt (q.1 9) L)) = some (pnt (q.1 9) L, mm_si (mm_si (mm_si (mm_si (mm_si (mm_si q4 65 p (q.1 65 p + 1)) 66 p (q.1 66 p + pnt (q.1 9) L)) 67 p s2) 52 32 (q.1 52 32 + 1)) 52 33 (q.1 52 33 + one (L = q.1 9 52))) 52 34 (q.1 52 34 + one (inB (q.1 9) L))) := by
        intro s2
        have r32 : (mm_si (mm_si (mm_si q4 65 p (q.1 65 p + 1)) 66 p (q.1 66 p + pnt (q.1 9) L)) 67 p s2).1 52 32 = q.1 52 32 := k52 32 (by decide)
        have r53 : (mm_si (mm_si (mm_si (mm_si q4 65 p (q.1 65 p + 1)) 66 p (q.1 66 p + pnt (q.1 9) L)) 67 p s2) 52 32 (q.1 52 32 + 1)).1 53 52 = q.1 9 52 := u3.1 52 (by decide)
        have r33 : (mm_si (mm_si (mm_si (mm_si q4 65 p (q.1 65 p + 1)) 66 p (q.1 66 p + pnt (q.1 9) L)) 67 p s2) 52 32 (q.1 52 32 + 1)).1 52 33 = q.1 52 33 := k52 33 (by decide)
        have j140 : ∀ w : Int32, x12_spit_j140 L (pnt (q.1 9) L) (q.1 52 33) w (mm_si (mm_si (mm_si (mm_si q4 65 p (q.1 65 p + 1)) 66 p (q.1 66 p + pnt (q.1 9) L)) 67 p s2) 52 32 (q.1 52 32 + 1)) = some (pnt (q.1 9) L, mm_si (mm_si (mm_si (mm_si (mm_si (mm_si q4 65 p (q.1 65 p + 1)) 66 p (q.1 66 p + pnt (q.1 9) L)) 67 p s2) 52 32 (q.1 52 32 + 1)) 52 33 (q.1 52 33 + w)) 52 34 (q.1 52 34 + one (inB (q.1 9) L))) := by
          intro w
          have r34 : (mm_si (mm_si (mm_si (mm_si (mm_si q4 65 p (q.1 65 p + 1)) 66 p (q.1 66 p + pnt (q.1 9) L)) 67 p s2) 52 32 (q.1 52 32 + 1)) 52 33 (q.1 52 33 + w)).1 52 34 = q.1 52 34 := k52 34 (by decide)
          unfold x12_spit_j140 x12_spit_j163
          rw [mm_lt_s, inBarrel12_eq (q := mm_si (mm_si (mm_si (mm_si (mm_si q4 65 p (q.1 65 p + 1)) 66 p (q.1 66 p + pnt (q.1 9) L)) 67 p s2) 52 32 (q.1 52 32 + 1)) 52 33 (q.1 52 33 + w)) hb Lr.1 Lr.2 (fun j hj => u3.1 j hj), mm_cl_s, r34, mm_lt_s, mm_lt_s]
          by_cases c : inB (q.1 9) L
          · rw [if_neg (by rw [mm_p0]; exact fun w => w c), show one (inB (q.1 9) L) = 1 from if_pos c]
          · rw [if_pos (by rw [mm_p0]; exact c), show one (inB (q.1 9) L) = 0 from if_neg c]
        unfold x12_spit_j107
        rw [mm_ck_t in6, mm_tcn hp, mm_lt_s, r32, mm_lt_s, r53, r33, j140, j140]
        by_cases c : L = q.1 9 52
        · rw [if_pos c, show one (L = q.1 9 52) = 1 from if_pos c]
        · rw [if_neg c, show one (L = q.1 9 52) = 0 from if_neg c]
      rw [j107, j107, hqe, hm67]
      by_cases c : pnt (q.1 9) L + 1 ≤ q.1 67 p
      · rw [if_pos c, if_pos c]
      · rw [if_neg c, if_neg c]
    have c65 : qe.1 65 = upd (q.1 65) p (q.1 65 p + 1) := by
      rw [hqe, mm_si_ne _ _ _ _ (by decide), mm_si_ne _ _ _ _ (by decide), mm_si_ne _ _ _ _ (by decide), mm_si_ne _ _ _ _ (by decide), mm_si_ne _ _ _ _ (by decide), mm_si_self, k65]
    have c66 : qe.1 66 = upd (q.1 66) p (q.1 66 p + pnt (q.1 9) L) := by
      rw [hqe, mm_si_ne _ _ _ _ (by decide), mm_si_ne _ _ _ _ (by decide), mm_si_ne _ _ _ _ (by decide), mm_si_ne _ _ _ _ (by decide), mm_si_self, mm_si_ne _ _ _ _ (by decide), k66]
    have c67 : qe.1 67 = upd (q.1 67) p m67 := by
      rw [hqe, mm_si_ne _ _ _ _ (by decide), mm_si_ne _ _ _ _ (by decide), mm_si_ne _ _ _ _ (by decide), mm_si_self, mm_si_ne _ _ _ _ (by decide), mm_si_ne _ _ _ _ (by decide), k67]
    have co : ∀ k, k ≠ 52 → k ≠ 65 → k ≠ 66 → k ≠ 67 → qe.1 k = q4.1 k := fun k a b c d => by
      rw [hqe, mm_si_ne _ _ _ _ a, mm_si_ne _ _ _ _ a, mm_si_ne _ _ _ _ a, mm_si_ne _ _ _ _ d, mm_si_ne _ _ _ _ c, mm_si_ne _ _ _ _ b]
    have c52 : ∀ j, j ≠ 32 → j ≠ 33 → j ≠ 34 → qe.1 52 j = q4.1 52 j := fun j a b c => by
      rw [hqe, mm_si_self, upd_ne _ _ _ c, mm_si_self, upd_ne _ _ _ b, mm_si_self, upd_ne _ _ _ a, mm_si_ne _ _ _ _ (by decide), mm_si_ne _ _ _ _ (by decide), mm_si_ne _ _ _ _ (by decide)]
    have c32 : qe.1 52 32 = q.1 52 32 + 1 := by
      rw [hqe, mm_si_self, upd_ne _ _ _ (by decide), mm_si_self, upd_ne _ _ _ (by decide), mm_si_self, upd_self]
    have c33 : qe.1 52 33 = q.1 52 33 + one (L = q.1 9 52) := by
      rw [hqe, mm_si_self, upd_ne _ _ _ (by decide), mm_si_self, upd_self]
    have c34 : qe.1 52 34 = q.1 52 34 + one (inB (q.1 9) L) := by
      rw [hqe, mm_si_self, upd_self]
    have c48 : qe.1 48 = q3.1 48 := by rw [co 48 (by decide) (by decide) (by decide) (by decide), u2.1.2 48 (by decide)]
    refine ⟨pnt (q.1 9) L, q3, qe, hX, by rw [f3.2 0 (by decide)], hM, mm_Iv_deed h (fun k a b => ?_) ?_ (fun j hj => ?_) ?_ ?_⟩
    · rw [co k (fun z => b (by rw [z]; decide)) (fun z => b (by rw [z]; decide)) (fun z => b (by rw [z]; decide)) (fun z => b (by rw [z]; decide)), u2.1.2 k (fun z => b (by
        rcases List.mem_cons.mp z with z | z
        · rw [z]; decide
        rcases List.mem_cons.mp z with z | z
        · rw [z]; decide
        rcases List.mem_cons.mp z with z | z
        · rw [z]; decide
        · rw [List.mem_singleton.mp z]; decide)), f3.2 k a]
    · rw [hqe]
      show q4.2 = q.2
      rw [u2.1.1, f3.1]
    · rw [c52 j (fun z => hj (by rw [z]; decide)) (fun z => hj (by rw [z]; decide)) (fun z => hj (by rw [z]; decide))]
      exact k52 j (fun z => hj (by
        rcases List.mem_cons.mp z with z | z
        · rw [z]; decide
        rcases List.mem_cons.mp z with z | z
        · rw [z]; decide
        rcases List.mem_cons.mp z with z | z
        · rw [z]; decide
        rcases List.mem_cons.mp z with z | z
        · rw [z]; decide
        · rw [List.mem_singleton.mp z]; decide))
    · rw [c65, c66, c67, c32, c33, c34, c48]
      refine ⟨fun i hi => ?_, ⟨by rw [z7, t2.1], by rw [z8, t2.2.1], by rw [z9, t2.2.2]⟩, fun i hi hsi => ?_⟩
      · have a := t1 i hi
        by_cases e : i = p
        · subst e
          rw [upd_self, upd_self, upd_self, z4, z5, z6, a.1, a.2.1, hm67]
          exact ⟨rfl, rfl, mm_best_up a.2.2 pr.1 (by omega)⟩
        · rw [upd_ne _ _ _ e, upd_ne _ _ _ e, upd_ne _ _ _ e, z3 (3 * i) (by omega) (by omega) (by omega) (by omega), z3 (3 * i + 1) (by omega) (by omega) (by omega) (by omega), z3 (3 * i + 2) (by omega) (by omega) (by omega) (by omega)]
          exact a
      · have e : i ≠ p := by omega
        rw [upd_ne _ _ _ e, upd_ne _ _ _ e, upd_ne _ _ _ e]
        exact t3 i hi hsi
    · refine ⟨F, ?_, ?_⟩
      · rw [co 11 (by decide) (by decide) (by decide) (by decide), co 10 (by decide) (by decide) (by decide) (by decide), u2.1.2 11 (by decide), u2.1.2 10 (by decide), f3.2 11 (by decide), f3.2 10 (by decide)]
        exact hw.2.2
      · rw [co 58 (by decide) (by decide) (by decide) (by decide), co 60 (by decide) (by decide) (by decide) (by decide), co 61 (by decide) (by decide) (by decide) (by decide), c52 10 (by decide) (by decide) (by decide)]
        exact u3.2.2.2
  · refine ⟨-1, q, q, ?_, rfl, ?_, h⟩
    · unfold x11_spit
      simp only [isSpitter4_eq, how11_eq, mm_cl_s, mm_p0, lt32, le32, ti0, ti9]
      repeat' split
      all_goals first | rfl | (exfalso; omega)
    · unfold x12_spit
      simp only [isSpitter12_eq (show 0 ≤ (q.1 52 6).toInt by rw [e6]; exact hs0), isStone12_eq, how12_eq, mm_cl_s, mm_p0, mm_i64, e6]
      repeat' split
      all_goals first | rfl | (exfalso; omega)
