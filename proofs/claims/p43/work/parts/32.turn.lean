/-! a turn: tries at all angles, the best angles, and all that follows -/
section LT
variable {F : mm_F} {c : Nat → Int32} {sp : Int32} {xs : Nat → Int32} {len : Nat} {rr50 : Nat → Int32 → mm_Q → Option (Int32 × mm_Q)} {t : Nat} {a6 a7 a8 a9 a10 a11 : Int32} {p s : Nat}
/-- one of the best, as the two rows of the turn hold it -/
def R2 (t i : Nat) (b : Int32 × Int32) (q : mm_Q) : Prop := q.1 (56 + 3 * t) i = b.1 ∧ q.1 (56 + (3 * t + 1)) i = b.2
theorem R2_set (t i : Nat) (k v : Int32) (q : mm_Q) : R2 t i (k, v) (mm_si (mm_si q (56 + (3 * t + 1)) i v) (56 + 3 * t) i k) := by
  refine ⟨?_, ?_⟩
  · rw [mm_si_self, upd_self]
  · rw [mm_si_ne _ _ _ _ (by omega), mm_si_self, upd_self]
theorem R2_ne {t i j : Nat} {k v : Int32} {b : Int32 × Int32} {q : mm_Q} (h : R2 t j b q) (hj : j ≠ i) : R2 t j b (mm_si (mm_si q (56 + (3 * t + 1)) i v) (56 + 3 * t) i k) := by
  refine ⟨?_, ?_⟩
  · rw [mm_si_self, upd_ne _ _ _ hj, mm_si_ne _ _ _ _ (by omega)]
    exact h.1
  · rw [mm_si_ne _ _ _ _ (by omega), mm_si_self, upd_ne _ _ _ hj]
    exact h.2
theorem R2_fk {t i : Nat} {b : Int32 × Int32} {q q' : mm_Q} (h : R2 t i b q) (f : fk q q') : R2 t i b q' := ⟨by rw [fk_row f (by omega)]; exact h.1, by rw [fk_row f (by omega)]; exact h.2⟩
theorem j335_ok (hb : bd sp c) {q : mm_Q} (hi : IL F c sp xs q) {rr154 : Nat → Int32 → Int32 → Int32 → Int32 → Int32 → Int32 → Int32 → mm_Q → Option (Int32 × mm_Q)} {rr164 : Nat → Int32 → Int32 → Int32 → Int32 → Int32 → Int32 → Int32 → Int32 → mm_Q → Option (Int32 × mm_Q)} {a14 a15 l : Int32} (h0 : 0 ≤ l.toInt) (h1 : l.toInt ≤ 999) {b b0 b1 : Int32 × Int32} (hR : R2 t 2 b q) (hR0 : R2 t 0 b0 q) (hR1 : R2 t 1 b1 q) : ∃ q', law_j335 len rr50 rr154 rr164 t a6 a7 a8 a9 a10 a11 a14 a15 l q = rr164 t a6 a7 a8 a9 a10 a11 a14 (a15 + 1) q' ∧ IL F c sp xs q' ∧ R2 t 2 (st1 (10 * a14 + a15) (pnt c l) b) q' ∧ R2 t 0 b0 q' ∧ R2 t 1 b1 q' := by
  have pe := points_eq hi.2.2 hb h0 h1
  unfold law_j335 law_j373 st1
  rw [pe, mm_cl_s, hR.2]
  by_cases z : b.2 < pnt c l
  · rw [if_pos z, pe, mm_cl_s, mm_lt_s, mm_lt_s, if_neg (Int32.not_le.mpr z)]
    exact ⟨_, rfl, IL_si (IL_si hi (by omega) _ _) (by omega) _ _, R2_set _ _ _ _ _, R2_ne hR0 (by decide), R2_ne hR1 (by decide)⟩
  · rw [if_neg z, if_pos (Int32.not_lt.mp z)]
    exact ⟨q, rfl, hi, hR, hR0, hR1⟩
theorem j301_ok (hb : bd sp c) {q : mm_Q} (hi : IL F c sp xs q) {rr154 : Nat → Int32 → Int32 → Int32 → Int32 → Int32 → Int32 → Int32 → mm_Q → Option (Int32 × mm_Q)} {rr164 : Nat → Int32 → Int32 → Int32 → Int32 → Int32 → Int32 → Int32 → Int32 → mm_Q → Option (Int32 × mm_Q)} {a14 a15 l : Int32} (h0 : 0 ≤ l.toInt) (h1 : l.toInt ≤ 999) {b b0 b1 : Int32 × Int32} (hR : R2 t 2 b q) (hR0 : R2 t 0 b0 q) (hR1 : R2 t 1 b1 q) : ∃ q', law_j301 len rr50 rr154 rr164 t a6 a7 a8 a9 a10 a11 a14 a15 l q = rr164 t a6 a7 a8 a9 a10 a11 a14 (a15 + 1) q' ∧ IL F c sp xs q' ∧ R2 t 2 (st1 (10 * a14 + a15) (pnt c l) b) q' ∧ R2 t 0 b0 q' ∧ R2 t 1 (if a15 = 0 then st1 a14 (pnt c l) b1 else b1) q' := by
  have pe := points_eq hi.2.2 hb h0 h1
  unfold law_j301
  by_cases z0 : a15 = 0
  · rw [if_pos z0, if_pos z0, pe, mm_cl_s, hR1.2]
    by_cases z : pnt c l ≤ b1.2
    · rw [if_pos z, show st1 a14 (pnt c l) b1 = b1 from if_pos z]
      exact j335_ok hb hi h0 h1 hR hR0 hR1
    · rw [if_neg z, pe, mm_cl_s, mm_lt_s, mm_lt_s, show st1 a14 (pnt c l) b1 = (a14, pnt c l) from if_neg z]
      exact j335_ok hb (IL_si (IL_si hi (by omega) _ _) (by omega) _ _) h0 h1 (R2_ne hR (by decide)) (R2_ne hR0 (by decide)) (R2_set _ _ _ _ _)
  · rw [if_neg z0, if_neg z0]
    exact j335_ok hb hi h0 h1 hR hR0 hR1
/-- one try at an angle, with a run or not -/
theorem tr_s (hb : bd sp c) (hs6 : sp.toInt ≤ 6) (pa : PA sp a8 a9 a10 a11 p s) {q : mm_Q} (hi : IL F c sp xs q) {rr154 : Nat → Int32 → Int32 → Int32 → Int32 → Int32 → Int32 → Int32 → mm_Q → Option (Int32 × mm_Q)} {a14 a15 : Int32} (g14 : 0 ≤ a14.toInt ∧ a14.toInt < 9) (h15 : a15 = 0 ∨ a15 = 1) {b b0 b1 : Int32 × Int32} (hR : R2 t 2 b q) (hR0 : R2 t 0 b0 q) (hR1 : R2 t 1 b1 q) (n : Nat) : ∃ q', law_h164 len rr50 rr154 (n + 1) t a6 a7 a8 a9 a10 a11 a14 a15 q = law_h164 len rr50 rr154 n t a6 a7 a8 a9 a10 a11 a14 (a15 + 1) q' ∧ IL F c sp xs q' ∧ R2 t 2 (st1 (10 * a14 + a15) (PT F c (GL c p s a10 0) a15 a14) b) q' ∧ R2 t 0 (if a15 = 0 then st1 a14 (stp c (LN F (GL c p s a10 0) a14 0)) b0 else b0) q' ∧ R2 t 1 (if a15 = 0 then st1 a14 (PT F c (GL c p s a10 0) 0 a14) b1 else b1) q' := by
  obtain ⟨s1, s2, s3, s4, s5, s6⟩ := PA_sk pa
  obtain ⟨⟨p1, p2⟩, ⟨p3, p4⟩, -, -⟩ := pa
  have hrt : 0 ≤ a15.toInt ∧ a15.toInt ≤ 1 := by
    rcases h15 with e | e
    · rw [e, ti0]; omega
    · rw [e, ti1]; omega
  obtain ⟨k1, k2, k3⟩ := ten_parts (a := a14) ⟨g14.1, by omega⟩ (r := a15) (by omega)
  have le := lands_eq hi.2.2 hs6 p1 p2 p3 p4 a10 (a := a14) (r := a15) ⟨g14.1, by omega⟩ h15
  have lr := LN_rng F (GL c p s a10 0) a14 a15
  have call : ∀ (qa : mm_Q) (v3 : Int32), IL F c sp xs qa → 0 ≤ v3.toInt → v3.toInt ≤ 2 → ∃ q2, x11_tries a8 a11 (10 * a14 + a15) v3 qa = some (if v3 = 0 then LN F (GL c p s a10 0) a14 a15 else if v3 = 1 then stp c (LN F (GL c p s a10 0) a14 a15) else pnt c (LN F (GL c p s a10 0) a14 a15), q2) ∧ fk qa q2 := by
    intro qa v3 ha h0 h2
    obtain ⟨q2, y1, y2⟩ := cl_tries (v0 := a8) (v1 := a11) (v2 := 10 * a14 + a15) (v3 := v3) ha.2.1 hb hs6 ⟨⟨s5, s6⟩, s1, ⟨by omega, by omega, by omega⟩, h0, h2⟩
    rw [s2, s3, s4, k2, k3] at y1
    exact ⟨q2, y1, y2⟩
  obtain ⟨q1, y1, f1⟩ := call q 0 hi (by rw [ti0]; omega) (by rw [ti0]; omega)
  have i1 := IL_fk hi f1
  obtain ⟨q2, y2, f2⟩ := call q1 1 i1 (by rw [ti1]; omega) (by rw [ti1]; omega)
  have i2 := IL_fk i1 f2
  obtain ⟨q3, y3, f3⟩ := call q2 2 i2 (by rw [ti2]; omega) (by rw [ti2]; omega)
  have i3 := IL_fk i2 f3
  rw [if_pos rfl] at y1
  rw [if_neg (by decide), if_pos rfl] at y2
  rw [if_neg (by decide), if_neg (by decide)] at y3
  have f := fk_trans (fk_trans f1 f2) f3
  have hR' := R2_fk hR f
  have hR0' := R2_fk hR0 f
  have hR1' := R2_fk hR1 f
  have se2 := stops_eq i2.2.2 hb lr.1 lr.2
  have se3 := stops_eq i3.2.2 hb lr.1 lr.2
  have pe3 := points_eq i3.2.2 hb lr.1 lr.2
  rw [law_h164, if_neg (by rw [le32, ti2]; omega), le, mm_cl_s, y1, mm_cl_s, if_pos rfl, y2, mm_cl_s, se2, mm_cl_s, if_pos rfl, y3, mm_cl_s, pe3, mm_cl_s, if_pos rfl]
  by_cases z0 : a15 = 0
  · rw [if_pos z0, se3, mm_cl_s, hR0'.2]
    have e0 : LN F (GL c p s a10 0) a14 0 = LN F (GL c p s a10 0) a14 a15 := by rw [z0]
    have e1 : PT F c (GL c p s a10 0) 0 a14 = pnt c (LN F (GL c p s a10 0) a14 a15) := by rw [z0]; rfl
    have e2 : PT F c (GL c p s a10 0) a15 a14 = pnt c (LN F (GL c p s a10 0) a14 a15) := rfl
    rw [e0, e1, e2, if_pos z0]
    by_cases z : stp c (LN F (GL c p s a10 0) a14 a15) ≤ b0.2
    · rw [if_pos z, show st1 a14 (stp c (LN F (GL c p s a10 0) a14 a15)) b0 = b0 from if_pos z]
      exact j301_ok hb i3 lr.1 lr.2 hR' hR0' hR1'
    · rw [if_neg z, se3, mm_cl_s, mm_lt_s, mm_lt_s, show st1 a14 (stp c (LN F (GL c p s a10 0) a14 a15)) b0 = (a14, stp c (LN F (GL c p s a10 0) a14 a15)) from if_neg z]
      exact j301_ok hb (IL_si (IL_si i3 (by omega) _ _) (by omega) _ _) lr.1 lr.2 (R2_ne hR' (by decide)) (R2_set _ _ _ _ _) (R2_ne hR1' (by decide))
  · rw [if_neg z0, if_neg z0]
    have e2 : PT F c (GL c p s a10 0) a15 a14 = pnt c (LN F (GL c p s a10 0) a14 a15) := rfl
    have e1 : (if a15 = 0 then st1 a14 (PT F c (GL c p s a10 0) 0 a14) b1 else b1) = (if a15 = 0 then st1 a14 (pnt c (LN F (GL c p s a10 0) a14 a15)) b1 else b1) := by rw [if_neg z0, if_neg z0]
    rw [e1, e2]
    exact j301_ok hb i3 lr.1 lr.2 hR' hR0' hR1'
theorem ban_st' {f : Int32 → Int32} {n : Nat} {a : Int32} (h : a = Int32.ofNat n) : ban f (n + 1) = st1 a (f a) (ban f n) := by rw [h]; rfl
theorem b2_st' {f0 f1 : Int32 → Int32} {n : Nat} {a : Int32} (h : a = Int32.ofNat n) : b2 f0 f1 (n + 1) = st1 (10 * a + 1) (f1 a) (st1 (10 * a + 0) (f0 a) (b2 f0 f1 n)) := by rw [h]; rfl
/-- all angles -/
theorem tr_h (hb : bd sp c) (hs6 : sp.toInt ≤ 6) (pa : PA sp a8 a9 a10 a11 p s) {f : Nat} : ∀ (m i : Nat) (a14 : Int32) (q : mm_Q), a14.toInt = i → i + m = 9 → IL F c sp xs q → R2 t 2 (b2 (PT F c (GL c p s a10 0) 0) (PT F c (GL c p s a10 0) 1) i) q → R2 t 0 (ban (fun a => stp c (LN F (GL c p s a10 0) a 0)) i) q → R2 t 1 (ban (PT F c (GL c p s a10 0) 0) i) q → ∃ q', law_h154 len rr50 (f + m + 1) t a6 a7 a8 a9 a10 a11 a14 q = law_h388 len rr50 mm_fv t a6 a7 a8 a9 a10 a11 0 q' ∧ IL F c sp xs q' ∧ R2 t 2 (b2 (PT F c (GL c p s a10 0) 0) (PT F c (GL c p s a10 0) 1) 9) q' ∧ R2 t 0 (ban (fun a => stp c (LN F (GL c p s a10 0) a 0)) 9) q' ∧ R2 t 1 (ban (PT F c (GL c p s a10 0) 0) 9) q' := by
  intro m
  induction m with
  | zero =>
    intro i a14 q h1 h2 hi h3 h4 h5
    have e : i = 9 := by omega
    rw [e] at h3 h4 h5
    refine ⟨q, ?_, hi, h3, h4, h5⟩
    rw [law_h154, if_pos (by rw [le32, ti9]; omega)]
  | succ m ih =>
    intro i a14 q h1 h2 hi h3 h4 h5
    obtain ⟨q1, y1, i1, x1, x2, x3⟩ := tr_s (t := t) (a6 := a6) (a7 := a7) (len := len) (rr50 := rr50) (rr154 := law_h154 len rr50 (f + m + 1)) hb hs6 pa hi (a14 := a14) (by omega) (a15 := 0) (Or.inl rfl) h3 h4 h5 8999
    obtain ⟨q2, y2, i2, x4, x5, x6⟩ := tr_s (t := t) (a6 := a6) (a7 := a7) (len := len) (rr50 := rr50) (rr154 := law_h154 len rr50 (f + m + 1)) hb hs6 pa i1 (a14 := a14) (by omega) (a15 := 0 + 1) (Or.inr (by decide)) x1 x2 x3 8998
    rw [if_pos rfl, if_neg (by decide), ← ban_st' (f := fun a => stp c (LN F (GL c p s a10 0) a 0)) (mm_ofn h1)] at x5
    rw [if_pos rfl, if_neg (by decide), ← ban_st' (f := PT F c (GL c p s a10 0) 0) (mm_ofn h1)] at x6
    rw [show (0 : Int32) + 1 = 1 by decide, ← b2_st' (f0 := PT F c (GL c p s a10 0) 0) (f1 := PT F c (GL c p s a10 0) 1) (mm_ofn h1)] at x4
    obtain ⟨q3, z1, z2⟩ := ih (i + 1) (a14 + 1) q2 (mm_inc1 h1 (by omega)) (by omega) i2 x4 x5 x6
    refine ⟨q3, ?_, z2⟩
    rw [show f + (m + 1) + 1 = (f + m + 1) + 1 by omega, law_h154, if_neg (by rw [le32, ti9]; omega), show mm_fv = 8999 + 1 from rfl, y1, show 8999 = 8998 + 1 from rfl, y2, show 8998 = 8997 + 1 from rfl, law_h164, if_pos (by decide)]
    exact z1
end LT
