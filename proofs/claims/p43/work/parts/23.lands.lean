/-! the law's own way: how far, where it stops, points, the best points -/
def FT (d0 d1 d2 : Int32) : mm_F := fun a p z w e t => ((((p * d0 + a * d1) - z * d2) + w * 9) + e * 2) - t / 2
def LF (F : mm_F) (b : Nat → Int32) : Prop := ((b 0).toInt < 0 ∧ F = mm_F0) ∨ (0 ≤ (b 0).toInt ∧ F = FT (b 0) (b 1) (b 2))
/-- the law's rows tell the lane's numbers -/
def lwx (F : mm_F) (c : Nat → Int32) (sp : Int32) (q : mm_Q) : Prop :=
  (q.1 52 0 = sp ∧ q.1 52 1 = c 48 ∧ q.1 52 2 = c 49 ∧ q.1 52 3 = c 50 ∧ q.1 52 4 = c 51 ∧ q.1 52 5 = c 52 ∧ q.1 52 6 = c 53 ∧ q.1 52 7 = 0) ∧
  (∀ p w : Nat, (p : Int) < sp.toInt → w < 5 → q.1 53 (5 * p + w) = c (6 * w + p)) ∧
  (∀ s : Nat, s < 9 → q.1 54 (2 * s) = c (30 + s) ∧ q.1 54 (2 * s + 1) = c (39 + s)) ∧ LF F (q.1 55)
theorem lwx_of {F : mm_F} {c : Nat → Int32} {sp : Int32} {q q' : mm_Q} (h : lwx F c sp q) (h2 : q'.1 52 = q.1 52) (h3 : q'.1 53 = q.1 53) (h4 : q'.1 54 = q.1 54) (h5 : q'.1 55 = q.1 55) : lwx F c sp q' := by
  unfold lwx
  rw [h2, h3, h4, h5]
  exact h
theorem five_ti {a : Int32} {p : Nat} (h : a.toInt = p) (hp : p < 100) (w : Nat) (hw : w < 5) : ((5 : Int32) * a + Int32.ofNat w).toInt = ((5 * p + w : Nat) : Int) := by
  have e5 : ((5 : Int32) * a).toInt = ((5 * p : Nat) : Int) := by
    rw [mm_mul_ti (by rw [ti5]; omega) (by rw [ti5]; omega), ti5, h]
    omega
  have ew : (Int32.ofNat w).toInt = ((w : Nat) : Int) := mm_ofNat_ti (by omega)
  rw [mm_add_ti (by omega) (by omega), e5, ew]
  omega
theorem five_0 {a : Int32} {p : Nat} (h : a.toInt = p) (hp : p < 100) : ((5 : Int32) * a).toInt = ((5 * p : Nat) : Int) := by
  rw [mm_mul_ti (by rw [ti5]; omega) (by rw [ti5]; omega), ti5, h]
  omega
theorem two_0 {a : Int32} {p : Nat} (h : a.toInt = p) (hp : p < 100) : ((2 : Int32) * a).toInt = ((2 * p : Nat) : Int) := by
  rw [mm_mul_ti (by rw [ti2]; omega) (by rw [ti2]; omega), ti2, h]
  omega
theorem two_1 {a : Int32} {p : Nat} (h : a.toInt = p) (hp : p < 100) : ((2 : Int32) * a + 1).toInt = ((2 * p + 1 : Nat) : Int) := by
  rw [mm_add_ti (by rw [two_0 h hp, ti1]; omega) (by rw [two_0 h hp, ti1]; omega), two_0 h hp, ti1]
  omega
theorem j178_eq (v : Int32) (q : mm_Q) : x14_lands_j178 v q = some (cl v, q) := by
  have e : cl v = if 0 ≤ v then (if v ≤ 999 then v else 999) else 0 := by
    unfold cl
    rw [eq32, max_ti, mn_ti, ti0, ti999]
    by_cases h : 0 ≤ v
    · rw [if_pos h]
      by_cases h2 : v ≤ 999
      · rw [if_pos h2]
        rw [le32, ti0] at h
        rw [le32, ti999] at h2
        omega
      · rw [if_neg h2, ti999]
        rw [le32, ti0] at h
        rw [le32, ti999] at h2
        omega
    · rw [if_neg h, ti0]
      rw [le32, ti0] at h
      omega
  unfold x14_lands_j178
  rw [e]
  repeat' split
  all_goals rfl
section LW
variable {F : mm_F} {c : Nat → Int32} {sp : Int32} {q : mm_Q}
theorem j96_eq (h : lwx F c sp q) (a st sz w t s0 : Int32) (hs0 : s0 = mm_abs (a - 4)) : x14_lands_j96 a st sz w t s0 q = some (cl (F a st sz w (c 48) t), q) := by
  unfold x14_lands_j96
  rw [h.1.2.1]
  rcases h.2.2.2 with ⟨h0, hF⟩ | ⟨h0, hF⟩
  · rw [if_neg (by rw [le32, ti0]; omega), j178_eq, hF, hs0]
    rfl
  · rw [if_pos (by rw [le32, ti0]; omega), j178_eq, hF]
    rfl
theorem lands_eq (h : lwx F c sp q) (hs6 : sp.toInt ≤ 6) {a5 a6 : Int32} {p s : Nat} (hp : a5.toInt = p) (hps : (p : Int) < sp.toInt) (hs : a6.toInt = s) (h9 : s < 9) (k : Int32) {a r : Int32} (ha : 0 ≤ a.toInt ∧ a.toInt ≤ 100) (hr : r = 0 ∨ r = 1) : x14_lands a5 a6 k a r q = some (LN F (GL c p s k 0) a r, q) := by
  have e0 := five_0 hp (by omega)
  have e1 : ((5 : Int32) * a5 + 1).toInt = ((5 * p + 1 : Nat) : Int) := five_ti hp (by omega) 1 (by omega)
  have e2 : ((5 : Int32) * a5 + 2).toInt = ((5 * p + 2 : Nat) : Int) := five_ti hp (by omega) 2 (by omega)
  have f0 := two_0 hs (by omega)
  have f1 := two_1 hs (by omega)
  have g0 := h.2.1 p 0 hps (by omega)
  have g1 := h.2.1 p 1 hps (by omega)
  have g2 := h.2.1 p 2 hps (by omega)
  obtain ⟨k0, k1⟩ := h.2.2.1 s h9
  rw [show 6 * 0 + p = p by omega] at g0
  rw [show 6 * 1 + p = 6 + p by omega] at g1
  rw [show 6 * 2 + p = 12 + p by omega] at g2
  have j54 : ∀ st sz : Int32, x14_lands_j54 a5 a6 k a st sz q = some (cl (F a st sz (c (39 + s)) (c 48) (c (12 + p) * k)), q) := by
    intro st sz
    unfold x14_lands_j54
    rw [mm_ck_t (mm_inb_c f1 (by omega)), mm_ck_t (mm_inb_c e2 (by omega)), mm_tcn f1, mm_tcn e2, k1, g2]
    have em : (a - 4).toInt = a.toInt - 4 := by rw [mm_sub_ti (by rw [ti4]; omega) (by rw [ti4]; omega), ti4]
    have en : ((4 : Int32) - a).toInt = 4 - a.toInt := by rw [mm_sub_ti (by rw [ti4]; omega) (by rw [ti4]; omega), ti4]
    have ab : (mm_abs (a - 4)).toInt = if 0 ≤ (a - 4).toInt then (a - 4).toInt else - (a - 4).toInt := abs_ti (by omega)
    by_cases c4 : (4 : Int32) ≤ a
    · rw [if_pos c4]
      rw [le32, ti4] at c4
      exact j96_eq h _ _ _ _ _ _ (by rw [eq32, ab, if_pos (by omega)])
    · rw [if_neg c4]
      rw [le32, ti4] at c4
      exact j96_eq h _ _ _ _ _ _ (by rw [eq32, ab, if_neg (by omega), em, en]; omega)
  have es : c p + c (6 + p) + 3 * r = if r = 1 then (c p + c (6 + p)) + 3 else c p + c (6 + p) := by
    rcases hr with e | e
    · rw [e, if_neg (by decide), show (3 : Int32) * 0 = 0 from rfl, Int32.add_zero]
    · rw [e, if_pos rfl, show (3 : Int32) * 1 = 3 from rfl]
  have LNe : LN F (GL c p s k 0) a r = cl (F a (if r = 1 then (c p + c (6 + p)) + 3 else c p + c (6 + p)) (mm_mn (c (30 + s) + 0) 9) (c (39 + s)) (c 48) (c (12 + p) * k)) := rfl
  unfold x14_lands
  rw [mm_ck_t (mm_inb_c e0 (by omega)), mm_ck_t (mm_inb_c e1 (by omega)), mm_lt_s, mm_ck_t (mm_inb_c f0 (by omega)), mm_tcn e0, mm_tcn e1, mm_tcn f0, show 5 * p = 5 * p + 0 from rfl, g0, g1, k0, h.1.2.2.2.2.2.2.2, es, LNe]
  unfold mm_mn
  by_cases c9 : c (30 + s) + 0 ≤ 9
  · rw [if_pos c9, mm_ck_t (mm_inb_c f0 (by omega)), j54, if_neg (Int32.not_lt.mpr c9)]
  · rw [if_neg c9, j54, if_pos (Int32.not_le.mp c9)]
theorem barrel_eq (h : lwx F c sp q) (hb : bd sp c) {l : Int32} (h0 : 0 ≤ l.toInt) (h1 : l.toInt ≤ 999) : x14_barrel l q = some (mm_p (inB c l), q) := by
  have b0 := bd_50 hb
  have b1 := bd_51 hb
  have e1 : (l - c 50).toInt = l.toInt - (c 50).toInt := mm_sub_ti (by omega) (by omega)
  have e2 : (c 50 - l).toInt = (c 50).toInt - l.toInt := mm_sub_ti (by omega) (by omega)
  have e3 : (c 50 - c 51).toInt = (c 50).toInt - (c 51).toInt := mm_sub_ti (by omega) (by omega)
  have e4 : (c 50 + c 51).toInt = (c 50).toInt + (c 51).toInt := mm_add_ti (by omega) (by omega)
  unfold x14_barrel mm_p inB
  rw [h.1.2.2.2.1, h.1.2.2.2.2.1]
  simp only [lt32, le32, e1, e2, e3, e4]
  by_cases c1 : (c 51).toInt < l.toInt - (c 50).toInt
  · rw [if_pos c1, if_neg (by omega)]
  · rw [if_neg c1]
    by_cases c2 : (c 51).toInt < (c 50).toInt - l.toInt
    · rw [if_pos c2, if_neg (by omega)]
    · rw [if_neg c2, if_pos (by omega)]
theorem stops_eq (h : lwx F c sp q) (hb : bd sp c) {l : Int32} (h0 : 0 ≤ l.toInt) (h1 : l.toInt ≤ 999) : x14_stops l q = some (stp c l, q) := by
  unfold x14_stops stp
  rw [barrel_eq h hb h0 h1, mm_cl_s, h.1.2.2.1]
  by_cases z : inB c l
  · rw [if_neg (by rw [mm_p0]; exact fun w => w z), if_pos z]
  · rw [if_pos (by rw [mm_p0]; exact z), if_neg z]
    by_cases z2 : l < c 49
    · rw [if_pos z2, if_pos z2]
      unfold mm_mn
      by_cases z3 : c 49 ≤ l + l / 10
      · rw [if_pos z3]
        by_cases z4 : c 49 < l + l / 10
        · rw [if_pos z4]
        · rw [if_neg z4]
          have : c 49 = l + l / 10 := by
            rw [le32] at z3
            rw [lt32] at z4
            rw [eq32]
            omega
          rw [← this]
      · rw [if_neg z3, if_neg (fun w => z3 (by rw [le32]; rw [lt32] at w; omega))]
    · rw [if_neg z2, if_neg z2]
theorem points_eq (h : lwx F c sp q) (hb : bd sp c) {l : Int32} (h0 : 0 ≤ l.toInt) (h1 : l.toInt ≤ 999) : x14_points l q = some (pnt c l, q) := by
  unfold x14_points pnt
  rw [h.1.2.2.2.2.2.1]
  by_cases z : l = c 52
  · rw [if_pos z, if_pos z]
  · rw [if_neg z, if_neg z, stops_eq h hb h0 h1, mm_cl_s, barrel_eq h hb h0 h1, mm_cl_s]
    by_cases z2 : inB c l
    · rw [if_neg (by rw [mm_p0]; exact fun w => w z2), if_pos z2]
    · rw [if_pos (by rw [mm_p0]; exact z2), if_neg z2, Int32.add_zero]
theorem best_h (h : lwx F c sp q) (hb : bd sp c) (hs6 : sp.toInt ≤ 6) {a4 a5 a6 a7 : Int32} {p s : Nat} (hp : a4.toInt = p) (hps : (p : Int) < sp.toInt) (hs : a5.toInt = s) (h9 : s < 9) (hr : a7 = 0 ∨ a7 = 1) {f : Nat} : ∀ (m i : Nat) (a9 : Int32), a9.toInt = i → i + m = 9 → x14_best_h6 (f + m + 1) a4 a5 a6 a7 (bpn (PT F c (GL c p s a6 0) a7) i) a9 q = some (BP F c (GL c p s a6 0) a7, q) := by
  intro m
  induction m with
  | zero =>
    intro i a9 h1 h2
    rw [x14_best_h6, if_pos (by rw [le32, ti9]; omega), show i = 9 by omega]
  | succ m ih =>
    intro i a9 h1 h2
    have l := LN_rng F (GL c p s a6 0) a9 a7
    have ihx := ih (i + 1) (a9 + 1) (mm_inc1 h1 (by omega)) (by omega)
    rw [show f + (m + 1) + 1 = (f + m + 1) + 1 by omega, x14_best_h6, if_neg (by rw [le32, ti9]; omega), lands_eq h hs6 hp hps hs h9 a6 (by omega) hr, mm_cl_s, points_eq h hb l.1 l.2, mm_cl_s]
    have eb : bpn (PT F c (GL c p s a6 0) a7) (i + 1) = mm_max (bpn (PT F c (GL c p s a6 0) a7) i) (pnt c (LN F (GL c p s a6 0) a9 a7)) := by
      rw [show bpn (PT F c (GL c p s a6 0) a7) (i + 1) = mm_max (bpn (PT F c (GL c p s a6 0) a7) i) (PT F c (GL c p s a6 0) a7 (Int32.ofNat i)) from rfl, ← mm_ofn h1]
      rfl
    rw [eb] at ihx
    unfold x14_best_j47
    unfold mm_max at ihx
    by_cases z : pnt c (LN F (GL c p s a6 0) a9 a7) ≤ bpn (PT F c (GL c p s a6 0) a7) i
    · rw [if_pos z]
      rw [if_neg (Int32.not_lt.mpr z)] at ihx
      exact ihx
    · rw [if_neg z]
      rw [if_pos (Int32.not_le.mp z)] at ihx
      exact ihx
theorem best_eq (h : lwx F c sp q) (hb : bd sp c) (hs6 : sp.toInt ≤ 6) {a4 a5 a7 : Int32} {p s : Nat} (hp : a4.toInt = p) (hps : (p : Int) < sp.toInt) (hs : a5.toInt = s) (h9 : s < 9) (a6 : Int32) (hr : a7 = 0 ∨ a7 = 1) : x14_best a4 a5 a6 a7 q = some (BP F c (GL c p s a6 0) a7, q) := best_h (f := 990) h hb hs6 hp hps hs h9 hr 9 0 0 ti0 (by omega)
end LW
