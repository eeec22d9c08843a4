/-! practice -/
/-- a try's numbers with another strength -/
def GS (c : Nat → Int32) (p s : Nat) (k str : Int32) : Nat → Int32 := upd (GL c p s k 0) 2 str
theorem PT_gs {sp : Int32} {c : Nat → Int32} (h : bd sp c) (F : mm_F) {s : Nat} (h9 : s < 9) (p : Nat) (k x : Int32) (g : Nat → Int32) : PT F c (upd (tk c p s k g) 2 x) = PT F c (GS c p s k x) := by
  have e : mm_mn (c (30 + s) + 0) 9 = c (30 + s) := by
    have b := bd_st h h9
    unfold mm_mn
    rw [Int32.add_zero, if_neg (by rw [lt32, ti9]; omega)]
  funext r a
  show pnt c (cl (F a (if r = 1 then x + 3 else x) (c (30 + s)) (c (39 + s)) (c 48) (c (12 + p) * k))) = pnt c (cl (F a (if r = 1 then x + 3 else x) (mm_mn (c (30 + s) + 0) 9) (c (39 + s)) (c 48) (c (12 + p) * k)))
  rw [e]
theorem pnt_congr {c d : Nat → Int32} (e49 : d 49 = c 49) (e50 : d 50 = c 50) (e51 : d 51 = c 51) (e52 : d 52 = c 52) (l : Int32) : pnt d l = pnt c l := by
  unfold pnt stp inB
  rw [e49, e50, e51, e52]
/-- the reference's way to another strength: a number of the lane is told -/
theorem PT_upd {sp : Int32} {c : Nat → Int32} (F : mm_F) {p s j : Nat} (hj : j < 12) (k v : Int32) : PT F (upd c j v) (GL (upd c j v) p s k 0) = PT F c (GS c p s k (upd c j v p + upd c j v (6 + p))) := by
  funext r a
  have z : ∀ i, 12 ≤ i → upd c j v i = c i := fun i hi => upd_ne _ _ _ (by omega)
  show pnt (upd c j v) (cl (F a (if r = 1 then upd c j v p + upd c j v (6 + p) + 3 else upd c j v p + upd c j v (6 + p)) (mm_mn (upd c j v (30 + s) + 0) 9) (upd c j v (39 + s)) (upd c j v 48) (upd c j v (12 + p) * k))) = pnt c (cl (F a (if r = 1 then upd c j v p + upd c j v (6 + p) + 3 else upd c j v p + upd c j v (6 + p)) (mm_mn (c (30 + s) + 0) 9) (c (39 + s)) (c 48) (c (12 + p) * k)))
  rw [pnt_congr (z 49 (by decide)) (z 50 (by decide)) (z 51 (by decide)) (z 52 (by decide)), z (30 + s) (by omega), z (39 + s) (by omega), z 48 (by omega), z (12 + p) (by omega)]
/-- the least number from 10 - m on by which it is enough -/
def lst (V : Int32 → Int32) (x : Int32) : Nat → Int32
  | 0 => -2
  | m + 1 => if V (Int32.ofNat (9 - m)) < x then lst V x m else Int32.ofNat (9 - m)
theorem y_within {q : mm_Q} (h2 : ∀ j, q.1 2 j = mm_t2.getD j 0) (h3 : ∀ j, q.1 3 j = mm_t3.getD j 0) {a1 : Int32} {w : Nat} (hw : a1.toInt = w) (h12 : w ≤ 12) (b : Int64) : x4_isWithin a1 b q = some (mm_p ((mm_t2.getD w 0).toInt ≤ b.toInt ∧ b.toInt ≤ (mm_t3.getD w 0).toInt), q) := by
  unfold x4_isWithin mm_p
  rw [if_neg (by rw [lt32, ti0]; omega), if_neg (by rw [lt32, ti12]; omega), mm_ck_t (mm_inb_c hw (by omega)), mm_tcn hw, h2, h3]
  simp only [mm_cmp_lt, mm_cmp_gt, lt64, mm_i64]
  by_cases c1 : b.toInt < (mm_t2.getD w 0).toInt
  · rw [if_pos c1, if_neg (by omega)]
  · rw [if_neg c1, mm_ck_t (mm_inb_c hw (by omega))]
    by_cases c2 : (mm_t3.getD w 0).toInt < b.toInt
    · rw [if_pos c2, if_neg (by omega)]
    · rw [if_neg c2, if_pos (by omega)]
section PRA
variable {F : mm_F} {c : Nat → Int32} {sp : Int32} {a1 a2 a4 : Int32} {p s w : Nat}
/-- what the number becomes counts for the strength -/
abbrev stw (c : Nat → Int32) (p w : Nat) (v : Int32) : Int32 := upd c (6 * w + p) v p + upd c (6 * w + p) v (6 + p)
abbrev VW (F : mm_F) (c : Nat → Int32) (p s : Nat) (k : Int32) (w : Nat) (v : Int32) : Int32 := BP F c (GS c p s k (stw c p w v)) 0
theorem stw_eq (hb : bd sp c) (hs6 : sp.toInt ≤ 6) (hps : (p : Int) < sp.toInt) (hw : w ≤ 1) {v : Int32} {i : Nat} (hv : v.toInt = i) (hi : i ≤ 9) : (c p + c (6 + p)) + (v - c (6 * w + p)) = stw c p w v := by
  have b0 := bd_sp hb (w := 0) hps hs6 (by decide) (a := 1) (b := 9) (by decide) (by decide)
  have b1 := bd_sp hb (w := 1) hps hs6 (by decide) (a := 0) (b := 9) (by decide) (by decide)
  rw [show 6 * 0 + p = p by omega] at b0
  rw [show 6 * 1 + p = 6 + p by omega] at b1
  have e1 : (c p + c (6 + p)).toInt = (c p).toInt + (c (6 + p)).toInt := mm_add_ti (by omega) (by omega)
  unfold stw
  rcases (show w = 0 ∨ w = 1 by omega) with rfl | rfl
  · rw [show 6 * 0 + p = p by omega, upd_self, upd_ne _ _ _ (by omega)]
    have e2 : (v - c p).toInt = v.toInt - (c p).toInt := mm_sub_ti (by omega) (by omega)
    have e3 : (v + c (6 + p)).toInt = v.toInt + (c (6 + p)).toInt := mm_add_ti (by omega) (by omega)
    rw [eq32, mm_add_ti (by omega) (by omega), e3]
    omega
  · rw [show 6 * 1 + p = 6 + p by omega, upd_self, upd_ne _ _ _ (by omega)]
    have e2 : (v - c (6 + p)).toInt = v.toInt - (c (6 + p)).toInt := mm_sub_ti (by omega) (by omega)
    have e3 : (c p + v).toInt = (c p).toInt + v.toInt := mm_add_ti (by omega) (by omega)
    rw [eq32, mm_add_ti (by omega) (by omega), e3]
    omega
theorem least_h (hb : bd sp c) (hs6 : sp.toInt ≤ 6) (hp : a1.toInt = p) (hps : (p : Int) < sp.toInt) (hs : (a2 / 1000).toInt = s) (h9 : s < 9) (hw : a4.toInt = w) (hw1 : w ≤ 1) (x : Int32) {f : Nat} : ∀ (m i : Nat) (a6 : Int32) (q : mm_Q), a6.toInt = i → i + m = 10 → 1 - w ≤ i → cw F c sp q → (∀ j, q.1 2 j = mm_t2.getD j 0) → (∀ j, q.1 3 j = mm_t3.getD j 0) → ∃ q', x7_leastFor_h15 (f + m + 1) a1 a2 x a4 (c (6 * w + p)) a6 q = some (lst (VW F c p s (mm_rem a2 1000) w) x m, q') ∧ fr [12, 13, 14] q q' := by
  intro m
  induction m with
  | zero =>
    intro i a6 q h1 h2 h3 hx ht2 ht3
    refine ⟨q, ?_, fr_rfl _ _⟩
    rw [x7_leastFor_h15, if_pos (by rw [lt32, ti9]; omega)]
    rfl
  | succ m ih =>
    intro i a6 q h1 h2 h3 hx ht2 ht3
    have hwi : (mm_t2.getD w 0).toInt ≤ i ∧ (i : Int) ≤ (mm_t3.getD w 0).toInt := by
      rcases (show w = 0 ∨ w = 1 by omega) with rfl | rfl
      · rw [show (mm_t2.getD 0 0).toInt = 1 from by decide, show (mm_t3.getD 0 0).toInt = 9 from by decide]
        omega
      · rw [show (mm_t2.getD 1 0).toInt = 0 from by decide, show (mm_t3.getD 1 0).toInt = 9 from by decide]
        omega
    obtain ⟨q1, y1, y2, y3⟩ := take_eq hx hs6 hp hps hs h9 (mm_rem a2 1000)
    have y4 : cx F c (upd (tk c p s (mm_rem a2 1000) (q.1 14)) 2 (stw c p w a6)) (mm_si q1 14 2 (q1.1 14 2 + (a6 - c (6 * w + p)))) := by
      obtain ⟨z1, z2, z3⟩ := y2
      refine ⟨z1, ?_, z3⟩
      rw [mm_si_self, z2]
      have e2 : tk c p s (mm_rem a2 1000) (q.1 14) 2 = c p + c (6 + p) := rfl
      rw [e2, stw_eq hb hs6 hps hw1 h1 (by omega)]
    obtain ⟨q2, z1, z2⟩ := bestPoints_eq y4 0
    have z1' : x10_bestPoints 0 (mm_si q1 14 2 (q1.1 14 2 + (a6 - c (6 * w + p)))) = some (VW F c p s (mm_rem a2 1000) w a6, q2) := by
      rw [z1]
      show some (bpn (PT F c (upd (tk c p s (mm_rem a2 1000) (q.1 14)) 2 (stw c p w a6)) 0) 9, q2) = _
      rw [PT_gs hb F h9]
    have f2 : fr [12, 13, 14] q q2 := fr_trans (fr_mono y3 (by decide)) (fr_trans (fr_si q1 2 _ (by decide)) (fr_mono z2 (by decide)))
    obtain ⟨q3, u1, u2⟩ := ih (i + 1) (a6 + 1) q2 (mm_inc1 h1 (by omega)) (by omega) (by omega) (cw_fr hx f2 (by decide) (by decide) (by decide) (by decide)) (fun j => by rw [f2.2 2 (by decide)]; exact ht2 j) (fun j => by rw [f2.2 3 (by decide)]; exact ht3 j)
    have e9 : Int32.ofNat (9 - m) = a6 := by rw [mm_ofn h1, show 9 - m = i by omega]
    have es : lst (VW F c p s (mm_rem a2 1000) w) x (m + 1) = if VW F c p s (mm_rem a2 1000) w a6 < x then lst (VW F c p s (mm_rem a2 1000) w) x m else a6 := by
      show (if VW F c p s (mm_rem a2 1000) w (Int32.ofNat (9 - m)) < x then _ else Int32.ofNat (9 - m)) = _
      rw [e9]
    have body : x7_leastFor_h15 (f + (m + 1) + 1) a1 a2 x a4 (c (6 * w + p)) a6 q = if VW F c p s (mm_rem a2 1000) w a6 < x then x7_leastFor_h15 (f + m + 1) a1 a2 x a4 (c (6 * w + p)) (a6 + 1) q2 else some (a6, q2) := by
      rw [show f + (m + 1) + 1 = (f + m + 1) + 1 by omega, x7_leastFor_h15, if_neg (by rw [lt32, ti9]; omega), y_within ht2 ht3 hw (by omega), mm_cl_s, mm_i64, h1, if_neg (by rw [mm_p0]; exact fun z => z hwi), y1, mm_cl_s]
      unfold x10_strengthen
      rw [mm_lt_s, mm_cl_s, z1', mm_cl_s]
      rfl
    rw [body, es]
    by_cases z : VW F c p s (mm_rem a2 1000) w a6 < x
    · rw [if_pos z, if_pos z]
      exact ⟨q3, u1, fr_trans f2 u2⟩
    · rw [if_neg z, if_neg z]
      exact ⟨q2, rfl, f2⟩
theorem bd_upd (hb : bd sp c) (hw1 : w ≤ 1) (h6 : p < 6) {v : Int32} (h0 : ((1 - w : Nat) : Int) ≤ v.toInt) (h1 : v.toInt ≤ 9) : bd sp (upd c (6 * w + p) v) := by
  intro j hj
  by_cases e : j = 6 * w + p
  · have ew : mm_wh (6 * w + p) = w := by
      unfold mm_wh
      rw [if_pos (by omega)]
      omega
    rw [e, upd_self]
    unfold mm_okc
    rw [ew]
    rcases (show w = 0 ∨ w = 1 by omega) with rfl | rfl
    · rw [show (mm_t2.getD 0 0).toInt = 1 from by decide, show (mm_t3.getD 0 0).toInt = 9 from by decide]
      omega
    · rw [show (mm_t2.getD 1 0).toInt = 0 from by decide, show (mm_t3.getD 1 0).toInt = 9 from by decide]
      omega
  · rw [upd_ne _ _ _ e]
    exact hb j hj
theorem prac_h (hb : bd sp c) (hs6 : sp.toInt ≤ 6) (hp : a1.toInt = p) (hps : (p : Int) < sp.toInt) (hs : (a2 / 1000).toInt = s) (h9 : s < 9) {a5 : Int32} (hw1 : w ≤ 1) (h5 : a5.toInt = ((6 * w + p : Nat) : Int)) (hw : a4.toInt = ((1 - w : Nat) : Int)) (x : Int32) {f : Nat} : ∀ (m : Nat) (a8 : Int32) (q : mm_Q), a8.toInt = ((1 - w : Nat) : Int) + m - 1 → 1 - w + m ≤ 10 → (∀ j, j < 54 → j ≠ 6 * w + p → q.1 53 j = c j) → q.1 52 6 = sp → q.1 52 17 = 0 → lm F (q.1 58) (q.1 52 10) (q.1 60) (q.1 61) → ∃ q', x12_practice_h73 (f + m + 1) a1 a2 x a4 a5 (c (6 * w + p)) (lst (VW F c p s (mm_rem a2 1000) w) x (10 - (1 - w + m))) a8 q = some (lst (VW F c p s (mm_rem a2 1000) w) x (10 - (1 - w)), q') ∧ fr [52, 53, 59, 60, 61] q q' ∧ (∀ j, j ∉ [11, 12, 13, 14, 15] → q'.1 52 j = q.1 52 j) ∧ (∀ j, j ≠ 6 * w + p → q'.1 53 j = q.1 53 j) ∧ q'.1 53 (6 * w + p) = c (6 * w + p) ∧ lm F (q'.1 58) (q'.1 52 10) (q'.1 60) (q'.1 61) := by
  intro m
  induction m with
  | zero =>
    intro a8 q h1 h2 hc hsp hlg hm
    refine ⟨mm_si q 53 (6 * w + p) (c (6 * w + p)), ?_, fr_si q _ _ (by decide), fun j _ => rfl, fun j hj => ?_, ?_, hm⟩
    · rw [x12_practice_h73, if_pos (by rw [lt32]; omega), mm_ck_t (mm_inb_c h5 (by omega)), mm_lt_s, mm_tcn h5]
      rfl
    · rw [mm_si_self, upd_ne _ _ _ hj]
    · rw [mm_si_self, upd_self]
  | succ m ih =>
    intro a8 q h1 h2 hc hsp hlg hm
    have hb' := bd_upd (p := p) hb hw1 (by omega) (v := a8) (by omega) (by omega)
    have hr : rx F (upd c (6 * w + p) a8) sp 0 (mm_si q 53 (6 * w + p) a8) := by
      refine ⟨fun j hj => ?_, hsp, hlg, hm⟩
      rw [mm_si_self]
      by_cases e : j = 6 * w + p
      · rw [e, upd_self, upd_self]
      · rw [upd_ne _ _ _ e, upd_ne _ _ _ e]
        exact hc j hj e
    obtain ⟨q1, y1, y2, y3⟩ := pointsBest_eq hr hb' hp (by omega) hs h9 (mm_rem a2 1000) 0
    have y1' : x12_pointsBest a1 (a2 / 1000) (mm_rem a2 1000) 0 (mm_si q 53 (6 * w + p) a8) = some (VW F c p s (mm_rem a2 1000) w a8, q1) := by
      rw [y1]
      show some (bpn (PT F (upd c (6 * w + p) a8) (GL (upd c (6 * w + p) a8) p s (mm_rem a2 1000) 0) 0) 9, q1) = _
      rw [PT_upd (sp := sp) F (by omega)]
    have g53 : ∀ j, j ≠ 6 * w + p → q1.1 53 j = q.1 53 j := fun j hj => by rw [y2.1.2 53 (by decide), mm_si_self, upd_ne _ _ _ hj]
    obtain ⟨q2, z1, z2, z3, z4, z5, z6⟩ := ih (a8 + Int32.ofInt (-1)) q1 (by
      rw [show Int32.ofInt (-1) = (-1 : Int32) from rfl, mm_add_ti (by rw [tin1]; omega) (by rw [tin1]; omega), tin1]
      omega) (by omega) (fun j hj hj2 => by rw [g53 j hj2]; exact hc j hj hj2) y3.2.1 y3.2.2.1 y3.2.2.2
    refine ⟨q2, ?_, fr_trans (fr_trans (fr_si q _ _ (by decide)) (fr_mono y2.1 (by decide))) z2, fun j hj => (z3 j hj).trans (y2.2 j hj), fun j hj => (z4 j hj).trans (g53 j hj), z5, z6⟩
    have e10 : 10 - (1 - w + m) = (10 - (1 - w + (m + 1))) + 1 := by omega
    have e9 : Int32.ofNat (9 - (10 - (1 - w + (m + 1)))) = a8 := by
      rw [mm_ofn (a := a8) (i := 1 - w + m) (by omega), show 9 - (10 - (1 - w + (m + 1))) = 1 - w + m by omega]
    have es : lst (VW F c p s (mm_rem a2 1000) w) x (10 - (1 - w + m)) = if VW F c p s (mm_rem a2 1000) w a8 < x then lst (VW F c p s (mm_rem a2 1000) w) x (10 - (1 - w + (m + 1))) else a8 := by
      rw [e10]
      show (if VW F c p s (mm_rem a2 1000) w (Int32.ofNat (9 - (10 - (1 - w + (m + 1))))) < x then _ else Int32.ofNat (9 - (10 - (1 - w + (m + 1))))) = _
      rw [e9]
    rw [show f + (m + 1) + 1 = (f + m + 1) + 1 by omega, x12_practice_h73, if_neg (by rw [lt32]; omega), mm_ck_t (mm_inb_c h5 (by omega)), mm_lt_s, mm_tcn h5, y1', mm_cl_s]
    rw [es] at z1
    by_cases z : VW F c p s (mm_rem a2 1000) w a8 < x
    · rw [if_pos z] at z1 ⊢
      exact z1
    · rw [if_neg z] at z1 ⊢
      exact z1
end PRA
theorem pr_practice (v0 v1 v2 v3 : Int32) : mm_pr (mm_Iv mm_LX) (x11_practice v0 v1 v2 v3) (x12_practice v0 v1 v2 v3) := by
  intro q h
  obtain ⟨F, hw, hb, ⟨hs0, hs6⟩, e6, hx, hd⟩ := mm_think h
  have ht := h.1
  by_cases g : (0 ≤ v0.toInt ∧ v0.toInt < (q.1 8 1).toInt) ∧ (0 ≤ v1.toInt ∧ v1.toInt / 1000 < 9 ∧ v1.toInt % 1000 ≤ 99) ∧ (0 ≤ v2.toInt ∧ v2.toInt ≤ 999) ∧ 0 ≤ v3.toInt ∧ v3.toInt ≤ 1
  · obtain ⟨g1, g2, g3, g4, g5⟩ := g
    obtain ⟨s1, s2, s3⟩ := sk_parts g2
    have hp := nat_of g1.1
    have hp6 : v0.toInt.toNat < 6 := by omega
    have go : ∀ (w : Nat) (a4 a5 : Int32), w ≤ 1 → a4.toInt = ((w : Nat) : Int) → v3.toInt = ((1 - w : Nat) : Int) → a5.toInt = ((6 * w + v0.toInt.toNat : Nat) : Int) → ∃ r q1 q2, x7_leastFor v0 v1 v2 a4 q = some (r, q1) ∧ fr [12, 13, 14] q q1 ∧ x12_practice_j54 v0 v1 v2 v3 a5 q1 = some (r, q2) ∧ fz q1 q2 ∧ rx F (q.1 9) (q.1 8 1) 0 q2 := by
      intro w a4 a5 hw1 h4 h3 h5
      have et : x4_told v0 a4 q = some (q.1 9 (6 * w + v0.toInt.toNat), q) := y_told (by rw [pl_sp hs6 hp (by omega) h4 (by omega)]; omega) (by omega)
      have e10 : ∃ q1, x7_leastFor_h15 mm_fu v0 v1 v2 a4 (q.1 9 (6 * w + v0.toInt.toNat)) 0 q = some (lst (VW F (q.1 9) v0.toInt.toNat (v1.toInt / 1000).toNat (mm_rem v1 1000) w) v2 (10 - (1 - w)), q1) ∧ fr [12, 13, 14] q q1 := by
        rcases (show w = 0 ∨ w = 1 by omega) with rfl | rfl
        · have nx := least_h hb hs6 hp (by omega) s1 s2 h4 (by omega) v2 (f := 989) 9 1 (0 + 1) q (by decide) (by omega) (by omega) hw ht.2.1 ht.2.2.1
          obtain ⟨q1, y1, y2⟩ := nx
          refine ⟨q1, ?_, y2⟩
          show x7_leastFor_h15 (999 + 1) v0 v1 v2 a4 _ 0 q = _
          rw [x7_leastFor_h15, if_neg (by decide), y_within ht.2.1 ht.2.2.1 h4 (by omega), mm_cl_s, if_pos (by rw [mm_p0]; decide)]
          exact y1
        · exact least_h hb hs6 hp (by omega) s1 s2 h4 (by omega) v2 (f := 989) 10 0 0 q ti0 (by omega) (by omega) hw ht.2.1 ht.2.2.1
      obtain ⟨q1, y1, y2⟩ := e10
      have k1 : fk q q1 := fk_fr y2 (by decide)
      have hx1 := hx q1 k1
      have c53 : q1.1 53 (6 * w + v0.toInt.toNat) = q.1 9 (6 * w + v0.toInt.toNat) := hx1.1 _ (by omega)
      obtain ⟨q2, z1, z2, z3, z4, z5, z6⟩ := prac_h (F := F) hb hs6 hp (by omega) s1 s2 hw1 h5 h3 v2 (f := 999 - (9 + w)) (9 + w) 9 q1 (by rw [ti9]; omega) (by omega) (fun j hj _ => hx1.1 j hj) hx1.2.1 hx1.2.2.1 hx1.2.2.2
      have e53 : q2.1 53 = q1.1 53 := by
        funext j
        by_cases e : j = 6 * w + v0.toInt.toNat
        · rw [e, z5, c53]
        · exact z4 j e
      refine ⟨lst (VW F (q.1 9) v0.toInt.toNat (v1.toInt / 1000).toNat (mm_rem v1 1000) w) v2 (10 - (1 - w)), q1, q2, ?_, y2, ?_, ⟨fun k hk => ?_, z2.1, fun j hj => z3 j (fun z => hj (fz_sub2 j z))⟩, ⟨fun j hj => by rw [e53]; exact hx1.1 j hj, by rw [z3 6 (by decide)]; exact hx1.2.1, by rw [z3 17 (by decide)]; exact hx1.2.2.1, z6⟩⟩
      · unfold x7_leastFor
        rw [et, mm_cl_s]
        exact y1
      · unfold x12_practice_j54
        rw [mm_ck_t (mm_inb_c h5 (by omega)), mm_tcn h5, c53]
        rw [show 10 - (1 - w + (9 + w)) = 0 by omega, show 999 - (9 + w) + (9 + w) + 1 = mm_fu by show _ = 1000; omega] at z1
        exact z1
      · by_cases e : k = 53
        · rw [e, e53]
        · refine z2.2 k (fun z => ?_)
          rcases List.mem_cons.mp z with z | z
          · exact hk (by rw [z]; decide)
          rcases List.mem_cons.mp z with z | z
          · exact e z
          · exact hk (fz_sub k (List.mem_cons_of_mem _ z))
    have fin : ∀ (a4 a5 : Int32) r q1 q2, fr [12, 13, 14] q q1 → fz q1 q2 → rx F (q.1 9) (q.1 8 1) 0 q2 → x11_practice v0 v1 v2 v3 q = some (r, q1) → x12_practice v0 v1 v2 v3 q1 = some (r, q2) → ∃ r q1 q2, x11_practice v0 v1 v2 v3 q = some (r, q1) ∧ q1.1 0 = q.1 0 ∧ x12_practice v0 v1 v2 v3 q1 = some (r, q2) ∧ mm_Iv mm_LX q2 := by
      intro a4 a5 r q1 q2 f1 f2 hx2 e1 e2
      exact ⟨r, q1, q2, e1, by rw [f1.2 0 (by decide)], e2, hd q1 q2 (fk_fr f1 (by decide)) f2 hx2⟩
    have hX : x11_practice v0 v1 v2 v3 q = if v3 = 0 then mm_cl (x7_leastFor v0 v1 v2 1 q) (fun r12 q13 => some (r12, q13)) else mm_cl (x7_leastFor v0 v1 v2 0 q) (fun r12 q13 => some (r12, q13)) := by
      unfold x11_practice
      rw [isSpitter4_eq, mm_cl_s, if_neg (by rw [mm_p0]; omega), sk11_eq, mm_cl_s, if_neg (by rw [mm_p0]; omega), if_neg (by rw [lt32, ti0]; omega), if_neg (by rw [lt32, ti999]; omega), if_neg (by rw [lt32, ti0]; omega), if_pos (by rw [le32, ti1]; omega)]
    have hM : ∀ q1 : mm_Q, q1.1 52 6 = q.1 8 1 → x12_practice v0 v1 v2 v3 q1 = if v3 = 0 then x12_practice_j54 v0 v1 v2 v3 (6 + v0) q1 else x12_practice_j54 v0 v1 v2 v3 v0 q1 := by
      intro q1 f52
      unfold x12_practice
      rw [isSpitter12_eq (by rw [f52]; exact hs0), mm_cl_s, mm_i64, f52, if_neg (by rw [mm_p0]; omega), sk12_eq, mm_cl_s, if_neg (by rw [mm_p0]; omega), within_eq, mm_cl_s, mm_i64, tl0, tl999, if_neg (by rw [mm_p0]; omega), within_eq, mm_cl_s, mm_i64, tl0, tl1, if_neg (by rw [mm_p0]; omega)]
    by_cases c0 : v3 = 0
    · obtain ⟨r, q1, q2, y1, y2, y3, y4, y5⟩ := go 1 1 (6 + v0) (by omega) (by decide) (by rw [c0]; decide) (mm_add_n v0 hp ti6n (by omega))
      refine fin 0 0 r q1 q2 y2 y4 y5 (by rw [hX, if_pos c0, y1, mm_cl_s]) ?_
      rw [hM q1 (by rw [y2.2 52 (by decide)]; exact e6), if_pos c0]
      exact y3
    · have c1 : v3.toInt = ((1 - 0 : Nat) : Int) := by
        rw [eq32, ti0] at c0
        omega
      obtain ⟨r, q1, q2, y1, y2, y3, y4, y5⟩ := go 0 0 v0 (by omega) (by decide) c1 (by omega)
      refine fin 0 0 r q1 q2 y2 y4 y5 (by rw [hX, if_neg c0, y1, mm_cl_s]) ?_
      rw [hM q1 (by rw [y2.2 52 (by decide)]; exact e6), if_neg c0]
      exact y3
  · refine ⟨-1, q, q, ?_, rfl, ?_, h⟩
    · unfold x11_practice
      simp only [isSpitter4_eq, sk11_eq, mm_cl_s, mm_p0, lt32, le32, ti0, ti1, ti999]
      repeat' split
      all_goals first | rfl | (exfalso; omega)
    · unfold x12_practice
      simp only [isSpitter12_eq (show 0 ≤ (q.1 52 6).toInt by rw [e6]; exact hs0), sk12_eq, within_eq, mm_cl_s, mm_p0, mm_i64, e6, tl0, tl1, tl999]
      repeat' split
      all_goals first | rfl | (exfalso; omega)
