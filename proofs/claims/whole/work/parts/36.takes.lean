/-! a try is taken, and thought of -/
theorem upd_self (f : Nat → Int32) (k : Nat) (x : Int32) : upd f k x k = x := if_pos rfl
theorem upd_ne (f : Nat → Int32) (k : Nat) (x : Int32) {j : Nat} (h : j ≠ k) : upd f k x j = f j := if_neg h
theorem y_told {q : mm_Q} {a1 a2 : Int32} {j : Nat} (h : (mm_pl (q.1 8 1) a1 a2).toInt = (j : Nat)) (hj : j < 54) : x4_told a1 a2 q = some (q.1 9 j, q) := by
  unfold x4_told
  rw [cellOf_eq, mm_cl_s, if_neg (by rw [lt32, ti0]; omega), if_neg (by rw [le32, ti54]; omega), mm_ck_t (mm_inb_c h hj), mm_tcn h]
theorem ti6n : (6 : Int32).toInt = ((6 : Nat) : Int) := by decide
theorem ti9n : (9 : Int32).toInt = ((9 : Nat) : Int) := by decide
theorem pl_sp {sp a1 a2 : Int32} {p w : Nat} (hs : sp.toInt ≤ 6) (hp : a1.toInt = p) (hps : (p : Int) < sp.toInt) (hw : a2.toInt = w) (h4 : w ≤ 4) : (mm_pl sp a1 a2).toInt = ((w * 6 + p : Nat) : Int) := by
  unfold mm_pl
  rw [if_pos (by omega), if_pos (by omega), mm_lin ti6n hw hp (by omega)]
theorem pl_st {sp a1 a2 : Int32} {s w : Nat} (hs : a1.toInt = s) (h9 : s < 9) (hw : a2.toInt = ((5 + w : Nat) : Int)) (h4 : w ≤ 1) : (mm_pl sp a1 a2).toInt = ((30 + w * 9 + s : Nat) : Int) := by
  unfold mm_pl
  rw [if_neg (by omega), if_pos (by omega), if_pos (by omega)]
  have e0 : (a2 - 5).toInt = ((w : Nat) : Int) := by rw [mm_sub_ti (by rw [ti5]; omega) (by rw [ti5]; omega), ti5]; omega
  have e1 : ((a2 - 5) * 9).toInt = ((w * 9 : Nat) : Int) := mm_lin0 ti9n e0 (by omega)
  have e2 : (30 + (a2 - 5) * 9).toInt = ((30 + w * 9 : Nat) : Int) := by rw [mm_add_ti (by rw [ti30]; omega) (by rw [ti30]; omega), ti30, e1]; omega
  rw [mm_add_ti (by omega) (by omega), e2, hs]
  omega
theorem pl_wind {sp : Int32} : (mm_pl sp 0 7).toInt = ((48 : Nat) : Int) := by
  unfold mm_pl
  rw [if_neg (by decide), if_neg (by decide), if_pos (by decide)]
  decide
theorem pl_laugh {sp : Int32} : (mm_pl sp 0 12).toInt = ((53 : Nat) : Int) := by
  unfold mm_pl
  rw [if_neg (by decide), if_neg (by decide), if_pos (by decide)]
  decide
/-- the class at its lane and its law -/
def cw (F : mm_F) (c : Nat → Int32) (sp : Int32) (q : mm_Q) : Prop := q.1 9 = c ∧ q.1 8 1 = sp ∧ lc F (q.1 11) (q.1 10 3)
theorem cw_fr {F : mm_F} {c : Nat → Int32} {sp : Int32} {q q' : mm_Q} {S : List Nat} (h : cw F c sp q) (f : fr S q q') (h8 : 8 ∉ S) (h9 : 9 ∉ S) (h10 : 10 ∉ S) (h11 : 11 ∉ S) : cw F c sp q' := by
  obtain ⟨a, b, d⟩ := h
  refine ⟨(f.2 9 h9).trans a, by rw [f.2 8 h8]; exact b, ?_⟩
  rw [f.2 11 h11, f.2 10 h10]
  exact d
def tk (c : Nat → Int32) (p s : Nat) (k : Int32) (g : Nat → Int32) : Nat → Int32 := upd (upd (upd (upd (upd g 2 (c p + c (6 + p))) 3 (c (30 + s))) 4 (c (39 + s))) 5 (c (12 + p) * k)) 6 (c 48)
/-- a try's numbers, its stone larger -/
def GL (c : Nat → Int32) (p s : Nat) (k lg : Int32) : Nat → Int32 := upd (upd (upd (upd (upd (fun _ => 0) 2 (c p + c (6 + p))) 3 (mm_mn (c (30 + s) + lg) 9)) 4 (c (39 + s))) 5 (c (12 + p) * k)) 6 (c 48)
theorem take_eq {F : mm_F} {c : Nat → Int32} {sp : Int32} {q : mm_Q} {a1 a2 : Int32} {p s : Nat} (h : cw F c sp q) (hs : sp.toInt ≤ 6) (hp : a1.toInt = p) (hps : (p : Int) < sp.toInt) (hst : a2.toInt = s) (h9 : s < 9) (k : Int32) : ∃ q', x10_take a1 a2 k q = some ((), q') ∧ cx F c (tk c p s k (q.1 14)) q' ∧ fr [14] q q' := by
  obtain ⟨hc, hsp, hl⟩ := h
  have t0 : ∀ q' : mm_Q, q'.1 8 1 = q.1 8 1 → x4_told a1 0 q' = some (q'.1 9 p, q') := fun q' e => y_told (by rw [e, hsp, pl_sp hs hp hps (w := 0) (by decide) (by decide)]; omega) (by omega)
  have t1 : ∀ q' : mm_Q, q'.1 8 1 = q.1 8 1 → x4_told a1 1 q' = some (q'.1 9 (6 + p), q') := fun q' e => y_told (by rw [e, hsp, pl_sp hs hp hps (w := 1) (by decide) (by decide)]) (by omega)
  have t2 : ∀ q' : mm_Q, q'.1 8 1 = q.1 8 1 → x4_told a1 2 q' = some (q'.1 9 (12 + p), q') := fun q' e => y_told (by rw [e, hsp, pl_sp hs hp hps (w := 2) (by decide) (by decide)]) (by omega)
  have t5 : ∀ q' : mm_Q, x4_told a2 5 q' = some (q'.1 9 (30 + s), q') := fun q' => y_told (by rw [pl_st hst h9 (w := 0) (by decide) (by decide)]) (by omega)
  have t6 : ∀ q' : mm_Q, x4_told a2 6 q' = some (q'.1 9 (39 + s), q') := fun q' => y_told (by rw [pl_st hst h9 (w := 1) (by decide) (by decide)]) (by omega)
  have t7 : ∀ q' : mm_Q, x4_told 0 7 q' = some (q'.1 9 48, q') := fun q' => y_told pl_wind (by omega)
  have e : x10_take a1 a2 k q = some ((), mm_si (mm_si (mm_si (mm_si (mm_si q 14 2 (q.1 9 p + q.1 9 (6 + p))) 14 3 (q.1 9 (30 + s))) 14 4 (q.1 9 (39 + s))) 14 5 (q.1 9 (12 + p) * k)) 14 6 (q.1 9 48)) := by
    unfold x10_take
    rw [t0 q rfl, mm_cl_s, t1 q rfl, mm_cl_s, mm_lt_s, t5, mm_cl_s, mm_lt_s, t6, mm_cl_s, mm_lt_s, t2 (mm_si (mm_si (mm_si q 14 2 _) 14 3 _) 14 4 _) rfl, mm_cl_s, mm_lt_s, t7, mm_cl_s, mm_lt_s]
    rfl
  refine ⟨_, e, ⟨hc, ?_, hl⟩, rfl, fun a ha => ?_⟩
  · rw [← hc]
    rfl
  · have ha2 : a ≠ 14 := fun z => ha (by rw [z]; decide)
    rw [mm_si_ne _ _ _ _ ha2, mm_si_ne _ _ _ _ ha2, mm_si_ne _ _ _ _ ha2, mm_si_ne _ _ _ _ ha2, mm_si_ne _ _ _ _ ha2]
theorem bd_st {sp : Int32} {c : Nat → Int32} (h : bd sp c) {s : Nat} (h9 : s < 9) : 1 ≤ (c (30 + s)).toInt ∧ (c (30 + s)).toInt ≤ 9 := by
  have e : mm_wh (30 + s) = 5 := by
    unfold mm_wh
    rw [if_neg (by omega), if_pos (by omega)]
  exact okc_rng (h (30 + s) ⟨by omega, by omega⟩) (by rw [e]; decide) (by rw [e]; decide)
theorem bd_sp {sp : Int32} {c : Nat → Int32} (h : bd sp c) {p w : Nat} (hp : (p : Int) < sp.toInt) (hs : sp.toInt ≤ 6) (hw : w ≤ 4) {a b : Int} (ha : (mm_t2.getD w 0).toInt = a) (hb : (mm_t3.getD w 0).toInt = b) : a ≤ (c (6 * w + p)).toInt ∧ (c (6 * w + p)).toInt ≤ b := by
  have e : mm_wh (6 * w + p) = w := by
    unfold mm_wh
    rw [if_pos (by omega)]
    omega
  exact okc_rng (h (6 * w + p) ⟨by omega, fun _ => by omega⟩) (by rw [e]; exact ha) (by rw [e]; exact hb)
theorem LN_tk {sp : Int32} {c : Nat → Int32} (h : bd sp c) (F : mm_F) {s : Nat} (h9 : s < 9) (p : Nat) (k : Int32) (g : Nat → Int32) : LN F (tk c p s k g) = LN F (GL c p s k 0) := by
  have e : mm_mn (c (30 + s) + 0) 9 = c (30 + s) := by
    have b := bd_st h h9
    unfold mm_mn
    rw [Int32.add_zero, if_neg (by rw [lt32, ti9]; omega)]
  funext a r
  show cl (F a (if r = 1 then (c p + c (6 + p)) + 3 else c p + c (6 + p)) (c (30 + s)) (c (39 + s)) (c 48) (c (12 + p) * k)) = cl (F a (if r = 1 then (c p + c (6 + p)) + 3 else c p + c (6 + p)) (mm_mn (c (30 + s) + 0) 9) (c (39 + s)) (c 48) (c (12 + p) * k))
  rw [e]
theorem PT_tk {sp : Int32} {c : Nat → Int32} (h : bd sp c) (F : mm_F) {s : Nat} (h9 : s < 9) (p : Nat) (k : Int32) (g : Nat → Int32) : PT F c (tk c p s k g) = PT F c (GL c p s k 0) := by
  funext r a
  show pnt c (LN F (tk c p s k g) a r) = pnt c (LN F (GL c p s k 0) a r)
  rw [LN_tk h F h9]
/-- a try, the best points -/
theorem take_best {F : mm_F} {c : Nat → Int32} {sp : Int32} {q : mm_Q} {a1 a2 : Int32} {p s : Nat} (h : cw F c sp q) (hb : bd sp c) (hs : sp.toInt ≤ 6) (hp : a1.toInt = p) (hps : (p : Int) < sp.toInt) (hst : a2.toInt = s) (h9 : s < 9) (k r : Int32) : ∃ q1 q2, x10_take a1 a2 k q = some ((), q1) ∧ x10_bestPoints r q1 = some (BP F c (GL c p s k 0) r, q2) ∧ fr [12, 13, 14] q q2 ∧ cw F c sp q2 := by
  obtain ⟨q1, e1, x1, f1⟩ := take_eq h hs hp hps hst h9 k
  obtain ⟨q2, e2, f2⟩ := bestPoints_eq x1 r
  have f3 : fr [12, 13, 14] q q2 := fr_trans (fr_mono f1 (by decide)) (fr_mono f2 (by decide))
  refine ⟨q1, q2, e1, ?_, f3, cw_fr h f3 (by decide) (by decide) (by decide) (by decide)⟩
  rw [e2]
  show some (bpn (PT F c (tk c p s k (q.1 14)) r) 9, q2) = _
  rw [PT_tk hb F h9]
/-- a try, one angle -/
theorem take_land {F : mm_F} {c : Nat → Int32} {sp : Int32} {q : mm_Q} {a1 a2 : Int32} {p s : Nat} (h : cw F c sp q) (hb : bd sp c) (hs : sp.toInt ≤ 6) (hp : a1.toInt = p) (hps : (p : Int) < sp.toInt) (hst : a2.toInt = s) (h9 : s < 9) (k a r : Int32) : ∃ q1 q2, x10_take a1 a2 k q = some ((), q1) ∧ x10_landing a r q1 = some (LN F (GL c p s k 0) a r, q2) ∧ fr [12, 13, 14] q q2 ∧ cw F c sp q2 := by
  obtain ⟨q1, e1, x1, f1⟩ := take_eq h hs hp hps hst h9 k
  obtain ⟨q2, e2, f2⟩ := landing_eq x1.2.2 a r
  have f3 : fr [12, 13, 14] q q2 := fr_trans (fr_mono f1 (by decide)) (fr_mono f2 (by decide))
  refine ⟨q1, q2, e1, ?_, f3, cw_fr h f3 (by decide) (by decide) (by decide) (by decide)⟩
  rw [e2, x1.2.1, LN_tk hb F h9]
