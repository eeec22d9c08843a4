/-! the turns one behind another, and the refusals at the end -/
section LU
variable {F : mm_F} {c : Nat → Int32} {sp : Int32} {xs : Nat → Int32} {len : Nat} {rr50 : Nat → Int32 → mm_Q → Option (Int32 × mm_Q)} {t : Nat} {a6 a7 a8 a9 a10 a11 : Int32} {p s : Nat}
theorem stB_s (hb : bd sp c) (hs6 : sp.toInt ≤ 6) (pa : PA sp a8 a9 a10 a11 p s) {q : mm_Q} (hi : IL F c sp xs q) {a14 : Int32} {i : Nat} (hai : a14.toInt = i) (hi3 : i < 3) (hv : (if a14 = 0 then (ban (fun a => stp c (LN F (GL c p s a10 0) a 0)) 9).1 else if a14 = 1 then (ban (PT F c (GL c p s a10 0) 0) 9).1 else (b2 (PT F c (GL c p s a10 0) 0) (PT F c (GL c p s a10 0) 1) 9).1) = q.1 (56 + 3 * t) i) (n : Nat) : ∃ q', law_h388 len rr50 (n + 1) t a6 a7 a8 a9 a10 a11 a14 q = law_h388 len rr50 n t a6 a7 a8 a9 a10 a11 (a14 + 1) q' ∧ IL F c sp xs q' ∧ q'.1 (56 + 3 * t) = q.1 (56 + 3 * t) := by
  obtain ⟨s1, s2, s3, s4, s5, s6⟩ := PA_sk pa
  obtain ⟨q1, y1, f1⟩ := cl_angle (v0 := a8) (v1 := a11) (v2 := a14) hi.2.1 hb hs6 ⟨⟨s5, s6⟩, s1, by omega, by omega⟩
  rw [s2, s3, s4, hv] at y1
  have er : q1.1 (56 + 3 * t) = q.1 (56 + 3 * t) := fk_row f1 (by omega)
  refine ⟨q1, ?_, IL_fk hi f1, er⟩
  rw [law_h388, if_neg (by rw [le32, ti3]; omega), y1, mm_cl_s, mm_ck_t (mm_inb_c hai (by omega)), mm_tcn hai, er, if_pos rfl]
theorem stB (hb : bd sp c) (hs : 0 ≤ sp.toInt ∧ sp.toInt ≤ 6) (hl : len ≤ 260) (h66 : 0 ≤ a6.toInt ∧ a6.toInt < 6) (pa : PA sp a8 a9 a10 a11 p s) (hr : ∀ q', IL F c sp xs q' → ok1 (rr50 (t + 1) (a6 + 1) q')) {q : mm_Q} (hi : IL F c sp xs q) (h3 : R2 t 2 (b2 (PT F c (GL c p s a10 0) 0) (PT F c (GL c p s a10 0) 1) 9) q) (h4 : R2 t 0 (ban (fun a => stp c (LN F (GL c p s a10 0) a 0)) 9) q) (h5 : R2 t 1 (ban (PT F c (GL c p s a10 0) 0) 9) q) : ok1 (law_h388 len rr50 mm_fv t a6 a7 a8 a9 a10 a11 0 q) := by
  obtain ⟨q1, y1, i1, r1⟩ := stB_s (t := t) (a6 := a6) (a7 := a7) (len := len) (rr50 := rr50) hb hs.2 pa hi (a14 := 0) (i := 0) ti0 (by omega) (by rw [if_pos rfl]; exact h4.1.symm) 8999
  obtain ⟨q2, y2, i2, r2⟩ := stB_s (t := t) (a6 := a6) (a7 := a7) (len := len) (rr50 := rr50) hb hs.2 pa i1 (a14 := 0 + 1) (i := 1) (by decide) (by omega) (by rw [if_neg (by decide), if_pos (by decide), r1]; exact h5.1.symm) 8998
  obtain ⟨q3, y3, i3, r3⟩ := stB_s (t := t) (a6 := a6) (a7 := a7) (len := len) (rr50 := rr50) hb hs.2 pa i2 (a14 := 0 + 1 + 1) (i := 2) (by decide) (by omega) (by rw [if_neg (by decide), if_neg (by decide), r2, r1]; exact h3.1.symm) 8997
  have r15 := rem_rng (a := mm_ushr a7 15) (b := 60) (ushr_nn a7 15 (by omega) (by omega)) (by decide)
  rw [ti60] at r15
  rw [show mm_fv = 8999 + 1 from rfl, y1, show 8999 = 8998 + 1 from rfl, y2, show 8998 = 8997 + 1 from rfl, y3, show 8997 = 8996 + 1 from rfl, law_h388, if_pos (by decide)]
  exact stC hb hs hl h66 pa ⟨r15.1, by omega⟩ hr i3
/-- one turn -/
theorem turn_ok (hb : bd sp c) (hs : 0 ≤ sp.toInt ∧ sp.toInt ≤ 6) (hl : len ≤ 260) (h66 : 0 ≤ a6.toInt ∧ a6.toInt < 6) {s0 s1 : Int32} (h0 : 0 ≤ s0.toInt) (h1 : s1 = 12 ∨ s1 = 100) (hp : a8.toInt = p ∧ (p : Int) < sp.toInt) (hz : a9.toInt = s ∧ s < 9) (hr : ∀ q', IL F c sp xs q' → ok1 (rr50 (t + 1) (a6 + 1) q')) {q : mm_Q} (hi : IL F c sp xs q) : ok1 (law_j106 len rr50 t a6 a7 a8 a9 s0 s1 q) := by
  have h1t : 0 < s1.toInt ∧ s1.toInt ≤ 100 := by
    rcases h1 with e | e
    · rw [e, ti12]; omega
    · rw [e, ti100]; omega
  have rk := rem_rng h0 h1t.1
  have nz : mm_nz s1 = true := by
    unfold mm_nz
    rw [decide_eq_false (by rw [eq32, ti0]; omega)]
    rfl
  have e1000 : ((1000 : Int32) * a9).toInt = 1000 * (s : Int) := by rw [mm_mul_ti (by rw [ti1000]; omega) (by rw [ti1000]; omega), ti1000, hz.1]
  have pa : PA sp a8 a9 (mm_rem s0 s1) (1000 * a9 + mm_rem s0 s1) p s := ⟨hp, hz, ⟨rk.1, by omega⟩, by rw [mm_add_ti (by omega) (by omega), e1000]⟩
  unfold law_j106
  rw [mm_ck_t nz, mm_lt_s, mm_lt_s]
  have i1 : IL F c sp xs (mm_nwr (mm_nwr q (56 + 3 * t)) (56 + (3 * t + 1))) := IL_nw (IL_nw hi (by omega)) (by omega)
  have far : ∀ j, (mm_nwr (mm_nwr q (56 + 3 * t)) (56 + (3 * t + 1))).1 (56 + 3 * t) j = 0 := fun j => by
    have e1 : (mm_nwr (mm_nwr q (56 + 3 * t)) (56 + (3 * t + 1))).1 (56 + 3 * t) = (mm_nwr q (56 + 3 * t)).1 (56 + 3 * t) := mm_uc_ne _ _ (by omega)
    have e2 : (mm_nwr q (56 + 3 * t)).1 (56 + 3 * t) = fun _ => 0 := mm_uc_self _ _ _
    rw [e1, e2]
  obtain ⟨qa, hqa⟩ : ∃ qa, mm_nwr (mm_nwr q (56 + 3 * t)) (56 + (3 * t + 1)) = qa := ⟨_, rfl⟩
  rw [hqa] at i1 far ⊢
  -- the three that stand at -1
  obtain ⟨qb, hqb⟩ : ∃ qb, mm_si (mm_si (mm_si qa (56 + (3 * t + 1)) 0 (-1)) (56 + (3 * t + 1)) 1 (-1)) (56 + (3 * t + 1)) 2 (-1) = qb := ⟨_, rfl⟩
  have ib : IL F c sp xs qb := by
    rw [← hqb]
    exact IL_si (IL_si (IL_si i1 (by omega) _ _) (by omega) _ _) (by omega) _ _
  have fb : ∀ j, qb.1 (56 + 3 * t) j = 0 := fun j => by
    rw [← hqb, mm_si_ne _ _ _ _ (by omega), mm_si_ne _ _ _ _ (by omega), mm_si_ne _ _ _ _ (by omega)]
    exact far j
  have m0 : qb.1 (56 + (3 * t + 1)) 0 = -1 := by rw [← hqb, mm_si_self, upd_ne _ _ _ (by decide), mm_si_self, upd_ne _ _ _ (by decide), mm_si_self, upd_self]
  have m1 : qb.1 (56 + (3 * t + 1)) 1 = -1 := by rw [← hqb, mm_si_self, upd_ne _ _ _ (by decide), mm_si_self, upd_self]
  have m2 : qb.1 (56 + (3 * t + 1)) 2 = -1 := by rw [← hqb, mm_si_self, upd_self]
  have st : law_h133 len rr50 mm_fv t a6 a7 a8 a9 (mm_rem s0 s1) (1000 * a9 + mm_rem s0 s1) 0 qa = law_h154 len rr50 mm_fv t a6 a7 a8 a9 (mm_rem s0 s1) (1000 * a9 + mm_rem s0 s1) 0 qb := by
    rw [show mm_fv = 8996 + 1 + 1 + 1 + 1 from rfl, law_h133, if_neg (by decide), mm_ck_t (by decide), mm_lt_s, law_h133, if_neg (by decide), mm_ck_t (by decide), mm_lt_s, law_h133, if_neg (by decide), mm_ck_t (by decide), mm_lt_s, law_h133, if_pos (by decide), ← hqb]
    rfl
  rw [st]
  obtain ⟨q1, y1, y2, y3, y4, y5⟩ := tr_h (t := t) (a6 := a6) (a7 := a7) (len := len) (rr50 := rr50) hb hs.2 pa (f := 8990) 9 0 0 qb ti0 (by omega) ib ⟨fb 2, m2⟩ ⟨fb 0, m0⟩ ⟨fb 1, m1⟩
  rw [show mm_fv = 8990 + 9 + 1 from rfl, y1]
  exact stB hb hs hl h66 pa hr y2 y3 y4 y5
/-- all turns, and the end -/
theorem turns_ok (hb : bd sp c) (hs : 1 ≤ sp.toInt ∧ sp.toInt ≤ 6) (hl : len ≤ 260) {f : Nat} : ∀ (m t : Nat) (a6 : Int32) (q : mm_Q), a6.toInt = t → t + m = 6 → IL F c sp xs q → ok1 (law_h50 len (f + m + 1) t a6 q) := by
  intro m
  induction m with
  | zero =>
    intro t a6 q h1 h2 hi
    have et : t = 6 := by omega
    have h8 : q.1 8 1 = sp := hi.2.1.2.1
    have n1 : x11_tries (q.1 52 0) 0 0 0 q = some (-1, q) := cl_tries_no (fun z => by
      have := z.1.2
      rw [hi.2.2.1.1, h8] at this
      omega)
    have n2 : x11_tries 0 9000 0 0 q = some (-1, q) := cl_tries_no (fun z => absurd z.2.1.2.1 (by decide))
    have n3 : x11_tries 0 100 0 0 q = some (-1, q) := cl_tries_no (fun z => absurd z.2.1.2.2 (by decide))
    have n4 : x11_tries 0 0 90 0 q = some (-1, q) := cl_tries_no (fun z => absurd z.2.2.1.2.1 (by decide))
    have n5 : x11_tries 0 0 2 0 q = some (-1, q) := cl_tries_no (fun z => absurd z.2.2.1.2.2 (by decide))
    have n6 : x11_tries 0 0 0 3 q = some (-1, q) := cl_tries_no (fun z => absurd z.2.2.2.2 (by decide))
    have n7 : x11_angle 0 0 3 q = some (-1, q) := cl_angle_no (fun z => absurd z.2.2.2 (by decide))
    have n8 : x11_risk 0 0 2 0 q = some (-9223372036854775808, q) := cl_risk_no (by decide) (fun z => absurd z.2.2.1.2 (by decide))
    have n9 : x11_risk 0 0 10000 0 q = some (-9223372036854775808, q) := cl_risk_no (by decide) (fun z => absurd z.2.2.1.1 (by decide))
    have n10 : x11_risks 0 0 0 0 q = some (-9223372036854775808, q) := cl_risks_no (by decide) (fun z => absurd z.2.2.1.2 (by decide))
    have n11 : x11_practice 0 0 1000 0 q = some (-1, q) := cl_practice_no (fun z => absurd z.2.2.1.2 (by decide))
    have n12 : x11_order 0 5120 0 0 q = some (-1, q) := cl_order_no (by decide) (fun z => absurd z.2.1.1 (by decide))
    have n13 : x11_order 0 2 0 0 q = some (-1, q) := cl_order_no (by decide) (fun z => absurd z.2.1.2 (by decide))
    have n14 : x11_order 0 0 100 0 q = some (-1, q) := cl_order_no (by decide) (fun z => absurd z.2.2.1.2 (by decide))
    have n15 : x11_steps 0 1000 q = some (-1, q) := cl_steps_no (by decide)
    have n16 : x11_whose 1000 0 q = some (-1, q) := cl_whose_no (by decide)
    have n17 : x11_drawn 0 0 0 99 q = some (-1, q) := cl_drawn_no (by decide) (fun z => absurd z.1.1 (by decide))
    have n18 : x11_drawn 0 0 0 120 q = some (-1, q) := cl_drawn_no (by decide) (fun z => absurd z.2.1 (by decide))
    refine ⟨q, ?_⟩
    rw [law_h50, if_pos (by rw [le32, ti6]; omega), mm_ck_t (by rw [et]; rfl), n1, mm_cl_s, if_pos rfl, n2, mm_cl_s, if_pos rfl, n3, mm_cl_s, if_pos rfl, n4, mm_cl_s, if_pos rfl, n5, mm_cl_s, if_pos rfl, n6, mm_cl_s, if_pos rfl, n7, mm_cl_s, if_pos rfl, n8, mm_cl_s, if_pos (mm_cmp_self _), n9, mm_cl_s, if_pos (mm_cmp_self _), n10, mm_cl_s, if_pos (mm_cmp_self _), n11, mm_cl_s, if_pos rfl, n12, mm_cl_s, if_pos rfl, n13, mm_cl_s, if_pos rfl, n14, mm_cl_s, if_pos rfl, n15, mm_cl_s, if_pos rfl, n16, mm_cl_s, if_pos rfl, n17, mm_cl_s, if_pos rfl, n18, mm_cl_s, if_pos rfl]
  | succ m ih =>
    intro t a6 q h1 h2 hi
    have e18 : (18 + a6).toInt = 18 + a6.toInt := by rw [mm_add_ti (by rw [ti18]; omega) (by rw [ti18]; omega), ti18]
    have e52 := hi.2.2.1.1
    have nz : mm_nz sp = true := by
      unfold mm_nz
      rw [decide_eq_false (by rw [eq32, ti0]; omega)]
      rfl
    have hr : ∀ q', IL F c sp xs q' → ok1 (law_h50 len (f + m + 1) (t + 1) (a6 + 1) q') := fun q' h => ih (t + 1) (a6 + 1) q' (mm_inc1 h1 (by omega)) (by omega) h
    rw [show f + (m + 1) + 1 = (f + m + 1) + 1 by omega, law_h50, if_neg (by rw [le32, ti6]; omega), mm_ck_t (by unfold mm_tb; exact Nat.ble_eq_true_of_le (by omega)), cell_eq hl (by omega) hi.1.1, mm_cl_s, e52, mm_ck_t nz]
    generalize CE len xs (18 + a6) = v
    have rp := rem_rng (a := mm_ushr v 1) (b := sp) (ushr_nn v 1 (by omega) (by omega)) (by omega)
    have rz := rem_rng (a := mm_ushr v 4) (b := 9) (ushr_nn v 4 (by omega) (by omega)) (by decide)
    rw [ti9] at rz
    have u8 := ushr_nn v 8 (by omega) (by omega)
    by_cases z : v &&& 1 = 0
    · rw [if_pos z]
      exact turn_ok hb ⟨by omega, hs.2⟩ hl ⟨by omega, by omega⟩ u8 (Or.inl rfl) (p := (mm_rem (mm_ushr v 1) sp).toInt.toNat) ⟨by omega, by omega⟩ (s := (mm_rem (mm_ushr v 4) 9).toInt.toNat) ⟨by omega, by omega⟩ hr hi
    · rw [if_neg z]
      exact turn_ok hb ⟨by omega, hs.2⟩ hl ⟨by omega, by omega⟩ u8 (Or.inr rfl) (p := (mm_rem (mm_ushr v 1) sp).toInt.toNat) ⟨by omega, by omega⟩ (s := (mm_rem (mm_ushr v 4) 9).toInt.toNat) ⟨by omega, by omega⟩ hr hi
end LU
