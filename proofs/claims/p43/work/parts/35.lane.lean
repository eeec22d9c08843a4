/-! the lane by cells -/
section LL
variable {xs : Nat → Int32} {len : Nat}
theorem own_any {sp sp' : Int32} {c : Nat → Int32} (h : bd sp c) (e : sp = sp') : bd sp' c := e ▸ h
/-- while spitters come -/
def LI (xs : Nat → Int32) (d : Nat → Int32) (r : Nat → Nat → Int32) (n : Nat) (c : Nat → Int32) (q : mm_Q) : Prop := LNS xs (Int32.ofNat n) c q ∧ bd (Int32.ofNat n) c ∧ (q.1 52 = r 52 ∧ q.1 54 = r 54 ∧ q.1 55 = r 55) ∧ (∀ p w, p < n → w < 5 → q.1 53 (5 * p + w) = c (6 * w + p)) ∧ ∀ j, 30 ≤ j → j < 54 → c j = d j
theorem ofN_ti {n : Nat} (h : n < 1000) : (Int32.ofNat n).toInt = ((n : Nat) : Int) := mm_ofNat_ti (by omega)
theorem spit_s (hl : len ≤ 260) {d : Nat → Int32} {r : Nat → Nat → Int32} {n : Nat} {c : Nat → Int32} {q : mm_Q} (h : LI xs d r n c q) {a9 : Int32} (h9 : a9.toInt = n) (h6 : n < 6) (hx : (n : Int) < (r 52 0).toInt) (f : Nat) : ∃ (c' : Nat → Int32) (q' : mm_Q), x14_lane_h213 len (f + 1) a9 q = x14_lane_h213 len f (a9 + 1) q' ∧ LI xs d r (n + 1) c' q' := by
  obtain ⟨h1, h2, ⟨g52, g54, g55⟩, h4, h5⟩ := h
  have en := mm_ofn h9
  have sn1 := ofn_s (n := n) (by omega)
  have tn := ofN_ti (n := n) (by omega)
  have tn1 := ofN_ti (n := n + 1) (by omega)
  have e2 : (2 + a9).toInt = 2 + a9.toInt := by rw [mm_add_ti (by rw [ti2]; omega) (by rw [ti2]; omega), ti2]
  have i0 := five_0 h9 (by omega)
  have i1 : ((5 : Int32) * a9 + 1).toInt = ((5 * n + 1 : Nat) : Int) := five_ti h9 (by omega) 1 (by omega)
  have i2 : ((5 : Int32) * a9 + 2).toInt = ((5 * n + 2 : Nat) : Int) := five_ti h9 (by omega) 2 (by omega)
  have i3 : ((5 : Int32) * a9 + 3).toInt = ((5 * n + 3 : Nat) : Int) := five_ti h9 (by omega) 3 (by omega)
  have i4 : ((5 : Int32) * a9 + 4).toInt = ((5 * n + 4 : Nat) : Int) := five_ti h9 (by omega) 4 (by omega)
  obtain ⟨v, hv⟩ : ∃ v, CE len xs (2 + a9) = v := ⟨_, rfl⟩
  have cel := cell_eq (len := len) hl (xs := xs) (a := 2 + a9) (by omega) (q := q) h1.1.1
  rw [hv] at cel
  have r1 := rem_rng (a := mm_ushr v 1) (b := 9) (ushr_nn v 1 (by omega) (by omega)) (by decide)
  have r5 := rem_rng (a := mm_ushr v 5) (b := 10) (ushr_nn v 5 (by omega) (by omega)) (by decide)
  have r9 := rem_rng (a := mm_ushr v 9) (b := 10) (ushr_nn v 9 (by omega) (by omega)) (by decide)
  have r13 := rem_rng (a := mm_ushr v 13) (b := 13) (ushr_nn v 13 (by omega) (by omega)) (by decide)
  have r17 := rem_rng (a := mm_ushr v 17) (b := 20) (ushr_nn v 17 (by omega) (by omega)) (by decide)
  rw [ti9] at r1
  rw [ti10] at r5 r9
  rw [ti13] at r13
  rw [ti20] at r17
  obtain ⟨E0, hE0⟩ : ∃ E0, 1 + mm_rem (mm_ushr v 1) 9 = E0 := ⟨_, rfl⟩
  obtain ⟨E1, hE1⟩ : ∃ E1, mm_rem (mm_ushr v 5) 10 = E1 := ⟨_, rfl⟩
  obtain ⟨E2, hE2⟩ : ∃ E2, mm_rem (mm_ushr v 9) 10 = E2 := ⟨_, rfl⟩
  obtain ⟨E3, hE3⟩ : ∃ E3, mm_rem (mm_ushr v 13) 13 = E3 := ⟨_, rfl⟩
  obtain ⟨E4, hE4⟩ : ∃ E4, 1 + mm_rem (mm_ushr v 17) 20 = E4 := ⟨_, rfl⟩
  have b0 : 1 ≤ E0.toInt ∧ E0.toInt ≤ 9 := by
    rw [← hE0, mm_add_ti (by rw [ti1]; omega) (by rw [ti1]; omega), ti1]
    omega
  have b4 : 1 ≤ E4.toInt ∧ E4.toInt ≤ 20 := by
    rw [← hE4, mm_add_ti (by rw [ti1]; omega) (by rw [ti1]; omega), ti1]
    omega
  rw [hE1] at r5
  rw [hE2] at r9
  rw [hE3] at r13
  -- the row
  obtain ⟨qa, hqa⟩ : ∃ qa, mm_si (mm_si (mm_si (mm_si (mm_si q 53 (5 * n) E0) 53 (5 * n + 1) E1) 53 (5 * n + 2) E2) 53 (5 * n + 3) E3) 53 (5 * n + 4) E4 = qa := ⟨_, rfl⟩
  have la : LNS xs (Int32.ofNat n) c qa := by
    rw [← hqa]
    exact LS_si (LS_si (LS_si (LS_si (LS_si h1 (by decide) _ _) (by decide) _ _) (by decide) _ _) (by decide) _ _) (by decide) _ _
  have ra : ∀ k, k ≠ 53 → qa.1 k = q.1 k := fun k hk => by
    rw [← hqa, mm_si_ne _ _ _ _ hk, mm_si_ne _ _ _ _ hk, mm_si_ne _ _ _ _ hk, mm_si_ne _ _ _ _ hk, mm_si_ne _ _ _ _ hk]
  have r53 : qa.1 53 = upd (upd (upd (upd (upd (q.1 53) (5 * n) E0) (5 * n + 1) E1) (5 * n + 2) E2) (5 * n + 3) E3) (5 * n + 4) E4 := by
    rw [← hqa, mm_si_self, mm_si_self, mm_si_self, mm_si_self, mm_si_self]
  have x0 : qa.1 53 (5 * n) = E0 := by rw [r53, upd_ne _ _ _ (by omega), upd_ne _ _ _ (by omega), upd_ne _ _ _ (by omega), upd_ne _ _ _ (by omega), upd_self]
  have x1 : qa.1 53 (5 * n + 1) = E1 := by rw [r53, upd_ne _ _ _ (by omega), upd_ne _ _ _ (by omega), upd_ne _ _ _ (by omega), upd_self]
  have x2 : qa.1 53 (5 * n + 2) = E2 := by rw [r53, upd_ne _ _ _ (by omega), upd_ne _ _ _ (by omega), upd_self]
  have x3 : qa.1 53 (5 * n + 3) = E3 := by rw [r53, upd_ne _ _ _ (by omega), upd_self]
  have x4 : qa.1 53 (5 * n + 4) = E4 := by rw [r53, upd_self]
  -- the calls
  obtain ⟨q1, y1, l1, bb1, f1⟩ := LS_spit la h2 tn h6 b0 ⟨r5.1, by omega⟩
  rw [sn1] at l1 bb1
  have p2 : (mm_pl (Int32.ofNat (n + 1)) a9 2).toInt = ((12 + n : Nat) : Int) := pl_sp (by omega) h9 (by omega) (w := 2) (by decide) (by decide)
  have p3 : (mm_pl (Int32.ofNat (n + 1)) a9 3).toInt = ((18 + n : Nat) : Int) := pl_sp (by omega) h9 (by omega) (w := 3) (by decide) (by decide)
  have p4 : (mm_pl (Int32.ofNat (n + 1)) a9 4).toInt = ((24 + n : Nat) : Int) := pl_sp (by omega) h9 (by omega) (w := 4) (by decide) (by decide)
  have t29 : (mm_t2.getD 2 0).toInt = 0 ∧ (mm_t3.getD 2 0).toInt = 9 ∧ (mm_t2.getD 3 0).toInt = 0 ∧ (mm_t3.getD 3 0).toInt = 12 ∧ (mm_t2.getD 4 0).toInt = 1 ∧ (mm_t3.getD 4 0).toInt = 20 := by decide
  obtain ⟨q2, y2, l2, f2⟩ := LS_mend l1 (v1 := 2) (v2 := E2) p2 (by omega) (w := 2) (by decide) (by decide) (by omega)
  obtain ⟨q3, y3, l3, f3⟩ := LS_mend l2 (v1 := 3) (v2 := E3) p3 (by omega) (w := 3) (by decide) (by decide) (by omega)
  obtain ⟨q4, y4, l4, f4⟩ := LS_mend l3 (v1 := 4) (v2 := E4) p4 (by omega) (w := 4) (by decide) (by decide) (by omega)
  rw [upd_ne _ _ _ (show 12 + n ≠ 24 + n by omega), upd_ne _ _ _ (show 12 + n ≠ 18 + n by omega), upd_self] at y2
  rw [upd_ne _ _ _ (show 18 + n ≠ 12 + n by omega), upd_ne _ _ _ (show 18 + n ≠ 24 + n by omega), upd_self] at y3
  rw [upd_ne _ _ _ (show 24 + n ≠ 18 + n by omega), upd_ne _ _ _ (show 24 + n ≠ 12 + n by omega), upd_self] at y4
  have wh : ∀ i m, i < 5 → m < 6 → mm_wh (6 * i + m) = i := fun i m h1 h2 => by
    unfold mm_wh
    rw [if_pos (by omega)]
    omega
  have bb4 := bd_set (bd_set (bd_set bb1 (okc_of (k := 12 + n) (w := 2) (v := E2) (by rw [show 12 + n = 6 * 2 + n by omega]; exact wh 2 n (by omega) h6) (by omega))) (okc_of (k := 18 + n) (w := 3) (v := E3) (by rw [show 18 + n = 6 * 3 + n by omega]; exact wh 3 n (by omega) h6) (by omega))) (okc_of (k := 24 + n) (w := 4) (v := E4) (by rw [show 24 + n = 6 * 4 + n by omega]; exact wh 4 n (by omega) h6) (by omega))
  have rows : ∀ k, 52 ≤ k → q4.1 k = qa.1 k := fun k hk => by rw [f4 k hk, f3 k hk, f2 k hk, f1 k hk]
  have rx1 : ∀ k, 52 ≤ k → q1.1 k = qa.1 k := f1
  have rx2 : ∀ k, 52 ≤ k → q2.1 k = qa.1 k := fun k hk => by rw [f2 k hk, f1 k hk]
  have rx3 : ∀ k, 52 ≤ k → q3.1 k = qa.1 k := fun k hk => by rw [f3 k hk, f2 k hk, f1 k hk]
  refine ⟨_, q4, ?_, l4, bb4, ⟨by rw [rows 52 (by decide), ra 52 (by decide)]; exact g52, by rw [rows 54 (by decide), ra 54 (by decide)]; exact g54, by rw [rows 55 (by decide), ra 55 (by decide)]; exact g55⟩, fun p w hp hw => ?_, fun j hj hj2 => ?_⟩
  · rw [x14_lane_h213, g52, if_neg (by rw [le32]; omega), cel, mm_cl_s, hE0, hE1, hE2, hE3, hE4, mm_ck_t (mm_inb_c i0 (by omega)), mm_lt_s, mm_ck_t (mm_inb_c i1 (by omega)), mm_lt_s, mm_ck_t (mm_inb_c i2 (by omega)), mm_lt_s, mm_ck_t (mm_inb_c i3 (by omega)), mm_lt_s, mm_ck_t (mm_inb_c i4 (by omega)), mm_lt_s, mm_tcn i0, mm_tcn i1, mm_tcn i2, mm_tcn i3, mm_tcn i4, hqa, mm_ck_t (mm_inb_c i0 (by omega)), mm_ck_t (mm_inb_c i1 (by omega)), x0, x1, y1, mm_cl_s, ← en, if_pos rfl, mm_ck_t (mm_inb_c i2 (by omega)), rx1 53 (by decide), x2, y2, mm_cl_s, if_pos rfl, mm_ck_t (mm_inb_c i3 (by omega)), rx2 53 (by decide), x3, y3, mm_cl_s, if_pos rfl, mm_ck_t (mm_inb_c i4 (by omega)), rx3 53 (by decide), x4, y4, mm_cl_s, if_pos rfl]
  · rw [rows 53 (by decide), r53]
    by_cases e : p = n
    · subst e
      rcases (show w = 0 ∨ w = 1 ∨ w = 2 ∨ w = 3 ∨ w = 4 by omega) with rfl | rfl | rfl | rfl | rfl
      · rw [upd_ne _ _ _ (by omega), upd_ne _ _ _ (by omega), upd_ne _ _ _ (by omega), upd_ne _ _ _ (by omega), show 5 * p + 0 = 5 * p from rfl, upd_self, upd_ne _ _ _ (by omega), upd_ne _ _ _ (by omega), upd_ne _ _ _ (by omega), upd_ne _ _ _ (by omega), upd_ne _ _ _ (by omega), upd_ne _ _ _ (by omega), upd_ne _ _ _ (by omega), show 6 * 0 + p = p by omega, upd_self]
      · rw [upd_ne _ _ _ (by omega), upd_ne _ _ _ (by omega), upd_ne _ _ _ (by omega), upd_self, upd_ne _ _ _ (by omega), upd_ne _ _ _ (by omega), upd_ne _ _ _ (by omega), upd_ne _ _ _ (by omega), upd_ne _ _ _ (by omega), upd_ne _ _ _ (by omega), show 6 * 1 + p = 6 + p by omega, upd_self]
      · rw [upd_ne _ _ _ (by omega), upd_ne _ _ _ (by omega), upd_self, upd_ne _ _ _ (by omega), upd_ne _ _ _ (by omega), show 6 * 2 + p = 12 + p by omega, upd_self]
      · rw [upd_ne _ _ _ (by omega), upd_self, upd_ne _ _ _ (by omega), show 6 * 3 + p = 18 + p by omega, upd_self]
      · rw [upd_self, show 6 * 4 + p = 24 + p by omega, upd_self]
    · rw [upd_ne _ _ _ (by omega), upd_ne _ _ _ (by omega), upd_ne _ _ _ (by omega), upd_ne _ _ _ (by omega), upd_ne _ _ _ (by omega), upd_ne _ _ _ (by omega), upd_ne _ _ _ (by omega), upd_ne _ _ _ (by omega), upd_ne _ _ _ (by omega), upd_ne _ _ _ (by omega), upd_ne _ _ _ (by omega), upd_ne _ _ _ (by omega), upd_ne _ _ _ (by omega)]
      exact h4 p w (by omega) hw
  · rw [upd_ne _ _ _ (by omega), upd_ne _ _ _ (by omega), upd_ne _ _ _ (by omega), upd_ne _ _ _ (by omega), upd_ne _ _ _ (by omega), upd_ne _ _ _ (by omega), upd_ne _ _ _ (by omega), upd_ne _ _ _ (by omega)]
    exact h5 j hj hj2
theorem spit_h (hl : len ≤ 260) {d : Nat → Int32} {r : Nat → Nat → Int32} {f : Nat} : ∀ (m n : Nat) (c : Nat → Int32) (a9 : Int32) (q : mm_Q), LI xs d r n c q → a9.toInt = n → (n : Int) + m = (r 52 0).toInt → (r 52 0).toInt ≤ 6 → ∃ (c' : Nat → Int32) (q' : mm_Q) (N : Nat), (r 52 0).toInt = N ∧ x14_lane_h213 len (f + m + 1) a9 q = x14_lane_h402 len mm_fu 0 q' ∧ LI xs d r N c' q' := by
  intro m
  induction m with
  | zero =>
    intro n c a9 q h h9 hm h6
    refine ⟨c, q, n, by omega, ?_, h⟩
    rw [x14_lane_h213, h.2.2.1.1, if_pos (by rw [le32]; omega)]
  | succ m ih =>
    intro n c a9 q h h9 hm h6
    obtain ⟨c1, q1, y1, y2⟩ := spit_s hl h h9 (by omega) (by omega) (f + m + 1)
    obtain ⟨c2, q2, N, z0, z1, z2⟩ := ih (n + 1) c1 (a9 + 1) q1 y2 (mm_inc1 h9 (by omega)) (by omega) h6
    exact ⟨c2, q2, N, z0, by rw [show f + (m + 1) + 1 = (f + m + 1) + 1 by omega, y1]; exact z1, z2⟩
/-- while stones come -/
def LZ (xs : Nat → Int32) (sp : Int32) (r : Nat → Nat → Int32) (n : Nat) (c : Nat → Int32) (q : mm_Q) : Prop := LNS xs sp c q ∧ bd sp c ∧ (q.1 52 = r 52 ∧ q.1 55 = r 55) ∧ (∀ p w : Nat, (p : Int) < sp.toInt → w < 5 → q.1 53 (5 * p + w) = c (6 * w + p)) ∧ (∀ s, s < n → q.1 54 (2 * s) = c (30 + s) ∧ q.1 54 (2 * s + 1) = c (39 + s)) ∧ (∀ s, n ≤ s → s < 9 → c (30 + s) = 5 ∧ c (39 + s) = 0) ∧ ∀ j, 48 ≤ j → j < 54 → c j = r 0 j
theorem stone_s (hl : len ≤ 260) {sp : Int32} (hs6 : sp.toInt ≤ 6) {r : Nat → Nat → Int32} {n : Nat} {c : Nat → Int32} {q : mm_Q} (h : LZ xs sp r n c q) {a9 : Int32} (h9 : a9.toInt = n) (hn : n < 9) (f : Nat) : ∃ (c' : Nat → Int32) (q' : mm_Q), x14_lane_h402 len (f + 1) a9 q = x14_lane_h402 len f (a9 + 1) q' ∧ LZ xs sp r (n + 1) c' q' := by
  obtain ⟨h1, h2, ⟨g52, g55⟩, h4, h5, h6, h7⟩ := h
  have e8 : (8 + a9).toInt = 8 + a9.toInt := by rw [mm_add_ti (by rw [ti8]; omega) (by rw [ti8]; omega), ti8]
  have i0 := two_0 h9 (by omega)
  have i1 := two_1 h9 (by omega)
  obtain ⟨v, hv⟩ : ∃ v, CE len xs (8 + a9) = v := ⟨_, rfl⟩
  have cel := cell_eq (len := len) hl (xs := xs) (a := 8 + a9) (by omega) (q := q) h1.1.1
  rw [hv] at cel
  have r1 := rem_rng (a := mm_ushr v 1) (b := 9) (ushr_nn v 1 (by omega) (by omega)) (by decide)
  rw [ti9] at r1
  obtain ⟨E0, hE0⟩ : ∃ E0, 1 + mm_rem (mm_ushr v 1) 9 = E0 := ⟨_, rfl⟩
  obtain ⟨E1, hE1⟩ : ∃ E1, mm_ushr v 5 &&& 1 = E1 := ⟨_, rfl⟩
  have b0 : 1 ≤ E0.toInt ∧ E0.toInt ≤ 9 := by
    rw [← hE0, mm_add_ti (by rw [ti1]; omega) (by rw [ti1]; omega), ti1]
    omega
  have b1 : 0 ≤ E1.toInt ∧ E1.toInt ≤ 1 := by
    rcases andb1 (mm_ushr v 5) with e | e
    · rw [← hE1, e, ti0]; omega
    · rw [← hE1, e, ti1]; omega
  obtain ⟨qa, hqa⟩ : ∃ qa, mm_si (mm_si q 54 (2 * n) E0) 54 (2 * n + 1) E1 = qa := ⟨_, rfl⟩
  have la : LNS xs sp c qa := by
    rw [← hqa]
    exact LS_si (LS_si h1 (by decide) _ _) (by decide) _ _
  have ra : ∀ k, k ≠ 54 → qa.1 k = q.1 k := fun k hk => by rw [← hqa, mm_si_ne _ _ _ _ hk, mm_si_ne _ _ _ _ hk]
  have r54 : qa.1 54 = upd (upd (q.1 54) (2 * n) E0) (2 * n + 1) E1 := by rw [← hqa, mm_si_self, mm_si_self]
  have x0 : qa.1 54 (2 * n) = E0 := by rw [r54, upd_ne _ _ _ (by omega), upd_self]
  have x1 : qa.1 54 (2 * n + 1) = E1 := by rw [r54, upd_self]
  have p0 : (mm_pl sp a9 5).toInt = ((30 + 0 * 9 + n : Nat) : Int) := pl_st h9 hn (w := 0) (by decide) (by decide)
  have p1 : (mm_pl sp a9 6).toInt = ((30 + 1 * 9 + n : Nat) : Int) := pl_st h9 hn (w := 1) (by decide) (by decide)
  rw [show 30 + 0 * 9 + n = 30 + n by omega] at p0
  rw [show 30 + 1 * 9 + n = 39 + n by omega] at p1
  have tt : (mm_t2.getD 5 0).toInt = 1 ∧ (mm_t3.getD 5 0).toInt = 9 ∧ (mm_t2.getD 6 0).toInt = 0 ∧ (mm_t3.getD 6 0).toInt = 1 := by decide
  have c5 := h6 n (Nat.le_refl n) hn
  obtain ⟨q1, y1, l1, f1⟩ := LS_mend la (v1 := 5) (v2 := E0) p0 (by omega) (w := 5) (by decide) (by decide) (by omega)
  obtain ⟨q2, y2, l2, f2⟩ := LS_mend l1 (v1 := 6) (v2 := E1) p1 (by omega) (w := 6) (by decide) (by decide) (by omega)
  rw [c5.1] at y1
  rw [upd_ne _ _ _ (show 39 + n ≠ 30 + n by omega), c5.2] at y2
  have w5 : mm_wh (30 + n) = 5 := by
    unfold mm_wh
    rw [if_neg (by omega), if_pos (by omega)]
  have w6 : mm_wh (39 + n) = 6 := by
    unfold mm_wh
    rw [if_neg (by omega), if_neg (by omega), if_pos (by omega)]
  have bb := bd_set (bd_set h2 (okc_of (v := E0) w5 (by omega))) (okc_of (v := E1) w6 (by omega))
  have rows : ∀ k, 52 ≤ k → q2.1 k = qa.1 k := fun k hk => by rw [f2 k hk, f1 k hk]
  refine ⟨_, q2, ?_, l2, bb, ⟨by rw [rows 52 (by decide), ra 52 (by decide)]; exact g52, by rw [rows 55 (by decide), ra 55 (by decide)]; exact g55⟩, fun p w hp hw => ?_, fun s hs => ?_, fun s hs hs9 => ?_, fun j hj hj2 => ?_⟩
  · rw [x14_lane_h402, if_neg (by rw [le32, ti9]; omega), cel, mm_cl_s, hE0, hE1, mm_ck_t (mm_inb_c i0 (by omega)), mm_lt_s, mm_ck_t (mm_inb_c i1 (by omega)), mm_lt_s, mm_tcn i0, mm_tcn i1, hqa, mm_ck_t (mm_inb_c i0 (by omega)), x0, y1, mm_cl_s, if_pos rfl, mm_ck_t (mm_inb_c i1 (by omega)), f1 54 (by decide), x1, y2, mm_cl_s, if_pos rfl]
  · rw [rows 53 (by decide), ra 53 (by decide), upd_ne _ _ _ (by omega), upd_ne _ _ _ (by omega)]
    exact h4 p w hp hw
  · rw [rows 54 (by decide), r54]
    by_cases e : s = n
    · subst e
      refine ⟨?_, ?_⟩
      · rw [upd_ne _ _ _ (by omega), upd_self, upd_ne _ _ _ (by omega), upd_self]
      · rw [upd_self, upd_self]
    · obtain ⟨k0, k1⟩ := h5 s (by omega)
      refine ⟨?_, ?_⟩
      · rw [upd_ne _ _ _ (by omega), upd_ne _ _ _ (by omega), upd_ne _ _ _ (by omega), upd_ne _ _ _ (by omega)]
        exact k0
      · rw [upd_ne _ _ _ (by omega), upd_ne _ _ _ (by omega), upd_ne _ _ _ (by omega), upd_ne _ _ _ (by omega)]
        exact k1
  · rw [upd_ne _ _ _ (by omega), upd_ne _ _ _ (by omega), upd_ne _ _ _ (by omega), upd_ne _ _ _ (by omega)]
    exact h6 s (by omega) hs9
  · rw [upd_ne _ _ _ (by omega), upd_ne _ _ _ (by omega)]
    exact h7 j hj hj2
theorem stone_l (hl : len ≤ 260) {sp : Int32} (hs6 : sp.toInt ≤ 6) {r : Nat → Nat → Int32} {f : Nat} : ∀ (m n : Nat) (c : Nat → Int32) (a9 : Int32) (q : mm_Q), LZ xs sp r n c q → a9.toInt = n → n + m = 9 → ∃ (c' : Nat → Int32) (q' : mm_Q) (b9 : Int32), 9 ≤ b9 ∧ x14_lane_h402 len (f + m + 1) a9 q = x14_lane_h402 len (f + 1) b9 q' ∧ LZ xs sp r 9 c' q' := by
  intro m
  induction m with
  | zero =>
    intro n c a9 q h h9 hm
    have e : n = 9 := by omega
    rw [e] at h
    exact ⟨c, q, a9, by rw [le32, ti9]; omega, rfl, h⟩
  | succ m ih =>
    intro n c a9 q h h9 hm
    obtain ⟨c1, q1, y1, y2⟩ := stone_s hl hs6 h h9 (by omega) (f + m + 1)
    obtain ⟨c2, q2, b9, z0, z1, z2⟩ := ih (n + 1) c1 (a9 + 1) q1 y2 (mm_inc1 h9 (by omega)) (by omega)
    exact ⟨c2, q2, b9, z0, by rw [show f + (m + 1) + 1 = (f + m + 1) + 1 by omega, y1]; exact z1, z2⟩
end LL
