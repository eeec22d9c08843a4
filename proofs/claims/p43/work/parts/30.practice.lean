/-! practice -/
theorem upd_upd (f : Nat → Int32) (j : Nat) (x y : Int32) : upd (upd f j x) j y = upd f j y := by
  funext k
  by_cases e : k = j
  · rw [e, upd_self, upd_self]
  · rw [upd_ne _ _ _ e, upd_ne _ _ _ e, upd_ne _ _ _ e]
theorem si_si (q : mm_Q) (k j : Nat) (x y : Int32) : mm_si (mm_si q k j x) k j y = mm_si q k j y := by
  have e : (mm_si (mm_si q k j x) k j y).1 = (mm_si q k j y).1 := by
    funext a
    by_cases h : a = k
    · rw [h, mm_si_self, mm_si_self, mm_si_self, upd_upd]
    · rw [mm_si_ne _ _ _ _ h, mm_si_ne _ _ _ _ h, mm_si_ne _ _ _ _ h]
  exact Prod.ext e rfl
theorem si_same (q : mm_Q) (k j : Nat) : mm_si q k j (q.1 k j) = q := by
  have e : (mm_si q k j (q.1 k j)).1 = q.1 := by
    funext a
    by_cases h : a = k
    · rw [h, mm_si_self]
      funext i
      by_cases e : i = j
      · rw [e, upd_self]
      · rw [upd_ne _ _ _ e]
    · rw [mm_si_ne _ _ _ _ h]
  exact Prod.ext e rfl
section LP
variable {F : mm_F} {c : Nat → Int32} {sp : Int32} {xs : Nat → Int32} {len : Nat} {rr50 : Nat → Int32 → mm_Q → Option (Int32 × mm_Q)} {t : Nat} {a6 a8 a9 a10 a11 : Int32} {p s : Nat}
theorem lwx_upd {q : mm_Q} (h : lwx F c sp q) (hs6 : sp.toInt ≤ 6) (hps : (p : Int) < sp.toInt) {w : Nat} (hw1 : w ≤ 1) (v : Int32) : lwx F (upd c (6 * w + p) v) sp (mm_si q 53 (5 * p + w) v) := by
  have z : ∀ i, 12 ≤ i → upd c (6 * w + p) v i = c i := fun i hi => upd_ne _ _ _ (by omega)
  obtain ⟨⟨x0, x1, x2, x3, x4, x5, x6, x7⟩, h2, h3, h4⟩ := h
  have n52 : (mm_si q 53 (5 * p + w) v).1 52 = q.1 52 := mm_si_ne _ _ _ _ (by decide)
  have n54 : (mm_si q 53 (5 * p + w) v).1 54 = q.1 54 := mm_si_ne _ _ _ _ (by decide)
  have n55 : (mm_si q 53 (5 * p + w) v).1 55 = q.1 55 := mm_si_ne _ _ _ _ (by decide)
  refine ⟨⟨?_, ?_, ?_, ?_, ?_, ?_, ?_, ?_⟩, fun p' w' hp' hw' => ?_, fun s' hs' => ?_, by rw [n55]; exact h4⟩
  · rw [n52]; exact x0
  · rw [n52, z 48 (by omega)]; exact x1
  · rw [n52, z 49 (by omega)]; exact x2
  · rw [n52, z 50 (by omega)]; exact x3
  · rw [n52, z 51 (by omega)]; exact x4
  · rw [n52, z 52 (by omega)]; exact x5
  · rw [n52, z 53 (by omega)]; exact x6
  · rw [n52]; exact x7
  · rw [mm_si_self]
    by_cases e : 5 * p' + w' = 5 * p + w
    · rw [e, upd_self, show 6 * w' + p' = 6 * w + p by omega, upd_self]
    · rw [upd_ne _ _ _ e, upd_ne _ _ _ (show 6 * w' + p' ≠ 6 * w + p by omega)]
      exact h2 p' w' hp' hw'
  · rw [n54, z (30 + s') (by omega), z (39 + s') (by omega)]
    exact h3 s' hs'
theorem prl_h (hb : bd sp c) (hs6 : sp.toInt ≤ 6) (pa : PA sp a8 a9 a10 a11 p s) {q : mm_Q} (hi : IL F c sp xs q) {rr : Nat → Int32 → Int32 → Int32 → Int32 → Int32 → Int32 → Int32 → mm_Q → Option (Int32 × mm_Q)} {a14 a22 a23 : Int32} {w : Nat} (hw1 : w ≤ 1) (h22 : a22.toInt = ((1 - w : Nat) : Int)) (h23 : a23.toInt = ((5 * p + w : Nat) : Int)) {f : Nat} : ∀ (m : Nat) (v : Int32), v.toInt = ((1 - w : Nat) : Int) + m - 1 → 1 - w + m ≤ 10 → ∃ v' : Int32, v'.toInt = ((1 - w : Nat) : Int) - 1 ∧ law_h832 len rr50 rr (f + m + 1) t a6 a8 a9 a10 a11 a14 a22 a23 (q.1 53 (5 * p + w)) (lst (VW F c p s a10 w) a14 (10 - (1 - w + m))) (mm_si q 53 (5 * p + w) v) = law_h832 len rr50 rr (f + 1) t a6 a8 a9 a10 a11 a14 a22 a23 (q.1 53 (5 * p + w)) (lst (VW F c p s a10 w) a14 (10 - (1 - w))) (mm_si q 53 (5 * p + w) v') := by
  obtain ⟨⟨p1, p2⟩, ⟨p3, p4⟩, -, -⟩ := pa
  intro m
  induction m with
  | zero =>
    intro v h1 h2
    exact ⟨v, by omega, rfl⟩
  | succ m ih =>
    intro v h1 h2
    have cell : (mm_si q 53 (5 * p + w) v).1 53 (5 * p + w) = v := by rw [mm_si_self, upd_self]
    have hb' := bd_upd (p := p) hb hw1 (by omega) (v := v) (by omega) (by omega)
    have lw := lwx_upd (p := p) hi.2.2 hs6 p2 hw1 v
    have bs := best_eq (a7 := 0) lw hb' hs6 p1 p2 p3 p4 a10 (Or.inl rfl)
    have ev : BP F (upd c (6 * w + p) v) (GL (upd c (6 * w + p) v) p s a10 0) 0 = VW F c p s a10 w v := by
      show bpn (PT F (upd c (6 * w + p) v) (GL (upd c (6 * w + p) v) p s a10 0) 0) 9 = _
      rw [PT_upd (sp := sp) F (by omega)]
    rw [ev] at bs
    have dec : (v - 1).toInt = ((1 - w : Nat) : Int) + m - 1 := by
      rw [mm_sub_ti (by rw [ti1]; omega) (by rw [ti1]; omega), ti1]
      omega
    obtain ⟨v', i1, i2⟩ := ih (v - 1) dec (by omega)
    refine ⟨v', i1, ?_⟩
    have e10 : 10 - (1 - w + m) = (10 - (1 - w + (m + 1))) + 1 := by omega
    have e9 : Int32.ofNat (9 - (10 - (1 - w + (m + 1)))) = v := by
      rw [mm_ofn (a := v) (i := 1 - w + m) (by omega), show 9 - (10 - (1 - w + (m + 1))) = 1 - w + m by omega]
    have es : lst (VW F c p s a10 w) a14 (10 - (1 - w + m)) = if VW F c p s a10 w v < a14 then lst (VW F c p s a10 w) a14 (10 - (1 - w + (m + 1))) else v := by
      rw [e10]
      show (if VW F c p s a10 w (Int32.ofNat (9 - (10 - (1 - w + (m + 1))))) < a14 then _ else Int32.ofNat (9 - (10 - (1 - w + (m + 1))))) = _
      rw [e9]
    have j868 : ∀ du : Int32, law_j868 len rr50 rr (law_h832 len rr50 rr (f + m + 1)) t a6 a8 a9 a10 a11 a14 a22 a23 (q.1 53 (5 * p + w)) du (mm_si q 53 (5 * p + w) v) = law_h832 len rr50 rr (f + m + 1) t a6 a8 a9 a10 a11 a14 a22 a23 (q.1 53 (5 * p + w)) du (mm_si q 53 (5 * p + w) (v - 1)) := by
      intro du
      unfold law_j868
      rw [mm_ck_t (mm_inb_c h23 (by omega)), mm_ck_t (mm_inb_c h23 (by omega)), mm_lt_s, mm_tcn h23, cell, si_si]
    rw [es] at i2
    rw [show f + (m + 1) + 1 = (f + m + 1) + 1 by omega, law_h832, mm_ck_t (mm_inb_c h23 (by omega)), mm_tcn h23, cell, if_neg (by rw [lt32]; omega), bs, mm_cl_s]
    by_cases z : VW F c p s a10 w v < a14
    · rw [if_pos z] at i2 ⊢
      rw [j868]
      exact i2
    · rw [if_neg z] at i2 ⊢
      rw [mm_ck_t (mm_inb_c h23 (by omega)), cell, j868]
      exact i2
theorem stE_s (hb : bd sp c) (hs6 : sp.toInt ≤ 6) (pa : PA sp a8 a9 a10 a11 p s) {q : mm_Q} (hi : IL F c sp xs q) {a14 a22 s0 : Int32} (g14 : 0 ≤ a14.toInt ∧ a14.toInt ≤ 999) {w : Nat} (hw1 : w ≤ 1) (h22 : a22.toInt = ((1 - w : Nat) : Int)) (h0 : s0.toInt = ((5 * p + w : Nat) : Int)) {rr : Nat → Int32 → Int32 → Int32 → Int32 → Int32 → Int32 → Int32 → mm_Q → Option (Int32 × mm_Q)} (hn : ∀ q', IL F c sp xs q' → ok1 (rr t a6 a8 a9 a10 a11 a14 (a22 + 1) q')) : ok1 (law_j814 len rr50 rr t a6 a8 a9 a10 a11 a14 a22 s0 q) := by
  obtain ⟨s1, s2, s3, s4, s5, s6⟩ := PA_sk pa
  have p6 : p < 6 := by have := pa.1.2; omega
  obtain ⟨v', i1, i2⟩ := prl_h (t := t) (a6 := a6) (len := len) (rr50 := rr50) (rr := rr) (a14 := a14) hb hs6 pa hi hw1 h22 h0 (f := 8999 - (9 + w)) (9 + w) 9 (by rw [ti9]; omega) (by omega)
  rw [show 8999 - (9 + w) + (9 + w) + 1 = mm_fv by show _ = 9000; omega, show 10 - (1 - w + (9 + w)) = 0 by omega] at i2
  have i2' : law_h832 len rr50 rr mm_fv t a6 a8 a9 a10 a11 a14 a22 s0 (q.1 53 (5 * p + w)) (-2) (mm_si q 53 (5 * p + w) 9) = _ := i2
  obtain ⟨q1, y1, y2⟩ := cl_practice (v0 := a8) (v1 := a11) (v2 := a14) (v3 := a22) (w := w) hi.2.1 hb hs6 hi.1.2.1 hi.1.2.2 ⟨⟨s5, s6⟩, s1, g14⟩ hw1 h22
  rw [s2, s3, s4] at y1
  have cell : (mm_si q 53 (5 * p + w) v').1 53 (5 * p + w) = v' := by rw [mm_si_self, upd_self]
  unfold law_j814
  rw [mm_ck_t (mm_inb_c h0 (by omega)), mm_ck_t (mm_inb_c h0 (by omega)), mm_lt_s, mm_tcn h0, i2', law_h832, mm_ck_t (mm_inb_c h0 (by omega)), mm_tcn h0, cell, if_pos (by rw [lt32]; omega), mm_ck_t (mm_inb_c h0 (by omega)), mm_lt_s, si_si, si_same, y1, mm_cl_s, if_pos rfl]
  exact hn q1 (IL_fk hi y2)
theorem stE (hb : bd sp c) (hs : 0 ≤ sp.toInt ∧ sp.toInt ≤ 6) (hl : len ≤ 260) (h66 : 0 ≤ a6.toInt ∧ a6.toInt < 6) (pa : PA sp a8 a9 a10 a11 p s) {a14 : Int32} (g14 : 0 ≤ a14.toInt ∧ a14.toInt ≤ 999) (hr : ∀ q', IL F c sp xs q' → ok1 (rr50 (t + 1) (a6 + 1) q')) {q : mm_Q} (hi : IL F c sp xs q) : ok1 (law_h790 len rr50 mm_fv t a6 a8 a9 a10 a11 a14 0 q) := by
  have e24 : (24 + a6).toInt = 24 + a6.toInt := by rw [mm_add_ti (by rw [ti24]; omega) (by rw [ti24]; omega), ti24]
  have p6 : p < 6 := by have := pa.1.2; omega
  rw [show mm_fv = 8999 + 1 from rfl, law_h790, if_neg (by decide), if_pos rfl]
  refine stE_s (w := 1) hb hs.2 pa hi g14 (Nat.le_refl 1) ti0 (five_ti pa.1.1 (by omega) 1 (by omega)) (fun q1 h1 => ?_)
  rw [show (0 : Int32) + 1 = 1 by decide, show 8999 = 8998 + 1 from rfl, law_h790, if_neg (by decide), if_neg (by decide)]
  refine stE_s (w := 0) hb hs.2 pa h1 g14 (Nat.zero_le 1) ti1 (five_0 pa.1.1 (by omega)) (fun q2 h2 => ?_)
  rw [show (1 : Int32) + 1 = 2 by decide, show 8998 = 8997 + 1 from rfl, law_h790, if_pos (by decide), cell_eq hl (by omega) h2.1.1, mm_cl_s, mm_lt_s]
  obtain ⟨S, hS1, hS2⟩ := and511 (mm_ushr (CE len xs (24 + a6)) 1)
  exact stF hb hs hl h66 pa hS1 (mm_ofn hS2) hr (IL_nw h2 (by omega))
end LP
