/-! the last stages of a turn: tries by draws; steps -/
section LD
variable {F : mm_F} {c : Nat → Int32} {sp : Int32} {xs : Nat → Int32} {len : Nat} {rr50 : Nat → Int32 → mm_Q → Option (Int32 × mm_Q)} {t : Nat} {a6 a8 a9 a10 a11 : Int32} {p s : Nat}
theorem e3_ti {a : Int32} {i : Nat} (h : a.toInt = i) (hi : i < 6) : ((5 : Int32) * a + 3).toInt = ((5 * i + 3 : Nat) : Int) := five_ti h (by omega) 3 (by omega)
theorem e4_ti {a : Int32} {i : Nat} (h : a.toInt = i) (hi : i < 6) : ((5 : Int32) * a + 4).toInt = ((5 * i + 4 : Nat) : Int) := five_ti h (by omega) 4 (by omega)
/-- one try by a draw, the law's way -/
theorem dl_s (hb : bd sp c) (hs6 : sp.toInt ≤ 6) (pa : PA sp a8 a9 a10 a11 p s) {q : mm_Q} (hi : IL F c sp xs q) {rr : Nat → Int32 → Int32 → Int32 → Int32 → Int32 → Int32 → Int32 → mm_Q → Option (Int32 × mm_Q)} {a27 a31 z a33 a b i : Int32} (hr : a31 = 0 ∨ a31 = 1) (h0 : ¬ a33 ≤ i) (n : Nat) : law_h1451 len rr50 rr (n + 1) t a6 a8 a9 a10 a11 a27 a31 z a33 a b i q = law_h1451 len rr50 rr n t a6 a8 a9 a10 a11 a27 a31 (dz z) a33 (a + dval F c p s (a10 + i) a31 (dz z)) (mm_max b (dval F c p s (a10 + i) a31 (dz z))) (i + 1) q := by
  obtain ⟨⟨h1, h2⟩, ⟨h3, h4⟩, -, -⟩ := pa
  have hl := hi.2.2
  have e3 := e3_ti h1 (by omega)
  have g3 := hl.2.1 p 3 h2 (by omega)
  rw [show 6 * 3 + p = 18 + p by omega] at g3
  have j1545 : ∀ v : Int32, law_j1545 len rr50 rr (law_h1451 len rr50 rr n) t a6 a8 a9 a10 a11 a27 a31 (dz z) a33 a b i v q = law_h1451 len rr50 rr n t a6 a8 a9 a10 a11 a27 a31 (dz z) a33 (a + v) (mm_max b v) (i + 1) q := by
    intro v
    unfold law_j1545 law_j1565 mm_max
    by_cases e : v ≤ b
    · rw [if_pos e, if_neg (Int32.not_lt.mpr e)]
    · rw [if_neg e, if_pos (Int32.not_le.mp e)]
  have no : law_j1509 len rr50 rr (law_h1451 len rr50 rr n) t a6 a8 a9 a10 a11 a27 a31 (dz z) a33 a b i q = law_h1451 len rr50 rr n t a6 a8 a9 a10 a11 a27 a31 (dz z) a33 (a + 0) (mm_max b 0) (i + 1) q := by
    unfold law_j1509 law_j1514
    rw [if_neg (by decide), j1545]
  have yes : law_j1514 len rr50 rr (law_h1451 len rr50 rr n) t a6 a8 a9 a10 a11 a27 a31 (dz z) a33 a b i 0 q = law_h1451 len rr50 rr n t a6 a8 a9 a10 a11 a27 a31 (dz z) a33 (a + BP F c (GL c p s (a10 + i) 0) a31) (mm_max b (BP F c (GL c p s (a10 + i) 0) a31)) (i + 1) q := by
    unfold law_j1514
    rw [if_pos rfl, best_eq hl hb hs6 h1 h2 h3 h4 (a10 + i) hr, mm_cl_s, j1545]
  have j1494 : law_j1494 len rr50 rr (law_h1451 len rr50 rr n) t a6 a8 a9 a10 a11 a27 a31 (dz z) a33 a b i q = if dlaugh c (dz z) then law_j1509 len rr50 rr (law_h1451 len rr50 rr n) t a6 a8 a9 a10 a11 a27 a31 (dz z) a33 a b i q else law_j1514 len rr50 rr (law_h1451 len rr50 rr n) t a6 a8 a9 a10 a11 a27 a31 (dz z) a33 a b i 0 q := by
    unfold law_j1494
    rw [hl.1.2.2.2.2.2.2.1]
    by_cases e : c 53 ≤ mm_rem (mm_ushr (dz z) 16) 12
    · rw [if_pos e, if_neg (fun w => w e)]
    · rw [if_neg e, if_pos e]
  have hd : law_h1451 len rr50 rr (n + 1) t a6 a8 a9 a10 a11 a27 a31 z a33 a b i q = if dslip c p a31 (dz z) then law_j1509 len rr50 rr (law_h1451 len rr50 rr n) t a6 a8 a9 a10 a11 a27 a31 (dz z) a33 a b i q else law_j1494 len rr50 rr (law_h1451 len rr50 rr n) t a6 a8 a9 a10 a11 a27 a31 (dz z) a33 a b i q := by
    rw [law_h1451, if_neg h0]
    by_cases e1 : a31 = 1
    · rw [if_pos e1, mm_ck_t (mm_inb_c e3 (by omega)), mm_tcn e3, g3]
      by_cases e : mm_rem (mm_ushr (dz z) 8) 12 < c (18 + p)
      · rw [if_pos e, if_pos ⟨e1, fun w => Int32.not_lt.mpr w e⟩]
      · rw [if_neg e, if_neg (fun w => w.2 (Int32.not_lt.mp e))]
    · rw [if_neg e1, if_neg (fun w => e1 w.1)]
  rw [hd]
  unfold dval
  by_cases e1 : dslip c p a31 (dz z)
  · rw [if_pos e1, if_pos (Or.inl e1), no]
  · rw [if_neg e1, j1494]
    by_cases e2 : dlaugh c (dz z)
    · rw [if_pos e2, if_pos (Or.inr e2), no]
    · rw [if_neg e2, if_neg (fun w => w.elim e1 e2), yes]
theorem dl_h (hb : bd sp c) (hs6 : sp.toInt ≤ 6) (pa : PA sp a8 a9 a10 a11 p s) {q : mm_Q} (hi : IL F c sp xs q) {rr : Nat → Int32 → Int32 → Int32 → Int32 → Int32 → Int32 → Int32 → mm_Q → Option (Int32 × mm_Q)} {a27 a31 a33 : Int32} (hr : a31 = 0 ∨ a31 = 1) {f : Nat} : ∀ (m j : Nat) (z a b i : Int32), i.toInt = j → ((j + m : Nat) : Int) = a33.toInt → a33.toInt ≤ 1000 → ∃ z' i' : Int32, i'.toInt = a33.toInt ∧ law_h1451 len rr50 rr (f + m + 1) t a6 a8 a9 a10 a11 a27 a31 z a33 a b i q = law_h1451 len rr50 rr (f + 1) t a6 a8 a9 a10 a11 a27 a31 z' a33 (dr F c p s a10 a31 m z a b i).1 (dr F c p s a10 a31 m z a b i).2 i' q := by
  intro m
  induction m with
  | zero =>
    intro j z a b i h1 h2 h3
    exact ⟨z, i, by omega, rfl⟩
  | succ m ih =>
    intro j z a b i h1 h2 h3
    obtain ⟨z', i', e1, e2⟩ := ih (j + 1) (dz z) (a + dval F c p s (a10 + i) a31 (dz z)) (mm_max b (dval F c p s (a10 + i) a31 (dz z))) (i + 1) (mm_inc1 h1 (by omega)) (by omega) h3
    refine ⟨z', i', e1, ?_⟩
    rw [show f + (m + 1) + 1 = (f + m + 1) + 1 by omega, dl_s hb hs6 pa hi hr (by rw [le32]; omega)]
    exact e2
/-- one of the two, with a run or without -/
theorem stH_s (hb : bd sp c) (hs6 : sp.toInt ≤ 6) (hl : len ≤ 260) (h6 : 0 ≤ a6.toInt ∧ a6.toInt < 6) (pa : PA sp a8 a9 a10 a11 p s) {q : mm_Q} (hi : IL F c sp xs q) {a27 a31 : Int32} (hr : a31 = 0 ∨ a31 = 1) {n : Nat} (hn : ∀ q', IL F c sp xs q' → ok1 (law_h1413 len rr50 n t a6 a8 a9 a10 a11 a27 (a31 + 1) q')) : ok1 (law_h1413 len rr50 (n + 1) t a6 a8 a9 a10 a11 a27 a31 q) := by
  obtain ⟨s1, s2, s3, s4, s5, s6⟩ := PA_sk pa
  have hrt : 0 ≤ a31.toInt ∧ a31.toInt ≤ 1 := by
    rcases hr with e | e
    · rw [e, ti0]; omega
    · rw [e, ti1]; omega
  have e36 : (36 + a6).toInt = 36 + a6.toInt := by rw [mm_add_ti (by rw [ti36]; omega) (by rw [ti36]; omega), ti36]
  have cel := fun (qa : mm_Q) (h : qa.1 0 = xs) => cell_eq (len := len) hl (xs := xs) (a := 36 + a6) (by omega) (q := qa) h
  obtain ⟨tr, htr⟩ : ∃ tr, 1 + mm_rem (mm_ushr a27 16) 99 = tr := ⟨_, rfl⟩
  have r16 := rem_rng (a := mm_ushr a27 16) (b := 99) (ushr_nn a27 16 (by omega) (by omega)) (by decide)
  rw [ti99] at r16
  have htt : 1 ≤ tr.toInt ∧ tr.toInt ≤ 99 := by
    rw [← htr, mm_add_ti (by rw [ti1]; omega) (by rw [ti1]; omega), ti1]
    omega
  obtain ⟨m, hm⟩ : ∃ m : Nat, tr.toInt = m := ⟨tr.toInt.toNat, by omega⟩
  have v100 : ((100 : Int32) * tr).toInt = 100 * tr.toInt := by rw [mm_mul_ti (by rw [ti100]; omega) (by rw [ti100]; omega), ti100]
  have v10 : ((10 : Int32) * a31).toInt = 10 * a31.toInt := by rw [mm_mul_ti (by rw [ti10]; omega) (by rw [ti10]; omega), ti10]
  have vv : ((100 : Int32) * tr + 10 * a31).toInt = 100 * tr.toInt + 10 * a31.toInt := by rw [mm_add_ti (by omega) (by omega), v100, v10]
  have vv1 : ((100 : Int32) * tr + 10 * a31 + 1).toInt = 100 * tr.toInt + 10 * a31.toInt + 1 := by rw [mm_add_ti (by rw [ti1]; omega) (by rw [ti1]; omega), vv, ti1]
  obtain ⟨z', i', e1, e2⟩ := dl_h (t := t) (a6 := a6) (len := len) (rr50 := rr50) (rr := law_h1413 len rr50 n) (a27 := a27) (a33 := tr) hb hs6 pa hi hr (f := 8999 - m) m 0 (CE len xs (36 + a6)) 0 0 0 ti0 (by omega) (by omega)
  obtain ⟨q1, y1, y2⟩ := cl_drawn (v0 := a8) (v1 := a11) (v2 := CE len xs (36 + a6)) (v3 := 100 * tr + 10 * a31) (m := m) hi.2.1 hb hs6 ⟨⟨s5, s6⟩, s1, ⟨by omega, by omega⟩, by omega, by omega⟩ (by omega)
  have hi1 := IL_fk hi y2
  obtain ⟨q2, y3, y4⟩ := cl_drawn (v0 := a8) (v1 := a11) (v2 := CE len xs (36 + a6)) (v3 := 100 * tr + 10 * a31 + 1) (m := m) hi1.2.1 hb hs6 ⟨⟨s5, s6⟩, s1, ⟨by omega, by omega⟩, by omega, by omega⟩ (by omega)
  have hi2 := IL_fk hi1 y4
  have d1 : mm_rem ((100 * tr + 10 * a31) / 10) 10 = a31 := by
    rw [eq32, rem_ti (by rw [div_ti (by omega) (by decide), ti10]; omega) (by decide), div_ti (by omega) (by decide), ti10]
    omega
  have d2 : mm_rem ((100 * tr + 10 * a31 + 1) / 10) 10 = a31 := by
    rw [eq32, rem_ti (by rw [div_ti (by omega) (by decide), ti10]; omega) (by decide), div_ti (by omega) (by decide), ti10]
    omega
  have d3 : mm_rem (100 * tr + 10 * a31) 10 = 0 := by
    rw [eq32, rem_ti (by omega) (by decide), ti10, ti0]
    omega
  have d4 : ¬ mm_rem (100 * tr + 10 * a31 + 1) 10 = 0 := by
    rw [eq32, rem_ti (by omega) (by decide), ti10, ti0]
    omega
  rw [d1, s2, s3, s4, if_pos d3] at y1
  rw [d2, s2, s3, s4, if_neg d4] at y3
  rw [law_h1413, if_neg (by rw [le32, ti2]; omega), cel q hi.1.1, mm_cl_s, htr, show mm_fv = 8999 - m + m + 1 by show 9000 = _; omega, e2, law_h1451, if_pos (by rw [le32, e1]; omega), cel q hi.1.1, mm_cl_s, y1, mm_cl_s, if_pos rfl, cel q1 hi1.1.1, mm_cl_s, y3, mm_cl_s, if_pos rfl]
  exact hn q2 hi2
theorem stH (hb : bd sp c) (hs6 : sp.toInt ≤ 6) (hl : len ≤ 260) (h6 : 0 ≤ a6.toInt ∧ a6.toInt < 6) (pa : PA sp a8 a9 a10 a11 p s) {q : mm_Q} (hi : IL F c sp xs q) (a27 : Int32) (hr : ∀ q', IL F c sp xs q' → ok1 (rr50 (t + 1) (a6 + 1) q')) : ok1 (law_h1413 len rr50 mm_fv t a6 a8 a9 a10 a11 a27 0 q) := by
  refine stH_s (n := 8999) hb hs6 hl h6 pa hi (Or.inl rfl) (fun q1 h1 => ?_)
  rw [show (0 : Int32) + 1 = 1 by decide]
  refine stH_s (n := 8998) hb hs6 hl h6 pa h1 (Or.inr rfl) (fun q2 h2 => ?_)
  rw [show (1 : Int32) + 1 = 2 by decide, show 8998 = 8997 + 1 from rfl, law_h1413, if_pos (by decide)]
  exact hr q2 h2
/-- steps, and whose they are -/
theorem stG_h (hb : bd sp c) (hs6 : sp.toInt ≤ 6) {q : mm_Q} (hi : IL F c sp xs q) {a27 a28 a30 : Int32} (g : 0 ≤ a28.toInt ∧ a28.toInt ≤ 999) {f : Nat} : ∀ (m i : Nat) (a29 a31 : Int32), a31.toInt = i → (i : Int) + m = sp.toInt → law_h1332 len rr50 (f + m + 1) t a6 a8 a9 a10 a11 a27 a28 a29 a30 a31 q = mm_cl (x11_whose a28 a30 q) (fun r q' => if r = wb c a28 a30 m i a29 then law_h1413 len rr50 mm_fv t a6 a8 a9 a10 a11 a27 0 q' else none) := by
  intro m
  induction m with
  | zero =>
    intro i a29 a31 h1 h2
    rw [law_h1332, hi.2.2.1.1, if_pos (by rw [le32]; omega)]
    rfl
  | succ m ih =>
    intro i a29 a31 h1 h2
    have e4 := e4_ti h1 (by omega)
    have g4 := hi.2.2.2.1 i 4 (by omega) (by omega)
    rw [show 6 * 4 + i = 24 + i by omega] at g4
    have nz := (inSteps_eq hb (x := a28) hi.2.1.1 hi.2.1.2.1 hs6 h1 (by omega)).2
    have st := cl_steps (v0 := a31) (v1 := a28) hi.2.1 hb hs6 h1 (by omega) g.1 g.2
    rw [show f + (m + 1) + 1 = (f + m + 1) + 1 by omega, law_h1332, hi.2.2.1.1, if_neg (by rw [le32]; omega), st, mm_cl_s, mm_ck_t (mm_inb_c e4 (by omega)), mm_tcn e4, g4, mm_ck_t nz, if_pos rfl, mm_ck_t (mm_inb_c e4 (by omega)), mm_ck_t nz, wb, ← mm_ofn h1]
    unfold law_j1389
    by_cases z : a28 / c (24 + i) = a30
    · rw [if_pos z, if_pos z]
      exact ih (i + 1) _ (a31 + 1) (mm_inc1 h1 (by omega)) (by omega)
    · rw [if_neg z, if_neg z]
      exact ih (i + 1) _ (a31 + 1) (mm_inc1 h1 (by omega)) (by omega)
theorem stG (hb : bd sp c) (hs : 0 ≤ sp.toInt ∧ sp.toInt ≤ 6) (hl : len ≤ 260) (h6 : 0 ≤ a6.toInt ∧ a6.toInt < 6) (pa : PA sp a8 a9 a10 a11 p s) {q : mm_Q} (hi : IL F c sp xs q) (hr : ∀ q', IL F c sp xs q' → ok1 (rr50 (t + 1) (a6 + 1) q')) : ok1 (law_j1295 len rr50 t a6 a8 a9 a10 a11 q) := by
  have e30 : (30 + a6).toInt = 30 + a6.toInt := by rw [mm_add_ti (by rw [ti30]; omega) (by rw [ti30]; omega), ti30]
  obtain ⟨m, hm⟩ : ∃ m : Nat, sp.toInt = m := ⟨sp.toInt.toNat, by omega⟩
  unfold law_j1295
  rw [cell_eq hl (by omega) hi.1.1, mm_cl_s]
  generalize CE len xs (30 + a6) = v
  have u1 := ushr_nn v 1 (by omega) (by omega)
  have r1 := rem_rng (a := mm_ushr v 1) (b := 1000) u1 (by decide)
  have r2 := rem_rng (a := mm_ushr (mm_ushr v 1) 10) (b := 60) (ushr_nn (mm_ushr v 1) 10 (by omega) (by omega)) (by decide)
  rw [ti1000] at r1
  rw [ti60] at r2
  rw [show mm_fv = 8999 - m + m + 1 by show 9000 = _; omega, stG_h (F := F) (xs := xs) hb hs.2 hi (by omega) m 0 0 0 ti0 (by omega), cl_whose hi.2.1 hb hs.1 hs.2 ⟨r1.1, by omega, r2.1, by omega⟩ hm, mm_cl_s, if_pos rfl]
  exact stH hb hs.2 hl h6 pa hi _ hr
end LD
