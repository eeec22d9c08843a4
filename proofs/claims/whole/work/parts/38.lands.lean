/-! a try of the reference -/
theorem rx_fq {F : mm_F} {c : Nat → Int32} {sp lg : Int32} {q q' : mm_Q} (h : rx F c sp lg q) (f : fq q q') (hm : lm F (q'.1 58) (q'.1 52 10) (q'.1 60) (q'.1 61)) : rx F c sp lg q' := by
  obtain ⟨a, b, d, -⟩ := h
  refine ⟨fun j hj => ?_, by rw [f.2 6 (by decide)]; exact b, by rw [f.2 17 (by decide)]; exact d, hm⟩
  rw [f.1.2 53 (by decide)]
  exact a j hj
theorem ofSpitter_eq {q : mm_Q} {a1 a2 : Int32} {p w : Nat} (hp : a1.toInt = p) (h6 : p < 6) (hw : a2.toInt = w) (h4 : w ≤ 4) : x12_ofSpitter a1 a2 q = some (q.1 53 (6 * w + p), q) := by
  have e := mm_lin hw ti6n hp (by omega)
  unfold x12_ofSpitter
  rw [mm_ck_t (mm_inb_c e (by omega)), mm_tcn e]
theorem sizeOf_eq (x : Int32) (q : mm_Q) : x12_sizeOf x q = some (mm_abs x, q) := by
  unfold x12_sizeOf mm_abs
  by_cases h : 0 ≤ x
  · rw [if_pos h, if_pos h]
  · rw [if_neg h, if_neg h, Int32.zero_sub]
theorem abs_ti {x : Int32} (h : -2147483648 < x.toInt) : (mm_abs x).toInt = if 0 ≤ x.toInt then x.toInt else - x.toInt := by
  unfold mm_abs
  have r := mm_rng x
  by_cases c : 0 ≤ x
  · rw [if_pos c]
    rw [le32, ti0] at c
    rw [if_pos c]
  · rw [if_neg c]
    rw [le32, ti0] at c
    rw [if_neg c, mm_sub_ti (by rw [ti0]; omega) (by rw [ti0]; omega), ti0]
    omega
theorem inBarrel12_eq {sp : Int32} {c : Nat → Int32} (hb : bd sp c) {l : Int32} (h0 : 0 ≤ l.toInt) (h1 : l.toInt ≤ 999) {q : mm_Q} (hc : ∀ j, j < 54 → q.1 53 j = c j) : x12_inBarrel l q = some (mm_p (inB c l), q) := by
  have b0 := bd_50 hb
  have b1 := bd_51 hb
  have e1 : (l - c 50).toInt = l.toInt - (c 50).toInt := mm_sub_ti (by omega) (by omega)
  have e2 := abs_ti (x := l - c 50) (by omega)
  have e3 : (c 50 - c 51).toInt = (c 50).toInt - (c 51).toInt := mm_sub_ti (by omega) (by omega)
  have e4 : (c 50 + c 51).toInt = (c 50).toInt + (c 51).toInt := mm_add_ti (by omega) (by omega)
  unfold x12_inBarrel mm_p
  rw [hc 50 (by decide), sizeOf_eq, mm_cl_s, hc 51 (by decide)]
  by_cases z : c 51 < mm_abs (l - c 50)
  · rw [if_pos z, if_neg ?_]
    intro w
    obtain ⟨w1, w2⟩ := w
    rw [le32] at w1 w2
    rw [lt32, e2] at z
    split at z <;> omega
  · rw [if_neg z, if_pos ?_]
    rw [lt32, e2] at z
    refine ⟨?_, ?_⟩
    · rw [le32]
      split at z <;> omega
    · rw [le32]
      split at z <;> omega
theorem stopsFrom_eq {sp : Int32} {c : Nat → Int32} (hb : bd sp c) {l : Int32} (h0 : 0 ≤ l.toInt) (h1 : l.toInt ≤ 999) {q : mm_Q} (hc : ∀ j, j < 54 → q.1 53 j = c j) : x12_stopsFrom l q = some (stp c l, q) := by
  unfold x12_stopsFrom stp
  rw [inBarrel12_eq hb h0 h1 hc, mm_cl_s]
  by_cases h : inB c l
  · rw [if_neg (by rw [mm_p0]; exact fun z => z h), if_pos h]
  · rw [if_pos (by rw [mm_p0]; exact h), if_neg h, hc 49 (by decide)]
    by_cases h2 : l < c 49
    · rw [if_pos h2, if_pos h2]
      unfold mm_mn
      by_cases h3 : l + l / 10 ≤ c 49
      · rw [if_pos h3, if_neg (Int32.not_lt.mpr h3)]
      · rw [if_neg h3, if_pos (Int32.not_le.mp h3)]
    · rw [if_neg h2, if_neg h2]
theorem pointsFrom_eq {sp : Int32} {c : Nat → Int32} (hb : bd sp c) {l : Int32} (h0 : 0 ≤ l.toInt) (h1 : l.toInt ≤ 999) {q : mm_Q} (hc : ∀ j, j < 54 → q.1 53 j = c j) : x12_pointsFrom l q = some (pnt c l, q) := by
  unfold x12_pointsFrom pnt
  rw [hc 52 (by decide)]
  by_cases h : l = c 52
  · rw [if_pos h, if_pos h]
  · rw [if_neg h, if_neg h, stopsFrom_eq hb h0 h1 hc, mm_cl_s, inBarrel12_eq hb h0 h1 hc, mm_cl_s]
    by_cases h2 : inB c l
    · rw [if_neg (by rw [mm_p0]; exact fun z => z h2), if_pos h2]
    · rw [if_pos (by rw [mm_p0]; exact h2), if_neg h2, Int32.add_zero]
theorem j194_eq (v : Int32) (q : mm_Q) : x12_landsAt_j194 v q = some (cl v, q) := by
  have e : cl v = if 0 ≤ v then (if v ≤ 999 then v else 999) else 0 := by
    unfold cl
    rw [eq32, max_ti, mn_ti, ti0, ti999]
    by_cases h : 0 ≤ v
    · rw [if_pos h]
      by_cases h2 : v ≤ 999
      · rw [if_pos h2]
        rw [le32, ti0] at h
        rw [le32, ti999] at h2
        omega
      · rw [if_neg h2, ti999]
        rw [le32, ti0] at h
        rw [le32, ti999] at h2
        omega
    · rw [if_neg h, ti0]
      rw [le32, ti0] at h
      omega
  unfold x12_landsAt_j194
  rw [e]
  repeat' split
  all_goals rfl
theorem ti39n : (39 : Int32).toInt = ((39 : Nat) : Int) := by decide
theorem ti30n : (30 : Int32).toInt = ((30 : Nat) : Int) := by decide
theorem LN_rng (F : mm_F) (g : Nat → Int32) (a r : Int32) : 0 ≤ (LN F g a r).toInt ∧ (LN F g a r).toInt ≤ 999 := cl_rng _
theorem landsAt_eq {F : mm_F} {c : Nat → Int32} {sp lg : Int32} {q : mm_Q} {a1 a2 : Int32} {p s : Nat} (h : rx F c sp lg q) (hp : a1.toInt = p) (h6 : p < 6) (hs : a2.toInt = s) (h9 : s < 9) (k a r : Int32) : ∃ q', x12_landsAt a1 a2 k a r q = some (LN F (GL c p s k lg) a r, q') ∧ fq q q' ∧ rx F c sp lg q' := by
  obtain ⟨hc, hsp, hlg, hm⟩ := id h
  have e30 : ((30 : Int32) + a2).toInt = ((30 + s : Nat) : Int) := mm_add_n a2 hs ti30n (by omega)
  have e39 : ((39 : Int32) + a2).toInt = ((39 + s : Nat) : Int) := mm_add_n a2 hs ti39n (by omega)
  have key : ∀ s0 s1 : Int32, ∃ q', x12_landsAt_j24 a1 a2 k a s0 s1 q = some (cl (F a (s0 + s1) (mm_mn (c (30 + s) + lg) 9) (c (39 + s)) (c 48) (c (12 + p) * k)), q') ∧ fq q q' ∧ rx F c sp lg q' := by
    intro s0 s1
    have e57 : x12_landsAt_j24 a1 a2 k a s0 s1 q = x12_landsAt_j57 a1 a2 k a (s0 + s1) (mm_mn (c (30 + s) + lg) 9) q := by
      unfold x12_landsAt_j24 mm_mn
      rw [mm_ck_t (mm_inb_c e30 (by omega)), mm_tcn e30, hc (30 + s) (by omega), hlg]
      by_cases z : c (30 + s) + lg ≤ 9
      · rw [if_pos z, if_neg (Int32.not_lt.mpr z)]
      · rw [if_neg z, if_pos (Int32.not_le.mp z)]
    rw [e57]
    unfold x12_landsAt_j57
    rw [ofSpitter_eq hp h6 (w := 2) (by decide) (by decide), mm_cl_s, sizeOf_eq, mm_cl_s, mm_ck_t (mm_inb_c e39 (by omega)), mm_lt_s, mm_tcn e39, hc (39 + s) (by omega), hc 48 (by decide), hc (6 * 2 + p) (by omega)]
    by_cases z : q.1 52 10 < 0
    · refine ⟨q, ?_, fq_rfl q, h⟩
      rw [if_pos z, j194_eq]
      rcases hm.1 with ⟨-, hF⟩ | ⟨w, -⟩
      · rw [hF]
        rfl
      · rw [lt32, ti0] at z
        omega
    · rw [if_neg z, mm_lt_s, mm_lt_s, mm_lt_s, mm_ck_t (mm_inb_c e39 (by omega)), mm_lt_s, mm_lt_s, mm_lt_s]
      rw [lt32, ti0] at z
      obtain ⟨q', y1, y2, y3, y4⟩ := remembered_eq (F := F) (q := mm_si (mm_si (mm_si (mm_si (mm_si (mm_si q 59 0 a) 59 1 (s0 + s1)) 59 2 (mm_mn (c (30 + s) + lg) 9)) 59 3 (c (39 + s))) 59 4 (c 48)) 59 5 (c (6 * 2 + p) * k)) hm (show 0 ≤ (q.1 52 10).toInt by omega)
      have f : fq q q' := by
        refine ⟨⟨y2.1, fun x hx => ?_⟩, y3⟩
        have n59 : x ≠ 59 := fun z => hx (by rw [z]; decide)
        rw [y2.2 x (fun w => hx (by
          rcases List.mem_cons.mp w with w | w
          · rw [w]; decide
          rcases List.mem_cons.mp w with w | w
          · rw [w]; decide
          · rw [List.mem_singleton.mp w]; decide)), mm_si_ne _ _ _ _ n59, mm_si_ne _ _ _ _ n59, mm_si_ne _ _ _ _ n59, mm_si_ne _ _ _ _ n59, mm_si_ne _ _ _ _ n59, mm_si_ne _ _ _ _ n59]
      refine ⟨q', ?_, f, rx_fq h f y4⟩
      have d39 : (mm_si (mm_si (mm_si q 59 0 a) 59 1 (s0 + s1)) 59 2 (mm_mn (c (30 + s) + lg) 9)).1 53 (39 + s) = c (39 + s) := hc (39 + s) (by omega)
      have d48 : (mm_si (mm_si (mm_si (mm_si q 59 0 a) 59 1 (s0 + s1)) 59 2 (mm_mn (c (30 + s) + lg) 9)) 59 3 (c (39 + s))).1 53 48 = c 48 := hc 48 (by decide)
      rw [d39, d48, y1, mm_cl_s, j194_eq]
      rfl
  unfold x12_landsAt
  rw [ofSpitter_eq hp h6 (w := 0) (by decide) (by decide), mm_cl_s, ofSpitter_eq hp h6 (w := 1) (by decide) (by decide), mm_cl_s, hc (6 * 0 + p) (by omega), hc (6 * 1 + p) (by omega), show 6 * 0 + p = p by omega, show 6 * 1 + p = 6 + p by omega]
  by_cases z : r = 1
  · rw [if_pos z]
    obtain ⟨q', y1, y2⟩ := key (c p + c (6 + p)) 3
    refine ⟨q', ?_, y2⟩
    rw [y1]
    unfold LN
    rw [if_pos z]
    rfl
  · rw [if_neg z]
    obtain ⟨q', y1, y2⟩ := key (c p + c (6 + p)) 0
    refine ⟨q', ?_, y2⟩
    rw [y1, Int32.add_zero]
    unfold LN
    rw [if_neg z]
    rfl
theorem pointsAt_eq {F : mm_F} {c : Nat → Int32} {sp lg : Int32} {q : mm_Q} {a1 a2 : Int32} {p s : Nat} (h : rx F c sp lg q) (hb : bd sp c) (hp : a1.toInt = p) (h6 : p < 6) (hs : a2.toInt = s) (h9 : s < 9) (k a r : Int32) : ∃ q', x12_pointsAt a1 a2 k a r q = some (PT F c (GL c p s k lg) r a, q') ∧ fq q q' ∧ rx F c sp lg q' := by
  obtain ⟨q', y1, y2, y3⟩ := landsAt_eq h hp h6 hs h9 k a r
  refine ⟨q', ?_, y2, y3⟩
  unfold x12_pointsAt
  rw [y1, mm_cl_s, pointsFrom_eq hb (LN_rng _ _ _ _).1 (LN_rng _ _ _ _).2 y3.1, mm_cl_s]
  rfl
theorem angleFor_h {F : mm_F} {c : Nat → Int32} {sp lg : Int32} {a1 a2 : Int32} {p s : Nat} (hb : bd sp c) (hp : a1.toInt = p) (h6 : p < 6) (hs : a2.toInt = s) (h9 : s < 9) (k r : Int32) {f : Nat} : ∀ (m i : Nat) (a7 : Int32) (q : mm_Q), a7.toInt = i → i + m = 9 → rx F c sp lg q → ∃ q', x12_angleFor_h9 (f + m + 1) a1 a2 k r (ban (PT F c (GL c p s k lg) r) i).1 (ban (PT F c (GL c p s k lg) r) i).2 a7 q = some ((ban (PT F c (GL c p s k lg) r) 9).1, q') ∧ fq q q' ∧ rx F c sp lg q' := by
  intro m
  induction m with
  | zero =>
    intro i a7 q h1 h2 hx
    refine ⟨q, ?_, fq_rfl q, hx⟩
    rw [x12_angleFor_h9, if_pos (by rw [le32, ti9]; omega), show i = 9 by omega]
  | succ m ih =>
    intro i a7 q h1 h2 hx
    obtain ⟨q1, e1, f1, x1⟩ := pointsAt_eq hx hb hp h6 hs h9 k a7 r
    obtain ⟨q2, e2, f2, x2⟩ := ih (i + 1) (a7 + 1) q1 (mm_inc1 h1 (by omega)) (by omega) x1
    refine ⟨q2, ?_, fq_trans f1 f2, x2⟩
    rw [ban_s, ← mm_ofn h1] at e2
    rw [show f + (m + 1) + 1 = (f + m + 1) + 1 by omega, x12_angleFor_h9, if_neg (by rw [le32, ti9]; omega), e1, mm_cl_s]
    unfold x12_angleFor_j43
    by_cases c1 : PT F c (GL c p s k lg) r a7 ≤ (ban (PT F c (GL c p s k lg) r) i).2
    · rw [if_pos c1] at e2 ⊢
      rw [if_pos c1]
      exact e2
    · rw [if_neg c1] at e2 ⊢
      rw [if_neg c1]
      exact e2
theorem angleFor_eq {F : mm_F} {c : Nat → Int32} {sp lg : Int32} {q : mm_Q} {a1 a2 : Int32} {p s : Nat} (h : rx F c sp lg q) (hb : bd sp c) (hp : a1.toInt = p) (h6 : p < 6) (hs : a2.toInt = s) (h9 : s < 9) (k r : Int32) : ∃ q', x12_angleFor a1 a2 k r q = some ((ban (PT F c (GL c p s k lg) r) 9).1, q') ∧ fq q q' ∧ rx F c sp lg q' := angleFor_h (f := 990) hb hp h6 hs h9 k r 9 0 0 q ti0 (by omega) h
theorem pointsBest_eq {F : mm_F} {c : Nat → Int32} {sp lg : Int32} {q : mm_Q} {a1 a2 : Int32} {p s : Nat} (h : rx F c sp lg q) (hb : bd sp c) (hp : a1.toInt = p) (h6 : p < 6) (hs : a2.toInt = s) (h9 : s < 9) (k r : Int32) : ∃ q', x12_pointsBest a1 a2 k r q = some (BP F c (GL c p s k lg) r, q') ∧ fq q q' ∧ rx F c sp lg q' := by
  obtain ⟨q1, e1, f1, x1⟩ := angleFor_eq h hb hp h6 hs h9 k r
  obtain ⟨q2, e2, f2, x2⟩ := pointsAt_eq x1 hb hp h6 hs h9 k (ban (PT F c (GL c p s k lg) r) 9).1 r
  refine ⟨q2, ?_, fq_trans f1 f2, x2⟩
  unfold x12_pointsBest
  have o := ban_ok (fun a => (PT_rng hb F (GL c p s k lg) r a).1) 8
  rw [e1, mm_cl_s, e2, mm_cl_s, ← o.1, o.2.1]
