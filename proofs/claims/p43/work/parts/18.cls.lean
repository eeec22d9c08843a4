/-! of the class alone: out of the rows of the whole claim (wip/p43/extract2.py) -/
def st1 (key v : Int32) (b : Int32 × Int32) : Int32 × Int32 := if v ≤ b.2 then b else (key, v)
def b2 (f0 f1 : Int32 → Int32) : Nat → Int32 × Int32
  | 0 => (0, -1)
  | n + 1 => st1 (10 * Int32.ofNat n + 1) (f1 (Int32.ofNat n)) (st1 (10 * Int32.ofNat n + 0) (f0 (Int32.ofNat n)) (b2 f0 f1 n))
theorem key_ti {n : Nat} (h : n < 100) : (10 * Int32.ofNat n + 0).toInt = 10 * (n : Int) ∧ (10 * Int32.ofNat n + 1).toInt = 10 * (n : Int) + 1 := by
  have e : (Int32.ofNat n).toInt = ((n : Nat) : Int) := mm_ofNat_ti (by omega)
  have e1 : (10 * Int32.ofNat n).toInt = ((10 * n : Nat) : Int) := mm_lin0 (b := Int32.ofNat n) (a := 10) (m := 10) e (by decide) (by omega)
  refine ⟨?_, ?_⟩
  · rw [Int32.add_zero, e1]; omega
  · rw [mm_add_ti (by rw [ti1]; omega) (by rw [ti1]; omega), e1, ti1]; omega
theorem st1_1 (key v : Int32) (b : Int32 × Int32) : (st1 key v b).1.toInt = if v.toInt ≤ b.2.toInt then b.1.toInt else key.toInt := by
  unfold st1
  by_cases h : v ≤ b.2
  · rw [if_pos h]
    rw [le32] at h
    rw [if_pos h]
  · rw [if_neg h]
    rw [le32] at h
    rw [if_neg h]
theorem st1_2 (key v : Int32) (b : Int32 × Int32) : (st1 key v b).2.toInt = if v.toInt ≤ b.2.toInt then b.2.toInt else v.toInt := by
  unfold st1
  by_cases h : v ≤ b.2
  · rw [if_pos h]
    rw [le32] at h
    rw [if_pos h]
  · rw [if_neg h]
    rw [le32] at h
    rw [if_neg h]
theorem ban_st (f : Int32 → Int32) (n : Nat) : ban f (n + 1) = st1 (Int32.ofNat n) (f (Int32.ofNat n)) (ban f n) := rfl
theorem b2_st (f0 f1 : Int32 → Int32) (n : Nat) : b2 f0 f1 (n + 1) = st1 (10 * Int32.ofNat n + 1) (f1 (Int32.ofNat n)) (st1 (10 * Int32.ofNat n + 0) (f0 (Int32.ofNat n)) (b2 f0 f1 n)) := rfl
def b2_P (n a0 m0 a1 m1 B M : Int) : Prop := (0 ≤ a0 ∧ a0 ≤ n) ∧ (0 ≤ a1 ∧ a1 ≤ n) ∧ (m0 ≤ M ∧ m1 ≤ M ∧ (M = m0 ∨ M = m1)) ∧ (m0 < m1 → B = 10 * a1 + 1) ∧ (m1 < m0 → B = 10 * a0) ∧ (m0 = m1 → B ≤ 10 * a0 ∧ B ≤ 10 * a1 + 1 ∧ (B = 10 * a0 ∨ B = 10 * a1 + 1))
theorem b2_P0 {v0 v1 : Int} (h0 : 0 ≤ v0) (h1 : 0 ≤ v1) : b2_P 0 (if v0 ≤ -1 then 0 else 0) (if v0 ≤ -1 then -1 else v0) (if v1 ≤ -1 then 0 else 0) (if v1 ≤ -1 then -1 else v1) (if v1 ≤ (if v0 ≤ -1 then -1 else v0) then (if v0 ≤ -1 then 0 else 0) else 1) (if v1 ≤ (if v0 ≤ -1 then -1 else v0) then (if v0 ≤ -1 then -1 else v0) else v1) := by
  have c0 : ¬ v0 ≤ -1 := by omega
  have c1 : ¬ v1 ≤ -1 := by omega
  simp only [if_neg c0, if_neg c1]
  unfold b2_P
  by_cases c2 : v1 ≤ v0
  · simp only [if_pos c2]
    refine ⟨⟨?_, ?_⟩, ⟨?_, ?_⟩, ⟨?_, ?_, ?_⟩, fun _ => ?_, fun _ => ?_, fun _ => ⟨?_, ?_, ?_⟩⟩ <;> first | omega | exact trivial | exact Or.inl trivial | exact Or.inr trivial
  · simp only [if_neg c2]
    refine ⟨⟨?_, ?_⟩, ⟨?_, ?_⟩, ⟨?_, ?_, ?_⟩, fun _ => ?_, fun _ => ?_, fun _ => ⟨?_, ?_, ?_⟩⟩ <;> first | omega | exact trivial | exact Or.inl trivial | exact Or.inr trivial
theorem b2_Ps {n a0 m0 a1 m1 B M v0 v1 : Int} (h : b2_P n a0 m0 a1 m1 B M) : b2_P (n + 1) (if v0 ≤ m0 then a0 else n + 1) (if v0 ≤ m0 then m0 else v0) (if v1 ≤ m1 then a1 else n + 1) (if v1 ≤ m1 then m1 else v1) (if v1 ≤ (if v0 ≤ M then M else v0) then (if v0 ≤ M then B else 10 * (n + 1)) else 10 * (n + 1) + 1) (if v1 ≤ (if v0 ≤ M then M else v0) then (if v0 ≤ M then M else v0) else v1) := by
  obtain ⟨h1, h2, h3, h4, h5, h6⟩ := h
  unfold b2_P
  by_cases c2 : v0 ≤ M
  · simp only [if_pos c2]
    by_cases c3 : v1 ≤ M
    · simp only [if_pos c3]
      by_cases c0 : v0 ≤ m0 <;> by_cases c1 : v1 ≤ m1 <;> simp only [c0, c1, if_true, if_false] <;> refine ⟨⟨?_, ?_⟩, ⟨?_, ?_⟩, ⟨?_, ?_, ?_⟩, fun _ => ?_, fun _ => ?_, fun _ => ⟨?_, ?_, ?_⟩⟩ <;> first | omega | exact trivial | exact Or.inl trivial | exact Or.inr trivial
    · simp only [if_neg c3]
      by_cases c0 : v0 ≤ m0 <;> by_cases c1 : v1 ≤ m1 <;> simp only [c0, c1, if_true, if_false] <;> refine ⟨⟨?_, ?_⟩, ⟨?_, ?_⟩, ⟨?_, ?_, ?_⟩, fun _ => ?_, fun _ => ?_, fun _ => ⟨?_, ?_, ?_⟩⟩ <;> first | omega | exact trivial | exact Or.inl trivial | exact Or.inr trivial
  · simp only [if_neg c2]
    by_cases c3 : v1 ≤ v0
    · simp only [if_pos c3]
      by_cases c0 : v0 ≤ m0 <;> by_cases c1 : v1 ≤ m1 <;> simp only [c0, c1, if_true, if_false] <;> refine ⟨⟨?_, ?_⟩, ⟨?_, ?_⟩, ⟨?_, ?_, ?_⟩, fun _ => ?_, fun _ => ?_, fun _ => ⟨?_, ?_, ?_⟩⟩ <;> first | omega | exact trivial | exact Or.inl trivial | exact Or.inr trivial
    · simp only [if_neg c3]
      by_cases c0 : v0 ≤ m0 <;> by_cases c1 : v1 ≤ m1 <;> simp only [c0, c1, if_true, if_false] <;> refine ⟨⟨?_, ?_⟩, ⟨?_, ?_⟩, ⟨?_, ?_, ?_⟩, fun _ => ?_, fun _ => ?_, fun _ => ⟨?_, ?_, ?_⟩⟩ <;> first | omega | exact trivial | exact Or.inl trivial | exact Or.inr trivial
theorem b2_ok {f0 f1 : Int32 → Int32} (h0 : ∀ a, 0 ≤ (f0 a).toInt) (h1 : ∀ a, 0 ≤ (f1 a).toInt) : ∀ n : Nat, n < 50 → b2_P n (ban f0 (n + 1)).1.toInt (ban f0 (n + 1)).2.toInt (ban f1 (n + 1)).1.toInt (ban f1 (n + 1)).2.toInt (b2 f0 f1 (n + 1)).1.toInt (b2 f0 f1 (n + 1)).2.toInt
  | 0, _ => by
    have z := b2_P0 (h0 (Int32.ofNat 0)) (h1 (Int32.ofNat 0))
    have e0 : (ban f0 0).1.toInt = 0 := ti0
    have e1 : (ban f0 0).2.toInt = -1 := tin1
    have e2 : (ban f1 0).1.toInt = 0 := ti0
    have e3 : (ban f1 0).2.toInt = -1 := tin1
    have e4 : (b2 f0 f1 0).1.toInt = 0 := ti0
    have e5 : (b2 f0 f1 0).2.toInt = -1 := tin1
    have k0 : (10 * Int32.ofNat 0 + 0).toInt = 0 := by decide
    have k1 : (10 * Int32.ofNat 0 + 1).toInt = 1 := by decide
    have k2 : (Int32.ofNat 0).toInt = 0 := by decide
    rw [b2_st, ban_st, ban_st]
    simp only [st1_1, st1_2, e0, e1, e2, e3, e4, e5, k0, k1, k2]
    exact z
  | n + 1, hn => by
    have ih := b2_ok h0 h1 n (by omega)
    obtain ⟨k0, k1⟩ := key_ti (n := n + 1) (by omega)
    have e : (Int32.ofNat (n + 1)).toInt = (n : Int) + 1 := by rw [mm_ofNat_ti (by omega)]; omega
    rw [b2_st _ _ (n + 1), ban_st _ (n + 1), ban_st _ (n + 1)]
    generalize f0 (Int32.ofNat (n + 1)) = w0
    generalize f1 (Int32.ofNat (n + 1)) = w1
    generalize ban f0 (n + 1) = B0 at *
    generalize ban f1 (n + 1) = B1 at *
    generalize b2 f0 f1 (n + 1) = B2 at *
    have z := b2_Ps (v0 := w0.toInt) (v1 := w1.toInt) ih
    have e9 : ((n + 1 : Nat) : Int) = (n : Int) + 1 := by omega
    rw [e9] at k0 k1
    simp only [st1_1, st1_2, k0, k1, e]
    rw [e9]
    exact z
theorem bestBoth_eq {F : mm_F} {c g : Nat → Int32} {sp : Int32} (hb : bd sp c) {q : mm_Q} (h : cx F c g q) : ∃ q', x10_bestAngleAndRun q = some ((b2 (PT F c g 0) (PT F c g 1) 9).1, q') ∧ fr [12, 13] q q' := by
  obtain ⟨q1, e1, f1⟩ := bestAngle_eq h 0
  have x1 := cx_fr h f1 (by decide) (by decide) (by decide) (by decide)
  obtain ⟨q2, e2, f2⟩ := bestAngle_eq x1 1
  have x2 := cx_fr x1 f2 (by decide) (by decide) (by decide) (by decide)
  obtain ⟨q3, e3, f3⟩ := landing_eq x2.2.2 (ban (PT F c g 0) 9).1 0
  have x3 := cx_fr x2 f3 (by decide) (by decide) (by decide) (by decide)
  obtain ⟨q4, e4, f4⟩ := landing_eq x3.2.2 (ban (PT F c g 1) 9).1 1
  have x4 := cx_fr x3 f4 (by decide) (by decide) (by decide) (by decide)
  refine ⟨q4, ?_, fr_trans (fr_trans (fr_trans f1 f2) f3) f4⟩
  have o0 := (ban_ok (fun a => (PT_rng hb F g 0 a).1) 8).1
  have o1 := (ban_ok (fun a => (PT_rng hb F g 1 a).1) 8).1
  obtain ⟨a1, a2, a5, a6, a7, a8⟩ := b2_ok (fun a => (PT_rng hb F g 0 a).1) (fun a => (PT_rng hb F g 1 a).1) 8 (by omega)
  unfold x10_bestAngleAndRun
  rw [e1, mm_cl_s, e2, mm_cl_s, e3, mm_cl_s, pointsOf_eq, mm_cl_s, e4, mm_cl_s, pointsOf_eq, mm_cl_s, x3.1, x4.1, x2.2.1, x3.2.1]
  show (if PT F c g 1 (ban (PT F c g 1) (8 + 1)).1 = PT F c g 0 (ban (PT F c g 0) (8 + 1)).1 then _ else if PT F c g 1 (ban (PT F c g 1) (8 + 1)).1 ≤ PT F c g 0 (ban (PT F c g 0) (8 + 1)).1 then _ else _) = _
  rw [← o0, ← o1]
  show (if _ then some (mm_mn (10 * (ban (PT F c g 0) (8 + 1)).1) (10 * (ban (PT F c g 1) (8 + 1)).1 + 1), q4) else if _ then some (10 * (ban (PT F c g 0) (8 + 1)).1, q4) else some (10 * (ban (PT F c g 1) (8 + 1)).1 + 1, q4)) = some ((b2 (PT F c g 0) (PT F c g 1) (8 + 1)).1, q4)
  generalize ban (PT F c g 0) (8 + 1) = B0 at *
  generalize ban (PT F c g 1) (8 + 1) = B1 at *
  have k0 : (10 * B0.1).toInt = 10 * B0.1.toInt := by rw [mm_mul_ti (by rw [ti10]; omega) (by rw [ti10]; omega), ti10]
  have k1' : (10 * B1.1).toInt = 10 * B1.1.toInt := by rw [mm_mul_ti (by rw [ti10]; omega) (by rw [ti10]; omega), ti10]
  have k1 : (10 * B1.1 + 1).toInt = 10 * B1.1.toInt + 1 := by rw [mm_add_ti (by rw [ti1]; omega) (by rw [ti1]; omega), ti1, k1']
  by_cases c0 : B1.2 = B0.2
  · rw [if_pos c0]
    have : mm_mn (10 * B0.1) (10 * B1.1 + 1) = (b2 (PT F c g 0) (PT F c g 1) (8 + 1)).1 := by
      have := a8 (by rw [c0])
      rw [eq32, mn_ti, k0, k1]
      omega
    rw [this]
  · rw [if_neg c0]
    by_cases c1 : B1.2 ≤ B0.2
    · rw [if_pos c1]
      rw [le32] at c1
      rw [eq32] at c0
      have : 10 * B0.1 = (b2 (PT F c g 0) (PT F c g 1) (8 + 1)).1 := by
        rw [eq32, k0, a7 (by omega)]
      rw [this]
    · rw [if_neg c1]
      rw [le32] at c1
      have : 10 * B1.1 + 1 = (b2 (PT F c g 0) (PT F c g 1) (8 + 1)).1 := by
        rw [eq32, k1, a6 (by omega)]
      rw [this]
theorem ban_lt {f : Int32 → Int32} (n : Nat) : ∃ i, i ≤ n ∧ (ban f n).1 = Int32.ofNat i := by
  induction n with
  | zero => exact ⟨0, by omega, rfl⟩
  | succ n ih =>
    obtain ⟨i, hi, e⟩ := ih
    rw [ban_s]
    by_cases c : f (Int32.ofNat n) ≤ (ban f n).2
    · rw [if_pos c]
      exact ⟨i, by omega, e⟩
    · rw [if_neg c]
      exact ⟨n, by omega, rfl⟩
theorem inSteps_eq {sp : Int32} {c : Nat → Int32} (hb : bd sp c) {q : mm_Q} {a1 x : Int32} {p : Nat} (hc : q.1 9 = c) (h8 : q.1 8 1 = sp) (hs : sp.toInt ≤ 6) (hp : a1.toInt = p) (hps : (p : Int) < sp.toInt) : x6_inSteps a1 x q = some (x / c (24 + p), q) ∧ mm_nz (c (24 + p)) = true := by
  have b := bd_sp hb (w := 4) hps hs (by decide) (a := 1) (b := 20) (by decide) (by decide)
  have nz : ¬ c (24 + p) = 0 := by
    rw [eq32, ti0]
    rw [show 6 * 4 + p = 24 + p by omega] at b
    omega
  have z : mm_nz (c (24 + p)) = true := by
    unfold mm_nz
    rw [decide_eq_false nz]
    rfl
  refine ⟨?_, z⟩
  unfold x6_inSteps
  rw [y_told (j := 24 + p) (by rw [h8, pl_sp hs hp hps (w := 4) (by decide) (by decide)]) (by omega), mm_cl_s, hc, if_neg nz, mm_ck_t z]
def GS (c : Nat → Int32) (p s : Nat) (k str : Int32) : Nat → Int32 := upd (GL c p s k 0) 2 str
theorem PT_gs {sp : Int32} {c : Nat → Int32} (h : bd sp c) (F : mm_F) {s : Nat} (h9 : s < 9) (p : Nat) (k x : Int32) (g : Nat → Int32) : PT F c (upd (tk c p s k g) 2 x) = PT F c (GS c p s k x) := by
  have e : mm_mn (c (30 + s) + 0) 9 = c (30 + s) := by
    have b := bd_st h h9
    unfold mm_mn
    rw [Int32.add_zero, if_neg (by rw [lt32, ti9]; omega)]
  funext r a
  show pnt c (cl (F a (if r = 1 then x + 3 else x) (c (30 + s)) (c (39 + s)) (c 48) (c (12 + p) * k))) = pnt c (cl (F a (if r = 1 then x + 3 else x) (mm_mn (c (30 + s) + 0) 9) (c (39 + s)) (c 48) (c (12 + p) * k)))
  rw [e]
theorem pnt_congr {c d : Nat → Int32} (e49 : d 49 = c 49) (e50 : d 50 = c 50) (e51 : d 51 = c 51) (e52 : d 52 = c 52) (l : Int32) : pnt d l = pnt c l := by
  unfold pnt stp inB
  rw [e49, e50, e51, e52]
theorem PT_upd {sp : Int32} {c : Nat → Int32} (F : mm_F) {p s j : Nat} (hj : j < 12) (k v : Int32) : PT F (upd c j v) (GL (upd c j v) p s k 0) = PT F c (GS c p s k (upd c j v p + upd c j v (6 + p))) := by
  funext r a
  have z : ∀ i, 12 ≤ i → upd c j v i = c i := fun i hi => upd_ne _ _ _ (by omega)
  show pnt (upd c j v) (cl (F a (if r = 1 then upd c j v p + upd c j v (6 + p) + 3 else upd c j v p + upd c j v (6 + p)) (mm_mn (upd c j v (30 + s) + 0) 9) (upd c j v (39 + s)) (upd c j v 48) (upd c j v (12 + p) * k))) = pnt c (cl (F a (if r = 1 then upd c j v p + upd c j v (6 + p) + 3 else upd c j v p + upd c j v (6 + p)) (mm_mn (c (30 + s) + 0) 9) (c (39 + s)) (c 48) (c (12 + p) * k)))
  rw [pnt_congr (z 49 (by decide)) (z 50 (by decide)) (z 51 (by decide)) (z 52 (by decide)), z (30 + s) (by omega), z (39 + s) (by omega), z 48 (by omega), z (12 + p) (by omega)]
def lst (V : Int32 → Int32) (x : Int32) : Nat → Int32
  | 0 => -2
  | m + 1 => if V (Int32.ofNat (9 - m)) < x then lst V x m else Int32.ofNat (9 - m)
theorem y_within {q : mm_Q} (h2 : ∀ j, q.1 2 j = mm_t2.getD j 0) (h3 : ∀ j, q.1 3 j = mm_t3.getD j 0) {a1 : Int32} {w : Nat} (hw : a1.toInt = w) (h12 : w ≤ 12) (b : Int64) : x4_isWithin a1 b q = some (mm_p ((mm_t2.getD w 0).toInt ≤ b.toInt ∧ b.toInt ≤ (mm_t3.getD w 0).toInt), q) := by
  unfold x4_isWithin mm_p
  rw [if_neg (by rw [lt32, ti0]; omega), if_neg (by rw [lt32, ti12]; omega), mm_ck_t (mm_inb_c hw (by omega)), mm_tcn hw, h2, h3]
  simp only [mm_cmp_lt, mm_cmp_gt, lt64, mm_i64]
  by_cases c1 : b.toInt < (mm_t2.getD w 0).toInt
  · rw [if_pos c1, if_neg (by omega)]
  · rw [if_neg c1, mm_ck_t (mm_inb_c hw (by omega))]
    by_cases c2 : (mm_t3.getD w 0).toInt < b.toInt
    · rw [if_pos c2, if_neg (by omega)]
    · rw [if_neg c2, if_pos (by omega)]
section PRA
variable {F : mm_F} {c : Nat → Int32} {sp : Int32} {a1 a2 a4 : Int32} {p s w : Nat}
abbrev stw (c : Nat → Int32) (p w : Nat) (v : Int32) : Int32 := upd c (6 * w + p) v p + upd c (6 * w + p) v (6 + p)
abbrev VW (F : mm_F) (c : Nat → Int32) (p s : Nat) (k : Int32) (w : Nat) (v : Int32) : Int32 := BP F c (GS c p s k (stw c p w v)) 0
theorem stw_eq (hb : bd sp c) (hs6 : sp.toInt ≤ 6) (hps : (p : Int) < sp.toInt) (hw : w ≤ 1) {v : Int32} {i : Nat} (hv : v.toInt = i) (hi : i ≤ 9) : (c p + c (6 + p)) + (v - c (6 * w + p)) = stw c p w v := by
  have b0 := bd_sp hb (w := 0) hps hs6 (by decide) (a := 1) (b := 9) (by decide) (by decide)
  have b1 := bd_sp hb (w := 1) hps hs6 (by decide) (a := 0) (b := 9) (by decide) (by decide)
  rw [show 6 * 0 + p = p by omega] at b0
  rw [show 6 * 1 + p = 6 + p by omega] at b1
  have e1 : (c p + c (6 + p)).toInt = (c p).toInt + (c (6 + p)).toInt := mm_add_ti (by omega) (by omega)
  unfold stw
  rcases (show w = 0 ∨ w = 1 by omega) with rfl | rfl
  · rw [show 6 * 0 + p = p by omega, upd_self, upd_ne _ _ _ (by omega)]
    have e2 : (v - c p).toInt = v.toInt - (c p).toInt := mm_sub_ti (by omega) (by omega)
    have e3 : (v + c (6 + p)).toInt = v.toInt + (c (6 + p)).toInt := mm_add_ti (by omega) (by omega)
    rw [eq32, mm_add_ti (by omega) (by omega), e3]
    omega
  · rw [show 6 * 1 + p = 6 + p by omega, upd_self, upd_ne _ _ _ (by omega)]
    have e2 : (v - c (6 + p)).toInt = v.toInt - (c (6 + p)).toInt := mm_sub_ti (by omega) (by omega)
    have e3 : (c p + v).toInt = (c p).toInt + v.toInt := mm_add_ti (by omega) (by omega)
    rw [eq32, mm_add_ti (by omega) (by omega), e3]
    omega
theorem least_h (hb : bd sp c) (hs6 : sp.toInt ≤ 6) (hp : a1.toInt = p) (hps : (p : Int) < sp.toInt) (hs : (a2 / 1000).toInt = s) (h9 : s < 9) (hw : a4.toInt = w) (hw1 : w ≤ 1) (x : Int32) {f : Nat} : ∀ (m i : Nat) (a6 : Int32) (q : mm_Q), a6.toInt = i → i + m = 10 → 1 - w ≤ i → cw F c sp q → (∀ j, q.1 2 j = mm_t2.getD j 0) → (∀ j, q.1 3 j = mm_t3.getD j 0) → ∃ q', x7_leastFor_h15 (f + m + 1) a1 a2 x a4 (c (6 * w + p)) a6 q = some (lst (VW F c p s (mm_rem a2 1000) w) x m, q') ∧ fr [12, 13, 14] q q' := by
  intro m
  induction m with
  | zero =>
    intro i a6 q h1 h2 h3 hx ht2 ht3
    refine ⟨q, ?_, fr_rfl _ _⟩
    rw [x7_leastFor_h15, if_pos (by rw [lt32, ti9]; omega)]
    rfl
  | succ m ih =>
    intro i a6 q h1 h2 h3 hx ht2 ht3
    have hwi : (mm_t2.getD w 0).toInt ≤ i ∧ (i : Int) ≤ (mm_t3.getD w 0).toInt := by
      rcases (show w = 0 ∨ w = 1 by omega) with rfl | rfl
      · rw [show (mm_t2.getD 0 0).toInt = 1 from by decide, show (mm_t3.getD 0 0).toInt = 9 from by decide]
        omega
      · rw [show (mm_t2.getD 1 0).toInt = 0 from by decide, show (mm_t3.getD 1 0).toInt = 9 from by decide]
        omega
    obtain ⟨q1, y1, y2, y3⟩ := take_eq hx hs6 hp hps hs h9 (mm_rem a2 1000)
    have y4 : cx F c (upd (tk c p s (mm_rem a2 1000) (q.1 14)) 2 (stw c p w a6)) (mm_si q1 14 2 (q1.1 14 2 + (a6 - c (6 * w + p)))) := by
      obtain ⟨z1, z2, z3⟩ := y2
      refine ⟨z1, ?_, z3⟩
      rw [mm_si_self, z2]
      have e2 : tk c p s (mm_rem a2 1000) (q.1 14) 2 = c p + c (6 + p) := rfl
      rw [e2, stw_eq hb hs6 hps hw1 h1 (by omega)]
    obtain ⟨q2, z1, z2⟩ := bestPoints_eq y4 0
    have z1' : x10_bestPoints 0 (mm_si q1 14 2 (q1.1 14 2 + (a6 - c (6 * w + p)))) = some (VW F c p s (mm_rem a2 1000) w a6, q2) := by
      rw [z1]
      show some (bpn (PT F c (upd (tk c p s (mm_rem a2 1000) (q.1 14)) 2 (stw c p w a6)) 0) 9, q2) = _
      rw [PT_gs hb F h9]
    have f2 : fr [12, 13, 14] q q2 := fr_trans (fr_mono y3 (by decide)) (fr_trans (fr_si q1 2 _ (by decide)) (fr_mono z2 (by decide)))
    obtain ⟨q3, u1, u2⟩ := ih (i + 1) (a6 + 1) q2 (mm_inc1 h1 (by omega)) (by omega) (by omega) (cw_fr hx f2 (by decide) (by decide) (by decide) (by decide)) (fun j => by rw [f2.2 2 (by decide)]; exact ht2 j) (fun j => by rw [f2.2 3 (by decide)]; exact ht3 j)
    have e9 : Int32.ofNat (9 - m) = a6 := by rw [mm_ofn h1, show 9 - m = i by omega]
    have es : lst (VW F c p s (mm_rem a2 1000) w) x (m + 1) = if VW F c p s (mm_rem a2 1000) w a6 < x then lst (VW F c p s (mm_rem a2 1000) w) x m else a6 := by
      show (if VW F c p s (mm_rem a2 1000) w (Int32.ofNat (9 - m)) < x then _ else Int32.ofNat (9 - m)) = _
      rw [e9]
    have body : x7_leastFor_h15 (f + (m + 1) + 1) a1 a2 x a4 (c (6 * w + p)) a6 q = if VW F c p s (mm_rem a2 1000) w a6 < x then x7_leastFor_h15 (f + m + 1) a1 a2 x a4 (c (6 * w + p)) (a6 + 1) q2 else some (a6, q2) := by
      rw [show f + (m + 1) + 1 = (f + m + 1) + 1 by omega, x7_leastFor_h15, if_neg (by rw [lt32, ti9]; omega), y_within ht2 ht3 hw (by omega), mm_cl_s, mm_i64, h1, if_neg (by rw [mm_p0]; exact fun z => z hwi), y1, mm_cl_s]
      unfold x10_strengthen
      rw [mm_lt_s, mm_cl_s, z1', mm_cl_s]
      rfl
    rw [body, es]
    by_cases z : VW F c p s (mm_rem a2 1000) w a6 < x
    · rw [if_pos z, if_pos z]
      exact ⟨q3, u1, fr_trans f2 u2⟩
    · rw [if_neg z, if_neg z]
      exact ⟨q2, rfl, f2⟩
theorem bd_upd (hb : bd sp c) (hw1 : w ≤ 1) (h6 : p < 6) {v : Int32} (h0 : ((1 - w : Nat) : Int) ≤ v.toInt) (h1 : v.toInt ≤ 9) : bd sp (upd c (6 * w + p) v) := by
  intro j hj
  by_cases e : j = 6 * w + p
  · have ew : mm_wh (6 * w + p) = w := by
      unfold mm_wh
      rw [if_pos (by omega)]
      omega
    rw [e, upd_self]
    unfold mm_okc
    rw [ew]
    rcases (show w = 0 ∨ w = 1 by omega) with rfl | rfl
    · rw [show (mm_t2.getD 0 0).toInt = 1 from by decide, show (mm_t3.getD 0 0).toInt = 9 from by decide]
      omega
    · rw [show (mm_t2.getD 1 0).toInt = 0 from by decide, show (mm_t3.getD 1 0).toInt = 9 from by decide]
      omega
  · rw [upd_ne _ _ _ e]
    exact hb j hj
end PRA
abbrev dslip (c : Nat → Int32) (p : Nat) (r z : Int32) : Prop := r = 1 ∧ ¬ c (18 + p) ≤ mm_rem (mm_ushr z 8) 12
abbrev dlaugh (c : Nat → Int32) (z : Int32) : Prop := ¬ c 53 ≤ mm_rem (mm_ushr z 16) 12
abbrev dz (z : Int32) : Int32 := z * 1103515245 + 12345
def dval (F : mm_F) (c : Nat → Int32) (p s : Nat) (k r z : Int32) : Int32 := if dslip c p r z ∨ dlaugh c z then 0 else BP F c (GL c p s k 0) r
def dr (F : mm_F) (c : Nat → Int32) (p s : Nat) (k r : Int32) : Nat → Int32 → Int32 → Int32 → Int32 → Int32 × Int32
  | 0, _, a, b, _ => (a, b)
  | m + 1, z, a, b, i => dr F c p s k r m (dz z) (a + dval F c p s (k + i) r (dz z)) (mm_max b (dval F c p s (k + i) r (dz z))) (i + 1)
theorem dval_rng {sp : Int32} {c : Nat → Int32} (hb : bd sp c) (F : mm_F) (p s : Nat) (k r z : Int32) : 0 ≤ (dval F c p s k r z).toInt := by
  unfold dval
  by_cases h : dslip c p r z ∨ dlaugh c z
  · rw [if_pos h, ti0]; omega
  · rw [if_neg h]
    exact (BP_rng hb F _ r).1
theorem max_0 {b : Int32} (h : 0 ≤ b.toInt) : mm_max b 0 = b := by
  rw [eq32, max_ti, ti0]
  omega
section DR
variable {F : mm_F} {c : Nat → Int32} {sp : Int32} {a1 a2 a4 a6 : Int32} {p s : Nat}
theorem draw_s (hb : bd sp c) (hs6 : sp.toInt ≤ 6) (hp : a1.toInt = p) (hps : (p : Int) < sp.toInt) (hs : (a2 / 1000).toInt = s) (h9 : s < 9) {a5 z a b i : Int32} (hi : ¬ a5 ≤ i) (h0 : 0 ≤ b.toInt) {q : mm_Q} (hx : cw F c sp q) (n : Nat) : ∃ q', x7_draw_h29 (n + 1) a1 a2 a4 a5 a6 z a b i q = x7_draw_h29 n a1 a2 a4 a5 a6 (dz z) (a + dval F c p s (mm_rem a2 1000 + i) a6 (dz z)) (mm_max b (dval F c p s (mm_rem a2 1000 + i) a6 (dz z))) (i + 1) q' ∧ fr [12, 13, 14] q q' ∧ cw F c sp q' := by
  obtain ⟨hc, hsp, hl⟩ := id hx
  have t3 : x4_told a1 3 q = some (c (18 + p), q) := by
    rw [y_told (j := 18 + p) (by rw [hsp, pl_sp hs6 hp hps (w := 3) (by decide) (by decide)]) (by omega), hc]
  have t12 : x4_told 0 12 q = some (c 53, q) := by
    rw [y_told (j := 53) pl_laugh (by omega), hc]
  have no : ∀ s0 s1 : Int32, ¬ (s0 = 0 ∧ s1 = 0) → x7_draw_j106 (x7_draw_h29 n) a1 a2 a4 a5 a6 (dz z) a b i s0 s1 q = x7_draw_h29 n a1 a2 a4 a5 a6 (dz z) a b (i + 1) q := by
    intro s0 s1 h
    unfold x7_draw_j106 x7_draw_j166
    by_cases e0 : s0 = 0
    · rw [if_pos e0, if_neg (fun e1 => h ⟨e0, e1⟩)]
    · rw [if_neg e0]
  obtain ⟨q1, q2, y1, y2, y3, y4⟩ := take_best hx hb hs6 hp hps hs h9 (mm_rem a2 1000 + i) a6
  have yes : x7_draw_j106 (x7_draw_h29 n) a1 a2 a4 a5 a6 (dz z) a b i 0 0 q = x7_draw_h29 n a1 a2 a4 a5 a6 (dz z) (a + BP F c (GL c p s (mm_rem a2 1000 + i) 0) a6) (mm_max b (BP F c (GL c p s (mm_rem a2 1000 + i) 0) a6)) (i + 1) q2 := by
    unfold x7_draw_j106 x7_draw_j166
    rw [if_pos rfl, if_pos rfl, y1, mm_cl_s, y2, mm_cl_s]
  have j78 : ∀ s0 : Int32, x7_draw_j78 (x7_draw_h29 n) a1 a2 a4 a5 a6 (dz z) a b i s0 q = if dlaugh c (dz z) then x7_draw_j106 (x7_draw_h29 n) a1 a2 a4 a5 a6 (dz z) a b i s0 1 q else x7_draw_j106 (x7_draw_h29 n) a1 a2 a4 a5 a6 (dz z) a b i s0 0 q := by
    intro s0
    unfold x7_draw_j78
    rw [t12, mm_cl_s]
    by_cases e : c 53 ≤ mm_rem (mm_ushr (dz z) 16) 12
    · rw [if_pos e, if_neg (fun w => w e)]
    · rw [if_neg e, if_pos e]
  have hd : x7_draw_h29 (n + 1) a1 a2 a4 a5 a6 z a b i q = if dslip c p a6 (dz z) then x7_draw_j78 (x7_draw_h29 n) a1 a2 a4 a5 a6 (dz z) a b i 1 q else x7_draw_j78 (x7_draw_h29 n) a1 a2 a4 a5 a6 (dz z) a b i 0 q := by
    rw [x7_draw_h29, if_neg hi]
    unfold x7_draw_j77
    by_cases e1 : a6 = 1
    · rw [if_pos e1, t3, mm_cl_s]
      by_cases e : c (18 + p) ≤ mm_rem (mm_ushr (dz z) 8) 12
      · rw [if_pos e, if_neg (fun w => w.2 e)]
      · rw [if_neg e, if_pos ⟨e1, e⟩]
    · rw [if_neg e1, if_neg (fun w => e1 w.1)]
  rw [hd]
  by_cases e : dslip c p a6 (dz z) ∨ dlaugh c (dz z)
  · refine ⟨q, ?_, fr_rfl _ _, hx⟩
    have ev : dval F c p s (mm_rem a2 1000 + i) a6 (dz z) = 0 := if_pos e
    rw [ev, Int32.add_zero, max_0 h0]
    by_cases e1 : dslip c p a6 (dz z)
    · rw [if_pos e1, j78]
      by_cases e2 : dlaugh c (dz z)
      · rw [if_pos e2]
        exact no 1 1 (fun w => absurd w.1 (by decide))
      · rw [if_neg e2]
        exact no 1 0 (fun w => absurd w.1 (by decide))
    · rw [if_neg e1, j78, if_pos (e.resolve_left e1)]
      exact no 0 1 (fun w => absurd w.2 (by decide))
  · refine ⟨q2, ?_, y3, y4⟩
    have ev : dval F c p s (mm_rem a2 1000 + i) a6 (dz z) = BP F c (GL c p s (mm_rem a2 1000 + i) 0) a6 := if_neg e
    rw [ev, if_neg (fun w => e (Or.inl w)), j78, if_neg (fun w => e (Or.inr w))]
    exact yes
theorem draw_h (hb : bd sp c) (hs6 : sp.toInt ≤ 6) (hp : a1.toInt = p) (hps : (p : Int) < sp.toInt) (hs : (a2 / 1000).toInt = s) (h9 : s < 9) {a5 : Int32} {f : Nat} : ∀ (m j : Nat) (z a b i : Int32) (q : mm_Q), i.toInt = j → ((j + m : Nat) : Int) = a5.toInt → a5.toInt ≤ 1000 → 0 ≤ b.toInt → cw F c sp q → ∃ q', x7_draw_h29 (f + m + 1) a1 a2 a4 a5 a6 z a b i q = some (if mm_rem a4 10 = 0 then (dr F c p s (mm_rem a2 1000) a6 m z a b i).1 else (dr F c p s (mm_rem a2 1000) a6 m z a b i).2, q') ∧ fr [12, 13, 14] q q' := by
  intro m
  induction m with
  | zero =>
    intro j z a b i q h1 h2 h3 h4 hx
    refine ⟨q, ?_, fr_rfl _ _⟩
    rw [x7_draw_h29, if_pos (by rw [le32]; omega)]
    show (if _ then some (a, q) else some (b, q)) = some (if _ then a else b, q)
    by_cases e : mm_rem a4 10 = 0
    · rw [if_pos e, if_pos e]
    · rw [if_neg e, if_neg e]
  | succ m ih =>
    intro j z a b i q h1 h2 h3 h4 hx
    obtain ⟨q1, y1, y2, y3⟩ := draw_s (a4 := a4) (a6 := a6) hb hs6 hp hps hs h9 (a5 := a5) (z := z) (a := a) (b := b) (i := i) (by rw [le32]; omega) h4 hx (f + m + 1)
    obtain ⟨q2, z1, z2⟩ := ih (j + 1) (dz z) (a + dval F c p s (mm_rem a2 1000 + i) a6 (dz z)) (mm_max b (dval F c p s (mm_rem a2 1000 + i) a6 (dz z))) (i + 1) q1 (mm_inc1 h1 (by omega)) (by omega) h3 (by rw [max_ti]; omega) y3
    refine ⟨q2, ?_, fr_trans y2 z2⟩
    rw [show f + (m + 1) + 1 = (f + m + 1) + 1 by omega, y1]
    exact z1
end DR
theorem ml_rng (a : Int64) : -9223372036854775808 ≤ a.toInt ∧ a.toInt < 9223372036854775808 := ⟨Int64.le_toInt a, Int64.toInt_lt a⟩
theorem ml_add {a b : Int64} (h1 : -9223372036854775808 ≤ a.toInt + b.toInt) (h2 : a.toInt + b.toInt < 9223372036854775808) : (a + b).toInt = a.toInt + b.toInt := by
  rw [Int64.toInt_add, Int.bmod_eq_of_le (by omega) (by omega)]
theorem ml_sub {a b : Int64} (h1 : -9223372036854775808 ≤ a.toInt - b.toInt) (h2 : a.toInt - b.toInt < 9223372036854775808) : (a - b).toInt = a.toInt - b.toInt := by
  rw [Int64.toInt_sub, Int.bmod_eq_of_le (by omega) (by omega)]
theorem ml_mul {a b : Int64} (h1 : -9223372036854775808 ≤ a.toInt * b.toInt) (h2 : a.toInt * b.toInt < 9223372036854775808) : (a * b).toInt = a.toInt * b.toInt := by
  rw [Int64.toInt_mul, Int.bmod_eq_of_le (by omega) (by omega)]
theorem ml_div {a b : Int64} (h0 : 0 ≤ a.toInt) (h1 : 0 < b.toInt) : (a / b).toInt = a.toInt / b.toInt := by
  have ha := ml_rng a
  have h2 := Int.ediv_le_self b.toInt h0
  have h3 := Int.ediv_nonneg h0 (Int.le_of_lt h1)
  rw [Int64.toInt_div, Int.tdiv_eq_ediv_of_nonneg h0, Int.bmod_eq_of_le (by omega) (by omega)]
theorem ml_rem {a b : Int64} (h0 : 0 ≤ a.toInt) (h1 : 0 < b.toInt) : (mm_reml a b).toInt = a.toInt % b.toInt := by
  have ha := ml_rng a
  have e := ml_div h0 h1
  have h2 := Int.ediv_mul_le a.toInt (show b.toInt ≠ 0 by omega)
  have h3 := Int.ediv_nonneg h0 (Int.le_of_lt h1)
  have h4 := Int.mul_nonneg h3 (Int.le_of_lt h1)
  have h5 := Int.emod_add_mul_ediv a.toInt b.toInt
  rw [Int.mul_comm] at h5
  have e2 : (a / b * b).toInt = a.toInt / b.toInt * b.toInt := by rw [ml_mul (by rw [e]; omega) (by rw [e]; omega), e]
  unfold mm_reml
  rw [ml_sub (by rw [e2]; omega) (by rw [e2]; omega), e2]
  omega
theorem eq64 {a b : Int64} : a = b ↔ a.toInt = b.toInt := Int64.toInt_inj.symm
theorem nzl_t {b : Int64} (h : ¬ b.toInt = 0) : mm_nzl b = true := by
  have : ¬ b = 0 := by rw [eq64, tl0]; exact h
  unfold mm_nzl
  rw [decide_eq_false this]
  rfl
theorem gcd11 : ∀ (k a b : Nat) (b4 b6 : Int64) (a8 : Int32) (n : Nat) (q : mm_Q), b4.toInt = a → b6.toInt = b → b < 2 ^ k → 0 ≤ a8.toInt → a8.toInt + 2 * k < 100 → 2 * k + 1 ≤ n → ∃ g : Int64, g.toInt = (Nat.gcd a b : Nat) ∧ x11_greatestDivisor_h9 n b4 b6 a8 q = some (g, q)
  | 0, a, b, b4, b6, a8, n, q => by
    intro h1 h2 h3 h4 h5 h6
    have hb : b = 0 := by omega
    obtain ⟨m, rfl⟩ : ∃ m, n = m + 1 := ⟨n - 1, by omega⟩
    refine ⟨b4, by rw [hb, Nat.gcd_zero_right]; exact h1, ?_⟩
    rw [x11_greatestDivisor_h9, if_neg (by rw [le32, ti100]; omega), if_pos ((mm_cmp_eq _ _).mpr (by rw [eq64, tl0]; omega))]
  | k + 1, a, b, b4, b6, a8, n, q => by
    intro h1 h2 h3 h4 h5 h6
    obtain ⟨m, rfl⟩ : ∃ m, n = m + 1 + 1 := ⟨n - 2, by omega⟩
    by_cases hb : b = 0
    · refine ⟨b4, by rw [hb, Nat.gcd_zero_right]; exact h1, ?_⟩
      rw [x11_greatestDivisor_h9, if_neg (by rw [le32, ti100]; omega), if_pos ((mm_cmp_eq _ _).mpr (by rw [eq64, tl0]; omega))]
    · have e1 : (mm_reml b4 b6).toInt = ((a % b : Nat) : Int) := by rw [ml_rem (by omega) (by omega), h1, h2]; omega
      have g1 : Nat.gcd a b = Nat.gcd b (a % b) := by rw [Nat.gcd_comm, Nat.gcd_rec, Nat.gcd_comm]
      have s1 : x11_greatestDivisor_h9 (m + 1 + 1) b4 b6 a8 q = x11_greatestDivisor_h9 (m + 1) b6 (mm_reml b4 b6) (a8 + 1) q := by
        rw [x11_greatestDivisor_h9, if_neg (by rw [le32, ti100]; omega), if_neg (fun z => by rw [mm_cmp_eq, eq64, tl0] at z; omega), mm_ck_t (nzl_t (by omega))]
      have a9 : (a8 + 1).toInt = a8.toInt + 1 := by rw [mm_add_ti (by rw [ti1]; omega) (by rw [ti1]; omega), ti1]
      rw [s1, g1]
      by_cases hr : a % b = 0
      · refine ⟨b6, by rw [hr, Nat.gcd_zero_right]; exact h2, ?_⟩
        rw [x11_greatestDivisor_h9, if_neg (by rw [le32, ti100]; omega), if_pos ((mm_cmp_eq _ _).mpr (by rw [eq64, tl0]; omega))]
      · have lt : a % b < b := Nat.mod_lt _ (by omega)
        have e2 : (mm_reml b6 (mm_reml b4 b6)).toInt = ((b % (a % b) : Nat) : Int) := by rw [ml_rem (by omega) (by omega), e1, h2]; omega
        have g2 : Nat.gcd b (a % b) = Nat.gcd (a % b) (b % (a % b)) := by rw [Nat.gcd_comm, Nat.gcd_rec, Nat.gcd_comm]
        have s2 : x11_greatestDivisor_h9 (m + 1) b6 (mm_reml b4 b6) (a8 + 1) q = x11_greatestDivisor_h9 m (mm_reml b4 b6) (mm_reml b6 (mm_reml b4 b6)) (a8 + 1 + 1) q := by
          rw [x11_greatestDivisor_h9, if_neg (by rw [le32, ti100]; omega), if_neg (fun z => by rw [mm_cmp_eq, eq64, tl0] at z; omega), mm_ck_t (nzl_t (by omega))]
        have a10 : (a8 + 1 + 1).toInt = a8.toInt + 2 := by rw [mm_add_ti (by rw [ti1]; omega) (by rw [ti1]; omega), ti1, a9]; omega
        have lt2 : b % (a % b) < a % b := Nat.mod_lt _ (by omega)
        have half : 2 * (b % (a % b)) < b := by
          have h7 := Nat.mod_add_div b (a % b)
          have h8 : 1 ≤ b / (a % b) := Nat.div_pos (Nat.le_of_lt lt) (by omega)
          have h9 := Nat.mul_le_mul_left (a % b) h8
          omega
        have hk : b % (a % b) < 2 ^ k := by
          rw [Nat.pow_succ] at h3
          omega
        rw [s2, g2]
        exact gcd11 k (a % b) (b % (a % b)) _ _ _ m q e1 e2 hk (by omega) (by omega) (by omega)
def CH (F : mm_F) (c g : Nat → Int32) (p : Nat) (x r : Int32) : Int32 := if x < BP F c g r then (if r = 1 then 12 - c (18 + p) else 12) else 0
theorem CH_rng {sp : Int32} {c : Nat → Int32} (hb : bd sp c) (hs6 : sp.toInt ≤ 6) {p : Nat} (hps : (p : Int) < sp.toInt) (F : mm_F) (g : Nat → Int32) (x r : Int32) : 0 ≤ (CH F c g p x r).toInt ∧ (CH F c g p x r).toInt ≤ 12 := by
  have b := bd_sp hb (w := 3) hps hs6 (by decide) (a := 0) (b := 12) (by decide) (by decide)
  rw [show 6 * 3 + p = 18 + p by omega] at b
  unfold CH
  by_cases h : x < BP F c g r
  · rw [if_pos h]
    by_cases h2 : r = 1
    · rw [if_pos h2, mm_sub_ti (by rw [ti12]; omega) (by rw [ti12]; omega), ti12]
      omega
    · rw [if_neg h2, ti12]
      omega
  · rw [if_neg h, ti0]
    omega
theorem chances_eq {F : mm_F} {c g : Nat → Int32} {sp : Int32} {q : mm_Q} {a1 : Int32} {p : Nat} (h : cx F c g q) (h8 : q.1 8 1 = sp) (hs6 : sp.toInt ≤ 6) (hp : a1.toInt = p) (hps : (p : Int) < sp.toInt) (x r : Int32) : ∃ q', x7_chances a1 x r q = some (CH F c g p x r, q') ∧ fr [12, 13] q q' := by
  obtain ⟨q1, e1, f1⟩ := bestPoints_eq h r
  refine ⟨q1, ?_, f1⟩
  unfold x7_chances CH
  rw [e1, mm_cl_s]
  by_cases z : x < BP F c g r
  · rw [if_pos z, if_pos z]
    by_cases z2 : r = 1
    · rw [if_pos z2, if_pos z2, y_told (j := 18 + p) (by rw [f1.2 8 (by decide), h8, pl_sp hs6 hp hps (w := 3) (by decide) (by decide)]) (by omega), mm_cl_s, f1.2 9 (by decide), h.1]
    · rw [if_neg z2, if_neg z2]
  · rw [if_neg z, if_neg z]
theorem CH_tk {sp : Int32} {c : Nat → Int32} (h : bd sp c) (F : mm_F) {s : Nat} (h9 : s < 9) (p : Nat) (k : Int32) (g : Nat → Int32) (x r : Int32) : CH F c (tk c p s k g) p x r = CH F c (GL c p s k 0) p x r := by
  unfold CH
  show (if x < bpn (PT F c (tk c p s k g) r) 9 then _ else _) = (if x < bpn (PT F c (GL c p s k 0) r) 9 then _ else _)
  rw [PT_tk h F h9]
def pw : Nat → Int
  | 0 => 1
  | n + 1 => 12 * pw n
theorem pw_s (n : Nat) : pw (n + 1) = 12 * pw n := rfl
theorem pw_rng : ∀ n, n ≤ 9 → 1 ≤ pw n ∧ pw n ≤ 5159780352 := by decide
theorem pw_8 : ∀ n, n ≤ 8 → 1 ≤ pw n ∧ pw n ≤ 429981696 := by decide
def Qd (e : Nat → Int) : Nat → Nat → Int
  | _, 0 => 1
  | j, m + 1 => e j * Qd e (j + 1) m
theorem Qd_rng {e : Nat → Int} (h : ∀ i, 0 ≤ e i ∧ e i ≤ 12) : ∀ m j, 0 ≤ Qd e j m ∧ Qd e j m ≤ pw m
  | 0, _ => ⟨by show (0 : Int) ≤ 1; omega, by show (1 : Int) ≤ 1; omega⟩
  | m + 1, j => by
    obtain ⟨a, b⟩ := Qd_rng h m (j + 1)
    refine ⟨Int.mul_nonneg (h j).1 a, ?_⟩
    show e j * Qd e (j + 1) m ≤ 12 * pw m
    exact Int.mul_le_mul (h j).2 b a (by omega)
theorem mul_rng {L c : Int} (h0 : 0 ≤ L) (c0 : 0 ≤ c) (c1 : c ≤ 12) : 0 ≤ L * (12 - c) ∧ L * (12 - c) ≤ 12 * L := by
  refine ⟨Int.mul_nonneg h0 (by omega), ?_⟩
  rw [Int.mul_comm]
  exact Int.mul_le_mul_of_nonneg_right (by omega) h0
theorem min_mul {L a b : Int} (h0 : 0 ≤ L) : min (L * (12 - a)) (L * (12 - b)) = L * (12 - max a b) := by
  by_cases h : a ≤ b
  · have := Int.mul_le_mul_of_nonneg_left (show 12 - b ≤ 12 - a by omega) h0
    rw [show max a b = b by omega]
    omega
  · have := Int.mul_le_mul_of_nonneg_left (show 12 - a ≤ 12 - b by omega) h0
    rw [show max a b = a by omega]
    omega
section RK
variable {F : mm_F} {c : Nat → Int32} {sp : Int32} {a1 a2 : Int32} {p s : Nat}
abbrev CT (F : mm_F) (c : Nat → Int32) (p s : Nat) (k x : Int32) (i : Nat) (r : Int32) : Int32 := CH F c (GL c p s (k + Int32.ofNat i) 0) p x r
abbrev ce (F : mm_F) (c : Nat → Int32) (p s : Nat) (k x : Int32) (i : Nat) : Int := 12 - max (CT F c p s k x i 0).toInt (CT F c p s k x i 1).toInt
theorem CT_rng (hb : bd sp c) (hs6 : sp.toInt ≤ 6) (hps : (p : Int) < sp.toInt) (F : mm_F) (s : Nat) (k x : Int32) (i : Nat) (r : Int32) : 0 ≤ (CT F c p s k x i r).toInt ∧ (CT F c p s k x i r).toInt ≤ 12 := CH_rng hb hs6 hps F _ x r
theorem ce_rng (hb : bd sp c) (hs6 : sp.toInt ≤ 6) (hps : (p : Int) < sp.toInt) (F : mm_F) (s : Nat) (k x : Int32) (i : Nat) : 0 ≤ ce F c p s k x i ∧ ce F c p s k x i ≤ 12 := by
  have c0 := CT_rng hb hs6 hps F s k x i 0
  have c1 := CT_rng hb hs6 hps F s k x i 1
  show 0 ≤ 12 - max (CT F c p s k x i 0).toInt (CT F c p s k x i 1).toInt ∧ 12 - max (CT F c p s k x i 0).toInt (CT F c p s k x i 1).toInt ≤ 12
  omega
theorem ml_mul12 {b : Int64} {x : Int32} {L : Int} (hL : b.toInt = L) (h0 : 0 ≤ L) (h1 : L ≤ 429981696) (x0 : 0 ≤ x.toInt) (x1 : x.toInt ≤ 12) : (b * ((12 - x).toInt64)).toInt = L * (12 - x.toInt) := by
  have e : ((12 - x).toInt64).toInt = 12 - x.toInt := by rw [mm_i64, mm_sub_ti (by rw [ti12]; omega) (by rw [ti12]; omega), ti12]
  have r := mul_rng h0 x0 x1
  rw [ml_mul (by rw [hL, e]; omega) (by rw [hL, e]; omega), hL, e]
theorem mnl_ti (a b : Int64) : (mm_mnl a b).toInt = min a.toInt b.toInt := by
  unfold mm_mnl
  by_cases h : b < a
  · rw [if_pos h]
    rw [lt64] at h
    omega
  · rw [if_neg h]
    rw [lt64] at h
    omega
theorem weigh_h (hb : bd sp c) (hs6 : sp.toInt ≤ 6) (hp : a1.toInt = p) (hps : (p : Int) < sp.toInt) (hs : (a2 / 1000).toInt = s) (h9 : s < 9) {x a4 : Int32} {n : Nat} (h4 : a4.toInt = n) (hn : n ≤ 9) {f : Nat} : ∀ (m j : Nat) (b5 : Int64) (L : Int) (a7 : Int32) (q : mm_Q), a7.toInt = ((j + 1 : Nat) : Int) → j + 1 + m = n → b5.toInt = L → 0 ≤ L → L ≤ pw j → (q.2 35 8).toInt = pw j → cw F c sp q → ∃ q', x7_weighTries_h11 (f + m + 1) a1 a2 x a4 b5 a7 q = some ((), q') ∧ fk q q' ∧ (q'.2 35 8).toInt = pw n ∧ (q'.2 35 7).toInt = pw n - min ((L * Qd (ce F c p s (mm_rem a2 1000) x) (j + 1) m) * (12 - (CT F c p s (mm_rem a2 1000) x 0 1).toInt)) ((L * Qd (ce F c p s (mm_rem a2 1000) x) (j + 1) m) * (12 - (CT F c p s (mm_rem a2 1000) x 0 0).toInt)) ∧ q'.1 35 9 = if (L * Qd (ce F c p s (mm_rem a2 1000) x) (j + 1) m) * (12 - (CT F c p s (mm_rem a2 1000) x 0 1).toInt) < (L * Qd (ce F c p s (mm_rem a2 1000) x) (j + 1) m) * (12 - (CT F c p s (mm_rem a2 1000) x 0 0).toInt) then 1 else 0 := by
  have cr : ∀ i r, 0 ≤ (CT F c p s (mm_rem a2 1000) x i r).toInt ∧ (CT F c p s (mm_rem a2 1000) x i r).toInt ≤ 12 := fun i r => CT_rng hb hs6 hps F s (mm_rem a2 1000) x i r
  intro m
  induction m with
  | zero =>
    intro j b5 L a7 q h1 h2 h3 h0 h0' h8 hx
    have hj := pw_8 j (by omega)
    have w0 : cw F c sp (mm_sj q 35 8 (q.2 35 8 * 12)) := hx
    obtain ⟨q1, y1, y2, y3⟩ := take_eq w0 hs6 hp hps hs h9 (mm_rem a2 1000)
    have g8 : q1.1 8 1 = sp := by rw [y3.2 8 (by decide)]; exact w0.2.1
    obtain ⟨q2, y4, y5⟩ := chances_eq y2 g8 hs6 hp hps x 0
    have y6 := cx_fr y2 y5 (by decide) (by decide) (by decide) (by decide)
    obtain ⟨q3, y7, y8⟩ := chances_eq y6 (by rw [y5.2 8 (by decide)]; exact g8) hs6 hp hps x 1
    rw [CH_tk hb F h9] at y4 y7
    have k0 : mm_rem a2 1000 + Int32.ofNat 0 = mm_rem a2 1000 := Int32.add_zero _
    have c0 : CT F c p s (mm_rem a2 1000) x 0 0 = CH F c (GL c p s (mm_rem a2 1000) 0) p x 0 := by
      show CH F c (GL c p s (mm_rem a2 1000 + Int32.ofNat 0) 0) p x 0 = _
      rw [k0]
    have c1 : CT F c p s (mm_rem a2 1000) x 0 1 = CH F c (GL c p s (mm_rem a2 1000) 0) p x 1 := by
      show CH F c (GL c p s (mm_rem a2 1000 + Int32.ofNat 0) 0) p x 1 = _
      rw [k0]
    rw [← c0] at y4
    rw [← c1] at y7
    have f3 : fk (mm_sj q 35 8 (q.2 35 8 * 12)) q3 := fk_trans (fk_trans (fk_fr y3 (by decide)) (fk_fr y5 (by decide))) (fk_fr y8 (by decide))
    have l3 : q3.2 = (mm_sj q 35 8 (q.2 35 8 * 12)).2 := by rw [y8.1, y5.1, y3.1]
    have fsj : fk q (mm_sj q 35 8 (q.2 35 8 * 12)) := ⟨fun _ _ => rfl, fun k hk => mm_sj_ne q 35 8 _ (fun z => hk (by rw [z]; decide))⟩
    have e8 : (q.2 35 8 * 12).toInt = pw (j + 1) := by
      rw [ml_mul (by rw [h8, tl12]; omega) (by rw [h8, tl12]; omega), h8, tl12, pw_s]
      omega
    have m0 := ml_mul12 h3 h0 (by omega) (cr 0 0).1 (cr 0 0).2
    have m1 := ml_mul12 h3 h0 (by omega) (cr 0 1).1 (cr 0 1).2
    have Q1 : L * Qd (ce F c p s (mm_rem a2 1000) x) (j + 1) 0 = L := Int.mul_one L
    rw [Q1]
    have r0 := mul_rng h0 (cr 0 0).1 (cr 0 0).2
    have r1 := mul_rng h0 (cr 0 1).1 (cr 0 1).2
    have hn' : n = j + 1 := by omega
    have p9 := pw_rng (j + 1) (by omega)
    rw [hn']
    rw [show f + 0 + 1 = f + 1 from rfl, x7_weighTries_h11, if_pos (by rw [le32]; omega), mm_lt_s, y1, mm_cl_s, y4, mm_cl_s, y7, mm_cl_s]
    have fin : ∀ v : Int32, mm_bb v = true → x7_weighTries_j159 (b5 * (12 - CT F c p s (mm_rem a2 1000) x 0 0).toInt64) (b5 * (12 - CT F c p s (mm_rem a2 1000) x 0 1).toInt64) v q3 = some ((), mm_sj (mm_si q3 35 9 v) 35 7 ((mm_si q3 35 9 v).2 35 8 - mm_mnl (b5 * (12 - CT F c p s (mm_rem a2 1000) x 0 1).toInt64) (b5 * (12 - CT F c p s (mm_rem a2 1000) x 0 0).toInt64))) := by
      intro v hv
      unfold x7_weighTries_j159
      rw [mm_ck_t hv, mm_lt_s, mm_lt_s]
    have props : ∀ v : Int32, fk q (mm_sj (mm_si q3 35 9 v) 35 7 ((mm_si q3 35 9 v).2 35 8 - mm_mnl (b5 * (12 - CT F c p s (mm_rem a2 1000) x 0 1).toInt64) (b5 * (12 - CT F c p s (mm_rem a2 1000) x 0 0).toInt64))) ∧ ((mm_sj (mm_si q3 35 9 v) 35 7 ((mm_si q3 35 9 v).2 35 8 - mm_mnl (b5 * (12 - CT F c p s (mm_rem a2 1000) x 0 1).toInt64) (b5 * (12 - CT F c p s (mm_rem a2 1000) x 0 0).toInt64))).2 35 8).toInt = pw (j + 1) ∧ ((mm_sj (mm_si q3 35 9 v) 35 7 ((mm_si q3 35 9 v).2 35 8 - mm_mnl (b5 * (12 - CT F c p s (mm_rem a2 1000) x 0 1).toInt64) (b5 * (12 - CT F c p s (mm_rem a2 1000) x 0 0).toInt64))).2 35 7).toInt = pw (j + 1) - min (L * (12 - (CT F c p s (mm_rem a2 1000) x 0 1).toInt)) (L * (12 - (CT F c p s (mm_rem a2 1000) x 0 0).toInt)) := by
      intro v
      have l8 : (mm_si q3 35 9 v).2 35 8 = q.2 35 8 * 12 := by
        show q3.2 35 8 = _
        rw [l3, mm_sj_self]
        rfl
      refine ⟨⟨fun k hk => ?_, fun k hk => ?_⟩, ?_, ?_⟩
      · show (mm_si q3 35 9 v).1 k = _
        rw [mm_si_ne _ _ _ _ (fun z => hk (by rw [z]; decide)), f3.1 k hk]
        rfl
      · rw [mm_sj_ne _ _ _ _ (fun z => hk (by rw [z]; decide))]
        show q3.2 k = _
        rw [f3.2 k hk, fsj.2 k hk]
      · rw [mm_sj_self]
        show ((mm_si q3 35 9 v).2 35 8).toInt = _
        rw [l8, e8]
      · rw [mm_sj_self]
        show ((mm_si q3 35 9 v).2 35 8 - mm_mnl _ _).toInt = _
        rw [l8, ml_sub (by rw [e8, mnl_ti, m0, m1]; omega) (by rw [e8, mnl_ti, m0, m1]; omega), e8, mnl_ti, m0, m1]
    by_cases z : L * (12 - (CT F c p s (mm_rem a2 1000) x 0 1).toInt) < L * (12 - (CT F c p s (mm_rem a2 1000) x 0 0).toInt)
    · rw [if_neg (fun w => by rw [mm_cmp_ge, le64, m0, m1] at w; omega), fin 1 (by decide)]
      obtain ⟨u1, u2, u3⟩ := props 1
      refine ⟨_, rfl, u1, u2, u3, ?_⟩
      rw [if_pos z]
      show (mm_si q3 35 9 1).1 35 9 = 1
      rw [mm_si_self, upd_self]
    · rw [if_pos (by rw [mm_cmp_ge, le64, m0, m1]; omega), fin 0 (by decide)]
      obtain ⟨u1, u2, u3⟩ := props 0
      refine ⟨_, rfl, u1, u2, u3, ?_⟩
      rw [if_neg z]
      show (mm_si q3 35 9 0).1 35 9 = 0
      rw [mm_si_self, upd_self]
  | succ m ih =>
    intro j b5 L a7 q h1 h2 h3 h0 h0' h8 hx
    have hj := pw_8 j (by omega)
    obtain ⟨q1, y1, y2, y3⟩ := take_eq hx hs6 hp hps hs h9 (mm_rem a2 1000 + a7)
    have g8 : q1.1 8 1 = sp := by rw [y3.2 8 (by decide)]; exact hx.2.1
    obtain ⟨q2, y4, y5⟩ := chances_eq y2 g8 hs6 hp hps x 0
    have y6 := cx_fr y2 y5 (by decide) (by decide) (by decide) (by decide)
    obtain ⟨q3, y7, y8⟩ := chances_eq y6 (by rw [y5.2 8 (by decide)]; exact g8) hs6 hp hps x 1
    rw [CH_tk hb F h9, mm_ofn h1] at y4 y7
    have f3 : fr [12, 13, 14] q q3 := fr_trans (fr_trans (fr_mono y3 (by decide)) (fr_mono y5 (by decide))) (fr_mono y8 (by decide))
    have e8 : (q3.2 35 8 * 12).toInt = pw (j + 1) := by
      rw [f3.1, ml_mul (by rw [h8, tl12]; omega) (by rw [h8, tl12]; omega), h8, tl12, pw_s]
      omega
    have mx : (mm_max (CT F c p s (mm_rem a2 1000) x (j + 1) 0) (CT F c p s (mm_rem a2 1000) x (j + 1) 1)).toInt = max (CT F c p s (mm_rem a2 1000) x (j + 1) 0).toInt (CT F c p s (mm_rem a2 1000) x (j + 1) 1).toInt := max_ti _ _
    have u0 := cr (j + 1) 0
    have u1 := cr (j + 1) 1
    have mm := ml_mul12 (x := mm_max (CT F c p s (mm_rem a2 1000) x (j + 1) 0) (CT F c p s (mm_rem a2 1000) x (j + 1) 1)) h3 h0 (by omega) (by rw [mx]; omega) (by rw [mx]; omega)
    rw [mx] at mm
    have r := mul_rng (c := max (CT F c p s (mm_rem a2 1000) x (j + 1) 0).toInt (CT F c p s (mm_rem a2 1000) x (j + 1) 1).toInt) h0 (by omega) (by omega)
    have hx3' : cw F c sp q3 := cw_fr hx f3 (by decide) (by decide) (by decide) (by decide)
    have hx3 : cw F c sp (mm_sj q3 35 8 (q3.2 35 8 * 12)) := hx3'
    obtain ⟨q4, z1, z2, z3, z4, z5⟩ := ih (j + 1) _ _ (a7 + 1) (mm_sj q3 35 8 (q3.2 35 8 * 12)) (mm_inc1 h1 (by omega)) (by omega) mm r.1 (by rw [pw_s]; omega) (by rw [mm_sj_self]; exact e8) hx3
    have QQ : L * (12 - max (CT F c p s (mm_rem a2 1000) x (j + 1) 0).toInt (CT F c p s (mm_rem a2 1000) x (j + 1) 1).toInt) * Qd (ce F c p s (mm_rem a2 1000) x) (j + 1 + 1) m = L * Qd (ce F c p s (mm_rem a2 1000) x) (j + 1) (m + 1) := by
      rw [Int.mul_assoc]
      rfl
    rw [QQ] at z4 z5
    have fsj : fk q3 (mm_sj q3 35 8 (q3.2 35 8 * 12)) := ⟨fun _ _ => rfl, fun k hk => mm_sj_ne q3 35 8 _ (fun z => hk (by rw [z]; decide))⟩
    refine ⟨q4, ?_, fk_trans (fk_trans (fk_fr f3 (by decide)) fsj) z2, z3, z4, z5⟩
    rw [show f + (m + 1) + 1 = (f + m + 1) + 1 by omega, x7_weighTries_h11, if_neg (by rw [le32]; omega), y1, mm_cl_s, y4, mm_cl_s, y7, mm_cl_s, mm_lt_s]
    exact z1
end RK
theorem ofn_s {n : Nat} (h : n < 100000) : Int32.ofNat n + 1 = Int32.ofNat (n + 1) := by
  have e : (Int32.ofNat n).toInt = ((n : Nat) : Int) := mm_ofNat_ti (by omega)
  exact mm_ofn (mm_inc1 e (by omega))
def tg (rl a b : Int32) : Int32 := if rl = 0 then mm_max a b else a + b
theorem tg_rng {rl a b : Int32} {x y : Int} (ha : 0 ≤ a.toInt ∧ a.toInt ≤ x) (hb : 0 ≤ b.toInt ∧ b.toInt ≤ y) (hx : x + y ≤ 100000) (h0 : 0 ≤ x) (h1 : 0 ≤ y) : 0 ≤ (tg rl a b).toInt ∧ (tg rl a b).toInt ≤ x + y := by
  unfold tg
  by_cases h : rl = 0
  · rw [if_pos h, max_ti]
    omega
  · rw [if_neg h, mm_add_ti (by omega) (by omega)]
    omega
def cg (N : Nat) (W S : Nat → Int32) (q : mm_Q) : Prop := (q.1 39 6).toInt = N ∧ ∀ j, j < N → q.1 40 j = W j ∧ q.1 41 j = S j
theorem and1 (y : Int32) : y &&& 1 = 0 ∨ y &&& 1 = 1 := by
  have h : (y &&& 1).toBitVec.toNat ≤ 1 := by
    rw [Int32.toBitVec_and, BitVec.toNat_and]
    exact Nat.and_le_right
  have e : (y &&& 1).toInt = ((y &&& 1).toBitVec.toNat : Int) := by
    show (y &&& 1).toBitVec.toInt = _
    rw [BitVec.toInt_eq_toNat_of_lt (by omega)]
  rcases (show (y &&& 1).toBitVec.toNat = 0 ∨ (y &&& 1).toBitVec.toNat = 1 by omega) with w | w
  · exact Or.inl (by rw [eq32, e, w, ti0]; rfl)
  · exact Or.inr (by rw [eq32, e, w, ti1]; rfl)
theorem bit_0 {y : Int32} : y &&& 1 = 0 ↔ ¬ y &&& 1 = 1 := by
  rcases and1 y with h | h
  · rw [h]; exact ⟨fun _ => by decide, fun _ => rfl⟩
  · rw [h]; exact ⟨fun w => absurd w (by decide), fun w => absurd rfl w⟩
section LO
variable {need sl rl : Int32} {B0 B1 : Nat → Int32}
theorem tg_ge {a b : Int32} (ha : 0 ≤ a.toInt ∧ a.toInt ≤ 50000) (hb : 0 ≤ b.toInt ∧ b.toInt ≤ 129) (rl : Int32) : a.toInt ≤ (tg rl a b).toInt ∧ (tg rl a b).toInt ≤ a.toInt + 129 := by
  unfold tg
  by_cases h : rl = 0
  · rw [if_pos h, max_ti]; omega
  · rw [if_neg h, mm_add_ti (by omega) (by omega)]; omega
end LO
def nd (S : Nat → Int32) : Nat → Nat → Int32 → Int32
  | 0, _, a => a
  | m + 1, i, a => nd S m (i + 1) (mm_max a (S i))
