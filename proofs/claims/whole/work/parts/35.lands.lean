/-! how far it lands, as both sides work it out: the class's side -/
abbrev mm_F : Type := Int32 → Int32 → Int32 → Int32 → Int32 → Int32 → Int32
/-- the same but for these cells -/
def fr (S : List Nat) (q q' : mm_Q) : Prop := q'.2 = q.2 ∧ ∀ k, k ∉ S → q'.1 k = q.1 k
theorem fr_rfl (S : List Nat) (q : mm_Q) : fr S q q := ⟨rfl, fun _ _ => rfl⟩
theorem fr_trans {S : List Nat} {q q1 q2 : mm_Q} (h1 : fr S q q1) (h2 : fr S q1 q2) : fr S q q2 := ⟨h2.1.trans h1.1, fun k hk => (h2.2 k hk).trans (h1.2 k hk)⟩
theorem fr_mono {S T : List Nat} {q q1 : mm_Q} (h : fr S q q1) (hs : ∀ k, k ∈ S → k ∈ T) : fr T q q1 := ⟨h.1, fun k hk => h.2 k (fun z => hk (hs k z))⟩
theorem fr_si {S : List Nat} {k : Nat} (q : mm_Q) (j : Nat) (x : Int32) (h : k ∈ S) : fr S q (mm_si q k j x) := ⟨rfl, fun a ha => mm_si_ne q k j x (fun z => ha (z ▸ h))⟩
def mm_F0 : mm_F := fun a p z w e t => ((((p * (9 - mm_abs (a - 4))) * 2 + 6 * w) - (z * z) / 2) + e * a) - t
def cl (x : Int32) : Int32 := mm_max 0 (mm_mn 999 x)
/-- the class's law works out F -/
def lc (F : mm_F) (c11 : Nat → Int32) (len : Int32) : Prop := (len = 0 ∧ F = mm_F0) ∨ (0 < len.toInt ∧ ∀ (q : mm_Q) (a p z w e t : Int32), q.1 11 = c11 → q.1 10 3 = len → ∃ q', x5_worth a p z w e t q = some (F a p z w e t, q') ∧ fr [12, 13] q q')
def LN (F : mm_F) (g : Nat → Int32) (a r : Int32) : Int32 := cl (F a (if r = 1 then g 2 + 3 else g 2) (g 3) (g 4) (g 6) (g 5))
theorem landing_eq {F : mm_F} {q : mm_Q} (h : lc F (q.1 11) (q.1 10 3)) (a r : Int32) : ∃ q', x10_landing a r q = some (LN F (q.1 14) a r, q') ∧ fr [12, 13] q q' := by
  have key : ∀ s : Int32, ∃ q', x10_landing_j18 a s q = some (cl (F a s (q.1 14 3) (q.1 14 4) (q.1 14 6) (q.1 14 5)), q') ∧ fr [12, 13] q q' := by
    intro s
    unfold x10_landing_j18 x5_isTold
    rcases h with ⟨h0, hF⟩ | ⟨h0, hf⟩
    · refine ⟨q, ?_, fr_rfl _ _⟩
      rw [if_pos (by rw [h0]; decide), mm_cl_s, if_pos rfl]
      unfold x10_withoutText x10_landing_j63
      rw [mm_cl_s, hF]
      rfl
    · rw [if_neg (by rw [le32, ti0]; omega), mm_cl_s, if_neg (by decide)]
      obtain ⟨q', e, f⟩ := hf q a s (q.1 14 3) (q.1 14 4) (q.1 14 6) (q.1 14 5) rfl rfl
      refine ⟨q', ?_, f⟩
      rw [e, mm_cl_s]
      rfl
  unfold x10_landing LN
  by_cases c : r = 1
  · rw [if_pos c, if_pos c]
    exact key _
  · rw [if_neg c, if_neg c]
    exact key _
abbrev inB (c : Nat → Int32) (l : Int32) : Prop := c 50 - c 51 ≤ l ∧ l ≤ c 50 + c 51
def stp (c : Nat → Int32) (l : Int32) : Int32 := if inB c l then l else if l < c 49 then mm_mn (l + l / 10) (c 49) else l
def pnt (c : Nat → Int32) (l : Int32) : Int32 := if l = c 52 then 0 else if inB c l then stp c l / 10 + 30 else stp c l / 10
theorem isInBarrel_eq (l : Int32) (q : mm_Q) : x4_isInBarrel l q = some (mm_p (inB (q.1 9) l), q) := by
  unfold x4_isInBarrel mm_p inB
  by_cases h1 : l < q.1 9 50 - q.1 9 51
  · rw [if_pos h1, if_neg (fun z => Int32.not_le.mpr h1 z.1)]
  · rw [if_neg h1]
    by_cases h2 : q.1 9 50 + q.1 9 51 < l
    · rw [if_pos h2, if_neg (fun z => Int32.not_le.mpr h2 z.2)]
    · rw [if_neg h2, if_pos ⟨Int32.not_lt.mp h1, Int32.not_lt.mp h2⟩]
theorem isHit_eq (l : Int32) (q : mm_Q) : x4_isHit l q = some (mm_p (l = q.1 9 52), q) := by
  unfold x4_isHit mm_p
  by_cases h : l = q.1 9 52
  · rw [if_pos h, if_pos h]
  · rw [if_neg h, if_neg h]
theorem stopOf_eq (l : Int32) (q : mm_Q) : x4_stopOf l q = some (stp (q.1 9) l, q) := by
  unfold x4_stopOf stp
  rw [isInBarrel_eq, mm_cl_s]
  by_cases h : inB (q.1 9) l
  · rw [if_neg (by rw [mm_p0]; exact fun z => z h), if_pos h]
  · rw [if_pos (by rw [mm_p0]; exact h), if_neg h]
    by_cases h2 : l < q.1 9 49
    · rw [if_pos h2, if_pos h2]
    · rw [if_neg h2, if_neg h2]
theorem pointsOf_eq (l : Int32) (q : mm_Q) : x4_pointsOf l q = some (pnt (q.1 9) l, q) := by
  unfold x4_pointsOf pnt
  rw [isHit_eq, mm_cl_s]
  by_cases h : l = q.1 9 52
  · rw [if_neg (by rw [mm_p0]; exact fun z => z h), if_pos h]
  · rw [if_pos (by rw [mm_p0]; exact h), if_neg h, stopOf_eq, mm_cl_s, isInBarrel_eq, mm_cl_s]
    by_cases h2 : inB (q.1 9) l
    · rw [if_neg (by rw [mm_p0]; exact fun z => z h2), if_pos h2]
    · rw [if_pos (by rw [mm_p0]; exact h2), if_neg h2]
theorem div_ti {a b : Int32} (h0 : 0 ≤ a.toInt) (h1 : 0 < b.toInt) : (a / b).toInt = a.toInt / b.toInt := by
  have ha := mm_rng a
  have h2 := Int.ediv_le_self b.toInt h0
  have h3 := Int.ediv_nonneg h0 (Int.le_of_lt h1)
  rw [Int32.toInt_div, Int.tdiv_eq_ediv_of_nonneg h0, Int.bmod_eq_of_le (by omega) (by omega)]
theorem rem_ti {a b : Int32} (h0 : 0 ≤ a.toInt) (h1 : 0 < b.toInt) : (mm_rem a b).toInt = a.toInt % b.toInt := by
  have ha := mm_rng a
  have e := div_ti h0 h1
  have h2 := Int.ediv_mul_le a.toInt (show b.toInt ≠ 0 by omega)
  have h3 := Int.ediv_nonneg h0 (Int.le_of_lt h1)
  have h4 := Int.mul_nonneg h3 (Int.le_of_lt h1)
  have h5 := Int.emod_add_mul_ediv a.toInt b.toInt
  rw [Int.mul_comm] at h5
  have e2 : (a / b * b).toInt = a.toInt / b.toInt * b.toInt := by rw [mm_mul_ti (by rw [e]; omega) (by rw [e]; omega), e]
  unfold mm_rem
  rw [mm_sub_ti (by rw [e2]; omega) (by rw [e2]; omega), e2]
  omega
theorem okc_rng {j : Nat} {v : Int32} (h : mm_okc j v) {a b : Int} (ha : (mm_t2.getD (mm_wh j) 0).toInt = a) (hb : (mm_t3.getD (mm_wh j) 0).toInt = b) : a ≤ v.toInt ∧ v.toInt ≤ b := by
  subst ha hb
  exact h
/-- the numbers are within their bounds -/
def bd (sp : Int32) (c : Nat → Int32) : Prop := ∀ j, mm_own sp j → mm_okc j (c j)
theorem bd_49 {sp : Int32} {c : Nat → Int32} (h : bd sp c) : 0 ≤ (c 49).toInt ∧ (c 49).toInt ≤ 999 := okc_rng (h 49 ⟨by decide, fun z => absurd z (by decide)⟩) (by decide) (by decide)
theorem bd_50 {sp : Int32} {c : Nat → Int32} (h : bd sp c) : 0 ≤ (c 50).toInt ∧ (c 50).toInt ≤ 999 := okc_rng (h 50 ⟨by decide, fun z => absurd z (by decide)⟩) (by decide) (by decide)
theorem bd_51 {sp : Int32} {c : Nat → Int32} (h : bd sp c) : 0 ≤ (c 51).toInt ∧ (c 51).toInt ≤ 20 := okc_rng (h 51 ⟨by decide, fun z => absurd z (by decide)⟩) (by decide) (by decide)
theorem bd_52 {sp : Int32} {c : Nat → Int32} (h : bd sp c) : -1 ≤ (c 52).toInt ∧ (c 52).toInt ≤ 999 := okc_rng (h 52 ⟨by decide, fun z => absurd z (by decide)⟩) (by decide) (by decide)
theorem bd_53 {sp : Int32} {c : Nat → Int32} (h : bd sp c) : 0 ≤ (c 53).toInt ∧ (c 53).toInt ≤ 12 := okc_rng (h 53 ⟨by decide, fun z => absurd z (by decide)⟩) (by decide) (by decide)
theorem max_ti (a b : Int32) : (mm_max a b).toInt = max a.toInt b.toInt := by
  unfold mm_max
  by_cases h : a < b
  · rw [if_pos h]
    rw [lt32] at h
    omega
  · rw [if_neg h]
    rw [lt32] at h
    omega
theorem mn_ti (a b : Int32) : (mm_mn a b).toInt = min a.toInt b.toInt := by
  unfold mm_mn
  by_cases h : b < a
  · rw [if_pos h]
    rw [lt32] at h
    omega
  · rw [if_neg h]
    rw [lt32] at h
    omega
theorem cl_rng (x : Int32) : 0 ≤ (cl x).toInt ∧ (cl x).toInt ≤ 999 := by
  unfold cl
  rw [max_ti, mn_ti, ti0, ti999]
  omega
theorem stp_rng {sp : Int32} {c : Nat → Int32} (h : bd sp c) {l : Int32} (h0 : 0 ≤ l.toInt) (h1 : l.toInt ≤ 999) : 0 ≤ (stp c l).toInt ∧ (stp c l).toInt ≤ 999 := by
  have b := bd_49 h
  unfold stp
  by_cases c1 : inB c l
  · rw [if_pos c1]; omega
  rw [if_neg c1]
  by_cases c2 : l < c 49
  · rw [if_pos c2, mn_ti]
    have e : (l / 10).toInt = l.toInt / 10 := by rw [div_ti h0 (by decide), ti10]
    have e2 : (l + l / 10).toInt = l.toInt + l.toInt / 10 := by rw [mm_add_ti (by omega) (by omega), e]
    omega
  · rw [if_neg c2]; omega
theorem pnt_rng {sp : Int32} {c : Nat → Int32} (h : bd sp c) {l : Int32} (h0 : 0 ≤ l.toInt) (h1 : l.toInt ≤ 999) : 0 ≤ (pnt c l).toInt ∧ (pnt c l).toInt ≤ 129 := by
  have b := stp_rng h h0 h1
  have e : (stp c l / 10).toInt = (stp c l).toInt / 10 := by rw [div_ti b.1 (by decide), ti10]
  unfold pnt
  by_cases c1 : l = c 52
  · rw [if_pos c1, ti0]; omega
  rw [if_neg c1]
  by_cases c2 : inB c l
  · rw [if_pos c2, mm_add_ti (by rw [ti30]; omega) (by rw [ti30]; omega), ti30]
    omega
  · rw [if_neg c2]; omega
def PT (F : mm_F) (c g : Nat → Int32) (r a : Int32) : Int32 := pnt c (LN F g a r)
theorem PT_rng {sp : Int32} {c : Nat → Int32} (h : bd sp c) (F : mm_F) (g : Nat → Int32) (r a : Int32) : 0 ≤ (PT F c g r a).toInt ∧ (PT F c g r a).toInt ≤ 129 := pnt_rng h (cl_rng _).1 (cl_rng _).2
/-- the most of the first ones, from 0 on -/
def bpn (f : Int32 → Int32) : Nat → Int32
  | 0 => 0
  | n + 1 => mm_max (bpn f n) (f (Int32.ofNat n))
abbrev BP (F : mm_F) (c g : Nat → Int32) (r : Int32) : Int32 := bpn (PT F c g r) 9
theorem bpn_rng {f : Int32 → Int32} {b : Int} (h : ∀ a, 0 ≤ (f a).toInt ∧ (f a).toInt ≤ b) (hb : 0 ≤ b) : ∀ n, 0 ≤ (bpn f n).toInt ∧ (bpn f n).toInt ≤ b
  | 0 => by
    rw [show bpn f 0 = 0 from rfl, ti0]
    omega
  | n + 1 => by
    have := bpn_rng h hb n
    have := h (Int32.ofNat n)
    rw [show bpn f (n + 1) = mm_max (bpn f n) (f (Int32.ofNat n)) from rfl, max_ti]
    omega
theorem BP_rng {sp : Int32} {c : Nat → Int32} (h : bd sp c) (F : mm_F) (g : Nat → Int32) (r : Int32) : 0 ≤ (BP F c g r).toInt ∧ (BP F c g r).toInt ≤ 129 := bpn_rng (PT_rng h F g r) (by decide) 9
/-- the class thinks of a try: cells of the lane, of the try, the law -/
def cx (F : mm_F) (c g : Nat → Int32) (q : mm_Q) : Prop := q.1 9 = c ∧ q.1 14 = g ∧ lc F (q.1 11) (q.1 10 3)
theorem cx_fr {F : mm_F} {c g : Nat → Int32} {q q' : mm_Q} {S : List Nat} (h : cx F c g q) (f : fr S q q') (h9 : 9 ∉ S) (h10 : 10 ∉ S) (h11 : 11 ∉ S) (h14 : 14 ∉ S) : cx F c g q' := by
  obtain ⟨a, b, d⟩ := h
  refine ⟨(f.2 9 h9).trans a, (f.2 14 h14).trans b, ?_⟩
  rw [f.2 11 h11, f.2 10 h10]
  exact d
theorem mm_ofn {a : Int32} {i : Nat} (h : a.toInt = i) : a = Int32.ofNat i := Int32.toInt_inj.mp (by have := mm_rng a; rw [mm_ofNat_ti (by omega)]; exact h)
theorem bestPoints_h {F : mm_F} {c g : Nat → Int32} {r : Int32} {f : Nat} : ∀ (m i : Nat) (a3 : Int32) (q : mm_Q), a3.toInt = i → i + m = 9 → cx F c g q → ∃ q', x10_bestPoints_h4 (f + m + 1) r (bpn (PT F c g r) i) a3 q = some (BP F c g r, q') ∧ fr [12, 13] q q' := by
  intro m
  induction m with
  | zero =>
    intro i a3 q h1 h2 hx
    refine ⟨q, ?_, fr_rfl _ _⟩
    rw [x10_bestPoints_h4, if_pos (by rw [le32, ti9]; omega), show i = 9 by omega]
  | succ m ih =>
    intro i a3 q h1 h2 hx
    obtain ⟨q1, e1, f1⟩ := landing_eq hx.2.2 a3 r
    have hx1 := cx_fr hx f1 (by decide) (by decide) (by decide) (by decide)
    obtain ⟨q2, e2, f2⟩ := ih (i + 1) (a3 + 1) q1 (mm_inc1 h1 (by omega)) (by omega) hx1
    refine ⟨q2, ?_, fr_trans f1 f2⟩
    rw [show f + (m + 1) + 1 = (f + m + 1) + 1 by omega, x10_bestPoints_h4, if_neg (by rw [le32, ti9]; omega), e1, mm_cl_s, pointsOf_eq, mm_cl_s, hx.2.1, hx1.1, ← e2]
    rw [show bpn (PT F c g r) (i + 1) = mm_max (bpn (PT F c g r) i) (PT F c g r (Int32.ofNat i)) from rfl, ← mm_ofn h1]
    rfl
theorem bestPoints_eq {F : mm_F} {c g : Nat → Int32} {q : mm_Q} (h : cx F c g q) (r : Int32) : ∃ q', x10_bestPoints r q = some (BP F c g r, q') ∧ fr [12, 13] q q' := bestPoints_h (f := 990) 9 0 0 q ti0 (by omega) h
/-- best angle and most points of the first ones -/
def ban (f : Int32 → Int32) : Nat → Int32 × Int32
  | 0 => (0, -1)
  | n + 1 => if f (Int32.ofNat n) ≤ (ban f n).2 then ban f n else (Int32.ofNat n, f (Int32.ofNat n))
theorem ban_s (f : Int32 → Int32) (n : Nat) : ban f (n + 1) = if f (Int32.ofNat n) ≤ (ban f n).2 then ban f n else (Int32.ofNat n, f (Int32.ofNat n)) := rfl
theorem ban_ok {f : Int32 → Int32} (h : ∀ a, 0 ≤ (f a).toInt) : ∀ n, (ban f (n + 1)).2 = f (ban f (n + 1)).1 ∧ (ban f (n + 1)).2 = bpn f (n + 1) ∧ ∃ i, i < n + 1 ∧ (ban f (n + 1)).1 = Int32.ofNat i
  | 0 => by
    have h0 := h (Int32.ofNat 0)
    have e : ban f 1 = (Int32.ofNat 0, f (Int32.ofNat 0)) := by
      rw [ban_s, if_neg (by rw [le32]; show ¬ _ ≤ (-1 : Int32).toInt; rw [tin1]; omega)]
    rw [e]
    refine ⟨rfl, ?_, 0, by omega, rfl⟩
    show _ = mm_max 0 (f (Int32.ofNat 0))
    rw [eq32, max_ti, ti0]
    show (f (Int32.ofNat 0)).toInt = _
    omega
  | n + 1 => by
    obtain ⟨h1, h2, i, hi, h3⟩ := ban_ok h n
    rw [ban_s]
    by_cases c : f (Int32.ofNat (n + 1)) ≤ (ban f (n + 1)).2
    · rw [if_pos c]
      refine ⟨h1, ?_, i, by omega, h3⟩
      rw [show bpn f (n + 1 + 1) = mm_max (bpn f (n + 1)) (f (Int32.ofNat (n + 1))) from rfl, ← h2, eq32, max_ti]
      rw [le32] at c
      omega
    · rw [if_neg c]
      refine ⟨rfl, ?_, n + 1, by omega, rfl⟩
      rw [show bpn f (n + 1 + 1) = mm_max (bpn f (n + 1)) (f (Int32.ofNat (n + 1))) from rfl, ← h2, eq32, max_ti]
      rw [le32] at c
      show (f (Int32.ofNat (n + 1))).toInt = _
      omega
theorem bestAngle_h {F : mm_F} {c g : Nat → Int32} {r : Int32} {f : Nat} : ∀ (m i : Nat) (a4 : Int32) (q : mm_Q), a4.toInt = i → i + m = 9 → cx F c g q → ∃ q', x10_bestAngle_h7 (f + m + 1) r (ban (PT F c g r) i).1 (ban (PT F c g r) i).2 a4 q = some ((ban (PT F c g r) 9).1, q') ∧ fr [12, 13] q q' := by
  intro m
  induction m with
  | zero =>
    intro i a3 q h1 h2 hx
    refine ⟨q, ?_, fr_rfl _ _⟩
    rw [x10_bestAngle_h7, if_pos (by rw [le32, ti9]; omega), show i = 9 by omega]
  | succ m ih =>
    intro i a3 q h1 h2 hx
    obtain ⟨q1, e1, f1⟩ := landing_eq hx.2.2 a3 r
    have hx1 := cx_fr hx f1 (by decide) (by decide) (by decide) (by decide)
    obtain ⟨q2, e2, f2⟩ := ih (i + 1) (a3 + 1) q1 (mm_inc1 h1 (by omega)) (by omega) hx1
    refine ⟨q2, ?_, fr_trans f1 f2⟩
    rw [ban_s, ← mm_ofn h1] at e2
    rw [show f + (m + 1) + 1 = (f + m + 1) + 1 by omega, x10_bestAngle_h7, if_neg (by rw [le32, ti9]; omega), e1, mm_cl_s, pointsOf_eq, mm_cl_s, hx.2.1, hx1.1]
    show (if PT F c g r a3 ≤ (ban (PT F c g r) i).2 then x10_bestAngle_j42 (x10_bestAngle_h7 (f + m + 1)) r (ban (PT F c g r) i).1 (ban (PT F c g r) i).2 a3 q1 else x10_bestAngle_j42 (x10_bestAngle_h7 (f + m + 1)) r a3 (PT F c g r a3) a3 q1) = _
    by_cases c1 : PT F c g r a3 ≤ (ban (PT F c g r) i).2
    · rw [if_pos c1] at e2 ⊢
      exact e2
    · rw [if_neg c1] at e2 ⊢
      exact e2
theorem bestAngle_eq {F : mm_F} {c g : Nat → Int32} {q : mm_Q} (h : cx F c g q) (r : Int32) : ∃ q', x10_bestAngle r q = some ((ban (PT F c g r) 9).1, q') ∧ fr [12, 13] q q' := bestAngle_h (f := 990) 9 0 0 q ti0 (by omega) h
theorem bestStop_h {F : mm_F} {c g : Nat → Int32} {f : Nat} : ∀ (m i : Nat) (a4 : Int32) (q : mm_Q), a4.toInt = i → i + m = 9 → cx F c g q → ∃ q', x10_bestAngleForStop_h6 (f + m + 1) (ban (fun a => stp c (LN F g a 0)) i).1 (ban (fun a => stp c (LN F g a 0)) i).2 a4 q = some ((ban (fun a => stp c (LN F g a 0)) 9).1, q') ∧ fr [12, 13] q q' := by
  intro m
  induction m with
  | zero =>
    intro i a3 q h1 h2 hx
    refine ⟨q, ?_, fr_rfl _ _⟩
    rw [x10_bestAngleForStop_h6, if_pos (by rw [le32, ti9]; omega), show i = 9 by omega]
  | succ m ih =>
    intro i a3 q h1 h2 hx
    obtain ⟨q1, e1, f1⟩ := landing_eq hx.2.2 a3 0
    have hx1 := cx_fr hx f1 (by decide) (by decide) (by decide) (by decide)
    obtain ⟨q2, e2, f2⟩ := ih (i + 1) (a3 + 1) q1 (mm_inc1 h1 (by omega)) (by omega) hx1
    refine ⟨q2, ?_, fr_trans f1 f2⟩
    rw [ban_s, ← mm_ofn h1] at e2
    rw [show f + (m + 1) + 1 = (f + m + 1) + 1 by omega, x10_bestAngleForStop_h6, if_neg (by rw [le32, ti9]; omega), e1, mm_cl_s, stopOf_eq, mm_cl_s, hx.2.1, hx1.1]
    by_cases c1 : stp c (LN F g a3 0) ≤ (ban (fun a => stp c (LN F g a 0)) i).2
    · rw [if_pos c1] at e2 ⊢
      exact e2
    · rw [if_neg c1] at e2 ⊢
      exact e2
theorem bestStop_eq {F : mm_F} {c g : Nat → Int32} {q : mm_Q} (h : cx F c g q) : ∃ q', x10_bestAngleForStop q = some ((ban (fun a => stp c (LN F g a 0)) 9).1, q') ∧ fr [12, 13] q q' := bestStop_h (f := 990) 9 0 0 q ti0 (by omega) h
