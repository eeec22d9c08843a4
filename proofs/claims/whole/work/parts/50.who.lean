/-! who it was, at which angle -/
/-- one more who may, the first kept -/
def wst (key : Int32) (b : Prop) [Decidable b] (t : Nat × Int32) : Nat × Int32 := if b then (t.1 + 1, if t.1 = 0 then key else t.2) else t
def wa (F : mm_F) (c : Nat → Int32) (M : Nat → Int64) (N p : Nat) : Nat → Nat → Nat × Int32 → Nat × Int32
  | 0, _, t => t
  | m + 1, a, t => wa F c M N p m (a + 1) (wst (10 * Int32.ofNat p + Int32.ofNat a) (ffn F c M p (Int32.ofNat a) 0 N 0 = -2) t)
def ww (F : mm_F) (c : Nat → Int32) (M : Nat → Int64) (N : Nat) : Nat → Nat → Nat × Int32 → Nat × Int32
  | 0, _, t => t
  | m + 1, p, t => ww F c M N m (p + 1) (wa F c M N p 9 0 t)
theorem ofn_s {n : Nat} (h : n < 100000) : Int32.ofNat n + 1 = Int32.ofNat (n + 1) := by
  have e : (Int32.ofNat n).toInt = ((n : Nat) : Int) := mm_ofNat_ti (by omega)
  exact mm_ofn (mm_inc1 e (by omega))
theorem ofn_0 {n : Nat} (h : n < 100000) : Int32.ofNat n = 0 ↔ n = 0 := by
  have e : (Int32.ofNat n).toInt = ((n : Nat) : Int) := mm_ofNat_ti (by omega)
  rw [eq32, e, ti0]
  omega
theorem wst_le (key : Int32) (b : Prop) [Decidable b] (t : Nat × Int32) : (wst key b t).1 ≤ t.1 + 1 := by
  unfold wst
  by_cases h : b
  · rw [if_pos h]; exact Nat.le_refl _
  · rw [if_neg h]; omega
theorem wst_keep (key : Int32) (b : Prop) [Decidable b] (t : Nat × Int32) (h : 0 < t.1) : 0 < (wst key b t).1 ∧ (wst key b t).2 = t.2 := by
  unfold wst
  by_cases hb : b
  · rw [if_pos hb, if_neg (by omega)]
    exact ⟨by show 0 < t.1 + 1; omega, rfl⟩
  · rw [if_neg hb]
    exact ⟨h, rfl⟩
section WH
variable {F : mm_F} {c : Nat → Int32} {sp : Int32} {N : Nat} {M : Nat → Int64}
theorem wa_le (p : Nat) : ∀ (m a : Nat) (t : Nat × Int32), (wa F c M N p m a t).1 ≤ t.1 + m
  | 0, _, t => Nat.le_refl _
  | m + 1, a, t => by
    have h1 := wa_le p m (a + 1) (wst (10 * Int32.ofNat p + Int32.ofNat a) (ffn F c M p (Int32.ofNat a) 0 N 0 = -2) t)
    have h2 := wst_le (10 * Int32.ofNat p + Int32.ofNat a) (ffn F c M p (Int32.ofNat a) 0 N 0 = -2) t
    show (wa F c M N p m (a + 1) (wst (10 * Int32.ofNat p + Int32.ofNat a) (ffn F c M p (Int32.ofNat a) 0 N 0 = -2) t)).1 ≤ _
    omega
theorem wa_keep (p : Nat) : ∀ (m a : Nat) (t : Nat × Int32), 0 < t.1 → 0 < (wa F c M N p m a t).1 ∧ (wa F c M N p m a t).2 = t.2
  | 0, _, t, h => ⟨h, rfl⟩
  | m + 1, a, t, h => by
    have h2 := wst_keep (10 * Int32.ofNat p + Int32.ofNat a) (ffn F c M p (Int32.ofNat a) 0 N 0 = -2) t h
    have h1 := wa_keep p m (a + 1) _ h2.1
    exact ⟨h1.1, h1.2.trans h2.2⟩
theorem ww_keep : ∀ (m i : Nat) (t : Nat × Int32), 0 < t.1 → (ww F c M N m i t).2 = t.2
  | 0, _, t, _ => rfl
  | m + 1, i, t, h => by
    have h2 := wa_keep (F := F) (c := c) (M := M) (N := N) i 9 0 t h
    exact (ww_keep m (i + 1) _ h2.1).trans h2.2
/-- the class holds the marks -/
def mk (N : Nat) (M : Nat → Int64) (q : mm_Q) : Prop := (q.1 44 3).toInt = N ∧ ∀ i, i < N → (q.1 45 i).toInt = (M i).toInt
theorem mk_fr {q q' : mm_Q} (h : mk N M q) (f : fr [12, 13, 14] q q') : mk N M q' := ⟨by rw [f.2 44 (by decide)]; exact h.1, fun i hi => by rw [f.2 45 (by decide)]; exact h.2 i hi⟩
theorem many17_h (hb : bd sp c) (hs6 : sp.toInt ≤ 6) (hN : N ≤ 60) (rr : Int32 → Int32 → mm_Q → Option (Int32 × mm_Q)) {a2 : Int32} {p : Nat} (hp : a2.toInt = p) (hps : (p : Int) < sp.toInt) {f : Nat} : ∀ (m a : Nat) (t : Nat × Int32) (a3 : Int32) (q : mm_Q), a3.toInt = a → a + m = 9 → t.1 + m < 1000 → cw F c sp q → mk N M q → ∃ q', x6_howManyMay_h17 rr (f + m + 1) (Int32.ofNat t.1) a2 a3 q = rr (Int32.ofNat (wa F c M N p m a t).1) (a2 + 1) q' ∧ fr [12, 13, 14] q q' := by
  intro m
  induction m with
  | zero =>
    intro a t a3 q h1 h2 h3 hx hk
    refine ⟨q, ?_, fr_rfl _ _⟩
    rw [x6_howManyMay_h17, if_pos (by rw [le32, ti9]; omega)]
    rfl
  | succ m ih =>
    intro a t a3 q h1 h2 h3 hx hk
    obtain ⟨q1, y1, y2⟩ := unlike_eq (M := M) hb hs6 hp hps hN a3 0 hx hk.1 hk.2
    rw [mm_ofn h1] at y1
    have hle := wst_le (10 * Int32.ofNat p + Int32.ofNat a) (ffn F c M p (Int32.ofNat a) 0 N 0 = -2) t
    obtain ⟨q2, z1, z2⟩ := ih (a + 1) (wst (10 * Int32.ofNat p + Int32.ofNat a) (ffn F c M p (Int32.ofNat a) 0 N 0 = -2) t) (a3 + 1) q1 (mm_inc1 h1 (by omega)) (by omega) (by omega) (cw_fr hx y2 (by decide) (by decide) (by decide) (by decide)) (mk_fr hk y2)
    refine ⟨q2, ?_, fr_trans y2 z2⟩
    refine Eq.trans ?_ z1
    rw [show f + (m + 1) + 1 = (f + m + 1) + 1 by omega, x6_howManyMay_h17, if_neg (by rw [le32, ti9]; omega), mm_ofn h1, y1, mm_cl_s]
    unfold x6_howManyMay_j38 wst
    by_cases z : ffn F c M p (Int32.ofNat a) 0 N 0 = -2
    · rw [if_pos z, if_pos z, ofn_s (by omega)]
    · rw [if_neg z, if_neg z]
theorem many4_h (hb : bd sp c) (hs6 : sp.toInt ≤ 6) (hN : N ≤ 60) {f : Nat} : ∀ (m i : Nat) (t : Nat × Int32) (a2 : Int32) (q : mm_Q), a2.toInt = i → (i : Int) + m = sp.toInt → t.1 + 9 * m < 900 → cw F c sp q → mk N M q → ∃ q', x6_howManyMay_h4 (f + m + 1) (Int32.ofNat t.1) a2 q = some (Int32.ofNat (ww F c M N m i t).1, q') ∧ fr [12, 13, 14] q q' := by
  intro m
  induction m with
  | zero =>
    intro i t a2 q h1 h2 h3 hx hk
    refine ⟨q, ?_, fr_rfl _ _⟩
    rw [x6_howManyMay_h4]
    unfold x4_size
    rw [mm_cl_s, hx.2.1, if_pos (by rw [le32]; omega)]
    rfl
  | succ m ih =>
    intro i t a2 q h1 h2 h3 hx hk
    obtain ⟨q1, y1, y2⟩ := many17_h (M := M) hb hs6 hN (x6_howManyMay_h4 (f + m + 1)) h1 (by omega) (f := 990) 9 0 t 0 q ti0 (by omega) (by omega) hx hk
    have hle := wa_le (F := F) (c := c) (M := M) (N := N) i 9 0 t
    obtain ⟨q2, z1, z2⟩ := ih (i + 1) (wa F c M N i 9 0 t) (a2 + 1) q1 (mm_inc1 h1 (by omega)) (by omega) (by omega) (cw_fr hx y2 (by decide) (by decide) (by decide) (by decide)) (mk_fr hk y2)
    refine ⟨q2, ?_, fr_trans y2 z2⟩
    rw [show f + (m + 1) + 1 = (f + m + 1) + 1 by omega, x6_howManyMay_h4]
    unfold x4_size
    rw [mm_cl_s, hx.2.1, if_neg (by rw [le32]; omega)]
    exact Eq.trans y1 z1
theorem first15_h (hb : bd sp c) (hs6 : sp.toInt ≤ 6) (hN : N ≤ 60) (rr : Int32 → mm_Q → Option (Int32 × mm_Q)) {a1 : Int32} {p : Nat} (hp : a1.toInt = p) (hps : (p : Int) < sp.toInt) {f : Nat} : ∀ (m a : Nat) (a2 : Int32) (q : mm_Q), a2.toInt = a → a + m = 9 → cw F c sp q → mk N M q → ∃ q', fr [12, 13, 14] q q' ∧ (((wa F c M N p m a (0, -2)).1 = 0 ∧ (wa F c M N p m a (0, -2)).2 = -2 ∧ x6_firstWhoMay_h15 rr (f + m + 1) a1 a2 q = rr (a1 + 1) q') ∨ (0 < (wa F c M N p m a (0, -2)).1 ∧ x6_firstWhoMay_h15 rr (f + m + 1) a1 a2 q = some ((wa F c M N p m a (0, -2)).2, q'))) := by
  intro m
  induction m with
  | zero =>
    intro a a2 q h1 h2 hx hk
    refine ⟨q, fr_rfl _ _, Or.inl ⟨rfl, rfl, ?_⟩⟩
    rw [x6_firstWhoMay_h15, if_pos (by rw [le32, ti9]; omega)]
  | succ m ih =>
    intro a a2 q h1 h2 hx hk
    obtain ⟨q1, y1, y2⟩ := unlike_eq (M := M) hb hs6 hp hps hN a2 0 hx hk.1 hk.2
    rw [mm_ofn h1] at y1
    have e : x6_firstWhoMay_h15 rr (f + (m + 1) + 1) a1 a2 q = if ffn F c M p (Int32.ofNat a) 0 N 0 = -2 then some (10 * a1 + a2, q1) else x6_firstWhoMay_h15 rr (f + m + 1) a1 (a2 + 1) q1 := by
      rw [show f + (m + 1) + 1 = (f + m + 1) + 1 by omega, x6_firstWhoMay_h15, if_neg (by rw [le32, ti9]; omega), mm_ofn h1, y1, mm_cl_s]
    have ew : wa F c M N p (m + 1) a (0, -2) = wa F c M N p m (a + 1) (wst (10 * Int32.ofNat p + Int32.ofNat a) (ffn F c M p (Int32.ofNat a) 0 N 0 = -2) (0, -2)) := rfl
    rw [e, ew]
    unfold wst
    by_cases z : ffn F c M p (Int32.ofNat a) 0 N 0 = -2
    · rw [if_pos z, if_pos z]
      have hk2 := wa_keep (F := F) (c := c) (M := M) (N := N) p m (a + 1) (0 + 1, if 0 = 0 then 10 * Int32.ofNat p + Int32.ofNat a else -2) (by show 0 < 0 + 1; omega)
      refine ⟨q1, y2, Or.inr ⟨hk2.1, ?_⟩⟩
      rw [hk2.2, mm_ofn hp, mm_ofn h1]
      rfl
    · rw [if_neg z, if_neg z]
      obtain ⟨q2, z1, z2⟩ := ih (a + 1) (a2 + 1) q1 (mm_inc1 h1 (by omega)) (by omega) (cw_fr hx y2 (by decide) (by decide) (by decide) (by decide)) (mk_fr hk y2)
      exact ⟨q2, fr_trans y2 z1, z2⟩
theorem first2_h (hb : bd sp c) (hs6 : sp.toInt ≤ 6) (hN : N ≤ 60) {f : Nat} : ∀ (m i : Nat) (a1 : Int32) (q : mm_Q), a1.toInt = i → (i : Int) + m = sp.toInt → cw F c sp q → mk N M q → ∃ q', x6_firstWhoMay_h2 (f + m + 1) a1 q = some ((ww F c M N m i (0, -2)).2, q') ∧ fr [12, 13, 14] q q' := by
  intro m
  induction m with
  | zero =>
    intro i a1 q h1 h2 hx hk
    refine ⟨q, ?_, fr_rfl _ _⟩
    rw [x6_firstWhoMay_h2]
    unfold x4_size
    rw [mm_cl_s, hx.2.1, if_pos (by rw [le32]; omega)]
    rfl
  | succ m ih =>
    intro i a1 q h1 h2 hx hk
    obtain ⟨q1, y2, hh⟩ := first15_h (M := M) hb hs6 hN (x6_firstWhoMay_h2 (f + m + 1)) h1 (by omega) (f := 990) 9 0 0 q ti0 (by omega) hx hk
    have e : x6_firstWhoMay_h2 (f + (m + 1) + 1) a1 q = x6_firstWhoMay_h15 (x6_firstWhoMay_h2 (f + m + 1)) (990 + 9 + 1) a1 0 q := by
      rw [show f + (m + 1) + 1 = (f + m + 1) + 1 by omega, x6_firstWhoMay_h2]
      unfold x4_size
      rw [mm_cl_s, hx.2.1, if_neg (by rw [le32]; omega)]
    have ew : ww F c M N (m + 1) i (0, -2) = ww F c M N m (i + 1) (wa F c M N i 9 0 (0, -2)) := rfl
    rw [e, ew]
    rcases hh with ⟨g1, g2, g3⟩ | ⟨g1, g2⟩
    · obtain ⟨q2, z1, z2⟩ := ih (i + 1) (a1 + 1) q1 (mm_inc1 h1 (by omega)) (by omega) (cw_fr hx y2 (by decide) (by decide) (by decide) (by decide)) (mk_fr hk y2)
      refine ⟨q2, ?_, fr_trans y2 z2⟩
      have et : wa F c M N i 9 0 (0, -2) = (0, -2) := by
        exact Prod.ext g1 g2
      rw [g3, et]
      exact z1
    · refine ⟨q1, ?_, y2⟩
      rw [g2, ww_keep m (i + 1) _ g1]
/-- the reference has the marks -/
def mr (d : Nat) (N : Nat) (M : Nat → Int64) (q : mm_Q) : Prop := (q.1 72 d).toInt = N ∧ ∀ i, i < N → q.2 73 (60 * d + i) = M i
theorem mr_fq {d : Nat} {q q' : mm_Q} (h : mr d N M q) (f : fq q q') : mr d N M q' := ⟨by rw [f.1.2 72 (by decide)]; exact h.1, fun i hi => by rw [f.1.1]; exact h.2 i hi⟩
theorem who59_h (hb : bd sp c) (hN : N ≤ 60) {d : Int32} {kd : Nat} (hd : d.toInt = kd) (hk : kd < 6) (rr : Int32 → Int32 → Int32 → Int32 → Int32 → mm_Q → Option (Int32 × mm_Q)) {a2 a5 : Int32} {p : Nat} (hp : a5.toInt = p) (h6 : p < 6) {f : Nat} : ∀ (m a : Nat) (t : Nat × Int32) (a6 : Int32) (q : mm_Q), a6.toInt = a → a + m = 9 → t.1 + m < 1000 → rx F c sp 0 q → mr kd N M q → ∃ q', x12_who_h59 rr (f + m + 1) d a2 (Int32.ofNat t.1) t.2 a5 a6 q = rr d a2 (Int32.ofNat (wa F c M N p m a t).1) (wa F c M N p m a t).2 (a5 + 1) q' ∧ fq q q' ∧ rx F c sp 0 q' := by
  intro m
  induction m with
  | zero =>
    intro a t a6 q h1 h2 h3 hx hm
    refine ⟨q, ?_, fq_rfl _, hx⟩
    rw [x12_who_h59, if_pos (by rw [le32, ti9]; omega)]
    rfl
  | succ m ih =>
    intro a t a6 q h1 h2 h3 hx hm
    obtain ⟨q1, y1, y2, y3⟩ := false_eq (M := M) hb hp h6 hd hk hN a6 0 hx hm.1 hm.2
    rw [mm_ofn h1] at y1
    have hle := wst_le (10 * Int32.ofNat p + Int32.ofNat a) (ffn F c M p (Int32.ofNat a) 0 N 0 = -2) t
    obtain ⟨q2, z1, z2, z3⟩ := ih (a + 1) (wst (10 * Int32.ofNat p + Int32.ofNat a) (ffn F c M p (Int32.ofNat a) 0 N 0 = -2) t) (a6 + 1) q1 (mm_inc1 h1 (by omega)) (by omega) (by omega) y3 (mr_fq hm y2)
    refine ⟨q2, ?_, fq_trans y2 z2, z3⟩
    refine Eq.trans ?_ z1
    have zz : (Int32.ofNat t.1 = 0) ↔ t.1 = 0 := ofn_0 (by omega)
    rw [show f + (m + 1) + 1 = (f + m + 1) + 1 by omega, x12_who_h59, if_neg (by rw [le32, ti9]; omega), mm_ofn h1, y1, mm_cl_s]
    unfold x12_who_j98 x12_who_j103 wst
    by_cases z : ffn F c M p (Int32.ofNat a) 0 N 0 = -2
    · rw [if_pos z, if_pos z, ← ofn_s (by omega)]
      by_cases y : t.1 = 0
      · rw [if_pos (zz.mpr y), if_pos y, mm_ofn hp]
      · rw [if_neg (fun w => y (zz.mp w)), if_neg y]
    · rw [if_neg z, if_neg z]
theorem who47_h (hb : bd sp c) (hs6 : sp.toInt ≤ 6) (hN : N ≤ 60) {d : Int32} {kd : Nat} (hd : d.toInt = kd) (hk : kd < 6) {a2 : Int32} {f : Nat} : ∀ (m i : Nat) (t : Nat × Int32) (a5 : Int32) (q : mm_Q), a5.toInt = i → (i : Int) + m = sp.toInt → t.1 + 9 * m < 900 → rx F c sp 0 q → mr kd N M q → ∃ q', x12_who_h47 (f + m + 1) d a2 (Int32.ofNat t.1) t.2 a5 q = some (if a2 = 0 then Int32.ofNat (ww F c M N m i t).1 else (ww F c M N m i t).2, q') ∧ fq q q' ∧ rx F c sp 0 q' := by
  intro m
  induction m with
  | zero =>
    intro i t a5 q h1 h2 h3 hx hm
    refine ⟨q, ?_, fq_rfl _, hx⟩
    rw [x12_who_h47, hx.2.1, if_pos (by rw [le32]; omega), mm_some_ite]
    rfl
  | succ m ih =>
    intro i t a5 q h1 h2 h3 hx hm
    obtain ⟨q1, y1, y2, y3⟩ := who59_h (M := M) hb hN hd hk (x12_who_h47 (f + m + 1)) (a2 := a2) h1 (by omega) (f := 990) 9 0 t 0 q ti0 (by omega) (by omega) hx hm
    have hle := wa_le (F := F) (c := c) (M := M) (N := N) i 9 0 t
    obtain ⟨q2, z1, z2, z3⟩ := ih (i + 1) (wa F c M N i 9 0 t) (a5 + 1) q1 (mm_inc1 h1 (by omega)) (by omega) (by omega) y3 (mr_fq hm y2)
    refine ⟨q2, ?_, fq_trans y2 z2, z3⟩
    rw [show f + (m + 1) + 1 = (f + m + 1) + 1 by omega, x12_who_h47, hx.2.1, if_neg (by rw [le32]; omega)]
    exact Eq.trans y1 z1
end WH
theorem pr_who (v0 v1 : Int32) : mm_pr (mm_Iv mm_LX) (x11_who v0 v1) (x12_who v0 v1) := by
  intro q h
  obtain ⟨F, hw, hb, ⟨hs0, hs6⟩, e6, hx, hd⟩ := mm_think h
  by_cases g : 0 ≤ v1.toInt ∧ v1.toInt ≤ 1
  · have hX : x11_who v0 v1 q = mm_cl (x11_marksRefusal v0 q) (fun r3 q4 => x11_who_j18 v1 r3 q4) := by
      unfold x11_who
      rw [if_neg (by rw [lt32, ti0]; omega), if_pos (by rw [le32, ti1]; omega)]
    rcases marks_ref h v0 with ⟨R, hR, y1, y2⟩ | ⟨k, N, M, q1, hk, hdk, hN, y1, y2, y3, y4, y5⟩
    · refine ⟨R, q, q, ?_, rfl, ?_, h⟩
      · rw [hX, y1, mm_cl_s]
        unfold x11_who_j18
        rw [if_neg (by rcases hR with rfl | rfl | rfl <;> decide)]
      · unfold x12_who
        rw [y2 q (fk_rfl q), mm_cl_s, within_eq, mm_cl_s, mm_i64, tl0, tl1, if_neg (show ¬ mm_p _ = 0 by rw [mm_p0]; exact fun w => w g), y2 q (fk_rfl q), mm_cl_s, y2 q (fk_rfl q), mm_cl_s]
        rcases hR with rfl | rfl | rfl
        · rw [if_pos rfl]
        · rw [if_neg (by decide), if_neg (by decide)]
        · rw [if_neg (by decide), if_neg (by decide)]
    · have k1 : fk q q1 := fk_fr y2 (by decide)
      obtain ⟨m, hm⟩ : ∃ m : Nat, (q.1 8 1).toInt = m := ⟨(q.1 8 1).toInt.toNat, by omega⟩
      have w1 : cw F (q.1 9) (q.1 8 1) q1 := cw_fr hw y2 (by decide) (by decide) (by decide) (by decide)
      have fu : 999 - m + m + 1 = mm_fu := by show _ = 1000; omega
      have fin : ∀ (q2 : mm_Q), fr [12, 13, 14] q1 q2 → x11_who v0 v1 q = some (if v1 = 0 then Int32.ofNat (ww F (q.1 9) M N m 0 (0, -2)).1 else (ww F (q.1 9) M N m 0 (0, -2)).2, q2) → ∃ r q1 q2, x11_who v0 v1 q = some (r, q1) ∧ q1.1 0 = q.1 0 ∧ x12_who v0 v1 q1 = some (r, q2) ∧ mm_Iv mm_LX q2 := by
        intro q2 f2 e
        have k2 : fk q q2 := fk_trans k1 (fk_fr f2 (by decide))
        obtain ⟨u1, u2, u3⟩ := y5 q2 k2
        obtain ⟨q3, z1, z2, z3⟩ := who47_h (M := M) hb hs6 hN hdk hk (a2 := v1) (f := 999 - m) m 0 (0, -2) 0 q2 ti0 (by omega) (by omega) (hx q2 k2) ⟨u2, u3⟩
        rw [fu] at z1
        refine ⟨_, q2, q3, e, by rw [k2.1 0 (by decide)], ?_, hd q2 q3 k2 (fz_fq z2) z3⟩
        unfold x12_who
        rw [u1, mm_cl_s, if_neg (by decide), within_eq, mm_cl_s, mm_i64, tl0, tl1, if_neg (show ¬ mm_p _ = 0 by rw [mm_p0]; exact fun w => w g), u1, mm_cl_s, if_pos (by decide)]
        exact z1
      by_cases c0 : v1 = 0
      · obtain ⟨q2, z1, z2⟩ := many4_h (M := M) hb hs6 hN (f := 999 - m) m 0 (0, -2) 0 q1 ti0 (by omega) (by omega) w1 ⟨y3, y4⟩
        rw [fu] at z1
        have z1 : x6_howManyMay q1 = _ := z1
        refine fin q2 z2 ?_
        rw [hX, y1, mm_cl_s]
        unfold x11_who_j18
        rw [if_pos rfl, if_pos c0, z1, mm_cl_s, if_pos c0]
      · obtain ⟨q2, z1, z2⟩ := first2_h (M := M) hb hs6 hN (f := 999 - m) m 0 0 q1 ti0 (by omega) w1 ⟨y3, y4⟩
        rw [fu] at z1
        have z1 : x6_firstWhoMay q1 = _ := z1
        refine fin q2 z2 ?_
        rw [hX, y1, mm_cl_s]
        unfold x11_who_j18
        rw [if_pos rfl, if_neg c0, z1, mm_cl_s, if_neg c0]
  · refine ⟨-1, q, q, ?_, rfl, ?_, h⟩
    · unfold x11_who x11_who_j9 x11_who_j18
      rw [if_neg (show ¬ (-1 : Int32) = 0 by decide)]
      by_cases c0 : v1 < 0
      · rw [if_pos c0]
      · rw [if_neg c0, if_neg (by
          rw [lt32, ti0] at c0
          rw [le32, ti1]
          omega)]
    · have : ∃ R, x12_rowIs v0 1 q = some (R, q) := by
        rcases marks_ref h v0 with ⟨R, hR, y1, y2⟩ | ⟨k, N, M, q1, hk, hdk, hN, y1, y2, y3, y4, y5⟩
        · exact ⟨R, y2 q (fk_rfl q)⟩
        · exact ⟨1, (y5 q (fk_rfl q)).1⟩
      obtain ⟨R, eR⟩ := this
      unfold x12_who
      rw [eR, mm_cl_s, within_eq, mm_cl_s, mm_i64, tl0, tl1, if_pos (show mm_p _ = 0 by rw [mm_p0]; exact g)]
      by_cases c : R = -1
      · rw [if_pos c]
      · rw [if_neg c]
