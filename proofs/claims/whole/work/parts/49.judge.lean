/-! judged; who; ahead -/
theorem sa11_eq (a : Int32) (q : mm_Q) : x11_isSpitterAndAngle a q = some (mm_p (0 ≤ a.toInt ∧ a.toInt / 10 < (q.1 8 1).toInt ∧ a.toInt % 10 < 9), q) := by
  unfold x11_isSpitterAndAngle
  by_cases h : a < 0
  · rw [if_pos h]
    rw [lt32, ti0] at h
    unfold mm_p
    rw [if_neg (by omega)]
  · rw [if_neg h, isSpitter4_eq, mm_cl_s]
    rw [lt32, ti0] at h
    have e1 : (a / 10).toInt = a.toInt / 10 := by rw [div_ti (by omega) (by decide), ti10]
    have e2 : (mm_rem a 10).toInt = a.toInt % 10 := by rw [rem_ti (by omega) (by decide), ti10]
    have e3 : 0 ≤ a.toInt / 10 := Int.ediv_nonneg (by omega) (by omega)
    simp only [mm_p0, le32, e1, e2, ti9]
    unfold mm_p
    repeat' split
    all_goals first | rfl | (exfalso; omega)
theorem sa12_eq (a : Int32) {q : mm_Q} (h0 : 0 ≤ (q.1 52 6).toInt) : x12_isSa a q = some (mm_p (0 ≤ a.toInt ∧ a.toInt / 10 < (q.1 52 6).toInt ∧ a.toInt % 10 < 9), q) := by
  unfold x12_isSa
  by_cases h : a < 0
  · rw [if_pos h]
    rw [lt32, ti0] at h
    unfold mm_p
    rw [if_neg (by omega)]
  · rw [if_neg h, isSpitter12_eq h0, mm_cl_s, mm_i64]
    rw [lt32, ti0] at h
    have e1 : (a / 10).toInt = a.toInt / 10 := by rw [div_ti (by omega) (by decide), ti10]
    have e2 : (mm_rem a 10).toInt = a.toInt % 10 := by rw [rem_ti (by omega) (by decide), ti10]
    have e3 : 0 ≤ a.toInt / 10 := Int.ediv_nonneg (by omega) (by omega)
    simp only [mm_p0, le32, e1, e2, ti9]
    unfold mm_p
    repeat' split
    all_goals first | rfl | (exfalso; omega)
theorem pr_judge (v0 v1 : Int32) : mm_pr (mm_Iv mm_LX) (x11_judge v0 v1) (x12_judge v0 v1) := by
  intro q h
  obtain ⟨F, hw, hb, ⟨hs0, hs6⟩, e6, hx, hd⟩ := mm_think h
  have f52 : ∀ q1, fk q q1 → q1.1 52 6 = q.1 8 1 := fun q1 f1 => by rw [f1.1 52 (by decide)]; exact e6
  by_cases g : 0 ≤ v1.toInt ∧ v1.toInt / 10 < (q.1 8 1).toInt ∧ v1.toInt % 10 < 9
  · have e1 : (v1 / 10).toInt = (((v1.toInt / 10).toNat : Nat) : Int) := by rw [div_ti (by omega) (by decide), ti10]; omega
    have hX : x11_judge v0 v1 q = mm_cl (x11_marksRefusal v0 q) (fun r4 q5 => x11_judge_j17 v1 r4 q5) := by
      unfold x11_judge
      rw [sa11_eq, mm_cl_s, if_neg (by rw [mm_p0]; exact fun w => w g)]
    rcases marks_ref h v0 with ⟨R, hR, y1, y2⟩ | ⟨k, N, M, q1, hk, hdk, hN, y1, y2, y3, y4, y5⟩
    · refine ⟨R, q, q, ?_, rfl, ?_, h⟩
      · rw [hX, y1, mm_cl_s]
        unfold x11_judge_j17
        rw [if_neg (by rcases hR with rfl | rfl | rfl <;> decide)]
      · unfold x12_judge
        rw [y2 q (fk_rfl q), mm_cl_s, sa12_eq v1 (by rw [e6]; exact hs0), mm_cl_s, e6, if_neg (show ¬ mm_p _ = 0 by rw [mm_p0]; exact fun w => w g), y2 q (fk_rfl q), mm_cl_s, y2 q (fk_rfl q), mm_cl_s]
        rcases hR with rfl | rfl | rfl
        · rw [if_pos rfl]
        · rw [if_neg (by decide), if_neg (by decide)]
        · rw [if_neg (by decide), if_neg (by decide)]
    · have k1 : fk q q1 := fk_fr y2 (by decide)
      obtain ⟨q2, z1, z2⟩ := unlike_eq (F := F) (M := M) hb hs6 e1 (by omega) hN (mm_rem v1 10) 0 (cw_fr hw y2 (by decide) (by decide) (by decide) (by decide)) y3 y4
      have k2 : fk q q2 := fk_trans k1 (fk_fr z2 (by decide))
      obtain ⟨u1, u2, u3⟩ := y5 q2 k2
      obtain ⟨q3, w1, w2, w3⟩ := false_eq hb e1 (by omega) hdk hk hN (mm_rem v1 10) 0 (hx q2 k2) u2 u3
      refine ⟨ffn F (q.1 9) M (v1.toInt / 10).toNat (mm_rem v1 10) 0 N 0, q2, q3, ?_, by rw [k2.1 0 (by decide)], ?_, hd q2 q3 k2 (fz_fq w2) w3⟩
      · rw [hX, y1, mm_cl_s]
        unfold x11_judge_j17
        rw [if_pos rfl, z1, mm_cl_s]
      · unfold x12_judge
        rw [u1, mm_cl_s, if_neg (by decide), sa12_eq v1 (by rw [f52 q2 k2]; exact hs0), mm_cl_s, f52 q2 k2, if_neg (show ¬ mm_p _ = 0 by rw [mm_p0]; exact fun w => w g), u1, mm_cl_s, if_pos (by decide), w1, mm_cl_s]
  · refine ⟨-1, q, q, ?_, rfl, ?_, h⟩
    · unfold x11_judge x11_judge_j17
      rw [sa11_eq, mm_cl_s, if_pos (by rw [mm_p0]; exact g), if_neg (by decide)]
    · have : ∃ R, x12_rowIs v0 1 q = some (R, q) := by
        rcases marks_ref h v0 with ⟨R, hR, y1, y2⟩ | ⟨k, N, M, q1, hk, hdk, hN, y1, y2, y3, y4, y5⟩
        · exact ⟨R, y2 q (fk_rfl q)⟩
        · exact ⟨1, (y5 q (fk_rfl q)).1⟩
      obtain ⟨R, eR⟩ := this
      unfold x12_judge
      rw [eR, mm_cl_s, sa12_eq v1 (by rw [e6]; exact hs0), mm_cl_s, e6, if_pos (show mm_p _ = 0 by rw [mm_p0]; exact g)]
      by_cases c : R = -1
      · rw [if_pos c]
      · rw [if_neg c]
/-- the least count ahead, from j on -/
def la (F : mm_F) (c : Nat → Int32) (M : Nat → Int64) (p : Nat) (a : Int32) (N : Nat) : Nat → Nat → Int32
  | 0, _ => -2
  | m + 1, j => if ffn F c M p a (Int32.ofNat j) N 0 = -2 then Int32.ofNat j else la F c M p a N m (j + 1)
theorem ti99n : (99 : Int32).toInt = ((99 : Nat) : Int) := by decide
section LA
variable {F : mm_F} {c : Nat → Int32} {sp : Int32} {a1 : Int32} {p N : Nat} {M : Nat → Int64}
theorem least11_h (hb : bd sp c) (hs6 : sp.toInt ≤ 6) (hp : a1.toInt = p) (hps : (p : Int) < sp.toInt) (hN : N ≤ 60) (a : Int32) {f : Nat} : ∀ (m j : Nat) (a3 : Int32) (q : mm_Q), a3.toInt = j → j + m = 100 → cw F c sp q → (q.1 44 3).toInt = N → (∀ i, i < N → (q.1 45 i).toInt = (M i).toInt) → ∃ q', x6_leastAhead_h2 (f + m + 1) a1 a a3 q = some (la F c M p a N m j, q') ∧ fr [12, 13, 14] q q' := by
  intro m
  induction m with
  | zero =>
    intro j a3 q h1 h2 hx h3 h4
    refine ⟨q, ?_, fr_rfl _ _⟩
    rw [x6_leastAhead_h2, if_pos (by rw [lt32, ti99]; omega)]
    rfl
  | succ m ih =>
    intro j a3 q h1 h2 hx h3 h4
    obtain ⟨q1, y1, y2⟩ := unlike_eq hb hs6 hp hps hN a a3 hx h3 h4
    have e : x6_leastAhead_h2 (f + (m + 1) + 1) a1 a a3 q = if ffn F c M p a (Int32.ofNat j) N 0 = -2 then some (a3, q1) else x6_leastAhead_h2 (f + m + 1) a1 a (a3 + 1) q1 := by
      rw [show f + (m + 1) + 1 = (f + m + 1) + 1 by omega, x6_leastAhead_h2, if_neg (by rw [lt32, ti99]; omega), y1, mm_cl_s, ← mm_ofn h1]
    rw [e]
    show ∃ q', _ = some ((if ffn F c M p a (Int32.ofNat j) N 0 = -2 then Int32.ofNat j else la F c M p a N m (j + 1)), q') ∧ _
    by_cases z : ffn F c M p a (Int32.ofNat j) N 0 = -2
    · rw [if_pos z, if_pos z, ← mm_ofn h1]
      exact ⟨q1, rfl, y2⟩
    · rw [if_neg z, if_neg z]
      obtain ⟨q2, z1, z2⟩ := ih (j + 1) (a3 + 1) q1 (mm_inc1 h1 (by omega)) (by omega) (cw_fr hx y2 (by decide) (by decide) (by decide) (by decide)) (by rw [y2.2 44 (by decide)]; exact h3) (fun i hi => by rw [y2.2 45 (by decide)]; exact h4 i hi)
      exact ⟨q2, z1, fr_trans y2 z2⟩
theorem least12_h (hb : bd sp c) {v1 : Int32} (hp : (v1 / 10).toInt = p) (h6 : p < 6) {d : Int32} {kd : Nat} (hd : d.toInt = kd) (hk : kd < 6) (hN : N ≤ 60) {f : Nat} : ∀ (m j : Nat) (a3 : Int32) (q : mm_Q), a3.toInt = j → j + m = 100 → rx F c sp 0 q → (q.1 72 kd).toInt = N → (∀ i, i < N → q.2 73 (60 * kd + i) = M i) → ∃ q', x12_ahead_h38 (f + m + 1) d v1 a3 q = some (la F c M p (mm_rem v1 10) N m j, q') ∧ fq q q' ∧ rx F c sp 0 q' := by
  intro m
  induction m with
  | zero =>
    intro j a3 q h1 h2 hx h3 h4
    refine ⟨q, ?_, fq_rfl _, hx⟩
    rw [x12_ahead_h38, if_pos (by rw [lt32, ti99]; omega)]
    rfl
  | succ m ih =>
    intro j a3 q h1 h2 hx h3 h4
    obtain ⟨q1, y1, y2, y3⟩ := false_eq hb hp h6 hd hk hN (mm_rem v1 10) a3 hx h3 h4
    have e : x12_ahead_h38 (f + (m + 1) + 1) d v1 a3 q = if ffn F c M p (mm_rem v1 10) (Int32.ofNat j) N 0 = -2 then some (a3, q1) else x12_ahead_h38 (f + m + 1) d v1 (a3 + 1) q1 := by
      rw [show f + (m + 1) + 1 = (f + m + 1) + 1 by omega, x12_ahead_h38, if_neg (by rw [lt32, ti99]; omega), y1, mm_cl_s, ← mm_ofn h1]
    rw [e]
    show ∃ q', _ = some ((if ffn F c M p (mm_rem v1 10) (Int32.ofNat j) N 0 = -2 then Int32.ofNat j else la F c M p (mm_rem v1 10) N m (j + 1)), q') ∧ _
    by_cases z : ffn F c M p (mm_rem v1 10) (Int32.ofNat j) N 0 = -2
    · rw [if_pos z, if_pos z, ← mm_ofn h1]
      exact ⟨q1, rfl, y2, y3⟩
    · rw [if_neg z, if_neg z]
      obtain ⟨q2, z1, z2, z3⟩ := ih (j + 1) (a3 + 1) q1 (mm_inc1 h1 (by omega)) (by omega) y3 (by rw [y2.1.2 72 (by decide)]; exact h3) (fun i hi => by rw [y2.1.1]; exact h4 i hi)
      exact ⟨q2, z1, fq_trans y2 z2, z3⟩
end LA
theorem pr_ahead (v0 v1 : Int32) : mm_pr (mm_Iv mm_LX) (x11_ahead v0 v1) (x12_ahead v0 v1) := by
  intro q h
  obtain ⟨F, hw, hb, ⟨hs0, hs6⟩, e6, hx, hd⟩ := mm_think h
  have f52 : ∀ q1, fk q q1 → q1.1 52 6 = q.1 8 1 := fun q1 f1 => by rw [f1.1 52 (by decide)]; exact e6
  by_cases g : 0 ≤ v1.toInt ∧ v1.toInt / 10 < (q.1 8 1).toInt ∧ v1.toInt % 10 < 9
  · have e1 : (v1 / 10).toInt = (((v1.toInt / 10).toNat : Nat) : Int) := by rw [div_ti (by omega) (by decide), ti10]; omega
    have hX : x11_ahead v0 v1 q = mm_cl (x11_marksRefusal v0 q) (fun r4 q5 => x11_ahead_j17 v1 r4 q5) := by
      unfold x11_ahead
      rw [sa11_eq, mm_cl_s, if_neg (by rw [mm_p0]; exact fun w => w g)]
    rcases marks_ref h v0 with ⟨R, hR, y1, y2⟩ | ⟨k, N, M, q1, hk, hdk, hN, y1, y2, y3, y4, y5⟩
    · refine ⟨R, q, q, ?_, rfl, ?_, h⟩
      · rw [hX, y1, mm_cl_s]
        unfold x11_ahead_j17
        rw [if_neg (by rcases hR with rfl | rfl | rfl <;> decide)]
      · unfold x12_ahead
        rw [y2 q (fk_rfl q), mm_cl_s, sa12_eq v1 (by rw [e6]; exact hs0), mm_cl_s, e6, if_neg (show ¬ mm_p _ = 0 by rw [mm_p0]; exact fun w => w g), y2 q (fk_rfl q), mm_cl_s, y2 q (fk_rfl q), mm_cl_s]
        rcases hR with rfl | rfl | rfl
        · rw [if_pos rfl]
        · rw [if_neg (by decide), if_neg (by decide)]
        · rw [if_neg (by decide), if_neg (by decide)]
    · have k1 : fk q q1 := fk_fr y2 (by decide)
      obtain ⟨q2, z1, z2⟩ := least11_h (F := F) (M := M) hb hs6 e1 (by omega) hN (mm_rem v1 10) (f := 899) 100 0 0 q1 ti0 (by omega) (cw_fr hw y2 (by decide) (by decide) (by decide) (by decide)) y3 y4
      have k2 : fk q q2 := fk_trans k1 (fk_fr z2 (by decide))
      obtain ⟨u1, u2, u3⟩ := y5 q2 k2
      obtain ⟨q3, w1, w2, w3⟩ := least12_h hb e1 (by omega) hdk hk hN (f := 899) 100 0 0 q2 ti0 (by omega) (hx q2 k2) u2 u3
      have z1 : x6_leastAhead (v1 / 10) (mm_rem v1 10) q1 = _ := z1
      have w1 : x12_ahead_h38 mm_fu v0 v1 0 q2 = _ := w1
      refine ⟨la F (q.1 9) M (v1.toInt / 10).toNat (mm_rem v1 10) N 100 0, q2, q3, ?_, by rw [k2.1 0 (by decide)], ?_, hd q2 q3 k2 (fz_fq w2) w3⟩
      · rw [hX, y1, mm_cl_s]
        unfold x11_ahead_j17
        rw [if_pos rfl, z1, mm_cl_s]
      · unfold x12_ahead
        rw [u1, mm_cl_s, if_neg (by decide), sa12_eq v1 (by rw [f52 q2 k2]; exact hs0), mm_cl_s, f52 q2 k2, if_neg (show ¬ mm_p _ = 0 by rw [mm_p0]; exact fun w => w g), u1, mm_cl_s, if_pos (by decide), w1]
  · refine ⟨-1, q, q, ?_, rfl, ?_, h⟩
    · unfold x11_ahead x11_ahead_j17
      rw [sa11_eq, mm_cl_s, if_pos (by rw [mm_p0]; exact g), if_neg (by decide)]
    · have : ∃ R, x12_rowIs v0 1 q = some (R, q) := by
        rcases marks_ref h v0 with ⟨R, hR, y1, y2⟩ | ⟨k, N, M, q1, hk, hdk, hN, y1, y2, y3, y4, y5⟩
        · exact ⟨R, y2 q (fk_rfl q)⟩
        · exact ⟨1, (y5 q (fk_rfl q)).1⟩
      obtain ⟨R, eR⟩ := this
      unfold x12_ahead
      rw [eR, mm_cl_s, sa12_eq v1 (by rw [e6]; exact hs0), mm_cl_s, e6, if_pos (show mm_p _ = 0 by rw [mm_p0]; exact g)]
      by_cases c : R = -1
      · rw [if_pos c]
      · rw [if_neg c]
