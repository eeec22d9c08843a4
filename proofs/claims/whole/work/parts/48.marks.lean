/-! marks read back -/
/-- the first mark that is not so, from place j on, m of them -/
def ffn (F : mm_F) (c : Nat → Int32) (M : Nat → Int64) (p : Nat) (a k : Int32) : Nat → Nat → Int32
  | 0, _ => -2
  | m + 1, j => if (stp c (LN F (GL c p (j % 9) (k + Int32.ofNat j) 0) a 0)).toInt = (M j).toInt then ffn F c M p a k m (j + 1) else Int32.ofNat j
theorem rem9 {a : Int32} {j : Nat} (h : a.toInt = j) : (mm_rem a 9).toInt = ((j % 9 : Nat) : Int) := by
  rw [rem_ti (by omega) (by decide), h, ti9]
  omega
section MK
variable {F : mm_F} {c : Nat → Int32} {sp : Int32} {a1 : Int32} {p N : Nat} {M : Nat → Int64}
theorem unlike_h (hb : bd sp c) (hs6 : sp.toInt ≤ 6) (hp : a1.toInt = p) (hps : (p : Int) < sp.toInt) (hN : N ≤ 60) (a k : Int32) {f : Nat} : ∀ (m j : Nat) (a4 : Int32) (q : mm_Q), a4.toInt = j → j + m = N → cw F c sp q → (q.1 44 3).toInt = N → (∀ i, i < N → (q.1 45 i).toInt = (M i).toInt) → ∃ q', x6_firstUnlike_h3 (f + m + 1) a1 a k a4 q = some (ffn F c M p a k m j, q') ∧ fr [12, 13, 14] q q' := by
  intro m
  induction m with
  | zero =>
    intro j a4 q h1 h2 hx h3 h4
    refine ⟨q, ?_, fr_rfl _ _⟩
    rw [x6_firstUnlike_h3, if_pos (by rw [le32]; omega)]
    rfl
  | succ m ih =>
    intro j a4 q h1 h2 hx h3 h4
    obtain ⟨q1, q2, y1, y2, y3, y4⟩ := take_land hx hb hs6 hp hps (rem9 h1) (Nat.mod_lt _ (by omega)) (k + a4) a 0
    rw [mm_ofn h1] at y2
    have e : x6_firstUnlike_h3 (f + (m + 1) + 1) a1 a k a4 q = if stp c (LN F (GL c p (j % 9) (k + Int32.ofNat j) 0) a 0) = q2.1 45 j then x6_firstUnlike_h3 (f + m + 1) a1 a k (a4 + 1) q2 else some (a4, q2) := by
      rw [show f + (m + 1) + 1 = (f + m + 1) + 1 by omega, x6_firstUnlike_h3, if_neg (by rw [le32]; omega), if_neg (by rw [le32, ti60]; omega), y1, mm_cl_s, y2, mm_cl_s, stopOf_eq, mm_cl_s, mm_ck_t (mm_inb_c h1 (by omega)), mm_tcn h1, y4.1]
    have g45 : (q2.1 45 j).toInt = (M j).toInt := by rw [y3.2 45 (by decide)]; exact h4 j (by omega)
    rw [e]
    show ∃ q', _ = some ((if (stp c (LN F (GL c p (j % 9) (k + Int32.ofNat j) 0) a 0)).toInt = (M j).toInt then ffn F c M p a k m (j + 1) else Int32.ofNat j), q') ∧ _
    by_cases z : stp c (LN F (GL c p (j % 9) (k + Int32.ofNat j) 0) a 0) = q2.1 45 j
    · obtain ⟨q3, z1, z2⟩ := ih (j + 1) (a4 + 1) q2 (mm_inc1 h1 (by omega)) (by omega) y4 (by rw [y3.2 44 (by decide)]; exact h3) (fun i hi => by rw [y3.2 45 (by decide)]; exact h4 i hi)
      refine ⟨q3, ?_, fr_trans y3 z2⟩
      rw [if_pos z, if_pos (by rw [z]; exact g45)]
      exact z1
    · refine ⟨q2, ?_, y3⟩
      rw [if_neg z, if_neg (fun w => z (by rw [eq32, w, g45])), ← mm_ofn h1]
theorem unlike_eq (hb : bd sp c) (hs6 : sp.toInt ≤ 6) (hp : a1.toInt = p) (hps : (p : Int) < sp.toInt) (hN : N ≤ 60) (a k : Int32) {q : mm_Q} (hx : cw F c sp q) (h3 : (q.1 44 3).toInt = N) (h4 : ∀ i, i < N → (q.1 45 i).toInt = (M i).toInt) : ∃ q', x6_firstUnlike a1 a k q = some (ffn F c M p a k N 0, q') ∧ fr [12, 13, 14] q q' := by
  obtain ⟨q', e, f⟩ := unlike_h hb hs6 hp hps hN a k (f := 999 - N) N 0 0 q ti0 (by omega) hx h3 h4
  rw [show 999 - N + N + 1 = mm_fu by show _ = 1000; omega] at e
  exact ⟨q', e, f⟩
theorem false_h (hb : bd sp c) (hp : a1.toInt = p) (h6 : p < 6) {d : Int32} {kd : Nat} (hd : d.toInt = kd) (hk : kd < 6) (hN : N ≤ 60) (a k : Int32) {f : Nat} : ∀ (m j : Nat) (a4 : Int32) (q : mm_Q), a4.toInt = j → j + m = N → rx F c sp 0 q → (q.1 72 kd).toInt = N → (∀ i, i < N → q.2 73 (60 * kd + i) = M i) → ∃ q', x12_firstFalse_h3 (f + m + 1) d a1 a k a4 q = some (ffn F c M p a k m j, q') ∧ fq q q' ∧ rx F c sp 0 q' := by
  intro m
  induction m with
  | zero =>
    intro j a4 q h1 h2 hx h3 h4
    refine ⟨q, ?_, fq_rfl _, hx⟩
    rw [x12_firstFalse_h3, mm_ck_t (mm_inb_c hd hk), mm_tcn hd, if_pos (by rw [le32]; omega)]
    rfl
  | succ m ih =>
    intro j a4 q h1 h2 hx h3 h4
    obtain ⟨q1, y1, y2, y3⟩ := landsAt_eq hx hp h6 (rem9 h1) (Nat.mod_lt _ (by omega)) (k + a4) a 0
    rw [mm_ofn h1] at y1
    have e60 : ((60 : Int32) * d + a4).toInt = ((60 * kd + j : Nat) : Int) := by
      have e0 : ((60 : Int32) * d).toInt = ((60 * kd : Nat) : Int) := mm_lin0 (m := 60) hd ti60 (by omega)
      rw [mm_add_ti (by omega) (by omega)]
      omega
    have it : x12_itemAt d a4 q = some (M j, q) := by
      unfold x12_itemAt
      rw [mm_ck_t (mm_inb_c e60 (by omega)), mm_tcn e60, h4 j (by omega)]
    have sr := stp_rng hb (LN_rng F (GL c p (j % 9) (k + Int32.ofNat j) 0) a 0).1 (LN_rng F (GL c p (j % 9) (k + Int32.ofNat j) 0) a 0).2
    have e : x12_firstFalse_h3 (f + (m + 1) + 1) d a1 a k a4 q = if (stp c (LN F (GL c p (j % 9) (k + Int32.ofNat j) 0) a 0)).toInt = (M j).toInt then x12_firstFalse_h3 (f + m + 1) d a1 a k (a4 + 1) q1 else some (a4, q1) := by
      rw [show f + (m + 1) + 1 = (f + m + 1) + 1 by omega, x12_firstFalse_h3, mm_ck_t (mm_inb_c hd hk), mm_tcn hd, if_neg (by rw [le32]; omega), it, mm_cl_s, mm_ofn h1, y1, mm_cl_s, stopsFrom_eq hb (LN_rng _ _ _ _).1 (LN_rng _ _ _ _).2 y3.1, mm_cl_s]
      by_cases z : (stp c (LN F (GL c p (j % 9) (k + Int32.ofNat j) 0) a 0)).toInt = (M j).toInt
      · rw [if_pos z, if_pos ((mm_cmp_eq _ _).mpr (by rw [eq64, mm_i64]; exact z.symm))]
      · rw [if_neg z, if_neg (fun w => z (by rw [mm_cmp_eq, eq64, mm_i64] at w; exact w.symm))]
    rw [e]
    show ∃ q', _ = some ((if (stp c (LN F (GL c p (j % 9) (k + Int32.ofNat j) 0) a 0)).toInt = (M j).toInt then ffn F c M p a k m (j + 1) else Int32.ofNat j), q') ∧ _
    by_cases z : (stp c (LN F (GL c p (j % 9) (k + Int32.ofNat j) 0) a 0)).toInt = (M j).toInt
    · obtain ⟨q3, z1, z2, z3⟩ := ih (j + 1) (a4 + 1) q1 (mm_inc1 h1 (by omega)) (by omega) y3 (by rw [y2.1.2 72 (by decide)]; exact h3) (fun i hi => by rw [y2.1.1]; exact h4 i hi)
      refine ⟨q3, ?_, fq_trans y2 z2, z3⟩
      rw [if_pos z, if_pos z]
      exact z1
    · refine ⟨q1, ?_, y2, y3⟩
      rw [if_neg z, if_neg z, ← mm_ofn h1]
theorem false_eq (hb : bd sp c) (hp : a1.toInt = p) (h6 : p < 6) {d : Int32} {kd : Nat} (hd : d.toInt = kd) (hk : kd < 6) (hN : N ≤ 60) (a k : Int32) {q : mm_Q} (hx : rx F c sp 0 q) (h3 : (q.1 72 kd).toInt = N) (h4 : ∀ i, i < N → q.2 73 (60 * kd + i) = M i) : ∃ q', x12_firstFalse d a1 a k q = some (ffn F c M p a k N 0, q') ∧ fq q q' ∧ rx F c sp 0 q' := by
  obtain ⟨q', e, f⟩ := false_h hb hp h6 hd hk hN a k (f := 999 - N) N 0 0 q ti0 (by omega) hx h3 h4
  rw [show 999 - N + N + 1 = mm_fu by show _ = 1000; omega] at e
  exact ⟨q', e, f⟩
end MK
theorem t32_ti {x : Int64} (h0 : -32768 ≤ x.toInt) (h1 : x.toInt ≤ 32767) : (x.toInt32).toInt = x.toInt := by
  rw [Int64.toInt_toInt32, Int.bmod_eq_of_le (by omega) (by omega)]
theorem read_h {q0 : mm_Q} {k N : Nat} (hk : k < 6) (hN : N ≤ 60) {f : Nat} : ∀ (m j : Nat) (a2 : Int32) (q : mm_Q), a2.toInt = j → j + m = N → fr [44, 45] q0 q → (q0.1 (16 + 2 * k) 4).toInt = N → (∀ i : Nat, i < N → -32768 ≤ (q0.2 (17 + 2 * k) i).toInt ∧ (q0.2 (17 + 2 * k) i).toInt ≤ 32767) → (q.1 44 3).toInt = N → (∀ i, i < j → (q.1 45 i).toInt = (q0.2 (17 + 2 * k) i).toInt) → ∃ q', x6_read_h18 (f + m + 1) (16 + 2 * k) a2 q = some ((), q') ∧ fr [44, 45] q0 q' ∧ (q'.1 44 3).toInt = N ∧ ∀ i, i < N → (q'.1 45 i).toInt = (q0.2 (17 + 2 * k) i).toInt := by
  have n16 : (16 + 2 * k) ∉ [44, 45] := by
    rcases (show k = 0 ∨ k = 1 ∨ k = 2 ∨ k = 3 ∨ k = 4 ∨ k = 5 by omega) with rfl | rfl | rfl | rfl | rfl | rfl <;> decide
  intro m
  induction m with
  | zero =>
    intro j a2 q h1 h2 hf hl hr h3 h4
    refine ⟨q, ?_, hf, h3, fun i hi => h4 i (by omega)⟩
    rw [x6_read_h18, if_pos (by rw [le32]; omega)]
  | succ m ih =>
    intro j a2 q h1 h2 hf hl hr h3 h4
    have el : x8_elementAt (16 + 2 * k) a2 q = some (q.2 (16 + 2 * k + 1) j, q) := elementAt_eq (by rw [hf.2 _ n16]; omega) h1 (by rw [hf.2 _ n16]; omega)
    have ev : q.2 (16 + 2 * k + 1) j = q0.2 (17 + 2 * k) j := by rw [hf.1, show 16 + 2 * k + 1 = 17 + 2 * k by omega]
    obtain ⟨q1, z1, z2⟩ := ih (j + 1) (a2 + 1) (mm_si q 45 j (q0.2 (17 + 2 * k) j).toInt32) (mm_inc1 h1 (by omega)) (by omega) (fr_trans hf (fr_si q j _ (by decide))) hl hr h3 (fun i hi => by
      rw [mm_si_self]
      by_cases e : i = j
      · rw [e, upd_self, t32_ti (hr j (by omega)).1 (hr j (by omega)).2]
      · rw [upd_ne _ _ _ e]
        exact h4 i (by omega))
    refine ⟨q1, ?_, z2⟩
    rw [show f + (m + 1) + 1 = (f + m + 1) + 1 by omega, x6_read_h18, if_neg (by rw [le32]; omega), el, mm_cl_s, mm_ck_t (mm_inb_c h1 (by omega)), mm_lt_s, mm_tcn h1, ev]
    exact z1
/-- the marks of a row of shorts, or why not, for both -/
theorem marks_ref {q : mm_Q} (h : mm_Iv mm_LX q) (d : Int32) : (∃ R : Int32, (R = -1 ∨ R = -11 ∨ R = -12) ∧ x11_marksRefusal d q = some (R, q) ∧ ∀ q1, fk q q1 → x12_rowIs d 1 q1 = some (R, q1)) ∨ ∃ (k N : Nat) (M : Nat → Int64) (q1 : mm_Q), k < 6 ∧ d.toInt = k ∧ N ≤ 60 ∧ x11_marksRefusal d q = some (0, q1) ∧ fr [44, 45] q q1 ∧ (q1.1 44 3).toInt = N ∧ (∀ i, i < N → (q1.1 45 i).toInt = (M i).toInt) ∧ ∀ q2, fk q q2 → x12_rowIs d 1 q2 = some (1, q2) ∧ (q2.1 72 k).toInt = N ∧ ∀ i, i < N → q2.2 73 (60 * k + i) = M i := by
  rcases row_ref h (sort := 1) (z := 1) (by decide) (by decide) d with ⟨e1, e2⟩ | ⟨k, hk, hd, e1, hh⟩
  · refine Or.inl ⟨-1, Or.inl rfl, ?_, e2⟩
    unfold x11_marksRefusal
    rw [e1, mm_cl_s]
    rfl
  · rcases hh with ⟨R, hR, e2, e3⟩ | ⟨e2, e3, h4, h5, h6, h7⟩
    · refine Or.inl ⟨R, Or.inr hR, ?_, e3⟩
      unfold x11_marksRefusal
      rw [e1, mm_cl_s]
      show mm_ck (mm_shb (16 + 2 * k)) _ = _
      rw [mm_ck_t (mm_shb_k hk), e2, mm_cl_s, if_neg]
      rcases hR with rfl | rfl <;> decide
    · obtain ⟨N, hN⟩ : ∃ N : Nat, (q.1 (16 + 2 * k) 4).toInt = N := ⟨(q.1 (16 + 2 * k) 4).toInt.toNat, by omega⟩
      have hl : (mm_mn (q.1 (16 + 2 * k) 4) 60).toInt = N := by rw [mn_ti, ti60]; omega
      obtain ⟨q1, y1, y2, y3, y4⟩ := read_h (q0 := q) hk (show N ≤ 60 by omega) (f := 999 - N) N 0 0 (mm_si q 44 3 (mm_mn (q.1 (16 + 2 * k) 4) 60)) ti0 (by omega) (fr_si q 3 _ (by decide)) hN (fun i hi => h7 rfl i (by omega)) (by rw [mm_si_self, upd_self]; exact hl) (fun i hi => absurd hi (Nat.not_lt_zero i))
      refine Or.inr ⟨k, N, q.2 (17 + 2 * k), q1, hk, hd, by omega, ?_, y2, y3, y4, fun q2 f2 => ⟨e3 q2 f2, ?_, fun i hi => ?_⟩⟩
      · unfold x11_marksRefusal x6_read x8_length
        rw [e1, mm_cl_s]
        show mm_ck (mm_shb (16 + 2 * k)) _ = _
        rw [mm_ck_t (mm_shb_k hk), e2, mm_cl_s, if_pos rfl, mm_cl_s, mm_lt_s, show mm_fu = 999 - N + N + 1 by show 1000 = _; omega, y1, mm_cl_s]
      · rw [f2.1 72 (by decide), h5, hN]
      · rw [f2.2 73 (by decide)]
        exact h6 i (by omega)
