/-! what a body on a shelf may be taken for -/
/-- from kind k on, both loops look for v -/
def tk_P (v : Int32) (q : mm_Q) (a : Int32) (q' : mm_Q) (n m : Nat) (k i : Int32) : Prop := (x0_isUnder_h4 n v k i q = some (1, q) ∧ x12_taken_h58 m a v k q' = x12_taken_j75 a v v q') ∨ (x0_isUnder_h4 n v k i q = some (0, q) ∧ x12_taken_h58 m a v k q' = some (-12, q'))
theorem tk_step {v : Int32} {q : mm_Q} {a : Int32} {q' : mm_Q} (ht : ∀ j, q.1 6 j = mm_t6.getD j 0) {k k2 i : Int32} (hi : ¬ (8 : Int32) ≤ i) (h0 : ¬ k < 0) (h8 : ¬ (8 : Int32) ≤ k) (hz : ¬ k ≤ 0) (hin : mm_inb k 8 = true) (e1 : mm_t6.getD k.toNatClampNeg 0 = k2) (e2 : x12_above k q' = some (k2, q')) {n m : Nat} (h : tk_P v q a q' n m k2 (i + 1)) : tk_P v q a q' (n + 1) (m + 1) k i := by
  have kd : x0_isKind k q = some (1, q) := by
    unfold x0_isKind
    rw [if_neg h0, if_neg h8]
  have ea : x0_isUnder_h4 (n + 1) v k i q = if k = v then some (1, q) else x0_isUnder_h4 n v k2 (i + 1) q := by
    rw [x0_isUnder_h4, if_neg hi, kd, mm_cl_s, if_neg (by decide), mm_ck_t hin, ht, e1]
  have eb : x12_taken_h58 (m + 1) a v k q' = if k = v then x12_taken_j75 a v k q' else x12_taken_h58 m a v k2 q' := by
    rw [x12_taken_h58, if_neg hz, e2, mm_cl_s]
  unfold tk_P
  rw [ea, eb]
  by_cases c : k = v
  · rw [if_pos c, if_pos c, c]
    exact Or.inl ⟨rfl, rfl⟩
  · rw [if_neg c, if_neg c]
    exact h
theorem tk_base {v : Int32} {q : mm_Q} {a : Int32} {q' : mm_Q} (ht : ∀ j, q.1 6 j = mm_t6.getD j 0) {i : Int32} (hi : ¬ (8 : Int32) ≤ i) (hj : ¬ (8 : Int32) ≤ i + 1) {n m : Nat} : tk_P v q a q' (n + 2) (m + 1) 0 i := by
  have ea : x0_isUnder_h4 (n + 2) v 0 i q = if 0 = v then some (1, q) else some (0, q) := by
    have kd : x0_isKind 0 q = some (1, q) := rfl
    have kd2 : x0_isKind (-1) q = some (0, q) := rfl
    rw [x0_isUnder_h4, if_neg hi, kd, mm_cl_s, if_neg (by decide), mm_ck_t (by decide), ht, show mm_t6.getD (0 : Int32).toNatClampNeg 0 = -1 by decide, x0_isUnder_h4, if_neg hj, kd2, mm_cl_s, if_pos rfl]
  have eb : x12_taken_h58 (m + 1) a v 0 q' = if 0 = v then x12_taken_j75 a v 0 q' else some (-12, q') := by
    rw [x12_taken_h58, if_pos (show (0 : Int32) ≤ 0 by decide)]
    by_cases c : 0 = v
    · rw [if_pos c, if_pos c]
    · rw [if_neg c, if_neg c]
      unfold x12_taken_j75
      rw [if_neg c]
  unfold tk_P
  rw [ea, eb]
  by_cases c : 0 = v
  · rw [if_pos c, if_pos c, c]
    exact Or.inl ⟨rfl, rfl⟩
  · rw [if_neg c, if_neg c]
    exact Or.inr ⟨rfl, rfl⟩
theorem tk_all {v : Int32} {q : mm_Q} {a : Int32} {q' : mm_Q} (ht : ∀ j, q.1 6 j = mm_t6.getD j 0) {k : Int32} (h0 : 0 ≤ k.toInt) (h7 : k.toInt ≤ 7) : tk_P v q a q' mm_fu mm_fu k 0 := by
  show tk_P v q a q' 1000 1000 k 0
  have b1 : tk_P v q a q' 999 999 0 (0 + 1) := tk_base (n := 997) (m := 998) ht (by decide) (by decide)
  have b2 : tk_P v q a q' 998 998 0 (0 + 1 + 1) := tk_base (n := 996) (m := 997) ht (by decide) (by decide)
  have b3 : tk_P v q a q' 997 997 0 (0 + 1 + 1 + 1) := tk_base (n := 995) (m := 996) ht (by decide) (by decide)
  rcases (show k.toInt = 0 ∨ k.toInt = 1 ∨ k.toInt = 2 ∨ k.toInt = 3 ∨ k.toInt = 4 ∨ k.toInt = 5 ∨ k.toInt = 6 ∨ k.toInt = 7 by omega) with z | z | z | z | z | z | z | z
  · rw [show k = 0 by rw [eq32]; exact z.trans (by decide)]
    exact tk_base (n := 998) (m := 999) ht (by decide) (by decide)
  · rw [show k = 1 by rw [eq32]; exact z.trans (by decide)]
    exact tk_step (n := 999) (m := 999) ht (by decide) (by decide) (by decide) (by decide) (by decide) (by decide) rfl b1
  · rw [show k = 2 by rw [eq32]; exact z.trans (by decide)]
    exact tk_step (n := 999) (m := 999) ht (by decide) (by decide) (by decide) (by decide) (by decide) (by decide) rfl b1
  · rw [show k = 3 by rw [eq32]; exact z.trans (by decide)]
    have c2 : tk_P v q a q' 999 999 2 (0 + 1) := tk_step (n := 998) (m := 998) ht (by decide) (by decide) (by decide) (by decide) (by decide) (by decide) rfl b2
    exact tk_step (n := 999) (m := 999) ht (by decide) (by decide) (by decide) (by decide) (by decide) (by decide) rfl c2
  · rw [show k = 4 by rw [eq32]; exact z.trans (by decide)]
    have c2 : tk_P v q a q' 999 999 1 (0 + 1) := tk_step (n := 998) (m := 998) ht (by decide) (by decide) (by decide) (by decide) (by decide) (by decide) rfl b2
    exact tk_step (n := 999) (m := 999) ht (by decide) (by decide) (by decide) (by decide) (by decide) (by decide) rfl c2
  · rw [show k = 5 by rw [eq32]; exact z.trans (by decide)]
    have c1 : tk_P v q a q' 998 998 2 (0 + 1 + 1) := tk_step (n := 997) (m := 997) ht (by decide) (by decide) (by decide) (by decide) (by decide) (by decide) rfl b3
    have c2 : tk_P v q a q' 999 999 3 (0 + 1) := tk_step (n := 998) (m := 998) ht (by decide) (by decide) (by decide) (by decide) (by decide) (by decide) rfl c1
    exact tk_step (n := 999) (m := 999) ht (by decide) (by decide) (by decide) (by decide) (by decide) (by decide) rfl c2
  · rw [show k = 6 by rw [eq32]; exact z.trans (by decide)]
    exact tk_step (n := 999) (m := 999) ht (by decide) (by decide) (by decide) (by decide) (by decide) (by decide) rfl b1
  · rw [show k = 7 by rw [eq32]; exact z.trans (by decide)]
    have c1 : tk_P v q a q' 998 998 1 (0 + 1 + 1) := tk_step (n := 997) (m := 997) ht (by decide) (by decide) (by decide) (by decide) (by decide) (by decide) rfl b3
    have c2 : tk_P v q a q' 999 999 4 (0 + 1) := tk_step (n := 998) (m := 998) ht (by decide) (by decide) (by decide) (by decide) (by decide) (by decide) rfl c1
    exact tk_step (n := 999) (m := 999) ht (by decide) (by decide) (by decide) (by decide) (by decide) (by decide) rfl c2
theorem mm_isEmpty (h : Nat) (q : mm_Q) : x8_isEmpty h q = some (mm_p (q.1 h 1 = 0), q) := by
  unfold x8_isEmpty mm_p
  split <;> rfl
theorem mm_isTry (h : Nat) (q : mm_Q) : x8_isTry h q = some (mm_p (q.1 h 1 = 1), q) := by
  unfold x8_isTry mm_p
  split <;> rfl
section IV
variable {LR : mm_LR}
theorem pr_taken (v0 v1 : Int32) : mm_pr (mm_Iv LR) (x11_taken v0 v1) (x12_taken v0 v1) := by
  intro q h
  obtain ⟨h1, h2, h3, h4, h5, h6, h7, h8, h9, h10⟩ := id h
  obtain ⟨⟨t1, t2⟩, -, t4, -⟩ := h7
  rcases mm_shf_at v0 with ⟨e, hn⟩ | ⟨k, hk, hd, e⟩
  · refine ⟨-1, q, q, ?_, rfl, ?_, h⟩
    · unfold x11_taken x11_shelfAt
      rw [mm_cl_s, e]
      rfl
    · unfold x12_taken
      rw [isShelf_eq, mm_cl_s, if_pos (by rw [mm_p0]; exact hn)]
  · have hs := iv_shf_all.mp h8 k hk
    have hin : mm_inb v0 6 = true := mm_inb_c hd hk
    have hx : x11_taken v0 v1 q = mm_cl (x0_isKind v1 q) (fun r5 q6 => (if r5 = 0 then (some ((-1), q6)) else (mm_cl (x8_isEmpty (16 + 2 * k) q6) (fun r8 q9 => (if r8 = 0 then (mm_cl (x8_isTry (16 + 2 * k) q9) (fun r11 q12 => (if r11 = 0 then (some ((-12), q12)) else (mm_cl (x8_heldBody (16 + 2 * k) q12) (fun r14 q15 => (mm_cl (x0_kindOf r14 q15) (fun r16 q17 => (mm_cl (x0_isUnder r16 v1 q17) (fun r18 q19 => (if r18 = 0 then (some ((-12), q19)) else (some (r16, q19)))))))))))) else (some ((-11), q9))))))) := by
      unfold x11_taken x11_shelfAt
      rw [mm_cl_s, e]
      show mm_ck (mm_shb (16 + 2 * k)) _ = _
      rw [mm_ck_t (mm_shb_k hk)]
    by_cases c : 0 ≤ v1.toInt ∧ v1.toInt ≤ 7
    · have hy : x12_taken v0 v1 q = if 0 ≤ q.1 71 k then (if q.1 71 k < 50 then mm_cl (x12_kindOf (q.1 71 k) q) (fun r12 q13 => x12_taken_h58 mm_fu v0 v1 r12 q13) else some (-12, q)) else some (-11, q) := by
        unfold x12_taken
        rw [isShelf_eq, mm_cl_s, if_neg (by rw [mm_p0]; omega), within_eq, mm_cl_s, if_neg (by rw [mm_p0, mm_i64, tl0, tl7]; omega), mm_ck_t hin, mm_tcn hd, mm_ck_t hin, mm_ck_t hin]
      have hx2 := hx
      rw [mm_isKind, mm_cl_s, if_neg (by rw [mm_p0]; omega), mm_isEmpty, mm_cl_s] at hx2
      rcases hs with ⟨g1, g2, -⟩ | ⟨g1, g2, g3, -⟩ | ⟨g1, g3, g4, -⟩
      · refine ⟨-11, q, q, ?_, rfl, ?_, h⟩
        · rw [hx2, if_neg (by rw [mm_p0]; exact fun w => w g1)]
        · rw [hy, g2, if_neg (by decide)]
      · obtain ⟨n, hb⟩ : ∃ n : Nat, (q.1 (16 + 2 * k) 2).toInt = n := ⟨(q.1 (16 + 2 * k) 2).toInt.toNat, by omega⟩
        obtain ⟨u1, u2, u3⟩ := t4 n (by omega)
        have hib : mm_inb (q.1 (16 + 2 * k) 2) 50 = true := mm_inb_c hb (by omega)
        rw [if_pos (by rw [mm_p0, g1]; decide), mm_isTry, mm_cl_s, if_neg (by rw [mm_p0]; exact fun w => w g1)] at hx2
        have hko : x0_kindOf (q.1 (16 + 2 * k) 2) q = some (q.1 50 n, q) := by
          unfold x0_kindOf
          rw [mm_isBody, mm_cl_s, if_neg (by rw [mm_p0]; omega), if_neg (by rw [le32, ti50]; omega), mm_ck_t hib, mm_tcn hb]
        have hx3 : x11_taken v0 v1 q = mm_cl (x0_isUnder (q.1 50 n) v1 q) (fun r18 q19 => if r18 = 0 then some (-12, q19) else some (q.1 50 n, q19)) := by
          rw [hx2]
          unfold x8_heldBody
          rw [mm_cl_s, hko, mm_cl_s]
        have hk12 : x12_kindOf (q.1 (16 + 2 * k) 2) q = some (q.1 50 n, q) := by
          unfold x12_kindOf
          rw [mm_ck_t hib, mm_tcn hb, u1]
        rw [g2, if_pos (by rw [le32, ti0]; omega), if_pos (by rw [lt32, ti50]; omega), hk12, mm_cl_s] at hy
        unfold x0_isUnder at hx3
        rcases (show tk_P v1 q v0 q mm_fu mm_fu (q.1 50 n) 0 from tk_all h1.2.2.2.2.1 u2 u3) with ⟨w1, w2⟩ | ⟨w1, w2⟩
        · refine ⟨q.1 50 n, q, q, ?_, rfl, ?_, h⟩
          · rw [hx3, w1, mm_cl_s, if_neg (by decide)]
          · rw [hy, w2]
            unfold x12_taken_j75
            rw [if_pos rfl, mm_ck_t hin, mm_tcn hd, g2, hk12, mm_cl_s]
        · refine ⟨-12, q, q, ?_, rfl, ?_, h⟩
          · rw [hx3, w1, mm_cl_s, if_pos rfl]
          · rw [hy, w2]
      · have e5 : (50 + q.1 (16 + 2 * k) 3).toInt = 50 + (q.1 (16 + 2 * k) 3).toInt := by rw [mm_add_ti (by rw [ti50]; omega) (by rw [ti50]; omega), ti50]
        refine ⟨-12, q, q, ?_, rfl, ?_, h⟩
        · rw [hx2, if_pos (by rw [mm_p0, g1]; decide), mm_isTry, mm_cl_s, if_pos (by rw [mm_p0, g1]; decide)]
        · rw [hy, g4, if_pos (by rw [le32, ti0]; omega), if_neg (by rw [lt32, ti50]; omega)]
    · refine ⟨-1, q, q, ?_, rfl, ?_, h⟩
      · rw [hx, mm_isKind, mm_cl_s, if_pos (by rw [mm_p0]; exact c)]
      · unfold x12_taken
        rw [isShelf_eq, mm_cl_s, if_neg (by rw [mm_p0]; omega), within_eq, mm_cl_s, if_pos (by rw [mm_p0, mm_i64, tl0, tl7]; exact c)]
end IV
