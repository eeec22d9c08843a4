/-! pairs of deeds -/
theorem mm_lin {a b c : Int32} {k m n : Nat} (hb : b.toInt = k) (ha : a.toInt = m) (hc : c.toInt = n) (h : m * k + n < 1000) : (a * b + c).toInt = ((m * k + n : Nat) : Int) := by
  have e0 : a.toInt * b.toInt = ((m * k : Nat) : Int) := by rw [ha, hb, Int.natCast_mul]
  have e1 : (a * b).toInt = ((m * k : Nat) : Int) := by rw [mm_mul_ti (by omega) (by omega), e0]
  rw [mm_add_ti (by omega) (by omega), e1, hc, Int.natCast_add]
theorem mm_lin0 {a b : Int32} {k m : Nat} (hb : b.toInt = k) (ha : a.toInt = m) (h : m * k < 1000) : (a * b).toInt = ((m * k : Nat) : Int) := by
  have e0 : a.toInt * b.toInt = ((m * k : Nat) : Int) := by rw [ha, hb, Int.natCast_mul]
  rw [mm_mul_ti (by omega) (by omega), e0]
theorem mm_inc1 {a : Int32} {k : Nat} (h : a.toInt = k) (hk : k < 100000) : (a + 1).toInt = ((k + 1 : Nat) : Int) := by
  rw [mm_add_ti (by rw [ti1]; omega) (by rw [ti1]; omega), ti1]
  omega
theorem rest3_s {n : Nat} {a1 a2 : Int32} {q : mm_Q} {k : Nat} (hk : a2.toInt = k) (h6 : k < 6) : x3_beginAnew_h4 (n + 1) a1 a2 q = x3_beginAnew_h4 n (a1 + q.1 48 (3 * k + 2)) (a2 + 1) (mm_si q 48 (3 * k + 2) 0) := by
  have e := mm_lin (m := 3) (n := 2) hk ti3 ti2 (by omega)
  rw [x3_beginAnew_h4]
  rw [if_neg (by rw [le32, ti6]; omega), mm_ck_t (mm_inb_c e (by omega)), mm_ck_t (mm_inb_c e (by omega)), mm_tcn e, mm_lt_s]
theorem rest3_e {n : Nat} {a1 a2 : Int32} {q : mm_Q} (h : a2.toInt = 6) : x3_beginAnew_h4 (n + 1) a1 a2 q = some (a1, q) := by
  rw [x3_beginAnew_h4]
  rw [if_pos (by rw [le32, ti6]; omega)]
theorem rest12_s {n : Nat} {a1 a2 : Int32} {q : mm_Q} {k : Nat} (hk : a2.toInt = k) (h6 : k < 6) : x12_rest_h4 (n + 1) a1 a2 q = x12_rest_h4 n (a1 + q.1 65 k) (a2 + 1) (mm_si q 65 k 0) := by
  rw [x12_rest_h4]
  rw [if_neg (by rw [le32, ti6]; omega), mm_ck_t (mm_inb_c hk (by omega)), mm_ck_t (mm_inb_c hk (by omega)), mm_tcn hk, mm_lt_s]
theorem rest12_e {n : Nat} {a1 a2 : Int32} {q : mm_Q} (h : a2.toInt = 6) : x12_rest_h4 (n + 1) a1 a2 q = some (a1, q) := by
  rw [x12_rest_h4]
  rw [if_pos (by rw [le32, ti6]; omega)]
section IV
variable {LR : mm_LR}
theorem pr_rest : mm_pr (mm_Iv LR) x11_rest x12_rest := by
  intro q h
  obtain ⟨h1, h2, h3, h4, h5, h6, h7, h8, h9, h10⟩ := h
  obtain ⟨t1, t2, t3⟩ := h5
  refine ⟨((((((0 + q.1 48 2) + q.1 48 5) + q.1 48 8) + q.1 48 11) + q.1 48 14) + q.1 48 17), (mm_si (mm_si (mm_si (mm_si (mm_si (mm_si q 48 2 0) 48 5 0) 48 8 0) 48 11 0) 48 14 0) 48 17 0), (mm_si (mm_si (mm_si (mm_si (mm_si (mm_si (mm_si (mm_si (mm_si (mm_si (mm_si (mm_si q 48 2 0) 48 5 0) 48 8 0) 48 11 0) 48 14 0) 48 17 0) 65 0 0) 65 1 0) 65 2 0) 65 3 0) 65 4 0) 65 5 0), ?_, rfl, ?_, h1, h2, h3, h4, ⟨?_, t2, ?_⟩, h6, h7, h8, h9, h10⟩
  · have e : x3_beginAnew_h4 mm_fu 0 0 q = some (((((((0 + q.1 48 2) + q.1 48 5) + q.1 48 8) + q.1 48 11) + q.1 48 14) + q.1 48 17), (mm_si (mm_si (mm_si (mm_si (mm_si (mm_si q 48 2 0) 48 5 0) 48 8 0) 48 11 0) 48 14 0) 48 17 0)) := by
      show x3_beginAnew_h4 (993 + 1 + 1 + 1 + 1 + 1 + 1 + 1) 0 0 q = _
      rw [rest3_s (k := 0) (by decide) (by decide), rest3_s (k := 1) (by decide) (by decide), rest3_s (k := 2) (by decide) (by decide), rest3_s (k := 3) (by decide) (by decide), rest3_s (k := 4) (by decide) (by decide), rest3_s (k := 5) (by decide) (by decide), rest3_e (by decide)]
      rfl
    unfold x11_rest x3_beginAnew
    rw [e]
    rfl
  · have e : x12_rest_h4 mm_fu 0 0 (mm_si (mm_si (mm_si (mm_si (mm_si (mm_si q 48 2 0) 48 5 0) 48 8 0) 48 11 0) 48 14 0) 48 17 0) = some (0 + q.1 65 0 + q.1 65 1 + q.1 65 2 + q.1 65 3 + q.1 65 4 + q.1 65 5, (mm_si (mm_si (mm_si (mm_si (mm_si (mm_si (mm_si (mm_si (mm_si (mm_si (mm_si (mm_si q 48 2 0) 48 5 0) 48 8 0) 48 11 0) 48 14 0) 48 17 0) 65 0 0) 65 1 0) 65 2 0) 65 3 0) 65 4 0) 65 5 0)) := by
      show x12_rest_h4 (993 + 1 + 1 + 1 + 1 + 1 + 1 + 1) 0 0 (mm_si (mm_si (mm_si (mm_si (mm_si (mm_si q 48 2 0) 48 5 0) 48 8 0) 48 11 0) 48 14 0) 48 17 0) = _
      rw [rest12_s (k := 0) (by decide) (by decide), rest12_s (k := 1) (by decide) (by decide), rest12_s (k := 2) (by decide) (by decide), rest12_s (k := 3) (by decide) (by decide), rest12_s (k := 4) (by decide) (by decide), rest12_s (k := 5) (by decide) (by decide), rest12_e (by decide)]
      rfl
    unfold x12_rest
    rw [e]
    have z0 := (t1 0 (by decide)).2.1
    have z1 := (t1 1 (by decide)).2.1
    have z2 := (t1 2 (by decide)).2.1
    have z3 := (t1 3 (by decide)).2.1
    have z4 := (t1 4 (by decide)).2.1
    have z5 := (t1 5 (by decide)).2.1
    rw [← z0, ← z1, ← z2, ← z3, ← z4, ← z5]
  · intro p hp
    have z := t1 p hp
    rcases (show p = 0 ∨ p = 1 ∨ p = 2 ∨ p = 3 ∨ p = 4 ∨ p = 5 by omega) with rfl | rfl | rfl | rfl | rfl | rfl <;> exact ⟨z.1, rfl, z.2.2⟩
  · intro p hp hs
    have z := t3 p hp hs
    rcases (show p = 0 ∨ p = 1 ∨ p = 2 ∨ p = 3 ∨ p = 4 ∨ p = 5 by omega) with rfl | rfl | rfl | rfl | rfl | rfl <;> exact ⟨rfl, z.2⟩
theorem mm_best_led {b m : Int32} (h : mm_best b m) : (if m = 0 then (-2 : Int32) else m - 1) = b := by
  rcases h with ⟨rfl, rfl⟩ | ⟨h1, h2, h3⟩
  · rfl
  · rw [if_neg (by rw [eq32, ti0]; omega), eq32, mm_sub_ti (by rw [ti1]; omega) (by rw [ti1]; omega), ti1]
    omega
theorem pr_led (v0 v1 : Int32) : mm_pr (mm_Iv LR) (x11_led v0 v1) (x12_led v0 v1) := by
  intro q h
  have hl := h.2.1
  have hs : 0 ≤ (q.1 52 6).toInt := by rw [hl.2.1]; exact hl.1.1
  obtain ⟨t1, t2, t3⟩ := h.2.2.2.2.1
  have hl6 := hl.1.2
  by_cases c1 : 0 ≤ v1.toInt ∧ v1.toInt ≤ 2
  · by_cases c2 : 0 ≤ v0.toInt ∧ v0.toInt < (q.1 8 1).toInt
    · have hn : v0.toInt = (v0.toInt.toNat : Nat) := by omega
      have hk : v1.toInt = (v1.toInt.toNat : Nat) := by omega
      have e := mm_lin (m := 3) hn ti3 hk (by omega)
      have ha : x11_led v0 v1 q = some (q.1 48 (3 * v0.toInt.toNat + v1.toInt.toNat), q) := by
        unfold x11_led x3_ofOne
        rw [if_neg (by rw [lt32, ti0]; omega), if_pos (by rw [le32, ti5]; omega), if_pos (by rw [le32, ti2]; omega), isSpitter4_eq, mm_cl_s, if_neg (by rw [mm_p0]; omega), if_neg (by rw [lt32, ti0]; omega), if_neg (by rw [le32, ti18]; omega), mm_ck_t (mm_inb_c e (by omega)), mm_tcn e]
        rfl
      have hin : mm_inb v0 6 = true := mm_inb_c hn (by omega)
      have z := t1 v0.toInt.toNat (by omega)
      refine ⟨_, q, q, ha, rfl, ?_, h⟩
      unfold x12_led
      rw [within_eq, mm_cl_s, mm_i64, tl0, tl2, if_neg (by rw [mm_p0]; omega), isSpitter12_eq hs, mm_cl_s, mm_i64, hl.2.1, if_neg (by rw [mm_p0]; omega)]
      rcases (show v1.toInt = 0 ∨ v1.toInt = 1 ∨ v1.toInt = 2 by omega) with y | y | y
      · rw [if_pos (by rw [eq32, ti0]; omega), mm_ck_t hin, mm_tcn hn, show v1.toInt.toNat = 0 by omega, ← z.1]
        rfl
      · rw [if_neg (by rw [eq32, ti0]; omega), if_neg (by rw [eq32, ti2]; omega), mm_ck_t hin, mm_ck_t hin, mm_tcn hn, show v1.toInt.toNat = 1 by omega, ← mm_best_led z.2.2, mm_some_ite]
      · rw [if_neg (by rw [eq32, ti0]; omega), if_pos (by rw [eq32, ti2]; omega), mm_ck_t hin, mm_tcn hn, show v1.toInt.toNat = 2 by omega, z.2.1]
    · refine ⟨-1, q, q, ?_, rfl, ?_, h⟩
      · unfold x11_led
        rw [if_neg (by rw [lt32, ti0]; omega), if_pos (by rw [le32, ti5]; omega), if_pos (by rw [le32, ti2]; omega), isSpitter4_eq, mm_cl_s, if_pos (by rw [mm_p0]; omega)]
      · unfold x12_led
        rw [within_eq, mm_cl_s, mm_i64, tl0, tl2, if_neg (by rw [mm_p0]; omega), isSpitter12_eq hs, mm_cl_s, mm_i64, hl.2.1, if_pos (by rw [mm_p0]; omega)]
  · by_cases c3 : 3 ≤ v1.toInt ∧ v1.toInt ≤ 5 ∧ v0.toInt = 0
    · have e3 : (v1 - 3).toInt = v1.toInt - 3 := by rw [mm_sub_ti (by rw [ti3]; omega) (by rw [ti3]; omega), ti3]
      have e4 : (18 + (v1 - 3)).toInt = ((18 + (v1.toInt - 3)).toNat : Nat) := by rw [mm_add_ti (by rw [ti18]; omega) (by rw [ti18]; omega), ti18, e3]; omega
      have ha : x11_led v0 v1 q = some (q.1 48 (18 + (v1.toInt - 3)).toNat, q) := by
        unfold x11_led x3_ofAll
        rw [if_neg (by rw [lt32, ti0]; omega), if_pos (by rw [le32, ti5]; omega), if_neg (by rw [le32, ti2]; omega), if_pos (by rw [eq32, ti0]; omega), if_neg (by rw [lt32, ti0]; omega), if_neg (by rw [le32, ti3, e3]; omega), mm_ck_t (mm_inb_c e4 (by omega)), mm_tcn e4]
        rfl
      refine ⟨_, q, q, ha, rfl, ?_, h⟩
      unfold x12_led
      rw [within_eq, mm_cl_s, mm_i64, tl0, tl2, if_pos (by rw [mm_p0]; omega), if_pos (by rw [eq32, ti0]; omega)]
      rcases (show v1.toInt = 3 ∨ v1.toInt = 4 ∨ v1.toInt = 5 by omega) with y | y | y
      · rw [if_pos (by rw [eq32, ti3]; omega), show (18 + (v1.toInt - 3)).toNat = 18 by omega, t2.1]
      · rw [if_neg (by rw [eq32, ti3]; omega), if_pos (by rw [eq32, ti4]; omega), show (18 + (v1.toInt - 3)).toNat = 19 by omega, t2.2.1]
      · rw [if_neg (by rw [eq32, ti3]; omega), if_neg (by rw [eq32, ti4]; omega), if_pos (by rw [eq32, ti5]; omega), show (18 + (v1.toInt - 3)).toNat = 20 by omega, t2.2.2]
    · refine ⟨-1, q, q, ?_, rfl, ?_, h⟩
      · unfold x11_led
        simp only [lt32, le32, eq32, ti0, ti2, ti5]
        by_cases y1 : v1.toInt < 0
        · rw [if_pos y1]
        rw [if_neg y1]
        by_cases y2 : v1.toInt ≤ 5
        · rw [if_pos y2, if_neg (by omega), if_neg (by omega)]
        · rw [if_neg y2]
      · unfold x12_led
        rw [within_eq, mm_cl_s, mm_i64, tl0, tl2, if_pos (by rw [mm_p0]; omega)]
        simp only [eq32, ti0, ti3, ti4, ti5]
        repeat' split
        all_goals first | rfl | (exfalso; omega)
end IV
