/-! the law's loop out of the forty pairs of calls -/
theorem mm_cmp_self (x : Int64) : lg_cmp x x = 0 := by
  unfold lg_cmp
  rw [if_neg (Int64.lt_irrefl (a := x)), if_pos rfl]
def mm_pr {α : Type} (I : mm_Q → Prop) (X M : mm_Q → Option (α × mm_Q)) : Prop := ∀ q, I q → ∃ r q1 q2, X q = some (r, q1) ∧ q1.1 0 = q.1 0 ∧ M q1 = some (r, q2) ∧ I q2
theorem mm_inb_of {i : Int32} {n : Nat} (h0 : 0 ≤ i.toInt) (h1 : i.toInt < n) : mm_inb i n = true := by
  unfold mm_inb
  rw [Bool.and_eq_true]
  refine ⟨decide_eq_true (Int32.le_iff_toInt_le.mpr (by simpa using h0)), decide_eq_true ?_⟩
  unfold Int32.toNatClampNeg
  omega
theorem mm_add_ti {a b : Int32} (h1 : -2147483648 ≤ a.toInt + b.toInt) (h2 : a.toInt + b.toInt < 2147483648) : (a + b).toInt = a.toInt + b.toInt := by
  rw [Int32.toInt_add, Int.bmod_eq_of_le (by omega) (by omega)]
theorem mm_sub_ti {a b : Int32} (h1 : -2147483648 ≤ a.toInt - b.toInt) (h2 : a.toInt - b.toInt < 2147483648) : (a - b).toInt = a.toInt - b.toInt := by
  rw [Int32.toInt_sub, Int.bmod_eq_of_le (by omega) (by omega)]
theorem mm_ofNat_ti {n : Nat} (h : n < 2147483648) : (Int32.ofNat n).toInt = n := Int32.toInt_ofNat_of_lt h
set_option maxRecDepth 20000 in
set_option maxHeartbeats 4000000 in
theorem mm_loop {L : Nat} (hL : L ≤ 3072) {I : mm_Q → Prop} (p0 : ∀ (v0 : Int32) (v1 : Int32), mm_pr I (x11_spitter v0 v1) (x12_spitter v0 v1)) (p1 : ∀ (v0 : Int32) (v1 : Int32) (v2 : Int32), mm_pr I (x11_spitters v0 v1 v2) (x12_spitters v0 v1 v2)) (p2 : ∀ (v0 : Int32) (v1 : Int32) (v2 : Int32), mm_pr I (x11_mend v0 v1 v2) (x12_mend v0 v1 v2)) (p3 : ∀ (v0 : Int32) (v1 : Int32), mm_pr I (x11_of v0 v1) (x12_of v0 v1)) (p4 : ∀ (v0 : Int32), mm_pr I (x11_feed v0) (x12_feed v0)) (p5 : mm_pr I x11_law x12_law) (p6 : ∀ (v0 : Int32) (v1 : Int32) (v2 : Int32) (v3 : Int32), mm_pr I (x11_tries v0 v1 v2 v3) (x12_tries v0 v1 v2 v3)) (p7 : ∀ (v0 : Int32) (v1 : Int32) (v2 : Int32), mm_pr I (x11_angle v0 v1 v2) (x12_angle v0 v1 v2)) (p8 : ∀ (v0 : Int32) (v1 : Int32) (v2 : Int32) (v3 : Int32), mm_pr I (x11_order v0 v1 v2 v3) (x12_order v0 v1 v2 v3)) (p9 : ∀ (v0 : Int32) (v1 : Int32) (v2 : Int32) (v3 : Int32), mm_pr I (x11_risk v0 v1 v2 v3) (x12_risk v0 v1 v2 v3)) (p10 : ∀ (v0 : Int32) (v1 : Int32) (v2 : Int32) (v3 : Int32), mm_pr I (x11_risks v0 v1 v2 v3) (x12_risks v0 v1 v2 v3)) (p11 : ∀ (v0 : Int32) (v1 : Int32) (v2 : Int32) (v3 : Int32), mm_pr I (x11_practice v0 v1 v2 v3) (x12_practice v0 v1 v2 v3)) (p12 : ∀ (v0 : Int32) (v1 : Int32) (v2 : Int32), mm_pr I (x11_match v0 v1 v2) (x12_match v0 v1 v2)) (p13 : ∀ (v0 : Int32) (v1 : Int32), mm_pr I (x11_winner v0 v1) (x12_winner v0 v1)) (p14 : ∀ (v0 : Int32) (v1 : Int32) (v2 : Int32), mm_pr I (x11_last v0 v1 v2) (x12_last v0 v1 v2)) (p15 : ∀ (v0 : Int32) (v1 : Int32) (v2 : Int32), mm_pr I (x11_place v0 v1 v2) (x12_place v0 v1 v2)) (p16 : ∀ (v0 : Int32) (v1 : Int32) (v2 : Int32), mm_pr I (x11_handicap v0 v1 v2) (x12_handicap v0 v1 v2)) (p17 : ∀ (v0 : Int32) (v1 : Int32), mm_pr I (x11_steps v0 v1) (x12_steps v0 v1)) (p18 : ∀ (v0 : Int32) (v1 : Int32), mm_pr I (x11_whose v0 v1) (x12_whose v0 v1)) (p19 : ∀ (v0 : Int32) (v1 : Int32), mm_pr I (x11_judge v0 v1) (x12_judge v0 v1)) (p20 : ∀ (v0 : Int32) (v1 : Int32), mm_pr I (x11_who v0 v1) (x12_who v0 v1)) (p21 : ∀ (v0 : Int32) (v1 : Int32), mm_pr I (x11_ahead v0 v1) (x12_ahead v0 v1)) (p22 : ∀ (v0 : Int32) (v1 : Int32) (v2 : Int32) (v3 : Int32), mm_pr I (x11_drawn v0 v1 v2 v3) (x12_drawn v0 v1 v2 v3)) (p23 : ∀ (v0 : Int32) (v1 : Int32) (v2 : Int32), mm_pr I (x11_spit v0 v1 v2) (x12_spit v0 v1 v2)) (p24 : mm_pr I x11_rest x12_rest) (p25 : ∀ (v0 : Int32) (v1 : Int32), mm_pr I (x11_led v0 v1) (x12_led v0 v1)) (p26 : mm_pr I x11_image x12_image) (p27 : mm_pr I x11_back x12_back) (p28 : mm_pr I x11_undo x12_undo) (p29 : mm_pr I x11_redo x12_redo) (p30 : ∀ (v0 : Int32), mm_pr I (x11_body v0) (x12_body v0)) (p31 : ∀ (v0 : Int32) (v1 : Int32) (v2 : Int32), mm_pr I (x11_act v0 v1 v2) (x12_act v0 v1 v2)) (p32 : ∀ (v0 : Int32), mm_pr I (x11_trace v0) (x12_trace v0)) (p33 : ∀ (v0 : Int32) (v1 : Int32), mm_pr I (x11_keep v0 v1) (x12_keep v0 v1)) (p34 : ∀ (v0 : Int32) (v1 : Int32) (v2 : Int32), mm_pr I (x11_row v0 v1 v2) (x12_row v0 v1 v2)) (p35 : ∀ (v0 : Int32) (v1 : Int32) (v2 : Int64), mm_pr I (x11_put v0 v1 v2) (x12_put v0 v1 v2)) (p36 : ∀ (v0 : Int32) (v1 : Int32), mm_pr I (x11_element v0 v1) (x12_element v0 v1)) (p37 : ∀ (v0 : Int32) (v1 : Int32) (v2 : Int32) (v3 : Int32) (v4 : Int32), mm_pr I (x11_shift v0 v1 v2 v3 v4) (x12_shift v0 v1 v2 v3 v4)) (p38 : ∀ (v0 : Int32) (v1 : Int32), mm_pr I (x11_taken v0 v1) (x12_taken v0 v1)) (p39 : ∀ (v0 : Int32), mm_pr I (x11_count v0) (x12_count v0)) : ∀ (n : Nat) (a3 : Int32) (q : mm_Q), I q → 0 ≤ a3.toInt → a3.toInt ≤ L → (L : Int) - a3.toInt < 6 * (n : Int) + 6 → ∃ q9, law_h18 L (n + 1) a3 q = some ((1 : Int32), q9) := by
  intro n
  induction n with
  | zero =>
    intro a3 q hq h0 h1 h2
    refine ⟨q, ?_⟩
    have e6 : (6 : Int32).toInt = 6 := by decide
    have eL := mm_ofNat_ti (n := L) (by omega)
    have c : Int32.ofNat L - (6 : Int32) < a3 := Int32.lt_iff_toInt_lt.mpr (by rw [mm_sub_ti (by omega) (by omega)]; omega)
    unfold law_h18
    rw [if_pos c]
  | succ n ih =>
    intro a3 q hq h0 h1 h2
    have e6 : (6 : Int32).toInt = 6 := by decide
    have eL := mm_ofNat_ti (n := L) (by omega)
    by_cases c : Int32.ofNat L - (6 : Int32) < a3
    · refine ⟨q, ?_⟩
      unfold law_h18
      rw [if_pos c]
    · have c2 : a3.toInt ≤ (L : Int) - 6 := by
        have := Int32.le_iff_toInt_le.mp (Int32.not_lt.mp c)
        rw [mm_sub_ti (by omega) (by omega)] at this
        omega
      have d1 : (1 : Int32).toInt = 1 := by decide
      have d2 : (2 : Int32).toInt = 2 := by decide
      have d3 : (3 : Int32).toInt = 3 := by decide
      have d4 : (4 : Int32).toInt = 4 := by decide
      have d5 : (5 : Int32).toInt = 5 := by decide
      have i0 : mm_inb a3 L = true := mm_inb_of h0 (by omega)
      have i1 : mm_inb (a3 + (1 : Int32)) L = true := mm_inb_of (by rw [mm_add_ti (by omega) (by omega)]; omega) (by rw [mm_add_ti (by omega) (by omega)]; omega)
      have i2 : mm_inb (a3 + (2 : Int32)) L = true := mm_inb_of (by rw [mm_add_ti (by omega) (by omega)]; omega) (by rw [mm_add_ti (by omega) (by omega)]; omega)
      have i3 : mm_inb (a3 + (3 : Int32)) L = true := mm_inb_of (by rw [mm_add_ti (by omega) (by omega)]; omega) (by rw [mm_add_ti (by omega) (by omega)]; omega)
      have i4 : mm_inb (a3 + (4 : Int32)) L = true := mm_inb_of (by rw [mm_add_ti (by omega) (by omega)]; omega) (by rw [mm_add_ti (by omega) (by omega)]; omega)
      have i5 : mm_inb (a3 + (5 : Int32)) L = true := mm_inb_of (by rw [mm_add_ti (by omega) (by omega)]; omega) (by rw [mm_add_ti (by omega) (by omega)]; omega)
      have f6 : (a3 + (6 : Int32)).toInt = a3.toInt + 6 := by rw [mm_add_ti (by omega) (by omega), e6]
      have go : ∀ q2, I q2 → ∃ q9, law_j1662 L (law_h18 L (n + 1)) a3 q2 = some ((1 : Int32), q9) := fun q2 h => ih (a3 + (6 : Int32)) q2 h (by omega) (by omega) (by omega)
      rw [law_h18]
      rw [if_neg c]
      simp only [i0, mm_ck]
      by_cases h0 : (q.1 0 a3.toNatClampNeg) &&& (63 : Int32) = (0 : Int32)
      · rw [if_pos h0]
        obtain ⟨r, q1, q2, e1, es, e2, hI⟩ := p0 (q.1 0 (a3 + (1 : Int32)).toNatClampNeg) (q.1 0 (a3 + (2 : Int32)).toNatClampNeg) q hq
        obtain ⟨q9, e9⟩ := go q2 hI
        exact ⟨q9, by simp only [i1, i2, i3, i4, i5, e1, mm_cl, es, e2, mm_cmp_self, if_true, e9]⟩
      rw [if_neg h0]
      by_cases h1 : (q.1 0 a3.toNatClampNeg) &&& (63 : Int32) = (1 : Int32)
      · rw [if_pos h1]
        obtain ⟨r, q1, q2, e1, es, e2, hI⟩ := p1 (q.1 0 (a3 + (1 : Int32)).toNatClampNeg) (q.1 0 (a3 + (2 : Int32)).toNatClampNeg) (q.1 0 (a3 + (3 : Int32)).toNatClampNeg) q hq
        obtain ⟨q9, e9⟩ := go q2 hI
        exact ⟨q9, by simp only [i1, i2, i3, i4, i5, e1, mm_cl, es, e2, mm_cmp_self, if_true, e9]⟩
      rw [if_neg h1]
      by_cases h2 : (q.1 0 a3.toNatClampNeg) &&& (63 : Int32) = (2 : Int32)
      · rw [if_pos h2]
        obtain ⟨r, q1, q2, e1, es, e2, hI⟩ := p2 (q.1 0 (a3 + (1 : Int32)).toNatClampNeg) (q.1 0 (a3 + (2 : Int32)).toNatClampNeg) (q.1 0 (a3 + (3 : Int32)).toNatClampNeg) q hq
        obtain ⟨q9, e9⟩ := go q2 hI
        exact ⟨q9, by simp only [i1, i2, i3, i4, i5, e1, mm_cl, es, e2, mm_cmp_self, if_true, e9]⟩
      rw [if_neg h2]
      by_cases h3 : (q.1 0 a3.toNatClampNeg) &&& (63 : Int32) = (3 : Int32)
      · rw [if_pos h3]
        obtain ⟨r, q1, q2, e1, es, e2, hI⟩ := p3 (q.1 0 (a3 + (1 : Int32)).toNatClampNeg) (q.1 0 (a3 + (2 : Int32)).toNatClampNeg) q hq
        obtain ⟨q9, e9⟩ := go q2 hI
        exact ⟨q9, by simp only [i1, i2, i3, i4, i5, e1, mm_cl, es, e2, mm_cmp_self, if_true, e9]⟩
      rw [if_neg h3]
      by_cases h4 : (q.1 0 a3.toNatClampNeg) &&& (63 : Int32) = (4 : Int32)
      · rw [if_pos h4]
        obtain ⟨r, q1, q2, e1, es, e2, hI⟩ := p4 (q.1 0 (a3 + (1 : Int32)).toNatClampNeg) q hq
        obtain ⟨q9, e9⟩ := go q2 hI
        exact ⟨q9, by simp only [i1, i2, i3, i4, i5, e1, mm_cl, es, e2, mm_cmp_self, if_true, e9]⟩
      rw [if_neg h4]
      by_cases h5 : (q.1 0 a3.toNatClampNeg) &&& (63 : Int32) = (5 : Int32)
      · rw [if_pos h5]
        obtain ⟨r, q1, q2, e1, es, e2, hI⟩ := p5  q hq
        obtain ⟨q9, e9⟩ := go q2 hI
        exact ⟨q9, by simp only [i1, i2, i3, i4, i5, e1, mm_cl, es, e2, mm_cmp_self, if_true, e9]⟩
      rw [if_neg h5]
      by_cases h6 : (q.1 0 a3.toNatClampNeg) &&& (63 : Int32) = (6 : Int32)
      · rw [if_pos h6]
        obtain ⟨r, q1, q2, e1, es, e2, hI⟩ := p6 (q.1 0 (a3 + (1 : Int32)).toNatClampNeg) (q.1 0 (a3 + (2 : Int32)).toNatClampNeg) (q.1 0 (a3 + (3 : Int32)).toNatClampNeg) (q.1 0 (a3 + (4 : Int32)).toNatClampNeg) q hq
        obtain ⟨q9, e9⟩ := go q2 hI
        exact ⟨q9, by simp only [i1, i2, i3, i4, i5, e1, mm_cl, es, e2, mm_cmp_self, if_true, e9]⟩
      rw [if_neg h6]
      by_cases h7 : (q.1 0 a3.toNatClampNeg) &&& (63 : Int32) = (7 : Int32)
      · rw [if_pos h7]
        obtain ⟨r, q1, q2, e1, es, e2, hI⟩ := p7 (q.1 0 (a3 + (1 : Int32)).toNatClampNeg) (q.1 0 (a3 + (2 : Int32)).toNatClampNeg) (q.1 0 (a3 + (3 : Int32)).toNatClampNeg) q hq
        obtain ⟨q9, e9⟩ := go q2 hI
        exact ⟨q9, by simp only [i1, i2, i3, i4, i5, e1, mm_cl, es, e2, mm_cmp_self, if_true, e9]⟩
      rw [if_neg h7]
      by_cases h8 : (q.1 0 a3.toNatClampNeg) &&& (63 : Int32) = (8 : Int32)
      · rw [if_pos h8]
        obtain ⟨r, q1, q2, e1, es, e2, hI⟩ := p8 (q.1 0 (a3 + (1 : Int32)).toNatClampNeg) (q.1 0 (a3 + (2 : Int32)).toNatClampNeg) (q.1 0 (a3 + (3 : Int32)).toNatClampNeg) (q.1 0 (a3 + (4 : Int32)).toNatClampNeg) q hq
        obtain ⟨q9, e9⟩ := go q2 hI
        exact ⟨q9, by simp only [i1, i2, i3, i4, i5, e1, mm_cl, es, e2, mm_cmp_self, if_true, e9]⟩
      rw [if_neg h8]
      by_cases h9 : (q.1 0 a3.toNatClampNeg) &&& (63 : Int32) = (9 : Int32)
      · rw [if_pos h9]
        obtain ⟨r, q1, q2, e1, es, e2, hI⟩ := p9 (q.1 0 (a3 + (1 : Int32)).toNatClampNeg) (q.1 0 (a3 + (2 : Int32)).toNatClampNeg) (q.1 0 (a3 + (3 : Int32)).toNatClampNeg) (q.1 0 (a3 + (4 : Int32)).toNatClampNeg) q hq
        obtain ⟨q9, e9⟩ := go q2 hI
        exact ⟨q9, by simp only [i1, i2, i3, i4, i5, e1, mm_cl, es, e2, mm_cmp_self, if_true, e9]⟩
      rw [if_neg h9]
      by_cases h10 : (q.1 0 a3.toNatClampNeg) &&& (63 : Int32) = (10 : Int32)
      · rw [if_pos h10]
        obtain ⟨r, q1, q2, e1, es, e2, hI⟩ := p10 (q.1 0 (a3 + (1 : Int32)).toNatClampNeg) (q.1 0 (a3 + (2 : Int32)).toNatClampNeg) (q.1 0 (a3 + (3 : Int32)).toNatClampNeg) (q.1 0 (a3 + (4 : Int32)).toNatClampNeg) q hq
        obtain ⟨q9, e9⟩ := go q2 hI
        exact ⟨q9, by simp only [i1, i2, i3, i4, i5, e1, mm_cl, es, e2, mm_cmp_self, if_true, e9]⟩
      rw [if_neg h10]
      by_cases h11 : (q.1 0 a3.toNatClampNeg) &&& (63 : Int32) = (11 : Int32)
      · rw [if_pos h11]
        obtain ⟨r, q1, q2, e1, es, e2, hI⟩ := p11 (q.1 0 (a3 + (1 : Int32)).toNatClampNeg) (q.1 0 (a3 + (2 : Int32)).toNatClampNeg) (q.1 0 (a3 + (3 : Int32)).toNatClampNeg) (q.1 0 (a3 + (4 : Int32)).toNatClampNeg) q hq
        obtain ⟨q9, e9⟩ := go q2 hI
        exact ⟨q9, by simp only [i1, i2, i3, i4, i5, e1, mm_cl, es, e2, mm_cmp_self, if_true, e9]⟩
      rw [if_neg h11]
      by_cases h12 : (q.1 0 a3.toNatClampNeg) &&& (63 : Int32) = (12 : Int32)
      · rw [if_pos h12]
        obtain ⟨r, q1, q2, e1, es, e2, hI⟩ := p12 (q.1 0 (a3 + (1 : Int32)).toNatClampNeg) (q.1 0 (a3 + (2 : Int32)).toNatClampNeg) (q.1 0 (a3 + (3 : Int32)).toNatClampNeg) q hq
        obtain ⟨q9, e9⟩ := go q2 hI
        exact ⟨q9, by simp only [i1, i2, i3, i4, i5, e1, mm_cl, es, e2, mm_cmp_self, if_true, e9]⟩
      rw [if_neg h12]
      by_cases h13 : (q.1 0 a3.toNatClampNeg) &&& (63 : Int32) = (13 : Int32)
      · rw [if_pos h13]
        obtain ⟨r, q1, q2, e1, es, e2, hI⟩ := p13 (q.1 0 (a3 + (1 : Int32)).toNatClampNeg) (q.1 0 (a3 + (2 : Int32)).toNatClampNeg) q hq
        obtain ⟨q9, e9⟩ := go q2 hI
        exact ⟨q9, by simp only [i1, i2, i3, i4, i5, e1, mm_cl, es, e2, mm_cmp_self, if_true, e9]⟩
      rw [if_neg h13]
      by_cases h14 : (q.1 0 a3.toNatClampNeg) &&& (63 : Int32) = (14 : Int32)
      · rw [if_pos h14]
        obtain ⟨r, q1, q2, e1, es, e2, hI⟩ := p14 (q.1 0 (a3 + (1 : Int32)).toNatClampNeg) (q.1 0 (a3 + (2 : Int32)).toNatClampNeg) (q.1 0 (a3 + (3 : Int32)).toNatClampNeg) q hq
        obtain ⟨q9, e9⟩ := go q2 hI
        exact ⟨q9, by simp only [i1, i2, i3, i4, i5, e1, mm_cl, es, e2, mm_cmp_self, if_true, e9]⟩
      rw [if_neg h14]
      by_cases h15 : (q.1 0 a3.toNatClampNeg) &&& (63 : Int32) = (15 : Int32)
      · rw [if_pos h15]
        obtain ⟨r, q1, q2, e1, es, e2, hI⟩ := p15 (q.1 0 (a3 + (1 : Int32)).toNatClampNeg) (q.1 0 (a3 + (2 : Int32)).toNatClampNeg) (q.1 0 (a3 + (3 : Int32)).toNatClampNeg) q hq
        obtain ⟨q9, e9⟩ := go q2 hI
        exact ⟨q9, by simp only [i1, i2, i3, i4, i5, e1, mm_cl, es, e2, mm_cmp_self, if_true, e9]⟩
      rw [if_neg h15]
      by_cases h16 : (q.1 0 a3.toNatClampNeg) &&& (63 : Int32) = (16 : Int32)
      · rw [if_pos h16]
        obtain ⟨r, q1, q2, e1, es, e2, hI⟩ := p16 (q.1 0 (a3 + (1 : Int32)).toNatClampNeg) (q.1 0 (a3 + (2 : Int32)).toNatClampNeg) (q.1 0 (a3 + (3 : Int32)).toNatClampNeg) q hq
        obtain ⟨q9, e9⟩ := go q2 hI
        exact ⟨q9, by simp only [i1, i2, i3, i4, i5, e1, mm_cl, es, e2, mm_cmp_self, if_true, e9]⟩
      rw [if_neg h16]
      by_cases h17 : (q.1 0 a3.toNatClampNeg) &&& (63 : Int32) = (17 : Int32)
      · rw [if_pos h17]
        obtain ⟨r, q1, q2, e1, es, e2, hI⟩ := p17 (q.1 0 (a3 + (1 : Int32)).toNatClampNeg) (q.1 0 (a3 + (2 : Int32)).toNatClampNeg) q hq
        obtain ⟨q9, e9⟩ := go q2 hI
        exact ⟨q9, by simp only [i1, i2, i3, i4, i5, e1, mm_cl, es, e2, mm_cmp_self, if_true, e9]⟩
      rw [if_neg h17]
      by_cases h18 : (q.1 0 a3.toNatClampNeg) &&& (63 : Int32) = (18 : Int32)
      · rw [if_pos h18]
        obtain ⟨r, q1, q2, e1, es, e2, hI⟩ := p18 (q.1 0 (a3 + (1 : Int32)).toNatClampNeg) (q.1 0 (a3 + (2 : Int32)).toNatClampNeg) q hq
        obtain ⟨q9, e9⟩ := go q2 hI
        exact ⟨q9, by simp only [i1, i2, i3, i4, i5, e1, mm_cl, es, e2, mm_cmp_self, if_true, e9]⟩
      rw [if_neg h18]
      by_cases h19 : (q.1 0 a3.toNatClampNeg) &&& (63 : Int32) = (19 : Int32)
      · rw [if_pos h19]
        obtain ⟨r, q1, q2, e1, es, e2, hI⟩ := p19 (q.1 0 (a3 + (1 : Int32)).toNatClampNeg) (q.1 0 (a3 + (2 : Int32)).toNatClampNeg) q hq
        obtain ⟨q9, e9⟩ := go q2 hI
        exact ⟨q9, by simp only [i1, i2, i3, i4, i5, e1, mm_cl, es, e2, mm_cmp_self, if_true, e9]⟩
      rw [if_neg h19]
      by_cases h20 : (q.1 0 a3.toNatClampNeg) &&& (63 : Int32) = (20 : Int32)
      · rw [if_pos h20]
        obtain ⟨r, q1, q2, e1, es, e2, hI⟩ := p20 (q.1 0 (a3 + (1 : Int32)).toNatClampNeg) (q.1 0 (a3 + (2 : Int32)).toNatClampNeg) q hq
        obtain ⟨q9, e9⟩ := go q2 hI
        exact ⟨q9, by simp only [i1, i2, i3, i4, i5, e1, mm_cl, es, e2, mm_cmp_self, if_true, e9]⟩
      rw [if_neg h20]
      by_cases h21 : (q.1 0 a3.toNatClampNeg) &&& (63 : Int32) = (21 : Int32)
      · rw [if_pos h21]
        obtain ⟨r, q1, q2, e1, es, e2, hI⟩ := p21 (q.1 0 (a3 + (1 : Int32)).toNatClampNeg) (q.1 0 (a3 + (2 : Int32)).toNatClampNeg) q hq
        obtain ⟨q9, e9⟩ := go q2 hI
        exact ⟨q9, by simp only [i1, i2, i3, i4, i5, e1, mm_cl, es, e2, mm_cmp_self, if_true, e9]⟩
      rw [if_neg h21]
      by_cases h22 : (q.1 0 a3.toNatClampNeg) &&& (63 : Int32) = (22 : Int32)
      · rw [if_pos h22]
        obtain ⟨r, q1, q2, e1, es, e2, hI⟩ := p22 (q.1 0 (a3 + (1 : Int32)).toNatClampNeg) (q.1 0 (a3 + (2 : Int32)).toNatClampNeg) (q.1 0 (a3 + (3 : Int32)).toNatClampNeg) (q.1 0 (a3 + (4 : Int32)).toNatClampNeg) q hq
        obtain ⟨q9, e9⟩ := go q2 hI
        exact ⟨q9, by simp only [i1, i2, i3, i4, i5, e1, mm_cl, es, e2, mm_cmp_self, if_true, e9]⟩
      rw [if_neg h22]
      by_cases h23 : (q.1 0 a3.toNatClampNeg) &&& (63 : Int32) = (23 : Int32)
      · rw [if_pos h23]
        obtain ⟨r, q1, q2, e1, es, e2, hI⟩ := p23 (q.1 0 (a3 + (1 : Int32)).toNatClampNeg) (q.1 0 (a3 + (2 : Int32)).toNatClampNeg) (q.1 0 (a3 + (3 : Int32)).toNatClampNeg) q hq
        obtain ⟨q9, e9⟩ := go q2 hI
        exact ⟨q9, by simp only [i1, i2, i3, i4, i5, e1, mm_cl, es, e2, mm_cmp_self, if_true, e9]⟩
      rw [if_neg h23]
      by_cases h24 : (q.1 0 a3.toNatClampNeg) &&& (63 : Int32) = (24 : Int32)
      · rw [if_pos h24]
        obtain ⟨r, q1, q2, e1, es, e2, hI⟩ := p24  q hq
        obtain ⟨q9, e9⟩ := go q2 hI
        exact ⟨q9, by simp only [i1, i2, i3, i4, i5, e1, mm_cl, es, e2, mm_cmp_self, if_true, e9]⟩
      rw [if_neg h24]
      by_cases h25 : (q.1 0 a3.toNatClampNeg) &&& (63 : Int32) = (25 : Int32)
      · rw [if_pos h25]
        obtain ⟨r, q1, q2, e1, es, e2, hI⟩ := p25 (q.1 0 (a3 + (1 : Int32)).toNatClampNeg) (q.1 0 (a3 + (2 : Int32)).toNatClampNeg) q hq
        obtain ⟨q9, e9⟩ := go q2 hI
        exact ⟨q9, by simp only [i1, i2, i3, i4, i5, e1, mm_cl, es, e2, mm_cmp_self, if_true, e9]⟩
      rw [if_neg h25]
      by_cases h26 : (q.1 0 a3.toNatClampNeg) &&& (63 : Int32) = (26 : Int32)
      · rw [if_pos h26]
        obtain ⟨r, q1, q2, e1, es, e2, hI⟩ := p26  q hq
        obtain ⟨q9, e9⟩ := go q2 hI
        exact ⟨q9, by simp only [i1, i2, i3, i4, i5, e1, mm_cl, es, e2, mm_cmp_self, if_true, e9]⟩
      rw [if_neg h26]
      by_cases h27 : (q.1 0 a3.toNatClampNeg) &&& (63 : Int32) = (27 : Int32)
      · rw [if_pos h27]
        obtain ⟨r, q1, q2, e1, es, e2, hI⟩ := p27  q hq
        obtain ⟨q9, e9⟩ := go q2 hI
        exact ⟨q9, by simp only [i1, i2, i3, i4, i5, e1, mm_cl, es, e2, mm_cmp_self, if_true, e9]⟩
      rw [if_neg h27]
      by_cases h28 : (q.1 0 a3.toNatClampNeg) &&& (63 : Int32) = (28 : Int32)
      · rw [if_pos h28]
        obtain ⟨r, q1, q2, e1, es, e2, hI⟩ := p28  q hq
        obtain ⟨q9, e9⟩ := go q2 hI
        exact ⟨q9, by simp only [i1, i2, i3, i4, i5, e1, mm_cl, es, e2, mm_cmp_self, if_true, e9]⟩
      rw [if_neg h28]
      by_cases h29 : (q.1 0 a3.toNatClampNeg) &&& (63 : Int32) = (29 : Int32)
      · rw [if_pos h29]
        obtain ⟨r, q1, q2, e1, es, e2, hI⟩ := p29  q hq
        obtain ⟨q9, e9⟩ := go q2 hI
        exact ⟨q9, by simp only [i1, i2, i3, i4, i5, e1, mm_cl, es, e2, mm_cmp_self, if_true, e9]⟩
      rw [if_neg h29]
      by_cases h30 : (q.1 0 a3.toNatClampNeg) &&& (63 : Int32) = (30 : Int32)
      · rw [if_pos h30]
        obtain ⟨r, q1, q2, e1, es, e2, hI⟩ := p30 (q.1 0 (a3 + (1 : Int32)).toNatClampNeg) q hq
        obtain ⟨q9, e9⟩ := go q2 hI
        exact ⟨q9, by simp only [i1, i2, i3, i4, i5, e1, mm_cl, es, e2, mm_cmp_self, if_true, e9]⟩
      rw [if_neg h30]
      by_cases h31 : (q.1 0 a3.toNatClampNeg) &&& (63 : Int32) = (31 : Int32)
      · rw [if_pos h31]
        obtain ⟨r, q1, q2, e1, es, e2, hI⟩ := p31 (q.1 0 (a3 + (1 : Int32)).toNatClampNeg) (q.1 0 (a3 + (2 : Int32)).toNatClampNeg) (q.1 0 (a3 + (3 : Int32)).toNatClampNeg) q hq
        obtain ⟨q9, e9⟩ := go q2 hI
        exact ⟨q9, by simp only [i1, i2, i3, i4, i5, e1, mm_cl, es, e2, mm_cmp_self, if_true, e9]⟩
      rw [if_neg h31]
      by_cases h32 : (q.1 0 a3.toNatClampNeg) &&& (63 : Int32) = (32 : Int32)
      · rw [if_pos h32]
        obtain ⟨r, q1, q2, e1, es, e2, hI⟩ := p32 (q.1 0 (a3 + (1 : Int32)).toNatClampNeg) q hq
        obtain ⟨q9, e9⟩ := go q2 hI
        exact ⟨q9, by simp only [i1, i2, i3, i4, i5, e1, mm_cl, es, e2, mm_cmp_self, if_true, e9]⟩
      rw [if_neg h32]
      by_cases h33 : (q.1 0 a3.toNatClampNeg) &&& (63 : Int32) = (33 : Int32)
      · rw [if_pos h33]
        obtain ⟨r, q1, q2, e1, es, e2, hI⟩ := p33 (q.1 0 (a3 + (1 : Int32)).toNatClampNeg) (q.1 0 (a3 + (2 : Int32)).toNatClampNeg) q hq
        obtain ⟨q9, e9⟩ := go q2 hI
        exact ⟨q9, by simp only [i1, i2, i3, i4, i5, e1, mm_cl, es, e2, mm_cmp_self, if_true, e9]⟩
      rw [if_neg h33]
      by_cases h34 : (q.1 0 a3.toNatClampNeg) &&& (63 : Int32) = (34 : Int32)
      · rw [if_pos h34]
        obtain ⟨r, q1, q2, e1, es, e2, hI⟩ := p34 (q.1 0 (a3 + (1 : Int32)).toNatClampNeg) (q.1 0 (a3 + (2 : Int32)).toNatClampNeg) (q.1 0 (a3 + (3 : Int32)).toNatClampNeg) q hq
        obtain ⟨q9, e9⟩ := go q2 hI
        exact ⟨q9, by simp only [i1, i2, i3, i4, i5, e1, mm_cl, es, e2, mm_cmp_self, if_true, e9]⟩
      rw [if_neg h34]
      by_cases h35 : (q.1 0 a3.toNatClampNeg) &&& (63 : Int32) = (35 : Int32)
      · rw [if_pos h35]
        obtain ⟨r, q1, q2, e1, es, e2, hI⟩ := p35 (q.1 0 (a3 + (1 : Int32)).toNatClampNeg) (q.1 0 (a3 + (2 : Int32)).toNatClampNeg) ((((q.1 0 (a3 + (3 : Int32)).toNatClampNeg).toInt64) <<< ((32 : Int32).toInt64 &&& 63)) ||| (((q.1 0 (a3 + (4 : Int32)).toNatClampNeg).toInt64) &&& (4294967295 : Int64))) q hq
        obtain ⟨q9, e9⟩ := go q2 hI
        exact ⟨q9, by simp only [i1, i2, i3, i4, i5, e1, mm_cl, es, e2, mm_cmp_self, if_true, e9]⟩
      rw [if_neg h35]
      by_cases h36 : (q.1 0 a3.toNatClampNeg) &&& (63 : Int32) = (36 : Int32)
      · rw [if_pos h36]
        obtain ⟨r, q1, q2, e1, es, e2, hI⟩ := p36 (q.1 0 (a3 + (1 : Int32)).toNatClampNeg) (q.1 0 (a3 + (2 : Int32)).toNatClampNeg) q hq
        obtain ⟨q9, e9⟩ := go q2 hI
        exact ⟨q9, by simp only [i1, i2, i3, i4, i5, e1, mm_cl, es, e2, mm_cmp_self, if_true, e9]⟩
      rw [if_neg h36]
      by_cases h37 : (q.1 0 a3.toNatClampNeg) &&& (63 : Int32) = (37 : Int32)
      · rw [if_pos h37]
        obtain ⟨r, q1, q2, e1, es, e2, hI⟩ := p37 (q.1 0 (a3 + (1 : Int32)).toNatClampNeg) (q.1 0 (a3 + (2 : Int32)).toNatClampNeg) (q.1 0 (a3 + (3 : Int32)).toNatClampNeg) (q.1 0 (a3 + (4 : Int32)).toNatClampNeg) (q.1 0 (a3 + (5 : Int32)).toNatClampNeg) q hq
        obtain ⟨q9, e9⟩ := go q2 hI
        exact ⟨q9, by simp only [i1, i2, i3, i4, i5, e1, mm_cl, es, e2, mm_cmp_self, if_true, e9]⟩
      rw [if_neg h37]
      by_cases h38 : (q.1 0 a3.toNatClampNeg) &&& (63 : Int32) = (38 : Int32)
      · rw [if_pos h38]
        obtain ⟨r, q1, q2, e1, es, e2, hI⟩ := p38 (q.1 0 (a3 + (1 : Int32)).toNatClampNeg) (q.1 0 (a3 + (2 : Int32)).toNatClampNeg) q hq
        obtain ⟨q9, e9⟩ := go q2 hI
        exact ⟨q9, by simp only [i1, i2, i3, i4, i5, e1, mm_cl, es, e2, mm_cmp_self, if_true, e9]⟩
      rw [if_neg h38]
      by_cases h39 : (q.1 0 a3.toNatClampNeg) &&& (63 : Int32) = (39 : Int32)
      · rw [if_pos h39]
        obtain ⟨r, q1, q2, e1, es, e2, hI⟩ := p39 (q.1 0 (a3 + (1 : Int32)).toNatClampNeg) q hq
        obtain ⟨q9, e9⟩ := go q2 hI
        exact ⟨q9, by simp only [i1, i2, i3, i4, i5, e1, mm_cl, es, e2, mm_cmp_self, if_true, e9]⟩
      rw [if_neg h39]
      exact go q hq
theorem mm_law_all_of {L : Nat} {xs : Nat → Int32} (hL : L ≤ 3072) {I : mm_Q → Prop} (hI : I (mm_Iz xs, mm_Jz)) (p0 : ∀ (v0 : Int32) (v1 : Int32), mm_pr I (x11_spitter v0 v1) (x12_spitter v0 v1)) (p1 : ∀ (v0 : Int32) (v1 : Int32) (v2 : Int32), mm_pr I (x11_spitters v0 v1 v2) (x12_spitters v0 v1 v2)) (p2 : ∀ (v0 : Int32) (v1 : Int32) (v2 : Int32), mm_pr I (x11_mend v0 v1 v2) (x12_mend v0 v1 v2)) (p3 : ∀ (v0 : Int32) (v1 : Int32), mm_pr I (x11_of v0 v1) (x12_of v0 v1)) (p4 : ∀ (v0 : Int32), mm_pr I (x11_feed v0) (x12_feed v0)) (p5 : mm_pr I x11_law x12_law) (p6 : ∀ (v0 : Int32) (v1 : Int32) (v2 : Int32) (v3 : Int32), mm_pr I (x11_tries v0 v1 v2 v3) (x12_tries v0 v1 v2 v3)) (p7 : ∀ (v0 : Int32) (v1 : Int32) (v2 : Int32), mm_pr I (x11_angle v0 v1 v2) (x12_angle v0 v1 v2)) (p8 : ∀ (v0 : Int32) (v1 : Int32) (v2 : Int32) (v3 : Int32), mm_pr I (x11_order v0 v1 v2 v3) (x12_order v0 v1 v2 v3)) (p9 : ∀ (v0 : Int32) (v1 : Int32) (v2 : Int32) (v3 : Int32), mm_pr I (x11_risk v0 v1 v2 v3) (x12_risk v0 v1 v2 v3)) (p10 : ∀ (v0 : Int32) (v1 : Int32) (v2 : Int32) (v3 : Int32), mm_pr I (x11_risks v0 v1 v2 v3) (x12_risks v0 v1 v2 v3)) (p11 : ∀ (v0 : Int32) (v1 : Int32) (v2 : Int32) (v3 : Int32), mm_pr I (x11_practice v0 v1 v2 v3) (x12_practice v0 v1 v2 v3)) (p12 : ∀ (v0 : Int32) (v1 : Int32) (v2 : Int32), mm_pr I (x11_match v0 v1 v2) (x12_match v0 v1 v2)) (p13 : ∀ (v0 : Int32) (v1 : Int32), mm_pr I (x11_winner v0 v1) (x12_winner v0 v1)) (p14 : ∀ (v0 : Int32) (v1 : Int32) (v2 : Int32), mm_pr I (x11_last v0 v1 v2) (x12_last v0 v1 v2)) (p15 : ∀ (v0 : Int32) (v1 : Int32) (v2 : Int32), mm_pr I (x11_place v0 v1 v2) (x12_place v0 v1 v2)) (p16 : ∀ (v0 : Int32) (v1 : Int32) (v2 : Int32), mm_pr I (x11_handicap v0 v1 v2) (x12_handicap v0 v1 v2)) (p17 : ∀ (v0 : Int32) (v1 : Int32), mm_pr I (x11_steps v0 v1) (x12_steps v0 v1)) (p18 : ∀ (v0 : Int32) (v1 : Int32), mm_pr I (x11_whose v0 v1) (x12_whose v0 v1)) (p19 : ∀ (v0 : Int32) (v1 : Int32), mm_pr I (x11_judge v0 v1) (x12_judge v0 v1)) (p20 : ∀ (v0 : Int32) (v1 : Int32), mm_pr I (x11_who v0 v1) (x12_who v0 v1)) (p21 : ∀ (v0 : Int32) (v1 : Int32), mm_pr I (x11_ahead v0 v1) (x12_ahead v0 v1)) (p22 : ∀ (v0 : Int32) (v1 : Int32) (v2 : Int32) (v3 : Int32), mm_pr I (x11_drawn v0 v1 v2 v3) (x12_drawn v0 v1 v2 v3)) (p23 : ∀ (v0 : Int32) (v1 : Int32) (v2 : Int32), mm_pr I (x11_spit v0 v1 v2) (x12_spit v0 v1 v2)) (p24 : mm_pr I x11_rest x12_rest) (p25 : ∀ (v0 : Int32) (v1 : Int32), mm_pr I (x11_led v0 v1) (x12_led v0 v1)) (p26 : mm_pr I x11_image x12_image) (p27 : mm_pr I x11_back x12_back) (p28 : mm_pr I x11_undo x12_undo) (p29 : mm_pr I x11_redo x12_redo) (p30 : ∀ (v0 : Int32), mm_pr I (x11_body v0) (x12_body v0)) (p31 : ∀ (v0 : Int32) (v1 : Int32) (v2 : Int32), mm_pr I (x11_act v0 v1 v2) (x12_act v0 v1 v2)) (p32 : ∀ (v0 : Int32), mm_pr I (x11_trace v0) (x12_trace v0)) (p33 : ∀ (v0 : Int32) (v1 : Int32), mm_pr I (x11_keep v0 v1) (x12_keep v0 v1)) (p34 : ∀ (v0 : Int32) (v1 : Int32) (v2 : Int32), mm_pr I (x11_row v0 v1 v2) (x12_row v0 v1 v2)) (p35 : ∀ (v0 : Int32) (v1 : Int32) (v2 : Int64), mm_pr I (x11_put v0 v1 v2) (x12_put v0 v1 v2)) (p36 : ∀ (v0 : Int32) (v1 : Int32), mm_pr I (x11_element v0 v1) (x12_element v0 v1)) (p37 : ∀ (v0 : Int32) (v1 : Int32) (v2 : Int32) (v3 : Int32) (v4 : Int32), mm_pr I (x11_shift v0 v1 v2 v3 v4) (x12_shift v0 v1 v2 v3 v4)) (p38 : ∀ (v0 : Int32) (v1 : Int32), mm_pr I (x11_taken v0 v1) (x12_taken v0 v1)) (p39 : ∀ (v0 : Int32), mm_pr I (x11_count v0) (x12_count v0)) : mm_Law L xs := by
  obtain ⟨q9, h⟩ := mm_loop hL p0 p1 p2 p3 p4 p5 p6 p7 p8 p9 p10 p11 p12 p13 p14 p15 p16 p17 p18 p19 p20 p21 p22 p23 p24 p25 p26 p27 p28 p29 p30 p31 p32 p33 p34 p35 p36 p37 p38 p39 999 0 _ hI (by decide) (by show (0 : Int) ≤ L; omega) (by show (L : Int) - 0 < _; omega)
  exact mm_law_of hL h
