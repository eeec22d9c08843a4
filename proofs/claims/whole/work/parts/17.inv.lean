/-! what holds between two calls: class (cells 7 to 51) and reference (cells 52 to 74) tell the same -/
theorem mm_cmp_lt (x y : Int64) : lg_cmp x y < 0 ↔ x < y := by
  unfold lg_cmp
  by_cases h : x > y
  · rw [if_pos h]
    exact ⟨fun z => absurd z (by decide), fun z => absurd (Int64.lt_trans z h) (Int64.lt_irrefl)⟩
  · rw [if_neg h]
    by_cases h2 : x = y
    · rw [if_pos h2]
      exact ⟨fun z => absurd z (by decide), fun z => absurd z (by rw [h2]; exact Int64.lt_irrefl)⟩
    · rw [if_neg h2]
      refine ⟨fun _ => ?_, fun _ => by decide⟩
      rw [Int64.lt_iff_toInt_lt]
      have h3 : ¬ y.toInt < x.toInt := fun z => h (Int64.lt_iff_toInt_lt.mpr z)
      have h4 : ¬ x.toInt = y.toInt := fun z => h2 (Int64.toInt_inj.mp z)
      omega
theorem mm_cmp_gt (x y : Int64) : 0 < lg_cmp x y ↔ y < x := by
  unfold lg_cmp
  by_cases h : x > y
  · rw [if_pos h]
    exact ⟨fun _ => h, fun _ => by decide⟩
  · rw [if_neg h]
    by_cases h2 : x = y
    · rw [if_pos h2]
      exact ⟨fun z => absurd z (by decide), fun z => absurd z h⟩
    · rw [if_neg h2]
      exact ⟨fun z => absurd z (by decide), fun z => absurd z h⟩
theorem mm_cmp_eq (x y : Int64) : lg_cmp x y = 0 ↔ x = y := by
  unfold lg_cmp
  by_cases h : x > y
  · rw [if_pos h]
    exact ⟨fun z => absurd z (by decide), fun z => absurd h (by rw [z]; exact Int64.lt_irrefl)⟩
  · rw [if_neg h]
    by_cases h2 : x = y
    · rw [if_pos h2]
      exact ⟨fun _ => h2, fun _ => rfl⟩
    · rw [if_neg h2]
      exact ⟨fun z => absurd z (by decide), fun z => absurd z h2⟩
theorem mm_cmp_ge (x y : Int64) : 0 ≤ lg_cmp x y ↔ y ≤ x := by
  rw [← Int32.not_lt, ← Int64.not_lt]
  exact not_congr (mm_cmp_lt x y)
theorem mm_cmp_le (x y : Int64) : lg_cmp x y ≤ 0 ↔ x ≤ y := by
  rw [← Int32.not_lt, ← Int64.not_lt]
  exact not_congr (mm_cmp_gt x y)
theorem mm_i64 (x : Int32) : x.toInt64.toInt = x.toInt := Int32.toInt_toInt64 x
theorem mm_ck_t {α : Type} {b : Bool} {e : Option α} (h : b = true) : mm_ck b e = e := by rw [h]; rfl
theorem mm_cl_s {α β : Type} (r : β) (q : mm_Q) (f : β → mm_Q → Option α) : mm_cl (some (r, q)) f = f r q := rfl
theorem mm_lt_s {α β : Type} (v : β) (f : β → Option α) : mm_lt v f = f v := rfl
/-- 1 or 0 -/
def mm_b (b : Bool) : Int32 := cond b 1 0
theorem mm_b0 (b : Bool) : mm_b b = 0 ↔ b = false := by cases b <;> decide
theorem mm_b1 (b : Bool) : mm_b b = 1 ↔ b = true := by cases b <;> decide
theorem mm_bb_b (b : Bool) : mm_bb (mm_b b) = true := by cases b <;> decide
/-- which number a cell of the lane holds -/
def mm_wh (j : Nat) : Nat := if j < 30 then j / 6 else if j < 39 then 5 else if j < 48 then 6 else j - 41
def mm_okc (j : Nat) (v : Int32) : Prop := (mm_t2.getD (mm_wh j) 0).toInt ≤ v.toInt ∧ v.toInt ≤ (mm_t3.getD (mm_wh j) 0).toInt
/-- a cell that is somebody's -/
def mm_own (sp : Int32) (j : Nat) : Prop := j < 54 ∧ (j < 30 → ((j % 6 : Nat) : Int) < sp.toInt)
def iv_tab (c1 c2 c3 c5 c6 : Nat → Int32) (d4 : Nat → Int64) : Prop := (∀ j, c1 j = mm_t1.getD j 0) ∧ (∀ j, c2 j = mm_t2.getD j 0) ∧ (∀ j, c3 j = mm_t3.getD j 0) ∧ (∀ j, c5 j = mm_t5.getD j 0) ∧ (∀ j, c6 j = mm_t6.getD j 0) ∧ ∀ j, d4 j = mm_t4.getD j 0
def iv_lane (sp sp2 : Int32) (c9 c53 : Nat → Int32) : Prop := (0 ≤ sp.toInt ∧ sp.toInt ≤ 6) ∧ sp2 = sp ∧ (∀ j, j < 54 → c53 j = c9 j) ∧ ∀ j, mm_own sp j → mm_okc j (c9 j)
def iv_chg (sp dn kp dn2 kp2 : Int32) (c32 c33 c34 c54 c55 c56 : Nat → Int32) : Prop := (0 ≤ dn.toInt ∧ dn.toInt ≤ kp.toInt ∧ kp.toInt ≤ 40) ∧ (dn2 = dn ∧ kp2 = kp) ∧ (∀ j, j < 40 → c54 j = c32 j ∧ c55 j = c33 j ∧ c56 j = c34 j) ∧ ∀ j : Nat, (j : Int) < kp.toInt → ∃ c : Nat, mm_own sp c ∧ c32 j = Int32.ofNat c ∧ mm_okc c (c33 j) ∧ mm_okc c (c34 j)
def iv_tape (sz sz2 : Int32) (c29 c57 : Nat → Int32) : Prop := (0 ≤ sz.toInt ∧ sz.toInt ≤ 120) ∧ sz2 = sz ∧ ∀ j, j < 120 → c57 j = c29 j ∧ 0 ≤ (c29 j).toInt ∧ (c29 j).toInt ≤ 255
/-- a best of the class against a best of the reference -/
def mm_best (b m : Int32) : Prop := (m = 0 ∧ b = -2) ∨ (0 ≤ b.toInt ∧ b.toInt ≤ 1000 ∧ m.toInt = b.toInt + 1)
def iv_deed (sp tr he ba : Int32) (c48 c65 c66 c67 : Nat → Int32) : Prop := (∀ p : Nat, p < 6 → c48 (3 * p) = c66 p ∧ c48 (3 * p + 2) = c65 p ∧ mm_best (c48 (3 * p + 1)) (c67 p)) ∧ (c48 18 = tr ∧ c48 19 = he ∧ c48 20 = ba) ∧ ∀ p : Nat, p < 6 → sp.toInt ≤ (p : Int) → c65 p = 0 ∧ c66 p = 0 ∧ c67 p = 0
def iv_pic (sp pic kept isp : Int32) (c47 c68 : Nat → Int32) : Prop := (pic = kept ∧ (pic = 0 ∨ pic = 1)) ∧ (pic = 1 → (0 ≤ isp.toInt ∧ isp.toInt ≤ sp.toInt) ∧ (∀ p : Nat, p < 6 → (p : Int) < isp.toInt → c47 (3 * p) = c68 (3 * p + 1) ∧ c47 (3 * p + 2) = c68 (3 * p) ∧ mm_best (c47 (3 * p + 1)) (c68 (3 * p + 2))) ∧ (∀ p : Nat, p < 6 → isp.toInt ≤ (p : Int) → c47 (3 * p) = 0 ∧ c47 (3 * p + 1) = -2 ∧ c47 (3 * p + 2) = 0) ∧ c47 18 = c68 18 ∧ c47 19 = c68 19 ∧ c47 20 = c68 20)
def iv_act (bd bd2 rn rn2 : Int32) (c50 c51 c69 c70 : Nat → Int32) : Prop := ((0 ≤ bd.toInt ∧ bd.toInt ≤ 50) ∧ bd2 = bd) ∧ ((0 ≤ rn.toInt ∧ rn.toInt ≤ 1000) ∧ rn2 = rn) ∧ (∀ j, j < 50 → c69 j = c50 j ∧ 0 ≤ (c50 j).toInt ∧ (c50 j).toInt ≤ 7) ∧ ∀ j, j < 24 → c70 j = c51 j
/-- one shelf: cells h (holds 1, held 2, sort 3, length 4) and its elements against place d of the reference -/
def mm_she (bd : Int32) (d : Nat) (ch : Nat → Int32) (eh : Nat → Int64) (c71 c72 : Nat → Int32) (d73 : Nat → Int64) : Prop :=
  (ch 1 = 0 ∧ c71 d = -1 ∧ ch 4 = 0 ∧ c72 d = 0) ∨
  (ch 1 = 1 ∧ c71 d = ch 2 ∧ (0 ≤ (ch 2).toInt ∧ (ch 2).toInt < bd.toInt) ∧ ch 4 = 0 ∧ c72 d = 0) ∨
  (ch 1 = 2 ∧ (0 ≤ (ch 3).toInt ∧ (ch 3).toInt ≤ 4) ∧ c71 d = 50 + ch 3 ∧ (0 ≤ (ch 4).toInt ∧ (ch 4).toInt ≤ 60) ∧ c72 d = ch 4 ∧ (∀ i : Nat, (i : Int) < (ch 4).toInt → d73 (60 * d + i) = eh i) ∧ (ch 3 = 1 → ∀ i : Nat, (i : Int) < (ch 4).toInt → -32768 ≤ (eh i).toInt ∧ (eh i).toInt ≤ 32767))
def iv_shf (bd : Int32) (q : mm_Q) : Prop := mm_she bd 0 (q.1 16) (q.2 17) (q.1 71) (q.1 72) (q.2 73) ∧ mm_she bd 1 (q.1 18) (q.2 19) (q.1 71) (q.1 72) (q.2 73) ∧ mm_she bd 2 (q.1 20) (q.2 21) (q.1 71) (q.1 72) (q.2 73) ∧ mm_she bd 3 (q.1 22) (q.2 23) (q.1 71) (q.1 72) (q.2 73) ∧ mm_she bd 4 (q.1 24) (q.2 25) (q.1 71) (q.1 72) (q.2 73) ∧ mm_she bd 5 (q.1 26) (q.2 27) (q.1 71) (q.1 72) (q.2 73)
/-- the law: code, its length, text, its length (below 0: none), the memo, which of it is known -/
abbrev mm_LR : Type := (Nat → Int32) → Int32 → (Nat → Int32) → Int32 → (Nat → Int32) → (Nat → Int32) → Prop
def mm_Iv (LR : mm_LR) (q : mm_Q) : Prop :=
  iv_tab (q.1 1) (q.1 2) (q.1 3) (q.1 5) (q.1 6) (q.2 4) ∧
  iv_lane (q.1 8 1) (q.1 52 6) (q.1 9) (q.1 53) ∧
  iv_chg (q.1 8 1) (q.1 31 3) (q.1 31 4) (q.1 52 5) (q.1 52 4) (q.1 32) (q.1 33) (q.1 34) (q.1 54) (q.1 55) (q.1 56) ∧
  iv_tape (q.1 28 2) (q.1 52 8) (q.1 29) (q.1 57) ∧
  iv_deed (q.1 8 1) (q.1 52 32) (q.1 52 33) (q.1 52 34) (q.1 48) (q.1 65) (q.1 66) (q.1 67) ∧
  iv_pic (q.1 8 1) (q.1 46 2) (q.1 52 35) (q.1 52 36) (q.1 47) (q.1 68) ∧
  iv_act (q.1 49 2) (q.1 52 38) (q.1 49 3) (q.1 52 41) (q.1 50) (q.1 51) (q.1 69) (q.1 70) ∧
  iv_shf (q.1 49 2) q ∧
  LR (q.1 11) (q.1 10 3) (q.1 58) (q.1 52 10) (q.1 60) (q.1 61) ∧
  q.1 52 17 = 0
/-! the first calls -/
section IV
variable {LR : mm_LR}
theorem pr_count (v0 : Int32) : mm_pr (mm_Iv LR) (x11_count v0) (x12_count v0) := by
  intro q h
  obtain ⟨h1, h2, h3, h4, h5, h6, h7, h8, h9, h10⟩ := h
  have e1 := h2.2.1
  have e2 := h4.2.1
  have e3 := h3.2.1.1
  have e4 := h7.1.2
  have e5 := h7.2.1.2
  unfold x11_count x12_count x4_size x9_length x1_undoable x0_size x0_howManyRan
  by_cases c0 : v0 = 0
  · simp only [if_pos c0, mm_cl_s]
    exact ⟨_, _, _, rfl, rfl, by rw [e1], h1, h2, h3, h4, h5, h6, h7, h8, h9, h10⟩
  by_cases c1 : v0 = 1
  · simp only [if_neg c0, if_pos c1, mm_cl_s]
    exact ⟨_, _, _, rfl, rfl, by rw [e2], h1, h2, h3, h4, h5, h6, h7, h8, h9, h10⟩
  by_cases c2 : v0 = 2
  · simp only [if_neg c0, if_neg c1, if_pos c2, mm_cl_s]
    exact ⟨_, _, _, rfl, rfl, by rw [e3], h1, h2, h3, h4, h5, h6, h7, h8, h9, h10⟩
  by_cases c3 : v0 = 3
  · simp only [if_neg c0, if_neg c1, if_neg c2, if_pos c3, mm_cl_s]
    exact ⟨_, _, _, rfl, rfl, by rw [e4], h1, h2, h3, h4, h5, h6, h7, h8, h9, h10⟩
  by_cases c4 : v0 = 4
  · simp only [if_neg c0, if_neg c1, if_neg c2, if_neg c3, if_pos c4, mm_cl_s]
    exact ⟨_, _, _, rfl, rfl, by rw [e5], h1, h2, h3, h4, h5, h6, h7, h8, h9, h10⟩
  simp only [if_neg c0, if_neg c1, if_neg c2, if_neg c3, if_neg c4]
  exact ⟨_, _, _, rfl, rfl, rfl, h1, h2, h3, h4, h5, h6, h7, h8, h9, h10⟩
end IV
