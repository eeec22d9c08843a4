/-! three numbers of a shelf, let in or not -/
def sp_ok (a b c : Int64) : Prop := (1 ≤ a.toInt ∧ a.toInt ≤ 9) ∧ (0 ≤ b.toInt ∧ b.toInt ≤ 9) ∧ (0 ≤ c.toInt ∧ c.toInt ≤ 9)
def sp_in (q : mm_Q) (n : Nat) (a b c : Int32) : mm_Q := mm_si (mm_si (mm_si (mm_si (mm_si (mm_si q 8 1 (q.1 8 1 + 1)) 9 n a) 9 (6 + n) b) 9 (12 + n) c) 9 (18 + n) 0) 9 (24 + n) 10
theorem sp_isFull (q : mm_Q) : x4_isFull q = some (mm_p (6 ≤ (q.1 8 1).toInt), q) := by
  unfold x4_isFull mm_p
  simp only [lt32, ti6]
  repeat' split
  all_goals first | rfl | (exfalso; omega)
theorem sp_three {q : mm_Q} (ht1 : ∀ j, q.1 1 j = mm_t1.getD j 0) (ht2 : ∀ j, q.1 2 j = mm_t2.getD j 0) (ht3 : ∀ j, q.1 3 j = mm_t3.getD j 0) {h : Nat} (hl : 0 ≤ (q.1 h 4).toInt ∧ (q.1 h 4).toInt ≤ 60) {i : Int32} {P n : Nat} (hi : i.toInt = P) (hP : (P : Int) + 3 ≤ (q.1 h 4).toInt) (hn : (q.1 8 1).toInt = n) : (n < 6 → sp_ok (q.2 (h + 1) P) (q.2 (h + 1) (P + 1)) (q.2 (h + 1) (P + 2)) → x11_welcomeThree h i q = some (1, sp_in q n (q.2 (h + 1) P).toInt32 (q.2 (h + 1) (P + 1)).toInt32 (q.2 (h + 1) (P + 2)).toInt32)) ∧ (¬ (n < 6 ∧ sp_ok (q.2 (h + 1) P) (q.2 (h + 1) (P + 1)) (q.2 (h + 1) (P + 2))) → x11_welcomeThree h i q = some (0, q)) := by
  have i1 : (i + 1).toInt = ((P + 1 : Nat) : Int) := by rw [mm_add_ti (by rw [ti1]; omega) (by rw [ti1]; omega), ti1, hi]; omega
  have i2 : (i + 2).toInt = ((P + 2 : Nat) : Int) := by rw [mm_add_ti (by rw [ti2]; omega) (by rw [ti2]; omega), ti2, hi]; omega
  have s1 : ∀ v, x4_isWithin 0 v q = some (mm_p (1 ≤ v.toInt ∧ v.toInt ≤ 9), q) := fun v => by
    rw [isWithin_eq ht2 ht3 (n := 0) ti0 (by decide)]; rfl
  have s2 : ∀ v, x4_isWithin 1 v q = some (mm_p (0 ≤ v.toInt ∧ v.toInt ≤ 9), q) := fun v => by
    rw [isWithin_eq ht2 ht3 (n := 1) ti1 (by decide)]; rfl
  have s3 : ∀ v, x4_isWithin 2 v q = some (mm_p (0 ≤ v.toInt ∧ v.toInt ≤ 9), q) := fun v => by
    rw [isWithin_eq ht2 ht3 (n := 2) ti2 (by decide)]; rfl
  unfold x11_welcomeThree sp_ok
  rw [elementAt_eq hl hi (by omega), mm_cl_s, elementAt_eq hl i1 (by omega), mm_cl_s, elementAt_eq hl i2 (by omega), mm_cl_s, sp_isFull, mm_cl_s]
  generalize q.2 (h + 1) P = a
  generalize q.2 (h + 1) (P + 1) = b
  generalize q.2 (h + 1) (P + 2) = c
  refine ⟨fun h6 ⟨o1, o2, o3⟩ => ?_, fun z => ?_⟩
  · rw [if_pos (by rw [mm_p0]; omega), s1, mm_cl_s, if_neg (by rw [mm_p0]; exact fun w => w o1), s2, mm_cl_s, if_neg (by rw [mm_p0]; exact fun w => w o2), s3, mm_cl_s, if_neg (by rw [mm_p0]; exact fun w => w o3), welcome_eq ht1 hn h6]
    rfl
  · by_cases h6 : n < 6
    · rw [if_pos (by rw [mm_p0]; omega), s1, mm_cl_s]
      by_cases o1 : 1 ≤ a.toInt ∧ a.toInt ≤ 9
      · rw [if_neg (by rw [mm_p0]; exact fun w => w o1), s2, mm_cl_s]
        by_cases o2 : 0 ≤ b.toInt ∧ b.toInt ≤ 9
        · rw [if_neg (by rw [mm_p0]; exact fun w => w o2), s3, mm_cl_s]
          by_cases o3 : 0 ≤ c.toInt ∧ c.toInt ≤ 9
          · exact absurd ⟨h6, o1, o2, o3⟩ z
          · rw [if_pos (by rw [mm_p0]; exact o3)]
        · rw [if_pos (by rw [mm_p0]; exact o2)]
      · rw [if_pos (by rw [mm_p0]; exact o1)]
    · rw [if_neg (by rw [mm_p0]; omega)]
