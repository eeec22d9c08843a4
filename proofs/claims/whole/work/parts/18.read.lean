/-! the readers of both sides -/
theorem lt32 {a b : Int32} : a < b ↔ a.toInt < b.toInt := Int32.lt_iff_toInt_lt
theorem le32 {a b : Int32} : a ≤ b ↔ a.toInt ≤ b.toInt := Int32.le_iff_toInt_le
theorem lt64 {a b : Int64} : a < b ↔ a.toInt < b.toInt := Int64.lt_iff_toInt_lt
theorem le64 {a b : Int64} : a ≤ b ↔ a.toInt ≤ b.toInt := Int64.le_iff_toInt_le
theorem eq32 {a b : Int32} : a = b ↔ a.toInt = b.toInt := Int32.toInt_inj.symm
theorem mm_rng (a : Int32) : -2147483648 ≤ a.toInt ∧ a.toInt < 2147483648 := ⟨Int32.le_toInt a, Int32.toInt_lt a⟩
theorem ti0 : (0 : Int32).toInt = 0 := by decide
theorem ti1 : (1 : Int32).toInt = 1 := by decide
theorem ti2 : (2 : Int32).toInt = 2 := by decide
theorem ti3 : (3 : Int32).toInt = 3 := by decide
theorem ti4 : (4 : Int32).toInt = 4 := by decide
theorem ti5 : (5 : Int32).toInt = 5 := by decide
theorem ti6 : (6 : Int32).toInt = 6 := by decide
theorem ti7 : (7 : Int32).toInt = 7 := by decide
theorem ti8 : (8 : Int32).toInt = 8 := by decide
theorem ti9 : (9 : Int32).toInt = 9 := by decide
theorem ti10 : (10 : Int32).toInt = 10 := by decide
theorem ti12 : (12 : Int32).toInt = 12 := by decide
theorem ti13 : (13 : Int32).toInt = 13 := by decide
theorem ti18 : (18 : Int32).toInt = 18 := by decide
theorem ti20 : (20 : Int32).toInt = 20 := by decide
theorem ti24 : (24 : Int32).toInt = 24 := by decide
theorem ti30 : (30 : Int32).toInt = 30 := by decide
theorem ti36 : (36 : Int32).toInt = 36 := by decide
theorem ti39 : (39 : Int32).toInt = 39 := by decide
theorem ti40 : (40 : Int32).toInt = 40 := by decide
theorem ti48 : (48 : Int32).toInt = 48 := by decide
theorem ti50 : (50 : Int32).toInt = 50 := by decide
theorem ti54 : (54 : Int32).toInt = 54 := by decide
theorem ti60 : (60 : Int32).toInt = 60 := by decide
theorem ti99 : (99 : Int32).toInt = 99 := by decide
theorem ti100 : (100 : Int32).toInt = 100 := by decide
theorem ti120 : (120 : Int32).toInt = 120 := by decide
theorem ti200 : (200 : Int32).toInt = 200 := by decide
theorem ti255 : (255 : Int32).toInt = 255 := by decide
theorem ti511 : (511 : Int32).toInt = 511 := by decide
theorem ti512 : (512 : Int32).toInt = 512 := by decide
theorem ti999 : (999 : Int32).toInt = 999 := by decide
theorem ti1000 : (1000 : Int32).toInt = 1000 := by decide
theorem tin1 : (-1 : Int32).toInt = -1 := by decide
theorem tin2 : (-2 : Int32).toInt = -2 := by decide
theorem tin3 : (-3 : Int32).toInt = -3 := by decide
theorem tin5 : (-5 : Int32).toInt = -5 := by decide
theorem tin9 : (-9 : Int32).toInt = -9 := by decide
theorem tin11 : (-11 : Int32).toInt = -11 := by decide
theorem tin12 : (-12 : Int32).toInt = -12 := by decide
theorem tin13 : (-13 : Int32).toInt = -13 := by decide
theorem tin14 : (-14 : Int32).toInt = -14 := by decide
theorem tl0 : (0 : Int64).toInt = 0 := by decide
theorem tl1 : (1 : Int64).toInt = 1 := by decide
theorem tl2 : (2 : Int64).toInt = 2 := by decide
theorem tl3 : (3 : Int64).toInt = 3 := by decide
theorem tl4 : (4 : Int64).toInt = 4 := by decide
theorem tl5 : (5 : Int64).toInt = 5 := by decide
theorem tl6 : (6 : Int64).toInt = 6 := by decide
theorem tl7 : (7 : Int64).toInt = 7 := by decide
theorem tl8 : (8 : Int64).toInt = 8 := by decide
theorem tl9 : (9 : Int64).toInt = 9 := by decide
theorem tl12 : (12 : Int64).toInt = 12 := by decide
theorem tl20 : (20 : Int64).toInt = 20 := by decide
theorem tl50 : (50 : Int64).toInt = 50 := by decide
theorem tl99 : (99 : Int64).toInt = 99 := by decide
theorem tl255 : (255 : Int64).toInt = 255 := by decide
theorem tl999 : (999 : Int64).toInt = 999 := by decide
theorem tln1 : (-1 : Int64).toInt = -1 := by decide
theorem tln2 : (-2 : Int64).toInt = -2 := by decide
theorem tln9 : (-9 : Int64).toInt = -9 := by decide
theorem mm_some_ite {c : Prop} [Decidable c] (a b : Int32) (q : mm_Q) : some ((if c then a else b), q) = if c then some (a, q) else some (b, q) := by
  by_cases h : c
  · rw [if_pos h, if_pos h]
  · rw [if_neg h, if_neg h]
/-- 1 where it holds, 0 where not -/
def mm_p (P : Prop) [Decidable P] : Int32 := if P then 1 else 0
theorem mm_p0 {P : Prop} [Decidable P] : mm_p P = 0 ↔ ¬ P := by
  unfold mm_p
  by_cases h : P
  · rw [if_pos h]; exact ⟨fun z => absurd z (by decide), fun z => absurd h z⟩
  · rw [if_neg h]; exact ⟨fun _ => h, fun _ => rfl⟩
theorem mm_p1 {P : Prop} [Decidable P] : mm_p P = 1 ↔ P := by
  unfold mm_p
  by_cases h : P
  · rw [if_pos h]; exact ⟨fun _ => h, fun _ => rfl⟩
  · rw [if_neg h]; exact ⟨fun z => absurd z (by decide), fun z => absurd z h⟩
theorem mm_pb {P : Prop} [Decidable P] : mm_bb (mm_p P) = true := by
  unfold mm_p
  by_cases h : P
  · rw [if_pos h]; decide
  · rw [if_neg h]; decide
theorem mm_p_congr {P R : Prop} [Decidable P] [Decidable R] (h : P ↔ R) : mm_p P = mm_p R := by
  unfold mm_p
  by_cases z : P
  · rw [if_pos z, if_pos (h.mp z)]
  · rw [if_neg z, if_neg (fun w => z (h.mpr w))]
theorem within_eq (v a b : Int64) (q : mm_Q) : x12_within v a b q = some (mm_p (a.toInt ≤ v.toInt ∧ v.toInt ≤ b.toInt), q) := by
  unfold x12_within mm_p
  simp only [mm_cmp_lt, mm_cmp_gt, lt64]
  by_cases h1 : v.toInt < a.toInt
  · rw [if_pos h1, if_neg (by omega)]
  · rw [if_neg h1]
    by_cases h2 : b.toInt < v.toInt
    · rw [if_pos h2, if_neg (by omega)]
    · rw [if_neg h2, if_pos (by omega)]
theorem isSpitter12_eq {q : mm_Q} (h : 0 ≤ (q.1 52 6).toInt) (v : Int64) : x12_isSpitter v q = some (mm_p (0 ≤ v.toInt ∧ v.toInt < (q.1 52 6).toInt), q) := by
  unfold x12_isSpitter
  have e : (q.1 52 6 - 1).toInt = (q.1 52 6).toInt - 1 := by
    have := mm_rng (q.1 52 6)
    have d : (1 : Int32).toInt = 1 := by decide
    rw [mm_sub_ti (by omega) (by omega), d]
  rw [within_eq, mm_cl_s, mm_ck_t mm_pb, mm_i64, e]
  congr 2
  apply mm_p_congr
  have d : (0 : Int64).toInt = 0 := by decide
  rw [d]
  omega
theorem isStone12_eq (a : Int32) (q : mm_Q) : x12_isStone a q = some (mm_p (0 ≤ a.toInt ∧ a.toInt ≤ 8), q) := by
  unfold x12_isStone
  rw [within_eq, mm_cl_s, mm_ck_t mm_pb, mm_i64]
  rfl
theorem isSpitter4_eq (a : Int32) (q : mm_Q) : x4_isSpitter a q = some (mm_p (0 ≤ a.toInt ∧ a.toInt < (q.1 8 1).toInt), q) := by
  unfold x4_isSpitter mm_p
  simp only [lt32, le32]
  have d : (0 : Int32).toInt = 0 := by decide
  rw [d]
  by_cases h1 : a.toInt < 0
  · rw [if_pos h1, if_neg (by omega)]
  · rw [if_neg h1]
    by_cases h2 : (q.1 8 1).toInt ≤ a.toInt
    · rw [if_pos h2, if_neg (by omega)]
    · rw [if_neg h2, if_pos (by omega)]
/-- where a number lies; -1: nowhere -/
def mm_pl (sp a1 a2 : Int32) : Int32 :=
  if 0 ≤ a2.toInt ∧ a2.toInt ≤ 4 then (if 0 ≤ a1.toInt ∧ a1.toInt < sp.toInt then a2 * 6 + a1 else -1)
  else if 5 ≤ a2.toInt ∧ a2.toInt ≤ 6 then (if 0 ≤ a1.toInt ∧ a1.toInt ≤ 8 then 30 + (a2 - 5) * 9 + a1 else -1)
  else if 7 ≤ a2.toInt ∧ a2.toInt ≤ 12 ∧ a1.toInt = 0 then 48 + a2 - 7 else -1
theorem cellOf_eq (a1 a2 : Int32) (q : mm_Q) : x4_cellOf a1 a2 q = some (mm_pl (q.1 8 1) a1 a2, q) := by
  unfold x4_cellOf mm_pl
  simp only [lt32, le32, eq32, ti0, ti5, ti7, ti9, ti12]
  repeat' split
  all_goals first | rfl | (exfalso; omega)
theorem placeOf_eq {q : mm_Q} (h : 0 ≤ (q.1 52 6).toInt) (a1 a2 : Int32) : x12_placeOf a1 a2 q = some (mm_pl (q.1 52 6) a1 a2, q) := by
  unfold x12_placeOf mm_pl
  simp only [within_eq, mm_cl_s, mm_p0, isStone12_eq, isSpitter12_eq h, mm_i64]
  simp only [eq32, ti0, tl0, tl4, tl5, tl6, tl7, tl12, Int32.mul_comm 6 a2, Int32.mul_comm 9 (a2 - 5)]
  repeat' split
  all_goals first | rfl | (exfalso; omega)
theorem mm_mul_ti {a b : Int32} (h1 : -2147483648 ≤ a.toInt * b.toInt) (h2 : a.toInt * b.toInt < 2147483648) : (a * b).toInt = a.toInt * b.toInt := by
  rw [Int32.toInt_mul, Int.bmod_eq_of_le (by omega) (by omega)]
/-- a place that is one: whose number it is -/
theorem mm_pl_own {sp a1 a2 : Int32} (hs : sp.toInt ≤ 6) (h : ¬ mm_pl sp a1 a2 < 0) : ∃ c : Nat, mm_own sp c ∧ mm_pl sp a1 a2 = Int32.ofNat c ∧ (mm_wh c : Int) = a2.toInt ∧ (mm_pl sp a1 a2).toInt = c := by
  have hm : (-1 : Int32) < 0 := by decide
  unfold mm_pl at h ⊢
  have d6 : (6 : Int32).toInt = 6 := by decide
  have d5 : (5 : Int32).toInt = 5 := by decide
  have d7 : (7 : Int32).toInt = 7 := by decide
  have d9 : (9 : Int32).toInt = 9 := by decide
  have d30 : (30 : Int32).toInt = 30 := by decide
  have d48 : (48 : Int32).toInt = 48 := by decide
  have fin : ∀ (x : Int32) (c : Nat), x.toInt = c → x = Int32.ofNat c := fun x c hx => Int32.toInt_inj.mp (by have := mm_rng x; rw [mm_ofNat_ti (by omega)]; exact hx)
  by_cases h1 : 0 ≤ a2.toInt ∧ a2.toInt ≤ 4
  · rw [if_pos h1] at h ⊢
    by_cases h2 : 0 ≤ a1.toInt ∧ a1.toInt < sp.toInt
    · rw [if_pos h2] at h ⊢
      have e1 : (a2 * 6).toInt = a2.toInt * 6 := by rw [mm_mul_ti (by rw [d6]; omega) (by rw [d6]; omega), d6]
      have e2 : (a2 * 6 + a1).toInt = a2.toInt * 6 + a1.toInt := by rw [mm_add_ti (by omega) (by omega), e1]
      refine ⟨(a2.toInt * 6 + a1.toInt).toNat, ⟨by omega, fun _ => by omega⟩, fin _ _ (by omega), ?_, by omega⟩
      unfold mm_wh
      rw [if_pos (by omega)]
      omega
    · rw [if_neg h2] at h; exact absurd hm h
  rw [if_neg h1] at h ⊢
  by_cases h3 : 5 ≤ a2.toInt ∧ a2.toInt ≤ 6
  · rw [if_pos h3] at h ⊢
    by_cases h2 : 0 ≤ a1.toInt ∧ a1.toInt ≤ 8
    · rw [if_pos h2] at h ⊢
      have e0 : (a2 - 5).toInt = a2.toInt - 5 := by rw [mm_sub_ti (by omega) (by omega), d5]
      have e1 : ((a2 - 5) * 9).toInt = (a2.toInt - 5) * 9 := by rw [mm_mul_ti (by rw [e0, d9]; omega) (by rw [e0, d9]; omega), e0, d9]
      have e2 : (30 + (a2 - 5) * 9).toInt = 30 + (a2.toInt - 5) * 9 := by rw [mm_add_ti (by omega) (by omega), e1, d30]
      have e3 : (30 + (a2 - 5) * 9 + a1).toInt = 30 + (a2.toInt - 5) * 9 + a1.toInt := by rw [mm_add_ti (by omega) (by omega), e2]
      refine ⟨(30 + (a2.toInt - 5) * 9 + a1.toInt).toNat, ⟨by omega, fun _ => by omega⟩, fin _ _ (by omega), ?_, by omega⟩
      unfold mm_wh
      rw [if_neg (by omega)]
      by_cases h6 : (30 + (a2.toInt - 5) * 9 + a1.toInt).toNat < 39
      · rw [if_pos h6]; omega
      · rw [if_neg h6, if_pos (by omega)]; omega
    · rw [if_neg h2] at h; exact absurd hm h
  rw [if_neg h3] at h ⊢
  by_cases h4 : 7 ≤ a2.toInt ∧ a2.toInt ≤ 12 ∧ a1.toInt = 0
  · rw [if_pos h4] at h ⊢
    have e1 : (48 + a2).toInt = 48 + a2.toInt := by rw [mm_add_ti (by omega) (by omega), d48]
    have e2 : (48 + a2 - 7).toInt = 48 + a2.toInt - 7 := by rw [mm_sub_ti (by omega) (by omega), e1, d7]
    refine ⟨(48 + a2.toInt - 7).toNat, ⟨by omega, fun _ => by omega⟩, fin _ _ (by omega), ?_, by omega⟩
    unfold mm_wh
    rw [if_neg (by omega), if_neg (by omega), if_neg (by omega)]
    omega
  · rw [if_neg h4] at h; exact absurd hm h
theorem mm_tcn {x : Int32} {c : Nat} (h : x.toInt = c) : x.toNatClampNeg = c := by
  unfold Int32.toNatClampNeg
  omega
theorem mm_inb_c {x : Int32} {c n : Nat} (h : x.toInt = c) (hc : c < n) : mm_inb x n = true := mm_inb_of (by omega) (by omega)
theorem numberIn_eq {x : Int32} {c : Nat} (h : x.toInt = c) (hc : c < 54) (q : mm_Q) : x4_numberIn x q = some (q.1 9 c, q) := by
  unfold x4_numberIn
  have d54 : (54 : Int32).toInt = 54 := by decide
  have d0 : (0 : Int32).toInt = 0 := by decide
  rw [if_neg (by rw [lt32, d0]; omega), if_neg (by rw [le32, d54]; omega), mm_ck_t (mm_inb_c h hc), mm_tcn h]
section IV
variable {LR : mm_LR}
theorem pr_of (v0 v1 : Int32) : mm_pr (mm_Iv LR) (x11_of v0 v1) (x12_of v0 v1) := by
  intro q h
  have hl := h.2.1
  have hs : 0 ≤ (q.1 52 6).toInt := by rw [hl.2.1]; exact hl.1.1
  by_cases c : mm_pl (q.1 8 1) v0 v1 < 0
  · refine ⟨-2000000000, q, q, ?_, rfl, ?_, h⟩
    · unfold x11_of
      rw [cellOf_eq, mm_cl_s, if_neg (Int32.not_le.mpr c)]
    · unfold x12_of
      rw [placeOf_eq hs, mm_cl_s, hl.2.1, if_pos c]
  · obtain ⟨k, hk, e1, -, e3⟩ := mm_pl_own hl.1.2 c
    refine ⟨q.1 9 k, q, q, ?_, rfl, ?_, h⟩
    · unfold x11_of
      rw [cellOf_eq, mm_cl_s, if_pos (Int32.not_lt.mp c), numberIn_eq e3 hk.1, mm_cl_s]
    · unfold x12_of
      rw [placeOf_eq hs, mm_cl_s, hl.2.1, if_neg c, mm_ck_t (mm_inb_c e3 hk.1), mm_tcn e3, hl.2.2.1 k hk.1]
end IV
