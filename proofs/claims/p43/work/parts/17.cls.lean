/-! of the class alone: out of the rows of the whole claim (wip/p43/extract2.py) -/
theorem mm_cmp_self (x : Int64) : lg_cmp x x = 0 := by
  unfold lg_cmp
  rw [if_neg (Int64.lt_irrefl (a := x)), if_pos rfl]
theorem mm_inb_of {i : Int32} {n : Nat} (h0 : 0 ≤ i.toInt) (h1 : i.toInt < n) : mm_inb i n = true := by
  unfold mm_inb
  rw [Bool.and_eq_true]
  refine ⟨decide_eq_true (Int32.le_iff_toInt_le.mpr (by simpa using h0)), decide_eq_true ?_⟩
  unfold Int32.toNatClampNeg
  omega
theorem mm_add_ti {a b : Int32} (h1 : -2147483648 ≤ a.toInt + b.toInt) (h2 : a.toInt + b.toInt < 2147483648) : (a + b).toInt = a.toInt + b.toInt := by
  rw [Int32.toInt_add, Int.bmod_eq_of_le (by omega) (by omega)]
theorem mm_sub_ti {a b : Int32} (h1 : -2147483648 ≤ a.toInt - b.toInt) (h2 : a.toInt - b.toInt < 2147483648) : (a - b).toInt = a.toInt - b.toInt := by
  rw [Int32.toInt_sub, Int.bmod_eq_of_le (by omega) (by omega)]
theorem mm_ofNat_ti {n : Nat} (h : n < 2147483648) : (Int32.ofNat n).toInt = n := Int32.toInt_ofNat_of_lt h
theorem mm_cmp_lt (x y : Int64) : lg_cmp x y < 0 ↔ x < y := by
  unfold lg_cmp
  by_cases h : x > y
  · rw [if_pos h]
    exact ⟨fun z => absurd z (by decide), fun z => absurd (Int64.lt_trans z h) (Int64.lt_irrefl)⟩
  · rw [if_neg h]
    by_cases h2 : x = y
    · rw [if_pos h2]
      exact ⟨fun z => absurd z (by decide), fun z => absurd z (by rw [h2]; exact Int64.lt_irrefl)⟩
    · rw [if_neg h2]
      refine ⟨fun _ => ?_, fun _ => by decide⟩
      rw [Int64.lt_iff_toInt_lt]
      have h3 : ¬ y.toInt < x.toInt := fun z => h (Int64.lt_iff_toInt_lt.mpr z)
      have h4 : ¬ x.toInt = y.toInt := fun z => h2 (Int64.toInt_inj.mp z)
      omega
theorem mm_cmp_gt (x y : Int64) : 0 < lg_cmp x y ↔ y < x := by
  unfold lg_cmp
  by_cases h : x > y
  · rw [if_pos h]
    exact ⟨fun _ => h, fun _ => by decide⟩
  · rw [if_neg h]
    by_cases h2 : x = y
    · rw [if_pos h2]
      exact ⟨fun z => absurd z (by decide), fun z => absurd z h⟩
    · rw [if_neg h2]
      exact ⟨fun z => absurd z (by decide), fun z => absurd z h⟩
theorem mm_cmp_eq (x y : Int64) : lg_cmp x y = 0 ↔ x = y := by
  unfold lg_cmp
  by_cases h : x > y
  · rw [if_pos h]
    exact ⟨fun z => absurd z (by decide), fun z => absurd h (by rw [z]; exact Int64.lt_irrefl)⟩
  · rw [if_neg h]
    by_cases h2 : x = y
    · rw [if_pos h2]
      exact ⟨fun _ => h2, fun _ => rfl⟩
    · rw [if_neg h2]
      exact ⟨fun z => absurd z (by decide), fun z => absurd z h2⟩
theorem mm_cmp_ge (x y : Int64) : 0 ≤ lg_cmp x y ↔ y ≤ x := by
  rw [← Int32.not_lt, ← Int64.not_lt]
  exact not_congr (mm_cmp_lt x y)
theorem mm_cmp_le (x y : Int64) : lg_cmp x y ≤ 0 ↔ x ≤ y := by
  rw [← Int32.not_lt, ← Int64.not_lt]
  exact not_congr (mm_cmp_gt x y)
theorem mm_i64 (x : Int32) : x.toInt64.toInt = x.toInt := Int32.toInt_toInt64 x
theorem mm_ck_t {α : Type} {b : Bool} {e : Option α} (h : b = true) : mm_ck b e = e := by rw [h]; rfl
theorem mm_cl_s {α β : Type} (r : β) (q : mm_Q) (f : β → mm_Q → Option α) : mm_cl (some (r, q)) f = f r q := rfl
theorem mm_lt_s {α β : Type} (v : β) (f : β → Option α) : mm_lt v f = f v := rfl
def mm_wh (j : Nat) : Nat := if j < 30 then j / 6 else if j < 39 then 5 else if j < 48 then 6 else j - 41
def mm_okc (j : Nat) (v : Int32) : Prop := (mm_t2.getD (mm_wh j) 0).toInt ≤ v.toInt ∧ v.toInt ≤ (mm_t3.getD (mm_wh j) 0).toInt
def mm_own (sp : Int32) (j : Nat) : Prop := j < 54 ∧ (j < 30 → ((j % 6 : Nat) : Int) < sp.toInt)
theorem lt32 {a b : Int32} : a < b ↔ a.toInt < b.toInt := Int32.lt_iff_toInt_lt
theorem le32 {a b : Int32} : a ≤ b ↔ a.toInt ≤ b.toInt := Int32.le_iff_toInt_le
theorem lt64 {a b : Int64} : a < b ↔ a.toInt < b.toInt := Int64.lt_iff_toInt_lt
theorem le64 {a b : Int64} : a ≤ b ↔ a.toInt ≤ b.toInt := Int64.le_iff_toInt_le
theorem eq32 {a b : Int32} : a = b ↔ a.toInt = b.toInt := Int32.toInt_inj.symm
theorem mm_rng (a : Int32) : -2147483648 ≤ a.toInt ∧ a.toInt < 2147483648 := ⟨Int32.le_toInt a, Int32.toInt_lt a⟩
theorem ti0 : (0 : Int32).toInt = 0 := by decide
theorem ti1 : (1 : Int32).toInt = 1 := by decide
theorem ti2 : (2 : Int32).toInt = 2 := by decide
theorem ti3 : (3 : Int32).toInt = 3 := by decide
theorem ti4 : (4 : Int32).toInt = 4 := by decide
theorem ti5 : (5 : Int32).toInt = 5 := by decide
theorem ti6 : (6 : Int32).toInt = 6 := by decide
theorem ti7 : (7 : Int32).toInt = 7 := by decide
theorem ti8 : (8 : Int32).toInt = 8 := by decide
theorem ti9 : (9 : Int32).toInt = 9 := by decide
theorem ti10 : (10 : Int32).toInt = 10 := by decide
theorem ti12 : (12 : Int32).toInt = 12 := by decide
theorem ti13 : (13 : Int32).toInt = 13 := by decide
theorem ti18 : (18 : Int32).toInt = 18 := by decide
theorem ti20 : (20 : Int32).toInt = 20 := by decide
theorem ti24 : (24 : Int32).toInt = 24 := by decide
theorem ti30 : (30 : Int32).toInt = 30 := by decide
theorem ti36 : (36 : Int32).toInt = 36 := by decide
theorem ti39 : (39 : Int32).toInt = 39 := by decide
theorem ti40 : (40 : Int32).toInt = 40 := by decide
theorem ti48 : (48 : Int32).toInt = 48 := by decide
theorem ti50 : (50 : Int32).toInt = 50 := by decide
theorem ti54 : (54 : Int32).toInt = 54 := by decide
theorem ti60 : (60 : Int32).toInt = 60 := by decide
theorem ti99 : (99 : Int32).toInt = 99 := by decide
theorem ti100 : (100 : Int32).toInt = 100 := by decide
theorem ti120 : (120 : Int32).toInt = 120 := by decide
theorem ti200 : (200 : Int32).toInt = 200 := by decide
theorem ti255 : (255 : Int32).toInt = 255 := by decide
theorem ti511 : (511 : Int32).toInt = 511 := by decide
theorem ti512 : (512 : Int32).toInt = 512 := by decide
theorem ti999 : (999 : Int32).toInt = 999 := by decide
theorem ti1000 : (1000 : Int32).toInt = 1000 := by decide
theorem tin1 : (-1 : Int32).toInt = -1 := by decide
theorem tin2 : (-2 : Int32).toInt = -2 := by decide
theorem tin5 : (-5 : Int32).toInt = -5 := by decide
theorem tl0 : (0 : Int64).toInt = 0 := by decide
theorem tl1 : (1 : Int64).toInt = 1 := by decide
theorem tl2 : (2 : Int64).toInt = 2 := by decide
theorem tl12 : (12 : Int64).toInt = 12 := by decide
theorem tln1 : (-1 : Int64).toInt = -1 := by decide
theorem mm_some_ite {c : Prop} [Decidable c] (a b : Int32) (q : mm_Q) : some ((if c then a else b), q) = if c then some (a, q) else some (b, q) := by
  by_cases h : c
  · rw [if_pos h, if_pos h]
  · rw [if_neg h, if_neg h]
def mm_p (P : Prop) [Decidable P] : Int32 := if P then 1 else 0
theorem mm_p0 {P : Prop} [Decidable P] : mm_p P = 0 ↔ ¬ P := by
  unfold mm_p
  by_cases h : P
  · rw [if_pos h]; exact ⟨fun z => absurd z (by decide), fun z => absurd h z⟩
  · rw [if_neg h]; exact ⟨fun _ => h, fun _ => rfl⟩
theorem mm_p1 {P : Prop} [Decidable P] : mm_p P = 1 ↔ P := by
  unfold mm_p
  by_cases h : P
  · rw [if_pos h]; exact ⟨fun _ => h, fun _ => rfl⟩
  · rw [if_neg h]; exact ⟨fun z => absurd z (by decide), fun z => absurd z h⟩
theorem mm_pb {P : Prop} [Decidable P] : mm_bb (mm_p P) = true := by
  unfold mm_p
  by_cases h : P
  · rw [if_pos h]; decide
  · rw [if_neg h]; decide
theorem mm_p_congr {P R : Prop} [Decidable P] [Decidable R] (h : P ↔ R) : mm_p P = mm_p R := by
  unfold mm_p
  by_cases z : P
  · rw [if_pos z, if_pos (h.mp z)]
  · rw [if_neg z, if_neg (fun w => z (h.mpr w))]
theorem isSpitter4_eq (a : Int32) (q : mm_Q) : x4_isSpitter a q = some (mm_p (0 ≤ a.toInt ∧ a.toInt < (q.1 8 1).toInt), q) := by
  unfold x4_isSpitter mm_p
  simp only [lt32, le32]
  have d : (0 : Int32).toInt = 0 := by decide
  rw [d]
  by_cases h1 : a.toInt < 0
  · rw [if_pos h1, if_neg (by omega)]
  · rw [if_neg h1]
    by_cases h2 : (q.1 8 1).toInt ≤ a.toInt
    · rw [if_pos h2, if_neg (by omega)]
    · rw [if_neg h2, if_pos (by omega)]
def mm_pl (sp a1 a2 : Int32) : Int32 :=
  if 0 ≤ a2.toInt ∧ a2.toInt ≤ 4 then (if 0 ≤ a1.toInt ∧ a1.toInt < sp.toInt then a2 * 6 + a1 else -1)
  else if 5 ≤ a2.toInt ∧ a2.toInt ≤ 6 then (if 0 ≤ a1.toInt ∧ a1.toInt ≤ 8 then 30 + (a2 - 5) * 9 + a1 else -1)
  else if 7 ≤ a2.toInt ∧ a2.toInt ≤ 12 ∧ a1.toInt = 0 then 48 + a2 - 7 else -1
theorem cellOf_eq (a1 a2 : Int32) (q : mm_Q) : x4_cellOf a1 a2 q = some (mm_pl (q.1 8 1) a1 a2, q) := by
  unfold x4_cellOf mm_pl
  simp only [lt32, le32, eq32, ti0, ti5, ti7, ti9, ti12]
  repeat' split
  all_goals first | rfl | (exfalso; omega)
theorem mm_mul_ti {a b : Int32} (h1 : -2147483648 ≤ a.toInt * b.toInt) (h2 : a.toInt * b.toInt < 2147483648) : (a * b).toInt = a.toInt * b.toInt := by
  rw [Int32.toInt_mul, Int.bmod_eq_of_le (by omega) (by omega)]
theorem mm_pl_own {sp a1 a2 : Int32} (hs : sp.toInt ≤ 6) (h : ¬ mm_pl sp a1 a2 < 0) : ∃ c : Nat, mm_own sp c ∧ mm_pl sp a1 a2 = Int32.ofNat c ∧ (mm_wh c : Int) = a2.toInt ∧ (mm_pl sp a1 a2).toInt = c := by
  have hm : (-1 : Int32) < 0 := by decide
  unfold mm_pl at h ⊢
  have d6 : (6 : Int32).toInt = 6 := by decide
  have d5 : (5 : Int32).toInt = 5 := by decide
  have d7 : (7 : Int32).toInt = 7 := by decide
  have d9 : (9 : Int32).toInt = 9 := by decide
  have d30 : (30 : Int32).toInt = 30 := by decide
  have d48 : (48 : Int32).toInt = 48 := by decide
  have fin : ∀ (x : Int32) (c : Nat), x.toInt = c → x = Int32.ofNat c := fun x c hx => Int32.toInt_inj.mp (by have := mm_rng x; rw [mm_ofNat_ti (by omega)]; exact hx)
  by_cases h1 : 0 ≤ a2.toInt ∧ a2.toInt ≤ 4
  · rw [if_pos h1] at h ⊢
    by_cases h2 : 0 ≤ a1.toInt ∧ a1.toInt < sp.toInt
    · rw [if_pos h2] at h ⊢
      have e1 : (a2 * 6).toInt = a2.toInt * 6 := by rw [mm_mul_ti (by rw [d6]; omega) (by rw [d6]; omega), d6]
      have e2 : (a2 * 6 + a1).toInt = a2.toInt * 6 + a1.toInt := by rw [mm_add_ti (by omega) (by omega), e1]
      refine ⟨(a2.toInt * 6 + a1.toInt).toNat, ⟨by omega, fun _ => by omega⟩, fin _ _ (by omega), ?_, by omega⟩
      unfold mm_wh
      rw [if_pos (by omega)]
      omega
    · rw [if_neg h2] at h; exact absurd hm h
  rw [if_neg h1] at h ⊢
  by_cases h3 : 5 ≤ a2.toInt ∧ a2.toInt ≤ 6
  · rw [if_pos h3] at h ⊢
    by_cases h2 : 0 ≤ a1.toInt ∧ a1.toInt ≤ 8
    · rw [if_pos h2] at h ⊢
      have e0 : (a2 - 5).toInt = a2.toInt - 5 := by rw [mm_sub_ti (by omega) (by omega), d5]
      have e1 : ((a2 - 5) * 9).toInt = (a2.toInt - 5) * 9 := by rw [mm_mul_ti (by rw [e0, d9]; omega) (by rw [e0, d9]; omega), e0, d9]
      have e2 : (30 + (a2 - 5) * 9).toInt = 30 + (a2.toInt - 5) * 9 := by rw [mm_add_ti (by omega) (by omega), e1, d30]
      have e3 : (30 + (a2 - 5) * 9 + a1).toInt = 30 + (a2.toInt - 5) * 9 + a1.toInt := by rw [mm_add_ti (by omega) (by omega), e2]
      refine ⟨(30 + (a2.toInt - 5) * 9 + a1.toInt).toNat, ⟨by omega, fun _ => by omega⟩, fin _ _ (by omega), ?_, by omega⟩
      unfold mm_wh
      rw [if_neg (by omega)]
      by_cases h6 : (30 + (a2.toInt - 5) * 9 + a1.toInt).toNat < 39
      · rw [if_pos h6]; omega
      · rw [if_neg h6, if_pos (by omega)]; omega
    · rw [if_neg h2] at h; exact absurd hm h
  rw [if_neg h3] at h ⊢
  by_cases h4 : 7 ≤ a2.toInt ∧ a2.toInt ≤ 12 ∧ a1.toInt = 0
  · rw [if_pos h4] at h ⊢
    have e1 : (48 + a2).toInt = 48 + a2.toInt := by rw [mm_add_ti (by omega) (by omega), d48]
    have e2 : (48 + a2 - 7).toInt = 48 + a2.toInt - 7 := by rw [mm_sub_ti (by omega) (by omega), e1, d7]
    refine ⟨(48 + a2.toInt - 7).toNat, ⟨by omega, fun _ => by omega⟩, fin _ _ (by omega), ?_, by omega⟩
    unfold mm_wh
    rw [if_neg (by omega), if_neg (by omega), if_neg (by omega)]
    omega
  · rw [if_neg h4] at h; exact absurd hm h
theorem mm_tcn {x : Int32} {c : Nat} (h : x.toInt = c) : x.toNatClampNeg = c := by
  unfold Int32.toNatClampNeg
  omega
theorem mm_inb_c {x : Int32} {c n : Nat} (h : x.toInt = c) (hc : c < n) : mm_inb x n = true := mm_inb_of (by omega) (by omega)
theorem numberIn_eq {x : Int32} {c : Nat} (h : x.toInt = c) (hc : c < 54) (q : mm_Q) : x4_numberIn x q = some (q.1 9 c, q) := by
  unfold x4_numberIn
  have d54 : (54 : Int32).toInt = 54 := by decide
  have d0 : (0 : Int32).toInt = 0 := by decide
  rw [if_neg (by rw [lt32, d0]; omega), if_neg (by rw [le32, d54]; omega), mm_ck_t (mm_inb_c h hc), mm_tcn h]
theorem mm_lin {a b c : Int32} {k m n : Nat} (hb : b.toInt = k) (ha : a.toInt = m) (hc : c.toInt = n) (h : m * k + n < 1000) : (a * b + c).toInt = ((m * k + n : Nat) : Int) := by
  have e0 : a.toInt * b.toInt = ((m * k : Nat) : Int) := by rw [ha, hb, Int.natCast_mul]
  have e1 : (a * b).toInt = ((m * k : Nat) : Int) := by rw [mm_mul_ti (by omega) (by omega), e0]
  rw [mm_add_ti (by omega) (by omega), e1, hc, Int.natCast_add]
theorem mm_lin0 {a b : Int32} {k m : Nat} (hb : b.toInt = k) (ha : a.toInt = m) (h : m * k < 1000) : (a * b).toInt = ((m * k : Nat) : Int) := by
  have e0 : a.toInt * b.toInt = ((m * k : Nat) : Int) := by rw [ha, hb, Int.natCast_mul]
  rw [mm_mul_ti (by omega) (by omega), e0]
theorem mm_inc1 {a : Int32} {k : Nat} (h : a.toInt = k) (hk : k < 100000) : (a + 1).toInt = ((k + 1 : Nat) : Int) := by
  rw [mm_add_ti (by rw [ti1]; omega) (by rw [ti1]; omega), ti1]
  omega
theorem si9_1 (q : mm_Q) (j : Nat) (x : Int32) : (mm_si q 9 j x).1 1 = q.1 1 := rfl
theorem si8_1 (q : mm_Q) (j : Nat) (x : Int32) : (mm_si q 8 j x).1 1 = q.1 1 := rfl
theorem write_eq {x : Int32} {c : Nat} (h : x.toInt = c) (hc : c < 54) (v : Int32) (q : mm_Q) : x4_write x v q = some ((), mm_si q 9 c v) := by
  unfold x4_write
  rw [if_neg (by rw [lt32, ti0]; omega), if_neg (by rw [le32, ti54]; omega), mm_ck_t (mm_inb_c h hc), mm_tcn h]
  rfl
theorem mm_addc {a b : Int32} {m n : Nat} (ha : a.toInt = m) (hb : b.toInt = n) (h : m + n < 1000) : (a + b).toInt = ((m + n : Nat) : Int) := by
  rw [mm_add_ti (by omega) (by omega), ha, hb, Int.natCast_add]
theorem welcome_eq {q : mm_Q} (ht : ∀ j, q.1 1 j = mm_t1.getD j 0) {n : Nat} (hn : (q.1 8 1).toInt = n) (h6 : n < 6) (a b c : Int32) : x4_welcome a b c q = some (q.1 8 1, mm_si (mm_si (mm_si (mm_si (mm_si (mm_si q 8 1 (q.1 8 1 + 1)) 9 n a) 9 (6 + n) b) 9 (12 + n) c) 9 (18 + n) 0) 9 (24 + n) 10) := by
  have e0 : (0 + q.1 8 1).toInt = (n : Int) := by have := mm_addc (m := 0) ti0 hn (by omega); rw [this]; omega
  have e1 := mm_addc (m := 6) ti6 hn (by omega)
  have e2 := mm_addc (m := 12) ti12 hn (by omega)
  have e3 := mm_addc (m := 18) ti18 hn (by omega)
  have e4 := mm_addc (m := 24) ti24 hn (by omega)
  unfold x4_welcome
  rw [mm_lt_s, write_eq e0 (by omega), mm_cl_s, write_eq e1 (by omega), mm_cl_s, write_eq e2 (by omega), mm_cl_s]
  simp only [si9_1, si8_1, ht]
  rw [show mm_t1.getD 3 0 = 0 from rfl, write_eq e3 (by omega), mm_cl_s]
  simp only [si9_1, si8_1, ht]
  rw [show mm_t1.getD 4 0 = 10 from rfl, write_eq e4 (by omega), mm_cl_s]
theorem isWithin_eq {q : mm_Q} (h2 : ∀ j, q.1 2 j = mm_t2.getD j 0) (h3 : ∀ j, q.1 3 j = mm_t3.getD j 0) {k : Int32} {n : Nat} (hk : k.toInt = n) (hn : n ≤ 12) (v : Int64) : x4_isWithin k v q = some (mm_p ((mm_t2.getD n 0).toInt ≤ v.toInt ∧ v.toInt ≤ (mm_t3.getD n 0).toInt), q) := by
  unfold x4_isWithin
  rw [if_neg (by rw [lt32, ti0]; omega), if_neg (by rw [lt32, ti12]; omega), mm_ck_t (mm_inb_c hk (by omega)), mm_ck_t (mm_inb_c hk (by omega)), mm_tcn hk, h2, h3]
  simp only [mm_cmp_lt, mm_cmp_gt, lt64, mm_i64]
  unfold mm_p
  by_cases c1 : v.toInt < (mm_t2.getD n 0).toInt
  · rw [if_pos c1, if_neg (by omega)]
  · rw [if_neg c1]
    by_cases c2 : (mm_t3.getD n 0).toInt < v.toInt
    · rw [if_pos c2, if_neg (by omega)]
    · rw [if_neg c2, if_pos (by omega)]
theorem note_eq {q : mm_Q} {n : Nat} (hn : (q.1 31 3).toInt = n) (h40 : n < 40) (a b c : Int32) : x1_note_j13 a b c q = some ((), mm_si (mm_si (mm_si (mm_si (mm_si q 32 n a) 33 n b) 34 n c) 31 3 (q.1 31 3 + 1)) 31 4 (q.1 31 3 + 1)) := by
  have hin : mm_inb (q.1 31 3) 40 = true := mm_inb_c hn h40
  unfold x1_note_j13 x1_note_j69
  rw [if_neg (by rw [lt32, ti0]; omega), if_neg (by rw [le32, ti40]; omega), mm_ck_t hin, mm_tcn hn, mm_lt_s]
  rw [show (mm_si q 32 n a).1 31 3 = q.1 31 3 from rfl, mm_ck_t hin, mm_tcn hn, mm_lt_s]
  rw [show (mm_si (mm_si q 32 n a) 33 n b).1 31 3 = q.1 31 3 from rfl, mm_ck_t hin, mm_tcn hn, mm_lt_s]
  rfl
theorem mm_sj_ne (q : mm_Q) (a i : Nat) (v : Int64) {k : Nat} (h : k ≠ a) : (mm_sj q a i v).2 k = q.2 k := mm_uc_ne _ _ h
theorem mm_sj_self (q : mm_Q) (a i : Nat) (v : Int64) : (mm_sj q a i v).2 a = vp_updL (q.2 a) i v := mm_uc_self _ _ _
theorem mm_si_ne (q : mm_Q) (a i : Nat) (v : Int32) {k : Nat} (h : k ≠ a) : (mm_si q a i v).1 k = q.1 k := mm_uc_ne _ _ h
theorem mm_si_self (q : mm_Q) (a i : Nat) (v : Int32) : (mm_si q a i v).1 a = upd (q.1 a) i v := mm_uc_self _ _ _
abbrev mm_F : Type := Int32 → Int32 → Int32 → Int32 → Int32 → Int32 → Int32
def fr (S : List Nat) (q q' : mm_Q) : Prop := q'.2 = q.2 ∧ ∀ k, k ∉ S → q'.1 k = q.1 k
theorem fr_rfl (S : List Nat) (q : mm_Q) : fr S q q := ⟨rfl, fun _ _ => rfl⟩
theorem fr_trans {S : List Nat} {q q1 q2 : mm_Q} (h1 : fr S q q1) (h2 : fr S q1 q2) : fr S q q2 := ⟨h2.1.trans h1.1, fun k hk => (h2.2 k hk).trans (h1.2 k hk)⟩
theorem fr_mono {S T : List Nat} {q q1 : mm_Q} (h : fr S q q1) (hs : ∀ k, k ∈ S → k ∈ T) : fr T q q1 := ⟨h.1, fun k hk => h.2 k (fun z => hk (hs k z))⟩
theorem fr_si {S : List Nat} {k : Nat} (q : mm_Q) (j : Nat) (x : Int32) (h : k ∈ S) : fr S q (mm_si q k j x) := ⟨rfl, fun a ha => mm_si_ne q k j x (fun z => ha (z ▸ h))⟩
def mm_F0 : mm_F := fun a p z w e t => ((((p * (9 - mm_abs (a - 4))) * 2 + 6 * w) - (z * z) / 2) + e * a) - t
def cl (x : Int32) : Int32 := mm_max 0 (mm_mn 999 x)
def lc (F : mm_F) (c11 : Nat → Int32) (len : Int32) : Prop := (len = 0 ∧ F = mm_F0) ∨ (0 < len.toInt ∧ ∀ (q : mm_Q) (a p z w e t : Int32), q.1 11 = c11 → q.1 10 3 = len → ∃ q', x5_worth a p z w e t q = some (F a p z w e t, q') ∧ fr [12, 13] q q')
def LN (F : mm_F) (g : Nat → Int32) (a r : Int32) : Int32 := cl (F a (if r = 1 then g 2 + 3 else g 2) (g 3) (g 4) (g 6) (g 5))
theorem landing_eq {F : mm_F} {q : mm_Q} (h : lc F (q.1 11) (q.1 10 3)) (a r : Int32) : ∃ q', x10_landing a r q = some (LN F (q.1 14) a r, q') ∧ fr [12, 13] q q' := by
  have key : ∀ s : Int32, ∃ q', x10_landing_j18 a s q = some (cl (F a s (q.1 14 3) (q.1 14 4) (q.1 14 6) (q.1 14 5)), q') ∧ fr [12, 13] q q' := by
    intro s
    unfold x10_landing_j18 x5_isTold
    rcases h with ⟨h0, hF⟩ | ⟨h0, hf⟩
    · refine ⟨q, ?_, fr_rfl _ _⟩
      rw [if_pos (by rw [h0]; decide), mm_cl_s, if_pos rfl]
      unfold x10_withoutText x10_landing_j63
      rw [mm_cl_s, hF]
      rfl
    · rw [if_neg (by rw [le32, ti0]; omega), mm_cl_s, if_neg (by decide)]
      obtain ⟨q', e, f⟩ := hf q a s (q.1 14 3) (q.1 14 4) (q.1 14 6) (q.1 14 5) rfl rfl
      refine ⟨q', ?_, f⟩
      rw [e, mm_cl_s]
      rfl
  unfold x10_landing LN
  by_cases c : r = 1
  · rw [if_pos c, if_pos c]
    exact key _
  · rw [if_neg c, if_neg c]
    exact key _
abbrev inB (c : Nat → Int32) (l : Int32) : Prop := c 50 - c 51 ≤ l ∧ l ≤ c 50 + c 51
def stp (c : Nat → Int32) (l : Int32) : Int32 := if inB c l then l else if l < c 49 then mm_mn (l + l / 10) (c 49) else l
def pnt (c : Nat → Int32) (l : Int32) : Int32 := if l = c 52 then 0 else if inB c l then stp c l / 10 + 30 else stp c l / 10
theorem isInBarrel_eq (l : Int32) (q : mm_Q) : x4_isInBarrel l q = some (mm_p (inB (q.1 9) l), q) := by
  unfold x4_isInBarrel mm_p inB
  by_cases h1 : l < q.1 9 50 - q.1 9 51
  · rw [if_pos h1, if_neg (fun z => Int32.not_le.mpr h1 z.1)]
  · rw [if_neg h1]
    by_cases h2 : q.1 9 50 + q.1 9 51 < l
    · rw [if_pos h2, if_neg (fun z => Int32.not_le.mpr h2 z.2)]
    · rw [if_neg h2, if_pos ⟨Int32.not_lt.mp h1, Int32.not_lt.mp h2⟩]
theorem isHit_eq (l : Int32) (q : mm_Q) : x4_isHit l q = some (mm_p (l = q.1 9 52), q) := by
  unfold x4_isHit mm_p
  by_cases h : l = q.1 9 52
  · rw [if_pos h, if_pos h]
  · rw [if_neg h, if_neg h]
theorem stopOf_eq (l : Int32) (q : mm_Q) : x4_stopOf l q = some (stp (q.1 9) l, q) := by
  unfold x4_stopOf stp
  rw [isInBarrel_eq, mm_cl_s]
  by_cases h : inB (q.1 9) l
  · rw [if_neg (by rw [mm_p0]; exact fun z => z h), if_pos h]
  · rw [if_pos (by rw [mm_p0]; exact h), if_neg h]
    by_cases h2 : l < q.1 9 49
    · rw [if_pos h2, if_pos h2]
    · rw [if_neg h2, if_neg h2]
theorem pointsOf_eq (l : Int32) (q : mm_Q) : x4_pointsOf l q = some (pnt (q.1 9) l, q) := by
  unfold x4_pointsOf pnt
  rw [isHit_eq, mm_cl_s]
  by_cases h : l = q.1 9 52
  · rw [if_neg (by rw [mm_p0]; exact fun z => z h), if_pos h]
  · rw [if_pos (by rw [mm_p0]; exact h), if_neg h, stopOf_eq, mm_cl_s, isInBarrel_eq, mm_cl_s]
    by_cases h2 : inB (q.1 9) l
    · rw [if_neg (by rw [mm_p0]; exact fun z => z h2), if_pos h2]
    · rw [if_pos (by rw [mm_p0]; exact h2), if_neg h2]
theorem div_ti {a b : Int32} (h0 : 0 ≤ a.toInt) (h1 : 0 < b.toInt) : (a / b).toInt = a.toInt / b.toInt := by
  have ha := mm_rng a
  have h2 := Int.ediv_le_self b.toInt h0
  have h3 := Int.ediv_nonneg h0 (Int.le_of_lt h1)
  rw [Int32.toInt_div, Int.tdiv_eq_ediv_of_nonneg h0, Int.bmod_eq_of_le (by omega) (by omega)]
theorem rem_ti {a b : Int32} (h0 : 0 ≤ a.toInt) (h1 : 0 < b.toInt) : (mm_rem a b).toInt = a.toInt % b.toInt := by
  have ha := mm_rng a
  have e := div_ti h0 h1
  have h2 := Int.ediv_mul_le a.toInt (show b.toInt ≠ 0 by omega)
  have h3 := Int.ediv_nonneg h0 (Int.le_of_lt h1)
  have h4 := Int.mul_nonneg h3 (Int.le_of_lt h1)
  have h5 := Int.emod_add_mul_ediv a.toInt b.toInt
  rw [Int.mul_comm] at h5
  have e2 : (a / b * b).toInt = a.toInt / b.toInt * b.toInt := by rw [mm_mul_ti (by rw [e]; omega) (by rw [e]; omega), e]
  unfold mm_rem
  rw [mm_sub_ti (by rw [e2]; omega) (by rw [e2]; omega), e2]
  omega
theorem okc_rng {j : Nat} {v : Int32} (h : mm_okc j v) {a b : Int} (ha : (mm_t2.getD (mm_wh j) 0).toInt = a) (hb : (mm_t3.getD (mm_wh j) 0).toInt = b) : a ≤ v.toInt ∧ v.toInt ≤ b := by
  subst ha hb
  exact h
def bd (sp : Int32) (c : Nat → Int32) : Prop := ∀ j, mm_own sp j → mm_okc j (c j)
theorem bd_49 {sp : Int32} {c : Nat → Int32} (h : bd sp c) : 0 ≤ (c 49).toInt ∧ (c 49).toInt ≤ 999 := okc_rng (h 49 ⟨by decide, fun z => absurd z (by decide)⟩) (by decide) (by decide)
theorem bd_50 {sp : Int32} {c : Nat → Int32} (h : bd sp c) : 0 ≤ (c 50).toInt ∧ (c 50).toInt ≤ 999 := okc_rng (h 50 ⟨by decide, fun z => absurd z (by decide)⟩) (by decide) (by decide)
theorem bd_51 {sp : Int32} {c : Nat → Int32} (h : bd sp c) : 0 ≤ (c 51).toInt ∧ (c 51).toInt ≤ 20 := okc_rng (h 51 ⟨by decide, fun z => absurd z (by decide)⟩) (by decide) (by decide)
theorem bd_52 {sp : Int32} {c : Nat → Int32} (h : bd sp c) : -1 ≤ (c 52).toInt ∧ (c 52).toInt ≤ 999 := okc_rng (h 52 ⟨by decide, fun z => absurd z (by decide)⟩) (by decide) (by decide)
theorem bd_53 {sp : Int32} {c : Nat → Int32} (h : bd sp c) : 0 ≤ (c 53).toInt ∧ (c 53).toInt ≤ 12 := okc_rng (h 53 ⟨by decide, fun z => absurd z (by decide)⟩) (by decide) (by decide)
theorem max_ti (a b : Int32) : (mm_max a b).toInt = max a.toInt b.toInt := by
  unfold mm_max
  by_cases h : a < b
  · rw [if_pos h]
    rw [lt32] at h
    omega
  · rw [if_neg h]
    rw [lt32] at h
    omega
theorem mn_ti (a b : Int32) : (mm_mn a b).toInt = min a.toInt b.toInt := by
  unfold mm_mn
  by_cases h : b < a
  · rw [if_pos h]
    rw [lt32] at h
    omega
  · rw [if_neg h]
    rw [lt32] at h
    omega
theorem cl_rng (x : Int32) : 0 ≤ (cl x).toInt ∧ (cl x).toInt ≤ 999 := by
  unfold cl
  rw [max_ti, mn_ti, ti0, ti999]
  omega
theorem stp_rng {sp : Int32} {c : Nat → Int32} (h : bd sp c) {l : Int32} (h0 : 0 ≤ l.toInt) (h1 : l.toInt ≤ 999) : 0 ≤ (stp c l).toInt ∧ (stp c l).toInt ≤ 999 := by
  have b := bd_49 h
  unfold stp
  by_cases c1 : inB c l
  · rw [if_pos c1]; omega
  rw [if_neg c1]
  by_cases c2 : l < c 49
  · rw [if_pos c2, mn_ti]
    have e : (l / 10).toInt = l.toInt / 10 := by rw [div_ti h0 (by decide), ti10]
    have e2 : (l + l / 10).toInt = l.toInt + l.toInt / 10 := by rw [mm_add_ti (by omega) (by omega), e]
    omega
  · rw [if_neg c2]; omega
theorem pnt_rng {sp : Int32} {c : Nat → Int32} (h : bd sp c) {l : Int32} (h0 : 0 ≤ l.toInt) (h1 : l.toInt ≤ 999) : 0 ≤ (pnt c l).toInt ∧ (pnt c l).toInt ≤ 129 := by
  have b := stp_rng h h0 h1
  have e : (stp c l / 10).toInt = (stp c l).toInt / 10 := by rw [div_ti b.1 (by decide), ti10]
  unfold pnt
  by_cases c1 : l = c 52
  · rw [if_pos c1, ti0]; omega
  rw [if_neg c1]
  by_cases c2 : inB c l
  · rw [if_pos c2, mm_add_ti (by rw [ti30]; omega) (by rw [ti30]; omega), ti30]
    omega
  · rw [if_neg c2]; omega
def PT (F : mm_F) (c g : Nat → Int32) (r a : Int32) : Int32 := pnt c (LN F g a r)
theorem PT_rng {sp : Int32} {c : Nat → Int32} (h : bd sp c) (F : mm_F) (g : Nat → Int32) (r a : Int32) : 0 ≤ (PT F c g r a).toInt ∧ (PT F c g r a).toInt ≤ 129 := pnt_rng h (cl_rng _).1 (cl_rng _).2
def bpn (f : Int32 → Int32) : Nat → Int32
  | 0 => 0
  | n + 1 => mm_max (bpn f n) (f (Int32.ofNat n))
abbrev BP (F : mm_F) (c g : Nat → Int32) (r : Int32) : Int32 := bpn (PT F c g r) 9
theorem bpn_rng {f : Int32 → Int32} {b : Int} (h : ∀ a, 0 ≤ (f a).toInt ∧ (f a).toInt ≤ b) (hb : 0 ≤ b) : ∀ n, 0 ≤ (bpn f n).toInt ∧ (bpn f n).toInt ≤ b
  | 0 => by
    rw [show bpn f 0 = 0 from rfl, ti0]
    omega
  | n + 1 => by
    have := bpn_rng h hb n
    have := h (Int32.ofNat n)
    rw [show bpn f (n + 1) = mm_max (bpn f n) (f (Int32.ofNat n)) from rfl, max_ti]
    omega
theorem BP_rng {sp : Int32} {c : Nat → Int32} (h : bd sp c) (F : mm_F) (g : Nat → Int32) (r : Int32) : 0 ≤ (BP F c g r).toInt ∧ (BP F c g r).toInt ≤ 129 := bpn_rng (PT_rng h F g r) (by decide) 9
def cx (F : mm_F) (c g : Nat → Int32) (q : mm_Q) : Prop := q.1 9 = c ∧ q.1 14 = g ∧ lc F (q.1 11) (q.1 10 3)
theorem cx_fr {F : mm_F} {c g : Nat → Int32} {q q' : mm_Q} {S : List Nat} (h : cx F c g q) (f : fr S q q') (h9 : 9 ∉ S) (h10 : 10 ∉ S) (h11 : 11 ∉ S) (h14 : 14 ∉ S) : cx F c g q' := by
  obtain ⟨a, b, d⟩ := h
  refine ⟨(f.2 9 h9).trans a, (f.2 14 h14).trans b, ?_⟩
  rw [f.2 11 h11, f.2 10 h10]
  exact d
theorem mm_ofn {a : Int32} {i : Nat} (h : a.toInt = i) : a = Int32.ofNat i := Int32.toInt_inj.mp (by have := mm_rng a; rw [mm_ofNat_ti (by omega)]; exact h)
theorem bestPoints_h {F : mm_F} {c g : Nat → Int32} {r : Int32} {f : Nat} : ∀ (m i : Nat) (a3 : Int32) (q : mm_Q), a3.toInt = i → i + m = 9 → cx F c g q → ∃ q', x10_bestPoints_h4 (f + m + 1) r (bpn (PT F c g r) i) a3 q = some (BP F c g r, q') ∧ fr [12, 13] q q' := by
  intro m
  induction m with
  | zero =>
    intro i a3 q h1 h2 hx
    refine ⟨q, ?_, fr_rfl _ _⟩
    rw [x10_bestPoints_h4, if_pos (by rw [le32, ti9]; omega), show i = 9 by omega]
  | succ m ih =>
    intro i a3 q h1 h2 hx
    obtain ⟨q1, e1, f1⟩ := landing_eq hx.2.2 a3 r
    have hx1 := cx_fr hx f1 (by decide) (by decide) (by decide) (by decide)
    obtain ⟨q2, e2, f2⟩ := ih (i + 1) (a3 + 1) q1 (mm_inc1 h1 (by omega)) (by omega) hx1
    refine ⟨q2, ?_, fr_trans f1 f2⟩
    rw [show f + (m + 1) + 1 = (f + m + 1) + 1 by omega, x10_bestPoints_h4, if_neg (by rw [le32, ti9]; omega), e1, mm_cl_s, pointsOf_eq, mm_cl_s, hx.2.1, hx1.1, ← e2]
    rw [show bpn (PT F c g r) (i + 1) = mm_max (bpn (PT F c g r) i) (PT F c g r (Int32.ofNat i)) from rfl, ← mm_ofn h1]
    rfl
theorem bestPoints_eq {F : mm_F} {c g : Nat → Int32} {q : mm_Q} (h : cx F c g q) (r : Int32) : ∃ q', x10_bestPoints r q = some (BP F c g r, q') ∧ fr [12, 13] q q' := bestPoints_h (f := 990) 9 0 0 q ti0 (by omega) h
def ban (f : Int32 → Int32) : Nat → Int32 × Int32
  | 0 => (0, -1)
  | n + 1 => if f (Int32.ofNat n) ≤ (ban f n).2 then ban f n else (Int32.ofNat n, f (Int32.ofNat n))
theorem ban_s (f : Int32 → Int32) (n : Nat) : ban f (n + 1) = if f (Int32.ofNat n) ≤ (ban f n).2 then ban f n else (Int32.ofNat n, f (Int32.ofNat n)) := rfl
theorem ban_ok {f : Int32 → Int32} (h : ∀ a, 0 ≤ (f a).toInt) : ∀ n, (ban f (n + 1)).2 = f (ban f (n + 1)).1 ∧ (ban f (n + 1)).2 = bpn f (n + 1) ∧ ∃ i, i < n + 1 ∧ (ban f (n + 1)).1 = Int32.ofNat i
  | 0 => by
    have h0 := h (Int32.ofNat 0)
    have e : ban f 1 = (Int32.ofNat 0, f (Int32.ofNat 0)) := by
      rw [ban_s, if_neg (by rw [le32]; show ¬ _ ≤ (-1 : Int32).toInt; rw [tin1]; omega)]
    rw [e]
    refine ⟨rfl, ?_, 0, by omega, rfl⟩
    show _ = mm_max 0 (f (Int32.ofNat 0))
    rw [eq32, max_ti, ti0]
    show (f (Int32.ofNat 0)).toInt = _
    omega
  | n + 1 => by
    obtain ⟨h1, h2, i, hi, h3⟩ := ban_ok h n
    rw [ban_s]
    by_cases c : f (Int32.ofNat (n + 1)) ≤ (ban f (n + 1)).2
    · rw [if_pos c]
      refine ⟨h1, ?_, i, by omega, h3⟩
      rw [show bpn f (n + 1 + 1) = mm_max (bpn f (n + 1)) (f (Int32.ofNat (n + 1))) from rfl, ← h2, eq32, max_ti]
      rw [le32] at c
      omega
    · rw [if_neg c]
      refine ⟨rfl, ?_, n + 1, by omega, rfl⟩
      rw [show bpn f (n + 1 + 1) = mm_max (bpn f (n + 1)) (f (Int32.ofNat (n + 1))) from rfl, ← h2, eq32, max_ti]
      rw [le32] at c
      show (f (Int32.ofNat (n + 1))).toInt = _
      omega
theorem bestAngle_h {F : mm_F} {c g : Nat → Int32} {r : Int32} {f : Nat} : ∀ (m i : Nat) (a4 : Int32) (q : mm_Q), a4.toInt = i → i + m = 9 → cx F c g q → ∃ q', x10_bestAngle_h7 (f + m + 1) r (ban (PT F c g r) i).1 (ban (PT F c g r) i).2 a4 q = some ((ban (PT F c g r) 9).1, q') ∧ fr [12, 13] q q' := by
  intro m
  induction m with
  | zero =>
    intro i a3 q h1 h2 hx
    refine ⟨q, ?_, fr_rfl _ _⟩
    rw [x10_bestAngle_h7, if_pos (by rw [le32, ti9]; omega), show i = 9 by omega]
  | succ m ih =>
    intro i a3 q h1 h2 hx
    obtain ⟨q1, e1, f1⟩ := landing_eq hx.2.2 a3 r
    have hx1 := cx_fr hx f1 (by decide) (by decide) (by decide) (by decide)
    obtain ⟨q2, e2, f2⟩ := ih (i + 1) (a3 + 1) q1 (mm_inc1 h1 (by omega)) (by omega) hx1
    refine ⟨q2, ?_, fr_trans f1 f2⟩
    rw [ban_s, ← mm_ofn h1] at e2
    rw [show f + (m + 1) + 1 = (f + m + 1) + 1 by omega, x10_bestAngle_h7, if_neg (by rw [le32, ti9]; omega), e1, mm_cl_s, pointsOf_eq, mm_cl_s, hx.2.1, hx1.1]
    show (if PT F c g r a3 ≤ (ban (PT F c g r) i).2 then x10_bestAngle_j42 (x10_bestAngle_h7 (f + m + 1)) r (ban (PT F c g r) i).1 (ban (PT F c g r) i).2 a3 q1 else x10_bestAngle_j42 (x10_bestAngle_h7 (f + m + 1)) r a3 (PT F c g r a3) a3 q1) = _
    by_cases c1 : PT F c g r a3 ≤ (ban (PT F c g r) i).2
    · rw [if_pos c1] at e2 ⊢
      exact e2
    · rw [if_neg c1] at e2 ⊢
      exact e2
theorem bestAngle_eq {F : mm_F} {c g : Nat → Int32} {q : mm_Q} (h : cx F c g q) (r : Int32) : ∃ q', x10_bestAngle r q = some ((ban (PT F c g r) 9).1, q') ∧ fr [12, 13] q q' := bestAngle_h (f := 990) 9 0 0 q ti0 (by omega) h
theorem bestStop_h {F : mm_F} {c g : Nat → Int32} {f : Nat} : ∀ (m i : Nat) (a4 : Int32) (q : mm_Q), a4.toInt = i → i + m = 9 → cx F c g q → ∃ q', x10_bestAngleForStop_h6 (f + m + 1) (ban (fun a => stp c (LN F g a 0)) i).1 (ban (fun a => stp c (LN F g a 0)) i).2 a4 q = some ((ban (fun a => stp c (LN F g a 0)) 9).1, q') ∧ fr [12, 13] q q' := by
  intro m
  induction m with
  | zero =>
    intro i a3 q h1 h2 hx
    refine ⟨q, ?_, fr_rfl _ _⟩
    rw [x10_bestAngleForStop_h6, if_pos (by rw [le32, ti9]; omega), show i = 9 by omega]
  | succ m ih =>
    intro i a3 q h1 h2 hx
    obtain ⟨q1, e1, f1⟩ := landing_eq hx.2.2 a3 0
    have hx1 := cx_fr hx f1 (by decide) (by decide) (by decide) (by decide)
    obtain ⟨q2, e2, f2⟩ := ih (i + 1) (a3 + 1) q1 (mm_inc1 h1 (by omega)) (by omega) hx1
    refine ⟨q2, ?_, fr_trans f1 f2⟩
    rw [ban_s, ← mm_ofn h1] at e2
    rw [show f + (m + 1) + 1 = (f + m + 1) + 1 by omega, x10_bestAngleForStop_h6, if_neg (by rw [le32, ti9]; omega), e1, mm_cl_s, stopOf_eq, mm_cl_s, hx.2.1, hx1.1]
    by_cases c1 : stp c (LN F g a3 0) ≤ (ban (fun a => stp c (LN F g a 0)) i).2
    · rw [if_pos c1] at e2 ⊢
      exact e2
    · rw [if_neg c1] at e2 ⊢
      exact e2
theorem bestStop_eq {F : mm_F} {c g : Nat → Int32} {q : mm_Q} (h : cx F c g q) : ∃ q', x10_bestAngleForStop q = some ((ban (fun a => stp c (LN F g a 0)) 9).1, q') ∧ fr [12, 13] q q' := bestStop_h (f := 990) 9 0 0 q ti0 (by omega) h
theorem upd_self (f : Nat → Int32) (k : Nat) (x : Int32) : upd f k x k = x := if_pos rfl
theorem upd_ne (f : Nat → Int32) (k : Nat) (x : Int32) {j : Nat} (h : j ≠ k) : upd f k x j = f j := if_neg h
theorem y_told {q : mm_Q} {a1 a2 : Int32} {j : Nat} (h : (mm_pl (q.1 8 1) a1 a2).toInt = (j : Nat)) (hj : j < 54) : x4_told a1 a2 q = some (q.1 9 j, q) := by
  unfold x4_told
  rw [cellOf_eq, mm_cl_s, if_neg (by rw [lt32, ti0]; omega), if_neg (by rw [le32, ti54]; omega), mm_ck_t (mm_inb_c h hj), mm_tcn h]
theorem ti6n : (6 : Int32).toInt = ((6 : Nat) : Int) := by decide
theorem ti9n : (9 : Int32).toInt = ((9 : Nat) : Int) := by decide
theorem pl_sp {sp a1 a2 : Int32} {p w : Nat} (hs : sp.toInt ≤ 6) (hp : a1.toInt = p) (hps : (p : Int) < sp.toInt) (hw : a2.toInt = w) (h4 : w ≤ 4) : (mm_pl sp a1 a2).toInt = ((w * 6 + p : Nat) : Int) := by
  unfold mm_pl
  rw [if_pos (by omega), if_pos (by omega), mm_lin ti6n hw hp (by omega)]
theorem pl_st {sp a1 a2 : Int32} {s w : Nat} (hs : a1.toInt = s) (h9 : s < 9) (hw : a2.toInt = ((5 + w : Nat) : Int)) (h4 : w ≤ 1) : (mm_pl sp a1 a2).toInt = ((30 + w * 9 + s : Nat) : Int) := by
  unfold mm_pl
  rw [if_neg (by omega), if_pos (by omega), if_pos (by omega)]
  have e0 : (a2 - 5).toInt = ((w : Nat) : Int) := by rw [mm_sub_ti (by rw [ti5]; omega) (by rw [ti5]; omega), ti5]; omega
  have e1 : ((a2 - 5) * 9).toInt = ((w * 9 : Nat) : Int) := mm_lin0 ti9n e0 (by omega)
  have e2 : (30 + (a2 - 5) * 9).toInt = ((30 + w * 9 : Nat) : Int) := by rw [mm_add_ti (by rw [ti30]; omega) (by rw [ti30]; omega), ti30, e1]; omega
  rw [mm_add_ti (by omega) (by omega), e2, hs]
  omega
theorem pl_wind {sp : Int32} : (mm_pl sp 0 7).toInt = ((48 : Nat) : Int) := by
  unfold mm_pl
  rw [if_neg (by decide), if_neg (by decide), if_pos (by decide)]
  decide
theorem pl_laugh {sp : Int32} : (mm_pl sp 0 12).toInt = ((53 : Nat) : Int) := by
  unfold mm_pl
  rw [if_neg (by decide), if_neg (by decide), if_pos (by decide)]
  decide
def cw (F : mm_F) (c : Nat → Int32) (sp : Int32) (q : mm_Q) : Prop := q.1 9 = c ∧ q.1 8 1 = sp ∧ lc F (q.1 11) (q.1 10 3)
theorem cw_fr {F : mm_F} {c : Nat → Int32} {sp : Int32} {q q' : mm_Q} {S : List Nat} (h : cw F c sp q) (f : fr S q q') (h8 : 8 ∉ S) (h9 : 9 ∉ S) (h10 : 10 ∉ S) (h11 : 11 ∉ S) : cw F c sp q' := by
  obtain ⟨a, b, d⟩ := h
  refine ⟨(f.2 9 h9).trans a, by rw [f.2 8 h8]; exact b, ?_⟩
  rw [f.2 11 h11, f.2 10 h10]
  exact d
def tk (c : Nat → Int32) (p s : Nat) (k : Int32) (g : Nat → Int32) : Nat → Int32 := upd (upd (upd (upd (upd g 2 (c p + c (6 + p))) 3 (c (30 + s))) 4 (c (39 + s))) 5 (c (12 + p) * k)) 6 (c 48)
def GL (c : Nat → Int32) (p s : Nat) (k lg : Int32) : Nat → Int32 := upd (upd (upd (upd (upd (fun _ => 0) 2 (c p + c (6 + p))) 3 (mm_mn (c (30 + s) + lg) 9)) 4 (c (39 + s))) 5 (c (12 + p) * k)) 6 (c 48)
theorem take_eq {F : mm_F} {c : Nat → Int32} {sp : Int32} {q : mm_Q} {a1 a2 : Int32} {p s : Nat} (h : cw F c sp q) (hs : sp.toInt ≤ 6) (hp : a1.toInt = p) (hps : (p : Int) < sp.toInt) (hst : a2.toInt = s) (h9 : s < 9) (k : Int32) : ∃ q', x10_take a1 a2 k q = some ((), q') ∧ cx F c (tk c p s k (q.1 14)) q' ∧ fr [14] q q' := by
  obtain ⟨hc, hsp, hl⟩ := h
  have t0 : ∀ q' : mm_Q, q'.1 8 1 = q.1 8 1 → x4_told a1 0 q' = some (q'.1 9 p, q') := fun q' e => y_told (by rw [e, hsp, pl_sp hs hp hps (w := 0) (by decide) (by decide)]; omega) (by omega)
  have t1 : ∀ q' : mm_Q, q'.1 8 1 = q.1 8 1 → x4_told a1 1 q' = some (q'.1 9 (6 + p), q') := fun q' e => y_told (by rw [e, hsp, pl_sp hs hp hps (w := 1) (by decide) (by decide)]) (by omega)
  have t2 : ∀ q' : mm_Q, q'.1 8 1 = q.1 8 1 → x4_told a1 2 q' = some (q'.1 9 (12 + p), q') := fun q' e => y_told (by rw [e, hsp, pl_sp hs hp hps (w := 2) (by decide) (by decide)]) (by omega)
  have t5 : ∀ q' : mm_Q, x4_told a2 5 q' = some (q'.1 9 (30 + s), q') := fun q' => y_told (by rw [pl_st hst h9 (w := 0) (by decide) (by decide)]) (by omega)
  have t6 : ∀ q' : mm_Q, x4_told a2 6 q' = some (q'.1 9 (39 + s), q') := fun q' => y_told (by rw [pl_st hst h9 (w := 1) (by decide) (by decide)]) (by omega)
  have t7 : ∀ q' : mm_Q, x4_told 0 7 q' = some (q'.1 9 48, q') := fun q' => y_told pl_wind (by omega)
  have e : x10_take a1 a2 k q = some ((), mm_si (mm_si (mm_si (mm_si (mm_si q 14 2 (q.1 9 p + q.1 9 (6 + p))) 14 3 (q.1 9 (30 + s))) 14 4 (q.1 9 (39 + s))) 14 5 (q.1 9 (12 + p) * k)) 14 6 (q.1 9 48)) := by
    unfold x10_take
    rw [t0 q rfl, mm_cl_s, t1 q rfl, mm_cl_s, mm_lt_s, t5, mm_cl_s, mm_lt_s, t6, mm_cl_s, mm_lt_s, t2 (mm_si (mm_si (mm_si q 14 2 _) 14 3 _) 14 4 _) rfl, mm_cl_s, mm_lt_s, t7, mm_cl_s, mm_lt_s]
    rfl
  refine ⟨_, e, ⟨hc, ?_, hl⟩, rfl, fun a ha => ?_⟩
  · rw [← hc]
    rfl
  · have ha2 : a ≠ 14 := fun z => ha (by rw [z]; decide)
    rw [mm_si_ne _ _ _ _ ha2, mm_si_ne _ _ _ _ ha2, mm_si_ne _ _ _ _ ha2, mm_si_ne _ _ _ _ ha2, mm_si_ne _ _ _ _ ha2]
theorem bd_st {sp : Int32} {c : Nat → Int32} (h : bd sp c) {s : Nat} (h9 : s < 9) : 1 ≤ (c (30 + s)).toInt ∧ (c (30 + s)).toInt ≤ 9 := by
  have e : mm_wh (30 + s) = 5 := by
    unfold mm_wh
    rw [if_neg (by omega), if_pos (by omega)]
  exact okc_rng (h (30 + s) ⟨by omega, by omega⟩) (by rw [e]; decide) (by rw [e]; decide)
theorem bd_sp {sp : Int32} {c : Nat → Int32} (h : bd sp c) {p w : Nat} (hp : (p : Int) < sp.toInt) (hs : sp.toInt ≤ 6) (hw : w ≤ 4) {a b : Int} (ha : (mm_t2.getD w 0).toInt = a) (hb : (mm_t3.getD w 0).toInt = b) : a ≤ (c (6 * w + p)).toInt ∧ (c (6 * w + p)).toInt ≤ b := by
  have e : mm_wh (6 * w + p) = w := by
    unfold mm_wh
    rw [if_pos (by omega)]
    omega
  exact okc_rng (h (6 * w + p) ⟨by omega, fun _ => by omega⟩) (by rw [e]; exact ha) (by rw [e]; exact hb)
theorem LN_tk {sp : Int32} {c : Nat → Int32} (h : bd sp c) (F : mm_F) {s : Nat} (h9 : s < 9) (p : Nat) (k : Int32) (g : Nat → Int32) : LN F (tk c p s k g) = LN F (GL c p s k 0) := by
  have e : mm_mn (c (30 + s) + 0) 9 = c (30 + s) := by
    have b := bd_st h h9
    unfold mm_mn
    rw [Int32.add_zero, if_neg (by rw [lt32, ti9]; omega)]
  funext a r
  show cl (F a (if r = 1 then (c p + c (6 + p)) + 3 else c p + c (6 + p)) (c (30 + s)) (c (39 + s)) (c 48) (c (12 + p) * k)) = cl (F a (if r = 1 then (c p + c (6 + p)) + 3 else c p + c (6 + p)) (mm_mn (c (30 + s) + 0) 9) (c (39 + s)) (c 48) (c (12 + p) * k))
  rw [e]
theorem PT_tk {sp : Int32} {c : Nat → Int32} (h : bd sp c) (F : mm_F) {s : Nat} (h9 : s < 9) (p : Nat) (k : Int32) (g : Nat → Int32) : PT F c (tk c p s k g) = PT F c (GL c p s k 0) := by
  funext r a
  show pnt c (LN F (tk c p s k g) a r) = pnt c (LN F (GL c p s k 0) a r)
  rw [LN_tk h F h9]
theorem take_best {F : mm_F} {c : Nat → Int32} {sp : Int32} {q : mm_Q} {a1 a2 : Int32} {p s : Nat} (h : cw F c sp q) (hb : bd sp c) (hs : sp.toInt ≤ 6) (hp : a1.toInt = p) (hps : (p : Int) < sp.toInt) (hst : a2.toInt = s) (h9 : s < 9) (k r : Int32) : ∃ q1 q2, x10_take a1 a2 k q = some ((), q1) ∧ x10_bestPoints r q1 = some (BP F c (GL c p s k 0) r, q2) ∧ fr [12, 13, 14] q q2 ∧ cw F c sp q2 := by
  obtain ⟨q1, e1, x1, f1⟩ := take_eq h hs hp hps hst h9 k
  obtain ⟨q2, e2, f2⟩ := bestPoints_eq x1 r
  have f3 : fr [12, 13, 14] q q2 := fr_trans (fr_mono f1 (by decide)) (fr_mono f2 (by decide))
  refine ⟨q1, q2, e1, ?_, f3, cw_fr h f3 (by decide) (by decide) (by decide) (by decide)⟩
  rw [e2]
  show some (bpn (PT F c (tk c p s k (q.1 14)) r) 9, q2) = _
  rw [PT_tk hb F h9]
theorem take_land {F : mm_F} {c : Nat → Int32} {sp : Int32} {q : mm_Q} {a1 a2 : Int32} {p s : Nat} (h : cw F c sp q) (hb : bd sp c) (hs : sp.toInt ≤ 6) (hp : a1.toInt = p) (hps : (p : Int) < sp.toInt) (hst : a2.toInt = s) (h9 : s < 9) (k a r : Int32) : ∃ q1 q2, x10_take a1 a2 k q = some ((), q1) ∧ x10_landing a r q1 = some (LN F (GL c p s k 0) a r, q2) ∧ fr [12, 13, 14] q q2 ∧ cw F c sp q2 := by
  obtain ⟨q1, e1, x1, f1⟩ := take_eq h hs hp hps hst h9 k
  obtain ⟨q2, e2, f2⟩ := landing_eq x1.2.2 a r
  have f3 : fr [12, 13, 14] q q2 := fr_trans (fr_mono f1 (by decide)) (fr_mono f2 (by decide))
  refine ⟨q1, q2, e1, ?_, f3, cw_fr h f3 (by decide) (by decide) (by decide) (by decide)⟩
  rw [e2, x1.2.1, LN_tk hb F h9]
abbrev nm (F : mm_F) (f : Nat → Int32) : Int32 := F (f 0) (f 1) (f 2) (f 3) (f 4) (f 5)
theorem mm_add_n {a : Int32} {k i : Nat} (x : Int32) (hx : x.toInt = (i : Nat)) (h : a.toInt = k) (hk : k + i < 1000000) : (a + x).toInt = ((k + i : Nat) : Int) := by
  rw [mm_add_ti (by omega) (by omega)]
  omega
theorem abs_ti {x : Int32} (h : -2147483648 < x.toInt) : (mm_abs x).toInt = if 0 ≤ x.toInt then x.toInt else - x.toInt := by
  unfold mm_abs
  have r := mm_rng x
  by_cases c : 0 ≤ x
  · rw [if_pos c]
    rw [le32, ti0] at c
    rw [if_pos c]
  · rw [if_neg c]
    rw [le32, ti0] at c
    rw [if_neg c, mm_sub_ti (by rw [ti0]; omega) (by rw [ti0]; omega), ti0]
    omega
theorem ti39n : (39 : Int32).toInt = ((39 : Nat) : Int) := by decide
theorem ti30n : (30 : Int32).toInt = ((30 : Nat) : Int) := by decide
theorem LN_rng (F : mm_F) (g : Nat → Int32) (a r : Int32) : 0 ≤ (LN F g a r).toInt ∧ (LN F g a r).toInt ≤ 999 := cl_rng _
def fk (q q' : mm_Q) : Prop := (∀ k, k ∉ [12, 13, 14, 35, 36, 37, 38, 39, 40, 41, 42, 43, 44, 45] → q'.1 k = q.1 k) ∧ ∀ k, k ∉ [35, 39] → q'.2 k = q.2 k
theorem fk_rfl (q : mm_Q) : fk q q := ⟨fun _ _ => rfl, fun _ _ => rfl⟩
theorem fk_trans {q q1 q2 : mm_Q} (h1 : fk q q1) (h2 : fk q1 q2) : fk q q2 := ⟨fun k hk => (h2.1 k hk).trans (h1.1 k hk), fun k hk => (h2.2 k hk).trans (h1.2 k hk)⟩
theorem fk_fr {S : List Nat} {q q' : mm_Q} (h : fr S q q') (hs : ∀ k, k ∈ S → k ∈ [12, 13, 14, 35, 36, 37, 38, 39, 40, 41, 42, 43, 44, 45]) : fk q q' := ⟨fun k hk => h.2 k (fun z => hk (hs k z)), fun k _ => by rw [h.1]⟩
theorem sk11_eq (a : Int32) (q : mm_Q) : x11_isStoneAndAhead a q = some (mm_p (0 ≤ a.toInt ∧ a.toInt / 1000 < 9 ∧ a.toInt % 1000 ≤ 99), q) := by
  unfold x11_isStoneAndAhead mm_p
  by_cases h : a < 0
  · rw [if_pos h]
    rw [lt32, ti0] at h
    rw [if_neg (by omega)]
  · rw [if_neg h]
    rw [lt32, ti0] at h
    have e1 : (a / 1000).toInt = a.toInt / 1000 := by rw [div_ti (by omega) (by decide), ti1000]
    have e2 : (mm_rem a 1000).toInt = a.toInt % 1000 := by rw [rem_ti (by omega) (by decide), ti1000]
    simp only [le32, lt32, e1, e2, ti9, ti99]
    repeat' split
    all_goals first | rfl | (exfalso; omega)
theorem how11_eq (a : Int32) (q : mm_Q) : x11_isHow a q = some (mm_p (0 ≤ a.toInt ∧ a.toInt / 10 < 9 ∧ a.toInt % 10 ≤ 1), q) := by
  unfold x11_isHow mm_p
  by_cases h : a < 0
  · rw [if_pos h]
    rw [lt32, ti0] at h
    rw [if_neg (by omega)]
  · rw [if_neg h]
    rw [lt32, ti0] at h
    have e1 : (a / 10).toInt = a.toInt / 10 := by rw [div_ti (by omega) (by decide), ti10]
    have e2 : (mm_rem a 10).toInt = a.toInt % 10 := by rw [rem_ti (by omega) (by decide), ti10]
    simp only [le32, lt32, e1, e2, ti9, ti1]
    repeat' split
    all_goals first | rfl | (exfalso; omega)
theorem sk_parts {a : Int32} (h : 0 ≤ a.toInt ∧ a.toInt / 1000 < 9 ∧ a.toInt % 1000 ≤ 99) : (a / 1000).toInt = (((a.toInt / 1000).toNat : Nat) : Int) ∧ (a.toInt / 1000).toNat < 9 ∧ (mm_rem a 1000).toInt = a.toInt % 1000 := by
  have e1 : (a / 1000).toInt = a.toInt / 1000 := by rw [div_ti (by omega) (by decide), ti1000]
  have e2 : (mm_rem a 1000).toInt = a.toInt % 1000 := by rw [rem_ti (by omega) (by decide), ti1000]
  have e3 : 0 ≤ a.toInt / 1000 := Int.ediv_nonneg (by omega) (by omega)
  exact ⟨by omega, by omega, e2⟩
theorem nat_of {a : Int32} (h : 0 ≤ a.toInt) : a.toInt = ((a.toInt.toNat : Nat) : Int) := by omega
