/-! what holds in a turn of the law -/
theorem shm : ∀ k, k < 32 → ((Int32.ofNat k).toUInt32 &&& Int32.toUInt32 31).toNat % 32 = k := by decide
theorem ushr_ti (x : Int32) (k : Nat) (h1 : 1 ≤ k) (h2 : k < 32) : (mm_ushr x (Int32.ofNat k)).toInt = ((x.toUInt32.toNat / 2 ^ k : Nat) : Int) := by
  have hx : x.toUInt32.toNat < 2 ^ 32 := x.toUInt32.toNat_lt
  have e : (x.toUInt32 >>> ((Int32.ofNat k).toUInt32 &&& Int32.toUInt32 31)).toNat = x.toUInt32.toNat / 2 ^ k := by
    rw [UInt32.toNat_shiftRight, shm k h2, Nat.shiftRight_eq_div_pow]
  have hk : 2 ^ 1 ≤ 2 ^ k := Nat.pow_le_pow_right (by decide) h1
  have hd : x.toUInt32.toNat / 2 ^ k ≤ x.toUInt32.toNat / 2 ^ 1 := Nat.div_le_div_left hk (by decide)
  unfold mm_ushr
  show (x.toUInt32 >>> ((Int32.ofNat k).toUInt32 &&& Int32.toUInt32 31)).toBitVec.toInt = _
  have e2 : (x.toUInt32 >>> ((Int32.ofNat k).toUInt32 &&& Int32.toUInt32 31)).toBitVec.toNat = x.toUInt32.toNat / 2 ^ k := e
  rw [BitVec.toInt_eq_toNat_of_lt (by rw [e2]; omega), e2]
theorem ushr_nn (x : Int32) (k : Nat) (h1 : 1 ≤ k) (h2 : k < 32) : 0 ≤ (mm_ushr x (Int32.ofNat k)).toInt := by
  rw [ushr_ti x k h1 h2]
  exact Int.natCast_nonneg _
theorem and511 (y : Int32) : ∃ s : Nat, s < 512 ∧ (y &&& 511).toInt = s := by
  have h : (y &&& 511).toBitVec.toNat ≤ 511 := by
    rw [Int32.toBitVec_and, BitVec.toNat_and]
    exact Nat.and_le_right
  refine ⟨(y &&& 511).toBitVec.toNat, by omega, ?_⟩
  show (y &&& 511).toBitVec.toInt = _
  rw [BitVec.toInt_eq_toNat_of_lt (by omega)]
theorem andb1 (y : Int32) : y &&& 1 = 0 ∨ y &&& 1 = 1 := by
  have h : (y &&& 1).toBitVec.toNat ≤ 1 := by
    rw [Int32.toBitVec_and, BitVec.toNat_and]
    exact Nat.and_le_right
  have e : (y &&& 1).toInt = (((y &&& 1).toBitVec.toNat : Nat) : Int) := by
    show (y &&& 1).toBitVec.toInt = _
    rw [BitVec.toInt_eq_toNat_of_lt (by omega)]
  rcases (show (y &&& 1).toBitVec.toNat = 0 ∨ (y &&& 1).toBitVec.toNat = 1 by omega) with z | z
  · exact Or.inl (by rw [eq32, e, z, ti0]; rfl)
  · exact Or.inr (by rw [eq32, e, z, ti1]; rfl)
/-- what is left over by a number above 0 -/
theorem rem_rng {a b : Int32} (h0 : 0 ≤ a.toInt) (h1 : 0 < b.toInt) : 0 ≤ (mm_rem a b).toInt ∧ (mm_rem a b).toInt < b.toInt := by
  rw [rem_ti h0 h1]
  exact ⟨Int.emod_nonneg _ (by omega), Int.emod_lt_of_pos _ h1⟩
def CE (len : Nat) (xs : Nat → Int32) (a : Int32) : Int32 := if Int32.ofNat len ≤ a then 40503 * a else xs a.toNatClampNeg
theorem cell_eq {len : Nat} (hl : len ≤ 260) {xs : Nat → Int32} {a : Int32} (h0 : 0 ≤ a.toInt) {q : mm_Q} (hx : q.1 0 = xs) : x14_cell len a q = some (CE len xs a, q) := by
  have el : (Int32.ofNat len).toInt = ((len : Nat) : Int) := mm_ofNat_ti (by omega)
  unfold x14_cell CE
  by_cases c : Int32.ofNat len ≤ a
  · rw [if_pos c, if_pos c]
  · rw [if_neg c, if_neg c]
    rw [le32, el] at c
    rw [mm_ck_t (mm_inb_of h0 (by omega)), hx]
/-- it comes to 1 -/
def ok1 (e : Option (Int32 × mm_Q)) : Prop := ∃ q9, e = some ((1 : Int32), q9)
/-- the lane as both tell it, the script, the tables -/
def IL (F : mm_F) (c : Nat → Int32) (sp : Int32) (xs : Nat → Int32) (q : mm_Q) : Prop := (q.1 0 = xs ∧ (∀ j, q.1 2 j = mm_t2.getD j 0) ∧ ∀ j, q.1 3 j = mm_t3.getD j 0) ∧ cw F c sp q ∧ lwx F c sp q
def PA (sp a8 a9 a10 a11 : Int32) (p s : Nat) : Prop := (a8.toInt = p ∧ (p : Int) < sp.toInt) ∧ (a9.toInt = s ∧ s < 9) ∧ (0 ≤ a10.toInt ∧ a10.toInt ≤ 99) ∧ a11.toInt = 1000 * s + a10.toInt
section ILS
variable {F : mm_F} {c : Nat → Int32} {sp : Int32} {xs : Nat → Int32} {q q' : mm_Q}
theorem IL_same (h : IL F c sp xs q) (e : ∀ k, k ∈ [0, 2, 3, 8, 9, 10, 11, 52, 53, 54, 55] → q'.1 k = q.1 k) : IL F c sp xs q' := by
  obtain ⟨⟨a1, a2, a3⟩, ⟨b1, b2, b3⟩, h4⟩ := h
  refine ⟨⟨(e 0 (by decide)).trans a1, fun j => by rw [e 2 (by decide)]; exact a2 j, fun j => by rw [e 3 (by decide)]; exact a3 j⟩, ⟨(e 9 (by decide)).trans b1, by rw [e 8 (by decide)]; exact b2, ?_⟩, lwx_of h4 (e 52 (by decide)) (e 53 (by decide)) (e 54 (by decide)) (e 55 (by decide))⟩
  rw [e 11 (by decide), e 10 (by decide)]
  exact b3
theorem IL_fk (h : IL F c sp xs q) (f : fk q q') : IL F c sp xs q' := IL_same h (fun k hk => f.1 k (by
  revert hk
  simp only [List.mem_cons, List.not_mem_nil, or_false]
  omega))
theorem IL_si (h : IL F c sp xs q) {k : Nat} (hk : 56 ≤ k) (j : Nat) (v : Int32) : IL F c sp xs (mm_si q k j v) := IL_same h (fun a ha => mm_si_ne _ _ _ _ (by
  revert ha
  simp only [List.mem_cons, List.not_mem_nil, or_false]
  omega))
theorem IL_nw (h : IL F c sp xs q) {k : Nat} (hk : 56 ≤ k) : IL F c sp xs (mm_nwr q k) := IL_same h (fun a ha => mm_uc_ne _ _ (by
  revert ha
  simp only [List.mem_cons, List.not_mem_nil, or_false]
  omega))
theorem fk_row (f : fk q q') {k : Nat} (hk : 56 ≤ k) : q'.1 k = q.1 k := f.1 k (by
  simp only [List.mem_cons, List.not_mem_nil, or_false]
  omega)
theorem PA_sk {a8 a9 a10 a11 : Int32} {p s : Nat} (h : PA sp a8 a9 a10 a11 p s) : (0 ≤ a11.toInt ∧ a11.toInt / 1000 < 9 ∧ a11.toInt % 1000 ≤ 99) ∧ (a11.toInt / 1000).toNat = s ∧ mm_rem a11 1000 = a10 ∧ a8.toInt.toNat = p ∧ 0 ≤ a8.toInt ∧ a8.toInt < sp.toInt := by
  obtain ⟨⟨h1, h2⟩, ⟨h3, h4⟩, ⟨h5, h6⟩, h7⟩ := h
  refine ⟨by omega, by omega, ?_, by omega, by omega, by omega⟩
  rw [eq32, rem_ti (by omega) (by decide), ti1000]
  omega
end ILS
