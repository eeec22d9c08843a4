/-! the shelf that holds something else, and what a body on a shelf may be taken for -/
theorem mm_si_ne (q : mm_Q) (a i : Nat) (v : Int32) {k : Nat} (h : k ≠ a) : (mm_si q a i v).1 k = q.1 k := mm_uc_ne _ _ h
theorem mm_si_self (q : mm_Q) (a i : Nat) (v : Int32) : (mm_si q a i v).1 a = upd (q.1 a) i v := mm_uc_self _ _ _
theorem mm_isKind (v : Int32) (q : mm_Q) : x0_isKind v q = some (mm_p (0 ≤ v.toInt ∧ v.toInt ≤ 7), q) := by
  unfold x0_isKind mm_p
  simp only [lt32, le32, ti0, ti8]
  repeat' split
  all_goals first | rfl | (exfalso; omega)
theorem mm_isBody (v : Int32) (q : mm_Q) : x0_isBody v q = some (mm_p (0 ≤ v.toInt ∧ v.toInt < (q.1 49 2).toInt), q) := by
  unfold x0_isBody mm_p
  simp only [lt32, le32, ti0]
  repeat' split
  all_goals first | rfl | (exfalso; omega)
theorem mm_isBody12 {v : Int32} {q : mm_Q} (h : 0 ≤ (q.1 52 38).toInt) : x12_isBody v q = some (mm_p (0 ≤ v.toInt ∧ v.toInt < (q.1 52 38).toInt), q) := by
  unfold x12_isBody
  rw [within_eq, mm_cl_s, mm_ck_t mm_pb, mm_i64, mm_i64, mm_sub_ti (by rw [ti1]; omega) (by rw [ti1]; have := Int32.toInt_lt (q.1 52 38); omega), ti1, tl0]
  unfold mm_p
  repeat' split
  all_goals first | rfl | (exfalso; omega)
section IV
variable {LR : mm_LR}
theorem mm_Iv_shelf {q q' : mm_Q} (h : mm_Iv LR q) {k : Nat} (hk : k < 6) (e1 : ∀ a, a ≠ 16 + 2 * k → a ≠ 71 → a ≠ 72 → q'.1 a = q.1 a) (e2 : ∀ a, a ≠ 17 + 2 * k → a ≠ 73 → a ≠ 74 → q'.2 a = q.2 a) (e71 : ∀ j, j ≠ k → q'.1 71 j = q.1 71 j) (e72 : ∀ j, j ≠ k → q'.1 72 j = q.1 72 j) (e73 : ∀ j, j ≠ k → ∀ i, i < 60 → q'.2 73 (60 * j + i) = q.2 73 (60 * j + i)) (hs : mm_she (q.1 49 2) k (q'.1 (16 + 2 * k)) (q'.2 (17 + 2 * k)) (q'.1 71) (q'.1 72) (q'.2 73)) : mm_Iv LR q' := by
  obtain ⟨h1, h2, h3, h4, h5, h6, h7, h8, h9, h10⟩ := h
  have f1 := e1 1 (by omega) (by omega) (by omega)
  have f2 := e1 2 (by omega) (by omega) (by omega)
  have f3 := e1 3 (by omega) (by omega) (by omega)
  have f5 := e1 5 (by omega) (by omega) (by omega)
  have f6 := e1 6 (by omega) (by omega) (by omega)
  have f4 := e2 4 (by omega) (by omega) (by omega)
  have f8 := e1 8 (by omega) (by omega) (by omega)
  have f9 := e1 9 (by omega) (by omega) (by omega)
  have f10 := e1 10 (by omega) (by omega) (by omega)
  have f11 := e1 11 (by omega) (by omega) (by omega)
  have f28 := e1 28 (by omega) (by omega) (by omega)
  have f29 := e1 29 (by omega) (by omega) (by omega)
  have f31 := e1 31 (by omega) (by omega) (by omega)
  have f32 := e1 32 (by omega) (by omega) (by omega)
  have f33 := e1 33 (by omega) (by omega) (by omega)
  have f34 := e1 34 (by omega) (by omega) (by omega)
  have f46 := e1 46 (by omega) (by omega) (by omega)
  have f47 := e1 47 (by omega) (by omega) (by omega)
  have f48 := e1 48 (by omega) (by omega) (by omega)
  have f49 := e1 49 (by omega) (by omega) (by omega)
  have f50 := e1 50 (by omega) (by omega) (by omega)
  have f51 := e1 51 (by omega) (by omega) (by omega)
  have f52 := e1 52 (by omega) (by omega) (by omega)
  have f53 := e1 53 (by omega) (by omega) (by omega)
  have f54 := e1 54 (by omega) (by omega) (by omega)
  have f55 := e1 55 (by omega) (by omega) (by omega)
  have f56 := e1 56 (by omega) (by omega) (by omega)
  have f57 := e1 57 (by omega) (by omega) (by omega)
  have f58 := e1 58 (by omega) (by omega) (by omega)
  have f60 := e1 60 (by omega) (by omega) (by omega)
  have f61 := e1 61 (by omega) (by omega) (by omega)
  have f65 := e1 65 (by omega) (by omega) (by omega)
  have f66 := e1 66 (by omega) (by omega) (by omega)
  have f67 := e1 67 (by omega) (by omega) (by omega)
  have f68 := e1 68 (by omega) (by omega) (by omega)
  have f69 := e1 69 (by omega) (by omega) (by omega)
  have f70 := e1 70 (by omega) (by omega) (by omega)
  have h8' : iv_shf (q.1 49 2) q' := by
    rw [iv_shf_all]
    intro j hj
    by_cases z : j = k
    · rw [z]; exact hs
    · rw [e1 (16 + 2 * j) (by omega) (by omega) (by omega), e2 (17 + 2 * j) (by omega) (by omega) (by omega)]
      exact mm_she_other (iv_shf_all.mp h8 j hj) (e71 j z) (e72 j z) (fun i hi => e73 j z i hi)
  unfold mm_Iv
  rw [f1, f2, f3, f4, f5, f6, f8, f9, f10, f11, f28, f29, f31, f32, f33, f34, f46, f47, f48, f49, f50, f51, f52, f53, f54, f55, f56, f57, f58, f60, f61, f65, f66, f67, f68, f69, f70]
  exact ⟨h1, h2, h3, h4, h5, h6, h7, h8', h9, h10⟩
/-- nothing held: what keep leaves -/
def k0_e (q : mm_Q) (k : Nat) : mm_Q := mm_si (mm_si q (16 + 2 * k) 1 0) (16 + 2 * k) 4 0
def k1_e (q : mm_Q) (k : Nat) (v : Int32) : mm_Q := mm_si (mm_si (mm_si q (16 + 2 * k) 1 1) (16 + 2 * k) 2 v) (16 + 2 * k) 4 0
def k2_e (q : mm_Q) (k : Nat) (v : Int32) : mm_Q := mm_si (mm_si q 71 k v) 72 k 0
theorem k0_z (q : mm_Q) (k : Nat) : (k0_e q k).1 0 = q.1 0 := by
  unfold k0_e
  rw [mm_si_ne _ _ _ _ (by omega), mm_si_ne _ _ _ _ (by omega)]
theorem k1_z (q : mm_Q) (k : Nat) (v : Int32) : (k1_e q k v).1 0 = q.1 0 := by
  unfold k1_e
  rw [mm_si_ne _ _ _ _ (by omega), mm_si_ne _ _ _ _ (by omega), mm_si_ne _ _ _ _ (by omega)]
theorem k2_Iv {q q1 : mm_Q} (h : mm_Iv LR q) {k : Nat} (hk : k < 6) (e1 : ∀ a, a ≠ 16 + 2 * k → q1.1 a = q.1 a) (e2 : q1.2 = q.2) (v : Int32) (hs : mm_she (q.1 49 2) k (q1.1 (16 + 2 * k)) (q.2 (17 + 2 * k)) (upd (q.1 71) k v) (upd (q.1 72) k 0) (q.2 73)) : mm_Iv LR (k2_e q1 k v) := by
  have g2 : (k2_e q1 k v).2 = q.2 := e2
  have g71 : (k2_e q1 k v).1 71 = upd (q.1 71) k v := by
    unfold k2_e
    rw [mm_si_ne _ _ _ _ (show 71 ≠ 72 by decide), mm_si_self, e1 71 (by omega)]
  have g72 : (k2_e q1 k v).1 72 = upd (q.1 72) k 0 := by
    unfold k2_e
    rw [mm_si_self, mm_si_ne _ _ _ _ (show 72 ≠ 71 by decide), e1 72 (by omega)]
  have gk : ∀ a, a ≠ 71 → a ≠ 72 → (k2_e q1 k v).1 a = q1.1 a := by
    intro a u1 u2
    unfold k2_e
    rw [mm_si_ne _ _ _ _ u2, mm_si_ne _ _ _ _ u1]
  refine mm_Iv_shelf h hk (fun a u1 u2 u3 => (gk a u2 u3).trans (e1 a u1)) (fun a _ _ _ => by rw [g2]) (fun j z => ?_) (fun j z => ?_) (fun j _ i _ => by rw [g2]) ?_
  · rw [g71]; unfold upd; rw [if_neg z]
  · rw [g72]; unfold upd; rw [if_neg z]
  · rw [g71, g72, g2, gk _ (by omega) (by omega)]
    exact hs
theorem pr_keep (v0 v1 : Int32) : mm_pr (mm_Iv LR) (x11_keep v0 v1) (x12_keep v0 v1) := by
  intro q h
  obtain ⟨h1, h2, h3, h4, h5, h6, h7, h8, h9, h10⟩ := id h
  obtain ⟨⟨t1, t2⟩, -⟩ := h7
  rcases mm_shf_at v0 with ⟨e, hn⟩ | ⟨k, hk, hd, e⟩
  · refine ⟨-1, q, q, ?_, rfl, ?_, h⟩
    · unfold x11_keep x11_shelfAt
      rw [mm_cl_s, e]
      rfl
    · unfold x12_keep
      rw [isShelf_eq, mm_cl_s, if_pos (by rw [mm_p0]; exact hn)]
  · have hin : mm_inb v0 6 = true := mm_inb_c hd hk
    have hx : x11_keep v0 v1 q = if v1 = -1 then x11_keep_j28 v1 (16 + 2 * k) q else mm_cl (x0_isBody v1 q) (fun r6 q7 => if r6 = 0 then some (-1, q7) else x11_keep_j28 v1 (16 + 2 * k) q7) := by
      unfold x11_keep x11_shelfAt
      rw [mm_cl_s, e]
      show mm_ck (mm_shb (16 + 2 * k)) _ = _
      rw [mm_ck_t (mm_shb_k hk)]
    have hy : ∀ q1 : mm_Q, x12_keep_j22 v0 v1 q1 = some (1, k2_e q1 k v1) := by
      intro q1
      unfold x12_keep_j22
      rw [mm_ck_t hin, mm_tcn hd, mm_lt_s, mm_ck_t hin, mm_lt_s]
      rfl
    by_cases c : v1 = -1
    · refine ⟨1, k0_e q k, k2_e (k0_e q k) k v1, ?_, k0_z q k, ?_, ?_⟩
      · rw [hx, if_pos c]
        unfold x11_keep_j28
        rw [if_pos c]
        rfl
      · unfold x12_keep
        rw [isShelf_eq, mm_cl_s, if_neg (by rw [mm_p0]; omega), if_pos c, hy]
      · refine k2_Iv (q1 := k0_e q k) h hk (fun a u => ?_) rfl v1 (Or.inl ⟨?_, ?_, ?_, ?_⟩)
        · unfold k0_e
          rw [mm_si_ne _ _ _ _ u, mm_si_ne _ _ _ _ u]
        · unfold k0_e
          rw [mm_si_self, mm_si_self]; rfl
        · rw [c]; exact if_pos rfl
        · unfold k0_e
          rw [mm_si_self]; rfl
        · exact if_pos rfl
    · by_cases b : 0 ≤ v1.toInt ∧ v1.toInt < (q.1 49 2).toInt
      · refine ⟨1, k1_e q k v1, k2_e (k1_e q k v1) k v1, ?_, k1_z q k v1, ?_, ?_⟩
        · rw [hx, if_neg c, mm_isBody, mm_cl_s, if_neg (by rw [mm_p0]; omega)]
          unfold x11_keep_j28
          rw [if_neg c]
          rfl
        · unfold x12_keep
          have e52 : (k1_e q k v1).1 52 = q.1 52 := by
            unfold k1_e
            rw [mm_si_ne _ _ _ _ (by omega), mm_si_ne _ _ _ _ (by omega), mm_si_ne _ _ _ _ (by omega)]
          rw [isShelf_eq, mm_cl_s, if_neg (by rw [mm_p0]; omega), if_neg c, mm_isBody12 (by rw [e52, t2]; omega), mm_cl_s, if_neg (by rw [mm_p0, e52, t2]; omega), hy]
        · refine k2_Iv (q1 := k1_e q k v1) h hk (fun a u => ?_) rfl v1 (Or.inr (Or.inl ⟨?_, ?_, ?_, ?_, ?_⟩))
          · unfold k1_e
            rw [mm_si_ne _ _ _ _ u, mm_si_ne _ _ _ _ u, mm_si_ne _ _ _ _ u]
          · unfold k1_e
            rw [mm_si_self, mm_si_self, mm_si_self]; rfl
          · unfold k1_e
            rw [mm_si_self, mm_si_self, mm_si_self]; exact if_pos rfl
          · have e2 : (k1_e q k v1).1 (16 + 2 * k) 2 = v1 := by
              unfold k1_e
              rw [mm_si_self, mm_si_self, mm_si_self]; rfl
            rw [e2]; exact b
          · unfold k1_e
            rw [mm_si_self]; rfl
          · exact if_pos rfl
      · refine ⟨-1, q, q, ?_, rfl, ?_, h⟩
        · rw [hx, if_neg c, mm_isBody, mm_cl_s, if_pos (by rw [mm_p0]; exact b)]
        · unfold x12_keep
          rw [isShelf_eq, mm_cl_s, if_neg (by rw [mm_p0]; omega), if_neg c, mm_isBody12 (by rw [t2]; omega), mm_cl_s, if_pos (by rw [mm_p0, t2]; exact b)]
end IV
