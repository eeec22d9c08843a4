/-! a stretch of a row copied -/
theorem sf_b {f : Nat} {d p n : Int32} {k P N : Nat} (hd : d.toInt = k) (hk : k < 6) (hp : p.toInt = P) (hn : n.toInt = N) (hN : P + N ≤ 60) : ∀ (m j : Nat) (a : Int32) (q : mm_Q), j + m = N → a.toInt = j → ∃ q' : mm_Q, x12_shift_h150 (f + m + 1) d p n a q = some (n, q') ∧ q'.1 = q.1 ∧ (∀ b, b ≠ 73 → q'.2 b = q.2 b) ∧ (∀ i, ¬ (60 * k + P + j ≤ i ∧ i < 60 * k + P + N) → q'.2 73 i = q.2 73 i) ∧ ∀ i, j ≤ i → i < N → q'.2 73 (60 * k + P + i) = q.2 74 i := by
  have es : (60 * d + p : Int32).toInt = ((60 * k + P : Nat) : Int) := mm_lin (m := 60) hd ti60 hp (by omega)
  intro m
  induction m with
  | zero =>
    intro j a q e1 e2
    refine ⟨q, ?_, rfl, fun _ _ => rfl, fun _ _ => rfl, fun i _ _ => by omega⟩
    rw [x12_shift_h150, if_pos (by rw [le32]; omega)]
  | succ m ih =>
    intro j a q e1 e2
    have e4 : (a + 1).toInt = ((j + 1 : Nat) : Int) := by rw [mm_add_ti (by rw [ti1]; omega) (by rw [ti1]; omega), ti1, e2]; omega
    have e5 : (60 * d + p + a : Int32).toInt = ((60 * k + P + j : Nat) : Int) := by rw [mm_add_ti (by omega) (by omega), es, e2]; omega
    obtain ⟨q', w1, w2, w3, w4, w5⟩ := ih (j + 1) (a + 1) (mm_sj q 73 (60 * k + P + j) (q.2 74 j)) (by omega) e4
    refine ⟨q', ?_, w2, fun b hb => ?_, fun i hi => ?_, fun i hi hi2 => ?_⟩
    · rw [show f + (m + 1) + 1 = (f + m + 1) + 1 from rfl, x12_shift_h150, if_neg (by rw [le32]; omega), mm_ck_t (mm_inb_c e2 (by omega)), mm_ck_t (mm_inb_c e5 (by omega)), mm_tcn e2, mm_tcn e5, mm_lt_s]
      exact w1
    · rw [w3 b hb, mm_sj_ne _ _ _ _ hb]
    · rw [w4 i (by omega), mm_sj_self]
      unfold vp_updL
      rw [if_neg (by omega)]
    · by_cases z : i = j
      · rw [w4 _ (by omega), mm_sj_self, z]
        unfold vp_updL
        rw [if_pos rfl]
      · rw [w5 i (by omega) hi2, mm_sj_ne _ _ _ _ (by decide)]
theorem sf_a {f : Nat} {d p n d2 p2 : Int32} {k P N : Nat} (hd : d.toInt = k) (hk : k < 6) (hp : p.toInt = P) (hn : n.toInt = N) (hN : P + N ≤ 60) : ∀ (m j : Nat) (a : Int32) (q : mm_Q), j + m = N → a.toInt = j → ∃ q' : mm_Q, x12_shift_h113 (f + m + 1) d p d2 p2 n a q = x12_shift_h150 mm_fu d2 p2 n 0 q' ∧ q'.1 = q.1 ∧ (∀ b, b ≠ 74 → q'.2 b = q.2 b) ∧ (∀ i, i < j → q'.2 74 i = q.2 74 i) ∧ ∀ i, j ≤ i → i < N → q'.2 74 i = q.2 73 (60 * k + P + i) := by
  have es : (60 * d + p : Int32).toInt = ((60 * k + P : Nat) : Int) := mm_lin (m := 60) hd ti60 hp (by omega)
  intro m
  induction m with
  | zero =>
    intro j a q e1 e2
    refine ⟨q, ?_, rfl, fun _ _ => rfl, fun _ _ => rfl, fun i _ _ => by omega⟩
    rw [x12_shift_h113, if_pos (by rw [le32]; omega)]
  | succ m ih =>
    intro j a q e1 e2
    have e4 : (a + 1).toInt = ((j + 1 : Nat) : Int) := by rw [mm_add_ti (by rw [ti1]; omega) (by rw [ti1]; omega), ti1, e2]; omega
    have e5 : (60 * d + p + a : Int32).toInt = ((60 * k + P + j : Nat) : Int) := by rw [mm_add_ti (by omega) (by omega), es, e2]; omega
    obtain ⟨q', w1, w2, w3, w4, w5⟩ := ih (j + 1) (a + 1) (mm_sj q 74 j (q.2 73 (60 * k + P + j))) (by omega) e4
    refine ⟨q', ?_, w2, fun b hb => ?_, fun i hi => ?_, fun i hi hi2 => ?_⟩
    · rw [show f + (m + 1) + 1 = (f + m + 1) + 1 from rfl, x12_shift_h113, if_neg (by rw [le32]; omega), mm_ck_t (mm_inb_c e5 (by omega)), mm_ck_t (mm_inb_c e2 (by omega)), mm_tcn e2, mm_tcn e5, mm_lt_s]
      exact w1
    · rw [w3 b hb, mm_sj_ne _ _ _ _ hb]
    · rw [w4 i (by omega), mm_sj_self]
      unfold vp_updL
      rw [if_neg (by omega)]
    · by_cases z : i = j
      · rw [w4 _ (by omega), mm_sj_self, z]
        unfold vp_updL
        rw [if_pos rfl]
      · rw [w5 i (by omega) hi2, mm_sj_ne _ _ _ _ (by decide)]
/-- two shelves that hold something hold rows of one sort -/
abbrev sf_like (c1 c2 : Nat → Int32) : Prop := c1 1 = 2 ∧ c2 1 = 2 ∧ c1 3 = c2 3
theorem mm_cj_ne (q : mm_Q) (a b s d n : Nat) {k : Nat} (h : k ≠ b) : (mm_cj q a b s d n).2 k = q.2 k := mm_uc_ne _ _ h
theorem mm_cj_self (q : mm_Q) (a b s d n : Nat) : (mm_cj q a b s d n).2 b = va_cpy (q.2 a) (q.2 b) s d n := mm_uc_self _ _ _
theorem sf_isLike (a b : Nat) (q : mm_Q) : x8_isLikeRow a b q = some (mm_p (sf_like (q.1 a) (q.1 b)), q) := by
  unfold x8_isLikeRow mm_p
  by_cases c1 : q.1 a 1 = 2
  · by_cases c2 : q.1 b 1 = 2
    · by_cases c3 : q.1 a 3 = q.1 b 3
      · rw [if_pos c1, if_pos c2, if_pos c3, if_pos ⟨c1, c2, c3⟩]
      · rw [if_pos c1, if_pos c2, if_neg c3, if_neg (fun w => c3 w.2.2)]
    · rw [if_pos c1, if_neg c2, if_neg (fun w => c2 w.2.1)]
  · rw [if_neg c1, if_neg (fun w => c1 w.1)]
theorem mm_she_neg {bd : Int32} {d : Nat} {ch : Nat → Int32} {eh : Nat → Int64} {c71 c72 : Nat → Int32} {d73 : Nat → Int64} (h : mm_she bd d ch eh c71 c72 d73) : c71 d < 0 ↔ ch 1 = 0 := by
  rcases h with ⟨g1, g2, -⟩ | ⟨g1, g2, g3, -⟩ | ⟨g1, g3, g4, -⟩
  · rw [g1, g2]; decide
  · rw [g1, g2, lt32, ti0]
    exact ⟨fun w => by omega, fun w => absurd w (by decide)⟩
  · have e5 : (50 + ch 3).toInt = 50 + (ch 3).toInt := by rw [mm_add_ti (by rw [ti50]; omega) (by rw [ti50]; omega), ti50]
    rw [g1, g4, lt32, ti0]
    exact ⟨fun w => by omega, fun w => absurd w (by decide)⟩
theorem mm_she_50 {bd : Int32} (hbd : bd.toInt ≤ 50) {d : Nat} {ch : Nat → Int32} {eh : Nat → Int64} {c71 c72 : Nat → Int32} {d73 : Nat → Int64} (h : mm_she bd d ch eh c71 c72 d73) : (c71 d < 50 ∧ ch 1 ≠ 2) ∨ (¬ c71 d < 50 ∧ ch 1 = 2 ∧ c71 d = 50 + ch 3 ∧ (c71 d).toInt = 50 + (ch 3).toInt ∧ c72 d = ch 4 ∧ (0 ≤ (ch 4).toInt ∧ (ch 4).toInt ≤ 60)) := by
  rcases h with ⟨g1, g2, -⟩ | ⟨g1, g2, g3, -⟩ | ⟨g1, g3, g4, g5, g6, -⟩
  · refine Or.inl ⟨?_, ?_⟩
    · rw [g2]; decide
    · rw [g1]; decide
  · refine Or.inl ⟨?_, ?_⟩
    · rw [g2, lt32, ti50]; omega
    · rw [g1]; decide
  · have e5 : (50 + ch 3).toInt = 50 + (ch 3).toInt := by rw [mm_add_ti (by rw [ti50]; omega) (by rw [ti50]; omega), ti50]
    refine Or.inr ⟨?_, g1, g4, ?_, g6, g5⟩
    · rw [g4, lt32, ti50]; omega
    · rw [g4]; exact e5
section IV
variable {LR : mm_LR}
theorem pr_shift (v0 v1 v2 v3 v4 : Int32) : mm_pr (mm_Iv LR) (x11_shift v0 v1 v2 v3 v4) (x12_shift v0 v1 v2 v3 v4) := by
  intro q h
  obtain ⟨h1, h2, h3, h4, h5, h6, h7, h8, h9, h10⟩ := id h
  have hbd : (q.1 49 2).toInt ≤ 50 := h7.1.1.2
  rcases mm_shf_at v0 with ⟨e, hn⟩ | ⟨k, hk, hd, e⟩
  · refine ⟨-1, q, q, ?_, rfl, ?_, h⟩
    · unfold x11_shift x11_shelfAt
      rw [mm_cl_s, mm_cl_s, e]
      rfl
    · unfold x12_shift
      rw [isShelf_eq, mm_cl_s, if_pos (by rw [mm_p0]; exact hn)]
  rcases mm_shf_at v2 with ⟨e', hn⟩ | ⟨k2, hk2, hd2, e'⟩
  · refine ⟨-1, q, q, ?_, rfl, ?_, h⟩
    · unfold x11_shift x11_shelfAt
      rw [mm_cl_s, mm_cl_s, e, e']
      show mm_ck (mm_shb (16 + 2 * k)) (some (-1, q)) = _
      rw [mm_ck_t (mm_shb_k hk)]
    · unfold x12_shift
      rw [isShelf_eq, mm_cl_s, if_neg (by rw [mm_p0]; omega), isShelf_eq, mm_cl_s, if_pos (by rw [mm_p0]; exact hn)]
  have hin : mm_inb v0 6 = true := mm_inb_c hd hk
  have hin2 : mm_inb v2 6 = true := mm_inb_c hd2 hk2
  have hs := iv_shf_all.mp h8 k hk
  have hs2 := iv_shf_all.mp h8 k2 hk2
  have l1 := mm_she_len hs
  have l2 := mm_she_len hs2
  have hx : x11_shift v0 v1 v2 v3 v4 q = if q.1 (16 + 2 * k) 1 = 0 then some (-11, q) else if q.1 (16 + 2 * k2) 1 = 0 then some (-11, q) else if sf_like (q.1 (16 + 2 * k)) (q.1 (16 + 2 * k2)) then (if 0 ≤ v1.toInt ∧ 0 ≤ v4.toInt ∧ v1.toInt ≤ (q.1 (16 + 2 * k) 4).toInt ∧ v4.toInt ≤ (q.1 (16 + 2 * k) 4).toInt - v1.toInt then (if 0 ≤ v3.toInt ∧ 0 ≤ v4.toInt ∧ v3.toInt ≤ (q.1 (16 + 2 * k2) 4).toInt ∧ v4.toInt ≤ (q.1 (16 + 2 * k2) 4).toInt - v3.toInt then mm_cl (x8_copyTo (16 + 2 * k) v1 (16 + 2 * k2) v3 v4 q) (fun _ q25 => some (v4, q25)) else some (-13, q)) else some (-13, q)) else some (-12, q) := by
    unfold x11_shift x11_shelfAt
    rw [mm_cl_s, mm_cl_s, e, e']
    show mm_ck (mm_shb (16 + 2 * k)) (mm_ck (mm_shb (16 + 2 * k2)) _) = _
    rw [mm_ck_t (mm_shb_k hk), mm_ck_t (mm_shb_k hk2), mm_isEmpty, mm_cl_s]
    by_cases c1 : q.1 (16 + 2 * k) 1 = 0
    · rw [if_neg (by rw [mm_p0]; exact fun w => w c1), if_pos c1]
    rw [if_pos (by rw [mm_p0]; exact c1), if_neg c1, mm_isEmpty, mm_cl_s]
    by_cases c2 : q.1 (16 + 2 * k2) 1 = 0
    · rw [if_neg (by rw [mm_p0]; exact fun w => w c2), if_pos c2]
    rw [if_pos (by rw [mm_p0]; exact c2), if_neg c2, sf_isLike, mm_cl_s]
    by_cases c3 : sf_like (q.1 (16 + 2 * k)) (q.1 (16 + 2 * k2))
    · rw [if_neg (by rw [mm_p0]; exact fun w => w c3), if_pos c3, hasPlaces_eq l1, mm_cl_s]
      by_cases c4 : 0 ≤ v1.toInt ∧ 0 ≤ v4.toInt ∧ v1.toInt ≤ (q.1 (16 + 2 * k) 4).toInt ∧ v4.toInt ≤ (q.1 (16 + 2 * k) 4).toInt - v1.toInt
      · rw [if_neg (by rw [mm_p0]; exact fun w => w c4), if_pos c4, hasPlaces_eq l2, mm_cl_s]
        by_cases c5 : 0 ≤ v3.toInt ∧ 0 ≤ v4.toInt ∧ v3.toInt ≤ (q.1 (16 + 2 * k2) 4).toInt ∧ v4.toInt ≤ (q.1 (16 + 2 * k2) 4).toInt - v3.toInt
        · rw [if_neg (by rw [mm_p0]; exact fun w => w c5), if_pos c5]
        · rw [if_pos (by rw [mm_p0]; exact c5), if_neg c5]
      · rw [if_pos (by rw [mm_p0]; exact c4), if_neg c4]
    · rw [if_pos (by rw [mm_p0]; exact c3), if_neg c3]
  have hy : ∀ q1 : mm_Q, x12_shift v0 v1 v2 v3 v4 q1 = if q1.1 71 k < 0 then some (-11, q1) else if 0 ≤ q1.1 71 k2 then (if q1.1 71 k < 50 then some (-12, q1) else if q1.1 71 k = q1.1 71 k2 then (if v4 < 0 then some (-13, q1) else if v1 < 0 then some (-13, q1) else if v3 < 0 then some (-13, q1) else if q1.1 72 k - v4 < v1 then some (-13, q1) else if v3 ≤ q1.1 72 k2 - v4 then x12_shift_h113 mm_fu v0 v1 v2 v3 v4 0 q1 else some (-13, q1)) else some (-12, q1)) else some (-11, q1) := by
    intro q1
    unfold x12_shift
    rw [isShelf_eq, mm_cl_s, if_neg (by rw [mm_p0]; omega), isShelf_eq, mm_cl_s, if_neg (by rw [mm_p0]; omega)]
    rw [mm_ck_t hin, mm_ck_t hin2, mm_ck_t hin, mm_ck_t hin, mm_ck_t hin2, mm_ck_t hin, mm_ck_t hin2, mm_tcn hd, mm_tcn hd2]
  by_cases c1 : q.1 (16 + 2 * k) 1 = 0
  · exact ⟨-11, q, q, by rw [hx, if_pos c1], rfl, by rw [hy, if_pos ((mm_she_neg hs).mpr c1)], h⟩
  have n1 : ¬ q.1 71 k < 0 := fun w => c1 ((mm_she_neg hs).mp w)
  rw [if_neg c1] at hx
  by_cases c2 : q.1 (16 + 2 * k2) 1 = 0
  · refine ⟨-11, q, q, by rw [hx, if_pos c2], rfl, ?_, h⟩
    rw [hy, if_neg n1, if_neg (by rw [← Int32.not_lt]; exact fun w => w ((mm_she_neg hs2).mpr c2))]
  have n2 : (0 : Int32) ≤ q.1 71 k2 := by
    rw [← Int32.not_lt]; exact fun w => c2 ((mm_she_neg hs2).mp w)
  rw [if_neg c2] at hx
  have hz : ∀ q1 : mm_Q, q1.1 = q.1 → x12_shift v0 v1 v2 v3 v4 q1 = if q.1 71 k < 50 then some (-12, q1) else if q.1 71 k = q.1 71 k2 then (if v4 < 0 then some (-13, q1) else if v1 < 0 then some (-13, q1) else if v3 < 0 then some (-13, q1) else if q.1 72 k - v4 < v1 then some (-13, q1) else if v3 ≤ q.1 72 k2 - v4 then x12_shift_h113 mm_fu v0 v1 v2 v3 v4 0 q1 else some (-13, q1)) else some (-12, q1) := by
    intro q1 w
    rw [hy, w, if_neg n1, if_pos n2]
  rcases mm_she_50 hbd hs with ⟨a1, a2⟩ | ⟨a1, a2, a3, a4, a5, a6⟩
  · exact ⟨-12, q, q, by rw [hx, if_neg (fun w => a2 w.1)], rfl, by rw [hz q rfl, if_pos a1], h⟩
  rcases mm_she_50 hbd hs2 with ⟨b1, b2⟩ | ⟨b1, b2, b3, b4, b5, b6⟩
  · refine ⟨-12, q, q, by rw [hx, if_neg (fun w => b2 w.2.1)], rfl, ?_, h⟩
    rw [hz q rfl, if_neg a1, if_neg (fun w => a1 (by rw [w]; exact b1))]
  have hq : q.1 71 k = q.1 71 k2 ↔ q.1 (16 + 2 * k) 3 = q.1 (16 + 2 * k2) 3 := by
    rw [eq32, a4, b4, eq32]
    omega
  by_cases c3 : q.1 (16 + 2 * k) 3 = q.1 (16 + 2 * k2) 3
  · rw [if_pos (show sf_like (q.1 (16 + 2 * k)) (q.1 (16 + 2 * k2)) from ⟨a2, b2, c3⟩)] at hx
    have hw : ∀ q1 : mm_Q, q1.1 = q.1 → x12_shift v0 v1 v2 v3 v4 q1 = if v4 < 0 then some (-13, q1) else if v1 < 0 then some (-13, q1) else if v3 < 0 then some (-13, q1) else if q.1 (16 + 2 * k) 4 - v4 < v1 then some (-13, q1) else if v3 ≤ q.1 (16 + 2 * k2) 4 - v4 then x12_shift_h113 mm_fu v0 v1 v2 v3 v4 0 q1 else some (-13, q1) := by
      intro q1 w
      rw [hz q1 w, if_neg a1, if_pos (hq.mpr c3), a5, b5]
    by_cases c4 : v4 < 0
    · have c4' := c4
      rw [lt32, ti0] at c4'
      exact ⟨-13, q, q, by rw [hx, if_neg (by omega)], rfl, by rw [hw q rfl, if_pos c4], h⟩
    have c4' := c4
    rw [lt32, ti0] at c4'
    have s1 : (q.1 (16 + 2 * k) 4 - v4).toInt = (q.1 (16 + 2 * k) 4).toInt - v4.toInt := mm_sub_ti (by have := Int32.toInt_lt v4; omega) (by omega)
    have s2 : (q.1 (16 + 2 * k2) 4 - v4).toInt = (q.1 (16 + 2 * k2) 4).toInt - v4.toInt := mm_sub_ti (by have := Int32.toInt_lt v4; omega) (by omega)
    by_cases c5 : (0 ≤ v1.toInt ∧ 0 ≤ v4.toInt ∧ v1.toInt ≤ (q.1 (16 + 2 * k) 4).toInt ∧ v4.toInt ≤ (q.1 (16 + 2 * k) 4).toInt - v1.toInt) ∧ 0 ≤ v3.toInt ∧ 0 ≤ v4.toInt ∧ v3.toInt ≤ (q.1 (16 + 2 * k2) 4).toInt ∧ v4.toInt ≤ (q.1 (16 + 2 * k2) 4).toInt - v3.toInt
    · obtain ⟨⟨u1, u2, u3, u4⟩, u5, -, u6, u7⟩ := id c5
      obtain ⟨P, hP⟩ : ∃ P : Nat, v1.toInt = P := ⟨v1.toInt.toNat, by omega⟩
      obtain ⟨N, hN⟩ : ∃ N : Nat, v4.toInt = N := ⟨v4.toInt.toNat, by omega⟩
      obtain ⟨P2, hP2⟩ : ∃ P2 : Nat, v3.toInt = P2 := ⟨v3.toInt.toNat, by omega⟩
      have hcp : mm_cp v1 v3 v4 60 60 = true := by
        unfold mm_cp
        rw [mm_tcn hP, mm_tcn hP2, mm_tcn hN, decide_eq_true (show (0 : Int32) ≤ v1 by rw [le32, ti0]; omega), decide_eq_true (show (0 : Int32) ≤ v3 by rw [le32, ti0]; omega), decide_eq_true (show (0 : Int32) ≤ v4 by rw [le32, ti0]; omega), Nat.ble_eq_true_of_le (show P + N ≤ 60 by omega), Nat.ble_eq_true_of_le (show P2 + N ≤ 60 by omega)]
        rfl
      obtain ⟨q1, hq1⟩ : ∃ q1 : mm_Q, q1 = mm_cj q (17 + 2 * k) (17 + 2 * k2) P P2 N := ⟨_, rfl⟩
      have f1 : q1.1 = q.1 := by rw [hq1]; rfl
      have fs : q1.2 (17 + 2 * k2) = va_cpy (q.2 (17 + 2 * k)) (q.2 (17 + 2 * k2)) P P2 N := by rw [hq1, mm_cj_self]
      have fn : ∀ a, a ≠ 17 + 2 * k2 → q1.2 a = q.2 a := fun a u => by rw [hq1, mm_cj_ne _ _ _ _ _ _ u]
      obtain ⟨q2, w1, w2, w3, -, w5⟩ := sf_a (f := 999 - N) (d2 := v2) (p2 := v3) hd hk hP hN (by omega) N 0 0 q1 (by omega) ti0
      obtain ⟨q3, z1, z2, z3, z4, z5⟩ := sf_b (f := 999 - N) hd2 hk2 hP2 hN (by omega) N 0 0 q2 (by omega) ti0
      have fu : mm_fu = 999 - N + N + 1 := by show 1000 = _; omega
      have y1 : q3.1 = q.1 := by rw [z2, w2, f1]
      have y73 : ∀ i, i < N → q3.2 73 (60 * k2 + P2 + i) = q.2 (17 + 2 * k) (P + i) := by
        intro i hi
        rw [z5 i (by omega) hi, w5 i (by omega) hi, fn 73 (by omega), show 60 * k + P + i = 60 * k + (P + i) by omega]
        rcases hs with ⟨g1, -⟩ | ⟨g1, -⟩ | ⟨-, -, -, -, -, g, -⟩
        · exact absurd g1 c1
        · exact absurd (g1.symm.trans a2) (by decide)
        · exact g (P + i) (by omega)
      have yo : ∀ i, ¬ (60 * k2 + P2 ≤ i ∧ i < 60 * k2 + P2 + N) → q3.2 73 i = q.2 73 i := by
        intro i hi
        rw [z4 i (by omega), w3 73 (by decide), fn 73 (by omega)]
      have yk : q3.2 (17 + 2 * k2) = va_cpy (q.2 (17 + 2 * k)) (q.2 (17 + 2 * k2)) P P2 N := by
        rw [z3 _ (by omega), w3 _ (by omega), fs]
      refine ⟨v4, q1, q3, ?_, by rw [f1], ?_, mm_Iv_shelf h hk2 (fun a _ _ _ => by rw [y1]) (fun a t1 t2 t3 => ?_) (fun j _ => by rw [y1]) (fun j _ => by rw [y1]) (fun j t i hi => yo _ (by omega)) ?_⟩
      · rw [hx, if_pos c5.1, if_pos c5.2]
        unfold x8_copyTo
        rw [hasPlaces_eq l1, mm_cl_s, if_neg (by rw [mm_p0]; exact fun w => w c5.1), hasPlaces_eq l2, mm_cl_s, if_neg (by rw [mm_p0]; exact fun w => w c5.2), mm_ck_t hcp, mm_lt_s, mm_cl_s, mm_tcn hP, mm_tcn hP2, mm_tcn hN, show 16 + 2 * k + 1 = 17 + 2 * k by omega, show 16 + 2 * k2 + 1 = 17 + 2 * k2 by omega, hq1]
      · rw [hw q1 f1, if_neg c4, if_neg (by rw [lt32, ti0]; omega), if_neg (by rw [lt32, ti0]; omega), if_neg (by rw [lt32, s1]; omega), if_pos (by rw [le32, s2]; omega)]
        rw [show x12_shift_h113 mm_fu v0 v1 v2 v3 v4 0 q1 = x12_shift_h113 (999 - N + N + 1) v0 v1 v2 v3 v4 0 q1 by rw [← fu], w1, fu, z1]
      · rw [z3 a t2, w3 a t3, fn a t1]
      · rw [y1, yk]
        rcases hs2 with ⟨g1, -⟩ | ⟨g1, -⟩ | ⟨g1, g3, g4, g5, g6, g7, g8⟩
        · exact absurd g1 c2
        · exact absurd (g1.symm.trans b2) (by decide)
        · refine Or.inr (Or.inr ⟨g1, g3, g4, g5, g6, fun i hi => ?_, fun t i hi => ?_⟩)
          · unfold va_cpy
            by_cases t : P2 ≤ i ∧ i < P2 + N
            · rw [if_pos t, ← y73 (i - P2) (by omega), show 60 * k2 + P2 + (i - P2) = 60 * k2 + i by omega]
            · rw [if_neg t, yo _ (by omega), g7 i hi]
          · unfold va_cpy
            by_cases t2 : P2 ≤ i ∧ i < P2 + N
            · rw [if_pos t2]
              rcases hs with ⟨r1, -⟩ | ⟨r1, -⟩ | ⟨-, -, -, -, -, -, r8⟩
              · exact absurd r1 c1
              · exact absurd (r1.symm.trans a2) (by decide)
              · exact r8 (c3.trans t) (P + (i - P2)) (by omega)
            · rw [if_neg t2]
              exact g8 t i hi
    · refine ⟨-13, q, q, ?_, rfl, ?_, h⟩
      · rw [hx]
        by_cases c6 : 0 ≤ v1.toInt ∧ 0 ≤ v4.toInt ∧ v1.toInt ≤ (q.1 (16 + 2 * k) 4).toInt ∧ v4.toInt ≤ (q.1 (16 + 2 * k) 4).toInt - v1.toInt
        · rw [if_pos c6, if_neg (fun w => c5 ⟨c6, w⟩)]
        · rw [if_neg c6]
      · rw [hw q rfl, if_neg c4]
        simp only [lt32, le32, ti0, s1, s2]
        repeat' split
        all_goals first | rfl | (exfalso; omega)
  · refine ⟨-12, q, q, by rw [hx, if_neg (fun w => c3 w.2.2)], rfl, ?_, h⟩
    rw [hz q rfl, if_neg a1, if_neg (fun w => c3 (hq.mp w))]
end IV
