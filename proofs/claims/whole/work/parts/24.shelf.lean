/-! pairs of shelves -/
theorem iv_shf_all {bd : Int32} {q : mm_Q} : iv_shf bd q ↔ ∀ k : Nat, k < 6 → mm_she bd k (q.1 (16 + 2 * k)) (q.2 (17 + 2 * k)) (q.1 71) (q.1 72) (q.2 73) := by
  constructor
  · intro h k hk
    obtain ⟨s0, s1, s2, s3, s4, s5⟩ := h
    rcases (show k = 0 ∨ k = 1 ∨ k = 2 ∨ k = 3 ∨ k = 4 ∨ k = 5 by omega) with rfl | rfl | rfl | rfl | rfl | rfl
    · exact s0
    · exact s1
    · exact s2
    · exact s3
    · exact s4
    · exact s5
  · intro h
    exact ⟨h 0 (by decide), h 1 (by decide), h 2 (by decide), h 3 (by decide), h 4 (by decide), h 5 (by decide)⟩
theorem mm_shf_at (d : Int32) : (mm_shf d = none ∧ ¬ (0 ≤ d.toInt ∧ d.toInt ≤ 5)) ∨ ∃ k : Nat, k < 6 ∧ d.toInt = k ∧ mm_shf d = some (16 + 2 * k) := by
  rcases mm_shf_cases d with ⟨h, z⟩ | ⟨rfl, h⟩ | ⟨rfl, h⟩ | ⟨rfl, h⟩ | ⟨rfl, h⟩ | ⟨rfl, h⟩ | ⟨rfl, h⟩
  · exact Or.inl ⟨h, fun w => z ⟨by rw [le32, ti0]; omega, by rw [lt32, ti6]; omega⟩⟩
  · exact Or.inr ⟨0, by decide, by decide, h⟩
  · exact Or.inr ⟨1, by decide, by decide, h⟩
  · exact Or.inr ⟨2, by decide, by decide, h⟩
  · exact Or.inr ⟨3, by decide, by decide, h⟩
  · exact Or.inr ⟨4, by decide, by decide, h⟩
  · exact Or.inr ⟨5, by decide, by decide, h⟩
theorem mm_shb_k {k : Nat} (h : k < 6) : mm_shb (16 + 2 * k) = true := by
  rcases (show k = 0 ∨ k = 1 ∨ k = 2 ∨ k = 3 ∨ k = 4 ∨ k = 5 by omega) with rfl | rfl | rfl | rfl | rfl | rfl <;> rfl
theorem isShelf_eq (a : Int32) (q : mm_Q) : x12_isShelf a q = some (mm_p (0 ≤ a.toInt ∧ a.toInt ≤ 5), q) := by
  unfold x12_isShelf
  rw [within_eq, mm_cl_s, mm_ck_t mm_pb, mm_i64]
  rfl
theorem hasPlaces_eq {h : Nat} {q : mm_Q} (h1 : 0 ≤ (q.1 h 4).toInt ∧ (q.1 h 4).toInt ≤ 60) (i n : Int32) : x8_hasPlaces h i n q = some (mm_p (0 ≤ i.toInt ∧ 0 ≤ n.toInt ∧ i.toInt ≤ (q.1 h 4).toInt ∧ n.toInt ≤ (q.1 h 4).toInt - i.toInt), q) := by
  unfold x8_hasPlaces mm_p
  simp only [lt32, ti0]
  by_cases c1 : i.toInt < 0
  · rw [if_pos c1, if_neg (by omega)]
  rw [if_neg c1]
  by_cases c2 : n.toInt < 0
  · rw [if_pos c2, if_neg (by omega)]
  rw [if_neg c2]
  by_cases c3 : (q.1 h 4).toInt < i.toInt
  · rw [if_pos c3, if_neg (by omega)]
  rw [if_neg c3, mm_sub_ti (by omega) (by omega)]
  by_cases c4 : (q.1 h 4).toInt - i.toInt < n.toInt
  · rw [if_pos c4, if_neg (by omega)]
  · rw [if_neg c4, if_pos (by omega)]
theorem mm_sj_ne (q : mm_Q) (a i : Nat) (v : Int64) {k : Nat} (h : k ≠ a) : (mm_sj q a i v).2 k = q.2 k := mm_uc_ne _ _ h
theorem mm_sj_self (q : mm_Q) (a i : Nat) (v : Int64) : (mm_sj q a i v).2 a = vp_updL (q.2 a) i v := mm_uc_self _ _ _
/-- why an element can't be had -/
def mm_rf (ch : Nat → Int32) (i : Int32) : Int32 := if ch 1 = 0 then -11 else if ch 1 = 2 then (if 0 ≤ i.toInt ∧ i.toInt < (ch 4).toInt then 0 else -13) else -12
theorem mm_she_len {bd : Int32} {d : Nat} {ch : Nat → Int32} {eh : Nat → Int64} {c71 c72 : Nat → Int32} {d73 : Nat → Int64} (h : mm_she bd d ch eh c71 c72 d73) : 0 ≤ (ch 4).toInt ∧ (ch 4).toInt ≤ 60 := by
  rcases h with ⟨-, -, h, -⟩ | ⟨-, -, -, h, -⟩ | ⟨-, -, -, h, -⟩
  · rw [h, ti0]; decide
  · rw [h, ti0]; decide
  · exact h
theorem placeRefusal_eq {h : Nat} {q : mm_Q} (h1 : 0 ≤ (q.1 h 4).toInt ∧ (q.1 h 4).toInt ≤ 60) (i : Int32) : x8_placeRefusal h i q = some (mm_rf (q.1 h) i, q) := by
  unfold x8_placeRefusal mm_rf
  rw [hasPlaces_eq h1, mm_cl_s, ti1]
  by_cases c1 : q.1 h 1 = 0
  · rw [if_pos c1, if_pos c1]
  rw [if_neg c1, if_neg c1]
  by_cases c2 : q.1 h 1 = 2
  · rw [if_pos c2, if_pos c2]
    by_cases c3 : 0 ≤ i.toInt ∧ i.toInt < (q.1 h 4).toInt
    · rw [if_neg (by rw [mm_p0]; omega), if_pos c3]
    · rw [if_pos (by rw [mm_p0]; omega), if_neg c3]
  · rw [if_neg c2, if_neg c2]
theorem refusal_eq {bd : Int32} (hbd : bd.toInt ≤ 50) {q : mm_Q} {d : Int32} {k : Nat} (hd : d.toInt = k) (hk : k < 6) {ch : Nat → Int32} {eh : Nat → Int64} (h : mm_she bd k ch eh (q.1 71) (q.1 72) (q.2 73)) (i : Int32) : x12_refusal d i q = some (mm_rf ch i, q) := by
  have hin : mm_inb d 6 = true := mm_inb_c hd hk
  unfold x12_refusal mm_rf
  rw [isShelf_eq, mm_cl_s, if_neg (by rw [mm_p0]; omega), mm_ck_t hin, mm_tcn hd, mm_ck_t hin, mm_ck_t hin]
  rcases h with ⟨h1, h2, h3, h4⟩ | ⟨h1, h2, h3, h4, h5⟩ | ⟨h1, h2, h3, h4, h5, -⟩
  · rw [h2, if_neg (by decide), if_pos h1]
  · rw [h2, if_pos (by rw [le32, ti0]; omega), if_neg (by rw [le32, ti50]; omega), if_neg (by rw [h1]; decide), if_neg (by rw [h1]; decide)]
  · have e : (50 + ch 3).toInt = 50 + (ch 3).toInt := by rw [mm_add_ti (by rw [ti50]; omega) (by rw [ti50]; omega), ti50]
    have r : (if ch 1 = 0 then (-11 : Int32) else if ch 1 = 2 then (if 0 ≤ i.toInt ∧ i.toInt < (ch 4).toInt then 0 else -13) else -12) = if 0 ≤ i.toInt ∧ i.toInt < (ch 4).toInt then 0 else -13 := by
      rw [if_neg (by rw [h1]; decide), if_pos h1]
    rw [r, h3, if_pos (by rw [le32, ti0]; omega), if_pos (by rw [le32, ti50]; omega), h5]
    simp only [lt32, le32, ti0]
    repeat' split
    all_goals first | rfl | (exfalso; omega)
theorem mm_rf0 {bd : Int32} {d : Nat} {ch : Nat → Int32} {eh : Nat → Int64} {c71 c72 : Nat → Int32} {d73 : Nat → Int64} (h : mm_she bd d ch eh c71 c72 d73) {i : Int32} (hr : mm_rf ch i = 0) : ch 1 = 2 ∧ (0 ≤ i.toInt ∧ i.toInt < (ch 4).toInt) ∧ (0 ≤ (ch 3).toInt ∧ (ch 3).toInt ≤ 4) ∧ c71 d = 50 + ch 3 ∧ (0 ≤ (ch 4).toInt ∧ (ch 4).toInt ≤ 60) ∧ c72 d = ch 4 ∧ (∀ i : Nat, (i : Int) < (ch 4).toInt → d73 (60 * d + i) = eh i) ∧ (ch 3 = 1 → ∀ i : Nat, (i : Int) < (ch 4).toInt → -32768 ≤ (eh i).toInt ∧ (eh i).toInt ≤ 32767) := by
  unfold mm_rf at hr
  by_cases c1 : ch 1 = 0
  · rw [if_pos c1] at hr; exact absurd hr (by decide)
  rw [if_neg c1] at hr
  by_cases c2 : ch 1 = 2
  · rw [if_pos c2] at hr
    by_cases c3 : 0 ≤ i.toInt ∧ i.toInt < (ch 4).toInt
    · rcases h with ⟨h1, -⟩ | ⟨h1, -⟩ | ⟨-, h⟩
      · exact absurd h1 c1
      · rw [h1] at c2; exact absurd c2 (by decide)
      · exact ⟨c2, c3, h⟩
    · rw [if_neg c3] at hr; exact absurd hr (by decide)
  · rw [if_neg c2] at hr; exact absurd hr (by decide)
theorem elementAt_eq {h : Nat} {q : mm_Q} (h1 : 0 ≤ (q.1 h 4).toInt ∧ (q.1 h 4).toInt ≤ 60) {i : Int32} {n : Nat} (hi : i.toInt = n) (hn : (n : Int) < (q.1 h 4).toInt) : x8_elementAt h i q = some (q.2 (h + 1) n, q) := by
  unfold x8_elementAt
  rw [hasPlaces_eq h1, mm_cl_s, ti1, if_neg (by rw [mm_p0]; omega), mm_ck_t (mm_inb_c hi (by omega)), mm_tcn hi]
theorem mm_place {d i : Int32} {k n : Nat} (hd : d.toInt = k) (hk : k < 6) (hi : i.toInt = n) (hn : n < 60) : (60 * d + i).toInt = ((60 * k + n : Nat) : Int) := mm_lin (m := 60) hd ti60 hi (by omega)
theorem mm_she_other {bd : Int32} {d : Nat} {ch : Nat → Int32} {eh : Nat → Int64} {c71 c72 c71' c72' : Nat → Int32} {d73 d73' : Nat → Int64} (h : mm_she bd d ch eh c71 c72 d73) (e1 : c71' d = c71 d) (e2 : c72' d = c72 d) (e3 : ∀ i : Nat, i < 60 → d73' (60 * d + i) = d73 (60 * d + i)) : mm_she bd d ch eh c71' c72' d73' := by
  unfold mm_she
  rw [e1, e2]
  rcases h with h | h | ⟨h1, h2, h3, h4, h5, h6, h7⟩
  · exact Or.inl h
  · exact Or.inr (Or.inl h)
  · exact Or.inr (Or.inr ⟨h1, h2, h3, h4, h5, fun i hi => (e3 i (by omega)).trans (h6 i hi), h7⟩)
section IV
variable {LR : mm_LR}
theorem pr_element (v0 v1 : Int32) : mm_pr (mm_Iv LR) (x11_element v0 v1) (x12_element v0 v1) := by
  intro q h
  obtain ⟨h1, h2, h3, h4, h5, h6, h7, h8, h9, h10⟩ := id h
  rcases mm_shf_at v0 with ⟨e, hn⟩ | ⟨k, hk, hd, e⟩
  · refine ⟨-9223372036854775808, q, q, ?_, rfl, ?_, h⟩
    · unfold x11_element x11_shelfAt
      rw [mm_cl_s, e]
      rfl
    · unfold x12_element x12_refusal
      rw [isShelf_eq, mm_cl_s, if_pos (by rw [mm_p0]; exact hn), mm_cl_s, if_neg (by decide)]
  · have hs := iv_shf_all.mp h8 k hk
    have hl := mm_she_len hs
    by_cases c : mm_rf (q.1 (16 + 2 * k)) v1 = 0
    · obtain ⟨g1, g2, g3, g4, g5, g6, g7, g8⟩ := mm_rf0 hs c
      obtain ⟨n, hi⟩ : ∃ n : Nat, v1.toInt = n := ⟨v1.toInt.toNat, by omega⟩
      have ep := mm_place hd hk hi (by omega)
      refine ⟨q.2 (17 + 2 * k) n, q, q, ?_, rfl, ?_, h⟩
      · unfold x11_element x11_shelfAt
        rw [mm_cl_s, e]
        show mm_ck (mm_shb (16 + 2 * k)) _ = _
        rw [mm_ck_t (mm_shb_k hk), placeRefusal_eq hl, mm_cl_s, c, if_pos rfl, elementAt_eq hl hi (by omega), mm_cl_s, show 16 + 2 * k + 1 = 17 + 2 * k by omega]
      · unfold x12_element
        rw [refusal_eq h7.1.1.2 hd hk hs, mm_cl_s, c, if_pos rfl, mm_ck_t (mm_inb_c ep (by omega)), mm_tcn ep, g7 n (by omega)]
    · refine ⟨-9223372036854775808, q, q, ?_, rfl, ?_, h⟩
      · unfold x11_element x11_shelfAt
        rw [mm_cl_s, e]
        show mm_ck (mm_shb (16 + 2 * k)) _ = _
        rw [mm_ck_t (mm_shb_k hk), placeRefusal_eq hl, mm_cl_s, if_neg c]
      · unfold x12_element
        rw [refusal_eq h7.1.1.2 hd hk hs, mm_cl_s, if_neg c]
/-- the lowest bits of a sort -/
def mm_low (s : Int32) (v : Int64) : Int64 := if s = 0 then v.toInt32.toInt8.toInt32.toInt64 else if s = 1 then v.toInt32.toInt16.toInt32.toInt64 else if s = 2 then v.toInt32.toInt64 else if s = 4 then (if v = 0 then 0 else 1) else v
theorem low8_eq (h : Nat) (v : Int64) (q : mm_Q) : x8_lowestBits h v q = some (mm_low (q.1 h 3) v, q) := by
  unfold x8_lowestBits mm_low
  simp only [mm_cmp_eq]
  by_cases c0 : q.1 h 3 = 0
  · rw [if_pos c0, if_pos c0]
  rw [if_neg c0, if_neg c0]
  by_cases c1 : q.1 h 3 = 1
  · rw [if_pos c1, if_pos c1]
  rw [if_neg c1, if_neg c1]
  by_cases c2 : q.1 h 3 = 2
  · rw [if_pos c2, if_pos c2]
  rw [if_neg c2, if_neg c2]
  by_cases c3 : q.1 h 3 = 3
  · rw [if_pos c3, if_neg (by rw [c3]; decide)]
  rw [if_neg c3]
  by_cases c4 : q.1 h 3 = 4
  · rw [if_pos c4, if_pos c4]
    by_cases c5 : v = 0
    · rw [if_pos c5, if_pos c5]
    · rw [if_neg c5, if_neg c5]
  · rw [if_neg c4, if_neg c4]
theorem asSort_eq (s : Int32) (v : Int64) (q : mm_Q) : x12_asSort s v q = some (mm_low s v, q) := by
  unfold x12_asSort mm_low
  simp only [mm_cmp_eq]
  by_cases c0 : s = 0
  · rw [if_pos c0, if_pos c0]
  rw [if_neg c0, if_neg c0]
  by_cases c1 : s = 1
  · rw [if_pos c1, if_pos c1]
  rw [if_neg c1, if_neg c1]
  by_cases c2 : s = 2
  · rw [if_pos c2, if_pos c2]
  rw [if_neg c2, if_neg c2]
  by_cases c4 : s = 4
  · rw [if_pos c4, if_pos c4]
    by_cases c5 : v = 0
    · rw [if_pos c5, if_pos c5]
    · rw [if_neg c5, if_neg c5]
  · rw [if_neg c4, if_neg c4]
theorem mm_low1 (v : Int64) : -32768 ≤ (mm_low 1 v).toInt ∧ (mm_low 1 v).toInt ≤ 32767 := by
  have e : mm_low 1 v = v.toInt32.toInt16.toInt32.toInt64 := rfl
  rw [e, mm_i64, Int16.toInt_toInt32]
  have := Int16.le_toInt v.toInt32.toInt16
  have := Int16.toInt_lt v.toInt32.toInt16
  omega
theorem pr_put (v0 v1 : Int32) (v2 : Int64) : mm_pr (mm_Iv LR) (x11_put v0 v1 v2) (x12_put v0 v1 v2) := by
  intro q h
  obtain ⟨h1, h2, h3, h4, h5, h6, h7, h8, h9, h10⟩ := id h
  rcases mm_shf_at v0 with ⟨e, hn⟩ | ⟨k, hk, hd, e⟩
  · refine ⟨-1, q, q, ?_, rfl, ?_, h⟩
    · unfold x11_put x11_shelfAt
      rw [mm_cl_s, e]
      rfl
    · unfold x12_put x12_refusal x12_put_j37
      rw [isShelf_eq, mm_cl_s, if_pos (by rw [mm_p0]; exact hn), mm_cl_s, if_neg (by decide), if_neg (by decide)]
  · have hs := iv_shf_all.mp h8 k hk
    have hl := mm_she_len hs
    have hin : mm_inb v0 6 = true := mm_inb_c hd hk
    by_cases c : mm_rf (q.1 (16 + 2 * k)) v1 = 0
    · obtain ⟨g1, g2, g3, g4, g5, g6, g7, g8⟩ := mm_rf0 hs c
      obtain ⟨n, hi⟩ : ∃ n : Nat, v1.toInt = n := ⟨v1.toInt.toNat, by omega⟩
      have ep := mm_place hd hk hi (by omega)
      have es : q.1 71 k - 50 = q.1 (16 + 2 * k) 3 := by
        have e1 : (50 + q.1 (16 + 2 * k) 3).toInt = 50 + (q.1 (16 + 2 * k) 3).toInt := by rw [mm_add_ti (by rw [ti50]; omega) (by rw [ti50]; omega), ti50]
        rw [g4, eq32, mm_sub_ti (by rw [ti50]; omega) (by rw [ti50]; omega), e1, ti50]
        omega
      refine ⟨1, mm_sj q (17 + 2 * k) n (mm_low (q.1 (16 + 2 * k) 3) v2), mm_sj (mm_sj q (17 + 2 * k) n (mm_low (q.1 (16 + 2 * k) 3) v2)) 73 (60 * k + n) (mm_low (q.1 (16 + 2 * k) 3) v2), ?_, rfl, ?_, ?_, h2, h3, h4, h5, h6, h7, ?_, h9, h10⟩
      · unfold x11_put x11_shelfAt x8_write
        rw [mm_cl_s, e]
        show mm_ck (mm_shb (16 + 2 * k)) _ = _
        rw [mm_ck_t (mm_shb_k hk), placeRefusal_eq hl, mm_cl_s, c, if_pos rfl, hasPlaces_eq hl, mm_cl_s, ti1, if_neg (by rw [mm_p0]; omega), low8_eq, mm_cl_s, mm_ck_t (mm_inb_c hi (by omega)), mm_tcn hi, show 16 + 2 * k + 1 = 17 + 2 * k by omega]
        rfl
      · generalize hq1 : mm_sj q (17 + 2 * k) n (mm_low (q.1 (16 + 2 * k) 3) v2) = q1
        have f1 : q1.1 = q.1 := by rw [← hq1]; rfl
        have f73 : q1.2 73 = q.2 73 := by rw [← hq1]; exact mm_uc_ne _ _ (by omega)
        unfold x12_put
        rw [refusal_eq h7.1.1.2 (q := q1) (ch := q.1 (16 + 2 * k)) (eh := q.2 (17 + 2 * k)) hd hk (by rw [f1, f73]; exact hs), mm_cl_s, c, if_pos rfl, mm_ck_t hin, mm_tcn hd, f1, es, asSort_eq, mm_cl_s, mm_ck_t (mm_inb_c ep (by omega)), mm_tcn ep]
        rfl
      · obtain ⟨a1, a2, a3, a4, a5, a6⟩ := h1
        refine ⟨a1, a2, a3, a4, a5, fun j => ?_⟩
        have e4 : (mm_sj (mm_sj q (17 + 2 * k) n (mm_low (q.1 (16 + 2 * k) 3) v2)) 73 (60 * k + n) (mm_low (q.1 (16 + 2 * k) 3) v2)).2 4 = q.2 4 := by
          rw [mm_sj_ne _ _ _ _ (show 4 ≠ 73 by decide), mm_sj_ne _ _ _ _ (show 4 ≠ 17 + 2 * k by omega)]
        exact (congrFun e4 j).trans (a6 j)
      · rw [iv_shf_all]
        intro j hj
        show mm_she _ j (q.1 (16 + 2 * j)) ((mm_sj (mm_sj q (17 + 2 * k) n (mm_low (q.1 (16 + 2 * k) 3) v2)) 73 (60 * k + n) (mm_low (q.1 (16 + 2 * k) 3) v2)).2 (17 + 2 * j)) (q.1 71) (q.1 72) ((mm_sj (mm_sj q (17 + 2 * k) n (mm_low (q.1 (16 + 2 * k) 3) v2)) 73 (60 * k + n) (mm_low (q.1 (16 + 2 * k) 3) v2)).2 73)
        rw [mm_sj_self, mm_sj_ne _ _ _ _ (show 17 + 2 * j ≠ 73 by omega), mm_sj_ne _ _ _ _ (show 73 ≠ 17 + 2 * k by omega)]
        by_cases z : j = k
        · subst z
          rw [mm_sj_self]
          refine Or.inr (Or.inr ⟨g1, g3, g4, g5, g6, fun i hi2 => ?_, fun hz i hi2 => ?_⟩)
          · unfold vp_updL
            by_cases y : i = n
            · rw [if_pos (by omega), if_pos y]
            · rw [if_neg (by omega), if_neg y]; exact g7 i hi2
          · unfold vp_updL
            by_cases y : i = n
            · rw [if_pos y, hz]; exact mm_low1 v2
            · rw [if_neg y]; exact g8 hz i hi2
        · rw [mm_sj_ne _ _ _ _ (show 17 + 2 * j ≠ 17 + 2 * k by omega)]
          refine mm_she_other (iv_shf_all.mp h8 j hj) rfl rfl (fun i hi2 => ?_)
          unfold vp_updL
          rw [if_neg (by omega)]
    · refine ⟨mm_rf (q.1 (16 + 2 * k)) v1, q, q, ?_, rfl, ?_, h⟩
      · unfold x11_put x11_shelfAt
        rw [mm_cl_s, e]
        show mm_ck (mm_shb (16 + 2 * k)) _ = _
        rw [mm_ck_t (mm_shb_k hk), placeRefusal_eq hl, mm_cl_s, if_neg c]
      · unfold x12_put x12_put_j37
        rw [refusal_eq h7.1.1.2 hd hk hs, mm_cl_s, if_neg c, if_neg c]
end IV
