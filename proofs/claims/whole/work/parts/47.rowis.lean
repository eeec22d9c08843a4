/-! a row of a sort on a shelf, for both -/
theorem row_ref {q : mm_Q} (h : mm_Iv mm_LX q) {sort : Int32} {z : Nat} (hz : sort.toInt = z) (hz4 : z ≤ 4) (d : Int32) : (x11_shelfAt d q = some (none, q) ∧ ∀ q1, fk q q1 → x12_rowIs d sort q1 = some (-1, q1)) ∨ ∃ k : Nat, k < 6 ∧ d.toInt = k ∧ x11_shelfAt d q = some (some (16 + 2 * k), q) ∧ ((∃ R : Int32, (R = -11 ∨ R = -12) ∧ x8_rowRefusal (16 + 2 * k) sort q = some (R, q) ∧ ∀ q1, fk q q1 → x12_rowIs d sort q1 = some (R, q1)) ∨ (x8_rowRefusal (16 + 2 * k) sort q = some (0, q) ∧ (∀ q1, fk q q1 → x12_rowIs d sort q1 = some (1, q1)) ∧ (0 ≤ (q.1 (16 + 2 * k) 4).toInt ∧ (q.1 (16 + 2 * k) 4).toInt ≤ 60) ∧ q.1 72 k = q.1 (16 + 2 * k) 4 ∧ (∀ i : Nat, (i : Int) < (q.1 (16 + 2 * k) 4).toInt → q.2 73 (60 * k + i) = q.2 (17 + 2 * k) i) ∧ (z = 1 → ∀ i : Nat, (i : Int) < (q.1 (16 + 2 * k) 4).toInt → -32768 ≤ (q.2 (17 + 2 * k) i).toInt ∧ (q.2 (17 + 2 * k) i).toInt ≤ 32767))) := by
  obtain ⟨h1, h2, h3, h4, h5, h6, h7, h8, h9, h10⟩ := id h
  have hbd : (q.1 49 2).toInt ≤ 50 := h7.1.1.2
  rcases mm_shf_at d with ⟨e, hn⟩ | ⟨k, hk, hd, e⟩
  · refine Or.inl ⟨?_, fun q1 f1 => ?_⟩
    · unfold x11_shelfAt
      rw [e]
    · unfold x12_rowIs
      rw [isShelf_eq, mm_cl_s, if_pos (by rw [mm_p0]; exact hn)]
  refine Or.inr ⟨k, hk, hd, by unfold x11_shelfAt; rw [e], ?_⟩
  have hin : mm_inb d 6 = true := mm_inb_c hd hk
  have hs := iv_shf_all.mp h8 k hk
  have hM : ∀ q1, fk q q1 → x12_rowIs d sort q1 = if 0 ≤ q.1 71 k then (if q.1 71 k = 50 + sort then some (1, q1) else some (-12, q1)) else some (-11, q1) := by
    intro q1 f1
    unfold x12_rowIs
    rw [isShelf_eq, mm_cl_s, if_neg (by rw [mm_p0]; omega), mm_ck_t hin, mm_ck_t hin, mm_tcn hd, f1.1 71 (by decide)]
  have e5 : (50 + sort).toInt = 50 + (z : Int) := by rw [mm_add_ti (by rw [ti50]; omega) (by rw [ti50]; omega), ti50, hz]
  rcases hs with ⟨g1, g2, g4, -⟩ | ⟨g1, g2, g3, -⟩ | ⟨g1, g3, g4, g5, g6, g7, g8⟩
  · refine Or.inl ⟨-11, Or.inl rfl, ?_, fun q1 f1 => ?_⟩
    · unfold x8_rowRefusal
      rw [if_pos g1]
    · rw [hM q1 f1, g2, if_neg (by decide)]
  · refine Or.inl ⟨-12, Or.inr rfl, ?_, fun q1 f1 => ?_⟩
    · unfold x8_rowRefusal
      rw [g1, if_neg (by decide), if_neg (by decide)]
    · rw [hM q1 f1, g2, if_pos (by rw [le32, ti0]; omega), if_neg (by rw [eq32, e5]; omega)]
  · have e6 : (50 + q.1 (16 + 2 * k) 3).toInt = 50 + (q.1 (16 + 2 * k) 3).toInt := by rw [mm_add_ti (by rw [ti50]; omega) (by rw [ti50]; omega), ti50]
    by_cases c : q.1 (16 + 2 * k) 3 = sort
    · refine Or.inr ⟨?_, fun q1 f1 => ?_, g5, g6, g7, fun z1 => g8 ?_⟩
      · unfold x8_rowRefusal
        rw [g1, if_neg (by decide), if_pos rfl, if_pos c]
      · rw [hM q1 f1, g4, if_pos (by rw [le32, ti0]; omega), if_pos (by rw [c])]
      · rw [c, eq32, hz, z1, ti1]
        rfl
    · refine Or.inl ⟨-12, Or.inr rfl, ?_, fun q1 f1 => ?_⟩
      · unfold x8_rowRefusal
        rw [g1, if_neg (by decide), if_pos rfl, if_neg c]
      · rw [hM q1 f1, g4, if_pos (by rw [le32, ti0]; omega), if_neg (by
          rw [eq32, e5, e6]
          rw [eq32, hz] at c
          omega)]
