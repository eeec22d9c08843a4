/-! the law comes to 1 on every script -/
theorem mm_law_all (L : Nat) (xs : Nat → Int32) (hL : L ≤ 260) : mm_Law L xs := by
  obtain ⟨F, c, sp, q, e1, h1, hb, hs⟩ := lane_ok (xs := xs) (len := L) hL
  obtain ⟨q9, e9⟩ := turns_ok (F := F) (xs := xs) hb hs hL (f := 8993) 6 0 0 q ti0 (by omega) h1
  refine mm_law_of (q9 := q9) hL ?_
  unfold law_in
  rw [e1, mm_cl_s, if_neg (by decide), show mm_fv = 8993 + 6 + 1 from rfl]
  exact e9
