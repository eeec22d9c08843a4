/-! the invariant where the run begins -/
def f0_c (k : Nat) : Nat → Int32 := f0_rd f0_z18 k (f0_rd f0_z1 k (fun _ => 0))
def f0_r : Nat → Int32 := f0_rd f0_z18 52 (fun _ => 0)
theorem f0_j (j : Nat) : mm_Jz 4 j = mm_t4.getD j 0 := rfl
section IV
variable {LR : mm_LR}
theorem f0_own {j : Nat} (h : mm_own (f0_c 8 1) j) : mm_okc j (f0_c 9 j) := by
  obtain ⟨h1, h2⟩ := h
  have e : (f0_c 8 1).toInt = 0 := by decide +kernel
  have n : ¬ j < 30 := fun z => by have := h2 z; omega
  have a : ∀ j, j < 54 → j < 30 ∨ ((mm_t2.getD (mm_wh j) 0).toInt ≤ (f0_c 9 j).toInt ∧ (f0_c 9 j).toInt ≤ (mm_t3.getD (mm_wh j) 0).toInt) := by decide +kernel
  exact (a j h1).resolve_left n
theorem mm_Iv0 (xs : Nat → Int32) (hLR : LR (f0_c 11) (f0_c 10 3) (f0_c 58) (f0_r 10) (f0_c 60) (f0_c 61)) : mm_Iv LR (mm_Iz xs, mm_Jz) := by
  have e8 : mm_Iz xs 8 = f0_c 8 := f0_Iz xs 8 (by decide) (by decide)
  have e9 : mm_Iz xs 9 = f0_c 9 := f0_Iz xs 9 (by decide) (by decide)
  have e10 : mm_Iz xs 10 = f0_c 10 := f0_Iz xs 10 (by decide) (by decide)
  have e11 : mm_Iz xs 11 = f0_c 11 := f0_Iz xs 11 (by decide) (by decide)
  have e28 : mm_Iz xs 28 = f0_c 28 := f0_Iz xs 28 (by decide) (by decide)
  have e29 : mm_Iz xs 29 = f0_c 29 := f0_Iz xs 29 (by decide) (by decide)
  have e31 : mm_Iz xs 31 = f0_c 31 := f0_Iz xs 31 (by decide) (by decide)
  have e32 : mm_Iz xs 32 = f0_c 32 := f0_Iz xs 32 (by decide) (by decide)
  have e33 : mm_Iz xs 33 = f0_c 33 := f0_Iz xs 33 (by decide) (by decide)
  have e34 : mm_Iz xs 34 = f0_c 34 := f0_Iz xs 34 (by decide) (by decide)
  have e46 : mm_Iz xs 46 = f0_c 46 := f0_Iz xs 46 (by decide) (by decide)
  have e47 : mm_Iz xs 47 = f0_c 47 := f0_Iz xs 47 (by decide) (by decide)
  have e48 : mm_Iz xs 48 = f0_c 48 := f0_Iz xs 48 (by decide) (by decide)
  have e49 : mm_Iz xs 49 = f0_c 49 := f0_Iz xs 49 (by decide) (by decide)
  have e50 : mm_Iz xs 50 = f0_c 50 := f0_Iz xs 50 (by decide) (by decide)
  have e51 : mm_Iz xs 51 = f0_c 51 := f0_Iz xs 51 (by decide) (by decide)
  have e53 : mm_Iz xs 53 = f0_c 53 := f0_Iz xs 53 (by decide) (by decide)
  have e54 : mm_Iz xs 54 = f0_c 54 := f0_Iz xs 54 (by decide) (by decide)
  have e55 : mm_Iz xs 55 = f0_c 55 := f0_Iz xs 55 (by decide) (by decide)
  have e56 : mm_Iz xs 56 = f0_c 56 := f0_Iz xs 56 (by decide) (by decide)
  have e57 : mm_Iz xs 57 = f0_c 57 := f0_Iz xs 57 (by decide) (by decide)
  have e58 : mm_Iz xs 58 = f0_c 58 := f0_Iz xs 58 (by decide) (by decide)
  have e60 : mm_Iz xs 60 = f0_c 60 := f0_Iz xs 60 (by decide) (by decide)
  have e61 : mm_Iz xs 61 = f0_c 61 := f0_Iz xs 61 (by decide) (by decide)
  have e65 : mm_Iz xs 65 = f0_c 65 := f0_Iz xs 65 (by decide) (by decide)
  have e66 : mm_Iz xs 66 = f0_c 66 := f0_Iz xs 66 (by decide) (by decide)
  have e67 : mm_Iz xs 67 = f0_c 67 := f0_Iz xs 67 (by decide) (by decide)
  have e68 : mm_Iz xs 68 = f0_c 68 := f0_Iz xs 68 (by decide) (by decide)
  have e69 : mm_Iz xs 69 = f0_c 69 := f0_Iz xs 69 (by decide) (by decide)
  have e70 : mm_Iz xs 70 = f0_c 70 := f0_Iz xs 70 (by decide) (by decide)
  have e71 : mm_Iz xs 71 = f0_c 71 := f0_Iz xs 71 (by decide) (by decide)
  have e72 : mm_Iz xs 72 = f0_c 72 := f0_Iz xs 72 (by decide) (by decide)
  have e16 : mm_Iz xs 16 = f0_c 16 := f0_Iz xs 16 (by decide) (by decide)
  have e18 : mm_Iz xs 18 = f0_c 18 := f0_Iz xs 18 (by decide) (by decide)
  have e20 : mm_Iz xs 20 = f0_c 20 := f0_Iz xs 20 (by decide) (by decide)
  have e22 : mm_Iz xs 22 = f0_c 22 := f0_Iz xs 22 (by decide) (by decide)
  have e24 : mm_Iz xs 24 = f0_c 24 := f0_Iz xs 24 (by decide) (by decide)
  have e26 : mm_Iz xs 26 = f0_c 26 := f0_Iz xs 26 (by decide) (by decide)
  have e1 : ∀ j, mm_Iz xs 1 j = mm_t1.getD j 0 := fun j => by rw [f0_Iz xs 1 (by decide) (by decide)]; rfl
  have e2 : ∀ j, mm_Iz xs 2 j = mm_t2.getD j 0 := fun j => by rw [f0_Iz xs 2 (by decide) (by decide)]; rfl
  have e3 : ∀ j, mm_Iz xs 3 j = mm_t3.getD j 0 := fun j => by rw [f0_Iz xs 3 (by decide) (by decide)]; rfl
  have e5 : ∀ j, mm_Iz xs 5 j = mm_t5.getD j 0 := fun j => by rw [f0_Iz xs 5 (by decide) (by decide)]; rfl
  have e6 : ∀ j, mm_Iz xs 6 j = mm_t6.getD j 0 := fun j => by rw [f0_Iz xs 6 (by decide) (by decide)]; rfl
  have e52 : mm_Iz xs 52 = f0_r := f0_Iz52 xs
  have sh : ∀ k, k < 6 → f0_c (16 + 2 * k) 1 = 0 ∧ f0_c 71 k = -1 ∧ f0_c (16 + 2 * k) 4 = 0 ∧ f0_c 72 k = 0 := by decide +kernel
  have h1 : iv_tab (mm_Iz xs 1) (mm_Iz xs 2) (mm_Iz xs 3) (mm_Iz xs 5) (mm_Iz xs 6) (mm_Jz 4) := ⟨e1, e2, e3, e5, e6, f0_j⟩
  unfold mm_Iv
  dsimp only
  refine ⟨h1, ?_, ?_, ?_, ?_, ?_, ?_, ?_, ?_, ?_⟩
  · show iv_lane (mm_Iz xs 8 1) (mm_Iz xs 52 6) (mm_Iz xs 9) (mm_Iz xs 53)
    rw [e8, e52, e9, e53]
    exact ⟨by decide +kernel, by decide +kernel, by decide +kernel, fun j h => f0_own h⟩
  · show iv_chg (mm_Iz xs 8 1) (mm_Iz xs 31 3) (mm_Iz xs 31 4) (mm_Iz xs 52 5) (mm_Iz xs 52 4) (mm_Iz xs 32) (mm_Iz xs 33) (mm_Iz xs 34) (mm_Iz xs 54) (mm_Iz xs 55) (mm_Iz xs 56)
    rw [e8, e31, e52, e32, e33, e34, e54, e55, e56]
    have z : (f0_c 31 4).toInt = 0 := by decide +kernel
    exact ⟨by decide +kernel, by decide +kernel, by decide +kernel, fun j h => by omega⟩
  · show iv_tape (mm_Iz xs 28 2) (mm_Iz xs 52 8) (mm_Iz xs 29) (mm_Iz xs 57)
    rw [e28, e52, e29, e57]
    exact ⟨by decide +kernel, by decide +kernel, by decide +kernel⟩
  · show iv_deed (mm_Iz xs 8 1) (mm_Iz xs 52 32) (mm_Iz xs 52 33) (mm_Iz xs 52 34) (mm_Iz xs 48) (mm_Iz xs 65) (mm_Iz xs 66) (mm_Iz xs 67)
    rw [e8, e52, e48, e65, e66, e67]
    unfold iv_deed mm_best
    exact ⟨by decide +kernel, by decide +kernel, by decide +kernel⟩
  · show iv_pic (mm_Iz xs 8 1) (mm_Iz xs 46 2) (mm_Iz xs 52 35) (mm_Iz xs 52 36) (mm_Iz xs 47) (mm_Iz xs 68)
    rw [e8, e46, e52, e47, e68]
    exact ⟨by decide +kernel, fun z => absurd z (by decide +kernel)⟩
  · show iv_act (mm_Iz xs 49 2) (mm_Iz xs 52 38) (mm_Iz xs 49 3) (mm_Iz xs 52 41) (mm_Iz xs 50) (mm_Iz xs 51) (mm_Iz xs 69) (mm_Iz xs 70)
    rw [e49, e52, e50, e51, e69, e70]
    exact ⟨by decide +kernel, by decide +kernel, by decide +kernel, by decide +kernel⟩
  · rw [iv_shf_all]
    intro k hk
    obtain ⟨a, b, c, d⟩ := sh k hk
    have ek : mm_Iz xs (16 + 2 * k) = f0_c (16 + 2 * k) := by
      rcases (show k = 0 ∨ k = 1 ∨ k = 2 ∨ k = 3 ∨ k = 4 ∨ k = 5 by omega) with rfl | rfl | rfl | rfl | rfl | rfl
      · exact e16
      · exact e18
      · exact e20
      · exact e22
      · exact e24
      · exact e26
    show mm_she _ k (mm_Iz xs (16 + 2 * k)) _ (mm_Iz xs 71) (mm_Iz xs 72) _
    rw [ek, e71, e72]
    exact Or.inl ⟨a, b, c, d⟩
  · show LR (mm_Iz xs 11) (mm_Iz xs 10 3) (mm_Iz xs 58) (mm_Iz xs 52 10) (mm_Iz xs 60) (mm_Iz xs 61)
    rw [e11, e10, e58, e52, e60, e61]
    exact hLR
  · show mm_Iz xs 52 17 = 0
    rw [e52]
    decide +kernel
end IV
