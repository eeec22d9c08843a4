/-! pairs of the image -/
theorem mm_cpy0 {α : Type} (f g : Nat → α) {n j : Nat} (h : j < n) : va_cpy f g 0 0 n j = f j := by
  unfold va_cpy
  rw [if_pos ⟨Nat.zero_le _, by omega⟩]
  congr 1
  omega
theorem image_s {n : Nat} {a1 : Int32} {q : mm_Q} {k : Nat} (hk : a1.toInt = k) (h6 : k < 6) : x12_image_h15 (n + 1) a1 q = x12_image_h15 n (a1 + 1) (mm_si (mm_si (mm_si q 68 (3 * k) (q.1 65 k)) 68 (3 * k + 1) (q.1 66 k)) 68 (3 * k + 2) (q.1 67 k)) := by
  have e0 := mm_lin0 (m := 3) hk ti3 (by omega)
  have e1 := mm_lin (m := 3) (n := 1) hk ti3 ti1 (by omega)
  have e2 := mm_lin (m := 3) (n := 2) hk ti3 ti2 (by omega)
  have hi : mm_inb a1 6 = true := mm_inb_c hk h6
  rw [x12_image_h15]
  rw [if_neg (by rw [le32, ti6]; omega), mm_ck_t hi, mm_ck_t (mm_inb_c e0 (by omega)), mm_tcn hk, mm_tcn e0, mm_lt_s, mm_ck_t hi, mm_ck_t (mm_inb_c e1 (by omega)), mm_tcn e1, mm_lt_s, mm_ck_t hi, mm_ck_t (mm_inb_c e2 (by omega)), mm_tcn e2, mm_lt_s]
  rfl
theorem image_e {n : Nat} {a1 : Int32} {q : mm_Q} (h : a1.toInt = 6) : x12_image_h15 (n + 1) a1 q = some (q.1 52 32, mm_si (mm_si (mm_si q 68 18 (q.1 52 32)) 68 19 (q.1 52 33)) 68 20 (q.1 52 34)) := by
  rw [x12_image_h15]
  rw [if_pos (by rw [le32, ti6]; omega)]
  rfl
theorem back_s {n : Nat} {a1 : Int32} {q : mm_Q} {k : Nat} (hk : a1.toInt = k) (h6 : k < 6) : x12_back_h12 (n + 1) a1 q = x12_back_h12 n (a1 + 1) (mm_si (mm_si (mm_si q 65 k (if (k : Int) < (q.1 52 36).toInt then q.1 68 (3 * k) else 0)) 66 k (if (k : Int) < (q.1 52 36).toInt then q.1 68 (3 * k + 1) else 0)) 67 k (if (k : Int) < (q.1 52 36).toInt then q.1 68 (3 * k + 2) else 0)) := by
  have e0 := mm_lin0 (m := 3) hk ti3 (by omega)
  have e1 := mm_lin (m := 3) (n := 1) hk ti3 ti1 (by omega)
  have e2 := mm_lin (m := 3) (n := 2) hk ti3 ti2 (by omega)
  have hi : mm_inb a1 6 = true := mm_inb_c hk h6
  rw [x12_back_h12]
  rw [if_neg (by rw [le32, ti6]; omega)]
  by_cases c : (k : Int) < (q.1 52 36).toInt
  · rw [if_neg (by rw [le32]; omega), if_pos c, if_pos c, if_pos c]
    unfold x12_back_j31 x12_back_j53 x12_back_j77 x12_back_j101
    rw [if_neg (by decide), mm_ck_t (mm_inb_c e0 (by omega)), mm_tcn e0, mm_ck_t hi, mm_tcn hk, mm_lt_s, if_neg (by decide), mm_ck_t (mm_inb_c e1 (by omega)), mm_tcn e1, mm_ck_t hi, mm_lt_s, if_neg (by decide), mm_ck_t (mm_inb_c e2 (by omega)), mm_tcn e2, mm_ck_t hi, mm_lt_s]
    rfl
  · rw [if_pos (by rw [le32]; omega), if_neg c, if_neg c, if_neg c]
    unfold x12_back_j31 x12_back_j53 x12_back_j77 x12_back_j101
    rw [if_pos rfl, mm_ck_t hi, mm_tcn hk, mm_lt_s, if_pos rfl, mm_ck_t hi, mm_lt_s, if_pos rfl, mm_ck_t hi, mm_lt_s]
theorem back_e {n : Nat} {a1 : Int32} {q : mm_Q} (h : a1.toInt = 6) : x12_back_h12 (n + 1) a1 q = some (q.1 68 18, mm_si (mm_si (mm_si q 52 32 (q.1 68 18)) 52 33 (q.1 68 19)) 52 34 (q.1 68 20)) := by
  rw [x12_back_h12]
  rw [if_pos (by rw [le32, ti6]; omega)]
  rfl
def bk_e (q : mm_Q) : mm_Q := (mm_si (mm_si (mm_si (mm_si (mm_si (mm_si (mm_si (mm_si (mm_si (mm_si (mm_si (mm_si (mm_si (mm_si (mm_si (mm_si (mm_si (mm_si (mm_si (mm_si (mm_si q 65 0 (if 0 < (q.1 52 36).toInt then q.1 68 0 else 0)) 66 0 (if 0 < (q.1 52 36).toInt then q.1 68 1 else 0)) 67 0 (if 0 < (q.1 52 36).toInt then q.1 68 2 else 0)) 65 1 (if 1 < (q.1 52 36).toInt then q.1 68 3 else 0)) 66 1 (if 1 < (q.1 52 36).toInt then q.1 68 4 else 0)) 67 1 (if 1 < (q.1 52 36).toInt then q.1 68 5 else 0)) 65 2 (if 2 < (q.1 52 36).toInt then q.1 68 6 else 0)) 66 2 (if 2 < (q.1 52 36).toInt then q.1 68 7 else 0)) 67 2 (if 2 < (q.1 52 36).toInt then q.1 68 8 else 0)) 65 3 (if 3 < (q.1 52 36).toInt then q.1 68 9 else 0)) 66 3 (if 3 < (q.1 52 36).toInt then q.1 68 10 else 0)) 67 3 (if 3 < (q.1 52 36).toInt then q.1 68 11 else 0)) 65 4 (if 4 < (q.1 52 36).toInt then q.1 68 12 else 0)) 66 4 (if 4 < (q.1 52 36).toInt then q.1 68 13 else 0)) 67 4 (if 4 < (q.1 52 36).toInt then q.1 68 14 else 0)) 65 5 (if 5 < (q.1 52 36).toInt then q.1 68 15 else 0)) 66 5 (if 5 < (q.1 52 36).toInt then q.1 68 16 else 0)) 67 5 (if 5 < (q.1 52 36).toInt then q.1 68 17 else 0)) 52 32 (q.1 68 18)) 52 33 (q.1 68 19)) 52 34 (q.1 68 20))
set_option maxHeartbeats 4000000 in
theorem back_all (q : mm_Q) : x12_back_h12 mm_fu 0 q = some (q.1 68 18, bk_e q) := by
  show x12_back_h12 (993 + 1 + 1 + 1 + 1 + 1 + 1 + 1) 0 q = _
  rw [back_s (k := 0) (by decide) (by decide), back_s (k := 1) (by decide) (by decide), back_s (k := 2) (by decide) (by decide), back_s (k := 3) (by decide) (by decide), back_s (k := 4) (by decide) (by decide), back_s (k := 5) (by decide) (by decide), back_e (by decide)]
  rfl
theorem bk_e65 (q : mm_Q) (p : Nat) (h : p < 6) : (bk_e q).1 65 p = if (p : Int) < (q.1 52 36).toInt then q.1 68 (3 * p) else 0 := by
  rcases (show p = 0 ∨ p = 1 ∨ p = 2 ∨ p = 3 ∨ p = 4 ∨ p = 5 by omega) with rfl | rfl | rfl | rfl | rfl | rfl <;> rfl
theorem bk_e66 (q : mm_Q) (p : Nat) (h : p < 6) : (bk_e q).1 66 p = if (p : Int) < (q.1 52 36).toInt then q.1 68 (3 * p + 1) else 0 := by
  rcases (show p = 0 ∨ p = 1 ∨ p = 2 ∨ p = 3 ∨ p = 4 ∨ p = 5 by omega) with rfl | rfl | rfl | rfl | rfl | rfl <;> rfl
theorem bk_e67 (q : mm_Q) (p : Nat) (h : p < 6) : (bk_e q).1 67 p = if (p : Int) < (q.1 52 36).toInt then q.1 68 (3 * p + 2) else 0 := by
  rcases (show p = 0 ∨ p = 1 ∨ p = 2 ∨ p = 3 ∨ p = 4 ∨ p = 5 by omega) with rfl | rfl | rfl | rfl | rfl | rfl <;> rfl
theorem mm_best0 {b : Int32} (h : mm_best b 0) : b = -2 := by
  rcases h with ⟨-, h⟩ | ⟨h1, h2, h3⟩
  · exact h
  · rw [ti0] at h3; omega
theorem mm_best00 : mm_best (-2) 0 := Or.inl ⟨rfl, rfl⟩
section IV
variable {LR : mm_LR}
theorem pr_image : mm_pr (mm_Iv LR) x11_image x12_image := by
  intro q h
  obtain ⟨h1, h2, h3, h4, h5, h6, h7, h8, h9, h10⟩ := h
  obtain ⟨t1, t2, t3⟩ := h5
  have hl := h2.2.1
  have hs := h2.1
  have f47 : (mm_si (mm_si (mm_si (mm_si (mm_si (mm_si (mm_si (mm_si (mm_si (mm_si (mm_si (mm_si (mm_si (mm_si (mm_si (mm_si (mm_si (mm_si (mm_si (mm_si (mm_si (mm_si (mm_si (mm_si (mm_ci q 48 47 0 0 21) 46 2 1) 52 35 1) 52 36 (q.1 52 6)) 68 0 (q.1 65 0)) 68 1 (q.1 66 0)) 68 2 (q.1 67 0)) 68 3 (q.1 65 1)) 68 4 (q.1 66 1)) 68 5 (q.1 67 1)) 68 6 (q.1 65 2)) 68 7 (q.1 66 2)) 68 8 (q.1 67 2)) 68 9 (q.1 65 3)) 68 10 (q.1 66 3)) 68 11 (q.1 67 3)) 68 12 (q.1 65 4)) 68 13 (q.1 66 4)) 68 14 (q.1 67 4)) 68 15 (q.1 65 5)) 68 16 (q.1 66 5)) 68 17 (q.1 67 5)) 68 18 (q.1 52 32)) 68 19 (q.1 52 33)) 68 20 (q.1 52 34)).1 47 = va_cpy (q.1 48) (q.1 47) 0 0 21 := rfl
  have g : ∀ j, j < 21 → (mm_si (mm_si (mm_si (mm_si (mm_si (mm_si (mm_si (mm_si (mm_si (mm_si (mm_si (mm_si (mm_si (mm_si (mm_si (mm_si (mm_si (mm_si (mm_si (mm_si (mm_si (mm_si (mm_si (mm_si (mm_ci q 48 47 0 0 21) 46 2 1) 52 35 1) 52 36 (q.1 52 6)) 68 0 (q.1 65 0)) 68 1 (q.1 66 0)) 68 2 (q.1 67 0)) 68 3 (q.1 65 1)) 68 4 (q.1 66 1)) 68 5 (q.1 67 1)) 68 6 (q.1 65 2)) 68 7 (q.1 66 2)) 68 8 (q.1 67 2)) 68 9 (q.1 65 3)) 68 10 (q.1 66 3)) 68 11 (q.1 67 3)) 68 12 (q.1 65 4)) 68 13 (q.1 66 4)) 68 14 (q.1 67 4)) 68 15 (q.1 65 5)) 68 16 (q.1 66 5)) 68 17 (q.1 67 5)) 68 18 (q.1 52 32)) 68 19 (q.1 52 33)) 68 20 (q.1 52 34)).1 47 j = q.1 48 j := fun j hj => by rw [f47]; exact mm_cpy0 _ _ hj
  refine ⟨q.1 48 18, (mm_si (mm_ci q 48 47 0 0 21) 46 2 1), (mm_si (mm_si (mm_si (mm_si (mm_si (mm_si (mm_si (mm_si (mm_si (mm_si (mm_si (mm_si (mm_si (mm_si (mm_si (mm_si (mm_si (mm_si (mm_si (mm_si (mm_si (mm_si (mm_si (mm_si (mm_ci q 48 47 0 0 21) 46 2 1) 52 35 1) 52 36 (q.1 52 6)) 68 0 (q.1 65 0)) 68 1 (q.1 66 0)) 68 2 (q.1 67 0)) 68 3 (q.1 65 1)) 68 4 (q.1 66 1)) 68 5 (q.1 67 1)) 68 6 (q.1 65 2)) 68 7 (q.1 66 2)) 68 8 (q.1 67 2)) 68 9 (q.1 65 3)) 68 10 (q.1 66 3)) 68 11 (q.1 67 3)) 68 12 (q.1 65 4)) 68 13 (q.1 66 4)) 68 14 (q.1 67 4)) 68 15 (q.1 65 5)) 68 16 (q.1 66 5)) 68 17 (q.1 67 5)) 68 18 (q.1 52 32)) 68 19 (q.1 52 33)) 68 20 (q.1 52 34)), ?_, rfl, ?_, h1, h2, h3, h4, ⟨t1, t2, t3⟩, ⟨⟨rfl, Or.inr rfl⟩, fun _ => ⟨?_, ?_, ?_, ?_, ?_, ?_⟩⟩, h7, h8, h9, h10⟩
  · unfold x11_image x3_store
    rw [mm_ck_t (by decide)]
    rfl
  · unfold x12_image
    rw [mm_lt_s, mm_lt_s]
    show x12_image_h15 (993 + 1 + 1 + 1 + 1 + 1 + 1 + 1) 0 (mm_si (mm_si (mm_si (mm_ci q 48 47 0 0 21) 46 2 1) 52 35 1) 52 36 (q.1 52 6)) = _
    rw [image_s (k := 0) (by decide) (by decide), image_s (k := 1) (by decide) (by decide), image_s (k := 2) (by decide) (by decide), image_s (k := 3) (by decide) (by decide), image_s (k := 4) (by decide) (by decide), image_s (k := 5) (by decide) (by decide), image_e (by decide), t2.1]
    rfl
  · show 0 ≤ (q.1 52 6).toInt ∧ (q.1 52 6).toInt ≤ (q.1 8 1).toInt
    rw [hl]
    omega
  · intro p hp _
    have z := t1 p hp
    rcases (show p = 0 ∨ p = 1 ∨ p = 2 ∨ p = 3 ∨ p = 4 ∨ p = 5 by omega) with rfl | rfl | rfl | rfl | rfl | rfl
    all_goals exact ⟨(g _ (by decide)).trans z.1, (g _ (by decide)).trans z.2.1, by rw [g _ (by decide)]; exact z.2.2⟩
  · intro p hp hps
    have hps : (q.1 52 6).toInt ≤ (p : Int) := hps
    have z := t1 p hp
    have y := t3 p hp (by rw [← hl]; exact hps)
    rw [y.2.1, y.1, y.2.2] at z
    have x := mm_best0 z.2.2
    exact ⟨(g _ (by omega)).trans z.1, (g _ (by omega)).trans x, (g _ (by omega)).trans z.2.1⟩
  · exact (g _ (by decide)).trans t2.1
  · exact (g _ (by decide)).trans t2.2.1
  · exact (g _ (by decide)).trans t2.2.2
set_option maxHeartbeats 4000000 in
theorem pr_back : mm_pr (mm_Iv LR) x11_back x12_back := by
  intro q h
  obtain ⟨h1, h2, h3, h4, h5, h6, h7, h8, h9, h10⟩ := h
  obtain ⟨⟨p1, p2⟩, p3⟩ := h6
  by_cases c : q.1 46 2 = 0
  · refine ⟨-5, q, q, ?_, rfl, ?_, h1, h2, h3, h4, h5, ⟨⟨p1, p2⟩, p3⟩, h7, h8, h9, h10⟩
    · unfold x11_back x3_layBack
      rw [if_pos c]
      rfl
    · unfold x12_back
      rw [← p1, if_pos c]
  · have c1 : q.1 46 2 = 1 := p2.resolve_left c
    obtain ⟨g1, g2, g3, g4, g5, g6⟩ := p3 c1
    have g : ∀ j, j < 21 → va_cpy (q.1 47) (q.1 48) 0 0 21 j = q.1 47 j := fun j hj => mm_cpy0 _ _ hj
    have r65 : ∀ p : Nat, p < 6 → (bk_e (mm_ci q 47 48 0 0 21)).1 65 p = if (p : Int) < (q.1 52 36).toInt then q.1 68 (3 * p) else 0 := fun p hp => bk_e65 (mm_ci q 47 48 0 0 21) p hp
    have r66 : ∀ p : Nat, p < 6 → (bk_e (mm_ci q 47 48 0 0 21)).1 66 p = if (p : Int) < (q.1 52 36).toInt then q.1 68 (3 * p + 1) else 0 := fun p hp => bk_e66 (mm_ci q 47 48 0 0 21) p hp
    have r67 : ∀ p : Nat, p < 6 → (bk_e (mm_ci q 47 48 0 0 21)).1 67 p = if (p : Int) < (q.1 52 36).toInt then q.1 68 (3 * p + 2) else 0 := fun p hp => bk_e67 (mm_ci q 47 48 0 0 21) p hp
    have hd : iv_deed (q.1 8 1) (q.1 68 18) (q.1 68 19) (q.1 68 20) (va_cpy (q.1 47) (q.1 48) 0 0 21) ((bk_e (mm_ci q 47 48 0 0 21)).1 65) ((bk_e (mm_ci q 47 48 0 0 21)).1 66) ((bk_e (mm_ci q 47 48 0 0 21)).1 67) := by
      refine ⟨fun p hp => ?_, ⟨(g _ (by decide)).trans g4, (g _ (by decide)).trans g5, (g _ (by decide)).trans g6⟩, fun p hp hsp => ?_⟩
      · rw [r65 p hp, r66 p hp, r67 p hp, g _ (by omega), g _ (by omega), g _ (by omega)]
        by_cases hi : (p : Int) < (q.1 52 36).toInt
        · rw [if_pos hi, if_pos hi, if_pos hi]
          exact g2 p hp hi
        · rw [if_neg hi, if_neg hi, if_neg hi]
          obtain ⟨z1, z2, z3⟩ := g3 p hp (by omega)
          exact ⟨z1, z3, by rw [z2]; exact mm_best00⟩
      · have hi : ¬ (p : Int) < (q.1 52 36).toInt := by
          have := g1.2
          omega
        rw [r65 p hp, r66 p hp, r67 p hp, if_neg hi, if_neg hi, if_neg hi]
        exact ⟨rfl, rfl, rfl⟩
    refine ⟨q.1 47 18, (mm_ci q 47 48 0 0 21), bk_e (mm_ci q 47 48 0 0 21), ?_, rfl, ?_, h1, h2, h3, h4, hd, ⟨⟨p1, p2⟩, p3⟩, h7, h8, h9, h10⟩
    · unfold x11_back x3_layBack
      rw [if_neg c, mm_ck_t (by decide)]
      rfl
    · unfold x12_back
      have z : (mm_ci q 47 48 0 0 21).1 52 35 = 1 := p1.symm.trans c1
      rw [z, if_neg (by decide), back_all, g4]
      rfl
end IV
