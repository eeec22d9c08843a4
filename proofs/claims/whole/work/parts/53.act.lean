/-! what the acts answer, and which bodies run: the reference -/
theorem act_shelf {j : Nat} (hj : j < 6) : (16 + 2 * j) ∉ [49, 51, 52, 70] := by
  rcases (show j = 0 ∨ j = 1 ∨ j = 2 ∨ j = 3 ∨ j = 4 ∨ j = 5 by omega) with rfl | rfl | rfl | rfl | rfl | rfl <;> decide
theorem mm_Iv_act {q q2 : mm_Q} (h : mm_Iv mm_LX q) (e : ∀ k, k ∉ [49, 51, 52, 70] → q2.1 k = q.1 k) (el : q2.2 = q.2) (r49 : q2.1 49 2 = q.1 49 2) (e52 : ∀ j, j ∉ [41, 42, 43] → q2.1 52 j = q.1 52 j) (ha : iv_act (q.1 49 2) (q.1 52 38) (q2.1 49 3) (q2.1 52 41) (q.1 50) (q2.1 51) (q.1 69) (q2.1 70)) : mm_Iv mm_LX q2 := by
  obtain ⟨h1, h2, h3, h4, h5, h6, h7, h8, h9, h10⟩ := h
  have g1 := e 1 (by decide)
  have g2 := e 2 (by decide)
  have g3 := e 3 (by decide)
  have g5 := e 5 (by decide)
  have g6 := e 6 (by decide)
  have g8 := e 8 (by decide)
  have g9 := e 9 (by decide)
  have g28 := e 28 (by decide)
  have g29 := e 29 (by decide)
  have g31 := e 31 (by decide)
  have g32 := e 32 (by decide)
  have g33 := e 33 (by decide)
  have g34 := e 34 (by decide)
  have g46 := e 46 (by decide)
  have g47 := e 47 (by decide)
  have g48 := e 48 (by decide)
  have g50 := e 50 (by decide)
  have g53 := e 53 (by decide)
  have g54 := e 54 (by decide)
  have g55 := e 55 (by decide)
  have g56 := e 56 (by decide)
  have g57 := e 57 (by decide)
  have g65 := e 65 (by decide)
  have g66 := e 66 (by decide)
  have g67 := e 67 (by decide)
  have g68 := e 68 (by decide)
  have g69 := e 69 (by decide)
  have r4 := e52 4 (by decide)
  have r5 := e52 5 (by decide)
  have r6 := e52 6 (by decide)
  have r8 := e52 8 (by decide)
  have r17 := e52 17 (by decide)
  have r32 := e52 32 (by decide)
  have r33 := e52 33 (by decide)
  have r34 := e52 34 (by decide)
  have r35 := e52 35 (by decide)
  have r36 := e52 36 (by decide)
  have r38 := e52 38 (by decide)
  have h8' : iv_shf (q.1 49 2) q2 := by
    rw [iv_shf_all]
    intro j hj
    have a := act_shelf hj
    rw [e (16 + 2 * j) a, e 71 (by decide), e 72 (by decide), el]
    exact iv_shf_all.mp h8 j hj
  have g10 := e 10 (by decide)
  have g11 := e 11 (by decide)
  have g58 := e 58 (by decide)
  have g60 := e 60 (by decide)
  have g61 := e 61 (by decide)
  have r10 := e52 10 (by decide)
  unfold mm_Iv
  rw [el, r49, g10, g11, g58, g60, g61, r10, g1, g2, g3, g5, g6, g8, g9, g28, g29, g31, g32, g33, g34, g46, g47, g48, g50, g53, g54, g55, g56, g57, g65, g66, g67, g68, g69, r4, r5, r6, r8, r17, r32, r33, r34, r35, r36, r38]
  exact ⟨h1, h2, h3, h4, h5, h6, ha, h8', h9, h10⟩
def cR (nb : Int32) (K n : Nat) (q : mm_Q) : Prop := q.1 52 42 = Int32.ofNat K ∧ q.1 52 43 = nb ∧ q.1 52 41 = Int32.ofNat n
def bgr (b : Int32) (q : mm_Q) : mm_Q := mm_si (if q.1 52 41 < 24 then mm_si q 70 (q.1 52 41).toNatClampNeg b else q) 52 41 (q.1 52 41 + 1)
def brL : List Int32 → mm_Q → mm_Q
  | [], q => q
  | b :: l, q => brL l (bgr b q)
theorem brL_app (l m : List Int32) (q : mm_Q) : brL (l ++ m) q = brL m (brL l q) := by
  induction l generalizing q with
  | nil => rfl
  | cons b l ih => exact ih (bgr b q)
theorem bgr_2 (b : Int32) (q : mm_Q) : (bgr b q).2 = q.2 := by
  unfold bgr
  by_cases h : q.1 52 41 < 24
  · rw [if_pos h]; rfl
  · rw [if_neg h]; rfl
theorem bgr_o (b : Int32) (q : mm_Q) (k : Nat) (h49 : k ≠ 52) (h51 : k ≠ 70) : (bgr b q).1 k = q.1 k := by
  unfold bgr
  by_cases h : q.1 52 41 < 24
  · rw [if_pos h, mm_si_ne _ _ _ _ h49, mm_si_ne _ _ _ _ h51]
  · rw [if_neg h, mm_si_ne _ _ _ _ h49]
theorem bgr_52 (b : Int32) (q : mm_Q) (j : Nat) (hj : j ≠ 41) : (bgr b q).1 52 j = q.1 52 j := by
  unfold bgr
  rw [mm_si_self, upd_ne _ _ _ hj]
  by_cases h : q.1 52 41 < 24
  · rw [if_pos h, mm_si_ne _ _ _ _ (by decide)]
  · rw [if_neg h]
theorem bgr_41 (b : Int32) (q : mm_Q) : (bgr b q).1 52 41 = q.1 52 41 + 1 := by
  unfold bgr
  rw [mm_si_self, upd_self]
theorem bgr_70 (b : Int32) (q : mm_Q) : (bgr b q).1 70 = if q.1 52 41 < 24 then upd (q.1 70) (q.1 52 41).toNatClampNeg b else q.1 70 := by
  unfold bgr
  rw [mm_si_ne _ _ _ _ (by decide)]
  by_cases h : q.1 52 41 < 24
  · rw [if_pos h, if_pos h, mm_si_self]
  · rw [if_neg h, if_neg h]
theorem cR_bgr {nb : Int32} {K n : Nat} {q : mm_Q} (h : cR nb K n q) (hn : n < 900) (b : Int32) : cR nb K (n + 1) (bgr b q) := by
  obtain ⟨h1, h2, h3⟩ := h
  refine ⟨by rw [bgr_52 b q 42 (by decide)]; exact h1, by rw [bgr_52 b q 43 (by decide)]; exact h2, ?_⟩
  rw [bgr_41, h3, ofn_s (by omega)]
theorem cR_brL {nb : Int32} {K : Nat} : ∀ (l : List Int32) (n : Nat) (q : mm_Q), cR nb K n q → n + l.length < 900 → cR nb K (n + l.length) (brL l q)
  | [], n, q, h, _ => h
  | b :: l, n, q, h, hn => by
    have hl : (b :: l).length = l.length + 1 := rfl
    rw [hl] at hn ⊢
    have := cR_brL l (n + 1) (bgr b q) (cR_bgr h (by omega) b) (by omega)
    rw [show n + (l.length + 1) = n + 1 + l.length by omega]
    exact this
theorem begins_eq {nb : Int32} {K n : Nat} {q : mm_Q} (h : cR nb K n q) (hn : n < 900) (b : Int32) : x12_begins b q = some ((), bgr b q) := by
  have e : (q.1 52 41).toInt = ((n : Nat) : Int) := by rw [h.2.2, mm_ofNat_ti (by omega)]
  unfold x12_begins x12_begins_j19 bgr
  by_cases c : 24 ≤ q.1 52 41
  · rw [if_pos c, if_neg (Int32.not_lt.mpr c), mm_lt_s]
  · rw [if_neg c, if_pos (Int32.not_le.mp c)]
    rw [le32, ti24] at c
    rw [mm_ck_t (mm_inb_c e (by omega)), mm_lt_s, mm_lt_s]
    rfl
section AR
variable {nb : Int32} {K n : Nat} {q : mm_Q}
theorem ref_S0 (h : cR nb K n q) (hn : n < 890) (d z : Nat) {k : Nat} (hk : k = 0 ∨ k = 2 ∨ k = 3 ∨ k = 5) (x : Int32) : g_x12_spitsAs (d + 1) z (Int32.ofNat k) x q = some (x + nb, bgr 1 q) := by
  show x12_spitsAs (g_x12_spitsAs d) (Int32.ofNat k) x q = _
  unfold x12_spitsAs
  rw [begins_eq h (by omega) 1, mm_cl_s, (cR_bgr h (by omega) 1).2.1]
  rcases hk with rfl | rfl | rfl | rfl <;> rw [if_neg (by decide), if_neg (by decide), if_neg (by decide), if_neg (by decide)]
theorem ref_S (h : cR nb K n q) (hn : n < 880) (d z : Nat) {k : Nat} (hk : k < 8) (x : Int32) : g_x12_spitsAs (d + 2) z (Int32.ofNat k) x q = some (Sv nb (tab k 0) x, brL (Sl (tab k 0)) q) := by
  rcases tabS_c hk with ⟨ht, hk2⟩ | ⟨ht, hk2⟩ | ⟨ht, hk2⟩
  · rw [ht]
    exact ref_S0 h (by omega) (d + 1) z hk2 x
  · rw [ht]
    have h1 := cR_bgr h (by omega) 20
    have e : g_x12_spitsAs (d + 1) 0 (0 : Int32) x (bgr 20 q) = some (x + nb, bgr 1 (bgr 20 q)) := ref_S0 h1 (by omega) d 0 (k := 0) (Or.inl rfl) x
    have j : x12_spitsAs_j16 (g_x12_spitsAs (d + 1)) x q = some (x + nb + 3, bgr 1 (bgr 20 q)) := by
      unfold x12_spitsAs_j16
      rw [begins_eq h (by omega) 20, mm_cl_s, e, mm_cl_s]
    show x12_spitsAs (g_x12_spitsAs (d + 1)) (Int32.ofNat k) x q = _
    unfold x12_spitsAs
    rw [j]
    rcases hk2 with rfl | rfl | rfl
    · rw [if_pos (by decide)]
      rfl
    · rw [if_neg (by decide), if_pos (by decide)]
      rfl
    · rw [if_neg (by decide), if_neg (by decide), if_pos (by decide)]
      rfl
  · subst hk2
    rw [ht]
    have h1 := cR_bgr h (by omega) 70
    have e : g_x12_spitsAs (d + 1) 0 (0 : Int32) x (bgr 70 q) = some (x + nb, bgr 1 (bgr 70 q)) := ref_S0 h1 (by omega) d 0 (k := 0) (Or.inl rfl) x
    show x12_spitsAs (g_x12_spitsAs (d + 1)) (Int32.ofNat 6) x q = _
    unfold x12_spitsAs
    rw [if_neg (by decide), if_neg (by decide), if_neg (by decide), if_pos (by decide), begins_eq h (by omega) 70, mm_cl_s, e, mm_cl_s]
    rfl
theorem ref_R0 (h : cR nb K n q) (hn : n < 890) (d z : Nat) {k : Nat} (hk : k = 0 ∨ k = 1 ∨ k = 2 ∨ k = 6) (x : Int32) : g_x12_rollsAs (d + 1) z (Int32.ofNat k) x q = some (x ^^^ nb, bgr 11 q) := by
  show x12_rollsAs (g_x12_rollsAs d) (Int32.ofNat k) x q = _
  unfold x12_rollsAs
  rw [begins_eq h (by omega) 11, mm_cl_s, (cR_bgr h (by omega) 11).2.1]
  rcases hk with rfl | rfl | rfl | rfl <;> rw [if_neg (by decide), if_neg (by decide), if_neg (by decide), if_neg (by decide)]
theorem ref_R (h : cR nb K n q) (hK : K < 8) (hn : n < 870) (d z : Nat) {k : Nat} (hk : k < 8) (x : Int32) : g_x12_rollsAs (d + 2) z (Int32.ofNat k) x q = some (Rv nb K (tab k 2) x, brL (Rl K (tab k 2)) q) := by
  rcases tabR_c hk with ⟨ht, hk2⟩ | ⟨ht, hk2⟩ | ⟨ht, hk2⟩
  · rw [ht]
    exact ref_R0 h (by omega) (d + 1) z hk2 x
  · rw [ht]
    have h1 := cR_bgr h (by omega) 40
    have e : g_x12_rollsAs (d + 1) 0 (2 : Int32) x (bgr 40 q) = some (x ^^^ nb, bgr 11 (bgr 40 q)) := ref_R0 h1 (by omega) d 0 (k := 2) (by omega) x
    have j : x12_rollsAs_j10 (g_x12_rollsAs (d + 1)) x q = some ((x ^^^ nb) * 3, bgr 11 (bgr 40 q)) := by
      unfold x12_rollsAs_j10
      rw [begins_eq h (by omega) 40, mm_cl_s, e, mm_cl_s]
    show x12_rollsAs (g_x12_rollsAs (d + 1)) (Int32.ofNat k) x q = _
    unfold x12_rollsAs
    rw [j]
    rcases hk2 with rfl | rfl
    · rw [if_pos (by decide)]
      rfl
    · rw [if_neg (by decide), if_pos (by decide)]
      rfl
  · rw [ht]
    have h1 := cR_bgr h (by omega) 50
    have h2 := cR_bgr h1 (by omega) 11
    have e : g_x12_rollsAs (d + 1) 0 (1 : Int32) x (bgr 50 q) = some (x ^^^ nb, bgr 11 (bgr 50 q)) := ref_R0 h1 (by omega) d 0 (k := 1) (by omega) x
    have j : x12_rollsAs_j36 (g_x12_rollsAs (d + 1)) x q = some ((x ^^^ nb) - Sv nb (tab K 0) 2, brL (Sl (tab K 0)) (bgr 11 (bgr 50 q))) := by
      unfold x12_rollsAs_j36
      rw [begins_eq h (by omega) 50, mm_cl_s, e, mm_cl_s, h2.1, ref_S h2 (by omega) 98 0 hK 2, mm_cl_s]
    show x12_rollsAs (g_x12_rollsAs (d + 1)) (Int32.ofNat k) x q = _
    unfold x12_rollsAs
    rw [j]
    rcases hk2 with rfl | rfl
    · rw [if_neg (by decide), if_neg (by decide), if_pos (by decide)]
      rfl
    · rw [if_neg (by decide), if_neg (by decide), if_neg (by decide), if_pos (by decide)]
      rfl
theorem ref_L0 (h : cR nb K n q) (hK : K < 8) (hn : n < 870) (d z : Nat) {k : Nat} (hk : k = 0 ∨ k = 1 ∨ k = 4 ∨ k = 6) (x : Int32) : g_x12_landsAs (d + 1) z (Int32.ofNat k) x q = some (L0v nb K x, brL (L0l K) q) := by
  have h1 := cR_bgr h (by omega) 10
  show x12_landsAs (g_x12_landsAs d) (Int32.ofNat k) x q = _
  unfold x12_landsAs
  rw [begins_eq h (by omega) 10, mm_cl_s, h1.1, ref_S h1 (by omega) 98 0 hK x, mm_cl_s]
  rcases hk with rfl | rfl | rfl | rfl
  · rw [if_neg (by decide), if_neg (by decide), if_neg (by decide), if_neg (by decide)]
    rfl
  · rw [if_neg (by decide), if_neg (by decide), if_neg (by decide), if_neg (by decide)]
    rfl
  · rw [if_neg (by decide), if_neg (by decide), if_neg (by decide), if_neg (by decide)]
    rfl
  · rw [if_neg (by decide), if_neg (by decide), if_neg (by decide), if_neg (by decide)]
    rfl
theorem ref_L2 (h : cR nb K n q) (hK : K < 8) (hn : n < 860) (d z : Nat) (x : Int32) : g_x12_landsAs (d + 2) z (2 : Int32) x q = some (-(L0v nb K x), brL ([30] ++ L0l K) q) := by
  have h1 := cR_bgr h (by omega) 30
  have e : g_x12_landsAs (d + 1) 0 (0 : Int32) x (bgr 30 q) = some (L0v nb K x, brL (L0l K) (bgr 30 q)) := ref_L0 h1 hK (by omega) d 0 (k := 0) (Or.inl rfl) x
  show x12_landsAs (g_x12_landsAs (d + 1)) 2 x q = _
  unfold x12_landsAs
  rw [if_neg (by decide), if_neg (by decide), if_pos (by decide), begins_eq h (by omega) 30, mm_cl_s, e, mm_cl_s]
  rfl
theorem ref_L (h : cR nb K n q) (hK : K < 8) (hn : n < 850) (d z : Nat) {k : Nat} (hk : k < 8) (x : Int32) : g_x12_landsAs (d + 3) z (Int32.ofNat k) x q = some (Lv nb K (tab k 1) x, brL (Ll K (tab k 1)) q) := by
  rcases tabL_c hk with ⟨ht, hk2⟩ | ⟨ht, hk2⟩ | ⟨ht, hk2⟩ | ⟨ht, hk2⟩
  · rw [ht]
    exact ref_L0 h hK (by omega) (d + 2) z hk2 x
  · subst hk2
    rw [ht]
    exact ref_L2 h hK (by omega) (d + 1) z x
  · rw [ht]
    have h1 := cR_bgr h (by omega) 41
    have e : g_x12_landsAs (d + 2) 0 (2 : Int32) (x + 1) (bgr 41 q) = some (-(L0v nb K (x + 1)), brL ([30] ++ L0l K) (bgr 41 q)) := ref_L2 h1 hK (by omega) d 0 (x + 1)
    have j : x12_landsAs_j10 (g_x12_landsAs (d + 2)) x q = some (-(L0v nb K (x + 1)), brL ([30] ++ L0l K) (bgr 41 q)) := by
      unfold x12_landsAs_j10
      rw [begins_eq h (by omega) 41, mm_cl_s, e, mm_cl_s]
    show x12_landsAs (g_x12_landsAs (d + 2)) (Int32.ofNat k) x q = _
    unfold x12_landsAs
    rw [j]
    rcases hk2 with rfl | rfl
    · rw [if_pos (by decide)]
      rfl
    · rw [if_neg (by decide), if_pos (by decide)]
      rfl
  · subst hk2
    rw [ht]
    have h1 := cR_bgr h (by omega) 80
    have e : g_x12_landsAs (d + 2) 0 (4 : Int32) x (bgr 80 q) = some (L0v nb K x, brL (L0l K) (bgr 80 q)) := ref_L0 h1 hK (by omega) (d + 1) 0 (k := 4) (by omega) x
    have l0 := L0l_len K
    have h2 := cR_brL (L0l K) _ _ h1 (by omega)
    show x12_landsAs (g_x12_landsAs (d + 2)) (Int32.ofNat 7) x q = _
    unfold x12_landsAs
    rw [if_neg (by decide), if_neg (by decide), if_neg (by decide), if_pos (by decide), begins_eq h (by omega) 80, mm_cl_s, e, mm_cl_s, h2.1, ref_R h2 hK (by omega) 98 0 hK 2, mm_cl_s, ← brL_app]
    rfl
theorem ref_T0 (h : cR nb K n q) (hK : K < 8) (hn : n < 830) (d z : Nat) {k : Nat} (hk : k < 8) (h5 : k ≠ 5) (h7 : k ≠ 7) (x : Int32) : g_x12_tellsAs (d + 1) z (Int32.ofNat k) x q = some (T0v nb K x, brL (T0l K) q) := by
  have h1 := cR_bgr h (by omega) 2
  have l0 := Ll_len K (tab K 1)
  have h2 := cR_brL (Ll K (tab K 1)) _ _ h1 (by omega)
  have ek : (Int32.ofNat k).toInt = ((k : Nat) : Int) := mm_ofNat_ti (by omega)
  show x12_tellsAs (g_x12_tellsAs d) (Int32.ofNat k) x q = _
  unfold x12_tellsAs
  rw [if_neg (by rw [eq32, ek, ti5]; omega), if_neg (by rw [eq32, ek, ti7]; omega), begins_eq h (by omega) 2, mm_cl_s, h1.1, ref_L h1 hK (by omega) 97 0 hK x, mm_cl_s, h2.1, ref_R h2 hK (by omega) 98 0 hK 1, mm_cl_s, ← brL_app]
  rfl
theorem ref_T (h : cR nb K n q) (hK : K < 8) (hn : n < 820) (d z : Nat) {k : Nat} (hk : k < 8) (x : Int32) : g_x12_tellsAs (d + 2) z (Int32.ofNat k) x q = some (Tv nb K (tab k 3) x, brL (Tl K (tab k 3)) q) := by
  rcases tabT_c hk with ⟨ht, h5, h7⟩ | ⟨ht, hk2⟩ | ⟨ht, hk2⟩
  · rw [ht]
    exact ref_T0 h hK (by omega) (d + 1) z hk h5 h7 x
  · subst hk2
    rw [ht]
    have h1 := cR_bgr h (by omega) 60
    have e : g_x12_tellsAs (d + 1) 0 (3 : Int32) x (bgr 60 q) = some (T0v nb K x, brL (T0l K) (bgr 60 q)) := ref_T0 h1 hK (by omega) d 0 (k := 3) (by decide) (by decide) (by decide) x
    show x12_tellsAs (g_x12_tellsAs (d + 1)) (Int32.ofNat 5) x q = _
    unfold x12_tellsAs
    rw [if_pos (by decide), begins_eq h (by omega) 60, mm_cl_s, e, mm_cl_s]
    rfl
  · subst hk2
    rw [ht]
    have h1 := cR_bgr h (by omega) 81
    have e : g_x12_tellsAs (d + 1) 0 (4 : Int32) x (bgr 81 q) = some (T0v nb K x, brL (T0l K) (bgr 81 q)) := ref_T0 h1 hK (by omega) d 0 (k := 4) (by decide) (by decide) (by decide) x
    show x12_tellsAs (g_x12_tellsAs (d + 1)) (Int32.ofNat 7) x q = _
    unfold x12_tellsAs
    rw [if_neg (by decide), if_pos (by decide), begins_eq h (by omega) 81, mm_cl_s, e, mm_cl_s]
    rfl
end AR
/-- traces that go on alike -/
theorem bg_rel : ∀ (l : List Int32) (n : Nat) (q q' : mm_Q), n + l.length < 900 → q.1 49 3 = Int32.ofNat n → q'.1 52 41 = Int32.ofNat n → (∀ j, j < 24 → q'.1 70 j = q.1 51 j) → (bgL l q).1 49 3 = Int32.ofNat (n + l.length) ∧ (brL l q').1 52 41 = Int32.ofNat (n + l.length) ∧ ∀ j, j < 24 → (brL l q').1 70 j = (bgL l q).1 51 j
  | [], n, q, q', _, h1, h2, h3 => ⟨h1, h2, h3⟩
  | b :: l, n, q, q', hn, h1, h2, h3 => by
    have hl : (b :: l).length = l.length + 1 := rfl
    rw [hl] at hn ⊢
    have e : (Int32.ofNat n).toInt = ((n : Nat) : Int) := mm_ofNat_ti (by omega)
    have := bg_rel l (n + 1) (bgn b q) (bgr b q') (by omega) (by rw [bgn_3, h1, ofn_s (by omega)]) (by rw [bgr_41, h2, ofn_s (by omega)]) (fun j hj => by
      rw [bgr_70, bgn_51, h1, h2]
      by_cases c : Int32.ofNat n < 24
      · rw [if_pos c, if_pos c]
        by_cases z : j = (Int32.ofNat n).toNatClampNeg
        · rw [z, upd_self, upd_self]
        · rw [upd_ne _ _ _ z, upd_ne _ _ _ z]
          exact h3 j hj
      · rw [if_neg c, if_neg c]
        exact h3 j hj)
    rw [show n + (l.length + 1) = n + 1 + l.length by omega]
    exact this
theorem bgL_o : ∀ (l : List Int32) (q : mm_Q), (bgL l q).2 = q.2 ∧ (∀ k, k ≠ 49 → k ≠ 51 → (bgL l q).1 k = q.1 k) ∧ ∀ j, j ≠ 3 → (bgL l q).1 49 j = q.1 49 j
  | [], q => ⟨rfl, fun _ _ _ => rfl, fun _ _ => rfl⟩
  | b :: l, q => by
    obtain ⟨a, b', c⟩ := bgL_o l (bgn b q)
    exact ⟨a.trans (bgn_2 b q), fun k h1 h2 => (b' k h1 h2).trans (bgn_o b q k h1 h2), fun j hj => (c j hj).trans (bgn_49 b q j hj)⟩
theorem brL_o : ∀ (l : List Int32) (q : mm_Q), (brL l q).2 = q.2 ∧ (∀ k, k ≠ 52 → k ≠ 70 → (brL l q).1 k = q.1 k) ∧ ∀ j, j ≠ 41 → (brL l q).1 52 j = q.1 52 j
  | [], q => ⟨rfl, fun _ _ _ => rfl, fun _ _ => rfl⟩
  | b :: l, q => by
    obtain ⟨a, b', c⟩ := brL_o l (bgr b q)
    exact ⟨a.trans (bgr_2 b q), fun k h1 h2 => (b' k h1 h2).trans (bgr_o b q k h1 h2), fun j hj => (c j hj).trans (bgr_52 b q j hj)⟩
theorem y_isBody12 {q : mm_Q} (h0 : 0 ≤ (q.1 52 38).toInt) (a : Int32) : x12_isBody a q = some (mm_p (0 ≤ a.toInt ∧ a.toInt < (q.1 52 38).toInt), q) := by
  unfold x12_isBody
  have e : (q.1 52 38 - 1).toInt = (q.1 52 38).toInt - 1 := by
    have := mm_rng (q.1 52 38)
    rw [mm_sub_ti (by rw [ti1]; omega) (by rw [ti1]; omega), ti1]
  rw [within_eq, mm_cl_s, mm_ck_t mm_pb, mm_i64, mm_i64, e, tl0]
  congr 2
  apply mm_p_congr
  omega
theorem y_isBody0 (a : Int32) (q : mm_Q) : x0_isBody a q = some (mm_p (0 ≤ a.toInt ∧ a.toInt < (q.1 49 2).toInt), q) := by
  unfold x0_isBody mm_p
  simp only [lt32, le32, ti0]
  repeat' split
  all_goals first | rfl | (exfalso; omega)
theorem pr_act (v0 v1 v2 : Int32) : mm_pr (mm_Iv mm_LX) (x11_act v0 v1 v2) (x12_act v0 v1 v2) := by
  intro q h
  obtain ⟨h1, h2, h3, h4, h5, h6, h7, h8, h9, h10⟩ := id h
  obtain ⟨⟨hb1, hb2⟩, ⟨hr1, hr2⟩, hk, htr⟩ := h7
  -- the list of bodies that run, the answer, then both ends
  have fin : ∀ (v : Int32) (l : List Int32) (qa qb : mm_Q), l.length ≤ 20 → (∀ k, k ≠ 49 → k ≠ 51 → qa.1 k = q.1 k) → qa.2 = q.2 → qa.1 49 2 = q.1 49 2 → qa.1 49 3 = 0 → qa.1 51 = q.1 51 → x11_act v0 v1 v2 q = some (v, bgL l qa) → qb.2 = (bgL l qa).2 → (∀ k, k ≠ 52 → k ≠ 70 → qb.1 k = (bgL l qa).1 k) → qb.1 70 = q.1 70 → (∀ j, j ∉ [41, 42, 43] → qb.1 52 j = q.1 52 j) → qb.1 52 41 = 0 → x12_act v0 v1 v2 (bgL l qa) = some (v, brL l qb) → ∃ r q1 q2, x11_act v0 v1 v2 q = some (r, q1) ∧ q1.1 0 = q.1 0 ∧ x12_act v0 v1 v2 q1 = some (r, q2) ∧ mm_Iv mm_LX q2 := by
    intro v l qa qb hl a1 a2 a3 a4 a5 a6 b1 b2 b3 b4 b5 b6
    obtain ⟨c1, c2, c3⟩ := bgL_o l qa
    obtain ⟨d1, d2, d3⟩ := brL_o l qb
    obtain ⟨e1, e2, e3⟩ := bg_rel l 0 qa qb (by omega) (by rw [a4]; rfl) (by rw [b5]; rfl) (fun j hj => by rw [b3, a5]; exact htr j hj)
    have el : (Int32.ofNat (0 + l.length)).toInt = ((0 + l.length : Nat) : Int) := mm_ofNat_ti (by omega)
    refine ⟨v, bgL l qa, brL l qb, a6, by rw [c2 0 (by decide) (by decide), a1 0 (by decide) (by decide)], b6, mm_Iv_act h (fun k hk => ?_) ?_ ?_ (fun j hj => ?_) ?_⟩
    · have n49 : k ≠ 49 := fun z => hk (by rw [z]; decide)
      have n51 : k ≠ 51 := fun z => hk (by rw [z]; decide)
      have n52 : k ≠ 52 := fun z => hk (by rw [z]; decide)
      have n70 : k ≠ 70 := fun z => hk (by rw [z]; decide)
      rw [d2 k n52 n70, b2 k n52 n70, c2 k n49 n51, a1 k n49 n51]
    · rw [d1, b1, c1, a2]
    · rw [d2 49 (by decide) (by decide), b2 49 (by decide) (by decide), c3 2 (by decide), a3]
    · rw [d3 j (fun z => hj (by rw [z]; decide)), b4 j hj]
    · refine ⟨⟨hb1, hb2⟩, ⟨?_, ?_⟩, hk, fun j hj => ?_⟩
      · rw [d2 49 (by decide) (by decide), b2 49 (by decide) (by decide), e1, el]
        omega
      · rw [d2 49 (by decide) (by decide), b2 49 (by decide) (by decide), e1, e2]
      · rw [d2 51 (by decide) (by decide), b2 51 (by decide) (by decide)]
        exact e3 j hj
  by_cases g : 0 ≤ v0.toInt ∧ v0.toInt < (q.1 49 2).toInt
  · have hp := nat_of g.1
    have hkk := hk v0.toInt.toNat (by omega)
    obtain ⟨K, hK⟩ : ∃ K : Nat, (q.1 50 v0.toInt.toNat).toInt = K := ⟨(q.1 50 v0.toInt.toNat).toInt.toNat, by omega⟩
    have hK8 : K < 8 := by omega
    obtain ⟨qa, hqa⟩ : ∃ qa, qa = mm_si (mm_si q 49 3 0) 49 4 v0 := ⟨_, rfl⟩
    have hA : cA v0 K 0 qa := by
      rw [hqa]
      refine ⟨⟨h1.2.2.2.1, h1.2.2.2.2.1⟩, rfl, ⟨g.1, g.2, by omega⟩, ?_, rfl⟩
      show q.1 50 v0.toNatClampNeg = Int32.ofNat K
      rw [mm_tcn hp]
      exact mm_ofn hK
    have hX : x11_act v0 v1 v2 q = if v1 < 0 then some (0, mm_si q 49 3 0) else if v1 < 4 then g_x0_own 100 0 v1 v2 0 0 qa else some (0, mm_si q 49 3 0) := by
      unfold x11_act x0_perform
      rw [mm_lt_s, y_isBody0, mm_cl_s, if_neg (by rw [mm_p0]; exact fun w => w g)]
      rw [← hqa]
      by_cases c1 : v1 < 0
      · rw [if_pos c1, if_pos c1]
        rfl
      · rw [if_neg c1, if_neg c1]
        by_cases c2 : v1 < 4
        · rw [if_pos c2, if_pos c2, mm_lt_s, mm_cl_ret, mm_cl_ret]
        · rw [if_neg c2, if_neg c2]
          rfl
    have hM : ∀ q1 : mm_Q, q1.1 52 38 = q.1 49 2 → q1.1 69 = q.1 69 → ∀ qb, qb = mm_si (mm_si (mm_si q1 52 41 0) 52 42 (Int32.ofNat K)) 52 43 v0 → x12_act v0 v1 v2 q1 = if v1 = 0 then g_x12_spitsAs 100 0 (Int32.ofNat K) v2 qb else if v1 = 1 then g_x12_landsAs 100 0 (Int32.ofNat K) v2 qb else if v1 = 2 then g_x12_rollsAs 100 0 (Int32.ofNat K) v2 qb else if v1 = 3 then g_x12_tellsAs 100 0 (Int32.ofNat K) v2 qb else some (0, qb) := by
      intro q1 e1 e2 qb hqb
      have z : (mm_si q1 52 41 0).1 52 38 = q.1 49 2 := e1
      have z69 : (mm_si q1 52 41 0).1 69 v0.toNatClampNeg = Int32.ofNat K := by
        show q1.1 69 v0.toNatClampNeg = _
        rw [e2, mm_tcn hp, hkk.1]
        exact mm_ofn hK
      unfold x12_act
      rw [mm_lt_s, y_isBody12 (by rw [z]; exact hb1.1), mm_cl_s, z, if_neg (by rw [mm_p0]; exact fun w => w g), mm_ck_t (mm_inb_c hp (by omega)), z69, mm_lt_s, mm_lt_s, ← hqb]
      have w42 : qb.1 52 42 = Int32.ofNat K := by rw [hqb]; rfl
      rw [w42, mm_cl_ret, mm_cl_ret, mm_cl_ret, mm_cl_ret]
    have qb_ok : ∀ q1 : mm_Q, cR v0 K 0 (mm_si (mm_si (mm_si q1 52 41 0) 52 42 (Int32.ofNat K)) 52 43 v0) := fun q1 => ⟨rfl, rfl, rfl⟩
    by_cases c1 : 0 ≤ v1.toInt ∧ v1.toInt < 4
    · have go : ∀ (v : Int32) (l : List Int32), l.length ≤ 20 → g_x0_own 100 0 v1 v2 0 0 qa = some (v, bgL l qa) → (∀ q1 : mm_Q, (if v1 = 0 then g_x12_spitsAs 100 0 (Int32.ofNat K) v2 (mm_si (mm_si (mm_si q1 52 41 0) 52 42 (Int32.ofNat K)) 52 43 v0) else if v1 = 1 then g_x12_landsAs 100 0 (Int32.ofNat K) v2 (mm_si (mm_si (mm_si q1 52 41 0) 52 42 (Int32.ofNat K)) 52 43 v0) else if v1 = 2 then g_x12_rollsAs 100 0 (Int32.ofNat K) v2 (mm_si (mm_si (mm_si q1 52 41 0) 52 42 (Int32.ofNat K)) 52 43 v0) else if v1 = 3 then g_x12_tellsAs 100 0 (Int32.ofNat K) v2 (mm_si (mm_si (mm_si q1 52 41 0) 52 42 (Int32.ofNat K)) 52 43 v0) else some (0, mm_si (mm_si (mm_si q1 52 41 0) 52 42 (Int32.ofNat K)) 52 43 v0)) = some (v, brL l (mm_si (mm_si (mm_si q1 52 41 0) 52 42 (Int32.ofNat K)) 52 43 v0))) → ∃ r q1 q2, x11_act v0 v1 v2 q = some (r, q1) ∧ q1.1 0 = q.1 0 ∧ x12_act v0 v1 v2 q1 = some (r, q2) ∧ mm_Iv mm_LX q2 := by
        intro v l hl e1 e2
        obtain ⟨o1, o2, o3⟩ := bgL_o l qa
        have q38 : (bgL l qa).1 52 38 = q.1 49 2 := by rw [o2 52 (by decide) (by decide), hqa]; exact hb2
        have q69 : (bgL l qa).1 69 = q.1 69 := by rw [o2 69 (by decide) (by decide), hqa]; rfl
        refine fin v l qa (mm_si (mm_si (mm_si (bgL l qa) 52 41 0) 52 42 (Int32.ofNat K)) 52 43 v0) hl (fun k n1 n2 => ?_) (by rw [hqa]; rfl) (by rw [hqa]; rfl) (by rw [hqa]; rfl) (by rw [hqa]; rfl) ?_ rfl (fun k n1 n2 => ?_) ?_ (fun j hj => ?_) rfl ?_
        · rw [hqa, mm_si_ne _ _ _ _ n1, mm_si_ne _ _ _ _ n1]
        · rw [hX, if_neg (by rw [lt32, ti0]; omega), if_pos (by rw [lt32, ti4]; omega), e1]
        · rw [mm_si_ne _ _ _ _ n1, mm_si_ne _ _ _ _ n1, mm_si_ne _ _ _ _ n1]
        · show (bgL l qa).1 70 = q.1 70
          rw [o2 70 (by decide) (by decide), hqa]
          rfl
        · rw [mm_si_self, upd_ne _ _ _ (fun z => hj (by rw [z]; decide)), mm_si_self, upd_ne _ _ _ (fun z => hj (by rw [z]; decide)), mm_si_self, upd_ne _ _ _ (fun z => hj (by rw [z]; decide)), o2 52 (by decide) (by decide), hqa]
          rfl
        · rw [hM (bgL l qa) q38 q69 _ rfl]
          exact e2 _
      rcases (show v1.toInt = 0 ∨ v1.toInt = 1 ∨ v1.toInt = 2 ∨ v1.toInt = 3 by omega) with e | e | e | e
      · have e0 : v1 = 0 := by rw [eq32, e, ti0]
        subst e0
        refine go (Sv v0 (tab K 0) v2) (Sl (tab K 0)) (by have := Sl_len (tab K 0); omega) ((own_eq hA 99 0 v2 0 0).trans (cls_S hA (by omega) 94 hK8 v2 (m := 0) ti0 (by omega))) (fun q1 => ?_)
        rw [if_pos rfl]
        exact ref_S (qb_ok q1) (by omega) 98 0 hK8 v2
      · have e0 : v1 = 1 := by rw [eq32, e, ti1]
        subst e0
        refine go (Lv v0 K (tab K 1) v2) (Ll K (tab K 1)) (by have := Ll_len K (tab K 1); omega) ((own_eq hA 99 1 v2 0 0).trans (cls_L hA hK8 (by omega) 85 hK8 v2 (m := 0) ti0 (by omega))) (fun q1 => ?_)
        rw [if_neg (by decide), if_pos rfl]
        exact ref_L (qb_ok q1) hK8 (by omega) 97 0 hK8 v2
      · have e0 : v1 = 2 := by rw [eq32, e, ti2]
        subst e0
        refine go (Rv v0 K (tab K 2) v2) (Rl K (tab K 2)) (by have := Rl_len K (tab K 2); omega) ((own_eq hA 99 2 v2 0 0).trans (cls_R hA hK8 (by omega) 91 hK8 v2 (m := 0) ti0 (by omega))) (fun q1 => ?_)
        rw [if_neg (by decide), if_neg (by decide), if_pos rfl]
        exact ref_R (qb_ok q1) hK8 (by omega) 98 0 hK8 v2
      · have e0 : v1 = 3 := by rw [eq32, e, ti3]
        subst e0
        have tl : (Tl K (tab K 3)).length ≤ 20 := by
          have := T0l_len K
          unfold Tl
          by_cases c : tab K 3 = 60
          · rw [if_pos c, List.length_append]
            show 1 + _ ≤ 20
            omega
          · rw [if_neg c]
            by_cases c2 : tab K 3 = 81
            · rw [if_pos c2, List.length_append]
              show 1 + _ ≤ 20
              omega
            · rw [if_neg c2]
              omega
        refine go (Tv v0 K (tab K 3) v2) (Tl K (tab K 3)) tl ((own_eq hA 99 3 v2 0 0).trans (cls_T hA hK8 (by omega) 79 hK8 v2 (m := 0) ti0 (by omega))) (fun q1 => ?_)
        rw [if_neg (by decide), if_neg (by decide), if_neg (by decide), if_pos rfl]
        exact ref_T (qb_ok q1) hK8 (by omega) 98 0 hK8 v2
    · have hX' : x11_act v0 v1 v2 q = some (0, mm_si q 49 3 0) := by
        rw [hX]
        by_cases c2 : v1 < 0
        · rw [if_pos c2]
        · rw [if_neg c2, if_neg (by
            rw [lt32, ti0] at c2
            rw [lt32, ti4]
            omega)]
      refine fin 0 [] (mm_si q 49 3 0) (mm_si (mm_si (mm_si (mm_si q 49 3 0) 52 41 0) 52 42 (Int32.ofNat K)) 52 43 v0) (by decide) (fun k n1 n2 => mm_si_ne _ _ _ _ n1) rfl rfl rfl rfl hX' rfl (fun k n1 n2 => ?_) rfl (fun j hj => ?_) rfl ?_
      · rw [mm_si_ne _ _ _ _ n1, mm_si_ne _ _ _ _ n1, mm_si_ne _ _ _ _ n1]
        rfl
      · rw [mm_si_self, upd_ne _ _ _ (fun z => hj (by rw [z]; decide)), mm_si_self, upd_ne _ _ _ (fun z => hj (by rw [z]; decide)), mm_si_self, upd_ne _ _ _ (fun z => hj (by rw [z]; decide))]
        rfl
      · show x12_act v0 v1 v2 (mm_si q 49 3 0) = some (0, _)
        rw [hM (mm_si q 49 3 0) hb2 rfl _ rfl]
        rw [if_neg (by rw [eq32, ti0]; omega), if_neg (by rw [eq32, ti1]; omega), if_neg (by rw [eq32, ti2]; omega), if_neg (by rw [eq32, ti3]; omega)]
        rfl
  · refine fin 0 [] (mm_si q 49 3 0) (mm_si (mm_si q 49 3 0) 52 41 0) (by decide) (fun k n1 n2 => mm_si_ne _ _ _ _ n1) rfl rfl rfl rfl ?_ rfl (fun k n1 n2 => mm_si_ne _ _ _ _ n1) rfl (fun j hj => ?_) rfl ?_
    · unfold x11_act x0_perform
      rw [mm_lt_s, y_isBody0, mm_cl_s, if_pos (by rw [mm_p0]; exact g)]
      rfl
    · rw [mm_si_self, upd_ne _ _ _ (fun z => hj (by rw [z]; decide))]
      rfl
    · show x12_act v0 v1 v2 (mm_si q 49 3 0) = some (0, mm_si (mm_si q 49 3 0) 52 41 0)
      have z : (mm_si (mm_si q 49 3 0) 52 41 0).1 52 38 = q.1 49 2 := hb2
      unfold x12_act
      rw [mm_lt_s, y_isBody12 (by rw [z]; exact hb1.1), mm_cl_s, z, if_pos (by rw [mm_p0]; exact g)]
