/-! a turn's orders as a whole -/
section LO2
variable {F : mm_F} {c : Nat → Int32} {sp : Int32} {xs : Nat → Int32} {len : Nat} {rr50 : Nat → Int32 → mm_Q → Option (Int32 × mm_Q)} {t : Nat} {a6 a8 a9 a10 a11 : Int32} {p s : Nat}
/-- how many numbers there are -/
theorem pow_h {a25 a26 : Int32} {m : Nat} (h6 : m < 6) {a24 : Int32} (h24 : a24.toInt = m) {q : mm_Q} {f : Nat} : ∀ (n i : Nat) (a27 a28 : Int32), a27.toInt = ((m ^ i : Nat) : Int) → a28.toInt = i → i + n = m → ∃ a30 : Int32, a30.toInt = ((m ^ m : Nat) : Int) - 1 ∧ law_h1036 len rr50 (f + n + 1) t a6 a8 a9 a10 a11 a24 a25 a26 a27 a28 q = law_h1068 len rr50 mm_fv t a6 a8 a9 a10 a11 a24 a25 a26 (-1) 0 a30 q := by
  have pw := pow_s m h6
  intro n
  induction n with
  | zero =>
    intro i a27 a28 h1 h2 h3
    have e : i = m := by omega
    rw [e] at h1
    refine ⟨a27 - 1, ?_, ?_⟩
    · rw [mm_sub_ti (by rw [ti1]; omega) (by rw [ti1]; omega), ti1, h1]
    · rw [law_h1036, if_pos (by rw [le32]; omega)]
  | succ n ih =>
    intro i a27 a28 h1 h2 h3
    have b := pw.2 (i + 1) (by omega)
    have e : m ^ i * m = m ^ (i + 1) := rfl
    have em : (a27 * a24).toInt = ((m ^ (i + 1) : Nat) : Int) := by
      have e2 : a27.toInt * a24.toInt = ((m ^ (i + 1) : Nat) : Int) := by
        rw [h1, h24, ← e]
        exact (Int.natCast_mul _ _).symm
      rw [mm_mul_ti (by rw [e2]; omega) (by rw [e2]; omega), e2]
    obtain ⟨a30, y1, y2⟩ := ih (i + 1) (a27 * a24) (a28 + 1) em (mm_inc1 h2 (by omega)) (by omega)
    refine ⟨a30, y1, ?_⟩
    rw [show f + (n + 1) + 1 = (f + n + 1) + 1 by omega, law_h1036, if_neg (by rw [le32]; omega)]
    exact y2
theorem shl_one {m : Nat} : (lb (fun _ => true) m 0).length = m := lb_true_len m 0
/-- an order of less than six stones -/
theorem stF_6 (hb : bd sp c) (hs : 0 ≤ sp.toInt ∧ sp.toInt ≤ 6) (hl : len ≤ 260) (h66 : 0 ≤ a6.toInt ∧ a6.toInt < 6) (pa : PA sp a8 a9 a10 a11 p s) {st : List Nat} {S : Nat} (S512 : S < 512) (hS : st = lb S.testBit 9 0) (h6 : st.length < 6) {a24 a25 a26 : Int32} (h24 : a24.toInt = st.length) (hrl : a25 = 0 ∨ a25 = 1) (h26 : a26.toInt = 10 * (S : Int) + a25.toInt) (hr : ∀ q', IL F c sp xs q' → ok1 (rr50 (t + 1) (a6 + 1) q')) {q : mm_Q} (hi : IL F c sp xs q) (h9 : rw9 t st q) : ok1 (law_h1036 len rr50 mm_fv t a6 a8 a9 a10 a11 a24 a25 a26 1 0 q) := by
  obtain ⟨s1, s2, s3, s4, s5, s6⟩ := PA_sk pa
  have hrt : 0 ≤ a25.toInt ∧ a25.toInt ≤ 1 := by
    rcases hrl with e | e
    · rw [e, ti0]; omega
    · rw [e, ti1]; omega
  have e25 : mm_rem a26 10 = a25 := by
    rw [eq32, rem_ti (by omega) (by decide), ti10]
    omega
  have srt := fun x hx' y hy => (lb_sorted (b := S.testBit) 9 0 x hx').2.2 y hy
  rw [← hS] at srt
  have hst9 : ∀ j, j < st.length → st.getD j 0 < 9 := fun j hj => by
    have := (lb_sorted (b := S.testBit) 9 0 j (by rw [← hS]; exact hj)).2.1
    rw [← hS] at this
    omega
  have hwo : ∀ x t, 0 ≤ (wo F c p a10 x t).toInt ∧ (wo F c p a10 x t).toInt ≤ 129 := fun x t => BP_rng hb F _ 0
  have hwd : ∀ x t, 0 ≤ (WD F c p a10 st x t).toInt ∧ (WD F c p a10 st x t).toInt ≤ 129 := fun x t => BP_rng hb F _ 0
  have pw := pow_s st.length h6
  have emap : (lb (fun _ => true) st.length 0).map (fun d => st.getD d 0) = st := by
    rw [lb_all st st.length 0 (by omega)]
    rfl
  have inj : ∀ x, x ∈ lb (fun _ => true) st.length 0 → ∀ y, y ∈ lb (fun _ => true) st.length 0 → st.getD y 0 = st.getD x 0 → y = x := by
    intro x hx y hy e
    have hx2 := (mem_lb (b := fun _ => true) (x := x) st.length 0).mp hx
    have hy2 := (mem_lb (b := fun _ => true) (x := y) st.length 0).mp hy
    rcases (show y = x ∨ y < x ∨ x < y by omega) with z | z | z
    · exact z
    · have := srt x (by omega) y z
      omega
    · have := srt y (by omega) x z
      omega
  have eMo : Mo a25 (wo F c p a10) st.length st 0 = Mo a25 (WD F c p a10 st) st.length (lb (fun _ => true) st.length 0) 0 := by
    have := Mo_map (rl := a25) (w := wo F c p a10) (fun d => st.getD d 0) st.length (lb (fun _ => true) st.length 0) 0 inj
    rw [emap] at this
    exact this
  have mr := Mo_rng (rl := a25) hwd st.length (lb (fun _ => true) st.length 0) 0 (by omega)
  have egr : gr a25 (wo F c p a10) st.length st 0 0 (Mo a25 (wo F c p a10) st.length st 0) = (gr a25 (WD F c p a10 st) st.length (lb (fun _ => true) st.length 0) 0 0 (Mo a25 (WD F c p a10 st) st.length (lb (fun _ => true) st.length 0) 0)).map (fun d => st.getD d 0) := by
    have := gr_map (rl := a25) (w := wo F c p a10) hwo (G := Mo a25 (WD F c p a10 st) st.length (lb (fun _ => true) st.length 0) 0) (fun d => st.getD d 0) st.length (lb (fun _ => true) st.length 0) 0 0 (all_sorted _ _) (lb_true_len _ _) (by omega) (by rw [ti0]; omega) (by rw [ti0]; omega) inj (tg_0l mr.1)
    rw [emap] at this
    rw [eMo]
    exact this
  -- the loops
  obtain ⟨a30, z1, z2⟩ := pow_h (t := t) (a6 := a6) (a8 := a8) (a9 := a9) (a10 := a10) (a11 := a11) (len := len) (rr50 := rr50) (a25 := a25) (a26 := a26) h6 h24 (q := q) (f := 8999 - st.length) st.length 0 1 0 (by rw [Nat.pow_zero, ti1]; rfl) ti0 (by omega)
  rw [show 8999 - st.length + st.length + 1 = mm_fv by show _ = 9000; omega] at z2
  obtain ⟨b28, b29, b30, w1, w2, w3⟩ := out_h (t := t) (a6 := a6) (len := len) (rr50 := rr50) (a26 := a26) hb hs.2 pa hi h6 hst9 h9 h24 hrl (f := 8999 - st.length ^ st.length) (st.length ^ st.length) (-1) 0 a30 z1 (Nat.le_refl _) ⟨fun x h1 h2 _ => by omega, Or.inl rfl⟩
  rw [show 8999 - st.length ^ st.length + st.length ^ st.length + 1 = mm_fv by show _ = 9000; omega] at w3
  obtain ⟨v1, x, v2, v3, v4⟩ := JO_end (rl := a25) hwd h6 w2
  -- what the class says
  obtain ⟨q1, y1, y2⟩ := cl_order (v0 := a8) (v1 := a26) (v2 := a10) (v3 := -1) (S := S) (st := st) hi.2.1 hb hs.2 ⟨s5, s6⟩ (by omega) (by omega) S512 (by omega) pa.2.2.1 (by rw [tin1]; omega) hS (by omega)
  rw [e25, s4, if_pos (by rw [tin1]; omega), if_neg (by decide), eMo, ← v1] at y1
  have hi1 := IL_fk hi y2
  obtain ⟨q2, y3, y4⟩ := cl_order (v0 := a8) (v1 := a26) (v2 := a10) (v3 := a24) (S := S) (st := st) hi1.2.1 hb hs.2 ⟨s5, s6⟩ (by omega) (by omega) S512 (by omega) pa.2.2.1 (by omega) hS (by omega)
  rw [if_neg (by omega)] at y3
  have hi2 := IL_fk hi1 y4
  have h92 : rw9 t st q2 := fun j hj => by rw [fk_row y4 (by omega), fk_row y2 (by omega)]; exact h9 j hj
  rw [z2, w3, law_h1068, if_pos w1, y1, mm_cl_s, if_pos rfl, y3, mm_cl_s, if_pos rfl]
  have hg := egr
  rw [← v4] at hg
  have fin := read_h (t := t) (F := F) (xs := xs) (rr50 := rr50) hb hs hl h66 pa S512 hS h6 h24 hrl h26 hr (D := dgs st.length st.length x) (dgs_len _ _ _) hg (f := 8999 - st.length) st.length x [] b29 (a24 - 1) q2 v2 (by rw [mm_sub_ti (by rw [ti1]; omega) (by rw [ti1]; omega), ti1, h24]) (Nat.le_refl _) (List.append_nil _).symm hi2 h92
  rw [show 8999 - st.length + st.length + 1 = mm_fv by show _ = 9000; omega] at fin
  exact fin
/-- the stones told by bits -/
theorem bits_h {S : Nat} (S512 : S < 512) {a22 : Int32} (h22 : a22 = Int32.ofNat S) {f : Nat} : ∀ (n z : Nat) (P : List Nat) (a24 a25 : Int32) (q : mm_Q), a25.toInt = z → z + n = 9 → a24.toInt = P.length → P.length ≤ z → IL F c sp xs q → (∀ j, j < P.length → q.1 (56 + (3 * t + 2)) j = Int32.ofNat (P.getD j 0)) → ∃ (q' : mm_Q) (b24 b25 : Int32), law_h939 len rr50 (f + n + 1) t a6 a8 a9 a10 a11 a22 a24 a25 q = law_h939 len rr50 (f + 1) t a6 a8 a9 a10 a11 a22 b24 b25 q' ∧ IL F c sp xs q' ∧ 9 ≤ b25 ∧ b24.toInt = (P ++ lb S.testBit n z).length ∧ ∀ j, j < (P ++ lb S.testBit n z).length → q'.1 (56 + (3 * t + 2)) j = Int32.ofNat ((P ++ lb S.testBit n z).getD j 0) := by
  intro n
  induction n with
  | zero =>
    intro z P a24 a25 q h1 h2 h3 h4 hi h9
    rw [show lb S.testBit 0 z = [] from rfl, List.append_nil]
    exact ⟨q, a24, a25, rfl, hi, by rw [le32, ti9]; omega, h3, h9⟩
  | succ n ih =>
    intro z P a24 a25 q h1 h2 h3 h4 hi h9
    have el : lb S.testBit (n + 1) z = cond (S.testBit z) (z :: lb S.testBit n (z + 1)) (lb S.testBit n (z + 1)) := rfl
    have b9 := bit9 S S512 z (by omega)
    rw [show f + (n + 1) + 1 = (f + n + 1) + 1 by omega, law_h939, if_neg (by rw [le32, ti9]; omega), el]
    unfold law_j967
    cases hb : S.testBit z with
    | true =>
      rw [cond_true, if_pos (by rw [h22, mm_ofn h1]; exact b9.mpr hb), mm_ck_t (mm_inb_c h3 (by omega)), mm_lt_s, mm_tcn h3]
      have ap : (P ++ [z]) ++ lb S.testBit n (z + 1) = P ++ (z :: lb S.testBit n (z + 1)) := by rw [List.append_assoc]; rfl
      have pl : (P ++ [z]).length = P.length + 1 := by rw [List.length_append]; rfl
      obtain ⟨q', b24, b25, y1, y2, y3, y4, y5⟩ := ih (z + 1) (P ++ [z]) (a24 + 1) (a25 + 1) (mm_si q (56 + (3 * t + 2)) P.length a25) (mm_inc1 h1 (by omega)) (by omega) (by rw [pl]; exact mm_inc1 h3 (by omega)) (by rw [pl]; omega) (IL_si hi (by omega) _ _) (fun j hj => by
        rw [mm_si_self]
        rw [pl] at hj
        by_cases e : j = P.length
        · rw [e, upd_self, y_getD (show P.length < (P ++ [z]).length by rw [pl]; omega), List.getElem_append_right (Nat.le_refl _)]
          simp [mm_ofn h1]
        · rw [upd_ne _ _ _ e, h9 j (by omega), y_getD (show j < (P ++ [z]).length by rw [pl]; omega), List.getElem_append_left (by omega), y_getD (show j < P.length by omega)])
      rw [ap] at y4 y5
      exact ⟨q', b24, b25, y1, y2, y3, y4, y5⟩
    | false =>
      rw [cond_false, if_neg (fun w => by
        rw [h22, mm_ofn h1] at w
        rw [b9.mp w] at hb
        exact absurd hb (by decide))]
      exact ih (z + 1) P a24 (a25 + 1) q (mm_inc1 h1 (by omega)) (by omega) h3 (by omega) hi h9
theorem stF (hb : bd sp c) (hs : 0 ≤ sp.toInt ∧ sp.toInt ≤ 6) (hl : len ≤ 260) (h66 : 0 ≤ a6.toInt ∧ a6.toInt < 6) (pa : PA sp a8 a9 a10 a11 p s) {S : Nat} (S512 : S < 512) {a22 : Int32} (h22 : a22 = Int32.ofNat S) (hr : ∀ q', IL F c sp xs q' → ok1 (rr50 (t + 1) (a6 + 1) q')) {q : mm_Q} (hi : IL F c sp xs q) : ok1 (law_h939 len rr50 mm_fv t a6 a8 a9 a10 a11 a22 0 0 q) := by
  obtain ⟨s1, s2, s3, s4, s5, s6⟩ := PA_sk pa
  have e22 : a22.toInt = ((S : Nat) : Int) := by rw [h22, mm_ofNat_ti (by omega)]
  have e24 : (24 + a6).toInt = 24 + a6.toInt := by rw [mm_add_ti (by rw [ti24]; omega) (by rw [ti24]; omega), ti24]
  obtain ⟨q1, b24, b25, y1, y2, y3, y4, y5⟩ := bits_h (F := F) (c := c) (sp := sp) (xs := xs) (t := t) (a6 := a6) (a8 := a8) (a9 := a9) (a10 := a10) (a11 := a11) (len := len) (rr50 := rr50) S512 h22 (f := 8990) 9 0 [] 0 0 q ti0 (by omega) ti0 (Nat.le_refl 0) hi (fun j hj => absurd hj (Nat.not_lt_zero j))
  rw [List.nil_append] at y4 y5
  have le9 := lb_le S.testBit 9 0
  obtain ⟨ru, hru⟩ : ∃ ru, (mm_ushr (CE len xs (24 + a6)) 10) &&& 1 = ru := ⟨_, rfl⟩
  have hrl : ru = 0 ∨ ru = 1 := by rw [← hru]; exact andb1 _
  have hrt : 0 ≤ ru.toInt ∧ ru.toInt ≤ 1 := by
    rcases hrl with e | e
    · rw [e, ti0]; omega
    · rw [e, ti1]; omega
  have e10 : (10 * a22).toInt = 10 * (S : Int) := by rw [mm_mul_ti (by rw [ti10]; omega) (by rw [ti10]; omega), ti10, e22]
  have e26 : (10 * a22 + ru).toInt = 10 * (S : Int) + ru.toInt := by rw [mm_add_ti (by omega) (by omega), e10]
  rw [show mm_fv = 8990 + 9 + 1 from rfl, y1, law_h939, if_pos y3, cell_eq hl (by omega) y2.1.1, mm_cl_s, hru]
  by_cases c7 : b24 ≤ 7
  · rw [if_pos c7]
    by_cases c6 : (6 : Int32) ≤ b24
    · rw [if_pos c6]
      exact stG hb hs hl h66 pa y2 hr
    · rw [if_neg c6]
      rw [le32, ti6] at c6
      exact stF_6 hb hs hl h66 pa S512 rfl (by omega) y4 hrl e26 hr y2 y5
  · rw [if_neg c7]
    rw [le32, ti7] at c7
    rw [cl_order_5 y2.2.1 ⟨s5, s6⟩ (by omega) (show (10 * a22 + ru).toInt / 10 = (S : Int) by omega) S512 (by omega) (by rw [ti0]; omega) (by rw [tin1]; omega) (by omega), mm_cl_s, if_pos rfl]
    exact stG hb hs hl h66 pa y2 hr
end LO2
