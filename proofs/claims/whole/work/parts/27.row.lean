/-! a row put onto a shelf -/
theorem rw_a {f h : Nat} {L : Nat} (hL : L ≤ 60) : ∀ (m j : Nat) (a : Int32) (q : mm_Q), j + m = L → a.toInt = j → (q.1 h 4).toInt = L → ∃ q' : mm_Q, x8_holdRow_h26 (f + m + 1) h a q = some ((), q') ∧ q'.1 = q.1 ∧ (∀ b, b ≠ h + 1 → q'.2 b = q.2 b) ∧ (∀ i, i < j → q'.2 (h + 1) i = q.2 (h + 1) i) ∧ ∀ i, j ≤ i → i < L → q'.2 (h + 1) i = 0 := by
  intro m
  induction m with
  | zero =>
    intro j a q e1 e2 e3
    refine ⟨q, ?_, rfl, fun _ _ => rfl, fun _ _ => rfl, fun i _ _ => by omega⟩
    rw [x8_holdRow_h26, if_pos (by rw [le32]; omega)]
  | succ m ih =>
    intro j a q e1 e2 e3
    have e4 : (a + 1).toInt = ((j + 1 : Nat) : Int) := by rw [mm_add_ti (by rw [ti1]; omega) (by rw [ti1]; omega), ti1, e2]; omega
    obtain ⟨q', w1, w2, w3, w4, w5⟩ := ih (j + 1) (a + 1) (mm_sj q (h + 1) j 0) (by omega) e4 e3
    refine ⟨q', ?_, w2, fun b hb => ?_, fun i hi => ?_, fun i hi hi2 => ?_⟩
    · rw [show f + (m + 1) + 1 = (f + m + 1) + 1 from rfl, x8_holdRow_h26, if_neg (by rw [le32]; omega), mm_ck_t (mm_inb_c e2 (by omega)), mm_tcn e2, mm_lt_s]
      exact w1
    · rw [w3 b hb, mm_sj_ne _ _ _ _ hb]
    · rw [w4 i (by omega), mm_sj_self]
      unfold vp_updL
      rw [if_neg (by omega)]
    · by_cases z : i = j
      · rw [w4 i (by omega), mm_sj_self]
        unfold vp_updL
        rw [if_pos z]
      · exact w5 i (by omega) hi2
theorem rw_b {f : Nat} {d : Int32} {k : Nat} (hd : d.toInt = k) (hk : k < 6) : ∀ (m j : Nat) (a : Int32) (q : mm_Q), j + m = 60 → a.toInt = ((60 * k + j : Nat) : Int) → ∃ q' : mm_Q, x12_row_h57 (f + m + 1) d a q = some (1, q') ∧ q'.1 = q.1 ∧ (∀ b, b ≠ 73 → q'.2 b = q.2 b) ∧ (∀ i, ¬ (60 * k + j ≤ i ∧ i < 60 * k + 60) → q'.2 73 i = q.2 73 i) ∧ ∀ i, 60 * k + j ≤ i → i < 60 * k + 60 → q'.2 73 i = 0 := by
  have es : (60 * d + 60 : Int32).toInt = ((60 * k + 60 : Nat) : Int) := mm_lin (m := 60) hd ti60 (by rw [ti60]; rfl) (by omega)
  intro m
  induction m with
  | zero =>
    intro j a q e1 e2
    refine ⟨q, ?_, rfl, fun _ _ => rfl, fun _ _ => rfl, fun i _ _ => by omega⟩
    rw [x12_row_h57, if_pos (by rw [le32]; omega)]
  | succ m ih =>
    intro j a q e1 e2
    have e4 : (a + 1).toInt = ((60 * k + (j + 1) : Nat) : Int) := by rw [mm_add_ti (by rw [ti1]; omega) (by rw [ti1]; omega), ti1, e2]; omega
    obtain ⟨q', w1, w2, w3, w4, w5⟩ := ih (j + 1) (a + 1) (mm_sj q 73 (60 * k + j) 0) (by omega) e4
    refine ⟨q', ?_, w2, fun b hb => ?_, fun i hi => ?_, fun i hi hi2 => ?_⟩
    · rw [show f + (m + 1) + 1 = (f + m + 1) + 1 from rfl, x12_row_h57, if_neg (by rw [le32]; omega), mm_ck_t (mm_inb_c e2 (by omega)), mm_tcn e2, mm_lt_s]
      exact w1
    · rw [w3 b hb, mm_sj_ne _ _ _ _ hb]
    · rw [w4 i (by omega), mm_sj_self]
      unfold vp_updL
      rw [if_neg (by omega)]
    · by_cases z : i = 60 * k + j
      · rw [w4 i (by omega), mm_sj_self]
        unfold vp_updL
        rw [if_pos z]
      · exact w5 i (by omega) hi2
section IV
variable {LR : mm_LR}
theorem pr_row (v0 v1 v2 : Int32) : mm_pr (mm_Iv LR) (x11_row v0 v1 v2) (x12_row v0 v1 v2) := by
  intro q h
  rcases mm_shf_at v0 with ⟨e, hn⟩ | ⟨k, hk, hd, e⟩
  · refine ⟨-1, q, q, ?_, rfl, ?_, h⟩
    · unfold x11_row x11_shelfAt
      rw [mm_cl_s, e]
      rfl
    · unfold x12_row
      rw [isShelf_eq, mm_cl_s, if_pos (by rw [mm_p0]; exact hn)]
  · have hin : mm_inb v0 6 = true := mm_inb_c hd hk
    have hx : x11_row v0 v1 v2 q = if v1 < 0 then some (-1, q) else if 4 < v1 then some (-1, q) else if v2 ≤ 60 then (if 0 ≤ v2 then mm_cl (x8_holdRow (16 + 2 * k) v1 v2 q) (fun _ q10 => some (1, q10)) else some (-14, q)) else some (-1, q) := by
      unfold x11_row x11_shelfAt
      rw [mm_cl_s, e]
      show mm_ck (mm_shb (16 + 2 * k)) _ = _
      rw [mm_ck_t (mm_shb_k hk)]
    have hy : ∀ q1 : mm_Q, x12_row v0 v1 v2 q1 = if 0 ≤ v1.toInt ∧ v1.toInt ≤ 4 then (if v2 ≤ 60 then (if 0 ≤ v2 then x12_row_h57 mm_fu v0 (60 * v0) (mm_si (mm_si q1 71 k (50 + v1)) 72 k v2) else some (-14, q1)) else some (-1, q1)) else some (-1, q1) := by
      intro q1
      unfold x12_row
      rw [isShelf_eq, mm_cl_s, if_neg (by rw [mm_p0]; omega), within_eq, mm_cl_s, mm_i64, tl0, tl4]
      by_cases c : 0 ≤ v1.toInt ∧ v1.toInt ≤ 4
      · rw [if_neg (by rw [mm_p0]; omega), if_pos c, mm_ck_t hin, mm_tcn hd, mm_lt_s, mm_ck_t hin, mm_lt_s]
      · rw [if_pos (by rw [mm_p0]; exact c), if_neg c]
    by_cases c : 0 ≤ v1.toInt ∧ v1.toInt ≤ 4
    · rw [if_neg (by rw [lt32, ti0]; omega), if_neg (by rw [lt32, ti4]; omega)] at hx
      by_cases c2 : v2 ≤ 60
      · by_cases c3 : 0 ≤ v2
        · have c2' : v2.toInt ≤ 60 := by rw [le32, ti60] at c2; exact c2
          have c3' : 0 ≤ v2.toInt := by rw [le32, ti0] at c3; exact c3
          obtain ⟨L, hL⟩ : ∃ L : Nat, v2.toInt = L := ⟨v2.toInt.toNat, by omega⟩
          have em : mm_max 0 (mm_mn v2 60) = v2 := by
            unfold mm_max mm_mn
            rw [if_neg (show ¬ (60 : Int32) < v2 by rw [lt32, ti60]; omega)]
            by_cases z : (0 : Int32) < v2
            · rw [if_pos z]
            · rw [if_neg z, eq32, ti0]
              rw [lt32, ti0] at z
              omega
          obtain ⟨p0, hp0⟩ : ∃ p0 : mm_Q, p0 = mm_si (mm_si (mm_si q (16 + 2 * k) 1 2) (16 + 2 * k) 3 v1) (16 + 2 * k) 4 v2 := ⟨_, rfl⟩
          have gs : p0.1 (16 + 2 * k) = upd (upd (upd (q.1 (16 + 2 * k)) 1 2) 3 v1) 4 v2 := by
            rw [hp0, mm_si_self, mm_si_self, mm_si_self]
          have gn : ∀ a, a ≠ 16 + 2 * k → p0.1 a = q.1 a := by
            intro a u
            rw [hp0, mm_si_ne _ _ _ _ u, mm_si_ne _ _ _ _ u, mm_si_ne _ _ _ _ u]
          have g2 : p0.2 = q.2 := by rw [hp0]; rfl
          have gl : p0.1 (16 + 2 * k) 4 = v2 := by rw [gs]; rfl
          obtain ⟨q1, w1, w2, w3, -, w5⟩ := rw_a (f := 999 - L) (h := 16 + 2 * k) (L := L) (by omega) L 0 0 p0 (by omega) ti0 (by rw [gl]; exact hL)
          obtain ⟨q2, z1, z2, z3, z4, z5⟩ := rw_b (f := 939) hd hk 60 0 (60 * v0) (mm_si (mm_si q1 71 k (50 + v1)) 72 k v2) (by omega) (mm_lin0 (m := 60) hd ti60 (by omega))
          rw [show 16 + 2 * k + 1 = 17 + 2 * k by omega] at w5
          have y71 : q2.1 71 = upd (q.1 71) k (50 + v1) := by
            rw [z2, mm_si_ne _ _ _ _ (show 71 ≠ 72 by decide), mm_si_self, w2, gn 71 (by omega)]
          have y72 : q2.1 72 = upd (q.1 72) k v2 := by
            rw [z2, mm_si_self, mm_si_ne _ _ _ _ (show 72 ≠ 71 by decide), w2, gn 72 (by omega)]
          have yn : ∀ a, a ≠ 71 → a ≠ 72 → q2.1 a = p0.1 a := by
            intro a u1 u2
            rw [z2, mm_si_ne _ _ _ _ u2, mm_si_ne _ _ _ _ u1, w2]
          have yk : q2.2 (17 + 2 * k) = q1.2 (17 + 2 * k) := z3 _ (by omega)
          refine ⟨1, q1, q2, ?_, ?_, ?_, mm_Iv_shelf h hk (fun a u1 u2 u3 => (yn a u2 u3).trans (gn a u1)) (fun a u1 u2 _ => ?_) (fun j u => ?_) (fun j u => ?_) (fun j u i hi => ?_) ?_⟩
          · rw [hx, if_pos c2, if_pos c3]
            unfold x8_holdRow
            rw [mm_lt_s, mm_lt_s, mm_lt_s, em, ← hp0]
            have fu : mm_fu = 999 - L + L + 1 := by show 1000 = _; omega
            rw [fu, w1, mm_cl_s]
          · rw [w2, gn 0 (by omega)]
          · rw [hy, if_pos c, if_pos c2, if_pos c3]
            exact z1
          · rw [z3 a u2]
            show q1.2 a = _
            rw [w3 a (by omega), g2]
          · rw [y71]; unfold upd; rw [if_neg u]
          · rw [y72]; unfold upd; rw [if_neg u]
          · rw [z4 _ (by omega)]
            show q1.2 73 _ = _
            rw [w3 73 (by omega), g2]
          · rw [y71, y72, yk, yn _ (by omega) (by omega), gs]
            refine Or.inr (Or.inr ⟨rfl, c, ?_, ⟨c3', c2'⟩, ?_, fun i hi => ?_, fun _ i hi => ?_⟩)
            · exact if_pos rfl
            · exact if_pos rfl
            · have hi' : i < L := by
                have : (i : Int) < v2.toInt := hi
                omega
              rw [z5 _ (by omega) (by omega)]
              exact (w5 i (by omega) hi').symm
            · have hi' : i < L := by
                have : (i : Int) < v2.toInt := hi
                omega
              have : q1.2 (17 + 2 * k) i = 0 := w5 i (by omega) hi'
              rw [this]
              decide
        · exact ⟨-14, q, q, by rw [hx, if_pos c2, if_neg c3], rfl, by rw [hy, if_pos c, if_pos c2, if_neg c3], h⟩
      · exact ⟨-1, q, q, by rw [hx, if_neg c2], rfl, by rw [hy, if_pos c, if_neg c2], h⟩
    · refine ⟨-1, q, q, ?_, rfl, by rw [hy, if_neg c], h⟩
      rw [hx]
      by_cases c1 : v1 < 0
      · rw [if_pos c1]
      · rw [lt32, ti0] at c1
        rw [if_neg (by rw [lt32, ti0]; exact c1), if_pos (by rw [lt32, ti4]; omega)]
end IV
