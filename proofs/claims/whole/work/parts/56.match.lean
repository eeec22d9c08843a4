/-! matches: how much, who wins -/
theorem nr11_eq (a : Int32) (q : mm_Q) : x11_isStonesAndRule a q = some (mm_p (10 ≤ a.toInt ∧ a.toInt / 10 ≤ 9 ∧ a.toInt % 10 ≤ 1), q) := by
  unfold x11_isStonesAndRule mm_p
  by_cases h : a < 10
  · rw [if_pos h]
    rw [lt32, ti10] at h
    rw [if_neg (by omega)]
  · rw [if_neg h]
    rw [lt32, ti10] at h
    have e1 : (a / 10).toInt = a.toInt / 10 := by rw [div_ti (by omega) (by decide), ti10]
    have e2 : (mm_rem a 10).toInt = a.toInt % 10 := by rw [rem_ti (by omega) (by decide), ti10]
    simp only [lt32, e1, e2, ti9, ti1]
    repeat' split
    all_goals first | rfl | (exfalso; omega)
theorem nr12_eq (a : Int32) (q : mm_Q) : x12_isNr a q = some (mm_p (10 ≤ a.toInt ∧ a.toInt / 10 ≤ 9 ∧ a.toInt % 10 ≤ 1), q) := by
  unfold x12_isNr
  by_cases h : a < 0
  · rw [if_pos h]
    rw [lt32, ti0] at h
    unfold mm_p
    rw [if_neg (by omega)]
  · rw [if_neg h, within_eq, mm_cl_s]
    rw [lt32, ti0] at h
    have e1 : (a / 10).toInt = a.toInt / 10 := by rw [div_ti (by omega) (by decide), ti10]
    have e2 : (mm_rem a 10).toInt = a.toInt % 10 := by rw [rem_ti (by omega) (by decide), ti10]
    simp only [mm_p0, mm_i64, lt32, e1, e2, tl1, tl9, ti1]
    unfold mm_p
    repeat' split
    all_goals first | rfl | (exfalso; omega)
/-- a match gathered by both -/
def gat (F : mm_F) (c : Nat → Int32) (sp : Int32) (n : Nat) (rl : Int32) (N : Nat) (W : Nat → Int32) : Prop := n ≤ 9 ∧ N ≤ 6 ∧ (rl = 0 ∨ rl = 1) ∧ (∀ j, j < N → 0 ≤ (W j).toInt ∧ (W j).toInt < sp.toInt) ∧ ∀ i, i < N → ∀ j, j < i → W j ≠ W i
abbrev SN (F : mm_F) (c : Nat → Int32) (n : Nat) (rl lg : Int32) (W : Nat → Int32) (j : Nat) : Int32 := SC F c n rl lg (W j).toInt.toNat
theorem match_ref {q : mm_Q} (h : mm_Iv mm_LX q) {F : mm_F} (hw : cw F (q.1 9) (q.1 8 1) q) (hb : bd (q.1 8 1) (q.1 9)) (hs0 : 0 ≤ (q.1 8 1).toInt) (hs6 : (q.1 8 1).toInt ≤ 6) (hx : ∀ q1, fk q q1 → rx F (q.1 9) (q.1 8 1) 0 q1) (d nr : Int32) (hnr : 10 ≤ nr.toInt ∧ nr.toInt / 10 ≤ 9 ∧ nr.toInt % 10 ≤ 1) : (∃ R : Int32, (R = -1 ∨ R = -11 ∨ R = -12) ∧ x11_matchRefusal d nr q = some (R, q) ∧ ∀ q1, fk q q1 → x12_rowIs d 0 q1 = some (R, q1)) ∨ ∃ (n N : Nat) (W : Nat → Int32) (q1 : mm_Q), (nr / 10).toInt = n ∧ gat F (q.1 9) (q.1 8 1) n (mm_rem nr 10) N W ∧ x11_matchRefusal d nr q = some (0, q1) ∧ fr [12, 13, 14, 39, 40, 41] q q1 ∧ cm n (mm_rem nr 10) q1 ∧ cg N W (SN F (q.1 9) n (mm_rem nr 10) 0 W) q1 ∧ ∀ q2, fk q q2 → x12_rowIs d 0 q2 = some (1, q2) ∧ ∃ q3, x12_takesRow d q2 = some ((), q3) ∧ fz q2 q3 ∧ rx F (q.1 9) (q.1 8 1) 0 q3 ∧ rg N W q3 := by
  have e1 : (nr / 10).toInt = (((nr.toInt / 10).toNat : Nat) : Int) := by rw [div_ti (by omega) (by decide), ti10]; omega
  have e2 : (mm_rem nr 10).toInt = nr.toInt % 10 := by rw [rem_ti (by omega) (by decide), ti10]
  have hrl : mm_rem nr 10 = 0 ∨ mm_rem nr 10 = 1 := by
    rcases (show nr.toInt % 10 = 0 ∨ nr.toInt % 10 = 1 by omega) with w | w
    · exact Or.inl (by rw [eq32, e2, w, ti0])
    · exact Or.inr (by rw [eq32, e2, w, ti1])
  rcases row_ref h (sort := 0) (z := 0) (by decide) (by decide) d with ⟨y1, y2⟩ | ⟨k, hk, hd, y1, hh⟩
  · refine Or.inl ⟨-1, Or.inl rfl, ?_, y2⟩
    unfold x11_matchRefusal
    rw [y1, mm_cl_s]
    rfl
  · rcases hh with ⟨R, hR, y2, y3⟩ | ⟨y2, y3, h4, h5, h6, -⟩
    · refine Or.inl ⟨R, Or.inr hR, ?_, y3⟩
      unfold x11_matchRefusal
      rw [y1, mm_cl_s]
      show mm_ck (mm_shb (16 + 2 * k)) _ = _
      rw [mm_ck_t (mm_shb_k hk), nr11_eq, mm_cl_s, if_neg (by rw [mm_p0]; exact fun w => w hnr), y2, mm_cl_s, if_neg]
      rcases hR with rfl | rfl <;> decide
    · obtain ⟨len, hlen⟩ : ∃ len : Nat, (q.1 (16 + 2 * k) 4).toInt = len := ⟨(q.1 (16 + 2 * k) 4).toInt.toNat, by omega⟩
      obtain ⟨qg, hqg⟩ : ∃ qg, qg = mm_si (mm_si (mm_si q 39 6 0) 39 7 (nr / 10)) 39 8 (mm_rem nr 10) := ⟨_, rfl⟩
      have fg : fr [12, 13, 14, 39, 40, 41] q qg := by
        rw [hqg]
        exact fr_trans (fr_trans (fr_si _ _ _ (by decide)) (fr_si _ _ _ (by decide))) (fr_si _ _ _ (by decide))
      have cmg : cm (nr.toInt / 10).toNat (mm_rem nr 10) qg := by
        rw [hqg]
        exact ⟨e1, rfl⟩
      have cgg : cg 0 (fun j => (q.2 (17 + 2 * k) j).toInt32) (SW F (q.1 9) (nr.toInt / 10).toNat (mm_rem nr 10) 0 (q.2 (17 + 2 * k))) qg := by
        refine ⟨?_, fun j hj => absurd hj (Nat.not_lt_zero j)⟩
        rw [hqg]
        exact ti0
      have n16 : (16 + 2 * k) ∉ [12, 13, 14, 39, 40, 41] := by
        rcases (show k = 0 ∨ k = 1 ∨ k = 2 ∨ k = 3 ∨ k = 4 ∨ k = 5 by omega) with rfl | rfl | rfl | rfl | rfl | rfl <;> decide
      obtain ⟨q1, z1, z2, z3, z4⟩ := gather_h (F := F) (M := q.2 (17 + 2 * k)) (len := len) hb hs6 (show (nr.toInt / 10).toNat ≤ 9 by omega) hk (by omega) (f := 993) 6 0 0 qg ti0 (by omega) (cw_fr hw fg (by decide) (by decide) (by decide) (by decide)) cmg (by rw [fg.2 _ n16]; exact hlen) (fun j _ => by rw [fg.1]) (fun j hj => absurd hj (Nat.not_lt_zero j)) cgg
      have ok := tn_ok (q.2 (17 + 2 * k)) len (q.1 8 1) 6 0 (fun j hj => absurd hj (Nat.not_lt_zero j))
      have le := tn_le (q.2 (17 + 2 * k)) len (q.1 8 1) 6 0
      refine Or.inr ⟨(nr.toInt / 10).toNat, tn (q.2 (17 + 2 * k)) len (q.1 8 1) 6 0, fun j => (q.2 (17 + 2 * k) j).toInt32, q1, e1, ⟨by omega, by omega, hrl, fun j hj => ?_, fun i hi j hj => (ok i hi).2.2 j hj⟩, ?_, fr_trans fg z2, z3, ⟨z4.1, fun j hj => ⟨(z4.2 j hj).1, ?_⟩⟩, fun q2 f2 => ⟨y3 q2 f2, ?_⟩⟩
      · rw [okm_t (ok j hj) hs6]
        exact ⟨(ok j hj).1, (ok j hj).2.1⟩
      · unfold x11_matchRefusal x2_gather
        rw [y1, mm_cl_s]
        show mm_ck (mm_shb (16 + 2 * k)) _ = _
        rw [mm_ck_t (mm_shb_k hk), nr11_eq, mm_cl_s, if_neg (by rw [mm_p0]; exact fun w => w hnr), y2, mm_cl_s, if_pos rfl, mm_lt_s, mm_lt_s, mm_lt_s, ← hqg]
        rw [show x2_gather_h18 mm_fu (16 + 2 * k) 0 qg = some ((), q1) from z1, mm_cl_s]
      · rw [(z4.2 j hj).2]
        show SC F (q.1 9) (nr.toInt / 10).toNat (mm_rem nr 10) 0 (q.2 (17 + 2 * k) j).toInt.toNat = SC F (q.1 9) (nr.toInt / 10).toNat (mm_rem nr 10) 0 ((q.2 (17 + 2 * k) j).toInt32).toInt.toNat
        rw [okm_t (ok j hj) hs6]
      · have hx2 := hx q2 f2
        obtain ⟨q3, w1, w2, w3, w4⟩ := takes_h (F := F) (c := q.1 9) (M := q.2 (17 + 2 * k)) (len := len) hs0 hs6 hd hk (by omega) (f := 992) 6 0 0 (mm_si q2 52 26 0) (by omega) (show rx F (q.1 9) (q.1 8 1) 0 (mm_si q2 52 26 0) from hx2) (by rw [mm_si_ne _ _ _ _ (by decide), f2.1 72 (by decide), h5, hlen]) (fun j hj => by
          show q2.2 73 (60 * k + j) = _
          rw [f2.2 73 (by decide)]
          exact h6 j (by omega)) (fun j hj => absurd hj (Nat.not_lt_zero j)) (by decide) (fun r hr => by
          constructor
          · intro w
            rw [Nat.zero_testBit] at w
            exact absurd w (by decide)
          · rintro ⟨j, hj, -⟩
            exact absurd hj (Nat.not_lt_zero j)) ⟨by rw [mm_si_self, upd_self]; exact ti0, fun j hj => absurd hj (Nat.not_lt_zero j)⟩
        have f0 : fz q2 (mm_si q2 52 26 0) := ⟨fun a ha => mm_si_ne _ _ _ _ (fun z => ha (by rw [z]; decide)), rfl, fun j hj => by
          rw [mm_si_self]
          exact upd_ne _ _ _ (fun z => hj (by rw [z]; decide))⟩
        refine ⟨q3, ?_, fz_trans f0 w2, w3, w4⟩
        unfold x12_takesRow
        rw [mm_lt_s]
        exact w1
theorem row_any {q : mm_Q} (h : mm_Iv mm_LX q) (d : Int32) : ∃ R, x12_rowIs d 0 q = some (R, q) := by
  rcases row_ref h (sort := 0) (z := 0) (by decide) (by decide) d with ⟨y1, y2⟩ | ⟨k, hk, hd, y1, hh⟩
  · exact ⟨_, y2 q (fk_rfl q)⟩
  · rcases hh with ⟨R, hR, y2, y3⟩ | ⟨y2, y3, -⟩
    · exact ⟨_, y3 q (fk_rfl q)⟩
    · exact ⟨_, y3 q (fk_rfl q)⟩
theorem match_bad {q : mm_Q} (h : mm_Iv mm_LX q) (d nr : Int32) (hnr : ¬ (10 ≤ nr.toInt ∧ nr.toInt / 10 ≤ 9 ∧ nr.toInt % 10 ≤ 1)) : x11_matchRefusal d nr q = some (-1, q) := by
  unfold x11_matchRefusal
  rcases row_ref h (sort := 0) (z := 0) (by decide) (by decide) d with ⟨y1, y2⟩ | ⟨k, hk, hd, y1, hh⟩
  · rw [y1, mm_cl_s]
    rfl
  · rw [y1, mm_cl_s]
    show mm_ck (mm_shb (16 + 2 * k)) _ = _
    rw [mm_ck_t (mm_shb_k hk), nr11_eq, mm_cl_s, if_pos (by rw [mm_p0]; exact hnr)]
theorem scoreAt_in {N : Nat} {W S : Nat → Int32} {q : mm_Q} (h : cg N W S q) (h6 : N ≤ 6) {a : Int32} {j : Nat} (ha : a.toInt = j) (hj : j < N) : x2_scoreAt a q = some (S j, q) := by
  have := h.1
  unfold x2_scoreAt
  rw [if_neg (by rw [lt32, ti0]; omega), if_neg (by rw [le32]; omega), if_neg (by rw [le32, ti6]; omega), mm_ck_t (mm_inb_c ha (by omega)), mm_tcn ha, (h.2 j hj).2]
theorem spitterAt_in {N : Nat} {W S : Nat → Int32} {q : mm_Q} (h : cg N W S q) (h6 : N ≤ 6) {a : Int32} {j : Nat} (ha : a.toInt = j) (hj : j < N) : x2_spitterAt a q = some (W j, q) := by
  have := h.1
  unfold x2_spitterAt
  rw [if_neg (by rw [lt32, ti0]; omega), if_neg (by rw [le32]; omega), if_neg (by rw [le32, ti6]; omega), mm_ck_t (mm_inb_c ha (by omega)), mm_tcn ha, (h.2 j hj).1]
theorem pr_match (v0 v1 v2 : Int32) : mm_pr (mm_Iv mm_LX) (x11_match v0 v1 v2) (x12_match v0 v1 v2) := by
  intro q h
  obtain ⟨F, hw, hb, ⟨hs0, hs6⟩, e6, hx, hd⟩ := mm_think h
  by_cases g : 0 ≤ v2.toInt ∧ (10 ≤ v1.toInt ∧ v1.toInt / 10 ≤ 9 ∧ v1.toInt % 10 ≤ 1)
  · obtain ⟨g1, g2⟩ := g
    have hX : x11_match v0 v1 v2 q = mm_cl (x11_matchRefusal v0 v1 q) (fun r2 q3 => x11_match_j14 v2 r2 q3) := by
      unfold x11_match
      rw [if_pos (by rw [le32, ti0]; exact g1)]
    rcases match_ref h hw hb hs0 hs6 hx v0 v1 g2 with ⟨R, hR, y1, y2⟩ | ⟨n, N, W, q1, hn, hg, y1, y2, y3, y4, y5⟩
    · refine ⟨R, q, q, ?_, rfl, ?_, h⟩
      · rw [hX, y1, mm_cl_s]
        unfold x11_match_j14
        rw [if_neg (by rcases hR with rfl | rfl | rfl <;> decide)]
      · unfold x12_match
        rw [y2 q (fk_rfl q), mm_cl_s, nr12_eq, mm_cl_s, if_neg (show ¬ mm_p _ = 0 by rw [mm_p0]; exact fun w => w g2), if_pos (show 0 ≤ v2 by rw [le32, ti0]; exact g1), y2 q (fk_rfl q), mm_cl_s, y2 q (fk_rfl q), mm_cl_s]
        rcases hR with rfl | rfl | rfl
        · rw [if_pos rfl]
        · rw [if_neg (by decide), if_neg (by decide)]
        · rw [if_neg (by decide), if_neg (by decide)]
    · have k1 : fk q q1 := fk_fr y2 (by decide)
      obtain ⟨u1, q2, u2, u3, u4, u5⟩ := y5 q1 k1
      have hM : x12_match v0 v1 v2 q1 = if q2.1 52 26 ≤ v2 then some (-2, q2) else mm_ck (mm_inb v2 6) (mm_cl (x12_scoreOf (q2.1 64 v2.toNatClampNeg) v1 q2) (fun r15 q16 => some (r15, q16))) := by
        unfold x12_match
        rw [u1, mm_cl_s, if_neg (by decide), nr12_eq, mm_cl_s, if_neg (show ¬ mm_p _ = 0 by rw [mm_p0]; exact fun w => w g2), if_pos (show 0 ≤ v2 by rw [le32, ti0]; exact g1), u1, mm_cl_s, if_pos (by decide), u2, mm_cl_s]
      have hN6 : N ≤ 6 := hg.2.1
      by_cases c : v2.toInt < N
      · have hp := nat_of g1
        have wj := hg.2.2.2.1 v2.toInt.toNat (by omega)
        obtain ⟨q3, z1, z2, z3⟩ := score12_eq (rl := mm_rem v1 10) hb (nat_of wj.1) (by omega) hg.1 hn rfl hg.2.2.1 u4
        refine ⟨SN F (q.1 9) n (mm_rem v1 10) 0 W v2.toInt.toNat, q1, q3, ?_, by rw [k1.1 0 (by decide)], ?_, hd q1 q3 k1 (fz_trans u3 (fz_fq z2)) z3⟩
        · rw [hX, y1, mm_cl_s]
          unfold x11_match_j14
          rw [if_pos rfl, scoreAt_in y4 hN6 hp (by omega), mm_cl_s]
        · rw [hM, if_neg (by rw [le32, u5.1]; omega), mm_ck_t (mm_inb_c hp (by omega)), mm_tcn hp, u5.2 _ (by omega), z1, mm_cl_s]
      · refine ⟨-2, q1, q2, ?_, by rw [k1.1 0 (by decide)], ?_, hd q1 q2 k1 u3 u4⟩
        · rw [hX, y1, mm_cl_s]
          unfold x11_match_j14 x2_scoreAt
          rw [if_pos rfl, if_neg (by rw [lt32, ti0]; omega), if_pos (by rw [le32, y4.1]; omega), mm_cl_s]
        · rw [hM, if_pos (by rw [le32, u5.1]; omega)]
  · refine ⟨-1, q, q, ?_, rfl, ?_, h⟩
    · unfold x11_match x11_match_j14
      by_cases c : 0 ≤ v2
      · rw [if_pos c]
        rw [le32, ti0] at c
        rw [match_bad h v0 v1 (fun w => g ⟨c, w⟩), mm_cl_s, if_neg (by decide)]
      · rw [if_neg c, if_neg (by decide)]
    · obtain ⟨R, eR⟩ := row_any h v0
      unfold x12_match
      rw [eR, mm_cl_s, nr12_eq, mm_cl_s]
      by_cases c : R = -1
      · rw [if_pos c]
      · rw [if_neg c]
        by_cases c2 : 10 ≤ v1.toInt ∧ v1.toInt / 10 ≤ 9 ∧ v1.toInt % 10 ≤ 1
        · rw [if_neg (by rw [mm_p0]; exact fun w => w c2), if_neg (by rw [le32, ti0]; exact fun w => g ⟨w, c2⟩)]
        · rw [if_pos (by rw [mm_p0]; exact c2)]
/-- the place of who wins -/
def fp (S : Nat → Int32) : Nat → Nat → Int32 → Int32 → Int32
  | 0, _, b, _ => b
  | m + 1, i, b, mo => if S i ≤ mo then fp S m (i + 1) b mo else fp S m (i + 1) (Int32.ofNat i) (S i)
theorem fp_cases (S : Nat → Int32) : ∀ m i b mo, fp S m i b mo = b ∨ ∃ j, i ≤ j ∧ j < i + m ∧ fp S m i b mo = Int32.ofNat j
  | 0, _, _, _ => Or.inl rfl
  | m + 1, i, b, mo => by
    show (if S i ≤ mo then fp S m (i + 1) b mo else fp S m (i + 1) (Int32.ofNat i) (S i)) = b ∨ ∃ j, i ≤ j ∧ j < i + (m + 1) ∧ (if S i ≤ mo then fp S m (i + 1) b mo else fp S m (i + 1) (Int32.ofNat i) (S i)) = Int32.ofNat j
    by_cases c : S i ≤ mo
    · rw [if_pos c]
      rcases fp_cases S m (i + 1) b mo with e | ⟨j, h1, h2, h3⟩
      · exact Or.inl e
      · exact Or.inr ⟨j, by omega, by omega, h3⟩
    · rw [if_neg c]
      rcases fp_cases S m (i + 1) (Int32.ofNat i) (S i) with e | ⟨j, h1, h2, h3⟩
      · exact Or.inr ⟨i, by omega, by omega, e⟩
      · exact Or.inr ⟨j, by omega, by omega, h3⟩
theorem first_h {N : Nat} {W S : Nat → Int32} {q : mm_Q} (h : cg N W S q) (h6 : N ≤ 6) {f : Nat} : ∀ (m i : Nat) (a3 b mo : Int32), a3.toInt = i → i + m = N → x2_firstPlace_h6 (f + m + 1) b mo a3 q = some (fp S m i b mo, q) := by
  intro m
  induction m with
  | zero =>
    intro i a3 b mo h1 h2
    rw [x2_firstPlace_h6, if_pos (by rw [le32, h.1]; omega)]
    rfl
  | succ m ih =>
    intro i a3 b mo h1 h2
    rw [show f + (m + 1) + 1 = (f + m + 1) + 1 by omega, x2_firstPlace_h6, if_neg (by rw [le32, h.1]; omega), scoreAt_in h h6 h1 (by omega), mm_cl_s, scoreAt_in h h6 h1 (by omega), mm_cl_s]
    unfold x2_firstPlace_j31
    rw [ih (i + 1) (a3 + 1) b mo (mm_inc1 h1 (by omega)) (by omega), ih (i + 1) (a3 + 1) a3 (S i) (mm_inc1 h1 (by omega)) (by omega), ← mm_some_ite, mm_ofn h1]
    rfl
theorem first_eq {N : Nat} {W S : Nat → Int32} {q : mm_Q} (h : cg N W S q) (h6 : N ≤ 6) : x2_firstPlace q = some (fp S N 0 (-1) (-1), q) := by
  have := first_h h h6 (f := 999 - N) N 0 0 (-1) (-1) ti0 (by omega)
  rw [show 999 - N + N + 1 = mm_fu by show _ = 1000; omega] at this
  exact this
/-- who stands at a place -/
def spt (W : Nat → Int32) (b : Int32) : Int32 := if b < 0 then -2 else W b.toNatClampNeg
theorem spt_n (W : Nat → Int32) {j : Nat} (hj : j < 1000) : spt W (Int32.ofNat j) = W j := by
  have e : (Int32.ofNat j).toInt = ((j : Nat) : Int) := mm_ofNat_ti (by omega)
  unfold spt
  rw [if_neg (by rw [lt32, ti0]; omega), mm_tcn e]
section WN
variable {F : mm_F} {c : Nat → Int32} {sp : Int32} {n N : Nat} {rl : Int32} {W : Nat → Int32}
theorem winner12_h (hb : bd sp c) (hs6 : sp.toInt ≤ 6) (hg : gat F c sp n rl N W) {nr : Int32} (h10 : (nr / 10).toInt = n) (hrl : rl = mm_rem nr 10) {f : Nat} : ∀ (m i : Nat) (a4 b mo : Int32) (q : mm_Q), a4.toInt = i → i + m = N → rx F c sp 0 q → rg N W q → ∃ q', x12_winnerOf_h8 (f + m + 1) nr (spt W b) mo a4 q = some (spt W (fp (SN F c n rl 0 W) m i b mo), q') ∧ fq q q' ∧ rx F c sp 0 q' := by
  obtain ⟨hn, hN, hr, hW, -⟩ := id hg
  intro m
  induction m with
  | zero =>
    intro i a4 b mo q h1 h2 hx hr1
    refine ⟨q, ?_, fq_rfl _, hx⟩
    rw [x12_winnerOf_h8, if_pos (by rw [le32, hr1.1]; omega)]
    rfl
  | succ m ih =>
    intro i a4 b mo q h1 h2 hx hr1
    have wj := hW i (by omega)
    obtain ⟨q1, y1, y2, y3⟩ := score12_eq (rl := rl) hb (nat_of wj.1) (by omega) hn h10 hrl hr hx
    have hr2 : rg N W q1 := ⟨by rw [y2.2 26 (by decide)]; exact hr1.1, fun j hj => by rw [y2.1.2 64 (by decide)]; exact hr1.2 j hj⟩
    have e : x12_winnerOf_h8 (f + (m + 1) + 1) nr (spt W b) mo a4 q = if SN F c n rl 0 W i ≤ mo then x12_winnerOf_h8 (f + m + 1) nr (spt W b) mo (a4 + 1) q1 else x12_winnerOf_h8 (f + m + 1) nr (spt W (Int32.ofNat i)) (SN F c n rl 0 W i) (a4 + 1) q1 := by
      rw [show f + (m + 1) + 1 = (f + m + 1) + 1 by omega, x12_winnerOf_h8, if_neg (by rw [le32, hr1.1]; omega), mm_ck_t (mm_inb_c h1 (by omega)), mm_tcn h1, hr1.2 i (by omega), y1, mm_cl_s, mm_ck_t (mm_inb_c h1 (by omega)), hr2.2 i (by omega), spt_n W (by omega)]
      unfold x12_winnerOf_j48 x12_winnerOf_j61
      by_cases z : SN F c n rl 0 W i ≤ mo
      · rw [if_pos z, if_pos z, if_pos (show SC F c n rl 0 (W i).toInt.toNat ≤ mo from z)]
      · rw [if_neg z, if_neg z, if_neg (show ¬ SC F c n rl 0 (W i).toInt.toNat ≤ mo from z)]
    rw [e]
    show ∃ q', _ = some (spt W (if SN F c n rl 0 W i ≤ mo then fp (SN F c n rl 0 W) m (i + 1) b mo else fp (SN F c n rl 0 W) m (i + 1) (Int32.ofNat i) (SN F c n rl 0 W i)), q') ∧ _
    by_cases z : SN F c n rl 0 W i ≤ mo
    · rw [if_pos z, if_pos z]
      obtain ⟨q2, z1, z2, z3⟩ := ih (i + 1) (a4 + 1) b mo q1 (mm_inc1 h1 (by omega)) (by omega) y3 hr2
      exact ⟨q2, z1, fq_trans y2 z2, z3⟩
    · rw [if_neg z, if_neg z]
      obtain ⟨q2, z1, z2, z3⟩ := ih (i + 1) (a4 + 1) (Int32.ofNat i) (SN F c n rl 0 W i) q1 (mm_inc1 h1 (by omega)) (by omega) y3 hr2
      exact ⟨q2, z1, fq_trans y2 z2, z3⟩
theorem winner12_eq (hb : bd sp c) (hs6 : sp.toInt ≤ 6) (hg : gat F c sp n rl N W) {nr : Int32} (h10 : (nr / 10).toInt = n) (hrl : rl = mm_rem nr 10) {q : mm_Q} (hx : rx F c sp 0 q) (hr : rg N W q) : ∃ q', x12_winnerOf nr q = some (spt W (fp (SN F c n rl 0 W) N 0 (-1) (-1)), q') ∧ fq q q' ∧ rx F c sp 0 q' := by
  have h6 := hg.2.1
  obtain ⟨q', e, f⟩ := winner12_h hb hs6 hg h10 hrl (f := 999 - N) N 0 0 (-1) (-1) q ti0 (by omega) hx hr
  rw [show 999 - N + N + 1 = mm_fu by show _ = 1000; omega, show spt W (-1) = -2 from rfl] at e
  exact ⟨q', e, f⟩
end WN
theorem pr_winner (v0 v1 : Int32) : mm_pr (mm_Iv mm_LX) (x11_winner v0 v1) (x12_winner v0 v1) := by
  intro q h
  obtain ⟨F, hw, hb, ⟨hs0, hs6⟩, e6, hx, hd⟩ := mm_think h
  by_cases g2 : 10 ≤ v1.toInt ∧ v1.toInt / 10 ≤ 9 ∧ v1.toInt % 10 ≤ 1
  · rcases match_ref h hw hb hs0 hs6 hx v0 v1 g2 with ⟨R, hR, y1, y2⟩ | ⟨n, N, W, q1, hn, hg, y1, y2, y3, y4, y5⟩
    · refine ⟨R, q, q, ?_, rfl, ?_, h⟩
      · unfold x11_winner
        rw [y1, mm_cl_s, if_neg (by rcases hR with rfl | rfl | rfl <;> decide)]
      · unfold x12_winner
        rw [y2 q (fk_rfl q), mm_cl_s, nr12_eq, mm_cl_s, if_neg (show ¬ mm_p _ = 0 by rw [mm_p0]; exact fun w => w g2), y2 q (fk_rfl q), mm_cl_s, y2 q (fk_rfl q), mm_cl_s]
        rcases hR with rfl | rfl | rfl
        · rw [if_pos rfl]
        · rw [if_neg (by decide), if_neg (by decide)]
        · rw [if_neg (by decide), if_neg (by decide)]
    · have k1 : fk q q1 := fk_fr y2 (by decide)
      obtain ⟨u1, q2, u2, u3, u4, u5⟩ := y5 q1 k1
      have hN6 : N ≤ 6 := hg.2.1
      obtain ⟨q3, z1, z2, z3⟩ := winner12_eq hb hs6 hg hn rfl u4 u5
      refine ⟨spt W (fp (SN F (q.1 9) n (mm_rem v1 10) 0 W) N 0 (-1) (-1)), q1, q3, ?_, by rw [k1.1 0 (by decide)], ?_, hd q1 q3 k1 (fz_trans u3 (fz_fq z2)) z3⟩
      · unfold x11_winner
        rw [y1, mm_cl_s, if_pos rfl, first_eq y4 hN6, mm_cl_s]
        rcases fp_cases (SN F (q.1 9) n (mm_rem v1 10) 0 W) N 0 (-1) (-1) with e | ⟨j, h1, h2, h3⟩
        · rw [e]
          unfold x2_spitterAt
          rw [if_pos (by decide), mm_cl_s]
          rfl
        · have ej : (Int32.ofNat j).toInt = ((j : Nat) : Int) := mm_ofNat_ti (by omega)
          rw [h3, spitterAt_in y4 hN6 ej (by omega), mm_cl_s, spt_n W (by omega)]
      · unfold x12_winner
        rw [u1, mm_cl_s, if_neg (by decide), nr12_eq, mm_cl_s, if_neg (show ¬ mm_p _ = 0 by rw [mm_p0]; exact fun w => w g2), u1, mm_cl_s, if_pos (by decide), u2, mm_cl_s, z1, mm_cl_s]
  · refine ⟨-1, q, q, ?_, rfl, ?_, h⟩
    · unfold x11_winner
      rw [match_bad h v0 v1 g2, mm_cl_s, if_neg (by decide)]
    · obtain ⟨R, eR⟩ := row_any h v0
      unfold x12_winner
      rw [eR, mm_cl_s, nr12_eq, mm_cl_s, if_pos (show mm_p _ = 0 by rw [mm_p0]; exact g2)]
      by_cases c : R = -1
      · rw [if_pos c]
      · rw [if_neg c]
