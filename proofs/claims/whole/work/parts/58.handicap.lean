/-! how much larger the stones must be -/
theorem fp_stay (S : Nat → Int32) (b : Int32) : ∀ m i mo, (∀ i', i ≤ i' → i' < i + m → b ≠ Int32.ofNat i') → (fp S m i b mo = b ↔ ∀ i', i ≤ i' → i' < i + m → S i' ≤ mo)
  | 0, i, mo, _ => ⟨fun _ i' h1 h2 => by omega, fun _ => rfl⟩
  | m + 1, i, mo, hb => by
    show (if S i ≤ mo then fp S m (i + 1) b mo else fp S m (i + 1) (Int32.ofNat i) (S i)) = b ↔ _
    by_cases c : S i ≤ mo
    · rw [if_pos c, fp_stay S b m (i + 1) mo (fun i' h1 h2 => hb i' (by omega) (by omega))]
      constructor
      · intro h i' h1 h2
        by_cases e : i' = i
        · rw [e]; exact c
        · exact h i' (by omega) (by omega)
      · exact fun h i' h1 h2 => h i' (by omega) (by omega)
    · rw [if_neg c]
      refine ⟨fun w => ?_, fun w => absurd (w i (Nat.le_refl _) (by omega)) c⟩
      exfalso
      rcases fp_cases S m (i + 1) (Int32.ofNat i) (S i) with e | ⟨j, h1, h2, h3⟩
      · exact hb i (Nat.le_refl _) (by omega) (by rw [← w, e])
      · exact hb j (by omega) (by omega) (by rw [← w, h3])
theorem ofn_ne {i j : Nat} (hi : i < 1000) (hj : j < 1000) (h : i ≠ j) : Int32.ofNat i ≠ Int32.ofNat j := by
  intro w
  have e1 : (Int32.ofNat i).toInt = ((i : Nat) : Int) := mm_ofNat_ti (by omega)
  have e2 : (Int32.ofNat j).toInt = ((j : Nat) : Int) := mm_ofNat_ti (by omega)
  rw [w, e2] at e1
  omega
theorem fp_iff (S : Nat → Int32) (j0 : Nat) : ∀ m i b mo, i ≤ j0 → j0 < i + m → i + m < 1000 → b ≠ Int32.ofNat j0 → (fp S m i b mo = Int32.ofNat j0 ↔ (mo < S j0 ∧ ∀ i', i ≤ i' → i' < j0 → S i' < S j0) ∧ ∀ i', j0 < i' → i' < i + m → S i' ≤ S j0)
  | 0, i, b, mo, h1, h2, _, _ => by omega
  | m + 1, i, b, mo, h1, h2, h3, hb => by
    show (if S i ≤ mo then fp S m (i + 1) b mo else fp S m (i + 1) (Int32.ofNat i) (S i)) = Int32.ofNat j0 ↔ _
    by_cases e : i = j0
    · subst e
      by_cases c : S i ≤ mo
      · rw [if_pos c]
        refine ⟨fun w => ?_, fun w => absurd c (Int32.not_le.mpr w.1.1)⟩
        exfalso
        rcases fp_cases S m (i + 1) b mo with e | ⟨j, a1, a2, a3⟩
        · exact hb (by rw [← w, e])
        · exact ofn_ne (by omega) (by omega) (show i ≠ j by omega) (by rw [← w, a3])
      · rw [if_neg c, fp_stay S (Int32.ofNat i) m (i + 1) (S i) (fun i' a1 a2 => ofn_ne (by omega) (by omega) (by omega))]
        constructor
        · exact fun w => ⟨⟨Int32.not_le.mp c, fun i' a1 a2 => by omega⟩, fun i' a1 a2 => w i' (by omega) (by omega)⟩
        · exact fun w i' a1 a2 => w.2 i' (by omega) (by omega)
    · by_cases c : S i ≤ mo
      · rw [if_pos c, fp_iff S j0 m (i + 1) b mo (by omega) (by omega) (by omega) hb]
        constructor
        · rintro ⟨⟨a1, a2⟩, a3⟩
          refine ⟨⟨a1, fun i' b1 b2 => ?_⟩, fun i' b1 b2 => a3 i' b1 (by omega)⟩
          by_cases ei : i' = i
          · rw [ei]; exact Int32.lt_of_le_of_lt c a1
          · exact a2 i' (by omega) b2
        · rintro ⟨⟨a1, a2⟩, a3⟩
          exact ⟨⟨a1, fun i' b1 b2 => a2 i' (by omega) b2⟩, fun i' b1 b2 => a3 i' b1 (by omega)⟩
      · rw [if_neg c, fp_iff S j0 m (i + 1) (Int32.ofNat i) (S i) (by omega) (by omega) (by omega) (ofn_ne (by omega) (by omega) e)]
        constructor
        · rintro ⟨⟨a1, a2⟩, a3⟩
          refine ⟨⟨Int32.lt_trans (Int32.not_le.mp c) a1, fun i' b1 b2 => ?_⟩, fun i' b1 b2 => a3 i' b1 (by omega)⟩
          by_cases ei : i' = i
          · rw [ei]; exact a1
          · exact a2 i' (by omega) b2
        · rintro ⟨⟨a1, a2⟩, a3⟩
          exact ⟨⟨a2 i (Nat.le_refl _) (by omega), fun i' b1 b2 => a2 i' (by omega) b2⟩, fun i' b1 b2 => a3 i' b1 (by omega)⟩
/-- whether it wins with another score of its own -/
def wh (S : Nat → Int32) (own : Int32) (j0 : Nat) : Nat → Nat → Bool
  | 0, _ => true
  | m + 1, i => (if i = j0 then true else if j0 < i then decide (S i ≤ own) else decide (S i < own)) && wh S own j0 m (i + 1)
theorem wh_iff (S : Nat → Int32) (own : Int32) (j0 : Nat) : ∀ m i, wh S own j0 m i = true ↔ (∀ i', i ≤ i' → i' < i + m → i' < j0 → S i' < own) ∧ ∀ i', i ≤ i' → i' < i + m → j0 < i' → S i' ≤ own
  | 0, i => ⟨fun _ => ⟨fun i' h1 h2 => by omega, fun i' h1 h2 => by omega⟩, fun _ => rfl⟩
  | m + 1, i => by
    show ((if i = j0 then true else if j0 < i then decide (S i ≤ own) else decide (S i < own)) && wh S own j0 m (i + 1)) = true ↔ _
    rw [Bool.and_eq_true, wh_iff S own j0 m (i + 1)]
    constructor
    · rintro ⟨h1, h2, h3⟩
      refine ⟨fun i' a b d => ?_, fun i' a b d => ?_⟩
      · by_cases e : i' = i
        · subst e
          rw [if_neg (by omega), if_neg (by omega)] at h1
          exact of_decide_eq_true h1
        · exact h2 i' (by omega) (by omega) d
      · by_cases e : i' = i
        · subst e
          rw [if_neg (by omega), if_pos d] at h1
          exact of_decide_eq_true h1
        · exact h3 i' (by omega) (by omega) d
    · rintro ⟨h2, h3⟩
      refine ⟨?_, fun i' a b d => h2 i' (by omega) (by omega) d, fun i' a b d => h3 i' (by omega) (by omega) d⟩
      by_cases e : i = j0
      · rw [if_pos e]
      · rw [if_neg e]
        by_cases z : j0 < i
        · rw [if_pos z]
          exact decide_eq_true (h3 i (Nat.le_refl _) (by omega) z)
        · rw [if_neg z]
          exact decide_eq_true (h2 i (Nat.le_refl _) (by omega) (by omega))
/-- the least of the larger ones, from 9 - m on -/
def lh (w : Nat → Bool) : Nat → Int32
  | 0 => -2
  | m + 1 => cond (w (8 - m)) (lh w m) (Int32.ofNat (8 - m))
section HC
variable {F : mm_F} {c : Nat → Int32} {sp : Int32} {n N : Nat} {rl : Int32} {W : Nat → Int32}
theorem fp_wh {S : Nat → Int32} {own : Int32} {j0 : Nat} (hj : j0 < N) (h6 : N ≤ 6) (ho : 0 ≤ own.toInt) : fp (upd S j0 own) N 0 (-1) (-1) = Int32.ofNat j0 ↔ wh S own j0 N 0 = true := by
  rw [fp_iff (upd S j0 own) j0 N 0 (-1) (-1) (by omega) (by omega) (by omega) (by
    intro w
    have e : (Int32.ofNat j0).toInt = ((j0 : Nat) : Int) := mm_ofNat_ti (by omega)
    rw [← w, tin1] at e
    omega), wh_iff, upd_self]
  constructor
  · rintro ⟨⟨a1, a2⟩, a3⟩
    refine ⟨fun i' _ b d => ?_, fun i' _ b d => ?_⟩
    · have := a2 i' (by omega) d
      rw [upd_ne _ _ _ (by omega)] at this
      exact this
    · have := a3 i' d (by omega)
      rw [upd_ne _ _ _ (by omega)] at this
      exact this
  · rintro ⟨a2, a3⟩
    refine ⟨⟨by rw [lt32, tin1]; omega, fun i' a b => ?_⟩, fun i' a b => ?_⟩
    · rw [upd_ne _ _ _ (by omega)]
      exact a2 i' (by omega) (by omega) b
    · rw [upd_ne _ _ _ (by omega)]
      exact a3 i' (by omega) (by omega) a
theorem cg_fr {S : Nat → Int32} {q q' : mm_Q} (h : cg N W S q) (f : fr [12, 13, 14] q q') : cg N W S q' := ⟨by rw [f.2 39 (by decide)]; exact h.1, fun j hj => by rw [f.2 40 (by decide), f.2 41 (by decide)]; exact h.2 j hj⟩
theorem handi11_h (hb : bd sp c) (hs6 : sp.toInt ≤ 6) (hg : gat F c sp n rl N W) {v : Int32} {j0 : Nat} (hj : j0 < N) (hv : W j0 = v) {S0 : Nat → Int32} (hS : ∀ i, i < N → i ≠ j0 → S0 i = SN F c n rl 0 W i) {f : Nat} : ∀ (m i : Nat) (a3 : Int32) (q : mm_Q), a3.toInt = i → i + m = 9 → cw F c sp q → cm n rl q → (q.1 39 6).toInt = N → (∀ j, j < N → q.1 40 j = W j ∧ (j ≠ j0 → q.1 41 j = SN F c n rl 0 W j)) → ∃ q', x2_leastHandicap_h31 (f + m + 1) v (Int32.ofNat j0) a3 q = some (lh (fun lg => wh (SN F c n rl 0 W) (SC F c n rl (Int32.ofNat lg) v.toInt.toNat) j0 N 0) m, q') ∧ fr [12, 13, 14, 39, 40, 41] q q' := by
  obtain ⟨hn, hN, hr, hW, -⟩ := id hg
  have ej0 : (Int32.ofNat j0).toInt = ((j0 : Nat) : Int) := mm_ofNat_ti (by omega)
  intro m
  induction m with
  | zero =>
    intro i a3 q h1 h2 hx hm h39 h40
    refine ⟨q, ?_, fr_rfl _ _⟩
    rw [x2_leastHandicap_h31, if_pos (by rw [lt32, ti8]; omega)]
    rfl
  | succ m ih =>
    intro i a3 q h1 h2 hx hm h39 h40
    have wj := hW j0 hj
    rw [hv] at wj
    obtain ⟨q1, y1, y2⟩ := score11_eq (F := F) hb hs6 (nat_of wj.1) (by omega) hn hx hm a3
    have f2 : fr [12, 13, 14, 39, 40, 41] q (mm_si q1 41 j0 (SC F c n rl a3 v.toInt.toNat)) := fr_trans (fr_mono y2 (by decide)) (fr_si _ _ _ (by decide))
    have so := SC_rng hb F hn rl a3 v.toInt.toNat
    have cg2 : cg N W (upd (SN F c n rl 0 W) j0 (SC F c n rl a3 v.toInt.toNat)) (mm_si q1 41 j0 (SC F c n rl a3 v.toInt.toNat)) := by
      refine ⟨?_, fun j hj2 => ⟨?_, ?_⟩⟩
      · rw [mm_si_ne _ _ _ _ (by decide), y2.2 39 (by decide)]; exact h39
      · rw [mm_si_ne _ _ _ _ (by decide), y2.2 40 (by decide)]; exact (h40 j hj2).1
      · rw [mm_si_self]
        by_cases e : j = j0
        · rw [e, upd_self, upd_self]
        · rw [upd_ne _ _ _ e, upd_ne _ _ _ e, y2.2 41 (by decide)]
          exact (h40 j hj2).2 e
    have body : x2_leastHandicap_h31 (f + (m + 1) + 1) v (Int32.ofNat j0) a3 q = if fp (upd (SN F c n rl 0 W) j0 (SC F c n rl a3 v.toInt.toNat)) N 0 (-1) (-1) = Int32.ofNat j0 then x2_leastHandicap_h31 (f + m + 1) v (Int32.ofNat j0) (a3 + 1) (mm_si q1 41 j0 (SC F c n rl a3 v.toInt.toNat)) else some (a3, mm_si q1 41 j0 (SC F c n rl a3 v.toInt.toNat)) := by
      rw [show f + (m + 1) + 1 = (f + m + 1) + 1 by omega, x2_leastHandicap_h31, if_neg (by rw [lt32, ti8]; omega), y1, mm_cl_s, mm_ck_t (mm_inb_c ej0 (by omega)), mm_lt_s, mm_tcn ej0, first_eq cg2 hN, mm_cl_s]
    have el : lh (fun lg => wh (SN F c n rl 0 W) (SC F c n rl (Int32.ofNat lg) v.toInt.toNat) j0 N 0) (m + 1) = cond (wh (SN F c n rl 0 W) (SC F c n rl a3 v.toInt.toNat) j0 N 0) (lh (fun lg => wh (SN F c n rl 0 W) (SC F c n rl (Int32.ofNat lg) v.toInt.toNat) j0 N 0) m) a3 := by
      show cond (wh (SN F c n rl 0 W) (SC F c n rl (Int32.ofNat (8 - m)) v.toInt.toNat) j0 N 0) _ (Int32.ofNat (8 - m)) = _
      rw [show 8 - m = i by omega, ← mm_ofn h1]
    rw [body, el]
    have iff := fp_wh (N := N) (S := SN F c n rl 0 W) (own := SC F c n rl a3 v.toInt.toNat) hj hN so.1
    by_cases z : fp (upd (SN F c n rl 0 W) j0 (SC F c n rl a3 v.toInt.toNat)) N 0 (-1) (-1) = Int32.ofNat j0
    · rw [if_pos z, iff.mp z]
      obtain ⟨q2, z1, z2⟩ := ih (i + 1) (a3 + 1) (mm_si q1 41 j0 (SC F c n rl a3 v.toInt.toNat)) (mm_inc1 h1 (by omega)) (by omega) (cw_fr hx f2 (by decide) (by decide) (by decide) (by decide)) (by
        unfold cm
        rw [mm_si_ne _ _ _ _ (by decide), y2.2 39 (by decide)]
        exact hm) cg2.1 (fun j hj2 => ⟨(cg2.2 j hj2).1, fun e => by rw [(cg2.2 j hj2).2, upd_ne _ _ _ e]⟩)
      exact ⟨q2, z1, fr_trans f2 z2⟩
    · rw [if_neg z, Bool.eq_false_iff.mpr (fun w => z (iff.mpr w))]
      exact ⟨_, rfl, f2⟩
theorem wins27_h (hb : bd sp c) (hs6 : sp.toInt ≤ 6) (hg : gat F c sp n rl N W) {nr : Int32} (h10 : (nr / 10).toInt = n) (hrl : rl = mm_rem nr 10) {v : Int32} {j0 : Nat} (hj : j0 < N) (hv : W j0 = v) (own : Int32) {f : Nat} : ∀ (m i : Nat) (b : Bool) (a7 : Int32) (q : mm_Q), a7.toInt = i → i + m = N → rx F c sp 0 q → rg N W q → ∃ q', x12_winsWith_h27 (f + m + 1) v nr own (mm_b b) (if j0 < i then 1 else 0) a7 q = some (mm_b (b && wh (SN F c n rl 0 W) own j0 m i), q') ∧ fq q q' ∧ rx F c sp 0 q' := by
  obtain ⟨hn, hN, hr, hW, hi⟩ := id hg
  intro m
  induction m with
  | zero =>
    intro i b a7 q h1 h2 hx hr1
    refine ⟨q, ?_, fq_rfl _, hx⟩
    rw [x12_winsWith_h27, if_pos (by rw [le32, hr1.1]; omega), mm_ck_t (mm_bb_b b), show wh (SN F c n rl 0 W) own j0 0 i = true from rfl, Bool.and_true]
  | succ m ih =>
    intro i b a7 q h1 h2 hx hr1
    have ew : wh (SN F c n rl 0 W) own j0 (m + 1) i = ((if i = j0 then true else if j0 < i then decide (SN F c n rl 0 W i ≤ own) else decide (SN F c n rl 0 W i < own)) && wh (SN F c n rl 0 W) own j0 m (i + 1)) := rfl
    rw [ew, show f + (m + 1) + 1 = (f + m + 1) + 1 by omega, x12_winsWith_h27, if_neg (by rw [le32, hr1.1]; omega), mm_ck_t (mm_inb_c h1 (by omega)), mm_ck_t (mm_inb_c h1 (by omega)), mm_tcn h1, hr1.2 i (by omega)]
    unfold x12_winsWith_j104
    by_cases e : i = j0
    · rw [if_pos (by rw [e, hv]), if_pos e, Bool.true_and]
      have := ih (i + 1) b (a7 + 1) q (mm_inc1 h1 (by omega)) (by omega) hx hr1
      rw [if_pos (show j0 < i + 1 by omega)] at this
      exact this
    · have ne : W i ≠ v := by
        intro w
        rcases (show i < j0 ∨ j0 < i by omega) with z | z
        · exact hi j0 hj i z (by rw [w, hv])
        · exact hi i (by omega) j0 z (by rw [w, hv])
      rw [if_neg ne, if_neg e]
      have wj := hW i (by omega)
      obtain ⟨q1, y1, y2, y3⟩ := score12_eq (rl := rl) hb (nat_of wj.1) (by omega) hn h10 hrl hr hx
      have hr2 := rg_fq hr1 y2
      rw [y1, mm_cl_s]
      have go : ∀ x : Bool, ∃ q', x12_winsWith_j101 (x12_winsWith_h27 (f + m + 1)) v nr own (if j0 < i then 1 else 0) a7 (mm_b b) (mm_b x) q1 = some (mm_b (b && (x && wh (SN F c n rl 0 W) own j0 m (i + 1))), q') ∧ fq q q' ∧ rx F c sp 0 q' := by
        intro x
        unfold x12_winsWith_j101 x12_winsWith_j104
        rw [mm_b_and]
        obtain ⟨q2, z1, z2, z3⟩ := ih (i + 1) (b && x) (a7 + 1) q1 (mm_inc1 h1 (by omega)) (by omega) y3 hr2
        refine ⟨q2, ?_, fq_trans y2 z2, z3⟩
        rw [show (if j0 < i then (1 : Int32) else 0) = if j0 < i + 1 then 1 else 0 by split <;> split <;> first | rfl | omega, z1, Bool.and_assoc]
      by_cases z : j0 < i
      · rw [if_pos z] at go ⊢
        rw [if_neg (by decide), if_pos z]
        by_cases w : SN F c n rl 0 W i ≤ own
        · rw [if_neg (Int32.not_lt.mpr w), decide_eq_true w]
          exact go true
        · rw [if_pos (Int32.not_le.mp w), decide_eq_false w]
          exact go false
      · rw [if_neg z] at go ⊢
        rw [if_pos rfl, if_neg z]
        by_cases w : SN F c n rl 0 W i < own
        · rw [if_neg (Int32.not_le.mpr w), decide_eq_true w]
          exact go true
        · rw [if_pos (Int32.not_lt.mp w), decide_eq_false w]
          exact go false
theorem wins_eq (hb : bd sp c) (hs6 : sp.toInt ≤ 6) (hg : gat F c sp n rl N W) {nr : Int32} (h10 : (nr / 10).toInt = n) (hrl : rl = mm_rem nr 10) {v : Int32} {j0 : Nat} (hj : j0 < N) (hv : W j0 = v) (lg : Int32) {q : mm_Q} (hx : rx F c sp 0 q) (hr1 : rg N W q) : ∃ q', x12_winsWith v nr lg q = some (mm_b (wh (SN F c n rl 0 W) (SC F c n rl lg v.toInt.toNat) j0 N 0), q') ∧ fz q q' ∧ rx F c sp 0 q' ∧ rg N W q' := by
  obtain ⟨hn, hN, hr, hW, hi⟩ := id hg
  have wj := hW j0 hj
  rw [hv] at wj
  obtain ⟨q1, y1, y2, y3⟩ := score12_eq (lg := lg) (rl := rl) hb (nat_of wj.1) (by omega) hn h10 hrl hr (q := mm_si q 52 17 lg) (show rx F c sp lg (mm_si q 52 17 lg) from ⟨hx.1, hx.2.1, rfl, hx.2.2.2⟩)
  have hx2 : rx F c sp 0 (mm_si q1 52 17 0) := ⟨y3.1, y3.2.1, rfl, y3.2.2.2⟩
  have hr2 : rg N W (mm_si q1 52 17 0) := rg_fq hr1 (show fq q (mm_si q1 52 17 0) from by
    refine ⟨⟨y2.1.1, fun k hk => ?_⟩, fun j hj => ?_⟩
    · have n52 : k ≠ 52 := fun z => hk (by rw [z]; decide)
      rw [mm_si_ne _ _ _ _ n52, y2.1.2 k hk, mm_si_ne _ _ _ _ n52]
    · by_cases e : j = 17
      · rw [e, mm_si_self, upd_self]
        exact hx.2.2.1.symm
      · rw [mm_si_self, upd_ne _ _ _ e, y2.2 j hj, mm_si_self, upd_ne _ _ _ e])
  obtain ⟨q2, z1, z2, z3⟩ := wins27_h hb hs6 hg h10 hrl hj hv (SC F c n rl lg v.toInt.toNat) (f := 999 - N) N 0 true 0 (mm_si q1 52 17 0) ti0 (by omega) hx2 hr2
  rw [show 999 - N + N + 1 = mm_fu by show _ = 1000; omega, if_neg (Nat.not_lt_zero j0), Bool.true_and] at z1
  have f0 : fz q (mm_si q1 52 17 0) := by
    refine ⟨fun k hk => ?_, y2.1.1, fun j hj => ?_⟩
    · have n52 : k ≠ 52 := fun z => hk (by rw [z]; decide)
      rw [mm_si_ne _ _ _ _ n52, y2.1.2 k (fun z => hk (fz_sub k z)), mm_si_ne _ _ _ _ n52]
    · by_cases e : j = 17
      · rw [e, mm_si_self, upd_self]
        exact hx.2.2.1.symm
      · rw [mm_si_self, upd_ne _ _ _ e, y2.2 j (fun z => hj (fz_sub2 j z)), mm_si_self, upd_ne _ _ _ e]
  refine ⟨q2, ?_, fz_trans f0 (fz_fq z2), z3, rg_fq hr2 z2⟩
  unfold x12_winsWith
  rw [mm_lt_s, y1, mm_cl_s, mm_lt_s]
  exact z1
theorem handi12_h (hb : bd sp c) (hs6 : sp.toInt ≤ 6) (hg : gat F c sp n rl N W) {nr : Int32} (h10 : (nr / 10).toInt = n) (hrl : rl = mm_rem nr 10) {v : Int32} {j0 : Nat} (hj : j0 < N) (hv : W j0 = v) {f : Nat} : ∀ (m i : Nat) (a4 : Int32) (q : mm_Q), a4.toInt = i → i + m = 9 → rx F c sp 0 q → rg N W q → ∃ q', x12_handicap_h63 (f + m + 1) nr v a4 q = some (lh (fun lg => wh (SN F c n rl 0 W) (SC F c n rl (Int32.ofNat lg) v.toInt.toNat) j0 N 0) m, q') ∧ fz q q' ∧ rx F c sp 0 q' := by
  intro m
  induction m with
  | zero =>
    intro i a4 q h1 h2 hx hr1
    refine ⟨q, ?_, fz_rfl _, hx⟩
    rw [x12_handicap_h63, if_pos (by rw [le32, ti9]; omega)]
    rfl
  | succ m ih =>
    intro i a4 q h1 h2 hx hr1
    obtain ⟨q1, y1, y2, y3, y4⟩ := wins_eq hb hs6 hg h10 hrl hj hv a4 hx hr1
    have el : lh (fun lg => wh (SN F c n rl 0 W) (SC F c n rl (Int32.ofNat lg) v.toInt.toNat) j0 N 0) (m + 1) = cond (wh (SN F c n rl 0 W) (SC F c n rl a4 v.toInt.toNat) j0 N 0) (lh (fun lg => wh (SN F c n rl 0 W) (SC F c n rl (Int32.ofNat lg) v.toInt.toNat) j0 N 0) m) a4 := by
      show cond (wh (SN F c n rl 0 W) (SC F c n rl (Int32.ofNat (8 - m)) v.toInt.toNat) j0 N 0) _ (Int32.ofNat (8 - m)) = _
      rw [show 8 - m = i by omega, ← mm_ofn h1]
    rw [el, show f + (m + 1) + 1 = (f + m + 1) + 1 by omega, x12_handicap_h63, if_neg (by rw [le32, ti9]; omega), y1, mm_cl_s]
    cases hb2 : wh (SN F c n rl 0 W) (SC F c n rl a4 v.toInt.toNat) j0 N 0 with
    | true =>
      rw [if_neg (by decide)]
      obtain ⟨q2, z1, z2, z3⟩ := ih (i + 1) (a4 + 1) q1 (mm_inc1 h1 (by omega)) (by omega) y3 y4
      exact ⟨q2, z1, fz_trans y2 z2, z3⟩
    | false =>
      rw [if_pos (by decide)]
      exact ⟨q1, rfl, y2, y3⟩
end HC
theorem pr_handicap (v0 v1 v2 : Int32) : mm_pr (mm_Iv mm_LX) (x11_handicap v0 v1 v2) (x12_handicap v0 v1 v2) := by
  intro q h
  obtain ⟨F, hw, hb, ⟨hs0, hs6⟩, e6, hx, hd⟩ := mm_think h
  by_cases g : (0 ≤ v2.toInt ∧ v2.toInt < (q.1 8 1).toInt) ∧ (10 ≤ v1.toInt ∧ v1.toInt / 10 ≤ 9 ∧ v1.toInt % 10 ≤ 1)
  · obtain ⟨g1, g2⟩ := g
    have hX : x11_handicap v0 v1 v2 q = mm_cl (x11_matchRefusal v0 v1 q) (fun r4 q5 => x11_handicap_j21 v2 r4 q5) := by
      unfold x11_handicap
      rw [isSpitter4_eq, mm_cl_s, if_neg (by rw [mm_p0]; exact fun w => w g1)]
    rcases match_ref h hw hb hs0 hs6 hx v0 v1 g2 with ⟨R, hR, y1, y2⟩ | ⟨n, N, W, q1, hn, hg, y1, y2, y3, y4, y5⟩
    · refine ⟨R, q, q, ?_, rfl, ?_, h⟩
      · rw [hX, y1, mm_cl_s]
        unfold x11_handicap_j21
        rw [if_neg (by rcases hR with rfl | rfl | rfl <;> decide)]
      · unfold x12_handicap
        rw [y2 q (fk_rfl q), mm_cl_s, nr12_eq, mm_cl_s, if_neg (show ¬ mm_p _ = 0 by rw [mm_p0]; exact fun w => w g2), isSpitter12_eq (by rw [e6]; exact hs0), mm_cl_s, mm_i64, e6, if_neg (show ¬ mm_p _ = 0 by rw [mm_p0]; exact fun w => w g1), y2 q (fk_rfl q), mm_cl_s, y2 q (fk_rfl q), mm_cl_s]
        rcases hR with rfl | rfl | rfl
        · rw [if_pos rfl]
        · rw [if_neg (by decide), if_neg (by decide)]
        · rw [if_neg (by decide), if_neg (by decide)]
    · have k1 : fk q q1 := fk_fr y2 (by decide)
      obtain ⟨u1, q2, u2, u3, u4, u5⟩ := y5 q1 k1
      have hN6 : N ≤ 6 := hg.2.1
      have f52 : q1.1 52 6 = q.1 8 1 := by rw [k1.1 52 (by decide)]; exact e6
      obtain ⟨q3, z1, z2, z3⟩ := winner12_eq hb hs6 hg hn rfl u4 u5
      have hM : x12_handicap v0 v1 v2 q1 = if spt W (fp (SN F (q.1 9) n (mm_rem v1 10) 0 W) N 0 (-1) (-1)) = v2 then x12_handicap_h63 mm_fu v1 v2 1 q3 else some (0, q3) := by
        unfold x12_handicap
        rw [u1, mm_cl_s, if_neg (by decide), nr12_eq, mm_cl_s, if_neg (show ¬ mm_p _ = 0 by rw [mm_p0]; exact fun w => w g2), isSpitter12_eq (by rw [f52]; exact hs0), mm_cl_s, mm_i64, f52, if_neg (show ¬ mm_p _ = 0 by rw [mm_p0]; exact fun w => w g1), u1, mm_cl_s, if_pos (by decide), u2, mm_cl_s, z1, mm_cl_s]
      have hX2 : x11_handicap v0 v1 v2 q = if fi W v2 N 0 < 0 then some (0, q1) else if 6 ≤ fi W v2 N 0 then some (0, q1) else if fp (SN F (q.1 9) n (mm_rem v1 10) 0 W) N 0 (-1) (-1) = fi W v2 N 0 then x2_leastHandicap_h31 mm_fu v2 (fi W v2 N 0) 1 q1 else some (0, q1) := by
        rw [hX, y1, mm_cl_s]
        unfold x11_handicap_j21 x2_leastHandicap
        rw [if_pos rfl, mm_cl_ret, place11_eq hN6 y4.1 (fun j hj => (y4.2 j hj).1), mm_cl_s, first_eq y4 hN6, mm_cl_s]
      have stop : x11_handicap v0 v1 v2 q = some (0, q1) → spt W (fp (SN F (q.1 9) n (mm_rem v1 10) 0 W) N 0 (-1) (-1)) ≠ v2 → ∃ r q1 q2, x11_handicap v0 v1 v2 q = some (r, q1) ∧ q1.1 0 = q.1 0 ∧ x12_handicap v0 v1 v2 q1 = some (r, q2) ∧ mm_Iv mm_LX q2 := by
        intro e1 e2
        rw [if_neg e2] at hM
        exact ⟨0, q1, q3, e1, by rw [k1.1 0 (by decide)], hM, hd q1 q3 k1 (fz_trans u3 (fz_fq z2)) z3⟩
      by_cases c : ∃ i, 0 ≤ i ∧ i < 0 + N ∧ W i = v2
      · obtain ⟨j0, -, h2, h3, h4⟩ := fi_pos W v2 N 0 (by omega) c
        have ej0 : (Int32.ofNat j0).toInt = ((j0 : Nat) : Int) := mm_ofNat_ti (by omega)
        rw [h4, if_neg (by rw [lt32, ti0]; omega), if_neg (by rw [le32, ti6]; omega)] at hX2
        by_cases w : fp (SN F (q.1 9) n (mm_rem v1 10) 0 W) N 0 (-1) (-1) = Int32.ofNat j0
        · rw [if_pos w] at hX2
          rw [w, spt_n W (by omega), if_pos h3] at hM
          obtain ⟨q4, x1, x2⟩ := handi11_h (S0 := SN F (q.1 9) n (mm_rem v1 10) 0 W) hb hs6 hg (show j0 < N by omega) h3 (fun _ _ _ => rfl) (f := 991) 8 1 1 q1 (by decide) (by omega) (cw_fr hw y2 (by decide) (by decide) (by decide) (by decide)) y3 y4.1 (fun j hj => ⟨(y4.2 j hj).1, fun _ => (y4.2 j hj).2⟩)
          have k4 : fk q q4 := fk_trans k1 (fk_fr x2 (by decide))
          -- the reference starts at the class's end
          obtain ⟨u1', q2', u2', u3', u4', u5'⟩ := y5 q4 k4
          obtain ⟨q3', z1', z2', z3'⟩ := winner12_eq hb hs6 hg hn rfl u4' u5'
          have f52' : q4.1 52 6 = q.1 8 1 := by rw [k4.1 52 (by decide)]; exact e6
          obtain ⟨q5, t1, t2, t3⟩ := handi12_h hb hs6 hg hn rfl (show j0 < N by omega) h3 (f := 991) 8 1 1 q3' (by decide) (by omega) z3' (rg_fq u5' z2')
          have hM' : x12_handicap v0 v1 v2 q4 = x12_handicap_h63 mm_fu v1 v2 1 q3' := by
            unfold x12_handicap
            rw [u1', mm_cl_s, if_neg (by decide), nr12_eq, mm_cl_s, if_neg (show ¬ mm_p _ = 0 by rw [mm_p0]; exact fun w => w g2), isSpitter12_eq (by rw [f52']; exact hs0), mm_cl_s, mm_i64, f52', if_neg (show ¬ mm_p _ = 0 by rw [mm_p0]; exact fun w => w g1), u1', mm_cl_s, if_pos (by decide), u2', mm_cl_s, z1', mm_cl_s, w, spt_n W (by omega), if_pos h3]
          have x1' : x2_leastHandicap_h31 mm_fu v2 (Int32.ofNat j0) 1 q1 = _ := x1
          have t1' : x12_handicap_h63 mm_fu v1 v2 1 q3' = _ := t1
          refine ⟨_, q4, q5, by rw [hX2, x1'], by rw [k4.1 0 (by decide)], by rw [hM', t1'], hd q4 q5 k4 (fz_trans (fz_trans u3' (fz_fq z2')) t2) t3⟩
        · rw [if_neg w] at hX2
          refine stop hX2 (fun e => ?_)
          rcases fp_cases (SN F (q.1 9) n (mm_rem v1 10) 0 W) N 0 (-1) (-1) with e' | ⟨j, a1, a2, a3⟩
          · rw [e', show spt W (-1) = -2 from rfl] at e
            have := g1.1
            rw [← e, tin2] at this
            omega
          · rw [a3, spt_n W (by omega)] at e
            have hji : j ≠ j0 := fun z => w (by rw [a3, z])
            rcases (show j < j0 ∨ j0 < j by omega) with z | z
            · exact hg.2.2.2.2 j0 (by omega) j z (by rw [e, h3])
            · exact hg.2.2.2.2 j (by omega) j0 z (by rw [e, h3])
      · rw [fi_neg W v2 N 0 (by omega) (fun i a b e => c ⟨i, a, b, e⟩), if_pos (by decide)] at hX2
        refine stop hX2 (fun e => ?_)
        rcases fp_cases (SN F (q.1 9) n (mm_rem v1 10) 0 W) N 0 (-1) (-1) with e' | ⟨j, a1, a2, a3⟩
        · rw [e', show spt W (-1) = -2 from rfl] at e
          have := g1.1
          rw [← e, tin2] at this
          omega
        · rw [a3, spt_n W (by omega)] at e
          exact c ⟨j, by omega, by omega, e⟩
  · refine ⟨-1, q, q, ?_, rfl, ?_, h⟩
    · unfold x11_handicap x11_handicap_j21
      rw [isSpitter4_eq, mm_cl_s]
      by_cases c : 0 ≤ v2.toInt ∧ v2.toInt < (q.1 8 1).toInt
      · rw [if_neg (by rw [mm_p0]; exact fun w => w c), match_bad h v0 v1 (fun w => g ⟨c, w⟩), mm_cl_s, if_neg (by decide)]
      · rw [if_pos (by rw [mm_p0]; exact c), if_neg (by decide)]
    · obtain ⟨R, eR⟩ := row_any h v0
      unfold x12_handicap
      rw [eR, mm_cl_s, nr12_eq, mm_cl_s, isSpitter12_eq (by rw [e6]; exact hs0), mm_cl_s, mm_i64, e6]
      by_cases c : R = -1
      · rw [if_pos c]
      · rw [if_neg c]
        by_cases c2 : 10 ≤ v1.toInt ∧ v1.toInt / 10 ≤ 9 ∧ v1.toInt % 10 ≤ 1
        · rw [if_neg (show ¬ mm_p _ = 0 by rw [mm_p0]; exact fun w => w c2), if_pos (show mm_p _ = 0 by rw [mm_p0]; exact fun w => g ⟨w, c2⟩)]
        · rw [if_pos (show mm_p _ = 0 by rw [mm_p0]; exact c2)]
