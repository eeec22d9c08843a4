/-! where to stand, so that one wins -/
theorem mm_b_and (a b : Bool) : mm_b a &&& mm_b b = mm_b (a && b) := by
  cases a <;> cases b <;> decide
/-- how many others stand ahead of place i -/
def cnt (j0 i : Nat) : Nat := if i ≤ j0 then i else i - 1
/-- whether it wins at a place, against those from i on -/
def wb (S : Nat → Int32) (own : Int32) (j0 p : Nat) : Nat → Nat → Bool
  | 0, _ => true
  | m + 1, i => (if i = j0 then true else if cnt j0 i < p then decide (S i < own) else decide (S i ≤ own)) && wb S own j0 p m (i + 1)
theorem wb_iff (S : Nat → Int32) (own : Int32) (j0 p : Nat) : ∀ m i, wb S own j0 p m i = true ↔ ∀ i', i ≤ i' → i' < i + m → i' ≠ j0 → (cnt j0 i' < p → S i' < own) ∧ S i' ≤ own
  | 0, i => ⟨fun _ i' h1 h2 => by omega, fun _ => rfl⟩
  | m + 1, i => by
    have ih := wb_iff S own j0 p m (i + 1)
    show ((if i = j0 then true else if cnt j0 i < p then decide (S i < own) else decide (S i ≤ own)) && wb S own j0 p m (i + 1)) = true ↔ _
    rw [Bool.and_eq_true, ih]
    constructor
    · rintro ⟨h1, h2⟩ i' a b d
      by_cases e : i' = i
      · subst e
        rw [if_neg d] at h1
        by_cases z : cnt j0 i' < p
        · rw [if_pos z] at h1
          have := of_decide_eq_true h1
          exact ⟨fun _ => this, Int32.le_of_lt this⟩
        · rw [if_neg z] at h1
          exact ⟨fun w => absurd w z, of_decide_eq_true h1⟩
      · exact h2 i' (by omega) (by omega) d
    · intro h
      refine ⟨?_, fun i' a b d => h i' (by omega) (by omega) d⟩
      by_cases d : i = j0
      · rw [if_pos d]
      · rw [if_neg d]
        have := h i (Nat.le_refl _) (by omega) d
        by_cases z : cnt j0 i < p
        · rw [if_pos z]
          exact decide_eq_true (this.1 z)
        · rw [if_neg z]
          exact decide_eq_true this.2
/-- the greatest winning place from p on -/
def gb (w : Nat → Bool) : Nat → Nat → Int32 → Int32
  | 0, _, b => b
  | m + 1, p, b => gb w m (p + 1) (cond (w p) (Int32.ofNat p) b)
theorem gb_no (w : Nat → Bool) : ∀ m p b, (∀ p', p ≤ p' → p' < p + m → w p' = false) → gb w m p b = b
  | 0, _, _, _ => rfl
  | m + 1, p, b, h => by
    show gb w m (p + 1) (cond (w p) (Int32.ofNat p) b) = b
    rw [h p (Nat.le_refl _) (by omega)]
    exact gb_no w m (p + 1) b (fun p' h1 h2 => h p' (by omega) (by omega))
theorem gb_at (w : Nat → Bool) : ∀ m p b P, p ≤ P → P < p + m → w P = true → (∀ p', P < p' → p' < p + m → w p' = false) → gb w m p b = Int32.ofNat P
  | 0, p, _, P, h1, h2, _, _ => by omega
  | m + 1, p, b, P, h1, h2, h3, h4 => by
    show gb w m (p + 1) (cond (w p) (Int32.ofNat p) b) = Int32.ofNat P
    by_cases e : P = p
    · subst e
      rw [h3]
      exact gb_no w m (P + 1) _ (fun p' a b' => h4 p' (by omega) (by omega))
    · exact gb_at w m (p + 1) _ P (by omega) (by omega) h3 (fun p' a b' => h4 p' a (by omega))
/-- what the class's search comes to -/
def gwr (S : Nat → Int32) (own : Int32) (j0 N : Nat) (r : Int32) : Prop := (r = -2 ∧ ∃ i, i < N ∧ i ≠ j0 ∧ own < S i) ∨ (∃ e, r = Int32.ofNat (cnt j0 e) ∧ e < N ∧ e ≠ j0 ∧ S e = own ∧ (∀ i, i < e → i ≠ j0 → S i < own) ∧ ∀ i, i < N → i ≠ j0 → S i ≤ own) ∨ (r = Int32.ofNat (cnt j0 N) ∧ ∀ i, i < N → i ≠ j0 → S i < own)
theorem gwr_gb {S : Nat → Int32} {own : Int32} {j0 N : Nat} {r : Int32} (hj : j0 < N) (h : gwr S own j0 N r) : r = gb (fun p => wb S own j0 p N 0) N 0 (-2) := by
  have ng : ∀ {a b : Int32}, a < b → ¬ b ≤ a := fun h => Int32.not_le.mpr h
  rcases h with ⟨rfl, i, h1, h2, h3⟩ | ⟨e, rfl, h1, h2, h3, h4, h5⟩ | ⟨rfl, h1⟩
  · refine (gb_no _ N 0 _ (fun p' _ _ => ?_)).symm
    refine Bool.eq_false_iff.mpr (fun w => ?_)
    exact ng h3 (((wb_iff S own j0 p' N 0).mp w) i (by omega) (by omega) h2).2
  · have ce : cnt j0 e < N := by unfold cnt; split <;> omega
    refine (gb_at _ N 0 _ (cnt j0 e) (by omega) (by omega) ?_ (fun p' a b => ?_)).symm
    · refine (wb_iff S own j0 _ N 0).mpr (fun i _ b d => ⟨fun z => ?_, h5 i (by omega) d⟩)
      refine h4 i ?_ d
      unfold cnt at z
      split at z <;> split at z <;> omega
    · refine Bool.eq_false_iff.mpr (fun w => ?_)
      have := (((wb_iff S own j0 p' N 0).mp w) e (by omega) (by omega) h2).1 a
      rw [h3] at this
      exact absurd this Int32.lt_irrefl
  · have ce : cnt j0 N < N := by unfold cnt; split <;> omega
    refine (gb_at _ N 0 _ (cnt j0 N) (by omega) (by omega) ?_ (fun p' a b => ?_)).symm
    · exact (wb_iff S own j0 _ N 0).mpr (fun i _ b d => ⟨fun _ => h1 i (by omega) d, Int32.le_of_lt (h1 i (by omega) d)⟩)
    · unfold cnt at a
      split at a <;> omega
theorem gw_h {N : Nat} {W S : Nat → Int32} {q : mm_Q} (h : cg N W S q) (h6 : N ≤ 6) {j0 : Nat} (hj : j0 < N) {f : Nat} : ∀ (m i : Nat) (a4 a5 : Int32), a5.toInt = i → i + m = N → ((a4 = -1 ∧ ∀ i', i' < i → i' ≠ j0 → S i' < S j0) ∨ ∃ e, a4 = Int32.ofNat (cnt j0 e) ∧ e < i ∧ e ≠ j0 ∧ S e = S j0 ∧ (∀ i', i' < e → i' ≠ j0 → S i' < S j0) ∧ ∀ i', i' < i → i' ≠ j0 → S i' ≤ S j0) → ∃ r, x2_greatestWinningPlace_h21 (f + m + 1) (Int32.ofNat j0) (Int32.ofNat (cnt j0 i)) a4 a5 q = some (r, q) ∧ gwr S (S j0) j0 N r := by
  have ej0 : (Int32.ofNat j0).toInt = ((j0 : Nat) : Int) := mm_ofNat_ti (by omega)
  intro m
  induction m with
  | zero =>
    intro i a4 a5 h1 h2 h3
    have e : i = N := by omega
    rw [x2_greatestWinningPlace_h21, if_pos (by rw [le32, h.1]; omega)]
    rcases h3 with ⟨rfl, h4⟩ | ⟨e', rfl, a, b, d, g, k⟩
    · rw [if_neg (by decide)]
      exact ⟨_, rfl, Or.inr (Or.inr ⟨by rw [e], fun i' hi' => h4 i' (by omega)⟩)⟩
    · have ce : cnt j0 e' < 1000 := by unfold cnt; split <;> omega
      rw [if_pos (by rw [le32, ti0, mm_ofNat_ti (by omega)]; omega)]
      exact ⟨_, rfl, Or.inr (Or.inl ⟨e', rfl, by omega, b, d, g, fun i' hi' => k i' (by omega)⟩)⟩
  | succ m ih =>
    intro i a4 a5 h1 h2 h3
    rw [show f + (m + 1) + 1 = (f + m + 1) + 1 by omega, x2_greatestWinningPlace_h21, if_neg (by rw [le32, h.1]; omega)]
    by_cases c : i = j0
    · rw [if_pos (by rw [eq32, h1, ej0]; omega)]
      unfold x2_greatestWinningPlace_j78
      rw [show cnt j0 i = cnt j0 (i + 1) by unfold cnt; split <;> split <;> omega]
      refine ih (i + 1) a4 (a5 + 1) (mm_inc1 h1 (by omega)) (by omega) ?_
      rcases h3 with ⟨rfl, h4⟩ | ⟨e', rfl, a, b, d, g, k⟩
      · exact Or.inl ⟨rfl, fun i' hi' d => h4 i' (by omega) d⟩
      · exact Or.inr ⟨e', rfl, by omega, b, d, g, fun i' hi' d => k i' (by omega) d⟩
    · rw [if_neg (by rw [eq32, h1, ej0]; omega), scoreAt_in h h6 h1 (by omega), mm_cl_s, scoreAt_in h h6 ej0 hj, mm_cl_s]
      by_cases z : S i ≤ S j0
      · rw [if_pos z, scoreAt_in h h6 h1 (by omega), mm_cl_s, scoreAt_in h h6 ej0 hj, mm_cl_s]
        unfold x2_greatestWinningPlace_j75 x2_greatestWinningPlace_j78
        rw [ofn_s (by unfold cnt; split <;> omega), show cnt j0 i + 1 = cnt j0 (i + 1) by unfold cnt; split <;> split <;> omega]
        by_cases w : S i = S j0
        · rw [if_pos w]
          rcases h3 with ⟨rfl, h4⟩ | ⟨e', rfl, a, b, d, g, k⟩
          · rw [if_neg (by decide)]
            refine ih (i + 1) _ (a5 + 1) (mm_inc1 h1 (by omega)) (by omega) (Or.inr ⟨i, rfl, by omega, c, w, h4, fun i' hi' d => ?_⟩)
            by_cases ei : i' = i
            · rw [ei]; exact z
            · exact Int32.le_of_lt (h4 i' (by omega) d)
          · have ce : cnt j0 e' < 1000 := by unfold cnt; split <;> omega
            rw [if_pos (by rw [le32, ti0, mm_ofNat_ti (by omega)]; omega)]
            refine ih (i + 1) _ (a5 + 1) (mm_inc1 h1 (by omega)) (by omega) (Or.inr ⟨e', rfl, by omega, b, d, g, fun i' hi' d => ?_⟩)
            by_cases ei : i' = i
            · rw [ei]; exact z
            · exact k i' (by omega) d
        · rw [if_neg w]
          have lt : S i < S j0 := by
            rw [lt32]
            rw [le32] at z
            rw [eq32] at w
            omega
          refine ih (i + 1) _ (a5 + 1) (mm_inc1 h1 (by omega)) (by omega) ?_
          rcases h3 with ⟨rfl, h4⟩ | ⟨e', rfl, a, b, d, g, k⟩
          · refine Or.inl ⟨rfl, fun i' hi' d => ?_⟩
            by_cases ei : i' = i
            · rw [ei]; exact lt
            · exact h4 i' (by omega) d
          · refine Or.inr ⟨e', rfl, by omega, b, d, g, fun i' hi' d => ?_⟩
            by_cases ei : i' = i
            · rw [ei]; exact z
            · exact k i' (by omega) d
      · rw [if_neg z]
        exact ⟨_, rfl, Or.inl ⟨rfl, i, by omega, c, Int32.not_le.mp z⟩⟩
section PLC
variable {F : mm_F} {c : Nat → Int32} {sp : Int32} {n N : Nat} {rl : Int32} {W : Nat → Int32}
theorem rg_fq {q q' : mm_Q} (h : rg N W q) (f : fq q q') : rg N W q' := ⟨by rw [f.2 26 (by decide)]; exact h.1, fun j hj => by rw [f.1.2 64 (by decide)]; exact h.2 j hj⟩
theorem place97_h (hb : bd sp c) (hs6 : sp.toInt ≤ 6) (hg : gat F c sp n rl N W) {nr : Int32} (h10 : (nr / 10).toInt = n) (hrl : rl = mm_rem nr 10) {j0 : Nat} (hj : j0 < N) (rr : Int32 → Int32 → Int32 → Int32 → Int32 → mm_Q → Option (Int32 × mm_Q)) (own a6 : Int32) {a7 : Int32} {p : Nat} (hp : a7.toInt = p) {f : Nat} : ∀ (m i : Nat) (b : Bool) (a9 a10 : Int32) (q : mm_Q), a10.toInt = i → i + m = N → a9.toInt = ((cnt j0 i : Nat) : Int) → rx F c sp 0 q → rg N W q → ∃ q', x12_place_h97 rr (f + m + 1) nr (Int32.ofNat j0) own a6 a7 (mm_b b) a9 a10 q = rr nr (Int32.ofNat j0) own (cond (b && wb (SN F c n rl 0 W) own j0 p m i) a7 a6) (a7 + 1) q' ∧ fq q q' ∧ rx F c sp 0 q' := by
  obtain ⟨hn, hN, hr, hW, -⟩ := id hg
  have ej0 : (Int32.ofNat j0).toInt = ((j0 : Nat) : Int) := mm_ofNat_ti (by omega)
  intro m
  induction m with
  | zero =>
    intro i b a9 a10 q h1 h2 h9 hx hr1
    refine ⟨q, ?_, fq_rfl _, hx⟩
    rw [x12_place_h97, if_pos (by rw [le32, hr1.1]; omega)]
    unfold x12_place_j187
    rw [show wb (SN F c n rl 0 W) own j0 p 0 i = true from rfl, Bool.and_true]
    cases b
    · rw [if_pos (by decide)]
      rfl
    · rw [if_neg (by decide)]
      rfl
  | succ m ih =>
    intro i b a9 a10 q h1 h2 h9 hx hr1
    rw [show f + (m + 1) + 1 = (f + m + 1) + 1 by omega, x12_place_h97, if_neg (by rw [le32, hr1.1]; omega)]
    unfold x12_place_j169
    have ew : wb (SN F c n rl 0 W) own j0 p (m + 1) i = ((if i = j0 then true else if cnt j0 i < p then decide (SN F c n rl 0 W i < own) else decide (SN F c n rl 0 W i ≤ own)) && wb (SN F c n rl 0 W) own j0 p m (i + 1)) := rfl
    rw [ew]
    by_cases e : i = j0
    · rw [if_pos (by rw [eq32, h1, ej0]; omega), if_pos e, Bool.true_and]
      exact ih (i + 1) b a9 (a10 + 1) q (mm_inc1 h1 (by omega)) (by omega) (by rw [h9, show cnt j0 i = cnt j0 (i + 1) by unfold cnt; split <;> split <;> omega]) hx hr1
    · rw [if_neg (by rw [eq32, h1, ej0]; omega), if_neg e, mm_ck_t (mm_inb_c h1 (by omega)), mm_tcn h1, hr1.2 i (by omega)]
      have wj := hW i (by omega)
      obtain ⟨q1, y1, y2, y3⟩ := score12_eq (rl := rl) hb (nat_of wj.1) (by omega) hn h10 hrl hr hx
      have hr2 := rg_fq hr1 y2
      rw [y1, mm_cl_s]
      have cc : cnt j0 (i + 1) = cnt j0 i + 1 := by unfold cnt; split <;> split <;> omega
      have c9 : cnt j0 i < 1000 := by unfold cnt; split <;> omega
      have go : ∀ x : Bool, ∃ q', x12_place_j163 rr (x12_place_h97 rr (f + m + 1)) nr (Int32.ofNat j0) own a6 a7 a9 a10 (mm_b b) (mm_b x) q1 = rr nr (Int32.ofNat j0) own (cond (b && (x && wb (SN F c n rl 0 W) own j0 p m (i + 1))) a7 a6) (a7 + 1) q' ∧ fq q q' ∧ rx F c sp 0 q' := by
        intro x
        unfold x12_place_j163 x12_place_j169
        rw [mm_b_and]
        obtain ⟨q2, z1, z2, z3⟩ := ih (i + 1) (b && x) (a9 + 1) (a10 + 1) q1 (mm_inc1 h1 (by omega)) (by omega) (by rw [mm_inc1 h9 (by omega), cc]) y3 hr2
        refine ⟨q2, ?_, fq_trans y2 z2, z3⟩
        rw [z1, Bool.and_assoc]
      by_cases z : cnt j0 i < p
      · rw [if_neg (by rw [le32]; omega), if_pos z]
        by_cases w : SN F c n rl 0 W i < own
        · rw [if_neg (Int32.not_le.mpr w), decide_eq_true w]
          exact go true
        · rw [if_pos (Int32.not_lt.mp w), decide_eq_false w]
          exact go false
      · rw [if_pos (by rw [le32]; omega), if_neg z]
        by_cases w : SN F c n rl 0 W i ≤ own
        · rw [if_neg (Int32.not_lt.mpr w), decide_eq_true w]
          exact go true
        · rw [if_pos (Int32.not_le.mp w), decide_eq_false w]
          exact go false
theorem place79_h (hb : bd sp c) (hs6 : sp.toInt ≤ 6) (hg : gat F c sp n rl N W) {nr : Int32} (h10 : (nr / 10).toInt = n) (hrl : rl = mm_rem nr 10) {j0 : Nat} (hj : j0 < N) (own : Int32) {f : Nat} : ∀ (m p : Nat) (a6 a7 : Int32) (q : mm_Q), a7.toInt = p → p + m = N → rx F c sp 0 q → rg N W q → ∃ q', x12_place_h79 (f + m + 1) nr (Int32.ofNat j0) own a6 a7 q = some (gb (fun p => wb (SN F c n rl 0 W) own j0 p N 0) m p a6, q') ∧ fq q q' ∧ rx F c sp 0 q' := by
  have h6 := hg.2.1
  intro m
  induction m with
  | zero =>
    intro p a6 a7 q h1 h2 hx hr1
    refine ⟨q, ?_, fq_rfl _, hx⟩
    rw [x12_place_h79, if_pos (by rw [le32, hr1.1]; omega)]
    rfl
  | succ m ih =>
    intro p a6 a7 q h1 h2 hx hr1
    rw [show f + (m + 1) + 1 = (f + m + 1) + 1 by omega, x12_place_h79, if_neg (by rw [le32, hr1.1]; omega)]
    obtain ⟨q1, y1, y2, y3⟩ := place97_h hb hs6 hg h10 hrl hj (x12_place_h79 (f + m + 1)) own a6 h1 (f := 999 - N) N 0 true 0 0 q ti0 (by omega) (by unfold cnt; rw [if_pos (by omega)]; exact ti0) hx hr1
    rw [show 999 - N + N + 1 = mm_fu by show _ = 1000; omega, show mm_b true = 1 from rfl, Bool.true_and] at y1
    obtain ⟨q2, z1, z2, z3⟩ := ih (p + 1) (cond (wb (SN F c n rl 0 W) own j0 p N 0) a7 a6) (a7 + 1) q1 (mm_inc1 h1 (by omega)) (by omega) y3 (rg_fq hr1 y2)
    refine ⟨q2, ?_, fq_trans y2 z2, z3⟩
    rw [y1, z1, mm_ofn h1]
    rfl
end PLC
theorem pr_place (v0 v1 v2 : Int32) : mm_pr (mm_Iv mm_LX) (x11_place v0 v1 v2) (x12_place v0 v1 v2) := by
  intro q h
  obtain ⟨F, hw, hb, ⟨hs0, hs6⟩, e6, hx, hd⟩ := mm_think h
  by_cases g : (0 ≤ v2.toInt ∧ v2.toInt < (q.1 8 1).toInt) ∧ (10 ≤ v1.toInt ∧ v1.toInt / 10 ≤ 9 ∧ v1.toInt % 10 ≤ 1)
  · obtain ⟨g1, g2⟩ := g
    have hX : x11_place v0 v1 v2 q = mm_cl (x11_matchRefusal v0 v1 q) (fun r4 q5 => x11_place_j21 v2 r4 q5) := by
      unfold x11_place
      rw [isSpitter4_eq, mm_cl_s, if_neg (by rw [mm_p0]; exact fun w => w g1)]
    rcases match_ref h hw hb hs0 hs6 hx v0 v1 g2 with ⟨R, hR, y1, y2⟩ | ⟨n, N, W, q1, hn, hg, y1, y2, y3, y4, y5⟩
    · refine ⟨R, q, q, ?_, rfl, ?_, h⟩
      · rw [hX, y1, mm_cl_s]
        unfold x11_place_j21
        rw [if_neg (by rcases hR with rfl | rfl | rfl <;> decide)]
      · unfold x12_place
        rw [y2 q (fk_rfl q), mm_cl_s, nr12_eq, mm_cl_s, if_neg (show ¬ mm_p _ = 0 by rw [mm_p0]; exact fun w => w g2), isSpitter12_eq (by rw [e6]; exact hs0), mm_cl_s, mm_i64, e6, if_neg (show ¬ mm_p _ = 0 by rw [mm_p0]; exact fun w => w g1), y2 q (fk_rfl q), mm_cl_s, y2 q (fk_rfl q), mm_cl_s]
        rcases hR with rfl | rfl | rfl
        · rw [if_pos rfl]
        · rw [if_neg (by decide), if_neg (by decide)]
        · rw [if_neg (by decide), if_neg (by decide)]
    · have k1 : fk q q1 := fk_fr y2 (by decide)
      obtain ⟨u1, q2, u2, u3, u4, u5⟩ := y5 q1 k1
      have hN6 : N ≤ 6 := hg.2.1
      have f52 : q1.1 52 6 = q.1 8 1 := by rw [k1.1 52 (by decide)]; exact e6
      have hM : x12_place v0 v1 v2 q1 = if 0 ≤ fi W v2 N 0 then mm_cl (x12_scoreOf v2 v1 q2) (fun r18 q19 => x12_place_h79 mm_fu v1 (fi W v2 N 0) r18 (-2) 0 q19) else some (-2, q2) := by
        unfold x12_place
        rw [u1, mm_cl_s, if_neg (by decide), nr12_eq, mm_cl_s, if_neg (show ¬ mm_p _ = 0 by rw [mm_p0]; exact fun w => w g2), isSpitter12_eq (by rw [f52]; exact hs0), mm_cl_s, mm_i64, f52, if_neg (show ¬ mm_p _ = 0 by rw [mm_p0]; exact fun w => w g1), u1, mm_cl_s, if_pos (by decide), u2, mm_cl_s, place12_eq hN6 u5.1 u5.2, mm_cl_s]
      have hX2 : x11_place v0 v1 v2 q = if 0 ≤ fi W v2 N 0 then x2_greatestWinningPlace_h21 mm_fu (fi W v2 N 0) 0 (-1) 0 q1 else some (-2, q1) := by
        rw [hX, y1, mm_cl_s]
        unfold x11_place_j21 x2_greatestWinningPlace
        rw [if_pos rfl, mm_cl_ret, place11_eq hN6 y4.1 (fun j hj => (y4.2 j hj).1), mm_cl_s]
      by_cases c : ∃ i, 0 ≤ i ∧ i < 0 + N ∧ W i = v2
      · obtain ⟨j0, -, h2, h3, h4⟩ := fi_pos W v2 N 0 (by omega) c
        have ej0 : (Int32.ofNat j0).toInt = ((j0 : Nat) : Int) := mm_ofNat_ti (by omega)
        rw [h4, if_pos (by rw [le32, ti0]; omega)] at hX2 hM
        obtain ⟨r, w1, w2⟩ := gw_h y4 hN6 (show j0 < N by omega) (f := 999 - N) N 0 (-1) 0 ti0 (by omega) (Or.inl ⟨rfl, fun i' hi' => absurd hi' (Nat.not_lt_zero i')⟩)
        rw [show 999 - N + N + 1 = mm_fu by show _ = 1000; omega, show cnt j0 0 = 0 by unfold cnt; rw [if_pos (by omega)]] at w1
        obtain ⟨q3, z1, z2, z3⟩ := score12_eq (rl := mm_rem v1 10) hb (nat_of g1.1) (by omega) hg.1 hn rfl hg.2.2.1 u4
        obtain ⟨q4, x1, x2, x3⟩ := place79_h hb hs6 hg hn rfl (show j0 < N by omega) (SC F (q.1 9) n (mm_rem v1 10) 0 v2.toInt.toNat) (f := 999 - N) N 0 (-2) 0 q3 ti0 (by omega) z3 (rg_fq u5 z2)
        rw [show 999 - N + N + 1 = mm_fu by show _ = 1000; omega] at x1
        have eo : SN F (q.1 9) n (mm_rem v1 10) 0 W j0 = SC F (q.1 9) n (mm_rem v1 10) 0 v2.toInt.toNat := by
          show SC F (q.1 9) n (mm_rem v1 10) 0 (W j0).toInt.toNat = _
          rw [h3]
        have er := gwr_gb (show j0 < N by omega) w2
        rw [eo] at er
        refine ⟨r, q1, q4, by rw [hX2]; exact w1, by rw [k1.1 0 (by decide)], ?_, hd q1 q4 k1 (fz_trans (fz_trans u3 (fz_fq z2)) (fz_fq x2)) x3⟩
        rw [hM, z1, mm_cl_s, x1, er]
      · rw [fi_neg W v2 N 0 (by omega) (fun i a b e => c ⟨i, a, b, e⟩), if_neg (by decide)] at hX2 hM
        exact ⟨-2, q1, q2, hX2, by rw [k1.1 0 (by decide)], hM, hd q1 q2 k1 u3 u4⟩
  · refine ⟨-1, q, q, ?_, rfl, ?_, h⟩
    · unfold x11_place x11_place_j21
      rw [isSpitter4_eq, mm_cl_s]
      by_cases c : 0 ≤ v2.toInt ∧ v2.toInt < (q.1 8 1).toInt
      · rw [if_neg (by rw [mm_p0]; exact fun w => w c), match_bad h v0 v1 (fun w => g ⟨c, w⟩), mm_cl_s, if_neg (by decide)]
      · rw [if_pos (by rw [mm_p0]; exact c), if_neg (by decide)]
    · obtain ⟨R, eR⟩ := row_any h v0
      unfold x12_place
      rw [eR, mm_cl_s, nr12_eq, mm_cl_s, isSpitter12_eq (by rw [e6]; exact hs0), mm_cl_s, mm_i64, e6]
      by_cases c : R = -1
      · rw [if_pos c]
      · rw [if_neg c]
        by_cases c2 : 10 ≤ v1.toInt ∧ v1.toInt / 10 ≤ 9 ∧ v1.toInt % 10 ≤ 1
        · rw [if_neg (show ¬ mm_p _ = 0 by rw [mm_p0]; exact fun w => w c2), if_pos (show mm_p _ = 0 by rw [mm_p0]; exact fun w => g ⟨w, c2⟩)]
        · rw [if_pos (show mm_p _ = 0 by rw [mm_p0]; exact c2)]
