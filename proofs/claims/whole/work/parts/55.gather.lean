/-! the spitters of a match -/
abbrev okm (M : Nat → Int64) (sp : Int32) (i : Nat) : Prop := 0 ≤ (M i).toInt ∧ (M i).toInt < sp.toInt ∧ ∀ j, j < i → (M j).toInt32 ≠ (M i).toInt32
/-- how many there are, from i on -/
def tn (M : Nat → Int64) (len : Nat) (sp : Int32) : Nat → Nat → Nat
  | 0, i => i
  | m + 1, i => if i < len ∧ okm M sp i then tn M len sp m (i + 1) else i
theorem tn_le (M : Nat → Int64) (len : Nat) (sp : Int32) : ∀ m i, i ≤ tn M len sp m i ∧ tn M len sp m i ≤ i + m
  | 0, i => ⟨Nat.le_refl _, Nat.le_refl _⟩
  | m + 1, i => by
    have ih := tn_le M len sp m (i + 1)
    show i ≤ (if i < len ∧ okm M sp i then tn M len sp m (i + 1) else i) ∧ (if i < len ∧ okm M sp i then tn M len sp m (i + 1) else i) ≤ i + (m + 1)
    by_cases c : i < len ∧ okm M sp i
    · rw [if_pos c]; omega
    · rw [if_neg c]; omega
theorem tn_ok (M : Nat → Int64) (len : Nat) (sp : Int32) : ∀ m i, (∀ j, j < i → okm M sp j) → ∀ j, j < tn M len sp m i → okm M sp j
  | 0, _, h => h
  | m + 1, i, h => by
    show ∀ j, j < (if i < len ∧ okm M sp i then tn M len sp m (i + 1) else i) → okm M sp j
    by_cases c : i < len ∧ okm M sp i
    · rw [if_pos c]
      refine tn_ok M len sp m (i + 1) (fun j hj => ?_)
      by_cases e : j = i
      · rw [e]; exact c.2
      · exact h j (by omega)
    · rw [if_neg c]
      exact h
/-- the first place of v; -1: none -/
def fi (W : Nat → Int32) (v : Int32) : Nat → Nat → Int32
  | 0, _ => -1
  | m + 1, j => if W j = v then Int32.ofNat j else fi W v m (j + 1)
theorem fi_neg (W : Nat → Int32) (v : Int32) : ∀ m j, j + m < 1000 → (∀ i, j ≤ i → i < j + m → W i ≠ v) → fi W v m j = -1
  | 0, _, _, _ => rfl
  | m + 1, j, h, hh => by
    show (if W j = v then Int32.ofNat j else fi W v m (j + 1)) = -1
    rw [if_neg (hh j (Nat.le_refl _) (by omega))]
    exact fi_neg W v m (j + 1) (by omega) (fun i h1 h2 => hh i (by omega) (by omega))
theorem fi_pos (W : Nat → Int32) (v : Int32) : ∀ m j, j + m < 1000 → (∃ i, j ≤ i ∧ i < j + m ∧ W i = v) → ∃ i, j ≤ i ∧ i < j + m ∧ W i = v ∧ fi W v m j = Int32.ofNat i
  | 0, j, _, ⟨i, h1, h2, _⟩ => by omega
  | m + 1, j, h, hh => by
    by_cases e : W j = v
    · exact ⟨j, Nat.le_refl _, by omega, e, if_pos e⟩
    · obtain ⟨i, h1, h2, h3⟩ := hh
      have hi : i ≠ j := fun z => e (z ▸ h3)
      obtain ⟨i', a, b, c, d⟩ := fi_pos W v m (j + 1) (by omega) ⟨i, by omega, by omega, h3⟩
      exact ⟨i', by omega, by omega, c, (if_neg e).trans d⟩
theorem place11_h {v : Int32} {n : Nat} {W : Nat → Int32} (h6 : n ≤ 6) {q : mm_Q} (hn : (q.1 39 6).toInt = n) (hW : ∀ j, j < n → q.1 40 j = W j) {f : Nat} : ∀ (m j : Nat) (a2 : Int32), a2.toInt = j → j + m = n → x2_placeOf_h2 (f + m + 1) v a2 q = some (fi W v m j, q) := by
  intro m
  induction m with
  | zero =>
    intro j a2 h1 h2
    rw [x2_placeOf_h2, if_pos (by rw [le32]; omega)]
    rfl
  | succ m ih =>
    intro j a2 h1 h2
    rw [show f + (m + 1) + 1 = (f + m + 1) + 1 by omega, x2_placeOf_h2, if_neg (by rw [le32]; omega), if_neg (by rw [le32, ti6]; omega), mm_ck_t (mm_inb_c h1 (by omega)), mm_tcn h1, hW j (by omega), ih (j + 1) (a2 + 1) (mm_inc1 h1 (by omega)) (by omega), ← mm_some_ite, mm_ofn h1]
    rfl
theorem place11_eq {v : Int32} {n : Nat} {W : Nat → Int32} (h6 : n ≤ 6) {q : mm_Q} (hn : (q.1 39 6).toInt = n) (hW : ∀ j, j < n → q.1 40 j = W j) : x2_placeOf v q = some (fi W v n 0, q) := by
  have := place11_h (v := v) h6 hn hW (f := 999 - n) n 0 0 ti0 (by omega)
  rw [show 999 - n + n + 1 = mm_fu by show _ = 1000; omega] at this
  exact this
theorem place12_h {v : Int32} {n : Nat} {W : Nat → Int32} (h6 : n ≤ 6) {q : mm_Q} (hn : (q.1 52 26).toInt = n) (hW : ∀ j, j < n → q.1 64 j = W j) {f : Nat} : ∀ (m j : Nat) (a2 : Int32), a2.toInt = j → j + m = n → x12_placeIn_h2 (f + m + 1) v a2 q = some (fi W v m j, q) := by
  intro m
  induction m with
  | zero =>
    intro j a2 h1 h2
    rw [x12_placeIn_h2, if_pos (by rw [le32]; omega)]
    rfl
  | succ m ih =>
    intro j a2 h1 h2
    rw [show f + (m + 1) + 1 = (f + m + 1) + 1 by omega, x12_placeIn_h2, if_neg (by rw [le32]; omega), mm_ck_t (mm_inb_c h1 (by omega)), mm_tcn h1, hW j (by omega), ih (j + 1) (a2 + 1) (mm_inc1 h1 (by omega)) (by omega), ← mm_some_ite, mm_ofn h1]
    rfl
theorem place12_eq {v : Int32} {n : Nat} {W : Nat → Int32} (h6 : n ≤ 6) {q : mm_Q} (hn : (q.1 52 26).toInt = n) (hW : ∀ j, j < n → q.1 64 j = W j) : x12_placeIn v q = some (fi W v n 0, q) := by
  have := place12_h (v := v) h6 hn hW (f := 999 - n) n 0 0 ti0 (by omega)
  rw [show 999 - n + n + 1 = mm_fu by show _ = 1000; omega] at this
  exact this
/-- the class's gathered row -/
def cg (N : Nat) (W S : Nat → Int32) (q : mm_Q) : Prop := (q.1 39 6).toInt = N ∧ ∀ j, j < N → q.1 40 j = W j ∧ q.1 41 j = S j
theorem okm_t {M : Nat → Int64} {sp : Int32} {i : Nat} (h : okm M sp i) (h6 : sp.toInt ≤ 6) : ((M i).toInt32).toInt = (M i).toInt := t32_ti (by omega) (by omega)
section GA
variable {F : mm_F} {c : Nat → Int32} {sp : Int32} {n : Nat} {rl : Int32} {M : Nat → Int64} {len k : Nat}
/-- what a score is, by the number told -/
abbrev SW (F : mm_F) (c : Nat → Int32) (n : Nat) (rl lg : Int32) (M : Nat → Int64) (j : Nat) : Int32 := SC F c n rl lg (M j).toInt.toNat
theorem gather_h (hb : bd sp c) (hs6 : sp.toInt ≤ 6) (hn : n ≤ 9) (hk : k < 6) (hlen : len ≤ 60) {f : Nat} : ∀ (m i : Nat) (a4 : Int32) (q : mm_Q), a4.toInt = i → i + m = 6 → cw F c sp q → cm n rl q → (q.1 (16 + 2 * k) 4).toInt = len → (∀ j, j < len → q.2 (17 + 2 * k) j = M j) → (∀ j, j < i → okm M sp j) → cg i (fun j => (M j).toInt32) (SW F c n rl 0 M) q → ∃ q', x2_gather_h18 (f + m + 1) (16 + 2 * k) a4 q = some ((), q') ∧ fr [12, 13, 14, 39, 40, 41] q q' ∧ cm n rl q' ∧ cg (tn M len sp m i) (fun j => (M j).toInt32) (SW F c n rl 0 M) q' := by
  have n16 : (16 + 2 * k) ∉ [12, 13, 14, 39, 40, 41] := by
    rcases (show k = 0 ∨ k = 1 ∨ k = 2 ∨ k = 3 ∨ k = 4 ∨ k = 5 by omega) with rfl | rfl | rfl | rfl | rfl | rfl <;> decide
  intro m
  induction m with
  | zero =>
    intro i a4 q h1 h2 hx hm h4 hM hok hg
    refine ⟨q, ?_, fr_rfl _ _, hm, hg⟩
    rw [x2_gather_h18]
    unfold x8_length
    rw [mm_cl_s]
    by_cases e : q.1 (16 + 2 * k) 4 ≤ a4
    · rw [if_pos e]
    · rw [if_neg e, if_pos (by rw [le32, ti6]; omega)]
  | succ m ih =>
    intro i a4 q h1 h2 hx hm h4 hM hok hg
    show ∃ q', _ ∧ _ ∧ _ ∧ cg (if i < len ∧ okm M sp i then tn M len sp m (i + 1) else i) _ _ q'
    rw [show f + (m + 1) + 1 = (f + m + 1) + 1 by omega, x2_gather_h18]
    unfold x8_length x4_size
    rw [mm_cl_s]
    by_cases e : i < len
    · have el : x8_elementAt (16 + 2 * k) a4 q = some (M i, q) := by
        rw [elementAt_eq (n := i) (by omega) h1 (by omega), show 16 + 2 * k + 1 = 17 + 2 * k by omega, hM i e]
      rw [if_neg (by rw [le32]; omega), if_neg (by rw [le32, ti6]; omega), el, mm_cl_s]
      by_cases c1 : 0 ≤ (M i).toInt
      · rw [if_neg (by rw [mm_cmp_lt, lt64, tl0]; omega), mm_cl_s]
        by_cases c2 : (M i).toInt < sp.toInt
        · rw [if_neg (by rw [mm_cmp_ge, le64, mm_i64, hx.2.1]; omega), place11_eq (n := i) (by omega) hg.1 (fun j hj => (hg.2 j hj).1), mm_cl_s]
          by_cases c3 : ∀ j, j < i → (M j).toInt32 ≠ (M i).toInt32
          · have ok : okm M sp i := ⟨c1, c2, c3⟩
            rw [fi_neg _ _ i 0 (by omega) (fun j _ hj => c3 j (by omega)), if_pos (by decide), if_pos ⟨e, ok⟩, mm_ck_t (mm_inb_c h1 (by omega)), mm_lt_s, mm_ck_t (mm_inb_c h1 (by omega)), mm_tcn h1]
            have hx2 : cw F c sp (mm_si q 40 i (M i).toInt32) := hx
            have hm2 : cm n rl (mm_si q 40 i (M i).toInt32) := hm
            have e32 : (M i).toInt32.toInt = (((M i).toInt.toNat : Nat) : Int) := by rw [okm_t ok hs6]; omega
            obtain ⟨q1, y1, y2⟩ := score11_eq (F := F) hb hs6 e32 (by omega) hn hx2 hm2 0
            rw [show (mm_si q 40 i (M i).toInt32).1 40 i = (M i).toInt32 by rw [mm_si_self, upd_self], y1, mm_cl_s, mm_ck_t (mm_inb_c h1 (by omega)), mm_lt_s, mm_lt_s]
            have f3 : fr [12, 13, 14, 39, 40, 41] q (mm_si (mm_si q1 41 i (SC F c n rl 0 (M i).toInt.toNat)) 39 6 (a4 + 1)) := fr_trans (fr_trans (fr_trans (fr_si q i _ (by decide)) (fr_mono y2 (by decide))) (fr_si _ _ _ (by decide))) (fr_si _ _ _ (by decide))
            have g39 : q1.1 39 = q.1 39 := by rw [y2.2 39 (by decide)]; rfl
            have hm3 : cm n rl (mm_si (mm_si q1 41 i (SC F c n rl 0 (M i).toInt.toNat)) 39 6 (a4 + 1)) := by
              refine ⟨?_, ?_⟩
              · rw [mm_si_self, upd_ne _ _ _ (by decide), mm_si_ne _ _ _ _ (by decide), g39]; exact hm.1
              · rw [mm_si_self, upd_ne _ _ _ (by decide), mm_si_ne _ _ _ _ (by decide), g39]; exact hm.2
            have hg3 : cg (i + 1) (fun j => (M j).toInt32) (SW F c n rl 0 M) (mm_si (mm_si q1 41 i (SC F c n rl 0 (M i).toInt.toNat)) 39 6 (a4 + 1)) := by
              refine ⟨by rw [mm_si_self, upd_self]; exact mm_inc1 h1 (by omega), fun j hj => ⟨?_, ?_⟩⟩
              · rw [mm_si_ne _ _ _ _ (by decide), mm_si_ne _ _ _ _ (by decide), y2.2 40 (by decide), mm_si_self]
                by_cases ej : j = i
                · rw [ej, upd_self]
                · rw [upd_ne _ _ _ ej]
                  exact (hg.2 j (by omega)).1
              · rw [mm_si_ne _ _ _ _ (by decide), mm_si_self]
                by_cases ej : j = i
                · rw [ej, upd_self]
                · rw [upd_ne _ _ _ ej, y2.2 41 (by decide)]
                  exact (hg.2 j (by omega)).2
            obtain ⟨q2, z1, z2, z3, z4⟩ := ih (i + 1) (a4 + 1) _ (mm_inc1 h1 (by omega)) (by omega) (cw_fr hx f3 (by decide) (by decide) (by decide) (by decide)) hm3 (by rw [f3.2 _ n16]; exact h4) (fun j hj => by rw [f3.1]; exact hM j hj) (fun j hj => by
              by_cases ej : j = i
              · rw [ej]; exact ok
              · exact hok j (by omega)) hg3
            exact ⟨q2, z1, fr_trans f3 z2, z3, z4⟩
          · have : ∃ j, 0 ≤ j ∧ j < 0 + i ∧ (M j).toInt32 = (M i).toInt32 := by
              refine Classical.byContradiction (fun w => c3 (fun j hj z => w ⟨j, by omega, by omega, z⟩))
            obtain ⟨j, -, hj, -, ej⟩ := fi_pos (fun j => (M j).toInt32) (M i).toInt32 i 0 (by omega) this
            rw [ej, if_neg (by rw [lt32, ti0, mm_ofNat_ti (by omega)]; omega), if_neg (fun w => c3 w.2.2.2)]
            exact ⟨q, rfl, fr_rfl _ _, hm, hg⟩
        · rw [if_pos (by rw [mm_cmp_ge, le64, mm_i64, hx.2.1]; omega), if_neg (fun w => c2 w.2.2.1)]
          exact ⟨q, rfl, fr_rfl _ _, hm, hg⟩
      · rw [if_pos (by rw [mm_cmp_lt, lt64, tl0]; omega), if_neg (fun w => c1 w.2.1)]
        exact ⟨q, rfl, fr_rfl _ _, hm, hg⟩
    · rw [if_pos (by rw [le32]; omega), if_neg (fun w => e w.1)]
      exact ⟨q, rfl, fr_rfl _ _, hm, hg⟩
/-- the reference's row -/
def rg (N : Nat) (W : Nat → Int32) (q : mm_Q) : Prop := (q.1 52 26).toInt = N ∧ ∀ j, j < N → q.1 64 j = W j
theorem bit6 : ∀ s, s < 64 → ∀ p, p < 6 → (((Int32.ofNat s >>> (Int32.ofNat p &&& 31)) &&& 1 = 1) ↔ s.testBit p = true) := by decide +kernel
theorem bit6_or : ∀ s, s < 64 → ∀ p, p < 6 → Int32.ofNat s ||| ((1 : Int32) <<< (Int32.ofNat p &&& 31)) = Int32.ofNat (s ||| 2 ^ p) ∧ s ||| 2 ^ p < 64 ∧ ∀ r, r < 6 → ((s ||| 2 ^ p).testBit r = true ↔ (s.testBit r = true ∨ r = p)) := by decide +kernel
theorem isIn_eq (a b : Int32) (q : mm_Q) : x12_isIn a b q = some (mm_p ((a >>> (b &&& 31)) &&& 1 = 1), q) := by
  unfold x12_isIn mm_p
  by_cases h : (a >>> (b &&& 31)) &&& 1 = 1
  · rw [if_pos h, if_pos h]
  · rw [if_neg h, if_neg h]
theorem row_stop {f : Nat} (d s : Int32) (q : mm_Q) : x12_takesRow_h9 (f + 1) d s 0 q = some ((), q) := by
  rw [x12_takesRow_h9, if_pos rfl]
theorem takes_h (hs0 : 0 ≤ sp.toInt) (hs6 : sp.toInt ≤ 6) {d : Int32} (hd : d.toInt = k) (hk : k < 6) (hlen : len ≤ 60) {f : Nat} : ∀ (m i s : Nat) (q : mm_Q), i + m = 6 → rx F c sp 0 q → (q.1 72 k).toInt = len → (∀ j, j < len → q.2 73 (60 * k + j) = M j) → (∀ j, j < i → okm M sp j) → s < 64 → (∀ r, r < 6 → (s.testBit r = true ↔ ∃ j, j < i ∧ (M j).toInt = r)) → rg i (fun j => (M j).toInt32) q → ∃ q', x12_takesRow_h9 (f + m + 2) d (Int32.ofNat s) 1 q = some ((), q') ∧ fz q q' ∧ rx F c sp 0 q' ∧ rg (tn M len sp m i) (fun j => (M j).toInt32) q' := by
  intro m
  induction m with
  | zero =>
    intro i s q h2 hx h4 hM hok hs hbit hg
    refine ⟨q, ?_, fz_rfl _, hx, hg⟩
    rw [show f + 0 + 2 = (f + 1) + 1 from rfl, x12_takesRow_h9, if_neg (by decide), if_pos (by rw [le32, ti6, hg.1]; omega)]
  | succ m ih =>
    intro i s q h2 hx h4 hM hok hs hbit hg
    show ∃ q', _ ∧ _ ∧ _ ∧ rg (if i < len ∧ okm M sp i then tn M len sp m (i + 1) else i) _ q'
    rw [show f + (m + 1) + 2 = (f + m + 2) + 1 by omega, x12_takesRow_h9, if_neg (by decide), if_neg (by rw [le32, ti6, hg.1]; omega), mm_ck_t (mm_inb_c hd hk), mm_tcn hd]
    by_cases e : i < len
    · have e60 : ((60 : Int32) * d + q.1 52 26).toInt = ((60 * k + i : Nat) : Int) := by
        have e0 : ((60 : Int32) * d).toInt = ((60 * k : Nat) : Int) := mm_lin0 (m := 60) hd ti60 (by omega)
        have := hg.1
        rw [mm_add_ti (by omega) (by omega)]
        omega
      have it : x12_itemAt d (q.1 52 26) q = some (M i, q) := by
        unfold x12_itemAt
        rw [mm_ck_t (mm_inb_c e60 (by omega)), mm_tcn e60, hM i e]
      have stop : ∀ s' : Int32, x12_takesRow_j69 (x12_takesRow_h9 (f + m + 2)) d s' (M i) q = some ((), q) := by
        intro s'
        unfold x12_takesRow_j69 x12_takesRow_j70 x12_takesRow_j105
        rw [if_pos rfl]
        exact row_stop (f := f + m + 1) d s' q
      rw [if_neg (by rw [le32, hg.1]; omega), it, mm_cl_s, isSpitter12_eq (by rw [hx.2.1]; exact hs0), mm_cl_s, hx.2.1]
      by_cases c12 : 0 ≤ (M i).toInt ∧ (M i).toInt < sp.toInt
      · rw [if_neg (by rw [mm_p0]; exact fun w => w c12), isIn_eq, mm_cl_s]
        have e32 : (M i).toInt32.toInt = (((M i).toInt.toNat : Nat) : Int) := by rw [t32_ti (by omega) (by omega)]; omega
        have hbi := bit6 s hs (M i).toInt.toNat (by omega)
        rw [← mm_ofn e32] at hbi
        by_cases c3 : ∃ j, j < i ∧ (M j).toInt = (((M i).toInt.toNat : Nat) : Int)
        · rw [if_neg (by rw [mm_p0]; exact fun w => w (hbi.mpr ((hbit _ (by omega)).mpr c3))), if_neg ?_, stop]
          · exact ⟨q, rfl, fz_rfl _, hx, hg⟩
          · intro w
            obtain ⟨j, hj, ej⟩ := c3
            refine w.2.2.2 j hj ?_
            rw [eq32, okm_t (hok j hj) hs6, e32, ej]
        · have ok : okm M sp i := by
            refine ⟨c12.1, c12.2, fun j hj w => c3 ⟨j, hj, ?_⟩⟩
            rw [← okm_t (hok j hj) hs6, w, e32]
          rw [if_pos (by rw [mm_p0]; exact fun w => c3 ((hbit _ (by omega)).mp (hbi.mp w))), if_pos ⟨e, ok⟩]
          unfold x12_takesRow_j70 x12_takesRow_j105
          have i26 : (q.1 52 26).toInt = i := hg.1
          rw [if_neg (by decide), mm_ck_t (mm_inb_c i26 (by omega)), mm_lt_s, mm_lt_s, mm_tcn i26]
          obtain ⟨b1, b2, b3⟩ := bit6_or s hs (M i).toInt.toNat (by omega)
          rw [← mm_ofn e32] at b1
          rw [b1]
          have fzz : fz q (mm_si (mm_si q 64 i (M i).toInt32) 52 26 ((mm_si q 64 i (M i).toInt32).1 52 26 + 1)) := by
            refine ⟨fun a ha => ?_, rfl, fun j hj => ?_⟩
            · rw [mm_si_ne _ _ _ _ (fun z => ha (by rw [z]; decide)), mm_si_ne _ _ _ _ (fun z => ha (by rw [z]; decide))]
            · rw [mm_si_self, upd_ne _ _ _ (fun z => hj (by rw [z]; decide)), mm_si_ne _ _ _ _ (by decide)]
          have hg3 : rg (i + 1) (fun j => (M j).toInt32) (mm_si (mm_si q 64 i (M i).toInt32) 52 26 ((mm_si q 64 i (M i).toInt32).1 52 26 + 1)) := by
            refine ⟨?_, fun j hj => ?_⟩
            · rw [mm_si_self, upd_self]
              exact mm_inc1 i26 (by omega)
            · rw [mm_si_ne _ _ _ _ (by decide), mm_si_self]
              by_cases ej : j = i
              · rw [ej, upd_self]
              · rw [upd_ne _ _ _ ej]
                exact hg.2 j (by omega)
          obtain ⟨q2, z1, z2, z3, z4⟩ := ih (i + 1) (s ||| 2 ^ (M i).toInt.toNat) _ (by omega) (show rx F c sp 0 (mm_si (mm_si q 64 i (M i).toInt32) 52 26 ((mm_si q 64 i (M i).toInt32).1 52 26 + 1)) from hx) h4 hM (fun j hj => by
            by_cases ej : j = i
            · rw [ej]; exact ok
            · exact hok j (by omega)) b2 (fun r hr => by
            rw [b3 r hr, hbit r hr]
            constructor
            · rintro (⟨j, hj, ej⟩ | ej)
              · exact ⟨j, by omega, ej⟩
              · exact ⟨i, by omega, by omega⟩
            · rintro ⟨j, hj, ej⟩
              by_cases w : j = i
              · rw [w] at ej
                exact Or.inr (by omega)
              · exact Or.inl ⟨j, by omega, ej⟩) hg3
          exact ⟨q2, z1, fz_trans fzz z2, z3, z4⟩
      · rw [if_pos (by rw [mm_p0]; exact c12), if_neg (fun w => c12 ⟨w.2.1, w.2.2.1⟩), stop]
        exact ⟨q, rfl, fz_rfl _, hx, hg⟩
    · rw [if_pos (by rw [le32, hg.1]; omega), if_neg (fun w => e w.1)]
      exact ⟨q, rfl, fz_rfl _, hx, hg⟩
end GA
