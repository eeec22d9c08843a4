/-! all sets of runs weighed -/
def bl (V : Nat → Int) : Nat → Nat → Int → Nat → Int × Nat
  | 0, _, mo, b => (mo, b)
  | m + 1, r, mo, b => if V r ≤ mo then bl V m (r + 1) mo b else bl V m (r + 1) (V r) r
theorem bl_same {V : Nat → Int} {x : Int} (h : ∀ r, V r = x) : ∀ m r b, bl V m r x b = (x, b)
  | 0, _, _ => rfl
  | m + 1, r, b => by
    show (if V r ≤ x then bl V m (r + 1) x b else bl V m (r + 1) (V r) r) = _
    rw [if_pos (by rw [h r]; omega)]
    exact bl_same h m (r + 1) b
theorem bl_rng {V : Nat → Int} {y : Int} (h : ∀ r, 0 ≤ V r ∧ V r ≤ y) : ∀ m r mo b, mo ≤ y → (bl V m r mo b).1 ≤ y ∧ (0 ≤ mo ∨ 0 < m → 0 ≤ (bl V m r mo b).1)
  | 0, _, mo, _, hm => ⟨hm, fun w => by
    show 0 ≤ mo
    omega⟩
  | m + 1, r, mo, b, hm => by
    have hr := h r
    show (if V r ≤ mo then bl V m (r + 1) mo b else bl V m (r + 1) (V r) r).1 ≤ y ∧ (_ → 0 ≤ (if V r ≤ mo then bl V m (r + 1) mo b else bl V m (r + 1) (V r) r).1)
    by_cases c : V r ≤ mo
    · rw [if_pos c]
      have := bl_rng h m (r + 1) mo b hm
      exact ⟨this.1, fun _ => this.2 (Or.inl (by omega))⟩
    · rw [if_neg c]
      have := bl_rng h m (r + 1) (V r) r hr.2
      exact ⟨this.1, fun _ => this.2 (Or.inl hr.1)⟩
theorem bl_lt {V : Nat → Int} : ∀ m r mo b k, b < k → r + m ≤ k → (bl V m r mo b).2 < k
  | 0, _, _, _, _, h, _ => h
  | m + 1, r, mo, b, k, h, h2 => by
    show (if V r ≤ mo then bl V m (r + 1) mo b else bl V m (r + 1) (V r) r).2 < k
    by_cases c : V r ≤ mo
    · rw [if_pos c]
      exact bl_lt m (r + 1) mo b k h (by omega)
    · rw [if_neg c]
      exact bl_lt m (r + 1) (V r) r k (by omega) (by omega)
theorem shl_n : ∀ n, n ≤ 9 → ((1 : Int32) <<< (Int32.ofNat n &&& 31)).toInt = ((2 ^ n : Nat) : Int) ∧ 2 ^ n ≤ 512 ∧ 0 < 2 ^ n := by decide
/-- the most of scores -/
def nd (S : Nat → Int32) : Nat → Nat → Int32 → Int32
  | 0, _, a => a
  | m + 1, i, a => nd S m (i + 1) (mm_max a (S i))
section WE
variable {need sl rl : Int32} {B0 B1 : Nat → Int32} {n : Nat}
abbrev Vl (need sl rl : Int32) (B0 B1 : Nat → Int32) (n r : Nat) : Int := lo need sl rl B0 B1 (Int32.ofNat r) n 0 0
theorem w132_h (hn : n ≤ 9) (hs0 : 0 ≤ sl.toInt) (hs1 : sl.toInt ≤ 12) (h0 : ∀ z, 0 ≤ (B0 z).toInt ∧ (B0 z).toInt ≤ 129) (h1 : ∀ z, 0 ≤ (B1 z).toInt ∧ (B1 z).toInt ≤ 129) {f : Nat} : ∀ (m r : Nat) (a2 : Int32) (q : mm_Q) (mo : Int) (b : Nat), a2.toInt = r → r + m = 2 ^ n → lp need sl rl n B0 B1 q → (q.2 39 11).toInt = mo → (q.1 39 12 = Int32.ofNat b ∨ (mo < 0 ∧ 0 < m)) → ∃ q', x2_weighLast_h132 (f + m + 1) a2 q = some ((), q') ∧ fk q q' ∧ lp need sl rl n B0 B1 q' ∧ (q'.2 39 11).toInt = (bl (Vl need sl rl B0 B1 n) m r mo b).1 ∧ q'.1 39 12 = Int32.ofNat (bl (Vl need sl rl B0 B1 n) m r mo b).2 := by
  have sh := shl_n n hn
  intro m
  induction m with
  | zero =>
    intro r a2 q mo b e1 e2 hl hm hb
    refine ⟨q, ?_, fk_rfl _, hl, hm, hb.resolve_right (fun w => absurd w.2 (Nat.lt_irrefl 0))⟩
    rw [x2_weighLast_h132, mm_ofn hl.2.2.1.1, if_pos (by rw [le32]; omega)]
  | succ m ih =>
    intro r a2 q mo b e1 e2 hl hm hb
    obtain ⟨v, u1, u2⟩ := chan_h hn hs0 hs1 h0 h1 hl (Int32.ofNat r) (d := 99 - n) n 0 0 0 0 ti0 (by omega) (by rw [ti0]; omega) (by rw [ti0]; omega)
    rw [show 99 - n + n + 1 = 100 by omega, ← mm_ofn e1] at u1
    have rg := lo_rng (need := need) (rl := rl) (B0 := B0) (B1 := B1) hs0 hs1 (Int32.ofNat r) n 0 0
    have body : x2_weighLast_h132 (f + (m + 1) + 1) a2 q = if v.toInt ≤ mo then x2_weighLast_h132 (f + m + 1) (a2 + 1) q else x2_weighLast_h132 (f + m + 1) (a2 + 1) (mm_si (mm_sj q 39 11 v) 39 12 a2) := by
      rw [show f + (m + 1) + 1 = (f + m + 1) + 1 by omega, x2_weighLast_h132, mm_ofn hl.2.2.1.1, if_neg (by rw [le32]; omega), u1, mm_cl_s]
      unfold x2_weighLast_j169
      rw [mm_lt_s, mm_lt_s]
      by_cases c : v.toInt ≤ mo
      · rw [if_pos c, if_pos (by rw [mm_cmp_le, le64, hm]; exact c)]
      · rw [if_neg c, if_neg (by rw [mm_cmp_le, le64, hm]; exact c)]
    have eb : bl (Vl need sl rl B0 B1 n) (m + 1) r mo b = if v.toInt ≤ mo then bl (Vl need sl rl B0 B1 n) m (r + 1) mo b else bl (Vl need sl rl B0 B1 n) m (r + 1) v.toInt r := by
      rw [u2]
      rfl
    rw [body, eb]
    by_cases c : v.toInt ≤ mo
    · rw [if_pos c, if_pos c]
      exact ih (r + 1) (a2 + 1) q mo b (mm_inc1 e1 (by omega)) (by omega) hl hm (hb.elim Or.inl (fun w => by omega))
    · rw [if_neg c, if_neg c]
      obtain ⟨q2, z1, z2, z3, z4, z5⟩ := ih (r + 1) (a2 + 1) (mm_si (mm_sj q 39 11 v) 39 12 a2) v.toInt r (mm_inc1 e1 (by omega)) (by omega) (by
        obtain ⟨k9, k10, kc, kB, k4⟩ := hl
        refine ⟨?_, ?_, ⟨?_, ?_⟩, kB, fun j => ?_⟩
        · rw [mm_si_self, upd_ne _ _ _ (by decide)]; exact k9
        · rw [mm_si_self, upd_ne _ _ _ (by decide)]; exact k10
        · rw [mm_si_self, upd_ne _ _ _ (by decide)]; exact kc.1
        · rw [mm_si_self, upd_ne _ _ _ (by decide)]; exact kc.2
        · show (mm_sj q 39 11 v).2 4 j = _
          rw [mm_sj_ne _ _ _ _ (by decide)]
          exact k4 j) (by
        show ((mm_sj q 39 11 v).2 39 11).toInt = _
        rw [mm_sj_self]
        rfl) (Or.inl (by rw [mm_si_self, upd_self, ← mm_ofn e1]))
      refine ⟨q2, z1, fk_trans ⟨fun k hk => ?_, fun k hk => ?_⟩ z2, z3, z4, z5⟩
      · rw [mm_si_ne _ _ _ _ (fun z => hk (by rw [z]; decide))]
        rfl
      · show (mm_sj q 39 11 v).2 k = _
        rw [mm_sj_ne _ _ _ _ (fun z => hk (by rw [z]; decide))]
end WE
section WF
variable {F : mm_F} {c : Nat → Int32} {sp : Int32} {need sl rl : Int32} {n p : Nat}
/-- the class before its stones are thought of -/
def lq (need sl rl : Int32) (n : Nat) (q : mm_Q) : Prop := q.1 39 9 = need ∧ q.1 39 10 = sl ∧ cm n rl q ∧ ∀ j, q.2 4 j = mm_t4.getD j 0
theorem w65_h (hb : bd sp c) (hs6 : sp.toInt ≤ 6) {a1 : Int32} (hp : a1.toInt = p) (hps : (p : Int) < sp.toInt) (hn : n ≤ 9) {f : Nat} : ∀ (m z : Nat) (a2 : Int32) (q : mm_Q), a2.toInt = z → z + m = n → cw F c sp q → lq need sl rl n q → (∀ z', z' < z → q.1 42 z' = Bz F c p 0 z' ∧ q.1 43 z' = Bz F c p 1 z') → ∃ q', x2_weighLast_h65 (f + m + 1) a1 a2 q = x2_weighLast_j123 q' ∧ fk q q' ∧ lp need sl rl n (Bz F c p 0) (Bz F c p 1) q' := by
  intro m
  induction m with
  | zero =>
    intro z a2 q e1 e2 hx hl hB
    refine ⟨q, ?_, fk_rfl _, hl.1, hl.2.1, hl.2.2.1, fun z' hz => hB z' (by omega), hl.2.2.2⟩
    rw [x2_weighLast_h65, if_pos (by rw [le32, hl.2.2.1.1]; omega)]
  | succ m ih =>
    intro z a2 q e1 e2 hx hl hB
    obtain ⟨q1, y1, y2, y3⟩ := take_eq hx hs6 hp hps e1 (by omega) a2
    obtain ⟨q2, y4, y5⟩ := bestPoints_eq y2 0
    have x2' : cx F c (tk c p z a2 (q.1 14)) (mm_si q2 42 z (BP F c (tk c p z a2 (q.1 14)) 0)) := cx_fr (cx_fr y2 y5 (by decide) (by decide) (by decide) (by decide)) (fr_si (S := [42]) q2 z _ (by decide)) (by decide) (by decide) (by decide) (by decide)
    obtain ⟨q3, y6, y7⟩ := bestPoints_eq x2' 1
    have f3 : fr [12, 13, 14, 42, 43] q (mm_si q3 43 z (BP F c (tk c p z a2 (q.1 14)) 1)) := fr_trans (fr_trans (fr_trans (fr_trans (fr_mono y3 (by decide)) (fr_mono y5 (by decide))) (fr_si _ _ _ (by decide))) (fr_mono y7 (by decide))) (fr_si _ _ _ (by decide))
    have b0 : BP F c (tk c p z a2 (q.1 14)) 0 = Bz F c p 0 z := by
      show bpn (PT F c (tk c p z a2 (q.1 14)) 0) 9 = bpn (PT F c (GL c p z (Int32.ofNat z) 0) 0) 9
      rw [PT_tk hb F (by omega), mm_ofn e1]
    have b1 : BP F c (tk c p z a2 (q.1 14)) 1 = Bz F c p 1 z := by
      show bpn (PT F c (tk c p z a2 (q.1 14)) 1) 9 = bpn (PT F c (GL c p z (Int32.ofNat z) 0) 1) 9
      rw [PT_tk hb F (by omega), mm_ofn e1]
    have g42 : q3.1 42 = upd (q.1 42) z (Bz F c p 0 z) := by
      rw [y7.2 42 (by decide), mm_si_self, y5.2 42 (by decide), y3.2 42 (by decide), b0]
    have g43 : q3.1 43 = q.1 43 := by
      rw [y7.2 43 (by decide), mm_si_ne _ _ _ _ (by decide), y5.2 43 (by decide), y3.2 43 (by decide)]
    have hl3 : lq need sl rl n (mm_si q3 43 z (BP F c (tk c p z a2 (q.1 14)) 1)) := by
      unfold lq cm
      rw [f3.2 39 (by decide), f3.1]
      exact hl
    obtain ⟨q4, z1, z2, z3⟩ := ih (z + 1) (a2 + 1) (mm_si q3 43 z (BP F c (tk c p z a2 (q.1 14)) 1)) (mm_inc1 e1 (by omega)) (by omega) (cw_fr hx f3 (by decide) (by decide) (by decide) (by decide)) hl3 (fun z' hz => by
      rw [mm_si_ne _ _ _ _ (by decide), mm_si_self, g42, g43, b1]
      by_cases e : z' = z
      · rw [e, upd_self, upd_self]
        exact ⟨rfl, rfl⟩
      · rw [upd_ne _ _ _ e, upd_ne _ _ _ e]
        exact hB z' (by omega))
    refine ⟨q4, ?_, fk_trans (fk_fr f3 (by decide)) z2, z3⟩
    rw [show f + (m + 1) + 1 = (f + m + 1) + 1 by omega, x2_weighLast_h65, if_neg (by rw [le32, hl.2.2.1.1]; omega), if_neg (by rw [le32, ti9]; omega), y1, mm_cl_s, y4, mm_cl_s, mm_ck_t (mm_inb_c e1 (by omega)), mm_lt_s, mm_tcn e1, y6, mm_cl_s, mm_ck_t (mm_inb_c e1 (by omega)), mm_lt_s]
    exact z1
theorem w18_h {N : Nat} {W S : Nat → Int32} (hN : N ≤ 6) (h1N : 1 ≤ N) {a1 : Int32} (hs6 : sp.toInt ≤ 6) (hp : a1.toInt = p) (hps : (p : Int) < sp.toInt) {f : Nat} : ∀ (m i : Nat) (a2 a : Int32) (q : mm_Q), a2.toInt = i → i + m = N - 1 → cw F c sp q → cg N W S q → cm n rl q → q.1 39 9 = a → ∃ q', x2_weighLast_h18 (f + m + 1) a1 a2 q = x2_weighLast_h65 mm_fu a1 0 q' ∧ fr [39] q q' ∧ q'.1 39 9 = nd S m i a ∧ q'.1 39 10 = c (18 + p) ∧ cm n rl q' := by
  intro m
  induction m with
  | zero =>
    intro i a2 a q e1 e2 hx hg hm ha
    have t3 : x4_told a1 3 q = some (c (18 + p), q) := by
      rw [y_told (j := 18 + p) (by rw [hx.2.1, pl_sp hs6 hp hps (w := 3) (by decide) (by decide)]) (by omega), hx.1]
    refine ⟨mm_si q 39 10 (c (18 + p)), ?_, fr_si _ _ _ (by decide), ?_, ?_, ⟨?_, ?_⟩⟩
    · have := hg.1
      rw [x2_weighLast_h18, if_pos (by rw [le32, mm_sub_ti (by rw [ti1]; omega) (by rw [ti1]; omega), ti1]; omega), t3, mm_cl_s, mm_lt_s]
    · rw [mm_si_self, upd_ne _ _ _ (by decide)]; exact ha
    · rw [mm_si_self, upd_self]
    · rw [mm_si_self, upd_ne _ _ _ (by decide)]; exact hm.1
    · rw [mm_si_self, upd_ne _ _ _ (by decide)]; exact hm.2
  | succ m ih =>
    intro i a2 a q e1 e2 hx hg hm ha
    have fs : fr [39] q (mm_si q 39 9 (mm_max a (S i))) := fr_si _ _ _ (by decide)
    obtain ⟨q2, z1, z2, z3, z4, z5⟩ := ih (i + 1) (a2 + 1) (mm_max a (S i)) (mm_si q 39 9 (mm_max a (S i))) (mm_inc1 e1 (by omega)) (by omega) (cw_fr hx fs (by decide) (by decide) (by decide) (by decide)) (by
      refine ⟨by rw [mm_si_self, upd_ne _ _ _ (by decide)]; exact hg.1, fun j hj => ?_⟩
      rw [mm_si_ne _ _ _ _ (by decide), mm_si_ne _ _ _ _ (by decide)]
      exact hg.2 j hj) ⟨by rw [mm_si_self, upd_ne _ _ _ (by decide)]; exact hm.1, by rw [mm_si_self, upd_ne _ _ _ (by decide)]; exact hm.2⟩ (by rw [mm_si_self, upd_self])
    refine ⟨q2, ?_, fr_trans fs z2, z3, z4, z5⟩
    have := hg.1
    rw [show f + (m + 1) + 1 = (f + m + 1) + 1 by omega, x2_weighLast_h18, if_neg (by rw [le32, mm_sub_ti (by rw [ti1]; omega) (by rw [ti1]; omega), ti1]; omega), scoreAt_in hg hN e1 (by omega), mm_cl_s, mm_lt_s, ha]
    exact z1
theorem weigh_eq (hb : bd sp c) (hs6 : sp.toInt ≤ 6) {N : Nat} {W S : Nat → Int32} (hN : N ≤ 6) (h1N : 1 ≤ N) (hn : n ≤ 9) (hW : ∀ j, j < N → 0 ≤ (W j).toInt ∧ (W j).toInt < sp.toInt) (hp : (W (N - 1)).toInt = p) {q : mm_Q} (hx : cw F c sp q) (hg : cg N W S q) (hm : cm n rl q) (h4 : ∀ j, q.2 4 j = mm_t4.getD j 0) : ∃ q', x2_weighLast q = some ((), q') ∧ fk q q' ∧ cm n rl q' ∧ (∀ j, q'.2 4 j = mm_t4.getD j 0) ∧ (q'.2 39 11).toInt = (bl (Vl (nd S (N - 1) 0 (-1)) (c (18 + p)) rl (Bz F c p 0) (Bz F c p 1) n) (2 ^ n) 0 (-1) 0).1 ∧ q'.1 39 12 = Int32.ofNat (bl (Vl (nd S (N - 1) 0 (-1)) (c (18 + p)) rl (Bz F c p 0) (Bz F c p 1) n) (2 ^ n) 0 (-1) 0).2 := by
  have hpw := hW (N - 1) (by omega)
  have hps : (p : Int) < sp.toInt := by omega
  have slr := bd_sp hb (w := 3) hps hs6 (by decide) (a := 0) (b := 12) (by decide) (by decide)
  rw [show 6 * 3 + p = 18 + p by omega] at slr
  have e1 : (q.1 39 6 - 1).toInt = ((N - 1 : Nat) : Int) := by
    have := hg.1
    rw [mm_sub_ti (by rw [ti1]; omega) (by rw [ti1]; omega), ti1]
    omega
  have fs : fr [39] q (mm_si q 39 9 (-1)) := fr_si _ _ _ (by decide)
  obtain ⟨q1, y1, y2, y3, y4, y5⟩ := w18_h (F := F) (c := c) (rl := rl) (n := n) (S := S) hN h1N hs6 hp hps (f := 999 - (N - 1)) (N - 1) 0 0 (-1) (mm_si q 39 9 (-1)) ti0 (by omega) (cw_fr hx fs (by decide) (by decide) (by decide) (by decide)) (by
      refine ⟨by rw [mm_si_self, upd_ne _ _ _ (by decide)]; exact hg.1, fun j hj => ?_⟩
      rw [mm_si_ne _ _ _ _ (by decide), mm_si_ne _ _ _ _ (by decide)]
      exact hg.2 j hj) ⟨by rw [mm_si_self, upd_ne _ _ _ (by decide)]; exact hm.1, by rw [mm_si_self, upd_ne _ _ _ (by decide)]; exact hm.2⟩ (by rw [mm_si_self, upd_self])
  rw [show 999 - (N - 1) + (N - 1) + 1 = mm_fu by show _ = 1000; omega] at y1
  have f1 := fr_trans fs y2
  obtain ⟨q2, z1, z2, z3⟩ := w65_h (F := F) (rl := rl) (need := nd S (N - 1) 0 (-1)) (sl := c (18 + p)) hb hs6 hp hps hn (f := 999 - n) n 0 0 q1 ti0 (by omega) (cw_fr hx f1 (by decide) (by decide) (by decide) (by decide)) ⟨y3, y4, y5, fun j => by rw [f1.1]; exact h4 j⟩ (fun z' hz => absurd hz (Nat.not_lt_zero z'))
  rw [show 999 - n + n + 1 = mm_fu by show _ = 1000; omega] at z1
  have sh := shl_n n hn
  obtain ⟨T, hT⟩ : ∃ T, T = 2 ^ n := ⟨_, rfl⟩
  rw [← hT] at sh ⊢
  obtain ⟨q3, w1, w2, w3, w4, w5⟩ := w132_h (need := nd S (N - 1) 0 (-1)) (sl := c (18 + p)) (rl := rl) (B0 := Bz F c p 0) (B1 := Bz F c p 1) (n := n) hn slr.1 slr.2 (fun z => BP_rng hb F _ 0) (fun z => BP_rng hb F _ 1) (f := 999 - T) T 0 0 (mm_sj q2 39 11 (-1)) (-1) 0 ti0 (by rw [← hT]; omega) (by
    obtain ⟨k9, k10, kc, kB, k4⟩ := z3
    exact ⟨k9, k10, kc, kB, fun j => by rw [mm_sj_ne _ _ _ _ (by decide)]; exact k4 j⟩) (by rw [mm_sj_self]; exact tln1) (Or.inr ⟨by omega, sh.2.2⟩)
  rw [show 999 - T + T + 1 = mm_fu by show _ = 1000; omega] at w1
  have fj : fk q2 (mm_sj q2 39 11 (-1)) := ⟨fun _ _ => rfl, fun k hk => mm_sj_ne q2 39 11 (-1) (fun z => hk (by rw [z]; decide))⟩
  refine ⟨q3, ?_, fk_trans (fk_trans (fk_trans (fk_fr f1 (by decide)) z2) fj) w2, w3.2.2.1, w3.2.2.2.2, w4, w5⟩
  unfold x2_weighLast
  rw [spitterAt_in hg hN e1 (by omega), mm_cl_s, mm_lt_s, y1, z1]
  unfold x2_weighLast_j123
  rw [mm_lt_s]
  exact w1
end WF
