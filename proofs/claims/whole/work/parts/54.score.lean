/-! how much one has in a match -/
/-- the best, or all together -/
def tg (rl a b : Int32) : Int32 := if rl = 0 then mm_max a b else a + b
/-- from stone z on, m of them -/
def sc (F : mm_F) (c : Nat → Int32) (p : Nat) (lg rl : Int32) : Nat → Nat → Int32 → Int32
  | 0, _, a => a
  | m + 1, z, a => sc F c p lg rl m (z + 1) (tg rl a (BP F c (GL c p z (Int32.ofNat z) lg) 0))
theorem tg_rng {rl a b : Int32} {x y : Int} (ha : 0 ≤ a.toInt ∧ a.toInt ≤ x) (hb : 0 ≤ b.toInt ∧ b.toInt ≤ y) (hx : x + y ≤ 100000) (h0 : 0 ≤ x) (h1 : 0 ≤ y) : 0 ≤ (tg rl a b).toInt ∧ (tg rl a b).toInt ≤ x + y := by
  unfold tg
  by_cases h : rl = 0
  · rw [if_pos h, max_ti]
    omega
  · rw [if_neg h, mm_add_ti (by omega) (by omega)]
    omega
theorem sc_rng {sp : Int32} {c : Nat → Int32} (hb : bd sp c) (F : mm_F) (p : Nat) (lg rl : Int32) : ∀ (m z : Nat) (a : Int32) (x : Int), 0 ≤ a.toInt → a.toInt ≤ x → 0 ≤ x → x + 129 * m ≤ 100000 → 0 ≤ (sc F c p lg rl m z a).toInt ∧ (sc F c p lg rl m z a).toInt ≤ x + 129 * m
  | 0, _, a, x, h0, h1, _, _ => by
    show 0 ≤ a.toInt ∧ a.toInt ≤ x + 129 * ((0 : Nat) : Int)
    omega
  | m + 1, z, a, x, h0, h1, h2, h3 => by
    have t := tg_rng (rl := rl) ⟨h0, h1⟩ (BP_rng hb F (GL c p z (Int32.ofNat z) lg) 0) (by omega) h2 (by omega)
    have ih := sc_rng hb F p lg rl m (z + 1) (tg rl a (BP F c (GL c p z (Int32.ofNat z) lg) 0)) (x + 129) t.1 t.2 (by omega) (by omega)
    show 0 ≤ (sc F c p lg rl m (z + 1) (tg rl a (BP F c (GL c p z (Int32.ofNat z) lg) 0))).toInt ∧ (sc F c p lg rl m (z + 1) (tg rl a (BP F c (GL c p z (Int32.ofNat z) lg) 0))).toInt ≤ x + 129 * ((m + 1 : Nat) : Int)
    omega
/-- a spitter's score over n stones -/
abbrev SC (F : mm_F) (c : Nat → Int32) (n : Nat) (rl lg : Int32) (p : Nat) : Int32 := sc F c p lg rl n 0 0
theorem SC_rng {sp : Int32} {c : Nat → Int32} (hb : bd sp c) (F : mm_F) {n : Nat} (hn : n ≤ 9) (rl lg : Int32) (p : Nat) : 0 ≤ (SC F c n rl lg p).toInt ∧ (SC F c n rl lg p).toInt ≤ 1161 := by
  have := sc_rng hb F p lg rl n 0 0 0 (by rw [ti0]; omega) (by rw [ti0]; omega) (by omega) (by omega)
  show 0 ≤ (sc F c p lg rl n 0 0).toInt ∧ (sc F c p lg rl n 0 0).toInt ≤ 1161
  omega
/-- the match's stones and rule, the class's -/
def cm (n : Nat) (rl : Int32) (q : mm_Q) : Prop := (q.1 39 7).toInt = n ∧ q.1 39 8 = rl
theorem cm_fr {n : Nat} {rl : Int32} {q q' : mm_Q} {S : List Nat} (h : cm n rl q) (f : fr S q q') (hS : 39 ∉ S) : cm n rl q' := by
  unfold cm
  rw [f.2 39 hS]
  exact h
section SCO
variable {F : mm_F} {c : Nat → Int32} {sp : Int32} {a1 : Int32} {p n : Nat} {rl lg : Int32}
theorem score11_h (hb : bd sp c) (hs6 : sp.toInt ≤ 6) (hp : a1.toInt = p) (hps : (p : Int) < sp.toInt) (hn : n ≤ 9) {f : Nat} : ∀ (m z : Nat) (a a4 : Int32) (q : mm_Q), a4.toInt = z → z + m = n → cw F c sp q → cm n rl q → ∃ q', x2_scoreOf_h5 (f + m + 1) a1 lg a a4 q = some (sc F c p lg rl m z a, q') ∧ fr [12, 13, 14] q q' := by
  intro m
  induction m with
  | zero =>
    intro z a a4 q h1 h2 hx hm
    refine ⟨q, ?_, fr_rfl _ _⟩
    rw [x2_scoreOf_h5, if_pos (by rw [le32, hm.1]; omega)]
    rfl
  | succ m ih =>
    intro z a a4 q h1 h2 hx hm
    obtain ⟨q1, y1, y2, y3⟩ := take_eq hx hs6 hp hps h1 (by omega) a4
    have y4 : cx F c (upd (tk c p z a4 (q.1 14)) 3 (mm_mn (c (30 + z) + lg) 9)) (mm_si q1 14 3 (mm_mn (q1.1 14 3 + lg) 9)) := by
      obtain ⟨z1, z2, z3⟩ := y2
      refine ⟨z1, ?_, z3⟩
      rw [mm_si_self, z2]
      rfl
    obtain ⟨q2, y5, y6⟩ := bestPoints_eq y4 0
    have y5' : x10_bestPoints 0 (mm_si q1 14 3 (mm_mn (q1.1 14 3 + lg) 9)) = some (BP F c (GL c p z (Int32.ofNat z) lg) 0, q2) := by
      rw [y5, mm_ofn h1]
      rfl
    have f2 : fr [12, 13, 14] q q2 := fr_trans (fr_mono y3 (by decide)) (fr_trans (fr_si q1 3 _ (by decide)) (fr_mono y6 (by decide)))
    have hm2 := cm_fr hm f2 (by decide)
    obtain ⟨q3, z1, z2⟩ := ih (z + 1) (tg rl a (BP F c (GL c p z (Int32.ofNat z) lg) 0)) (a4 + 1) q2 (mm_inc1 h1 (by omega)) (by omega) (cw_fr hx f2 (by decide) (by decide) (by decide) (by decide)) hm2
    refine ⟨q3, ?_, fr_trans f2 z2⟩
    rw [show f + (m + 1) + 1 = (f + m + 1) + 1 by omega, x2_scoreOf_h5, if_neg (by rw [le32, hm.1]; omega), y1, mm_cl_s]
    unfold x10_enlarge x2_together
    rw [mm_lt_s, mm_cl_s, y5', mm_cl_s, hm2.2, ← mm_some_ite, mm_cl_s]
    exact z1
theorem score11_eq (hb : bd sp c) (hs6 : sp.toInt ≤ 6) (hp : a1.toInt = p) (hps : (p : Int) < sp.toInt) (hn : n ≤ 9) {q : mm_Q} (hx : cw F c sp q) (hm : cm n rl q) (lg : Int32) : ∃ q', x2_scoreOf a1 lg q = some (SC F c n rl lg p, q') ∧ fr [12, 13, 14] q q' := by
  obtain ⟨q', e, f⟩ := score11_h (lg := lg) hb hs6 hp hps hn (f := 999 - n) n 0 0 0 q ti0 (by omega) hx hm
  rw [show 999 - n + n + 1 = mm_fu by show _ = 1000; omega] at e
  exact ⟨q', e, f⟩
theorem score12_h (hb : bd sp c) (hp : a1.toInt = p) (h6 : p < 6) (hn : n ≤ 9) {nr : Int32} (h10 : (nr / 10).toInt = n) (hrl : rl = mm_rem nr 10) (hrl2 : rl = 0 ∨ rl = 1) {f : Nat} : ∀ (m z : Nat) (a a4 : Int32) (q : mm_Q), a4.toInt = z → z + m = n → rx F c sp lg q → ∃ q', x12_scoreOf_h5 (f + m + 1) a1 nr a a4 q = some (sc F c p lg rl m z a, q') ∧ fq q q' ∧ rx F c sp lg q' := by
  intro m
  induction m with
  | zero =>
    intro z a a4 q h1 h2 hx
    refine ⟨q, ?_, fq_rfl _, hx⟩
    rw [x12_scoreOf_h5, if_pos (by rw [le32]; omega)]
    rfl
  | succ m ih =>
    intro z a a4 q h1 h2 hx
    obtain ⟨q1, y1, y2, y3⟩ := pointsBest_eq hx hb hp h6 h1 (by omega) a4 0
    obtain ⟨q2, z1, z2, z3⟩ := ih (z + 1) (tg rl a (BP F c (GL c p z (Int32.ofNat z) lg) 0)) (a4 + 1) q1 (mm_inc1 h1 (by omega)) (by omega) y3
    refine ⟨q2, ?_, fq_trans y2 z2, z3⟩
    refine Eq.trans ?_ z1
    rw [show f + (m + 1) + 1 = (f + m + 1) + 1 by omega, x12_scoreOf_h5, if_neg (by rw [le32]; omega), y1, mm_cl_s, ← hrl, ← mm_ofn h1]
    unfold x12_scoreOf_j53 tg mm_max
    rcases hrl2 with e | e
    · rw [if_neg (by rw [e]; decide), if_pos e]
      by_cases w : BP F c (GL c p z a4 lg) 0 ≤ a
      · rw [if_pos w, if_neg (Int32.not_lt.mpr w)]
      · rw [if_neg w, if_pos (Int32.not_le.mp w)]
    · rw [if_pos e, if_neg (by rw [e]; decide)]
theorem score12_eq (hb : bd sp c) (hp : a1.toInt = p) (h6 : p < 6) (hn : n ≤ 9) {nr : Int32} (h10 : (nr / 10).toInt = n) (hrl : rl = mm_rem nr 10) (hrl2 : rl = 0 ∨ rl = 1) {q : mm_Q} (hx : rx F c sp lg q) : ∃ q', x12_scoreOf a1 nr q = some (SC F c n rl lg p, q') ∧ fq q q' ∧ rx F c sp lg q' := by
  obtain ⟨q', e, f⟩ := score12_h hb hp h6 hn h10 hrl hrl2 (f := 999 - n) n 0 0 0 q ti0 (by omega) hx
  rw [show 999 - n + n + 1 = mm_fu by show _ = 1000; omega] at e
  exact ⟨q', e, f⟩
end SCO
