/-! the last one knows what is needed: how likely -/
abbrev bit (r : Int32) (z : Nat) : Prop := (r >>> (Int32.ofNat z &&& 31)) &&& 1 = 1
theorem and1 (y : Int32) : y &&& 1 = 0 ∨ y &&& 1 = 1 := by
  have h : (y &&& 1).toBitVec.toNat ≤ 1 := by
    rw [Int32.toBitVec_and, BitVec.toNat_and]
    exact Nat.and_le_right
  have e : (y &&& 1).toInt = ((y &&& 1).toBitVec.toNat : Int) := by
    show (y &&& 1).toBitVec.toInt = _
    rw [BitVec.toInt_eq_toNat_of_lt (by omega)]
  rcases (show (y &&& 1).toBitVec.toNat = 0 ∨ (y &&& 1).toBitVec.toNat = 1 by omega) with w | w
  · exact Or.inl (by rw [eq32, e, w, ti0]; rfl)
  · exact Or.inr (by rw [eq32, e, w, ti1]; rfl)
theorem bit_0 {y : Int32} : y &&& 1 = 0 ↔ ¬ y &&& 1 = 1 := by
  rcases and1 y with h | h
  · rw [h]; exact ⟨fun _ => by decide, fun _ => rfl⟩
  · rw [h]; exact ⟨fun w => absurd w (by decide), fun w => absurd rfl w⟩
/-- in how many of twelve to the stones left it has more -/
def lo (need sl rl : Int32) (B0 B1 : Nat → Int32) (r : Int32) : Nat → Nat → Int32 → Int
  | 0, _, s => if s ≤ need then 0 else 1
  | m + 1, z, s => if bit r z then sl.toInt * lo need sl rl B0 B1 r m (z + 1) s + (12 - sl.toInt) * lo need sl rl B0 B1 r m (z + 1) (tg rl s (B1 z)) else 12 * lo need sl rl B0 B1 r m (z + 1) (tg rl s (B0 z))
section LO
variable {need sl rl : Int32} {B0 B1 : Nat → Int32}
theorem lo_rng (h0 : 0 ≤ sl.toInt) (h1 : sl.toInt ≤ 12) (r : Int32) : ∀ (m z : Nat) (s : Int32), 0 ≤ lo need sl rl B0 B1 r m z s ∧ lo need sl rl B0 B1 r m z s ≤ pw m
  | 0, z, s => by
    show 0 ≤ (if s ≤ need then (0 : Int) else 1) ∧ (if s ≤ need then (0 : Int) else 1) ≤ 1
    by_cases c : s ≤ need
    · rw [if_pos c]; omega
    · rw [if_neg c]; omega
  | m + 1, z, s => by
    have a := lo_rng h0 h1 r m (z + 1) s
    have b := lo_rng h0 h1 r m (z + 1) (tg rl s (B1 z))
    have c := lo_rng h0 h1 r m (z + 1) (tg rl s (B0 z))
    show 0 ≤ (if bit r z then _ else _) ∧ (if bit r z then _ else _) ≤ 12 * pw m
    by_cases e : bit r z
    · rw [if_pos e]
      have m1 := Int.mul_le_mul_of_nonneg_left a.2 h0
      have m2 := Int.mul_le_mul_of_nonneg_left b.2 (show 0 ≤ 12 - sl.toInt by omega)
      have m3 := Int.mul_nonneg h0 a.1
      have m4 := Int.mul_nonneg (show 0 ≤ 12 - sl.toInt by omega) b.1
      rw [Int.sub_mul] at m2 m4 ⊢
      rw [Int.sub_mul] at m2
      omega
    · rw [if_neg e]
      omega
theorem tg_ge {a b : Int32} (ha : 0 ≤ a.toInt ∧ a.toInt ≤ 50000) (hb : 0 ≤ b.toInt ∧ b.toInt ≤ 129) (rl : Int32) : a.toInt ≤ (tg rl a b).toInt ∧ (tg rl a b).toInt ≤ a.toInt + 129 := by
  unfold tg
  by_cases h : rl = 0
  · rw [if_pos h, max_ti]; omega
  · rw [if_neg h, mm_add_ti (by omega) (by omega)]; omega
theorem lo_top (h0 : ∀ z, 0 ≤ (B0 z).toInt ∧ (B0 z).toInt ≤ 129) (h1 : ∀ z, 0 ≤ (B1 z).toInt ∧ (B1 z).toInt ≤ 129) (r : Int32) : ∀ (m z : Nat) (s : Int32), 0 ≤ s.toInt → s.toInt + 129 * m ≤ 50000 → ¬ s ≤ need → lo need sl rl B0 B1 r m z s = pw m
  | 0, z, s, _, _, h => if_neg h
  | m + 1, z, s, hs, hm, h => by
    have t0 := tg_ge (a := s) ⟨hs, by omega⟩ (h0 z) rl
    have t1 := tg_ge (a := s) ⟨hs, by omega⟩ (h1 z) rl
    rw [le32] at h
    have a := lo_top h0 h1 r m (z + 1) s hs (by omega) (by rw [le32]; exact h)
    have b := lo_top h0 h1 r m (z + 1) (tg rl s (B1 z)) (by omega) (by omega) (by rw [le32]; omega)
    have c := lo_top h0 h1 r m (z + 1) (tg rl s (B0 z)) (by omega) (by omega) (by rw [le32]; omega)
    show (if bit r z then _ else _) = 12 * pw m
    by_cases e : bit r z
    · rw [if_pos e, a, b, Int.sub_mul]
      omega
    · rw [if_neg e, c]
/-- the class ready to weigh -/
def lp (need sl rl : Int32) (n : Nat) (B0 B1 : Nat → Int32) (q : mm_Q) : Prop := q.1 39 9 = need ∧ q.1 39 10 = sl ∧ cm n rl q ∧ (∀ z, z < n → q.1 42 z = B0 z ∧ q.1 43 z = B1 z) ∧ ∀ j, q.2 4 j = mm_t4.getD j 0
theorem t4_pw : ∀ n, n ≤ 9 → (mm_t4.getD n 0).toInt = pw n := by decide
theorem twelve_eq {q : mm_Q} (h : ∀ j, q.2 4 j = mm_t4.getD j 0) {a : Int32} {n : Nat} (ha : a.toInt = n) (hn : n ≤ 9) : x2_twelveTo a q = some (mm_t4.getD n 0, q) := by
  unfold x2_twelveTo
  rw [if_neg (by rw [lt32, ti0]; omega), if_neg (by rw [le32, ti10]; omega), mm_ck_t (mm_inb_c ha (by omega)), mm_tcn ha, h]
theorem tog_eq {q : mm_Q} {n : Nat} (h : cm n rl q) (a b : Int32) : x2_together a b q = some (tg rl a b, q) := by
  unfold x2_together tg
  rw [h.2, mm_some_ite]
theorem chan_h {n : Nat} (hn : n ≤ 9) (hs0 : 0 ≤ sl.toInt) (hs1 : sl.toInt ≤ 12) (h0 : ∀ z, 0 ≤ (B0 z).toInt ∧ (B0 z).toInt ≤ 129) (h1 : ∀ z, 0 ≤ (B1 z).toInt ∧ (B1 z).toInt ≤ 129) {q : mm_Q} (h : lp need sl rl n B0 B1 q) (r : Int32) {d : Nat} : ∀ (m z t : Nat) (a1 s : Int32), a1.toInt = z → z + m = n → 0 ≤ s.toInt → s.toInt + 129 * m ≤ 50000 → ∃ v : Int64, g_x2_chancesFrom (d + m + 1) t a1 r s q = some (v, q) ∧ v.toInt = lo need sl rl B0 B1 r m z s := by
  obtain ⟨k9, k10, kc, kB, k4⟩ := id h
  intro m
  induction m with
  | zero =>
    intro z t a1 s e1 e2 e3 e4
    show ∃ v : Int64, x2_chancesFrom (g_x2_chancesFrom d) a1 r s q = _ ∧ v.toInt = if s ≤ need then 0 else 1
    unfold x2_chancesFrom
    rw [k9]
    by_cases c : s ≤ need
    · rw [if_pos c, if_neg (by rw [lt32, ti0]; omega), if_pos (by rw [le32, kc.1]; omega), if_pos c]
      exact ⟨0, rfl, tl0⟩
    · rw [if_neg c, if_neg c, twelve_eq k4 (n := 0) (by rw [mm_sub_ti (by rw [kc.1]; omega) (by rw [kc.1]; omega), kc.1]; omega) (by omega), mm_cl_s]
      exact ⟨_, rfl, by decide⟩
  | succ m ih =>
    intro z t a1 s e1 e2 e3 e4
    show ∃ v : Int64, x2_chancesFrom (g_x2_chancesFrom (d + m + 1)) a1 r s q = _ ∧ v.toInt = lo need sl rl B0 B1 r (m + 1) z s
    unfold x2_chancesFrom
    rw [k9, k10]
    by_cases c : s ≤ need
    · rw [if_pos c, if_neg (by rw [lt32, ti0]; omega), if_neg (by rw [le32, kc.1]; omega), if_pos (by rw [lt32, ti9]; omega)]
      have t0 := tg_ge (a := s) ⟨e3, by omega⟩ (h0 z) rl
      have t1 := tg_ge (a := s) ⟨e3, by omega⟩ (h1 z) rl
      obtain ⟨v0, u0, w0⟩ := ih (z + 1) 0 (a1 + 1) (tg rl s (B0 z)) (mm_inc1 e1 (by omega)) (by omega) (by omega) (by omega)
      obtain ⟨v1, u1, w1⟩ := ih (z + 1) 0 (a1 + 1) (tg rl s (B1 z)) (mm_inc1 e1 (by omega)) (by omega) (by omega) (by omega)
      obtain ⟨v2, u2, w2⟩ := ih (z + 1) 0 (a1 + 1) s (mm_inc1 e1 (by omega)) (by omega) (by omega) (by omega)
      have g0 := lo_rng (need := need) (rl := rl) (B0 := B0) (B1 := B1) hs0 hs1 r m (z + 1) (tg rl s (B0 z))
      have g1 := lo_rng (need := need) (rl := rl) (B0 := B0) (B1 := B1) hs0 hs1 r m (z + 1) (tg rl s (B1 z))
      have g2 := lo_rng (need := need) (rl := rl) (B0 := B0) (B1 := B1) hs0 hs1 r m (z + 1) s
      have p8 := pw_8 m (by omega)
      have in9 : mm_inb a1 9 = true := mm_inb_c e1 (by omega)
      have el : lo need sl rl B0 B1 r (m + 1) z s = if bit r z then sl.toInt * lo need sl rl B0 B1 r m (z + 1) s + (12 - sl.toInt) * lo need sl rl B0 B1 r m (z + 1) (tg rl s (B1 z)) else 12 * lo need sl rl B0 B1 r m (z + 1) (tg rl s (B0 z)) := rfl
      have eb : bit r z ↔ (r >>> (a1 &&& 31)) &&& 1 = 1 := by rw [mm_ofn e1]
      by_cases b : bit r z
      · rw [el, if_neg (fun w => (bit_0.mp w) (eb.mp b)), if_pos b, u2, mm_cl_s, mm_ck_t in9, mm_tcn e1, (kB z (by omega)).2, tog_eq kc, mm_cl_s, u1, mm_cl_s, k10]
        refine ⟨_, rfl, ?_⟩
        have a1' : (sl.toInt64 * v2).toInt = sl.toInt * lo need sl rl B0 B1 r m (z + 1) s := by
          have := Int.mul_nonneg hs0 g2.1
          have := Int.mul_le_mul hs1 (show lo need sl rl B0 B1 r m (z + 1) s ≤ 429981696 by omega) g2.1 (by omega)
          rw [ml_mul (by rw [mm_i64, w2]; omega) (by rw [mm_i64, w2]; omega), mm_i64, w2]
        have a2' : (((12 : Int32) - sl).toInt64 * v1).toInt = (12 - sl.toInt) * lo need sl rl B0 B1 r m (z + 1) (tg rl s (B1 z)) := by
          have e12 : (((12 : Int32) - sl).toInt64).toInt = 12 - sl.toInt := by rw [mm_i64, mm_sub_ti (by rw [ti12]; omega) (by rw [ti12]; omega), ti12]
          have := Int.mul_nonneg (show 0 ≤ 12 - sl.toInt by omega) g1.1
          have := Int.mul_le_mul (show 12 - sl.toInt ≤ 12 by omega) (show lo need sl rl B0 B1 r m (z + 1) (tg rl s (B1 z)) ≤ 429981696 by omega) g1.1 (by omega)
          rw [ml_mul (by rw [e12, w1]; omega) (by rw [e12, w1]; omega), e12, w1]
        have b1 := Int.mul_nonneg hs0 g2.1
        have b2 := Int.mul_le_mul hs1 (show lo need sl rl B0 B1 r m (z + 1) s ≤ 429981696 by omega) g2.1 (by omega)
        have b3 := Int.mul_nonneg (show 0 ≤ 12 - sl.toInt by omega) g1.1
        have b4 := Int.mul_le_mul (show 12 - sl.toInt ≤ 12 by omega) (show lo need sl rl B0 B1 r m (z + 1) (tg rl s (B1 z)) ≤ 429981696 by omega) g1.1 (by omega)
        rw [ml_add (by rw [a1', a2']; omega) (by rw [a1', a2']; omega), a1', a2']
      · rw [el, if_pos (bit_0.mpr (fun w => b (eb.mpr w))), if_neg b, mm_ck_t in9, mm_tcn e1, (kB z (by omega)).1, tog_eq kc, mm_cl_s, u0, mm_cl_s]
        refine ⟨_, rfl, ?_⟩
        rw [ml_mul (by rw [tl12, w0]; omega) (by rw [tl12, w0]; omega), tl12, w0]
    · have p9 := pw_rng (m + 1) (by omega)
      rw [if_neg c, lo_top h0 h1 r (m + 1) z s e3 e4 c, twelve_eq k4 (n := m + 1) (by rw [mm_sub_ti (by rw [kc.1]; omega) (by rw [kc.1]; omega), kc.1]; omega) (by omega), mm_cl_s]
      exact ⟨_, rfl, t4_pw (m + 1) (by omega)⟩
end LO
section LR12
variable {F : mm_F} {c : Nat → Int32} {sp : Int32} {need rl : Int32} {n p : Nat}
/-- the best points of a stone in its turn, by runs -/
abbrev Bz (F : mm_F) (c : Nat → Int32) (p : Nat) (r : Int32) (z : Nat) : Int32 := BP F c (GL c p z (Int32.ofNat z) 0) r
theorem laston_h (hb : bd sp c) {a1 : Int32} (hp : a1.toInt = p) (h6 : p < 6) (hn : n ≤ 9) {nr : Int32} (h10 : (nr / 10).toInt = n) (hrl : rl = mm_rem nr 10) (hrl2 : rl = 0 ∨ rl = 1) (hs0 : 0 ≤ (c (18 + p)).toInt) (hs1 : (c (18 + p)).toInt ≤ 12) (r : Int32) {d : Nat} : ∀ (m z t : Nat) (a3 s : Int32) (q : mm_Q), a3.toInt = z → z + m = n → 0 ≤ s.toInt → s.toInt + 129 * m ≤ 50000 → rx F c sp 0 q → q.1 52 27 = need → q.1 52 28 = r → ∃ (v : Int64) (q' : mm_Q), g_x12_lastOn (d + m + 1) t a1 nr a3 s q = some (v, q') ∧ v.toInt = lo need (c (18 + p)) rl (Bz F c p 0) (Bz F c p 1) r m z s ∧ fq q q' ∧ rx F c sp 0 q' := by
  intro m
  induction m with
  | zero =>
    intro z t a3 s q e1 e2 e3 e4 hx k27 k28
    show ∃ (v : Int64) (q' : mm_Q), x12_lastOn (g_x12_lastOn d) a1 nr a3 s q = _ ∧ v.toInt = (if s ≤ need then 0 else 1) ∧ _
    unfold x12_lastOn
    rw [if_pos (by rw [eq32, e1, h10]; omega), k27]
    by_cases w : s ≤ need
    · rw [if_pos w, if_pos w]
      exact ⟨0, q, rfl, tl0, fq_rfl _, hx⟩
    · rw [if_neg w, if_neg w]
      exact ⟨1, q, rfl, tl1, fq_rfl _, hx⟩
  | succ m ih =>
    intro z t a3 s q e1 e2 e3 e4 hx k27 k28
    have el : lo need (c (18 + p)) rl (Bz F c p 0) (Bz F c p 1) r (m + 1) z s = if bit r z then (c (18 + p)).toInt * lo need (c (18 + p)) rl (Bz F c p 0) (Bz F c p 1) r m (z + 1) s + (12 - (c (18 + p)).toInt) * lo need (c (18 + p)) rl (Bz F c p 0) (Bz F c p 1) r m (z + 1) (tg rl s (Bz F c p 1 z)) else 12 * lo need (c (18 + p)) rl (Bz F c p 0) (Bz F c p 1) r m (z + 1) (tg rl s (Bz F c p 0 z)) := rfl
    have B0r : 0 ≤ (Bz F c p 0 z).toInt ∧ (Bz F c p 0 z).toInt ≤ 129 := BP_rng hb F (GL c p z (Int32.ofNat z) 0) 0
    have B1r : 0 ≤ (Bz F c p 1 z).toInt ∧ (Bz F c p 1 z).toInt ≤ 129 := BP_rng hb F (GL c p z (Int32.ofNat z) 0) 1
    have t0 := tg_ge (a := s) ⟨e3, by omega⟩ B0r rl
    have t1 := tg_ge (a := s) ⟨e3, by omega⟩ B1r rl
    have j39 : ∀ run : Int32, ∃ q1, x12_lastOn_j39 (g_x12_lastOn (d + m + 1)) a1 nr a3 s run q = x12_lastOn_j82 (g_x12_lastOn (d + m + 1)) a1 nr a3 s run (tg rl s (Bz F c p run z)) q1 ∧ fq q q1 ∧ rx F c sp 0 q1 := by
      intro run
      obtain ⟨q1, y1, y2, y3⟩ := pointsBest_eq hx hb hp h6 e1 (by omega) a3 run
      refine ⟨q1, ?_, y2, y3⟩
      unfold x12_lastOn_j39
      rw [y1, mm_cl_s, ← hrl, mm_ofn e1]
      unfold tg mm_max
      rcases hrl2 with e | e
      · rw [if_neg (by rw [e]; decide), if_pos e]
        by_cases w : Bz F c p run z ≤ s
        · rw [if_pos w, if_neg (Int32.not_lt.mpr w)]
        · rw [if_neg w, if_pos (Int32.not_le.mp w)]
      · rw [if_pos e, if_neg (by rw [e]; decide)]
    have p8 := pw_8 m (by omega)
    show ∃ (v : Int64) (q' : mm_Q), x12_lastOn (g_x12_lastOn (d + m + 1)) a1 nr a3 s q = _ ∧ _
    unfold x12_lastOn
    have eb : bit r z ↔ (r >>> (a3 &&& 31)) &&& 1 = 1 := by rw [mm_ofn e1]
    rw [if_neg (by rw [eq32, e1, h10]; omega), isIn_eq, mm_cl_s, k28, el]
    by_cases b : bit r z
    · rw [if_neg (by rw [mm_p0]; exact fun w => w (eb.mp b)), if_pos b]
      obtain ⟨q1, y1, y2, y3⟩ := j39 1
      rw [y1]
      have e3' := ofSpitter_eq (q := q1) (a2 := 3) hp h6 (w := 3) (by decide) (by decide)
      rw [show 6 * 3 + p = 18 + p by omega, y3.1 (18 + p) (by omega)] at e3'
      unfold x12_lastOn_j82
      rw [if_pos rfl, e3', mm_cl_s]
      unfold x12_lastOn_j100
      obtain ⟨v1, q2, z1, z2, z3, z4⟩ := ih (z + 1) 0 (a3 + 1) (tg rl s (Bz F c p 1 z)) q1 (mm_inc1 e1 (by omega)) (by omega) (by omega) (by omega) y3 (by rw [y2.2 27 (by decide)]; exact k27) (by rw [y2.2 28 (by decide)]; exact k28)
      have g1 := lo_rng (need := need) (rl := rl) (B0 := Bz F c p 0) (B1 := Bz F c p 1) hs0 hs1 r m (z + 1) (tg rl s (Bz F c p 1 z))
      have g2 := lo_rng (need := need) (rl := rl) (B0 := Bz F c p 0) (B1 := Bz F c p 1) hs0 hs1 r m (z + 1) s
      -- what is added for a slip
      have tail : ∀ (s0 : Int64) (qa : mm_Q), 0 ≤ s0.toInt → s0.toInt ≤ 5159780352 → fq q qa → rx F c sp 0 qa → ∃ (v : Int64) (q' : mm_Q), x12_lastOn_j131 (g_x12_lastOn (d + m + 1)) a1 nr a3 s (c (18 + p)) s0 qa = some (v, q') ∧ v.toInt = (c (18 + p)).toInt * lo need (c (18 + p)) rl (Bz F c p 0) (Bz F c p 1) r m (z + 1) s + s0.toInt ∧ fq q q' ∧ rx F c sp 0 q' := by
        intro s0 qa u0 u1 fa xa
        unfold x12_lastOn_j131
        by_cases w : c (18 + p) = 0
        · rw [if_pos w]
          refine ⟨s0, qa, rfl, ?_, fa, xa⟩
          rw [w, ti0, Int.zero_mul, Int.zero_add]
        · rw [if_neg w]
          obtain ⟨v2, q3, w1, w2, w3, w4⟩ := ih (z + 1) 0 (a3 + 1) s qa (mm_inc1 e1 (by omega)) (by omega) (by omega) (by omega) xa (by rw [fa.2 27 (by decide)]; exact k27) (by rw [fa.2 28 (by decide)]; exact k28)
          rw [w1, mm_cl_s]
          refine ⟨_, q3, rfl, ?_, fq_trans fa w3, w4⟩
          have b1 := Int.mul_nonneg hs0 g2.1
          have b2 := Int.mul_le_mul hs1 (show lo need (c (18 + p)) rl (Bz F c p 0) (Bz F c p 1) r m (z + 1) s ≤ 429981696 by omega) g2.1 (by omega)
          have e5 : ((c (18 + p)).toInt64 * v2).toInt = (c (18 + p)).toInt * lo need (c (18 + p)) rl (Bz F c p 0) (Bz F c p 1) r m (z + 1) s := by
            rw [ml_mul (by rw [mm_i64, w2]; omega) (by rw [mm_i64, w2]; omega), mm_i64, w2]
          rw [ml_add (by rw [e5]; omega) (by rw [e5]; omega), e5]
          omega
      by_cases w : c (18 + p) = 12
      · rw [if_pos w]
        obtain ⟨v, q', x1, x2, x3⟩ := tail 0 q1 (by rw [tl0]; omega) (by rw [tl0]; omega) y2 y3
        refine ⟨v, q', x1, ?_, x3⟩
        rw [x2, tl0, w, ti12]
        omega
      · rw [if_neg w, z1, mm_cl_s]
        have e12 : (((12 : Int32) - c (18 + p)).toInt64).toInt = 12 - (c (18 + p)).toInt := by rw [mm_i64, mm_sub_ti (by rw [ti12]; omega) (by rw [ti12]; omega), ti12]
        have b3 := Int.mul_nonneg (show 0 ≤ 12 - (c (18 + p)).toInt by omega) g1.1
        have b4 := Int.mul_le_mul (show 12 - (c (18 + p)).toInt ≤ 12 by omega) (show lo need (c (18 + p)) rl (Bz F c p 0) (Bz F c p 1) r m (z + 1) (tg rl s (Bz F c p 1 z)) ≤ 429981696 by omega) g1.1 (by omega)
        have e6 : (((12 : Int32) - c (18 + p)).toInt64 * v1).toInt = (12 - (c (18 + p)).toInt) * lo need (c (18 + p)) rl (Bz F c p 0) (Bz F c p 1) r m (z + 1) (tg rl s (Bz F c p 1 z)) := by
          rw [ml_mul (by rw [e12, z2]; omega) (by rw [e12, z2]; omega), e12, z2]
        obtain ⟨v, q', x1, x2, x3⟩ := tail (((12 : Int32) - c (18 + p)).toInt64 * v1) q2 (by rw [e6]; exact b3) (by rw [e6]; omega) (fq_trans y2 z3) z4
        refine ⟨v, q', x1, ?_, x3⟩
        rw [x2, e6]
    · rw [if_pos (by rw [mm_p0]; exact fun w => b (eb.mpr w)), if_neg b]
      obtain ⟨q1, y1, y2, y3⟩ := j39 0
      rw [y1]
      unfold x12_lastOn_j82 x12_lastOn_j100
      rw [if_neg (by decide), if_neg (by decide)]
      obtain ⟨v1, q2, z1, z2, z3, z4⟩ := ih (z + 1) 0 (a3 + 1) (tg rl s (Bz F c p 0 z)) q1 (mm_inc1 e1 (by omega)) (by omega) (by omega) (by omega) y3 (by rw [y2.2 27 (by decide)]; exact k27) (by rw [y2.2 28 (by decide)]; exact k28)
      have g1 := lo_rng (need := need) (rl := rl) (B0 := Bz F c p 0) (B1 := Bz F c p 1) hs0 hs1 r m (z + 1) (tg rl s (Bz F c p 0 z))
      rw [z1, mm_cl_s]
      unfold x12_lastOn_j131
      rw [if_pos rfl]
      refine ⟨_, q2, rfl, ?_, fq_trans y2 z3, z4⟩
      rw [show ((12 : Int32) - 0).toInt64 = 12 by decide, ml_mul (by rw [tl12, z2]; omega) (by rw [tl12, z2]; omega), tl12, z2]
end LR12
