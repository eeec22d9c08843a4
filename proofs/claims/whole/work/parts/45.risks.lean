/-! the risk of n tries -/
def pw : Nat → Int
  | 0 => 1
  | n + 1 => 12 * pw n
theorem pw_s (n : Nat) : pw (n + 1) = 12 * pw n := rfl
theorem pw_rng : ∀ n, n ≤ 9 → 1 ≤ pw n ∧ pw n ≤ 5159780352 := by decide
theorem pw_8 : ∀ n, n ≤ 8 → 1 ≤ pw n ∧ pw n ≤ 429981696 := by decide
/-- a product of so many, from place j on -/
def Qd (e : Nat → Int) : Nat → Nat → Int
  | _, 0 => 1
  | j, m + 1 => e j * Qd e (j + 1) m
theorem Qd_rng {e : Nat → Int} (h : ∀ i, 0 ≤ e i ∧ e i ≤ 12) : ∀ m j, 0 ≤ Qd e j m ∧ Qd e j m ≤ pw m
  | 0, _ => ⟨by show (0 : Int) ≤ 1; omega, by show (1 : Int) ≤ 1; omega⟩
  | m + 1, j => by
    obtain ⟨a, b⟩ := Qd_rng h m (j + 1)
    refine ⟨Int.mul_nonneg (h j).1 a, ?_⟩
    show e j * Qd e (j + 1) m ≤ 12 * pw m
    exact Int.mul_le_mul (h j).2 b a (by omega)
theorem mul_rng {L c : Int} (h0 : 0 ≤ L) (c0 : 0 ≤ c) (c1 : c ≤ 12) : 0 ≤ L * (12 - c) ∧ L * (12 - c) ≤ 12 * L := by
  refine ⟨Int.mul_nonneg h0 (by omega), ?_⟩
  rw [Int.mul_comm]
  exact Int.mul_le_mul_of_nonneg_right (by omega) h0
theorem min_mul {L a b : Int} (h0 : 0 ≤ L) : min (L * (12 - a)) (L * (12 - b)) = L * (12 - max a b) := by
  by_cases h : a ≤ b
  · have := Int.mul_le_mul_of_nonneg_left (show 12 - b ≤ 12 - a by omega) h0
    rw [show max a b = b by omega]
    omega
  · have := Int.mul_le_mul_of_nonneg_left (show 12 - a ≤ 12 - b by omega) h0
    rw [show max a b = a by omega]
    omega
section RK
variable {F : mm_F} {c : Nat → Int32} {sp : Int32} {a1 a2 : Int32} {p s : Nat}
abbrev CT (F : mm_F) (c : Nat → Int32) (p s : Nat) (k x : Int32) (i : Nat) (r : Int32) : Int32 := CH F c (GL c p s (k + Int32.ofNat i) 0) p x r
abbrev ce (F : mm_F) (c : Nat → Int32) (p s : Nat) (k x : Int32) (i : Nat) : Int := 12 - max (CT F c p s k x i 0).toInt (CT F c p s k x i 1).toInt
theorem CT_rng (hb : bd sp c) (hs6 : sp.toInt ≤ 6) (hps : (p : Int) < sp.toInt) (F : mm_F) (s : Nat) (k x : Int32) (i : Nat) (r : Int32) : 0 ≤ (CT F c p s k x i r).toInt ∧ (CT F c p s k x i r).toInt ≤ 12 := CH_rng hb hs6 hps F _ x r
theorem ce_rng (hb : bd sp c) (hs6 : sp.toInt ≤ 6) (hps : (p : Int) < sp.toInt) (F : mm_F) (s : Nat) (k x : Int32) (i : Nat) : 0 ≤ ce F c p s k x i ∧ ce F c p s k x i ≤ 12 := by
  have c0 := CT_rng hb hs6 hps F s k x i 0
  have c1 := CT_rng hb hs6 hps F s k x i 1
  show 0 ≤ 12 - max (CT F c p s k x i 0).toInt (CT F c p s k x i 1).toInt ∧ 12 - max (CT F c p s k x i 0).toInt (CT F c p s k x i 1).toInt ≤ 12
  omega
theorem ml_mul12 {b : Int64} {x : Int32} {L : Int} (hL : b.toInt = L) (h0 : 0 ≤ L) (h1 : L ≤ 429981696) (x0 : 0 ≤ x.toInt) (x1 : x.toInt ≤ 12) : (b * ((12 - x).toInt64)).toInt = L * (12 - x.toInt) := by
  have e : ((12 - x).toInt64).toInt = 12 - x.toInt := by rw [mm_i64, mm_sub_ti (by rw [ti12]; omega) (by rw [ti12]; omega), ti12]
  have r := mul_rng h0 x0 x1
  rw [ml_mul (by rw [hL, e]; omega) (by rw [hL, e]; omega), hL, e]
theorem mnl_ti (a b : Int64) : (mm_mnl a b).toInt = min a.toInt b.toInt := by
  unfold mm_mnl
  by_cases h : b < a
  · rw [if_pos h]
    rw [lt64] at h
    omega
  · rw [if_neg h]
    rw [lt64] at h
    omega
theorem weigh_h (hb : bd sp c) (hs6 : sp.toInt ≤ 6) (hp : a1.toInt = p) (hps : (p : Int) < sp.toInt) (hs : (a2 / 1000).toInt = s) (h9 : s < 9) {x a4 : Int32} {n : Nat} (h4 : a4.toInt = n) (hn : n ≤ 9) {f : Nat} : ∀ (m j : Nat) (b5 : Int64) (L : Int) (a7 : Int32) (q : mm_Q), a7.toInt = ((j + 1 : Nat) : Int) → j + 1 + m = n → b5.toInt = L → 0 ≤ L → L ≤ pw j → (q.2 35 8).toInt = pw j → cw F c sp q → ∃ q', x7_weighTries_h11 (f + m + 1) a1 a2 x a4 b5 a7 q = some ((), q') ∧ fk q q' ∧ (q'.2 35 8).toInt = pw n ∧ (q'.2 35 7).toInt = pw n - min ((L * Qd (ce F c p s (mm_rem a2 1000) x) (j + 1) m) * (12 - (CT F c p s (mm_rem a2 1000) x 0 1).toInt)) ((L * Qd (ce F c p s (mm_rem a2 1000) x) (j + 1) m) * (12 - (CT F c p s (mm_rem a2 1000) x 0 0).toInt)) ∧ q'.1 35 9 = if (L * Qd (ce F c p s (mm_rem a2 1000) x) (j + 1) m) * (12 - (CT F c p s (mm_rem a2 1000) x 0 1).toInt) < (L * Qd (ce F c p s (mm_rem a2 1000) x) (j + 1) m) * (12 - (CT F c p s (mm_rem a2 1000) x 0 0).toInt) then 1 else 0 := by
  have cr : ∀ i r, 0 ≤ (CT F c p s (mm_rem a2 1000) x i r).toInt ∧ (CT F c p s (mm_rem a2 1000) x i r).toInt ≤ 12 := fun i r => CT_rng hb hs6 hps F s (mm_rem a2 1000) x i r
  intro m
  induction m with
  | zero =>
    intro j b5 L a7 q h1 h2 h3 h0 h0' h8 hx
    have hj := pw_8 j (by omega)
    have w0 : cw F c sp (mm_sj q 35 8 (q.2 35 8 * 12)) := hx
    obtain ⟨q1, y1, y2, y3⟩ := take_eq w0 hs6 hp hps hs h9 (mm_rem a2 1000)
    have g8 : q1.1 8 1 = sp := by rw [y3.2 8 (by decide)]; exact w0.2.1
    obtain ⟨q2, y4, y5⟩ := chances_eq y2 g8 hs6 hp hps x 0
    have y6 := cx_fr y2 y5 (by decide) (by decide) (by decide) (by decide)
    obtain ⟨q3, y7, y8⟩ := chances_eq y6 (by rw [y5.2 8 (by decide)]; exact g8) hs6 hp hps x 1
    rw [CH_tk hb F h9] at y4 y7
    have k0 : mm_rem a2 1000 + Int32.ofNat 0 = mm_rem a2 1000 := Int32.add_zero _
    have c0 : CT F c p s (mm_rem a2 1000) x 0 0 = CH F c (GL c p s (mm_rem a2 1000) 0) p x 0 := by
      show CH F c (GL c p s (mm_rem a2 1000 + Int32.ofNat 0) 0) p x 0 = _
      rw [k0]
    have c1 : CT F c p s (mm_rem a2 1000) x 0 1 = CH F c (GL c p s (mm_rem a2 1000) 0) p x 1 := by
      show CH F c (GL c p s (mm_rem a2 1000 + Int32.ofNat 0) 0) p x 1 = _
      rw [k0]
    rw [← c0] at y4
    rw [← c1] at y7
    have f3 : fk (mm_sj q 35 8 (q.2 35 8 * 12)) q3 := fk_trans (fk_trans (fk_fr y3 (by decide)) (fk_fr y5 (by decide))) (fk_fr y8 (by decide))
    have l3 : q3.2 = (mm_sj q 35 8 (q.2 35 8 * 12)).2 := by rw [y8.1, y5.1, y3.1]
    have fsj : fk q (mm_sj q 35 8 (q.2 35 8 * 12)) := ⟨fun _ _ => rfl, fun k hk => mm_sj_ne q 35 8 _ (fun z => hk (by rw [z]; decide))⟩
    have e8 : (q.2 35 8 * 12).toInt = pw (j + 1) := by
      rw [ml_mul (by rw [h8, tl12]; omega) (by rw [h8, tl12]; omega), h8, tl12, pw_s]
      omega
    have m0 := ml_mul12 h3 h0 (by omega) (cr 0 0).1 (cr 0 0).2
    have m1 := ml_mul12 h3 h0 (by omega) (cr 0 1).1 (cr 0 1).2
    have Q1 : L * Qd (ce F c p s (mm_rem a2 1000) x) (j + 1) 0 = L := Int.mul_one L
    rw [Q1]
    have r0 := mul_rng h0 (cr 0 0).1 (cr 0 0).2
    have r1 := mul_rng h0 (cr 0 1).1 (cr 0 1).2
    have hn' : n = j + 1 := by omega
    have p9 := pw_rng (j + 1) (by omega)
    rw [hn']
    rw [show f + 0 + 1 = f + 1 from rfl, x7_weighTries_h11, if_pos (by rw [le32]; omega), mm_lt_s, y1, mm_cl_s, y4, mm_cl_s, y7, mm_cl_s]
    have fin : ∀ v : Int32, mm_bb v = true → x7_weighTries_j159 (b5 * (12 - CT F c p s (mm_rem a2 1000) x 0 0).toInt64) (b5 * (12 - CT F c p s (mm_rem a2 1000) x 0 1).toInt64) v q3 = some ((), mm_sj (mm_si q3 35 9 v) 35 7 ((mm_si q3 35 9 v).2 35 8 - mm_mnl (b5 * (12 - CT F c p s (mm_rem a2 1000) x 0 1).toInt64) (b5 * (12 - CT F c p s (mm_rem a2 1000) x 0 0).toInt64))) := by
      intro v hv
      unfold x7_weighTries_j159
      rw [mm_ck_t hv, mm_lt_s, mm_lt_s]
    have props : ∀ v : Int32, fk q (mm_sj (mm_si q3 35 9 v) 35 7 ((mm_si q3 35 9 v).2 35 8 - mm_mnl (b5 * (12 - CT F c p s (mm_rem a2 1000) x 0 1).toInt64) (b5 * (12 - CT F c p s (mm_rem a2 1000) x 0 0).toInt64))) ∧ ((mm_sj (mm_si q3 35 9 v) 35 7 ((mm_si q3 35 9 v).2 35 8 - mm_mnl (b5 * (12 - CT F c p s (mm_rem a2 1000) x 0 1).toInt64) (b5 * (12 - CT F c p s (mm_rem a2 1000) x 0 0).toInt64))).2 35 8).toInt = pw (j + 1) ∧ ((mm_sj (mm_si q3 35 9 v) 35 7 ((mm_si q3 35 9 v).2 35 8 - mm_mnl (b5 * (12 - CT F c p s (mm_rem a2 1000) x 0 1).toInt64) (b5 * (12 - CT F c p s (mm_rem a2 1000) x 0 0).toInt64))).2 35 7).toInt = pw (j + 1) - min (L * (12 - (CT F c p s (mm_rem a2 1000) x 0 1).toInt)) (L * (12 - (CT F c p s (mm_rem a2 1000) x 0 0).toInt)) := by
      intro v
      have l8 : (mm_si q3 35 9 v).2 35 8 = q.2 35 8 * 12 := by
        show q3.2 35 8 = _
        rw [l3, mm_sj_self]
        rfl
      refine ⟨⟨fun k hk => ?_, fun k hk => ?_⟩, ?_, ?_⟩
      · show (mm_si q3 35 9 v).1 k = _
        rw [mm_si_ne _ _ _ _ (fun z => hk (by rw [z]; decide)), f3.1 k hk]
        rfl
      · rw [mm_sj_ne _ _ _ _ (fun z => hk (by rw [z]; decide))]
        show q3.2 k = _
        rw [f3.2 k hk, fsj.2 k hk]
      · rw [mm_sj_self]
        show ((mm_si q3 35 9 v).2 35 8).toInt = _
        rw [l8, e8]
      · rw [mm_sj_self]
        show ((mm_si q3 35 9 v).2 35 8 - mm_mnl _ _).toInt = _
        rw [l8, ml_sub (by rw [e8, mnl_ti, m0, m1]; omega) (by rw [e8, mnl_ti, m0, m1]; omega), e8, mnl_ti, m0, m1]
    by_cases z : L * (12 - (CT F c p s (mm_rem a2 1000) x 0 1).toInt) < L * (12 - (CT F c p s (mm_rem a2 1000) x 0 0).toInt)
    · rw [if_neg (fun w => by rw [mm_cmp_ge, le64, m0, m1] at w; omega), fin 1 (by decide)]
      obtain ⟨u1, u2, u3⟩ := props 1
      refine ⟨_, rfl, u1, u2, u3, ?_⟩
      rw [if_pos z]
      show (mm_si q3 35 9 1).1 35 9 = 1
      rw [mm_si_self, upd_self]
    · rw [if_pos (by rw [mm_cmp_ge, le64, m0, m1]; omega), fin 0 (by decide)]
      obtain ⟨u1, u2, u3⟩ := props 0
      refine ⟨_, rfl, u1, u2, u3, ?_⟩
      rw [if_neg z]
      show (mm_si q3 35 9 0).1 35 9 = 0
      rw [mm_si_self, upd_self]
  | succ m ih =>
    intro j b5 L a7 q h1 h2 h3 h0 h0' h8 hx
    have hj := pw_8 j (by omega)
    obtain ⟨q1, y1, y2, y3⟩ := take_eq hx hs6 hp hps hs h9 (mm_rem a2 1000 + a7)
    have g8 : q1.1 8 1 = sp := by rw [y3.2 8 (by decide)]; exact hx.2.1
    obtain ⟨q2, y4, y5⟩ := chances_eq y2 g8 hs6 hp hps x 0
    have y6 := cx_fr y2 y5 (by decide) (by decide) (by decide) (by decide)
    obtain ⟨q3, y7, y8⟩ := chances_eq y6 (by rw [y5.2 8 (by decide)]; exact g8) hs6 hp hps x 1
    rw [CH_tk hb F h9, mm_ofn h1] at y4 y7
    have f3 : fr [12, 13, 14] q q3 := fr_trans (fr_trans (fr_mono y3 (by decide)) (fr_mono y5 (by decide))) (fr_mono y8 (by decide))
    have e8 : (q3.2 35 8 * 12).toInt = pw (j + 1) := by
      rw [f3.1, ml_mul (by rw [h8, tl12]; omega) (by rw [h8, tl12]; omega), h8, tl12, pw_s]
      omega
    have mx : (mm_max (CT F c p s (mm_rem a2 1000) x (j + 1) 0) (CT F c p s (mm_rem a2 1000) x (j + 1) 1)).toInt = max (CT F c p s (mm_rem a2 1000) x (j + 1) 0).toInt (CT F c p s (mm_rem a2 1000) x (j + 1) 1).toInt := max_ti _ _
    have u0 := cr (j + 1) 0
    have u1 := cr (j + 1) 1
    have mm := ml_mul12 (x := mm_max (CT F c p s (mm_rem a2 1000) x (j + 1) 0) (CT F c p s (mm_rem a2 1000) x (j + 1) 1)) h3 h0 (by omega) (by rw [mx]; omega) (by rw [mx]; omega)
    rw [mx] at mm
    have r := mul_rng (c := max (CT F c p s (mm_rem a2 1000) x (j + 1) 0).toInt (CT F c p s (mm_rem a2 1000) x (j + 1) 1).toInt) h0 (by omega) (by omega)
    have hx3' : cw F c sp q3 := cw_fr hx f3 (by decide) (by decide) (by decide) (by decide)
    have hx3 : cw F c sp (mm_sj q3 35 8 (q3.2 35 8 * 12)) := hx3'
    obtain ⟨q4, z1, z2, z3, z4, z5⟩ := ih (j + 1) _ _ (a7 + 1) (mm_sj q3 35 8 (q3.2 35 8 * 12)) (mm_inc1 h1 (by omega)) (by omega) mm r.1 (by rw [pw_s]; omega) (by rw [mm_sj_self]; exact e8) hx3
    have QQ : L * (12 - max (CT F c p s (mm_rem a2 1000) x (j + 1) 0).toInt (CT F c p s (mm_rem a2 1000) x (j + 1) 1).toInt) * Qd (ce F c p s (mm_rem a2 1000) x) (j + 1 + 1) m = L * Qd (ce F c p s (mm_rem a2 1000) x) (j + 1) (m + 1) := by
      rw [Int.mul_assoc]
      rfl
    rw [QQ] at z4 z5
    have fsj : fk q3 (mm_sj q3 35 8 (q3.2 35 8 * 12)) := ⟨fun _ _ => rfl, fun k hk => mm_sj_ne q3 35 8 _ (fun z => hk (by rw [z]; decide))⟩
    refine ⟨q4, ?_, fk_trans (fk_trans (fk_fr f3 (by decide)) fsj) z2, z3, z4, z5⟩
    rw [show f + (m + 1) + 1 = (f + m + 1) + 1 by omega, x7_weighTries_h11, if_neg (by rw [le32]; omega), y1, mm_cl_s, y4, mm_cl_s, y7, mm_cl_s, mm_lt_s]
    exact z1
/-- one try of the reference, from the last one on -/
theorem risks_s (hb : bd sp c) (hs6 : sp.toInt ≤ 6) (hp : a1.toInt = p) (hps : (p : Int) < sp.toInt) (hs : (a2 / 1000).toInt = s) (h9 : s < 9) {a3 a4 a9 : Int32} {i : Nat} (h1 : a9.toInt = i) {C W : Int64} {L : Int} (hW : 1 ≤ W.toInt ∧ W.toInt ≤ 429981696) (hC : C.toInt = W.toInt - L) (h0 : 0 ≤ L) (hL : L ≤ W.toInt) {q : mm_Q} (hx : rx F c sp 0 q) (n : Nat) : ∃ (q' : mm_Q) (C' W' : Int64), x12_risks_h68 (n + 1) a1 a2 a3 a4 C W a9 q = x12_risks_h68 n a1 a2 a3 a4 C' W' (a9 + Int32.ofInt (-1)) q' ∧ fz q q' ∧ rx F c sp 0 q' ∧ W'.toInt = 12 * W.toInt ∧ C'.toInt = 12 * W.toInt - min (L * (12 - (CT F c p s (mm_rem a2 1000) (a3 / 10) i 1).toInt)) (L * (12 - (CT F c p s (mm_rem a2 1000) (a3 / 10) i 0).toInt)) ∧ q'.1 52 24 = if L * (12 - (CT F c p s (mm_rem a2 1000) (a3 / 10) i 1).toInt) < L * (12 - (CT F c p s (mm_rem a2 1000) (a3 / 10) i 0).toInt) then 1 else 0 := by
  obtain ⟨q1, y1, y2, y3⟩ := beats_eq hx hb hp (by omega) hs h9 (mm_rem a2 1000 + a9) (a3 / 10) 1
  obtain ⟨q2, y4, y5, y6⟩ := beats_eq y3 hb hp (by omega) hs h9 (mm_rem a2 1000 + a9) (a3 / 10) 0
  rw [mm_ofn h1] at y1 y4
  have y1 : x12_beats a1 (a2 / 1000) (mm_rem a2 1000 + Int32.ofNat i) (a3 / 10) 1 q = some (CT F c p s (mm_rem a2 1000) (a3 / 10) i 1, q1) := y1
  have y4 : x12_beats a1 (a2 / 1000) (mm_rem a2 1000 + Int32.ofNat i) (a3 / 10) 0 q1 = some (CT F c p s (mm_rem a2 1000) (a3 / 10) i 0, q2) := y4
  have c0 := CT_rng hb hs6 hps F s (mm_rem a2 1000) (a3 / 10) i 0
  have c1 := CT_rng hb hs6 hps F s (mm_rem a2 1000) (a3 / 10) i 1
  have sum : ∀ r : Int32, 0 ≤ r.toInt → r.toInt ≤ 12 → (r.toInt64 * W + (12 - r.toInt64) * C).toInt = 12 * W.toInt - L * (12 - r.toInt) := by
    intro r h0' h1'
    have e1 : (r.toInt64).toInt = r.toInt := mm_i64 r
    have e2 : ((12 : Int64) - r.toInt64).toInt = 12 - r.toInt := by rw [ml_sub (by rw [tl12, e1]; omega) (by rw [tl12, e1]; omega), tl12, e1]
    have m1 := Int.mul_le_mul_of_nonneg_right (show r.toInt ≤ 12 by omega) (show 0 ≤ W.toInt by omega)
    have m2 := Int.mul_nonneg h0' (show 0 ≤ W.toInt by omega)
    have m3 := Int.mul_le_mul_of_nonneg_right (show 12 - r.toInt ≤ 12 by omega) (show 0 ≤ W.toInt - L by omega)
    have m4 := Int.mul_nonneg (show 0 ≤ 12 - r.toInt by omega) (show 0 ≤ W.toInt - L by omega)
    have t1 : (r.toInt64 * W).toInt = r.toInt * W.toInt := by rw [ml_mul (by rw [e1]; omega) (by rw [e1]; omega), e1]
    have t2 : (((12 : Int64) - r.toInt64) * C).toInt = (12 - r.toInt) * (W.toInt - L) := by rw [ml_mul (by rw [e2, hC]; omega) (by rw [e2, hC]; omega), e2, hC]
    rw [ml_add (by rw [t1, t2]; omega) (by rw [t1, t2]; omega), t1, t2]
    simp only [Int.sub_mul, Int.mul_sub]
    have m5 : r.toInt * L = L * r.toInt := Int.mul_comm _ _
    omega
  have s1 := sum _ c1.1 c1.2
  have s0 := sum _ c0.1 c0.2
  have r0 := mul_rng h0 c0.1 c0.2
  have r1 := mul_rng h0 c1.1 c1.2
  have w12 : (W * 12).toInt = 12 * W.toInt := by rw [ml_mul (by rw [tl12]; omega) (by rw [tl12]; omega), tl12]; omega
  have fzz : ∀ v : Int32, fz q (mm_si q2 52 24 v) := fun v => fz_trans (fz_trans (fz_fq y2) (fz_fq y5)) ⟨fun k hk => mm_si_ne q2 52 24 v (fun z => hk (by rw [z]; decide)), rfl, fun k hk => by
    rw [mm_si_self]
    exact upd_ne _ _ _ (fun z => hk (by rw [z]; decide))⟩
  have rxx : ∀ v : Int32, rx F c sp 0 (mm_si q2 52 24 v) := fun v => y6
  by_cases z : L * (12 - (CT F c p s (mm_rem a2 1000) (a3 / 10) i 1).toInt) < L * (12 - (CT F c p s (mm_rem a2 1000) (a3 / 10) i 0).toInt)
  · refine ⟨mm_si q2 52 24 1, (CT F c p s (mm_rem a2 1000) (a3 / 10) i 1).toInt64 * W + (12 - (CT F c p s (mm_rem a2 1000) (a3 / 10) i 1).toInt64) * C, W * 12, ?_, fzz 1, rxx 1, w12, ?_, ?_⟩
    · rw [x12_risks_h68, if_neg (by rw [lt32, ti0]; omega), mm_ofn h1, y1, mm_cl_s, y4, mm_cl_s, if_neg (fun w => by rw [mm_cmp_le, le64, s0, s1] at w; omega)]
      unfold x12_risks_j173 x12_risks_j191
      rw [mm_lt_s, if_neg (fun w => by rw [mm_cmp_le, le64, s0, s1] at w; omega)]
    · rw [s1]; omega
    · rw [if_pos z, mm_si_self, upd_self]
  · refine ⟨mm_si q2 52 24 0, (CT F c p s (mm_rem a2 1000) (a3 / 10) i 0).toInt64 * W + (12 - (CT F c p s (mm_rem a2 1000) (a3 / 10) i 0).toInt64) * C, W * 12, ?_, fzz 0, rxx 0, w12, ?_, ?_⟩
    · rw [x12_risks_h68, if_neg (by rw [lt32, ti0]; omega), mm_ofn h1, y1, mm_cl_s, y4, mm_cl_s, if_pos (by rw [mm_cmp_le, le64, s0, s1]; omega)]
      unfold x12_risks_j173 x12_risks_j191
      rw [mm_lt_s, if_pos (by rw [mm_cmp_le, le64, s0, s1]; omega)]
    · rw [s0]; omega
    · rw [if_neg z, mm_si_self, upd_self]
/-- all but the first try -/
theorem risks_h (hb : bd sp c) (hs6 : sp.toInt ≤ 6) (hp : a1.toInt = p) (hps : (p : Int) < sp.toInt) (hs : (a2 / 1000).toInt = s) (h9 : s < 9) {a3 a4 : Int32} {n : Nat} (hn : n ≤ 9) {f : Nat} : ∀ (m : Nat) (C W : Int64) (a9 : Int32) (q : mm_Q), a9.toInt = m → m + 1 ≤ n → W.toInt = pw (n - 1 - m) → C.toInt = W.toInt - Qd (ce F c p s (mm_rem a2 1000) (a3 / 10)) (m + 1) (n - 1 - m) → rx F c sp 0 q → ∃ (q' : mm_Q) (C' W' : Int64), x12_risks_h68 (f + m) a1 a2 a3 a4 C W a9 q = x12_risks_h68 f a1 a2 a3 a4 C' W' 0 q' ∧ fz q q' ∧ rx F c sp 0 q' ∧ W'.toInt = pw (n - 1) ∧ C'.toInt = W'.toInt - Qd (ce F c p s (mm_rem a2 1000) (a3 / 10)) 1 (n - 1) := by
  intro m
  induction m with
  | zero =>
    intro C W a9 q h1 h2 h3 h4 hx
    have e0 : a9 = 0 := by rw [eq32, h1, ti0]; omega
    refine ⟨q, C, W, ?_, fz_rfl q, hx, h3, h4⟩
    rw [e0]
    rfl
  | succ m ih =>
    intro C W a9 q h1 h2 h3 h4 hx
    have er : ∀ i, 0 ≤ ce F c p s (mm_rem a2 1000) (a3 / 10) i ∧ ce F c p s (mm_rem a2 1000) (a3 / 10) i ≤ 12 := fun i => ce_rng hb hs6 hps F s (mm_rem a2 1000) (a3 / 10) i
    have hq := Qd_rng er (n - 1 - (m + 1)) (m + 1 + 1)
    have hp8 := pw_8 (n - 1 - (m + 1)) (by omega)
    obtain ⟨q1, C1, W1, y1, y2, y3, y4, y5, -⟩ := risks_s (a3 := a3) (a4 := a4) hb hs6 hp hps hs h9 (i := m + 1) h1 (C := C) (W := W) (L := Qd (ce F c p s (mm_rem a2 1000) (a3 / 10)) (m + 1 + 1) (n - 1 - (m + 1))) (by omega) h4 hq.1 (by omega) hx (f + m)
    have ew : n - 1 - m = (n - 1 - (m + 1)) + 1 := by omega
    have w1 : W1.toInt = pw (n - 1 - m) := by rw [y4, h3, ew, pw_s]
    have c1 : C1.toInt = W1.toInt - Qd (ce F c p s (mm_rem a2 1000) (a3 / 10)) (m + 1) (n - 1 - m) := by
      rw [y5, y4, min_mul hq.1, ew]
      show _ = _ - ce F c p s (mm_rem a2 1000) (a3 / 10) (m + 1) * Qd (ce F c p s (mm_rem a2 1000) (a3 / 10)) (m + 1 + 1) (n - 1 - (m + 1))
      rw [Int.mul_comm (ce F c p s (mm_rem a2 1000) (a3 / 10) (m + 1))]
      have : max (CT F c p s (mm_rem a2 1000) (a3 / 10) (m + 1) 1).toInt (CT F c p s (mm_rem a2 1000) (a3 / 10) (m + 1) 0).toInt = max (CT F c p s (mm_rem a2 1000) (a3 / 10) (m + 1) 0).toInt (CT F c p s (mm_rem a2 1000) (a3 / 10) (m + 1) 1).toInt := by omega
      rw [this]
    obtain ⟨q2, C2, W2, z1, z2, z3, z4, z5⟩ := ih C1 W1 (a9 + Int32.ofInt (-1)) q1 (by
      rw [show Int32.ofInt (-1) = (-1 : Int32) from rfl, mm_add_ti (by rw [tin1]; omega) (by rw [tin1]; omega), tin1]
      omega) (by omega) w1 c1 y3
    refine ⟨q2, C2, W2, ?_, fz_trans y2 z2, z3, z4, z5⟩
    rw [show f + (m + 1) = (f + m) + 1 by omega, y1]
    exact z1
end RK
theorem pr_risks (v0 v1 v2 v3 : Int32) : mm_pr (mm_Iv mm_LX) (x11_risks v0 v1 v2 v3) (x12_risks v0 v1 v2 v3) := by
  intro q h
  obtain ⟨F, hw, hb, ⟨hs0, hs6⟩, e6, hx, hd⟩ := mm_think h
  by_cases c2 : 0 ≤ v2.toInt
  · have n1 : (v2 / 10).toInt = v2.toInt / 10 := by rw [div_ti (by omega) (by decide), ti10]
    have n2 : (mm_rem v2 10).toInt = v2.toInt % 10 := by rw [rem_ti (by omega) (by decide), ti10]
    have n3 : (mm_rem v2 10 = 0) ↔ v2.toInt % 10 = 0 := by rw [eq32, ti0, n2]
    by_cases g : (0 ≤ v0.toInt ∧ v0.toInt < (q.1 8 1).toInt) ∧ (0 ≤ v1.toInt ∧ v1.toInt / 1000 < 9 ∧ v1.toInt % 1000 ≤ 99) ∧ (v2.toInt / 10 ≤ 999 ∧ 1 ≤ v2.toInt % 10) ∧ 0 ≤ v3.toInt ∧ v3.toInt ≤ 2
    · obtain ⟨g1, g2, g3, g4, g5⟩ := g
      obtain ⟨s1, s2, s3⟩ := sk_parts g2
      have hp := nat_of g1.1
      obtain ⟨m, hm⟩ : ∃ m : Nat, v2.toInt % 10 = ((m + 1 : Nat) : Int) := ⟨(v2.toInt % 10 - 1).toNat, by omega⟩
      have hn4 : (mm_rem v2 10).toInt = ((m + 1 : Nat) : Int) := by rw [n2, hm]
      have hm9 : m + 1 ≤ 9 := by omega
      have w0 : cw F (q.1 9) (q.1 8 1) (mm_sj q 35 8 1) := hw
      obtain ⟨q1, y1, y2, y3, y4, y5⟩ := weigh_h (x := v2 / 10) hb hs6 hp (by omega) s1 s2 hn4 hm9 (f := 999 - m) m 0 1 1 1 (mm_sj q 35 8 1) (by decide) (by omega) tl1 (by omega) (by decide) (by rw [mm_sj_self]; exact tl1) w0
      have fsj : fk q (mm_sj q 35 8 1) := ⟨fun _ _ => rfl, fun k hk => mm_sj_ne q 35 8 _ (fun z => hk (by rw [z]; decide))⟩
      have k1 : fk q q1 := fk_trans fsj y2
      obtain ⟨q2, C, W, z1, z2, z3, z4, z5⟩ := risks_h (a3 := v2) (a4 := v3) hb hs6 hp (by omega) s1 s2 hm9 (f := 1000 - m) m 0 1 (mm_rem v2 10 - 1) q1 (by rw [mm_sub_ti (by rw [ti1]; omega) (by rw [ti1]; omega), ti1, hn4]; omega) (by omega) (by rw [show m + 1 - 1 - m = 0 by omega]; decide) (by rw [show m + 1 - 1 - m = 0 by omega]; show (0 : Int64).toInt = (1 : Int64).toInt - 1; decide) (hx q1 k1)
      rw [show m + 1 - 1 = m by omega] at z4 z5
      have er := ce_rng hb hs6 (p := v0.toInt.toNat) (by omega) F (v1.toInt / 1000).toNat (mm_rem v1 1000) (v2 / 10)
      have hq := Qd_rng er m 1
      have hp8 := pw_8 m (by omega)
      obtain ⟨k, hk⟩ : ∃ k, 1000 - m = k + 1 + 1 := ⟨998 - m, by omega⟩
      obtain ⟨q3, C3, W3, u1, u2, u3, u4, u5, u6⟩ := risks_s (a3 := v2) (a4 := v3) hb hs6 hp (by omega) s1 s2 (a9 := 0) (i := 0) ti0 (C := C) (W := W) (L := Qd (ce F (q.1 9) v0.toInt.toNat (v1.toInt / 1000).toNat (mm_rem v1 1000) (v2 / 10)) 1 m) (by omega) z5 hq.1 (by omega) z3 (k + 1)
      rw [z4] at u4 u5
      rw [show 0 + 1 = 1 from rfl, Int.one_mul] at y4 y5
      have p9 := pw_rng (m + 1) hm9
      rw [pw_s] at y3 y4 p9
      have d0 := CT_rng hb hs6 (p := v0.toInt.toNat) (by omega) F (v1.toInt / 1000).toNat (mm_rem v1 1000) (v2 / 10) 0 0
      have d1 := CT_rng hb hs6 (p := v0.toInt.toNat) (by omega) F (v1.toInt / 1000).toNat (mm_rem v1 1000) (v2 / 10) 0 1
      have r0 := mul_rng hq.1 d0.1 d0.2
      have r1 := mul_rng hq.1 d1.1 d1.2
      have eC : C3 = q1.2 35 7 := by rw [eq64, u5, y4]
      have eW : W3 = q1.2 35 8 := by rw [eq64, u4, y3]
      have f52 : q1.1 52 6 = q.1 8 1 := by rw [k1.1 52 (by decide)]; exact e6
      have hX : x11_risks v0 v1 v2 v3 q = if v3 = 2 then mm_cl (x7_firstWithRun q1) (fun r15 q16 => if r15 = 0 then some ((0 : Int64), q16) else some ((1 : Int64), q16)) else mm_cl (x11_fractionPart (q1.2 35 7) (q1.2 35 8) v3 q1) (fun r22 q23 => some (r22, q23)) := by
        unfold x11_risks x7_weighTries
        rw [isSpitter4_eq, mm_cl_s, if_neg (by rw [mm_p0]; omega), sk11_eq, mm_cl_s, if_neg (by rw [mm_p0]; omega), if_neg (by rw [lt32, ti0]; omega), if_neg (by rw [lt32, ti999]; omega), if_neg (by rw [lt32, ti1]; omega), if_neg (by rw [lt32, ti0]; omega), if_pos (by rw [le32, ti2]; omega), mm_lt_s, show mm_fu = 999 - m + m + 1 by show 1000 = _; omega, y1, mm_cl_s]
        rfl
      have hM : x12_risks v0 v1 v2 v3 q1 = if v3 = 2 then some ((q3.1 52 24).toInt64, q3) else mm_cl (x12_partOf C3 W3 v3 q3) (fun r15 q16 => some (r15, q16)) := by
        unfold x12_risks
        rw [isSpitter12_eq (by rw [f52]; exact hs0), mm_cl_s, mm_i64, f52, if_neg (by rw [mm_p0]; omega), sk12_eq, mm_cl_s, if_neg (by rw [mm_p0]; omega), if_neg (by rw [lt32, ti0]; omega), if_neg (by rw [lt32, ti999]; omega), if_neg (by rw [eq32, ti0]; omega), within_eq, mm_cl_s, mm_i64, tl0, tl2, if_neg (by rw [mm_p0]; omega), show mm_fu = 1000 - m + m by show 1000 = _; omega, z1, hk, u1, show (0 : Int32) + Int32.ofInt (-1) = -1 from by decide, x12_risks_h68, if_pos (by decide)]
      by_cases e : v3 = 2
      · rw [if_pos e] at hX hM
        have e9 : q1.1 35 9 = q3.1 52 24 := by rw [y5, u6]
        have bb : q1.1 35 9 = 0 ∨ q1.1 35 9 = 1 := by
          rw [y5]
          by_cases w : Qd (ce F (q.1 9) v0.toInt.toNat (v1.toInt / 1000).toNat (mm_rem v1 1000) (v2 / 10)) 1 m * (12 - (CT F (q.1 9) v0.toInt.toNat (v1.toInt / 1000).toNat (mm_rem v1 1000) (v2 / 10) 0 1).toInt) < Qd (ce F (q.1 9) v0.toInt.toNat (v1.toInt / 1000).toNat (mm_rem v1 1000) (v2 / 10)) 1 m * (12 - (CT F (q.1 9) v0.toInt.toNat (v1.toInt / 1000).toNat (mm_rem v1 1000) (v2 / 10) 0 0).toInt)
          · rw [if_pos w]; exact Or.inr rfl
          · rw [if_neg w]; exact Or.inl rfl
        refine ⟨(q3.1 52 24).toInt64, q1, q3, ?_, by rw [k1.1 0 (by decide)], hM, hd q1 q3 k1 (fz_trans z2 u2) u3⟩
        rw [hX, ← e9]
        unfold x7_firstWithRun
        rcases bb with w | w
        · rw [w, mm_ck_t (by decide), mm_cl_s, if_pos rfl]
          rfl
        · rw [w, mm_ck_t (by decide), mm_cl_s, if_neg (by decide)]
          rfl
      · rw [if_neg e] at hX hM
        rw [eq32, ti2] at e
        obtain ⟨r, er⟩ := frac_eq (a := q1.2 35 7) (b := q1.2 35 8) (by rw [y4]; omega) (by rw [y4]; omega) (by rw [y3]; omega) (by rw [y3]; omega) (v := v3) (by omega)
        refine ⟨r, q1, q3, ?_, by rw [k1.1 0 (by decide)], ?_, hd q1 q3 k1 (fz_trans z2 u2) u3⟩
        · rw [hX, (er q1).1, mm_cl_s]
        · rw [hM, eC, eW, (er q3).2, mm_cl_s]
    · refine ⟨-9223372036854775808, q, q, ?_, rfl, ?_, h⟩
      · unfold x11_risks
        simp only [isSpitter4_eq, sk11_eq, mm_cl_s, mm_p0, lt32, le32, ti0, ti1, ti2, ti999, n1, n2]
        repeat' split
        all_goals first | rfl | (exfalso; omega)
      · unfold x12_risks
        simp only [isSpitter12_eq (show 0 ≤ (q.1 52 6).toInt by rw [e6]; exact hs0), sk12_eq, within_eq, mm_cl_s, mm_p0, mm_i64, e6, tl0, tl2, lt32, n3, ti0, ti1, ti999, n1, n2]
        repeat' split
        all_goals first | rfl | (exfalso; omega)
  · have c2' : v2 < 0 := by rw [lt32, ti0]; omega
    refine ⟨-9223372036854775808, q, q, ?_, rfl, ?_, h⟩
    · unfold x11_risks
      simp only [isSpitter4_eq, sk11_eq, mm_cl_s, if_pos c2']
      repeat' split
      all_goals rfl
    · unfold x12_risks
      simp only [isSpitter12_eq (show 0 ≤ (q.1 52 6).toInt by rw [e6]; exact hs0), sk12_eq, mm_cl_s, if_pos c2']
      repeat' split
      all_goals rfl
