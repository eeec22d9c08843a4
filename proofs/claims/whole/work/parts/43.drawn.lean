/-! tries by draws -/
abbrev dslip (c : Nat → Int32) (p : Nat) (r z : Int32) : Prop := r = 1 ∧ ¬ c (18 + p) ≤ mm_rem (mm_ushr z 8) 12
abbrev dlaugh (c : Nat → Int32) (z : Int32) : Prop := ¬ c 53 ≤ mm_rem (mm_ushr z 16) 12
abbrev dz (z : Int32) : Int32 := z * 1103515245 + 12345
/-- what one try brings -/
def dval (F : mm_F) (c : Nat → Int32) (p s : Nat) (k r z : Int32) : Int32 := if dslip c p r z ∨ dlaugh c z then 0 else BP F c (GL c p s k 0) r
def dr (F : mm_F) (c : Nat → Int32) (p s : Nat) (k r : Int32) : Nat → Int32 → Int32 → Int32 → Int32 → Int32 × Int32
  | 0, _, a, b, _ => (a, b)
  | m + 1, z, a, b, i => dr F c p s k r m (dz z) (a + dval F c p s (k + i) r (dz z)) (mm_max b (dval F c p s (k + i) r (dz z))) (i + 1)
theorem dval_rng {sp : Int32} {c : Nat → Int32} (hb : bd sp c) (F : mm_F) (p s : Nat) (k r z : Int32) : 0 ≤ (dval F c p s k r z).toInt := by
  unfold dval
  by_cases h : dslip c p r z ∨ dlaugh c z
  · rw [if_pos h, ti0]; omega
  · rw [if_neg h]
    exact (BP_rng hb F _ r).1
theorem max_0 {b : Int32} (h : 0 ≤ b.toInt) : mm_max b 0 = b := by
  rw [eq32, max_ti, ti0]
  omega
section DR
variable {F : mm_F} {c : Nat → Int32} {sp : Int32} {a1 a2 a4 a6 : Int32} {p s : Nat}
theorem draw_s (hb : bd sp c) (hs6 : sp.toInt ≤ 6) (hp : a1.toInt = p) (hps : (p : Int) < sp.toInt) (hs : (a2 / 1000).toInt = s) (h9 : s < 9) {a5 z a b i : Int32} (hi : ¬ a5 ≤ i) (h0 : 0 ≤ b.toInt) {q : mm_Q} (hx : cw F c sp q) (n : Nat) : ∃ q', x7_draw_h29 (n + 1) a1 a2 a4 a5 a6 z a b i q = x7_draw_h29 n a1 a2 a4 a5 a6 (dz z) (a + dval F c p s (mm_rem a2 1000 + i) a6 (dz z)) (mm_max b (dval F c p s (mm_rem a2 1000 + i) a6 (dz z))) (i + 1) q' ∧ fr [12, 13, 14] q q' ∧ cw F c sp q' := by
  obtain ⟨hc, hsp, hl⟩ := id hx
  have t3 : x4_told a1 3 q = some (c (18 + p), q) := by
    rw [y_told (j := 18 + p) (by rw [hsp, pl_sp hs6 hp hps (w := 3) (by decide) (by decide)]) (by omega), hc]
  have t12 : x4_told 0 12 q = some (c 53, q) := by
    rw [y_told (j := 53) pl_laugh (by omega), hc]
  have no : ∀ s0 s1 : Int32, ¬ (s0 = 0 ∧ s1 = 0) → x7_draw_j106 (x7_draw_h29 n) a1 a2 a4 a5 a6 (dz z) a b i s0 s1 q = x7_draw_h29 n a1 a2 a4 a5 a6 (dz z) a b (i + 1) q := by
    intro s0 s1 h
    unfold x7_draw_j106 x7_draw_j166
    by_cases e0 : s0 = 0
    · rw [if_pos e0, if_neg (fun e1 => h ⟨e0, e1⟩)]
    · rw [if_neg e0]
  obtain ⟨q1, q2, y1, y2, y3, y4⟩ := take_best hx hb hs6 hp hps hs h9 (mm_rem a2 1000 + i) a6
  have yes : x7_draw_j106 (x7_draw_h29 n) a1 a2 a4 a5 a6 (dz z) a b i 0 0 q = x7_draw_h29 n a1 a2 a4 a5 a6 (dz z) (a + BP F c (GL c p s (mm_rem a2 1000 + i) 0) a6) (mm_max b (BP F c (GL c p s (mm_rem a2 1000 + i) 0) a6)) (i + 1) q2 := by
    unfold x7_draw_j106 x7_draw_j166
    rw [if_pos rfl, if_pos rfl, y1, mm_cl_s, y2, mm_cl_s]
  have j78 : ∀ s0 : Int32, x7_draw_j78 (x7_draw_h29 n) a1 a2 a4 a5 a6 (dz z) a b i s0 q = if dlaugh c (dz z) then x7_draw_j106 (x7_draw_h29 n) a1 a2 a4 a5 a6 (dz z) a b i s0 1 q else x7_draw_j106 (x7_draw_h29 n) a1 a2 a4 a5 a6 (dz z) a b i s0 0 q := by
    intro s0
    unfold x7_draw_j78
    rw [t12, mm_cl_s]
    by_cases e : c 53 ≤ mm_rem (mm_ushr (dz z) 16) 12
    · rw [if_pos e, if_neg (fun w => w e)]
    · rw [if_neg e, if_pos e]
  have hd : x7_draw_h29 (n + 1) a1 a2 a4 a5 a6 z a b i q = if dslip c p a6 (dz z) then x7_draw_j78 (x7_draw_h29 n) a1 a2 a4 a5 a6 (dz z) a b i 1 q else x7_draw_j78 (x7_draw_h29 n) a1 a2 a4 a5 a6 (dz z) a b i 0 q := by
    rw [x7_draw_h29, if_neg hi]
    unfold x7_draw_j77
    by_cases e1 : a6 = 1
    · rw [if_pos e1, t3, mm_cl_s]
      by_cases e : c (18 + p) ≤ mm_rem (mm_ushr (dz z) 8) 12
      · rw [if_pos e, if_neg (fun w => w.2 e)]
      · rw [if_neg e, if_pos ⟨e1, e⟩]
    · rw [if_neg e1, if_neg (fun w => e1 w.1)]
  rw [hd]
  by_cases e : dslip c p a6 (dz z) ∨ dlaugh c (dz z)
  · refine ⟨q, ?_, fr_rfl _ _, hx⟩
    have ev : dval F c p s (mm_rem a2 1000 + i) a6 (dz z) = 0 := if_pos e
    rw [ev, Int32.add_zero, max_0 h0]
    by_cases e1 : dslip c p a6 (dz z)
    · rw [if_pos e1, j78]
      by_cases e2 : dlaugh c (dz z)
      · rw [if_pos e2]
        exact no 1 1 (fun w => absurd w.1 (by decide))
      · rw [if_neg e2]
        exact no 1 0 (fun w => absurd w.1 (by decide))
    · rw [if_neg e1, j78, if_pos (e.resolve_left e1)]
      exact no 0 1 (fun w => absurd w.2 (by decide))
  · refine ⟨q2, ?_, y3, y4⟩
    have ev : dval F c p s (mm_rem a2 1000 + i) a6 (dz z) = BP F c (GL c p s (mm_rem a2 1000 + i) 0) a6 := if_neg e
    rw [ev, if_neg (fun w => e (Or.inl w)), j78, if_neg (fun w => e (Or.inr w))]
    exact yes
theorem draw_h (hb : bd sp c) (hs6 : sp.toInt ≤ 6) (hp : a1.toInt = p) (hps : (p : Int) < sp.toInt) (hs : (a2 / 1000).toInt = s) (h9 : s < 9) {a5 : Int32} {f : Nat} : ∀ (m j : Nat) (z a b i : Int32) (q : mm_Q), i.toInt = j → ((j + m : Nat) : Int) = a5.toInt → a5.toInt ≤ 1000 → 0 ≤ b.toInt → cw F c sp q → ∃ q', x7_draw_h29 (f + m + 1) a1 a2 a4 a5 a6 z a b i q = some (if mm_rem a4 10 = 0 then (dr F c p s (mm_rem a2 1000) a6 m z a b i).1 else (dr F c p s (mm_rem a2 1000) a6 m z a b i).2, q') ∧ fr [12, 13, 14] q q' := by
  intro m
  induction m with
  | zero =>
    intro j z a b i q h1 h2 h3 h4 hx
    refine ⟨q, ?_, fr_rfl _ _⟩
    rw [x7_draw_h29, if_pos (by rw [le32]; omega)]
    show (if _ then some (a, q) else some (b, q)) = some (if _ then a else b, q)
    by_cases e : mm_rem a4 10 = 0
    · rw [if_pos e, if_pos e]
    · rw [if_neg e, if_neg e]
  | succ m ih =>
    intro j z a b i q h1 h2 h3 h4 hx
    obtain ⟨q1, y1, y2, y3⟩ := draw_s (a4 := a4) (a6 := a6) hb hs6 hp hps hs h9 (a5 := a5) (z := z) (a := a) (b := b) (i := i) (by rw [le32]; omega) h4 hx (f + m + 1)
    obtain ⟨q2, z1, z2⟩ := ih (j + 1) (dz z) (a + dval F c p s (mm_rem a2 1000 + i) a6 (dz z)) (mm_max b (dval F c p s (mm_rem a2 1000 + i) a6 (dz z))) (i + 1) q1 (mm_inc1 h1 (by omega)) (by omega) h3 (by rw [max_ti]; omega) y3
    refine ⟨q2, ?_, fr_trans y2 z2⟩
    rw [show f + (m + 1) + 1 = (f + m + 1) + 1 by omega, y1]
    exact z1
theorem drawn_s (hb : bd sp c) (hp : a1.toInt = p) (h6 : p < 6) (hs : (a2 / 1000).toInt = s) (h9 : s < 9) {z a b i : Int32} (hi : ¬ a4 / 100 ≤ i) (h0 : 0 ≤ b.toInt) {q : mm_Q} (hx : rx F c sp 0 q) (n : Nat) : ∃ q', x12_drawn_h82 (n + 1) a1 a2 a4 a6 z a b i q = x12_drawn_h82 n a1 a2 a4 a6 (dz z) (a + dval F c p s (mm_rem a2 1000 + i) a6 (dz z)) (mm_max b (dval F c p s (mm_rem a2 1000 + i) a6 (dz z))) (i + 1) q' ∧ fq q q' ∧ rx F c sp 0 q' := by
  have e3 := ofSpitter_eq (q := q) (a2 := 3) hp h6 (w := 3) (by decide) (by decide)
  rw [show 6 * 3 + p = 18 + p by omega, hx.1 (18 + p) (by omega)] at e3
  have tail : ∀ (v : Int32) (qa : mm_Q), x12_drawn_j193 (x12_drawn_h82 n) a1 a2 a4 a6 (dz z) a b i v qa = x12_drawn_h82 n a1 a2 a4 a6 (dz z) (a + v) (mm_max b v) (i + 1) qa := by
    intro v qa
    unfold x12_drawn_j193 x12_drawn_j216 mm_max
    by_cases e : v ≤ b
    · rw [if_pos e, if_neg (Int32.not_lt.mpr e)]
    · rw [if_neg e, if_pos (Int32.not_le.mp e)]
  have no : ∀ s0 s1 : Int32, ¬ (s0 = 0 ∧ s1 = 0) → x12_drawn_j157 (x12_drawn_h82 n) a1 a2 a4 a6 (dz z) a b i s0 s1 q = x12_drawn_h82 n a1 a2 a4 a6 (dz z) (a + 0) (mm_max b 0) (i + 1) q := by
    intro s0 s1 h
    unfold x12_drawn_j157 x12_drawn_j169
    rw [tail]
    by_cases e0 : s0 = 0
    · rw [if_pos e0, if_neg (fun e1 => h ⟨e0, e1⟩)]
    · rw [if_neg e0]
  obtain ⟨q1, y1, y2, y3⟩ := pointsBest_eq hx hb hp h6 hs h9 (mm_rem a2 1000 + i) a6
  have yes : x12_drawn_j157 (x12_drawn_h82 n) a1 a2 a4 a6 (dz z) a b i 0 0 q = x12_drawn_h82 n a1 a2 a4 a6 (dz z) (a + BP F c (GL c p s (mm_rem a2 1000 + i) 0) a6) (mm_max b (BP F c (GL c p s (mm_rem a2 1000 + i) 0) a6)) (i + 1) q1 := by
    unfold x12_drawn_j157
    rw [if_pos rfl, if_pos rfl, y1, mm_cl_s, tail]
  have j132 : ∀ s0 : Int32, x12_drawn_j132 (x12_drawn_h82 n) a1 a2 a4 a6 (dz z) a b i s0 q = if dlaugh c (dz z) then x12_drawn_j157 (x12_drawn_h82 n) a1 a2 a4 a6 (dz z) a b i s0 1 q else x12_drawn_j157 (x12_drawn_h82 n) a1 a2 a4 a6 (dz z) a b i s0 0 q := by
    intro s0
    unfold x12_drawn_j132
    rw [hx.1 53 (by decide)]
    by_cases e : c 53 ≤ mm_rem (mm_ushr (dz z) 16) 12
    · rw [if_pos e, if_neg (fun w => w e)]
    · rw [if_neg e, if_pos e]
  have hd : x12_drawn_h82 (n + 1) a1 a2 a4 a6 z a b i q = if dslip c p a6 (dz z) then x12_drawn_j132 (x12_drawn_h82 n) a1 a2 a4 a6 (dz z) a b i 1 q else x12_drawn_j132 (x12_drawn_h82 n) a1 a2 a4 a6 (dz z) a b i 0 q := by
    rw [x12_drawn_h82, if_neg hi]
    unfold x12_drawn_j131
    by_cases e1 : a6 = 1
    · rw [if_pos e1, e3, mm_cl_s]
      by_cases e : c (18 + p) ≤ mm_rem (mm_ushr (dz z) 8) 12
      · rw [if_pos e, if_neg (fun w => w.2 e)]
      · rw [if_neg e, if_pos ⟨e1, e⟩]
    · rw [if_neg e1, if_neg (fun w => e1 w.1)]
  rw [hd]
  by_cases e : dslip c p a6 (dz z) ∨ dlaugh c (dz z)
  · refine ⟨q, ?_, fq_rfl _, hx⟩
    have ev : dval F c p s (mm_rem a2 1000 + i) a6 (dz z) = 0 := if_pos e
    rw [ev]
    by_cases e1 : dslip c p a6 (dz z)
    · rw [if_pos e1, j132]
      by_cases e2 : dlaugh c (dz z)
      · rw [if_pos e2]
        exact no 1 1 (fun w => absurd w.1 (by decide))
      · rw [if_neg e2]
        exact no 1 0 (fun w => absurd w.1 (by decide))
    · rw [if_neg e1, j132, if_pos (e.resolve_left e1)]
      exact no 0 1 (fun w => absurd w.2 (by decide))
  · refine ⟨q1, ?_, y2, y3⟩
    have ev : dval F c p s (mm_rem a2 1000 + i) a6 (dz z) = BP F c (GL c p s (mm_rem a2 1000 + i) 0) a6 := if_neg e
    rw [ev, if_neg (fun w => e (Or.inl w)), j132, if_neg (fun w => e (Or.inr w))]
    exact yes
theorem drawn_h (hb : bd sp c) (hp : a1.toInt = p) (h6 : p < 6) (hs : (a2 / 1000).toInt = s) (h9 : s < 9) {f : Nat} : ∀ (m j : Nat) (z a b i : Int32) (q : mm_Q), i.toInt = j → ((j + m : Nat) : Int) = (a4 / 100).toInt → (a4 / 100).toInt ≤ 1000 → 0 ≤ b.toInt → rx F c sp 0 q → ∃ q', x12_drawn_h82 (f + m + 1) a1 a2 a4 a6 z a b i q = some (if mm_rem a4 10 = 0 then (dr F c p s (mm_rem a2 1000) a6 m z a b i).1 else (dr F c p s (mm_rem a2 1000) a6 m z a b i).2, q') ∧ fq q q' ∧ rx F c sp 0 q' := by
  intro m
  induction m with
  | zero =>
    intro j z a b i q h1 h2 h3 h4 hx
    refine ⟨q, ?_, fq_rfl _, hx⟩
    rw [x12_drawn_h82, if_pos (by rw [le32]; omega)]
    show (if _ then some (a, q) else some (b, q)) = some (if _ then a else b, q)
    by_cases e : mm_rem a4 10 = 0
    · rw [if_pos e, if_pos e]
    · rw [if_neg e, if_neg e]
  | succ m ih =>
    intro j z a b i q h1 h2 h3 h4 hx
    obtain ⟨q1, y1, y2, y3⟩ := drawn_s (a4 := a4) (a6 := a6) hb hp h6 hs h9 (z := z) (a := a) (b := b) (i := i) (by rw [le32]; omega) h4 hx (f + m + 1)
    obtain ⟨q2, z1, z2, z3⟩ := ih (j + 1) (dz z) (a + dval F c p s (mm_rem a2 1000 + i) a6 (dz z)) (mm_max b (dval F c p s (mm_rem a2 1000 + i) a6 (dz z))) (i + 1) q1 (mm_inc1 h1 (by omega)) (by omega) h3 (by rw [max_ti]; omega) y3
    refine ⟨q2, ?_, fq_trans y2 z2, z3⟩
    rw [show f + (m + 1) + 1 = (f + m + 1) + 1 by omega, y1]
    exact z1
end DR
theorem pr_drawn (v0 v1 v2 v3 : Int32) : mm_pr (mm_Iv mm_LX) (x11_drawn v0 v1 v2 v3) (x12_drawn v0 v1 v2 v3) := by
  intro q h
  obtain ⟨F, hw, hb, ⟨hs0, hs6⟩, e6, hx, hd⟩ := mm_think h
  by_cases g : (0 ≤ v0.toInt ∧ v0.toInt < (q.1 8 1).toInt) ∧ (0 ≤ v1.toInt ∧ v1.toInt / 1000 < 9 ∧ v1.toInt % 1000 ≤ 99) ∧ (100 ≤ v3.toInt ∧ v3.toInt ≤ 9999) ∧ v3.toInt / 10 % 10 ≤ 1 ∧ v3.toInt % 10 ≤ 1
  · obtain ⟨g1, g2, g3, g4, g5⟩ := g
    obtain ⟨s1, s2, s3⟩ := sk_parts g2
    have hp := nat_of g1.1
    have n1 : (v3 / 100).toInt = v3.toInt / 100 := by rw [div_ti (by omega) (by decide), ti100]
    have n2 : (v3 / 10).toInt = v3.toInt / 10 := by rw [div_ti (by omega) (by decide), ti10]
    have n3 : (mm_rem v3 10).toInt = v3.toInt % 10 := by rw [rem_ti (by omega) (by decide), ti10]
    have n4 : (mm_rem (v3 / 10) 10).toInt = v3.toInt / 10 % 10 := by rw [rem_ti (by omega) (by decide), ti10, n2]
    obtain ⟨m, hm⟩ : ∃ m : Nat, v3.toInt / 100 = m := ⟨(v3.toInt / 100).toNat, by omega⟩
    obtain ⟨q1, y1, y2⟩ := draw_h (a4 := v3) (a6 := mm_rem (v3 / 10) 10) hb hs6 hp (by omega) s1 s2 (a5 := v3 / 100) (f := 999 - m) m 0 v2 0 0 0 q ti0 (by omega) (by omega) (by rw [ti0]; omega) hw
    have k1 : fk q q1 := fk_fr y2 (by decide)
    obtain ⟨q2, z1, z2, z3⟩ := drawn_h (a4 := v3) (a6 := mm_rem (v3 / 10) 10) hb hp (by omega) s1 s2 (f := 999 - m) m 0 v2 0 0 0 q1 ti0 (by omega) (by omega) (by rw [ti0]; omega) (hx q1 k1)
    have fu : 999 - m + m + 1 = mm_fu := by show _ = 1000; omega
    rw [fu] at y1 z1
    have f52 : q1.1 52 6 = q.1 8 1 := by rw [k1.1 52 (by decide)]; exact e6
    obtain ⟨r, y1, z1⟩ : ∃ r, x7_draw_h29 mm_fu v0 v1 v3 (v3 / 100) (mm_rem (v3 / 10) 10) v2 0 0 0 q = some (r, q1) ∧ x12_drawn_h82 mm_fu v0 v1 v3 (mm_rem (v3 / 10) 10) v2 0 0 0 q1 = some (r, q2) := ⟨_, y1, z1⟩
    refine ⟨r, q1, q2, ?_, by rw [k1.1 0 (by decide)], ?_, hd q1 q2 k1 (fz_fq z2) z3⟩
    · unfold x11_drawn x7_draw
      rw [isSpitter4_eq, mm_cl_s, if_neg (by rw [mm_p0]; omega), sk11_eq, mm_cl_s, if_neg (by rw [mm_p0]; omega), if_neg (by rw [lt32, ti100]; omega), if_neg (by rw [lt32, show (9999 : Int32).toInt = 9999 from by decide]; omega), if_neg (by rw [lt32, ti1]; omega), if_pos (by rw [le32, ti1]; omega), y1, mm_cl_s]
    · unfold x12_drawn
      rw [isSpitter12_eq (by rw [f52]; exact hs0), mm_cl_s, mm_i64, f52, if_neg (by rw [mm_p0]; omega), sk12_eq, mm_cl_s, if_neg (by rw [mm_p0]; omega), if_neg (by rw [lt32, ti0]; omega), within_eq, mm_cl_s, mm_i64, tl1, tl99, if_neg (by rw [mm_p0]; omega), if_neg (by rw [lt32, ti1]; omega), if_pos (by rw [le32, ti1]; omega)]
      exact z1
  · refine ⟨-1, q, q, ?_, rfl, ?_, h⟩
    · unfold x11_drawn
      by_cases c : 0 ≤ v3.toInt
      · have n2 : (v3 / 10).toInt = v3.toInt / 10 := by rw [div_ti (by omega) (by decide), ti10]
        have n3 : (mm_rem v3 10).toInt = v3.toInt % 10 := by rw [rem_ti (by omega) (by decide), ti10]
        have n4 : (mm_rem (v3 / 10) 10).toInt = v3.toInt / 10 % 10 := by rw [rem_ti (by omega) (by decide), ti10, n2]
        simp only [isSpitter4_eq, sk11_eq, mm_cl_s, mm_p0, lt32, le32, ti0, ti1, ti100, n3, n4, show (9999 : Int32).toInt = 9999 from by decide]
        repeat' split
        all_goals first | rfl | (exfalso; omega)
      · simp only [isSpitter4_eq, sk11_eq, mm_cl_s, mm_p0, lt32, ti0, ti1, ti100]
        rw [if_pos (show v3.toInt < 100 by omega)]
        repeat' split
        all_goals first | rfl | (exfalso; omega)
    · unfold x12_drawn
      by_cases c : 0 ≤ v3.toInt
      · have n1 : (v3 / 100).toInt = v3.toInt / 100 := by rw [div_ti (by omega) (by decide), ti100]
        have n2 : (v3 / 10).toInt = v3.toInt / 10 := by rw [div_ti (by omega) (by decide), ti10]
        have n3 : (mm_rem v3 10).toInt = v3.toInt % 10 := by rw [rem_ti (by omega) (by decide), ti10]
        have n4 : (mm_rem (v3 / 10) 10).toInt = v3.toInt / 10 % 10 := by rw [rem_ti (by omega) (by decide), ti10, n2]
        simp only [isSpitter12_eq (show 0 ≤ (q.1 52 6).toInt by rw [e6]; exact hs0), sk12_eq, within_eq, mm_cl_s, mm_p0, mm_i64, e6, tl1, tl99, lt32, le32, ti0, ti1, n1, n3, n4]
        repeat' split
        all_goals first | rfl | (exfalso; omega)
      · simp only [isSpitter12_eq (show 0 ≤ (q.1 52 6).toInt by rw [e6]; exact hs0), sk12_eq, within_eq, mm_cl_s, mm_p0, mm_i64, e6, lt32, ti0]
        rw [if_pos (show v3.toInt < 0 by omega)]
        repeat' split
        all_goals first | rfl | (exfalso; omega)
