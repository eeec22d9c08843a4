/-! fractions, and the risk of one try -/
theorem ml_rng (a : Int64) : -9223372036854775808 ≤ a.toInt ∧ a.toInt < 9223372036854775808 := ⟨Int64.le_toInt a, Int64.toInt_lt a⟩
theorem ml_add {a b : Int64} (h1 : -9223372036854775808 ≤ a.toInt + b.toInt) (h2 : a.toInt + b.toInt < 9223372036854775808) : (a + b).toInt = a.toInt + b.toInt := by
  rw [Int64.toInt_add, Int.bmod_eq_of_le (by omega) (by omega)]
theorem ml_sub {a b : Int64} (h1 : -9223372036854775808 ≤ a.toInt - b.toInt) (h2 : a.toInt - b.toInt < 9223372036854775808) : (a - b).toInt = a.toInt - b.toInt := by
  rw [Int64.toInt_sub, Int.bmod_eq_of_le (by omega) (by omega)]
theorem ml_mul {a b : Int64} (h1 : -9223372036854775808 ≤ a.toInt * b.toInt) (h2 : a.toInt * b.toInt < 9223372036854775808) : (a * b).toInt = a.toInt * b.toInt := by
  rw [Int64.toInt_mul, Int.bmod_eq_of_le (by omega) (by omega)]
theorem ml_div {a b : Int64} (h0 : 0 ≤ a.toInt) (h1 : 0 < b.toInt) : (a / b).toInt = a.toInt / b.toInt := by
  have ha := ml_rng a
  have h2 := Int.ediv_le_self b.toInt h0
  have h3 := Int.ediv_nonneg h0 (Int.le_of_lt h1)
  rw [Int64.toInt_div, Int.tdiv_eq_ediv_of_nonneg h0, Int.bmod_eq_of_le (by omega) (by omega)]
theorem ml_rem {a b : Int64} (h0 : 0 ≤ a.toInt) (h1 : 0 < b.toInt) : (mm_reml a b).toInt = a.toInt % b.toInt := by
  have ha := ml_rng a
  have e := ml_div h0 h1
  have h2 := Int.ediv_mul_le a.toInt (show b.toInt ≠ 0 by omega)
  have h3 := Int.ediv_nonneg h0 (Int.le_of_lt h1)
  have h4 := Int.mul_nonneg h3 (Int.le_of_lt h1)
  have h5 := Int.emod_add_mul_ediv a.toInt b.toInt
  rw [Int.mul_comm] at h5
  have e2 : (a / b * b).toInt = a.toInt / b.toInt * b.toInt := by rw [ml_mul (by rw [e]; omega) (by rw [e]; omega), e]
  unfold mm_reml
  rw [ml_sub (by rw [e2]; omega) (by rw [e2]; omega), e2]
  omega
theorem eq64 {a b : Int64} : a = b ↔ a.toInt = b.toInt := Int64.toInt_inj.symm
theorem nzl_t {b : Int64} (h : ¬ b.toInt = 0) : mm_nzl b = true := by
  have : ¬ b = 0 := by rw [eq64, tl0]; exact h
  unfold mm_nzl
  rw [decide_eq_false this]
  rfl
theorem gcd11 : ∀ (k a b : Nat) (b4 b6 : Int64) (a8 : Int32) (n : Nat) (q : mm_Q), b4.toInt = a → b6.toInt = b → b < 2 ^ k → 0 ≤ a8.toInt → a8.toInt + 2 * k < 100 → 2 * k + 1 ≤ n → ∃ g : Int64, g.toInt = (Nat.gcd a b : Nat) ∧ x11_greatestDivisor_h9 n b4 b6 a8 q = some (g, q)
  | 0, a, b, b4, b6, a8, n, q => by
    intro h1 h2 h3 h4 h5 h6
    have hb : b = 0 := by omega
    obtain ⟨m, rfl⟩ : ∃ m, n = m + 1 := ⟨n - 1, by omega⟩
    refine ⟨b4, by rw [hb, Nat.gcd_zero_right]; exact h1, ?_⟩
    rw [x11_greatestDivisor_h9, if_neg (by rw [le32, ti100]; omega), if_pos ((mm_cmp_eq _ _).mpr (by rw [eq64, tl0]; omega))]
  | k + 1, a, b, b4, b6, a8, n, q => by
    intro h1 h2 h3 h4 h5 h6
    obtain ⟨m, rfl⟩ : ∃ m, n = m + 1 + 1 := ⟨n - 2, by omega⟩
    by_cases hb : b = 0
    · refine ⟨b4, by rw [hb, Nat.gcd_zero_right]; exact h1, ?_⟩
      rw [x11_greatestDivisor_h9, if_neg (by rw [le32, ti100]; omega), if_pos ((mm_cmp_eq _ _).mpr (by rw [eq64, tl0]; omega))]
    · have e1 : (mm_reml b4 b6).toInt = ((a % b : Nat) : Int) := by rw [ml_rem (by omega) (by omega), h1, h2]; omega
      have g1 : Nat.gcd a b = Nat.gcd b (a % b) := by rw [Nat.gcd_comm, Nat.gcd_rec, Nat.gcd_comm]
      have s1 : x11_greatestDivisor_h9 (m + 1 + 1) b4 b6 a8 q = x11_greatestDivisor_h9 (m + 1) b6 (mm_reml b4 b6) (a8 + 1) q := by
        rw [x11_greatestDivisor_h9, if_neg (by rw [le32, ti100]; omega), if_neg (fun z => by rw [mm_cmp_eq, eq64, tl0] at z; omega), mm_ck_t (nzl_t (by omega))]
      have a9 : (a8 + 1).toInt = a8.toInt + 1 := by rw [mm_add_ti (by rw [ti1]; omega) (by rw [ti1]; omega), ti1]
      rw [s1, g1]
      by_cases hr : a % b = 0
      · refine ⟨b6, by rw [hr, Nat.gcd_zero_right]; exact h2, ?_⟩
        rw [x11_greatestDivisor_h9, if_neg (by rw [le32, ti100]; omega), if_pos ((mm_cmp_eq _ _).mpr (by rw [eq64, tl0]; omega))]
      · have lt : a % b < b := Nat.mod_lt _ (by omega)
        have e2 : (mm_reml b6 (mm_reml b4 b6)).toInt = ((b % (a % b) : Nat) : Int) := by rw [ml_rem (by omega) (by omega), e1, h2]; omega
        have g2 : Nat.gcd b (a % b) = Nat.gcd (a % b) (b % (a % b)) := by rw [Nat.gcd_comm, Nat.gcd_rec, Nat.gcd_comm]
        have s2 : x11_greatestDivisor_h9 (m + 1) b6 (mm_reml b4 b6) (a8 + 1) q = x11_greatestDivisor_h9 m (mm_reml b4 b6) (mm_reml b6 (mm_reml b4 b6)) (a8 + 1 + 1) q := by
          rw [x11_greatestDivisor_h9, if_neg (by rw [le32, ti100]; omega), if_neg (fun z => by rw [mm_cmp_eq, eq64, tl0] at z; omega), mm_ck_t (nzl_t (by omega))]
        have a10 : (a8 + 1 + 1).toInt = a8.toInt + 2 := by rw [mm_add_ti (by rw [ti1]; omega) (by rw [ti1]; omega), ti1, a9]; omega
        have lt2 : b % (a % b) < a % b := Nat.mod_lt _ (by omega)
        have half : 2 * (b % (a % b)) < b := by
          have h7 := Nat.mod_add_div b (a % b)
          have h8 : 1 ≤ b / (a % b) := Nat.div_pos (Nat.le_of_lt lt) (by omega)
          have h9 := Nat.mul_le_mul_left (a % b) h8
          omega
        have hk : b % (a % b) < 2 ^ k := by
          rw [Nat.pow_succ] at h3
          omega
        rw [s2, g2]
        exact gcd11 k (a % b) (b % (a % b)) _ _ _ m q e1 e2 hk (by omega) (by omega) (by omega)
theorem gcd12 : ∀ (n a b : Nat) (b4 b6 : Int64) (q : mm_Q), b4.toInt = a → b6.toInt = b → (∀ k, b < 2 ^ k → 2 * k + 1 ≤ n → ∃ g : Int64, g.toInt = (Nat.gcd a b : Nat) ∧ x12_commonOf_h6 n b4 b6 q = some (g, q))
  | n, a, b, b4, b6, q => by
    intro h1 h2 k
    induction k generalizing n a b b4 b6 with
    | zero =>
      intro h3 h6
      have hb : b = 0 := by omega
      obtain ⟨m, rfl⟩ : ∃ m, n = m + 1 := ⟨n - 1, by omega⟩
      refine ⟨b4, by rw [hb, Nat.gcd_zero_right]; exact h1, ?_⟩
      rw [x12_commonOf_h6, if_pos ((mm_cmp_eq _ _).mpr (by rw [eq64, tl0]; omega))]
    | succ k ih =>
      intro h3 h6
      obtain ⟨m, rfl⟩ : ∃ m, n = m + 1 + 1 := ⟨n - 2, by omega⟩
      by_cases hb : b = 0
      · refine ⟨b4, by rw [hb, Nat.gcd_zero_right]; exact h1, ?_⟩
        rw [x12_commonOf_h6, if_pos ((mm_cmp_eq _ _).mpr (by rw [eq64, tl0]; omega))]
      · have e1 : (mm_reml b4 b6).toInt = ((a % b : Nat) : Int) := by rw [ml_rem (by omega) (by omega), h1, h2]; omega
        have g1 : Nat.gcd a b = Nat.gcd b (a % b) := by rw [Nat.gcd_comm, Nat.gcd_rec, Nat.gcd_comm]
        have s1 : x12_commonOf_h6 (m + 1 + 1) b4 b6 q = x12_commonOf_h6 (m + 1) b6 (mm_reml b4 b6) q := by
          rw [x12_commonOf_h6, if_neg (fun z => by rw [mm_cmp_eq, eq64, tl0] at z; omega), mm_ck_t (nzl_t (by omega))]
        rw [s1, g1]
        by_cases hr : a % b = 0
        · refine ⟨b6, by rw [hr, Nat.gcd_zero_right]; exact h2, ?_⟩
          rw [x12_commonOf_h6, if_pos ((mm_cmp_eq _ _).mpr (by rw [eq64, tl0]; omega))]
        · have lt : a % b < b := Nat.mod_lt _ (by omega)
          have e2 : (mm_reml b6 (mm_reml b4 b6)).toInt = ((b % (a % b) : Nat) : Int) := by rw [ml_rem (by omega) (by omega), e1, h2]; omega
          have g2 : Nat.gcd b (a % b) = Nat.gcd (a % b) (b % (a % b)) := by rw [Nat.gcd_comm, Nat.gcd_rec, Nat.gcd_comm]
          have s2 : x12_commonOf_h6 (m + 1) b6 (mm_reml b4 b6) q = x12_commonOf_h6 m (mm_reml b4 b6) (mm_reml b6 (mm_reml b4 b6)) q := by
            rw [x12_commonOf_h6, if_neg (fun z => by rw [mm_cmp_eq, eq64, tl0] at z; omega), mm_ck_t (nzl_t (by omega))]
          have lt2 : b % (a % b) < a % b := Nat.mod_lt _ (by omega)
          have half : 2 * (b % (a % b)) < b := by
            have h7 := Nat.mod_add_div b (a % b)
            have h8 : 1 ≤ b / (a % b) := Nat.div_pos (Nat.le_of_lt lt) (by omega)
            have h9 := Nat.mul_le_mul_left (a % b) h8
            omega
          have hk : b % (a % b) < 2 ^ k := by
            rw [Nat.pow_succ] at h3
            omega
          rw [s2, g2]
          exact ih m (a % b) (b % (a % b)) _ _ e1 e2 hk (by omega)
/-- both take a fraction to its lowest terms alike -/
theorem frac_eq {a b : Int64} (ha : 0 ≤ a.toInt) (ha2 : a.toInt < 8589934592) (hb : 0 < b.toInt) (hb2 : b.toInt < 8589934592) {v : Int32} (hv : v.toInt = 0 ∨ v.toInt = 1) : ∃ r, ∀ q : mm_Q, x11_fractionPart a b v q = some (r, q) ∧ x12_partOf a b v q = some (r, q) := by
  obtain ⟨A, hA⟩ : ∃ A : Nat, a.toInt = A := ⟨a.toInt.toNat, by omega⟩
  obtain ⟨B, hB⟩ : ∃ B : Nat, b.toInt = B := ⟨b.toInt.toNat, by omega⟩
  have p33 : (2 : Nat) ^ 33 = 8589934592 := by decide
  refine ⟨if v = 0 then a / (if a = 0 then b else Int64.ofInt (Nat.gcd A B : Nat)) else b / (if a = 0 then b else Int64.ofInt (Nat.gcd A B : Nat)), fun q => ?_⟩
  obtain ⟨g, hg, eg⟩ := gcd11 33 A B a b 0 1000 q hA hB (by rw [p33]; omega) (by rw [ti0]; omega) (by rw [ti0]; omega) (by omega)
  obtain ⟨g', hg', eg'⟩ := gcd12 1000 B A b a q hB hA 33 (by rw [p33]; omega) (by omega)
  have gg : g' = g := by rw [eq64, hg, hg', Nat.gcd_comm]
  have gp : 0 < Nat.gcd A B := Nat.gcd_pos_of_pos_right A (by omega)
  have go : Int64.ofInt (Nat.gcd A B : Nat) = g := by
    have r := ml_rng g
    rw [eq64, hg, Int64.toInt_ofInt_of_le (by omega) (by omega)]
  rw [go]
  refine ⟨?_, ?_⟩
  · unfold x11_fractionPart x11_greatestDivisor
    rw [show mm_fu = 1000 from rfl, eg, mm_cl_s, if_neg (fun z => by rw [mm_cmp_eq, eq64, tl0] at z; omega), mm_ck_t (nzl_t (by omega)), mm_ck_t (nzl_t (by omega))]
    by_cases z : a = 0
    · have : g = b := by
        rw [eq64, hg, hB]
        rw [eq64, tl0] at z
        rw [show A = 0 by omega, Nat.gcd_zero_left]
      rw [if_pos z, this]
      by_cases v0 : v = 0
      · rw [if_pos v0, if_pos v0]
      · rw [if_neg v0, if_neg v0]
    · rw [if_neg z]
      by_cases v0 : v = 0
      · rw [if_pos v0, if_pos v0]
      · rw [if_neg v0, if_neg v0]
  · unfold x12_partOf x12_commonOf
    rw [show mm_fu = 1000 from rfl, eg', mm_cl_s, mm_ck_t (nzl_t (by rw [hg', Nat.gcd_comm]; omega)), mm_ck_t (nzl_t (by rw [hg', Nat.gcd_comm]; omega)), gg]
    by_cases z : a = 0
    · rw [if_pos ((mm_cmp_eq _ _).mpr z), if_pos z]
      have d0 : (b / b).toInt = 1 := by rw [ml_div (by omega) hb, Int.ediv_self (by omega)]
      have d1 : (a / b).toInt = 0 := by rw [ml_div (by omega) hb, z, tl0, Int.zero_ediv]
      by_cases v0 : v = 0
      · rw [if_pos v0]
        have : v.toInt64 = a / b := by rw [eq64, mm_i64, d1, v0, ti0]
        rw [this]
      · rw [if_neg v0]
        rw [eq32, ti0] at v0
        have : v.toInt64 = b / b := by rw [eq64, mm_i64, d0]; omega
        rw [this]
    · rw [if_neg (fun w => z ((mm_cmp_eq _ _).mp w)), if_neg z]
      by_cases v0 : v = 0
      · rw [if_pos v0, if_pos v0]
      · rw [if_neg v0, if_neg v0]
/-- by how many of twelve it beats x -/
def CH (F : mm_F) (c g : Nat → Int32) (p : Nat) (x r : Int32) : Int32 := if x < BP F c g r then (if r = 1 then 12 - c (18 + p) else 12) else 0
theorem CH_rng {sp : Int32} {c : Nat → Int32} (hb : bd sp c) (hs6 : sp.toInt ≤ 6) {p : Nat} (hps : (p : Int) < sp.toInt) (F : mm_F) (g : Nat → Int32) (x r : Int32) : 0 ≤ (CH F c g p x r).toInt ∧ (CH F c g p x r).toInt ≤ 12 := by
  have b := bd_sp hb (w := 3) hps hs6 (by decide) (a := 0) (b := 12) (by decide) (by decide)
  rw [show 6 * 3 + p = 18 + p by omega] at b
  unfold CH
  by_cases h : x < BP F c g r
  · rw [if_pos h]
    by_cases h2 : r = 1
    · rw [if_pos h2, mm_sub_ti (by rw [ti12]; omega) (by rw [ti12]; omega), ti12]
      omega
    · rw [if_neg h2, ti12]
      omega
  · rw [if_neg h, ti0]
    omega
theorem chances_eq {F : mm_F} {c g : Nat → Int32} {sp : Int32} {q : mm_Q} {a1 : Int32} {p : Nat} (h : cx F c g q) (h8 : q.1 8 1 = sp) (hs6 : sp.toInt ≤ 6) (hp : a1.toInt = p) (hps : (p : Int) < sp.toInt) (x r : Int32) : ∃ q', x7_chances a1 x r q = some (CH F c g p x r, q') ∧ fr [12, 13] q q' := by
  obtain ⟨q1, e1, f1⟩ := bestPoints_eq h r
  refine ⟨q1, ?_, f1⟩
  unfold x7_chances CH
  rw [e1, mm_cl_s]
  by_cases z : x < BP F c g r
  · rw [if_pos z, if_pos z]
    by_cases z2 : r = 1
    · rw [if_pos z2, if_pos z2, y_told (j := 18 + p) (by rw [f1.2 8 (by decide), h8, pl_sp hs6 hp hps (w := 3) (by decide) (by decide)]) (by omega), mm_cl_s, f1.2 9 (by decide), h.1]
    · rw [if_neg z2, if_neg z2]
  · rw [if_neg z, if_neg z]
theorem CH_tk {sp : Int32} {c : Nat → Int32} (h : bd sp c) (F : mm_F) {s : Nat} (h9 : s < 9) (p : Nat) (k : Int32) (g : Nat → Int32) (x r : Int32) : CH F c (tk c p s k g) p x r = CH F c (GL c p s k 0) p x r := by
  unfold CH
  show (if x < bpn (PT F c (tk c p s k g) r) 9 then _ else _) = (if x < bpn (PT F c (GL c p s k 0) r) 9 then _ else _)
  rw [PT_tk h F h9]
theorem beats_eq {F : mm_F} {c : Nat → Int32} {sp lg : Int32} {q : mm_Q} {a1 a2 : Int32} {p s : Nat} (h : rx F c sp lg q) (hb : bd sp c) (hp : a1.toInt = p) (h6 : p < 6) (hs : a2.toInt = s) (h9 : s < 9) (k x r : Int32) : ∃ q', x12_beats a1 a2 k x r q = some (CH F c (GL c p s k lg) p x r, q') ∧ fq q q' ∧ rx F c sp lg q' := by
  obtain ⟨q1, e1, f1, x1⟩ := pointsBest_eq h hb hp h6 hs h9 k r
  refine ⟨q1, ?_, f1, x1⟩
  have e3 := ofSpitter_eq (q := q1) (a2 := 3) hp h6 (w := 3) (by decide) (by decide)
  rw [show 6 * 3 + p = 18 + p by omega, x1.1 (18 + p) (by omega)] at e3
  unfold x12_beats CH
  rw [e1, mm_cl_s]
  by_cases z : x < BP F c (GL c p s k lg) r
  · rw [if_pos z, if_pos z]
    by_cases z2 : r = 1
    · rw [if_pos z2, if_pos z2, e3, mm_cl_s]
    · rw [if_neg z2, if_neg z2]
  · rw [if_neg z, if_neg z]
theorem pr_risk (v0 v1 v2 v3 : Int32) : mm_pr (mm_Iv mm_LX) (x11_risk v0 v1 v2 v3) (x12_risk v0 v1 v2 v3) := by
  intro q h
  obtain ⟨F, hw, hb, ⟨hs0, hs6⟩, e6, hx, hd⟩ := mm_think h
  by_cases c2 : 0 ≤ v2.toInt
  · have n1 : (v2 / 10).toInt = v2.toInt / 10 := by rw [div_ti (by omega) (by decide), ti10]
    have n2 : (mm_rem v2 10).toInt = v2.toInt % 10 := by rw [rem_ti (by omega) (by decide), ti10]
    by_cases g : (0 ≤ v0.toInt ∧ v0.toInt < (q.1 8 1).toInt) ∧ (0 ≤ v1.toInt ∧ v1.toInt / 1000 < 9 ∧ v1.toInt % 1000 ≤ 99) ∧ (v2.toInt / 10 ≤ 999 ∧ v2.toInt % 10 ≤ 1) ∧ 0 ≤ v3.toInt ∧ v3.toInt ≤ 1
    · obtain ⟨g1, g2, g3, g4, g5⟩ := g
      obtain ⟨s1, s2, s3⟩ := sk_parts g2
      have hp := nat_of g1.1
      obtain ⟨q1, y1, y2, y3⟩ := take_eq hw hs6 hp (by omega) s1 s2 (mm_rem v1 1000)
      obtain ⟨q2, y4, y5⟩ := chances_eq y2 (by rw [y3.2 8 (by decide)]) hs6 hp (by omega) (v2 / 10) (mm_rem v2 10)
      rw [CH_tk hb F s2] at y4
      have k2 : fk q q2 := fk_trans (fk_fr y3 (by decide)) (fk_fr y5 (by decide))
      obtain ⟨q3, z1, z2, z3⟩ := beats_eq (hx q2 k2) hb hp (by omega) s1 s2 (mm_rem v1 1000) (v2 / 10) (mm_rem v2 10)
      have rg := CH_rng hb hs6 (p := v0.toInt.toNat) (by omega) F (GL (q.1 9) v0.toInt.toNat (v1.toInt / 1000).toNat (mm_rem v1 1000) 0) (v2 / 10) (mm_rem v2 10)
      obtain ⟨r, er⟩ := frac_eq (a := (CH F (q.1 9) (GL (q.1 9) v0.toInt.toNat (v1.toInt / 1000).toNat (mm_rem v1 1000) 0) v0.toInt.toNat (v2 / 10) (mm_rem v2 10)).toInt64) (b := 12) (by rw [mm_i64]; omega) (by rw [mm_i64]; omega) (by rw [tl12]; omega) (by rw [tl12]; omega) (v := v3) (by omega)
      have f52 : q2.1 52 6 = q.1 8 1 := by rw [k2.1 52 (by decide)]; exact e6
      refine ⟨r, q2, q3, ?_, by rw [k2.1 0 (by decide)], ?_, hd q2 q3 k2 (fz_fq z2) z3⟩
      · unfold x11_risk
        rw [isSpitter4_eq, mm_cl_s, if_neg (by rw [mm_p0]; omega), sk11_eq, mm_cl_s, if_neg (by rw [mm_p0]; omega), if_neg (by rw [lt32, ti0]; omega), if_neg (by rw [lt32, ti999]; omega), if_neg (by rw [lt32, ti1]; omega), if_neg (by rw [lt32, ti0]; omega), if_pos (by rw [le32, ti1]; omega), y1, mm_cl_s, y4, mm_cl_s, (er q2).1, mm_cl_s]
      · unfold x12_risk
        rw [isSpitter12_eq (by rw [f52]; exact hs0), mm_cl_s, mm_i64, f52, if_neg (by rw [mm_p0]; omega), sk12_eq, mm_cl_s, if_neg (by rw [mm_p0]; omega), if_neg (by rw [lt32, ti0]; omega), if_neg (by rw [lt32, ti999]; omega), if_neg (by rw [lt32, ti1]; omega), within_eq, mm_cl_s, mm_i64, tl0, tl1, if_neg (by rw [mm_p0]; omega), z1, mm_cl_s, (er q3).2, mm_cl_s]
    · refine ⟨-9223372036854775808, q, q, ?_, rfl, ?_, h⟩
      · unfold x11_risk
        simp only [isSpitter4_eq, sk11_eq, mm_cl_s, mm_p0, lt32, le32, ti0, ti1, ti999, n1, n2]
        repeat' split
        all_goals first | rfl | (exfalso; omega)
      · unfold x12_risk
        simp only [isSpitter12_eq (show 0 ≤ (q.1 52 6).toInt by rw [e6]; exact hs0), sk12_eq, within_eq, mm_cl_s, mm_p0, mm_i64, e6, tl0, tl1, lt32, ti0, ti1, ti999, n1, n2]
        repeat' split
        all_goals first | rfl | (exfalso; omega)
  · have c2' : v2 < 0 := by rw [lt32, ti0]; omega
    refine ⟨-9223372036854775808, q, q, ?_, rfl, ?_, h⟩
    · unfold x11_risk
      simp only [isSpitter4_eq, sk11_eq, mm_cl_s, if_pos c2']
      repeat' split
      all_goals rfl
    · unfold x12_risk
      simp only [isSpitter12_eq (show 0 ≤ (q.1 52 6).toInt by rw [e6]; exact hs0), sk12_eq, mm_cl_s, if_pos c2']
      repeat' split
      all_goals rfl
