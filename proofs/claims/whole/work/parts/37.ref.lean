/-! how far it lands, the reference's side -/
/-- the same but for what the text's reader overwrites -/
def fw (q q' : mm_Q) : Prop := fr [52] q q' ∧ ∀ j, j ∉ [11, 12, 13, 14, 15] → q'.1 52 j = q.1 52 j
def fq (q q' : mm_Q) : Prop := fr [52, 59, 60, 61] q q' ∧ ∀ j, j ∉ [11, 12, 13, 14, 15] → q'.1 52 j = q.1 52 j
theorem fq_rfl (q : mm_Q) : fq q q := ⟨fr_rfl _ q, fun _ _ => rfl⟩
theorem fq_trans {q q1 q2 : mm_Q} (h1 : fq q q1) (h2 : fq q1 q2) : fq q q2 := ⟨fr_trans h1.1 h2.1, fun j hj => (h2.2 j hj).trans (h1.2 j hj)⟩
/-- six names given to F -/
abbrev nm (F : mm_F) (f : Nat → Int32) : Int32 := F (f 0) (f 1) (f 2) (f 3) (f 4) (f 5)
/-- one row of the memo -/
def mrow (F : mm_F) (c60 c61 : Nat → Int32) (s : Nat) : Prop := c61 s = 0 ∨ (c61 s = 1 ∧ c60 (7 * s + 6) = nm F (fun j => c60 (7 * s + j)))
/-- the reference's text works out F, and the memo knows F alone -/
def lm (F : mm_F) (c58 : Nat → Int32) (tm : Int32) (c60 c61 : Nat → Int32) : Prop := ((tm = -1 ∧ F = mm_F0) ∨ (0 ≤ tm.toInt ∧ ∀ q : mm_Q, q.1 58 = c58 → ∃ q', x12_workOut 0 tm q = some (nm F (q.1 59), q') ∧ fw q q')) ∧ ∀ s, s < 8192 → mrow F c60 c61 s
/-- what the law of both sides is -/
def mm_LX : mm_LR := fun c11 len c58 tm c60 c61 => ∃ F, lc F c11 len ∧ lm F c58 tm c60 c61
def rx (F : mm_F) (c : Nat → Int32) (sp lg : Int32) (q : mm_Q) : Prop := (∀ j, j < 54 → q.1 53 j = c j) ∧ q.1 52 6 = sp ∧ q.1 52 17 = lg ∧ lm F (q.1 58) (q.1 52 10) (q.1 60) (q.1 61)
theorem and_rng (y : Int32) : ∃ s : Nat, s < 8192 ∧ (y &&& 8191).toInt = s := by
  have h : (y &&& 8191).toBitVec.toNat ≤ 8191 := by
    rw [Int32.toBitVec_and, BitVec.toNat_and]
    exact Nat.and_le_right
  refine ⟨(y &&& 8191).toBitVec.toNat, by omega, ?_⟩
  show (y &&& 8191).toBitVec.toInt = _
  rw [BitVec.toInt_eq_toNat_of_lt (by omega)]
theorem mm_add_n {a : Int32} {k i : Nat} (x : Int32) (hx : x.toInt = (i : Nat)) (h : a.toInt = k) (hk : k + i < 1000000) : (a + x).toInt = ((k + i : Nat) : Int) := by
  rw [mm_add_ti (by omega) (by omega)]
  omega
theorem mm_sev {a : Int32} {s : Nat} (h : a.toInt = s) (hs : s < 8192) : ((7 : Int32) * a).toInt = ((7 * s : Nat) : Int) := by
  rw [mm_mul_ti (by rw [ti7]; omega) (by rw [ti7]; omega), ti7, h]
  omega

theorem rem_h4 {f : Nat} : ∀ (m i : Nat) (a1 a2 : Int32) (q : mm_Q), a2.toInt = i → i + m = 6 → ∃ (s : Nat) (a : Int32), s < 8192 ∧ a.toInt = s ∧ x12_remembered_h4 (f + m + 1) a1 a2 q = x12_remembered_h48 mm_fu a (q.1 61 s) 0 q := by
  intro m
  induction m with
  | zero =>
    intro i a1 a2 q h1 h2
    obtain ⟨s, hs, e⟩ := and_rng (a1 ^^^ mm_ushr a1 13)
    refine ⟨s, _, hs, e, ?_⟩
    rw [x12_remembered_h4, if_pos (by rw [le32, ti6]; omega), mm_ck_t (mm_inb_c e hs), mm_lt_s, mm_tcn e]
  | succ m ih =>
    intro i a1 a2 q h1 h2
    obtain ⟨s, a, hs, ha, e⟩ := ih (i + 1) (31 * a1 + q.1 59 a2.toNatClampNeg) (a2 + 1) q (mm_inc1 h1 (by omega)) (by omega)
    refine ⟨s, a, hs, ha, ?_⟩
    rw [show f + (m + 1) + 1 = (f + m + 1) + 1 by omega, x12_remembered_h4, if_neg (by rw [le32, ti6]; omega), mm_ck_t (mm_inb_c h1 (by omega)), e]
theorem rem_h48 {f : Nat} {s : Nat} {a : Int32} (hs : s < 8192) (ha : a.toInt = s) : ∀ (m i : Nat) (a2 a3 : Int32) (q : mm_Q), a3.toInt = i → i + m = 6 → (a2 = 0 ∨ (a2 = 1 ∧ q.1 61 s ≠ 0 ∧ ∀ j, j < i → q.1 60 (7 * s + j) = q.1 59 j)) → x12_remembered_h48 (f + m + 1) a a2 a3 q = x12_remembered_h96 mm_fu a 0 q ∨ ((q.1 61 s ≠ 0 ∧ ∀ j, j < 6 → q.1 60 (7 * s + j) = q.1 59 j) ∧ x12_remembered_h48 (f + m + 1) a a2 a3 q = some (q.1 60 (7 * s + 6), q)) := by
  have e7 := mm_sev ha hs
  intro m
  induction m with
  | zero =>
    intro i a2 a3 q h1 h2 h3
    rw [x12_remembered_h48, if_pos (by rw [le32, ti6]; omega)]
    rcases h3 with h3 | ⟨h3, h4, h5⟩
    · exact Or.inl (by rw [if_pos h3])
    · refine Or.inr ⟨⟨h4, fun j hj => h5 j (by omega)⟩, ?_⟩
      have e := mm_add_n 6 ti6n e7 (by omega)
      rw [if_neg (by rw [h3]; decide)]
      unfold x12_remembered_j153
      rw [mm_ck_t (mm_inb_c e (by omega)), mm_tcn e]
  | succ m ih =>
    intro i a2 a3 q h1 h2 h3
    rw [show f + (m + 1) + 1 = (f + m + 1) + 1 by omega, x12_remembered_h48, if_neg (by rw [le32, ti6]; omega)]
    rcases h3 with h3 | ⟨h3, h4, h5⟩
    · rw [if_pos h3]
      exact ih (i + 1) 0 (a3 + 1) q (mm_inc1 h1 (by omega)) (by omega) (Or.inl rfl)
    · have e := mm_add_n a3 h1 e7 (by omega)
      rw [if_neg (by rw [h3]; decide), mm_ck_t (mm_inb_c e (by omega)), mm_ck_t (mm_inb_c h1 (by omega)), mm_tcn e, mm_tcn h1]
      by_cases z : q.1 60 (7 * s + i) = q.1 59 i
      · rw [if_pos z]
        refine ih (i + 1) 1 (a3 + 1) q (mm_inc1 h1 (by omega)) (by omega) (Or.inr ⟨rfl, h4, fun j hj => ?_⟩)
        rcases (show j < i ∨ j = i by omega) with y | y
        · exact h5 j y
        · rw [y]; exact z
      · rw [if_neg z]
        exact ih (i + 1) 0 (a3 + 1) q (mm_inc1 h1 (by omega)) (by omega) (Or.inl rfl)
theorem rem_h96 {F : mm_F} {f : Nat} {s : Nat} {a : Int32} (hs : s < 8192) (ha : a.toInt = s) {c58 : Nat → Int32} {tm : Int32} (ht : ∀ q : mm_Q, q.1 58 = c58 → ∃ q', x12_workOut 0 tm q = some (nm F (q.1 59), q') ∧ fw q q') : ∀ (m i : Nat) (a3 : Int32) (q : mm_Q), a3.toInt = i → i + m = 6 → q.1 58 = c58 → q.1 52 10 = tm → (∀ j, j < i → q.1 60 (7 * s + j) = q.1 59 j) → ∃ q', x12_remembered_h96 (f + m + 1) a a3 q = some (nm F (q.1 59), q') ∧ fr [52, 60, 61] q q' ∧ (∀ j, j ∉ [11, 12, 13, 14, 15] → q'.1 52 j = q.1 52 j) ∧ (∀ x, x < 7 * s ∨ 7 * s + 7 ≤ x → q'.1 60 x = q.1 60 x) ∧ (∀ j, j < 6 → q'.1 60 (7 * s + j) = q.1 59 j) ∧ q'.1 60 (7 * s + 6) = nm F (q.1 59) ∧ q'.1 61 = upd (q.1 61) s 1 := by
  have e7 := mm_sev ha hs
  have e6 := mm_add_n 6 ti6n e7 (by omega)
  intro m
  induction m with
  | zero =>
    intro i a3 q h1 h2 h3 h4 h5
    obtain ⟨q1, y1, y2, y3⟩ := ht q h3
    have g59 := y2.2 59 (by decide)
    have g60 := y2.2 60 (by decide)
    have g61 := y2.2 61 (by decide)
    refine ⟨mm_si (mm_si q1 60 (7 * s + 6) (nm F (q.1 59))) 61 s 1, ?_, ⟨y2.1, fun k hk => ?_⟩, fun j hj => y3 j hj, fun x hx => ?_, fun j hj => ?_, ?_, ?_⟩
    · rw [x12_remembered_h96, if_pos (by rw [le32, ti6]; omega), h4, y1, mm_cl_s, mm_ck_t (mm_inb_c e6 (by omega)), mm_lt_s, mm_ck_t (mm_inb_c ha hs), mm_lt_s, mm_tcn e6, mm_tcn ha, show vp_nar .boolean (1 : Int32) = 1 from by decide]
      unfold x12_remembered_j153
      rw [mm_ck_t (mm_inb_c e6 (by omega)), mm_tcn e6, mm_si_ne _ _ _ _ (by decide), mm_si_self, upd_self]
    · have n52 : k ≠ 52 := fun z => hk (by rw [z]; decide)
      have n60 : k ≠ 60 := fun z => hk (by rw [z]; decide)
      have n61 : k ≠ 61 := fun z => hk (by rw [z]; decide)
      rw [mm_si_ne _ _ _ _ n61, mm_si_ne _ _ _ _ n60]
      exact y2.2 k (fun z => n52 (List.mem_singleton.mp z))
    · rw [mm_si_ne _ _ _ _ (by decide), mm_si_self, upd_ne _ _ _ (by omega), g60]
    · rw [mm_si_ne _ _ _ _ (by decide), mm_si_self, upd_ne _ _ _ (by omega), g60]
      exact h5 j (by omega)
    · rw [mm_si_ne _ _ _ _ (by decide), mm_si_self, upd_self]
    · rw [mm_si_self, mm_si_ne _ _ _ _ (by decide), g61]
  | succ m ih =>
    intro i a3 q h1 h2 h3 h4 h5
    have e := mm_add_n a3 h1 e7 (by omega)
    obtain ⟨q', y1, y2, y3, y4, y5, y6, y7⟩ := ih (i + 1) (a3 + 1) (mm_si q 60 (7 * s + i) (q.1 59 i)) (mm_inc1 h1 (by omega)) (by omega) h3 h4 (fun j hj => by
      show (mm_si q 60 (7 * s + i) (q.1 59 i)).1 60 (7 * s + j) = q.1 59 j
      rw [mm_si_self]
      rcases (show j < i ∨ j = i by omega) with z | z
      · rw [upd_ne _ _ _ (by omega)]; exact h5 j z
      · rw [z, upd_self])
    refine ⟨q', ?_, fr_trans (fr_si q (7 * s + i) (q.1 59 i) (by decide)) y2, y3, fun x hx => ?_, y5, y6, y7⟩
    · rw [show f + (m + 1) + 1 = (f + m + 1) + 1 by omega, x12_remembered_h96, if_neg (by rw [le32, ti6]; omega), mm_ck_t (mm_inb_c h1 (by omega)), mm_ck_t (mm_inb_c e (by omega)), mm_lt_s, mm_tcn e, mm_tcn h1]
      exact y1
    · rw [y4 x hx, mm_si_self, upd_ne _ _ _ (by omega)]
theorem remembered_eq {F : mm_F} {q : mm_Q} (h : lm F (q.1 58) (q.1 52 10) (q.1 60) (q.1 61)) (ht : 0 ≤ (q.1 52 10).toInt) : ∃ q', x12_remembered q = some (nm F (q.1 59), q') ∧ fr [52, 60, 61] q q' ∧ (∀ j, j ∉ [11, 12, 13, 14, 15] → q'.1 52 j = q.1 52 j) ∧ lm F (q'.1 58) (q'.1 52 10) (q'.1 60) (q'.1 61) := by
  obtain ⟨h1, h2⟩ := id h
  have h1' : ∀ q' : mm_Q, q'.1 58 = q.1 58 → ∃ q'', x12_workOut 0 (q.1 52 10) q' = some (nm F (q'.1 59), q'') ∧ fw q' q'' := by
    rcases h1 with ⟨z, -⟩ | ⟨-, z⟩
    · rw [z, tin1] at ht
      omega
    · exact z
  obtain ⟨s, a, hs, ha, e⟩ := rem_h4 (f := 993) 6 0 0 0 q ti0 (by omega)
  have e' : x12_remembered q = x12_remembered_h48 mm_fu a (q.1 61 s) 0 q := e
  have start : q.1 61 s = 0 ∨ (q.1 61 s = 1 ∧ q.1 61 s ≠ 0 ∧ ∀ j, j < 0 → q.1 60 (7 * s + j) = q.1 59 j) := by
    rcases h2 s hs with z | ⟨z, -⟩
    · exact Or.inl z
    · exact Or.inr ⟨z, by rw [z]; decide, fun j hj => absurd hj (Nat.not_lt_zero j)⟩
  rcases rem_h48 (f := 993) hs ha 6 0 (q.1 61 s) 0 q ti0 (by omega) start with z | ⟨⟨z1, z2⟩, z3⟩
  · obtain ⟨q', y1, y2, y3, y4, y5, y6, y7⟩ := rem_h96 (f := 993) hs ha h1' 6 0 0 q ti0 (by omega) rfl rfl (fun j hj => absurd hj (Nat.not_lt_zero j))
    refine ⟨q', by rw [e']; exact z.trans y1, y2, y3, ?_⟩
    rw [y2.2 58 (by decide), y3 10 (by decide)]
    refine ⟨h1, fun s' hs' => ?_⟩
    unfold mrow
    rw [y7]
    by_cases c : s' = s
    · rw [c, upd_self, y6]
      refine Or.inr ⟨rfl, ?_⟩
      show nm F (q.1 59) = F (q'.1 60 (7 * s + 0)) (q'.1 60 (7 * s + 1)) (q'.1 60 (7 * s + 2)) (q'.1 60 (7 * s + 3)) (q'.1 60 (7 * s + 4)) (q'.1 60 (7 * s + 5))
      rw [y5 0 (by decide), y5 1 (by decide), y5 2 (by decide), y5 3 (by decide), y5 4 (by decide), y5 5 (by decide)]
    · rw [upd_ne _ _ _ c]
      have y4' : ∀ j, j < 7 → q'.1 60 (7 * s' + j) = q.1 60 (7 * s' + j) := fun j hj => y4 _ (by omega)
      show _ ∨ (_ ∧ _ = F (q'.1 60 (7 * s' + 0)) (q'.1 60 (7 * s' + 1)) (q'.1 60 (7 * s' + 2)) (q'.1 60 (7 * s' + 3)) (q'.1 60 (7 * s' + 4)) (q'.1 60 (7 * s' + 5)))
      rw [y4' 0 (by decide), y4' 1 (by decide), y4' 2 (by decide), y4' 3 (by decide), y4' 4 (by decide), y4' 5 (by decide), y4' 6 (by decide)]
      exact h2 s' hs'
  · refine ⟨q, ?_, fr_rfl _ _, fun _ _ => rfl, h⟩
    rw [e']
    refine (show x12_remembered_h48 mm_fu a (q.1 61 s) 0 q = _ from z3).trans ?_
    rcases h2 s hs with y | ⟨-, y⟩
    · exact absurd y z1
    · rw [y]
      show some (F (q.1 60 (7 * s + 0)) (q.1 60 (7 * s + 1)) (q.1 60 (7 * s + 2)) (q.1 60 (7 * s + 3)) (q.1 60 (7 * s + 4)) (q.1 60 (7 * s + 5)), q) = _
      rw [z2 0 (by decide), z2 1 (by decide), z2 2 (by decide), z2 3 (by decide), z2 4 (by decide), z2 5 (by decide)]
