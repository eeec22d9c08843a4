/-! acts through the bodies of their kinds -/
def bf : Nat → Int32 → Int32 → Int32 → Option Int32
  | 0, _, _, _ => none
  | n + 1, a1, a2, a3 => if 8 ≤ a3 then some 0 else if a2 < 0 then some 0 else if 8 ≤ a2 then some 0 else if a2 * 4 + a1 < 0 then mm_ck (mm_inb a2 8) (bf n a1 (mm_t6.getD a2.toNatClampNeg 0) (a3 + 1)) else if 32 ≤ a2 * 4 + a1 then mm_ck (mm_inb a2 8) (bf n a1 (mm_t6.getD a2.toNatClampNeg 0) (a3 + 1)) else mm_ck (mm_inb (a2 * 4 + a1) 32) (if mm_t5.getD (a2 * 4 + a1).toNatClampNeg 0 = 0 then mm_ck (mm_inb a2 8) (bf n a1 (mm_t6.getD a2.toNatClampNeg 0) (a3 + 1)) else mm_ck (mm_inb (a2 * 4 + a1) 32) (some (mm_t5.getD (a2 * 4 + a1).toNatClampNeg 0)))
def wq (e : Option Int32) (q : mm_Q) : Option (Int32 × mm_Q) := match e with
  | none => none
  | some r => some (r, q)
theorem wq_ck (b : Bool) (e : Option Int32) (q : mm_Q) : wq (mm_ck b e) q = mm_ck b (wq e q) := by
  cases b <;> rfl
theorem bf_eq {q : mm_Q} (h5 : ∀ j, q.1 5 j = mm_t5.getD j 0) (h6 : ∀ j, q.1 6 j = mm_t6.getD j 0) : ∀ (n : Nat) (a1 a2 a3 : Int32), x0_bodyFrom_h4 n a1 a2 a3 q = wq (bf n a1 a2 a3) q
  | 0, _, _, _ => rfl
  | n + 1, a1, a2, a3 => by
    have ih := bf_eq h5 h6 n
    rw [x0_bodyFrom_h4, bf]
    unfold x0_isKind x0_bodyFrom_j54
    by_cases c1 : 8 ≤ a3
    · rw [if_pos c1, if_pos c1]
      rfl
    rw [if_neg c1, if_neg c1]
    by_cases c2 : a2 < 0
    · rw [if_pos c2, if_pos c2, mm_cl_s, if_pos rfl]
      rfl
    rw [if_neg c2, if_neg c2]
    by_cases c3 : 8 ≤ a2
    · rw [if_pos c3, if_pos c3, mm_cl_s, if_pos rfl]
      rfl
    rw [if_neg c3, if_neg c3, mm_cl_s, if_neg (by decide)]
    simp only [h5, h6, ih]
    by_cases c4 : a2 * 4 + a1 < 0
    · rw [if_pos c4, if_pos c4, wq_ck]
    rw [if_neg c4, if_neg c4]
    by_cases c5 : 32 ≤ a2 * 4 + a1
    · rw [if_pos c5, if_pos c5, wq_ck]
    rw [if_neg c5, if_neg c5, wq_ck]
    by_cases c6 : mm_t5.getD (a2 * 4 + a1).toNatClampNeg 0 = 0
    · rw [if_pos c6, if_pos c6, wq_ck]
    · rw [if_neg c6, if_neg c6, wq_ck]
      rfl
/-- the body that a kind has for an act, its own or one from above -/
def tab (k w : Nat) : Int32 := match bf 1000 (Int32.ofNat w) (Int32.ofNat k) 0 with
  | none => 0
  | some r => r
theorem tab_S : tab 0 0 = 1 ∧ tab 1 0 = 20 ∧ tab 2 0 = 1 ∧ tab 3 0 = 1 ∧ tab 4 0 = 20 ∧ tab 5 0 = 1 ∧ tab 6 0 = 70 ∧ tab 7 0 = 20 := by decide +kernel
theorem tab_L : tab 0 1 = 10 ∧ tab 1 1 = 10 ∧ tab 2 1 = 30 ∧ tab 3 1 = 41 ∧ tab 4 1 = 10 ∧ tab 5 1 = 41 ∧ tab 6 1 = 10 ∧ tab 7 1 = 80 := by decide +kernel
theorem tab_R : tab 0 2 = 11 ∧ tab 1 2 = 11 ∧ tab 2 2 = 11 ∧ tab 3 2 = 40 ∧ tab 4 2 = 50 ∧ tab 5 2 = 40 ∧ tab 6 2 = 11 ∧ tab 7 2 = 50 := by decide +kernel
theorem tab_T : tab 0 3 = 2 ∧ tab 1 3 = 2 ∧ tab 2 3 = 2 ∧ tab 3 3 = 2 ∧ tab 4 3 = 2 ∧ tab 5 3 = 60 ∧ tab 6 3 = 2 ∧ tab 7 3 = 81 := by decide +kernel
theorem bf_tab : ∀ k, k < 8 → ∀ w, w < 4 → bf 1000 (Int32.ofNat w) (Int32.ofNat k) 0 = some (tab k w) := by decide +kernel
/-- the class among its bodies: whose acts they are, its kind, how many ran -/
def cA (nb : Int32) (K n : Nat) (q : mm_Q) : Prop := ((∀ j, q.1 5 j = mm_t5.getD j 0) ∧ ∀ j, q.1 6 j = mm_t6.getD j 0) ∧ q.1 49 4 = nb ∧ (0 ≤ nb.toInt ∧ nb.toInt < (q.1 49 2).toInt ∧ nb.toInt < 50) ∧ q.1 50 nb.toNatClampNeg = Int32.ofNat K ∧ q.1 49 3 = Int32.ofNat n
def bgn (b : Int32) (q : mm_Q) : mm_Q := mm_si (if q.1 49 3 < 24 then mm_si q 51 (q.1 49 3).toNatClampNeg b else q) 49 3 (q.1 49 3 + 1)
def bgL : List Int32 → mm_Q → mm_Q
  | [], q => q
  | b :: l, q => bgL l (bgn b q)
theorem bgL_app (l m : List Int32) (q : mm_Q) : bgL (l ++ m) q = bgL m (bgL l q) := by
  induction l generalizing q with
  | nil => rfl
  | cons b l ih => exact ih (bgn b q)
theorem bgn_2 (b : Int32) (q : mm_Q) : (bgn b q).2 = q.2 := by
  unfold bgn
  by_cases h : q.1 49 3 < 24
  · rw [if_pos h]; rfl
  · rw [if_neg h]; rfl
theorem bgn_o (b : Int32) (q : mm_Q) (k : Nat) (h49 : k ≠ 49) (h51 : k ≠ 51) : (bgn b q).1 k = q.1 k := by
  unfold bgn
  by_cases h : q.1 49 3 < 24
  · rw [if_pos h, mm_si_ne _ _ _ _ h49, mm_si_ne _ _ _ _ h51]
  · rw [if_neg h, mm_si_ne _ _ _ _ h49]
theorem bgn_49 (b : Int32) (q : mm_Q) (j : Nat) (hj : j ≠ 3) : (bgn b q).1 49 j = q.1 49 j := by
  unfold bgn
  rw [mm_si_self, upd_ne _ _ _ hj]
  by_cases h : q.1 49 3 < 24
  · rw [if_pos h, mm_si_ne _ _ _ _ (by decide)]
  · rw [if_neg h]
theorem bgn_3 (b : Int32) (q : mm_Q) : (bgn b q).1 49 3 = q.1 49 3 + 1 := by
  unfold bgn
  rw [mm_si_self, upd_self]
theorem bgn_51 (b : Int32) (q : mm_Q) : (bgn b q).1 51 = if q.1 49 3 < 24 then upd (q.1 51) (q.1 49 3).toNatClampNeg b else q.1 51 := by
  unfold bgn
  rw [mm_si_ne _ _ _ _ (by decide)]
  by_cases h : q.1 49 3 < 24
  · rw [if_pos h, if_pos h, mm_si_self]
  · rw [if_neg h, if_neg h]
theorem cA_bgn {nb : Int32} {K n : Nat} {q : mm_Q} (h : cA nb K n q) (hn : n < 900) (b : Int32) : cA nb K (n + 1) (bgn b q) := by
  obtain ⟨⟨h1, h2⟩, h3, h4, h5, h6⟩ := h
  refine ⟨⟨fun j => by rw [bgn_o b q 5 (by decide) (by decide)]; exact h1 j, fun j => by rw [bgn_o b q 6 (by decide) (by decide)]; exact h2 j⟩, by rw [bgn_49 b q 4 (by decide)]; exact h3, by rw [bgn_49 b q 2 (by decide)]; exact h4, by rw [bgn_o b q 50 (by decide) (by decide)]; exact h5, ?_⟩
  rw [bgn_3, h6, ofn_s (by omega)]
theorem cA_bgL {nb : Int32} {K : Nat} : ∀ (l : List Int32) (n : Nat) (q : mm_Q), cA nb K n q → n + l.length < 900 → cA nb K (n + l.length) (bgL l q)
  | [], n, q, h, _ => h
  | b :: l, n, q, h, hn => by
    have hl : (b :: l).length = l.length + 1 := rfl
    rw [hl] at hn ⊢
    have := cA_bgL l (n + 1) (bgn b q) (cA_bgn h (by omega) b) (by omega)
    rw [show n + (l.length + 1) = n + 1 + l.length by omega]
    exact this
theorem begin_eq {nb : Int32} {K n : Nat} {q : mm_Q} (h : cA nb K n q) (hn : n < 900) (b : Int32) : x0_begin b q = some ((), bgn b q) := by
  have e : (q.1 49 3).toInt = ((n : Nat) : Int) := by rw [h.2.2.2.2, mm_ofNat_ti (by omega)]
  unfold x0_begin x0_begin_j26 bgn
  rw [if_neg (by rw [lt32, ti0]; omega)]
  by_cases c : 24 ≤ q.1 49 3
  · rw [if_pos c, if_neg (Int32.not_lt.mpr c), mm_lt_s]
  · rw [if_neg c, if_pos (Int32.not_le.mp c)]
    rw [le32, ti24] at c
    rw [mm_ck_t (mm_inb_c e (by omega)), mm_lt_s, mm_lt_s]
    rfl
theorem mm_cl_ret {β : Type} (e : Option (β × mm_Q)) : mm_cl e (fun r q => some (r, q)) = e := by
  cases e with
  | none => rfl
  | some z => rfl
section AC
variable {nb : Int32} {K n : Nat} {q : mm_Q}
theorem own_eq (h : cA nb K n q) (d : Nat) (w x dp z : Int32) : g_x0_own (d + 1) 0 w x dp z q = g_x0_own d 2 (Int32.ofNat K) w x dp q := by
  obtain ⟨-, h3, h4, h5, h6⟩ := h
  show x0_own (g_x0_own d) w x dp q = _
  unfold x0_own x0_kindOf x0_isBody
  rw [h3, if_neg (by rw [lt32, ti0]; omega), if_neg (by rw [le32]; omega), mm_cl_s, if_neg (by decide), if_neg (by rw [le32, ti50]; omega), mm_ck_t (mm_inb_c (c := nb.toInt.toNat) (by omega) (by omega)), mm_cl_s, h5]
  exact mm_cl_ret _
theorem above_eq (h : cA nb K n q) (d : Nat) {k : Nat} (hk : k < 8) (w x dp : Int32) : g_x0_own (d + 1) 1 (Int32.ofNat k) w x dp q = g_x0_own d 2 (mm_t6.getD k 0) w x dp q := by
  have e : (Int32.ofNat k).toInt = ((k : Nat) : Int) := mm_ofNat_ti (by omega)
  show x0_above (g_x0_own d) (Int32.ofNat k) w x dp q = _
  unfold x0_above x0_isKind x0_above_j17
  rw [if_neg (by rw [lt32, ti0]; omega), if_neg (by rw [le32, ti8]; omega), mm_cl_s, if_neg (by decide), mm_ck_t (mm_inb_c e hk), mm_tcn e, h.1.2]
  exact mm_cl_ret _
theorem from01_eq (h : cA nb K n q) (hn : n < 900) (d : Nat) {k w : Nat} (hk : k < 8) (hw : w < 2) (x : Int32) {dp : Int32} (hd : dp.toInt ≤ 40) : g_x0_own (d + 1) 2 (Int32.ofNat k) (Int32.ofNat w) x dp q = g_x0_own d 3 (tab k w) x (dp + 1) 0 (bgn (tab k w) q) := by
  show x0_from (g_x0_own d) (Int32.ofNat k) (Int32.ofNat w) x dp q = _
  have e : x0_bodyFrom (Int32.ofNat k) (Int32.ofNat w) q = some (tab k w, q) := by
    unfold x0_bodyFrom
    rw [bf_eq h.1.1 h.1.2, show mm_fu = 1000 from rfl, bf_tab k hk w (by omega)]
    rfl
  unfold x0_from x0_from_j31
  rw [e, mm_cl_s, if_pos (by rw [le32, ti40]; exact hd), begin_eq h hn, mm_cl_s]
  rcases (show w = 0 ∨ w = 1 by omega) with rfl | rfl
  · rw [if_pos (by decide)]
    exact mm_cl_ret _
  · rw [if_neg (by decide), if_pos (by decide)]
    exact mm_cl_ret _
theorem from23_eq (h : cA nb K n q) (hn : n < 900) (d : Nat) {k w : Nat} (hk : k < 8) (hw : w = 2 ∨ w = 3) (x : Int32) {dp : Int32} (hd : dp.toInt ≤ 40) : g_x0_own (d + 1) 2 (Int32.ofNat k) (Int32.ofNat w) x dp q = g_x0_own d 4 (tab k w) x (dp + 1) 0 (bgn (tab k w) q) := by
  show x0_from (g_x0_own d) (Int32.ofNat k) (Int32.ofNat w) x dp q = _
  have e : x0_bodyFrom (Int32.ofNat k) (Int32.ofNat w) q = some (tab k w, q) := by
    unfold x0_bodyFrom
    rw [bf_eq h.1.1 h.1.2, show mm_fu = 1000 from rfl, bf_tab k hk w (by omega)]
    rfl
  unfold x0_from
  rw [e, mm_cl_s, if_pos (by rw [le32, ti40]; exact hd), begin_eq h hn, mm_cl_s]
  rcases hw with rfl | rfl
  · rw [if_neg (by decide), if_neg (by decide)]
    exact mm_cl_ret _
  · rw [if_neg (by decide), if_neg (by decide)]
    exact mm_cl_ret _
end AC
