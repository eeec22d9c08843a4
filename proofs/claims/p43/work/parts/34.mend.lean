/-! mends and spitters at the start -/
theorem ci_fr {S : List Nat} (q : mm_Q) (a sp dp n : Nat) {b : Nat} (h : b ∈ S) : fr S q (mm_ci q a b sp dp n) := ⟨rfl, fun k hk => mm_uc_ne _ _ (fun z => hk (by rw [z]; exact h))⟩
theorem note_fr {q : mm_Q} (h : 0 ≤ (q.1 31 3).toInt ∧ (q.1 31 3).toInt ≤ 40) (a b c : Int32) : ∃ q', x1_note a b c q = some ((), q') ∧ fr [31, 32, 33, 34] q q' ∧ 0 ≤ (q'.1 31 3).toInt ∧ (q'.1 31 3).toInt ≤ 40 := by
  have key : ∀ (q0 : mm_Q) (n : Nat), (q0.1 31 3).toInt = n → n < 40 → ∃ q', x1_note_j13 a b c q0 = some ((), q') ∧ fr [31, 32, 33, 34] q0 q' ∧ 0 ≤ (q'.1 31 3).toInt ∧ (q'.1 31 3).toInt ≤ 40 := by
    intro q0 n hn h40
    have e : (mm_si (mm_si (mm_si (mm_si (mm_si q0 32 n a) 33 n b) 34 n c) 31 3 (q0.1 31 3 + 1)) 31 4 (q0.1 31 3 + 1)).1 31 3 = q0.1 31 3 + 1 := by
      rw [mm_si_self, upd_ne _ _ _ (by decide), mm_si_self, upd_self]
    refine ⟨_, note_eq hn h40 a b c, fr_trans (fr_trans (fr_trans (fr_trans (fr_si _ _ _ (by decide)) (fr_si _ _ _ (by decide))) (fr_si _ _ _ (by decide))) (fr_si _ _ _ (by decide))) (fr_si _ _ _ (by decide)), ?_⟩
    rw [e, mm_inc1 hn (by omega)]
    omega
  unfold x1_note
  by_cases c4 : q.1 31 3 < 40
  · rw [if_pos c4]
    rw [lt32, ti40] at c4
    exact key q (q.1 31 3).toInt.toNat (by omega) (by omega)
  · rw [if_neg c4]
    unfold x1_forgetOldest
    rw [mm_ck_t (by decide), mm_lt_s, mm_ck_t (by decide), mm_lt_s, mm_ck_t (by decide), mm_lt_s, mm_lt_s, mm_cl_s]
    obtain ⟨q', y1, y2, y3⟩ := key (mm_si (mm_ci (mm_ci (mm_ci q 32 32 1 0 39) 33 33 1 0 39) 34 34 1 0 39) 31 3 39) 39 (by rw [mm_si_self, upd_self]; decide) (by decide)
    exact ⟨q', y1, fr_trans (fr_trans (fr_trans (fr_trans (ci_fr _ _ _ _ _ (by decide)) (ci_fr _ _ _ _ _ (by decide))) (ci_fr _ _ _ _ _ (by decide))) (fr_si _ _ _ (by decide))) y2, y3⟩
/-- what holds while the lane is made -/
def LNS (xs : Nat → Int32) (sp : Int32) (c : Nat → Int32) (q : mm_Q) : Prop := (q.1 0 = xs ∧ (∀ j, q.1 1 j = mm_t1.getD j 0) ∧ (∀ j, q.1 2 j = mm_t2.getD j 0) ∧ ∀ j, q.1 3 j = mm_t3.getD j 0) ∧ q.1 8 1 = sp ∧ q.1 9 = c ∧ (0 ≤ (q.1 31 3).toInt ∧ (q.1 31 3).toInt ≤ 40) ∧ q.1 28 2 = 0 ∧ q.1 10 3 = 0
section LM
variable {xs : Nat → Int32} {sp : Int32} {c : Nat → Int32} {q q' : mm_Q}
theorem LS_si (h : LNS xs sp c q) {k : Nat} (hk : 52 ≤ k) (j : Nat) (v : Int32) : LNS xs sp c (mm_si q k j v) := by
  have e : ∀ a, a < 52 → (mm_si q k j v).1 a = q.1 a := fun a ha => mm_si_ne _ _ _ _ (by omega)
  unfold LNS
  rw [e 0 (by decide), e 1 (by decide), e 2 (by decide), e 3 (by decide), e 8 (by decide), e 9 (by decide), e 31 (by decide), e 28 (by decide), e 10 (by decide)]
  exact h
theorem LS_mend (h : LNS xs sp c q) {v0 v1 v2 : Int32} {k w : Nat} (hp : (mm_pl sp v0 v1).toInt = k) (hk : k < 54) (hw : v1.toInt = w) (hw12 : w ≤ 12) (hv : (mm_t2.getD w 0).toInt ≤ v2.toInt ∧ v2.toInt ≤ (mm_t3.getD w 0).toInt) : ∃ q', x11_mend v0 v1 v2 q = some (c k, q') ∧ LNS xs sp (upd c k v2) q' ∧ ∀ a, 52 ≤ a → q'.1 a = q.1 a := by
  obtain ⟨⟨t0, t1, t2, t3⟩, h8, h9, hn, h28, h10⟩ := h
  have hin : x4_isWithin v1 v2.toInt64 q = some (mm_p ((mm_t2.getD w 0).toInt ≤ v2.toInt ∧ v2.toInt ≤ (mm_t3.getD w 0).toInt), q) := by
    rw [isWithin_eq t2 t3 hw hw12, mm_i64]
  have e0 : x11_mend v0 v1 v2 q = if c k = v2 then some (c k, q) else mm_cl (x1_note (mm_pl sp v0 v1) (c k) v2 q) (fun _ q11 => mm_cl (x4_write (mm_pl sp v0 v1) v2 q11) (fun _ q13 => some (c k, q13))) := by
    unfold x11_mend
    rw [cellOf_eq, mm_cl_s, h8, if_neg (by rw [lt32, ti0]; omega), hin, mm_cl_s, if_neg (by rw [mm_p0]; exact fun z => z hv), numberIn_eq hp hk, mm_cl_s, h9]
  by_cases z : c k = v2
  · rw [if_pos z] at e0
    refine ⟨q, e0, ?_, fun _ _ => rfl⟩
    have eu : upd c k v2 = c := by
      funext j
      by_cases e : j = k
      · rw [e, upd_self, z]
      · rw [upd_ne _ _ _ e]
    rw [eu]
    exact ⟨⟨t0, t1, t2, t3⟩, h8, h9, hn, h28, h10⟩
  · rw [if_neg z] at e0
    obtain ⟨q1, y1, y2, y3⟩ := note_fr hn (mm_pl sp v0 v1) (c k) v2
    have f9 : q1.1 9 = c := by rw [y2.2 9 (by decide)]; exact h9
    refine ⟨mm_si q1 9 k v2, by rw [e0, y1, mm_cl_s, write_eq hp hk, mm_cl_s], ?_, fun a ha => ?_⟩
    · have e : ∀ a, a ≠ 9 → a < 31 → (mm_si q1 9 k v2).1 a = q.1 a := fun a h1 h2 => by
        rw [mm_si_ne _ _ _ _ h1, y2.2 a (by simp only [List.mem_cons, List.not_mem_nil, or_false]; omega)]
      unfold LNS
      rw [e 0 (by decide) (by decide), e 1 (by decide) (by decide), e 2 (by decide) (by decide), e 3 (by decide) (by decide), e 8 (by decide) (by decide), e 28 (by decide) (by decide), e 10 (by decide) (by decide), mm_si_ne q1 9 k v2 (show 31 ≠ 9 by decide), mm_si_self, f9]
      exact ⟨⟨t0, t1, t2, t3⟩, h8, rfl, y3, h28, h10⟩
    · rw [mm_si_ne _ _ _ _ (by omega), y2.2 a (by simp only [List.mem_cons, List.not_mem_nil, or_false]; omega)]
theorem pl_l {w : Int32} (h : 7 ≤ w.toInt ∧ w.toInt ≤ 12) : (mm_pl sp 0 w).toInt = w.toInt + 41 := by
  unfold mm_pl
  rw [if_neg (by omega), if_neg (by omega), if_pos ⟨h.1, h.2, ti0⟩]
  have e1 : (48 + w).toInt = 48 + w.toInt := by rw [mm_add_ti (by rw [ti48]; omega) (by rw [ti48]; omega), ti48]
  rw [mm_sub_ti (by rw [e1, ti7]; omega) (by rw [e1, ti7]; omega), e1, ti7]
  omega
theorem okc_of {k w : Nat} {v : Int32} (hw : mm_wh k = w) (hv : (mm_t2.getD w 0).toInt ≤ v.toInt ∧ v.toInt ≤ (mm_t3.getD w 0).toInt) : mm_okc k v := by
  unfold mm_okc
  rw [hw]
  exact hv
theorem bd_set (h : bd sp c) {k : Nat} {v : Int32} (hv : mm_okc k v) : bd sp (upd c k v) := by
  intro j hj
  by_cases e : j = k
  · rw [e, upd_self]
    exact hv
  · rw [upd_ne _ _ _ e]
    exact h j hj
theorem LS_spit (h : LNS xs sp c q) (hb : bd sp c) {a b : Int32} {n : Nat} (hn : sp.toInt = n) (h6 : n < 6) (ha : 1 ≤ a.toInt ∧ a.toInt ≤ 9) (hb9 : 0 ≤ b.toInt ∧ b.toInt ≤ 9) : ∃ q', x11_spitter a b q = some (sp, q') ∧ LNS xs (sp + 1) (upd (upd (upd (upd (upd c n a) (6 + n) b) (12 + n) 1) (18 + n) 0) (24 + n) 10) q' ∧ bd (sp + 1) (upd (upd (upd (upd (upd c n a) (6 + n) b) (12 + n) 1) (18 + n) 0) (24 + n) 10) ∧ ∀ k, 52 ≤ k → q'.1 k = q.1 k := by
  obtain ⟨⟨t0, t1, t2, t3⟩, h8, h9, hcn, h28, h10⟩ := h
  have w0 : x4_isWithin 0 a.toInt64 q = some (mm_p ((mm_t2.getD 0 0).toInt ≤ a.toInt ∧ a.toInt ≤ (mm_t3.getD 0 0).toInt), q) := by rw [isWithin_eq t2 t3 (n := 0) ti0 (by decide), mm_i64]
  have w1 : x4_isWithin 1 b.toInt64 q = some (mm_p ((mm_t2.getD 1 0).toInt ≤ b.toInt ∧ b.toInt ≤ (mm_t3.getD 1 0).toInt), q) := by rw [isWithin_eq t2 t3 (n := 1) ti1 (by decide), mm_i64]
  have wel := welcome_eq (q := q) t1 (n := n) (by rw [h8]; exact hn) h6 a b 1
  rw [h8] at wel
  refine ⟨mm_si (mm_si (mm_si (mm_si (mm_si (mm_si q 8 1 (sp + 1)) 9 n a) 9 (6 + n) b) 9 (12 + n) 1) 9 (18 + n) 0) 9 (24 + n) 10, ?_, ?_, ?_, fun k hk => ?_⟩
  · unfold x11_spitter x4_isFull
    rw [w0, mm_cl_s, if_neg (by
      rw [mm_p0, show (mm_t2.getD 0 0).toInt = 1 from by decide, show (mm_t3.getD 0 0).toInt = 9 from by decide]
      exact fun z => z ha), w1, mm_cl_s, if_neg (by
      rw [mm_p0, show (mm_t2.getD 1 0).toInt = 0 from by decide, show (mm_t3.getD 1 0).toInt = 9 from by decide]
      exact fun z => z hb9), h8, if_pos (by rw [lt32, ti6]; omega), mm_cl_s, if_pos rfl, wel, mm_cl_s]
  · have e : ∀ k, k ≠ 8 → k ≠ 9 → (mm_si (mm_si (mm_si (mm_si (mm_si (mm_si q 8 1 (sp + 1)) 9 n a) 9 (6 + n) b) 9 (12 + n) 1) 9 (18 + n) 0) 9 (24 + n) 10).1 k = q.1 k := fun k h1 h2 => by
      rw [mm_si_ne _ _ _ _ h2, mm_si_ne _ _ _ _ h2, mm_si_ne _ _ _ _ h2, mm_si_ne _ _ _ _ h2, mm_si_ne _ _ _ _ h2, mm_si_ne _ _ _ _ h1]
    have e8 : (mm_si (mm_si (mm_si (mm_si (mm_si (mm_si q 8 1 (sp + 1)) 9 n a) 9 (6 + n) b) 9 (12 + n) 1) 9 (18 + n) 0) 9 (24 + n) 10).1 8 1 = sp + 1 := by
      rw [mm_si_ne _ _ _ _ (by decide), mm_si_ne _ _ _ _ (by decide), mm_si_ne _ _ _ _ (by decide), mm_si_ne _ _ _ _ (by decide), mm_si_ne _ _ _ _ (by decide), mm_si_self, upd_self]
    have e9 : (mm_si (mm_si (mm_si (mm_si (mm_si (mm_si q 8 1 (sp + 1)) 9 n a) 9 (6 + n) b) 9 (12 + n) 1) 9 (18 + n) 0) 9 (24 + n) 10).1 9 = upd (upd (upd (upd (upd c n a) (6 + n) b) (12 + n) 1) (18 + n) 0) (24 + n) 10 := by
      rw [mm_si_self, mm_si_self, mm_si_self, mm_si_self, mm_si_self, mm_si_ne _ _ _ _ (by decide), h9]
    unfold LNS
    rw [e 0 (by decide) (by decide), e 1 (by decide) (by decide), e 2 (by decide) (by decide), e 3 (by decide) (by decide), e 31 (by decide) (by decide), e 28 (by decide) (by decide), e 10 (by decide) (by decide), e8, e9]
    exact ⟨⟨t0, t1, t2, t3⟩, rfl, rfl, hcn, h28, h10⟩
  · have e1 : (sp + 1).toInt = (n : Int) + 1 := by rw [mm_inc1 hn (by omega)]; omega
    have wh : ∀ i m, i < 5 → m < 6 → mm_wh (6 * i + m) = i := fun i m h1 h2 => by
      unfold mm_wh
      rw [if_pos (by omega)]
      omega
    intro j hj
    by_cases j4 : j = 24 + n
    · rw [j4, upd_self]
      exact okc_of (w := 4) (by rw [show 24 + n = 6 * 4 + n by omega]; exact wh 4 n (by omega) h6) (by decide)
    rw [upd_ne _ _ _ j4]
    by_cases j3 : j = 18 + n
    · rw [j3, upd_self]
      exact okc_of (w := 3) (by rw [show 18 + n = 6 * 3 + n by omega]; exact wh 3 n (by omega) h6) (by decide)
    rw [upd_ne _ _ _ j3]
    by_cases j2 : j = 12 + n
    · rw [j2, upd_self]
      exact okc_of (w := 2) (by rw [show 12 + n = 6 * 2 + n by omega]; exact wh 2 n (by omega) h6) (by decide)
    rw [upd_ne _ _ _ j2]
    by_cases j1 : j = 6 + n
    · rw [j1, upd_self]
      exact okc_of (w := 1) (by rw [show 6 + n = 6 * 1 + n by omega]; exact wh 1 n (by omega) h6) (by rw [show (mm_t2.getD 1 0).toInt = 0 from by decide, show (mm_t3.getD 1 0).toInt = 9 from by decide]; exact hb9)
    rw [upd_ne _ _ _ j1]
    by_cases j0 : j = n
    · rw [j0, upd_self]
      exact okc_of (w := 0) (by rw [show n = 6 * 0 + n by omega]; exact wh 0 n (by omega) h6) (by rw [show (mm_t2.getD 0 0).toInt = 1 from by decide, show (mm_t3.getD 0 0).toInt = 9 from by decide]; exact ha)
    rw [upd_ne _ _ _ j0]
    exact hb j ⟨hj.1, fun z => by
      have := hj.2 z
      omega⟩
  · have h8' : k ≠ 8 := by omega
    have h9' : k ≠ 9 := by omega
    rw [mm_si_ne _ _ _ _ h9', mm_si_ne _ _ _ _ h9', mm_si_ne _ _ _ _ h9', mm_si_ne _ _ _ _ h9', mm_si_ne _ _ _ _ h9', mm_si_ne _ _ _ _ h8']
end LM
