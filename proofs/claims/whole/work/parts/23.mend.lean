/-! the pair mend -/
theorem mayBecome_eq {a1 : Int32} (h : 0 ≤ a1.toInt ∧ a1.toInt ≤ 12) (a2 : Int32) (q : mm_Q) : x12_mayBecome a1 a2 q = some (mm_p ((mm_t2.getD a1.toInt.toNat 0).toInt ≤ a2.toInt ∧ a2.toInt ≤ (mm_t3.getD a1.toInt.toNat 0).toInt), q) := by
  rcases (show a1.toInt = 0 ∨ a1.toInt = 1 ∨ a1.toInt = 2 ∨ a1.toInt = 3 ∨ a1.toInt = 4 ∨ a1.toInt = 5 ∨ a1.toInt = 6 ∨ a1.toInt = 7 ∨ a1.toInt = 8 ∨ a1.toInt = 9 ∨ a1.toInt = 10 ∨ a1.toInt = 11 ∨ a1.toInt = 12 by omega) with z | z | z | z | z | z | z | z | z | z | z | z | z
  · obtain rfl : a1 = 0 := by rw [eq32]; exact z
    rw [show x12_mayBecome 0 a2 q = mm_cl (x12_within a2.toInt64 (1) (9) q) (fun r q' => mm_ck (mm_bb r) (some (r, q'))) from rfl, within_eq, mm_cl_s, mm_ck_t mm_pb, mm_i64]
    rfl
  · obtain rfl : a1 = 1 := by rw [eq32]; exact z
    rw [show x12_mayBecome 1 a2 q = mm_cl (x12_within a2.toInt64 (0) (9) q) (fun r q' => mm_ck (mm_bb r) (some (r, q'))) from rfl, within_eq, mm_cl_s, mm_ck_t mm_pb, mm_i64]
    rfl
  · obtain rfl : a1 = 2 := by rw [eq32]; exact z
    rw [show x12_mayBecome 2 a2 q = mm_cl (x12_within a2.toInt64 (0) (9) q) (fun r q' => mm_ck (mm_bb r) (some (r, q'))) from rfl, within_eq, mm_cl_s, mm_ck_t mm_pb, mm_i64]
    rfl
  · obtain rfl : a1 = 3 := by rw [eq32]; exact z
    rw [show x12_mayBecome 3 a2 q = mm_cl (x12_within a2.toInt64 (0) (12) q) (fun r q' => mm_ck (mm_bb r) (some (r, q'))) from rfl, within_eq, mm_cl_s, mm_ck_t mm_pb, mm_i64]
    rfl
  · obtain rfl : a1 = 4 := by rw [eq32]; exact z
    rw [show x12_mayBecome 4 a2 q = mm_cl (x12_within a2.toInt64 (1) (20) q) (fun r q' => mm_ck (mm_bb r) (some (r, q'))) from rfl, within_eq, mm_cl_s, mm_ck_t mm_pb, mm_i64]
    rfl
  · obtain rfl : a1 = 5 := by rw [eq32]; exact z
    rw [show x12_mayBecome 5 a2 q = mm_cl (x12_within a2.toInt64 (1) (9) q) (fun r q' => mm_ck (mm_bb r) (some (r, q'))) from rfl, within_eq, mm_cl_s, mm_ck_t mm_pb, mm_i64]
    rfl
  · obtain rfl : a1 = 6 := by rw [eq32]; exact z
    rw [show x12_mayBecome 6 a2 q = mm_cl (x12_within a2.toInt64 (0) (1) q) (fun r q' => mm_ck (mm_bb r) (some (r, q'))) from rfl, within_eq, mm_cl_s, mm_ck_t mm_pb, mm_i64]
    rfl
  · obtain rfl : a1 = 7 := by rw [eq32]; exact z
    rw [show x12_mayBecome 7 a2 q = mm_cl (x12_within a2.toInt64 (-9) (9) q) (fun r q' => mm_ck (mm_bb r) (some (r, q'))) from rfl, within_eq, mm_cl_s, mm_ck_t mm_pb, mm_i64]
    rfl
  · obtain rfl : a1 = 8 := by rw [eq32]; exact z
    rw [show x12_mayBecome 8 a2 q = mm_cl (x12_within a2.toInt64 (0) (999) q) (fun r q' => mm_ck (mm_bb r) (some (r, q'))) from rfl, within_eq, mm_cl_s, mm_ck_t mm_pb, mm_i64]
    rfl
  · obtain rfl : a1 = 9 := by rw [eq32]; exact z
    rw [show x12_mayBecome 9 a2 q = mm_cl (x12_within a2.toInt64 (0) (999) q) (fun r q' => mm_ck (mm_bb r) (some (r, q'))) from rfl, within_eq, mm_cl_s, mm_ck_t mm_pb, mm_i64]
    rfl
  · obtain rfl : a1 = 10 := by rw [eq32]; exact z
    rw [show x12_mayBecome 10 a2 q = mm_cl (x12_within a2.toInt64 (0) (20) q) (fun r q' => mm_ck (mm_bb r) (some (r, q'))) from rfl, within_eq, mm_cl_s, mm_ck_t mm_pb, mm_i64]
    rfl
  · obtain rfl : a1 = 11 := by rw [eq32]; exact z
    rw [show x12_mayBecome 11 a2 q = mm_cl (x12_within a2.toInt64 (-1) (999) q) (fun r q' => mm_ck (mm_bb r) (some (r, q'))) from rfl, within_eq, mm_cl_s, mm_ck_t mm_pb, mm_i64]
    rfl
  · obtain rfl : a1 = 12 := by rw [eq32]; exact z
    rw [show x12_mayBecome 12 a2 q = mm_cl (x12_within a2.toInt64 (0) (12) q) (fun r q' => mm_ck (mm_bb r) (some (r, q'))) from rfl, within_eq, mm_cl_s, mm_ck_t mm_pb, mm_i64]
    rfl
def mm_c0 (sp : Int32) (n : Nat) (c32 c33 c34 c54 c55 c56 : Nat → Int32) : Prop := (∀ j, j < 40 → c54 j = c32 j ∧ c55 j = c33 j ∧ c56 j = c34 j) ∧ ∀ j : Nat, j < n → ∃ c : Nat, mm_own sp c ∧ c32 j = Int32.ofNat c ∧ mm_okc c (c33 j) ∧ mm_okc c (c34 j)
theorem mm_c0_push {sp : Int32} {n : Nat} {c32 c33 c34 c54 c55 c56 : Nat → Int32} (h : mm_c0 sp n c32 c33 c34 c54 c55 c56) {d : Int32} (hd : d.toInt = n) (hn : n < 40) {c : Nat} {w v : Int32} (hc : mm_own sp c) (hw : mm_okc c w) (hv : mm_okc c v) : iv_chg sp (d + 1) (d + 1) (d + 1) (d + 1) (upd c32 n (Int32.ofNat c)) (upd c33 n w) (upd c34 n v) (upd c54 n (Int32.ofNat c)) (upd c55 n w) (upd c56 n v) := by
  have e : (d + 1).toInt = (n : Int) + 1 := by rw [mm_add_ti (by rw [ti1]; omega) (by rw [ti1]; omega), ti1, hd]
  refine ⟨by omega, ⟨rfl, rfl⟩, fun j hj => ?_, fun j hj => ?_⟩
  · unfold upd
    by_cases z : j = n
    · simp only [if_pos z, and_self]
    · simp only [if_neg z]
      exact h.1 j hj
  · unfold upd
    by_cases z : j = n
    · simp only [if_pos z]
      exact ⟨c, hc, rfl, hw, hv⟩
    · simp only [if_neg z]
      exact h.2 j (by omega)
def mm_sf (f : Nat → Int32) : Nat → Int32 := va_cpy f f 1 0 39
theorem mm_sf_at (f : Nat → Int32) (j : Nat) : mm_sf f j = if j < 39 then f (j + 1) else f j := by
  unfold mm_sf va_cpy
  by_cases h : j < 39
  · rw [if_pos ⟨Nat.zero_le _, by omega⟩, if_pos h]
    congr 1
    omega
  · rw [if_neg (by omega), if_neg h]
theorem mm_c0_shift {sp : Int32} {c32 c33 c34 c54 c55 c56 : Nat → Int32} (h : mm_c0 sp 40 c32 c33 c34 c54 c55 c56) : mm_c0 sp 39 (mm_sf c32) (mm_sf c33) (mm_sf c34) (mm_sf c54) (mm_sf c55) (mm_sf c56) := by
  refine ⟨fun j hj => ?_, fun j hj => ?_⟩
  · simp only [mm_sf_at]
    by_cases z : j < 39
    · simp only [if_pos z]
      exact h.1 (j + 1) (by omega)
    · simp only [if_neg z]
      exact h.1 j hj
  · simp only [mm_sf_at, if_pos hj]
    exact h.2 (j + 1) (by omega)
theorem note_eq {q : mm_Q} {n : Nat} (hn : (q.1 31 3).toInt = n) (h40 : n < 40) (a b c : Int32) : x1_note_j13 a b c q = some ((), mm_si (mm_si (mm_si (mm_si (mm_si q 32 n a) 33 n b) 34 n c) 31 3 (q.1 31 3 + 1)) 31 4 (q.1 31 3 + 1)) := by
  have hin : mm_inb (q.1 31 3) 40 = true := mm_inb_c hn h40
  unfold x1_note_j13 x1_note_j69
  rw [if_neg (by rw [lt32, ti0]; omega), if_neg (by rw [le32, ti40]; omega), mm_ck_t hin, mm_tcn hn, mm_lt_s]
  rw [show (mm_si q 32 n a).1 31 3 = q.1 31 3 from rfl, mm_ck_t hin, mm_tcn hn, mm_lt_s]
  rw [show (mm_si (mm_si q 32 n a) 33 n b).1 31 3 = q.1 31 3 from rfl, mm_ck_t hin, mm_tcn hn, mm_lt_s]
  rfl
theorem bec_eq {q : mm_Q} {n : Nat} (hn : (q.1 52 5).toInt = n) (h40 : n < 40) {a : Int32} {k : Nat} (ha : a.toInt = k) (hk : k < 54) (b c : Int32) : x12_becomes_j97 a b c q = some (c, mm_si (mm_si (mm_si (mm_si (mm_si (mm_si q 54 n a) 55 n c) 56 n b) 52 5 (q.1 52 5 + 1)) 52 4 (q.1 52 5 + 1)) 53 k b) := by
  have hin : mm_inb (q.1 52 5) 40 = true := mm_inb_c hn h40
  unfold x12_becomes_j97
  rw [mm_ck_t hin, mm_tcn hn, mm_lt_s]
  rw [show (mm_si q 54 n a).1 52 5 = q.1 52 5 from rfl, mm_ck_t hin, mm_tcn hn, mm_lt_s]
  rw [show (mm_si (mm_si q 54 n a) 55 n c).1 52 5 = q.1 52 5 from rfl, mm_ck_t hin, mm_tcn hn, mm_lt_s, mm_lt_s, mm_lt_s, mm_ck_t (mm_inb_c ha hk), mm_tcn ha]
  rfl
def mm_s3 (q : mm_Q) (f g h : Nat → Int32) : mm_Q := (mm_uc (mm_uc (mm_uc q.1 54 f) 55 g) 56 h, q.2)
def mm_sk (k : Nat) (f : Nat → Int32) : Nat → Int32 := fun j => if k ≤ j + 1 ∧ j < 39 then f (j + 1) else f j
theorem mm_sk_s (k : Nat) (hk : 1 ≤ k) (hk2 : k < 40) (f : Nat → Int32) : mm_sk (k + 1) (upd f (k - 1) (f k)) = mm_sk k f := by
  funext j
  unfold mm_sk upd
  by_cases c1 : k ≤ j ∧ j < 39
  · rw [if_pos (by omega), if_neg (by omega), if_pos (by omega)]
  · by_cases c2 : j = k - 1
    · rw [if_neg (by omega), if_pos c2, if_pos (by omega)]
      congr 1
      omega
    · rw [if_neg (by omega), if_neg c2, if_neg (by omega)]
theorem mm_sk40 (f : Nat → Int32) : mm_sk 40 f = f := by
  funext j
  unfold mm_sk
  rw [if_neg (by omega)]
theorem mm_sk1 (f : Nat → Int32) : mm_sk 1 f = mm_sf f := by
  funext j
  rw [mm_sf_at]
  unfold mm_sk
  by_cases c : j < 39
  · rw [if_pos ⟨by omega, c⟩, if_pos c]
  · rw [if_neg (by omega), if_neg c]
theorem mm_s3_s (q : mm_Q) (n : Nat) (x y z : Int32) (f g h : Nat → Int32) : mm_s3 (mm_si (mm_si (mm_si q 54 n x) 55 n y) 56 n z) f g h = mm_s3 q f g h := by
  unfold mm_s3
  refine Prod.ext ?_ rfl
  funext c
  show mm_uc (mm_uc (mm_uc _ 54 f) 55 g) 56 h c = mm_uc (mm_uc (mm_uc q.1 54 f) 55 g) 56 h c
  by_cases c6 : c = 56
  · subst c6; rfl
  by_cases c5 : c = 55
  · subst c5; rfl
  by_cases c4 : c = 54
  · subst c4; rfl
  rw [mm_uc_ne _ _ c6, mm_uc_ne _ _ c5, mm_uc_ne _ _ c4, mm_uc_ne _ _ c6, mm_uc_ne _ _ c5, mm_uc_ne _ _ c4]
  show mm_uc (mm_uc (mm_uc q.1 54 _) 55 _) 56 _ c = _
  rw [mm_uc_ne _ _ c6, mm_uc_ne _ _ c5, mm_uc_ne _ _ c4]
theorem mm_s3_id (q : mm_Q) : mm_s3 q (q.1 54) (q.1 55) (q.1 56) = q := by
  unfold mm_s3
  refine Prod.ext ?_ rfl
  funext c
  by_cases c6 : c = 56
  · subst c6; rfl
  by_cases c5 : c = 55
  · subst c5; rfl
  by_cases c4 : c = 54
  · subst c4; rfl
  show mm_uc (mm_uc (mm_uc q.1 54 _) 55 _) 56 _ c = _
  rw [mm_uc_ne _ _ c6, mm_uc_ne _ _ c5, mm_uc_ne _ _ c4]
theorem bec_loop (a1 a2 a3 : Int32) : ∀ (m : Nat) (k : Nat) (a4 : Int32) (q : mm_Q), k + m = 40 → 1 ≤ k → a4.toInt = k → x12_becomes_h26 (960 + m + 1) a1 a2 a3 a4 q = x12_becomes_j97 a1 a2 a3 (mm_si (mm_s3 q (mm_sk k (q.1 54)) (mm_sk k (q.1 55)) (mm_sk k (q.1 56))) 52 5 (q.1 52 5 - 1)) := by
  intro m
  induction m with
  | zero =>
    intro k a4 q hk h1 ha
    obtain rfl : k = 40 := by omega
    rw [x12_becomes_h26]
    rw [if_pos (by rw [le32, ti40]; omega), mm_lt_s, mm_sk40, mm_sk40, mm_sk40, mm_s3_id]
  | succ m ih =>
    intro k a4 q hk h1 ha
    have e1 : (a4 - 1).toInt = ((k - 1 : Nat) : Int) := by rw [mm_sub_ti (by rw [ti1]; omega) (by rw [ti1]; omega), ti1]; omega
    have e2 : (a4 + 1).toInt = ((k + 1 : Nat) : Int) := by rw [mm_add_ti (by rw [ti1]; omega) (by rw [ti1]; omega), ti1]; omega
    have i1 : mm_inb a4 40 = true := mm_inb_c ha (by omega)
    have i2 : mm_inb (a4 - 1) 40 = true := mm_inb_c e1 (by omega)
    rw [x12_becomes_h26]
    rw [if_neg (by rw [le32, ti40]; omega)]
    simp only [mm_ck_t i1, mm_ck_t i2, mm_lt_s, mm_tcn ha, mm_tcn e1]
    rw [show (mm_si q 54 (k - 1) (q.1 54 k)).1 55 k = q.1 55 k from rfl, show (mm_si (mm_si q 54 (k - 1) (q.1 54 k)) 55 (k - 1) (q.1 55 k)).1 56 k = q.1 56 k from rfl]
    rw [show 960 + (m + 1) = 960 + m + 1 from rfl, ih (k + 1) (a4 + 1) _ (by omega) (by omega) e2, mm_s3_s]
    show x12_becomes_j97 a1 a2 a3 (mm_si (mm_s3 q (mm_sk (k + 1) (upd (q.1 54) (k - 1) (q.1 54 k))) (mm_sk (k + 1) (upd (q.1 55) (k - 1) (q.1 55 k))) (mm_sk (k + 1) (upd (q.1 56) (k - 1) (q.1 56 k)))) 52 5 (q.1 52 5 - 1)) = _
    rw [mm_sk_s k h1 (by omega), mm_sk_s k h1 (by omega), mm_sk_s k h1 (by omega)]
section IV
variable {LR : mm_LR}
theorem pr_mend (v0 v1 v2 : Int32) : mm_pr (mm_Iv LR) (x11_mend v0 v1 v2) (x12_mend v0 v1 v2) := by
  intro q h
  have hl := h.2.1
  have hs : 0 ≤ (q.1 52 6).toInt := by rw [hl.2.1]; exact hl.1.1
  by_cases c : mm_pl (q.1 8 1) v0 v1 < 0
  · refine ⟨-2000000000, q, q, ?_, rfl, ?_, h⟩
    · unfold x11_mend
      rw [cellOf_eq, mm_cl_s, if_pos c]
    · unfold x12_mend
      rw [placeOf_eq hs, mm_cl_s, hl.2.1, if_pos c]
  obtain ⟨k, hk, e1, ew, e3⟩ := mm_pl_own hl.1.2 c
  have hw : mm_wh k ≤ 12 := by
    have := hk.1
    unfold mm_wh
    repeat' split
    all_goals omega
  have hin : x4_isWithin v1 v2.toInt64 q = some (mm_p ((mm_t2.getD (mm_wh k) 0).toInt ≤ v2.toInt ∧ v2.toInt ≤ (mm_t3.getD (mm_wh k) 0).toInt), q) := by
    rw [isWithin_eq h.1.2.1 h.1.2.2.1 (n := mm_wh k) ew.symm hw, mm_i64]
  have hmb : ∀ q, x12_mayBecome v1 v2 q = some (mm_p ((mm_t2.getD (mm_wh k) 0).toInt ≤ v2.toInt ∧ v2.toInt ≤ (mm_t3.getD (mm_wh k) 0).toInt), q) := by
    intro q
    rw [mayBecome_eq (by omega), show v1.toInt.toNat = mm_wh k by omega]
  by_cases c2 : (mm_t2.getD (mm_wh k) 0).toInt ≤ v2.toInt ∧ v2.toInt ≤ (mm_t3.getD (mm_wh k) 0).toInt
  · have hv : mm_okc k v2 := c2
    have hwas : mm_okc k (q.1 9 k) := hl.2.2.2 k hk
    have e53 := hl.2.2.1 k hk.1
    by_cases c3 : q.1 9 k = v2
    · refine ⟨q.1 9 k, q, q, ?_, rfl, ?_, h⟩
      · unfold x11_mend
        rw [cellOf_eq, mm_cl_s, if_neg c, hin, mm_cl_s, if_neg (by rw [mm_p0]; omega), numberIn_eq e3 hk.1, mm_cl_s, if_pos c3]
      · unfold x12_mend x12_becomes
        rw [placeOf_eq hs, mm_cl_s, hl.2.1, if_neg c, hmb, mm_cl_s, if_neg (by rw [mm_p0]; omega), mm_ck_t (mm_inb_c e3 hk.1), mm_tcn e3, e53, if_pos c3]
        rfl
    · obtain ⟨h1, h2, h3, h4, h5, h6, h7, h8, h9, h10⟩ := h
      obtain ⟨t1, t2, t3, t4⟩ := h3
      obtain ⟨n, hn⟩ : ∃ n : Nat, (q.1 31 3).toInt = n := ⟨(q.1 31 3).toInt.toNat, by omega⟩
      have k0 : mm_c0 (q.1 8 1) n (q.1 32) (q.1 33) (q.1 34) (q.1 54) (q.1 55) (q.1 56) := ⟨t3, fun j hj => t4 j (by omega)⟩
      by_cases c4 : n < 40
      · generalize hq1 : mm_si (mm_si (mm_si (mm_si (mm_si (mm_si q 32 n (mm_pl (q.1 8 1) v0 v1)) 33 n (q.1 9 k)) 34 n v2) 31 3 (q.1 31 3 + 1)) 31 4 (q.1 31 3 + 1)) 9 k v2 = q1
        have f52 : q1.1 52 = q.1 52 := by rw [← hq1]; rfl
        have f53 : q1.1 53 = q.1 53 := by rw [← hq1]; rfl
        have e0 : q1.1 0 = q.1 0 := by rw [← hq1]; rfl
        have hs1 : 0 ≤ (q1.1 52 6).toInt := by rw [f52]; exact hs
        refine ⟨q.1 9 k, q1, mm_si (mm_si (mm_si (mm_si (mm_si (mm_si q1 54 n (mm_pl (q.1 8 1) v0 v1)) 55 n (q.1 9 k)) 56 n v2) 52 5 (q.1 31 3 + 1)) 52 4 (q.1 31 3 + 1)) 53 k v2, ?_, e0, ?_, ?_⟩
        · unfold x11_mend x1_note
          rw [cellOf_eq, mm_cl_s, if_neg c, hin, mm_cl_s, if_neg (by rw [mm_p0]; omega), numberIn_eq e3 hk.1, mm_cl_s, if_neg c3, if_pos (by rw [lt32, ti40]; omega), note_eq hn c4, mm_cl_s, write_eq e3 hk.1, mm_cl_s, hq1]
        · unfold x12_mend x12_becomes
          rw [placeOf_eq hs1, mm_cl_s, f52, hl.2.1, if_neg c, hmb, mm_cl_s, if_neg (by rw [mm_p0]; omega), mm_ck_t (mm_inb_c e3 hk.1), mm_tcn e3, f53, e53, if_neg c3, f52, t2.1, if_neg (by rw [eq32, ti40]; omega), bec_eq (q := q1) (n := n) (by rw [f52, t2.1]; exact hn) c4 e3 hk.1, mm_cl_s, f52, t2.1]
        · subst hq1
          have := mm_c0_push k0 hn c4 hk hwas hv
          rw [← e1] at this
          exact ⟨h1, mm_lane_set h2 hv, this, h4, h5, h6, h7, h8, h9, h10⟩
      · obtain rfl : n = 40 := by omega
        have s0 := mm_c0_shift k0
        have d39 : (39 : Int32) + 1 = 40 := by decide
        generalize hq0 : mm_si (mm_ci (mm_ci (mm_ci q 32 32 1 0 39) 33 33 1 0 39) 34 34 1 0 39) 31 3 39 = q0
        have g3 : (q0.1 31 3).toInt = ((39 : Nat) : Int) := by rw [← hq0]; rfl
        have g4 : q0.1 31 3 = 39 := by rw [← hq0]; rfl
        generalize hq1 : mm_si (mm_si (mm_si (mm_si (mm_si (mm_si q0 32 39 (mm_pl (q.1 8 1) v0 v1)) 33 39 (q.1 9 k)) 34 39 v2) 31 3 (39 + 1)) 31 4 (39 + 1)) 9 k v2 = q1
        have f52 : q1.1 52 = q.1 52 := by rw [← hq1, ← hq0]; rfl
        have f53 : q1.1 53 = q.1 53 := by rw [← hq1, ← hq0]; rfl
        have f54 : q1.1 54 = q.1 54 := by rw [← hq1, ← hq0]; rfl
        have f55 : q1.1 55 = q.1 55 := by rw [← hq1, ← hq0]; rfl
        have f56 : q1.1 56 = q.1 56 := by rw [← hq1, ← hq0]; rfl
        have e0 : q1.1 0 = q.1 0 := by rw [← hq1, ← hq0]; rfl
        have hs1 : 0 ≤ (q1.1 52 6).toInt := by rw [f52]; exact hs
        have e40 : q.1 31 3 = 40 := by rw [eq32, ti40]; exact hn
        generalize hq2 : mm_si (mm_s3 q1 (mm_sf (q.1 54)) (mm_sf (q.1 55)) (mm_sf (q.1 56))) 52 5 39 = q2
        have g5 : q2.1 52 5 = 39 := by rw [← hq2]; rfl
        refine ⟨q.1 9 k, q1, mm_si (mm_si (mm_si (mm_si (mm_si (mm_si q2 54 39 (mm_pl (q.1 8 1) v0 v1)) 55 39 (q.1 9 k)) 56 39 v2) 52 5 (39 + 1)) 52 4 (39 + 1)) 53 k v2, ?_, e0, ?_, ?_⟩
        · have hf : x1_forgetOldest q = some ((), q0) := by
            unfold x1_forgetOldest
            rw [mm_ck_t (by decide), mm_lt_s, mm_ck_t (by decide), mm_lt_s, mm_ck_t (by decide), mm_lt_s, mm_lt_s, hq0]
          unfold x11_mend x1_note
          rw [cellOf_eq, mm_cl_s, if_neg c, hin, mm_cl_s, if_neg (by rw [mm_p0]; omega), numberIn_eq e3 hk.1, mm_cl_s, if_neg c3, if_neg (by rw [lt32, ti40]; omega), hf, mm_cl_s, note_eq g3 (by decide), mm_cl_s, write_eq e3 hk.1, mm_cl_s, g4, hq1]
        · unfold x12_mend x12_becomes
          rw [placeOf_eq hs1, mm_cl_s, f52, hl.2.1, if_neg c, hmb, mm_cl_s, if_neg (by rw [mm_p0]; omega), mm_ck_t (mm_inb_c e3 hk.1), mm_tcn e3, f53, e53, if_neg c3, f52, t2.1, if_pos e40]
          rw [show mm_fu = 960 + 39 + 1 from rfl, bec_loop _ _ _ 39 1 1 q1 (by decide) (by decide) ti1, mm_sk1, mm_sk1, mm_sk1, f52, f54, f55, f56, t2.1, e40, show (40 : Int32) - 1 = 39 from by decide, hq2, bec_eq (q := q2) (n := 39) (by rw [g5]; rfl) (by decide) e3 hk.1, mm_cl_s, g5]
        · subst hq2; subst hq1; subst hq0
          have := mm_c0_push s0 (d := 39) (by decide) (by decide) hk hwas hv
          rw [← e1] at this
          exact ⟨h1, mm_lane_set h2 hv, this, h4, h5, h6, h7, h8, h9, h10⟩
  · refine ⟨-2000000000, q, q, ?_, rfl, ?_, h⟩
    · unfold x11_mend
      rw [cellOf_eq, mm_cl_s, if_neg c, hin, mm_cl_s, if_pos (by rw [mm_p0]; exact c2)]
    · unfold x12_mend
      rw [placeOf_eq hs, mm_cl_s, hl.2.1, if_neg c, hmb, mm_cl_s, if_pos (by rw [mm_p0]; exact c2)]
end IV
