/-! pairs that write the lane -/
theorem si53_52 (q : mm_Q) (j : Nat) (x : Int32) : (mm_si q 53 j x).1 52 = q.1 52 := rfl
theorem si9_8 (q : mm_Q) (j : Nat) (x : Int32) : (mm_si q 9 j x).1 8 = q.1 8 := rfl
theorem si9_1 (q : mm_Q) (j : Nat) (x : Int32) : (mm_si q 9 j x).1 1 = q.1 1 := rfl
theorem si8_1 (q : mm_Q) (j : Nat) (x : Int32) : (mm_si q 8 j x).1 1 = q.1 1 := rfl
theorem write_eq {x : Int32} {c : Nat} (h : x.toInt = c) (hc : c < 54) (v : Int32) (q : mm_Q) : x4_write x v q = some ((), mm_si q 9 c v) := by
  unfold x4_write
  rw [if_neg (by rw [lt32, ti0]; omega), if_neg (by rw [le32, ti54]; omega), mm_ck_t (mm_inb_c h hc), mm_tcn h]
  rfl
def mm_w5 (f : Nat → Int32) (n : Nat) (a b c : Int32) : Nat → Int32 := upd (upd (upd (upd (upd f n a) (6 + n) b) (12 + n) c) (18 + n) 0) (24 + n) 10
theorem mm_addc {a b : Int32} {m n : Nat} (ha : a.toInt = m) (hb : b.toInt = n) (h : m + n < 1000) : (a + b).toInt = ((m + n : Nat) : Int) := by
  rw [mm_add_ti (by omega) (by omega), ha, hb, Int.natCast_add]
theorem welcome_eq {q : mm_Q} (ht : ∀ j, q.1 1 j = mm_t1.getD j 0) {n : Nat} (hn : (q.1 8 1).toInt = n) (h6 : n < 6) (a b c : Int32) : x4_welcome a b c q = some (q.1 8 1, mm_si (mm_si (mm_si (mm_si (mm_si (mm_si q 8 1 (q.1 8 1 + 1)) 9 n a) 9 (6 + n) b) 9 (12 + n) c) 9 (18 + n) 0) 9 (24 + n) 10) := by
  have e0 : (0 + q.1 8 1).toInt = (n : Int) := by have := mm_addc (m := 0) ti0 hn (by omega); rw [this]; omega
  have e1 := mm_addc (m := 6) ti6 hn (by omega)
  have e2 := mm_addc (m := 12) ti12 hn (by omega)
  have e3 := mm_addc (m := 18) ti18 hn (by omega)
  have e4 := mm_addc (m := 24) ti24 hn (by omega)
  unfold x4_welcome
  rw [mm_lt_s, write_eq e0 (by omega), mm_cl_s, write_eq e1 (by omega), mm_cl_s, write_eq e2 (by omega), mm_cl_s]
  simp only [si9_1, si8_1, ht]
  rw [show mm_t1.getD 3 0 = 0 from rfl, write_eq e3 (by omega), mm_cl_s]
  simp only [si9_1, si8_1, ht]
  rw [show mm_t1.getD 4 0 = 10 from rfl, write_eq e4 (by omega), mm_cl_s]
theorem adds_eq {q : mm_Q} {n : Nat} (hn : (q.1 52 6).toInt = n) (h6 : n < 6) (a b c : Int32) : x12_adds a b c q = some ((), mm_si (mm_si (mm_si (mm_si (mm_si (mm_si q 53 n a) 53 (6 + n) b) 53 (12 + n) c) 53 (18 + n) 0) 53 (24 + n) 10) 52 6 (q.1 52 6 + 1)) := by
  have e1 := mm_addc (m := 6) ti6 hn (by omega)
  have e2 := mm_addc (m := 12) ti12 hn (by omega)
  have e3 := mm_addc (m := 18) ti18 hn (by omega)
  have e4 := mm_addc (m := 24) ti24 hn (by omega)
  unfold x12_adds
  rw [mm_ck_t (mm_inb_c hn (by omega)), mm_tcn hn]
  simp only [mm_lt_s, si53_52]
  rw [mm_ck_t (mm_inb_c e1 (by omega)), mm_ck_t (mm_inb_c e2 (by omega)), mm_ck_t (mm_inb_c e3 (by omega)), mm_ck_t (mm_inb_c e4 (by omega)), mm_tcn e1, mm_tcn e2, mm_tcn e3, mm_tcn e4]
theorem isWithin_eq {q : mm_Q} (h2 : ∀ j, q.1 2 j = mm_t2.getD j 0) (h3 : ∀ j, q.1 3 j = mm_t3.getD j 0) {k : Int32} {n : Nat} (hk : k.toInt = n) (hn : n ≤ 12) (v : Int64) : x4_isWithin k v q = some (mm_p ((mm_t2.getD n 0).toInt ≤ v.toInt ∧ v.toInt ≤ (mm_t3.getD n 0).toInt), q) := by
  unfold x4_isWithin
  rw [if_neg (by rw [lt32, ti0]; omega), if_neg (by rw [lt32, ti12]; omega), mm_ck_t (mm_inb_c hk (by omega)), mm_ck_t (mm_inb_c hk (by omega)), mm_tcn hk, h2, h3]
  simp only [mm_cmp_lt, mm_cmp_gt, lt64, mm_i64]
  unfold mm_p
  by_cases c1 : v.toInt < (mm_t2.getD n 0).toInt
  · rw [if_pos c1, if_neg (by omega)]
  · rw [if_neg c1]
    by_cases c2 : (mm_t3.getD n 0).toInt < v.toInt
    · rw [if_pos c2, if_neg (by omega)]
    · rw [if_neg c2, if_pos (by omega)]
theorem isOne_eq (a b c : Int64) (q : mm_Q) : x12_isOne a b c q = some (mm_p ((1 ≤ a.toInt ∧ a.toInt ≤ 9) ∧ (0 ≤ b.toInt ∧ b.toInt ≤ 9) ∧ (0 ≤ c.toInt ∧ c.toInt ≤ 9)), q) := by
  unfold x12_isOne
  simp only [within_eq, mm_cl_s, mm_p0, tl0, tl1, tl9]
  unfold mm_p
  by_cases c1 : 1 ≤ a.toInt ∧ a.toInt ≤ 9
  · rw [if_neg (fun z => z c1)]
    by_cases c2 : 0 ≤ b.toInt ∧ b.toInt ≤ 9
    · rw [if_neg (fun z => z c2)]
      by_cases c3 : 0 ≤ c.toInt ∧ c.toInt ≤ 9
      · rw [if_neg (fun z => z c3), if_pos ⟨c1, c2, c3⟩]
      · rw [if_pos c3, if_neg (fun z => c3 z.2.2)]
    · rw [if_pos c2, if_neg (fun z => c2 z.2.1)]
  · rw [if_pos c1, if_neg (fun z => c1 z.1)]
theorem mm_own_up {sp sp' : Int32} {j : Nat} (h : sp.toInt ≤ sp'.toInt) (ho : mm_own sp j) : mm_own sp' j := ⟨ho.1, fun z => by have := ho.2 z; omega⟩
/-- what a new spitter leaves -/
theorem mm_lane_add {sp sp2 : Int32} {c9 c53 : Nat → Int32} (h : iv_lane sp sp2 c9 c53) {n : Nat} (hn : sp.toInt = n) (h6 : n < 6) {a b c : Int32} (ha : 1 ≤ a.toInt ∧ a.toInt ≤ 9) (hb : 0 ≤ b.toInt ∧ b.toInt ≤ 9) (hc : 0 ≤ c.toInt ∧ c.toInt ≤ 9) : iv_lane (sp + 1) (sp2 + 1) (mm_w5 c9 n a b c) (mm_w5 c53 n a b c) := by
  obtain ⟨h1, h2, h3, h4⟩ := h
  have e : (sp + 1).toInt = (n : Int) + 1 := by rw [mm_add_ti (by rw [ti1]; omega) (by rw [ti1]; omega), ti1]; omega
  refine ⟨by omega, by rw [h2], fun j hj => ?_, fun j hj => ?_⟩
  · unfold mm_w5 upd
    repeat' split
    all_goals first | rfl | exact h3 j hj
  · obtain ⟨o1, o2⟩ := hj
    have w0 : j = n → mm_wh j = 0 := fun z => by unfold mm_wh; rw [if_pos (by omega)]; omega
    have w1 : j = 6 + n → mm_wh j = 1 := fun z => by unfold mm_wh; rw [if_pos (by omega)]; omega
    have w2 : j = 12 + n → mm_wh j = 2 := fun z => by unfold mm_wh; rw [if_pos (by omega)]; omega
    have w3 : j = 18 + n → mm_wh j = 3 := fun z => by unfold mm_wh; rw [if_pos (by omega)]; omega
    have w4 : j = 24 + n → mm_wh j = 4 := fun z => by unfold mm_wh; rw [if_pos (by omega)]; omega
    unfold mm_w5 upd
    by_cases z4 : j = 24 + n
    · rw [if_pos z4]; unfold mm_okc; rw [w4 z4]; decide
    rw [if_neg z4]
    by_cases z3 : j = 18 + n
    · rw [if_pos z3]; unfold mm_okc; rw [w3 z3]; decide
    rw [if_neg z3]
    by_cases z2 : j = 12 + n
    · rw [if_pos z2]; unfold mm_okc; rw [w2 z2]; exact hc
    rw [if_neg z2]
    by_cases z1 : j = 6 + n
    · rw [if_pos z1]; unfold mm_okc; rw [w1 z1]; exact hb
    rw [if_neg z1]
    by_cases z0 : j = n
    · rw [if_pos z0]; unfold mm_okc; rw [w0 z0]; exact ha
    rw [if_neg z0]
    refine h4 j ⟨o1, fun z => ?_⟩
    have := o2 z
    omega
theorem mm_chg_up {sp sp' dn kp dn2 kp2 : Int32} {c32 c33 c34 c54 c55 c56 : Nat → Int32} (h : sp.toInt ≤ sp'.toInt) (hc : iv_chg sp dn kp dn2 kp2 c32 c33 c34 c54 c55 c56) : iv_chg sp' dn kp dn2 kp2 c32 c33 c34 c54 c55 c56 := by
  obtain ⟨a, b, c, d⟩ := hc
  refine ⟨a, b, c, fun j hj => ?_⟩
  obtain ⟨k, k1, k2⟩ := d j hj
  exact ⟨k, mm_own_up h k1, k2⟩
theorem mm_deed_up {sp sp' tr he ba : Int32} {c48 c65 c66 c67 : Nat → Int32} (h : sp.toInt ≤ sp'.toInt) (hd : iv_deed sp tr he ba c48 c65 c66 c67) : iv_deed sp' tr he ba c48 c65 c66 c67 := ⟨hd.1, hd.2.1, fun p hp z => hd.2.2 p hp (by omega)⟩
theorem mm_pic_up {sp sp' pic kept isp : Int32} {c47 c68 : Nat → Int32} (h : sp.toInt ≤ sp'.toInt) (hd : iv_pic sp pic kept isp c47 c68) : iv_pic sp' pic kept isp c47 c68 := ⟨hd.1, fun z => ⟨⟨(hd.2 z).1.1, by have := (hd.2 z).1.2; omega⟩, (hd.2 z).2⟩⟩
section IV
variable {LR : mm_LR}
/-- both sides let one in -/
theorem mm_join_in {q : mm_Q} (h : mm_Iv LR q) {n : Nat} (hn : (q.1 8 1).toInt = n) (h6 : n < 6) {a b c : Int32} (ha : 1 ≤ a.toInt ∧ a.toInt ≤ 9) (hb : 0 ≤ b.toInt ∧ b.toInt ≤ 9) (hc : 0 ≤ c.toInt ∧ c.toInt ≤ 9) (q1 : mm_Q) (hq1 : q1 = mm_si (mm_si (mm_si (mm_si (mm_si (mm_si q 8 1 (q.1 8 1 + 1)) 9 n a) 9 (6 + n) b) 9 (12 + n) c) 9 (18 + n) 0) 9 (24 + n) 10) : mm_Iv LR (mm_si (mm_si (mm_si (mm_si (mm_si (mm_si q1 53 n a) 53 (6 + n) b) 53 (12 + n) c) 53 (18 + n) 0) 53 (24 + n) 10) 52 6 (q1.1 52 6 + 1)) := by
  subst hq1
  obtain ⟨h1, h2, h3, h4, h5, h6', h7, h8, h9, h10⟩ := h
  have e : (q.1 8 1 + 1).toInt = (q.1 8 1).toInt + 1 := by rw [mm_add_ti (by rw [ti1]; omega) (by rw [ti1]; omega), ti1]
  have u : (q.1 8 1).toInt ≤ (q.1 8 1 + 1).toInt := by omega
  exact ⟨h1, mm_lane_add h2 hn h6 ha hb hc, mm_chg_up u h3, h4, mm_deed_up u h5, mm_pic_up u h6', h7, h8, h9, h10⟩
theorem pr_spitter (v0 v1 : Int32) : mm_pr (mm_Iv LR) (x11_spitter v0 v1) (x12_spitter v0 v1) := by
  intro q h
  have ht := h.1
  have hl := h.2.1
  have hl1 := hl.1
  have s1 : x4_isWithin 0 v0.toInt64 q = some (mm_p (1 ≤ v0.toInt ∧ v0.toInt ≤ 9), q) := by
    rw [isWithin_eq ht.2.1 ht.2.2.1 (n := 0) ti0 (by decide), mm_i64]; rfl
  have s2 : x4_isWithin 1 v1.toInt64 q = some (mm_p (0 ≤ v1.toInt ∧ v1.toInt ≤ 9), q) := by
    rw [isWithin_eq ht.2.1 ht.2.2.1 (n := 1) ti1 (by decide), mm_i64]; rfl
  by_cases c1 : 1 ≤ v0.toInt ∧ v0.toInt ≤ 9
  · by_cases c2 : 0 ≤ v1.toInt ∧ v1.toInt ≤ 9
    · by_cases c3 : (q.1 8 1).toInt < 6
      · obtain ⟨n, hn⟩ : ∃ n : Nat, (q.1 8 1).toInt = n := ⟨(q.1 8 1).toInt.toNat, by omega⟩
        have ha : x11_spitter v0 v1 q = some (q.1 8 1, mm_si (mm_si (mm_si (mm_si (mm_si (mm_si q 8 1 (q.1 8 1 + 1)) 9 n v0) 9 (6 + n) v1) 9 (12 + n) 1) 9 (18 + n) 0) 9 (24 + n) 10) := by
          unfold x11_spitter x4_isFull
          rw [s1, mm_cl_s, if_neg (by rw [mm_p0]; omega), s2, mm_cl_s, if_neg (by rw [mm_p0]; omega), if_pos (by rw [lt32, ti6]; omega), mm_cl_s, if_pos rfl, welcome_eq ht.1 hn (by omega)]
          rfl
        generalize hq1 : mm_si (mm_si (mm_si (mm_si (mm_si (mm_si q 8 1 (q.1 8 1 + 1)) 9 n v0) 9 (6 + n) v1) 9 (12 + n) 1) 9 (18 + n) 0) 9 (24 + n) 10 = q1 at ha
        have e52 : q1.1 52 = q.1 52 := by rw [← hq1]; rfl
        have e0 : q1.1 0 = q.1 0 := by rw [← hq1]; rfl
        refine ⟨q.1 8 1, q1, _, ha, e0, ?_, mm_join_in h hn (by omega) c1 c2 (by rw [ti1]; omega) q1 hq1.symm⟩
        unfold x12_spitter
        have z : (q1.1 52 6).toInt = n := by rw [e52, hl.2.1]; exact hn
        rw [isOne_eq, mm_cl_s, mm_i64, mm_i64, tl1, if_neg (by rw [mm_p0]; omega), if_neg (by rw [eq32, ti6]; omega), adds_eq z (by omega), mm_cl_s]
        show some (q1.1 52 6 + 1 - 1, _) = _
        rw [e52, hl.2.1]
        have e3 : q.1 8 1 + 1 - 1 = q.1 8 1 := by
          have e : (q.1 8 1 + 1).toInt = (q.1 8 1).toInt + 1 := by rw [mm_add_ti (by rw [ti1]; omega) (by rw [ti1]; omega), ti1]
          rw [eq32, mm_sub_ti (by rw [ti1]; omega) (by rw [ti1]; omega), ti1, e]; omega
        rw [e3]
      · refine ⟨-3, q, q, ?_, rfl, ?_, h⟩
        · unfold x11_spitter x4_isFull
          rw [s1, mm_cl_s, if_neg (by rw [mm_p0]; omega), s2, mm_cl_s, if_neg (by rw [mm_p0]; omega), if_neg (by rw [lt32, ti6]; omega), mm_cl_s, if_neg (by decide)]
        · unfold x12_spitter
          rw [isOne_eq, mm_cl_s, mm_i64, mm_i64, tl1, if_neg (by rw [mm_p0]; omega), hl.2.1, if_pos (by rw [eq32, ti6]; omega)]
    · refine ⟨-1, q, q, ?_, rfl, ?_, h⟩
      · unfold x11_spitter
        rw [s1, mm_cl_s, if_neg (by rw [mm_p0]; omega), s2, mm_cl_s, if_pos (by rw [mm_p0]; omega)]
      · unfold x12_spitter
        rw [isOne_eq, mm_cl_s, mm_i64, mm_i64, tl1, if_pos (by rw [mm_p0]; omega)]
  · refine ⟨-1, q, q, ?_, rfl, ?_, h⟩
    · unfold x11_spitter
      rw [s1, mm_cl_s, if_pos (by rw [mm_p0]; omega)]
    · unfold x12_spitter
      rw [isOne_eq, mm_cl_s, mm_i64, mm_i64, tl1, if_pos (by rw [mm_p0]; omega)]
/-- one cell exchanged on both sides -/
theorem mm_lane_set {sp sp2 : Int32} {c9 c53 : Nat → Int32} (h : iv_lane sp sp2 c9 c53) {c : Nat} {v : Int32} (hv : mm_okc c v) : iv_lane sp sp2 (upd c9 c v) (upd c53 c v) := by
  obtain ⟨h1, h2, h3, h4⟩ := h
  refine ⟨h1, h2, fun j hj => ?_, fun j hj => ?_⟩
  · unfold upd
    by_cases z : j = c
    · rw [if_pos z, if_pos z]
    · rw [if_neg z, if_neg z]; exact h3 j hj
  · unfold upd
    by_cases z : j = c
    · rw [if_pos z, z]; exact hv
    · rw [if_neg z]; exact h4 j hj
theorem pr_undo : mm_pr (mm_Iv LR) x11_undo x12_undo := by
  intro q h
  obtain ⟨h1, h2, h3, h4, h5, h6, h7, h8, h9, h10⟩ := h
  obtain ⟨t1, t2, t3, t4⟩ := h3
  by_cases c : (q.1 31 3).toInt ≤ 0
  · refine ⟨-5, q, q, ?_, rfl, ?_, h1, h2, ⟨t1, t2, t3, t4⟩, h4, h5, h6, h7, h8, h9, h10⟩
    · unfold x11_undo x1_stepBack
      rw [if_pos (by rw [le32, ti0]; omega)]
      rfl
    · unfold x12_undo
      rw [t2.1, if_pos (by rw [eq32, ti0]; omega)]
  · have ed : (q.1 31 3 - 1).toInt = (q.1 31 3).toInt - 1 := by rw [mm_sub_ti (by rw [ti1]; omega) (by rw [ti1]; omega), ti1]
    obtain ⟨n, hn⟩ : ∃ n : Nat, (q.1 31 3 - 1).toInt = n := ⟨((q.1 31 3).toInt - 1).toNat, by omega⟩
    obtain ⟨k, k1, k2, k3, k4⟩ := t4 n (by omega)
    have ek : (q.1 32 n).toInt = k := by rw [k2, mm_ofNat_ti (by have := k1.1; omega)]
    have tn := t3 n (by omega)
    have hin : mm_inb (q.1 31 3 - 1) 40 = true := mm_inb_c hn (by omega)
    refine ⟨q.1 31 3 - 1, mm_si (mm_si q 31 3 (q.1 31 3 - 1)) 9 k (q.1 33 n), mm_si (mm_si (mm_si (mm_si q 31 3 (q.1 31 3 - 1)) 9 k (q.1 33 n)) 52 5 (q.1 31 3 - 1)) 53 k (q.1 33 n), ?_, rfl, ?_, h1, mm_lane_set h2 k3, ⟨?_, ⟨rfl, t2.2⟩, t3, t4⟩, h4, h5, h6, h7, h8, h9, h10⟩
    · unfold x11_undo x1_stepBack
      rw [if_neg (by rw [le32, ti0]; omega), if_pos (by rw [le32, ti40]; omega), mm_lt_s]
      rw [show (mm_si q 31 3 (q.1 31 3 - 1)).1 31 3 = q.1 31 3 - 1 from rfl, mm_ck_t hin, mm_ck_t hin, mm_tcn hn]
      rw [show (mm_si q 31 3 (q.1 31 3 - 1)).1 32 n = q.1 32 n from rfl, show (mm_si q 31 3 (q.1 31 3 - 1)).1 33 n = q.1 33 n from rfl, write_eq ek k1.1]
      rfl
    · generalize hq1 : mm_si (mm_si q 31 3 (q.1 31 3 - 1)) 9 k (q.1 33 n) = q1
      have f52 : q1.1 52 = q.1 52 := by rw [← hq1]; rfl
      have f54 : q1.1 54 = q.1 54 := by rw [← hq1]; rfl
      have f55 : q1.1 55 = q.1 55 := by rw [← hq1]; rfl
      unfold x12_undo
      rw [f52, t2.1, if_neg (by rw [eq32, ti0]; omega), mm_lt_s]
      rw [show (mm_si q1 52 5 (q.1 31 3 - 1)).1 52 5 = q.1 31 3 - 1 from rfl, mm_ck_t hin, mm_ck_t hin, mm_tcn hn]
      rw [show (mm_si q1 52 5 (q.1 31 3 - 1)).1 54 n = q.1 32 n from (congrFun f54 n).trans tn.1, show (mm_si q1 52 5 (q.1 31 3 - 1)).1 55 n = q.1 33 n from (congrFun f55 n).trans tn.2.1, mm_ck_t (mm_inb_c ek k1.1), mm_tcn ek]
      rfl
    · show 0 ≤ (q.1 31 3 - 1).toInt ∧ (q.1 31 3 - 1).toInt ≤ (q.1 31 4).toInt ∧ (q.1 31 4).toInt ≤ 40
      omega
theorem pr_redo : mm_pr (mm_Iv LR) x11_redo x12_redo := by
  intro q h
  obtain ⟨h1, h2, h3, h4, h5, h6, h7, h8, h9, h10⟩ := h
  obtain ⟨t1, t2, t3, t4⟩ := h3
  by_cases c : (q.1 31 4).toInt ≤ (q.1 31 3).toInt
  · refine ⟨-5, q, q, ?_, rfl, ?_, h1, h2, ⟨t1, t2, t3, t4⟩, h4, h5, h6, h7, h8, h9, h10⟩
    · unfold x11_redo x1_stepOn
      rw [if_neg (by rw [lt32, ti0]; omega), if_pos (by rw [le32]; omega)]
      rfl
    · unfold x12_redo
      rw [t2.1, t2.2, if_pos (by rw [eq32]; omega)]
  · obtain ⟨n, hn⟩ : ∃ n : Nat, (q.1 31 3).toInt = n := ⟨(q.1 31 3).toInt.toNat, by omega⟩
    have ed : (q.1 31 3 + 1).toInt = (q.1 31 3).toInt + 1 := by rw [mm_add_ti (by rw [ti1]; omega) (by rw [ti1]; omega), ti1]
    obtain ⟨k, k1, k2, k3, k4⟩ := t4 n (by omega)
    have ek : (q.1 32 n).toInt = k := by rw [k2, mm_ofNat_ti (by have := k1.1; omega)]
    have tn := t3 n (by omega)
    have hin : mm_inb (q.1 31 3) 40 = true := mm_inb_c hn (by omega)
    refine ⟨q.1 31 4 - (q.1 31 3 + 1), mm_si (mm_si q 9 k (q.1 34 n)) 31 3 (q.1 31 3 + 1), mm_si (mm_si (mm_si (mm_si q 9 k (q.1 34 n)) 31 3 (q.1 31 3 + 1)) 53 k (q.1 34 n)) 52 5 (q.1 31 3 + 1), ?_, rfl, ?_, h1, mm_lane_set h2 k4, ⟨?_, ⟨rfl, t2.2⟩, t3, t4⟩, h4, h5, h6, h7, h8, h9, h10⟩
    · unfold x11_redo x1_stepOn
      rw [if_neg (by rw [lt32, ti0]; omega), if_neg (by rw [le32]; omega), if_pos (by rw [lt32, ti40]; omega), mm_ck_t hin, mm_ck_t hin, mm_tcn hn, write_eq ek k1.1]
      rfl
    · generalize hq1 : mm_si (mm_si q 9 k (q.1 34 n)) 31 3 (q.1 31 3 + 1) = q1
      have f52 : q1.1 52 = q.1 52 := by rw [← hq1]; rfl
      have f54 : q1.1 54 = q.1 54 := by rw [← hq1]; rfl
      have f56 : q1.1 56 = q.1 56 := by rw [← hq1]; rfl
      unfold x12_redo
      rw [f52, f54, f56, t2.1, t2.2, if_neg (by rw [eq32]; omega), mm_ck_t hin, mm_ck_t hin, mm_tcn hn, tn.1, tn.2.2, mm_ck_t (mm_inb_c ek k1.1), mm_tcn ek, mm_lt_s, mm_lt_s]
      show some (q1.1 52 4 - (q1.1 52 5 + 1), mm_si _ 52 5 (q1.1 52 5 + 1)) = _
      rw [f52, t2.1, t2.2]
    · show 0 ≤ (q.1 31 3 + 1).toInt ∧ (q.1 31 3 + 1).toInt ≤ (q.1 31 4).toInt ∧ (q.1 31 4).toInt ≤ 40
      omega
end IV
