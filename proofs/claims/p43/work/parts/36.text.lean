/-! the law by a text: fed, read, worked out -/
section TX
variable {ch : Nat → Int32}
theorem tlp_no {sub : Nat → Pr} {t : Nat} {i : Nat} (h : ¬ sg t (ch i)) (m : Nat) (C : List Int32) (v : mm_F) : tlp ch sub t m i C v = (true, i, C, v) := by
  cases m with
  | zero => rfl
  | succ m => rw [tlp, if_neg h]
theorem tlp_yes {sub : Nat → Pr} {t : Nat} {i i' : Nat} {C' : List Int32} {v' : mm_F} (h : sg t (ch i)) (e : sub (i + 1) = (true, i', C', v')) (m : Nat) (C : List Int32) (v : mm_F) : tlp ch sub t (m + 1) i C v = tlp ch sub t m i' (C ++ C' ++ [-(ch i)]) (fjn (ch i) v v') := by
  rw [tlp, if_pos h, e, if_pos rfl]
theorem chn_eq {sub : Nat → Pr} {t : Nat} {i i' : Nat} {C' : List Int32} {v' : mm_F} (e : sub i = (true, i', C', v')) : chn ch sub t i = tlp ch sub t (if t = 2 then 1 else 120) i' C' v' := by
  rw [chn, e, if_pos rfl]
theorem OP_l {i : Nat} {c k : Int32} (h : ch i = c) (ho : ¬ opn c) (hd : ¬ (48 ≤ c ∧ c ≤ 57)) (hk : nmv c = k) (h0 : 0 ≤ k) : OP ch 6 i = (true, i + 1, [10000 + k], pj k) := by
  rw [OP, h, if_neg ho, op0, h, if_neg hd, hk, if_pos h0]
/-- a digit, behind which no digit stands -/
theorem OP_d {i : Nat} {x d : Int32} (h : ch i = x) (h1 : 48 ≤ x.toInt ∧ x.toInt ≤ 57) (hn : ch (i + 1) < 48) (hd : 0 * 10 + x - 48 = d) : OP ch 6 i = (true, i + 1, [d], Fc d) := by
  have ho : ¬ opn x := by
    intro z
    rcases z with z | z | z
    · rw [z] at h1; exact absurd h1 (by decide)
    · rw [z] at h1; exact absurd h1 (by decide)
    · rw [z] at h1; exact absurd h1 (by decide)
  have e : tnum ch 4 i 0 = (i + 1, d) := by
    rw [tnum, h, if_neg (by rw [lt32, show (48 : Int32).toInt = 48 from by decide]; omega), if_neg (by rw [lt32, show (57 : Int32).toInt = 57 from by decide]; omega), tnum, if_pos hn, hd]
  rw [OP, h, if_neg ho, op0, h, if_pos ⟨by rw [le32, show (48 : Int32).toInt = 48 from by decide]; omega, by rw [le32, show (57 : Int32).toInt = 57 from by decide]; omega⟩, e]
theorem term_ok {i : Nat} {c : Int32} {C0 C2 : List Int32} {v0 v2 : mm_F} (h0 : OP ch 6 i = (true, i + 1, C0, v0)) (h1 : ch (i + 1) = c) (hs : sg 4 c) (h2 : OP ch 6 (i + 2) = (true, i + 3, C2, v2)) (hn : ¬ sg 4 (ch (i + 3))) : ∃ C, tlv ch (OP ch 6) 1 i = (true, i + 3, C, fjn c v0 v2) := by
  refine ⟨C0 ++ C2 ++ [-c], ?_⟩
  show chn ch (OP ch 6) 4 i = _
  rw [chn_eq h0, if_neg (by decide), show (120 : Nat) = 119 + 1 from rfl, tlp_yes (by rw [h1]; exact hs) h2, tlp_no hn, h1]
/-- one more in a chain of plus and minus -/
theorem chain_s {i i' : Nat} {c : Int32} {T : mm_F} (h : ch i = c) (hs : sg 3 c) (ht : ∃ C, tlv ch (OP ch 6) 1 (i + 1) = (true, i', C, T)) (m : Nat) (v : mm_F) : ∀ C, ∃ C', tlp ch (tlv ch (OP ch 6) 1) 3 (m + 1) i C v = tlp ch (tlv ch (OP ch 6) 1) 3 m i' C' (fjn c v T) := by
  intro C
  obtain ⟨C2, e⟩ := ht
  exact ⟨_, by rw [tlp_yes (by rw [h]; exact hs) e, h]⟩
theorem level_up {j : Nat} {i' : Nat} {C : List Int32} {v : mm_F} (h : tlv ch (OP ch 6) j 0 = (true, i', C, v)) (hn : ¬ sg (4 - j) (ch i')) : tlv ch (OP ch 6) (j + 1) 0 = (true, i', C, v) := by
  show chn ch (tlv ch (OP ch 6) j) (4 - j) 0 = _
  rw [chn_eq h, tlp_no hn]
theorem jn42 (a b : Int32) : jn 42 a b = a * b := by
  unfold jn
  rw [if_neg (by decide), if_neg (by decide), if_pos rfl]
theorem jn43 (a b : Int32) : jn 43 a b = a + b := by
  unfold jn
  rw [if_neg (by decide), if_neg (by decide), if_neg (by decide), if_pos rfl]
theorem jn45 (a b : Int32) : jn 45 a b = a - b := by
  unfold jn
  rw [if_neg (by decide), if_neg (by decide), if_neg (by decide), if_neg (by decide), if_pos rfl]
theorem jn47 (a : Int32) : jn 47 a 2 = a / 2 := by
  unfold jn
  rw [if_neg (by decide), if_neg (by decide), if_neg (by decide), if_neg (by decide), if_neg (by decide), if_pos rfl, if_neg (by decide)]
/-- the text with three digits -/
def tb (x0 x1 x2 : Int32) : List Int32 := [112, 42, x0, 43, 97, 42, x1, 45, 122, 42, x2, 43, 119, 42, 57, 43, 101, 42, 50, 45, 116, 47, 50]
theorem text_ok {x0 x1 x2 d0 d1 d2 : Int32} (e0 : 48 ≤ x0.toInt ∧ x0.toInt ≤ 57) (e1 : 48 ≤ x1.toInt ∧ x1.toInt ≤ 57) (e2 : 48 ≤ x2.toInt ∧ x2.toInt ≤ 57) (f0 : 0 * 10 + x0 - 48 = d0) (f1 : 0 * 10 + x1 - 48 = d1) (f2 : 0 * 10 + x2 - 48 = d2) (h : ∀ i, i < 23 → ch i = (tb x0 x1 x2).getD i 0) (h23 : ch 23 = -1) : ∃ C, ttx ch 23 121 0 0 = (true, 23, C, FT d0 d1 d2) := by
  have c0 : ch 0 = 112 := h 0 (by decide)
  have c1 : ch 1 = 42 := h 1 (by decide)
  have c2 : ch 2 = x0 := h 2 (by decide)
  have c3 : ch 3 = 43 := h 3 (by decide)
  have c4 : ch 4 = 97 := h 4 (by decide)
  have c5 : ch 5 = 42 := h 5 (by decide)
  have c6 : ch 6 = x1 := h 6 (by decide)
  have c7 : ch 7 = 45 := h 7 (by decide)
  have c8 : ch 8 = 122 := h 8 (by decide)
  have c9 : ch 9 = 42 := h 9 (by decide)
  have c10 : ch 10 = x2 := h 10 (by decide)
  have c11 : ch 11 = 43 := h 11 (by decide)
  have c12 : ch 12 = 119 := h 12 (by decide)
  have c13 : ch 13 = 42 := h 13 (by decide)
  have c14 : ch 14 = 57 := h 14 (by decide)
  have c15 : ch 15 = 43 := h 15 (by decide)
  have c16 : ch 16 = 101 := h 16 (by decide)
  have c17 : ch 17 = 42 := h 17 (by decide)
  have c18 : ch 18 = 50 := h 18 (by decide)
  have c19 : ch 19 = 45 := h 19 (by decide)
  have c20 : ch 20 = 116 := h 20 (by decide)
  have c21 : ch 21 = 47 := h 21 (by decide)
  have c22 : ch 22 = 50 := h 22 (by decide)
  obtain ⟨C0, t0⟩ := term_ok (i := 0) (OP_l c0 (by decide) (by decide) (k := 1) (by decide) (by decide)) c1 (by decide) (OP_d c2 e0 (by rw [c3]; decide) f0) (by rw [c3]; decide)
  have t1 := term_ok (i := 4) (OP_l c4 (by decide) (by decide) (k := 0) (by decide) (by decide)) c5 (by decide) (OP_d c6 e1 (by rw [c7]; decide) f1) (by rw [c7]; decide)
  have t2 := term_ok (i := 8) (OP_l c8 (by decide) (by decide) (k := 2) (by decide) (by decide)) c9 (by decide) (OP_d c10 e2 (by rw [c11]; decide) f2) (by rw [c11]; decide)
  have t3 := term_ok (i := 12) (OP_l c12 (by decide) (by decide) (k := 3) (by decide) (by decide)) c13 (by decide) (OP_d (d := 9) c14 (by decide) (by rw [c15]; decide) (by decide)) (by rw [c15]; decide)
  have t4 := term_ok (i := 16) (OP_l c16 (by decide) (by decide) (k := 4) (by decide) (by decide)) c17 (by decide) (OP_d (d := 2) c18 (by decide) (by rw [c19]; decide) (by decide)) (by rw [c19]; decide)
  have t5 := term_ok (i := 20) (OP_l c20 (by decide) (by decide) (k := 5) (by decide) (by decide)) c21 (by decide) (OP_d (d := 2) c22 (by decide) (by rw [h23]; decide) (by decide)) (by rw [h23]; decide)
  obtain ⟨D1, s1⟩ := chain_s (i := 3) c3 (by decide) t1 119 (fjn 42 (pj 1) (Fc d0)) C0
  obtain ⟨D2, s2⟩ := chain_s (i := 7) c7 (by decide) t2 118 (fjn 43 (fjn 42 (pj 1) (Fc d0)) (fjn 42 (pj 0) (Fc d1))) D1
  obtain ⟨D3, s3⟩ := chain_s (i := 11) c11 (by decide) t3 117 (fjn 45 (fjn 43 (fjn 42 (pj 1) (Fc d0)) (fjn 42 (pj 0) (Fc d1))) (fjn 42 (pj 2) (Fc d2))) D2
  obtain ⟨D4, s4⟩ := chain_s (i := 15) c15 (by decide) t4 116 (fjn 43 (fjn 45 (fjn 43 (fjn 42 (pj 1) (Fc d0)) (fjn 42 (pj 0) (Fc d1))) (fjn 42 (pj 2) (Fc d2))) (fjn 42 (pj 3) (Fc 9))) D3
  obtain ⟨D5, s5⟩ := chain_s (i := 19) c19 (by decide) t5 115 (fjn 43 (fjn 43 (fjn 45 (fjn 43 (fjn 42 (pj 1) (Fc d0)) (fjn 42 (pj 0) (Fc d1))) (fjn 42 (pj 2) (Fc d2))) (fjn 42 (pj 3) (Fc 9))) (fjn 42 (pj 4) (Fc 2))) D4
  have l2 : tlv ch (OP ch 6) 2 0 = (true, 23, D5, fjn 45 (fjn 43 (fjn 43 (fjn 45 (fjn 43 (fjn 42 (pj 1) (Fc d0)) (fjn 42 (pj 0) (Fc d1))) (fjn 42 (pj 2) (Fc d2))) (fjn 42 (pj 3) (Fc 9))) (fjn 42 (pj 4) (Fc 2))) (fjn 47 (pj 5) (Fc 2))) := by
    show chn ch (tlv ch (OP ch 6) 1) 3 0 = _
    rw [chn_eq t0, if_neg (by decide), show (120 : Nat) = 119 + 1 from rfl, s1, show (119 : Nat) = 118 + 1 from rfl, s2, show (118 : Nat) = 117 + 1 from rfl, s3, show (117 : Nat) = 116 + 1 from rfl, s4, show (116 : Nat) = 115 + 1 from rfl, s5, tlp_no (by rw [h23]; decide)]
  have l5 := level_up (level_up (level_up l2 (by rw [h23]; decide)) (by rw [h23]; decide)) (by rw [h23]; decide)
  have eF : fjn 45 (fjn 43 (fjn 43 (fjn 45 (fjn 43 (fjn 42 (pj 1) (Fc d0)) (fjn 42 (pj 0) (Fc d1))) (fjn 42 (pj 2) (Fc d2))) (fjn 42 (pj 3) (Fc 9))) (fjn 42 (pj 4) (Fc 2))) (fjn 47 (pj 5) (Fc 2)) = FT d0 d1 d2 := by
    funext a p z w e t
    have g0 : pj 0 a p z w e t = a := rfl
    have g1 : pj 1 a p z w e t = p := rfl
    have g2 : pj 2 a p z w e t = z := rfl
    have g3 : pj 3 a p z w e t = w := rfl
    have g4 : pj 4 a p z w e t = e := rfl
    have g5 : pj 5 a p z w e t = t := rfl
    have gc : ∀ x : Int32, Fc x a p z w e t = x := fun _ => rfl
    have gj : ∀ (s : Int32) (u v : mm_F), fjn s u v a p z w e t = jn s (u a p z w e t) (v a p z w e t) := fun _ _ _ => rfl
    simp only [gj, g0, g1, g2, g3, g4, g5, gc, jn42, jn43, jn45, jn47]
    rfl
  rw [eF] at l5
  refine ⟨D5 ++ [-2], ?_⟩
  have le : EX ch 0 = (true, 23, D5, FT d0 d1 d2) := l5
  have lt : tli ch 0 0 = (true, 23, D5 ++ [-2], fun _ => FT d0 d1 d2) := by
    show xl2 ch 0 (EX ch 0) = _
    rw [le]
    show (if true = true then (if ch 23 = 63 then _ else (true, 23, D5 ++ [-2], fun _ => FT d0 d1 d2)) else _) = _
    rw [if_pos rfl, if_neg (by rw [h23]; decide)]
  show xt2 ch 23 (tli ch 0 0) (ttx ch 23 120 (0 + (tli ch 0 0).2.2.1.length) ((tli ch 0 0).2.1 + 1)) = _
  rw [lt]
  show (if true = true then (if (23 : Nat) < 23 then _ else (true, 23, D5 ++ [-2], FT d0 d1 d2)) else _) = _
  rw [if_pos rfl, if_neg (by decide)]
end TX
section TF
/-- what the tape holds -/
def TP (l : List Int32) (q : mm_Q) : Prop := (q.1 28 2).toInt = l.length ∧ ∀ j, j < l.length → q.1 29 j = l.getD j 0
theorem gtD {l : List Int32} {i : Nat} (h : i < l.length) : l.getD i 0 = l[i] := by
  rw [List.getD_eq_getElem?_getD, List.getElem?_eq_getElem h]
  rfl
theorem feed_ok {l : List Int32} {q : mm_Q} (h : TP l q) (hl : l.length < 120) {v : Int32} (h0 : 0 ≤ v.toInt) (h1 : v.toInt ≤ 255) : ∃ (r : Int32) (q' : mm_Q), x11_feed v q = some (r, q') ∧ 0 < r.toInt ∧ TP (l ++ [v]) q' ∧ fr [28, 29] q q' ∧ ∀ j, j ≠ 2 → q'.1 28 j = q.1 28 j := by
  have e1 : (q.1 28 2 + 1).toInt = ((l.length + 1 : Nat) : Int) := mm_inc1 h.1 (by omega)
  have ll : (l ++ [v]).length = l.length + 1 := by rw [List.length_append]; rfl
  refine ⟨q.1 28 2 + 1, mm_si (mm_si q 29 l.length v) 28 2 (q.1 28 2 + 1), ?_, by omega, ⟨?_, fun j hj => ?_⟩, fr_trans (fr_si _ _ _ (by decide)) (fr_si _ _ _ (by decide)), fun j hj => ?_⟩
  · unfold x11_feed x9_isFull x9_append
    rw [if_neg (by rw [lt32, ti0]; omega), if_pos (by rw [le32, ti255]; omega), if_pos (by rw [lt32, ti120]; have := h.1; omega), mm_cl_s, if_pos rfl, if_neg (by rw [lt32, ti0]; have := h.1; omega), if_neg (by rw [le32, ti120]; have := h.1; omega), mm_ck_t (mm_inb_c h.1 hl), mm_lt_s, mm_lt_s, mm_tcn h.1, mm_cl_s]
    have e : (mm_si (mm_si q 29 l.length v) 28 2 ((mm_si q 29 l.length v).1 28 2 + 1)).1 28 2 = q.1 28 2 + 1 := by
      rw [mm_si_self, upd_self]
      rfl
    rw [e]
    rfl
  · rw [mm_si_self, upd_self, ll]
    exact e1
  · rw [mm_si_ne _ _ _ _ (by decide), mm_si_self]
    rw [ll] at hj
    by_cases e : j = l.length
    · rw [e, upd_self, gtD (show l.length < (l ++ [v]).length by rw [ll]; omega), List.getElem_append_right (Nat.le_refl _)]
      simp
    · rw [upd_ne _ _ _ e, h.2 j (by omega), gtD (show j < (l ++ [v]).length by rw [ll]; omega), List.getElem_append_left (by omega), gtD (show j < l.length by omega)]
  · rw [mm_si_self, upd_ne _ _ _ hj, mm_si_ne _ _ _ _ (by decide)]
theorem three_ok {l : List Int32} {q : mm_Q} (h : TP l q) (hl : l.length < 110) {a b c : Int32} (ha : 0 ≤ a.toInt ∧ a.toInt ≤ 255) (hb : 0 ≤ b.toInt ∧ b.toInt ≤ 255) (hc : 0 ≤ c.toInt ∧ c.toInt ≤ 255) : ∃ q', x14_three a b c q = some (1, q') ∧ TP (l ++ [a, b, c]) q' ∧ fr [28, 29] q q' ∧ ∀ j, j ≠ 2 → q'.1 28 j = q.1 28 j := by
  have l1 : ∀ x : Int32, (l ++ [x]).length = l.length + 1 := fun x => by rw [List.length_append]; rfl
  obtain ⟨r1, q1, y1, y2, y3, y4, y5⟩ := feed_ok h (by omega) ha.1 ha.2
  obtain ⟨r2, q2, z1, z2, z3, z4, z5⟩ := feed_ok y3 (by rw [l1]; omega) hb.1 hb.2
  obtain ⟨r3, q3, w1, w2, w3, w4, w5⟩ := feed_ok z3 (by rw [List.length_append, l1]; show l.length + 1 + 1 < 120; omega) hc.1 hc.2
  refine ⟨q3, ?_, ?_, fr_trans (fr_trans y4 z4) w4, fun j hj => (w5 j hj).trans ((z5 j hj).trans (y5 j hj))⟩
  · unfold x14_three
    rw [y1, mm_cl_s, if_neg (by rw [le32, ti0]; omega), z1, mm_cl_s, if_neg (by rw [le32, ti0]; omega), w1, mm_cl_s, if_neg (by rw [le32, ti0]; omega)]
  · have e : l ++ [a] ++ [b] ++ [c] = l ++ [a, b, c] := by simp
    rw [← e]
    exact w3
/-- the class takes a text, and its law works it out -/
theorem law_ok {q : mm_Q} {N i' : Nat} {C : List Int32} {v : mm_F} (hN : N ≤ 120) (h2 : (q.1 28 2).toInt = N) (ht : ttx (chs (q.1 29) N) N 121 0 0 = (true, i', C, v)) : ∃ q1, x11_law q = some (1, q1) ∧ fr [28, 30, 11, 10] q q1 ∧ lc v (q1.1 11) (q1.1 10 3) := by
  have kt := k_isText (B := q.1 29) hN h2 (fun j _ => rfl)
  have hw := ttx_wf (B := q.1 29) (N := N) 121 0 0 (Nat.zero_le _)
  have ew := fun (c11 : Nat → Int32) (len : Int32) => e_worth (ch := chs (q.1 29) N) (N := N) (c11 := c11) (len := len)
  rw [ht] at kt hw ew
  obtain ⟨q', e1, hk, hg⟩ := kt.1 rfl
  have hk4 : (q'.1 28 4).toInt = ((C.length : Nat) : Int) := by
    have := hk.2.2.1
    rw [Nat.zero_add] at this
    exact this
  have w0 : 0 < C.length ∧ C.length + 0 ≤ N + 1 := hw rfl
  have hC : C.length ≤ 200 := by omega
  have hcells : ∀ k, k < C.length → q'.1 30 k = C.getD k 0 := by
    intro k hk
    have := hg.2.2 k hk
    rw [Nat.zero_add] at this
    exact this
  unfold x11_law
  rw [e1, mm_cl_s, if_neg (show ¬ (1 : Int32) = 0 by decide)]
  unfold x11_law_j26 x11_law_j42 x9_clear x9_writeTo x5_become
  rw [if_neg (show ¬ (1 : Int32) = 0 by decide), if_neg (by rw [lt32, ti0]; omega), if_neg (by rw [lt32, ti200]; omega), if_neg (by rw [lt32, ti200]; omega), mm_ck_t (cp_ok hk4 hC), mm_lt_s, mm_lt_s, mm_cl_s, mm_cl_s, mm_lt_s, mm_cl_s, mm_tcn hk4]
  obtain ⟨qc, hqc⟩ : ∃ qc, mm_ci q' 30 11 0 0 C.length = qc := ⟨_, rfl⟩
  rw [hqc]
  obtain ⟨q1, hq1⟩ : ∃ q1, mm_si (mm_si qc 10 3 (q'.1 28 4)) 28 2 0 = q1 := ⟨_, rfl⟩
  rw [hq1]
  have fc : fr [11] q' qc := by
    rw [← hqc]
    exact ⟨rfl, fun k hk => mm_uc_ne _ _ (fun z => hk (by rw [z]; decide))⟩
  have cc : ∀ k, k < C.length → qc.1 11 k = C.getD k 0 := by
    intro k hk
    have e : qc.1 11 = va_cpy (q'.1 30) (q'.1 11) 0 0 C.length := by rw [← hqc]; exact mm_uc_self q'.1 11 (va_cpy (q'.1 30) (q'.1 11) 0 0 C.length)
    rw [e]
    unfold va_cpy
    rw [if_pos ⟨Nat.zero_le _, by omega⟩, Nat.zero_add, Nat.sub_zero]
    exact hcells k hk
  have f1 : fr [28, 30, 11, 10] q q1 := by
    rw [← hq1]
    exact fr_trans (fr_mono hg.1.1 (by decide)) (fr_trans (fr_mono fc (by decide)) (fr_trans (fr_si _ _ _ (by decide)) (fr_si _ _ _ (by decide))))
  have c10 : q1.1 10 3 = q'.1 28 4 := by rw [← hq1, mm_si_ne _ _ _ _ (by decide), mm_si_self, upd_self]
  have c11 : ∀ k, k < C.length → q1.1 11 k = C.getD k 0 := by
    rw [← hq1, mm_si_ne _ _ _ _ (by decide), mm_si_ne _ _ _ _ (by decide)]
    exact cc
  refine ⟨q1, rfl, f1, Or.inr ⟨by rw [c10]; omega, fun q0 a p z w e t g11 g10 => ?_⟩⟩
  exact ew (q1.1 11) (q1.1 10 3) rfl c11 hC (by rw [c10]; exact hk4) q0 a p z w e t g11 g10
end TF
