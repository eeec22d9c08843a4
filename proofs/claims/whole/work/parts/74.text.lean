/-! the class works its text out -/
theorem max_if (a b : Int32) : (mm_max a b).toInt = if a.toInt < b.toInt then b.toInt else a.toInt := by
  unfold mm_max
  by_cases h : a < b
  · rw [if_pos h, if_pos (lt32.mp h)]
  · rw [if_neg h, if_neg (fun z => h (lt32.mpr z))]
section SW
variable {c : Nat → Int32} {l : Int32} {g : Nat → Int32}
theorem sv_nil {st : List Int32} {q : mm_Q} (h : sv c l g st q) : sv c l g [] q := ⟨h.1, h.2.1, h.2.2.1, fun k hk => absurd hk (Nat.not_lt_zero k)⟩
theorem s_end {q : mm_Q} {a7 a8 u : Int32} {pos n : Nat} (h : sv c l g ([] ++ [u]) q) (hs : a7.toInt = ((0 : Nat) : Int)) (hp : a8.toInt = pos) (h2 : pos < 200) (hl : (pos : Int) < l.toInt) (hc : c pos = -2) : x5_worth_h51 (n + 1) a7 a8 q = some (u, q) := by
  obtain ⟨c1, c2, c3, c4⟩ := s_cell h hp h2 hl
  have hu := sv_len h
  rw [x5_worth_h51, if_neg c1, if_neg c2, mm_ck_t c3, c4, hc, if_pos (by decide)]
  unfold x5_worth_j149
  rw [if_neg (by rw [lt32, ti0]; omega), if_pos (by rw [lt32, ti64']; omega), if_pos rfl, mm_ck_t (mm_inb_c hs (by decide)), mm_tcn hs]
  rw [show q.1 12 0 = u from hu]
theorem s_cond {q : mm_Q} {a7 a8 u x : Int32} {pos n y : Nat} (h : sv c l g ([] ++ [u]) q) (hs : a7.toInt = ((0 : Nat) : Int)) (hp : a8.toInt = pos) (h2 : pos < 200) (hl : (pos : Int) < l.toInt) (hc : c pos = x) (hx : x.toInt = ((20000 + y : Nat) : Int)) (hy : pos < y) (hy2 : y ≤ 200) : ∃ b7 b8 : Int32, x5_worth_h51 (n + 1) a7 a8 q = x5_worth_h51 n b7 b8 q ∧ b7.toInt + 1 = 0 ∧ b8.toInt = ((if u = 0 then y else pos + 1 : Nat) : Int) := by
  obtain ⟨c1, c2, c3, c4⟩ := s_cell h hp h2 hl
  have hu : q.1 12 0 = u := sv_len h
  have e6 : (a7 + Int32.ofInt (-1)).toInt = -1 := by
    rw [mm_add_ti (by rw [tim1]; omega) (by rw [tim1]; omega), tim1]
    omega
  have ey : (x - 20000 - 1).toInt = (y : Int) - 1 := by
    rw [mm_sub_ti, mm_sub_ti, ti2e4, show (1 : Int32).toInt = 1 by decide] <;> (try rw [mm_sub_ti]) <;> (try rw [ti2e4]) <;> (try rw [show (1 : Int32).toInt = 1 by decide]) <;> omega
  have em : (mm_max a8 (x - 20000 - 1)).toInt = ((y - 1 : Nat) : Int) := by
    rw [max_if, ey, hp]
    split <;> omega
  rw [x5_worth_h51, if_neg c1, if_neg c2, mm_ck_t c3, c4, hc, if_neg (by rw [lt32, ti0]; omega), if_pos (by rw [le32, ti2e4]; omega)]
  unfold x5_worth_j149
  rw [if_neg (by rw [lt32, ti0]; omega), if_pos (by rw [lt32, ti64']; omega), if_neg (fun z => by rw [z] at hx; exact absurd (show (-2 : Int) = _ from hx) (by omega)), if_neg (by rw [lt32, ti2e4]; omega), mm_ck_t (mm_inb_c hs (by decide)), mm_tcn hs, hu]
  unfold x5_worth_j201 x5_worth_j229 x5_worth_j328
  by_cases u0 : u = 0
  · rw [if_pos u0, if_pos rfl]
    refine ⟨_, _, rfl, by omega, ?_⟩
    rw [if_pos u0, mm_inc1 em (by omega)]
    omega
  · rw [if_neg u0, if_neg (by decide)]
    refine ⟨_, _, rfl, by omega, ?_⟩
    rw [if_neg u0]
    exact mm_inc1 hp (by omega)
theorem e_line {ch : Nat → Int32} {d i : Nat} (o : (tli ch d i).1 = true) (hc : ∀ k, k < (tli ch d i).2.2.1.length → c (d + k) = (tli ch d i).2.2.1.getD k 0) (h200 : d + (tli ch d i).2.2.1.length ≤ 200) (hl : ((d + (tli ch d i).2.2.1.length : Nat) : Int) ≤ l.toInt) {F : Nat} (hF : (tli ch d i).2.2.1.length ≤ F) {a7 a8 : Int32} {q : mm_Q} (hs : sv c l g [] q) (h7 : a7.toInt + 1 = 0) (h8 : a8.toInt = d) :
    (∃ (q' : mm_Q) (x : Int32), x5_worth_h51 F a7 a8 q = some (x, q') ∧ fr [12] q q' ∧ ∀ K, nm ((tli ch d i).2.2.2 K) g = x) ∨ ∃ (q' : mm_Q) (F' : Nat) (b7 b8 : Int32), F ≤ F' + (tli ch d i).2.2.1.length ∧ x5_worth_h51 F a7 a8 q = x5_worth_h51 F' b7 b8 q' ∧ fr [12] q q' ∧ sv c l g [] q' ∧ b7.toInt + 1 = 0 ∧ b8.toInt = ((d + (tli ch d i).2.2.1.length : Nat) : Int) ∧ ∀ K, nm ((tli ch d i).2.2.2 K) g = nm K g := by
  unfold tli xl2 at o hc h200 hl hF ⊢
  have r := e_EX (c := c) (l := l) (g := g) (ch := ch) i
  generalize EX ch i = R at o hc h200 hl hF r ⊢
  obtain ⟨b, i', C', v'⟩ := R
  cases b with
  | false => exact absurd o Bool.false_ne_true
  | true =>
    have e1 : EV c l g C' v' 36 := r rfl
    rw [if_pos (show (true, i', C', v').1 = true from rfl)] at o hc h200 hl hF ⊢
    by_cases c63 : ch (true, i', C', v').2.1 = 63
    · rw [if_pos c63] at o hc h200 hl hF ⊢
      have r2 := e_EX (c := c) (l := l) (g := g) (ch := ch) ((true, i', C', v').2.1 + 1)
      generalize EX ch ((true, i', C', v').2.1 + 1) = S at o hc h200 hl hF r2 ⊢
      obtain ⟨b2, i2, C2, v2⟩ := S
      cases b2 with
      | false => exact absurd o Bool.false_ne_true
      | true =>
        have e2 : EV c l g C2 v2 36 := r2 rfl
        rw [if_pos (show (true, i2, C2, v2).1 = true from rfl)] at o hc h200 hl hF ⊢
        obtain ⟨x, hx⟩ : ∃ x, 20000 + Int32.ofNat (d + C'.length + 1 + C2.length + 1) = x := ⟨_, rfl⟩
        have hc1 : ∀ k, k < (C' ++ ([x] ++ (C2 ++ [-2]))).length → c (d + k) = (C' ++ ([x] ++ (C2 ++ [-2]))).getD k 0 := by rw [← hx]; exact hc
        have hlen : ∀ y : Int32, (C' ++ ([y] ++ (C2 ++ [-2]))).length = C'.length + 1 + C2.length + 1 := by
          intro y
          rw [List.length_append, List.length_append, List.length_append]
          show C'.length + (1 + (C2.length + 1)) = _
          omega
        have h200' : d + (C'.length + 1 + C2.length + 1) ≤ 200 := by
          have := (show d + (C' ++ ([20000 + Int32.ofNat (d + C'.length + 1 + C2.length + 1)] ++ (C2 ++ [-2]))).length ≤ 200 from h200)
          rw [hlen] at this
          exact this
        have hl' : ((d + (C'.length + 1 + C2.length + 1) : Nat) : Int) ≤ l.toInt := by
          have := (show ((d + (C' ++ ([20000 + Int32.ofNat (d + C'.length + 1 + C2.length + 1)] ++ (C2 ++ [-2]))).length : Nat) : Int) ≤ l.toInt from hl)
          rw [hlen] at this
          exact this
        have hF' : C'.length + 1 + C2.length + 1 ≤ F := by
          have := (show (C' ++ ([20000 + Int32.ofNat (d + C'.length + 1 + C2.length + 1)] ++ (C2 ++ [-2]))).length ≤ F from hF)
          rw [hlen] at this
          exact this
        obtain ⟨n, rfl⟩ : ∃ n, F = n + 1 + C2.length + 1 + C'.length := ⟨F - (C'.length + 1 + C2.length + 1), by omega⟩
        have xt : x.toInt = ((20000 + (d + C'.length + 1 + C2.length + 1) : Nat) : Int) := by
          rw [← hx, mm_add_ti, ti2e4, mm_ofNat_ti (by omega)] <;> (try rw [ti2e4]) <;> (try rw [mm_ofNat_ti (by omega)]) <;> omega
        have hA := cells_l hc1
        have hR := cells_r hc1
        have hcell : c (d + C'.length) = x := hR 0 (by rw [List.length_append]; show 0 < 1 + _; omega)
        have hR2 := cells_r (pos := d + C'.length) hR
        have hR3 := cells_l hR2
        have hcell2 : c (d + C'.length + 1 + C2.length) = -2 := by
          have := cells_r hR2 0 Nat.zero_lt_one
          exact this
        obtain ⟨q1, b7, b8, g1, s1, f1, i7, i8⟩ := e1 (n + 1 + C2.length + 1) d [] a7 a8 q hA (by omega) (by omega) (by decide) hs h7 h8
        obtain ⟨d7, d8, g2, j7, j8⟩ := s_cond (n := n + 1 + C2.length) s1 i7 i8 (by omega) (by omega) hcell xt (by omega) (by omega)
        by_cases v0 : nm v' g = 0
        · rw [if_pos v0] at j8
          refine Or.inr ⟨q1, n + 1 + C2.length, d7, d8, ?_, by rw [g1, g2], f1, sv_nil s1, j7, ?_, fun K => if_pos v0⟩
          · show n + 1 + C2.length + 1 + C'.length ≤ n + 1 + C2.length + (C' ++ ([20000 + Int32.ofNat (d + C'.length + 1 + C2.length + 1)] ++ (C2 ++ [-2]))).length
            rw [hlen]
            omega
          · show d8.toInt = ((d + (C' ++ ([20000 + Int32.ofNat (d + C'.length + 1 + C2.length + 1)] ++ (C2 ++ [-2]))).length : Nat) : Int)
            rw [hlen, j8]
            omega
        · rw [if_neg v0] at j8
          obtain ⟨q2, p7, p8, g3, s3, f3, k7, k8⟩ := e2 (n + 1) (d + C'.length + 1) [] d7 d8 q1 hR3 (by omega) (by omega) (by decide) (sv_nil s1) j7 j8
          have g4 := s_end (n := n) s3 k7 k8 (by omega) (by omega) hcell2
          exact Or.inl ⟨q2, nm v2 g, by rw [g1, g2, g3, g4], fr_trans f1 f3, fun K => if_neg v0⟩
    · rw [if_neg c63] at o hc h200 hl hF ⊢
      have hlen : (C' ++ [(-2 : Int32)]).length = C'.length + 1 := by rw [List.length_append]; rfl
      have hc1 : ∀ k, k < (C' ++ [(-2 : Int32)]).length → c (d + k) = (C' ++ [(-2 : Int32)]).getD k 0 := hc
      have h200' : d + (C' ++ [(-2 : Int32)]).length ≤ 200 := h200
      have hl' : ((d + (C' ++ [(-2 : Int32)]).length : Nat) : Int) ≤ l.toInt := hl
      have hF' : (C' ++ [(-2 : Int32)]).length ≤ F := hF
      rw [hlen] at h200' hl' hF'
      obtain ⟨n, rfl⟩ : ∃ n, F = n + 1 + C'.length := ⟨F - (C'.length + 1), by omega⟩
      have hcell : c (d + C'.length) = -2 := cells_r hc1 0 Nat.zero_lt_one
      obtain ⟨q1, b7, b8, g1, s1, f1, i7, i8⟩ := e1 (n + 1) d [] a7 a8 q (cells_l hc1) (by omega) (by omega) (by decide) hs h7 h8
      have g4 := s_end (n := n) s1 i7 i8 (by omega) (by omega) hcell
      exact Or.inl ⟨q1, nm v' g, by rw [g1, g4], f1, fun K => rfl⟩
theorem e_text {ch : Nat → Int32} {N : Nat} : ∀ (m d i : Nat), (ttx ch N m d i).1 = true → (∀ k, k < (ttx ch N m d i).2.2.1.length → c (d + k) = (ttx ch N m d i).2.2.1.getD k 0) → d + (ttx ch N m d i).2.2.1.length ≤ 200 → l.toInt = ((d + (ttx ch N m d i).2.2.1.length : Nat) : Int) → ∀ (F : Nat) (a7 a8 : Int32) (q : mm_Q), (ttx ch N m d i).2.2.1.length < F → sv c l g [] q → a7.toInt + 1 = 0 → a8.toInt = d → ∃ q', x5_worth_h51 F a7 a8 q = some (nm (ttx ch N m d i).2.2.2 g, q') ∧ fr [12] q q'
  | 0, d, i, o => absurd o Bool.false_ne_true
  | m + 1, d, i, o => by
    intro hc h200 hl F a7 a8 q hF hs h7 h8
    rw [ttx] at o hc h200 hl hF ⊢
    have eL := e_line (c := c) (l := l) (g := g) (ch := ch) (d := d) (i := i)
    have ih := e_text (ch := ch) (N := N) m (d + (tli ch d i).2.2.1.length) ((tli ch d i).2.1 + 1)
    generalize ttx ch N m (d + (tli ch d i).2.2.1.length) ((tli ch d i).2.1 + 1) = T at o hc h200 hl hF ih ⊢
    generalize tli ch d i = L at o hc h200 hl hF ih eL ⊢
    obtain ⟨b, i', C', f'⟩ := L
    unfold xt2 at o hc h200 hl hF ⊢
    cases b with
    | false => exact absurd o Bool.false_ne_true
    | true =>
      rw [if_pos (show (true, i', C', f').1 = true from rfl)] at o hc h200 hl hF ⊢
      by_cases ci : (true, i', C', f').2.1 < N
      · rw [if_pos ci] at o hc h200 hl hF ⊢
        by_cases c59 : ch (true, i', C', f').2.1 = 59
        · rw [if_pos c59] at o hc h200 hl hF ⊢
          obtain ⟨b2, i2, C2, v2⟩ := T
          cases b2 with
          | false => exact absurd o Bool.false_ne_true
          | true =>
            rw [if_pos (show (true, i2, C2, v2).1 = true from rfl)] at o hc h200 hl hF ⊢
            have hc1 : ∀ k, k < (C' ++ C2).length → c (d + k) = (C' ++ C2).getD k 0 := hc
            have h200' : d + (C' ++ C2).length ≤ 200 := h200
            have hl' : l.toInt = ((d + (C' ++ C2).length : Nat) : Int) := hl
            have hF' : (C' ++ C2).length < F := hF
            rw [List.length_append] at h200' hl' hF'
            rcases eL rfl (cells_l hc1) (show d + C'.length ≤ 200 by omega) (show ((d + C'.length : Nat) : Int) ≤ l.toInt by omega) (show C'.length ≤ F by omega) hs h7 h8 with ⟨q1, x, g1, f1, hx⟩ | ⟨q1, F', b7, b8, hF1, g1, f1, s1, i7, i8, hx⟩
            · exact ⟨q1, by rw [g1]; exact congrArg (fun z => some (z, q1)) (hx v2).symm, f1⟩
            · have hF2 : F ≤ F' + C'.length := hF1
              obtain ⟨q2, g2, f2⟩ := ih rfl (cells_r hc1) (show d + C'.length + C2.length ≤ 200 by omega) (show l.toInt = ((d + C'.length + C2.length : Nat) : Int) by omega) F' b7 b8 q1 (show C2.length < F' by omega) s1 i7 i8
              exact ⟨q2, by rw [g1, g2]; exact congrArg (fun z => some (z, q2)) (hx v2).symm, fr_trans f1 f2⟩
        · rw [if_neg c59] at o
          exact absurd o Bool.false_ne_true
      · rw [if_neg ci] at o hc h200 hl hF ⊢
        have hl' : l.toInt = ((d + C'.length : Nat) : Int) := hl
        rcases eL rfl hc h200 (show ((d + C'.length : Nat) : Int) ≤ l.toInt by omega) (show C'.length ≤ F from Nat.le_of_lt hF) hs h7 h8 with ⟨q1, x, g1, f1, hx⟩ | ⟨q1, F', b7, b8, hF1, g1, f1, s1, i7, i8, hx⟩
        · exact ⟨q1, by rw [g1]; exact congrArg (fun z => some (z, q1)) (hx F_0).symm, f1⟩
        · have hF2 : F ≤ F' + C'.length := hF1
          have hF3 : C'.length < F := hF
          have i8' : b8.toInt = ((d + C'.length : Nat) : Int) := i8
          obtain ⟨n, rfl⟩ : ∃ n, F' = n + 1 := ⟨F' - 1, by omega⟩
          refine ⟨q1, ?_, f1⟩
          rw [g1, x5_worth_h51, if_pos (by rw [s1.2.1, le32]; omega)]
          exact congrArg (fun z => some (z, q1)) (hx F_0).symm
/-- the class's law is the text's -/
theorem e_worth {ch : Nat → Int32} {N : Nat} {c11 : Nat → Int32} {len : Int32} (o : (ttx ch N 121 0 0).1 = true) (hc : ∀ k, k < (ttx ch N 121 0 0).2.2.1.length → c11 k = (ttx ch N 121 0 0).2.2.1.getD k 0) (h200 : (ttx ch N 121 0 0).2.2.1.length ≤ 200) (hl : len.toInt = (((ttx ch N 121 0 0).2.2.1.length : Nat) : Int)) (q : mm_Q) (a p z w e t : Int32) (h11 : q.1 11 = c11) (h10 : q.1 10 3 = len) : ∃ q', x5_worth a p z w e t q = some ((ttx ch N 121 0 0).2.2.2 a p z w e t, q') ∧ fr [12, 13] q q' := by
  unfold x5_worth
  rw [mm_lt_s, mm_lt_s, mm_lt_s, mm_lt_s, mm_lt_s, mm_lt_s]
  obtain ⟨q6, hq6⟩ : ∃ q6, mm_si (mm_si (mm_si (mm_si (mm_si (mm_si q 13 0 a) 13 1 p) 13 2 z) 13 3 w) 13 4 e) 13 5 t = q6 := ⟨_, rfl⟩
  rw [hq6]
  have hf : fr [13] q q6 := by
    rw [← hq6]
    exact fr_trans (fr_trans (fr_trans (fr_trans (fr_trans (fr_si _ _ _ (by decide)) (fr_si _ _ _ (by decide))) (fr_si _ _ _ (by decide))) (fr_si _ _ _ (by decide))) (fr_si _ _ _ (by decide))) (fr_si _ _ _ (by decide))
  have v : nm (ttx ch N 121 0 0).2.2.2 (q6.1 13) = (ttx ch N 121 0 0).2.2.2 a p z w e t := by
    have n5 : q6.1 13 5 = t := by rw [← hq6, mm_si_self, upd_self]
    have n4 : q6.1 13 4 = e := by rw [← hq6, mm_si_self, upd_ne _ _ _ (by decide), mm_si_self, upd_self]
    have n3 : q6.1 13 3 = w := by rw [← hq6, mm_si_self, upd_ne _ _ _ (by decide), mm_si_self, upd_ne _ _ _ (by decide), mm_si_self, upd_self]
    have n2 : q6.1 13 2 = z := by rw [← hq6, mm_si_self, upd_ne _ _ _ (by decide), mm_si_self, upd_ne _ _ _ (by decide), mm_si_self, upd_ne _ _ _ (by decide), mm_si_self, upd_self]
    have n1 : q6.1 13 1 = p := by rw [← hq6, mm_si_self, upd_ne _ _ _ (by decide), mm_si_self, upd_ne _ _ _ (by decide), mm_si_self, upd_ne _ _ _ (by decide), mm_si_self, upd_ne _ _ _ (by decide), mm_si_self, upd_self]
    have n0 : q6.1 13 0 = a := by rw [← hq6, mm_si_self, upd_ne _ _ _ (by decide), mm_si_self, upd_ne _ _ _ (by decide), mm_si_self, upd_ne _ _ _ (by decide), mm_si_self, upd_ne _ _ _ (by decide), mm_si_self, upd_ne _ _ _ (by decide), mm_si_self, upd_self]
    show (ttx ch N 121 0 0).2.2.2 (q6.1 13 0) (q6.1 13 1) (q6.1 13 2) (q6.1 13 3) (q6.1 13 4) (q6.1 13 5) = _
    rw [n0, n1, n2, n3, n4, n5]
  have hs : sv c11 len (q6.1 13) [] q6 := ⟨by rw [hf.2 11 (by decide), h11], by rw [hf.2 10 (by decide), h10], rfl, fun k hk => absurd hk (Nat.not_lt_zero k)⟩
  obtain ⟨q', g1, f1⟩ := e_text (c := c11) (l := len) (g := q6.1 13) (ch := ch) (N := N) 121 0 0 o (fun k hk => by rw [Nat.zero_add]; exact hc k hk) (by omega) (by omega) mm_fu (-1) 0 q6 (show _ < 1000 by omega) hs (by decide) (by decide)
  refine ⟨q', ?_, fr_trans (fr_mono hf (by decide)) (fr_mono f1 (by decide))⟩
  rw [g1, v]
end SW
