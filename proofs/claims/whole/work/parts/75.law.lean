/-! the pair law -/
theorem mm_Iv_law {q q2 : mm_Q} (h : mm_Iv mm_LX q) (e : ∀ k, k ∉ [10, 11, 28, 30, 52, 58, 61] → q2.1 k = q.1 k) (el : q2.2 = q.2) (e52 : ∀ j, j ∉ [8, 10, 11, 12, 13, 14, 15] → q2.1 52 j = q.1 52 j) (z1 : q2.1 28 2 = 0) (z2 : q2.1 52 8 = 0) (hl : mm_LX (q2.1 11) (q2.1 10 3) (q2.1 58) (q2.1 52 10) (q2.1 60) (q2.1 61)) : mm_Iv mm_LX q2 := by
  obtain ⟨h1, h2, h3, h4, h5, h6, h7, h8, h9, h10⟩ := h
  have g1 := e 1 (by decide)
  have g2 := e 2 (by decide)
  have g3 := e 3 (by decide)
  have g5 := e 5 (by decide)
  have g6 := e 6 (by decide)
  have g8 := e 8 (by decide)
  have g9 := e 9 (by decide)
  have g29 := e 29 (by decide)
  have g31 := e 31 (by decide)
  have g32 := e 32 (by decide)
  have g33 := e 33 (by decide)
  have g34 := e 34 (by decide)
  have g46 := e 46 (by decide)
  have g47 := e 47 (by decide)
  have g48 := e 48 (by decide)
  have g49 := e 49 (by decide)
  have g50 := e 50 (by decide)
  have g51 := e 51 (by decide)
  have g53 := e 53 (by decide)
  have g54 := e 54 (by decide)
  have g55 := e 55 (by decide)
  have g56 := e 56 (by decide)
  have g57 := e 57 (by decide)
  have g65 := e 65 (by decide)
  have g66 := e 66 (by decide)
  have g67 := e 67 (by decide)
  have g68 := e 68 (by decide)
  have g69 := e 69 (by decide)
  have g70 := e 70 (by decide)
  have r4 := e52 4 (by decide)
  have r5 := e52 5 (by decide)
  have r6 := e52 6 (by decide)
  have r17 := e52 17 (by decide)
  have r32 := e52 32 (by decide)
  have r33 := e52 33 (by decide)
  have r34 := e52 34 (by decide)
  have r35 := e52 35 (by decide)
  have r36 := e52 36 (by decide)
  have r38 := e52 38 (by decide)
  have r41 := e52 41 (by decide)
  have h8' : iv_shf (q.1 49 2) q2 := by
    rw [iv_shf_all]
    intro j hj
    rw [e (16 + 2 * j) (by simp only [List.mem_cons, List.not_mem_nil, or_false]; omega), e 71 (by decide), e 72 (by decide), el]
    exact iv_shf_all.mp h8 j hj
  unfold mm_Iv
  rw [el, g1, g2, g3, g5, g6, g8, g9, g29, g31, g32, g33, g34, g46, g47, g48, g49, g50, g51, g53, g54, g55, g56, g57, g65, g66, g67, g68, g69, g70, r4, r5, r6, r17, r32, r33, r34, r35, r36, r38, r41]
  exact ⟨h1, h2, h3, ⟨by rw [z1]; decide, by rw [z1, z2], h4.2.2⟩, h5, h6, h7, h8', hl, h10⟩
theorem law_clear : ∀ (m n : Nat) (a3 : Int32) (k : Nat) (q : mm_Q), a3.toInt = k → k + m = 8192 → m < n → ∃ q', x12_law_h67 n a3 q = some (1, q') ∧ fr [61] q q' ∧ (∀ s, k ≤ s → s < 8192 → q'.1 61 s = 0) ∧ ∀ s, s < k → q'.1 61 s = q.1 61 s
  | 0, n + 1, a3, k, q, h, hk, _ => by
    rw [x12_law_h67, if_pos (by rw [le32, show (8192 : Int32).toInt = 8192 by decide]; omega)]
    exact ⟨q, rfl, fr_rfl _ _, fun s h1 h2 => absurd h1 (by omega), fun _ _ => rfl⟩
  | m + 1, n + 1, a3, k, q, h, hk, hm => by
    rw [x12_law_h67, if_neg (by rw [le32, show (8192 : Int32).toInt = 8192 by decide]; omega), mm_ck_t (mm_inb_c h (by omega)), mm_lt_s, mm_tcn h, show vp_nar .boolean (0 : Int32) = 0 by decide]
    obtain ⟨q2, e2, f2, h2, h3⟩ := law_clear m n (a3 + 1) (k + 1) (mm_si q 61 k 0) (mm_inc1 h (by omega)) (by omega) (by omega)
    refine ⟨q2, e2, fr_trans (fr_si _ _ _ (by decide)) f2, fun s a b => ?_, fun s a => ?_⟩
    · by_cases c : s = k
      · rw [h3 s (by omega), c, mm_si_self, upd_self]
      · exact h2 s (by omega) b
    · rw [h3 s (by omega), mm_si_self, upd_ne _ _ _ (by omega)]
theorem law_copy {N : Nat} (hN : N ≤ 120) {a2 : Int32} (ha : a2.toInt = N) : ∀ (m n : Nat) (a3 : Int32) (k : Nat) (q : mm_Q), a3.toInt = k → k + m = N → m < n → ∃ q', x12_law_h37 n a2 a3 q = x12_law_h67 mm_fv 0 (mm_si q' 52 10 a2) ∧ fr [58] q q' ∧ (∀ s, k ≤ s → s < N → q'.1 58 s = q.1 57 s) ∧ ∀ s, s < k → q'.1 58 s = q.1 58 s
  | 0, n + 1, a3, k, q, h, hk, _ => by
    rw [x12_law_h37, if_pos (by rw [le32]; omega), mm_lt_s]
    exact ⟨q, rfl, fr_rfl _ _, fun s h1 h2 => absurd h1 (by omega), fun _ _ => rfl⟩
  | m + 1, n + 1, a3, k, q, h, hk, hm => by
    rw [x12_law_h37, if_neg (by rw [le32]; omega), mm_ck_t (mm_inb_c h (by omega)), mm_ck_t (mm_inb_c h (by omega)), mm_lt_s, mm_tcn h]
    obtain ⟨q2, e2, f2, h2, h3⟩ := law_copy hN ha m n (a3 + 1) (k + 1) (mm_si q 58 k (q.1 57 k)) (mm_inc1 h (by omega)) (by omega) (by omega)
    refine ⟨q2, e2, fr_trans (fr_si _ _ _ (by decide)) f2, fun s a b => ?_, fun s a => ?_⟩
    · by_cases c : s = k
      · rw [h3 s (by omega), c, mm_si_self, upd_self]
      · rw [h2 s (by omega) b, mm_si_ne _ _ _ _ (by decide)]
    · rw [h3 s (by omega), mm_si_self, upd_ne _ _ _ (by omega)]
theorem tli_pos {ch : Nat → Int32} {d i : Nat} (o : (tli ch d i).1 = true) : 0 < (tli ch d i).2.2.1.length := by
  unfold tli xl2 at o ⊢
  by_cases h1 : (EX ch i).1 = true
  · rw [if_pos h1] at o ⊢
    by_cases h2 : ch (EX ch i).2.1 = 63
    · rw [if_pos h2] at o ⊢
      by_cases h3 : (EX ch ((EX ch i).2.1 + 1)).1 = true
      · rw [if_pos h3, List.length_append, List.length_append, List.length_append]
        exact Nat.add_pos_right _ (Nat.add_pos_left Nat.one_pos _)
      · rw [if_neg h3] at o
        exact absurd o Bool.false_ne_true
    · rw [if_neg h2, List.length_append]
      exact Nat.succ_pos _
  · rw [if_neg h1] at o
    exact absurd o Bool.false_ne_true
theorem ttx_wf {B : Nat → Int32} {N : Nat} : ∀ (m d i : Nat), i ≤ N → (ttx (chs B N) N m d i).1 = true → 0 < (ttx (chs B N) N m d i).2.2.1.length ∧ (ttx (chs B N) N m d i).2.2.1.length + i ≤ N + 1
  | 0, d, i, _, o => absurd o Bool.false_ne_true
  | m + 1, d, i, hi, o => by
    rw [ttx] at o ⊢
    have p := tli_pos (ch := chs B N) (d := d) (i := i)
    have w := tli_wf (B := B) (d := d) hi
    have ih := ttx_wf (B := B) (N := N) m (d + (tli (chs B N) d i).2.2.1.length) ((tli (chs B N) d i).2.1 + 1)
    generalize ttx (chs B N) N m (d + (tli (chs B N) d i).2.2.1.length) ((tli (chs B N) d i).2.1 + 1) = T at o ih ⊢
    generalize tli (chs B N) d i = L at o p w ih ⊢
    obtain ⟨b, i', C', f'⟩ := L
    obtain ⟨b2, i2, C2, v2⟩ := T
    unfold xt2 at o ⊢
    cases b with
    | false => exact absurd o Bool.false_ne_true
    | true =>
      have w1 : i' ≤ N := w.1
      have w2 : i < i' ∧ C'.length + i ≤ i' + 1 := w.2 rfl
      have p' : 0 < C'.length := p rfl
      rw [if_pos (show (true, i', C', f').1 = true from rfl)] at o ⊢
      by_cases ci : (true, i', C', f').2.1 < N
      · rw [if_pos ci] at o ⊢
        by_cases c59 : chs B N (true, i', C', f').2.1 = 59
        · rw [if_pos c59] at o ⊢
          cases b2 with
          | false => exact absurd o Bool.false_ne_true
          | true =>
            have q := ih ci rfl
            have q2 : C2.length + (i' + 1) ≤ N + 1 := q.2
            rw [if_pos (show (true, i2, C2, v2).1 = true from rfl)]
            show 0 < (C' ++ C2).length ∧ (C' ++ C2).length + i ≤ N + 1
            rw [List.length_append]
            omega
        · rw [if_neg c59] at o
          exact absurd o Bool.false_ne_true
      · rw [if_neg ci]
        show 0 < C'.length ∧ C'.length + i ≤ N + 1
        omega
theorem cp_ok {a : Int32} {n : Nat} (h : a.toInt = n) (hn : n ≤ 200) : mm_cp 0 0 a 200 200 = true := by
  unfold mm_cp
  rw [mm_tcn h, decide_eq_true (show (0 : Int32) ≤ 0 by decide), decide_eq_true (show (0 : Int32) ≤ a by rw [le32, ti0]; omega), show (0 : Int32).toNatClampNeg = 0 by decide, Nat.zero_add, Nat.ble_eq_true_of_le hn]
  rfl
theorem pr_law : mm_pr (mm_Iv mm_LX) x11_law x12_law := by
  intro q h
  have h4 := h.2.2.2.1
  obtain ⟨t1, t2, t3⟩ := h4
  obtain ⟨N, hNq⟩ : ∃ N : Nat, (q.1 28 2).toInt = N := ⟨(q.1 28 2).toInt.toNat, by omega⟩
  have hN : N ≤ 120 := by omega
  have hl9 := h.2.2.2.2.2.2.2.2.1
  have kt := k_isText (B := q.1 29) hN hNq (fun j _ => rfl)
  have hw := ttx_wf (B := q.1 29) (N := N) 121 0 0 (Nat.zero_le _)
  have ew := fun (c11 : Nat → Int32) (len : Int32) => e_worth (ch := chs (q.1 29) N) (N := N) (c11 := c11) (len := len)
  have mw := fun (q1 : mm_Q) (a1 a2 : Int32) => m_workOut (B := q.1 29) (N := N) hN (q := q1) (a1 := a1) (a2 := a2)
  generalize ttx (chs (q.1 29) N) N 121 0 0 = T at kt hw ew mw
  obtain ⟨b, i', C, v⟩ := T
  unfold x11_law
  cases b with
  | false =>
    obtain ⟨q', d', e1, hk, hg⟩ := kt.2 rfl
    rw [e1, mm_cl_s, if_pos (show (0 : Int32) = 0 from rfl)]
    unfold x9_fault x11_law_j26 x11_law_j42 x9_clear
    rw [mm_cl_s, if_pos (show (0 : Int32) = 0 from rfl), mm_lt_s, mm_cl_s]
    obtain ⟨q1, hq1⟩ : ∃ q1, mm_si q' 28 2 0 = q1 := ⟨_, rfl⟩
    rw [hq1]
    have f1 : fr [28, 30] q q1 := by rw [← hq1]; exact fr_trans hg.1 (fr_si _ _ _ (by decide))
    have z28 : q1.1 28 2 = 0 := by rw [← hq1, mm_si_self, upd_self]
    have a28 : (q1.1 52 8).toInt = N := by rw [f1.2 52 (by decide), t2]; exact hNq
    obtain ⟨r, q2, e2, h14, hf2⟩ := (mw q1 (-1) (q1.1 52 8) a28 (Or.inl ⟨by decide, fun j hj => by rw [f1.2 57 (by decide)]; exact (t3 j (by omega)).1⟩)).2 rfl
    have hk3 : (q'.1 28 3).toInt = (i' : Int) := hk.2.1
    have h14' : (q2.1 52 14).toInt = (i' : Int) := h14
    have ee : q2.1 52 14 = q'.1 28 3 := Int32.toInt_inj.mp (by rw [h14', hk3])
    obtain ⟨q3, hq3⟩ : ∃ q3, mm_si q2 52 8 0 = q3 := ⟨_, rfl⟩
    have c14 : q3.1 52 14 = q'.1 28 3 := by rw [← hq3, mm_si_self, upd_ne _ _ _ (by decide), ee]
    have z8 : q3.1 52 8 = 0 := by rw [← hq3, mm_si_self, upd_self]
    have s2 : ∀ k, k ∉ [28, 30, 52] → q3.1 k = q.1 k := by
      intro k hk
      rw [← hq3, mm_si_ne _ _ _ _ (fun z => hk (by rw [z]; decide)), hf2.1.2 k (fun z => hk (by rw [List.mem_singleton.mp z]; decide)), f1.2 k (fun z => hk (by revert z; simp only [List.mem_cons, List.not_mem_nil, or_false]; omega))]
    have s3 : ∀ j, j ∉ [8, 11, 12, 13, 14, 15] → q3.1 52 j = q.1 52 j := by
      intro j hj
      rw [← hq3, mm_si_self, upd_ne _ _ _ (fun z => hj (by rw [z]; decide)), hf2.2 j (fun z => hj (List.mem_cons_of_mem _ z)), f1.2 52 (by decide)]
    refine ⟨_, q1, q3, rfl, f1.2 0 (by decide), ?_, mm_Iv_law h (fun k hk => s2 k (fun z => hk ?_)) ?_ (fun j hj => s3 j (fun z => hj ?_)) ?_ z8 ?_⟩
    · unfold x12_law
      rw [e2, mm_cl_s, mm_lt_s, hq3, c14, if_neg (by rw [lt32, ti0]; omega)]
    · rcases List.mem_cons.mp z with z | z
      · rw [z]; decide
      · rcases List.mem_cons.mp z with z | z
        · rw [z]; decide
        · rw [List.mem_singleton.mp z]; decide
    · rw [← hq3]
      exact hf2.1.1.trans f1.1
    · rcases List.mem_cons.mp z with z | z
      · rw [z]; decide
      · exact List.mem_cons_of_mem _ (List.mem_cons_of_mem _ z)
    · rw [← hq3, mm_si_ne _ _ _ _ (by decide), hf2.1.2 28 (by decide), z28]
    · rw [s2 11 (by decide), s2 10 (by decide), s2 58 (by decide), s3 10 (by decide), s2 60 (by decide), s2 61 (by decide)]
      exact hl9
  | true =>
    obtain ⟨q', e1, hk, hg⟩ := kt.1 rfl
    have hk4 : (q'.1 28 4).toInt = ((C.length : Nat) : Int) := by
      have := hk.2.2.1
      rw [Nat.zero_add] at this
      exact this
    have w0 : 0 < C.length ∧ C.length + 0 ≤ N + 1 := hw rfl
    have hC : C.length ≤ 200 := by omega
    have hcells : ∀ k, k < C.length → q'.1 30 k = C.getD k 0 := by
      intro k hk
      have := hg.2.2 k hk
      rw [Nat.zero_add] at this
      exact this
    rw [e1, mm_cl_s, if_neg (show ¬ (1 : Int32) = 0 by decide)]
    unfold x11_law_j26 x11_law_j42 x9_clear x9_writeTo x5_become
    rw [if_neg (show ¬ (1 : Int32) = 0 by decide), if_neg (by rw [lt32, ti0]; omega), if_neg (by rw [lt32, ti200]; omega), if_neg (by rw [lt32, ti200]; omega), mm_ck_t (cp_ok hk4 hC), mm_lt_s, mm_lt_s, mm_cl_s, mm_cl_s, mm_lt_s, mm_cl_s, mm_tcn hk4]
    obtain ⟨qc, hqc⟩ : ∃ qc, mm_ci q' 30 11 0 0 C.length = qc := ⟨_, rfl⟩
    rw [hqc]
    obtain ⟨q1, hq1⟩ : ∃ q1, mm_si (mm_si qc 10 3 (q'.1 28 4)) 28 2 0 = q1 := ⟨_, rfl⟩
    rw [hq1]
    have fc : fr [11] q' qc := by
      rw [← hqc]
      exact ⟨rfl, fun k hk => mm_uc_ne _ _ (fun z => hk (by rw [z]; decide))⟩
    have cc : ∀ k, k < C.length → qc.1 11 k = C.getD k 0 := by
      intro k hk
      have e : qc.1 11 = va_cpy (q'.1 30) (q'.1 11) 0 0 C.length := by rw [← hqc]; exact mm_uc_self q'.1 11 (va_cpy (q'.1 30) (q'.1 11) 0 0 C.length)
      rw [e]
      unfold va_cpy
      rw [if_pos ⟨Nat.zero_le _, by omega⟩, Nat.zero_add, Nat.sub_zero]
      exact hcells k hk
    have f1 : fr [28, 30, 11, 10] q q1 := by
      rw [← hq1]
      exact fr_trans (fr_mono hg.1.1 (by decide)) (fr_trans (fr_mono fc (by decide)) (fr_trans (fr_si _ _ _ (by decide)) (fr_si _ _ _ (by decide))))
    have z28 : q1.1 28 2 = 0 := by rw [← hq1, mm_si_self, upd_self]
    have c10 : q1.1 10 3 = q'.1 28 4 := by rw [← hq1, mm_si_ne _ _ _ _ (by decide), mm_si_self, upd_self]
    have c11 : ∀ k, k < C.length → q1.1 11 k = C.getD k 0 := by
      rw [← hq1, mm_si_ne _ _ _ _ (by decide), mm_si_ne _ _ _ _ (by decide)]
      exact cc
    have a28 : (q1.1 52 8).toInt = N := by rw [f1.2 52 (by decide), t2]; exact hNq
    obtain ⟨q2, e2, h14, hf2⟩ := (mw q1 (-1) (q1.1 52 8) a28 (Or.inl ⟨by decide, fun j hj => by rw [f1.2 57 (by decide)]; exact (t3 j (by omega)).1⟩)).1 rfl
    have h8 : q2.1 52 8 = q1.1 52 8 := hf2.2 8 (by decide)
    obtain ⟨q3, hq3⟩ : ∃ q3, mm_si q2 52 8 0 = q3 := ⟨_, rfl⟩
    have f3 : fr [52] q1 q3 := by rw [← hq3]; exact fr_trans hf2.1 (fr_si _ _ _ (by decide))
    obtain ⟨q4, e4, f4, h58, _⟩ := law_copy hN a28 N mm_fu 0 0 q3 (by decide) (by omega) (show N < 1000 by omega)
    obtain ⟨q5, hq5⟩ : ∃ q5, mm_si q4 52 10 (q1.1 52 8) = q5 := ⟨_, rfl⟩
    rw [hq5] at e4
    obtain ⟨q6, e6, f6, h61, _⟩ := law_clear 8192 mm_fv 0 0 q5 (by decide) (by decide) (by decide)
    have f5 : fr [52] q4 q5 := by rw [← hq5]; exact fr_si _ _ _ (by decide)
    have f36 : fr [52, 58, 61] q1 q6 := fr_trans (fr_mono f3 (by decide)) (fr_trans (fr_mono f4 (by decide)) (fr_trans (fr_mono f5 (by decide)) (fr_mono f6 (by decide))))
    have s3 : ∀ j, j ∉ [8, 10, 11, 12, 13, 14, 15] → q6.1 52 j = q.1 52 j := by
      intro j hj
      rw [f6.2 52 (by decide), ← hq5, mm_si_self, upd_ne _ _ _ (fun z => hj (by rw [z]; decide)), f4.2 52 (by decide), ← hq3, mm_si_self, upd_ne _ _ _ (fun z => hj (by rw [z]; decide)), hf2.2 j (fun z => hj (List.mem_cons_of_mem _ (List.mem_cons_of_mem _ z))), f1.2 52 (by decide)]
    have z8 : q6.1 52 8 = 0 := by rw [f6.2 52 (by decide), ← hq5, mm_si_self, upd_ne _ _ _ (by decide), f4.2 52 (by decide), ← hq3, mm_si_self, upd_self]
    have c52 : q6.1 52 10 = q1.1 52 8 := by rw [f6.2 52 (by decide), ← hq5, mm_si_self, upd_self]
    have c58 : ∀ j, j < N → q6.1 58 j = q.1 29 j := by
      intro j hj
      rw [f6.2 58 (by decide), f5.2 58 (by decide), h58 j (Nat.zero_le _) hj, f3.2 57 (by decide), f1.2 57 (by decide)]
      exact (t3 j (by omega)).1
    refine ⟨1, q1, q6, rfl, f1.2 0 (by decide), ?_, mm_Iv_law h (fun k hk => ?_) ?_ s3 ?_ z8 ⟨v, Or.inr ⟨?_, fun q0 a p z w e t g11 g10 => ?_⟩, Or.inr ⟨?_, fun q0 g58 => ?_⟩, fun s hs => Or.inl (h61 s (Nat.zero_le _) hs)⟩⟩
    · unfold x12_law
      have c14 : q3.1 52 14 = -1 := by rw [← hq3, mm_si_self, upd_ne _ _ _ (by decide), h14]
      rw [e2, mm_cl_s, mm_lt_s, hq3, c14, if_pos (by decide), h8, e4, e6]
    · rw [f36.2 k (fun z => hk (by revert z; simp only [List.mem_cons, List.not_mem_nil, or_false]; omega)), f1.2 k (fun z => hk (by revert z; simp only [List.mem_cons, List.not_mem_nil, or_false]; omega))]
    · exact f36.1.trans f1.1
    · rw [f36.2 28 (by decide), z28]
    · rw [f36.2 10 (by decide), c10]
      omega
    · exact ew (q6.1 11) (q6.1 10 3) rfl (fun k hk => by rw [f36.2 11 (by decide)]; exact c11 k hk) hC (by rw [f36.2 10 (by decide), c10]; exact hk4) q0 a p z w e t g11 g10
    · rw [c52]
      omega
    · obtain ⟨q7, e7, _, hf7⟩ := (mw q0 0 (q6.1 52 10) (by rw [c52]; exact a28) (Or.inr ⟨rfl, fun j hj => by rw [g58]; exact c58 j hj⟩)).1 rfl
      exact ⟨q7, e7, hf7⟩
