/-! the reference reads a whole text -/
def vl (a3 a4 : Int32) (g : Nat → Int32) (X : mm_F) : Int32 := if a3 = 0 then nm X g else a4
def mto (val : mm_F → Int32) (R : Pr) (q : mm_Q) (x : Option (Int32 × mm_Q)) : Prop := (R.1 = true → ∃ q', x = some (val R.2.2.2, q') ∧ q'.1 52 14 = -1 ∧ mg q q') ∧ (R.1 = false → ∃ (r : Int32) (q' : mm_Q), x = some (r, q') ∧ (q'.1 52 14).toInt = R.2.1 ∧ mg q q')
section MTEXT
variable {B : Nat → Int32} {N : Nat}
theorem m_OP (hN : N ≤ 120) : ∀ (r F o : Nat), o + r = 6 → 6 * r < F → mR B N o (OP (chs B N) r) (g_x12_either F 5)
  | 0, F + 1, o, ho, _ => by
    intro q i hk hi
    rw [OP]
    by_cases c : opn (chs B N i)
    · have hi2 := chs_in (opn_ne c).1
      have eb : bch B N i = chs B N i := by
        unfold bch chs
        rw [if_pos hi2, if_pos hi2]
      have e : op0 (chs B N) i = (false, i, [], F_0) := by
        unfold op0
        rw [if_neg (fun z => by rcases c with c | c | c <;> rw [c] at z <;> exact absurd z.1 (by decide)), if_neg (fun z => by rcases c with c | c | c <;> rw [c] at z <;> exact absurd z (by decide))]
      rw [e]
      have h15 : q.1 52 15 = 6 := Int32.toInt_inj.mp (by rw [hk.2.2, show o = 6 by omega]; rfl)
      have j : ∀ c, x12_one_j32 (g_x12_either F) c q = mm_cl (x12_wrong q) (fun r q => some (r, q)) := by
        intro c
        unfold x12_one_j32
        rw [if_pos h15]
      obtain ⟨q2, e2, hk2, hn2⟩ := m_wrong hk
      have fin : mo B N o (false, i, [], F_0) q (mm_cl (x12_wrong q) (fun r q => some (r, q))) := by
        rw [e2, mm_cl_s]
        exact ⟨fun z => absurd z Bool.false_ne_true, fun _ => ⟨0, q2, rfl, hk2, hn2⟩⟩
      show mo B N o (false, i, [], F_0) q (x12_one (g_x12_either F) q)
      unfold x12_one
      rw [if_pos (show q.1 52 14 < 0 by rw [hk.2.1]; decide), m_byte hN hk.1 hi, mm_cl_s, eb, j]
      by_cases o1 : chs B N i = 33
      · rw [if_pos o1]; exact fin
      · rw [if_neg o1]
        by_cases o2 : chs B N i = 45
        · rw [if_pos o2]; exact fin
        · rw [if_neg o2, if_pos (c.resolve_right (fun z => z.elim o1 o2))]
          exact fin
    · exact m_op0 (rc := g_x12_either F) hN hk hi c
  | r + 1, F + 1, o, ho, hF => by
    intro q i hk hi
    rw [OP]
    by_cases c : opn (chs B N i)
    · rw [if_pos c]
      obtain ⟨G, rfl⟩ : ∃ G, F = G + 5 := ⟨F - 5, by omega⟩
      have s1 : mR B N (o + 1) (tlv (chs B N) (OP (chs B N) r) 5) (g_x12_either (G + 5) 0) := m_lv hN (m_OP hN r G (o + 1) (by omega) (by omega)) (tOP_wf r)
      exact m_opn (rc := g_x12_either (G + 5)) hN (show o < 6 by omega) hk hi c s1 (tlv_wf (tOP_wf r) 5) (m_OP hN r (G + 5) (o + 1) (by omega) (by omega)) (tOP_wf r)
    · rw [if_neg c]
      exact m_op0 (rc := g_x12_either F) hN hk hi c
theorem m_EX (hN : N ≤ 120) : mR B N 0 (EX (chs B N)) (g_x12_either 100 0) := m_lv (F := 95) hN (m_OP hN 6 95 0 rfl (by decide)) (tOP_wf 6)
theorem mto_pre {val : mm_F → Int32} {R : Pr} {q q1 : mm_Q} {x : Option (Int32 × mm_Q)} (h : mg q q1) (r : mto val R q1 x) : mto val R q x := by
  refine ⟨fun z => ?_, fun z => ?_⟩
  · obtain ⟨q2, e2, hk2, hn2⟩ := r.1 z
    exact ⟨q2, e2, hk2, mg_trans h hn2⟩
  · obtain ⟨y, q2, e2, hk2, hn2⟩ := r.2 z
    exact ⟨y, q2, e2, hk2, mg_trans h hn2⟩
/-- what is behind a fault -/
theorem m_stop {i k : Nat} {q : mm_Q} (h : my B N i q) (a3 a4 a6 a7 : Int32) : x12_workOut_j74 (x12_workOut_h33 (k + 1)) a3 a4 a6 a7 q = some (a4, q) := by
  unfold x12_workOut_j74 x12_workOut_j96
  rw [if_pos (my_f h), m_takes_f h, mm_cl_s]
  unfold x12_workOut_h33
  rw [if_pos (show (0 : Int32) = 0 from rfl), if_pos (my_f h)]
/-- what is behind a line -/
theorem m_after (hN : N ≤ 120) {i' k : Nat} {q : mm_Q} (hk : mx B N i' 0 q) (hi : i' ≤ N) {C' : List Int32} {f : mm_F → mm_F} {T : Pr} {a3 a4 b3 b4 : Int32} {g : Nat → Int32} (hv : ∀ X, vl a3 a4 g (f X) = vl b3 b4 g X) (hb : b3 = 0 → b4 = 0) (ih : i' < N → mto (vl b3 b4 g) T (adv q) (x12_workOut_h33 (k + 1) b3 b4 1 (adv q))) : mto (vl a3 a4 g) (xt2 (chs B N) N (true, i', C', f) T) q (x12_workOut_j96 (x12_workOut_h33 (k + 1)) b3 b4 q) := by
  unfold xt2 x12_workOut_j96
  rw [if_pos (show (true, i', C', f).1 = true from rfl), m_takes hN hk hi (by decide) (by decide)]
  show mto (vl a3 a4 g) (if i' < N then (if chs B N i' = 59 then (if T.1 = true then (true, T.2.1, C' ++ T.2.2.1, f T.2.2.2) else (false, T.2.1, [], F_0)) else (false, i', [], F_0)) else (true, i', C', f F_0)) q _
  by_cases c : i' < N
  · rw [if_pos c]
    by_cases c2 : chs B N i' = 59
    · rw [if_pos c2, if_pos c2, mm_cl_s]
      have r := mto_pre (mg_si (q := q) (j := 12) (q.1 52 12 + 1) (Or.inl rfl)) (ih c)
      obtain ⟨b, i2, C2, v2⟩ := T
      cases b with
      | true =>
        obtain ⟨q2, e2, hk2, hn2⟩ := r.1 rfl
        rw [if_pos (show (true, i2, C2, v2).1 = true from rfl), e2]
        exact ⟨fun _ => ⟨q2, by rw [hv], hk2, hn2⟩, fun z => absurd z.symm Bool.false_ne_true⟩
      | false =>
        obtain ⟨y, q2, e2, hk2, hn2⟩ := r.2 rfl
        rw [if_neg (show ¬ (false, i2, C2, v2).1 = true from Bool.false_ne_true), e2]
        exact ⟨fun z => absurd z Bool.false_ne_true, fun _ => ⟨y, q2, rfl, hk2, hn2⟩⟩
    · rw [if_neg c2, if_neg c2, mm_cl_s, x12_workOut_h33, if_pos (show (0 : Int32) = 0 from rfl), if_neg (mx_nf hk), if_neg (by rw [le32, hk.1.1, hk.1.2.1]; omega)]
      obtain ⟨q3, e3, hk3, hn3⟩ := m_wrong hk
      rw [e3, mm_cl_s]
      exact ⟨fun z => absurd z Bool.false_ne_true, fun _ => ⟨0, q3, rfl, hk3.2, hn3⟩⟩
  · have c3 : ¬ chs B N i' = 59 := by
      unfold chs
      rw [if_neg c]
      decide
    rw [if_neg c, if_neg c3, mm_cl_s, x12_workOut_h33, if_pos (show (0 : Int32) = 0 from rfl), if_neg (mx_nf hk), if_pos (by rw [le32, hk.1.1, hk.1.2.1]; omega)]
    refine ⟨fun _ => ⟨q, ?_, hk.2.1, mg_rfl q⟩, fun z => absurd z.symm Bool.false_ne_true⟩
    rw [hv F_0]
    unfold vl
    by_cases b0 : b3 = 0
    · rw [if_pos b0, hb b0]
      rfl
    · rw [if_neg b0]
theorem m_text (hN : N ≤ 120) : ∀ (m n : Nat) (a3 a4 : Int32) (q : mm_Q) (i d : Nat), N < i + m → m + 1 < n → mx B N i 0 q → i ≤ N → (a3 = 0 → a4 = 0) → mto (vl a3 a4 (q.1 59)) (ttx (chs B N) N m d i) q (x12_workOut_h33 n a3 a4 1 q)
  | 0, n, a3, a4, q, i, d, hm, _, _, hi, _ => absurd hm (by omega)
  | m + 1, n + 1, a3, a4, q, i, d, hm, hn, hk, hi, ha => by
    obtain ⟨k, rfl⟩ : ∃ k, n = k + 1 := ⟨n - 1, by omega⟩
    rw [x12_workOut_h33, if_neg (show ¬ (1 : Int32) = 0 by decide)]
    unfold ttx
    have ih := fun (b3 b4 : Int32) (q2 : mm_Q) (i' d' : Nat) (hii : i < i') (hk2 : mx B N i' 0 q2) (hlt : i' < N) (hb : b3 = 0 → b4 = 0) => m_text hN m (k + 1) b3 b4 (adv q2) (i' + 1) d' (by omega) (by omega) (mx_adv hN hk2 (Nat.le_of_lt hlt)) hlt hb
    unfold tli xl2
    have r := m_EX hN q i hk hi
    have w := EX_wf (B := B) i hi
    generalize EX (chs B N) i = R at r w
    obtain ⟨b, i', C', v'⟩ := R
    have w1 : i' ≤ N := w.1
    cases b with
    | false =>
      obtain ⟨y, q2, e2, hk2, hn2⟩ := r.2 rfl
      rw [if_neg (show ¬ (false, i', C', v').1 = true from Bool.false_ne_true), e2, mm_cl_s, m_takes_f hk2, mm_cl_s, if_pos (show (0 : Int32) = 0 from rfl), m_stop hk2]
      exact ⟨fun z => absurd z Bool.false_ne_true, fun _ => ⟨a4, q2, rfl, hk2.2, hn2⟩⟩
    | true =>
      obtain ⟨q2, e2, hk2, hn2⟩ := r.1 rfl
      have hk2' : mx B N i' 0 q2 := hk2
      have w2 : i < i' ∧ C'.length + i ≤ i' := w.2 rfl
      have g2 : q2.1 59 = q.1 59 := mg_names hn2
      rw [if_pos (show (true, i', C', v').1 = true from rfl), e2, mm_cl_s, m_takes hN hk2' w1 (by decide) (by decide)]
      show mto (vl a3 a4 (q.1 59)) (xt2 (chs B N) N (if chs B N i' = 63 then (if (EX (chs B N) (i' + 1)).1 = true then (true, (EX (chs B N) (i' + 1)).2.1, C' ++ ([20000 + Int32.ofNat (d + C'.length + 1 + (EX (chs B N) (i' + 1)).2.2.1.length + 1)] ++ ((EX (chs B N) (i' + 1)).2.2.1 ++ [-2])), tcd v' (EX (chs B N) (i' + 1)).2.2.2) else (false, (EX (chs B N) (i' + 1)).2.1, [], fun _ => F_0)) else (true, i', C' ++ [-2], fun _ => v')) (ttx (chs B N) N m (d + (if chs B N i' = 63 then (if (EX (chs B N) (i' + 1)).1 = true then (true, (EX (chs B N) (i' + 1)).2.1, C' ++ ([20000 + Int32.ofNat (d + C'.length + 1 + (EX (chs B N) (i' + 1)).2.2.1.length + 1)] ++ ((EX (chs B N) (i' + 1)).2.2.1 ++ [-2])), tcd v' (EX (chs B N) (i' + 1)).2.2.2) else (false, (EX (chs B N) (i' + 1)).2.1, [], fun _ => F_0)) else (true, i', C' ++ [-2], fun _ => v') : Ln).2.2.1.length) ((if chs B N i' = 63 then (if (EX (chs B N) (i' + 1)).1 = true then (true, (EX (chs B N) (i' + 1)).2.1, C' ++ ([20000 + Int32.ofNat (d + C'.length + 1 + (EX (chs B N) (i' + 1)).2.2.1.length + 1)] ++ ((EX (chs B N) (i' + 1)).2.2.1 ++ [-2])), tcd v' (EX (chs B N) (i' + 1)).2.2.2) else (false, (EX (chs B N) (i' + 1)).2.1, [], fun _ => F_0)) else (true, i', C' ++ [-2], fun _ => v') : Ln).2.1 + 1))) q _
      have gives : ∀ (q4 : mm_Q) (i4 : Nat) (a6 : Int32), mx B N i4 0 q4 → x12_workOut_j74 (x12_workOut_h33 (k + 1)) a3 a4 a6 1 q4 = x12_workOut_j96 (x12_workOut_h33 (k + 1)) (if a3 = 0 then 1 else a3) (if a3 = 0 then a6 else a4) q4 := by
        intro q4 i4 a6 h4
        unfold x12_workOut_j74
        rw [if_neg (mx_nf h4), if_neg (show ¬ (1 : Int32) = 0 by decide)]
        by_cases a0 : a3 = 0
        · rw [if_pos a0, if_pos a0, if_pos a0]
        · rw [if_neg a0, if_neg a0, if_neg a0]
      have gb : ∀ a6 : Int32, (if a3 = 0 then (1 : Int32) else a3) = 0 → (if a3 = 0 then a6 else a4) = 0 := by
        intro a6 z
        by_cases a0 : a3 = 0
        · rw [if_pos a0] at z
          exact absurd z (by decide)
        · rw [if_neg a0] at z
          exact absurd z a0
      have gv : ∀ (a6 : Int32) (f : mm_F → mm_F), (∀ X, nm (f X) (q.1 59) = a6) → ∀ X, vl a3 a4 (q.1 59) (f X) = vl (if a3 = 0 then 1 else a3) (if a3 = 0 then a6 else a4) (q.1 59) X := by
        intro a6 f hf X
        unfold vl
        by_cases a0 : a3 = 0
        · rw [if_pos a0, if_pos a0, if_pos a0, hf X, if_neg (by decide)]
        · rw [if_neg a0, if_neg a0, if_neg a0, if_neg a0]
      by_cases c : chs B N i' = 63
      · rw [if_pos c, if_pos c, mm_cl_s, if_neg (show ¬ (1 : Int32) = 0 by decide)]
        have h2 := chs_in (B := B) (N := N) (i := i') (fun z => by rw [z] at c; exact absurd c (by decide))
        have hg1 : mg q2 (adv q2) := mg_si _ (Or.inl rfl)
        have r5 := m_EX hN (adv q2) (i' + 1) (mx_adv hN hk2' w1) h2
        have u := EX_wf (B := B) (i' + 1) h2
        generalize EX (chs B N) (i' + 1) = S at u r5
        obtain ⟨b2, i2, C2, v2⟩ := S
        have u1 : i2 ≤ N := u.1
        have e59 : (adv q2).1 59 = q.1 59 := by rw [mg_names hg1, g2]
        have j66 : ∀ s0, x12_workOut_j66 (x12_workOut_h33 (k + 1)) a3 a4 s0 (adv q2) = mm_cl (g_x12_either 100 0 (adv q2)) (fun r20 q21 => x12_workOut_j74 (x12_workOut_h33 (k + 1)) a3 a4 r20 s0 q21) := fun _ => rfl
        rw [j66, j66]
        cases b2 with
        | false =>
          obtain ⟨y, q5, e5, hk5, hn5⟩ := r5.2 rfl
          rw [if_neg (show ¬ (false, i2, C2, v2).1 = true from Bool.false_ne_true), e5, mm_cl_s, mm_cl_s, m_stop hk5, m_stop hk5, ite_self]
          exact ⟨fun z => absurd z Bool.false_ne_true, fun _ => ⟨a4, q5, rfl, hk5.2, mg_trans hn2 (mg_trans hg1 hn5)⟩⟩
        | true =>
          obtain ⟨q5, e5, hk5, hn5⟩ := r5.1 rfl
          have hk5' : mx B N i2 0 q5 := hk5
          have u2 : i' + 1 < i2 ∧ C2.length + (i' + 1) ≤ i2 := u.2 rfl
          have g5 : q5.1 59 = q.1 59 := by rw [mg_names hn5, e59]
          have e5a : (adv q5).1 59 = q.1 59 := by rw [mg_names (mg_si (q := q5) (j := 12) _ (Or.inl rfl)), g5]
          rw [if_pos (show (true, i2, C2, v2).1 = true from rfl), e5, mm_cl_s, mm_cl_s, e59]
          refine mto_pre (mg_trans hn2 (mg_trans hg1 hn5)) ?_
          show mto (vl a3 a4 (q.1 59)) (xt2 (chs B N) N (true, i2, C' ++ ([20000 + Int32.ofNat (d + C'.length + 1 + C2.length + 1)] ++ (C2 ++ [-2])), tcd v' v2) (ttx (chs B N) N m (d + (C' ++ ([20000 + Int32.ofNat (d + C'.length + 1 + C2.length + 1)] ++ (C2 ++ [-2]))).length) (i2 + 1))) q5 (if nm v' (q.1 59) = 0 then _ else _)
          by_cases v0 : nm v' (q.1 59) = 0
          · rw [if_pos v0]
            have e7 : x12_workOut_j74 (x12_workOut_h33 (k + 1)) a3 a4 (nm v2 (q.1 59)) 0 q5 = x12_workOut_j96 (x12_workOut_h33 (k + 1)) a3 a4 q5 := by
              unfold x12_workOut_j74
              rw [if_neg (mx_nf hk5), if_pos (show (0 : Int32) = 0 from rfl)]
            rw [e7]
            refine m_after hN hk5' u1 (fun X => ?_) ha (fun hlt => ?_)
            · unfold vl
              have e8 : nm (tcd v' v2 X) (q.1 59) = nm X (q.1 59) := if_pos v0
              rw [e8]
            · have := ih a3 a4 q5 i2 (d + (C' ++ ([20000 + Int32.ofNat (d + C'.length + 1 + C2.length + 1)] ++ (C2 ++ [-2]))).length) (by omega) hk5' hlt ha
              rw [e5a] at this
              exact this
          · rw [if_neg v0, gives q5 i2 _ hk5']
            refine m_after hN hk5' u1 (gv _ _ (fun X => if_neg v0)) (gb _) (fun hlt => ?_)
            have := ih _ _ q5 i2 (d + (C' ++ ([20000 + Int32.ofNat (d + C'.length + 1 + C2.length + 1)] ++ (C2 ++ [-2]))).length) (by omega) hk5' hlt (gb (nm v2 (q.1 59)))
            rw [e5a] at this
            exact this
      · rw [if_neg c, if_neg c, mm_cl_s, if_pos (show (0 : Int32) = 0 from rfl), gives q2 i' _ hk2']
        refine mto_pre hn2 ?_
        refine m_after hN hk2' w1 (gv _ (fun _ => v') (fun X => rfl)) (gb _) (fun hlt => ?_)
        have := ih _ _ q2 i' (d + (C' ++ [-2]).length) (by omega) hk2' hlt (gb (nm v' (q.1 59)))
        rw [show (adv q2).1 59 = q.1 59 by rw [mg_names (mg_si (q := q2) (j := 12) _ (Or.inl rfl)), g2]] at this
        exact this
/-- the reference works a text out -/
theorem m_workOut (hN : N ≤ 120) {q : mm_Q} {a1 a2 : Int32} (ha : a2.toInt = N) (hB : (a1 < 0 ∧ ∀ j, j < N → q.1 57 j = B j) ∨ (a1 = 0 ∧ ∀ j, j < N → q.1 58 j = B j)) : ((ttx (chs B N) N 121 0 0).1 = true → ∃ q', x12_workOut a1 a2 q = some (nm (ttx (chs B N) N 121 0 0).2.2.2 (q.1 59), q') ∧ q'.1 52 14 = -1 ∧ fw q q') ∧ ((ttx (chs B N) N 121 0 0).1 = false → ∃ (r : Int32) (q' : mm_Q), x12_workOut a1 a2 q = some (r, q') ∧ (q'.1 52 14).toInt = (ttx (chs B N) N 121 0 0).2.1 ∧ fw q q') := by
  unfold x12_workOut
  rw [mm_lt_s, mm_lt_s, mm_lt_s, mm_lt_s, mm_lt_s]
  obtain ⟨q5, hq5⟩ : ∃ q5, mm_si (mm_si (mm_si (mm_si (mm_si q 52 11 a1) 52 12 0) 52 13 a2) 52 14 (-1)) 52 15 0 = q5 := ⟨_, rfl⟩
  rw [hq5]
  have hf : fw q q5 := by
    rw [← hq5]
    refine ⟨fr_trans (fr_trans (fr_trans (fr_trans (fr_si _ _ _ (by decide)) (fr_si _ _ _ (by decide))) (fr_si _ _ _ (by decide))) (fr_si _ _ _ (by decide))) (fr_si _ _ _ (by decide)), fun j hj => ?_⟩
    rw [mm_si_self, upd_ne _ _ _ (fun z => hj (by rw [z]; decide)), mm_si_self, upd_ne _ _ _ (fun z => hj (by rw [z]; decide)), mm_si_self, upd_ne _ _ _ (fun z => hj (by rw [z]; decide)), mm_si_self, upd_ne _ _ _ (fun z => hj (by rw [z]; decide)), mm_si_self, upd_ne _ _ _ (fun z => hj (by rw [z]; decide))]
  have h57 : q5.1 57 = q.1 57 := hf.1.2 57 (by decide)
  have h58 : q5.1 58 = q.1 58 := hf.1.2 58 (by decide)
  have h59 : q5.1 59 = q.1 59 := hf.1.2 59 (by decide)
  have c11 : q5.1 52 11 = a1 := by
    rw [← hq5, mm_si_self, upd_ne _ _ _ (by decide), mm_si_self, upd_ne _ _ _ (by decide), mm_si_self, upd_ne _ _ _ (by decide), mm_si_self, upd_ne _ _ _ (by decide), mm_si_self, upd_self]
  have c12 : q5.1 52 12 = 0 := by
    rw [← hq5, mm_si_self, upd_ne _ _ _ (by decide), mm_si_self, upd_ne _ _ _ (by decide), mm_si_self, upd_ne _ _ _ (by decide), mm_si_self, upd_self]
  have c13 : q5.1 52 13 = a2 := by
    rw [← hq5, mm_si_self, upd_ne _ _ _ (by decide), mm_si_self, upd_ne _ _ _ (by decide), mm_si_self, upd_self]
  have c14 : q5.1 52 14 = -1 := by
    rw [← hq5, mm_si_self, upd_ne _ _ _ (by decide), mm_si_self, upd_self]
  have c15 : q5.1 52 15 = 0 := by
    rw [← hq5, mm_si_self, upd_self]
  have hx : mx B N 0 0 q5 := by
    refine ⟨⟨by rw [c12]; rfl, by rw [c13]; exact ha, ?_⟩, c14, by rw [c15]; rfl⟩
    rw [c11, h57, h58]
    exact hB
  have r := m_text hN 121 mm_fu 0 0 q5 0 0 (by omega) (by decide) hx (Nat.zero_le _) (fun _ => rfl)
  rw [h59] at r
  have gw : ∀ {q'}, mg q5 q' → fw q q' := fun h => ⟨fr_trans hf.1 h.1, fun j hj => (h.2 j (fun z => hj (by rw [z]; decide)) (fun z => hj (by rw [z]; decide)) (fun z => hj (by rw [z]; decide))).trans (hf.2 j hj)⟩
  refine ⟨fun z => ?_, fun z => ?_⟩
  · obtain ⟨q2, e2, hk2, hn2⟩ := r.1 z
    exact ⟨q2, e2, hk2, gw hn2⟩
  · obtain ⟨y, q2, e2, hk2, hn2⟩ := r.2 z
    exact ⟨y, q2, e2, hk2, gw hn2⟩
end MTEXT
