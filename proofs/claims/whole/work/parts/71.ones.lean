section MOPER
variable {B : Nat → Int32} {N : Nat}
theorem m_compared (hN : N ≤ 120) {o : Nat} {P : Nat → Pr} {rc : Nat → mm_Q → Option (Int32 × mm_Q)} (hP : mR B N o P (rc 3)) (hw : ∀ i, i ≤ N → twf N i (P i)) : mR B N o (chn (chs B N) P 2) (x12_compared rc) := by
  intro q i hk hi
  unfold chn x12_compared
  have r := hP q i hk hi
  have w := hw i hi
  generalize P i = R at r w
  obtain ⟨b, i', C', v'⟩ := R
  have w1 : i' ≤ N := w.1
  cases b with
  | false =>
    obtain ⟨y, q2, e2, hk2, hn2⟩ := r.2 rfl
    rw [if_neg (show ¬ (false, i', C', v').1 = true from Bool.false_ne_true), e2, mm_cl_s, m_byte hN hk2.1 w1, mm_cl_s, if_pos (my_f hk2)]
    exact ⟨fun z => absurd z Bool.false_ne_true, fun _ => ⟨_, q2, rfl, hk2, hn2⟩⟩
  | true =>
    obtain ⟨q2, e2, hk2, hn2⟩ := r.1 rfl
    have hk2' : mx B N i' o q2 := hk2
    have w2 : i < i' ∧ C'.length + i ≤ i' := w.2 rfl
    rw [if_pos (show (true, i', C', v').1 = true from rfl), if_pos (show (2 : Nat) = 2 from rfl), e2, mm_cl_s, m_byte hN hk2.1 w1, mm_cl_s, if_neg (mx_nf hk2)]
    show mo B N o (tlp (chs B N) P 2 1 i' C' v') q (if bch B N i' = 60 then _ else _)
    rw [tlp]
    by_cases s : sg 2 (chs B N i')
    · have hi2 := chs_in (sg_ne s).1
      rw [if_pos s]
      have r5 := hP (adv q2) (i' + 1) (mx_adv hN hk2' w1) hi2
      have hg1 : mg q2 (adv q2) := mg_si _ (Or.inl rfl)
      have key : ∀ c : Int32, c = chs B N i' → (c = 60 ∨ c = 61 ∨ c = 62) → mo B N o (if (P (i' + 1)).1 = true then tlp (chs B N) P 2 0 (P (i' + 1)).2.1 (C' ++ (P (i' + 1)).2.2.1 ++ [-(chs B N i')]) (fjn (chs B N i') v' (P (i' + 1)).2.2.2) else (false, (P (i' + 1)).2.1, [], F_0)) q (x12_compared_j37 rc (nm v' (q.1 59)) c q2) := by
        intro c hc h3
        unfold x12_compared_j37
        rw [mm_lt_s, ← hc]
        generalize P (i' + 1) = S at r5
        obtain ⟨b2, i2, C2, v2⟩ := S
        have jj : ∀ (x : Int32) (q3 : mm_Q), mm_cl (some (x, q3)) (fun r10 q11 => if c = (60 : Int32) then (if r10 ≤ nm v' (q.1 59) then (some ((0 : Int32), q11)) else (some ((1 : Int32), q11))) else (if c = (61 : Int32) then (if nm v' (q.1 59) = r10 then (some ((1 : Int32), q11)) else (some ((0 : Int32), q11))) else (if nm v' (q.1 59) ≤ r10 then (some ((0 : Int32), q11)) else (some ((1 : Int32), q11))))) = some (jn c (nm v' (q.1 59)) x, q3) := by
          intro x q3
          rw [mm_cl_s]
          generalize nm v' (q.1 59) = a
          rcases h3 with rfl | rfl | rfl
          · have j : jn 60 a x = if x ≤ a then 0 else 1 := rfl
            rw [if_pos rfl, j]
            by_cases z : x ≤ a
            · rw [if_pos z, if_pos z]
            · rw [if_neg z, if_neg z]
          · have j : jn 61 a x = if a = x then 1 else 0 := rfl
            rw [if_neg (by decide), if_pos rfl, j]
            by_cases z : a = x
            · rw [if_pos z, if_pos z]
            · rw [if_neg z, if_neg z]
          · have j : jn 62 a x = if a ≤ x then 0 else 1 := rfl
            rw [if_neg (by decide), if_neg (by decide), j]
            by_cases z : a ≤ x
            · rw [if_pos z, if_pos z]
            · rw [if_neg z, if_neg z]
        cases b2 with
        | false =>
          obtain ⟨y, q5, e5, hk5, hn5⟩ := r5.2 rfl
          rw [e5, if_neg (show ¬ (false, i2, C2, v2).1 = true from Bool.false_ne_true), jj]
          exact ⟨fun z => absurd z Bool.false_ne_true, fun _ => ⟨_, q5, rfl, hk5, mg_trans hn2 (mg_trans hg1 hn5)⟩⟩
        | true =>
          obtain ⟨q5, e5, hk5, hn5⟩ := r5.1 rfl
          have e : (adv q2).1 59 = q.1 59 := by rw [mg_names hg1, mg_names hn2]
          rw [e5, if_pos (show (true, i2, C2, v2).1 = true from rfl), jj, e]
          exact ⟨fun _ => ⟨q5, rfl, hk5, mg_trans hn2 (mg_trans hg1 hn5)⟩, fun z => absurd z.symm Bool.false_ne_true⟩
      rcases sg2.mp s with c | c | c
      · have c2 : bch B N i' = 60 := (bch_eq (by decide) (by decide)).mpr c
        rw [if_pos c2, c2]
        exact key 60 c.symm (Or.inl rfl)
      · have c2 : bch B N i' = 61 := (bch_eq (by decide) (by decide)).mpr c
        rw [c2, if_neg (show ¬ (61 : Int32) = 60 by decide), if_pos (show (61 : Int32) = 61 from rfl)]
        exact key 61 c.symm (Or.inr (Or.inl rfl))
      · have c2 : bch B N i' = 62 := (bch_eq (by decide) (by decide)).mpr c
        rw [c2, if_neg (show ¬ (62 : Int32) = 60 by decide), if_neg (show ¬ (62 : Int32) = 61 by decide), if_pos (show (62 : Int32) = 62 from rfl)]
        exact key 62 c.symm (Or.inr (Or.inr rfl))
    · rw [if_neg s, if_neg (fun z => s (sg2.mpr (Or.inl ((bch_eq (by decide) (by decide)).mp z)))), if_neg (fun z => s (sg2.mpr (Or.inr (Or.inl ((bch_eq (by decide) (by decide)).mp z))))), if_neg (fun z => s (sg2.mpr (Or.inr (Or.inr ((bch_eq (by decide) (by decide)).mp z)))))]
      exact ⟨fun _ => ⟨q2, rfl, hk2, hn2⟩, fun z => absurd z.symm Bool.false_ne_true⟩
/-- the levels -/
theorem m_lv (hN : N ≤ 120) {o F : Nat} {op : Nat → Pr} (ho : mR B N o op (g_x12_either F 5)) (hw : ∀ i, i ≤ N → twf N i (op i)) : mR B N o (tlv (chs B N) op 5) (g_x12_either (F + 5) 0) := by
  have s4 : mR B N o (chn (chs B N) op 4) (g_x12_either (F + 1) 4) := m_chain hN (by decide) ho hw (m_product hN (g_x12_either F)) (fun q r q' i' e hb hi => by
    show x12_product (g_x12_either F) q = _
    unfold x12_product
    rw [e, mm_cl_s])
  have s3 : mR B N o (chn (chs B N) (tlv (chs B N) op 1) 3) (g_x12_either (F + 2) 3) := m_chain hN (by decide) (rc := g_x12_either (F + 1) 4) s4 (tlv_wf hw 1) (m_sums hN (g_x12_either (F + 1))) (fun q r q' i' e hb hi => by
    show x12_sums (g_x12_either (F + 1)) q = _
    unfold x12_sums
    rw [e, mm_cl_s])
  have s2 : mR B N o (chn (chs B N) (tlv (chs B N) op 2) 2) (g_x12_either (F + 3) 2) := m_compared hN (rc := g_x12_either (F + 2)) s3 (tlv_wf hw 2)
  have s1 : mR B N o (chn (chs B N) (tlv (chs B N) op 3) 1) (g_x12_either (F + 4) 1) := m_chain hN (by decide) (rc := g_x12_either (F + 3) 2) s2 (tlv_wf hw 3) (m_both hN (g_x12_either (F + 3))) (fun q r q' i' e hb hi => by
    show x12_both (g_x12_either (F + 3)) q = _
    unfold x12_both
    rw [e, mm_cl_s])
  exact m_chain hN (by decide) (rc := g_x12_either (F + 4) 1) s1 (tlv_wf hw 4) (m_either hN (g_x12_either (F + 4))) (fun q r q' i' e hb hi => by
    show x12_either (g_x12_either (F + 4)) q = _
    unfold x12_either
    rw [e, mm_cl_s])
theorem m_nameOf (c : Int32) (q : mm_Q) : x12_nameOf c q = some (nmv c, q) := nameOf_eq c q
theorem nmv_b (i : Nat) : nmv (bch B N i) = nmv (chs B N i) := by
  unfold bch chs
  by_cases h : i < N
  · rw [if_pos h, if_pos h]
  · rw [if_neg h, if_neg h]
    rfl
theorem bch_lo (i : Nat) : bch B N i < 48 ↔ chs B N i < 48 := by
  unfold bch chs
  by_cases h : i < N
  · rw [if_pos h, if_pos h]
  · rw [if_neg h, if_neg h]
    exact ⟨fun _ => by decide, fun _ => by decide⟩
theorem m_num (hN : N ≤ 120) {rc : Nat → mm_Q → Option (Int32 × mm_Q)} {o : Nat} : ∀ (m n : Nat) (a a4 : Int32) (q : mm_Q) (i : Nat), m < n → a4.toInt + m = 4 → mx B N i o q → i ≤ N → ∃ (q' : mm_Q) (b4 : Int32), x12_one_h176 rc n a a4 q = x12_one_j229 rc (tnum (chs B N) m i a).2 b4 q' ∧ mx B N (tnum (chs B N) m i a).1 o q' ∧ mg q q' ∧ a4.toInt ≤ b4.toInt ∧ ((tnum (chs B N) m i a).1 = i → b4 = a4) ∧ (i < (tnum (chs B N) m i a).1 → a4.toInt < b4.toInt)
  | 0, n + 1, a, a4, q, i, _, ha, hk, hi => by
    unfold x12_one_h176 tnum
    rw [if_pos (show (4 : Int32) ≤ a4 by rw [le32]; show (4 : Int) ≤ a4.toInt; omega)]
    exact ⟨q, a4, rfl, hk, mg_rfl q, Int.le_refl _, fun _ => rfl, fun z => absurd z (Nat.lt_irrefl i)⟩
  | m + 1, n + 1, a, a4, q, i, hm, ha, hk, hi => by
    have hr := mm_rng a4
    unfold x12_one_h176 tnum
    rw [if_neg (show ¬ (4 : Int32) ≤ a4 by rw [le32]; show ¬ (4 : Int) ≤ a4.toInt; omega), m_byte hN hk.1 hi, mm_cl_s]
    by_cases c1 : chs B N i < 48
    · rw [if_pos ((bch_lo i).mpr c1), if_pos c1]
      exact ⟨q, a4, rfl, hk, mg_rfl q, Int.le_refl _, fun _ => rfl, fun z => absurd z (Nat.lt_irrefl i)⟩
    · have hi2 := chs_in (B := B) (N := N) (i := i) (fun z => c1 (by rw [z]; decide))
      have eb : bch B N i = chs B N i := by
        unfold bch chs
        rw [if_pos hi2, if_pos hi2]
      rw [if_neg (fun z => c1 ((bch_lo i).mp z)), if_neg c1, m_byte hN hk.1 hi, mm_cl_s, eb]
      by_cases c2 : 57 < chs B N i
      · rw [if_pos c2, if_pos c2]
        exact ⟨q, a4, rfl, hk, mg_rfl q, Int.le_refl _, fun _ => rfl, fun z => absurd z (Nat.lt_irrefl i)⟩
      · rw [if_neg c2, if_neg c2, m_byte hN hk.1 hi, mm_cl_s, eb, mm_lt_s]
        have e1 : (a4 + 1).toInt = a4.toInt + 1 := by
          rw [mm_add_ti (by rw [show (1 : Int32).toInt = 1 by decide]; omega) (by rw [show (1 : Int32).toInt = 1 by decide]; omega)]
          rfl
        obtain ⟨q2, b4, e2, hk2, hn2, h1, h2, h3⟩ := m_num hN m n (10 * a + chs B N i - 48) (a4 + 1) (adv q) (i + 1) (by omega) (by omega) (mx_adv hN hk hi) hi2
        have w := tnum_wf (B := B) m (i + 1) (10 * a + chs B N i - 48) hi2
        rw [Int32.mul_comm a 10]
        refine ⟨q2, b4, e2, hk2, mg_trans (mg_si _ (Or.inl rfl)) hn2, by omega, fun z => ?_, fun _ => by omega⟩
        have w1 := w.1
        rw [z] at w1
        exact absurd w1 (Nat.not_succ_le_self i)
theorem mx_lo {i o : Nat} {q : mm_Q} {x : Int32} {p : Nat} (h : mx B N i o q) (hx : x.toInt = p) : mx B N i p (mm_si q 52 15 x) := by
  refine ⟨⟨?_, ?_, ?_⟩, ?_, ?_⟩
  · rw [mm_si_self, upd_ne _ _ _ (by decide)]; exact h.1.1
  · rw [mm_si_self, upd_ne _ _ _ (by decide)]; exact h.1.2.1
  · rw [mm_si_self, upd_ne _ _ _ (by decide), mm_si_ne _ _ _ _ (by decide), mm_si_ne _ _ _ _ (by decide)]; exact h.1.2.2
  · rw [mm_si_self, upd_ne _ _ _ (by decide)]; exact h.2.1
  · rw [mm_si_self, upd_self]; exact hx
/-- an operand that opens nothing -/
theorem m_op0 (hN : N ≤ 120) {o : Nat} {rc : Nat → mm_Q → Option (Int32 × mm_Q)} {q : mm_Q} {i : Nat} (hk : mx B N i o q) (hi : i ≤ N) (ho : ¬ opn (chs B N i)) : mo B N o (op0 (chs B N) i) q (x12_one rc q) := by
  unfold x12_one op0
  have n33 : ¬ bch B N i = 33 := fun z => ho (Or.inr (Or.inl ((bch_eq (by decide) (by decide)).mp z)))
  have n45 : ¬ bch B N i = 45 := fun z => ho (Or.inr (Or.inr ((bch_eq (by decide) (by decide)).mp z)))
  have n40 : ¬ bch B N i = 40 := fun z => ho (Or.inl ((bch_eq (by decide) (by decide)).mp z))
  rw [if_pos (show q.1 52 14 < 0 by rw [hk.2.1]; decide), m_byte hN hk.1 hi, mm_cl_s, if_neg n33, if_neg n45, if_neg n40, m_nameOf, mm_cl_s, nmv_b]
  by_cases n : 0 ≤ nmv (chs B N i)
  · have nd : ¬ (48 ≤ chs B N i ∧ chs B N i ≤ 57) := by
      intro z
      have hz : nmv (chs B N i) = -1 := by
        have h1 := le32.mp z.1
        have h2 := le32.mp z.2
        have ne : ∀ k : Int32, 57 < k.toInt → ¬ chs B N i = k := fun k hk e => by
          rw [e] at h2
          exact absurd (show k.toInt ≤ 57 from h2) (by omega)
        unfold nmv
        rw [if_neg (ne 97 (by decide)), if_neg (ne 101 (by decide)), if_neg (ne 112 (by decide)), if_neg (ne 116 (by decide)), if_neg (ne 119 (by decide)), if_neg (ne 122 (by decide))]
      rw [hz] at n
      exact absurd n (by decide)
    rw [if_neg nd, if_pos n, if_neg (Int32.not_lt.mpr n), mm_lt_s]
    have hb : mm_inb (nmv (chs B N i)) 6 = true ∧ ∀ g : Nat → Int32, g (nmv (chs B N i)).toNatClampNeg = nm (pj (nmv (chs B N i))) g := by
      generalize chs B N i = c at n ⊢
      unfold nmv at n ⊢
      by_cases h1 : c = 97
      · rw [if_pos h1]; exact ⟨by decide, fun g => rfl⟩
      rw [if_neg h1] at n ⊢
      by_cases h1 : c = 101
      · rw [if_pos h1]; exact ⟨by decide, fun g => rfl⟩
      rw [if_neg h1] at n ⊢
      by_cases h1 : c = 112
      · rw [if_pos h1]; exact ⟨by decide, fun g => rfl⟩
      rw [if_neg h1] at n ⊢
      by_cases h1 : c = 116
      · rw [if_pos h1]; exact ⟨by decide, fun g => rfl⟩
      rw [if_neg h1] at n ⊢
      by_cases h1 : c = 119
      · rw [if_pos h1]; exact ⟨by decide, fun g => rfl⟩
      rw [if_neg h1] at n ⊢
      by_cases h1 : c = 122
      · rw [if_pos h1]; exact ⟨by decide, fun g => rfl⟩
      rw [if_neg h1] at n
      exact absurd n (by decide)
    rw [mm_ck_t hb.1, mm_si_ne _ _ _ _ (by decide), hb.2 (q.1 59)]
    exact ⟨fun _ => ⟨adv q, rfl, mx_adv hN hk hi, mg_si _ (Or.inl rfl)⟩, fun z => absurd z.symm Bool.false_ne_true⟩
  · rw [if_pos (Int32.not_le.mp n)]
    obtain ⟨q2, b4, e2, hk2, hn2, h1, h2, h3⟩ := m_num hN (rc := rc) 4 mm_fu 0 0 q i (by decide) (by decide) hk hi
    rw [e2]
    unfold x12_one_j229
    by_cases c : 48 ≤ chs B N i ∧ chs B N i ≤ 57
    · rw [if_pos c]
      have hi2 := chs_in (B := B) (N := N) (i := i) (fun z => by rw [z] at c; exact absurd c.1 (by decide))
      have e : tnum (chs B N) 4 i 0 = tnum (chs B N) 3 (i + 1) (0 * 10 + chs B N i - 48) := by
        rw [tnum]
        rw [if_neg (Int32.not_lt.mpr c.1), if_neg (Int32.not_lt.mpr c.2)]
      have w := tnum_wf (B := B) 3 (i + 1) (0 * 10 + chs B N i - 48) hi2
      rw [← e] at w
      have hb := h3 w.1
      rw [if_neg (fun z => by rw [z] at hb; exact absurd hb (by decide))]
      exact ⟨fun _ => ⟨q2, rfl, hk2, hn2⟩, fun z => absurd z.symm Bool.false_ne_true⟩
    · have e : tnum (chs B N) 4 i 0 = (i, 0) := by
        rw [tnum]
        by_cases c1 : chs B N i < 48
        · rw [if_pos c1]
        · rw [if_neg c1, if_pos (Int32.not_le.mp (fun z => c ⟨Int32.not_lt.mp c1, z⟩))]
      rw [if_neg c, if_neg n]
      rw [e] at hk2 h2 ⊢
      rw [if_pos (h2 rfl)]
      obtain ⟨q3, e3, hk3, hn3⟩ := m_wrong hk2
      rw [e3, mm_cl_s]
      exact ⟨fun z => absurd z Bool.false_ne_true, fun _ => ⟨0, q3, rfl, hk3, mg_trans hn2 hn3⟩⟩
/-- an operand that opens -/
theorem m_opn (hN : N ≤ 120) {o : Nat} (h5 : o < 6) {rc : Nat → mm_Q → Option (Int32 × mm_Q)} {q : mm_Q} {i : Nat} {P1 P2 : Nat → Pr} (hk : mx B N i o q) (hi : i ≤ N) (ho : opn (chs B N i)) (h1 : mR B N (o + 1) P1 (rc 0)) (w1 : ∀ i, i ≤ N → twf N i (P1 i)) (h2 : mR B N (o + 1) P2 (rc 5)) (w2 : ∀ i, i ≤ N → twf N i (P2 i)) : mo B N o (if chs B N i = 40 then cls (chs B N) (P1 (i + 1)) else sgn (chs B N i) (P2 (i + 1))) q (x12_one rc q) := by
  have hi2 := chs_in (opn_ne ho).1
  have eb : bch B N i = chs B N i := by
    unfold bch chs
    rw [if_pos hi2, if_pos hi2]
  have hr := mm_rng (q.1 52 15)
  have ho3 := hk.2.2
  have e1 : (q.1 52 15 + 1).toInt = ((o + 1 : Nat) : Int) := mm_inc1 ho3 (by omega)
  have hk1 : mx B N i (o + 1) (mm_si q 52 15 (q.1 52 15 + 1)) := mx_lo hk e1
  have hk2 : mx B N (i + 1) (o + 1) (adv (mm_si q 52 15 (q.1 52 15 + 1))) := mx_adv hN hk1 hi
  have hg2 : mg q (adv (mm_si q 52 15 (q.1 52 15 + 1))) := mg_trans (mg_si _ (Or.inr (Or.inr rfl))) (mg_si _ (Or.inl rfl))
  have key : ∀ c, c = chs B N i → mo B N o (if c = 40 then cls (chs B N) (P1 (i + 1)) else sgn c (P2 (i + 1))) q (x12_one_j32 rc c q) := by
    intro c hc
    unfold x12_one_j32
    rw [if_neg (show ¬ q.1 52 15 = 6 from fun z => by rw [z] at ho3; exact absurd (show (6 : Int) = (o : Int) from ho3) (by omega)), mm_lt_s, mm_lt_s]
    show mo B N o _ q (if c = 40 then mm_cl (rc 0 (adv (mm_si q 52 15 (q.1 52 15 + 1)))) (fun r18 q19 => x12_one_j83 rc c r18 q19) else mm_cl (rc 5 (adv (mm_si q 52 15 (q.1 52 15 + 1)))) (fun r20 q21 => x12_one_j83 rc c r20 q21))
    generalize adv (mm_si q 52 15 (q.1 52 15 + 1)) = q2 at hk2 hg2
    have fin : ∀ (x : Int32) (q3 : mm_Q) (i3 : Nat), mx B N i3 (o + 1) q3 → mx B N i3 o (mm_si q3 52 15 (q3.1 52 15 - 1)) := by
      intro x q3 i3 h
      refine mx_lo h ?_
      have h15 := h.2.2
      rw [mm_sub_ti (by rw [show (1 : Int32).toInt = 1 by decide]; omega) (by rw [show (1 : Int32).toInt = 1 by decide]; omega), show (1 : Int32).toInt = 1 by decide]
      omega
    by_cases c40 : c = 40
    · rw [if_pos c40, if_pos c40]
      have r := h1 q2 (i + 1) hk2 hi2
      have w := w1 (i + 1) hi2
      unfold cls
      generalize P1 (i + 1) = R at r w
      obtain ⟨b, i', C', v'⟩ := R
      have wi : i' ≤ N := w.1
      cases b with
      | false =>
        obtain ⟨y, q3, e3, hk3, hn3⟩ := r.2 rfl
        have hk3' : my B N i' q3 := hk3
        rw [if_neg (show ¬ (false, i', C', v').1 = true from Bool.false_ne_true), e3, mm_cl_s]
        unfold x12_one_j83 x12_wrong x12_wrong_j19
        rw [if_pos c40, m_takes_f hk3, mm_cl_s, if_pos (show (0 : Int32) = 0 from rfl), if_pos (my_f hk3), mm_lt_s, mm_cl_s]
        refine ⟨fun z => absurd z Bool.false_ne_true, fun _ => ⟨0, _, rfl, ⟨⟨?_, ?_, ?_⟩, ?_⟩, mg_trans hg2 (mg_trans hn3 (mg_si _ (Or.inr (Or.inl rfl))))⟩⟩
        · rw [mm_si_self, upd_ne _ _ _ (by decide)]; exact hk3'.1.1
        · rw [mm_si_self, upd_ne _ _ _ (by decide)]; exact hk3'.1.2.1
        · rw [mm_si_self, upd_ne _ _ _ (by decide), mm_si_ne _ _ _ _ (by decide), mm_si_ne _ _ _ _ (by decide)]; exact hk3'.1.2.2
        · rw [mm_si_self, upd_self]; exact hk3'.2
      | true =>
        obtain ⟨q3, e3, hk3, hn3⟩ := r.1 rfl
        have hk3' : mx B N i' (o + 1) q3 := hk3
        rw [if_pos (show (true, i', C', v').1 = true from rfl), e3, mm_cl_s]
        unfold x12_one_j83 x12_one_j104
        rw [if_pos c40, m_takes hN hk3' wi (by decide) (by decide)]
        show mo B N o (if chs B N i' = 41 then (true, i' + 1, C', v') else (false, i', [], F_0)) q _
        by_cases c41 : chs B N i' = 41
        · rw [if_pos c41, if_pos c41, mm_cl_s, if_neg (by decide), mm_lt_s, if_pos c40, mg_names hg2]
          exact ⟨fun _ => ⟨_, rfl, fin 0 _ _ (mx_adv hN hk3' wi), mg_trans hg2 (mg_trans hn3 (mg_trans (mg_si _ (Or.inl rfl)) (mg_si _ (Or.inr (Or.inr rfl)))))⟩, fun z => absurd z.symm Bool.false_ne_true⟩
        · rw [if_neg c41, if_neg c41, mm_cl_s, if_pos (show (0 : Int32) = 0 from rfl)]
          obtain ⟨q4, e4, hk4, hn4⟩ := m_wrong hk3'
          rw [e4, mm_cl_s]
          exact ⟨fun z => absurd z Bool.false_ne_true, fun _ => ⟨0, q4, rfl, hk4, mg_trans hg2 (mg_trans hn3 hn4)⟩⟩
    · rw [if_neg c40, if_neg c40]
      have r := h2 q2 (i + 1) hk2 hi2
      have w := w2 (i + 1) hi2
      unfold sgn
      generalize P2 (i + 1) = R at r w
      obtain ⟨b, i', C', v'⟩ := R
      have wi : i' ≤ N := w.1
      have tail : ∀ (x : Int32) (q3 : mm_Q), x12_one_j83 rc c x q3 = some (if c = 45 then -x else if x = 0 then 1 else 0, mm_si q3 52 15 (q3.1 52 15 - 1)) := by
        intro x q3
        unfold x12_one_j83 x12_one_j104
        rw [if_neg c40, mm_lt_s, if_neg c40]
        by_cases c5 : c = 45
        · rw [if_pos c5, if_pos c5]
        · rw [if_neg c5, if_neg c5]
          by_cases x0 : x = 0
          · rw [if_pos x0, if_pos x0]
          · rw [if_neg x0, if_neg x0]
      cases b with
      | false =>
        obtain ⟨y, q3, e3, hk3, hn3⟩ := r.2 rfl
        have hk3' : my B N i' q3 := hk3
        rw [if_neg (show ¬ (false, i', C', v').1 = true from Bool.false_ne_true), e3, mm_cl_s, tail]
        refine ⟨fun z => absurd z Bool.false_ne_true, fun _ => ⟨_, _, rfl, ⟨⟨?_, ?_, ?_⟩, ?_⟩, mg_trans hg2 (mg_trans hn3 (mg_si _ (Or.inr (Or.inr rfl))))⟩⟩
        · rw [mm_si_self, upd_ne _ _ _ (by decide)]; exact hk3'.1.1
        · rw [mm_si_self, upd_ne _ _ _ (by decide)]; exact hk3'.1.2.1
        · rw [mm_si_self, upd_ne _ _ _ (by decide), mm_si_ne _ _ _ _ (by decide), mm_si_ne _ _ _ _ (by decide)]; exact hk3'.1.2.2
        · rw [mm_si_self, upd_ne _ _ _ (by decide)]; exact hk3'.2
      | true =>
        obtain ⟨q3, e3, hk3, hn3⟩ := r.1 rfl
        have hk3' : mx B N i' (o + 1) q3 := hk3
        rw [if_pos (show (true, i', C', v').1 = true from rfl), e3, mm_cl_s, tail, mg_names hg2]
        refine ⟨fun _ => ⟨mm_si q3 52 15 (q3.1 52 15 - 1), ?_, fin 0 _ _ hk3', mg_trans hg2 (mg_trans hn3 (mg_si _ (Or.inr (Or.inr rfl))))⟩, fun z => absurd z.symm Bool.false_ne_true⟩
        by_cases c5 : c = 45
        · rw [if_pos c5]
          show _ = some (nm (if c = 45 then Fn v' else Fx v') (q.1 59), _)
          rw [if_pos c5]
          rfl
        · rw [if_neg c5]
          show _ = some (nm (if c = 45 then Fn v' else Fx v') (q.1 59), _)
          rw [if_neg c5]
          rfl
  unfold x12_one
  rw [if_pos (show q.1 52 14 < 0 by rw [hk.2.1]; decide), m_byte hN hk.1 hi, mm_cl_s, eb]
  by_cases o1 : chs B N i = 33
  · rw [if_pos o1]
    exact key _ rfl
  · rw [if_neg o1]
    by_cases o2 : chs B N i = 45
    · rw [if_pos o2]
      exact key _ rfl
    · rw [if_neg o2]
      have o3 : chs B N i = 40 := ho.resolve_right (fun z => z.elim o1 o2)
      have k := key _ rfl
      rw [if_pos o3] at k ⊢
      rw [if_pos o3]
      exact k
end MOPER
