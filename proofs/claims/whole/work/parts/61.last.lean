/-! last: the reference, and the pair -/
section LS
variable {F : mm_F} {c : Nat → Int32} {sp : Int32} {n N : Nat} {rl : Int32} {W : Nat → Int32}
theorem last76_h (hb : bd sp c) (hs6 : sp.toInt ≤ 6) (hg : gat F c sp n rl N W) (h1N : 1 ≤ N) {nr a3 : Int32} (h10 : (nr / 10).toInt = n) (hrl : rl = mm_rem nr 10) {f : Nat} : ∀ (m i : Nat) (a4 a : Int32) (q : mm_Q), a4.toInt = i → i + m = N - 1 → rx F c sp 0 q → rg N W q → q.1 52 27 = a → ∃ q', x12_last_h76 (f + m + 1) nr a3 a4 q = x12_last_h143 mm_fu nr a3 0 (-1) 1 0 q' ∧ fz q q' ∧ rx F c sp 0 q' ∧ rg N W q' ∧ q'.1 52 27 = nd (SN F c n rl 0 W) m i a := by
  obtain ⟨hn, hN, hr, hW, -⟩ := id hg
  intro m
  induction m with
  | zero =>
    intro i a4 a q e1 e2 hx hr1 ha
    have := hr1.1
    refine ⟨q, ?_, fz_rfl _, hx, hr1, ha⟩
    rw [x12_last_h76, if_pos (by rw [le32, mm_sub_ti (by rw [ti1]; omega) (by rw [ti1]; omega), ti1]; omega)]
  | succ m ih =>
    intro i a4 a q e1 e2 hx hr1 ha
    have := hr1.1
    have wj := hW i (by omega)
    obtain ⟨q1, y1, y2, y3⟩ := score12_eq (rl := rl) hb (nat_of wj.1) (by omega) hn h10 hrl hr hx
    have k27 : q1.1 52 27 = a := by rw [y2.2 27 (by decide)]; exact ha
    have e : x12_last_h76 (f + (m + 1) + 1) nr a3 a4 q = x12_last_h76 (f + m + 1) nr a3 (a4 + 1) (mm_si q1 52 27 (mm_max a (SN F c n rl 0 W i))) := by
      rw [show f + (m + 1) + 1 = (f + m + 1) + 1 by omega, x12_last_h76, if_neg (by rw [le32, mm_sub_ti (by rw [ti1]; omega) (by rw [ti1]; omega), ti1]; omega), mm_ck_t (mm_inb_c e1 (by omega)), mm_tcn e1, hr1.2 i (by omega), y1, mm_cl_s, k27]
      unfold x12_last_j120 mm_max
      rw [mm_lt_s, mm_lt_s]
      by_cases w : SC F c n rl 0 (W i).toInt.toNat ≤ a
      · rw [if_pos w, if_neg (Int32.not_lt.mpr w)]
      · rw [if_neg w, if_pos (Int32.not_le.mp w)]
    have f2 : fz q (mm_si q1 52 27 (mm_max a (SN F c n rl 0 W i))) := fz_trans (fz_fq y2) ⟨fun k hk => mm_si_ne _ _ _ _ (fun z => hk (by rw [z]; decide)), rfl, fun j hj => by
      rw [mm_si_self]
      exact upd_ne _ _ _ (fun z => hj (by rw [z]; decide))⟩
    have hr3 : rg N W (mm_si q1 52 27 (mm_max a (SN F c n rl 0 W i))) := by
      have hr2 := rg_fq hr1 y2
      refine ⟨by rw [mm_si_self, upd_ne _ _ _ (by decide)]; exact hr2.1, fun j hj => ?_⟩
      rw [mm_si_ne _ _ _ _ (by decide)]
      exact hr2.2 j hj
    obtain ⟨q2, z1, z2, z3, z4, z5⟩ := ih (i + 1) (a4 + 1) (mm_max a (SN F c n rl 0 W i)) (mm_si q1 52 27 (mm_max a (SN F c n rl 0 W i))) (mm_inc1 e1 (by omega)) (by omega) (show rx F c sp 0 (mm_si q1 52 27 (mm_max a (SN F c n rl 0 W i))) from y3) hr3 (by rw [mm_si_self, upd_self])
    exact ⟨q2, by rw [e]; exact z1, fz_trans f2 z2, z3, z4, z5⟩
theorem last143_h (hn : n ≤ 9) {nr a3 a4 : Int32} {b5 : Int64} (h10 : (nr / 10).toInt = n) {f : Nat} (q : mm_Q) : ∀ (m i : Nat) (a9 : Int32) (b7 : Int64), a9.toInt = i → i + m = n → b7.toInt = pw i → ∃ b : Int64, b.toInt = pw n ∧ x12_last_h143 (f + m + 1) nr a3 a4 b5 b7 a9 q = x12_last_h169 mm_fu nr a3 a4 b5 b 0 q := by
  intro m
  induction m with
  | zero =>
    intro i a9 b7 e1 e2 e3
    refine ⟨b7, by rw [e3, show i = n by omega], ?_⟩
    rw [x12_last_h143, if_pos (by rw [le32]; omega)]
  | succ m ih =>
    intro i a9 b7 e1 e2 e3
    have p8 := pw_8 i (by omega)
    obtain ⟨b, w1, w2⟩ := ih (i + 1) (a9 + 1) (b7 * 12) (mm_inc1 e1 (by omega)) (by omega) (by rw [ml_mul (by rw [e3, tl12]; omega) (by rw [e3, tl12]; omega), e3, tl12, pw_s]; omega)
    refine ⟨b, w1, ?_⟩
    rw [show f + (m + 1) + 1 = (f + m + 1) + 1 by omega, x12_last_h143, if_neg (by rw [le32]; omega), w2]
theorem last169_h (hb : bd sp c) (hs6 : sp.toInt ≤ 6) (hg : gat F c sp n rl N W) (h1N : 1 ≤ N) {nr a3 : Int32} (h10 : (nr / 10).toInt = n) (hrl : rl = mm_rem nr 10) {p : Nat} (hp : (W (N - 1)).toInt = p) {need : Int32} {b7 : Int64} {f : Nat} : ∀ (m r : Nat) (a9 : Int32) (b : Nat) (b5 : Int64) (q : mm_Q), a9.toInt = r → r + m = 2 ^ n → rx F c sp 0 q → rg N W q → q.1 52 27 = need → ∃ (v : Int64) (q' : mm_Q), v.toInt = (bl (Vl need (c (18 + p)) rl (Bz F c p 0) (Bz F c p 1) n) m r b5.toInt b).1 ∧ x12_last_h169 (f + m + 1) nr a3 (Int32.ofNat b) b5 b7 a9 q = (if a3 = 2 then some ((Int32.ofNat (bl (Vl need (c (18 + p)) rl (Bz F c p 0) (Bz F c p 1) n) m r b5.toInt b).2).toInt64, q') else x12_partOf v b7 a3 q') ∧ fz q q' ∧ rx F c sp 0 q' := by
  obtain ⟨hn, hN, hr, hW, -⟩ := id hg
  have sh := shl_n n hn
  have hpw := hW (N - 1) (by omega)
  have slr := bd_sp hb (p := p) (w := 3) (by omega) hs6 (by decide) (a := 0) (b := 12) (by decide) (by decide)
  rw [show 6 * 3 + p = 18 + p by omega] at slr
  intro m
  induction m with
  | zero =>
    intro r a9 b b5 q e1 e2 hx hr1 hk
    refine ⟨b5, q, rfl, ?_, fz_rfl _, hx⟩
    rw [x12_last_h169, mm_ofn h10, if_pos (by rw [le32]; omega), mm_cl_ret]
    rfl
  | succ m ih =>
    intro r a9 b b5 q e1 e2 hx hr1 hk
    have := hr1.1
    have f28 : fz q (mm_si q 52 28 a9) := ⟨fun k hk => mm_si_ne _ _ _ _ (fun z => hk (by rw [z]; decide)), rfl, fun j hj => by
      rw [mm_si_self]
      exact upd_ne _ _ _ (fun z => hj (by rw [z]; decide))⟩
    have i26 : ((mm_si q 52 28 a9).1 52 26 - 1).toInt = ((N - 1 : Nat) : Int) := by
      have w : (mm_si q 52 28 a9).1 52 26 = q.1 52 26 := by rw [mm_si_self, upd_ne _ _ _ (by decide)]
      rw [w, mm_sub_ti (by rw [ti1]; omega) (by rw [ti1]; omega), ti1]
      omega
    obtain ⟨v, q1, u1, u2, u3, u4⟩ := laston_h (F := F) (need := need) hb hp (by omega) hn h10 hrl hr slr.1 slr.2 a9 (d := 99 - n) n 0 0 0 0 (mm_si q 52 28 a9) ti0 (by omega) (by rw [ti0]; omega) (by rw [ti0]; omega) (show rx F c sp 0 (mm_si q 52 28 a9) from hx) (by rw [mm_si_self, upd_ne _ _ _ (by decide)]; exact hk) (by rw [mm_si_self, upd_self])
    rw [show 99 - n + n + 1 = 100 by omega] at u1
    have hr3 : rg N W q1 := rg_fq (q := mm_si q 52 28 a9) ⟨by rw [mm_si_self, upd_ne _ _ _ (by decide)]; exact hr1.1, fun j hj => by
      rw [mm_si_ne _ _ _ _ (by decide)]
      exact hr1.2 j hj⟩ u3
    have k27 : q1.1 52 27 = need := by rw [u3.2 27 (by decide), mm_si_self, upd_ne _ _ _ (by decide)]; exact hk
    rw [mm_ofn e1] at u2
    have e : x12_last_h169 (f + (m + 1) + 1) nr a3 (Int32.ofNat b) b5 b7 a9 q = if v.toInt ≤ b5.toInt then x12_last_h169 (f + m + 1) nr a3 (Int32.ofNat b) b5 b7 (a9 + 1) q1 else x12_last_h169 (f + m + 1) nr a3 (Int32.ofNat r) v b7 (a9 + 1) q1 := by
      have w64 : (mm_si q 52 28 a9).1 64 (N - 1) = W (N - 1) := by rw [mm_si_ne _ _ _ _ (by decide)]; exact hr1.2 _ (by omega)
      have big : ¬ (1 : Int32) <<< (Int32.ofNat n &&& 31) ≤ a9 := by rw [le32]; omega
      rw [show f + (m + 1) + 1 = (f + m + 1) + 1 by omega, x12_last_h169]
      rw [if_neg (show ¬ (1 : Int32) <<< (nr / 10 &&& 31) ≤ a9 by rw [mm_ofn h10]; exact big), mm_lt_s, mm_ck_t (mm_inb_c i26 (by omega)), mm_tcn i26, w64, u1, mm_cl_s]
      unfold x12_last_j221 x12_last_j238
      by_cases w : v.toInt ≤ b5.toInt
      · rw [if_pos w, if_pos (by rw [mm_cmp_le, le64]; exact w), if_pos (by rw [mm_cmp_le, le64]; exact w)]
      · rw [if_neg w, if_neg (by rw [mm_cmp_le, le64]; exact w), if_neg (by rw [mm_cmp_le, le64]; exact w), mm_ofn e1]
    have eb : bl (Vl need (c (18 + p)) rl (Bz F c p 0) (Bz F c p 1) n) (m + 1) r b5.toInt b = if v.toInt ≤ b5.toInt then bl (Vl need (c (18 + p)) rl (Bz F c p 0) (Bz F c p 1) n) m (r + 1) b5.toInt b else bl (Vl need (c (18 + p)) rl (Bz F c p 0) (Bz F c p 1) n) m (r + 1) v.toInt r := by
      rw [u2]
      rfl
    rw [e, eb]
    by_cases w : v.toInt ≤ b5.toInt
    · rw [if_pos w, if_pos w]
      obtain ⟨v2, q2, z1, z2, z3, z4⟩ := ih (r + 1) (a9 + 1) b b5 q1 (mm_inc1 e1 (by omega)) (by omega) u4 hr3 k27
      exact ⟨v2, q2, z1, z2, fz_trans (fz_trans f28 (fz_fq u3)) z3, z4⟩
    · rw [if_neg w, if_neg w]
      obtain ⟨v2, q2, z1, z2, z3, z4⟩ := ih (r + 1) (a9 + 1) r v q1 (mm_inc1 e1 (by omega)) (by omega) u4 hr3 k27
      exact ⟨v2, q2, z1, z2, fz_trans (fz_trans f28 (fz_fq u3)) z3, z4⟩
end LS
theorem frac_same {b : Int64} (hb : 0 < b.toInt) (hb2 : b.toInt < 8589934592) (v : Int32) (q : mm_Q) : x11_fractionPart b b v q = some (1, q) := by
  obtain ⟨B, hB⟩ : ∃ B : Nat, b.toInt = B := ⟨b.toInt.toNat, by omega⟩
  have p33 : (2 : Nat) ^ 33 = 8589934592 := by decide
  obtain ⟨g, hg, eg⟩ := gcd11 33 B B b b 0 1000 q hB hB (by rw [p33]; omega) (by rw [ti0]; omega) (by rw [ti0]; omega) (by omega)
  have gb : g = b := by rw [eq64, hg, hB, Nat.gcd_self]
  have d0 : b / b = 1 := by rw [eq64, ml_div (by omega) hb, Int.ediv_self (by omega), tl1]
  unfold x11_fractionPart x11_greatestDivisor
  rw [show mm_fu = 1000 from rfl, eg, mm_cl_s, gb, if_neg (fun z => by rw [mm_cmp_eq, eq64, tl0] at z; omega), mm_ck_t (nzl_t (by omega)), d0]
  by_cases v0 : v = 0
  · rw [if_pos v0]
  · rw [if_neg v0]
theorem pr_last (v0 v1 v2 : Int32) : mm_pr (mm_Iv mm_LX) (x11_last v0 v1 v2) (x12_last v0 v1 v2) := by
  intro q h
  obtain ⟨F, hw, hb, ⟨hs0, hs6⟩, e6, hx, hd⟩ := mm_think h
  have ht4 : ∀ j, q.2 4 j = mm_t4.getD j 0 := h.1.2.2.2.2.2
  by_cases g : (0 ≤ v2.toInt ∧ v2.toInt ≤ 2) ∧ (10 ≤ v1.toInt ∧ v1.toInt / 10 ≤ 9 ∧ v1.toInt % 10 ≤ 1)
  · obtain ⟨g1, g2⟩ := g
    have hX : x11_last v0 v1 v2 q = mm_cl (x11_matchRefusal v0 v1 q) (fun r3 q4 => (if r3 = 0 then (mm_cl (x2_size q4) (fun r6 q7 => (if r6 = 0 then (some ((-2 : Int64), q7)) else (mm_cl (x2_weighLast q7) (fun u9 q10 => (if v2 = (2 : Int32) then (mm_cl (x2_runBits q10) (fun r12 q13 => (some (r12.toInt64, q13)))) else (mm_cl (x2_chanceAbove q10) (fun r14 q15 => (mm_cl (x2_chanceBelow q15) (fun r16 q17 => (mm_cl (x11_fractionPart r14 r16 v2 q17) (fun r18 q19 => (some (r18, q19)))))))))))))) else (some ((-9223372036854775808 : Int64), q4)))) := by
      unfold x11_last
      rw [if_neg (by rw [lt32, ti0]; omega), if_neg (by rw [lt32, ti2]; omega)]
    rcases match_ref h hw hb hs0 hs6 hx v0 v1 g2 with ⟨R, hR, y1, y2⟩ | ⟨n, N, W, q1, hn, hg, y1, y2, y3, y4, y5⟩
    · refine ⟨-9223372036854775808, q, q, ?_, rfl, ?_, h⟩
      · rw [hX, y1, mm_cl_s, if_neg (by rcases hR with rfl | rfl | rfl <;> decide)]
      · unfold x12_last
        rw [y2 q (fk_rfl q), mm_cl_s, if_neg (by rcases hR with rfl | rfl | rfl <;> decide)]
    · have k1 : fk q q1 := fk_fr y2 (by decide)
      have hN6 : N ≤ 6 := hg.2.1
      have w1 : cw F (q.1 9) (q.1 8 1) q1 := cw_fr hw y2 (by decide) (by decide) (by decide) (by decide)
      have t1 : ∀ j, q1.2 4 j = mm_t4.getD j 0 := fun j => by rw [y2.1]; exact ht4 j
      rw [y1, mm_cl_s, if_pos rfl] at hX
      have hM : ∀ (qa qb : mm_Q), fk q qa → x12_takesRow v0 qa = some ((), qb) → x12_last v0 v1 v2 qa = if qb.1 52 26 = 0 then some (-2, qb) else if qb.1 52 26 = 1 then (if v2 = 2 then some (0, qb) else some (1, qb)) else x12_last_h76 mm_fu v1 v2 0 (mm_si qb 52 27 0) := by
        intro qa qb fa ta
        unfold x12_last
        rw [(y5 qa fa).1, mm_cl_s, if_pos rfl, nr12_eq, mm_cl_s, if_neg (show ¬ mm_p _ = 0 by rw [mm_p0]; exact fun w => w g2), within_eq, mm_cl_s, mm_i64, tl0, tl2, if_neg (show ¬ mm_p _ = 0 by rw [mm_p0]; exact fun w => w g1), ta, mm_cl_s, mm_lt_s]
      by_cases c0 : N = 0
      · obtain ⟨u1, q2, u2, u3, u4, u5⟩ := y5 q1 k1
        have z0 : q1.1 39 6 = 0 := by rw [eq32, y4.1, ti0]; omega
        have z1 : q2.1 52 26 = 0 := by rw [eq32, u5.1, ti0]; omega
        refine ⟨-2, q1, q2, ?_, by rw [k1.1 0 (by decide)], ?_, hd q1 q2 k1 u3 u4⟩
        · rw [hX]
          unfold x2_size
          rw [mm_cl_s, if_pos z0]
        · rw [hM q1 q2 k1 u2, if_pos z1]
      · have z0 : ¬ q1.1 39 6 = 0 := by rw [eq32, y4.1, ti0]; omega
        have hpw := hg.2.2.2.1 (N - 1) (by omega)
        obtain ⟨p, hp⟩ : ∃ p : Nat, (W (N - 1)).toInt = p := ⟨(W (N - 1)).toInt.toNat, by omega⟩
        obtain ⟨q2, a1, a2, a3, a4, a5, a6⟩ := weigh_eq hb hs6 hN6 (show 1 ≤ N by omega) hg.1 hg.2.2.2.1 hp w1 y4 y3 t1
        have k2 : fk q q2 := fk_trans k1 a2
        have tw : x2_twelveTo (q2.1 39 7) q2 = some (mm_t4.getD n 0, q2) := twelve_eq a4 a3.1 hg.1
        have epw := t4_pw n hg.1
        have p9 := pw_rng n hg.1
        have sh := shl_n n hg.1
        have hX2 : x11_last v0 v1 v2 q = if v2 = 2 then some ((q2.1 39 12).toInt64, q2) else mm_cl (x11_fractionPart (q2.2 39 11) (mm_t4.getD n 0) v2 q2) (fun r18 q19 => some (r18, q19)) := by
          rw [hX]
          unfold x2_size x2_runBits x2_chanceAbove x2_chanceBelow
          rw [mm_cl_s, if_neg z0, a1, mm_cl_s, mm_cl_s, mm_cl_s, tw, mm_cl_s, mm_cl_s]
        obtain ⟨u1, q3, u2, u3, u4, u5⟩ := y5 q2 k2
        by_cases c1 : N = 1
        · have z1 : q3.1 52 26 = 1 := by rw [eq32, u5.1, ti1]; omega
          have vs : ∀ r, Vl (nd (SN F (q.1 9) n (mm_rem v1 10) 0 W) (N - 1) 0 (-1)) (q.1 9 (18 + p)) (mm_rem v1 10) (Bz F (q.1 9) p 0) (Bz F (q.1 9) p 1) n r = pw n := by
            intro r
            refine lo_top (fun z => BP_rng hb F _ 0) (fun z => BP_rng hb F _ 1) (Int32.ofNat r) n 0 0 (by rw [ti0]; omega) (by rw [ti0]; have := hg.1; omega) ?_
            rw [show N - 1 = 0 by omega]
            show ¬ (0 : Int32) ≤ -1
            decide
          have eb : bl (Vl (nd (SN F (q.1 9) n (mm_rem v1 10) 0 W) (N - 1) 0 (-1)) (q.1 9 (18 + p)) (mm_rem v1 10) (Bz F (q.1 9) p 0) (Bz F (q.1 9) p 1) n) (2 ^ n) 0 (-1) 0 = (pw n, 0) := by
            obtain ⟨T, hT⟩ : ∃ T, 2 ^ n = T + 1 := ⟨2 ^ n - 1, by omega⟩
            rw [hT]
            show (if Vl (nd (SN F (q.1 9) n (mm_rem v1 10) 0 W) (N - 1) 0 (-1)) (q.1 9 (18 + p)) (mm_rem v1 10) (Bz F (q.1 9) p 0) (Bz F (q.1 9) p 1) n 0 ≤ -1 then _ else bl _ T (0 + 1) (Vl (nd (SN F (q.1 9) n (mm_rem v1 10) 0 W) (N - 1) 0 (-1)) (q.1 9 (18 + p)) (mm_rem v1 10) (Bz F (q.1 9) p 0) (Bz F (q.1 9) p 1) n 0) 0) = _
            rw [vs 0, if_neg (by omega)]
            exact bl_same vs T 1 0
          rw [eb] at a5 a6
          by_cases cp : v2 = 2
          · refine ⟨0, q2, q3, ?_, by rw [k2.1 0 (by decide)], ?_, hd q2 q3 k2 u3 u4⟩
            · rw [hX2, if_pos cp, a6]
              rfl
            · rw [hM q2 q3 k2 u2, if_neg (by rw [z1]; decide), if_pos z1, if_pos cp]
          · refine ⟨1, q2, q3, ?_, by rw [k2.1 0 (by decide)], ?_, hd q2 q3 k2 u3 u4⟩
            · rw [hX2, if_neg cp, show q2.2 39 11 = mm_t4.getD n 0 by rw [eq64, a5, epw], frac_same (by rw [epw]; omega) (by rw [epw]; omega), mm_cl_s]
            · rw [hM q2 q3 k2 u2, if_neg (by rw [z1]; decide), if_pos z1, if_neg cp]
        · have i26 : (q3.1 52 26).toInt = N := u5.1
          have f27 : fz q3 (mm_si q3 52 27 0) := ⟨fun k hk => mm_si_ne _ _ _ _ (fun z => hk (by rw [z]; decide)), rfl, fun j hj => by
            rw [mm_si_self]
            exact upd_ne _ _ _ (fun z => hj (by rw [z]; decide))⟩
          obtain ⟨q4, b1, b2, b3, b4, b5⟩ := last76_h (a3 := v2) hb hs6 hg (show 1 ≤ N by omega) hn rfl (f := 999 - (N - 1)) (N - 1) 0 0 0 (mm_si q3 52 27 0) ti0 (by omega) (show rx F (q.1 9) (q.1 8 1) 0 (mm_si q3 52 27 0) from u4) ⟨by rw [mm_si_self, upd_ne _ _ _ (by decide)]; exact u5.1, fun j hj => by
            rw [mm_si_ne _ _ _ _ (by decide)]
            exact u5.2 j hj⟩ (by rw [mm_si_self, upd_self])
          rw [show 999 - (N - 1) + (N - 1) + 1 = mm_fu by show _ = 1000; omega] at b1
          have en : nd (SN F (q.1 9) n (mm_rem v1 10) 0 W) (N - 1) 0 0 = nd (SN F (q.1 9) n (mm_rem v1 10) 0 W) (N - 1) 0 (-1) := by
            obtain ⟨T, hT⟩ : ∃ T, N - 1 = T + 1 := ⟨N - 2, by omega⟩
            have s0 : 0 ≤ (SN F (q.1 9) n (mm_rem v1 10) 0 W 0).toInt ∧ (SN F (q.1 9) n (mm_rem v1 10) 0 W 0).toInt ≤ 1161 := SC_rng hb F hg.1 (mm_rem v1 10) 0 (W 0).toInt.toNat
            rw [hT]
            show nd _ T (0 + 1) (mm_max 0 (SN F (q.1 9) n (mm_rem v1 10) 0 W 0)) = nd _ T (0 + 1) (mm_max (-1) (SN F (q.1 9) n (mm_rem v1 10) 0 W 0))
            have : mm_max 0 (SN F (q.1 9) n (mm_rem v1 10) 0 W 0) = mm_max (-1) (SN F (q.1 9) n (mm_rem v1 10) 0 W 0) := by
              rw [eq32, max_ti, max_ti, ti0, tin1]
              omega
            rw [this]
          rw [en] at b5
          obtain ⟨ln, d1, d2⟩ := last143_h hg.1 (nr := v1) (a3 := v2) (a4 := 0) (b5 := -1) hn (f := 999 - n) q4 n 0 0 1 ti0 (by omega) (by decide)
          rw [show 999 - n + n + 1 = mm_fu by show _ = 1000; have := hg.1; omega] at d2
          obtain ⟨T, hT⟩ : ∃ T, T = 2 ^ n := ⟨_, rfl⟩
          rw [← hT] at sh a5 a6
          obtain ⟨v, q5, x1, x2, x3, x4⟩ := last169_h (a3 := v2) (b7 := ln) hb hs6 hg (show 1 ≤ N by omega) hn rfl hp (need := nd (SN F (q.1 9) n (mm_rem v1 10) 0 W) (N - 1) 0 (-1)) (f := 999 - T) T 0 0 0 (-1) q4 ti0 (by rw [← hT]; omega) b3 b4 b5
          rw [show 999 - T + T + 1 = mm_fu by show _ = 1000; omega] at x2
          rw [tln1] at x1 x2
          have hM2 : x12_last v0 v1 v2 q2 = x12_last_h169 mm_fu v1 v2 0 (-1) ln 0 q4 := by
            rw [hM q2 q3 k2 u2, if_neg (by rw [eq32, i26, ti0]; omega), if_neg (by rw [eq32, i26, ti1]; omega), b1, d2]
          have hM3 : x12_last v0 v1 v2 q2 = _ := hM2.trans x2
          have fz5 : fz q2 q5 := fz_trans (fz_trans (fz_trans u3 f27) b2) x3
          by_cases cp : v2 = 2
          · rw [if_pos cp] at hM3 hX2
            exact ⟨_, q2, q5, hX2, by rw [k2.1 0 (by decide)], by rw [hM3, a6], hd q2 q5 k2 fz5 x4⟩
          · rw [if_neg cp] at hM3 hX2
            have ev : v = q2.2 39 11 := by rw [eq64, x1, a5]
            have el : ln = mm_t4.getD n 0 := by rw [eq64, d1, epw]
            have slr := bd_sp hb (p := p) (w := 3) (by omega) hs6 (by decide) (a := 0) (b := 12) (by decide) (by decide)
            rw [show 6 * 3 + p = 18 + p by omega] at slr
            have vr : ∀ r, 0 ≤ Vl (nd (SN F (q.1 9) n (mm_rem v1 10) 0 W) (N - 1) 0 (-1)) (q.1 9 (18 + p)) (mm_rem v1 10) (Bz F (q.1 9) p 0) (Bz F (q.1 9) p 1) n r ∧ Vl (nd (SN F (q.1 9) n (mm_rem v1 10) 0 W) (N - 1) 0 (-1)) (q.1 9 (18 + p)) (mm_rem v1 10) (Bz F (q.1 9) p 0) (Bz F (q.1 9) p 1) n r ≤ pw n := fun r => lo_rng slr.1 slr.2 (Int32.ofNat r) n 0 0
            have br := bl_rng vr T 0 (-1) 0 (by omega)
            have b0 := br.2 (Or.inr (by omega))
            rw [eq32, ti2] at cp
            obtain ⟨r, er⟩ := frac_eq (a := q2.2 39 11) (b := mm_t4.getD n 0) (by rw [a5]; exact b0) (by rw [a5]; have := br.1; omega) (by rw [epw]; omega) (by rw [epw]; omega) (v := v2) (by omega)
            refine ⟨r, q2, q5, ?_, by rw [k2.1 0 (by decide)], ?_, hd q2 q5 k2 fz5 x4⟩
            · rw [hX2, (er q2).1, mm_cl_s]
            · rw [hM3, ev, el, (er q5).2]
  · refine ⟨-9223372036854775808, q, q, ?_, rfl, ?_, h⟩
    · unfold x11_last
      by_cases c0 : v2 < 0
      · rw [if_pos c0]
      · by_cases c1 : 2 < v2
        · rw [if_neg c0, if_pos c1]
        · rw [if_neg c0, if_neg c1]
          rw [lt32, ti0] at c0
          rw [lt32, ti2] at c1
          rw [match_bad h v0 v1 (fun w => g ⟨by omega, w⟩), mm_cl_s, if_neg (by decide)]
    · obtain ⟨R, eR⟩ := row_any h v0
      unfold x12_last
      rw [eR, mm_cl_s, nr12_eq, mm_cl_s, within_eq, mm_cl_s, mm_i64, tl0, tl2]
      by_cases c : R = 1
      · rw [if_pos c]
        by_cases c2 : 10 ≤ v1.toInt ∧ v1.toInt / 10 ≤ 9 ∧ v1.toInt % 10 ≤ 1
        · rw [if_neg (show ¬ mm_p _ = 0 by rw [mm_p0]; exact fun w => w c2), if_pos (show mm_p _ = 0 by rw [mm_p0]; exact fun w => g ⟨w, c2⟩)]
        · rw [if_pos (show mm_p _ = 0 by rw [mm_p0]; exact c2)]
      · rw [if_neg c]
