/-! the pair order -/
theorem lb_0 : ∀ m i, lb (0 : Nat).testBit m i = []
  | 0, _ => rfl
  | m + 1, i => by
    show cond ((0 : Nat).testBit i) _ _ = []
    rw [Nat.zero_testBit, cond_false]
    exact lb_0 m (i + 1)
theorem lb_true_len : ∀ m i, (lb (fun _ => true) m i).length = m
  | 0, _ => rfl
  | m + 1, i => by
    show (i :: lb (fun _ => true) m (i + 1)).length = m + 1
    rw [List.length_cons, lb_true_len m (i + 1)]
theorem lb_full (k : Nat) : lb (2 ^ k - 1).testBit k 0 = lb (fun _ => true) k 0 := lb_congr k 0 (fun j _ hj => by
  rw [Nat.testBit_two_pow_sub_one]
  exact decide_eq_true (by omega))
theorem lc9_full (st : List Nat) : lc9 st st.length (2 ^ st.length - 1) = st := by
  unfold lc9
  rw [lb_full, lb_all st st.length 0 (by omega)]
  rfl
section CO
variable {F : mm_F} {c : Nat → Int32} {sp : Int32} {p : Nat}
theorem count_h {S : Nat} (hS : S < 512) {a1 a2 a3 a4 : Int32} (hs : a2 / 10 = Int32.ofNat S) {f : Nat} : ∀ (m z cn : Nat) (a5 : Int32) (q : mm_Q), a5.toInt = z → z + m = 9 → cn ≤ z → (q.1 52 22).toInt = cn → ∃ q', x12_order_h59 (f + m + 1) a1 a2 a3 a4 a5 q = x12_order_h59 (f + 1) a1 a2 a3 a4 9 q' ∧ (∀ a, a ≠ 52 → q'.1 a = q.1 a) ∧ q'.2 = q.2 ∧ (∀ j, j ≠ 22 → q'.1 52 j = q.1 52 j) ∧ (q'.1 52 22).toInt = ((cn + (lb S.testBit m z).length : Nat) : Int) := by
  intro m
  induction m with
  | zero =>
    intro z cn a5 q e1 e2 hc h22
    have e5 : a5 = 9 := by rw [eq32, ti9]; omega
    exact ⟨q, by rw [e5], fun _ _ => rfl, rfl, fun _ _ => rfl, by rw [h22]; rfl⟩
  | succ m ih =>
    intro z cn a5 q e1 e2 hc h22
    have b9 := bit9 S hS z (by omega)
    rw [← mm_ofn e1] at b9
    have eL : lb S.testBit (m + 1) z = cond (S.testBit z) (z :: lb S.testBit m (z + 1)) (lb S.testBit m (z + 1)) := rfl
    have step : ∀ x : Int32, ∀ xn : Nat, x.toInt = xn → xn ≤ 1 → ∃ q', x12_order_j88 (x12_order_h59 (f + m + 1)) a1 a2 a3 a4 a5 (q.1 52 22) x q = x12_order_h59 (f + 1) a1 a2 a3 a4 9 q' ∧ (∀ a, a ≠ 52 → q'.1 a = q.1 a) ∧ q'.2 = q.2 ∧ (∀ j, j ≠ 22 → q'.1 52 j = q.1 52 j) ∧ (q'.1 52 22).toInt = ((cn + xn + (lb S.testBit m (z + 1)).length : Nat) : Int) := by
      intro x xn hx hxn
      have e22 : (q.1 52 22 + x).toInt = ((cn + xn : Nat) : Int) := by rw [mm_add_ti (by omega) (by omega)]; omega
      obtain ⟨q1, y1, y2, y3, y4, y5⟩ := ih (z + 1) (cn + xn) (a5 + 1) (mm_si q 52 22 (q.1 52 22 + x)) (mm_inc1 e1 (by omega)) (by omega) (by omega) (by rw [mm_si_self, upd_self]; exact e22)
      refine ⟨q1, ?_, fun a ha => by rw [y2 a ha, mm_si_ne _ _ _ _ ha], y3, fun j hj => by rw [y4 j hj, mm_si_self, upd_ne _ _ _ hj], y5⟩
      unfold x12_order_j88
      rw [mm_lt_s]
      exact y1
    rw [show f + (m + 1) + 1 = (f + m + 1) + 1 by omega, x12_order_h59, if_neg (by rw [le32, ti9]; omega), hs, isIn_eq, mm_cl_s, eL]
    cases hb : S.testBit z with
    | true =>
      rw [cond_true, if_neg (by rw [mm_p0]; exact fun w => w (b9.mpr hb))]
      obtain ⟨q1, y1, y2, y3, y4, y5⟩ := step 1 1 ti1 (Nat.le_refl _)
      exact ⟨q1, y1, y2, y3, y4, by rw [y5, List.length_cons]; omega⟩
    | false =>
      rw [cond_false, if_pos (by rw [mm_p0, b9, hb]; decide)]
      obtain ⟨q1, y1, y2, y3, y4, y5⟩ := step 0 0 ti0 (by omega)
      exact ⟨q1, y1, y2, y3, y4, by rw [y5]; omega⟩
end CO
theorem pr_order (v0 v1 v2 v3 : Int32) : mm_pr (mm_Iv mm_LX) (x11_order v0 v1 v2 v3) (x12_order v0 v1 v2 v3) := by
  intro q h
  obtain ⟨F, hw, hb, ⟨hs0, hs6⟩, e6, hx, hd⟩ := mm_think h
  by_cases c1 : 0 ≤ v1.toInt
  · have n1 : (v1 / 10).toInt = v1.toInt / 10 := by rw [div_ti (by omega) (by decide), ti10]
    have n2 : (mm_rem v1 10).toInt = v1.toInt % 10 := by rw [rem_ti (by omega) (by decide), ti10]
    by_cases g : (0 ≤ v0.toInt ∧ v0.toInt < (q.1 8 1).toInt) ∧ (v1.toInt / 10 < 512 ∧ v1.toInt % 10 ≤ 1) ∧ (0 ≤ v2.toInt ∧ v2.toInt ≤ 99) ∧ -1 ≤ v3.toInt
    · obtain ⟨g1, g2, g3, g4⟩ := g
      have hp := nat_of g1.1
      obtain ⟨S, hS⟩ : ∃ S : Nat, (v1 / 10).toInt = S := ⟨(v1 / 10).toInt.toNat, by omega⟩
      have S512 : S < 512 := by omega
      have eS := mm_ofn hS
      have hrl : mm_rem v1 10 = 0 ∨ mm_rem v1 10 = 1 := by
        rcases (show v1.toInt % 10 = 0 ∨ v1.toInt % 10 = 1 by omega) with w | w
        · exact Or.inl (by rw [eq32, n2, w, ti0])
        · exact Or.inr (by rw [eq32, n2, w, ti1])
      obtain ⟨st, hst⟩ : ∃ st, st = lb S.testBit 9 0 := ⟨_, rfl⟩
      have le9 := lb_le S.testBit 9 0
      rw [← hst] at le9
      have bc : bcv (v1 / 10) = Int32.ofNat st.length := by rw [eS, hst]; exact bc9 S S512
      have ek : (Int32.ofNat st.length).toInt = ((st.length : Nat) : Int) := mm_ofNat_ti (by omega)
      have hX : x11_order v0 v1 v2 v3 q = if Int32.ofNat st.length ≤ 7 then (if v3 < Int32.ofNat st.length then mm_cl (x7_weighOrders v0 (v1 / 10) (mm_rem v1 10) v2 q) (fun u14 q15 => if 0 ≤ v3 then mm_cl (x7_stoneInOrder v3 q15) (fun r17 q18 => some (r17, q18)) else mm_cl (x7_mostOfOrders q15) (fun r19 q20 => some (r19, q20))) else some (-2, q)) else some (-5, q) := by
        unfold x11_order
        rw [isSpitter4_eq, mm_cl_s, if_neg (by rw [mm_p0]; omega), if_neg (by rw [lt32, ti0]; omega), if_neg (by rw [le32, ti512]; omega), if_neg (by rw [lt32, ti1]; omega), if_neg (by rw [lt32, ti0]; omega), if_neg (by rw [lt32, ti99]; omega), if_pos (by rw [le32, tin1]; omega), bc_eq, mm_cl_s, bc]
      -- the reference from the class's end
      have hM : ∀ q1 : mm_Q, fk q q1 → ∃ q2, x12_order v0 v1 v2 v3 q1 = (if q2.1 52 22 ≤ 7 then mm_cl (g_x12_ordersOn 100 0 v0 (v1 / 10) v2 0 (mm_rem v1 10) 0 (mm_si q2 52 23 (-1))) (fun u15 q16 => if 0 ≤ v3 then (if q16.1 52 22 ≤ v3 then some (-2, q16) else mm_ck (mm_inb v3 7) (some (q16.1 63 v3.toNatClampNeg, q16))) else some (q16.1 52 23, q16)) else some (-5, q2)) ∧ fz q1 q2 ∧ rx F (q.1 9) (q.1 8 1) 0 q2 ∧ (q2.1 52 22).toInt = st.length := by
        intro q1 f1
        have f52 : q1.1 52 6 = q.1 8 1 := by rw [f1.1 52 (by decide)]; exact e6
        obtain ⟨q2, y1, y2, y3, y4, y5⟩ := count_h S512 (a1 := v0) (a2 := v1) (a3 := v2) (a4 := v3) eS (f := 990) 9 0 0 0 (mm_si q1 52 22 0) ti0 (by omega) (Nat.le_refl 0) (by rw [mm_si_self, upd_self]; exact ti0)
        rw [← hst, Nat.zero_add] at y5
        have hx1 := hx q1 f1
        have fz2 : fz q1 q2 := by
          refine ⟨fun a ha => ?_, y3, fun j hj => ?_⟩
          · have n52 : a ≠ 52 := fun z => ha (by rw [z]; decide)
            rw [y2 a n52, mm_si_ne _ _ _ _ n52]
          · have n22 : j ≠ 22 := fun z => hj (by rw [z]; decide)
            rw [y4 j n22, mm_si_self, upd_ne _ _ _ n22]
        refine ⟨q2, ?_, fz2, ⟨fun j hj => by rw [fz2.1 53 (by decide)]; exact hx1.1 j hj, by rw [fz2.2.2 6 (by decide)]; exact hx1.2.1, by rw [fz2.2.2 17 (by decide)]; exact hx1.2.2.1, ?_⟩, y5⟩
        · unfold x12_order
          rw [isSpitter12_eq (by rw [f52]; exact hs0), mm_cl_s, mm_i64, f52, if_neg (by rw [mm_p0]; omega), if_neg (by rw [lt32, ti0]; omega), if_neg (by rw [le32, ti512]; omega), if_neg (by rw [lt32, ti1]; omega), within_eq, mm_cl_s, mm_i64, tl0, tl99, if_neg (by rw [mm_p0]; omega), if_pos (by rw [le32, tin1]; omega), mm_lt_s]
          refine Eq.trans (show x12_order_h59 mm_fu v0 v1 v2 v3 0 (mm_si q1 52 22 0) = _ from y1) ?_
          rw [x12_order_h59, if_pos (by decide), mm_lt_s]
        · rw [fz2.1 58 (by decide), fz2.2.2 10 (by decide), y2 60 (by decide), y2 61 (by decide)]
          exact hx1.2.2.2
      by_cases c7 : st.length ≤ 7
      · rw [if_pos (by rw [le32, ek, ti7]; omega)] at hX
        have srt := fun x hx' y hy => (lb_sorted (b := S.testBit) 9 0 x hx').2.2 y hy
        rw [← hst] at srt
        have hst9 : ∀ j, j < st.length → st.getD j 0 < 9 := fun j hj => by
          have := (lb_sorted (b := S.testBit) 9 0 j (by rw [← hst]; exact hj)).2.1
          rw [← hst] at this
          omega
        have hwo : ∀ x t, 0 ≤ (wo F (q.1 9) v0.toInt.toNat v2 x t).toInt ∧ (wo F (q.1 9) v0.toInt.toNat v2 x t).toInt ≤ 129 := fun x t => BP_rng hb F _ 0
        -- what the reference comes to
        have hR : ∀ q1 : mm_Q, fk q q1 → ∃ q3, fz q1 q3 ∧ rx F (q.1 9) (q.1 8 1) 0 q3 ∧ (q3.1 52 22).toInt = st.length ∧ q3.1 52 23 = Mo (mm_rem v1 10) (wo F (q.1 9) v0.toInt.toNat v2) st.length st 0 ∧ (∀ j, j < st.length → q3.1 63 j = Int32.ofNat ((gr (mm_rem v1 10) (wo F (q.1 9) v0.toInt.toNat v2) st.length st 0 0 (Mo (mm_rem v1 10) (wo F (q.1 9) v0.toInt.toNat v2) st.length st 0)).getD j 0)) ∧ x12_order v0 v1 v2 v3 q1 = if 0 ≤ v3 then (if q3.1 52 22 ≤ v3 then some (-2, q3) else mm_ck (mm_inb v3 7) (some (q3.1 63 v3.toNatClampNeg, q3))) else some (q3.1 52 23, q3) := by
          intro q1 f1
          obtain ⟨q2, y1, y2, y3, y4⟩ := hM q1 f1
          rw [if_pos (by rw [le32, y4, ti7]; omega)] at y1
          obtain ⟨q3, z1, z2, ⟨z3, z4, z5, z6⟩, z7⟩ := orders_h (F := F) (ah := v2) (rl := mm_rem v1 10) hb hp (by omega) hrl c7 (d := 99 - st.length) st.length S 0 0 0 (mm_si q2 52 23 (-1)) S512 (by rw [← hst]) (by omega) (by rw [ti0]; omega) (by rw [ti0]; omega) (show rx F (q.1 9) (q.1 8 1) 0 (mm_si q2 52 23 (-1)) from y3) (by rw [mm_si_self, upd_ne _ _ _ (by decide)]; exact y4) (by rw [mm_si_self, upd_self, tin1]; omega)
          rw [show 99 - st.length + st.length + 1 = 100 by omega, ← eS, show Int32.ofNat 0 = 0 from rfl] at z1
          rw [← hst] at z7
          have mr := Mo_rng (rl := mm_rem v1 10) hwo st.length st 0 (by omega)
          have eV : tg (mm_rem v1 10) 0 (Mo (mm_rem v1 10) (wo F (q.1 9) v0.toInt.toNat v2) st.length st 0) = Mo (mm_rem v1 10) (wo F (q.1 9) v0.toInt.toNat v2) st.length st 0 := tg_0l mr.1
          rw [eV, show (mm_si q2 52 23 (-1)).1 52 23 = -1 by rw [mm_si_self, upd_self], tin1] at z7
          have f23 : fz q2 (mm_si q2 52 23 (-1)) := ⟨fun a ha => mm_si_ne _ _ _ _ (fun w => ha (by rw [w]; decide)), rfl, fun j hj => by
            rw [mm_si_self]
            exact upd_ne _ _ _ (fun w => hj (by rw [w]; decide))⟩
          have f3 : fz (mm_si q2 52 23 (-1)) q3 := ⟨fun a ha => z3 a (fun w => ha ((by decide : ∀ k, k ∈ [52, 59, 60, 61, 62, 63] → k ∈ [52, 59, 60, 61, 62, 63, 64]) a w)), z4, fun j hj => z5 j (fun w => hj ((by decide : ∀ k, k ∈ [11, 12, 13, 14, 15, 23] → k ∈ [11, 12, 13, 14, 15, 22, 23, 24, 25, 26, 27, 28]) j w))⟩
          rcases z7 with ⟨w1, -, -⟩ | ⟨-, w2, w3⟩
          · omega
          · refine ⟨q3, fz_trans (fz_trans y2 f23) f3, z2, ?_, w2, fun j hj => ?_, ?_⟩
            · rw [z5 22 (by decide), mm_si_self, upd_ne _ _ _ (by decide)]
              exact y4
            · rw [w3 j hj, if_neg (Nat.not_lt_zero j), Nat.sub_zero]
            · rw [y1, z1, mm_cl_s]
        by_cases ci : v3.toInt < st.length
        · rw [if_pos (by rw [lt32, ek]; omega)] at hX
          have sh := shl7 st.length c7
          -- the class's table
          obtain ⟨q1, a1, a2, a3, a4, a5⟩ := gst_h S512 (f := 990) 9 0 0 [] (mm_si (mm_si q 35 6 (mm_rem v1 10)) 35 5 0) ti0 (by omega) (by rw [List.nil_append, ← hst]; exact c7) (by rw [mm_si_self, upd_self]; exact ti0) (fun j hj => absurd hj (Nat.not_lt_zero j))
          rw [List.nil_append, ← hst] at a3 a5
          have fr1 : fr [12, 13, 14, 35, 36, 37, 38] q q1 := fr_trans (fr_trans (fr_si _ _ _ (by decide)) (fr_si _ _ _ (by decide))) (fr_mono a2 (by decide))
          have oc1 : oc st (mm_rem v1 10) q1 := ⟨a3, by rw [a4, mm_si_self, upd_ne _ _ _ (by decide), mm_si_self, upd_self], a5⟩
          obtain ⟨q2, b1, b2, b3⟩ := ws2_h (F := F) (ah := v2) hb hs6 hp (by omega) c7 hst9 (f := 999 - st.length) st.length 0 0 q1 ti0 (by omega) (cw_fr hw fr1 (by decide) (by decide) (by decide) (by decide)) oc1 (fun i' hi => absurd hi (Nat.not_lt_zero i'))
          rw [show 999 - st.length + st.length + 1 = mm_fu by show _ = 1000; omega] at b1
          have oc2 : oc st (mm_rem v1 10) q2 := oc_fr oc1 b2 (by decide) (by decide)
          have ot2 : ot st (mm_rem v1 10) (wo F (q.1 9) v0.toInt.toNat v2) (mm_si q2 38 0 0) := ⟨oc2, b3⟩
          obtain ⟨T, hT⟩ : ∃ T, 2 ^ st.length = T + 1 := ⟨2 ^ st.length - 1, by omega⟩
          obtain ⟨q3, d1, d2, d3⟩ := h27_h c7 srt (f := 999 - T) T 1 (mm_si q2 38 0 0) (Nat.le_refl 1) (by omega) ot2 (fun l' hl => by
            rw [mm_si_self, show l' = 0 by omega, upd_self]
            unfold Tm
            rw [lb_0]
            rfl)
          rw [show 999 - T + T + 1 = mm_fu by show _ = 1000; omega, show Int32.ofNat 1 = 1 from rfl] at d1
          have ot3 : ot st (mm_rem v1 10) (wo F (q.1 9) v0.toInt.toNat v2) q3 := ⟨oc_fr oc2 (fr_trans (fr_si (S := [38]) q2 0 0 (by decide)) d2) (by decide) (by decide), fun i hi t ht => by
            rw [d2.2 37 (by decide)]
            exact b3 i hi t ht⟩
          have fr3 : fr [12, 13, 14, 35, 36, 37, 38] q q3 := fr_trans (fr_trans (fr_trans fr1 (fr_mono b2 (by decide))) (fr_si _ _ _ (by decide))) (fr_mono d2 (by decide))
          have k3 : fk q q3 := fk_fr fr3 (by decide)
          have wOrd : x7_weighOrders v0 (v1 / 10) (mm_rem v1 10) v2 q = some ((), q3) := by
            unfold x7_weighOrders x7_gatherStones x7_weighStones
            rw [mm_lt_s, mm_lt_s, eS, show x7_gatherStones_h7 mm_fu (Int32.ofNat S) 0 (mm_si (mm_si q 35 6 (mm_rem v1 10)) 35 5 0) = some ((), q1) from a1, mm_cl_s, b1, mm_cl_s, mm_lt_s, d1]
          have full : q3.1 38 (2 ^ st.length - 1) = Mo (mm_rem v1 10) (wo F (q.1 9) v0.toInt.toNat v2) st.length st 0 := by
            rw [d3 _ (by omega)]
            unfold Tm
            rw [lc9_full, lb_full, lb_true_len, Nat.sub_self]
          have ef : ((1 : Int32) <<< (q3.1 35 5 &&& 31) - 1).toInt = ((2 ^ st.length - 1 : Nat) : Int) := by
            rw [mm_ofn ot3.1.1, mm_sub_ti (by rw [ti1]; omega) (by rw [ti1]; omega), ti1]
            omega
          have mo : x7_mostOf ((1 : Int32) <<< (q3.1 35 5 &&& 31) - 1) q3 = some (Mo (mm_rem v1 10) (wo F (q.1 9) v0.toInt.toNat v2) st.length st 0, q3) := by
            rw [most_eq ef (by omega), full]
          rw [wOrd, mm_cl_s] at hX
          obtain ⟨q4, r1, r2, r3, r4, r5, r6⟩ := hR q3 k3
          by_cases c0 : 0 ≤ v3
          · rw [if_pos c0] at hX r6
            rw [le32, ti0] at c0
            have hi := nat_of c0
            obtain ⟨n, hn⟩ : ∃ n, st.length = n + 1 := ⟨st.length - 1, by omega⟩
            have mr := Mo_rng (rl := mm_rem v1 10) hwo st.length st 0 (by omega)
            have key := stone_h (rl := mm_rem v1 10) hwo c7 srt hst9 ot3 d3 hi (show v3.toInt.toNat < st.length by omega) (G := Mo (mm_rem v1 10) (wo F (q.1 9) v0.toInt.toNat v2) st.length st 0) (f := 998 - n) n (2 ^ st.length - 1) 0 0 0 (by omega) (by rw [lb_full, lb_true_len]; exact hn) (by omega) (Nat.zero_le _) (by rw [ti0]; omega) (by rw [ti0]; omega) (by rw [lc9_full, ← hn]; exact tg_0l mr.1)
            rw [show 998 - n + n + 2 = mm_fu by show _ = 1000; omega, lc9_full, ← hn, Nat.sub_zero, show Int32.ofNat 0 = 0 from rfl, ← mm_ofn ef] at key
            refine ⟨Int32.ofNat ((gr (mm_rem v1 10) (wo F (q.1 9) v0.toInt.toNat v2) st.length st 0 0 (Mo (mm_rem v1 10) (wo F (q.1 9) v0.toInt.toNat v2) st.length st 0)).getD v3.toInt.toNat 0), q3, q4, ?_, by rw [k3.1 0 (by decide)], ?_, hd q3 q4 k3 r1 r2⟩
            · rw [hX]
              unfold x7_stoneInOrder
              rw [mo, mm_cl_s, key, mm_cl_s]
            · rw [r6, if_neg (by rw [le32, r3]; omega), mm_ck_t (mm_inb_c hi (by omega)), mm_tcn hi, r5 _ (by omega)]
          · rw [if_neg c0] at hX r6
            refine ⟨Mo (mm_rem v1 10) (wo F (q.1 9) v0.toInt.toNat v2) st.length st 0, q3, q4, ?_, by rw [k3.1 0 (by decide)], ?_, hd q3 q4 k3 r1 r2⟩
            · rw [hX]
              unfold x7_mostOfOrders
              rw [mo, mm_cl_s, mm_cl_s]
            · rw [r6, r4]
        · rw [if_neg (by rw [lt32, ek]; omega)] at hX
          obtain ⟨q4, r1, r2, r3, r4, r5, r6⟩ := hR q (fk_rfl q)
          rw [if_pos (by rw [le32, ti0]; omega), if_pos (by rw [le32, r3]; omega)] at r6
          exact ⟨-2, q, q4, hX, rfl, r6, hd q q4 (fk_rfl q) r1 r2⟩
      · rw [if_neg (by rw [le32, ek, ti7]; omega)] at hX
        obtain ⟨q2, y1, y2, y3, y4⟩ := hM q (fk_rfl q)
        rw [if_neg (by rw [le32, y4, ti7]; omega)] at y1
        exact ⟨-5, q, q2, hX, rfl, y1, hd q q2 (fk_rfl q) y2 y3⟩
    · refine ⟨-1, q, q, ?_, rfl, ?_, h⟩
      · unfold x11_order
        simp only [isSpitter4_eq, mm_cl_s, mm_p0, lt32, le32, ti0, ti1, ti99, ti512, tin1, n1, n2]
        repeat' split
        all_goals first | rfl | (exfalso; omega)
      · unfold x12_order
        simp only [isSpitter12_eq (show 0 ≤ (q.1 52 6).toInt by rw [e6]; exact hs0), within_eq, mm_cl_s, mm_p0, mm_i64, e6, tl0, tl99, lt32, le32, ti0, ti1, ti512, tin1, n1, n2]
        repeat' split
        all_goals first | rfl | (exfalso; omega)
  · have c1' : v1 < 0 := by rw [lt32, ti0]; omega
    refine ⟨-1, q, q, ?_, rfl, ?_, h⟩
    · unfold x11_order
      simp only [isSpitter4_eq, mm_cl_s, if_pos c1']
      repeat' split
      all_goals rfl
    · unfold x12_order
      simp only [isSpitter12_eq (show 0 ≤ (q.1 52 6).toInt by rw [e6]; exact hs0), mm_cl_s, if_pos c1']
      repeat' split
      all_goals rfl
