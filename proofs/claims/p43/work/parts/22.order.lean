/-! orders: what the class answers -/
section CLO
variable {F : mm_F} {c : Nat → Int32} {sp : Int32} {q : mm_Q}
theorem cl_order_no {v0 v1 v2 v3 : Int32} (c1 : 0 ≤ v1.toInt) (g : ¬ ((0 ≤ v0.toInt ∧ v0.toInt < (q.1 8 1).toInt) ∧ (v1.toInt / 10 < 512 ∧ v1.toInt % 10 ≤ 1) ∧ (0 ≤ v2.toInt ∧ v2.toInt ≤ 99) ∧ -1 ≤ v3.toInt)) : x11_order v0 v1 v2 v3 q = some (-1, q) := by
  have n1 : (v1 / 10).toInt = v1.toInt / 10 := by rw [div_ti (by omega) (by decide), ti10]
  have n2 : (mm_rem v1 10).toInt = v1.toInt % 10 := by rw [rem_ti (by omega) (by decide), ti10]
  unfold x11_order
  simp only [isSpitter4_eq, mm_cl_s, mm_p0, lt32, le32, ti0, ti1, ti99, ti512, tin1, n1, n2]
  repeat' split
  all_goals first | rfl | (exfalso; omega)
theorem cl_order_h {v0 v1 v2 v3 : Int32} {S : Nat} (hw : cw F c sp q) (g1 : 0 ≤ v0.toInt ∧ v0.toInt < sp.toInt) (c1 : 0 ≤ v1.toInt) (hS : v1.toInt / 10 = S) (S512 : S < 512) (hr : v1.toInt % 10 ≤ 1) (g3 : 0 ≤ v2.toInt ∧ v2.toInt ≤ 99) (g4 : -1 ≤ v3.toInt) : x11_order v0 v1 v2 v3 q = if Int32.ofNat (lb S.testBit 9 0).length ≤ 7 then (if v3 < Int32.ofNat (lb S.testBit 9 0).length then mm_cl (x7_weighOrders v0 (v1 / 10) (mm_rem v1 10) v2 q) (fun u14 q15 => if 0 ≤ v3 then mm_cl (x7_stoneInOrder v3 q15) (fun r17 q18 => some (r17, q18)) else mm_cl (x7_mostOfOrders q15) (fun r19 q20 => some (r19, q20))) else some (-2, q)) else some (-5, q) := by
  have n1 : (v1 / 10).toInt = v1.toInt / 10 := by rw [div_ti (by omega) (by decide), ti10]
  have n2 : (mm_rem v1 10).toInt = v1.toInt % 10 := by rw [rem_ti (by omega) (by decide), ti10]
  have eS : v1 / 10 = Int32.ofNat S := mm_ofn (by omega)
  have bc : bcv (v1 / 10) = Int32.ofNat (lb S.testBit 9 0).length := by rw [eS]; exact bc9 S S512
  unfold x11_order
  rw [isSpitter4_eq, mm_cl_s, hw.2.1, if_neg (by rw [mm_p0]; omega), if_neg (by rw [lt32, ti0]; omega), if_neg (by rw [le32, ti512]; omega), if_neg (by rw [lt32, ti1]; omega), if_neg (by rw [lt32, ti0]; omega), if_neg (by rw [lt32, ti99]; omega), if_pos (by rw [le32, tin1]; omega), bc_eq, mm_cl_s, bc]
/-- of at most seven stones: the most, the stone in its place, or no place -/
theorem cl_order {v0 v1 v2 v3 : Int32} {S : Nat} {st : List Nat} (hw : cw F c sp q) (hb : bd sp c) (hs6 : sp.toInt ≤ 6) (g1 : 0 ≤ v0.toInt ∧ v0.toInt < sp.toInt) (c1 : 0 ≤ v1.toInt) (hS : v1.toInt / 10 = S) (S512 : S < 512) (hr : v1.toInt % 10 ≤ 1) (g3 : 0 ≤ v2.toInt ∧ v2.toInt ≤ 99) (g4 : -1 ≤ v3.toInt) (hst : st = lb S.testBit 9 0) (c7 : st.length ≤ 7) : ∃ q2, x11_order v0 v1 v2 v3 q = some (if v3.toInt < st.length then (if 0 ≤ v3 then Int32.ofNat ((gr (mm_rem v1 10) (wo F c v0.toInt.toNat v2) st.length st 0 0 (Mo (mm_rem v1 10) (wo F c v0.toInt.toNat v2) st.length st 0)).getD v3.toInt.toNat 0) else Mo (mm_rem v1 10) (wo F c v0.toInt.toNat v2) st.length st 0) else -2, q2) ∧ fk q q2 := by
  have hX := cl_order_h hw g1 c1 hS S512 hr g3 g4
  rw [← hst] at hX
  have hp := nat_of g1.1
  have n1 : (v1 / 10).toInt = v1.toInt / 10 := by rw [div_ti (by omega) (by decide), ti10]
  have n2 : (mm_rem v1 10).toInt = v1.toInt % 10 := by rw [rem_ti (by omega) (by decide), ti10]
  have eS : v1 / 10 = Int32.ofNat S := mm_ofn (by omega)
  have hrl : mm_rem v1 10 = 0 ∨ mm_rem v1 10 = 1 := by
    rcases (show v1.toInt % 10 = 0 ∨ v1.toInt % 10 = 1 by omega) with w | w
    · exact Or.inl (by rw [eq32, n2, w, ti0])
    · exact Or.inr (by rw [eq32, n2, w, ti1])
  have ek : (Int32.ofNat st.length).toInt = ((st.length : Nat) : Int) := mm_ofNat_ti (by omega)
  rw [if_pos (by rw [le32, ek, ti7]; omega)] at hX
  have srt := fun x hx' y hy => (lb_sorted (b := S.testBit) 9 0 x hx').2.2 y hy
  rw [← hst] at srt
  have hst9 : ∀ j, j < st.length → st.getD j 0 < 9 := fun j hj => by
    have := (lb_sorted (b := S.testBit) 9 0 j (by rw [← hst]; exact hj)).2.1
    rw [← hst] at this
    omega
  have hwo : ∀ x t, 0 ≤ (wo F c v0.toInt.toNat v2 x t).toInt ∧ (wo F c v0.toInt.toNat v2 x t).toInt ≤ 129 := fun x t => BP_rng hb F _ 0
  by_cases ci : v3.toInt < st.length
  · rw [if_pos (by rw [lt32, ek]; omega)] at hX
    rw [if_pos ci]
    have sh := shl7 st.length c7
    obtain ⟨q1, a1, a2, a3, a4, a5⟩ := gst_h S512 (f := 990) 9 0 0 [] (mm_si (mm_si q 35 6 (mm_rem v1 10)) 35 5 0) ti0 (by omega) (by rw [List.nil_append, ← hst]; exact c7) (by rw [mm_si_self, upd_self]; exact ti0) (fun j hj => absurd hj (Nat.not_lt_zero j))
    rw [List.nil_append, ← hst] at a3 a5
    have fr1 : fr [12, 13, 14, 35, 36, 37, 38] q q1 := fr_trans (fr_trans (fr_si _ _ _ (by decide)) (fr_si _ _ _ (by decide))) (fr_mono a2 (by decide))
    have oc1 : oc st (mm_rem v1 10) q1 := ⟨a3, by rw [a4, mm_si_self, upd_ne _ _ _ (by decide), mm_si_self, upd_self], a5⟩
    obtain ⟨q2, b1, b2, b3⟩ := ws2_h (F := F) (ah := v2) hb hs6 hp (by omega) c7 hst9 (f := 999 - st.length) st.length 0 0 q1 ti0 (by omega) (cw_fr hw fr1 (by decide) (by decide) (by decide) (by decide)) oc1 (fun i' hi => absurd hi (Nat.not_lt_zero i'))
    rw [show 999 - st.length + st.length + 1 = mm_fu by show _ = 1000; omega] at b1
    have oc2 : oc st (mm_rem v1 10) q2 := oc_fr oc1 b2 (by decide) (by decide)
    have ot2 : ot st (mm_rem v1 10) (wo F c v0.toInt.toNat v2) (mm_si q2 38 0 0) := ⟨oc2, b3⟩
    obtain ⟨T, hT⟩ : ∃ T, 2 ^ st.length = T + 1 := ⟨2 ^ st.length - 1, by omega⟩
    obtain ⟨q3, d1, d2, d3⟩ := h27_h c7 srt (f := 999 - T) T 1 (mm_si q2 38 0 0) (Nat.le_refl 1) (by omega) ot2 (fun l' hl => by
      rw [mm_si_self, show l' = 0 by omega, upd_self]
      unfold Tm
      rw [lb_0]
      rfl)
    rw [show 999 - T + T + 1 = mm_fu by show _ = 1000; omega, show Int32.ofNat 1 = 1 from rfl] at d1
    have ot3 : ot st (mm_rem v1 10) (wo F c v0.toInt.toNat v2) q3 := ⟨oc_fr oc2 (fr_trans (fr_si (S := [38]) q2 0 0 (by decide)) d2) (by decide) (by decide), fun i hi t ht => by
      rw [d2.2 37 (by decide)]
      exact b3 i hi t ht⟩
    have fr3 : fr [12, 13, 14, 35, 36, 37, 38] q q3 := fr_trans (fr_trans (fr_trans fr1 (fr_mono b2 (by decide))) (fr_si _ _ _ (by decide))) (fr_mono d2 (by decide))
    have k3 : fk q q3 := fk_fr fr3 (by decide)
    have wOrd : x7_weighOrders v0 (v1 / 10) (mm_rem v1 10) v2 q = some ((), q3) := by
      unfold x7_weighOrders x7_gatherStones x7_weighStones
      rw [mm_lt_s, mm_lt_s, eS, show x7_gatherStones_h7 mm_fu (Int32.ofNat S) 0 (mm_si (mm_si q 35 6 (mm_rem v1 10)) 35 5 0) = some ((), q1) from a1, mm_cl_s, b1, mm_cl_s, mm_lt_s, d1]
    have full : q3.1 38 (2 ^ st.length - 1) = Mo (mm_rem v1 10) (wo F c v0.toInt.toNat v2) st.length st 0 := by
      rw [d3 _ (by omega)]
      unfold Tm
      rw [lc9_full, lb_full, lb_true_len, Nat.sub_self]
    have ef : ((1 : Int32) <<< (q3.1 35 5 &&& 31) - 1).toInt = ((2 ^ st.length - 1 : Nat) : Int) := by
      rw [mm_ofn ot3.1.1, mm_sub_ti (by rw [ti1]; omega) (by rw [ti1]; omega), ti1]
      omega
    have mo : x7_mostOf ((1 : Int32) <<< (q3.1 35 5 &&& 31) - 1) q3 = some (Mo (mm_rem v1 10) (wo F c v0.toInt.toNat v2) st.length st 0, q3) := by
      rw [most_eq ef (by omega), full]
    rw [wOrd, mm_cl_s] at hX
    refine ⟨q3, ?_, k3⟩
    by_cases c0 : 0 ≤ v3
    · rw [if_pos c0] at hX
      rw [if_pos c0]
      rw [le32, ti0] at c0
      have hi := nat_of c0
      obtain ⟨n, hn⟩ : ∃ n, st.length = n + 1 := ⟨st.length - 1, by omega⟩
      have mr := Mo_rng (rl := mm_rem v1 10) hwo st.length st 0 (by omega)
      have key := stone_h (rl := mm_rem v1 10) hwo c7 srt hst9 ot3 d3 hi (show v3.toInt.toNat < st.length by omega) (G := Mo (mm_rem v1 10) (wo F c v0.toInt.toNat v2) st.length st 0) (f := 998 - n) n (2 ^ st.length - 1) 0 0 0 (by omega) (by rw [lb_full, lb_true_len]; exact hn) (by omega) (Nat.zero_le _) (by rw [ti0]; omega) (by rw [ti0]; omega) (by rw [lc9_full, ← hn]; exact tg_0l mr.1)
      rw [show 998 - n + n + 2 = mm_fu by show _ = 1000; omega, lc9_full, ← hn, Nat.sub_zero, show Int32.ofNat 0 = 0 from rfl, ← mm_ofn ef] at key
      rw [hX]
      unfold x7_stoneInOrder
      rw [mo, mm_cl_s, key, mm_cl_s]
    · rw [if_neg c0] at hX
      rw [if_neg c0, hX]
      unfold x7_mostOfOrders
      rw [mo, mm_cl_s, mm_cl_s]
  · rw [if_neg (by rw [lt32, ek]; omega)] at hX
    rw [if_neg ci]
    exact ⟨q, hX, fk_rfl q⟩
theorem cl_order_5 {v0 v1 v2 v3 : Int32} {S : Nat} (hw : cw F c sp q) (g1 : 0 ≤ v0.toInt ∧ v0.toInt < sp.toInt) (c1 : 0 ≤ v1.toInt) (hS : v1.toInt / 10 = S) (S512 : S < 512) (hr : v1.toInt % 10 ≤ 1) (g3 : 0 ≤ v2.toInt ∧ v2.toInt ≤ 99) (g4 : -1 ≤ v3.toInt) (c7 : ¬ (lb S.testBit 9 0).length ≤ 7) : x11_order v0 v1 v2 v3 q = some (-5, q) := by
  have le9 := lb_le S.testBit 9 0
  have ek : (Int32.ofNat (lb S.testBit 9 0).length).toInt = (((lb S.testBit 9 0).length : Nat) : Int) := mm_ofNat_ti (by omega)
  rw [cl_order_h hw g1 c1 hS S512 hr g3 g4, if_neg (by rw [le32, ek, ti7]; omega)]
end CLO
