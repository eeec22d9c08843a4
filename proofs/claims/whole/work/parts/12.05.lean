def x11_order (a1 : Int32) (a2 : Int32) (a3 : Int32) (a4 : Int32) (q : mm_Q) : Option (Int32 × mm_Q) := (mm_cl (x4_isSpitter a1 q) (fun r1 q2 => (if r1 = 0 then (some ((-1 : Int32), q2)) else (if a2 < 0 then (some ((-1 : Int32), q2)) else (if (512 : Int32) ≤ (a2 / (10 : Int32)) then (some ((-1 : Int32), q2)) else (if (1 : Int32) < (mm_rem a2 (10 : Int32)) then (some ((-1 : Int32), q2)) else (if a3 < 0 then (some ((-1 : Int32), q2)) else (if (99 : Int32) < a3 then (some ((-1 : Int32), q2)) else (if (-1 : Int32) ≤ a4 then (mm_cl (j_bitCount_0f7a4 (a2 / (10 : Int32)) q2) (fun r10 q11 => (if r10 ≤ (7 : Int32) then (if a4 < r10 then (mm_cl (x7_weighOrders a1 (a2 / (10 : Int32)) (mm_rem a2 (10 : Int32)) a3 q11) (fun u14 q15 => (if 0 ≤ a4 then (mm_cl (x7_stoneInOrder a4 q15) (fun r17 q18 => (some (r17, q18)))) else (mm_cl (x7_mostOfOrders q15) (fun r19 q20 => (some (r19, q20))))))) else (some ((-2 : Int32), q11))) else (some ((-5 : Int32), q11))))) else (some ((-1 : Int32), q2)))))))))))
set_option maxRecDepth 20000 in
theorem x11_order_ok {L : Nat} {a1 : Int32} {a2 : Int32} {a3 : Int32} {a4 : Int32} {q : mm_Q} {r : Int32} {q1 : mm_Q} (h : x11_order a1 a2 a3 a4 q = some (r, q1)) : mm_Runs 7 147 [.ref 7, .int a1, .int a2, .int a3, .int a4] (mm_wq L q) (mm_cvi r) (mm_wq L q1) := by
  refine mm_runs_of (d := 6) (L := L) rfl (by decide +kernel) rfl rfl (?_ : mm_ok mm_cvi (mm_Runs 6) 11 false cX11_order (some .int) L 0 [some (.ref 7), some (.int a1), some (.int a2), some (.int a3), some (.int a4), none, none] [] q (x11_order a1 a2 a3 a4 q)) h
  unfold x11_order
  refine mm_ok_bl (l := [(.aload 0, 1), (.getfield 704, 3), (.iload 1, 1)]) (pc' := 5) (lo' := [some (.ref 7), some (.int a1), some (.int a2), some (.int a3), some (.int a4), none, none]) (st' := [.int a1, .ref 8]) (q' := q) (P := (True) ∧ ((True) ∧ ((True) ∧ (True)))) (by decide +kernel) rfl rfl (And.intro trivial (And.intro trivial (And.intro trivial trivial))) ?_
  refine mm_ok_call (cz := mm_cvi) (j := .invokevirtual 817) (y := 51) (as := [.ref 8, .int a1]) (t := []) (by decide +kernel) rfl (fun _ _ h => mm_up (k := 1) (by decide) (x4_isSpitter_ok h)) (fun r1 q2 => ?_)
  refine mm_ok_ifCond_eq (pt := 49) (d := 41) (by decide +kernel) (by decide) (fun k3 => ?_) (fun k3 => ?_)
  · refine mm_ok_bl (l := [(.iconst (-1), 1)]) (pc' := 50) (lo' := [some (.ref 7), some (.int a1), some (.int a2), some (.int a3), some (.int a4), none, none]) (st' := [.int (-1 : Int32)]) (q' := q2) (P := (True) ∧ (True)) (by decide +kernel) rfl rfl (And.intro trivial trivial) ?_
    exact mm_ok_iret (by decide +kernel)
  · refine mm_ok_bl (l := [(.iload 2, 1)]) (pc' := 12) (lo' := [some (.ref 7), some (.int a1), some (.int a2), some (.int a3), some (.int a4), none, none]) (st' := [.int a2]) (q' := q2) (P := (True) ∧ (True)) (by decide +kernel) rfl rfl (And.intro trivial trivial) ?_
    refine mm_ok_ifCond_lt (pt := 49) (d := 37) (by decide +kernel) (by decide) (fun k4 => ?_) (fun k4 => ?_)
    · refine mm_ok_bl (l := [(.iconst (-1), 1)]) (pc' := 50) (lo' := [some (.ref 7), some (.int a1), some (.int a2), some (.int a3), some (.int a4), none, none]) (st' := [.int (-1 : Int32)]) (q' := q2) (P := (True) ∧ (True)) (by decide +kernel) rfl rfl (And.intro trivial trivial) ?_
      exact mm_ok_iret (by decide +kernel)
    · refine mm_ok_bl (l := [(.iload 2, 1), (.iconst (10), 2), (.idiv, 1), (.iconst (512), 3)]) (pc' := 22) (lo' := [some (.ref 7), some (.int a1), some (.int a2), some (.int a3), some (.int a4), none, none]) (st' := [.int (512 : Int32), .int (a2 / (10 : Int32))]) (q' := q2) (P := (True) ∧ ((True) ∧ ((¬ ((10 : Int32) = 0)) ∧ ((True) ∧ (True))))) (by decide +kernel) rfl rfl (And.intro trivial (And.intro trivial (And.intro (by decide) (And.intro trivial trivial)))) ?_
      refine mm_ok_if_icmp_ge (pt := 49) (d := 27) (by decide +kernel) (by decide) (fun k5 => ?_) (fun k5 => ?_)
      · refine mm_ok_bl (l := [(.iconst (-1), 1)]) (pc' := 50) (lo' := [some (.ref 7), some (.int a1), some (.int a2), some (.int a3), some (.int a4), none, none]) (st' := [.int (-1 : Int32)]) (q' := q2) (P := (True) ∧ (True)) (by decide +kernel) rfl rfl (And.intro trivial trivial) ?_
        exact mm_ok_iret (by decide +kernel)
      · refine mm_ok_bl (l := [(.iload 2, 1), (.iconst (10), 2), (.irem, 1), (.iconst (1), 1)]) (pc' := 30) (lo' := [some (.ref 7), some (.int a1), some (.int a2), some (.int a3), some (.int a4), none, none]) (st' := [.int (1 : Int32), .int (mm_rem a2 (10 : Int32))]) (q' := q2) (P := (True) ∧ ((True) ∧ ((¬ ((10 : Int32) = 0)) ∧ ((True) ∧ (True))))) (by decide +kernel) rfl rfl (And.intro trivial (And.intro trivial (And.intro (by decide) (And.intro trivial trivial)))) ?_
        refine mm_ok_if_icmp_gt (pt := 49) (d := 19) (by decide +kernel) (by decide) (fun k6 => ?_) (fun k6 => ?_)
        · refine mm_ok_bl (l := [(.iconst (-1), 1)]) (pc' := 50) (lo' := [some (.ref 7), some (.int a1), some (.int a2), some (.int a3), some (.int a4), none, none]) (st' := [.int (-1 : Int32)]) (q' := q2) (P := (True) ∧ (True)) (by decide +kernel) rfl rfl (And.intro trivial trivial) ?_
          exact mm_ok_iret (by decide +kernel)
        · refine mm_ok_bl (l := [(.iload 3, 1)]) (pc' := 34) (lo' := [some (.ref 7), some (.int a1), some (.int a2), some (.int a3), some (.int a4), none, none]) (st' := [.int a3]) (q' := q2) (P := (True) ∧ (True)) (by decide +kernel) rfl rfl (And.intro trivial trivial) ?_
          refine mm_ok_ifCond_lt (pt := 49) (d := 15) (by decide +kernel) (by decide) (fun k7 => ?_) (fun k7 => ?_)
          · refine mm_ok_bl (l := [(.iconst (-1), 1)]) (pc' := 50) (lo' := [some (.ref 7), some (.int a1), some (.int a2), some (.int a3), some (.int a4), none, none]) (st' := [.int (-1 : Int32)]) (q' := q2) (P := (True) ∧ (True)) (by decide +kernel) rfl rfl (And.intro trivial trivial) ?_
            exact mm_ok_iret (by decide +kernel)
          · refine mm_ok_bl (l := [(.iload 3, 1), (.iconst (99), 2)]) (pc' := 40) (lo' := [some (.ref 7), some (.int a1), some (.int a2), some (.int a3), some (.int a4), none, none]) (st' := [.int (99 : Int32), .int a3]) (q' := q2) (P := (True) ∧ ((True) ∧ (True))) (by decide +kernel) rfl rfl (And.intro trivial (And.intro trivial trivial)) ?_
            refine mm_ok_if_icmp_gt (pt := 49) (d := 9) (by decide +kernel) (by decide) (fun k8 => ?_) (fun k8 => ?_)
            · refine mm_ok_bl (l := [(.iconst (-1), 1)]) (pc' := 50) (lo' := [some (.ref 7), some (.int a1), some (.int a2), some (.int a3), some (.int a4), none, none]) (st' := [.int (-1 : Int32)]) (q' := q2) (P := (True) ∧ (True)) (by decide +kernel) rfl rfl (And.intro trivial trivial) ?_
              exact mm_ok_iret (by decide +kernel)
            · refine mm_ok_bl (l := [(.iload 4, 2), (.iconst (-1), 1)]) (pc' := 46) (lo' := [some (.ref 7), some (.int a1), some (.int a2), some (.int a3), some (.int a4), none, none]) (st' := [.int (-1 : Int32), .int a4]) (q' := q2) (P := (True) ∧ ((True) ∧ (True))) (by decide +kernel) rfl rfl (And.intro trivial (And.intro trivial trivial)) ?_
              refine mm_ok_if_icmp_ge (pt := 51) (d := 5) (by decide +kernel) (by decide) (fun k9 => ?_) (fun k9 => ?_)
              · refine mm_ok_bl (l := [(.iload 2, 1), (.iconst (10), 2), (.idiv, 1), (.istore 5, 2), (.iload 5, 2)]) (pc' := 59) (lo' := [some (.ref 7), some (.int a1), some (.int a2), some (.int a3), some (.int a4), some (.int (a2 / (10 : Int32))), none]) (st' := [.int (a2 / (10 : Int32))]) (q' := q2) (P := (True) ∧ ((True) ∧ ((¬ ((10 : Int32) = 0)) ∧ ((True) ∧ ((True) ∧ (True)))))) (by decide +kernel) rfl rfl (And.intro trivial (And.intro trivial (And.intro (by decide) (And.intro trivial (And.intro trivial trivial))))) ?_
                refine mm_ok_call (cz := mm_cvi) (j := .invokestatic 4609) (y := 288) (as := [.int (a2 / (10 : Int32))]) (t := []) (by decide +kernel) rfl (fun _ _ h => mm_up (k := 1) (by decide) (j_bitCount_0f7a4_ok h)) (fun r10 q11 => ?_)
                refine mm_ok_bl (l := [(.istore 6, 2), (.iload 6, 2), (.iconst (7), 2)]) (pc' := 68) (lo' := [some (.ref 7), some (.int a1), some (.int a2), some (.int a3), some (.int a4), some (.int (a2 / (10 : Int32))), some (.int r10)]) (st' := [.int (7 : Int32), .int r10]) (q' := q11) (P := (True) ∧ ((True) ∧ ((True) ∧ (True)))) (by decide +kernel) rfl rfl (And.intro trivial (And.intro trivial (And.intro trivial trivial))) ?_
                refine mm_ok_if_icmp_le (pt := 74) (d := 6) (by decide +kernel) (by decide) (fun k12 => ?_) (fun k12 => ?_)
                · refine mm_ok_bl (l := [(.iload 4, 2), (.iload 6, 2)]) (pc' := 78) (lo' := [some (.ref 7), some (.int a1), some (.int a2), some (.int a3), some (.int a4), some (.int (a2 / (10 : Int32))), some (.int r10)]) (st' := [.int r10, .int a4]) (q' := q11) (P := (True) ∧ ((True) ∧ (True))) (by decide +kernel) rfl rfl (And.intro trivial (And.intro trivial trivial)) ?_
                  refine mm_ok_if_icmp_lt (pt := 84) (d := 6) (by decide +kernel) (by decide) (fun k13 => ?_) (fun k13 => ?_)
                  · refine mm_ok_bl (l := [(.aload 0, 1), (.getfield 709, 3), (.iload 1, 1), (.iload 5, 2), (.iload 2, 1), (.iconst (10), 2), (.irem, 1), (.iload 3, 1)]) (pc' := 96) (lo' := [some (.ref 7), some (.int a1), some (.int a2), some (.int a3), some (.int a4), some (.int (a2 / (10 : Int32))), some (.int r10)]) (st' := [.int a3, .int (mm_rem a2 (10 : Int32)), .int (a2 / (10 : Int32)), .int a1, .ref 35]) (q' := q11) (P := (True) ∧ ((True) ∧ ((True) ∧ ((True) ∧ ((True) ∧ ((True) ∧ ((¬ ((10 : Int32) = 0)) ∧ ((True) ∧ (True))))))))) (by decide +kernel) rfl rfl (And.intro trivial (And.intro trivial (And.intro trivial (And.intro trivial (And.intro trivial (And.intro trivial (And.intro (by decide) (And.intro trivial trivial)))))))) ?_
                    refine mm_ok_call (cz := mm_cvu) (j := .invokevirtual 1252) (y := 78) (as := [.ref 35, .int a1, .int (a2 / (10 : Int32)), .int (mm_rem a2 (10 : Int32)), .int a3]) (t := []) (by decide +kernel) rfl (fun _ _ h => mm_up (k := 6) (by decide) (x7_weighOrders_ok h)) (fun u14 q15 => ?_)
                    refine mm_ok_bl (l := [(.iload 4, 2)]) (pc' := 101) (lo' := [some (.ref 7), some (.int a1), some (.int a2), some (.int a3), some (.int a4), some (.int (a2 / (10 : Int32))), some (.int r10)]) (st' := [.int a4]) (q' := q15) (P := (True) ∧ (True)) (by decide +kernel) rfl rfl (And.intro trivial trivial) ?_
                    refine mm_ok_ifCond_ge (pt := 114) (d := 13) (by decide +kernel) (by decide) (fun k16 => ?_) (fun k16 => ?_)
                    · refine mm_ok_bl (l := [(.aload 0, 1), (.getfield 709, 3), (.iload 4, 2)]) (pc' := 120) (lo' := [some (.ref 7), some (.int a1), some (.int a2), some (.int a3), some (.int a4), some (.int (a2 / (10 : Int32))), some (.int r10)]) (st' := [.int a4, .ref 35]) (q' := q15) (P := (True) ∧ ((True) ∧ ((True) ∧ (True)))) (by decide +kernel) rfl rfl (And.intro trivial (And.intro trivial (And.intro trivial trivial))) ?_
                      refine mm_ok_call (cz := mm_cvi) (j := .invokevirtual 1281) (y := 80) (as := [.ref 35, .int a4]) (t := []) (by decide +kernel) rfl (fun _ _ h => mm_up (k := 3) (by decide) (x7_stoneInOrder_ok h)) (fun r17 q18 => ?_)
                      exact mm_ok_iret (by decide +kernel)
                    · refine mm_ok_bl (l := [(.aload 0, 1), (.getfield 709, 3)]) (pc' := 108) (lo' := [some (.ref 7), some (.int a1), some (.int a2), some (.int a3), some (.int a4), some (.int (a2 / (10 : Int32))), some (.int r10)]) (st' := [.ref 35]) (q' := q15) (P := (True) ∧ ((True) ∧ (True))) (by decide +kernel) rfl rfl (And.intro trivial (And.intro trivial trivial)) ?_
                      refine mm_ok_call (cz := mm_cvi) (j := .invokevirtual 1264) (y := 79) (as := [.ref 35]) (t := []) (by decide +kernel) rfl (fun _ _ h => mm_up (k := 2) (by decide) (x7_mostOfOrders_ok h)) (fun r19 q20 => ?_)
                      refine mm_ok_goto (pt := 123) (d := 12) (by decide +kernel) (by decide) ?_
                      exact mm_ok_iret (by decide +kernel)
                  · refine mm_ok_bl (l := [(.iconst (-2), 2)]) (pc' := 83) (lo' := [some (.ref 7), some (.int a1), some (.int a2), some (.int a3), some (.int a4), some (.int (a2 / (10 : Int32))), some (.int r10)]) (st' := [.int (-2 : Int32)]) (q' := q11) (P := (True) ∧ (True)) (by decide +kernel) rfl rfl (And.intro trivial trivial) ?_
                    exact mm_ok_iret (by decide +kernel)
                · refine mm_ok_bl (l := [(.iconst (-5), 2)]) (pc' := 73) (lo' := [some (.ref 7), some (.int a1), some (.int a2), some (.int a3), some (.int a4), some (.int (a2 / (10 : Int32))), some (.int r10)]) (st' := [.int (-5 : Int32)]) (q' := q11) (P := (True) ∧ (True)) (by decide +kernel) rfl rfl (And.intro trivial trivial) ?_
                  exact mm_ok_iret (by decide +kernel)
              · refine mm_ok_bl (l := [(.iconst (-1), 1)]) (pc' := 50) (lo' := [some (.ref 7), some (.int a1), some (.int a2), some (.int a3), some (.int a4), none, none]) (st' := [.int (-1 : Int32)]) (q' := q2) (P := (True) ∧ (True)) (by decide +kernel) rfl rfl (And.intro trivial trivial) ?_
                exact mm_ok_iret (by decide +kernel)
def x11_greatestDivisor_h9 : Nat → Int64 → Int64 → Int32 → mm_Q → Option (Int64 × mm_Q)
  | 0, _, _, _, _ => none
  | n + 1, b4, b6, a8, q => (if (100 : Int32) ≤ a8 then (some (b4, q)) else (if (lg_cmp b6 (0 : Int64)) = 0 then (some (b4, q)) else (mm_ck (mm_nzl b6) (x11_greatestDivisor_h9 n b6 (mm_reml b4 b6) (a8 + (1 : Int32)) q))))
set_option maxRecDepth 20000 in
theorem x11_greatestDivisor_h9_ok {L : Nat} : ∀ (n : Nat) (b4 : Int64) (b6 : Int64) (a8 : Int32) (q : mm_Q), mm_ok mm_cvl (mm_Runs 0) 11 false cX11_greatestDivisor (some .long) L 9 [none, none, none, none, some (.long b4), none, some (.long b6), none, some (.int a8), none, none] [] q (x11_greatestDivisor_h9 n b4 b6 a8 q)
  | 0, _, _, _, _ => by
    exact mm_ok_none
  | n + 1, b4, b6, a8, q => by
    unfold x11_greatestDivisor_h9
    refine mm_ok_bl (l := [(.iload 8, 2), (.iconst (100), 2)]) (pc' := 13) (lo' := [none, none, none, none, some (.long b4), none, some (.long b6), none, some (.int a8), none, none]) (st' := [.int (100 : Int32), .int a8]) (q' := q) (P := (True) ∧ ((True) ∧ (True))) (by decide +kernel) rfl rfl (And.intro trivial (And.intro trivial trivial)) ?_
    refine mm_ok_if_icmp_ge (pt := 44) (d := 31) (by decide +kernel) (by decide) (fun k1 => ?_) (fun k1 => ?_)
    · refine mm_ok_bl (l := [(.lload 4, 2)]) (pc' := 46) (lo' := [none, none, none, none, some (.long b4), none, some (.long b6), none, some (.int a8), none, none]) (st' := [.long b4]) (q' := q) (P := (True) ∧ (True)) (by decide +kernel) rfl rfl (And.intro trivial trivial) ?_
      exact mm_ok_lret (by decide +kernel)
    · refine mm_ok_bl (l := [(.lload 6, 2), (.goto_w (0), 1), (.lcmp, 1)]) (pc' := 20) (lo' := [none, none, none, none, some (.long b4), none, some (.long b6), none, some (.int a8), none, none]) (st' := [.int (lg_cmp b6 (0 : Int64))]) (q' := q) (P := (True) ∧ ((True) ∧ ((True) ∧ (True)))) (by decide +kernel) rfl rfl (And.intro trivial (And.intro trivial (And.intro trivial trivial))) ?_
      refine mm_ok_ifCond_eq (pt := 44) (d := 24) (by decide +kernel) (by decide) (fun k2 => ?_) (fun k2 => ?_)
      · refine mm_ok_bl (l := [(.lload 4, 2)]) (pc' := 46) (lo' := [none, none, none, none, some (.long b4), none, some (.long b6), none, some (.int a8), none, none]) (st' := [.long b4]) (q' := q) (P := (True) ∧ (True)) (by decide +kernel) rfl rfl (And.intro trivial trivial) ?_
        exact mm_ok_lret (by decide +kernel)
      · refine mm_ok_bl (l := [(.lload 4, 2), (.lload 6, 2)]) (pc' := 27) (lo' := [none, none, none, none, some (.long b4), none, some (.long b6), none, some (.int a8), none, none]) (st' := [.long b6, .long b4]) (q' := q) (P := (True) ∧ ((True) ∧ (True))) (by decide +kernel) rfl rfl (And.intro trivial (And.intro trivial trivial)) ?_
        refine mm_ok_ck (fun c3 => ?_)
        refine mm_ok_bl (l := [(.lrem, 1), (.lstore 9, 2), (.lload 6, 2), (.lstore 4, 2), (.lload 9, 2), (.lstore 6, 2), (.iinc 8 (1), 3)]) (pc' := 41) (lo' := [none, none, none, none, some (.long b6), none, some (.long (mm_reml b4 b6)), none, some (.int (a8 + (1 : Int32))), some (.long (mm_reml b4 b6)), none]) (st' := []) (q' := q) (P := (¬ (b6 = 0)) ∧ ((True) ∧ ((True) ∧ ((True) ∧ ((True) ∧ ((True) ∧ ((True) ∧ (True)))))))) (by decide +kernel) rfl rfl (And.intro (mm_nzl_ok c3) (And.intro trivial (And.intro trivial (And.intro trivial (And.intro trivial (And.intro trivial (And.intro trivial trivial))))))) ?_
        refine mm_ok_goto (pt := 9) (d := -32) (by decide +kernel) (by decide) ?_
        exact mm_ok_sub (lo := [none, none, none, none, some (.long b6), none, some (.long (mm_reml b4 b6)), none, some (.int (a8 + (1 : Int32))), none, none]) (And.intro rfl (And.intro rfl (And.intro rfl trivial))) (x11_greatestDivisor_h9_ok n b6 (mm_reml b4 b6) (a8 + (1 : Int32)) q)
def x11_greatestDivisor (b1 : Int64) (b2 : Int64) (q : mm_Q) : Option (Int64 × mm_Q) := (x11_greatestDivisor_h9 mm_fu b1 b2 (0 : Int32) q)
set_option maxRecDepth 20000 in
theorem x11_greatestDivisor_ok {L : Nat} {b1 : Int64} {b2 : Int64} {q : mm_Q} {r : Int64} {q1 : mm_Q} (h : x11_greatestDivisor b1 b2 q = some (r, q1)) : mm_Runs 1 188 [.long b1, .long b2] (mm_wq L q) (mm_cvl r) (mm_wq L q1) := by
  refine mm_runs_of (d := 0) (L := L) rfl (by decide +kernel) rfl rfl (?_ : mm_ok mm_cvl (mm_Runs 0) 11 false cX11_greatestDivisor (some .long) L 0 [some (.long b1), none, some (.long b2), none, none, none, none, none, none, none, none] [] q (x11_greatestDivisor b1 b2 q)) h
  unfold x11_greatestDivisor
  refine mm_ok_bl (l := [(.lload 0, 1), (.lstore 4, 2), (.lload 2, 1), (.lstore 6, 2), (.iconst (0), 1), (.istore 8, 2)]) (pc' := 9) (lo' := [some (.long b1), none, some (.long b2), none, some (.long b1), none, some (.long b2), none, some (.int (0 : Int32)), none, none]) (st' := []) (q' := q) (P := (True) ∧ ((True) ∧ ((True) ∧ ((True) ∧ ((True) ∧ ((True) ∧ (True))))))) (by decide +kernel) rfl rfl (And.intro trivial (And.intro trivial (And.intro trivial (And.intro trivial (And.intro trivial (And.intro trivial trivial)))))) ?_
  exact mm_ok_sub (lo := [none, none, none, none, some (.long b1), none, some (.long b2), none, some (.int (0 : Int32)), none, none]) (And.intro rfl (And.intro rfl (And.intro rfl trivial))) (x11_greatestDivisor_h9_ok mm_fu b1 b2 (0 : Int32) q)
def x11_fractionPart (b1 : Int64) (b2 : Int64) (a3 : Int32) (q : mm_Q) : Option (Int64 × mm_Q) := (mm_cl (x11_greatestDivisor b1 b2 q) (fun r1 q2 => (if (lg_cmp r1 (0 : Int64)) = 0 then (some ((0 : Int64), q2)) else (if a3 = 0 then (mm_ck (mm_nzl r1) (some (b1 / r1, q2))) else (mm_ck (mm_nzl r1) (some (b2 / r1, q2)))))))
set_option maxRecDepth 20000 in
theorem x11_fractionPart_ok {L : Nat} {b1 : Int64} {b2 : Int64} {a3 : Int32} {q : mm_Q} {r : Int64} {q1 : mm_Q} (h : x11_fractionPart b1 b2 a3 q = some (r, q1)) : mm_Runs 2 187 [.long b1, .long b2, .int a3] (mm_wq L q) (mm_cvl r) (mm_wq L q1) := by
  refine mm_runs_of (d := 1) (L := L) rfl (by decide +kernel) rfl rfl (?_ : mm_ok mm_cvl (mm_Runs 1) 11 false cX11_fractionPart (some .long) L 0 [some (.long b1), none, some (.long b2), none, some (.int a3), none, none] [] q (x11_fractionPart b1 b2 a3 q)) h
  unfold x11_fractionPart
  refine mm_ok_bl (l := [(.lload 0, 1), (.lload 2, 1)]) (pc' := 2) (lo' := [some (.long b1), none, some (.long b2), none, some (.int a3), none, none]) (st' := [.long b2, .long b1]) (q' := q) (P := (True) ∧ ((True) ∧ (True))) (by decide +kernel) rfl rfl (And.intro trivial (And.intro trivial trivial)) ?_
  refine mm_ok_call (cz := mm_cvl) (j := .invokestatic 3010) (y := 188) (as := [.long b1, .long b2]) (t := []) (by decide +kernel) rfl (fun _ _ h => mm_up (k := 1) (by decide) (x11_greatestDivisor_ok h)) (fun r1 q2 => ?_)
  refine mm_ok_bl (l := [(.lstore 5, 2), (.lload 5, 2), (.goto_w (0), 1), (.lcmp, 1)]) (pc' := 11) (lo' := [some (.long b1), none, some (.long b2), none, some (.int a3), some (.long r1), none]) (st' := [.int (lg_cmp r1 (0 : Int64))]) (q' := q2) (P := (True) ∧ ((True) ∧ ((True) ∧ ((True) ∧ (True))))) (by decide +kernel) rfl rfl (And.intro trivial (And.intro trivial (And.intro trivial (And.intro trivial trivial)))) ?_
  refine mm_ok_ifCond_ne (pt := 16) (d := 5) (by decide +kernel) (by decide) (fun k3 => ?_) (fun k3 => ?_)
  · refine mm_ok_bl (l := [(.goto_w (0), 1)]) (pc' := 15) (lo' := [some (.long b1), none, some (.long b2), none, some (.int a3), some (.long r1), none]) (st' := [.long (0 : Int64)]) (q' := q2) (P := (True) ∧ (True)) (by decide +kernel) rfl rfl (And.intro trivial trivial) ?_
    exact mm_ok_lret (by decide +kernel)
  · refine mm_ok_bl (l := [(.iload 4, 2)]) (pc' := 18) (lo' := [some (.long b1), none, some (.long b2), none, some (.int a3), some (.long r1), none]) (st' := [.int a3]) (q' := q2) (P := (True) ∧ (True)) (by decide +kernel) rfl rfl (And.intro trivial trivial) ?_
    refine mm_ok_ifCond_ne (pt := 28) (d := 10) (by decide +kernel) (by decide) (fun k4 => ?_) (fun k4 => ?_)
    · refine mm_ok_bl (l := [(.lload 0, 1), (.lload 5, 2)]) (pc' := 24) (lo' := [some (.long b1), none, some (.long b2), none, some (.int a3), some (.long r1), none]) (st' := [.long r1, .long b1]) (q' := q2) (P := (True) ∧ ((True) ∧ (True))) (by decide +kernel) rfl rfl (And.intro trivial (And.intro trivial trivial)) ?_
      refine mm_ok_ck (fun c5 => ?_)
      refine mm_ok_bl (l := [(.ldiv, 1)]) (pc' := 25) (lo' := [some (.long b1), none, some (.long b2), none, some (.int a3), some (.long r1), none]) (st' := [.long (b1 / r1)]) (q' := q2) (P := (¬ (r1 = 0)) ∧ (True)) (by decide +kernel) rfl rfl (And.intro (mm_nzl_ok c5) trivial) ?_
      refine mm_ok_goto (pt := 32) (d := 7) (by decide +kernel) (by decide) ?_
      exact mm_ok_lret (by decide +kernel)
    · refine mm_ok_bl (l := [(.lload 2, 1), (.lload 5, 2)]) (pc' := 31) (lo' := [some (.long b1), none, some (.long b2), none, some (.int a3), some (.long r1), none]) (st' := [.long r1, .long b2]) (q' := q2) (P := (True) ∧ ((True) ∧ (True))) (by decide +kernel) rfl rfl (And.intro trivial (And.intro trivial trivial)) ?_
      refine mm_ok_ck (fun c6 => ?_)
      refine mm_ok_bl (l := [(.ldiv, 1)]) (pc' := 32) (lo' := [some (.long b1), none, some (.long b2), none, some (.int a3), some (.long r1), none]) (st' := [.long (b2 / r1)]) (q' := q2) (P := (¬ (r1 = 0)) ∧ (True)) (by decide +kernel) rfl rfl (And.intro (mm_nzl_ok c6) trivial) ?_
      exact mm_ok_lret (by decide +kernel)
def x11_risk (a1 : Int32) (a2 : Int32) (a3 : Int32) (a4 : Int32) (q : mm_Q) : Option (Int64 × mm_Q) := (mm_cl (x4_isSpitter a1 q) (fun r1 q2 => (if r1 = 0 then (some ((-9223372036854775808 : Int64), q2)) else (mm_cl (x11_isStoneAndAhead a2 q2) (fun r4 q5 => (if r4 = 0 then (some ((-9223372036854775808 : Int64), q5)) else (if a3 < 0 then (some ((-9223372036854775808 : Int64), q5)) else (if (999 : Int32) < (a3 / (10 : Int32)) then (some ((-9223372036854775808 : Int64), q5)) else (if (1 : Int32) < (mm_rem a3 (10 : Int32)) then (some ((-9223372036854775808 : Int64), q5)) else (if a4 < 0 then (some ((-9223372036854775808 : Int64), q5)) else (if a4 ≤ (1 : Int32) then (mm_cl (x10_take a1 (a2 / (1000 : Int32)) (mm_rem a2 (1000 : Int32)) q5) (fun u12 q13 => (mm_cl (x7_chances a1 (a3 / (10 : Int32)) (mm_rem a3 (10 : Int32)) q13) (fun r14 q15 => (mm_cl (x11_fractionPart r14.toInt64 (12 : Int64) a4 q15) (fun r16 q17 => (some (r16, q17)))))))) else (some ((-9223372036854775808 : Int64), q5)))))))))))))
set_option maxRecDepth 20000 in
theorem x11_risk_ok {L : Nat} {a1 : Int32} {a2 : Int32} {a3 : Int32} {a4 : Int32} {q : mm_Q} {r : Int64} {q1 : mm_Q} (h : x11_risk a1 a2 a3 a4 q = some (r, q1)) : mm_Runs 6 148 [.ref 7, .int a1, .int a2, .int a3, .int a4] (mm_wq L q) (mm_cvl r) (mm_wq L q1) := by
  refine mm_runs_of (d := 5) (L := L) rfl (by decide +kernel) rfl rfl (?_ : mm_ok mm_cvl (mm_Runs 5) 11 false cX11_risk (some .long) L 0 [some (.ref 7), some (.int a1), some (.int a2), some (.int a3), some (.int a4), none, none] [] q (x11_risk a1 a2 a3 a4 q)) h
  unfold x11_risk
  refine mm_ok_bl (l := [(.aload 0, 1), (.getfield 704, 3), (.iload 1, 1)]) (pc' := 5) (lo' := [some (.ref 7), some (.int a1), some (.int a2), some (.int a3), some (.int a4), none, none]) (st' := [.int a1, .ref 8]) (q' := q) (P := (True) ∧ ((True) ∧ ((True) ∧ (True)))) (by decide +kernel) rfl rfl (And.intro trivial (And.intro trivial (And.intro trivial trivial))) ?_
  refine mm_ok_call (cz := mm_cvi) (j := .invokevirtual 817) (y := 51) (as := [.ref 8, .int a1]) (t := []) (by decide +kernel) rfl (fun _ _ h => mm_up (k := 1) (by decide) (x4_isSpitter_ok h)) (fun r1 q2 => ?_)
  refine mm_ok_ifCond_eq (pt := 51) (d := 43) (by decide +kernel) (by decide) (fun k3 => ?_) (fun k3 => ?_)
  · refine mm_ok_bl (l := [(.goto_w (-9223372036854775808), 3)]) (pc' := 54) (lo' := [some (.ref 7), some (.int a1), some (.int a2), some (.int a3), some (.int a4), none, none]) (st' := [.long (-9223372036854775808 : Int64)]) (q' := q2) (P := (True) ∧ (True)) (by decide +kernel) rfl rfl (And.intro trivial trivial) ?_
    exact mm_ok_lret (by decide +kernel)
  · refine mm_ok_bl (l := [(.iload 2, 1)]) (pc' := 12) (lo' := [some (.ref 7), some (.int a1), some (.int a2), some (.int a3), some (.int a4), none, none]) (st' := [.int a2]) (q' := q2) (P := (True) ∧ (True)) (by decide +kernel) rfl rfl (And.intro trivial trivial) ?_
    refine mm_ok_call (cz := mm_cvi) (j := .invokestatic 2865) (y := 179) (as := [.int a2]) (t := []) (by decide +kernel) rfl (fun _ _ h => mm_up (k := 1) (by decide) (x11_isStoneAndAhead_ok h)) (fun r4 q5 => ?_)
    refine mm_ok_ifCond_eq (pt := 51) (d := 36) (by decide +kernel) (by decide) (fun k6 => ?_) (fun k6 => ?_)
    · refine mm_ok_bl (l := [(.goto_w (-9223372036854775808), 3)]) (pc' := 54) (lo' := [some (.ref 7), some (.int a1), some (.int a2), some (.int a3), some (.int a4), none, none]) (st' := [.long (-9223372036854775808 : Int64)]) (q' := q5) (P := (True) ∧ (True)) (by decide +kernel) rfl rfl (And.intro trivial trivial) ?_
      exact mm_ok_lret (by decide +kernel)
    · refine mm_ok_bl (l := [(.iload 3, 1)]) (pc' := 19) (lo' := [some (.ref 7), some (.int a1), some (.int a2), some (.int a3), some (.int a4), none, none]) (st' := [.int a3]) (q' := q5) (P := (True) ∧ (True)) (by decide +kernel) rfl rfl (And.intro trivial trivial) ?_
      refine mm_ok_ifCond_lt (pt := 51) (d := 32) (by decide +kernel) (by decide) (fun k7 => ?_) (fun k7 => ?_)
      · refine mm_ok_bl (l := [(.goto_w (-9223372036854775808), 3)]) (pc' := 54) (lo' := [some (.ref 7), some (.int a1), some (.int a2), some (.int a3), some (.int a4), none, none]) (st' := [.long (-9223372036854775808 : Int64)]) (q' := q5) (P := (True) ∧ (True)) (by decide +kernel) rfl rfl (And.intro trivial trivial) ?_
        exact mm_ok_lret (by decide +kernel)
      · refine mm_ok_bl (l := [(.iload 3, 1), (.iconst (10), 2), (.idiv, 1), (.iconst (999), 3)]) (pc' := 29) (lo' := [some (.ref 7), some (.int a1), some (.int a2), some (.int a3), some (.int a4), none, none]) (st' := [.int (999 : Int32), .int (a3 / (10 : Int32))]) (q' := q5) (P := (True) ∧ ((True) ∧ ((¬ ((10 : Int32) = 0)) ∧ ((True) ∧ (True))))) (by decide +kernel) rfl rfl (And.intro trivial (And.intro trivial (And.intro (by decide) (And.intro trivial trivial)))) ?_
        refine mm_ok_if_icmp_gt (pt := 51) (d := 22) (by decide +kernel) (by decide) (fun k8 => ?_) (fun k8 => ?_)
        · refine mm_ok_bl (l := [(.goto_w (-9223372036854775808), 3)]) (pc' := 54) (lo' := [some (.ref 7), some (.int a1), some (.int a2), some (.int a3), some (.int a4), none, none]) (st' := [.long (-9223372036854775808 : Int64)]) (q' := q5) (P := (True) ∧ (True)) (by decide +kernel) rfl rfl (And.intro trivial trivial) ?_
          exact mm_ok_lret (by decide +kernel)
        · refine mm_ok_bl (l := [(.iload 3, 1), (.iconst (10), 2), (.irem, 1), (.iconst (1), 1)]) (pc' := 37) (lo' := [some (.ref 7), some (.int a1), some (.int a2), some (.int a3), some (.int a4), none, none]) (st' := [.int (1 : Int32), .int (mm_rem a3 (10 : Int32))]) (q' := q5) (P := (True) ∧ ((True) ∧ ((¬ ((10 : Int32) = 0)) ∧ ((True) ∧ (True))))) (by decide +kernel) rfl rfl (And.intro trivial (And.intro trivial (And.intro (by decide) (And.intro trivial trivial)))) ?_
          refine mm_ok_if_icmp_gt (pt := 51) (d := 14) (by decide +kernel) (by decide) (fun k9 => ?_) (fun k9 => ?_)
          · refine mm_ok_bl (l := [(.goto_w (-9223372036854775808), 3)]) (pc' := 54) (lo' := [some (.ref 7), some (.int a1), some (.int a2), some (.int a3), some (.int a4), none, none]) (st' := [.long (-9223372036854775808 : Int64)]) (q' := q5) (P := (True) ∧ (True)) (by decide +kernel) rfl rfl (And.intro trivial trivial) ?_
            exact mm_ok_lret (by decide +kernel)
          · refine mm_ok_bl (l := [(.iload 4, 2)]) (pc' := 42) (lo' := [some (.ref 7), some (.int a1), some (.int a2), some (.int a3), some (.int a4), none, none]) (st' := [.int a4]) (q' := q5) (P := (True) ∧ (True)) (by decide +kernel) rfl rfl (And.intro trivial trivial) ?_
            refine mm_ok_ifCond_lt (pt := 51) (d := 9) (by decide +kernel) (by decide) (fun k10 => ?_) (fun k10 => ?_)
            · refine mm_ok_bl (l := [(.goto_w (-9223372036854775808), 3)]) (pc' := 54) (lo' := [some (.ref 7), some (.int a1), some (.int a2), some (.int a3), some (.int a4), none, none]) (st' := [.long (-9223372036854775808 : Int64)]) (q' := q5) (P := (True) ∧ (True)) (by decide +kernel) rfl rfl (And.intro trivial trivial) ?_
              exact mm_ok_lret (by decide +kernel)
            · refine mm_ok_bl (l := [(.iload 4, 2), (.iconst (1), 1)]) (pc' := 48) (lo' := [some (.ref 7), some (.int a1), some (.int a2), some (.int a3), some (.int a4), none, none]) (st' := [.int (1 : Int32), .int a4]) (q' := q5) (P := (True) ∧ ((True) ∧ (True))) (by decide +kernel) rfl rfl (And.intro trivial (And.intro trivial trivial)) ?_
              refine mm_ok_if_icmp_le (pt := 55) (d := 7) (by decide +kernel) (by decide) (fun k11 => ?_) (fun k11 => ?_)
              · refine mm_ok_bl (l := [(.aload 0, 1), (.getfield 708, 3), (.iload 1, 1), (.iload 2, 1), (.iconst (1000), 3), (.idiv, 1), (.iload 2, 1), (.iconst (1000), 3), (.irem, 1)]) (pc' := 70) (lo' := [some (.ref 7), some (.int a1), some (.int a2), some (.int a3), some (.int a4), none, none]) (st' := [.int (mm_rem a2 (1000 : Int32)), .int (a2 / (1000 : Int32)), .int a1, .ref 14]) (q' := q5) (P := (True) ∧ ((True) ∧ ((True) ∧ ((True) ∧ ((True) ∧ ((¬ ((1000 : Int32) = 0)) ∧ ((True) ∧ ((True) ∧ ((¬ ((1000 : Int32) = 0)) ∧ (True)))))))))) (by decide +kernel) rfl rfl (And.intro trivial (And.intro trivial (And.intro trivial (And.intro trivial (And.intro trivial (And.intro (by decide) (And.intro trivial (And.intro trivial (And.intro (by decide) trivial))))))))) ?_
                refine mm_ok_call (cz := mm_cvu) (j := .invokevirtual 2067) (y := 129) (as := [.ref 14, .int a1, .int (a2 / (1000 : Int32)), .int (mm_rem a2 (1000 : Int32))]) (t := []) (by decide +kernel) rfl (fun _ _ h => mm_up (k := 3) (by decide) (x10_take_ok h)) (fun u12 q13 => ?_)
                refine mm_ok_bl (l := [(.aload 0, 1), (.getfield 709, 3), (.iload 1, 1), (.iload 3, 1), (.iconst (10), 2), (.idiv, 1), (.iload 3, 1), (.iconst (10), 2), (.irem, 1)]) (pc' := 86) (lo' := [some (.ref 7), some (.int a1), some (.int a2), some (.int a3), some (.int a4), none, none]) (st' := [.int (mm_rem a3 (10 : Int32)), .int (a3 / (10 : Int32)), .int a1, .ref 35]) (q' := q13) (P := (True) ∧ ((True) ∧ ((True) ∧ ((True) ∧ ((True) ∧ ((¬ ((10 : Int32) = 0)) ∧ ((True) ∧ ((True) ∧ ((¬ ((10 : Int32) = 0)) ∧ (True)))))))))) (by decide +kernel) rfl rfl (And.intro trivial (And.intro trivial (And.intro trivial (And.intro trivial (And.intro trivial (And.intro (by decide) (And.intro trivial (And.intro trivial (And.intro (by decide) trivial))))))))) ?_
                refine mm_ok_call (cz := mm_cvi) (j := .invokevirtual 1395) (y := 87) (as := [.ref 35, .int a1, .int (a3 / (10 : Int32)), .int (mm_rem a3 (10 : Int32))]) (t := []) (by decide +kernel) rfl (fun _ _ h => mm_up (k := 5) (by decide) (x7_chances_ok h)) (fun r14 q15 => ?_)
                refine mm_ok_bl (l := [(.i2l, 1), (.lstore 5, 2), (.lload 5, 2), (.goto_w (12), 3), (.iload 4, 2)]) (pc' := 99) (lo' := [some (.ref 7), some (.int a1), some (.int a2), some (.int a3), some (.int a4), some (.long r14.toInt64), none]) (st' := [.int a4, .long (12 : Int64), .long r14.toInt64]) (q' := q15) (P := (True) ∧ ((True) ∧ ((True) ∧ ((True) ∧ ((True) ∧ (True)))))) (by decide +kernel) rfl rfl (And.intro trivial (And.intro trivial (And.intro trivial (And.intro trivial (And.intro trivial trivial))))) ?_
                refine mm_ok_call (cz := mm_cvl) (j := .invokestatic 2995) (y := 187) (as := [.long r14.toInt64, .long (12 : Int64), .int a4]) (t := []) (by decide +kernel) rfl (fun _ _ h => mm_up (k := 2) (by decide) (x11_fractionPart_ok h)) (fun r16 q17 => ?_)
                exact mm_ok_lret (by decide +kernel)
              · refine mm_ok_bl (l := [(.goto_w (-9223372036854775808), 3)]) (pc' := 54) (lo' := [some (.ref 7), some (.int a1), some (.int a2), some (.int a3), some (.int a4), none, none]) (st' := [.long (-9223372036854775808 : Int64)]) (q' := q5) (P := (True) ∧ (True)) (by decide +kernel) rfl rfl (And.intro trivial trivial) ?_
                exact mm_ok_lret (by decide +kernel)
def x11_risks (a1 : Int32) (a2 : Int32) (a3 : Int32) (a4 : Int32) (q : mm_Q) : Option (Int64 × mm_Q) := (mm_cl (x4_isSpitter a1 q) (fun r1 q2 => (if r1 = 0 then (some ((-9223372036854775808 : Int64), q2)) else (mm_cl (x11_isStoneAndAhead a2 q2) (fun r4 q5 => (if r4 = 0 then (some ((-9223372036854775808 : Int64), q5)) else (if a3 < 0 then (some ((-9223372036854775808 : Int64), q5)) else (if (999 : Int32) < (a3 / (10 : Int32)) then (some ((-9223372036854775808 : Int64), q5)) else (if (mm_rem a3 (10 : Int32)) < (1 : Int32) then (some ((-9223372036854775808 : Int64), q5)) else (if a4 < 0 then (some ((-9223372036854775808 : Int64), q5)) else (if a4 ≤ (2 : Int32) then (mm_cl (x7_weighTries a1 a2 (a3 / (10 : Int32)) (mm_rem a3 (10 : Int32)) q5) (fun u12 q13 => (if a4 = (2 : Int32) then (mm_cl (x7_firstWithRun q13) (fun r15 q16 => (if r15 = 0 then (some ((0 : Int64), q16)) else (some ((1 : Int64), q16))))) else (mm_cl (x7_chanceAbove q13) (fun r18 q19 => (mm_cl (x7_chanceBelow q19) (fun r20 q21 => (mm_cl (x11_fractionPart r18 r20 a4 q21) (fun r22 q23 => (some (r22, q23))))))))))) else (some ((-9223372036854775808 : Int64), q5)))))))))))))
set_option maxRecDepth 20000 in
theorem x11_risks_ok {L : Nat} {a1 : Int32} {a2 : Int32} {a3 : Int32} {a4 : Int32} {q : mm_Q} {r : Int64} {q1 : mm_Q} (h : x11_risks a1 a2 a3 a4 q = some (r, q1)) : mm_Runs 7 149 [.ref 7, .int a1, .int a2, .int a3, .int a4] (mm_wq L q) (mm_cvl r) (mm_wq L q1) := by
  refine mm_runs_of (d := 6) (L := L) rfl (by decide +kernel) rfl rfl (?_ : mm_ok mm_cvl (mm_Runs 6) 11 false cX11_risks (some .long) L 0 [some (.ref 7), some (.int a1), some (.int a2), some (.int a3), some (.int a4)] [] q (x11_risks a1 a2 a3 a4 q)) h
  unfold x11_risks
  refine mm_ok_bl (l := [(.aload 0, 1), (.getfield 704, 3), (.iload 1, 1)]) (pc' := 5) (lo' := [some (.ref 7), some (.int a1), some (.int a2), some (.int a3), some (.int a4)]) (st' := [.int a1, .ref 8]) (q' := q) (P := (True) ∧ ((True) ∧ ((True) ∧ (True)))) (by decide +kernel) rfl rfl (And.intro trivial (And.intro trivial (And.intro trivial trivial))) ?_
  refine mm_ok_call (cz := mm_cvi) (j := .invokevirtual 817) (y := 51) (as := [.ref 8, .int a1]) (t := []) (by decide +kernel) rfl (fun _ _ h => mm_up (k := 1) (by decide) (x4_isSpitter_ok h)) (fun r1 q2 => ?_)
  refine mm_ok_ifCond_eq (pt := 51) (d := 43) (by decide +kernel) (by decide) (fun k3 => ?_) (fun k3 => ?_)
  · refine mm_ok_bl (l := [(.goto_w (-9223372036854775808), 3)]) (pc' := 54) (lo' := [some (.ref 7), some (.int a1), some (.int a2), some (.int a3), some (.int a4)]) (st' := [.long (-9223372036854775808 : Int64)]) (q' := q2) (P := (True) ∧ (True)) (by decide +kernel) rfl rfl (And.intro trivial trivial) ?_
    exact mm_ok_lret (by decide +kernel)
  · refine mm_ok_bl (l := [(.iload 2, 1)]) (pc' := 12) (lo' := [some (.ref 7), some (.int a1), some (.int a2), some (.int a3), some (.int a4)]) (st' := [.int a2]) (q' := q2) (P := (True) ∧ (True)) (by decide +kernel) rfl rfl (And.intro trivial trivial) ?_
    refine mm_ok_call (cz := mm_cvi) (j := .invokestatic 2865) (y := 179) (as := [.int a2]) (t := []) (by decide +kernel) rfl (fun _ _ h => mm_up (k := 1) (by decide) (x11_isStoneAndAhead_ok h)) (fun r4 q5 => ?_)
    refine mm_ok_ifCond_eq (pt := 51) (d := 36) (by decide +kernel) (by decide) (fun k6 => ?_) (fun k6 => ?_)
    · refine mm_ok_bl (l := [(.goto_w (-9223372036854775808), 3)]) (pc' := 54) (lo' := [some (.ref 7), some (.int a1), some (.int a2), some (.int a3), some (.int a4)]) (st' := [.long (-9223372036854775808 : Int64)]) (q' := q5) (P := (True) ∧ (True)) (by decide +kernel) rfl rfl (And.intro trivial trivial) ?_
      exact mm_ok_lret (by decide +kernel)
    · refine mm_ok_bl (l := [(.iload 3, 1)]) (pc' := 19) (lo' := [some (.ref 7), some (.int a1), some (.int a2), some (.int a3), some (.int a4)]) (st' := [.int a3]) (q' := q5) (P := (True) ∧ (True)) (by decide +kernel) rfl rfl (And.intro trivial trivial) ?_
      refine mm_ok_ifCond_lt (pt := 51) (d := 32) (by decide +kernel) (by decide) (fun k7 => ?_) (fun k7 => ?_)
      · refine mm_ok_bl (l := [(.goto_w (-9223372036854775808), 3)]) (pc' := 54) (lo' := [some (.ref 7), some (.int a1), some (.int a2), some (.int a3), some (.int a4)]) (st' := [.long (-9223372036854775808 : Int64)]) (q' := q5) (P := (True) ∧ (True)) (by decide +kernel) rfl rfl (And.intro trivial trivial) ?_
        exact mm_ok_lret (by decide +kernel)
      · refine mm_ok_bl (l := [(.iload 3, 1), (.iconst (10), 2), (.idiv, 1), (.iconst (999), 3)]) (pc' := 29) (lo' := [some (.ref 7), some (.int a1), some (.int a2), some (.int a3), some (.int a4)]) (st' := [.int (999 : Int32), .int (a3 / (10 : Int32))]) (q' := q5) (P := (True) ∧ ((True) ∧ ((¬ ((10 : Int32) = 0)) ∧ ((True) ∧ (True))))) (by decide +kernel) rfl rfl (And.intro trivial (And.intro trivial (And.intro (by decide) (And.intro trivial trivial)))) ?_
        refine mm_ok_if_icmp_gt (pt := 51) (d := 22) (by decide +kernel) (by decide) (fun k8 => ?_) (fun k8 => ?_)
        · refine mm_ok_bl (l := [(.goto_w (-9223372036854775808), 3)]) (pc' := 54) (lo' := [some (.ref 7), some (.int a1), some (.int a2), some (.int a3), some (.int a4)]) (st' := [.long (-9223372036854775808 : Int64)]) (q' := q5) (P := (True) ∧ (True)) (by decide +kernel) rfl rfl (And.intro trivial trivial) ?_
          exact mm_ok_lret (by decide +kernel)
        · refine mm_ok_bl (l := [(.iload 3, 1), (.iconst (10), 2), (.irem, 1), (.iconst (1), 1)]) (pc' := 37) (lo' := [some (.ref 7), some (.int a1), some (.int a2), some (.int a3), some (.int a4)]) (st' := [.int (1 : Int32), .int (mm_rem a3 (10 : Int32))]) (q' := q5) (P := (True) ∧ ((True) ∧ ((¬ ((10 : Int32) = 0)) ∧ ((True) ∧ (True))))) (by decide +kernel) rfl rfl (And.intro trivial (And.intro trivial (And.intro (by decide) (And.intro trivial trivial)))) ?_
          refine mm_ok_if_icmp_lt (pt := 51) (d := 14) (by decide +kernel) (by decide) (fun k9 => ?_) (fun k9 => ?_)
          · refine mm_ok_bl (l := [(.goto_w (-9223372036854775808), 3)]) (pc' := 54) (lo' := [some (.ref 7), some (.int a1), some (.int a2), some (.int a3), some (.int a4)]) (st' := [.long (-9223372036854775808 : Int64)]) (q' := q5) (P := (True) ∧ (True)) (by decide +kernel) rfl rfl (And.intro trivial trivial) ?_
            exact mm_ok_lret (by decide +kernel)
          · refine mm_ok_bl (l := [(.iload 4, 2)]) (pc' := 42) (lo' := [some (.ref 7), some (.int a1), some (.int a2), some (.int a3), some (.int a4)]) (st' := [.int a4]) (q' := q5) (P := (True) ∧ (True)) (by decide +kernel) rfl rfl (And.intro trivial trivial) ?_
            refine mm_ok_ifCond_lt (pt := 51) (d := 9) (by decide +kernel) (by decide) (fun k10 => ?_) (fun k10 => ?_)
            · refine mm_ok_bl (l := [(.goto_w (-9223372036854775808), 3)]) (pc' := 54) (lo' := [some (.ref 7), some (.int a1), some (.int a2), some (.int a3), some (.int a4)]) (st' := [.long (-9223372036854775808 : Int64)]) (q' := q5) (P := (True) ∧ (True)) (by decide +kernel) rfl rfl (And.intro trivial trivial) ?_
              exact mm_ok_lret (by decide +kernel)
            · refine mm_ok_bl (l := [(.iload 4, 2), (.iconst (2), 1)]) (pc' := 48) (lo' := [some (.ref 7), some (.int a1), some (.int a2), some (.int a3), some (.int a4)]) (st' := [.int (2 : Int32), .int a4]) (q' := q5) (P := (True) ∧ ((True) ∧ (True))) (by decide +kernel) rfl rfl (And.intro trivial (And.intro trivial trivial)) ?_
              refine mm_ok_if_icmp_le (pt := 55) (d := 7) (by decide +kernel) (by decide) (fun k11 => ?_) (fun k11 => ?_)
              · refine mm_ok_bl (l := [(.aload 0, 1), (.getfield 709, 3), (.iload 1, 1), (.iload 2, 1), (.iload 3, 1), (.iconst (10), 2), (.idiv, 1), (.iload 3, 1), (.iconst (10), 2), (.irem, 1)]) (pc' := 69) (lo' := [some (.ref 7), some (.int a1), some (.int a2), some (.int a3), some (.int a4)]) (st' := [.int (mm_rem a3 (10 : Int32)), .int (a3 / (10 : Int32)), .int a2, .int a1, .ref 35]) (q' := q5) (P := (True) ∧ ((True) ∧ ((True) ∧ ((True) ∧ ((True) ∧ ((True) ∧ ((¬ ((10 : Int32) = 0)) ∧ ((True) ∧ ((True) ∧ ((¬ ((10 : Int32) = 0)) ∧ (True))))))))))) (by decide +kernel) rfl rfl (And.intro trivial (And.intro trivial (And.intro trivial (And.intro trivial (And.intro trivial (And.intro trivial (And.intro (by decide) (And.intro trivial (And.intro trivial (And.intro (by decide) trivial)))))))))) ?_
                refine mm_ok_call (cz := mm_cvu) (j := .invokevirtual 1412) (y := 88) (as := [.ref 35, .int a1, .int a2, .int (a3 / (10 : Int32)), .int (mm_rem a3 (10 : Int32))]) (t := []) (by decide +kernel) rfl (fun _ _ h => mm_up (k := 6) (by decide) (x7_weighTries_ok h)) (fun u12 q13 => ?_)
                refine mm_ok_bl (l := [(.iload 4, 2), (.iconst (2), 1)]) (pc' := 75) (lo' := [some (.ref 7), some (.int a1), some (.int a2), some (.int a3), some (.int a4)]) (st' := [.int (2 : Int32), .int a4]) (q' := q13) (P := (True) ∧ ((True) ∧ (True))) (by decide +kernel) rfl rfl (And.intro trivial (And.intro trivial trivial)) ?_
                refine mm_ok_if_icmp_ne (pt := 94) (d := 19) (by decide +kernel) (by decide) (fun k14 => ?_) (fun k14 => ?_)
                · refine mm_ok_bl (l := [(.aload 0, 1), (.getfield 709, 3)]) (pc' := 82) (lo' := [some (.ref 7), some (.int a1), some (.int a2), some (.int a3), some (.int a4)]) (st' := [.ref 35]) (q' := q13) (P := (True) ∧ ((True) ∧ (True))) (by decide +kernel) rfl rfl (And.intro trivial (And.intro trivial trivial)) ?_
                  refine mm_ok_call (cz := mm_cvi) (j := .invokevirtual 1456) (y := 91) (as := [.ref 35]) (t := []) (by decide +kernel) rfl (fun _ _ h => mm_up (k := 1) (by decide) (x7_firstWithRun_ok h)) (fun r15 q16 => ?_)
                  refine mm_ok_ifCond_eq (pt := 92) (d := 7) (by decide +kernel) (by decide) (fun k17 => ?_) (fun k17 => ?_)
                  · refine mm_ok_bl (l := [(.goto_w (0), 1)]) (pc' := 93) (lo' := [some (.ref 7), some (.int a1), some (.int a2), some (.int a3), some (.int a4)]) (st' := [.long (0 : Int64)]) (q' := q16) (P := (True) ∧ (True)) (by decide +kernel) rfl rfl (And.intro trivial trivial) ?_
                    exact mm_ok_lret (by decide +kernel)
                  · refine mm_ok_bl (l := [(.goto_w (1), 1)]) (pc' := 89) (lo' := [some (.ref 7), some (.int a1), some (.int a2), some (.int a3), some (.int a4)]) (st' := [.long (1 : Int64)]) (q' := q16) (P := (True) ∧ (True)) (by decide +kernel) rfl rfl (And.intro trivial trivial) ?_
                    refine mm_ok_goto (pt := 93) (d := 4) (by decide +kernel) (by decide) ?_
                    exact mm_ok_lret (by decide +kernel)
                · refine mm_ok_bl (l := [(.aload 0, 1), (.getfield 709, 3)]) (pc' := 98) (lo' := [some (.ref 7), some (.int a1), some (.int a2), some (.int a3), some (.int a4)]) (st' := [.ref 35]) (q' := q13) (P := (True) ∧ ((True) ∧ (True))) (by decide +kernel) rfl rfl (And.intro trivial (And.intro trivial trivial)) ?_
                  refine mm_ok_call (cz := mm_cvl) (j := .invokevirtual 1424) (y := 89) (as := [.ref 35]) (t := []) (by decide +kernel) rfl (fun _ _ h => mm_up (k := 1) (by decide) (x7_chanceAbove_ok h)) (fun r18 q19 => ?_)
                  refine mm_ok_bl (l := [(.aload 0, 1), (.getfield 709, 3)]) (pc' := 105) (lo' := [some (.ref 7), some (.int a1), some (.int a2), some (.int a3), some (.int a4)]) (st' := [.ref 35, .long r18]) (q' := q19) (P := (True) ∧ ((True) ∧ (True))) (by decide +kernel) rfl rfl (And.intro trivial (And.intro trivial trivial)) ?_
                  refine mm_ok_call (cz := mm_cvl) (j := .invokevirtual 1440) (y := 90) (as := [.ref 35]) (t := [.long r18]) (by decide +kernel) rfl (fun _ _ h => mm_up (k := 1) (by decide) (x7_chanceBelow_ok h)) (fun r20 q21 => ?_)
                  refine mm_ok_bl (l := [(.iload 4, 2)]) (pc' := 110) (lo' := [some (.ref 7), some (.int a1), some (.int a2), some (.int a3), some (.int a4)]) (st' := [.int a4, .long r20, .long r18]) (q' := q21) (P := (True) ∧ (True)) (by decide +kernel) rfl rfl (And.intro trivial trivial) ?_
                  refine mm_ok_call (cz := mm_cvl) (j := .invokestatic 2995) (y := 187) (as := [.long r18, .long r20, .int a4]) (t := []) (by decide +kernel) rfl (fun _ _ h => mm_up (k := 2) (by decide) (x11_fractionPart_ok h)) (fun r22 q23 => ?_)
                  exact mm_ok_lret (by decide +kernel)
              · refine mm_ok_bl (l := [(.goto_w (-9223372036854775808), 3)]) (pc' := 54) (lo' := [some (.ref 7), some (.int a1), some (.int a2), some (.int a3), some (.int a4)]) (st' := [.long (-9223372036854775808 : Int64)]) (q' := q5) (P := (True) ∧ (True)) (by decide +kernel) rfl rfl (And.intro trivial trivial) ?_
                exact mm_ok_lret (by decide +kernel)
def x11_practice (a1 : Int32) (a2 : Int32) (a3 : Int32) (a4 : Int32) (q : mm_Q) : Option (Int32 × mm_Q) := (mm_cl (x4_isSpitter a1 q) (fun r1 q2 => (if r1 = 0 then (some ((-1 : Int32), q2)) else (mm_cl (x11_isStoneAndAhead a2 q2) (fun r4 q5 => (if r4 = 0 then (some ((-1 : Int32), q5)) else (if a3 < 0 then (some ((-1 : Int32), q5)) else (if (999 : Int32) < a3 then (some ((-1 : Int32), q5)) else (if a4 < 0 then (some ((-1 : Int32), q5)) else (if a4 ≤ (1 : Int32) then (if a4 = 0 then (mm_cl (x7_leastFor a1 a2 a3 (1 : Int32) q5) (fun r12 q13 => (some (r12, q13)))) else (mm_cl (x7_leastFor a1 a2 a3 (0 : Int32) q5) (fun r14 q15 => (some (r14, q15))))) else (some ((-1 : Int32), q5))))))))))))
set_option maxRecDepth 20000 in
theorem x11_practice_ok {L : Nat} {a1 : Int32} {a2 : Int32} {a3 : Int32} {a4 : Int32} {q : mm_Q} {r : Int32} {q1 : mm_Q} (h : x11_practice a1 a2 a3 a4 q = some (r, q1)) : mm_Runs 6 150 [.ref 7, .int a1, .int a2, .int a3, .int a4] (mm_wq L q) (mm_cvi r) (mm_wq L q1) := by
  refine mm_runs_of (d := 5) (L := L) rfl (by decide +kernel) rfl rfl (?_ : mm_ok mm_cvi (mm_Runs 5) 11 false cX11_practice (some .int) L 0 [some (.ref 7), some (.int a1), some (.int a2), some (.int a3), some (.int a4)] [] q (x11_practice a1 a2 a3 a4 q)) h
  unfold x11_practice
  refine mm_ok_bl (l := [(.aload 0, 1), (.getfield 704, 3), (.iload 1, 1)]) (pc' := 5) (lo' := [some (.ref 7), some (.int a1), some (.int a2), some (.int a3), some (.int a4)]) (st' := [.int a1, .ref 8]) (q' := q) (P := (True) ∧ ((True) ∧ ((True) ∧ (True)))) (by decide +kernel) rfl rfl (And.intro trivial (And.intro trivial (And.intro trivial trivial))) ?_
  refine mm_ok_call (cz := mm_cvi) (j := .invokevirtual 817) (y := 51) (as := [.ref 8, .int a1]) (t := []) (by decide +kernel) rfl (fun _ _ h => mm_up (k := 1) (by decide) (x4_isSpitter_ok h)) (fun r1 q2 => ?_)
  refine mm_ok_ifCond_eq (pt := 40) (d := 32) (by decide +kernel) (by decide) (fun k3 => ?_) (fun k3 => ?_)
  · refine mm_ok_bl (l := [(.iconst (-1), 1)]) (pc' := 41) (lo' := [some (.ref 7), some (.int a1), some (.int a2), some (.int a3), some (.int a4)]) (st' := [.int (-1 : Int32)]) (q' := q2) (P := (True) ∧ (True)) (by decide +kernel) rfl rfl (And.intro trivial trivial) ?_
    exact mm_ok_iret (by decide +kernel)
  · refine mm_ok_bl (l := [(.iload 2, 1)]) (pc' := 12) (lo' := [some (.ref 7), some (.int a1), some (.int a2), some (.int a3), some (.int a4)]) (st' := [.int a2]) (q' := q2) (P := (True) ∧ (True)) (by decide +kernel) rfl rfl (And.intro trivial trivial) ?_
    refine mm_ok_call (cz := mm_cvi) (j := .invokestatic 2865) (y := 179) (as := [.int a2]) (t := []) (by decide +kernel) rfl (fun _ _ h => mm_up (k := 1) (by decide) (x11_isStoneAndAhead_ok h)) (fun r4 q5 => ?_)
    refine mm_ok_ifCond_eq (pt := 40) (d := 25) (by decide +kernel) (by decide) (fun k6 => ?_) (fun k6 => ?_)
    · refine mm_ok_bl (l := [(.iconst (-1), 1)]) (pc' := 41) (lo' := [some (.ref 7), some (.int a1), some (.int a2), some (.int a3), some (.int a4)]) (st' := [.int (-1 : Int32)]) (q' := q5) (P := (True) ∧ (True)) (by decide +kernel) rfl rfl (And.intro trivial trivial) ?_
      exact mm_ok_iret (by decide +kernel)
    · refine mm_ok_bl (l := [(.iload 3, 1)]) (pc' := 19) (lo' := [some (.ref 7), some (.int a1), some (.int a2), some (.int a3), some (.int a4)]) (st' := [.int a3]) (q' := q5) (P := (True) ∧ (True)) (by decide +kernel) rfl rfl (And.intro trivial trivial) ?_
      refine mm_ok_ifCond_lt (pt := 40) (d := 21) (by decide +kernel) (by decide) (fun k7 => ?_) (fun k7 => ?_)
      · refine mm_ok_bl (l := [(.iconst (-1), 1)]) (pc' := 41) (lo' := [some (.ref 7), some (.int a1), some (.int a2), some (.int a3), some (.int a4)]) (st' := [.int (-1 : Int32)]) (q' := q5) (P := (True) ∧ (True)) (by decide +kernel) rfl rfl (And.intro trivial trivial) ?_
        exact mm_ok_iret (by decide +kernel)
      · refine mm_ok_bl (l := [(.iload 3, 1), (.iconst (999), 3)]) (pc' := 26) (lo' := [some (.ref 7), some (.int a1), some (.int a2), some (.int a3), some (.int a4)]) (st' := [.int (999 : Int32), .int a3]) (q' := q5) (P := (True) ∧ ((True) ∧ (True))) (by decide +kernel) rfl rfl (And.intro trivial (And.intro trivial trivial)) ?_
        refine mm_ok_if_icmp_gt (pt := 40) (d := 14) (by decide +kernel) (by decide) (fun k8 => ?_) (fun k8 => ?_)
        · refine mm_ok_bl (l := [(.iconst (-1), 1)]) (pc' := 41) (lo' := [some (.ref 7), some (.int a1), some (.int a2), some (.int a3), some (.int a4)]) (st' := [.int (-1 : Int32)]) (q' := q5) (P := (True) ∧ (True)) (by decide +kernel) rfl rfl (And.intro trivial trivial) ?_
          exact mm_ok_iret (by decide +kernel)
        · refine mm_ok_bl (l := [(.iload 4, 2)]) (pc' := 31) (lo' := [some (.ref 7), some (.int a1), some (.int a2), some (.int a3), some (.int a4)]) (st' := [.int a4]) (q' := q5) (P := (True) ∧ (True)) (by decide +kernel) rfl rfl (And.intro trivial trivial) ?_
          refine mm_ok_ifCond_lt (pt := 40) (d := 9) (by decide +kernel) (by decide) (fun k9 => ?_) (fun k9 => ?_)
          · refine mm_ok_bl (l := [(.iconst (-1), 1)]) (pc' := 41) (lo' := [some (.ref 7), some (.int a1), some (.int a2), some (.int a3), some (.int a4)]) (st' := [.int (-1 : Int32)]) (q' := q5) (P := (True) ∧ (True)) (by decide +kernel) rfl rfl (And.intro trivial trivial) ?_
            exact mm_ok_iret (by decide +kernel)
          · refine mm_ok_bl (l := [(.iload 4, 2), (.iconst (1), 1)]) (pc' := 37) (lo' := [some (.ref 7), some (.int a1), some (.int a2), some (.int a3), some (.int a4)]) (st' := [.int (1 : Int32), .int a4]) (q' := q5) (P := (True) ∧ ((True) ∧ (True))) (by decide +kernel) rfl rfl (And.intro trivial (And.intro trivial trivial)) ?_
            refine mm_ok_if_icmp_le (pt := 42) (d := 5) (by decide +kernel) (by decide) (fun k10 => ?_) (fun k10 => ?_)
            · refine mm_ok_bl (l := [(.iload 4, 2)]) (pc' := 44) (lo' := [some (.ref 7), some (.int a1), some (.int a2), some (.int a3), some (.int a4)]) (st' := [.int a4]) (q' := q5) (P := (True) ∧ (True)) (by decide +kernel) rfl rfl (And.intro trivial trivial) ?_
              refine mm_ok_ifCond_ne (pt := 61) (d := 17) (by decide +kernel) (by decide) (fun k11 => ?_) (fun k11 => ?_)
              · refine mm_ok_bl (l := [(.aload 0, 1), (.getfield 709, 3), (.iload 1, 1), (.iload 2, 1), (.iload 3, 1), (.iconst (1), 1)]) (pc' := 55) (lo' := [some (.ref 7), some (.int a1), some (.int a2), some (.int a3), some (.int a4)]) (st' := [.int (1 : Int32), .int a3, .int a2, .int a1, .ref 35]) (q' := q5) (P := (True) ∧ ((True) ∧ ((True) ∧ ((True) ∧ ((True) ∧ ((True) ∧ (True))))))) (by decide +kernel) rfl rfl (And.intro trivial (And.intro trivial (And.intro trivial (And.intro trivial (And.intro trivial (And.intro trivial trivial)))))) ?_
                refine mm_ok_call (cz := mm_cvi) (j := .invokevirtual 1476) (y := 92) (as := [.ref 35, .int a1, .int a2, .int a3, .int (1 : Int32)]) (t := []) (by decide +kernel) rfl (fun _ _ h => mm_up (k := 5) (by decide) (x7_leastFor_ok h)) (fun r12 q13 => ?_)
                refine mm_ok_goto (pt := 72) (d := 14) (by decide +kernel) (by decide) ?_
                exact mm_ok_iret (by decide +kernel)
              · refine mm_ok_bl (l := [(.aload 0, 1), (.getfield 709, 3), (.iload 1, 1), (.iload 2, 1), (.iload 3, 1), (.iconst (0), 1)]) (pc' := 69) (lo' := [some (.ref 7), some (.int a1), some (.int a2), some (.int a3), some (.int a4)]) (st' := [.int (0 : Int32), .int a3, .int a2, .int a1, .ref 35]) (q' := q5) (P := (True) ∧ ((True) ∧ ((True) ∧ ((True) ∧ ((True) ∧ ((True) ∧ (True))))))) (by decide +kernel) rfl rfl (And.intro trivial (And.intro trivial (And.intro trivial (And.intro trivial (And.intro trivial (And.intro trivial trivial)))))) ?_
                refine mm_ok_call (cz := mm_cvi) (j := .invokevirtual 1476) (y := 92) (as := [.ref 35, .int a1, .int a2, .int a3, .int (0 : Int32)]) (t := []) (by decide +kernel) rfl (fun _ _ h => mm_up (k := 5) (by decide) (x7_leastFor_ok h)) (fun r14 q15 => ?_)
                exact mm_ok_iret (by decide +kernel)
            · refine mm_ok_bl (l := [(.iconst (-1), 1)]) (pc' := 41) (lo' := [some (.ref 7), some (.int a1), some (.int a2), some (.int a3), some (.int a4)]) (st' := [.int (-1 : Int32)]) (q' := q5) (P := (True) ∧ (True)) (by decide +kernel) rfl rfl (And.intro trivial trivial) ?_
              exact mm_ok_iret (by decide +kernel)
def x11_isStonesAndRule (a1 : Int32) (q : mm_Q) : Option (Int32 × mm_Q) := (if a1 < (10 : Int32) then (some ((0 : Int32), q)) else (if (9 : Int32) < (a1 / (10 : Int32)) then (some ((0 : Int32), q)) else (if (1 : Int32) < (mm_rem a1 (10 : Int32)) then (some ((0 : Int32), q)) else (some ((1 : Int32), q)))))
set_option maxRecDepth 20000 in
theorem x11_isStonesAndRule_ok {L : Nat} {a1 : Int32} {q : mm_Q} {r : Int32} {q1 : mm_Q} (h : x11_isStonesAndRule a1 q = some (r, q1)) : mm_Runs 1 181 [.int a1] (mm_wq L q) (mm_cvi r) (mm_wq L q1) := by
  refine mm_runs_of (d := 0) (L := L) rfl (by decide +kernel) rfl rfl (?_ : mm_ok mm_cvi (mm_Runs 0) 11 false cX11_isStonesAndRule (some .boolean) L 0 [some (.int a1)] [] q (x11_isStonesAndRule a1 q)) h
  unfold x11_isStonesAndRule
  refine mm_ok_bl (l := [(.iload 0, 1), (.iconst (10), 2)]) (pc' := 3) (lo' := [some (.int a1)]) (st' := [.int (10 : Int32), .int a1]) (q' := q) (P := (True) ∧ ((True) ∧ (True))) (by decide +kernel) rfl rfl (And.intro trivial (And.intro trivial trivial)) ?_
  refine mm_ok_if_icmp_lt (pt := 27) (d := 24) (by decide +kernel) (by decide) (fun k1 => ?_) (fun k1 => ?_)
  · refine mm_ok_bl (l := [(.iconst (0), 1)]) (pc' := 28) (lo' := [some (.int a1)]) (st' := [.int (0 : Int32)]) (q' := q) (P := (True) ∧ (True)) (by decide +kernel) rfl rfl (And.intro trivial trivial) ?_
    exact mm_ok_zret (by decide +kernel) (by decide)
  · refine mm_ok_bl (l := [(.iload 0, 1), (.iconst (10), 2), (.idiv, 1), (.iconst (9), 2)]) (pc' := 12) (lo' := [some (.int a1)]) (st' := [.int (9 : Int32), .int (a1 / (10 : Int32))]) (q' := q) (P := (True) ∧ ((True) ∧ ((¬ ((10 : Int32) = 0)) ∧ ((True) ∧ (True))))) (by decide +kernel) rfl rfl (And.intro trivial (And.intro trivial (And.intro (by decide) (And.intro trivial trivial)))) ?_
    refine mm_ok_if_icmp_gt (pt := 27) (d := 15) (by decide +kernel) (by decide) (fun k2 => ?_) (fun k2 => ?_)
    · refine mm_ok_bl (l := [(.iconst (0), 1)]) (pc' := 28) (lo' := [some (.int a1)]) (st' := [.int (0 : Int32)]) (q' := q) (P := (True) ∧ (True)) (by decide +kernel) rfl rfl (And.intro trivial trivial) ?_
      exact mm_ok_zret (by decide +kernel) (by decide)
    · refine mm_ok_bl (l := [(.iload 0, 1), (.iconst (10), 2), (.irem, 1), (.iconst (1), 1)]) (pc' := 20) (lo' := [some (.int a1)]) (st' := [.int (1 : Int32), .int (mm_rem a1 (10 : Int32))]) (q' := q) (P := (True) ∧ ((True) ∧ ((¬ ((10 : Int32) = 0)) ∧ ((True) ∧ (True))))) (by decide +kernel) rfl rfl (And.intro trivial (And.intro trivial (And.intro (by decide) (And.intro trivial trivial)))) ?_
      refine mm_ok_if_icmp_gt (pt := 27) (d := 7) (by decide +kernel) (by decide) (fun k3 => ?_) (fun k3 => ?_)
      · refine mm_ok_bl (l := [(.iconst (0), 1)]) (pc' := 28) (lo' := [some (.int a1)]) (st' := [.int (0 : Int32)]) (q' := q) (P := (True) ∧ (True)) (by decide +kernel) rfl rfl (And.intro trivial trivial) ?_
        exact mm_ok_zret (by decide +kernel) (by decide)
      · refine mm_ok_bl (l := [(.iconst (1), 1)]) (pc' := 24) (lo' := [some (.int a1)]) (st' := [.int (1 : Int32)]) (q' := q) (P := (True) ∧ (True)) (by decide +kernel) rfl rfl (And.intro trivial trivial) ?_
        refine mm_ok_goto (pt := 28) (d := 4) (by decide +kernel) (by decide) ?_
        exact mm_ok_zret (by decide +kernel) (by decide)
def x11_matchRefusal (a1 : Int32) (a2 : Int32) (q : mm_Q) : Option (Int32 × mm_Q) := (mm_cl (x11_shelfAt a1 q) (fun r1 q2 => (mm_om r1 (some ((-1 : Int32), q2)) (fun h3 => (mm_ck (mm_shb h3) (mm_cl (x11_isStonesAndRule a2 q2) (fun r5 q6 => (if r5 = 0 then (some ((-1 : Int32), q6)) else (mm_cl (x8_rowRefusal h3 (0 : Int32) q6) (fun r8 q9 => (if r8 = 0 then (mm_cl (x2_gather h3 (a2 / (10 : Int32)) (mm_rem a2 (10 : Int32)) q9) (fun u11 q12 => (some (r8, q12)))) else (some (r8, q9)))))))))))))
set_option maxRecDepth 20000 in
theorem x11_matchRefusal_ok {L : Nat} {a1 : Int32} {a2 : Int32} {q : mm_Q} {r : Int32} {q1 : mm_Q} (h : x11_matchRefusal a1 a2 q = some (r, q1)) : mm_Runs 7 184 [.ref 7, .int a1, .int a2] (mm_wq L q) (mm_cvi r) (mm_wq L q1) := by
  refine mm_runs_of (d := 6) (L := L) rfl (by decide +kernel) rfl rfl (?_ : mm_ok mm_cvi (mm_Runs 6) 11 false cX11_matchRefusal (some .int) L 0 [some (.ref 7), some (.int a1), some (.int a2), none, none] [] q (x11_matchRefusal a1 a2 q)) h
  unfold x11_matchRefusal
  refine mm_ok_bl (l := [(.aload 0, 1), (.iload 1, 1)]) (pc' := 2) (lo' := [some (.ref 7), some (.int a1), some (.int a2), none, none]) (st' := [.int a1, .ref 7]) (q' := q) (P := (True) ∧ ((True) ∧ (True))) (by decide +kernel) rfl rfl (And.intro trivial (And.intro trivial trivial)) ?_
  refine mm_ok_call (cz := mm_cvr) (j := .invokevirtual 2929) (y := 183) (as := [.ref 7, .int a1]) (t := []) (by decide +kernel) rfl (fun _ _ h => mm_up (k := 1) (by decide) (x11_shelfAt_ok h)) (fun r1 q2 => ?_)
  refine mm_ok_bl (l := [(.astore 3, 1), (.aload 3, 1)]) (pc' := 7) (lo' := [some (.ref 7), some (.int a1), some (.int a2), some (va_rf r1), none]) (st' := [va_rf r1]) (q' := q2) (P := (True) ∧ ((True) ∧ (True))) (by decide +kernel) (by cases r1 <;> rfl) rfl (And.intro trivial (And.intro trivial trivial)) ?_
  refine mm_ok_ifnull (pt := 17) (d := 10) (by decide +kernel) (by decide) (fun k4 => ?_) (fun h3 k4 => ?_)
  · subst k4
    refine mm_ok_bl (l := [(.iconst (-1), 1)]) (pc' := 18) (lo' := [some (.ref 7), some (.int a1), some (.int a2), some (.null), none]) (st' := [.int (-1 : Int32)]) (q' := q2) (P := (True) ∧ (True)) (by decide +kernel) rfl rfl (And.intro trivial trivial) ?_
    exact mm_ok_iret (by decide +kernel)
  · subst k4
    refine mm_ok_ck (fun c13 => ?_)
    have hs_h3 := mm_shb_ok c13
    refine mm_ok_bl (l := [(.iload 2, 1)]) (pc' := 11) (lo' := [some (.ref 7), some (.int a1), some (.int a2), some (.ref h3), none]) (st' := [.int a2]) (q' := q2) (P := (True) ∧ (True)) (by decide +kernel) (by rcases hs_h3 with rfl | rfl | rfl | rfl | rfl | rfl <;> rfl) rfl (And.intro trivial trivial) ?_
    refine mm_ok_call (cz := mm_cvi) (j := .invokestatic 2897) (y := 181) (as := [.int a2]) (t := []) (by decide +kernel) (by rcases hs_h3 with rfl | rfl | rfl | rfl | rfl | rfl <;> rfl) (fun _ _ h => mm_up (k := 1) (by decide) (x11_isStonesAndRule_ok h)) (fun r5 q6 => ?_)
    refine mm_ok_ifCond_ne (pt := 19) (d := 5) (by decide +kernel) (by decide) (fun k7 => ?_) (fun k7 => ?_)
    · refine mm_ok_bl (l := [(.iconst (-1), 1)]) (pc' := 18) (lo' := [some (.ref 7), some (.int a1), some (.int a2), some (.ref h3), none]) (st' := [.int (-1 : Int32)]) (q' := q6) (P := (True) ∧ (True)) (by decide +kernel) (by rcases hs_h3 with rfl | rfl | rfl | rfl | rfl | rfl <;> rfl) rfl (And.intro trivial trivial) ?_
      exact mm_ok_iret (by decide +kernel)
    · refine mm_ok_bl (l := [(.aload 3, 1), (.iconst (0), 1)]) (pc' := 21) (lo' := [some (.ref 7), some (.int a1), some (.int a2), some (.ref h3), none]) (st' := [.int (0 : Int32), .ref h3]) (q' := q6) (P := (True) ∧ ((True) ∧ (True))) (by decide +kernel) (by rcases hs_h3 with rfl | rfl | rfl | rfl | rfl | rfl <;> rfl) rfl (And.intro trivial (And.intro trivial trivial)) ?_
      refine mm_ok_call (cz := mm_cvi) (j := .invokevirtual 1649) (y := 103) (as := [.ref h3, .int (0 : Int32)]) (t := []) (by decide +kernel) (by rcases hs_h3 with rfl | rfl | rfl | rfl | rfl | rfl <;> rfl) (fun _ _ h => mm_up (k := 1) (by decide) (x8_rowRefusal_ok h hs_h3)) (fun r8 q9 => ?_)
      refine mm_ok_bl (l := [(.istore 4, 2), (.iload 4, 2)]) (pc' := 28) (lo' := [some (.ref 7), some (.int a1), some (.int a2), some (.ref h3), some (.int r8)]) (st' := [.int r8]) (q' := q9) (P := (True) ∧ ((True) ∧ (True))) (by decide +kernel) (by rcases hs_h3 with rfl | rfl | rfl | rfl | rfl | rfl <;> rfl) rfl (And.intro trivial (And.intro trivial trivial)) ?_
      refine mm_ok_ifCond_ne (pt := 47) (d := 19) (by decide +kernel) (by decide) (fun k10 => ?_) (fun k10 => ?_)
      · refine mm_ok_bl (l := [(.aload 0, 1), (.getfield 710, 3), (.aload 3, 1), (.iload 2, 1), (.iconst (10), 2), (.idiv, 1), (.iload 2, 1), (.iconst (10), 2), (.irem, 1)]) (pc' := 44) (lo' := [some (.ref 7), some (.int a1), some (.int a2), some (.ref h3), some (.int r8)]) (st' := [.int (mm_rem a2 (10 : Int32)), .int (a2 / (10 : Int32)), .ref h3, .ref 39]) (q' := q9) (P := (True) ∧ ((True) ∧ ((True) ∧ ((True) ∧ ((True) ∧ ((¬ ((10 : Int32) = 0)) ∧ ((True) ∧ ((True) ∧ ((¬ ((10 : Int32) = 0)) ∧ (True)))))))))) (by decide +kernel) (by rcases hs_h3 with rfl | rfl | rfl | rfl | rfl | rfl <;> rfl) rfl (And.intro trivial (And.intro trivial (And.intro trivial (And.intro trivial (And.intro trivial (And.intro (by decide) (And.intro trivial (And.intro trivial (And.intro (by decide) trivial))))))))) ?_
        refine mm_ok_call (cz := mm_cvu) (j := .invokevirtual 403) (y := 25) (as := [.ref 39, .ref h3, .int (a2 / (10 : Int32)), .int (mm_rem a2 (10 : Int32))]) (t := []) (by decide +kernel) (by rcases hs_h3 with rfl | rfl | rfl | rfl | rfl | rfl <;> rfl) (fun _ _ h => mm_up (k := 6) (by decide) (x2_gather_ok h hs_h3)) (fun u11 q12 => ?_)
        refine mm_ok_bl (l := [(.iload 4, 2)]) (pc' := 49) (lo' := [some (.ref 7), some (.int a1), some (.int a2), some (.ref h3), some (.int r8)]) (st' := [.int r8]) (q' := q12) (P := (True) ∧ (True)) (by decide +kernel) (by rcases hs_h3 with rfl | rfl | rfl | rfl | rfl | rfl <;> rfl) rfl (And.intro trivial trivial) ?_
        exact mm_ok_iret (by decide +kernel)
      · refine mm_ok_bl (l := [(.iload 4, 2)]) (pc' := 49) (lo' := [some (.ref 7), some (.int a1), some (.int a2), some (.ref h3), some (.int r8)]) (st' := [.int r8]) (q' := q9) (P := (True) ∧ (True)) (by decide +kernel) (by rcases hs_h3 with rfl | rfl | rfl | rfl | rfl | rfl <;> rfl) rfl (And.intro trivial trivial) ?_
        exact mm_ok_iret (by decide +kernel)
def x11_match_j14 (a3 : Int32) (s0 : Int32) (q : mm_Q) : Option (Int32 × mm_Q) := (if s0 = 0 then (mm_cl (x2_scoreAt a3 q) (fun r5 q6 => (some (r5, q6)))) else (some (s0, q)))
set_option maxRecDepth 20000 in
theorem x11_match_j14_ok {L : Nat} (a3 : Int32) (s0 : Int32) (q : mm_Q) : mm_ok mm_cvi (mm_Runs 7) 11 false cX11_match (some .int) L 14 [some (.ref 7), none, none, some (.int a3), none] [.int s0] q (x11_match_j14 a3 s0 q) := by
  unfold x11_match_j14
  refine mm_ok_bl (l := [(.istore 4, 2), (.iload 4, 2)]) (pc' := 18) (lo' := [some (.ref 7), none, none, some (.int a3), some (.int s0)]) (st' := [.int s0]) (q' := q) (P := (True) ∧ ((True) ∧ (True))) (by decide +kernel) rfl rfl (And.intro trivial (And.intro trivial trivial)) ?_
  refine mm_ok_ifCond_eq (pt := 26) (d := 8) (by decide +kernel) (by decide) (fun k4 => ?_) (fun k4 => ?_)
  · refine mm_ok_bl (l := [(.aload 0, 1), (.getfield 710, 3), (.iload 3, 1)]) (pc' := 31) (lo' := [some (.ref 7), none, none, some (.int a3), some (.int s0)]) (st' := [.int a3, .ref 39]) (q' := q) (P := (True) ∧ ((True) ∧ ((True) ∧ (True)))) (by decide +kernel) rfl rfl (And.intro trivial (And.intro trivial (And.intro trivial trivial))) ?_
    refine mm_ok_call (cz := mm_cvi) (j := .invokevirtual 433) (y := 27) (as := [.ref 39, .int a3]) (t := []) (by decide +kernel) rfl (fun _ _ h => mm_up (k := 1) (by decide) (x2_scoreAt_ok h)) (fun r5 q6 => ?_)
    exact mm_ok_iret (by decide +kernel)
  · refine mm_ok_bl (l := [(.iload 4, 2)]) (pc' := 23) (lo' := [some (.ref 7), none, none, some (.int a3), some (.int s0)]) (st' := [.int s0]) (q' := q) (P := (True) ∧ (True)) (by decide +kernel) rfl rfl (And.intro trivial trivial) ?_
    refine mm_ok_goto (pt := 34) (d := 11) (by decide +kernel) (by decide) ?_
    exact mm_ok_iret (by decide +kernel)
def x11_match (a1 : Int32) (a2 : Int32) (a3 : Int32) (q : mm_Q) : Option (Int32 × mm_Q) := (if 0 ≤ a3 then (mm_cl (x11_matchRefusal a1 a2 q) (fun r2 q3 => (x11_match_j14 a3 r2 q3))) else (x11_match_j14 a3 (-1 : Int32) q))
set_option maxRecDepth 20000 in
theorem x11_match_ok {L : Nat} {a1 : Int32} {a2 : Int32} {a3 : Int32} {q : mm_Q} {r : Int32} {q1 : mm_Q} (h : x11_match a1 a2 a3 q = some (r, q1)) : mm_Runs 8 151 [.ref 7, .int a1, .int a2, .int a3] (mm_wq L q) (mm_cvi r) (mm_wq L q1) := by
  refine mm_runs_of (d := 7) (L := L) rfl (by decide +kernel) rfl rfl (?_ : mm_ok mm_cvi (mm_Runs 7) 11 false cX11_match (some .int) L 0 [some (.ref 7), some (.int a1), some (.int a2), some (.int a3), none] [] q (x11_match a1 a2 a3 q)) h
  unfold x11_match
  refine mm_ok_bl (l := [(.iload 3, 1)]) (pc' := 1) (lo' := [some (.ref 7), some (.int a1), some (.int a2), some (.int a3), none]) (st' := [.int a3]) (q' := q) (P := (True) ∧ (True)) (by decide +kernel) rfl rfl (And.intro trivial trivial) ?_
  refine mm_ok_ifCond_ge (pt := 8) (d := 7) (by decide +kernel) (by decide) (fun k1 => ?_) (fun k1 => ?_)
  · refine mm_ok_bl (l := [(.aload 0, 1), (.iload 1, 1), (.iload 2, 1)]) (pc' := 11) (lo' := [some (.ref 7), some (.int a1), some (.int a2), some (.int a3), none]) (st' := [.int a2, .int a1, .ref 7]) (q' := q) (P := (True) ∧ ((True) ∧ ((True) ∧ (True)))) (by decide +kernel) rfl rfl (And.intro trivial (And.intro trivial (And.intro trivial trivial))) ?_
    refine mm_ok_call (cz := mm_cvi) (j := .invokevirtual 2946) (y := 184) (as := [.ref 7, .int a1, .int a2]) (t := []) (by decide +kernel) rfl (fun _ _ h => mm_up (k := 7) (by decide) (x11_matchRefusal_ok h)) (fun r2 q3 => ?_)
    exact mm_ok_sub (lo := [some (.ref 7), none, none, some (.int a3), none]) (And.intro rfl (And.intro rfl trivial)) (x11_match_j14_ok a3 r2 q3)
  · refine mm_ok_bl (l := [(.iconst (-1), 1)]) (pc' := 5) (lo' := [some (.ref 7), some (.int a1), some (.int a2), some (.int a3), none]) (st' := [.int (-1 : Int32)]) (q' := q) (P := (True) ∧ (True)) (by decide +kernel) rfl rfl (And.intro trivial trivial) ?_
    refine mm_ok_goto (pt := 14) (d := 9) (by decide +kernel) (by decide) ?_
    exact mm_ok_sub (lo := [some (.ref 7), none, none, some (.int a3), none]) (And.intro rfl (And.intro rfl trivial)) (x11_match_j14_ok a3 (-1 : Int32) q)
def x11_winner (a1 : Int32) (a2 : Int32) (q : mm_Q) : Option (Int32 × mm_Q) := (mm_cl (x11_matchRefusal a1 a2 q) (fun r1 q2 => (if r1 = 0 then (mm_cl (x2_firstPlace q2) (fun r4 q5 => (mm_cl (x2_spitterAt r4 q5) (fun r6 q7 => (some (r6, q7)))))) else (some (r1, q2)))))
set_option maxRecDepth 20000 in
theorem x11_winner_ok {L : Nat} {a1 : Int32} {a2 : Int32} {q : mm_Q} {r : Int32} {q1 : mm_Q} (h : x11_winner a1 a2 q = some (r, q1)) : mm_Runs 8 152 [.ref 7, .int a1, .int a2] (mm_wq L q) (mm_cvi r) (mm_wq L q1) := by
  refine mm_runs_of (d := 7) (L := L) rfl (by decide +kernel) rfl rfl (?_ : mm_ok mm_cvi (mm_Runs 7) 11 false cX11_winner (some .int) L 0 [some (.ref 7), some (.int a1), some (.int a2), none] [] q (x11_winner a1 a2 q)) h
  unfold x11_winner
  refine mm_ok_bl (l := [(.aload 0, 1), (.iload 1, 1), (.iload 2, 1)]) (pc' := 3) (lo' := [some (.ref 7), some (.int a1), some (.int a2), none]) (st' := [.int a2, .int a1, .ref 7]) (q' := q) (P := (True) ∧ ((True) ∧ ((True) ∧ (True)))) (by decide +kernel) rfl rfl (And.intro trivial (And.intro trivial (And.intro trivial trivial))) ?_
  refine mm_ok_call (cz := mm_cvi) (j := .invokevirtual 2946) (y := 184) (as := [.ref 7, .int a1, .int a2]) (t := []) (by decide +kernel) rfl (fun _ _ h => mm_up (k := 7) (by decide) (x11_matchRefusal_ok h)) (fun r1 q2 => ?_)
  refine mm_ok_bl (l := [(.istore 3, 1), (.iload 3, 1)]) (pc' := 8) (lo' := [some (.ref 7), some (.int a1), some (.int a2), some (.int r1)]) (st' := [.int r1]) (q' := q2) (P := (True) ∧ ((True) ∧ (True))) (by decide +kernel) rfl rfl (And.intro trivial (And.intro trivial trivial)) ?_
  refine mm_ok_ifCond_eq (pt := 15) (d := 7) (by decide +kernel) (by decide) (fun k3 => ?_) (fun k3 => ?_)
  · refine mm_ok_bl (l := [(.aload 0, 1), (.getfield 710, 3), (.aload 0, 1), (.getfield 710, 3)]) (pc' := 23) (lo' := [some (.ref 7), some (.int a1), some (.int a2), some (.int r1)]) (st' := [.ref 39, .ref 39]) (q' := q2) (P := (True) ∧ ((True) ∧ ((True) ∧ ((True) ∧ (True))))) (by decide +kernel) rfl rfl (And.intro trivial (And.intro trivial (And.intro trivial (And.intro trivial trivial)))) ?_
    refine mm_ok_call (cz := mm_cvi) (j := .invokevirtual 464) (y := 29) (as := [.ref 39]) (t := [.ref 39]) (by decide +kernel) rfl (fun _ _ h => mm_up (k := 2) (by decide) (x2_firstPlace_ok h)) (fun r4 q5 => ?_)
    refine mm_ok_call (cz := mm_cvi) (j := .invokevirtual 449) (y := 28) (as := [.ref 39, .int r4]) (t := []) (by decide +kernel) rfl (fun _ _ h => mm_up (k := 1) (by decide) (x2_spitterAt_ok h)) (fun r6 q7 => ?_)
    exact mm_ok_iret (by decide +kernel)
  · refine mm_ok_bl (l := [(.iload 3, 1)]) (pc' := 12) (lo' := [some (.ref 7), some (.int a1), some (.int a2), some (.int r1)]) (st' := [.int r1]) (q' := q2) (P := (True) ∧ (True)) (by decide +kernel) rfl rfl (And.intro trivial trivial) ?_
    refine mm_ok_goto (pt := 29) (d := 17) (by decide +kernel) (by decide) ?_
    exact mm_ok_iret (by decide +kernel)
def x11_last (a1 : Int32) (a2 : Int32) (a3 : Int32) (q : mm_Q) : Option (Int64 × mm_Q) := (if a3 < 0 then (some ((-9223372036854775808 : Int64), q)) else (if (2 : Int32) < a3 then (some ((-9223372036854775808 : Int64), q)) else (mm_cl (x11_matchRefusal a1 a2 q) (fun r3 q4 => (if r3 = 0 then (mm_cl (x2_size q4) (fun r6 q7 => (if r6 = 0 then (some ((-2 : Int64), q7)) else (mm_cl (x2_weighLast q7) (fun u9 q10 => (if a3 = (2 : Int32) then (mm_cl (x2_runBits q10) (fun r12 q13 => (some (r12.toInt64, q13)))) else (mm_cl (x2_chanceAbove q10) (fun r14 q15 => (mm_cl (x2_chanceBelow q15) (fun r16 q17 => (mm_cl (x11_fractionPart r14 r16 a3 q17) (fun r18 q19 => (some (r18, q19)))))))))))))) else (some ((-9223372036854775808 : Int64), q4)))))))
set_option maxRecDepth 20000 in
theorem x11_last_ok {L : Nat} {a1 : Int32} {a2 : Int32} {a3 : Int32} {q : mm_Q} {r : Int64} {q1 : mm_Q} (h : x11_last a1 a2 a3 q = some (r, q1)) : mm_Runs 103 153 [.ref 7, .int a1, .int a2, .int a3] (mm_wq L q) (mm_cvl r) (mm_wq L q1) := by
  refine mm_runs_of (d := 102) (L := L) rfl (by decide +kernel) rfl rfl (?_ : mm_ok mm_cvl (mm_Runs 102) 11 false cX11_last (some .long) L 0 [some (.ref 7), some (.int a1), some (.int a2), some (.int a3)] [] q (x11_last a1 a2 a3 q)) h
  unfold x11_last
  refine mm_ok_bl (l := [(.iload 3, 1)]) (pc' := 1) (lo' := [some (.ref 7), some (.int a1), some (.int a2), some (.int a3)]) (st' := [.int a3]) (q' := q) (P := (True) ∧ (True)) (by decide +kernel) rfl rfl (And.intro trivial trivial) ?_
  refine mm_ok_ifCond_lt (pt := 18) (d := 17) (by decide +kernel) (by decide) (fun k1 => ?_) (fun k1 => ?_)
  · refine mm_ok_bl (l := [(.goto_w (-9223372036854775808), 3)]) (pc' := 21) (lo' := [some (.ref 7), some (.int a1), some (.int a2), some (.int a3)]) (st' := [.long (-9223372036854775808 : Int64)]) (q' := q) (P := (True) ∧ (True)) (by decide +kernel) rfl rfl (And.intro trivial trivial) ?_
    exact mm_ok_lret (by decide +kernel)
  · refine mm_ok_bl (l := [(.iload 3, 1), (.iconst (2), 1)]) (pc' := 6) (lo' := [some (.ref 7), some (.int a1), some (.int a2), some (.int a3)]) (st' := [.int (2 : Int32), .int a3]) (q' := q) (P := (True) ∧ ((True) ∧ (True))) (by decide +kernel) rfl rfl (And.intro trivial (And.intro trivial trivial)) ?_
    refine mm_ok_if_icmp_gt (pt := 18) (d := 12) (by decide +kernel) (by decide) (fun k2 => ?_) (fun k2 => ?_)
    · refine mm_ok_bl (l := [(.goto_w (-9223372036854775808), 3)]) (pc' := 21) (lo' := [some (.ref 7), some (.int a1), some (.int a2), some (.int a3)]) (st' := [.long (-9223372036854775808 : Int64)]) (q' := q) (P := (True) ∧ (True)) (by decide +kernel) rfl rfl (And.intro trivial trivial) ?_
      exact mm_ok_lret (by decide +kernel)
    · refine mm_ok_bl (l := [(.aload 0, 1), (.iload 1, 1), (.iload 2, 1)]) (pc' := 12) (lo' := [some (.ref 7), some (.int a1), some (.int a2), some (.int a3)]) (st' := [.int a2, .int a1, .ref 7]) (q' := q) (P := (True) ∧ ((True) ∧ ((True) ∧ (True)))) (by decide +kernel) rfl rfl (And.intro trivial (And.intro trivial (And.intro trivial trivial))) ?_
      refine mm_ok_call (cz := mm_cvi) (j := .invokevirtual 2946) (y := 184) (as := [.ref 7, .int a1, .int a2]) (t := []) (by decide +kernel) rfl (fun _ _ h => mm_up (k := 7) (by decide) (x11_matchRefusal_ok h)) (fun r3 q4 => ?_)
      refine mm_ok_ifCond_eq (pt := 22) (d := 7) (by decide +kernel) (by decide) (fun k5 => ?_) (fun k5 => ?_)
      · refine mm_ok_bl (l := [(.aload 0, 1), (.getfield 710, 3)]) (pc' := 26) (lo' := [some (.ref 7), some (.int a1), some (.int a2), some (.int a3)]) (st' := [.ref 39]) (q' := q4) (P := (True) ∧ ((True) ∧ (True))) (by decide +kernel) rfl rfl (And.intro trivial (And.intro trivial trivial)) ?_
        refine mm_ok_call (cz := mm_cvi) (j := .invokevirtual 416) (y := 26) (as := [.ref 39]) (t := []) (by decide +kernel) rfl (fun _ _ h => mm_up (k := 1) (by decide) (x2_size_ok h)) (fun r6 q7 => ?_)
        refine mm_ok_ifCond_ne (pt := 36) (d := 7) (by decide +kernel) (by decide) (fun k8 => ?_) (fun k8 => ?_)
        · refine mm_ok_bl (l := [(.goto_w (-2), 3)]) (pc' := 35) (lo' := [some (.ref 7), some (.int a1), some (.int a2), some (.int a3)]) (st' := [.long (-2 : Int64)]) (q' := q7) (P := (True) ∧ (True)) (by decide +kernel) rfl rfl (And.intro trivial trivial) ?_
          exact mm_ok_lret (by decide +kernel)
        · refine mm_ok_bl (l := [(.aload 0, 1), (.getfield 710, 3)]) (pc' := 40) (lo' := [some (.ref 7), some (.int a1), some (.int a2), some (.int a3)]) (st' := [.ref 39]) (q' := q7) (P := (True) ∧ ((True) ∧ (True))) (by decide +kernel) rfl rfl (And.intro trivial (And.intro trivial trivial)) ?_
          refine mm_ok_call (cz := mm_cvu) (j := .invokevirtual 512) (y := 32) (as := [.ref 39]) (t := []) (by decide +kernel) rfl (fun _ _ h => mm_up (k := 102) (by decide) (x2_weighLast_ok h)) (fun u9 q10 => ?_)
          refine mm_ok_bl (l := [(.iload 3, 1), (.iconst (2), 1)]) (pc' := 45) (lo' := [some (.ref 7), some (.int a1), some (.int a2), some (.int a3)]) (st' := [.int (2 : Int32), .int a3]) (q' := q10) (P := (True) ∧ ((True) ∧ (True))) (by decide +kernel) rfl rfl (And.intro trivial (And.intro trivial trivial)) ?_
          refine mm_ok_if_icmp_ne (pt := 59) (d := 14) (by decide +kernel) (by decide) (fun k11 => ?_) (fun k11 => ?_)
          · refine mm_ok_bl (l := [(.aload 0, 1), (.getfield 710, 3)]) (pc' := 52) (lo' := [some (.ref 7), some (.int a1), some (.int a2), some (.int a3)]) (st' := [.ref 39]) (q' := q10) (P := (True) ∧ ((True) ∧ (True))) (by decide +kernel) rfl rfl (And.intro trivial (And.intro trivial trivial)) ?_
            refine mm_ok_call (cz := mm_cvi) (j := .invokevirtual 560) (y := 35) (as := [.ref 39]) (t := []) (by decide +kernel) rfl (fun _ _ h => mm_up (k := 1) (by decide) (x2_runBits_ok h)) (fun r12 q13 => ?_)
            refine mm_ok_bl (l := [(.i2l, 1)]) (pc' := 56) (lo' := [some (.ref 7), some (.int a1), some (.int a2), some (.int a3)]) (st' := [.long r12.toInt64]) (q' := q13) (P := (True) ∧ (True)) (by decide +kernel) rfl rfl (And.intro trivial trivial) ?_
            refine mm_ok_goto (pt := 77) (d := 21) (by decide +kernel) (by decide) ?_
            exact mm_ok_lret (by decide +kernel)
          · refine mm_ok_bl (l := [(.aload 0, 1), (.getfield 710, 3)]) (pc' := 63) (lo' := [some (.ref 7), some (.int a1), some (.int a2), some (.int a3)]) (st' := [.ref 39]) (q' := q10) (P := (True) ∧ ((True) ∧ (True))) (by decide +kernel) rfl rfl (And.intro trivial (And.intro trivial trivial)) ?_
            refine mm_ok_call (cz := mm_cvl) (j := .invokevirtual 528) (y := 33) (as := [.ref 39]) (t := []) (by decide +kernel) rfl (fun _ _ h => mm_up (k := 1) (by decide) (x2_chanceAbove_ok h)) (fun r14 q15 => ?_)
            refine mm_ok_bl (l := [(.aload 0, 1), (.getfield 710, 3)]) (pc' := 70) (lo' := [some (.ref 7), some (.int a1), some (.int a2), some (.int a3)]) (st' := [.ref 39, .long r14]) (q' := q15) (P := (True) ∧ ((True) ∧ (True))) (by decide +kernel) rfl rfl (And.intro trivial (And.intro trivial trivial)) ?_
            refine mm_ok_call (cz := mm_cvl) (j := .invokevirtual 544) (y := 34) (as := [.ref 39]) (t := [.long r14]) (by decide +kernel) rfl (fun _ _ h => mm_up (k := 2) (by decide) (x2_chanceBelow_ok h)) (fun r16 q17 => ?_)
            refine mm_ok_bl (l := [(.iload 3, 1)]) (pc' := 74) (lo' := [some (.ref 7), some (.int a1), some (.int a2), some (.int a3)]) (st' := [.int a3, .long r16, .long r14]) (q' := q17) (P := (True) ∧ (True)) (by decide +kernel) rfl rfl (And.intro trivial trivial) ?_
            refine mm_ok_call (cz := mm_cvl) (j := .invokestatic 2995) (y := 187) (as := [.long r14, .long r16, .int a3]) (t := []) (by decide +kernel) rfl (fun _ _ h => mm_up (k := 2) (by decide) (x11_fractionPart_ok h)) (fun r18 q19 => ?_)
            exact mm_ok_lret (by decide +kernel)
      · refine mm_ok_bl (l := [(.goto_w (-9223372036854775808), 3)]) (pc' := 21) (lo' := [some (.ref 7), some (.int a1), some (.int a2), some (.int a3)]) (st' := [.long (-9223372036854775808 : Int64)]) (q' := q4) (P := (True) ∧ (True)) (by decide +kernel) rfl rfl (And.intro trivial trivial) ?_
        exact mm_ok_lret (by decide +kernel)
def x11_place_j21 (a3 : Int32) (s0 : Int32) (q : mm_Q) : Option (Int32 × mm_Q) := (if s0 = 0 then (mm_cl (x2_greatestWinningPlace a3 q) (fun r7 q8 => (some (r7, q8)))) else (some (s0, q)))
set_option maxRecDepth 20000 in
theorem x11_place_j21_ok {L : Nat} (a3 : Int32) (s0 : Int32) (q : mm_Q) : mm_ok mm_cvi (mm_Runs 7) 11 false cX11_place (some .int) L 21 [some (.ref 7), none, none, some (.int a3), none] [.int s0] q (x11_place_j21 a3 s0 q) := by
  unfold x11_place_j21
  refine mm_ok_bl (l := [(.istore 4, 2), (.iload 4, 2)]) (pc' := 25) (lo' := [some (.ref 7), none, none, some (.int a3), some (.int s0)]) (st' := [.int s0]) (q' := q) (P := (True) ∧ ((True) ∧ (True))) (by decide +kernel) rfl rfl (And.intro trivial (And.intro trivial trivial)) ?_
  refine mm_ok_ifCond_eq (pt := 33) (d := 8) (by decide +kernel) (by decide) (fun k6 => ?_) (fun k6 => ?_)
  · refine mm_ok_bl (l := [(.aload 0, 1), (.getfield 710, 3), (.iload 3, 1)]) (pc' := 38) (lo' := [some (.ref 7), none, none, some (.int a3), some (.int s0)]) (st' := [.int a3, .ref 39]) (q' := q) (P := (True) ∧ ((True) ∧ ((True) ∧ (True)))) (by decide +kernel) rfl rfl (And.intro trivial (And.intro trivial (And.intro trivial trivial))) ?_
    refine mm_ok_call (cz := mm_cvi) (j := .invokevirtual 481) (y := 30) (as := [.ref 39, .int a3]) (t := []) (by decide +kernel) rfl (fun _ _ h => mm_up (k := 2) (by decide) (x2_greatestWinningPlace_ok h)) (fun r7 q8 => ?_)
    exact mm_ok_iret (by decide +kernel)
  · refine mm_ok_bl (l := [(.iload 4, 2)]) (pc' := 30) (lo' := [some (.ref 7), none, none, some (.int a3), some (.int s0)]) (st' := [.int s0]) (q' := q) (P := (True) ∧ (True)) (by decide +kernel) rfl rfl (And.intro trivial trivial) ?_
    refine mm_ok_goto (pt := 41) (d := 11) (by decide +kernel) (by decide) ?_
    exact mm_ok_iret (by decide +kernel)
def x11_place (a1 : Int32) (a2 : Int32) (a3 : Int32) (q : mm_Q) : Option (Int32 × mm_Q) := (mm_cl (x4_isSpitter a3 q) (fun r1 q2 => (if r1 = 0 then (x11_place_j21 a3 (-1 : Int32) q2) else (mm_cl (x11_matchRefusal a1 a2 q2) (fun r4 q5 => (x11_place_j21 a3 r4 q5))))))
set_option maxRecDepth 20000 in
theorem x11_place_ok {L : Nat} {a1 : Int32} {a2 : Int32} {a3 : Int32} {q : mm_Q} {r : Int32} {q1 : mm_Q} (h : x11_place a1 a2 a3 q = some (r, q1)) : mm_Runs 8 154 [.ref 7, .int a1, .int a2, .int a3] (mm_wq L q) (mm_cvi r) (mm_wq L q1) := by
  refine mm_runs_of (d := 7) (L := L) rfl (by decide +kernel) rfl rfl (?_ : mm_ok mm_cvi (mm_Runs 7) 11 false cX11_place (some .int) L 0 [some (.ref 7), some (.int a1), some (.int a2), some (.int a3), none] [] q (x11_place a1 a2 a3 q)) h
  unfold x11_place
  refine mm_ok_bl (l := [(.aload 0, 1), (.getfield 704, 3), (.iload 3, 1)]) (pc' := 5) (lo' := [some (.ref 7), some (.int a1), some (.int a2), some (.int a3), none]) (st' := [.int a3, .ref 8]) (q' := q) (P := (True) ∧ ((True) ∧ ((True) ∧ (True)))) (by decide +kernel) rfl rfl (And.intro trivial (And.intro trivial (And.intro trivial trivial))) ?_
  refine mm_ok_call (cz := mm_cvi) (j := .invokevirtual 817) (y := 51) (as := [.ref 8, .int a3]) (t := []) (by decide +kernel) rfl (fun _ _ h => mm_up (k := 1) (by decide) (x4_isSpitter_ok h)) (fun r1 q2 => ?_)
  refine mm_ok_ifCond_eq (pt := 20) (d := 12) (by decide +kernel) (by decide) (fun k3 => ?_) (fun k3 => ?_)
  · refine mm_ok_bl (l := [(.iconst (-1), 1)]) (pc' := 21) (lo' := [some (.ref 7), some (.int a1), some (.int a2), some (.int a3), none]) (st' := [.int (-1 : Int32)]) (q' := q2) (P := (True) ∧ (True)) (by decide +kernel) rfl rfl (And.intro trivial trivial) ?_
    exact mm_ok_sub (lo := [some (.ref 7), none, none, some (.int a3), none]) (And.intro rfl (And.intro rfl trivial)) (x11_place_j21_ok a3 (-1 : Int32) q2)
  · refine mm_ok_bl (l := [(.aload 0, 1), (.iload 1, 1), (.iload 2, 1)]) (pc' := 14) (lo' := [some (.ref 7), some (.int a1), some (.int a2), some (.int a3), none]) (st' := [.int a2, .int a1, .ref 7]) (q' := q2) (P := (True) ∧ ((True) ∧ ((True) ∧ (True)))) (by decide +kernel) rfl rfl (And.intro trivial (And.intro trivial (And.intro trivial trivial))) ?_
    refine mm_ok_call (cz := mm_cvi) (j := .invokevirtual 2946) (y := 184) (as := [.ref 7, .int a1, .int a2]) (t := []) (by decide +kernel) rfl (fun _ _ h => mm_up (k := 7) (by decide) (x11_matchRefusal_ok h)) (fun r4 q5 => ?_)
    refine mm_ok_goto (pt := 21) (d := 4) (by decide +kernel) (by decide) ?_
    exact mm_ok_sub (lo := [some (.ref 7), none, none, some (.int a3), none]) (And.intro rfl (And.intro rfl trivial)) (x11_place_j21_ok a3 r4 q5)
def x11_handicap_j21 (a3 : Int32) (s0 : Int32) (q : mm_Q) : Option (Int32 × mm_Q) := (if s0 = 0 then (mm_cl (x2_leastHandicap a3 q) (fun r7 q8 => (some (r7, q8)))) else (some (s0, q)))
set_option maxRecDepth 20000 in
theorem x11_handicap_j21_ok {L : Nat} (a3 : Int32) (s0 : Int32) (q : mm_Q) : mm_ok mm_cvi (mm_Runs 7) 11 false cX11_handicap (some .int) L 21 [some (.ref 7), none, none, some (.int a3), none] [.int s0] q (x11_handicap_j21 a3 s0 q) := by
  unfold x11_handicap_j21
  refine mm_ok_bl (l := [(.istore 4, 2), (.iload 4, 2)]) (pc' := 25) (lo' := [some (.ref 7), none, none, some (.int a3), some (.int s0)]) (st' := [.int s0]) (q' := q) (P := (True) ∧ ((True) ∧ (True))) (by decide +kernel) rfl rfl (And.intro trivial (And.intro trivial trivial)) ?_
  refine mm_ok_ifCond_eq (pt := 33) (d := 8) (by decide +kernel) (by decide) (fun k6 => ?_) (fun k6 => ?_)
  · refine mm_ok_bl (l := [(.aload 0, 1), (.getfield 710, 3), (.iload 3, 1)]) (pc' := 38) (lo' := [some (.ref 7), none, none, some (.int a3), some (.int s0)]) (st' := [.int a3, .ref 39]) (q' := q) (P := (True) ∧ ((True) ∧ ((True) ∧ (True)))) (by decide +kernel) rfl rfl (And.intro trivial (And.intro trivial (And.intro trivial trivial))) ?_
    refine mm_ok_call (cz := mm_cvi) (j := .invokevirtual 497) (y := 31) (as := [.ref 39, .int a3]) (t := []) (by decide +kernel) rfl (fun _ _ h => mm_up (k := 6) (by decide) (x2_leastHandicap_ok h)) (fun r7 q8 => ?_)
    exact mm_ok_iret (by decide +kernel)
  · refine mm_ok_bl (l := [(.iload 4, 2)]) (pc' := 30) (lo' := [some (.ref 7), none, none, some (.int a3), some (.int s0)]) (st' := [.int s0]) (q' := q) (P := (True) ∧ (True)) (by decide +kernel) rfl rfl (And.intro trivial trivial) ?_
    refine mm_ok_goto (pt := 41) (d := 11) (by decide +kernel) (by decide) ?_
    exact mm_ok_iret (by decide +kernel)
def x11_handicap (a1 : Int32) (a2 : Int32) (a3 : Int32) (q : mm_Q) : Option (Int32 × mm_Q) := (mm_cl (x4_isSpitter a3 q) (fun r1 q2 => (if r1 = 0 then (x11_handicap_j21 a3 (-1 : Int32) q2) else (mm_cl (x11_matchRefusal a1 a2 q2) (fun r4 q5 => (x11_handicap_j21 a3 r4 q5))))))
set_option maxRecDepth 20000 in
theorem x11_handicap_ok {L : Nat} {a1 : Int32} {a2 : Int32} {a3 : Int32} {q : mm_Q} {r : Int32} {q1 : mm_Q} (h : x11_handicap a1 a2 a3 q = some (r, q1)) : mm_Runs 8 155 [.ref 7, .int a1, .int a2, .int a3] (mm_wq L q) (mm_cvi r) (mm_wq L q1) := by
  refine mm_runs_of (d := 7) (L := L) rfl (by decide +kernel) rfl rfl (?_ : mm_ok mm_cvi (mm_Runs 7) 11 false cX11_handicap (some .int) L 0 [some (.ref 7), some (.int a1), some (.int a2), some (.int a3), none] [] q (x11_handicap a1 a2 a3 q)) h
  unfold x11_handicap
  refine mm_ok_bl (l := [(.aload 0, 1), (.getfield 704, 3), (.iload 3, 1)]) (pc' := 5) (lo' := [some (.ref 7), some (.int a1), some (.int a2), some (.int a3), none]) (st' := [.int a3, .ref 8]) (q' := q) (P := (True) ∧ ((True) ∧ ((True) ∧ (True)))) (by decide +kernel) rfl rfl (And.intro trivial (And.intro trivial (And.intro trivial trivial))) ?_
  refine mm_ok_call (cz := mm_cvi) (j := .invokevirtual 817) (y := 51) (as := [.ref 8, .int a3]) (t := []) (by decide +kernel) rfl (fun _ _ h => mm_up (k := 1) (by decide) (x4_isSpitter_ok h)) (fun r1 q2 => ?_)
  refine mm_ok_ifCond_eq (pt := 20) (d := 12) (by decide +kernel) (by decide) (fun k3 => ?_) (fun k3 => ?_)
  · refine mm_ok_bl (l := [(.iconst (-1), 1)]) (pc' := 21) (lo' := [some (.ref 7), some (.int a1), some (.int a2), some (.int a3), none]) (st' := [.int (-1 : Int32)]) (q' := q2) (P := (True) ∧ (True)) (by decide +kernel) rfl rfl (And.intro trivial trivial) ?_
    exact mm_ok_sub (lo := [some (.ref 7), none, none, some (.int a3), none]) (And.intro rfl (And.intro rfl trivial)) (x11_handicap_j21_ok a3 (-1 : Int32) q2)
  · refine mm_ok_bl (l := [(.aload 0, 1), (.iload 1, 1), (.iload 2, 1)]) (pc' := 14) (lo' := [some (.ref 7), some (.int a1), some (.int a2), some (.int a3), none]) (st' := [.int a2, .int a1, .ref 7]) (q' := q2) (P := (True) ∧ ((True) ∧ ((True) ∧ (True)))) (by decide +kernel) rfl rfl (And.intro trivial (And.intro trivial (And.intro trivial trivial))) ?_
    refine mm_ok_call (cz := mm_cvi) (j := .invokevirtual 2946) (y := 184) (as := [.ref 7, .int a1, .int a2]) (t := []) (by decide +kernel) rfl (fun _ _ h => mm_up (k := 7) (by decide) (x11_matchRefusal_ok h)) (fun r4 q5 => ?_)
    refine mm_ok_goto (pt := 21) (d := 4) (by decide +kernel) (by decide) ?_
    exact mm_ok_sub (lo := [some (.ref 7), none, none, some (.int a3), none]) (And.intro rfl (And.intro rfl trivial)) (x11_handicap_j21_ok a3 r4 q5)
def x11_steps (a1 : Int32) (a2 : Int32) (q : mm_Q) : Option (Int32 × mm_Q) := (mm_cl (x4_isSpitter a1 q) (fun r1 q2 => (if r1 = 0 then (some ((-1 : Int32), q2)) else (if a2 < 0 then (some ((-1 : Int32), q2)) else (if a2 ≤ (999 : Int32) then (mm_cl (x6_inSteps a1 a2 q2) (fun r6 q7 => (some (r6, q7)))) else (some ((-1 : Int32), q2)))))))
set_option maxRecDepth 20000 in
theorem x11_steps_ok {L : Nat} {a1 : Int32} {a2 : Int32} {q : mm_Q} {r : Int32} {q1 : mm_Q} (h : x11_steps a1 a2 q = some (r, q1)) : mm_Runs 4 156 [.ref 7, .int a1, .int a2] (mm_wq L q) (mm_cvi r) (mm_wq L q1) := by
  refine mm_runs_of (d := 3) (L := L) rfl (by decide +kernel) rfl rfl (?_ : mm_ok mm_cvi (mm_Runs 3) 11 false cX11_steps (some .int) L 0 [some (.ref 7), some (.int a1), some (.int a2)] [] q (x11_steps a1 a2 q)) h
  unfold x11_steps
  refine mm_ok_bl (l := [(.aload 0, 1), (.getfield 704, 3), (.iload 1, 1)]) (pc' := 5) (lo' := [some (.ref 7), some (.int a1), some (.int a2)]) (st' := [.int a1, .ref 8]) (q' := q) (P := (True) ∧ ((True) ∧ ((True) ∧ (True)))) (by decide +kernel) rfl rfl (And.intro trivial (And.intro trivial (And.intro trivial trivial))) ?_
  refine mm_ok_call (cz := mm_cvi) (j := .invokevirtual 817) (y := 51) (as := [.ref 8, .int a1]) (t := []) (by decide +kernel) rfl (fun _ _ h => mm_up (k := 1) (by decide) (x4_isSpitter_ok h)) (fun r1 q2 => ?_)
  refine mm_ok_ifCond_eq (pt := 22) (d := 14) (by decide +kernel) (by decide) (fun k3 => ?_) (fun k3 => ?_)
  · refine mm_ok_bl (l := [(.iconst (-1), 1)]) (pc' := 23) (lo' := [some (.ref 7), some (.int a1), some (.int a2)]) (st' := [.int (-1 : Int32)]) (q' := q2) (P := (True) ∧ (True)) (by decide +kernel) rfl rfl (And.intro trivial trivial) ?_
    exact mm_ok_iret (by decide +kernel)
  · refine mm_ok_bl (l := [(.iload 2, 1)]) (pc' := 12) (lo' := [some (.ref 7), some (.int a1), some (.int a2)]) (st' := [.int a2]) (q' := q2) (P := (True) ∧ (True)) (by decide +kernel) rfl rfl (And.intro trivial trivial) ?_
    refine mm_ok_ifCond_lt (pt := 22) (d := 10) (by decide +kernel) (by decide) (fun k4 => ?_) (fun k4 => ?_)
    · refine mm_ok_bl (l := [(.iconst (-1), 1)]) (pc' := 23) (lo' := [some (.ref 7), some (.int a1), some (.int a2)]) (st' := [.int (-1 : Int32)]) (q' := q2) (P := (True) ∧ (True)) (by decide +kernel) rfl rfl (And.intro trivial trivial) ?_
      exact mm_ok_iret (by decide +kernel)
    · refine mm_ok_bl (l := [(.iload 2, 1), (.iconst (999), 3)]) (pc' := 19) (lo' := [some (.ref 7), some (.int a1), some (.int a2)]) (st' := [.int (999 : Int32), .int a2]) (q' := q2) (P := (True) ∧ ((True) ∧ (True))) (by decide +kernel) rfl rfl (And.intro trivial (And.intro trivial trivial)) ?_
      refine mm_ok_if_icmp_le (pt := 24) (d := 5) (by decide +kernel) (by decide) (fun k5 => ?_) (fun k5 => ?_)
      · refine mm_ok_bl (l := [(.aload 0, 1), (.getfield 711, 3), (.iload 1, 1), (.iload 2, 1)]) (pc' := 30) (lo' := [some (.ref 7), some (.int a1), some (.int a2)]) (st' := [.int a2, .int a1, .ref 44]) (q' := q2) (P := (True) ∧ ((True) ∧ ((True) ∧ ((True) ∧ (True))))) (by decide +kernel) rfl rfl (And.intro trivial (And.intro trivial (And.intro trivial (And.intro trivial trivial)))) ?_
        refine mm_ok_call (cz := mm_cvi) (j := .invokevirtual 1122) (y := 70) (as := [.ref 44, .int a1, .int a2]) (t := []) (by decide +kernel) rfl (fun _ _ h => mm_up (k := 3) (by decide) (x6_inSteps_ok h)) (fun r6 q7 => ?_)
        exact mm_ok_iret (by decide +kernel)
      · refine mm_ok_bl (l := [(.iconst (-1), 1)]) (pc' := 23) (lo' := [some (.ref 7), some (.int a1), some (.int a2)]) (st' := [.int (-1 : Int32)]) (q' := q2) (P := (True) ∧ (True)) (by decide +kernel) rfl rfl (And.intro trivial trivial) ?_
        exact mm_ok_iret (by decide +kernel)
def x11_whose (a1 : Int32) (a2 : Int32) (q : mm_Q) : Option (Int32 × mm_Q) := (if a1 < 0 then (some ((-1 : Int32), q)) else (if (999 : Int32) < a1 then (some ((-1 : Int32), q)) else (if a2 < 0 then (some ((-1 : Int32), q)) else (if a2 ≤ (999 : Int32) then (mm_cl (x6_bitsOfSteppers a1 a2 q) (fun r5 q6 => (some (r5, q6)))) else (some ((-1 : Int32), q))))))
set_option maxRecDepth 20000 in
theorem x11_whose_ok {L : Nat} {a1 : Int32} {a2 : Int32} {q : mm_Q} {r : Int32} {q1 : mm_Q} (h : x11_whose a1 a2 q = some (r, q1)) : mm_Runs 5 157 [.ref 7, .int a1, .int a2] (mm_wq L q) (mm_cvi r) (mm_wq L q1) := by
  refine mm_runs_of (d := 4) (L := L) rfl (by decide +kernel) rfl rfl (?_ : mm_ok mm_cvi (mm_Runs 4) 11 false cX11_whose (some .int) L 0 [some (.ref 7), some (.int a1), some (.int a2)] [] q (x11_whose a1 a2 q)) h
  unfold x11_whose
  refine mm_ok_bl (l := [(.iload 1, 1)]) (pc' := 1) (lo' := [some (.ref 7), some (.int a1), some (.int a2)]) (st' := [.int a1]) (q' := q) (P := (True) ∧ (True)) (by decide +kernel) rfl rfl (And.intro trivial trivial) ?_
  refine mm_ok_ifCond_lt (pt := 22) (d := 21) (by decide +kernel) (by decide) (fun k1 => ?_) (fun k1 => ?_)
  · refine mm_ok_bl (l := [(.iconst (-1), 1)]) (pc' := 23) (lo' := [some (.ref 7), some (.int a1), some (.int a2)]) (st' := [.int (-1 : Int32)]) (q' := q) (P := (True) ∧ (True)) (by decide +kernel) rfl rfl (And.intro trivial trivial) ?_
    exact mm_ok_iret (by decide +kernel)
  · refine mm_ok_bl (l := [(.iload 1, 1), (.iconst (999), 3)]) (pc' := 8) (lo' := [some (.ref 7), some (.int a1), some (.int a2)]) (st' := [.int (999 : Int32), .int a1]) (q' := q) (P := (True) ∧ ((True) ∧ (True))) (by decide +kernel) rfl rfl (And.intro trivial (And.intro trivial trivial)) ?_
    refine mm_ok_if_icmp_gt (pt := 22) (d := 14) (by decide +kernel) (by decide) (fun k2 => ?_) (fun k2 => ?_)
    · refine mm_ok_bl (l := [(.iconst (-1), 1)]) (pc' := 23) (lo' := [some (.ref 7), some (.int a1), some (.int a2)]) (st' := [.int (-1 : Int32)]) (q' := q) (P := (True) ∧ (True)) (by decide +kernel) rfl rfl (And.intro trivial trivial) ?_
      exact mm_ok_iret (by decide +kernel)
    · refine mm_ok_bl (l := [(.iload 2, 1)]) (pc' := 12) (lo' := [some (.ref 7), some (.int a1), some (.int a2)]) (st' := [.int a2]) (q' := q) (P := (True) ∧ (True)) (by decide +kernel) rfl rfl (And.intro trivial trivial) ?_
      refine mm_ok_ifCond_lt (pt := 22) (d := 10) (by decide +kernel) (by decide) (fun k3 => ?_) (fun k3 => ?_)
      · refine mm_ok_bl (l := [(.iconst (-1), 1)]) (pc' := 23) (lo' := [some (.ref 7), some (.int a1), some (.int a2)]) (st' := [.int (-1 : Int32)]) (q' := q) (P := (True) ∧ (True)) (by decide +kernel) rfl rfl (And.intro trivial trivial) ?_
        exact mm_ok_iret (by decide +kernel)
      · refine mm_ok_bl (l := [(.iload 2, 1), (.iconst (999), 3)]) (pc' := 19) (lo' := [some (.ref 7), some (.int a1), some (.int a2)]) (st' := [.int (999 : Int32), .int a2]) (q' := q) (P := (True) ∧ ((True) ∧ (True))) (by decide +kernel) rfl rfl (And.intro trivial (And.intro trivial trivial)) ?_
        refine mm_ok_if_icmp_le (pt := 24) (d := 5) (by decide +kernel) (by decide) (fun k4 => ?_) (fun k4 => ?_)
        · refine mm_ok_bl (l := [(.aload 0, 1), (.getfield 711, 3), (.iload 1, 1), (.iload 2, 1)]) (pc' := 30) (lo' := [some (.ref 7), some (.int a1), some (.int a2)]) (st' := [.int a2, .int a1, .ref 44]) (q' := q) (P := (True) ∧ ((True) ∧ ((True) ∧ ((True) ∧ (True))))) (by decide +kernel) rfl rfl (And.intro trivial (And.intro trivial (And.intro trivial (And.intro trivial trivial)))) ?_
          refine mm_ok_call (cz := mm_cvi) (j := .invokevirtual 1138) (y := 71) (as := [.ref 44, .int a1, .int a2]) (t := []) (by decide +kernel) rfl (fun _ _ h => mm_up (k := 4) (by decide) (x6_bitsOfSteppers_ok h)) (fun r5 q6 => ?_)
          exact mm_ok_iret (by decide +kernel)
        · refine mm_ok_bl (l := [(.iconst (-1), 1)]) (pc' := 23) (lo' := [some (.ref 7), some (.int a1), some (.int a2)]) (st' := [.int (-1 : Int32)]) (q' := q) (P := (True) ∧ (True)) (by decide +kernel) rfl rfl (And.intro trivial trivial) ?_
          exact mm_ok_iret (by decide +kernel)
def x11_isSpitterAndAngle (a1 : Int32) (q : mm_Q) : Option (Int32 × mm_Q) := (if a1 < 0 then (some ((0 : Int32), q)) else (mm_cl (x4_isSpitter (a1 / (10 : Int32)) q) (fun r2 q3 => (if r2 = 0 then (some ((0 : Int32), q3)) else (if (9 : Int32) ≤ (mm_rem a1 (10 : Int32)) then (some ((0 : Int32), q3)) else (some ((1 : Int32), q3)))))))
set_option maxRecDepth 20000 in
theorem x11_isSpitterAndAngle_ok {L : Nat} {a1 : Int32} {q : mm_Q} {r : Int32} {q1 : mm_Q} (h : x11_isSpitterAndAngle a1 q = some (r, q1)) : mm_Runs 2 182 [.ref 7, .int a1] (mm_wq L q) (mm_cvi r) (mm_wq L q1) := by
  refine mm_runs_of (d := 1) (L := L) rfl (by decide +kernel) rfl rfl (?_ : mm_ok mm_cvi (mm_Runs 1) 11 false cX11_isSpitterAndAngle (some .boolean) L 0 [some (.ref 7), some (.int a1)] [] q (x11_isSpitterAndAngle a1 q)) h
  unfold x11_isSpitterAndAngle
  refine mm_ok_bl (l := [(.iload 1, 1)]) (pc' := 1) (lo' := [some (.ref 7), some (.int a1)]) (st' := [.int a1]) (q' := q) (P := (True) ∧ (True)) (by decide +kernel) rfl rfl (And.intro trivial trivial) ?_
  refine mm_ok_ifCond_lt (pt := 31) (d := 30) (by decide +kernel) (by decide) (fun k1 => ?_) (fun k1 => ?_)
  · refine mm_ok_bl (l := [(.iconst (0), 1)]) (pc' := 32) (lo' := [some (.ref 7), some (.int a1)]) (st' := [.int (0 : Int32)]) (q' := q) (P := (True) ∧ (True)) (by decide +kernel) rfl rfl (And.intro trivial trivial) ?_
    exact mm_ok_zret (by decide +kernel) (by decide)
  · refine mm_ok_bl (l := [(.aload 0, 1), (.getfield 704, 3), (.iload 1, 1), (.iconst (10), 2), (.idiv, 1)]) (pc' := 12) (lo' := [some (.ref 7), some (.int a1)]) (st' := [.int (a1 / (10 : Int32)), .ref 8]) (q' := q) (P := (True) ∧ ((True) ∧ ((True) ∧ ((True) ∧ ((¬ ((10 : Int32) = 0)) ∧ (True)))))) (by decide +kernel) rfl rfl (And.intro trivial (And.intro trivial (And.intro trivial (And.intro trivial (And.intro (by decide) trivial))))) ?_
    refine mm_ok_call (cz := mm_cvi) (j := .invokevirtual 817) (y := 51) (as := [.ref 8, .int (a1 / (10 : Int32))]) (t := []) (by decide +kernel) rfl (fun _ _ h => mm_up (k := 1) (by decide) (x4_isSpitter_ok h)) (fun r2 q3 => ?_)
    refine mm_ok_ifCond_eq (pt := 31) (d := 16) (by decide +kernel) (by decide) (fun k4 => ?_) (fun k4 => ?_)
    · refine mm_ok_bl (l := [(.iconst (0), 1)]) (pc' := 32) (lo' := [some (.ref 7), some (.int a1)]) (st' := [.int (0 : Int32)]) (q' := q3) (P := (True) ∧ (True)) (by decide +kernel) rfl rfl (And.intro trivial trivial) ?_
      exact mm_ok_zret (by decide +kernel) (by decide)
    · refine mm_ok_bl (l := [(.iload 1, 1), (.iconst (10), 2), (.irem, 1), (.iconst (9), 2)]) (pc' := 24) (lo' := [some (.ref 7), some (.int a1)]) (st' := [.int (9 : Int32), .int (mm_rem a1 (10 : Int32))]) (q' := q3) (P := (True) ∧ ((True) ∧ ((¬ ((10 : Int32) = 0)) ∧ ((True) ∧ (True))))) (by decide +kernel) rfl rfl (And.intro trivial (And.intro trivial (And.intro (by decide) (And.intro trivial trivial)))) ?_
      refine mm_ok_if_icmp_ge (pt := 31) (d := 7) (by decide +kernel) (by decide) (fun k5 => ?_) (fun k5 => ?_)
      · refine mm_ok_bl (l := [(.iconst (0), 1)]) (pc' := 32) (lo' := [some (.ref 7), some (.int a1)]) (st' := [.int (0 : Int32)]) (q' := q3) (P := (True) ∧ (True)) (by decide +kernel) rfl rfl (And.intro trivial trivial) ?_
        exact mm_ok_zret (by decide +kernel) (by decide)
      · refine mm_ok_bl (l := [(.iconst (1), 1)]) (pc' := 28) (lo' := [some (.ref 7), some (.int a1)]) (st' := [.int (1 : Int32)]) (q' := q3) (P := (True) ∧ (True)) (by decide +kernel) rfl rfl (And.intro trivial trivial) ?_
        refine mm_ok_goto (pt := 32) (d := 4) (by decide +kernel) (by decide) ?_
        exact mm_ok_zret (by decide +kernel) (by decide)
def x11_marksRefusal (a1 : Int32) (q : mm_Q) : Option (Int32 × mm_Q) := (mm_cl (x11_shelfAt a1 q) (fun r1 q2 => (mm_om r1 (some ((-1 : Int32), q2)) (fun h3 => (mm_ck (mm_shb h3) (mm_cl (x8_rowRefusal h3 (1 : Int32) q2) (fun r5 q6 => (if r5 = 0 then (mm_cl (x6_read h3 q6) (fun u8 q9 => (some (r5, q9)))) else (some (r5, q6))))))))))
set_option maxRecDepth 20000 in
theorem x11_marksRefusal_ok {L : Nat} {a1 : Int32} {q : mm_Q} {r : Int32} {q1 : mm_Q} (h : x11_marksRefusal a1 q = some (r, q1)) : mm_Runs 4 185 [.ref 7, .int a1] (mm_wq L q) (mm_cvi r) (mm_wq L q1) := by
  refine mm_runs_of (d := 3) (L := L) rfl (by decide +kernel) rfl rfl (?_ : mm_ok mm_cvi (mm_Runs 3) 11 false cX11_marksRefusal (some .int) L 0 [some (.ref 7), some (.int a1), none, none] [] q (x11_marksRefusal a1 q)) h
  unfold x11_marksRefusal
  refine mm_ok_bl (l := [(.aload 0, 1), (.iload 1, 1)]) (pc' := 2) (lo' := [some (.ref 7), some (.int a1), none, none]) (st' := [.int a1, .ref 7]) (q' := q) (P := (True) ∧ ((True) ∧ (True))) (by decide +kernel) rfl rfl (And.intro trivial (And.intro trivial trivial)) ?_
  refine mm_ok_call (cz := mm_cvr) (j := .invokevirtual 2929) (y := 183) (as := [.ref 7, .int a1]) (t := []) (by decide +kernel) rfl (fun _ _ h => mm_up (k := 1) (by decide) (x11_shelfAt_ok h)) (fun r1 q2 => ?_)
  refine mm_ok_bl (l := [(.astore 2, 1), (.aload 2, 1)]) (pc' := 7) (lo' := [some (.ref 7), some (.int a1), some (va_rf r1), none]) (st' := [va_rf r1]) (q' := q2) (P := (True) ∧ ((True) ∧ (True))) (by decide +kernel) (by cases r1 <;> rfl) rfl (And.intro trivial (And.intro trivial trivial)) ?_
  refine mm_ok_ifnonnull (pt := 12) (d := 5) (by decide +kernel) (by decide) (fun k4 => ?_) (fun h3 k4 => ?_)
  · subst k4
    refine mm_ok_bl (l := [(.iconst (-1), 1)]) (pc' := 11) (lo' := [some (.ref 7), some (.int a1), some (.null), none]) (st' := [.int (-1 : Int32)]) (q' := q2) (P := (True) ∧ (True)) (by decide +kernel) rfl rfl (And.intro trivial trivial) ?_
    exact mm_ok_iret (by decide +kernel)
  · subst k4
    refine mm_ok_ck (fun c10 => ?_)
    have hs_h3 := mm_shb_ok c10
    refine mm_ok_bl (l := [(.aload 2, 1), (.iconst (1), 1)]) (pc' := 14) (lo' := [some (.ref 7), some (.int a1), some (.ref h3), none]) (st' := [.int (1 : Int32), .ref h3]) (q' := q2) (P := (True) ∧ ((True) ∧ (True))) (by decide +kernel) (by rcases hs_h3 with rfl | rfl | rfl | rfl | rfl | rfl <;> rfl) rfl (And.intro trivial (And.intro trivial trivial)) ?_
    refine mm_ok_call (cz := mm_cvi) (j := .invokevirtual 1649) (y := 103) (as := [.ref h3, .int (1 : Int32)]) (t := []) (by decide +kernel) (by rcases hs_h3 with rfl | rfl | rfl | rfl | rfl | rfl <;> rfl) (fun _ _ h => mm_up (k := 1) (by decide) (x8_rowRefusal_ok h hs_h3)) (fun r5 q6 => ?_)
    refine mm_ok_bl (l := [(.istore 3, 1), (.iload 3, 1)]) (pc' := 19) (lo' := [some (.ref 7), some (.int a1), some (.ref h3), some (.int r5)]) (st' := [.int r5]) (q' := q6) (P := (True) ∧ ((True) ∧ (True))) (by decide +kernel) (by rcases hs_h3 with rfl | rfl | rfl | rfl | rfl | rfl <;> rfl) rfl (And.intro trivial (And.intro trivial trivial)) ?_
    refine mm_ok_ifCond_ne (pt := 30) (d := 11) (by decide +kernel) (by decide) (fun k7 => ?_) (fun k7 => ?_)
    · refine mm_ok_bl (l := [(.aload 0, 1), (.getfield 711, 3), (.aload 2, 1)]) (pc' := 27) (lo' := [some (.ref 7), some (.int a1), some (.ref h3), some (.int r5)]) (st' := [.ref h3, .ref 44]) (q' := q6) (P := (True) ∧ ((True) ∧ ((True) ∧ (True)))) (by decide +kernel) (by rcases hs_h3 with rfl | rfl | rfl | rfl | rfl | rfl <;> rfl) rfl (And.intro trivial (And.intro trivial (And.intro trivial trivial))) ?_
      refine mm_ok_call (cz := mm_cvu) (j := .invokevirtual 1153) (y := 72) (as := [.ref 44, .ref h3]) (t := []) (by decide +kernel) (by rcases hs_h3 with rfl | rfl | rfl | rfl | rfl | rfl <;> rfl) (fun _ _ h => mm_up (k := 3) (by decide) (x6_read_ok h hs_h3)) (fun u8 q9 => ?_)
      refine mm_ok_bl (l := [(.iload 3, 1)]) (pc' := 31) (lo' := [some (.ref 7), some (.int a1), some (.ref h3), some (.int r5)]) (st' := [.int r5]) (q' := q9) (P := (True) ∧ (True)) (by decide +kernel) (by rcases hs_h3 with rfl | rfl | rfl | rfl | rfl | rfl <;> rfl) rfl (And.intro trivial trivial) ?_
      exact mm_ok_iret (by decide +kernel)
    · refine mm_ok_bl (l := [(.iload 3, 1)]) (pc' := 31) (lo' := [some (.ref 7), some (.int a1), some (.ref h3), some (.int r5)]) (st' := [.int r5]) (q' := q6) (P := (True) ∧ (True)) (by decide +kernel) (by rcases hs_h3 with rfl | rfl | rfl | rfl | rfl | rfl <;> rfl) rfl (And.intro trivial trivial) ?_
      exact mm_ok_iret (by decide +kernel)
def x11_judge_j17 (a2 : Int32) (s0 : Int32) (q : mm_Q) : Option (Int32 × mm_Q) := (if s0 = 0 then (mm_cl (x6_firstUnlike (a2 / (10 : Int32)) (mm_rem a2 (10 : Int32)) (0 : Int32) q) (fun r7 q8 => (some (r7, q8)))) else (some (s0, q)))
set_option maxRecDepth 20000 in
theorem x11_judge_j17_ok {L : Nat} (a2 : Int32) (s0 : Int32) (q : mm_Q) : mm_ok mm_cvi (mm_Runs 4) 11 false cX11_judge (some .int) L 17 [some (.ref 7), none, some (.int a2), none] [.int s0] q (x11_judge_j17 a2 s0 q) := by
  unfold x11_judge_j17
  refine mm_ok_bl (l := [(.istore 3, 1), (.iload 3, 1)]) (pc' := 19) (lo' := [some (.ref 7), none, some (.int a2), some (.int s0)]) (st' := [.int s0]) (q' := q) (P := (True) ∧ ((True) ∧ (True))) (by decide +kernel) rfl rfl (And.intro trivial (And.intro trivial trivial)) ?_
  refine mm_ok_ifCond_eq (pt := 26) (d := 7) (by decide +kernel) (by decide) (fun k6 => ?_) (fun k6 => ?_)
  · refine mm_ok_bl (l := [(.aload 0, 1), (.getfield 711, 3), (.iload 2, 1), (.iconst (10), 2), (.idiv, 1), (.iload 2, 1), (.iconst (10), 2), (.irem, 1), (.iconst (0), 1)]) (pc' := 39) (lo' := [some (.ref 7), none, some (.int a2), some (.int s0)]) (st' := [.int (0 : Int32), .int (mm_rem a2 (10 : Int32)), .int (a2 / (10 : Int32)), .ref 44]) (q' := q) (P := (True) ∧ ((True) ∧ ((True) ∧ ((True) ∧ ((¬ ((10 : Int32) = 0)) ∧ ((True) ∧ ((True) ∧ ((¬ ((10 : Int32) = 0)) ∧ ((True) ∧ (True)))))))))) (by decide +kernel) rfl rfl (And.intro trivial (And.intro trivial (And.intro trivial (And.intro trivial (And.intro (by decide) (And.intro trivial (And.intro trivial (And.intro (by decide) (And.intro trivial trivial))))))))) ?_
    refine mm_ok_call (cz := mm_cvi) (j := .invokevirtual 1171) (y := 73) (as := [.ref 44, .int (a2 / (10 : Int32)), .int (mm_rem a2 (10 : Int32)), .int (0 : Int32)]) (t := []) (by decide +kernel) rfl (fun _ _ h => mm_up (k := 4) (by decide) (x6_firstUnlike_ok h)) (fun r7 q8 => ?_)
    exact mm_ok_iret (by decide +kernel)
  · refine mm_ok_bl (l := [(.iload 3, 1)]) (pc' := 23) (lo' := [some (.ref 7), none, some (.int a2), some (.int s0)]) (st' := [.int s0]) (q' := q) (P := (True) ∧ (True)) (by decide +kernel) rfl rfl (And.intro trivial trivial) ?_
    refine mm_ok_goto (pt := 42) (d := 19) (by decide +kernel) (by decide) ?_
    exact mm_ok_iret (by decide +kernel)
def x11_judge (a1 : Int32) (a2 : Int32) (q : mm_Q) : Option (Int32 × mm_Q) := (mm_cl (x11_isSpitterAndAngle a2 q) (fun r1 q2 => (if r1 = 0 then (x11_judge_j17 a2 (-1 : Int32) q2) else (mm_cl (x11_marksRefusal a1 q2) (fun r4 q5 => (x11_judge_j17 a2 r4 q5))))))
set_option maxRecDepth 20000 in
theorem x11_judge_ok {L : Nat} {a1 : Int32} {a2 : Int32} {q : mm_Q} {r : Int32} {q1 : mm_Q} (h : x11_judge a1 a2 q = some (r, q1)) : mm_Runs 5 158 [.ref 7, .int a1, .int a2] (mm_wq L q) (mm_cvi r) (mm_wq L q1) := by
  refine mm_runs_of (d := 4) (L := L) rfl (by decide +kernel) rfl rfl (?_ : mm_ok mm_cvi (mm_Runs 4) 11 false cX11_judge (some .int) L 0 [some (.ref 7), some (.int a1), some (.int a2), none] [] q (x11_judge a1 a2 q)) h
  unfold x11_judge
  refine mm_ok_bl (l := [(.aload 0, 1), (.iload 2, 1)]) (pc' := 2) (lo' := [some (.ref 7), some (.int a1), some (.int a2), none]) (st' := [.int a2, .ref 7]) (q' := q) (P := (True) ∧ ((True) ∧ (True))) (by decide +kernel) rfl rfl (And.intro trivial (And.intro trivial trivial)) ?_
  refine mm_ok_call (cz := mm_cvi) (j := .invokevirtual 2913) (y := 182) (as := [.ref 7, .int a2]) (t := []) (by decide +kernel) rfl (fun _ _ h => mm_up (k := 2) (by decide) (x11_isSpitterAndAngle_ok h)) (fun r1 q2 => ?_)
  refine mm_ok_ifCond_eq (pt := 16) (d := 11) (by decide +kernel) (by decide) (fun k3 => ?_) (fun k3 => ?_)
  · refine mm_ok_bl (l := [(.iconst (-1), 1)]) (pc' := 17) (lo' := [some (.ref 7), some (.int a1), some (.int a2), none]) (st' := [.int (-1 : Int32)]) (q' := q2) (P := (True) ∧ (True)) (by decide +kernel) rfl rfl (And.intro trivial trivial) ?_
    exact mm_ok_sub (lo := [some (.ref 7), none, some (.int a2), none]) (And.intro rfl (And.intro rfl trivial)) (x11_judge_j17_ok a2 (-1 : Int32) q2)
  · refine mm_ok_bl (l := [(.aload 0, 1), (.iload 1, 1)]) (pc' := 10) (lo' := [some (.ref 7), some (.int a1), some (.int a2), none]) (st' := [.int a1, .ref 7]) (q' := q2) (P := (True) ∧ ((True) ∧ (True))) (by decide +kernel) rfl rfl (And.intro trivial (And.intro trivial trivial)) ?_
    refine mm_ok_call (cz := mm_cvi) (j := .invokevirtual 2961) (y := 185) (as := [.ref 7, .int a1]) (t := []) (by decide +kernel) rfl (fun _ _ h => mm_up (k := 4) (by decide) (x11_marksRefusal_ok h)) (fun r4 q5 => ?_)
    refine mm_ok_goto (pt := 17) (d := 4) (by decide +kernel) (by decide) ?_
    exact mm_ok_sub (lo := [some (.ref 7), none, some (.int a2), none]) (And.intro rfl (And.intro rfl trivial)) (x11_judge_j17_ok a2 r4 q5)
def x11_who_j18 (a2 : Int32) (s0 : Int32) (q : mm_Q) : Option (Int32 × mm_Q) := (if s0 = 0 then (if a2 = 0 then (mm_cl (x6_howManyMay q) (fun r7 q8 => (some (r7, q8)))) else (mm_cl (x6_firstWhoMay q) (fun r9 q10 => (some (r9, q10))))) else (some (s0, q)))
set_option maxRecDepth 20000 in
theorem x11_who_j18_ok {L : Nat} (a2 : Int32) (s0 : Int32) (q : mm_Q) : mm_ok mm_cvi (mm_Runs 5) 11 false cX11_who (some .int) L 18 [some (.ref 7), none, some (.int a2), none] [.int s0] q (x11_who_j18 a2 s0 q) := by
  unfold x11_who_j18
  refine mm_ok_bl (l := [(.istore 3, 1), (.iload 3, 1)]) (pc' := 20) (lo' := [some (.ref 7), none, some (.int a2), some (.int s0)]) (st' := [.int s0]) (q' := q) (P := (True) ∧ ((True) ∧ (True))) (by decide +kernel) rfl rfl (And.intro trivial (And.intro trivial trivial)) ?_
  refine mm_ok_ifCond_eq (pt := 25) (d := 5) (by decide +kernel) (by decide) (fun k5 => ?_) (fun k5 => ?_)
  · refine mm_ok_bl (l := [(.iload 2, 1)]) (pc' := 26) (lo' := [some (.ref 7), none, some (.int a2), some (.int s0)]) (st' := [.int a2]) (q' := q) (P := (True) ∧ (True)) (by decide +kernel) rfl rfl (And.intro trivial trivial) ?_
    refine mm_ok_ifCond_ne (pt := 39) (d := 13) (by decide +kernel) (by decide) (fun k6 => ?_) (fun k6 => ?_)
    · refine mm_ok_bl (l := [(.aload 0, 1), (.getfield 711, 3)]) (pc' := 33) (lo' := [some (.ref 7), none, some (.int a2), some (.int s0)]) (st' := [.ref 44]) (q' := q) (P := (True) ∧ ((True) ∧ (True))) (by decide +kernel) rfl rfl (And.intro trivial (And.intro trivial trivial)) ?_
      refine mm_ok_call (cz := mm_cvi) (j := .invokevirtual 1184) (y := 74) (as := [.ref 44]) (t := []) (by decide +kernel) rfl (fun _ _ h => mm_up (k := 5) (by decide) (x6_howManyMay_ok h)) (fun r7 q8 => ?_)
      refine mm_ok_goto (pt := 46) (d := 10) (by decide +kernel) (by decide) ?_
      exact mm_ok_iret (by decide +kernel)
    · refine mm_ok_bl (l := [(.aload 0, 1), (.getfield 711, 3)]) (pc' := 43) (lo' := [some (.ref 7), none, some (.int a2), some (.int s0)]) (st' := [.ref 44]) (q' := q) (P := (True) ∧ ((True) ∧ (True))) (by decide +kernel) rfl rfl (And.intro trivial (And.intro trivial trivial)) ?_
      refine mm_ok_call (cz := mm_cvi) (j := .invokevirtual 1200) (y := 75) (as := [.ref 44]) (t := []) (by decide +kernel) rfl (fun _ _ h => mm_up (k := 5) (by decide) (x6_firstWhoMay_ok h)) (fun r9 q10 => ?_)
      exact mm_ok_iret (by decide +kernel)
  · refine mm_ok_bl (l := [(.iload 3, 1)]) (pc' := 24) (lo' := [some (.ref 7), none, some (.int a2), some (.int s0)]) (st' := [.int s0]) (q' := q) (P := (True) ∧ (True)) (by decide +kernel) rfl rfl (And.intro trivial trivial) ?_
    exact mm_ok_iret (by decide +kernel)
def x11_who_j9 (a2 : Int32) (q : mm_Q) : Option (Int32 × mm_Q) := (x11_who_j18 a2 (-1 : Int32) q)
set_option maxRecDepth 20000 in
theorem x11_who_j9_ok {L : Nat} (a2 : Int32) (q : mm_Q) : mm_ok mm_cvi (mm_Runs 5) 11 false cX11_who (some .int) L 9 [some (.ref 7), none, some (.int a2), none] [] q (x11_who_j9 a2 q) := by
  unfold x11_who_j9
  refine mm_ok_bl (l := [(.iconst (-1), 1)]) (pc' := 10) (lo' := [some (.ref 7), none, some (.int a2), none]) (st' := [.int (-1 : Int32)]) (q' := q) (P := (True) ∧ (True)) (by decide +kernel) rfl rfl (And.intro trivial trivial) ?_
  refine mm_ok_goto (pt := 18) (d := 8) (by decide +kernel) (by decide) ?_
  exact mm_ok_sub (lo := [some (.ref 7), none, some (.int a2), none]) (And.intro rfl (And.intro rfl trivial)) (x11_who_j18_ok a2 (-1 : Int32) q)
def x11_who (a1 : Int32) (a2 : Int32) (q : mm_Q) : Option (Int32 × mm_Q) := (if a2 < 0 then (x11_who_j9 a2 q) else (if a2 ≤ (1 : Int32) then (mm_cl (x11_marksRefusal a1 q) (fun r3 q4 => (x11_who_j18 a2 r3 q4))) else (x11_who_j9 a2 q)))
set_option maxRecDepth 20000 in
theorem x11_who_ok {L : Nat} {a1 : Int32} {a2 : Int32} {q : mm_Q} {r : Int32} {q1 : mm_Q} (h : x11_who a1 a2 q = some (r, q1)) : mm_Runs 6 159 [.ref 7, .int a1, .int a2] (mm_wq L q) (mm_cvi r) (mm_wq L q1) := by
  refine mm_runs_of (d := 5) (L := L) rfl (by decide +kernel) rfl rfl (?_ : mm_ok mm_cvi (mm_Runs 5) 11 false cX11_who (some .int) L 0 [some (.ref 7), some (.int a1), some (.int a2), none] [] q (x11_who a1 a2 q)) h
  unfold x11_who
  refine mm_ok_bl (l := [(.iload 2, 1)]) (pc' := 1) (lo' := [some (.ref 7), some (.int a1), some (.int a2), none]) (st' := [.int a2]) (q' := q) (P := (True) ∧ (True)) (by decide +kernel) rfl rfl (And.intro trivial trivial) ?_
  refine mm_ok_ifCond_lt (pt := 9) (d := 8) (by decide +kernel) (by decide) (fun k1 => ?_) (fun k1 => ?_)
  · exact mm_ok_sub (lo := [some (.ref 7), none, some (.int a2), none]) (And.intro rfl (And.intro rfl trivial)) (x11_who_j9_ok a2 q)
  · refine mm_ok_bl (l := [(.iload 2, 1), (.iconst (1), 1)]) (pc' := 6) (lo' := [some (.ref 7), some (.int a1), some (.int a2), none]) (st' := [.int (1 : Int32), .int a2]) (q' := q) (P := (True) ∧ ((True) ∧ (True))) (by decide +kernel) rfl rfl (And.intro trivial (And.intro trivial trivial)) ?_
    refine mm_ok_if_icmp_le (pt := 13) (d := 7) (by decide +kernel) (by decide) (fun k2 => ?_) (fun k2 => ?_)
    · refine mm_ok_bl (l := [(.aload 0, 1), (.iload 1, 1)]) (pc' := 15) (lo' := [some (.ref 7), some (.int a1), some (.int a2), none]) (st' := [.int a1, .ref 7]) (q' := q) (P := (True) ∧ ((True) ∧ (True))) (by decide +kernel) rfl rfl (And.intro trivial (And.intro trivial trivial)) ?_
      refine mm_ok_call (cz := mm_cvi) (j := .invokevirtual 2961) (y := 185) (as := [.ref 7, .int a1]) (t := []) (by decide +kernel) rfl (fun _ _ h => mm_up (k := 4) (by decide) (x11_marksRefusal_ok h)) (fun r3 q4 => ?_)
      exact mm_ok_sub (lo := [some (.ref 7), none, some (.int a2), none]) (And.intro rfl (And.intro rfl trivial)) (x11_who_j18_ok a2 r3 q4)
    · exact mm_ok_sub (lo := [some (.ref 7), none, some (.int a2), none]) (And.intro rfl (And.intro rfl trivial)) (x11_who_j9_ok a2 q)
def x11_ahead_j17 (a2 : Int32) (s0 : Int32) (q : mm_Q) : Option (Int32 × mm_Q) := (if s0 = 0 then (mm_cl (x6_leastAhead (a2 / (10 : Int32)) (mm_rem a2 (10 : Int32)) q) (fun r7 q8 => (some (r7, q8)))) else (some (s0, q)))
set_option maxRecDepth 20000 in
theorem x11_ahead_j17_ok {L : Nat} (a2 : Int32) (s0 : Int32) (q : mm_Q) : mm_ok mm_cvi (mm_Runs 5) 11 false cX11_ahead (some .int) L 17 [some (.ref 7), none, some (.int a2), none] [.int s0] q (x11_ahead_j17 a2 s0 q) := by
  unfold x11_ahead_j17
  refine mm_ok_bl (l := [(.istore 3, 1), (.iload 3, 1)]) (pc' := 19) (lo' := [some (.ref 7), none, some (.int a2), some (.int s0)]) (st' := [.int s0]) (q' := q) (P := (True) ∧ ((True) ∧ (True))) (by decide +kernel) rfl rfl (And.intro trivial (And.intro trivial trivial)) ?_
  refine mm_ok_ifCond_eq (pt := 26) (d := 7) (by decide +kernel) (by decide) (fun k6 => ?_) (fun k6 => ?_)
  · refine mm_ok_bl (l := [(.aload 0, 1), (.getfield 711, 3), (.iload 2, 1), (.iconst (10), 2), (.idiv, 1), (.iload 2, 1), (.iconst (10), 2), (.irem, 1)]) (pc' := 38) (lo' := [some (.ref 7), none, some (.int a2), some (.int s0)]) (st' := [.int (mm_rem a2 (10 : Int32)), .int (a2 / (10 : Int32)), .ref 44]) (q' := q) (P := (True) ∧ ((True) ∧ ((True) ∧ ((True) ∧ ((¬ ((10 : Int32) = 0)) ∧ ((True) ∧ ((True) ∧ ((¬ ((10 : Int32) = 0)) ∧ (True))))))))) (by decide +kernel) rfl rfl (And.intro trivial (And.intro trivial (And.intro trivial (And.intro trivial (And.intro (by decide) (And.intro trivial (And.intro trivial (And.intro (by decide) trivial)))))))) ?_
    refine mm_ok_call (cz := mm_cvi) (j := .invokevirtual 1218) (y := 76) (as := [.ref 44, .int (a2 / (10 : Int32)), .int (mm_rem a2 (10 : Int32))]) (t := []) (by decide +kernel) rfl (fun _ _ h => mm_up (k := 5) (by decide) (x6_leastAhead_ok h)) (fun r7 q8 => ?_)
    exact mm_ok_iret (by decide +kernel)
  · refine mm_ok_bl (l := [(.iload 3, 1)]) (pc' := 23) (lo' := [some (.ref 7), none, some (.int a2), some (.int s0)]) (st' := [.int s0]) (q' := q) (P := (True) ∧ (True)) (by decide +kernel) rfl rfl (And.intro trivial trivial) ?_
    refine mm_ok_goto (pt := 41) (d := 18) (by decide +kernel) (by decide) ?_
    exact mm_ok_iret (by decide +kernel)
def x11_ahead (a1 : Int32) (a2 : Int32) (q : mm_Q) : Option (Int32 × mm_Q) := (mm_cl (x11_isSpitterAndAngle a2 q) (fun r1 q2 => (if r1 = 0 then (x11_ahead_j17 a2 (-1 : Int32) q2) else (mm_cl (x11_marksRefusal a1 q2) (fun r4 q5 => (x11_ahead_j17 a2 r4 q5))))))
set_option maxRecDepth 20000 in
theorem x11_ahead_ok {L : Nat} {a1 : Int32} {a2 : Int32} {q : mm_Q} {r : Int32} {q1 : mm_Q} (h : x11_ahead a1 a2 q = some (r, q1)) : mm_Runs 6 160 [.ref 7, .int a1, .int a2] (mm_wq L q) (mm_cvi r) (mm_wq L q1) := by
  refine mm_runs_of (d := 5) (L := L) rfl (by decide +kernel) rfl rfl (?_ : mm_ok mm_cvi (mm_Runs 5) 11 false cX11_ahead (some .int) L 0 [some (.ref 7), some (.int a1), some (.int a2), none] [] q (x11_ahead a1 a2 q)) h
  unfold x11_ahead
  refine mm_ok_bl (l := [(.aload 0, 1), (.iload 2, 1)]) (pc' := 2) (lo' := [some (.ref 7), some (.int a1), some (.int a2), none]) (st' := [.int a2, .ref 7]) (q' := q) (P := (True) ∧ ((True) ∧ (True))) (by decide +kernel) rfl rfl (And.intro trivial (And.intro trivial trivial)) ?_
  refine mm_ok_call (cz := mm_cvi) (j := .invokevirtual 2913) (y := 182) (as := [.ref 7, .int a2]) (t := []) (by decide +kernel) rfl (fun _ _ h => mm_up (k := 2) (by decide) (x11_isSpitterAndAngle_ok h)) (fun r1 q2 => ?_)
  refine mm_ok_ifCond_eq (pt := 16) (d := 11) (by decide +kernel) (by decide) (fun k3 => ?_) (fun k3 => ?_)
  · refine mm_ok_bl (l := [(.iconst (-1), 1)]) (pc' := 17) (lo' := [some (.ref 7), some (.int a1), some (.int a2), none]) (st' := [.int (-1 : Int32)]) (q' := q2) (P := (True) ∧ (True)) (by decide +kernel) rfl rfl (And.intro trivial trivial) ?_
    exact mm_ok_sub (lo := [some (.ref 7), none, some (.int a2), none]) (And.intro rfl (And.intro rfl trivial)) (x11_ahead_j17_ok a2 (-1 : Int32) q2)
  · refine mm_ok_bl (l := [(.aload 0, 1), (.iload 1, 1)]) (pc' := 10) (lo' := [some (.ref 7), some (.int a1), some (.int a2), none]) (st' := [.int a1, .ref 7]) (q' := q2) (P := (True) ∧ ((True) ∧ (True))) (by decide +kernel) rfl rfl (And.intro trivial (And.intro trivial trivial)) ?_
    refine mm_ok_call (cz := mm_cvi) (j := .invokevirtual 2961) (y := 185) (as := [.ref 7, .int a1]) (t := []) (by decide +kernel) rfl (fun _ _ h => mm_up (k := 4) (by decide) (x11_marksRefusal_ok h)) (fun r4 q5 => ?_)
    refine mm_ok_goto (pt := 17) (d := 4) (by decide +kernel) (by decide) ?_
    exact mm_ok_sub (lo := [some (.ref 7), none, some (.int a2), none]) (And.intro rfl (And.intro rfl trivial)) (x11_ahead_j17_ok a2 r4 q5)
def x11_drawn (a1 : Int32) (a2 : Int32) (a3 : Int32) (a4 : Int32) (q : mm_Q) : Option (Int32 × mm_Q) := (mm_cl (x4_isSpitter a1 q) (fun r1 q2 => (if r1 = 0 then (some ((-1 : Int32), q2)) else (mm_cl (x11_isStoneAndAhead a2 q2) (fun r4 q5 => (if r4 = 0 then (some ((-1 : Int32), q5)) else (if a4 < (100 : Int32) then (some ((-1 : Int32), q5)) else (if (9999 : Int32) < a4 then (some ((-1 : Int32), q5)) else (if (1 : Int32) < (mm_rem (a4 / (10 : Int32)) (10 : Int32)) then (some ((-1 : Int32), q5)) else (if (mm_rem a4 (10 : Int32)) ≤ (1 : Int32) then (mm_cl (x7_draw a1 a2 a3 a4 q5) (fun r11 q12 => (some (r11, q12)))) else (some ((-1 : Int32), q5))))))))))))
set_option maxRecDepth 20000 in
theorem x11_drawn_ok {L : Nat} {a1 : Int32} {a2 : Int32} {a3 : Int32} {a4 : Int32} {q : mm_Q} {r : Int32} {q1 : mm_Q} (h : x11_drawn a1 a2 a3 a4 q = some (r, q1)) : mm_Runs 6 161 [.ref 7, .int a1, .int a2, .int a3, .int a4] (mm_wq L q) (mm_cvi r) (mm_wq L q1) := by
  refine mm_runs_of (d := 5) (L := L) rfl (by decide +kernel) rfl rfl (?_ : mm_ok mm_cvi (mm_Runs 5) 11 false cX11_drawn (some .int) L 0 [some (.ref 7), some (.int a1), some (.int a2), some (.int a3), some (.int a4)] [] q (x11_drawn a1 a2 a3 a4 q)) h
  unfold x11_drawn
  refine mm_ok_bl (l := [(.aload 0, 1), (.getfield 704, 3), (.iload 1, 1)]) (pc' := 5) (lo' := [some (.ref 7), some (.int a1), some (.int a2), some (.int a3), some (.int a4)]) (st' := [.int a1, .ref 8]) (q' := q) (P := (True) ∧ ((True) ∧ ((True) ∧ (True)))) (by decide +kernel) rfl rfl (And.intro trivial (And.intro trivial (And.intro trivial trivial))) ?_
  refine mm_ok_call (cz := mm_cvi) (j := .invokevirtual 817) (y := 51) (as := [.ref 8, .int a1]) (t := []) (by decide +kernel) rfl (fun _ _ h => mm_up (k := 1) (by decide) (x4_isSpitter_ok h)) (fun r1 q2 => ?_)
  refine mm_ok_ifCond_eq (pt := 54) (d := 46) (by decide +kernel) (by decide) (fun k3 => ?_) (fun k3 => ?_)
  · refine mm_ok_bl (l := [(.iconst (-1), 1)]) (pc' := 55) (lo' := [some (.ref 7), some (.int a1), some (.int a2), some (.int a3), some (.int a4)]) (st' := [.int (-1 : Int32)]) (q' := q2) (P := (True) ∧ (True)) (by decide +kernel) rfl rfl (And.intro trivial trivial) ?_
    exact mm_ok_iret (by decide +kernel)
  · refine mm_ok_bl (l := [(.iload 2, 1)]) (pc' := 12) (lo' := [some (.ref 7), some (.int a1), some (.int a2), some (.int a3), some (.int a4)]) (st' := [.int a2]) (q' := q2) (P := (True) ∧ (True)) (by decide +kernel) rfl rfl (And.intro trivial trivial) ?_
    refine mm_ok_call (cz := mm_cvi) (j := .invokestatic 2865) (y := 179) (as := [.int a2]) (t := []) (by decide +kernel) rfl (fun _ _ h => mm_up (k := 1) (by decide) (x11_isStoneAndAhead_ok h)) (fun r4 q5 => ?_)
    refine mm_ok_ifCond_eq (pt := 54) (d := 39) (by decide +kernel) (by decide) (fun k6 => ?_) (fun k6 => ?_)
    · refine mm_ok_bl (l := [(.iconst (-1), 1)]) (pc' := 55) (lo' := [some (.ref 7), some (.int a1), some (.int a2), some (.int a3), some (.int a4)]) (st' := [.int (-1 : Int32)]) (q' := q5) (P := (True) ∧ (True)) (by decide +kernel) rfl rfl (And.intro trivial trivial) ?_
      exact mm_ok_iret (by decide +kernel)
    · refine mm_ok_bl (l := [(.iload 4, 2), (.iconst (100), 2)]) (pc' := 22) (lo' := [some (.ref 7), some (.int a1), some (.int a2), some (.int a3), some (.int a4)]) (st' := [.int (100 : Int32), .int a4]) (q' := q5) (P := (True) ∧ ((True) ∧ (True))) (by decide +kernel) rfl rfl (And.intro trivial (And.intro trivial trivial)) ?_
      refine mm_ok_if_icmp_lt (pt := 54) (d := 32) (by decide +kernel) (by decide) (fun k7 => ?_) (fun k7 => ?_)
      · refine mm_ok_bl (l := [(.iconst (-1), 1)]) (pc' := 55) (lo' := [some (.ref 7), some (.int a1), some (.int a2), some (.int a3), some (.int a4)]) (st' := [.int (-1 : Int32)]) (q' := q5) (P := (True) ∧ (True)) (by decide +kernel) rfl rfl (And.intro trivial trivial) ?_
        exact mm_ok_iret (by decide +kernel)
      · refine mm_ok_bl (l := [(.iload 4, 2), (.iconst (9999), 3)]) (pc' := 30) (lo' := [some (.ref 7), some (.int a1), some (.int a2), some (.int a3), some (.int a4)]) (st' := [.int (9999 : Int32), .int a4]) (q' := q5) (P := (True) ∧ ((True) ∧ (True))) (by decide +kernel) rfl rfl (And.intro trivial (And.intro trivial trivial)) ?_
        refine mm_ok_if_icmp_gt (pt := 54) (d := 24) (by decide +kernel) (by decide) (fun k8 => ?_) (fun k8 => ?_)
        · refine mm_ok_bl (l := [(.iconst (-1), 1)]) (pc' := 55) (lo' := [some (.ref 7), some (.int a1), some (.int a2), some (.int a3), some (.int a4)]) (st' := [.int (-1 : Int32)]) (q' := q5) (P := (True) ∧ (True)) (by decide +kernel) rfl rfl (And.intro trivial trivial) ?_
          exact mm_ok_iret (by decide +kernel)
        · refine mm_ok_bl (l := [(.iload 4, 2), (.iconst (10), 2), (.idiv, 1), (.iconst (10), 2), (.irem, 1), (.iconst (1), 1)]) (pc' := 42) (lo' := [some (.ref 7), some (.int a1), some (.int a2), some (.int a3), some (.int a4)]) (st' := [.int (1 : Int32), .int (mm_rem (a4 / (10 : Int32)) (10 : Int32))]) (q' := q5) (P := (True) ∧ ((True) ∧ ((¬ ((10 : Int32) = 0)) ∧ ((True) ∧ ((¬ ((10 : Int32) = 0)) ∧ ((True) ∧ (True))))))) (by decide +kernel) rfl rfl (And.intro trivial (And.intro trivial (And.intro (by decide) (And.intro trivial (And.intro (by decide) (And.intro trivial trivial)))))) ?_
          refine mm_ok_if_icmp_gt (pt := 54) (d := 12) (by decide +kernel) (by decide) (fun k9 => ?_) (fun k9 => ?_)
          · refine mm_ok_bl (l := [(.iconst (-1), 1)]) (pc' := 55) (lo' := [some (.ref 7), some (.int a1), some (.int a2), some (.int a3), some (.int a4)]) (st' := [.int (-1 : Int32)]) (q' := q5) (P := (True) ∧ (True)) (by decide +kernel) rfl rfl (And.intro trivial trivial) ?_
            exact mm_ok_iret (by decide +kernel)
          · refine mm_ok_bl (l := [(.iload 4, 2), (.iconst (10), 2), (.irem, 1), (.iconst (1), 1)]) (pc' := 51) (lo' := [some (.ref 7), some (.int a1), some (.int a2), some (.int a3), some (.int a4)]) (st' := [.int (1 : Int32), .int (mm_rem a4 (10 : Int32))]) (q' := q5) (P := (True) ∧ ((True) ∧ ((¬ ((10 : Int32) = 0)) ∧ ((True) ∧ (True))))) (by decide +kernel) rfl rfl (And.intro trivial (And.intro trivial (And.intro (by decide) (And.intro trivial trivial)))) ?_
            refine mm_ok_if_icmp_le (pt := 56) (d := 5) (by decide +kernel) (by decide) (fun k10 => ?_) (fun k10 => ?_)
            · refine mm_ok_bl (l := [(.aload 0, 1), (.getfield 709, 3), (.iload 1, 1), (.iload 2, 1), (.iload 3, 1), (.iload 4, 2)]) (pc' := 65) (lo' := [some (.ref 7), some (.int a1), some (.int a2), some (.int a3), some (.int a4)]) (st' := [.int a4, .int a3, .int a2, .int a1, .ref 35]) (q' := q5) (P := (True) ∧ ((True) ∧ ((True) ∧ ((True) ∧ ((True) ∧ ((True) ∧ (True))))))) (by decide +kernel) rfl rfl (And.intro trivial (And.intro trivial (And.intro trivial (And.intro trivial (And.intro trivial (And.intro trivial trivial)))))) ?_
              refine mm_ok_call (cz := mm_cvi) (j := .invokevirtual 1492) (y := 93) (as := [.ref 35, .int a1, .int a2, .int a3, .int a4]) (t := []) (by decide +kernel) rfl (fun _ _ h => mm_up (k := 5) (by decide) (x7_draw_ok h)) (fun r11 q12 => ?_)
              exact mm_ok_iret (by decide +kernel)
            · refine mm_ok_bl (l := [(.iconst (-1), 1)]) (pc' := 55) (lo' := [some (.ref 7), some (.int a1), some (.int a2), some (.int a3), some (.int a4)]) (st' := [.int (-1 : Int32)]) (q' := q5) (P := (True) ∧ (True)) (by decide +kernel) rfl rfl (And.intro trivial trivial) ?_
              exact mm_ok_iret (by decide +kernel)
def x11_spit (a1 : Int32) (a2 : Int32) (a3 : Int32) (q : mm_Q) : Option (Int32 × mm_Q) := (mm_cl (x4_isSpitter a1 q) (fun r1 q2 => (if r1 = 0 then (some ((-1 : Int32), q2)) else (if a2 < 0 then (some ((-1 : Int32), q2)) else (if (9 : Int32) ≤ a2 then (some ((-1 : Int32), q2)) else (mm_cl (x11_isHow a3 q2) (fun r6 q7 => (if r6 = 0 then (some ((-1 : Int32), q7)) else (mm_cl (x3_sinceRest a1 q7) (fun r9 q10 => (mm_cl (x10_take a1 a2 r9 q10) (fun u11 q12 => (mm_cl (x10_landing (a3 / (10 : Int32)) (mm_rem a3 (10 : Int32)) q12) (fun r13 q14 => (mm_cl (x4_pointsOf r13 q14) (fun r15 q16 => (mm_cl (x4_isHit r13 q16) (fun r17 q18 => (mm_cl (x4_isInBarrel r13 q18) (fun r19 q20 => (mm_cl (x3_note a1 r15 r17 r19 q20) (fun u21 q22 => (some (r15, q22))))))))))))))))))))))))
set_option maxRecDepth 20000 in
theorem x11_spit_ok {L : Nat} {a1 : Int32} {a2 : Int32} {a3 : Int32} {q : mm_Q} {r : Int32} {q1 : mm_Q} (h : x11_spit a1 a2 a3 q = some (r, q1)) : mm_Runs 4 162 [.ref 7, .int a1, .int a2, .int a3] (mm_wq L q) (mm_cvi r) (mm_wq L q1) := by
  refine mm_runs_of (d := 3) (L := L) rfl (by decide +kernel) rfl rfl (?_ : mm_ok mm_cvi (mm_Runs 3) 11 false cX11_spit (some .int) L 0 [some (.ref 7), some (.int a1), some (.int a2), some (.int a3), none, none] [] q (x11_spit a1 a2 a3 q)) h
  unfold x11_spit
  refine mm_ok_bl (l := [(.aload 0, 1), (.getfield 704, 3), (.iload 1, 1)]) (pc' := 5) (lo' := [some (.ref 7), some (.int a1), some (.int a2), some (.int a3), none, none]) (st' := [.int a1, .ref 8]) (q' := q) (P := (True) ∧ ((True) ∧ ((True) ∧ (True)))) (by decide +kernel) rfl rfl (And.intro trivial (And.intro trivial (And.intro trivial trivial))) ?_
  refine mm_ok_call (cz := mm_cvi) (j := .invokevirtual 817) (y := 51) (as := [.ref 8, .int a1]) (t := []) (by decide +kernel) rfl (fun _ _ h => mm_up (k := 1) (by decide) (x4_isSpitter_ok h)) (fun r1 q2 => ?_)
  refine mm_ok_ifCond_eq (pt := 28) (d := 20) (by decide +kernel) (by decide) (fun k3 => ?_) (fun k3 => ?_)
  · refine mm_ok_bl (l := [(.iconst (-1), 1)]) (pc' := 29) (lo' := [some (.ref 7), some (.int a1), some (.int a2), some (.int a3), none, none]) (st' := [.int (-1 : Int32)]) (q' := q2) (P := (True) ∧ (True)) (by decide +kernel) rfl rfl (And.intro trivial trivial) ?_
    exact mm_ok_iret (by decide +kernel)
  · refine mm_ok_bl (l := [(.iload 2, 1)]) (pc' := 12) (lo' := [some (.ref 7), some (.int a1), some (.int a2), some (.int a3), none, none]) (st' := [.int a2]) (q' := q2) (P := (True) ∧ (True)) (by decide +kernel) rfl rfl (And.intro trivial trivial) ?_
    refine mm_ok_ifCond_lt (pt := 28) (d := 16) (by decide +kernel) (by decide) (fun k4 => ?_) (fun k4 => ?_)
    · refine mm_ok_bl (l := [(.iconst (-1), 1)]) (pc' := 29) (lo' := [some (.ref 7), some (.int a1), some (.int a2), some (.int a3), none, none]) (st' := [.int (-1 : Int32)]) (q' := q2) (P := (True) ∧ (True)) (by decide +kernel) rfl rfl (And.intro trivial trivial) ?_
      exact mm_ok_iret (by decide +kernel)
    · refine mm_ok_bl (l := [(.iload 2, 1), (.iconst (9), 2)]) (pc' := 18) (lo' := [some (.ref 7), some (.int a1), some (.int a2), some (.int a3), none, none]) (st' := [.int (9 : Int32), .int a2]) (q' := q2) (P := (True) ∧ ((True) ∧ (True))) (by decide +kernel) rfl rfl (And.intro trivial (And.intro trivial trivial)) ?_
      refine mm_ok_if_icmp_ge (pt := 28) (d := 10) (by decide +kernel) (by decide) (fun k5 => ?_) (fun k5 => ?_)
      · refine mm_ok_bl (l := [(.iconst (-1), 1)]) (pc' := 29) (lo' := [some (.ref 7), some (.int a1), some (.int a2), some (.int a3), none, none]) (st' := [.int (-1 : Int32)]) (q' := q2) (P := (True) ∧ (True)) (by decide +kernel) rfl rfl (And.intro trivial trivial) ?_
        exact mm_ok_iret (by decide +kernel)
      · refine mm_ok_bl (l := [(.iload 3, 1)]) (pc' := 22) (lo' := [some (.ref 7), some (.int a1), some (.int a2), some (.int a3), none, none]) (st' := [.int a3]) (q' := q2) (P := (True) ∧ (True)) (by decide +kernel) rfl rfl (And.intro trivial trivial) ?_
        refine mm_ok_call (cz := mm_cvi) (j := .invokestatic 2881) (y := 180) (as := [.int a3]) (t := []) (by decide +kernel) rfl (fun _ _ h => mm_up (k := 1) (by decide) (x11_isHow_ok h)) (fun r6 q7 => ?_)
        refine mm_ok_ifCond_ne (pt := 30) (d := 5) (by decide +kernel) (by decide) (fun k8 => ?_) (fun k8 => ?_)
        · refine mm_ok_bl (l := [(.iconst (-1), 1)]) (pc' := 29) (lo' := [some (.ref 7), some (.int a1), some (.int a2), some (.int a3), none, none]) (st' := [.int (-1 : Int32)]) (q' := q7) (P := (True) ∧ (True)) (by decide +kernel) rfl rfl (And.intro trivial trivial) ?_
          exact mm_ok_iret (by decide +kernel)
        · refine mm_ok_bl (l := [(.aload 0, 1), (.getfield 708, 3), (.iload 1, 1), (.iload 2, 1), (.aload 0, 1), (.getfield 712, 3), (.iload 1, 1)]) (pc' := 41) (lo' := [some (.ref 7), some (.int a1), some (.int a2), some (.int a3), none, none]) (st' := [.int a1, .ref 46, .int a2, .int a1, .ref 14]) (q' := q7) (P := (True) ∧ ((True) ∧ ((True) ∧ ((True) ∧ ((True) ∧ ((True) ∧ ((True) ∧ (True)))))))) (by decide +kernel) rfl rfl (And.intro trivial (And.intro trivial (And.intro trivial (And.intro trivial (And.intro trivial (And.intro trivial (And.intro trivial trivial))))))) ?_
          refine mm_ok_call (cz := mm_cvi) (j := .invokevirtual 673) (y := 42) (as := [.ref 46, .int a1]) (t := [.int a2, .int a1, .ref 14]) (by decide +kernel) rfl (fun _ _ h => mm_up (k := 2) (by decide) (x3_sinceRest_ok h)) (fun r9 q10 => ?_)
          refine mm_ok_call (cz := mm_cvu) (j := .invokevirtual 2067) (y := 129) (as := [.ref 14, .int a1, .int a2, .int r9]) (t := []) (by decide +kernel) rfl (fun _ _ h => mm_up (k := 3) (by decide) (x10_take_ok h)) (fun u11 q12 => ?_)
          refine mm_ok_bl (l := [(.aload 0, 1), (.getfield 708, 3), (.iload 3, 1), (.iconst (10), 2), (.idiv, 1), (.iload 3, 1), (.iconst (10), 2), (.irem, 1)]) (pc' := 59) (lo' := [some (.ref 7), some (.int a1), some (.int a2), some (.int a3), none, none]) (st' := [.int (mm_rem a3 (10 : Int32)), .int (a3 / (10 : Int32)), .ref 14]) (q' := q12) (P := (True) ∧ ((True) ∧ ((True) ∧ ((True) ∧ ((¬ ((10 : Int32) = 0)) ∧ ((True) ∧ ((True) ∧ ((¬ ((10 : Int32) = 0)) ∧ (True))))))))) (by decide +kernel) rfl rfl (And.intro trivial (And.intro trivial (And.intro trivial (And.intro trivial (And.intro (by decide) (And.intro trivial (And.intro trivial (And.intro (by decide) trivial)))))))) ?_
          refine mm_ok_call (cz := mm_cvi) (j := .invokevirtual 2114) (y := 132) (as := [.ref 14, .int (a3 / (10 : Int32)), .int (mm_rem a3 (10 : Int32))]) (t := []) (by decide +kernel) rfl (fun _ _ h => mm_up (k := 3) (by decide) (x10_landing_ok h)) (fun r13 q14 => ?_)
          refine mm_ok_bl (l := [(.istore 4, 2), (.aload 0, 1), (.getfield 704, 3), (.iload 4, 2)]) (pc' := 70) (lo' := [some (.ref 7), some (.int a1), some (.int a2), some (.int a3), some (.int r13), none]) (st' := [.int r13, .ref 8]) (q' := q14) (P := (True) ∧ ((True) ∧ ((True) ∧ ((True) ∧ (True))))) (by decide +kernel) rfl rfl (And.intro trivial (And.intro trivial (And.intro trivial (And.intro trivial trivial)))) ?_
          refine mm_ok_call (cz := mm_cvi) (j := .invokevirtual 993) (y := 62) (as := [.ref 8, .int r13]) (t := []) (by decide +kernel) rfl (fun _ _ h => mm_up (k := 3) (by decide) (x4_pointsOf_ok h)) (fun r15 q16 => ?_)
          refine mm_ok_bl (l := [(.istore 5, 2), (.aload 0, 1), (.getfield 712, 3), (.iload 1, 1), (.iload 5, 2), (.aload 0, 1), (.getfield 704, 3), (.iload 4, 2)]) (pc' := 88) (lo' := [some (.ref 7), some (.int a1), some (.int a2), some (.int a3), some (.int r13), some (.int r15)]) (st' := [.int r13, .ref 8, .int r15, .int a1, .ref 46]) (q' := q16) (P := (True) ∧ ((True) ∧ ((True) ∧ ((True) ∧ ((True) ∧ ((True) ∧ ((True) ∧ ((True) ∧ (True))))))))) (by decide +kernel) rfl rfl (And.intro trivial (And.intro trivial (And.intro trivial (And.intro trivial (And.intro trivial (And.intro trivial (And.intro trivial (And.intro trivial trivial)))))))) ?_
          refine mm_ok_call (cz := mm_cvi) (j := .invokevirtual 961) (y := 60) (as := [.ref 8, .int r13]) (t := [.int r15, .int a1, .ref 46]) (by decide +kernel) rfl (fun _ _ h => mm_up (k := 1) (by decide) (x4_isHit_ok h)) (fun r17 q18 => ?_)
          refine mm_ok_bl (l := [(.aload 0, 1), (.getfield 704, 3), (.iload 4, 2)]) (pc' := 97) (lo' := [some (.ref 7), some (.int a1), some (.int a2), some (.int a3), some (.int r13), some (.int r15)]) (st' := [.int r13, .ref 8, .int r17, .int r15, .int a1, .ref 46]) (q' := q18) (P := (True) ∧ ((True) ∧ ((True) ∧ (True)))) (by decide +kernel) rfl rfl (And.intro trivial (And.intro trivial (And.intro trivial trivial))) ?_
          refine mm_ok_call (cz := mm_cvi) (j := .invokevirtual 945) (y := 59) (as := [.ref 8, .int r13]) (t := [.int r17, .int r15, .int a1, .ref 46]) (by decide +kernel) rfl (fun _ _ h => mm_up (k := 1) (by decide) (x4_isInBarrel_ok h)) (fun r19 q20 => ?_)
          refine mm_ok_call (cz := mm_cvu) (j := .invokevirtual 692) (y := 43) (as := [.ref 46, .int a1, .int r15, .int r17, .int r19]) (t := []) (by decide +kernel) rfl (fun _ _ h => mm_up (k := 1) (by decide) (x3_note_ok h)) (fun u21 q22 => ?_)
          refine mm_ok_bl (l := [(.iload 5, 2)]) (pc' := 105) (lo' := [some (.ref 7), some (.int a1), some (.int a2), some (.int a3), some (.int r13), some (.int r15)]) (st' := [.int r15]) (q' := q22) (P := (True) ∧ (True)) (by decide +kernel) rfl rfl (And.intro trivial trivial) ?_
          exact mm_ok_iret (by decide +kernel)
def x11_rest  (q : mm_Q) : Option (Int32 × mm_Q) := (mm_cl (x3_beginAnew q) (fun r1 q2 => (some (r1, q2))))
set_option maxRecDepth 20000 in
theorem x11_rest_ok {L : Nat} {q : mm_Q} {r : Int32} {q1 : mm_Q} (h : x11_rest  q = some (r, q1)) : mm_Runs 2 163 [.ref 7] (mm_wq L q) (mm_cvi r) (mm_wq L q1) := by
  refine mm_runs_of (d := 1) (L := L) rfl (by decide +kernel) rfl rfl (?_ : mm_ok mm_cvi (mm_Runs 1) 11 false cX11_rest (some .int) L 0 [some (.ref 7)] [] q (x11_rest  q)) h
  unfold x11_rest
  refine mm_ok_bl (l := [(.aload 0, 1), (.getfield 712, 3)]) (pc' := 4) (lo' := [some (.ref 7)]) (st' := [.ref 46]) (q' := q) (P := (True) ∧ ((True) ∧ (True))) (by decide +kernel) rfl rfl (And.intro trivial (And.intro trivial trivial)) ?_
  refine mm_ok_call (cz := mm_cvi) (j := .invokevirtual 704) (y := 44) (as := [.ref 46]) (t := []) (by decide +kernel) rfl (fun _ _ h => mm_up (k := 1) (by decide) (x3_beginAnew_ok h)) (fun r1 q2 => ?_)
  exact mm_ok_iret (by decide +kernel)
def x11_led (a1 : Int32) (a2 : Int32) (q : mm_Q) : Option (Int32 × mm_Q) := (if a2 < 0 then (some ((-1 : Int32), q)) else (if a2 ≤ (5 : Int32) then (if a2 ≤ (2 : Int32) then (mm_cl (x4_isSpitter a1 q) (fun r4 q5 => (if r4 = 0 then (some ((-1 : Int32), q5)) else (mm_cl (x3_ofOne a1 a2 q5) (fun r7 q8 => (some (r7, q8))))))) else (if a1 = 0 then (mm_cl (x3_ofAll (a2 - (3 : Int32)) q) (fun r10 q11 => (some (r10, q11)))) else (some ((-1 : Int32), q)))) else (some ((-1 : Int32), q))))
set_option maxRecDepth 20000 in
theorem x11_led_ok {L : Nat} {a1 : Int32} {a2 : Int32} {q : mm_Q} {r : Int32} {q1 : mm_Q} (h : x11_led a1 a2 q = some (r, q1)) : mm_Runs 2 164 [.ref 7, .int a1, .int a2] (mm_wq L q) (mm_cvi r) (mm_wq L q1) := by
  refine mm_runs_of (d := 1) (L := L) rfl (by decide +kernel) rfl rfl (?_ : mm_ok mm_cvi (mm_Runs 1) 11 false cX11_led (some .int) L 0 [some (.ref 7), some (.int a1), some (.int a2)] [] q (x11_led a1 a2 q)) h
  unfold x11_led
  refine mm_ok_bl (l := [(.iload 2, 1)]) (pc' := 1) (lo' := [some (.ref 7), some (.int a1), some (.int a2)]) (st' := [.int a2]) (q' := q) (P := (True) ∧ (True)) (by decide +kernel) rfl rfl (And.intro trivial trivial) ?_
  refine mm_ok_ifCond_lt (pt := 9) (d := 8) (by decide +kernel) (by decide) (fun k1 => ?_) (fun k1 => ?_)
  · refine mm_ok_bl (l := [(.iconst (-1), 1)]) (pc' := 10) (lo' := [some (.ref 7), some (.int a1), some (.int a2)]) (st' := [.int (-1 : Int32)]) (q' := q) (P := (True) ∧ (True)) (by decide +kernel) rfl rfl (And.intro trivial trivial) ?_
    exact mm_ok_iret (by decide +kernel)
  · refine mm_ok_bl (l := [(.iload 2, 1), (.iconst (5), 1)]) (pc' := 6) (lo' := [some (.ref 7), some (.int a1), some (.int a2)]) (st' := [.int (5 : Int32), .int a2]) (q' := q) (P := (True) ∧ ((True) ∧ (True))) (by decide +kernel) rfl rfl (And.intro trivial (And.intro trivial trivial)) ?_
    refine mm_ok_if_icmp_le (pt := 11) (d := 5) (by decide +kernel) (by decide) (fun k2 => ?_) (fun k2 => ?_)
    · refine mm_ok_bl (l := [(.iload 2, 1), (.iconst (2), 1)]) (pc' := 13) (lo' := [some (.ref 7), some (.int a1), some (.int a2)]) (st' := [.int (2 : Int32), .int a2]) (q' := q) (P := (True) ∧ ((True) ∧ (True))) (by decide +kernel) rfl rfl (And.intro trivial (And.intro trivial trivial)) ?_
      refine mm_ok_if_icmp_le (pt := 35) (d := 22) (by decide +kernel) (by decide) (fun k3 => ?_) (fun k3 => ?_)
      · refine mm_ok_bl (l := [(.aload 0, 1), (.getfield 704, 3), (.iload 1, 1)]) (pc' := 40) (lo' := [some (.ref 7), some (.int a1), some (.int a2)]) (st' := [.int a1, .ref 8]) (q' := q) (P := (True) ∧ ((True) ∧ ((True) ∧ (True)))) (by decide +kernel) rfl rfl (And.intro trivial (And.intro trivial (And.intro trivial trivial))) ?_
        refine mm_ok_call (cz := mm_cvi) (j := .invokevirtual 817) (y := 51) (as := [.ref 8, .int a1]) (t := []) (by decide +kernel) rfl (fun _ _ h => mm_up (k := 1) (by decide) (x4_isSpitter_ok h)) (fun r4 q5 => ?_)
        refine mm_ok_ifCond_eq (pt := 58) (d := 15) (by decide +kernel) (by decide) (fun k6 => ?_) (fun k6 => ?_)
        · refine mm_ok_bl (l := [(.iconst (-1), 1)]) (pc' := 59) (lo' := [some (.ref 7), some (.int a1), some (.int a2)]) (st' := [.int (-1 : Int32)]) (q' := q5) (P := (True) ∧ (True)) (by decide +kernel) rfl rfl (And.intro trivial trivial) ?_
          exact mm_ok_iret (by decide +kernel)
        · refine mm_ok_bl (l := [(.aload 0, 1), (.getfield 712, 3), (.iload 1, 1), (.iload 2, 1)]) (pc' := 52) (lo' := [some (.ref 7), some (.int a1), some (.int a2)]) (st' := [.int a2, .int a1, .ref 46]) (q' := q5) (P := (True) ∧ ((True) ∧ ((True) ∧ ((True) ∧ (True))))) (by decide +kernel) rfl rfl (And.intro trivial (And.intro trivial (And.intro trivial (And.intro trivial trivial)))) ?_
          refine mm_ok_call (cz := mm_cvi) (j := .invokevirtual 722) (y := 45) (as := [.ref 46, .int a1, .int a2]) (t := []) (by decide +kernel) rfl (fun _ _ h => mm_up (k := 1) (by decide) (x3_ofOne_ok h)) (fun r7 q8 => ?_)
          refine mm_ok_goto (pt := 59) (d := 4) (by decide +kernel) (by decide) ?_
          exact mm_ok_iret (by decide +kernel)
      · refine mm_ok_bl (l := [(.iload 1, 1)]) (pc' := 17) (lo' := [some (.ref 7), some (.int a1), some (.int a2)]) (st' := [.int a1]) (q' := q) (P := (True) ∧ (True)) (by decide +kernel) rfl rfl (And.intro trivial trivial) ?_
        refine mm_ok_ifCond_ne (pt := 33) (d := 16) (by decide +kernel) (by decide) (fun k9 => ?_) (fun k9 => ?_)
        · refine mm_ok_bl (l := [(.aload 0, 1), (.getfield 712, 3), (.iload 2, 1), (.iconst (3), 1), (.isub, 1)]) (pc' := 27) (lo' := [some (.ref 7), some (.int a1), some (.int a2)]) (st' := [.int (a2 - (3 : Int32)), .ref 46]) (q' := q) (P := (True) ∧ ((True) ∧ ((True) ∧ ((True) ∧ ((True) ∧ (True)))))) (by decide +kernel) rfl rfl (And.intro trivial (And.intro trivial (And.intro trivial (And.intro trivial (And.intro trivial trivial))))) ?_
          refine mm_ok_call (cz := mm_cvi) (j := .invokevirtual 737) (y := 46) (as := [.ref 46, .int (a2 - (3 : Int32))]) (t := []) (by decide +kernel) rfl (fun _ _ h => mm_up (k := 1) (by decide) (x3_ofAll_ok h)) (fun r10 q11 => ?_)
          refine mm_ok_goto (pt := 34) (d := 4) (by decide +kernel) (by decide) ?_
          exact mm_ok_iret (by decide +kernel)
        · refine mm_ok_bl (l := [(.iconst (-1), 1)]) (pc' := 34) (lo' := [some (.ref 7), some (.int a1), some (.int a2)]) (st' := [.int (-1 : Int32)]) (q' := q) (P := (True) ∧ (True)) (by decide +kernel) rfl rfl (And.intro trivial trivial) ?_
          exact mm_ok_iret (by decide +kernel)
    · refine mm_ok_bl (l := [(.iconst (-1), 1)]) (pc' := 10) (lo' := [some (.ref 7), some (.int a1), some (.int a2)]) (st' := [.int (-1 : Int32)]) (q' := q) (P := (True) ∧ (True)) (by decide +kernel) rfl rfl (And.intro trivial trivial) ?_
      exact mm_ok_iret (by decide +kernel)
def x11_image  (q : mm_Q) : Option (Int32 × mm_Q) := (mm_cl (x3_store q) (fun r1 q2 => (some (r1, q2))))
set_option maxRecDepth 20000 in
theorem x11_image_ok {L : Nat} {q : mm_Q} {r : Int32} {q1 : mm_Q} (h : x11_image  q = some (r, q1)) : mm_Runs 2 165 [.ref 7] (mm_wq L q) (mm_cvi r) (mm_wq L q1) := by
  refine mm_runs_of (d := 1) (L := L) rfl (by decide +kernel) rfl rfl (?_ : mm_ok mm_cvi (mm_Runs 1) 11 false cX11_image (some .int) L 0 [some (.ref 7)] [] q (x11_image  q)) h
  unfold x11_image
  refine mm_ok_bl (l := [(.aload 0, 1), (.getfield 712, 3)]) (pc' := 4) (lo' := [some (.ref 7)]) (st' := [.ref 46]) (q' := q) (P := (True) ∧ ((True) ∧ (True))) (by decide +kernel) rfl rfl (And.intro trivial (And.intro trivial trivial)) ?_
  refine mm_ok_call (cz := mm_cvi) (j := .invokevirtual 752) (y := 47) (as := [.ref 46]) (t := []) (by decide +kernel) rfl (fun _ _ h => mm_up (k := 1) (by decide) (x3_store_ok h)) (fun r1 q2 => ?_)
  exact mm_ok_iret (by decide +kernel)
def x11_back  (q : mm_Q) : Option (Int32 × mm_Q) := (mm_cl (x3_layBack q) (fun r1 q2 => (some (r1, q2))))
set_option maxRecDepth 20000 in
theorem x11_back_ok {L : Nat} {q : mm_Q} {r : Int32} {q1 : mm_Q} (h : x11_back  q = some (r, q1)) : mm_Runs 2 166 [.ref 7] (mm_wq L q) (mm_cvi r) (mm_wq L q1) := by
  refine mm_runs_of (d := 1) (L := L) rfl (by decide +kernel) rfl rfl (?_ : mm_ok mm_cvi (mm_Runs 1) 11 false cX11_back (some .int) L 0 [some (.ref 7)] [] q (x11_back  q)) h
  unfold x11_back
  refine mm_ok_bl (l := [(.aload 0, 1), (.getfield 712, 3)]) (pc' := 4) (lo' := [some (.ref 7)]) (st' := [.ref 46]) (q' := q) (P := (True) ∧ ((True) ∧ (True))) (by decide +kernel) rfl rfl (And.intro trivial (And.intro trivial trivial)) ?_
  refine mm_ok_call (cz := mm_cvi) (j := .invokevirtual 768) (y := 48) (as := [.ref 46]) (t := []) (by decide +kernel) rfl (fun _ _ h => mm_up (k := 1) (by decide) (x3_layBack_ok h)) (fun r1 q2 => ?_)
  exact mm_ok_iret (by decide +kernel)
def x11_undo  (q : mm_Q) : Option (Int32 × mm_Q) := (mm_cl (x1_stepBack q) (fun r1 q2 => (some (r1, q2))))
set_option maxRecDepth 20000 in
theorem x11_undo_ok {L : Nat} {q : mm_Q} {r : Int32} {q1 : mm_Q} (h : x11_undo  q = some (r, q1)) : mm_Runs 3 167 [.ref 7] (mm_wq L q) (mm_cvi r) (mm_wq L q1) := by
  refine mm_runs_of (d := 2) (L := L) rfl (by decide +kernel) rfl rfl (?_ : mm_ok mm_cvi (mm_Runs 2) 11 false cX11_undo (some .int) L 0 [some (.ref 7)] [] q (x11_undo  q)) h
  unfold x11_undo
  refine mm_ok_bl (l := [(.aload 0, 1), (.getfield 707, 3), (.aload 0, 1), (.getfield 704, 3)]) (pc' := 8) (lo' := [some (.ref 7)]) (st' := [.ref 8, .ref 31]) (q' := q) (P := (True) ∧ ((True) ∧ ((True) ∧ ((True) ∧ (True))))) (by decide +kernel) rfl rfl (And.intro trivial (And.intro trivial (And.intro trivial (And.intro trivial trivial)))) ?_
  refine mm_ok_call (cz := mm_cvi) (j := .invokevirtual 337) (y := 21) (as := [.ref 31, .ref 8]) (t := []) (by decide +kernel) rfl (fun _ _ h => mm_up (k := 2) (by decide) (x1_stepBack_ok h)) (fun r1 q2 => ?_)
  exact mm_ok_iret (by decide +kernel)
def x11_redo  (q : mm_Q) : Option (Int32 × mm_Q) := (mm_cl (x1_stepOn q) (fun r1 q2 => (some (r1, q2))))
set_option maxRecDepth 20000 in
theorem x11_redo_ok {L : Nat} {q : mm_Q} {r : Int32} {q1 : mm_Q} (h : x11_redo  q = some (r, q1)) : mm_Runs 3 168 [.ref 7] (mm_wq L q) (mm_cvi r) (mm_wq L q1) := by
  refine mm_runs_of (d := 2) (L := L) rfl (by decide +kernel) rfl rfl (?_ : mm_ok mm_cvi (mm_Runs 2) 11 false cX11_redo (some .int) L 0 [some (.ref 7)] [] q (x11_redo  q)) h
  unfold x11_redo
  refine mm_ok_bl (l := [(.aload 0, 1), (.getfield 707, 3), (.aload 0, 1), (.getfield 704, 3)]) (pc' := 8) (lo' := [some (.ref 7)]) (st' := [.ref 8, .ref 31]) (q' := q) (P := (True) ∧ ((True) ∧ ((True) ∧ ((True) ∧ (True))))) (by decide +kernel) rfl rfl (And.intro trivial (And.intro trivial (And.intro trivial (And.intro trivial trivial)))) ?_
  refine mm_ok_call (cz := mm_cvi) (j := .invokevirtual 353) (y := 22) (as := [.ref 31, .ref 8]) (t := []) (by decide +kernel) rfl (fun _ _ h => mm_up (k := 2) (by decide) (x1_stepOn_ok h)) (fun r1 q2 => ?_)
  exact mm_ok_iret (by decide +kernel)
def x11_body (a1 : Int32) (q : mm_Q) : Option (Int32 × mm_Q) := (mm_cl (x0_isKind a1 q) (fun r1 q2 => (if r1 = 0 then (some ((-1 : Int32), q2)) else (mm_cl (x0_isFull q2) (fun r4 q5 => (if r4 = 0 then (mm_cl (x0_store a1 q5) (fun r7 q8 => (some (r7, q8)))) else (some ((-3 : Int32), q5))))))))
set_option maxRecDepth 20000 in
theorem x11_body_ok {L : Nat} {a1 : Int32} {q : mm_Q} {r : Int32} {q1 : mm_Q} (h : x11_body a1 q = some (r, q1)) : mm_Runs 2 169 [.ref 7, .int a1] (mm_wq L q) (mm_cvi r) (mm_wq L q1) := by
  refine mm_runs_of (d := 1) (L := L) rfl (by decide +kernel) rfl rfl (?_ : mm_ok mm_cvi (mm_Runs 1) 11 false cX11_body (some .int) L 0 [some (.ref 7), some (.int a1)] [] q (x11_body a1 q)) h
  unfold x11_body
  refine mm_ok_bl (l := [(.iload 1, 1)]) (pc' := 1) (lo' := [some (.ref 7), some (.int a1)]) (st' := [.int a1]) (q' := q) (P := (True) ∧ (True)) (by decide +kernel) rfl rfl (And.intro trivial trivial) ?_
  refine mm_ok_call (cz := mm_cvi) (j := .invokestatic 17) (y := 1) (as := [.int a1]) (t := []) (by decide +kernel) rfl (fun _ _ h => mm_up (k := 1) (by decide) (x0_isKind_ok h)) (fun r1 q2 => ?_)
  refine mm_ok_ifCond_ne (pt := 9) (d := 5) (by decide +kernel) (by decide) (fun k3 => ?_) (fun k3 => ?_)
  · refine mm_ok_bl (l := [(.iconst (-1), 1)]) (pc' := 8) (lo' := [some (.ref 7), some (.int a1)]) (st' := [.int (-1 : Int32)]) (q' := q2) (P := (True) ∧ (True)) (by decide +kernel) rfl rfl (And.intro trivial trivial) ?_
    exact mm_ok_iret (by decide +kernel)
  · refine mm_ok_bl (l := [(.aload 0, 1), (.getfield 713, 3)]) (pc' := 13) (lo' := [some (.ref 7), some (.int a1)]) (st' := [.ref 49]) (q' := q2) (P := (True) ∧ ((True) ∧ (True))) (by decide +kernel) rfl rfl (And.intro trivial (And.intro trivial trivial)) ?_
    refine mm_ok_call (cz := mm_cvi) (j := .invokevirtual 64) (y := 4) (as := [.ref 49]) (t := []) (by decide +kernel) rfl (fun _ _ h => mm_up (k := 1) (by decide) (x0_isFull_ok h)) (fun r4 q5 => ?_)
    refine mm_ok_ifCond_eq (pt := 24) (d := 8) (by decide +kernel) (by decide) (fun k6 => ?_) (fun k6 => ?_)
    · refine mm_ok_bl (l := [(.aload 0, 1), (.getfield 713, 3), (.iload 1, 1)]) (pc' := 29) (lo' := [some (.ref 7), some (.int a1)]) (st' := [.int a1, .ref 49]) (q' := q5) (P := (True) ∧ ((True) ∧ ((True) ∧ (True)))) (by decide +kernel) rfl rfl (And.intro trivial (And.intro trivial (And.intro trivial trivial))) ?_
      refine mm_ok_call (cz := mm_cvi) (j := .invokevirtual 97) (y := 6) (as := [.ref 49, .int a1]) (t := []) (by decide +kernel) rfl (fun _ _ h => mm_up (k := 1) (by decide) (x0_store_ok h)) (fun r7 q8 => ?_)
      exact mm_ok_iret (by decide +kernel)
    · refine mm_ok_bl (l := [(.iconst (-3), 2)]) (pc' := 21) (lo' := [some (.ref 7), some (.int a1)]) (st' := [.int (-3 : Int32)]) (q' := q5) (P := (True) ∧ (True)) (by decide +kernel) rfl rfl (And.intro trivial trivial) ?_
      refine mm_ok_goto (pt := 32) (d := 11) (by decide +kernel) (by decide) ?_
      exact mm_ok_iret (by decide +kernel)
def x11_act (a1 : Int32) (a2 : Int32) (a3 : Int32) (q : mm_Q) : Option (Int32 × mm_Q) := (mm_cl (x0_perform a1 a2 a3 q) (fun r1 q2 => (some (r1, q2))))
set_option maxRecDepth 20000 in
theorem x11_act_ok {L : Nat} {a1 : Int32} {a2 : Int32} {a3 : Int32} {q : mm_Q} {r : Int32} {q1 : mm_Q} (h : x11_act a1 a2 a3 q = some (r, q1)) : mm_Runs 104 170 [.ref 7, .int a1, .int a2, .int a3] (mm_wq L q) (mm_cvi r) (mm_wq L q1) := by
  refine mm_runs_of (d := 103) (L := L) rfl (by decide +kernel) rfl rfl (?_ : mm_ok mm_cvi (mm_Runs 103) 11 false cX11_act (some .int) L 0 [some (.ref 7), some (.int a1), some (.int a2), some (.int a3)] [] q (x11_act a1 a2 a3 q)) h
  unfold x11_act
  refine mm_ok_bl (l := [(.aload 0, 1), (.getfield 713, 3), (.iload 1, 1), (.iload 2, 1), (.iload 3, 1)]) (pc' := 7) (lo' := [some (.ref 7), some (.int a1), some (.int a2), some (.int a3)]) (st' := [.int a3, .int a2, .int a1, .ref 49]) (q' := q) (P := (True) ∧ ((True) ∧ ((True) ∧ ((True) ∧ ((True) ∧ (True)))))) (by decide +kernel) rfl rfl (And.intro trivial (And.intro trivial (And.intro trivial (And.intro trivial (And.intro trivial trivial))))) ?_
  refine mm_ok_call (cz := mm_cvi) (j := .invokevirtual 131) (y := 8) (as := [.ref 49, .int a1, .int a2, .int a3]) (t := []) (by decide +kernel) rfl (fun _ _ h => mm_up (k := 103) (by decide) (x0_perform_ok h)) (fun r1 q2 => ?_)
  exact mm_ok_iret (by decide +kernel)
