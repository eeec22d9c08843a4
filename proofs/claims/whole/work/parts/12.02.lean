def x2_weighLast_j169 (rr132 : Int32 → mm_Q → Option (Unit × mm_Q)) (a2 : Int32) (q : mm_Q) : Option (Unit × mm_Q) := (rr132 (a2 + (1 : Int32)) q)
set_option maxRecDepth 20000 in
theorem x2_weighLast_j169_ok {L : Nat} (rr132 : Int32 → mm_Q → Option (Unit × mm_Q)) (hrr132 : ∀ (a2 : Int32) (q : mm_Q), mm_ok mm_cvu (mm_Runs 101) 2 false cX2_weighLast none L 132 [some (.ref 39), none, some (.int a2), none, none] [] q (rr132 a2 q)) (a2 : Int32) (q : mm_Q) : mm_ok mm_cvu (mm_Runs 101) 2 false cX2_weighLast none L 169 [some (.ref 39), none, some (.int a2), none, none] [] q (x2_weighLast_j169 rr132 a2 q) := by
  unfold x2_weighLast_j169
  refine mm_ok_bl (l := [(.iinc 2 (1), 3)]) (pc' := 172) (lo' := [some (.ref 39), none, some (.int (a2 + (1 : Int32))), none, none]) (st' := []) (q' := q) (P := (True) ∧ (True)) (by decide +kernel) rfl rfl (And.intro trivial trivial) ?_
  refine mm_ok_goto (pt := 132) (d := -40) (by decide +kernel) (by decide) ?_
  exact mm_ok_sub (lo := [some (.ref 39), none, some (.int (a2 + (1 : Int32))), none, none]) (And.intro rfl (And.intro rfl trivial)) (hrr132 (a2 + (1 : Int32)) q)
def x2_weighLast_h132 : Nat → Int32 → mm_Q → Option (Unit × mm_Q)
  | 0, _, _ => none
  | n + 1, a2, q => (if ((1 : Int32) <<< ((q.1 39 7) &&& 31)) ≤ a2 then (some ((), q)) else (mm_cl (g_x2_chancesFrom 100 0 (0 : Int32) a2 (0 : Int32) q) (fun r25 q26 => (if (lg_cmp r25 (q26.2 39 11)) ≤ 0 then (x2_weighLast_j169 (x2_weighLast_h132 n) a2 q26) else (mm_lt (mm_sj q26 39 11 r25) (fun q28 => (mm_lt (mm_si q28 39 12 a2) (fun q29 => (x2_weighLast_j169 (x2_weighLast_h132 n) a2 q29)))))))))
set_option maxRecDepth 20000 in
theorem x2_weighLast_h132_ok {L : Nat} : ∀ (n : Nat) (a2 : Int32) (q : mm_Q), mm_ok mm_cvu (mm_Runs 101) 2 false cX2_weighLast none L 132 [some (.ref 39), none, some (.int a2), none, none] [] q (x2_weighLast_h132 n a2 q)
  | 0, _, _ => by
    exact mm_ok_none
  | n + 1, a2, q => by
    unfold x2_weighLast_h132
    refine mm_ok_bl (l := [(.iload 2, 1), (.iconst (1), 1), (.aload 0, 1), (.getfield 135, 3), (.ishl, 1)]) (pc' := 139) (lo' := [some (.ref 39), none, some (.int a2), none, none]) (st' := [.int ((1 : Int32) <<< ((q.1 39 7) &&& 31)), .int a2]) (q' := q) (P := (True) ∧ ((True) ∧ ((True) ∧ ((True) ∧ ((True) ∧ (True)))))) (by decide +kernel) rfl rfl (And.intro trivial (And.intro trivial (And.intro trivial (And.intro trivial (And.intro trivial trivial))))) ?_
    refine mm_ok_if_icmp_ge (pt := 175) (d := 36) (by decide +kernel) (by decide) (fun k24 => ?_) (fun k24 => ?_)
    · exact mm_ok_vret (by decide +kernel)
    · refine mm_ok_bl (l := [(.aload 0, 1), (.iconst (0), 1), (.iload 2, 1), (.iconst (0), 1)]) (pc' := 146) (lo' := [some (.ref 39), none, some (.int a2), none, none]) (st' := [.int (0 : Int32), .int a2, .int (0 : Int32), .ref 39]) (q' := q) (P := (True) ∧ ((True) ∧ ((True) ∧ ((True) ∧ (True))))) (by decide +kernel) rfl rfl (And.intro trivial (And.intro trivial (And.intro trivial (And.intro trivial trivial)))) ?_
      refine mm_ok_call (cz := mm_cvl) (j := .invokevirtual 579) (y := 36) (as := [.ref 39, .int (0 : Int32), .int a2, .int (0 : Int32)]) (t := []) (by decide +kernel) rfl (fun _ _ h => mm_up (k := 101) (by decide) ((g_x2_chancesFrom_ok 100) _ _ _ _ _ _ h)) (fun r25 q26 => ?_)
      refine mm_ok_bl (l := [(.lstore 3, 1), (.lload 3, 1), (.aload 0, 1), (.getfield 139, 3), (.lcmp, 1)]) (pc' := 156) (lo' := [some (.ref 39), none, some (.int a2), some (.long r25), none]) (st' := [.int (lg_cmp r25 (q26.2 39 11))]) (q' := q26) (P := (True) ∧ ((True) ∧ ((True) ∧ ((True) ∧ ((True) ∧ (True)))))) (by decide +kernel) rfl rfl (And.intro trivial (And.intro trivial (And.intro trivial (And.intro trivial (And.intro trivial trivial))))) ?_
      refine mm_ok_ifCond_le (pt := 169) (d := 13) (by decide +kernel) (by decide) (fun k27 => ?_) (fun k27 => ?_)
      · exact mm_ok_sub (lo := [some (.ref 39), none, some (.int a2), none, none]) (And.intro rfl (And.intro rfl trivial)) (x2_weighLast_j169_ok (x2_weighLast_h132 n) (x2_weighLast_h132_ok n) a2 q26)
      · refine mm_ok_bl (l := [(.aload 0, 1), (.lload 3, 1), (.putfield 139, 3)]) (pc' := 164) (lo' := [some (.ref 39), none, some (.int a2), some (.long r25), none]) (st' := []) (q' := (mm_sj q26 39 11 r25)) (P := (True) ∧ ((True) ∧ ((True) ∧ (True)))) (by decide +kernel) rfl rfl (And.intro trivial (And.intro trivial (And.intro trivial trivial))) ?_
        refine mm_ok_lt (fun q28 => ?_)
        refine mm_ok_bl (l := [(.aload 0, 1), (.iload 2, 1), (.putfield 140, 3)]) (pc' := 169) (lo' := [some (.ref 39), none, some (.int a2), some (.long r25), none]) (st' := []) (q' := (mm_si q28 39 12 a2)) (P := (True) ∧ ((True) ∧ ((True) ∧ (True)))) (by decide +kernel) rfl rfl (And.intro trivial (And.intro trivial (And.intro trivial trivial))) ?_
        refine mm_ok_lt (fun q29 => ?_)
        exact mm_ok_sub (lo := [some (.ref 39), none, some (.int a2), none, none]) (And.intro rfl (And.intro rfl trivial)) (x2_weighLast_j169_ok (x2_weighLast_h132 n) (x2_weighLast_h132_ok n) a2 q29)
def x2_weighLast_j123  (q : mm_Q) : Option (Unit × mm_Q) := (mm_lt (mm_sj q 39 11 (-1 : Int64)) (fun q23 => (x2_weighLast_h132 mm_fu (0 : Int32) q23)))
set_option maxRecDepth 20000 in
theorem x2_weighLast_j123_ok {L : Nat}  (q : mm_Q) : mm_ok mm_cvu (mm_Runs 101) 2 false cX2_weighLast none L 123 [some (.ref 39), none, none, none, none] [] q (x2_weighLast_j123  q) := by
  unfold x2_weighLast_j123
  refine mm_ok_bl (l := [(.aload 0, 1), (.goto_w (-1), 3), (.putfield 139, 3)]) (pc' := 130) (lo' := [some (.ref 39), none, none, none, none]) (st' := []) (q' := (mm_sj q 39 11 (-1 : Int64))) (P := (True) ∧ ((True) ∧ ((True) ∧ (True)))) (by decide +kernel) rfl rfl (And.intro trivial (And.intro trivial (And.intro trivial trivial))) ?_
  refine mm_ok_lt (fun q23 => ?_)
  refine mm_ok_bl (l := [(.iconst (0), 1), (.istore 2, 1)]) (pc' := 132) (lo' := [some (.ref 39), none, some (.int (0 : Int32)), none, none]) (st' := []) (q' := q23) (P := (True) ∧ ((True) ∧ (True))) (by decide +kernel) rfl rfl (And.intro trivial (And.intro trivial trivial)) ?_
  exact mm_ok_sub (lo := [some (.ref 39), none, some (.int (0 : Int32)), none, none]) (And.intro rfl (And.intro rfl trivial)) (x2_weighLast_h132_ok mm_fu (0 : Int32) q23)
def x2_weighLast_h65 : Nat → Int32 → Int32 → mm_Q → Option (Unit × mm_Q)
  | 0, _, _, _ => none
  | n + 1, a1, a2, q => (if (q.1 39 7) ≤ a2 then (x2_weighLast_j123 q) else (if (9 : Int32) ≤ a2 then (x2_weighLast_j123 q) else (mm_cl (x10_take a1 a2 a2 q) (fun u13 q14 => (mm_cl (x10_bestPoints (0 : Int32) q14) (fun r15 q16 => (mm_ck (mm_inb a2 9) (mm_lt (mm_si q16 42 a2.toNatClampNeg r15) (fun q18 => (mm_cl (x10_bestPoints (1 : Int32) q18) (fun r19 q20 => (mm_ck (mm_inb a2 9) (mm_lt (mm_si q20 43 a2.toNatClampNeg r19) (fun q22 => (x2_weighLast_h65 n a1 (a2 + (1 : Int32)) q22)))))))))))))))
set_option maxRecDepth 20000 in
theorem x2_weighLast_h65_ok {L : Nat} : ∀ (n : Nat) (a1 : Int32) (a2 : Int32) (q : mm_Q), mm_ok mm_cvu (mm_Runs 101) 2 false cX2_weighLast none L 65 [some (.ref 39), some (.int a1), some (.int a2), none, none] [] q (x2_weighLast_h65 n a1 a2 q)
  | 0, _, _, _ => by
    exact mm_ok_none
  | n + 1, a1, a2, q => by
    unfold x2_weighLast_h65
    refine mm_ok_bl (l := [(.iload 2, 1), (.aload 0, 1), (.getfield 135, 3)]) (pc' := 70) (lo' := [some (.ref 39), some (.int a1), some (.int a2), none, none]) (st' := [.int (q.1 39 7), .int a2]) (q' := q) (P := (True) ∧ ((True) ∧ ((True) ∧ (True)))) (by decide +kernel) rfl rfl (And.intro trivial (And.intro trivial (And.intro trivial trivial))) ?_
    refine mm_ok_if_icmp_ge (pt := 123) (d := 53) (by decide +kernel) (by decide) (fun k11 => ?_) (fun k11 => ?_)
    · exact mm_ok_sub (lo := [some (.ref 39), none, none, none, none]) (And.intro rfl trivial) (x2_weighLast_j123_ok  q)
    · refine mm_ok_bl (l := [(.iload 2, 1), (.iconst (9), 2)]) (pc' := 76) (lo' := [some (.ref 39), some (.int a1), some (.int a2), none, none]) (st' := [.int (9 : Int32), .int a2]) (q' := q) (P := (True) ∧ ((True) ∧ (True))) (by decide +kernel) rfl rfl (And.intro trivial (And.intro trivial trivial)) ?_
      refine mm_ok_if_icmp_ge (pt := 123) (d := 47) (by decide +kernel) (by decide) (fun k12 => ?_) (fun k12 => ?_)
      · exact mm_ok_sub (lo := [some (.ref 39), none, none, none, none]) (And.intro rfl trivial) (x2_weighLast_j123_ok  q)
      · refine mm_ok_bl (l := [(.aload 0, 1), (.getfield 129, 3), (.iload 1, 1), (.iload 2, 1), (.iload 2, 1)]) (pc' := 86) (lo' := [some (.ref 39), some (.int a1), some (.int a2), none, none]) (st' := [.int a2, .int a2, .int a1, .ref 14]) (q' := q) (P := (True) ∧ ((True) ∧ ((True) ∧ ((True) ∧ ((True) ∧ (True)))))) (by decide +kernel) rfl rfl (And.intro trivial (And.intro trivial (And.intro trivial (And.intro trivial (And.intro trivial trivial))))) ?_
        refine mm_ok_call (cz := mm_cvu) (j := .invokevirtual 2067) (y := 129) (as := [.ref 14, .int a1, .int a2, .int a2]) (t := []) (by decide +kernel) rfl (fun _ _ h => mm_up (k := 3) (by decide) (x10_take_ok h)) (fun u13 q14 => ?_)
        refine mm_ok_bl (l := [(.aload 0, 1), (.getfield 132, 3), (.iload 2, 1), (.aload 0, 1), (.getfield 129, 3), (.iconst (0), 1)]) (pc' := 99) (lo' := [some (.ref 39), some (.int a1), some (.int a2), none, none]) (st' := [.int (0 : Int32), .ref 14, .int a2, .ref 42]) (q' := q14) (P := (True) ∧ ((True) ∧ ((True) ∧ ((True) ∧ ((True) ∧ ((True) ∧ (True))))))) (by decide +kernel) rfl rfl (And.intro trivial (And.intro trivial (And.intro trivial (And.intro trivial (And.intro trivial (And.intro trivial trivial)))))) ?_
        refine mm_ok_call (cz := mm_cvi) (j := .invokevirtual 2177) (y := 136) (as := [.ref 14, .int (0 : Int32)]) (t := [.int a2, .ref 42]) (by decide +kernel) rfl (fun _ _ h => mm_up (k := 4) (by decide) (x10_bestPoints_ok h)) (fun r15 q16 => ?_)
        refine mm_ok_ck (fun c17 => ?_)
        refine mm_ok_bl (l := [(.iastore, 1)]) (pc' := 103) (lo' := [some (.ref 39), some (.int a1), some (.int a2), none, none]) (st' := []) (q' := (mm_si q16 42 a2.toNatClampNeg r15)) (P := (mm_ix a2 9) ∧ (True)) (by decide +kernel) rfl rfl (And.intro (mm_inb_ix c17) trivial) ?_
        refine mm_ok_lt (fun q18 => ?_)
        refine mm_ok_bl (l := [(.aload 0, 1), (.getfield 133, 3), (.iload 2, 1), (.aload 0, 1), (.getfield 129, 3), (.iconst (1), 1)]) (pc' := 113) (lo' := [some (.ref 39), some (.int a1), some (.int a2), none, none]) (st' := [.int (1 : Int32), .ref 14, .int a2, .ref 43]) (q' := q18) (P := (True) ∧ ((True) ∧ ((True) ∧ ((True) ∧ ((True) ∧ ((True) ∧ (True))))))) (by decide +kernel) rfl rfl (And.intro trivial (And.intro trivial (And.intro trivial (And.intro trivial (And.intro trivial (And.intro trivial trivial)))))) ?_
        refine mm_ok_call (cz := mm_cvi) (j := .invokevirtual 2177) (y := 136) (as := [.ref 14, .int (1 : Int32)]) (t := [.int a2, .ref 43]) (by decide +kernel) rfl (fun _ _ h => mm_up (k := 4) (by decide) (x10_bestPoints_ok h)) (fun r19 q20 => ?_)
        refine mm_ok_ck (fun c21 => ?_)
        refine mm_ok_bl (l := [(.iastore, 1)]) (pc' := 117) (lo' := [some (.ref 39), some (.int a1), some (.int a2), none, none]) (st' := []) (q' := (mm_si q20 43 a2.toNatClampNeg r19)) (P := (mm_ix a2 9) ∧ (True)) (by decide +kernel) rfl rfl (And.intro (mm_inb_ix c21) trivial) ?_
        refine mm_ok_lt (fun q22 => ?_)
        refine mm_ok_bl (l := [(.iinc 2 (1), 3)]) (pc' := 120) (lo' := [some (.ref 39), some (.int a1), some (.int (a2 + (1 : Int32))), none, none]) (st' := []) (q' := q22) (P := (True) ∧ (True)) (by decide +kernel) rfl rfl (And.intro trivial trivial) ?_
        refine mm_ok_goto (pt := 65) (d := -55) (by decide +kernel) (by decide) ?_
        exact mm_ok_sub (lo := [some (.ref 39), some (.int a1), some (.int (a2 + (1 : Int32))), none, none]) (And.intro rfl (And.intro rfl (And.intro rfl trivial))) (x2_weighLast_h65_ok n a1 (a2 + (1 : Int32)) q22)
def x2_weighLast_h18 : Nat → Int32 → Int32 → mm_Q → Option (Unit × mm_Q)
  | 0, _, _, _ => none
  | n + 1, a1, a2, q => (if ((q.1 39 6) - (1 : Int32)) ≤ a2 then (mm_cl (x4_told a1 (3 : Int32) q) (fun r5 q6 => (mm_lt (mm_si q6 39 10 r5) (fun q7 => (x2_weighLast_h65 mm_fu a1 (0 : Int32) q7))))) else (mm_cl (x2_scoreAt a2 q) (fun r8 q9 => (mm_lt (mm_si q9 39 9 (mm_max (q.1 39 9) r8)) (fun q10 => (x2_weighLast_h18 n a1 (a2 + (1 : Int32)) q10))))))
set_option maxRecDepth 20000 in
theorem x2_weighLast_h18_ok {L : Nat} : ∀ (n : Nat) (a1 : Int32) (a2 : Int32) (q : mm_Q), mm_ok mm_cvu (mm_Runs 101) 2 false cX2_weighLast none L 18 [some (.ref 39), some (.int a1), some (.int a2), none, none] [] q (x2_weighLast_h18 n a1 a2 q)
  | 0, _, _, _ => by
    exact mm_ok_none
  | n + 1, a1, a2, q => by
    unfold x2_weighLast_h18
    refine mm_ok_bl (l := [(.iload 2, 1), (.aload 0, 1), (.getfield 134, 3), (.iconst (1), 1), (.isub, 1)]) (pc' := 25) (lo' := [some (.ref 39), some (.int a1), some (.int a2), none, none]) (st' := [.int ((q.1 39 6) - (1 : Int32)), .int a2]) (q' := q) (P := (True) ∧ ((True) ∧ ((True) ∧ ((True) ∧ ((True) ∧ (True)))))) (by decide +kernel) rfl rfl (And.intro trivial (And.intro trivial (And.intro trivial (And.intro trivial (And.intro trivial trivial))))) ?_
    refine mm_ok_if_icmp_ge (pt := 50) (d := 25) (by decide +kernel) (by decide) (fun k4 => ?_) (fun k4 => ?_)
    · refine mm_ok_bl (l := [(.aload 0, 1), (.aload 0, 1), (.getfield 128, 3), (.iload 1, 1), (.iconst (3), 1)]) (pc' := 57) (lo' := [some (.ref 39), some (.int a1), some (.int a2), none, none]) (st' := [.int (3 : Int32), .int a1, .ref 8, .ref 39]) (q' := q) (P := (True) ∧ ((True) ∧ ((True) ∧ ((True) ∧ ((True) ∧ (True)))))) (by decide +kernel) rfl rfl (And.intro trivial (And.intro trivial (And.intro trivial (And.intro trivial (And.intro trivial trivial))))) ?_
      refine mm_ok_call (cz := mm_cvi) (j := .invokevirtual 930) (y := 58) (as := [.ref 8, .int a1, .int (3 : Int32)]) (t := [.ref 39]) (by decide +kernel) rfl (fun _ _ h => mm_up (k := 2) (by decide) (x4_told_ok h)) (fun r5 q6 => ?_)
      refine mm_ok_bl (l := [(.putfield 138, 3)]) (pc' := 63) (lo' := [some (.ref 39), some (.int a1), some (.int a2), none, none]) (st' := []) (q' := (mm_si q6 39 10 r5)) (P := (True) ∧ (True)) (by decide +kernel) rfl rfl (And.intro trivial trivial) ?_
      refine mm_ok_lt (fun q7 => ?_)
      refine mm_ok_bl (l := [(.iconst (0), 1), (.istore 2, 1)]) (pc' := 65) (lo' := [some (.ref 39), some (.int a1), some (.int (0 : Int32)), none, none]) (st' := []) (q' := q7) (P := (True) ∧ ((True) ∧ (True))) (by decide +kernel) rfl rfl (And.intro trivial (And.intro trivial trivial)) ?_
      exact mm_ok_sub (lo := [some (.ref 39), some (.int a1), some (.int (0 : Int32)), none, none]) (And.intro rfl (And.intro rfl (And.intro rfl trivial))) (x2_weighLast_h65_ok mm_fu a1 (0 : Int32) q7)
    · refine mm_ok_bl (l := [(.aload 0, 1), (.aload 0, 1), (.getfield 137, 3), (.aload 0, 1), (.iload 2, 1)]) (pc' := 35) (lo' := [some (.ref 39), some (.int a1), some (.int a2), none, none]) (st' := [.int a2, .ref 39, .int (q.1 39 9), .ref 39]) (q' := q) (P := (True) ∧ ((True) ∧ ((True) ∧ ((True) ∧ ((True) ∧ (True)))))) (by decide +kernel) rfl rfl (And.intro trivial (And.intro trivial (And.intro trivial (And.intro trivial (And.intro trivial trivial))))) ?_
      refine mm_ok_call (cz := mm_cvi) (j := .invokevirtual 433) (y := 27) (as := [.ref 39, .int a2]) (t := [.int (q.1 39 9), .ref 39]) (by decide +kernel) rfl (fun _ _ h => mm_up (k := 1) (by decide) (x2_scoreAt_ok h)) (fun r8 q9 => ?_)
      refine mm_ok_bl (l := [(.ldc 0, 3), (.putfield 137, 3)]) (pc' := 44) (lo' := [some (.ref 39), some (.int a1), some (.int a2), none, none]) (st' := []) (q' := (mm_si q9 39 9 (mm_max (q.1 39 9) r8))) (P := (True) ∧ ((True) ∧ (True))) (by decide +kernel) rfl rfl (And.intro trivial (And.intro trivial trivial)) ?_
      refine mm_ok_lt (fun q10 => ?_)
      refine mm_ok_bl (l := [(.iinc 2 (1), 3)]) (pc' := 47) (lo' := [some (.ref 39), some (.int a1), some (.int (a2 + (1 : Int32))), none, none]) (st' := []) (q' := q10) (P := (True) ∧ (True)) (by decide +kernel) rfl rfl (And.intro trivial trivial) ?_
      refine mm_ok_goto (pt := 18) (d := -29) (by decide +kernel) (by decide) ?_
      exact mm_ok_sub (lo := [some (.ref 39), some (.int a1), some (.int (a2 + (1 : Int32))), none, none]) (And.intro rfl (And.intro rfl (And.intro rfl trivial))) (x2_weighLast_h18_ok n a1 (a2 + (1 : Int32)) q10)
def x2_weighLast  (q : mm_Q) : Option (Unit × mm_Q) := (mm_cl (x2_spitterAt ((q.1 39 6) - (1 : Int32)) q) (fun r1 q2 => (mm_lt (mm_si q2 39 9 (-1 : Int32)) (fun q3 => (x2_weighLast_h18 mm_fu r1 (0 : Int32) q3)))))
set_option maxRecDepth 20000 in
theorem x2_weighLast_ok {L : Nat} {q : mm_Q} {r : Unit} {q1 : mm_Q} (h : x2_weighLast  q = some (r, q1)) : mm_Runs 102 32 [.ref 39] (mm_wq L q) (mm_cvu r) (mm_wq L q1) := by
  refine mm_runs_of (d := 101) (L := L) rfl (by decide +kernel) rfl rfl (?_ : mm_ok mm_cvu (mm_Runs 101) 2 false cX2_weighLast none L 0 [some (.ref 39), none, none, none, none] [] q (x2_weighLast  q)) h
  unfold x2_weighLast
  refine mm_ok_bl (l := [(.aload 0, 1), (.aload 0, 1), (.getfield 134, 3), (.iconst (1), 1), (.isub, 1)]) (pc' := 7) (lo' := [some (.ref 39), none, none, none, none]) (st' := [.int ((q.1 39 6) - (1 : Int32)), .ref 39]) (q' := q) (P := (True) ∧ ((True) ∧ ((True) ∧ ((True) ∧ ((True) ∧ (True)))))) (by decide +kernel) rfl rfl (And.intro trivial (And.intro trivial (And.intro trivial (And.intro trivial (And.intro trivial trivial))))) ?_
  refine mm_ok_call (cz := mm_cvi) (j := .invokevirtual 449) (y := 28) (as := [.ref 39, .int ((q.1 39 6) - (1 : Int32))]) (t := []) (by decide +kernel) rfl (fun _ _ h => mm_up (k := 1) (by decide) (x2_spitterAt_ok h)) (fun r1 q2 => ?_)
  refine mm_ok_bl (l := [(.istore 1, 1), (.aload 0, 1), (.iconst (-1), 1), (.putfield 137, 3)]) (pc' := 16) (lo' := [some (.ref 39), some (.int r1), none, none, none]) (st' := []) (q' := (mm_si q2 39 9 (-1 : Int32))) (P := (True) ∧ ((True) ∧ ((True) ∧ ((True) ∧ (True))))) (by decide +kernel) rfl rfl (And.intro trivial (And.intro trivial (And.intro trivial (And.intro trivial trivial)))) ?_
  refine mm_ok_lt (fun q3 => ?_)
  refine mm_ok_bl (l := [(.iconst (0), 1), (.istore 2, 1)]) (pc' := 18) (lo' := [some (.ref 39), some (.int r1), some (.int (0 : Int32)), none, none]) (st' := []) (q' := q3) (P := (True) ∧ ((True) ∧ (True))) (by decide +kernel) rfl rfl (And.intro trivial (And.intro trivial trivial)) ?_
  exact mm_ok_sub (lo := [some (.ref 39), some (.int r1), some (.int (0 : Int32)), none, none]) (And.intro rfl (And.intro rfl (And.intro rfl trivial))) (x2_weighLast_h18_ok mm_fu r1 (0 : Int32) q3)
def x2_chanceAbove  (q : mm_Q) : Option (Int64 × mm_Q) := (some (q.2 39 11, q))
set_option maxRecDepth 20000 in
theorem x2_chanceAbove_ok {L : Nat} {q : mm_Q} {r : Int64} {q1 : mm_Q} (h : x2_chanceAbove  q = some (r, q1)) : mm_Runs 1 33 [.ref 39] (mm_wq L q) (mm_cvl r) (mm_wq L q1) := by
  refine mm_runs_of (d := 0) (L := L) rfl (by decide +kernel) rfl rfl (?_ : mm_ok mm_cvl (mm_Runs 0) 2 false cX2_chanceAbove (some .long) L 0 [some (.ref 39)] [] q (x2_chanceAbove  q)) h
  unfold x2_chanceAbove
  refine mm_ok_bl (l := [(.aload 0, 1), (.getfield 139, 3)]) (pc' := 4) (lo' := [some (.ref 39)]) (st' := [.long (q.2 39 11)]) (q' := q) (P := (True) ∧ ((True) ∧ (True))) (by decide +kernel) rfl rfl (And.intro trivial (And.intro trivial trivial)) ?_
  exact mm_ok_lret (by decide +kernel)
def x2_chanceBelow  (q : mm_Q) : Option (Int64 × mm_Q) := (mm_cl (x2_twelveTo (q.1 39 7) q) (fun r1 q2 => (some (r1, q2))))
set_option maxRecDepth 20000 in
theorem x2_chanceBelow_ok {L : Nat} {q : mm_Q} {r : Int64} {q1 : mm_Q} (h : x2_chanceBelow  q = some (r, q1)) : mm_Runs 2 34 [.ref 39] (mm_wq L q) (mm_cvl r) (mm_wq L q1) := by
  refine mm_runs_of (d := 1) (L := L) rfl (by decide +kernel) rfl rfl (?_ : mm_ok mm_cvl (mm_Runs 1) 2 false cX2_chanceBelow (some .long) L 0 [some (.ref 39)] [] q (x2_chanceBelow  q)) h
  unfold x2_chanceBelow
  refine mm_ok_bl (l := [(.aload 0, 1), (.getfield 135, 3)]) (pc' := 4) (lo' := [some (.ref 39)]) (st' := [.int (q.1 39 7)]) (q' := q) (P := (True) ∧ ((True) ∧ (True))) (by decide +kernel) rfl rfl (And.intro trivial (And.intro trivial trivial)) ?_
  refine mm_ok_call (cz := mm_cvl) (j := .invokestatic 593) (y := 37) (as := [.int (q.1 39 7)]) (t := []) (by decide +kernel) rfl (fun _ _ h => mm_up (k := 1) (by decide) (x2_twelveTo_ok h)) (fun r1 q2 => ?_)
  exact mm_ok_lret (by decide +kernel)
def x2_runBits  (q : mm_Q) : Option (Int32 × mm_Q) := (some (q.1 39 12, q))
set_option maxRecDepth 20000 in
theorem x2_runBits_ok {L : Nat} {q : mm_Q} {r : Int32} {q1 : mm_Q} (h : x2_runBits  q = some (r, q1)) : mm_Runs 1 35 [.ref 39] (mm_wq L q) (mm_cvi r) (mm_wq L q1) := by
  refine mm_runs_of (d := 0) (L := L) rfl (by decide +kernel) rfl rfl (?_ : mm_ok mm_cvi (mm_Runs 0) 2 false cX2_runBits (some .int) L 0 [some (.ref 39)] [] q (x2_runBits  q)) h
  unfold x2_runBits
  refine mm_ok_bl (l := [(.aload 0, 1), (.getfield 140, 3)]) (pc' := 4) (lo' := [some (.ref 39)]) (st' := [.int (q.1 39 12)]) (q' := q) (P := (True) ∧ ((True) ∧ (True))) (by decide +kernel) rfl rfl (And.intro trivial (And.intro trivial trivial)) ?_
  exact mm_ok_iret (by decide +kernel)
def x3_ofOne (a1 : Int32) (a2 : Int32) (q : mm_Q) : Option (Int32 × mm_Q) := (if (((3 : Int32) * a1) + a2) < 0 then (some ((0 : Int32), q)) else (if (18 : Int32) ≤ (((3 : Int32) * a1) + a2) then (some ((0 : Int32), q)) else (mm_ck (mm_inb (((3 : Int32) * a1) + a2) 21) (some (q.1 48 (((3 : Int32) * a1) + a2).toNatClampNeg, q)))))
set_option maxRecDepth 20000 in
theorem x3_ofOne_ok {L : Nat} {a1 : Int32} {a2 : Int32} {q : mm_Q} {r : Int32} {q1 : mm_Q} (h : x3_ofOne a1 a2 q = some (r, q1)) : mm_Runs 1 45 [.ref 46, .int a1, .int a2] (mm_wq L q) (mm_cvi r) (mm_wq L q1) := by
  refine mm_runs_of (d := 0) (L := L) rfl (by decide +kernel) rfl rfl (?_ : mm_ok mm_cvi (mm_Runs 0) 3 false cX3_ofOne (some .int) L 0 [some (.ref 46), some (.int a1), some (.int a2), none] [] q (x3_ofOne a1 a2 q)) h
  unfold x3_ofOne
  refine mm_ok_bl (l := [(.iconst (3), 1), (.iload 1, 1), (.imul, 1), (.iload 2, 1), (.iadd, 1), (.istore 3, 1), (.iload 3, 1)]) (pc' := 7) (lo' := [some (.ref 46), some (.int a1), some (.int a2), some (.int (((3 : Int32) * a1) + a2))]) (st' := [.int (((3 : Int32) * a1) + a2)]) (q' := q) (P := (True) ∧ ((True) ∧ ((True) ∧ ((True) ∧ ((True) ∧ ((True) ∧ ((True) ∧ (True)))))))) (by decide +kernel) rfl rfl (And.intro trivial (And.intro trivial (And.intro trivial (And.intro trivial (And.intro trivial (And.intro trivial (And.intro trivial trivial))))))) ?_
  refine mm_ok_ifCond_lt (pt := 25) (d := 18) (by decide +kernel) (by decide) (fun k1 => ?_) (fun k1 => ?_)
  · refine mm_ok_bl (l := [(.iconst (0), 1)]) (pc' := 26) (lo' := [some (.ref 46), some (.int a1), some (.int a2), some (.int (((3 : Int32) * a1) + a2))]) (st' := [.int (0 : Int32)]) (q' := q) (P := (True) ∧ (True)) (by decide +kernel) rfl rfl (And.intro trivial trivial) ?_
    exact mm_ok_iret (by decide +kernel)
  · refine mm_ok_bl (l := [(.iload 3, 1), (.iconst (18), 2)]) (pc' := 13) (lo' := [some (.ref 46), some (.int a1), some (.int a2), some (.int (((3 : Int32) * a1) + a2))]) (st' := [.int (18 : Int32), .int (((3 : Int32) * a1) + a2)]) (q' := q) (P := (True) ∧ ((True) ∧ (True))) (by decide +kernel) rfl rfl (And.intro trivial (And.intro trivial trivial)) ?_
    refine mm_ok_if_icmp_ge (pt := 25) (d := 12) (by decide +kernel) (by decide) (fun k2 => ?_) (fun k2 => ?_)
    · refine mm_ok_bl (l := [(.iconst (0), 1)]) (pc' := 26) (lo' := [some (.ref 46), some (.int a1), some (.int a2), some (.int (((3 : Int32) * a1) + a2))]) (st' := [.int (0 : Int32)]) (q' := q) (P := (True) ∧ (True)) (by decide +kernel) rfl rfl (And.intro trivial trivial) ?_
      exact mm_ok_iret (by decide +kernel)
    · refine mm_ok_bl (l := [(.aload 0, 1), (.getfield 192, 3), (.iload 3, 1)]) (pc' := 21) (lo' := [some (.ref 46), some (.int a1), some (.int a2), some (.int (((3 : Int32) * a1) + a2))]) (st' := [.int (((3 : Int32) * a1) + a2), .ref 48]) (q' := q) (P := (True) ∧ ((True) ∧ ((True) ∧ (True)))) (by decide +kernel) rfl rfl (And.intro trivial (And.intro trivial (And.intro trivial trivial))) ?_
      refine mm_ok_ck (fun c3 => ?_)
      refine mm_ok_bl (l := [(.iaload, 1)]) (pc' := 22) (lo' := [some (.ref 46), some (.int a1), some (.int a2), some (.int (((3 : Int32) * a1) + a2))]) (st' := [.int (q.1 48 (((3 : Int32) * a1) + a2).toNatClampNeg)]) (q' := q) (P := (mm_ix (((3 : Int32) * a1) + a2) 21) ∧ (True)) (by decide +kernel) rfl rfl (And.intro (mm_inb_ix c3) trivial) ?_
      refine mm_ok_goto (pt := 26) (d := 4) (by decide +kernel) (by decide) ?_
      exact mm_ok_iret (by decide +kernel)
def x3_sinceRest (a1 : Int32) (q : mm_Q) : Option (Int32 × mm_Q) := (mm_cl (x3_ofOne a1 (2 : Int32) q) (fun r1 q2 => (some (r1, q2))))
set_option maxRecDepth 20000 in
theorem x3_sinceRest_ok {L : Nat} {a1 : Int32} {q : mm_Q} {r : Int32} {q1 : mm_Q} (h : x3_sinceRest a1 q = some (r, q1)) : mm_Runs 2 42 [.ref 46, .int a1] (mm_wq L q) (mm_cvi r) (mm_wq L q1) := by
  refine mm_runs_of (d := 1) (L := L) rfl (by decide +kernel) rfl rfl (?_ : mm_ok mm_cvi (mm_Runs 1) 3 false cX3_sinceRest (some .int) L 0 [some (.ref 46), some (.int a1)] [] q (x3_sinceRest a1 q)) h
  unfold x3_sinceRest
  refine mm_ok_bl (l := [(.aload 0, 1), (.iload 1, 1), (.iconst (2), 1)]) (pc' := 3) (lo' := [some (.ref 46), some (.int a1)]) (st' := [.int (2 : Int32), .int a1, .ref 46]) (q' := q) (P := (True) ∧ ((True) ∧ ((True) ∧ (True)))) (by decide +kernel) rfl rfl (And.intro trivial (And.intro trivial (And.intro trivial trivial))) ?_
  refine mm_ok_call (cz := mm_cvi) (j := .invokevirtual 722) (y := 45) (as := [.ref 46, .int a1, .int (2 : Int32)]) (t := []) (by decide +kernel) rfl (fun _ _ h => mm_up (k := 1) (by decide) (x3_ofOne_ok h)) (fun r1 q2 => ?_)
  exact mm_ok_iret (by decide +kernel)
def x3_note_j90 (a4 : Int32) (q : mm_Q) : Option (Unit × mm_Q) := (if a4 = 0 then (some ((), q)) else (mm_lt (mm_si q 48 20 ((q.1 48 20) + (1 : Int32))) (fun q16 => (some ((), q16)))))
set_option maxRecDepth 20000 in
theorem x3_note_j90_ok {L : Nat} (a4 : Int32) (q : mm_Q) : mm_ok mm_cvu (mm_Runs 0) 3 false cX3_note none L 90 [some (.ref 46), none, none, none, some (.int a4), none] [] q (x3_note_j90 a4 q) := by
  unfold x3_note_j90
  refine mm_ok_bl (l := [(.iload 4, 2)]) (pc' := 92) (lo' := [some (.ref 46), none, none, none, some (.int a4), none]) (st' := [.int a4]) (q' := q) (P := (True) ∧ (True)) (by decide +kernel) rfl rfl (And.intro trivial trivial) ?_
  refine mm_ok_ifCond_eq (pt := 106) (d := 14) (by decide +kernel) (by decide) (fun k15 => ?_) (fun k15 => ?_)
  · exact mm_ok_vret (by decide +kernel)
  · refine mm_ok_bl (l := [(.aload 0, 1), (.getfield 192, 3), (.iconst (20), 2), (.dup2, 1), (.iaload, 1), (.iconst (1), 1), (.iadd, 1), (.iastore, 1)]) (pc' := 106) (lo' := [some (.ref 46), none, none, none, some (.int a4), none]) (st' := []) (q' := (mm_si q 48 20 ((q.1 48 20) + (1 : Int32)))) (P := (True) ∧ ((True) ∧ ((True) ∧ ((True) ∧ ((mm_ix (20 : Int32) 21) ∧ ((True) ∧ ((True) ∧ ((mm_ix (20 : Int32) 21) ∧ (True))))))))) (by decide +kernel) rfl rfl (And.intro trivial (And.intro trivial (And.intro trivial (And.intro trivial (And.intro (mm_inb_ix (by decide)) (And.intro trivial (And.intro trivial (And.intro (mm_inb_ix (by decide)) trivial)))))))) ?_
    refine mm_ok_lt (fun q16 => ?_)
    exact mm_ok_vret (by decide +kernel)
def x3_note (a1 : Int32) (a2 : Int32) (a3 : Int32) (a4 : Int32) (q : mm_Q) : Option (Unit × mm_Q) := (if a1 < 0 then (some ((), q)) else (if a1 < (6 : Int32) then (mm_ck (mm_inb (((3 : Int32) * a1) + (0 : Int32)) 21) (mm_ck (mm_inb (((3 : Int32) * a1) + (0 : Int32)) 21) (mm_lt (mm_si q 48 (((3 : Int32) * a1) + (0 : Int32)).toNatClampNeg ((q.1 48 (((3 : Int32) * a1) + (0 : Int32)).toNatClampNeg) + a2)) (fun q5 => (mm_ck (mm_inb (((3 : Int32) * a1) + (1 : Int32)) 21) (mm_ck (mm_inb (((3 : Int32) * a1) + (1 : Int32)) 21) (mm_lt (mm_si q5 48 (((3 : Int32) * a1) + (1 : Int32)).toNatClampNeg (mm_max (q5.1 48 (((3 : Int32) * a1) + (1 : Int32)).toNatClampNeg) a2)) (fun q8 => (mm_ck (mm_inb (((3 : Int32) * a1) + (2 : Int32)) 21) (mm_ck (mm_inb (((3 : Int32) * a1) + (2 : Int32)) 21) (mm_lt (mm_si q8 48 (((3 : Int32) * a1) + (2 : Int32)).toNatClampNeg ((q8.1 48 (((3 : Int32) * a1) + (2 : Int32)).toNatClampNeg) + (1 : Int32))) (fun q11 => (mm_lt (mm_si q11 48 18 ((q11.1 48 18) + (1 : Int32))) (fun q12 => (if a3 = 0 then (x3_note_j90 a4 q12) else (mm_lt (mm_si q12 48 19 ((q12.1 48 19) + (1 : Int32))) (fun q14 => (x3_note_j90 a4 q14)))))))))))))))))) else (some ((), q))))
set_option maxRecDepth 20000 in
theorem x3_note_ok {L : Nat} {a1 : Int32} {a2 : Int32} {a3 : Int32} {a4 : Int32} {q : mm_Q} {r : Unit} {q1 : mm_Q} (h : x3_note a1 a2 a3 a4 q = some (r, q1)) : mm_Runs 1 43 [.ref 46, .int a1, .int a2, .int a3, .int a4] (mm_wq L q) (mm_cvu r) (mm_wq L q1) := by
  refine mm_runs_of (d := 0) (L := L) rfl (by decide +kernel) rfl rfl (?_ : mm_ok mm_cvu (mm_Runs 0) 3 false cX3_note none L 0 [some (.ref 46), some (.int a1), some (.int a2), some (.int a3), some (.int a4), none] [] q (x3_note a1 a2 a3 a4 q)) h
  unfold x3_note
  refine mm_ok_bl (l := [(.iload 1, 1)]) (pc' := 1) (lo' := [some (.ref 46), some (.int a1), some (.int a2), some (.int a3), some (.int a4), none]) (st' := [.int a1]) (q' := q) (P := (True) ∧ (True)) (by decide +kernel) rfl rfl (And.intro trivial trivial) ?_
  refine mm_ok_ifCond_lt (pt := 10) (d := 9) (by decide +kernel) (by decide) (fun k1 => ?_) (fun k1 => ?_)
  · exact mm_ok_vret (by decide +kernel)
  · refine mm_ok_bl (l := [(.iload 1, 1), (.iconst (6), 2)]) (pc' := 7) (lo' := [some (.ref 46), some (.int a1), some (.int a2), some (.int a3), some (.int a4), none]) (st' := [.int (6 : Int32), .int a1]) (q' := q) (P := (True) ∧ ((True) ∧ (True))) (by decide +kernel) rfl rfl (And.intro trivial (And.intro trivial trivial)) ?_
    refine mm_ok_if_icmp_lt (pt := 11) (d := 4) (by decide +kernel) (by decide) (fun k2 => ?_) (fun k2 => ?_)
    · refine mm_ok_bl (l := [(.iconst (3), 1), (.iload 1, 1), (.imul, 1), (.istore 5, 2), (.aload 0, 1), (.getfield 192, 3), (.iload 5, 2), (.iconst (0), 1), (.iadd, 1), (.dup2, 1)]) (pc' := 25) (lo' := [some (.ref 46), some (.int a1), some (.int a2), some (.int a3), some (.int a4), some (.int ((3 : Int32) * a1))]) (st' := [.int (((3 : Int32) * a1) + (0 : Int32)), .ref 48, .int (((3 : Int32) * a1) + (0 : Int32)), .ref 48]) (q' := q) (P := (True) ∧ ((True) ∧ ((True) ∧ ((True) ∧ ((True) ∧ ((True) ∧ ((True) ∧ ((True) ∧ ((True) ∧ ((True) ∧ (True))))))))))) (by decide +kernel) rfl rfl (And.intro trivial (And.intro trivial (And.intro trivial (And.intro trivial (And.intro trivial (And.intro trivial (And.intro trivial (And.intro trivial (And.intro trivial (And.intro trivial trivial)))))))))) ?_
      refine mm_ok_ck (fun c3 => ?_)
      refine mm_ok_bl (l := [(.iaload, 1), (.iload 2, 1), (.iadd, 1)]) (pc' := 28) (lo' := [some (.ref 46), some (.int a1), some (.int a2), some (.int a3), some (.int a4), some (.int ((3 : Int32) * a1))]) (st' := [.int ((q.1 48 (((3 : Int32) * a1) + (0 : Int32)).toNatClampNeg) + a2), .int (((3 : Int32) * a1) + (0 : Int32)), .ref 48]) (q' := q) (P := (mm_ix (((3 : Int32) * a1) + (0 : Int32)) 21) ∧ ((True) ∧ ((True) ∧ (True)))) (by decide +kernel) rfl rfl (And.intro (mm_inb_ix c3) (And.intro trivial (And.intro trivial trivial))) ?_
      refine mm_ok_ck (fun c4 => ?_)
      refine mm_ok_bl (l := [(.iastore, 1)]) (pc' := 29) (lo' := [some (.ref 46), some (.int a1), some (.int a2), some (.int a3), some (.int a4), some (.int ((3 : Int32) * a1))]) (st' := []) (q' := (mm_si q 48 (((3 : Int32) * a1) + (0 : Int32)).toNatClampNeg ((q.1 48 (((3 : Int32) * a1) + (0 : Int32)).toNatClampNeg) + a2))) (P := (mm_ix (((3 : Int32) * a1) + (0 : Int32)) 21) ∧ (True)) (by decide +kernel) rfl rfl (And.intro (mm_inb_ix c4) trivial) ?_
      refine mm_ok_lt (fun q5 => ?_)
      refine mm_ok_bl (l := [(.aload 0, 1), (.getfield 192, 3), (.iload 5, 2), (.iconst (1), 1), (.iadd, 1), (.aload 0, 1), (.getfield 192, 3), (.iload 5, 2), (.iconst (1), 1), (.iadd, 1)]) (pc' := 45) (lo' := [some (.ref 46), some (.int a1), some (.int a2), some (.int a3), some (.int a4), some (.int ((3 : Int32) * a1))]) (st' := [.int (((3 : Int32) * a1) + (1 : Int32)), .ref 48, .int (((3 : Int32) * a1) + (1 : Int32)), .ref 48]) (q' := q5) (P := (True) ∧ ((True) ∧ ((True) ∧ ((True) ∧ ((True) ∧ ((True) ∧ ((True) ∧ ((True) ∧ ((True) ∧ ((True) ∧ (True))))))))))) (by decide +kernel) rfl rfl (And.intro trivial (And.intro trivial (And.intro trivial (And.intro trivial (And.intro trivial (And.intro trivial (And.intro trivial (And.intro trivial (And.intro trivial (And.intro trivial trivial)))))))))) ?_
      refine mm_ok_ck (fun c6 => ?_)
      refine mm_ok_bl (l := [(.iaload, 1), (.iload 2, 1), (.ldc 0, 3)]) (pc' := 50) (lo' := [some (.ref 46), some (.int a1), some (.int a2), some (.int a3), some (.int a4), some (.int ((3 : Int32) * a1))]) (st' := [.int (mm_max (q5.1 48 (((3 : Int32) * a1) + (1 : Int32)).toNatClampNeg) a2), .int (((3 : Int32) * a1) + (1 : Int32)), .ref 48]) (q' := q5) (P := (mm_ix (((3 : Int32) * a1) + (1 : Int32)) 21) ∧ ((True) ∧ ((True) ∧ (True)))) (by decide +kernel) rfl rfl (And.intro (mm_inb_ix c6) (And.intro trivial (And.intro trivial trivial))) ?_
      refine mm_ok_ck (fun c7 => ?_)
      refine mm_ok_bl (l := [(.iastore, 1)]) (pc' := 51) (lo' := [some (.ref 46), some (.int a1), some (.int a2), some (.int a3), some (.int a4), some (.int ((3 : Int32) * a1))]) (st' := []) (q' := (mm_si q5 48 (((3 : Int32) * a1) + (1 : Int32)).toNatClampNeg (mm_max (q5.1 48 (((3 : Int32) * a1) + (1 : Int32)).toNatClampNeg) a2))) (P := (mm_ix (((3 : Int32) * a1) + (1 : Int32)) 21) ∧ (True)) (by decide +kernel) rfl rfl (And.intro (mm_inb_ix c7) trivial) ?_
      refine mm_ok_lt (fun q8 => ?_)
      refine mm_ok_bl (l := [(.aload 0, 1), (.getfield 192, 3), (.iload 5, 2), (.iconst (2), 1), (.iadd, 1), (.dup2, 1)]) (pc' := 60) (lo' := [some (.ref 46), some (.int a1), some (.int a2), some (.int a3), some (.int a4), some (.int ((3 : Int32) * a1))]) (st' := [.int (((3 : Int32) * a1) + (2 : Int32)), .ref 48, .int (((3 : Int32) * a1) + (2 : Int32)), .ref 48]) (q' := q8) (P := (True) ∧ ((True) ∧ ((True) ∧ ((True) ∧ ((True) ∧ ((True) ∧ (True))))))) (by decide +kernel) rfl rfl (And.intro trivial (And.intro trivial (And.intro trivial (And.intro trivial (And.intro trivial (And.intro trivial trivial)))))) ?_
      refine mm_ok_ck (fun c9 => ?_)
      refine mm_ok_bl (l := [(.iaload, 1), (.iconst (1), 1), (.iadd, 1)]) (pc' := 63) (lo' := [some (.ref 46), some (.int a1), some (.int a2), some (.int a3), some (.int a4), some (.int ((3 : Int32) * a1))]) (st' := [.int ((q8.1 48 (((3 : Int32) * a1) + (2 : Int32)).toNatClampNeg) + (1 : Int32)), .int (((3 : Int32) * a1) + (2 : Int32)), .ref 48]) (q' := q8) (P := (mm_ix (((3 : Int32) * a1) + (2 : Int32)) 21) ∧ ((True) ∧ ((True) ∧ (True)))) (by decide +kernel) rfl rfl (And.intro (mm_inb_ix c9) (And.intro trivial (And.intro trivial trivial))) ?_
      refine mm_ok_ck (fun c10 => ?_)
      refine mm_ok_bl (l := [(.iastore, 1)]) (pc' := 64) (lo' := [some (.ref 46), some (.int a1), some (.int a2), some (.int a3), some (.int a4), some (.int ((3 : Int32) * a1))]) (st' := []) (q' := (mm_si q8 48 (((3 : Int32) * a1) + (2 : Int32)).toNatClampNeg ((q8.1 48 (((3 : Int32) * a1) + (2 : Int32)).toNatClampNeg) + (1 : Int32)))) (P := (mm_ix (((3 : Int32) * a1) + (2 : Int32)) 21) ∧ (True)) (by decide +kernel) rfl rfl (And.intro (mm_inb_ix c10) trivial) ?_
      refine mm_ok_lt (fun q11 => ?_)
      refine mm_ok_bl (l := [(.aload 0, 1), (.getfield 192, 3), (.iconst (18), 2), (.dup2, 1), (.iaload, 1), (.iconst (1), 1), (.iadd, 1), (.iastore, 1)]) (pc' := 75) (lo' := [some (.ref 46), some (.int a1), some (.int a2), some (.int a3), some (.int a4), some (.int ((3 : Int32) * a1))]) (st' := []) (q' := (mm_si q11 48 18 ((q11.1 48 18) + (1 : Int32)))) (P := (True) ∧ ((True) ∧ ((True) ∧ ((True) ∧ ((mm_ix (18 : Int32) 21) ∧ ((True) ∧ ((True) ∧ ((mm_ix (18 : Int32) 21) ∧ (True))))))))) (by decide +kernel) rfl rfl (And.intro trivial (And.intro trivial (And.intro trivial (And.intro trivial (And.intro (mm_inb_ix (by decide)) (And.intro trivial (And.intro trivial (And.intro (mm_inb_ix (by decide)) trivial)))))))) ?_
      refine mm_ok_lt (fun q12 => ?_)
      refine mm_ok_bl (l := [(.iload 3, 1)]) (pc' := 76) (lo' := [some (.ref 46), some (.int a1), some (.int a2), some (.int a3), some (.int a4), some (.int ((3 : Int32) * a1))]) (st' := [.int a3]) (q' := q12) (P := (True) ∧ (True)) (by decide +kernel) rfl rfl (And.intro trivial trivial) ?_
      refine mm_ok_ifCond_eq (pt := 90) (d := 14) (by decide +kernel) (by decide) (fun k13 => ?_) (fun k13 => ?_)
      · exact mm_ok_sub (lo := [some (.ref 46), none, none, none, some (.int a4), none]) (And.intro rfl (And.intro rfl trivial)) (x3_note_j90_ok a4 q12)
      · refine mm_ok_bl (l := [(.aload 0, 1), (.getfield 192, 3), (.iconst (19), 2), (.dup2, 1), (.iaload, 1), (.iconst (1), 1), (.iadd, 1), (.iastore, 1)]) (pc' := 90) (lo' := [some (.ref 46), some (.int a1), some (.int a2), some (.int a3), some (.int a4), some (.int ((3 : Int32) * a1))]) (st' := []) (q' := (mm_si q12 48 19 ((q12.1 48 19) + (1 : Int32)))) (P := (True) ∧ ((True) ∧ ((True) ∧ ((True) ∧ ((mm_ix (19 : Int32) 21) ∧ ((True) ∧ ((True) ∧ ((mm_ix (19 : Int32) 21) ∧ (True))))))))) (by decide +kernel) rfl rfl (And.intro trivial (And.intro trivial (And.intro trivial (And.intro trivial (And.intro (mm_inb_ix (by decide)) (And.intro trivial (And.intro trivial (And.intro (mm_inb_ix (by decide)) trivial)))))))) ?_
        refine mm_ok_lt (fun q14 => ?_)
        exact mm_ok_sub (lo := [some (.ref 46), none, none, none, some (.int a4), none]) (And.intro rfl (And.intro rfl trivial)) (x3_note_j90_ok a4 q14)
    · exact mm_ok_vret (by decide +kernel)
def x3_beginAnew_h4 : Nat → Int32 → Int32 → mm_Q → Option (Int32 × mm_Q)
  | 0, _, _, _ => none
  | n + 1, a1, a2, q => (if (6 : Int32) ≤ a2 then (some (a1, q)) else (mm_ck (mm_inb (((3 : Int32) * a2) + (2 : Int32)) 21) (mm_ck (mm_inb (((3 : Int32) * a2) + (2 : Int32)) 21) (mm_lt (mm_si q 48 (((3 : Int32) * a2) + (2 : Int32)).toNatClampNeg (0 : Int32)) (fun q4 => (x3_beginAnew_h4 n (a1 + (q.1 48 (((3 : Int32) * a2) + (2 : Int32)).toNatClampNeg)) (a2 + (1 : Int32)) q4))))))
set_option maxRecDepth 20000 in
theorem x3_beginAnew_h4_ok {L : Nat} : ∀ (n : Nat) (a1 : Int32) (a2 : Int32) (q : mm_Q), mm_ok mm_cvi (mm_Runs 0) 3 false cX3_beginAnew (some .int) L 4 [some (.ref 46), some (.int a1), some (.int a2)] [] q (x3_beginAnew_h4 n a1 a2 q)
  | 0, _, _, _ => by
    exact mm_ok_none
  | n + 1, a1, a2, q => by
    unfold x3_beginAnew_h4
    refine mm_ok_bl (l := [(.iload 2, 1), (.iconst (6), 2)]) (pc' := 7) (lo' := [some (.ref 46), some (.int a1), some (.int a2)]) (st' := [.int (6 : Int32), .int a2]) (q' := q) (P := (True) ∧ ((True) ∧ (True))) (by decide +kernel) rfl rfl (And.intro trivial (And.intro trivial trivial)) ?_
    refine mm_ok_if_icmp_ge (pt := 40) (d := 33) (by decide +kernel) (by decide) (fun k1 => ?_) (fun k1 => ?_)
    · refine mm_ok_bl (l := [(.iload 1, 1)]) (pc' := 41) (lo' := [some (.ref 46), some (.int a1), some (.int a2)]) (st' := [.int a1]) (q' := q) (P := (True) ∧ (True)) (by decide +kernel) rfl rfl (And.intro trivial trivial) ?_
      exact mm_ok_iret (by decide +kernel)
    · refine mm_ok_bl (l := [(.iload 1, 1), (.aload 0, 1), (.getfield 192, 3), (.iconst (3), 1), (.iload 2, 1), (.imul, 1), (.iconst (2), 1), (.iadd, 1)]) (pc' := 20) (lo' := [some (.ref 46), some (.int a1), some (.int a2)]) (st' := [.int (((3 : Int32) * a2) + (2 : Int32)), .ref 48, .int a1]) (q' := q) (P := (True) ∧ ((True) ∧ ((True) ∧ ((True) ∧ ((True) ∧ ((True) ∧ ((True) ∧ ((True) ∧ (True))))))))) (by decide +kernel) rfl rfl (And.intro trivial (And.intro trivial (And.intro trivial (And.intro trivial (And.intro trivial (And.intro trivial (And.intro trivial (And.intro trivial trivial)))))))) ?_
      refine mm_ok_ck (fun c2 => ?_)
      refine mm_ok_bl (l := [(.iaload, 1), (.iadd, 1), (.istore 1, 1), (.aload 0, 1), (.getfield 192, 3), (.iconst (3), 1), (.iload 2, 1), (.imul, 1), (.iconst (2), 1), (.iadd, 1), (.iconst (0), 1)]) (pc' := 33) (lo' := [some (.ref 46), some (.int (a1 + (q.1 48 (((3 : Int32) * a2) + (2 : Int32)).toNatClampNeg))), some (.int a2)]) (st' := [.int (0 : Int32), .int (((3 : Int32) * a2) + (2 : Int32)), .ref 48]) (q' := q) (P := (mm_ix (((3 : Int32) * a2) + (2 : Int32)) 21) ∧ ((True) ∧ ((True) ∧ ((True) ∧ ((True) ∧ ((True) ∧ ((True) ∧ ((True) ∧ ((True) ∧ ((True) ∧ ((True) ∧ (True)))))))))))) (by decide +kernel) rfl rfl (And.intro (mm_inb_ix c2) (And.intro trivial (And.intro trivial (And.intro trivial (And.intro trivial (And.intro trivial (And.intro trivial (And.intro trivial (And.intro trivial (And.intro trivial (And.intro trivial trivial))))))))))) ?_
      refine mm_ok_ck (fun c3 => ?_)
      refine mm_ok_bl (l := [(.iastore, 1)]) (pc' := 34) (lo' := [some (.ref 46), some (.int (a1 + (q.1 48 (((3 : Int32) * a2) + (2 : Int32)).toNatClampNeg))), some (.int a2)]) (st' := []) (q' := (mm_si q 48 (((3 : Int32) * a2) + (2 : Int32)).toNatClampNeg (0 : Int32))) (P := (mm_ix (((3 : Int32) * a2) + (2 : Int32)) 21) ∧ (True)) (by decide +kernel) rfl rfl (And.intro (mm_inb_ix c3) trivial) ?_
      refine mm_ok_lt (fun q4 => ?_)
      refine mm_ok_bl (l := [(.iinc 2 (1), 3)]) (pc' := 37) (lo' := [some (.ref 46), some (.int (a1 + (q.1 48 (((3 : Int32) * a2) + (2 : Int32)).toNatClampNeg))), some (.int (a2 + (1 : Int32)))]) (st' := []) (q' := q4) (P := (True) ∧ (True)) (by decide +kernel) rfl rfl (And.intro trivial trivial) ?_
      refine mm_ok_goto (pt := 4) (d := -33) (by decide +kernel) (by decide) ?_
      exact mm_ok_sub (lo := [some (.ref 46), some (.int (a1 + (q.1 48 (((3 : Int32) * a2) + (2 : Int32)).toNatClampNeg))), some (.int (a2 + (1 : Int32)))]) (And.intro rfl (And.intro rfl (And.intro rfl trivial))) (x3_beginAnew_h4_ok n (a1 + (q.1 48 (((3 : Int32) * a2) + (2 : Int32)).toNatClampNeg)) (a2 + (1 : Int32)) q4)
def x3_beginAnew  (q : mm_Q) : Option (Int32 × mm_Q) := (x3_beginAnew_h4 mm_fu (0 : Int32) (0 : Int32) q)
set_option maxRecDepth 20000 in
theorem x3_beginAnew_ok {L : Nat} {q : mm_Q} {r : Int32} {q1 : mm_Q} (h : x3_beginAnew  q = some (r, q1)) : mm_Runs 1 44 [.ref 46] (mm_wq L q) (mm_cvi r) (mm_wq L q1) := by
  refine mm_runs_of (d := 0) (L := L) rfl (by decide +kernel) rfl rfl (?_ : mm_ok mm_cvi (mm_Runs 0) 3 false cX3_beginAnew (some .int) L 0 [some (.ref 46), none, none] [] q (x3_beginAnew  q)) h
  unfold x3_beginAnew
  refine mm_ok_bl (l := [(.iconst (0), 1), (.istore 1, 1), (.iconst (0), 1), (.istore 2, 1)]) (pc' := 4) (lo' := [some (.ref 46), some (.int (0 : Int32)), some (.int (0 : Int32))]) (st' := []) (q' := q) (P := (True) ∧ ((True) ∧ ((True) ∧ ((True) ∧ (True))))) (by decide +kernel) rfl rfl (And.intro trivial (And.intro trivial (And.intro trivial (And.intro trivial trivial)))) ?_
  exact mm_ok_sub (lo := [some (.ref 46), some (.int (0 : Int32)), some (.int (0 : Int32))]) (And.intro rfl (And.intro rfl (And.intro rfl trivial))) (x3_beginAnew_h4_ok mm_fu (0 : Int32) (0 : Int32) q)
def x3_ofAll (a1 : Int32) (q : mm_Q) : Option (Int32 × mm_Q) := (if a1 < 0 then (some ((0 : Int32), q)) else (if (3 : Int32) ≤ a1 then (some ((0 : Int32), q)) else (mm_ck (mm_inb ((18 : Int32) + a1) 21) (some (q.1 48 ((18 : Int32) + a1).toNatClampNeg, q)))))
set_option maxRecDepth 20000 in
theorem x3_ofAll_ok {L : Nat} {a1 : Int32} {q : mm_Q} {r : Int32} {q1 : mm_Q} (h : x3_ofAll a1 q = some (r, q1)) : mm_Runs 1 46 [.ref 46, .int a1] (mm_wq L q) (mm_cvi r) (mm_wq L q1) := by
  refine mm_runs_of (d := 0) (L := L) rfl (by decide +kernel) rfl rfl (?_ : mm_ok mm_cvi (mm_Runs 0) 3 false cX3_ofAll (some .int) L 0 [some (.ref 46), some (.int a1)] [] q (x3_ofAll a1 q)) h
  unfold x3_ofAll
  refine mm_ok_bl (l := [(.iload 1, 1)]) (pc' := 1) (lo' := [some (.ref 46), some (.int a1)]) (st' := [.int a1]) (q' := q) (P := (True) ∧ (True)) (by decide +kernel) rfl rfl (And.intro trivial trivial) ?_
  refine mm_ok_ifCond_lt (pt := 21) (d := 20) (by decide +kernel) (by decide) (fun k1 => ?_) (fun k1 => ?_)
  · refine mm_ok_bl (l := [(.iconst (0), 1)]) (pc' := 22) (lo' := [some (.ref 46), some (.int a1)]) (st' := [.int (0 : Int32)]) (q' := q) (P := (True) ∧ (True)) (by decide +kernel) rfl rfl (And.intro trivial trivial) ?_
    exact mm_ok_iret (by decide +kernel)
  · refine mm_ok_bl (l := [(.iload 1, 1), (.iconst (3), 1)]) (pc' := 6) (lo' := [some (.ref 46), some (.int a1)]) (st' := [.int (3 : Int32), .int a1]) (q' := q) (P := (True) ∧ ((True) ∧ (True))) (by decide +kernel) rfl rfl (And.intro trivial (And.intro trivial trivial)) ?_
    refine mm_ok_if_icmp_ge (pt := 21) (d := 15) (by decide +kernel) (by decide) (fun k2 => ?_) (fun k2 => ?_)
    · refine mm_ok_bl (l := [(.iconst (0), 1)]) (pc' := 22) (lo' := [some (.ref 46), some (.int a1)]) (st' := [.int (0 : Int32)]) (q' := q) (P := (True) ∧ (True)) (by decide +kernel) rfl rfl (And.intro trivial trivial) ?_
      exact mm_ok_iret (by decide +kernel)
    · refine mm_ok_bl (l := [(.aload 0, 1), (.getfield 192, 3), (.iconst (18), 2), (.iload 1, 1), (.iadd, 1)]) (pc' := 17) (lo' := [some (.ref 46), some (.int a1)]) (st' := [.int ((18 : Int32) + a1), .ref 48]) (q' := q) (P := (True) ∧ ((True) ∧ ((True) ∧ ((True) ∧ ((True) ∧ (True)))))) (by decide +kernel) rfl rfl (And.intro trivial (And.intro trivial (And.intro trivial (And.intro trivial (And.intro trivial trivial))))) ?_
      refine mm_ok_ck (fun c3 => ?_)
      refine mm_ok_bl (l := [(.iaload, 1)]) (pc' := 18) (lo' := [some (.ref 46), some (.int a1)]) (st' := [.int (q.1 48 ((18 : Int32) + a1).toNatClampNeg)]) (q' := q) (P := (mm_ix ((18 : Int32) + a1) 21) ∧ (True)) (by decide +kernel) rfl rfl (And.intro (mm_inb_ix c3) trivial) ?_
      refine mm_ok_goto (pt := 22) (d := 4) (by decide +kernel) (by decide) ?_
      exact mm_ok_iret (by decide +kernel)
def x3_store  (q : mm_Q) : Option (Int32 × mm_Q) := (mm_ck (mm_cp (0 : Int32) (0 : Int32) (21 : Int32) 21 21) (mm_lt (mm_ci q 48 47 0 0 21) (fun q2 => (mm_lt (mm_si q2 46 2 (1 : Int32)) (fun q3 => (some (q3.1 48 18, q3)))))))
set_option maxRecDepth 20000 in
theorem x3_store_ok {L : Nat} {q : mm_Q} {r : Int32} {q1 : mm_Q} (h : x3_store  q = some (r, q1)) : mm_Runs 1 47 [.ref 46] (mm_wq L q) (mm_cvi r) (mm_wq L q1) := by
  refine mm_runs_of (d := 0) (L := L) rfl (by decide +kernel) rfl rfl (?_ : mm_ok mm_cvi (mm_Runs 0) 3 false cX3_store (some .int) L 0 [some (.ref 46)] [] q (x3_store  q)) h
  unfold x3_store
  refine mm_ok_bl (l := [(.aload 0, 1), (.getfield 192, 3), (.iconst (0), 1), (.aload 0, 1), (.getfield 193, 3), (.iconst (0), 1), (.iconst (21), 2)]) (pc' := 12) (lo' := [some (.ref 46)]) (st' := [.int (21 : Int32), .int (0 : Int32), .ref 47, .int (0 : Int32), .ref 48]) (q' := q) (P := (True) ∧ ((True) ∧ ((True) ∧ ((True) ∧ ((True) ∧ ((True) ∧ ((True) ∧ (True)))))))) (by decide +kernel) rfl rfl (And.intro trivial (And.intro trivial (And.intro trivial (And.intro trivial (And.intro trivial (And.intro trivial (And.intro trivial trivial))))))) ?_
  refine mm_ok_ck (fun c1 => ?_)
  refine mm_ok_bl (l := [(.monitorexit, 3)]) (pc' := 15) (lo' := [some (.ref 46)]) (st' := []) (q' := (mm_ci q 48 47 0 0 21)) (P := ((¬ (0 : Int32) < 0 ∧ ¬ (0 : Int32) < 0 ∧ ¬ (21 : Int32) < 0) ∧ (0 : Int32).toNatClampNeg + (21 : Int32).toNatClampNeg ≤ 21 ∧ (0 : Int32).toNatClampNeg + (21 : Int32).toNatClampNeg ≤ 21) ∧ (True)) (by decide +kernel) rfl rfl (And.intro (mm_cp_ok c1) trivial) ?_
  refine mm_ok_lt (fun q2 => ?_)
  refine mm_ok_bl (l := [(.aload 0, 1), (.iconst (1), 1), (.putfield 194, 3)]) (pc' := 20) (lo' := [some (.ref 46)]) (st' := []) (q' := (mm_si q2 46 2 (1 : Int32))) (P := (True) ∧ ((True) ∧ (((1 : Int32) = 0 ∨ (1 : Int32) = 1) ∧ (True)))) (by decide +kernel) rfl rfl (And.intro trivial (And.intro trivial (And.intro (by decide) trivial))) ?_
  refine mm_ok_lt (fun q3 => ?_)
  refine mm_ok_bl (l := [(.aload 0, 1), (.getfield 192, 3), (.iconst (18), 2), (.iaload, 1)]) (pc' := 27) (lo' := [some (.ref 46)]) (st' := [.int (q3.1 48 18)]) (q' := q3) (P := (True) ∧ ((True) ∧ ((True) ∧ ((mm_ix (18 : Int32) 21) ∧ (True))))) (by decide +kernel) rfl rfl (And.intro trivial (And.intro trivial (And.intro trivial (And.intro (mm_inb_ix (by decide)) trivial)))) ?_
  exact mm_ok_iret (by decide +kernel)
def x3_layBack  (q : mm_Q) : Option (Int32 × mm_Q) := (if (q.1 46 2) = 0 then (some ((-5 : Int32), q)) else (mm_ck (mm_cp (0 : Int32) (0 : Int32) (21 : Int32) 21 21) (mm_lt (mm_ci q 47 48 0 0 21) (fun q3 => (some (q3.1 48 18, q3))))))
set_option maxRecDepth 20000 in
theorem x3_layBack_ok {L : Nat} {q : mm_Q} {r : Int32} {q1 : mm_Q} (h : x3_layBack  q = some (r, q1)) : mm_Runs 1 48 [.ref 46] (mm_wq L q) (mm_cvi r) (mm_wq L q1) := by
  refine mm_runs_of (d := 0) (L := L) rfl (by decide +kernel) rfl rfl (?_ : mm_ok mm_cvi (mm_Runs 0) 3 false cX3_layBack (some .int) L 0 [some (.ref 46)] [] q (x3_layBack  q)) h
  unfold x3_layBack
  refine mm_ok_bl (l := [(.aload 0, 1), (.getfield 194, 3)]) (pc' := 4) (lo' := [some (.ref 46)]) (st' := [.int (q.1 46 2)]) (q' := q) (P := (True) ∧ ((True) ∧ (True))) (by decide +kernel) rfl rfl (And.intro trivial (And.intro trivial trivial)) ?_
  refine mm_ok_ifCond_ne (pt := 10) (d := 6) (by decide +kernel) (by decide) (fun k1 => ?_) (fun k1 => ?_)
  · refine mm_ok_bl (l := [(.iconst (-5), 2)]) (pc' := 9) (lo' := [some (.ref 46)]) (st' := [.int (-5 : Int32)]) (q' := q) (P := (True) ∧ (True)) (by decide +kernel) rfl rfl (And.intro trivial trivial) ?_
    exact mm_ok_iret (by decide +kernel)
  · refine mm_ok_bl (l := [(.aload 0, 1), (.getfield 193, 3), (.iconst (0), 1), (.aload 0, 1), (.getfield 192, 3), (.iconst (0), 1), (.iconst (21), 2)]) (pc' := 22) (lo' := [some (.ref 46)]) (st' := [.int (21 : Int32), .int (0 : Int32), .ref 48, .int (0 : Int32), .ref 47]) (q' := q) (P := (True) ∧ ((True) ∧ ((True) ∧ ((True) ∧ ((True) ∧ ((True) ∧ ((True) ∧ (True)))))))) (by decide +kernel) rfl rfl (And.intro trivial (And.intro trivial (And.intro trivial (And.intro trivial (And.intro trivial (And.intro trivial (And.intro trivial trivial))))))) ?_
    refine mm_ok_ck (fun c2 => ?_)
    refine mm_ok_bl (l := [(.monitorexit, 3)]) (pc' := 25) (lo' := [some (.ref 46)]) (st' := []) (q' := (mm_ci q 47 48 0 0 21)) (P := ((¬ (0 : Int32) < 0 ∧ ¬ (0 : Int32) < 0 ∧ ¬ (21 : Int32) < 0) ∧ (0 : Int32).toNatClampNeg + (21 : Int32).toNatClampNeg ≤ 21 ∧ (0 : Int32).toNatClampNeg + (21 : Int32).toNatClampNeg ≤ 21) ∧ (True)) (by decide +kernel) rfl rfl (And.intro (mm_cp_ok c2) trivial) ?_
    refine mm_ok_lt (fun q3 => ?_)
    refine mm_ok_bl (l := [(.aload 0, 1), (.getfield 192, 3), (.iconst (18), 2), (.iaload, 1)]) (pc' := 32) (lo' := [some (.ref 46)]) (st' := [.int (q3.1 48 18)]) (q' := q3) (P := (True) ∧ ((True) ∧ ((True) ∧ ((mm_ix (18 : Int32) 21) ∧ (True))))) (by decide +kernel) rfl rfl (And.intro trivial (And.intro trivial (And.intro trivial (And.intro (mm_inb_ix (by decide)) trivial)))) ?_
    exact mm_ok_iret (by decide +kernel)
def x4_isWithin (a1 : Int32) (b2 : Int64) (q : mm_Q) : Option (Int32 × mm_Q) := (if a1 < 0 then (some ((0 : Int32), q)) else (if (12 : Int32) < a1 then (some ((0 : Int32), q)) else (mm_ck (mm_inb a1 13) (if (lg_cmp b2 ((q.1 2 a1.toNatClampNeg).toInt64)) < 0 then (some ((0 : Int32), q)) else (mm_ck (mm_inb a1 13) (if 0 < (lg_cmp b2 ((q.1 3 a1.toNatClampNeg).toInt64)) then (some ((0 : Int32), q)) else (some ((1 : Int32), q))))))))
set_option maxRecDepth 20000 in
theorem x4_isWithin_ok {L : Nat} {a1 : Int32} {b2 : Int64} {q : mm_Q} {r : Int32} {q1 : mm_Q} (h : x4_isWithin a1 b2 q = some (r, q1)) : mm_Runs 1 50 [.int a1, .long b2] (mm_wq L q) (mm_cvi r) (mm_wq L q1) := by
  refine mm_runs_of (d := 0) (L := L) rfl (by decide +kernel) rfl rfl (?_ : mm_ok mm_cvi (mm_Runs 0) 4 false cX4_isWithin (some .boolean) L 0 [some (.int a1), some (.long b2), none] [] q (x4_isWithin a1 b2 q)) h
  unfold x4_isWithin
  refine mm_ok_bl (l := [(.iload 0, 1)]) (pc' := 1) (lo' := [some (.int a1), some (.long b2), none]) (st' := [.int a1]) (q' := q) (P := (True) ∧ (True)) (by decide +kernel) rfl rfl (And.intro trivial trivial) ?_
  refine mm_ok_ifCond_lt (pt := 36) (d := 35) (by decide +kernel) (by decide) (fun k1 => ?_) (fun k1 => ?_)
  · refine mm_ok_bl (l := [(.iconst (0), 1)]) (pc' := 37) (lo' := [some (.int a1), some (.long b2), none]) (st' := [.int (0 : Int32)]) (q' := q) (P := (True) ∧ (True)) (by decide +kernel) rfl rfl (And.intro trivial trivial) ?_
    exact mm_ok_zret (by decide +kernel) (by decide)
  · refine mm_ok_bl (l := [(.iload 0, 1), (.iconst (12), 2)]) (pc' := 7) (lo' := [some (.int a1), some (.long b2), none]) (st' := [.int (12 : Int32), .int a1]) (q' := q) (P := (True) ∧ ((True) ∧ (True))) (by decide +kernel) rfl rfl (And.intro trivial (And.intro trivial trivial)) ?_
    refine mm_ok_if_icmp_gt (pt := 36) (d := 29) (by decide +kernel) (by decide) (fun k2 => ?_) (fun k2 => ?_)
    · refine mm_ok_bl (l := [(.iconst (0), 1)]) (pc' := 37) (lo' := [some (.int a1), some (.long b2), none]) (st' := [.int (0 : Int32)]) (q' := q) (P := (True) ∧ (True)) (by decide +kernel) rfl rfl (And.intro trivial trivial) ?_
      exact mm_ok_zret (by decide +kernel) (by decide)
    · refine mm_ok_bl (l := [(.lload 1, 1), (.getstatic 2, 3), (.iload 0, 1)]) (pc' := 15) (lo' := [some (.int a1), some (.long b2), none]) (st' := [.int a1, .ref 2, .long b2]) (q' := q) (P := (True) ∧ ((True) ∧ ((True) ∧ (True)))) (by decide +kernel) rfl rfl (And.intro trivial (And.intro trivial (And.intro trivial trivial))) ?_
      refine mm_ok_ck (fun c3 => ?_)
      refine mm_ok_bl (l := [(.iaload, 1), (.i2l, 1), (.lcmp, 1)]) (pc' := 18) (lo' := [some (.int a1), some (.long b2), none]) (st' := [.int (lg_cmp b2 ((q.1 2 a1.toNatClampNeg).toInt64))]) (q' := q) (P := (mm_ix a1 13) ∧ ((True) ∧ ((True) ∧ (True)))) (by decide +kernel) rfl rfl (And.intro (mm_inb_ix c3) (And.intro trivial (And.intro trivial trivial))) ?_
      refine mm_ok_ifCond_lt (pt := 36) (d := 18) (by decide +kernel) (by decide) (fun k4 => ?_) (fun k4 => ?_)
      · refine mm_ok_bl (l := [(.iconst (0), 1)]) (pc' := 37) (lo' := [some (.int a1), some (.long b2), none]) (st' := [.int (0 : Int32)]) (q' := q) (P := (True) ∧ (True)) (by decide +kernel) rfl rfl (And.intro trivial trivial) ?_
        exact mm_ok_zret (by decide +kernel) (by decide)
      · refine mm_ok_bl (l := [(.lload 1, 1), (.getstatic 3, 3), (.iload 0, 1)]) (pc' := 26) (lo' := [some (.int a1), some (.long b2), none]) (st' := [.int a1, .ref 3, .long b2]) (q' := q) (P := (True) ∧ ((True) ∧ ((True) ∧ (True)))) (by decide +kernel) rfl rfl (And.intro trivial (And.intro trivial (And.intro trivial trivial))) ?_
        refine mm_ok_ck (fun c5 => ?_)
        refine mm_ok_bl (l := [(.iaload, 1), (.i2l, 1), (.lcmp, 1)]) (pc' := 29) (lo' := [some (.int a1), some (.long b2), none]) (st' := [.int (lg_cmp b2 ((q.1 3 a1.toNatClampNeg).toInt64))]) (q' := q) (P := (mm_ix a1 13) ∧ ((True) ∧ ((True) ∧ (True)))) (by decide +kernel) rfl rfl (And.intro (mm_inb_ix c5) (And.intro trivial (And.intro trivial trivial))) ?_
        refine mm_ok_ifCond_gt (pt := 36) (d := 7) (by decide +kernel) (by decide) (fun k6 => ?_) (fun k6 => ?_)
        · refine mm_ok_bl (l := [(.iconst (0), 1)]) (pc' := 37) (lo' := [some (.int a1), some (.long b2), none]) (st' := [.int (0 : Int32)]) (q' := q) (P := (True) ∧ (True)) (by decide +kernel) rfl rfl (And.intro trivial trivial) ?_
          exact mm_ok_zret (by decide +kernel) (by decide)
        · refine mm_ok_bl (l := [(.iconst (1), 1)]) (pc' := 33) (lo' := [some (.int a1), some (.long b2), none]) (st' := [.int (1 : Int32)]) (q' := q) (P := (True) ∧ (True)) (by decide +kernel) rfl rfl (And.intro trivial trivial) ?_
          refine mm_ok_goto (pt := 37) (d := 4) (by decide +kernel) (by decide) ?_
          exact mm_ok_zret (by decide +kernel) (by decide)
def x4_isSpitter (a1 : Int32) (q : mm_Q) : Option (Int32 × mm_Q) := (if a1 < 0 then (some ((0 : Int32), q)) else (if (q.1 8 1) ≤ a1 then (some ((0 : Int32), q)) else (some ((1 : Int32), q))))
set_option maxRecDepth 20000 in
theorem x4_isSpitter_ok {L : Nat} {a1 : Int32} {q : mm_Q} {r : Int32} {q1 : mm_Q} (h : x4_isSpitter a1 q = some (r, q1)) : mm_Runs 1 51 [.ref 8, .int a1] (mm_wq L q) (mm_cvi r) (mm_wq L q1) := by
  refine mm_runs_of (d := 0) (L := L) rfl (by decide +kernel) rfl rfl (?_ : mm_ok mm_cvi (mm_Runs 0) 4 false cX4_isSpitter (some .boolean) L 0 [some (.ref 8), some (.int a1)] [] q (x4_isSpitter a1 q)) h
  unfold x4_isSpitter
  refine mm_ok_bl (l := [(.iload 1, 1)]) (pc' := 1) (lo' := [some (.ref 8), some (.int a1)]) (st' := [.int a1]) (q' := q) (P := (True) ∧ (True)) (by decide +kernel) rfl rfl (And.intro trivial trivial) ?_
  refine mm_ok_ifCond_lt (pt := 16) (d := 15) (by decide +kernel) (by decide) (fun k1 => ?_) (fun k1 => ?_)
  · refine mm_ok_bl (l := [(.iconst (0), 1)]) (pc' := 17) (lo' := [some (.ref 8), some (.int a1)]) (st' := [.int (0 : Int32)]) (q' := q) (P := (True) ∧ (True)) (by decide +kernel) rfl rfl (And.intro trivial trivial) ?_
    exact mm_ok_zret (by decide +kernel) (by decide)
  · refine mm_ok_bl (l := [(.iload 1, 1), (.aload 0, 1), (.getfield 257, 3)]) (pc' := 9) (lo' := [some (.ref 8), some (.int a1)]) (st' := [.int (q.1 8 1), .int a1]) (q' := q) (P := (True) ∧ ((True) ∧ ((True) ∧ (True)))) (by decide +kernel) rfl rfl (And.intro trivial (And.intro trivial (And.intro trivial trivial))) ?_
    refine mm_ok_if_icmp_ge (pt := 16) (d := 7) (by decide +kernel) (by decide) (fun k2 => ?_) (fun k2 => ?_)
    · refine mm_ok_bl (l := [(.iconst (0), 1)]) (pc' := 17) (lo' := [some (.ref 8), some (.int a1)]) (st' := [.int (0 : Int32)]) (q' := q) (P := (True) ∧ (True)) (by decide +kernel) rfl rfl (And.intro trivial trivial) ?_
      exact mm_ok_zret (by decide +kernel) (by decide)
    · refine mm_ok_bl (l := [(.iconst (1), 1)]) (pc' := 13) (lo' := [some (.ref 8), some (.int a1)]) (st' := [.int (1 : Int32)]) (q' := q) (P := (True) ∧ (True)) (by decide +kernel) rfl rfl (And.intro trivial trivial) ?_
      refine mm_ok_goto (pt := 17) (d := 4) (by decide +kernel) (by decide) ?_
      exact mm_ok_zret (by decide +kernel) (by decide)
def x4_isFull  (q : mm_Q) : Option (Int32 × mm_Q) := (if (q.1 8 1) < (6 : Int32) then (some ((0 : Int32), q)) else (some ((1 : Int32), q)))
set_option maxRecDepth 20000 in
theorem x4_isFull_ok {L : Nat} {q : mm_Q} {r : Int32} {q1 : mm_Q} (h : x4_isFull  q = some (r, q1)) : mm_Runs 1 53 [.ref 8] (mm_wq L q) (mm_cvi r) (mm_wq L q1) := by
  refine mm_runs_of (d := 0) (L := L) rfl (by decide +kernel) rfl rfl (?_ : mm_ok mm_cvi (mm_Runs 0) 4 false cX4_isFull (some .boolean) L 0 [some (.ref 8)] [] q (x4_isFull  q)) h
  unfold x4_isFull
  refine mm_ok_bl (l := [(.aload 0, 1), (.getfield 257, 3), (.iconst (6), 2)]) (pc' := 6) (lo' := [some (.ref 8)]) (st' := [.int (6 : Int32), .int (q.1 8 1)]) (q' := q) (P := (True) ∧ ((True) ∧ ((True) ∧ (True)))) (by decide +kernel) rfl rfl (And.intro trivial (And.intro trivial (And.intro trivial trivial))) ?_
  refine mm_ok_if_icmp_lt (pt := 13) (d := 7) (by decide +kernel) (by decide) (fun k1 => ?_) (fun k1 => ?_)
  · refine mm_ok_bl (l := [(.iconst (0), 1)]) (pc' := 14) (lo' := [some (.ref 8)]) (st' := [.int (0 : Int32)]) (q' := q) (P := (True) ∧ (True)) (by decide +kernel) rfl rfl (And.intro trivial trivial) ?_
    exact mm_ok_zret (by decide +kernel) (by decide)
  · refine mm_ok_bl (l := [(.iconst (1), 1)]) (pc' := 10) (lo' := [some (.ref 8)]) (st' := [.int (1 : Int32)]) (q' := q) (P := (True) ∧ (True)) (by decide +kernel) rfl rfl (And.intro trivial trivial) ?_
    refine mm_ok_goto (pt := 14) (d := 4) (by decide +kernel) (by decide) ?_
    exact mm_ok_zret (by decide +kernel) (by decide)
def x4_welcome (a1 : Int32) (a2 : Int32) (a3 : Int32) (q : mm_Q) : Option (Int32 × mm_Q) := (mm_lt (mm_si q 8 1 ((q.1 8 1) + (1 : Int32))) (fun q1 => (mm_cl (x4_write ((0 : Int32) + (q.1 8 1)) a1 q1) (fun u2 q3 => (mm_cl (x4_write ((6 : Int32) + (q.1 8 1)) a2 q3) (fun u4 q5 => (mm_cl (x4_write ((12 : Int32) + (q.1 8 1)) a3 q5) (fun u6 q7 => (mm_cl (x4_write ((18 : Int32) + (q.1 8 1)) (q7.1 1 3) q7) (fun u8 q9 => (mm_cl (x4_write ((24 : Int32) + (q.1 8 1)) (q9.1 1 4) q9) (fun u10 q11 => (some (q.1 8 1, q11))))))))))))))
set_option maxRecDepth 20000 in
theorem x4_welcome_ok {L : Nat} {a1 : Int32} {a2 : Int32} {a3 : Int32} {q : mm_Q} {r : Int32} {q1 : mm_Q} (h : x4_welcome a1 a2 a3 q = some (r, q1)) : mm_Runs 2 54 [.ref 8, .int a1, .int a2, .int a3] (mm_wq L q) (mm_cvi r) (mm_wq L q1) := by
  refine mm_runs_of (d := 1) (L := L) rfl (by decide +kernel) rfl rfl (?_ : mm_ok mm_cvi (mm_Runs 1) 4 false cX4_welcome (some .int) L 0 [some (.ref 8), some (.int a1), some (.int a2), some (.int a3), none] [] q (x4_welcome a1 a2 a3 q)) h
  unfold x4_welcome
  refine mm_ok_bl (l := [(.aload 0, 1), (.getfield 257, 3), (.istore 4, 2), (.aload 0, 1), (.dup, 1), (.getfield 257, 3), (.iconst (1), 1), (.iadd, 1), (.putfield 257, 3)]) (pc' := 16) (lo' := [some (.ref 8), some (.int a1), some (.int a2), some (.int a3), some (.int (q.1 8 1))]) (st' := []) (q' := (mm_si q 8 1 ((q.1 8 1) + (1 : Int32)))) (P := (True) ∧ ((True) ∧ ((True) ∧ ((True) ∧ ((True) ∧ ((True) ∧ ((True) ∧ ((True) ∧ ((True) ∧ (True)))))))))) (by decide +kernel) rfl rfl (And.intro trivial (And.intro trivial (And.intro trivial (And.intro trivial (And.intro trivial (And.intro trivial (And.intro trivial (And.intro trivial (And.intro trivial trivial))))))))) ?_
  refine mm_ok_lt (fun q1 => ?_)
  refine mm_ok_bl (l := [(.aload 0, 1), (.iconst (0), 1), (.iload 4, 2), (.iadd, 1), (.iload 1, 1)]) (pc' := 22) (lo' := [some (.ref 8), some (.int a1), some (.int a2), some (.int a3), some (.int (q.1 8 1))]) (st' := [.int a1, .int ((0 : Int32) + (q.1 8 1)), .ref 8]) (q' := q1) (P := (True) ∧ ((True) ∧ ((True) ∧ ((True) ∧ ((True) ∧ (True)))))) (by decide +kernel) rfl rfl (And.intro trivial (And.intro trivial (And.intro trivial (And.intro trivial (And.intro trivial trivial))))) ?_
  refine mm_ok_call (cz := mm_cvu) (j := .invokevirtual 914) (y := 57) (as := [.ref 8, .int ((0 : Int32) + (q.1 8 1)), .int a1]) (t := []) (by decide +kernel) rfl (fun _ _ h => mm_up (k := 1) (by decide) (x4_write_ok h)) (fun u2 q3 => ?_)
  refine mm_ok_bl (l := [(.aload 0, 1), (.iconst (6), 2), (.iload 4, 2), (.iadd, 1), (.iload 2, 1)]) (pc' := 32) (lo' := [some (.ref 8), some (.int a1), some (.int a2), some (.int a3), some (.int (q.1 8 1))]) (st' := [.int a2, .int ((6 : Int32) + (q.1 8 1)), .ref 8]) (q' := q3) (P := (True) ∧ ((True) ∧ ((True) ∧ ((True) ∧ ((True) ∧ (True)))))) (by decide +kernel) rfl rfl (And.intro trivial (And.intro trivial (And.intro trivial (And.intro trivial (And.intro trivial trivial))))) ?_
  refine mm_ok_call (cz := mm_cvu) (j := .invokevirtual 914) (y := 57) (as := [.ref 8, .int ((6 : Int32) + (q.1 8 1)), .int a2]) (t := []) (by decide +kernel) rfl (fun _ _ h => mm_up (k := 1) (by decide) (x4_write_ok h)) (fun u4 q5 => ?_)
  refine mm_ok_bl (l := [(.aload 0, 1), (.iconst (12), 2), (.iload 4, 2), (.iadd, 1), (.iload 3, 1)]) (pc' := 42) (lo' := [some (.ref 8), some (.int a1), some (.int a2), some (.int a3), some (.int (q.1 8 1))]) (st' := [.int a3, .int ((12 : Int32) + (q.1 8 1)), .ref 8]) (q' := q5) (P := (True) ∧ ((True) ∧ ((True) ∧ ((True) ∧ ((True) ∧ (True)))))) (by decide +kernel) rfl rfl (And.intro trivial (And.intro trivial (And.intro trivial (And.intro trivial (And.intro trivial trivial))))) ?_
  refine mm_ok_call (cz := mm_cvu) (j := .invokevirtual 914) (y := 57) (as := [.ref 8, .int ((12 : Int32) + (q.1 8 1)), .int a3]) (t := []) (by decide +kernel) rfl (fun _ _ h => mm_up (k := 1) (by decide) (x4_write_ok h)) (fun u6 q7 => ?_)
  refine mm_ok_bl (l := [(.aload 0, 1), (.iconst (18), 2), (.iload 4, 2), (.iadd, 1), (.getstatic 1, 3), (.iconst (3), 1), (.iaload, 1)]) (pc' := 56) (lo' := [some (.ref 8), some (.int a1), some (.int a2), some (.int a3), some (.int (q.1 8 1))]) (st' := [.int (q7.1 1 3), .int ((18 : Int32) + (q.1 8 1)), .ref 8]) (q' := q7) (P := (True) ∧ ((True) ∧ ((True) ∧ ((True) ∧ ((True) ∧ ((True) ∧ ((mm_ix (3 : Int32) 13) ∧ (True)))))))) (by decide +kernel) rfl rfl (And.intro trivial (And.intro trivial (And.intro trivial (And.intro trivial (And.intro trivial (And.intro trivial (And.intro (mm_inb_ix (by decide)) trivial))))))) ?_
  refine mm_ok_call (cz := mm_cvu) (j := .invokevirtual 914) (y := 57) (as := [.ref 8, .int ((18 : Int32) + (q.1 8 1)), .int (q7.1 1 3)]) (t := []) (by decide +kernel) rfl (fun _ _ h => mm_up (k := 1) (by decide) (x4_write_ok h)) (fun u8 q9 => ?_)
  refine mm_ok_bl (l := [(.aload 0, 1), (.iconst (24), 2), (.iload 4, 2), (.iadd, 1), (.getstatic 1, 3), (.iconst (4), 1), (.iaload, 1)]) (pc' := 70) (lo' := [some (.ref 8), some (.int a1), some (.int a2), some (.int a3), some (.int (q.1 8 1))]) (st' := [.int (q9.1 1 4), .int ((24 : Int32) + (q.1 8 1)), .ref 8]) (q' := q9) (P := (True) ∧ ((True) ∧ ((True) ∧ ((True) ∧ ((True) ∧ ((True) ∧ ((mm_ix (4 : Int32) 13) ∧ (True)))))))) (by decide +kernel) rfl rfl (And.intro trivial (And.intro trivial (And.intro trivial (And.intro trivial (And.intro trivial (And.intro trivial (And.intro (mm_inb_ix (by decide)) trivial))))))) ?_
  refine mm_ok_call (cz := mm_cvu) (j := .invokevirtual 914) (y := 57) (as := [.ref 8, .int ((24 : Int32) + (q.1 8 1)), .int (q9.1 1 4)]) (t := []) (by decide +kernel) rfl (fun _ _ h => mm_up (k := 1) (by decide) (x4_write_ok h)) (fun u10 q11 => ?_)
  refine mm_ok_bl (l := [(.iload 4, 2)]) (pc' := 75) (lo' := [some (.ref 8), some (.int a1), some (.int a2), some (.int a3), some (.int (q.1 8 1))]) (st' := [.int (q.1 8 1)]) (q' := q11) (P := (True) ∧ (True)) (by decide +kernel) rfl rfl (And.intro trivial trivial) ?_
  exact mm_ok_iret (by decide +kernel)
def x4_numberIn (a1 : Int32) (q : mm_Q) : Option (Int32 × mm_Q) := (if a1 < 0 then (some ((0 : Int32), q)) else (if (54 : Int32) ≤ a1 then (some ((0 : Int32), q)) else (mm_ck (mm_inb a1 54) (some (q.1 9 a1.toNatClampNeg, q)))))
set_option maxRecDepth 20000 in
theorem x4_numberIn_ok {L : Nat} {a1 : Int32} {q : mm_Q} {r : Int32} {q1 : mm_Q} (h : x4_numberIn a1 q = some (r, q1)) : mm_Runs 1 56 [.ref 8, .int a1] (mm_wq L q) (mm_cvi r) (mm_wq L q1) := by
  refine mm_runs_of (d := 0) (L := L) rfl (by decide +kernel) rfl rfl (?_ : mm_ok mm_cvi (mm_Runs 0) 4 false cX4_numberIn (some .int) L 0 [some (.ref 8), some (.int a1)] [] q (x4_numberIn a1 q)) h
  unfold x4_numberIn
  refine mm_ok_bl (l := [(.iload 1, 1)]) (pc' := 1) (lo' := [some (.ref 8), some (.int a1)]) (st' := [.int a1]) (q' := q) (P := (True) ∧ (True)) (by decide +kernel) rfl rfl (And.intro trivial trivial) ?_
  refine mm_ok_ifCond_lt (pt := 22) (d := 21) (by decide +kernel) (by decide) (fun k1 => ?_) (fun k1 => ?_)
  · refine mm_ok_bl (l := [(.iconst (0), 1)]) (pc' := 23) (lo' := [some (.ref 8), some (.int a1)]) (st' := [.int (0 : Int32)]) (q' := q) (P := (True) ∧ (True)) (by decide +kernel) rfl rfl (And.intro trivial trivial) ?_
    exact mm_ok_iret (by decide +kernel)
  · refine mm_ok_bl (l := [(.iload 1, 1), (.aload 0, 1), (.getfield 256, 3), (.arraylength, 1)]) (pc' := 10) (lo' := [some (.ref 8), some (.int a1)]) (st' := [.int (54 : Int32), .int a1]) (q' := q) (P := (True) ∧ ((True) ∧ ((True) ∧ ((True) ∧ (True))))) (by decide +kernel) rfl rfl (And.intro trivial (And.intro trivial (And.intro trivial (And.intro trivial trivial)))) ?_
    refine mm_ok_if_icmp_ge (pt := 22) (d := 12) (by decide +kernel) (by decide) (fun k2 => ?_) (fun k2 => ?_)
    · refine mm_ok_bl (l := [(.iconst (0), 1)]) (pc' := 23) (lo' := [some (.ref 8), some (.int a1)]) (st' := [.int (0 : Int32)]) (q' := q) (P := (True) ∧ (True)) (by decide +kernel) rfl rfl (And.intro trivial trivial) ?_
      exact mm_ok_iret (by decide +kernel)
    · refine mm_ok_bl (l := [(.aload 0, 1), (.getfield 256, 3), (.iload 1, 1)]) (pc' := 18) (lo' := [some (.ref 8), some (.int a1)]) (st' := [.int a1, .ref 9]) (q' := q) (P := (True) ∧ ((True) ∧ ((True) ∧ (True)))) (by decide +kernel) rfl rfl (And.intro trivial (And.intro trivial (And.intro trivial trivial))) ?_
      refine mm_ok_ck (fun c3 => ?_)
      refine mm_ok_bl (l := [(.iaload, 1)]) (pc' := 19) (lo' := [some (.ref 8), some (.int a1)]) (st' := [.int (q.1 9 a1.toNatClampNeg)]) (q' := q) (P := (mm_ix a1 54) ∧ (True)) (by decide +kernel) rfl rfl (And.intro (mm_inb_ix c3) trivial) ?_
      refine mm_ok_goto (pt := 23) (d := 4) (by decide +kernel) (by decide) ?_
      exact mm_ok_iret (by decide +kernel)
def x5_nameOf (a1 : Int32) (q : mm_Q) : Option (Int32 × mm_Q) := (if a1 = (97 : Int32) then (some ((0 : Int32), q)) else (if a1 = (101 : Int32) then (some ((4 : Int32), q)) else (if a1 = (112 : Int32) then (some ((1 : Int32), q)) else (if a1 = (116 : Int32) then (some ((5 : Int32), q)) else (if a1 = (119 : Int32) then (some ((3 : Int32), q)) else (if a1 = (122 : Int32) then (some ((2 : Int32), q)) else (some ((-1 : Int32), q))))))))
set_option maxRecDepth 20000 in
theorem x5_nameOf_ok {L : Nat} {a1 : Int32} {q : mm_Q} {r : Int32} {q1 : mm_Q} (h : x5_nameOf a1 q = some (r, q1)) : mm_Runs 1 64 [.int a1] (mm_wq L q) (mm_cvi r) (mm_wq L q1) := by
  refine mm_runs_of (d := 0) (L := L) rfl (by decide +kernel) rfl rfl (?_ : mm_ok mm_cvi (mm_Runs 0) 5 false cX5_nameOf (some .int) L 0 [some (.int a1)] [] q (x5_nameOf a1 q)) h
  unfold x5_nameOf
  refine mm_ok_bl (l := [(.iload 0, 1)]) (pc' := 1) (lo' := [some (.int a1)]) (st' := [.int a1]) (q' := q) (P := (True) ∧ (True)) (by decide +kernel) rfl rfl (And.intro trivial trivial) ?_
  refine mm_ok_if (fun k1 => ?_) (fun k1 => ?_)
  · refine mm_ok_lsw (pt := 60) (ps := [(97, 59), (101, 67), (112, 61), (116, 69), (119, 65), (122, 63)]) (d := 71) (len := 59) (by decide +kernel) (by decide) (by decide) (by rw [k1]; rfl) ?_
    refine mm_ok_bl (l := [(.iconst (0), 1)]) (pc' := 61) (lo' := [some (.int a1)]) (st' := [.int (0 : Int32)]) (q' := q) (P := (True) ∧ (True)) (by decide +kernel) rfl rfl (And.intro trivial trivial) ?_
    exact mm_ok_iret (by decide +kernel)
  · refine mm_ok_if (fun k2 => ?_) (fun k2 => ?_)
    · refine mm_ok_lsw (pt := 68) (ps := [(97, 59), (101, 67), (112, 61), (116, 69), (119, 65), (122, 63)]) (d := 71) (len := 59) (by decide +kernel) (by decide) (by decide) (by rw [k2]; rfl) ?_
      refine mm_ok_bl (l := [(.iconst (4), 1)]) (pc' := 69) (lo' := [some (.int a1)]) (st' := [.int (4 : Int32)]) (q' := q) (P := (True) ∧ (True)) (by decide +kernel) rfl rfl (And.intro trivial trivial) ?_
      exact mm_ok_iret (by decide +kernel)
    · refine mm_ok_if (fun k3 => ?_) (fun k3 => ?_)
      · refine mm_ok_lsw (pt := 62) (ps := [(97, 59), (101, 67), (112, 61), (116, 69), (119, 65), (122, 63)]) (d := 71) (len := 59) (by decide +kernel) (by decide) (by decide) (by rw [k3]; rfl) ?_
        refine mm_ok_bl (l := [(.iconst (1), 1)]) (pc' := 63) (lo' := [some (.int a1)]) (st' := [.int (1 : Int32)]) (q' := q) (P := (True) ∧ (True)) (by decide +kernel) rfl rfl (And.intro trivial trivial) ?_
        exact mm_ok_iret (by decide +kernel)
      · refine mm_ok_if (fun k4 => ?_) (fun k4 => ?_)
        · refine mm_ok_lsw (pt := 70) (ps := [(97, 59), (101, 67), (112, 61), (116, 69), (119, 65), (122, 63)]) (d := 71) (len := 59) (by decide +kernel) (by decide) (by decide) (by rw [k4]; rfl) ?_
          refine mm_ok_bl (l := [(.iconst (5), 1)]) (pc' := 71) (lo' := [some (.int a1)]) (st' := [.int (5 : Int32)]) (q' := q) (P := (True) ∧ (True)) (by decide +kernel) rfl rfl (And.intro trivial trivial) ?_
          exact mm_ok_iret (by decide +kernel)
        · refine mm_ok_if (fun k5 => ?_) (fun k5 => ?_)
          · refine mm_ok_lsw (pt := 66) (ps := [(97, 59), (101, 67), (112, 61), (116, 69), (119, 65), (122, 63)]) (d := 71) (len := 59) (by decide +kernel) (by decide) (by decide) (by rw [k5]; rfl) ?_
            refine mm_ok_bl (l := [(.iconst (3), 1)]) (pc' := 67) (lo' := [some (.int a1)]) (st' := [.int (3 : Int32)]) (q' := q) (P := (True) ∧ (True)) (by decide +kernel) rfl rfl (And.intro trivial trivial) ?_
            exact mm_ok_iret (by decide +kernel)
          · refine mm_ok_if (fun k6 => ?_) (fun k6 => ?_)
            · refine mm_ok_lsw (pt := 64) (ps := [(97, 59), (101, 67), (112, 61), (116, 69), (119, 65), (122, 63)]) (d := 71) (len := 59) (by decide +kernel) (by decide) (by decide) (by rw [k6]; rfl) ?_
              refine mm_ok_bl (l := [(.iconst (2), 1)]) (pc' := 65) (lo' := [some (.int a1)]) (st' := [.int (2 : Int32)]) (q' := q) (P := (True) ∧ (True)) (by decide +kernel) rfl rfl (And.intro trivial trivial) ?_
              exact mm_ok_iret (by decide +kernel)
            · refine mm_ok_lsw (pt := 72) (ps := [(97, 59), (101, 67), (112, 61), (116, 69), (119, 65), (122, 63)]) (d := 71) (len := 59) (by decide +kernel) (by decide) (by decide) (by rw [show mm_swl [(97, 59), (101, 67), (112, 61), (116, 69), (119, 65), (122, 63)] (71) a1 = 71 from ((if_neg k1).trans ((if_neg k2).trans ((if_neg k3).trans ((if_neg k4).trans ((if_neg k5).trans ((if_neg k6).trans rfl))))))]; rfl) ?_
              refine mm_ok_bl (l := [(.iconst (-1), 1)]) (pc' := 73) (lo' := [some (.int a1)]) (st' := [.int (-1 : Int32)]) (q' := q) (P := (True) ∧ (True)) (by decide +kernel) rfl rfl (And.intro trivial trivial) ?_
              exact mm_ok_iret (by decide +kernel)
def x5_become (a2 : Int32) (q : mm_Q) : Option (Unit × mm_Q) := (if a2 < 0 then (some ((), q)) else (if (200 : Int32) < a2 then (some ((), q)) else (if (200 : Int32) < a2 then (some ((), q)) else (mm_ck (mm_cp (0 : Int32) (0 : Int32) a2 200 200) (mm_lt (mm_ci q 30 11 0 0 a2.toNatClampNeg) (fun q5 => (mm_lt (mm_si q5 10 3 a2) (fun q6 => (some ((), q6))))))))))
set_option maxRecDepth 20000 in
theorem x5_become_ok {L : Nat} {a2 : Int32} {q : mm_Q} {r : Unit} {q1 : mm_Q} (h : x5_become a2 q = some (r, q1)) : mm_Runs 1 65 [.ref 10, .ref 30, .int a2] (mm_wq L q) (mm_cvu r) (mm_wq L q1) := by
  refine mm_runs_of (d := 0) (L := L) rfl (by decide +kernel) rfl rfl (?_ : mm_ok mm_cvu (mm_Runs 0) 5 false cX5_become none L 0 [some (.ref 10), some (.ref 30), some (.int a2)] [] q (x5_become a2 q)) h
  unfold x5_become
  refine mm_ok_bl (l := [(.iload 2, 1)]) (pc' := 1) (lo' := [some (.ref 10), some (.ref 30), some (.int a2)]) (st' := [.int a2]) (q' := q) (P := (True) ∧ (True)) (by decide +kernel) rfl rfl (And.intro trivial trivial) ?_
  refine mm_ok_ifCond_lt (pt := 33) (d := 32) (by decide +kernel) (by decide) (fun k1 => ?_) (fun k1 => ?_)
  · exact mm_ok_vret (by decide +kernel)
  · refine mm_ok_bl (l := [(.iload 2, 1), (.iconst (200), 3)]) (pc' := 8) (lo' := [some (.ref 10), some (.ref 30), some (.int a2)]) (st' := [.int (200 : Int32), .int a2]) (q' := q) (P := (True) ∧ ((True) ∧ (True))) (by decide +kernel) rfl rfl (And.intro trivial (And.intro trivial trivial)) ?_
    refine mm_ok_if_icmp_gt (pt := 33) (d := 25) (by decide +kernel) (by decide) (fun k2 => ?_) (fun k2 => ?_)
    · exact mm_ok_vret (by decide +kernel)
    · refine mm_ok_bl (l := [(.iload 2, 1), (.aload 1, 1), (.arraylength, 1)]) (pc' := 14) (lo' := [some (.ref 10), some (.ref 30), some (.int a2)]) (st' := [.int (200 : Int32), .int a2]) (q' := q) (P := (True) ∧ ((True) ∧ ((True) ∧ (True)))) (by decide +kernel) rfl rfl (And.intro trivial (And.intro trivial (And.intro trivial trivial))) ?_
      refine mm_ok_if_icmp_gt (pt := 33) (d := 19) (by decide +kernel) (by decide) (fun k3 => ?_) (fun k3 => ?_)
      · exact mm_ok_vret (by decide +kernel)
      · refine mm_ok_bl (l := [(.aload 1, 1), (.iconst (0), 1), (.aload 0, 1), (.getfield 320, 3), (.iconst (0), 1), (.iload 2, 1)]) (pc' := 25) (lo' := [some (.ref 10), some (.ref 30), some (.int a2)]) (st' := [.int a2, .int (0 : Int32), .ref 11, .int (0 : Int32), .ref 30]) (q' := q) (P := (True) ∧ ((True) ∧ ((True) ∧ ((True) ∧ ((True) ∧ ((True) ∧ (True))))))) (by decide +kernel) rfl rfl (And.intro trivial (And.intro trivial (And.intro trivial (And.intro trivial (And.intro trivial (And.intro trivial trivial)))))) ?_
        refine mm_ok_ck (fun c4 => ?_)
        refine mm_ok_bl (l := [(.monitorexit, 3)]) (pc' := 28) (lo' := [some (.ref 10), some (.ref 30), some (.int a2)]) (st' := []) (q' := (mm_ci q 30 11 0 0 a2.toNatClampNeg)) (P := ((¬ (0 : Int32) < 0 ∧ ¬ (0 : Int32) < 0 ∧ ¬ a2 < 0) ∧ (0 : Int32).toNatClampNeg + a2.toNatClampNeg ≤ 200 ∧ (0 : Int32).toNatClampNeg + a2.toNatClampNeg ≤ 200) ∧ (True)) (by decide +kernel) rfl rfl (And.intro (mm_cp_ok c4) trivial) ?_
        refine mm_ok_lt (fun q5 => ?_)
        refine mm_ok_bl (l := [(.aload 0, 1), (.iload 2, 1), (.putfield 323, 3)]) (pc' := 33) (lo' := [some (.ref 10), some (.ref 30), some (.int a2)]) (st' := []) (q' := (mm_si q5 10 3 a2)) (P := (True) ∧ ((True) ∧ ((True) ∧ (True)))) (by decide +kernel) rfl rfl (And.intro trivial (And.intro trivial (And.intro trivial trivial))) ?_
        refine mm_ok_lt (fun q6 => ?_)
        exact mm_ok_vret (by decide +kernel)
def x6_inSteps (a1 : Int32) (a2 : Int32) (q : mm_Q) : Option (Int32 × mm_Q) := (mm_cl (x4_told a1 (4 : Int32) q) (fun r1 q2 => (if r1 = 0 then (some ((0 : Int32), q2)) else (mm_ck (mm_nz r1) (some (a2 / r1, q2))))))
set_option maxRecDepth 20000 in
theorem x6_inSteps_ok {L : Nat} {a1 : Int32} {a2 : Int32} {q : mm_Q} {r : Int32} {q1 : mm_Q} (h : x6_inSteps a1 a2 q = some (r, q1)) : mm_Runs 3 70 [.ref 44, .int a1, .int a2] (mm_wq L q) (mm_cvi r) (mm_wq L q1) := by
  refine mm_runs_of (d := 2) (L := L) rfl (by decide +kernel) rfl rfl (?_ : mm_ok mm_cvi (mm_Runs 2) 6 false cX6_inSteps (some .int) L 0 [some (.ref 44), some (.int a1), some (.int a2), none] [] q (x6_inSteps a1 a2 q)) h
  unfold x6_inSteps
  refine mm_ok_bl (l := [(.aload 0, 1), (.getfield 384, 3), (.iload 1, 1), (.iconst (4), 1)]) (pc' := 6) (lo' := [some (.ref 44), some (.int a1), some (.int a2), none]) (st' := [.int (4 : Int32), .int a1, .ref 8]) (q' := q) (P := (True) ∧ ((True) ∧ ((True) ∧ ((True) ∧ (True))))) (by decide +kernel) rfl rfl (And.intro trivial (And.intro trivial (And.intro trivial (And.intro trivial trivial)))) ?_
  refine mm_ok_call (cz := mm_cvi) (j := .invokevirtual 930) (y := 58) (as := [.ref 8, .int a1, .int (4 : Int32)]) (t := []) (by decide +kernel) rfl (fun _ _ h => mm_up (k := 2) (by decide) (x4_told_ok h)) (fun r1 q2 => ?_)
  refine mm_ok_bl (l := [(.istore 3, 1), (.iload 3, 1)]) (pc' := 11) (lo' := [some (.ref 44), some (.int a1), some (.int a2), some (.int r1)]) (st' := [.int r1]) (q' := q2) (P := (True) ∧ ((True) ∧ (True))) (by decide +kernel) rfl rfl (And.intro trivial (And.intro trivial trivial)) ?_
  refine mm_ok_ifCond_ne (pt := 18) (d := 7) (by decide +kernel) (by decide) (fun k3 => ?_) (fun k3 => ?_)
  · refine mm_ok_bl (l := [(.iconst (0), 1)]) (pc' := 15) (lo' := [some (.ref 44), some (.int a1), some (.int a2), some (.int r1)]) (st' := [.int (0 : Int32)]) (q' := q2) (P := (True) ∧ (True)) (by decide +kernel) rfl rfl (And.intro trivial trivial) ?_
    refine mm_ok_goto (pt := 21) (d := 6) (by decide +kernel) (by decide) ?_
    exact mm_ok_iret (by decide +kernel)
  · refine mm_ok_bl (l := [(.iload 2, 1), (.iload 3, 1)]) (pc' := 20) (lo' := [some (.ref 44), some (.int a1), some (.int a2), some (.int r1)]) (st' := [.int r1, .int a2]) (q' := q2) (P := (True) ∧ ((True) ∧ (True))) (by decide +kernel) rfl rfl (And.intro trivial (And.intro trivial trivial)) ?_
    refine mm_ok_ck (fun c4 => ?_)
    refine mm_ok_bl (l := [(.idiv, 1)]) (pc' := 21) (lo' := [some (.ref 44), some (.int a1), some (.int a2), some (.int r1)]) (st' := [.int (a2 / r1)]) (q' := q2) (P := (¬ (r1 = 0)) ∧ (True)) (by decide +kernel) rfl rfl (And.intro (mm_nz_ok c4) trivial) ?_
    exact mm_ok_iret (by decide +kernel)
def x6_bitsOfSteppers_j35 (rr5 : Int32 → Int32 → Int32 → Int32 → mm_Q → Option (Int32 × mm_Q)) (a1 : Int32) (a2 : Int32) (a3 : Int32) (a4 : Int32) (q : mm_Q) : Option (Int32 × mm_Q) := (rr5 a1 a2 a3 (a4 + (1 : Int32)) q)
set_option maxRecDepth 20000 in
theorem x6_bitsOfSteppers_j35_ok {L : Nat} (rr5 : Int32 → Int32 → Int32 → Int32 → mm_Q → Option (Int32 × mm_Q)) (hrr5 : ∀ (a1 : Int32) (a2 : Int32) (a3 : Int32) (a4 : Int32) (q : mm_Q), mm_ok mm_cvi (mm_Runs 3) 6 false cX6_bitsOfSteppers (some .int) L 5 [some (.ref 44), some (.int a1), some (.int a2), some (.int a3), some (.int a4)] [] q (rr5 a1 a2 a3 a4 q)) (a1 : Int32) (a2 : Int32) (a3 : Int32) (a4 : Int32) (q : mm_Q) : mm_ok mm_cvi (mm_Runs 3) 6 false cX6_bitsOfSteppers (some .int) L 35 [some (.ref 44), some (.int a1), some (.int a2), some (.int a3), some (.int a4)] [] q (x6_bitsOfSteppers_j35 rr5 a1 a2 a3 a4 q) := by
  unfold x6_bitsOfSteppers_j35
  refine mm_ok_bl (l := [(.iinc 4 (1), 3)]) (pc' := 38) (lo' := [some (.ref 44), some (.int a1), some (.int a2), some (.int a3), some (.int (a4 + (1 : Int32)))]) (st' := []) (q' := q) (P := (True) ∧ (True)) (by decide +kernel) rfl rfl (And.intro trivial trivial) ?_
  refine mm_ok_goto (pt := 5) (d := -33) (by decide +kernel) (by decide) ?_
  exact mm_ok_sub (lo := [some (.ref 44), some (.int a1), some (.int a2), some (.int a3), some (.int (a4 + (1 : Int32)))]) (And.intro rfl (And.intro rfl (And.intro rfl (And.intro rfl (And.intro rfl trivial))))) (hrr5 a1 a2 a3 (a4 + (1 : Int32)) q)
def x6_bitsOfSteppers_h5 : Nat → Int32 → Int32 → Int32 → Int32 → mm_Q → Option (Int32 × mm_Q)
  | 0, _, _, _, _, _ => none
  | n + 1, a1, a2, a3, a4, q => (mm_cl (x4_size q) (fun r1 q2 => (if r1 ≤ a4 then (some (a3, q2)) else (mm_cl (x6_inSteps a4 a1 q2) (fun r4 q5 => (if r4 = a2 then (x6_bitsOfSteppers_j35 (x6_bitsOfSteppers_h5 n) a1 a2 (a3 ||| ((1 : Int32) <<< (a4 &&& 31))) a4 q5) else (x6_bitsOfSteppers_j35 (x6_bitsOfSteppers_h5 n) a1 a2 a3 a4 q5)))))))
set_option maxRecDepth 20000 in
theorem x6_bitsOfSteppers_h5_ok {L : Nat} : ∀ (n : Nat) (a1 : Int32) (a2 : Int32) (a3 : Int32) (a4 : Int32) (q : mm_Q), mm_ok mm_cvi (mm_Runs 3) 6 false cX6_bitsOfSteppers (some .int) L 5 [some (.ref 44), some (.int a1), some (.int a2), some (.int a3), some (.int a4)] [] q (x6_bitsOfSteppers_h5 n a1 a2 a3 a4 q)
  | 0, _, _, _, _, _ => by
    exact mm_ok_none
  | n + 1, a1, a2, a3, a4, q => by
    unfold x6_bitsOfSteppers_h5
    refine mm_ok_bl (l := [(.iload 4, 2), (.aload 0, 1), (.getfield 384, 3)]) (pc' := 11) (lo' := [some (.ref 44), some (.int a1), some (.int a2), some (.int a3), some (.int a4)]) (st' := [.ref 8, .int a4]) (q' := q) (P := (True) ∧ ((True) ∧ ((True) ∧ (True)))) (by decide +kernel) rfl rfl (And.intro trivial (And.intro trivial (And.intro trivial trivial))) ?_
    refine mm_ok_call (cz := mm_cvi) (j := .invokevirtual 832) (y := 52) (as := [.ref 8]) (t := [.int a4]) (by decide +kernel) rfl (fun _ _ h => mm_up (k := 1) (by decide) (x4_size_ok h)) (fun r1 q2 => ?_)
    refine mm_ok_if_icmp_ge (pt := 41) (d := 27) (by decide +kernel) (by decide) (fun k3 => ?_) (fun k3 => ?_)
    · refine mm_ok_bl (l := [(.iload 3, 1)]) (pc' := 42) (lo' := [some (.ref 44), some (.int a1), some (.int a2), some (.int a3), some (.int a4)]) (st' := [.int a3]) (q' := q2) (P := (True) ∧ (True)) (by decide +kernel) rfl rfl (And.intro trivial trivial) ?_
      exact mm_ok_iret (by decide +kernel)
    · refine mm_ok_bl (l := [(.aload 0, 1), (.iload 4, 2), (.iload 1, 1)]) (pc' := 21) (lo' := [some (.ref 44), some (.int a1), some (.int a2), some (.int a3), some (.int a4)]) (st' := [.int a1, .int a4, .ref 44]) (q' := q2) (P := (True) ∧ ((True) ∧ ((True) ∧ (True)))) (by decide +kernel) rfl rfl (And.intro trivial (And.intro trivial (And.intro trivial trivial))) ?_
      refine mm_ok_call (cz := mm_cvi) (j := .invokevirtual 1122) (y := 70) (as := [.ref 44, .int a4, .int a1]) (t := []) (by decide +kernel) rfl (fun _ _ h => mm_up (k := 3) (by decide) (x6_inSteps_ok h)) (fun r4 q5 => ?_)
      refine mm_ok_bl (l := [(.iload 2, 1)]) (pc' := 25) (lo' := [some (.ref 44), some (.int a1), some (.int a2), some (.int a3), some (.int a4)]) (st' := [.int a2, .int r4]) (q' := q5) (P := (True) ∧ (True)) (by decide +kernel) rfl rfl (And.intro trivial trivial) ?_
      refine mm_ok_if_icmp_ne (pt := 35) (d := 10) (by decide +kernel) (by decide) (fun k6 => ?_) (fun k6 => ?_)
      · refine mm_ok_bl (l := [(.iload 3, 1), (.iconst (1), 1), (.iload 4, 2), (.ishl, 1), (.ior, 1), (.istore 3, 1)]) (pc' := 35) (lo' := [some (.ref 44), some (.int a1), some (.int a2), some (.int (a3 ||| ((1 : Int32) <<< (a4 &&& 31)))), some (.int a4)]) (st' := []) (q' := q5) (P := (True) ∧ ((True) ∧ ((True) ∧ ((True) ∧ ((True) ∧ ((True) ∧ (True))))))) (by decide +kernel) rfl rfl (And.intro trivial (And.intro trivial (And.intro trivial (And.intro trivial (And.intro trivial (And.intro trivial trivial)))))) ?_
        exact mm_ok_sub (lo := [some (.ref 44), some (.int a1), some (.int a2), some (.int (a3 ||| ((1 : Int32) <<< (a4 &&& 31)))), some (.int a4)]) (And.intro rfl (And.intro rfl (And.intro rfl (And.intro rfl (And.intro rfl trivial))))) (x6_bitsOfSteppers_j35_ok (x6_bitsOfSteppers_h5 n) (x6_bitsOfSteppers_h5_ok n) a1 a2 (a3 ||| ((1 : Int32) <<< (a4 &&& 31))) a4 q5)
      · exact mm_ok_sub (lo := [some (.ref 44), some (.int a1), some (.int a2), some (.int a3), some (.int a4)]) (And.intro rfl (And.intro rfl (And.intro rfl (And.intro rfl (And.intro rfl trivial))))) (x6_bitsOfSteppers_j35_ok (x6_bitsOfSteppers_h5 n) (x6_bitsOfSteppers_h5_ok n) a1 a2 a3 a4 q5)
def x6_bitsOfSteppers (a1 : Int32) (a2 : Int32) (q : mm_Q) : Option (Int32 × mm_Q) := (x6_bitsOfSteppers_h5 mm_fu a1 a2 (0 : Int32) (0 : Int32) q)
set_option maxRecDepth 20000 in
theorem x6_bitsOfSteppers_ok {L : Nat} {a1 : Int32} {a2 : Int32} {q : mm_Q} {r : Int32} {q1 : mm_Q} (h : x6_bitsOfSteppers a1 a2 q = some (r, q1)) : mm_Runs 4 71 [.ref 44, .int a1, .int a2] (mm_wq L q) (mm_cvi r) (mm_wq L q1) := by
  refine mm_runs_of (d := 3) (L := L) rfl (by decide +kernel) rfl rfl (?_ : mm_ok mm_cvi (mm_Runs 3) 6 false cX6_bitsOfSteppers (some .int) L 0 [some (.ref 44), some (.int a1), some (.int a2), none, none] [] q (x6_bitsOfSteppers a1 a2 q)) h
  unfold x6_bitsOfSteppers
  refine mm_ok_bl (l := [(.iconst (0), 1), (.istore 3, 1), (.iconst (0), 1), (.istore 4, 2)]) (pc' := 5) (lo' := [some (.ref 44), some (.int a1), some (.int a2), some (.int (0 : Int32)), some (.int (0 : Int32))]) (st' := []) (q' := q) (P := (True) ∧ ((True) ∧ ((True) ∧ ((True) ∧ (True))))) (by decide +kernel) rfl rfl (And.intro trivial (And.intro trivial (And.intro trivial (And.intro trivial trivial)))) ?_
  exact mm_ok_sub (lo := [some (.ref 44), some (.int a1), some (.int a2), some (.int (0 : Int32)), some (.int (0 : Int32))]) (And.intro rfl (And.intro rfl (And.intro rfl (And.intro rfl (And.intro rfl trivial))))) (x6_bitsOfSteppers_h5_ok mm_fu a1 a2 (0 : Int32) (0 : Int32) q)
def x6_read_h18 : Nat → Nat → Int32 → mm_Q → Option (Unit × mm_Q)
  | 0, _, _, _ => none
  | n + 1, h1, a2, q => (if (q.1 44 3) ≤ a2 then (some ((), q)) else (mm_cl (x8_elementAt h1 a2 q) (fun r5 q6 => (mm_ck (mm_inb a2 60) (mm_lt (mm_si q6 45 a2.toNatClampNeg r5.toInt32) (fun q8 => (x6_read_h18 n h1 (a2 + (1 : Int32)) q8)))))))
set_option maxRecDepth 20000 in
theorem x6_read_h18_ok {L : Nat} : ∀ (n : Nat) (h1 : Nat) (a2 : Int32) (q : mm_Q), mm_sh h1 → mm_ok mm_cvu (mm_Runs 2) 6 false cX6_read none L 18 [some (.ref 44), some (.ref h1), some (.int a2)] [] q (x6_read_h18 n h1 a2 q)
  | 0, _, _, _ => by
    intro _; exact mm_ok_none
  | n + 1, h1, a2, q => by
    intro hs_h1
    unfold x6_read_h18
    refine mm_ok_bl (l := [(.iload 2, 1), (.aload 0, 1), (.getfield 387, 3)]) (pc' := 23) (lo' := [some (.ref 44), some (.ref h1), some (.int a2)]) (st' := [.int (q.1 44 3), .int a2]) (q' := q) (P := (True) ∧ ((True) ∧ ((True) ∧ (True)))) (by decide +kernel) (by rcases hs_h1 with rfl | rfl | rfl | rfl | rfl | rfl <;> rfl) rfl (And.intro trivial (And.intro trivial (And.intro trivial trivial))) ?_
    refine mm_ok_if_icmp_ge (pt := 44) (d := 21) (by decide +kernel) (by decide) (fun k4 => ?_) (fun k4 => ?_)
    · exact mm_ok_vret (by decide +kernel)
    · refine mm_ok_bl (l := [(.aload 0, 1), (.getfield 386, 3), (.iload 2, 1), (.aload 1, 1), (.iload 2, 1)]) (pc' := 33) (lo' := [some (.ref 44), some (.ref h1), some (.int a2)]) (st' := [.int a2, .ref h1, .int a2, .ref 45]) (q' := q) (P := (True) ∧ ((True) ∧ ((True) ∧ ((True) ∧ ((True) ∧ (True)))))) (by decide +kernel) (by rcases hs_h1 with rfl | rfl | rfl | rfl | rfl | rfl <;> rfl) rfl (And.intro trivial (And.intro trivial (And.intro trivial (And.intro trivial (And.intro trivial trivial))))) ?_
      refine mm_ok_call (cz := mm_cvl) (j := .invokevirtual 1713) (y := 107) (as := [.ref h1, .int a2]) (t := [.int a2, .ref 45]) (by decide +kernel) (by rcases hs_h1 with rfl | rfl | rfl | rfl | rfl | rfl <;> rfl) (fun _ _ h => mm_up (k := 2) (by decide) (x8_elementAt_ok h hs_h1)) (fun r5 q6 => ?_)
      refine mm_ok_bl (l := [(.l2i, 1)]) (pc' := 37) (lo' := [some (.ref 44), some (.ref h1), some (.int a2)]) (st' := [.int r5.toInt32, .int a2, .ref 45]) (q' := q6) (P := (True) ∧ (True)) (by decide +kernel) (by rcases hs_h1 with rfl | rfl | rfl | rfl | rfl | rfl <;> rfl) rfl (And.intro trivial trivial) ?_
      refine mm_ok_ck (fun c7 => ?_)
      refine mm_ok_bl (l := [(.iastore, 1)]) (pc' := 38) (lo' := [some (.ref 44), some (.ref h1), some (.int a2)]) (st' := []) (q' := (mm_si q6 45 a2.toNatClampNeg r5.toInt32)) (P := (mm_ix a2 60) ∧ (True)) (by decide +kernel) (by rcases hs_h1 with rfl | rfl | rfl | rfl | rfl | rfl <;> rfl) rfl (And.intro (mm_inb_ix c7) trivial) ?_
      refine mm_ok_lt (fun q8 => ?_)
      refine mm_ok_bl (l := [(.iinc 2 (1), 3)]) (pc' := 41) (lo' := [some (.ref 44), some (.ref h1), some (.int (a2 + (1 : Int32)))]) (st' := []) (q' := q8) (P := (True) ∧ (True)) (by decide +kernel) (by rcases hs_h1 with rfl | rfl | rfl | rfl | rfl | rfl <;> rfl) rfl (And.intro trivial trivial) ?_
      refine mm_ok_goto (pt := 18) (d := -23) (by decide +kernel) (by decide) ?_
      exact mm_ok_sub (lo := [some (.ref 44), some (.ref h1), some (.int (a2 + (1 : Int32)))]) (And.intro rfl (And.intro rfl (And.intro rfl trivial))) (x6_read_h18_ok n h1 (a2 + (1 : Int32)) q8 hs_h1)
def x6_read (g1 : Nat) (q : mm_Q) : Option (Unit × mm_Q) := (mm_cl (x8_length g1 q) (fun r1 q2 => (mm_lt (mm_si q2 44 3 (mm_mn r1 (60 : Int32))) (fun q3 => (x6_read_h18 mm_fu g1 (0 : Int32) q3)))))
set_option maxRecDepth 20000 in
theorem x6_read_ok {L : Nat} {g1 : Nat} {q : mm_Q} {r : Unit} {q1 : mm_Q} (h : x6_read g1 q = some (r, q1)) (hs_g1 : mm_sh g1) : mm_Runs 3 72 [.ref 44, .ref g1] (mm_wq L q) (mm_cvu r) (mm_wq L q1) := by
  refine mm_runs_of (d := 2) (L := L) rfl (by decide +kernel) rfl rfl (?_ : mm_ok mm_cvu (mm_Runs 2) 6 false cX6_read none L 0 [some (.ref 44), some (.ref g1), none] [] q (x6_read g1 q)) h
  unfold x6_read
  refine mm_ok_bl (l := [(.aload 0, 1), (.aload 1, 1)]) (pc' := 2) (lo' := [some (.ref 44), some (.ref g1), none]) (st' := [.ref g1, .ref 44]) (q' := q) (P := (True) ∧ ((True) ∧ (True))) (by decide +kernel) (by rcases hs_g1 with rfl | rfl | rfl | rfl | rfl | rfl <;> rfl) rfl (And.intro trivial (And.intro trivial trivial)) ?_
  refine mm_ok_call (cz := mm_cvi) (j := .invokevirtual 1616) (y := 101) (as := [.ref g1]) (t := [.ref 44]) (by decide +kernel) (by rcases hs_g1 with rfl | rfl | rfl | rfl | rfl | rfl <;> rfl) (fun _ _ h => mm_up (k := 1) (by decide) (x8_length_ok h hs_g1)) (fun r1 q2 => ?_)
  refine mm_ok_bl (l := [(.aload 0, 1), (.getfield 386, 3), (.arraylength, 1), (.ldc 2, 3), (.putfield 387, 3)]) (pc' := 16) (lo' := [some (.ref 44), some (.ref g1), none]) (st' := []) (q' := (mm_si q2 44 3 (mm_mn r1 (60 : Int32)))) (P := (True) ∧ ((True) ∧ ((True) ∧ ((True) ∧ ((True) ∧ (True)))))) (by decide +kernel) (by rcases hs_g1 with rfl | rfl | rfl | rfl | rfl | rfl <;> rfl) rfl (And.intro trivial (And.intro trivial (And.intro trivial (And.intro trivial (And.intro trivial trivial))))) ?_
  refine mm_ok_lt (fun q3 => ?_)
  refine mm_ok_bl (l := [(.iconst (0), 1), (.istore 2, 1)]) (pc' := 18) (lo' := [some (.ref 44), some (.ref g1), some (.int (0 : Int32))]) (st' := []) (q' := q3) (P := (True) ∧ ((True) ∧ (True))) (by decide +kernel) (by rcases hs_g1 with rfl | rfl | rfl | rfl | rfl | rfl <;> rfl) rfl (And.intro trivial (And.intro trivial trivial)) ?_
  exact mm_ok_sub (lo := [some (.ref 44), some (.ref g1), some (.int (0 : Int32))]) (And.intro rfl (And.intro rfl (And.intro rfl trivial))) (x6_read_h18_ok mm_fu g1 (0 : Int32) q3 hs_g1)
def x6_firstUnlike_h3 : Nat → Int32 → Int32 → Int32 → Int32 → mm_Q → Option (Int32 × mm_Q)
  | 0, _, _, _, _, _ => none
  | n + 1, a1, a2, a3, a4, q => (if (q.1 44 3) ≤ a4 then (some ((-2 : Int32), q)) else (if (60 : Int32) ≤ a4 then (some ((-2 : Int32), q)) else (mm_cl (x10_take a1 (mm_rem a4 (9 : Int32)) (a3 + a4) q) (fun u3 q4 => (mm_cl (x10_landing a2 (0 : Int32) q4) (fun r5 q6 => (mm_cl (x4_stopOf r5 q6) (fun r7 q8 => (mm_ck (mm_inb a4 60) (if r7 = (q8.1 45 a4.toNatClampNeg) then (x6_firstUnlike_h3 n a1 a2 a3 (a4 + (1 : Int32)) q8) else (some (a4, q8))))))))))))
set_option maxRecDepth 20000 in
theorem x6_firstUnlike_h3_ok {L : Nat} : ∀ (n : Nat) (a1 : Int32) (a2 : Int32) (a3 : Int32) (a4 : Int32) (q : mm_Q), mm_ok mm_cvi (mm_Runs 3) 6 false cX6_firstUnlike (some .int) L 3 [some (.ref 44), some (.int a1), some (.int a2), some (.int a3), some (.int a4)] [] q (x6_firstUnlike_h3 n a1 a2 a3 a4 q)
  | 0, _, _, _, _, _ => by
    exact mm_ok_none
  | n + 1, a1, a2, a3, a4, q => by
    unfold x6_firstUnlike_h3
    refine mm_ok_bl (l := [(.iload 4, 2), (.aload 0, 1), (.getfield 387, 3)]) (pc' := 9) (lo' := [some (.ref 44), some (.int a1), some (.int a2), some (.int a3), some (.int a4)]) (st' := [.int (q.1 44 3), .int a4]) (q' := q) (P := (True) ∧ ((True) ∧ ((True) ∧ (True)))) (by decide +kernel) rfl rfl (And.intro trivial (And.intro trivial (And.intro trivial trivial))) ?_
    refine mm_ok_if_icmp_ge (pt := 74) (d := 65) (by decide +kernel) (by decide) (fun k1 => ?_) (fun k1 => ?_)
    · refine mm_ok_bl (l := [(.iconst (-2), 2)]) (pc' := 76) (lo' := [some (.ref 44), some (.int a1), some (.int a2), some (.int a3), some (.int a4)]) (st' := [.int (-2 : Int32)]) (q' := q) (P := (True) ∧ (True)) (by decide +kernel) rfl rfl (And.intro trivial trivial) ?_
      exact mm_ok_iret (by decide +kernel)
    · refine mm_ok_bl (l := [(.iload 4, 2), (.aload 0, 1), (.getfield 386, 3), (.arraylength, 1)]) (pc' := 19) (lo' := [some (.ref 44), some (.int a1), some (.int a2), some (.int a3), some (.int a4)]) (st' := [.int (60 : Int32), .int a4]) (q' := q) (P := (True) ∧ ((True) ∧ ((True) ∧ ((True) ∧ (True))))) (by decide +kernel) rfl rfl (And.intro trivial (And.intro trivial (And.intro trivial (And.intro trivial trivial)))) ?_
      refine mm_ok_if_icmp_ge (pt := 74) (d := 55) (by decide +kernel) (by decide) (fun k2 => ?_) (fun k2 => ?_)
      · refine mm_ok_bl (l := [(.iconst (-2), 2)]) (pc' := 76) (lo' := [some (.ref 44), some (.int a1), some (.int a2), some (.int a3), some (.int a4)]) (st' := [.int (-2 : Int32)]) (q' := q) (P := (True) ∧ (True)) (by decide +kernel) rfl rfl (And.intro trivial trivial) ?_
        exact mm_ok_iret (by decide +kernel)
      · refine mm_ok_bl (l := [(.aload 0, 1), (.getfield 385, 3), (.iload 1, 1), (.iload 4, 2), (.iconst (9), 2), (.irem, 1), (.iload 3, 1), (.iload 4, 2), (.iadd, 1)]) (pc' := 36) (lo' := [some (.ref 44), some (.int a1), some (.int a2), some (.int a3), some (.int a4)]) (st' := [.int (a3 + a4), .int (mm_rem a4 (9 : Int32)), .int a1, .ref 14]) (q' := q) (P := (True) ∧ ((True) ∧ ((True) ∧ ((True) ∧ ((True) ∧ ((¬ ((9 : Int32) = 0)) ∧ ((True) ∧ ((True) ∧ ((True) ∧ (True)))))))))) (by decide +kernel) rfl rfl (And.intro trivial (And.intro trivial (And.intro trivial (And.intro trivial (And.intro trivial (And.intro (by decide) (And.intro trivial (And.intro trivial (And.intro trivial trivial))))))))) ?_
        refine mm_ok_call (cz := mm_cvu) (j := .invokevirtual 2067) (y := 129) (as := [.ref 14, .int a1, .int (mm_rem a4 (9 : Int32)), .int (a3 + a4)]) (t := []) (by decide +kernel) rfl (fun _ _ h => mm_up (k := 3) (by decide) (x10_take_ok h)) (fun u3 q4 => ?_)
        refine mm_ok_bl (l := [(.aload 0, 1), (.getfield 384, 3), (.aload 0, 1), (.getfield 385, 3), (.iload 2, 1), (.iconst (0), 1)]) (pc' := 49) (lo' := [some (.ref 44), some (.int a1), some (.int a2), some (.int a3), some (.int a4)]) (st' := [.int (0 : Int32), .int a2, .ref 14, .ref 8]) (q' := q4) (P := (True) ∧ ((True) ∧ ((True) ∧ ((True) ∧ ((True) ∧ ((True) ∧ (True))))))) (by decide +kernel) rfl rfl (And.intro trivial (And.intro trivial (And.intro trivial (And.intro trivial (And.intro trivial (And.intro trivial trivial)))))) ?_
        refine mm_ok_call (cz := mm_cvi) (j := .invokevirtual 2114) (y := 132) (as := [.ref 14, .int a2, .int (0 : Int32)]) (t := [.ref 8]) (by decide +kernel) rfl (fun _ _ h => mm_up (k := 3) (by decide) (x10_landing_ok h)) (fun r5 q6 => ?_)
        refine mm_ok_call (cz := mm_cvi) (j := .invokevirtual 977) (y := 61) (as := [.ref 8, .int r5]) (t := []) (by decide +kernel) rfl (fun _ _ h => mm_up (k := 2) (by decide) (x4_stopOf_ok h)) (fun r7 q8 => ?_)
        refine mm_ok_bl (l := [(.aload 0, 1), (.getfield 386, 3), (.iload 4, 2)]) (pc' := 61) (lo' := [some (.ref 44), some (.int a1), some (.int a2), some (.int a3), some (.int a4)]) (st' := [.int a4, .ref 45, .int r7]) (q' := q8) (P := (True) ∧ ((True) ∧ ((True) ∧ (True)))) (by decide +kernel) rfl rfl (And.intro trivial (And.intro trivial (And.intro trivial trivial))) ?_
        refine mm_ok_ck (fun c9 => ?_)
        refine mm_ok_bl (l := [(.iaload, 1)]) (pc' := 62) (lo' := [some (.ref 44), some (.int a1), some (.int a2), some (.int a3), some (.int a4)]) (st' := [.int (q8.1 45 a4.toNatClampNeg), .int r7]) (q' := q8) (P := (mm_ix a4 60) ∧ (True)) (by decide +kernel) rfl rfl (And.intro (mm_inb_ix c9) trivial) ?_
        refine mm_ok_if_icmp_eq (pt := 68) (d := 6) (by decide +kernel) (by decide) (fun k10 => ?_) (fun k10 => ?_)
        · refine mm_ok_bl (l := [(.iinc 4 (1), 3)]) (pc' := 71) (lo' := [some (.ref 44), some (.int a1), some (.int a2), some (.int a3), some (.int (a4 + (1 : Int32)))]) (st' := []) (q' := q8) (P := (True) ∧ (True)) (by decide +kernel) rfl rfl (And.intro trivial trivial) ?_
          refine mm_ok_goto (pt := 3) (d := -68) (by decide +kernel) (by decide) ?_
          exact mm_ok_sub (lo := [some (.ref 44), some (.int a1), some (.int a2), some (.int a3), some (.int (a4 + (1 : Int32)))]) (And.intro rfl (And.intro rfl (And.intro rfl (And.intro rfl (And.intro rfl trivial))))) (x6_firstUnlike_h3_ok n a1 a2 a3 (a4 + (1 : Int32)) q8)
        · refine mm_ok_bl (l := [(.iload 4, 2)]) (pc' := 67) (lo' := [some (.ref 44), some (.int a1), some (.int a2), some (.int a3), some (.int a4)]) (st' := [.int a4]) (q' := q8) (P := (True) ∧ (True)) (by decide +kernel) rfl rfl (And.intro trivial trivial) ?_
          exact mm_ok_iret (by decide +kernel)
def x6_firstUnlike (a1 : Int32) (a2 : Int32) (a3 : Int32) (q : mm_Q) : Option (Int32 × mm_Q) := (x6_firstUnlike_h3 mm_fu a1 a2 a3 (0 : Int32) q)
set_option maxRecDepth 20000 in
theorem x6_firstUnlike_ok {L : Nat} {a1 : Int32} {a2 : Int32} {a3 : Int32} {q : mm_Q} {r : Int32} {q1 : mm_Q} (h : x6_firstUnlike a1 a2 a3 q = some (r, q1)) : mm_Runs 4 73 [.ref 44, .int a1, .int a2, .int a3] (mm_wq L q) (mm_cvi r) (mm_wq L q1) := by
  refine mm_runs_of (d := 3) (L := L) rfl (by decide +kernel) rfl rfl (?_ : mm_ok mm_cvi (mm_Runs 3) 6 false cX6_firstUnlike (some .int) L 0 [some (.ref 44), some (.int a1), some (.int a2), some (.int a3), none] [] q (x6_firstUnlike a1 a2 a3 q)) h
  unfold x6_firstUnlike
  refine mm_ok_bl (l := [(.iconst (0), 1), (.istore 4, 2)]) (pc' := 3) (lo' := [some (.ref 44), some (.int a1), some (.int a2), some (.int a3), some (.int (0 : Int32))]) (st' := []) (q' := q) (P := (True) ∧ ((True) ∧ (True))) (by decide +kernel) rfl rfl (And.intro trivial (And.intro trivial trivial)) ?_
  exact mm_ok_sub (lo := [some (.ref 44), some (.int a1), some (.int a2), some (.int a3), some (.int (0 : Int32))]) (And.intro rfl (And.intro rfl (And.intro rfl (And.intro rfl (And.intro rfl trivial))))) (x6_firstUnlike_h3_ok mm_fu a1 a2 a3 (0 : Int32) q)
def x6_howManyMay_j38 (rr4 : Int32 → Int32 → mm_Q → Option (Int32 × mm_Q)) (rr17 : Int32 → Int32 → Int32 → mm_Q → Option (Int32 × mm_Q)) (a1 : Int32) (a2 : Int32) (a3 : Int32) (q : mm_Q) : Option (Int32 × mm_Q) := (rr17 a1 a2 (a3 + (1 : Int32)) q)
set_option maxRecDepth 20000 in
theorem x6_howManyMay_j38_ok {L : Nat} (rr4 : Int32 → Int32 → mm_Q → Option (Int32 × mm_Q)) (hrr4 : ∀ (a1 : Int32) (a2 : Int32) (q : mm_Q), mm_ok mm_cvi (mm_Runs 4) 6 false cX6_howManyMay (some .int) L 4 [some (.ref 44), some (.int a1), some (.int a2), none] [] q (rr4 a1 a2 q)) (rr17 : Int32 → Int32 → Int32 → mm_Q → Option (Int32 × mm_Q)) (hrr17 : ∀ (a1 : Int32) (a2 : Int32) (a3 : Int32) (q : mm_Q), mm_ok mm_cvi (mm_Runs 4) 6 false cX6_howManyMay (some .int) L 17 [some (.ref 44), some (.int a1), some (.int a2), some (.int a3)] [] q (rr17 a1 a2 a3 q)) (a1 : Int32) (a2 : Int32) (a3 : Int32) (q : mm_Q) : mm_ok mm_cvi (mm_Runs 4) 6 false cX6_howManyMay (some .int) L 38 [some (.ref 44), some (.int a1), some (.int a2), some (.int a3)] [] q (x6_howManyMay_j38 rr4 rr17 a1 a2 a3 q) := by
  unfold x6_howManyMay_j38
  refine mm_ok_bl (l := [(.iinc 3 (1), 3)]) (pc' := 41) (lo' := [some (.ref 44), some (.int a1), some (.int a2), some (.int (a3 + (1 : Int32)))]) (st' := []) (q' := q) (P := (True) ∧ (True)) (by decide +kernel) rfl rfl (And.intro trivial trivial) ?_
  refine mm_ok_goto (pt := 17) (d := -24) (by decide +kernel) (by decide) ?_
  exact mm_ok_sub (lo := [some (.ref 44), some (.int a1), some (.int a2), some (.int (a3 + (1 : Int32)))]) (And.intro rfl (And.intro rfl (And.intro rfl (And.intro rfl trivial)))) (hrr17 a1 a2 (a3 + (1 : Int32)) q)
def x6_howManyMay_h17 (rr4 : Int32 → Int32 → mm_Q → Option (Int32 × mm_Q)) : Nat → Int32 → Int32 → Int32 → mm_Q → Option (Int32 × mm_Q)
  | 0, _, _, _, _ => none
  | n + 1, a1, a2, a3, q => (if (9 : Int32) ≤ a3 then (rr4 a1 (a2 + (1 : Int32)) q) else (mm_cl (x6_firstUnlike a2 a3 (0 : Int32) q) (fun r5 q6 => (if r5 = (-2 : Int32) then (x6_howManyMay_j38 rr4 (x6_howManyMay_h17 rr4 n) (a1 + (1 : Int32)) a2 a3 q6) else (x6_howManyMay_j38 rr4 (x6_howManyMay_h17 rr4 n) a1 a2 a3 q6)))))
set_option maxRecDepth 20000 in
theorem x6_howManyMay_h17_ok {L : Nat} (rr4 : Int32 → Int32 → mm_Q → Option (Int32 × mm_Q)) (hrr4 : ∀ (a1 : Int32) (a2 : Int32) (q : mm_Q), mm_ok mm_cvi (mm_Runs 4) 6 false cX6_howManyMay (some .int) L 4 [some (.ref 44), some (.int a1), some (.int a2), none] [] q (rr4 a1 a2 q)) : ∀ (n : Nat) (a1 : Int32) (a2 : Int32) (a3 : Int32) (q : mm_Q), mm_ok mm_cvi (mm_Runs 4) 6 false cX6_howManyMay (some .int) L 17 [some (.ref 44), some (.int a1), some (.int a2), some (.int a3)] [] q (x6_howManyMay_h17 rr4 n a1 a2 a3 q)
  | 0, _, _, _, _ => by
    exact mm_ok_none
  | n + 1, a1, a2, a3, q => by
    unfold x6_howManyMay_h17
    refine mm_ok_bl (l := [(.iload 3, 1), (.iconst (9), 2)]) (pc' := 20) (lo' := [some (.ref 44), some (.int a1), some (.int a2), some (.int a3)]) (st' := [.int (9 : Int32), .int a3]) (q' := q) (P := (True) ∧ ((True) ∧ (True))) (by decide +kernel) rfl rfl (And.intro trivial (And.intro trivial trivial)) ?_
    refine mm_ok_if_icmp_ge (pt := 44) (d := 24) (by decide +kernel) (by decide) (fun k4 => ?_) (fun k4 => ?_)
    · refine mm_ok_bl (l := [(.iinc 2 (1), 3)]) (pc' := 47) (lo' := [some (.ref 44), some (.int a1), some (.int (a2 + (1 : Int32))), some (.int a3)]) (st' := []) (q' := q) (P := (True) ∧ (True)) (by decide +kernel) rfl rfl (And.intro trivial trivial) ?_
      refine mm_ok_goto (pt := 4) (d := -43) (by decide +kernel) (by decide) ?_
      exact mm_ok_sub (lo := [some (.ref 44), some (.int a1), some (.int (a2 + (1 : Int32))), none]) (And.intro rfl (And.intro rfl (And.intro rfl trivial))) (hrr4 a1 (a2 + (1 : Int32)) q)
    · refine mm_ok_bl (l := [(.aload 0, 1), (.iload 2, 1), (.iload 3, 1), (.iconst (0), 1)]) (pc' := 27) (lo' := [some (.ref 44), some (.int a1), some (.int a2), some (.int a3)]) (st' := [.int (0 : Int32), .int a3, .int a2, .ref 44]) (q' := q) (P := (True) ∧ ((True) ∧ ((True) ∧ ((True) ∧ (True))))) (by decide +kernel) rfl rfl (And.intro trivial (And.intro trivial (And.intro trivial (And.intro trivial trivial)))) ?_
      refine mm_ok_call (cz := mm_cvi) (j := .invokevirtual 1171) (y := 73) (as := [.ref 44, .int a2, .int a3, .int (0 : Int32)]) (t := []) (by decide +kernel) rfl (fun _ _ h => mm_up (k := 4) (by decide) (x6_firstUnlike_ok h)) (fun r5 q6 => ?_)
      refine mm_ok_bl (l := [(.iconst (-2), 2)]) (pc' := 32) (lo' := [some (.ref 44), some (.int a1), some (.int a2), some (.int a3)]) (st' := [.int (-2 : Int32), .int r5]) (q' := q6) (P := (True) ∧ (True)) (by decide +kernel) rfl rfl (And.intro trivial trivial) ?_
      refine mm_ok_if_icmp_ne (pt := 38) (d := 6) (by decide +kernel) (by decide) (fun k7 => ?_) (fun k7 => ?_)
      · refine mm_ok_bl (l := [(.iinc 1 (1), 3)]) (pc' := 38) (lo' := [some (.ref 44), some (.int (a1 + (1 : Int32))), some (.int a2), some (.int a3)]) (st' := []) (q' := q6) (P := (True) ∧ (True)) (by decide +kernel) rfl rfl (And.intro trivial trivial) ?_
        exact mm_ok_sub (lo := [some (.ref 44), some (.int (a1 + (1 : Int32))), some (.int a2), some (.int a3)]) (And.intro rfl (And.intro rfl (And.intro rfl (And.intro rfl trivial)))) (x6_howManyMay_j38_ok rr4 hrr4 (x6_howManyMay_h17 rr4 n) (x6_howManyMay_h17_ok rr4 hrr4 n) (a1 + (1 : Int32)) a2 a3 q6)
      · exact mm_ok_sub (lo := [some (.ref 44), some (.int a1), some (.int a2), some (.int a3)]) (And.intro rfl (And.intro rfl (And.intro rfl (And.intro rfl trivial)))) (x6_howManyMay_j38_ok rr4 hrr4 (x6_howManyMay_h17 rr4 n) (x6_howManyMay_h17_ok rr4 hrr4 n) a1 a2 a3 q6)
def x6_howManyMay_h4 : Nat → Int32 → Int32 → mm_Q → Option (Int32 × mm_Q)
  | 0, _, _, _ => none
  | n + 1, a1, a2, q => (mm_cl (x4_size q) (fun r1 q2 => (if r1 ≤ a2 then (some (a1, q2)) else (x6_howManyMay_h17 (x6_howManyMay_h4 n) mm_fu a1 a2 (0 : Int32) q2))))
set_option maxRecDepth 20000 in
theorem x6_howManyMay_h4_ok {L : Nat} : ∀ (n : Nat) (a1 : Int32) (a2 : Int32) (q : mm_Q), mm_ok mm_cvi (mm_Runs 4) 6 false cX6_howManyMay (some .int) L 4 [some (.ref 44), some (.int a1), some (.int a2), none] [] q (x6_howManyMay_h4 n a1 a2 q)
  | 0, _, _, _ => by
    exact mm_ok_none
  | n + 1, a1, a2, q => by
    unfold x6_howManyMay_h4
    refine mm_ok_bl (l := [(.iload 2, 1), (.aload 0, 1), (.getfield 384, 3)]) (pc' := 9) (lo' := [some (.ref 44), some (.int a1), some (.int a2), none]) (st' := [.ref 8, .int a2]) (q' := q) (P := (True) ∧ ((True) ∧ ((True) ∧ (True)))) (by decide +kernel) rfl rfl (And.intro trivial (And.intro trivial (And.intro trivial trivial))) ?_
    refine mm_ok_call (cz := mm_cvi) (j := .invokevirtual 832) (y := 52) (as := [.ref 8]) (t := [.int a2]) (by decide +kernel) rfl (fun _ _ h => mm_up (k := 1) (by decide) (x4_size_ok h)) (fun r1 q2 => ?_)
    refine mm_ok_if_icmp_ge (pt := 50) (d := 38) (by decide +kernel) (by decide) (fun k3 => ?_) (fun k3 => ?_)
    · refine mm_ok_bl (l := [(.iload 1, 1)]) (pc' := 51) (lo' := [some (.ref 44), some (.int a1), some (.int a2), none]) (st' := [.int a1]) (q' := q2) (P := (True) ∧ (True)) (by decide +kernel) rfl rfl (And.intro trivial trivial) ?_
      exact mm_ok_iret (by decide +kernel)
    · refine mm_ok_bl (l := [(.iconst (0), 1), (.istore 3, 1)]) (pc' := 17) (lo' := [some (.ref 44), some (.int a1), some (.int a2), some (.int (0 : Int32))]) (st' := []) (q' := q2) (P := (True) ∧ ((True) ∧ (True))) (by decide +kernel) rfl rfl (And.intro trivial (And.intro trivial trivial)) ?_
      exact mm_ok_sub (lo := [some (.ref 44), some (.int a1), some (.int a2), some (.int (0 : Int32))]) (And.intro rfl (And.intro rfl (And.intro rfl (And.intro rfl trivial)))) (x6_howManyMay_h17_ok (x6_howManyMay_h4 n) (x6_howManyMay_h4_ok n) mm_fu a1 a2 (0 : Int32) q2)
def x6_howManyMay  (q : mm_Q) : Option (Int32 × mm_Q) := (x6_howManyMay_h4 mm_fu (0 : Int32) (0 : Int32) q)
set_option maxRecDepth 20000 in
theorem x6_howManyMay_ok {L : Nat} {q : mm_Q} {r : Int32} {q1 : mm_Q} (h : x6_howManyMay  q = some (r, q1)) : mm_Runs 5 74 [.ref 44] (mm_wq L q) (mm_cvi r) (mm_wq L q1) := by
  refine mm_runs_of (d := 4) (L := L) rfl (by decide +kernel) rfl rfl (?_ : mm_ok mm_cvi (mm_Runs 4) 6 false cX6_howManyMay (some .int) L 0 [some (.ref 44), none, none, none] [] q (x6_howManyMay  q)) h
  unfold x6_howManyMay
  refine mm_ok_bl (l := [(.iconst (0), 1), (.istore 1, 1), (.iconst (0), 1), (.istore 2, 1)]) (pc' := 4) (lo' := [some (.ref 44), some (.int (0 : Int32)), some (.int (0 : Int32)), none]) (st' := []) (q' := q) (P := (True) ∧ ((True) ∧ ((True) ∧ ((True) ∧ (True))))) (by decide +kernel) rfl rfl (And.intro trivial (And.intro trivial (And.intro trivial (And.intro trivial trivial)))) ?_
  exact mm_ok_sub (lo := [some (.ref 44), some (.int (0 : Int32)), some (.int (0 : Int32)), none]) (And.intro rfl (And.intro rfl (And.intro rfl trivial))) (x6_howManyMay_h4_ok mm_fu (0 : Int32) (0 : Int32) q)
def x6_firstWhoMay_h15 (rr2 : Int32 → mm_Q → Option (Int32 × mm_Q)) : Nat → Int32 → Int32 → mm_Q → Option (Int32 × mm_Q)
  | 0, _, _, _ => none
  | n + 1, a1, a2, q => (if (9 : Int32) ≤ a2 then (rr2 (a1 + (1 : Int32)) q) else (mm_cl (x6_firstUnlike a1 a2 (0 : Int32) q) (fun r5 q6 => (if r5 = (-2 : Int32) then (some (((10 : Int32) * a1) + a2, q6)) else (x6_firstWhoMay_h15 rr2 n a1 (a2 + (1 : Int32)) q6)))))
set_option maxRecDepth 20000 in
theorem x6_firstWhoMay_h15_ok {L : Nat} (rr2 : Int32 → mm_Q → Option (Int32 × mm_Q)) (hrr2 : ∀ (a1 : Int32) (q : mm_Q), mm_ok mm_cvi (mm_Runs 4) 6 false cX6_firstWhoMay (some .int) L 2 [some (.ref 44), some (.int a1), none] [] q (rr2 a1 q)) : ∀ (n : Nat) (a1 : Int32) (a2 : Int32) (q : mm_Q), mm_ok mm_cvi (mm_Runs 4) 6 false cX6_firstWhoMay (some .int) L 15 [some (.ref 44), some (.int a1), some (.int a2)] [] q (x6_firstWhoMay_h15 rr2 n a1 a2 q)
  | 0, _, _, _ => by
    exact mm_ok_none
  | n + 1, a1, a2, q => by
    unfold x6_firstWhoMay_h15
    refine mm_ok_bl (l := [(.iload 2, 1), (.iconst (9), 2)]) (pc' := 18) (lo' := [some (.ref 44), some (.int a1), some (.int a2)]) (st' := [.int (9 : Int32), .int a2]) (q' := q) (P := (True) ∧ ((True) ∧ (True))) (by decide +kernel) rfl rfl (And.intro trivial (And.intro trivial trivial)) ?_
    refine mm_ok_if_icmp_ge (pt := 46) (d := 28) (by decide +kernel) (by decide) (fun k4 => ?_) (fun k4 => ?_)
    · refine mm_ok_bl (l := [(.iinc 1 (1), 3)]) (pc' := 49) (lo' := [some (.ref 44), some (.int (a1 + (1 : Int32))), some (.int a2)]) (st' := []) (q' := q) (P := (True) ∧ (True)) (by decide +kernel) rfl rfl (And.intro trivial trivial) ?_
      refine mm_ok_goto (pt := 2) (d := -47) (by decide +kernel) (by decide) ?_
      exact mm_ok_sub (lo := [some (.ref 44), some (.int (a1 + (1 : Int32))), none]) (And.intro rfl (And.intro rfl trivial)) (hrr2 (a1 + (1 : Int32)) q)
    · refine mm_ok_bl (l := [(.aload 0, 1), (.iload 1, 1), (.iload 2, 1), (.iconst (0), 1)]) (pc' := 25) (lo' := [some (.ref 44), some (.int a1), some (.int a2)]) (st' := [.int (0 : Int32), .int a2, .int a1, .ref 44]) (q' := q) (P := (True) ∧ ((True) ∧ ((True) ∧ ((True) ∧ (True))))) (by decide +kernel) rfl rfl (And.intro trivial (And.intro trivial (And.intro trivial (And.intro trivial trivial)))) ?_
      refine mm_ok_call (cz := mm_cvi) (j := .invokevirtual 1171) (y := 73) (as := [.ref 44, .int a1, .int a2, .int (0 : Int32)]) (t := []) (by decide +kernel) rfl (fun _ _ h => mm_up (k := 4) (by decide) (x6_firstUnlike_ok h)) (fun r5 q6 => ?_)
      refine mm_ok_bl (l := [(.iconst (-2), 2)]) (pc' := 30) (lo' := [some (.ref 44), some (.int a1), some (.int a2)]) (st' := [.int (-2 : Int32), .int r5]) (q' := q6) (P := (True) ∧ (True)) (by decide +kernel) rfl rfl (And.intro trivial trivial) ?_
      refine mm_ok_if_icmp_ne (pt := 40) (d := 10) (by decide +kernel) (by decide) (fun k7 => ?_) (fun k7 => ?_)
      · refine mm_ok_bl (l := [(.iconst (10), 2), (.iload 1, 1), (.imul, 1), (.iload 2, 1), (.iadd, 1)]) (pc' := 39) (lo' := [some (.ref 44), some (.int a1), some (.int a2)]) (st' := [.int (((10 : Int32) * a1) + a2)]) (q' := q6) (P := (True) ∧ ((True) ∧ ((True) ∧ ((True) ∧ ((True) ∧ (True)))))) (by decide +kernel) rfl rfl (And.intro trivial (And.intro trivial (And.intro trivial (And.intro trivial (And.intro trivial trivial))))) ?_
        exact mm_ok_iret (by decide +kernel)
      · refine mm_ok_bl (l := [(.iinc 2 (1), 3)]) (pc' := 43) (lo' := [some (.ref 44), some (.int a1), some (.int (a2 + (1 : Int32)))]) (st' := []) (q' := q6) (P := (True) ∧ (True)) (by decide +kernel) rfl rfl (And.intro trivial trivial) ?_
        refine mm_ok_goto (pt := 15) (d := -28) (by decide +kernel) (by decide) ?_
        exact mm_ok_sub (lo := [some (.ref 44), some (.int a1), some (.int (a2 + (1 : Int32)))]) (And.intro rfl (And.intro rfl (And.intro rfl trivial))) (x6_firstWhoMay_h15_ok rr2 hrr2 n a1 (a2 + (1 : Int32)) q6)
def x6_firstWhoMay_h2 : Nat → Int32 → mm_Q → Option (Int32 × mm_Q)
  | 0, _, _ => none
  | n + 1, a1, q => (mm_cl (x4_size q) (fun r1 q2 => (if r1 ≤ a1 then (some ((-2 : Int32), q2)) else (x6_firstWhoMay_h15 (x6_firstWhoMay_h2 n) mm_fu a1 (0 : Int32) q2))))
set_option maxRecDepth 20000 in
theorem x6_firstWhoMay_h2_ok {L : Nat} : ∀ (n : Nat) (a1 : Int32) (q : mm_Q), mm_ok mm_cvi (mm_Runs 4) 6 false cX6_firstWhoMay (some .int) L 2 [some (.ref 44), some (.int a1), none] [] q (x6_firstWhoMay_h2 n a1 q)
  | 0, _, _ => by
    exact mm_ok_none
  | n + 1, a1, q => by
    unfold x6_firstWhoMay_h2
    refine mm_ok_bl (l := [(.iload 1, 1), (.aload 0, 1), (.getfield 384, 3)]) (pc' := 7) (lo' := [some (.ref 44), some (.int a1), none]) (st' := [.ref 8, .int a1]) (q' := q) (P := (True) ∧ ((True) ∧ ((True) ∧ (True)))) (by decide +kernel) rfl rfl (And.intro trivial (And.intro trivial (And.intro trivial trivial))) ?_
    refine mm_ok_call (cz := mm_cvi) (j := .invokevirtual 832) (y := 52) (as := [.ref 8]) (t := [.int a1]) (by decide +kernel) rfl (fun _ _ h => mm_up (k := 1) (by decide) (x4_size_ok h)) (fun r1 q2 => ?_)
    refine mm_ok_if_icmp_ge (pt := 52) (d := 42) (by decide +kernel) (by decide) (fun k3 => ?_) (fun k3 => ?_)
    · refine mm_ok_bl (l := [(.iconst (-2), 2)]) (pc' := 54) (lo' := [some (.ref 44), some (.int a1), none]) (st' := [.int (-2 : Int32)]) (q' := q2) (P := (True) ∧ (True)) (by decide +kernel) rfl rfl (And.intro trivial trivial) ?_
      exact mm_ok_iret (by decide +kernel)
    · refine mm_ok_bl (l := [(.iconst (0), 1), (.istore 2, 1)]) (pc' := 15) (lo' := [some (.ref 44), some (.int a1), some (.int (0 : Int32))]) (st' := []) (q' := q2) (P := (True) ∧ ((True) ∧ (True))) (by decide +kernel) rfl rfl (And.intro trivial (And.intro trivial trivial)) ?_
      exact mm_ok_sub (lo := [some (.ref 44), some (.int a1), some (.int (0 : Int32))]) (And.intro rfl (And.intro rfl (And.intro rfl trivial))) (x6_firstWhoMay_h15_ok (x6_firstWhoMay_h2 n) (x6_firstWhoMay_h2_ok n) mm_fu a1 (0 : Int32) q2)
def x6_firstWhoMay  (q : mm_Q) : Option (Int32 × mm_Q) := (x6_firstWhoMay_h2 mm_fu (0 : Int32) q)
set_option maxRecDepth 20000 in
theorem x6_firstWhoMay_ok {L : Nat} {q : mm_Q} {r : Int32} {q1 : mm_Q} (h : x6_firstWhoMay  q = some (r, q1)) : mm_Runs 5 75 [.ref 44] (mm_wq L q) (mm_cvi r) (mm_wq L q1) := by
  refine mm_runs_of (d := 4) (L := L) rfl (by decide +kernel) rfl rfl (?_ : mm_ok mm_cvi (mm_Runs 4) 6 false cX6_firstWhoMay (some .int) L 0 [some (.ref 44), none, none] [] q (x6_firstWhoMay  q)) h
  unfold x6_firstWhoMay
  refine mm_ok_bl (l := [(.iconst (0), 1), (.istore 1, 1)]) (pc' := 2) (lo' := [some (.ref 44), some (.int (0 : Int32)), none]) (st' := []) (q' := q) (P := (True) ∧ ((True) ∧ (True))) (by decide +kernel) rfl rfl (And.intro trivial (And.intro trivial trivial)) ?_
  exact mm_ok_sub (lo := [some (.ref 44), some (.int (0 : Int32)), none]) (And.intro rfl (And.intro rfl trivial)) (x6_firstWhoMay_h2_ok mm_fu (0 : Int32) q)
def x6_leastAhead_h2 : Nat → Int32 → Int32 → Int32 → mm_Q → Option (Int32 × mm_Q)
  | 0, _, _, _, _ => none
  | n + 1, a1, a2, a3, q => (if (99 : Int32) < a3 then (some ((-2 : Int32), q)) else (mm_cl (x6_firstUnlike a1 a2 a3 q) (fun r2 q3 => (if r2 = (-2 : Int32) then (some (a3, q3)) else (x6_leastAhead_h2 n a1 a2 (a3 + (1 : Int32)) q3)))))
set_option maxRecDepth 20000 in
theorem x6_leastAhead_h2_ok {L : Nat} : ∀ (n : Nat) (a1 : Int32) (a2 : Int32) (a3 : Int32) (q : mm_Q), mm_ok mm_cvi (mm_Runs 4) 6 false cX6_leastAhead (some .int) L 2 [some (.ref 44), some (.int a1), some (.int a2), some (.int a3)] [] q (x6_leastAhead_h2 n a1 a2 a3 q)
  | 0, _, _, _, _ => by
    exact mm_ok_none
  | n + 1, a1, a2, a3, q => by
    unfold x6_leastAhead_h2
    refine mm_ok_bl (l := [(.iload 3, 1), (.iconst (99), 2)]) (pc' := 5) (lo' := [some (.ref 44), some (.int a1), some (.int a2), some (.int a3)]) (st' := [.int (99 : Int32), .int a3]) (q' := q) (P := (True) ∧ ((True) ∧ (True))) (by decide +kernel) rfl rfl (And.intro trivial (And.intro trivial trivial)) ?_
    refine mm_ok_if_icmp_gt (pt := 28) (d := 23) (by decide +kernel) (by decide) (fun k1 => ?_) (fun k1 => ?_)
    · refine mm_ok_bl (l := [(.iconst (-2), 2)]) (pc' := 30) (lo' := [some (.ref 44), some (.int a1), some (.int a2), some (.int a3)]) (st' := [.int (-2 : Int32)]) (q' := q) (P := (True) ∧ (True)) (by decide +kernel) rfl rfl (And.intro trivial trivial) ?_
      exact mm_ok_iret (by decide +kernel)
    · refine mm_ok_bl (l := [(.aload 0, 1), (.iload 1, 1), (.iload 2, 1), (.iload 3, 1)]) (pc' := 12) (lo' := [some (.ref 44), some (.int a1), some (.int a2), some (.int a3)]) (st' := [.int a3, .int a2, .int a1, .ref 44]) (q' := q) (P := (True) ∧ ((True) ∧ ((True) ∧ ((True) ∧ (True))))) (by decide +kernel) rfl rfl (And.intro trivial (And.intro trivial (And.intro trivial (And.intro trivial trivial)))) ?_
      refine mm_ok_call (cz := mm_cvi) (j := .invokevirtual 1171) (y := 73) (as := [.ref 44, .int a1, .int a2, .int a3]) (t := []) (by decide +kernel) rfl (fun _ _ h => mm_up (k := 4) (by decide) (x6_firstUnlike_ok h)) (fun r2 q3 => ?_)
      refine mm_ok_bl (l := [(.iconst (-2), 2)]) (pc' := 17) (lo' := [some (.ref 44), some (.int a1), some (.int a2), some (.int a3)]) (st' := [.int (-2 : Int32), .int r2]) (q' := q3) (P := (True) ∧ (True)) (by decide +kernel) rfl rfl (And.intro trivial trivial) ?_
      refine mm_ok_if_icmp_ne (pt := 22) (d := 5) (by decide +kernel) (by decide) (fun k4 => ?_) (fun k4 => ?_)
      · refine mm_ok_bl (l := [(.iload 3, 1)]) (pc' := 21) (lo' := [some (.ref 44), some (.int a1), some (.int a2), some (.int a3)]) (st' := [.int a3]) (q' := q3) (P := (True) ∧ (True)) (by decide +kernel) rfl rfl (And.intro trivial trivial) ?_
        exact mm_ok_iret (by decide +kernel)
      · refine mm_ok_bl (l := [(.iinc 3 (1), 3)]) (pc' := 25) (lo' := [some (.ref 44), some (.int a1), some (.int a2), some (.int (a3 + (1 : Int32)))]) (st' := []) (q' := q3) (P := (True) ∧ (True)) (by decide +kernel) rfl rfl (And.intro trivial trivial) ?_
        refine mm_ok_goto (pt := 2) (d := -23) (by decide +kernel) (by decide) ?_
        exact mm_ok_sub (lo := [some (.ref 44), some (.int a1), some (.int a2), some (.int (a3 + (1 : Int32)))]) (And.intro rfl (And.intro rfl (And.intro rfl (And.intro rfl trivial)))) (x6_leastAhead_h2_ok n a1 a2 (a3 + (1 : Int32)) q3)
def x6_leastAhead (a1 : Int32) (a2 : Int32) (q : mm_Q) : Option (Int32 × mm_Q) := (x6_leastAhead_h2 mm_fu a1 a2 (0 : Int32) q)
set_option maxRecDepth 20000 in
theorem x6_leastAhead_ok {L : Nat} {a1 : Int32} {a2 : Int32} {q : mm_Q} {r : Int32} {q1 : mm_Q} (h : x6_leastAhead a1 a2 q = some (r, q1)) : mm_Runs 5 76 [.ref 44, .int a1, .int a2] (mm_wq L q) (mm_cvi r) (mm_wq L q1) := by
  refine mm_runs_of (d := 4) (L := L) rfl (by decide +kernel) rfl rfl (?_ : mm_ok mm_cvi (mm_Runs 4) 6 false cX6_leastAhead (some .int) L 0 [some (.ref 44), some (.int a1), some (.int a2), none] [] q (x6_leastAhead a1 a2 q)) h
  unfold x6_leastAhead
  refine mm_ok_bl (l := [(.iconst (0), 1), (.istore 3, 1)]) (pc' := 2) (lo' := [some (.ref 44), some (.int a1), some (.int a2), some (.int (0 : Int32))]) (st' := []) (q' := q) (P := (True) ∧ ((True) ∧ (True))) (by decide +kernel) rfl rfl (And.intro trivial (And.intro trivial trivial)) ?_
  exact mm_ok_sub (lo := [some (.ref 44), some (.int a1), some (.int a2), some (.int (0 : Int32))]) (And.intro rfl (And.intro rfl (And.intro rfl (And.intro rfl trivial)))) (x6_leastAhead_h2_ok mm_fu a1 a2 (0 : Int32) q)
def x7_gatherStones_j50 (rr7 : Int32 → Int32 → mm_Q → Option (Unit × mm_Q)) (a1 : Int32) (a2 : Int32) (q : mm_Q) : Option (Unit × mm_Q) := (rr7 a1 (a2 + (1 : Int32)) q)
set_option maxRecDepth 20000 in
theorem x7_gatherStones_j50_ok {L : Nat} (rr7 : Int32 → Int32 → mm_Q → Option (Unit × mm_Q)) (hrr7 : ∀ (a1 : Int32) (a2 : Int32) (q : mm_Q), mm_ok mm_cvu (mm_Runs 0) 7 false cX7_gatherStones none L 7 [some (.ref 35), some (.int a1), some (.int a2)] [] q (rr7 a1 a2 q)) (a1 : Int32) (a2 : Int32) (q : mm_Q) : mm_ok mm_cvu (mm_Runs 0) 7 false cX7_gatherStones none L 50 [some (.ref 35), some (.int a1), some (.int a2)] [] q (x7_gatherStones_j50 rr7 a1 a2 q) := by
  unfold x7_gatherStones_j50
  refine mm_ok_bl (l := [(.iinc 2 (1), 3)]) (pc' := 53) (lo' := [some (.ref 35), some (.int a1), some (.int (a2 + (1 : Int32)))]) (st' := []) (q' := q) (P := (True) ∧ (True)) (by decide +kernel) rfl rfl (And.intro trivial trivial) ?_
  refine mm_ok_goto (pt := 7) (d := -46) (by decide +kernel) (by decide) ?_
  exact mm_ok_sub (lo := [some (.ref 35), some (.int a1), some (.int (a2 + (1 : Int32)))]) (And.intro rfl (And.intro rfl (And.intro rfl trivial))) (hrr7 a1 (a2 + (1 : Int32)) q)
def x7_gatherStones_h7 : Nat → Int32 → Int32 → mm_Q → Option (Unit × mm_Q)
  | 0, _, _, _ => none
  | n + 1, a1, a2, q => (if (9 : Int32) ≤ a2 then (some ((), q)) else (if (7 : Int32) ≤ (q.1 35 5) then (some ((), q)) else (if ((a1 >>> (a2 &&& 31)) &&& (1 : Int32)) = 0 then (x7_gatherStones_j50 (x7_gatherStones_h7 n) a1 a2 q) else (mm_ck (mm_inb (q.1 35 5) 7) (mm_lt (mm_si q 36 (q.1 35 5).toNatClampNeg a2) (fun q6 => (mm_lt (mm_si q6 35 5 ((q6.1 35 5) + (1 : Int32))) (fun q7 => (x7_gatherStones_j50 (x7_gatherStones_h7 n) a1 a2 q7)))))))))
set_option maxRecDepth 20000 in
theorem x7_gatherStones_h7_ok {L : Nat} : ∀ (n : Nat) (a1 : Int32) (a2 : Int32) (q : mm_Q), mm_ok mm_cvu (mm_Runs 0) 7 false cX7_gatherStones none L 7 [some (.ref 35), some (.int a1), some (.int a2)] [] q (x7_gatherStones_h7 n a1 a2 q)
  | 0, _, _, _ => by
    exact mm_ok_none
  | n + 1, a1, a2, q => by
    unfold x7_gatherStones_h7
    refine mm_ok_bl (l := [(.iload 2, 1), (.iconst (9), 2)]) (pc' := 10) (lo' := [some (.ref 35), some (.int a1), some (.int a2)]) (st' := [.int (9 : Int32), .int a2]) (q' := q) (P := (True) ∧ ((True) ∧ (True))) (by decide +kernel) rfl rfl (And.intro trivial (And.intro trivial trivial)) ?_
    refine mm_ok_if_icmp_ge (pt := 56) (d := 46) (by decide +kernel) (by decide) (fun k2 => ?_) (fun k2 => ?_)
    · exact mm_ok_vret (by decide +kernel)
    · refine mm_ok_bl (l := [(.aload 0, 1), (.getfield 453, 3), (.iconst (7), 2)]) (pc' := 19) (lo' := [some (.ref 35), some (.int a1), some (.int a2)]) (st' := [.int (7 : Int32), .int (q.1 35 5)]) (q' := q) (P := (True) ∧ ((True) ∧ ((True) ∧ (True)))) (by decide +kernel) rfl rfl (And.intro trivial (And.intro trivial (And.intro trivial trivial))) ?_
      refine mm_ok_if_icmp_ge (pt := 56) (d := 37) (by decide +kernel) (by decide) (fun k3 => ?_) (fun k3 => ?_)
      · exact mm_ok_vret (by decide +kernel)
      · refine mm_ok_bl (l := [(.iload 1, 1), (.iload 2, 1), (.ishr, 1), (.iconst (1), 1), (.iand, 1)]) (pc' := 27) (lo' := [some (.ref 35), some (.int a1), some (.int a2)]) (st' := [.int ((a1 >>> (a2 &&& 31)) &&& (1 : Int32))]) (q' := q) (P := (True) ∧ ((True) ∧ ((True) ∧ ((True) ∧ ((True) ∧ (True)))))) (by decide +kernel) rfl rfl (And.intro trivial (And.intro trivial (And.intro trivial (And.intro trivial (And.intro trivial trivial))))) ?_
        refine mm_ok_ifCond_eq (pt := 50) (d := 23) (by decide +kernel) (by decide) (fun k4 => ?_) (fun k4 => ?_)
        · exact mm_ok_sub (lo := [some (.ref 35), some (.int a1), some (.int a2)]) (And.intro rfl (And.intro rfl (And.intro rfl trivial))) (x7_gatherStones_j50_ok (x7_gatherStones_h7 n) (x7_gatherStones_h7_ok n) a1 a2 q)
        · refine mm_ok_bl (l := [(.aload 0, 1), (.getfield 450, 3), (.aload 0, 1), (.getfield 453, 3), (.iload 2, 1)]) (pc' := 39) (lo' := [some (.ref 35), some (.int a1), some (.int a2)]) (st' := [.int a2, .int (q.1 35 5), .ref 36]) (q' := q) (P := (True) ∧ ((True) ∧ ((True) ∧ ((True) ∧ ((True) ∧ (True)))))) (by decide +kernel) rfl rfl (And.intro trivial (And.intro trivial (And.intro trivial (And.intro trivial (And.intro trivial trivial))))) ?_
          refine mm_ok_ck (fun c5 => ?_)
          refine mm_ok_bl (l := [(.iastore, 1)]) (pc' := 40) (lo' := [some (.ref 35), some (.int a1), some (.int a2)]) (st' := []) (q' := (mm_si q 36 (q.1 35 5).toNatClampNeg a2)) (P := (mm_ix (q.1 35 5) 7) ∧ (True)) (by decide +kernel) rfl rfl (And.intro (mm_inb_ix c5) trivial) ?_
          refine mm_ok_lt (fun q6 => ?_)
          refine mm_ok_bl (l := [(.aload 0, 1), (.dup, 1), (.getfield 453, 3), (.iconst (1), 1), (.iadd, 1), (.putfield 453, 3)]) (pc' := 50) (lo' := [some (.ref 35), some (.int a1), some (.int a2)]) (st' := []) (q' := (mm_si q6 35 5 ((q6.1 35 5) + (1 : Int32)))) (P := (True) ∧ ((True) ∧ ((True) ∧ ((True) ∧ ((True) ∧ ((True) ∧ (True))))))) (by decide +kernel) rfl rfl (And.intro trivial (And.intro trivial (And.intro trivial (And.intro trivial (And.intro trivial (And.intro trivial trivial)))))) ?_
          refine mm_ok_lt (fun q7 => ?_)
          exact mm_ok_sub (lo := [some (.ref 35), some (.int a1), some (.int a2)]) (And.intro rfl (And.intro rfl (And.intro rfl trivial))) (x7_gatherStones_j50_ok (x7_gatherStones_h7 n) (x7_gatherStones_h7_ok n) a1 a2 q7)
def x7_gatherStones (a1 : Int32) (q : mm_Q) : Option (Unit × mm_Q) := (mm_lt (mm_si q 35 5 (0 : Int32)) (fun q1 => (x7_gatherStones_h7 mm_fu a1 (0 : Int32) q1)))
set_option maxRecDepth 20000 in
theorem x7_gatherStones_ok {L : Nat} {a1 : Int32} {q : mm_Q} {r : Unit} {q1 : mm_Q} (h : x7_gatherStones a1 q = some (r, q1)) : mm_Runs 1 82 [.ref 35, .int a1] (mm_wq L q) (mm_cvu r) (mm_wq L q1) := by
  refine mm_runs_of (d := 0) (L := L) rfl (by decide +kernel) rfl rfl (?_ : mm_ok mm_cvu (mm_Runs 0) 7 false cX7_gatherStones none L 0 [some (.ref 35), some (.int a1), none] [] q (x7_gatherStones a1 q)) h
  unfold x7_gatherStones
  refine mm_ok_bl (l := [(.aload 0, 1), (.iconst (0), 1), (.putfield 453, 3)]) (pc' := 5) (lo' := [some (.ref 35), some (.int a1), none]) (st' := []) (q' := (mm_si q 35 5 (0 : Int32))) (P := (True) ∧ ((True) ∧ ((True) ∧ (True)))) (by decide +kernel) rfl rfl (And.intro trivial (And.intro trivial (And.intro trivial trivial))) ?_
  refine mm_ok_lt (fun q1 => ?_)
  refine mm_ok_bl (l := [(.iconst (0), 1), (.istore 2, 1)]) (pc' := 7) (lo' := [some (.ref 35), some (.int a1), some (.int (0 : Int32))]) (st' := []) (q' := q1) (P := (True) ∧ ((True) ∧ (True))) (by decide +kernel) rfl rfl (And.intro trivial (And.intro trivial trivial)) ?_
  exact mm_ok_sub (lo := [some (.ref 35), some (.int a1), some (.int (0 : Int32))]) (And.intro rfl (And.intro rfl (And.intro rfl trivial))) (x7_gatherStones_h7_ok mm_fu a1 (0 : Int32) q1)
def x7_weighStones_j79 (rr2 : Int32 → Int32 → Int32 → mm_Q → Option (Unit × mm_Q)) (a1 : Int32) (a2 : Int32) (a3 : Int32) (q : mm_Q) : Option (Unit × mm_Q) := (rr2 a1 a2 (a3 + (1 : Int32)) q)
set_option maxRecDepth 20000 in
theorem x7_weighStones_j79_ok {L : Nat} (rr2 : Int32 → Int32 → Int32 → mm_Q → Option (Unit × mm_Q)) (hrr2 : ∀ (a1 : Int32) (a2 : Int32) (a3 : Int32) (q : mm_Q), mm_ok mm_cvu (mm_Runs 4) 7 false cX7_weighStones none L 2 [some (.ref 35), some (.int a1), some (.int a2), some (.int a3), none] [] q (rr2 a1 a2 a3 q)) (a1 : Int32) (a2 : Int32) (a3 : Int32) (q : mm_Q) : mm_ok mm_cvu (mm_Runs 4) 7 false cX7_weighStones none L 79 [some (.ref 35), some (.int a1), some (.int a2), some (.int a3), none] [] q (x7_weighStones_j79 rr2 a1 a2 a3 q) := by
  unfold x7_weighStones_j79
  refine mm_ok_bl (l := [(.iinc 3 (1), 3)]) (pc' := 82) (lo' := [some (.ref 35), some (.int a1), some (.int a2), some (.int (a3 + (1 : Int32))), none]) (st' := []) (q' := q) (P := (True) ∧ (True)) (by decide +kernel) rfl rfl (And.intro trivial trivial) ?_
  refine mm_ok_goto (pt := 2) (d := -80) (by decide +kernel) (by decide) ?_
  exact mm_ok_sub (lo := [some (.ref 35), some (.int a1), some (.int a2), some (.int (a3 + (1 : Int32))), none]) (And.intro rfl (And.intro rfl (And.intro rfl (And.intro rfl trivial)))) (hrr2 a1 a2 (a3 + (1 : Int32)) q)
def x7_weighStones_h19 (rr2 : Int32 → Int32 → Int32 → mm_Q → Option (Unit × mm_Q)) : Nat → Int32 → Int32 → Int32 → Int32 → mm_Q → Option (Unit × mm_Q)
  | 0, _, _, _, _, _ => none
  | n + 1, a1, a2, a3, a4, q => (if (q.1 35 5) ≤ a4 then (x7_weighStones_j79 rr2 a1 a2 a3 q) else (if (7 : Int32) ≤ a4 then (x7_weighStones_j79 rr2 a1 a2 a3 q) else (mm_ck (mm_inb a3 7) (mm_cl (x10_take a1 (q.1 36 a3.toNatClampNeg) (a2 + a4) q) (fun u6 q7 => (mm_cl (x10_bestPoints (0 : Int32) q7) (fun r8 q9 => (mm_ck (mm_inb ((a3 * (7 : Int32)) + a4) 49) (mm_lt (mm_si q9 37 ((a3 * (7 : Int32)) + a4).toNatClampNeg r8) (fun q11 => (x7_weighStones_h19 rr2 n a1 a2 a3 (a4 + (1 : Int32)) q11)))))))))))
set_option maxRecDepth 20000 in
theorem x7_weighStones_h19_ok {L : Nat} (rr2 : Int32 → Int32 → Int32 → mm_Q → Option (Unit × mm_Q)) (hrr2 : ∀ (a1 : Int32) (a2 : Int32) (a3 : Int32) (q : mm_Q), mm_ok mm_cvu (mm_Runs 4) 7 false cX7_weighStones none L 2 [some (.ref 35), some (.int a1), some (.int a2), some (.int a3), none] [] q (rr2 a1 a2 a3 q)) : ∀ (n : Nat) (a1 : Int32) (a2 : Int32) (a3 : Int32) (a4 : Int32) (q : mm_Q), mm_ok mm_cvu (mm_Runs 4) 7 false cX7_weighStones none L 19 [some (.ref 35), some (.int a1), some (.int a2), some (.int a3), some (.int a4)] [] q (x7_weighStones_h19 rr2 n a1 a2 a3 a4 q)
  | 0, _, _, _, _, _ => by
    exact mm_ok_none
  | n + 1, a1, a2, a3, a4, q => by
    unfold x7_weighStones_h19
    refine mm_ok_bl (l := [(.iload 4, 2), (.aload 0, 1), (.getfield 453, 3)]) (pc' := 25) (lo' := [some (.ref 35), some (.int a1), some (.int a2), some (.int a3), some (.int a4)]) (st' := [.int (q.1 35 5), .int a4]) (q' := q) (P := (True) ∧ ((True) ∧ ((True) ∧ (True)))) (by decide +kernel) rfl rfl (And.intro trivial (And.intro trivial (And.intro trivial trivial))) ?_
    refine mm_ok_if_icmp_ge (pt := 79) (d := 54) (by decide +kernel) (by decide) (fun k3 => ?_) (fun k3 => ?_)
    · exact mm_ok_sub (lo := [some (.ref 35), some (.int a1), some (.int a2), some (.int a3), none]) (And.intro rfl (And.intro rfl (And.intro rfl (And.intro rfl trivial)))) (x7_weighStones_j79_ok rr2 hrr2 a1 a2 a3 q)
    · refine mm_ok_bl (l := [(.iload 4, 2), (.iconst (7), 2)]) (pc' := 32) (lo' := [some (.ref 35), some (.int a1), some (.int a2), some (.int a3), some (.int a4)]) (st' := [.int (7 : Int32), .int a4]) (q' := q) (P := (True) ∧ ((True) ∧ (True))) (by decide +kernel) rfl rfl (And.intro trivial (And.intro trivial trivial)) ?_
      refine mm_ok_if_icmp_ge (pt := 79) (d := 47) (by decide +kernel) (by decide) (fun k4 => ?_) (fun k4 => ?_)
      · exact mm_ok_sub (lo := [some (.ref 35), some (.int a1), some (.int a2), some (.int a3), none]) (And.intro rfl (And.intro rfl (And.intro rfl (And.intro rfl trivial)))) (x7_weighStones_j79_ok rr2 hrr2 a1 a2 a3 q)
      · refine mm_ok_bl (l := [(.aload 0, 1), (.getfield 449, 3), (.iload 1, 1), (.aload 0, 1), (.getfield 450, 3), (.iload 3, 1)]) (pc' := 45) (lo' := [some (.ref 35), some (.int a1), some (.int a2), some (.int a3), some (.int a4)]) (st' := [.int a3, .ref 36, .int a1, .ref 14]) (q' := q) (P := (True) ∧ ((True) ∧ ((True) ∧ ((True) ∧ ((True) ∧ ((True) ∧ (True))))))) (by decide +kernel) rfl rfl (And.intro trivial (And.intro trivial (And.intro trivial (And.intro trivial (And.intro trivial (And.intro trivial trivial)))))) ?_
        refine mm_ok_ck (fun c5 => ?_)
        refine mm_ok_bl (l := [(.iaload, 1), (.iload 2, 1), (.iload 4, 2), (.iadd, 1)]) (pc' := 50) (lo' := [some (.ref 35), some (.int a1), some (.int a2), some (.int a3), some (.int a4)]) (st' := [.int (a2 + a4), .int (q.1 36 a3.toNatClampNeg), .int a1, .ref 14]) (q' := q) (P := (mm_ix a3 7) ∧ ((True) ∧ ((True) ∧ ((True) ∧ (True))))) (by decide +kernel) rfl rfl (And.intro (mm_inb_ix c5) (And.intro trivial (And.intro trivial (And.intro trivial trivial)))) ?_
        refine mm_ok_call (cz := mm_cvu) (j := .invokevirtual 2067) (y := 129) (as := [.ref 14, .int a1, .int (q.1 36 a3.toNatClampNeg), .int (a2 + a4)]) (t := []) (by decide +kernel) rfl (fun _ _ h => mm_up (k := 3) (by decide) (x10_take_ok h)) (fun u6 q7 => ?_)
        refine mm_ok_bl (l := [(.aload 0, 1), (.getfield 451, 3), (.iload 3, 1), (.iconst (7), 2), (.imul, 1), (.iload 4, 2), (.iadd, 1), (.aload 0, 1), (.getfield 449, 3), (.iconst (0), 1)]) (pc' := 69) (lo' := [some (.ref 35), some (.int a1), some (.int a2), some (.int a3), some (.int a4)]) (st' := [.int (0 : Int32), .ref 14, .int ((a3 * (7 : Int32)) + a4), .ref 37]) (q' := q7) (P := (True) ∧ ((True) ∧ ((True) ∧ ((True) ∧ ((True) ∧ ((True) ∧ ((True) ∧ ((True) ∧ ((True) ∧ ((True) ∧ (True))))))))))) (by decide +kernel) rfl rfl (And.intro trivial (And.intro trivial (And.intro trivial (And.intro trivial (And.intro trivial (And.intro trivial (And.intro trivial (And.intro trivial (And.intro trivial (And.intro trivial trivial)))))))))) ?_
        refine mm_ok_call (cz := mm_cvi) (j := .invokevirtual 2177) (y := 136) (as := [.ref 14, .int (0 : Int32)]) (t := [.int ((a3 * (7 : Int32)) + a4), .ref 37]) (by decide +kernel) rfl (fun _ _ h => mm_up (k := 4) (by decide) (x10_bestPoints_ok h)) (fun r8 q9 => ?_)
        refine mm_ok_ck (fun c10 => ?_)
        refine mm_ok_bl (l := [(.iastore, 1)]) (pc' := 73) (lo' := [some (.ref 35), some (.int a1), some (.int a2), some (.int a3), some (.int a4)]) (st' := []) (q' := (mm_si q9 37 ((a3 * (7 : Int32)) + a4).toNatClampNeg r8)) (P := (mm_ix ((a3 * (7 : Int32)) + a4) 49) ∧ (True)) (by decide +kernel) rfl rfl (And.intro (mm_inb_ix c10) trivial) ?_
        refine mm_ok_lt (fun q11 => ?_)
        refine mm_ok_bl (l := [(.iinc 4 (1), 3)]) (pc' := 76) (lo' := [some (.ref 35), some (.int a1), some (.int a2), some (.int a3), some (.int (a4 + (1 : Int32)))]) (st' := []) (q' := q11) (P := (True) ∧ (True)) (by decide +kernel) rfl rfl (And.intro trivial trivial) ?_
        refine mm_ok_goto (pt := 19) (d := -57) (by decide +kernel) (by decide) ?_
        exact mm_ok_sub (lo := [some (.ref 35), some (.int a1), some (.int a2), some (.int a3), some (.int (a4 + (1 : Int32)))]) (And.intro rfl (And.intro rfl (And.intro rfl (And.intro rfl (And.intro rfl trivial))))) (x7_weighStones_h19_ok rr2 hrr2 n a1 a2 a3 (a4 + (1 : Int32)) q11)
def x7_weighStones_h2 : Nat → Int32 → Int32 → Int32 → mm_Q → Option (Unit × mm_Q)
  | 0, _, _, _, _ => none
  | n + 1, a1, a2, a3, q => (if (q.1 35 5) ≤ a3 then (some ((), q)) else (if (7 : Int32) ≤ a3 then (some ((), q)) else (x7_weighStones_h19 (x7_weighStones_h2 n) mm_fu a1 a2 a3 (0 : Int32) q)))
set_option maxRecDepth 20000 in
theorem x7_weighStones_h2_ok {L : Nat} : ∀ (n : Nat) (a1 : Int32) (a2 : Int32) (a3 : Int32) (q : mm_Q), mm_ok mm_cvu (mm_Runs 4) 7 false cX7_weighStones none L 2 [some (.ref 35), some (.int a1), some (.int a2), some (.int a3), none] [] q (x7_weighStones_h2 n a1 a2 a3 q)
  | 0, _, _, _, _ => by
    exact mm_ok_none
  | n + 1, a1, a2, a3, q => by
    unfold x7_weighStones_h2
    refine mm_ok_bl (l := [(.iload 3, 1), (.aload 0, 1), (.getfield 453, 3)]) (pc' := 7) (lo' := [some (.ref 35), some (.int a1), some (.int a2), some (.int a3), none]) (st' := [.int (q.1 35 5), .int a3]) (q' := q) (P := (True) ∧ ((True) ∧ ((True) ∧ (True)))) (by decide +kernel) rfl rfl (And.intro trivial (And.intro trivial (And.intro trivial trivial))) ?_
    refine mm_ok_if_icmp_ge (pt := 85) (d := 78) (by decide +kernel) (by decide) (fun k1 => ?_) (fun k1 => ?_)
    · exact mm_ok_vret (by decide +kernel)
    · refine mm_ok_bl (l := [(.iload 3, 1), (.iconst (7), 2)]) (pc' := 13) (lo' := [some (.ref 35), some (.int a1), some (.int a2), some (.int a3), none]) (st' := [.int (7 : Int32), .int a3]) (q' := q) (P := (True) ∧ ((True) ∧ (True))) (by decide +kernel) rfl rfl (And.intro trivial (And.intro trivial trivial)) ?_
      refine mm_ok_if_icmp_ge (pt := 85) (d := 72) (by decide +kernel) (by decide) (fun k2 => ?_) (fun k2 => ?_)
      · exact mm_ok_vret (by decide +kernel)
      · refine mm_ok_bl (l := [(.iconst (0), 1), (.istore 4, 2)]) (pc' := 19) (lo' := [some (.ref 35), some (.int a1), some (.int a2), some (.int a3), some (.int (0 : Int32))]) (st' := []) (q' := q) (P := (True) ∧ ((True) ∧ (True))) (by decide +kernel) rfl rfl (And.intro trivial (And.intro trivial trivial)) ?_
        exact mm_ok_sub (lo := [some (.ref 35), some (.int a1), some (.int a2), some (.int a3), some (.int (0 : Int32))]) (And.intro rfl (And.intro rfl (And.intro rfl (And.intro rfl (And.intro rfl trivial))))) (x7_weighStones_h19_ok (x7_weighStones_h2 n) (x7_weighStones_h2_ok n) mm_fu a1 a2 a3 (0 : Int32) q)
def x7_weighStones (a1 : Int32) (a2 : Int32) (q : mm_Q) : Option (Unit × mm_Q) := (x7_weighStones_h2 mm_fu a1 a2 (0 : Int32) q)
set_option maxRecDepth 20000 in
theorem x7_weighStones_ok {L : Nat} {a1 : Int32} {a2 : Int32} {q : mm_Q} {r : Unit} {q1 : mm_Q} (h : x7_weighStones a1 a2 q = some (r, q1)) : mm_Runs 5 83 [.ref 35, .int a1, .int a2] (mm_wq L q) (mm_cvu r) (mm_wq L q1) := by
  refine mm_runs_of (d := 4) (L := L) rfl (by decide +kernel) rfl rfl (?_ : mm_ok mm_cvu (mm_Runs 4) 7 false cX7_weighStones none L 0 [some (.ref 35), some (.int a1), some (.int a2), none, none] [] q (x7_weighStones a1 a2 q)) h
  unfold x7_weighStones
  refine mm_ok_bl (l := [(.iconst (0), 1), (.istore 3, 1)]) (pc' := 2) (lo' := [some (.ref 35), some (.int a1), some (.int a2), some (.int (0 : Int32)), none]) (st' := []) (q' := q) (P := (True) ∧ ((True) ∧ (True))) (by decide +kernel) rfl rfl (And.intro trivial (And.intro trivial trivial)) ?_
  exact mm_ok_sub (lo := [some (.ref 35), some (.int a1), some (.int a2), some (.int (0 : Int32)), none]) (And.intro rfl (And.intro rfl (And.intro rfl (And.intro rfl trivial)))) (x7_weighStones_h2_ok mm_fu a1 a2 (0 : Int32) q)
def x7_worthOf (a1 : Int32) (a2 : Int32) (q : mm_Q) : Option (Int32 × mm_Q) := (if ((a1 * (7 : Int32)) + a2) < 0 then (some ((0 : Int32), q)) else (if (49 : Int32) ≤ ((a1 * (7 : Int32)) + a2) then (some ((0 : Int32), q)) else (mm_ck (mm_inb ((a1 * (7 : Int32)) + a2) 49) (some (q.1 37 ((a1 * (7 : Int32)) + a2).toNatClampNeg, q)))))
set_option maxRecDepth 20000 in
theorem x7_worthOf_ok {L : Nat} {a1 : Int32} {a2 : Int32} {q : mm_Q} {r : Int32} {q1 : mm_Q} (h : x7_worthOf a1 a2 q = some (r, q1)) : mm_Runs 1 84 [.ref 35, .int a1, .int a2] (mm_wq L q) (mm_cvi r) (mm_wq L q1) := by
  refine mm_runs_of (d := 0) (L := L) rfl (by decide +kernel) rfl rfl (?_ : mm_ok mm_cvi (mm_Runs 0) 7 false cX7_worthOf (some .int) L 0 [some (.ref 35), some (.int a1), some (.int a2), none] [] q (x7_worthOf a1 a2 q)) h
  unfold x7_worthOf
  refine mm_ok_bl (l := [(.iload 1, 1), (.iconst (7), 2), (.imul, 1), (.iload 2, 1), (.iadd, 1), (.istore 3, 1), (.iload 3, 1)]) (pc' := 8) (lo' := [some (.ref 35), some (.int a1), some (.int a2), some (.int ((a1 * (7 : Int32)) + a2))]) (st' := [.int ((a1 * (7 : Int32)) + a2)]) (q' := q) (P := (True) ∧ ((True) ∧ ((True) ∧ ((True) ∧ ((True) ∧ ((True) ∧ ((True) ∧ (True)))))))) (by decide +kernel) rfl rfl (And.intro trivial (And.intro trivial (And.intro trivial (And.intro trivial (And.intro trivial (And.intro trivial (And.intro trivial trivial))))))) ?_
  refine mm_ok_ifCond_lt (pt := 29) (d := 21) (by decide +kernel) (by decide) (fun k1 => ?_) (fun k1 => ?_)
  · refine mm_ok_bl (l := [(.iconst (0), 1)]) (pc' := 30) (lo' := [some (.ref 35), some (.int a1), some (.int a2), some (.int ((a1 * (7 : Int32)) + a2))]) (st' := [.int (0 : Int32)]) (q' := q) (P := (True) ∧ (True)) (by decide +kernel) rfl rfl (And.intro trivial trivial) ?_
    exact mm_ok_iret (by decide +kernel)
  · refine mm_ok_bl (l := [(.iload 3, 1), (.aload 0, 1), (.getfield 451, 3), (.arraylength, 1)]) (pc' := 17) (lo' := [some (.ref 35), some (.int a1), some (.int a2), some (.int ((a1 * (7 : Int32)) + a2))]) (st' := [.int (49 : Int32), .int ((a1 * (7 : Int32)) + a2)]) (q' := q) (P := (True) ∧ ((True) ∧ ((True) ∧ ((True) ∧ (True))))) (by decide +kernel) rfl rfl (And.intro trivial (And.intro trivial (And.intro trivial (And.intro trivial trivial)))) ?_
    refine mm_ok_if_icmp_ge (pt := 29) (d := 12) (by decide +kernel) (by decide) (fun k2 => ?_) (fun k2 => ?_)
    · refine mm_ok_bl (l := [(.iconst (0), 1)]) (pc' := 30) (lo' := [some (.ref 35), some (.int a1), some (.int a2), some (.int ((a1 * (7 : Int32)) + a2))]) (st' := [.int (0 : Int32)]) (q' := q) (P := (True) ∧ (True)) (by decide +kernel) rfl rfl (And.intro trivial trivial) ?_
      exact mm_ok_iret (by decide +kernel)
    · refine mm_ok_bl (l := [(.aload 0, 1), (.getfield 451, 3), (.iload 3, 1)]) (pc' := 25) (lo' := [some (.ref 35), some (.int a1), some (.int a2), some (.int ((a1 * (7 : Int32)) + a2))]) (st' := [.int ((a1 * (7 : Int32)) + a2), .ref 37]) (q' := q) (P := (True) ∧ ((True) ∧ ((True) ∧ (True)))) (by decide +kernel) rfl rfl (And.intro trivial (And.intro trivial (And.intro trivial trivial))) ?_
      refine mm_ok_ck (fun c3 => ?_)
      refine mm_ok_bl (l := [(.iaload, 1)]) (pc' := 26) (lo' := [some (.ref 35), some (.int a1), some (.int a2), some (.int ((a1 * (7 : Int32)) + a2))]) (st' := [.int (q.1 37 ((a1 * (7 : Int32)) + a2).toNatClampNeg)]) (q' := q) (P := (mm_ix ((a1 * (7 : Int32)) + a2) 49) ∧ (True)) (by decide +kernel) rfl rfl (And.intro (mm_inb_ix c3) trivial) ?_
      refine mm_ok_goto (pt := 30) (d := 4) (by decide +kernel) (by decide) ?_
      exact mm_ok_iret (by decide +kernel)
def x7_mostOf (a1 : Int32) (q : mm_Q) : Option (Int32 × mm_Q) := (if a1 < 0 then (some ((0 : Int32), q)) else (if (128 : Int32) ≤ a1 then (some ((0 : Int32), q)) else (mm_ck (mm_inb a1 128) (some (q.1 38 a1.toNatClampNeg, q)))))
set_option maxRecDepth 20000 in
theorem x7_mostOf_ok {L : Nat} {a1 : Int32} {q : mm_Q} {r : Int32} {q1 : mm_Q} (h : x7_mostOf a1 q = some (r, q1)) : mm_Runs 1 85 [.ref 35, .int a1] (mm_wq L q) (mm_cvi r) (mm_wq L q1) := by
  refine mm_runs_of (d := 0) (L := L) rfl (by decide +kernel) rfl rfl (?_ : mm_ok mm_cvi (mm_Runs 0) 7 false cX7_mostOf (some .int) L 0 [some (.ref 35), some (.int a1)] [] q (x7_mostOf a1 q)) h
  unfold x7_mostOf
  refine mm_ok_bl (l := [(.iload 1, 1)]) (pc' := 1) (lo' := [some (.ref 35), some (.int a1)]) (st' := [.int a1]) (q' := q) (P := (True) ∧ (True)) (by decide +kernel) rfl rfl (And.intro trivial trivial) ?_
  refine mm_ok_ifCond_lt (pt := 22) (d := 21) (by decide +kernel) (by decide) (fun k1 => ?_) (fun k1 => ?_)
  · refine mm_ok_bl (l := [(.iconst (0), 1)]) (pc' := 23) (lo' := [some (.ref 35), some (.int a1)]) (st' := [.int (0 : Int32)]) (q' := q) (P := (True) ∧ (True)) (by decide +kernel) rfl rfl (And.intro trivial trivial) ?_
    exact mm_ok_iret (by decide +kernel)
  · refine mm_ok_bl (l := [(.iload 1, 1), (.aload 0, 1), (.getfield 452, 3), (.arraylength, 1)]) (pc' := 10) (lo' := [some (.ref 35), some (.int a1)]) (st' := [.int (128 : Int32), .int a1]) (q' := q) (P := (True) ∧ ((True) ∧ ((True) ∧ ((True) ∧ (True))))) (by decide +kernel) rfl rfl (And.intro trivial (And.intro trivial (And.intro trivial (And.intro trivial trivial)))) ?_
    refine mm_ok_if_icmp_ge (pt := 22) (d := 12) (by decide +kernel) (by decide) (fun k2 => ?_) (fun k2 => ?_)
    · refine mm_ok_bl (l := [(.iconst (0), 1)]) (pc' := 23) (lo' := [some (.ref 35), some (.int a1)]) (st' := [.int (0 : Int32)]) (q' := q) (P := (True) ∧ (True)) (by decide +kernel) rfl rfl (And.intro trivial trivial) ?_
      exact mm_ok_iret (by decide +kernel)
    · refine mm_ok_bl (l := [(.aload 0, 1), (.getfield 452, 3), (.iload 1, 1)]) (pc' := 18) (lo' := [some (.ref 35), some (.int a1)]) (st' := [.int a1, .ref 38]) (q' := q) (P := (True) ∧ ((True) ∧ ((True) ∧ (True)))) (by decide +kernel) rfl rfl (And.intro trivial (And.intro trivial (And.intro trivial trivial))) ?_
      refine mm_ok_ck (fun c3 => ?_)
      refine mm_ok_bl (l := [(.iaload, 1)]) (pc' := 19) (lo' := [some (.ref 35), some (.int a1)]) (st' := [.int (q.1 38 a1.toNatClampNeg)]) (q' := q) (P := (mm_ix a1 128) ∧ (True)) (by decide +kernel) rfl rfl (And.intro (mm_inb_ix c3) trivial) ?_
      refine mm_ok_goto (pt := 23) (d := 4) (by decide +kernel) (by decide) ?_
      exact mm_ok_iret (by decide +kernel)
def x7_together (a1 : Int32) (a2 : Int32) (q : mm_Q) : Option (Int32 × mm_Q) := (if (q.1 35 6) = 0 then (some (mm_max a1 a2, q)) else (some (a1 + a2, q)))
set_option maxRecDepth 20000 in
theorem x7_together_ok {L : Nat} {a1 : Int32} {a2 : Int32} {q : mm_Q} {r : Int32} {q1 : mm_Q} (h : x7_together a1 a2 q = some (r, q1)) : mm_Runs 1 86 [.ref 35, .int a1, .int a2] (mm_wq L q) (mm_cvi r) (mm_wq L q1) := by
  refine mm_runs_of (d := 0) (L := L) rfl (by decide +kernel) rfl rfl (?_ : mm_ok mm_cvi (mm_Runs 0) 7 false cX7_together (some .int) L 0 [some (.ref 35), some (.int a1), some (.int a2)] [] q (x7_together a1 a2 q)) h
  unfold x7_together
  refine mm_ok_bl (l := [(.aload 0, 1), (.getfield 454, 3)]) (pc' := 4) (lo' := [some (.ref 35), some (.int a1), some (.int a2)]) (st' := [.int (q.1 35 6)]) (q' := q) (P := (True) ∧ ((True) ∧ (True))) (by decide +kernel) rfl rfl (And.intro trivial (And.intro trivial trivial)) ?_
  refine mm_ok_ifCond_ne (pt := 15) (d := 11) (by decide +kernel) (by decide) (fun k1 => ?_) (fun k1 => ?_)
  · refine mm_ok_bl (l := [(.iload 1, 1), (.iload 2, 1), (.ldc 0, 3)]) (pc' := 12) (lo' := [some (.ref 35), some (.int a1), some (.int a2)]) (st' := [.int (mm_max a1 a2)]) (q' := q) (P := (True) ∧ ((True) ∧ ((True) ∧ (True)))) (by decide +kernel) rfl rfl (And.intro trivial (And.intro trivial (And.intro trivial trivial))) ?_
    refine mm_ok_goto (pt := 18) (d := 6) (by decide +kernel) (by decide) ?_
    exact mm_ok_iret (by decide +kernel)
  · refine mm_ok_bl (l := [(.iload 1, 1), (.iload 2, 1), (.iadd, 1)]) (pc' := 18) (lo' := [some (.ref 35), some (.int a1), some (.int a2)]) (st' := [.int (a1 + a2)]) (q' := q) (P := (True) ∧ ((True) ∧ ((True) ∧ (True)))) (by decide +kernel) rfl rfl (And.intro trivial (And.intro trivial (And.intro trivial trivial))) ?_
    exact mm_ok_iret (by decide +kernel)
def j_bitCount_0f7a4 (a1 : Int32) (q : mm_Q) : Option (Int32 × mm_Q) := (mm_lt (((a1 - ((mm_ushr a1 (1 : Int32)) &&& (1431655765 : Int32))) &&& (858993459 : Int32)) + ((mm_ushr (a1 - ((mm_ushr a1 (1 : Int32)) &&& (1431655765 : Int32))) (2 : Int32)) &&& (858993459 : Int32))) (fun v1 => (mm_lt (((v1 + (mm_ushr v1 (4 : Int32))) &&& (252645135 : Int32)) + (mm_ushr ((v1 + (mm_ushr v1 (4 : Int32))) &&& (252645135 : Int32)) (8 : Int32))) (fun v2 => (some ((v2 + (mm_ushr v2 (16 : Int32))) &&& (63 : Int32), q))))))
set_option maxRecDepth 20000 in
theorem j_bitCount_0f7a4_ok {L : Nat} {a1 : Int32} {q : mm_Q} {r : Int32} {q1 : mm_Q} (h : j_bitCount_0f7a4 a1 q = some (r, q1)) : mm_Runs 1 288 [.int a1] (mm_wq L q) (mm_cvi r) (mm_wq L q1) := by
  refine mm_runs_of (d := 0) (L := L) rfl (by decide +kernel) rfl rfl (?_ : mm_ok mm_cvi (mm_Runs 0) 13 false cJ6_bitCount_0f7a4 (some .int) L 0 [some (.int a1)] [] q (j_bitCount_0f7a4 a1 q)) h
  unfold j_bitCount_0f7a4
  refine mm_ok_bl (l := [(.iload 0, 1), (.iload 0, 1), (.iconst (1), 1), (.iushr, 1), (.iconst (1431655765), 3), (.iand, 1), (.isub, 1), (.istore 0, 1), (.iload 0, 1), (.iconst (858993459), 3), (.iand, 1), (.iload 0, 1), (.iconst (2), 1), (.iushr, 1), (.iconst (858993459), 3), (.iand, 1), (.iadd, 1), (.istore 0, 1)]) (pc' := 24) (lo' := [some (.int (((a1 - ((mm_ushr a1 (1 : Int32)) &&& (1431655765 : Int32))) &&& (858993459 : Int32)) + ((mm_ushr (a1 - ((mm_ushr a1 (1 : Int32)) &&& (1431655765 : Int32))) (2 : Int32)) &&& (858993459 : Int32))))]) (st' := []) (q' := q) (P := (True) ∧ ((True) ∧ ((True) ∧ ((True) ∧ ((True) ∧ ((True) ∧ ((True) ∧ ((True) ∧ ((True) ∧ ((True) ∧ ((True) ∧ ((True) ∧ ((True) ∧ ((True) ∧ ((True) ∧ ((True) ∧ ((True) ∧ ((True) ∧ (True))))))))))))))))))) (by decide +kernel) rfl rfl (And.intro trivial (And.intro trivial (And.intro trivial (And.intro trivial (And.intro trivial (And.intro trivial (And.intro trivial (And.intro trivial (And.intro trivial (And.intro trivial (And.intro trivial (And.intro trivial (And.intro trivial (And.intro trivial (And.intro trivial (And.intro trivial (And.intro trivial (And.intro trivial trivial)))))))))))))))))) ?_
  refine mm_ok_lti (x := ((a1 - ((mm_ushr a1 (1 : Int32)) &&& (1431655765 : Int32))) &&& (858993459 : Int32)) + ((mm_ushr (a1 - ((mm_ushr a1 (1 : Int32)) &&& (1431655765 : Int32))) (2 : Int32)) &&& (858993459 : Int32))) (lo1 := fun v1 => [some (.int v1)]) (st1 := fun v1 => []) (fun v1 => ?_)
  refine mm_ok_bl (l := [(.iload 0, 1), (.iload 0, 1), (.iconst (4), 1), (.iushr, 1), (.iadd, 1), (.iconst (252645135), 3), (.iand, 1), (.istore 0, 1), (.iload 0, 1), (.iload 0, 1), (.iconst (8), 2), (.iushr, 1), (.iadd, 1), (.istore 0, 1)]) (pc' := 41) (lo' := [some (.int (((v1 + (mm_ushr v1 (4 : Int32))) &&& (252645135 : Int32)) + (mm_ushr ((v1 + (mm_ushr v1 (4 : Int32))) &&& (252645135 : Int32)) (8 : Int32))))]) (st' := []) (q' := q) (P := (True) ∧ ((True) ∧ ((True) ∧ ((True) ∧ ((True) ∧ ((True) ∧ ((True) ∧ ((True) ∧ ((True) ∧ ((True) ∧ ((True) ∧ ((True) ∧ ((True) ∧ ((True) ∧ (True))))))))))))))) (by decide +kernel) rfl rfl (And.intro trivial (And.intro trivial (And.intro trivial (And.intro trivial (And.intro trivial (And.intro trivial (And.intro trivial (And.intro trivial (And.intro trivial (And.intro trivial (And.intro trivial (And.intro trivial (And.intro trivial (And.intro trivial trivial)))))))))))))) ?_
  refine mm_ok_lti (x := ((v1 + (mm_ushr v1 (4 : Int32))) &&& (252645135 : Int32)) + (mm_ushr ((v1 + (mm_ushr v1 (4 : Int32))) &&& (252645135 : Int32)) (8 : Int32))) (lo1 := fun v2 => [some (.int v2)]) (st1 := fun v2 => []) (fun v2 => ?_)
  refine mm_ok_bl (l := [(.iload 0, 1), (.iload 0, 1), (.iconst (16), 2), (.iushr, 1), (.iadd, 1), (.istore 0, 1), (.iload 0, 1), (.iconst (63), 2), (.iand, 1)]) (pc' := 52) (lo' := [some (.int (v2 + (mm_ushr v2 (16 : Int32))))]) (st' := [.int ((v2 + (mm_ushr v2 (16 : Int32))) &&& (63 : Int32))]) (q' := q) (P := (True) ∧ ((True) ∧ ((True) ∧ ((True) ∧ ((True) ∧ ((True) ∧ ((True) ∧ ((True) ∧ ((True) ∧ (True)))))))))) (by decide +kernel) rfl rfl (And.intro trivial (And.intro trivial (And.intro trivial (And.intro trivial (And.intro trivial (And.intro trivial (And.intro trivial (And.intro trivial (And.intro trivial trivial))))))))) ?_
  exact mm_ok_iret (by decide +kernel)
def x7_weighOrders_j115 (rr27 : Int32 → mm_Q → Option (Unit × mm_Q)) (rr66 : Int32 → Int32 → Int32 → Int32 → mm_Q → Option (Unit × mm_Q)) (a5 : Int32) (a6 : Int32) (a7 : Int32) (a8 : Int32) (q : mm_Q) : Option (Unit × mm_Q) := (rr66 a5 a6 a7 (a8 + (1 : Int32)) q)
set_option maxRecDepth 20000 in
theorem x7_weighOrders_j115_ok {L : Nat} (rr27 : Int32 → mm_Q → Option (Unit × mm_Q)) (hrr27 : ∀ (a5 : Int32) (q : mm_Q), mm_ok mm_cvu (mm_Runs 5) 7 false cX7_weighOrders none L 27 [some (.ref 35), none, none, none, none, some (.int a5), none, none, none] [] q (rr27 a5 q)) (rr66 : Int32 → Int32 → Int32 → Int32 → mm_Q → Option (Unit × mm_Q)) (hrr66 : ∀ (a5 : Int32) (a6 : Int32) (a7 : Int32) (a8 : Int32) (q : mm_Q), mm_ok mm_cvu (mm_Runs 5) 7 false cX7_weighOrders none L 66 [some (.ref 35), none, none, none, none, some (.int a5), some (.int a6), some (.int a7), some (.int a8)] [] q (rr66 a5 a6 a7 a8 q)) (a5 : Int32) (a6 : Int32) (a7 : Int32) (a8 : Int32) (q : mm_Q) : mm_ok mm_cvu (mm_Runs 5) 7 false cX7_weighOrders none L 115 [some (.ref 35), none, none, none, none, some (.int a5), some (.int a6), some (.int a7), some (.int a8)] [] q (x7_weighOrders_j115 rr27 rr66 a5 a6 a7 a8 q) := by
  unfold x7_weighOrders_j115
  refine mm_ok_bl (l := [(.iinc 8 (1), 3)]) (pc' := 118) (lo' := [some (.ref 35), none, none, none, none, some (.int a5), some (.int a6), some (.int a7), some (.int (a8 + (1 : Int32)))]) (st' := []) (q' := q) (P := (True) ∧ (True)) (by decide +kernel) rfl rfl (And.intro trivial trivial) ?_
  refine mm_ok_goto (pt := 66) (d := -52) (by decide +kernel) (by decide) ?_
  exact mm_ok_sub (lo := [some (.ref 35), none, none, none, none, some (.int a5), some (.int a6), some (.int a7), some (.int (a8 + (1 : Int32)))]) (And.intro rfl (And.intro rfl (And.intro rfl (And.intro rfl (And.intro rfl trivial))))) (hrr66 a5 a6 a7 (a8 + (1 : Int32)) q)
def x7_weighOrders_h66 (rr27 : Int32 → mm_Q → Option (Unit × mm_Q)) : Nat → Int32 → Int32 → Int32 → Int32 → mm_Q → Option (Unit × mm_Q)
  | 0, _, _, _, _, _ => none
  | n + 1, a5, a6, a7, a8, q => (if (q.1 35 5) ≤ a8 then (mm_ck (mm_inb a5 128) (mm_lt (mm_si q 38 a5.toNatClampNeg a7) (fun q13 => (rr27 (a5 + (1 : Int32)) q13)))) else (if ((a5 >>> (a8 &&& 31)) &&& (1 : Int32)) = 0 then (x7_weighOrders_j115 rr27 (x7_weighOrders_h66 rr27 n) a5 a6 a7 a8 q) else (mm_cl (x7_worthOf a8 a6 q) (fun r15 q16 => (mm_cl (x7_mostOf (a5 ^^^ ((1 : Int32) <<< (a8 &&& 31))) q16) (fun r17 q18 => (mm_cl (x7_together r15 r17 q18) (fun r19 q20 => (x7_weighOrders_j115 rr27 (x7_weighOrders_h66 rr27 n) a5 a6 (mm_max a7 r19) a8 q20)))))))))
set_option maxRecDepth 20000 in
theorem x7_weighOrders_h66_ok {L : Nat} (rr27 : Int32 → mm_Q → Option (Unit × mm_Q)) (hrr27 : ∀ (a5 : Int32) (q : mm_Q), mm_ok mm_cvu (mm_Runs 5) 7 false cX7_weighOrders none L 27 [some (.ref 35), none, none, none, none, some (.int a5), none, none, none] [] q (rr27 a5 q)) : ∀ (n : Nat) (a5 : Int32) (a6 : Int32) (a7 : Int32) (a8 : Int32) (q : mm_Q), mm_ok mm_cvu (mm_Runs 5) 7 false cX7_weighOrders none L 66 [some (.ref 35), none, none, none, none, some (.int a5), some (.int a6), some (.int a7), some (.int a8)] [] q (x7_weighOrders_h66 rr27 n a5 a6 a7 a8 q)
  | 0, _, _, _, _, _ => by
    exact mm_ok_none
  | n + 1, a5, a6, a7, a8, q => by
    unfold x7_weighOrders_h66
    refine mm_ok_bl (l := [(.iload 8, 2), (.aload 0, 1), (.getfield 453, 3)]) (pc' := 72) (lo' := [some (.ref 35), none, none, none, none, some (.int a5), some (.int a6), some (.int a7), some (.int a8)]) (st' := [.int (q.1 35 5), .int a8]) (q' := q) (P := (True) ∧ ((True) ∧ ((True) ∧ (True)))) (by decide +kernel) rfl rfl (And.intro trivial (And.intro trivial (And.intro trivial trivial))) ?_
    refine mm_ok_if_icmp_ge (pt := 121) (d := 49) (by decide +kernel) (by decide) (fun k11 => ?_) (fun k11 => ?_)
    · refine mm_ok_bl (l := [(.aload 0, 1), (.getfield 452, 3), (.iload 5, 2), (.iload 7, 2)]) (pc' := 129) (lo' := [some (.ref 35), none, none, none, none, some (.int a5), some (.int a6), some (.int a7), some (.int a8)]) (st' := [.int a7, .int a5, .ref 38]) (q' := q) (P := (True) ∧ ((True) ∧ ((True) ∧ ((True) ∧ (True))))) (by decide +kernel) rfl rfl (And.intro trivial (And.intro trivial (And.intro trivial (And.intro trivial trivial)))) ?_
      refine mm_ok_ck (fun c12 => ?_)
      refine mm_ok_bl (l := [(.iastore, 1)]) (pc' := 130) (lo' := [some (.ref 35), none, none, none, none, some (.int a5), some (.int a6), some (.int a7), some (.int a8)]) (st' := []) (q' := (mm_si q 38 a5.toNatClampNeg a7)) (P := (mm_ix a5 128) ∧ (True)) (by decide +kernel) rfl rfl (And.intro (mm_inb_ix c12) trivial) ?_
      refine mm_ok_lt (fun q13 => ?_)
      refine mm_ok_bl (l := [(.iinc 5 (1), 3)]) (pc' := 133) (lo' := [some (.ref 35), none, none, none, none, some (.int (a5 + (1 : Int32))), some (.int a6), some (.int a7), some (.int a8)]) (st' := []) (q' := q13) (P := (True) ∧ (True)) (by decide +kernel) rfl rfl (And.intro trivial trivial) ?_
      refine mm_ok_goto (pt := 27) (d := -106) (by decide +kernel) (by decide) ?_
      exact mm_ok_sub (lo := [some (.ref 35), none, none, none, none, some (.int (a5 + (1 : Int32))), none, none, none]) (And.intro rfl (And.intro rfl trivial)) (hrr27 (a5 + (1 : Int32)) q13)
    · refine mm_ok_bl (l := [(.iload 5, 2), (.iload 8, 2), (.ishr, 1), (.iconst (1), 1), (.iand, 1)]) (pc' := 82) (lo' := [some (.ref 35), none, none, none, none, some (.int a5), some (.int a6), some (.int a7), some (.int a8)]) (st' := [.int ((a5 >>> (a8 &&& 31)) &&& (1 : Int32))]) (q' := q) (P := (True) ∧ ((True) ∧ ((True) ∧ ((True) ∧ ((True) ∧ (True)))))) (by decide +kernel) rfl rfl (And.intro trivial (And.intro trivial (And.intro trivial (And.intro trivial (And.intro trivial trivial))))) ?_
      refine mm_ok_ifCond_eq (pt := 115) (d := 33) (by decide +kernel) (by decide) (fun k14 => ?_) (fun k14 => ?_)
      · exact mm_ok_sub (lo := [some (.ref 35), none, none, none, none, some (.int a5), some (.int a6), some (.int a7), some (.int a8)]) (And.intro rfl (And.intro rfl (And.intro rfl (And.intro rfl (And.intro rfl trivial))))) (x7_weighOrders_j115_ok rr27 hrr27 (x7_weighOrders_h66 rr27 n) (x7_weighOrders_h66_ok rr27 hrr27 n) a5 a6 a7 a8 q)
      · refine mm_ok_bl (l := [(.iload 7, 2), (.aload 0, 1), (.aload 0, 1), (.iload 8, 2), (.iload 6, 2)]) (pc' := 93) (lo' := [some (.ref 35), none, none, none, none, some (.int a5), some (.int a6), some (.int a7), some (.int a8)]) (st' := [.int a6, .int a8, .ref 35, .ref 35, .int a7]) (q' := q) (P := (True) ∧ ((True) ∧ ((True) ∧ ((True) ∧ ((True) ∧ (True)))))) (by decide +kernel) rfl rfl (And.intro trivial (And.intro trivial (And.intro trivial (And.intro trivial (And.intro trivial trivial))))) ?_
        refine mm_ok_call (cz := mm_cvi) (j := .invokevirtual 1346) (y := 84) (as := [.ref 35, .int a8, .int a6]) (t := [.ref 35, .int a7]) (by decide +kernel) rfl (fun _ _ h => mm_up (k := 1) (by decide) (x7_worthOf_ok h)) (fun r15 q16 => ?_)
        refine mm_ok_bl (l := [(.aload 0, 1), (.iload 5, 2), (.iconst (1), 1), (.iload 8, 2), (.ishl, 1), (.ixor, 1)]) (pc' := 104) (lo' := [some (.ref 35), none, none, none, none, some (.int a5), some (.int a6), some (.int a7), some (.int a8)]) (st' := [.int (a5 ^^^ ((1 : Int32) <<< (a8 &&& 31))), .ref 35, .int r15, .ref 35, .int a7]) (q' := q16) (P := (True) ∧ ((True) ∧ ((True) ∧ ((True) ∧ ((True) ∧ ((True) ∧ (True))))))) (by decide +kernel) rfl rfl (And.intro trivial (And.intro trivial (And.intro trivial (And.intro trivial (And.intro trivial (And.intro trivial trivial)))))) ?_
        refine mm_ok_call (cz := mm_cvi) (j := .invokevirtual 1361) (y := 85) (as := [.ref 35, .int (a5 ^^^ ((1 : Int32) <<< (a8 &&& 31)))]) (t := [.int r15, .ref 35, .int a7]) (by decide +kernel) rfl (fun _ _ h => mm_up (k := 1) (by decide) (x7_mostOf_ok h)) (fun r17 q18 => ?_)
        refine mm_ok_call (cz := mm_cvi) (j := .invokevirtual 1378) (y := 86) (as := [.ref 35, .int r15, .int r17]) (t := [.int a7]) (by decide +kernel) rfl (fun _ _ h => mm_up (k := 1) (by decide) (x7_together_ok h)) (fun r19 q20 => ?_)
        refine mm_ok_bl (l := [(.ldc 0, 3), (.istore 7, 2)]) (pc' := 115) (lo' := [some (.ref 35), none, none, none, none, some (.int a5), some (.int a6), some (.int (mm_max a7 r19)), some (.int a8)]) (st' := []) (q' := q20) (P := (True) ∧ ((True) ∧ (True))) (by decide +kernel) rfl rfl (And.intro trivial (And.intro trivial trivial)) ?_
        exact mm_ok_sub (lo := [some (.ref 35), none, none, none, none, some (.int a5), some (.int a6), some (.int (mm_max a7 r19)), some (.int a8)]) (And.intro rfl (And.intro rfl (And.intro rfl (And.intro rfl (And.intro rfl trivial))))) (x7_weighOrders_j115_ok rr27 hrr27 (x7_weighOrders_h66 rr27 n) (x7_weighOrders_h66_ok rr27 hrr27 n) a5 a6 (mm_max a7 r19) a8 q20)
def x7_weighOrders_h27 : Nat → Int32 → mm_Q → Option (Unit × mm_Q)
  | 0, _, _ => none
  | n + 1, a5, q => (if ((1 : Int32) <<< ((q.1 35 5) &&& 31)) ≤ a5 then (some ((), q)) else (if (128 : Int32) ≤ a5 then (some ((), q)) else (mm_cl (j_bitCount_0f7a4 a5 q) (fun r9 q10 => (x7_weighOrders_h66 (x7_weighOrders_h27 n) mm_fu a5 ((q.1 35 5) - r9) (0 : Int32) (0 : Int32) q10)))))
set_option maxRecDepth 20000 in
theorem x7_weighOrders_h27_ok {L : Nat} : ∀ (n : Nat) (a5 : Int32) (q : mm_Q), mm_ok mm_cvu (mm_Runs 5) 7 false cX7_weighOrders none L 27 [some (.ref 35), none, none, none, none, some (.int a5), none, none, none] [] q (x7_weighOrders_h27 n a5 q)
  | 0, _, _ => by
    exact mm_ok_none
  | n + 1, a5, q => by
    unfold x7_weighOrders_h27
    refine mm_ok_bl (l := [(.iload 5, 2), (.iconst (1), 1), (.aload 0, 1), (.getfield 453, 3), (.ishl, 1)]) (pc' := 35) (lo' := [some (.ref 35), none, none, none, none, some (.int a5), none, none, none]) (st' := [.int ((1 : Int32) <<< ((q.1 35 5) &&& 31)), .int a5]) (q' := q) (P := (True) ∧ ((True) ∧ ((True) ∧ ((True) ∧ ((True) ∧ (True)))))) (by decide +kernel) rfl rfl (And.intro trivial (And.intro trivial (And.intro trivial (And.intro trivial (And.intro trivial trivial))))) ?_
    refine mm_ok_if_icmp_ge (pt := 136) (d := 101) (by decide +kernel) (by decide) (fun k7 => ?_) (fun k7 => ?_)
    · exact mm_ok_vret (by decide +kernel)
    · refine mm_ok_bl (l := [(.iload 5, 2), (.aload 0, 1), (.getfield 452, 3), (.arraylength, 1)]) (pc' := 45) (lo' := [some (.ref 35), none, none, none, none, some (.int a5), none, none, none]) (st' := [.int (128 : Int32), .int a5]) (q' := q) (P := (True) ∧ ((True) ∧ ((True) ∧ ((True) ∧ (True))))) (by decide +kernel) rfl rfl (And.intro trivial (And.intro trivial (And.intro trivial (And.intro trivial trivial)))) ?_
      refine mm_ok_if_icmp_ge (pt := 136) (d := 91) (by decide +kernel) (by decide) (fun k8 => ?_) (fun k8 => ?_)
      · exact mm_ok_vret (by decide +kernel)
      · refine mm_ok_bl (l := [(.aload 0, 1), (.getfield 453, 3), (.iload 5, 2)]) (pc' := 54) (lo' := [some (.ref 35), none, none, none, none, some (.int a5), none, none, none]) (st' := [.int a5, .int (q.1 35 5)]) (q' := q) (P := (True) ∧ ((True) ∧ ((True) ∧ (True)))) (by decide +kernel) rfl rfl (And.intro trivial (And.intro trivial (And.intro trivial trivial))) ?_
        refine mm_ok_call (cz := mm_cvi) (j := .invokestatic 4609) (y := 288) (as := [.int a5]) (t := [.int (q.1 35 5)]) (by decide +kernel) rfl (fun _ _ h => mm_up (k := 1) (by decide) (j_bitCount_0f7a4_ok h)) (fun r9 q10 => ?_)
        refine mm_ok_bl (l := [(.isub, 1), (.istore 6, 2), (.iconst (0), 1), (.istore 7, 2), (.iconst (0), 1), (.istore 8, 2)]) (pc' := 66) (lo' := [some (.ref 35), none, none, none, none, some (.int a5), some (.int ((q.1 35 5) - r9)), some (.int (0 : Int32)), some (.int (0 : Int32))]) (st' := []) (q' := q10) (P := (True) ∧ ((True) ∧ ((True) ∧ ((True) ∧ ((True) ∧ ((True) ∧ (True))))))) (by decide +kernel) rfl rfl (And.intro trivial (And.intro trivial (And.intro trivial (And.intro trivial (And.intro trivial (And.intro trivial trivial)))))) ?_
        exact mm_ok_sub (lo := [some (.ref 35), none, none, none, none, some (.int a5), some (.int ((q.1 35 5) - r9)), some (.int (0 : Int32)), some (.int (0 : Int32))]) (And.intro rfl (And.intro rfl (And.intro rfl (And.intro rfl (And.intro rfl trivial))))) (x7_weighOrders_h66_ok (x7_weighOrders_h27 n) (x7_weighOrders_h27_ok n) mm_fu a5 ((q.1 35 5) - r9) (0 : Int32) (0 : Int32) q10)
def x7_weighOrders (a1 : Int32) (a2 : Int32) (a3 : Int32) (a4 : Int32) (q : mm_Q) : Option (Unit × mm_Q) := (mm_lt (mm_si q 35 6 a3) (fun q1 => (mm_cl (x7_gatherStones a2 q1) (fun u2 q3 => (mm_cl (x7_weighStones a1 a4 q3) (fun u4 q5 => (mm_lt (mm_si q5 38 0 (0 : Int32)) (fun q6 => (x7_weighOrders_h27 mm_fu (1 : Int32) q6)))))))))
set_option maxRecDepth 20000 in
theorem x7_weighOrders_ok {L : Nat} {a1 : Int32} {a2 : Int32} {a3 : Int32} {a4 : Int32} {q : mm_Q} {r : Unit} {q1 : mm_Q} (h : x7_weighOrders a1 a2 a3 a4 q = some (r, q1)) : mm_Runs 6 78 [.ref 35, .int a1, .int a2, .int a3, .int a4] (mm_wq L q) (mm_cvu r) (mm_wq L q1) := by
  refine mm_runs_of (d := 5) (L := L) rfl (by decide +kernel) rfl rfl (?_ : mm_ok mm_cvu (mm_Runs 5) 7 false cX7_weighOrders none L 0 [some (.ref 35), some (.int a1), some (.int a2), some (.int a3), some (.int a4), none, none, none, none] [] q (x7_weighOrders a1 a2 a3 a4 q)) h
  unfold x7_weighOrders
  refine mm_ok_bl (l := [(.aload 0, 1), (.iload 3, 1), (.putfield 454, 3)]) (pc' := 5) (lo' := [some (.ref 35), some (.int a1), some (.int a2), some (.int a3), some (.int a4), none, none, none, none]) (st' := []) (q' := (mm_si q 35 6 a3)) (P := (True) ∧ ((True) ∧ ((True) ∧ (True)))) (by decide +kernel) rfl rfl (And.intro trivial (And.intro trivial (And.intro trivial trivial))) ?_
  refine mm_ok_lt (fun q1 => ?_)
  refine mm_ok_bl (l := [(.aload 0, 1), (.iload 2, 1)]) (pc' := 7) (lo' := [some (.ref 35), some (.int a1), some (.int a2), some (.int a3), some (.int a4), none, none, none, none]) (st' := [.int a2, .ref 35]) (q' := q1) (P := (True) ∧ ((True) ∧ (True))) (by decide +kernel) rfl rfl (And.intro trivial (And.intro trivial trivial)) ?_
  refine mm_ok_call (cz := mm_cvu) (j := .invokevirtual 1313) (y := 82) (as := [.ref 35, .int a2]) (t := []) (by decide +kernel) rfl (fun _ _ h => mm_up (k := 1) (by decide) (x7_gatherStones_ok h)) (fun u2 q3 => ?_)
  refine mm_ok_bl (l := [(.aload 0, 1), (.iload 1, 1), (.iload 4, 2)]) (pc' := 14) (lo' := [some (.ref 35), some (.int a1), some (.int a2), some (.int a3), some (.int a4), none, none, none, none]) (st' := [.int a4, .int a1, .ref 35]) (q' := q3) (P := (True) ∧ ((True) ∧ ((True) ∧ (True)))) (by decide +kernel) rfl rfl (And.intro trivial (And.intro trivial (And.intro trivial trivial))) ?_
  refine mm_ok_call (cz := mm_cvu) (j := .invokevirtual 1330) (y := 83) (as := [.ref 35, .int a1, .int a4]) (t := []) (by decide +kernel) rfl (fun _ _ h => mm_up (k := 5) (by decide) (x7_weighStones_ok h)) (fun u4 q5 => ?_)
  refine mm_ok_bl (l := [(.aload 0, 1), (.getfield 452, 3), (.iconst (0), 1), (.iconst (0), 1), (.iastore, 1)]) (pc' := 24) (lo' := [some (.ref 35), some (.int a1), some (.int a2), some (.int a3), some (.int a4), none, none, none, none]) (st' := []) (q' := (mm_si q5 38 0 (0 : Int32))) (P := (True) ∧ ((True) ∧ ((True) ∧ ((True) ∧ ((mm_ix (0 : Int32) 128) ∧ (True)))))) (by decide +kernel) rfl rfl (And.intro trivial (And.intro trivial (And.intro trivial (And.intro trivial (And.intro (mm_inb_ix (by decide)) trivial))))) ?_
  refine mm_ok_lt (fun q6 => ?_)
  refine mm_ok_bl (l := [(.iconst (1), 1), (.istore 5, 2)]) (pc' := 27) (lo' := [some (.ref 35), some (.int a1), some (.int a2), some (.int a3), some (.int a4), some (.int (1 : Int32)), none, none, none]) (st' := []) (q' := q6) (P := (True) ∧ ((True) ∧ (True))) (by decide +kernel) rfl rfl (And.intro trivial (And.intro trivial trivial)) ?_
  exact mm_ok_sub (lo := [some (.ref 35), none, none, none, none, some (.int (1 : Int32)), none, none, none]) (And.intro rfl (And.intro rfl trivial)) (x7_weighOrders_h27_ok mm_fu (1 : Int32) q6)
