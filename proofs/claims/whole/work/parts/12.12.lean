def x12_put_j37 (a5 : Int32) (q : mm_Q) : Option (Int32 × mm_Q) := (if a5 = 0 then (some ((1 : Int32), q)) else (some (a5, q)))
set_option maxRecDepth 20000 in
theorem x12_put_j37_ok {L : Nat} (a5 : Int32) (q : mm_Q) : mm_ok mm_cvi (mm_Runs 3) 12 false cX12_put (some .int) L 37 [none, none, none, none, none, some (.int a5)] [] q (x12_put_j37 a5 q) := by
  unfold x12_put_j37
  refine mm_ok_bl (l := [(.iload 5, 2)]) (pc' := 39) (lo' := [none, none, none, none, none, some (.int a5)]) (st' := [.int a5]) (q' := q) (P := (True) ∧ (True)) (by decide +kernel) rfl rfl (And.intro trivial trivial) ?_
  refine mm_ok_ifCond_ne (pt := 46) (d := 7) (by decide +kernel) (by decide) (fun k9 => ?_) (fun k9 => ?_)
  · refine mm_ok_bl (l := [(.iconst (1), 1)]) (pc' := 43) (lo' := [none, none, none, none, none, some (.int a5)]) (st' := [.int (1 : Int32)]) (q' := q) (P := (True) ∧ (True)) (by decide +kernel) rfl rfl (And.intro trivial trivial) ?_
    refine mm_ok_goto (pt := 48) (d := 5) (by decide +kernel) (by decide) ?_
    exact mm_ok_iret (by decide +kernel)
  · refine mm_ok_bl (l := [(.iload 5, 2)]) (pc' := 48) (lo' := [none, none, none, none, none, some (.int a5)]) (st' := [.int a5]) (q' := q) (P := (True) ∧ (True)) (by decide +kernel) rfl rfl (And.intro trivial trivial) ?_
    exact mm_ok_iret (by decide +kernel)
def x12_put (a1 : Int32) (a2 : Int32) (b3 : Int64) (q : mm_Q) : Option (Int32 × mm_Q) := (mm_cl (x12_refusal a1 a2 q) (fun r1 q2 => (if r1 = 0 then (mm_ck (mm_inb a1 6) (mm_cl (x12_asSort ((q2.1 71 a1.toNatClampNeg) - (50 : Int32)) b3 q2) (fun r5 q6 => (mm_ck (mm_inb (((60 : Int32) * a1) + a2) 360) (mm_lt (mm_sj q6 73 (((60 : Int32) * a1) + a2).toNatClampNeg r5) (fun q8 => (x12_put_j37 r1 q8))))))) else (x12_put_j37 r1 q2))))
set_option maxRecDepth 20000 in
theorem x12_put_ok {L : Nat} {a1 : Int32} {a2 : Int32} {b3 : Int64} {q : mm_Q} {r : Int32} {q1 : mm_Q} (h : x12_put a1 a2 b3 q = some (r, q1)) : mm_Runs 4 283 [.ref 52, .int a1, .int a2, .long b3] (mm_wq L q) (mm_cvi r) (mm_wq L q1) := by
  refine mm_runs_of (d := 3) (L := L) rfl (by decide +kernel) rfl rfl (?_ : mm_ok mm_cvi (mm_Runs 3) 12 false cX12_put (some .int) L 0 [some (.ref 52), some (.int a1), some (.int a2), some (.long b3), none, none] [] q (x12_put a1 a2 b3 q)) h
  unfold x12_put
  refine mm_ok_bl (l := [(.aload 0, 1), (.iload 1, 1), (.iload 2, 1)]) (pc' := 3) (lo' := [some (.ref 52), some (.int a1), some (.int a2), some (.long b3), none, none]) (st' := [.int a2, .int a1, .ref 52]) (q' := q) (P := (True) ∧ ((True) ∧ ((True) ∧ (True)))) (by decide +kernel) rfl rfl (And.intro trivial (And.intro trivial (And.intro trivial trivial))) ?_
  refine mm_ok_call (cz := mm_cvi) (j := .invokevirtual 4498) (y := 281) (as := [.ref 52, .int a1, .int a2]) (t := []) (by decide +kernel) rfl (fun _ _ h => mm_up (k := 3) (by decide) (x12_refusal_ok h)) (fun r1 q2 => ?_)
  refine mm_ok_bl (l := [(.istore 5, 2), (.iload 5, 2)]) (pc' := 10) (lo' := [some (.ref 52), some (.int a1), some (.int a2), some (.long b3), none, some (.int r1)]) (st' := [.int r1]) (q' := q2) (P := (True) ∧ ((True) ∧ (True))) (by decide +kernel) rfl rfl (And.intro trivial (And.intro trivial trivial)) ?_
  refine mm_ok_ifCond_ne (pt := 37) (d := 27) (by decide +kernel) (by decide) (fun k3 => ?_) (fun k3 => ?_)
  · refine mm_ok_bl (l := [(.aload 0, 1), (.getfield 814, 3), (.iconst (60), 2), (.iload 1, 1), (.imul, 1), (.iload 2, 1), (.iadd, 1), (.aload 0, 1), (.getfield 812, 3), (.iload 1, 1)]) (pc' := 28) (lo' := [some (.ref 52), some (.int a1), some (.int a2), some (.long b3), none, some (.int r1)]) (st' := [.int a1, .ref 71, .int (((60 : Int32) * a1) + a2), .ref 73]) (q' := q2) (P := (True) ∧ ((True) ∧ ((True) ∧ ((True) ∧ ((True) ∧ ((True) ∧ ((True) ∧ ((True) ∧ ((True) ∧ ((True) ∧ (True))))))))))) (by decide +kernel) rfl rfl (And.intro trivial (And.intro trivial (And.intro trivial (And.intro trivial (And.intro trivial (And.intro trivial (And.intro trivial (And.intro trivial (And.intro trivial (And.intro trivial trivial)))))))))) ?_
    refine mm_ok_ck (fun c4 => ?_)
    refine mm_ok_bl (l := [(.iaload, 1), (.iconst (50), 2), (.isub, 1), (.lload 3, 1)]) (pc' := 33) (lo' := [some (.ref 52), some (.int a1), some (.int a2), some (.long b3), none, some (.int r1)]) (st' := [.long b3, .int ((q2.1 71 a1.toNatClampNeg) - (50 : Int32)), .int (((60 : Int32) * a1) + a2), .ref 73]) (q' := q2) (P := (mm_ix a1 6) ∧ ((True) ∧ ((True) ∧ ((True) ∧ (True))))) (by decide +kernel) rfl rfl (And.intro (mm_inb_ix c4) (And.intro trivial (And.intro trivial (And.intro trivial trivial)))) ?_
    refine mm_ok_call (cz := mm_cvl) (j := .invokestatic 4514) (y := 282) (as := [.int ((q2.1 71 a1.toNatClampNeg) - (50 : Int32)), .long b3]) (t := [.int (((60 : Int32) * a1) + a2), .ref 73]) (by decide +kernel) rfl (fun _ _ h => mm_up (k := 1) (by decide) (x12_asSort_ok h)) (fun r5 q6 => ?_)
    refine mm_ok_ck (fun c7 => ?_)
    refine mm_ok_bl (l := [(.lastore, 1)]) (pc' := 37) (lo' := [some (.ref 52), some (.int a1), some (.int a2), some (.long b3), none, some (.int r1)]) (st' := []) (q' := (mm_sj q6 73 (((60 : Int32) * a1) + a2).toNatClampNeg r5)) (P := (mm_ix (((60 : Int32) * a1) + a2) 360) ∧ (True)) (by decide +kernel) rfl rfl (And.intro (mm_inb_ix c7) trivial) ?_
    refine mm_ok_lt (fun q8 => ?_)
    exact mm_ok_sub (lo := [none, none, none, none, none, some (.int r1)]) (And.intro rfl trivial) (x12_put_j37_ok r1 q8)
  · exact mm_ok_sub (lo := [none, none, none, none, none, some (.int r1)]) (And.intro rfl trivial) (x12_put_j37_ok r1 q2)
def x12_element (a1 : Int32) (a2 : Int32) (q : mm_Q) : Option (Int64 × mm_Q) := (mm_cl (x12_refusal a1 a2 q) (fun r1 q2 => (if r1 = 0 then (mm_ck (mm_inb (((60 : Int32) * a1) + a2) 360) (some (q2.2 73 (((60 : Int32) * a1) + a2).toNatClampNeg, q2))) else (some ((-9223372036854775808 : Int64), q2)))))
set_option maxRecDepth 20000 in
theorem x12_element_ok {L : Nat} {a1 : Int32} {a2 : Int32} {q : mm_Q} {r : Int64} {q1 : mm_Q} (h : x12_element a1 a2 q = some (r, q1)) : mm_Runs 4 284 [.ref 52, .int a1, .int a2] (mm_wq L q) (mm_cvl r) (mm_wq L q1) := by
  refine mm_runs_of (d := 3) (L := L) rfl (by decide +kernel) rfl rfl (?_ : mm_ok mm_cvl (mm_Runs 3) 12 false cX12_element (some .long) L 0 [some (.ref 52), some (.int a1), some (.int a2)] [] q (x12_element a1 a2 q)) h
  unfold x12_element
  refine mm_ok_bl (l := [(.aload 0, 1), (.iload 1, 1), (.iload 2, 1)]) (pc' := 3) (lo' := [some (.ref 52), some (.int a1), some (.int a2)]) (st' := [.int a2, .int a1, .ref 52]) (q' := q) (P := (True) ∧ ((True) ∧ ((True) ∧ (True)))) (by decide +kernel) rfl rfl (And.intro trivial (And.intro trivial (And.intro trivial trivial))) ?_
  refine mm_ok_call (cz := mm_cvi) (j := .invokevirtual 4498) (y := 281) (as := [.ref 52, .int a1, .int a2]) (t := []) (by decide +kernel) rfl (fun _ _ h => mm_up (k := 3) (by decide) (x12_refusal_ok h)) (fun r1 q2 => ?_)
  refine mm_ok_ifCond_eq (pt := 15) (d := 9) (by decide +kernel) (by decide) (fun k3 => ?_) (fun k3 => ?_)
  · refine mm_ok_bl (l := [(.aload 0, 1), (.getfield 814, 3), (.iconst (60), 2), (.iload 1, 1), (.imul, 1), (.iload 2, 1), (.iadd, 1)]) (pc' := 25) (lo' := [some (.ref 52), some (.int a1), some (.int a2)]) (st' := [.int (((60 : Int32) * a1) + a2), .ref 73]) (q' := q2) (P := (True) ∧ ((True) ∧ ((True) ∧ ((True) ∧ ((True) ∧ ((True) ∧ ((True) ∧ (True)))))))) (by decide +kernel) rfl rfl (And.intro trivial (And.intro trivial (And.intro trivial (And.intro trivial (And.intro trivial (And.intro trivial (And.intro trivial trivial))))))) ?_
    refine mm_ok_ck (fun c4 => ?_)
    refine mm_ok_bl (l := [(.laload, 1)]) (pc' := 26) (lo' := [some (.ref 52), some (.int a1), some (.int a2)]) (st' := [.long (q2.2 73 (((60 : Int32) * a1) + a2).toNatClampNeg)]) (q' := q2) (P := (mm_ix (((60 : Int32) * a1) + a2) 360) ∧ (True)) (by decide +kernel) rfl rfl (And.intro (mm_inb_ix c4) trivial) ?_
    exact mm_ok_lret (by decide +kernel)
  · refine mm_ok_bl (l := [(.goto_w (-9223372036854775808), 3)]) (pc' := 12) (lo' := [some (.ref 52), some (.int a1), some (.int a2)]) (st' := [.long (-9223372036854775808 : Int64)]) (q' := q2) (P := (True) ∧ (True)) (by decide +kernel) rfl rfl (And.intro trivial trivial) ?_
    refine mm_ok_goto (pt := 26) (d := 14) (by decide +kernel) (by decide) ?_
    exact mm_ok_lret (by decide +kernel)
def x12_shift_h150 : Nat → Int32 → Int32 → Int32 → Int32 → mm_Q → Option (Int32 × mm_Q)
  | 0, _, _, _, _, _ => none
  | n + 1, a3, a4, a5, a6, q => (if a5 ≤ a6 then (some (a5, q)) else (mm_ck (mm_inb a6 60) (mm_ck (mm_inb ((((60 : Int32) * a3) + a4) + a6) 360) (mm_lt (mm_sj q 73 ((((60 : Int32) * a3) + a4) + a6).toNatClampNeg (q.2 74 a6.toNatClampNeg)) (fun q30 => (x12_shift_h150 n a3 a4 a5 (a6 + (1 : Int32)) q30))))))
set_option maxRecDepth 20000 in
theorem x12_shift_h150_ok {L : Nat} : ∀ (n : Nat) (a3 : Int32) (a4 : Int32) (a5 : Int32) (a6 : Int32) (q : mm_Q), mm_ok mm_cvi (mm_Runs 2) 12 false cX12_shift (some .int) L 150 [some (.ref 52), none, none, some (.int a3), some (.int a4), some (.int a5), some (.int a6)] [] q (x12_shift_h150 n a3 a4 a5 a6 q)
  | 0, _, _, _, _, _ => by
    exact mm_ok_none
  | n + 1, a3, a4, a5, a6, q => by
    unfold x12_shift_h150
    refine mm_ok_bl (l := [(.iload 6, 2), (.iload 5, 2)]) (pc' := 154) (lo' := [some (.ref 52), none, none, some (.int a3), some (.int a4), some (.int a5), some (.int a6)]) (st' := [.int a5, .int a6]) (q' := q) (P := (True) ∧ ((True) ∧ (True))) (by decide +kernel) rfl rfl (And.intro trivial (And.intro trivial trivial)) ?_
    refine mm_ok_if_icmp_ge (pt := 185) (d := 31) (by decide +kernel) (by decide) (fun k27 => ?_) (fun k27 => ?_)
    · refine mm_ok_bl (l := [(.iload 5, 2)]) (pc' := 187) (lo' := [some (.ref 52), none, none, some (.int a3), some (.int a4), some (.int a5), some (.int a6)]) (st' := [.int a5]) (q' := q) (P := (True) ∧ (True)) (by decide +kernel) rfl rfl (And.intro trivial trivial) ?_
      exact mm_ok_iret (by decide +kernel)
    · refine mm_ok_bl (l := [(.aload 0, 1), (.getfield 814, 3), (.iconst (60), 2), (.iload 3, 1), (.imul, 1), (.iload 4, 2), (.iadd, 1), (.iload 6, 2), (.iadd, 1), (.aload 0, 1), (.getfield 815, 3), (.iload 6, 2)]) (pc' := 177) (lo' := [some (.ref 52), none, none, some (.int a3), some (.int a4), some (.int a5), some (.int a6)]) (st' := [.int a6, .ref 74, .int ((((60 : Int32) * a3) + a4) + a6), .ref 73]) (q' := q) (P := (True) ∧ ((True) ∧ ((True) ∧ ((True) ∧ ((True) ∧ ((True) ∧ ((True) ∧ ((True) ∧ ((True) ∧ ((True) ∧ ((True) ∧ ((True) ∧ (True))))))))))))) (by decide +kernel) rfl rfl (And.intro trivial (And.intro trivial (And.intro trivial (And.intro trivial (And.intro trivial (And.intro trivial (And.intro trivial (And.intro trivial (And.intro trivial (And.intro trivial (And.intro trivial (And.intro trivial trivial)))))))))))) ?_
      refine mm_ok_ck (fun c28 => ?_)
      refine mm_ok_bl (l := [(.laload, 1)]) (pc' := 178) (lo' := [some (.ref 52), none, none, some (.int a3), some (.int a4), some (.int a5), some (.int a6)]) (st' := [.long (q.2 74 a6.toNatClampNeg), .int ((((60 : Int32) * a3) + a4) + a6), .ref 73]) (q' := q) (P := (mm_ix a6 60) ∧ (True)) (by decide +kernel) rfl rfl (And.intro (mm_inb_ix c28) trivial) ?_
      refine mm_ok_ck (fun c29 => ?_)
      refine mm_ok_bl (l := [(.lastore, 1)]) (pc' := 179) (lo' := [some (.ref 52), none, none, some (.int a3), some (.int a4), some (.int a5), some (.int a6)]) (st' := []) (q' := (mm_sj q 73 ((((60 : Int32) * a3) + a4) + a6).toNatClampNeg (q.2 74 a6.toNatClampNeg))) (P := (mm_ix ((((60 : Int32) * a3) + a4) + a6) 360) ∧ (True)) (by decide +kernel) rfl rfl (And.intro (mm_inb_ix c29) trivial) ?_
      refine mm_ok_lt (fun q30 => ?_)
      refine mm_ok_bl (l := [(.iinc 6 (1), 3)]) (pc' := 182) (lo' := [some (.ref 52), none, none, some (.int a3), some (.int a4), some (.int a5), some (.int (a6 + (1 : Int32)))]) (st' := []) (q' := q30) (P := (True) ∧ (True)) (by decide +kernel) rfl rfl (And.intro trivial trivial) ?_
      refine mm_ok_goto (pt := 150) (d := -32) (by decide +kernel) (by decide) ?_
      exact mm_ok_sub (lo := [some (.ref 52), none, none, some (.int a3), some (.int a4), some (.int a5), some (.int (a6 + (1 : Int32)))]) (And.intro rfl (And.intro rfl (And.intro rfl (And.intro rfl (And.intro rfl trivial))))) (x12_shift_h150_ok n a3 a4 a5 (a6 + (1 : Int32)) q30)
def x12_shift_h113 : Nat → Int32 → Int32 → Int32 → Int32 → Int32 → Int32 → mm_Q → Option (Int32 × mm_Q)
  | 0, _, _, _, _, _, _, _ => none
  | n + 1, a1, a2, a3, a4, a5, a6, q => (if a5 ≤ a6 then (x12_shift_h150 mm_fu a3 a4 a5 (0 : Int32) q) else (mm_ck (mm_inb ((((60 : Int32) * a1) + a2) + a6) 360) (mm_ck (mm_inb a6 60) (mm_lt (mm_sj q 74 a6.toNatClampNeg (q.2 73 ((((60 : Int32) * a1) + a2) + a6).toNatClampNeg)) (fun q26 => (x12_shift_h113 n a1 a2 a3 a4 a5 (a6 + (1 : Int32)) q26))))))
set_option maxRecDepth 20000 in
theorem x12_shift_h113_ok {L : Nat} : ∀ (n : Nat) (a1 : Int32) (a2 : Int32) (a3 : Int32) (a4 : Int32) (a5 : Int32) (a6 : Int32) (q : mm_Q), mm_ok mm_cvi (mm_Runs 2) 12 false cX12_shift (some .int) L 113 [some (.ref 52), some (.int a1), some (.int a2), some (.int a3), some (.int a4), some (.int a5), some (.int a6)] [] q (x12_shift_h113 n a1 a2 a3 a4 a5 a6 q)
  | 0, _, _, _, _, _, _, _ => by
    exact mm_ok_none
  | n + 1, a1, a2, a3, a4, a5, a6, q => by
    unfold x12_shift_h113
    refine mm_ok_bl (l := [(.iload 6, 2), (.iload 5, 2)]) (pc' := 117) (lo' := [some (.ref 52), some (.int a1), some (.int a2), some (.int a3), some (.int a4), some (.int a5), some (.int a6)]) (st' := [.int a5, .int a6]) (q' := q) (P := (True) ∧ ((True) ∧ (True))) (by decide +kernel) rfl rfl (And.intro trivial (And.intro trivial trivial)) ?_
    refine mm_ok_if_icmp_ge (pt := 147) (d := 30) (by decide +kernel) (by decide) (fun k23 => ?_) (fun k23 => ?_)
    · refine mm_ok_bl (l := [(.iconst (0), 1), (.istore 6, 2)]) (pc' := 150) (lo' := [some (.ref 52), some (.int a1), some (.int a2), some (.int a3), some (.int a4), some (.int a5), some (.int (0 : Int32))]) (st' := []) (q' := q) (P := (True) ∧ ((True) ∧ (True))) (by decide +kernel) rfl rfl (And.intro trivial (And.intro trivial trivial)) ?_
      exact mm_ok_sub (lo := [some (.ref 52), none, none, some (.int a3), some (.int a4), some (.int a5), some (.int (0 : Int32))]) (And.intro rfl (And.intro rfl (And.intro rfl (And.intro rfl (And.intro rfl trivial))))) (x12_shift_h150_ok mm_fu a3 a4 a5 (0 : Int32) q)
    · refine mm_ok_bl (l := [(.aload 0, 1), (.getfield 815, 3), (.iload 6, 2), (.aload 0, 1), (.getfield 814, 3), (.iconst (60), 2), (.iload 1, 1), (.imul, 1), (.iload 2, 1), (.iadd, 1), (.iload 6, 2), (.iadd, 1)]) (pc' := 139) (lo' := [some (.ref 52), some (.int a1), some (.int a2), some (.int a3), some (.int a4), some (.int a5), some (.int a6)]) (st' := [.int ((((60 : Int32) * a1) + a2) + a6), .ref 73, .int a6, .ref 74]) (q' := q) (P := (True) ∧ ((True) ∧ ((True) ∧ ((True) ∧ ((True) ∧ ((True) ∧ ((True) ∧ ((True) ∧ ((True) ∧ ((True) ∧ ((True) ∧ ((True) ∧ (True))))))))))))) (by decide +kernel) rfl rfl (And.intro trivial (And.intro trivial (And.intro trivial (And.intro trivial (And.intro trivial (And.intro trivial (And.intro trivial (And.intro trivial (And.intro trivial (And.intro trivial (And.intro trivial (And.intro trivial trivial)))))))))))) ?_
      refine mm_ok_ck (fun c24 => ?_)
      refine mm_ok_bl (l := [(.laload, 1)]) (pc' := 140) (lo' := [some (.ref 52), some (.int a1), some (.int a2), some (.int a3), some (.int a4), some (.int a5), some (.int a6)]) (st' := [.long (q.2 73 ((((60 : Int32) * a1) + a2) + a6).toNatClampNeg), .int a6, .ref 74]) (q' := q) (P := (mm_ix ((((60 : Int32) * a1) + a2) + a6) 360) ∧ (True)) (by decide +kernel) rfl rfl (And.intro (mm_inb_ix c24) trivial) ?_
      refine mm_ok_ck (fun c25 => ?_)
      refine mm_ok_bl (l := [(.lastore, 1)]) (pc' := 141) (lo' := [some (.ref 52), some (.int a1), some (.int a2), some (.int a3), some (.int a4), some (.int a5), some (.int a6)]) (st' := []) (q' := (mm_sj q 74 a6.toNatClampNeg (q.2 73 ((((60 : Int32) * a1) + a2) + a6).toNatClampNeg))) (P := (mm_ix a6 60) ∧ (True)) (by decide +kernel) rfl rfl (And.intro (mm_inb_ix c25) trivial) ?_
      refine mm_ok_lt (fun q26 => ?_)
      refine mm_ok_bl (l := [(.iinc 6 (1), 3)]) (pc' := 144) (lo' := [some (.ref 52), some (.int a1), some (.int a2), some (.int a3), some (.int a4), some (.int a5), some (.int (a6 + (1 : Int32)))]) (st' := []) (q' := q26) (P := (True) ∧ (True)) (by decide +kernel) rfl rfl (And.intro trivial trivial) ?_
      refine mm_ok_goto (pt := 113) (d := -31) (by decide +kernel) (by decide) ?_
      exact mm_ok_sub (lo := [some (.ref 52), some (.int a1), some (.int a2), some (.int a3), some (.int a4), some (.int a5), some (.int (a6 + (1 : Int32)))]) (And.intro rfl (And.intro rfl (And.intro rfl (And.intro rfl (And.intro rfl (And.intro rfl (And.intro rfl trivial))))))) (x12_shift_h113_ok n a1 a2 a3 a4 a5 (a6 + (1 : Int32)) q26)
def x12_shift (a1 : Int32) (a2 : Int32) (a3 : Int32) (a4 : Int32) (a5 : Int32) (q : mm_Q) : Option (Int32 × mm_Q) := (mm_cl (x12_isShelf a1 q) (fun r1 q2 => (if r1 = 0 then (some ((-1 : Int32), q2)) else (mm_cl (x12_isShelf a3 q2) (fun r4 q5 => (if r4 = 0 then (some ((-1 : Int32), q5)) else (mm_ck (mm_inb a1 6) (if (q5.1 71 a1.toNatClampNeg) < 0 then (some ((-11 : Int32), q5)) else (mm_ck (mm_inb a3 6) (if 0 ≤ (q5.1 71 a3.toNatClampNeg) then (mm_ck (mm_inb a1 6) (if (q5.1 71 a1.toNatClampNeg) < (50 : Int32) then (some ((-12 : Int32), q5)) else (mm_ck (mm_inb a1 6) (mm_ck (mm_inb a3 6) (if (q5.1 71 a1.toNatClampNeg) = (q5.1 71 a3.toNatClampNeg) then (if a5 < 0 then (some ((-13 : Int32), q5)) else (if a2 < 0 then (some ((-13 : Int32), q5)) else (if a4 < 0 then (some ((-13 : Int32), q5)) else (mm_ck (mm_inb a1 6) (if ((q5.1 72 a1.toNatClampNeg) - a5) < a2 then (some ((-13 : Int32), q5)) else (mm_ck (mm_inb a3 6) (if a4 ≤ ((q5.1 72 a3.toNatClampNeg) - a5) then (x12_shift_h113 mm_fu a1 a2 a3 a4 a5 (0 : Int32) q5) else (some ((-13 : Int32), q5))))))))) else (some ((-12 : Int32), q5))))))) else (some ((-11 : Int32), q5))))))))))))
set_option maxRecDepth 20000 in
theorem x12_shift_ok {L : Nat} {a1 : Int32} {a2 : Int32} {a3 : Int32} {a4 : Int32} {a5 : Int32} {q : mm_Q} {r : Int32} {q1 : mm_Q} (h : x12_shift a1 a2 a3 a4 a5 q = some (r, q1)) : mm_Runs 3 285 [.ref 52, .int a1, .int a2, .int a3, .int a4, .int a5] (mm_wq L q) (mm_cvi r) (mm_wq L q1) := by
  refine mm_runs_of (d := 2) (L := L) rfl (by decide +kernel) rfl rfl (?_ : mm_ok mm_cvi (mm_Runs 2) 12 false cX12_shift (some .int) L 0 [some (.ref 52), some (.int a1), some (.int a2), some (.int a3), some (.int a4), some (.int a5), none] [] q (x12_shift a1 a2 a3 a4 a5 q)) h
  unfold x12_shift
  refine mm_ok_bl (l := [(.iload 1, 1)]) (pc' := 1) (lo' := [some (.ref 52), some (.int a1), some (.int a2), some (.int a3), some (.int a4), some (.int a5), none]) (st' := [.int a1]) (q' := q) (P := (True) ∧ (True)) (by decide +kernel) rfl rfl (And.intro trivial trivial) ?_
  refine mm_ok_call (cz := mm_cvi) (j := .invokestatic 4449) (y := 278) (as := [.int a1]) (t := []) (by decide +kernel) rfl (fun _ _ h => mm_up (k := 2) (by decide) (x12_isShelf_ok h)) (fun r1 q2 => ?_)
  refine mm_ok_ifCond_eq (pt := 14) (d := 10) (by decide +kernel) (by decide) (fun k3 => ?_) (fun k3 => ?_)
  · refine mm_ok_bl (l := [(.iconst (-1), 1)]) (pc' := 15) (lo' := [some (.ref 52), some (.int a1), some (.int a2), some (.int a3), some (.int a4), some (.int a5), none]) (st' := [.int (-1 : Int32)]) (q' := q2) (P := (True) ∧ (True)) (by decide +kernel) rfl rfl (And.intro trivial trivial) ?_
    exact mm_ok_iret (by decide +kernel)
  · refine mm_ok_bl (l := [(.iload 3, 1)]) (pc' := 8) (lo' := [some (.ref 52), some (.int a1), some (.int a2), some (.int a3), some (.int a4), some (.int a5), none]) (st' := [.int a3]) (q' := q2) (P := (True) ∧ (True)) (by decide +kernel) rfl rfl (And.intro trivial trivial) ?_
    refine mm_ok_call (cz := mm_cvi) (j := .invokestatic 4449) (y := 278) (as := [.int a3]) (t := []) (by decide +kernel) rfl (fun _ _ h => mm_up (k := 2) (by decide) (x12_isShelf_ok h)) (fun r4 q5 => ?_)
    refine mm_ok_ifCond_ne (pt := 16) (d := 5) (by decide +kernel) (by decide) (fun k6 => ?_) (fun k6 => ?_)
    · refine mm_ok_bl (l := [(.iconst (-1), 1)]) (pc' := 15) (lo' := [some (.ref 52), some (.int a1), some (.int a2), some (.int a3), some (.int a4), some (.int a5), none]) (st' := [.int (-1 : Int32)]) (q' := q5) (P := (True) ∧ (True)) (by decide +kernel) rfl rfl (And.intro trivial trivial) ?_
      exact mm_ok_iret (by decide +kernel)
    · refine mm_ok_bl (l := [(.aload 0, 1), (.getfield 812, 3), (.iload 1, 1)]) (pc' := 21) (lo' := [some (.ref 52), some (.int a1), some (.int a2), some (.int a3), some (.int a4), some (.int a5), none]) (st' := [.int a1, .ref 71]) (q' := q5) (P := (True) ∧ ((True) ∧ ((True) ∧ (True)))) (by decide +kernel) rfl rfl (And.intro trivial (And.intro trivial (And.intro trivial trivial))) ?_
      refine mm_ok_ck (fun c7 => ?_)
      refine mm_ok_bl (l := [(.iaload, 1)]) (pc' := 22) (lo' := [some (.ref 52), some (.int a1), some (.int a2), some (.int a3), some (.int a4), some (.int a5), none]) (st' := [.int (q5.1 71 a1.toNatClampNeg)]) (q' := q5) (P := (mm_ix a1 6) ∧ (True)) (by decide +kernel) rfl rfl (And.intro (mm_inb_ix c7) trivial) ?_
      refine mm_ok_ifCond_lt (pt := 34) (d := 12) (by decide +kernel) (by decide) (fun k8 => ?_) (fun k8 => ?_)
      · refine mm_ok_bl (l := [(.iconst (-11), 2)]) (pc' := 36) (lo' := [some (.ref 52), some (.int a1), some (.int a2), some (.int a3), some (.int a4), some (.int a5), none]) (st' := [.int (-11 : Int32)]) (q' := q5) (P := (True) ∧ (True)) (by decide +kernel) rfl rfl (And.intro trivial trivial) ?_
        exact mm_ok_iret (by decide +kernel)
      · refine mm_ok_bl (l := [(.aload 0, 1), (.getfield 812, 3), (.iload 3, 1)]) (pc' := 30) (lo' := [some (.ref 52), some (.int a1), some (.int a2), some (.int a3), some (.int a4), some (.int a5), none]) (st' := [.int a3, .ref 71]) (q' := q5) (P := (True) ∧ ((True) ∧ ((True) ∧ (True)))) (by decide +kernel) rfl rfl (And.intro trivial (And.intro trivial (And.intro trivial trivial))) ?_
        refine mm_ok_ck (fun c9 => ?_)
        refine mm_ok_bl (l := [(.iaload, 1)]) (pc' := 31) (lo' := [some (.ref 52), some (.int a1), some (.int a2), some (.int a3), some (.int a4), some (.int a5), none]) (st' := [.int (q5.1 71 a3.toNatClampNeg)]) (q' := q5) (P := (mm_ix a3 6) ∧ (True)) (by decide +kernel) rfl rfl (And.intro (mm_inb_ix c9) trivial) ?_
        refine mm_ok_ifCond_ge (pt := 37) (d := 6) (by decide +kernel) (by decide) (fun k10 => ?_) (fun k10 => ?_)
        · refine mm_ok_bl (l := [(.aload 0, 1), (.getfield 812, 3), (.iload 1, 1)]) (pc' := 42) (lo' := [some (.ref 52), some (.int a1), some (.int a2), some (.int a3), some (.int a4), some (.int a5), none]) (st' := [.int a1, .ref 71]) (q' := q5) (P := (True) ∧ ((True) ∧ ((True) ∧ (True)))) (by decide +kernel) rfl rfl (And.intro trivial (And.intro trivial (And.intro trivial trivial))) ?_
          refine mm_ok_ck (fun c11 => ?_)
          refine mm_ok_bl (l := [(.iaload, 1), (.iconst (50), 2)]) (pc' := 45) (lo' := [some (.ref 52), some (.int a1), some (.int a2), some (.int a3), some (.int a4), some (.int a5), none]) (st' := [.int (50 : Int32), .int (q5.1 71 a1.toNatClampNeg)]) (q' := q5) (P := (mm_ix a1 6) ∧ ((True) ∧ (True))) (by decide +kernel) rfl rfl (And.intro (mm_inb_ix c11) (And.intro trivial trivial)) ?_
          refine mm_ok_if_icmp_lt (pt := 63) (d := 18) (by decide +kernel) (by decide) (fun k12 => ?_) (fun k12 => ?_)
          · refine mm_ok_bl (l := [(.iconst (-12), 2)]) (pc' := 65) (lo' := [some (.ref 52), some (.int a1), some (.int a2), some (.int a3), some (.int a4), some (.int a5), none]) (st' := [.int (-12 : Int32)]) (q' := q5) (P := (True) ∧ (True)) (by decide +kernel) rfl rfl (And.intro trivial trivial) ?_
            exact mm_ok_iret (by decide +kernel)
          · refine mm_ok_bl (l := [(.aload 0, 1), (.getfield 812, 3), (.iload 1, 1)]) (pc' := 53) (lo' := [some (.ref 52), some (.int a1), some (.int a2), some (.int a3), some (.int a4), some (.int a5), none]) (st' := [.int a1, .ref 71]) (q' := q5) (P := (True) ∧ ((True) ∧ ((True) ∧ (True)))) (by decide +kernel) rfl rfl (And.intro trivial (And.intro trivial (And.intro trivial trivial))) ?_
            refine mm_ok_ck (fun c13 => ?_)
            refine mm_ok_bl (l := [(.iaload, 1), (.aload 0, 1), (.getfield 812, 3), (.iload 3, 1)]) (pc' := 59) (lo' := [some (.ref 52), some (.int a1), some (.int a2), some (.int a3), some (.int a4), some (.int a5), none]) (st' := [.int a3, .ref 71, .int (q5.1 71 a1.toNatClampNeg)]) (q' := q5) (P := (mm_ix a1 6) ∧ ((True) ∧ ((True) ∧ ((True) ∧ (True))))) (by decide +kernel) rfl rfl (And.intro (mm_inb_ix c13) (And.intro trivial (And.intro trivial (And.intro trivial trivial)))) ?_
            refine mm_ok_ck (fun c14 => ?_)
            refine mm_ok_bl (l := [(.iaload, 1)]) (pc' := 60) (lo' := [some (.ref 52), some (.int a1), some (.int a2), some (.int a3), some (.int a4), some (.int a5), none]) (st' := [.int (q5.1 71 a3.toNatClampNeg), .int (q5.1 71 a1.toNatClampNeg)]) (q' := q5) (P := (mm_ix a3 6) ∧ (True)) (by decide +kernel) rfl rfl (And.intro (mm_inb_ix c14) trivial) ?_
            refine mm_ok_if_icmp_eq (pt := 66) (d := 6) (by decide +kernel) (by decide) (fun k15 => ?_) (fun k15 => ?_)
            · refine mm_ok_bl (l := [(.iload 5, 2)]) (pc' := 68) (lo' := [some (.ref 52), some (.int a1), some (.int a2), some (.int a3), some (.int a4), some (.int a5), none]) (st' := [.int a5]) (q' := q5) (P := (True) ∧ (True)) (by decide +kernel) rfl rfl (And.intro trivial trivial) ?_
              refine mm_ok_ifCond_lt (pt := 107) (d := 39) (by decide +kernel) (by decide) (fun k16 => ?_) (fun k16 => ?_)
              · refine mm_ok_bl (l := [(.iconst (-13), 2)]) (pc' := 109) (lo' := [some (.ref 52), some (.int a1), some (.int a2), some (.int a3), some (.int a4), some (.int a5), none]) (st' := [.int (-13 : Int32)]) (q' := q5) (P := (True) ∧ (True)) (by decide +kernel) rfl rfl (And.intro trivial trivial) ?_
                exact mm_ok_iret (by decide +kernel)
              · refine mm_ok_bl (l := [(.iload 2, 1)]) (pc' := 72) (lo' := [some (.ref 52), some (.int a1), some (.int a2), some (.int a3), some (.int a4), some (.int a5), none]) (st' := [.int a2]) (q' := q5) (P := (True) ∧ (True)) (by decide +kernel) rfl rfl (And.intro trivial trivial) ?_
                refine mm_ok_ifCond_lt (pt := 107) (d := 35) (by decide +kernel) (by decide) (fun k17 => ?_) (fun k17 => ?_)
                · refine mm_ok_bl (l := [(.iconst (-13), 2)]) (pc' := 109) (lo' := [some (.ref 52), some (.int a1), some (.int a2), some (.int a3), some (.int a4), some (.int a5), none]) (st' := [.int (-13 : Int32)]) (q' := q5) (P := (True) ∧ (True)) (by decide +kernel) rfl rfl (And.intro trivial trivial) ?_
                  exact mm_ok_iret (by decide +kernel)
                · refine mm_ok_bl (l := [(.iload 4, 2)]) (pc' := 77) (lo' := [some (.ref 52), some (.int a1), some (.int a2), some (.int a3), some (.int a4), some (.int a5), none]) (st' := [.int a4]) (q' := q5) (P := (True) ∧ (True)) (by decide +kernel) rfl rfl (And.intro trivial trivial) ?_
                  refine mm_ok_ifCond_lt (pt := 107) (d := 30) (by decide +kernel) (by decide) (fun k18 => ?_) (fun k18 => ?_)
                  · refine mm_ok_bl (l := [(.iconst (-13), 2)]) (pc' := 109) (lo' := [some (.ref 52), some (.int a1), some (.int a2), some (.int a3), some (.int a4), some (.int a5), none]) (st' := [.int (-13 : Int32)]) (q' := q5) (P := (True) ∧ (True)) (by decide +kernel) rfl rfl (And.intro trivial trivial) ?_
                    exact mm_ok_iret (by decide +kernel)
                  · refine mm_ok_bl (l := [(.iload 2, 1), (.aload 0, 1), (.getfield 813, 3), (.iload 1, 1)]) (pc' := 86) (lo' := [some (.ref 52), some (.int a1), some (.int a2), some (.int a3), some (.int a4), some (.int a5), none]) (st' := [.int a1, .ref 72, .int a2]) (q' := q5) (P := (True) ∧ ((True) ∧ ((True) ∧ ((True) ∧ (True))))) (by decide +kernel) rfl rfl (And.intro trivial (And.intro trivial (And.intro trivial (And.intro trivial trivial)))) ?_
                    refine mm_ok_ck (fun c19 => ?_)
                    refine mm_ok_bl (l := [(.iaload, 1), (.iload 5, 2), (.isub, 1)]) (pc' := 90) (lo' := [some (.ref 52), some (.int a1), some (.int a2), some (.int a3), some (.int a4), some (.int a5), none]) (st' := [.int ((q5.1 72 a1.toNatClampNeg) - a5), .int a2]) (q' := q5) (P := (mm_ix a1 6) ∧ ((True) ∧ ((True) ∧ (True)))) (by decide +kernel) rfl rfl (And.intro (mm_inb_ix c19) (And.intro trivial (And.intro trivial trivial))) ?_
                    refine mm_ok_if_icmp_gt (pt := 107) (d := 17) (by decide +kernel) (by decide) (fun k20 => ?_) (fun k20 => ?_)
                    · refine mm_ok_bl (l := [(.iconst (-13), 2)]) (pc' := 109) (lo' := [some (.ref 52), some (.int a1), some (.int a2), some (.int a3), some (.int a4), some (.int a5), none]) (st' := [.int (-13 : Int32)]) (q' := q5) (P := (True) ∧ (True)) (by decide +kernel) rfl rfl (And.intro trivial trivial) ?_
                      exact mm_ok_iret (by decide +kernel)
                    · refine mm_ok_bl (l := [(.iload 4, 2), (.aload 0, 1), (.getfield 813, 3), (.iload 3, 1)]) (pc' := 100) (lo' := [some (.ref 52), some (.int a1), some (.int a2), some (.int a3), some (.int a4), some (.int a5), none]) (st' := [.int a3, .ref 72, .int a4]) (q' := q5) (P := (True) ∧ ((True) ∧ ((True) ∧ ((True) ∧ (True))))) (by decide +kernel) rfl rfl (And.intro trivial (And.intro trivial (And.intro trivial (And.intro trivial trivial)))) ?_
                      refine mm_ok_ck (fun c21 => ?_)
                      refine mm_ok_bl (l := [(.iaload, 1), (.iload 5, 2), (.isub, 1)]) (pc' := 104) (lo' := [some (.ref 52), some (.int a1), some (.int a2), some (.int a3), some (.int a4), some (.int a5), none]) (st' := [.int ((q5.1 72 a3.toNatClampNeg) - a5), .int a4]) (q' := q5) (P := (mm_ix a3 6) ∧ ((True) ∧ ((True) ∧ (True)))) (by decide +kernel) rfl rfl (And.intro (mm_inb_ix c21) (And.intro trivial (And.intro trivial trivial))) ?_
                      refine mm_ok_if_icmp_le (pt := 110) (d := 6) (by decide +kernel) (by decide) (fun k22 => ?_) (fun k22 => ?_)
                      · refine mm_ok_bl (l := [(.iconst (0), 1), (.istore 6, 2)]) (pc' := 113) (lo' := [some (.ref 52), some (.int a1), some (.int a2), some (.int a3), some (.int a4), some (.int a5), some (.int (0 : Int32))]) (st' := []) (q' := q5) (P := (True) ∧ ((True) ∧ (True))) (by decide +kernel) rfl rfl (And.intro trivial (And.intro trivial trivial)) ?_
                        exact mm_ok_sub (lo := [some (.ref 52), some (.int a1), some (.int a2), some (.int a3), some (.int a4), some (.int a5), some (.int (0 : Int32))]) (And.intro rfl (And.intro rfl (And.intro rfl (And.intro rfl (And.intro rfl (And.intro rfl (And.intro rfl trivial))))))) (x12_shift_h113_ok mm_fu a1 a2 a3 a4 a5 (0 : Int32) q5)
                      · refine mm_ok_bl (l := [(.iconst (-13), 2)]) (pc' := 109) (lo' := [some (.ref 52), some (.int a1), some (.int a2), some (.int a3), some (.int a4), some (.int a5), none]) (st' := [.int (-13 : Int32)]) (q' := q5) (P := (True) ∧ (True)) (by decide +kernel) rfl rfl (And.intro trivial trivial) ?_
                        exact mm_ok_iret (by decide +kernel)
            · refine mm_ok_bl (l := [(.iconst (-12), 2)]) (pc' := 65) (lo' := [some (.ref 52), some (.int a1), some (.int a2), some (.int a3), some (.int a4), some (.int a5), none]) (st' := [.int (-12 : Int32)]) (q' := q5) (P := (True) ∧ (True)) (by decide +kernel) rfl rfl (And.intro trivial trivial) ?_
              exact mm_ok_iret (by decide +kernel)
        · refine mm_ok_bl (l := [(.iconst (-11), 2)]) (pc' := 36) (lo' := [some (.ref 52), some (.int a1), some (.int a2), some (.int a3), some (.int a4), some (.int a5), none]) (st' := [.int (-11 : Int32)]) (q' := q5) (P := (True) ∧ (True)) (by decide +kernel) rfl rfl (And.intro trivial trivial) ?_
          exact mm_ok_iret (by decide +kernel)
def x12_taken_j75 (a1 : Int32) (a2 : Int32) (a3 : Int32) (q : mm_Q) : Option (Int32 × mm_Q) := (if a3 = a2 then (mm_ck (mm_inb a1 6) (mm_cl (x12_kindOf (q.1 71 a1.toNatClampNeg) q) (fun r20 q21 => (some (r20, q21))))) else (some ((-12 : Int32), q)))
set_option maxRecDepth 20000 in
theorem x12_taken_j75_ok {L : Nat} (a1 : Int32) (a2 : Int32) (a3 : Int32) (q : mm_Q) : mm_ok mm_cvi (mm_Runs 2) 12 false cX12_taken (some .int) L 75 [some (.ref 52), some (.int a1), some (.int a2), some (.int a3)] [] q (x12_taken_j75 a1 a2 a3 q) := by
  unfold x12_taken_j75
  refine mm_ok_bl (l := [(.iload 3, 1), (.iload 2, 1)]) (pc' := 77) (lo' := [some (.ref 52), some (.int a1), some (.int a2), some (.int a3)]) (st' := [.int a2, .int a3]) (q' := q) (P := (True) ∧ ((True) ∧ (True))) (by decide +kernel) rfl rfl (And.intro trivial (And.intro trivial trivial)) ?_
  refine mm_ok_if_icmp_ne (pt := 93) (d := 16) (by decide +kernel) (by decide) (fun k18 => ?_) (fun k18 => ?_)
  · refine mm_ok_bl (l := [(.aload 0, 1), (.aload 0, 1), (.getfield 812, 3), (.iload 1, 1)]) (pc' := 86) (lo' := [some (.ref 52), some (.int a1), some (.int a2), some (.int a3)]) (st' := [.int a1, .ref 71, .ref 52]) (q' := q) (P := (True) ∧ ((True) ∧ ((True) ∧ ((True) ∧ (True))))) (by decide +kernel) rfl rfl (And.intro trivial (And.intro trivial (And.intro trivial (And.intro trivial trivial)))) ?_
    refine mm_ok_ck (fun c19 => ?_)
    refine mm_ok_bl (l := [(.iaload, 1)]) (pc' := 87) (lo' := [some (.ref 52), some (.int a1), some (.int a2), some (.int a3)]) (st' := [.int (q.1 71 a1.toNatClampNeg), .ref 52]) (q' := q) (P := (mm_ix a1 6) ∧ (True)) (by decide +kernel) rfl rfl (And.intro (mm_inb_ix c19) trivial) ?_
    refine mm_ok_call (cz := mm_cvi) (j := .invokevirtual 4289) (y := 268) (as := [.ref 52, .int (q.1 71 a1.toNatClampNeg)]) (t := []) (by decide +kernel) rfl (fun _ _ h => mm_up (k := 1) (by decide) (x12_kindOf_ok h)) (fun r20 q21 => ?_)
    refine mm_ok_goto (pt := 95) (d := 5) (by decide +kernel) (by decide) ?_
    exact mm_ok_iret (by decide +kernel)
  · refine mm_ok_bl (l := [(.iconst (-12), 2)]) (pc' := 95) (lo' := [some (.ref 52), some (.int a1), some (.int a2), some (.int a3)]) (st' := [.int (-12 : Int32)]) (q' := q) (P := (True) ∧ (True)) (by decide +kernel) rfl rfl (And.intro trivial trivial) ?_
    exact mm_ok_iret (by decide +kernel)
def x12_taken_h58 : Nat → Int32 → Int32 → Int32 → mm_Q → Option (Int32 × mm_Q)
  | 0, _, _, _, _ => none
  | n + 1, a1, a2, a3, q => (if a3 = a2 then (x12_taken_j75 a1 a2 a3 q) else (if a3 ≤ 0 then (x12_taken_j75 a1 a2 a3 q) else (mm_cl (x12_above a3 q) (fun r16 q17 => (x12_taken_h58 n a1 a2 r16 q17)))))
set_option maxRecDepth 20000 in
theorem x12_taken_h58_ok {L : Nat} : ∀ (n : Nat) (a1 : Int32) (a2 : Int32) (a3 : Int32) (q : mm_Q), mm_ok mm_cvi (mm_Runs 2) 12 false cX12_taken (some .int) L 58 [some (.ref 52), some (.int a1), some (.int a2), some (.int a3)] [] q (x12_taken_h58 n a1 a2 a3 q)
  | 0, _, _, _, _ => by
    exact mm_ok_none
  | n + 1, a1, a2, a3, q => by
    unfold x12_taken_h58
    refine mm_ok_bl (l := [(.iload 3, 1), (.iload 2, 1)]) (pc' := 60) (lo' := [some (.ref 52), some (.int a1), some (.int a2), some (.int a3)]) (st' := [.int a2, .int a3]) (q' := q) (P := (True) ∧ ((True) ∧ (True))) (by decide +kernel) rfl rfl (And.intro trivial (And.intro trivial trivial)) ?_
    refine mm_ok_if_icmp_eq (pt := 75) (d := 15) (by decide +kernel) (by decide) (fun k14 => ?_) (fun k14 => ?_)
    · exact mm_ok_sub (lo := [some (.ref 52), some (.int a1), some (.int a2), some (.int a3)]) (And.intro rfl (And.intro rfl (And.intro rfl (And.intro rfl trivial)))) (x12_taken_j75_ok a1 a2 a3 q)
    · refine mm_ok_bl (l := [(.iload 3, 1)]) (pc' := 64) (lo' := [some (.ref 52), some (.int a1), some (.int a2), some (.int a3)]) (st' := [.int a3]) (q' := q) (P := (True) ∧ (True)) (by decide +kernel) rfl rfl (And.intro trivial trivial) ?_
      refine mm_ok_ifCond_le (pt := 75) (d := 11) (by decide +kernel) (by decide) (fun k15 => ?_) (fun k15 => ?_)
      · exact mm_ok_sub (lo := [some (.ref 52), some (.int a1), some (.int a2), some (.int a3)]) (And.intro rfl (And.intro rfl (And.intro rfl (And.intro rfl trivial)))) (x12_taken_j75_ok a1 a2 a3 q)
      · refine mm_ok_bl (l := [(.iload 3, 1)]) (pc' := 68) (lo' := [some (.ref 52), some (.int a1), some (.int a2), some (.int a3)]) (st' := [.int a3]) (q' := q) (P := (True) ∧ (True)) (by decide +kernel) rfl rfl (And.intro trivial trivial) ?_
        refine mm_ok_call (cz := mm_cvi) (j := .invokestatic 4321) (y := 270) (as := [.int a3]) (t := []) (by decide +kernel) rfl (fun _ _ h => mm_up (k := 1) (by decide) (x12_above_ok h)) (fun r16 q17 => ?_)
        refine mm_ok_bl (l := [(.istore 3, 1)]) (pc' := 72) (lo' := [some (.ref 52), some (.int a1), some (.int a2), some (.int r16)]) (st' := []) (q' := q17) (P := (True) ∧ (True)) (by decide +kernel) rfl rfl (And.intro trivial trivial) ?_
        refine mm_ok_goto (pt := 58) (d := -14) (by decide +kernel) (by decide) ?_
        exact mm_ok_sub (lo := [some (.ref 52), some (.int a1), some (.int a2), some (.int r16)]) (And.intro rfl (And.intro rfl (And.intro rfl (And.intro rfl trivial)))) (x12_taken_h58_ok n a1 a2 r16 q17)
def x12_taken (a1 : Int32) (a2 : Int32) (q : mm_Q) : Option (Int32 × mm_Q) := (mm_cl (x12_isShelf a1 q) (fun r1 q2 => (if r1 = 0 then (some ((-1 : Int32), q2)) else (mm_cl (x12_within a2.toInt64 (0 : Int64) (7 : Int64) q2) (fun r4 q5 => (if r4 = 0 then (some ((-1 : Int32), q5)) else (mm_ck (mm_inb a1 6) (if 0 ≤ (q5.1 71 a1.toNatClampNeg) then (mm_ck (mm_inb a1 6) (if (q5.1 71 a1.toNatClampNeg) < (50 : Int32) then (mm_ck (mm_inb a1 6) (mm_cl (x12_kindOf (q5.1 71 a1.toNatClampNeg) q5) (fun r12 q13 => (x12_taken_h58 mm_fu a1 a2 r12 q13)))) else (some ((-12 : Int32), q5)))) else (some ((-11 : Int32), q5))))))))))
set_option maxRecDepth 20000 in
theorem x12_taken_ok {L : Nat} {a1 : Int32} {a2 : Int32} {q : mm_Q} {r : Int32} {q1 : mm_Q} (h : x12_taken a1 a2 q = some (r, q1)) : mm_Runs 3 286 [.ref 52, .int a1, .int a2] (mm_wq L q) (mm_cvi r) (mm_wq L q1) := by
  refine mm_runs_of (d := 2) (L := L) rfl (by decide +kernel) rfl rfl (?_ : mm_ok mm_cvi (mm_Runs 2) 12 false cX12_taken (some .int) L 0 [some (.ref 52), some (.int a1), some (.int a2), none] [] q (x12_taken a1 a2 q)) h
  unfold x12_taken
  refine mm_ok_bl (l := [(.iload 1, 1)]) (pc' := 1) (lo' := [some (.ref 52), some (.int a1), some (.int a2), none]) (st' := [.int a1]) (q' := q) (P := (True) ∧ (True)) (by decide +kernel) rfl rfl (And.intro trivial trivial) ?_
  refine mm_ok_call (cz := mm_cvi) (j := .invokestatic 4449) (y := 278) (as := [.int a1]) (t := []) (by decide +kernel) rfl (fun _ _ h => mm_up (k := 2) (by decide) (x12_isShelf_ok h)) (fun r1 q2 => ?_)
  refine mm_ok_ifCond_eq (pt := 19) (d := 15) (by decide +kernel) (by decide) (fun k3 => ?_) (fun k3 => ?_)
  · refine mm_ok_bl (l := [(.iconst (-1), 1)]) (pc' := 20) (lo' := [some (.ref 52), some (.int a1), some (.int a2), none]) (st' := [.int (-1 : Int32)]) (q' := q2) (P := (True) ∧ (True)) (by decide +kernel) rfl rfl (And.intro trivial trivial) ?_
    exact mm_ok_iret (by decide +kernel)
  · refine mm_ok_bl (l := [(.iload 2, 1), (.i2l, 1), (.goto_w (0), 1), (.goto_w (7), 3)]) (pc' := 13) (lo' := [some (.ref 52), some (.int a1), some (.int a2), none]) (st' := [.long (7 : Int64), .long (0 : Int64), .long a2.toInt64]) (q' := q2) (P := (True) ∧ ((True) ∧ ((True) ∧ ((True) ∧ (True))))) (by decide +kernel) rfl rfl (And.intro trivial (And.intro trivial (And.intro trivial (And.intro trivial trivial)))) ?_
    refine mm_ok_call (cz := mm_cvi) (j := .invokestatic 3027) (y := 189) (as := [.long a2.toInt64, .long (0 : Int64), .long (7 : Int64)]) (t := []) (by decide +kernel) rfl (fun _ _ h => mm_up (k := 1) (by decide) (x12_within_ok h)) (fun r4 q5 => ?_)
    refine mm_ok_ifCond_ne (pt := 21) (d := 5) (by decide +kernel) (by decide) (fun k6 => ?_) (fun k6 => ?_)
    · refine mm_ok_bl (l := [(.iconst (-1), 1)]) (pc' := 20) (lo' := [some (.ref 52), some (.int a1), some (.int a2), none]) (st' := [.int (-1 : Int32)]) (q' := q5) (P := (True) ∧ (True)) (by decide +kernel) rfl rfl (And.intro trivial trivial) ?_
      exact mm_ok_iret (by decide +kernel)
    · refine mm_ok_bl (l := [(.aload 0, 1), (.getfield 812, 3), (.iload 1, 1)]) (pc' := 26) (lo' := [some (.ref 52), some (.int a1), some (.int a2), none]) (st' := [.int a1, .ref 71]) (q' := q5) (P := (True) ∧ ((True) ∧ ((True) ∧ (True)))) (by decide +kernel) rfl rfl (And.intro trivial (And.intro trivial (And.intro trivial trivial))) ?_
      refine mm_ok_ck (fun c7 => ?_)
      refine mm_ok_bl (l := [(.iaload, 1)]) (pc' := 27) (lo' := [some (.ref 52), some (.int a1), some (.int a2), none]) (st' := [.int (q5.1 71 a1.toNatClampNeg)]) (q' := q5) (P := (mm_ix a1 6) ∧ (True)) (by decide +kernel) rfl rfl (And.intro (mm_inb_ix c7) trivial) ?_
      refine mm_ok_ifCond_ge (pt := 33) (d := 6) (by decide +kernel) (by decide) (fun k8 => ?_) (fun k8 => ?_)
      · refine mm_ok_bl (l := [(.aload 0, 1), (.getfield 812, 3), (.iload 1, 1)]) (pc' := 38) (lo' := [some (.ref 52), some (.int a1), some (.int a2), none]) (st' := [.int a1, .ref 71]) (q' := q5) (P := (True) ∧ ((True) ∧ ((True) ∧ (True)))) (by decide +kernel) rfl rfl (And.intro trivial (And.intro trivial (And.intro trivial trivial))) ?_
        refine mm_ok_ck (fun c9 => ?_)
        refine mm_ok_bl (l := [(.iaload, 1), (.iconst (50), 2)]) (pc' := 41) (lo' := [some (.ref 52), some (.int a1), some (.int a2), none]) (st' := [.int (50 : Int32), .int (q5.1 71 a1.toNatClampNeg)]) (q' := q5) (P := (mm_ix a1 6) ∧ ((True) ∧ (True))) (by decide +kernel) rfl rfl (And.intro (mm_inb_ix c9) (And.intro trivial trivial)) ?_
        refine mm_ok_if_icmp_lt (pt := 47) (d := 6) (by decide +kernel) (by decide) (fun k10 => ?_) (fun k10 => ?_)
        · refine mm_ok_bl (l := [(.aload 0, 1), (.aload 0, 1), (.getfield 812, 3), (.iload 1, 1)]) (pc' := 53) (lo' := [some (.ref 52), some (.int a1), some (.int a2), none]) (st' := [.int a1, .ref 71, .ref 52]) (q' := q5) (P := (True) ∧ ((True) ∧ ((True) ∧ ((True) ∧ (True))))) (by decide +kernel) rfl rfl (And.intro trivial (And.intro trivial (And.intro trivial (And.intro trivial trivial)))) ?_
          refine mm_ok_ck (fun c11 => ?_)
          refine mm_ok_bl (l := [(.iaload, 1)]) (pc' := 54) (lo' := [some (.ref 52), some (.int a1), some (.int a2), none]) (st' := [.int (q5.1 71 a1.toNatClampNeg), .ref 52]) (q' := q5) (P := (mm_ix a1 6) ∧ (True)) (by decide +kernel) rfl rfl (And.intro (mm_inb_ix c11) trivial) ?_
          refine mm_ok_call (cz := mm_cvi) (j := .invokevirtual 4289) (y := 268) (as := [.ref 52, .int (q5.1 71 a1.toNatClampNeg)]) (t := []) (by decide +kernel) rfl (fun _ _ h => mm_up (k := 1) (by decide) (x12_kindOf_ok h)) (fun r12 q13 => ?_)
          refine mm_ok_bl (l := [(.istore 3, 1)]) (pc' := 58) (lo' := [some (.ref 52), some (.int a1), some (.int a2), some (.int r12)]) (st' := []) (q' := q13) (P := (True) ∧ (True)) (by decide +kernel) rfl rfl (And.intro trivial trivial) ?_
          exact mm_ok_sub (lo := [some (.ref 52), some (.int a1), some (.int a2), some (.int r12)]) (And.intro rfl (And.intro rfl (And.intro rfl (And.intro rfl trivial)))) (x12_taken_h58_ok mm_fu a1 a2 r12 q13)
        · refine mm_ok_bl (l := [(.iconst (-12), 2)]) (pc' := 46) (lo' := [some (.ref 52), some (.int a1), some (.int a2), none]) (st' := [.int (-12 : Int32)]) (q' := q5) (P := (True) ∧ (True)) (by decide +kernel) rfl rfl (And.intro trivial trivial) ?_
          exact mm_ok_iret (by decide +kernel)
      · refine mm_ok_bl (l := [(.iconst (-11), 2)]) (pc' := 32) (lo' := [some (.ref 52), some (.int a1), some (.int a2), none]) (st' := [.int (-11 : Int32)]) (q' := q5) (P := (True) ∧ (True)) (by decide +kernel) rfl rfl (And.intro trivial trivial) ?_
        exact mm_ok_iret (by decide +kernel)
def x12_count (a1 : Int32) (q : mm_Q) : Option (Int32 × mm_Q) := (if a1 = (0 : Int32) then (some (q.1 52 6, q)) else (if a1 = (1 : Int32) then (some (q.1 52 8, q)) else (if a1 = (2 : Int32) then (some (q.1 52 5, q)) else (if a1 = (3 : Int32) then (some (q.1 52 38, q)) else (if a1 = (4 : Int32) then (some (q.1 52 41, q)) else (some ((-1 : Int32), q)))))))
set_option maxRecDepth 20000 in
theorem x12_count_ok {L : Nat} {a1 : Int32} {q : mm_Q} {r : Int32} {q1 : mm_Q} (h : x12_count a1 q = some (r, q1)) : mm_Runs 1 287 [.ref 52, .int a1] (mm_wq L q) (mm_cvi r) (mm_wq L q1) := by
  refine mm_runs_of (d := 0) (L := L) rfl (by decide +kernel) rfl rfl (?_ : mm_ok mm_cvi (mm_Runs 0) 12 false cX12_count (some .int) L 0 [some (.ref 52), some (.int a1)] [] q (x12_count a1 q)) h
  unfold x12_count
  refine mm_ok_bl (l := [(.iload 1, 1)]) (pc' := 1) (lo' := [some (.ref 52), some (.int a1)]) (st' := [.int a1]) (q' := q) (P := (True) ∧ (True)) (by decide +kernel) rfl rfl (And.intro trivial trivial) ?_
  refine mm_ok_if (fun k1 => ?_) (fun k1 => ?_)
  · refine mm_ok_tsw (pt := 36) (os := [35, 40, 45, 50, 55]) (lo1 := 0) (hi := 4) (d := 60) (len := 35) (by decide +kernel) (by decide) (by rw [k1]; rfl) ?_
    refine mm_ok_bl (l := [(.aload 0, 1), (.getfield 774, 3)]) (pc' := 40) (lo' := [some (.ref 52), some (.int a1)]) (st' := [.int (q.1 52 6)]) (q' := q) (P := (True) ∧ ((True) ∧ (True))) (by decide +kernel) rfl rfl (And.intro trivial (And.intro trivial trivial)) ?_
    exact mm_ok_iret (by decide +kernel)
  · refine mm_ok_if (fun k2 => ?_) (fun k2 => ?_)
    · refine mm_ok_tsw (pt := 41) (os := [35, 40, 45, 50, 55]) (lo1 := 0) (hi := 4) (d := 60) (len := 35) (by decide +kernel) (by decide) (by rw [k2]; rfl) ?_
      refine mm_ok_bl (l := [(.aload 0, 1), (.getfield 776, 3)]) (pc' := 45) (lo' := [some (.ref 52), some (.int a1)]) (st' := [.int (q.1 52 8)]) (q' := q) (P := (True) ∧ ((True) ∧ (True))) (by decide +kernel) rfl rfl (And.intro trivial (And.intro trivial trivial)) ?_
      exact mm_ok_iret (by decide +kernel)
    · refine mm_ok_if (fun k3 => ?_) (fun k3 => ?_)
      · refine mm_ok_tsw (pt := 46) (os := [35, 40, 45, 50, 55]) (lo1 := 0) (hi := 4) (d := 60) (len := 35) (by decide +kernel) (by decide) (by rw [k3]; rfl) ?_
        refine mm_ok_bl (l := [(.aload 0, 1), (.getfield 773, 3)]) (pc' := 50) (lo' := [some (.ref 52), some (.int a1)]) (st' := [.int (q.1 52 5)]) (q' := q) (P := (True) ∧ ((True) ∧ (True))) (by decide +kernel) rfl rfl (And.intro trivial (And.intro trivial trivial)) ?_
        exact mm_ok_iret (by decide +kernel)
      · refine mm_ok_if (fun k4 => ?_) (fun k4 => ?_)
        · refine mm_ok_tsw (pt := 51) (os := [35, 40, 45, 50, 55]) (lo1 := 0) (hi := 4) (d := 60) (len := 35) (by decide +kernel) (by decide) (by rw [k4]; rfl) ?_
          refine mm_ok_bl (l := [(.aload 0, 1), (.getfield 806, 3)]) (pc' := 55) (lo' := [some (.ref 52), some (.int a1)]) (st' := [.int (q.1 52 38)]) (q' := q) (P := (True) ∧ ((True) ∧ (True))) (by decide +kernel) rfl rfl (And.intro trivial (And.intro trivial trivial)) ?_
          exact mm_ok_iret (by decide +kernel)
        · refine mm_ok_if (fun k5 => ?_) (fun k5 => ?_)
          · refine mm_ok_tsw (pt := 56) (os := [35, 40, 45, 50, 55]) (lo1 := 0) (hi := 4) (d := 60) (len := 35) (by decide +kernel) (by decide) (by rw [k5]; rfl) ?_
            refine mm_ok_bl (l := [(.aload 0, 1), (.getfield 809, 3)]) (pc' := 60) (lo' := [some (.ref 52), some (.int a1)]) (st' := [.int (q.1 52 41)]) (q' := q) (P := (True) ∧ ((True) ∧ (True))) (by decide +kernel) rfl rfl (And.intro trivial (And.intro trivial trivial)) ?_
            exact mm_ok_iret (by decide +kernel)
          · refine mm_ok_tsw (pt := 61) (os := [35, 40, 45, 50, 55]) (lo1 := 0) (hi := 4) (d := 60) (len := 35) (by decide +kernel) (by decide) (mm_tsw_dn (l := [0, 1, 2, 3, 4]) (by decide) (by decide) (mm_nin [0, 1, 2, 3, 4] (by decide) (by intro k hk; simp only [List.mem_cons, List.not_mem_nil, or_false] at hk; rcases hk with rfl | rfl | rfl | rfl | rfl; exact k1; exact k2; exact k3; exact k4; exact k5))) ?_
            refine mm_ok_bl (l := [(.iconst (-1), 1)]) (pc' := 62) (lo' := [some (.ref 52), some (.int a1)]) (st' := [.int (-1 : Int32)]) (q' := q) (P := (True) ∧ (True)) (by decide +kernel) rfl rfl (And.intro trivial trivial) ?_
            exact mm_ok_iret (by decide +kernel)
