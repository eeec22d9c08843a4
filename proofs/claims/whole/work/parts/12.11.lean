def x12_spit_j163 (a5 : Int32) (s1 : Int32) (s2 : Int32) (q : mm_Q) : Option (Int32 × mm_Q) := (mm_lt (mm_si q 52 34 (s1 + s2)) (fun q32 => (some (a5, q32))))
set_option maxRecDepth 20000 in
theorem x12_spit_j163_ok {L : Nat} (a5 : Int32) (s1 : Int32) (s2 : Int32) (q : mm_Q) : mm_ok mm_cvi (mm_Runs 105) 12 false cX12_spit (some .int) L 163 [none, none, none, none, none, some (.int a5)] [.int s2, .int s1, .ref 52] q (x12_spit_j163 a5 s1 s2 q) := by
  unfold x12_spit_j163
  refine mm_ok_bl (l := [(.iadd, 1), (.putfield 802, 3)]) (pc' := 167) (lo' := [none, none, none, none, none, some (.int a5)]) (st' := []) (q' := (mm_si q 52 34 (s1 + s2))) (P := (True) ∧ ((True) ∧ (True))) (by decide +kernel) rfl rfl (And.intro trivial (And.intro trivial trivial)) ?_
  refine mm_ok_lt (fun q32 => ?_)
  refine mm_ok_bl (l := [(.iload 5, 2)]) (pc' := 169) (lo' := [none, none, none, none, none, some (.int a5)]) (st' := [.int a5]) (q' := q32) (P := (True) ∧ (True)) (by decide +kernel) rfl rfl (And.intro trivial trivial) ?_
  exact mm_ok_iret (by decide +kernel)
def x12_spit_j140 (a4 : Int32) (a5 : Int32) (s1 : Int32) (s2 : Int32) (q : mm_Q) : Option (Int32 × mm_Q) := (mm_lt (mm_si q 52 33 (s1 + s2)) (fun q28 => (mm_cl (x12_inBarrel a4 q28) (fun r29 q30 => (if r29 = 0 then (x12_spit_j163 a5 (q28.1 52 34) (0 : Int32) q30) else (x12_spit_j163 a5 (q28.1 52 34) (1 : Int32) q30))))))
set_option maxRecDepth 20000 in
theorem x12_spit_j140_ok {L : Nat} (a4 : Int32) (a5 : Int32) (s1 : Int32) (s2 : Int32) (q : mm_Q) : mm_ok mm_cvi (mm_Runs 105) 12 false cX12_spit (some .int) L 140 [some (.ref 52), none, none, none, some (.int a4), some (.int a5)] [.int s2, .int s1, .ref 52] q (x12_spit_j140 a4 a5 s1 s2 q) := by
  unfold x12_spit_j140
  refine mm_ok_bl (l := [(.iadd, 1), (.putfield 801, 3)]) (pc' := 144) (lo' := [some (.ref 52), none, none, none, some (.int a4), some (.int a5)]) (st' := []) (q' := (mm_si q 52 33 (s1 + s2))) (P := (True) ∧ ((True) ∧ (True))) (by decide +kernel) rfl rfl (And.intro trivial (And.intro trivial trivial)) ?_
  refine mm_ok_lt (fun q28 => ?_)
  refine mm_ok_bl (l := [(.aload 0, 1), (.dup, 1), (.getfield 802, 3), (.aload 0, 1), (.iload 4, 2)]) (pc' := 152) (lo' := [some (.ref 52), none, none, none, some (.int a4), some (.int a5)]) (st' := [.int a4, .ref 52, .int (q28.1 52 34), .ref 52]) (q' := q28) (P := (True) ∧ ((True) ∧ ((True) ∧ ((True) ∧ ((True) ∧ (True)))))) (by decide +kernel) rfl rfl (And.intro trivial (And.intro trivial (And.intro trivial (And.intro trivial (And.intro trivial trivial))))) ?_
  refine mm_ok_call (cz := mm_cvi) (j := .invokevirtual 3553) (y := 222) (as := [.ref 52, .int a4]) (t := [.int (q28.1 52 34), .ref 52]) (by decide +kernel) rfl (fun _ _ h => mm_up (k := 2) (by decide) (x12_inBarrel_ok h)) (fun r29 q30 => ?_)
  refine mm_ok_ifCond_eq (pt := 162) (d := 7) (by decide +kernel) (by decide) (fun k31 => ?_) (fun k31 => ?_)
  · refine mm_ok_bl (l := [(.iconst (0), 1)]) (pc' := 163) (lo' := [some (.ref 52), none, none, none, some (.int a4), some (.int a5)]) (st' := [.int (0 : Int32), .int (q28.1 52 34), .ref 52]) (q' := q30) (P := (True) ∧ (True)) (by decide +kernel) rfl rfl (And.intro trivial trivial) ?_
    exact mm_ok_sub (lo := [none, none, none, none, none, some (.int a5)]) (And.intro rfl trivial) (x12_spit_j163_ok a5 (q28.1 52 34) (0 : Int32) q30)
  · refine mm_ok_bl (l := [(.iconst (1), 1)]) (pc' := 159) (lo' := [some (.ref 52), none, none, none, some (.int a4), some (.int a5)]) (st' := [.int (1 : Int32), .int (q28.1 52 34), .ref 52]) (q' := q30) (P := (True) ∧ (True)) (by decide +kernel) rfl rfl (And.intro trivial trivial) ?_
    refine mm_ok_goto (pt := 163) (d := 4) (by decide +kernel) (by decide) ?_
    exact mm_ok_sub (lo := [none, none, none, none, none, some (.int a5)]) (And.intro rfl trivial) (x12_spit_j163_ok a5 (q28.1 52 34) (1 : Int32) q30)
def x12_spit_j107 (a4 : Int32) (a5 : Int32) (s1 : Int32) (s2 : Int32) (q : mm_Q) : Option (Int32 × mm_Q) := (mm_ck (mm_inb s1 6) (mm_lt (mm_si q 67 s1.toNatClampNeg s2) (fun q25 => (mm_lt (mm_si q25 52 32 ((q25.1 52 32) + (1 : Int32))) (fun q26 => (if a4 = (q26.1 53 52) then (x12_spit_j140 a4 a5 (q26.1 52 33) (1 : Int32) q26) else (x12_spit_j140 a4 a5 (q26.1 52 33) (0 : Int32) q26)))))))
set_option maxRecDepth 20000 in
theorem x12_spit_j107_ok {L : Nat} (a4 : Int32) (a5 : Int32) (s1 : Int32) (s2 : Int32) (q : mm_Q) : mm_ok mm_cvi (mm_Runs 105) 12 false cX12_spit (some .int) L 107 [some (.ref 52), none, none, none, some (.int a4), some (.int a5)] [.int s2, .int s1, .ref 67] q (x12_spit_j107 a4 a5 s1 s2 q) := by
  unfold x12_spit_j107
  refine mm_ok_ck (fun c24 => ?_)
  refine mm_ok_bl (l := [(.iastore, 1)]) (pc' := 108) (lo' := [some (.ref 52), none, none, none, some (.int a4), some (.int a5)]) (st' := []) (q' := (mm_si q 67 s1.toNatClampNeg s2)) (P := (mm_ix s1 6) ∧ (True)) (by decide +kernel) rfl rfl (And.intro (mm_inb_ix c24) trivial) ?_
  refine mm_ok_lt (fun q25 => ?_)
  refine mm_ok_bl (l := [(.aload 0, 1), (.dup, 1), (.getfield 800, 3), (.iconst (1), 1), (.iadd, 1), (.putfield 800, 3)]) (pc' := 118) (lo' := [some (.ref 52), none, none, none, some (.int a4), some (.int a5)]) (st' := []) (q' := (mm_si q25 52 32 ((q25.1 52 32) + (1 : Int32)))) (P := (True) ∧ ((True) ∧ ((True) ∧ ((True) ∧ ((True) ∧ ((True) ∧ (True))))))) (by decide +kernel) rfl rfl (And.intro trivial (And.intro trivial (And.intro trivial (And.intro trivial (And.intro trivial (And.intro trivial trivial)))))) ?_
  refine mm_ok_lt (fun q26 => ?_)
  refine mm_ok_bl (l := [(.aload 0, 1), (.dup, 1), (.getfield 801, 3), (.iload 4, 2), (.aload 0, 1), (.getfield 768, 3), (.iconst (52), 2), (.iaload, 1)]) (pc' := 132) (lo' := [some (.ref 52), none, none, none, some (.int a4), some (.int a5)]) (st' := [.int (q26.1 53 52), .int a4, .int (q26.1 52 33), .ref 52]) (q' := q26) (P := (True) ∧ ((True) ∧ ((True) ∧ ((True) ∧ ((True) ∧ ((True) ∧ ((True) ∧ ((mm_ix (52 : Int32) 54) ∧ (True))))))))) (by decide +kernel) rfl rfl (And.intro trivial (And.intro trivial (And.intro trivial (And.intro trivial (And.intro trivial (And.intro trivial (And.intro trivial (And.intro (mm_inb_ix (by decide)) trivial)))))))) ?_
  refine mm_ok_if_icmp_ne (pt := 139) (d := 7) (by decide +kernel) (by decide) (fun k27 => ?_) (fun k27 => ?_)
  · refine mm_ok_bl (l := [(.iconst (1), 1)]) (pc' := 136) (lo' := [some (.ref 52), none, none, none, some (.int a4), some (.int a5)]) (st' := [.int (1 : Int32), .int (q26.1 52 33), .ref 52]) (q' := q26) (P := (True) ∧ (True)) (by decide +kernel) rfl rfl (And.intro trivial trivial) ?_
    refine mm_ok_goto (pt := 140) (d := 4) (by decide +kernel) (by decide) ?_
    exact mm_ok_sub (lo := [some (.ref 52), none, none, none, some (.int a4), some (.int a5)]) (And.intro rfl (And.intro rfl (And.intro rfl trivial))) (x12_spit_j140_ok a4 a5 (q26.1 52 33) (1 : Int32) q26)
  · refine mm_ok_bl (l := [(.iconst (0), 1)]) (pc' := 140) (lo' := [some (.ref 52), none, none, none, some (.int a4), some (.int a5)]) (st' := [.int (0 : Int32), .int (q26.1 52 33), .ref 52]) (q' := q26) (P := (True) ∧ (True)) (by decide +kernel) rfl rfl (And.intro trivial trivial) ?_
    exact mm_ok_sub (lo := [some (.ref 52), none, none, none, some (.int a4), some (.int a5)]) (And.intro rfl (And.intro rfl (And.intro rfl trivial))) (x12_spit_j140_ok a4 a5 (q26.1 52 33) (0 : Int32) q26)
def x12_spit (a1 : Int32) (a2 : Int32) (a3 : Int32) (q : mm_Q) : Option (Int32 × mm_Q) := (mm_cl (x12_isSpitter a1.toInt64 q) (fun r1 q2 => (if r1 = 0 then (some ((-1 : Int32), q2)) else (mm_cl (x12_isStone a2 q2) (fun r4 q5 => (if r4 = 0 then (some ((-1 : Int32), q5)) else (mm_cl (x12_isHow a3 q5) (fun r7 q8 => (if r7 = 0 then (some ((-1 : Int32), q8)) else (mm_ck (mm_inb a1 6) (mm_cl (x12_landsAt a1 a2 (q8.1 65 a1.toNatClampNeg) (a3 / (10 : Int32)) (mm_rem a3 (10 : Int32)) q8) (fun r11 q12 => (mm_cl (x12_pointsFrom r11 q12) (fun r13 q14 => (mm_ck (mm_inb a1 6) (mm_ck (mm_inb a1 6) (mm_lt (mm_si q14 65 a1.toNatClampNeg ((q14.1 65 a1.toNatClampNeg) + (1 : Int32))) (fun q17 => (mm_ck (mm_inb a1 6) (mm_ck (mm_inb a1 6) (mm_lt (mm_si q17 66 a1.toNatClampNeg ((q17.1 66 a1.toNatClampNeg) + r13)) (fun q20 => (mm_ck (mm_inb a1 6) (if (r13 + (1 : Int32)) ≤ (q20.1 67 a1.toNatClampNeg) then (mm_ck (mm_inb a1 6) (x12_spit_j107 r11 r13 a1 (q20.1 67 a1.toNatClampNeg) q20)) else (x12_spit_j107 r11 r13 a1 (r13 + (1 : Int32)) q20)))))))))))))))))))))))))
set_option maxRecDepth 20000 in
theorem x12_spit_ok {L : Nat} {a1 : Int32} {a2 : Int32} {a3 : Int32} {q : mm_Q} {r : Int32} {q1 : mm_Q} (h : x12_spit a1 a2 a3 q = some (r, q1)) : mm_Runs 106 262 [.ref 52, .int a1, .int a2, .int a3] (mm_wq L q) (mm_cvi r) (mm_wq L q1) := by
  refine mm_runs_of (d := 105) (L := L) rfl (by decide +kernel) rfl rfl (?_ : mm_ok mm_cvi (mm_Runs 105) 12 false cX12_spit (some .int) L 0 [some (.ref 52), some (.int a1), some (.int a2), some (.int a3), none, none] [] q (x12_spit a1 a2 a3 q)) h
  unfold x12_spit
  refine mm_ok_bl (l := [(.aload 0, 1), (.iload 1, 1), (.i2l, 1)]) (pc' := 3) (lo' := [some (.ref 52), some (.int a1), some (.int a2), some (.int a3), none, none]) (st' := [.long a1.toInt64, .ref 52]) (q' := q) (P := (True) ∧ ((True) ∧ ((True) ∧ (True)))) (by decide +kernel) rfl rfl (And.intro trivial (And.intro trivial (And.intro trivial trivial))) ?_
  refine mm_ok_call (cz := mm_cvi) (j := .invokevirtual 3137) (y := 196) (as := [.ref 52, .long a1.toInt64]) (t := []) (by decide +kernel) rfl (fun _ _ h => mm_up (k := 2) (by decide) (x12_isSpitter_ok h)) (fun r1 q2 => ?_)
  refine mm_ok_ifCond_eq (pt := 23) (d := 17) (by decide +kernel) (by decide) (fun k3 => ?_) (fun k3 => ?_)
  · refine mm_ok_bl (l := [(.iconst (-1), 1)]) (pc' := 24) (lo' := [some (.ref 52), some (.int a1), some (.int a2), some (.int a3), none, none]) (st' := [.int (-1 : Int32)]) (q' := q2) (P := (True) ∧ (True)) (by decide +kernel) rfl rfl (And.intro trivial trivial) ?_
    exact mm_ok_iret (by decide +kernel)
  · refine mm_ok_bl (l := [(.iload 2, 1)]) (pc' := 10) (lo' := [some (.ref 52), some (.int a1), some (.int a2), some (.int a3), none, none]) (st' := [.int a2]) (q' := q2) (P := (True) ∧ (True)) (by decide +kernel) rfl rfl (And.intro trivial trivial) ?_
    refine mm_ok_call (cz := mm_cvi) (j := .invokestatic 3153) (y := 197) (as := [.int a2]) (t := []) (by decide +kernel) rfl (fun _ _ h => mm_up (k := 2) (by decide) (x12_isStone_ok h)) (fun r4 q5 => ?_)
    refine mm_ok_ifCond_eq (pt := 23) (d := 10) (by decide +kernel) (by decide) (fun k6 => ?_) (fun k6 => ?_)
    · refine mm_ok_bl (l := [(.iconst (-1), 1)]) (pc' := 24) (lo' := [some (.ref 52), some (.int a1), some (.int a2), some (.int a3), none, none]) (st' := [.int (-1 : Int32)]) (q' := q5) (P := (True) ∧ (True)) (by decide +kernel) rfl rfl (And.intro trivial trivial) ?_
      exact mm_ok_iret (by decide +kernel)
    · refine mm_ok_bl (l := [(.iload 3, 1)]) (pc' := 17) (lo' := [some (.ref 52), some (.int a1), some (.int a2), some (.int a3), none, none]) (st' := [.int a3]) (q' := q5) (P := (True) ∧ (True)) (by decide +kernel) rfl rfl (And.intro trivial trivial) ?_
      refine mm_ok_call (cz := mm_cvi) (j := .invokestatic 3617) (y := 226) (as := [.int a3]) (t := []) (by decide +kernel) rfl (fun _ _ h => mm_up (k := 1) (by decide) (x12_isHow_ok h)) (fun r7 q8 => ?_)
      refine mm_ok_ifCond_ne (pt := 25) (d := 5) (by decide +kernel) (by decide) (fun k9 => ?_) (fun k9 => ?_)
      · refine mm_ok_bl (l := [(.iconst (-1), 1)]) (pc' := 24) (lo' := [some (.ref 52), some (.int a1), some (.int a2), some (.int a3), none, none]) (st' := [.int (-1 : Int32)]) (q' := q8) (P := (True) ∧ (True)) (by decide +kernel) rfl rfl (And.intro trivial trivial) ?_
        exact mm_ok_iret (by decide +kernel)
      · refine mm_ok_bl (l := [(.aload 0, 1), (.iload 1, 1), (.iload 2, 1), (.aload 0, 1), (.getfield 797, 3), (.iload 1, 1)]) (pc' := 33) (lo' := [some (.ref 52), some (.int a1), some (.int a2), some (.int a3), none, none]) (st' := [.int a1, .ref 65, .int a2, .int a1, .ref 52]) (q' := q8) (P := (True) ∧ ((True) ∧ ((True) ∧ ((True) ∧ ((True) ∧ ((True) ∧ (True))))))) (by decide +kernel) rfl rfl (And.intro trivial (And.intro trivial (And.intro trivial (And.intro trivial (And.intro trivial (And.intro trivial trivial)))))) ?_
        refine mm_ok_ck (fun c10 => ?_)
        refine mm_ok_bl (l := [(.iaload, 1), (.iload 3, 1), (.iconst (10), 2), (.idiv, 1), (.iload 3, 1), (.iconst (10), 2), (.irem, 1)]) (pc' := 42) (lo' := [some (.ref 52), some (.int a1), some (.int a2), some (.int a3), none, none]) (st' := [.int (mm_rem a3 (10 : Int32)), .int (a3 / (10 : Int32)), .int (q8.1 65 a1.toNatClampNeg), .int a2, .int a1, .ref 52]) (q' := q8) (P := (mm_ix a1 6) ∧ ((True) ∧ ((True) ∧ ((¬ ((10 : Int32) = 0)) ∧ ((True) ∧ ((True) ∧ ((¬ ((10 : Int32) = 0)) ∧ (True)))))))) (by decide +kernel) rfl rfl (And.intro (mm_inb_ix c10) (And.intro trivial (And.intro trivial (And.intro (by decide) (And.intro trivial (And.intro trivial (And.intro (by decide) trivial))))))) ?_
        refine mm_ok_call (cz := mm_cvi) (j := .invokevirtual 3541) (y := 221) (as := [.ref 52, .int a1, .int a2, .int (q8.1 65 a1.toNatClampNeg), .int (a3 / (10 : Int32)), .int (mm_rem a3 (10 : Int32))]) (t := []) (by decide +kernel) rfl (fun _ _ h => mm_up (k := 105) (by decide) (x12_landsAt_ok h)) (fun r11 q12 => ?_)
        refine mm_ok_bl (l := [(.istore 4, 2), (.aload 0, 1), (.iload 4, 2)]) (pc' := 50) (lo' := [some (.ref 52), some (.int a1), some (.int a2), some (.int a3), some (.int r11), none]) (st' := [.int r11, .ref 52]) (q' := q12) (P := (True) ∧ ((True) ∧ ((True) ∧ (True)))) (by decide +kernel) rfl rfl (And.intro trivial (And.intro trivial (And.intro trivial trivial))) ?_
        refine mm_ok_call (cz := mm_cvi) (j := .invokevirtual 3585) (y := 224) (as := [.ref 52, .int r11]) (t := []) (by decide +kernel) rfl (fun _ _ h => mm_up (k := 4) (by decide) (x12_pointsFrom_ok h)) (fun r13 q14 => ?_)
        refine mm_ok_bl (l := [(.istore 5, 2), (.aload 0, 1), (.getfield 797, 3), (.iload 1, 1), (.dup2, 1)]) (pc' := 61) (lo' := [some (.ref 52), some (.int a1), some (.int a2), some (.int a3), some (.int r11), some (.int r13)]) (st' := [.int a1, .ref 65, .int a1, .ref 65]) (q' := q14) (P := (True) ∧ ((True) ∧ ((True) ∧ ((True) ∧ ((True) ∧ (True)))))) (by decide +kernel) rfl rfl (And.intro trivial (And.intro trivial (And.intro trivial (And.intro trivial (And.intro trivial trivial))))) ?_
        refine mm_ok_ck (fun c15 => ?_)
        refine mm_ok_bl (l := [(.iaload, 1), (.iconst (1), 1), (.iadd, 1)]) (pc' := 64) (lo' := [some (.ref 52), some (.int a1), some (.int a2), some (.int a3), some (.int r11), some (.int r13)]) (st' := [.int ((q14.1 65 a1.toNatClampNeg) + (1 : Int32)), .int a1, .ref 65]) (q' := q14) (P := (mm_ix a1 6) ∧ ((True) ∧ ((True) ∧ (True)))) (by decide +kernel) rfl rfl (And.intro (mm_inb_ix c15) (And.intro trivial (And.intro trivial trivial))) ?_
        refine mm_ok_ck (fun c16 => ?_)
        refine mm_ok_bl (l := [(.iastore, 1)]) (pc' := 65) (lo' := [some (.ref 52), some (.int a1), some (.int a2), some (.int a3), some (.int r11), some (.int r13)]) (st' := []) (q' := (mm_si q14 65 a1.toNatClampNeg ((q14.1 65 a1.toNatClampNeg) + (1 : Int32)))) (P := (mm_ix a1 6) ∧ (True)) (by decide +kernel) rfl rfl (And.intro (mm_inb_ix c16) trivial) ?_
        refine mm_ok_lt (fun q17 => ?_)
        refine mm_ok_bl (l := [(.aload 0, 1), (.getfield 798, 3), (.iload 1, 1), (.dup2, 1)]) (pc' := 71) (lo' := [some (.ref 52), some (.int a1), some (.int a2), some (.int a3), some (.int r11), some (.int r13)]) (st' := [.int a1, .ref 66, .int a1, .ref 66]) (q' := q17) (P := (True) ∧ ((True) ∧ ((True) ∧ ((True) ∧ (True))))) (by decide +kernel) rfl rfl (And.intro trivial (And.intro trivial (And.intro trivial (And.intro trivial trivial)))) ?_
        refine mm_ok_ck (fun c18 => ?_)
        refine mm_ok_bl (l := [(.iaload, 1), (.iload 5, 2), (.iadd, 1)]) (pc' := 75) (lo' := [some (.ref 52), some (.int a1), some (.int a2), some (.int a3), some (.int r11), some (.int r13)]) (st' := [.int ((q17.1 66 a1.toNatClampNeg) + r13), .int a1, .ref 66]) (q' := q17) (P := (mm_ix a1 6) ∧ ((True) ∧ ((True) ∧ (True)))) (by decide +kernel) rfl rfl (And.intro (mm_inb_ix c18) (And.intro trivial (And.intro trivial trivial))) ?_
        refine mm_ok_ck (fun c19 => ?_)
        refine mm_ok_bl (l := [(.iastore, 1)]) (pc' := 76) (lo' := [some (.ref 52), some (.int a1), some (.int a2), some (.int a3), some (.int r11), some (.int r13)]) (st' := []) (q' := (mm_si q17 66 a1.toNatClampNeg ((q17.1 66 a1.toNatClampNeg) + r13))) (P := (mm_ix a1 6) ∧ (True)) (by decide +kernel) rfl rfl (And.intro (mm_inb_ix c19) trivial) ?_
        refine mm_ok_lt (fun q20 => ?_)
        refine mm_ok_bl (l := [(.aload 0, 1), (.getfield 799, 3), (.iload 1, 1), (.iload 5, 2), (.iconst (1), 1), (.iadd, 1), (.aload 0, 1), (.getfield 799, 3), (.iload 1, 1)]) (pc' := 90) (lo' := [some (.ref 52), some (.int a1), some (.int a2), some (.int a3), some (.int r11), some (.int r13)]) (st' := [.int a1, .ref 67, .int (r13 + (1 : Int32)), .int a1, .ref 67]) (q' := q20) (P := (True) ∧ ((True) ∧ ((True) ∧ ((True) ∧ ((True) ∧ ((True) ∧ ((True) ∧ ((True) ∧ ((True) ∧ (True)))))))))) (by decide +kernel) rfl rfl (And.intro trivial (And.intro trivial (And.intro trivial (And.intro trivial (And.intro trivial (And.intro trivial (And.intro trivial (And.intro trivial (And.intro trivial trivial))))))))) ?_
        refine mm_ok_ck (fun c21 => ?_)
        refine mm_ok_bl (l := [(.iaload, 1)]) (pc' := 91) (lo' := [some (.ref 52), some (.int a1), some (.int a2), some (.int a3), some (.int r11), some (.int r13)]) (st' := [.int (q20.1 67 a1.toNatClampNeg), .int (r13 + (1 : Int32)), .int a1, .ref 67]) (q' := q20) (P := (mm_ix a1 6) ∧ (True)) (by decide +kernel) rfl rfl (And.intro (mm_inb_ix c21) trivial) ?_
        refine mm_ok_if_icmp_le (pt := 101) (d := 10) (by decide +kernel) (by decide) (fun k22 => ?_) (fun k22 => ?_)
        · refine mm_ok_bl (l := [(.aload 0, 1), (.getfield 799, 3), (.iload 1, 1)]) (pc' := 106) (lo' := [some (.ref 52), some (.int a1), some (.int a2), some (.int a3), some (.int r11), some (.int r13)]) (st' := [.int a1, .ref 67, .int a1, .ref 67]) (q' := q20) (P := (True) ∧ ((True) ∧ ((True) ∧ (True)))) (by decide +kernel) rfl rfl (And.intro trivial (And.intro trivial (And.intro trivial trivial))) ?_
          refine mm_ok_ck (fun c23 => ?_)
          refine mm_ok_bl (l := [(.iaload, 1)]) (pc' := 107) (lo' := [some (.ref 52), some (.int a1), some (.int a2), some (.int a3), some (.int r11), some (.int r13)]) (st' := [.int (q20.1 67 a1.toNatClampNeg), .int a1, .ref 67]) (q' := q20) (P := (mm_ix a1 6) ∧ (True)) (by decide +kernel) rfl rfl (And.intro (mm_inb_ix c23) trivial) ?_
          exact mm_ok_sub (lo := [some (.ref 52), none, none, none, some (.int r11), some (.int r13)]) (And.intro rfl (And.intro rfl (And.intro rfl trivial))) (x12_spit_j107_ok r11 r13 a1 (q20.1 67 a1.toNatClampNeg) q20)
        · refine mm_ok_bl (l := [(.iload 5, 2), (.iconst (1), 1), (.iadd, 1)]) (pc' := 98) (lo' := [some (.ref 52), some (.int a1), some (.int a2), some (.int a3), some (.int r11), some (.int r13)]) (st' := [.int (r13 + (1 : Int32)), .int a1, .ref 67]) (q' := q20) (P := (True) ∧ ((True) ∧ ((True) ∧ (True)))) (by decide +kernel) rfl rfl (And.intro trivial (And.intro trivial (And.intro trivial trivial))) ?_
          refine mm_ok_goto (pt := 107) (d := 9) (by decide +kernel) (by decide) ?_
          exact mm_ok_sub (lo := [some (.ref 52), none, none, none, some (.int r11), some (.int r13)]) (And.intro rfl (And.intro rfl (And.intro rfl trivial))) (x12_spit_j107_ok r11 r13 a1 (r13 + (1 : Int32)) q20)
def x12_rest_h4 : Nat → Int32 → Int32 → mm_Q → Option (Int32 × mm_Q)
  | 0, _, _, _ => none
  | n + 1, a1, a2, q => (if (6 : Int32) ≤ a2 then (some (a1, q)) else (mm_ck (mm_inb a2 6) (mm_ck (mm_inb a2 6) (mm_lt (mm_si q 65 a2.toNatClampNeg (0 : Int32)) (fun q4 => (x12_rest_h4 n (a1 + (q.1 65 a2.toNatClampNeg)) (a2 + (1 : Int32)) q4))))))
set_option maxRecDepth 20000 in
theorem x12_rest_h4_ok {L : Nat} : ∀ (n : Nat) (a1 : Int32) (a2 : Int32) (q : mm_Q), mm_ok mm_cvi (mm_Runs 0) 12 false cX12_rest (some .int) L 4 [some (.ref 52), some (.int a1), some (.int a2)] [] q (x12_rest_h4 n a1 a2 q)
  | 0, _, _, _ => by
    exact mm_ok_none
  | n + 1, a1, a2, q => by
    unfold x12_rest_h4
    refine mm_ok_bl (l := [(.iload 2, 1), (.iconst (6), 2)]) (pc' := 7) (lo' := [some (.ref 52), some (.int a1), some (.int a2)]) (st' := [.int (6 : Int32), .int a2]) (q' := q) (P := (True) ∧ ((True) ∧ (True))) (by decide +kernel) rfl rfl (And.intro trivial (And.intro trivial trivial)) ?_
    refine mm_ok_if_icmp_ge (pt := 32) (d := 25) (by decide +kernel) (by decide) (fun k1 => ?_) (fun k1 => ?_)
    · refine mm_ok_bl (l := [(.iload 1, 1)]) (pc' := 33) (lo' := [some (.ref 52), some (.int a1), some (.int a2)]) (st' := [.int a1]) (q' := q) (P := (True) ∧ (True)) (by decide +kernel) rfl rfl (And.intro trivial trivial) ?_
      exact mm_ok_iret (by decide +kernel)
    · refine mm_ok_bl (l := [(.iload 1, 1), (.aload 0, 1), (.getfield 797, 3), (.iload 2, 1)]) (pc' := 16) (lo' := [some (.ref 52), some (.int a1), some (.int a2)]) (st' := [.int a2, .ref 65, .int a1]) (q' := q) (P := (True) ∧ ((True) ∧ ((True) ∧ ((True) ∧ (True))))) (by decide +kernel) rfl rfl (And.intro trivial (And.intro trivial (And.intro trivial (And.intro trivial trivial)))) ?_
      refine mm_ok_ck (fun c2 => ?_)
      refine mm_ok_bl (l := [(.iaload, 1), (.iadd, 1), (.istore 1, 1), (.aload 0, 1), (.getfield 797, 3), (.iload 2, 1), (.iconst (0), 1)]) (pc' := 25) (lo' := [some (.ref 52), some (.int (a1 + (q.1 65 a2.toNatClampNeg))), some (.int a2)]) (st' := [.int (0 : Int32), .int a2, .ref 65]) (q' := q) (P := (mm_ix a2 6) ∧ ((True) ∧ ((True) ∧ ((True) ∧ ((True) ∧ ((True) ∧ ((True) ∧ (True)))))))) (by decide +kernel) rfl rfl (And.intro (mm_inb_ix c2) (And.intro trivial (And.intro trivial (And.intro trivial (And.intro trivial (And.intro trivial (And.intro trivial trivial))))))) ?_
      refine mm_ok_ck (fun c3 => ?_)
      refine mm_ok_bl (l := [(.iastore, 1)]) (pc' := 26) (lo' := [some (.ref 52), some (.int (a1 + (q.1 65 a2.toNatClampNeg))), some (.int a2)]) (st' := []) (q' := (mm_si q 65 a2.toNatClampNeg (0 : Int32))) (P := (mm_ix a2 6) ∧ (True)) (by decide +kernel) rfl rfl (And.intro (mm_inb_ix c3) trivial) ?_
      refine mm_ok_lt (fun q4 => ?_)
      refine mm_ok_bl (l := [(.iinc 2 (1), 3)]) (pc' := 29) (lo' := [some (.ref 52), some (.int (a1 + (q.1 65 a2.toNatClampNeg))), some (.int (a2 + (1 : Int32)))]) (st' := []) (q' := q4) (P := (True) ∧ (True)) (by decide +kernel) rfl rfl (And.intro trivial trivial) ?_
      refine mm_ok_goto (pt := 4) (d := -25) (by decide +kernel) (by decide) ?_
      exact mm_ok_sub (lo := [some (.ref 52), some (.int (a1 + (q.1 65 a2.toNatClampNeg))), some (.int (a2 + (1 : Int32)))]) (And.intro rfl (And.intro rfl (And.intro rfl trivial))) (x12_rest_h4_ok n (a1 + (q.1 65 a2.toNatClampNeg)) (a2 + (1 : Int32)) q4)
def x12_rest  (q : mm_Q) : Option (Int32 × mm_Q) := (x12_rest_h4 mm_fu (0 : Int32) (0 : Int32) q)
set_option maxRecDepth 20000 in
theorem x12_rest_ok {L : Nat} {q : mm_Q} {r : Int32} {q1 : mm_Q} (h : x12_rest  q = some (r, q1)) : mm_Runs 1 263 [.ref 52] (mm_wq L q) (mm_cvi r) (mm_wq L q1) := by
  refine mm_runs_of (d := 0) (L := L) rfl (by decide +kernel) rfl rfl (?_ : mm_ok mm_cvi (mm_Runs 0) 12 false cX12_rest (some .int) L 0 [some (.ref 52), none, none] [] q (x12_rest  q)) h
  unfold x12_rest
  refine mm_ok_bl (l := [(.iconst (0), 1), (.istore 1, 1), (.iconst (0), 1), (.istore 2, 1)]) (pc' := 4) (lo' := [some (.ref 52), some (.int (0 : Int32)), some (.int (0 : Int32))]) (st' := []) (q' := q) (P := (True) ∧ ((True) ∧ ((True) ∧ ((True) ∧ (True))))) (by decide +kernel) rfl rfl (And.intro trivial (And.intro trivial (And.intro trivial (And.intro trivial trivial)))) ?_
  exact mm_ok_sub (lo := [some (.ref 52), some (.int (0 : Int32)), some (.int (0 : Int32))]) (And.intro rfl (And.intro rfl (And.intro rfl trivial))) (x12_rest_h4_ok mm_fu (0 : Int32) (0 : Int32) q)
def x12_led (a1 : Int32) (a2 : Int32) (q : mm_Q) : Option (Int32 × mm_Q) := (mm_cl (x12_within a2.toInt64 (0 : Int64) (2 : Int64) q) (fun r1 q2 => (if r1 = 0 then (if a1 = 0 then (if a2 = (3 : Int32) then (some (q2.1 52 32, q2)) else (if a2 = (4 : Int32) then (some (q2.1 52 33, q2)) else (if a2 = (5 : Int32) then (some (q2.1 52 34, q2)) else (some ((-1 : Int32), q2))))) else (some ((-1 : Int32), q2))) else (mm_cl (x12_isSpitter a1.toInt64 q2) (fun r8 q9 => (if r8 = 0 then (some ((-1 : Int32), q9)) else (if a2 = 0 then (mm_ck (mm_inb a1 6) (some (q9.1 66 a1.toNatClampNeg, q9))) else (if a2 = (2 : Int32) then (mm_ck (mm_inb a1 6) (some (q9.1 65 a1.toNatClampNeg, q9))) else (mm_ck (mm_inb a1 6) (if (q9.1 67 a1.toNatClampNeg) = 0 then (some ((-2 : Int32), q9)) else (mm_ck (mm_inb a1 6) (some ((q9.1 67 a1.toNatClampNeg) - (1 : Int32), q9)))))))))))))
set_option maxRecDepth 20000 in
theorem x12_led_ok {L : Nat} {a1 : Int32} {a2 : Int32} {q : mm_Q} {r : Int32} {q1 : mm_Q} (h : x12_led a1 a2 q = some (r, q1)) : mm_Runs 3 264 [.ref 52, .int a1, .int a2] (mm_wq L q) (mm_cvi r) (mm_wq L q1) := by
  refine mm_runs_of (d := 2) (L := L) rfl (by decide +kernel) rfl rfl (?_ : mm_ok mm_cvi (mm_Runs 2) 12 false cX12_led (some .int) L 0 [some (.ref 52), some (.int a1), some (.int a2)] [] q (x12_led a1 a2 q)) h
  unfold x12_led
  refine mm_ok_bl (l := [(.iload 2, 1), (.i2l, 1), (.goto_w (0), 1), (.goto_w (2), 3)]) (pc' := 6) (lo' := [some (.ref 52), some (.int a1), some (.int a2)]) (st' := [.long (2 : Int64), .long (0 : Int64), .long a2.toInt64]) (q' := q) (P := (True) ∧ ((True) ∧ ((True) ∧ ((True) ∧ (True))))) (by decide +kernel) rfl rfl (And.intro trivial (And.intro trivial (And.intro trivial (And.intro trivial trivial)))) ?_
  refine mm_ok_call (cz := mm_cvi) (j := .invokestatic 3027) (y := 189) (as := [.long a2.toInt64, .long (0 : Int64), .long (2 : Int64)]) (t := []) (by decide +kernel) rfl (fun _ _ h => mm_up (k := 1) (by decide) (x12_within_ok h)) (fun r1 q2 => ?_)
  refine mm_ok_ifCond_eq (pt := 75) (d := 66) (by decide +kernel) (by decide) (fun k3 => ?_) (fun k3 => ?_)
  · refine mm_ok_bl (l := [(.iload 1, 1)]) (pc' := 76) (lo' := [some (.ref 52), some (.int a1), some (.int a2)]) (st' := [.int a1]) (q' := q2) (P := (True) ∧ (True)) (by decide +kernel) rfl rfl (And.intro trivial trivial) ?_
    refine mm_ok_ifCond_eq (pt := 81) (d := 5) (by decide +kernel) (by decide) (fun k4 => ?_) (fun k4 => ?_)
    · refine mm_ok_bl (l := [(.iload 2, 1), (.iconst (3), 1)]) (pc' := 83) (lo' := [some (.ref 52), some (.int a1), some (.int a2)]) (st' := [.int (3 : Int32), .int a2]) (q' := q2) (P := (True) ∧ ((True) ∧ (True))) (by decide +kernel) rfl rfl (And.intro trivial (And.intro trivial trivial)) ?_
      refine mm_ok_if_icmp_ne (pt := 93) (d := 10) (by decide +kernel) (by decide) (fun k5 => ?_) (fun k5 => ?_)
      · refine mm_ok_bl (l := [(.aload 0, 1), (.getfield 800, 3)]) (pc' := 90) (lo' := [some (.ref 52), some (.int a1), some (.int a2)]) (st' := [.int (q2.1 52 32)]) (q' := q2) (P := (True) ∧ ((True) ∧ (True))) (by decide +kernel) rfl rfl (And.intro trivial (And.intro trivial trivial)) ?_
        refine mm_ok_goto (pt := 118) (d := 28) (by decide +kernel) (by decide) ?_
        exact mm_ok_iret (by decide +kernel)
      · refine mm_ok_bl (l := [(.iload 2, 1), (.iconst (4), 1)]) (pc' := 95) (lo' := [some (.ref 52), some (.int a1), some (.int a2)]) (st' := [.int (4 : Int32), .int a2]) (q' := q2) (P := (True) ∧ ((True) ∧ (True))) (by decide +kernel) rfl rfl (And.intro trivial (And.intro trivial trivial)) ?_
        refine mm_ok_if_icmp_ne (pt := 105) (d := 10) (by decide +kernel) (by decide) (fun k6 => ?_) (fun k6 => ?_)
        · refine mm_ok_bl (l := [(.aload 0, 1), (.getfield 801, 3)]) (pc' := 102) (lo' := [some (.ref 52), some (.int a1), some (.int a2)]) (st' := [.int (q2.1 52 33)]) (q' := q2) (P := (True) ∧ ((True) ∧ (True))) (by decide +kernel) rfl rfl (And.intro trivial (And.intro trivial trivial)) ?_
          refine mm_ok_goto (pt := 118) (d := 16) (by decide +kernel) (by decide) ?_
          exact mm_ok_iret (by decide +kernel)
        · refine mm_ok_bl (l := [(.iload 2, 1), (.iconst (5), 1)]) (pc' := 107) (lo' := [some (.ref 52), some (.int a1), some (.int a2)]) (st' := [.int (5 : Int32), .int a2]) (q' := q2) (P := (True) ∧ ((True) ∧ (True))) (by decide +kernel) rfl rfl (And.intro trivial (And.intro trivial trivial)) ?_
          refine mm_ok_if_icmp_ne (pt := 117) (d := 10) (by decide +kernel) (by decide) (fun k7 => ?_) (fun k7 => ?_)
          · refine mm_ok_bl (l := [(.aload 0, 1), (.getfield 802, 3)]) (pc' := 114) (lo' := [some (.ref 52), some (.int a1), some (.int a2)]) (st' := [.int (q2.1 52 34)]) (q' := q2) (P := (True) ∧ ((True) ∧ (True))) (by decide +kernel) rfl rfl (And.intro trivial (And.intro trivial trivial)) ?_
            refine mm_ok_goto (pt := 118) (d := 4) (by decide +kernel) (by decide) ?_
            exact mm_ok_iret (by decide +kernel)
          · refine mm_ok_bl (l := [(.iconst (-1), 1)]) (pc' := 118) (lo' := [some (.ref 52), some (.int a1), some (.int a2)]) (st' := [.int (-1 : Int32)]) (q' := q2) (P := (True) ∧ (True)) (by decide +kernel) rfl rfl (And.intro trivial trivial) ?_
            exact mm_ok_iret (by decide +kernel)
    · refine mm_ok_bl (l := [(.iconst (-1), 1)]) (pc' := 80) (lo' := [some (.ref 52), some (.int a1), some (.int a2)]) (st' := [.int (-1 : Int32)]) (q' := q2) (P := (True) ∧ (True)) (by decide +kernel) rfl rfl (And.intro trivial trivial) ?_
      exact mm_ok_iret (by decide +kernel)
  · refine mm_ok_bl (l := [(.aload 0, 1), (.iload 1, 1), (.i2l, 1)]) (pc' := 15) (lo' := [some (.ref 52), some (.int a1), some (.int a2)]) (st' := [.long a1.toInt64, .ref 52]) (q' := q2) (P := (True) ∧ ((True) ∧ ((True) ∧ (True)))) (by decide +kernel) rfl rfl (And.intro trivial (And.intro trivial (And.intro trivial trivial))) ?_
    refine mm_ok_call (cz := mm_cvi) (j := .invokevirtual 3137) (y := 196) (as := [.ref 52, .long a1.toInt64]) (t := []) (by decide +kernel) rfl (fun _ _ h => mm_up (k := 2) (by decide) (x12_isSpitter_ok h)) (fun r8 q9 => ?_)
    refine mm_ok_ifCond_ne (pt := 25) (d := 7) (by decide +kernel) (by decide) (fun k10 => ?_) (fun k10 => ?_)
    · refine mm_ok_bl (l := [(.iconst (-1), 1)]) (pc' := 22) (lo' := [some (.ref 52), some (.int a1), some (.int a2)]) (st' := [.int (-1 : Int32)]) (q' := q9) (P := (True) ∧ (True)) (by decide +kernel) rfl rfl (And.intro trivial trivial) ?_
      refine mm_ok_goto (pt := 74) (d := 52) (by decide +kernel) (by decide) ?_
      exact mm_ok_iret (by decide +kernel)
    · refine mm_ok_bl (l := [(.iload 2, 1)]) (pc' := 26) (lo' := [some (.ref 52), some (.int a1), some (.int a2)]) (st' := [.int a2]) (q' := q9) (P := (True) ∧ (True)) (by decide +kernel) rfl rfl (And.intro trivial trivial) ?_
      refine mm_ok_ifCond_ne (pt := 38) (d := 12) (by decide +kernel) (by decide) (fun k11 => ?_) (fun k11 => ?_)
      · refine mm_ok_bl (l := [(.aload 0, 1), (.getfield 798, 3), (.iload 1, 1)]) (pc' := 34) (lo' := [some (.ref 52), some (.int a1), some (.int a2)]) (st' := [.int a1, .ref 66]) (q' := q9) (P := (True) ∧ ((True) ∧ ((True) ∧ (True)))) (by decide +kernel) rfl rfl (And.intro trivial (And.intro trivial (And.intro trivial trivial))) ?_
        refine mm_ok_ck (fun c12 => ?_)
        refine mm_ok_bl (l := [(.iaload, 1)]) (pc' := 35) (lo' := [some (.ref 52), some (.int a1), some (.int a2)]) (st' := [.int (q9.1 66 a1.toNatClampNeg)]) (q' := q9) (P := (mm_ix a1 6) ∧ (True)) (by decide +kernel) rfl rfl (And.intro (mm_inb_ix c12) trivial) ?_
        refine mm_ok_goto (pt := 74) (d := 39) (by decide +kernel) (by decide) ?_
        exact mm_ok_iret (by decide +kernel)
      · refine mm_ok_bl (l := [(.iload 2, 1), (.iconst (2), 1)]) (pc' := 40) (lo' := [some (.ref 52), some (.int a1), some (.int a2)]) (st' := [.int (2 : Int32), .int a2]) (q' := q9) (P := (True) ∧ ((True) ∧ (True))) (by decide +kernel) rfl rfl (And.intro trivial (And.intro trivial trivial)) ?_
        refine mm_ok_if_icmp_ne (pt := 52) (d := 12) (by decide +kernel) (by decide) (fun k13 => ?_) (fun k13 => ?_)
        · refine mm_ok_bl (l := [(.aload 0, 1), (.getfield 797, 3), (.iload 1, 1)]) (pc' := 48) (lo' := [some (.ref 52), some (.int a1), some (.int a2)]) (st' := [.int a1, .ref 65]) (q' := q9) (P := (True) ∧ ((True) ∧ ((True) ∧ (True)))) (by decide +kernel) rfl rfl (And.intro trivial (And.intro trivial (And.intro trivial trivial))) ?_
          refine mm_ok_ck (fun c14 => ?_)
          refine mm_ok_bl (l := [(.iaload, 1)]) (pc' := 49) (lo' := [some (.ref 52), some (.int a1), some (.int a2)]) (st' := [.int (q9.1 65 a1.toNatClampNeg)]) (q' := q9) (P := (mm_ix a1 6) ∧ (True)) (by decide +kernel) rfl rfl (And.intro (mm_inb_ix c14) trivial) ?_
          refine mm_ok_goto (pt := 74) (d := 25) (by decide +kernel) (by decide) ?_
          exact mm_ok_iret (by decide +kernel)
        · refine mm_ok_bl (l := [(.aload 0, 1), (.getfield 799, 3), (.iload 1, 1)]) (pc' := 57) (lo' := [some (.ref 52), some (.int a1), some (.int a2)]) (st' := [.int a1, .ref 67]) (q' := q9) (P := (True) ∧ ((True) ∧ ((True) ∧ (True)))) (by decide +kernel) rfl rfl (And.intro trivial (And.intro trivial (And.intro trivial trivial))) ?_
          refine mm_ok_ck (fun c15 => ?_)
          refine mm_ok_bl (l := [(.iaload, 1)]) (pc' := 58) (lo' := [some (.ref 52), some (.int a1), some (.int a2)]) (st' := [.int (q9.1 67 a1.toNatClampNeg)]) (q' := q9) (P := (mm_ix a1 6) ∧ (True)) (by decide +kernel) rfl rfl (And.intro (mm_inb_ix c15) trivial) ?_
          refine mm_ok_ifCond_ne (pt := 66) (d := 8) (by decide +kernel) (by decide) (fun k16 => ?_) (fun k16 => ?_)
          · refine mm_ok_bl (l := [(.iconst (-2), 2)]) (pc' := 63) (lo' := [some (.ref 52), some (.int a1), some (.int a2)]) (st' := [.int (-2 : Int32)]) (q' := q9) (P := (True) ∧ (True)) (by decide +kernel) rfl rfl (And.intro trivial trivial) ?_
            refine mm_ok_goto (pt := 74) (d := 11) (by decide +kernel) (by decide) ?_
            exact mm_ok_iret (by decide +kernel)
          · refine mm_ok_bl (l := [(.aload 0, 1), (.getfield 799, 3), (.iload 1, 1)]) (pc' := 71) (lo' := [some (.ref 52), some (.int a1), some (.int a2)]) (st' := [.int a1, .ref 67]) (q' := q9) (P := (True) ∧ ((True) ∧ ((True) ∧ (True)))) (by decide +kernel) rfl rfl (And.intro trivial (And.intro trivial (And.intro trivial trivial))) ?_
            refine mm_ok_ck (fun c17 => ?_)
            refine mm_ok_bl (l := [(.iaload, 1), (.iconst (1), 1), (.isub, 1)]) (pc' := 74) (lo' := [some (.ref 52), some (.int a1), some (.int a2)]) (st' := [.int ((q9.1 67 a1.toNatClampNeg) - (1 : Int32))]) (q' := q9) (P := (mm_ix a1 6) ∧ ((True) ∧ ((True) ∧ (True)))) (by decide +kernel) rfl rfl (And.intro (mm_inb_ix c17) (And.intro trivial (And.intro trivial trivial))) ?_
            exact mm_ok_iret (by decide +kernel)
def x12_image_h15 : Nat → Int32 → mm_Q → Option (Int32 × mm_Q)
  | 0, _, _ => none
  | n + 1, a1, q => (if (6 : Int32) ≤ a1 then (mm_lt (mm_si q 68 18 (q.1 52 32)) (fun q4 => (mm_lt (mm_si q4 68 19 (q4.1 52 33)) (fun q5 => (mm_lt (mm_si q5 68 20 (q5.1 52 34)) (fun q6 => (some (q6.1 52 32, q6)))))))) else (mm_ck (mm_inb a1 6) (mm_ck (mm_inb ((3 : Int32) * a1) 21) (mm_lt (mm_si q 68 ((3 : Int32) * a1).toNatClampNeg (q.1 65 a1.toNatClampNeg)) (fun q9 => (mm_ck (mm_inb a1 6) (mm_ck (mm_inb (((3 : Int32) * a1) + (1 : Int32)) 21) (mm_lt (mm_si q9 68 (((3 : Int32) * a1) + (1 : Int32)).toNatClampNeg (q9.1 66 a1.toNatClampNeg)) (fun q12 => (mm_ck (mm_inb a1 6) (mm_ck (mm_inb (((3 : Int32) * a1) + (2 : Int32)) 21) (mm_lt (mm_si q12 68 (((3 : Int32) * a1) + (2 : Int32)).toNatClampNeg (q12.1 67 a1.toNatClampNeg)) (fun q15 => (x12_image_h15 n (a1 + (1 : Int32)) q15))))))))))))))
set_option maxRecDepth 20000 in
theorem x12_image_h15_ok {L : Nat} : ∀ (n : Nat) (a1 : Int32) (q : mm_Q), mm_ok mm_cvi (mm_Runs 0) 12 false cX12_image (some .int) L 15 [some (.ref 52), some (.int a1)] [] q (x12_image_h15 n a1 q)
  | 0, _, _ => by
    exact mm_ok_none
  | n + 1, a1, q => by
    unfold x12_image_h15
    refine mm_ok_bl (l := [(.iload 1, 1), (.iconst (6), 2)]) (pc' := 18) (lo' := [some (.ref 52), some (.int a1)]) (st' := [.int (6 : Int32), .int a1]) (q' := q) (P := (True) ∧ ((True) ∧ (True))) (by decide +kernel) rfl rfl (And.intro trivial (And.intro trivial trivial)) ?_
    refine mm_ok_if_icmp_ge (pt := 73) (d := 55) (by decide +kernel) (by decide) (fun k3 => ?_) (fun k3 => ?_)
    · refine mm_ok_bl (l := [(.aload 0, 1), (.getfield 805, 3), (.iconst (18), 2), (.aload 0, 1), (.getfield 800, 3), (.iastore, 1)]) (pc' := 84) (lo' := [some (.ref 52), some (.int a1)]) (st' := []) (q' := (mm_si q 68 18 (q.1 52 32))) (P := (True) ∧ ((True) ∧ ((True) ∧ ((True) ∧ ((True) ∧ ((mm_ix (18 : Int32) 21) ∧ (True))))))) (by decide +kernel) rfl rfl (And.intro trivial (And.intro trivial (And.intro trivial (And.intro trivial (And.intro trivial (And.intro (mm_inb_ix (by decide)) trivial)))))) ?_
      refine mm_ok_lt (fun q4 => ?_)
      refine mm_ok_bl (l := [(.aload 0, 1), (.getfield 805, 3), (.iconst (19), 2), (.aload 0, 1), (.getfield 801, 3), (.iastore, 1)]) (pc' := 95) (lo' := [some (.ref 52), some (.int a1)]) (st' := []) (q' := (mm_si q4 68 19 (q4.1 52 33))) (P := (True) ∧ ((True) ∧ ((True) ∧ ((True) ∧ ((True) ∧ ((mm_ix (19 : Int32) 21) ∧ (True))))))) (by decide +kernel) rfl rfl (And.intro trivial (And.intro trivial (And.intro trivial (And.intro trivial (And.intro trivial (And.intro (mm_inb_ix (by decide)) trivial)))))) ?_
      refine mm_ok_lt (fun q5 => ?_)
      refine mm_ok_bl (l := [(.aload 0, 1), (.getfield 805, 3), (.iconst (20), 2), (.aload 0, 1), (.getfield 802, 3), (.iastore, 1)]) (pc' := 106) (lo' := [some (.ref 52), some (.int a1)]) (st' := []) (q' := (mm_si q5 68 20 (q5.1 52 34))) (P := (True) ∧ ((True) ∧ ((True) ∧ ((True) ∧ ((True) ∧ ((mm_ix (20 : Int32) 21) ∧ (True))))))) (by decide +kernel) rfl rfl (And.intro trivial (And.intro trivial (And.intro trivial (And.intro trivial (And.intro trivial (And.intro (mm_inb_ix (by decide)) trivial)))))) ?_
      refine mm_ok_lt (fun q6 => ?_)
      refine mm_ok_bl (l := [(.aload 0, 1), (.getfield 800, 3)]) (pc' := 110) (lo' := [some (.ref 52), some (.int a1)]) (st' := [.int (q6.1 52 32)]) (q' := q6) (P := (True) ∧ ((True) ∧ (True))) (by decide +kernel) rfl rfl (And.intro trivial (And.intro trivial trivial)) ?_
      exact mm_ok_iret (by decide +kernel)
    · refine mm_ok_bl (l := [(.aload 0, 1), (.getfield 805, 3), (.iconst (3), 1), (.iload 1, 1), (.imul, 1), (.aload 0, 1), (.getfield 797, 3), (.iload 1, 1)]) (pc' := 33) (lo' := [some (.ref 52), some (.int a1)]) (st' := [.int a1, .ref 65, .int ((3 : Int32) * a1), .ref 68]) (q' := q) (P := (True) ∧ ((True) ∧ ((True) ∧ ((True) ∧ ((True) ∧ ((True) ∧ ((True) ∧ ((True) ∧ (True))))))))) (by decide +kernel) rfl rfl (And.intro trivial (And.intro trivial (And.intro trivial (And.intro trivial (And.intro trivial (And.intro trivial (And.intro trivial (And.intro trivial trivial)))))))) ?_
      refine mm_ok_ck (fun c7 => ?_)
      refine mm_ok_bl (l := [(.iaload, 1)]) (pc' := 34) (lo' := [some (.ref 52), some (.int a1)]) (st' := [.int (q.1 65 a1.toNatClampNeg), .int ((3 : Int32) * a1), .ref 68]) (q' := q) (P := (mm_ix a1 6) ∧ (True)) (by decide +kernel) rfl rfl (And.intro (mm_inb_ix c7) trivial) ?_
      refine mm_ok_ck (fun c8 => ?_)
      refine mm_ok_bl (l := [(.iastore, 1)]) (pc' := 35) (lo' := [some (.ref 52), some (.int a1)]) (st' := []) (q' := (mm_si q 68 ((3 : Int32) * a1).toNatClampNeg (q.1 65 a1.toNatClampNeg))) (P := (mm_ix ((3 : Int32) * a1) 21) ∧ (True)) (by decide +kernel) rfl rfl (And.intro (mm_inb_ix c8) trivial) ?_
      refine mm_ok_lt (fun q9 => ?_)
      refine mm_ok_bl (l := [(.aload 0, 1), (.getfield 805, 3), (.iconst (3), 1), (.iload 1, 1), (.imul, 1), (.iconst (1), 1), (.iadd, 1), (.aload 0, 1), (.getfield 798, 3), (.iload 1, 1)]) (pc' := 49) (lo' := [some (.ref 52), some (.int a1)]) (st' := [.int a1, .ref 66, .int (((3 : Int32) * a1) + (1 : Int32)), .ref 68]) (q' := q9) (P := (True) ∧ ((True) ∧ ((True) ∧ ((True) ∧ ((True) ∧ ((True) ∧ ((True) ∧ ((True) ∧ ((True) ∧ ((True) ∧ (True))))))))))) (by decide +kernel) rfl rfl (And.intro trivial (And.intro trivial (And.intro trivial (And.intro trivial (And.intro trivial (And.intro trivial (And.intro trivial (And.intro trivial (And.intro trivial (And.intro trivial trivial)))))))))) ?_
      refine mm_ok_ck (fun c10 => ?_)
      refine mm_ok_bl (l := [(.iaload, 1)]) (pc' := 50) (lo' := [some (.ref 52), some (.int a1)]) (st' := [.int (q9.1 66 a1.toNatClampNeg), .int (((3 : Int32) * a1) + (1 : Int32)), .ref 68]) (q' := q9) (P := (mm_ix a1 6) ∧ (True)) (by decide +kernel) rfl rfl (And.intro (mm_inb_ix c10) trivial) ?_
      refine mm_ok_ck (fun c11 => ?_)
      refine mm_ok_bl (l := [(.iastore, 1)]) (pc' := 51) (lo' := [some (.ref 52), some (.int a1)]) (st' := []) (q' := (mm_si q9 68 (((3 : Int32) * a1) + (1 : Int32)).toNatClampNeg (q9.1 66 a1.toNatClampNeg))) (P := (mm_ix (((3 : Int32) * a1) + (1 : Int32)) 21) ∧ (True)) (by decide +kernel) rfl rfl (And.intro (mm_inb_ix c11) trivial) ?_
      refine mm_ok_lt (fun q12 => ?_)
      refine mm_ok_bl (l := [(.aload 0, 1), (.getfield 805, 3), (.iconst (3), 1), (.iload 1, 1), (.imul, 1), (.iconst (2), 1), (.iadd, 1), (.aload 0, 1), (.getfield 799, 3), (.iload 1, 1)]) (pc' := 65) (lo' := [some (.ref 52), some (.int a1)]) (st' := [.int a1, .ref 67, .int (((3 : Int32) * a1) + (2 : Int32)), .ref 68]) (q' := q12) (P := (True) ∧ ((True) ∧ ((True) ∧ ((True) ∧ ((True) ∧ ((True) ∧ ((True) ∧ ((True) ∧ ((True) ∧ ((True) ∧ (True))))))))))) (by decide +kernel) rfl rfl (And.intro trivial (And.intro trivial (And.intro trivial (And.intro trivial (And.intro trivial (And.intro trivial (And.intro trivial (And.intro trivial (And.intro trivial (And.intro trivial trivial)))))))))) ?_
      refine mm_ok_ck (fun c13 => ?_)
      refine mm_ok_bl (l := [(.iaload, 1)]) (pc' := 66) (lo' := [some (.ref 52), some (.int a1)]) (st' := [.int (q12.1 67 a1.toNatClampNeg), .int (((3 : Int32) * a1) + (2 : Int32)), .ref 68]) (q' := q12) (P := (mm_ix a1 6) ∧ (True)) (by decide +kernel) rfl rfl (And.intro (mm_inb_ix c13) trivial) ?_
      refine mm_ok_ck (fun c14 => ?_)
      refine mm_ok_bl (l := [(.iastore, 1)]) (pc' := 67) (lo' := [some (.ref 52), some (.int a1)]) (st' := []) (q' := (mm_si q12 68 (((3 : Int32) * a1) + (2 : Int32)).toNatClampNeg (q12.1 67 a1.toNatClampNeg))) (P := (mm_ix (((3 : Int32) * a1) + (2 : Int32)) 21) ∧ (True)) (by decide +kernel) rfl rfl (And.intro (mm_inb_ix c14) trivial) ?_
      refine mm_ok_lt (fun q15 => ?_)
      refine mm_ok_bl (l := [(.iinc 1 (1), 3)]) (pc' := 70) (lo' := [some (.ref 52), some (.int (a1 + (1 : Int32)))]) (st' := []) (q' := q15) (P := (True) ∧ (True)) (by decide +kernel) rfl rfl (And.intro trivial trivial) ?_
      refine mm_ok_goto (pt := 15) (d := -55) (by decide +kernel) (by decide) ?_
      exact mm_ok_sub (lo := [some (.ref 52), some (.int (a1 + (1 : Int32)))]) (And.intro rfl (And.intro rfl trivial)) (x12_image_h15_ok n (a1 + (1 : Int32)) q15)
def x12_image  (q : mm_Q) : Option (Int32 × mm_Q) := (mm_lt (mm_si q 52 35 (1 : Int32)) (fun q1 => (mm_lt (mm_si q1 52 36 (q1.1 52 6)) (fun q2 => (x12_image_h15 mm_fu (0 : Int32) q2)))))
set_option maxRecDepth 20000 in
theorem x12_image_ok {L : Nat} {q : mm_Q} {r : Int32} {q1 : mm_Q} (h : x12_image  q = some (r, q1)) : mm_Runs 1 265 [.ref 52] (mm_wq L q) (mm_cvi r) (mm_wq L q1) := by
  refine mm_runs_of (d := 0) (L := L) rfl (by decide +kernel) rfl rfl (?_ : mm_ok mm_cvi (mm_Runs 0) 12 false cX12_image (some .int) L 0 [some (.ref 52), none] [] q (x12_image  q)) h
  unfold x12_image
  refine mm_ok_bl (l := [(.aload 0, 1), (.iconst (1), 1), (.putfield 803, 3)]) (pc' := 5) (lo' := [some (.ref 52), none]) (st' := []) (q' := (mm_si q 52 35 (1 : Int32))) (P := (True) ∧ ((True) ∧ (((1 : Int32) = 0 ∨ (1 : Int32) = 1) ∧ (True)))) (by decide +kernel) rfl rfl (And.intro trivial (And.intro trivial (And.intro (by decide) trivial))) ?_
  refine mm_ok_lt (fun q1 => ?_)
  refine mm_ok_bl (l := [(.aload 0, 1), (.aload 0, 1), (.getfield 774, 3), (.putfield 804, 3)]) (pc' := 13) (lo' := [some (.ref 52), none]) (st' := []) (q' := (mm_si q1 52 36 (q1.1 52 6))) (P := (True) ∧ ((True) ∧ ((True) ∧ ((True) ∧ (True))))) (by decide +kernel) rfl rfl (And.intro trivial (And.intro trivial (And.intro trivial (And.intro trivial trivial)))) ?_
  refine mm_ok_lt (fun q2 => ?_)
  refine mm_ok_bl (l := [(.iconst (0), 1), (.istore 1, 1)]) (pc' := 15) (lo' := [some (.ref 52), some (.int (0 : Int32))]) (st' := []) (q' := q2) (P := (True) ∧ ((True) ∧ (True))) (by decide +kernel) rfl rfl (And.intro trivial (And.intro trivial trivial)) ?_
  exact mm_ok_sub (lo := [some (.ref 52), some (.int (0 : Int32))]) (And.intro rfl (And.intro rfl trivial)) (x12_image_h15_ok mm_fu (0 : Int32) q2)
def x12_back_j101 (rr12 : Int32 → mm_Q → Option (Int32 × mm_Q)) (a1 : Int32) (s1 : Int32) (s2 : Int32) (q : mm_Q) : Option (Int32 × mm_Q) := (mm_ck (mm_inb s1 6) (mm_lt (mm_si q 67 s1.toNatClampNeg s2) (fun q18 => (rr12 (a1 + (1 : Int32)) q18))))
set_option maxRecDepth 20000 in
theorem x12_back_j101_ok {L : Nat} (rr12 : Int32 → mm_Q → Option (Int32 × mm_Q)) (hrr12 : ∀ (a1 : Int32) (q : mm_Q), mm_ok mm_cvi (mm_Runs 0) 12 false cX12_back (some .int) L 12 [some (.ref 52), some (.int a1), none] [] q (rr12 a1 q)) (a1 : Int32) (s1 : Int32) (s2 : Int32) (q : mm_Q) : mm_ok mm_cvi (mm_Runs 0) 12 false cX12_back (some .int) L 101 [some (.ref 52), some (.int a1), none] [.int s2, .int s1, .ref 67] q (x12_back_j101 rr12 a1 s1 s2 q) := by
  unfold x12_back_j101
  refine mm_ok_ck (fun c17 => ?_)
  refine mm_ok_bl (l := [(.iastore, 1)]) (pc' := 102) (lo' := [some (.ref 52), some (.int a1), none]) (st' := []) (q' := (mm_si q 67 s1.toNatClampNeg s2)) (P := (mm_ix s1 6) ∧ (True)) (by decide +kernel) rfl rfl (And.intro (mm_inb_ix c17) trivial) ?_
  refine mm_ok_lt (fun q18 => ?_)
  refine mm_ok_bl (l := [(.iinc 1 (1), 3)]) (pc' := 105) (lo' := [some (.ref 52), some (.int (a1 + (1 : Int32))), none]) (st' := []) (q' := q18) (P := (True) ∧ (True)) (by decide +kernel) rfl rfl (And.intro trivial trivial) ?_
  refine mm_ok_goto (pt := 12) (d := -93) (by decide +kernel) (by decide) ?_
  exact mm_ok_sub (lo := [some (.ref 52), some (.int (a1 + (1 : Int32))), none]) (And.intro rfl (And.intro rfl trivial)) (hrr12 (a1 + (1 : Int32)) q18)
def x12_back_j77 (rr12 : Int32 → mm_Q → Option (Int32 × mm_Q)) (a1 : Int32) (a2 : Int32) (s1 : Int32) (s2 : Int32) (q : mm_Q) : Option (Int32 × mm_Q) := (mm_ck (mm_inb s1 6) (mm_lt (mm_si q 66 s1.toNatClampNeg s2) (fun q14 => (if a2 = 0 then (x12_back_j101 rr12 a1 a1 (0 : Int32) q14) else (mm_ck (mm_inb (((3 : Int32) * a1) + (2 : Int32)) 21) (x12_back_j101 rr12 a1 a1 (q14.1 68 (((3 : Int32) * a1) + (2 : Int32)).toNatClampNeg) q14))))))
set_option maxRecDepth 20000 in
theorem x12_back_j77_ok {L : Nat} (rr12 : Int32 → mm_Q → Option (Int32 × mm_Q)) (hrr12 : ∀ (a1 : Int32) (q : mm_Q), mm_ok mm_cvi (mm_Runs 0) 12 false cX12_back (some .int) L 12 [some (.ref 52), some (.int a1), none] [] q (rr12 a1 q)) (a1 : Int32) (a2 : Int32) (s1 : Int32) (s2 : Int32) (q : mm_Q) : mm_ok mm_cvi (mm_Runs 0) 12 false cX12_back (some .int) L 77 [some (.ref 52), some (.int a1), some (.int a2)] [.int s2, .int s1, .ref 66] q (x12_back_j77 rr12 a1 a2 s1 s2 q) := by
  unfold x12_back_j77
  refine mm_ok_ck (fun c13 => ?_)
  refine mm_ok_bl (l := [(.iastore, 1)]) (pc' := 78) (lo' := [some (.ref 52), some (.int a1), some (.int a2)]) (st' := []) (q' := (mm_si q 66 s1.toNatClampNeg s2)) (P := (mm_ix s1 6) ∧ (True)) (by decide +kernel) rfl rfl (And.intro (mm_inb_ix c13) trivial) ?_
  refine mm_ok_lt (fun q14 => ?_)
  refine mm_ok_bl (l := [(.aload 0, 1), (.getfield 799, 3), (.iload 1, 1), (.iload 2, 1)]) (pc' := 84) (lo' := [some (.ref 52), some (.int a1), some (.int a2)]) (st' := [.int a2, .int a1, .ref 67]) (q' := q14) (P := (True) ∧ ((True) ∧ ((True) ∧ ((True) ∧ (True))))) (by decide +kernel) rfl rfl (And.intro trivial (And.intro trivial (And.intro trivial (And.intro trivial trivial)))) ?_
  refine mm_ok_ifCond_eq (pt := 100) (d := 16) (by decide +kernel) (by decide) (fun k15 => ?_) (fun k15 => ?_)
  · refine mm_ok_bl (l := [(.iconst (0), 1)]) (pc' := 101) (lo' := [some (.ref 52), some (.int a1), some (.int a2)]) (st' := [.int (0 : Int32), .int a1, .ref 67]) (q' := q14) (P := (True) ∧ (True)) (by decide +kernel) rfl rfl (And.intro trivial trivial) ?_
    exact mm_ok_sub (lo := [some (.ref 52), some (.int a1), none]) (And.intro rfl (And.intro rfl trivial)) (x12_back_j101_ok rr12 hrr12 a1 a1 (0 : Int32) q14)
  · refine mm_ok_bl (l := [(.aload 0, 1), (.getfield 805, 3), (.iconst (3), 1), (.iload 1, 1), (.imul, 1), (.iconst (2), 1), (.iadd, 1)]) (pc' := 96) (lo' := [some (.ref 52), some (.int a1), some (.int a2)]) (st' := [.int (((3 : Int32) * a1) + (2 : Int32)), .ref 68, .int a1, .ref 67]) (q' := q14) (P := (True) ∧ ((True) ∧ ((True) ∧ ((True) ∧ ((True) ∧ ((True) ∧ ((True) ∧ (True)))))))) (by decide +kernel) rfl rfl (And.intro trivial (And.intro trivial (And.intro trivial (And.intro trivial (And.intro trivial (And.intro trivial (And.intro trivial trivial))))))) ?_
    refine mm_ok_ck (fun c16 => ?_)
    refine mm_ok_bl (l := [(.iaload, 1)]) (pc' := 97) (lo' := [some (.ref 52), some (.int a1), some (.int a2)]) (st' := [.int (q14.1 68 (((3 : Int32) * a1) + (2 : Int32)).toNatClampNeg), .int a1, .ref 67]) (q' := q14) (P := (mm_ix (((3 : Int32) * a1) + (2 : Int32)) 21) ∧ (True)) (by decide +kernel) rfl rfl (And.intro (mm_inb_ix c16) trivial) ?_
    refine mm_ok_goto (pt := 101) (d := 4) (by decide +kernel) (by decide) ?_
    exact mm_ok_sub (lo := [some (.ref 52), some (.int a1), none]) (And.intro rfl (And.intro rfl trivial)) (x12_back_j101_ok rr12 hrr12 a1 a1 (q14.1 68 (((3 : Int32) * a1) + (2 : Int32)).toNatClampNeg) q14)
def x12_back_j53 (rr12 : Int32 → mm_Q → Option (Int32 × mm_Q)) (a1 : Int32) (a2 : Int32) (s1 : Int32) (s2 : Int32) (q : mm_Q) : Option (Int32 × mm_Q) := (mm_ck (mm_inb s1 6) (mm_lt (mm_si q 65 s1.toNatClampNeg s2) (fun q10 => (if a2 = 0 then (x12_back_j77 rr12 a1 a2 a1 (0 : Int32) q10) else (mm_ck (mm_inb (((3 : Int32) * a1) + (1 : Int32)) 21) (x12_back_j77 rr12 a1 a2 a1 (q10.1 68 (((3 : Int32) * a1) + (1 : Int32)).toNatClampNeg) q10))))))
set_option maxRecDepth 20000 in
theorem x12_back_j53_ok {L : Nat} (rr12 : Int32 → mm_Q → Option (Int32 × mm_Q)) (hrr12 : ∀ (a1 : Int32) (q : mm_Q), mm_ok mm_cvi (mm_Runs 0) 12 false cX12_back (some .int) L 12 [some (.ref 52), some (.int a1), none] [] q (rr12 a1 q)) (a1 : Int32) (a2 : Int32) (s1 : Int32) (s2 : Int32) (q : mm_Q) : mm_ok mm_cvi (mm_Runs 0) 12 false cX12_back (some .int) L 53 [some (.ref 52), some (.int a1), some (.int a2)] [.int s2, .int s1, .ref 65] q (x12_back_j53 rr12 a1 a2 s1 s2 q) := by
  unfold x12_back_j53
  refine mm_ok_ck (fun c9 => ?_)
  refine mm_ok_bl (l := [(.iastore, 1)]) (pc' := 54) (lo' := [some (.ref 52), some (.int a1), some (.int a2)]) (st' := []) (q' := (mm_si q 65 s1.toNatClampNeg s2)) (P := (mm_ix s1 6) ∧ (True)) (by decide +kernel) rfl rfl (And.intro (mm_inb_ix c9) trivial) ?_
  refine mm_ok_lt (fun q10 => ?_)
  refine mm_ok_bl (l := [(.aload 0, 1), (.getfield 798, 3), (.iload 1, 1), (.iload 2, 1)]) (pc' := 60) (lo' := [some (.ref 52), some (.int a1), some (.int a2)]) (st' := [.int a2, .int a1, .ref 66]) (q' := q10) (P := (True) ∧ ((True) ∧ ((True) ∧ ((True) ∧ (True))))) (by decide +kernel) rfl rfl (And.intro trivial (And.intro trivial (And.intro trivial (And.intro trivial trivial)))) ?_
  refine mm_ok_ifCond_eq (pt := 76) (d := 16) (by decide +kernel) (by decide) (fun k11 => ?_) (fun k11 => ?_)
  · refine mm_ok_bl (l := [(.iconst (0), 1)]) (pc' := 77) (lo' := [some (.ref 52), some (.int a1), some (.int a2)]) (st' := [.int (0 : Int32), .int a1, .ref 66]) (q' := q10) (P := (True) ∧ (True)) (by decide +kernel) rfl rfl (And.intro trivial trivial) ?_
    exact mm_ok_sub (lo := [some (.ref 52), some (.int a1), some (.int a2)]) (And.intro rfl (And.intro rfl (And.intro rfl trivial))) (x12_back_j77_ok rr12 hrr12 a1 a2 a1 (0 : Int32) q10)
  · refine mm_ok_bl (l := [(.aload 0, 1), (.getfield 805, 3), (.iconst (3), 1), (.iload 1, 1), (.imul, 1), (.iconst (1), 1), (.iadd, 1)]) (pc' := 72) (lo' := [some (.ref 52), some (.int a1), some (.int a2)]) (st' := [.int (((3 : Int32) * a1) + (1 : Int32)), .ref 68, .int a1, .ref 66]) (q' := q10) (P := (True) ∧ ((True) ∧ ((True) ∧ ((True) ∧ ((True) ∧ ((True) ∧ ((True) ∧ (True)))))))) (by decide +kernel) rfl rfl (And.intro trivial (And.intro trivial (And.intro trivial (And.intro trivial (And.intro trivial (And.intro trivial (And.intro trivial trivial))))))) ?_
    refine mm_ok_ck (fun c12 => ?_)
    refine mm_ok_bl (l := [(.iaload, 1)]) (pc' := 73) (lo' := [some (.ref 52), some (.int a1), some (.int a2)]) (st' := [.int (q10.1 68 (((3 : Int32) * a1) + (1 : Int32)).toNatClampNeg), .int a1, .ref 66]) (q' := q10) (P := (mm_ix (((3 : Int32) * a1) + (1 : Int32)) 21) ∧ (True)) (by decide +kernel) rfl rfl (And.intro (mm_inb_ix c12) trivial) ?_
    refine mm_ok_goto (pt := 77) (d := 4) (by decide +kernel) (by decide) ?_
    exact mm_ok_sub (lo := [some (.ref 52), some (.int a1), some (.int a2)]) (And.intro rfl (And.intro rfl (And.intro rfl trivial))) (x12_back_j77_ok rr12 hrr12 a1 a2 a1 (q10.1 68 (((3 : Int32) * a1) + (1 : Int32)).toNatClampNeg) q10)
def x12_back_j31 (rr12 : Int32 → mm_Q → Option (Int32 × mm_Q)) (a1 : Int32) (s0 : Int32) (q : mm_Q) : Option (Int32 × mm_Q) := (if s0 = 0 then (x12_back_j53 rr12 a1 s0 a1 (0 : Int32) q) else (mm_ck (mm_inb ((3 : Int32) * a1) 21) (x12_back_j53 rr12 a1 s0 a1 (q.1 68 ((3 : Int32) * a1).toNatClampNeg) q)))
set_option maxRecDepth 20000 in
theorem x12_back_j31_ok {L : Nat} (rr12 : Int32 → mm_Q → Option (Int32 × mm_Q)) (hrr12 : ∀ (a1 : Int32) (q : mm_Q), mm_ok mm_cvi (mm_Runs 0) 12 false cX12_back (some .int) L 12 [some (.ref 52), some (.int a1), none] [] q (rr12 a1 q)) (a1 : Int32) (s0 : Int32) (q : mm_Q) : mm_ok mm_cvi (mm_Runs 0) 12 false cX12_back (some .int) L 31 [some (.ref 52), some (.int a1), none] [.int s0] q (x12_back_j31 rr12 a1 s0 q) := by
  unfold x12_back_j31
  refine mm_ok_bl (l := [(.istore 2, 1), (.aload 0, 1), (.getfield 797, 3), (.iload 1, 1), (.iload 2, 1)]) (pc' := 38) (lo' := [some (.ref 52), some (.int a1), some (.int s0)]) (st' := [.int s0, .int a1, .ref 65]) (q' := q) (P := (True) ∧ ((True) ∧ ((True) ∧ ((True) ∧ ((True) ∧ (True)))))) (by decide +kernel) rfl rfl (And.intro trivial (And.intro trivial (And.intro trivial (And.intro trivial (And.intro trivial trivial))))) ?_
  refine mm_ok_ifCond_eq (pt := 52) (d := 14) (by decide +kernel) (by decide) (fun k7 => ?_) (fun k7 => ?_)
  · refine mm_ok_bl (l := [(.iconst (0), 1)]) (pc' := 53) (lo' := [some (.ref 52), some (.int a1), some (.int s0)]) (st' := [.int (0 : Int32), .int a1, .ref 65]) (q' := q) (P := (True) ∧ (True)) (by decide +kernel) rfl rfl (And.intro trivial trivial) ?_
    exact mm_ok_sub (lo := [some (.ref 52), some (.int a1), some (.int s0)]) (And.intro rfl (And.intro rfl (And.intro rfl trivial))) (x12_back_j53_ok rr12 hrr12 a1 s0 a1 (0 : Int32) q)
  · refine mm_ok_bl (l := [(.aload 0, 1), (.getfield 805, 3), (.iconst (3), 1), (.iload 1, 1), (.imul, 1)]) (pc' := 48) (lo' := [some (.ref 52), some (.int a1), some (.int s0)]) (st' := [.int ((3 : Int32) * a1), .ref 68, .int a1, .ref 65]) (q' := q) (P := (True) ∧ ((True) ∧ ((True) ∧ ((True) ∧ ((True) ∧ (True)))))) (by decide +kernel) rfl rfl (And.intro trivial (And.intro trivial (And.intro trivial (And.intro trivial (And.intro trivial trivial))))) ?_
    refine mm_ok_ck (fun c8 => ?_)
    refine mm_ok_bl (l := [(.iaload, 1)]) (pc' := 49) (lo' := [some (.ref 52), some (.int a1), some (.int s0)]) (st' := [.int (q.1 68 ((3 : Int32) * a1).toNatClampNeg), .int a1, .ref 65]) (q' := q) (P := (mm_ix ((3 : Int32) * a1) 21) ∧ (True)) (by decide +kernel) rfl rfl (And.intro (mm_inb_ix c8) trivial) ?_
    refine mm_ok_goto (pt := 53) (d := 4) (by decide +kernel) (by decide) ?_
    exact mm_ok_sub (lo := [some (.ref 52), some (.int a1), some (.int s0)]) (And.intro rfl (And.intro rfl (And.intro rfl trivial))) (x12_back_j53_ok rr12 hrr12 a1 s0 a1 (q.1 68 ((3 : Int32) * a1).toNatClampNeg) q)
def x12_back_h12 : Nat → Int32 → mm_Q → Option (Int32 × mm_Q)
  | 0, _, _ => none
  | n + 1, a1, q => (if (6 : Int32) ≤ a1 then (mm_lt (mm_si q 52 32 (q.1 68 18)) (fun q3 => (mm_lt (mm_si q3 52 33 (q3.1 68 19)) (fun q4 => (mm_lt (mm_si q4 52 34 (q4.1 68 20)) (fun q5 => (some (q5.1 52 32, q5)))))))) else (if (q.1 52 36) ≤ a1 then (x12_back_j31 (x12_back_h12 n) a1 (0 : Int32) q) else (x12_back_j31 (x12_back_h12 n) a1 (1 : Int32) q)))
set_option maxRecDepth 20000 in
theorem x12_back_h12_ok {L : Nat} : ∀ (n : Nat) (a1 : Int32) (q : mm_Q), mm_ok mm_cvi (mm_Runs 0) 12 false cX12_back (some .int) L 12 [some (.ref 52), some (.int a1), none] [] q (x12_back_h12 n a1 q)
  | 0, _, _ => by
    exact mm_ok_none
  | n + 1, a1, q => by
    unfold x12_back_h12
    refine mm_ok_bl (l := [(.iload 1, 1), (.iconst (6), 2)]) (pc' := 15) (lo' := [some (.ref 52), some (.int a1), none]) (st' := [.int (6 : Int32), .int a1]) (q' := q) (P := (True) ∧ ((True) ∧ (True))) (by decide +kernel) rfl rfl (And.intro trivial (And.intro trivial trivial)) ?_
    refine mm_ok_if_icmp_ge (pt := 108) (d := 93) (by decide +kernel) (by decide) (fun k2 => ?_) (fun k2 => ?_)
    · refine mm_ok_bl (l := [(.aload 0, 1), (.aload 0, 1), (.getfield 805, 3), (.iconst (18), 2), (.iaload, 1), (.putfield 800, 3)]) (pc' := 119) (lo' := [some (.ref 52), some (.int a1), none]) (st' := []) (q' := (mm_si q 52 32 (q.1 68 18))) (P := (True) ∧ ((True) ∧ ((True) ∧ ((True) ∧ ((mm_ix (18 : Int32) 21) ∧ ((True) ∧ (True))))))) (by decide +kernel) rfl rfl (And.intro trivial (And.intro trivial (And.intro trivial (And.intro trivial (And.intro (mm_inb_ix (by decide)) (And.intro trivial trivial)))))) ?_
      refine mm_ok_lt (fun q3 => ?_)
      refine mm_ok_bl (l := [(.aload 0, 1), (.aload 0, 1), (.getfield 805, 3), (.iconst (19), 2), (.iaload, 1), (.putfield 801, 3)]) (pc' := 130) (lo' := [some (.ref 52), some (.int a1), none]) (st' := []) (q' := (mm_si q3 52 33 (q3.1 68 19))) (P := (True) ∧ ((True) ∧ ((True) ∧ ((True) ∧ ((mm_ix (19 : Int32) 21) ∧ ((True) ∧ (True))))))) (by decide +kernel) rfl rfl (And.intro trivial (And.intro trivial (And.intro trivial (And.intro trivial (And.intro (mm_inb_ix (by decide)) (And.intro trivial trivial)))))) ?_
      refine mm_ok_lt (fun q4 => ?_)
      refine mm_ok_bl (l := [(.aload 0, 1), (.aload 0, 1), (.getfield 805, 3), (.iconst (20), 2), (.iaload, 1), (.putfield 802, 3)]) (pc' := 141) (lo' := [some (.ref 52), some (.int a1), none]) (st' := []) (q' := (mm_si q4 52 34 (q4.1 68 20))) (P := (True) ∧ ((True) ∧ ((True) ∧ ((True) ∧ ((mm_ix (20 : Int32) 21) ∧ ((True) ∧ (True))))))) (by decide +kernel) rfl rfl (And.intro trivial (And.intro trivial (And.intro trivial (And.intro trivial (And.intro (mm_inb_ix (by decide)) (And.intro trivial trivial)))))) ?_
      refine mm_ok_lt (fun q5 => ?_)
      refine mm_ok_bl (l := [(.aload 0, 1), (.getfield 800, 3)]) (pc' := 145) (lo' := [some (.ref 52), some (.int a1), none]) (st' := [.int (q5.1 52 32)]) (q' := q5) (P := (True) ∧ ((True) ∧ (True))) (by decide +kernel) rfl rfl (And.intro trivial (And.intro trivial trivial)) ?_
      exact mm_ok_iret (by decide +kernel)
    · refine mm_ok_bl (l := [(.iload 1, 1), (.aload 0, 1), (.getfield 804, 3)]) (pc' := 23) (lo' := [some (.ref 52), some (.int a1), none]) (st' := [.int (q.1 52 36), .int a1]) (q' := q) (P := (True) ∧ ((True) ∧ ((True) ∧ (True)))) (by decide +kernel) rfl rfl (And.intro trivial (And.intro trivial (And.intro trivial trivial))) ?_
      refine mm_ok_if_icmp_ge (pt := 30) (d := 7) (by decide +kernel) (by decide) (fun k6 => ?_) (fun k6 => ?_)
      · refine mm_ok_bl (l := [(.iconst (0), 1)]) (pc' := 31) (lo' := [some (.ref 52), some (.int a1), none]) (st' := [.int (0 : Int32)]) (q' := q) (P := (True) ∧ (True)) (by decide +kernel) rfl rfl (And.intro trivial trivial) ?_
        exact mm_ok_sub (lo := [some (.ref 52), some (.int a1), none]) (And.intro rfl (And.intro rfl trivial)) (x12_back_j31_ok (x12_back_h12 n) (x12_back_h12_ok n) a1 (0 : Int32) q)
      · refine mm_ok_bl (l := [(.iconst (1), 1)]) (pc' := 27) (lo' := [some (.ref 52), some (.int a1), none]) (st' := [.int (1 : Int32)]) (q' := q) (P := (True) ∧ (True)) (by decide +kernel) rfl rfl (And.intro trivial trivial) ?_
        refine mm_ok_goto (pt := 31) (d := 4) (by decide +kernel) (by decide) ?_
        exact mm_ok_sub (lo := [some (.ref 52), some (.int a1), none]) (And.intro rfl (And.intro rfl trivial)) (x12_back_j31_ok (x12_back_h12 n) (x12_back_h12_ok n) a1 (1 : Int32) q)
def x12_back  (q : mm_Q) : Option (Int32 × mm_Q) := (if (q.1 52 35) = 0 then (some ((-5 : Int32), q)) else (x12_back_h12 mm_fu (0 : Int32) q))
set_option maxRecDepth 20000 in
theorem x12_back_ok {L : Nat} {q : mm_Q} {r : Int32} {q1 : mm_Q} (h : x12_back  q = some (r, q1)) : mm_Runs 1 266 [.ref 52] (mm_wq L q) (mm_cvi r) (mm_wq L q1) := by
  refine mm_runs_of (d := 0) (L := L) rfl (by decide +kernel) rfl rfl (?_ : mm_ok mm_cvi (mm_Runs 0) 12 false cX12_back (some .int) L 0 [some (.ref 52), none, none] [] q (x12_back  q)) h
  unfold x12_back
  refine mm_ok_bl (l := [(.aload 0, 1), (.getfield 803, 3)]) (pc' := 4) (lo' := [some (.ref 52), none, none]) (st' := [.int (q.1 52 35)]) (q' := q) (P := (True) ∧ ((True) ∧ (True))) (by decide +kernel) rfl rfl (And.intro trivial (And.intro trivial trivial)) ?_
  refine mm_ok_ifCond_ne (pt := 10) (d := 6) (by decide +kernel) (by decide) (fun k1 => ?_) (fun k1 => ?_)
  · refine mm_ok_bl (l := [(.iconst (-5), 2)]) (pc' := 9) (lo' := [some (.ref 52), none, none]) (st' := [.int (-5 : Int32)]) (q' := q) (P := (True) ∧ (True)) (by decide +kernel) rfl rfl (And.intro trivial trivial) ?_
    exact mm_ok_iret (by decide +kernel)
  · refine mm_ok_bl (l := [(.iconst (0), 1), (.istore 1, 1)]) (pc' := 12) (lo' := [some (.ref 52), some (.int (0 : Int32)), none]) (st' := []) (q' := q) (P := (True) ∧ ((True) ∧ (True))) (by decide +kernel) rfl rfl (And.intro trivial (And.intro trivial trivial)) ?_
    exact mm_ok_sub (lo := [some (.ref 52), some (.int (0 : Int32)), none]) (And.intro rfl (And.intro rfl trivial)) (x12_back_h12_ok mm_fu (0 : Int32) q)
def x12_isBody (a1 : Int32) (q : mm_Q) : Option (Int32 × mm_Q) := (mm_cl (x12_within a1.toInt64 (0 : Int64) (((q.1 52 38) - (1 : Int32)).toInt64) q) (fun r1 q2 => (mm_ck (mm_bb r1) (some (r1, q2)))))
set_option maxRecDepth 20000 in
theorem x12_isBody_ok {L : Nat} {a1 : Int32} {q : mm_Q} {r : Int32} {q1 : mm_Q} (h : x12_isBody a1 q = some (r, q1)) : mm_Runs 2 267 [.ref 52, .int a1] (mm_wq L q) (mm_cvi r) (mm_wq L q1) := by
  refine mm_runs_of (d := 1) (L := L) rfl (by decide +kernel) rfl rfl (?_ : mm_ok mm_cvi (mm_Runs 1) 12 false cX12_isBody (some .boolean) L 0 [some (.ref 52), some (.int a1)] [] q (x12_isBody a1 q)) h
  unfold x12_isBody
  refine mm_ok_bl (l := [(.iload 1, 1), (.i2l, 1), (.goto_w (0), 1), (.aload 0, 1), (.getfield 806, 3), (.iconst (1), 1), (.isub, 1), (.i2l, 1)]) (pc' := 10) (lo' := [some (.ref 52), some (.int a1)]) (st' := [.long (((q.1 52 38) - (1 : Int32)).toInt64), .long (0 : Int64), .long a1.toInt64]) (q' := q) (P := (True) ∧ ((True) ∧ ((True) ∧ ((True) ∧ ((True) ∧ ((True) ∧ ((True) ∧ ((True) ∧ (True))))))))) (by decide +kernel) rfl rfl (And.intro trivial (And.intro trivial (And.intro trivial (And.intro trivial (And.intro trivial (And.intro trivial (And.intro trivial (And.intro trivial trivial)))))))) ?_
  refine mm_ok_call (cz := mm_cvi) (j := .invokestatic 3027) (y := 189) (as := [.long a1.toInt64, .long (0 : Int64), .long (((q.1 52 38) - (1 : Int32)).toInt64)]) (t := []) (by decide +kernel) rfl (fun _ _ h => mm_up (k := 1) (by decide) (x12_within_ok h)) (fun r1 q2 => ?_)
  refine mm_ok_ck (fun c3 => ?_)
  exact mm_ok_zret (by decide +kernel) (mm_bb_ok c3)
def x12_kindOf (a1 : Int32) (q : mm_Q) : Option (Int32 × mm_Q) := (mm_ck (mm_inb a1 50) (some (q.1 69 a1.toNatClampNeg, q)))
set_option maxRecDepth 20000 in
theorem x12_kindOf_ok {L : Nat} {a1 : Int32} {q : mm_Q} {r : Int32} {q1 : mm_Q} (h : x12_kindOf a1 q = some (r, q1)) : mm_Runs 1 268 [.ref 52, .int a1] (mm_wq L q) (mm_cvi r) (mm_wq L q1) := by
  refine mm_runs_of (d := 0) (L := L) rfl (by decide +kernel) rfl rfl (?_ : mm_ok mm_cvi (mm_Runs 0) 12 false cX12_kindOf (some .int) L 0 [some (.ref 52), some (.int a1)] [] q (x12_kindOf a1 q)) h
  unfold x12_kindOf
  refine mm_ok_bl (l := [(.aload 0, 1), (.getfield 807, 3), (.iload 1, 1)]) (pc' := 5) (lo' := [some (.ref 52), some (.int a1)]) (st' := [.int a1, .ref 69]) (q' := q) (P := (True) ∧ ((True) ∧ ((True) ∧ (True)))) (by decide +kernel) rfl rfl (And.intro trivial (And.intro trivial (And.intro trivial trivial))) ?_
  refine mm_ok_ck (fun c1 => ?_)
  refine mm_ok_bl (l := [(.iaload, 1)]) (pc' := 6) (lo' := [some (.ref 52), some (.int a1)]) (st' := [.int (q.1 69 a1.toNatClampNeg)]) (q' := q) (P := (mm_ix a1 50) ∧ (True)) (by decide +kernel) rfl rfl (And.intro (mm_inb_ix c1) trivial) ?_
  exact mm_ok_iret (by decide +kernel)
def x12_body (a1 : Int32) (q : mm_Q) : Option (Int32 × mm_Q) := (mm_cl (x12_within a1.toInt64 (0 : Int64) (7 : Int64) q) (fun r1 q2 => (if r1 = 0 then (some ((-1 : Int32), q2)) else (if (q2.1 52 38) = (50 : Int32) then (some ((-3 : Int32), q2)) else (mm_ck (mm_inb (q2.1 52 38) 50) (mm_lt (mm_si q2 69 (q2.1 52 38).toNatClampNeg a1) (fun q6 => (mm_lt (mm_si q6 52 38 ((q6.1 52 38) + (1 : Int32))) (fun q7 => (some ((q7.1 52 38) - (1 : Int32), q7)))))))))))
set_option maxRecDepth 20000 in
theorem x12_body_ok {L : Nat} {a1 : Int32} {q : mm_Q} {r : Int32} {q1 : mm_Q} (h : x12_body a1 q = some (r, q1)) : mm_Runs 2 269 [.ref 52, .int a1] (mm_wq L q) (mm_cvi r) (mm_wq L q1) := by
  refine mm_runs_of (d := 1) (L := L) rfl (by decide +kernel) rfl rfl (?_ : mm_ok mm_cvi (mm_Runs 1) 12 false cX12_body (some .int) L 0 [some (.ref 52), some (.int a1)] [] q (x12_body a1 q)) h
  unfold x12_body
  refine mm_ok_bl (l := [(.iload 1, 1), (.i2l, 1), (.goto_w (0), 1), (.goto_w (7), 3)]) (pc' := 6) (lo' := [some (.ref 52), some (.int a1)]) (st' := [.long (7 : Int64), .long (0 : Int64), .long a1.toInt64]) (q' := q) (P := (True) ∧ ((True) ∧ ((True) ∧ ((True) ∧ (True))))) (by decide +kernel) rfl rfl (And.intro trivial (And.intro trivial (And.intro trivial (And.intro trivial trivial)))) ?_
  refine mm_ok_call (cz := mm_cvi) (j := .invokestatic 3027) (y := 189) (as := [.long a1.toInt64, .long (0 : Int64), .long (7 : Int64)]) (t := []) (by decide +kernel) rfl (fun _ _ h => mm_up (k := 1) (by decide) (x12_within_ok h)) (fun r1 q2 => ?_)
  refine mm_ok_ifCond_ne (pt := 14) (d := 5) (by decide +kernel) (by decide) (fun k3 => ?_) (fun k3 => ?_)
  · refine mm_ok_bl (l := [(.iconst (-1), 1)]) (pc' := 13) (lo' := [some (.ref 52), some (.int a1)]) (st' := [.int (-1 : Int32)]) (q' := q2) (P := (True) ∧ (True)) (by decide +kernel) rfl rfl (And.intro trivial trivial) ?_
    exact mm_ok_iret (by decide +kernel)
  · refine mm_ok_bl (l := [(.aload 0, 1), (.getfield 806, 3), (.iconst (50), 2)]) (pc' := 20) (lo' := [some (.ref 52), some (.int a1)]) (st' := [.int (50 : Int32), .int (q2.1 52 38)]) (q' := q2) (P := (True) ∧ ((True) ∧ ((True) ∧ (True)))) (by decide +kernel) rfl rfl (And.intro trivial (And.intro trivial (And.intro trivial trivial))) ?_
    refine mm_ok_if_icmp_ne (pt := 26) (d := 6) (by decide +kernel) (by decide) (fun k4 => ?_) (fun k4 => ?_)
    · refine mm_ok_bl (l := [(.iconst (-3), 2)]) (pc' := 25) (lo' := [some (.ref 52), some (.int a1)]) (st' := [.int (-3 : Int32)]) (q' := q2) (P := (True) ∧ (True)) (by decide +kernel) rfl rfl (And.intro trivial trivial) ?_
      exact mm_ok_iret (by decide +kernel)
    · refine mm_ok_bl (l := [(.aload 0, 1), (.getfield 807, 3), (.aload 0, 1), (.getfield 806, 3), (.iload 1, 1)]) (pc' := 35) (lo' := [some (.ref 52), some (.int a1)]) (st' := [.int a1, .int (q2.1 52 38), .ref 69]) (q' := q2) (P := (True) ∧ ((True) ∧ ((True) ∧ ((True) ∧ ((True) ∧ (True)))))) (by decide +kernel) rfl rfl (And.intro trivial (And.intro trivial (And.intro trivial (And.intro trivial (And.intro trivial trivial))))) ?_
      refine mm_ok_ck (fun c5 => ?_)
      refine mm_ok_bl (l := [(.iastore, 1)]) (pc' := 36) (lo' := [some (.ref 52), some (.int a1)]) (st' := []) (q' := (mm_si q2 69 (q2.1 52 38).toNatClampNeg a1)) (P := (mm_ix (q2.1 52 38) 50) ∧ (True)) (by decide +kernel) rfl rfl (And.intro (mm_inb_ix c5) trivial) ?_
      refine mm_ok_lt (fun q6 => ?_)
      refine mm_ok_bl (l := [(.aload 0, 1), (.dup, 1), (.getfield 806, 3), (.iconst (1), 1), (.iadd, 1), (.putfield 806, 3)]) (pc' := 46) (lo' := [some (.ref 52), some (.int a1)]) (st' := []) (q' := (mm_si q6 52 38 ((q6.1 52 38) + (1 : Int32)))) (P := (True) ∧ ((True) ∧ ((True) ∧ ((True) ∧ ((True) ∧ ((True) ∧ (True))))))) (by decide +kernel) rfl rfl (And.intro trivial (And.intro trivial (And.intro trivial (And.intro trivial (And.intro trivial (And.intro trivial trivial)))))) ?_
      refine mm_ok_lt (fun q7 => ?_)
      refine mm_ok_bl (l := [(.aload 0, 1), (.getfield 806, 3), (.iconst (1), 1), (.isub, 1)]) (pc' := 52) (lo' := [some (.ref 52), some (.int a1)]) (st' := [.int ((q7.1 52 38) - (1 : Int32))]) (q' := q7) (P := (True) ∧ ((True) ∧ ((True) ∧ ((True) ∧ (True))))) (by decide +kernel) rfl rfl (And.intro trivial (And.intro trivial (And.intro trivial (And.intro trivial trivial)))) ?_
      exact mm_ok_iret (by decide +kernel)
def x12_above (a1 : Int32) (q : mm_Q) : Option (Int32 × mm_Q) := (if a1 = (3 : Int32) then (some ((2 : Int32), q)) else (if a1 = (4 : Int32) then (some ((1 : Int32), q)) else (if a1 = (5 : Int32) then (some ((3 : Int32), q)) else (if a1 = (7 : Int32) then (some ((4 : Int32), q)) else (some ((0 : Int32), q))))))
set_option maxRecDepth 20000 in
theorem x12_above_ok {L : Nat} {a1 : Int32} {q : mm_Q} {r : Int32} {q1 : mm_Q} (h : x12_above a1 q = some (r, q1)) : mm_Runs 1 270 [.int a1] (mm_wq L q) (mm_cvi r) (mm_wq L q1) := by
  refine mm_runs_of (d := 0) (L := L) rfl (by decide +kernel) rfl rfl (?_ : mm_ok mm_cvi (mm_Runs 0) 12 false cX12_above (some .int) L 0 [some (.int a1)] [] q (x12_above a1 q)) h
  unfold x12_above
  refine mm_ok_bl (l := [(.iload 0, 1), (.iconst (3), 1)]) (pc' := 2) (lo' := [some (.int a1)]) (st' := [.int (3 : Int32), .int a1]) (q' := q) (P := (True) ∧ ((True) ∧ (True))) (by decide +kernel) rfl rfl (And.intro trivial (And.intro trivial trivial)) ?_
  refine mm_ok_if_icmp_ne (pt := 9) (d := 7) (by decide +kernel) (by decide) (fun k1 => ?_) (fun k1 => ?_)
  · refine mm_ok_bl (l := [(.iconst (2), 1)]) (pc' := 6) (lo' := [some (.int a1)]) (st' := [.int (2 : Int32)]) (q' := q) (P := (True) ∧ (True)) (by decide +kernel) rfl rfl (And.intro trivial trivial) ?_
    refine mm_ok_goto (pt := 38) (d := 32) (by decide +kernel) (by decide) ?_
    exact mm_ok_iret (by decide +kernel)
  · refine mm_ok_bl (l := [(.iload 0, 1), (.iconst (4), 1)]) (pc' := 11) (lo' := [some (.int a1)]) (st' := [.int (4 : Int32), .int a1]) (q' := q) (P := (True) ∧ ((True) ∧ (True))) (by decide +kernel) rfl rfl (And.intro trivial (And.intro trivial trivial)) ?_
    refine mm_ok_if_icmp_ne (pt := 18) (d := 7) (by decide +kernel) (by decide) (fun k2 => ?_) (fun k2 => ?_)
    · refine mm_ok_bl (l := [(.iconst (1), 1)]) (pc' := 15) (lo' := [some (.int a1)]) (st' := [.int (1 : Int32)]) (q' := q) (P := (True) ∧ (True)) (by decide +kernel) rfl rfl (And.intro trivial trivial) ?_
      refine mm_ok_goto (pt := 38) (d := 23) (by decide +kernel) (by decide) ?_
      exact mm_ok_iret (by decide +kernel)
    · refine mm_ok_bl (l := [(.iload 0, 1), (.iconst (5), 1)]) (pc' := 20) (lo' := [some (.int a1)]) (st' := [.int (5 : Int32), .int a1]) (q' := q) (P := (True) ∧ ((True) ∧ (True))) (by decide +kernel) rfl rfl (And.intro trivial (And.intro trivial trivial)) ?_
      refine mm_ok_if_icmp_ne (pt := 27) (d := 7) (by decide +kernel) (by decide) (fun k3 => ?_) (fun k3 => ?_)
      · refine mm_ok_bl (l := [(.iconst (3), 1)]) (pc' := 24) (lo' := [some (.int a1)]) (st' := [.int (3 : Int32)]) (q' := q) (P := (True) ∧ (True)) (by decide +kernel) rfl rfl (And.intro trivial trivial) ?_
        refine mm_ok_goto (pt := 38) (d := 14) (by decide +kernel) (by decide) ?_
        exact mm_ok_iret (by decide +kernel)
      · refine mm_ok_bl (l := [(.iload 0, 1), (.iconst (7), 2)]) (pc' := 30) (lo' := [some (.int a1)]) (st' := [.int (7 : Int32), .int a1]) (q' := q) (P := (True) ∧ ((True) ∧ (True))) (by decide +kernel) rfl rfl (And.intro trivial (And.intro trivial trivial)) ?_
        refine mm_ok_if_icmp_ne (pt := 37) (d := 7) (by decide +kernel) (by decide) (fun k4 => ?_) (fun k4 => ?_)
        · refine mm_ok_bl (l := [(.iconst (4), 1)]) (pc' := 34) (lo' := [some (.int a1)]) (st' := [.int (4 : Int32)]) (q' := q) (P := (True) ∧ (True)) (by decide +kernel) rfl rfl (And.intro trivial trivial) ?_
          refine mm_ok_goto (pt := 38) (d := 4) (by decide +kernel) (by decide) ?_
          exact mm_ok_iret (by decide +kernel)
        · refine mm_ok_bl (l := [(.iconst (0), 1)]) (pc' := 38) (lo' := [some (.int a1)]) (st' := [.int (0 : Int32)]) (q' := q) (P := (True) ∧ (True)) (by decide +kernel) rfl rfl (And.intro trivial trivial) ?_
          exact mm_ok_iret (by decide +kernel)
def x12_begins_j19  (q : mm_Q) : Option (Unit × mm_Q) := (mm_lt (mm_si q 52 41 ((q.1 52 41) + (1 : Int32))) (fun q4 => (some ((), q4))))
set_option maxRecDepth 20000 in
theorem x12_begins_j19_ok {L : Nat}  (q : mm_Q) : mm_ok mm_cvu (mm_Runs 0) 12 false cX12_begins none L 19 [some (.ref 52), none] [] q (x12_begins_j19  q) := by
  unfold x12_begins_j19
  refine mm_ok_bl (l := [(.aload 0, 1), (.dup, 1), (.getfield 809, 3), (.iconst (1), 1), (.iadd, 1), (.putfield 809, 3)]) (pc' := 29) (lo' := [some (.ref 52), none]) (st' := []) (q' := (mm_si q 52 41 ((q.1 52 41) + (1 : Int32)))) (P := (True) ∧ ((True) ∧ ((True) ∧ ((True) ∧ ((True) ∧ ((True) ∧ (True))))))) (by decide +kernel) rfl rfl (And.intro trivial (And.intro trivial (And.intro trivial (And.intro trivial (And.intro trivial (And.intro trivial trivial)))))) ?_
  refine mm_ok_lt (fun q4 => ?_)
  exact mm_ok_vret (by decide +kernel)
def x12_begins (a1 : Int32) (q : mm_Q) : Option (Unit × mm_Q) := (if (24 : Int32) ≤ (q.1 52 41) then (x12_begins_j19 q) else (mm_ck (mm_inb (q.1 52 41) 24) (mm_lt (mm_si q 70 (q.1 52 41).toNatClampNeg a1) (fun q3 => (x12_begins_j19 q3)))))
set_option maxRecDepth 20000 in
theorem x12_begins_ok {L : Nat} {a1 : Int32} {q : mm_Q} {r : Unit} {q1 : mm_Q} (h : x12_begins a1 q = some (r, q1)) : mm_Runs 1 271 [.ref 52, .int a1] (mm_wq L q) (mm_cvu r) (mm_wq L q1) := by
  refine mm_runs_of (d := 0) (L := L) rfl (by decide +kernel) rfl rfl (?_ : mm_ok mm_cvu (mm_Runs 0) 12 false cX12_begins none L 0 [some (.ref 52), some (.int a1)] [] q (x12_begins a1 q)) h
  unfold x12_begins
  refine mm_ok_bl (l := [(.aload 0, 1), (.getfield 809, 3), (.iconst (24), 2)]) (pc' := 6) (lo' := [some (.ref 52), some (.int a1)]) (st' := [.int (24 : Int32), .int (q.1 52 41)]) (q' := q) (P := (True) ∧ ((True) ∧ ((True) ∧ (True)))) (by decide +kernel) rfl rfl (And.intro trivial (And.intro trivial (And.intro trivial trivial))) ?_
  refine mm_ok_if_icmp_ge (pt := 19) (d := 13) (by decide +kernel) (by decide) (fun k1 => ?_) (fun k1 => ?_)
  · exact mm_ok_sub (lo := [some (.ref 52), none]) (And.intro rfl trivial) (x12_begins_j19_ok  q)
  · refine mm_ok_bl (l := [(.aload 0, 1), (.getfield 808, 3), (.aload 0, 1), (.getfield 809, 3), (.iload 1, 1)]) (pc' := 18) (lo' := [some (.ref 52), some (.int a1)]) (st' := [.int a1, .int (q.1 52 41), .ref 70]) (q' := q) (P := (True) ∧ ((True) ∧ ((True) ∧ ((True) ∧ ((True) ∧ (True)))))) (by decide +kernel) rfl rfl (And.intro trivial (And.intro trivial (And.intro trivial (And.intro trivial (And.intro trivial trivial))))) ?_
    refine mm_ok_ck (fun c2 => ?_)
    refine mm_ok_bl (l := [(.iastore, 1)]) (pc' := 19) (lo' := [some (.ref 52), some (.int a1)]) (st' := []) (q' := (mm_si q 70 (q.1 52 41).toNatClampNeg a1)) (P := (mm_ix (q.1 52 41) 24) ∧ (True)) (by decide +kernel) rfl rfl (And.intro (mm_inb_ix c2) trivial) ?_
    refine mm_ok_lt (fun q3 => ?_)
    exact mm_ok_sub (lo := [some (.ref 52), none]) (And.intro rfl trivial) (x12_begins_j19_ok  q3)
def x12_spitsAs_j16 (rc : Nat → Int32 → Int32 → mm_Q → Option (Int32 × mm_Q)) (a2 : Int32) (q : mm_Q) : Option (Int32 × mm_Q) := (mm_cl (x12_begins (20 : Int32) q) (fun u11 q12 => (mm_cl (rc 0 (0 : Int32) a2 q12) (fun r13 q14 => (some (r13 + (3 : Int32), q14))))))
set_option maxRecDepth 20000 in
theorem x12_spitsAs_j16_ok {L : Nat} {d : Nat} (rc : Nat → Int32 → Int32 → mm_Q → Option (Int32 × mm_Q)) (hc0 : ∀ (a1 : Int32) (a2 : Int32) (q : mm_Q) (r : Int32) (q1 : mm_Q), rc 0 a1 a2 q = some (r, q1) → mm_Runs (d + 1) 272 [.ref 52, .int a1, .int a2] (mm_wq L q) (mm_cvi r) (mm_wq L q1)) (a2 : Int32) (q : mm_Q) : mm_ok mm_cvi (mm_Runs (d + 1)) 12 false cX12_spitsAs (some .int) L 16 [some (.ref 52), none, some (.int a2)] [] q (x12_spitsAs_j16 rc a2 q) := by
  unfold x12_spitsAs_j16
  refine mm_ok_bl (l := [(.aload 0, 1), (.iconst (20), 2)]) (pc' := 19) (lo' := [some (.ref 52), none, some (.int a2)]) (st' := [.int (20 : Int32), .ref 52]) (q' := q) (P := (True) ∧ ((True) ∧ (True))) (by decide +kernel) rfl rfl (And.intro trivial (And.intro trivial trivial)) ?_
  refine mm_ok_call (cz := mm_cvu) (j := .invokevirtual 4337) (y := 271) (as := [.ref 52, .int (20 : Int32)]) (t := []) (by decide +kernel) rfl (fun _ _ h => mm_upd (k := 1) (by decide) (x12_begins_ok h)) (fun u11 q12 => ?_)
  refine mm_ok_bl (l := [(.aload 0, 1), (.iconst (0), 1), (.iload 2, 1)]) (pc' := 25) (lo' := [some (.ref 52), none, some (.int a2)]) (st' := [.int a2, .int (0 : Int32), .ref 52]) (q' := q12) (P := (True) ∧ ((True) ∧ ((True) ∧ (True)))) (by decide +kernel) rfl rfl (And.intro trivial (And.intro trivial (And.intro trivial trivial))) ?_
  refine mm_ok_call (cz := mm_cvi) (j := .invokevirtual 4354) (y := 272) (as := [.ref 52, .int (0 : Int32), .int a2]) (t := []) (by decide +kernel) rfl (fun _ _ h => hc0 _ _ _ _ _ h) (fun r13 q14 => ?_)
  refine mm_ok_bl (l := [(.iconst (3), 1), (.iadd, 1)]) (pc' := 30) (lo' := [some (.ref 52), none, some (.int a2)]) (st' := [.int (r13 + (3 : Int32))]) (q' := q14) (P := (True) ∧ ((True) ∧ (True))) (by decide +kernel) rfl rfl (And.intro trivial (And.intro trivial trivial)) ?_
  exact mm_ok_iret (by decide +kernel)
def x12_spitsAs (rc : Nat → Int32 → Int32 → mm_Q → Option (Int32 × mm_Q)) (a1 : Int32) (a2 : Int32) (q : mm_Q) : Option (Int32 × mm_Q) := (if a1 = (1 : Int32) then (x12_spitsAs_j16 rc a2 q) else (if a1 = (4 : Int32) then (x12_spitsAs_j16 rc a2 q) else (if a1 = (7 : Int32) then (x12_spitsAs_j16 rc a2 q) else (if a1 = (6 : Int32) then (mm_cl (x12_begins (70 : Int32) q) (fun u5 q6 => (mm_cl (rc 0 (0 : Int32) a2 q6) (fun r7 q8 => (some (r7 * (2 : Int32), q8)))))) else (mm_cl (x12_begins (1 : Int32) q) (fun u9 q10 => (some (a2 + (q10.1 52 43), q10))))))))
set_option maxRecDepth 20000 in
theorem x12_spitsAs_ok {L d : Nat} (rc : Nat → Int32 → Int32 → mm_Q → Option (Int32 × mm_Q)) (hc0 : ∀ (a1 : Int32) (a2 : Int32) (q : mm_Q) (r : Int32) (q1 : mm_Q), rc 0 a1 a2 q = some (r, q1) → mm_Runs (d + 1) 272 [.ref 52, .int a1, .int a2] (mm_wq L q) (mm_cvi r) (mm_wq L q1)) {a1 : Int32} {a2 : Int32} {q : mm_Q} {r : Int32} {q1 : mm_Q} (h : x12_spitsAs rc a1 a2 q = some (r, q1)) : mm_Runs (d + 1 + 1) 272 [.ref 52, .int a1, .int a2] (mm_wq L q) (mm_cvi r) (mm_wq L q1) := by
  refine mm_runs_of (d := d + 1) (L := L) rfl (by decide +kernel) rfl rfl (?_ : mm_ok mm_cvi (mm_Runs (d + 1)) 12 false cX12_spitsAs (some .int) L 0 [some (.ref 52), some (.int a1), some (.int a2)] [] q (x12_spitsAs rc a1 a2 q)) h
  unfold x12_spitsAs
  refine mm_ok_bl (l := [(.iload 1, 1), (.iconst (1), 1)]) (pc' := 2) (lo' := [some (.ref 52), some (.int a1), some (.int a2)]) (st' := [.int (1 : Int32), .int a1]) (q' := q) (P := (True) ∧ ((True) ∧ (True))) (by decide +kernel) rfl rfl (And.intro trivial (And.intro trivial trivial)) ?_
  refine mm_ok_if_icmp_eq (pt := 16) (d := 14) (by decide +kernel) (by decide) (fun k1 => ?_) (fun k1 => ?_)
  · exact mm_ok_sub (lo := [some (.ref 52), none, some (.int a2)]) (And.intro rfl (And.intro rfl trivial)) (x12_spitsAs_j16_ok rc hc0 a2 q)
  · refine mm_ok_bl (l := [(.iload 1, 1), (.iconst (4), 1)]) (pc' := 7) (lo' := [some (.ref 52), some (.int a1), some (.int a2)]) (st' := [.int (4 : Int32), .int a1]) (q' := q) (P := (True) ∧ ((True) ∧ (True))) (by decide +kernel) rfl rfl (And.intro trivial (And.intro trivial trivial)) ?_
    refine mm_ok_if_icmp_eq (pt := 16) (d := 9) (by decide +kernel) (by decide) (fun k2 => ?_) (fun k2 => ?_)
    · exact mm_ok_sub (lo := [some (.ref 52), none, some (.int a2)]) (And.intro rfl (And.intro rfl trivial)) (x12_spitsAs_j16_ok rc hc0 a2 q)
    · refine mm_ok_bl (l := [(.iload 1, 1), (.iconst (7), 2)]) (pc' := 13) (lo' := [some (.ref 52), some (.int a1), some (.int a2)]) (st' := [.int (7 : Int32), .int a1]) (q' := q) (P := (True) ∧ ((True) ∧ (True))) (by decide +kernel) rfl rfl (And.intro trivial (And.intro trivial trivial)) ?_
      refine mm_ok_if_icmp_ne (pt := 31) (d := 18) (by decide +kernel) (by decide) (fun k3 => ?_) (fun k3 => ?_)
      · exact mm_ok_sub (lo := [some (.ref 52), none, some (.int a2)]) (And.intro rfl (And.intro rfl trivial)) (x12_spitsAs_j16_ok rc hc0 a2 q)
      · refine mm_ok_bl (l := [(.iload 1, 1), (.iconst (6), 2)]) (pc' := 34) (lo' := [some (.ref 52), some (.int a1), some (.int a2)]) (st' := [.int (6 : Int32), .int a1]) (q' := q) (P := (True) ∧ ((True) ∧ (True))) (by decide +kernel) rfl rfl (And.intro trivial (And.intro trivial trivial)) ?_
        refine mm_ok_if_icmp_ne (pt := 52) (d := 18) (by decide +kernel) (by decide) (fun k4 => ?_) (fun k4 => ?_)
        · refine mm_ok_bl (l := [(.aload 0, 1), (.iconst (70), 2)]) (pc' := 40) (lo' := [some (.ref 52), some (.int a1), some (.int a2)]) (st' := [.int (70 : Int32), .ref 52]) (q' := q) (P := (True) ∧ ((True) ∧ (True))) (by decide +kernel) rfl rfl (And.intro trivial (And.intro trivial trivial)) ?_
          refine mm_ok_call (cz := mm_cvu) (j := .invokevirtual 4337) (y := 271) (as := [.ref 52, .int (70 : Int32)]) (t := []) (by decide +kernel) rfl (fun _ _ h => mm_upd (k := 1) (by decide) (x12_begins_ok h)) (fun u5 q6 => ?_)
          refine mm_ok_bl (l := [(.aload 0, 1), (.iconst (0), 1), (.iload 2, 1)]) (pc' := 46) (lo' := [some (.ref 52), some (.int a1), some (.int a2)]) (st' := [.int a2, .int (0 : Int32), .ref 52]) (q' := q6) (P := (True) ∧ ((True) ∧ ((True) ∧ (True)))) (by decide +kernel) rfl rfl (And.intro trivial (And.intro trivial (And.intro trivial trivial))) ?_
          refine mm_ok_call (cz := mm_cvi) (j := .invokevirtual 4354) (y := 272) (as := [.ref 52, .int (0 : Int32), .int a2]) (t := []) (by decide +kernel) rfl (fun _ _ h => hc0 _ _ _ _ _ h) (fun r7 q8 => ?_)
          refine mm_ok_bl (l := [(.iconst (2), 1), (.imul, 1)]) (pc' := 51) (lo' := [some (.ref 52), some (.int a1), some (.int a2)]) (st' := [.int (r7 * (2 : Int32))]) (q' := q8) (P := (True) ∧ ((True) ∧ (True))) (by decide +kernel) rfl rfl (And.intro trivial (And.intro trivial trivial)) ?_
          exact mm_ok_iret (by decide +kernel)
        · refine mm_ok_bl (l := [(.aload 0, 1), (.iconst (1), 1)]) (pc' := 54) (lo' := [some (.ref 52), some (.int a1), some (.int a2)]) (st' := [.int (1 : Int32), .ref 52]) (q' := q) (P := (True) ∧ ((True) ∧ (True))) (by decide +kernel) rfl rfl (And.intro trivial (And.intro trivial trivial)) ?_
          refine mm_ok_call (cz := mm_cvu) (j := .invokevirtual 4337) (y := 271) (as := [.ref 52, .int (1 : Int32)]) (t := []) (by decide +kernel) rfl (fun _ _ h => mm_upd (k := 1) (by decide) (x12_begins_ok h)) (fun u9 q10 => ?_)
          refine mm_ok_bl (l := [(.iload 2, 1), (.aload 0, 1), (.getfield 811, 3), (.iadd, 1)]) (pc' := 63) (lo' := [some (.ref 52), some (.int a1), some (.int a2)]) (st' := [.int (a2 + (q10.1 52 43))]) (q' := q10) (P := (True) ∧ ((True) ∧ ((True) ∧ ((True) ∧ (True))))) (by decide +kernel) rfl rfl (And.intro trivial (And.intro trivial (And.intro trivial (And.intro trivial trivial)))) ?_
          exact mm_ok_iret (by decide +kernel)
def g_x12_spitsAs : Nat → Nat → Int32 → Int32 → mm_Q → Option (Int32 × mm_Q)
  | 0, _, _, _, _ => none
  | d + 1, _, a1, a2, q => x12_spitsAs (g_x12_spitsAs d) a1 a2 q
set_option maxRecDepth 20000 in
theorem g_x12_spitsAs_ok {L : Nat} : ∀ d : Nat, (∀ (a1 : Int32) (a2 : Int32) (q : mm_Q) (r : Int32) (q1 : mm_Q), g_x12_spitsAs d 0 a1 a2 q = some (r, q1) → mm_Runs (d + 1) 272 [.ref 52, .int a1, .int a2] (mm_wq L q) (mm_cvi r) (mm_wq L q1))
  | 0 => (fun _ _ _ _ _ h => by cases h)
  | d + 1 => (fun _ _ _ _ _ h => x12_spitsAs_ok (d := d) (g_x12_spitsAs d) ((g_x12_spitsAs_ok d)) h)
def x12_rollsAs_j10 (rc : Nat → Int32 → Int32 → mm_Q → Option (Int32 × mm_Q)) (a2 : Int32) (q : mm_Q) : Option (Int32 × mm_Q) := (mm_cl (x12_begins (40 : Int32) q) (fun u7 q8 => (mm_cl (rc 0 (2 : Int32) a2 q8) (fun r9 q10 => (some (r9 * (3 : Int32), q10))))))
set_option maxRecDepth 20000 in
theorem x12_rollsAs_j10_ok {L : Nat} {d : Nat} (rc : Nat → Int32 → Int32 → mm_Q → Option (Int32 × mm_Q)) (hc0 : ∀ (a1 : Int32) (a2 : Int32) (q : mm_Q) (r : Int32) (q1 : mm_Q), rc 0 a1 a2 q = some (r, q1) → mm_Runs (d + 101) 274 [.ref 52, .int a1, .int a2] (mm_wq L q) (mm_cvi r) (mm_wq L q1)) (a2 : Int32) (q : mm_Q) : mm_ok mm_cvi (mm_Runs (d + 101)) 12 false cX12_rollsAs (some .int) L 10 [some (.ref 52), none, some (.int a2), none] [] q (x12_rollsAs_j10 rc a2 q) := by
  unfold x12_rollsAs_j10
  refine mm_ok_bl (l := [(.aload 0, 1), (.iconst (40), 2)]) (pc' := 13) (lo' := [some (.ref 52), none, some (.int a2), none]) (st' := [.int (40 : Int32), .ref 52]) (q' := q) (P := (True) ∧ ((True) ∧ (True))) (by decide +kernel) rfl rfl (And.intro trivial (And.intro trivial trivial)) ?_
  refine mm_ok_call (cz := mm_cvu) (j := .invokevirtual 4337) (y := 271) (as := [.ref 52, .int (40 : Int32)]) (t := []) (by decide +kernel) rfl (fun _ _ h => mm_upd (k := 1) (by decide) (x12_begins_ok h)) (fun u7 q8 => ?_)
  refine mm_ok_bl (l := [(.aload 0, 1), (.iconst (2), 1), (.iload 2, 1)]) (pc' := 19) (lo' := [some (.ref 52), none, some (.int a2), none]) (st' := [.int a2, .int (2 : Int32), .ref 52]) (q' := q8) (P := (True) ∧ ((True) ∧ ((True) ∧ (True)))) (by decide +kernel) rfl rfl (And.intro trivial (And.intro trivial (And.intro trivial trivial))) ?_
  refine mm_ok_call (cz := mm_cvi) (j := .invokevirtual 4386) (y := 274) (as := [.ref 52, .int (2 : Int32), .int a2]) (t := []) (by decide +kernel) rfl (fun _ _ h => hc0 _ _ _ _ _ h) (fun r9 q10 => ?_)
  refine mm_ok_bl (l := [(.iconst (3), 1), (.imul, 1)]) (pc' := 24) (lo' := [some (.ref 52), none, some (.int a2), none]) (st' := [.int (r9 * (3 : Int32))]) (q' := q10) (P := (True) ∧ ((True) ∧ (True))) (by decide +kernel) rfl rfl (And.intro trivial (And.intro trivial trivial)) ?_
  exact mm_ok_iret (by decide +kernel)
def x12_rollsAs_j36 (rc : Nat → Int32 → Int32 → mm_Q → Option (Int32 × mm_Q)) (a2 : Int32) (q : mm_Q) : Option (Int32 × mm_Q) := (mm_cl (x12_begins (50 : Int32) q) (fun u11 q12 => (mm_cl (rc 0 (1 : Int32) a2 q12) (fun r13 q14 => (mm_cl (g_x12_spitsAs 100 0 (q14.1 52 42) (2 : Int32) q14) (fun r15 q16 => (some (r13 - r15, q16))))))))
set_option maxRecDepth 20000 in
theorem x12_rollsAs_j36_ok {L : Nat} {d : Nat} (rc : Nat → Int32 → Int32 → mm_Q → Option (Int32 × mm_Q)) (hc0 : ∀ (a1 : Int32) (a2 : Int32) (q : mm_Q) (r : Int32) (q1 : mm_Q), rc 0 a1 a2 q = some (r, q1) → mm_Runs (d + 101) 274 [.ref 52, .int a1, .int a2] (mm_wq L q) (mm_cvi r) (mm_wq L q1)) (a2 : Int32) (q : mm_Q) : mm_ok mm_cvi (mm_Runs (d + 101)) 12 false cX12_rollsAs (some .int) L 36 [some (.ref 52), none, some (.int a2), none] [] q (x12_rollsAs_j36 rc a2 q) := by
  unfold x12_rollsAs_j36
  refine mm_ok_bl (l := [(.aload 0, 1), (.iconst (50), 2)]) (pc' := 39) (lo' := [some (.ref 52), none, some (.int a2), none]) (st' := [.int (50 : Int32), .ref 52]) (q' := q) (P := (True) ∧ ((True) ∧ (True))) (by decide +kernel) rfl rfl (And.intro trivial (And.intro trivial trivial)) ?_
  refine mm_ok_call (cz := mm_cvu) (j := .invokevirtual 4337) (y := 271) (as := [.ref 52, .int (50 : Int32)]) (t := []) (by decide +kernel) rfl (fun _ _ h => mm_upd (k := 1) (by decide) (x12_begins_ok h)) (fun u11 q12 => ?_)
  refine mm_ok_bl (l := [(.aload 0, 1), (.iconst (1), 1), (.iload 2, 1)]) (pc' := 45) (lo' := [some (.ref 52), none, some (.int a2), none]) (st' := [.int a2, .int (1 : Int32), .ref 52]) (q' := q12) (P := (True) ∧ ((True) ∧ ((True) ∧ (True)))) (by decide +kernel) rfl rfl (And.intro trivial (And.intro trivial (And.intro trivial trivial))) ?_
  refine mm_ok_call (cz := mm_cvi) (j := .invokevirtual 4386) (y := 274) (as := [.ref 52, .int (1 : Int32), .int a2]) (t := []) (by decide +kernel) rfl (fun _ _ h => hc0 _ _ _ _ _ h) (fun r13 q14 => ?_)
  refine mm_ok_bl (l := [(.istore 3, 1), (.iload 3, 1), (.aload 0, 1), (.aload 0, 1), (.getfield 810, 3), (.iconst (2), 1)]) (pc' := 56) (lo' := [some (.ref 52), none, some (.int a2), some (.int r13)]) (st' := [.int (2 : Int32), .int (q14.1 52 42), .ref 52, .int r13]) (q' := q14) (P := (True) ∧ ((True) ∧ ((True) ∧ ((True) ∧ ((True) ∧ ((True) ∧ (True))))))) (by decide +kernel) rfl rfl (And.intro trivial (And.intro trivial (And.intro trivial (And.intro trivial (And.intro trivial (And.intro trivial trivial)))))) ?_
  refine mm_ok_call (cz := mm_cvi) (j := .invokevirtual 4354) (y := 272) (as := [.ref 52, .int (q14.1 52 42), .int (2 : Int32)]) (t := [.int r13]) (by decide +kernel) rfl (fun _ _ h => mm_upd (k := 101) (by decide) ((g_x12_spitsAs_ok 100) _ _ _ _ _ h)) (fun r15 q16 => ?_)
  refine mm_ok_bl (l := [(.isub, 1)]) (pc' := 60) (lo' := [some (.ref 52), none, some (.int a2), some (.int r13)]) (st' := [.int (r13 - r15)]) (q' := q16) (P := (True) ∧ (True)) (by decide +kernel) rfl rfl (And.intro trivial trivial) ?_
  exact mm_ok_iret (by decide +kernel)
def x12_rollsAs (rc : Nat → Int32 → Int32 → mm_Q → Option (Int32 × mm_Q)) (a1 : Int32) (a2 : Int32) (q : mm_Q) : Option (Int32 × mm_Q) := (if a1 = (3 : Int32) then (x12_rollsAs_j10 rc a2 q) else (if a1 = (5 : Int32) then (x12_rollsAs_j10 rc a2 q) else (if a1 = (4 : Int32) then (x12_rollsAs_j36 rc a2 q) else (if a1 = (7 : Int32) then (x12_rollsAs_j36 rc a2 q) else (mm_cl (x12_begins (11 : Int32) q) (fun u5 q6 => (some (a2 ^^^ (q6.1 52 43), q6))))))))
set_option maxRecDepth 20000 in
theorem x12_rollsAs_ok {L d : Nat} (rc : Nat → Int32 → Int32 → mm_Q → Option (Int32 × mm_Q)) (hc0 : ∀ (a1 : Int32) (a2 : Int32) (q : mm_Q) (r : Int32) (q1 : mm_Q), rc 0 a1 a2 q = some (r, q1) → mm_Runs (d + 101) 274 [.ref 52, .int a1, .int a2] (mm_wq L q) (mm_cvi r) (mm_wq L q1)) {a1 : Int32} {a2 : Int32} {q : mm_Q} {r : Int32} {q1 : mm_Q} (h : x12_rollsAs rc a1 a2 q = some (r, q1)) : mm_Runs (d + 101 + 1) 274 [.ref 52, .int a1, .int a2] (mm_wq L q) (mm_cvi r) (mm_wq L q1) := by
  refine mm_runs_of (d := d + 101) (L := L) rfl (by decide +kernel) rfl rfl (?_ : mm_ok mm_cvi (mm_Runs (d + 101)) 12 false cX12_rollsAs (some .int) L 0 [some (.ref 52), some (.int a1), some (.int a2), none] [] q (x12_rollsAs rc a1 a2 q)) h
  unfold x12_rollsAs
  refine mm_ok_bl (l := [(.iload 1, 1), (.iconst (3), 1)]) (pc' := 2) (lo' := [some (.ref 52), some (.int a1), some (.int a2), none]) (st' := [.int (3 : Int32), .int a1]) (q' := q) (P := (True) ∧ ((True) ∧ (True))) (by decide +kernel) rfl rfl (And.intro trivial (And.intro trivial trivial)) ?_
  refine mm_ok_if_icmp_eq (pt := 10) (d := 8) (by decide +kernel) (by decide) (fun k1 => ?_) (fun k1 => ?_)
  · exact mm_ok_sub (lo := [some (.ref 52), none, some (.int a2), none]) (And.intro rfl (And.intro rfl trivial)) (x12_rollsAs_j10_ok rc hc0 a2 q)
  · refine mm_ok_bl (l := [(.iload 1, 1), (.iconst (5), 1)]) (pc' := 7) (lo' := [some (.ref 52), some (.int a1), some (.int a2), none]) (st' := [.int (5 : Int32), .int a1]) (q' := q) (P := (True) ∧ ((True) ∧ (True))) (by decide +kernel) rfl rfl (And.intro trivial (And.intro trivial trivial)) ?_
    refine mm_ok_if_icmp_ne (pt := 25) (d := 18) (by decide +kernel) (by decide) (fun k2 => ?_) (fun k2 => ?_)
    · exact mm_ok_sub (lo := [some (.ref 52), none, some (.int a2), none]) (And.intro rfl (And.intro rfl trivial)) (x12_rollsAs_j10_ok rc hc0 a2 q)
    · refine mm_ok_bl (l := [(.iload 1, 1), (.iconst (4), 1)]) (pc' := 27) (lo' := [some (.ref 52), some (.int a1), some (.int a2), none]) (st' := [.int (4 : Int32), .int a1]) (q' := q) (P := (True) ∧ ((True) ∧ (True))) (by decide +kernel) rfl rfl (And.intro trivial (And.intro trivial trivial)) ?_
      refine mm_ok_if_icmp_eq (pt := 36) (d := 9) (by decide +kernel) (by decide) (fun k3 => ?_) (fun k3 => ?_)
      · exact mm_ok_sub (lo := [some (.ref 52), none, some (.int a2), none]) (And.intro rfl (And.intro rfl trivial)) (x12_rollsAs_j36_ok rc hc0 a2 q)
      · refine mm_ok_bl (l := [(.iload 1, 1), (.iconst (7), 2)]) (pc' := 33) (lo' := [some (.ref 52), some (.int a1), some (.int a2), none]) (st' := [.int (7 : Int32), .int a1]) (q' := q) (P := (True) ∧ ((True) ∧ (True))) (by decide +kernel) rfl rfl (And.intro trivial (And.intro trivial trivial)) ?_
        refine mm_ok_if_icmp_ne (pt := 61) (d := 28) (by decide +kernel) (by decide) (fun k4 => ?_) (fun k4 => ?_)
        · exact mm_ok_sub (lo := [some (.ref 52), none, some (.int a2), none]) (And.intro rfl (And.intro rfl trivial)) (x12_rollsAs_j36_ok rc hc0 a2 q)
        · refine mm_ok_bl (l := [(.aload 0, 1), (.iconst (11), 2)]) (pc' := 64) (lo' := [some (.ref 52), some (.int a1), some (.int a2), none]) (st' := [.int (11 : Int32), .ref 52]) (q' := q) (P := (True) ∧ ((True) ∧ (True))) (by decide +kernel) rfl rfl (And.intro trivial (And.intro trivial trivial)) ?_
          refine mm_ok_call (cz := mm_cvu) (j := .invokevirtual 4337) (y := 271) (as := [.ref 52, .int (11 : Int32)]) (t := []) (by decide +kernel) rfl (fun _ _ h => mm_upd (k := 1) (by decide) (x12_begins_ok h)) (fun u5 q6 => ?_)
          refine mm_ok_bl (l := [(.iload 2, 1), (.aload 0, 1), (.getfield 811, 3), (.ixor, 1)]) (pc' := 73) (lo' := [some (.ref 52), some (.int a1), some (.int a2), none]) (st' := [.int (a2 ^^^ (q6.1 52 43))]) (q' := q6) (P := (True) ∧ ((True) ∧ ((True) ∧ ((True) ∧ (True))))) (by decide +kernel) rfl rfl (And.intro trivial (And.intro trivial (And.intro trivial (And.intro trivial trivial)))) ?_
          exact mm_ok_iret (by decide +kernel)
def g_x12_rollsAs : Nat → Nat → Int32 → Int32 → mm_Q → Option (Int32 × mm_Q)
  | 0, _, _, _, _ => none
  | d + 1, _, a1, a2, q => x12_rollsAs (g_x12_rollsAs d) a1 a2 q
set_option maxRecDepth 20000 in
theorem g_x12_rollsAs_ok {L : Nat} : ∀ d : Nat, (∀ (a1 : Int32) (a2 : Int32) (q : mm_Q) (r : Int32) (q1 : mm_Q), g_x12_rollsAs d 0 a1 a2 q = some (r, q1) → mm_Runs (d + 101) 274 [.ref 52, .int a1, .int a2] (mm_wq L q) (mm_cvi r) (mm_wq L q1))
  | 0 => (fun _ _ _ _ _ h => by cases h)
  | d + 1 => (fun _ _ _ _ _ h => x12_rollsAs_ok (d := d) (g_x12_rollsAs d) ((g_x12_rollsAs_ok d)) h)
def x12_landsAs_j10 (rc : Nat → Int32 → Int32 → mm_Q → Option (Int32 × mm_Q)) (a2 : Int32) (q : mm_Q) : Option (Int32 × mm_Q) := (mm_cl (x12_begins (41 : Int32) q) (fun u19 q20 => (mm_cl (rc 0 (2 : Int32) (a2 + (1 : Int32)) q20) (fun r21 q22 => (some (r21, q22))))))
set_option maxRecDepth 20000 in
theorem x12_landsAs_j10_ok {L : Nat} {d : Nat} (rc : Nat → Int32 → Int32 → mm_Q → Option (Int32 × mm_Q)) (hc0 : ∀ (a1 : Int32) (a2 : Int32) (q : mm_Q) (r : Int32) (q1 : mm_Q), rc 0 a1 a2 q = some (r, q1) → mm_Runs (d + 201) 273 [.ref 52, .int a1, .int a2] (mm_wq L q) (mm_cvi r) (mm_wq L q1)) (a2 : Int32) (q : mm_Q) : mm_ok mm_cvi (mm_Runs (d + 201)) 12 false cX12_landsAs (some .int) L 10 [some (.ref 52), none, some (.int a2), none] [] q (x12_landsAs_j10 rc a2 q) := by
  unfold x12_landsAs_j10
  refine mm_ok_bl (l := [(.aload 0, 1), (.iconst (41), 2)]) (pc' := 13) (lo' := [some (.ref 52), none, some (.int a2), none]) (st' := [.int (41 : Int32), .ref 52]) (q' := q) (P := (True) ∧ ((True) ∧ (True))) (by decide +kernel) rfl rfl (And.intro trivial (And.intro trivial trivial)) ?_
  refine mm_ok_call (cz := mm_cvu) (j := .invokevirtual 4337) (y := 271) (as := [.ref 52, .int (41 : Int32)]) (t := []) (by decide +kernel) rfl (fun _ _ h => mm_upd (k := 1) (by decide) (x12_begins_ok h)) (fun u19 q20 => ?_)
  refine mm_ok_bl (l := [(.aload 0, 1), (.iconst (2), 1), (.iload 2, 1), (.iconst (1), 1), (.iadd, 1)]) (pc' := 21) (lo' := [some (.ref 52), none, some (.int a2), none]) (st' := [.int (a2 + (1 : Int32)), .int (2 : Int32), .ref 52]) (q' := q20) (P := (True) ∧ ((True) ∧ ((True) ∧ ((True) ∧ ((True) ∧ (True)))))) (by decide +kernel) rfl rfl (And.intro trivial (And.intro trivial (And.intro trivial (And.intro trivial (And.intro trivial trivial))))) ?_
  refine mm_ok_call (cz := mm_cvi) (j := .invokevirtual 4370) (y := 273) (as := [.ref 52, .int (2 : Int32), .int (a2 + (1 : Int32))]) (t := []) (by decide +kernel) rfl (fun _ _ h => hc0 _ _ _ _ _ h) (fun r21 q22 => ?_)
  exact mm_ok_iret (by decide +kernel)
def x12_landsAs (rc : Nat → Int32 → Int32 → mm_Q → Option (Int32 × mm_Q)) (a1 : Int32) (a2 : Int32) (q : mm_Q) : Option (Int32 × mm_Q) := (if a1 = (3 : Int32) then (x12_landsAs_j10 rc a2 q) else (if a1 = (5 : Int32) then (x12_landsAs_j10 rc a2 q) else (if a1 = (2 : Int32) then (mm_cl (x12_begins (30 : Int32) q) (fun u4 q5 => (mm_cl (rc 0 (0 : Int32) a2 q5) (fun r6 q7 => (some (-r6, q7)))))) else (if a1 = (7 : Int32) then (mm_cl (x12_begins (80 : Int32) q) (fun u9 q10 => (mm_cl (rc 0 (4 : Int32) a2 q10) (fun r11 q12 => (mm_cl (g_x12_rollsAs 100 0 (q12.1 52 42) (2 : Int32) q12) (fun r13 q14 => (some (r11 + r13, q14)))))))) else (mm_cl (x12_begins (10 : Int32) q) (fun u15 q16 => (mm_cl (g_x12_spitsAs 100 0 (q16.1 52 42) a2 q16) (fun r17 q18 => (some (r17 * (2 : Int32), q18))))))))))
set_option maxRecDepth 20000 in
theorem x12_landsAs_ok {L d : Nat} (rc : Nat → Int32 → Int32 → mm_Q → Option (Int32 × mm_Q)) (hc0 : ∀ (a1 : Int32) (a2 : Int32) (q : mm_Q) (r : Int32) (q1 : mm_Q), rc 0 a1 a2 q = some (r, q1) → mm_Runs (d + 201) 273 [.ref 52, .int a1, .int a2] (mm_wq L q) (mm_cvi r) (mm_wq L q1)) {a1 : Int32} {a2 : Int32} {q : mm_Q} {r : Int32} {q1 : mm_Q} (h : x12_landsAs rc a1 a2 q = some (r, q1)) : mm_Runs (d + 201 + 1) 273 [.ref 52, .int a1, .int a2] (mm_wq L q) (mm_cvi r) (mm_wq L q1) := by
  refine mm_runs_of (d := d + 201) (L := L) rfl (by decide +kernel) rfl rfl (?_ : mm_ok mm_cvi (mm_Runs (d + 201)) 12 false cX12_landsAs (some .int) L 0 [some (.ref 52), some (.int a1), some (.int a2), none] [] q (x12_landsAs rc a1 a2 q)) h
  unfold x12_landsAs
  refine mm_ok_bl (l := [(.iload 1, 1), (.iconst (3), 1)]) (pc' := 2) (lo' := [some (.ref 52), some (.int a1), some (.int a2), none]) (st' := [.int (3 : Int32), .int a1]) (q' := q) (P := (True) ∧ ((True) ∧ (True))) (by decide +kernel) rfl rfl (And.intro trivial (And.intro trivial trivial)) ?_
  refine mm_ok_if_icmp_eq (pt := 10) (d := 8) (by decide +kernel) (by decide) (fun k1 => ?_) (fun k1 => ?_)
  · exact mm_ok_sub (lo := [some (.ref 52), none, some (.int a2), none]) (And.intro rfl (And.intro rfl trivial)) (x12_landsAs_j10_ok rc hc0 a2 q)
  · refine mm_ok_bl (l := [(.iload 1, 1), (.iconst (5), 1)]) (pc' := 7) (lo' := [some (.ref 52), some (.int a1), some (.int a2), none]) (st' := [.int (5 : Int32), .int a1]) (q' := q) (P := (True) ∧ ((True) ∧ (True))) (by decide +kernel) rfl rfl (And.intro trivial (And.intro trivial trivial)) ?_
    refine mm_ok_if_icmp_ne (pt := 25) (d := 18) (by decide +kernel) (by decide) (fun k2 => ?_) (fun k2 => ?_)
    · exact mm_ok_sub (lo := [some (.ref 52), none, some (.int a2), none]) (And.intro rfl (And.intro rfl trivial)) (x12_landsAs_j10_ok rc hc0 a2 q)
    · refine mm_ok_bl (l := [(.iload 1, 1), (.iconst (2), 1)]) (pc' := 27) (lo' := [some (.ref 52), some (.int a1), some (.int a2), none]) (st' := [.int (2 : Int32), .int a1]) (q' := q) (P := (True) ∧ ((True) ∧ (True))) (by decide +kernel) rfl rfl (And.intro trivial (And.intro trivial trivial)) ?_
      refine mm_ok_if_icmp_ne (pt := 44) (d := 17) (by decide +kernel) (by decide) (fun k3 => ?_) (fun k3 => ?_)
      · refine mm_ok_bl (l := [(.aload 0, 1), (.iconst (30), 2)]) (pc' := 33) (lo' := [some (.ref 52), some (.int a1), some (.int a2), none]) (st' := [.int (30 : Int32), .ref 52]) (q' := q) (P := (True) ∧ ((True) ∧ (True))) (by decide +kernel) rfl rfl (And.intro trivial (And.intro trivial trivial)) ?_
        refine mm_ok_call (cz := mm_cvu) (j := .invokevirtual 4337) (y := 271) (as := [.ref 52, .int (30 : Int32)]) (t := []) (by decide +kernel) rfl (fun _ _ h => mm_upd (k := 1) (by decide) (x12_begins_ok h)) (fun u4 q5 => ?_)
        refine mm_ok_bl (l := [(.aload 0, 1), (.iconst (0), 1), (.iload 2, 1)]) (pc' := 39) (lo' := [some (.ref 52), some (.int a1), some (.int a2), none]) (st' := [.int a2, .int (0 : Int32), .ref 52]) (q' := q5) (P := (True) ∧ ((True) ∧ ((True) ∧ (True)))) (by decide +kernel) rfl rfl (And.intro trivial (And.intro trivial (And.intro trivial trivial))) ?_
        refine mm_ok_call (cz := mm_cvi) (j := .invokevirtual 4370) (y := 273) (as := [.ref 52, .int (0 : Int32), .int a2]) (t := []) (by decide +kernel) rfl (fun _ _ h => hc0 _ _ _ _ _ h) (fun r6 q7 => ?_)
        refine mm_ok_bl (l := [(.ineg, 1)]) (pc' := 43) (lo' := [some (.ref 52), some (.int a1), some (.int a2), none]) (st' := [.int (-r6)]) (q' := q7) (P := (True) ∧ (True)) (by decide +kernel) rfl rfl (And.intro trivial trivial) ?_
        exact mm_ok_iret (by decide +kernel)
      · refine mm_ok_bl (l := [(.iload 1, 1), (.iconst (7), 2)]) (pc' := 47) (lo' := [some (.ref 52), some (.int a1), some (.int a2), none]) (st' := [.int (7 : Int32), .int a1]) (q' := q) (P := (True) ∧ ((True) ∧ (True))) (by decide +kernel) rfl rfl (And.intro trivial (And.intro trivial trivial)) ?_
        refine mm_ok_if_icmp_ne (pt := 75) (d := 28) (by decide +kernel) (by decide) (fun k8 => ?_) (fun k8 => ?_)
        · refine mm_ok_bl (l := [(.aload 0, 1), (.iconst (80), 2)]) (pc' := 53) (lo' := [some (.ref 52), some (.int a1), some (.int a2), none]) (st' := [.int (80 : Int32), .ref 52]) (q' := q) (P := (True) ∧ ((True) ∧ (True))) (by decide +kernel) rfl rfl (And.intro trivial (And.intro trivial trivial)) ?_
          refine mm_ok_call (cz := mm_cvu) (j := .invokevirtual 4337) (y := 271) (as := [.ref 52, .int (80 : Int32)]) (t := []) (by decide +kernel) rfl (fun _ _ h => mm_upd (k := 1) (by decide) (x12_begins_ok h)) (fun u9 q10 => ?_)
          refine mm_ok_bl (l := [(.aload 0, 1), (.iconst (4), 1), (.iload 2, 1)]) (pc' := 59) (lo' := [some (.ref 52), some (.int a1), some (.int a2), none]) (st' := [.int a2, .int (4 : Int32), .ref 52]) (q' := q10) (P := (True) ∧ ((True) ∧ ((True) ∧ (True)))) (by decide +kernel) rfl rfl (And.intro trivial (And.intro trivial (And.intro trivial trivial))) ?_
          refine mm_ok_call (cz := mm_cvi) (j := .invokevirtual 4370) (y := 273) (as := [.ref 52, .int (4 : Int32), .int a2]) (t := []) (by decide +kernel) rfl (fun _ _ h => hc0 _ _ _ _ _ h) (fun r11 q12 => ?_)
          refine mm_ok_bl (l := [(.istore 3, 1), (.iload 3, 1), (.aload 0, 1), (.aload 0, 1), (.getfield 810, 3), (.iconst (2), 1)]) (pc' := 70) (lo' := [some (.ref 52), some (.int a1), some (.int a2), some (.int r11)]) (st' := [.int (2 : Int32), .int (q12.1 52 42), .ref 52, .int r11]) (q' := q12) (P := (True) ∧ ((True) ∧ ((True) ∧ ((True) ∧ ((True) ∧ ((True) ∧ (True))))))) (by decide +kernel) rfl rfl (And.intro trivial (And.intro trivial (And.intro trivial (And.intro trivial (And.intro trivial (And.intro trivial trivial)))))) ?_
          refine mm_ok_call (cz := mm_cvi) (j := .invokevirtual 4386) (y := 274) (as := [.ref 52, .int (q12.1 52 42), .int (2 : Int32)]) (t := [.int r11]) (by decide +kernel) rfl (fun _ _ h => mm_upd (k := 201) (by decide) ((g_x12_rollsAs_ok 100) _ _ _ _ _ h)) (fun r13 q14 => ?_)
          refine mm_ok_bl (l := [(.iadd, 1)]) (pc' := 74) (lo' := [some (.ref 52), some (.int a1), some (.int a2), some (.int r11)]) (st' := [.int (r11 + r13)]) (q' := q14) (P := (True) ∧ (True)) (by decide +kernel) rfl rfl (And.intro trivial trivial) ?_
          exact mm_ok_iret (by decide +kernel)
        · refine mm_ok_bl (l := [(.aload 0, 1), (.iconst (10), 2)]) (pc' := 78) (lo' := [some (.ref 52), some (.int a1), some (.int a2), none]) (st' := [.int (10 : Int32), .ref 52]) (q' := q) (P := (True) ∧ ((True) ∧ (True))) (by decide +kernel) rfl rfl (And.intro trivial (And.intro trivial trivial)) ?_
          refine mm_ok_call (cz := mm_cvu) (j := .invokevirtual 4337) (y := 271) (as := [.ref 52, .int (10 : Int32)]) (t := []) (by decide +kernel) rfl (fun _ _ h => mm_upd (k := 1) (by decide) (x12_begins_ok h)) (fun u15 q16 => ?_)
          refine mm_ok_bl (l := [(.aload 0, 1), (.aload 0, 1), (.getfield 810, 3), (.iload 2, 1)]) (pc' := 87) (lo' := [some (.ref 52), some (.int a1), some (.int a2), none]) (st' := [.int a2, .int (q16.1 52 42), .ref 52]) (q' := q16) (P := (True) ∧ ((True) ∧ ((True) ∧ ((True) ∧ (True))))) (by decide +kernel) rfl rfl (And.intro trivial (And.intro trivial (And.intro trivial (And.intro trivial trivial)))) ?_
          refine mm_ok_call (cz := mm_cvi) (j := .invokevirtual 4354) (y := 272) (as := [.ref 52, .int (q16.1 52 42), .int a2]) (t := []) (by decide +kernel) rfl (fun _ _ h => mm_upd (k := 101) (by decide) ((g_x12_spitsAs_ok 100) _ _ _ _ _ h)) (fun r17 q18 => ?_)
          refine mm_ok_bl (l := [(.iconst (2), 1), (.imul, 1)]) (pc' := 92) (lo' := [some (.ref 52), some (.int a1), some (.int a2), none]) (st' := [.int (r17 * (2 : Int32))]) (q' := q18) (P := (True) ∧ ((True) ∧ (True))) (by decide +kernel) rfl rfl (And.intro trivial (And.intro trivial trivial)) ?_
          exact mm_ok_iret (by decide +kernel)
def g_x12_landsAs : Nat → Nat → Int32 → Int32 → mm_Q → Option (Int32 × mm_Q)
  | 0, _, _, _, _ => none
  | d + 1, _, a1, a2, q => x12_landsAs (g_x12_landsAs d) a1 a2 q
set_option maxRecDepth 20000 in
theorem g_x12_landsAs_ok {L : Nat} : ∀ d : Nat, (∀ (a1 : Int32) (a2 : Int32) (q : mm_Q) (r : Int32) (q1 : mm_Q), g_x12_landsAs d 0 a1 a2 q = some (r, q1) → mm_Runs (d + 201) 273 [.ref 52, .int a1, .int a2] (mm_wq L q) (mm_cvi r) (mm_wq L q1))
  | 0 => (fun _ _ _ _ _ h => by cases h)
  | d + 1 => (fun _ _ _ _ _ h => x12_landsAs_ok (d := d) (g_x12_landsAs d) ((g_x12_landsAs_ok d)) h)
def x12_tellsAs (rc : Nat → Int32 → Int32 → mm_Q → Option (Int32 × mm_Q)) (a1 : Int32) (a2 : Int32) (q : mm_Q) : Option (Int32 × mm_Q) := (if a1 = (5 : Int32) then (mm_cl (x12_begins (60 : Int32) q) (fun u2 q3 => (mm_cl (rc 0 (3 : Int32) a2 q3) (fun r4 q5 => (some (r4 ^^^ (5 : Int32), q5)))))) else (if a1 = (7 : Int32) then (mm_cl (x12_begins (81 : Int32) q) (fun u7 q8 => (mm_cl (rc 0 (4 : Int32) a2 q8) (fun r9 q10 => (some (r9 - (1 : Int32), q10)))))) else (mm_cl (x12_begins (2 : Int32) q) (fun u11 q12 => (mm_cl (g_x12_landsAs 100 0 (q12.1 52 42) a2 q12) (fun r13 q14 => (mm_cl (g_x12_rollsAs 100 0 (q14.1 52 42) (1 : Int32) q14) (fun r15 q16 => (some (r13 - r15, q16))))))))))
set_option maxRecDepth 20000 in
theorem x12_tellsAs_ok {L d : Nat} (rc : Nat → Int32 → Int32 → mm_Q → Option (Int32 × mm_Q)) (hc0 : ∀ (a1 : Int32) (a2 : Int32) (q : mm_Q) (r : Int32) (q1 : mm_Q), rc 0 a1 a2 q = some (r, q1) → mm_Runs (d + 301) 275 [.ref 52, .int a1, .int a2] (mm_wq L q) (mm_cvi r) (mm_wq L q1)) {a1 : Int32} {a2 : Int32} {q : mm_Q} {r : Int32} {q1 : mm_Q} (h : x12_tellsAs rc a1 a2 q = some (r, q1)) : mm_Runs (d + 301 + 1) 275 [.ref 52, .int a1, .int a2] (mm_wq L q) (mm_cvi r) (mm_wq L q1) := by
  refine mm_runs_of (d := d + 301) (L := L) rfl (by decide +kernel) rfl rfl (?_ : mm_ok mm_cvi (mm_Runs (d + 301)) 12 false cX12_tellsAs (some .int) L 0 [some (.ref 52), some (.int a1), some (.int a2), none] [] q (x12_tellsAs rc a1 a2 q)) h
  unfold x12_tellsAs
  refine mm_ok_bl (l := [(.iload 1, 1), (.iconst (5), 1)]) (pc' := 2) (lo' := [some (.ref 52), some (.int a1), some (.int a2), none]) (st' := [.int (5 : Int32), .int a1]) (q' := q) (P := (True) ∧ ((True) ∧ (True))) (by decide +kernel) rfl rfl (And.intro trivial (And.intro trivial trivial)) ?_
  refine mm_ok_if_icmp_ne (pt := 20) (d := 18) (by decide +kernel) (by decide) (fun k1 => ?_) (fun k1 => ?_)
  · refine mm_ok_bl (l := [(.aload 0, 1), (.iconst (60), 2)]) (pc' := 8) (lo' := [some (.ref 52), some (.int a1), some (.int a2), none]) (st' := [.int (60 : Int32), .ref 52]) (q' := q) (P := (True) ∧ ((True) ∧ (True))) (by decide +kernel) rfl rfl (And.intro trivial (And.intro trivial trivial)) ?_
    refine mm_ok_call (cz := mm_cvu) (j := .invokevirtual 4337) (y := 271) (as := [.ref 52, .int (60 : Int32)]) (t := []) (by decide +kernel) rfl (fun _ _ h => mm_upd (k := 1) (by decide) (x12_begins_ok h)) (fun u2 q3 => ?_)
    refine mm_ok_bl (l := [(.aload 0, 1), (.iconst (3), 1), (.iload 2, 1)]) (pc' := 14) (lo' := [some (.ref 52), some (.int a1), some (.int a2), none]) (st' := [.int a2, .int (3 : Int32), .ref 52]) (q' := q3) (P := (True) ∧ ((True) ∧ ((True) ∧ (True)))) (by decide +kernel) rfl rfl (And.intro trivial (And.intro trivial (And.intro trivial trivial))) ?_
    refine mm_ok_call (cz := mm_cvi) (j := .invokevirtual 4402) (y := 275) (as := [.ref 52, .int (3 : Int32), .int a2]) (t := []) (by decide +kernel) rfl (fun _ _ h => hc0 _ _ _ _ _ h) (fun r4 q5 => ?_)
    refine mm_ok_bl (l := [(.iconst (5), 1), (.ixor, 1)]) (pc' := 19) (lo' := [some (.ref 52), some (.int a1), some (.int a2), none]) (st' := [.int (r4 ^^^ (5 : Int32))]) (q' := q5) (P := (True) ∧ ((True) ∧ (True))) (by decide +kernel) rfl rfl (And.intro trivial (And.intro trivial trivial)) ?_
    exact mm_ok_iret (by decide +kernel)
  · refine mm_ok_bl (l := [(.iload 1, 1), (.iconst (7), 2)]) (pc' := 23) (lo' := [some (.ref 52), some (.int a1), some (.int a2), none]) (st' := [.int (7 : Int32), .int a1]) (q' := q) (P := (True) ∧ ((True) ∧ (True))) (by decide +kernel) rfl rfl (And.intro trivial (And.intro trivial trivial)) ?_
    refine mm_ok_if_icmp_ne (pt := 41) (d := 18) (by decide +kernel) (by decide) (fun k6 => ?_) (fun k6 => ?_)
    · refine mm_ok_bl (l := [(.aload 0, 1), (.iconst (81), 2)]) (pc' := 29) (lo' := [some (.ref 52), some (.int a1), some (.int a2), none]) (st' := [.int (81 : Int32), .ref 52]) (q' := q) (P := (True) ∧ ((True) ∧ (True))) (by decide +kernel) rfl rfl (And.intro trivial (And.intro trivial trivial)) ?_
      refine mm_ok_call (cz := mm_cvu) (j := .invokevirtual 4337) (y := 271) (as := [.ref 52, .int (81 : Int32)]) (t := []) (by decide +kernel) rfl (fun _ _ h => mm_upd (k := 1) (by decide) (x12_begins_ok h)) (fun u7 q8 => ?_)
      refine mm_ok_bl (l := [(.aload 0, 1), (.iconst (4), 1), (.iload 2, 1)]) (pc' := 35) (lo' := [some (.ref 52), some (.int a1), some (.int a2), none]) (st' := [.int a2, .int (4 : Int32), .ref 52]) (q' := q8) (P := (True) ∧ ((True) ∧ ((True) ∧ (True)))) (by decide +kernel) rfl rfl (And.intro trivial (And.intro trivial (And.intro trivial trivial))) ?_
      refine mm_ok_call (cz := mm_cvi) (j := .invokevirtual 4402) (y := 275) (as := [.ref 52, .int (4 : Int32), .int a2]) (t := []) (by decide +kernel) rfl (fun _ _ h => hc0 _ _ _ _ _ h) (fun r9 q10 => ?_)
      refine mm_ok_bl (l := [(.iconst (1), 1), (.isub, 1)]) (pc' := 40) (lo' := [some (.ref 52), some (.int a1), some (.int a2), none]) (st' := [.int (r9 - (1 : Int32))]) (q' := q10) (P := (True) ∧ ((True) ∧ (True))) (by decide +kernel) rfl rfl (And.intro trivial (And.intro trivial trivial)) ?_
      exact mm_ok_iret (by decide +kernel)
    · refine mm_ok_bl (l := [(.aload 0, 1), (.iconst (2), 1)]) (pc' := 43) (lo' := [some (.ref 52), some (.int a1), some (.int a2), none]) (st' := [.int (2 : Int32), .ref 52]) (q' := q) (P := (True) ∧ ((True) ∧ (True))) (by decide +kernel) rfl rfl (And.intro trivial (And.intro trivial trivial)) ?_
      refine mm_ok_call (cz := mm_cvu) (j := .invokevirtual 4337) (y := 271) (as := [.ref 52, .int (2 : Int32)]) (t := []) (by decide +kernel) rfl (fun _ _ h => mm_upd (k := 1) (by decide) (x12_begins_ok h)) (fun u11 q12 => ?_)
      refine mm_ok_bl (l := [(.aload 0, 1), (.aload 0, 1), (.getfield 810, 3), (.iload 2, 1)]) (pc' := 52) (lo' := [some (.ref 52), some (.int a1), some (.int a2), none]) (st' := [.int a2, .int (q12.1 52 42), .ref 52]) (q' := q12) (P := (True) ∧ ((True) ∧ ((True) ∧ ((True) ∧ (True))))) (by decide +kernel) rfl rfl (And.intro trivial (And.intro trivial (And.intro trivial (And.intro trivial trivial)))) ?_
      refine mm_ok_call (cz := mm_cvi) (j := .invokevirtual 4370) (y := 273) (as := [.ref 52, .int (q12.1 52 42), .int a2]) (t := []) (by decide +kernel) rfl (fun _ _ h => mm_upd (k := 301) (by decide) ((g_x12_landsAs_ok 100) _ _ _ _ _ h)) (fun r13 q14 => ?_)
      refine mm_ok_bl (l := [(.istore 3, 1), (.iload 3, 1), (.aload 0, 1), (.aload 0, 1), (.getfield 810, 3), (.iconst (1), 1)]) (pc' := 63) (lo' := [some (.ref 52), some (.int a1), some (.int a2), some (.int r13)]) (st' := [.int (1 : Int32), .int (q14.1 52 42), .ref 52, .int r13]) (q' := q14) (P := (True) ∧ ((True) ∧ ((True) ∧ ((True) ∧ ((True) ∧ ((True) ∧ (True))))))) (by decide +kernel) rfl rfl (And.intro trivial (And.intro trivial (And.intro trivial (And.intro trivial (And.intro trivial (And.intro trivial trivial)))))) ?_
      refine mm_ok_call (cz := mm_cvi) (j := .invokevirtual 4386) (y := 274) (as := [.ref 52, .int (q14.1 52 42), .int (1 : Int32)]) (t := [.int r13]) (by decide +kernel) rfl (fun _ _ h => mm_upd (k := 201) (by decide) ((g_x12_rollsAs_ok 100) _ _ _ _ _ h)) (fun r15 q16 => ?_)
      refine mm_ok_bl (l := [(.isub, 1)]) (pc' := 67) (lo' := [some (.ref 52), some (.int a1), some (.int a2), some (.int r13)]) (st' := [.int (r13 - r15)]) (q' := q16) (P := (True) ∧ (True)) (by decide +kernel) rfl rfl (And.intro trivial trivial) ?_
      exact mm_ok_iret (by decide +kernel)
def g_x12_tellsAs : Nat → Nat → Int32 → Int32 → mm_Q → Option (Int32 × mm_Q)
  | 0, _, _, _, _ => none
  | d + 1, _, a1, a2, q => x12_tellsAs (g_x12_tellsAs d) a1 a2 q
set_option maxRecDepth 20000 in
theorem g_x12_tellsAs_ok {L : Nat} : ∀ d : Nat, (∀ (a1 : Int32) (a2 : Int32) (q : mm_Q) (r : Int32) (q1 : mm_Q), g_x12_tellsAs d 0 a1 a2 q = some (r, q1) → mm_Runs (d + 301) 275 [.ref 52, .int a1, .int a2] (mm_wq L q) (mm_cvi r) (mm_wq L q1))
  | 0 => (fun _ _ _ _ _ h => by cases h)
  | d + 1 => (fun _ _ _ _ _ h => x12_tellsAs_ok (d := d) (g_x12_tellsAs d) ((g_x12_tellsAs_ok d)) h)
def x12_act (a1 : Int32) (a2 : Int32) (a3 : Int32) (q : mm_Q) : Option (Int32 × mm_Q) := (mm_lt (mm_si q 52 41 (0 : Int32)) (fun q1 => (mm_cl (x12_isBody a1 q1) (fun r2 q3 => (if r2 = 0 then (some ((0 : Int32), q3)) else (mm_ck (mm_inb a1 50) (mm_lt (mm_si q3 52 42 (q3.1 69 a1.toNatClampNeg)) (fun q6 => (mm_lt (mm_si q6 52 43 a1) (fun q7 => (if a2 = (0 : Int32) then (mm_cl (g_x12_spitsAs 100 0 (q7.1 52 42) a3 q7) (fun r9 q10 => (some (r9, q10)))) else (if a2 = (1 : Int32) then (mm_cl (g_x12_landsAs 100 0 (q7.1 52 42) a3 q7) (fun r12 q13 => (some (r12, q13)))) else (if a2 = (2 : Int32) then (mm_cl (g_x12_rollsAs 100 0 (q7.1 52 42) a3 q7) (fun r15 q16 => (some (r15, q16)))) else (if a2 = (3 : Int32) then (mm_cl (g_x12_tellsAs 100 0 (q7.1 52 42) a3 q7) (fun r18 q19 => (some (r18, q19)))) else (some ((0 : Int32), q7))))))))))))))))
set_option maxRecDepth 20000 in
theorem x12_act_ok {L : Nat} {a1 : Int32} {a2 : Int32} {a3 : Int32} {q : mm_Q} {r : Int32} {q1 : mm_Q} (h : x12_act a1 a2 a3 q = some (r, q1)) : mm_Runs 402 276 [.ref 52, .int a1, .int a2, .int a3] (mm_wq L q) (mm_cvi r) (mm_wq L q1) := by
  refine mm_runs_of (d := 401) (L := L) rfl (by decide +kernel) rfl rfl (?_ : mm_ok mm_cvi (mm_Runs 401) 12 false cX12_act (some .int) L 0 [some (.ref 52), some (.int a1), some (.int a2), some (.int a3)] [] q (x12_act a1 a2 a3 q)) h
  unfold x12_act
  refine mm_ok_bl (l := [(.aload 0, 1), (.iconst (0), 1), (.putfield 809, 3)]) (pc' := 5) (lo' := [some (.ref 52), some (.int a1), some (.int a2), some (.int a3)]) (st' := []) (q' := (mm_si q 52 41 (0 : Int32))) (P := (True) ∧ ((True) ∧ ((True) ∧ (True)))) (by decide +kernel) rfl rfl (And.intro trivial (And.intro trivial (And.intro trivial trivial))) ?_
  refine mm_ok_lt (fun q1 => ?_)
  refine mm_ok_bl (l := [(.aload 0, 1), (.iload 1, 1)]) (pc' := 7) (lo' := [some (.ref 52), some (.int a1), some (.int a2), some (.int a3)]) (st' := [.int a1, .ref 52]) (q' := q1) (P := (True) ∧ ((True) ∧ (True))) (by decide +kernel) rfl rfl (And.intro trivial (And.intro trivial trivial)) ?_
  refine mm_ok_call (cz := mm_cvi) (j := .invokevirtual 4273) (y := 267) (as := [.ref 52, .int a1]) (t := []) (by decide +kernel) rfl (fun _ _ h => mm_up (k := 2) (by decide) (x12_isBody_ok h)) (fun r2 q3 => ?_)
  refine mm_ok_ifCond_ne (pt := 15) (d := 5) (by decide +kernel) (by decide) (fun k4 => ?_) (fun k4 => ?_)
  · refine mm_ok_bl (l := [(.iconst (0), 1)]) (pc' := 14) (lo' := [some (.ref 52), some (.int a1), some (.int a2), some (.int a3)]) (st' := [.int (0 : Int32)]) (q' := q3) (P := (True) ∧ (True)) (by decide +kernel) rfl rfl (And.intro trivial trivial) ?_
    exact mm_ok_iret (by decide +kernel)
  · refine mm_ok_bl (l := [(.aload 0, 1), (.aload 0, 1), (.getfield 807, 3), (.iload 1, 1)]) (pc' := 21) (lo' := [some (.ref 52), some (.int a1), some (.int a2), some (.int a3)]) (st' := [.int a1, .ref 69, .ref 52]) (q' := q3) (P := (True) ∧ ((True) ∧ ((True) ∧ ((True) ∧ (True))))) (by decide +kernel) rfl rfl (And.intro trivial (And.intro trivial (And.intro trivial (And.intro trivial trivial)))) ?_
    refine mm_ok_ck (fun c5 => ?_)
    refine mm_ok_bl (l := [(.iaload, 1), (.putfield 810, 3)]) (pc' := 25) (lo' := [some (.ref 52), some (.int a1), some (.int a2), some (.int a3)]) (st' := []) (q' := (mm_si q3 52 42 (q3.1 69 a1.toNatClampNeg))) (P := (mm_ix a1 50) ∧ ((True) ∧ (True))) (by decide +kernel) rfl rfl (And.intro (mm_inb_ix c5) (And.intro trivial trivial)) ?_
    refine mm_ok_lt (fun q6 => ?_)
    refine mm_ok_bl (l := [(.aload 0, 1), (.iload 1, 1), (.putfield 811, 3)]) (pc' := 30) (lo' := [some (.ref 52), some (.int a1), some (.int a2), some (.int a3)]) (st' := []) (q' := (mm_si q6 52 43 a1)) (P := (True) ∧ ((True) ∧ ((True) ∧ (True)))) (by decide +kernel) rfl rfl (And.intro trivial (And.intro trivial (And.intro trivial trivial))) ?_
    refine mm_ok_lt (fun q7 => ?_)
    refine mm_ok_bl (l := [(.iload 2, 1)]) (pc' := 31) (lo' := [some (.ref 52), some (.int a1), some (.int a2), some (.int a3)]) (st' := [.int a2]) (q' := q7) (P := (True) ∧ (True)) (by decide +kernel) rfl rfl (And.intro trivial trivial) ?_
    refine mm_ok_if (fun k8 => ?_) (fun k8 => ?_)
    · refine mm_ok_tsw (pt := 60) (os := [29, 39, 49, 59]) (lo1 := 0) (hi := 3) (d := 69) (len := 29) (by decide +kernel) (by decide) (by rw [k8]; rfl) ?_
      refine mm_ok_bl (l := [(.aload 0, 1), (.aload 0, 1), (.getfield 810, 3), (.iload 3, 1)]) (pc' := 66) (lo' := [some (.ref 52), some (.int a1), some (.int a2), some (.int a3)]) (st' := [.int a3, .int (q7.1 52 42), .ref 52]) (q' := q7) (P := (True) ∧ ((True) ∧ ((True) ∧ ((True) ∧ (True))))) (by decide +kernel) rfl rfl (And.intro trivial (And.intro trivial (And.intro trivial (And.intro trivial trivial)))) ?_
      refine mm_ok_call (cz := mm_cvi) (j := .invokevirtual 4354) (y := 272) (as := [.ref 52, .int (q7.1 52 42), .int a3]) (t := []) (by decide +kernel) rfl (fun _ _ h => mm_up (k := 101) (by decide) ((g_x12_spitsAs_ok 100) _ _ _ _ _ h)) (fun r9 q10 => ?_)
      exact mm_ok_iret (by decide +kernel)
    · refine mm_ok_if (fun k11 => ?_) (fun k11 => ?_)
      · refine mm_ok_tsw (pt := 70) (os := [29, 39, 49, 59]) (lo1 := 0) (hi := 3) (d := 69) (len := 29) (by decide +kernel) (by decide) (by rw [k11]; rfl) ?_
        refine mm_ok_bl (l := [(.aload 0, 1), (.aload 0, 1), (.getfield 810, 3), (.iload 3, 1)]) (pc' := 76) (lo' := [some (.ref 52), some (.int a1), some (.int a2), some (.int a3)]) (st' := [.int a3, .int (q7.1 52 42), .ref 52]) (q' := q7) (P := (True) ∧ ((True) ∧ ((True) ∧ ((True) ∧ (True))))) (by decide +kernel) rfl rfl (And.intro trivial (And.intro trivial (And.intro trivial (And.intro trivial trivial)))) ?_
        refine mm_ok_call (cz := mm_cvi) (j := .invokevirtual 4370) (y := 273) (as := [.ref 52, .int (q7.1 52 42), .int a3]) (t := []) (by decide +kernel) rfl (fun _ _ h => mm_up (k := 301) (by decide) ((g_x12_landsAs_ok 100) _ _ _ _ _ h)) (fun r12 q13 => ?_)
        exact mm_ok_iret (by decide +kernel)
      · refine mm_ok_if (fun k14 => ?_) (fun k14 => ?_)
        · refine mm_ok_tsw (pt := 80) (os := [29, 39, 49, 59]) (lo1 := 0) (hi := 3) (d := 69) (len := 29) (by decide +kernel) (by decide) (by rw [k14]; rfl) ?_
          refine mm_ok_bl (l := [(.aload 0, 1), (.aload 0, 1), (.getfield 810, 3), (.iload 3, 1)]) (pc' := 86) (lo' := [some (.ref 52), some (.int a1), some (.int a2), some (.int a3)]) (st' := [.int a3, .int (q7.1 52 42), .ref 52]) (q' := q7) (P := (True) ∧ ((True) ∧ ((True) ∧ ((True) ∧ (True))))) (by decide +kernel) rfl rfl (And.intro trivial (And.intro trivial (And.intro trivial (And.intro trivial trivial)))) ?_
          refine mm_ok_call (cz := mm_cvi) (j := .invokevirtual 4386) (y := 274) (as := [.ref 52, .int (q7.1 52 42), .int a3]) (t := []) (by decide +kernel) rfl (fun _ _ h => mm_up (k := 201) (by decide) ((g_x12_rollsAs_ok 100) _ _ _ _ _ h)) (fun r15 q16 => ?_)
          exact mm_ok_iret (by decide +kernel)
        · refine mm_ok_if (fun k17 => ?_) (fun k17 => ?_)
          · refine mm_ok_tsw (pt := 90) (os := [29, 39, 49, 59]) (lo1 := 0) (hi := 3) (d := 69) (len := 29) (by decide +kernel) (by decide) (by rw [k17]; rfl) ?_
            refine mm_ok_bl (l := [(.aload 0, 1), (.aload 0, 1), (.getfield 810, 3), (.iload 3, 1)]) (pc' := 96) (lo' := [some (.ref 52), some (.int a1), some (.int a2), some (.int a3)]) (st' := [.int a3, .int (q7.1 52 42), .ref 52]) (q' := q7) (P := (True) ∧ ((True) ∧ ((True) ∧ ((True) ∧ (True))))) (by decide +kernel) rfl rfl (And.intro trivial (And.intro trivial (And.intro trivial (And.intro trivial trivial)))) ?_
            refine mm_ok_call (cz := mm_cvi) (j := .invokevirtual 4402) (y := 275) (as := [.ref 52, .int (q7.1 52 42), .int a3]) (t := []) (by decide +kernel) rfl (fun _ _ h => mm_up (k := 401) (by decide) ((g_x12_tellsAs_ok 100) _ _ _ _ _ h)) (fun r18 q19 => ?_)
            exact mm_ok_iret (by decide +kernel)
          · refine mm_ok_tsw (pt := 100) (os := [29, 39, 49, 59]) (lo1 := 0) (hi := 3) (d := 69) (len := 29) (by decide +kernel) (by decide) (mm_tsw_dn (l := [0, 1, 2, 3]) (by decide) (by decide) (mm_nin [0, 1, 2, 3] (by decide) (by intro k hk; simp only [List.mem_cons, List.not_mem_nil, or_false] at hk; rcases hk with rfl | rfl | rfl | rfl; exact k8; exact k11; exact k14; exact k17))) ?_
            refine mm_ok_bl (l := [(.iconst (0), 1)]) (pc' := 101) (lo' := [some (.ref 52), some (.int a1), some (.int a2), some (.int a3)]) (st' := [.int (0 : Int32)]) (q' := q7) (P := (True) ∧ (True)) (by decide +kernel) rfl rfl (And.intro trivial trivial) ?_
            exact mm_ok_iret (by decide +kernel)
def x12_trace (a1 : Int32) (q : mm_Q) : Option (Int32 × mm_Q) := (if a1 < 0 then (some ((-1 : Int32), q)) else (if (q.1 52 41) ≤ a1 then (some ((-1 : Int32), q)) else (if (24 : Int32) ≤ a1 then (some ((-1 : Int32), q)) else (mm_ck (mm_inb a1 24) (some (q.1 70 a1.toNatClampNeg, q))))))
set_option maxRecDepth 20000 in
theorem x12_trace_ok {L : Nat} {a1 : Int32} {q : mm_Q} {r : Int32} {q1 : mm_Q} (h : x12_trace a1 q = some (r, q1)) : mm_Runs 1 277 [.ref 52, .int a1] (mm_wq L q) (mm_cvi r) (mm_wq L q1) := by
  refine mm_runs_of (d := 0) (L := L) rfl (by decide +kernel) rfl rfl (?_ : mm_ok mm_cvi (mm_Runs 0) 12 false cX12_trace (some .int) L 0 [some (.ref 52), some (.int a1)] [] q (x12_trace a1 q)) h
  unfold x12_trace
  refine mm_ok_bl (l := [(.iload 1, 1)]) (pc' := 1) (lo' := [some (.ref 52), some (.int a1)]) (st' := [.int a1]) (q' := q) (P := (True) ∧ (True)) (by decide +kernel) rfl rfl (And.intro trivial trivial) ?_
  refine mm_ok_ifCond_lt (pt := 27) (d := 26) (by decide +kernel) (by decide) (fun k1 => ?_) (fun k1 => ?_)
  · refine mm_ok_bl (l := [(.iconst (-1), 1)]) (pc' := 28) (lo' := [some (.ref 52), some (.int a1)]) (st' := [.int (-1 : Int32)]) (q' := q) (P := (True) ∧ (True)) (by decide +kernel) rfl rfl (And.intro trivial trivial) ?_
    exact mm_ok_iret (by decide +kernel)
  · refine mm_ok_bl (l := [(.iload 1, 1), (.aload 0, 1), (.getfield 809, 3)]) (pc' := 9) (lo' := [some (.ref 52), some (.int a1)]) (st' := [.int (q.1 52 41), .int a1]) (q' := q) (P := (True) ∧ ((True) ∧ ((True) ∧ (True)))) (by decide +kernel) rfl rfl (And.intro trivial (And.intro trivial (And.intro trivial trivial))) ?_
    refine mm_ok_if_icmp_ge (pt := 27) (d := 18) (by decide +kernel) (by decide) (fun k2 => ?_) (fun k2 => ?_)
    · refine mm_ok_bl (l := [(.iconst (-1), 1)]) (pc' := 28) (lo' := [some (.ref 52), some (.int a1)]) (st' := [.int (-1 : Int32)]) (q' := q) (P := (True) ∧ (True)) (by decide +kernel) rfl rfl (And.intro trivial trivial) ?_
      exact mm_ok_iret (by decide +kernel)
    · refine mm_ok_bl (l := [(.iload 1, 1), (.iconst (24), 2)]) (pc' := 15) (lo' := [some (.ref 52), some (.int a1)]) (st' := [.int (24 : Int32), .int a1]) (q' := q) (P := (True) ∧ ((True) ∧ (True))) (by decide +kernel) rfl rfl (And.intro trivial (And.intro trivial trivial)) ?_
      refine mm_ok_if_icmp_ge (pt := 27) (d := 12) (by decide +kernel) (by decide) (fun k3 => ?_) (fun k3 => ?_)
      · refine mm_ok_bl (l := [(.iconst (-1), 1)]) (pc' := 28) (lo' := [some (.ref 52), some (.int a1)]) (st' := [.int (-1 : Int32)]) (q' := q) (P := (True) ∧ (True)) (by decide +kernel) rfl rfl (And.intro trivial trivial) ?_
        exact mm_ok_iret (by decide +kernel)
      · refine mm_ok_bl (l := [(.aload 0, 1), (.getfield 808, 3), (.iload 1, 1)]) (pc' := 23) (lo' := [some (.ref 52), some (.int a1)]) (st' := [.int a1, .ref 70]) (q' := q) (P := (True) ∧ ((True) ∧ ((True) ∧ (True)))) (by decide +kernel) rfl rfl (And.intro trivial (And.intro trivial (And.intro trivial trivial))) ?_
        refine mm_ok_ck (fun c4 => ?_)
        refine mm_ok_bl (l := [(.iaload, 1)]) (pc' := 24) (lo' := [some (.ref 52), some (.int a1)]) (st' := [.int (q.1 70 a1.toNatClampNeg)]) (q' := q) (P := (mm_ix a1 24) ∧ (True)) (by decide +kernel) rfl rfl (And.intro (mm_inb_ix c4) trivial) ?_
        refine mm_ok_goto (pt := 28) (d := 4) (by decide +kernel) (by decide) ?_
        exact mm_ok_iret (by decide +kernel)
def x12_keep_j22 (a1 : Int32) (a2 : Int32) (q : mm_Q) : Option (Int32 × mm_Q) := (mm_ck (mm_inb a1 6) (mm_lt (mm_si q 71 a1.toNatClampNeg a2) (fun q9 => (mm_ck (mm_inb a1 6) (mm_lt (mm_si q9 72 a1.toNatClampNeg (0 : Int32)) (fun q11 => (some ((1 : Int32), q11))))))))
set_option maxRecDepth 20000 in
theorem x12_keep_j22_ok {L : Nat} (a1 : Int32) (a2 : Int32) (q : mm_Q) : mm_ok mm_cvi (mm_Runs 2) 12 false cX12_keep (some .int) L 22 [some (.ref 52), some (.int a1), some (.int a2)] [] q (x12_keep_j22 a1 a2 q) := by
  unfold x12_keep_j22
  refine mm_ok_bl (l := [(.aload 0, 1), (.getfield 812, 3), (.iload 1, 1), (.iload 2, 1)]) (pc' := 28) (lo' := [some (.ref 52), some (.int a1), some (.int a2)]) (st' := [.int a2, .int a1, .ref 71]) (q' := q) (P := (True) ∧ ((True) ∧ ((True) ∧ ((True) ∧ (True))))) (by decide +kernel) rfl rfl (And.intro trivial (And.intro trivial (And.intro trivial (And.intro trivial trivial)))) ?_
  refine mm_ok_ck (fun c8 => ?_)
  refine mm_ok_bl (l := [(.iastore, 1)]) (pc' := 29) (lo' := [some (.ref 52), some (.int a1), some (.int a2)]) (st' := []) (q' := (mm_si q 71 a1.toNatClampNeg a2)) (P := (mm_ix a1 6) ∧ (True)) (by decide +kernel) rfl rfl (And.intro (mm_inb_ix c8) trivial) ?_
  refine mm_ok_lt (fun q9 => ?_)
  refine mm_ok_bl (l := [(.aload 0, 1), (.getfield 813, 3), (.iload 1, 1), (.iconst (0), 1)]) (pc' := 35) (lo' := [some (.ref 52), some (.int a1), some (.int a2)]) (st' := [.int (0 : Int32), .int a1, .ref 72]) (q' := q9) (P := (True) ∧ ((True) ∧ ((True) ∧ ((True) ∧ (True))))) (by decide +kernel) rfl rfl (And.intro trivial (And.intro trivial (And.intro trivial (And.intro trivial trivial)))) ?_
  refine mm_ok_ck (fun c10 => ?_)
  refine mm_ok_bl (l := [(.iastore, 1)]) (pc' := 36) (lo' := [some (.ref 52), some (.int a1), some (.int a2)]) (st' := []) (q' := (mm_si q9 72 a1.toNatClampNeg (0 : Int32))) (P := (mm_ix a1 6) ∧ (True)) (by decide +kernel) rfl rfl (And.intro (mm_inb_ix c10) trivial) ?_
  refine mm_ok_lt (fun q11 => ?_)
  refine mm_ok_bl (l := [(.iconst (1), 1)]) (pc' := 37) (lo' := [some (.ref 52), some (.int a1), some (.int a2)]) (st' := [.int (1 : Int32)]) (q' := q11) (P := (True) ∧ (True)) (by decide +kernel) rfl rfl (And.intro trivial trivial) ?_
  exact mm_ok_iret (by decide +kernel)
def x12_keep (a1 : Int32) (a2 : Int32) (q : mm_Q) : Option (Int32 × mm_Q) := (mm_cl (x12_isShelf a1 q) (fun r1 q2 => (if r1 = 0 then (some ((-1 : Int32), q2)) else (if a2 = (-1 : Int32) then (x12_keep_j22 a1 a2 q2) else (mm_cl (x12_isBody a2 q2) (fun r5 q6 => (if r5 = 0 then (some ((-1 : Int32), q6)) else (x12_keep_j22 a1 a2 q6))))))))
set_option maxRecDepth 20000 in
theorem x12_keep_ok {L : Nat} {a1 : Int32} {a2 : Int32} {q : mm_Q} {r : Int32} {q1 : mm_Q} (h : x12_keep a1 a2 q = some (r, q1)) : mm_Runs 3 279 [.ref 52, .int a1, .int a2] (mm_wq L q) (mm_cvi r) (mm_wq L q1) := by
  refine mm_runs_of (d := 2) (L := L) rfl (by decide +kernel) rfl rfl (?_ : mm_ok mm_cvi (mm_Runs 2) 12 false cX12_keep (some .int) L 0 [some (.ref 52), some (.int a1), some (.int a2)] [] q (x12_keep a1 a2 q)) h
  unfold x12_keep
  refine mm_ok_bl (l := [(.iload 1, 1)]) (pc' := 1) (lo' := [some (.ref 52), some (.int a1), some (.int a2)]) (st' := [.int a1]) (q' := q) (P := (True) ∧ (True)) (by decide +kernel) rfl rfl (And.intro trivial trivial) ?_
  refine mm_ok_call (cz := mm_cvi) (j := .invokestatic 4449) (y := 278) (as := [.int a1]) (t := []) (by decide +kernel) rfl (fun _ _ h => mm_up (k := 2) (by decide) (x12_isShelf_ok h)) (fun r1 q2 => ?_)
  refine mm_ok_ifCond_eq (pt := 20) (d := 16) (by decide +kernel) (by decide) (fun k3 => ?_) (fun k3 => ?_)
  · refine mm_ok_bl (l := [(.iconst (-1), 1)]) (pc' := 21) (lo' := [some (.ref 52), some (.int a1), some (.int a2)]) (st' := [.int (-1 : Int32)]) (q' := q2) (P := (True) ∧ (True)) (by decide +kernel) rfl rfl (And.intro trivial trivial) ?_
    exact mm_ok_iret (by decide +kernel)
  · refine mm_ok_bl (l := [(.iload 2, 1), (.iconst (-1), 1)]) (pc' := 9) (lo' := [some (.ref 52), some (.int a1), some (.int a2)]) (st' := [.int (-1 : Int32), .int a2]) (q' := q2) (P := (True) ∧ ((True) ∧ (True))) (by decide +kernel) rfl rfl (And.intro trivial (And.intro trivial trivial)) ?_
    refine mm_ok_if_icmp_eq (pt := 22) (d := 13) (by decide +kernel) (by decide) (fun k4 => ?_) (fun k4 => ?_)
    · exact mm_ok_sub (lo := [some (.ref 52), some (.int a1), some (.int a2)]) (And.intro rfl (And.intro rfl (And.intro rfl trivial))) (x12_keep_j22_ok a1 a2 q2)
    · refine mm_ok_bl (l := [(.aload 0, 1), (.iload 2, 1)]) (pc' := 14) (lo' := [some (.ref 52), some (.int a1), some (.int a2)]) (st' := [.int a2, .ref 52]) (q' := q2) (P := (True) ∧ ((True) ∧ (True))) (by decide +kernel) rfl rfl (And.intro trivial (And.intro trivial trivial)) ?_
      refine mm_ok_call (cz := mm_cvi) (j := .invokevirtual 4273) (y := 267) (as := [.ref 52, .int a2]) (t := []) (by decide +kernel) rfl (fun _ _ h => mm_up (k := 2) (by decide) (x12_isBody_ok h)) (fun r5 q6 => ?_)
      refine mm_ok_ifCond_ne (pt := 22) (d := 5) (by decide +kernel) (by decide) (fun k7 => ?_) (fun k7 => ?_)
      · refine mm_ok_bl (l := [(.iconst (-1), 1)]) (pc' := 21) (lo' := [some (.ref 52), some (.int a1), some (.int a2)]) (st' := [.int (-1 : Int32)]) (q' := q6) (P := (True) ∧ (True)) (by decide +kernel) rfl rfl (And.intro trivial trivial) ?_
        exact mm_ok_iret (by decide +kernel)
      · exact mm_ok_sub (lo := [some (.ref 52), some (.int a1), some (.int a2)]) (And.intro rfl (And.intro rfl (And.intro rfl trivial))) (x12_keep_j22_ok a1 a2 q6)
def x12_row_h57 : Nat → Int32 → Int32 → mm_Q → Option (Int32 × mm_Q)
  | 0, _, _, _ => none
  | n + 1, a1, a4, q => (if (((60 : Int32) * a1) + (60 : Int32)) ≤ a4 then (some ((1 : Int32), q)) else (mm_ck (mm_inb a4 360) (mm_lt (mm_sj q 73 a4.toNatClampNeg (0 : Int64)) (fun q15 => (x12_row_h57 n a1 (a4 + (1 : Int32)) q15)))))
set_option maxRecDepth 20000 in
theorem x12_row_h57_ok {L : Nat} : ∀ (n : Nat) (a1 : Int32) (a4 : Int32) (q : mm_Q), mm_ok mm_cvi (mm_Runs 2) 12 false cX12_row (some .int) L 57 [some (.ref 52), some (.int a1), none, none, some (.int a4)] [] q (x12_row_h57 n a1 a4 q)
  | 0, _, _, _ => by
    exact mm_ok_none
  | n + 1, a1, a4, q => by
    unfold x12_row_h57
    refine mm_ok_bl (l := [(.iload 4, 2), (.iconst (60), 2), (.iload 1, 1), (.imul, 1), (.iconst (60), 2), (.iadd, 1)]) (pc' := 66) (lo' := [some (.ref 52), some (.int a1), none, none, some (.int a4)]) (st' := [.int (((60 : Int32) * a1) + (60 : Int32)), .int a4]) (q' := q) (P := (True) ∧ ((True) ∧ ((True) ∧ ((True) ∧ ((True) ∧ ((True) ∧ (True))))))) (by decide +kernel) rfl rfl (And.intro trivial (And.intro trivial (And.intro trivial (And.intro trivial (And.intro trivial (And.intro trivial trivial)))))) ?_
    refine mm_ok_if_icmp_ge (pt := 83) (d := 17) (by decide +kernel) (by decide) (fun k13 => ?_) (fun k13 => ?_)
    · refine mm_ok_bl (l := [(.iconst (1), 1)]) (pc' := 84) (lo' := [some (.ref 52), some (.int a1), none, none, some (.int a4)]) (st' := [.int (1 : Int32)]) (q' := q) (P := (True) ∧ (True)) (by decide +kernel) rfl rfl (And.intro trivial trivial) ?_
      exact mm_ok_iret (by decide +kernel)
    · refine mm_ok_bl (l := [(.aload 0, 1), (.getfield 814, 3), (.iload 4, 2), (.goto_w (0), 1)]) (pc' := 76) (lo' := [some (.ref 52), some (.int a1), none, none, some (.int a4)]) (st' := [.long (0 : Int64), .int a4, .ref 73]) (q' := q) (P := (True) ∧ ((True) ∧ ((True) ∧ ((True) ∧ (True))))) (by decide +kernel) rfl rfl (And.intro trivial (And.intro trivial (And.intro trivial (And.intro trivial trivial)))) ?_
      refine mm_ok_ck (fun c14 => ?_)
      refine mm_ok_bl (l := [(.lastore, 1)]) (pc' := 77) (lo' := [some (.ref 52), some (.int a1), none, none, some (.int a4)]) (st' := []) (q' := (mm_sj q 73 a4.toNatClampNeg (0 : Int64))) (P := (mm_ix a4 360) ∧ (True)) (by decide +kernel) rfl rfl (And.intro (mm_inb_ix c14) trivial) ?_
      refine mm_ok_lt (fun q15 => ?_)
      refine mm_ok_bl (l := [(.iinc 4 (1), 3)]) (pc' := 80) (lo' := [some (.ref 52), some (.int a1), none, none, some (.int (a4 + (1 : Int32)))]) (st' := []) (q' := q15) (P := (True) ∧ (True)) (by decide +kernel) rfl rfl (And.intro trivial trivial) ?_
      refine mm_ok_goto (pt := 57) (d := -23) (by decide +kernel) (by decide) ?_
      exact mm_ok_sub (lo := [some (.ref 52), some (.int a1), none, none, some (.int (a4 + (1 : Int32)))]) (And.intro rfl (And.intro rfl (And.intro rfl trivial))) (x12_row_h57_ok n a1 (a4 + (1 : Int32)) q15)
def x12_row (a1 : Int32) (a2 : Int32) (a3 : Int32) (q : mm_Q) : Option (Int32 × mm_Q) := (mm_cl (x12_isShelf a1 q) (fun r1 q2 => (if r1 = 0 then (some ((-1 : Int32), q2)) else (mm_cl (x12_within a2.toInt64 (0 : Int64) (4 : Int64) q2) (fun r4 q5 => (if r4 = 0 then (some ((-1 : Int32), q5)) else (if a3 ≤ (60 : Int32) then (if 0 ≤ a3 then (mm_ck (mm_inb a1 6) (mm_lt (mm_si q5 71 a1.toNatClampNeg ((50 : Int32) + a2)) (fun q10 => (mm_ck (mm_inb a1 6) (mm_lt (mm_si q10 72 a1.toNatClampNeg a3) (fun q12 => (x12_row_h57 mm_fu a1 ((60 : Int32) * a1) q12))))))) else (some ((-14 : Int32), q5))) else (some ((-1 : Int32), q5)))))))))
set_option maxRecDepth 20000 in
theorem x12_row_ok {L : Nat} {a1 : Int32} {a2 : Int32} {a3 : Int32} {q : mm_Q} {r : Int32} {q1 : mm_Q} (h : x12_row a1 a2 a3 q = some (r, q1)) : mm_Runs 3 280 [.ref 52, .int a1, .int a2, .int a3] (mm_wq L q) (mm_cvi r) (mm_wq L q1) := by
  refine mm_runs_of (d := 2) (L := L) rfl (by decide +kernel) rfl rfl (?_ : mm_ok mm_cvi (mm_Runs 2) 12 false cX12_row (some .int) L 0 [some (.ref 52), some (.int a1), some (.int a2), some (.int a3), none] [] q (x12_row a1 a2 a3 q)) h
  unfold x12_row
  refine mm_ok_bl (l := [(.iload 1, 1)]) (pc' := 1) (lo' := [some (.ref 52), some (.int a1), some (.int a2), some (.int a3), none]) (st' := [.int a1]) (q' := q) (P := (True) ∧ (True)) (by decide +kernel) rfl rfl (And.intro trivial trivial) ?_
  refine mm_ok_call (cz := mm_cvi) (j := .invokestatic 4449) (y := 278) (as := [.int a1]) (t := []) (by decide +kernel) rfl (fun _ _ h => mm_up (k := 2) (by decide) (x12_isShelf_ok h)) (fun r1 q2 => ?_)
  refine mm_ok_ifCond_eq (pt := 25) (d := 21) (by decide +kernel) (by decide) (fun k3 => ?_) (fun k3 => ?_)
  · refine mm_ok_bl (l := [(.iconst (-1), 1)]) (pc' := 26) (lo' := [some (.ref 52), some (.int a1), some (.int a2), some (.int a3), none]) (st' := [.int (-1 : Int32)]) (q' := q2) (P := (True) ∧ (True)) (by decide +kernel) rfl rfl (And.intro trivial trivial) ?_
    exact mm_ok_iret (by decide +kernel)
  · refine mm_ok_bl (l := [(.iload 2, 1), (.i2l, 1), (.goto_w (0), 1), (.goto_w (4), 3)]) (pc' := 13) (lo' := [some (.ref 52), some (.int a1), some (.int a2), some (.int a3), none]) (st' := [.long (4 : Int64), .long (0 : Int64), .long a2.toInt64]) (q' := q2) (P := (True) ∧ ((True) ∧ ((True) ∧ ((True) ∧ (True))))) (by decide +kernel) rfl rfl (And.intro trivial (And.intro trivial (And.intro trivial (And.intro trivial trivial)))) ?_
    refine mm_ok_call (cz := mm_cvi) (j := .invokestatic 3027) (y := 189) (as := [.long a2.toInt64, .long (0 : Int64), .long (4 : Int64)]) (t := []) (by decide +kernel) rfl (fun _ _ h => mm_up (k := 1) (by decide) (x12_within_ok h)) (fun r4 q5 => ?_)
    refine mm_ok_ifCond_eq (pt := 25) (d := 9) (by decide +kernel) (by decide) (fun k6 => ?_) (fun k6 => ?_)
    · refine mm_ok_bl (l := [(.iconst (-1), 1)]) (pc' := 26) (lo' := [some (.ref 52), some (.int a1), some (.int a2), some (.int a3), none]) (st' := [.int (-1 : Int32)]) (q' := q5) (P := (True) ∧ (True)) (by decide +kernel) rfl rfl (And.intro trivial trivial) ?_
      exact mm_ok_iret (by decide +kernel)
    · refine mm_ok_bl (l := [(.iload 3, 1), (.iconst (60), 2)]) (pc' := 22) (lo' := [some (.ref 52), some (.int a1), some (.int a2), some (.int a3), none]) (st' := [.int (60 : Int32), .int a3]) (q' := q5) (P := (True) ∧ ((True) ∧ (True))) (by decide +kernel) rfl rfl (And.intro trivial (And.intro trivial trivial)) ?_
      refine mm_ok_if_icmp_le (pt := 27) (d := 5) (by decide +kernel) (by decide) (fun k7 => ?_) (fun k7 => ?_)
      · refine mm_ok_bl (l := [(.iload 3, 1)]) (pc' := 28) (lo' := [some (.ref 52), some (.int a1), some (.int a2), some (.int a3), none]) (st' := [.int a3]) (q' := q5) (P := (True) ∧ (True)) (by decide +kernel) rfl rfl (And.intro trivial trivial) ?_
        refine mm_ok_ifCond_ge (pt := 34) (d := 6) (by decide +kernel) (by decide) (fun k8 => ?_) (fun k8 => ?_)
        · refine mm_ok_bl (l := [(.aload 0, 1), (.getfield 812, 3), (.iload 1, 1), (.iconst (50), 2), (.iload 2, 1), (.iadd, 1)]) (pc' := 43) (lo' := [some (.ref 52), some (.int a1), some (.int a2), some (.int a3), none]) (st' := [.int ((50 : Int32) + a2), .int a1, .ref 71]) (q' := q5) (P := (True) ∧ ((True) ∧ ((True) ∧ ((True) ∧ ((True) ∧ ((True) ∧ (True))))))) (by decide +kernel) rfl rfl (And.intro trivial (And.intro trivial (And.intro trivial (And.intro trivial (And.intro trivial (And.intro trivial trivial)))))) ?_
          refine mm_ok_ck (fun c9 => ?_)
          refine mm_ok_bl (l := [(.iastore, 1)]) (pc' := 44) (lo' := [some (.ref 52), some (.int a1), some (.int a2), some (.int a3), none]) (st' := []) (q' := (mm_si q5 71 a1.toNatClampNeg ((50 : Int32) + a2))) (P := (mm_ix a1 6) ∧ (True)) (by decide +kernel) rfl rfl (And.intro (mm_inb_ix c9) trivial) ?_
          refine mm_ok_lt (fun q10 => ?_)
          refine mm_ok_bl (l := [(.aload 0, 1), (.getfield 813, 3), (.iload 1, 1), (.iload 3, 1)]) (pc' := 50) (lo' := [some (.ref 52), some (.int a1), some (.int a2), some (.int a3), none]) (st' := [.int a3, .int a1, .ref 72]) (q' := q10) (P := (True) ∧ ((True) ∧ ((True) ∧ ((True) ∧ (True))))) (by decide +kernel) rfl rfl (And.intro trivial (And.intro trivial (And.intro trivial (And.intro trivial trivial)))) ?_
          refine mm_ok_ck (fun c11 => ?_)
          refine mm_ok_bl (l := [(.iastore, 1)]) (pc' := 51) (lo' := [some (.ref 52), some (.int a1), some (.int a2), some (.int a3), none]) (st' := []) (q' := (mm_si q10 72 a1.toNatClampNeg a3)) (P := (mm_ix a1 6) ∧ (True)) (by decide +kernel) rfl rfl (And.intro (mm_inb_ix c11) trivial) ?_
          refine mm_ok_lt (fun q12 => ?_)
          refine mm_ok_bl (l := [(.iconst (60), 2), (.iload 1, 1), (.imul, 1), (.istore 4, 2)]) (pc' := 57) (lo' := [some (.ref 52), some (.int a1), some (.int a2), some (.int a3), some (.int ((60 : Int32) * a1))]) (st' := []) (q' := q12) (P := (True) ∧ ((True) ∧ ((True) ∧ ((True) ∧ (True))))) (by decide +kernel) rfl rfl (And.intro trivial (And.intro trivial (And.intro trivial (And.intro trivial trivial)))) ?_
          exact mm_ok_sub (lo := [some (.ref 52), some (.int a1), none, none, some (.int ((60 : Int32) * a1))]) (And.intro rfl (And.intro rfl (And.intro rfl trivial))) (x12_row_h57_ok mm_fu a1 ((60 : Int32) * a1) q12)
        · refine mm_ok_bl (l := [(.iconst (-14), 2)]) (pc' := 33) (lo' := [some (.ref 52), some (.int a1), some (.int a2), some (.int a3), none]) (st' := [.int (-14 : Int32)]) (q' := q5) (P := (True) ∧ (True)) (by decide +kernel) rfl rfl (And.intro trivial trivial) ?_
          exact mm_ok_iret (by decide +kernel)
      · refine mm_ok_bl (l := [(.iconst (-1), 1)]) (pc' := 26) (lo' := [some (.ref 52), some (.int a1), some (.int a2), some (.int a3), none]) (st' := [.int (-1 : Int32)]) (q' := q5) (P := (True) ∧ (True)) (by decide +kernel) rfl rfl (And.intro trivial trivial) ?_
        exact mm_ok_iret (by decide +kernel)
def x12_refusal (a1 : Int32) (a2 : Int32) (q : mm_Q) : Option (Int32 × mm_Q) := (mm_cl (x12_isShelf a1 q) (fun r1 q2 => (if r1 = 0 then (some ((-1 : Int32), q2)) else (mm_ck (mm_inb a1 6) (if 0 ≤ (q2.1 71 a1.toNatClampNeg) then (mm_ck (mm_inb a1 6) (if (50 : Int32) ≤ (q2.1 71 a1.toNatClampNeg) then (if a2 < 0 then (some ((-13 : Int32), q2)) else (mm_ck (mm_inb a1 6) (if (q2.1 72 a1.toNatClampNeg) ≤ a2 then (some ((-13 : Int32), q2)) else (some ((0 : Int32), q2))))) else (some ((-12 : Int32), q2)))) else (some ((-11 : Int32), q2)))))))
set_option maxRecDepth 20000 in
theorem x12_refusal_ok {L : Nat} {a1 : Int32} {a2 : Int32} {q : mm_Q} {r : Int32} {q1 : mm_Q} (h : x12_refusal a1 a2 q = some (r, q1)) : mm_Runs 3 281 [.ref 52, .int a1, .int a2] (mm_wq L q) (mm_cvi r) (mm_wq L q1) := by
  refine mm_runs_of (d := 2) (L := L) rfl (by decide +kernel) rfl rfl (?_ : mm_ok mm_cvi (mm_Runs 2) 12 false cX12_refusal (some .int) L 0 [some (.ref 52), some (.int a1), some (.int a2)] [] q (x12_refusal a1 a2 q)) h
  unfold x12_refusal
  refine mm_ok_bl (l := [(.iload 1, 1)]) (pc' := 1) (lo' := [some (.ref 52), some (.int a1), some (.int a2)]) (st' := [.int a1]) (q' := q) (P := (True) ∧ (True)) (by decide +kernel) rfl rfl (And.intro trivial trivial) ?_
  refine mm_ok_call (cz := mm_cvi) (j := .invokestatic 4449) (y := 278) (as := [.int a1]) (t := []) (by decide +kernel) rfl (fun _ _ h => mm_up (k := 2) (by decide) (x12_isShelf_ok h)) (fun r1 q2 => ?_)
  refine mm_ok_ifCond_ne (pt := 9) (d := 5) (by decide +kernel) (by decide) (fun k3 => ?_) (fun k3 => ?_)
  · refine mm_ok_bl (l := [(.iconst (-1), 1)]) (pc' := 8) (lo' := [some (.ref 52), some (.int a1), some (.int a2)]) (st' := [.int (-1 : Int32)]) (q' := q2) (P := (True) ∧ (True)) (by decide +kernel) rfl rfl (And.intro trivial trivial) ?_
    exact mm_ok_iret (by decide +kernel)
  · refine mm_ok_bl (l := [(.aload 0, 1), (.getfield 812, 3), (.iload 1, 1)]) (pc' := 14) (lo' := [some (.ref 52), some (.int a1), some (.int a2)]) (st' := [.int a1, .ref 71]) (q' := q2) (P := (True) ∧ ((True) ∧ ((True) ∧ (True)))) (by decide +kernel) rfl rfl (And.intro trivial (And.intro trivial (And.intro trivial trivial))) ?_
    refine mm_ok_ck (fun c4 => ?_)
    refine mm_ok_bl (l := [(.iaload, 1)]) (pc' := 15) (lo' := [some (.ref 52), some (.int a1), some (.int a2)]) (st' := [.int (q2.1 71 a1.toNatClampNeg)]) (q' := q2) (P := (mm_ix a1 6) ∧ (True)) (by decide +kernel) rfl rfl (And.intro (mm_inb_ix c4) trivial) ?_
    refine mm_ok_ifCond_ge (pt := 21) (d := 6) (by decide +kernel) (by decide) (fun k5 => ?_) (fun k5 => ?_)
    · refine mm_ok_bl (l := [(.aload 0, 1), (.getfield 812, 3), (.iload 1, 1)]) (pc' := 26) (lo' := [some (.ref 52), some (.int a1), some (.int a2)]) (st' := [.int a1, .ref 71]) (q' := q2) (P := (True) ∧ ((True) ∧ ((True) ∧ (True)))) (by decide +kernel) rfl rfl (And.intro trivial (And.intro trivial (And.intro trivial trivial))) ?_
      refine mm_ok_ck (fun c6 => ?_)
      refine mm_ok_bl (l := [(.iaload, 1), (.iconst (50), 2)]) (pc' := 29) (lo' := [some (.ref 52), some (.int a1), some (.int a2)]) (st' := [.int (50 : Int32), .int (q2.1 71 a1.toNatClampNeg)]) (q' := q2) (P := (mm_ix a1 6) ∧ ((True) ∧ (True))) (by decide +kernel) rfl rfl (And.intro (mm_inb_ix c6) (And.intro trivial trivial)) ?_
      refine mm_ok_if_icmp_ge (pt := 35) (d := 6) (by decide +kernel) (by decide) (fun k7 => ?_) (fun k7 => ?_)
      · refine mm_ok_bl (l := [(.iload 2, 1)]) (pc' := 36) (lo' := [some (.ref 52), some (.int a1), some (.int a2)]) (st' := [.int a2]) (q' := q2) (P := (True) ∧ (True)) (by decide +kernel) rfl rfl (And.intro trivial trivial) ?_
        refine mm_ok_ifCond_lt (pt := 53) (d := 17) (by decide +kernel) (by decide) (fun k8 => ?_) (fun k8 => ?_)
        · refine mm_ok_bl (l := [(.iconst (-13), 2)]) (pc' := 55) (lo' := [some (.ref 52), some (.int a1), some (.int a2)]) (st' := [.int (-13 : Int32)]) (q' := q2) (P := (True) ∧ (True)) (by decide +kernel) rfl rfl (And.intro trivial trivial) ?_
          exact mm_ok_iret (by decide +kernel)
        · refine mm_ok_bl (l := [(.iload 2, 1), (.aload 0, 1), (.getfield 813, 3), (.iload 1, 1)]) (pc' := 45) (lo' := [some (.ref 52), some (.int a1), some (.int a2)]) (st' := [.int a1, .ref 72, .int a2]) (q' := q2) (P := (True) ∧ ((True) ∧ ((True) ∧ ((True) ∧ (True))))) (by decide +kernel) rfl rfl (And.intro trivial (And.intro trivial (And.intro trivial (And.intro trivial trivial)))) ?_
          refine mm_ok_ck (fun c9 => ?_)
          refine mm_ok_bl (l := [(.iaload, 1)]) (pc' := 46) (lo' := [some (.ref 52), some (.int a1), some (.int a2)]) (st' := [.int (q2.1 72 a1.toNatClampNeg), .int a2]) (q' := q2) (P := (mm_ix a1 6) ∧ (True)) (by decide +kernel) rfl rfl (And.intro (mm_inb_ix c9) trivial) ?_
          refine mm_ok_if_icmp_ge (pt := 53) (d := 7) (by decide +kernel) (by decide) (fun k10 => ?_) (fun k10 => ?_)
          · refine mm_ok_bl (l := [(.iconst (-13), 2)]) (pc' := 55) (lo' := [some (.ref 52), some (.int a1), some (.int a2)]) (st' := [.int (-13 : Int32)]) (q' := q2) (P := (True) ∧ (True)) (by decide +kernel) rfl rfl (And.intro trivial trivial) ?_
            exact mm_ok_iret (by decide +kernel)
          · refine mm_ok_bl (l := [(.iconst (0), 1)]) (pc' := 50) (lo' := [some (.ref 52), some (.int a1), some (.int a2)]) (st' := [.int (0 : Int32)]) (q' := q2) (P := (True) ∧ (True)) (by decide +kernel) rfl rfl (And.intro trivial trivial) ?_
            refine mm_ok_goto (pt := 55) (d := 5) (by decide +kernel) (by decide) ?_
            exact mm_ok_iret (by decide +kernel)
      · refine mm_ok_bl (l := [(.iconst (-12), 2)]) (pc' := 34) (lo' := [some (.ref 52), some (.int a1), some (.int a2)]) (st' := [.int (-12 : Int32)]) (q' := q2) (P := (True) ∧ (True)) (by decide +kernel) rfl rfl (And.intro trivial trivial) ?_
        exact mm_ok_iret (by decide +kernel)
    · refine mm_ok_bl (l := [(.iconst (-11), 2)]) (pc' := 20) (lo' := [some (.ref 52), some (.int a1), some (.int a2)]) (st' := [.int (-11 : Int32)]) (q' := q2) (P := (True) ∧ (True)) (by decide +kernel) rfl rfl (And.intro trivial trivial) ?_
      exact mm_ok_iret (by decide +kernel)
def x12_asSort (a1 : Int32) (b2 : Int64) (q : mm_Q) : Option (Int64 × mm_Q) := (if a1 = 0 then (some (b2.toInt32.toInt8.toInt32.toInt64, q)) else (if a1 = (1 : Int32) then (some (b2.toInt32.toInt16.toInt32.toInt64, q)) else (if a1 = (2 : Int32) then (some (b2.toInt32.toInt64, q)) else (if a1 = (4 : Int32) then (if (lg_cmp b2 (0 : Int64)) = 0 then (some ((0 : Int64), q)) else (some ((1 : Int64), q))) else (some (b2, q))))))
set_option maxRecDepth 20000 in
theorem x12_asSort_ok {L : Nat} {a1 : Int32} {b2 : Int64} {q : mm_Q} {r : Int64} {q1 : mm_Q} (h : x12_asSort a1 b2 q = some (r, q1)) : mm_Runs 1 282 [.int a1, .long b2] (mm_wq L q) (mm_cvl r) (mm_wq L q1) := by
  refine mm_runs_of (d := 0) (L := L) rfl (by decide +kernel) rfl rfl (?_ : mm_ok mm_cvl (mm_Runs 0) 12 false cX12_asSort (some .long) L 0 [some (.int a1), some (.long b2), none] [] q (x12_asSort a1 b2 q)) h
  unfold x12_asSort
  refine mm_ok_bl (l := [(.iload 0, 1)]) (pc' := 1) (lo' := [some (.int a1), some (.long b2), none]) (st' := [.int a1]) (q' := q) (P := (True) ∧ (True)) (by decide +kernel) rfl rfl (And.intro trivial trivial) ?_
  refine mm_ok_ifCond_ne (pt := 11) (d := 10) (by decide +kernel) (by decide) (fun k1 => ?_) (fun k1 => ?_)
  · refine mm_ok_bl (l := [(.lload 1, 1), (.l2i, 1), (.i2b, 1), (.i2l, 1)]) (pc' := 8) (lo' := [some (.int a1), some (.long b2), none]) (st' := [.long b2.toInt32.toInt8.toInt32.toInt64]) (q' := q) (P := (True) ∧ ((True) ∧ ((True) ∧ ((True) ∧ (True))))) (by decide +kernel) rfl rfl (And.intro trivial (And.intro trivial (And.intro trivial (And.intro trivial trivial)))) ?_
    refine mm_ok_goto (pt := 54) (d := 46) (by decide +kernel) (by decide) ?_
    exact mm_ok_lret (by decide +kernel)
  · refine mm_ok_bl (l := [(.iload 0, 1), (.iconst (1), 1)]) (pc' := 13) (lo' := [some (.int a1), some (.long b2), none]) (st' := [.int (1 : Int32), .int a1]) (q' := q) (P := (True) ∧ ((True) ∧ (True))) (by decide +kernel) rfl rfl (And.intro trivial (And.intro trivial trivial)) ?_
    refine mm_ok_if_icmp_ne (pt := 23) (d := 10) (by decide +kernel) (by decide) (fun k2 => ?_) (fun k2 => ?_)
    · refine mm_ok_bl (l := [(.lload 1, 1), (.l2i, 1), (.i2s, 1), (.i2l, 1)]) (pc' := 20) (lo' := [some (.int a1), some (.long b2), none]) (st' := [.long b2.toInt32.toInt16.toInt32.toInt64]) (q' := q) (P := (True) ∧ ((True) ∧ ((True) ∧ ((True) ∧ (True))))) (by decide +kernel) rfl rfl (And.intro trivial (And.intro trivial (And.intro trivial (And.intro trivial trivial)))) ?_
      refine mm_ok_goto (pt := 54) (d := 34) (by decide +kernel) (by decide) ?_
      exact mm_ok_lret (by decide +kernel)
    · refine mm_ok_bl (l := [(.iload 0, 1), (.iconst (2), 1)]) (pc' := 25) (lo' := [some (.int a1), some (.long b2), none]) (st' := [.int (2 : Int32), .int a1]) (q' := q) (P := (True) ∧ ((True) ∧ (True))) (by decide +kernel) rfl rfl (And.intro trivial (And.intro trivial trivial)) ?_
      refine mm_ok_if_icmp_ne (pt := 34) (d := 9) (by decide +kernel) (by decide) (fun k3 => ?_) (fun k3 => ?_)
      · refine mm_ok_bl (l := [(.lload 1, 1), (.l2i, 1), (.i2l, 1)]) (pc' := 31) (lo' := [some (.int a1), some (.long b2), none]) (st' := [.long b2.toInt32.toInt64]) (q' := q) (P := (True) ∧ ((True) ∧ ((True) ∧ (True)))) (by decide +kernel) rfl rfl (And.intro trivial (And.intro trivial (And.intro trivial trivial))) ?_
        refine mm_ok_goto (pt := 54) (d := 23) (by decide +kernel) (by decide) ?_
        exact mm_ok_lret (by decide +kernel)
      · refine mm_ok_bl (l := [(.iload 0, 1), (.iconst (4), 1)]) (pc' := 36) (lo' := [some (.int a1), some (.long b2), none]) (st' := [.int (4 : Int32), .int a1]) (q' := q) (P := (True) ∧ ((True) ∧ (True))) (by decide +kernel) rfl rfl (And.intro trivial (And.intro trivial trivial)) ?_
        refine mm_ok_if_icmp_ne (pt := 53) (d := 17) (by decide +kernel) (by decide) (fun k4 => ?_) (fun k4 => ?_)
        · refine mm_ok_bl (l := [(.lload 1, 1), (.goto_w (0), 1), (.lcmp, 1)]) (pc' := 42) (lo' := [some (.int a1), some (.long b2), none]) (st' := [.int (lg_cmp b2 (0 : Int64))]) (q' := q) (P := (True) ∧ ((True) ∧ ((True) ∧ (True)))) (by decide +kernel) rfl rfl (And.intro trivial (And.intro trivial (And.intro trivial trivial))) ?_
          refine mm_ok_ifCond_eq (pt := 49) (d := 7) (by decide +kernel) (by decide) (fun k5 => ?_) (fun k5 => ?_)
          · refine mm_ok_bl (l := [(.goto_w (0), 1)]) (pc' := 50) (lo' := [some (.int a1), some (.long b2), none]) (st' := [.long (0 : Int64)]) (q' := q) (P := (True) ∧ (True)) (by decide +kernel) rfl rfl (And.intro trivial trivial) ?_
            refine mm_ok_goto (pt := 54) (d := 4) (by decide +kernel) (by decide) ?_
            exact mm_ok_lret (by decide +kernel)
          · refine mm_ok_bl (l := [(.goto_w (1), 1)]) (pc' := 46) (lo' := [some (.int a1), some (.long b2), none]) (st' := [.long (1 : Int64)]) (q' := q) (P := (True) ∧ (True)) (by decide +kernel) rfl rfl (And.intro trivial trivial) ?_
            refine mm_ok_goto (pt := 54) (d := 8) (by decide +kernel) (by decide) ?_
            exact mm_ok_lret (by decide +kernel)
        · refine mm_ok_bl (l := [(.lload 1, 1)]) (pc' := 54) (lo' := [some (.int a1), some (.long b2), none]) (st' := [.long b2]) (q' := q) (P := (True) ∧ (True)) (by decide +kernel) rfl rfl (And.intro trivial trivial) ?_
          exact mm_ok_lret (by decide +kernel)
