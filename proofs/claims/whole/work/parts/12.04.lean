def x9_isChain_h39 (rc : Nat → Int32 → Int32 → mm_Q → Option (Int32 × mm_Q)) : Nat → Int32 → Int32 → Int32 → Int32 → mm_Q → Option (Int32 × mm_Q)
  | 0, _, _, _, _, _ => none
  | n + 1, a1, a2, a3, a4, q => (if a3 ≤ a4 then (some ((1 : Int32), q)) else (mm_cl (x9_letter q) (fun r10 q11 => (mm_cl (x9_isSignOf a1 r10 q11) (fun r12 q13 => (if r12 = 0 then (some ((1 : Int32), q13)) else (mm_cl (x9_letter q13) (fun r15 q16 => (mm_lt (mm_si q16 28 3 ((q16.1 28 3) + (1 : Int32))) (fun q17 => (mm_cl (rc 0 (a1 + (1 : Int32)) a2 q17) (fun r18 q19 => (if r18 = 0 then (some ((0 : Int32), q19)) else (mm_cl (x9_draw (-r15) q19) (fun u21 q22 => (x9_isChain_h39 rc n a1 a2 a3 (a4 + (1 : Int32)) q22))))))))))))))))
set_option maxRecDepth 20000 in
theorem x9_isChain_h39_ok {L : Nat} {d : Nat} (rc : Nat → Int32 → Int32 → mm_Q → Option (Int32 × mm_Q)) (hc0 : ∀ (a1 : Int32) (a2 : Int32) (q : mm_Q) (r : Int32) (q1 : mm_Q), rc 0 a1 a2 q = some (r, q1) → mm_Runs (d + 2) 119 [.ref 28, .int a1, .int a2] (mm_wq L q) (mm_cvi r) (mm_wq L q1)) (hc1 : ∀ (a1 : Int32) (q : mm_Q) (r : Int32) (q1 : mm_Q), rc 1 a1 0 q = some (r, q1) → mm_Runs (d + 2) 121 [.ref 28, .int a1] (mm_wq L q) (mm_cvi r) (mm_wq L q1)) (hc2 : ∀ (a1 : Int32) (q : mm_Q) (r : Int32) (q1 : mm_Q), rc 2 a1 0 q = some (r, q1) → mm_Runs (d + 2) 122 [.ref 28, .int a1] (mm_wq L q) (mm_cvi r) (mm_wq L q1)) (hc3 : ∀ (a1 : Int32) (a2 : Int32) (q : mm_Q) (r : Int32) (q1 : mm_Q), rc 3 a1 a2 q = some (r, q1) → mm_Runs (d + 2) 123 [.ref 28, .int a1, .int a2] (mm_wq L q) (mm_cvi r) (mm_wq L q1)) : ∀ (n : Nat) (a1 : Int32) (a2 : Int32) (a3 : Int32) (a4 : Int32) (q : mm_Q), mm_ok mm_cvi (mm_Runs (d + 2)) 9 false cX9_isChain (some .boolean) L 39 [some (.ref 28), some (.int a1), some (.int a2), some (.int a3), some (.int a4), none] [] q (x9_isChain_h39 rc n a1 a2 a3 a4 q)
  | 0, _, _, _, _, _ => by
    exact mm_ok_none
  | n + 1, a1, a2, a3, a4, q => by
    unfold x9_isChain_h39
    refine mm_ok_bl (l := [(.iload 4, 2), (.iload 3, 1)]) (pc' := 42) (lo' := [some (.ref 28), some (.int a1), some (.int a2), some (.int a3), some (.int a4), none]) (st' := [.int a3, .int a4]) (q' := q) (P := (True) ∧ ((True) ∧ (True))) (by decide +kernel) rfl rfl (And.intro trivial (And.intro trivial trivial)) ?_
    refine mm_ok_if_icmp_ge (pt := 98) (d := 56) (by decide +kernel) (by decide) (fun k9 => ?_) (fun k9 => ?_)
    · refine mm_ok_bl (l := [(.iconst (1), 1)]) (pc' := 99) (lo' := [some (.ref 28), some (.int a1), some (.int a2), some (.int a3), some (.int a4), none]) (st' := [.int (1 : Int32)]) (q' := q) (P := (True) ∧ (True)) (by decide +kernel) rfl rfl (And.intro trivial trivial) ?_
      exact mm_ok_zret (by decide +kernel) (by decide)
    · refine mm_ok_bl (l := [(.iload 1, 1), (.aload 0, 1)]) (pc' := 47) (lo' := [some (.ref 28), some (.int a1), some (.int a2), some (.int a3), some (.int a4), none]) (st' := [.ref 28, .int a1]) (q' := q) (P := (True) ∧ ((True) ∧ (True))) (by decide +kernel) rfl rfl (And.intro trivial (And.intro trivial trivial)) ?_
      refine mm_ok_call (cz := mm_cvi) (j := .invokevirtual 2016) (y := 126) (as := [.ref 28]) (t := [.int a1]) (by decide +kernel) rfl (fun _ _ h => mm_upd (k := 1) (by decide) (x9_letter_ok h)) (fun r10 q11 => ?_)
      refine mm_ok_call (cz := mm_cvi) (j := .invokestatic 1922) (y := 120) (as := [.int a1, .int r10]) (t := []) (by decide +kernel) rfl (fun _ _ h => mm_upd (k := 1) (by decide) (x9_isSignOf_ok h)) (fun r12 q13 => ?_)
      refine mm_ok_ifCond_eq (pt := 98) (d := 45) (by decide +kernel) (by decide) (fun k14 => ?_) (fun k14 => ?_)
      · refine mm_ok_bl (l := [(.iconst (1), 1)]) (pc' := 99) (lo' := [some (.ref 28), some (.int a1), some (.int a2), some (.int a3), some (.int a4), none]) (st' := [.int (1 : Int32)]) (q' := q13) (P := (True) ∧ (True)) (by decide +kernel) rfl rfl (And.intro trivial trivial) ?_
        exact mm_ok_zret (by decide +kernel) (by decide)
      · refine mm_ok_bl (l := [(.aload 0, 1)]) (pc' := 57) (lo' := [some (.ref 28), some (.int a1), some (.int a2), some (.int a3), some (.int a4), none]) (st' := [.ref 28]) (q' := q13) (P := (True) ∧ (True)) (by decide +kernel) rfl rfl (And.intro trivial trivial) ?_
        refine mm_ok_call (cz := mm_cvi) (j := .invokevirtual 2016) (y := 126) (as := [.ref 28]) (t := []) (by decide +kernel) rfl (fun _ _ h => mm_upd (k := 1) (by decide) (x9_letter_ok h)) (fun r15 q16 => ?_)
        refine mm_ok_bl (l := [(.istore 5, 2), (.aload 0, 1), (.dup, 1), (.getfield 579, 3), (.iconst (1), 1), (.iadd, 1), (.putfield 579, 3)]) (pc' := 72) (lo' := [some (.ref 28), some (.int a1), some (.int a2), some (.int a3), some (.int a4), some (.int r15)]) (st' := []) (q' := (mm_si q16 28 3 ((q16.1 28 3) + (1 : Int32)))) (P := (True) ∧ ((True) ∧ ((True) ∧ ((True) ∧ ((True) ∧ ((True) ∧ ((True) ∧ (True)))))))) (by decide +kernel) rfl rfl (And.intro trivial (And.intro trivial (And.intro trivial (And.intro trivial (And.intro trivial (And.intro trivial (And.intro trivial trivial))))))) ?_
        refine mm_ok_lt (fun q17 => ?_)
        refine mm_ok_bl (l := [(.aload 0, 1), (.iload 1, 1), (.iconst (1), 1), (.iadd, 1), (.iload 2, 1)]) (pc' := 77) (lo' := [some (.ref 28), some (.int a1), some (.int a2), some (.int a3), some (.int a4), some (.int r15)]) (st' := [.int a2, .int (a1 + (1 : Int32)), .ref 28]) (q' := q17) (P := (True) ∧ ((True) ∧ ((True) ∧ ((True) ∧ ((True) ∧ (True)))))) (by decide +kernel) rfl rfl (And.intro trivial (And.intro trivial (And.intro trivial (And.intro trivial (And.intro trivial trivial))))) ?_
        refine mm_ok_call (cz := mm_cvi) (j := .invokevirtual 1906) (y := 119) (as := [.ref 28, .int (a1 + (1 : Int32)), .int a2]) (t := []) (by decide +kernel) rfl (fun _ _ h => hc0 _ _ _ _ _ h) (fun r18 q19 => ?_)
        refine mm_ok_ifCond_ne (pt := 85) (d := 5) (by decide +kernel) (by decide) (fun k20 => ?_) (fun k20 => ?_)
        · refine mm_ok_bl (l := [(.iconst (0), 1)]) (pc' := 84) (lo' := [some (.ref 28), some (.int a1), some (.int a2), some (.int a3), some (.int a4), some (.int r15)]) (st' := [.int (0 : Int32)]) (q' := q19) (P := (True) ∧ (True)) (by decide +kernel) rfl rfl (And.intro trivial trivial) ?_
          exact mm_ok_zret (by decide +kernel) (by decide)
        · refine mm_ok_bl (l := [(.aload 0, 1), (.iload 5, 2), (.ineg, 1)]) (pc' := 89) (lo' := [some (.ref 28), some (.int a1), some (.int a2), some (.int a3), some (.int a4), some (.int r15)]) (st' := [.int (-r15), .ref 28]) (q' := q19) (P := (True) ∧ ((True) ∧ ((True) ∧ (True)))) (by decide +kernel) rfl rfl (And.intro trivial (And.intro trivial (And.intro trivial trivial))) ?_
          refine mm_ok_call (cz := mm_cvu) (j := .invokevirtual 2033) (y := 127) (as := [.ref 28, .int (-r15)]) (t := []) (by decide +kernel) rfl (fun _ _ h => mm_upd (k := 1) (by decide) (x9_draw_ok h)) (fun u21 q22 => ?_)
          refine mm_ok_bl (l := [(.iinc 4 (1), 3)]) (pc' := 95) (lo' := [some (.ref 28), some (.int a1), some (.int a2), some (.int a3), some (.int (a4 + (1 : Int32))), some (.int r15)]) (st' := []) (q' := q22) (P := (True) ∧ (True)) (by decide +kernel) rfl rfl (And.intro trivial trivial) ?_
          refine mm_ok_goto (pt := 39) (d := -56) (by decide +kernel) (by decide) ?_
          exact mm_ok_sub (lo := [some (.ref 28), some (.int a1), some (.int a2), some (.int a3), some (.int (a4 + (1 : Int32))), none]) (And.intro rfl (And.intro rfl (And.intro rfl (And.intro rfl (And.intro rfl trivial))))) (x9_isChain_h39_ok rc hc0 hc1 hc2 hc3 n a1 a2 a3 (a4 + (1 : Int32)) q22)
def x9_isChain_j35 (rc : Nat → Int32 → Int32 → mm_Q → Option (Int32 × mm_Q)) (a1 : Int32) (a2 : Int32) (s0 : Int32) (q : mm_Q) : Option (Int32 × mm_Q) := (x9_isChain_h39 rc mm_fu a1 a2 s0 (0 : Int32) q)
set_option maxRecDepth 20000 in
theorem x9_isChain_j35_ok {L : Nat} {d : Nat} (rc : Nat → Int32 → Int32 → mm_Q → Option (Int32 × mm_Q)) (hc0 : ∀ (a1 : Int32) (a2 : Int32) (q : mm_Q) (r : Int32) (q1 : mm_Q), rc 0 a1 a2 q = some (r, q1) → mm_Runs (d + 2) 119 [.ref 28, .int a1, .int a2] (mm_wq L q) (mm_cvi r) (mm_wq L q1)) (hc1 : ∀ (a1 : Int32) (q : mm_Q) (r : Int32) (q1 : mm_Q), rc 1 a1 0 q = some (r, q1) → mm_Runs (d + 2) 121 [.ref 28, .int a1] (mm_wq L q) (mm_cvi r) (mm_wq L q1)) (hc2 : ∀ (a1 : Int32) (q : mm_Q) (r : Int32) (q1 : mm_Q), rc 2 a1 0 q = some (r, q1) → mm_Runs (d + 2) 122 [.ref 28, .int a1] (mm_wq L q) (mm_cvi r) (mm_wq L q1)) (hc3 : ∀ (a1 : Int32) (a2 : Int32) (q : mm_Q) (r : Int32) (q1 : mm_Q), rc 3 a1 a2 q = some (r, q1) → mm_Runs (d + 2) 123 [.ref 28, .int a1, .int a2] (mm_wq L q) (mm_cvi r) (mm_wq L q1)) (a1 : Int32) (a2 : Int32) (s0 : Int32) (q : mm_Q) : mm_ok mm_cvi (mm_Runs (d + 2)) 9 false cX9_isChain (some .boolean) L 35 [some (.ref 28), some (.int a1), some (.int a2), none, none, none] [.int s0] q (x9_isChain_j35 rc a1 a2 s0 q) := by
  unfold x9_isChain_j35
  refine mm_ok_bl (l := [(.istore 3, 1), (.iconst (0), 1), (.istore 4, 2)]) (pc' := 39) (lo' := [some (.ref 28), some (.int a1), some (.int a2), some (.int s0), some (.int (0 : Int32)), none]) (st' := []) (q' := q) (P := (True) ∧ ((True) ∧ ((True) ∧ (True)))) (by decide +kernel) rfl rfl (And.intro trivial (And.intro trivial (And.intro trivial trivial))) ?_
  exact mm_ok_sub (lo := [some (.ref 28), some (.int a1), some (.int a2), some (.int s0), some (.int (0 : Int32)), none]) (And.intro rfl (And.intro rfl (And.intro rfl (And.intro rfl (And.intro rfl trivial))))) (x9_isChain_h39_ok rc hc0 hc1 hc2 hc3 mm_fu a1 a2 s0 (0 : Int32) q)
def x9_isChain (rc : Nat → Int32 → Int32 → mm_Q → Option (Int32 × mm_Q)) (a1 : Int32) (a2 : Int32) (q : mm_Q) : Option (Int32 × mm_Q) := (if a1 ≤ (4 : Int32) then (mm_cl (rc 0 (a1 + (1 : Int32)) a2 q) (fun r2 q3 => (if r2 = 0 then (some ((0 : Int32), q3)) else (if a1 = (2 : Int32) then (x9_isChain_j35 rc a1 a2 (1 : Int32) q3) else (x9_isChain_j35 rc a1 a2 (120 : Int32) q3))))) else (mm_cl (rc 1 a2 0 q) (fun r6 q7 => (mm_ck (mm_bb r6) (some (r6, q7))))))
set_option maxRecDepth 20000 in
theorem x9_isChain_ok {L d : Nat} (rc : Nat → Int32 → Int32 → mm_Q → Option (Int32 × mm_Q)) (hc0 : ∀ (a1 : Int32) (a2 : Int32) (q : mm_Q) (r : Int32) (q1 : mm_Q), rc 0 a1 a2 q = some (r, q1) → mm_Runs (d + 2) 119 [.ref 28, .int a1, .int a2] (mm_wq L q) (mm_cvi r) (mm_wq L q1)) (hc1 : ∀ (a1 : Int32) (q : mm_Q) (r : Int32) (q1 : mm_Q), rc 1 a1 0 q = some (r, q1) → mm_Runs (d + 2) 121 [.ref 28, .int a1] (mm_wq L q) (mm_cvi r) (mm_wq L q1)) (hc2 : ∀ (a1 : Int32) (q : mm_Q) (r : Int32) (q1 : mm_Q), rc 2 a1 0 q = some (r, q1) → mm_Runs (d + 2) 122 [.ref 28, .int a1] (mm_wq L q) (mm_cvi r) (mm_wq L q1)) (hc3 : ∀ (a1 : Int32) (a2 : Int32) (q : mm_Q) (r : Int32) (q1 : mm_Q), rc 3 a1 a2 q = some (r, q1) → mm_Runs (d + 2) 123 [.ref 28, .int a1, .int a2] (mm_wq L q) (mm_cvi r) (mm_wq L q1)) {a1 : Int32} {a2 : Int32} {q : mm_Q} {r : Int32} {q1 : mm_Q} (h : x9_isChain rc a1 a2 q = some (r, q1)) : mm_Runs (d + 2 + 1) 119 [.ref 28, .int a1, .int a2] (mm_wq L q) (mm_cvi r) (mm_wq L q1) := by
  refine mm_runs_of (d := d + 2) (L := L) rfl (by decide +kernel) rfl rfl (?_ : mm_ok mm_cvi (mm_Runs (d + 2)) 9 false cX9_isChain (some .boolean) L 0 [some (.ref 28), some (.int a1), some (.int a2), none, none, none] [] q (x9_isChain rc a1 a2 q)) h
  unfold x9_isChain
  refine mm_ok_bl (l := [(.iload 1, 1), (.iconst (4), 1)]) (pc' := 2) (lo' := [some (.ref 28), some (.int a1), some (.int a2), none, none, none]) (st' := [.int (4 : Int32), .int a1]) (q' := q) (P := (True) ∧ ((True) ∧ (True))) (by decide +kernel) rfl rfl (And.intro trivial (And.intro trivial trivial)) ?_
  refine mm_ok_if_icmp_le (pt := 11) (d := 9) (by decide +kernel) (by decide) (fun k1 => ?_) (fun k1 => ?_)
  · refine mm_ok_bl (l := [(.aload 0, 1), (.iload 1, 1), (.iconst (1), 1), (.iadd, 1), (.iload 2, 1)]) (pc' := 16) (lo' := [some (.ref 28), some (.int a1), some (.int a2), none, none, none]) (st' := [.int a2, .int (a1 + (1 : Int32)), .ref 28]) (q' := q) (P := (True) ∧ ((True) ∧ ((True) ∧ ((True) ∧ ((True) ∧ (True)))))) (by decide +kernel) rfl rfl (And.intro trivial (And.intro trivial (And.intro trivial (And.intro trivial (And.intro trivial trivial))))) ?_
    refine mm_ok_call (cz := mm_cvi) (j := .invokevirtual 1906) (y := 119) (as := [.ref 28, .int (a1 + (1 : Int32)), .int a2]) (t := []) (by decide +kernel) rfl (fun _ _ h => hc0 _ _ _ _ _ h) (fun r2 q3 => ?_)
    refine mm_ok_ifCond_ne (pt := 24) (d := 5) (by decide +kernel) (by decide) (fun k4 => ?_) (fun k4 => ?_)
    · refine mm_ok_bl (l := [(.iconst (0), 1)]) (pc' := 23) (lo' := [some (.ref 28), some (.int a1), some (.int a2), none, none, none]) (st' := [.int (0 : Int32)]) (q' := q3) (P := (True) ∧ (True)) (by decide +kernel) rfl rfl (And.intro trivial trivial) ?_
      exact mm_ok_zret (by decide +kernel) (by decide)
    · refine mm_ok_bl (l := [(.iload 1, 1), (.iconst (2), 1)]) (pc' := 26) (lo' := [some (.ref 28), some (.int a1), some (.int a2), none, none, none]) (st' := [.int (2 : Int32), .int a1]) (q' := q3) (P := (True) ∧ ((True) ∧ (True))) (by decide +kernel) rfl rfl (And.intro trivial (And.intro trivial trivial)) ?_
      refine mm_ok_if_icmp_ne (pt := 33) (d := 7) (by decide +kernel) (by decide) (fun k5 => ?_) (fun k5 => ?_)
      · refine mm_ok_bl (l := [(.iconst (1), 1)]) (pc' := 30) (lo' := [some (.ref 28), some (.int a1), some (.int a2), none, none, none]) (st' := [.int (1 : Int32)]) (q' := q3) (P := (True) ∧ (True)) (by decide +kernel) rfl rfl (And.intro trivial trivial) ?_
        refine mm_ok_goto (pt := 35) (d := 5) (by decide +kernel) (by decide) ?_
        exact mm_ok_sub (lo := [some (.ref 28), some (.int a1), some (.int a2), none, none, none]) (And.intro rfl (And.intro rfl (And.intro rfl trivial))) (x9_isChain_j35_ok rc hc0 hc1 hc2 hc3 a1 a2 (1 : Int32) q3)
      · refine mm_ok_bl (l := [(.iconst (120), 2)]) (pc' := 35) (lo' := [some (.ref 28), some (.int a1), some (.int a2), none, none, none]) (st' := [.int (120 : Int32)]) (q' := q3) (P := (True) ∧ (True)) (by decide +kernel) rfl rfl (And.intro trivial trivial) ?_
        exact mm_ok_sub (lo := [some (.ref 28), some (.int a1), some (.int a2), none, none, none]) (And.intro rfl (And.intro rfl (And.intro rfl trivial))) (x9_isChain_j35_ok rc hc0 hc1 hc2 hc3 a1 a2 (120 : Int32) q3)
  · refine mm_ok_bl (l := [(.aload 0, 1), (.iload 2, 1)]) (pc' := 7) (lo' := [some (.ref 28), some (.int a1), some (.int a2), none, none, none]) (st' := [.int a2, .ref 28]) (q' := q) (P := (True) ∧ ((True) ∧ (True))) (by decide +kernel) rfl rfl (And.intro trivial (And.intro trivial trivial)) ?_
    refine mm_ok_call (cz := mm_cvi) (j := .invokevirtual 1937) (y := 121) (as := [.ref 28, .int a2]) (t := []) (by decide +kernel) rfl (fun _ _ h => hc1 _ _ _ _ h) (fun r6 q7 => ?_)
    refine mm_ok_ck (fun c8 => ?_)
    exact mm_ok_zret (by decide +kernel) (mm_bb_ok c8)
def x9_isOperand_j66 (rc : Nat → Int32 → Int32 → mm_Q → Option (Int32 × mm_Q)) (a1 : Int32) (a2 : Int32) (q : mm_Q) : Option (Int32 × mm_Q) := (if a1 < (6 : Int32) then (mm_lt (mm_si q 28 3 ((q.1 28 3) + (1 : Int32))) (fun q18 => (if a2 = (40 : Int32) then (mm_cl (rc 2 (a1 + (1 : Int32)) 0 q18) (fun r20 q21 => (mm_ck (mm_bb r20) (some (r20, q21))))) else (mm_cl (rc 3 a2 (a1 + (1 : Int32)) q18) (fun r23 q24 => (mm_ck (mm_bb r23) (some (r23, q24)))))))) else (some ((0 : Int32), q)))
set_option maxRecDepth 20000 in
theorem x9_isOperand_j66_ok {L : Nat} {d : Nat} (rc : Nat → Int32 → Int32 → mm_Q → Option (Int32 × mm_Q)) (hc0 : ∀ (a1 : Int32) (a2 : Int32) (q : mm_Q) (r : Int32) (q1 : mm_Q), rc 0 a1 a2 q = some (r, q1) → mm_Runs (d + 2) 119 [.ref 28, .int a1, .int a2] (mm_wq L q) (mm_cvi r) (mm_wq L q1)) (hc1 : ∀ (a1 : Int32) (q : mm_Q) (r : Int32) (q1 : mm_Q), rc 1 a1 0 q = some (r, q1) → mm_Runs (d + 2) 121 [.ref 28, .int a1] (mm_wq L q) (mm_cvi r) (mm_wq L q1)) (hc2 : ∀ (a1 : Int32) (q : mm_Q) (r : Int32) (q1 : mm_Q), rc 2 a1 0 q = some (r, q1) → mm_Runs (d + 2) 122 [.ref 28, .int a1] (mm_wq L q) (mm_cvi r) (mm_wq L q1)) (hc3 : ∀ (a1 : Int32) (a2 : Int32) (q : mm_Q) (r : Int32) (q1 : mm_Q), rc 3 a1 a2 q = some (r, q1) → mm_Runs (d + 2) 123 [.ref 28, .int a1, .int a2] (mm_wq L q) (mm_cvi r) (mm_wq L q1)) (a1 : Int32) (a2 : Int32) (q : mm_Q) : mm_ok mm_cvi (mm_Runs (d + 2)) 9 false cX9_isOperand (some .boolean) L 66 [some (.ref 28), some (.int a1), some (.int a2), none] [] q (x9_isOperand_j66 rc a1 a2 q) := by
  unfold x9_isOperand_j66
  refine mm_ok_bl (l := [(.iload 1, 1), (.iconst (6), 2)]) (pc' := 69) (lo' := [some (.ref 28), some (.int a1), some (.int a2), none]) (st' := [.int (6 : Int32), .int a1]) (q' := q) (P := (True) ∧ ((True) ∧ (True))) (by decide +kernel) rfl rfl (And.intro trivial (And.intro trivial trivial)) ?_
  refine mm_ok_if_icmp_lt (pt := 74) (d := 5) (by decide +kernel) (by decide) (fun k17 => ?_) (fun k17 => ?_)
  · refine mm_ok_bl (l := [(.aload 0, 1), (.dup, 1), (.getfield 579, 3), (.iconst (1), 1), (.iadd, 1), (.putfield 579, 3)]) (pc' := 84) (lo' := [some (.ref 28), some (.int a1), some (.int a2), none]) (st' := []) (q' := (mm_si q 28 3 ((q.1 28 3) + (1 : Int32)))) (P := (True) ∧ ((True) ∧ ((True) ∧ ((True) ∧ ((True) ∧ ((True) ∧ (True))))))) (by decide +kernel) rfl rfl (And.intro trivial (And.intro trivial (And.intro trivial (And.intro trivial (And.intro trivial (And.intro trivial trivial)))))) ?_
    refine mm_ok_lt (fun q18 => ?_)
    refine mm_ok_bl (l := [(.iload 2, 1), (.iconst (40), 2)]) (pc' := 87) (lo' := [some (.ref 28), some (.int a1), some (.int a2), none]) (st' := [.int (40 : Int32), .int a2]) (q' := q18) (P := (True) ∧ ((True) ∧ (True))) (by decide +kernel) rfl rfl (And.intro trivial (And.intro trivial trivial)) ?_
    refine mm_ok_if_icmp_ne (pt := 100) (d := 13) (by decide +kernel) (by decide) (fun k19 => ?_) (fun k19 => ?_)
    · refine mm_ok_bl (l := [(.aload 0, 1), (.iload 1, 1), (.iconst (1), 1), (.iadd, 1)]) (pc' := 94) (lo' := [some (.ref 28), some (.int a1), some (.int a2), none]) (st' := [.int (a1 + (1 : Int32)), .ref 28]) (q' := q18) (P := (True) ∧ ((True) ∧ ((True) ∧ ((True) ∧ (True))))) (by decide +kernel) rfl rfl (And.intro trivial (And.intro trivial (And.intro trivial (And.intro trivial trivial)))) ?_
      refine mm_ok_call (cz := mm_cvi) (j := .invokevirtual 1953) (y := 122) (as := [.ref 28, .int (a1 + (1 : Int32))]) (t := []) (by decide +kernel) rfl (fun _ _ h => hc2 _ _ _ _ h) (fun r20 q21 => ?_)
      refine mm_ok_goto (pt := 108) (d := 11) (by decide +kernel) (by decide) ?_
      refine mm_ok_ck (fun c22 => ?_)
      exact mm_ok_zret (by decide +kernel) (mm_bb_ok c22)
    · refine mm_ok_bl (l := [(.aload 0, 1), (.iload 2, 1), (.iload 1, 1), (.iconst (1), 1), (.iadd, 1)]) (pc' := 105) (lo' := [some (.ref 28), some (.int a1), some (.int a2), none]) (st' := [.int (a1 + (1 : Int32)), .int a2, .ref 28]) (q' := q18) (P := (True) ∧ ((True) ∧ ((True) ∧ ((True) ∧ ((True) ∧ (True)))))) (by decide +kernel) rfl rfl (And.intro trivial (And.intro trivial (And.intro trivial (And.intro trivial (And.intro trivial trivial))))) ?_
      refine mm_ok_call (cz := mm_cvi) (j := .invokevirtual 1970) (y := 123) (as := [.ref 28, .int a2, .int (a1 + (1 : Int32))]) (t := []) (by decide +kernel) rfl (fun _ _ h => hc3 _ _ _ _ _ h) (fun r23 q24 => ?_)
      refine mm_ok_ck (fun c25 => ?_)
      exact mm_ok_zret (by decide +kernel) (mm_bb_ok c25)
  · refine mm_ok_bl (l := [(.iconst (0), 1)]) (pc' := 73) (lo' := [some (.ref 28), some (.int a1), some (.int a2), none]) (st' := [.int (0 : Int32)]) (q' := q) (P := (True) ∧ (True)) (by decide +kernel) rfl rfl (And.intro trivial trivial) ?_
    exact mm_ok_zret (by decide +kernel) (by decide)
def x9_isOperand (rc : Nat → Int32 → Int32 → mm_Q → Option (Int32 × mm_Q)) (a1 : Int32) (q : mm_Q) : Option (Int32 × mm_Q) := (mm_cl (x9_letter q) (fun r1 q2 => (mm_cl (x9_isDigit r1 q2) (fun r3 q4 => (if r3 = 0 then (mm_cl (x5_nameOf r1 q4) (fun r6 q7 => (if r6 < 0 then (if r1 = (40 : Int32) then (x9_isOperand_j66 rc a1 r1 q7) else (if r1 = (33 : Int32) then (x9_isOperand_j66 rc a1 r1 q7) else (if r1 = (45 : Int32) then (x9_isOperand_j66 rc a1 r1 q7) else (some ((0 : Int32), q7))))) else (mm_lt (mm_si q7 28 3 ((q7.1 28 3) + (1 : Int32))) (fun q12 => (mm_cl (x9_draw ((10000 : Int32) + r6) q12) (fun u13 q14 => (some ((1 : Int32), q14))))))))) else (mm_cl (x9_drawNumber q4) (fun u15 q16 => (some ((1 : Int32), q16)))))))))
set_option maxRecDepth 20000 in
theorem x9_isOperand_ok {L d : Nat} (rc : Nat → Int32 → Int32 → mm_Q → Option (Int32 × mm_Q)) (hc0 : ∀ (a1 : Int32) (a2 : Int32) (q : mm_Q) (r : Int32) (q1 : mm_Q), rc 0 a1 a2 q = some (r, q1) → mm_Runs (d + 2) 119 [.ref 28, .int a1, .int a2] (mm_wq L q) (mm_cvi r) (mm_wq L q1)) (hc1 : ∀ (a1 : Int32) (q : mm_Q) (r : Int32) (q1 : mm_Q), rc 1 a1 0 q = some (r, q1) → mm_Runs (d + 2) 121 [.ref 28, .int a1] (mm_wq L q) (mm_cvi r) (mm_wq L q1)) (hc2 : ∀ (a1 : Int32) (q : mm_Q) (r : Int32) (q1 : mm_Q), rc 2 a1 0 q = some (r, q1) → mm_Runs (d + 2) 122 [.ref 28, .int a1] (mm_wq L q) (mm_cvi r) (mm_wq L q1)) (hc3 : ∀ (a1 : Int32) (a2 : Int32) (q : mm_Q) (r : Int32) (q1 : mm_Q), rc 3 a1 a2 q = some (r, q1) → mm_Runs (d + 2) 123 [.ref 28, .int a1, .int a2] (mm_wq L q) (mm_cvi r) (mm_wq L q1)) {a1 : Int32} {q : mm_Q} {r : Int32} {q1 : mm_Q} (h : x9_isOperand rc a1 q = some (r, q1)) : mm_Runs (d + 2 + 1) 121 [.ref 28, .int a1] (mm_wq L q) (mm_cvi r) (mm_wq L q1) := by
  refine mm_runs_of (d := d + 2) (L := L) rfl (by decide +kernel) rfl rfl (?_ : mm_ok mm_cvi (mm_Runs (d + 2)) 9 false cX9_isOperand (some .boolean) L 0 [some (.ref 28), some (.int a1), none, none] [] q (x9_isOperand rc a1 q)) h
  unfold x9_isOperand
  refine mm_ok_bl (l := [(.aload 0, 1)]) (pc' := 1) (lo' := [some (.ref 28), some (.int a1), none, none]) (st' := [.ref 28]) (q' := q) (P := (True) ∧ (True)) (by decide +kernel) rfl rfl (And.intro trivial trivial) ?_
  refine mm_ok_call (cz := mm_cvi) (j := .invokevirtual 2016) (y := 126) (as := [.ref 28]) (t := []) (by decide +kernel) rfl (fun _ _ h => mm_upd (k := 1) (by decide) (x9_letter_ok h)) (fun r1 q2 => ?_)
  refine mm_ok_bl (l := [(.istore 2, 1), (.iload 2, 1)]) (pc' := 6) (lo' := [some (.ref 28), some (.int a1), some (.int r1), none]) (st' := [.int r1]) (q' := q2) (P := (True) ∧ ((True) ∧ (True))) (by decide +kernel) rfl rfl (And.intro trivial (And.intro trivial trivial)) ?_
  refine mm_ok_call (cz := mm_cvi) (j := .invokestatic 2001) (y := 125) (as := [.int r1]) (t := []) (by decide +kernel) rfl (fun _ _ h => mm_upd (k := 1) (by decide) (x9_isDigit_ok h)) (fun r3 q4 => ?_)
  refine mm_ok_ifCond_eq (pt := 18) (d := 9) (by decide +kernel) (by decide) (fun k5 => ?_) (fun k5 => ?_)
  · refine mm_ok_bl (l := [(.iload 2, 1)]) (pc' := 19) (lo' := [some (.ref 28), some (.int a1), some (.int r1), none]) (st' := [.int r1]) (q' := q4) (P := (True) ∧ (True)) (by decide +kernel) rfl rfl (And.intro trivial trivial) ?_
    refine mm_ok_call (cz := mm_cvi) (j := .invokestatic 1025) (y := 64) (as := [.int r1]) (t := []) (by decide +kernel) rfl (fun _ _ h => mm_upd (k := 1) (by decide) (x5_nameOf_ok h)) (fun r6 q7 => ?_)
    refine mm_ok_bl (l := [(.istore 3, 1), (.iload 3, 1)]) (pc' := 24) (lo' := [some (.ref 28), some (.int a1), some (.int r1), some (.int r6)]) (st' := [.int r6]) (q' := q7) (P := (True) ∧ ((True) ∧ (True))) (by decide +kernel) rfl rfl (And.intro trivial (And.intro trivial trivial)) ?_
    refine mm_ok_ifCond_lt (pt := 48) (d := 24) (by decide +kernel) (by decide) (fun k8 => ?_) (fun k8 => ?_)
    · refine mm_ok_bl (l := [(.iload 2, 1), (.iconst (40), 2)]) (pc' := 51) (lo' := [some (.ref 28), some (.int a1), some (.int r1), some (.int r6)]) (st' := [.int (40 : Int32), .int r1]) (q' := q7) (P := (True) ∧ ((True) ∧ (True))) (by decide +kernel) rfl rfl (And.intro trivial (And.intro trivial trivial)) ?_
      refine mm_ok_if_icmp_eq (pt := 66) (d := 15) (by decide +kernel) (by decide) (fun k9 => ?_) (fun k9 => ?_)
      · exact mm_ok_sub (lo := [some (.ref 28), some (.int a1), some (.int r1), none]) (And.intro rfl (And.intro rfl (And.intro rfl trivial))) (x9_isOperand_j66_ok rc hc0 hc1 hc2 hc3 a1 r1 q7)
      · refine mm_ok_bl (l := [(.iload 2, 1), (.iconst (33), 2)]) (pc' := 57) (lo' := [some (.ref 28), some (.int a1), some (.int r1), some (.int r6)]) (st' := [.int (33 : Int32), .int r1]) (q' := q7) (P := (True) ∧ ((True) ∧ (True))) (by decide +kernel) rfl rfl (And.intro trivial (And.intro trivial trivial)) ?_
        refine mm_ok_if_icmp_eq (pt := 66) (d := 9) (by decide +kernel) (by decide) (fun k10 => ?_) (fun k10 => ?_)
        · exact mm_ok_sub (lo := [some (.ref 28), some (.int a1), some (.int r1), none]) (And.intro rfl (And.intro rfl (And.intro rfl trivial))) (x9_isOperand_j66_ok rc hc0 hc1 hc2 hc3 a1 r1 q7)
        · refine mm_ok_bl (l := [(.iload 2, 1), (.iconst (45), 2)]) (pc' := 63) (lo' := [some (.ref 28), some (.int a1), some (.int r1), some (.int r6)]) (st' := [.int (45 : Int32), .int r1]) (q' := q7) (P := (True) ∧ ((True) ∧ (True))) (by decide +kernel) rfl rfl (And.intro trivial (And.intro trivial trivial)) ?_
          refine mm_ok_if_icmp_ne (pt := 72) (d := 9) (by decide +kernel) (by decide) (fun k11 => ?_) (fun k11 => ?_)
          · exact mm_ok_sub (lo := [some (.ref 28), some (.int a1), some (.int r1), none]) (And.intro rfl (And.intro rfl (And.intro rfl trivial))) (x9_isOperand_j66_ok rc hc0 hc1 hc2 hc3 a1 r1 q7)
          · refine mm_ok_bl (l := [(.iconst (0), 1)]) (pc' := 73) (lo' := [some (.ref 28), some (.int a1), some (.int r1), some (.int r6)]) (st' := [.int (0 : Int32)]) (q' := q7) (P := (True) ∧ (True)) (by decide +kernel) rfl rfl (And.intro trivial trivial) ?_
            exact mm_ok_zret (by decide +kernel) (by decide)
    · refine mm_ok_bl (l := [(.aload 0, 1), (.dup, 1), (.getfield 579, 3), (.iconst (1), 1), (.iadd, 1), (.putfield 579, 3)]) (pc' := 37) (lo' := [some (.ref 28), some (.int a1), some (.int r1), some (.int r6)]) (st' := []) (q' := (mm_si q7 28 3 ((q7.1 28 3) + (1 : Int32)))) (P := (True) ∧ ((True) ∧ ((True) ∧ ((True) ∧ ((True) ∧ ((True) ∧ (True))))))) (by decide +kernel) rfl rfl (And.intro trivial (And.intro trivial (And.intro trivial (And.intro trivial (And.intro trivial (And.intro trivial trivial)))))) ?_
      refine mm_ok_lt (fun q12 => ?_)
      refine mm_ok_bl (l := [(.aload 0, 1), (.iconst (10000), 3), (.iload 3, 1), (.iadd, 1)]) (pc' := 43) (lo' := [some (.ref 28), some (.int a1), some (.int r1), some (.int r6)]) (st' := [.int ((10000 : Int32) + r6), .ref 28]) (q' := q12) (P := (True) ∧ ((True) ∧ ((True) ∧ ((True) ∧ (True))))) (by decide +kernel) rfl rfl (And.intro trivial (And.intro trivial (And.intro trivial (And.intro trivial trivial)))) ?_
      refine mm_ok_call (cz := mm_cvu) (j := .invokevirtual 2033) (y := 127) (as := [.ref 28, .int ((10000 : Int32) + r6)]) (t := []) (by decide +kernel) rfl (fun _ _ h => mm_upd (k := 1) (by decide) (x9_draw_ok h)) (fun u13 q14 => ?_)
      refine mm_ok_bl (l := [(.iconst (1), 1)]) (pc' := 47) (lo' := [some (.ref 28), some (.int a1), some (.int r1), some (.int r6)]) (st' := [.int (1 : Int32)]) (q' := q14) (P := (True) ∧ (True)) (by decide +kernel) rfl rfl (And.intro trivial trivial) ?_
      exact mm_ok_zret (by decide +kernel) (by decide)
  · refine mm_ok_bl (l := [(.aload 0, 1)]) (pc' := 13) (lo' := [some (.ref 28), some (.int a1), some (.int r1), none]) (st' := [.ref 28]) (q' := q4) (P := (True) ∧ (True)) (by decide +kernel) rfl rfl (And.intro trivial trivial) ?_
    refine mm_ok_call (cz := mm_cvu) (j := .invokevirtual 1984) (y := 124) (as := [.ref 28]) (t := []) (by decide +kernel) rfl (fun _ _ h => mm_upd (k := 2) (by decide) (x9_drawNumber_ok h)) (fun u15 q16 => ?_)
    refine mm_ok_bl (l := [(.iconst (1), 1)]) (pc' := 17) (lo' := [some (.ref 28), some (.int a1), some (.int r1), none]) (st' := [.int (1 : Int32)]) (q' := q16) (P := (True) ∧ (True)) (by decide +kernel) rfl rfl (And.intro trivial trivial) ?_
    exact mm_ok_zret (by decide +kernel) (by decide)
def x9_isClosed (rc : Nat → Int32 → Int32 → mm_Q → Option (Int32 × mm_Q)) (a1 : Int32) (q : mm_Q) : Option (Int32 × mm_Q) := (mm_cl (rc 0 (0 : Int32) a1 q) (fun r1 q2 => (if r1 = 0 then (some ((0 : Int32), q2)) else (mm_cl (x9_letter q2) (fun r4 q5 => (if r4 = (41 : Int32) then (mm_lt (mm_si q5 28 3 ((q5.1 28 3) + (1 : Int32))) (fun q7 => (some ((1 : Int32), q7)))) else (some ((0 : Int32), q5))))))))
set_option maxRecDepth 20000 in
theorem x9_isClosed_ok {L d : Nat} (rc : Nat → Int32 → Int32 → mm_Q → Option (Int32 × mm_Q)) (hc0 : ∀ (a1 : Int32) (a2 : Int32) (q : mm_Q) (r : Int32) (q1 : mm_Q), rc 0 a1 a2 q = some (r, q1) → mm_Runs (d + 2) 119 [.ref 28, .int a1, .int a2] (mm_wq L q) (mm_cvi r) (mm_wq L q1)) (hc1 : ∀ (a1 : Int32) (q : mm_Q) (r : Int32) (q1 : mm_Q), rc 1 a1 0 q = some (r, q1) → mm_Runs (d + 2) 121 [.ref 28, .int a1] (mm_wq L q) (mm_cvi r) (mm_wq L q1)) (hc2 : ∀ (a1 : Int32) (q : mm_Q) (r : Int32) (q1 : mm_Q), rc 2 a1 0 q = some (r, q1) → mm_Runs (d + 2) 122 [.ref 28, .int a1] (mm_wq L q) (mm_cvi r) (mm_wq L q1)) (hc3 : ∀ (a1 : Int32) (a2 : Int32) (q : mm_Q) (r : Int32) (q1 : mm_Q), rc 3 a1 a2 q = some (r, q1) → mm_Runs (d + 2) 123 [.ref 28, .int a1, .int a2] (mm_wq L q) (mm_cvi r) (mm_wq L q1)) {a1 : Int32} {q : mm_Q} {r : Int32} {q1 : mm_Q} (h : x9_isClosed rc a1 q = some (r, q1)) : mm_Runs (d + 2 + 1) 122 [.ref 28, .int a1] (mm_wq L q) (mm_cvi r) (mm_wq L q1) := by
  refine mm_runs_of (d := d + 2) (L := L) rfl (by decide +kernel) rfl rfl (?_ : mm_ok mm_cvi (mm_Runs (d + 2)) 9 false cX9_isClosed (some .boolean) L 0 [some (.ref 28), some (.int a1)] [] q (x9_isClosed rc a1 q)) h
  unfold x9_isClosed
  refine mm_ok_bl (l := [(.aload 0, 1), (.iconst (0), 1), (.iload 1, 1)]) (pc' := 3) (lo' := [some (.ref 28), some (.int a1)]) (st' := [.int a1, .int (0 : Int32), .ref 28]) (q' := q) (P := (True) ∧ ((True) ∧ ((True) ∧ (True)))) (by decide +kernel) rfl rfl (And.intro trivial (And.intro trivial (And.intro trivial trivial))) ?_
  refine mm_ok_call (cz := mm_cvi) (j := .invokevirtual 1906) (y := 119) (as := [.ref 28, .int (0 : Int32), .int a1]) (t := []) (by decide +kernel) rfl (fun _ _ h => hc0 _ _ _ _ _ h) (fun r1 q2 => ?_)
  refine mm_ok_ifCond_eq (pt := 18) (d := 12) (by decide +kernel) (by decide) (fun k3 => ?_) (fun k3 => ?_)
  · refine mm_ok_bl (l := [(.iconst (0), 1)]) (pc' := 19) (lo' := [some (.ref 28), some (.int a1)]) (st' := [.int (0 : Int32)]) (q' := q2) (P := (True) ∧ (True)) (by decide +kernel) rfl rfl (And.intro trivial trivial) ?_
    exact mm_ok_zret (by decide +kernel) (by decide)
  · refine mm_ok_bl (l := [(.aload 0, 1)]) (pc' := 10) (lo' := [some (.ref 28), some (.int a1)]) (st' := [.ref 28]) (q' := q2) (P := (True) ∧ (True)) (by decide +kernel) rfl rfl (And.intro trivial trivial) ?_
    refine mm_ok_call (cz := mm_cvi) (j := .invokevirtual 2016) (y := 126) (as := [.ref 28]) (t := []) (by decide +kernel) rfl (fun _ _ h => mm_upd (k := 1) (by decide) (x9_letter_ok h)) (fun r4 q5 => ?_)
    refine mm_ok_bl (l := [(.iconst (41), 2)]) (pc' := 15) (lo' := [some (.ref 28), some (.int a1)]) (st' := [.int (41 : Int32), .int r4]) (q' := q5) (P := (True) ∧ (True)) (by decide +kernel) rfl rfl (And.intro trivial trivial) ?_
    refine mm_ok_if_icmp_eq (pt := 20) (d := 5) (by decide +kernel) (by decide) (fun k6 => ?_) (fun k6 => ?_)
    · refine mm_ok_bl (l := [(.aload 0, 1), (.dup, 1), (.getfield 579, 3), (.iconst (1), 1), (.iadd, 1), (.putfield 579, 3)]) (pc' := 30) (lo' := [some (.ref 28), some (.int a1)]) (st' := []) (q' := (mm_si q5 28 3 ((q5.1 28 3) + (1 : Int32)))) (P := (True) ∧ ((True) ∧ ((True) ∧ ((True) ∧ ((True) ∧ ((True) ∧ (True))))))) (by decide +kernel) rfl rfl (And.intro trivial (And.intro trivial (And.intro trivial (And.intro trivial (And.intro trivial (And.intro trivial trivial)))))) ?_
      refine mm_ok_lt (fun q7 => ?_)
      refine mm_ok_bl (l := [(.iconst (1), 1)]) (pc' := 31) (lo' := [some (.ref 28), some (.int a1)]) (st' := [.int (1 : Int32)]) (q' := q7) (P := (True) ∧ (True)) (by decide +kernel) rfl rfl (And.intro trivial trivial) ?_
      exact mm_ok_zret (by decide +kernel) (by decide)
    · refine mm_ok_bl (l := [(.iconst (0), 1)]) (pc' := 19) (lo' := [some (.ref 28), some (.int a1)]) (st' := [.int (0 : Int32)]) (q' := q5) (P := (True) ∧ (True)) (by decide +kernel) rfl rfl (And.intro trivial trivial) ?_
      exact mm_ok_zret (by decide +kernel) (by decide)
def x9_isSigned_j23 (rc : Nat → Int32 → Int32 → mm_Q → Option (Int32 × mm_Q)) (s1 : Int32) (q : mm_Q) : Option (Int32 × mm_Q) := (mm_cl (x9_draw s1 q) (fun u5 q6 => (some ((1 : Int32), q6))))
set_option maxRecDepth 20000 in
theorem x9_isSigned_j23_ok {L : Nat} {d : Nat} (rc : Nat → Int32 → Int32 → mm_Q → Option (Int32 × mm_Q)) (hc0 : ∀ (a1 : Int32) (a2 : Int32) (q : mm_Q) (r : Int32) (q1 : mm_Q), rc 0 a1 a2 q = some (r, q1) → mm_Runs (d + 2) 119 [.ref 28, .int a1, .int a2] (mm_wq L q) (mm_cvi r) (mm_wq L q1)) (hc1 : ∀ (a1 : Int32) (q : mm_Q) (r : Int32) (q1 : mm_Q), rc 1 a1 0 q = some (r, q1) → mm_Runs (d + 2) 121 [.ref 28, .int a1] (mm_wq L q) (mm_cvi r) (mm_wq L q1)) (hc2 : ∀ (a1 : Int32) (q : mm_Q) (r : Int32) (q1 : mm_Q), rc 2 a1 0 q = some (r, q1) → mm_Runs (d + 2) 122 [.ref 28, .int a1] (mm_wq L q) (mm_cvi r) (mm_wq L q1)) (hc3 : ∀ (a1 : Int32) (a2 : Int32) (q : mm_Q) (r : Int32) (q1 : mm_Q), rc 3 a1 a2 q = some (r, q1) → mm_Runs (d + 2) 123 [.ref 28, .int a1, .int a2] (mm_wq L q) (mm_cvi r) (mm_wq L q1)) (s1 : Int32) (q : mm_Q) : mm_ok mm_cvi (mm_Runs (d + 2)) 9 false cX9_isSigned (some .boolean) L 23 [none, none, none] [.int s1, .ref 28] q (x9_isSigned_j23 rc s1 q) := by
  unfold x9_isSigned_j23
  refine mm_ok_call (cz := mm_cvu) (j := .invokevirtual 2033) (y := 127) (as := [.ref 28, .int s1]) (t := []) (by decide +kernel) rfl (fun _ _ h => mm_upd (k := 1) (by decide) (x9_draw_ok h)) (fun u5 q6 => ?_)
  refine mm_ok_bl (l := [(.iconst (1), 1)]) (pc' := 27) (lo' := [none, none, none]) (st' := [.int (1 : Int32)]) (q' := q6) (P := (True) ∧ (True)) (by decide +kernel) rfl rfl (And.intro trivial trivial) ?_
  exact mm_ok_zret (by decide +kernel) (by decide)
def x9_isSigned (rc : Nat → Int32 → Int32 → mm_Q → Option (Int32 × mm_Q)) (a1 : Int32) (a2 : Int32) (q : mm_Q) : Option (Int32 × mm_Q) := (mm_cl (rc 1 a2 0 q) (fun r1 q2 => (if r1 = 0 then (some ((0 : Int32), q2)) else (if a1 = (45 : Int32) then (x9_isSigned_j23 rc (-1 : Int32) q2) else (x9_isSigned_j23 rc (-a1) q2)))))
set_option maxRecDepth 20000 in
theorem x9_isSigned_ok {L d : Nat} (rc : Nat → Int32 → Int32 → mm_Q → Option (Int32 × mm_Q)) (hc0 : ∀ (a1 : Int32) (a2 : Int32) (q : mm_Q) (r : Int32) (q1 : mm_Q), rc 0 a1 a2 q = some (r, q1) → mm_Runs (d + 2) 119 [.ref 28, .int a1, .int a2] (mm_wq L q) (mm_cvi r) (mm_wq L q1)) (hc1 : ∀ (a1 : Int32) (q : mm_Q) (r : Int32) (q1 : mm_Q), rc 1 a1 0 q = some (r, q1) → mm_Runs (d + 2) 121 [.ref 28, .int a1] (mm_wq L q) (mm_cvi r) (mm_wq L q1)) (hc2 : ∀ (a1 : Int32) (q : mm_Q) (r : Int32) (q1 : mm_Q), rc 2 a1 0 q = some (r, q1) → mm_Runs (d + 2) 122 [.ref 28, .int a1] (mm_wq L q) (mm_cvi r) (mm_wq L q1)) (hc3 : ∀ (a1 : Int32) (a2 : Int32) (q : mm_Q) (r : Int32) (q1 : mm_Q), rc 3 a1 a2 q = some (r, q1) → mm_Runs (d + 2) 123 [.ref 28, .int a1, .int a2] (mm_wq L q) (mm_cvi r) (mm_wq L q1)) {a1 : Int32} {a2 : Int32} {q : mm_Q} {r : Int32} {q1 : mm_Q} (h : x9_isSigned rc a1 a2 q = some (r, q1)) : mm_Runs (d + 2 + 1) 123 [.ref 28, .int a1, .int a2] (mm_wq L q) (mm_cvi r) (mm_wq L q1) := by
  refine mm_runs_of (d := d + 2) (L := L) rfl (by decide +kernel) rfl rfl (?_ : mm_ok mm_cvi (mm_Runs (d + 2)) 9 false cX9_isSigned (some .boolean) L 0 [some (.ref 28), some (.int a1), some (.int a2)] [] q (x9_isSigned rc a1 a2 q)) h
  unfold x9_isSigned
  refine mm_ok_bl (l := [(.aload 0, 1), (.iload 2, 1)]) (pc' := 2) (lo' := [some (.ref 28), some (.int a1), some (.int a2)]) (st' := [.int a2, .ref 28]) (q' := q) (P := (True) ∧ ((True) ∧ (True))) (by decide +kernel) rfl rfl (And.intro trivial (And.intro trivial trivial)) ?_
  refine mm_ok_call (cz := mm_cvi) (j := .invokevirtual 1937) (y := 121) (as := [.ref 28, .int a2]) (t := []) (by decide +kernel) rfl (fun _ _ h => hc1 _ _ _ _ h) (fun r1 q2 => ?_)
  refine mm_ok_ifCond_ne (pt := 10) (d := 5) (by decide +kernel) (by decide) (fun k3 => ?_) (fun k3 => ?_)
  · refine mm_ok_bl (l := [(.iconst (0), 1)]) (pc' := 9) (lo' := [some (.ref 28), some (.int a1), some (.int a2)]) (st' := [.int (0 : Int32)]) (q' := q2) (P := (True) ∧ (True)) (by decide +kernel) rfl rfl (And.intro trivial trivial) ?_
    exact mm_ok_zret (by decide +kernel) (by decide)
  · refine mm_ok_bl (l := [(.aload 0, 1), (.iload 1, 1), (.iconst (45), 2)]) (pc' := 14) (lo' := [some (.ref 28), some (.int a1), some (.int a2)]) (st' := [.int (45 : Int32), .int a1, .ref 28]) (q' := q2) (P := (True) ∧ ((True) ∧ ((True) ∧ (True)))) (by decide +kernel) rfl rfl (And.intro trivial (And.intro trivial (And.intro trivial trivial))) ?_
    refine mm_ok_if_icmp_ne (pt := 21) (d := 7) (by decide +kernel) (by decide) (fun k4 => ?_) (fun k4 => ?_)
    · refine mm_ok_bl (l := [(.iconst (-1), 1)]) (pc' := 18) (lo' := [some (.ref 28), some (.int a1), some (.int a2)]) (st' := [.int (-1 : Int32), .ref 28]) (q' := q2) (P := (True) ∧ (True)) (by decide +kernel) rfl rfl (And.intro trivial trivial) ?_
      refine mm_ok_goto (pt := 23) (d := 5) (by decide +kernel) (by decide) ?_
      exact mm_ok_sub (lo := [none, none, none]) trivial (x9_isSigned_j23_ok rc hc0 hc1 hc2 hc3 (-1 : Int32) q2)
    · refine mm_ok_bl (l := [(.iload 1, 1), (.ineg, 1)]) (pc' := 23) (lo' := [some (.ref 28), some (.int a1), some (.int a2)]) (st' := [.int (-a1), .ref 28]) (q' := q2) (P := (True) ∧ ((True) ∧ (True))) (by decide +kernel) rfl rfl (And.intro trivial (And.intro trivial trivial)) ?_
      exact mm_ok_sub (lo := [none, none, none]) trivial (x9_isSigned_j23_ok rc hc0 hc1 hc2 hc3 (-a1) q2)
def g_x9_isChain : Nat → Nat → Int32 → Int32 → mm_Q → Option (Int32 × mm_Q)
  | 0, _, _, _, _ => none
  | d + 1, t, a1, a2, q => match t with
    | 0 => x9_isChain (g_x9_isChain d) a1 a2 q
    | 1 => x9_isOperand (g_x9_isChain d) a1 q
    | 2 => x9_isClosed (g_x9_isChain d) a1 q
    | _ => x9_isSigned (g_x9_isChain d) a1 a2 q
set_option maxRecDepth 20000 in
theorem g_x9_isChain_ok {L : Nat} : ∀ d : Nat, (∀ (a1 : Int32) (a2 : Int32) (q : mm_Q) (r : Int32) (q1 : mm_Q), g_x9_isChain d 0 a1 a2 q = some (r, q1) → mm_Runs (d + 2) 119 [.ref 28, .int a1, .int a2] (mm_wq L q) (mm_cvi r) (mm_wq L q1)) ∧ (∀ (a1 : Int32) (q : mm_Q) (r : Int32) (q1 : mm_Q), g_x9_isChain d 1 a1 0 q = some (r, q1) → mm_Runs (d + 2) 121 [.ref 28, .int a1] (mm_wq L q) (mm_cvi r) (mm_wq L q1)) ∧ (∀ (a1 : Int32) (q : mm_Q) (r : Int32) (q1 : mm_Q), g_x9_isChain d 2 a1 0 q = some (r, q1) → mm_Runs (d + 2) 122 [.ref 28, .int a1] (mm_wq L q) (mm_cvi r) (mm_wq L q1)) ∧ (∀ (a1 : Int32) (a2 : Int32) (q : mm_Q) (r : Int32) (q1 : mm_Q), g_x9_isChain d 3 a1 a2 q = some (r, q1) → mm_Runs (d + 2) 123 [.ref 28, .int a1, .int a2] (mm_wq L q) (mm_cvi r) (mm_wq L q1))
  | 0 => ⟨(fun _ _ _ _ _ h => by cases h), (fun _ _ _ _ h => by cases h), (fun _ _ _ _ h => by cases h), (fun _ _ _ _ _ h => by cases h)⟩
  | d + 1 => ⟨(fun _ _ _ _ _ h => x9_isChain_ok (d := d) (g_x9_isChain d) ((g_x9_isChain_ok d).1) ((g_x9_isChain_ok d).2.1) ((g_x9_isChain_ok d).2.2.1) ((g_x9_isChain_ok d).2.2.2) h), (fun _ _ _ _ h => x9_isOperand_ok (d := d) (g_x9_isChain d) ((g_x9_isChain_ok d).1) ((g_x9_isChain_ok d).2.1) ((g_x9_isChain_ok d).2.2.1) ((g_x9_isChain_ok d).2.2.2) h), (fun _ _ _ _ h => x9_isClosed_ok (d := d) (g_x9_isChain d) ((g_x9_isChain_ok d).1) ((g_x9_isChain_ok d).2.1) ((g_x9_isChain_ok d).2.2.1) ((g_x9_isChain_ok d).2.2.2) h), (fun _ _ _ _ _ h => x9_isSigned_ok (d := d) (g_x9_isChain d) ((g_x9_isChain_ok d).1) ((g_x9_isChain_ok d).2.1) ((g_x9_isChain_ok d).2.2.1) ((g_x9_isChain_ok d).2.2.2) h)⟩
def x9_isLine_j55 (a1 : Int32) (q : mm_Q) : Option (Int32 × mm_Q) := (mm_cl (x9_draw (-2 : Int32) q) (fun u13 q14 => (if a1 < 0 then (some ((1 : Int32), q14)) else (if (200 : Int32) ≤ a1 then (some ((1 : Int32), q14)) else (mm_ck (mm_inb a1 200) (mm_lt (mm_si q14 30 a1.toNatClampNeg ((20000 : Int32) + (q14.1 28 4))) (fun q18 => (some ((1 : Int32), q18)))))))))
set_option maxRecDepth 20000 in
theorem x9_isLine_j55_ok {L : Nat} (a1 : Int32) (q : mm_Q) : mm_ok mm_cvi (mm_Runs 102) 9 false cX9_isLine (some .boolean) L 55 [some (.ref 28), some (.int a1)] [] q (x9_isLine_j55 a1 q) := by
  unfold x9_isLine_j55
  refine mm_ok_bl (l := [(.aload 0, 1), (.iconst (-2), 2)]) (pc' := 58) (lo' := [some (.ref 28), some (.int a1)]) (st' := [.int (-2 : Int32), .ref 28]) (q' := q) (P := (True) ∧ ((True) ∧ (True))) (by decide +kernel) rfl rfl (And.intro trivial (And.intro trivial trivial)) ?_
  refine mm_ok_call (cz := mm_cvu) (j := .invokevirtual 2033) (y := 127) (as := [.ref 28, .int (-2 : Int32)]) (t := []) (by decide +kernel) rfl (fun _ _ h => mm_up (k := 1) (by decide) (x9_draw_ok h)) (fun u13 q14 => ?_)
  refine mm_ok_bl (l := [(.iload 1, 1)]) (pc' := 62) (lo' := [some (.ref 28), some (.int a1)]) (st' := [.int a1]) (q' := q14) (P := (True) ∧ (True)) (by decide +kernel) rfl rfl (And.intro trivial trivial) ?_
  refine mm_ok_ifCond_lt (pt := 88) (d := 26) (by decide +kernel) (by decide) (fun k15 => ?_) (fun k15 => ?_)
  · refine mm_ok_bl (l := [(.iconst (1), 1)]) (pc' := 89) (lo' := [some (.ref 28), some (.int a1)]) (st' := [.int (1 : Int32)]) (q' := q14) (P := (True) ∧ (True)) (by decide +kernel) rfl rfl (And.intro trivial trivial) ?_
    exact mm_ok_zret (by decide +kernel) (by decide)
  · refine mm_ok_bl (l := [(.iload 1, 1), (.aload 0, 1), (.getfield 577, 3), (.arraylength, 1)]) (pc' := 71) (lo' := [some (.ref 28), some (.int a1)]) (st' := [.int (200 : Int32), .int a1]) (q' := q14) (P := (True) ∧ ((True) ∧ ((True) ∧ ((True) ∧ (True))))) (by decide +kernel) rfl rfl (And.intro trivial (And.intro trivial (And.intro trivial (And.intro trivial trivial)))) ?_
    refine mm_ok_if_icmp_ge (pt := 88) (d := 17) (by decide +kernel) (by decide) (fun k16 => ?_) (fun k16 => ?_)
    · refine mm_ok_bl (l := [(.iconst (1), 1)]) (pc' := 89) (lo' := [some (.ref 28), some (.int a1)]) (st' := [.int (1 : Int32)]) (q' := q14) (P := (True) ∧ (True)) (by decide +kernel) rfl rfl (And.intro trivial trivial) ?_
      exact mm_ok_zret (by decide +kernel) (by decide)
    · refine mm_ok_bl (l := [(.aload 0, 1), (.getfield 577, 3), (.iload 1, 1), (.iconst (20000), 3), (.aload 0, 1), (.getfield 580, 3), (.iadd, 1)]) (pc' := 87) (lo' := [some (.ref 28), some (.int a1)]) (st' := [.int ((20000 : Int32) + (q14.1 28 4)), .int a1, .ref 30]) (q' := q14) (P := (True) ∧ ((True) ∧ ((True) ∧ ((True) ∧ ((True) ∧ ((True) ∧ ((True) ∧ (True)))))))) (by decide +kernel) rfl rfl (And.intro trivial (And.intro trivial (And.intro trivial (And.intro trivial (And.intro trivial (And.intro trivial (And.intro trivial trivial))))))) ?_
      refine mm_ok_ck (fun c17 => ?_)
      refine mm_ok_bl (l := [(.iastore, 1)]) (pc' := 88) (lo' := [some (.ref 28), some (.int a1)]) (st' := []) (q' := (mm_si q14 30 a1.toNatClampNeg ((20000 : Int32) + (q14.1 28 4)))) (P := (mm_ix a1 200) ∧ (True)) (by decide +kernel) rfl rfl (And.intro (mm_inb_ix c17) trivial) ?_
      refine mm_ok_lt (fun q18 => ?_)
      refine mm_ok_bl (l := [(.iconst (1), 1)]) (pc' := 89) (lo' := [some (.ref 28), some (.int a1)]) (st' := [.int (1 : Int32)]) (q' := q18) (P := (True) ∧ (True)) (by decide +kernel) rfl rfl (And.intro trivial trivial) ?_
      exact mm_ok_zret (by decide +kernel) (by decide)
def x9_isLine  (q : mm_Q) : Option (Int32 × mm_Q) := (mm_cl (g_x9_isChain 100 0 (0 : Int32) (0 : Int32) q) (fun r1 q2 => (if r1 = 0 then (some ((0 : Int32), q2)) else (mm_cl (x9_letter q2) (fun r4 q5 => (if r4 = (63 : Int32) then (mm_cl (x9_draw (20000 : Int32) q5) (fun u7 q8 => (mm_lt (mm_si q8 28 3 ((q8.1 28 3) + (1 : Int32))) (fun q9 => (mm_cl (g_x9_isChain 100 0 (0 : Int32) (0 : Int32) q9) (fun r10 q11 => (if r10 = 0 then (some ((0 : Int32), q11)) else (x9_isLine_j55 (q5.1 28 4) q11)))))))) else (x9_isLine_j55 (-1 : Int32) q5)))))))
set_option maxRecDepth 20000 in
theorem x9_isLine_ok {L : Nat} {q : mm_Q} {r : Int32} {q1 : mm_Q} (h : x9_isLine  q = some (r, q1)) : mm_Runs 103 118 [.ref 28] (mm_wq L q) (mm_cvi r) (mm_wq L q1) := by
  refine mm_runs_of (d := 102) (L := L) rfl (by decide +kernel) rfl rfl (?_ : mm_ok mm_cvi (mm_Runs 102) 9 false cX9_isLine (some .boolean) L 0 [some (.ref 28), none] [] q (x9_isLine  q)) h
  unfold x9_isLine
  refine mm_ok_bl (l := [(.aload 0, 1), (.iconst (0), 1), (.iconst (0), 1)]) (pc' := 3) (lo' := [some (.ref 28), none]) (st' := [.int (0 : Int32), .int (0 : Int32), .ref 28]) (q' := q) (P := (True) ∧ ((True) ∧ ((True) ∧ (True)))) (by decide +kernel) rfl rfl (And.intro trivial (And.intro trivial (And.intro trivial trivial))) ?_
  refine mm_ok_call (cz := mm_cvi) (j := .invokevirtual 1906) (y := 119) (as := [.ref 28, .int (0 : Int32), .int (0 : Int32)]) (t := []) (by decide +kernel) rfl (fun _ _ h => mm_up (k := 102) (by decide) ((g_x9_isChain_ok 100).1 _ _ _ _ _ h)) (fun r1 q2 => ?_)
  refine mm_ok_ifCond_ne (pt := 11) (d := 5) (by decide +kernel) (by decide) (fun k3 => ?_) (fun k3 => ?_)
  · refine mm_ok_bl (l := [(.iconst (0), 1)]) (pc' := 10) (lo' := [some (.ref 28), none]) (st' := [.int (0 : Int32)]) (q' := q2) (P := (True) ∧ (True)) (by decide +kernel) rfl rfl (And.intro trivial trivial) ?_
    exact mm_ok_zret (by decide +kernel) (by decide)
  · refine mm_ok_bl (l := [(.iconst (-1), 1), (.istore 1, 1), (.aload 0, 1)]) (pc' := 14) (lo' := [some (.ref 28), some (.int (-1 : Int32))]) (st' := [.ref 28]) (q' := q2) (P := (True) ∧ ((True) ∧ ((True) ∧ (True)))) (by decide +kernel) rfl rfl (And.intro trivial (And.intro trivial (And.intro trivial trivial))) ?_
    refine mm_ok_call (cz := mm_cvi) (j := .invokevirtual 2016) (y := 126) (as := [.ref 28]) (t := []) (by decide +kernel) rfl (fun _ _ h => mm_up (k := 1) (by decide) (x9_letter_ok h)) (fun r4 q5 => ?_)
    refine mm_ok_bl (l := [(.iconst (63), 2)]) (pc' := 19) (lo' := [some (.ref 28), some (.int (-1 : Int32))]) (st' := [.int (63 : Int32), .int r4]) (q' := q5) (P := (True) ∧ (True)) (by decide +kernel) rfl rfl (And.intro trivial trivial) ?_
    refine mm_ok_if_icmp_ne (pt := 55) (d := 36) (by decide +kernel) (by decide) (fun k6 => ?_) (fun k6 => ?_)
    · refine mm_ok_bl (l := [(.aload 0, 1), (.getfield 580, 3), (.istore 1, 1), (.aload 0, 1), (.iconst (20000), 3)]) (pc' := 31) (lo' := [some (.ref 28), some (.int (q5.1 28 4))]) (st' := [.int (20000 : Int32), .ref 28]) (q' := q5) (P := (True) ∧ ((True) ∧ ((True) ∧ ((True) ∧ ((True) ∧ (True)))))) (by decide +kernel) rfl rfl (And.intro trivial (And.intro trivial (And.intro trivial (And.intro trivial (And.intro trivial trivial))))) ?_
      refine mm_ok_call (cz := mm_cvu) (j := .invokevirtual 2033) (y := 127) (as := [.ref 28, .int (20000 : Int32)]) (t := []) (by decide +kernel) rfl (fun _ _ h => mm_up (k := 1) (by decide) (x9_draw_ok h)) (fun u7 q8 => ?_)
      refine mm_ok_bl (l := [(.aload 0, 1), (.dup, 1), (.getfield 579, 3), (.iconst (1), 1), (.iadd, 1), (.putfield 579, 3)]) (pc' := 44) (lo' := [some (.ref 28), some (.int (q5.1 28 4))]) (st' := []) (q' := (mm_si q8 28 3 ((q8.1 28 3) + (1 : Int32)))) (P := (True) ∧ ((True) ∧ ((True) ∧ ((True) ∧ ((True) ∧ ((True) ∧ (True))))))) (by decide +kernel) rfl rfl (And.intro trivial (And.intro trivial (And.intro trivial (And.intro trivial (And.intro trivial (And.intro trivial trivial)))))) ?_
      refine mm_ok_lt (fun q9 => ?_)
      refine mm_ok_bl (l := [(.aload 0, 1), (.iconst (0), 1), (.iconst (0), 1)]) (pc' := 47) (lo' := [some (.ref 28), some (.int (q5.1 28 4))]) (st' := [.int (0 : Int32), .int (0 : Int32), .ref 28]) (q' := q9) (P := (True) ∧ ((True) ∧ ((True) ∧ (True)))) (by decide +kernel) rfl rfl (And.intro trivial (And.intro trivial (And.intro trivial trivial))) ?_
      refine mm_ok_call (cz := mm_cvi) (j := .invokevirtual 1906) (y := 119) (as := [.ref 28, .int (0 : Int32), .int (0 : Int32)]) (t := []) (by decide +kernel) rfl (fun _ _ h => mm_up (k := 102) (by decide) ((g_x9_isChain_ok 100).1 _ _ _ _ _ h)) (fun r10 q11 => ?_)
      refine mm_ok_ifCond_ne (pt := 55) (d := 5) (by decide +kernel) (by decide) (fun k12 => ?_) (fun k12 => ?_)
      · refine mm_ok_bl (l := [(.iconst (0), 1)]) (pc' := 54) (lo' := [some (.ref 28), some (.int (q5.1 28 4))]) (st' := [.int (0 : Int32)]) (q' := q11) (P := (True) ∧ (True)) (by decide +kernel) rfl rfl (And.intro trivial trivial) ?_
        exact mm_ok_zret (by decide +kernel) (by decide)
      · exact mm_ok_sub (lo := [some (.ref 28), some (.int (q5.1 28 4))]) (And.intro rfl (And.intro rfl trivial)) (x9_isLine_j55_ok (q5.1 28 4) q11)
    · exact mm_ok_sub (lo := [some (.ref 28), some (.int (-1 : Int32))]) (And.intro rfl (And.intro rfl trivial)) (x9_isLine_j55_ok (-1 : Int32) q5)
def x9_isText_h12 : Nat → Int32 → mm_Q → Option (Int32 × mm_Q)
  | 0, _, _ => none
  | n + 1, a1, q => (if (120 : Int32) < a1 then (some ((0 : Int32), q)) else (mm_cl (x9_isLine q) (fun r4 q5 => (if r4 = 0 then (some ((0 : Int32), q5)) else (if (q5.1 28 3) < (q5.1 28 2) then (mm_cl (x9_letter q5) (fun r8 q9 => (if r8 = (59 : Int32) then (mm_lt (mm_si q9 28 3 ((q9.1 28 3) + (1 : Int32))) (fun q11 => (x9_isText_h12 n (a1 + (1 : Int32)) q11))) else (some ((0 : Int32), q9))))) else (some ((1 : Int32), q5)))))))
set_option maxRecDepth 20000 in
theorem x9_isText_h12_ok {L : Nat} : ∀ (n : Nat) (a1 : Int32) (q : mm_Q), mm_ok mm_cvi (mm_Runs 103) 9 false cX9_isText (some .boolean) L 12 [some (.ref 28), some (.int a1)] [] q (x9_isText_h12 n a1 q)
  | 0, _, _ => by
    exact mm_ok_none
  | n + 1, a1, q => by
    unfold x9_isText_h12
    refine mm_ok_bl (l := [(.iload 1, 1), (.iconst (120), 2)]) (pc' := 15) (lo' := [some (.ref 28), some (.int a1)]) (st' := [.int (120 : Int32), .int a1]) (q' := q) (P := (True) ∧ ((True) ∧ (True))) (by decide +kernel) rfl rfl (And.intro trivial (And.intro trivial trivial)) ?_
    refine mm_ok_if_icmp_gt (pt := 67) (d := 52) (by decide +kernel) (by decide) (fun k3 => ?_) (fun k3 => ?_)
    · refine mm_ok_bl (l := [(.iconst (0), 1)]) (pc' := 68) (lo' := [some (.ref 28), some (.int a1)]) (st' := [.int (0 : Int32)]) (q' := q) (P := (True) ∧ (True)) (by decide +kernel) rfl rfl (And.intro trivial trivial) ?_
      exact mm_ok_zret (by decide +kernel) (by decide)
    · refine mm_ok_bl (l := [(.aload 0, 1)]) (pc' := 19) (lo' := [some (.ref 28), some (.int a1)]) (st' := [.ref 28]) (q' := q) (P := (True) ∧ (True)) (by decide +kernel) rfl rfl (And.intro trivial trivial) ?_
      refine mm_ok_call (cz := mm_cvi) (j := .invokevirtual 1888) (y := 118) (as := [.ref 28]) (t := []) (by decide +kernel) rfl (fun _ _ h => mm_up (k := 103) (by decide) (x9_isLine_ok h)) (fun r4 q5 => ?_)
      refine mm_ok_ifCond_ne (pt := 27) (d := 5) (by decide +kernel) (by decide) (fun k6 => ?_) (fun k6 => ?_)
      · refine mm_ok_bl (l := [(.iconst (0), 1)]) (pc' := 26) (lo' := [some (.ref 28), some (.int a1)]) (st' := [.int (0 : Int32)]) (q' := q5) (P := (True) ∧ (True)) (by decide +kernel) rfl rfl (And.intro trivial trivial) ?_
        exact mm_ok_zret (by decide +kernel) (by decide)
      · refine mm_ok_bl (l := [(.aload 0, 1), (.getfield 579, 3), (.aload 0, 1), (.getfield 578, 3)]) (pc' := 35) (lo' := [some (.ref 28), some (.int a1)]) (st' := [.int (q5.1 28 2), .int (q5.1 28 3)]) (q' := q5) (P := (True) ∧ ((True) ∧ ((True) ∧ ((True) ∧ (True))))) (by decide +kernel) rfl rfl (And.intro trivial (And.intro trivial (And.intro trivial (And.intro trivial trivial)))) ?_
        refine mm_ok_if_icmp_lt (pt := 40) (d := 5) (by decide +kernel) (by decide) (fun k7 => ?_) (fun k7 => ?_)
        · refine mm_ok_bl (l := [(.aload 0, 1)]) (pc' := 41) (lo' := [some (.ref 28), some (.int a1)]) (st' := [.ref 28]) (q' := q5) (P := (True) ∧ (True)) (by decide +kernel) rfl rfl (And.intro trivial trivial) ?_
          refine mm_ok_call (cz := mm_cvi) (j := .invokevirtual 2016) (y := 126) (as := [.ref 28]) (t := []) (by decide +kernel) rfl (fun _ _ h => mm_up (k := 1) (by decide) (x9_letter_ok h)) (fun r8 q9 => ?_)
          refine mm_ok_bl (l := [(.iconst (59), 2)]) (pc' := 46) (lo' := [some (.ref 28), some (.int a1)]) (st' := [.int (59 : Int32), .int r8]) (q' := q9) (P := (True) ∧ (True)) (by decide +kernel) rfl rfl (And.intro trivial trivial) ?_
          refine mm_ok_if_icmp_eq (pt := 51) (d := 5) (by decide +kernel) (by decide) (fun k10 => ?_) (fun k10 => ?_)
          · refine mm_ok_bl (l := [(.aload 0, 1), (.dup, 1), (.getfield 579, 3), (.iconst (1), 1), (.iadd, 1), (.putfield 579, 3)]) (pc' := 61) (lo' := [some (.ref 28), some (.int a1)]) (st' := []) (q' := (mm_si q9 28 3 ((q9.1 28 3) + (1 : Int32)))) (P := (True) ∧ ((True) ∧ ((True) ∧ ((True) ∧ ((True) ∧ ((True) ∧ (True))))))) (by decide +kernel) rfl rfl (And.intro trivial (And.intro trivial (And.intro trivial (And.intro trivial (And.intro trivial (And.intro trivial trivial)))))) ?_
            refine mm_ok_lt (fun q11 => ?_)
            refine mm_ok_bl (l := [(.iinc 1 (1), 3)]) (pc' := 64) (lo' := [some (.ref 28), some (.int (a1 + (1 : Int32)))]) (st' := []) (q' := q11) (P := (True) ∧ (True)) (by decide +kernel) rfl rfl (And.intro trivial trivial) ?_
            refine mm_ok_goto (pt := 12) (d := -52) (by decide +kernel) (by decide) ?_
            exact mm_ok_sub (lo := [some (.ref 28), some (.int (a1 + (1 : Int32)))]) (And.intro rfl (And.intro rfl trivial)) (x9_isText_h12_ok n (a1 + (1 : Int32)) q11)
          · refine mm_ok_bl (l := [(.iconst (0), 1)]) (pc' := 50) (lo' := [some (.ref 28), some (.int a1)]) (st' := [.int (0 : Int32)]) (q' := q9) (P := (True) ∧ (True)) (by decide +kernel) rfl rfl (And.intro trivial trivial) ?_
            exact mm_ok_zret (by decide +kernel) (by decide)
        · refine mm_ok_bl (l := [(.iconst (1), 1)]) (pc' := 39) (lo' := [some (.ref 28), some (.int a1)]) (st' := [.int (1 : Int32)]) (q' := q5) (P := (True) ∧ (True)) (by decide +kernel) rfl rfl (And.intro trivial trivial) ?_
          exact mm_ok_zret (by decide +kernel) (by decide)
def x9_isText  (q : mm_Q) : Option (Int32 × mm_Q) := (mm_lt (mm_si q 28 3 (0 : Int32)) (fun q1 => (mm_lt (mm_si q1 28 4 (0 : Int32)) (fun q2 => (x9_isText_h12 mm_fu (0 : Int32) q2)))))
set_option maxRecDepth 20000 in
theorem x9_isText_ok {L : Nat} {q : mm_Q} {r : Int32} {q1 : mm_Q} (h : x9_isText  q = some (r, q1)) : mm_Runs 104 117 [.ref 28] (mm_wq L q) (mm_cvi r) (mm_wq L q1) := by
  refine mm_runs_of (d := 103) (L := L) rfl (by decide +kernel) rfl rfl (?_ : mm_ok mm_cvi (mm_Runs 103) 9 false cX9_isText (some .boolean) L 0 [some (.ref 28), none] [] q (x9_isText  q)) h
  unfold x9_isText
  refine mm_ok_bl (l := [(.aload 0, 1), (.iconst (0), 1), (.putfield 579, 3)]) (pc' := 5) (lo' := [some (.ref 28), none]) (st' := []) (q' := (mm_si q 28 3 (0 : Int32))) (P := (True) ∧ ((True) ∧ ((True) ∧ (True)))) (by decide +kernel) rfl rfl (And.intro trivial (And.intro trivial (And.intro trivial trivial))) ?_
  refine mm_ok_lt (fun q1 => ?_)
  refine mm_ok_bl (l := [(.aload 0, 1), (.iconst (0), 1), (.putfield 580, 3)]) (pc' := 10) (lo' := [some (.ref 28), none]) (st' := []) (q' := (mm_si q1 28 4 (0 : Int32))) (P := (True) ∧ ((True) ∧ ((True) ∧ (True)))) (by decide +kernel) rfl rfl (And.intro trivial (And.intro trivial (And.intro trivial trivial))) ?_
  refine mm_ok_lt (fun q2 => ?_)
  refine mm_ok_bl (l := [(.iconst (0), 1), (.istore 1, 1)]) (pc' := 12) (lo' := [some (.ref 28), some (.int (0 : Int32))]) (st' := []) (q' := q2) (P := (True) ∧ ((True) ∧ (True))) (by decide +kernel) rfl rfl (And.intro trivial (And.intro trivial trivial)) ?_
  exact mm_ok_sub (lo := [some (.ref 28), some (.int (0 : Int32))]) (And.intro rfl (And.intro rfl trivial)) (x9_isText_h12_ok mm_fu (0 : Int32) q2)
def x10_bestAngleForStop_j38 (rr6 : Int32 → Int32 → Int32 → mm_Q → Option (Int32 × mm_Q)) (a1 : Int32) (a2 : Int32) (a3 : Int32) (q : mm_Q) : Option (Int32 × mm_Q) := (rr6 a1 a2 (a3 + (1 : Int32)) q)
set_option maxRecDepth 20000 in
theorem x10_bestAngleForStop_j38_ok {L : Nat} (rr6 : Int32 → Int32 → Int32 → mm_Q → Option (Int32 × mm_Q)) (hrr6 : ∀ (a1 : Int32) (a2 : Int32) (a3 : Int32) (q : mm_Q), mm_ok mm_cvi (mm_Runs 3) 10 false cX10_bestAngleForStop (some .int) L 6 [some (.ref 14), some (.int a1), some (.int a2), some (.int a3), none] [] q (rr6 a1 a2 a3 q)) (a1 : Int32) (a2 : Int32) (a3 : Int32) (q : mm_Q) : mm_ok mm_cvi (mm_Runs 3) 10 false cX10_bestAngleForStop (some .int) L 38 [some (.ref 14), some (.int a1), some (.int a2), some (.int a3), none] [] q (x10_bestAngleForStop_j38 rr6 a1 a2 a3 q) := by
  unfold x10_bestAngleForStop_j38
  refine mm_ok_bl (l := [(.iinc 3 (1), 3)]) (pc' := 41) (lo' := [some (.ref 14), some (.int a1), some (.int a2), some (.int (a3 + (1 : Int32))), none]) (st' := []) (q' := q) (P := (True) ∧ (True)) (by decide +kernel) rfl rfl (And.intro trivial trivial) ?_
  refine mm_ok_goto (pt := 6) (d := -35) (by decide +kernel) (by decide) ?_
  exact mm_ok_sub (lo := [some (.ref 14), some (.int a1), some (.int a2), some (.int (a3 + (1 : Int32))), none]) (And.intro rfl (And.intro rfl (And.intro rfl (And.intro rfl trivial)))) (hrr6 a1 a2 (a3 + (1 : Int32)) q)
def x10_bestAngleForStop_h6 : Nat → Int32 → Int32 → Int32 → mm_Q → Option (Int32 × mm_Q)
  | 0, _, _, _, _ => none
  | n + 1, a1, a2, a3, q => (if (9 : Int32) ≤ a3 then (some (a1, q)) else (mm_cl (x10_landing a3 (0 : Int32) q) (fun r2 q3 => (mm_cl (x4_stopOf r2 q3) (fun r4 q5 => (if r4 ≤ a2 then (x10_bestAngleForStop_j38 (x10_bestAngleForStop_h6 n) a1 a2 a3 q5) else (x10_bestAngleForStop_j38 (x10_bestAngleForStop_h6 n) a3 r4 a3 q5)))))))
set_option maxRecDepth 20000 in
theorem x10_bestAngleForStop_h6_ok {L : Nat} : ∀ (n : Nat) (a1 : Int32) (a2 : Int32) (a3 : Int32) (q : mm_Q), mm_ok mm_cvi (mm_Runs 3) 10 false cX10_bestAngleForStop (some .int) L 6 [some (.ref 14), some (.int a1), some (.int a2), some (.int a3), none] [] q (x10_bestAngleForStop_h6 n a1 a2 a3 q)
  | 0, _, _, _, _ => by
    exact mm_ok_none
  | n + 1, a1, a2, a3, q => by
    unfold x10_bestAngleForStop_h6
    refine mm_ok_bl (l := [(.iload 3, 1), (.iconst (9), 2)]) (pc' := 9) (lo' := [some (.ref 14), some (.int a1), some (.int a2), some (.int a3), none]) (st' := [.int (9 : Int32), .int a3]) (q' := q) (P := (True) ∧ ((True) ∧ (True))) (by decide +kernel) rfl rfl (And.intro trivial (And.intro trivial trivial)) ?_
    refine mm_ok_if_icmp_ge (pt := 44) (d := 35) (by decide +kernel) (by decide) (fun k1 => ?_) (fun k1 => ?_)
    · refine mm_ok_bl (l := [(.iload 1, 1)]) (pc' := 45) (lo' := [some (.ref 14), some (.int a1), some (.int a2), some (.int a3), none]) (st' := [.int a1]) (q' := q) (P := (True) ∧ (True)) (by decide +kernel) rfl rfl (And.intro trivial trivial) ?_
      exact mm_ok_iret (by decide +kernel)
    · refine mm_ok_bl (l := [(.aload 0, 1), (.getfield 640, 3), (.aload 0, 1), (.iload 3, 1), (.iconst (0), 1)]) (pc' := 19) (lo' := [some (.ref 14), some (.int a1), some (.int a2), some (.int a3), none]) (st' := [.int (0 : Int32), .int a3, .ref 14, .ref 8]) (q' := q) (P := (True) ∧ ((True) ∧ ((True) ∧ ((True) ∧ ((True) ∧ (True)))))) (by decide +kernel) rfl rfl (And.intro trivial (And.intro trivial (And.intro trivial (And.intro trivial (And.intro trivial trivial))))) ?_
      refine mm_ok_call (cz := mm_cvi) (j := .invokevirtual 2114) (y := 132) (as := [.ref 14, .int a3, .int (0 : Int32)]) (t := [.ref 8]) (by decide +kernel) rfl (fun _ _ h => mm_up (k := 3) (by decide) (x10_landing_ok h)) (fun r2 q3 => ?_)
      refine mm_ok_call (cz := mm_cvi) (j := .invokevirtual 977) (y := 61) (as := [.ref 8, .int r2]) (t := []) (by decide +kernel) rfl (fun _ _ h => mm_up (k := 2) (by decide) (x4_stopOf_ok h)) (fun r4 q5 => ?_)
      refine mm_ok_bl (l := [(.istore 4, 2), (.iload 4, 2), (.iload 2, 1)]) (pc' := 30) (lo' := [some (.ref 14), some (.int a1), some (.int a2), some (.int a3), some (.int r4)]) (st' := [.int a2, .int r4]) (q' := q5) (P := (True) ∧ ((True) ∧ ((True) ∧ (True)))) (by decide +kernel) rfl rfl (And.intro trivial (And.intro trivial (And.intro trivial trivial))) ?_
      refine mm_ok_if_icmp_le (pt := 38) (d := 8) (by decide +kernel) (by decide) (fun k6 => ?_) (fun k6 => ?_)
      · exact mm_ok_sub (lo := [some (.ref 14), some (.int a1), some (.int a2), some (.int a3), none]) (And.intro rfl (And.intro rfl (And.intro rfl (And.intro rfl trivial)))) (x10_bestAngleForStop_j38_ok (x10_bestAngleForStop_h6 n) (x10_bestAngleForStop_h6_ok n) a1 a2 a3 q5)
      · refine mm_ok_bl (l := [(.iload 4, 2), (.istore 2, 1), (.iload 3, 1), (.istore 1, 1)]) (pc' := 38) (lo' := [some (.ref 14), some (.int a3), some (.int r4), some (.int a3), some (.int r4)]) (st' := []) (q' := q5) (P := (True) ∧ ((True) ∧ ((True) ∧ ((True) ∧ (True))))) (by decide +kernel) rfl rfl (And.intro trivial (And.intro trivial (And.intro trivial (And.intro trivial trivial)))) ?_
        exact mm_ok_sub (lo := [some (.ref 14), some (.int a3), some (.int r4), some (.int a3), none]) (And.intro rfl (And.intro rfl (And.intro rfl (And.intro rfl trivial)))) (x10_bestAngleForStop_j38_ok (x10_bestAngleForStop_h6 n) (x10_bestAngleForStop_h6_ok n) a3 r4 a3 q5)
def x10_bestAngleForStop  (q : mm_Q) : Option (Int32 × mm_Q) := (x10_bestAngleForStop_h6 mm_fu (0 : Int32) (-1 : Int32) (0 : Int32) q)
set_option maxRecDepth 20000 in
theorem x10_bestAngleForStop_ok {L : Nat} {q : mm_Q} {r : Int32} {q1 : mm_Q} (h : x10_bestAngleForStop  q = some (r, q1)) : mm_Runs 4 134 [.ref 14] (mm_wq L q) (mm_cvi r) (mm_wq L q1) := by
  refine mm_runs_of (d := 3) (L := L) rfl (by decide +kernel) rfl rfl (?_ : mm_ok mm_cvi (mm_Runs 3) 10 false cX10_bestAngleForStop (some .int) L 0 [some (.ref 14), none, none, none, none] [] q (x10_bestAngleForStop  q)) h
  unfold x10_bestAngleForStop
  refine mm_ok_bl (l := [(.iconst (0), 1), (.istore 1, 1), (.iconst (-1), 1), (.istore 2, 1), (.iconst (0), 1), (.istore 3, 1)]) (pc' := 6) (lo' := [some (.ref 14), some (.int (0 : Int32)), some (.int (-1 : Int32)), some (.int (0 : Int32)), none]) (st' := []) (q' := q) (P := (True) ∧ ((True) ∧ ((True) ∧ ((True) ∧ ((True) ∧ ((True) ∧ (True))))))) (by decide +kernel) rfl rfl (And.intro trivial (And.intro trivial (And.intro trivial (And.intro trivial (And.intro trivial (And.intro trivial trivial)))))) ?_
  exact mm_ok_sub (lo := [some (.ref 14), some (.int (0 : Int32)), some (.int (-1 : Int32)), some (.int (0 : Int32)), none]) (And.intro rfl (And.intro rfl (And.intro rfl (And.intro rfl trivial)))) (x10_bestAngleForStop_h6_ok mm_fu (0 : Int32) (-1 : Int32) (0 : Int32) q)
def x10_bestAngle_j42 (rr7 : Int32 → Int32 → Int32 → Int32 → mm_Q → Option (Int32 × mm_Q)) (a1 : Int32) (a2 : Int32) (a3 : Int32) (a4 : Int32) (q : mm_Q) : Option (Int32 × mm_Q) := (rr7 a1 a2 a3 (a4 + (1 : Int32)) q)
set_option maxRecDepth 20000 in
theorem x10_bestAngle_j42_ok {L : Nat} (rr7 : Int32 → Int32 → Int32 → Int32 → mm_Q → Option (Int32 × mm_Q)) (hrr7 : ∀ (a1 : Int32) (a2 : Int32) (a3 : Int32) (a4 : Int32) (q : mm_Q), mm_ok mm_cvi (mm_Runs 3) 10 false cX10_bestAngle (some .int) L 7 [some (.ref 14), some (.int a1), some (.int a2), some (.int a3), some (.int a4), none] [] q (rr7 a1 a2 a3 a4 q)) (a1 : Int32) (a2 : Int32) (a3 : Int32) (a4 : Int32) (q : mm_Q) : mm_ok mm_cvi (mm_Runs 3) 10 false cX10_bestAngle (some .int) L 42 [some (.ref 14), some (.int a1), some (.int a2), some (.int a3), some (.int a4), none] [] q (x10_bestAngle_j42 rr7 a1 a2 a3 a4 q) := by
  unfold x10_bestAngle_j42
  refine mm_ok_bl (l := [(.iinc 4 (1), 3)]) (pc' := 45) (lo' := [some (.ref 14), some (.int a1), some (.int a2), some (.int a3), some (.int (a4 + (1 : Int32))), none]) (st' := []) (q' := q) (P := (True) ∧ (True)) (by decide +kernel) rfl rfl (And.intro trivial trivial) ?_
  refine mm_ok_goto (pt := 7) (d := -38) (by decide +kernel) (by decide) ?_
  exact mm_ok_sub (lo := [some (.ref 14), some (.int a1), some (.int a2), some (.int a3), some (.int (a4 + (1 : Int32))), none]) (And.intro rfl (And.intro rfl (And.intro rfl (And.intro rfl (And.intro rfl trivial))))) (hrr7 a1 a2 a3 (a4 + (1 : Int32)) q)
def x10_bestAngle_h7 : Nat → Int32 → Int32 → Int32 → Int32 → mm_Q → Option (Int32 × mm_Q)
  | 0, _, _, _, _, _ => none
  | n + 1, a1, a2, a3, a4, q => (if (9 : Int32) ≤ a4 then (some (a2, q)) else (mm_cl (x10_landing a4 a1 q) (fun r2 q3 => (mm_cl (x4_pointsOf r2 q3) (fun r4 q5 => (if r4 ≤ a3 then (x10_bestAngle_j42 (x10_bestAngle_h7 n) a1 a2 a3 a4 q5) else (x10_bestAngle_j42 (x10_bestAngle_h7 n) a1 a4 r4 a4 q5)))))))
set_option maxRecDepth 20000 in
theorem x10_bestAngle_h7_ok {L : Nat} : ∀ (n : Nat) (a1 : Int32) (a2 : Int32) (a3 : Int32) (a4 : Int32) (q : mm_Q), mm_ok mm_cvi (mm_Runs 3) 10 false cX10_bestAngle (some .int) L 7 [some (.ref 14), some (.int a1), some (.int a2), some (.int a3), some (.int a4), none] [] q (x10_bestAngle_h7 n a1 a2 a3 a4 q)
  | 0, _, _, _, _, _ => by
    exact mm_ok_none
  | n + 1, a1, a2, a3, a4, q => by
    unfold x10_bestAngle_h7
    refine mm_ok_bl (l := [(.iload 4, 2), (.iconst (9), 2)]) (pc' := 11) (lo' := [some (.ref 14), some (.int a1), some (.int a2), some (.int a3), some (.int a4), none]) (st' := [.int (9 : Int32), .int a4]) (q' := q) (P := (True) ∧ ((True) ∧ (True))) (by decide +kernel) rfl rfl (And.intro trivial (And.intro trivial trivial)) ?_
    refine mm_ok_if_icmp_ge (pt := 48) (d := 37) (by decide +kernel) (by decide) (fun k1 => ?_) (fun k1 => ?_)
    · refine mm_ok_bl (l := [(.iload 2, 1)]) (pc' := 49) (lo' := [some (.ref 14), some (.int a1), some (.int a2), some (.int a3), some (.int a4), none]) (st' := [.int a2]) (q' := q) (P := (True) ∧ (True)) (by decide +kernel) rfl rfl (And.intro trivial trivial) ?_
      exact mm_ok_iret (by decide +kernel)
    · refine mm_ok_bl (l := [(.aload 0, 1), (.getfield 640, 3), (.aload 0, 1), (.iload 4, 2), (.iload 1, 1)]) (pc' := 22) (lo' := [some (.ref 14), some (.int a1), some (.int a2), some (.int a3), some (.int a4), none]) (st' := [.int a1, .int a4, .ref 14, .ref 8]) (q' := q) (P := (True) ∧ ((True) ∧ ((True) ∧ ((True) ∧ ((True) ∧ (True)))))) (by decide +kernel) rfl rfl (And.intro trivial (And.intro trivial (And.intro trivial (And.intro trivial (And.intro trivial trivial))))) ?_
      refine mm_ok_call (cz := mm_cvi) (j := .invokevirtual 2114) (y := 132) (as := [.ref 14, .int a4, .int a1]) (t := [.ref 8]) (by decide +kernel) rfl (fun _ _ h => mm_up (k := 3) (by decide) (x10_landing_ok h)) (fun r2 q3 => ?_)
      refine mm_ok_call (cz := mm_cvi) (j := .invokevirtual 993) (y := 62) (as := [.ref 8, .int r2]) (t := []) (by decide +kernel) rfl (fun _ _ h => mm_up (k := 3) (by decide) (x4_pointsOf_ok h)) (fun r4 q5 => ?_)
      refine mm_ok_bl (l := [(.istore 5, 2), (.iload 5, 2), (.iload 3, 1)]) (pc' := 33) (lo' := [some (.ref 14), some (.int a1), some (.int a2), some (.int a3), some (.int a4), some (.int r4)]) (st' := [.int a3, .int r4]) (q' := q5) (P := (True) ∧ ((True) ∧ ((True) ∧ (True)))) (by decide +kernel) rfl rfl (And.intro trivial (And.intro trivial (And.intro trivial trivial))) ?_
      refine mm_ok_if_icmp_le (pt := 42) (d := 9) (by decide +kernel) (by decide) (fun k6 => ?_) (fun k6 => ?_)
      · exact mm_ok_sub (lo := [some (.ref 14), some (.int a1), some (.int a2), some (.int a3), some (.int a4), none]) (And.intro rfl (And.intro rfl (And.intro rfl (And.intro rfl (And.intro rfl trivial))))) (x10_bestAngle_j42_ok (x10_bestAngle_h7 n) (x10_bestAngle_h7_ok n) a1 a2 a3 a4 q5)
      · refine mm_ok_bl (l := [(.iload 5, 2), (.istore 3, 1), (.iload 4, 2), (.istore 2, 1)]) (pc' := 42) (lo' := [some (.ref 14), some (.int a1), some (.int a4), some (.int r4), some (.int a4), some (.int r4)]) (st' := []) (q' := q5) (P := (True) ∧ ((True) ∧ ((True) ∧ ((True) ∧ (True))))) (by decide +kernel) rfl rfl (And.intro trivial (And.intro trivial (And.intro trivial (And.intro trivial trivial)))) ?_
        exact mm_ok_sub (lo := [some (.ref 14), some (.int a1), some (.int a4), some (.int r4), some (.int a4), none]) (And.intro rfl (And.intro rfl (And.intro rfl (And.intro rfl (And.intro rfl trivial))))) (x10_bestAngle_j42_ok (x10_bestAngle_h7 n) (x10_bestAngle_h7_ok n) a1 a4 r4 a4 q5)
def x10_bestAngle (a1 : Int32) (q : mm_Q) : Option (Int32 × mm_Q) := (x10_bestAngle_h7 mm_fu a1 (0 : Int32) (-1 : Int32) (0 : Int32) q)
set_option maxRecDepth 20000 in
theorem x10_bestAngle_ok {L : Nat} {a1 : Int32} {q : mm_Q} {r : Int32} {q1 : mm_Q} (h : x10_bestAngle a1 q = some (r, q1)) : mm_Runs 4 135 [.ref 14, .int a1] (mm_wq L q) (mm_cvi r) (mm_wq L q1) := by
  refine mm_runs_of (d := 3) (L := L) rfl (by decide +kernel) rfl rfl (?_ : mm_ok mm_cvi (mm_Runs 3) 10 false cX10_bestAngle (some .int) L 0 [some (.ref 14), some (.int a1), none, none, none, none] [] q (x10_bestAngle a1 q)) h
  unfold x10_bestAngle
  refine mm_ok_bl (l := [(.iconst (0), 1), (.istore 2, 1), (.iconst (-1), 1), (.istore 3, 1), (.iconst (0), 1), (.istore 4, 2)]) (pc' := 7) (lo' := [some (.ref 14), some (.int a1), some (.int (0 : Int32)), some (.int (-1 : Int32)), some (.int (0 : Int32)), none]) (st' := []) (q' := q) (P := (True) ∧ ((True) ∧ ((True) ∧ ((True) ∧ ((True) ∧ ((True) ∧ (True))))))) (by decide +kernel) rfl rfl (And.intro trivial (And.intro trivial (And.intro trivial (And.intro trivial (And.intro trivial (And.intro trivial trivial)))))) ?_
  exact mm_ok_sub (lo := [some (.ref 14), some (.int a1), some (.int (0 : Int32)), some (.int (-1 : Int32)), some (.int (0 : Int32)), none]) (And.intro rfl (And.intro rfl (And.intro rfl (And.intro rfl (And.intro rfl trivial))))) (x10_bestAngle_h7_ok mm_fu a1 (0 : Int32) (-1 : Int32) (0 : Int32) q)
def x10_bestAngleAndRun  (q : mm_Q) : Option (Int32 × mm_Q) := (mm_cl (x10_bestAngle (0 : Int32) q) (fun r1 q2 => (mm_cl (x10_bestAngle (1 : Int32) q2) (fun r3 q4 => (mm_cl (x10_landing r1 (0 : Int32) q4) (fun r5 q6 => (mm_cl (x4_pointsOf r5 q6) (fun r7 q8 => (mm_cl (x10_landing r3 (1 : Int32) q8) (fun r9 q10 => (mm_cl (x4_pointsOf r9 q10) (fun r11 q12 => (if r11 = r7 then (some (mm_mn ((10 : Int32) * r1) (((10 : Int32) * r3) + (1 : Int32)), q12)) else (if r11 ≤ r7 then (some ((10 : Int32) * r1, q12)) else (some (((10 : Int32) * r3) + (1 : Int32), q12))))))))))))))))
set_option maxRecDepth 20000 in
theorem x10_bestAngleAndRun_ok {L : Nat} {q : mm_Q} {r : Int32} {q1 : mm_Q} (h : x10_bestAngleAndRun  q = some (r, q1)) : mm_Runs 5 137 [.ref 14] (mm_wq L q) (mm_cvi r) (mm_wq L q1) := by
  refine mm_runs_of (d := 4) (L := L) rfl (by decide +kernel) rfl rfl (?_ : mm_ok mm_cvi (mm_Runs 4) 10 false cX10_bestAngleAndRun (some .int) L 0 [some (.ref 14), none, none, none, none] [] q (x10_bestAngleAndRun  q)) h
  unfold x10_bestAngleAndRun
  refine mm_ok_bl (l := [(.aload 0, 1), (.iconst (0), 1)]) (pc' := 2) (lo' := [some (.ref 14), none, none, none, none]) (st' := [.int (0 : Int32), .ref 14]) (q' := q) (P := (True) ∧ ((True) ∧ (True))) (by decide +kernel) rfl rfl (And.intro trivial (And.intro trivial trivial)) ?_
  refine mm_ok_call (cz := mm_cvi) (j := .invokevirtual 2161) (y := 135) (as := [.ref 14, .int (0 : Int32)]) (t := []) (by decide +kernel) rfl (fun _ _ h => mm_up (k := 4) (by decide) (x10_bestAngle_ok h)) (fun r1 q2 => ?_)
  refine mm_ok_bl (l := [(.istore 1, 1), (.aload 0, 1), (.iconst (1), 1)]) (pc' := 8) (lo' := [some (.ref 14), some (.int r1), none, none, none]) (st' := [.int (1 : Int32), .ref 14]) (q' := q2) (P := (True) ∧ ((True) ∧ ((True) ∧ (True)))) (by decide +kernel) rfl rfl (And.intro trivial (And.intro trivial (And.intro trivial trivial))) ?_
  refine mm_ok_call (cz := mm_cvi) (j := .invokevirtual 2161) (y := 135) (as := [.ref 14, .int (1 : Int32)]) (t := []) (by decide +kernel) rfl (fun _ _ h => mm_up (k := 4) (by decide) (x10_bestAngle_ok h)) (fun r3 q4 => ?_)
  refine mm_ok_bl (l := [(.istore 2, 1), (.aload 0, 1), (.getfield 640, 3), (.aload 0, 1), (.iload 1, 1), (.iconst (0), 1)]) (pc' := 19) (lo' := [some (.ref 14), some (.int r1), some (.int r3), none, none]) (st' := [.int (0 : Int32), .int r1, .ref 14, .ref 8]) (q' := q4) (P := (True) ∧ ((True) ∧ ((True) ∧ ((True) ∧ ((True) ∧ ((True) ∧ (True))))))) (by decide +kernel) rfl rfl (And.intro trivial (And.intro trivial (And.intro trivial (And.intro trivial (And.intro trivial (And.intro trivial trivial)))))) ?_
  refine mm_ok_call (cz := mm_cvi) (j := .invokevirtual 2114) (y := 132) (as := [.ref 14, .int r1, .int (0 : Int32)]) (t := [.ref 8]) (by decide +kernel) rfl (fun _ _ h => mm_up (k := 3) (by decide) (x10_landing_ok h)) (fun r5 q6 => ?_)
  refine mm_ok_call (cz := mm_cvi) (j := .invokevirtual 993) (y := 62) (as := [.ref 8, .int r5]) (t := []) (by decide +kernel) rfl (fun _ _ h => mm_up (k := 3) (by decide) (x4_pointsOf_ok h)) (fun r7 q8 => ?_)
  refine mm_ok_bl (l := [(.istore 3, 1), (.aload 0, 1), (.getfield 640, 3), (.aload 0, 1), (.iload 2, 1), (.iconst (1), 1)]) (pc' := 33) (lo' := [some (.ref 14), some (.int r1), some (.int r3), some (.int r7), none]) (st' := [.int (1 : Int32), .int r3, .ref 14, .ref 8]) (q' := q8) (P := (True) ∧ ((True) ∧ ((True) ∧ ((True) ∧ ((True) ∧ ((True) ∧ (True))))))) (by decide +kernel) rfl rfl (And.intro trivial (And.intro trivial (And.intro trivial (And.intro trivial (And.intro trivial (And.intro trivial trivial)))))) ?_
  refine mm_ok_call (cz := mm_cvi) (j := .invokevirtual 2114) (y := 132) (as := [.ref 14, .int r3, .int (1 : Int32)]) (t := [.ref 8]) (by decide +kernel) rfl (fun _ _ h => mm_up (k := 3) (by decide) (x10_landing_ok h)) (fun r9 q10 => ?_)
  refine mm_ok_call (cz := mm_cvi) (j := .invokevirtual 993) (y := 62) (as := [.ref 8, .int r9]) (t := []) (by decide +kernel) rfl (fun _ _ h => mm_up (k := 3) (by decide) (x4_pointsOf_ok h)) (fun r11 q12 => ?_)
  refine mm_ok_bl (l := [(.istore 4, 2), (.iload 4, 2), (.iload 3, 1)]) (pc' := 44) (lo' := [some (.ref 14), some (.int r1), some (.int r3), some (.int r7), some (.int r11)]) (st' := [.int r7, .int r11]) (q' := q12) (P := (True) ∧ ((True) ∧ ((True) ∧ (True)))) (by decide +kernel) rfl rfl (And.intro trivial (And.intro trivial (And.intro trivial trivial))) ?_
  refine mm_ok_if_icmp_ne (pt := 61) (d := 17) (by decide +kernel) (by decide) (fun k13 => ?_) (fun k13 => ?_)
  · refine mm_ok_bl (l := [(.iconst (10), 2), (.iload 1, 1), (.imul, 1), (.iconst (10), 2), (.iload 2, 1), (.imul, 1), (.iconst (1), 1), (.iadd, 1), (.ldc 2, 3)]) (pc' := 60) (lo' := [some (.ref 14), some (.int r1), some (.int r3), some (.int r7), some (.int r11)]) (st' := [.int (mm_mn ((10 : Int32) * r1) (((10 : Int32) * r3) + (1 : Int32)))]) (q' := q12) (P := (True) ∧ ((True) ∧ ((True) ∧ ((True) ∧ ((True) ∧ ((True) ∧ ((True) ∧ ((True) ∧ ((True) ∧ (True)))))))))) (by decide +kernel) rfl rfl (And.intro trivial (And.intro trivial (And.intro trivial (And.intro trivial (And.intro trivial (And.intro trivial (And.intro trivial (And.intro trivial (And.intro trivial trivial))))))))) ?_
    exact mm_ok_iret (by decide +kernel)
  · refine mm_ok_bl (l := [(.iload 4, 2), (.iload 3, 1)]) (pc' := 64) (lo' := [some (.ref 14), some (.int r1), some (.int r3), some (.int r7), some (.int r11)]) (st' := [.int r7, .int r11]) (q' := q12) (P := (True) ∧ ((True) ∧ (True))) (by decide +kernel) rfl rfl (And.intro trivial (And.intro trivial trivial)) ?_
    refine mm_ok_if_icmp_le (pt := 76) (d := 12) (by decide +kernel) (by decide) (fun k14 => ?_) (fun k14 => ?_)
    · refine mm_ok_bl (l := [(.iconst (10), 2), (.iload 1, 1), (.imul, 1)]) (pc' := 80) (lo' := [some (.ref 14), some (.int r1), some (.int r3), some (.int r7), some (.int r11)]) (st' := [.int ((10 : Int32) * r1)]) (q' := q12) (P := (True) ∧ ((True) ∧ ((True) ∧ (True)))) (by decide +kernel) rfl rfl (And.intro trivial (And.intro trivial (And.intro trivial trivial))) ?_
      exact mm_ok_iret (by decide +kernel)
    · refine mm_ok_bl (l := [(.iconst (10), 2), (.iload 2, 1), (.imul, 1), (.iconst (1), 1), (.iadd, 1)]) (pc' := 73) (lo' := [some (.ref 14), some (.int r1), some (.int r3), some (.int r7), some (.int r11)]) (st' := [.int (((10 : Int32) * r3) + (1 : Int32))]) (q' := q12) (P := (True) ∧ ((True) ∧ ((True) ∧ ((True) ∧ ((True) ∧ (True)))))) (by decide +kernel) rfl rfl (And.intro trivial (And.intro trivial (And.intro trivial (And.intro trivial (And.intro trivial trivial))))) ?_
      refine mm_ok_goto (pt := 80) (d := 7) (by decide +kernel) (by decide) ?_
      exact mm_ok_iret (by decide +kernel)
def x11_spitter (a1 : Int32) (a2 : Int32) (q : mm_Q) : Option (Int32 × mm_Q) := (mm_cl (x4_isWithin (0 : Int32) a1.toInt64 q) (fun r1 q2 => (if r1 = 0 then (some ((-1 : Int32), q2)) else (mm_cl (x4_isWithin (1 : Int32) a2.toInt64 q2) (fun r4 q5 => (if r4 = 0 then (some ((-1 : Int32), q5)) else (mm_cl (x4_isFull q5) (fun r7 q8 => (if r7 = 0 then (mm_cl (x4_welcome a1 a2 (1 : Int32) q8) (fun r10 q11 => (some (r10, q11)))) else (some ((-3 : Int32), q8)))))))))))
set_option maxRecDepth 20000 in
theorem x11_spitter_ok {L : Nat} {a1 : Int32} {a2 : Int32} {q : mm_Q} {r : Int32} {q1 : mm_Q} (h : x11_spitter a1 a2 q = some (r, q1)) : mm_Runs 3 139 [.ref 7, .int a1, .int a2] (mm_wq L q) (mm_cvi r) (mm_wq L q1) := by
  refine mm_runs_of (d := 2) (L := L) rfl (by decide +kernel) rfl rfl (?_ : mm_ok mm_cvi (mm_Runs 2) 11 false cX11_spitter (some .int) L 0 [some (.ref 7), some (.int a1), some (.int a2)] [] q (x11_spitter a1 a2 q)) h
  unfold x11_spitter
  refine mm_ok_bl (l := [(.iconst (0), 1), (.iload 1, 1), (.i2l, 1)]) (pc' := 3) (lo' := [some (.ref 7), some (.int a1), some (.int a2)]) (st' := [.long a1.toInt64, .int (0 : Int32)]) (q' := q) (P := (True) ∧ ((True) ∧ ((True) ∧ (True)))) (by decide +kernel) rfl rfl (And.intro trivial (And.intro trivial (And.intro trivial trivial))) ?_
  refine mm_ok_call (cz := mm_cvi) (j := .invokestatic 802) (y := 50) (as := [.int (0 : Int32), .long a1.toInt64]) (t := []) (by decide +kernel) rfl (fun _ _ h => mm_up (k := 1) (by decide) (x4_isWithin_ok h)) (fun r1 q2 => ?_)
  refine mm_ok_ifCond_eq (pt := 18) (d := 12) (by decide +kernel) (by decide) (fun k3 => ?_) (fun k3 => ?_)
  · refine mm_ok_bl (l := [(.iconst (-1), 1)]) (pc' := 19) (lo' := [some (.ref 7), some (.int a1), some (.int a2)]) (st' := [.int (-1 : Int32)]) (q' := q2) (P := (True) ∧ (True)) (by decide +kernel) rfl rfl (And.intro trivial trivial) ?_
    exact mm_ok_iret (by decide +kernel)
  · refine mm_ok_bl (l := [(.iconst (1), 1), (.iload 2, 1), (.i2l, 1)]) (pc' := 12) (lo' := [some (.ref 7), some (.int a1), some (.int a2)]) (st' := [.long a2.toInt64, .int (1 : Int32)]) (q' := q2) (P := (True) ∧ ((True) ∧ ((True) ∧ (True)))) (by decide +kernel) rfl rfl (And.intro trivial (And.intro trivial (And.intro trivial trivial))) ?_
    refine mm_ok_call (cz := mm_cvi) (j := .invokestatic 802) (y := 50) (as := [.int (1 : Int32), .long a2.toInt64]) (t := []) (by decide +kernel) rfl (fun _ _ h => mm_up (k := 1) (by decide) (x4_isWithin_ok h)) (fun r4 q5 => ?_)
    refine mm_ok_ifCond_ne (pt := 20) (d := 5) (by decide +kernel) (by decide) (fun k6 => ?_) (fun k6 => ?_)
    · refine mm_ok_bl (l := [(.iconst (-1), 1)]) (pc' := 19) (lo' := [some (.ref 7), some (.int a1), some (.int a2)]) (st' := [.int (-1 : Int32)]) (q' := q5) (P := (True) ∧ (True)) (by decide +kernel) rfl rfl (And.intro trivial trivial) ?_
      exact mm_ok_iret (by decide +kernel)
    · refine mm_ok_bl (l := [(.aload 0, 1), (.getfield 704, 3)]) (pc' := 24) (lo' := [some (.ref 7), some (.int a1), some (.int a2)]) (st' := [.ref 8]) (q' := q5) (P := (True) ∧ ((True) ∧ (True))) (by decide +kernel) rfl rfl (And.intro trivial (And.intro trivial trivial)) ?_
      refine mm_ok_call (cz := mm_cvi) (j := .invokevirtual 848) (y := 53) (as := [.ref 8]) (t := []) (by decide +kernel) rfl (fun _ _ h => mm_up (k := 1) (by decide) (x4_isFull_ok h)) (fun r7 q8 => ?_)
      refine mm_ok_ifCond_eq (pt := 35) (d := 8) (by decide +kernel) (by decide) (fun k9 => ?_) (fun k9 => ?_)
      · refine mm_ok_bl (l := [(.aload 0, 1), (.getfield 704, 3), (.iload 1, 1), (.iload 2, 1), (.iconst (1), 1)]) (pc' := 42) (lo' := [some (.ref 7), some (.int a1), some (.int a2)]) (st' := [.int (1 : Int32), .int a2, .int a1, .ref 8]) (q' := q8) (P := (True) ∧ ((True) ∧ ((True) ∧ ((True) ∧ ((True) ∧ (True)))))) (by decide +kernel) rfl rfl (And.intro trivial (And.intro trivial (And.intro trivial (And.intro trivial (And.intro trivial trivial))))) ?_
        refine mm_ok_call (cz := mm_cvi) (j := .invokevirtual 867) (y := 54) (as := [.ref 8, .int a1, .int a2, .int (1 : Int32)]) (t := []) (by decide +kernel) rfl (fun _ _ h => mm_up (k := 2) (by decide) (x4_welcome_ok h)) (fun r10 q11 => ?_)
        exact mm_ok_iret (by decide +kernel)
      · refine mm_ok_bl (l := [(.iconst (-3), 2)]) (pc' := 32) (lo' := [some (.ref 7), some (.int a1), some (.int a2)]) (st' := [.int (-3 : Int32)]) (q' := q8) (P := (True) ∧ (True)) (by decide +kernel) rfl rfl (And.intro trivial trivial) ?_
        refine mm_ok_goto (pt := 45) (d := 13) (by decide +kernel) (by decide) ?_
        exact mm_ok_iret (by decide +kernel)
def x11_shelfAt (a1 : Int32) (q : mm_Q) : Option (Option Nat × mm_Q) := some (mm_shf a1, q)
theorem mm_shf_cases (d : Int32) : (mm_shf d = none ∧ ¬ (0 ≤ d ∧ d < 6)) ∨ (d = 0 ∧ mm_shf d = some 16) ∨ (d = 1 ∧ mm_shf d = some 18) ∨ (d = 2 ∧ mm_shf d = some 20) ∨ (d = 3 ∧ mm_shf d = some 22) ∨ (d = 4 ∧ mm_shf d = some 24) ∨ (d = 5 ∧ mm_shf d = some 26) := by
  by_cases h : 0 ≤ d ∧ d < 6
  · right
    have h1 : 0 ≤ d.toInt := by simpa using Int32.le_iff_toInt_le.mp h.1
    have h2 : d.toInt < 6 := by simpa using Int32.lt_iff_toInt_lt.mp h.2
    have e : ∀ k : Int32, d.toInt = k.toInt → d = k := fun k z => Int32.toInt_inj.mp z
    rcases (show d.toInt = 0 ∨ d.toInt = 1 ∨ d.toInt = 2 ∨ d.toInt = 3 ∨ d.toInt = 4 ∨ d.toInt = 5 by omega) with z | z | z | z | z | z
    · obtain rfl := e 0 z; exact Or.inl ⟨rfl, by decide⟩
    · obtain rfl := e 1 z; exact Or.inr (Or.inl ⟨rfl, by decide⟩)
    · obtain rfl := e 2 z; exact Or.inr (Or.inr (Or.inl ⟨rfl, by decide⟩))
    · obtain rfl := e 3 z; exact Or.inr (Or.inr (Or.inr (Or.inl ⟨rfl, by decide⟩)))
    · obtain rfl := e 4 z; exact Or.inr (Or.inr (Or.inr (Or.inr (Or.inl ⟨rfl, by decide⟩))))
    · obtain rfl := e 5 z; exact Or.inr (Or.inr (Or.inr (Or.inr (Or.inr ⟨rfl, by decide⟩))))
  · left
    exact ⟨if_neg h, h⟩
theorem mm_ok_aret {Cl : mm_Cl} {o : Nat} {ini : Bool} {cc : ByteArray} {L : Nat} {pc : Nat} {lo : mm_L} {q : mm_Q} {n : String} {x : Option Nat} (hc : mm_chk o ini cc pc [(.areturn, 1)] = true) : mm_ok mm_cvr Cl o ini cc (some (.object n)) L pc lo [va_rf x] q (some (x, q)) := by
  intro a q1 h
  cases h
  cases x
  · exact mm_go_ret hc rfl
  · exact mm_go_ret hc rfl
theorem x11_shelfAt_eq (a1 : Int32) (q : mm_Q) : x11_shelfAt a1 q = if a1 < 0 then some (none, q) else if (6 : Int32) ≤ a1 then some (none, q) else some (mm_shf a1, q) := by
  unfold x11_shelfAt
  by_cases h1 : a1 < 0
  · rw [if_pos h1]
    unfold mm_shf
    rw [if_neg (fun z => Int32.not_lt.mpr z.1 h1)]
  · rw [if_neg h1]
    by_cases h2 : (6 : Int32) ≤ a1
    · rw [if_pos h2]
      unfold mm_shf
      rw [if_neg (fun z => Int32.not_lt.mpr h2 z.2)]
    · rw [if_neg h2]
set_option maxRecDepth 20000 in
set_option maxRecDepth 20000 in
theorem x11_shelfAt_ok {L : Nat} {a1 : Int32} {q : mm_Q} {r : Option Nat} {q1 : mm_Q} (h : x11_shelfAt a1 q = some (r, q1)) : mm_Runs 1 183 [.ref 7, .int a1] (mm_wq L q) (mm_cvr r) (mm_wq L q1) := by
  refine mm_runs_of (d := 0) (L := L) rfl (by decide +kernel) rfl rfl (?_ : mm_ok mm_cvr (mm_Runs 0) 11 false cX11_shelfAt (some (.object "StonesOver$Shelf")) L 0 [some (.ref 7), some (.int a1)] [] q (x11_shelfAt a1 q)) h
  rw [x11_shelfAt_eq]
  refine mm_ok_bl (l := [(.iload 1, 1)]) (pc' := 1) (lo' := [some (.ref 7), some (.int a1)]) (st' := [.int a1]) (q' := q) (P := True ∧ True) (by decide +kernel) rfl rfl ⟨trivial, trivial⟩ ?_
  refine mm_ok_ifCond_lt (pt := 22) (d := 21) (by decide +kernel) (by decide) (fun k1 => ?_) (fun k1 => ?_)
  · refine mm_ok_bl (l := [(.aconst_null, 1)]) (pc' := 23) (lo' := [some (.ref 7), some (.int a1)]) (st' := [va_rf none]) (q' := q) (P := True ∧ True) (by decide +kernel) rfl rfl ⟨trivial, trivial⟩ ?_
    exact mm_ok_aret (by decide +kernel)
  refine mm_ok_bl (l := [(.iload 1, 1), (.aload 0, 1), (.getfield 714, 3), (.arraylength, 1)]) (pc' := 10) (lo' := [some (.ref 7), some (.int a1)]) (st' := [.int (6 : Int32), .int a1]) (q' := q) (P := True ∧ (True ∧ (True ∧ (True ∧ True)))) (by decide +kernel) rfl rfl ⟨trivial, trivial, trivial, trivial, trivial⟩ ?_
  refine mm_ok_if_icmp_ge (pt := 22) (d := 12) (by decide +kernel) (by decide) (fun k2 => ?_) (fun k2 => ?_)
  · refine mm_ok_bl (l := [(.aconst_null, 1)]) (pc' := 23) (lo' := [some (.ref 7), some (.int a1)]) (st' := [va_rf none]) (q' := q) (P := True ∧ True) (by decide +kernel) rfl rfl ⟨trivial, trivial⟩ ?_
    exact mm_ok_aret (by decide +kernel)
  rcases mm_shf_cases a1 with ⟨-, z⟩ | ⟨rfl, e1⟩ | ⟨rfl, e1⟩ | ⟨rfl, e1⟩ | ⟨rfl, e1⟩ | ⟨rfl, e1⟩ | ⟨rfl, e1⟩
  · exact absurd ⟨Int32.not_lt.mp k1, Int32.not_le.mp k2⟩ z
  · rw [e1]
    refine mm_ok_bl (l := [(.aload 0, 1), (.getfield 714, 3), (.iload 1, 1), (.aaload, 1)]) (pc' := 19) (lo' := [some (.ref 7), some (.int 0)]) (st' := [.ref 16]) (q' := q) (P := True ∧ (True ∧ (True ∧ (mm_ix (0 : Int32) 6 ∧ True)))) (by decide +kernel) rfl rfl ⟨trivial, trivial, trivial, mm_inb_ix (by decide), trivial⟩ ?_
    refine mm_ok_goto (pt := 23) (d := 4) (by decide +kernel) (by decide) ?_
    exact mm_ok_aret (x := some 16) (by decide +kernel)
  · rw [e1]
    refine mm_ok_bl (l := [(.aload 0, 1), (.getfield 714, 3), (.iload 1, 1), (.aaload, 1)]) (pc' := 19) (lo' := [some (.ref 7), some (.int 1)]) (st' := [.ref 18]) (q' := q) (P := True ∧ (True ∧ (True ∧ (mm_ix (1 : Int32) 6 ∧ True)))) (by decide +kernel) rfl rfl ⟨trivial, trivial, trivial, mm_inb_ix (by decide), trivial⟩ ?_
    refine mm_ok_goto (pt := 23) (d := 4) (by decide +kernel) (by decide) ?_
    exact mm_ok_aret (x := some 18) (by decide +kernel)
  · rw [e1]
    refine mm_ok_bl (l := [(.aload 0, 1), (.getfield 714, 3), (.iload 1, 1), (.aaload, 1)]) (pc' := 19) (lo' := [some (.ref 7), some (.int 2)]) (st' := [.ref 20]) (q' := q) (P := True ∧ (True ∧ (True ∧ (mm_ix (2 : Int32) 6 ∧ True)))) (by decide +kernel) rfl rfl ⟨trivial, trivial, trivial, mm_inb_ix (by decide), trivial⟩ ?_
    refine mm_ok_goto (pt := 23) (d := 4) (by decide +kernel) (by decide) ?_
    exact mm_ok_aret (x := some 20) (by decide +kernel)
  · rw [e1]
    refine mm_ok_bl (l := [(.aload 0, 1), (.getfield 714, 3), (.iload 1, 1), (.aaload, 1)]) (pc' := 19) (lo' := [some (.ref 7), some (.int 3)]) (st' := [.ref 22]) (q' := q) (P := True ∧ (True ∧ (True ∧ (mm_ix (3 : Int32) 6 ∧ True)))) (by decide +kernel) rfl rfl ⟨trivial, trivial, trivial, mm_inb_ix (by decide), trivial⟩ ?_
    refine mm_ok_goto (pt := 23) (d := 4) (by decide +kernel) (by decide) ?_
    exact mm_ok_aret (x := some 22) (by decide +kernel)
  · rw [e1]
    refine mm_ok_bl (l := [(.aload 0, 1), (.getfield 714, 3), (.iload 1, 1), (.aaload, 1)]) (pc' := 19) (lo' := [some (.ref 7), some (.int 4)]) (st' := [.ref 24]) (q' := q) (P := True ∧ (True ∧ (True ∧ (mm_ix (4 : Int32) 6 ∧ True)))) (by decide +kernel) rfl rfl ⟨trivial, trivial, trivial, mm_inb_ix (by decide), trivial⟩ ?_
    refine mm_ok_goto (pt := 23) (d := 4) (by decide +kernel) (by decide) ?_
    exact mm_ok_aret (x := some 24) (by decide +kernel)
  · rw [e1]
    refine mm_ok_bl (l := [(.aload 0, 1), (.getfield 714, 3), (.iload 1, 1), (.aaload, 1)]) (pc' := 19) (lo' := [some (.ref 7), some (.int 5)]) (st' := [.ref 26]) (q' := q) (P := True ∧ (True ∧ (True ∧ (mm_ix (5 : Int32) 6 ∧ True)))) (by decide +kernel) rfl rfl ⟨trivial, trivial, trivial, mm_inb_ix (by decide), trivial⟩ ?_
    refine mm_ok_goto (pt := 23) (d := 4) (by decide +kernel) (by decide) ?_
    exact mm_ok_aret (x := some 26) (by decide +kernel)

def x11_welcomeThree (g1 : Nat) (a2 : Int32) (q : mm_Q) : Option (Int32 × mm_Q) := (mm_cl (x8_elementAt g1 a2 q) (fun r1 q2 => (mm_cl (x8_elementAt g1 (a2 + (1 : Int32)) q2) (fun r3 q4 => (mm_cl (x8_elementAt g1 (a2 + (2 : Int32)) q4) (fun r5 q6 => (mm_cl (x4_isFull q6) (fun r7 q8 => (if r7 = 0 then (mm_cl (x4_isWithin (0 : Int32) r1 q8) (fun r10 q11 => (if r10 = 0 then (some ((0 : Int32), q11)) else (mm_cl (x4_isWithin (1 : Int32) r3 q11) (fun r13 q14 => (if r13 = 0 then (some ((0 : Int32), q14)) else (mm_cl (x4_isWithin (2 : Int32) r5 q14) (fun r16 q17 => (if r16 = 0 then (some ((0 : Int32), q17)) else (mm_cl (x4_welcome r1.toInt32 r3.toInt32 r5.toInt32 q17) (fun r19 q20 => (some ((1 : Int32), q20))))))))))))) else (some ((0 : Int32), q8)))))))))))
set_option maxRecDepth 20000 in
theorem x11_welcomeThree_ok {L : Nat} {g1 : Nat} {a2 : Int32} {q : mm_Q} {r : Int32} {q1 : mm_Q} (h : x11_welcomeThree g1 a2 q = some (r, q1)) (hs_g1 : mm_sh g1) : mm_Runs 3 186 [.ref 7, .ref g1, .int a2] (mm_wq L q) (mm_cvi r) (mm_wq L q1) := by
  refine mm_runs_of (d := 2) (L := L) rfl (by decide +kernel) rfl rfl (?_ : mm_ok mm_cvi (mm_Runs 2) 11 false cX11_welcomeThree (some .boolean) L 0 [some (.ref 7), some (.ref g1), some (.int a2), none, none, none, none, none, none] [] q (x11_welcomeThree g1 a2 q)) h
  unfold x11_welcomeThree
  refine mm_ok_bl (l := [(.aload 1, 1), (.iload 2, 1)]) (pc' := 2) (lo' := [some (.ref 7), some (.ref g1), some (.int a2), none, none, none, none, none, none]) (st' := [.int a2, .ref g1]) (q' := q) (P := (True) ∧ ((True) ∧ (True))) (by decide +kernel) (by rcases hs_g1 with rfl | rfl | rfl | rfl | rfl | rfl <;> rfl) rfl (And.intro trivial (And.intro trivial trivial)) ?_
  refine mm_ok_call (cz := mm_cvl) (j := .invokevirtual 1713) (y := 107) (as := [.ref g1, .int a2]) (t := []) (by decide +kernel) (by rcases hs_g1 with rfl | rfl | rfl | rfl | rfl | rfl <;> rfl) (fun _ _ h => mm_up (k := 2) (by decide) (x8_elementAt_ok h hs_g1)) (fun r1 q2 => ?_)
  refine mm_ok_bl (l := [(.lstore 3, 1), (.aload 1, 1), (.iload 2, 1), (.iconst (1), 1), (.iadd, 1)]) (pc' := 10) (lo' := [some (.ref 7), some (.ref g1), some (.int a2), some (.long r1), none, none, none, none, none]) (st' := [.int (a2 + (1 : Int32)), .ref g1]) (q' := q2) (P := (True) ∧ ((True) ∧ ((True) ∧ ((True) ∧ ((True) ∧ (True)))))) (by decide +kernel) (by rcases hs_g1 with rfl | rfl | rfl | rfl | rfl | rfl <;> rfl) rfl (And.intro trivial (And.intro trivial (And.intro trivial (And.intro trivial (And.intro trivial trivial))))) ?_
  refine mm_ok_call (cz := mm_cvl) (j := .invokevirtual 1713) (y := 107) (as := [.ref g1, .int (a2 + (1 : Int32))]) (t := []) (by decide +kernel) (by rcases hs_g1 with rfl | rfl | rfl | rfl | rfl | rfl <;> rfl) (fun _ _ h => mm_up (k := 2) (by decide) (x8_elementAt_ok h hs_g1)) (fun r3 q4 => ?_)
  refine mm_ok_bl (l := [(.lstore 5, 2), (.aload 1, 1), (.iload 2, 1), (.iconst (2), 1), (.iadd, 1)]) (pc' := 19) (lo' := [some (.ref 7), some (.ref g1), some (.int a2), some (.long r1), none, some (.long r3), none, none, none]) (st' := [.int (a2 + (2 : Int32)), .ref g1]) (q' := q4) (P := (True) ∧ ((True) ∧ ((True) ∧ ((True) ∧ ((True) ∧ (True)))))) (by decide +kernel) (by rcases hs_g1 with rfl | rfl | rfl | rfl | rfl | rfl <;> rfl) rfl (And.intro trivial (And.intro trivial (And.intro trivial (And.intro trivial (And.intro trivial trivial))))) ?_
  refine mm_ok_call (cz := mm_cvl) (j := .invokevirtual 1713) (y := 107) (as := [.ref g1, .int (a2 + (2 : Int32))]) (t := []) (by decide +kernel) (by rcases hs_g1 with rfl | rfl | rfl | rfl | rfl | rfl <;> rfl) (fun _ _ h => mm_up (k := 2) (by decide) (x8_elementAt_ok h hs_g1)) (fun r5 q6 => ?_)
  refine mm_ok_bl (l := [(.lstore 7, 2), (.aload 0, 1), (.getfield 704, 3)]) (pc' := 28) (lo' := [some (.ref 7), some (.ref g1), some (.int a2), some (.long r1), none, some (.long r3), none, some (.long r5), none]) (st' := [.ref 8]) (q' := q6) (P := (True) ∧ ((True) ∧ ((True) ∧ (True)))) (by decide +kernel) (by rcases hs_g1 with rfl | rfl | rfl | rfl | rfl | rfl <;> rfl) rfl (And.intro trivial (And.intro trivial (And.intro trivial trivial))) ?_
  refine mm_ok_call (cz := mm_cvi) (j := .invokevirtual 848) (y := 53) (as := [.ref 8]) (t := []) (by decide +kernel) (by rcases hs_g1 with rfl | rfl | rfl | rfl | rfl | rfl <;> rfl) (fun _ _ h => mm_up (k := 1) (by decide) (x4_isFull_ok h)) (fun r7 q8 => ?_)
  refine mm_ok_ifCond_ne (pt := 60) (d := 29) (by decide +kernel) (by decide) (fun k9 => ?_) (fun k9 => ?_)
  · refine mm_ok_bl (l := [(.iconst (0), 1), (.lload 3, 1)]) (pc' := 36) (lo' := [some (.ref 7), some (.ref g1), some (.int a2), some (.long r1), none, some (.long r3), none, some (.long r5), none]) (st' := [.long r1, .int (0 : Int32)]) (q' := q8) (P := (True) ∧ ((True) ∧ (True))) (by decide +kernel) (by rcases hs_g1 with rfl | rfl | rfl | rfl | rfl | rfl <;> rfl) rfl (And.intro trivial (And.intro trivial trivial)) ?_
    refine mm_ok_call (cz := mm_cvi) (j := .invokestatic 802) (y := 50) (as := [.int (0 : Int32), .long r1]) (t := []) (by decide +kernel) (by rcases hs_g1 with rfl | rfl | rfl | rfl | rfl | rfl <;> rfl) (fun _ _ h => mm_up (k := 1) (by decide) (x4_isWithin_ok h)) (fun r10 q11 => ?_)
    refine mm_ok_ifCond_eq (pt := 60) (d := 21) (by decide +kernel) (by decide) (fun k12 => ?_) (fun k12 => ?_)
    · refine mm_ok_bl (l := [(.iconst (0), 1)]) (pc' := 61) (lo' := [some (.ref 7), some (.ref g1), some (.int a2), some (.long r1), none, some (.long r3), none, some (.long r5), none]) (st' := [.int (0 : Int32)]) (q' := q11) (P := (True) ∧ (True)) (by decide +kernel) (by rcases hs_g1 with rfl | rfl | rfl | rfl | rfl | rfl <;> rfl) rfl (And.intro trivial trivial) ?_
      exact mm_ok_zret (by decide +kernel) (by decide)
    · refine mm_ok_bl (l := [(.iconst (1), 1), (.lload 5, 2)]) (pc' := 45) (lo' := [some (.ref 7), some (.ref g1), some (.int a2), some (.long r1), none, some (.long r3), none, some (.long r5), none]) (st' := [.long r3, .int (1 : Int32)]) (q' := q11) (P := (True) ∧ ((True) ∧ (True))) (by decide +kernel) (by rcases hs_g1 with rfl | rfl | rfl | rfl | rfl | rfl <;> rfl) rfl (And.intro trivial (And.intro trivial trivial)) ?_
      refine mm_ok_call (cz := mm_cvi) (j := .invokestatic 802) (y := 50) (as := [.int (1 : Int32), .long r3]) (t := []) (by decide +kernel) (by rcases hs_g1 with rfl | rfl | rfl | rfl | rfl | rfl <;> rfl) (fun _ _ h => mm_up (k := 1) (by decide) (x4_isWithin_ok h)) (fun r13 q14 => ?_)
      refine mm_ok_ifCond_eq (pt := 60) (d := 12) (by decide +kernel) (by decide) (fun k15 => ?_) (fun k15 => ?_)
      · refine mm_ok_bl (l := [(.iconst (0), 1)]) (pc' := 61) (lo' := [some (.ref 7), some (.ref g1), some (.int a2), some (.long r1), none, some (.long r3), none, some (.long r5), none]) (st' := [.int (0 : Int32)]) (q' := q14) (P := (True) ∧ (True)) (by decide +kernel) (by rcases hs_g1 with rfl | rfl | rfl | rfl | rfl | rfl <;> rfl) rfl (And.intro trivial trivial) ?_
        exact mm_ok_zret (by decide +kernel) (by decide)
      · refine mm_ok_bl (l := [(.iconst (2), 1), (.lload 7, 2)]) (pc' := 54) (lo' := [some (.ref 7), some (.ref g1), some (.int a2), some (.long r1), none, some (.long r3), none, some (.long r5), none]) (st' := [.long r5, .int (2 : Int32)]) (q' := q14) (P := (True) ∧ ((True) ∧ (True))) (by decide +kernel) (by rcases hs_g1 with rfl | rfl | rfl | rfl | rfl | rfl <;> rfl) rfl (And.intro trivial (And.intro trivial trivial)) ?_
        refine mm_ok_call (cz := mm_cvi) (j := .invokestatic 802) (y := 50) (as := [.int (2 : Int32), .long r5]) (t := []) (by decide +kernel) (by rcases hs_g1 with rfl | rfl | rfl | rfl | rfl | rfl <;> rfl) (fun _ _ h => mm_up (k := 1) (by decide) (x4_isWithin_ok h)) (fun r16 q17 => ?_)
        refine mm_ok_ifCond_ne (pt := 62) (d := 5) (by decide +kernel) (by decide) (fun k18 => ?_) (fun k18 => ?_)
        · refine mm_ok_bl (l := [(.iconst (0), 1)]) (pc' := 61) (lo' := [some (.ref 7), some (.ref g1), some (.int a2), some (.long r1), none, some (.long r3), none, some (.long r5), none]) (st' := [.int (0 : Int32)]) (q' := q17) (P := (True) ∧ (True)) (by decide +kernel) (by rcases hs_g1 with rfl | rfl | rfl | rfl | rfl | rfl <;> rfl) rfl (And.intro trivial trivial) ?_
          exact mm_ok_zret (by decide +kernel) (by decide)
        · refine mm_ok_bl (l := [(.aload 0, 1), (.getfield 704, 3), (.lload 3, 1), (.l2i, 1), (.lload 5, 2), (.l2i, 1), (.lload 7, 2), (.l2i, 1)]) (pc' := 74) (lo' := [some (.ref 7), some (.ref g1), some (.int a2), some (.long r1), none, some (.long r3), none, some (.long r5), none]) (st' := [.int r5.toInt32, .int r3.toInt32, .int r1.toInt32, .ref 8]) (q' := q17) (P := (True) ∧ ((True) ∧ ((True) ∧ ((True) ∧ ((True) ∧ ((True) ∧ ((True) ∧ ((True) ∧ (True))))))))) (by decide +kernel) (by rcases hs_g1 with rfl | rfl | rfl | rfl | rfl | rfl <;> rfl) rfl (And.intro trivial (And.intro trivial (And.intro trivial (And.intro trivial (And.intro trivial (And.intro trivial (And.intro trivial (And.intro trivial trivial)))))))) ?_
          refine mm_ok_call (cz := mm_cvi) (j := .invokevirtual 867) (y := 54) (as := [.ref 8, .int r1.toInt32, .int r3.toInt32, .int r5.toInt32]) (t := []) (by decide +kernel) (by rcases hs_g1 with rfl | rfl | rfl | rfl | rfl | rfl <;> rfl) (fun _ _ h => mm_up (k := 2) (by decide) (x4_welcome_ok h)) (fun r19 q20 => ?_)
          refine mm_ok_bl (l := [(.pop, 1), (.iconst (1), 1)]) (pc' := 79) (lo' := [some (.ref 7), some (.ref g1), some (.int a2), some (.long r1), none, some (.long r3), none, some (.long r5), none]) (st' := [.int (1 : Int32)]) (q' := q20) (P := (True) ∧ ((True) ∧ (True))) (by decide +kernel) (by rcases hs_g1 with rfl | rfl | rfl | rfl | rfl | rfl <;> rfl) rfl (And.intro trivial (And.intro trivial trivial)) ?_
          exact mm_ok_zret (by decide +kernel) (by decide)
  · refine mm_ok_bl (l := [(.iconst (0), 1)]) (pc' := 61) (lo' := [some (.ref 7), some (.ref g1), some (.int a2), some (.long r1), none, some (.long r3), none, some (.long r5), none]) (st' := [.int (0 : Int32)]) (q' := q8) (P := (True) ∧ (True)) (by decide +kernel) (by rcases hs_g1 with rfl | rfl | rfl | rfl | rfl | rfl <;> rfl) rfl (And.intro trivial trivial) ?_
    exact mm_ok_zret (by decide +kernel) (by decide)
def x11_spitters_h46 : Nat → Int32 → Int32 → Nat → Int32 → mm_Q → Option (Int32 × mm_Q)
  | 0, _, _, _, _, _ => none
  | n + 1, a2, a3, h4, a6, q => (if a3 ≤ a6 then (some (a6, q)) else (mm_cl (x8_hasPlaces h4 (a2 + ((3 : Int32) * a6)) (3 : Int32) q) (fun r12 q13 => (if r12 = 0 then (some (a6, q13)) else (mm_cl (x11_welcomeThree h4 (a2 + ((3 : Int32) * a6)) q13) (fun r15 q16 => (if r15 = 0 then (some (a6, q16)) else (x11_spitters_h46 n a2 a3 h4 (a6 + (1 : Int32)) q16))))))))
set_option maxRecDepth 20000 in
theorem x11_spitters_h46_ok {L : Nat} : ∀ (n : Nat) (a2 : Int32) (a3 : Int32) (h4 : Nat) (a6 : Int32) (q : mm_Q), mm_sh h4 → mm_ok mm_cvi (mm_Runs 3) 11 false cX11_spitters (some .int) L 46 [some (.ref 7), none, some (.int a2), some (.int a3), some (.ref h4), none, some (.int a6)] [] q (x11_spitters_h46 n a2 a3 h4 a6 q)
  | 0, _, _, _, _, _ => by
    intro _; exact mm_ok_none
  | n + 1, a2, a3, h4, a6, q => by
    intro hs_h4
    unfold x11_spitters_h46
    refine mm_ok_bl (l := [(.iload 6, 2), (.iload 3, 1)]) (pc' := 49) (lo' := [some (.ref 7), none, some (.int a2), some (.int a3), some (.ref h4), none, some (.int a6)]) (st' := [.int a3, .int a6]) (q' := q) (P := (True) ∧ ((True) ∧ (True))) (by decide +kernel) (by rcases hs_h4 with rfl | rfl | rfl | rfl | rfl | rfl <;> rfl) rfl (And.intro trivial (And.intro trivial trivial)) ?_
    refine mm_ok_if_icmp_ge (pt := 88) (d := 39) (by decide +kernel) (by decide) (fun k11 => ?_) (fun k11 => ?_)
    · refine mm_ok_bl (l := [(.iload 6, 2)]) (pc' := 90) (lo' := [some (.ref 7), none, some (.int a2), some (.int a3), some (.ref h4), none, some (.int a6)]) (st' := [.int a6]) (q' := q) (P := (True) ∧ (True)) (by decide +kernel) (by rcases hs_h4 with rfl | rfl | rfl | rfl | rfl | rfl <;> rfl) rfl (And.intro trivial trivial) ?_
      exact mm_ok_iret (by decide +kernel)
    · refine mm_ok_bl (l := [(.aload 4, 2), (.iload 2, 1), (.iconst (3), 1), (.iload 6, 2), (.imul, 1), (.iadd, 1), (.iconst (3), 1)]) (pc' := 61) (lo' := [some (.ref 7), none, some (.int a2), some (.int a3), some (.ref h4), none, some (.int a6)]) (st' := [.int (3 : Int32), .int (a2 + ((3 : Int32) * a6)), .ref h4]) (q' := q) (P := (True) ∧ ((True) ∧ ((True) ∧ ((True) ∧ ((True) ∧ ((True) ∧ ((True) ∧ (True)))))))) (by decide +kernel) (by rcases hs_h4 with rfl | rfl | rfl | rfl | rfl | rfl <;> rfl) rfl (And.intro trivial (And.intro trivial (And.intro trivial (And.intro trivial (And.intro trivial (And.intro trivial (And.intro trivial trivial))))))) ?_
      refine mm_ok_call (cz := mm_cvi) (j := .invokevirtual 1682) (y := 105) (as := [.ref h4, .int (a2 + ((3 : Int32) * a6)), .int (3 : Int32)]) (t := []) (by decide +kernel) (by rcases hs_h4 with rfl | rfl | rfl | rfl | rfl | rfl <;> rfl) (fun _ _ h => mm_up (k := 1) (by decide) (x8_hasPlaces_ok h hs_h4)) (fun r12 q13 => ?_)
      refine mm_ok_ifCond_eq (pt := 88) (d := 24) (by decide +kernel) (by decide) (fun k14 => ?_) (fun k14 => ?_)
      · refine mm_ok_bl (l := [(.iload 6, 2)]) (pc' := 90) (lo' := [some (.ref 7), none, some (.int a2), some (.int a3), some (.ref h4), none, some (.int a6)]) (st' := [.int a6]) (q' := q13) (P := (True) ∧ (True)) (by decide +kernel) (by rcases hs_h4 with rfl | rfl | rfl | rfl | rfl | rfl <;> rfl) rfl (And.intro trivial trivial) ?_
        exact mm_ok_iret (by decide +kernel)
      · refine mm_ok_bl (l := [(.aload 0, 1), (.aload 4, 2), (.iload 2, 1), (.iconst (3), 1), (.iload 6, 2), (.imul, 1), (.iadd, 1)]) (pc' := 76) (lo' := [some (.ref 7), none, some (.int a2), some (.int a3), some (.ref h4), none, some (.int a6)]) (st' := [.int (a2 + ((3 : Int32) * a6)), .ref h4, .ref 7]) (q' := q13) (P := (True) ∧ ((True) ∧ ((True) ∧ ((True) ∧ ((True) ∧ ((True) ∧ ((True) ∧ (True)))))))) (by decide +kernel) (by rcases hs_h4 with rfl | rfl | rfl | rfl | rfl | rfl <;> rfl) rfl (And.intro trivial (And.intro trivial (And.intro trivial (And.intro trivial (And.intro trivial (And.intro trivial (And.intro trivial trivial))))))) ?_
        refine mm_ok_call (cz := mm_cvi) (j := .invokevirtual 2978) (y := 186) (as := [.ref 7, .ref h4, .int (a2 + ((3 : Int32) * a6))]) (t := []) (by decide +kernel) (by rcases hs_h4 with rfl | rfl | rfl | rfl | rfl | rfl <;> rfl) (fun _ _ h => mm_up (k := 3) (by decide) (x11_welcomeThree_ok h hs_h4)) (fun r15 q16 => ?_)
        refine mm_ok_ifCond_eq (pt := 88) (d := 9) (by decide +kernel) (by decide) (fun k17 => ?_) (fun k17 => ?_)
        · refine mm_ok_bl (l := [(.iload 6, 2)]) (pc' := 90) (lo' := [some (.ref 7), none, some (.int a2), some (.int a3), some (.ref h4), none, some (.int a6)]) (st' := [.int a6]) (q' := q16) (P := (True) ∧ (True)) (by decide +kernel) (by rcases hs_h4 with rfl | rfl | rfl | rfl | rfl | rfl <;> rfl) rfl (And.intro trivial trivial) ?_
          exact mm_ok_iret (by decide +kernel)
        · refine mm_ok_bl (l := [(.iinc 6 (1), 3)]) (pc' := 85) (lo' := [some (.ref 7), none, some (.int a2), some (.int a3), some (.ref h4), none, some (.int (a6 + (1 : Int32)))]) (st' := []) (q' := q16) (P := (True) ∧ (True)) (by decide +kernel) (by rcases hs_h4 with rfl | rfl | rfl | rfl | rfl | rfl <;> rfl) rfl (And.intro trivial trivial) ?_
          refine mm_ok_goto (pt := 46) (d := -39) (by decide +kernel) (by decide) ?_
          exact mm_ok_sub (lo := [some (.ref 7), none, some (.int a2), some (.int a3), some (.ref h4), none, some (.int (a6 + (1 : Int32)))]) (And.intro rfl (And.intro rfl (And.intro rfl (And.intro rfl (And.intro rfl trivial))))) (x11_spitters_h46_ok n a2 a3 h4 (a6 + (1 : Int32)) q16 hs_h4)
def x11_spitters (a1 : Int32) (a2 : Int32) (a3 : Int32) (q : mm_Q) : Option (Int32 × mm_Q) := (mm_cl (x11_shelfAt a1 q) (fun r1 q2 => (mm_om r1 (some ((-1 : Int32), q2)) (fun h3 => (mm_ck (mm_shb h3) (if a3 < (1 : Int32) then (some ((-1 : Int32), q2)) else (if a3 ≤ (6 : Int32) then (mm_cl (x8_rowRefusal h3 (0 : Int32) q2) (fun r7 q8 => (if r7 = (-12 : Int32) then (some ((-12 : Int32), q8)) else (x11_spitters_h46 mm_fu a2 a3 h3 (0 : Int32) q8)))) else (some ((-1 : Int32), q2)))))))))
set_option maxRecDepth 20000 in
theorem x11_spitters_ok {L : Nat} {a1 : Int32} {a2 : Int32} {a3 : Int32} {q : mm_Q} {r : Int32} {q1 : mm_Q} (h : x11_spitters a1 a2 a3 q = some (r, q1)) : mm_Runs 4 140 [.ref 7, .int a1, .int a2, .int a3] (mm_wq L q) (mm_cvi r) (mm_wq L q1) := by
  refine mm_runs_of (d := 3) (L := L) rfl (by decide +kernel) rfl rfl (?_ : mm_ok mm_cvi (mm_Runs 3) 11 false cX11_spitters (some .int) L 0 [some (.ref 7), some (.int a1), some (.int a2), some (.int a3), none, none, none] [] q (x11_spitters a1 a2 a3 q)) h
  unfold x11_spitters
  refine mm_ok_bl (l := [(.aload 0, 1), (.iload 1, 1)]) (pc' := 2) (lo' := [some (.ref 7), some (.int a1), some (.int a2), some (.int a3), none, none, none]) (st' := [.int a1, .ref 7]) (q' := q) (P := (True) ∧ ((True) ∧ (True))) (by decide +kernel) rfl rfl (And.intro trivial (And.intro trivial trivial)) ?_
  refine mm_ok_call (cz := mm_cvr) (j := .invokevirtual 2929) (y := 183) (as := [.ref 7, .int a1]) (t := []) (by decide +kernel) rfl (fun _ _ h => mm_up (k := 1) (by decide) (x11_shelfAt_ok h)) (fun r1 q2 => ?_)
  refine mm_ok_bl (l := [(.astore 4, 2), (.aload 4, 2)]) (pc' := 9) (lo' := [some (.ref 7), some (.int a1), some (.int a2), some (.int a3), some (va_rf r1), none, none]) (st' := [va_rf r1]) (q' := q2) (P := (True) ∧ ((True) ∧ (True))) (by decide +kernel) (by cases r1 <;> rfl) rfl (And.intro trivial (And.intro trivial trivial)) ?_
  refine mm_ok_ifnull (pt := 23) (d := 14) (by decide +kernel) (by decide) (fun k4 => ?_) (fun h3 k4 => ?_)
  · subst k4
    refine mm_ok_bl (l := [(.iconst (-1), 1)]) (pc' := 24) (lo' := [some (.ref 7), some (.int a1), some (.int a2), some (.int a3), some (.null), none, none]) (st' := [.int (-1 : Int32)]) (q' := q2) (P := (True) ∧ (True)) (by decide +kernel) rfl rfl (And.intro trivial trivial) ?_
    exact mm_ok_iret (by decide +kernel)
  · subst k4
    refine mm_ok_ck (fun c10 => ?_)
    have hs_h3 := mm_shb_ok c10
    refine mm_ok_bl (l := [(.iload 3, 1), (.iconst (1), 1)]) (pc' := 14) (lo' := [some (.ref 7), some (.int a1), some (.int a2), some (.int a3), some (.ref h3), none, none]) (st' := [.int (1 : Int32), .int a3]) (q' := q2) (P := (True) ∧ ((True) ∧ (True))) (by decide +kernel) (by rcases hs_h3 with rfl | rfl | rfl | rfl | rfl | rfl <;> rfl) rfl (And.intro trivial (And.intro trivial trivial)) ?_
    refine mm_ok_if_icmp_lt (pt := 23) (d := 9) (by decide +kernel) (by decide) (fun k5 => ?_) (fun k5 => ?_)
    · refine mm_ok_bl (l := [(.iconst (-1), 1)]) (pc' := 24) (lo' := [some (.ref 7), some (.int a1), some (.int a2), some (.int a3), some (.ref h3), none, none]) (st' := [.int (-1 : Int32)]) (q' := q2) (P := (True) ∧ (True)) (by decide +kernel) (by rcases hs_h3 with rfl | rfl | rfl | rfl | rfl | rfl <;> rfl) rfl (And.intro trivial trivial) ?_
      exact mm_ok_iret (by decide +kernel)
    · refine mm_ok_bl (l := [(.iload 3, 1), (.iconst (6), 2)]) (pc' := 20) (lo' := [some (.ref 7), some (.int a1), some (.int a2), some (.int a3), some (.ref h3), none, none]) (st' := [.int (6 : Int32), .int a3]) (q' := q2) (P := (True) ∧ ((True) ∧ (True))) (by decide +kernel) (by rcases hs_h3 with rfl | rfl | rfl | rfl | rfl | rfl <;> rfl) rfl (And.intro trivial (And.intro trivial trivial)) ?_
      refine mm_ok_if_icmp_le (pt := 25) (d := 5) (by decide +kernel) (by decide) (fun k6 => ?_) (fun k6 => ?_)
      · refine mm_ok_bl (l := [(.aload 4, 2), (.iconst (0), 1)]) (pc' := 28) (lo' := [some (.ref 7), some (.int a1), some (.int a2), some (.int a3), some (.ref h3), none, none]) (st' := [.int (0 : Int32), .ref h3]) (q' := q2) (P := (True) ∧ ((True) ∧ (True))) (by decide +kernel) (by rcases hs_h3 with rfl | rfl | rfl | rfl | rfl | rfl <;> rfl) rfl (And.intro trivial (And.intro trivial trivial)) ?_
        refine mm_ok_call (cz := mm_cvi) (j := .invokevirtual 1649) (y := 103) (as := [.ref h3, .int (0 : Int32)]) (t := []) (by decide +kernel) (by rcases hs_h3 with rfl | rfl | rfl | rfl | rfl | rfl <;> rfl) (fun _ _ h => mm_up (k := 1) (by decide) (x8_rowRefusal_ok h hs_h3)) (fun r7 q8 => ?_)
        refine mm_ok_bl (l := [(.istore 5, 2), (.iload 5, 2), (.iconst (-12), 2)]) (pc' := 37) (lo' := [some (.ref 7), some (.int a1), some (.int a2), some (.int a3), some (.ref h3), some (.int r7), none]) (st' := [.int (-12 : Int32), .int r7]) (q' := q8) (P := (True) ∧ ((True) ∧ ((True) ∧ (True)))) (by decide +kernel) (by rcases hs_h3 with rfl | rfl | rfl | rfl | rfl | rfl <;> rfl) rfl (And.intro trivial (And.intro trivial (And.intro trivial trivial))) ?_
        refine mm_ok_if_icmp_ne (pt := 43) (d := 6) (by decide +kernel) (by decide) (fun k9 => ?_) (fun k9 => ?_)
        · refine mm_ok_bl (l := [(.iconst (-12), 2)]) (pc' := 42) (lo' := [some (.ref 7), some (.int a1), some (.int a2), some (.int a3), some (.ref h3), some (.int r7), none]) (st' := [.int (-12 : Int32)]) (q' := q8) (P := (True) ∧ (True)) (by decide +kernel) (by rcases hs_h3 with rfl | rfl | rfl | rfl | rfl | rfl <;> rfl) rfl (And.intro trivial trivial) ?_
          exact mm_ok_iret (by decide +kernel)
        · refine mm_ok_bl (l := [(.iconst (0), 1), (.istore 6, 2)]) (pc' := 46) (lo' := [some (.ref 7), some (.int a1), some (.int a2), some (.int a3), some (.ref h3), some (.int r7), some (.int (0 : Int32))]) (st' := []) (q' := q8) (P := (True) ∧ ((True) ∧ (True))) (by decide +kernel) (by rcases hs_h3 with rfl | rfl | rfl | rfl | rfl | rfl <;> rfl) rfl (And.intro trivial (And.intro trivial trivial)) ?_
          exact mm_ok_sub (lo := [some (.ref 7), none, some (.int a2), some (.int a3), some (.ref h3), none, some (.int (0 : Int32))]) (And.intro rfl (And.intro rfl (And.intro rfl (And.intro rfl (And.intro rfl trivial))))) (x11_spitters_h46_ok mm_fu a2 a3 h3 (0 : Int32) q8 hs_h3)
      · refine mm_ok_bl (l := [(.iconst (-1), 1)]) (pc' := 24) (lo' := [some (.ref 7), some (.int a1), some (.int a2), some (.int a3), some (.ref h3), none, none]) (st' := [.int (-1 : Int32)]) (q' := q2) (P := (True) ∧ (True)) (by decide +kernel) (by rcases hs_h3 with rfl | rfl | rfl | rfl | rfl | rfl <;> rfl) rfl (And.intro trivial trivial) ?_
        exact mm_ok_iret (by decide +kernel)
def x11_mend (a1 : Int32) (a2 : Int32) (a3 : Int32) (q : mm_Q) : Option (Int32 × mm_Q) := (mm_cl (x4_cellOf a1 a2 q) (fun r1 q2 => (if r1 < 0 then (some ((-2000000000 : Int32), q2)) else (mm_cl (x4_isWithin a2 a3.toInt64 q2) (fun r4 q5 => (if r4 = 0 then (some ((-2000000000 : Int32), q5)) else (mm_cl (x4_numberIn r1 q5) (fun r7 q8 => (if r7 = a3 then (some (r7, q8)) else (mm_cl (x1_note r1 r7 a3 q8) (fun u10 q11 => (mm_cl (x4_write r1 a3 q11) (fun u12 q13 => (some (r7, q13)))))))))))))))
set_option maxRecDepth 20000 in
theorem x11_mend_ok {L : Nat} {a1 : Int32} {a2 : Int32} {a3 : Int32} {q : mm_Q} {r : Int32} {q1 : mm_Q} (h : x11_mend a1 a2 a3 q = some (r, q1)) : mm_Runs 3 141 [.ref 7, .int a1, .int a2, .int a3] (mm_wq L q) (mm_cvi r) (mm_wq L q1) := by
  refine mm_runs_of (d := 2) (L := L) rfl (by decide +kernel) rfl rfl (?_ : mm_ok mm_cvi (mm_Runs 2) 11 false cX11_mend (some .int) L 0 [some (.ref 7), some (.int a1), some (.int a2), some (.int a3), none, none] [] q (x11_mend a1 a2 a3 q)) h
  unfold x11_mend
  refine mm_ok_bl (l := [(.aload 0, 1), (.getfield 704, 3), (.iload 1, 1), (.iload 2, 1)]) (pc' := 6) (lo' := [some (.ref 7), some (.int a1), some (.int a2), some (.int a3), none, none]) (st' := [.int a2, .int a1, .ref 8]) (q' := q) (P := (True) ∧ ((True) ∧ ((True) ∧ ((True) ∧ (True))))) (by decide +kernel) rfl rfl (And.intro trivial (And.intro trivial (And.intro trivial (And.intro trivial trivial)))) ?_
  refine mm_ok_call (cz := mm_cvi) (j := .invokevirtual 882) (y := 55) (as := [.ref 8, .int a1, .int a2]) (t := []) (by decide +kernel) rfl (fun _ _ h => mm_up (k := 1) (by decide) (x4_cellOf_ok h)) (fun r1 q2 => ?_)
  refine mm_ok_bl (l := [(.istore 4, 2), (.iload 4, 2)]) (pc' := 13) (lo' := [some (.ref 7), some (.int a1), some (.int a2), some (.int a3), some (.int r1), none]) (st' := [.int r1]) (q' := q2) (P := (True) ∧ ((True) ∧ (True))) (by decide +kernel) rfl rfl (And.intro trivial (And.intro trivial trivial)) ?_
  refine mm_ok_ifCond_lt (pt := 25) (d := 12) (by decide +kernel) (by decide) (fun k3 => ?_) (fun k3 => ?_)
  · refine mm_ok_bl (l := [(.iconst (-2000000000), 2)]) (pc' := 27) (lo' := [some (.ref 7), some (.int a1), some (.int a2), some (.int a3), some (.int r1), none]) (st' := [.int (-2000000000 : Int32)]) (q' := q2) (P := (True) ∧ (True)) (by decide +kernel) rfl rfl (And.intro trivial trivial) ?_
    exact mm_ok_iret (by decide +kernel)
  · refine mm_ok_bl (l := [(.iload 2, 1), (.iload 3, 1), (.i2l, 1)]) (pc' := 19) (lo' := [some (.ref 7), some (.int a1), some (.int a2), some (.int a3), some (.int r1), none]) (st' := [.long a3.toInt64, .int a2]) (q' := q2) (P := (True) ∧ ((True) ∧ ((True) ∧ (True)))) (by decide +kernel) rfl rfl (And.intro trivial (And.intro trivial (And.intro trivial trivial))) ?_
    refine mm_ok_call (cz := mm_cvi) (j := .invokestatic 802) (y := 50) (as := [.int a2, .long a3.toInt64]) (t := []) (by decide +kernel) rfl (fun _ _ h => mm_up (k := 1) (by decide) (x4_isWithin_ok h)) (fun r4 q5 => ?_)
    refine mm_ok_ifCond_ne (pt := 28) (d := 6) (by decide +kernel) (by decide) (fun k6 => ?_) (fun k6 => ?_)
    · refine mm_ok_bl (l := [(.iconst (-2000000000), 2)]) (pc' := 27) (lo' := [some (.ref 7), some (.int a1), some (.int a2), some (.int a3), some (.int r1), none]) (st' := [.int (-2000000000 : Int32)]) (q' := q5) (P := (True) ∧ (True)) (by decide +kernel) rfl rfl (And.intro trivial trivial) ?_
      exact mm_ok_iret (by decide +kernel)
    · refine mm_ok_bl (l := [(.aload 0, 1), (.getfield 704, 3), (.iload 4, 2)]) (pc' := 34) (lo' := [some (.ref 7), some (.int a1), some (.int a2), some (.int a3), some (.int r1), none]) (st' := [.int r1, .ref 8]) (q' := q5) (P := (True) ∧ ((True) ∧ ((True) ∧ (True)))) (by decide +kernel) rfl rfl (And.intro trivial (And.intro trivial (And.intro trivial trivial))) ?_
      refine mm_ok_call (cz := mm_cvi) (j := .invokevirtual 897) (y := 56) (as := [.ref 8, .int r1]) (t := []) (by decide +kernel) rfl (fun _ _ h => mm_up (k := 1) (by decide) (x4_numberIn_ok h)) (fun r7 q8 => ?_)
      refine mm_ok_bl (l := [(.istore 5, 2), (.iload 5, 2), (.iload 3, 1)]) (pc' := 42) (lo' := [some (.ref 7), some (.int a1), some (.int a2), some (.int a3), some (.int r1), some (.int r7)]) (st' := [.int a3, .int r7]) (q' := q8) (P := (True) ∧ ((True) ∧ ((True) ∧ (True)))) (by decide +kernel) rfl rfl (And.intro trivial (And.intro trivial (And.intro trivial trivial))) ?_
      refine mm_ok_if_icmp_eq (pt := 67) (d := 25) (by decide +kernel) (by decide) (fun k9 => ?_) (fun k9 => ?_)
      · refine mm_ok_bl (l := [(.iload 5, 2)]) (pc' := 69) (lo' := [some (.ref 7), some (.int a1), some (.int a2), some (.int a3), some (.int r1), some (.int r7)]) (st' := [.int r7]) (q' := q8) (P := (True) ∧ (True)) (by decide +kernel) rfl rfl (And.intro trivial trivial) ?_
        exact mm_ok_iret (by decide +kernel)
      · refine mm_ok_bl (l := [(.aload 0, 1), (.getfield 707, 3), (.iload 4, 2), (.iload 5, 2), (.iload 3, 1)]) (pc' := 54) (lo' := [some (.ref 7), some (.int a1), some (.int a2), some (.int a3), some (.int r1), some (.int r7)]) (st' := [.int a3, .int r7, .int r1, .ref 31]) (q' := q8) (P := (True) ∧ ((True) ∧ ((True) ∧ ((True) ∧ ((True) ∧ (True)))))) (by decide +kernel) rfl rfl (And.intro trivial (And.intro trivial (And.intro trivial (And.intro trivial (And.intro trivial trivial))))) ?_
        refine mm_ok_call (cz := mm_cvu) (j := .invokevirtual 307) (y := 19) (as := [.ref 31, .int r1, .int r7, .int a3]) (t := []) (by decide +kernel) rfl (fun _ _ h => mm_up (k := 2) (by decide) (x1_note_ok h)) (fun u10 q11 => ?_)
        refine mm_ok_bl (l := [(.aload 0, 1), (.getfield 704, 3), (.iload 4, 2), (.iload 3, 1)]) (pc' := 64) (lo' := [some (.ref 7), some (.int a1), some (.int a2), some (.int a3), some (.int r1), some (.int r7)]) (st' := [.int a3, .int r1, .ref 8]) (q' := q11) (P := (True) ∧ ((True) ∧ ((True) ∧ ((True) ∧ (True))))) (by decide +kernel) rfl rfl (And.intro trivial (And.intro trivial (And.intro trivial (And.intro trivial trivial)))) ?_
        refine mm_ok_call (cz := mm_cvu) (j := .invokevirtual 914) (y := 57) (as := [.ref 8, .int r1, .int a3]) (t := []) (by decide +kernel) rfl (fun _ _ h => mm_up (k := 1) (by decide) (x4_write_ok h)) (fun u12 q13 => ?_)
        refine mm_ok_bl (l := [(.iload 5, 2)]) (pc' := 69) (lo' := [some (.ref 7), some (.int a1), some (.int a2), some (.int a3), some (.int r1), some (.int r7)]) (st' := [.int r7]) (q' := q13) (P := (True) ∧ (True)) (by decide +kernel) rfl rfl (And.intro trivial trivial) ?_
        exact mm_ok_iret (by decide +kernel)
def x11_of (a1 : Int32) (a2 : Int32) (q : mm_Q) : Option (Int32 × mm_Q) := (mm_cl (x4_cellOf a1 a2 q) (fun r1 q2 => (if 0 ≤ r1 then (mm_cl (x4_numberIn r1 q2) (fun r4 q5 => (some (r4, q5)))) else (some ((-2000000000 : Int32), q2)))))
set_option maxRecDepth 20000 in
theorem x11_of_ok {L : Nat} {a1 : Int32} {a2 : Int32} {q : mm_Q} {r : Int32} {q1 : mm_Q} (h : x11_of a1 a2 q = some (r, q1)) : mm_Runs 2 142 [.ref 7, .int a1, .int a2] (mm_wq L q) (mm_cvi r) (mm_wq L q1) := by
  refine mm_runs_of (d := 1) (L := L) rfl (by decide +kernel) rfl rfl (?_ : mm_ok mm_cvi (mm_Runs 1) 11 false cX11_of (some .int) L 0 [some (.ref 7), some (.int a1), some (.int a2), none] [] q (x11_of a1 a2 q)) h
  unfold x11_of
  refine mm_ok_bl (l := [(.aload 0, 1), (.getfield 704, 3), (.iload 1, 1), (.iload 2, 1)]) (pc' := 6) (lo' := [some (.ref 7), some (.int a1), some (.int a2), none]) (st' := [.int a2, .int a1, .ref 8]) (q' := q) (P := (True) ∧ ((True) ∧ ((True) ∧ ((True) ∧ (True))))) (by decide +kernel) rfl rfl (And.intro trivial (And.intro trivial (And.intro trivial (And.intro trivial trivial)))) ?_
  refine mm_ok_call (cz := mm_cvi) (j := .invokevirtual 882) (y := 55) (as := [.ref 8, .int a1, .int a2]) (t := []) (by decide +kernel) rfl (fun _ _ h => mm_up (k := 1) (by decide) (x4_cellOf_ok h)) (fun r1 q2 => ?_)
  refine mm_ok_bl (l := [(.istore 3, 1), (.iload 3, 1)]) (pc' := 11) (lo' := [some (.ref 7), some (.int a1), some (.int a2), some (.int r1)]) (st' := [.int r1]) (q' := q2) (P := (True) ∧ ((True) ∧ (True))) (by decide +kernel) rfl rfl (And.intro trivial (And.intro trivial trivial)) ?_
  refine mm_ok_ifCond_ge (pt := 19) (d := 8) (by decide +kernel) (by decide) (fun k3 => ?_) (fun k3 => ?_)
  · refine mm_ok_bl (l := [(.aload 0, 1), (.getfield 704, 3), (.iload 3, 1)]) (pc' := 24) (lo' := [some (.ref 7), some (.int a1), some (.int a2), some (.int r1)]) (st' := [.int r1, .ref 8]) (q' := q2) (P := (True) ∧ ((True) ∧ ((True) ∧ (True)))) (by decide +kernel) rfl rfl (And.intro trivial (And.intro trivial (And.intro trivial trivial))) ?_
    refine mm_ok_call (cz := mm_cvi) (j := .invokevirtual 897) (y := 56) (as := [.ref 8, .int r1]) (t := []) (by decide +kernel) rfl (fun _ _ h => mm_up (k := 1) (by decide) (x4_numberIn_ok h)) (fun r4 q5 => ?_)
    exact mm_ok_iret (by decide +kernel)
  · refine mm_ok_bl (l := [(.iconst (-2000000000), 2)]) (pc' := 16) (lo' := [some (.ref 7), some (.int a1), some (.int a2), some (.int r1)]) (st' := [.int (-2000000000 : Int32)]) (q' := q2) (P := (True) ∧ (True)) (by decide +kernel) rfl rfl (And.intro trivial trivial) ?_
    refine mm_ok_goto (pt := 27) (d := 11) (by decide +kernel) (by decide) ?_
    exact mm_ok_iret (by decide +kernel)
def x11_feed (a1 : Int32) (q : mm_Q) : Option (Int32 × mm_Q) := (if a1 < 0 then (some ((-1 : Int32), q)) else (if a1 ≤ (255 : Int32) then (mm_cl (x9_isFull q) (fun r3 q4 => (if r3 = 0 then (mm_cl (x9_append a1 q4) (fun r6 q7 => (some (r6, q7)))) else (some ((-3 : Int32), q4))))) else (some ((-1 : Int32), q))))
set_option maxRecDepth 20000 in
theorem x11_feed_ok {L : Nat} {a1 : Int32} {q : mm_Q} {r : Int32} {q1 : mm_Q} (h : x11_feed a1 q = some (r, q1)) : mm_Runs 2 143 [.ref 7, .int a1] (mm_wq L q) (mm_cvi r) (mm_wq L q1) := by
  refine mm_runs_of (d := 1) (L := L) rfl (by decide +kernel) rfl rfl (?_ : mm_ok mm_cvi (mm_Runs 1) 11 false cX11_feed (some .int) L 0 [some (.ref 7), some (.int a1)] [] q (x11_feed a1 q)) h
  unfold x11_feed
  refine mm_ok_bl (l := [(.iload 1, 1)]) (pc' := 1) (lo' := [some (.ref 7), some (.int a1)]) (st' := [.int a1]) (q' := q) (P := (True) ∧ (True)) (by decide +kernel) rfl rfl (And.intro trivial trivial) ?_
  refine mm_ok_ifCond_lt (pt := 11) (d := 10) (by decide +kernel) (by decide) (fun k1 => ?_) (fun k1 => ?_)
  · refine mm_ok_bl (l := [(.iconst (-1), 1)]) (pc' := 12) (lo' := [some (.ref 7), some (.int a1)]) (st' := [.int (-1 : Int32)]) (q' := q) (P := (True) ∧ (True)) (by decide +kernel) rfl rfl (And.intro trivial trivial) ?_
    exact mm_ok_iret (by decide +kernel)
  · refine mm_ok_bl (l := [(.iload 1, 1), (.iconst (255), 3)]) (pc' := 8) (lo' := [some (.ref 7), some (.int a1)]) (st' := [.int (255 : Int32), .int a1]) (q' := q) (P := (True) ∧ ((True) ∧ (True))) (by decide +kernel) rfl rfl (And.intro trivial (And.intro trivial trivial)) ?_
    refine mm_ok_if_icmp_le (pt := 13) (d := 5) (by decide +kernel) (by decide) (fun k2 => ?_) (fun k2 => ?_)
    · refine mm_ok_bl (l := [(.aload 0, 1), (.getfield 705, 3)]) (pc' := 17) (lo' := [some (.ref 7), some (.int a1)]) (st' := [.ref 28]) (q' := q) (P := (True) ∧ ((True) ∧ (True))) (by decide +kernel) rfl rfl (And.intro trivial (And.intro trivial trivial)) ?_
      refine mm_ok_call (cz := mm_cvi) (j := .invokevirtual 1792) (y := 112) (as := [.ref 28]) (t := []) (by decide +kernel) rfl (fun _ _ h => mm_up (k := 1) (by decide) (x9_isFull_ok h)) (fun r3 q4 => ?_)
      refine mm_ok_ifCond_eq (pt := 28) (d := 8) (by decide +kernel) (by decide) (fun k5 => ?_) (fun k5 => ?_)
      · refine mm_ok_bl (l := [(.aload 0, 1), (.getfield 705, 3), (.iload 1, 1)]) (pc' := 33) (lo' := [some (.ref 7), some (.int a1)]) (st' := [.int a1, .ref 28]) (q' := q4) (P := (True) ∧ ((True) ∧ ((True) ∧ (True)))) (by decide +kernel) rfl rfl (And.intro trivial (And.intro trivial (And.intro trivial trivial))) ?_
        refine mm_ok_call (cz := mm_cvi) (j := .invokevirtual 1777) (y := 111) (as := [.ref 28, .int a1]) (t := []) (by decide +kernel) rfl (fun _ _ h => mm_up (k := 1) (by decide) (x9_append_ok h)) (fun r6 q7 => ?_)
        exact mm_ok_iret (by decide +kernel)
      · refine mm_ok_bl (l := [(.iconst (-3), 2)]) (pc' := 25) (lo' := [some (.ref 7), some (.int a1)]) (st' := [.int (-3 : Int32)]) (q' := q4) (P := (True) ∧ (True)) (by decide +kernel) rfl rfl (And.intro trivial trivial) ?_
        refine mm_ok_goto (pt := 36) (d := 11) (by decide +kernel) (by decide) ?_
        exact mm_ok_iret (by decide +kernel)
    · refine mm_ok_bl (l := [(.iconst (-1), 1)]) (pc' := 12) (lo' := [some (.ref 7), some (.int a1)]) (st' := [.int (-1 : Int32)]) (q' := q) (P := (True) ∧ (True)) (by decide +kernel) rfl rfl (And.intro trivial trivial) ?_
      exact mm_ok_iret (by decide +kernel)
def x11_law_j42 (a2 : Int32) (q : mm_Q) : Option (Int32 × mm_Q) := (mm_cl (x9_clear q) (fun u9 q10 => (some (a2, q10))))
set_option maxRecDepth 20000 in
theorem x11_law_j42_ok {L : Nat} (a2 : Int32) (q : mm_Q) : mm_ok mm_cvi (mm_Runs 104) 11 false cX11_law (some .int) L 42 [some (.ref 7), none, some (.int a2)] [] q (x11_law_j42 a2 q) := by
  unfold x11_law_j42
  refine mm_ok_bl (l := [(.aload 0, 1), (.getfield 705, 3)]) (pc' := 46) (lo' := [some (.ref 7), none, some (.int a2)]) (st' := [.ref 28]) (q' := q) (P := (True) ∧ ((True) ∧ (True))) (by decide +kernel) rfl rfl (And.intro trivial (And.intro trivial trivial)) ?_
  refine mm_ok_call (cz := mm_cvu) (j := .invokevirtual 1824) (y := 114) (as := [.ref 28]) (t := []) (by decide +kernel) rfl (fun _ _ h => mm_up (k := 1) (by decide) (x9_clear_ok h)) (fun u9 q10 => ?_)
  refine mm_ok_bl (l := [(.iload 2, 1)]) (pc' := 50) (lo' := [some (.ref 7), none, some (.int a2)]) (st' := [.int a2]) (q' := q10) (P := (True) ∧ (True)) (by decide +kernel) rfl rfl (And.intro trivial trivial) ?_
  exact mm_ok_iret (by decide +kernel)
def x11_law_j26 (a1 : Int32) (s0 : Int32) (q : mm_Q) : Option (Int32 × mm_Q) := (if a1 = 0 then (x11_law_j42 s0 q) else (mm_cl (x9_writeTo q) (fun u7 q8 => (x11_law_j42 s0 q8))))
set_option maxRecDepth 20000 in
theorem x11_law_j26_ok {L : Nat} (a1 : Int32) (s0 : Int32) (q : mm_Q) : mm_ok mm_cvi (mm_Runs 104) 11 false cX11_law (some .int) L 26 [some (.ref 7), some (.int a1), none] [.int s0] q (x11_law_j26 a1 s0 q) := by
  unfold x11_law_j26
  refine mm_ok_bl (l := [(.istore 2, 1), (.iload 1, 1)]) (pc' := 28) (lo' := [some (.ref 7), some (.int a1), some (.int s0)]) (st' := [.int a1]) (q' := q) (P := (True) ∧ ((True) ∧ (True))) (by decide +kernel) rfl rfl (And.intro trivial (And.intro trivial trivial)) ?_
  refine mm_ok_ifCond_eq (pt := 42) (d := 14) (by decide +kernel) (by decide) (fun k6 => ?_) (fun k6 => ?_)
  · exact mm_ok_sub (lo := [some (.ref 7), none, some (.int s0)]) (And.intro rfl (And.intro rfl trivial)) (x11_law_j42_ok s0 q)
  · refine mm_ok_bl (l := [(.aload 0, 1), (.getfield 705, 3), (.aload 0, 1), (.getfield 706, 3)]) (pc' := 39) (lo' := [some (.ref 7), some (.int a1), some (.int s0)]) (st' := [.ref 10, .ref 28]) (q' := q) (P := (True) ∧ ((True) ∧ ((True) ∧ ((True) ∧ (True))))) (by decide +kernel) rfl rfl (And.intro trivial (And.intro trivial (And.intro trivial (And.intro trivial trivial)))) ?_
    refine mm_ok_call (cz := mm_cvu) (j := .invokevirtual 1857) (y := 116) (as := [.ref 28, .ref 10]) (t := []) (by decide +kernel) rfl (fun _ _ h => mm_up (k := 2) (by decide) (x9_writeTo_ok h)) (fun u7 q8 => ?_)
    exact mm_ok_sub (lo := [some (.ref 7), none, some (.int s0)]) (And.intro rfl (And.intro rfl trivial)) (x11_law_j42_ok s0 q8)
def x11_law  (q : mm_Q) : Option (Int32 × mm_Q) := (mm_cl (x9_isText q) (fun r1 q2 => (if r1 = 0 then (mm_cl (x9_fault q2) (fun r4 q5 => (x11_law_j26 r1 ((Int32.ofInt (-100)) - r4) q5))) else (x11_law_j26 r1 (1 : Int32) q2))))
set_option maxRecDepth 20000 in
theorem x11_law_ok {L : Nat} {q : mm_Q} {r : Int32} {q1 : mm_Q} (h : x11_law  q = some (r, q1)) : mm_Runs 105 144 [.ref 7] (mm_wq L q) (mm_cvi r) (mm_wq L q1) := by
  refine mm_runs_of (d := 104) (L := L) rfl (by decide +kernel) rfl rfl (?_ : mm_ok mm_cvi (mm_Runs 104) 11 false cX11_law (some .int) L 0 [some (.ref 7), none, none] [] q (x11_law  q)) h
  unfold x11_law
  refine mm_ok_bl (l := [(.aload 0, 1), (.getfield 705, 3)]) (pc' := 4) (lo' := [some (.ref 7), none, none]) (st' := [.ref 28]) (q' := q) (P := (True) ∧ ((True) ∧ (True))) (by decide +kernel) rfl rfl (And.intro trivial (And.intro trivial trivial)) ?_
  refine mm_ok_call (cz := mm_cvi) (j := .invokevirtual 1872) (y := 117) (as := [.ref 28]) (t := []) (by decide +kernel) rfl (fun _ _ h => mm_up (k := 104) (by decide) (x9_isText_ok h)) (fun r1 q2 => ?_)
  refine mm_ok_bl (l := [(.istore 1, 1), (.iload 1, 1)]) (pc' := 9) (lo' := [some (.ref 7), some (.int r1), none]) (st' := [.int r1]) (q' := q2) (P := (True) ∧ ((True) ∧ (True))) (by decide +kernel) rfl rfl (And.intro trivial (And.intro trivial trivial)) ?_
  refine mm_ok_ifCond_eq (pt := 16) (d := 7) (by decide +kernel) (by decide) (fun k3 => ?_) (fun k3 => ?_)
  · refine mm_ok_bl (l := [(.iconst (-100), 2), (.aload 0, 1), (.getfield 705, 3)]) (pc' := 22) (lo' := [some (.ref 7), some (.int r1), none]) (st' := [.ref 28, .int (-100 : Int32)]) (q' := q2) (P := (True) ∧ ((True) ∧ ((True) ∧ (True)))) (by decide +kernel) rfl rfl (And.intro trivial (And.intro trivial (And.intro trivial trivial))) ?_
    refine mm_ok_call (cz := mm_cvi) (j := .invokevirtual 1840) (y := 115) (as := [.ref 28]) (t := [.int (-100 : Int32)]) (by decide +kernel) rfl (fun _ _ h => mm_up (k := 1) (by decide) (x9_fault_ok h)) (fun r4 q5 => ?_)
    refine mm_ok_bl (l := [(.isub, 1)]) (pc' := 26) (lo' := [some (.ref 7), some (.int r1), none]) (st' := [.int ((Int32.ofInt (-100)) - r4)]) (q' := q5) (P := (True) ∧ (True)) (by decide +kernel) rfl rfl (And.intro trivial trivial) ?_
    exact mm_ok_sub (lo := [some (.ref 7), some (.int r1), none]) (And.intro rfl (And.intro rfl trivial)) (x11_law_j26_ok r1 ((Int32.ofInt (-100)) - r4) q5)
  · refine mm_ok_bl (l := [(.iconst (1), 1)]) (pc' := 13) (lo' := [some (.ref 7), some (.int r1), none]) (st' := [.int (1 : Int32)]) (q' := q2) (P := (True) ∧ (True)) (by decide +kernel) rfl rfl (And.intro trivial trivial) ?_
    refine mm_ok_goto (pt := 26) (d := 13) (by decide +kernel) (by decide) ?_
    exact mm_ok_sub (lo := [some (.ref 7), some (.int r1), none]) (And.intro rfl (And.intro rfl trivial)) (x11_law_j26_ok r1 (1 : Int32) q2)
def x11_isStoneAndAhead (a1 : Int32) (q : mm_Q) : Option (Int32 × mm_Q) := (if a1 < 0 then (some ((0 : Int32), q)) else (if (9 : Int32) ≤ (a1 / (1000 : Int32)) then (some ((0 : Int32), q)) else (if (99 : Int32) < (mm_rem a1 (1000 : Int32)) then (some ((0 : Int32), q)) else (some ((1 : Int32), q)))))
set_option maxRecDepth 20000 in
theorem x11_isStoneAndAhead_ok {L : Nat} {a1 : Int32} {q : mm_Q} {r : Int32} {q1 : mm_Q} (h : x11_isStoneAndAhead a1 q = some (r, q1)) : mm_Runs 1 179 [.int a1] (mm_wq L q) (mm_cvi r) (mm_wq L q1) := by
  refine mm_runs_of (d := 0) (L := L) rfl (by decide +kernel) rfl rfl (?_ : mm_ok mm_cvi (mm_Runs 0) 11 false cX11_isStoneAndAhead (some .boolean) L 0 [some (.int a1)] [] q (x11_isStoneAndAhead a1 q)) h
  unfold x11_isStoneAndAhead
  refine mm_ok_bl (l := [(.iload 0, 1)]) (pc' := 1) (lo' := [some (.int a1)]) (st' := [.int a1]) (q' := q) (P := (True) ∧ (True)) (by decide +kernel) rfl rfl (And.intro trivial trivial) ?_
  refine mm_ok_ifCond_lt (pt := 28) (d := 27) (by decide +kernel) (by decide) (fun k1 => ?_) (fun k1 => ?_)
  · refine mm_ok_bl (l := [(.iconst (0), 1)]) (pc' := 29) (lo' := [some (.int a1)]) (st' := [.int (0 : Int32)]) (q' := q) (P := (True) ∧ (True)) (by decide +kernel) rfl rfl (And.intro trivial trivial) ?_
    exact mm_ok_zret (by decide +kernel) (by decide)
  · refine mm_ok_bl (l := [(.iload 0, 1), (.iconst (1000), 3), (.idiv, 1), (.iconst (9), 2)]) (pc' := 11) (lo' := [some (.int a1)]) (st' := [.int (9 : Int32), .int (a1 / (1000 : Int32))]) (q' := q) (P := (True) ∧ ((True) ∧ ((¬ ((1000 : Int32) = 0)) ∧ ((True) ∧ (True))))) (by decide +kernel) rfl rfl (And.intro trivial (And.intro trivial (And.intro (by decide) (And.intro trivial trivial)))) ?_
    refine mm_ok_if_icmp_ge (pt := 28) (d := 17) (by decide +kernel) (by decide) (fun k2 => ?_) (fun k2 => ?_)
    · refine mm_ok_bl (l := [(.iconst (0), 1)]) (pc' := 29) (lo' := [some (.int a1)]) (st' := [.int (0 : Int32)]) (q' := q) (P := (True) ∧ (True)) (by decide +kernel) rfl rfl (And.intro trivial trivial) ?_
      exact mm_ok_zret (by decide +kernel) (by decide)
    · refine mm_ok_bl (l := [(.iload 0, 1), (.iconst (1000), 3), (.irem, 1), (.iconst (99), 2)]) (pc' := 21) (lo' := [some (.int a1)]) (st' := [.int (99 : Int32), .int (mm_rem a1 (1000 : Int32))]) (q' := q) (P := (True) ∧ ((True) ∧ ((¬ ((1000 : Int32) = 0)) ∧ ((True) ∧ (True))))) (by decide +kernel) rfl rfl (And.intro trivial (And.intro trivial (And.intro (by decide) (And.intro trivial trivial)))) ?_
      refine mm_ok_if_icmp_gt (pt := 28) (d := 7) (by decide +kernel) (by decide) (fun k3 => ?_) (fun k3 => ?_)
      · refine mm_ok_bl (l := [(.iconst (0), 1)]) (pc' := 29) (lo' := [some (.int a1)]) (st' := [.int (0 : Int32)]) (q' := q) (P := (True) ∧ (True)) (by decide +kernel) rfl rfl (And.intro trivial trivial) ?_
        exact mm_ok_zret (by decide +kernel) (by decide)
      · refine mm_ok_bl (l := [(.iconst (1), 1)]) (pc' := 25) (lo' := [some (.int a1)]) (st' := [.int (1 : Int32)]) (q' := q) (P := (True) ∧ (True)) (by decide +kernel) rfl rfl (And.intro trivial trivial) ?_
        refine mm_ok_goto (pt := 29) (d := 4) (by decide +kernel) (by decide) ?_
        exact mm_ok_zret (by decide +kernel) (by decide)
def x11_isHow (a1 : Int32) (q : mm_Q) : Option (Int32 × mm_Q) := (if a1 < 0 then (some ((0 : Int32), q)) else (if (9 : Int32) ≤ (a1 / (10 : Int32)) then (some ((0 : Int32), q)) else (if (1 : Int32) < (mm_rem a1 (10 : Int32)) then (some ((0 : Int32), q)) else (some ((1 : Int32), q)))))
set_option maxRecDepth 20000 in
theorem x11_isHow_ok {L : Nat} {a1 : Int32} {q : mm_Q} {r : Int32} {q1 : mm_Q} (h : x11_isHow a1 q = some (r, q1)) : mm_Runs 1 180 [.int a1] (mm_wq L q) (mm_cvi r) (mm_wq L q1) := by
  refine mm_runs_of (d := 0) (L := L) rfl (by decide +kernel) rfl rfl (?_ : mm_ok mm_cvi (mm_Runs 0) 11 false cX11_isHow (some .boolean) L 0 [some (.int a1)] [] q (x11_isHow a1 q)) h
  unfold x11_isHow
  refine mm_ok_bl (l := [(.iload 0, 1)]) (pc' := 1) (lo' := [some (.int a1)]) (st' := [.int a1]) (q' := q) (P := (True) ∧ (True)) (by decide +kernel) rfl rfl (And.intro trivial trivial) ?_
  refine mm_ok_ifCond_lt (pt := 25) (d := 24) (by decide +kernel) (by decide) (fun k1 => ?_) (fun k1 => ?_)
  · refine mm_ok_bl (l := [(.iconst (0), 1)]) (pc' := 26) (lo' := [some (.int a1)]) (st' := [.int (0 : Int32)]) (q' := q) (P := (True) ∧ (True)) (by decide +kernel) rfl rfl (And.intro trivial trivial) ?_
    exact mm_ok_zret (by decide +kernel) (by decide)
  · refine mm_ok_bl (l := [(.iload 0, 1), (.iconst (10), 2), (.idiv, 1), (.iconst (9), 2)]) (pc' := 10) (lo' := [some (.int a1)]) (st' := [.int (9 : Int32), .int (a1 / (10 : Int32))]) (q' := q) (P := (True) ∧ ((True) ∧ ((¬ ((10 : Int32) = 0)) ∧ ((True) ∧ (True))))) (by decide +kernel) rfl rfl (And.intro trivial (And.intro trivial (And.intro (by decide) (And.intro trivial trivial)))) ?_
    refine mm_ok_if_icmp_ge (pt := 25) (d := 15) (by decide +kernel) (by decide) (fun k2 => ?_) (fun k2 => ?_)
    · refine mm_ok_bl (l := [(.iconst (0), 1)]) (pc' := 26) (lo' := [some (.int a1)]) (st' := [.int (0 : Int32)]) (q' := q) (P := (True) ∧ (True)) (by decide +kernel) rfl rfl (And.intro trivial trivial) ?_
      exact mm_ok_zret (by decide +kernel) (by decide)
    · refine mm_ok_bl (l := [(.iload 0, 1), (.iconst (10), 2), (.irem, 1), (.iconst (1), 1)]) (pc' := 18) (lo' := [some (.int a1)]) (st' := [.int (1 : Int32), .int (mm_rem a1 (10 : Int32))]) (q' := q) (P := (True) ∧ ((True) ∧ ((¬ ((10 : Int32) = 0)) ∧ ((True) ∧ (True))))) (by decide +kernel) rfl rfl (And.intro trivial (And.intro trivial (And.intro (by decide) (And.intro trivial trivial)))) ?_
      refine mm_ok_if_icmp_gt (pt := 25) (d := 7) (by decide +kernel) (by decide) (fun k3 => ?_) (fun k3 => ?_)
      · refine mm_ok_bl (l := [(.iconst (0), 1)]) (pc' := 26) (lo' := [some (.int a1)]) (st' := [.int (0 : Int32)]) (q' := q) (P := (True) ∧ (True)) (by decide +kernel) rfl rfl (And.intro trivial trivial) ?_
        exact mm_ok_zret (by decide +kernel) (by decide)
      · refine mm_ok_bl (l := [(.iconst (1), 1)]) (pc' := 22) (lo' := [some (.int a1)]) (st' := [.int (1 : Int32)]) (q' := q) (P := (True) ∧ (True)) (by decide +kernel) rfl rfl (And.intro trivial trivial) ?_
        refine mm_ok_goto (pt := 26) (d := 4) (by decide +kernel) (by decide) ?_
        exact mm_ok_zret (by decide +kernel) (by decide)
def x11_tries (a1 : Int32) (a2 : Int32) (a3 : Int32) (a4 : Int32) (q : mm_Q) : Option (Int32 × mm_Q) := (mm_cl (x4_isSpitter a1 q) (fun r1 q2 => (if r1 = 0 then (some ((-1 : Int32), q2)) else (mm_cl (x11_isStoneAndAhead a2 q2) (fun r4 q5 => (if r4 = 0 then (some ((-1 : Int32), q5)) else (mm_cl (x11_isHow a3 q5) (fun r7 q8 => (if r7 = 0 then (some ((-1 : Int32), q8)) else (if a4 < 0 then (some ((-1 : Int32), q8)) else (if a4 ≤ (2 : Int32) then (mm_cl (x10_take a1 (a2 / (1000 : Int32)) (mm_rem a2 (1000 : Int32)) q8) (fun u12 q13 => (mm_cl (x10_landing (a3 / (10 : Int32)) (mm_rem a3 (10 : Int32)) q13) (fun r14 q15 => (if a4 = 0 then (some (r14, q15)) else (if a4 = (1 : Int32) then (mm_cl (x4_stopOf r14 q15) (fun r18 q19 => (some (r18, q19)))) else (mm_cl (x4_pointsOf r14 q15) (fun r20 q21 => (some (r20, q21)))))))))) else (some ((-1 : Int32), q8)))))))))))))
set_option maxRecDepth 20000 in
theorem x11_tries_ok {L : Nat} {a1 : Int32} {a2 : Int32} {a3 : Int32} {a4 : Int32} {q : mm_Q} {r : Int32} {q1 : mm_Q} (h : x11_tries a1 a2 a3 a4 q = some (r, q1)) : mm_Runs 4 145 [.ref 7, .int a1, .int a2, .int a3, .int a4] (mm_wq L q) (mm_cvi r) (mm_wq L q1) := by
  refine mm_runs_of (d := 3) (L := L) rfl (by decide +kernel) rfl rfl (?_ : mm_ok mm_cvi (mm_Runs 3) 11 false cX11_tries (some .int) L 0 [some (.ref 7), some (.int a1), some (.int a2), some (.int a3), some (.int a4), none] [] q (x11_tries a1 a2 a3 a4 q)) h
  unfold x11_tries
  refine mm_ok_bl (l := [(.aload 0, 1), (.getfield 704, 3), (.iload 1, 1)]) (pc' := 5) (lo' := [some (.ref 7), some (.int a1), some (.int a2), some (.int a3), some (.int a4), none]) (st' := [.int a1, .ref 8]) (q' := q) (P := (True) ∧ ((True) ∧ ((True) ∧ (True)))) (by decide +kernel) rfl rfl (And.intro trivial (And.intro trivial (And.intro trivial trivial))) ?_
  refine mm_ok_call (cz := mm_cvi) (j := .invokevirtual 817) (y := 51) (as := [.ref 8, .int a1]) (t := []) (by decide +kernel) rfl (fun _ _ h => mm_up (k := 1) (by decide) (x4_isSpitter_ok h)) (fun r1 q2 => ?_)
  refine mm_ok_ifCond_eq (pt := 36) (d := 28) (by decide +kernel) (by decide) (fun k3 => ?_) (fun k3 => ?_)
  · refine mm_ok_bl (l := [(.iconst (-1), 1)]) (pc' := 37) (lo' := [some (.ref 7), some (.int a1), some (.int a2), some (.int a3), some (.int a4), none]) (st' := [.int (-1 : Int32)]) (q' := q2) (P := (True) ∧ (True)) (by decide +kernel) rfl rfl (And.intro trivial trivial) ?_
    exact mm_ok_iret (by decide +kernel)
  · refine mm_ok_bl (l := [(.iload 2, 1)]) (pc' := 12) (lo' := [some (.ref 7), some (.int a1), some (.int a2), some (.int a3), some (.int a4), none]) (st' := [.int a2]) (q' := q2) (P := (True) ∧ (True)) (by decide +kernel) rfl rfl (And.intro trivial trivial) ?_
    refine mm_ok_call (cz := mm_cvi) (j := .invokestatic 2865) (y := 179) (as := [.int a2]) (t := []) (by decide +kernel) rfl (fun _ _ h => mm_up (k := 1) (by decide) (x11_isStoneAndAhead_ok h)) (fun r4 q5 => ?_)
    refine mm_ok_ifCond_eq (pt := 36) (d := 21) (by decide +kernel) (by decide) (fun k6 => ?_) (fun k6 => ?_)
    · refine mm_ok_bl (l := [(.iconst (-1), 1)]) (pc' := 37) (lo' := [some (.ref 7), some (.int a1), some (.int a2), some (.int a3), some (.int a4), none]) (st' := [.int (-1 : Int32)]) (q' := q5) (P := (True) ∧ (True)) (by decide +kernel) rfl rfl (And.intro trivial trivial) ?_
      exact mm_ok_iret (by decide +kernel)
    · refine mm_ok_bl (l := [(.iload 3, 1)]) (pc' := 19) (lo' := [some (.ref 7), some (.int a1), some (.int a2), some (.int a3), some (.int a4), none]) (st' := [.int a3]) (q' := q5) (P := (True) ∧ (True)) (by decide +kernel) rfl rfl (And.intro trivial trivial) ?_
      refine mm_ok_call (cz := mm_cvi) (j := .invokestatic 2881) (y := 180) (as := [.int a3]) (t := []) (by decide +kernel) rfl (fun _ _ h => mm_up (k := 1) (by decide) (x11_isHow_ok h)) (fun r7 q8 => ?_)
      refine mm_ok_ifCond_eq (pt := 36) (d := 14) (by decide +kernel) (by decide) (fun k9 => ?_) (fun k9 => ?_)
      · refine mm_ok_bl (l := [(.iconst (-1), 1)]) (pc' := 37) (lo' := [some (.ref 7), some (.int a1), some (.int a2), some (.int a3), some (.int a4), none]) (st' := [.int (-1 : Int32)]) (q' := q8) (P := (True) ∧ (True)) (by decide +kernel) rfl rfl (And.intro trivial trivial) ?_
        exact mm_ok_iret (by decide +kernel)
      · refine mm_ok_bl (l := [(.iload 4, 2)]) (pc' := 27) (lo' := [some (.ref 7), some (.int a1), some (.int a2), some (.int a3), some (.int a4), none]) (st' := [.int a4]) (q' := q8) (P := (True) ∧ (True)) (by decide +kernel) rfl rfl (And.intro trivial trivial) ?_
        refine mm_ok_ifCond_lt (pt := 36) (d := 9) (by decide +kernel) (by decide) (fun k10 => ?_) (fun k10 => ?_)
        · refine mm_ok_bl (l := [(.iconst (-1), 1)]) (pc' := 37) (lo' := [some (.ref 7), some (.int a1), some (.int a2), some (.int a3), some (.int a4), none]) (st' := [.int (-1 : Int32)]) (q' := q8) (P := (True) ∧ (True)) (by decide +kernel) rfl rfl (And.intro trivial trivial) ?_
          exact mm_ok_iret (by decide +kernel)
        · refine mm_ok_bl (l := [(.iload 4, 2), (.iconst (2), 1)]) (pc' := 33) (lo' := [some (.ref 7), some (.int a1), some (.int a2), some (.int a3), some (.int a4), none]) (st' := [.int (2 : Int32), .int a4]) (q' := q8) (P := (True) ∧ ((True) ∧ (True))) (by decide +kernel) rfl rfl (And.intro trivial (And.intro trivial trivial)) ?_
          refine mm_ok_if_icmp_le (pt := 38) (d := 5) (by decide +kernel) (by decide) (fun k11 => ?_) (fun k11 => ?_)
          · refine mm_ok_bl (l := [(.aload 0, 1), (.getfield 708, 3), (.iload 1, 1), (.iload 2, 1), (.iconst (1000), 3), (.idiv, 1), (.iload 2, 1), (.iconst (1000), 3), (.irem, 1)]) (pc' := 53) (lo' := [some (.ref 7), some (.int a1), some (.int a2), some (.int a3), some (.int a4), none]) (st' := [.int (mm_rem a2 (1000 : Int32)), .int (a2 / (1000 : Int32)), .int a1, .ref 14]) (q' := q8) (P := (True) ∧ ((True) ∧ ((True) ∧ ((True) ∧ ((True) ∧ ((¬ ((1000 : Int32) = 0)) ∧ ((True) ∧ ((True) ∧ ((¬ ((1000 : Int32) = 0)) ∧ (True)))))))))) (by decide +kernel) rfl rfl (And.intro trivial (And.intro trivial (And.intro trivial (And.intro trivial (And.intro trivial (And.intro (by decide) (And.intro trivial (And.intro trivial (And.intro (by decide) trivial))))))))) ?_
            refine mm_ok_call (cz := mm_cvu) (j := .invokevirtual 2067) (y := 129) (as := [.ref 14, .int a1, .int (a2 / (1000 : Int32)), .int (mm_rem a2 (1000 : Int32))]) (t := []) (by decide +kernel) rfl (fun _ _ h => mm_up (k := 3) (by decide) (x10_take_ok h)) (fun u12 q13 => ?_)
            refine mm_ok_bl (l := [(.aload 0, 1), (.getfield 708, 3), (.iload 3, 1), (.iconst (10), 2), (.idiv, 1), (.iload 3, 1), (.iconst (10), 2), (.irem, 1)]) (pc' := 68) (lo' := [some (.ref 7), some (.int a1), some (.int a2), some (.int a3), some (.int a4), none]) (st' := [.int (mm_rem a3 (10 : Int32)), .int (a3 / (10 : Int32)), .ref 14]) (q' := q13) (P := (True) ∧ ((True) ∧ ((True) ∧ ((True) ∧ ((¬ ((10 : Int32) = 0)) ∧ ((True) ∧ ((True) ∧ ((¬ ((10 : Int32) = 0)) ∧ (True))))))))) (by decide +kernel) rfl rfl (And.intro trivial (And.intro trivial (And.intro trivial (And.intro trivial (And.intro (by decide) (And.intro trivial (And.intro trivial (And.intro (by decide) trivial)))))))) ?_
            refine mm_ok_call (cz := mm_cvi) (j := .invokevirtual 2114) (y := 132) (as := [.ref 14, .int (a3 / (10 : Int32)), .int (mm_rem a3 (10 : Int32))]) (t := []) (by decide +kernel) rfl (fun _ _ h => mm_up (k := 3) (by decide) (x10_landing_ok h)) (fun r14 q15 => ?_)
            refine mm_ok_bl (l := [(.istore 5, 2), (.iload 4, 2)]) (pc' := 75) (lo' := [some (.ref 7), some (.int a1), some (.int a2), some (.int a3), some (.int a4), some (.int r14)]) (st' := [.int a4]) (q' := q15) (P := (True) ∧ ((True) ∧ (True))) (by decide +kernel) rfl rfl (And.intro trivial (And.intro trivial trivial)) ?_
            refine mm_ok_ifCond_ne (pt := 81) (d := 6) (by decide +kernel) (by decide) (fun k16 => ?_) (fun k16 => ?_)
            · refine mm_ok_bl (l := [(.iload 5, 2)]) (pc' := 80) (lo' := [some (.ref 7), some (.int a1), some (.int a2), some (.int a3), some (.int a4), some (.int r14)]) (st' := [.int r14]) (q' := q15) (P := (True) ∧ (True)) (by decide +kernel) rfl rfl (And.intro trivial trivial) ?_
              exact mm_ok_iret (by decide +kernel)
            · refine mm_ok_bl (l := [(.iload 4, 2), (.iconst (1), 1)]) (pc' := 84) (lo' := [some (.ref 7), some (.int a1), some (.int a2), some (.int a3), some (.int a4), some (.int r14)]) (st' := [.int (1 : Int32), .int a4]) (q' := q15) (P := (True) ∧ ((True) ∧ (True))) (by decide +kernel) rfl rfl (And.intro trivial (And.intro trivial trivial)) ?_
              refine mm_ok_if_icmp_ne (pt := 99) (d := 15) (by decide +kernel) (by decide) (fun k17 => ?_) (fun k17 => ?_)
              · refine mm_ok_bl (l := [(.aload 0, 1), (.getfield 704, 3), (.iload 5, 2)]) (pc' := 93) (lo' := [some (.ref 7), some (.int a1), some (.int a2), some (.int a3), some (.int a4), some (.int r14)]) (st' := [.int r14, .ref 8]) (q' := q15) (P := (True) ∧ ((True) ∧ ((True) ∧ (True)))) (by decide +kernel) rfl rfl (And.intro trivial (And.intro trivial (And.intro trivial trivial))) ?_
                refine mm_ok_call (cz := mm_cvi) (j := .invokevirtual 977) (y := 61) (as := [.ref 8, .int r14]) (t := []) (by decide +kernel) rfl (fun _ _ h => mm_up (k := 2) (by decide) (x4_stopOf_ok h)) (fun r18 q19 => ?_)
                refine mm_ok_goto (pt := 108) (d := 12) (by decide +kernel) (by decide) ?_
                exact mm_ok_iret (by decide +kernel)
              · refine mm_ok_bl (l := [(.aload 0, 1), (.getfield 704, 3), (.iload 5, 2)]) (pc' := 105) (lo' := [some (.ref 7), some (.int a1), some (.int a2), some (.int a3), some (.int a4), some (.int r14)]) (st' := [.int r14, .ref 8]) (q' := q15) (P := (True) ∧ ((True) ∧ ((True) ∧ (True)))) (by decide +kernel) rfl rfl (And.intro trivial (And.intro trivial (And.intro trivial trivial))) ?_
                refine mm_ok_call (cz := mm_cvi) (j := .invokevirtual 993) (y := 62) (as := [.ref 8, .int r14]) (t := []) (by decide +kernel) rfl (fun _ _ h => mm_up (k := 3) (by decide) (x4_pointsOf_ok h)) (fun r20 q21 => ?_)
                exact mm_ok_iret (by decide +kernel)
          · refine mm_ok_bl (l := [(.iconst (-1), 1)]) (pc' := 37) (lo' := [some (.ref 7), some (.int a1), some (.int a2), some (.int a3), some (.int a4), none]) (st' := [.int (-1 : Int32)]) (q' := q8) (P := (True) ∧ (True)) (by decide +kernel) rfl rfl (And.intro trivial trivial) ?_
            exact mm_ok_iret (by decide +kernel)
def x11_angle (a1 : Int32) (a2 : Int32) (a3 : Int32) (q : mm_Q) : Option (Int32 × mm_Q) := (mm_cl (x4_isSpitter a1 q) (fun r1 q2 => (if r1 = 0 then (some ((-1 : Int32), q2)) else (mm_cl (x11_isStoneAndAhead a2 q2) (fun r4 q5 => (if r4 = 0 then (some ((-1 : Int32), q5)) else (if a3 < 0 then (some ((-1 : Int32), q5)) else (if a3 ≤ (2 : Int32) then (mm_cl (x10_take a1 (a2 / (1000 : Int32)) (mm_rem a2 (1000 : Int32)) q5) (fun u9 q10 => (if a3 = 0 then (mm_cl (x10_bestAngleForStop q10) (fun r12 q13 => (some (r12, q13)))) else (if a3 = (1 : Int32) then (mm_cl (x10_bestAngle (0 : Int32) q10) (fun r15 q16 => (some (r15, q16)))) else (mm_cl (x10_bestAngleAndRun q10) (fun r17 q18 => (some (r17, q18)))))))) else (some ((-1 : Int32), q5))))))))))
set_option maxRecDepth 20000 in
theorem x11_angle_ok {L : Nat} {a1 : Int32} {a2 : Int32} {a3 : Int32} {q : mm_Q} {r : Int32} {q1 : mm_Q} (h : x11_angle a1 a2 a3 q = some (r, q1)) : mm_Runs 6 146 [.ref 7, .int a1, .int a2, .int a3] (mm_wq L q) (mm_cvi r) (mm_wq L q1) := by
  refine mm_runs_of (d := 5) (L := L) rfl (by decide +kernel) rfl rfl (?_ : mm_ok mm_cvi (mm_Runs 5) 11 false cX11_angle (some .int) L 0 [some (.ref 7), some (.int a1), some (.int a2), some (.int a3)] [] q (x11_angle a1 a2 a3 q)) h
  unfold x11_angle
  refine mm_ok_bl (l := [(.aload 0, 1), (.getfield 704, 3), (.iload 1, 1)]) (pc' := 5) (lo' := [some (.ref 7), some (.int a1), some (.int a2), some (.int a3)]) (st' := [.int a1, .ref 8]) (q' := q) (P := (True) ∧ ((True) ∧ ((True) ∧ (True)))) (by decide +kernel) rfl rfl (And.intro trivial (And.intro trivial (And.intro trivial trivial))) ?_
  refine mm_ok_call (cz := mm_cvi) (j := .invokevirtual 817) (y := 51) (as := [.ref 8, .int a1]) (t := []) (by decide +kernel) rfl (fun _ _ h => mm_up (k := 1) (by decide) (x4_isSpitter_ok h)) (fun r1 q2 => ?_)
  refine mm_ok_ifCond_eq (pt := 27) (d := 19) (by decide +kernel) (by decide) (fun k3 => ?_) (fun k3 => ?_)
  · refine mm_ok_bl (l := [(.iconst (-1), 1)]) (pc' := 28) (lo' := [some (.ref 7), some (.int a1), some (.int a2), some (.int a3)]) (st' := [.int (-1 : Int32)]) (q' := q2) (P := (True) ∧ (True)) (by decide +kernel) rfl rfl (And.intro trivial trivial) ?_
    exact mm_ok_iret (by decide +kernel)
  · refine mm_ok_bl (l := [(.iload 2, 1)]) (pc' := 12) (lo' := [some (.ref 7), some (.int a1), some (.int a2), some (.int a3)]) (st' := [.int a2]) (q' := q2) (P := (True) ∧ (True)) (by decide +kernel) rfl rfl (And.intro trivial trivial) ?_
    refine mm_ok_call (cz := mm_cvi) (j := .invokestatic 2865) (y := 179) (as := [.int a2]) (t := []) (by decide +kernel) rfl (fun _ _ h => mm_up (k := 1) (by decide) (x11_isStoneAndAhead_ok h)) (fun r4 q5 => ?_)
    refine mm_ok_ifCond_eq (pt := 27) (d := 12) (by decide +kernel) (by decide) (fun k6 => ?_) (fun k6 => ?_)
    · refine mm_ok_bl (l := [(.iconst (-1), 1)]) (pc' := 28) (lo' := [some (.ref 7), some (.int a1), some (.int a2), some (.int a3)]) (st' := [.int (-1 : Int32)]) (q' := q5) (P := (True) ∧ (True)) (by decide +kernel) rfl rfl (And.intro trivial trivial) ?_
      exact mm_ok_iret (by decide +kernel)
    · refine mm_ok_bl (l := [(.iload 3, 1)]) (pc' := 19) (lo' := [some (.ref 7), some (.int a1), some (.int a2), some (.int a3)]) (st' := [.int a3]) (q' := q5) (P := (True) ∧ (True)) (by decide +kernel) rfl rfl (And.intro trivial trivial) ?_
      refine mm_ok_ifCond_lt (pt := 27) (d := 8) (by decide +kernel) (by decide) (fun k7 => ?_) (fun k7 => ?_)
      · refine mm_ok_bl (l := [(.iconst (-1), 1)]) (pc' := 28) (lo' := [some (.ref 7), some (.int a1), some (.int a2), some (.int a3)]) (st' := [.int (-1 : Int32)]) (q' := q5) (P := (True) ∧ (True)) (by decide +kernel) rfl rfl (And.intro trivial trivial) ?_
        exact mm_ok_iret (by decide +kernel)
      · refine mm_ok_bl (l := [(.iload 3, 1), (.iconst (2), 1)]) (pc' := 24) (lo' := [some (.ref 7), some (.int a1), some (.int a2), some (.int a3)]) (st' := [.int (2 : Int32), .int a3]) (q' := q5) (P := (True) ∧ ((True) ∧ (True))) (by decide +kernel) rfl rfl (And.intro trivial (And.intro trivial trivial)) ?_
        refine mm_ok_if_icmp_le (pt := 29) (d := 5) (by decide +kernel) (by decide) (fun k8 => ?_) (fun k8 => ?_)
        · refine mm_ok_bl (l := [(.aload 0, 1), (.getfield 708, 3), (.iload 1, 1), (.iload 2, 1), (.iconst (1000), 3), (.idiv, 1), (.iload 2, 1), (.iconst (1000), 3), (.irem, 1)]) (pc' := 44) (lo' := [some (.ref 7), some (.int a1), some (.int a2), some (.int a3)]) (st' := [.int (mm_rem a2 (1000 : Int32)), .int (a2 / (1000 : Int32)), .int a1, .ref 14]) (q' := q5) (P := (True) ∧ ((True) ∧ ((True) ∧ ((True) ∧ ((True) ∧ ((¬ ((1000 : Int32) = 0)) ∧ ((True) ∧ ((True) ∧ ((¬ ((1000 : Int32) = 0)) ∧ (True)))))))))) (by decide +kernel) rfl rfl (And.intro trivial (And.intro trivial (And.intro trivial (And.intro trivial (And.intro trivial (And.intro (by decide) (And.intro trivial (And.intro trivial (And.intro (by decide) trivial))))))))) ?_
          refine mm_ok_call (cz := mm_cvu) (j := .invokevirtual 2067) (y := 129) (as := [.ref 14, .int a1, .int (a2 / (1000 : Int32)), .int (mm_rem a2 (1000 : Int32))]) (t := []) (by decide +kernel) rfl (fun _ _ h => mm_up (k := 3) (by decide) (x10_take_ok h)) (fun u9 q10 => ?_)
          refine mm_ok_bl (l := [(.iload 3, 1)]) (pc' := 48) (lo' := [some (.ref 7), some (.int a1), some (.int a2), some (.int a3)]) (st' := [.int a3]) (q' := q10) (P := (True) ∧ (True)) (by decide +kernel) rfl rfl (And.intro trivial trivial) ?_
          refine mm_ok_ifCond_ne (pt := 59) (d := 11) (by decide +kernel) (by decide) (fun k11 => ?_) (fun k11 => ?_)
          · refine mm_ok_bl (l := [(.aload 0, 1), (.getfield 708, 3)]) (pc' := 55) (lo' := [some (.ref 7), some (.int a1), some (.int a2), some (.int a3)]) (st' := [.ref 14]) (q' := q10) (P := (True) ∧ ((True) ∧ (True))) (by decide +kernel) rfl rfl (And.intro trivial (And.intro trivial trivial)) ?_
            refine mm_ok_call (cz := mm_cvi) (j := .invokevirtual 2144) (y := 134) (as := [.ref 14]) (t := []) (by decide +kernel) rfl (fun _ _ h => mm_up (k := 4) (by decide) (x10_bestAngleForStop_ok h)) (fun r12 q13 => ?_)
            exact mm_ok_iret (by decide +kernel)
          · refine mm_ok_bl (l := [(.iload 3, 1), (.iconst (1), 1)]) (pc' := 61) (lo' := [some (.ref 7), some (.int a1), some (.int a2), some (.int a3)]) (st' := [.int (1 : Int32), .int a3]) (q' := q10) (P := (True) ∧ ((True) ∧ (True))) (by decide +kernel) rfl rfl (And.intro trivial (And.intro trivial trivial)) ?_
            refine mm_ok_if_icmp_ne (pt := 75) (d := 14) (by decide +kernel) (by decide) (fun k14 => ?_) (fun k14 => ?_)
            · refine mm_ok_bl (l := [(.aload 0, 1), (.getfield 708, 3), (.iconst (0), 1)]) (pc' := 69) (lo' := [some (.ref 7), some (.int a1), some (.int a2), some (.int a3)]) (st' := [.int (0 : Int32), .ref 14]) (q' := q10) (P := (True) ∧ ((True) ∧ ((True) ∧ (True)))) (by decide +kernel) rfl rfl (And.intro trivial (And.intro trivial (And.intro trivial trivial))) ?_
              refine mm_ok_call (cz := mm_cvi) (j := .invokevirtual 2161) (y := 135) (as := [.ref 14, .int (0 : Int32)]) (t := []) (by decide +kernel) rfl (fun _ _ h => mm_up (k := 4) (by decide) (x10_bestAngle_ok h)) (fun r15 q16 => ?_)
              refine mm_ok_goto (pt := 82) (d := 10) (by decide +kernel) (by decide) ?_
              exact mm_ok_iret (by decide +kernel)
            · refine mm_ok_bl (l := [(.aload 0, 1), (.getfield 708, 3)]) (pc' := 79) (lo' := [some (.ref 7), some (.int a1), some (.int a2), some (.int a3)]) (st' := [.ref 14]) (q' := q10) (P := (True) ∧ ((True) ∧ (True))) (by decide +kernel) rfl rfl (And.intro trivial (And.intro trivial trivial)) ?_
              refine mm_ok_call (cz := mm_cvi) (j := .invokevirtual 2192) (y := 137) (as := [.ref 14]) (t := []) (by decide +kernel) rfl (fun _ _ h => mm_up (k := 5) (by decide) (x10_bestAngleAndRun_ok h)) (fun r17 q18 => ?_)
              exact mm_ok_iret (by decide +kernel)
        · refine mm_ok_bl (l := [(.iconst (-1), 1)]) (pc' := 28) (lo' := [some (.ref 7), some (.int a1), some (.int a2), some (.int a3)]) (st' := [.int (-1 : Int32)]) (q' := q5) (P := (True) ∧ (True)) (by decide +kernel) rfl rfl (And.intro trivial trivial) ?_
          exact mm_ok_iret (by decide +kernel)
