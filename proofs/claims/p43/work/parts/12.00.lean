/-! the words that the methods are written in -/
abbrev mm_fu : Nat := 1000
def mm_ushr (x y : Int32) : Int32 := (x.toUInt32 >>> (y.toUInt32 &&& Int32.toUInt32 31)).toInt32
def mm_rem (x y : Int32) : Int32 := x - x / y * y
def mm_reml (x y : Int64) : Int64 := x - x / y * y
def mm_max (x y : Int32) : Int32 := if x < y then y else x
def mm_mn (x y : Int32) : Int32 := if y < x then y else x
def mm_mnl (x y : Int64) : Int64 := if y < x then y else x
def mm_abs (x : Int32) : Int32 := if 0 ≤ x then x else 0 - x
def mm_nz (x : Int32) : Bool := !decide (x = 0)
def mm_nzl (x : Int64) : Bool := !decide (x = 0)
theorem mm_nz_ok {x : Int32} (h : mm_nz x = true) : ¬ x = 0 := by
  unfold mm_nz at h
  simpa using h
theorem mm_nzl_ok {x : Int64} (h : mm_nzl x = true) : ¬ x = 0 := by
  unfold mm_nzl at h
  simpa using h
theorem mm_ex_up {C1 C2 : mm_Cl} (hC : ∀ y as w r w1, C1 y as w r w1 → C2 y as w r w1) {o : Nat} {ini : Bool} {cc : ByteArray} {rt : Option FieldType} {r : Option Value} {w1 : mm_W} : ∀ (n pc : Nat) (L : mm_L) (st : List Value) (w : mm_W), mm_Ex C1 o ini cc rt n pc L st w r w1 → mm_Ex C2 o ini cc rt n pc L st w r w1
  | 0, _, _, _, _, h => h.elim
  | n + 1, pc, L, st, w, h => by
    obtain ⟨i, len, j, hd, hr, h⟩ := h
    refine ⟨i, len, j, hd, hr, ?_⟩
    rcases h with ⟨P, L', st', w', hj, hP, h⟩ | ⟨pc', st', hb, h⟩ | h | ⟨y, as, t, r', w', hc, hcl, h⟩
    · exact Or.inl ⟨P, L', st', w', hj, hP, mm_ex_up hC n _ _ _ _ h⟩
    · exact Or.inr (Or.inl ⟨pc', st', hb, mm_ex_up hC n _ _ _ _ h⟩)
    · exact Or.inr (Or.inr (Or.inl h))
    · exact Or.inr (Or.inr (Or.inr ⟨y, as, t, r', w', hc, hC _ _ _ _ _ hcl, mm_ex_up hC n _ _ _ _ h⟩))
theorem mm_runs_s : ∀ (d y : Nat) (as : List Value) (w : mm_W) (r : Option Value) (w1 : mm_W), mm_Runs d y as w r w1 → mm_Runs (d + 1) y as w r w1
  | 0, _, _, _, _, _, h => h.elim
  | d + 1, y, as, w, r, w1, h => by
    obtain ⟨h1, h2, n, h3⟩ := h
    exact ⟨h1, h2, n, mm_ex_up (mm_runs_s d) n _ _ _ _ h3⟩
theorem mm_runs_le2 {k y : Nat} {as : List Value} {w : mm_W} {r : Option Value} {w1 : mm_W} (h : mm_Runs k y as w r w1) : ∀ e : Nat, mm_Runs (k + e) y as w r w1
  | 0 => h
  | e + 1 => mm_runs_s (k + e) _ _ _ _ _ (mm_runs_le2 h e)
theorem mm_up {k n y : Nat} {as : List Value} {w : mm_W} {r : Option Value} {w1 : mm_W} (hk : Nat.ble k n = true) (h : mm_Runs k y as w r w1) : mm_Runs n y as w r w1 := by
  have := mm_runs_le2 h (n - k)
  rwa [Nat.add_sub_of_le (Nat.le_of_ble_eq_true hk)] at this
theorem mm_upd {k n d y : Nat} {as : List Value} {w : mm_W} {r : Option Value} {w1 : mm_W} (hk : Nat.ble k n = true) (h : mm_Runs k y as w r w1) : mm_Runs (d + n) y as w r w1 := by
  have := mm_runs_le2 h (d + n - k)
  rwa [Nat.add_sub_of_le (Nat.le_trans (Nat.le_of_ble_eq_true hk) (Nat.le_add_left n d))] at this
theorem mm_nin : ∀ (l : List Int) {x : Int32}, (l.all fun k => decide (-2147483648 ≤ k) && decide (k < 2147483648)) = true → (∀ k ∈ l, ¬ x = Int32.ofInt k) → ∀ k ∈ l, ¬ x.toInt = k
  | l, x, h, hx, k, hk, e => by
    have h1 := List.all_eq_true.mp h k hk
    simp only [Bool.and_eq_true, decide_eq_true_eq] at h1
    exact hx k hk (Int32.toInt_inj.mp (by rw [Int32.toInt_ofInt_of_le (by omega) (by omega)]; exact e))
def mm_shf (d : Int32) : Option Nat := if 0 ≤ d ∧ d < 6 then some (16 + 2 * d.toNatClampNeg) else none
def x1_forgetOldest  (q : mm_Q) : Option (Unit × mm_Q) := (mm_ck (mm_cp (1 : Int32) (0 : Int32) (39 : Int32) 40 40) (mm_lt (mm_ci q 32 32 1 0 39) (fun q2 => (mm_ck (mm_cp (1 : Int32) (0 : Int32) (39 : Int32) 40 40) (mm_lt (mm_ci q2 33 33 1 0 39) (fun q4 => (mm_ck (mm_cp (1 : Int32) (0 : Int32) (39 : Int32) 40 40) (mm_lt (mm_ci q4 34 34 1 0 39) (fun q6 => (mm_lt (mm_si q6 31 3 (39 : Int32)) (fun q7 => (some ((), q7)))))))))))))
set_option maxRecDepth 20000 in
theorem x1_forgetOldest_ok {L : mm_LT} {q : mm_Q} {r : Unit} {q1 : mm_Q} (h : x1_forgetOldest  q = some (r, q1)) : mm_Runs 1 3 [.ref 31] (mm_wq L q) (mm_cvu r) (mm_wq L q1) := by
  refine mm_runs_of (d := 0) (L := L) rfl (by decide +kernel) rfl rfl (?_ : mm_ok mm_cvu (mm_Runs 0) 1 false cX1_forgetOldest none L L 0 [some (.ref 31)] [] q (x1_forgetOldest  q)) h
  unfold x1_forgetOldest
  refine mm_ok_bl (l := [(.aload 0, 1), (.getfield 64, 3), (.iconst (1), 1), (.aload 0, 1), (.getfield 64, 3), (.iconst (0), 1), (.iconst (39), 2)]) (pc' := 12) (lo' := [some (.ref 31)]) (st' := [.int (39 : Int32), .int (0 : Int32), .ref 32, .int (1 : Int32), .ref 32]) (q' := q) (P := (True) ∧ ((True) ∧ ((True) ∧ ((True) ∧ ((True) ∧ ((True) ∧ ((True) ∧ (True)))))))) (by decide +kernel) rfl rfl (And.intro trivial (And.intro trivial (And.intro trivial (And.intro trivial (And.intro trivial (And.intro trivial (And.intro trivial trivial))))))) ?_
  refine mm_ok_ck (fun c1 => ?_)
  refine mm_ok_bl (l := [(.monitorexit, 3)]) (pc' := 15) (lo' := [some (.ref 31)]) (st' := []) (q' := (mm_ci q 32 32 1 0 39)) (P := ((¬ (1 : Int32) < 0 ∧ ¬ (0 : Int32) < 0 ∧ ¬ (39 : Int32) < 0) ∧ (1 : Int32).toNatClampNeg + (39 : Int32).toNatClampNeg ≤ 40 ∧ (0 : Int32).toNatClampNeg + (39 : Int32).toNatClampNeg ≤ 40) ∧ (True)) (by decide +kernel) rfl rfl (And.intro (mm_cp_ok c1) trivial) ?_
  refine mm_ok_lt (fun q2 => ?_)
  refine mm_ok_bl (l := [(.aload 0, 1), (.getfield 65, 3), (.iconst (1), 1), (.aload 0, 1), (.getfield 65, 3), (.iconst (0), 1), (.iconst (39), 2)]) (pc' := 27) (lo' := [some (.ref 31)]) (st' := [.int (39 : Int32), .int (0 : Int32), .ref 33, .int (1 : Int32), .ref 33]) (q' := q2) (P := (True) ∧ ((True) ∧ ((True) ∧ ((True) ∧ ((True) ∧ ((True) ∧ ((True) ∧ (True)))))))) (by decide +kernel) rfl rfl (And.intro trivial (And.intro trivial (And.intro trivial (And.intro trivial (And.intro trivial (And.intro trivial (And.intro trivial trivial))))))) ?_
  refine mm_ok_ck (fun c3 => ?_)
  refine mm_ok_bl (l := [(.monitorexit, 3)]) (pc' := 30) (lo' := [some (.ref 31)]) (st' := []) (q' := (mm_ci q2 33 33 1 0 39)) (P := ((¬ (1 : Int32) < 0 ∧ ¬ (0 : Int32) < 0 ∧ ¬ (39 : Int32) < 0) ∧ (1 : Int32).toNatClampNeg + (39 : Int32).toNatClampNeg ≤ 40 ∧ (0 : Int32).toNatClampNeg + (39 : Int32).toNatClampNeg ≤ 40) ∧ (True)) (by decide +kernel) rfl rfl (And.intro (mm_cp_ok c3) trivial) ?_
  refine mm_ok_lt (fun q4 => ?_)
  refine mm_ok_bl (l := [(.aload 0, 1), (.getfield 66, 3), (.iconst (1), 1), (.aload 0, 1), (.getfield 66, 3), (.iconst (0), 1), (.iconst (39), 2)]) (pc' := 42) (lo' := [some (.ref 31)]) (st' := [.int (39 : Int32), .int (0 : Int32), .ref 34, .int (1 : Int32), .ref 34]) (q' := q4) (P := (True) ∧ ((True) ∧ ((True) ∧ ((True) ∧ ((True) ∧ ((True) ∧ ((True) ∧ (True)))))))) (by decide +kernel) rfl rfl (And.intro trivial (And.intro trivial (And.intro trivial (And.intro trivial (And.intro trivial (And.intro trivial (And.intro trivial trivial))))))) ?_
  refine mm_ok_ck (fun c5 => ?_)
  refine mm_ok_bl (l := [(.monitorexit, 3)]) (pc' := 45) (lo' := [some (.ref 31)]) (st' := []) (q' := (mm_ci q4 34 34 1 0 39)) (P := ((¬ (1 : Int32) < 0 ∧ ¬ (0 : Int32) < 0 ∧ ¬ (39 : Int32) < 0) ∧ (1 : Int32).toNatClampNeg + (39 : Int32).toNatClampNeg ≤ 40 ∧ (0 : Int32).toNatClampNeg + (39 : Int32).toNatClampNeg ≤ 40) ∧ (True)) (by decide +kernel) rfl rfl (And.intro (mm_cp_ok c5) trivial) ?_
  refine mm_ok_lt (fun q6 => ?_)
  refine mm_ok_bl (l := [(.aload 0, 1), (.iconst (39), 2), (.putfield 67, 3)]) (pc' := 51) (lo' := [some (.ref 31)]) (st' := []) (q' := (mm_si q6 31 3 (39 : Int32))) (P := (True) ∧ ((True) ∧ ((True) ∧ (True)))) (by decide +kernel) rfl rfl (And.intro trivial (And.intro trivial (And.intro trivial trivial))) ?_
  refine mm_ok_lt (fun q7 => ?_)
  exact mm_ok_vret (by decide +kernel)
def x1_note_j69  (q : mm_Q) : Option (Unit × mm_Q) := (mm_lt (mm_si q 31 4 (q.1 31 3)) (fun q13 => (some ((), q13))))
set_option maxRecDepth 20000 in
theorem x1_note_j69_ok {L : mm_LT}  (q : mm_Q) : mm_ok mm_cvu (mm_Runs 1) 1 false cX1_note none L L 69 [some (.ref 31), none, none, none] [] q (x1_note_j69  q) := by
  unfold x1_note_j69
  refine mm_ok_bl (l := [(.aload 0, 1), (.aload 0, 1), (.getfield 67, 3), (.putfield 68, 3)]) (pc' := 77) (lo' := [some (.ref 31), none, none, none]) (st' := []) (q' := (mm_si q 31 4 (q.1 31 3))) (P := (True) ∧ ((True) ∧ ((True) ∧ ((True) ∧ (True))))) (by decide +kernel) rfl rfl (And.intro trivial (And.intro trivial (And.intro trivial (And.intro trivial trivial)))) ?_
  refine mm_ok_lt (fun q13 => ?_)
  exact mm_ok_vret (by decide +kernel)
def x1_note_j13 (a1 : Int32) (a2 : Int32) (a3 : Int32) (q : mm_Q) : Option (Unit × mm_Q) := (if (q.1 31 3) < 0 then (x1_note_j69 q) else (if (40 : Int32) ≤ (q.1 31 3) then (x1_note_j69 q) else (mm_ck (mm_inb (q.1 31 3) 40) (mm_lt (mm_si q 32 (q.1 31 3).toNatClampNeg a1) (fun q7 => (mm_ck (mm_inb (q7.1 31 3) 40) (mm_lt (mm_si q7 33 (q7.1 31 3).toNatClampNeg a2) (fun q9 => (mm_ck (mm_inb (q9.1 31 3) 40) (mm_lt (mm_si q9 34 (q9.1 31 3).toNatClampNeg a3) (fun q11 => (mm_lt (mm_si q11 31 3 ((q11.1 31 3) + (1 : Int32))) (fun q12 => (x1_note_j69 q12))))))))))))))
set_option maxRecDepth 20000 in
theorem x1_note_j13_ok {L : mm_LT} (a1 : Int32) (a2 : Int32) (a3 : Int32) (q : mm_Q) : mm_ok mm_cvu (mm_Runs 1) 1 false cX1_note none L L 13 [some (.ref 31), some (.int a1), some (.int a2), some (.int a3)] [] q (x1_note_j13 a1 a2 a3 q) := by
  unfold x1_note_j13
  refine mm_ok_bl (l := [(.aload 0, 1), (.getfield 67, 3)]) (pc' := 17) (lo' := [some (.ref 31), some (.int a1), some (.int a2), some (.int a3)]) (st' := [.int (q.1 31 3)]) (q' := q) (P := (True) ∧ ((True) ∧ (True))) (by decide +kernel) rfl rfl (And.intro trivial (And.intro trivial trivial)) ?_
  refine mm_ok_ifCond_lt (pt := 69) (d := 52) (by decide +kernel) (by decide) (fun k4 => ?_) (fun k4 => ?_)
  · exact mm_ok_sub (lo := [some (.ref 31), none, none, none]) (And.intro rfl trivial) (x1_note_j69_ok  q)
  · refine mm_ok_bl (l := [(.aload 0, 1), (.getfield 67, 3), (.iconst (40), 2)]) (pc' := 26) (lo' := [some (.ref 31), some (.int a1), some (.int a2), some (.int a3)]) (st' := [.int (40 : Int32), .int (q.1 31 3)]) (q' := q) (P := (True) ∧ ((True) ∧ ((True) ∧ (True)))) (by decide +kernel) rfl rfl (And.intro trivial (And.intro trivial (And.intro trivial trivial))) ?_
    refine mm_ok_if_icmp_ge (pt := 69) (d := 43) (by decide +kernel) (by decide) (fun k5 => ?_) (fun k5 => ?_)
    · exact mm_ok_sub (lo := [some (.ref 31), none, none, none]) (And.intro rfl trivial) (x1_note_j69_ok  q)
    · refine mm_ok_bl (l := [(.aload 0, 1), (.getfield 64, 3), (.aload 0, 1), (.getfield 67, 3), (.iload 1, 1)]) (pc' := 38) (lo' := [some (.ref 31), some (.int a1), some (.int a2), some (.int a3)]) (st' := [.int a1, .int (q.1 31 3), .ref 32]) (q' := q) (P := (True) ∧ ((True) ∧ ((True) ∧ ((True) ∧ ((True) ∧ (True)))))) (by decide +kernel) rfl rfl (And.intro trivial (And.intro trivial (And.intro trivial (And.intro trivial (And.intro trivial trivial))))) ?_
      refine mm_ok_ck (fun c6 => ?_)
      refine mm_ok_bl (l := [(.iastore, 1)]) (pc' := 39) (lo' := [some (.ref 31), some (.int a1), some (.int a2), some (.int a3)]) (st' := []) (q' := (mm_si q 32 (q.1 31 3).toNatClampNeg a1)) (P := (mm_ix (q.1 31 3) 40) ∧ (True)) (by decide +kernel) rfl rfl (And.intro (mm_inb_ix c6) trivial) ?_
      refine mm_ok_lt (fun q7 => ?_)
      refine mm_ok_bl (l := [(.aload 0, 1), (.getfield 65, 3), (.aload 0, 1), (.getfield 67, 3), (.iload 2, 1)]) (pc' := 48) (lo' := [some (.ref 31), some (.int a1), some (.int a2), some (.int a3)]) (st' := [.int a2, .int (q7.1 31 3), .ref 33]) (q' := q7) (P := (True) ∧ ((True) ∧ ((True) ∧ ((True) ∧ ((True) ∧ (True)))))) (by decide +kernel) rfl rfl (And.intro trivial (And.intro trivial (And.intro trivial (And.intro trivial (And.intro trivial trivial))))) ?_
      refine mm_ok_ck (fun c8 => ?_)
      refine mm_ok_bl (l := [(.iastore, 1)]) (pc' := 49) (lo' := [some (.ref 31), some (.int a1), some (.int a2), some (.int a3)]) (st' := []) (q' := (mm_si q7 33 (q7.1 31 3).toNatClampNeg a2)) (P := (mm_ix (q7.1 31 3) 40) ∧ (True)) (by decide +kernel) rfl rfl (And.intro (mm_inb_ix c8) trivial) ?_
      refine mm_ok_lt (fun q9 => ?_)
      refine mm_ok_bl (l := [(.aload 0, 1), (.getfield 66, 3), (.aload 0, 1), (.getfield 67, 3), (.iload 3, 1)]) (pc' := 58) (lo' := [some (.ref 31), some (.int a1), some (.int a2), some (.int a3)]) (st' := [.int a3, .int (q9.1 31 3), .ref 34]) (q' := q9) (P := (True) ∧ ((True) ∧ ((True) ∧ ((True) ∧ ((True) ∧ (True)))))) (by decide +kernel) rfl rfl (And.intro trivial (And.intro trivial (And.intro trivial (And.intro trivial (And.intro trivial trivial))))) ?_
      refine mm_ok_ck (fun c10 => ?_)
      refine mm_ok_bl (l := [(.iastore, 1)]) (pc' := 59) (lo' := [some (.ref 31), some (.int a1), some (.int a2), some (.int a3)]) (st' := []) (q' := (mm_si q9 34 (q9.1 31 3).toNatClampNeg a3)) (P := (mm_ix (q9.1 31 3) 40) ∧ (True)) (by decide +kernel) rfl rfl (And.intro (mm_inb_ix c10) trivial) ?_
      refine mm_ok_lt (fun q11 => ?_)
      refine mm_ok_bl (l := [(.aload 0, 1), (.dup, 1), (.getfield 67, 3), (.iconst (1), 1), (.iadd, 1), (.putfield 67, 3)]) (pc' := 69) (lo' := [some (.ref 31), some (.int a1), some (.int a2), some (.int a3)]) (st' := []) (q' := (mm_si q11 31 3 ((q11.1 31 3) + (1 : Int32)))) (P := (True) ∧ ((True) ∧ ((True) ∧ ((True) ∧ ((True) ∧ ((True) ∧ (True))))))) (by decide +kernel) rfl rfl (And.intro trivial (And.intro trivial (And.intro trivial (And.intro trivial (And.intro trivial (And.intro trivial trivial)))))) ?_
      refine mm_ok_lt (fun q12 => ?_)
      exact mm_ok_sub (lo := [some (.ref 31), none, none, none]) (And.intro rfl trivial) (x1_note_j69_ok  q12)
def x1_note (a1 : Int32) (a2 : Int32) (a3 : Int32) (q : mm_Q) : Option (Unit × mm_Q) := (if (q.1 31 3) < (40 : Int32) then (x1_note_j13 a1 a2 a3 q) else (mm_cl (x1_forgetOldest q) (fun u2 q3 => (x1_note_j13 a1 a2 a3 q3))))
set_option maxRecDepth 20000 in
theorem x1_note_ok {L : mm_LT} {a1 : Int32} {a2 : Int32} {a3 : Int32} {q : mm_Q} {r : Unit} {q1 : mm_Q} (h : x1_note a1 a2 a3 q = some (r, q1)) : mm_Runs 2 2 [.ref 31, .int a1, .int a2, .int a3] (mm_wq L q) (mm_cvu r) (mm_wq L q1) := by
  refine mm_runs_of (d := 1) (L := L) rfl (by decide +kernel) rfl rfl (?_ : mm_ok mm_cvu (mm_Runs 1) 1 false cX1_note none L L 0 [some (.ref 31), some (.int a1), some (.int a2), some (.int a3)] [] q (x1_note a1 a2 a3 q)) h
  unfold x1_note
  refine mm_ok_bl (l := [(.aload 0, 1), (.getfield 67, 3), (.iconst (40), 2)]) (pc' := 6) (lo' := [some (.ref 31), some (.int a1), some (.int a2), some (.int a3)]) (st' := [.int (40 : Int32), .int (q.1 31 3)]) (q' := q) (P := (True) ∧ ((True) ∧ ((True) ∧ (True)))) (by decide +kernel) rfl rfl (And.intro trivial (And.intro trivial (And.intro trivial trivial))) ?_
  refine mm_ok_if_icmp_lt (pt := 13) (d := 7) (by decide +kernel) (by decide) (fun k1 => ?_) (fun k1 => ?_)
  · exact mm_ok_sub (lo := [some (.ref 31), some (.int a1), some (.int a2), some (.int a3)]) (And.intro rfl (And.intro rfl (And.intro rfl (And.intro rfl trivial)))) (x1_note_j13_ok a1 a2 a3 q)
  · refine mm_ok_bl (l := [(.aload 0, 1)]) (pc' := 10) (lo' := [some (.ref 31), some (.int a1), some (.int a2), some (.int a3)]) (st' := [.ref 31]) (q' := q) (P := (True) ∧ (True)) (by decide +kernel) rfl rfl (And.intro trivial trivial) ?_
    refine mm_ok_call (cz := mm_cvu) (j := .invokevirtual 48) (y := 3) (as := [.ref 31]) (t := []) (by decide +kernel) rfl (fun _ _ h => mm_up (k := 1) (by decide) (x1_forgetOldest_ok h)) (fun u2 q3 => ?_)
    exact mm_ok_sub (lo := [some (.ref 31), some (.int a1), some (.int a2), some (.int a3)]) (And.intro rfl (And.intro rfl (And.intro rfl (And.intro rfl trivial)))) (x1_note_j13_ok a1 a2 a3 q3)
def x4_isWithin (a1 : Int32) (b2 : Int64) (q : mm_Q) : Option (Int32 × mm_Q) := (if a1 < 0 then (some ((0 : Int32), q)) else (if (12 : Int32) < a1 then (some ((0 : Int32), q)) else (mm_ck (mm_inb a1 13) (if (lg_cmp b2 ((q.1 2 a1.toNatClampNeg).toInt64)) < 0 then (some ((0 : Int32), q)) else (mm_ck (mm_inb a1 13) (if 0 < (lg_cmp b2 ((q.1 3 a1.toNatClampNeg).toInt64)) then (some ((0 : Int32), q)) else (some ((1 : Int32), q))))))))
set_option maxRecDepth 20000 in
theorem x4_isWithin_ok {L : mm_LT} {a1 : Int32} {b2 : Int64} {q : mm_Q} {r : Int32} {q1 : mm_Q} (h : x4_isWithin a1 b2 q = some (r, q1)) : mm_Runs 1 7 [.int a1, .long b2] (mm_wq L q) (mm_cvi r) (mm_wq L q1) := by
  refine mm_runs_of (d := 0) (L := L) rfl (by decide +kernel) rfl rfl (?_ : mm_ok mm_cvi (mm_Runs 0) 4 false cX4_isWithin (some .boolean) L L 0 [some (.int a1), some (.long b2), none] [] q (x4_isWithin a1 b2 q)) h
  unfold x4_isWithin
  refine mm_ok_bl (l := [(.iload 0, 1)]) (pc' := 1) (lo' := [some (.int a1), some (.long b2), none]) (st' := [.int a1]) (q' := q) (P := (True) ∧ (True)) (by decide +kernel) rfl rfl (And.intro trivial trivial) ?_
  refine mm_ok_ifCond_lt (pt := 36) (d := 35) (by decide +kernel) (by decide) (fun k1 => ?_) (fun k1 => ?_)
  · refine mm_ok_bl (l := [(.iconst (0), 1)]) (pc' := 37) (lo' := [some (.int a1), some (.long b2), none]) (st' := [.int (0 : Int32)]) (q' := q) (P := (True) ∧ (True)) (by decide +kernel) rfl rfl (And.intro trivial trivial) ?_
    exact mm_ok_zret (by decide +kernel) (by decide)
  · refine mm_ok_bl (l := [(.iload 0, 1), (.iconst (12), 2)]) (pc' := 7) (lo' := [some (.int a1), some (.long b2), none]) (st' := [.int (12 : Int32), .int a1]) (q' := q) (P := (True) ∧ ((True) ∧ (True))) (by decide +kernel) rfl rfl (And.intro trivial (And.intro trivial trivial)) ?_
    refine mm_ok_if_icmp_gt (pt := 36) (d := 29) (by decide +kernel) (by decide) (fun k2 => ?_) (fun k2 => ?_)
    · refine mm_ok_bl (l := [(.iconst (0), 1)]) (pc' := 37) (lo' := [some (.int a1), some (.long b2), none]) (st' := [.int (0 : Int32)]) (q' := q) (P := (True) ∧ (True)) (by decide +kernel) rfl rfl (And.intro trivial trivial) ?_
      exact mm_ok_zret (by decide +kernel) (by decide)
    · refine mm_ok_bl (l := [(.lload 1, 1), (.getstatic 2, 3), (.iload 0, 1)]) (pc' := 15) (lo' := [some (.int a1), some (.long b2), none]) (st' := [.int a1, .ref 2, .long b2]) (q' := q) (P := (True) ∧ ((True) ∧ ((True) ∧ (True)))) (by decide +kernel) rfl rfl (And.intro trivial (And.intro trivial (And.intro trivial trivial))) ?_
      refine mm_ok_ck (fun c3 => ?_)
      refine mm_ok_bl (l := [(.iaload, 1), (.i2l, 1), (.lcmp, 1)]) (pc' := 18) (lo' := [some (.int a1), some (.long b2), none]) (st' := [.int (lg_cmp b2 ((q.1 2 a1.toNatClampNeg).toInt64))]) (q' := q) (P := (mm_ix a1 13) ∧ ((True) ∧ ((True) ∧ (True)))) (by decide +kernel) rfl rfl (And.intro (mm_inb_ix c3) (And.intro trivial (And.intro trivial trivial))) ?_
      refine mm_ok_ifCond_lt (pt := 36) (d := 18) (by decide +kernel) (by decide) (fun k4 => ?_) (fun k4 => ?_)
      · refine mm_ok_bl (l := [(.iconst (0), 1)]) (pc' := 37) (lo' := [some (.int a1), some (.long b2), none]) (st' := [.int (0 : Int32)]) (q' := q) (P := (True) ∧ (True)) (by decide +kernel) rfl rfl (And.intro trivial trivial) ?_
        exact mm_ok_zret (by decide +kernel) (by decide)
      · refine mm_ok_bl (l := [(.lload 1, 1), (.getstatic 3, 3), (.iload 0, 1)]) (pc' := 26) (lo' := [some (.int a1), some (.long b2), none]) (st' := [.int a1, .ref 3, .long b2]) (q' := q) (P := (True) ∧ ((True) ∧ ((True) ∧ (True)))) (by decide +kernel) rfl rfl (And.intro trivial (And.intro trivial (And.intro trivial trivial))) ?_
        refine mm_ok_ck (fun c5 => ?_)
        refine mm_ok_bl (l := [(.iaload, 1), (.i2l, 1), (.lcmp, 1)]) (pc' := 29) (lo' := [some (.int a1), some (.long b2), none]) (st' := [.int (lg_cmp b2 ((q.1 3 a1.toNatClampNeg).toInt64))]) (q' := q) (P := (mm_ix a1 13) ∧ ((True) ∧ ((True) ∧ (True)))) (by decide +kernel) rfl rfl (And.intro (mm_inb_ix c5) (And.intro trivial (And.intro trivial trivial))) ?_
        refine mm_ok_ifCond_gt (pt := 36) (d := 7) (by decide +kernel) (by decide) (fun k6 => ?_) (fun k6 => ?_)
        · refine mm_ok_bl (l := [(.iconst (0), 1)]) (pc' := 37) (lo' := [some (.int a1), some (.long b2), none]) (st' := [.int (0 : Int32)]) (q' := q) (P := (True) ∧ (True)) (by decide +kernel) rfl rfl (And.intro trivial trivial) ?_
          exact mm_ok_zret (by decide +kernel) (by decide)
        · refine mm_ok_bl (l := [(.iconst (1), 1)]) (pc' := 33) (lo' := [some (.int a1), some (.long b2), none]) (st' := [.int (1 : Int32)]) (q' := q) (P := (True) ∧ (True)) (by decide +kernel) rfl rfl (And.intro trivial trivial) ?_
          refine mm_ok_goto (pt := 37) (d := 4) (by decide +kernel) (by decide) ?_
          exact mm_ok_zret (by decide +kernel) (by decide)
def x4_isSpitter (a1 : Int32) (q : mm_Q) : Option (Int32 × mm_Q) := (if a1 < 0 then (some ((0 : Int32), q)) else (if (q.1 8 1) ≤ a1 then (some ((0 : Int32), q)) else (some ((1 : Int32), q))))
set_option maxRecDepth 20000 in
theorem x4_isSpitter_ok {L : mm_LT} {a1 : Int32} {q : mm_Q} {r : Int32} {q1 : mm_Q} (h : x4_isSpitter a1 q = some (r, q1)) : mm_Runs 1 8 [.ref 8, .int a1] (mm_wq L q) (mm_cvi r) (mm_wq L q1) := by
  refine mm_runs_of (d := 0) (L := L) rfl (by decide +kernel) rfl rfl (?_ : mm_ok mm_cvi (mm_Runs 0) 4 false cX4_isSpitter (some .boolean) L L 0 [some (.ref 8), some (.int a1)] [] q (x4_isSpitter a1 q)) h
  unfold x4_isSpitter
  refine mm_ok_bl (l := [(.iload 1, 1)]) (pc' := 1) (lo' := [some (.ref 8), some (.int a1)]) (st' := [.int a1]) (q' := q) (P := (True) ∧ (True)) (by decide +kernel) rfl rfl (And.intro trivial trivial) ?_
  refine mm_ok_ifCond_lt (pt := 16) (d := 15) (by decide +kernel) (by decide) (fun k1 => ?_) (fun k1 => ?_)
  · refine mm_ok_bl (l := [(.iconst (0), 1)]) (pc' := 17) (lo' := [some (.ref 8), some (.int a1)]) (st' := [.int (0 : Int32)]) (q' := q) (P := (True) ∧ (True)) (by decide +kernel) rfl rfl (And.intro trivial trivial) ?_
    exact mm_ok_zret (by decide +kernel) (by decide)
  · refine mm_ok_bl (l := [(.iload 1, 1), (.aload 0, 1), (.getfield 257, 3)]) (pc' := 9) (lo' := [some (.ref 8), some (.int a1)]) (st' := [.int (q.1 8 1), .int a1]) (q' := q) (P := (True) ∧ ((True) ∧ ((True) ∧ (True)))) (by decide +kernel) rfl rfl (And.intro trivial (And.intro trivial (And.intro trivial trivial))) ?_
    refine mm_ok_if_icmp_ge (pt := 16) (d := 7) (by decide +kernel) (by decide) (fun k2 => ?_) (fun k2 => ?_)
    · refine mm_ok_bl (l := [(.iconst (0), 1)]) (pc' := 17) (lo' := [some (.ref 8), some (.int a1)]) (st' := [.int (0 : Int32)]) (q' := q) (P := (True) ∧ (True)) (by decide +kernel) rfl rfl (And.intro trivial trivial) ?_
      exact mm_ok_zret (by decide +kernel) (by decide)
    · refine mm_ok_bl (l := [(.iconst (1), 1)]) (pc' := 13) (lo' := [some (.ref 8), some (.int a1)]) (st' := [.int (1 : Int32)]) (q' := q) (P := (True) ∧ (True)) (by decide +kernel) rfl rfl (And.intro trivial trivial) ?_
      refine mm_ok_goto (pt := 17) (d := 4) (by decide +kernel) (by decide) ?_
      exact mm_ok_zret (by decide +kernel) (by decide)
def x4_size  (q : mm_Q) : Option (Int32 × mm_Q) := (some (q.1 8 1, q))
set_option maxRecDepth 20000 in
theorem x4_size_ok {L : mm_LT} {q : mm_Q} {r : Int32} {q1 : mm_Q} (h : x4_size  q = some (r, q1)) : mm_Runs 1 9 [.ref 8] (mm_wq L q) (mm_cvi r) (mm_wq L q1) := by
  refine mm_runs_of (d := 0) (L := L) rfl (by decide +kernel) rfl rfl (?_ : mm_ok mm_cvi (mm_Runs 0) 4 false cX4_size (some .int) L L 0 [some (.ref 8)] [] q (x4_size  q)) h
  unfold x4_size
  refine mm_ok_bl (l := [(.aload 0, 1), (.getfield 257, 3)]) (pc' := 4) (lo' := [some (.ref 8)]) (st' := [.int (q.1 8 1)]) (q' := q) (P := (True) ∧ ((True) ∧ (True))) (by decide +kernel) rfl rfl (And.intro trivial (And.intro trivial trivial)) ?_
  exact mm_ok_iret (by decide +kernel)
def x4_isFull  (q : mm_Q) : Option (Int32 × mm_Q) := (if (q.1 8 1) < (6 : Int32) then (some ((0 : Int32), q)) else (some ((1 : Int32), q)))
set_option maxRecDepth 20000 in
theorem x4_isFull_ok {L : mm_LT} {q : mm_Q} {r : Int32} {q1 : mm_Q} (h : x4_isFull  q = some (r, q1)) : mm_Runs 1 10 [.ref 8] (mm_wq L q) (mm_cvi r) (mm_wq L q1) := by
  refine mm_runs_of (d := 0) (L := L) rfl (by decide +kernel) rfl rfl (?_ : mm_ok mm_cvi (mm_Runs 0) 4 false cX4_isFull (some .boolean) L L 0 [some (.ref 8)] [] q (x4_isFull  q)) h
  unfold x4_isFull
  refine mm_ok_bl (l := [(.aload 0, 1), (.getfield 257, 3), (.iconst (6), 2)]) (pc' := 6) (lo' := [some (.ref 8)]) (st' := [.int (6 : Int32), .int (q.1 8 1)]) (q' := q) (P := (True) ∧ ((True) ∧ ((True) ∧ (True)))) (by decide +kernel) rfl rfl (And.intro trivial (And.intro trivial (And.intro trivial trivial))) ?_
  refine mm_ok_if_icmp_lt (pt := 13) (d := 7) (by decide +kernel) (by decide) (fun k1 => ?_) (fun k1 => ?_)
  · refine mm_ok_bl (l := [(.iconst (0), 1)]) (pc' := 14) (lo' := [some (.ref 8)]) (st' := [.int (0 : Int32)]) (q' := q) (P := (True) ∧ (True)) (by decide +kernel) rfl rfl (And.intro trivial trivial) ?_
    exact mm_ok_zret (by decide +kernel) (by decide)
  · refine mm_ok_bl (l := [(.iconst (1), 1)]) (pc' := 10) (lo' := [some (.ref 8)]) (st' := [.int (1 : Int32)]) (q' := q) (P := (True) ∧ (True)) (by decide +kernel) rfl rfl (And.intro trivial trivial) ?_
    refine mm_ok_goto (pt := 14) (d := 4) (by decide +kernel) (by decide) ?_
    exact mm_ok_zret (by decide +kernel) (by decide)
def x4_write (a1 : Int32) (a2 : Int32) (q : mm_Q) : Option (Unit × mm_Q) := (if a1 < 0 then (some ((), q)) else (if (54 : Int32) ≤ a1 then (some ((), q)) else (mm_ck (mm_inb a1 54) (mm_lt (mm_si q 9 a1.toNatClampNeg a2) (fun q4 => (some ((), q4)))))))
set_option maxRecDepth 20000 in
theorem x4_write_ok {L : mm_LT} {a1 : Int32} {a2 : Int32} {q : mm_Q} {r : Unit} {q1 : mm_Q} (h : x4_write a1 a2 q = some (r, q1)) : mm_Runs 1 14 [.ref 8, .int a1, .int a2] (mm_wq L q) (mm_cvu r) (mm_wq L q1) := by
  refine mm_runs_of (d := 0) (L := L) rfl (by decide +kernel) rfl rfl (?_ : mm_ok mm_cvu (mm_Runs 0) 4 false cX4_write none L L 0 [some (.ref 8), some (.int a1), some (.int a2)] [] q (x4_write a1 a2 q)) h
  unfold x4_write
  refine mm_ok_bl (l := [(.iload 1, 1)]) (pc' := 1) (lo' := [some (.ref 8), some (.int a1), some (.int a2)]) (st' := [.int a1]) (q' := q) (P := (True) ∧ (True)) (by decide +kernel) rfl rfl (And.intro trivial trivial) ?_
  refine mm_ok_ifCond_lt (pt := 20) (d := 19) (by decide +kernel) (by decide) (fun k1 => ?_) (fun k1 => ?_)
  · exact mm_ok_vret (by decide +kernel)
  · refine mm_ok_bl (l := [(.iload 1, 1), (.aload 0, 1), (.getfield 256, 3), (.arraylength, 1)]) (pc' := 10) (lo' := [some (.ref 8), some (.int a1), some (.int a2)]) (st' := [.int (54 : Int32), .int a1]) (q' := q) (P := (True) ∧ ((True) ∧ ((True) ∧ ((True) ∧ (True))))) (by decide +kernel) rfl rfl (And.intro trivial (And.intro trivial (And.intro trivial (And.intro trivial trivial)))) ?_
    refine mm_ok_if_icmp_ge (pt := 20) (d := 10) (by decide +kernel) (by decide) (fun k2 => ?_) (fun k2 => ?_)
    · exact mm_ok_vret (by decide +kernel)
    · refine mm_ok_bl (l := [(.aload 0, 1), (.getfield 256, 3), (.iload 1, 1), (.iload 2, 1)]) (pc' := 19) (lo' := [some (.ref 8), some (.int a1), some (.int a2)]) (st' := [.int a2, .int a1, .ref 9]) (q' := q) (P := (True) ∧ ((True) ∧ ((True) ∧ ((True) ∧ (True))))) (by decide +kernel) rfl rfl (And.intro trivial (And.intro trivial (And.intro trivial (And.intro trivial trivial)))) ?_
      refine mm_ok_ck (fun c3 => ?_)
      refine mm_ok_bl (l := [(.iastore, 1)]) (pc' := 20) (lo' := [some (.ref 8), some (.int a1), some (.int a2)]) (st' := []) (q' := (mm_si q 9 a1.toNatClampNeg a2)) (P := (mm_ix a1 54) ∧ (True)) (by decide +kernel) rfl rfl (And.intro (mm_inb_ix c3) trivial) ?_
      refine mm_ok_lt (fun q4 => ?_)
      exact mm_ok_vret (by decide +kernel)
def x4_welcome (a1 : Int32) (a2 : Int32) (a3 : Int32) (q : mm_Q) : Option (Int32 × mm_Q) := (mm_lt (mm_si q 8 1 ((q.1 8 1) + (1 : Int32))) (fun q1 => (mm_cl (x4_write ((0 : Int32) + (q.1 8 1)) a1 q1) (fun u2 q3 => (mm_cl (x4_write ((6 : Int32) + (q.1 8 1)) a2 q3) (fun u4 q5 => (mm_cl (x4_write ((12 : Int32) + (q.1 8 1)) a3 q5) (fun u6 q7 => (mm_cl (x4_write ((18 : Int32) + (q.1 8 1)) (q7.1 1 3) q7) (fun u8 q9 => (mm_cl (x4_write ((24 : Int32) + (q.1 8 1)) (q9.1 1 4) q9) (fun u10 q11 => (some (q.1 8 1, q11))))))))))))))
set_option maxRecDepth 20000 in
theorem x4_welcome_ok {L : mm_LT} {a1 : Int32} {a2 : Int32} {a3 : Int32} {q : mm_Q} {r : Int32} {q1 : mm_Q} (h : x4_welcome a1 a2 a3 q = some (r, q1)) : mm_Runs 2 11 [.ref 8, .int a1, .int a2, .int a3] (mm_wq L q) (mm_cvi r) (mm_wq L q1) := by
  refine mm_runs_of (d := 1) (L := L) rfl (by decide +kernel) rfl rfl (?_ : mm_ok mm_cvi (mm_Runs 1) 4 false cX4_welcome (some .int) L L 0 [some (.ref 8), some (.int a1), some (.int a2), some (.int a3), none] [] q (x4_welcome a1 a2 a3 q)) h
  unfold x4_welcome
  refine mm_ok_bl (l := [(.aload 0, 1), (.getfield 257, 3), (.istore 4, 2), (.aload 0, 1), (.dup, 1), (.getfield 257, 3), (.iconst (1), 1), (.iadd, 1), (.putfield 257, 3)]) (pc' := 16) (lo' := [some (.ref 8), some (.int a1), some (.int a2), some (.int a3), some (.int (q.1 8 1))]) (st' := []) (q' := (mm_si q 8 1 ((q.1 8 1) + (1 : Int32)))) (P := (True) ∧ ((True) ∧ ((True) ∧ ((True) ∧ ((True) ∧ ((True) ∧ ((True) ∧ ((True) ∧ ((True) ∧ (True)))))))))) (by decide +kernel) rfl rfl (And.intro trivial (And.intro trivial (And.intro trivial (And.intro trivial (And.intro trivial (And.intro trivial (And.intro trivial (And.intro trivial (And.intro trivial trivial))))))))) ?_
  refine mm_ok_lt (fun q1 => ?_)
  refine mm_ok_bl (l := [(.aload 0, 1), (.iconst (0), 1), (.iload 4, 2), (.iadd, 1), (.iload 1, 1)]) (pc' := 22) (lo' := [some (.ref 8), some (.int a1), some (.int a2), some (.int a3), some (.int (q.1 8 1))]) (st' := [.int a1, .int ((0 : Int32) + (q.1 8 1)), .ref 8]) (q' := q1) (P := (True) ∧ ((True) ∧ ((True) ∧ ((True) ∧ ((True) ∧ (True)))))) (by decide +kernel) rfl rfl (And.intro trivial (And.intro trivial (And.intro trivial (And.intro trivial (And.intro trivial trivial))))) ?_
  refine mm_ok_call (cz := mm_cvu) (j := .invokevirtual 226) (y := 14) (as := [.ref 8, .int ((0 : Int32) + (q.1 8 1)), .int a1]) (t := []) (by decide +kernel) rfl (fun _ _ h => mm_up (k := 1) (by decide) (x4_write_ok h)) (fun u2 q3 => ?_)
  refine mm_ok_bl (l := [(.aload 0, 1), (.iconst (6), 2), (.iload 4, 2), (.iadd, 1), (.iload 2, 1)]) (pc' := 32) (lo' := [some (.ref 8), some (.int a1), some (.int a2), some (.int a3), some (.int (q.1 8 1))]) (st' := [.int a2, .int ((6 : Int32) + (q.1 8 1)), .ref 8]) (q' := q3) (P := (True) ∧ ((True) ∧ ((True) ∧ ((True) ∧ ((True) ∧ (True)))))) (by decide +kernel) rfl rfl (And.intro trivial (And.intro trivial (And.intro trivial (And.intro trivial (And.intro trivial trivial))))) ?_
  refine mm_ok_call (cz := mm_cvu) (j := .invokevirtual 226) (y := 14) (as := [.ref 8, .int ((6 : Int32) + (q.1 8 1)), .int a2]) (t := []) (by decide +kernel) rfl (fun _ _ h => mm_up (k := 1) (by decide) (x4_write_ok h)) (fun u4 q5 => ?_)
  refine mm_ok_bl (l := [(.aload 0, 1), (.iconst (12), 2), (.iload 4, 2), (.iadd, 1), (.iload 3, 1)]) (pc' := 42) (lo' := [some (.ref 8), some (.int a1), some (.int a2), some (.int a3), some (.int (q.1 8 1))]) (st' := [.int a3, .int ((12 : Int32) + (q.1 8 1)), .ref 8]) (q' := q5) (P := (True) ∧ ((True) ∧ ((True) ∧ ((True) ∧ ((True) ∧ (True)))))) (by decide +kernel) rfl rfl (And.intro trivial (And.intro trivial (And.intro trivial (And.intro trivial (And.intro trivial trivial))))) ?_
  refine mm_ok_call (cz := mm_cvu) (j := .invokevirtual 226) (y := 14) (as := [.ref 8, .int ((12 : Int32) + (q.1 8 1)), .int a3]) (t := []) (by decide +kernel) rfl (fun _ _ h => mm_up (k := 1) (by decide) (x4_write_ok h)) (fun u6 q7 => ?_)
  refine mm_ok_bl (l := [(.aload 0, 1), (.iconst (18), 2), (.iload 4, 2), (.iadd, 1), (.getstatic 1, 3), (.iconst (3), 1), (.iaload, 1)]) (pc' := 56) (lo' := [some (.ref 8), some (.int a1), some (.int a2), some (.int a3), some (.int (q.1 8 1))]) (st' := [.int (q7.1 1 3), .int ((18 : Int32) + (q.1 8 1)), .ref 8]) (q' := q7) (P := (True) ∧ ((True) ∧ ((True) ∧ ((True) ∧ ((True) ∧ ((True) ∧ ((mm_ix (3 : Int32) 13) ∧ (True)))))))) (by decide +kernel) rfl rfl (And.intro trivial (And.intro trivial (And.intro trivial (And.intro trivial (And.intro trivial (And.intro trivial (And.intro (mm_inb_ix (by decide)) trivial))))))) ?_
  refine mm_ok_call (cz := mm_cvu) (j := .invokevirtual 226) (y := 14) (as := [.ref 8, .int ((18 : Int32) + (q.1 8 1)), .int (q7.1 1 3)]) (t := []) (by decide +kernel) rfl (fun _ _ h => mm_up (k := 1) (by decide) (x4_write_ok h)) (fun u8 q9 => ?_)
  refine mm_ok_bl (l := [(.aload 0, 1), (.iconst (24), 2), (.iload 4, 2), (.iadd, 1), (.getstatic 1, 3), (.iconst (4), 1), (.iaload, 1)]) (pc' := 70) (lo' := [some (.ref 8), some (.int a1), some (.int a2), some (.int a3), some (.int (q.1 8 1))]) (st' := [.int (q9.1 1 4), .int ((24 : Int32) + (q.1 8 1)), .ref 8]) (q' := q9) (P := (True) ∧ ((True) ∧ ((True) ∧ ((True) ∧ ((True) ∧ ((True) ∧ ((mm_ix (4 : Int32) 13) ∧ (True)))))))) (by decide +kernel) rfl rfl (And.intro trivial (And.intro trivial (And.intro trivial (And.intro trivial (And.intro trivial (And.intro trivial (And.intro (mm_inb_ix (by decide)) trivial))))))) ?_
  refine mm_ok_call (cz := mm_cvu) (j := .invokevirtual 226) (y := 14) (as := [.ref 8, .int ((24 : Int32) + (q.1 8 1)), .int (q9.1 1 4)]) (t := []) (by decide +kernel) rfl (fun _ _ h => mm_up (k := 1) (by decide) (x4_write_ok h)) (fun u10 q11 => ?_)
  refine mm_ok_bl (l := [(.iload 4, 2)]) (pc' := 75) (lo' := [some (.ref 8), some (.int a1), some (.int a2), some (.int a3), some (.int (q.1 8 1))]) (st' := [.int (q.1 8 1)]) (q' := q11) (P := (True) ∧ (True)) (by decide +kernel) rfl rfl (And.intro trivial trivial) ?_
  exact mm_ok_iret (by decide +kernel)
def x4_cellOf (a1 : Int32) (a2 : Int32) (q : mm_Q) : Option (Int32 × mm_Q) := (if a2 < 0 then (some ((-1 : Int32), q)) else (if a2 ≤ (12 : Int32) then (if (5 : Int32) ≤ a2 then (if (7 : Int32) ≤ a2 then (if a1 = 0 then (some (((48 : Int32) + a2) - (7 : Int32), q)) else (some ((-1 : Int32), q))) else (if a1 < 0 then (some ((-1 : Int32), q)) else (if (9 : Int32) ≤ a1 then (some ((-1 : Int32), q)) else (some (((30 : Int32) + ((a2 - (5 : Int32)) * (9 : Int32))) + a1, q))))) else (if a1 < 0 then (some ((-1 : Int32), q)) else (if (q.1 8 1) ≤ a1 then (some ((-1 : Int32), q)) else (some ((a2 * (6 : Int32)) + a1, q))))) else (some ((-1 : Int32), q))))
set_option maxRecDepth 20000 in
theorem x4_cellOf_ok {L : mm_LT} {a1 : Int32} {a2 : Int32} {q : mm_Q} {r : Int32} {q1 : mm_Q} (h : x4_cellOf a1 a2 q = some (r, q1)) : mm_Runs 1 12 [.ref 8, .int a1, .int a2] (mm_wq L q) (mm_cvi r) (mm_wq L q1) := by
  refine mm_runs_of (d := 0) (L := L) rfl (by decide +kernel) rfl rfl (?_ : mm_ok mm_cvi (mm_Runs 0) 4 false cX4_cellOf (some .int) L L 0 [some (.ref 8), some (.int a1), some (.int a2)] [] q (x4_cellOf a1 a2 q)) h
  unfold x4_cellOf
  refine mm_ok_bl (l := [(.iload 2, 1)]) (pc' := 1) (lo' := [some (.ref 8), some (.int a1), some (.int a2)]) (st' := [.int a2]) (q' := q) (P := (True) ∧ (True)) (by decide +kernel) rfl rfl (And.intro trivial trivial) ?_
  refine mm_ok_ifCond_lt (pt := 10) (d := 9) (by decide +kernel) (by decide) (fun k1 => ?_) (fun k1 => ?_)
  · refine mm_ok_bl (l := [(.iconst (-1), 1)]) (pc' := 11) (lo' := [some (.ref 8), some (.int a1), some (.int a2)]) (st' := [.int (-1 : Int32)]) (q' := q) (P := (True) ∧ (True)) (by decide +kernel) rfl rfl (And.intro trivial trivial) ?_
    exact mm_ok_iret (by decide +kernel)
  · refine mm_ok_bl (l := [(.iload 2, 1), (.iconst (12), 2)]) (pc' := 7) (lo' := [some (.ref 8), some (.int a1), some (.int a2)]) (st' := [.int (12 : Int32), .int a2]) (q' := q) (P := (True) ∧ ((True) ∧ (True))) (by decide +kernel) rfl rfl (And.intro trivial (And.intro trivial trivial)) ?_
    refine mm_ok_if_icmp_le (pt := 12) (d := 5) (by decide +kernel) (by decide) (fun k2 => ?_) (fun k2 => ?_)
    · refine mm_ok_bl (l := [(.iload 2, 1), (.iconst (5), 1)]) (pc' := 14) (lo' := [some (.ref 8), some (.int a1), some (.int a2)]) (st' := [.int (5 : Int32), .int a2]) (q' := q) (P := (True) ∧ ((True) ∧ (True))) (by decide +kernel) rfl rfl (And.intro trivial (And.intro trivial trivial)) ?_
      refine mm_ok_if_icmp_ge (pt := 40) (d := 26) (by decide +kernel) (by decide) (fun k3 => ?_) (fun k3 => ?_)
      · refine mm_ok_bl (l := [(.iload 2, 1), (.iconst (7), 2)]) (pc' := 43) (lo' := [some (.ref 8), some (.int a1), some (.int a2)]) (st' := [.int (7 : Int32), .int a2]) (q' := q) (P := (True) ∧ ((True) ∧ (True))) (by decide +kernel) rfl rfl (And.intro trivial (And.intro trivial trivial)) ?_
        refine mm_ok_if_icmp_ge (pt := 72) (d := 29) (by decide +kernel) (by decide) (fun k4 => ?_) (fun k4 => ?_)
        · refine mm_ok_bl (l := [(.iload 1, 1)]) (pc' := 73) (lo' := [some (.ref 8), some (.int a1), some (.int a2)]) (st' := [.int a1]) (q' := q) (P := (True) ∧ (True)) (by decide +kernel) rfl rfl (And.intro trivial trivial) ?_
          refine mm_ok_ifCond_ne (pt := 86) (d := 13) (by decide +kernel) (by decide) (fun k5 => ?_) (fun k5 => ?_)
          · refine mm_ok_bl (l := [(.iconst (48), 2), (.iload 2, 1), (.iadd, 1), (.iconst (7), 2), (.isub, 1)]) (pc' := 83) (lo' := [some (.ref 8), some (.int a1), some (.int a2)]) (st' := [.int (((48 : Int32) + a2) - (7 : Int32))]) (q' := q) (P := (True) ∧ ((True) ∧ ((True) ∧ ((True) ∧ ((True) ∧ (True)))))) (by decide +kernel) rfl rfl (And.intro trivial (And.intro trivial (And.intro trivial (And.intro trivial (And.intro trivial trivial))))) ?_
            refine mm_ok_goto (pt := 87) (d := 4) (by decide +kernel) (by decide) ?_
            exact mm_ok_iret (by decide +kernel)
          · refine mm_ok_bl (l := [(.iconst (-1), 1)]) (pc' := 87) (lo' := [some (.ref 8), some (.int a1), some (.int a2)]) (st' := [.int (-1 : Int32)]) (q' := q) (P := (True) ∧ (True)) (by decide +kernel) rfl rfl (And.intro trivial trivial) ?_
            exact mm_ok_iret (by decide +kernel)
        · refine mm_ok_bl (l := [(.iload 1, 1)]) (pc' := 47) (lo' := [some (.ref 8), some (.int a1), some (.int a2)]) (st' := [.int a1]) (q' := q) (P := (True) ∧ (True)) (by decide +kernel) rfl rfl (And.intro trivial trivial) ?_
          refine mm_ok_ifCond_lt (pt := 70) (d := 23) (by decide +kernel) (by decide) (fun k6 => ?_) (fun k6 => ?_)
          · refine mm_ok_bl (l := [(.iconst (-1), 1)]) (pc' := 71) (lo' := [some (.ref 8), some (.int a1), some (.int a2)]) (st' := [.int (-1 : Int32)]) (q' := q) (P := (True) ∧ (True)) (by decide +kernel) rfl rfl (And.intro trivial trivial) ?_
            exact mm_ok_iret (by decide +kernel)
          · refine mm_ok_bl (l := [(.iload 1, 1), (.iconst (9), 2)]) (pc' := 53) (lo' := [some (.ref 8), some (.int a1), some (.int a2)]) (st' := [.int (9 : Int32), .int a1]) (q' := q) (P := (True) ∧ ((True) ∧ (True))) (by decide +kernel) rfl rfl (And.intro trivial (And.intro trivial trivial)) ?_
            refine mm_ok_if_icmp_ge (pt := 70) (d := 17) (by decide +kernel) (by decide) (fun k7 => ?_) (fun k7 => ?_)
            · refine mm_ok_bl (l := [(.iconst (-1), 1)]) (pc' := 71) (lo' := [some (.ref 8), some (.int a1), some (.int a2)]) (st' := [.int (-1 : Int32)]) (q' := q) (P := (True) ∧ (True)) (by decide +kernel) rfl rfl (And.intro trivial trivial) ?_
              exact mm_ok_iret (by decide +kernel)
            · refine mm_ok_bl (l := [(.iconst (30), 2), (.iload 2, 1), (.iconst (5), 1), (.isub, 1), (.iconst (9), 2), (.imul, 1), (.iadd, 1), (.iload 1, 1), (.iadd, 1)]) (pc' := 67) (lo' := [some (.ref 8), some (.int a1), some (.int a2)]) (st' := [.int (((30 : Int32) + ((a2 - (5 : Int32)) * (9 : Int32))) + a1)]) (q' := q) (P := (True) ∧ ((True) ∧ ((True) ∧ ((True) ∧ ((True) ∧ ((True) ∧ ((True) ∧ ((True) ∧ ((True) ∧ (True)))))))))) (by decide +kernel) rfl rfl (And.intro trivial (And.intro trivial (And.intro trivial (And.intro trivial (And.intro trivial (And.intro trivial (And.intro trivial (And.intro trivial (And.intro trivial trivial))))))))) ?_
              refine mm_ok_goto (pt := 71) (d := 4) (by decide +kernel) (by decide) ?_
              exact mm_ok_iret (by decide +kernel)
      · refine mm_ok_bl (l := [(.iload 1, 1)]) (pc' := 18) (lo' := [some (.ref 8), some (.int a1), some (.int a2)]) (st' := [.int a1]) (q' := q) (P := (True) ∧ (True)) (by decide +kernel) rfl rfl (And.intro trivial trivial) ?_
        refine mm_ok_ifCond_lt (pt := 38) (d := 20) (by decide +kernel) (by decide) (fun k8 => ?_) (fun k8 => ?_)
        · refine mm_ok_bl (l := [(.iconst (-1), 1)]) (pc' := 39) (lo' := [some (.ref 8), some (.int a1), some (.int a2)]) (st' := [.int (-1 : Int32)]) (q' := q) (P := (True) ∧ (True)) (by decide +kernel) rfl rfl (And.intro trivial trivial) ?_
          exact mm_ok_iret (by decide +kernel)
        · refine mm_ok_bl (l := [(.iload 1, 1), (.aload 0, 1), (.getfield 257, 3)]) (pc' := 26) (lo' := [some (.ref 8), some (.int a1), some (.int a2)]) (st' := [.int (q.1 8 1), .int a1]) (q' := q) (P := (True) ∧ ((True) ∧ ((True) ∧ (True)))) (by decide +kernel) rfl rfl (And.intro trivial (And.intro trivial (And.intro trivial trivial))) ?_
          refine mm_ok_if_icmp_ge (pt := 38) (d := 12) (by decide +kernel) (by decide) (fun k9 => ?_) (fun k9 => ?_)
          · refine mm_ok_bl (l := [(.iconst (-1), 1)]) (pc' := 39) (lo' := [some (.ref 8), some (.int a1), some (.int a2)]) (st' := [.int (-1 : Int32)]) (q' := q) (P := (True) ∧ (True)) (by decide +kernel) rfl rfl (And.intro trivial trivial) ?_
            exact mm_ok_iret (by decide +kernel)
          · refine mm_ok_bl (l := [(.iload 2, 1), (.iconst (6), 2), (.imul, 1), (.iload 1, 1), (.iadd, 1)]) (pc' := 35) (lo' := [some (.ref 8), some (.int a1), some (.int a2)]) (st' := [.int ((a2 * (6 : Int32)) + a1)]) (q' := q) (P := (True) ∧ ((True) ∧ ((True) ∧ ((True) ∧ ((True) ∧ (True)))))) (by decide +kernel) rfl rfl (And.intro trivial (And.intro trivial (And.intro trivial (And.intro trivial (And.intro trivial trivial))))) ?_
            refine mm_ok_goto (pt := 39) (d := 4) (by decide +kernel) (by decide) ?_
            exact mm_ok_iret (by decide +kernel)
    · refine mm_ok_bl (l := [(.iconst (-1), 1)]) (pc' := 11) (lo' := [some (.ref 8), some (.int a1), some (.int a2)]) (st' := [.int (-1 : Int32)]) (q' := q) (P := (True) ∧ (True)) (by decide +kernel) rfl rfl (And.intro trivial trivial) ?_
      exact mm_ok_iret (by decide +kernel)
def x4_numberIn (a1 : Int32) (q : mm_Q) : Option (Int32 × mm_Q) := (if a1 < 0 then (some ((0 : Int32), q)) else (if (54 : Int32) ≤ a1 then (some ((0 : Int32), q)) else (mm_ck (mm_inb a1 54) (some (q.1 9 a1.toNatClampNeg, q)))))
set_option maxRecDepth 20000 in
theorem x4_numberIn_ok {L : mm_LT} {a1 : Int32} {q : mm_Q} {r : Int32} {q1 : mm_Q} (h : x4_numberIn a1 q = some (r, q1)) : mm_Runs 1 13 [.ref 8, .int a1] (mm_wq L q) (mm_cvi r) (mm_wq L q1) := by
  refine mm_runs_of (d := 0) (L := L) rfl (by decide +kernel) rfl rfl (?_ : mm_ok mm_cvi (mm_Runs 0) 4 false cX4_numberIn (some .int) L L 0 [some (.ref 8), some (.int a1)] [] q (x4_numberIn a1 q)) h
  unfold x4_numberIn
  refine mm_ok_bl (l := [(.iload 1, 1)]) (pc' := 1) (lo' := [some (.ref 8), some (.int a1)]) (st' := [.int a1]) (q' := q) (P := (True) ∧ (True)) (by decide +kernel) rfl rfl (And.intro trivial trivial) ?_
  refine mm_ok_ifCond_lt (pt := 22) (d := 21) (by decide +kernel) (by decide) (fun k1 => ?_) (fun k1 => ?_)
  · refine mm_ok_bl (l := [(.iconst (0), 1)]) (pc' := 23) (lo' := [some (.ref 8), some (.int a1)]) (st' := [.int (0 : Int32)]) (q' := q) (P := (True) ∧ (True)) (by decide +kernel) rfl rfl (And.intro trivial trivial) ?_
    exact mm_ok_iret (by decide +kernel)
  · refine mm_ok_bl (l := [(.iload 1, 1), (.aload 0, 1), (.getfield 256, 3), (.arraylength, 1)]) (pc' := 10) (lo' := [some (.ref 8), some (.int a1)]) (st' := [.int (54 : Int32), .int a1]) (q' := q) (P := (True) ∧ ((True) ∧ ((True) ∧ ((True) ∧ (True))))) (by decide +kernel) rfl rfl (And.intro trivial (And.intro trivial (And.intro trivial (And.intro trivial trivial)))) ?_
    refine mm_ok_if_icmp_ge (pt := 22) (d := 12) (by decide +kernel) (by decide) (fun k2 => ?_) (fun k2 => ?_)
    · refine mm_ok_bl (l := [(.iconst (0), 1)]) (pc' := 23) (lo' := [some (.ref 8), some (.int a1)]) (st' := [.int (0 : Int32)]) (q' := q) (P := (True) ∧ (True)) (by decide +kernel) rfl rfl (And.intro trivial trivial) ?_
      exact mm_ok_iret (by decide +kernel)
    · refine mm_ok_bl (l := [(.aload 0, 1), (.getfield 256, 3), (.iload 1, 1)]) (pc' := 18) (lo' := [some (.ref 8), some (.int a1)]) (st' := [.int a1, .ref 9]) (q' := q) (P := (True) ∧ ((True) ∧ ((True) ∧ (True)))) (by decide +kernel) rfl rfl (And.intro trivial (And.intro trivial (And.intro trivial trivial))) ?_
      refine mm_ok_ck (fun c3 => ?_)
      refine mm_ok_bl (l := [(.iaload, 1)]) (pc' := 19) (lo' := [some (.ref 8), some (.int a1)]) (st' := [.int (q.1 9 a1.toNatClampNeg)]) (q' := q) (P := (mm_ix a1 54) ∧ (True)) (by decide +kernel) rfl rfl (And.intro (mm_inb_ix c3) trivial) ?_
      refine mm_ok_goto (pt := 23) (d := 4) (by decide +kernel) (by decide) ?_
      exact mm_ok_iret (by decide +kernel)
def x4_told (a1 : Int32) (a2 : Int32) (q : mm_Q) : Option (Int32 × mm_Q) := (mm_cl (x4_cellOf a1 a2 q) (fun r1 q2 => (if r1 < 0 then (some ((0 : Int32), q2)) else (if (54 : Int32) ≤ r1 then (some ((0 : Int32), q2)) else (mm_ck (mm_inb r1 54) (some (q2.1 9 r1.toNatClampNeg, q2)))))))
set_option maxRecDepth 20000 in
theorem x4_told_ok {L : mm_LT} {a1 : Int32} {a2 : Int32} {q : mm_Q} {r : Int32} {q1 : mm_Q} (h : x4_told a1 a2 q = some (r, q1)) : mm_Runs 2 15 [.ref 8, .int a1, .int a2] (mm_wq L q) (mm_cvi r) (mm_wq L q1) := by
  refine mm_runs_of (d := 1) (L := L) rfl (by decide +kernel) rfl rfl (?_ : mm_ok mm_cvi (mm_Runs 1) 4 false cX4_told (some .int) L L 0 [some (.ref 8), some (.int a1), some (.int a2), none] [] q (x4_told a1 a2 q)) h
  unfold x4_told
  refine mm_ok_bl (l := [(.aload 0, 1), (.iload 1, 1), (.iload 2, 1)]) (pc' := 3) (lo' := [some (.ref 8), some (.int a1), some (.int a2), none]) (st' := [.int a2, .int a1, .ref 8]) (q' := q) (P := (True) ∧ ((True) ∧ ((True) ∧ (True)))) (by decide +kernel) rfl rfl (And.intro trivial (And.intro trivial (And.intro trivial trivial))) ?_
  refine mm_ok_call (cz := mm_cvi) (j := .invokevirtual 194) (y := 12) (as := [.ref 8, .int a1, .int a2]) (t := []) (by decide +kernel) rfl (fun _ _ h => mm_up (k := 1) (by decide) (x4_cellOf_ok h)) (fun r1 q2 => ?_)
  refine mm_ok_bl (l := [(.istore 3, 1), (.iload 3, 1)]) (pc' := 8) (lo' := [some (.ref 8), some (.int a1), some (.int a2), some (.int r1)]) (st' := [.int r1]) (q' := q2) (P := (True) ∧ ((True) ∧ (True))) (by decide +kernel) rfl rfl (And.intro trivial (And.intro trivial trivial)) ?_
  refine mm_ok_ifCond_lt (pt := 29) (d := 21) (by decide +kernel) (by decide) (fun k3 => ?_) (fun k3 => ?_)
  · refine mm_ok_bl (l := [(.iconst (0), 1)]) (pc' := 30) (lo' := [some (.ref 8), some (.int a1), some (.int a2), some (.int r1)]) (st' := [.int (0 : Int32)]) (q' := q2) (P := (True) ∧ (True)) (by decide +kernel) rfl rfl (And.intro trivial trivial) ?_
    exact mm_ok_iret (by decide +kernel)
  · refine mm_ok_bl (l := [(.iload 3, 1), (.aload 0, 1), (.getfield 256, 3), (.arraylength, 1)]) (pc' := 17) (lo' := [some (.ref 8), some (.int a1), some (.int a2), some (.int r1)]) (st' := [.int (54 : Int32), .int r1]) (q' := q2) (P := (True) ∧ ((True) ∧ ((True) ∧ ((True) ∧ (True))))) (by decide +kernel) rfl rfl (And.intro trivial (And.intro trivial (And.intro trivial (And.intro trivial trivial)))) ?_
    refine mm_ok_if_icmp_ge (pt := 29) (d := 12) (by decide +kernel) (by decide) (fun k4 => ?_) (fun k4 => ?_)
    · refine mm_ok_bl (l := [(.iconst (0), 1)]) (pc' := 30) (lo' := [some (.ref 8), some (.int a1), some (.int a2), some (.int r1)]) (st' := [.int (0 : Int32)]) (q' := q2) (P := (True) ∧ (True)) (by decide +kernel) rfl rfl (And.intro trivial trivial) ?_
      exact mm_ok_iret (by decide +kernel)
    · refine mm_ok_bl (l := [(.aload 0, 1), (.getfield 256, 3), (.iload 3, 1)]) (pc' := 25) (lo' := [some (.ref 8), some (.int a1), some (.int a2), some (.int r1)]) (st' := [.int r1, .ref 9]) (q' := q2) (P := (True) ∧ ((True) ∧ ((True) ∧ (True)))) (by decide +kernel) rfl rfl (And.intro trivial (And.intro trivial (And.intro trivial trivial))) ?_
      refine mm_ok_ck (fun c5 => ?_)
      refine mm_ok_bl (l := [(.iaload, 1)]) (pc' := 26) (lo' := [some (.ref 8), some (.int a1), some (.int a2), some (.int r1)]) (st' := [.int (q2.1 9 r1.toNatClampNeg)]) (q' := q2) (P := (mm_ix r1 54) ∧ (True)) (by decide +kernel) rfl rfl (And.intro (mm_inb_ix c5) trivial) ?_
      refine mm_ok_goto (pt := 30) (d := 4) (by decide +kernel) (by decide) ?_
      exact mm_ok_iret (by decide +kernel)
def x4_isInBarrel (a1 : Int32) (q : mm_Q) : Option (Int32 × mm_Q) := (if a1 < ((q.1 9 50) - (q.1 9 51)) then (some ((0 : Int32), q)) else (if ((q.1 9 50) + (q.1 9 51)) < a1 then (some ((0 : Int32), q)) else (some ((1 : Int32), q))))
set_option maxRecDepth 20000 in
theorem x4_isInBarrel_ok {L : mm_LT} {a1 : Int32} {q : mm_Q} {r : Int32} {q1 : mm_Q} (h : x4_isInBarrel a1 q = some (r, q1)) : mm_Runs 1 16 [.ref 8, .int a1] (mm_wq L q) (mm_cvi r) (mm_wq L q1) := by
  refine mm_runs_of (d := 0) (L := L) rfl (by decide +kernel) rfl rfl (?_ : mm_ok mm_cvi (mm_Runs 0) 4 false cX4_isInBarrel (some .boolean) L L 0 [some (.ref 8), some (.int a1), none, none] [] q (x4_isInBarrel a1 q)) h
  unfold x4_isInBarrel
  refine mm_ok_bl (l := [(.aload 0, 1), (.getfield 256, 3), (.iconst (50), 2), (.iaload, 1), (.istore 2, 1), (.aload 0, 1), (.getfield 256, 3), (.iconst (51), 2), (.iaload, 1), (.istore 3, 1), (.iload 1, 1), (.iload 2, 1), (.iload 3, 1), (.isub, 1)]) (pc' := 20) (lo' := [some (.ref 8), some (.int a1), some (.int (q.1 9 50)), some (.int (q.1 9 51))]) (st' := [.int ((q.1 9 50) - (q.1 9 51)), .int a1]) (q' := q) (P := (True) ∧ ((True) ∧ ((True) ∧ ((mm_ix (50 : Int32) 54) ∧ ((True) ∧ ((True) ∧ ((True) ∧ ((True) ∧ ((mm_ix (51 : Int32) 54) ∧ ((True) ∧ ((True) ∧ ((True) ∧ ((True) ∧ ((True) ∧ (True))))))))))))))) (by decide +kernel) rfl rfl (And.intro trivial (And.intro trivial (And.intro trivial (And.intro (mm_inb_ix (by decide)) (And.intro trivial (And.intro trivial (And.intro trivial (And.intro trivial (And.intro (mm_inb_ix (by decide)) (And.intro trivial (And.intro trivial (And.intro trivial (And.intro trivial (And.intro trivial trivial)))))))))))))) ?_
  refine mm_ok_if_icmp_lt (pt := 34) (d := 14) (by decide +kernel) (by decide) (fun k1 => ?_) (fun k1 => ?_)
  · refine mm_ok_bl (l := [(.iconst (0), 1)]) (pc' := 35) (lo' := [some (.ref 8), some (.int a1), some (.int (q.1 9 50)), some (.int (q.1 9 51))]) (st' := [.int (0 : Int32)]) (q' := q) (P := (True) ∧ (True)) (by decide +kernel) rfl rfl (And.intro trivial trivial) ?_
    exact mm_ok_zret (by decide +kernel) (by decide)
  · refine mm_ok_bl (l := [(.iload 1, 1), (.iload 2, 1), (.iload 3, 1), (.iadd, 1)]) (pc' := 27) (lo' := [some (.ref 8), some (.int a1), some (.int (q.1 9 50)), some (.int (q.1 9 51))]) (st' := [.int ((q.1 9 50) + (q.1 9 51)), .int a1]) (q' := q) (P := (True) ∧ ((True) ∧ ((True) ∧ ((True) ∧ (True))))) (by decide +kernel) rfl rfl (And.intro trivial (And.intro trivial (And.intro trivial (And.intro trivial trivial)))) ?_
    refine mm_ok_if_icmp_gt (pt := 34) (d := 7) (by decide +kernel) (by decide) (fun k2 => ?_) (fun k2 => ?_)
    · refine mm_ok_bl (l := [(.iconst (0), 1)]) (pc' := 35) (lo' := [some (.ref 8), some (.int a1), some (.int (q.1 9 50)), some (.int (q.1 9 51))]) (st' := [.int (0 : Int32)]) (q' := q) (P := (True) ∧ (True)) (by decide +kernel) rfl rfl (And.intro trivial trivial) ?_
      exact mm_ok_zret (by decide +kernel) (by decide)
    · refine mm_ok_bl (l := [(.iconst (1), 1)]) (pc' := 31) (lo' := [some (.ref 8), some (.int a1), some (.int (q.1 9 50)), some (.int (q.1 9 51))]) (st' := [.int (1 : Int32)]) (q' := q) (P := (True) ∧ (True)) (by decide +kernel) rfl rfl (And.intro trivial trivial) ?_
      refine mm_ok_goto (pt := 35) (d := 4) (by decide +kernel) (by decide) ?_
      exact mm_ok_zret (by decide +kernel) (by decide)
def x4_isHit (a1 : Int32) (q : mm_Q) : Option (Int32 × mm_Q) := (if a1 = (q.1 9 52) then (some ((1 : Int32), q)) else (some ((0 : Int32), q)))
set_option maxRecDepth 20000 in
theorem x4_isHit_ok {L : mm_LT} {a1 : Int32} {q : mm_Q} {r : Int32} {q1 : mm_Q} (h : x4_isHit a1 q = some (r, q1)) : mm_Runs 1 17 [.ref 8, .int a1] (mm_wq L q) (mm_cvi r) (mm_wq L q1) := by
  refine mm_runs_of (d := 0) (L := L) rfl (by decide +kernel) rfl rfl (?_ : mm_ok mm_cvi (mm_Runs 0) 4 false cX4_isHit (some .boolean) L L 0 [some (.ref 8), some (.int a1)] [] q (x4_isHit a1 q)) h
  unfold x4_isHit
  refine mm_ok_bl (l := [(.iload 1, 1), (.aload 0, 1), (.getfield 256, 3), (.iconst (52), 2), (.iaload, 1)]) (pc' := 8) (lo' := [some (.ref 8), some (.int a1)]) (st' := [.int (q.1 9 52), .int a1]) (q' := q) (P := (True) ∧ ((True) ∧ ((True) ∧ ((True) ∧ ((mm_ix (52 : Int32) 54) ∧ (True)))))) (by decide +kernel) rfl rfl (And.intro trivial (And.intro trivial (And.intro trivial (And.intro trivial (And.intro (mm_inb_ix (by decide)) trivial))))) ?_
  refine mm_ok_if_icmp_ne (pt := 15) (d := 7) (by decide +kernel) (by decide) (fun k1 => ?_) (fun k1 => ?_)
  · refine mm_ok_bl (l := [(.iconst (1), 1)]) (pc' := 12) (lo' := [some (.ref 8), some (.int a1)]) (st' := [.int (1 : Int32)]) (q' := q) (P := (True) ∧ (True)) (by decide +kernel) rfl rfl (And.intro trivial trivial) ?_
    refine mm_ok_goto (pt := 16) (d := 4) (by decide +kernel) (by decide) ?_
    exact mm_ok_zret (by decide +kernel) (by decide)
  · refine mm_ok_bl (l := [(.iconst (0), 1)]) (pc' := 16) (lo' := [some (.ref 8), some (.int a1)]) (st' := [.int (0 : Int32)]) (q' := q) (P := (True) ∧ (True)) (by decide +kernel) rfl rfl (And.intro trivial trivial) ?_
    exact mm_ok_zret (by decide +kernel) (by decide)
def x4_stopOf (a1 : Int32) (q : mm_Q) : Option (Int32 × mm_Q) := (mm_cl (x4_isInBarrel a1 q) (fun r1 q2 => (if r1 = 0 then (if a1 < (q.1 9 49) then (some (mm_mn (a1 + (a1 / (10 : Int32))) (q.1 9 49), q2)) else (some (a1, q2))) else (some (a1, q2)))))
set_option maxRecDepth 20000 in
theorem x4_stopOf_ok {L : mm_LT} {a1 : Int32} {q : mm_Q} {r : Int32} {q1 : mm_Q} (h : x4_stopOf a1 q = some (r, q1)) : mm_Runs 2 18 [.ref 8, .int a1] (mm_wq L q) (mm_cvi r) (mm_wq L q1) := by
  refine mm_runs_of (d := 1) (L := L) rfl (by decide +kernel) rfl rfl (?_ : mm_ok mm_cvi (mm_Runs 1) 4 false cX4_stopOf (some .int) L L 0 [some (.ref 8), some (.int a1), none] [] q (x4_stopOf a1 q)) h
  unfold x4_stopOf
  refine mm_ok_bl (l := [(.aload 0, 1), (.getfield 256, 3), (.iconst (49), 2), (.iaload, 1), (.istore 2, 1), (.aload 0, 1), (.iload 1, 1)]) (pc' := 10) (lo' := [some (.ref 8), some (.int a1), some (.int (q.1 9 49))]) (st' := [.int a1, .ref 8]) (q' := q) (P := (True) ∧ ((True) ∧ ((True) ∧ ((mm_ix (49 : Int32) 54) ∧ ((True) ∧ ((True) ∧ ((True) ∧ (True)))))))) (by decide +kernel) rfl rfl (And.intro trivial (And.intro trivial (And.intro trivial (And.intro (mm_inb_ix (by decide)) (And.intro trivial (And.intro trivial (And.intro trivial trivial))))))) ?_
  refine mm_ok_call (cz := mm_cvi) (j := .invokevirtual 257) (y := 16) (as := [.ref 8, .int a1]) (t := []) (by decide +kernel) rfl (fun _ _ h => mm_up (k := 1) (by decide) (x4_isInBarrel_ok h)) (fun r1 q2 => ?_)
  refine mm_ok_ifCond_ne (pt := 21) (d := 8) (by decide +kernel) (by decide) (fun k3 => ?_) (fun k3 => ?_)
  · refine mm_ok_bl (l := [(.iload 1, 1), (.iload 2, 1)]) (pc' := 18) (lo' := [some (.ref 8), some (.int a1), some (.int (q.1 9 49))]) (st' := [.int (q.1 9 49), .int a1]) (q' := q2) (P := (True) ∧ ((True) ∧ (True))) (by decide +kernel) rfl rfl (And.intro trivial (And.intro trivial trivial)) ?_
    refine mm_ok_if_icmp_lt (pt := 23) (d := 5) (by decide +kernel) (by decide) (fun k4 => ?_) (fun k4 => ?_)
    · refine mm_ok_bl (l := [(.iload 1, 1), (.iload 1, 1), (.iconst (10), 2), (.idiv, 1), (.iadd, 1), (.iload 2, 1), (.ldc 2, 3)]) (pc' := 33) (lo' := [some (.ref 8), some (.int a1), some (.int (q.1 9 49))]) (st' := [.int (mm_mn (a1 + (a1 / (10 : Int32))) (q.1 9 49))]) (q' := q2) (P := (True) ∧ ((True) ∧ ((True) ∧ ((¬ ((10 : Int32) = 0)) ∧ ((True) ∧ ((True) ∧ ((True) ∧ (True)))))))) (by decide +kernel) rfl rfl (And.intro trivial (And.intro trivial (And.intro trivial (And.intro (by decide) (And.intro trivial (And.intro trivial (And.intro trivial trivial))))))) ?_
      exact mm_ok_iret (by decide +kernel)
    · refine mm_ok_bl (l := [(.iload 1, 1)]) (pc' := 22) (lo' := [some (.ref 8), some (.int a1), some (.int (q.1 9 49))]) (st' := [.int a1]) (q' := q2) (P := (True) ∧ (True)) (by decide +kernel) rfl rfl (And.intro trivial trivial) ?_
      exact mm_ok_iret (by decide +kernel)
  · refine mm_ok_bl (l := [(.iload 1, 1)]) (pc' := 22) (lo' := [some (.ref 8), some (.int a1), some (.int (q.1 9 49))]) (st' := [.int a1]) (q' := q2) (P := (True) ∧ (True)) (by decide +kernel) rfl rfl (And.intro trivial trivial) ?_
    exact mm_ok_iret (by decide +kernel)
def x4_pointsOf (a1 : Int32) (q : mm_Q) : Option (Int32 × mm_Q) := (mm_cl (x4_isHit a1 q) (fun r1 q2 => (if r1 = 0 then (mm_cl (x4_stopOf a1 q2) (fun r4 q5 => (mm_cl (x4_isInBarrel a1 q5) (fun r6 q7 => (if r6 = 0 then (some (r4 / (10 : Int32), q7)) else (some ((r4 / (10 : Int32)) + (30 : Int32), q7))))))) else (some ((0 : Int32), q2)))))
set_option maxRecDepth 20000 in
theorem x4_pointsOf_ok {L : mm_LT} {a1 : Int32} {q : mm_Q} {r : Int32} {q1 : mm_Q} (h : x4_pointsOf a1 q = some (r, q1)) : mm_Runs 3 19 [.ref 8, .int a1] (mm_wq L q) (mm_cvi r) (mm_wq L q1) := by
  refine mm_runs_of (d := 2) (L := L) rfl (by decide +kernel) rfl rfl (?_ : mm_ok mm_cvi (mm_Runs 2) 4 false cX4_pointsOf (some .int) L L 0 [some (.ref 8), some (.int a1), none] [] q (x4_pointsOf a1 q)) h
  unfold x4_pointsOf
  refine mm_ok_bl (l := [(.aload 0, 1), (.iload 1, 1)]) (pc' := 2) (lo' := [some (.ref 8), some (.int a1), none]) (st' := [.int a1, .ref 8]) (q' := q) (P := (True) ∧ ((True) ∧ (True))) (by decide +kernel) rfl rfl (And.intro trivial (And.intro trivial trivial)) ?_
  refine mm_ok_call (cz := mm_cvi) (j := .invokevirtual 273) (y := 17) (as := [.ref 8, .int a1]) (t := []) (by decide +kernel) rfl (fun _ _ h => mm_up (k := 1) (by decide) (x4_isHit_ok h)) (fun r1 q2 => ?_)
  refine mm_ok_ifCond_eq (pt := 10) (d := 5) (by decide +kernel) (by decide) (fun k3 => ?_) (fun k3 => ?_)
  · refine mm_ok_bl (l := [(.aload 0, 1), (.iload 1, 1)]) (pc' := 12) (lo' := [some (.ref 8), some (.int a1), none]) (st' := [.int a1, .ref 8]) (q' := q2) (P := (True) ∧ ((True) ∧ (True))) (by decide +kernel) rfl rfl (And.intro trivial (And.intro trivial trivial)) ?_
    refine mm_ok_call (cz := mm_cvi) (j := .invokevirtual 289) (y := 18) (as := [.ref 8, .int a1]) (t := []) (by decide +kernel) rfl (fun _ _ h => mm_up (k := 2) (by decide) (x4_stopOf_ok h)) (fun r4 q5 => ?_)
    refine mm_ok_bl (l := [(.iconst (10), 2), (.idiv, 1), (.istore 2, 1), (.aload 0, 1), (.iload 1, 1)]) (pc' := 21) (lo' := [some (.ref 8), some (.int a1), some (.int (r4 / (10 : Int32)))]) (st' := [.int a1, .ref 8]) (q' := q5) (P := (True) ∧ ((¬ ((10 : Int32) = 0)) ∧ ((True) ∧ ((True) ∧ ((True) ∧ (True)))))) (by decide +kernel) rfl rfl (And.intro trivial (And.intro (by decide) (And.intro trivial (And.intro trivial (And.intro trivial trivial))))) ?_
    refine mm_ok_call (cz := mm_cvi) (j := .invokevirtual 257) (y := 16) (as := [.ref 8, .int a1]) (t := []) (by decide +kernel) rfl (fun _ _ h => mm_up (k := 1) (by decide) (x4_isInBarrel_ok h)) (fun r6 q7 => ?_)
    refine mm_ok_ifCond_eq (pt := 34) (d := 10) (by decide +kernel) (by decide) (fun k8 => ?_) (fun k8 => ?_)
    · refine mm_ok_bl (l := [(.iload 2, 1)]) (pc' := 35) (lo' := [some (.ref 8), some (.int a1), some (.int (r4 / (10 : Int32)))]) (st' := [.int (r4 / (10 : Int32))]) (q' := q7) (P := (True) ∧ (True)) (by decide +kernel) rfl rfl (And.intro trivial trivial) ?_
      exact mm_ok_iret (by decide +kernel)
    · refine mm_ok_bl (l := [(.iload 2, 1), (.iconst (30), 2), (.iadd, 1)]) (pc' := 31) (lo' := [some (.ref 8), some (.int a1), some (.int (r4 / (10 : Int32)))]) (st' := [.int ((r4 / (10 : Int32)) + (30 : Int32))]) (q' := q7) (P := (True) ∧ ((True) ∧ ((True) ∧ (True)))) (by decide +kernel) rfl rfl (And.intro trivial (And.intro trivial (And.intro trivial trivial))) ?_
      refine mm_ok_goto (pt := 35) (d := 4) (by decide +kernel) (by decide) ?_
      exact mm_ok_iret (by decide +kernel)
  · refine mm_ok_bl (l := [(.iconst (0), 1)]) (pc' := 9) (lo' := [some (.ref 8), some (.int a1), none]) (st' := [.int (0 : Int32)]) (q' := q2) (P := (True) ∧ (True)) (by decide +kernel) rfl rfl (And.intro trivial trivial) ?_
    exact mm_ok_iret (by decide +kernel)
def x5_nameOf (a1 : Int32) (q : mm_Q) : Option (Int32 × mm_Q) := (if a1 = (97 : Int32) then (some ((0 : Int32), q)) else (if a1 = (101 : Int32) then (some ((4 : Int32), q)) else (if a1 = (112 : Int32) then (some ((1 : Int32), q)) else (if a1 = (116 : Int32) then (some ((5 : Int32), q)) else (if a1 = (119 : Int32) then (some ((3 : Int32), q)) else (if a1 = (122 : Int32) then (some ((2 : Int32), q)) else (some ((-1 : Int32), q))))))))
set_option maxRecDepth 20000 in
theorem x5_nameOf_ok {L : mm_LT} {a1 : Int32} {q : mm_Q} {r : Int32} {q1 : mm_Q} (h : x5_nameOf a1 q = some (r, q1)) : mm_Runs 1 21 [.int a1] (mm_wq L q) (mm_cvi r) (mm_wq L q1) := by
  refine mm_runs_of (d := 0) (L := L) rfl (by decide +kernel) rfl rfl (?_ : mm_ok mm_cvi (mm_Runs 0) 5 false cX5_nameOf (some .int) L L 0 [some (.int a1)] [] q (x5_nameOf a1 q)) h
  unfold x5_nameOf
  refine mm_ok_bl (l := [(.iload 0, 1)]) (pc' := 1) (lo' := [some (.int a1)]) (st' := [.int a1]) (q' := q) (P := (True) ∧ (True)) (by decide +kernel) rfl rfl (And.intro trivial trivial) ?_
  refine mm_ok_if (fun k1 => ?_) (fun k1 => ?_)
  · refine mm_ok_lsw (pt := 60) (ps := [(97, 59), (101, 67), (112, 61), (116, 69), (119, 65), (122, 63)]) (d := 71) (len := 59) (by decide +kernel) (by decide) (by decide) (by rw [k1]; rfl) ?_
    refine mm_ok_bl (l := [(.iconst (0), 1)]) (pc' := 61) (lo' := [some (.int a1)]) (st' := [.int (0 : Int32)]) (q' := q) (P := (True) ∧ (True)) (by decide +kernel) rfl rfl (And.intro trivial trivial) ?_
    exact mm_ok_iret (by decide +kernel)
  · refine mm_ok_if (fun k2 => ?_) (fun k2 => ?_)
    · refine mm_ok_lsw (pt := 68) (ps := [(97, 59), (101, 67), (112, 61), (116, 69), (119, 65), (122, 63)]) (d := 71) (len := 59) (by decide +kernel) (by decide) (by decide) (by rw [k2]; rfl) ?_
      refine mm_ok_bl (l := [(.iconst (4), 1)]) (pc' := 69) (lo' := [some (.int a1)]) (st' := [.int (4 : Int32)]) (q' := q) (P := (True) ∧ (True)) (by decide +kernel) rfl rfl (And.intro trivial trivial) ?_
      exact mm_ok_iret (by decide +kernel)
    · refine mm_ok_if (fun k3 => ?_) (fun k3 => ?_)
      · refine mm_ok_lsw (pt := 62) (ps := [(97, 59), (101, 67), (112, 61), (116, 69), (119, 65), (122, 63)]) (d := 71) (len := 59) (by decide +kernel) (by decide) (by decide) (by rw [k3]; rfl) ?_
        refine mm_ok_bl (l := [(.iconst (1), 1)]) (pc' := 63) (lo' := [some (.int a1)]) (st' := [.int (1 : Int32)]) (q' := q) (P := (True) ∧ (True)) (by decide +kernel) rfl rfl (And.intro trivial trivial) ?_
        exact mm_ok_iret (by decide +kernel)
      · refine mm_ok_if (fun k4 => ?_) (fun k4 => ?_)
        · refine mm_ok_lsw (pt := 70) (ps := [(97, 59), (101, 67), (112, 61), (116, 69), (119, 65), (122, 63)]) (d := 71) (len := 59) (by decide +kernel) (by decide) (by decide) (by rw [k4]; rfl) ?_
          refine mm_ok_bl (l := [(.iconst (5), 1)]) (pc' := 71) (lo' := [some (.int a1)]) (st' := [.int (5 : Int32)]) (q' := q) (P := (True) ∧ (True)) (by decide +kernel) rfl rfl (And.intro trivial trivial) ?_
          exact mm_ok_iret (by decide +kernel)
        · refine mm_ok_if (fun k5 => ?_) (fun k5 => ?_)
          · refine mm_ok_lsw (pt := 66) (ps := [(97, 59), (101, 67), (112, 61), (116, 69), (119, 65), (122, 63)]) (d := 71) (len := 59) (by decide +kernel) (by decide) (by decide) (by rw [k5]; rfl) ?_
            refine mm_ok_bl (l := [(.iconst (3), 1)]) (pc' := 67) (lo' := [some (.int a1)]) (st' := [.int (3 : Int32)]) (q' := q) (P := (True) ∧ (True)) (by decide +kernel) rfl rfl (And.intro trivial trivial) ?_
            exact mm_ok_iret (by decide +kernel)
          · refine mm_ok_if (fun k6 => ?_) (fun k6 => ?_)
            · refine mm_ok_lsw (pt := 64) (ps := [(97, 59), (101, 67), (112, 61), (116, 69), (119, 65), (122, 63)]) (d := 71) (len := 59) (by decide +kernel) (by decide) (by decide) (by rw [k6]; rfl) ?_
              refine mm_ok_bl (l := [(.iconst (2), 1)]) (pc' := 65) (lo' := [some (.int a1)]) (st' := [.int (2 : Int32)]) (q' := q) (P := (True) ∧ (True)) (by decide +kernel) rfl rfl (And.intro trivial trivial) ?_
              exact mm_ok_iret (by decide +kernel)
            · refine mm_ok_lsw (pt := 72) (ps := [(97, 59), (101, 67), (112, 61), (116, 69), (119, 65), (122, 63)]) (d := 71) (len := 59) (by decide +kernel) (by decide) (by decide) (by rw [show mm_swl [(97, 59), (101, 67), (112, 61), (116, 69), (119, 65), (122, 63)] (71) a1 = 71 from ((if_neg k1).trans ((if_neg k2).trans ((if_neg k3).trans ((if_neg k4).trans ((if_neg k5).trans ((if_neg k6).trans rfl))))))]; rfl) ?_
              refine mm_ok_bl (l := [(.iconst (-1), 1)]) (pc' := 73) (lo' := [some (.int a1)]) (st' := [.int (-1 : Int32)]) (q' := q) (P := (True) ∧ (True)) (by decide +kernel) rfl rfl (And.intro trivial trivial) ?_
              exact mm_ok_iret (by decide +kernel)
def x5_become (a2 : Int32) (q : mm_Q) : Option (Unit × mm_Q) := (if a2 < 0 then (some ((), q)) else (if (200 : Int32) < a2 then (some ((), q)) else (if (200 : Int32) < a2 then (some ((), q)) else (mm_ck (mm_cp (0 : Int32) (0 : Int32) a2 200 200) (mm_lt (mm_ci q 30 11 0 0 a2.toNatClampNeg) (fun q5 => (mm_lt (mm_si q5 10 3 a2) (fun q6 => (some ((), q6))))))))))
set_option maxRecDepth 20000 in
theorem x5_become_ok {L : mm_LT} {a2 : Int32} {q : mm_Q} {r : Unit} {q1 : mm_Q} (h : x5_become a2 q = some (r, q1)) : mm_Runs 1 22 [.ref 10, .ref 30, .int a2] (mm_wq L q) (mm_cvu r) (mm_wq L q1) := by
  refine mm_runs_of (d := 0) (L := L) rfl (by decide +kernel) rfl rfl (?_ : mm_ok mm_cvu (mm_Runs 0) 5 false cX5_become none L L 0 [some (.ref 10), some (.ref 30), some (.int a2)] [] q (x5_become a2 q)) h
  unfold x5_become
  refine mm_ok_bl (l := [(.iload 2, 1)]) (pc' := 1) (lo' := [some (.ref 10), some (.ref 30), some (.int a2)]) (st' := [.int a2]) (q' := q) (P := (True) ∧ (True)) (by decide +kernel) rfl rfl (And.intro trivial trivial) ?_
  refine mm_ok_ifCond_lt (pt := 33) (d := 32) (by decide +kernel) (by decide) (fun k1 => ?_) (fun k1 => ?_)
  · exact mm_ok_vret (by decide +kernel)
  · refine mm_ok_bl (l := [(.iload 2, 1), (.iconst (200), 3)]) (pc' := 8) (lo' := [some (.ref 10), some (.ref 30), some (.int a2)]) (st' := [.int (200 : Int32), .int a2]) (q' := q) (P := (True) ∧ ((True) ∧ (True))) (by decide +kernel) rfl rfl (And.intro trivial (And.intro trivial trivial)) ?_
    refine mm_ok_if_icmp_gt (pt := 33) (d := 25) (by decide +kernel) (by decide) (fun k2 => ?_) (fun k2 => ?_)
    · exact mm_ok_vret (by decide +kernel)
    · refine mm_ok_bl (l := [(.iload 2, 1), (.aload 1, 1), (.arraylength, 1)]) (pc' := 14) (lo' := [some (.ref 10), some (.ref 30), some (.int a2)]) (st' := [.int (200 : Int32), .int a2]) (q' := q) (P := (True) ∧ ((True) ∧ ((True) ∧ (True)))) (by decide +kernel) rfl rfl (And.intro trivial (And.intro trivial (And.intro trivial trivial))) ?_
      refine mm_ok_if_icmp_gt (pt := 33) (d := 19) (by decide +kernel) (by decide) (fun k3 => ?_) (fun k3 => ?_)
      · exact mm_ok_vret (by decide +kernel)
      · refine mm_ok_bl (l := [(.aload 1, 1), (.iconst (0), 1), (.aload 0, 1), (.getfield 320, 3), (.iconst (0), 1), (.iload 2, 1)]) (pc' := 25) (lo' := [some (.ref 10), some (.ref 30), some (.int a2)]) (st' := [.int a2, .int (0 : Int32), .ref 11, .int (0 : Int32), .ref 30]) (q' := q) (P := (True) ∧ ((True) ∧ ((True) ∧ ((True) ∧ ((True) ∧ ((True) ∧ (True))))))) (by decide +kernel) rfl rfl (And.intro trivial (And.intro trivial (And.intro trivial (And.intro trivial (And.intro trivial (And.intro trivial trivial)))))) ?_
        refine mm_ok_ck (fun c4 => ?_)
        refine mm_ok_bl (l := [(.monitorexit, 3)]) (pc' := 28) (lo' := [some (.ref 10), some (.ref 30), some (.int a2)]) (st' := []) (q' := (mm_ci q 30 11 0 0 a2.toNatClampNeg)) (P := ((¬ (0 : Int32) < 0 ∧ ¬ (0 : Int32) < 0 ∧ ¬ a2 < 0) ∧ (0 : Int32).toNatClampNeg + a2.toNatClampNeg ≤ 200 ∧ (0 : Int32).toNatClampNeg + a2.toNatClampNeg ≤ 200) ∧ (True)) (by decide +kernel) rfl rfl (And.intro (mm_cp_ok c4) trivial) ?_
        refine mm_ok_lt (fun q5 => ?_)
        refine mm_ok_bl (l := [(.aload 0, 1), (.iload 2, 1), (.putfield 323, 3)]) (pc' := 33) (lo' := [some (.ref 10), some (.ref 30), some (.int a2)]) (st' := []) (q' := (mm_si q5 10 3 a2)) (P := (True) ∧ ((True) ∧ ((True) ∧ (True)))) (by decide +kernel) rfl rfl (And.intro trivial (And.intro trivial (And.intro trivial trivial))) ?_
        refine mm_ok_lt (fun q6 => ?_)
        exact mm_ok_vret (by decide +kernel)
def x5_isTold  (q : mm_Q) : Option (Int32 × mm_Q) := (if (q.1 10 3) ≤ 0 then (some ((0 : Int32), q)) else (some ((1 : Int32), q)))
set_option maxRecDepth 20000 in
theorem x5_isTold_ok {L : mm_LT} {q : mm_Q} {r : Int32} {q1 : mm_Q} (h : x5_isTold  q = some (r, q1)) : mm_Runs 1 23 [.ref 10] (mm_wq L q) (mm_cvi r) (mm_wq L q1) := by
  refine mm_runs_of (d := 0) (L := L) rfl (by decide +kernel) rfl rfl (?_ : mm_ok mm_cvi (mm_Runs 0) 5 false cX5_isTold (some .boolean) L L 0 [some (.ref 10)] [] q (x5_isTold  q)) h
  unfold x5_isTold
  refine mm_ok_bl (l := [(.aload 0, 1), (.getfield 323, 3)]) (pc' := 4) (lo' := [some (.ref 10)]) (st' := [.int (q.1 10 3)]) (q' := q) (P := (True) ∧ ((True) ∧ (True))) (by decide +kernel) rfl rfl (And.intro trivial (And.intro trivial trivial)) ?_
  refine mm_ok_ifCond_le (pt := 11) (d := 7) (by decide +kernel) (by decide) (fun k1 => ?_) (fun k1 => ?_)
  · refine mm_ok_bl (l := [(.iconst (0), 1)]) (pc' := 12) (lo' := [some (.ref 10)]) (st' := [.int (0 : Int32)]) (q' := q) (P := (True) ∧ (True)) (by decide +kernel) rfl rfl (And.intro trivial trivial) ?_
    exact mm_ok_zret (by decide +kernel) (by decide)
  · refine mm_ok_bl (l := [(.iconst (1), 1)]) (pc' := 8) (lo' := [some (.ref 10)]) (st' := [.int (1 : Int32)]) (q' := q) (P := (True) ∧ (True)) (by decide +kernel) rfl rfl (And.intro trivial trivial) ?_
    refine mm_ok_goto (pt := 12) (d := 4) (by decide +kernel) (by decide) ?_
    exact mm_ok_zret (by decide +kernel) (by decide)
def x5_joined (a1 : Int32) (a2 : Int32) (a3 : Int32) (q : mm_Q) : Option (Int32 × mm_Q) := (if a1 = (37 : Int32) then (if a3 = 0 then (some ((0 : Int32), q)) else (mm_ck (mm_nz a3) (some (mm_rem a2 a3, q)))) else (if a1 = (38 : Int32) then (if a2 = 0 then (some ((0 : Int32), q)) else (if a3 = 0 then (some ((0 : Int32), q)) else (some ((1 : Int32), q)))) else (if a1 = (42 : Int32) then (some (a2 * a3, q)) else (if a1 = (43 : Int32) then (some (a2 + a3, q)) else (if a1 = (45 : Int32) then (some (a2 - a3, q)) else (if a1 = (47 : Int32) then (if a3 = 0 then (some ((0 : Int32), q)) else (mm_ck (mm_nz a3) (some (a2 / a3, q)))) else (if a1 = (60 : Int32) then (if a3 ≤ a2 then (some ((0 : Int32), q)) else (some ((1 : Int32), q))) else (if a1 = (61 : Int32) then (if a2 = a3 then (some ((1 : Int32), q)) else (some ((0 : Int32), q))) else (if a1 = (62 : Int32) then (if a2 ≤ a3 then (some ((0 : Int32), q)) else (some ((1 : Int32), q))) else (if a1 = (124 : Int32) then (if a2 = 0 then (if a3 = 0 then (some ((0 : Int32), q)) else (some ((1 : Int32), q))) else (some ((1 : Int32), q))) else (some ((0 : Int32), q))))))))))))
set_option maxRecDepth 20000 in
theorem x5_joined_ok {L : mm_LT} {a1 : Int32} {a2 : Int32} {a3 : Int32} {q : mm_Q} {r : Int32} {q1 : mm_Q} (h : x5_joined a1 a2 a3 q = some (r, q1)) : mm_Runs 1 25 [.int a1, .int a2, .int a3] (mm_wq L q) (mm_cvi r) (mm_wq L q1) := by
  refine mm_runs_of (d := 0) (L := L) rfl (by decide +kernel) rfl rfl (?_ : mm_ok mm_cvi (mm_Runs 0) 5 false cX5_joined (some .int) L L 0 [some (.int a1), some (.int a2), some (.int a3)] [] q (x5_joined a1 a2 a3 q)) h
  unfold x5_joined
  refine mm_ok_bl (l := [(.iload 0, 1)]) (pc' := 1) (lo' := [some (.int a1), some (.int a2), some (.int a3)]) (st' := [.int a1]) (q' := q) (P := (True) ∧ (True)) (by decide +kernel) rfl rfl (And.intro trivial trivial) ?_
  refine mm_ok_if (fun k1 => ?_) (fun k1 => ?_)
  · refine mm_ok_lsw (pt := 177) (ps := [(37, 176), (38, 105), (42, 160), (43, 152), (45, 156), (47, 164), (60, 119), (61, 130), (62, 141), (124, 91)]) (d := 188) (len := 91) (by decide +kernel) (by decide) (by decide) (by rw [k1]; rfl) ?_
    refine mm_ok_bl (l := [(.iload 2, 1)]) (pc' := 178) (lo' := [some (.int a1), some (.int a2), some (.int a3)]) (st' := [.int a3]) (q' := q) (P := (True) ∧ (True)) (by decide +kernel) rfl rfl (And.intro trivial trivial) ?_
    refine mm_ok_ifCond_ne (pt := 185) (d := 7) (by decide +kernel) (by decide) (fun k2 => ?_) (fun k2 => ?_)
    · refine mm_ok_bl (l := [(.iconst (0), 1)]) (pc' := 182) (lo' := [some (.int a1), some (.int a2), some (.int a3)]) (st' := [.int (0 : Int32)]) (q' := q) (P := (True) ∧ (True)) (by decide +kernel) rfl rfl (And.intro trivial trivial) ?_
      refine mm_ok_goto (pt := 188) (d := 6) (by decide +kernel) (by decide) ?_
      exact mm_ok_iret (by decide +kernel)
    · refine mm_ok_bl (l := [(.iload 1, 1), (.iload 2, 1)]) (pc' := 187) (lo' := [some (.int a1), some (.int a2), some (.int a3)]) (st' := [.int a3, .int a2]) (q' := q) (P := (True) ∧ ((True) ∧ (True))) (by decide +kernel) rfl rfl (And.intro trivial (And.intro trivial trivial)) ?_
      refine mm_ok_ck (fun c3 => ?_)
      refine mm_ok_bl (l := [(.irem, 1)]) (pc' := 188) (lo' := [some (.int a1), some (.int a2), some (.int a3)]) (st' := [.int (mm_rem a2 a3)]) (q' := q) (P := (¬ (a3 = 0)) ∧ (True)) (by decide +kernel) rfl rfl (And.intro (mm_nz_ok c3) trivial) ?_
      exact mm_ok_iret (by decide +kernel)
  · refine mm_ok_if (fun k4 => ?_) (fun k4 => ?_)
    · refine mm_ok_lsw (pt := 106) (ps := [(37, 176), (38, 105), (42, 160), (43, 152), (45, 156), (47, 164), (60, 119), (61, 130), (62, 141), (124, 91)]) (d := 188) (len := 91) (by decide +kernel) (by decide) (by decide) (by rw [k4]; rfl) ?_
      refine mm_ok_bl (l := [(.iload 1, 1)]) (pc' := 107) (lo' := [some (.int a1), some (.int a2), some (.int a3)]) (st' := [.int a2]) (q' := q) (P := (True) ∧ (True)) (by decide +kernel) rfl rfl (And.intro trivial trivial) ?_
      refine mm_ok_ifCond_eq (pt := 118) (d := 11) (by decide +kernel) (by decide) (fun k5 => ?_) (fun k5 => ?_)
      · refine mm_ok_bl (l := [(.iconst (0), 1)]) (pc' := 119) (lo' := [some (.int a1), some (.int a2), some (.int a3)]) (st' := [.int (0 : Int32)]) (q' := q) (P := (True) ∧ (True)) (by decide +kernel) rfl rfl (And.intro trivial trivial) ?_
        exact mm_ok_iret (by decide +kernel)
      · refine mm_ok_bl (l := [(.iload 2, 1)]) (pc' := 111) (lo' := [some (.int a1), some (.int a2), some (.int a3)]) (st' := [.int a3]) (q' := q) (P := (True) ∧ (True)) (by decide +kernel) rfl rfl (And.intro trivial trivial) ?_
        refine mm_ok_ifCond_eq (pt := 118) (d := 7) (by decide +kernel) (by decide) (fun k6 => ?_) (fun k6 => ?_)
        · refine mm_ok_bl (l := [(.iconst (0), 1)]) (pc' := 119) (lo' := [some (.int a1), some (.int a2), some (.int a3)]) (st' := [.int (0 : Int32)]) (q' := q) (P := (True) ∧ (True)) (by decide +kernel) rfl rfl (And.intro trivial trivial) ?_
          exact mm_ok_iret (by decide +kernel)
        · refine mm_ok_bl (l := [(.iconst (1), 1)]) (pc' := 115) (lo' := [some (.int a1), some (.int a2), some (.int a3)]) (st' := [.int (1 : Int32)]) (q' := q) (P := (True) ∧ (True)) (by decide +kernel) rfl rfl (And.intro trivial trivial) ?_
          refine mm_ok_goto (pt := 119) (d := 4) (by decide +kernel) (by decide) ?_
          exact mm_ok_iret (by decide +kernel)
    · refine mm_ok_if (fun k7 => ?_) (fun k7 => ?_)
      · refine mm_ok_lsw (pt := 161) (ps := [(37, 176), (38, 105), (42, 160), (43, 152), (45, 156), (47, 164), (60, 119), (61, 130), (62, 141), (124, 91)]) (d := 188) (len := 91) (by decide +kernel) (by decide) (by decide) (by rw [k7]; rfl) ?_
        refine mm_ok_bl (l := [(.iload 1, 1), (.iload 2, 1), (.imul, 1)]) (pc' := 164) (lo' := [some (.int a1), some (.int a2), some (.int a3)]) (st' := [.int (a2 * a3)]) (q' := q) (P := (True) ∧ ((True) ∧ ((True) ∧ (True)))) (by decide +kernel) rfl rfl (And.intro trivial (And.intro trivial (And.intro trivial trivial))) ?_
        exact mm_ok_iret (by decide +kernel)
      · refine mm_ok_if (fun k8 => ?_) (fun k8 => ?_)
        · refine mm_ok_lsw (pt := 153) (ps := [(37, 176), (38, 105), (42, 160), (43, 152), (45, 156), (47, 164), (60, 119), (61, 130), (62, 141), (124, 91)]) (d := 188) (len := 91) (by decide +kernel) (by decide) (by decide) (by rw [k8]; rfl) ?_
          refine mm_ok_bl (l := [(.iload 1, 1), (.iload 2, 1), (.iadd, 1)]) (pc' := 156) (lo' := [some (.int a1), some (.int a2), some (.int a3)]) (st' := [.int (a2 + a3)]) (q' := q) (P := (True) ∧ ((True) ∧ ((True) ∧ (True)))) (by decide +kernel) rfl rfl (And.intro trivial (And.intro trivial (And.intro trivial trivial))) ?_
          exact mm_ok_iret (by decide +kernel)
        · refine mm_ok_if (fun k9 => ?_) (fun k9 => ?_)
          · refine mm_ok_lsw (pt := 157) (ps := [(37, 176), (38, 105), (42, 160), (43, 152), (45, 156), (47, 164), (60, 119), (61, 130), (62, 141), (124, 91)]) (d := 188) (len := 91) (by decide +kernel) (by decide) (by decide) (by rw [k9]; rfl) ?_
            refine mm_ok_bl (l := [(.iload 1, 1), (.iload 2, 1), (.isub, 1)]) (pc' := 160) (lo' := [some (.int a1), some (.int a2), some (.int a3)]) (st' := [.int (a2 - a3)]) (q' := q) (P := (True) ∧ ((True) ∧ ((True) ∧ (True)))) (by decide +kernel) rfl rfl (And.intro trivial (And.intro trivial (And.intro trivial trivial))) ?_
            exact mm_ok_iret (by decide +kernel)
          · refine mm_ok_if (fun k10 => ?_) (fun k10 => ?_)
            · refine mm_ok_lsw (pt := 165) (ps := [(37, 176), (38, 105), (42, 160), (43, 152), (45, 156), (47, 164), (60, 119), (61, 130), (62, 141), (124, 91)]) (d := 188) (len := 91) (by decide +kernel) (by decide) (by decide) (by rw [k10]; rfl) ?_
              refine mm_ok_bl (l := [(.iload 2, 1)]) (pc' := 166) (lo' := [some (.int a1), some (.int a2), some (.int a3)]) (st' := [.int a3]) (q' := q) (P := (True) ∧ (True)) (by decide +kernel) rfl rfl (And.intro trivial trivial) ?_
              refine mm_ok_ifCond_ne (pt := 173) (d := 7) (by decide +kernel) (by decide) (fun k11 => ?_) (fun k11 => ?_)
              · refine mm_ok_bl (l := [(.iconst (0), 1)]) (pc' := 170) (lo' := [some (.int a1), some (.int a2), some (.int a3)]) (st' := [.int (0 : Int32)]) (q' := q) (P := (True) ∧ (True)) (by decide +kernel) rfl rfl (And.intro trivial trivial) ?_
                refine mm_ok_goto (pt := 176) (d := 6) (by decide +kernel) (by decide) ?_
                exact mm_ok_iret (by decide +kernel)
              · refine mm_ok_bl (l := [(.iload 1, 1), (.iload 2, 1)]) (pc' := 175) (lo' := [some (.int a1), some (.int a2), some (.int a3)]) (st' := [.int a3, .int a2]) (q' := q) (P := (True) ∧ ((True) ∧ (True))) (by decide +kernel) rfl rfl (And.intro trivial (And.intro trivial trivial)) ?_
                refine mm_ok_ck (fun c12 => ?_)
                refine mm_ok_bl (l := [(.idiv, 1)]) (pc' := 176) (lo' := [some (.int a1), some (.int a2), some (.int a3)]) (st' := [.int (a2 / a3)]) (q' := q) (P := (¬ (a3 = 0)) ∧ (True)) (by decide +kernel) rfl rfl (And.intro (mm_nz_ok c12) trivial) ?_
                exact mm_ok_iret (by decide +kernel)
            · refine mm_ok_if (fun k13 => ?_) (fun k13 => ?_)
              · refine mm_ok_lsw (pt := 120) (ps := [(37, 176), (38, 105), (42, 160), (43, 152), (45, 156), (47, 164), (60, 119), (61, 130), (62, 141), (124, 91)]) (d := 188) (len := 91) (by decide +kernel) (by decide) (by decide) (by rw [k13]; rfl) ?_
                refine mm_ok_bl (l := [(.iload 1, 1), (.iload 2, 1)]) (pc' := 122) (lo' := [some (.int a1), some (.int a2), some (.int a3)]) (st' := [.int a3, .int a2]) (q' := q) (P := (True) ∧ ((True) ∧ (True))) (by decide +kernel) rfl rfl (And.intro trivial (And.intro trivial trivial)) ?_
                refine mm_ok_if_icmp_ge (pt := 129) (d := 7) (by decide +kernel) (by decide) (fun k14 => ?_) (fun k14 => ?_)
                · refine mm_ok_bl (l := [(.iconst (0), 1)]) (pc' := 130) (lo' := [some (.int a1), some (.int a2), some (.int a3)]) (st' := [.int (0 : Int32)]) (q' := q) (P := (True) ∧ (True)) (by decide +kernel) rfl rfl (And.intro trivial trivial) ?_
                  exact mm_ok_iret (by decide +kernel)
                · refine mm_ok_bl (l := [(.iconst (1), 1)]) (pc' := 126) (lo' := [some (.int a1), some (.int a2), some (.int a3)]) (st' := [.int (1 : Int32)]) (q' := q) (P := (True) ∧ (True)) (by decide +kernel) rfl rfl (And.intro trivial trivial) ?_
                  refine mm_ok_goto (pt := 130) (d := 4) (by decide +kernel) (by decide) ?_
                  exact mm_ok_iret (by decide +kernel)
              · refine mm_ok_if (fun k15 => ?_) (fun k15 => ?_)
                · refine mm_ok_lsw (pt := 131) (ps := [(37, 176), (38, 105), (42, 160), (43, 152), (45, 156), (47, 164), (60, 119), (61, 130), (62, 141), (124, 91)]) (d := 188) (len := 91) (by decide +kernel) (by decide) (by decide) (by rw [k15]; rfl) ?_
                  refine mm_ok_bl (l := [(.iload 1, 1), (.iload 2, 1)]) (pc' := 133) (lo' := [some (.int a1), some (.int a2), some (.int a3)]) (st' := [.int a3, .int a2]) (q' := q) (P := (True) ∧ ((True) ∧ (True))) (by decide +kernel) rfl rfl (And.intro trivial (And.intro trivial trivial)) ?_
                  refine mm_ok_if_icmp_ne (pt := 140) (d := 7) (by decide +kernel) (by decide) (fun k16 => ?_) (fun k16 => ?_)
                  · refine mm_ok_bl (l := [(.iconst (1), 1)]) (pc' := 137) (lo' := [some (.int a1), some (.int a2), some (.int a3)]) (st' := [.int (1 : Int32)]) (q' := q) (P := (True) ∧ (True)) (by decide +kernel) rfl rfl (And.intro trivial trivial) ?_
                    refine mm_ok_goto (pt := 141) (d := 4) (by decide +kernel) (by decide) ?_
                    exact mm_ok_iret (by decide +kernel)
                  · refine mm_ok_bl (l := [(.iconst (0), 1)]) (pc' := 141) (lo' := [some (.int a1), some (.int a2), some (.int a3)]) (st' := [.int (0 : Int32)]) (q' := q) (P := (True) ∧ (True)) (by decide +kernel) rfl rfl (And.intro trivial trivial) ?_
                    exact mm_ok_iret (by decide +kernel)
                · refine mm_ok_if (fun k17 => ?_) (fun k17 => ?_)
                  · refine mm_ok_lsw (pt := 142) (ps := [(37, 176), (38, 105), (42, 160), (43, 152), (45, 156), (47, 164), (60, 119), (61, 130), (62, 141), (124, 91)]) (d := 188) (len := 91) (by decide +kernel) (by decide) (by decide) (by rw [k17]; rfl) ?_
                    refine mm_ok_bl (l := [(.iload 1, 1), (.iload 2, 1)]) (pc' := 144) (lo' := [some (.int a1), some (.int a2), some (.int a3)]) (st' := [.int a3, .int a2]) (q' := q) (P := (True) ∧ ((True) ∧ (True))) (by decide +kernel) rfl rfl (And.intro trivial (And.intro trivial trivial)) ?_
                    refine mm_ok_if_icmp_le (pt := 151) (d := 7) (by decide +kernel) (by decide) (fun k18 => ?_) (fun k18 => ?_)
                    · refine mm_ok_bl (l := [(.iconst (0), 1)]) (pc' := 152) (lo' := [some (.int a1), some (.int a2), some (.int a3)]) (st' := [.int (0 : Int32)]) (q' := q) (P := (True) ∧ (True)) (by decide +kernel) rfl rfl (And.intro trivial trivial) ?_
                      exact mm_ok_iret (by decide +kernel)
                    · refine mm_ok_bl (l := [(.iconst (1), 1)]) (pc' := 148) (lo' := [some (.int a1), some (.int a2), some (.int a3)]) (st' := [.int (1 : Int32)]) (q' := q) (P := (True) ∧ (True)) (by decide +kernel) rfl rfl (And.intro trivial trivial) ?_
                      refine mm_ok_goto (pt := 152) (d := 4) (by decide +kernel) (by decide) ?_
                      exact mm_ok_iret (by decide +kernel)
                  · refine mm_ok_if (fun k19 => ?_) (fun k19 => ?_)
                    · refine mm_ok_lsw (pt := 92) (ps := [(37, 176), (38, 105), (42, 160), (43, 152), (45, 156), (47, 164), (60, 119), (61, 130), (62, 141), (124, 91)]) (d := 188) (len := 91) (by decide +kernel) (by decide) (by decide) (by rw [k19]; rfl) ?_
                      refine mm_ok_bl (l := [(.iload 1, 1)]) (pc' := 93) (lo' := [some (.int a1), some (.int a2), some (.int a3)]) (st' := [.int a2]) (q' := q) (P := (True) ∧ (True)) (by decide +kernel) rfl rfl (And.intro trivial trivial) ?_
                      refine mm_ok_ifCond_ne (pt := 100) (d := 7) (by decide +kernel) (by decide) (fun k20 => ?_) (fun k20 => ?_)
                      · refine mm_ok_bl (l := [(.iload 2, 1)]) (pc' := 97) (lo' := [some (.int a1), some (.int a2), some (.int a3)]) (st' := [.int a3]) (q' := q) (P := (True) ∧ (True)) (by decide +kernel) rfl rfl (And.intro trivial trivial) ?_
                        refine mm_ok_ifCond_eq (pt := 104) (d := 7) (by decide +kernel) (by decide) (fun k21 => ?_) (fun k21 => ?_)
                        · refine mm_ok_bl (l := [(.iconst (0), 1)]) (pc' := 105) (lo' := [some (.int a1), some (.int a2), some (.int a3)]) (st' := [.int (0 : Int32)]) (q' := q) (P := (True) ∧ (True)) (by decide +kernel) rfl rfl (And.intro trivial trivial) ?_
                          exact mm_ok_iret (by decide +kernel)
                        · refine mm_ok_bl (l := [(.iconst (1), 1)]) (pc' := 101) (lo' := [some (.int a1), some (.int a2), some (.int a3)]) (st' := [.int (1 : Int32)]) (q' := q) (P := (True) ∧ (True)) (by decide +kernel) rfl rfl (And.intro trivial trivial) ?_
                          refine mm_ok_goto (pt := 105) (d := 4) (by decide +kernel) (by decide) ?_
                          exact mm_ok_iret (by decide +kernel)
                      · refine mm_ok_bl (l := [(.iconst (1), 1)]) (pc' := 101) (lo' := [some (.int a1), some (.int a2), some (.int a3)]) (st' := [.int (1 : Int32)]) (q' := q) (P := (True) ∧ (True)) (by decide +kernel) rfl rfl (And.intro trivial trivial) ?_
                        refine mm_ok_goto (pt := 105) (d := 4) (by decide +kernel) (by decide) ?_
                        exact mm_ok_iret (by decide +kernel)
                    · refine mm_ok_lsw (pt := 189) (ps := [(37, 176), (38, 105), (42, 160), (43, 152), (45, 156), (47, 164), (60, 119), (61, 130), (62, 141), (124, 91)]) (d := 188) (len := 91) (by decide +kernel) (by decide) (by decide) (by rw [show mm_swl [(37, 176), (38, 105), (42, 160), (43, 152), (45, 156), (47, 164), (60, 119), (61, 130), (62, 141), (124, 91)] (188) a1 = 188 from ((if_neg k1).trans ((if_neg k4).trans ((if_neg k7).trans ((if_neg k8).trans ((if_neg k9).trans ((if_neg k10).trans ((if_neg k13).trans ((if_neg k15).trans ((if_neg k17).trans ((if_neg k19).trans rfl))))))))))]; rfl) ?_
                      refine mm_ok_bl (l := [(.iconst (0), 1)]) (pc' := 190) (lo' := [some (.int a1), some (.int a2), some (.int a3)]) (st' := [.int (0 : Int32)]) (q' := q) (P := (True) ∧ (True)) (by decide +kernel) rfl rfl (And.intro trivial trivial) ?_
                      exact mm_ok_iret (by decide +kernel)
def x5_worth_j328 (rr51 : Int32 → Int32 → mm_Q → Option (Int32 × mm_Q)) (a7 : Int32) (a8 : Int32) (q : mm_Q) : Option (Int32 × mm_Q) := (rr51 a7 (a8 + (1 : Int32)) q)
set_option maxRecDepth 20000 in
theorem x5_worth_j328_ok {L : mm_LT} (rr51 : Int32 → Int32 → mm_Q → Option (Int32 × mm_Q)) (hrr51 : ∀ (a7 : Int32) (a8 : Int32) (q : mm_Q), mm_ok mm_cvi (mm_Runs 1) 5 false cX5_worth (some .int) L L 51 [some (.ref 10), none, none, none, none, none, none, some (.int a7), some (.int a8), none, none] [] q (rr51 a7 a8 q)) (a7 : Int32) (a8 : Int32) (q : mm_Q) : mm_ok mm_cvi (mm_Runs 1) 5 false cX5_worth (some .int) L L 328 [some (.ref 10), none, none, none, none, none, none, some (.int a7), some (.int a8), none, none] [] q (x5_worth_j328 rr51 a7 a8 q) := by
  unfold x5_worth_j328
  refine mm_ok_bl (l := [(.iinc 8 (1), 3)]) (pc' := 331) (lo' := [some (.ref 10), none, none, none, none, none, none, some (.int a7), some (.int (a8 + (1 : Int32))), none, none]) (st' := []) (q' := q) (P := (True) ∧ (True)) (by decide +kernel) rfl rfl (And.intro trivial trivial) ?_
  refine mm_ok_goto (pt := 51) (d := -280) (by decide +kernel) (by decide) ?_
  exact mm_ok_sub (lo := [some (.ref 10), none, none, none, none, none, none, some (.int a7), some (.int (a8 + (1 : Int32))), none, none]) (And.intro rfl (And.intro rfl (And.intro rfl trivial))) (hrr51 a7 (a8 + (1 : Int32)) q)
def x5_worth_j145 (rr51 : Int32 → Int32 → mm_Q → Option (Int32 × mm_Q)) (a7 : Int32) (a8 : Int32) (s1 : Int32) (s2 : Int32) (q : mm_Q) : Option (Int32 × mm_Q) := (mm_ck (mm_inb s1 64) (mm_lt (mm_si q 12 s1.toNatClampNeg s2) (fun q39 => (x5_worth_j328 rr51 a7 a8 q39))))
set_option maxRecDepth 20000 in
theorem x5_worth_j145_ok {L : mm_LT} (rr51 : Int32 → Int32 → mm_Q → Option (Int32 × mm_Q)) (hrr51 : ∀ (a7 : Int32) (a8 : Int32) (q : mm_Q), mm_ok mm_cvi (mm_Runs 1) 5 false cX5_worth (some .int) L L 51 [some (.ref 10), none, none, none, none, none, none, some (.int a7), some (.int a8), none, none] [] q (rr51 a7 a8 q)) (a7 : Int32) (a8 : Int32) (s1 : Int32) (s2 : Int32) (q : mm_Q) : mm_ok mm_cvi (mm_Runs 1) 5 false cX5_worth (some .int) L L 145 [some (.ref 10), none, none, none, none, none, none, some (.int a7), some (.int a8), none, none] [.int s2, .int s1, .ref 12] q (x5_worth_j145 rr51 a7 a8 s1 s2 q) := by
  unfold x5_worth_j145
  refine mm_ok_ck (fun c38 => ?_)
  refine mm_ok_bl (l := [(.iastore, 1)]) (pc' := 146) (lo' := [some (.ref 10), none, none, none, none, none, none, some (.int a7), some (.int a8), none, none]) (st' := []) (q' := (mm_si q 12 s1.toNatClampNeg s2)) (P := (mm_ix s1 64) ∧ (True)) (by decide +kernel) rfl rfl (And.intro (mm_inb_ix c38) trivial) ?_
  refine mm_ok_lt (fun q39 => ?_)
  refine mm_ok_goto (pt := 328) (d := 182) (by decide +kernel) (by decide) ?_
  exact mm_ok_sub (lo := [some (.ref 10), none, none, none, none, none, none, some (.int a7), some (.int a8), none, none]) (And.intro rfl (And.intro rfl (And.intro rfl trivial))) (x5_worth_j328_ok rr51 hrr51 a7 a8 q39)
def x5_worth_j143 (rr51 : Int32 → Int32 → mm_Q → Option (Int32 × mm_Q)) (a7 : Int32) (a8 : Int32) (a9 : Int32) (s1 : Int32) (q : mm_Q) : Option (Int32 × mm_Q) := (x5_worth_j145 rr51 a7 a8 s1 a9 q)
set_option maxRecDepth 20000 in
theorem x5_worth_j143_ok {L : mm_LT} (rr51 : Int32 → Int32 → mm_Q → Option (Int32 × mm_Q)) (hrr51 : ∀ (a7 : Int32) (a8 : Int32) (q : mm_Q), mm_ok mm_cvi (mm_Runs 1) 5 false cX5_worth (some .int) L L 51 [some (.ref 10), none, none, none, none, none, none, some (.int a7), some (.int a8), none, none] [] q (rr51 a7 a8 q)) (a7 : Int32) (a8 : Int32) (a9 : Int32) (s1 : Int32) (q : mm_Q) : mm_ok mm_cvi (mm_Runs 1) 5 false cX5_worth (some .int) L L 143 [some (.ref 10), none, none, none, none, none, none, some (.int a7), some (.int a8), some (.int a9), none] [.int s1, .ref 12] q (x5_worth_j143 rr51 a7 a8 a9 s1 q) := by
  unfold x5_worth_j143
  refine mm_ok_bl (l := [(.iload 9, 2)]) (pc' := 145) (lo' := [some (.ref 10), none, none, none, none, none, none, some (.int a7), some (.int a8), some (.int a9), none]) (st' := [.int a9, .int s1, .ref 12]) (q' := q) (P := (True) ∧ (True)) (by decide +kernel) rfl rfl (And.intro trivial trivial) ?_
  exact mm_ok_sub (lo := [some (.ref 10), none, none, none, none, none, none, some (.int a7), some (.int a8), none, none]) (And.intro rfl (And.intro rfl (And.intro rfl trivial))) (x5_worth_j145_ok rr51 hrr51 a7 a8 s1 a9 q)
def x5_worth_j229 (rr51 : Int32 → Int32 → mm_Q → Option (Int32 × mm_Q)) (a7 : Int32) (s0 : Int32) (q : mm_Q) : Option (Int32 × mm_Q) := (x5_worth_j328 rr51 a7 s0 q)
set_option maxRecDepth 20000 in
theorem x5_worth_j229_ok {L : mm_LT} (rr51 : Int32 → Int32 → mm_Q → Option (Int32 × mm_Q)) (hrr51 : ∀ (a7 : Int32) (a8 : Int32) (q : mm_Q), mm_ok mm_cvi (mm_Runs 1) 5 false cX5_worth (some .int) L L 51 [some (.ref 10), none, none, none, none, none, none, some (.int a7), some (.int a8), none, none] [] q (rr51 a7 a8 q)) (a7 : Int32) (s0 : Int32) (q : mm_Q) : mm_ok mm_cvi (mm_Runs 1) 5 false cX5_worth (some .int) L L 229 [some (.ref 10), none, none, none, none, none, none, some (.int a7), none, none, none] [.int s0] q (x5_worth_j229 rr51 a7 s0 q) := by
  unfold x5_worth_j229
  refine mm_ok_bl (l := [(.istore 8, 2)]) (pc' := 231) (lo' := [some (.ref 10), none, none, none, none, none, none, some (.int a7), some (.int s0), none, none]) (st' := []) (q' := q) (P := (True) ∧ (True)) (by decide +kernel) rfl rfl (And.intro trivial trivial) ?_
  refine mm_ok_goto (pt := 328) (d := 97) (by decide +kernel) (by decide) ?_
  exact mm_ok_sub (lo := [some (.ref 10), none, none, none, none, none, none, some (.int a7), some (.int s0), none, none]) (And.intro rfl (And.intro rfl (And.intro rfl trivial))) (x5_worth_j328_ok rr51 hrr51 a7 s0 q)
def x5_worth_j201 (rr51 : Int32 → Int32 → mm_Q → Option (Int32 × mm_Q)) (a7 : Int32) (a8 : Int32) (a9 : Int32) (s0 : Int32) (q : mm_Q) : Option (Int32 × mm_Q) := (if s0 = 0 then (x5_worth_j229 rr51 (a7 + Int32.ofInt (-1)) (mm_max a8 ((a9 - (20000 : Int32)) - (1 : Int32))) q) else (x5_worth_j229 rr51 (a7 + Int32.ofInt (-1)) a8 q))
set_option maxRecDepth 20000 in
theorem x5_worth_j201_ok {L : mm_LT} (rr51 : Int32 → Int32 → mm_Q → Option (Int32 × mm_Q)) (hrr51 : ∀ (a7 : Int32) (a8 : Int32) (q : mm_Q), mm_ok mm_cvi (mm_Runs 1) 5 false cX5_worth (some .int) L L 51 [some (.ref 10), none, none, none, none, none, none, some (.int a7), some (.int a8), none, none] [] q (rr51 a7 a8 q)) (a7 : Int32) (a8 : Int32) (a9 : Int32) (s0 : Int32) (q : mm_Q) : mm_ok mm_cvi (mm_Runs 1) 5 false cX5_worth (some .int) L L 201 [some (.ref 10), none, none, none, none, none, none, some (.int a7), some (.int a8), some (.int a9), none] [.int s0] q (x5_worth_j201 rr51 a7 a8 a9 s0 q) := by
  unfold x5_worth_j201
  refine mm_ok_bl (l := [(.istore 10, 2), (.iinc 7 (-1), 3), (.iload 10, 2)]) (pc' := 208) (lo' := [some (.ref 10), none, none, none, none, none, none, some (.int (a7 + Int32.ofInt (-1))), some (.int a8), some (.int a9), some (.int s0)]) (st' := [.int s0]) (q' := q) (P := (True) ∧ ((True) ∧ ((True) ∧ (True)))) (by decide +kernel) rfl rfl (And.intro trivial (And.intro trivial (And.intro trivial trivial))) ?_
  refine mm_ok_ifCond_eq (pt := 216) (d := 8) (by decide +kernel) (by decide) (fun k42 => ?_) (fun k42 => ?_)
  · refine mm_ok_bl (l := [(.iload 8, 2), (.iload 9, 2), (.iconst (20000), 3), (.isub, 1), (.iconst (1), 1), (.isub, 1), (.ldc 0, 3)]) (pc' := 229) (lo' := [some (.ref 10), none, none, none, none, none, none, some (.int (a7 + Int32.ofInt (-1))), some (.int a8), some (.int a9), some (.int s0)]) (st' := [.int (mm_max a8 ((a9 - (20000 : Int32)) - (1 : Int32)))]) (q' := q) (P := (True) ∧ ((True) ∧ ((True) ∧ ((True) ∧ ((True) ∧ ((True) ∧ ((True) ∧ (True)))))))) (by decide +kernel) rfl rfl (And.intro trivial (And.intro trivial (And.intro trivial (And.intro trivial (And.intro trivial (And.intro trivial (And.intro trivial trivial))))))) ?_
    exact mm_ok_sub (lo := [some (.ref 10), none, none, none, none, none, none, some (.int (a7 + Int32.ofInt (-1))), none, none, none]) (And.intro rfl (And.intro rfl trivial)) (x5_worth_j229_ok rr51 hrr51 (a7 + Int32.ofInt (-1)) (mm_max a8 ((a9 - (20000 : Int32)) - (1 : Int32))) q)
  · refine mm_ok_bl (l := [(.iload 8, 2)]) (pc' := 213) (lo' := [some (.ref 10), none, none, none, none, none, none, some (.int (a7 + Int32.ofInt (-1))), some (.int a8), some (.int a9), some (.int s0)]) (st' := [.int a8]) (q' := q) (P := (True) ∧ (True)) (by decide +kernel) rfl rfl (And.intro trivial trivial) ?_
    refine mm_ok_goto (pt := 229) (d := 16) (by decide +kernel) (by decide) ?_
    exact mm_ok_sub (lo := [some (.ref 10), none, none, none, none, none, none, some (.int (a7 + Int32.ofInt (-1))), none, none, none]) (And.intro rfl (And.intro rfl trivial)) (x5_worth_j229_ok rr51 hrr51 (a7 + Int32.ofInt (-1)) a8 q)
def x5_worth_j286 (rr51 : Int32 → Int32 → mm_Q → Option (Int32 × mm_Q)) (a7 : Int32) (a8 : Int32) (s1 : Int32) (s2 : Int32) (q : mm_Q) : Option (Int32 × mm_Q) := (mm_ck (mm_inb s1 64) (mm_lt (mm_si q 12 s1.toNatClampNeg s2) (fun q41 => (x5_worth_j328 rr51 a7 a8 q41))))
set_option maxRecDepth 20000 in
theorem x5_worth_j286_ok {L : mm_LT} (rr51 : Int32 → Int32 → mm_Q → Option (Int32 × mm_Q)) (hrr51 : ∀ (a7 : Int32) (a8 : Int32) (q : mm_Q), mm_ok mm_cvi (mm_Runs 1) 5 false cX5_worth (some .int) L L 51 [some (.ref 10), none, none, none, none, none, none, some (.int a7), some (.int a8), none, none] [] q (rr51 a7 a8 q)) (a7 : Int32) (a8 : Int32) (s1 : Int32) (s2 : Int32) (q : mm_Q) : mm_ok mm_cvi (mm_Runs 1) 5 false cX5_worth (some .int) L L 286 [some (.ref 10), none, none, none, none, none, none, some (.int a7), some (.int a8), none, none] [.int s2, .int s1, .ref 12] q (x5_worth_j286 rr51 a7 a8 s1 s2 q) := by
  unfold x5_worth_j286
  refine mm_ok_ck (fun c40 => ?_)
  refine mm_ok_bl (l := [(.iastore, 1)]) (pc' := 287) (lo' := [some (.ref 10), none, none, none, none, none, none, some (.int a7), some (.int a8), none, none]) (st' := []) (q' := (mm_si q 12 s1.toNatClampNeg s2)) (P := (mm_ix s1 64) ∧ (True)) (by decide +kernel) rfl rfl (And.intro (mm_inb_ix c40) trivial) ?_
  refine mm_ok_lt (fun q41 => ?_)
  refine mm_ok_goto (pt := 328) (d := 41) (by decide +kernel) (by decide) ?_
  exact mm_ok_sub (lo := [some (.ref 10), none, none, none, none, none, none, some (.int a7), some (.int a8), none, none]) (And.intro rfl (And.intro rfl (And.intro rfl trivial))) (x5_worth_j328_ok rr51 hrr51 a7 a8 q41)
def x5_worth_j149 (rr51 : Int32 → Int32 → mm_Q → Option (Int32 × mm_Q)) (a7 : Int32) (a8 : Int32) (a9 : Int32) (q : mm_Q) : Option (Int32 × mm_Q) := (if a7 < 0 then (some ((0 : Int32), q)) else (if a7 < (64 : Int32) then (if a9 = (-2 : Int32) then (mm_ck (mm_inb a7 64) (some (q.1 12 a7.toNatClampNeg, q))) else (if a9 < (20000 : Int32) then (if a9 = (-1 : Int32) then (mm_ck (mm_inb a7 64) (mm_ck (mm_inb a7 64) (mm_lt (mm_si q 12 a7.toNatClampNeg (-(q.1 12 a7.toNatClampNeg))) (fun q25 => (x5_worth_j328 rr51 a7 a8 q25))))) else (if a9 = (-33 : Int32) then (mm_ck (mm_inb a7 64) (if (q.1 12 a7.toNatClampNeg) = 0 then (x5_worth_j286 rr51 a7 a8 a7 (1 : Int32) q) else (x5_worth_j286 rr51 a7 a8 a7 (0 : Int32) q))) else (if a7 < (1 : Int32) then (x5_worth_j328 rr51 a7 a8 q) else (mm_ck (mm_inb (a7 + Int32.ofInt (-1)) 64) (mm_ck (mm_inb ((a7 + Int32.ofInt (-1)) + (1 : Int32)) 64) (mm_cl (x5_joined (-a9) (q.1 12 (a7 + Int32.ofInt (-1)).toNatClampNeg) (q.1 12 ((a7 + Int32.ofInt (-1)) + (1 : Int32)).toNatClampNeg) q) (fun r32 q33 => (mm_ck (mm_inb (a7 + Int32.ofInt (-1)) 64) (mm_lt (mm_si q33 12 (a7 + Int32.ofInt (-1)).toNatClampNeg r32) (fun q35 => (x5_worth_j328 rr51 (a7 + Int32.ofInt (-1)) a8 q35))))))))))) else (mm_ck (mm_inb a7 64) (if (q.1 12 a7.toNatClampNeg) = 0 then (x5_worth_j201 rr51 a7 a8 a9 (0 : Int32) q) else (x5_worth_j201 rr51 a7 a8 a9 (1 : Int32) q))))) else (some ((0 : Int32), q))))
set_option maxRecDepth 20000 in
theorem x5_worth_j149_ok {L : mm_LT} (rr51 : Int32 → Int32 → mm_Q → Option (Int32 × mm_Q)) (hrr51 : ∀ (a7 : Int32) (a8 : Int32) (q : mm_Q), mm_ok mm_cvi (mm_Runs 1) 5 false cX5_worth (some .int) L L 51 [some (.ref 10), none, none, none, none, none, none, some (.int a7), some (.int a8), none, none] [] q (rr51 a7 a8 q)) (a7 : Int32) (a8 : Int32) (a9 : Int32) (q : mm_Q) : mm_ok mm_cvi (mm_Runs 1) 5 false cX5_worth (some .int) L L 149 [some (.ref 10), none, none, none, none, none, none, some (.int a7), some (.int a8), some (.int a9), none] [] q (x5_worth_j149 rr51 a7 a8 a9 q) := by
  unfold x5_worth_j149
  refine mm_ok_bl (l := [(.iload 7, 2)]) (pc' := 151) (lo' := [some (.ref 10), none, none, none, none, none, none, some (.int a7), some (.int a8), some (.int a9), none]) (st' := [.int a7]) (q' := q) (P := (True) ∧ (True)) (by decide +kernel) rfl rfl (And.intro trivial trivial) ?_
  refine mm_ok_ifCond_lt (pt := 161) (d := 10) (by decide +kernel) (by decide) (fun k17 => ?_) (fun k17 => ?_)
  · refine mm_ok_bl (l := [(.iconst (0), 1)]) (pc' := 162) (lo' := [some (.ref 10), none, none, none, none, none, none, some (.int a7), some (.int a8), some (.int a9), none]) (st' := [.int (0 : Int32)]) (q' := q) (P := (True) ∧ (True)) (by decide +kernel) rfl rfl (And.intro trivial trivial) ?_
    exact mm_ok_iret (by decide +kernel)
  · refine mm_ok_bl (l := [(.iload 7, 2), (.iconst (64), 2)]) (pc' := 158) (lo' := [some (.ref 10), none, none, none, none, none, none, some (.int a7), some (.int a8), some (.int a9), none]) (st' := [.int (64 : Int32), .int a7]) (q' := q) (P := (True) ∧ ((True) ∧ (True))) (by decide +kernel) rfl rfl (And.intro trivial (And.intro trivial trivial)) ?_
    refine mm_ok_if_icmp_lt (pt := 163) (d := 5) (by decide +kernel) (by decide) (fun k18 => ?_) (fun k18 => ?_)
    · refine mm_ok_bl (l := [(.iload 9, 2), (.iconst (-2), 2)]) (pc' := 167) (lo' := [some (.ref 10), none, none, none, none, none, none, some (.int a7), some (.int a8), some (.int a9), none]) (st' := [.int (-2 : Int32), .int a9]) (q' := q) (P := (True) ∧ ((True) ∧ (True))) (by decide +kernel) rfl rfl (And.intro trivial (And.intro trivial trivial)) ?_
      refine mm_ok_if_icmp_ne (pt := 178) (d := 11) (by decide +kernel) (by decide) (fun k19 => ?_) (fun k19 => ?_)
      · refine mm_ok_bl (l := [(.aload 0, 1), (.getfield 321, 3), (.iload 7, 2)]) (pc' := 176) (lo' := [some (.ref 10), none, none, none, none, none, none, some (.int a7), some (.int a8), some (.int a9), none]) (st' := [.int a7, .ref 12]) (q' := q) (P := (True) ∧ ((True) ∧ ((True) ∧ (True)))) (by decide +kernel) rfl rfl (And.intro trivial (And.intro trivial (And.intro trivial trivial))) ?_
        refine mm_ok_ck (fun c20 => ?_)
        refine mm_ok_bl (l := [(.iaload, 1)]) (pc' := 177) (lo' := [some (.ref 10), none, none, none, none, none, none, some (.int a7), some (.int a8), some (.int a9), none]) (st' := [.int (q.1 12 a7.toNatClampNeg)]) (q' := q) (P := (mm_ix a7 64) ∧ (True)) (by decide +kernel) rfl rfl (And.intro (mm_inb_ix c20) trivial) ?_
        exact mm_ok_iret (by decide +kernel)
      · refine mm_ok_bl (l := [(.iload 9, 2), (.iconst (20000), 3)]) (pc' := 183) (lo' := [some (.ref 10), none, none, none, none, none, none, some (.int a7), some (.int a8), some (.int a9), none]) (st' := [.int (20000 : Int32), .int a9]) (q' := q) (P := (True) ∧ ((True) ∧ (True))) (by decide +kernel) rfl rfl (And.intro trivial (And.intro trivial trivial)) ?_
        refine mm_ok_if_icmp_lt (pt := 234) (d := 51) (by decide +kernel) (by decide) (fun k21 => ?_) (fun k21 => ?_)
        · refine mm_ok_bl (l := [(.iload 9, 2), (.iconst (-1), 1)]) (pc' := 237) (lo' := [some (.ref 10), none, none, none, none, none, none, some (.int a7), some (.int a8), some (.int a9), none]) (st' := [.int (-1 : Int32), .int a9]) (q' := q) (P := (True) ∧ ((True) ∧ (True))) (by decide +kernel) rfl rfl (And.intro trivial (And.intro trivial trivial)) ?_
          refine mm_ok_if_icmp_ne (pt := 258) (d := 21) (by decide +kernel) (by decide) (fun k22 => ?_) (fun k22 => ?_)
          · refine mm_ok_bl (l := [(.aload 0, 1), (.getfield 321, 3), (.iload 7, 2), (.aload 0, 1), (.getfield 321, 3), (.iload 7, 2)]) (pc' := 252) (lo' := [some (.ref 10), none, none, none, none, none, none, some (.int a7), some (.int a8), some (.int a9), none]) (st' := [.int a7, .ref 12, .int a7, .ref 12]) (q' := q) (P := (True) ∧ ((True) ∧ ((True) ∧ ((True) ∧ ((True) ∧ ((True) ∧ (True))))))) (by decide +kernel) rfl rfl (And.intro trivial (And.intro trivial (And.intro trivial (And.intro trivial (And.intro trivial (And.intro trivial trivial)))))) ?_
            refine mm_ok_ck (fun c23 => ?_)
            refine mm_ok_bl (l := [(.iaload, 1), (.ineg, 1)]) (pc' := 254) (lo' := [some (.ref 10), none, none, none, none, none, none, some (.int a7), some (.int a8), some (.int a9), none]) (st' := [.int (-(q.1 12 a7.toNatClampNeg)), .int a7, .ref 12]) (q' := q) (P := (mm_ix a7 64) ∧ ((True) ∧ (True))) (by decide +kernel) rfl rfl (And.intro (mm_inb_ix c23) (And.intro trivial trivial)) ?_
            refine mm_ok_ck (fun c24 => ?_)
            refine mm_ok_bl (l := [(.iastore, 1)]) (pc' := 255) (lo' := [some (.ref 10), none, none, none, none, none, none, some (.int a7), some (.int a8), some (.int a9), none]) (st' := []) (q' := (mm_si q 12 a7.toNatClampNeg (-(q.1 12 a7.toNatClampNeg)))) (P := (mm_ix a7 64) ∧ (True)) (by decide +kernel) rfl rfl (And.intro (mm_inb_ix c24) trivial) ?_
            refine mm_ok_lt (fun q25 => ?_)
            refine mm_ok_goto (pt := 328) (d := 73) (by decide +kernel) (by decide) ?_
            exact mm_ok_sub (lo := [some (.ref 10), none, none, none, none, none, none, some (.int a7), some (.int a8), none, none]) (And.intro rfl (And.intro rfl (And.intro rfl trivial))) (x5_worth_j328_ok rr51 hrr51 a7 a8 q25)
          · refine mm_ok_bl (l := [(.iload 9, 2), (.iconst (-33), 2)]) (pc' := 262) (lo' := [some (.ref 10), none, none, none, none, none, none, some (.int a7), some (.int a8), some (.int a9), none]) (st' := [.int (-33 : Int32), .int a9]) (q' := q) (P := (True) ∧ ((True) ∧ (True))) (by decide +kernel) rfl rfl (And.intro trivial (And.intro trivial trivial)) ?_
            refine mm_ok_if_icmp_ne (pt := 290) (d := 28) (by decide +kernel) (by decide) (fun k26 => ?_) (fun k26 => ?_)
            · refine mm_ok_bl (l := [(.aload 0, 1), (.getfield 321, 3), (.iload 7, 2), (.aload 0, 1), (.getfield 321, 3), (.iload 7, 2)]) (pc' := 277) (lo' := [some (.ref 10), none, none, none, none, none, none, some (.int a7), some (.int a8), some (.int a9), none]) (st' := [.int a7, .ref 12, .int a7, .ref 12]) (q' := q) (P := (True) ∧ ((True) ∧ ((True) ∧ ((True) ∧ ((True) ∧ ((True) ∧ (True))))))) (by decide +kernel) rfl rfl (And.intro trivial (And.intro trivial (And.intro trivial (And.intro trivial (And.intro trivial (And.intro trivial trivial)))))) ?_
              refine mm_ok_ck (fun c27 => ?_)
              refine mm_ok_bl (l := [(.iaload, 1)]) (pc' := 278) (lo' := [some (.ref 10), none, none, none, none, none, none, some (.int a7), some (.int a8), some (.int a9), none]) (st' := [.int (q.1 12 a7.toNatClampNeg), .int a7, .ref 12]) (q' := q) (P := (mm_ix a7 64) ∧ (True)) (by decide +kernel) rfl rfl (And.intro (mm_inb_ix c27) trivial) ?_
              refine mm_ok_ifCond_ne (pt := 285) (d := 7) (by decide +kernel) (by decide) (fun k28 => ?_) (fun k28 => ?_)
              · refine mm_ok_bl (l := [(.iconst (1), 1)]) (pc' := 282) (lo' := [some (.ref 10), none, none, none, none, none, none, some (.int a7), some (.int a8), some (.int a9), none]) (st' := [.int (1 : Int32), .int a7, .ref 12]) (q' := q) (P := (True) ∧ (True)) (by decide +kernel) rfl rfl (And.intro trivial trivial) ?_
                refine mm_ok_goto (pt := 286) (d := 4) (by decide +kernel) (by decide) ?_
                exact mm_ok_sub (lo := [some (.ref 10), none, none, none, none, none, none, some (.int a7), some (.int a8), none, none]) (And.intro rfl (And.intro rfl (And.intro rfl trivial))) (x5_worth_j286_ok rr51 hrr51 a7 a8 a7 (1 : Int32) q)
              · refine mm_ok_bl (l := [(.iconst (0), 1)]) (pc' := 286) (lo' := [some (.ref 10), none, none, none, none, none, none, some (.int a7), some (.int a8), some (.int a9), none]) (st' := [.int (0 : Int32), .int a7, .ref 12]) (q' := q) (P := (True) ∧ (True)) (by decide +kernel) rfl rfl (And.intro trivial trivial) ?_
                exact mm_ok_sub (lo := [some (.ref 10), none, none, none, none, none, none, some (.int a7), some (.int a8), none, none]) (And.intro rfl (And.intro rfl (And.intro rfl trivial))) (x5_worth_j286_ok rr51 hrr51 a7 a8 a7 (0 : Int32) q)
            · refine mm_ok_bl (l := [(.iload 7, 2), (.iconst (1), 1)]) (pc' := 293) (lo' := [some (.ref 10), none, none, none, none, none, none, some (.int a7), some (.int a8), some (.int a9), none]) (st' := [.int (1 : Int32), .int a7]) (q' := q) (P := (True) ∧ ((True) ∧ (True))) (by decide +kernel) rfl rfl (And.intro trivial (And.intro trivial trivial)) ?_
              refine mm_ok_if_icmp_lt (pt := 328) (d := 35) (by decide +kernel) (by decide) (fun k29 => ?_) (fun k29 => ?_)
              · exact mm_ok_sub (lo := [some (.ref 10), none, none, none, none, none, none, some (.int a7), some (.int a8), none, none]) (And.intro rfl (And.intro rfl (And.intro rfl trivial))) (x5_worth_j328_ok rr51 hrr51 a7 a8 q)
              · refine mm_ok_bl (l := [(.iinc 7 (-1), 3), (.aload 0, 1), (.getfield 321, 3), (.iload 7, 2), (.iload 9, 2), (.ineg, 1), (.aload 0, 1), (.getfield 321, 3), (.iload 7, 2)]) (pc' := 314) (lo' := [some (.ref 10), none, none, none, none, none, none, some (.int (a7 + Int32.ofInt (-1))), some (.int a8), some (.int a9), none]) (st' := [.int (a7 + Int32.ofInt (-1)), .ref 12, .int (-a9), .int (a7 + Int32.ofInt (-1)), .ref 12]) (q' := q) (P := (True) ∧ ((True) ∧ ((True) ∧ ((True) ∧ ((True) ∧ ((True) ∧ ((True) ∧ ((True) ∧ ((True) ∧ (True)))))))))) (by decide +kernel) rfl rfl (And.intro trivial (And.intro trivial (And.intro trivial (And.intro trivial (And.intro trivial (And.intro trivial (And.intro trivial (And.intro trivial (And.intro trivial trivial))))))))) ?_
                refine mm_ok_ck (fun c30 => ?_)
                refine mm_ok_bl (l := [(.iaload, 1), (.aload 0, 1), (.getfield 321, 3), (.iload 7, 2), (.iconst (1), 1), (.iadd, 1)]) (pc' := 323) (lo' := [some (.ref 10), none, none, none, none, none, none, some (.int (a7 + Int32.ofInt (-1))), some (.int a8), some (.int a9), none]) (st' := [.int ((a7 + Int32.ofInt (-1)) + (1 : Int32)), .ref 12, .int (q.1 12 (a7 + Int32.ofInt (-1)).toNatClampNeg), .int (-a9), .int (a7 + Int32.ofInt (-1)), .ref 12]) (q' := q) (P := (mm_ix (a7 + Int32.ofInt (-1)) 64) ∧ ((True) ∧ ((True) ∧ ((True) ∧ ((True) ∧ ((True) ∧ (True))))))) (by decide +kernel) rfl rfl (And.intro (mm_inb_ix c30) (And.intro trivial (And.intro trivial (And.intro trivial (And.intro trivial (And.intro trivial trivial)))))) ?_
                refine mm_ok_ck (fun c31 => ?_)
                refine mm_ok_bl (l := [(.iaload, 1)]) (pc' := 324) (lo' := [some (.ref 10), none, none, none, none, none, none, some (.int (a7 + Int32.ofInt (-1))), some (.int a8), some (.int a9), none]) (st' := [.int (q.1 12 ((a7 + Int32.ofInt (-1)) + (1 : Int32)).toNatClampNeg), .int (q.1 12 (a7 + Int32.ofInt (-1)).toNatClampNeg), .int (-a9), .int (a7 + Int32.ofInt (-1)), .ref 12]) (q' := q) (P := (mm_ix ((a7 + Int32.ofInt (-1)) + (1 : Int32)) 64) ∧ (True)) (by decide +kernel) rfl rfl (And.intro (mm_inb_ix c31) trivial) ?_
                refine mm_ok_call (cz := mm_cvi) (j := .invokestatic 403) (y := 25) (as := [.int (-a9), .int (q.1 12 (a7 + Int32.ofInt (-1)).toNatClampNeg), .int (q.1 12 ((a7 + Int32.ofInt (-1)) + (1 : Int32)).toNatClampNeg)]) (t := [.int (a7 + Int32.ofInt (-1)), .ref 12]) (by decide +kernel) rfl (fun _ _ h => mm_up (k := 1) (by decide) (x5_joined_ok h)) (fun r32 q33 => ?_)
                refine mm_ok_ck (fun c34 => ?_)
                refine mm_ok_bl (l := [(.iastore, 1)]) (pc' := 328) (lo' := [some (.ref 10), none, none, none, none, none, none, some (.int (a7 + Int32.ofInt (-1))), some (.int a8), some (.int a9), none]) (st' := []) (q' := (mm_si q33 12 (a7 + Int32.ofInt (-1)).toNatClampNeg r32)) (P := (mm_ix (a7 + Int32.ofInt (-1)) 64) ∧ (True)) (by decide +kernel) rfl rfl (And.intro (mm_inb_ix c34) trivial) ?_
                refine mm_ok_lt (fun q35 => ?_)
                exact mm_ok_sub (lo := [some (.ref 10), none, none, none, none, none, none, some (.int (a7 + Int32.ofInt (-1))), some (.int a8), none, none]) (And.intro rfl (And.intro rfl (And.intro rfl trivial))) (x5_worth_j328_ok rr51 hrr51 (a7 + Int32.ofInt (-1)) a8 q35)
        · refine mm_ok_bl (l := [(.aload 0, 1), (.getfield 321, 3), (.iload 7, 2)]) (pc' := 192) (lo' := [some (.ref 10), none, none, none, none, none, none, some (.int a7), some (.int a8), some (.int a9), none]) (st' := [.int a7, .ref 12]) (q' := q) (P := (True) ∧ ((True) ∧ ((True) ∧ (True)))) (by decide +kernel) rfl rfl (And.intro trivial (And.intro trivial (And.intro trivial trivial))) ?_
          refine mm_ok_ck (fun c36 => ?_)
          refine mm_ok_bl (l := [(.iaload, 1)]) (pc' := 193) (lo' := [some (.ref 10), none, none, none, none, none, none, some (.int a7), some (.int a8), some (.int a9), none]) (st' := [.int (q.1 12 a7.toNatClampNeg)]) (q' := q) (P := (mm_ix a7 64) ∧ (True)) (by decide +kernel) rfl rfl (And.intro (mm_inb_ix c36) trivial) ?_
          refine mm_ok_ifCond_eq (pt := 200) (d := 7) (by decide +kernel) (by decide) (fun k37 => ?_) (fun k37 => ?_)
          · refine mm_ok_bl (l := [(.iconst (0), 1)]) (pc' := 201) (lo' := [some (.ref 10), none, none, none, none, none, none, some (.int a7), some (.int a8), some (.int a9), none]) (st' := [.int (0 : Int32)]) (q' := q) (P := (True) ∧ (True)) (by decide +kernel) rfl rfl (And.intro trivial trivial) ?_
            exact mm_ok_sub (lo := [some (.ref 10), none, none, none, none, none, none, some (.int a7), some (.int a8), some (.int a9), none]) (And.intro rfl (And.intro rfl (And.intro rfl (And.intro rfl trivial)))) (x5_worth_j201_ok rr51 hrr51 a7 a8 a9 (0 : Int32) q)
          · refine mm_ok_bl (l := [(.iconst (1), 1)]) (pc' := 197) (lo' := [some (.ref 10), none, none, none, none, none, none, some (.int a7), some (.int a8), some (.int a9), none]) (st' := [.int (1 : Int32)]) (q' := q) (P := (True) ∧ (True)) (by decide +kernel) rfl rfl (And.intro trivial trivial) ?_
            refine mm_ok_goto (pt := 201) (d := 4) (by decide +kernel) (by decide) ?_
            exact mm_ok_sub (lo := [some (.ref 10), none, none, none, none, none, none, some (.int a7), some (.int a8), some (.int a9), none]) (And.intro rfl (And.intro rfl (And.intro rfl (And.intro rfl trivial)))) (x5_worth_j201_ok rr51 hrr51 a7 a8 a9 (1 : Int32) q)
    · refine mm_ok_bl (l := [(.iconst (0), 1)]) (pc' := 162) (lo' := [some (.ref 10), none, none, none, none, none, none, some (.int a7), some (.int a8), some (.int a9), none]) (st' := [.int (0 : Int32)]) (q' := q) (P := (True) ∧ (True)) (by decide +kernel) rfl rfl (And.intro trivial trivial) ?_
      exact mm_ok_iret (by decide +kernel)
def x5_worth_h51 : Nat → Int32 → Int32 → mm_Q → Option (Int32 × mm_Q)
  | 0, _, _, _ => none
  | n + 1, a7, a8, q => (if (q.1 10 3) ≤ a8 then (some ((0 : Int32), q)) else (if (200 : Int32) ≤ a8 then (some ((0 : Int32), q)) else (mm_ck (mm_inb a8 200) (if (q.1 11 a8.toNatClampNeg) < 0 then (x5_worth_j149 (x5_worth_h51 n) a7 a8 (q.1 11 a8.toNatClampNeg) q) else (if (20000 : Int32) ≤ (q.1 11 a8.toNatClampNeg) then (x5_worth_j149 (x5_worth_h51 n) a7 a8 (q.1 11 a8.toNatClampNeg) q) else (if (a7 + (1 : Int32)) < 0 then (some ((0 : Int32), q)) else (if (a7 + (1 : Int32)) < (64 : Int32) then (if ((q.1 11 a8.toNatClampNeg) - (10000 : Int32)) < 0 then (x5_worth_j143 (x5_worth_h51 n) (a7 + (1 : Int32)) a8 (q.1 11 a8.toNatClampNeg) (a7 + (1 : Int32)) q) else (if (6 : Int32) ≤ ((q.1 11 a8.toNatClampNeg) - (10000 : Int32)) then (x5_worth_j143 (x5_worth_h51 n) (a7 + (1 : Int32)) a8 (q.1 11 a8.toNatClampNeg) (a7 + (1 : Int32)) q) else (mm_ck (mm_inb ((q.1 11 a8.toNatClampNeg) - (10000 : Int32)) 6) (x5_worth_j145 (x5_worth_h51 n) (a7 + (1 : Int32)) a8 (a7 + (1 : Int32)) (q.1 13 ((q.1 11 a8.toNatClampNeg) - (10000 : Int32)).toNatClampNeg) q)))) else (some ((0 : Int32), q)))))))))
set_option maxRecDepth 20000 in
theorem x5_worth_h51_ok {L : mm_LT} : ∀ (n : Nat) (a7 : Int32) (a8 : Int32) (q : mm_Q), mm_ok mm_cvi (mm_Runs 1) 5 false cX5_worth (some .int) L L 51 [some (.ref 10), none, none, none, none, none, none, some (.int a7), some (.int a8), none, none] [] q (x5_worth_h51 n a7 a8 q)
  | 0, _, _, _ => by
    exact mm_ok_none
  | n + 1, a7, a8, q => by
    unfold x5_worth_h51
    refine mm_ok_bl (l := [(.iload 8, 2), (.aload 0, 1), (.getfield 323, 3)]) (pc' := 57) (lo' := [some (.ref 10), none, none, none, none, none, none, some (.int a7), some (.int a8), none, none]) (st' := [.int (q.1 10 3), .int a8]) (q' := q) (P := (True) ∧ ((True) ∧ ((True) ∧ (True)))) (by decide +kernel) rfl rfl (And.intro trivial (And.intro trivial (And.intro trivial trivial))) ?_
    refine mm_ok_if_icmp_ge (pt := 334) (d := 277) (by decide +kernel) (by decide) (fun k7 => ?_) (fun k7 => ?_)
    · refine mm_ok_bl (l := [(.iconst (0), 1)]) (pc' := 335) (lo' := [some (.ref 10), none, none, none, none, none, none, some (.int a7), some (.int a8), none, none]) (st' := [.int (0 : Int32)]) (q' := q) (P := (True) ∧ (True)) (by decide +kernel) rfl rfl (And.intro trivial trivial) ?_
      exact mm_ok_iret (by decide +kernel)
    · refine mm_ok_bl (l := [(.iload 8, 2), (.iconst (200), 3)]) (pc' := 65) (lo' := [some (.ref 10), none, none, none, none, none, none, some (.int a7), some (.int a8), none, none]) (st' := [.int (200 : Int32), .int a8]) (q' := q) (P := (True) ∧ ((True) ∧ (True))) (by decide +kernel) rfl rfl (And.intro trivial (And.intro trivial trivial)) ?_
      refine mm_ok_if_icmp_ge (pt := 334) (d := 269) (by decide +kernel) (by decide) (fun k8 => ?_) (fun k8 => ?_)
      · refine mm_ok_bl (l := [(.iconst (0), 1)]) (pc' := 335) (lo' := [some (.ref 10), none, none, none, none, none, none, some (.int a7), some (.int a8), none, none]) (st' := [.int (0 : Int32)]) (q' := q) (P := (True) ∧ (True)) (by decide +kernel) rfl rfl (And.intro trivial trivial) ?_
        exact mm_ok_iret (by decide +kernel)
      · refine mm_ok_bl (l := [(.aload 0, 1), (.getfield 320, 3), (.iload 8, 2)]) (pc' := 74) (lo' := [some (.ref 10), none, none, none, none, none, none, some (.int a7), some (.int a8), none, none]) (st' := [.int a8, .ref 11]) (q' := q) (P := (True) ∧ ((True) ∧ ((True) ∧ (True)))) (by decide +kernel) rfl rfl (And.intro trivial (And.intro trivial (And.intro trivial trivial))) ?_
        refine mm_ok_ck (fun c9 => ?_)
        refine mm_ok_bl (l := [(.iaload, 1), (.istore 9, 2), (.iload 9, 2)]) (pc' := 79) (lo' := [some (.ref 10), none, none, none, none, none, none, some (.int a7), some (.int a8), some (.int (q.1 11 a8.toNatClampNeg)), none]) (st' := [.int (q.1 11 a8.toNatClampNeg)]) (q' := q) (P := (mm_ix a8 200) ∧ ((True) ∧ ((True) ∧ (True)))) (by decide +kernel) rfl rfl (And.intro (mm_inb_ix c9) (And.intro trivial (And.intro trivial trivial))) ?_
        refine mm_ok_ifCond_lt (pt := 149) (d := 70) (by decide +kernel) (by decide) (fun k10 => ?_) (fun k10 => ?_)
        · exact mm_ok_sub (lo := [some (.ref 10), none, none, none, none, none, none, some (.int a7), some (.int a8), some (.int (q.1 11 a8.toNatClampNeg)), none]) (And.intro rfl (And.intro rfl (And.intro rfl (And.intro rfl trivial)))) (x5_worth_j149_ok (x5_worth_h51 n) (x5_worth_h51_ok n) a7 a8 (q.1 11 a8.toNatClampNeg) q)
        · refine mm_ok_bl (l := [(.iload 9, 2), (.iconst (20000), 3)]) (pc' := 87) (lo' := [some (.ref 10), none, none, none, none, none, none, some (.int a7), some (.int a8), some (.int (q.1 11 a8.toNatClampNeg)), none]) (st' := [.int (20000 : Int32), .int (q.1 11 a8.toNatClampNeg)]) (q' := q) (P := (True) ∧ ((True) ∧ (True))) (by decide +kernel) rfl rfl (And.intro trivial (And.intro trivial trivial)) ?_
          refine mm_ok_if_icmp_ge (pt := 149) (d := 62) (by decide +kernel) (by decide) (fun k11 => ?_) (fun k11 => ?_)
          · exact mm_ok_sub (lo := [some (.ref 10), none, none, none, none, none, none, some (.int a7), some (.int a8), some (.int (q.1 11 a8.toNatClampNeg)), none]) (And.intro rfl (And.intro rfl (And.intro rfl (And.intro rfl trivial)))) (x5_worth_j149_ok (x5_worth_h51 n) (x5_worth_h51_ok n) a7 a8 (q.1 11 a8.toNatClampNeg) q)
          · refine mm_ok_bl (l := [(.iinc 7 (1), 3), (.iload 7, 2)]) (pc' := 95) (lo' := [some (.ref 10), none, none, none, none, none, none, some (.int (a7 + (1 : Int32))), some (.int a8), some (.int (q.1 11 a8.toNatClampNeg)), none]) (st' := [.int (a7 + (1 : Int32))]) (q' := q) (P := (True) ∧ ((True) ∧ (True))) (by decide +kernel) rfl rfl (And.intro trivial (And.intro trivial trivial)) ?_
            refine mm_ok_ifCond_lt (pt := 105) (d := 10) (by decide +kernel) (by decide) (fun k12 => ?_) (fun k12 => ?_)
            · refine mm_ok_bl (l := [(.iconst (0), 1)]) (pc' := 106) (lo' := [some (.ref 10), none, none, none, none, none, none, some (.int (a7 + (1 : Int32))), some (.int a8), some (.int (q.1 11 a8.toNatClampNeg)), none]) (st' := [.int (0 : Int32)]) (q' := q) (P := (True) ∧ (True)) (by decide +kernel) rfl rfl (And.intro trivial trivial) ?_
              exact mm_ok_iret (by decide +kernel)
            · refine mm_ok_bl (l := [(.iload 7, 2), (.iconst (64), 2)]) (pc' := 102) (lo' := [some (.ref 10), none, none, none, none, none, none, some (.int (a7 + (1 : Int32))), some (.int a8), some (.int (q.1 11 a8.toNatClampNeg)), none]) (st' := [.int (64 : Int32), .int (a7 + (1 : Int32))]) (q' := q) (P := (True) ∧ ((True) ∧ (True))) (by decide +kernel) rfl rfl (And.intro trivial (And.intro trivial trivial)) ?_
              refine mm_ok_if_icmp_lt (pt := 107) (d := 5) (by decide +kernel) (by decide) (fun k13 => ?_) (fun k13 => ?_)
              · refine mm_ok_bl (l := [(.iload 9, 2), (.iconst (10000), 3), (.isub, 1), (.istore 10, 2), (.aload 0, 1), (.getfield 321, 3), (.iload 7, 2), (.iload 10, 2)]) (pc' := 123) (lo' := [some (.ref 10), none, none, none, none, none, none, some (.int (a7 + (1 : Int32))), some (.int a8), some (.int (q.1 11 a8.toNatClampNeg)), some (.int ((q.1 11 a8.toNatClampNeg) - (10000 : Int32)))]) (st' := [.int ((q.1 11 a8.toNatClampNeg) - (10000 : Int32)), .int (a7 + (1 : Int32)), .ref 12]) (q' := q) (P := (True) ∧ ((True) ∧ ((True) ∧ ((True) ∧ ((True) ∧ ((True) ∧ ((True) ∧ ((True) ∧ (True))))))))) (by decide +kernel) rfl rfl (And.intro trivial (And.intro trivial (And.intro trivial (And.intro trivial (And.intro trivial (And.intro trivial (And.intro trivial (And.intro trivial trivial)))))))) ?_
                refine mm_ok_ifCond_lt (pt := 143) (d := 20) (by decide +kernel) (by decide) (fun k14 => ?_) (fun k14 => ?_)
                · exact mm_ok_sub (lo := [some (.ref 10), none, none, none, none, none, none, some (.int (a7 + (1 : Int32))), some (.int a8), some (.int (q.1 11 a8.toNatClampNeg)), none]) (And.intro rfl (And.intro rfl (And.intro rfl (And.intro rfl trivial)))) (x5_worth_j143_ok (x5_worth_h51 n) (x5_worth_h51_ok n) (a7 + (1 : Int32)) a8 (q.1 11 a8.toNatClampNeg) (a7 + (1 : Int32)) q)
                · refine mm_ok_bl (l := [(.iload 10, 2), (.iconst (6), 2)]) (pc' := 130) (lo' := [some (.ref 10), none, none, none, none, none, none, some (.int (a7 + (1 : Int32))), some (.int a8), some (.int (q.1 11 a8.toNatClampNeg)), some (.int ((q.1 11 a8.toNatClampNeg) - (10000 : Int32)))]) (st' := [.int (6 : Int32), .int ((q.1 11 a8.toNatClampNeg) - (10000 : Int32)), .int (a7 + (1 : Int32)), .ref 12]) (q' := q) (P := (True) ∧ ((True) ∧ (True))) (by decide +kernel) rfl rfl (And.intro trivial (And.intro trivial trivial)) ?_
                  refine mm_ok_if_icmp_ge (pt := 143) (d := 13) (by decide +kernel) (by decide) (fun k15 => ?_) (fun k15 => ?_)
                  · exact mm_ok_sub (lo := [some (.ref 10), none, none, none, none, none, none, some (.int (a7 + (1 : Int32))), some (.int a8), some (.int (q.1 11 a8.toNatClampNeg)), none]) (And.intro rfl (And.intro rfl (And.intro rfl (And.intro rfl trivial)))) (x5_worth_j143_ok (x5_worth_h51 n) (x5_worth_h51_ok n) (a7 + (1 : Int32)) a8 (q.1 11 a8.toNatClampNeg) (a7 + (1 : Int32)) q)
                  · refine mm_ok_bl (l := [(.aload 0, 1), (.getfield 322, 3), (.iload 10, 2)]) (pc' := 139) (lo' := [some (.ref 10), none, none, none, none, none, none, some (.int (a7 + (1 : Int32))), some (.int a8), some (.int (q.1 11 a8.toNatClampNeg)), some (.int ((q.1 11 a8.toNatClampNeg) - (10000 : Int32)))]) (st' := [.int ((q.1 11 a8.toNatClampNeg) - (10000 : Int32)), .ref 13, .int (a7 + (1 : Int32)), .ref 12]) (q' := q) (P := (True) ∧ ((True) ∧ ((True) ∧ (True)))) (by decide +kernel) rfl rfl (And.intro trivial (And.intro trivial (And.intro trivial trivial))) ?_
                    refine mm_ok_ck (fun c16 => ?_)
                    refine mm_ok_bl (l := [(.iaload, 1)]) (pc' := 140) (lo' := [some (.ref 10), none, none, none, none, none, none, some (.int (a7 + (1 : Int32))), some (.int a8), some (.int (q.1 11 a8.toNatClampNeg)), some (.int ((q.1 11 a8.toNatClampNeg) - (10000 : Int32)))]) (st' := [.int (q.1 13 ((q.1 11 a8.toNatClampNeg) - (10000 : Int32)).toNatClampNeg), .int (a7 + (1 : Int32)), .ref 12]) (q' := q) (P := (mm_ix ((q.1 11 a8.toNatClampNeg) - (10000 : Int32)) 6) ∧ (True)) (by decide +kernel) rfl rfl (And.intro (mm_inb_ix c16) trivial) ?_
                    refine mm_ok_goto (pt := 145) (d := 5) (by decide +kernel) (by decide) ?_
                    exact mm_ok_sub (lo := [some (.ref 10), none, none, none, none, none, none, some (.int (a7 + (1 : Int32))), some (.int a8), none, none]) (And.intro rfl (And.intro rfl (And.intro rfl trivial))) (x5_worth_j145_ok (x5_worth_h51 n) (x5_worth_h51_ok n) (a7 + (1 : Int32)) a8 (a7 + (1 : Int32)) (q.1 13 ((q.1 11 a8.toNatClampNeg) - (10000 : Int32)).toNatClampNeg) q)
              · refine mm_ok_bl (l := [(.iconst (0), 1)]) (pc' := 106) (lo' := [some (.ref 10), none, none, none, none, none, none, some (.int (a7 + (1 : Int32))), some (.int a8), some (.int (q.1 11 a8.toNatClampNeg)), none]) (st' := [.int (0 : Int32)]) (q' := q) (P := (True) ∧ (True)) (by decide +kernel) rfl rfl (And.intro trivial trivial) ?_
                exact mm_ok_iret (by decide +kernel)
def x5_worth (a1 : Int32) (a2 : Int32) (a3 : Int32) (a4 : Int32) (a5 : Int32) (a6 : Int32) (q : mm_Q) : Option (Int32 × mm_Q) := (mm_lt (mm_si q 13 0 a1) (fun q1 => (mm_lt (mm_si q1 13 1 a2) (fun q2 => (mm_lt (mm_si q2 13 2 a3) (fun q3 => (mm_lt (mm_si q3 13 3 a4) (fun q4 => (mm_lt (mm_si q4 13 4 a5) (fun q5 => (mm_lt (mm_si q5 13 5 a6) (fun q6 => (x5_worth_h51 mm_fu (-1 : Int32) (0 : Int32) q6)))))))))))))
set_option maxRecDepth 20000 in
theorem x5_worth_ok {L : mm_LT} {a1 : Int32} {a2 : Int32} {a3 : Int32} {a4 : Int32} {a5 : Int32} {a6 : Int32} {q : mm_Q} {r : Int32} {q1 : mm_Q} (h : x5_worth a1 a2 a3 a4 a5 a6 q = some (r, q1)) : mm_Runs 2 24 [.ref 10, .int a1, .int a2, .int a3, .int a4, .int a5, .int a6] (mm_wq L q) (mm_cvi r) (mm_wq L q1) := by
  refine mm_runs_of (d := 1) (L := L) rfl (by decide +kernel) rfl rfl (?_ : mm_ok mm_cvi (mm_Runs 1) 5 false cX5_worth (some .int) L L 0 [some (.ref 10), some (.int a1), some (.int a2), some (.int a3), some (.int a4), some (.int a5), some (.int a6), none, none, none, none] [] q (x5_worth a1 a2 a3 a4 a5 a6 q)) h
  unfold x5_worth
  refine mm_ok_bl (l := [(.aload 0, 1), (.getfield 322, 3), (.iconst (0), 1), (.iload 1, 1), (.iastore, 1)]) (pc' := 7) (lo' := [some (.ref 10), some (.int a1), some (.int a2), some (.int a3), some (.int a4), some (.int a5), some (.int a6), none, none, none, none]) (st' := []) (q' := (mm_si q 13 0 a1)) (P := (True) ∧ ((True) ∧ ((True) ∧ ((True) ∧ ((mm_ix (0 : Int32) 6) ∧ (True)))))) (by decide +kernel) rfl rfl (And.intro trivial (And.intro trivial (And.intro trivial (And.intro trivial (And.intro (mm_inb_ix (by decide)) trivial))))) ?_
  refine mm_ok_lt (fun q1 => ?_)
  refine mm_ok_bl (l := [(.aload 0, 1), (.getfield 322, 3), (.iconst (1), 1), (.iload 2, 1), (.iastore, 1)]) (pc' := 14) (lo' := [some (.ref 10), some (.int a1), some (.int a2), some (.int a3), some (.int a4), some (.int a5), some (.int a6), none, none, none, none]) (st' := []) (q' := (mm_si q1 13 1 a2)) (P := (True) ∧ ((True) ∧ ((True) ∧ ((True) ∧ ((mm_ix (1 : Int32) 6) ∧ (True)))))) (by decide +kernel) rfl rfl (And.intro trivial (And.intro trivial (And.intro trivial (And.intro trivial (And.intro (mm_inb_ix (by decide)) trivial))))) ?_
  refine mm_ok_lt (fun q2 => ?_)
  refine mm_ok_bl (l := [(.aload 0, 1), (.getfield 322, 3), (.iconst (2), 1), (.iload 3, 1), (.iastore, 1)]) (pc' := 21) (lo' := [some (.ref 10), some (.int a1), some (.int a2), some (.int a3), some (.int a4), some (.int a5), some (.int a6), none, none, none, none]) (st' := []) (q' := (mm_si q2 13 2 a3)) (P := (True) ∧ ((True) ∧ ((True) ∧ ((True) ∧ ((mm_ix (2 : Int32) 6) ∧ (True)))))) (by decide +kernel) rfl rfl (And.intro trivial (And.intro trivial (And.intro trivial (And.intro trivial (And.intro (mm_inb_ix (by decide)) trivial))))) ?_
  refine mm_ok_lt (fun q3 => ?_)
  refine mm_ok_bl (l := [(.aload 0, 1), (.getfield 322, 3), (.iconst (3), 1), (.iload 4, 2), (.iastore, 1)]) (pc' := 29) (lo' := [some (.ref 10), some (.int a1), some (.int a2), some (.int a3), some (.int a4), some (.int a5), some (.int a6), none, none, none, none]) (st' := []) (q' := (mm_si q3 13 3 a4)) (P := (True) ∧ ((True) ∧ ((True) ∧ ((True) ∧ ((mm_ix (3 : Int32) 6) ∧ (True)))))) (by decide +kernel) rfl rfl (And.intro trivial (And.intro trivial (And.intro trivial (And.intro trivial (And.intro (mm_inb_ix (by decide)) trivial))))) ?_
  refine mm_ok_lt (fun q4 => ?_)
  refine mm_ok_bl (l := [(.aload 0, 1), (.getfield 322, 3), (.iconst (4), 1), (.iload 5, 2), (.iastore, 1)]) (pc' := 37) (lo' := [some (.ref 10), some (.int a1), some (.int a2), some (.int a3), some (.int a4), some (.int a5), some (.int a6), none, none, none, none]) (st' := []) (q' := (mm_si q4 13 4 a5)) (P := (True) ∧ ((True) ∧ ((True) ∧ ((True) ∧ ((mm_ix (4 : Int32) 6) ∧ (True)))))) (by decide +kernel) rfl rfl (And.intro trivial (And.intro trivial (And.intro trivial (And.intro trivial (And.intro (mm_inb_ix (by decide)) trivial))))) ?_
  refine mm_ok_lt (fun q5 => ?_)
  refine mm_ok_bl (l := [(.aload 0, 1), (.getfield 322, 3), (.iconst (5), 1), (.iload 6, 2), (.iastore, 1)]) (pc' := 45) (lo' := [some (.ref 10), some (.int a1), some (.int a2), some (.int a3), some (.int a4), some (.int a5), some (.int a6), none, none, none, none]) (st' := []) (q' := (mm_si q5 13 5 a6)) (P := (True) ∧ ((True) ∧ ((True) ∧ ((True) ∧ ((mm_ix (5 : Int32) 6) ∧ (True)))))) (by decide +kernel) rfl rfl (And.intro trivial (And.intro trivial (And.intro trivial (And.intro trivial (And.intro (mm_inb_ix (by decide)) trivial))))) ?_
  refine mm_ok_lt (fun q6 => ?_)
  refine mm_ok_bl (l := [(.iconst (-1), 1), (.istore 7, 2), (.iconst (0), 1), (.istore 8, 2)]) (pc' := 51) (lo' := [some (.ref 10), some (.int a1), some (.int a2), some (.int a3), some (.int a4), some (.int a5), some (.int a6), some (.int (-1 : Int32)), some (.int (0 : Int32)), none, none]) (st' := []) (q' := q6) (P := (True) ∧ ((True) ∧ ((True) ∧ ((True) ∧ (True))))) (by decide +kernel) rfl rfl (And.intro trivial (And.intro trivial (And.intro trivial (And.intro trivial trivial)))) ?_
  exact mm_ok_sub (lo := [some (.ref 10), none, none, none, none, none, none, some (.int (-1 : Int32)), some (.int (0 : Int32)), none, none]) (And.intro rfl (And.intro rfl (And.intro rfl trivial))) (x5_worth_h51_ok mm_fu (-1 : Int32) (0 : Int32) q6)
def x6_inSteps (a1 : Int32) (a2 : Int32) (q : mm_Q) : Option (Int32 × mm_Q) := (mm_cl (x4_told a1 (4 : Int32) q) (fun r1 q2 => (if r1 = 0 then (some ((0 : Int32), q2)) else (mm_ck (mm_nz r1) (some (a2 / r1, q2))))))
set_option maxRecDepth 20000 in
theorem x6_inSteps_ok {L : mm_LT} {a1 : Int32} {a2 : Int32} {q : mm_Q} {r : Int32} {q1 : mm_Q} (h : x6_inSteps a1 a2 q = some (r, q1)) : mm_Runs 3 27 [.ref 44, .int a1, .int a2] (mm_wq L q) (mm_cvi r) (mm_wq L q1) := by
  refine mm_runs_of (d := 2) (L := L) rfl (by decide +kernel) rfl rfl (?_ : mm_ok mm_cvi (mm_Runs 2) 6 false cX6_inSteps (some .int) L L 0 [some (.ref 44), some (.int a1), some (.int a2), none] [] q (x6_inSteps a1 a2 q)) h
  unfold x6_inSteps
  refine mm_ok_bl (l := [(.aload 0, 1), (.getfield 384, 3), (.iload 1, 1), (.iconst (4), 1)]) (pc' := 6) (lo' := [some (.ref 44), some (.int a1), some (.int a2), none]) (st' := [.int (4 : Int32), .int a1, .ref 8]) (q' := q) (P := (True) ∧ ((True) ∧ ((True) ∧ ((True) ∧ (True))))) (by decide +kernel) rfl rfl (And.intro trivial (And.intro trivial (And.intro trivial (And.intro trivial trivial)))) ?_
  refine mm_ok_call (cz := mm_cvi) (j := .invokevirtual 242) (y := 15) (as := [.ref 8, .int a1, .int (4 : Int32)]) (t := []) (by decide +kernel) rfl (fun _ _ h => mm_up (k := 2) (by decide) (x4_told_ok h)) (fun r1 q2 => ?_)
  refine mm_ok_bl (l := [(.istore 3, 1), (.iload 3, 1)]) (pc' := 11) (lo' := [some (.ref 44), some (.int a1), some (.int a2), some (.int r1)]) (st' := [.int r1]) (q' := q2) (P := (True) ∧ ((True) ∧ (True))) (by decide +kernel) rfl rfl (And.intro trivial (And.intro trivial trivial)) ?_
  refine mm_ok_ifCond_ne (pt := 18) (d := 7) (by decide +kernel) (by decide) (fun k3 => ?_) (fun k3 => ?_)
  · refine mm_ok_bl (l := [(.iconst (0), 1)]) (pc' := 15) (lo' := [some (.ref 44), some (.int a1), some (.int a2), some (.int r1)]) (st' := [.int (0 : Int32)]) (q' := q2) (P := (True) ∧ (True)) (by decide +kernel) rfl rfl (And.intro trivial trivial) ?_
    refine mm_ok_goto (pt := 21) (d := 6) (by decide +kernel) (by decide) ?_
    exact mm_ok_iret (by decide +kernel)
  · refine mm_ok_bl (l := [(.iload 2, 1), (.iload 3, 1)]) (pc' := 20) (lo' := [some (.ref 44), some (.int a1), some (.int a2), some (.int r1)]) (st' := [.int r1, .int a2]) (q' := q2) (P := (True) ∧ ((True) ∧ (True))) (by decide +kernel) rfl rfl (And.intro trivial (And.intro trivial trivial)) ?_
    refine mm_ok_ck (fun c4 => ?_)
    refine mm_ok_bl (l := [(.idiv, 1)]) (pc' := 21) (lo' := [some (.ref 44), some (.int a1), some (.int a2), some (.int r1)]) (st' := [.int (a2 / r1)]) (q' := q2) (P := (¬ (r1 = 0)) ∧ (True)) (by decide +kernel) rfl rfl (And.intro (mm_nz_ok c4) trivial) ?_
    exact mm_ok_iret (by decide +kernel)
def x6_bitsOfSteppers_j35 (rr5 : Int32 → Int32 → Int32 → Int32 → mm_Q → Option (Int32 × mm_Q)) (a1 : Int32) (a2 : Int32) (a3 : Int32) (a4 : Int32) (q : mm_Q) : Option (Int32 × mm_Q) := (rr5 a1 a2 a3 (a4 + (1 : Int32)) q)
set_option maxRecDepth 20000 in
theorem x6_bitsOfSteppers_j35_ok {L : mm_LT} (rr5 : Int32 → Int32 → Int32 → Int32 → mm_Q → Option (Int32 × mm_Q)) (hrr5 : ∀ (a1 : Int32) (a2 : Int32) (a3 : Int32) (a4 : Int32) (q : mm_Q), mm_ok mm_cvi (mm_Runs 3) 6 false cX6_bitsOfSteppers (some .int) L L 5 [some (.ref 44), some (.int a1), some (.int a2), some (.int a3), some (.int a4)] [] q (rr5 a1 a2 a3 a4 q)) (a1 : Int32) (a2 : Int32) (a3 : Int32) (a4 : Int32) (q : mm_Q) : mm_ok mm_cvi (mm_Runs 3) 6 false cX6_bitsOfSteppers (some .int) L L 35 [some (.ref 44), some (.int a1), some (.int a2), some (.int a3), some (.int a4)] [] q (x6_bitsOfSteppers_j35 rr5 a1 a2 a3 a4 q) := by
  unfold x6_bitsOfSteppers_j35
  refine mm_ok_bl (l := [(.iinc 4 (1), 3)]) (pc' := 38) (lo' := [some (.ref 44), some (.int a1), some (.int a2), some (.int a3), some (.int (a4 + (1 : Int32)))]) (st' := []) (q' := q) (P := (True) ∧ (True)) (by decide +kernel) rfl rfl (And.intro trivial trivial) ?_
  refine mm_ok_goto (pt := 5) (d := -33) (by decide +kernel) (by decide) ?_
  exact mm_ok_sub (lo := [some (.ref 44), some (.int a1), some (.int a2), some (.int a3), some (.int (a4 + (1 : Int32)))]) (And.intro rfl (And.intro rfl (And.intro rfl (And.intro rfl (And.intro rfl trivial))))) (hrr5 a1 a2 a3 (a4 + (1 : Int32)) q)
def x6_bitsOfSteppers_h5 : Nat → Int32 → Int32 → Int32 → Int32 → mm_Q → Option (Int32 × mm_Q)
  | 0, _, _, _, _, _ => none
  | n + 1, a1, a2, a3, a4, q => (mm_cl (x4_size q) (fun r1 q2 => (if r1 ≤ a4 then (some (a3, q2)) else (mm_cl (x6_inSteps a4 a1 q2) (fun r4 q5 => (if r4 = a2 then (x6_bitsOfSteppers_j35 (x6_bitsOfSteppers_h5 n) a1 a2 (a3 ||| ((1 : Int32) <<< (a4 &&& 31))) a4 q5) else (x6_bitsOfSteppers_j35 (x6_bitsOfSteppers_h5 n) a1 a2 a3 a4 q5)))))))
set_option maxRecDepth 20000 in
theorem x6_bitsOfSteppers_h5_ok {L : mm_LT} : ∀ (n : Nat) (a1 : Int32) (a2 : Int32) (a3 : Int32) (a4 : Int32) (q : mm_Q), mm_ok mm_cvi (mm_Runs 3) 6 false cX6_bitsOfSteppers (some .int) L L 5 [some (.ref 44), some (.int a1), some (.int a2), some (.int a3), some (.int a4)] [] q (x6_bitsOfSteppers_h5 n a1 a2 a3 a4 q)
  | 0, _, _, _, _, _ => by
    exact mm_ok_none
  | n + 1, a1, a2, a3, a4, q => by
    unfold x6_bitsOfSteppers_h5
    refine mm_ok_bl (l := [(.iload 4, 2), (.aload 0, 1), (.getfield 384, 3)]) (pc' := 11) (lo' := [some (.ref 44), some (.int a1), some (.int a2), some (.int a3), some (.int a4)]) (st' := [.ref 8, .int a4]) (q' := q) (P := (True) ∧ ((True) ∧ ((True) ∧ (True)))) (by decide +kernel) rfl rfl (And.intro trivial (And.intro trivial (And.intro trivial trivial))) ?_
    refine mm_ok_call (cz := mm_cvi) (j := .invokevirtual 144) (y := 9) (as := [.ref 8]) (t := [.int a4]) (by decide +kernel) rfl (fun _ _ h => mm_up (k := 1) (by decide) (x4_size_ok h)) (fun r1 q2 => ?_)
    refine mm_ok_if_icmp_ge (pt := 41) (d := 27) (by decide +kernel) (by decide) (fun k3 => ?_) (fun k3 => ?_)
    · refine mm_ok_bl (l := [(.iload 3, 1)]) (pc' := 42) (lo' := [some (.ref 44), some (.int a1), some (.int a2), some (.int a3), some (.int a4)]) (st' := [.int a3]) (q' := q2) (P := (True) ∧ (True)) (by decide +kernel) rfl rfl (And.intro trivial trivial) ?_
      exact mm_ok_iret (by decide +kernel)
    · refine mm_ok_bl (l := [(.aload 0, 1), (.iload 4, 2), (.iload 1, 1)]) (pc' := 21) (lo' := [some (.ref 44), some (.int a1), some (.int a2), some (.int a3), some (.int a4)]) (st' := [.int a1, .int a4, .ref 44]) (q' := q2) (P := (True) ∧ ((True) ∧ ((True) ∧ (True)))) (by decide +kernel) rfl rfl (And.intro trivial (And.intro trivial (And.intro trivial trivial))) ?_
      refine mm_ok_call (cz := mm_cvi) (j := .invokevirtual 434) (y := 27) (as := [.ref 44, .int a4, .int a1]) (t := []) (by decide +kernel) rfl (fun _ _ h => mm_up (k := 3) (by decide) (x6_inSteps_ok h)) (fun r4 q5 => ?_)
      refine mm_ok_bl (l := [(.iload 2, 1)]) (pc' := 25) (lo' := [some (.ref 44), some (.int a1), some (.int a2), some (.int a3), some (.int a4)]) (st' := [.int a2, .int r4]) (q' := q5) (P := (True) ∧ (True)) (by decide +kernel) rfl rfl (And.intro trivial trivial) ?_
      refine mm_ok_if_icmp_ne (pt := 35) (d := 10) (by decide +kernel) (by decide) (fun k6 => ?_) (fun k6 => ?_)
      · refine mm_ok_bl (l := [(.iload 3, 1), (.iconst (1), 1), (.iload 4, 2), (.ishl, 1), (.ior, 1), (.istore 3, 1)]) (pc' := 35) (lo' := [some (.ref 44), some (.int a1), some (.int a2), some (.int (a3 ||| ((1 : Int32) <<< (a4 &&& 31)))), some (.int a4)]) (st' := []) (q' := q5) (P := (True) ∧ ((True) ∧ ((True) ∧ ((True) ∧ ((True) ∧ ((True) ∧ (True))))))) (by decide +kernel) rfl rfl (And.intro trivial (And.intro trivial (And.intro trivial (And.intro trivial (And.intro trivial (And.intro trivial trivial)))))) ?_
        exact mm_ok_sub (lo := [some (.ref 44), some (.int a1), some (.int a2), some (.int (a3 ||| ((1 : Int32) <<< (a4 &&& 31)))), some (.int a4)]) (And.intro rfl (And.intro rfl (And.intro rfl (And.intro rfl (And.intro rfl trivial))))) (x6_bitsOfSteppers_j35_ok (x6_bitsOfSteppers_h5 n) (x6_bitsOfSteppers_h5_ok n) a1 a2 (a3 ||| ((1 : Int32) <<< (a4 &&& 31))) a4 q5)
      · exact mm_ok_sub (lo := [some (.ref 44), some (.int a1), some (.int a2), some (.int a3), some (.int a4)]) (And.intro rfl (And.intro rfl (And.intro rfl (And.intro rfl (And.intro rfl trivial))))) (x6_bitsOfSteppers_j35_ok (x6_bitsOfSteppers_h5 n) (x6_bitsOfSteppers_h5_ok n) a1 a2 a3 a4 q5)
def x6_bitsOfSteppers (a1 : Int32) (a2 : Int32) (q : mm_Q) : Option (Int32 × mm_Q) := (x6_bitsOfSteppers_h5 mm_fu a1 a2 (0 : Int32) (0 : Int32) q)
set_option maxRecDepth 20000 in
theorem x6_bitsOfSteppers_ok {L : mm_LT} {a1 : Int32} {a2 : Int32} {q : mm_Q} {r : Int32} {q1 : mm_Q} (h : x6_bitsOfSteppers a1 a2 q = some (r, q1)) : mm_Runs 4 28 [.ref 44, .int a1, .int a2] (mm_wq L q) (mm_cvi r) (mm_wq L q1) := by
  refine mm_runs_of (d := 3) (L := L) rfl (by decide +kernel) rfl rfl (?_ : mm_ok mm_cvi (mm_Runs 3) 6 false cX6_bitsOfSteppers (some .int) L L 0 [some (.ref 44), some (.int a1), some (.int a2), none, none] [] q (x6_bitsOfSteppers a1 a2 q)) h
  unfold x6_bitsOfSteppers
  refine mm_ok_bl (l := [(.iconst (0), 1), (.istore 3, 1), (.iconst (0), 1), (.istore 4, 2)]) (pc' := 5) (lo' := [some (.ref 44), some (.int a1), some (.int a2), some (.int (0 : Int32)), some (.int (0 : Int32))]) (st' := []) (q' := q) (P := (True) ∧ ((True) ∧ ((True) ∧ ((True) ∧ (True))))) (by decide +kernel) rfl rfl (And.intro trivial (And.intro trivial (And.intro trivial (And.intro trivial trivial)))) ?_
  exact mm_ok_sub (lo := [some (.ref 44), some (.int a1), some (.int a2), some (.int (0 : Int32)), some (.int (0 : Int32))]) (And.intro rfl (And.intro rfl (And.intro rfl (And.intro rfl (And.intro rfl trivial))))) (x6_bitsOfSteppers_h5_ok mm_fu a1 a2 (0 : Int32) (0 : Int32) q)
def x7_gatherStones_j50 (rr7 : Int32 → Int32 → mm_Q → Option (Unit × mm_Q)) (a1 : Int32) (a2 : Int32) (q : mm_Q) : Option (Unit × mm_Q) := (rr7 a1 (a2 + (1 : Int32)) q)
set_option maxRecDepth 20000 in
theorem x7_gatherStones_j50_ok {L : mm_LT} (rr7 : Int32 → Int32 → mm_Q → Option (Unit × mm_Q)) (hrr7 : ∀ (a1 : Int32) (a2 : Int32) (q : mm_Q), mm_ok mm_cvu (mm_Runs 0) 7 false cX7_gatherStones none L L 7 [some (.ref 35), some (.int a1), some (.int a2)] [] q (rr7 a1 a2 q)) (a1 : Int32) (a2 : Int32) (q : mm_Q) : mm_ok mm_cvu (mm_Runs 0) 7 false cX7_gatherStones none L L 50 [some (.ref 35), some (.int a1), some (.int a2)] [] q (x7_gatherStones_j50 rr7 a1 a2 q) := by
  unfold x7_gatherStones_j50
  refine mm_ok_bl (l := [(.iinc 2 (1), 3)]) (pc' := 53) (lo' := [some (.ref 35), some (.int a1), some (.int (a2 + (1 : Int32)))]) (st' := []) (q' := q) (P := (True) ∧ (True)) (by decide +kernel) rfl rfl (And.intro trivial trivial) ?_
  refine mm_ok_goto (pt := 7) (d := -46) (by decide +kernel) (by decide) ?_
  exact mm_ok_sub (lo := [some (.ref 35), some (.int a1), some (.int (a2 + (1 : Int32)))]) (And.intro rfl (And.intro rfl (And.intro rfl trivial))) (hrr7 a1 (a2 + (1 : Int32)) q)
def x7_gatherStones_h7 : Nat → Int32 → Int32 → mm_Q → Option (Unit × mm_Q)
  | 0, _, _, _ => none
  | n + 1, a1, a2, q => (if (9 : Int32) ≤ a2 then (some ((), q)) else (if (7 : Int32) ≤ (q.1 35 5) then (some ((), q)) else (if ((a1 >>> (a2 &&& 31)) &&& (1 : Int32)) = 0 then (x7_gatherStones_j50 (x7_gatherStones_h7 n) a1 a2 q) else (mm_ck (mm_inb (q.1 35 5) 7) (mm_lt (mm_si q 36 (q.1 35 5).toNatClampNeg a2) (fun q6 => (mm_lt (mm_si q6 35 5 ((q6.1 35 5) + (1 : Int32))) (fun q7 => (x7_gatherStones_j50 (x7_gatherStones_h7 n) a1 a2 q7)))))))))
set_option maxRecDepth 20000 in
theorem x7_gatherStones_h7_ok {L : mm_LT} : ∀ (n : Nat) (a1 : Int32) (a2 : Int32) (q : mm_Q), mm_ok mm_cvu (mm_Runs 0) 7 false cX7_gatherStones none L L 7 [some (.ref 35), some (.int a1), some (.int a2)] [] q (x7_gatherStones_h7 n a1 a2 q)
  | 0, _, _, _ => by
    exact mm_ok_none
  | n + 1, a1, a2, q => by
    unfold x7_gatherStones_h7
    refine mm_ok_bl (l := [(.iload 2, 1), (.iconst (9), 2)]) (pc' := 10) (lo' := [some (.ref 35), some (.int a1), some (.int a2)]) (st' := [.int (9 : Int32), .int a2]) (q' := q) (P := (True) ∧ ((True) ∧ (True))) (by decide +kernel) rfl rfl (And.intro trivial (And.intro trivial trivial)) ?_
    refine mm_ok_if_icmp_ge (pt := 56) (d := 46) (by decide +kernel) (by decide) (fun k2 => ?_) (fun k2 => ?_)
    · exact mm_ok_vret (by decide +kernel)
    · refine mm_ok_bl (l := [(.aload 0, 1), (.getfield 453, 3), (.iconst (7), 2)]) (pc' := 19) (lo' := [some (.ref 35), some (.int a1), some (.int a2)]) (st' := [.int (7 : Int32), .int (q.1 35 5)]) (q' := q) (P := (True) ∧ ((True) ∧ ((True) ∧ (True)))) (by decide +kernel) rfl rfl (And.intro trivial (And.intro trivial (And.intro trivial trivial))) ?_
      refine mm_ok_if_icmp_ge (pt := 56) (d := 37) (by decide +kernel) (by decide) (fun k3 => ?_) (fun k3 => ?_)
      · exact mm_ok_vret (by decide +kernel)
      · refine mm_ok_bl (l := [(.iload 1, 1), (.iload 2, 1), (.ishr, 1), (.iconst (1), 1), (.iand, 1)]) (pc' := 27) (lo' := [some (.ref 35), some (.int a1), some (.int a2)]) (st' := [.int ((a1 >>> (a2 &&& 31)) &&& (1 : Int32))]) (q' := q) (P := (True) ∧ ((True) ∧ ((True) ∧ ((True) ∧ ((True) ∧ (True)))))) (by decide +kernel) rfl rfl (And.intro trivial (And.intro trivial (And.intro trivial (And.intro trivial (And.intro trivial trivial))))) ?_
        refine mm_ok_ifCond_eq (pt := 50) (d := 23) (by decide +kernel) (by decide) (fun k4 => ?_) (fun k4 => ?_)
        · exact mm_ok_sub (lo := [some (.ref 35), some (.int a1), some (.int a2)]) (And.intro rfl (And.intro rfl (And.intro rfl trivial))) (x7_gatherStones_j50_ok (x7_gatherStones_h7 n) (x7_gatherStones_h7_ok n) a1 a2 q)
        · refine mm_ok_bl (l := [(.aload 0, 1), (.getfield 450, 3), (.aload 0, 1), (.getfield 453, 3), (.iload 2, 1)]) (pc' := 39) (lo' := [some (.ref 35), some (.int a1), some (.int a2)]) (st' := [.int a2, .int (q.1 35 5), .ref 36]) (q' := q) (P := (True) ∧ ((True) ∧ ((True) ∧ ((True) ∧ ((True) ∧ (True)))))) (by decide +kernel) rfl rfl (And.intro trivial (And.intro trivial (And.intro trivial (And.intro trivial (And.intro trivial trivial))))) ?_
          refine mm_ok_ck (fun c5 => ?_)
          refine mm_ok_bl (l := [(.iastore, 1)]) (pc' := 40) (lo' := [some (.ref 35), some (.int a1), some (.int a2)]) (st' := []) (q' := (mm_si q 36 (q.1 35 5).toNatClampNeg a2)) (P := (mm_ix (q.1 35 5) 7) ∧ (True)) (by decide +kernel) rfl rfl (And.intro (mm_inb_ix c5) trivial) ?_
          refine mm_ok_lt (fun q6 => ?_)
          refine mm_ok_bl (l := [(.aload 0, 1), (.dup, 1), (.getfield 453, 3), (.iconst (1), 1), (.iadd, 1), (.putfield 453, 3)]) (pc' := 50) (lo' := [some (.ref 35), some (.int a1), some (.int a2)]) (st' := []) (q' := (mm_si q6 35 5 ((q6.1 35 5) + (1 : Int32)))) (P := (True) ∧ ((True) ∧ ((True) ∧ ((True) ∧ ((True) ∧ ((True) ∧ (True))))))) (by decide +kernel) rfl rfl (And.intro trivial (And.intro trivial (And.intro trivial (And.intro trivial (And.intro trivial (And.intro trivial trivial)))))) ?_
          refine mm_ok_lt (fun q7 => ?_)
          exact mm_ok_sub (lo := [some (.ref 35), some (.int a1), some (.int a2)]) (And.intro rfl (And.intro rfl (And.intro rfl trivial))) (x7_gatherStones_j50_ok (x7_gatherStones_h7 n) (x7_gatherStones_h7_ok n) a1 a2 q7)
def x7_gatherStones (a1 : Int32) (q : mm_Q) : Option (Unit × mm_Q) := (mm_lt (mm_si q 35 5 (0 : Int32)) (fun q1 => (x7_gatherStones_h7 mm_fu a1 (0 : Int32) q1)))
set_option maxRecDepth 20000 in
theorem x7_gatherStones_ok {L : mm_LT} {a1 : Int32} {q : mm_Q} {r : Unit} {q1 : mm_Q} (h : x7_gatherStones a1 q = some (r, q1)) : mm_Runs 1 34 [.ref 35, .int a1] (mm_wq L q) (mm_cvu r) (mm_wq L q1) := by
  refine mm_runs_of (d := 0) (L := L) rfl (by decide +kernel) rfl rfl (?_ : mm_ok mm_cvu (mm_Runs 0) 7 false cX7_gatherStones none L L 0 [some (.ref 35), some (.int a1), none] [] q (x7_gatherStones a1 q)) h
  unfold x7_gatherStones
  refine mm_ok_bl (l := [(.aload 0, 1), (.iconst (0), 1), (.putfield 453, 3)]) (pc' := 5) (lo' := [some (.ref 35), some (.int a1), none]) (st' := []) (q' := (mm_si q 35 5 (0 : Int32))) (P := (True) ∧ ((True) ∧ ((True) ∧ (True)))) (by decide +kernel) rfl rfl (And.intro trivial (And.intro trivial (And.intro trivial trivial))) ?_
  refine mm_ok_lt (fun q1 => ?_)
  refine mm_ok_bl (l := [(.iconst (0), 1), (.istore 2, 1)]) (pc' := 7) (lo' := [some (.ref 35), some (.int a1), some (.int (0 : Int32))]) (st' := []) (q' := q1) (P := (True) ∧ ((True) ∧ (True))) (by decide +kernel) rfl rfl (And.intro trivial (And.intro trivial trivial)) ?_
  exact mm_ok_sub (lo := [some (.ref 35), some (.int a1), some (.int (0 : Int32))]) (And.intro rfl (And.intro rfl (And.intro rfl trivial))) (x7_gatherStones_h7_ok mm_fu a1 (0 : Int32) q1)
def x10_take (a1 : Int32) (a2 : Int32) (a3 : Int32) (q : mm_Q) : Option (Unit × mm_Q) := (mm_cl (x4_told a1 (0 : Int32) q) (fun r1 q2 => (mm_cl (x4_told a1 (1 : Int32) q2) (fun r3 q4 => (mm_lt (mm_si q4 14 2 (r1 + r3)) (fun q5 => (mm_cl (x4_told a2 (5 : Int32) q5) (fun r6 q7 => (mm_lt (mm_si q7 14 3 r6) (fun q8 => (mm_cl (x4_told a2 (6 : Int32) q8) (fun r9 q10 => (mm_lt (mm_si q10 14 4 r9) (fun q11 => (mm_cl (x4_told a1 (2 : Int32) q11) (fun r12 q13 => (mm_lt (mm_si q13 14 5 (r12 * a3)) (fun q14 => (mm_cl (x4_told (0 : Int32) (7 : Int32) q14) (fun r15 q16 => (mm_lt (mm_si q16 14 6 r15) (fun q17 => (some ((), q17))))))))))))))))))))))))
set_option maxRecDepth 20000 in
theorem x10_take_ok {L : mm_LT} {a1 : Int32} {a2 : Int32} {a3 : Int32} {q : mm_Q} {r : Unit} {q1 : mm_Q} (h : x10_take a1 a2 a3 q = some (r, q1)) : mm_Runs 3 65 [.ref 14, .int a1, .int a2, .int a3] (mm_wq L q) (mm_cvu r) (mm_wq L q1) := by
  refine mm_runs_of (d := 2) (L := L) rfl (by decide +kernel) rfl rfl (?_ : mm_ok mm_cvu (mm_Runs 2) 10 false cX10_take none L L 0 [some (.ref 14), some (.int a1), some (.int a2), some (.int a3)] [] q (x10_take a1 a2 a3 q)) h
  unfold x10_take
  refine mm_ok_bl (l := [(.aload 0, 1), (.aload 0, 1), (.getfield 640, 3), (.iload 1, 1), (.iconst (0), 1)]) (pc' := 7) (lo' := [some (.ref 14), some (.int a1), some (.int a2), some (.int a3)]) (st' := [.int (0 : Int32), .int a1, .ref 8, .ref 14]) (q' := q) (P := (True) ∧ ((True) ∧ ((True) ∧ ((True) ∧ ((True) ∧ (True)))))) (by decide +kernel) rfl rfl (And.intro trivial (And.intro trivial (And.intro trivial (And.intro trivial (And.intro trivial trivial))))) ?_
  refine mm_ok_call (cz := mm_cvi) (j := .invokevirtual 242) (y := 15) (as := [.ref 8, .int a1, .int (0 : Int32)]) (t := [.ref 14]) (by decide +kernel) rfl (fun _ _ h => mm_up (k := 2) (by decide) (x4_told_ok h)) (fun r1 q2 => ?_)
  refine mm_ok_bl (l := [(.aload 0, 1), (.getfield 640, 3), (.iload 1, 1), (.iconst (1), 1)]) (pc' := 16) (lo' := [some (.ref 14), some (.int a1), some (.int a2), some (.int a3)]) (st' := [.int (1 : Int32), .int a1, .ref 8, .int r1, .ref 14]) (q' := q2) (P := (True) ∧ ((True) ∧ ((True) ∧ ((True) ∧ (True))))) (by decide +kernel) rfl rfl (And.intro trivial (And.intro trivial (And.intro trivial (And.intro trivial trivial)))) ?_
  refine mm_ok_call (cz := mm_cvi) (j := .invokevirtual 242) (y := 15) (as := [.ref 8, .int a1, .int (1 : Int32)]) (t := [.int r1, .ref 14]) (by decide +kernel) rfl (fun _ _ h => mm_up (k := 2) (by decide) (x4_told_ok h)) (fun r3 q4 => ?_)
  refine mm_ok_bl (l := [(.iadd, 1), (.putfield 642, 3)]) (pc' := 23) (lo' := [some (.ref 14), some (.int a1), some (.int a2), some (.int a3)]) (st' := []) (q' := (mm_si q4 14 2 (r1 + r3))) (P := (True) ∧ ((True) ∧ (True))) (by decide +kernel) rfl rfl (And.intro trivial (And.intro trivial trivial)) ?_
  refine mm_ok_lt (fun q5 => ?_)
  refine mm_ok_bl (l := [(.aload 0, 1), (.aload 0, 1), (.getfield 640, 3), (.iload 2, 1), (.iconst (5), 1)]) (pc' := 30) (lo' := [some (.ref 14), some (.int a1), some (.int a2), some (.int a3)]) (st' := [.int (5 : Int32), .int a2, .ref 8, .ref 14]) (q' := q5) (P := (True) ∧ ((True) ∧ ((True) ∧ ((True) ∧ ((True) ∧ (True)))))) (by decide +kernel) rfl rfl (And.intro trivial (And.intro trivial (And.intro trivial (And.intro trivial (And.intro trivial trivial))))) ?_
  refine mm_ok_call (cz := mm_cvi) (j := .invokevirtual 242) (y := 15) (as := [.ref 8, .int a2, .int (5 : Int32)]) (t := [.ref 14]) (by decide +kernel) rfl (fun _ _ h => mm_up (k := 2) (by decide) (x4_told_ok h)) (fun r6 q7 => ?_)
  refine mm_ok_bl (l := [(.putfield 643, 3)]) (pc' := 36) (lo' := [some (.ref 14), some (.int a1), some (.int a2), some (.int a3)]) (st' := []) (q' := (mm_si q7 14 3 r6)) (P := (True) ∧ (True)) (by decide +kernel) rfl rfl (And.intro trivial trivial) ?_
  refine mm_ok_lt (fun q8 => ?_)
  refine mm_ok_bl (l := [(.aload 0, 1), (.aload 0, 1), (.getfield 640, 3), (.iload 2, 1), (.iconst (6), 2)]) (pc' := 44) (lo' := [some (.ref 14), some (.int a1), some (.int a2), some (.int a3)]) (st' := [.int (6 : Int32), .int a2, .ref 8, .ref 14]) (q' := q8) (P := (True) ∧ ((True) ∧ ((True) ∧ ((True) ∧ ((True) ∧ (True)))))) (by decide +kernel) rfl rfl (And.intro trivial (And.intro trivial (And.intro trivial (And.intro trivial (And.intro trivial trivial))))) ?_
  refine mm_ok_call (cz := mm_cvi) (j := .invokevirtual 242) (y := 15) (as := [.ref 8, .int a2, .int (6 : Int32)]) (t := [.ref 14]) (by decide +kernel) rfl (fun _ _ h => mm_up (k := 2) (by decide) (x4_told_ok h)) (fun r9 q10 => ?_)
  refine mm_ok_bl (l := [(.putfield 644, 3)]) (pc' := 50) (lo' := [some (.ref 14), some (.int a1), some (.int a2), some (.int a3)]) (st' := []) (q' := (mm_si q10 14 4 r9)) (P := (True) ∧ (True)) (by decide +kernel) rfl rfl (And.intro trivial trivial) ?_
  refine mm_ok_lt (fun q11 => ?_)
  refine mm_ok_bl (l := [(.aload 0, 1), (.aload 0, 1), (.getfield 640, 3), (.iload 1, 1), (.iconst (2), 1)]) (pc' := 57) (lo' := [some (.ref 14), some (.int a1), some (.int a2), some (.int a3)]) (st' := [.int (2 : Int32), .int a1, .ref 8, .ref 14]) (q' := q11) (P := (True) ∧ ((True) ∧ ((True) ∧ ((True) ∧ ((True) ∧ (True)))))) (by decide +kernel) rfl rfl (And.intro trivial (And.intro trivial (And.intro trivial (And.intro trivial (And.intro trivial trivial))))) ?_
  refine mm_ok_call (cz := mm_cvi) (j := .invokevirtual 242) (y := 15) (as := [.ref 8, .int a1, .int (2 : Int32)]) (t := [.ref 14]) (by decide +kernel) rfl (fun _ _ h => mm_up (k := 2) (by decide) (x4_told_ok h)) (fun r12 q13 => ?_)
  refine mm_ok_bl (l := [(.iload 3, 1), (.imul, 1), (.putfield 645, 3)]) (pc' := 65) (lo' := [some (.ref 14), some (.int a1), some (.int a2), some (.int a3)]) (st' := []) (q' := (mm_si q13 14 5 (r12 * a3))) (P := (True) ∧ ((True) ∧ ((True) ∧ (True)))) (by decide +kernel) rfl rfl (And.intro trivial (And.intro trivial (And.intro trivial trivial))) ?_
  refine mm_ok_lt (fun q14 => ?_)
  refine mm_ok_bl (l := [(.aload 0, 1), (.aload 0, 1), (.getfield 640, 3), (.iconst (0), 1), (.iconst (7), 2)]) (pc' := 73) (lo' := [some (.ref 14), some (.int a1), some (.int a2), some (.int a3)]) (st' := [.int (7 : Int32), .int (0 : Int32), .ref 8, .ref 14]) (q' := q14) (P := (True) ∧ ((True) ∧ ((True) ∧ ((True) ∧ ((True) ∧ (True)))))) (by decide +kernel) rfl rfl (And.intro trivial (And.intro trivial (And.intro trivial (And.intro trivial (And.intro trivial trivial))))) ?_
  refine mm_ok_call (cz := mm_cvi) (j := .invokevirtual 242) (y := 15) (as := [.ref 8, .int (0 : Int32), .int (7 : Int32)]) (t := [.ref 14]) (by decide +kernel) rfl (fun _ _ h => mm_up (k := 2) (by decide) (x4_told_ok h)) (fun r15 q16 => ?_)
  refine mm_ok_bl (l := [(.putfield 646, 3)]) (pc' := 79) (lo' := [some (.ref 14), some (.int a1), some (.int a2), some (.int a3)]) (st' := []) (q' := (mm_si q16 14 6 r15)) (P := (True) ∧ (True)) (by decide +kernel) rfl rfl (And.intro trivial trivial) ?_
  refine mm_ok_lt (fun q17 => ?_)
  exact mm_ok_vret (by decide +kernel)
def x10_withoutText (a1 : Int32) (a2 : Int32) (q : mm_Q) : Option (Int32 × mm_Q) := (some ((((((a2 * ((9 : Int32) - (mm_abs (a1 - (4 : Int32))))) * (2 : Int32)) + ((6 : Int32) * (q.1 14 4))) - (((q.1 14 3) * (q.1 14 3)) / (2 : Int32))) + ((q.1 14 6) * a1)) - (q.1 14 5), q))
set_option maxRecDepth 20000 in
theorem x10_withoutText_ok {L : mm_LT} {a1 : Int32} {a2 : Int32} {q : mm_Q} {r : Int32} {q1 : mm_Q} (h : x10_withoutText a1 a2 q = some (r, q1)) : mm_Runs 1 68 [.ref 14, .int a1, .int a2] (mm_wq L q) (mm_cvi r) (mm_wq L q1) := by
  refine mm_runs_of (d := 0) (L := L) rfl (by decide +kernel) rfl rfl (?_ : mm_ok mm_cvi (mm_Runs 0) 10 false cX10_withoutText (some .int) L L 0 [some (.ref 14), some (.int a1), some (.int a2)] [] q (x10_withoutText a1 a2 q)) h
  unfold x10_withoutText
  refine mm_ok_bl (l := [(.iload 2, 1), (.iconst (9), 2), (.iload 1, 1), (.iconst (4), 1), (.isub, 1), (.ldc 1, 3), (.isub, 1), (.imul, 1), (.iconst (2), 1), (.imul, 1), (.iconst (6), 2), (.aload 0, 1), (.getfield 644, 3), (.imul, 1), (.iadd, 1), (.aload 0, 1), (.getfield 643, 3), (.aload 0, 1), (.getfield 643, 3), (.imul, 1), (.iconst (2), 1), (.idiv, 1), (.isub, 1), (.aload 0, 1), (.getfield 646, 3), (.iload 1, 1), (.imul, 1), (.iadd, 1), (.aload 0, 1), (.getfield 645, 3), (.isub, 1)]) (pc' := 45) (lo' := [some (.ref 14), some (.int a1), some (.int a2)]) (st' := [.int ((((((a2 * ((9 : Int32) - (mm_abs (a1 - (4 : Int32))))) * (2 : Int32)) + ((6 : Int32) * (q.1 14 4))) - (((q.1 14 3) * (q.1 14 3)) / (2 : Int32))) + ((q.1 14 6) * a1)) - (q.1 14 5))]) (q' := q) (P := (True) ∧ ((True) ∧ ((True) ∧ ((True) ∧ ((True) ∧ ((True) ∧ ((True) ∧ ((True) ∧ ((True) ∧ ((True) ∧ ((True) ∧ ((True) ∧ ((True) ∧ ((True) ∧ ((True) ∧ ((True) ∧ ((True) ∧ ((True) ∧ ((True) ∧ ((True) ∧ ((True) ∧ ((¬ ((2 : Int32) = 0)) ∧ ((True) ∧ ((True) ∧ ((True) ∧ ((True) ∧ ((True) ∧ ((True) ∧ ((True) ∧ ((True) ∧ ((True) ∧ (True)))))))))))))))))))))))))))))))) (by decide +kernel) rfl rfl (And.intro trivial (And.intro trivial (And.intro trivial (And.intro trivial (And.intro trivial (And.intro trivial (And.intro trivial (And.intro trivial (And.intro trivial (And.intro trivial (And.intro trivial (And.intro trivial (And.intro trivial (And.intro trivial (And.intro trivial (And.intro trivial (And.intro trivial (And.intro trivial (And.intro trivial (And.intro trivial (And.intro trivial (And.intro (by decide) (And.intro trivial (And.intro trivial (And.intro trivial (And.intro trivial (And.intro trivial (And.intro trivial (And.intro trivial (And.intro trivial (And.intro trivial trivial))))))))))))))))))))))))))))))) ?_
  exact mm_ok_iret (by decide +kernel)
