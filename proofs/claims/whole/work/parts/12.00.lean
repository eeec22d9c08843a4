/-! the words that the methods are written in -/
abbrev mm_fu : Nat := 1000
def mm_ushr (x y : Int32) : Int32 := (x.toUInt32 >>> (y.toUInt32 &&& Int32.toUInt32 31)).toInt32
def mm_rem (x y : Int32) : Int32 := x - x / y * y
def mm_reml (x y : Int64) : Int64 := x - x / y * y
def mm_max (x y : Int32) : Int32 := if x < y then y else x
def mm_mn (x y : Int32) : Int32 := if y < x then y else x
def mm_mnl (x y : Int64) : Int64 := if y < x then y else x
def mm_abs (x : Int32) : Int32 := if 0 ≤ x then x else 0 - x
def mm_nz (x : Int32) : Bool := !decide (x = 0)
def mm_nzl (x : Int64) : Bool := !decide (x = 0)
theorem mm_nz_ok {x : Int32} (h : mm_nz x = true) : ¬ x = 0 := by
  unfold mm_nz at h
  simpa using h
theorem mm_nzl_ok {x : Int64} (h : mm_nzl x = true) : ¬ x = 0 := by
  unfold mm_nzl at h
  simpa using h
theorem mm_ex_up {C1 C2 : mm_Cl} (hC : ∀ y as w r w1, C1 y as w r w1 → C2 y as w r w1) {o : Nat} {ini : Bool} {cc : ByteArray} {rt : Option FieldType} {r : Option Value} {w1 : mm_W} : ∀ (n pc : Nat) (L : mm_L) (st : List Value) (w : mm_W), mm_Ex C1 o ini cc rt n pc L st w r w1 → mm_Ex C2 o ini cc rt n pc L st w r w1
  | 0, _, _, _, _, h => h.elim
  | n + 1, pc, L, st, w, h => by
    obtain ⟨i, len, j, hd, hr, h⟩ := h
    refine ⟨i, len, j, hd, hr, ?_⟩
    rcases h with ⟨P, L', st', w', hj, hP, h⟩ | ⟨pc', st', hb, h⟩ | h | ⟨y, as, t, r', w', hc, hcl, h⟩
    · exact Or.inl ⟨P, L', st', w', hj, hP, mm_ex_up hC n _ _ _ _ h⟩
    · exact Or.inr (Or.inl ⟨pc', st', hb, mm_ex_up hC n _ _ _ _ h⟩)
    · exact Or.inr (Or.inr (Or.inl h))
    · exact Or.inr (Or.inr (Or.inr ⟨y, as, t, r', w', hc, hC _ _ _ _ _ hcl, mm_ex_up hC n _ _ _ _ h⟩))
theorem mm_runs_s : ∀ (d y : Nat) (as : List Value) (w : mm_W) (r : Option Value) (w1 : mm_W), mm_Runs d y as w r w1 → mm_Runs (d + 1) y as w r w1
  | 0, _, _, _, _, _, h => h.elim
  | d + 1, y, as, w, r, w1, h => by
    obtain ⟨h1, h2, n, h3⟩ := h
    exact ⟨h1, h2, n, mm_ex_up (mm_runs_s d) n _ _ _ _ h3⟩
theorem mm_runs_le2 {k y : Nat} {as : List Value} {w : mm_W} {r : Option Value} {w1 : mm_W} (h : mm_Runs k y as w r w1) : ∀ e : Nat, mm_Runs (k + e) y as w r w1
  | 0 => h
  | e + 1 => mm_runs_s (k + e) _ _ _ _ _ (mm_runs_le2 h e)
theorem mm_up {k n y : Nat} {as : List Value} {w : mm_W} {r : Option Value} {w1 : mm_W} (hk : Nat.ble k n = true) (h : mm_Runs k y as w r w1) : mm_Runs n y as w r w1 := by
  have := mm_runs_le2 h (n - k)
  rwa [Nat.add_sub_of_le (Nat.le_of_ble_eq_true hk)] at this
theorem mm_upd {k n d y : Nat} {as : List Value} {w : mm_W} {r : Option Value} {w1 : mm_W} (hk : Nat.ble k n = true) (h : mm_Runs k y as w r w1) : mm_Runs (d + n) y as w r w1 := by
  have := mm_runs_le2 h (d + n - k)
  rwa [Nat.add_sub_of_le (Nat.le_trans (Nat.le_of_ble_eq_true hk) (Nat.le_add_left n d))] at this
theorem mm_nin : ∀ (l : List Int) {x : Int32}, (l.all fun k => decide (-2147483648 ≤ k) && decide (k < 2147483648)) = true → (∀ k ∈ l, ¬ x = Int32.ofInt k) → ∀ k ∈ l, ¬ x.toInt = k
  | l, x, h, hx, k, hk, e => by
    have h1 := List.all_eq_true.mp h k hk
    simp only [Bool.and_eq_true, decide_eq_true_eq] at h1
    exact hx k hk (Int32.toInt_inj.mp (by rw [Int32.toInt_ofInt_of_le (by omega) (by omega)]; exact e))
def mm_shf (d : Int32) : Option Nat := if 0 ≤ d ∧ d < 6 then some (16 + 2 * d.toNatClampNeg) else none
def x0_isKind (a1 : Int32) (q : mm_Q) : Option (Int32 × mm_Q) := (if a1 < 0 then (some ((0 : Int32), q)) else (if (8 : Int32) ≤ a1 then (some ((0 : Int32), q)) else (some ((1 : Int32), q))))
set_option maxRecDepth 20000 in
theorem x0_isKind_ok {L : Nat} {a1 : Int32} {q : mm_Q} {r : Int32} {q1 : mm_Q} (h : x0_isKind a1 q = some (r, q1)) : mm_Runs 1 1 [.int a1] (mm_wq L q) (mm_cvi r) (mm_wq L q1) := by
  refine mm_runs_of (d := 0) (L := L) rfl (by decide +kernel) rfl rfl (?_ : mm_ok mm_cvi (mm_Runs 0) 0 false cX0_isKind (some .boolean) L 0 [some (.int a1)] [] q (x0_isKind a1 q)) h
  unfold x0_isKind
  refine mm_ok_bl (l := [(.iload 0, 1)]) (pc' := 1) (lo' := [some (.int a1)]) (st' := [.int a1]) (q' := q) (P := (True) ∧ (True)) (by decide +kernel) rfl rfl (And.intro trivial trivial) ?_
  refine mm_ok_ifCond_lt (pt := 14) (d := 13) (by decide +kernel) (by decide) (fun k1 => ?_) (fun k1 => ?_)
  · refine mm_ok_bl (l := [(.iconst (0), 1)]) (pc' := 15) (lo' := [some (.int a1)]) (st' := [.int (0 : Int32)]) (q' := q) (P := (True) ∧ (True)) (by decide +kernel) rfl rfl (And.intro trivial trivial) ?_
    exact mm_ok_zret (by decide +kernel) (by decide)
  · refine mm_ok_bl (l := [(.iload 0, 1), (.iconst (8), 2)]) (pc' := 7) (lo' := [some (.int a1)]) (st' := [.int (8 : Int32), .int a1]) (q' := q) (P := (True) ∧ ((True) ∧ (True))) (by decide +kernel) rfl rfl (And.intro trivial (And.intro trivial trivial)) ?_
    refine mm_ok_if_icmp_ge (pt := 14) (d := 7) (by decide +kernel) (by decide) (fun k2 => ?_) (fun k2 => ?_)
    · refine mm_ok_bl (l := [(.iconst (0), 1)]) (pc' := 15) (lo' := [some (.int a1)]) (st' := [.int (0 : Int32)]) (q' := q) (P := (True) ∧ (True)) (by decide +kernel) rfl rfl (And.intro trivial trivial) ?_
      exact mm_ok_zret (by decide +kernel) (by decide)
    · refine mm_ok_bl (l := [(.iconst (1), 1)]) (pc' := 11) (lo' := [some (.int a1)]) (st' := [.int (1 : Int32)]) (q' := q) (P := (True) ∧ (True)) (by decide +kernel) rfl rfl (And.intro trivial trivial) ?_
      refine mm_ok_goto (pt := 15) (d := 4) (by decide +kernel) (by decide) ?_
      exact mm_ok_zret (by decide +kernel) (by decide)
def x0_isUnder_h4 : Nat → Int32 → Int32 → Int32 → mm_Q → Option (Int32 × mm_Q)
  | 0, _, _, _, _ => none
  | n + 1, a1, a2, a3, q => (if (8 : Int32) ≤ a3 then (some ((0 : Int32), q)) else (mm_cl (x0_isKind a2 q) (fun r2 q3 => (if r2 = 0 then (some ((0 : Int32), q3)) else (if a2 = a1 then (some ((1 : Int32), q3)) else (mm_ck (mm_inb a2 8) (x0_isUnder_h4 n a1 (q3.1 6 a2.toNatClampNeg) (a3 + (1 : Int32)) q3)))))))
set_option maxRecDepth 20000 in
theorem x0_isUnder_h4_ok {L : Nat} : ∀ (n : Nat) (a1 : Int32) (a2 : Int32) (a3 : Int32) (q : mm_Q), mm_ok mm_cvi (mm_Runs 1) 0 false cX0_isUnder (some .boolean) L 4 [none, some (.int a1), some (.int a2), some (.int a3)] [] q (x0_isUnder_h4 n a1 a2 a3 q)
  | 0, _, _, _, _ => by
    exact mm_ok_none
  | n + 1, a1, a2, a3, q => by
    unfold x0_isUnder_h4
    refine mm_ok_bl (l := [(.iload 3, 1), (.iconst (8), 2)]) (pc' := 7) (lo' := [none, some (.int a1), some (.int a2), some (.int a3)]) (st' := [.int (8 : Int32), .int a3]) (q' := q) (P := (True) ∧ ((True) ∧ (True))) (by decide +kernel) rfl rfl (And.intro trivial (And.intro trivial trivial)) ?_
    refine mm_ok_if_icmp_ge (pt := 36) (d := 29) (by decide +kernel) (by decide) (fun k1 => ?_) (fun k1 => ?_)
    · refine mm_ok_bl (l := [(.iconst (0), 1)]) (pc' := 37) (lo' := [none, some (.int a1), some (.int a2), some (.int a3)]) (st' := [.int (0 : Int32)]) (q' := q) (P := (True) ∧ (True)) (by decide +kernel) rfl rfl (And.intro trivial trivial) ?_
      exact mm_ok_zret (by decide +kernel) (by decide)
    · refine mm_ok_bl (l := [(.iload 2, 1)]) (pc' := 11) (lo' := [none, some (.int a1), some (.int a2), some (.int a3)]) (st' := [.int a2]) (q' := q) (P := (True) ∧ (True)) (by decide +kernel) rfl rfl (And.intro trivial trivial) ?_
      refine mm_ok_call (cz := mm_cvi) (j := .invokestatic 17) (y := 1) (as := [.int a2]) (t := []) (by decide +kernel) rfl (fun _ _ h => mm_up (k := 1) (by decide) (x0_isKind_ok h)) (fun r2 q3 => ?_)
      refine mm_ok_ifCond_eq (pt := 36) (d := 22) (by decide +kernel) (by decide) (fun k4 => ?_) (fun k4 => ?_)
      · refine mm_ok_bl (l := [(.iconst (0), 1)]) (pc' := 37) (lo' := [none, some (.int a1), some (.int a2), some (.int a3)]) (st' := [.int (0 : Int32)]) (q' := q3) (P := (True) ∧ (True)) (by decide +kernel) rfl rfl (And.intro trivial trivial) ?_
        exact mm_ok_zret (by decide +kernel) (by decide)
      · refine mm_ok_bl (l := [(.iload 2, 1), (.iload 1, 1)]) (pc' := 19) (lo' := [none, some (.int a1), some (.int a2), some (.int a3)]) (st' := [.int a1, .int a2]) (q' := q3) (P := (True) ∧ ((True) ∧ (True))) (by decide +kernel) rfl rfl (And.intro trivial (And.intro trivial trivial)) ?_
        refine mm_ok_if_icmp_ne (pt := 24) (d := 5) (by decide +kernel) (by decide) (fun k5 => ?_) (fun k5 => ?_)
        · refine mm_ok_bl (l := [(.iconst (1), 1)]) (pc' := 23) (lo' := [none, some (.int a1), some (.int a2), some (.int a3)]) (st' := [.int (1 : Int32)]) (q' := q3) (P := (True) ∧ (True)) (by decide +kernel) rfl rfl (And.intro trivial trivial) ?_
          exact mm_ok_zret (by decide +kernel) (by decide)
        · refine mm_ok_bl (l := [(.getstatic 6, 3), (.iload 2, 1)]) (pc' := 28) (lo' := [none, some (.int a1), some (.int a2), some (.int a3)]) (st' := [.int a2, .ref 6]) (q' := q3) (P := (True) ∧ ((True) ∧ (True))) (by decide +kernel) rfl rfl (And.intro trivial (And.intro trivial trivial)) ?_
          refine mm_ok_ck (fun c6 => ?_)
          refine mm_ok_bl (l := [(.iaload, 1), (.istore 2, 1), (.iinc 3 (1), 3)]) (pc' := 33) (lo' := [none, some (.int a1), some (.int (q3.1 6 a2.toNatClampNeg)), some (.int (a3 + (1 : Int32)))]) (st' := []) (q' := q3) (P := (mm_ix a2 8) ∧ ((True) ∧ ((True) ∧ (True)))) (by decide +kernel) rfl rfl (And.intro (mm_inb_ix c6) (And.intro trivial (And.intro trivial trivial))) ?_
          refine mm_ok_goto (pt := 4) (d := -29) (by decide +kernel) (by decide) ?_
          exact mm_ok_sub (lo := [none, some (.int a1), some (.int (q3.1 6 a2.toNatClampNeg)), some (.int (a3 + (1 : Int32)))]) (And.intro rfl (And.intro rfl (And.intro rfl trivial))) (x0_isUnder_h4_ok n a1 (q3.1 6 a2.toNatClampNeg) (a3 + (1 : Int32)) q3)
def x0_isUnder (a1 : Int32) (a2 : Int32) (q : mm_Q) : Option (Int32 × mm_Q) := (x0_isUnder_h4 mm_fu a2 a1 (0 : Int32) q)
set_option maxRecDepth 20000 in
theorem x0_isUnder_ok {L : Nat} {a1 : Int32} {a2 : Int32} {q : mm_Q} {r : Int32} {q1 : mm_Q} (h : x0_isUnder a1 a2 q = some (r, q1)) : mm_Runs 2 2 [.int a1, .int a2] (mm_wq L q) (mm_cvi r) (mm_wq L q1) := by
  refine mm_runs_of (d := 1) (L := L) rfl (by decide +kernel) rfl rfl (?_ : mm_ok mm_cvi (mm_Runs 1) 0 false cX0_isUnder (some .boolean) L 0 [some (.int a1), some (.int a2), none, none] [] q (x0_isUnder a1 a2 q)) h
  unfold x0_isUnder
  refine mm_ok_bl (l := [(.iload 0, 1), (.istore 2, 1), (.iconst (0), 1), (.istore 3, 1)]) (pc' := 4) (lo' := [some (.int a1), some (.int a2), some (.int a1), some (.int (0 : Int32))]) (st' := []) (q' := q) (P := (True) ∧ ((True) ∧ ((True) ∧ ((True) ∧ (True))))) (by decide +kernel) rfl rfl (And.intro trivial (And.intro trivial (And.intro trivial (And.intro trivial trivial)))) ?_
  exact mm_ok_sub (lo := [none, some (.int a2), some (.int a1), some (.int (0 : Int32))]) (And.intro rfl (And.intro rfl (And.intro rfl trivial))) (x0_isUnder_h4_ok mm_fu a2 a1 (0 : Int32) q)
def x0_isBody (a1 : Int32) (q : mm_Q) : Option (Int32 × mm_Q) := (if a1 < 0 then (some ((0 : Int32), q)) else (if (q.1 49 2) ≤ a1 then (some ((0 : Int32), q)) else (some ((1 : Int32), q))))
set_option maxRecDepth 20000 in
theorem x0_isBody_ok {L : Nat} {a1 : Int32} {q : mm_Q} {r : Int32} {q1 : mm_Q} (h : x0_isBody a1 q = some (r, q1)) : mm_Runs 1 3 [.ref 49, .int a1] (mm_wq L q) (mm_cvi r) (mm_wq L q1) := by
  refine mm_runs_of (d := 0) (L := L) rfl (by decide +kernel) rfl rfl (?_ : mm_ok mm_cvi (mm_Runs 0) 0 false cX0_isBody (some .boolean) L 0 [some (.ref 49), some (.int a1)] [] q (x0_isBody a1 q)) h
  unfold x0_isBody
  refine mm_ok_bl (l := [(.iload 1, 1)]) (pc' := 1) (lo' := [some (.ref 49), some (.int a1)]) (st' := [.int a1]) (q' := q) (P := (True) ∧ (True)) (by decide +kernel) rfl rfl (And.intro trivial trivial) ?_
  refine mm_ok_ifCond_lt (pt := 16) (d := 15) (by decide +kernel) (by decide) (fun k1 => ?_) (fun k1 => ?_)
  · refine mm_ok_bl (l := [(.iconst (0), 1)]) (pc' := 17) (lo' := [some (.ref 49), some (.int a1)]) (st' := [.int (0 : Int32)]) (q' := q) (P := (True) ∧ (True)) (by decide +kernel) rfl rfl (And.intro trivial trivial) ?_
    exact mm_ok_zret (by decide +kernel) (by decide)
  · refine mm_ok_bl (l := [(.iload 1, 1), (.aload 0, 1), (.getfield 2, 3)]) (pc' := 9) (lo' := [some (.ref 49), some (.int a1)]) (st' := [.int (q.1 49 2), .int a1]) (q' := q) (P := (True) ∧ ((True) ∧ ((True) ∧ (True)))) (by decide +kernel) rfl rfl (And.intro trivial (And.intro trivial (And.intro trivial trivial))) ?_
    refine mm_ok_if_icmp_ge (pt := 16) (d := 7) (by decide +kernel) (by decide) (fun k2 => ?_) (fun k2 => ?_)
    · refine mm_ok_bl (l := [(.iconst (0), 1)]) (pc' := 17) (lo' := [some (.ref 49), some (.int a1)]) (st' := [.int (0 : Int32)]) (q' := q) (P := (True) ∧ (True)) (by decide +kernel) rfl rfl (And.intro trivial trivial) ?_
      exact mm_ok_zret (by decide +kernel) (by decide)
    · refine mm_ok_bl (l := [(.iconst (1), 1)]) (pc' := 13) (lo' := [some (.ref 49), some (.int a1)]) (st' := [.int (1 : Int32)]) (q' := q) (P := (True) ∧ (True)) (by decide +kernel) rfl rfl (And.intro trivial trivial) ?_
      refine mm_ok_goto (pt := 17) (d := 4) (by decide +kernel) (by decide) ?_
      exact mm_ok_zret (by decide +kernel) (by decide)
def x0_isFull  (q : mm_Q) : Option (Int32 × mm_Q) := (if (q.1 49 2) < (50 : Int32) then (some ((0 : Int32), q)) else (some ((1 : Int32), q)))
set_option maxRecDepth 20000 in
theorem x0_isFull_ok {L : Nat} {q : mm_Q} {r : Int32} {q1 : mm_Q} (h : x0_isFull  q = some (r, q1)) : mm_Runs 1 4 [.ref 49] (mm_wq L q) (mm_cvi r) (mm_wq L q1) := by
  refine mm_runs_of (d := 0) (L := L) rfl (by decide +kernel) rfl rfl (?_ : mm_ok mm_cvi (mm_Runs 0) 0 false cX0_isFull (some .boolean) L 0 [some (.ref 49)] [] q (x0_isFull  q)) h
  unfold x0_isFull
  refine mm_ok_bl (l := [(.aload 0, 1), (.getfield 2, 3), (.iconst (50), 2)]) (pc' := 6) (lo' := [some (.ref 49)]) (st' := [.int (50 : Int32), .int (q.1 49 2)]) (q' := q) (P := (True) ∧ ((True) ∧ ((True) ∧ (True)))) (by decide +kernel) rfl rfl (And.intro trivial (And.intro trivial (And.intro trivial trivial))) ?_
  refine mm_ok_if_icmp_lt (pt := 13) (d := 7) (by decide +kernel) (by decide) (fun k1 => ?_) (fun k1 => ?_)
  · refine mm_ok_bl (l := [(.iconst (0), 1)]) (pc' := 14) (lo' := [some (.ref 49)]) (st' := [.int (0 : Int32)]) (q' := q) (P := (True) ∧ (True)) (by decide +kernel) rfl rfl (And.intro trivial trivial) ?_
    exact mm_ok_zret (by decide +kernel) (by decide)
  · refine mm_ok_bl (l := [(.iconst (1), 1)]) (pc' := 10) (lo' := [some (.ref 49)]) (st' := [.int (1 : Int32)]) (q' := q) (P := (True) ∧ (True)) (by decide +kernel) rfl rfl (And.intro trivial trivial) ?_
    refine mm_ok_goto (pt := 14) (d := 4) (by decide +kernel) (by decide) ?_
    exact mm_ok_zret (by decide +kernel) (by decide)
def x0_size  (q : mm_Q) : Option (Int32 × mm_Q) := (some (q.1 49 2, q))
set_option maxRecDepth 20000 in
theorem x0_size_ok {L : Nat} {q : mm_Q} {r : Int32} {q1 : mm_Q} (h : x0_size  q = some (r, q1)) : mm_Runs 1 5 [.ref 49] (mm_wq L q) (mm_cvi r) (mm_wq L q1) := by
  refine mm_runs_of (d := 0) (L := L) rfl (by decide +kernel) rfl rfl (?_ : mm_ok mm_cvi (mm_Runs 0) 0 false cX0_size (some .int) L 0 [some (.ref 49)] [] q (x0_size  q)) h
  unfold x0_size
  refine mm_ok_bl (l := [(.aload 0, 1), (.getfield 2, 3)]) (pc' := 4) (lo' := [some (.ref 49)]) (st' := [.int (q.1 49 2)]) (q' := q) (P := (True) ∧ ((True) ∧ (True))) (by decide +kernel) rfl rfl (And.intro trivial (And.intro trivial trivial)) ?_
  exact mm_ok_iret (by decide +kernel)
def x0_store (a1 : Int32) (q : mm_Q) : Option (Int32 × mm_Q) := (if (q.1 49 2) < 0 then (some (q.1 49 2, q)) else (if (50 : Int32) ≤ (q.1 49 2) then (some (q.1 49 2, q)) else (mm_ck (mm_inb (q.1 49 2) 50) (mm_lt (mm_si q 50 (q.1 49 2).toNatClampNeg a1) (fun q4 => (mm_lt (mm_si q4 49 2 ((q4.1 49 2) + (1 : Int32))) (fun q5 => (some (q.1 49 2, q5)))))))))
set_option maxRecDepth 20000 in
theorem x0_store_ok {L : Nat} {a1 : Int32} {q : mm_Q} {r : Int32} {q1 : mm_Q} (h : x0_store a1 q = some (r, q1)) : mm_Runs 1 6 [.ref 49, .int a1] (mm_wq L q) (mm_cvi r) (mm_wq L q1) := by
  refine mm_runs_of (d := 0) (L := L) rfl (by decide +kernel) rfl rfl (?_ : mm_ok mm_cvi (mm_Runs 0) 0 false cX0_store (some .int) L 0 [some (.ref 49), some (.int a1), none] [] q (x0_store a1 q)) h
  unfold x0_store
  refine mm_ok_bl (l := [(.aload 0, 1), (.getfield 2, 3), (.istore 2, 1), (.iload 2, 1)]) (pc' := 6) (lo' := [some (.ref 49), some (.int a1), some (.int (q.1 49 2))]) (st' := [.int (q.1 49 2)]) (q' := q) (P := (True) ∧ ((True) ∧ ((True) ∧ ((True) ∧ (True))))) (by decide +kernel) rfl rfl (And.intro trivial (And.intro trivial (And.intro trivial (And.intro trivial trivial)))) ?_
  refine mm_ok_ifCond_lt (pt := 32) (d := 26) (by decide +kernel) (by decide) (fun k1 => ?_) (fun k1 => ?_)
  · refine mm_ok_bl (l := [(.iload 2, 1)]) (pc' := 33) (lo' := [some (.ref 49), some (.int a1), some (.int (q.1 49 2))]) (st' := [.int (q.1 49 2)]) (q' := q) (P := (True) ∧ (True)) (by decide +kernel) rfl rfl (And.intro trivial trivial) ?_
    exact mm_ok_iret (by decide +kernel)
  · refine mm_ok_bl (l := [(.iload 2, 1), (.iconst (50), 2)]) (pc' := 12) (lo' := [some (.ref 49), some (.int a1), some (.int (q.1 49 2))]) (st' := [.int (50 : Int32), .int (q.1 49 2)]) (q' := q) (P := (True) ∧ ((True) ∧ (True))) (by decide +kernel) rfl rfl (And.intro trivial (And.intro trivial trivial)) ?_
    refine mm_ok_if_icmp_ge (pt := 32) (d := 20) (by decide +kernel) (by decide) (fun k2 => ?_) (fun k2 => ?_)
    · refine mm_ok_bl (l := [(.iload 2, 1)]) (pc' := 33) (lo' := [some (.ref 49), some (.int a1), some (.int (q.1 49 2))]) (st' := [.int (q.1 49 2)]) (q' := q) (P := (True) ∧ (True)) (by decide +kernel) rfl rfl (And.intro trivial trivial) ?_
      exact mm_ok_iret (by decide +kernel)
    · refine mm_ok_bl (l := [(.aload 0, 1), (.getfield 0, 3), (.iload 2, 1), (.iload 1, 1)]) (pc' := 21) (lo' := [some (.ref 49), some (.int a1), some (.int (q.1 49 2))]) (st' := [.int a1, .int (q.1 49 2), .ref 50]) (q' := q) (P := (True) ∧ ((True) ∧ ((True) ∧ ((True) ∧ (True))))) (by decide +kernel) rfl rfl (And.intro trivial (And.intro trivial (And.intro trivial (And.intro trivial trivial)))) ?_
      refine mm_ok_ck (fun c3 => ?_)
      refine mm_ok_bl (l := [(.iastore, 1)]) (pc' := 22) (lo' := [some (.ref 49), some (.int a1), some (.int (q.1 49 2))]) (st' := []) (q' := (mm_si q 50 (q.1 49 2).toNatClampNeg a1)) (P := (mm_ix (q.1 49 2) 50) ∧ (True)) (by decide +kernel) rfl rfl (And.intro (mm_inb_ix c3) trivial) ?_
      refine mm_ok_lt (fun q4 => ?_)
      refine mm_ok_bl (l := [(.aload 0, 1), (.dup, 1), (.getfield 2, 3), (.iconst (1), 1), (.iadd, 1), (.putfield 2, 3)]) (pc' := 32) (lo' := [some (.ref 49), some (.int a1), some (.int (q.1 49 2))]) (st' := []) (q' := (mm_si q4 49 2 ((q4.1 49 2) + (1 : Int32)))) (P := (True) ∧ ((True) ∧ ((True) ∧ ((True) ∧ ((True) ∧ ((True) ∧ (True))))))) (by decide +kernel) rfl rfl (And.intro trivial (And.intro trivial (And.intro trivial (And.intro trivial (And.intro trivial (And.intro trivial trivial)))))) ?_
      refine mm_ok_lt (fun q5 => ?_)
      refine mm_ok_bl (l := [(.iload 2, 1)]) (pc' := 33) (lo' := [some (.ref 49), some (.int a1), some (.int (q.1 49 2))]) (st' := [.int (q.1 49 2)]) (q' := q5) (P := (True) ∧ (True)) (by decide +kernel) rfl rfl (And.intro trivial trivial) ?_
      exact mm_ok_iret (by decide +kernel)
def x0_kindOf (a1 : Int32) (q : mm_Q) : Option (Int32 × mm_Q) := (mm_cl (x0_isBody a1 q) (fun r1 q2 => (if r1 = 0 then (some ((0 : Int32), q2)) else (if (50 : Int32) ≤ a1 then (some ((0 : Int32), q2)) else (mm_ck (mm_inb a1 50) (some (q2.1 50 a1.toNatClampNeg, q2)))))))
set_option maxRecDepth 20000 in
theorem x0_kindOf_ok {L : Nat} {a1 : Int32} {q : mm_Q} {r : Int32} {q1 : mm_Q} (h : x0_kindOf a1 q = some (r, q1)) : mm_Runs 2 7 [.ref 49, .int a1] (mm_wq L q) (mm_cvi r) (mm_wq L q1) := by
  refine mm_runs_of (d := 1) (L := L) rfl (by decide +kernel) rfl rfl (?_ : mm_ok mm_cvi (mm_Runs 1) 0 false cX0_kindOf (some .int) L 0 [some (.ref 49), some (.int a1)] [] q (x0_kindOf a1 q)) h
  unfold x0_kindOf
  refine mm_ok_bl (l := [(.aload 0, 1), (.iload 1, 1)]) (pc' := 2) (lo' := [some (.ref 49), some (.int a1)]) (st' := [.int a1, .ref 49]) (q' := q) (P := (True) ∧ ((True) ∧ (True))) (by decide +kernel) rfl rfl (And.intro trivial (And.intro trivial trivial)) ?_
  refine mm_ok_call (cz := mm_cvi) (j := .invokevirtual 49) (y := 3) (as := [.ref 49, .int a1]) (t := []) (by decide +kernel) rfl (fun _ _ h => mm_up (k := 1) (by decide) (x0_isBody_ok h)) (fun r1 q2 => ?_)
  refine mm_ok_ifCond_eq (pt := 23) (d := 18) (by decide +kernel) (by decide) (fun k3 => ?_) (fun k3 => ?_)
  · refine mm_ok_bl (l := [(.iconst (0), 1)]) (pc' := 24) (lo' := [some (.ref 49), some (.int a1)]) (st' := [.int (0 : Int32)]) (q' := q2) (P := (True) ∧ (True)) (by decide +kernel) rfl rfl (And.intro trivial trivial) ?_
    exact mm_ok_iret (by decide +kernel)
  · refine mm_ok_bl (l := [(.iload 1, 1), (.iconst (50), 2)]) (pc' := 11) (lo' := [some (.ref 49), some (.int a1)]) (st' := [.int (50 : Int32), .int a1]) (q' := q2) (P := (True) ∧ ((True) ∧ (True))) (by decide +kernel) rfl rfl (And.intro trivial (And.intro trivial trivial)) ?_
    refine mm_ok_if_icmp_ge (pt := 23) (d := 12) (by decide +kernel) (by decide) (fun k4 => ?_) (fun k4 => ?_)
    · refine mm_ok_bl (l := [(.iconst (0), 1)]) (pc' := 24) (lo' := [some (.ref 49), some (.int a1)]) (st' := [.int (0 : Int32)]) (q' := q2) (P := (True) ∧ (True)) (by decide +kernel) rfl rfl (And.intro trivial trivial) ?_
      exact mm_ok_iret (by decide +kernel)
    · refine mm_ok_bl (l := [(.aload 0, 1), (.getfield 0, 3), (.iload 1, 1)]) (pc' := 19) (lo' := [some (.ref 49), some (.int a1)]) (st' := [.int a1, .ref 50]) (q' := q2) (P := (True) ∧ ((True) ∧ ((True) ∧ (True)))) (by decide +kernel) rfl rfl (And.intro trivial (And.intro trivial (And.intro trivial trivial))) ?_
      refine mm_ok_ck (fun c5 => ?_)
      refine mm_ok_bl (l := [(.iaload, 1)]) (pc' := 20) (lo' := [some (.ref 49), some (.int a1)]) (st' := [.int (q2.1 50 a1.toNatClampNeg)]) (q' := q2) (P := (mm_ix a1 50) ∧ (True)) (by decide +kernel) rfl rfl (And.intro (mm_inb_ix c5) trivial) ?_
      refine mm_ok_goto (pt := 24) (d := 4) (by decide +kernel) (by decide) ?_
      exact mm_ok_iret (by decide +kernel)
def x0_bodyFrom_j54 (rr4 : Int32 → Int32 → Int32 → mm_Q → Option (Int32 × mm_Q)) (a1 : Int32) (a2 : Int32) (a3 : Int32) (q : mm_Q) : Option (Int32 × mm_Q) := (mm_ck (mm_inb a2 8) (rr4 a1 (q.1 6 a2.toNatClampNeg) (a3 + (1 : Int32)) q))
set_option maxRecDepth 20000 in
theorem x0_bodyFrom_j54_ok {L : Nat} (rr4 : Int32 → Int32 → Int32 → mm_Q → Option (Int32 × mm_Q)) (hrr4 : ∀ (a1 : Int32) (a2 : Int32) (a3 : Int32) (q : mm_Q), mm_ok mm_cvi (mm_Runs 1) 0 false cX0_bodyFrom (some .int) L 4 [none, some (.int a1), some (.int a2), some (.int a3), none] [] q (rr4 a1 a2 a3 q)) (a1 : Int32) (a2 : Int32) (a3 : Int32) (q : mm_Q) : mm_ok mm_cvi (mm_Runs 1) 0 false cX0_bodyFrom (some .int) L 54 [none, some (.int a1), some (.int a2), some (.int a3), none] [] q (x0_bodyFrom_j54 rr4 a1 a2 a3 q) := by
  unfold x0_bodyFrom_j54
  refine mm_ok_bl (l := [(.getstatic 6, 3), (.iload 2, 1)]) (pc' := 58) (lo' := [none, some (.int a1), some (.int a2), some (.int a3), none]) (st' := [.int a2, .ref 6]) (q' := q) (P := (True) ∧ ((True) ∧ (True))) (by decide +kernel) rfl rfl (And.intro trivial (And.intro trivial trivial)) ?_
  refine mm_ok_ck (fun c10 => ?_)
  refine mm_ok_bl (l := [(.iaload, 1), (.istore 2, 1), (.iinc 3 (1), 3)]) (pc' := 63) (lo' := [none, some (.int a1), some (.int (q.1 6 a2.toNatClampNeg)), some (.int (a3 + (1 : Int32))), none]) (st' := []) (q' := q) (P := (mm_ix a2 8) ∧ ((True) ∧ ((True) ∧ (True)))) (by decide +kernel) rfl rfl (And.intro (mm_inb_ix c10) (And.intro trivial (And.intro trivial trivial))) ?_
  refine mm_ok_goto (pt := 4) (d := -59) (by decide +kernel) (by decide) ?_
  exact mm_ok_sub (lo := [none, some (.int a1), some (.int (q.1 6 a2.toNatClampNeg)), some (.int (a3 + (1 : Int32))), none]) (And.intro rfl (And.intro rfl (And.intro rfl trivial))) (hrr4 a1 (q.1 6 a2.toNatClampNeg) (a3 + (1 : Int32)) q)
def x0_bodyFrom_h4 : Nat → Int32 → Int32 → Int32 → mm_Q → Option (Int32 × mm_Q)
  | 0, _, _, _, _ => none
  | n + 1, a1, a2, a3, q => (if (8 : Int32) ≤ a3 then (some ((0 : Int32), q)) else (mm_cl (x0_isKind a2 q) (fun r2 q3 => (if r2 = 0 then (some ((0 : Int32), q3)) else (if ((a2 * (4 : Int32)) + a1) < 0 then (x0_bodyFrom_j54 (x0_bodyFrom_h4 n) a1 a2 a3 q3) else (if (32 : Int32) ≤ ((a2 * (4 : Int32)) + a1) then (x0_bodyFrom_j54 (x0_bodyFrom_h4 n) a1 a2 a3 q3) else (mm_ck (mm_inb ((a2 * (4 : Int32)) + a1) 32) (if (q3.1 5 ((a2 * (4 : Int32)) + a1).toNatClampNeg) = 0 then (x0_bodyFrom_j54 (x0_bodyFrom_h4 n) a1 a2 a3 q3) else (mm_ck (mm_inb ((a2 * (4 : Int32)) + a1) 32) (some (q3.1 5 ((a2 * (4 : Int32)) + a1).toNatClampNeg, q3)))))))))))
set_option maxRecDepth 20000 in
theorem x0_bodyFrom_h4_ok {L : Nat} : ∀ (n : Nat) (a1 : Int32) (a2 : Int32) (a3 : Int32) (q : mm_Q), mm_ok mm_cvi (mm_Runs 1) 0 false cX0_bodyFrom (some .int) L 4 [none, some (.int a1), some (.int a2), some (.int a3), none] [] q (x0_bodyFrom_h4 n a1 a2 a3 q)
  | 0, _, _, _, _ => by
    exact mm_ok_none
  | n + 1, a1, a2, a3, q => by
    unfold x0_bodyFrom_h4
    refine mm_ok_bl (l := [(.iload 3, 1), (.iconst (8), 2)]) (pc' := 7) (lo' := [none, some (.int a1), some (.int a2), some (.int a3), none]) (st' := [.int (8 : Int32), .int a3]) (q' := q) (P := (True) ∧ ((True) ∧ (True))) (by decide +kernel) rfl rfl (And.intro trivial (And.intro trivial trivial)) ?_
    refine mm_ok_if_icmp_ge (pt := 66) (d := 59) (by decide +kernel) (by decide) (fun k1 => ?_) (fun k1 => ?_)
    · refine mm_ok_bl (l := [(.iconst (0), 1)]) (pc' := 67) (lo' := [none, some (.int a1), some (.int a2), some (.int a3), none]) (st' := [.int (0 : Int32)]) (q' := q) (P := (True) ∧ (True)) (by decide +kernel) rfl rfl (And.intro trivial trivial) ?_
      exact mm_ok_iret (by decide +kernel)
    · refine mm_ok_bl (l := [(.iload 2, 1)]) (pc' := 11) (lo' := [none, some (.int a1), some (.int a2), some (.int a3), none]) (st' := [.int a2]) (q' := q) (P := (True) ∧ (True)) (by decide +kernel) rfl rfl (And.intro trivial trivial) ?_
      refine mm_ok_call (cz := mm_cvi) (j := .invokestatic 17) (y := 1) (as := [.int a2]) (t := []) (by decide +kernel) rfl (fun _ _ h => mm_up (k := 1) (by decide) (x0_isKind_ok h)) (fun r2 q3 => ?_)
      refine mm_ok_ifCond_eq (pt := 66) (d := 52) (by decide +kernel) (by decide) (fun k4 => ?_) (fun k4 => ?_)
      · refine mm_ok_bl (l := [(.iconst (0), 1)]) (pc' := 67) (lo' := [none, some (.int a1), some (.int a2), some (.int a3), none]) (st' := [.int (0 : Int32)]) (q' := q3) (P := (True) ∧ (True)) (by decide +kernel) rfl rfl (And.intro trivial trivial) ?_
        exact mm_ok_iret (by decide +kernel)
      · refine mm_ok_bl (l := [(.iload 2, 1), (.iconst (4), 1), (.imul, 1), (.iload 1, 1), (.iadd, 1), (.istore 4, 2), (.iload 4, 2)]) (pc' := 26) (lo' := [none, some (.int a1), some (.int a2), some (.int a3), some (.int ((a2 * (4 : Int32)) + a1))]) (st' := [.int ((a2 * (4 : Int32)) + a1)]) (q' := q3) (P := (True) ∧ ((True) ∧ ((True) ∧ ((True) ∧ ((True) ∧ ((True) ∧ ((True) ∧ (True)))))))) (by decide +kernel) rfl rfl (And.intro trivial (And.intro trivial (And.intro trivial (And.intro trivial (And.intro trivial (And.intro trivial (And.intro trivial trivial))))))) ?_
        refine mm_ok_ifCond_lt (pt := 54) (d := 28) (by decide +kernel) (by decide) (fun k5 => ?_) (fun k5 => ?_)
        · exact mm_ok_sub (lo := [none, some (.int a1), some (.int a2), some (.int a3), none]) (And.intro rfl (And.intro rfl (And.intro rfl trivial))) (x0_bodyFrom_j54_ok (x0_bodyFrom_h4 n) (x0_bodyFrom_h4_ok n) a1 a2 a3 q3)
        · refine mm_ok_bl (l := [(.iload 4, 2), (.getstatic 5, 3), (.arraylength, 1)]) (pc' := 35) (lo' := [none, some (.int a1), some (.int a2), some (.int a3), some (.int ((a2 * (4 : Int32)) + a1))]) (st' := [.int (32 : Int32), .int ((a2 * (4 : Int32)) + a1)]) (q' := q3) (P := (True) ∧ ((True) ∧ ((True) ∧ (True)))) (by decide +kernel) rfl rfl (And.intro trivial (And.intro trivial (And.intro trivial trivial))) ?_
          refine mm_ok_if_icmp_ge (pt := 54) (d := 19) (by decide +kernel) (by decide) (fun k6 => ?_) (fun k6 => ?_)
          · exact mm_ok_sub (lo := [none, some (.int a1), some (.int a2), some (.int a3), none]) (And.intro rfl (And.intro rfl (And.intro rfl trivial))) (x0_bodyFrom_j54_ok (x0_bodyFrom_h4 n) (x0_bodyFrom_h4_ok n) a1 a2 a3 q3)
          · refine mm_ok_bl (l := [(.getstatic 5, 3), (.iload 4, 2)]) (pc' := 43) (lo' := [none, some (.int a1), some (.int a2), some (.int a3), some (.int ((a2 * (4 : Int32)) + a1))]) (st' := [.int ((a2 * (4 : Int32)) + a1), .ref 5]) (q' := q3) (P := (True) ∧ ((True) ∧ (True))) (by decide +kernel) rfl rfl (And.intro trivial (And.intro trivial trivial)) ?_
            refine mm_ok_ck (fun c7 => ?_)
            refine mm_ok_bl (l := [(.iaload, 1)]) (pc' := 44) (lo' := [none, some (.int a1), some (.int a2), some (.int a3), some (.int ((a2 * (4 : Int32)) + a1))]) (st' := [.int (q3.1 5 ((a2 * (4 : Int32)) + a1).toNatClampNeg)]) (q' := q3) (P := (mm_ix ((a2 * (4 : Int32)) + a1) 32) ∧ (True)) (by decide +kernel) rfl rfl (And.intro (mm_inb_ix c7) trivial) ?_
            refine mm_ok_ifCond_eq (pt := 54) (d := 10) (by decide +kernel) (by decide) (fun k8 => ?_) (fun k8 => ?_)
            · exact mm_ok_sub (lo := [none, some (.int a1), some (.int a2), some (.int a3), none]) (And.intro rfl (And.intro rfl (And.intro rfl trivial))) (x0_bodyFrom_j54_ok (x0_bodyFrom_h4 n) (x0_bodyFrom_h4_ok n) a1 a2 a3 q3)
            · refine mm_ok_bl (l := [(.getstatic 5, 3), (.iload 4, 2)]) (pc' := 52) (lo' := [none, some (.int a1), some (.int a2), some (.int a3), some (.int ((a2 * (4 : Int32)) + a1))]) (st' := [.int ((a2 * (4 : Int32)) + a1), .ref 5]) (q' := q3) (P := (True) ∧ ((True) ∧ (True))) (by decide +kernel) rfl rfl (And.intro trivial (And.intro trivial trivial)) ?_
              refine mm_ok_ck (fun c9 => ?_)
              refine mm_ok_bl (l := [(.iaload, 1)]) (pc' := 53) (lo' := [none, some (.int a1), some (.int a2), some (.int a3), some (.int ((a2 * (4 : Int32)) + a1))]) (st' := [.int (q3.1 5 ((a2 * (4 : Int32)) + a1).toNatClampNeg)]) (q' := q3) (P := (mm_ix ((a2 * (4 : Int32)) + a1) 32) ∧ (True)) (by decide +kernel) rfl rfl (And.intro (mm_inb_ix c9) trivial) ?_
              exact mm_ok_iret (by decide +kernel)
def x0_bodyFrom (a1 : Int32) (a2 : Int32) (q : mm_Q) : Option (Int32 × mm_Q) := (x0_bodyFrom_h4 mm_fu a2 a1 (0 : Int32) q)
set_option maxRecDepth 20000 in
theorem x0_bodyFrom_ok {L : Nat} {a1 : Int32} {a2 : Int32} {q : mm_Q} {r : Int32} {q1 : mm_Q} (h : x0_bodyFrom a1 a2 q = some (r, q1)) : mm_Runs 2 14 [.int a1, .int a2] (mm_wq L q) (mm_cvi r) (mm_wq L q1) := by
  refine mm_runs_of (d := 1) (L := L) rfl (by decide +kernel) rfl rfl (?_ : mm_ok mm_cvi (mm_Runs 1) 0 false cX0_bodyFrom (some .int) L 0 [some (.int a1), some (.int a2), none, none, none] [] q (x0_bodyFrom a1 a2 q)) h
  unfold x0_bodyFrom
  refine mm_ok_bl (l := [(.iload 0, 1), (.istore 2, 1), (.iconst (0), 1), (.istore 3, 1)]) (pc' := 4) (lo' := [some (.int a1), some (.int a2), some (.int a1), some (.int (0 : Int32)), none]) (st' := []) (q' := q) (P := (True) ∧ ((True) ∧ ((True) ∧ ((True) ∧ (True))))) (by decide +kernel) rfl rfl (And.intro trivial (And.intro trivial (And.intro trivial (And.intro trivial trivial)))) ?_
  exact mm_ok_sub (lo := [none, some (.int a2), some (.int a1), some (.int (0 : Int32)), none]) (And.intro rfl (And.intro rfl (And.intro rfl trivial))) (x0_bodyFrom_h4_ok mm_fu a2 a1 (0 : Int32) q)
def x0_begin_j26  (q : mm_Q) : Option (Unit × mm_Q) := (mm_lt (mm_si q 49 3 ((q.1 49 3) + (1 : Int32))) (fun q5 => (some ((), q5))))
set_option maxRecDepth 20000 in
theorem x0_begin_j26_ok {L : Nat}  (q : mm_Q) : mm_ok mm_cvu (mm_Runs 0) 0 false cX0_begin none L 26 [some (.ref 49), none] [] q (x0_begin_j26  q) := by
  unfold x0_begin_j26
  refine mm_ok_bl (l := [(.aload 0, 1), (.dup, 1), (.getfield 3, 3), (.iconst (1), 1), (.iadd, 1), (.putfield 3, 3)]) (pc' := 36) (lo' := [some (.ref 49), none]) (st' := []) (q' := (mm_si q 49 3 ((q.1 49 3) + (1 : Int32)))) (P := (True) ∧ ((True) ∧ ((True) ∧ ((True) ∧ ((True) ∧ ((True) ∧ (True))))))) (by decide +kernel) rfl rfl (And.intro trivial (And.intro trivial (And.intro trivial (And.intro trivial (And.intro trivial (And.intro trivial trivial)))))) ?_
  refine mm_ok_lt (fun q5 => ?_)
  exact mm_ok_vret (by decide +kernel)
def x0_begin (a1 : Int32) (q : mm_Q) : Option (Unit × mm_Q) := (if (q.1 49 3) < 0 then (x0_begin_j26 q) else (if (24 : Int32) ≤ (q.1 49 3) then (x0_begin_j26 q) else (mm_ck (mm_inb (q.1 49 3) 24) (mm_lt (mm_si q 51 (q.1 49 3).toNatClampNeg a1) (fun q4 => (x0_begin_j26 q4))))))
set_option maxRecDepth 20000 in
theorem x0_begin_ok {L : Nat} {a1 : Int32} {q : mm_Q} {r : Unit} {q1 : mm_Q} (h : x0_begin a1 q = some (r, q1)) : mm_Runs 1 15 [.ref 49, .int a1] (mm_wq L q) (mm_cvu r) (mm_wq L q1) := by
  refine mm_runs_of (d := 0) (L := L) rfl (by decide +kernel) rfl rfl (?_ : mm_ok mm_cvu (mm_Runs 0) 0 false cX0_begin none L 0 [some (.ref 49), some (.int a1)] [] q (x0_begin a1 q)) h
  unfold x0_begin
  refine mm_ok_bl (l := [(.aload 0, 1), (.getfield 3, 3)]) (pc' := 4) (lo' := [some (.ref 49), some (.int a1)]) (st' := [.int (q.1 49 3)]) (q' := q) (P := (True) ∧ ((True) ∧ (True))) (by decide +kernel) rfl rfl (And.intro trivial (And.intro trivial trivial)) ?_
  refine mm_ok_ifCond_lt (pt := 26) (d := 22) (by decide +kernel) (by decide) (fun k1 => ?_) (fun k1 => ?_)
  · exact mm_ok_sub (lo := [some (.ref 49), none]) (And.intro rfl trivial) (x0_begin_j26_ok  q)
  · refine mm_ok_bl (l := [(.aload 0, 1), (.getfield 3, 3), (.iconst (24), 2)]) (pc' := 13) (lo' := [some (.ref 49), some (.int a1)]) (st' := [.int (24 : Int32), .int (q.1 49 3)]) (q' := q) (P := (True) ∧ ((True) ∧ ((True) ∧ (True)))) (by decide +kernel) rfl rfl (And.intro trivial (And.intro trivial (And.intro trivial trivial))) ?_
    refine mm_ok_if_icmp_ge (pt := 26) (d := 13) (by decide +kernel) (by decide) (fun k2 => ?_) (fun k2 => ?_)
    · exact mm_ok_sub (lo := [some (.ref 49), none]) (And.intro rfl trivial) (x0_begin_j26_ok  q)
    · refine mm_ok_bl (l := [(.aload 0, 1), (.getfield 1, 3), (.aload 0, 1), (.getfield 3, 3), (.iload 1, 1)]) (pc' := 25) (lo' := [some (.ref 49), some (.int a1)]) (st' := [.int a1, .int (q.1 49 3), .ref 51]) (q' := q) (P := (True) ∧ ((True) ∧ ((True) ∧ ((True) ∧ ((True) ∧ (True)))))) (by decide +kernel) rfl rfl (And.intro trivial (And.intro trivial (And.intro trivial (And.intro trivial (And.intro trivial trivial))))) ?_
      refine mm_ok_ck (fun c3 => ?_)
      refine mm_ok_bl (l := [(.iastore, 1)]) (pc' := 26) (lo' := [some (.ref 49), some (.int a1)]) (st' := []) (q' := (mm_si q 51 (q.1 49 3).toNatClampNeg a1)) (P := (mm_ix (q.1 49 3) 24) ∧ (True)) (by decide +kernel) rfl rfl (And.intro (mm_inb_ix c3) trivial) ?_
      refine mm_ok_lt (fun q4 => ?_)
      exact mm_ok_sub (lo := [some (.ref 49), none]) (And.intro rfl trivial) (x0_begin_j26_ok  q4)
def x0_own (rc : Nat → Int32 → Int32 → Int32 → Int32 → mm_Q → Option (Int32 × mm_Q)) (a1 : Int32) (a2 : Int32) (a3 : Int32) (q : mm_Q) : Option (Int32 × mm_Q) := (mm_cl (x0_kindOf (q.1 49 4) q) (fun r1 q2 => (mm_cl (rc 2 r1 a1 a2 a3 q2) (fun r3 q4 => (some (r3, q4))))))
set_option maxRecDepth 20000 in
theorem x0_own_ok {L d : Nat} (rc : Nat → Int32 → Int32 → Int32 → Int32 → mm_Q → Option (Int32 × mm_Q)) (hc0 : ∀ (a1 : Int32) (a2 : Int32) (a3 : Int32) (q : mm_Q) (r : Int32) (q1 : mm_Q), rc 0 a1 a2 a3 0 q = some (r, q1) → mm_Runs (d + 2) 11 [.ref 49, .int a1, .int a2, .int a3] (mm_wq L q) (mm_cvi r) (mm_wq L q1)) (hc1 : ∀ (a1 : Int32) (a2 : Int32) (a3 : Int32) (a4 : Int32) (q : mm_Q) (r : Int32) (q1 : mm_Q), rc 1 a1 a2 a3 a4 q = some (r, q1) → mm_Runs (d + 2) 12 [.ref 49, .int a1, .int a2, .int a3, .int a4] (mm_wq L q) (mm_cvi r) (mm_wq L q1)) (hc2 : ∀ (a1 : Int32) (a2 : Int32) (a3 : Int32) (a4 : Int32) (q : mm_Q) (r : Int32) (q1 : mm_Q), rc 2 a1 a2 a3 a4 q = some (r, q1) → mm_Runs (d + 2) 13 [.ref 49, .int a1, .int a2, .int a3, .int a4] (mm_wq L q) (mm_cvi r) (mm_wq L q1)) (hc3 : ∀ (a1 : Int32) (a2 : Int32) (a3 : Int32) (q : mm_Q) (r : Int32) (q1 : mm_Q), rc 3 a1 a2 a3 0 q = some (r, q1) → mm_Runs (d + 2) 16 [.ref 49, .int a1, .int a2, .int a3] (mm_wq L q) (mm_cvi r) (mm_wq L q1)) (hc4 : ∀ (a1 : Int32) (a2 : Int32) (a3 : Int32) (q : mm_Q) (r : Int32) (q1 : mm_Q), rc 4 a1 a2 a3 0 q = some (r, q1) → mm_Runs (d + 2) 17 [.ref 49, .int a1, .int a2, .int a3] (mm_wq L q) (mm_cvi r) (mm_wq L q1)) {a1 : Int32} {a2 : Int32} {a3 : Int32} {q : mm_Q} {r : Int32} {q1 : mm_Q} (h : x0_own rc a1 a2 a3 q = some (r, q1)) : mm_Runs (d + 2 + 1) 11 [.ref 49, .int a1, .int a2, .int a3] (mm_wq L q) (mm_cvi r) (mm_wq L q1) := by
  refine mm_runs_of (d := d + 2) (L := L) rfl (by decide +kernel) rfl rfl (?_ : mm_ok mm_cvi (mm_Runs (d + 2)) 0 false cX0_own (some .int) L 0 [some (.ref 49), some (.int a1), some (.int a2), some (.int a3)] [] q (x0_own rc a1 a2 a3 q)) h
  unfold x0_own
  refine mm_ok_bl (l := [(.aload 0, 1), (.aload 0, 1), (.aload 0, 1), (.getfield 4, 3)]) (pc' := 6) (lo' := [some (.ref 49), some (.int a1), some (.int a2), some (.int a3)]) (st' := [.int (q.1 49 4), .ref 49, .ref 49]) (q' := q) (P := (True) ∧ ((True) ∧ ((True) ∧ ((True) ∧ (True))))) (by decide +kernel) rfl rfl (And.intro trivial (And.intro trivial (And.intro trivial (And.intro trivial trivial)))) ?_
  refine mm_ok_call (cz := mm_cvi) (j := .invokevirtual 113) (y := 7) (as := [.ref 49, .int (q.1 49 4)]) (t := [.ref 49]) (by decide +kernel) rfl (fun _ _ h => mm_upd (k := 2) (by decide) (x0_kindOf_ok h)) (fun r1 q2 => ?_)
  refine mm_ok_bl (l := [(.iload 1, 1), (.iload 2, 1), (.iload 3, 1)]) (pc' := 12) (lo' := [some (.ref 49), some (.int a1), some (.int a2), some (.int a3)]) (st' := [.int a3, .int a2, .int a1, .int r1, .ref 49]) (q' := q2) (P := (True) ∧ ((True) ∧ ((True) ∧ (True)))) (by decide +kernel) rfl rfl (And.intro trivial (And.intro trivial (And.intro trivial trivial))) ?_
  refine mm_ok_call (cz := mm_cvi) (j := .invokevirtual 212) (y := 13) (as := [.ref 49, .int r1, .int a1, .int a2, .int a3]) (t := []) (by decide +kernel) rfl (fun _ _ h => hc2 _ _ _ _ _ _ _ h) (fun r3 q4 => ?_)
  exact mm_ok_iret (by decide +kernel)
def x0_above_j17 (rc : Nat → Int32 → Int32 → Int32 → Int32 → mm_Q → Option (Int32 × mm_Q)) (a2 : Int32) (a3 : Int32) (a4 : Int32) (s1 : Int32) (q : mm_Q) : Option (Int32 × mm_Q) := (mm_cl (rc 2 s1 a2 a3 a4 q) (fun r5 q6 => (some (r5, q6))))
set_option maxRecDepth 20000 in
theorem x0_above_j17_ok {L : Nat} {d : Nat} (rc : Nat → Int32 → Int32 → Int32 → Int32 → mm_Q → Option (Int32 × mm_Q)) (hc0 : ∀ (a1 : Int32) (a2 : Int32) (a3 : Int32) (q : mm_Q) (r : Int32) (q1 : mm_Q), rc 0 a1 a2 a3 0 q = some (r, q1) → mm_Runs (d + 2) 11 [.ref 49, .int a1, .int a2, .int a3] (mm_wq L q) (mm_cvi r) (mm_wq L q1)) (hc1 : ∀ (a1 : Int32) (a2 : Int32) (a3 : Int32) (a4 : Int32) (q : mm_Q) (r : Int32) (q1 : mm_Q), rc 1 a1 a2 a3 a4 q = some (r, q1) → mm_Runs (d + 2) 12 [.ref 49, .int a1, .int a2, .int a3, .int a4] (mm_wq L q) (mm_cvi r) (mm_wq L q1)) (hc2 : ∀ (a1 : Int32) (a2 : Int32) (a3 : Int32) (a4 : Int32) (q : mm_Q) (r : Int32) (q1 : mm_Q), rc 2 a1 a2 a3 a4 q = some (r, q1) → mm_Runs (d + 2) 13 [.ref 49, .int a1, .int a2, .int a3, .int a4] (mm_wq L q) (mm_cvi r) (mm_wq L q1)) (hc3 : ∀ (a1 : Int32) (a2 : Int32) (a3 : Int32) (q : mm_Q) (r : Int32) (q1 : mm_Q), rc 3 a1 a2 a3 0 q = some (r, q1) → mm_Runs (d + 2) 16 [.ref 49, .int a1, .int a2, .int a3] (mm_wq L q) (mm_cvi r) (mm_wq L q1)) (hc4 : ∀ (a1 : Int32) (a2 : Int32) (a3 : Int32) (q : mm_Q) (r : Int32) (q1 : mm_Q), rc 4 a1 a2 a3 0 q = some (r, q1) → mm_Runs (d + 2) 17 [.ref 49, .int a1, .int a2, .int a3] (mm_wq L q) (mm_cvi r) (mm_wq L q1)) (a2 : Int32) (a3 : Int32) (a4 : Int32) (s1 : Int32) (q : mm_Q) : mm_ok mm_cvi (mm_Runs (d + 2)) 0 false cX0_above (some .int) L 17 [none, none, some (.int a2), some (.int a3), some (.int a4)] [.int s1, .ref 49] q (x0_above_j17 rc a2 a3 a4 s1 q) := by
  unfold x0_above_j17
  refine mm_ok_bl (l := [(.iload 2, 1), (.iload 3, 1), (.iload 4, 2)]) (pc' := 21) (lo' := [none, none, some (.int a2), some (.int a3), some (.int a4)]) (st' := [.int a4, .int a3, .int a2, .int s1, .ref 49]) (q' := q) (P := (True) ∧ ((True) ∧ ((True) ∧ (True)))) (by decide +kernel) rfl rfl (And.intro trivial (And.intro trivial (And.intro trivial trivial))) ?_
  refine mm_ok_call (cz := mm_cvi) (j := .invokevirtual 212) (y := 13) (as := [.ref 49, .int s1, .int a2, .int a3, .int a4]) (t := []) (by decide +kernel) rfl (fun _ _ h => hc2 _ _ _ _ _ _ _ h) (fun r5 q6 => ?_)
  exact mm_ok_iret (by decide +kernel)
def x0_above (rc : Nat → Int32 → Int32 → Int32 → Int32 → mm_Q → Option (Int32 × mm_Q)) (a1 : Int32) (a2 : Int32) (a3 : Int32) (a4 : Int32) (q : mm_Q) : Option (Int32 × mm_Q) := (mm_cl (x0_isKind a1 q) (fun r1 q2 => (if r1 = 0 then (x0_above_j17 rc a2 a3 a4 (0 : Int32) q2) else (mm_ck (mm_inb a1 8) (x0_above_j17 rc a2 a3 a4 (q2.1 6 a1.toNatClampNeg) q2)))))
set_option maxRecDepth 20000 in
theorem x0_above_ok {L d : Nat} (rc : Nat → Int32 → Int32 → Int32 → Int32 → mm_Q → Option (Int32 × mm_Q)) (hc0 : ∀ (a1 : Int32) (a2 : Int32) (a3 : Int32) (q : mm_Q) (r : Int32) (q1 : mm_Q), rc 0 a1 a2 a3 0 q = some (r, q1) → mm_Runs (d + 2) 11 [.ref 49, .int a1, .int a2, .int a3] (mm_wq L q) (mm_cvi r) (mm_wq L q1)) (hc1 : ∀ (a1 : Int32) (a2 : Int32) (a3 : Int32) (a4 : Int32) (q : mm_Q) (r : Int32) (q1 : mm_Q), rc 1 a1 a2 a3 a4 q = some (r, q1) → mm_Runs (d + 2) 12 [.ref 49, .int a1, .int a2, .int a3, .int a4] (mm_wq L q) (mm_cvi r) (mm_wq L q1)) (hc2 : ∀ (a1 : Int32) (a2 : Int32) (a3 : Int32) (a4 : Int32) (q : mm_Q) (r : Int32) (q1 : mm_Q), rc 2 a1 a2 a3 a4 q = some (r, q1) → mm_Runs (d + 2) 13 [.ref 49, .int a1, .int a2, .int a3, .int a4] (mm_wq L q) (mm_cvi r) (mm_wq L q1)) (hc3 : ∀ (a1 : Int32) (a2 : Int32) (a3 : Int32) (q : mm_Q) (r : Int32) (q1 : mm_Q), rc 3 a1 a2 a3 0 q = some (r, q1) → mm_Runs (d + 2) 16 [.ref 49, .int a1, .int a2, .int a3] (mm_wq L q) (mm_cvi r) (mm_wq L q1)) (hc4 : ∀ (a1 : Int32) (a2 : Int32) (a3 : Int32) (q : mm_Q) (r : Int32) (q1 : mm_Q), rc 4 a1 a2 a3 0 q = some (r, q1) → mm_Runs (d + 2) 17 [.ref 49, .int a1, .int a2, .int a3] (mm_wq L q) (mm_cvi r) (mm_wq L q1)) {a1 : Int32} {a2 : Int32} {a3 : Int32} {a4 : Int32} {q : mm_Q} {r : Int32} {q1 : mm_Q} (h : x0_above rc a1 a2 a3 a4 q = some (r, q1)) : mm_Runs (d + 2 + 1) 12 [.ref 49, .int a1, .int a2, .int a3, .int a4] (mm_wq L q) (mm_cvi r) (mm_wq L q1) := by
  refine mm_runs_of (d := d + 2) (L := L) rfl (by decide +kernel) rfl rfl (?_ : mm_ok mm_cvi (mm_Runs (d + 2)) 0 false cX0_above (some .int) L 0 [some (.ref 49), some (.int a1), some (.int a2), some (.int a3), some (.int a4)] [] q (x0_above rc a1 a2 a3 a4 q)) h
  unfold x0_above
  refine mm_ok_bl (l := [(.aload 0, 1), (.iload 1, 1)]) (pc' := 2) (lo' := [some (.ref 49), some (.int a1), some (.int a2), some (.int a3), some (.int a4)]) (st' := [.int a1, .ref 49]) (q' := q) (P := (True) ∧ ((True) ∧ (True))) (by decide +kernel) rfl rfl (And.intro trivial (And.intro trivial trivial)) ?_
  refine mm_ok_call (cz := mm_cvi) (j := .invokestatic 17) (y := 1) (as := [.int a1]) (t := [.ref 49]) (by decide +kernel) rfl (fun _ _ h => mm_upd (k := 1) (by decide) (x0_isKind_ok h)) (fun r1 q2 => ?_)
  refine mm_ok_ifCond_eq (pt := 16) (d := 11) (by decide +kernel) (by decide) (fun k3 => ?_) (fun k3 => ?_)
  · refine mm_ok_bl (l := [(.iconst (0), 1)]) (pc' := 17) (lo' := [some (.ref 49), some (.int a1), some (.int a2), some (.int a3), some (.int a4)]) (st' := [.int (0 : Int32), .ref 49]) (q' := q2) (P := (True) ∧ (True)) (by decide +kernel) rfl rfl (And.intro trivial trivial) ?_
    exact mm_ok_sub (lo := [none, none, some (.int a2), some (.int a3), some (.int a4)]) (And.intro rfl (And.intro rfl (And.intro rfl trivial))) (x0_above_j17_ok rc hc0 hc1 hc2 hc3 hc4 a2 a3 a4 (0 : Int32) q2)
  · refine mm_ok_bl (l := [(.getstatic 6, 3), (.iload 1, 1)]) (pc' := 12) (lo' := [some (.ref 49), some (.int a1), some (.int a2), some (.int a3), some (.int a4)]) (st' := [.int a1, .ref 6, .ref 49]) (q' := q2) (P := (True) ∧ ((True) ∧ (True))) (by decide +kernel) rfl rfl (And.intro trivial (And.intro trivial trivial)) ?_
    refine mm_ok_ck (fun c4 => ?_)
    refine mm_ok_bl (l := [(.iaload, 1)]) (pc' := 13) (lo' := [some (.ref 49), some (.int a1), some (.int a2), some (.int a3), some (.int a4)]) (st' := [.int (q2.1 6 a1.toNatClampNeg), .ref 49]) (q' := q2) (P := (mm_ix a1 8) ∧ (True)) (by decide +kernel) rfl rfl (And.intro (mm_inb_ix c4) trivial) ?_
    refine mm_ok_goto (pt := 17) (d := 4) (by decide +kernel) (by decide) ?_
    exact mm_ok_sub (lo := [none, none, some (.int a2), some (.int a3), some (.int a4)]) (And.intro rfl (And.intro rfl (And.intro rfl trivial))) (x0_above_j17_ok rc hc0 hc1 hc2 hc3 hc4 a2 a3 a4 (q2.1 6 a1.toNatClampNeg) q2)
def x0_from_j31 (rc : Nat → Int32 → Int32 → Int32 → Int32 → mm_Q → Option (Int32 × mm_Q)) (a3 : Int32) (a4 : Int32) (a5 : Int32) (q : mm_Q) : Option (Int32 × mm_Q) := (mm_cl (rc 3 a5 a3 (a4 + (1 : Int32)) 0 q) (fun r10 q11 => (some (r10, q11))))
set_option maxRecDepth 20000 in
theorem x0_from_j31_ok {L : Nat} {d : Nat} (rc : Nat → Int32 → Int32 → Int32 → Int32 → mm_Q → Option (Int32 × mm_Q)) (hc0 : ∀ (a1 : Int32) (a2 : Int32) (a3 : Int32) (q : mm_Q) (r : Int32) (q1 : mm_Q), rc 0 a1 a2 a3 0 q = some (r, q1) → mm_Runs (d + 2) 11 [.ref 49, .int a1, .int a2, .int a3] (mm_wq L q) (mm_cvi r) (mm_wq L q1)) (hc1 : ∀ (a1 : Int32) (a2 : Int32) (a3 : Int32) (a4 : Int32) (q : mm_Q) (r : Int32) (q1 : mm_Q), rc 1 a1 a2 a3 a4 q = some (r, q1) → mm_Runs (d + 2) 12 [.ref 49, .int a1, .int a2, .int a3, .int a4] (mm_wq L q) (mm_cvi r) (mm_wq L q1)) (hc2 : ∀ (a1 : Int32) (a2 : Int32) (a3 : Int32) (a4 : Int32) (q : mm_Q) (r : Int32) (q1 : mm_Q), rc 2 a1 a2 a3 a4 q = some (r, q1) → mm_Runs (d + 2) 13 [.ref 49, .int a1, .int a2, .int a3, .int a4] (mm_wq L q) (mm_cvi r) (mm_wq L q1)) (hc3 : ∀ (a1 : Int32) (a2 : Int32) (a3 : Int32) (q : mm_Q) (r : Int32) (q1 : mm_Q), rc 3 a1 a2 a3 0 q = some (r, q1) → mm_Runs (d + 2) 16 [.ref 49, .int a1, .int a2, .int a3] (mm_wq L q) (mm_cvi r) (mm_wq L q1)) (hc4 : ∀ (a1 : Int32) (a2 : Int32) (a3 : Int32) (q : mm_Q) (r : Int32) (q1 : mm_Q), rc 4 a1 a2 a3 0 q = some (r, q1) → mm_Runs (d + 2) 17 [.ref 49, .int a1, .int a2, .int a3] (mm_wq L q) (mm_cvi r) (mm_wq L q1)) (a3 : Int32) (a4 : Int32) (a5 : Int32) (q : mm_Q) : mm_ok mm_cvi (mm_Runs (d + 2)) 0 false cX0_from (some .int) L 31 [some (.ref 49), none, none, some (.int a3), some (.int a4), some (.int a5)] [] q (x0_from_j31 rc a3 a4 a5 q) := by
  unfold x0_from_j31
  refine mm_ok_bl (l := [(.aload 0, 1), (.iload 5, 2), (.iload 3, 1), (.iload 4, 2), (.iconst (1), 1), (.iadd, 1)]) (pc' := 39) (lo' := [some (.ref 49), none, none, some (.int a3), some (.int a4), some (.int a5)]) (st' := [.int (a4 + (1 : Int32)), .int a3, .int a5, .ref 49]) (q' := q) (P := (True) ∧ ((True) ∧ ((True) ∧ ((True) ∧ ((True) ∧ ((True) ∧ (True))))))) (by decide +kernel) rfl rfl (And.intro trivial (And.intro trivial (And.intro trivial (And.intro trivial (And.intro trivial (And.intro trivial trivial)))))) ?_
  refine mm_ok_call (cz := mm_cvi) (j := .invokevirtual 259) (y := 16) (as := [.ref 49, .int a5, .int a3, .int (a4 + (1 : Int32))]) (t := []) (by decide +kernel) rfl (fun _ _ h => hc3 _ _ _ _ _ _ h) (fun r10 q11 => ?_)
  refine mm_ok_goto (pt := 56) (d := 14) (by decide +kernel) (by decide) ?_
  exact mm_ok_iret (by decide +kernel)
def x0_from (rc : Nat → Int32 → Int32 → Int32 → Int32 → mm_Q → Option (Int32 × mm_Q)) (a1 : Int32) (a2 : Int32) (a3 : Int32) (a4 : Int32) (q : mm_Q) : Option (Int32 × mm_Q) := (mm_cl (x0_bodyFrom a1 a2 q) (fun r1 q2 => (if a4 ≤ (40 : Int32) then (mm_cl (x0_begin r1 q2) (fun u4 q5 => (if a2 = 0 then (x0_from_j31 rc a3 a4 r1 q5) else (if a2 = (1 : Int32) then (x0_from_j31 rc a3 a4 r1 q5) else (mm_cl (rc 4 r1 a3 (a4 + (1 : Int32)) 0 q5) (fun r8 q9 => (some (r8, q9)))))))) else (some ((0 : Int32), q2)))))
set_option maxRecDepth 20000 in
theorem x0_from_ok {L d : Nat} (rc : Nat → Int32 → Int32 → Int32 → Int32 → mm_Q → Option (Int32 × mm_Q)) (hc0 : ∀ (a1 : Int32) (a2 : Int32) (a3 : Int32) (q : mm_Q) (r : Int32) (q1 : mm_Q), rc 0 a1 a2 a3 0 q = some (r, q1) → mm_Runs (d + 2) 11 [.ref 49, .int a1, .int a2, .int a3] (mm_wq L q) (mm_cvi r) (mm_wq L q1)) (hc1 : ∀ (a1 : Int32) (a2 : Int32) (a3 : Int32) (a4 : Int32) (q : mm_Q) (r : Int32) (q1 : mm_Q), rc 1 a1 a2 a3 a4 q = some (r, q1) → mm_Runs (d + 2) 12 [.ref 49, .int a1, .int a2, .int a3, .int a4] (mm_wq L q) (mm_cvi r) (mm_wq L q1)) (hc2 : ∀ (a1 : Int32) (a2 : Int32) (a3 : Int32) (a4 : Int32) (q : mm_Q) (r : Int32) (q1 : mm_Q), rc 2 a1 a2 a3 a4 q = some (r, q1) → mm_Runs (d + 2) 13 [.ref 49, .int a1, .int a2, .int a3, .int a4] (mm_wq L q) (mm_cvi r) (mm_wq L q1)) (hc3 : ∀ (a1 : Int32) (a2 : Int32) (a3 : Int32) (q : mm_Q) (r : Int32) (q1 : mm_Q), rc 3 a1 a2 a3 0 q = some (r, q1) → mm_Runs (d + 2) 16 [.ref 49, .int a1, .int a2, .int a3] (mm_wq L q) (mm_cvi r) (mm_wq L q1)) (hc4 : ∀ (a1 : Int32) (a2 : Int32) (a3 : Int32) (q : mm_Q) (r : Int32) (q1 : mm_Q), rc 4 a1 a2 a3 0 q = some (r, q1) → mm_Runs (d + 2) 17 [.ref 49, .int a1, .int a2, .int a3] (mm_wq L q) (mm_cvi r) (mm_wq L q1)) {a1 : Int32} {a2 : Int32} {a3 : Int32} {a4 : Int32} {q : mm_Q} {r : Int32} {q1 : mm_Q} (h : x0_from rc a1 a2 a3 a4 q = some (r, q1)) : mm_Runs (d + 2 + 1) 13 [.ref 49, .int a1, .int a2, .int a3, .int a4] (mm_wq L q) (mm_cvi r) (mm_wq L q1) := by
  refine mm_runs_of (d := d + 2) (L := L) rfl (by decide +kernel) rfl rfl (?_ : mm_ok mm_cvi (mm_Runs (d + 2)) 0 false cX0_from (some .int) L 0 [some (.ref 49), some (.int a1), some (.int a2), some (.int a3), some (.int a4), none] [] q (x0_from rc a1 a2 a3 a4 q)) h
  unfold x0_from
  refine mm_ok_bl (l := [(.iload 1, 1), (.iload 2, 1)]) (pc' := 2) (lo' := [some (.ref 49), some (.int a1), some (.int a2), some (.int a3), some (.int a4), none]) (st' := [.int a2, .int a1]) (q' := q) (P := (True) ∧ ((True) ∧ (True))) (by decide +kernel) rfl rfl (And.intro trivial (And.intro trivial trivial)) ?_
  refine mm_ok_call (cz := mm_cvi) (j := .invokestatic 226) (y := 14) (as := [.int a1, .int a2]) (t := []) (by decide +kernel) rfl (fun _ _ h => mm_upd (k := 2) (by decide) (x0_bodyFrom_ok h)) (fun r1 q2 => ?_)
  refine mm_ok_bl (l := [(.istore 5, 2), (.iload 4, 2), (.iconst (40), 2)]) (pc' := 11) (lo' := [some (.ref 49), some (.int a1), some (.int a2), some (.int a3), some (.int a4), some (.int r1)]) (st' := [.int (40 : Int32), .int a4]) (q' := q2) (P := (True) ∧ ((True) ∧ ((True) ∧ (True)))) (by decide +kernel) rfl rfl (And.intro trivial (And.intro trivial (And.intro trivial trivial))) ?_
  refine mm_ok_if_icmp_le (pt := 16) (d := 5) (by decide +kernel) (by decide) (fun k3 => ?_) (fun k3 => ?_)
  · refine mm_ok_bl (l := [(.aload 0, 1), (.iload 5, 2)]) (pc' := 19) (lo' := [some (.ref 49), some (.int a1), some (.int a2), some (.int a3), some (.int a4), some (.int r1)]) (st' := [.int r1, .ref 49]) (q' := q2) (P := (True) ∧ ((True) ∧ (True))) (by decide +kernel) rfl rfl (And.intro trivial (And.intro trivial trivial)) ?_
    refine mm_ok_call (cz := mm_cvu) (j := .invokevirtual 241) (y := 15) (as := [.ref 49, .int r1]) (t := []) (by decide +kernel) rfl (fun _ _ h => mm_upd (k := 1) (by decide) (x0_begin_ok h)) (fun u4 q5 => ?_)
    refine mm_ok_bl (l := [(.iload 2, 1)]) (pc' := 23) (lo' := [some (.ref 49), some (.int a1), some (.int a2), some (.int a3), some (.int a4), some (.int r1)]) (st' := [.int a2]) (q' := q5) (P := (True) ∧ (True)) (by decide +kernel) rfl rfl (And.intro trivial trivial) ?_
    refine mm_ok_ifCond_eq (pt := 31) (d := 8) (by decide +kernel) (by decide) (fun k6 => ?_) (fun k6 => ?_)
    · exact mm_ok_sub (lo := [some (.ref 49), none, none, some (.int a3), some (.int a4), some (.int r1)]) (And.intro rfl (And.intro rfl (And.intro rfl (And.intro rfl trivial)))) (x0_from_j31_ok rc hc0 hc1 hc2 hc3 hc4 a3 a4 r1 q5)
    · refine mm_ok_bl (l := [(.iload 2, 1), (.iconst (1), 1)]) (pc' := 28) (lo' := [some (.ref 49), some (.int a1), some (.int a2), some (.int a3), some (.int a4), some (.int r1)]) (st' := [.int (1 : Int32), .int a2]) (q' := q5) (P := (True) ∧ ((True) ∧ (True))) (by decide +kernel) rfl rfl (And.intro trivial (And.intro trivial trivial)) ?_
      refine mm_ok_if_icmp_ne (pt := 45) (d := 17) (by decide +kernel) (by decide) (fun k7 => ?_) (fun k7 => ?_)
      · exact mm_ok_sub (lo := [some (.ref 49), none, none, some (.int a3), some (.int a4), some (.int r1)]) (And.intro rfl (And.intro rfl (And.intro rfl (And.intro rfl trivial)))) (x0_from_j31_ok rc hc0 hc1 hc2 hc3 hc4 a3 a4 r1 q5)
      · refine mm_ok_bl (l := [(.aload 0, 1), (.iload 5, 2), (.iload 3, 1), (.iload 4, 2), (.iconst (1), 1), (.iadd, 1)]) (pc' := 53) (lo' := [some (.ref 49), some (.int a1), some (.int a2), some (.int a3), some (.int a4), some (.int r1)]) (st' := [.int (a4 + (1 : Int32)), .int a3, .int r1, .ref 49]) (q' := q5) (P := (True) ∧ ((True) ∧ ((True) ∧ ((True) ∧ ((True) ∧ ((True) ∧ (True))))))) (by decide +kernel) rfl rfl (And.intro trivial (And.intro trivial (And.intro trivial (And.intro trivial (And.intro trivial (And.intro trivial trivial)))))) ?_
        refine mm_ok_call (cz := mm_cvi) (j := .invokevirtual 275) (y := 17) (as := [.ref 49, .int r1, .int a3, .int (a4 + (1 : Int32))]) (t := []) (by decide +kernel) rfl (fun _ _ h => hc4 _ _ _ _ _ _ h) (fun r8 q9 => ?_)
        exact mm_ok_iret (by decide +kernel)
  · refine mm_ok_bl (l := [(.iconst (0), 1)]) (pc' := 15) (lo' := [some (.ref 49), some (.int a1), some (.int a2), some (.int a3), some (.int a4), some (.int r1)]) (st' := [.int (0 : Int32)]) (q' := q2) (P := (True) ∧ (True)) (by decide +kernel) rfl rfl (And.intro trivial trivial) ?_
    exact mm_ok_iret (by decide +kernel)
def x0_flying (rc : Nat → Int32 → Int32 → Int32 → Int32 → mm_Q → Option (Int32 × mm_Q)) (a1 : Int32) (a2 : Int32) (a3 : Int32) (q : mm_Q) : Option (Int32 × mm_Q) := (if a1 = (1 : Int32) then (some (a2 + (q.1 49 4), q)) else (if a1 = (10 : Int32) then (mm_cl (rc 0 (0 : Int32) a2 a3 0 q) (fun r3 q4 => (some (r3 * (2 : Int32), q4)))) else (if a1 = (20 : Int32) then (mm_cl (rc 1 (1 : Int32) (0 : Int32) a2 a3 q) (fun r6 q7 => (some (r6 + (3 : Int32), q7)))) else (if a1 = (30 : Int32) then (mm_cl (rc 1 (2 : Int32) (1 : Int32) a2 a3 q) (fun r9 q10 => (some (-r9, q10)))) else (if a1 = (41 : Int32) then (mm_cl (rc 1 (3 : Int32) (1 : Int32) (a2 + (1 : Int32)) a3 q) (fun r12 q13 => (some (r12, q13)))) else (if a1 = (70 : Int32) then (mm_cl (rc 1 (6 : Int32) (0 : Int32) a2 a3 q) (fun r15 q16 => (some (r15 * (2 : Int32), q16)))) else (if a1 = (80 : Int32) then (mm_cl (rc 1 (7 : Int32) (1 : Int32) a2 a3 q) (fun r18 q19 => (mm_cl (rc 0 (2 : Int32) (2 : Int32) a3 0 q19) (fun r20 q21 => (some (r18 + r20, q21)))))) else (some ((0 : Int32), q)))))))))
set_option maxRecDepth 20000 in
theorem x0_flying_ok {L d : Nat} (rc : Nat → Int32 → Int32 → Int32 → Int32 → mm_Q → Option (Int32 × mm_Q)) (hc0 : ∀ (a1 : Int32) (a2 : Int32) (a3 : Int32) (q : mm_Q) (r : Int32) (q1 : mm_Q), rc 0 a1 a2 a3 0 q = some (r, q1) → mm_Runs (d + 2) 11 [.ref 49, .int a1, .int a2, .int a3] (mm_wq L q) (mm_cvi r) (mm_wq L q1)) (hc1 : ∀ (a1 : Int32) (a2 : Int32) (a3 : Int32) (a4 : Int32) (q : mm_Q) (r : Int32) (q1 : mm_Q), rc 1 a1 a2 a3 a4 q = some (r, q1) → mm_Runs (d + 2) 12 [.ref 49, .int a1, .int a2, .int a3, .int a4] (mm_wq L q) (mm_cvi r) (mm_wq L q1)) (hc2 : ∀ (a1 : Int32) (a2 : Int32) (a3 : Int32) (a4 : Int32) (q : mm_Q) (r : Int32) (q1 : mm_Q), rc 2 a1 a2 a3 a4 q = some (r, q1) → mm_Runs (d + 2) 13 [.ref 49, .int a1, .int a2, .int a3, .int a4] (mm_wq L q) (mm_cvi r) (mm_wq L q1)) (hc3 : ∀ (a1 : Int32) (a2 : Int32) (a3 : Int32) (q : mm_Q) (r : Int32) (q1 : mm_Q), rc 3 a1 a2 a3 0 q = some (r, q1) → mm_Runs (d + 2) 16 [.ref 49, .int a1, .int a2, .int a3] (mm_wq L q) (mm_cvi r) (mm_wq L q1)) (hc4 : ∀ (a1 : Int32) (a2 : Int32) (a3 : Int32) (q : mm_Q) (r : Int32) (q1 : mm_Q), rc 4 a1 a2 a3 0 q = some (r, q1) → mm_Runs (d + 2) 17 [.ref 49, .int a1, .int a2, .int a3] (mm_wq L q) (mm_cvi r) (mm_wq L q1)) {a1 : Int32} {a2 : Int32} {a3 : Int32} {q : mm_Q} {r : Int32} {q1 : mm_Q} (h : x0_flying rc a1 a2 a3 q = some (r, q1)) : mm_Runs (d + 2 + 1) 16 [.ref 49, .int a1, .int a2, .int a3] (mm_wq L q) (mm_cvi r) (mm_wq L q1) := by
  refine mm_runs_of (d := d + 2) (L := L) rfl (by decide +kernel) rfl rfl (?_ : mm_ok mm_cvi (mm_Runs (d + 2)) 0 false cX0_flying (some .int) L 0 [some (.ref 49), some (.int a1), some (.int a2), some (.int a3)] [] q (x0_flying rc a1 a2 a3 q)) h
  unfold x0_flying
  refine mm_ok_bl (l := [(.iload 1, 1)]) (pc' := 1) (lo' := [some (.ref 49), some (.int a1), some (.int a2), some (.int a3)]) (st' := [.int a1]) (q' := q) (P := (True) ∧ (True)) (by decide +kernel) rfl rfl (And.intro trivial trivial) ?_
  refine mm_ok_if (fun k1 => ?_) (fun k1 => ?_)
  · refine mm_ok_lsw (pt := 68) (ps := [(1, 67), (10, 74), (20, 84), (30, 95), (41, 105), (70, 116), (80, 128)]) (d := 146) (len := 67) (by decide +kernel) (by decide) (by decide) (by rw [k1]; rfl) ?_
    refine mm_ok_bl (l := [(.iload 2, 1), (.aload 0, 1), (.getfield 4, 3), (.iadd, 1)]) (pc' := 74) (lo' := [some (.ref 49), some (.int a1), some (.int a2), some (.int a3)]) (st' := [.int (a2 + (q.1 49 4))]) (q' := q) (P := (True) ∧ ((True) ∧ ((True) ∧ ((True) ∧ (True))))) (by decide +kernel) rfl rfl (And.intro trivial (And.intro trivial (And.intro trivial (And.intro trivial trivial)))) ?_
    exact mm_ok_iret (by decide +kernel)
  · refine mm_ok_if (fun k2 => ?_) (fun k2 => ?_)
    · refine mm_ok_lsw (pt := 75) (ps := [(1, 67), (10, 74), (20, 84), (30, 95), (41, 105), (70, 116), (80, 128)]) (d := 146) (len := 67) (by decide +kernel) (by decide) (by decide) (by rw [k2]; rfl) ?_
      refine mm_ok_bl (l := [(.aload 0, 1), (.iconst (0), 1), (.iload 2, 1), (.iload 3, 1)]) (pc' := 79) (lo' := [some (.ref 49), some (.int a1), some (.int a2), some (.int a3)]) (st' := [.int a3, .int a2, .int (0 : Int32), .ref 49]) (q' := q) (P := (True) ∧ ((True) ∧ ((True) ∧ ((True) ∧ (True))))) (by decide +kernel) rfl rfl (And.intro trivial (And.intro trivial (And.intro trivial (And.intro trivial trivial)))) ?_
      refine mm_ok_call (cz := mm_cvi) (j := .invokevirtual 179) (y := 11) (as := [.ref 49, .int (0 : Int32), .int a2, .int a3]) (t := []) (by decide +kernel) rfl (fun _ _ h => hc0 _ _ _ _ _ _ h) (fun r3 q4 => ?_)
      refine mm_ok_bl (l := [(.iconst (2), 1), (.imul, 1)]) (pc' := 84) (lo' := [some (.ref 49), some (.int a1), some (.int a2), some (.int a3)]) (st' := [.int (r3 * (2 : Int32))]) (q' := q4) (P := (True) ∧ ((True) ∧ (True))) (by decide +kernel) rfl rfl (And.intro trivial (And.intro trivial trivial)) ?_
      exact mm_ok_iret (by decide +kernel)
    · refine mm_ok_if (fun k5 => ?_) (fun k5 => ?_)
      · refine mm_ok_lsw (pt := 85) (ps := [(1, 67), (10, 74), (20, 84), (30, 95), (41, 105), (70, 116), (80, 128)]) (d := 146) (len := 67) (by decide +kernel) (by decide) (by decide) (by rw [k5]; rfl) ?_
        refine mm_ok_bl (l := [(.aload 0, 1), (.iconst (1), 1), (.iconst (0), 1), (.iload 2, 1), (.iload 3, 1)]) (pc' := 90) (lo' := [some (.ref 49), some (.int a1), some (.int a2), some (.int a3)]) (st' := [.int a3, .int a2, .int (0 : Int32), .int (1 : Int32), .ref 49]) (q' := q) (P := (True) ∧ ((True) ∧ ((True) ∧ ((True) ∧ ((True) ∧ (True)))))) (by decide +kernel) rfl rfl (And.intro trivial (And.intro trivial (And.intro trivial (And.intro trivial (And.intro trivial trivial))))) ?_
        refine mm_ok_call (cz := mm_cvi) (j := .invokevirtual 196) (y := 12) (as := [.ref 49, .int (1 : Int32), .int (0 : Int32), .int a2, .int a3]) (t := []) (by decide +kernel) rfl (fun _ _ h => hc1 _ _ _ _ _ _ _ h) (fun r6 q7 => ?_)
        refine mm_ok_bl (l := [(.iconst (3), 1), (.iadd, 1)]) (pc' := 95) (lo' := [some (.ref 49), some (.int a1), some (.int a2), some (.int a3)]) (st' := [.int (r6 + (3 : Int32))]) (q' := q7) (P := (True) ∧ ((True) ∧ (True))) (by decide +kernel) rfl rfl (And.intro trivial (And.intro trivial trivial)) ?_
        exact mm_ok_iret (by decide +kernel)
      · refine mm_ok_if (fun k8 => ?_) (fun k8 => ?_)
        · refine mm_ok_lsw (pt := 96) (ps := [(1, 67), (10, 74), (20, 84), (30, 95), (41, 105), (70, 116), (80, 128)]) (d := 146) (len := 67) (by decide +kernel) (by decide) (by decide) (by rw [k8]; rfl) ?_
          refine mm_ok_bl (l := [(.aload 0, 1), (.iconst (2), 1), (.iconst (1), 1), (.iload 2, 1), (.iload 3, 1)]) (pc' := 101) (lo' := [some (.ref 49), some (.int a1), some (.int a2), some (.int a3)]) (st' := [.int a3, .int a2, .int (1 : Int32), .int (2 : Int32), .ref 49]) (q' := q) (P := (True) ∧ ((True) ∧ ((True) ∧ ((True) ∧ ((True) ∧ (True)))))) (by decide +kernel) rfl rfl (And.intro trivial (And.intro trivial (And.intro trivial (And.intro trivial (And.intro trivial trivial))))) ?_
          refine mm_ok_call (cz := mm_cvi) (j := .invokevirtual 196) (y := 12) (as := [.ref 49, .int (2 : Int32), .int (1 : Int32), .int a2, .int a3]) (t := []) (by decide +kernel) rfl (fun _ _ h => hc1 _ _ _ _ _ _ _ h) (fun r9 q10 => ?_)
          refine mm_ok_bl (l := [(.ineg, 1)]) (pc' := 105) (lo' := [some (.ref 49), some (.int a1), some (.int a2), some (.int a3)]) (st' := [.int (-r9)]) (q' := q10) (P := (True) ∧ (True)) (by decide +kernel) rfl rfl (And.intro trivial trivial) ?_
          exact mm_ok_iret (by decide +kernel)
        · refine mm_ok_if (fun k11 => ?_) (fun k11 => ?_)
          · refine mm_ok_lsw (pt := 106) (ps := [(1, 67), (10, 74), (20, 84), (30, 95), (41, 105), (70, 116), (80, 128)]) (d := 146) (len := 67) (by decide +kernel) (by decide) (by decide) (by rw [k11]; rfl) ?_
            refine mm_ok_bl (l := [(.aload 0, 1), (.iconst (3), 1), (.iconst (1), 1), (.iload 2, 1), (.iconst (1), 1), (.iadd, 1), (.iload 3, 1)]) (pc' := 113) (lo' := [some (.ref 49), some (.int a1), some (.int a2), some (.int a3)]) (st' := [.int a3, .int (a2 + (1 : Int32)), .int (1 : Int32), .int (3 : Int32), .ref 49]) (q' := q) (P := (True) ∧ ((True) ∧ ((True) ∧ ((True) ∧ ((True) ∧ ((True) ∧ ((True) ∧ (True)))))))) (by decide +kernel) rfl rfl (And.intro trivial (And.intro trivial (And.intro trivial (And.intro trivial (And.intro trivial (And.intro trivial (And.intro trivial trivial))))))) ?_
            refine mm_ok_call (cz := mm_cvi) (j := .invokevirtual 196) (y := 12) (as := [.ref 49, .int (3 : Int32), .int (1 : Int32), .int (a2 + (1 : Int32)), .int a3]) (t := []) (by decide +kernel) rfl (fun _ _ h => hc1 _ _ _ _ _ _ _ h) (fun r12 q13 => ?_)
            exact mm_ok_iret (by decide +kernel)
          · refine mm_ok_if (fun k14 => ?_) (fun k14 => ?_)
            · refine mm_ok_lsw (pt := 117) (ps := [(1, 67), (10, 74), (20, 84), (30, 95), (41, 105), (70, 116), (80, 128)]) (d := 146) (len := 67) (by decide +kernel) (by decide) (by decide) (by rw [k14]; rfl) ?_
              refine mm_ok_bl (l := [(.aload 0, 1), (.iconst (6), 2), (.iconst (0), 1), (.iload 2, 1), (.iload 3, 1)]) (pc' := 123) (lo' := [some (.ref 49), some (.int a1), some (.int a2), some (.int a3)]) (st' := [.int a3, .int a2, .int (0 : Int32), .int (6 : Int32), .ref 49]) (q' := q) (P := (True) ∧ ((True) ∧ ((True) ∧ ((True) ∧ ((True) ∧ (True)))))) (by decide +kernel) rfl rfl (And.intro trivial (And.intro trivial (And.intro trivial (And.intro trivial (And.intro trivial trivial))))) ?_
              refine mm_ok_call (cz := mm_cvi) (j := .invokevirtual 196) (y := 12) (as := [.ref 49, .int (6 : Int32), .int (0 : Int32), .int a2, .int a3]) (t := []) (by decide +kernel) rfl (fun _ _ h => hc1 _ _ _ _ _ _ _ h) (fun r15 q16 => ?_)
              refine mm_ok_bl (l := [(.iconst (2), 1), (.imul, 1)]) (pc' := 128) (lo' := [some (.ref 49), some (.int a1), some (.int a2), some (.int a3)]) (st' := [.int (r15 * (2 : Int32))]) (q' := q16) (P := (True) ∧ ((True) ∧ (True))) (by decide +kernel) rfl rfl (And.intro trivial (And.intro trivial trivial)) ?_
              exact mm_ok_iret (by decide +kernel)
            · refine mm_ok_if (fun k17 => ?_) (fun k17 => ?_)
              · refine mm_ok_lsw (pt := 129) (ps := [(1, 67), (10, 74), (20, 84), (30, 95), (41, 105), (70, 116), (80, 128)]) (d := 146) (len := 67) (by decide +kernel) (by decide) (by decide) (by rw [k17]; rfl) ?_
                refine mm_ok_bl (l := [(.aload 0, 1), (.iconst (7), 2), (.iconst (1), 1), (.iload 2, 1), (.iload 3, 1)]) (pc' := 135) (lo' := [some (.ref 49), some (.int a1), some (.int a2), some (.int a3)]) (st' := [.int a3, .int a2, .int (1 : Int32), .int (7 : Int32), .ref 49]) (q' := q) (P := (True) ∧ ((True) ∧ ((True) ∧ ((True) ∧ ((True) ∧ (True)))))) (by decide +kernel) rfl rfl (And.intro trivial (And.intro trivial (And.intro trivial (And.intro trivial (And.intro trivial trivial))))) ?_
                refine mm_ok_call (cz := mm_cvi) (j := .invokevirtual 196) (y := 12) (as := [.ref 49, .int (7 : Int32), .int (1 : Int32), .int a2, .int a3]) (t := []) (by decide +kernel) rfl (fun _ _ h => hc1 _ _ _ _ _ _ _ h) (fun r18 q19 => ?_)
                refine mm_ok_bl (l := [(.aload 0, 1), (.iconst (2), 1), (.iconst (2), 1), (.iload 3, 1)]) (pc' := 142) (lo' := [some (.ref 49), some (.int a1), some (.int a2), some (.int a3)]) (st' := [.int a3, .int (2 : Int32), .int (2 : Int32), .ref 49, .int r18]) (q' := q19) (P := (True) ∧ ((True) ∧ ((True) ∧ ((True) ∧ (True))))) (by decide +kernel) rfl rfl (And.intro trivial (And.intro trivial (And.intro trivial (And.intro trivial trivial)))) ?_
                refine mm_ok_call (cz := mm_cvi) (j := .invokevirtual 179) (y := 11) (as := [.ref 49, .int (2 : Int32), .int (2 : Int32), .int a3]) (t := [.int r18]) (by decide +kernel) rfl (fun _ _ h => hc0 _ _ _ _ _ _ h) (fun r20 q21 => ?_)
                refine mm_ok_bl (l := [(.iadd, 1)]) (pc' := 146) (lo' := [some (.ref 49), some (.int a1), some (.int a2), some (.int a3)]) (st' := [.int (r18 + r20)]) (q' := q21) (P := (True) ∧ (True)) (by decide +kernel) rfl rfl (And.intro trivial trivial) ?_
                exact mm_ok_iret (by decide +kernel)
              · refine mm_ok_lsw (pt := 147) (ps := [(1, 67), (10, 74), (20, 84), (30, 95), (41, 105), (70, 116), (80, 128)]) (d := 146) (len := 67) (by decide +kernel) (by decide) (by decide) (by rw [show mm_swl [(1, 67), (10, 74), (20, 84), (30, 95), (41, 105), (70, 116), (80, 128)] (146) a1 = 146 from ((if_neg k1).trans ((if_neg k2).trans ((if_neg k5).trans ((if_neg k8).trans ((if_neg k11).trans ((if_neg k14).trans ((if_neg k17).trans rfl)))))))]; rfl) ?_
                refine mm_ok_bl (l := [(.iconst (0), 1)]) (pc' := 148) (lo' := [some (.ref 49), some (.int a1), some (.int a2), some (.int a3)]) (st' := [.int (0 : Int32)]) (q' := q) (P := (True) ∧ (True)) (by decide +kernel) rfl rfl (And.intro trivial trivial) ?_
                exact mm_ok_iret (by decide +kernel)
def x0_ending (rc : Nat → Int32 → Int32 → Int32 → Int32 → mm_Q → Option (Int32 × mm_Q)) (a1 : Int32) (a2 : Int32) (a3 : Int32) (q : mm_Q) : Option (Int32 × mm_Q) := (if a1 = (2 : Int32) then (mm_cl (rc 0 (1 : Int32) a2 a3 0 q) (fun r2 q3 => (mm_cl (rc 0 (2 : Int32) (1 : Int32) a3 0 q3) (fun r4 q5 => (some (r2 - r4, q5)))))) else (if a1 = (11 : Int32) then (some (a2 ^^^ (q.1 49 4), q)) else (if a1 = (40 : Int32) then (mm_cl (rc 1 (3 : Int32) (2 : Int32) a2 a3 q) (fun r8 q9 => (some (r8 * (3 : Int32), q9)))) else (if a1 = (50 : Int32) then (mm_cl (rc 1 (4 : Int32) (2 : Int32) a2 a3 q) (fun r11 q12 => (mm_cl (rc 0 (0 : Int32) (2 : Int32) a3 0 q12) (fun r13 q14 => (some (r11 - r13, q14)))))) else (if a1 = (60 : Int32) then (mm_cl (rc 1 (5 : Int32) (3 : Int32) a2 a3 q) (fun r16 q17 => (some (r16 ^^^ (5 : Int32), q17)))) else (if a1 = (81 : Int32) then (mm_cl (rc 1 (7 : Int32) (3 : Int32) a2 a3 q) (fun r19 q20 => (some (r19 - (1 : Int32), q20)))) else (some ((0 : Int32), q))))))))
set_option maxRecDepth 20000 in
theorem x0_ending_ok {L d : Nat} (rc : Nat → Int32 → Int32 → Int32 → Int32 → mm_Q → Option (Int32 × mm_Q)) (hc0 : ∀ (a1 : Int32) (a2 : Int32) (a3 : Int32) (q : mm_Q) (r : Int32) (q1 : mm_Q), rc 0 a1 a2 a3 0 q = some (r, q1) → mm_Runs (d + 2) 11 [.ref 49, .int a1, .int a2, .int a3] (mm_wq L q) (mm_cvi r) (mm_wq L q1)) (hc1 : ∀ (a1 : Int32) (a2 : Int32) (a3 : Int32) (a4 : Int32) (q : mm_Q) (r : Int32) (q1 : mm_Q), rc 1 a1 a2 a3 a4 q = some (r, q1) → mm_Runs (d + 2) 12 [.ref 49, .int a1, .int a2, .int a3, .int a4] (mm_wq L q) (mm_cvi r) (mm_wq L q1)) (hc2 : ∀ (a1 : Int32) (a2 : Int32) (a3 : Int32) (a4 : Int32) (q : mm_Q) (r : Int32) (q1 : mm_Q), rc 2 a1 a2 a3 a4 q = some (r, q1) → mm_Runs (d + 2) 13 [.ref 49, .int a1, .int a2, .int a3, .int a4] (mm_wq L q) (mm_cvi r) (mm_wq L q1)) (hc3 : ∀ (a1 : Int32) (a2 : Int32) (a3 : Int32) (q : mm_Q) (r : Int32) (q1 : mm_Q), rc 3 a1 a2 a3 0 q = some (r, q1) → mm_Runs (d + 2) 16 [.ref 49, .int a1, .int a2, .int a3] (mm_wq L q) (mm_cvi r) (mm_wq L q1)) (hc4 : ∀ (a1 : Int32) (a2 : Int32) (a3 : Int32) (q : mm_Q) (r : Int32) (q1 : mm_Q), rc 4 a1 a2 a3 0 q = some (r, q1) → mm_Runs (d + 2) 17 [.ref 49, .int a1, .int a2, .int a3] (mm_wq L q) (mm_cvi r) (mm_wq L q1)) {a1 : Int32} {a2 : Int32} {a3 : Int32} {q : mm_Q} {r : Int32} {q1 : mm_Q} (h : x0_ending rc a1 a2 a3 q = some (r, q1)) : mm_Runs (d + 2 + 1) 17 [.ref 49, .int a1, .int a2, .int a3] (mm_wq L q) (mm_cvi r) (mm_wq L q1) := by
  refine mm_runs_of (d := d + 2) (L := L) rfl (by decide +kernel) rfl rfl (?_ : mm_ok mm_cvi (mm_Runs (d + 2)) 0 false cX0_ending (some .int) L 0 [some (.ref 49), some (.int a1), some (.int a2), some (.int a3)] [] q (x0_ending rc a1 a2 a3 q)) h
  unfold x0_ending
  refine mm_ok_bl (l := [(.iload 1, 1)]) (pc' := 1) (lo' := [some (.ref 49), some (.int a1), some (.int a2), some (.int a3)]) (st' := [.int a1]) (q' := q) (P := (True) ∧ (True)) (by decide +kernel) rfl rfl (And.intro trivial trivial) ?_
  refine mm_ok_if (fun k1 => ?_) (fun k1 => ?_)
  · refine mm_ok_lsw (pt := 60) (ps := [(2, 59), (11, 75), (40, 82), (50, 93), (60, 110), (81, 121)]) (d := 133) (len := 59) (by decide +kernel) (by decide) (by decide) (by rw [k1]; rfl) ?_
    refine mm_ok_bl (l := [(.aload 0, 1), (.iconst (1), 1), (.iload 2, 1), (.iload 3, 1)]) (pc' := 64) (lo' := [some (.ref 49), some (.int a1), some (.int a2), some (.int a3)]) (st' := [.int a3, .int a2, .int (1 : Int32), .ref 49]) (q' := q) (P := (True) ∧ ((True) ∧ ((True) ∧ ((True) ∧ (True))))) (by decide +kernel) rfl rfl (And.intro trivial (And.intro trivial (And.intro trivial (And.intro trivial trivial)))) ?_
    refine mm_ok_call (cz := mm_cvi) (j := .invokevirtual 179) (y := 11) (as := [.ref 49, .int (1 : Int32), .int a2, .int a3]) (t := []) (by decide +kernel) rfl (fun _ _ h => hc0 _ _ _ _ _ _ h) (fun r2 q3 => ?_)
    refine mm_ok_bl (l := [(.aload 0, 1), (.iconst (2), 1), (.iconst (1), 1), (.iload 3, 1)]) (pc' := 71) (lo' := [some (.ref 49), some (.int a1), some (.int a2), some (.int a3)]) (st' := [.int a3, .int (1 : Int32), .int (2 : Int32), .ref 49, .int r2]) (q' := q3) (P := (True) ∧ ((True) ∧ ((True) ∧ ((True) ∧ (True))))) (by decide +kernel) rfl rfl (And.intro trivial (And.intro trivial (And.intro trivial (And.intro trivial trivial)))) ?_
    refine mm_ok_call (cz := mm_cvi) (j := .invokevirtual 179) (y := 11) (as := [.ref 49, .int (2 : Int32), .int (1 : Int32), .int a3]) (t := [.int r2]) (by decide +kernel) rfl (fun _ _ h => hc0 _ _ _ _ _ _ h) (fun r4 q5 => ?_)
    refine mm_ok_bl (l := [(.isub, 1)]) (pc' := 75) (lo' := [some (.ref 49), some (.int a1), some (.int a2), some (.int a3)]) (st' := [.int (r2 - r4)]) (q' := q5) (P := (True) ∧ (True)) (by decide +kernel) rfl rfl (And.intro trivial trivial) ?_
    exact mm_ok_iret (by decide +kernel)
  · refine mm_ok_if (fun k6 => ?_) (fun k6 => ?_)
    · refine mm_ok_lsw (pt := 76) (ps := [(2, 59), (11, 75), (40, 82), (50, 93), (60, 110), (81, 121)]) (d := 133) (len := 59) (by decide +kernel) (by decide) (by decide) (by rw [k6]; rfl) ?_
      refine mm_ok_bl (l := [(.iload 2, 1), (.aload 0, 1), (.getfield 4, 3), (.ixor, 1)]) (pc' := 82) (lo' := [some (.ref 49), some (.int a1), some (.int a2), some (.int a3)]) (st' := [.int (a2 ^^^ (q.1 49 4))]) (q' := q) (P := (True) ∧ ((True) ∧ ((True) ∧ ((True) ∧ (True))))) (by decide +kernel) rfl rfl (And.intro trivial (And.intro trivial (And.intro trivial (And.intro trivial trivial)))) ?_
      exact mm_ok_iret (by decide +kernel)
    · refine mm_ok_if (fun k7 => ?_) (fun k7 => ?_)
      · refine mm_ok_lsw (pt := 83) (ps := [(2, 59), (11, 75), (40, 82), (50, 93), (60, 110), (81, 121)]) (d := 133) (len := 59) (by decide +kernel) (by decide) (by decide) (by rw [k7]; rfl) ?_
        refine mm_ok_bl (l := [(.aload 0, 1), (.iconst (3), 1), (.iconst (2), 1), (.iload 2, 1), (.iload 3, 1)]) (pc' := 88) (lo' := [some (.ref 49), some (.int a1), some (.int a2), some (.int a3)]) (st' := [.int a3, .int a2, .int (2 : Int32), .int (3 : Int32), .ref 49]) (q' := q) (P := (True) ∧ ((True) ∧ ((True) ∧ ((True) ∧ ((True) ∧ (True)))))) (by decide +kernel) rfl rfl (And.intro trivial (And.intro trivial (And.intro trivial (And.intro trivial (And.intro trivial trivial))))) ?_
        refine mm_ok_call (cz := mm_cvi) (j := .invokevirtual 196) (y := 12) (as := [.ref 49, .int (3 : Int32), .int (2 : Int32), .int a2, .int a3]) (t := []) (by decide +kernel) rfl (fun _ _ h => hc1 _ _ _ _ _ _ _ h) (fun r8 q9 => ?_)
        refine mm_ok_bl (l := [(.iconst (3), 1), (.imul, 1)]) (pc' := 93) (lo' := [some (.ref 49), some (.int a1), some (.int a2), some (.int a3)]) (st' := [.int (r8 * (3 : Int32))]) (q' := q9) (P := (True) ∧ ((True) ∧ (True))) (by decide +kernel) rfl rfl (And.intro trivial (And.intro trivial trivial)) ?_
        exact mm_ok_iret (by decide +kernel)
      · refine mm_ok_if (fun k10 => ?_) (fun k10 => ?_)
        · refine mm_ok_lsw (pt := 94) (ps := [(2, 59), (11, 75), (40, 82), (50, 93), (60, 110), (81, 121)]) (d := 133) (len := 59) (by decide +kernel) (by decide) (by decide) (by rw [k10]; rfl) ?_
          refine mm_ok_bl (l := [(.aload 0, 1), (.iconst (4), 1), (.iconst (2), 1), (.iload 2, 1), (.iload 3, 1)]) (pc' := 99) (lo' := [some (.ref 49), some (.int a1), some (.int a2), some (.int a3)]) (st' := [.int a3, .int a2, .int (2 : Int32), .int (4 : Int32), .ref 49]) (q' := q) (P := (True) ∧ ((True) ∧ ((True) ∧ ((True) ∧ ((True) ∧ (True)))))) (by decide +kernel) rfl rfl (And.intro trivial (And.intro trivial (And.intro trivial (And.intro trivial (And.intro trivial trivial))))) ?_
          refine mm_ok_call (cz := mm_cvi) (j := .invokevirtual 196) (y := 12) (as := [.ref 49, .int (4 : Int32), .int (2 : Int32), .int a2, .int a3]) (t := []) (by decide +kernel) rfl (fun _ _ h => hc1 _ _ _ _ _ _ _ h) (fun r11 q12 => ?_)
          refine mm_ok_bl (l := [(.aload 0, 1), (.iconst (0), 1), (.iconst (2), 1), (.iload 3, 1)]) (pc' := 106) (lo' := [some (.ref 49), some (.int a1), some (.int a2), some (.int a3)]) (st' := [.int a3, .int (2 : Int32), .int (0 : Int32), .ref 49, .int r11]) (q' := q12) (P := (True) ∧ ((True) ∧ ((True) ∧ ((True) ∧ (True))))) (by decide +kernel) rfl rfl (And.intro trivial (And.intro trivial (And.intro trivial (And.intro trivial trivial)))) ?_
          refine mm_ok_call (cz := mm_cvi) (j := .invokevirtual 179) (y := 11) (as := [.ref 49, .int (0 : Int32), .int (2 : Int32), .int a3]) (t := [.int r11]) (by decide +kernel) rfl (fun _ _ h => hc0 _ _ _ _ _ _ h) (fun r13 q14 => ?_)
          refine mm_ok_bl (l := [(.isub, 1)]) (pc' := 110) (lo' := [some (.ref 49), some (.int a1), some (.int a2), some (.int a3)]) (st' := [.int (r11 - r13)]) (q' := q14) (P := (True) ∧ (True)) (by decide +kernel) rfl rfl (And.intro trivial trivial) ?_
          exact mm_ok_iret (by decide +kernel)
        · refine mm_ok_if (fun k15 => ?_) (fun k15 => ?_)
          · refine mm_ok_lsw (pt := 111) (ps := [(2, 59), (11, 75), (40, 82), (50, 93), (60, 110), (81, 121)]) (d := 133) (len := 59) (by decide +kernel) (by decide) (by decide) (by rw [k15]; rfl) ?_
            refine mm_ok_bl (l := [(.aload 0, 1), (.iconst (5), 1), (.iconst (3), 1), (.iload 2, 1), (.iload 3, 1)]) (pc' := 116) (lo' := [some (.ref 49), some (.int a1), some (.int a2), some (.int a3)]) (st' := [.int a3, .int a2, .int (3 : Int32), .int (5 : Int32), .ref 49]) (q' := q) (P := (True) ∧ ((True) ∧ ((True) ∧ ((True) ∧ ((True) ∧ (True)))))) (by decide +kernel) rfl rfl (And.intro trivial (And.intro trivial (And.intro trivial (And.intro trivial (And.intro trivial trivial))))) ?_
            refine mm_ok_call (cz := mm_cvi) (j := .invokevirtual 196) (y := 12) (as := [.ref 49, .int (5 : Int32), .int (3 : Int32), .int a2, .int a3]) (t := []) (by decide +kernel) rfl (fun _ _ h => hc1 _ _ _ _ _ _ _ h) (fun r16 q17 => ?_)
            refine mm_ok_bl (l := [(.iconst (5), 1), (.ixor, 1)]) (pc' := 121) (lo' := [some (.ref 49), some (.int a1), some (.int a2), some (.int a3)]) (st' := [.int (r16 ^^^ (5 : Int32))]) (q' := q17) (P := (True) ∧ ((True) ∧ (True))) (by decide +kernel) rfl rfl (And.intro trivial (And.intro trivial trivial)) ?_
            exact mm_ok_iret (by decide +kernel)
          · refine mm_ok_if (fun k18 => ?_) (fun k18 => ?_)
            · refine mm_ok_lsw (pt := 122) (ps := [(2, 59), (11, 75), (40, 82), (50, 93), (60, 110), (81, 121)]) (d := 133) (len := 59) (by decide +kernel) (by decide) (by decide) (by rw [k18]; rfl) ?_
              refine mm_ok_bl (l := [(.aload 0, 1), (.iconst (7), 2), (.iconst (3), 1), (.iload 2, 1), (.iload 3, 1)]) (pc' := 128) (lo' := [some (.ref 49), some (.int a1), some (.int a2), some (.int a3)]) (st' := [.int a3, .int a2, .int (3 : Int32), .int (7 : Int32), .ref 49]) (q' := q) (P := (True) ∧ ((True) ∧ ((True) ∧ ((True) ∧ ((True) ∧ (True)))))) (by decide +kernel) rfl rfl (And.intro trivial (And.intro trivial (And.intro trivial (And.intro trivial (And.intro trivial trivial))))) ?_
              refine mm_ok_call (cz := mm_cvi) (j := .invokevirtual 196) (y := 12) (as := [.ref 49, .int (7 : Int32), .int (3 : Int32), .int a2, .int a3]) (t := []) (by decide +kernel) rfl (fun _ _ h => hc1 _ _ _ _ _ _ _ h) (fun r19 q20 => ?_)
              refine mm_ok_bl (l := [(.iconst (1), 1), (.isub, 1)]) (pc' := 133) (lo' := [some (.ref 49), some (.int a1), some (.int a2), some (.int a3)]) (st' := [.int (r19 - (1 : Int32))]) (q' := q20) (P := (True) ∧ ((True) ∧ (True))) (by decide +kernel) rfl rfl (And.intro trivial (And.intro trivial trivial)) ?_
              exact mm_ok_iret (by decide +kernel)
            · refine mm_ok_lsw (pt := 134) (ps := [(2, 59), (11, 75), (40, 82), (50, 93), (60, 110), (81, 121)]) (d := 133) (len := 59) (by decide +kernel) (by decide) (by decide) (by rw [show mm_swl [(2, 59), (11, 75), (40, 82), (50, 93), (60, 110), (81, 121)] (133) a1 = 133 from ((if_neg k1).trans ((if_neg k6).trans ((if_neg k7).trans ((if_neg k10).trans ((if_neg k15).trans ((if_neg k18).trans rfl))))))]; rfl) ?_
              refine mm_ok_bl (l := [(.iconst (0), 1)]) (pc' := 135) (lo' := [some (.ref 49), some (.int a1), some (.int a2), some (.int a3)]) (st' := [.int (0 : Int32)]) (q' := q) (P := (True) ∧ (True)) (by decide +kernel) rfl rfl (And.intro trivial trivial) ?_
              exact mm_ok_iret (by decide +kernel)
def g_x0_own : Nat → Nat → Int32 → Int32 → Int32 → Int32 → mm_Q → Option (Int32 × mm_Q)
  | 0, _, _, _, _, _, _ => none
  | d + 1, t, a1, a2, a3, a4, q => match t with
    | 0 => x0_own (g_x0_own d) a1 a2 a3 q
    | 1 => x0_above (g_x0_own d) a1 a2 a3 a4 q
    | 2 => x0_from (g_x0_own d) a1 a2 a3 a4 q
    | 3 => x0_flying (g_x0_own d) a1 a2 a3 q
    | _ => x0_ending (g_x0_own d) a1 a2 a3 q
set_option maxRecDepth 20000 in
theorem g_x0_own_ok {L : Nat} : ∀ d : Nat, (∀ (a1 : Int32) (a2 : Int32) (a3 : Int32) (q : mm_Q) (r : Int32) (q1 : mm_Q), g_x0_own d 0 a1 a2 a3 0 q = some (r, q1) → mm_Runs (d + 2) 11 [.ref 49, .int a1, .int a2, .int a3] (mm_wq L q) (mm_cvi r) (mm_wq L q1)) ∧ (∀ (a1 : Int32) (a2 : Int32) (a3 : Int32) (a4 : Int32) (q : mm_Q) (r : Int32) (q1 : mm_Q), g_x0_own d 1 a1 a2 a3 a4 q = some (r, q1) → mm_Runs (d + 2) 12 [.ref 49, .int a1, .int a2, .int a3, .int a4] (mm_wq L q) (mm_cvi r) (mm_wq L q1)) ∧ (∀ (a1 : Int32) (a2 : Int32) (a3 : Int32) (a4 : Int32) (q : mm_Q) (r : Int32) (q1 : mm_Q), g_x0_own d 2 a1 a2 a3 a4 q = some (r, q1) → mm_Runs (d + 2) 13 [.ref 49, .int a1, .int a2, .int a3, .int a4] (mm_wq L q) (mm_cvi r) (mm_wq L q1)) ∧ (∀ (a1 : Int32) (a2 : Int32) (a3 : Int32) (q : mm_Q) (r : Int32) (q1 : mm_Q), g_x0_own d 3 a1 a2 a3 0 q = some (r, q1) → mm_Runs (d + 2) 16 [.ref 49, .int a1, .int a2, .int a3] (mm_wq L q) (mm_cvi r) (mm_wq L q1)) ∧ (∀ (a1 : Int32) (a2 : Int32) (a3 : Int32) (q : mm_Q) (r : Int32) (q1 : mm_Q), g_x0_own d 4 a1 a2 a3 0 q = some (r, q1) → mm_Runs (d + 2) 17 [.ref 49, .int a1, .int a2, .int a3] (mm_wq L q) (mm_cvi r) (mm_wq L q1))
  | 0 => ⟨(fun _ _ _ _ _ _ h => by cases h), (fun _ _ _ _ _ _ _ h => by cases h), (fun _ _ _ _ _ _ _ h => by cases h), (fun _ _ _ _ _ _ h => by cases h), (fun _ _ _ _ _ _ h => by cases h)⟩
  | d + 1 => ⟨(fun _ _ _ _ _ _ h => x0_own_ok (d := d) (g_x0_own d) ((g_x0_own_ok d).1) ((g_x0_own_ok d).2.1) ((g_x0_own_ok d).2.2.1) ((g_x0_own_ok d).2.2.2.1) ((g_x0_own_ok d).2.2.2.2) h), (fun _ _ _ _ _ _ _ h => x0_above_ok (d := d) (g_x0_own d) ((g_x0_own_ok d).1) ((g_x0_own_ok d).2.1) ((g_x0_own_ok d).2.2.1) ((g_x0_own_ok d).2.2.2.1) ((g_x0_own_ok d).2.2.2.2) h), (fun _ _ _ _ _ _ _ h => x0_from_ok (d := d) (g_x0_own d) ((g_x0_own_ok d).1) ((g_x0_own_ok d).2.1) ((g_x0_own_ok d).2.2.1) ((g_x0_own_ok d).2.2.2.1) ((g_x0_own_ok d).2.2.2.2) h), (fun _ _ _ _ _ _ h => x0_flying_ok (d := d) (g_x0_own d) ((g_x0_own_ok d).1) ((g_x0_own_ok d).2.1) ((g_x0_own_ok d).2.2.1) ((g_x0_own_ok d).2.2.2.1) ((g_x0_own_ok d).2.2.2.2) h), (fun _ _ _ _ _ _ h => x0_ending_ok (d := d) (g_x0_own d) ((g_x0_own_ok d).1) ((g_x0_own_ok d).2.1) ((g_x0_own_ok d).2.2.1) ((g_x0_own_ok d).2.2.2.1) ((g_x0_own_ok d).2.2.2.2) h)⟩
def x0_perform (a1 : Int32) (a2 : Int32) (a3 : Int32) (q : mm_Q) : Option (Int32 × mm_Q) := (mm_lt (mm_si q 49 3 (0 : Int32)) (fun q1 => (mm_cl (x0_isBody a1 q1) (fun r2 q3 => (if r2 = 0 then (some ((0 : Int32), q3)) else (if a2 < 0 then (some ((0 : Int32), q3)) else (if a2 < (4 : Int32) then (mm_lt (mm_si q3 49 4 a1) (fun q7 => (mm_cl (g_x0_own 100 0 a2 a3 (0 : Int32) 0 q7) (fun r8 q9 => (some (r8, q9)))))) else (some ((0 : Int32), q3)))))))))
set_option maxRecDepth 20000 in
theorem x0_perform_ok {L : Nat} {a1 : Int32} {a2 : Int32} {a3 : Int32} {q : mm_Q} {r : Int32} {q1 : mm_Q} (h : x0_perform a1 a2 a3 q = some (r, q1)) : mm_Runs 103 8 [.ref 49, .int a1, .int a2, .int a3] (mm_wq L q) (mm_cvi r) (mm_wq L q1) := by
  refine mm_runs_of (d := 102) (L := L) rfl (by decide +kernel) rfl rfl (?_ : mm_ok mm_cvi (mm_Runs 102) 0 false cX0_perform (some .int) L 0 [some (.ref 49), some (.int a1), some (.int a2), some (.int a3)] [] q (x0_perform a1 a2 a3 q)) h
  unfold x0_perform
  refine mm_ok_bl (l := [(.aload 0, 1), (.iconst (0), 1), (.putfield 3, 3)]) (pc' := 5) (lo' := [some (.ref 49), some (.int a1), some (.int a2), some (.int a3)]) (st' := []) (q' := (mm_si q 49 3 (0 : Int32))) (P := (True) ∧ ((True) ∧ ((True) ∧ (True)))) (by decide +kernel) rfl rfl (And.intro trivial (And.intro trivial (And.intro trivial trivial))) ?_
  refine mm_ok_lt (fun q1 => ?_)
  refine mm_ok_bl (l := [(.aload 0, 1), (.iload 1, 1)]) (pc' := 7) (lo' := [some (.ref 49), some (.int a1), some (.int a2), some (.int a3)]) (st' := [.int a1, .ref 49]) (q' := q1) (P := (True) ∧ ((True) ∧ (True))) (by decide +kernel) rfl rfl (And.intro trivial (And.intro trivial trivial)) ?_
  refine mm_ok_call (cz := mm_cvi) (j := .invokevirtual 49) (y := 3) (as := [.ref 49, .int a1]) (t := []) (by decide +kernel) rfl (fun _ _ h => mm_up (k := 1) (by decide) (x0_isBody_ok h)) (fun r2 q3 => ?_)
  refine mm_ok_ifCond_eq (pt := 22) (d := 12) (by decide +kernel) (by decide) (fun k4 => ?_) (fun k4 => ?_)
  · refine mm_ok_bl (l := [(.iconst (0), 1)]) (pc' := 23) (lo' := [some (.ref 49), some (.int a1), some (.int a2), some (.int a3)]) (st' := [.int (0 : Int32)]) (q' := q3) (P := (True) ∧ (True)) (by decide +kernel) rfl rfl (And.intro trivial trivial) ?_
    exact mm_ok_iret (by decide +kernel)
  · refine mm_ok_bl (l := [(.iload 2, 1)]) (pc' := 14) (lo' := [some (.ref 49), some (.int a1), some (.int a2), some (.int a3)]) (st' := [.int a2]) (q' := q3) (P := (True) ∧ (True)) (by decide +kernel) rfl rfl (And.intro trivial trivial) ?_
    refine mm_ok_ifCond_lt (pt := 22) (d := 8) (by decide +kernel) (by decide) (fun k5 => ?_) (fun k5 => ?_)
    · refine mm_ok_bl (l := [(.iconst (0), 1)]) (pc' := 23) (lo' := [some (.ref 49), some (.int a1), some (.int a2), some (.int a3)]) (st' := [.int (0 : Int32)]) (q' := q3) (P := (True) ∧ (True)) (by decide +kernel) rfl rfl (And.intro trivial trivial) ?_
      exact mm_ok_iret (by decide +kernel)
    · refine mm_ok_bl (l := [(.iload 2, 1), (.iconst (4), 1)]) (pc' := 19) (lo' := [some (.ref 49), some (.int a1), some (.int a2), some (.int a3)]) (st' := [.int (4 : Int32), .int a2]) (q' := q3) (P := (True) ∧ ((True) ∧ (True))) (by decide +kernel) rfl rfl (And.intro trivial (And.intro trivial trivial)) ?_
      refine mm_ok_if_icmp_lt (pt := 24) (d := 5) (by decide +kernel) (by decide) (fun k6 => ?_) (fun k6 => ?_)
      · refine mm_ok_bl (l := [(.aload 0, 1), (.iload 1, 1), (.putfield 4, 3)]) (pc' := 29) (lo' := [some (.ref 49), some (.int a1), some (.int a2), some (.int a3)]) (st' := []) (q' := (mm_si q3 49 4 a1)) (P := (True) ∧ ((True) ∧ ((True) ∧ (True)))) (by decide +kernel) rfl rfl (And.intro trivial (And.intro trivial (And.intro trivial trivial))) ?_
        refine mm_ok_lt (fun q7 => ?_)
        refine mm_ok_bl (l := [(.aload 0, 1), (.iload 2, 1), (.iload 3, 1), (.iconst (0), 1)]) (pc' := 33) (lo' := [some (.ref 49), some (.int a1), some (.int a2), some (.int a3)]) (st' := [.int (0 : Int32), .int a3, .int a2, .ref 49]) (q' := q7) (P := (True) ∧ ((True) ∧ ((True) ∧ ((True) ∧ (True))))) (by decide +kernel) rfl rfl (And.intro trivial (And.intro trivial (And.intro trivial (And.intro trivial trivial)))) ?_
        refine mm_ok_call (cz := mm_cvi) (j := .invokevirtual 179) (y := 11) (as := [.ref 49, .int a2, .int a3, .int (0 : Int32)]) (t := []) (by decide +kernel) rfl (fun _ _ h => mm_up (k := 102) (by decide) ((g_x0_own_ok 100).1 _ _ _ _ _ _ h)) (fun r8 q9 => ?_)
        exact mm_ok_iret (by decide +kernel)
      · refine mm_ok_bl (l := [(.iconst (0), 1)]) (pc' := 23) (lo' := [some (.ref 49), some (.int a1), some (.int a2), some (.int a3)]) (st' := [.int (0 : Int32)]) (q' := q3) (P := (True) ∧ (True)) (by decide +kernel) rfl rfl (And.intro trivial trivial) ?_
        exact mm_ok_iret (by decide +kernel)
def x0_tracedAt (a1 : Int32) (q : mm_Q) : Option (Int32 × mm_Q) := (if a1 < 0 then (some ((-1 : Int32), q)) else (if (q.1 49 3) ≤ a1 then (some ((-1 : Int32), q)) else (if (24 : Int32) ≤ a1 then (some ((-1 : Int32), q)) else (mm_ck (mm_inb a1 24) (some (q.1 51 a1.toNatClampNeg, q))))))
set_option maxRecDepth 20000 in
theorem x0_tracedAt_ok {L : Nat} {a1 : Int32} {q : mm_Q} {r : Int32} {q1 : mm_Q} (h : x0_tracedAt a1 q = some (r, q1)) : mm_Runs 1 9 [.ref 49, .int a1] (mm_wq L q) (mm_cvi r) (mm_wq L q1) := by
  refine mm_runs_of (d := 0) (L := L) rfl (by decide +kernel) rfl rfl (?_ : mm_ok mm_cvi (mm_Runs 0) 0 false cX0_tracedAt (some .int) L 0 [some (.ref 49), some (.int a1)] [] q (x0_tracedAt a1 q)) h
  unfold x0_tracedAt
  refine mm_ok_bl (l := [(.iload 1, 1)]) (pc' := 1) (lo' := [some (.ref 49), some (.int a1)]) (st' := [.int a1]) (q' := q) (P := (True) ∧ (True)) (by decide +kernel) rfl rfl (And.intro trivial trivial) ?_
  refine mm_ok_ifCond_lt (pt := 27) (d := 26) (by decide +kernel) (by decide) (fun k1 => ?_) (fun k1 => ?_)
  · refine mm_ok_bl (l := [(.iconst (-1), 1)]) (pc' := 28) (lo' := [some (.ref 49), some (.int a1)]) (st' := [.int (-1 : Int32)]) (q' := q) (P := (True) ∧ (True)) (by decide +kernel) rfl rfl (And.intro trivial trivial) ?_
    exact mm_ok_iret (by decide +kernel)
  · refine mm_ok_bl (l := [(.iload 1, 1), (.aload 0, 1), (.getfield 3, 3)]) (pc' := 9) (lo' := [some (.ref 49), some (.int a1)]) (st' := [.int (q.1 49 3), .int a1]) (q' := q) (P := (True) ∧ ((True) ∧ ((True) ∧ (True)))) (by decide +kernel) rfl rfl (And.intro trivial (And.intro trivial (And.intro trivial trivial))) ?_
    refine mm_ok_if_icmp_ge (pt := 27) (d := 18) (by decide +kernel) (by decide) (fun k2 => ?_) (fun k2 => ?_)
    · refine mm_ok_bl (l := [(.iconst (-1), 1)]) (pc' := 28) (lo' := [some (.ref 49), some (.int a1)]) (st' := [.int (-1 : Int32)]) (q' := q) (P := (True) ∧ (True)) (by decide +kernel) rfl rfl (And.intro trivial trivial) ?_
      exact mm_ok_iret (by decide +kernel)
    · refine mm_ok_bl (l := [(.iload 1, 1), (.iconst (24), 2)]) (pc' := 15) (lo' := [some (.ref 49), some (.int a1)]) (st' := [.int (24 : Int32), .int a1]) (q' := q) (P := (True) ∧ ((True) ∧ (True))) (by decide +kernel) rfl rfl (And.intro trivial (And.intro trivial trivial)) ?_
      refine mm_ok_if_icmp_ge (pt := 27) (d := 12) (by decide +kernel) (by decide) (fun k3 => ?_) (fun k3 => ?_)
      · refine mm_ok_bl (l := [(.iconst (-1), 1)]) (pc' := 28) (lo' := [some (.ref 49), some (.int a1)]) (st' := [.int (-1 : Int32)]) (q' := q) (P := (True) ∧ (True)) (by decide +kernel) rfl rfl (And.intro trivial trivial) ?_
        exact mm_ok_iret (by decide +kernel)
      · refine mm_ok_bl (l := [(.aload 0, 1), (.getfield 1, 3), (.iload 1, 1)]) (pc' := 23) (lo' := [some (.ref 49), some (.int a1)]) (st' := [.int a1, .ref 51]) (q' := q) (P := (True) ∧ ((True) ∧ ((True) ∧ (True)))) (by decide +kernel) rfl rfl (And.intro trivial (And.intro trivial (And.intro trivial trivial))) ?_
        refine mm_ok_ck (fun c4 => ?_)
        refine mm_ok_bl (l := [(.iaload, 1)]) (pc' := 24) (lo' := [some (.ref 49), some (.int a1)]) (st' := [.int (q.1 51 a1.toNatClampNeg)]) (q' := q) (P := (mm_ix a1 24) ∧ (True)) (by decide +kernel) rfl rfl (And.intro (mm_inb_ix c4) trivial) ?_
        refine mm_ok_goto (pt := 28) (d := 4) (by decide +kernel) (by decide) ?_
        exact mm_ok_iret (by decide +kernel)
def x0_howManyRan  (q : mm_Q) : Option (Int32 × mm_Q) := (some (q.1 49 3, q))
set_option maxRecDepth 20000 in
theorem x0_howManyRan_ok {L : Nat} {q : mm_Q} {r : Int32} {q1 : mm_Q} (h : x0_howManyRan  q = some (r, q1)) : mm_Runs 1 10 [.ref 49] (mm_wq L q) (mm_cvi r) (mm_wq L q1) := by
  refine mm_runs_of (d := 0) (L := L) rfl (by decide +kernel) rfl rfl (?_ : mm_ok mm_cvi (mm_Runs 0) 0 false cX0_howManyRan (some .int) L 0 [some (.ref 49)] [] q (x0_howManyRan  q)) h
  unfold x0_howManyRan
  refine mm_ok_bl (l := [(.aload 0, 1), (.getfield 3, 3)]) (pc' := 4) (lo' := [some (.ref 49)]) (st' := [.int (q.1 49 3)]) (q' := q) (P := (True) ∧ ((True) ∧ (True))) (by decide +kernel) rfl rfl (And.intro trivial (And.intro trivial trivial)) ?_
  exact mm_ok_iret (by decide +kernel)
def x1_forgetOldest  (q : mm_Q) : Option (Unit × mm_Q) := (mm_ck (mm_cp (1 : Int32) (0 : Int32) (39 : Int32) 40 40) (mm_lt (mm_ci q 32 32 1 0 39) (fun q2 => (mm_ck (mm_cp (1 : Int32) (0 : Int32) (39 : Int32) 40 40) (mm_lt (mm_ci q2 33 33 1 0 39) (fun q4 => (mm_ck (mm_cp (1 : Int32) (0 : Int32) (39 : Int32) 40 40) (mm_lt (mm_ci q4 34 34 1 0 39) (fun q6 => (mm_lt (mm_si q6 31 3 (39 : Int32)) (fun q7 => (some ((), q7)))))))))))))
set_option maxRecDepth 20000 in
theorem x1_forgetOldest_ok {L : Nat} {q : mm_Q} {r : Unit} {q1 : mm_Q} (h : x1_forgetOldest  q = some (r, q1)) : mm_Runs 1 23 [.ref 31] (mm_wq L q) (mm_cvu r) (mm_wq L q1) := by
  refine mm_runs_of (d := 0) (L := L) rfl (by decide +kernel) rfl rfl (?_ : mm_ok mm_cvu (mm_Runs 0) 1 false cX1_forgetOldest none L 0 [some (.ref 31)] [] q (x1_forgetOldest  q)) h
  unfold x1_forgetOldest
  refine mm_ok_bl (l := [(.aload 0, 1), (.getfield 64, 3), (.iconst (1), 1), (.aload 0, 1), (.getfield 64, 3), (.iconst (0), 1), (.iconst (39), 2)]) (pc' := 12) (lo' := [some (.ref 31)]) (st' := [.int (39 : Int32), .int (0 : Int32), .ref 32, .int (1 : Int32), .ref 32]) (q' := q) (P := (True) ∧ ((True) ∧ ((True) ∧ ((True) ∧ ((True) ∧ ((True) ∧ ((True) ∧ (True)))))))) (by decide +kernel) rfl rfl (And.intro trivial (And.intro trivial (And.intro trivial (And.intro trivial (And.intro trivial (And.intro trivial (And.intro trivial trivial))))))) ?_
  refine mm_ok_ck (fun c1 => ?_)
  refine mm_ok_bl (l := [(.monitorexit, 3)]) (pc' := 15) (lo' := [some (.ref 31)]) (st' := []) (q' := (mm_ci q 32 32 1 0 39)) (P := ((¬ (1 : Int32) < 0 ∧ ¬ (0 : Int32) < 0 ∧ ¬ (39 : Int32) < 0) ∧ (1 : Int32).toNatClampNeg + (39 : Int32).toNatClampNeg ≤ 40 ∧ (0 : Int32).toNatClampNeg + (39 : Int32).toNatClampNeg ≤ 40) ∧ (True)) (by decide +kernel) rfl rfl (And.intro (mm_cp_ok c1) trivial) ?_
  refine mm_ok_lt (fun q2 => ?_)
  refine mm_ok_bl (l := [(.aload 0, 1), (.getfield 65, 3), (.iconst (1), 1), (.aload 0, 1), (.getfield 65, 3), (.iconst (0), 1), (.iconst (39), 2)]) (pc' := 27) (lo' := [some (.ref 31)]) (st' := [.int (39 : Int32), .int (0 : Int32), .ref 33, .int (1 : Int32), .ref 33]) (q' := q2) (P := (True) ∧ ((True) ∧ ((True) ∧ ((True) ∧ ((True) ∧ ((True) ∧ ((True) ∧ (True)))))))) (by decide +kernel) rfl rfl (And.intro trivial (And.intro trivial (And.intro trivial (And.intro trivial (And.intro trivial (And.intro trivial (And.intro trivial trivial))))))) ?_
  refine mm_ok_ck (fun c3 => ?_)
  refine mm_ok_bl (l := [(.monitorexit, 3)]) (pc' := 30) (lo' := [some (.ref 31)]) (st' := []) (q' := (mm_ci q2 33 33 1 0 39)) (P := ((¬ (1 : Int32) < 0 ∧ ¬ (0 : Int32) < 0 ∧ ¬ (39 : Int32) < 0) ∧ (1 : Int32).toNatClampNeg + (39 : Int32).toNatClampNeg ≤ 40 ∧ (0 : Int32).toNatClampNeg + (39 : Int32).toNatClampNeg ≤ 40) ∧ (True)) (by decide +kernel) rfl rfl (And.intro (mm_cp_ok c3) trivial) ?_
  refine mm_ok_lt (fun q4 => ?_)
  refine mm_ok_bl (l := [(.aload 0, 1), (.getfield 66, 3), (.iconst (1), 1), (.aload 0, 1), (.getfield 66, 3), (.iconst (0), 1), (.iconst (39), 2)]) (pc' := 42) (lo' := [some (.ref 31)]) (st' := [.int (39 : Int32), .int (0 : Int32), .ref 34, .int (1 : Int32), .ref 34]) (q' := q4) (P := (True) ∧ ((True) ∧ ((True) ∧ ((True) ∧ ((True) ∧ ((True) ∧ ((True) ∧ (True)))))))) (by decide +kernel) rfl rfl (And.intro trivial (And.intro trivial (And.intro trivial (And.intro trivial (And.intro trivial (And.intro trivial (And.intro trivial trivial))))))) ?_
  refine mm_ok_ck (fun c5 => ?_)
  refine mm_ok_bl (l := [(.monitorexit, 3)]) (pc' := 45) (lo' := [some (.ref 31)]) (st' := []) (q' := (mm_ci q4 34 34 1 0 39)) (P := ((¬ (1 : Int32) < 0 ∧ ¬ (0 : Int32) < 0 ∧ ¬ (39 : Int32) < 0) ∧ (1 : Int32).toNatClampNeg + (39 : Int32).toNatClampNeg ≤ 40 ∧ (0 : Int32).toNatClampNeg + (39 : Int32).toNatClampNeg ≤ 40) ∧ (True)) (by decide +kernel) rfl rfl (And.intro (mm_cp_ok c5) trivial) ?_
  refine mm_ok_lt (fun q6 => ?_)
  refine mm_ok_bl (l := [(.aload 0, 1), (.iconst (39), 2), (.putfield 67, 3)]) (pc' := 51) (lo' := [some (.ref 31)]) (st' := []) (q' := (mm_si q6 31 3 (39 : Int32))) (P := (True) ∧ ((True) ∧ ((True) ∧ (True)))) (by decide +kernel) rfl rfl (And.intro trivial (And.intro trivial (And.intro trivial trivial))) ?_
  refine mm_ok_lt (fun q7 => ?_)
  exact mm_ok_vret (by decide +kernel)
def x1_note_j69  (q : mm_Q) : Option (Unit × mm_Q) := (mm_lt (mm_si q 31 4 (q.1 31 3)) (fun q13 => (some ((), q13))))
set_option maxRecDepth 20000 in
theorem x1_note_j69_ok {L : Nat}  (q : mm_Q) : mm_ok mm_cvu (mm_Runs 1) 1 false cX1_note none L 69 [some (.ref 31), none, none, none] [] q (x1_note_j69  q) := by
  unfold x1_note_j69
  refine mm_ok_bl (l := [(.aload 0, 1), (.aload 0, 1), (.getfield 67, 3), (.putfield 68, 3)]) (pc' := 77) (lo' := [some (.ref 31), none, none, none]) (st' := []) (q' := (mm_si q 31 4 (q.1 31 3))) (P := (True) ∧ ((True) ∧ ((True) ∧ ((True) ∧ (True))))) (by decide +kernel) rfl rfl (And.intro trivial (And.intro trivial (And.intro trivial (And.intro trivial trivial)))) ?_
  refine mm_ok_lt (fun q13 => ?_)
  exact mm_ok_vret (by decide +kernel)
def x1_note_j13 (a1 : Int32) (a2 : Int32) (a3 : Int32) (q : mm_Q) : Option (Unit × mm_Q) := (if (q.1 31 3) < 0 then (x1_note_j69 q) else (if (40 : Int32) ≤ (q.1 31 3) then (x1_note_j69 q) else (mm_ck (mm_inb (q.1 31 3) 40) (mm_lt (mm_si q 32 (q.1 31 3).toNatClampNeg a1) (fun q7 => (mm_ck (mm_inb (q7.1 31 3) 40) (mm_lt (mm_si q7 33 (q7.1 31 3).toNatClampNeg a2) (fun q9 => (mm_ck (mm_inb (q9.1 31 3) 40) (mm_lt (mm_si q9 34 (q9.1 31 3).toNatClampNeg a3) (fun q11 => (mm_lt (mm_si q11 31 3 ((q11.1 31 3) + (1 : Int32))) (fun q12 => (x1_note_j69 q12))))))))))))))
set_option maxRecDepth 20000 in
theorem x1_note_j13_ok {L : Nat} (a1 : Int32) (a2 : Int32) (a3 : Int32) (q : mm_Q) : mm_ok mm_cvu (mm_Runs 1) 1 false cX1_note none L 13 [some (.ref 31), some (.int a1), some (.int a2), some (.int a3)] [] q (x1_note_j13 a1 a2 a3 q) := by
  unfold x1_note_j13
  refine mm_ok_bl (l := [(.aload 0, 1), (.getfield 67, 3)]) (pc' := 17) (lo' := [some (.ref 31), some (.int a1), some (.int a2), some (.int a3)]) (st' := [.int (q.1 31 3)]) (q' := q) (P := (True) ∧ ((True) ∧ (True))) (by decide +kernel) rfl rfl (And.intro trivial (And.intro trivial trivial)) ?_
  refine mm_ok_ifCond_lt (pt := 69) (d := 52) (by decide +kernel) (by decide) (fun k4 => ?_) (fun k4 => ?_)
  · exact mm_ok_sub (lo := [some (.ref 31), none, none, none]) (And.intro rfl trivial) (x1_note_j69_ok  q)
  · refine mm_ok_bl (l := [(.aload 0, 1), (.getfield 67, 3), (.iconst (40), 2)]) (pc' := 26) (lo' := [some (.ref 31), some (.int a1), some (.int a2), some (.int a3)]) (st' := [.int (40 : Int32), .int (q.1 31 3)]) (q' := q) (P := (True) ∧ ((True) ∧ ((True) ∧ (True)))) (by decide +kernel) rfl rfl (And.intro trivial (And.intro trivial (And.intro trivial trivial))) ?_
    refine mm_ok_if_icmp_ge (pt := 69) (d := 43) (by decide +kernel) (by decide) (fun k5 => ?_) (fun k5 => ?_)
    · exact mm_ok_sub (lo := [some (.ref 31), none, none, none]) (And.intro rfl trivial) (x1_note_j69_ok  q)
    · refine mm_ok_bl (l := [(.aload 0, 1), (.getfield 64, 3), (.aload 0, 1), (.getfield 67, 3), (.iload 1, 1)]) (pc' := 38) (lo' := [some (.ref 31), some (.int a1), some (.int a2), some (.int a3)]) (st' := [.int a1, .int (q.1 31 3), .ref 32]) (q' := q) (P := (True) ∧ ((True) ∧ ((True) ∧ ((True) ∧ ((True) ∧ (True)))))) (by decide +kernel) rfl rfl (And.intro trivial (And.intro trivial (And.intro trivial (And.intro trivial (And.intro trivial trivial))))) ?_
      refine mm_ok_ck (fun c6 => ?_)
      refine mm_ok_bl (l := [(.iastore, 1)]) (pc' := 39) (lo' := [some (.ref 31), some (.int a1), some (.int a2), some (.int a3)]) (st' := []) (q' := (mm_si q 32 (q.1 31 3).toNatClampNeg a1)) (P := (mm_ix (q.1 31 3) 40) ∧ (True)) (by decide +kernel) rfl rfl (And.intro (mm_inb_ix c6) trivial) ?_
      refine mm_ok_lt (fun q7 => ?_)
      refine mm_ok_bl (l := [(.aload 0, 1), (.getfield 65, 3), (.aload 0, 1), (.getfield 67, 3), (.iload 2, 1)]) (pc' := 48) (lo' := [some (.ref 31), some (.int a1), some (.int a2), some (.int a3)]) (st' := [.int a2, .int (q7.1 31 3), .ref 33]) (q' := q7) (P := (True) ∧ ((True) ∧ ((True) ∧ ((True) ∧ ((True) ∧ (True)))))) (by decide +kernel) rfl rfl (And.intro trivial (And.intro trivial (And.intro trivial (And.intro trivial (And.intro trivial trivial))))) ?_
      refine mm_ok_ck (fun c8 => ?_)
      refine mm_ok_bl (l := [(.iastore, 1)]) (pc' := 49) (lo' := [some (.ref 31), some (.int a1), some (.int a2), some (.int a3)]) (st' := []) (q' := (mm_si q7 33 (q7.1 31 3).toNatClampNeg a2)) (P := (mm_ix (q7.1 31 3) 40) ∧ (True)) (by decide +kernel) rfl rfl (And.intro (mm_inb_ix c8) trivial) ?_
      refine mm_ok_lt (fun q9 => ?_)
      refine mm_ok_bl (l := [(.aload 0, 1), (.getfield 66, 3), (.aload 0, 1), (.getfield 67, 3), (.iload 3, 1)]) (pc' := 58) (lo' := [some (.ref 31), some (.int a1), some (.int a2), some (.int a3)]) (st' := [.int a3, .int (q9.1 31 3), .ref 34]) (q' := q9) (P := (True) ∧ ((True) ∧ ((True) ∧ ((True) ∧ ((True) ∧ (True)))))) (by decide +kernel) rfl rfl (And.intro trivial (And.intro trivial (And.intro trivial (And.intro trivial (And.intro trivial trivial))))) ?_
      refine mm_ok_ck (fun c10 => ?_)
      refine mm_ok_bl (l := [(.iastore, 1)]) (pc' := 59) (lo' := [some (.ref 31), some (.int a1), some (.int a2), some (.int a3)]) (st' := []) (q' := (mm_si q9 34 (q9.1 31 3).toNatClampNeg a3)) (P := (mm_ix (q9.1 31 3) 40) ∧ (True)) (by decide +kernel) rfl rfl (And.intro (mm_inb_ix c10) trivial) ?_
      refine mm_ok_lt (fun q11 => ?_)
      refine mm_ok_bl (l := [(.aload 0, 1), (.dup, 1), (.getfield 67, 3), (.iconst (1), 1), (.iadd, 1), (.putfield 67, 3)]) (pc' := 69) (lo' := [some (.ref 31), some (.int a1), some (.int a2), some (.int a3)]) (st' := []) (q' := (mm_si q11 31 3 ((q11.1 31 3) + (1 : Int32)))) (P := (True) ∧ ((True) ∧ ((True) ∧ ((True) ∧ ((True) ∧ ((True) ∧ (True))))))) (by decide +kernel) rfl rfl (And.intro trivial (And.intro trivial (And.intro trivial (And.intro trivial (And.intro trivial (And.intro trivial trivial)))))) ?_
      refine mm_ok_lt (fun q12 => ?_)
      exact mm_ok_sub (lo := [some (.ref 31), none, none, none]) (And.intro rfl trivial) (x1_note_j69_ok  q12)
def x1_note (a1 : Int32) (a2 : Int32) (a3 : Int32) (q : mm_Q) : Option (Unit × mm_Q) := (if (q.1 31 3) < (40 : Int32) then (x1_note_j13 a1 a2 a3 q) else (mm_cl (x1_forgetOldest q) (fun u2 q3 => (x1_note_j13 a1 a2 a3 q3))))
set_option maxRecDepth 20000 in
theorem x1_note_ok {L : Nat} {a1 : Int32} {a2 : Int32} {a3 : Int32} {q : mm_Q} {r : Unit} {q1 : mm_Q} (h : x1_note a1 a2 a3 q = some (r, q1)) : mm_Runs 2 19 [.ref 31, .int a1, .int a2, .int a3] (mm_wq L q) (mm_cvu r) (mm_wq L q1) := by
  refine mm_runs_of (d := 1) (L := L) rfl (by decide +kernel) rfl rfl (?_ : mm_ok mm_cvu (mm_Runs 1) 1 false cX1_note none L 0 [some (.ref 31), some (.int a1), some (.int a2), some (.int a3)] [] q (x1_note a1 a2 a3 q)) h
  unfold x1_note
  refine mm_ok_bl (l := [(.aload 0, 1), (.getfield 67, 3), (.iconst (40), 2)]) (pc' := 6) (lo' := [some (.ref 31), some (.int a1), some (.int a2), some (.int a3)]) (st' := [.int (40 : Int32), .int (q.1 31 3)]) (q' := q) (P := (True) ∧ ((True) ∧ ((True) ∧ (True)))) (by decide +kernel) rfl rfl (And.intro trivial (And.intro trivial (And.intro trivial trivial))) ?_
  refine mm_ok_if_icmp_lt (pt := 13) (d := 7) (by decide +kernel) (by decide) (fun k1 => ?_) (fun k1 => ?_)
  · exact mm_ok_sub (lo := [some (.ref 31), some (.int a1), some (.int a2), some (.int a3)]) (And.intro rfl (And.intro rfl (And.intro rfl (And.intro rfl trivial)))) (x1_note_j13_ok a1 a2 a3 q)
  · refine mm_ok_bl (l := [(.aload 0, 1)]) (pc' := 10) (lo' := [some (.ref 31), some (.int a1), some (.int a2), some (.int a3)]) (st' := [.ref 31]) (q' := q) (P := (True) ∧ (True)) (by decide +kernel) rfl rfl (And.intro trivial trivial) ?_
    refine mm_ok_call (cz := mm_cvu) (j := .invokevirtual 368) (y := 23) (as := [.ref 31]) (t := []) (by decide +kernel) rfl (fun _ _ h => mm_up (k := 1) (by decide) (x1_forgetOldest_ok h)) (fun u2 q3 => ?_)
    exact mm_ok_sub (lo := [some (.ref 31), some (.int a1), some (.int a2), some (.int a3)]) (And.intro rfl (And.intro rfl (And.intro rfl (And.intro rfl trivial)))) (x1_note_j13_ok a1 a2 a3 q3)
def x1_undoable  (q : mm_Q) : Option (Int32 × mm_Q) := (some (q.1 31 3, q))
set_option maxRecDepth 20000 in
theorem x1_undoable_ok {L : Nat} {q : mm_Q} {r : Int32} {q1 : mm_Q} (h : x1_undoable  q = some (r, q1)) : mm_Runs 1 20 [.ref 31] (mm_wq L q) (mm_cvi r) (mm_wq L q1) := by
  refine mm_runs_of (d := 0) (L := L) rfl (by decide +kernel) rfl rfl (?_ : mm_ok mm_cvi (mm_Runs 0) 1 false cX1_undoable (some .int) L 0 [some (.ref 31)] [] q (x1_undoable  q)) h
  unfold x1_undoable
  refine mm_ok_bl (l := [(.aload 0, 1), (.getfield 67, 3)]) (pc' := 4) (lo' := [some (.ref 31)]) (st' := [.int (q.1 31 3)]) (q' := q) (P := (True) ∧ ((True) ∧ (True))) (by decide +kernel) rfl rfl (And.intro trivial (And.intro trivial trivial)) ?_
  exact mm_ok_iret (by decide +kernel)
def x4_write (a1 : Int32) (a2 : Int32) (q : mm_Q) : Option (Unit × mm_Q) := (if a1 < 0 then (some ((), q)) else (if (54 : Int32) ≤ a1 then (some ((), q)) else (mm_ck (mm_inb a1 54) (mm_lt (mm_si q 9 a1.toNatClampNeg a2) (fun q4 => (some ((), q4)))))))
set_option maxRecDepth 20000 in
theorem x4_write_ok {L : Nat} {a1 : Int32} {a2 : Int32} {q : mm_Q} {r : Unit} {q1 : mm_Q} (h : x4_write a1 a2 q = some (r, q1)) : mm_Runs 1 57 [.ref 8, .int a1, .int a2] (mm_wq L q) (mm_cvu r) (mm_wq L q1) := by
  refine mm_runs_of (d := 0) (L := L) rfl (by decide +kernel) rfl rfl (?_ : mm_ok mm_cvu (mm_Runs 0) 4 false cX4_write none L 0 [some (.ref 8), some (.int a1), some (.int a2)] [] q (x4_write a1 a2 q)) h
  unfold x4_write
  refine mm_ok_bl (l := [(.iload 1, 1)]) (pc' := 1) (lo' := [some (.ref 8), some (.int a1), some (.int a2)]) (st' := [.int a1]) (q' := q) (P := (True) ∧ (True)) (by decide +kernel) rfl rfl (And.intro trivial trivial) ?_
  refine mm_ok_ifCond_lt (pt := 20) (d := 19) (by decide +kernel) (by decide) (fun k1 => ?_) (fun k1 => ?_)
  · exact mm_ok_vret (by decide +kernel)
  · refine mm_ok_bl (l := [(.iload 1, 1), (.aload 0, 1), (.getfield 256, 3), (.arraylength, 1)]) (pc' := 10) (lo' := [some (.ref 8), some (.int a1), some (.int a2)]) (st' := [.int (54 : Int32), .int a1]) (q' := q) (P := (True) ∧ ((True) ∧ ((True) ∧ ((True) ∧ (True))))) (by decide +kernel) rfl rfl (And.intro trivial (And.intro trivial (And.intro trivial (And.intro trivial trivial)))) ?_
    refine mm_ok_if_icmp_ge (pt := 20) (d := 10) (by decide +kernel) (by decide) (fun k2 => ?_) (fun k2 => ?_)
    · exact mm_ok_vret (by decide +kernel)
    · refine mm_ok_bl (l := [(.aload 0, 1), (.getfield 256, 3), (.iload 1, 1), (.iload 2, 1)]) (pc' := 19) (lo' := [some (.ref 8), some (.int a1), some (.int a2)]) (st' := [.int a2, .int a1, .ref 9]) (q' := q) (P := (True) ∧ ((True) ∧ ((True) ∧ ((True) ∧ (True))))) (by decide +kernel) rfl rfl (And.intro trivial (And.intro trivial (And.intro trivial (And.intro trivial trivial)))) ?_
      refine mm_ok_ck (fun c3 => ?_)
      refine mm_ok_bl (l := [(.iastore, 1)]) (pc' := 20) (lo' := [some (.ref 8), some (.int a1), some (.int a2)]) (st' := []) (q' := (mm_si q 9 a1.toNatClampNeg a2)) (P := (mm_ix a1 54) ∧ (True)) (by decide +kernel) rfl rfl (And.intro (mm_inb_ix c3) trivial) ?_
      refine mm_ok_lt (fun q4 => ?_)
      exact mm_ok_vret (by decide +kernel)
def x1_stepBack  (q : mm_Q) : Option (Int32 × mm_Q) := (if (q.1 31 3) ≤ 0 then (some ((-5 : Int32), q)) else (if (q.1 31 3) ≤ (40 : Int32) then (mm_lt (mm_si q 31 3 ((q.1 31 3) - (1 : Int32))) (fun q3 => (mm_ck (mm_inb (q3.1 31 3) 40) (mm_ck (mm_inb (q3.1 31 3) 40) (mm_cl (x4_write (q3.1 32 (q3.1 31 3).toNatClampNeg) (q3.1 33 (q3.1 31 3).toNatClampNeg) q3) (fun u6 q7 => (some (q7.1 31 3, q7)))))))) else (some ((-5 : Int32), q))))
set_option maxRecDepth 20000 in
theorem x1_stepBack_ok {L : Nat} {q : mm_Q} {r : Int32} {q1 : mm_Q} (h : x1_stepBack  q = some (r, q1)) : mm_Runs 2 21 [.ref 31, .ref 8] (mm_wq L q) (mm_cvi r) (mm_wq L q1) := by
  refine mm_runs_of (d := 1) (L := L) rfl (by decide +kernel) rfl rfl (?_ : mm_ok mm_cvi (mm_Runs 1) 1 false cX1_stepBack (some .int) L 0 [some (.ref 31), some (.ref 8)] [] q (x1_stepBack  q)) h
  unfold x1_stepBack
  refine mm_ok_bl (l := [(.aload 0, 1), (.getfield 67, 3)]) (pc' := 4) (lo' := [some (.ref 31), some (.ref 8)]) (st' := [.int (q.1 31 3)]) (q' := q) (P := (True) ∧ ((True) ∧ (True))) (by decide +kernel) rfl rfl (And.intro trivial (And.intro trivial trivial)) ?_
  refine mm_ok_ifCond_le (pt := 16) (d := 12) (by decide +kernel) (by decide) (fun k1 => ?_) (fun k1 => ?_)
  · refine mm_ok_bl (l := [(.iconst (-5), 2)]) (pc' := 18) (lo' := [some (.ref 31), some (.ref 8)]) (st' := [.int (-5 : Int32)]) (q' := q) (P := (True) ∧ (True)) (by decide +kernel) rfl rfl (And.intro trivial trivial) ?_
    exact mm_ok_iret (by decide +kernel)
  · refine mm_ok_bl (l := [(.aload 0, 1), (.getfield 67, 3), (.iconst (40), 2)]) (pc' := 13) (lo' := [some (.ref 31), some (.ref 8)]) (st' := [.int (40 : Int32), .int (q.1 31 3)]) (q' := q) (P := (True) ∧ ((True) ∧ ((True) ∧ (True)))) (by decide +kernel) rfl rfl (And.intro trivial (And.intro trivial (And.intro trivial trivial))) ?_
    refine mm_ok_if_icmp_le (pt := 19) (d := 6) (by decide +kernel) (by decide) (fun k2 => ?_) (fun k2 => ?_)
    · refine mm_ok_bl (l := [(.aload 0, 1), (.dup, 1), (.getfield 67, 3), (.iconst (1), 1), (.isub, 1), (.putfield 67, 3)]) (pc' := 29) (lo' := [some (.ref 31), some (.ref 8)]) (st' := []) (q' := (mm_si q 31 3 ((q.1 31 3) - (1 : Int32)))) (P := (True) ∧ ((True) ∧ ((True) ∧ ((True) ∧ ((True) ∧ ((True) ∧ (True))))))) (by decide +kernel) rfl rfl (And.intro trivial (And.intro trivial (And.intro trivial (And.intro trivial (And.intro trivial (And.intro trivial trivial)))))) ?_
      refine mm_ok_lt (fun q3 => ?_)
      refine mm_ok_bl (l := [(.aload 1, 1), (.aload 0, 1), (.getfield 64, 3), (.aload 0, 1), (.getfield 67, 3)]) (pc' := 38) (lo' := [some (.ref 31), some (.ref 8)]) (st' := [.int (q3.1 31 3), .ref 32, .ref 8]) (q' := q3) (P := (True) ∧ ((True) ∧ ((True) ∧ ((True) ∧ ((True) ∧ (True)))))) (by decide +kernel) rfl rfl (And.intro trivial (And.intro trivial (And.intro trivial (And.intro trivial (And.intro trivial trivial))))) ?_
      refine mm_ok_ck (fun c4 => ?_)
      refine mm_ok_bl (l := [(.iaload, 1), (.aload 0, 1), (.getfield 65, 3), (.aload 0, 1), (.getfield 67, 3)]) (pc' := 47) (lo' := [some (.ref 31), some (.ref 8)]) (st' := [.int (q3.1 31 3), .ref 33, .int (q3.1 32 (q3.1 31 3).toNatClampNeg), .ref 8]) (q' := q3) (P := (mm_ix (q3.1 31 3) 40) ∧ ((True) ∧ ((True) ∧ ((True) ∧ ((True) ∧ (True)))))) (by decide +kernel) rfl rfl (And.intro (mm_inb_ix c4) (And.intro trivial (And.intro trivial (And.intro trivial (And.intro trivial trivial))))) ?_
      refine mm_ok_ck (fun c5 => ?_)
      refine mm_ok_bl (l := [(.iaload, 1)]) (pc' := 48) (lo' := [some (.ref 31), some (.ref 8)]) (st' := [.int (q3.1 33 (q3.1 31 3).toNatClampNeg), .int (q3.1 32 (q3.1 31 3).toNatClampNeg), .ref 8]) (q' := q3) (P := (mm_ix (q3.1 31 3) 40) ∧ (True)) (by decide +kernel) rfl rfl (And.intro (mm_inb_ix c5) trivial) ?_
      refine mm_ok_call (cz := mm_cvu) (j := .invokevirtual 914) (y := 57) (as := [.ref 8, .int (q3.1 32 (q3.1 31 3).toNatClampNeg), .int (q3.1 33 (q3.1 31 3).toNatClampNeg)]) (t := []) (by decide +kernel) rfl (fun _ _ h => mm_up (k := 1) (by decide) (x4_write_ok h)) (fun u6 q7 => ?_)
      refine mm_ok_bl (l := [(.aload 0, 1), (.getfield 67, 3)]) (pc' := 55) (lo' := [some (.ref 31), some (.ref 8)]) (st' := [.int (q7.1 31 3)]) (q' := q7) (P := (True) ∧ ((True) ∧ (True))) (by decide +kernel) rfl rfl (And.intro trivial (And.intro trivial trivial)) ?_
      exact mm_ok_iret (by decide +kernel)
    · refine mm_ok_bl (l := [(.iconst (-5), 2)]) (pc' := 18) (lo' := [some (.ref 31), some (.ref 8)]) (st' := [.int (-5 : Int32)]) (q' := q) (P := (True) ∧ (True)) (by decide +kernel) rfl rfl (And.intro trivial trivial) ?_
      exact mm_ok_iret (by decide +kernel)
def x1_stepOn  (q : mm_Q) : Option (Int32 × mm_Q) := (if (q.1 31 3) < 0 then (some ((-5 : Int32), q)) else (if (q.1 31 4) ≤ (q.1 31 3) then (some ((-5 : Int32), q)) else (if (q.1 31 3) < (40 : Int32) then (mm_ck (mm_inb (q.1 31 3) 40) (mm_ck (mm_inb (q.1 31 3) 40) (mm_cl (x4_write (q.1 32 (q.1 31 3).toNatClampNeg) (q.1 34 (q.1 31 3).toNatClampNeg) q) (fun u6 q7 => (mm_lt (mm_si q7 31 3 ((q7.1 31 3) + (1 : Int32))) (fun q8 => (some ((q8.1 31 4) - (q8.1 31 3), q8)))))))) else (some ((-5 : Int32), q)))))
set_option maxRecDepth 20000 in
theorem x1_stepOn_ok {L : Nat} {q : mm_Q} {r : Int32} {q1 : mm_Q} (h : x1_stepOn  q = some (r, q1)) : mm_Runs 2 22 [.ref 31, .ref 8] (mm_wq L q) (mm_cvi r) (mm_wq L q1) := by
  refine mm_runs_of (d := 1) (L := L) rfl (by decide +kernel) rfl rfl (?_ : mm_ok mm_cvi (mm_Runs 1) 1 false cX1_stepOn (some .int) L 0 [some (.ref 31), some (.ref 8)] [] q (x1_stepOn  q)) h
  unfold x1_stepOn
  refine mm_ok_bl (l := [(.aload 0, 1), (.getfield 67, 3)]) (pc' := 4) (lo' := [some (.ref 31), some (.ref 8)]) (st' := [.int (q.1 31 3)]) (q' := q) (P := (True) ∧ ((True) ∧ (True))) (by decide +kernel) rfl rfl (And.intro trivial (And.intro trivial trivial)) ?_
  refine mm_ok_ifCond_lt (pt := 27) (d := 23) (by decide +kernel) (by decide) (fun k1 => ?_) (fun k1 => ?_)
  · refine mm_ok_bl (l := [(.iconst (-5), 2)]) (pc' := 29) (lo' := [some (.ref 31), some (.ref 8)]) (st' := [.int (-5 : Int32)]) (q' := q) (P := (True) ∧ (True)) (by decide +kernel) rfl rfl (And.intro trivial trivial) ?_
    exact mm_ok_iret (by decide +kernel)
  · refine mm_ok_bl (l := [(.aload 0, 1), (.getfield 67, 3), (.aload 0, 1), (.getfield 68, 3)]) (pc' := 15) (lo' := [some (.ref 31), some (.ref 8)]) (st' := [.int (q.1 31 4), .int (q.1 31 3)]) (q' := q) (P := (True) ∧ ((True) ∧ ((True) ∧ ((True) ∧ (True))))) (by decide +kernel) rfl rfl (And.intro trivial (And.intro trivial (And.intro trivial (And.intro trivial trivial)))) ?_
    refine mm_ok_if_icmp_ge (pt := 27) (d := 12) (by decide +kernel) (by decide) (fun k2 => ?_) (fun k2 => ?_)
    · refine mm_ok_bl (l := [(.iconst (-5), 2)]) (pc' := 29) (lo' := [some (.ref 31), some (.ref 8)]) (st' := [.int (-5 : Int32)]) (q' := q) (P := (True) ∧ (True)) (by decide +kernel) rfl rfl (And.intro trivial trivial) ?_
      exact mm_ok_iret (by decide +kernel)
    · refine mm_ok_bl (l := [(.aload 0, 1), (.getfield 67, 3), (.iconst (40), 2)]) (pc' := 24) (lo' := [some (.ref 31), some (.ref 8)]) (st' := [.int (40 : Int32), .int (q.1 31 3)]) (q' := q) (P := (True) ∧ ((True) ∧ ((True) ∧ (True)))) (by decide +kernel) rfl rfl (And.intro trivial (And.intro trivial (And.intro trivial trivial))) ?_
      refine mm_ok_if_icmp_lt (pt := 30) (d := 6) (by decide +kernel) (by decide) (fun k3 => ?_) (fun k3 => ?_)
      · refine mm_ok_bl (l := [(.aload 1, 1), (.aload 0, 1), (.getfield 64, 3), (.aload 0, 1), (.getfield 67, 3)]) (pc' := 39) (lo' := [some (.ref 31), some (.ref 8)]) (st' := [.int (q.1 31 3), .ref 32, .ref 8]) (q' := q) (P := (True) ∧ ((True) ∧ ((True) ∧ ((True) ∧ ((True) ∧ (True)))))) (by decide +kernel) rfl rfl (And.intro trivial (And.intro trivial (And.intro trivial (And.intro trivial (And.intro trivial trivial))))) ?_
        refine mm_ok_ck (fun c4 => ?_)
        refine mm_ok_bl (l := [(.iaload, 1), (.aload 0, 1), (.getfield 66, 3), (.aload 0, 1), (.getfield 67, 3)]) (pc' := 48) (lo' := [some (.ref 31), some (.ref 8)]) (st' := [.int (q.1 31 3), .ref 34, .int (q.1 32 (q.1 31 3).toNatClampNeg), .ref 8]) (q' := q) (P := (mm_ix (q.1 31 3) 40) ∧ ((True) ∧ ((True) ∧ ((True) ∧ ((True) ∧ (True)))))) (by decide +kernel) rfl rfl (And.intro (mm_inb_ix c4) (And.intro trivial (And.intro trivial (And.intro trivial (And.intro trivial trivial))))) ?_
        refine mm_ok_ck (fun c5 => ?_)
        refine mm_ok_bl (l := [(.iaload, 1)]) (pc' := 49) (lo' := [some (.ref 31), some (.ref 8)]) (st' := [.int (q.1 34 (q.1 31 3).toNatClampNeg), .int (q.1 32 (q.1 31 3).toNatClampNeg), .ref 8]) (q' := q) (P := (mm_ix (q.1 31 3) 40) ∧ (True)) (by decide +kernel) rfl rfl (And.intro (mm_inb_ix c5) trivial) ?_
        refine mm_ok_call (cz := mm_cvu) (j := .invokevirtual 914) (y := 57) (as := [.ref 8, .int (q.1 32 (q.1 31 3).toNatClampNeg), .int (q.1 34 (q.1 31 3).toNatClampNeg)]) (t := []) (by decide +kernel) rfl (fun _ _ h => mm_up (k := 1) (by decide) (x4_write_ok h)) (fun u6 q7 => ?_)
        refine mm_ok_bl (l := [(.aload 0, 1), (.dup, 1), (.getfield 67, 3), (.iconst (1), 1), (.iadd, 1), (.putfield 67, 3)]) (pc' := 62) (lo' := [some (.ref 31), some (.ref 8)]) (st' := []) (q' := (mm_si q7 31 3 ((q7.1 31 3) + (1 : Int32)))) (P := (True) ∧ ((True) ∧ ((True) ∧ ((True) ∧ ((True) ∧ ((True) ∧ (True))))))) (by decide +kernel) rfl rfl (And.intro trivial (And.intro trivial (And.intro trivial (And.intro trivial (And.intro trivial (And.intro trivial trivial)))))) ?_
        refine mm_ok_lt (fun q8 => ?_)
        refine mm_ok_bl (l := [(.aload 0, 1), (.getfield 68, 3), (.aload 0, 1), (.getfield 67, 3), (.isub, 1)]) (pc' := 71) (lo' := [some (.ref 31), some (.ref 8)]) (st' := [.int ((q8.1 31 4) - (q8.1 31 3))]) (q' := q8) (P := (True) ∧ ((True) ∧ ((True) ∧ ((True) ∧ ((True) ∧ (True)))))) (by decide +kernel) rfl rfl (And.intro trivial (And.intro trivial (And.intro trivial (And.intro trivial (And.intro trivial trivial))))) ?_
        exact mm_ok_iret (by decide +kernel)
      · refine mm_ok_bl (l := [(.iconst (-5), 2)]) (pc' := 29) (lo' := [some (.ref 31), some (.ref 8)]) (st' := [.int (-5 : Int32)]) (q' := q) (P := (True) ∧ (True)) (by decide +kernel) rfl rfl (And.intro trivial trivial) ?_
        exact mm_ok_iret (by decide +kernel)
def x2_placeOf_h2 : Nat → Int32 → Int32 → mm_Q → Option (Int32 × mm_Q)
  | 0, _, _, _ => none
  | n + 1, a1, a2, q => (if (q.1 39 6) ≤ a2 then (some ((-1 : Int32), q)) else (if (6 : Int32) ≤ a2 then (some ((-1 : Int32), q)) else (mm_ck (mm_inb a2 6) (if (q.1 40 a2.toNatClampNeg) = a1 then (some (a2, q)) else (x2_placeOf_h2 n a1 (a2 + (1 : Int32)) q)))))
set_option maxRecDepth 20000 in
theorem x2_placeOf_h2_ok {L : Nat} : ∀ (n : Nat) (a1 : Int32) (a2 : Int32) (q : mm_Q), mm_ok mm_cvi (mm_Runs 0) 2 false cX2_placeOf (some .int) L 2 [some (.ref 39), some (.int a1), some (.int a2)] [] q (x2_placeOf_h2 n a1 a2 q)
  | 0, _, _, _ => by
    exact mm_ok_none
  | n + 1, a1, a2, q => by
    unfold x2_placeOf_h2
    refine mm_ok_bl (l := [(.iload 2, 1), (.aload 0, 1), (.getfield 134, 3)]) (pc' := 7) (lo' := [some (.ref 39), some (.int a1), some (.int a2)]) (st' := [.int (q.1 39 6), .int a2]) (q' := q) (P := (True) ∧ ((True) ∧ ((True) ∧ (True)))) (by decide +kernel) rfl rfl (And.intro trivial (And.intro trivial (And.intro trivial trivial))) ?_
    refine mm_ok_if_icmp_ge (pt := 37) (d := 30) (by decide +kernel) (by decide) (fun k1 => ?_) (fun k1 => ?_)
    · refine mm_ok_bl (l := [(.iconst (-1), 1)]) (pc' := 38) (lo' := [some (.ref 39), some (.int a1), some (.int a2)]) (st' := [.int (-1 : Int32)]) (q' := q) (P := (True) ∧ (True)) (by decide +kernel) rfl rfl (And.intro trivial trivial) ?_
      exact mm_ok_iret (by decide +kernel)
    · refine mm_ok_bl (l := [(.iload 2, 1), (.aload 0, 1), (.getfield 130, 3), (.arraylength, 1)]) (pc' := 16) (lo' := [some (.ref 39), some (.int a1), some (.int a2)]) (st' := [.int (6 : Int32), .int a2]) (q' := q) (P := (True) ∧ ((True) ∧ ((True) ∧ ((True) ∧ (True))))) (by decide +kernel) rfl rfl (And.intro trivial (And.intro trivial (And.intro trivial (And.intro trivial trivial)))) ?_
      refine mm_ok_if_icmp_ge (pt := 37) (d := 21) (by decide +kernel) (by decide) (fun k2 => ?_) (fun k2 => ?_)
      · refine mm_ok_bl (l := [(.iconst (-1), 1)]) (pc' := 38) (lo' := [some (.ref 39), some (.int a1), some (.int a2)]) (st' := [.int (-1 : Int32)]) (q' := q) (P := (True) ∧ (True)) (by decide +kernel) rfl rfl (And.intro trivial trivial) ?_
        exact mm_ok_iret (by decide +kernel)
      · refine mm_ok_bl (l := [(.aload 0, 1), (.getfield 130, 3), (.iload 2, 1)]) (pc' := 24) (lo' := [some (.ref 39), some (.int a1), some (.int a2)]) (st' := [.int a2, .ref 40]) (q' := q) (P := (True) ∧ ((True) ∧ ((True) ∧ (True)))) (by decide +kernel) rfl rfl (And.intro trivial (And.intro trivial (And.intro trivial trivial))) ?_
        refine mm_ok_ck (fun c3 => ?_)
        refine mm_ok_bl (l := [(.iaload, 1), (.iload 1, 1)]) (pc' := 26) (lo' := [some (.ref 39), some (.int a1), some (.int a2)]) (st' := [.int a1, .int (q.1 40 a2.toNatClampNeg)]) (q' := q) (P := (mm_ix a2 6) ∧ ((True) ∧ (True))) (by decide +kernel) rfl rfl (And.intro (mm_inb_ix c3) (And.intro trivial trivial)) ?_
        refine mm_ok_if_icmp_ne (pt := 31) (d := 5) (by decide +kernel) (by decide) (fun k4 => ?_) (fun k4 => ?_)
        · refine mm_ok_bl (l := [(.iload 2, 1)]) (pc' := 30) (lo' := [some (.ref 39), some (.int a1), some (.int a2)]) (st' := [.int a2]) (q' := q) (P := (True) ∧ (True)) (by decide +kernel) rfl rfl (And.intro trivial trivial) ?_
          exact mm_ok_iret (by decide +kernel)
        · refine mm_ok_bl (l := [(.iinc 2 (1), 3)]) (pc' := 34) (lo' := [some (.ref 39), some (.int a1), some (.int (a2 + (1 : Int32)))]) (st' := []) (q' := q) (P := (True) ∧ (True)) (by decide +kernel) rfl rfl (And.intro trivial trivial) ?_
          refine mm_ok_goto (pt := 2) (d := -32) (by decide +kernel) (by decide) ?_
          exact mm_ok_sub (lo := [some (.ref 39), some (.int a1), some (.int (a2 + (1 : Int32)))]) (And.intro rfl (And.intro rfl (And.intro rfl trivial))) (x2_placeOf_h2_ok n a1 (a2 + (1 : Int32)) q)
def x2_placeOf (a1 : Int32) (q : mm_Q) : Option (Int32 × mm_Q) := (x2_placeOf_h2 mm_fu a1 (0 : Int32) q)
set_option maxRecDepth 20000 in
theorem x2_placeOf_ok {L : Nat} {a1 : Int32} {q : mm_Q} {r : Int32} {q1 : mm_Q} (h : x2_placeOf a1 q = some (r, q1)) : mm_Runs 1 38 [.ref 39, .int a1] (mm_wq L q) (mm_cvi r) (mm_wq L q1) := by
  refine mm_runs_of (d := 0) (L := L) rfl (by decide +kernel) rfl rfl (?_ : mm_ok mm_cvi (mm_Runs 0) 2 false cX2_placeOf (some .int) L 0 [some (.ref 39), some (.int a1), none] [] q (x2_placeOf a1 q)) h
  unfold x2_placeOf
  refine mm_ok_bl (l := [(.iconst (0), 1), (.istore 2, 1)]) (pc' := 2) (lo' := [some (.ref 39), some (.int a1), some (.int (0 : Int32))]) (st' := []) (q' := q) (P := (True) ∧ ((True) ∧ (True))) (by decide +kernel) rfl rfl (And.intro trivial (And.intro trivial trivial)) ?_
  exact mm_ok_sub (lo := [some (.ref 39), some (.int a1), some (.int (0 : Int32))]) (And.intro rfl (And.intro rfl (And.intro rfl trivial))) (x2_placeOf_h2_ok mm_fu a1 (0 : Int32) q)
def x2_together (a1 : Int32) (a2 : Int32) (q : mm_Q) : Option (Int32 × mm_Q) := (if (q.1 39 8) = 0 then (some (mm_max a1 a2, q)) else (some (a1 + a2, q)))
set_option maxRecDepth 20000 in
theorem x2_together_ok {L : Nat} {a1 : Int32} {a2 : Int32} {q : mm_Q} {r : Int32} {q1 : mm_Q} (h : x2_together a1 a2 q = some (r, q1)) : mm_Runs 1 40 [.ref 39, .int a1, .int a2] (mm_wq L q) (mm_cvi r) (mm_wq L q1) := by
  refine mm_runs_of (d := 0) (L := L) rfl (by decide +kernel) rfl rfl (?_ : mm_ok mm_cvi (mm_Runs 0) 2 false cX2_together (some .int) L 0 [some (.ref 39), some (.int a1), some (.int a2)] [] q (x2_together a1 a2 q)) h
  unfold x2_together
  refine mm_ok_bl (l := [(.aload 0, 1), (.getfield 136, 3)]) (pc' := 4) (lo' := [some (.ref 39), some (.int a1), some (.int a2)]) (st' := [.int (q.1 39 8)]) (q' := q) (P := (True) ∧ ((True) ∧ (True))) (by decide +kernel) rfl rfl (And.intro trivial (And.intro trivial trivial)) ?_
  refine mm_ok_ifCond_ne (pt := 15) (d := 11) (by decide +kernel) (by decide) (fun k1 => ?_) (fun k1 => ?_)
  · refine mm_ok_bl (l := [(.iload 1, 1), (.iload 2, 1), (.ldc 0, 3)]) (pc' := 12) (lo' := [some (.ref 39), some (.int a1), some (.int a2)]) (st' := [.int (mm_max a1 a2)]) (q' := q) (P := (True) ∧ ((True) ∧ ((True) ∧ (True)))) (by decide +kernel) rfl rfl (And.intro trivial (And.intro trivial (And.intro trivial trivial))) ?_
    refine mm_ok_goto (pt := 18) (d := 6) (by decide +kernel) (by decide) ?_
    exact mm_ok_iret (by decide +kernel)
  · refine mm_ok_bl (l := [(.iload 1, 1), (.iload 2, 1), (.iadd, 1)]) (pc' := 18) (lo' := [some (.ref 39), some (.int a1), some (.int a2)]) (st' := [.int (a1 + a2)]) (q' := q) (P := (True) ∧ ((True) ∧ ((True) ∧ (True)))) (by decide +kernel) rfl rfl (And.intro trivial (And.intro trivial (And.intro trivial trivial))) ?_
    exact mm_ok_iret (by decide +kernel)
def x4_cellOf (a1 : Int32) (a2 : Int32) (q : mm_Q) : Option (Int32 × mm_Q) := (if a2 < 0 then (some ((-1 : Int32), q)) else (if a2 ≤ (12 : Int32) then (if (5 : Int32) ≤ a2 then (if (7 : Int32) ≤ a2 then (if a1 = 0 then (some (((48 : Int32) + a2) - (7 : Int32), q)) else (some ((-1 : Int32), q))) else (if a1 < 0 then (some ((-1 : Int32), q)) else (if (9 : Int32) ≤ a1 then (some ((-1 : Int32), q)) else (some (((30 : Int32) + ((a2 - (5 : Int32)) * (9 : Int32))) + a1, q))))) else (if a1 < 0 then (some ((-1 : Int32), q)) else (if (q.1 8 1) ≤ a1 then (some ((-1 : Int32), q)) else (some ((a2 * (6 : Int32)) + a1, q))))) else (some ((-1 : Int32), q))))
set_option maxRecDepth 20000 in
theorem x4_cellOf_ok {L : Nat} {a1 : Int32} {a2 : Int32} {q : mm_Q} {r : Int32} {q1 : mm_Q} (h : x4_cellOf a1 a2 q = some (r, q1)) : mm_Runs 1 55 [.ref 8, .int a1, .int a2] (mm_wq L q) (mm_cvi r) (mm_wq L q1) := by
  refine mm_runs_of (d := 0) (L := L) rfl (by decide +kernel) rfl rfl (?_ : mm_ok mm_cvi (mm_Runs 0) 4 false cX4_cellOf (some .int) L 0 [some (.ref 8), some (.int a1), some (.int a2)] [] q (x4_cellOf a1 a2 q)) h
  unfold x4_cellOf
  refine mm_ok_bl (l := [(.iload 2, 1)]) (pc' := 1) (lo' := [some (.ref 8), some (.int a1), some (.int a2)]) (st' := [.int a2]) (q' := q) (P := (True) ∧ (True)) (by decide +kernel) rfl rfl (And.intro trivial trivial) ?_
  refine mm_ok_ifCond_lt (pt := 10) (d := 9) (by decide +kernel) (by decide) (fun k1 => ?_) (fun k1 => ?_)
  · refine mm_ok_bl (l := [(.iconst (-1), 1)]) (pc' := 11) (lo' := [some (.ref 8), some (.int a1), some (.int a2)]) (st' := [.int (-1 : Int32)]) (q' := q) (P := (True) ∧ (True)) (by decide +kernel) rfl rfl (And.intro trivial trivial) ?_
    exact mm_ok_iret (by decide +kernel)
  · refine mm_ok_bl (l := [(.iload 2, 1), (.iconst (12), 2)]) (pc' := 7) (lo' := [some (.ref 8), some (.int a1), some (.int a2)]) (st' := [.int (12 : Int32), .int a2]) (q' := q) (P := (True) ∧ ((True) ∧ (True))) (by decide +kernel) rfl rfl (And.intro trivial (And.intro trivial trivial)) ?_
    refine mm_ok_if_icmp_le (pt := 12) (d := 5) (by decide +kernel) (by decide) (fun k2 => ?_) (fun k2 => ?_)
    · refine mm_ok_bl (l := [(.iload 2, 1), (.iconst (5), 1)]) (pc' := 14) (lo' := [some (.ref 8), some (.int a1), some (.int a2)]) (st' := [.int (5 : Int32), .int a2]) (q' := q) (P := (True) ∧ ((True) ∧ (True))) (by decide +kernel) rfl rfl (And.intro trivial (And.intro trivial trivial)) ?_
      refine mm_ok_if_icmp_ge (pt := 40) (d := 26) (by decide +kernel) (by decide) (fun k3 => ?_) (fun k3 => ?_)
      · refine mm_ok_bl (l := [(.iload 2, 1), (.iconst (7), 2)]) (pc' := 43) (lo' := [some (.ref 8), some (.int a1), some (.int a2)]) (st' := [.int (7 : Int32), .int a2]) (q' := q) (P := (True) ∧ ((True) ∧ (True))) (by decide +kernel) rfl rfl (And.intro trivial (And.intro trivial trivial)) ?_
        refine mm_ok_if_icmp_ge (pt := 72) (d := 29) (by decide +kernel) (by decide) (fun k4 => ?_) (fun k4 => ?_)
        · refine mm_ok_bl (l := [(.iload 1, 1)]) (pc' := 73) (lo' := [some (.ref 8), some (.int a1), some (.int a2)]) (st' := [.int a1]) (q' := q) (P := (True) ∧ (True)) (by decide +kernel) rfl rfl (And.intro trivial trivial) ?_
          refine mm_ok_ifCond_ne (pt := 86) (d := 13) (by decide +kernel) (by decide) (fun k5 => ?_) (fun k5 => ?_)
          · refine mm_ok_bl (l := [(.iconst (48), 2), (.iload 2, 1), (.iadd, 1), (.iconst (7), 2), (.isub, 1)]) (pc' := 83) (lo' := [some (.ref 8), some (.int a1), some (.int a2)]) (st' := [.int (((48 : Int32) + a2) - (7 : Int32))]) (q' := q) (P := (True) ∧ ((True) ∧ ((True) ∧ ((True) ∧ ((True) ∧ (True)))))) (by decide +kernel) rfl rfl (And.intro trivial (And.intro trivial (And.intro trivial (And.intro trivial (And.intro trivial trivial))))) ?_
            refine mm_ok_goto (pt := 87) (d := 4) (by decide +kernel) (by decide) ?_
            exact mm_ok_iret (by decide +kernel)
          · refine mm_ok_bl (l := [(.iconst (-1), 1)]) (pc' := 87) (lo' := [some (.ref 8), some (.int a1), some (.int a2)]) (st' := [.int (-1 : Int32)]) (q' := q) (P := (True) ∧ (True)) (by decide +kernel) rfl rfl (And.intro trivial trivial) ?_
            exact mm_ok_iret (by decide +kernel)
        · refine mm_ok_bl (l := [(.iload 1, 1)]) (pc' := 47) (lo' := [some (.ref 8), some (.int a1), some (.int a2)]) (st' := [.int a1]) (q' := q) (P := (True) ∧ (True)) (by decide +kernel) rfl rfl (And.intro trivial trivial) ?_
          refine mm_ok_ifCond_lt (pt := 70) (d := 23) (by decide +kernel) (by decide) (fun k6 => ?_) (fun k6 => ?_)
          · refine mm_ok_bl (l := [(.iconst (-1), 1)]) (pc' := 71) (lo' := [some (.ref 8), some (.int a1), some (.int a2)]) (st' := [.int (-1 : Int32)]) (q' := q) (P := (True) ∧ (True)) (by decide +kernel) rfl rfl (And.intro trivial trivial) ?_
            exact mm_ok_iret (by decide +kernel)
          · refine mm_ok_bl (l := [(.iload 1, 1), (.iconst (9), 2)]) (pc' := 53) (lo' := [some (.ref 8), some (.int a1), some (.int a2)]) (st' := [.int (9 : Int32), .int a1]) (q' := q) (P := (True) ∧ ((True) ∧ (True))) (by decide +kernel) rfl rfl (And.intro trivial (And.intro trivial trivial)) ?_
            refine mm_ok_if_icmp_ge (pt := 70) (d := 17) (by decide +kernel) (by decide) (fun k7 => ?_) (fun k7 => ?_)
            · refine mm_ok_bl (l := [(.iconst (-1), 1)]) (pc' := 71) (lo' := [some (.ref 8), some (.int a1), some (.int a2)]) (st' := [.int (-1 : Int32)]) (q' := q) (P := (True) ∧ (True)) (by decide +kernel) rfl rfl (And.intro trivial trivial) ?_
              exact mm_ok_iret (by decide +kernel)
            · refine mm_ok_bl (l := [(.iconst (30), 2), (.iload 2, 1), (.iconst (5), 1), (.isub, 1), (.iconst (9), 2), (.imul, 1), (.iadd, 1), (.iload 1, 1), (.iadd, 1)]) (pc' := 67) (lo' := [some (.ref 8), some (.int a1), some (.int a2)]) (st' := [.int (((30 : Int32) + ((a2 - (5 : Int32)) * (9 : Int32))) + a1)]) (q' := q) (P := (True) ∧ ((True) ∧ ((True) ∧ ((True) ∧ ((True) ∧ ((True) ∧ ((True) ∧ ((True) ∧ ((True) ∧ (True)))))))))) (by decide +kernel) rfl rfl (And.intro trivial (And.intro trivial (And.intro trivial (And.intro trivial (And.intro trivial (And.intro trivial (And.intro trivial (And.intro trivial (And.intro trivial trivial))))))))) ?_
              refine mm_ok_goto (pt := 71) (d := 4) (by decide +kernel) (by decide) ?_
              exact mm_ok_iret (by decide +kernel)
      · refine mm_ok_bl (l := [(.iload 1, 1)]) (pc' := 18) (lo' := [some (.ref 8), some (.int a1), some (.int a2)]) (st' := [.int a1]) (q' := q) (P := (True) ∧ (True)) (by decide +kernel) rfl rfl (And.intro trivial trivial) ?_
        refine mm_ok_ifCond_lt (pt := 38) (d := 20) (by decide +kernel) (by decide) (fun k8 => ?_) (fun k8 => ?_)
        · refine mm_ok_bl (l := [(.iconst (-1), 1)]) (pc' := 39) (lo' := [some (.ref 8), some (.int a1), some (.int a2)]) (st' := [.int (-1 : Int32)]) (q' := q) (P := (True) ∧ (True)) (by decide +kernel) rfl rfl (And.intro trivial trivial) ?_
          exact mm_ok_iret (by decide +kernel)
        · refine mm_ok_bl (l := [(.iload 1, 1), (.aload 0, 1), (.getfield 257, 3)]) (pc' := 26) (lo' := [some (.ref 8), some (.int a1), some (.int a2)]) (st' := [.int (q.1 8 1), .int a1]) (q' := q) (P := (True) ∧ ((True) ∧ ((True) ∧ (True)))) (by decide +kernel) rfl rfl (And.intro trivial (And.intro trivial (And.intro trivial trivial))) ?_
          refine mm_ok_if_icmp_ge (pt := 38) (d := 12) (by decide +kernel) (by decide) (fun k9 => ?_) (fun k9 => ?_)
          · refine mm_ok_bl (l := [(.iconst (-1), 1)]) (pc' := 39) (lo' := [some (.ref 8), some (.int a1), some (.int a2)]) (st' := [.int (-1 : Int32)]) (q' := q) (P := (True) ∧ (True)) (by decide +kernel) rfl rfl (And.intro trivial trivial) ?_
            exact mm_ok_iret (by decide +kernel)
          · refine mm_ok_bl (l := [(.iload 2, 1), (.iconst (6), 2), (.imul, 1), (.iload 1, 1), (.iadd, 1)]) (pc' := 35) (lo' := [some (.ref 8), some (.int a1), some (.int a2)]) (st' := [.int ((a2 * (6 : Int32)) + a1)]) (q' := q) (P := (True) ∧ ((True) ∧ ((True) ∧ ((True) ∧ ((True) ∧ (True)))))) (by decide +kernel) rfl rfl (And.intro trivial (And.intro trivial (And.intro trivial (And.intro trivial (And.intro trivial trivial))))) ?_
            refine mm_ok_goto (pt := 39) (d := 4) (by decide +kernel) (by decide) ?_
            exact mm_ok_iret (by decide +kernel)
    · refine mm_ok_bl (l := [(.iconst (-1), 1)]) (pc' := 11) (lo' := [some (.ref 8), some (.int a1), some (.int a2)]) (st' := [.int (-1 : Int32)]) (q' := q) (P := (True) ∧ (True)) (by decide +kernel) rfl rfl (And.intro trivial trivial) ?_
      exact mm_ok_iret (by decide +kernel)
def x4_told (a1 : Int32) (a2 : Int32) (q : mm_Q) : Option (Int32 × mm_Q) := (mm_cl (x4_cellOf a1 a2 q) (fun r1 q2 => (if r1 < 0 then (some ((0 : Int32), q2)) else (if (54 : Int32) ≤ r1 then (some ((0 : Int32), q2)) else (mm_ck (mm_inb r1 54) (some (q2.1 9 r1.toNatClampNeg, q2)))))))
set_option maxRecDepth 20000 in
theorem x4_told_ok {L : Nat} {a1 : Int32} {a2 : Int32} {q : mm_Q} {r : Int32} {q1 : mm_Q} (h : x4_told a1 a2 q = some (r, q1)) : mm_Runs 2 58 [.ref 8, .int a1, .int a2] (mm_wq L q) (mm_cvi r) (mm_wq L q1) := by
  refine mm_runs_of (d := 1) (L := L) rfl (by decide +kernel) rfl rfl (?_ : mm_ok mm_cvi (mm_Runs 1) 4 false cX4_told (some .int) L 0 [some (.ref 8), some (.int a1), some (.int a2), none] [] q (x4_told a1 a2 q)) h
  unfold x4_told
  refine mm_ok_bl (l := [(.aload 0, 1), (.iload 1, 1), (.iload 2, 1)]) (pc' := 3) (lo' := [some (.ref 8), some (.int a1), some (.int a2), none]) (st' := [.int a2, .int a1, .ref 8]) (q' := q) (P := (True) ∧ ((True) ∧ ((True) ∧ (True)))) (by decide +kernel) rfl rfl (And.intro trivial (And.intro trivial (And.intro trivial trivial))) ?_
  refine mm_ok_call (cz := mm_cvi) (j := .invokevirtual 882) (y := 55) (as := [.ref 8, .int a1, .int a2]) (t := []) (by decide +kernel) rfl (fun _ _ h => mm_up (k := 1) (by decide) (x4_cellOf_ok h)) (fun r1 q2 => ?_)
  refine mm_ok_bl (l := [(.istore 3, 1), (.iload 3, 1)]) (pc' := 8) (lo' := [some (.ref 8), some (.int a1), some (.int a2), some (.int r1)]) (st' := [.int r1]) (q' := q2) (P := (True) ∧ ((True) ∧ (True))) (by decide +kernel) rfl rfl (And.intro trivial (And.intro trivial trivial)) ?_
  refine mm_ok_ifCond_lt (pt := 29) (d := 21) (by decide +kernel) (by decide) (fun k3 => ?_) (fun k3 => ?_)
  · refine mm_ok_bl (l := [(.iconst (0), 1)]) (pc' := 30) (lo' := [some (.ref 8), some (.int a1), some (.int a2), some (.int r1)]) (st' := [.int (0 : Int32)]) (q' := q2) (P := (True) ∧ (True)) (by decide +kernel) rfl rfl (And.intro trivial trivial) ?_
    exact mm_ok_iret (by decide +kernel)
  · refine mm_ok_bl (l := [(.iload 3, 1), (.aload 0, 1), (.getfield 256, 3), (.arraylength, 1)]) (pc' := 17) (lo' := [some (.ref 8), some (.int a1), some (.int a2), some (.int r1)]) (st' := [.int (54 : Int32), .int r1]) (q' := q2) (P := (True) ∧ ((True) ∧ ((True) ∧ ((True) ∧ (True))))) (by decide +kernel) rfl rfl (And.intro trivial (And.intro trivial (And.intro trivial (And.intro trivial trivial)))) ?_
    refine mm_ok_if_icmp_ge (pt := 29) (d := 12) (by decide +kernel) (by decide) (fun k4 => ?_) (fun k4 => ?_)
    · refine mm_ok_bl (l := [(.iconst (0), 1)]) (pc' := 30) (lo' := [some (.ref 8), some (.int a1), some (.int a2), some (.int r1)]) (st' := [.int (0 : Int32)]) (q' := q2) (P := (True) ∧ (True)) (by decide +kernel) rfl rfl (And.intro trivial trivial) ?_
      exact mm_ok_iret (by decide +kernel)
    · refine mm_ok_bl (l := [(.aload 0, 1), (.getfield 256, 3), (.iload 3, 1)]) (pc' := 25) (lo' := [some (.ref 8), some (.int a1), some (.int a2), some (.int r1)]) (st' := [.int r1, .ref 9]) (q' := q2) (P := (True) ∧ ((True) ∧ ((True) ∧ (True)))) (by decide +kernel) rfl rfl (And.intro trivial (And.intro trivial (And.intro trivial trivial))) ?_
      refine mm_ok_ck (fun c5 => ?_)
      refine mm_ok_bl (l := [(.iaload, 1)]) (pc' := 26) (lo' := [some (.ref 8), some (.int a1), some (.int a2), some (.int r1)]) (st' := [.int (q2.1 9 r1.toNatClampNeg)]) (q' := q2) (P := (mm_ix r1 54) ∧ (True)) (by decide +kernel) rfl rfl (And.intro (mm_inb_ix c5) trivial) ?_
      refine mm_ok_goto (pt := 30) (d := 4) (by decide +kernel) (by decide) ?_
      exact mm_ok_iret (by decide +kernel)
def x10_take (a1 : Int32) (a2 : Int32) (a3 : Int32) (q : mm_Q) : Option (Unit × mm_Q) := (mm_cl (x4_told a1 (0 : Int32) q) (fun r1 q2 => (mm_cl (x4_told a1 (1 : Int32) q2) (fun r3 q4 => (mm_lt (mm_si q4 14 2 (r1 + r3)) (fun q5 => (mm_cl (x4_told a2 (5 : Int32) q5) (fun r6 q7 => (mm_lt (mm_si q7 14 3 r6) (fun q8 => (mm_cl (x4_told a2 (6 : Int32) q8) (fun r9 q10 => (mm_lt (mm_si q10 14 4 r9) (fun q11 => (mm_cl (x4_told a1 (2 : Int32) q11) (fun r12 q13 => (mm_lt (mm_si q13 14 5 (r12 * a3)) (fun q14 => (mm_cl (x4_told (0 : Int32) (7 : Int32) q14) (fun r15 q16 => (mm_lt (mm_si q16 14 6 r15) (fun q17 => (some ((), q17))))))))))))))))))))))))
set_option maxRecDepth 20000 in
theorem x10_take_ok {L : Nat} {a1 : Int32} {a2 : Int32} {a3 : Int32} {q : mm_Q} {r : Unit} {q1 : mm_Q} (h : x10_take a1 a2 a3 q = some (r, q1)) : mm_Runs 3 129 [.ref 14, .int a1, .int a2, .int a3] (mm_wq L q) (mm_cvu r) (mm_wq L q1) := by
  refine mm_runs_of (d := 2) (L := L) rfl (by decide +kernel) rfl rfl (?_ : mm_ok mm_cvu (mm_Runs 2) 10 false cX10_take none L 0 [some (.ref 14), some (.int a1), some (.int a2), some (.int a3)] [] q (x10_take a1 a2 a3 q)) h
  unfold x10_take
  refine mm_ok_bl (l := [(.aload 0, 1), (.aload 0, 1), (.getfield 640, 3), (.iload 1, 1), (.iconst (0), 1)]) (pc' := 7) (lo' := [some (.ref 14), some (.int a1), some (.int a2), some (.int a3)]) (st' := [.int (0 : Int32), .int a1, .ref 8, .ref 14]) (q' := q) (P := (True) ∧ ((True) ∧ ((True) ∧ ((True) ∧ ((True) ∧ (True)))))) (by decide +kernel) rfl rfl (And.intro trivial (And.intro trivial (And.intro trivial (And.intro trivial (And.intro trivial trivial))))) ?_
  refine mm_ok_call (cz := mm_cvi) (j := .invokevirtual 930) (y := 58) (as := [.ref 8, .int a1, .int (0 : Int32)]) (t := [.ref 14]) (by decide +kernel) rfl (fun _ _ h => mm_up (k := 2) (by decide) (x4_told_ok h)) (fun r1 q2 => ?_)
  refine mm_ok_bl (l := [(.aload 0, 1), (.getfield 640, 3), (.iload 1, 1), (.iconst (1), 1)]) (pc' := 16) (lo' := [some (.ref 14), some (.int a1), some (.int a2), some (.int a3)]) (st' := [.int (1 : Int32), .int a1, .ref 8, .int r1, .ref 14]) (q' := q2) (P := (True) ∧ ((True) ∧ ((True) ∧ ((True) ∧ (True))))) (by decide +kernel) rfl rfl (And.intro trivial (And.intro trivial (And.intro trivial (And.intro trivial trivial)))) ?_
  refine mm_ok_call (cz := mm_cvi) (j := .invokevirtual 930) (y := 58) (as := [.ref 8, .int a1, .int (1 : Int32)]) (t := [.int r1, .ref 14]) (by decide +kernel) rfl (fun _ _ h => mm_up (k := 2) (by decide) (x4_told_ok h)) (fun r3 q4 => ?_)
  refine mm_ok_bl (l := [(.iadd, 1), (.putfield 642, 3)]) (pc' := 23) (lo' := [some (.ref 14), some (.int a1), some (.int a2), some (.int a3)]) (st' := []) (q' := (mm_si q4 14 2 (r1 + r3))) (P := (True) ∧ ((True) ∧ (True))) (by decide +kernel) rfl rfl (And.intro trivial (And.intro trivial trivial)) ?_
  refine mm_ok_lt (fun q5 => ?_)
  refine mm_ok_bl (l := [(.aload 0, 1), (.aload 0, 1), (.getfield 640, 3), (.iload 2, 1), (.iconst (5), 1)]) (pc' := 30) (lo' := [some (.ref 14), some (.int a1), some (.int a2), some (.int a3)]) (st' := [.int (5 : Int32), .int a2, .ref 8, .ref 14]) (q' := q5) (P := (True) ∧ ((True) ∧ ((True) ∧ ((True) ∧ ((True) ∧ (True)))))) (by decide +kernel) rfl rfl (And.intro trivial (And.intro trivial (And.intro trivial (And.intro trivial (And.intro trivial trivial))))) ?_
  refine mm_ok_call (cz := mm_cvi) (j := .invokevirtual 930) (y := 58) (as := [.ref 8, .int a2, .int (5 : Int32)]) (t := [.ref 14]) (by decide +kernel) rfl (fun _ _ h => mm_up (k := 2) (by decide) (x4_told_ok h)) (fun r6 q7 => ?_)
  refine mm_ok_bl (l := [(.putfield 643, 3)]) (pc' := 36) (lo' := [some (.ref 14), some (.int a1), some (.int a2), some (.int a3)]) (st' := []) (q' := (mm_si q7 14 3 r6)) (P := (True) ∧ (True)) (by decide +kernel) rfl rfl (And.intro trivial trivial) ?_
  refine mm_ok_lt (fun q8 => ?_)
  refine mm_ok_bl (l := [(.aload 0, 1), (.aload 0, 1), (.getfield 640, 3), (.iload 2, 1), (.iconst (6), 2)]) (pc' := 44) (lo' := [some (.ref 14), some (.int a1), some (.int a2), some (.int a3)]) (st' := [.int (6 : Int32), .int a2, .ref 8, .ref 14]) (q' := q8) (P := (True) ∧ ((True) ∧ ((True) ∧ ((True) ∧ ((True) ∧ (True)))))) (by decide +kernel) rfl rfl (And.intro trivial (And.intro trivial (And.intro trivial (And.intro trivial (And.intro trivial trivial))))) ?_
  refine mm_ok_call (cz := mm_cvi) (j := .invokevirtual 930) (y := 58) (as := [.ref 8, .int a2, .int (6 : Int32)]) (t := [.ref 14]) (by decide +kernel) rfl (fun _ _ h => mm_up (k := 2) (by decide) (x4_told_ok h)) (fun r9 q10 => ?_)
  refine mm_ok_bl (l := [(.putfield 644, 3)]) (pc' := 50) (lo' := [some (.ref 14), some (.int a1), some (.int a2), some (.int a3)]) (st' := []) (q' := (mm_si q10 14 4 r9)) (P := (True) ∧ (True)) (by decide +kernel) rfl rfl (And.intro trivial trivial) ?_
  refine mm_ok_lt (fun q11 => ?_)
  refine mm_ok_bl (l := [(.aload 0, 1), (.aload 0, 1), (.getfield 640, 3), (.iload 1, 1), (.iconst (2), 1)]) (pc' := 57) (lo' := [some (.ref 14), some (.int a1), some (.int a2), some (.int a3)]) (st' := [.int (2 : Int32), .int a1, .ref 8, .ref 14]) (q' := q11) (P := (True) ∧ ((True) ∧ ((True) ∧ ((True) ∧ ((True) ∧ (True)))))) (by decide +kernel) rfl rfl (And.intro trivial (And.intro trivial (And.intro trivial (And.intro trivial (And.intro trivial trivial))))) ?_
  refine mm_ok_call (cz := mm_cvi) (j := .invokevirtual 930) (y := 58) (as := [.ref 8, .int a1, .int (2 : Int32)]) (t := [.ref 14]) (by decide +kernel) rfl (fun _ _ h => mm_up (k := 2) (by decide) (x4_told_ok h)) (fun r12 q13 => ?_)
  refine mm_ok_bl (l := [(.iload 3, 1), (.imul, 1), (.putfield 645, 3)]) (pc' := 65) (lo' := [some (.ref 14), some (.int a1), some (.int a2), some (.int a3)]) (st' := []) (q' := (mm_si q13 14 5 (r12 * a3))) (P := (True) ∧ ((True) ∧ ((True) ∧ (True)))) (by decide +kernel) rfl rfl (And.intro trivial (And.intro trivial (And.intro trivial trivial))) ?_
  refine mm_ok_lt (fun q14 => ?_)
  refine mm_ok_bl (l := [(.aload 0, 1), (.aload 0, 1), (.getfield 640, 3), (.iconst (0), 1), (.iconst (7), 2)]) (pc' := 73) (lo' := [some (.ref 14), some (.int a1), some (.int a2), some (.int a3)]) (st' := [.int (7 : Int32), .int (0 : Int32), .ref 8, .ref 14]) (q' := q14) (P := (True) ∧ ((True) ∧ ((True) ∧ ((True) ∧ ((True) ∧ (True)))))) (by decide +kernel) rfl rfl (And.intro trivial (And.intro trivial (And.intro trivial (And.intro trivial (And.intro trivial trivial))))) ?_
  refine mm_ok_call (cz := mm_cvi) (j := .invokevirtual 930) (y := 58) (as := [.ref 8, .int (0 : Int32), .int (7 : Int32)]) (t := [.ref 14]) (by decide +kernel) rfl (fun _ _ h => mm_up (k := 2) (by decide) (x4_told_ok h)) (fun r15 q16 => ?_)
  refine mm_ok_bl (l := [(.putfield 646, 3)]) (pc' := 79) (lo' := [some (.ref 14), some (.int a1), some (.int a2), some (.int a3)]) (st' := []) (q' := (mm_si q16 14 6 r15)) (P := (True) ∧ (True)) (by decide +kernel) rfl rfl (And.intro trivial trivial) ?_
  refine mm_ok_lt (fun q17 => ?_)
  exact mm_ok_vret (by decide +kernel)
def x10_enlarge (a1 : Int32) (q : mm_Q) : Option (Unit × mm_Q) := (mm_lt (mm_si q 14 3 (mm_mn ((q.1 14 3) + a1) (9 : Int32))) (fun q1 => (some ((), q1))))
set_option maxRecDepth 20000 in
theorem x10_enlarge_ok {L : Nat} {a1 : Int32} {q : mm_Q} {r : Unit} {q1 : mm_Q} (h : x10_enlarge a1 q = some (r, q1)) : mm_Runs 1 131 [.ref 14, .int a1] (mm_wq L q) (mm_cvu r) (mm_wq L q1) := by
  refine mm_runs_of (d := 0) (L := L) rfl (by decide +kernel) rfl rfl (?_ : mm_ok mm_cvu (mm_Runs 0) 10 false cX10_enlarge none L 0 [some (.ref 14), some (.int a1)] [] q (x10_enlarge a1 q)) h
  unfold x10_enlarge
  refine mm_ok_bl (l := [(.aload 0, 1), (.aload 0, 1), (.getfield 643, 3), (.iload 1, 1), (.iadd, 1), (.iconst (9), 2), (.ldc 2, 3), (.putfield 643, 3)]) (pc' := 15) (lo' := [some (.ref 14), some (.int a1)]) (st' := []) (q' := (mm_si q 14 3 (mm_mn ((q.1 14 3) + a1) (9 : Int32)))) (P := (True) ∧ ((True) ∧ ((True) ∧ ((True) ∧ ((True) ∧ ((True) ∧ ((True) ∧ ((True) ∧ (True))))))))) (by decide +kernel) rfl rfl (And.intro trivial (And.intro trivial (And.intro trivial (And.intro trivial (And.intro trivial (And.intro trivial (And.intro trivial (And.intro trivial trivial)))))))) ?_
  refine mm_ok_lt (fun q1 => ?_)
  exact mm_ok_vret (by decide +kernel)
def x4_isInBarrel (a1 : Int32) (q : mm_Q) : Option (Int32 × mm_Q) := (if a1 < ((q.1 9 50) - (q.1 9 51)) then (some ((0 : Int32), q)) else (if ((q.1 9 50) + (q.1 9 51)) < a1 then (some ((0 : Int32), q)) else (some ((1 : Int32), q))))
set_option maxRecDepth 20000 in
theorem x4_isInBarrel_ok {L : Nat} {a1 : Int32} {q : mm_Q} {r : Int32} {q1 : mm_Q} (h : x4_isInBarrel a1 q = some (r, q1)) : mm_Runs 1 59 [.ref 8, .int a1] (mm_wq L q) (mm_cvi r) (mm_wq L q1) := by
  refine mm_runs_of (d := 0) (L := L) rfl (by decide +kernel) rfl rfl (?_ : mm_ok mm_cvi (mm_Runs 0) 4 false cX4_isInBarrel (some .boolean) L 0 [some (.ref 8), some (.int a1), none, none] [] q (x4_isInBarrel a1 q)) h
  unfold x4_isInBarrel
  refine mm_ok_bl (l := [(.aload 0, 1), (.getfield 256, 3), (.iconst (50), 2), (.iaload, 1), (.istore 2, 1), (.aload 0, 1), (.getfield 256, 3), (.iconst (51), 2), (.iaload, 1), (.istore 3, 1), (.iload 1, 1), (.iload 2, 1), (.iload 3, 1), (.isub, 1)]) (pc' := 20) (lo' := [some (.ref 8), some (.int a1), some (.int (q.1 9 50)), some (.int (q.1 9 51))]) (st' := [.int ((q.1 9 50) - (q.1 9 51)), .int a1]) (q' := q) (P := (True) ∧ ((True) ∧ ((True) ∧ ((mm_ix (50 : Int32) 54) ∧ ((True) ∧ ((True) ∧ ((True) ∧ ((True) ∧ ((mm_ix (51 : Int32) 54) ∧ ((True) ∧ ((True) ∧ ((True) ∧ ((True) ∧ ((True) ∧ (True))))))))))))))) (by decide +kernel) rfl rfl (And.intro trivial (And.intro trivial (And.intro trivial (And.intro (mm_inb_ix (by decide)) (And.intro trivial (And.intro trivial (And.intro trivial (And.intro trivial (And.intro (mm_inb_ix (by decide)) (And.intro trivial (And.intro trivial (And.intro trivial (And.intro trivial (And.intro trivial trivial)))))))))))))) ?_
  refine mm_ok_if_icmp_lt (pt := 34) (d := 14) (by decide +kernel) (by decide) (fun k1 => ?_) (fun k1 => ?_)
  · refine mm_ok_bl (l := [(.iconst (0), 1)]) (pc' := 35) (lo' := [some (.ref 8), some (.int a1), some (.int (q.1 9 50)), some (.int (q.1 9 51))]) (st' := [.int (0 : Int32)]) (q' := q) (P := (True) ∧ (True)) (by decide +kernel) rfl rfl (And.intro trivial trivial) ?_
    exact mm_ok_zret (by decide +kernel) (by decide)
  · refine mm_ok_bl (l := [(.iload 1, 1), (.iload 2, 1), (.iload 3, 1), (.iadd, 1)]) (pc' := 27) (lo' := [some (.ref 8), some (.int a1), some (.int (q.1 9 50)), some (.int (q.1 9 51))]) (st' := [.int ((q.1 9 50) + (q.1 9 51)), .int a1]) (q' := q) (P := (True) ∧ ((True) ∧ ((True) ∧ ((True) ∧ (True))))) (by decide +kernel) rfl rfl (And.intro trivial (And.intro trivial (And.intro trivial (And.intro trivial trivial)))) ?_
    refine mm_ok_if_icmp_gt (pt := 34) (d := 7) (by decide +kernel) (by decide) (fun k2 => ?_) (fun k2 => ?_)
    · refine mm_ok_bl (l := [(.iconst (0), 1)]) (pc' := 35) (lo' := [some (.ref 8), some (.int a1), some (.int (q.1 9 50)), some (.int (q.1 9 51))]) (st' := [.int (0 : Int32)]) (q' := q) (P := (True) ∧ (True)) (by decide +kernel) rfl rfl (And.intro trivial trivial) ?_
      exact mm_ok_zret (by decide +kernel) (by decide)
    · refine mm_ok_bl (l := [(.iconst (1), 1)]) (pc' := 31) (lo' := [some (.ref 8), some (.int a1), some (.int (q.1 9 50)), some (.int (q.1 9 51))]) (st' := [.int (1 : Int32)]) (q' := q) (P := (True) ∧ (True)) (by decide +kernel) rfl rfl (And.intro trivial trivial) ?_
      refine mm_ok_goto (pt := 35) (d := 4) (by decide +kernel) (by decide) ?_
      exact mm_ok_zret (by decide +kernel) (by decide)
def x4_isHit (a1 : Int32) (q : mm_Q) : Option (Int32 × mm_Q) := (if a1 = (q.1 9 52) then (some ((1 : Int32), q)) else (some ((0 : Int32), q)))
set_option maxRecDepth 20000 in
theorem x4_isHit_ok {L : Nat} {a1 : Int32} {q : mm_Q} {r : Int32} {q1 : mm_Q} (h : x4_isHit a1 q = some (r, q1)) : mm_Runs 1 60 [.ref 8, .int a1] (mm_wq L q) (mm_cvi r) (mm_wq L q1) := by
  refine mm_runs_of (d := 0) (L := L) rfl (by decide +kernel) rfl rfl (?_ : mm_ok mm_cvi (mm_Runs 0) 4 false cX4_isHit (some .boolean) L 0 [some (.ref 8), some (.int a1)] [] q (x4_isHit a1 q)) h
  unfold x4_isHit
  refine mm_ok_bl (l := [(.iload 1, 1), (.aload 0, 1), (.getfield 256, 3), (.iconst (52), 2), (.iaload, 1)]) (pc' := 8) (lo' := [some (.ref 8), some (.int a1)]) (st' := [.int (q.1 9 52), .int a1]) (q' := q) (P := (True) ∧ ((True) ∧ ((True) ∧ ((True) ∧ ((mm_ix (52 : Int32) 54) ∧ (True)))))) (by decide +kernel) rfl rfl (And.intro trivial (And.intro trivial (And.intro trivial (And.intro trivial (And.intro (mm_inb_ix (by decide)) trivial))))) ?_
  refine mm_ok_if_icmp_ne (pt := 15) (d := 7) (by decide +kernel) (by decide) (fun k1 => ?_) (fun k1 => ?_)
  · refine mm_ok_bl (l := [(.iconst (1), 1)]) (pc' := 12) (lo' := [some (.ref 8), some (.int a1)]) (st' := [.int (1 : Int32)]) (q' := q) (P := (True) ∧ (True)) (by decide +kernel) rfl rfl (And.intro trivial trivial) ?_
    refine mm_ok_goto (pt := 16) (d := 4) (by decide +kernel) (by decide) ?_
    exact mm_ok_zret (by decide +kernel) (by decide)
  · refine mm_ok_bl (l := [(.iconst (0), 1)]) (pc' := 16) (lo' := [some (.ref 8), some (.int a1)]) (st' := [.int (0 : Int32)]) (q' := q) (P := (True) ∧ (True)) (by decide +kernel) rfl rfl (And.intro trivial trivial) ?_
    exact mm_ok_zret (by decide +kernel) (by decide)
def x4_stopOf (a1 : Int32) (q : mm_Q) : Option (Int32 × mm_Q) := (mm_cl (x4_isInBarrel a1 q) (fun r1 q2 => (if r1 = 0 then (if a1 < (q.1 9 49) then (some (mm_mn (a1 + (a1 / (10 : Int32))) (q.1 9 49), q2)) else (some (a1, q2))) else (some (a1, q2)))))
set_option maxRecDepth 20000 in
theorem x4_stopOf_ok {L : Nat} {a1 : Int32} {q : mm_Q} {r : Int32} {q1 : mm_Q} (h : x4_stopOf a1 q = some (r, q1)) : mm_Runs 2 61 [.ref 8, .int a1] (mm_wq L q) (mm_cvi r) (mm_wq L q1) := by
  refine mm_runs_of (d := 1) (L := L) rfl (by decide +kernel) rfl rfl (?_ : mm_ok mm_cvi (mm_Runs 1) 4 false cX4_stopOf (some .int) L 0 [some (.ref 8), some (.int a1), none] [] q (x4_stopOf a1 q)) h
  unfold x4_stopOf
  refine mm_ok_bl (l := [(.aload 0, 1), (.getfield 256, 3), (.iconst (49), 2), (.iaload, 1), (.istore 2, 1), (.aload 0, 1), (.iload 1, 1)]) (pc' := 10) (lo' := [some (.ref 8), some (.int a1), some (.int (q.1 9 49))]) (st' := [.int a1, .ref 8]) (q' := q) (P := (True) ∧ ((True) ∧ ((True) ∧ ((mm_ix (49 : Int32) 54) ∧ ((True) ∧ ((True) ∧ ((True) ∧ (True)))))))) (by decide +kernel) rfl rfl (And.intro trivial (And.intro trivial (And.intro trivial (And.intro (mm_inb_ix (by decide)) (And.intro trivial (And.intro trivial (And.intro trivial trivial))))))) ?_
  refine mm_ok_call (cz := mm_cvi) (j := .invokevirtual 945) (y := 59) (as := [.ref 8, .int a1]) (t := []) (by decide +kernel) rfl (fun _ _ h => mm_up (k := 1) (by decide) (x4_isInBarrel_ok h)) (fun r1 q2 => ?_)
  refine mm_ok_ifCond_ne (pt := 21) (d := 8) (by decide +kernel) (by decide) (fun k3 => ?_) (fun k3 => ?_)
  · refine mm_ok_bl (l := [(.iload 1, 1), (.iload 2, 1)]) (pc' := 18) (lo' := [some (.ref 8), some (.int a1), some (.int (q.1 9 49))]) (st' := [.int (q.1 9 49), .int a1]) (q' := q2) (P := (True) ∧ ((True) ∧ (True))) (by decide +kernel) rfl rfl (And.intro trivial (And.intro trivial trivial)) ?_
    refine mm_ok_if_icmp_lt (pt := 23) (d := 5) (by decide +kernel) (by decide) (fun k4 => ?_) (fun k4 => ?_)
    · refine mm_ok_bl (l := [(.iload 1, 1), (.iload 1, 1), (.iconst (10), 2), (.idiv, 1), (.iadd, 1), (.iload 2, 1), (.ldc 2, 3)]) (pc' := 33) (lo' := [some (.ref 8), some (.int a1), some (.int (q.1 9 49))]) (st' := [.int (mm_mn (a1 + (a1 / (10 : Int32))) (q.1 9 49))]) (q' := q2) (P := (True) ∧ ((True) ∧ ((True) ∧ ((¬ ((10 : Int32) = 0)) ∧ ((True) ∧ ((True) ∧ ((True) ∧ (True)))))))) (by decide +kernel) rfl rfl (And.intro trivial (And.intro trivial (And.intro trivial (And.intro (by decide) (And.intro trivial (And.intro trivial (And.intro trivial trivial))))))) ?_
      exact mm_ok_iret (by decide +kernel)
    · refine mm_ok_bl (l := [(.iload 1, 1)]) (pc' := 22) (lo' := [some (.ref 8), some (.int a1), some (.int (q.1 9 49))]) (st' := [.int a1]) (q' := q2) (P := (True) ∧ (True)) (by decide +kernel) rfl rfl (And.intro trivial trivial) ?_
      exact mm_ok_iret (by decide +kernel)
  · refine mm_ok_bl (l := [(.iload 1, 1)]) (pc' := 22) (lo' := [some (.ref 8), some (.int a1), some (.int (q.1 9 49))]) (st' := [.int a1]) (q' := q2) (P := (True) ∧ (True)) (by decide +kernel) rfl rfl (And.intro trivial trivial) ?_
    exact mm_ok_iret (by decide +kernel)
def x4_pointsOf (a1 : Int32) (q : mm_Q) : Option (Int32 × mm_Q) := (mm_cl (x4_isHit a1 q) (fun r1 q2 => (if r1 = 0 then (mm_cl (x4_stopOf a1 q2) (fun r4 q5 => (mm_cl (x4_isInBarrel a1 q5) (fun r6 q7 => (if r6 = 0 then (some (r4 / (10 : Int32), q7)) else (some ((r4 / (10 : Int32)) + (30 : Int32), q7))))))) else (some ((0 : Int32), q2)))))
set_option maxRecDepth 20000 in
theorem x4_pointsOf_ok {L : Nat} {a1 : Int32} {q : mm_Q} {r : Int32} {q1 : mm_Q} (h : x4_pointsOf a1 q = some (r, q1)) : mm_Runs 3 62 [.ref 8, .int a1] (mm_wq L q) (mm_cvi r) (mm_wq L q1) := by
  refine mm_runs_of (d := 2) (L := L) rfl (by decide +kernel) rfl rfl (?_ : mm_ok mm_cvi (mm_Runs 2) 4 false cX4_pointsOf (some .int) L 0 [some (.ref 8), some (.int a1), none] [] q (x4_pointsOf a1 q)) h
  unfold x4_pointsOf
  refine mm_ok_bl (l := [(.aload 0, 1), (.iload 1, 1)]) (pc' := 2) (lo' := [some (.ref 8), some (.int a1), none]) (st' := [.int a1, .ref 8]) (q' := q) (P := (True) ∧ ((True) ∧ (True))) (by decide +kernel) rfl rfl (And.intro trivial (And.intro trivial trivial)) ?_
  refine mm_ok_call (cz := mm_cvi) (j := .invokevirtual 961) (y := 60) (as := [.ref 8, .int a1]) (t := []) (by decide +kernel) rfl (fun _ _ h => mm_up (k := 1) (by decide) (x4_isHit_ok h)) (fun r1 q2 => ?_)
  refine mm_ok_ifCond_eq (pt := 10) (d := 5) (by decide +kernel) (by decide) (fun k3 => ?_) (fun k3 => ?_)
  · refine mm_ok_bl (l := [(.aload 0, 1), (.iload 1, 1)]) (pc' := 12) (lo' := [some (.ref 8), some (.int a1), none]) (st' := [.int a1, .ref 8]) (q' := q2) (P := (True) ∧ ((True) ∧ (True))) (by decide +kernel) rfl rfl (And.intro trivial (And.intro trivial trivial)) ?_
    refine mm_ok_call (cz := mm_cvi) (j := .invokevirtual 977) (y := 61) (as := [.ref 8, .int a1]) (t := []) (by decide +kernel) rfl (fun _ _ h => mm_up (k := 2) (by decide) (x4_stopOf_ok h)) (fun r4 q5 => ?_)
    refine mm_ok_bl (l := [(.iconst (10), 2), (.idiv, 1), (.istore 2, 1), (.aload 0, 1), (.iload 1, 1)]) (pc' := 21) (lo' := [some (.ref 8), some (.int a1), some (.int (r4 / (10 : Int32)))]) (st' := [.int a1, .ref 8]) (q' := q5) (P := (True) ∧ ((¬ ((10 : Int32) = 0)) ∧ ((True) ∧ ((True) ∧ ((True) ∧ (True)))))) (by decide +kernel) rfl rfl (And.intro trivial (And.intro (by decide) (And.intro trivial (And.intro trivial (And.intro trivial trivial))))) ?_
    refine mm_ok_call (cz := mm_cvi) (j := .invokevirtual 945) (y := 59) (as := [.ref 8, .int a1]) (t := []) (by decide +kernel) rfl (fun _ _ h => mm_up (k := 1) (by decide) (x4_isInBarrel_ok h)) (fun r6 q7 => ?_)
    refine mm_ok_ifCond_eq (pt := 34) (d := 10) (by decide +kernel) (by decide) (fun k8 => ?_) (fun k8 => ?_)
    · refine mm_ok_bl (l := [(.iload 2, 1)]) (pc' := 35) (lo' := [some (.ref 8), some (.int a1), some (.int (r4 / (10 : Int32)))]) (st' := [.int (r4 / (10 : Int32))]) (q' := q7) (P := (True) ∧ (True)) (by decide +kernel) rfl rfl (And.intro trivial trivial) ?_
      exact mm_ok_iret (by decide +kernel)
    · refine mm_ok_bl (l := [(.iload 2, 1), (.iconst (30), 2), (.iadd, 1)]) (pc' := 31) (lo' := [some (.ref 8), some (.int a1), some (.int (r4 / (10 : Int32)))]) (st' := [.int ((r4 / (10 : Int32)) + (30 : Int32))]) (q' := q7) (P := (True) ∧ ((True) ∧ ((True) ∧ (True)))) (by decide +kernel) rfl rfl (And.intro trivial (And.intro trivial (And.intro trivial trivial))) ?_
      refine mm_ok_goto (pt := 35) (d := 4) (by decide +kernel) (by decide) ?_
      exact mm_ok_iret (by decide +kernel)
  · refine mm_ok_bl (l := [(.iconst (0), 1)]) (pc' := 9) (lo' := [some (.ref 8), some (.int a1), none]) (st' := [.int (0 : Int32)]) (q' := q2) (P := (True) ∧ (True)) (by decide +kernel) rfl rfl (And.intro trivial trivial) ?_
    exact mm_ok_iret (by decide +kernel)
