/-! lines, and the text of them: the class's side -/
def tcd (c v : mm_F) (k : mm_F) : mm_F := fun a p z w e t => if c a p z w e t = 0 then k a p z w e t else v a p z w e t
abbrev Ln : Type := Bool × Nat × List Int32 × (mm_F → mm_F)
/-- what stands behind a line's first expression -/
def xl2 (ch : Nat → Int32) (d : Nat) (R : Pr) : Ln := if R.1 = true then (if ch R.2.1 = 63 then (if (EX ch (R.2.1 + 1)).1 = true then (true, (EX ch (R.2.1 + 1)).2.1, R.2.2.1 ++ ([20000 + Int32.ofNat (d + R.2.2.1.length + 1 + (EX ch (R.2.1 + 1)).2.2.1.length + 1)] ++ ((EX ch (R.2.1 + 1)).2.2.1 ++ [-2])), tcd R.2.2.2 (EX ch (R.2.1 + 1)).2.2.2) else (false, (EX ch (R.2.1 + 1)).2.1, [], fun _ => F_0)) else (true, R.2.1, R.2.2.1 ++ [-2], fun _ => R.2.2.2)) else (false, R.2.1, [], fun _ => F_0)
def tli (ch : Nat → Int32) (d i : Nat) : Ln := xl2 ch d (EX ch i)
/-- what stands behind a line -/
def xt2 (ch : Nat → Int32) (N : Nat) (L : Ln) (T : Pr) : Pr := if L.1 = true then (if L.2.1 < N then (if ch L.2.1 = 59 then (if T.1 = true then (true, T.2.1, L.2.2.1 ++ T.2.2.1, L.2.2.2 T.2.2.2) else (false, T.2.1, [], F_0)) else (false, L.2.1, [], F_0)) else (true, L.2.1, L.2.2.1, L.2.2.2 F_0)) else (false, L.2.1, [], F_0)
def ttx (ch : Nat → Int32) (N : Nat) : Nat → Nat → Nat → Pr
  | 0, d, i => (false, i, [], F_0)
  | m + 1, d, i => xt2 ch N (tli ch d i) (ttx ch N m (d + (tli ch d i).2.2.1.length) ((tli ch d i).2.1 + 1))
section KTEXT
variable {B : Nat → Int32} {N : Nat}
theorem kn_patch {d : Nat} {C D : List Int32} {q q' : mm_Q} {y x : Int32} (h : kn d (C ++ ([y] ++ D)) q q') : kn d (C ++ ([x] ++ D)) q (mm_si q' 30 (d + C.length) x) := by
  refine ⟨⟨fr_trans h.1.1 (fr_si _ _ _ (by decide)), fun j a b => ?_⟩, fun k hk => ?_, fun k hk => ?_⟩
  · rw [mm_si_ne _ _ _ _ (by decide)]; exact h.1.2 j a b
  · rw [mm_si_self, upd_ne _ _ _ (by omega)]; exact h.2.1 k hk
  · rw [mm_si_self]
    have hl : (C ++ ([y] ++ D)).length = (C ++ ([x] ++ D)).length := by
      rw [List.length_append, List.length_append, List.length_append, List.length_append]
      rfl
    by_cases c : k = C.length
    · rw [c, upd_self, List.getD_eq_getElem?_getD, List.getElem?_append_right (Nat.le_refl _), Nat.sub_self]
      rfl
    · rw [upd_ne _ _ _ (by omega), h.2.2 k (by rw [hl]; exact hk), List.getD_eq_getElem?_getD, List.getD_eq_getElem?_getD]
      by_cases c2 : k < C.length
      · rw [List.getElem?_append_left c2, List.getElem?_append_left c2]
      · obtain ⟨e, he⟩ : ∃ e, k - C.length = e + 1 := ⟨k - C.length - 1, by omega⟩
        have key : ∀ y : Int32, (C ++ ([y] ++ D))[k]? = D[e]? := by
          intro y
          rw [List.getElem?_append_right (show C.length ≤ k by omega), he]
          rfl
        rw [key, key]
theorem kx_patch {i d j : Nat} {x : Int32} {q : mm_Q} (h : kx B N i d q) : kx B N i d (mm_si q 30 j x) := by
  unfold kx
  rw [mm_si_ne _ _ _ _ (by decide), mm_si_ne _ _ _ _ (by decide)]
  exact h
/-- a line's bounds -/
theorem tli_wf {d i : Nat} (hi : i ≤ N) : (tli (chs B N) d i).2.1 ≤ N ∧ ((tli (chs B N) d i).1 = true → i < (tli (chs B N) d i).2.1 ∧ (tli (chs B N) d i).2.2.1.length + i ≤ (tli (chs B N) d i).2.1 + 1) := by
  have w := EX_wf (B := B) i hi
  unfold tli xl2
  generalize EX (chs B N) i = R at w
  obtain ⟨b, i', C', v'⟩ := R
  have w1 : i' ≤ N := w.1
  cases b with
  | true =>
    have w2 : i < i' ∧ C'.length + i ≤ i' := w.2 rfl
    rw [if_pos (show (true, i', C', v').1 = true from rfl)]
    show (if chs B N i' = 63 then _ else _ : Ln).2.1 ≤ N ∧ ((if chs B N i' = 63 then _ else _ : Ln).1 = true → i < (if chs B N i' = 63 then _ else _ : Ln).2.1 ∧ (if chs B N i' = 63 then _ else _ : Ln).2.2.1.length + i ≤ (if chs B N i' = 63 then _ else _ : Ln).2.1 + 1)
    by_cases c : chs B N i' = 63
    · rw [if_pos c]
      have h2 := chs_in (B := B) (N := N) (i := i') (fun z => by rw [z] at c; exact absurd c (by decide))
      have u := EX_wf (B := B) (i' + 1) h2
      show (if (EX (chs B N) (i' + 1)).1 = true then (true, (EX (chs B N) (i' + 1)).2.1, C' ++ ([20000 + Int32.ofNat (d + C'.length + 1 + (EX (chs B N) (i' + 1)).2.2.1.length + 1)] ++ ((EX (chs B N) (i' + 1)).2.2.1 ++ [-2])), tcd v' (EX (chs B N) (i' + 1)).2.2.2) else (false, (EX (chs B N) (i' + 1)).2.1, [], fun _ => F_0) : Ln).2.1 ≤ N ∧ ((if (EX (chs B N) (i' + 1)).1 = true then (true, (EX (chs B N) (i' + 1)).2.1, C' ++ ([20000 + Int32.ofNat (d + C'.length + 1 + (EX (chs B N) (i' + 1)).2.2.1.length + 1)] ++ ((EX (chs B N) (i' + 1)).2.2.1 ++ [-2])), tcd v' (EX (chs B N) (i' + 1)).2.2.2) else (false, (EX (chs B N) (i' + 1)).2.1, [], fun _ => F_0) : Ln).1 = true → i < (if (EX (chs B N) (i' + 1)).1 = true then (true, (EX (chs B N) (i' + 1)).2.1, C' ++ ([20000 + Int32.ofNat (d + C'.length + 1 + (EX (chs B N) (i' + 1)).2.2.1.length + 1)] ++ ((EX (chs B N) (i' + 1)).2.2.1 ++ [-2])), tcd v' (EX (chs B N) (i' + 1)).2.2.2) else (false, (EX (chs B N) (i' + 1)).2.1, [], fun _ => F_0) : Ln).2.1 ∧ (if (EX (chs B N) (i' + 1)).1 = true then (true, (EX (chs B N) (i' + 1)).2.1, C' ++ ([20000 + Int32.ofNat (d + C'.length + 1 + (EX (chs B N) (i' + 1)).2.2.1.length + 1)] ++ ((EX (chs B N) (i' + 1)).2.2.1 ++ [-2])), tcd v' (EX (chs B N) (i' + 1)).2.2.2) else (false, (EX (chs B N) (i' + 1)).2.1, [], fun _ => F_0) : Ln).2.2.1.length + i ≤ (if (EX (chs B N) (i' + 1)).1 = true then (true, (EX (chs B N) (i' + 1)).2.1, C' ++ ([20000 + Int32.ofNat (d + C'.length + 1 + (EX (chs B N) (i' + 1)).2.2.1.length + 1)] ++ ((EX (chs B N) (i' + 1)).2.2.1 ++ [-2])), tcd v' (EX (chs B N) (i' + 1)).2.2.2) else (false, (EX (chs B N) (i' + 1)).2.1, [], fun _ => F_0) : Ln).2.1 + 1)
      generalize EX (chs B N) (i' + 1) = S at u
      obtain ⟨b2, i2, C2, v2⟩ := S
      have u1 : i2 ≤ N := u.1
      cases b2 with
      | true =>
        have u2 : i' + 1 < i2 ∧ C2.length + (i' + 1) ≤ i2 := u.2 rfl
        rw [if_pos (show (true, i2, C2, v2).1 = true from rfl)]
        refine ⟨u1, fun _ => ⟨show i < i2 by omega, ?_⟩⟩
        rw [List.length_append, List.length_append, List.length_append]
        show C'.length + (1 + (C2.length + 1)) + i ≤ i2 + 1
        omega
      | false =>
        rw [if_neg (show ¬ (false, i2, C2, v2).1 = true from Bool.false_ne_true)]
        exact ⟨u1, fun z => absurd z Bool.false_ne_true⟩
    · rw [if_neg c]
      refine ⟨w1, fun _ => ⟨show i < i' by omega, ?_⟩⟩
      rw [List.length_append]
      show C'.length + 1 + i ≤ i' + 1
      omega
  | false =>
    rw [if_neg (show ¬ (false, i', C', v').1 = true from Bool.false_ne_true)]
    exact ⟨w1, fun z => absurd z Bool.false_ne_true⟩
/-- what a line of the class comes to -/
def kl (B : Nat → Int32) (N d : Nat) (L : Ln) (q : mm_Q) (o : Option (Int32 × mm_Q)) : Prop := (L.1 = true → ∃ q', o = some (1, q') ∧ kx B N L.2.1 (d + L.2.2.1.length) q' ∧ kn d L.2.2.1 q q') ∧ (L.1 = false → ∃ (q' : mm_Q) (d' : Nat), o = some (0, q') ∧ kx B N L.2.1 d' q' ∧ kg q q')
theorem k_line (hN : N ≤ 120) {q : mm_Q} {i d : Nat} (hk : kx B N i d q) (hi : i ≤ N) (hd : d ≤ i) : kl B N d (tli (chs B N) d i) q (x9_isLine q) := by
  unfold x9_isLine tli xl2
  have r := k_EX hN q i d hk hi hd
  have w := EX_wf (B := B) i hi
  generalize EX (chs B N) i = R at r w
  obtain ⟨b, i', C', v'⟩ := R
  cases b with
  | false =>
    obtain ⟨q2, d2, e2, hk2, hn2⟩ := r.2 rfl
    rw [e2, mm_cl_s, if_pos (show (0 : Int32) = 0 from rfl), if_neg (show ¬ (false, i', C', v').1 = true from Bool.false_ne_true)]
    exact ⟨fun z => absurd z Bool.false_ne_true, fun _ => ⟨q2, d2, rfl, hk2, hn2⟩⟩
  | true =>
    obtain ⟨q2, e2, hk2, hn2⟩ := r.1 rfl
    have w1 : i' ≤ N := w.1
    have w2 : i < i' ∧ C'.length + i ≤ i' := w.2 rfl
    have hk2' : kx B N i' (d + C'.length) q2 := hk2
    have hn2' : kn d C' q q2 := hn2
    rw [e2, mm_cl_s, if_neg (show ¬ (1 : Int32) = 0 by decide), if_pos (show (true, i', C', v').1 = true from rfl), k_letter hN hk2 w1, mm_cl_s]
    show kl B N d (if chs B N i' = 63 then (if (EX (chs B N) (i' + 1)).1 = true then (true, (EX (chs B N) (i' + 1)).2.1, C' ++ ([20000 + Int32.ofNat (d + C'.length + 1 + (EX (chs B N) (i' + 1)).2.2.1.length + 1)] ++ ((EX (chs B N) (i' + 1)).2.2.1 ++ [-2])), tcd v' (EX (chs B N) (i' + 1)).2.2.2) else (false, (EX (chs B N) (i' + 1)).2.1, [], fun _ => F_0)) else (true, i', C' ++ [-2], fun _ => v')) q (if chs B N i' = 63 then _ else _)
    by_cases c : chs B N i' = 63
    · rw [if_pos c, if_pos c]
      have h2 := chs_in (B := B) (N := N) (i := i') (fun z => by rw [z] at c; exact absurd c (by decide))
      obtain ⟨q3, e3, hk3, hn3⟩ := k_draw hk2' (show d + C'.length < 200 by omega) 20000
      rw [e3, mm_cl_s, mm_lt_s]
      obtain ⟨hk4, hn4⟩ := k_next hN hk3 w1
      have u := EX_wf (B := B) (i' + 1) h2
      have r5 := k_EX hN _ (i' + 1) _ hk4 h2 (by omega)
      generalize EX (chs B N) (i' + 1) = S at u r5
      obtain ⟨b2, i2, C2, v2⟩ := S
      cases b2 with
      | false =>
        obtain ⟨q5, d5, e5, hk5, hn5⟩ := r5.2 rfl
        rw [e5, mm_cl_s, if_pos (show (0 : Int32) = 0 from rfl), if_neg (show ¬ (false, i2, C2, v2).1 = true from Bool.false_ne_true)]
        exact ⟨fun z => absurd z Bool.false_ne_true, fun _ => ⟨q5, d5, rfl, hk5, kg_trans hn2.1 (kg_trans hn3.1 (kg_trans hn4.1 hn5))⟩⟩
      | true =>
        obtain ⟨q5, e5, hk5, hn5⟩ := r5.1 rfl
        have u1 : i2 ≤ N := u.1
        have u2 : i' + 1 < i2 ∧ C2.length + (i' + 1) ≤ i2 := u.2 rfl
        have hk5' : kx B N i2 (d + C'.length + 1 + C2.length) q5 := hk5
        rw [e5, mm_cl_s, if_neg (show ¬ (1 : Int32) = 0 by decide), if_pos (show (true, i2, C2, v2).1 = true from rfl)]
        unfold x9_isLine_j55
        obtain ⟨q6, e6, hk6, hn6⟩ := k_draw hk5' (show d + C'.length + 1 + C2.length < 200 by omega) (-2)
        have hz := hk2'.2.2.1
        rw [e6, mm_cl_s, if_neg (by rw [lt32, ti0]; omega), if_neg (by rw [le32, ti200]; omega), mm_ck_t (mm_inb_c hz (by omega)), mm_lt_s, mm_tcn hz]
        have ex : q6.1 28 4 = Int32.ofNat (d + C'.length + 1 + C2.length + 1) := mm_ofn hk6.2.2.1
        rw [ex]
        have a1 : kn (d + C'.length) ([20000] ++ (C2 ++ [-2])) q2 q6 := by
          have b1 : kn (d + C'.length + 1) C2 (mm_si q3 28 3 (q3.1 28 3 + 1)) q5 := hn5
          have b2 : kn (d + C'.length + 1) (C2 ++ [-2]) (mm_si q3 28 3 (q3.1 28 3 + 1)) q6 := kn_trans b1 hn6
          have b3 : kn (d + C'.length + 1) ([] ++ (C2 ++ [-2])) q3 q6 := kn_trans hn4 b2
          exact kn_trans hn3 b3
        have a2 : kn d (C' ++ ([20000] ++ (C2 ++ [-2]))) q q6 := kn_trans hn2' a1
        refine ⟨fun _ => ⟨_, rfl, ?_, kn_patch a2⟩, fun z => absurd z.symm Bool.false_ne_true⟩
        have hl : d + (C' ++ ([20000 + Int32.ofNat (d + C'.length + 1 + C2.length + 1)] ++ (C2 ++ [-2]))).length = d + C'.length + 1 + C2.length + 1 := by
          rw [List.length_append, List.length_append, List.length_append]
          show d + (C'.length + (1 + (C2.length + 1))) = _
          omega
        show kx B N i2 (d + (C' ++ ([20000 + Int32.ofNat (d + C'.length + 1 + C2.length + 1)] ++ (C2 ++ [-2]))).length) _
        rw [hl]
        exact kx_patch hk6
    · rw [if_neg c, if_neg c]
      unfold x9_isLine_j55
      obtain ⟨q3, e3, hk3, hn3⟩ := k_draw hk2' (show d + C'.length < 200 by omega) (-2)
      rw [e3, mm_cl_s, if_pos (by decide)]
      refine ⟨fun _ => ⟨_, rfl, ?_, kn_trans hn2' hn3⟩, fun z => absurd z.symm Bool.false_ne_true⟩
      show kx B N i' (d + (C' ++ [-2]).length) q3
      rw [List.length_append]
      exact hk3
theorem k_text (hN : N ≤ 120) : ∀ (m n : Nat) (a1 : Int32) (q : mm_Q) (i d : Nat), m < n → a1.toInt + m = 121 → kx B N i d q → i ≤ N → d ≤ i → ko B N d (ttx (chs B N) N m d i) q (x9_isText_h12 n a1 q)
  | 0, n + 1, a1, q, i, d, _, ha, hk, hi, hd => by
    unfold x9_isText_h12 ttx
    rw [if_pos (show (120 : Int32) < a1 by rw [lt32, ti120]; omega)]
    exact ko_no hk
  | m + 1, n + 1, a1, q, i, d, hm, ha, hk, hi, hd => by
    have hr := mm_rng a1
    have e1 : (a1 + 1).toInt = a1.toInt + 1 := by
      rw [mm_add_ti (by rw [show (1 : Int32).toInt = 1 by decide]; omega) (by rw [show (1 : Int32).toInt = 1 by decide]; omega)]
      rfl
    unfold x9_isText_h12 ttx
    rw [if_neg (show ¬ (120 : Int32) < a1 by rw [lt32, ti120]; omega)]
    have r := k_line hN hk hi hd
    have w := tli_wf (B := B) (d := d) hi
    unfold xt2
    generalize tli (chs B N) d i = L at r w
    obtain ⟨b, i', C', f'⟩ := L
    have w1 : i' ≤ N := w.1
    cases b with
    | false =>
      obtain ⟨q2, d2, e2, hk2, hn2⟩ := r.2 rfl
      rw [e2, mm_cl_s, if_pos (show (0 : Int32) = 0 from rfl), if_neg (show ¬ (false, i', C', f').1 = true from Bool.false_ne_true)]
      exact ⟨fun z => absurd z Bool.false_ne_true, fun _ => ⟨q2, d2, rfl, hk2, hn2⟩⟩
    | true =>
      obtain ⟨q2, e2, hk2, hn2⟩ := r.1 rfl
      have w2 : i < i' ∧ C'.length + i ≤ i' + 1 := w.2 rfl
      have hk2' : kx B N i' (d + C'.length) q2 := hk2
      have hn2' : kn d C' q q2 := hn2
      rw [e2, mm_cl_s, if_neg (show ¬ (1 : Int32) = 0 by decide), if_pos (show (true, i', C', f').1 = true from rfl)]
      by_cases c : i' < N
      · rw [if_pos (show (true, i', C', f').2.1 < N from c), if_pos (show q2.1 28 3 < q2.1 28 2 by rw [lt32, hk2'.2.1, hk2'.1]; omega), k_letter hN hk2' w1, mm_cl_s]
        show ko B N d (if chs B N i' = 59 then (if (ttx (chs B N) N m (d + C'.length) (i' + 1)).1 = true then (true, (ttx (chs B N) N m (d + C'.length) (i' + 1)).2.1, C' ++ (ttx (chs B N) N m (d + C'.length) (i' + 1)).2.2.1, f' (ttx (chs B N) N m (d + C'.length) (i' + 1)).2.2.2) else (false, (ttx (chs B N) N m (d + C'.length) (i' + 1)).2.1, [], F_0)) else (false, i', [], F_0)) q (if chs B N i' = 59 then _ else _)
        by_cases c2 : chs B N i' = 59
        · rw [if_pos c2, if_pos c2, mm_lt_s]
          obtain ⟨hk3, hn3⟩ := k_next hN hk2' w1
          have r5 := k_text hN m n (a1 + 1) _ (i' + 1) _ (by omega) (by omega) hk3 c (by omega)
          generalize ttx (chs B N) N m (d + C'.length) (i' + 1) = T at r5
          obtain ⟨b2, i2, C2, v2⟩ := T
          have r6 := ko_pre hn3 r5
          cases b2 with
          | false =>
            obtain ⟨q5, d5, e5, hk5, hn5⟩ := r6.2 rfl
            rw [e5, if_neg (show ¬ (false, i2, C2, v2).1 = true from Bool.false_ne_true)]
            exact ⟨fun z => absurd z Bool.false_ne_true, fun _ => ⟨q5, d5, rfl, hk5, kg_trans hn2.1 hn5⟩⟩
          | true =>
            obtain ⟨q5, e5, hk5, hn5⟩ := r6.1 rfl
            rw [e5, if_pos (show (true, i2, C2, v2).1 = true from rfl)]
            refine ⟨fun _ => ⟨q5, rfl, ?_, kn_trans hn2' hn5⟩, fun z => absurd z.symm Bool.false_ne_true⟩
            show kx B N i2 (d + (C' ++ C2).length) q5
            rw [List.length_append, ← Nat.add_assoc]
            exact hk5
        · rw [if_neg c2, if_neg c2]
          exact ⟨fun z => absurd z Bool.false_ne_true, fun _ => ⟨q2, _, rfl, hk2, hn2.1⟩⟩
      · rw [if_neg (show ¬ (true, i', C', f').2.1 < N from c), if_neg (show ¬ q2.1 28 3 < q2.1 28 2 by rw [lt32, hk2'.2.1, hk2'.1]; omega)]
        exact ⟨fun _ => ⟨q2, rfl, hk2, hn2⟩, fun z => absurd z.symm Bool.false_ne_true⟩
theorem k_isText (hN : N ≤ 120) {q : mm_Q} (h2 : (q.1 28 2).toInt = N) (hB : ∀ j, j < N → q.1 29 j = B j) : ko B N 0 (ttx (chs B N) N 121 0 0) q (x9_isText q) := by
  unfold x9_isText
  rw [mm_lt_s, mm_lt_s]
  refine ko_pre ⟨⟨fr_trans (fr_si _ _ _ (by decide)) (fr_si _ _ _ (by decide)), fun j a b => ?_⟩, fun k hk => absurd hk (Nat.not_lt_zero k), fun k hk => absurd hk (Nat.not_lt_zero k)⟩ (k_text hN 121 mm_fu 0 (mm_si (mm_si q 28 3 0) 28 4 0) 0 0 (by decide) (by decide) ⟨?_, ?_, ?_, ?_⟩ (Nat.zero_le _) (Nat.le_refl _))
  · rw [mm_si_self, upd_ne _ _ _ b, mm_si_self, upd_ne _ _ _ a]
  · rw [mm_si_self, upd_ne _ _ _ (by decide), mm_si_self, upd_ne _ _ _ (by decide)]; exact h2
  · rw [mm_si_self, upd_ne _ _ _ (by decide), mm_si_self, upd_self]; decide
  · rw [mm_si_self, upd_self]; decide
  · rw [mm_si_ne _ _ _ _ (by decide), mm_si_ne _ _ _ _ (by decide)]; exact hB
end KTEXT
