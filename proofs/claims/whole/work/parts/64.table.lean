/-! the class's table of orders, and the order read off it -/
theorem lb_le (b : Nat → Bool) : ∀ m i, (lb b m i).length ≤ m
  | 0, _ => Nat.le_refl _
  | m + 1, i => by
    have ih := lb_le b m (i + 1)
    show (cond (b i) (i :: lb b m (i + 1)) (lb b m (i + 1))).length ≤ m + 1
    cases b i with
    | true => rw [cond_true, List.length_cons]; omega
    | false => rw [cond_false]; omega
section OT
variable {st : List Nat} {rl : Int32} {w : Nat → Nat → Int32}
/-- stones, and what each brings in its turn -/
def ot (st : List Nat) (rl : Int32) (w : Nat → Nat → Int32) (q : mm_Q) : Prop := oc st rl q ∧ ∀ i, i < st.length → ∀ t, t < st.length → q.1 37 (7 * i + t) = w (st.getD i 0) t
/-- what the table says of an index set -/
def Tm (rl : Int32) (w : Nat → Nat → Int32) (st : List Nat) (l : Nat) : Int32 := Mo rl w (lb l.testBit st.length 0).length (lc9 st st.length l) (st.length - (lb l.testBit st.length 0).length)
theorem worth_eq (h7 : st.length ≤ 7) {q : mm_Q} (h : ot st rl w q) {a1 a2 : Int32} {i t : Nat} (h1 : a1.toInt = i) (h2 : a2.toInt = t) (hi : i < st.length) (ht : t < st.length) : x7_worthOf a1 a2 q = some (w (st.getD i 0) t, q) := by
  have e7 : (a1 * 7 + a2).toInt = ((i * 7 + t : Nat) : Int) := mm_lin (b := 7) (k := 7) (by decide) h1 h2 (by omega)
  unfold x7_worthOf
  rw [if_neg (by rw [lt32, ti0]; omega), if_neg (by rw [le32, show (49 : Int32).toInt = 49 by decide]; omega), mm_ck_t (mm_inb_c e7 (by omega)), mm_tcn e7, show i * 7 + t = 7 * i + t by omega, h.2 i hi t ht]
theorem most_eq {q : mm_Q} {a : Int32} {l : Nat} (h : a.toInt = l) (hl : l < 128) : x7_mostOf a q = some (q.1 38 l, q) := by
  unfold x7_mostOf
  rw [if_neg (by rw [lt32, ti0]; omega), if_neg (by rw [le32, show (128 : Int32).toInt = 128 by decide]; omega), mm_ck_t (mm_inb_c h hl), mm_tcn h]
theorem tog7_eq {q : mm_Q} (h : ot st rl w q) (a b : Int32) : x7_together a b q = some (tg rl a b, q) := by
  unfold x7_together tg
  rw [h.1.2.1, mm_some_ite]
theorem bit7_n {l i : Nat} (hl : l < 128) (hi : i < 9) {a : Int32} (ha : a.toInt = i) : ((Int32.ofNat l >>> (a &&& 31)) &&& 1 = 0) ↔ l.testBit i = false := by
  have b := bit9 l (by omega) i hi
  rw [bit_0, mm_ofn ha, b]
  cases l.testBit i <;> simp
theorem h66_h (h7 : st.length ≤ 7) {q : mm_Q} (h : ot st rl w q) {l t : Nat} (hl : l < 128) (ht : t < st.length ∨ lb l.testBit st.length 0 = []) (rr : Int32 → mm_Q → Option (Unit × mm_Q)) {f : Nat} : ∀ (m i : Nat) (a7 a8 : Int32), a8.toInt = i → i + m = st.length → x7_weighOrders_h66 rr (f + m + 1) (Int32.ofNat l) (Int32.ofNat t) a7 a8 q = rr (Int32.ofNat l + 1) (mm_si q 38 l (mf (fun j => tg rl (w (st.getD j 0) t) (q.1 38 (l ^^^ 2 ^ j))) (lb l.testBit m i) a7)) := by
  have el : (Int32.ofNat l).toInt = ((l : Nat) : Int) := mm_ofNat_ti (by omega)
  intro m
  induction m with
  | zero =>
    intro i a7 a8 e1 e2
    rw [x7_weighOrders_h66, if_pos (by rw [le32, h.1.1]; omega), mm_ck_t (mm_inb_c el hl), mm_lt_s, mm_tcn el]
    rfl
  | succ m ih =>
    intro i a7 a8 e1 e2
    have eL : lb l.testBit (m + 1) i = cond (l.testBit i) (i :: lb l.testBit m (i + 1)) (lb l.testBit m (i + 1)) := rfl
    have b7 := bit7_n (l := l) hl (show i < 9 by omega) e1
    rw [show f + (m + 1) + 1 = (f + m + 1) + 1 by omega, x7_weighOrders_h66, if_neg (by rw [le32, h.1.1]; omega), eL]
    unfold x7_weighOrders_j115
    cases hb : l.testBit i with
    | true =>
      obtain ⟨x1, x2⟩ := bit7_x l hl i (by omega) hb
      have tt : t < st.length := by
        rcases ht with ht | ht
        · exact ht
        · have : i ∈ lb l.testBit st.length 0 := (mem_lb st.length 0).mpr ⟨by omega, by omega, hb⟩
          rw [ht] at this
          exact absurd this (List.not_mem_nil)
      have et : (Int32.ofNat t).toInt = ((t : Nat) : Int) := mm_ofNat_ti (by omega)
      have ex : (Int32.ofNat (l ^^^ 2 ^ i)).toInt = ((l ^^^ 2 ^ i : Nat) : Int) := mm_ofNat_ti (by omega)
      have w1 : Int32.ofNat l ^^^ ((1 : Int32) <<< (a8 &&& 31)) = Int32.ofNat (l ^^^ 2 ^ i) := by rw [mm_ofn e1]; exact x1
      rw [cond_true, if_neg (fun z => by rw [b7.mp z] at hb; exact absurd hb (by decide)), worth_eq h7 h e1 et (by omega) tt, mm_cl_s, w1, most_eq ex (by omega), mm_cl_s, tog7_eq h, mm_cl_s]
      exact ih (i + 1) _ (a8 + 1) (mm_inc1 e1 (by omega)) (by omega)
    | false =>
      rw [cond_false, if_pos (b7.mpr hb)]
      exact ih (i + 1) a7 (a8 + 1) (mm_inc1 e1 (by omega)) (by omega)
theorem Tm_s (hs : ∀ x, x < st.length → ∀ y, y < x → st.getD y 0 < st.getD x 0) {T : Nat → Int32} {l : Nat} (h7 : st.length ≤ 7) (hl : l < 128) (hT : ∀ l', l' < l → T l' = Tm rl w st l') : mf (fun j => tg rl (w (st.getD j 0) (st.length - (lb l.testBit st.length 0).length)) (T (l ^^^ 2 ^ j))) (lb l.testBit st.length 0) 0 = Tm rl w st l := by
  unfold Tm
  generalize hn : (lb l.testBit st.length 0).length = n
  cases n with
  | zero =>
    rw [List.eq_nil_of_length_eq_zero hn]
    rfl
  | succ n =>
    have le := lb_le l.testBit st.length 0
    show _ = mf (fun x => tg rl (w x (st.length - (n + 1))) (Mo rl w n (rm x (lc9 st st.length l)) (st.length - (n + 1) + 1))) ((lb l.testBit st.length 0).map (fun j => st.getD j 0)) 0
    rw [mf_map]
    refine mf_congr _ _ (fun i hi => ?_)
    obtain ⟨-, i2, i3⟩ := (mem_lb st.length 0).mp hi
    have x := bit7_x l hl i (by omega) i3
    have pc := pc_x (k := st.length) (show i < st.length by omega) i3
    rw [hT _ x.2, lc9_rm rfl hs (by omega) i3]
    unfold Tm
    rw [show (lb (l ^^^ 2 ^ i).testBit st.length 0).length = n by omega, show st.length - (n + 1) + 1 = st.length - n by omega]
theorem h27_h (h7 : st.length ≤ 7) (hs : ∀ x, x < st.length → ∀ y, y < x → st.getD y 0 < st.getD x 0) {f : Nat} : ∀ (m l : Nat) (q : mm_Q), 1 ≤ l → l + m = 2 ^ st.length → ot st rl w q → (∀ l', l' < l → q.1 38 l' = Tm rl w st l') → ∃ q', x7_weighOrders_h27 (f + m + 1) (Int32.ofNat l) q = some ((), q') ∧ fr [38] q q' ∧ ∀ l', l' < 2 ^ st.length → q'.1 38 l' = Tm rl w st l' := by
  have sh := shl7 st.length h7
  intro m
  induction m with
  | zero =>
    intro l q h1 h2 h hT
    have el : (Int32.ofNat l).toInt = ((l : Nat) : Int) := mm_ofNat_ti (by omega)
    refine ⟨q, ?_, fr_rfl _ _, fun l' hl => hT l' (by omega)⟩
    rw [x7_weighOrders_h27, mm_ofn h.1.1, if_pos (by rw [le32]; omega)]
  | succ m ih =>
    intro l q h1 h2 h hT
    have el : (Int32.ofNat l).toInt = ((l : Nat) : Int) := mm_ofNat_ti (by omega)
    have le := lb_le l.testBit st.length 0
    have et : q.1 35 5 - Int32.ofNat (lb l.testBit st.length 0).length = Int32.ofNat (st.length - (lb l.testBit st.length 0).length) := by
      have e1 : (Int32.ofNat (lb l.testBit st.length 0).length).toInt = (((lb l.testBit st.length 0).length : Nat) : Int) := mm_ofNat_ti (by omega)
      have := h.1.1
      refine mm_ofn ?_
      rw [mm_sub_ti (by omega) (by omega)]
      omega
    have bc := bc7 st.length h7 l (by omega) (by omega)
    have key := h66_h h7 h (l := l) (t := st.length - (lb l.testBit st.length 0).length) (by omega) (by
      by_cases z : lb l.testBit st.length 0 = []
      · exact Or.inr z
      · have : 0 < (lb l.testBit st.length 0).length := List.length_pos_iff.mpr z
        exact Or.inl (by omega)) (x7_weighOrders_h27 (f + m + 1)) (f := 999 - st.length) st.length 0 0 0 ti0 (by omega)
    rw [show 999 - st.length + st.length + 1 = mm_fu by show _ = 1000; omega, Tm_s hs h7 (by omega) hT, ofn_s (by omega)] at key
    have h' : ot st rl w (mm_si q 38 l (Tm rl w st l)) := h
    obtain ⟨q2, z1, z2, z3⟩ := ih (l + 1) (mm_si q 38 l (Tm rl w st l)) (by omega) (by omega) h' (fun l' hl => by
      rw [mm_si_self]
      by_cases e : l' = l
      · rw [e, upd_self]
      · rw [upd_ne _ _ _ e]
        exact hT l' (by omega))
    refine ⟨q2, ?_, fr_trans (fr_si _ _ _ (by decide)) z2, z3⟩
    have big : ¬ (1 : Int32) <<< (q.1 35 5 &&& 31) ≤ Int32.ofNat l := by rw [mm_ofn h.1.1, le32]; omega
    rw [show f + (m + 1) + 1 = (f + m + 1) + 1 by omega, x7_weighOrders_h27, if_neg big, if_neg (by rw [le32, show (128 : Int32).toInt = 128 by decide]; omega), bc_eq, mm_cl_s, bc, et, key]
    exact z1
theorem leaststone_h (h7 : st.length ≤ 7) {q : mm_Q} (h : ot st rl w q) {l t : Nat} (hl : l < 128) (ht : t < st.length) {had G : Int32} {f : Nat} : ∀ (m i : Nat) (a5 : Int32), a5.toInt = i → i + m = st.length → (∃ j, j ∈ lb l.testBit m i ∧ tg rl (tg rl had (w (st.getD j 0) t)) (q.1 38 (l ^^^ 2 ^ j)) = G) → x7_leastStone_h3 (f + m + 1) (Int32.ofNat l) (Int32.ofNat t) had G a5 q = some (Int32.ofNat (fst1 (fun j => tg rl (tg rl had (w (st.getD j 0) t)) (q.1 38 (l ^^^ 2 ^ j))) G (lb l.testBit m i)), q) := by
  have et : (Int32.ofNat t).toInt = ((t : Nat) : Int) := mm_ofNat_ti (by omega)
  intro m
  induction m with
  | zero =>
    intro i a5 e1 e2 hj
    obtain ⟨j, hj, -⟩ := hj
    exact absurd hj (List.not_mem_nil)
  | succ m ih =>
    intro i a5 e1 e2 hj
    have eL : lb l.testBit (m + 1) i = cond (l.testBit i) (i :: lb l.testBit m (i + 1)) (lb l.testBit m (i + 1)) := rfl
    have b7 := bit7_n (l := l) hl (show i < 9 by omega) e1
    rw [show f + (m + 1) + 1 = (f + m + 1) + 1 by omega, x7_leastStone_h3, if_neg (by rw [le32, h.1.1]; omega)]
    rw [eL] at hj ⊢
    unfold x7_leastStone_j59
    cases hb : l.testBit i with
    | true =>
      rw [hb, cond_true] at hj
      obtain ⟨x1, x2⟩ := bit7_x l hl i (by omega) hb
      have ex : (Int32.ofNat (l ^^^ 2 ^ i)).toInt = ((l ^^^ 2 ^ i : Nat) : Int) := mm_ofNat_ti (by omega)
      have w1 : Int32.ofNat l ^^^ ((1 : Int32) <<< (a5 &&& 31)) = Int32.ofNat (l ^^^ 2 ^ i) := by rw [mm_ofn e1]; exact x1
      rw [cond_true, if_neg (fun z => by rw [b7.mp z] at hb; exact absurd hb (by decide)), worth_eq h7 h e1 et (by omega) ht, mm_cl_s, tog7_eq h, mm_cl_s, w1, most_eq ex (by omega), mm_cl_s, tog7_eq h, mm_cl_s]
      show _ = some (Int32.ofNat (if tg rl (tg rl had (w (st.getD i 0) t)) (q.1 38 (l ^^^ 2 ^ i)) = G then i else fst1 _ G (lb l.testBit m (i + 1))), q)
      by_cases c : tg rl (tg rl had (w (st.getD i 0) t)) (q.1 38 (l ^^^ 2 ^ i)) = G
      · rw [if_pos c, if_pos c, mm_ofn e1]
      · rw [if_neg c, if_neg c]
        obtain ⟨j, hj1, hj2⟩ := hj
        refine ih (i + 1) (a5 + 1) (mm_inc1 e1 (by omega)) (by omega) ?_
        rcases List.mem_cons.mp hj1 with z | z
        · rw [z] at hj2
          exact absurd hj2 c
        · exact ⟨j, z, hj2⟩
    | false =>
      rw [hb, cond_false] at hj
      rw [cond_false, if_pos (b7.mpr hb)]
      exact ih (i + 1) (a5 + 1) (mm_inc1 e1 (by omega)) (by omega) hj
/-- the class reads the order off -/
theorem stone_h (hw : ∀ x t, 0 ≤ (w x t).toInt ∧ (w x t).toInt ≤ 129) (h7 : st.length ≤ 7) (hs : ∀ x, x < st.length → ∀ y, y < x → st.getD y 0 < st.getD x 0) (hst : ∀ j, j < st.length → st.getD j 0 < 9) {q : mm_Q} (h : ot st rl w q) (hT : ∀ l', l' < 2 ^ st.length → q.1 38 l' = Tm rl w st l') {a1 G : Int32} {i : Nat} (e1 : a1.toInt = i) (hi : i < st.length) {f : Nat} : ∀ (n l t : Nat) (had a5 : Int32), l < 2 ^ st.length → (lb l.testBit st.length 0).length = n + 1 → t + (n + 1) = st.length → t ≤ i → 0 ≤ had.toInt → had.toInt ≤ 129 * t → tg rl had (Mo rl w (n + 1) (lc9 st st.length l) t) = G → x7_stoneInOrder_h24 (f + n + 2) a1 (Int32.ofNat l) G had a5 (Int32.ofNat t) q = some (Int32.ofNat ((gr rl w (n + 1) (lc9 st st.length l) t had G).getD (i - t) 0), q) := by
  have sh := shl7 st.length h7
  intro n
  induction n with
  | zero =>
    intro l t had a5 hl hn htn hti h0 h1 hG
    have e := htn
    have et : (Int32.ofNat t).toInt = ((t : Nat) : Int) := mm_ofNat_ti (by omega)
    have ll : l < 128 := by omega
    obtain ⟨v1, x, v2, v3⟩ := V_eq (rl := rl) hw (n := 0) (by omega) (h := had) ⟨h0, by omega⟩ (l := lc9 st st.length l) (by
      intro z
      have := congrArg List.length z
      unfold lc9 at this
      rw [List.length_map, hn] at this
      exact absurd this (by decide)) t
    rw [hG] at v3
    have key : ∀ j, j ∈ lb l.testBit st.length 0 → tg rl (tg rl had (w (st.getD j 0) t)) (q.1 38 (l ^^^ 2 ^ j)) = Vx rl w 0 (lc9 st st.length l) t had (st.getD j 0) := by
      intro j hj
      obtain ⟨-, j2, j3⟩ := (mem_lb st.length 0).mp hj
      have x7 := bit7_x l ll j (by omega) j3
      have pc := pc_x (k := st.length) (show j < st.length by omega) j3
      unfold Vx
      rw [hT _ (by omega), lc9_rm rfl hs (by omega) j3]
      unfold Tm
      rw [show (lb (l ^^^ 2 ^ j).testBit st.length 0).length = 0 by omega, show st.length - 0 = t + 1 by omega]
    have ex : ∃ j, j ∈ lb l.testBit st.length 0 ∧ tg rl (tg rl had (w (st.getD j 0) t)) (q.1 38 (l ^^^ 2 ^ j)) = G := by
      unfold lc9 at v2
      obtain ⟨j, j1, j2⟩ := List.mem_map.mp v2
      exact ⟨j, j1, by rw [key j j1, j2]; exact v3.symm⟩
    have ls := leaststone_h h7 h ll (show t < st.length by omega) (had := had) (G := G) (f := 999 - st.length) st.length 0 0 ti0 (by omega) ex
    rw [show 999 - st.length + st.length + 1 = mm_fu by show _ = 1000; omega] at ls
    obtain ⟨fm, fv⟩ := fst1_mem (f := fun j => tg rl (tg rl had (w (st.getD j 0) t)) (q.1 38 (l ^^^ 2 ^ j))) (g := G) _ ex
    generalize hj : fst1 (fun j => tg rl (tg rl had (w (st.getD j 0) t)) (q.1 38 (l ^^^ 2 ^ j))) G (lb l.testBit st.length 0) = j at ls fm fv
    obtain ⟨-, j2, j3⟩ := (mem_lb st.length 0).mp fm
    have ej : (Int32.ofNat j).toInt = ((j : Nat) : Int) := mm_ofNat_ti (by omega)
    have gj : fst1 (Vx rl w 0 (lc9 st st.length l) t had) G (lc9 st st.length l) = st.getD j 0 := by
      have e2 : (∃ x, x ∈ lb l.testBit st.length 0 ∧ Vx rl w 0 (lc9 st st.length l) t had (st.getD x 0) = G) := ⟨j, fm, by rw [← key j fm]; exact fv⟩
      have := fst1_map (Vx rl w 0 (lc9 st st.length l) t had) (fun j => st.getD j 0) G (lb l.testBit st.length 0) e2
      show fst1 _ G ((lb l.testBit st.length 0).map (fun j => st.getD j 0)) = _
      rw [this, ← hj]
      congr 1
      have cg : ∀ (L : List Nat), (∀ y, y ∈ L → y ∈ lb l.testBit st.length 0) → fst1 (fun x => Vx rl w 0 (lc9 st st.length l) t had (st.getD x 0)) G L = fst1 (fun j => tg rl (tg rl had (w (st.getD j 0) t)) (q.1 38 (l ^^^ 2 ^ j))) G L := by
        intro L
        induction L with
        | nil => intro _; rfl
        | cons y L ihL =>
          intro hL
          show (if Vx rl w 0 (lc9 st st.length l) t had (st.getD y 0) = G then y else _) = (if tg rl (tg rl had (w (st.getD y 0) t)) (q.1 38 (l ^^^ 2 ^ y)) = G then y else _)
          rw [key y (hL y List.mem_cons_self), ihL (fun z hz => hL z (List.mem_cons_of_mem _ hz))]
      exact cg _ (fun y hy => hy)
    have egr : gr rl w 1 (lc9 st st.length l) t had G = [st.getD j 0] := by
      show fst1 (Vx rl w 0 (lc9 st st.length l) t had) G (lc9 st st.length l) :: [] = _
      rw [gj]
    have ii : i = t := by omega
    rw [show f + 0 + 2 = (f + 1) + 1 from rfl, x7_stoneInOrder_h24, if_neg (by rw [lt32]; omega), if_neg (by rw [le32, h.1.1]; omega)]
    unfold x7_leastStone
    rw [ls, mm_cl_s, worth_eq h7 h ej et (by omega) (by omega), mm_cl_s, tog7_eq h, mm_cl_s, ofn_s (by omega), x7_stoneInOrder_h24, if_pos (by rw [lt32, mm_ofNat_ti (by omega)]; omega)]
    unfold x7_stoneInOrder_j80
    rw [if_neg (by rw [lt32, ti0]; omega), if_neg (by rw [le32, ti7]; omega), mm_ck_t (mm_inb_c ej (by omega)), mm_tcn ej, h.1.2.2 j (by omega), egr, show i - t = 0 by omega]
    rfl
  | succ n ih =>
    intro l t had a5 hl hn htn hti h0 h1 hG
    have et : (Int32.ofNat t).toInt = ((t : Nat) : Int) := mm_ofNat_ti (by omega)
    have ll : l < 128 := by omega
    obtain ⟨v1, x, v2, v3⟩ := V_eq (rl := rl) hw (n := n + 1) (by omega) (h := had) ⟨h0, by omega⟩ (l := lc9 st st.length l) (by
      intro z
      have := congrArg List.length z
      unfold lc9 at this
      rw [List.length_map, hn] at this
      exact absurd this (by simp)) t
    rw [hG] at v3
    have key : ∀ j, j ∈ lb l.testBit st.length 0 → tg rl (tg rl had (w (st.getD j 0) t)) (q.1 38 (l ^^^ 2 ^ j)) = Vx rl w (n + 1) (lc9 st st.length l) t had (st.getD j 0) := by
      intro j hj
      obtain ⟨-, j2, j3⟩ := (mem_lb st.length 0).mp hj
      have x7 := bit7_x l ll j (by omega) j3
      have pc := pc_x (k := st.length) (show j < st.length by omega) j3
      unfold Vx
      rw [hT _ (by omega), lc9_rm rfl hs (by omega) j3]
      unfold Tm
      rw [show (lb (l ^^^ 2 ^ j).testBit st.length 0).length = n + 1 by omega, show st.length - (n + 1) = t + 1 by omega]
    have ex : ∃ j, j ∈ lb l.testBit st.length 0 ∧ tg rl (tg rl had (w (st.getD j 0) t)) (q.1 38 (l ^^^ 2 ^ j)) = G := by
      unfold lc9 at v2
      obtain ⟨j, j1, j2⟩ := List.mem_map.mp v2
      exact ⟨j, j1, by rw [key j j1, j2]; exact v3.symm⟩
    have ls := leaststone_h h7 h ll (show t < st.length by omega) (had := had) (G := G) (f := 999 - st.length) st.length 0 0 ti0 (by omega) ex
    rw [show 999 - st.length + st.length + 1 = mm_fu by show _ = 1000; omega] at ls
    obtain ⟨fm, fv⟩ := fst1_mem (f := fun j => tg rl (tg rl had (w (st.getD j 0) t)) (q.1 38 (l ^^^ 2 ^ j))) (g := G) _ ex
    generalize hj : fst1 (fun j => tg rl (tg rl had (w (st.getD j 0) t)) (q.1 38 (l ^^^ 2 ^ j))) G (lb l.testBit st.length 0) = j at ls fm fv
    obtain ⟨-, j2, j3⟩ := (mem_lb st.length 0).mp fm
    have ej : (Int32.ofNat j).toInt = ((j : Nat) : Int) := mm_ofNat_ti (by omega)
    have gj : fst1 (Vx rl w (n + 1) (lc9 st st.length l) t had) G (lc9 st st.length l) = st.getD j 0 := by
      have e2 : (∃ x, x ∈ lb l.testBit st.length 0 ∧ Vx rl w (n + 1) (lc9 st st.length l) t had (st.getD x 0) = G) := ⟨j, fm, by rw [← key j fm]; exact fv⟩
      have := fst1_map (Vx rl w (n + 1) (lc9 st st.length l) t had) (fun j => st.getD j 0) G (lb l.testBit st.length 0) e2
      show fst1 _ G ((lb l.testBit st.length 0).map (fun j => st.getD j 0)) = _
      rw [this, ← hj]
      congr 1
      have cg : ∀ (L : List Nat), (∀ y, y ∈ L → y ∈ lb l.testBit st.length 0) → fst1 (fun x => Vx rl w (n + 1) (lc9 st st.length l) t had (st.getD x 0)) G L = fst1 (fun j => tg rl (tg rl had (w (st.getD j 0) t)) (q.1 38 (l ^^^ 2 ^ j))) G L := by
        intro L
        induction L with
        | nil => intro _; rfl
        | cons y L ihL =>
          intro hL
          show (if Vx rl w (n + 1) (lc9 st st.length l) t had (st.getD y 0) = G then y else _) = (if tg rl (tg rl had (w (st.getD y 0) t)) (q.1 38 (l ^^^ 2 ^ y)) = G then y else _)
          rw [key y (hL y List.mem_cons_self), ihL (fun z hz => hL z (List.mem_cons_of_mem _ hz))]
      exact cg _ (fun y hy => hy)
    have x7 := bit7_x l ll j (by omega) j3
    have egr : gr rl w (n + 1 + 1) (lc9 st st.length l) t had G = st.getD j 0 :: gr rl w (n + 1) (lc9 st st.length (l ^^^ 2 ^ j)) (t + 1) (tg rl had (w (st.getD j 0) t)) G := by
      show fst1 (Vx rl w (n + 1) (lc9 st st.length l) t had) G (lc9 st st.length l) :: gr rl w (n + 1) (rm (fst1 (Vx rl w (n + 1) (lc9 st st.length l) t had) G (lc9 st st.length l)) (lc9 st st.length l)) (t + 1) (tg rl had (w (fst1 (Vx rl w (n + 1) (lc9 st st.length l) t had) G (lc9 st st.length l)) t)) G = _
      rw [gj, lc9_rm rfl hs (by omega) j3]
    have hge := tg_ge (a := had) ⟨h0, by omega⟩ (hw (st.getD j 0) t) rl
    have sx : Int32.ofNat l ^^^ ((1 : Int32) <<< (Int32.ofNat j &&& 31)) = Int32.ofNat (l ^^^ 2 ^ j) := x7.1
    rw [show f + (n + 1) + 2 = (f + n + 2) + 1 by omega, x7_stoneInOrder_h24, if_neg (by rw [lt32]; omega), if_neg (by rw [le32, h.1.1]; omega)]
    unfold x7_leastStone
    rw [ls, mm_cl_s, worth_eq h7 h ej et (by omega) (by omega), mm_cl_s, tog7_eq h, mm_cl_s, sx, ofn_s (by omega), egr]
    by_cases c : i = t
    · rw [show f + n + 2 = (f + n + 1) + 1 by omega, x7_stoneInOrder_h24, if_pos (by rw [lt32, mm_ofNat_ti (by omega)]; omega)]
      unfold x7_stoneInOrder_j80
      rw [if_neg (by rw [lt32, ti0]; omega), if_neg (by rw [le32, ti7]; omega), mm_ck_t (mm_inb_c ej (by omega)), mm_tcn ej, h.1.2.2 j (by omega), show i - t = 0 by omega]
      rfl
    · have pc := pc_x (k := st.length) (show j < st.length by omega) j3
      rw [ih (l ^^^ 2 ^ j) (t + 1) (tg rl had (w (st.getD j 0) t)) (Int32.ofNat j) (by omega) (by omega) (by omega) (by omega) (by omega) (by omega) (by
        have k2 := key j fm
        have k3 : tg rl (tg rl had (w (st.getD j 0) t)) (q.1 38 (l ^^^ 2 ^ j)) = G := fv
        rw [k3] at k2
        rw [k2]
        unfold Vx
        rw [lc9_rm rfl hs (by omega) j3])]
      rw [show i - t = (i - (t + 1)) + 1 by omega, List.getD_cons_succ]
end OT
