/-! sets of stones as lists; the class's orders -/
theorem y_getD {l : List Nat} {i : Nat} (h : i < l.length) : l.getD i 0 = l[i] := by
  rw [List.getD_eq_getElem?_getD, List.getElem?_eq_getElem h]
  rfl
theorem tb_xor {s i : Nat} (h : s.testBit i = true) (j : Nat) : (s ^^^ 2 ^ i).testBit j = (s.testBit j && j != i) := by
  rw [Nat.testBit_xor, Nat.testBit_two_pow]
  by_cases e : i = j
  · subst e
    rw [h]
    simp
  · have : (j != i) = true := by simp; omega
    rw [this, Bool.and_true, decide_eq_false e, Bool.xor_false]
theorem bit9 : ∀ s, s < 512 → ∀ z, z < 9 → (((Int32.ofNat s >>> (Int32.ofNat z &&& 31)) &&& 1 = 1) ↔ s.testBit z = true) := by decide +kernel
theorem bit7_x : ∀ l, l < 128 → ∀ i, i < 7 → l.testBit i = true → Int32.ofNat l ^^^ ((1 : Int32) <<< (Int32.ofNat i &&& 31)) = Int32.ofNat (l ^^^ 2 ^ i) ∧ l ^^^ 2 ^ i < l := by decide +kernel
theorem bit9_x : ∀ s, s < 512 → ∀ z, z < 9 → s.testBit z = true → Int32.ofNat s &&& (((1 : Int32) <<< (Int32.ofNat z &&& 31)) ^^^ Int32.ofInt (-1)) = Int32.ofNat (s ^^^ 2 ^ z) ∧ s ^^^ 2 ^ z < 512 := by decide +kernel
def bcv (a : Int32) : Int32 := match j_bitCount_0f7a4 a (fun _ _ => 0, fun _ _ => 0) with
  | some (r, _) => r
  | none => 0
theorem bc_eq (a : Int32) (q : mm_Q) : j_bitCount_0f7a4 a q = some (bcv a, q) := rfl
theorem bc9 : ∀ s, s < 512 → bcv (Int32.ofNat s) = Int32.ofNat (lb s.testBit 9 0).length := by decide +kernel
theorem bc7 : ∀ k, k ≤ 7 → ∀ l, l < 128 → l < 2 ^ k → bcv (Int32.ofNat l) = Int32.ofNat (lb l.testBit k 0).length := by decide +kernel
theorem shl7 : ∀ k, k ≤ 7 → ((1 : Int32) <<< (Int32.ofNat k &&& 31)).toInt = ((2 ^ k : Nat) : Int) ∧ 2 ^ k ≤ 128 ∧ 0 < 2 ^ k := by decide
theorem lb_sorted {b : Nat → Bool} : ∀ m i, ∀ x, x < (lb b m i).length → i ≤ (lb b m i).getD x 0 ∧ (lb b m i).getD x 0 < i + m ∧ ∀ y, y < x → (lb b m i).getD y 0 < (lb b m i).getD x 0
  | 0, i, x, h => absurd h (Nat.not_lt_zero x)
  | m + 1, i, x, h => by
    have ih := lb_sorted (b := b) m (i + 1)
    have e : lb b (m + 1) i = cond (b i) (i :: lb b m (i + 1)) (lb b m (i + 1)) := rfl
    rw [e] at h ⊢
    cases hb : b i with
    | true =>
      rw [hb, cond_true] at h
      rw [cond_true]
      cases x with
      | zero => exact ⟨Nat.le_refl _, by show i < _; omega, fun y hy => absurd hy (Nat.not_lt_zero y)⟩
      | succ x =>
        have hx : x < (lb b m (i + 1)).length := by
          rw [List.length_cons] at h
          omega
        have a := ih x hx
        rw [List.getD_cons_succ]
        refine ⟨by omega, by omega, fun y hy => ?_⟩
        cases y with
        | zero =>
          rw [List.getD_cons_zero]
          omega
        | succ y =>
          rw [List.getD_cons_succ]
          exact a.2.2 y (by omega)
    | false =>
      rw [hb, cond_false] at h
      rw [cond_false]
      have a := ih x h
      exact ⟨by omega, by omega, a.2.2⟩
theorem lb_all (l : List Nat) : ∀ m i, i + m = l.length → (lb (fun _ => true) m i).map (fun j => l.getD j 0) = l.drop i
  | 0, i, h => by
    rw [List.drop_eq_nil_of_le (by omega)]
    rfl
  | m + 1, i, h => by
    show (l.getD i 0) :: (lb (fun _ => true) m (i + 1)).map (fun j => l.getD j 0) = l.drop i
    rw [lb_all l m (i + 1) (by omega), List.drop_eq_getElem_cons (show i < l.length by omega)]
    rw [y_getD (show i < l.length by omega)]
theorem mf_map (f : Nat → Int32) (g : Nat → Nat) : ∀ (l : List Nat) (a : Int32), mf f (l.map g) a = mf (fun x => f (g x)) l a
  | [], _ => rfl
  | x :: l, a => mf_map f g l (mm_max a (f (g x)))
theorem rm_map {g : Nat → Nat} {x : Nat} : ∀ (l : List Nat), (∀ y, y ∈ l → g y = g x → y = x) → rm (g x) (l.map g) = (rm x l).map g
  | [], _ => rfl
  | y :: l, h => by
    rw [List.map_cons, rm_cons, rm_cons, rm_map l (fun z hz => h z (List.mem_cons_of_mem _ hz))]
    by_cases e : y = x
    · rw [if_pos e, if_pos (by rw [e])]
    · rw [if_neg e, if_neg (fun w => e (h y List.mem_cons_self w)), List.map_cons]
theorem fst1_map (f : Nat → Int32) (g : Nat → Nat) (v : Int32) : ∀ (l : List Nat), (∃ x, x ∈ l ∧ f (g x) = v) → fst1 f v (l.map g) = g (fst1 (fun x => f (g x)) v l)
  | [], h => by
    obtain ⟨x, hx, -⟩ := h
    exact absurd hx (List.not_mem_nil)
  | y :: l, h => by
    show (if f (g y) = v then g y else fst1 f v (l.map g)) = g (if f (g y) = v then y else fst1 (fun x => f (g x)) v l)
    by_cases c : f (g y) = v
    · rw [if_pos c, if_pos c]
    · rw [if_neg c, if_neg c]
      obtain ⟨x, hx, e⟩ := h
      exact fst1_map f g v l (by
        rcases List.mem_cons.mp hx with z | z
        · rw [z] at e
          exact absurd e c
        · exact ⟨x, z, e⟩)
/-- the stones of an index set -/
def lc9 (st : List Nat) (k l : Nat) : List Nat := (lb l.testBit k 0).map (fun j => st.getD j 0)
theorem lc9_rm {st : List Nat} {k l i : Nat} (hk : k = st.length) (hs : ∀ x, x < st.length → ∀ y, y < x → st.getD y 0 < st.getD x 0) (hi : i < k) (hb : l.testBit i = true) : rm (st.getD i 0) (lc9 st k l) = lc9 st k (l ^^^ 2 ^ i) := by
  unfold lc9
  rw [rm_map (g := fun j => st.getD j 0) (x := i) (lb l.testBit k 0) (fun y hy e => ?_), lb_rm k 0 (fun j _ _ => tb_xor hb j)]
  have hy2 := (mem_lb k 0).mp hy
  rcases (show y = i ∨ y < i ∨ i < y by omega) with z | z | z
  · exact z
  · have := hs i (by omega) y z
    omega
  · have := hs y (by omega) i z
    omega
theorem pc_x {k l i : Nat} (hi : i < k) (hb : l.testBit i = true) : (lb l.testBit k 0).length = (lb (l ^^^ 2 ^ i).testBit k 0).length + 1 := lb_len k 0 (fun j _ _ => tb_xor hb j) (by omega) (by omega) hb
section OC
variable {F : mm_F} {c : Nat → Int32} {sp : Int32} {p S : Nat}
theorem gst_h (hS : S < 512) {f : Nat} : ∀ (m z : Nat) (a2 : Int32) (P : List Nat) (q : mm_Q), a2.toInt = z → z + m = 9 → (P ++ lb S.testBit m z).length ≤ 7 → (q.1 35 5).toInt = P.length → (∀ j, j < P.length → q.1 36 j = Int32.ofNat (P.getD j 0)) → ∃ q', x7_gatherStones_h7 (f + m + 1) (Int32.ofNat S) a2 q = some ((), q') ∧ fr [35, 36] q q' ∧ (q'.1 35 5).toInt = (P ++ lb S.testBit m z).length ∧ q'.1 35 6 = q.1 35 6 ∧ ∀ j, j < (P ++ lb S.testBit m z).length → q'.1 36 j = Int32.ofNat ((P ++ lb S.testBit m z).getD j 0) := by
  intro m
  induction m with
  | zero =>
    intro z a2 P q e1 e2 h7 h5 h36
    rw [show lb S.testBit 0 z = [] from rfl, List.append_nil] at *
    refine ⟨q, ?_, fr_rfl _ _, h5, rfl, h36⟩
    rw [x7_gatherStones_h7, if_pos (by rw [le32, ti9]; omega)]
  | succ m ih =>
    intro z a2 P q e1 e2 h7 h5 h36
    have el : lb S.testBit (m + 1) z = cond (S.testBit z) (z :: lb S.testBit m (z + 1)) (lb S.testBit m (z + 1)) := rfl
    have b9 := bit9 S hS z (by omega)
    rw [show f + (m + 1) + 1 = (f + m + 1) + 1 by omega, x7_gatherStones_h7, if_neg (by rw [le32, ti9]; omega)]
    unfold x7_gatherStones_j50
    by_cases c7 : 7 ≤ q.1 35 5
    · rw [if_pos c7]
      rw [le32, ti7] at c7
      have : lb S.testBit (m + 1) z = [] := by
        rw [List.length_append] at h7
        exact List.eq_nil_of_length_eq_zero (by omega)
      rw [this, List.append_nil]
      exact ⟨q, rfl, fr_rfl _ _, h5, rfl, h36⟩
    · rw [if_neg c7]
      rw [el] at h7 ⊢
      rw [le32, ti7] at c7
      cases hb : S.testBit z with
      | true =>
        rw [hb, cond_true] at h7
        rw [cond_true, if_neg (fun w => (bit_0.mp w) (by rw [mm_ofn e1]; exact b9.mpr hb)), mm_ck_t (mm_inb_c h5 (by omega)), mm_lt_s, mm_lt_s, mm_tcn h5]
        have ap : (P ++ [z]) ++ lb S.testBit m (z + 1) = P ++ (z :: lb S.testBit m (z + 1)) := by rw [List.append_assoc]; rfl
        have pl : (P ++ [z]).length = P.length + 1 := by rw [List.length_append]; rfl
        obtain ⟨q1, y1, y2, y3, y4, y5⟩ := ih (z + 1) (a2 + 1) (P ++ [z]) (mm_si (mm_si q 36 P.length a2) 35 5 ((mm_si q 36 P.length a2).1 35 5 + 1)) (mm_inc1 e1 (by omega)) (by omega) (by rw [ap]; exact h7) (by
          rw [mm_si_self, upd_self, pl]
          exact mm_inc1 h5 (by omega)) (fun j hj => by
          rw [mm_si_ne _ _ _ _ (by decide), mm_si_self]
          rw [pl] at hj
          by_cases e : j = P.length
          · rw [e, upd_self, y_getD (show P.length < (P ++ [z]).length by rw [pl]; omega), List.getElem_append_right (Nat.le_refl _)]
            simp [mm_ofn e1]
          · rw [upd_ne _ _ _ e, h36 j (by omega), y_getD (show j < (P ++ [z]).length by rw [pl]; omega), List.getElem_append_left (by omega), y_getD (show j < P.length by omega)])
        rw [ap] at y3 y5
        refine ⟨q1, y1, fr_trans (fr_trans (fr_si _ _ _ (by decide)) (fr_si _ _ _ (by decide))) y2, y3, ?_, y5⟩
        rw [y4, mm_si_self, upd_ne _ _ _ (by decide)]
        rfl
      | false =>
        rw [hb, cond_false] at h7
        rw [cond_false, if_pos (bit_0.mpr (fun w => by
          rw [mm_ofn e1] at w
          rw [b9.mp w] at hb
          exact absurd hb (by decide)))]
        exact ih (z + 1) (a2 + 1) P q (mm_inc1 e1 (by omega)) (by omega) h7 h5 h36
/-- what the class holds of an order: how many, the rule, stones -/
def oc (st : List Nat) (rl : Int32) (q : mm_Q) : Prop := (q.1 35 5).toInt = st.length ∧ q.1 35 6 = rl ∧ ∀ j, j < st.length → q.1 36 j = Int32.ofNat (st.getD j 0)
theorem oc_fr {st : List Nat} {rl : Int32} {q q' : mm_Q} {T : List Nat} (h : oc st rl q) (f : fr T q q') (h35 : 35 ∉ T) (h36 : 36 ∉ T) : oc st rl q' := by
  unfold oc
  rw [f.2 35 h35, f.2 36 h36]
  exact h
abbrev wo (F : mm_F) (c : Nat → Int32) (p : Nat) (ah : Int32) (x t : Nat) : Int32 := BP F c (GL c p x (ah + Int32.ofNat t) 0) 0
theorem ws19_h (hb : bd sp c) (hs6 : sp.toInt ≤ 6) {a1 ah : Int32} (hp : a1.toInt = p) (hps : (p : Int) < sp.toInt) {st : List Nat} (h7 : st.length ≤ 7) {rl : Int32} (hst : ∀ j, j < st.length → st.getD j 0 < 9) (rr : Int32 → Int32 → Int32 → mm_Q → Option (Unit × mm_Q)) {a3 : Int32} {i : Nat} (h3 : a3.toInt = i) (hi : i < st.length) {f : Nat} : ∀ (m t : Nat) (a4 : Int32) (q : mm_Q), a4.toInt = t → t + m = st.length → cw F c sp q → oc st rl q → (∀ t', t' < t → q.1 37 (7 * i + t') = wo F c p ah (st.getD i 0) t') → ∃ q', x7_weighStones_h19 rr (f + m + 1) a1 ah a3 a4 q = rr a1 ah (a3 + 1) q' ∧ fr [12, 13, 14, 37] q q' ∧ (∀ j, j < 7 * i → q'.1 37 j = q.1 37 j) ∧ ∀ t', t' < st.length → q'.1 37 (7 * i + t') = wo F c p ah (st.getD i 0) t' := by
  intro m
  induction m with
  | zero =>
    intro t a4 q e1 e2 hx ho h37
    refine ⟨q, ?_, fr_rfl _ _, fun _ _ => rfl, fun t' ht => h37 t' (by omega)⟩
    rw [x7_weighStones_h19, if_pos (by rw [le32, ho.1]; omega)]
    rfl
  | succ m ih =>
    intro t a4 q e1 e2 hx ho h37
    have es : (q.1 36 i).toInt = ((st.getD i 0 : Nat) : Int) := by
      have := hst i hi
      rw [ho.2.2 i hi, mm_ofNat_ti (by omega)]
    obtain ⟨q1, q2, y1, y2, y3, y4⟩ := take_best hx hb hs6 hp hps es (hst i hi) (ah + a4) 0
    have e7 : (a3 * 7 + a4).toInt = ((i * 7 + t : Nat) : Int) := mm_lin (b := 7) (k := 7) (by decide) h3 e1 (by omega)
    rw [show i * 7 + t = 7 * i + t by omega] at e7
    have f3 : fr [12, 13, 14, 37] q (mm_si q2 37 (7 * i + t) (wo F c p ah (st.getD i 0) t)) := fr_trans (fr_mono y3 (by decide)) (fr_si _ _ _ (by decide))
    have g37 : q2.1 37 = q.1 37 := y3.2 37 (by decide)
    obtain ⟨q3, z1, z2, z3, z4⟩ := ih (t + 1) (a4 + 1) (mm_si q2 37 (7 * i + t) (wo F c p ah (st.getD i 0) t)) (mm_inc1 e1 (by omega)) (by omega) (cw_fr hx f3 (by decide) (by decide) (by decide) (by decide)) (oc_fr ho f3 (by decide) (by decide)) (fun t' ht => by
      rw [mm_si_self, g37]
      by_cases e : t' = t
      · rw [e, upd_self]
      · rw [upd_ne _ _ _ (by omega)]
        exact h37 t' (by omega))
    refine ⟨q3, ?_, fr_trans f3 z2, fun j hj => ?_, z4⟩
    · rw [show f + (m + 1) + 1 = (f + m + 1) + 1 by omega, x7_weighStones_h19, if_neg (by rw [le32, ho.1]; omega), if_neg (by rw [le32, ti7]; omega), mm_ck_t (mm_inb_c h3 (by omega)), mm_tcn h3, y1, mm_cl_s, y2, mm_cl_s, mm_ck_t (mm_inb_c e7 (by omega)), mm_lt_s, mm_tcn e7, mm_ofn e1]
      rw [mm_ofn e1] at z1
      exact z1
    · rw [z3 j hj, mm_si_self, upd_ne _ _ _ (by omega), g37]
theorem ws2_h (hb : bd sp c) (hs6 : sp.toInt ≤ 6) {a1 ah : Int32} (hp : a1.toInt = p) (hps : (p : Int) < sp.toInt) {st : List Nat} (h7 : st.length ≤ 7) {rl : Int32} (hst : ∀ j, j < st.length → st.getD j 0 < 9) {f : Nat} : ∀ (m i : Nat) (a3 : Int32) (q : mm_Q), a3.toInt = i → i + m = st.length → cw F c sp q → oc st rl q → (∀ i', i' < i → ∀ t, t < st.length → q.1 37 (7 * i' + t) = wo F c p ah (st.getD i' 0) t) → ∃ q', x7_weighStones_h2 (f + m + 1) a1 ah a3 q = some ((), q') ∧ fr [12, 13, 14, 37] q q' ∧ ∀ i', i' < st.length → ∀ t, t < st.length → q'.1 37 (7 * i' + t) = wo F c p ah (st.getD i' 0) t := by
  intro m
  induction m with
  | zero =>
    intro i a3 q e1 e2 hx ho h37
    refine ⟨q, ?_, fr_rfl _ _, fun i' hi => h37 i' (by omega)⟩
    rw [x7_weighStones_h2, if_pos (by rw [le32, ho.1]; omega)]
  | succ m ih =>
    intro i a3 q e1 e2 hx ho h37
    obtain ⟨q1, y1, y2, y3, y4⟩ := ws19_h hb hs6 (ah := ah) hp hps h7 hst (x7_weighStones_h2 (f + m + 1)) e1 (by omega) (f := 999 - st.length) st.length 0 0 q ti0 (by omega) hx ho (fun t' ht => absurd ht (Nat.not_lt_zero t'))
    rw [show 999 - st.length + st.length + 1 = mm_fu by show _ = 1000; omega] at y1
    obtain ⟨q2, z1, z2, z3⟩ := ih (i + 1) (a3 + 1) q1 (mm_inc1 e1 (by omega)) (by omega) (cw_fr hx y2 (by decide) (by decide) (by decide) (by decide)) (oc_fr ho y2 (by decide) (by decide)) (fun i' hi t ht => by
      by_cases e : i' = i
      · rw [e]
        exact y4 t ht
      · rw [y3 _ (by omega)]
        exact h37 i' (by omega) t ht)
    refine ⟨q2, ?_, fr_trans y2 z2, z3⟩
    rw [show f + (m + 1) + 1 = (f + m + 1) + 1 by omega, x7_weighStones_h2, if_neg (by rw [le32, ho.1]; omega), if_neg (by rw [le32, ti7]; omega), y1]
    exact z1
end OC
