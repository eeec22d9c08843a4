/-! orders of the reference, and the pair -/
section RO
variable {F : mm_F} {c : Nat → Int32} {sp : Int32} {p : Nat}
/-- what a search from here on has come to -/
def NR (rl : Int32) (w : Nat → Nat → Int32) (n : Nat) (L : List Nat) (t : Nat) (h : Int32) (k : Nat) (q q' : mm_Q) : Prop := ((∀ a, a ∉ [52, 59, 60, 61, 62, 63] → q'.1 a = q.1 a) ∧ q'.2 = q.2 ∧ (∀ j, j ∉ [11, 12, 13, 14, 15, 23] → q'.1 52 j = q.1 52 j) ∧ ∀ j, j < t → q'.1 62 j = q.1 62 j) ∧ (((tg rl h (Mo rl w n L t)).toInt ≤ (q.1 52 23).toInt ∧ q'.1 52 23 = q.1 52 23 ∧ ∀ j, j < k → q'.1 63 j = q.1 63 j) ∨ ((q.1 52 23).toInt < (tg rl h (Mo rl w n L t)).toInt ∧ q'.1 52 23 = tg rl h (Mo rl w n L t) ∧ ∀ j, j < k → q'.1 63 j = if j < t then q.1 62 j else Int32.ofNat ((gr rl w n L t h (tg rl h (Mo rl w n L t))).getD (j - t) 0)))
/-- the same among some of the stones -/
def LR9 (rl : Int32) (w : Nat → Nat → Int32) (n : Nat) (L R : List Nat) (t : Nat) (h : Int32) (k : Nat) (q q' : mm_Q) : Prop := ((∀ a, a ∉ [52, 59, 60, 61, 62, 63] → q'.1 a = q.1 a) ∧ q'.2 = q.2 ∧ (∀ j, j ∉ [11, 12, 13, 14, 15, 23] → q'.1 52 j = q.1 52 j) ∧ ∀ j, j < t → q'.1 62 j = q.1 62 j) ∧ (((∀ y, y ∈ R → (Vx rl w n L t h y).toInt ≤ (q.1 52 23).toInt) ∧ q'.1 52 23 = q.1 52 23 ∧ ∀ j, j < k → q'.1 63 j = q.1 63 j) ∨ ∃ r1 x r2, R = r1 ++ x :: r2 ∧ (q.1 52 23).toInt < (Vx rl w n L t h x).toInt ∧ (∀ y, y ∈ r1 → (Vx rl w n L t h y).toInt < (Vx rl w n L t h x).toInt) ∧ (∀ y, y ∈ r2 → (Vx rl w n L t h y).toInt ≤ (Vx rl w n L t h x).toInt) ∧ q'.1 52 23 = Vx rl w n L t h x ∧ ∀ j, j < k → q'.1 63 j = if j < t then q.1 62 j else if j = t then Int32.ofNat x else Int32.ofNat ((gr rl w n (rm x L) (t + 1) (tg rl h (w x t)) (Vx rl w n L t h x)).getD (j - (t + 1)) 0))
theorem copy_h {rc : Nat → Int32 → Int32 → Int32 → Int32 → Int32 → Int32 → mm_Q → Option (Unit × mm_Q)} {k : Nat} (hk : k ≤ 7) {f : Nat} : ∀ (m i : Nat) (a7 : Int32) (q : mm_Q), a7.toInt = i → i + m = k → (q.1 52 22).toInt = k → (∃ q', x12_ordersOn_h27 rc (f + m + 1) a7 q = some ((), q') ∧ fr [63] q q' ∧ (∀ j, j < i → q'.1 63 j = q.1 63 j) ∧ ∀ j, i ≤ j → j < k → q'.1 63 j = q.1 62 j) := by
  intro m
  induction m with
  | zero =>
    intro i a7 q e1 e2 h22
    refine ⟨q, ?_, fr_rfl _ _, fun _ _ => rfl, fun j _ _ => by omega⟩
    rw [x12_ordersOn_h27, if_pos (by rw [le32, h22]; omega)]
  | succ m ih =>
    intro i a7 q e1 e2 h22
    obtain ⟨q1, y1, y2, y3, y4⟩ := ih (i + 1) (a7 + 1) (mm_si q 63 i (q.1 62 i)) (mm_inc1 e1 (by omega)) (by omega) h22
    refine ⟨q1, ?_, fr_trans (fr_si _ _ _ (by decide)) y2, fun j hj => ?_, fun j hj hjk => ?_⟩
    · rw [show f + (m + 1) + 1 = (f + m + 1) + 1 by omega, x12_ordersOn_h27, if_neg (by rw [le32, h22]; omega), mm_ck_t (mm_inb_c e1 (by omega)), mm_ck_t (mm_inb_c e1 (by omega)), mm_lt_s, mm_tcn e1]
      exact y1
    · rw [y3 j (by omega), mm_si_self, upd_ne _ _ _ (by omega)]
    · by_cases e : j = i
      · rw [e, y3 i (by omega), mm_si_self, upd_self]
      · rw [y4 j (by omega) hjk]
        rfl
theorem orders_h (hb : bd sp c) {a1 ah : Int32} (hp : a1.toInt = p) (h6 : p < 6) {rl : Int32} (hrl : rl = 0 ∨ rl = 1) {k : Nat} (hk : k ≤ 7) {d : Nat} : ∀ (n s t tt : Nat) (h : Int32) (q : mm_Q), s < 512 → (lb s.testBit 9 0).length = n → t + n = k → 0 ≤ h.toInt → h.toInt ≤ 129 * t → rx F c sp 0 q → (q.1 52 22).toInt = k → -1 ≤ (q.1 52 23).toInt → ∃ q', g_x12_ordersOn (d + n + 1) tt a1 (Int32.ofNat s) ah (Int32.ofNat t) rl h q = some ((), q') ∧ rx F c sp 0 q' ∧ NR rl (wo F c p ah) n (lb s.testBit 9 0) t h k q q' := by
  have hw : ∀ x t, 0 ≤ (wo F c p ah x t).toInt ∧ (wo F c p ah x t).toInt ≤ 129 := fun x t => BP_rng hb F _ 0
  intro n
  induction n with
  | zero =>
    intro s t tt h q hs hn ht h0 h1 hx h22 h23
    have eV : tg rl h (Mo rl (wo F c p ah) 0 (lb s.testBit 9 0) t) = h := tg_0 h0
    have et : (Int32.ofNat t).toInt = ((t : Nat) : Int) := mm_ofNat_ti (by omega)
    show ∃ q', x12_ordersOn (g_x12_ordersOn d) a1 (Int32.ofNat s) ah (Int32.ofNat t) rl h q = some ((), q') ∧ _
    unfold x12_ordersOn NR
    rw [eV, if_pos (by rw [eq32, et, h22]; omega)]
    by_cases z : h ≤ q.1 52 23
    · rw [if_pos z]
      rw [le32] at z
      exact ⟨q, rfl, hx, ⟨fun _ _ => rfl, rfl, fun _ _ => rfl, fun _ _ => rfl⟩, Or.inl ⟨z, rfl, fun _ _ => rfl⟩⟩
    · rw [if_neg z, mm_lt_s]
      rw [le32] at z
      obtain ⟨q1, y1, y2, y3, y4⟩ := copy_h (rc := g_x12_ordersOn d) hk (f := 999 - k) k 0 0 (mm_si q 52 23 h) ti0 (by omega) (by rw [mm_si_self, upd_ne _ _ _ (by decide)]; exact h22)
      rw [show 999 - k + k + 1 = mm_fu by show _ = 1000; omega] at y1
      have hx1 : rx F c sp 0 q1 := by
        obtain ⟨a, b, d', e⟩ := hx
        refine ⟨fun j hj => by rw [y2.2 53 (by decide)]; exact a j hj, by rw [y2.2 52 (by decide)]; exact b, by rw [y2.2 52 (by decide)]; exact d', ?_⟩
        rw [y2.2 58 (by decide), y2.2 52 (by decide), y2.2 60 (by decide), y2.2 61 (by decide)]
        exact e
      refine ⟨q1, y1, hx1, ⟨fun a ha => ?_, y2.1, fun j hj => ?_, fun j hj => ?_⟩, Or.inr ⟨by omega, ?_, fun j hj => ?_⟩⟩
      · rw [y2.2 a (fun w => ha (by rw [List.mem_singleton.mp w]; decide)), mm_si_ne _ _ _ _ (fun w => ha (by rw [w]; decide))]
      · rw [y2.2 52 (by decide), mm_si_self, upd_ne _ _ _ (fun w => hj (by rw [w]; decide))]
      · rw [y2.2 62 (by decide)]
        rfl
      · rw [y2.2 52 (by decide), mm_si_self, upd_self]
      · rw [y4 j (by omega) hj, if_pos (by omega)]
        rfl
  | succ n ih =>
    intro s t tt h q hs hn ht h0 h1 hx h22 h23
    have et : (Int32.ofNat t).toInt = ((t : Nat) : Int) := mm_ofNat_ti (by omega)
    have loop : ∀ {f : Nat} (m z : Nat) (a7 : Int32) (q : mm_Q), a7.toInt = z → z + m = 9 → rx F c sp 0 q → (q.1 52 22).toInt = k → -1 ≤ (q.1 52 23).toInt → ∃ q', x12_ordersOn_h60 (g_x12_ordersOn (d + n + 1)) (f + m + 1) a1 (Int32.ofNat s) ah (Int32.ofNat t) rl h a7 q = some ((), q') ∧ rx F c sp 0 q' ∧ LR9 rl (wo F c p ah) n (lb s.testBit 9 0) (lb s.testBit m z) t h k q q' := by
      intro f m
      induction m with
      | zero =>
        intro z a7 q e1 e2 hx h22 h23
        refine ⟨q, ?_, hx, ⟨fun _ _ => rfl, rfl, fun _ _ => rfl, fun _ _ => rfl⟩, Or.inl ⟨fun y hy => absurd hy (List.not_mem_nil), rfl, fun _ _ => rfl⟩⟩
        rw [x12_ordersOn_h60, if_pos (by rw [le32, ti9]; omega)]
      | succ m ihm =>
        intro z a7 q e1 e2 hx h22 h23
        have eL : lb s.testBit (m + 1) z = cond (s.testBit z) (z :: lb s.testBit m (z + 1)) (lb s.testBit m (z + 1)) := rfl
        have b9 := bit9 s hs z (by omega)
        rw [← mm_ofn e1] at b9
        rw [show f + (m + 1) + 1 = (f + m + 1) + 1 by omega, x12_ordersOn_h60, if_neg (by rw [le32, ti9]; omega), isIn_eq, mm_cl_s, eL]
        cases hbz : s.testBit z with
        | false =>
          rw [cond_false, if_pos (by rw [mm_p0, b9, hbz]; decide)]
          exact ihm (z + 1) (a7 + 1) q (mm_inc1 e1 (by omega)) (by omega) hx h22 h23
        | true =>
          rw [cond_true, if_neg (by rw [mm_p0]; exact fun w => w (b9.mpr hbz))]
          obtain ⟨q1, y1, y2, y3⟩ := pointsBest_eq hx hb hp h6 e1 (by omega) (ah + Int32.ofNat t) 0
          have y1' : x12_pointsBest a1 a7 (ah + Int32.ofNat t) 0 q = some (wo F c p ah z t, q1) := y1
          obtain ⟨x1, x2⟩ := bit9_x s hs z (by omega) hbz
          rw [← mm_ofn e1] at x1
          have len := lb_len (b := s.testBit) (b' := (s ^^^ 2 ^ z).testBit) (x := z) 9 0 (fun j _ _ => tb_xor hbz j) (by omega) (by omega) hbz
          have erm : rm z (lb s.testBit 9 0) = lb (s ^^^ 2 ^ z).testBit 9 0 := lb_rm 9 0 (fun j _ _ => tb_xor hbz j)
          have hge := tg_ge (a := h) ⟨h0, by omega⟩ (hw z t) rl
          obtain ⟨q2, z1, z2, z3⟩ := ih (s ^^^ 2 ^ z) (t + 1) 0 (tg rl h (wo F c p ah z t)) (mm_si q1 62 t a7) x2 (by omega) (by omega) (by omega) (by omega) (show rx F c sp 0 (mm_si q1 62 t a7) from y3) (by
            show (q1.1 52 22).toInt = _
            rw [y2.2 22 (by decide)]
            exact h22) (by
            show -1 ≤ (q1.1 52 23).toInt
            rw [y2.2 23 (by decide)]
            exact h23)
          rw [← erm] at z3
          have k23 : (mm_si q1 62 t a7).1 52 23 = q.1 52 23 := y2.2 23 (by decide)
          have k63 : ∀ j, (mm_si q1 62 t a7).1 63 j = q.1 63 j := fun j => by
            show q1.1 63 j = _
            rw [y2.1.2 63 (by decide)]
          have k62 : ∀ j, j < t → (mm_si q1 62 t a7).1 62 j = q.1 62 j := fun j hj => by
            rw [mm_si_self, upd_ne _ _ _ (by omega), y2.1.2 62 (by decide)]
          have k62t : (mm_si q1 62 t a7).1 62 t = a7 := by rw [mm_si_self, upd_self]
          obtain ⟨⟨f1, f2, f3, f4⟩, zz⟩ := z3
          have eVz : tg rl (tg rl h (wo F c p ah z t)) (Mo rl (wo F c p ah) n (rm z (lb s.testBit 9 0)) (t + 1)) = Vx rl (wo F c p ah) n (lb s.testBit 9 0) t h z := rfl
          rw [eVz, k23] at zz
          -- the frame of one stone
          have fa : (∀ a, a ∉ [52, 59, 60, 61, 62, 63] → q2.1 a = q.1 a) ∧ q2.2 = q.2 ∧ (∀ j, j ∉ [11, 12, 13, 14, 15, 23] → q2.1 52 j = q.1 52 j) ∧ ∀ j, j < t → q2.1 62 j = q.1 62 j := by
            refine ⟨fun a ha => ?_, f2.trans y2.1.1, fun j hj => ?_, fun j hj => ?_⟩
            · rw [f1 a ha, mm_si_ne _ _ _ _ (fun w => ha (by rw [w]; decide)), y2.1.2 a (fun w => ha ((by decide : ∀ k, k ∈ [52, 59, 60, 61] → k ∈ [52, 59, 60, 61, 62, 63]) a w))]
            · rw [f3 j hj]
              show q1.1 52 j = _
              rw [y2.2 j (fun w => hj ((by decide : ∀ k, k ∈ [11, 12, 13, 14, 15] → k ∈ [11, 12, 13, 14, 15, 23]) j w))]
            · rw [f4 j (by omega), k62 j hj]
          have h22' : (q2.1 52 22).toInt = k := by rw [fa.2.2.1 22 (by decide)]; exact h22
          have vr := Vx_rng (rl := rl) hw (n := n) (by omega) (h := h) ⟨h0, by omega⟩ (lb s.testBit 9 0) t z
          have h23' : -1 ≤ (q2.1 52 23).toInt := by
            rcases zz with ⟨-, w2, -⟩ | ⟨-, w2, -⟩
            · rw [w2]; exact h23
            · rw [w2]; omega
          obtain ⟨q3, u1, u2, ⟨g1, g2, g3, g4⟩, uu⟩ := ihm (z + 1) (a7 + 1) q2 (mm_inc1 e1 (by omega)) (by omega) z2 h22' h23'
          refine ⟨q3, ?_, u2, ⟨fun a ha => (g1 a ha).trans (fa.1 a ha), g2.trans fa.2.1, fun j hj => (g3 j hj).trans (fa.2.2.1 j hj), fun j hj => (g4 j hj).trans (fa.2.2.2 j hj)⟩, ?_⟩
          · have call : ∀ s6 : Int32, s6 = tg rl h (wo F c p ah z t) → x12_ordersOn_j144 (g_x12_ordersOn (d + n + 1)) (x12_ordersOn_h60 (g_x12_ordersOn (d + n + 1)) (f + m + 1)) a1 (Int32.ofNat s) ah (Int32.ofNat t) rl h a7 a1 (Int32.ofNat s &&& (((1 : Int32) <<< (a7 &&& 31)) ^^^ (Int32.ofInt (-1)))) ah (Int32.ofNat t + 1) rl s6 (mm_si q1 62 t a7) = some ((), q3) := by
              intro s6 e6
              unfold x12_ordersOn_j144 x12_ordersOn_j147
              rw [x1, ofn_s (by omega), e6, z1, mm_cl_s]
              exact u1
            rw [y1', mm_cl_s, mm_ck_t (mm_inb_c et (by omega)), mm_lt_s, mm_tcn et]
            rcases hrl with e | e
            · rw [if_neg (by rw [e]; decide)]
              by_cases w : wo F c p ah z t ≤ h
              · rw [if_pos w]
                refine call h ?_
                unfold tg mm_max
                rw [if_pos e, if_neg (Int32.not_lt.mpr w)]
              · rw [if_neg w]
                refine call _ ?_
                unfold tg mm_max
                rw [if_pos e, if_pos (Int32.not_le.mp w)]
            · rw [if_pos e]
              refine call _ ?_
              unfold tg
              rw [if_neg (by rw [e]; decide)]
          · -- which of them is the best
            rcases zz with ⟨a1', a2', a3'⟩ | ⟨a1', a2', a3'⟩
            · rcases uu with ⟨b1, b2, b3⟩ | ⟨r1, x, r2, b1, b2, b3, b4, b5, b6⟩
              · refine Or.inl ⟨fun y hy => ?_, by rw [b2, a2'], fun j hj => by rw [b3 j hj, a3' j hj, k63]⟩
                rcases List.mem_cons.mp hy with e | e
                · rw [e]; exact a1'
                · rw [← a2']; exact b1 y e
              · rw [a2'] at b2
                refine Or.inr ⟨z :: r1, x, r2, by rw [b1]; rfl, b2, fun y hy => ?_, b4, b5, fun j hj => ?_⟩
                · rcases List.mem_cons.mp hy with e | e
                  · rw [e]; omega
                  · exact b3 y e
                · rw [b6 j hj]
                  by_cases jt : j < t
                  · rw [if_pos jt, if_pos jt, fa.2.2.2 j jt]
                  · rw [if_neg jt, if_neg jt]
            · rcases uu with ⟨b1, b2, b3⟩ | ⟨r1, x, r2, b1, b2, b3, b4, b5, b6⟩
              · refine Or.inr ⟨[], z, lb s.testBit m (z + 1), rfl, a1', fun y hy => absurd hy (List.not_mem_nil), fun y hy => by rw [← a2']; exact b1 y hy, by rw [b2, a2'], fun j hj => ?_⟩
                rw [b3 j hj, a3' j hj]
                by_cases jt : j < t
                · rw [if_pos (by omega), if_pos jt, k62 j jt]
                · rw [if_neg jt]
                  by_cases jt2 : j = t
                  · rw [if_pos (by omega), if_pos jt2, jt2, k62t, mm_ofn e1]
                  · rw [if_neg (by omega), if_neg jt2]
              · rw [a2'] at b2
                refine Or.inr ⟨z :: r1, x, r2, by rw [b1]; rfl, by omega, fun y hy => ?_, b4, b5, fun j hj => ?_⟩
                · rcases List.mem_cons.mp hy with e | e
                  · rw [e]; omega
                  · exact b3 y e
                · rw [b6 j hj]
                  by_cases jt : j < t
                  · rw [if_pos jt, if_pos jt, fa.2.2.2 j jt]
                  · rw [if_neg jt, if_neg jt]
    obtain ⟨q', l1, l2, l3, l4⟩ := loop (f := 990) 9 0 0 q ti0 (by omega) hx h22 h23
    refine ⟨q', ?_, l2, l3, ?_⟩
    · show x12_ordersOn (g_x12_ordersOn (d + n + 1)) a1 (Int32.ofNat s) ah (Int32.ofNat t) rl h q = _
      unfold x12_ordersOn
      rw [if_neg (by rw [eq32, et, h22]; omega)]
      exact l1
    · have ne : lb s.testBit 9 0 ≠ [] := by
        intro z
        rw [z] at hn
        exact absurd hn (by simp)
      obtain ⟨v1, x', v2, v3⟩ := V_eq (rl := rl) hw (n := n) (by omega) (h := h) ⟨h0, by omega⟩ ne t
      rcases l4 with ⟨b1, b2, b3⟩ | ⟨r1, x, r2, b1, b2, b3, b4, b5, b6⟩
      · exact Or.inl ⟨by rw [v3]; exact b1 x' v2, b2, b3⟩
      · have mx : x ∈ lb s.testBit 9 0 := by
          rw [b1]
          exact List.mem_append_right _ List.mem_cons_self
        have eV : tg rl h (Mo rl (wo F c p ah) (n + 1) (lb s.testBit 9 0) t) = Vx rl (wo F c p ah) n (lb s.testBit 9 0) t h x := by
          have le1 := v1 x mx
          rw [v3] at le1 ⊢
          rw [eq32]
          have : (Vx rl (wo F c p ah) n (lb s.testBit 9 0) t h x').toInt ≤ (Vx rl (wo F c p ah) n (lb s.testBit 9 0) t h x).toInt := by
            rw [b1] at v2
            rcases List.mem_append.mp v2 with w | w
            · exact Int.le_of_lt (b3 x' w)
            · rcases List.mem_cons.mp w with w | w
              · rw [w]; exact Int.le_refl _
              · exact b4 x' w
          omega
        have ef : fst1 (Vx rl (wo F c p ah) n (lb s.testBit 9 0) t h) (Vx rl (wo F c p ah) n (lb s.testBit 9 0) t h x) (lb s.testBit 9 0) = x := by
          have := fst1_at (f := Vx rl (wo F c p ah) n (lb s.testBit 9 0) t h) (g := Vx rl (wo F c p ah) n (lb s.testBit 9 0) t h x) r1 x r2 (fun y hy w => by
            have := b3 y hy
            rw [w] at this
            omega) rfl
          rw [← b1] at this
          exact this
        refine Or.inr ⟨by rw [eV]; exact b2, by rw [eV]; exact b5, fun j hj => ?_⟩
        rw [b6 j hj, eV]
        by_cases jt : j < t
        · rw [if_pos jt, if_pos jt]
        · rw [if_neg jt, if_neg jt]
          have eg : gr rl (wo F c p ah) (n + 1) (lb s.testBit 9 0) t h (Vx rl (wo F c p ah) n (lb s.testBit 9 0) t h x) = x :: gr rl (wo F c p ah) n (rm x (lb s.testBit 9 0)) (t + 1) (tg rl h (wo F c p ah x t)) (Vx rl (wo F c p ah) n (lb s.testBit 9 0) t h x) := by
            show fst1 _ _ _ :: gr rl (wo F c p ah) n (rm (fst1 _ _ _) _) (t + 1) (tg rl h (wo F c p ah (fst1 _ _ _) t)) _ = _
            rw [ef]
          rw [eg]
          by_cases jt2 : j = t
          · rw [if_pos jt2, jt2, Nat.sub_self]
            rfl
          · rw [if_neg jt2, show j - t = (j - (t + 1)) + 1 by omega, List.getD_cons_succ]
end RO
