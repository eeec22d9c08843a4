/-! both loops over a shelf of spitters -/
theorem sp_32 {v : Int64} (h : -100 ≤ v.toInt) (h2 : v.toInt ≤ 100) : v.toInt32.toInt = v.toInt := by
  rw [Int64.toInt_toInt32]
  unfold Int.bmod
  dsimp only
  split <;> omega
theorem sp_loop {f k L P C : Nat} {a1 a2 a3 : Int32} (hd : a1.toInt = k) (hk : k < 6) (h2 : a2.toInt = P) (h3 : a3.toInt = C) (hC : C ≤ 6) (hL : L ≤ 60) : ∀ (m i : Nat) (a6 : Int32) (q : mm_Q) (c52 c53 : Nat → Int32), i + m = C → a6.toInt = i → (∀ j, q.1 1 j = mm_t1.getD j 0) → (∀ j, q.1 2 j = mm_t2.getD j 0) → (∀ j, q.1 3 j = mm_t3.getD j 0) → iv_lane (q.1 8 1) (c52 6) (q.1 9) c53 → (q.1 (16 + 2 * k) 4).toInt = L → ∃ (r : Int32) (q' : mm_Q), x11_spitters_h46 (f + m + 2) a2 a3 (16 + 2 * k) a6 q = some (r, q') ∧ (∀ a, a ≠ 8 → a ≠ 9 → q'.1 a = q.1 a) ∧ q'.2 = q.2 ∧ (q.1 8 1).toInt ≤ (q'.1 8 1).toInt ∧ ∀ qb : mm_Q, qb.1 52 = c52 → qb.1 53 = c53 → (qb.1 72 k).toInt = L → (∀ j, j < L → qb.2 73 (60 * k + j) = q.2 (17 + 2 * k) j) → ∃ qb' : mm_Q, x12_spitters_h69 (f + m + 2) a1 a2 a3 a6 1 qb = some (r, qb') ∧ (∀ a, a ≠ 52 → a ≠ 53 → qb'.1 a = qb.1 a) ∧ qb'.2 = qb.2 ∧ (∀ j, j ≠ 6 → qb'.1 52 j = c52 j) ∧ iv_lane (q'.1 8 1) (qb'.1 52 6) (q'.1 9) (qb'.1 53) := by
  intro m
  induction m with
  | zero =>
    intro i a6 q c52 c53 em e6 t1 t2 t3 hl hq
    refine ⟨a6, q, ?_, fun _ _ _ => rfl, rfl, Int.le_refl _, fun qb b1 b2 b3 b4 => ⟨qb, ?_, fun _ _ _ => rfl, rfl, fun j _ => by rw [b1], by rw [b1, b2]; exact hl⟩⟩
    · rw [show f + 0 + 2 = (f + 1) + 1 from rfl, x11_spitters_h46, if_pos (by rw [le32]; omega)]
    · rw [show f + 0 + 2 = (f + 1) + 1 from rfl, x12_spitters_h69, if_neg (by decide), if_pos (by rw [le32]; omega)]
  | succ m ih =>
    intro i a6 q c52 c53 em e6 t1 t2 t3 hl hq
    have hlen : 0 ≤ (q.1 (16 + 2 * k) 4).toInt ∧ (q.1 (16 + 2 * k) 4).toInt ≤ 60 := by omega
    have e3 : (3 * a6 : Int32).toInt = ((3 * i : Nat) : Int) := mm_lin0 (m := 3) e6 ti3 (by omega)
    obtain ⟨l1, l2, l3, l4⟩ := id hl
    obtain ⟨n, hn⟩ : ∃ n : Nat, (q.1 8 1).toInt = n := ⟨(q.1 8 1).toInt.toNat, by omega⟩
    have hx : x11_spitters_h46 (f + (m + 1) + 2) a2 a3 (16 + 2 * k) a6 q = mm_cl (x8_hasPlaces (16 + 2 * k) (a2 + 3 * a6) 3 q) (fun r12 q13 => if r12 = 0 then some (a6, q13) else mm_cl (x11_welcomeThree (16 + 2 * k) (a2 + 3 * a6) q13) (fun r15 q16 => if r15 = 0 then some (a6, q16) else x11_spitters_h46 (f + m + 2) a2 a3 (16 + 2 * k) (a6 + 1) q16)) := by
      rw [show f + (m + 1) + 2 = (f + m + 2) + 1 from rfl, x11_spitters_h46, if_neg (by rw [le32]; omega)]
    by_cases c1 : P + 3 * i + 3 ≤ L
    · have i3 : (a2 + 3 * a6).toInt = ((P + 3 * i : Nat) : Int) := by rw [mm_add_ti (by omega) (by omega), h2, e3]; omega
      rw [hasPlaces_eq hlen, mm_cl_s, if_neg (by rw [mm_p0, ti3]; omega)] at hx
      obtain ⟨w1, w2⟩ := sp_three t1 t2 t3 hlen i3 (by omega) hn
      rw [show 16 + 2 * k + 1 = 17 + 2 * k by omega] at w1 w2
      by_cases c2 : n < 6 ∧ sp_ok (q.2 (17 + 2 * k) (P + 3 * i)) (q.2 (17 + 2 * k) (P + 3 * i + 1)) (q.2 (17 + 2 * k) (P + 3 * i + 2))
      · have o := c2.2
        have k1 : (q.2 (17 + 2 * k) (P + 3 * i)).toInt32.toInt = (q.2 (17 + 2 * k) (P + 3 * i)).toInt := sp_32 (by have := o.1; omega) (by have := o.1; omega)
        have k2 : (q.2 (17 + 2 * k) (P + 3 * i + 1)).toInt32.toInt = (q.2 (17 + 2 * k) (P + 3 * i + 1)).toInt := sp_32 (by have := o.2.1; omega) (by have := o.2.1; omega)
        have k3 : (q.2 (17 + 2 * k) (P + 3 * i + 2)).toInt32.toInt = (q.2 (17 + 2 * k) (P + 3 * i + 2)).toInt := sp_32 (by have := o.2.2; omega) (by have := o.2.2; omega)
        have e7 : (a6 + 1).toInt = ((i + 1 : Nat) : Int) := mm_inc1 e6 (by omega)
        have hl2 := mm_lane_add hl hn c2.1 (a := (q.2 (17 + 2 * k) (P + 3 * i)).toInt32) (b := (q.2 (17 + 2 * k) (P + 3 * i + 1)).toInt32) (c := (q.2 (17 + 2 * k) (P + 3 * i + 2)).toInt32) (by rw [k1]; exact o.1) (by rw [k2]; exact o.2.1) (by rw [k3]; exact o.2.2)
        rw [w1 c2.1 o, mm_cl_s, if_neg (by decide)] at hx
        generalize hq1 : sp_in q n (q.2 (17 + 2 * k) (P + 3 * i)).toInt32 (q.2 (17 + 2 * k) (P + 3 * i + 1)).toInt32 (q.2 (17 + 2 * k) (P + 3 * i + 2)).toInt32 = q1 at hx
        have g1 : ∀ a, a ≠ 8 → a ≠ 9 → q1.1 a = q.1 a := by
          intro a u1 u2
          rw [← hq1]
          unfold sp_in
          rw [mm_si_ne _ _ _ _ u2, mm_si_ne _ _ _ _ u2, mm_si_ne _ _ _ _ u2, mm_si_ne _ _ _ _ u2, mm_si_ne _ _ _ _ u2, mm_si_ne _ _ _ _ u1]
        have g2 : q1.2 = q.2 := by rw [← hq1]; rfl
        have g8 : q1.1 8 1 = q.1 8 1 + 1 := by rw [← hq1]; rfl
        have g9 : q1.1 9 = mm_w5 (q.1 9) n (q.2 (17 + 2 * k) (P + 3 * i)).toInt32 (q.2 (17 + 2 * k) (P + 3 * i + 1)).toInt32 (q.2 (17 + 2 * k) (P + 3 * i + 2)).toInt32 := by rw [← hq1]; rfl
        have u8 : (q1.1 8 1).toInt = (q.1 8 1).toInt + 1 := by rw [g8, mm_add_ti (by rw [ti1]; omega) (by rw [ti1]; omega), ti1]
        obtain ⟨r, q', z1, z2, z3, z4, z5⟩ := ih (i + 1) (a6 + 1) q1 (upd c52 6 (c52 6 + 1)) (mm_w5 c53 n (q.2 (17 + 2 * k) (P + 3 * i)).toInt32 (q.2 (17 + 2 * k) (P + 3 * i + 1)).toInt32 (q.2 (17 + 2 * k) (P + 3 * i + 2)).toInt32) (by omega) e7 (by rw [g1 1 (by decide) (by decide)]; exact t1) (by rw [g1 2 (by decide) (by decide)]; exact t2) (by rw [g1 3 (by decide) (by decide)]; exact t3) (by rw [g8, g9]; exact hl2) (by rw [g1 _ (by omega) (by omega)]; exact hq)
        refine ⟨r, q', by rw [hx]; exact z1, fun a u1 u2 => (z2 a u1 u2).trans (g1 a u1 u2), z3.trans g2, by omega, fun qb b1 b2 b3 b4 => ?_⟩
        have v0 := b4 (P + 3 * i) (by omega)
        have v1 := b4 (P + 3 * i + 1) (by omega)
        have v2 := b4 (P + 3 * i + 2) (by omega)
        rw [← Nat.add_assoc] at v0
        rw [← Nat.add_assoc, ← Nat.add_assoc] at v1 v2
        obtain ⟨y1, -⟩ := sp_step (f := f + m + 1) (a3 := a3) hd hk h2 e6 (by omega) (by omega) b3 hL (n := n) (by rw [b1, l2]; exact hn)
        rw [v0, v1, v2] at y1
        obtain ⟨qb', x1, x2, x3, x4, x5⟩ := z5 (sp_ad qb n (q.2 (17 + 2 * k) (P + 3 * i)).toInt32 (q.2 (17 + 2 * k) (P + 3 * i + 1)).toInt32 (q.2 (17 + 2 * k) (P + 3 * i + 2)).toInt32) (by rw [← b1]; rfl) (by rw [← b2]; rfl) b3 (by rw [g2]; exact b4)
        refine ⟨qb', ?_, fun a u1 u2 => (x2 a u1 u2).trans ?_, x3, fun j u => (x4 j u).trans (if_neg u), x5⟩
        · rw [show f + (m + 1) + 2 = f + m + 1 + 2 from rfl, y1 c1 c2.1 o]
          exact x1
        · unfold sp_ad
          rw [mm_si_ne _ _ _ _ u1, mm_si_ne _ _ _ _ u2, mm_si_ne _ _ _ _ u2, mm_si_ne _ _ _ _ u2, mm_si_ne _ _ _ _ u2, mm_si_ne _ _ _ _ u2]
      · rw [w2 c2, mm_cl_s, if_pos rfl] at hx
        refine ⟨a6, q, hx, fun _ _ _ => rfl, rfl, Int.le_refl _, fun qb b1 b2 b3 b4 => ⟨qb, ?_, fun _ _ _ => rfl, rfl, fun j _ => by rw [b1], by rw [b1, b2]; exact hl⟩⟩
        have v0 := b4 (P + 3 * i) (by omega)
        have v1 := b4 (P + 3 * i + 1) (by omega)
        have v2 := b4 (P + 3 * i + 2) (by omega)
        rw [← Nat.add_assoc] at v0
        rw [← Nat.add_assoc, ← Nat.add_assoc] at v1 v2
        obtain ⟨-, y2⟩ := sp_step (f := f + m + 1) (a3 := a3) hd hk h2 e6 (by omega) (by omega) b3 hL (n := n) (by rw [b1, l2]; exact hn)
        rw [v0, v1, v2] at y2
        exact y2 (fun w => c2 w.2)
    · have i3 : (a2 + 3 * a6).toInt = ((P + 3 * i : Nat) : Int) ∨ (a2 + 3 * a6).toInt < 0 := by
        have u := Int32.toInt_lt a2
        rw [Int32.toInt_add, h2, e3]
        unfold Int.bmod
        dsimp only
        split
        · left; omega
        · right; omega
      rw [hasPlaces_eq hlen, mm_cl_s, if_pos (by rw [mm_p0, ti3]; omega)] at hx
      refine ⟨a6, q, hx, fun _ _ _ => rfl, rfl, Int.le_refl _, fun qb b1 b2 b3 b4 => ⟨qb, ?_, fun _ _ _ => rfl, rfl, fun j _ => by rw [b1], by rw [b1, b2]; exact hl⟩⟩
      obtain ⟨-, y2⟩ := sp_step (f := f + m + 1) (a3 := a3) hd hk h2 e6 (by omega) (by omega) b3 hL (n := n) (by rw [b1, l2]; exact hn)
      exact y2 (fun w => c1 w.1)
