/-! one step of the reference's loop over a shelf of spitters -/
theorem sp_stop (n : Nat) (a1 a2 a3 a4 : Int32) (q : mm_Q) : x12_spitters_h69 (n + 1) a1 a2 a3 a4 0 q = some (a4, q) := by
  rw [x12_spitters_h69, if_pos rfl]
def sp_ad (q : mm_Q) (n : Nat) (a b c : Int32) : mm_Q := mm_si (mm_si (mm_si (mm_si (mm_si (mm_si q 53 n a) 53 (6 + n) b) 53 (12 + n) c) 53 (18 + n) 0) 53 (24 + n) 10) 52 6 (q.1 52 6 + 1)
theorem sp_no (f : Nat) (a1 a2 a3 a4 : Int32) (q : mm_Q) : x12_spitters_j110 (x12_spitters_h69 (f + 1)) a1 a2 a3 a4 q = some (a4, q) := by
  unfold x12_spitters_j110 x12_spitters_j111
  rw [if_pos rfl]
  unfold x12_spitters_j166 x12_spitters_j167
  rw [if_pos rfl]
  unfold x12_spitters_j209
  exact sp_stop f a1 a2 a3 a4 q
theorem sp_step {f : Nat} {a1 a2 a3 a4 : Int32} {k P i L n : Nat} (hd : a1.toInt = k) (hk : k < 6) (h2 : a2.toInt = P) (h4 : a4.toInt = i) (hi : (i : Int) < a3.toInt) (h3 : a3.toInt ≤ 6) {q : mm_Q} (h72 : (q.1 72 k).toInt = L) (hL : L ≤ 60) (hn : (q.1 52 6).toInt = n) : (P + 3 * i + 3 ≤ L → n < 6 → sp_ok (q.2 73 (60 * k + P + 3 * i)) (q.2 73 (60 * k + P + 3 * i + 1)) (q.2 73 (60 * k + P + 3 * i + 2)) → x12_spitters_h69 (f + 2) a1 a2 a3 a4 1 q = x12_spitters_h69 (f + 1) a1 a2 a3 (a4 + 1) 1 (sp_ad q n (q.2 73 (60 * k + P + 3 * i)).toInt32 (q.2 73 (60 * k + P + 3 * i + 1)).toInt32 (q.2 73 (60 * k + P + 3 * i + 2)).toInt32)) ∧ (¬ (P + 3 * i + 3 ≤ L ∧ n < 6 ∧ sp_ok (q.2 73 (60 * k + P + 3 * i)) (q.2 73 (60 * k + P + 3 * i + 1)) (q.2 73 (60 * k + P + 3 * i + 2))) → x12_spitters_h69 (f + 2) a1 a2 a3 a4 1 q = some (a4, q)) := by
  have hin : mm_inb a1 6 = true := mm_inb_c hd hk
  have e3 : (3 * a4 : Int32).toInt = ((3 * i : Nat) : Int) := mm_lin0 (m := 3) h4 ti3 (by omega)
  have e1 : (q.1 72 k - 3 - 3 * a4).toInt = (L : Int) - 3 - 3 * i := by
    have u : (q.1 72 k - 3).toInt = (L : Int) - 3 := by rw [mm_sub_ti (by rw [ti3]; omega) (by rw [ti3]; omega), ti3, h72]
    rw [mm_sub_ti (by omega) (by omega), u, e3]; omega
  have hs : x12_spitters_h69 (f + 2) a1 a2 a3 a4 1 q = if q.1 72 k - 3 - 3 * a4 < a2 then x12_spitters_j110 (x12_spitters_h69 (f + 1)) a1 a2 a3 a4 q else if 6 ≤ q.1 52 6 then x12_spitters_j110 (x12_spitters_h69 (f + 1)) a1 a2 a3 a4 q else x12_spitters_j111 (x12_spitters_h69 (f + 1)) a1 a2 a3 a4 1 q := by
    rw [show f + 2 = (f + 1) + 1 from rfl, x12_spitters_h69, if_neg (by decide), if_neg (by rw [le32]; omega), mm_ck_t hin, mm_tcn hd]
  rw [hs]
  by_cases c1 : P + 3 * i + 3 ≤ L
  · rw [if_neg (by rw [lt32, e1]; omega)]
    by_cases c2 : n < 6
    · rw [if_neg (by rw [le32, ti6]; omega)]
      have p0 : (60 * a1 + a2 + 3 * a4 : Int32).toInt = ((60 * k + P + 3 * i : Nat) : Int) := by
        have u : (60 * a1 + a2 : Int32).toInt = ((60 * k + P : Nat) : Int) := mm_lin (m := 60) hd ti60 h2 (by omega)
        rw [mm_add_ti (by omega) (by omega), u, e3]; omega
      have p1 : (60 * a1 + a2 + 3 * a4 + 1 : Int32).toInt = ((60 * k + P + 3 * i + 1 : Nat) : Int) := by
        rw [mm_add_ti (by rw [ti1]; omega) (by rw [ti1]; omega), p0, ti1]; omega
      have p2 : (60 * a1 + a2 + 3 * a4 + 2 : Int32).toInt = ((60 * k + P + 3 * i + 2 : Nat) : Int) := by
        rw [mm_add_ti (by rw [ti2]; omega) (by rw [ti2]; omega), p0, ti2]; omega
      have g0 : mm_inb (60 * a1 + a2 + 3 * a4) 360 = true := mm_inb_c p0 (by omega)
      have g1 : mm_inb (60 * a1 + a2 + 3 * a4 + 1) 360 = true := mm_inb_c p1 (by omega)
      have g2 : mm_inb (60 * a1 + a2 + 3 * a4 + 2) 360 = true := mm_inb_c p2 (by omega)
      unfold x12_spitters_j111
      rw [if_neg (by decide), mm_ck_t g0, mm_ck_t g1, mm_ck_t g2, mm_tcn p0, mm_tcn p1, mm_tcn p2, isOne_eq, mm_cl_s]
      by_cases c3 : sp_ok (q.2 73 (60 * k + P + 3 * i)) (q.2 73 (60 * k + P + 3 * i + 1)) (q.2 73 (60 * k + P + 3 * i + 2))
      · refine ⟨fun _ _ _ => ?_, fun z => absurd ⟨c1, c2, c3⟩ z⟩
        rw [if_neg (by rw [mm_p0]; exact fun w => w c3)]
        unfold x12_spitters_j167
        rw [if_neg (by decide), mm_ck_t g0, mm_ck_t g1, mm_ck_t g2, mm_tcn p0, mm_tcn p1, mm_tcn p2, adds_eq hn c2, mm_cl_s]
        rfl
      · refine ⟨fun _ _ z => absurd z c3, fun _ => ?_⟩
        rw [if_pos (by rw [mm_p0]; exact c3)]
        unfold x12_spitters_j166 x12_spitters_j167
        rw [if_pos rfl]
        unfold x12_spitters_j209
        exact sp_stop f a1 a2 a3 a4 q
    · rw [if_pos (by rw [le32, ti6]; omega), sp_no]
      exact ⟨fun _ z => absurd z c2, fun _ => rfl⟩
  · rw [if_pos (by rw [lt32, e1]; omega), sp_no]
    exact ⟨fun z => absurd z c1, fun _ => rfl⟩
