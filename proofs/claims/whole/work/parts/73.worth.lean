/-! the class works its code out -/
def sv (c : Nat → Int32) (l : Int32) (g : Nat → Int32) (st : List Int32) (q : mm_Q) : Prop := q.1 11 = c ∧ q.1 10 3 = l ∧ q.1 13 = g ∧ ∀ k, k < st.length → q.1 12 k = st.getD k 0
def EV (c : Nat → Int32) (l : Int32) (g : Nat → Int32) (C : List Int32) (v : mm_F) (D : Nat) : Prop := ∀ (n pos : Nat) (st : List Int32) (a7 a8 : Int32) (q : mm_Q), (∀ k, k < C.length → c (pos + k) = C.getD k 0) → pos + C.length ≤ 200 → ((pos + C.length : Nat) : Int) ≤ l.toInt → st.length + D ≤ 64 → sv c l g st q → a7.toInt + 1 = st.length → a8.toInt = pos → ∃ (q' : mm_Q) (b7 b8 : Int32), x5_worth_h51 (n + C.length) a7 a8 q = x5_worth_h51 n b7 b8 q' ∧ sv c l g (st ++ [nm v g]) q' ∧ fr [12] q q' ∧ b7.toInt = st.length ∧ b8.toInt = ((pos + C.length : Nat) : Int)
theorem getD_l {A C : List Int32} {k : Nat} (h : k < A.length) : (A ++ C).getD k 0 = A.getD k 0 := by
  rw [List.getD_eq_getElem?_getD, List.getD_eq_getElem?_getD, List.getElem?_append_left h]
theorem getD_r {A C : List Int32} (k : Nat) : (A ++ C).getD (A.length + k) 0 = C.getD k 0 := by
  rw [List.getD_eq_getElem?_getD, List.getD_eq_getElem?_getD, List.getElem?_append_right (Nat.le_add_right _ _), Nat.add_sub_cancel_left]
theorem cells_l {c : Nat → Int32} {A C : List Int32} {pos : Nat} (h : ∀ k, k < (A ++ C).length → c (pos + k) = (A ++ C).getD k 0) : ∀ k, k < A.length → c (pos + k) = A.getD k 0 := by
  intro k hk
  rw [h k (by rw [List.length_append]; omega), getD_l hk]
theorem cells_r {c : Nat → Int32} {A C : List Int32} {pos : Nat} (h : ∀ k, k < (A ++ C).length → c (pos + k) = (A ++ C).getD k 0) : ∀ k, k < C.length → c (pos + A.length + k) = C.getD k 0 := by
  intro k hk
  rw [Nat.add_assoc, h (A.length + k) (by rw [List.length_append]; omega), getD_r]
theorem ti64' : (64 : Int32).toInt = 64 := by decide
theorem ti2e4 : (20000 : Int32).toInt = 20000 := by decide
theorem ti1e4 : (10000 : Int32).toInt = 10000 := by decide
theorem tim1 : (Int32.ofInt (-1)).toInt = -1 := by decide
section SV
variable {c : Nat → Int32} {l : Int32} {g : Nat → Int32}
theorem sv_len {st : List Int32} {v : Int32} {q : mm_Q} (h : sv c l g (st ++ [v]) q) : q.1 12 st.length = v := by
  rw [h.2.2.2 st.length (by rw [List.length_append]; exact Nat.lt_succ_self _)]
  exact getD_r 0
theorem sv_init {st : List Int32} {v : Int32} {q : mm_Q} (h : sv c l g (st ++ [v]) q) : sv c l g st q := ⟨h.1, h.2.1, h.2.2.1, fun k hk => by rw [h.2.2.2 k (by rw [List.length_append]; omega), getD_l hk]⟩
theorem sv_put {st : List Int32} {q : mm_Q} (h : sv c l g st q) (v : Int32) : sv c l g (st ++ [v]) (mm_si q 12 st.length v) := by
  refine ⟨?_, ?_, ?_, fun k hk => ?_⟩
  · rw [mm_si_ne _ _ _ _ (by decide)]; exact h.1
  · rw [mm_si_ne _ _ _ _ (by decide)]; exact h.2.1
  · rw [mm_si_ne _ _ _ _ (by decide)]; exact h.2.2.1
  · rw [mm_si_self]
    rw [List.length_append] at hk
    by_cases e : k = st.length
    · rw [e, upd_self]
      exact (getD_r (A := st) (C := [v]) 0).symm
    · have hk2 : k < st.length + 1 := hk
      rw [upd_ne _ _ _ e, h.2.2.2 k (by omega), getD_l (by omega)]
/-- a cell to be read -/
theorem s_cell {st : List Int32} {q : mm_Q} {a8 : Int32} {pos : Nat} (h : sv c l g st q) (hp : a8.toInt = pos) (h2 : pos < 200) (hl : (pos : Int) < l.toInt) : ¬ q.1 10 3 ≤ a8 ∧ ¬ (200 : Int32) ≤ a8 ∧ mm_inb a8 200 = true ∧ q.1 11 a8.toNatClampNeg = c pos := by
  refine ⟨by rw [h.2.1, le32]; omega, by rw [le32, ti200]; omega, mm_inb_c hp h2, ?_⟩
  rw [h.1, mm_tcn hp]
/-- a number or a name -/
theorem s_push {st : List Int32} {q : mm_Q} {a7 a8 x w : Int32} {pos n : Nat} (h : sv c l g st q) (hs : a7.toInt + 1 = st.length) (h64 : st.length < 64) (hp : a8.toInt = pos) (h2 : pos < 200) (hl : (pos : Int) < l.toInt) (hc : c pos = x) (hx : (0 ≤ x.toInt ∧ x.toInt < 10000 ∧ w = x) ∨ ∃ k : Nat, k < 6 ∧ x = 10000 + Int32.ofNat k ∧ w = g k) : ∃ (q' : mm_Q) (b7 b8 : Int32), x5_worth_h51 (n + 1) a7 a8 q = x5_worth_h51 n b7 b8 q' ∧ sv c l g (st ++ [w]) q' ∧ fr [12] q q' ∧ b7.toInt = st.length ∧ b8.toInt = ((pos + 1 : Nat) : Int) := by
  obtain ⟨c1, c2, c3, c4⟩ := s_cell h hp h2 hl
  have hr := mm_rng a7
  have e7 : (a7 + 1).toInt = (st.length : Int) := by
    rw [mm_add_ti (by rw [show (1 : Int32).toInt = 1 by decide]; omega) (by rw [show (1 : Int32).toInt = 1 by decide]; omega), show (1 : Int32).toInt = 1 by decide]
    exact hs
  have hx2 : 0 ≤ x.toInt ∧ x.toInt < 20000 := by
    rcases hx with ⟨a, b, _⟩ | ⟨k, hk, e, _⟩
    · omega
    · rw [e, mm_add_ti (by rw [ti1e4, mm_ofNat_ti (by omega)]; omega) (by rw [ti1e4, mm_ofNat_ti (by omega)]; omega), ti1e4, mm_ofNat_ti (by omega)]
      omega
  have fin : ∀ (v : Int32), x5_worth_j145 (x5_worth_h51 n) (a7 + 1) a8 (a7 + 1) v q = x5_worth_h51 n (a7 + 1) (a8 + 1) (mm_si q 12 st.length v) := by
    intro v
    unfold x5_worth_j145 x5_worth_j328
    rw [mm_ck_t (mm_inb_c e7 h64), mm_lt_s, mm_tcn e7]
  have fin2 : x5_worth_h51 (n + 1) a7 a8 q = x5_worth_h51 n (a7 + 1) (a8 + 1) (mm_si q 12 st.length w) := by
    rw [x5_worth_h51, if_neg c1, if_neg c2, mm_ck_t c3, c4, hc, if_neg (by rw [lt32, ti0]; omega), if_neg (by rw [le32, ti2e4]; omega), if_neg (by rw [lt32, ti0]; omega), if_pos (by rw [lt32, ti64']; omega)]
    rcases hx with ⟨a, b, e⟩ | ⟨k, hk, e, ew⟩
    · rw [if_pos (by rw [lt32, ti0, mm_sub_ti (by rw [ti1e4]; omega) (by rw [ti1e4]; omega), ti1e4]; omega), e]
      exact fin x
    · have ek : (x - 10000).toInt = (k : Int) := by
        rw [e, mm_sub_ti, mm_add_ti, ti1e4, mm_ofNat_ti (by omega)] <;> (try rw [mm_add_ti]) <;> (try rw [ti1e4]) <;> (try rw [mm_ofNat_ti (by omega)]) <;> omega
      rw [if_neg (by rw [lt32, ti0]; omega), if_neg (by rw [le32, show (6 : Int32).toInt = 6 by decide]; omega), mm_ck_t (mm_inb_c ek hk), mm_tcn ek, h.2.2.1, ← ew]
      exact fin w
  exact ⟨_, _, _, fin2, sv_put h w, fr_si _ _ _ (by decide), e7, mm_inc1 hp (by omega)⟩
theorem j149_go {rr : Int32 → Int32 → mm_Q → Option (Int32 × mm_Q)} {q : mm_Q} {a7 a8 a9 : Int32} {s : Nat} (h7 : a7.toInt = s) (hs : s < 64) (h2 : a9 ≠ -2) (h3 : a9 < 20000) : x5_worth_j149 rr a7 a8 a9 q = (if a9 = (-1 : Int32) then (mm_ck (mm_inb a7 64) (mm_ck (mm_inb a7 64) (mm_lt (mm_si q 12 a7.toNatClampNeg (-(q.1 12 a7.toNatClampNeg))) (fun q25 => (x5_worth_j328 rr a7 a8 q25))))) else (if a9 = (-33 : Int32) then (mm_ck (mm_inb a7 64) (if (q.1 12 a7.toNatClampNeg) = 0 then (x5_worth_j286 rr a7 a8 a7 (1 : Int32) q) else (x5_worth_j286 rr a7 a8 a7 (0 : Int32) q))) else (if a7 < (1 : Int32) then (x5_worth_j328 rr a7 a8 q) else (mm_ck (mm_inb (a7 + Int32.ofInt (-1)) 64) (mm_ck (mm_inb ((a7 + Int32.ofInt (-1)) + (1 : Int32)) 64) (mm_cl (x5_joined (-a9) (q.1 12 (a7 + Int32.ofInt (-1)).toNatClampNeg) (q.1 12 ((a7 + Int32.ofInt (-1)) + (1 : Int32)).toNatClampNeg) q) (fun r32 q33 => (mm_ck (mm_inb (a7 + Int32.ofInt (-1)) 64) (mm_lt (mm_si q33 12 (a7 + Int32.ofInt (-1)).toNatClampNeg r32) (fun q35 => (x5_worth_j328 rr (a7 + Int32.ofInt (-1)) a8 q35))))))))))) := by
  unfold x5_worth_j149
  rw [if_neg (by rw [lt32, ti0]; omega), if_pos (by rw [lt32, ti64']; omega), if_neg h2, if_pos h3]
/-- the sign ahead of an operand -/
theorem s_sign {st : List Int32} {q : mm_Q} {a7 a8 x u w : Int32} {pos n : Nat} (h : sv c l g (st ++ [u]) q) (hs : a7.toInt = st.length) (h64 : st.length < 64) (hp : a8.toInt = pos) (h2 : pos < 200) (hl : (pos : Int) < l.toInt) (hc : c pos = x) (hx : (x = -1 ∧ w = -u) ∨ (x = -33 ∧ w = if u = 0 then 1 else 0)) : ∃ (q' : mm_Q) (b7 b8 : Int32), x5_worth_h51 (n + 1) a7 a8 q = x5_worth_h51 n b7 b8 q' ∧ sv c l g (st ++ [w]) q' ∧ fr [12] q q' ∧ b7.toInt = st.length ∧ b8.toInt = ((pos + 1 : Nat) : Int) := by
  obtain ⟨c1, c2, c3, c4⟩ := s_cell h hp h2 hl
  have hu := sv_len h
  have h1 := sv_init h
  have fin : x5_worth_h51 (n + 1) a7 a8 q = x5_worth_h51 n a7 (a8 + 1) (mm_si q 12 st.length w) := by
    rw [x5_worth_h51, if_neg c1, if_neg c2, mm_ck_t c3, c4, hc]
    rcases hx with ⟨rfl, e⟩ | ⟨rfl, e⟩
    · rw [if_pos (by decide), j149_go hs h64 (by decide) (by decide), if_pos rfl, mm_ck_t (mm_inb_c hs h64), mm_ck_t (mm_inb_c hs h64), mm_lt_s, mm_tcn hs, hu, e]
      rfl
    · rw [if_pos (by decide), j149_go hs h64 (by decide) (by decide), if_neg (by decide), if_pos rfl, mm_ck_t (mm_inb_c hs h64), mm_tcn hs, hu, e]
      unfold x5_worth_j286 x5_worth_j328
      by_cases u0 : u = 0
      · rw [if_pos u0, if_pos u0, mm_ck_t (mm_inb_c hs h64), mm_lt_s, mm_tcn hs]
      · rw [if_neg u0, if_neg u0, mm_ck_t (mm_inb_c hs h64), mm_lt_s, mm_tcn hs]
  exact ⟨_, _, _, fin, sv_put h1 w, fr_si _ _ _ (by decide), hs, mm_inc1 hp (by omega)⟩
theorem joined_eq (s a b : Int32) (q : mm_Q) : x5_joined s a b q = some (jn s a b, q) := by
  unfold x5_joined jn
  by_cases h : s = 37
  · rw [if_pos h, if_pos h]
    by_cases b0 : b = 0
    · rw [if_pos b0, if_pos b0]
    · rw [if_neg b0, if_neg b0, mm_ck_t (by unfold mm_nz; rw [decide_eq_false b0]; rfl)]
  rw [if_neg h, if_neg h]
  by_cases h : s = 38
  · rw [if_pos h, if_pos h]
    by_cases a0 : a = 0
    · rw [if_pos a0, if_pos a0]
    · rw [if_neg a0, if_neg a0]
      by_cases b0 : b = 0
      · rw [if_pos b0, if_pos b0]
      · rw [if_neg b0, if_neg b0]
  rw [if_neg h, if_neg h]
  by_cases h : s = 42
  · rw [if_pos h, if_pos h]
  rw [if_neg h, if_neg h]
  by_cases h : s = 43
  · rw [if_pos h, if_pos h]
  rw [if_neg h, if_neg h]
  by_cases h : s = 45
  · rw [if_pos h, if_pos h]
  rw [if_neg h, if_neg h]
  by_cases h : s = 47
  · rw [if_pos h, if_pos h]
    by_cases b0 : b = 0
    · rw [if_pos b0, if_pos b0]
    · rw [if_neg b0, if_neg b0, mm_ck_t (by unfold mm_nz; rw [decide_eq_false b0]; rfl)]
  rw [if_neg h, if_neg h]
  by_cases h : s = 60
  · rw [if_pos h, if_pos h]
    by_cases z : b ≤ a
    · rw [if_pos z, if_pos z]
    · rw [if_neg z, if_neg z]
  rw [if_neg h, if_neg h]
  by_cases h : s = 61
  · rw [if_pos h, if_pos h]
    by_cases z : a = b
    · rw [if_pos z, if_pos z]
    · rw [if_neg z, if_neg z]
  rw [if_neg h, if_neg h]
  by_cases h : s = 62
  · rw [if_pos h, if_pos h]
    by_cases z : a ≤ b
    · rw [if_pos z, if_pos z]
    · rw [if_neg z, if_neg z]
  rw [if_neg h, if_neg h]
  by_cases h : s = 124
  · rw [if_pos h, if_pos h]
    by_cases a0 : a = 0
    · rw [if_pos a0, if_pos a0]
      by_cases b0 : b = 0
      · rw [if_pos b0, if_pos b0]
      · rw [if_neg b0, if_neg b0]
    · rw [if_neg a0, if_neg a0]
  rw [if_neg h, if_neg h]
theorem sg_all {t : Nat} {s : Int32} (h : sg t s) : -(-s) = s ∧ -s ≠ -1 ∧ -s ≠ -2 ∧ -s ≠ -33 ∧ -s < 0 := by
  rcases h with h | h | h | h | h
  · rw [h.2]; decide
  · rw [h.2]; decide
  · rcases h.2 with g | g | g <;> rw [g] <;> decide
  · rcases h.2 with g | g <;> rw [g] <;> decide
  · rcases h.2 with g | g | g <;> rw [g] <;> decide
/-- two joined -/
theorem s_join {st : List Int32} {q : mm_Q} {a7 a8 s u w : Int32} {t pos n : Nat} (sgs : sg t s) (h : sv c l g (st ++ [u] ++ [w]) q) (hs : a7.toInt = ((st.length + 1 : Nat) : Int)) (h64 : st.length + 1 < 64) (hp : a8.toInt = pos) (h2 : pos < 200) (hl : (pos : Int) < l.toInt) (hc : c pos = -s) : ∃ (q' : mm_Q) (b7 b8 : Int32), x5_worth_h51 (n + 1) a7 a8 q = x5_worth_h51 n b7 b8 q' ∧ sv c l g (st ++ [jn s u w]) q' ∧ fr [12] q q' ∧ b7.toInt = st.length ∧ b8.toInt = ((pos + 1 : Nat) : Int) := by
  obtain ⟨c1, c2, c3, c4⟩ := s_cell h hp h2 hl
  obtain ⟨n1, n2, n3, n4, n5⟩ := sg_all sgs
  have hw : q.1 12 (st.length + 1) = w := by
    have := sv_len h
    rw [List.length_append] at this
    exact this
  have h1 := sv_init h
  have hu := sv_len h1
  have h0 := sv_init h1
  have hr := mm_rng a7
  have e6 : (a7 + Int32.ofInt (-1)).toInt = (st.length : Int) := by
    rw [mm_add_ti (by rw [tim1]; omega) (by rw [tim1]; omega), tim1]
    omega
  have e7 : (a7 + Int32.ofInt (-1) + 1).toInt = ((st.length + 1 : Nat) : Int) := mm_inc1 e6 (by omega)
  have fin : x5_worth_h51 (n + 1) a7 a8 q = x5_worth_h51 n (a7 + Int32.ofInt (-1)) (a8 + 1) (mm_si q 12 st.length (jn s u w)) := by
    rw [x5_worth_h51, if_neg c1, if_neg c2, mm_ck_t c3, c4, hc, if_pos n5, j149_go hs h64 n3 (by rw [lt32, ti2e4]; have := lt32.mp n5; rw [ti0] at this; omega), if_neg n2, if_neg n4, if_neg (by rw [lt32, show (1 : Int32).toInt = 1 by decide]; omega), mm_ck_t (mm_inb_c e6 (by omega)), mm_ck_t (mm_inb_c e7 h64), n1, mm_tcn e6, mm_tcn e7, hu, hw, joined_eq, mm_cl_s, mm_ck_t (mm_inb_c e6 (by omega)), mm_lt_s]
    rfl
  exact ⟨_, _, _, fin, sv_put h0 _, fr_si _ _ _ (by decide), e6, mm_inc1 hp (by omega)⟩
theorem EV_mono {C : List Int32} {v : mm_F} {D E : Nat} (h : EV c l g C v D) (hd : D ≤ E) : EV c l g C v E := fun n pos st a7 a8 q h1 h2 h3 h4 h5 h6 h7 => h n pos st a7 a8 q h1 h2 h3 (by omega) h5 h6 h7
theorem EV_one {x : Int32} {v : mm_F} (hx : (0 ≤ x.toInt ∧ x.toInt < 10000 ∧ nm v g = x) ∨ ∃ k : Nat, k < 6 ∧ x = 10000 + Int32.ofNat k ∧ nm v g = g k) : EV c l g [x] v 1 := by
  intro n pos st a7 a8 q h1 h2 h3 h4 h5 h6 h7
  have hl : [x].length = 1 := rfl
  rw [hl] at h2 h3 ⊢
  exact s_push h5 h6 (by omega) h7 (by omega) (by omega) (h1 0 Nat.zero_lt_one) hx
theorem EV_sign {C : List Int32} {v u : mm_F} {D : Nat} {x : Int32} (h : EV c l g C v D) (hd : 1 ≤ D) (hx : (x = -1 ∧ nm u g = -(nm v g)) ∨ (x = -33 ∧ nm u g = if nm v g = 0 then 1 else 0)) : EV c l g (C ++ [x]) u D := by
  intro n pos st a7 a8 q h1 h2 h3 h4 h5 h6 h7
  have hl : (C ++ [x]).length = C.length + 1 := by rw [List.length_append]; rfl
  have hc := cells_r h1 0 Nat.zero_lt_one
  have ha := cells_l h1
  rw [hl] at h2 h3 ⊢
  obtain ⟨q1, b7, b8, e1, s1, f1, i7, i8⟩ := h (n + 1) pos st a7 a8 q ha (by omega) (by omega) (by omega) h5 h6 h7
  obtain ⟨q2, d7, d8, e2, s2, f2, j7, j8⟩ := s_sign (n := n) s1 i7 (by omega) i8 (by omega) (by omega) hc hx
  exact ⟨q2, d7, d8, by rw [show n + (C.length + 1) = n + 1 + C.length by omega, e1, e2], s2, fr_trans f1 f2, j7, by rw [j8, Nat.add_assoc]⟩
theorem EV_join {C C2 : List Int32} {v v2 : mm_F} {D : Nat} {s : Int32} {t : Nat} (sgs : sg t s) (h : EV c l g C v (D + 1)) (k : EV c l g C2 v2 D) (hd : 1 ≤ D) : EV c l g (C ++ C2 ++ [-s]) (fjn s v v2) (D + 1) := by
  intro n pos st a7 a8 q h1 h2 h3 h4 h5 h6 h7
  have hl : (C ++ C2 ++ [-s]).length = C.length + C2.length + 1 := by rw [List.length_append, List.length_append]; rfl
  have hc := cells_r h1 0 Nat.zero_lt_one
  have hA := cells_l h1
  have ha := cells_l hA
  have hb := cells_r hA
  rw [List.length_append] at hc
  rw [hl] at h2 h3 ⊢
  obtain ⟨q1, b7, b8, e1, s1, f1, i7, i8⟩ := h (n + 1 + C2.length) pos st a7 a8 q ha (by omega) (by omega) (by omega) h5 h6 h7
  have hl2 : (st ++ [nm v g]).length = st.length + 1 := by rw [List.length_append]; rfl
  obtain ⟨q2, d7, d8, e2, s2, f2, j7, j8⟩ := k (n + 1) (pos + C.length) (st ++ [nm v g]) b7 b8 q1 hb (by omega) (by omega) (by rw [hl2]; omega) s1 (by rw [hl2]; omega) i8
  rw [hl2] at j7
  obtain ⟨q3, c7, c8, e3, s3, f3, k7, k8⟩ := s_join (n := n) sgs s2 j7 (by omega) j8 (by omega) (by omega) (by rw [Nat.add_assoc pos]; exact hc)
  exact ⟨q3, c7, c8, by rw [show n + (C.length + C2.length + 1) = n + 1 + C2.length + C.length by omega, e1, e2, e3], s3, fr_trans f1 (fr_trans f2 f3), k7, by rw [k8]; congr 1; omega⟩
theorem e_loop {ch : Nat → Int32} {P : Nat → Pr} {t D : Nat} (hd : 1 ≤ D) (hP : ∀ i, (P i).1 = true → EV c l g (P i).2.2.1 (P i).2.2.2 D) : ∀ (m i : Nat) (C : List Int32) (v : mm_F), EV c l g C v (D + 1) → (tlp ch P t m i C v).1 = true → EV c l g (tlp ch P t m i C v).2.2.1 (tlp ch P t m i C v).2.2.2 (D + 1)
  | 0, i, C, v, h, _ => h
  | m + 1, i, C, v, h, o => by
    unfold tlp at o ⊢
    by_cases s : sg t (ch i)
    · rw [if_pos s] at o ⊢
      have r := hP (i + 1)
      generalize P (i + 1) = R at o r ⊢
      obtain ⟨b, i', C', v'⟩ := R
      cases b with
      | true => exact e_loop hd hP m i' _ _ (EV_join s h (r rfl) hd) o
      | false => exact absurd o Bool.false_ne_true
    · rw [if_neg s] at o ⊢
      exact h
theorem e_chn {ch : Nat → Int32} {P : Nat → Pr} {t D : Nat} (hd : 1 ≤ D) (hP : ∀ i, (P i).1 = true → EV c l g (P i).2.2.1 (P i).2.2.2 D) : ∀ i, (chn ch P t i).1 = true → EV c l g (chn ch P t i).2.2.1 (chn ch P t i).2.2.2 (D + 1) := by
  intro i o
  unfold chn at o ⊢
  have r := hP i
  generalize P i = R at o r ⊢
  obtain ⟨b, i', C', v'⟩ := R
  cases b with
  | true => exact e_loop hd hP _ i' C' v' (EV_mono (r rfl) (Nat.le_succ D)) o
  | false => exact absurd o Bool.false_ne_true
theorem e_lv {ch : Nat → Int32} {P : Nat → Pr} {D : Nat} (hd : 1 ≤ D) (hP : ∀ i, (P i).1 = true → EV c l g (P i).2.2.1 (P i).2.2.2 D) : ∀ j i, (tlv ch P j i).1 = true → EV c l g (tlv ch P j i).2.2.1 (tlv ch P j i).2.2.2 (D + j)
  | 0 => hP
  | j + 1 => e_chn (Nat.le_trans hd (Nat.le_add_right D j)) (e_lv hd hP j)
theorem digit_ti {a x : Int32} {M : Int} (h0 : 0 ≤ a.toInt) (h1 : a.toInt < M) (hM : M ≤ 1000) (x0 : ¬ x < 48) (x1 : ¬ 57 < x) : 0 ≤ (a * 10 + x - 48).toInt ∧ (a * 10 + x - 48).toInt < 10 * M := by
  have y0 : 48 ≤ x.toInt := by
    have := le32.mp (Int32.not_lt.mp x0)
    exact this
  have y1 : x.toInt ≤ 57 := by
    have := le32.mp (Int32.not_lt.mp x1)
    exact this
  have e : (a * 10).toInt = a.toInt * 10 := by
    rw [Int32.toInt_mul, show (10 : Int32).toInt = 10 by decide, Int.bmod_eq_of_le (by omega) (by omega)]
  rw [mm_sub_ti, mm_add_ti, e, show (48 : Int32).toInt = 48 by decide] <;> (try rw [mm_add_ti]) <;> (try rw [e]) <;> (try rw [show (48 : Int32).toInt = 48 by decide]) <;> omega
theorem num_ti {ch : Nat → Int32} (i : Nat) : 0 ≤ (tnum ch 4 i 0).2.toInt ∧ (tnum ch 4 i 0).2.toInt < 10000 := by
  have step : ∀ (m i : Nat) (a : Int32) (M : Int), M ≤ 1000 → 0 ≤ a.toInt → a.toInt < M → (∀ i b, 0 ≤ b.toInt → b.toInt < 10 * M → 0 ≤ (tnum ch m i b).2.toInt ∧ (tnum ch m i b).2.toInt < 10000) → 0 ≤ (tnum ch (m + 1) i a).2.toInt ∧ (tnum ch (m + 1) i a).2.toInt < 10000 := by
    intro m i a M hM h0 h1 ih
    unfold tnum
    by_cases c1 : ch i < 48
    · rw [if_pos c1]
      exact ⟨h0, show a.toInt < 10000 by omega⟩
    · by_cases c2 : 57 < ch i
      · rw [if_neg c1, if_pos c2]
        exact ⟨h0, show a.toInt < 10000 by omega⟩
      · rw [if_neg c1, if_neg c2]
        obtain ⟨d0, d1⟩ := digit_ti h0 h1 hM c1 c2
        exact ih (i + 1) _ d0 d1
  refine step 3 i 0 1 (by decide) (by decide) (by decide) (fun i b h0 h1 => ?_)
  refine step 2 i b 10 (by decide) h0 h1 (fun i b h0 h1 => ?_)
  refine step 1 i b 100 (by decide) h0 h1 (fun i b h0 h1 => ?_)
  refine step 0 i b 1000 (by decide) h0 h1 (fun i b h0 h1 => ?_)
  exact ⟨h0, h1⟩
theorem nmv_k {x : Int32} (h : 0 ≤ nmv x) : ∃ k : Nat, k < 6 ∧ nmv x = Int32.ofNat k ∧ ∀ g : Nat → Int32, nm (pj (nmv x)) g = g k := by
  unfold nmv at h ⊢
  by_cases h1 : x = 97
  · rw [if_pos h1]; exact ⟨0, by decide, by decide, fun g => rfl⟩
  rw [if_neg h1] at h ⊢
  by_cases h1 : x = 101
  · rw [if_pos h1]; exact ⟨4, by decide, by decide, fun g => rfl⟩
  rw [if_neg h1] at h ⊢
  by_cases h1 : x = 112
  · rw [if_pos h1]; exact ⟨1, by decide, by decide, fun g => rfl⟩
  rw [if_neg h1] at h ⊢
  by_cases h1 : x = 116
  · rw [if_pos h1]; exact ⟨5, by decide, by decide, fun g => rfl⟩
  rw [if_neg h1] at h ⊢
  by_cases h1 : x = 119
  · rw [if_pos h1]; exact ⟨3, by decide, by decide, fun g => rfl⟩
  rw [if_neg h1] at h ⊢
  by_cases h1 : x = 122
  · rw [if_pos h1]; exact ⟨2, by decide, by decide, fun g => rfl⟩
  rw [if_neg h1] at h
  exact absurd h (by decide)
theorem e_op0 {ch : Nat → Int32} (i : Nat) (o : (op0 ch i).1 = true) : EV c l g (op0 ch i).2.2.1 (op0 ch i).2.2.2 1 := by
  unfold op0 at o ⊢
  by_cases h : 48 ≤ ch i ∧ ch i ≤ 57
  · rw [if_pos h] at o ⊢
    exact EV_one (Or.inl ⟨(num_ti i).1, (num_ti i).2, rfl⟩)
  · rw [if_neg h] at o ⊢
    by_cases n : 0 ≤ nmv (ch i)
    · rw [if_pos n] at o ⊢
      obtain ⟨k, hk, e, hg⟩ := nmv_k n
      exact EV_one (Or.inr ⟨k, hk, by rw [e], hg g⟩)
    · rw [if_neg n] at o
      exact absurd o Bool.false_ne_true
theorem e_OP {ch : Nat → Int32} : ∀ r i, (OP ch r i).1 = true → EV c l g (OP ch r i).2.2.1 (OP ch r i).2.2.2 (5 * r + 1)
  | 0, i, o => e_op0 i o
  | r + 1, i, o => by
    rw [OP] at o ⊢
    by_cases h : opn (ch i)
    · rw [if_pos h] at o ⊢
      by_cases h4 : ch i = 40
      · rw [if_pos h4] at o ⊢
        have r5 := e_lv (c := c) (l := l) (g := g) (ch := ch) (P := OP ch r) (D := 5 * r + 1) (by omega) (e_OP (ch := ch) r) 5 (i + 1)
        unfold cls at o ⊢
        generalize tlv ch (OP ch r) 5 (i + 1) = R at o r5 ⊢
        obtain ⟨b, i', C', v'⟩ := R
        cases b with
        | true =>
          have e1 := r5 rfl
          rw [if_pos (show (true, i', C', v').1 = true from rfl)] at o ⊢
          by_cases c41 : ch (true, i', C', v').2.1 = 41
          · rw [if_pos c41] at o ⊢
            exact EV_mono e1 (by omega)
          · rw [if_neg c41] at o
            exact absurd o Bool.false_ne_true
        | false => exact absurd o Bool.false_ne_true
      · rw [if_neg h4] at o ⊢
        have r5 := e_OP (ch := ch) r (i + 1)
        unfold sgn at o ⊢
        generalize OP ch r (i + 1) = R at o r5 ⊢
        obtain ⟨b, i', C', v'⟩ := R
        cases b with
        | true =>
          have e1 : EV c l g C' v' (5 * r + 1) := r5 rfl
          rw [if_pos (show (true, i', C', v').1 = true from rfl)] at o ⊢
          refine EV_mono (EV_sign (x := if ch i = 45 then -1 else -(ch i)) e1 (by omega) ?_) (by omega)
          show (_ ∧ nm (if ch i = 45 then Fn v' else Fx v') g = _) ∨ (_ ∧ nm (if ch i = 45 then Fn v' else Fx v') g = _)
          by_cases c5 : ch i = 45
          · rw [if_pos c5, if_pos c5]
            exact Or.inl ⟨rfl, rfl⟩
          · have c3 : ch i = 33 := h.elim (fun z => absurd z h4) (fun z => z.elim id (fun z => absurd z c5))
            rw [if_neg c5, if_neg c5, c3]
            exact Or.inr ⟨by decide, rfl⟩
        | false => exact absurd o Bool.false_ne_true
    · rw [if_neg h] at o ⊢
      exact EV_mono (e_op0 i o) (by omega)
theorem e_EX {ch : Nat → Int32} (i : Nat) (o : (EX ch i).1 = true) : EV c l g (EX ch i).2.2.1 (EX ch i).2.2.2 36 := e_lv (D := 31) (by decide) (e_OP 6) 5 i o
end SV
