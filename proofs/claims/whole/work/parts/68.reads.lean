/-! the class reads the text -/
def kx (B : Nat → Int32) (N i d : Nat) (q : mm_Q) : Prop := (q.1 28 2).toInt = N ∧ (q.1 28 3).toInt = i ∧ (q.1 28 4).toInt = d ∧ ∀ j, j < N → q.1 29 j = B j
def kg (q q' : mm_Q) : Prop := fr [28, 30] q q' ∧ ∀ j, j ≠ 3 → j ≠ 4 → q'.1 28 j = q.1 28 j
def kn (d : Nat) (C : List Int32) (q q' : mm_Q) : Prop := kg q q' ∧ (∀ k, k < d → q'.1 30 k = q.1 30 k) ∧ ∀ k, k < C.length → q'.1 30 (d + k) = C.getD k 0
def ko (B : Nat → Int32) (N d : Nat) (R : Pr) (q : mm_Q) (o : Option (Int32 × mm_Q)) : Prop := (R.1 = true → ∃ q', o = some (1, q') ∧ kx B N R.2.1 (d + R.2.2.1.length) q' ∧ kn d R.2.2.1 q q') ∧ (R.1 = false → ∃ (q' : mm_Q) (d' : Nat), o = some (0, q') ∧ kx B N R.2.1 d' q' ∧ kg q q')
def kR (B : Nat → Int32) (N : Nat) (P : Nat → Pr) (f : mm_Q → Option (Int32 × mm_Q)) : Prop := ∀ q i d, kx B N i d q → i ≤ N → d ≤ i → ko B N d (P i) q (f q)
theorem kg_rfl (q : mm_Q) : kg q q := ⟨fr_rfl _ _, fun _ _ _ => rfl⟩
theorem kg_trans {q q1 q2 : mm_Q} (h1 : kg q q1) (h2 : kg q1 q2) : kg q q2 := ⟨fr_trans h1.1 h2.1, fun j a b => (h2.2 j a b).trans (h1.2 j a b)⟩
theorem kn_rfl (d : Nat) (q : mm_Q) : kn d [] q q := ⟨kg_rfl q, fun _ _ => rfl, fun k hk => absurd hk (Nat.not_lt_zero k)⟩
theorem kn_trans {d : Nat} {C C2 : List Int32} {q q1 q2 : mm_Q} (h1 : kn d C q q1) (h2 : kn (d + C.length) C2 q1 q2) : kn d (C ++ C2) q q2 := by
  refine ⟨kg_trans h1.1 h2.1, fun k hk => (h2.2.1 k (by omega)).trans (h1.2.1 k hk), fun k hk => ?_⟩
  rw [List.length_append] at hk
  by_cases c : k < C.length
  · rw [h2.2.1 (d + k) (by omega), h1.2.2 k c, List.getD_eq_getElem?_getD, List.getD_eq_getElem?_getD, List.getElem?_append_left c]
  · have := h2.2.2 (k - C.length) (by omega)
    rw [show d + C.length + (k - C.length) = d + k by omega] at this
    rw [this, List.getD_eq_getElem?_getD, List.getD_eq_getElem?_getD, List.getElem?_append_right (by omega)]
section KREAD
variable {B : Nat → Int32} {N i d : Nat} {q : mm_Q}
theorem k_letter (hN : N ≤ 120) (h : kx B N i d q) (hi : i ≤ N) : x9_letter q = some (chs B N i, q) := by
  unfold x9_letter chs
  rw [if_neg (by rw [lt32, ti0]; have := h.2.1; omega)]
  by_cases c : i < N
  · rw [if_neg (by rw [le32]; have := h.1; have := h.2.1; omega), mm_ck_t (mm_inb_c h.2.1 (by omega)), mm_tcn h.2.1, if_pos c, h.2.2.2 i c]
  · rw [if_pos (by rw [le32]; have := h.1; have := h.2.1; omega), if_neg c]
theorem k_next (hN : N ≤ 120) (h : kx B N i d q) (hi : i ≤ N) : kx B N (i + 1) d (mm_si q 28 3 (q.1 28 3 + 1)) ∧ kn d [] q (mm_si q 28 3 (q.1 28 3 + 1)) := by
  refine ⟨⟨?_, ?_, ?_, ?_⟩, ⟨fr_si _ _ _ (by decide), fun j a b => ?_⟩, fun k hk => ?_, fun k hk => absurd hk (Nat.not_lt_zero k)⟩
  · rw [mm_si_self, upd_ne _ _ _ (by decide)]; exact h.1
  · rw [mm_si_self, upd_self]; exact mm_inc1 h.2.1 (by omega)
  · rw [mm_si_self, upd_ne _ _ _ (by decide)]; exact h.2.2.1
  · rw [mm_si_ne _ _ _ _ (by decide)]; exact h.2.2.2
  · rw [mm_si_self, upd_ne _ _ _ a]
  · rw [mm_si_ne _ _ _ _ (by decide)]
theorem k_draw (h : kx B N i d q) (hd : d < 200) (x : Int32) : ∃ q', x9_draw x q = some ((), q') ∧ kx B N i (d + 1) q' ∧ kn d [x] q q' := by
  refine ⟨mm_si (mm_si q 30 d x) 28 4 (q.1 28 4 + 1), ?_, ⟨?_, ?_, ?_, ?_⟩, ⟨fr_trans (fr_si _ _ _ (by decide)) (fr_si _ _ _ (by decide)), fun j a b => ?_⟩, fun k hk => ?_, fun k hk => ?_⟩
  · unfold x9_draw
    rw [if_neg (by rw [lt32, ti0]; have := h.2.2.1; omega), if_neg (by rw [le32, ti200]; have := h.2.2.1; omega), mm_ck_t (mm_inb_c h.2.2.1 hd), mm_lt_s, mm_tcn h.2.2.1, mm_lt_s, mm_si_ne _ _ _ _ (by decide)]
  · rw [mm_si_self, upd_ne _ _ _ (by decide), mm_si_ne _ _ _ _ (by decide)]; exact h.1
  · rw [mm_si_self, upd_ne _ _ _ (by decide), mm_si_ne _ _ _ _ (by decide)]; exact h.2.1
  · rw [mm_si_self, upd_self]; exact mm_inc1 h.2.2.1 (by omega)
  · rw [mm_si_ne _ _ _ _ (by decide), mm_si_ne _ _ _ _ (by decide)]; exact h.2.2.2
  · rw [mm_si_self, upd_ne _ _ _ b, mm_si_ne _ _ _ _ (by decide)]
  · rw [mm_si_ne _ _ _ _ (by decide), mm_si_self, upd_ne _ _ _ (by omega)]
  · have : k = 0 := Nat.lt_one_iff.mp hk
    subst this
    rw [mm_si_ne _ _ _ _ (by decide), mm_si_self]
    exact upd_self _ _ _
end KREAD
theorem nameOf_eq (c : Int32) (q : mm_Q) : x5_nameOf c q = some (nmv c, q) := by
  unfold x5_nameOf nmv
  by_cases h1 : c = 97
  · rw [if_pos h1, if_pos h1]
  rw [if_neg h1, if_neg h1]
  by_cases h1 : c = 101
  · rw [if_pos h1, if_pos h1]
  rw [if_neg h1, if_neg h1]
  by_cases h1 : c = 112
  · rw [if_pos h1, if_pos h1]
  rw [if_neg h1, if_neg h1]
  by_cases h1 : c = 116
  · rw [if_pos h1, if_pos h1]
  rw [if_neg h1, if_neg h1]
  by_cases h1 : c = 119
  · rw [if_pos h1, if_pos h1]
  rw [if_neg h1, if_neg h1]
  by_cases h1 : c = 122
  · rw [if_pos h1, if_pos h1]
  rw [if_neg h1, if_neg h1]
theorem mm_p_pos {P : Prop} [Decidable P] (h : P) : mm_p P = 1 := if_pos h
theorem mm_p_neg {P : Prop} [Decidable P] (h : ¬ P) : mm_p P = 0 := if_neg h
theorem isSignOf_eq {a1 : Int32} {t : Nat} (h : a1.toInt = t) (ht : t ≤ 4) (c : Int32) (q : mm_Q) : x9_isSignOf a1 c q = some (mm_p (sg t c), q) := by
  have e := mm_ofn h
  subst e
  unfold x9_isSignOf
  match t, ht with
  | 0, _ =>
    rw [if_pos (by decide)]
    by_cases e : c = 124
    · rw [if_pos e, mm_p_pos (Or.inl ⟨rfl, e⟩)]
    · rw [if_neg e, mm_p_neg (by rintro (z | z | z | z | z) <;> first | exact e z.2 | exact absurd z.1 (by decide))]
  | 1, _ =>
    rw [if_neg (by decide), if_pos (by decide)]
    by_cases e : c = 38
    · rw [if_pos e, mm_p_pos (Or.inr (Or.inl ⟨rfl, e⟩))]
    · rw [if_neg e, mm_p_neg (by rintro (z | z | z | z | z) <;> first | exact e z.2 | exact absurd z.1 (by decide))]
  | 2, _ =>
    rw [if_neg (by decide), if_neg (by decide), if_pos (by decide)]
    by_cases e : c = 60
    · rw [if_pos e, mm_p_pos (Or.inr (Or.inr (Or.inl ⟨rfl, Or.inl e⟩)))]
    rw [if_neg e]
    by_cases e2 : c = 61
    · rw [if_pos e2, mm_p_pos (Or.inr (Or.inr (Or.inl ⟨rfl, Or.inr (Or.inl e2)⟩)))]
    rw [if_neg e2]
    by_cases e3 : c = 62
    · rw [if_pos e3, mm_p_pos (Or.inr (Or.inr (Or.inl ⟨rfl, Or.inr (Or.inr e3)⟩)))]
    rw [if_neg e3, mm_p_neg (by rintro (z | z | z | z | z) <;> first | exact z.2.elim e (fun w => w.elim e2 e3) | exact absurd z.1 (by decide))]
  | 3, _ =>
    rw [if_neg (by decide), if_neg (by decide), if_neg (by decide), if_pos (by decide)]
    by_cases e : c = 43
    · rw [if_pos e, mm_p_pos (Or.inr (Or.inr (Or.inr (Or.inl ⟨rfl, Or.inl e⟩))))]
    rw [if_neg e]
    by_cases e2 : c = 45
    · rw [if_pos e2, mm_p_pos (Or.inr (Or.inr (Or.inr (Or.inl ⟨rfl, Or.inr e2⟩))))]
    rw [if_neg e2, mm_p_neg (by rintro (z | z | z | z | z) <;> first | exact z.2.elim e e2 | exact absurd z.1 (by decide))]
  | 4, _ =>
    rw [if_neg (by decide), if_neg (by decide), if_neg (by decide), if_neg (by decide)]
    by_cases e : c = 42
    · rw [if_pos e, mm_p_pos (Or.inr (Or.inr (Or.inr (Or.inr ⟨rfl, Or.inl e⟩))))]
    rw [if_neg e]
    by_cases e2 : c = 47
    · rw [if_pos e2, mm_p_pos (Or.inr (Or.inr (Or.inr (Or.inr ⟨rfl, Or.inr (Or.inl e2)⟩))))]
    rw [if_neg e2]
    by_cases e3 : c = 37
    · rw [if_pos e3, mm_p_pos (Or.inr (Or.inr (Or.inr (Or.inr ⟨rfl, Or.inr (Or.inr e3)⟩))))]
    rw [if_neg e3, mm_p_neg (by rintro (z | z | z | z | z) <;> first | exact z.2.elim e (fun w => w.elim e2 e3) | exact absurd z.1 (by decide))]
section KCHAIN
variable {B : Nat → Int32} {N : Nat}
theorem k_loop (hN : N ≤ 120) {P : Nat → Pr} {rc : Nat → Int32 → Int32 → mm_Q → Option (Int32 × mm_Q)} {a1 a2 a3 : Int32} {t : Nat} (ht : a1.toInt = t) (h4 : t ≤ 4) (hP : kR B N P (rc 0 (a1 + 1) a2)) (hw : ∀ i, i ≤ N → twf N i (P i)) {q0 : mm_Q} {d0 : Nat} :
    ∀ (m n : Nat) (a4 : Int32) (q : mm_Q) (i : Nat) (C : List Int32) (v : mm_F), m < n → a4.toInt + m = a3.toInt → kx B N i (d0 + C.length) q → kn d0 C q0 q → d0 + C.length ≤ i → i ≤ N → ko B N d0 (tlp (chs B N) P t m i C v) q0 (x9_isChain_h39 rc n a1 a2 a3 a4 q)
  | 0, n + 1, a4, q, i, C, v, _, ha, hk, hn, _, _ => by
    unfold x9_isChain_h39 tlp
    rw [if_pos (show a3 ≤ a4 by rw [le32]; omega)]
    exact ⟨fun _ => ⟨q, rfl, hk, hn⟩, fun z => absurd z.symm Bool.false_ne_true⟩
  | m + 1, n + 1, a4, q, i, C, v, hmn, ha, hk, hn, hd, hi => by
    have ha3 := mm_rng a3
    unfold x9_isChain_h39 tlp
    rw [if_neg (show ¬ a3 ≤ a4 by rw [le32]; omega), k_letter hN hk hi, mm_cl_s, isSignOf_eq ht h4, mm_cl_s]
    by_cases s : sg t (chs B N i)
    · have hi2 := chs_in (sg_ne s).1
      rw [if_neg (show ¬ mm_p (sg t (chs B N i)) = 0 by rw [mm_p_pos s]; decide), if_pos s, k_letter hN hk hi, mm_cl_s, mm_lt_s]
      obtain ⟨hk1, hn1⟩ := k_next hN hk hi
      have r := hP _ (i + 1) _ hk1 hi2 (by omega)
      have w := hw (i + 1) hi2
      generalize mm_si q 28 3 (q.1 28 3 + 1) = q1 at hk1 hn1 r
      generalize P (i + 1) = R at r w
      obtain ⟨b, i', C', v'⟩ := R
      by_cases o : b = true
      · subst o
        obtain ⟨q2, e2, hk2, hn2⟩ := r.1 rfl
        have w1 : i' ≤ N := w.1
        have w2 : i + 1 < i' ∧ C'.length + (i + 1) ≤ i' := w.2 rfl
        rw [e2, mm_cl_s, if_neg (show ¬ (1 : Int32) = 0 by decide), if_pos (show (true, i', C', v').1 = true from rfl)]
        obtain ⟨q3, e3, hk3, hn3⟩ := k_draw hk2 (show d0 + C.length + C'.length < 200 by omega) (-(chs B N i))
        rw [e3, mm_cl_s]
        have hn4 : kn d0 (C ++ C') q0 q2 := kn_trans hn (by have := kn_trans hn1 (show kn (d0 + C.length + ([] : List Int32).length) C' q1 q2 from hn2); exact this)
        have hn5 : kn d0 (C ++ C' ++ [-(chs B N i)]) q0 q3 := kn_trans hn4 (by rw [List.length_append, ← Nat.add_assoc]; exact hn3)
        have hl : d0 + (C ++ C' ++ [-(chs B N i)]).length = d0 + C.length + C'.length + 1 := by
          rw [List.length_append, List.length_append]
          show d0 + (C.length + C'.length + 1) = _
          omega
        exact k_loop hN ht h4 hP hw m n (a4 + 1) q3 i' _ _ (by omega) (by rw [mm_add_ti (by rw [show (1 : Int32).toInt = 1 by decide]; have := mm_rng a4; omega) (by rw [show (1 : Int32).toInt = 1 by decide]; omega), show (1 : Int32).toInt = 1 by decide]; omega) (by rw [hl]; exact hk3) hn5 (by rw [hl]; omega) w1
      · have o2 : b = false := by cases b with
          | true => exact absurd rfl o
          | false => rfl
        subst o2
        obtain ⟨q2, d2, e2, hk2, hn2⟩ := r.2 rfl
        rw [e2, mm_cl_s, if_pos (show (0 : Int32) = 0 from rfl), if_neg (show ¬ (false, i', C', v').1 = true from Bool.false_ne_true)]
        exact ⟨fun z => absurd z Bool.false_ne_true, fun _ => ⟨q2, d2, rfl, hk2, kg_trans hn.1 (kg_trans hn1.1 hn2)⟩⟩
    · rw [if_pos (mm_p_neg s), if_neg s]
      exact ⟨fun _ => ⟨q, rfl, hk, hn⟩, fun z => absurd z.symm Bool.false_ne_true⟩
theorem k_chain (hN : N ≤ 120) {P : Nat → Pr} {rc : Nat → Int32 → Int32 → mm_Q → Option (Int32 × mm_Q)} {a1 a2 : Int32} {t : Nat} (ht : a1.toInt = t) (h4 : t ≤ 4) (hP : kR B N P (rc 0 (a1 + 1) a2)) (hw : ∀ i, i ≤ N → twf N i (P i)) : kR B N (chn (chs B N) P t) (x9_isChain rc a1 a2) := by
  intro q i d hk hi hd
  unfold x9_isChain chn
  have r := hP q i d hk hi hd
  have w := hw i hi
  rw [if_pos (show a1 ≤ 4 by rw [le32, ht]; show (t : Int) ≤ 4; omega)]
  generalize P i = R at r w
  obtain ⟨b, i', C', v'⟩ := R
  by_cases o : b = true
  · subst o
    obtain ⟨q2, e2, hk2, hn2⟩ := r.1 rfl
    have w1 : i' ≤ N := w.1
    have w2 : i < i' ∧ C'.length + i ≤ i' := w.2 rfl
    rw [e2, mm_cl_s, if_neg (show ¬ (1 : Int32) = 0 by decide), if_pos (show (true, i', C', v').1 = true from rfl)]
    unfold x9_isChain_j35
    by_cases c : t = 2
    · rw [if_pos (show a1 = 2 from Int32.toInt_inj.mp (by rw [ht]; subst c; rfl)), if_pos c]
      exact k_loop hN ht h4 hP hw 1 mm_fu 0 q2 i' C' v' (by decide) (by decide) hk2 hn2 (by omega) w1
    · have c2 : ¬ a1 = 2 := fun z => c (by
        have : a1.toInt = 2 := by rw [z]; rfl
        omega)
      rw [if_neg c2, if_neg c]
      exact k_loop hN ht h4 hP hw 120 mm_fu 0 q2 i' C' v' (by decide) (by decide) hk2 hn2 (by omega) w1
  · have o2 : b = false := by cases b with
      | true => exact absurd rfl o
      | false => rfl
    subst o2
    obtain ⟨q2, d2, e2, hk2, hn2⟩ := r.2 rfl
    rw [e2, mm_cl_s, if_pos (show (0 : Int32) = 0 from rfl), if_neg (show ¬ (false, i', C', v').1 = true from Bool.false_ne_true)]
    exact ⟨fun z => absurd z Bool.false_ne_true, fun _ => ⟨q2, d2, rfl, hk2, hn2⟩⟩
theorem k_lv (hN : N ≤ 120) {op : Nat → Pr} {F : Nat} {a2 : Int32} (ho : kR B N op (g_x9_isChain F 1 a2 0)) (hw : ∀ i, i ≤ N → twf N i (op i)) : ∀ (j : Nat) (a1 : Int32), a1.toInt + j = 5 → j ≤ 5 → kR B N (tlv (chs B N) op j) (g_x9_isChain (F + 1 + j) 0 a1 a2)
  | 0, a1, ha, _ => by
    intro q i d hk hi hd
    have r := ho q i d hk hi hd
    show ko B N d (op i) q (x9_isChain (g_x9_isChain F) a1 a2 q)
    unfold x9_isChain
    rw [if_neg (show ¬ a1 ≤ 4 by rw [le32]; show ¬ a1.toInt ≤ 4; omega)]
    generalize op i = R at r
    obtain ⟨b, i', C', v'⟩ := R
    cases b with
    | true =>
      obtain ⟨q2, e2, hk2, hn2⟩ := r.1 rfl
      rw [e2, mm_cl_s, mm_ck_t (by decide)]
      exact ⟨fun _ => ⟨q2, rfl, hk2, hn2⟩, fun z => absurd z.symm Bool.false_ne_true⟩
    | false =>
      obtain ⟨q2, d2, e2, hk2, hn2⟩ := r.2 rfl
      rw [e2, mm_cl_s, mm_ck_t (by decide)]
      exact ⟨fun z => absurd z Bool.false_ne_true, fun _ => ⟨q2, d2, rfl, hk2, hn2⟩⟩
  | j + 1, a1, ha, hj => by
    have hr := mm_rng a1
    have e1 : (a1 + 1).toInt = a1.toInt + 1 := by
      rw [mm_add_ti (by rw [show (1 : Int32).toInt = 1 by decide]; omega) (by rw [show (1 : Int32).toInt = 1 by decide]; omega)]
      rfl
    exact k_chain (rc := g_x9_isChain (F + 1 + j)) hN (t := 4 - j) (by omega) (by omega) (k_lv hN ho hw j (a1 + 1) (by omega) (by omega)) (tlv_wf hw j)
end KCHAIN
theorem isDigit_eq (c : Int32) (q : mm_Q) : x9_isDigit c q = some (mm_p (48 ≤ c ∧ c ≤ 57), q) := by
  unfold x9_isDigit
  by_cases h1 : c < 48
  · rw [if_pos h1, mm_p_neg (fun z => Int32.not_le.mpr h1 z.1)]
  · rw [if_neg h1]
    by_cases h2 : 57 < c
    · rw [if_pos h2, mm_p_neg (fun z => Int32.not_le.mpr h2 z.2)]
    · rw [if_neg h2, mm_p_pos ⟨Int32.not_lt.mp h1, Int32.not_lt.mp h2⟩]
section KOPER
variable {B : Nat → Int32} {N : Nat}
theorem ko_pre {d : Nat} {R : Pr} {q q1 : mm_Q} {o : Option (Int32 × mm_Q)} (h : kn d [] q q1) (r : ko B N d R q1 o) : ko B N d R q o := by
  refine ⟨fun z => ?_, fun z => ?_⟩
  · obtain ⟨q2, e2, hk2, hn2⟩ := r.1 z
    exact ⟨q2, e2, hk2, kn_trans h hn2⟩
  · obtain ⟨q2, d2, e2, hk2, hn2⟩ := r.2 z
    exact ⟨q2, d2, e2, hk2, kg_trans h.1 hn2⟩
theorem ko_bb {d : Nat} {R : Pr} {q : mm_Q} {o : Option (Int32 × mm_Q)} (r : ko B N d R q o) : ko B N d R q (mm_cl o (fun r q => mm_ck (mm_bb r) (some (r, q)))) := by
  refine ⟨fun z => ?_, fun z => ?_⟩
  · obtain ⟨q2, e2, hk2, hn2⟩ := r.1 z
    exact ⟨q2, by rw [e2, mm_cl_s, mm_ck_t (by decide)], hk2, hn2⟩
  · obtain ⟨q2, d2, e2, hk2, hn2⟩ := r.2 z
    exact ⟨q2, d2, by rw [e2, mm_cl_s, mm_ck_t (by decide)], hk2, hn2⟩
theorem ko_no {d i : Nat} {q : mm_Q} (hk : kx B N i d q) : ko B N d (false, i, [], F_0) q (some (0, q)) := ⟨fun z => absurd z Bool.false_ne_true, fun _ => ⟨q, d, rfl, hk, kg_rfl q⟩⟩
theorem k_num (hN : N ≤ 120) : ∀ (m n : Nat) (a a2 : Int32) (q : mm_Q) (i d : Nat), m < n → a2.toInt + m = 4 → kx B N i d q → i ≤ N → ∃ q', x9_drawNumber_h4 n a a2 q = x9_drawNumber_j48 (tnum (chs B N) m i a).2 q' ∧ kx B N (tnum (chs B N) m i a).1 d q' ∧ kn d [] q q'
  | 0, n + 1, a, a2, q, i, d, _, ha, hk, hi => by
    unfold x9_drawNumber_h4 tnum
    rw [if_pos (show (4 : Int32) ≤ a2 by rw [le32]; show (4 : Int) ≤ a2.toInt; omega)]
    exact ⟨q, rfl, hk, kn_rfl d q⟩
  | m + 1, n + 1, a, a2, q, i, d, hm, ha, hk, hi => by
    have hr := mm_rng a2
    unfold x9_drawNumber_h4 tnum
    rw [if_neg (show ¬ (4 : Int32) ≤ a2 by rw [le32]; show ¬ (4 : Int) ≤ a2.toInt; omega), k_letter hN hk hi, mm_cl_s, isDigit_eq, mm_cl_s]
    by_cases c1 : chs B N i < 48
    · rw [if_pos (mm_p_neg (fun z => Int32.not_le.mpr c1 z.1)), if_pos c1]
      exact ⟨q, rfl, hk, kn_rfl d q⟩
    · by_cases c2 : 57 < chs B N i
      · rw [if_pos (mm_p_neg (fun z => Int32.not_le.mpr c2 z.2)), if_neg c1, if_pos c2]
        exact ⟨q, rfl, hk, kn_rfl d q⟩
      · have hi2 := chs_in (B := B) (N := N) (i := i) (fun z => c1 (by rw [z]; decide))
        rw [if_neg (by rw [mm_p_pos ⟨Int32.not_lt.mp c1, Int32.not_lt.mp c2⟩]; decide), k_letter hN hk hi, mm_cl_s, mm_lt_s, if_neg c1, if_neg c2]
        obtain ⟨hk1, hn1⟩ := k_next hN hk hi
        have e1 : (a2 + 1).toInt = a2.toInt + 1 := by
          rw [mm_add_ti (by rw [show (1 : Int32).toInt = 1 by decide]; omega) (by rw [show (1 : Int32).toInt = 1 by decide]; omega)]
          rfl
        obtain ⟨q2, e2, hk2, hn2⟩ := k_num hN m n (a * 10 + chs B N i - 48) (a2 + 1) _ (i + 1) d (by omega) (by omega) hk1 hi2
        exact ⟨q2, e2, hk2, kn_trans hn1 hn2⟩
theorem k_op0 (hN : N ≤ 120) {rc : Nat → Int32 → Int32 → mm_Q → Option (Int32 × mm_Q)} {a1 : Int32} {q : mm_Q} {i d : Nat} (hk : kx B N i d q) (hi : i ≤ N) (hd : d ≤ i) (ho : ¬ opn (chs B N i) ∨ ¬ a1 < 6) : ko B N d (op0 (chs B N) i) q (x9_isOperand rc a1 q) := by
  unfold x9_isOperand op0
  rw [k_letter hN hk hi, mm_cl_s, isDigit_eq, mm_cl_s]
  by_cases c : 48 ≤ chs B N i ∧ chs B N i ≤ 57
  · rw [if_pos c, if_neg (by rw [mm_p_pos c]; decide)]
    unfold x9_drawNumber
    obtain ⟨q2, e2, hk2, hn2⟩ := k_num hN 4 mm_fu 0 0 q i d (by decide) (by decide) hk hi
    rw [e2]
    unfold x9_drawNumber_j48
    obtain ⟨q3, e3, hk3, hn3⟩ := k_draw hk2 (show d < 200 by omega) (tnum (chs B N) 4 i 0).2
    rw [e3, mm_cl_s, mm_cl_s]
    exact ⟨fun _ => ⟨q3, rfl, hk3, kn_trans hn2 hn3⟩, fun z => absurd z.symm Bool.false_ne_true⟩
  · rw [if_neg c, if_pos (mm_p_neg c), nameOf_eq, mm_cl_s]
    by_cases n : 0 ≤ nmv (chs B N i)
    · rw [if_pos n, if_neg (Int32.not_lt.mpr n), mm_lt_s]
      obtain ⟨hk1, hn1⟩ := k_next hN hk hi
      obtain ⟨q3, e3, hk3, hn3⟩ := k_draw hk1 (show d < 200 by omega) (10000 + nmv (chs B N i))
      rw [e3, mm_cl_s]
      exact ⟨fun _ => ⟨q3, rfl, hk3, kn_trans hn1 hn3⟩, fun z => absurd z.symm Bool.false_ne_true⟩
    · rw [if_neg n, if_pos (Int32.not_le.mp n)]
      have j : ∀ c, ¬ a1 < 6 → x9_isOperand_j66 rc a1 c q = some (0, q) := by
        intro c z
        unfold x9_isOperand_j66
        rw [if_neg z]
      rcases ho with ho | ho
      · rw [if_neg (fun z => ho (Or.inl z)), if_neg (fun z => ho (Or.inr (Or.inl z))), if_neg (fun z => ho (Or.inr (Or.inr z)))]
        exact ko_no hk
      · rw [j _ ho]
        by_cases o1 : chs B N i = 40
        · rw [if_pos o1]; exact ko_no hk
        · by_cases o2 : chs B N i = 33
          · rw [if_neg o1, if_pos o2]; exact ko_no hk
          · by_cases o3 : chs B N i = 45
            · rw [if_neg o1, if_neg o2, if_pos o3]; exact ko_no hk
            · rw [if_neg o1, if_neg o2, if_neg o3]; exact ko_no hk
theorem k_opn (hN : N ≤ 120) {rc : Nat → Int32 → Int32 → mm_Q → Option (Int32 × mm_Q)} {a1 : Int32} {q : mm_Q} {i d : Nat} {P1 : Nat → Pr} {P2 : Int32 → Nat → Pr} (hk : kx B N i d q) (hi : i ≤ N) (hd : d ≤ i) (ho : opn (chs B N i)) (h6 : a1 < 6) (h1 : kR B N P1 (rc 2 (a1 + 1) 0)) (h2 : ∀ c, kR B N (P2 c) (rc 3 c (a1 + 1))) : ko B N d (if chs B N i = 40 then P1 (i + 1) else P2 (chs B N i) (i + 1)) q (x9_isOperand rc a1 q) := by
  have hi2 := chs_in (opn_ne ho).1
  obtain ⟨hk1, hn1⟩ := k_next hN hk hi
  have nd : ¬ (48 ≤ chs B N i ∧ chs B N i ≤ 57) := by
    intro z
    rcases ho with ho | ho | ho <;> rw [ho] at z <;> exact absurd z.1 (by decide)
  have nn : nmv (chs B N i) < 0 := by
    rcases ho with ho | ho | ho <;> rw [ho] <;> decide
  unfold x9_isOperand
  rw [k_letter hN hk hi, mm_cl_s, isDigit_eq, mm_cl_s, if_pos (mm_p_neg nd), nameOf_eq, mm_cl_s, if_pos nn]
  have j : ko B N d (if chs B N i = 40 then P1 (i + 1) else P2 (chs B N i) (i + 1)) q (x9_isOperand_j66 rc a1 (chs B N i) q) := by
    unfold x9_isOperand_j66
    rw [if_pos h6, mm_lt_s]
    by_cases c : chs B N i = 40
    · rw [if_pos c, if_pos c]
      exact ko_pre hn1 (ko_bb (h1 _ _ _ hk1 hi2 (by omega)))
    · rw [if_neg c, if_neg c]
      exact ko_pre hn1 (ko_bb (h2 _ _ _ _ hk1 hi2 (by omega)))
  by_cases o1 : chs B N i = 40
  · rw [if_pos (show chs B N i = 40 from o1)] at j ⊢
    rw [if_pos o1]
    exact j
  · rw [if_neg o1] at j ⊢
    by_cases o2 : chs B N i = 33
    · rw [if_neg o1, if_pos o2]
      exact j
    · by_cases o3 : chs B N i = 45
      · rw [if_neg o1, if_neg o2, if_pos o3]
        exact j
      · rcases ho with ho | ho | ho
        · exact absurd ho o1
        · exact absurd ho o2
        · exact absurd ho o3
theorem k_closed (hN : N ≤ 120) {rc : Nat → Int32 → Int32 → mm_Q → Option (Int32 × mm_Q)} {a1 : Int32} {P : Nat → Pr} (h : kR B N P (rc 0 0 a1)) (hw : ∀ i, i ≤ N → twf N i (P i)) : kR B N (fun i => cls (chs B N) (P i)) (x9_isClosed rc a1) := by
  intro q i d hk hi hd
  have r := h q i d hk hi hd
  have w := hw i hi
  show ko B N d (cls (chs B N) (P i)) q (x9_isClosed rc a1 q)
  unfold x9_isClosed cls
  generalize P i = R at r w
  obtain ⟨b, i', C', v'⟩ := R
  cases b with
  | true =>
    obtain ⟨q2, e2, hk2, hn2⟩ := r.1 rfl
    have w1 : i' ≤ N := w.1
    rw [e2, mm_cl_s, if_neg (show ¬ (1 : Int32) = 0 by decide), if_pos (show (true, i', C', v').1 = true from rfl), k_letter hN hk2 w1, mm_cl_s]
    show ko B N d (if chs B N i' = 41 then (true, i' + 1, C', v') else (false, i', [], F_0)) q (if chs B N i' = 41 then _ else _)
    by_cases c : chs B N i' = 41
    · rw [if_pos c, if_pos c, mm_lt_s]
      obtain ⟨hk1, hn1⟩ := k_next hN hk2 w1
      have hn3 := kn_trans hn2 (show kn (d + C'.length) [] _ _ from ⟨hn1.1, fun k _ => hn1.2.1 k (by assumption), fun k hk => absurd hk (Nat.not_lt_zero k)⟩)
      rw [List.append_nil] at hn3
      exact ⟨fun _ => ⟨_, rfl, hk1, hn3⟩, fun z => absurd z.symm Bool.false_ne_true⟩
    · rw [if_neg c, if_neg c]
      exact ⟨fun z => absurd z Bool.false_ne_true, fun _ => ⟨q2, _, rfl, hk2, hn2.1⟩⟩
  | false =>
    obtain ⟨q2, d2, e2, hk2, hn2⟩ := r.2 rfl
    rw [e2, mm_cl_s, if_pos (show (0 : Int32) = 0 from rfl), if_neg (show ¬ (false, i', C', v').1 = true from Bool.false_ne_true)]
    exact ⟨fun z => absurd z Bool.false_ne_true, fun _ => ⟨q2, d2, rfl, hk2, hn2⟩⟩
theorem k_signed (hN : N ≤ 120) {rc : Nat → Int32 → Int32 → mm_Q → Option (Int32 × mm_Q)} {a2 c : Int32} {P : Nat → Pr} (h : kR B N P (rc 1 a2 0)) (hw : ∀ i, i ≤ N → twf N i (P i)) : kR B N (fun i => sgn c (P i)) (x9_isSigned rc c a2) := by
  intro q i d hk hi hd
  have r := h q i d hk hi hd
  have w := hw i hi
  show ko B N d (sgn c (P i)) q (x9_isSigned rc c a2 q)
  unfold x9_isSigned sgn
  generalize P i = R at r w
  obtain ⟨b, i', C', v'⟩ := R
  cases b with
  | true =>
    obtain ⟨q2, e2, hk2, hn2⟩ := r.1 rfl
    have w1 : i' ≤ N := w.1
    have w2 : i < i' ∧ C'.length + i ≤ i' := w.2 rfl
    rw [e2, mm_cl_s, if_neg (show ¬ (1 : Int32) = 0 by decide), if_pos (show (true, i', C', v').1 = true from rfl)]
    unfold x9_isSigned_j23
    have hk2' : kx B N i' (d + C'.length) q2 := hk2
    have fin : ∀ x : Int32, ∃ q3, x9_draw x q2 = some ((), q3) ∧ kx B N i' (d + (C' ++ [x]).length) q3 ∧ kn d (C' ++ [x]) q q3 := by
      intro x
      obtain ⟨q3, e3, hk3, hn3⟩ := k_draw hk2' (show d + C'.length < 200 by omega) x
      refine ⟨q3, e3, ?_, kn_trans hn2 hn3⟩
      rw [List.length_append]
      exact hk3
    by_cases c5 : c = 45
    · rw [if_pos c5]
      obtain ⟨q3, e3, hk3, hn3⟩ := fin (-1)
      rw [e3, mm_cl_s, if_pos c5, if_pos c5]
      exact ⟨fun _ => ⟨q3, rfl, hk3, hn3⟩, fun z => absurd z.symm Bool.false_ne_true⟩
    · rw [if_neg c5]
      obtain ⟨q3, e3, hk3, hn3⟩ := fin (-c)
      rw [if_neg c5, if_neg c5, e3, mm_cl_s]
      exact ⟨fun _ => ⟨q3, rfl, hk3, hn3⟩, fun z => absurd z.symm Bool.false_ne_true⟩
  | false =>
    obtain ⟨q2, d2, e2, hk2, hn2⟩ := r.2 rfl
    rw [e2, mm_cl_s, if_pos (show (0 : Int32) = 0 from rfl), if_neg (show ¬ (false, i', C', v').1 = true from Bool.false_ne_true)]
    exact ⟨fun z => absurd z Bool.false_ne_true, fun _ => ⟨q2, d2, rfl, hk2, hn2⟩⟩
/-- the operand, so many may still be opened -/
theorem k_OP (hN : N ≤ 120) : ∀ (r F : Nat) (a1 : Int32), 8 * r < F → a1.toInt + r = 6 → r ≤ 6 → kR B N (OP (chs B N) r) (g_x9_isChain F 1 a1 0)
  | 0, F + 1, a1, _, ha, _ => by
    intro q i d hk hi hd
    exact k_op0 (rc := g_x9_isChain F) hN hk hi hd (Or.inr (by rw [lt32]; show ¬ a1.toInt < 6; omega))
  | r + 1, F + 1, a1, hF, ha, h6 => by
    intro q i d hk hi hd
    have hr := mm_rng a1
    have e1 : (a1 + 1).toInt = a1.toInt + 1 := by
      rw [mm_add_ti (by rw [show (1 : Int32).toInt = 1 by decide]; omega) (by rw [show (1 : Int32).toInt = 1 by decide]; omega)]
      rfl
    rw [OP]
    by_cases c : opn (chs B N i)
    · rw [if_pos c]
      obtain ⟨G, rfl⟩ : ∃ G, F = G + 1 + 5 + 1 := ⟨F - 7, by omega⟩
      have s1 : kR B N (tlv (chs B N) (OP (chs B N) r) 5) (g_x9_isChain (G + 1 + 5) 0 0 (a1 + 1)) := k_lv hN (k_OP hN r G (a1 + 1) (by omega) (by omega) (by omega)) (tOP_wf r) 5 0 (by decide) (Nat.le_refl 5)
      have s2 : kR B N (OP (chs B N) r) (g_x9_isChain (G + 1 + 5) 1 (a1 + 1) 0) := k_OP hN r (G + 1 + 5) (a1 + 1) (by omega) (by omega) (by omega)
      exact k_opn (rc := g_x9_isChain (G + 1 + 5 + 1)) (P1 := fun i => cls (chs B N) (tlv (chs B N) (OP (chs B N) r) 5 i)) (P2 := fun c i => sgn c (OP (chs B N) r i)) hN hk hi hd c (by rw [lt32]; show a1.toInt < 6; omega) (k_closed (rc := g_x9_isChain (G + 1 + 5)) hN s1 (tlv_wf (tOP_wf r) 5)) (fun c => k_signed (rc := g_x9_isChain (G + 1 + 5)) hN s2 (tOP_wf r))
    · rw [if_neg c]
      exact k_op0 (rc := g_x9_isChain F) hN hk hi hd (Or.inl c)
/-- a whole expression -/
abbrev EX (ch : Nat → Int32) : Nat → Pr := tlv ch (OP ch 6) 5
theorem k_EX (hN : N ≤ 120) : kR B N (EX (chs B N)) (g_x9_isChain 100 0 0 0) := k_lv (F := 94) hN (k_OP hN 6 94 0 (by decide) (by decide) (Nat.le_refl 6)) (tOP_wf 6) 5 0 (by decide) (Nat.le_refl 5)
theorem EX_wf : ∀ i, i ≤ N → twf N i (EX (chs B N) i) := tlv_wf (tOP_wf 6) 5
end KOPER
