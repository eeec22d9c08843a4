/-! of the class alone: out of the rows of the whole claim (wip/p43/extract2.py) -/
abbrev Pr : Type := Bool × Nat × List Int32 × mm_F
def F_0 : mm_F := fun _ _ _ _ _ _ => 0
abbrev sg (t : Nat) (c : Int32) : Prop := (t = 0 ∧ c = 124) ∨ (t = 1 ∧ c = 38) ∨ (t = 2 ∧ (c = 60 ∨ c = 61 ∨ c = 62)) ∨ (t = 3 ∧ (c = 43 ∨ c = 45)) ∨ (t = 4 ∧ (c = 42 ∨ c = 47 ∨ c = 37))
def jn (s a b : Int32) : Int32 := if s = 37 then (if b = 0 then 0 else mm_rem a b) else if s = 38 then (if a = 0 then 0 else if b = 0 then 0 else 1) else if s = 42 then a * b else if s = 43 then a + b else if s = 45 then a - b else if s = 47 then (if b = 0 then 0 else a / b) else if s = 60 then (if b ≤ a then 0 else 1) else if s = 61 then (if a = b then 1 else 0) else if s = 62 then (if a ≤ b then 0 else 1) else if s = 124 then (if a = 0 then (if b = 0 then 0 else 1) else 1) else 0
def fjn (s : Int32) (v u : mm_F) : mm_F := fun a p z w e t => jn s (v a p z w e t) (u a p z w e t)
def tlp (ch : Nat → Int32) (sub : Nat → Pr) (t : Nat) : Nat → Nat → List Int32 → mm_F → Pr
  | 0, i, C, v => (true, i, C, v)
  | m + 1, i, C, v => if sg t (ch i) then (if (sub (i + 1)).1 = true then tlp ch sub t m (sub (i + 1)).2.1 (C ++ (sub (i + 1)).2.2.1 ++ [-(ch i)]) (fjn (ch i) v (sub (i + 1)).2.2.2) else (false, (sub (i + 1)).2.1, [], F_0)) else (true, i, C, v)
def chn (ch : Nat → Int32) (sub : Nat → Pr) (t : Nat) (i : Nat) : Pr := if (sub i).1 = true then tlp ch sub t (if t = 2 then 1 else 120) (sub i).2.1 (sub i).2.2.1 (sub i).2.2.2 else (false, (sub i).2.1, [], F_0)
def tlv (ch : Nat → Int32) (op : Nat → Pr) : Nat → Nat → Pr
  | 0 => op
  | j + 1 => chn ch (tlv ch op j) (4 - j)
def tnum (ch : Nat → Int32) : Nat → Nat → Int32 → Nat × Int32
  | 0, i, a => (i, a)
  | m + 1, i, a => if ch i < 48 then (i, a) else if 57 < ch i then (i, a) else tnum ch m (i + 1) (a * 10 + ch i - 48)
def nmv (c : Int32) : Int32 := if c = 97 then 0 else if c = 101 then 4 else if c = 112 then 1 else if c = 116 then 5 else if c = 119 then 3 else if c = 122 then 2 else -1
def pj (k : Int32) : mm_F := fun a p z w e t => if k = 0 then a else if k = 1 then p else if k = 2 then z else if k = 3 then w else if k = 4 then e else t
def Fc (x : Int32) : mm_F := fun _ _ _ _ _ _ => x
def Fn (v : mm_F) : mm_F := fun a p z w e t => -(v a p z w e t)
def Fx (v : mm_F) : mm_F := fun a p z w e t => if v a p z w e t = 0 then 1 else 0
def sgn (c : Int32) (r : Pr) : Pr := if r.1 = true then (true, r.2.1, r.2.2.1 ++ [if c = 45 then -1 else -c], if c = 45 then Fn r.2.2.2 else Fx r.2.2.2) else (false, r.2.1, [], F_0)
def cls (ch : Nat → Int32) (r : Pr) : Pr := if r.1 = true then (if ch r.2.1 = 41 then (true, r.2.1 + 1, r.2.2.1, r.2.2.2) else (false, r.2.1, [], F_0)) else (false, r.2.1, [], F_0)
def op0 (ch : Nat → Int32) (i : Nat) : Pr := if 48 ≤ ch i ∧ ch i ≤ 57 then (true, (tnum ch 4 i 0).1, [(tnum ch 4 i 0).2], Fc (tnum ch 4 i 0).2) else if 0 ≤ nmv (ch i) then (true, i + 1, [10000 + nmv (ch i)], pj (nmv (ch i))) else (false, i, [], F_0)
abbrev opn (c : Int32) : Prop := c = 40 ∨ c = 33 ∨ c = 45
def OP (ch : Nat → Int32) : Nat → Nat → Pr
  | 0, i => op0 ch i
  | r + 1, i => if opn (ch i) then (if ch i = 40 then cls ch (tlv ch (OP ch r) 5 (i + 1)) else sgn (ch i) (OP ch r (i + 1))) else op0 ch i
def chs (B : Nat → Int32) (N : Nat) (i : Nat) : Int32 := if i < N then B i else -1
section WFP
variable {B : Nat → Int32} {N : Nat}
def twf (N : Nat) (i : Nat) (r : Pr) : Prop := r.2.1 ≤ N ∧ (r.1 = true → i < r.2.1 ∧ r.2.2.1.length + i ≤ r.2.1)
theorem chs_in {i : Nat} (h : chs B N i ≠ -1) : i < N := by
  unfold chs at h
  by_cases c : i < N
  · exact c
  · rw [if_neg c] at h
    exact absurd rfl h
theorem sg_ne {t : Nat} {c : Int32} (h : sg t c) : c ≠ -1 ∧ c ≠ 0 := by
  rcases h with h | h | h | h | h
  · rw [h.2]; decide
  · rw [h.2]; decide
  · rcases h.2 with g | g | g <;> rw [g] <;> decide
  · rcases h.2 with g | g <;> rw [g] <;> decide
  · rcases h.2 with g | g | g <;> rw [g] <;> decide
theorem wf_no {i i' : Nat} (h : i' ≤ N) : twf N i (false, i', [], F_0) := ⟨h, fun z => absurd z Bool.false_ne_true⟩
theorem wf_yes {i i' : Nat} {C : List Int32} {v : mm_F} (h : i' ≤ N) (h1 : i < i') (h2 : C.length + i ≤ i') : twf N i (true, i', C, v) := ⟨h, fun _ => ⟨h1, h2⟩⟩
theorem cls_wf {i : Nat} {R : Pr} (w : twf N (i + 1) R) : twf N i (cls (chs B N) R) := by
  obtain ⟨b, i', C, v⟩ := R
  unfold cls
  by_cases o : b = true
  · have w1 : i' ≤ N := w.1
    have w2 : i + 1 < i' ∧ C.length + (i + 1) ≤ i' := w.2 o
    rw [if_pos (show (b, i', C, v).1 = true from o)]
    by_cases c3 : chs B N i' = 41
    · rw [if_pos (show chs B N (b, i', C, v).2.1 = 41 from c3)]
      have h3 := chs_in (B := B) (N := N) (i := i') (fun z => by rw [z] at c3; exact absurd c3 (by decide))
      exact wf_yes (by show i' + 1 ≤ N; omega) (by show i < i' + 1; omega) (by show C.length + i ≤ i' + 1; omega)
    · rw [if_neg (show ¬ chs B N (b, i', C, v).2.1 = 41 from c3)]
      exact wf_no w1
  · rw [if_neg (show ¬ (b, i', C, v).1 = true from o)]
    exact wf_no w.1
theorem sgn_wf {i : Nat} {c : Int32} {R : Pr} (w : twf N (i + 1) R) : twf N i (sgn c R) := by
  obtain ⟨b, i', C, v⟩ := R
  unfold sgn
  by_cases o : b = true
  · have w1 : i' ≤ N := w.1
    have w2 : i + 1 < i' ∧ C.length + (i + 1) ≤ i' := w.2 o
    rw [if_pos (show (b, i', C, v).1 = true from o)]
    refine wf_yes (show i' ≤ N from w1) (show i < i' by omega) ?_
    rw [List.length_append]
    show C.length + 1 + i ≤ i'
    omega
  · rw [if_neg (show ¬ (b, i', C, v).1 = true from o)]
    exact wf_no w.1
theorem tlp_wf {sub : Nat → Pr} {t : Nat} (hs : ∀ i, i ≤ N → twf N i (sub i)) {i0 : Nat} : ∀ (m i : Nat) (C : List Int32) (v : mm_F), i ≤ N → i0 < i → C.length + i0 ≤ i → twf N i0 (tlp (chs B N) sub t m i C v)
  | 0, i, C, v, h1, h2, h3 => ⟨h1, fun _ => ⟨h2, h3⟩⟩
  | m + 1, i, C, v, h1, h2, h3 => by
    unfold tlp
    by_cases c : sg t (chs B N i)
    · have hi := chs_in (sg_ne c).1
      have w := hs (i + 1) (by omega)
      rw [if_pos c]
      generalize sub (i + 1) = R at w
      obtain ⟨b, i', C', v'⟩ := R
      by_cases o : b = true
      · rw [if_pos (show (b, i', C', v').1 = true from o)]
        have w1 : i' ≤ N := w.1
        have w2 : i + 1 < i' ∧ C'.length + (i + 1) ≤ i' := w.2 o
        refine tlp_wf hs m i' _ _ w1 (by omega) ?_
        rw [List.length_append, List.length_append]
        show C.length + C'.length + 1 + i0 ≤ i'
        omega
      · rw [if_neg (show ¬ (b, i', C', v').1 = true from o)]
        exact wf_no w.1
    · rw [if_neg c]
      exact ⟨h1, fun _ => ⟨h2, h3⟩⟩
theorem tchn_wf {sub : Nat → Pr} {t : Nat} (hs : ∀ i, i ≤ N → twf N i (sub i)) : ∀ i, i ≤ N → twf N i (chn (chs B N) sub t i) := by
  intro i hi
  unfold chn
  have w := hs i hi
  generalize sub i = R at w
  obtain ⟨b, i', C', v'⟩ := R
  by_cases o : b = true
  · rw [if_pos (show (b, i', C', v').1 = true from o)]
    exact tlp_wf hs _ _ _ _ w.1 (w.2 o).1 (w.2 o).2
  · rw [if_neg (show ¬ (b, i', C', v').1 = true from o)]
    exact wf_no w.1
theorem tlv_wf {op : Nat → Pr} (ho : ∀ i, i ≤ N → twf N i (op i)) : ∀ j i, i ≤ N → twf N i (tlv (chs B N) op j i)
  | 0 => ho
  | j + 1 => tchn_wf (tlv_wf ho j)
theorem tnum_wf : ∀ (m i : Nat) (a : Int32), i ≤ N → i ≤ (tnum (chs B N) m i a).1 ∧ (tnum (chs B N) m i a).1 ≤ N
  | 0, i, a, h => ⟨Nat.le_refl _, h⟩
  | m + 1, i, a, h => by
    unfold tnum
    by_cases c1 : chs B N i < 48
    · rw [if_pos c1]; exact ⟨Nat.le_refl _, h⟩
    · by_cases c2 : 57 < chs B N i
      · rw [if_neg c1, if_pos c2]; exact ⟨Nat.le_refl _, h⟩
      · rw [if_neg c1, if_neg c2]
        have hi := chs_in (B := B) (N := N) (i := i) (fun z => c1 (by rw [z]; decide))
        have w := tnum_wf m (i + 1) (a * 10 + chs B N i - 48) hi
        exact ⟨Nat.le_of_succ_le w.1, w.2⟩
theorem nmv_ne {c : Int32} (h : 0 ≤ nmv c) : c ≠ -1 ∧ c ≠ 0 := by
  refine ⟨fun z => ?_, fun z => ?_⟩ <;> rw [z] at h <;> exact absurd h (by decide)
theorem op0_wf : ∀ i, i ≤ N → twf N i (op0 (chs B N) i) := by
  intro i hi
  unfold op0
  by_cases c1 : 48 ≤ chs B N i ∧ chs B N i ≤ 57
  · rw [if_pos c1]
    have h2 := chs_in (B := B) (N := N) (i := i) (fun z => by rw [z] at c1; exact absurd c1.1 (by decide))
    have e : tnum (chs B N) 4 i 0 = tnum (chs B N) 3 (i + 1) (0 * 10 + chs B N i - 48) := by
      rw [tnum]
      rw [if_neg (Int32.not_lt.mpr c1.1), if_neg (Int32.not_lt.mpr c1.2)]
    have w := tnum_wf (B := B) 3 (i + 1) (0 * 10 + chs B N i - 48) h2
    rw [e]
    generalize tnum (chs B N) 3 (i + 1) (0 * 10 + chs B N i - 48) = R at w
    obtain ⟨i', a⟩ := R
    have w1 : i + 1 ≤ i' := w.1
    exact wf_yes (show i' ≤ N from w.2) (show i < i' from w1) (show 1 + i ≤ i' by omega)
  · rw [if_neg c1]
    by_cases c2 : 0 ≤ nmv (chs B N i)
    · rw [if_pos c2]
      have h2 := chs_in (nmv_ne c2).1
      exact wf_yes h2 (Nat.lt_succ_self i) (Nat.le_of_eq (Nat.add_comm 1 i))
    · rw [if_neg c2]
      exact wf_no hi
theorem opn_ne {c : Int32} (h : opn c) : c ≠ -1 ∧ c ≠ 0 := by
  rcases h with h | h | h <;> rw [h] <;> decide
theorem tOP_wf : ∀ r i, i ≤ N → twf N i (OP (chs B N) r i)
  | 0 => op0_wf
  | r + 1 => by
    intro i hi
    rw [OP]
    by_cases c : opn (chs B N i)
    · have h2 := chs_in (opn_ne c).1
      rw [if_pos c]
      by_cases c2 : chs B N i = 40
      · rw [if_pos c2]
        exact cls_wf (tlv_wf (tOP_wf r) 5 (i + 1) h2)
      · rw [if_neg c2]
        exact sgn_wf (tOP_wf r (i + 1) h2)
    · rw [if_neg c]
      exact op0_wf i hi
end WFP
def kx (B : Nat → Int32) (N i d : Nat) (q : mm_Q) : Prop := (q.1 28 2).toInt = N ∧ (q.1 28 3).toInt = i ∧ (q.1 28 4).toInt = d ∧ ∀ j, j < N → q.1 29 j = B j
def kg (q q' : mm_Q) : Prop := fr [28, 30] q q' ∧ ∀ j, j ≠ 3 → j ≠ 4 → q'.1 28 j = q.1 28 j
def kn (d : Nat) (C : List Int32) (q q' : mm_Q) : Prop := kg q q' ∧ (∀ k, k < d → q'.1 30 k = q.1 30 k) ∧ ∀ k, k < C.length → q'.1 30 (d + k) = C.getD k 0
def ko (B : Nat → Int32) (N d : Nat) (R : Pr) (q : mm_Q) (o : Option (Int32 × mm_Q)) : Prop := (R.1 = true → ∃ q', o = some (1, q') ∧ kx B N R.2.1 (d + R.2.2.1.length) q' ∧ kn d R.2.2.1 q q') ∧ (R.1 = false → ∃ (q' : mm_Q) (d' : Nat), o = some (0, q') ∧ kx B N R.2.1 d' q' ∧ kg q q')
def kR (B : Nat → Int32) (N : Nat) (P : Nat → Pr) (f : mm_Q → Option (Int32 × mm_Q)) : Prop := ∀ q i d, kx B N i d q → i ≤ N → d ≤ i → ko B N d (P i) q (f q)
theorem kg_rfl (q : mm_Q) : kg q q := ⟨fr_rfl _ _, fun _ _ _ => rfl⟩
theorem kg_trans {q q1 q2 : mm_Q} (h1 : kg q q1) (h2 : kg q1 q2) : kg q q2 := ⟨fr_trans h1.1 h2.1, fun j a b => (h2.2 j a b).trans (h1.2 j a b)⟩
theorem kn_rfl (d : Nat) (q : mm_Q) : kn d [] q q := ⟨kg_rfl q, fun _ _ => rfl, fun k hk => absurd hk (Nat.not_lt_zero k)⟩
theorem kn_trans {d : Nat} {C C2 : List Int32} {q q1 q2 : mm_Q} (h1 : kn d C q q1) (h2 : kn (d + C.length) C2 q1 q2) : kn d (C ++ C2) q q2 := by
  refine ⟨kg_trans h1.1 h2.1, fun k hk => (h2.2.1 k (by omega)).trans (h1.2.1 k hk), fun k hk => ?_⟩
  rw [List.length_append] at hk
  by_cases c : k < C.length
  · rw [h2.2.1 (d + k) (by omega), h1.2.2 k c, List.getD_eq_getElem?_getD, List.getD_eq_getElem?_getD, List.getElem?_append_left c]
  · have := h2.2.2 (k - C.length) (by omega)
    rw [show d + C.length + (k - C.length) = d + k by omega] at this
    rw [this, List.getD_eq_getElem?_getD, List.getD_eq_getElem?_getD, List.getElem?_append_right (by omega)]
section KREAD
variable {B : Nat → Int32} {N i d : Nat} {q : mm_Q}
theorem k_letter (hN : N ≤ 120) (h : kx B N i d q) (hi : i ≤ N) : x9_letter q = some (chs B N i, q) := by
  unfold x9_letter chs
  rw [if_neg (by rw [lt32, ti0]; have := h.2.1; omega)]
  by_cases c : i < N
  · rw [if_neg (by rw [le32]; have := h.1; have := h.2.1; omega), mm_ck_t (mm_inb_c h.2.1 (by omega)), mm_tcn h.2.1, if_pos c, h.2.2.2 i c]
  · rw [if_pos (by rw [le32]; have := h.1; have := h.2.1; omega), if_neg c]
theorem k_next (hN : N ≤ 120) (h : kx B N i d q) (hi : i ≤ N) : kx B N (i + 1) d (mm_si q 28 3 (q.1 28 3 + 1)) ∧ kn d [] q (mm_si q 28 3 (q.1 28 3 + 1)) := by
  refine ⟨⟨?_, ?_, ?_, ?_⟩, ⟨fr_si _ _ _ (by decide), fun j a b => ?_⟩, fun k hk => ?_, fun k hk => absurd hk (Nat.not_lt_zero k)⟩
  · rw [mm_si_self, upd_ne _ _ _ (by decide)]; exact h.1
  · rw [mm_si_self, upd_self]; exact mm_inc1 h.2.1 (by omega)
  · rw [mm_si_self, upd_ne _ _ _ (by decide)]; exact h.2.2.1
  · rw [mm_si_ne _ _ _ _ (by decide)]; exact h.2.2.2
  · rw [mm_si_self, upd_ne _ _ _ a]
  · rw [mm_si_ne _ _ _ _ (by decide)]
theorem k_draw (h : kx B N i d q) (hd : d < 200) (x : Int32) : ∃ q', x9_draw x q = some ((), q') ∧ kx B N i (d + 1) q' ∧ kn d [x] q q' := by
  refine ⟨mm_si (mm_si q 30 d x) 28 4 (q.1 28 4 + 1), ?_, ⟨?_, ?_, ?_, ?_⟩, ⟨fr_trans (fr_si _ _ _ (by decide)) (fr_si _ _ _ (by decide)), fun j a b => ?_⟩, fun k hk => ?_, fun k hk => ?_⟩
  · unfold x9_draw
    rw [if_neg (by rw [lt32, ti0]; have := h.2.2.1; omega), if_neg (by rw [le32, ti200]; have := h.2.2.1; omega), mm_ck_t (mm_inb_c h.2.2.1 hd), mm_lt_s, mm_tcn h.2.2.1, mm_lt_s, mm_si_ne _ _ _ _ (by decide)]
  · rw [mm_si_self, upd_ne _ _ _ (by decide), mm_si_ne _ _ _ _ (by decide)]; exact h.1
  · rw [mm_si_self, upd_ne _ _ _ (by decide), mm_si_ne _ _ _ _ (by decide)]; exact h.2.1
  · rw [mm_si_self, upd_self]; exact mm_inc1 h.2.2.1 (by omega)
  · rw [mm_si_ne _ _ _ _ (by decide), mm_si_ne _ _ _ _ (by decide)]; exact h.2.2.2
  · rw [mm_si_self, upd_ne _ _ _ b, mm_si_ne _ _ _ _ (by decide)]
  · rw [mm_si_ne _ _ _ _ (by decide), mm_si_self, upd_ne _ _ _ (by omega)]
  · have : k = 0 := Nat.lt_one_iff.mp hk
    subst this
    rw [mm_si_ne _ _ _ _ (by decide), mm_si_self]
    exact upd_self _ _ _
end KREAD
theorem nameOf_eq (c : Int32) (q : mm_Q) : x5_nameOf c q = some (nmv c, q) := by
  unfold x5_nameOf nmv
  by_cases h1 : c = 97
  · rw [if_pos h1, if_pos h1]
  rw [if_neg h1, if_neg h1]
  by_cases h1 : c = 101
  · rw [if_pos h1, if_pos h1]
  rw [if_neg h1, if_neg h1]
  by_cases h1 : c = 112
  · rw [if_pos h1, if_pos h1]
  rw [if_neg h1, if_neg h1]
  by_cases h1 : c = 116
  · rw [if_pos h1, if_pos h1]
  rw [if_neg h1, if_neg h1]
  by_cases h1 : c = 119
  · rw [if_pos h1, if_pos h1]
  rw [if_neg h1, if_neg h1]
  by_cases h1 : c = 122
  · rw [if_pos h1, if_pos h1]
  rw [if_neg h1, if_neg h1]
theorem mm_p_pos {P : Prop} [Decidable P] (h : P) : mm_p P = 1 := if_pos h
theorem mm_p_neg {P : Prop} [Decidable P] (h : ¬ P) : mm_p P = 0 := if_neg h
theorem isSignOf_eq {a1 : Int32} {t : Nat} (h : a1.toInt = t) (ht : t ≤ 4) (c : Int32) (q : mm_Q) : x9_isSignOf a1 c q = some (mm_p (sg t c), q) := by
  have e := mm_ofn h
  subst e
  unfold x9_isSignOf
  match t, ht with
  | 0, _ =>
    rw [if_pos (by decide)]
    by_cases e : c = 124
    · rw [if_pos e, mm_p_pos (Or.inl ⟨rfl, e⟩)]
    · rw [if_neg e, mm_p_neg (by rintro (z | z | z | z | z) <;> first | exact e z.2 | exact absurd z.1 (by decide))]
  | 1, _ =>
    rw [if_neg (by decide), if_pos (by decide)]
    by_cases e : c = 38
    · rw [if_pos e, mm_p_pos (Or.inr (Or.inl ⟨rfl, e⟩))]
    · rw [if_neg e, mm_p_neg (by rintro (z | z | z | z | z) <;> first | exact e z.2 | exact absurd z.1 (by decide))]
  | 2, _ =>
    rw [if_neg (by decide), if_neg (by decide), if_pos (by decide)]
    by_cases e : c = 60
    · rw [if_pos e, mm_p_pos (Or.inr (Or.inr (Or.inl ⟨rfl, Or.inl e⟩)))]
    rw [if_neg e]
    by_cases e2 : c = 61
    · rw [if_pos e2, mm_p_pos (Or.inr (Or.inr (Or.inl ⟨rfl, Or.inr (Or.inl e2)⟩)))]
    rw [if_neg e2]
    by_cases e3 : c = 62
    · rw [if_pos e3, mm_p_pos (Or.inr (Or.inr (Or.inl ⟨rfl, Or.inr (Or.inr e3)⟩)))]
    rw [if_neg e3, mm_p_neg (by rintro (z | z | z | z | z) <;> first | exact z.2.elim e (fun w => w.elim e2 e3) | exact absurd z.1 (by decide))]
  | 3, _ =>
    rw [if_neg (by decide), if_neg (by decide), if_neg (by decide), if_pos (by decide)]
    by_cases e : c = 43
    · rw [if_pos e, mm_p_pos (Or.inr (Or.inr (Or.inr (Or.inl ⟨rfl, Or.inl e⟩))))]
    rw [if_neg e]
    by_cases e2 : c = 45
    · rw [if_pos e2, mm_p_pos (Or.inr (Or.inr (Or.inr (Or.inl ⟨rfl, Or.inr e2⟩))))]
    rw [if_neg e2, mm_p_neg (by rintro (z | z | z | z | z) <;> first | exact z.2.elim e e2 | exact absurd z.1 (by decide))]
  | 4, _ =>
    rw [if_neg (by decide), if_neg (by decide), if_neg (by decide), if_neg (by decide)]
    by_cases e : c = 42
    · rw [if_pos e, mm_p_pos (Or.inr (Or.inr (Or.inr (Or.inr ⟨rfl, Or.inl e⟩))))]
    rw [if_neg e]
    by_cases e2 : c = 47
    · rw [if_pos e2, mm_p_pos (Or.inr (Or.inr (Or.inr (Or.inr ⟨rfl, Or.inr (Or.inl e2)⟩))))]
    rw [if_neg e2]
    by_cases e3 : c = 37
    · rw [if_pos e3, mm_p_pos (Or.inr (Or.inr (Or.inr (Or.inr ⟨rfl, Or.inr (Or.inr e3)⟩))))]
    rw [if_neg e3, mm_p_neg (by rintro (z | z | z | z | z) <;> first | exact z.2.elim e (fun w => w.elim e2 e3) | exact absurd z.1 (by decide))]
section KCHAIN
variable {B : Nat → Int32} {N : Nat}
theorem k_loop (hN : N ≤ 120) {P : Nat → Pr} {rc : Nat → Int32 → Int32 → mm_Q → Option (Int32 × mm_Q)} {a1 a2 a3 : Int32} {t : Nat} (ht : a1.toInt = t) (h4 : t ≤ 4) (hP : kR B N P (rc 0 (a1 + 1) a2)) (hw : ∀ i, i ≤ N → twf N i (P i)) {q0 : mm_Q} {d0 : Nat} :
    ∀ (m n : Nat) (a4 : Int32) (q : mm_Q) (i : Nat) (C : List Int32) (v : mm_F), m < n → a4.toInt + m = a3.toInt → kx B N i (d0 + C.length) q → kn d0 C q0 q → d0 + C.length ≤ i → i ≤ N → ko B N d0 (tlp (chs B N) P t m i C v) q0 (x9_isChain_h39 rc n a1 a2 a3 a4 q)
  | 0, n + 1, a4, q, i, C, v, _, ha, hk, hn, _, _ => by
    unfold x9_isChain_h39 tlp
    rw [if_pos (show a3 ≤ a4 by rw [le32]; omega)]
    exact ⟨fun _ => ⟨q, rfl, hk, hn⟩, fun z => absurd z.symm Bool.false_ne_true⟩
  | m + 1, n + 1, a4, q, i, C, v, hmn, ha, hk, hn, hd, hi => by
    have ha3 := mm_rng a3
    unfold x9_isChain_h39 tlp
    rw [if_neg (show ¬ a3 ≤ a4 by rw [le32]; omega), k_letter hN hk hi, mm_cl_s, isSignOf_eq ht h4, mm_cl_s]
    by_cases s : sg t (chs B N i)
    · have hi2 := chs_in (sg_ne s).1
      rw [if_neg (show ¬ mm_p (sg t (chs B N i)) = 0 by rw [mm_p_pos s]; decide), if_pos s, k_letter hN hk hi, mm_cl_s, mm_lt_s]
      obtain ⟨hk1, hn1⟩ := k_next hN hk hi
      have r := hP _ (i + 1) _ hk1 hi2 (by omega)
      have w := hw (i + 1) hi2
      generalize mm_si q 28 3 (q.1 28 3 + 1) = q1 at hk1 hn1 r
      generalize P (i + 1) = R at r w
      obtain ⟨b, i', C', v'⟩ := R
      by_cases o : b = true
      · subst o
        obtain ⟨q2, e2, hk2, hn2⟩ := r.1 rfl
        have w1 : i' ≤ N := w.1
        have w2 : i + 1 < i' ∧ C'.length + (i + 1) ≤ i' := w.2 rfl
        rw [e2, mm_cl_s, if_neg (show ¬ (1 : Int32) = 0 by decide), if_pos (show (true, i', C', v').1 = true from rfl)]
        obtain ⟨q3, e3, hk3, hn3⟩ := k_draw hk2 (show d0 + C.length + C'.length < 200 by omega) (-(chs B N i))
        rw [e3, mm_cl_s]
        have hn4 : kn d0 (C ++ C') q0 q2 := kn_trans hn (by have := kn_trans hn1 (show kn (d0 + C.length + ([] : List Int32).length) C' q1 q2 from hn2); exact this)
        have hn5 : kn d0 (C ++ C' ++ [-(chs B N i)]) q0 q3 := kn_trans hn4 (by rw [List.length_append, ← Nat.add_assoc]; exact hn3)
        have hl : d0 + (C ++ C' ++ [-(chs B N i)]).length = d0 + C.length + C'.length + 1 := by
          rw [List.length_append, List.length_append]
          show d0 + (C.length + C'.length + 1) = _
          omega
        exact k_loop hN ht h4 hP hw m n (a4 + 1) q3 i' _ _ (by omega) (by rw [mm_add_ti (by rw [show (1 : Int32).toInt = 1 by decide]; have := mm_rng a4; omega) (by rw [show (1 : Int32).toInt = 1 by decide]; omega), show (1 : Int32).toInt = 1 by decide]; omega) (by rw [hl]; exact hk3) hn5 (by rw [hl]; omega) w1
      · have o2 : b = false := by cases b with
          | true => exact absurd rfl o
          | false => rfl
        subst o2
        obtain ⟨q2, d2, e2, hk2, hn2⟩ := r.2 rfl
        rw [e2, mm_cl_s, if_pos (show (0 : Int32) = 0 from rfl), if_neg (show ¬ (false, i', C', v').1 = true from Bool.false_ne_true)]
        exact ⟨fun z => absurd z Bool.false_ne_true, fun _ => ⟨q2, d2, rfl, hk2, kg_trans hn.1 (kg_trans hn1.1 hn2)⟩⟩
    · rw [if_pos (mm_p_neg s), if_neg s]
      exact ⟨fun _ => ⟨q, rfl, hk, hn⟩, fun z => absurd z.symm Bool.false_ne_true⟩
theorem k_chain (hN : N ≤ 120) {P : Nat → Pr} {rc : Nat → Int32 → Int32 → mm_Q → Option (Int32 × mm_Q)} {a1 a2 : Int32} {t : Nat} (ht : a1.toInt = t) (h4 : t ≤ 4) (hP : kR B N P (rc 0 (a1 + 1) a2)) (hw : ∀ i, i ≤ N → twf N i (P i)) : kR B N (chn (chs B N) P t) (x9_isChain rc a1 a2) := by
  intro q i d hk hi hd
  unfold x9_isChain chn
  have r := hP q i d hk hi hd
  have w := hw i hi
  rw [if_pos (show a1 ≤ 4 by rw [le32, ht]; show (t : Int) ≤ 4; omega)]
  generalize P i = R at r w
  obtain ⟨b, i', C', v'⟩ := R
  by_cases o : b = true
  · subst o
    obtain ⟨q2, e2, hk2, hn2⟩ := r.1 rfl
    have w1 : i' ≤ N := w.1
    have w2 : i < i' ∧ C'.length + i ≤ i' := w.2 rfl
    rw [e2, mm_cl_s, if_neg (show ¬ (1 : Int32) = 0 by decide), if_pos (show (true, i', C', v').1 = true from rfl)]
    unfold x9_isChain_j35
    by_cases c : t = 2
    · rw [if_pos (show a1 = 2 from Int32.toInt_inj.mp (by rw [ht]; subst c; rfl)), if_pos c]
      exact k_loop hN ht h4 hP hw 1 mm_fu 0 q2 i' C' v' (by decide) (by decide) hk2 hn2 (by omega) w1
    · have c2 : ¬ a1 = 2 := fun z => c (by
        have : a1.toInt = 2 := by rw [z]; rfl
        omega)
      rw [if_neg c2, if_neg c]
      exact k_loop hN ht h4 hP hw 120 mm_fu 0 q2 i' C' v' (by decide) (by decide) hk2 hn2 (by omega) w1
  · have o2 : b = false := by cases b with
      | true => exact absurd rfl o
      | false => rfl
    subst o2
    obtain ⟨q2, d2, e2, hk2, hn2⟩ := r.2 rfl
    rw [e2, mm_cl_s, if_pos (show (0 : Int32) = 0 from rfl), if_neg (show ¬ (false, i', C', v').1 = true from Bool.false_ne_true)]
    exact ⟨fun z => absurd z Bool.false_ne_true, fun _ => ⟨q2, d2, rfl, hk2, hn2⟩⟩
theorem k_lv (hN : N ≤ 120) {op : Nat → Pr} {F : Nat} {a2 : Int32} (ho : kR B N op (g_x9_isChain F 1 a2 0)) (hw : ∀ i, i ≤ N → twf N i (op i)) : ∀ (j : Nat) (a1 : Int32), a1.toInt + j = 5 → j ≤ 5 → kR B N (tlv (chs B N) op j) (g_x9_isChain (F + 1 + j) 0 a1 a2)
  | 0, a1, ha, _ => by
    intro q i d hk hi hd
    have r := ho q i d hk hi hd
    show ko B N d (op i) q (x9_isChain (g_x9_isChain F) a1 a2 q)
    unfold x9_isChain
    rw [if_neg (show ¬ a1 ≤ 4 by rw [le32]; show ¬ a1.toInt ≤ 4; omega)]
    generalize op i = R at r
    obtain ⟨b, i', C', v'⟩ := R
    cases b with
    | true =>
      obtain ⟨q2, e2, hk2, hn2⟩ := r.1 rfl
      rw [e2, mm_cl_s, mm_ck_t (by decide)]
      exact ⟨fun _ => ⟨q2, rfl, hk2, hn2⟩, fun z => absurd z.symm Bool.false_ne_true⟩
    | false =>
      obtain ⟨q2, d2, e2, hk2, hn2⟩ := r.2 rfl
      rw [e2, mm_cl_s, mm_ck_t (by decide)]
      exact ⟨fun z => absurd z Bool.false_ne_true, fun _ => ⟨q2, d2, rfl, hk2, hn2⟩⟩
  | j + 1, a1, ha, hj => by
    have hr := mm_rng a1
    have e1 : (a1 + 1).toInt = a1.toInt + 1 := by
      rw [mm_add_ti (by rw [show (1 : Int32).toInt = 1 by decide]; omega) (by rw [show (1 : Int32).toInt = 1 by decide]; omega)]
      rfl
    exact k_chain (rc := g_x9_isChain (F + 1 + j)) hN (t := 4 - j) (by omega) (by omega) (k_lv hN ho hw j (a1 + 1) (by omega) (by omega)) (tlv_wf hw j)
end KCHAIN
theorem isDigit_eq (c : Int32) (q : mm_Q) : x9_isDigit c q = some (mm_p (48 ≤ c ∧ c ≤ 57), q) := by
  unfold x9_isDigit
  by_cases h1 : c < 48
  · rw [if_pos h1, mm_p_neg (fun z => Int32.not_le.mpr h1 z.1)]
  · rw [if_neg h1]
    by_cases h2 : 57 < c
    · rw [if_pos h2, mm_p_neg (fun z => Int32.not_le.mpr h2 z.2)]
    · rw [if_neg h2, mm_p_pos ⟨Int32.not_lt.mp h1, Int32.not_lt.mp h2⟩]
section KOPER
variable {B : Nat → Int32} {N : Nat}
theorem ko_pre {d : Nat} {R : Pr} {q q1 : mm_Q} {o : Option (Int32 × mm_Q)} (h : kn d [] q q1) (r : ko B N d R q1 o) : ko B N d R q o := by
  refine ⟨fun z => ?_, fun z => ?_⟩
  · obtain ⟨q2, e2, hk2, hn2⟩ := r.1 z
    exact ⟨q2, e2, hk2, kn_trans h hn2⟩
  · obtain ⟨q2, d2, e2, hk2, hn2⟩ := r.2 z
    exact ⟨q2, d2, e2, hk2, kg_trans h.1 hn2⟩
theorem ko_bb {d : Nat} {R : Pr} {q : mm_Q} {o : Option (Int32 × mm_Q)} (r : ko B N d R q o) : ko B N d R q (mm_cl o (fun r q => mm_ck (mm_bb r) (some (r, q)))) := by
  refine ⟨fun z => ?_, fun z => ?_⟩
  · obtain ⟨q2, e2, hk2, hn2⟩ := r.1 z
    exact ⟨q2, by rw [e2, mm_cl_s, mm_ck_t (by decide)], hk2, hn2⟩
  · obtain ⟨q2, d2, e2, hk2, hn2⟩ := r.2 z
    exact ⟨q2, d2, by rw [e2, mm_cl_s, mm_ck_t (by decide)], hk2, hn2⟩
theorem ko_no {d i : Nat} {q : mm_Q} (hk : kx B N i d q) : ko B N d (false, i, [], F_0) q (some (0, q)) := ⟨fun z => absurd z Bool.false_ne_true, fun _ => ⟨q, d, rfl, hk, kg_rfl q⟩⟩
theorem k_num (hN : N ≤ 120) : ∀ (m n : Nat) (a a2 : Int32) (q : mm_Q) (i d : Nat), m < n → a2.toInt + m = 4 → kx B N i d q → i ≤ N → ∃ q', x9_drawNumber_h4 n a a2 q = x9_drawNumber_j48 (tnum (chs B N) m i a).2 q' ∧ kx B N (tnum (chs B N) m i a).1 d q' ∧ kn d [] q q'
  | 0, n + 1, a, a2, q, i, d, _, ha, hk, hi => by
    unfold x9_drawNumber_h4 tnum
    rw [if_pos (show (4 : Int32) ≤ a2 by rw [le32]; show (4 : Int) ≤ a2.toInt; omega)]
    exact ⟨q, rfl, hk, kn_rfl d q⟩
  | m + 1, n + 1, a, a2, q, i, d, hm, ha, hk, hi => by
    have hr := mm_rng a2
    unfold x9_drawNumber_h4 tnum
    rw [if_neg (show ¬ (4 : Int32) ≤ a2 by rw [le32]; show ¬ (4 : Int) ≤ a2.toInt; omega), k_letter hN hk hi, mm_cl_s, isDigit_eq, mm_cl_s]
    by_cases c1 : chs B N i < 48
    · rw [if_pos (mm_p_neg (fun z => Int32.not_le.mpr c1 z.1)), if_pos c1]
      exact ⟨q, rfl, hk, kn_rfl d q⟩
    · by_cases c2 : 57 < chs B N i
      · rw [if_pos (mm_p_neg (fun z => Int32.not_le.mpr c2 z.2)), if_neg c1, if_pos c2]
        exact ⟨q, rfl, hk, kn_rfl d q⟩
      · have hi2 := chs_in (B := B) (N := N) (i := i) (fun z => c1 (by rw [z]; decide))
        rw [if_neg (by rw [mm_p_pos ⟨Int32.not_lt.mp c1, Int32.not_lt.mp c2⟩]; decide), k_letter hN hk hi, mm_cl_s, mm_lt_s, if_neg c1, if_neg c2]
        obtain ⟨hk1, hn1⟩ := k_next hN hk hi
        have e1 : (a2 + 1).toInt = a2.toInt + 1 := by
          rw [mm_add_ti (by rw [show (1 : Int32).toInt = 1 by decide]; omega) (by rw [show (1 : Int32).toInt = 1 by decide]; omega)]
          rfl
        obtain ⟨q2, e2, hk2, hn2⟩ := k_num hN m n (a * 10 + chs B N i - 48) (a2 + 1) _ (i + 1) d (by omega) (by omega) hk1 hi2
        exact ⟨q2, e2, hk2, kn_trans hn1 hn2⟩
theorem k_op0 (hN : N ≤ 120) {rc : Nat → Int32 → Int32 → mm_Q → Option (Int32 × mm_Q)} {a1 : Int32} {q : mm_Q} {i d : Nat} (hk : kx B N i d q) (hi : i ≤ N) (hd : d ≤ i) (ho : ¬ opn (chs B N i) ∨ ¬ a1 < 6) : ko B N d (op0 (chs B N) i) q (x9_isOperand rc a1 q) := by
  unfold x9_isOperand op0
  rw [k_letter hN hk hi, mm_cl_s, isDigit_eq, mm_cl_s]
  by_cases c : 48 ≤ chs B N i ∧ chs B N i ≤ 57
  · rw [if_pos c, if_neg (by rw [mm_p_pos c]; decide)]
    unfold x9_drawNumber
    obtain ⟨q2, e2, hk2, hn2⟩ := k_num hN 4 mm_fu 0 0 q i d (by decide) (by decide) hk hi
    rw [e2]
    unfold x9_drawNumber_j48
    obtain ⟨q3, e3, hk3, hn3⟩ := k_draw hk2 (show d < 200 by omega) (tnum (chs B N) 4 i 0).2
    rw [e3, mm_cl_s, mm_cl_s]
    exact ⟨fun _ => ⟨q3, rfl, hk3, kn_trans hn2 hn3⟩, fun z => absurd z.symm Bool.false_ne_true⟩
  · rw [if_neg c, if_pos (mm_p_neg c), nameOf_eq, mm_cl_s]
    by_cases n : 0 ≤ nmv (chs B N i)
    · rw [if_pos n, if_neg (Int32.not_lt.mpr n), mm_lt_s]
      obtain ⟨hk1, hn1⟩ := k_next hN hk hi
      obtain ⟨q3, e3, hk3, hn3⟩ := k_draw hk1 (show d < 200 by omega) (10000 + nmv (chs B N i))
      rw [e3, mm_cl_s]
      exact ⟨fun _ => ⟨q3, rfl, hk3, kn_trans hn1 hn3⟩, fun z => absurd z.symm Bool.false_ne_true⟩
    · rw [if_neg n, if_pos (Int32.not_le.mp n)]
      have j : ∀ c, ¬ a1 < 6 → x9_isOperand_j66 rc a1 c q = some (0, q) := by
        intro c z
        unfold x9_isOperand_j66
        rw [if_neg z]
      rcases ho with ho | ho
      · rw [if_neg (fun z => ho (Or.inl z)), if_neg (fun z => ho (Or.inr (Or.inl z))), if_neg (fun z => ho (Or.inr (Or.inr z)))]
        exact ko_no hk
      · rw [j _ ho]
        by_cases o1 : chs B N i = 40
        · rw [if_pos o1]; exact ko_no hk
        · by_cases o2 : chs B N i = 33
          · rw [if_neg o1, if_pos o2]; exact ko_no hk
          · by_cases o3 : chs B N i = 45
            · rw [if_neg o1, if_neg o2, if_pos o3]; exact ko_no hk
            · rw [if_neg o1, if_neg o2, if_neg o3]; exact ko_no hk
theorem k_opn (hN : N ≤ 120) {rc : Nat → Int32 → Int32 → mm_Q → Option (Int32 × mm_Q)} {a1 : Int32} {q : mm_Q} {i d : Nat} {P1 : Nat → Pr} {P2 : Int32 → Nat → Pr} (hk : kx B N i d q) (hi : i ≤ N) (hd : d ≤ i) (ho : opn (chs B N i)) (h6 : a1 < 6) (h1 : kR B N P1 (rc 2 (a1 + 1) 0)) (h2 : ∀ c, kR B N (P2 c) (rc 3 c (a1 + 1))) : ko B N d (if chs B N i = 40 then P1 (i + 1) else P2 (chs B N i) (i + 1)) q (x9_isOperand rc a1 q) := by
  have hi2 := chs_in (opn_ne ho).1
  obtain ⟨hk1, hn1⟩ := k_next hN hk hi
  have nd : ¬ (48 ≤ chs B N i ∧ chs B N i ≤ 57) := by
    intro z
    rcases ho with ho | ho | ho <;> rw [ho] at z <;> exact absurd z.1 (by decide)
  have nn : nmv (chs B N i) < 0 := by
    rcases ho with ho | ho | ho <;> rw [ho] <;> decide
  unfold x9_isOperand
  rw [k_letter hN hk hi, mm_cl_s, isDigit_eq, mm_cl_s, if_pos (mm_p_neg nd), nameOf_eq, mm_cl_s, if_pos nn]
  have j : ko B N d (if chs B N i = 40 then P1 (i + 1) else P2 (chs B N i) (i + 1)) q (x9_isOperand_j66 rc a1 (chs B N i) q) := by
    unfold x9_isOperand_j66
    rw [if_pos h6, mm_lt_s]
    by_cases c : chs B N i = 40
    · rw [if_pos c, if_pos c]
      exact ko_pre hn1 (ko_bb (h1 _ _ _ hk1 hi2 (by omega)))
    · rw [if_neg c, if_neg c]
      exact ko_pre hn1 (ko_bb (h2 _ _ _ _ hk1 hi2 (by omega)))
  by_cases o1 : chs B N i = 40
  · rw [if_pos (show chs B N i = 40 from o1)] at j ⊢
    rw [if_pos o1]
    exact j
  · rw [if_neg o1] at j ⊢
    by_cases o2 : chs B N i = 33
    · rw [if_neg o1, if_pos o2]
      exact j
    · by_cases o3 : chs B N i = 45
      · rw [if_neg o1, if_neg o2, if_pos o3]
        exact j
      · rcases ho with ho | ho | ho
        · exact absurd ho o1
        · exact absurd ho o2
        · exact absurd ho o3
theorem k_closed (hN : N ≤ 120) {rc : Nat → Int32 → Int32 → mm_Q → Option (Int32 × mm_Q)} {a1 : Int32} {P : Nat → Pr} (h : kR B N P (rc 0 0 a1)) (hw : ∀ i, i ≤ N → twf N i (P i)) : kR B N (fun i => cls (chs B N) (P i)) (x9_isClosed rc a1) := by
  intro q i d hk hi hd
  have r := h q i d hk hi hd
  have w := hw i hi
  show ko B N d (cls (chs B N) (P i)) q (x9_isClosed rc a1 q)
  unfold x9_isClosed cls
  generalize P i = R at r w
  obtain ⟨b, i', C', v'⟩ := R
  cases b with
  | true =>
    obtain ⟨q2, e2, hk2, hn2⟩ := r.1 rfl
    have w1 : i' ≤ N := w.1
    rw [e2, mm_cl_s, if_neg (show ¬ (1 : Int32) = 0 by decide), if_pos (show (true, i', C', v').1 = true from rfl), k_letter hN hk2 w1, mm_cl_s]
    show ko B N d (if chs B N i' = 41 then (true, i' + 1, C', v') else (false, i', [], F_0)) q (if chs B N i' = 41 then _ else _)
    by_cases c : chs B N i' = 41
    · rw [if_pos c, if_pos c, mm_lt_s]
      obtain ⟨hk1, hn1⟩ := k_next hN hk2 w1
      have hn3 := kn_trans hn2 (show kn (d + C'.length) [] _ _ from ⟨hn1.1, fun k _ => hn1.2.1 k (by assumption), fun k hk => absurd hk (Nat.not_lt_zero k)⟩)
      rw [List.append_nil] at hn3
      exact ⟨fun _ => ⟨_, rfl, hk1, hn3⟩, fun z => absurd z.symm Bool.false_ne_true⟩
    · rw [if_neg c, if_neg c]
      exact ⟨fun z => absurd z Bool.false_ne_true, fun _ => ⟨q2, _, rfl, hk2, hn2.1⟩⟩
  | false =>
    obtain ⟨q2, d2, e2, hk2, hn2⟩ := r.2 rfl
    rw [e2, mm_cl_s, if_pos (show (0 : Int32) = 0 from rfl), if_neg (show ¬ (false, i', C', v').1 = true from Bool.false_ne_true)]
    exact ⟨fun z => absurd z Bool.false_ne_true, fun _ => ⟨q2, d2, rfl, hk2, hn2⟩⟩
theorem k_signed (hN : N ≤ 120) {rc : Nat → Int32 → Int32 → mm_Q → Option (Int32 × mm_Q)} {a2 c : Int32} {P : Nat → Pr} (h : kR B N P (rc 1 a2 0)) (hw : ∀ i, i ≤ N → twf N i (P i)) : kR B N (fun i => sgn c (P i)) (x9_isSigned rc c a2) := by
  intro q i d hk hi hd
  have r := h q i d hk hi hd
  have w := hw i hi
  show ko B N d (sgn c (P i)) q (x9_isSigned rc c a2 q)
  unfold x9_isSigned sgn
  generalize P i = R at r w
  obtain ⟨b, i', C', v'⟩ := R
  cases b with
  | true =>
    obtain ⟨q2, e2, hk2, hn2⟩ := r.1 rfl
    have w1 : i' ≤ N := w.1
    have w2 : i < i' ∧ C'.length + i ≤ i' := w.2 rfl
    rw [e2, mm_cl_s, if_neg (show ¬ (1 : Int32) = 0 by decide), if_pos (show (true, i', C', v').1 = true from rfl)]
    unfold x9_isSigned_j23
    have hk2' : kx B N i' (d + C'.length) q2 := hk2
    have fin : ∀ x : Int32, ∃ q3, x9_draw x q2 = some ((), q3) ∧ kx B N i' (d + (C' ++ [x]).length) q3 ∧ kn d (C' ++ [x]) q q3 := by
      intro x
      obtain ⟨q3, e3, hk3, hn3⟩ := k_draw hk2' (show d + C'.length < 200 by omega) x
      refine ⟨q3, e3, ?_, kn_trans hn2 hn3⟩
      rw [List.length_append]
      exact hk3
    by_cases c5 : c = 45
    · rw [if_pos c5]
      obtain ⟨q3, e3, hk3, hn3⟩ := fin (-1)
      rw [e3, mm_cl_s, if_pos c5, if_pos c5]
      exact ⟨fun _ => ⟨q3, rfl, hk3, hn3⟩, fun z => absurd z.symm Bool.false_ne_true⟩
    · rw [if_neg c5]
      obtain ⟨q3, e3, hk3, hn3⟩ := fin (-c)
      rw [if_neg c5, if_neg c5, e3, mm_cl_s]
      exact ⟨fun _ => ⟨q3, rfl, hk3, hn3⟩, fun z => absurd z.symm Bool.false_ne_true⟩
  | false =>
    obtain ⟨q2, d2, e2, hk2, hn2⟩ := r.2 rfl
    rw [e2, mm_cl_s, if_pos (show (0 : Int32) = 0 from rfl), if_neg (show ¬ (false, i', C', v').1 = true from Bool.false_ne_true)]
    exact ⟨fun z => absurd z Bool.false_ne_true, fun _ => ⟨q2, d2, rfl, hk2, hn2⟩⟩
theorem k_OP (hN : N ≤ 120) : ∀ (r F : Nat) (a1 : Int32), 8 * r < F → a1.toInt + r = 6 → r ≤ 6 → kR B N (OP (chs B N) r) (g_x9_isChain F 1 a1 0)
  | 0, F + 1, a1, _, ha, _ => by
    intro q i d hk hi hd
    exact k_op0 (rc := g_x9_isChain F) hN hk hi hd (Or.inr (by rw [lt32]; show ¬ a1.toInt < 6; omega))
  | r + 1, F + 1, a1, hF, ha, h6 => by
    intro q i d hk hi hd
    have hr := mm_rng a1
    have e1 : (a1 + 1).toInt = a1.toInt + 1 := by
      rw [mm_add_ti (by rw [show (1 : Int32).toInt = 1 by decide]; omega) (by rw [show (1 : Int32).toInt = 1 by decide]; omega)]
      rfl
    rw [OP]
    by_cases c : opn (chs B N i)
    · rw [if_pos c]
      obtain ⟨G, rfl⟩ : ∃ G, F = G + 1 + 5 + 1 := ⟨F - 7, by omega⟩
      have s1 : kR B N (tlv (chs B N) (OP (chs B N) r) 5) (g_x9_isChain (G + 1 + 5) 0 0 (a1 + 1)) := k_lv hN (k_OP hN r G (a1 + 1) (by omega) (by omega) (by omega)) (tOP_wf r) 5 0 (by decide) (Nat.le_refl 5)
      have s2 : kR B N (OP (chs B N) r) (g_x9_isChain (G + 1 + 5) 1 (a1 + 1) 0) := k_OP hN r (G + 1 + 5) (a1 + 1) (by omega) (by omega) (by omega)
      exact k_opn (rc := g_x9_isChain (G + 1 + 5 + 1)) (P1 := fun i => cls (chs B N) (tlv (chs B N) (OP (chs B N) r) 5 i)) (P2 := fun c i => sgn c (OP (chs B N) r i)) hN hk hi hd c (by rw [lt32]; show a1.toInt < 6; omega) (k_closed (rc := g_x9_isChain (G + 1 + 5)) hN s1 (tlv_wf (tOP_wf r) 5)) (fun c => k_signed (rc := g_x9_isChain (G + 1 + 5)) hN s2 (tOP_wf r))
    · rw [if_neg c]
      exact k_op0 (rc := g_x9_isChain F) hN hk hi hd (Or.inl c)
abbrev EX (ch : Nat → Int32) : Nat → Pr := tlv ch (OP ch 6) 5
theorem k_EX (hN : N ≤ 120) : kR B N (EX (chs B N)) (g_x9_isChain 100 0 0 0) := k_lv (F := 94) hN (k_OP hN 6 94 0 (by decide) (by decide) (Nat.le_refl 6)) (tOP_wf 6) 5 0 (by decide) (Nat.le_refl 5)
theorem EX_wf : ∀ i, i ≤ N → twf N i (EX (chs B N) i) := tlv_wf (tOP_wf 6) 5
end KOPER
def tcd (c v : mm_F) (k : mm_F) : mm_F := fun a p z w e t => if c a p z w e t = 0 then k a p z w e t else v a p z w e t
abbrev Ln : Type := Bool × Nat × List Int32 × (mm_F → mm_F)
def xl2 (ch : Nat → Int32) (d : Nat) (R : Pr) : Ln := if R.1 = true then (if ch R.2.1 = 63 then (if (EX ch (R.2.1 + 1)).1 = true then (true, (EX ch (R.2.1 + 1)).2.1, R.2.2.1 ++ ([20000 + Int32.ofNat (d + R.2.2.1.length + 1 + (EX ch (R.2.1 + 1)).2.2.1.length + 1)] ++ ((EX ch (R.2.1 + 1)).2.2.1 ++ [-2])), tcd R.2.2.2 (EX ch (R.2.1 + 1)).2.2.2) else (false, (EX ch (R.2.1 + 1)).2.1, [], fun _ => F_0)) else (true, R.2.1, R.2.2.1 ++ [-2], fun _ => R.2.2.2)) else (false, R.2.1, [], fun _ => F_0)
def tli (ch : Nat → Int32) (d i : Nat) : Ln := xl2 ch d (EX ch i)
def xt2 (ch : Nat → Int32) (N : Nat) (L : Ln) (T : Pr) : Pr := if L.1 = true then (if L.2.1 < N then (if ch L.2.1 = 59 then (if T.1 = true then (true, T.2.1, L.2.2.1 ++ T.2.2.1, L.2.2.2 T.2.2.2) else (false, T.2.1, [], F_0)) else (false, L.2.1, [], F_0)) else (true, L.2.1, L.2.2.1, L.2.2.2 F_0)) else (false, L.2.1, [], F_0)
def ttx (ch : Nat → Int32) (N : Nat) : Nat → Nat → Nat → Pr
  | 0, d, i => (false, i, [], F_0)
  | m + 1, d, i => xt2 ch N (tli ch d i) (ttx ch N m (d + (tli ch d i).2.2.1.length) ((tli ch d i).2.1 + 1))
section KTEXT
variable {B : Nat → Int32} {N : Nat}
theorem kn_patch {d : Nat} {C D : List Int32} {q q' : mm_Q} {y x : Int32} (h : kn d (C ++ ([y] ++ D)) q q') : kn d (C ++ ([x] ++ D)) q (mm_si q' 30 (d + C.length) x) := by
  refine ⟨⟨fr_trans h.1.1 (fr_si _ _ _ (by decide)), fun j a b => ?_⟩, fun k hk => ?_, fun k hk => ?_⟩
  · rw [mm_si_ne _ _ _ _ (by decide)]; exact h.1.2 j a b
  · rw [mm_si_self, upd_ne _ _ _ (by omega)]; exact h.2.1 k hk
  · rw [mm_si_self]
    have hl : (C ++ ([y] ++ D)).length = (C ++ ([x] ++ D)).length := by
      rw [List.length_append, List.length_append, List.length_append, List.length_append]
      rfl
    by_cases c : k = C.length
    · rw [c, upd_self, List.getD_eq_getElem?_getD, List.getElem?_append_right (Nat.le_refl _), Nat.sub_self]
      rfl
    · rw [upd_ne _ _ _ (by omega), h.2.2 k (by rw [hl]; exact hk), List.getD_eq_getElem?_getD, List.getD_eq_getElem?_getD]
      by_cases c2 : k < C.length
      · rw [List.getElem?_append_left c2, List.getElem?_append_left c2]
      · obtain ⟨e, he⟩ : ∃ e, k - C.length = e + 1 := ⟨k - C.length - 1, by omega⟩
        have key : ∀ y : Int32, (C ++ ([y] ++ D))[k]? = D[e]? := by
          intro y
          rw [List.getElem?_append_right (show C.length ≤ k by omega), he]
          rfl
        rw [key, key]
theorem kx_patch {i d j : Nat} {x : Int32} {q : mm_Q} (h : kx B N i d q) : kx B N i d (mm_si q 30 j x) := by
  unfold kx
  rw [mm_si_ne _ _ _ _ (by decide), mm_si_ne _ _ _ _ (by decide)]
  exact h
theorem tli_wf {d i : Nat} (hi : i ≤ N) : (tli (chs B N) d i).2.1 ≤ N ∧ ((tli (chs B N) d i).1 = true → i < (tli (chs B N) d i).2.1 ∧ (tli (chs B N) d i).2.2.1.length + i ≤ (tli (chs B N) d i).2.1 + 1) := by
  have w := EX_wf (B := B) i hi
  unfold tli xl2
  generalize EX (chs B N) i = R at w
  obtain ⟨b, i', C', v'⟩ := R
  have w1 : i' ≤ N := w.1
  cases b with
  | true =>
    have w2 : i < i' ∧ C'.length + i ≤ i' := w.2 rfl
    rw [if_pos (show (true, i', C', v').1 = true from rfl)]
    show (if chs B N i' = 63 then _ else _ : Ln).2.1 ≤ N ∧ ((if chs B N i' = 63 then _ else _ : Ln).1 = true → i < (if chs B N i' = 63 then _ else _ : Ln).2.1 ∧ (if chs B N i' = 63 then _ else _ : Ln).2.2.1.length + i ≤ (if chs B N i' = 63 then _ else _ : Ln).2.1 + 1)
    by_cases c : chs B N i' = 63
    · rw [if_pos c]
      have h2 := chs_in (B := B) (N := N) (i := i') (fun z => by rw [z] at c; exact absurd c (by decide))
      have u := EX_wf (B := B) (i' + 1) h2
      show (if (EX (chs B N) (i' + 1)).1 = true then (true, (EX (chs B N) (i' + 1)).2.1, C' ++ ([20000 + Int32.ofNat (d + C'.length + 1 + (EX (chs B N) (i' + 1)).2.2.1.length + 1)] ++ ((EX (chs B N) (i' + 1)).2.2.1 ++ [-2])), tcd v' (EX (chs B N) (i' + 1)).2.2.2) else (false, (EX (chs B N) (i' + 1)).2.1, [], fun _ => F_0) : Ln).2.1 ≤ N ∧ ((if (EX (chs B N) (i' + 1)).1 = true then (true, (EX (chs B N) (i' + 1)).2.1, C' ++ ([20000 + Int32.ofNat (d + C'.length + 1 + (EX (chs B N) (i' + 1)).2.2.1.length + 1)] ++ ((EX (chs B N) (i' + 1)).2.2.1 ++ [-2])), tcd v' (EX (chs B N) (i' + 1)).2.2.2) else (false, (EX (chs B N) (i' + 1)).2.1, [], fun _ => F_0) : Ln).1 = true → i < (if (EX (chs B N) (i' + 1)).1 = true then (true, (EX (chs B N) (i' + 1)).2.1, C' ++ ([20000 + Int32.ofNat (d + C'.length + 1 + (EX (chs B N) (i' + 1)).2.2.1.length + 1)] ++ ((EX (chs B N) (i' + 1)).2.2.1 ++ [-2])), tcd v' (EX (chs B N) (i' + 1)).2.2.2) else (false, (EX (chs B N) (i' + 1)).2.1, [], fun _ => F_0) : Ln).2.1 ∧ (if (EX (chs B N) (i' + 1)).1 = true then (true, (EX (chs B N) (i' + 1)).2.1, C' ++ ([20000 + Int32.ofNat (d + C'.length + 1 + (EX (chs B N) (i' + 1)).2.2.1.length + 1)] ++ ((EX (chs B N) (i' + 1)).2.2.1 ++ [-2])), tcd v' (EX (chs B N) (i' + 1)).2.2.2) else (false, (EX (chs B N) (i' + 1)).2.1, [], fun _ => F_0) : Ln).2.2.1.length + i ≤ (if (EX (chs B N) (i' + 1)).1 = true then (true, (EX (chs B N) (i' + 1)).2.1, C' ++ ([20000 + Int32.ofNat (d + C'.length + 1 + (EX (chs B N) (i' + 1)).2.2.1.length + 1)] ++ ((EX (chs B N) (i' + 1)).2.2.1 ++ [-2])), tcd v' (EX (chs B N) (i' + 1)).2.2.2) else (false, (EX (chs B N) (i' + 1)).2.1, [], fun _ => F_0) : Ln).2.1 + 1)
      generalize EX (chs B N) (i' + 1) = S at u
      obtain ⟨b2, i2, C2, v2⟩ := S
      have u1 : i2 ≤ N := u.1
      cases b2 with
      | true =>
        have u2 : i' + 1 < i2 ∧ C2.length + (i' + 1) ≤ i2 := u.2 rfl
        rw [if_pos (show (true, i2, C2, v2).1 = true from rfl)]
        refine ⟨u1, fun _ => ⟨show i < i2 by omega, ?_⟩⟩
        rw [List.length_append, List.length_append, List.length_append]
        show C'.length + (1 + (C2.length + 1)) + i ≤ i2 + 1
        omega
      | false =>
        rw [if_neg (show ¬ (false, i2, C2, v2).1 = true from Bool.false_ne_true)]
        exact ⟨u1, fun z => absurd z Bool.false_ne_true⟩
    · rw [if_neg c]
      refine ⟨w1, fun _ => ⟨show i < i' by omega, ?_⟩⟩
      rw [List.length_append]
      show C'.length + 1 + i ≤ i' + 1
      omega
  | false =>
    rw [if_neg (show ¬ (false, i', C', v').1 = true from Bool.false_ne_true)]
    exact ⟨w1, fun z => absurd z Bool.false_ne_true⟩
def kl (B : Nat → Int32) (N d : Nat) (L : Ln) (q : mm_Q) (o : Option (Int32 × mm_Q)) : Prop := (L.1 = true → ∃ q', o = some (1, q') ∧ kx B N L.2.1 (d + L.2.2.1.length) q' ∧ kn d L.2.2.1 q q') ∧ (L.1 = false → ∃ (q' : mm_Q) (d' : Nat), o = some (0, q') ∧ kx B N L.2.1 d' q' ∧ kg q q')
theorem k_line (hN : N ≤ 120) {q : mm_Q} {i d : Nat} (hk : kx B N i d q) (hi : i ≤ N) (hd : d ≤ i) : kl B N d (tli (chs B N) d i) q (x9_isLine q) := by
  unfold x9_isLine tli xl2
  have r := k_EX hN q i d hk hi hd
  have w := EX_wf (B := B) i hi
  generalize EX (chs B N) i = R at r w
  obtain ⟨b, i', C', v'⟩ := R
  cases b with
  | false =>
    obtain ⟨q2, d2, e2, hk2, hn2⟩ := r.2 rfl
    rw [e2, mm_cl_s, if_pos (show (0 : Int32) = 0 from rfl), if_neg (show ¬ (false, i', C', v').1 = true from Bool.false_ne_true)]
    exact ⟨fun z => absurd z Bool.false_ne_true, fun _ => ⟨q2, d2, rfl, hk2, hn2⟩⟩
  | true =>
    obtain ⟨q2, e2, hk2, hn2⟩ := r.1 rfl
    have w1 : i' ≤ N := w.1
    have w2 : i < i' ∧ C'.length + i ≤ i' := w.2 rfl
    have hk2' : kx B N i' (d + C'.length) q2 := hk2
    have hn2' : kn d C' q q2 := hn2
    rw [e2, mm_cl_s, if_neg (show ¬ (1 : Int32) = 0 by decide), if_pos (show (true, i', C', v').1 = true from rfl), k_letter hN hk2 w1, mm_cl_s]
    show kl B N d (if chs B N i' = 63 then (if (EX (chs B N) (i' + 1)).1 = true then (true, (EX (chs B N) (i' + 1)).2.1, C' ++ ([20000 + Int32.ofNat (d + C'.length + 1 + (EX (chs B N) (i' + 1)).2.2.1.length + 1)] ++ ((EX (chs B N) (i' + 1)).2.2.1 ++ [-2])), tcd v' (EX (chs B N) (i' + 1)).2.2.2) else (false, (EX (chs B N) (i' + 1)).2.1, [], fun _ => F_0)) else (true, i', C' ++ [-2], fun _ => v')) q (if chs B N i' = 63 then _ else _)
    by_cases c : chs B N i' = 63
    · rw [if_pos c, if_pos c]
      have h2 := chs_in (B := B) (N := N) (i := i') (fun z => by rw [z] at c; exact absurd c (by decide))
      obtain ⟨q3, e3, hk3, hn3⟩ := k_draw hk2' (show d + C'.length < 200 by omega) 20000
      rw [e3, mm_cl_s, mm_lt_s]
      obtain ⟨hk4, hn4⟩ := k_next hN hk3 w1
      have u := EX_wf (B := B) (i' + 1) h2
      have r5 := k_EX hN _ (i' + 1) _ hk4 h2 (by omega)
      generalize EX (chs B N) (i' + 1) = S at u r5
      obtain ⟨b2, i2, C2, v2⟩ := S
      cases b2 with
      | false =>
        obtain ⟨q5, d5, e5, hk5, hn5⟩ := r5.2 rfl
        rw [e5, mm_cl_s, if_pos (show (0 : Int32) = 0 from rfl), if_neg (show ¬ (false, i2, C2, v2).1 = true from Bool.false_ne_true)]
        exact ⟨fun z => absurd z Bool.false_ne_true, fun _ => ⟨q5, d5, rfl, hk5, kg_trans hn2.1 (kg_trans hn3.1 (kg_trans hn4.1 hn5))⟩⟩
      | true =>
        obtain ⟨q5, e5, hk5, hn5⟩ := r5.1 rfl
        have u1 : i2 ≤ N := u.1
        have u2 : i' + 1 < i2 ∧ C2.length + (i' + 1) ≤ i2 := u.2 rfl
        have hk5' : kx B N i2 (d + C'.length + 1 + C2.length) q5 := hk5
        rw [e5, mm_cl_s, if_neg (show ¬ (1 : Int32) = 0 by decide), if_pos (show (true, i2, C2, v2).1 = true from rfl)]
        unfold x9_isLine_j55
        obtain ⟨q6, e6, hk6, hn6⟩ := k_draw hk5' (show d + C'.length + 1 + C2.length < 200 by omega) (-2)
        have hz := hk2'.2.2.1
        rw [e6, mm_cl_s, if_neg (by rw [lt32, ti0]; omega), if_neg (by rw [le32, ti200]; omega), mm_ck_t (mm_inb_c hz (by omega)), mm_lt_s, mm_tcn hz]
        have ex : q6.1 28 4 = Int32.ofNat (d + C'.length + 1 + C2.length + 1) := mm_ofn hk6.2.2.1
        rw [ex]
        have a1 : kn (d + C'.length) ([20000] ++ (C2 ++ [-2])) q2 q6 := by
          have b1 : kn (d + C'.length + 1) C2 (mm_si q3 28 3 (q3.1 28 3 + 1)) q5 := hn5
          have b2 : kn (d + C'.length + 1) (C2 ++ [-2]) (mm_si q3 28 3 (q3.1 28 3 + 1)) q6 := kn_trans b1 hn6
          have b3 : kn (d + C'.length + 1) ([] ++ (C2 ++ [-2])) q3 q6 := kn_trans hn4 b2
          exact kn_trans hn3 b3
        have a2 : kn d (C' ++ ([20000] ++ (C2 ++ [-2]))) q q6 := kn_trans hn2' a1
        refine ⟨fun _ => ⟨_, rfl, ?_, kn_patch a2⟩, fun z => absurd z.symm Bool.false_ne_true⟩
        have hl : d + (C' ++ ([20000 + Int32.ofNat (d + C'.length + 1 + C2.length + 1)] ++ (C2 ++ [-2]))).length = d + C'.length + 1 + C2.length + 1 := by
          rw [List.length_append, List.length_append, List.length_append]
          show d + (C'.length + (1 + (C2.length + 1))) = _
          omega
        show kx B N i2 (d + (C' ++ ([20000 + Int32.ofNat (d + C'.length + 1 + C2.length + 1)] ++ (C2 ++ [-2]))).length) _
        rw [hl]
        exact kx_patch hk6
    · rw [if_neg c, if_neg c]
      unfold x9_isLine_j55
      obtain ⟨q3, e3, hk3, hn3⟩ := k_draw hk2' (show d + C'.length < 200 by omega) (-2)
      rw [e3, mm_cl_s, if_pos (by decide)]
      refine ⟨fun _ => ⟨_, rfl, ?_, kn_trans hn2' hn3⟩, fun z => absurd z.symm Bool.false_ne_true⟩
      show kx B N i' (d + (C' ++ [-2]).length) q3
      rw [List.length_append]
      exact hk3
theorem k_text (hN : N ≤ 120) : ∀ (m n : Nat) (a1 : Int32) (q : mm_Q) (i d : Nat), m < n → a1.toInt + m = 121 → kx B N i d q → i ≤ N → d ≤ i → ko B N d (ttx (chs B N) N m d i) q (x9_isText_h12 n a1 q)
  | 0, n + 1, a1, q, i, d, _, ha, hk, hi, hd => by
    unfold x9_isText_h12 ttx
    rw [if_pos (show (120 : Int32) < a1 by rw [lt32, ti120]; omega)]
    exact ko_no hk
  | m + 1, n + 1, a1, q, i, d, hm, ha, hk, hi, hd => by
    have hr := mm_rng a1
    have e1 : (a1 + 1).toInt = a1.toInt + 1 := by
      rw [mm_add_ti (by rw [show (1 : Int32).toInt = 1 by decide]; omega) (by rw [show (1 : Int32).toInt = 1 by decide]; omega)]
      rfl
    unfold x9_isText_h12 ttx
    rw [if_neg (show ¬ (120 : Int32) < a1 by rw [lt32, ti120]; omega)]
    have r := k_line hN hk hi hd
    have w := tli_wf (B := B) (d := d) hi
    unfold xt2
    generalize tli (chs B N) d i = L at r w
    obtain ⟨b, i', C', f'⟩ := L
    have w1 : i' ≤ N := w.1
    cases b with
    | false =>
      obtain ⟨q2, d2, e2, hk2, hn2⟩ := r.2 rfl
      rw [e2, mm_cl_s, if_pos (show (0 : Int32) = 0 from rfl), if_neg (show ¬ (false, i', C', f').1 = true from Bool.false_ne_true)]
      exact ⟨fun z => absurd z Bool.false_ne_true, fun _ => ⟨q2, d2, rfl, hk2, hn2⟩⟩
    | true =>
      obtain ⟨q2, e2, hk2, hn2⟩ := r.1 rfl
      have w2 : i < i' ∧ C'.length + i ≤ i' + 1 := w.2 rfl
      have hk2' : kx B N i' (d + C'.length) q2 := hk2
      have hn2' : kn d C' q q2 := hn2
      rw [e2, mm_cl_s, if_neg (show ¬ (1 : Int32) = 0 by decide), if_pos (show (true, i', C', f').1 = true from rfl)]
      by_cases c : i' < N
      · rw [if_pos (show (true, i', C', f').2.1 < N from c), if_pos (show q2.1 28 3 < q2.1 28 2 by rw [lt32, hk2'.2.1, hk2'.1]; omega), k_letter hN hk2' w1, mm_cl_s]
        show ko B N d (if chs B N i' = 59 then (if (ttx (chs B N) N m (d + C'.length) (i' + 1)).1 = true then (true, (ttx (chs B N) N m (d + C'.length) (i' + 1)).2.1, C' ++ (ttx (chs B N) N m (d + C'.length) (i' + 1)).2.2.1, f' (ttx (chs B N) N m (d + C'.length) (i' + 1)).2.2.2) else (false, (ttx (chs B N) N m (d + C'.length) (i' + 1)).2.1, [], F_0)) else (false, i', [], F_0)) q (if chs B N i' = 59 then _ else _)
        by_cases c2 : chs B N i' = 59
        · rw [if_pos c2, if_pos c2, mm_lt_s]
          obtain ⟨hk3, hn3⟩ := k_next hN hk2' w1
          have r5 := k_text hN m n (a1 + 1) _ (i' + 1) _ (by omega) (by omega) hk3 c (by omega)
          generalize ttx (chs B N) N m (d + C'.length) (i' + 1) = T at r5
          obtain ⟨b2, i2, C2, v2⟩ := T
          have r6 := ko_pre hn3 r5
          cases b2 with
          | false =>
            obtain ⟨q5, d5, e5, hk5, hn5⟩ := r6.2 rfl
            rw [e5, if_neg (show ¬ (false, i2, C2, v2).1 = true from Bool.false_ne_true)]
            exact ⟨fun z => absurd z Bool.false_ne_true, fun _ => ⟨q5, d5, rfl, hk5, kg_trans hn2.1 hn5⟩⟩
          | true =>
            obtain ⟨q5, e5, hk5, hn5⟩ := r6.1 rfl
            rw [e5, if_pos (show (true, i2, C2, v2).1 = true from rfl)]
            refine ⟨fun _ => ⟨q5, rfl, ?_, kn_trans hn2' hn5⟩, fun z => absurd z.symm Bool.false_ne_true⟩
            show kx B N i2 (d + (C' ++ C2).length) q5
            rw [List.length_append, ← Nat.add_assoc]
            exact hk5
        · rw [if_neg c2, if_neg c2]
          exact ⟨fun z => absurd z Bool.false_ne_true, fun _ => ⟨q2, _, rfl, hk2, hn2.1⟩⟩
      · rw [if_neg (show ¬ (true, i', C', f').2.1 < N from c), if_neg (show ¬ q2.1 28 3 < q2.1 28 2 by rw [lt32, hk2'.2.1, hk2'.1]; omega)]
        exact ⟨fun _ => ⟨q2, rfl, hk2, hn2⟩, fun z => absurd z.symm Bool.false_ne_true⟩
theorem k_isText (hN : N ≤ 120) {q : mm_Q} (h2 : (q.1 28 2).toInt = N) (hB : ∀ j, j < N → q.1 29 j = B j) : ko B N 0 (ttx (chs B N) N 121 0 0) q (x9_isText q) := by
  unfold x9_isText
  rw [mm_lt_s, mm_lt_s]
  refine ko_pre ⟨⟨fr_trans (fr_si _ _ _ (by decide)) (fr_si _ _ _ (by decide)), fun j a b => ?_⟩, fun k hk => absurd hk (Nat.not_lt_zero k), fun k hk => absurd hk (Nat.not_lt_zero k)⟩ (k_text hN 121 mm_fu 0 (mm_si (mm_si q 28 3 0) 28 4 0) 0 0 (by decide) (by decide) ⟨?_, ?_, ?_, ?_⟩ (Nat.zero_le _) (Nat.le_refl _))
  · rw [mm_si_self, upd_ne _ _ _ b, mm_si_self, upd_ne _ _ _ a]
  · rw [mm_si_self, upd_ne _ _ _ (by decide), mm_si_self, upd_ne _ _ _ (by decide)]; exact h2
  · rw [mm_si_self, upd_ne _ _ _ (by decide), mm_si_self, upd_self]; decide
  · rw [mm_si_self, upd_self]; decide
  · rw [mm_si_ne _ _ _ _ (by decide), mm_si_ne _ _ _ _ (by decide)]; exact hB
end KTEXT
def sv (c : Nat → Int32) (l : Int32) (g : Nat → Int32) (st : List Int32) (q : mm_Q) : Prop := q.1 11 = c ∧ q.1 10 3 = l ∧ q.1 13 = g ∧ ∀ k, k < st.length → q.1 12 k = st.getD k 0
def EV (c : Nat → Int32) (l : Int32) (g : Nat → Int32) (C : List Int32) (v : mm_F) (D : Nat) : Prop := ∀ (n pos : Nat) (st : List Int32) (a7 a8 : Int32) (q : mm_Q), (∀ k, k < C.length → c (pos + k) = C.getD k 0) → pos + C.length ≤ 200 → ((pos + C.length : Nat) : Int) ≤ l.toInt → st.length + D ≤ 64 → sv c l g st q → a7.toInt + 1 = st.length → a8.toInt = pos → ∃ (q' : mm_Q) (b7 b8 : Int32), x5_worth_h51 (n + C.length) a7 a8 q = x5_worth_h51 n b7 b8 q' ∧ sv c l g (st ++ [nm v g]) q' ∧ fr [12] q q' ∧ b7.toInt = st.length ∧ b8.toInt = ((pos + C.length : Nat) : Int)
theorem getD_l {A C : List Int32} {k : Nat} (h : k < A.length) : (A ++ C).getD k 0 = A.getD k 0 := by
  rw [List.getD_eq_getElem?_getD, List.getD_eq_getElem?_getD, List.getElem?_append_left h]
theorem getD_r {A C : List Int32} (k : Nat) : (A ++ C).getD (A.length + k) 0 = C.getD k 0 := by
  rw [List.getD_eq_getElem?_getD, List.getD_eq_getElem?_getD, List.getElem?_append_right (Nat.le_add_right _ _), Nat.add_sub_cancel_left]
theorem cells_l {c : Nat → Int32} {A C : List Int32} {pos : Nat} (h : ∀ k, k < (A ++ C).length → c (pos + k) = (A ++ C).getD k 0) : ∀ k, k < A.length → c (pos + k) = A.getD k 0 := by
  intro k hk
  rw [h k (by rw [List.length_append]; omega), getD_l hk]
theorem cells_r {c : Nat → Int32} {A C : List Int32} {pos : Nat} (h : ∀ k, k < (A ++ C).length → c (pos + k) = (A ++ C).getD k 0) : ∀ k, k < C.length → c (pos + A.length + k) = C.getD k 0 := by
  intro k hk
  rw [Nat.add_assoc, h (A.length + k) (by rw [List.length_append]; omega), getD_r]
theorem ti64' : (64 : Int32).toInt = 64 := by decide
theorem ti2e4 : (20000 : Int32).toInt = 20000 := by decide
theorem ti1e4 : (10000 : Int32).toInt = 10000 := by decide
theorem tim1 : (Int32.ofInt (-1)).toInt = -1 := by decide
section SV
variable {c : Nat → Int32} {l : Int32} {g : Nat → Int32}
theorem sv_len {st : List Int32} {v : Int32} {q : mm_Q} (h : sv c l g (st ++ [v]) q) : q.1 12 st.length = v := by
  rw [h.2.2.2 st.length (by rw [List.length_append]; exact Nat.lt_succ_self _)]
  exact getD_r 0
theorem sv_init {st : List Int32} {v : Int32} {q : mm_Q} (h : sv c l g (st ++ [v]) q) : sv c l g st q := ⟨h.1, h.2.1, h.2.2.1, fun k hk => by rw [h.2.2.2 k (by rw [List.length_append]; omega), getD_l hk]⟩
theorem sv_put {st : List Int32} {q : mm_Q} (h : sv c l g st q) (v : Int32) : sv c l g (st ++ [v]) (mm_si q 12 st.length v) := by
  refine ⟨?_, ?_, ?_, fun k hk => ?_⟩
  · rw [mm_si_ne _ _ _ _ (by decide)]; exact h.1
  · rw [mm_si_ne _ _ _ _ (by decide)]; exact h.2.1
  · rw [mm_si_ne _ _ _ _ (by decide)]; exact h.2.2.1
  · rw [mm_si_self]
    rw [List.length_append] at hk
    by_cases e : k = st.length
    · rw [e, upd_self]
      exact (getD_r (A := st) (C := [v]) 0).symm
    · have hk2 : k < st.length + 1 := hk
      rw [upd_ne _ _ _ e, h.2.2.2 k (by omega), getD_l (by omega)]
theorem s_cell {st : List Int32} {q : mm_Q} {a8 : Int32} {pos : Nat} (h : sv c l g st q) (hp : a8.toInt = pos) (h2 : pos < 200) (hl : (pos : Int) < l.toInt) : ¬ q.1 10 3 ≤ a8 ∧ ¬ (200 : Int32) ≤ a8 ∧ mm_inb a8 200 = true ∧ q.1 11 a8.toNatClampNeg = c pos := by
  refine ⟨by rw [h.2.1, le32]; omega, by rw [le32, ti200]; omega, mm_inb_c hp h2, ?_⟩
  rw [h.1, mm_tcn hp]
theorem s_push {st : List Int32} {q : mm_Q} {a7 a8 x w : Int32} {pos n : Nat} (h : sv c l g st q) (hs : a7.toInt + 1 = st.length) (h64 : st.length < 64) (hp : a8.toInt = pos) (h2 : pos < 200) (hl : (pos : Int) < l.toInt) (hc : c pos = x) (hx : (0 ≤ x.toInt ∧ x.toInt < 10000 ∧ w = x) ∨ ∃ k : Nat, k < 6 ∧ x = 10000 + Int32.ofNat k ∧ w = g k) : ∃ (q' : mm_Q) (b7 b8 : Int32), x5_worth_h51 (n + 1) a7 a8 q = x5_worth_h51 n b7 b8 q' ∧ sv c l g (st ++ [w]) q' ∧ fr [12] q q' ∧ b7.toInt = st.length ∧ b8.toInt = ((pos + 1 : Nat) : Int) := by
  obtain ⟨c1, c2, c3, c4⟩ := s_cell h hp h2 hl
  have hr := mm_rng a7
  have e7 : (a7 + 1).toInt = (st.length : Int) := by
    rw [mm_add_ti (by rw [show (1 : Int32).toInt = 1 by decide]; omega) (by rw [show (1 : Int32).toInt = 1 by decide]; omega), show (1 : Int32).toInt = 1 by decide]
    exact hs
  have hx2 : 0 ≤ x.toInt ∧ x.toInt < 20000 := by
    rcases hx with ⟨a, b, _⟩ | ⟨k, hk, e, _⟩
    · omega
    · rw [e, mm_add_ti (by rw [ti1e4, mm_ofNat_ti (by omega)]; omega) (by rw [ti1e4, mm_ofNat_ti (by omega)]; omega), ti1e4, mm_ofNat_ti (by omega)]
      omega
  have fin : ∀ (v : Int32), x5_worth_j145 (x5_worth_h51 n) (a7 + 1) a8 (a7 + 1) v q = x5_worth_h51 n (a7 + 1) (a8 + 1) (mm_si q 12 st.length v) := by
    intro v
    unfold x5_worth_j145 x5_worth_j328
    rw [mm_ck_t (mm_inb_c e7 h64), mm_lt_s, mm_tcn e7]
  have fin2 : x5_worth_h51 (n + 1) a7 a8 q = x5_worth_h51 n (a7 + 1) (a8 + 1) (mm_si q 12 st.length w) := by
    rw [x5_worth_h51, if_neg c1, if_neg c2, mm_ck_t c3, c4, hc, if_neg (by rw [lt32, ti0]; omega), if_neg (by rw [le32, ti2e4]; omega), if_neg (by rw [lt32, ti0]; omega), if_pos (by rw [lt32, ti64']; omega)]
    rcases hx with ⟨a, b, e⟩ | ⟨k, hk, e, ew⟩
    · rw [if_pos (by rw [lt32, ti0, mm_sub_ti (by rw [ti1e4]; omega) (by rw [ti1e4]; omega), ti1e4]; omega), e]
      exact fin x
    · have ek : (x - 10000).toInt = (k : Int) := by
        rw [e, mm_sub_ti, mm_add_ti, ti1e4, mm_ofNat_ti (by omega)] <;> (try rw [mm_add_ti]) <;> (try rw [ti1e4]) <;> (try rw [mm_ofNat_ti (by omega)]) <;> omega
      rw [if_neg (by rw [lt32, ti0]; omega), if_neg (by rw [le32, show (6 : Int32).toInt = 6 by decide]; omega), mm_ck_t (mm_inb_c ek hk), mm_tcn ek, h.2.2.1, ← ew]
      exact fin w
  exact ⟨_, _, _, fin2, sv_put h w, fr_si _ _ _ (by decide), e7, mm_inc1 hp (by omega)⟩
theorem j149_go {rr : Int32 → Int32 → mm_Q → Option (Int32 × mm_Q)} {q : mm_Q} {a7 a8 a9 : Int32} {s : Nat} (h7 : a7.toInt = s) (hs : s < 64) (h2 : a9 ≠ -2) (h3 : a9 < 20000) : x5_worth_j149 rr a7 a8 a9 q = (if a9 = (-1 : Int32) then (mm_ck (mm_inb a7 64) (mm_ck (mm_inb a7 64) (mm_lt (mm_si q 12 a7.toNatClampNeg (-(q.1 12 a7.toNatClampNeg))) (fun q25 => (x5_worth_j328 rr a7 a8 q25))))) else (if a9 = (-33 : Int32) then (mm_ck (mm_inb a7 64) (if (q.1 12 a7.toNatClampNeg) = 0 then (x5_worth_j286 rr a7 a8 a7 (1 : Int32) q) else (x5_worth_j286 rr a7 a8 a7 (0 : Int32) q))) else (if a7 < (1 : Int32) then (x5_worth_j328 rr a7 a8 q) else (mm_ck (mm_inb (a7 + Int32.ofInt (-1)) 64) (mm_ck (mm_inb ((a7 + Int32.ofInt (-1)) + (1 : Int32)) 64) (mm_cl (x5_joined (-a9) (q.1 12 (a7 + Int32.ofInt (-1)).toNatClampNeg) (q.1 12 ((a7 + Int32.ofInt (-1)) + (1 : Int32)).toNatClampNeg) q) (fun r32 q33 => (mm_ck (mm_inb (a7 + Int32.ofInt (-1)) 64) (mm_lt (mm_si q33 12 (a7 + Int32.ofInt (-1)).toNatClampNeg r32) (fun q35 => (x5_worth_j328 rr (a7 + Int32.ofInt (-1)) a8 q35))))))))))) := by
  unfold x5_worth_j149
  rw [if_neg (by rw [lt32, ti0]; omega), if_pos (by rw [lt32, ti64']; omega), if_neg h2, if_pos h3]
theorem s_sign {st : List Int32} {q : mm_Q} {a7 a8 x u w : Int32} {pos n : Nat} (h : sv c l g (st ++ [u]) q) (hs : a7.toInt = st.length) (h64 : st.length < 64) (hp : a8.toInt = pos) (h2 : pos < 200) (hl : (pos : Int) < l.toInt) (hc : c pos = x) (hx : (x = -1 ∧ w = -u) ∨ (x = -33 ∧ w = if u = 0 then 1 else 0)) : ∃ (q' : mm_Q) (b7 b8 : Int32), x5_worth_h51 (n + 1) a7 a8 q = x5_worth_h51 n b7 b8 q' ∧ sv c l g (st ++ [w]) q' ∧ fr [12] q q' ∧ b7.toInt = st.length ∧ b8.toInt = ((pos + 1 : Nat) : Int) := by
  obtain ⟨c1, c2, c3, c4⟩ := s_cell h hp h2 hl
  have hu := sv_len h
  have h1 := sv_init h
  have fin : x5_worth_h51 (n + 1) a7 a8 q = x5_worth_h51 n a7 (a8 + 1) (mm_si q 12 st.length w) := by
    rw [x5_worth_h51, if_neg c1, if_neg c2, mm_ck_t c3, c4, hc]
    rcases hx with ⟨rfl, e⟩ | ⟨rfl, e⟩
    · rw [if_pos (by decide), j149_go hs h64 (by decide) (by decide), if_pos rfl, mm_ck_t (mm_inb_c hs h64), mm_ck_t (mm_inb_c hs h64), mm_lt_s, mm_tcn hs, hu, e]
      rfl
    · rw [if_pos (by decide), j149_go hs h64 (by decide) (by decide), if_neg (by decide), if_pos rfl, mm_ck_t (mm_inb_c hs h64), mm_tcn hs, hu, e]
      unfold x5_worth_j286 x5_worth_j328
      by_cases u0 : u = 0
      · rw [if_pos u0, if_pos u0, mm_ck_t (mm_inb_c hs h64), mm_lt_s, mm_tcn hs]
      · rw [if_neg u0, if_neg u0, mm_ck_t (mm_inb_c hs h64), mm_lt_s, mm_tcn hs]
  exact ⟨_, _, _, fin, sv_put h1 w, fr_si _ _ _ (by decide), hs, mm_inc1 hp (by omega)⟩
theorem joined_eq (s a b : Int32) (q : mm_Q) : x5_joined s a b q = some (jn s a b, q) := by
  unfold x5_joined jn
  by_cases h : s = 37
  · rw [if_pos h, if_pos h]
    by_cases b0 : b = 0
    · rw [if_pos b0, if_pos b0]
    · rw [if_neg b0, if_neg b0, mm_ck_t (by unfold mm_nz; rw [decide_eq_false b0]; rfl)]
  rw [if_neg h, if_neg h]
  by_cases h : s = 38
  · rw [if_pos h, if_pos h]
    by_cases a0 : a = 0
    · rw [if_pos a0, if_pos a0]
    · rw [if_neg a0, if_neg a0]
      by_cases b0 : b = 0
      · rw [if_pos b0, if_pos b0]
      · rw [if_neg b0, if_neg b0]
  rw [if_neg h, if_neg h]
  by_cases h : s = 42
  · rw [if_pos h, if_pos h]
  rw [if_neg h, if_neg h]
  by_cases h : s = 43
  · rw [if_pos h, if_pos h]
  rw [if_neg h, if_neg h]
  by_cases h : s = 45
  · rw [if_pos h, if_pos h]
  rw [if_neg h, if_neg h]
  by_cases h : s = 47
  · rw [if_pos h, if_pos h]
    by_cases b0 : b = 0
    · rw [if_pos b0, if_pos b0]
    · rw [if_neg b0, if_neg b0, mm_ck_t (by unfold mm_nz; rw [decide_eq_false b0]; rfl)]
  rw [if_neg h, if_neg h]
  by_cases h : s = 60
  · rw [if_pos h, if_pos h]
    by_cases z : b ≤ a
    · rw [if_pos z, if_pos z]
    · rw [if_neg z, if_neg z]
  rw [if_neg h, if_neg h]
  by_cases h : s = 61
  · rw [if_pos h, if_pos h]
    by_cases z : a = b
    · rw [if_pos z, if_pos z]
    · rw [if_neg z, if_neg z]
  rw [if_neg h, if_neg h]
  by_cases h : s = 62
  · rw [if_pos h, if_pos h]
    by_cases z : a ≤ b
    · rw [if_pos z, if_pos z]
    · rw [if_neg z, if_neg z]
  rw [if_neg h, if_neg h]
  by_cases h : s = 124
  · rw [if_pos h, if_pos h]
    by_cases a0 : a = 0
    · rw [if_pos a0, if_pos a0]
      by_cases b0 : b = 0
      · rw [if_pos b0, if_pos b0]
      · rw [if_neg b0, if_neg b0]
    · rw [if_neg a0, if_neg a0]
  rw [if_neg h, if_neg h]
theorem sg_all {t : Nat} {s : Int32} (h : sg t s) : -(-s) = s ∧ -s ≠ -1 ∧ -s ≠ -2 ∧ -s ≠ -33 ∧ -s < 0 := by
  rcases h with h | h | h | h | h
  · rw [h.2]; decide
  · rw [h.2]; decide
  · rcases h.2 with g | g | g <;> rw [g] <;> decide
  · rcases h.2 with g | g <;> rw [g] <;> decide
  · rcases h.2 with g | g | g <;> rw [g] <;> decide
theorem s_join {st : List Int32} {q : mm_Q} {a7 a8 s u w : Int32} {t pos n : Nat} (sgs : sg t s) (h : sv c l g (st ++ [u] ++ [w]) q) (hs : a7.toInt = ((st.length + 1 : Nat) : Int)) (h64 : st.length + 1 < 64) (hp : a8.toInt = pos) (h2 : pos < 200) (hl : (pos : Int) < l.toInt) (hc : c pos = -s) : ∃ (q' : mm_Q) (b7 b8 : Int32), x5_worth_h51 (n + 1) a7 a8 q = x5_worth_h51 n b7 b8 q' ∧ sv c l g (st ++ [jn s u w]) q' ∧ fr [12] q q' ∧ b7.toInt = st.length ∧ b8.toInt = ((pos + 1 : Nat) : Int) := by
  obtain ⟨c1, c2, c3, c4⟩ := s_cell h hp h2 hl
  obtain ⟨n1, n2, n3, n4, n5⟩ := sg_all sgs
  have hw : q.1 12 (st.length + 1) = w := by
    have := sv_len h
    rw [List.length_append] at this
    exact this
  have h1 := sv_init h
  have hu := sv_len h1
  have h0 := sv_init h1
  have hr := mm_rng a7
  have e6 : (a7 + Int32.ofInt (-1)).toInt = (st.length : Int) := by
    rw [mm_add_ti (by rw [tim1]; omega) (by rw [tim1]; omega), tim1]
    omega
  have e7 : (a7 + Int32.ofInt (-1) + 1).toInt = ((st.length + 1 : Nat) : Int) := mm_inc1 e6 (by omega)
  have fin : x5_worth_h51 (n + 1) a7 a8 q = x5_worth_h51 n (a7 + Int32.ofInt (-1)) (a8 + 1) (mm_si q 12 st.length (jn s u w)) := by
    rw [x5_worth_h51, if_neg c1, if_neg c2, mm_ck_t c3, c4, hc, if_pos n5, j149_go hs h64 n3 (by rw [lt32, ti2e4]; have := lt32.mp n5; rw [ti0] at this; omega), if_neg n2, if_neg n4, if_neg (by rw [lt32, show (1 : Int32).toInt = 1 by decide]; omega), mm_ck_t (mm_inb_c e6 (by omega)), mm_ck_t (mm_inb_c e7 h64), n1, mm_tcn e6, mm_tcn e7, hu, hw, joined_eq, mm_cl_s, mm_ck_t (mm_inb_c e6 (by omega)), mm_lt_s]
    rfl
  exact ⟨_, _, _, fin, sv_put h0 _, fr_si _ _ _ (by decide), e6, mm_inc1 hp (by omega)⟩
theorem EV_mono {C : List Int32} {v : mm_F} {D E : Nat} (h : EV c l g C v D) (hd : D ≤ E) : EV c l g C v E := fun n pos st a7 a8 q h1 h2 h3 h4 h5 h6 h7 => h n pos st a7 a8 q h1 h2 h3 (by omega) h5 h6 h7
theorem EV_one {x : Int32} {v : mm_F} (hx : (0 ≤ x.toInt ∧ x.toInt < 10000 ∧ nm v g = x) ∨ ∃ k : Nat, k < 6 ∧ x = 10000 + Int32.ofNat k ∧ nm v g = g k) : EV c l g [x] v 1 := by
  intro n pos st a7 a8 q h1 h2 h3 h4 h5 h6 h7
  have hl : [x].length = 1 := rfl
  rw [hl] at h2 h3 ⊢
  exact s_push h5 h6 (by omega) h7 (by omega) (by omega) (h1 0 Nat.zero_lt_one) hx
theorem EV_sign {C : List Int32} {v u : mm_F} {D : Nat} {x : Int32} (h : EV c l g C v D) (hd : 1 ≤ D) (hx : (x = -1 ∧ nm u g = -(nm v g)) ∨ (x = -33 ∧ nm u g = if nm v g = 0 then 1 else 0)) : EV c l g (C ++ [x]) u D := by
  intro n pos st a7 a8 q h1 h2 h3 h4 h5 h6 h7
  have hl : (C ++ [x]).length = C.length + 1 := by rw [List.length_append]; rfl
  have hc := cells_r h1 0 Nat.zero_lt_one
  have ha := cells_l h1
  rw [hl] at h2 h3 ⊢
  obtain ⟨q1, b7, b8, e1, s1, f1, i7, i8⟩ := h (n + 1) pos st a7 a8 q ha (by omega) (by omega) (by omega) h5 h6 h7
  obtain ⟨q2, d7, d8, e2, s2, f2, j7, j8⟩ := s_sign (n := n) s1 i7 (by omega) i8 (by omega) (by omega) hc hx
  exact ⟨q2, d7, d8, by rw [show n + (C.length + 1) = n + 1 + C.length by omega, e1, e2], s2, fr_trans f1 f2, j7, by rw [j8, Nat.add_assoc]⟩
theorem EV_join {C C2 : List Int32} {v v2 : mm_F} {D : Nat} {s : Int32} {t : Nat} (sgs : sg t s) (h : EV c l g C v (D + 1)) (k : EV c l g C2 v2 D) (hd : 1 ≤ D) : EV c l g (C ++ C2 ++ [-s]) (fjn s v v2) (D + 1) := by
  intro n pos st a7 a8 q h1 h2 h3 h4 h5 h6 h7
  have hl : (C ++ C2 ++ [-s]).length = C.length + C2.length + 1 := by rw [List.length_append, List.length_append]; rfl
  have hc := cells_r h1 0 Nat.zero_lt_one
  have hA := cells_l h1
  have ha := cells_l hA
  have hb := cells_r hA
  rw [List.length_append] at hc
  rw [hl] at h2 h3 ⊢
  obtain ⟨q1, b7, b8, e1, s1, f1, i7, i8⟩ := h (n + 1 + C2.length) pos st a7 a8 q ha (by omega) (by omega) (by omega) h5 h6 h7
  have hl2 : (st ++ [nm v g]).length = st.length + 1 := by rw [List.length_append]; rfl
  obtain ⟨q2, d7, d8, e2, s2, f2, j7, j8⟩ := k (n + 1) (pos + C.length) (st ++ [nm v g]) b7 b8 q1 hb (by omega) (by omega) (by rw [hl2]; omega) s1 (by rw [hl2]; omega) i8
  rw [hl2] at j7
  obtain ⟨q3, c7, c8, e3, s3, f3, k7, k8⟩ := s_join (n := n) sgs s2 j7 (by omega) j8 (by omega) (by omega) (by rw [Nat.add_assoc pos]; exact hc)
  exact ⟨q3, c7, c8, by rw [show n + (C.length + C2.length + 1) = n + 1 + C2.length + C.length by omega, e1, e2, e3], s3, fr_trans f1 (fr_trans f2 f3), k7, by rw [k8]; congr 1; omega⟩
theorem e_loop {ch : Nat → Int32} {P : Nat → Pr} {t D : Nat} (hd : 1 ≤ D) (hP : ∀ i, (P i).1 = true → EV c l g (P i).2.2.1 (P i).2.2.2 D) : ∀ (m i : Nat) (C : List Int32) (v : mm_F), EV c l g C v (D + 1) → (tlp ch P t m i C v).1 = true → EV c l g (tlp ch P t m i C v).2.2.1 (tlp ch P t m i C v).2.2.2 (D + 1)
  | 0, i, C, v, h, _ => h
  | m + 1, i, C, v, h, o => by
    unfold tlp at o ⊢
    by_cases s : sg t (ch i)
    · rw [if_pos s] at o ⊢
      have r := hP (i + 1)
      generalize P (i + 1) = R at o r ⊢
      obtain ⟨b, i', C', v'⟩ := R
      cases b with
      | true => exact e_loop hd hP m i' _ _ (EV_join s h (r rfl) hd) o
      | false => exact absurd o Bool.false_ne_true
    · rw [if_neg s] at o ⊢
      exact h
theorem e_chn {ch : Nat → Int32} {P : Nat → Pr} {t D : Nat} (hd : 1 ≤ D) (hP : ∀ i, (P i).1 = true → EV c l g (P i).2.2.1 (P i).2.2.2 D) : ∀ i, (chn ch P t i).1 = true → EV c l g (chn ch P t i).2.2.1 (chn ch P t i).2.2.2 (D + 1) := by
  intro i o
  unfold chn at o ⊢
  have r := hP i
  generalize P i = R at o r ⊢
  obtain ⟨b, i', C', v'⟩ := R
  cases b with
  | true => exact e_loop hd hP _ i' C' v' (EV_mono (r rfl) (Nat.le_succ D)) o
  | false => exact absurd o Bool.false_ne_true
theorem e_lv {ch : Nat → Int32} {P : Nat → Pr} {D : Nat} (hd : 1 ≤ D) (hP : ∀ i, (P i).1 = true → EV c l g (P i).2.2.1 (P i).2.2.2 D) : ∀ j i, (tlv ch P j i).1 = true → EV c l g (tlv ch P j i).2.2.1 (tlv ch P j i).2.2.2 (D + j)
  | 0 => hP
  | j + 1 => e_chn (Nat.le_trans hd (Nat.le_add_right D j)) (e_lv hd hP j)
theorem digit_ti {a x : Int32} {M : Int} (h0 : 0 ≤ a.toInt) (h1 : a.toInt < M) (hM : M ≤ 1000) (x0 : ¬ x < 48) (x1 : ¬ 57 < x) : 0 ≤ (a * 10 + x - 48).toInt ∧ (a * 10 + x - 48).toInt < 10 * M := by
  have y0 : 48 ≤ x.toInt := by
    have := le32.mp (Int32.not_lt.mp x0)
    exact this
  have y1 : x.toInt ≤ 57 := by
    have := le32.mp (Int32.not_lt.mp x1)
    exact this
  have e : (a * 10).toInt = a.toInt * 10 := by
    rw [Int32.toInt_mul, show (10 : Int32).toInt = 10 by decide, Int.bmod_eq_of_le (by omega) (by omega)]
  rw [mm_sub_ti, mm_add_ti, e, show (48 : Int32).toInt = 48 by decide] <;> (try rw [mm_add_ti]) <;> (try rw [e]) <;> (try rw [show (48 : Int32).toInt = 48 by decide]) <;> omega
theorem num_ti {ch : Nat → Int32} (i : Nat) : 0 ≤ (tnum ch 4 i 0).2.toInt ∧ (tnum ch 4 i 0).2.toInt < 10000 := by
  have step : ∀ (m i : Nat) (a : Int32) (M : Int), M ≤ 1000 → 0 ≤ a.toInt → a.toInt < M → (∀ i b, 0 ≤ b.toInt → b.toInt < 10 * M → 0 ≤ (tnum ch m i b).2.toInt ∧ (tnum ch m i b).2.toInt < 10000) → 0 ≤ (tnum ch (m + 1) i a).2.toInt ∧ (tnum ch (m + 1) i a).2.toInt < 10000 := by
    intro m i a M hM h0 h1 ih
    unfold tnum
    by_cases c1 : ch i < 48
    · rw [if_pos c1]
      exact ⟨h0, show a.toInt < 10000 by omega⟩
    · by_cases c2 : 57 < ch i
      · rw [if_neg c1, if_pos c2]
        exact ⟨h0, show a.toInt < 10000 by omega⟩
      · rw [if_neg c1, if_neg c2]
        obtain ⟨d0, d1⟩ := digit_ti h0 h1 hM c1 c2
        exact ih (i + 1) _ d0 d1
  refine step 3 i 0 1 (by decide) (by decide) (by decide) (fun i b h0 h1 => ?_)
  refine step 2 i b 10 (by decide) h0 h1 (fun i b h0 h1 => ?_)
  refine step 1 i b 100 (by decide) h0 h1 (fun i b h0 h1 => ?_)
  refine step 0 i b 1000 (by decide) h0 h1 (fun i b h0 h1 => ?_)
  exact ⟨h0, h1⟩
theorem nmv_k {x : Int32} (h : 0 ≤ nmv x) : ∃ k : Nat, k < 6 ∧ nmv x = Int32.ofNat k ∧ ∀ g : Nat → Int32, nm (pj (nmv x)) g = g k := by
  unfold nmv at h ⊢
  by_cases h1 : x = 97
  · rw [if_pos h1]; exact ⟨0, by decide, by decide, fun g => rfl⟩
  rw [if_neg h1] at h ⊢
  by_cases h1 : x = 101
  · rw [if_pos h1]; exact ⟨4, by decide, by decide, fun g => rfl⟩
  rw [if_neg h1] at h ⊢
  by_cases h1 : x = 112
  · rw [if_pos h1]; exact ⟨1, by decide, by decide, fun g => rfl⟩
  rw [if_neg h1] at h ⊢
  by_cases h1 : x = 116
  · rw [if_pos h1]; exact ⟨5, by decide, by decide, fun g => rfl⟩
  rw [if_neg h1] at h ⊢
  by_cases h1 : x = 119
  · rw [if_pos h1]; exact ⟨3, by decide, by decide, fun g => rfl⟩
  rw [if_neg h1] at h ⊢
  by_cases h1 : x = 122
  · rw [if_pos h1]; exact ⟨2, by decide, by decide, fun g => rfl⟩
  rw [if_neg h1] at h
  exact absurd h (by decide)
theorem e_op0 {ch : Nat → Int32} (i : Nat) (o : (op0 ch i).1 = true) : EV c l g (op0 ch i).2.2.1 (op0 ch i).2.2.2 1 := by
  unfold op0 at o ⊢
  by_cases h : 48 ≤ ch i ∧ ch i ≤ 57
  · rw [if_pos h] at o ⊢
    exact EV_one (Or.inl ⟨(num_ti i).1, (num_ti i).2, rfl⟩)
  · rw [if_neg h] at o ⊢
    by_cases n : 0 ≤ nmv (ch i)
    · rw [if_pos n] at o ⊢
      obtain ⟨k, hk, e, hg⟩ := nmv_k n
      exact EV_one (Or.inr ⟨k, hk, by rw [e], hg g⟩)
    · rw [if_neg n] at o
      exact absurd o Bool.false_ne_true
theorem e_OP {ch : Nat → Int32} : ∀ r i, (OP ch r i).1 = true → EV c l g (OP ch r i).2.2.1 (OP ch r i).2.2.2 (5 * r + 1)
  | 0, i, o => e_op0 i o
  | r + 1, i, o => by
    rw [OP] at o ⊢
    by_cases h : opn (ch i)
    · rw [if_pos h] at o ⊢
      by_cases h4 : ch i = 40
      · rw [if_pos h4] at o ⊢
        have r5 := e_lv (c := c) (l := l) (g := g) (ch := ch) (P := OP ch r) (D := 5 * r + 1) (by omega) (e_OP (ch := ch) r) 5 (i + 1)
        unfold cls at o ⊢
        generalize tlv ch (OP ch r) 5 (i + 1) = R at o r5 ⊢
        obtain ⟨b, i', C', v'⟩ := R
        cases b with
        | true =>
          have e1 := r5 rfl
          rw [if_pos (show (true, i', C', v').1 = true from rfl)] at o ⊢
          by_cases c41 : ch (true, i', C', v').2.1 = 41
          · rw [if_pos c41] at o ⊢
            exact EV_mono e1 (by omega)
          · rw [if_neg c41] at o
            exact absurd o Bool.false_ne_true
        | false => exact absurd o Bool.false_ne_true
      · rw [if_neg h4] at o ⊢
        have r5 := e_OP (ch := ch) r (i + 1)
        unfold sgn at o ⊢
        generalize OP ch r (i + 1) = R at o r5 ⊢
        obtain ⟨b, i', C', v'⟩ := R
        cases b with
        | true =>
          have e1 : EV c l g C' v' (5 * r + 1) := r5 rfl
          rw [if_pos (show (true, i', C', v').1 = true from rfl)] at o ⊢
          refine EV_mono (EV_sign (x := if ch i = 45 then -1 else -(ch i)) e1 (by omega) ?_) (by omega)
          show (_ ∧ nm (if ch i = 45 then Fn v' else Fx v') g = _) ∨ (_ ∧ nm (if ch i = 45 then Fn v' else Fx v') g = _)
          by_cases c5 : ch i = 45
          · rw [if_pos c5, if_pos c5]
            exact Or.inl ⟨rfl, rfl⟩
          · have c3 : ch i = 33 := h.elim (fun z => absurd z h4) (fun z => z.elim id (fun z => absurd z c5))
            rw [if_neg c5, if_neg c5, c3]
            exact Or.inr ⟨by decide, rfl⟩
        | false => exact absurd o Bool.false_ne_true
    · rw [if_neg h] at o ⊢
      exact EV_mono (e_op0 i o) (by omega)
theorem e_EX {ch : Nat → Int32} (i : Nat) (o : (EX ch i).1 = true) : EV c l g (EX ch i).2.2.1 (EX ch i).2.2.2 36 := e_lv (D := 31) (by decide) (e_OP 6) 5 i o
end SV
theorem max_if (a b : Int32) : (mm_max a b).toInt = if a.toInt < b.toInt then b.toInt else a.toInt := by
  unfold mm_max
  by_cases h : a < b
  · rw [if_pos h, if_pos (lt32.mp h)]
  · rw [if_neg h, if_neg (fun z => h (lt32.mpr z))]
section SW
variable {c : Nat → Int32} {l : Int32} {g : Nat → Int32}
theorem sv_nil {st : List Int32} {q : mm_Q} (h : sv c l g st q) : sv c l g [] q := ⟨h.1, h.2.1, h.2.2.1, fun k hk => absurd hk (Nat.not_lt_zero k)⟩
theorem s_end {q : mm_Q} {a7 a8 u : Int32} {pos n : Nat} (h : sv c l g ([] ++ [u]) q) (hs : a7.toInt = ((0 : Nat) : Int)) (hp : a8.toInt = pos) (h2 : pos < 200) (hl : (pos : Int) < l.toInt) (hc : c pos = -2) : x5_worth_h51 (n + 1) a7 a8 q = some (u, q) := by
  obtain ⟨c1, c2, c3, c4⟩ := s_cell h hp h2 hl
  have hu := sv_len h
  rw [x5_worth_h51, if_neg c1, if_neg c2, mm_ck_t c3, c4, hc, if_pos (by decide)]
  unfold x5_worth_j149
  rw [if_neg (by rw [lt32, ti0]; omega), if_pos (by rw [lt32, ti64']; omega), if_pos rfl, mm_ck_t (mm_inb_c hs (by decide)), mm_tcn hs]
  rw [show q.1 12 0 = u from hu]
theorem s_cond {q : mm_Q} {a7 a8 u x : Int32} {pos n y : Nat} (h : sv c l g ([] ++ [u]) q) (hs : a7.toInt = ((0 : Nat) : Int)) (hp : a8.toInt = pos) (h2 : pos < 200) (hl : (pos : Int) < l.toInt) (hc : c pos = x) (hx : x.toInt = ((20000 + y : Nat) : Int)) (hy : pos < y) (hy2 : y ≤ 200) : ∃ b7 b8 : Int32, x5_worth_h51 (n + 1) a7 a8 q = x5_worth_h51 n b7 b8 q ∧ b7.toInt + 1 = 0 ∧ b8.toInt = ((if u = 0 then y else pos + 1 : Nat) : Int) := by
  obtain ⟨c1, c2, c3, c4⟩ := s_cell h hp h2 hl
  have hu : q.1 12 0 = u := sv_len h
  have e6 : (a7 + Int32.ofInt (-1)).toInt = -1 := by
    rw [mm_add_ti (by rw [tim1]; omega) (by rw [tim1]; omega), tim1]
    omega
  have ey : (x - 20000 - 1).toInt = (y : Int) - 1 := by
    rw [mm_sub_ti, mm_sub_ti, ti2e4, show (1 : Int32).toInt = 1 by decide] <;> (try rw [mm_sub_ti]) <;> (try rw [ti2e4]) <;> (try rw [show (1 : Int32).toInt = 1 by decide]) <;> omega
  have em : (mm_max a8 (x - 20000 - 1)).toInt = ((y - 1 : Nat) : Int) := by
    rw [max_if, ey, hp]
    split <;> omega
  rw [x5_worth_h51, if_neg c1, if_neg c2, mm_ck_t c3, c4, hc, if_neg (by rw [lt32, ti0]; omega), if_pos (by rw [le32, ti2e4]; omega)]
  unfold x5_worth_j149
  rw [if_neg (by rw [lt32, ti0]; omega), if_pos (by rw [lt32, ti64']; omega), if_neg (fun z => by rw [z] at hx; exact absurd (show (-2 : Int) = _ from hx) (by omega)), if_neg (by rw [lt32, ti2e4]; omega), mm_ck_t (mm_inb_c hs (by decide)), mm_tcn hs, hu]
  unfold x5_worth_j201 x5_worth_j229 x5_worth_j328
  by_cases u0 : u = 0
  · rw [if_pos u0, if_pos rfl]
    refine ⟨_, _, rfl, by omega, ?_⟩
    rw [if_pos u0, mm_inc1 em (by omega)]
    omega
  · rw [if_neg u0, if_neg (by decide)]
    refine ⟨_, _, rfl, by omega, ?_⟩
    rw [if_neg u0]
    exact mm_inc1 hp (by omega)
theorem e_line {ch : Nat → Int32} {d i : Nat} (o : (tli ch d i).1 = true) (hc : ∀ k, k < (tli ch d i).2.2.1.length → c (d + k) = (tli ch d i).2.2.1.getD k 0) (h200 : d + (tli ch d i).2.2.1.length ≤ 200) (hl : ((d + (tli ch d i).2.2.1.length : Nat) : Int) ≤ l.toInt) {F : Nat} (hF : (tli ch d i).2.2.1.length ≤ F) {a7 a8 : Int32} {q : mm_Q} (hs : sv c l g [] q) (h7 : a7.toInt + 1 = 0) (h8 : a8.toInt = d) :
    (∃ (q' : mm_Q) (x : Int32), x5_worth_h51 F a7 a8 q = some (x, q') ∧ fr [12] q q' ∧ ∀ K, nm ((tli ch d i).2.2.2 K) g = x) ∨ ∃ (q' : mm_Q) (F' : Nat) (b7 b8 : Int32), F ≤ F' + (tli ch d i).2.2.1.length ∧ x5_worth_h51 F a7 a8 q = x5_worth_h51 F' b7 b8 q' ∧ fr [12] q q' ∧ sv c l g [] q' ∧ b7.toInt + 1 = 0 ∧ b8.toInt = ((d + (tli ch d i).2.2.1.length : Nat) : Int) ∧ ∀ K, nm ((tli ch d i).2.2.2 K) g = nm K g := by
  unfold tli xl2 at o hc h200 hl hF ⊢
  have r := e_EX (c := c) (l := l) (g := g) (ch := ch) i
  generalize EX ch i = R at o hc h200 hl hF r ⊢
  obtain ⟨b, i', C', v'⟩ := R
  cases b with
  | false => exact absurd o Bool.false_ne_true
  | true =>
    have e1 : EV c l g C' v' 36 := r rfl
    rw [if_pos (show (true, i', C', v').1 = true from rfl)] at o hc h200 hl hF ⊢
    by_cases c63 : ch (true, i', C', v').2.1 = 63
    · rw [if_pos c63] at o hc h200 hl hF ⊢
      have r2 := e_EX (c := c) (l := l) (g := g) (ch := ch) ((true, i', C', v').2.1 + 1)
      generalize EX ch ((true, i', C', v').2.1 + 1) = S at o hc h200 hl hF r2 ⊢
      obtain ⟨b2, i2, C2, v2⟩ := S
      cases b2 with
      | false => exact absurd o Bool.false_ne_true
      | true =>
        have e2 : EV c l g C2 v2 36 := r2 rfl
        rw [if_pos (show (true, i2, C2, v2).1 = true from rfl)] at o hc h200 hl hF ⊢
        obtain ⟨x, hx⟩ : ∃ x, 20000 + Int32.ofNat (d + C'.length + 1 + C2.length + 1) = x := ⟨_, rfl⟩
        have hc1 : ∀ k, k < (C' ++ ([x] ++ (C2 ++ [-2]))).length → c (d + k) = (C' ++ ([x] ++ (C2 ++ [-2]))).getD k 0 := by rw [← hx]; exact hc
        have hlen : ∀ y : Int32, (C' ++ ([y] ++ (C2 ++ [-2]))).length = C'.length + 1 + C2.length + 1 := by
          intro y
          rw [List.length_append, List.length_append, List.length_append]
          show C'.length + (1 + (C2.length + 1)) = _
          omega
        have h200' : d + (C'.length + 1 + C2.length + 1) ≤ 200 := by
          have := (show d + (C' ++ ([20000 + Int32.ofNat (d + C'.length + 1 + C2.length + 1)] ++ (C2 ++ [-2]))).length ≤ 200 from h200)
          rw [hlen] at this
          exact this
        have hl' : ((d + (C'.length + 1 + C2.length + 1) : Nat) : Int) ≤ l.toInt := by
          have := (show ((d + (C' ++ ([20000 + Int32.ofNat (d + C'.length + 1 + C2.length + 1)] ++ (C2 ++ [-2]))).length : Nat) : Int) ≤ l.toInt from hl)
          rw [hlen] at this
          exact this
        have hF' : C'.length + 1 + C2.length + 1 ≤ F := by
          have := (show (C' ++ ([20000 + Int32.ofNat (d + C'.length + 1 + C2.length + 1)] ++ (C2 ++ [-2]))).length ≤ F from hF)
          rw [hlen] at this
          exact this
        obtain ⟨n, rfl⟩ : ∃ n, F = n + 1 + C2.length + 1 + C'.length := ⟨F - (C'.length + 1 + C2.length + 1), by omega⟩
        have xt : x.toInt = ((20000 + (d + C'.length + 1 + C2.length + 1) : Nat) : Int) := by
          rw [← hx, mm_add_ti, ti2e4, mm_ofNat_ti (by omega)] <;> (try rw [ti2e4]) <;> (try rw [mm_ofNat_ti (by omega)]) <;> omega
        have hA := cells_l hc1
        have hR := cells_r hc1
        have hcell : c (d + C'.length) = x := hR 0 (by rw [List.length_append]; show 0 < 1 + _; omega)
        have hR2 := cells_r (pos := d + C'.length) hR
        have hR3 := cells_l hR2
        have hcell2 : c (d + C'.length + 1 + C2.length) = -2 := by
          have := cells_r hR2 0 Nat.zero_lt_one
          exact this
        obtain ⟨q1, b7, b8, g1, s1, f1, i7, i8⟩ := e1 (n + 1 + C2.length + 1) d [] a7 a8 q hA (by omega) (by omega) (by decide) hs h7 h8
        obtain ⟨d7, d8, g2, j7, j8⟩ := s_cond (n := n + 1 + C2.length) s1 i7 i8 (by omega) (by omega) hcell xt (by omega) (by omega)
        by_cases v0 : nm v' g = 0
        · rw [if_pos v0] at j8
          refine Or.inr ⟨q1, n + 1 + C2.length, d7, d8, ?_, by rw [g1, g2], f1, sv_nil s1, j7, ?_, fun K => if_pos v0⟩
          · show n + 1 + C2.length + 1 + C'.length ≤ n + 1 + C2.length + (C' ++ ([20000 + Int32.ofNat (d + C'.length + 1 + C2.length + 1)] ++ (C2 ++ [-2]))).length
            rw [hlen]
            omega
          · show d8.toInt = ((d + (C' ++ ([20000 + Int32.ofNat (d + C'.length + 1 + C2.length + 1)] ++ (C2 ++ [-2]))).length : Nat) : Int)
            rw [hlen, j8]
            omega
        · rw [if_neg v0] at j8
          obtain ⟨q2, p7, p8, g3, s3, f3, k7, k8⟩ := e2 (n + 1) (d + C'.length + 1) [] d7 d8 q1 hR3 (by omega) (by omega) (by decide) (sv_nil s1) j7 j8
          have g4 := s_end (n := n) s3 k7 k8 (by omega) (by omega) hcell2
          exact Or.inl ⟨q2, nm v2 g, by rw [g1, g2, g3, g4], fr_trans f1 f3, fun K => if_neg v0⟩
    · rw [if_neg c63] at o hc h200 hl hF ⊢
      have hlen : (C' ++ [(-2 : Int32)]).length = C'.length + 1 := by rw [List.length_append]; rfl
      have hc1 : ∀ k, k < (C' ++ [(-2 : Int32)]).length → c (d + k) = (C' ++ [(-2 : Int32)]).getD k 0 := hc
      have h200' : d + (C' ++ [(-2 : Int32)]).length ≤ 200 := h200
      have hl' : ((d + (C' ++ [(-2 : Int32)]).length : Nat) : Int) ≤ l.toInt := hl
      have hF' : (C' ++ [(-2 : Int32)]).length ≤ F := hF
      rw [hlen] at h200' hl' hF'
      obtain ⟨n, rfl⟩ : ∃ n, F = n + 1 + C'.length := ⟨F - (C'.length + 1), by omega⟩
      have hcell : c (d + C'.length) = -2 := cells_r hc1 0 Nat.zero_lt_one
      obtain ⟨q1, b7, b8, g1, s1, f1, i7, i8⟩ := e1 (n + 1) d [] a7 a8 q (cells_l hc1) (by omega) (by omega) (by decide) hs h7 h8
      have g4 := s_end (n := n) s1 i7 i8 (by omega) (by omega) hcell
      exact Or.inl ⟨q1, nm v' g, by rw [g1, g4], f1, fun K => rfl⟩
theorem e_text {ch : Nat → Int32} {N : Nat} : ∀ (m d i : Nat), (ttx ch N m d i).1 = true → (∀ k, k < (ttx ch N m d i).2.2.1.length → c (d + k) = (ttx ch N m d i).2.2.1.getD k 0) → d + (ttx ch N m d i).2.2.1.length ≤ 200 → l.toInt = ((d + (ttx ch N m d i).2.2.1.length : Nat) : Int) → ∀ (F : Nat) (a7 a8 : Int32) (q : mm_Q), (ttx ch N m d i).2.2.1.length < F → sv c l g [] q → a7.toInt + 1 = 0 → a8.toInt = d → ∃ q', x5_worth_h51 F a7 a8 q = some (nm (ttx ch N m d i).2.2.2 g, q') ∧ fr [12] q q'
  | 0, d, i, o => absurd o Bool.false_ne_true
  | m + 1, d, i, o => by
    intro hc h200 hl F a7 a8 q hF hs h7 h8
    rw [ttx] at o hc h200 hl hF ⊢
    have eL := e_line (c := c) (l := l) (g := g) (ch := ch) (d := d) (i := i)
    have ih := e_text (ch := ch) (N := N) m (d + (tli ch d i).2.2.1.length) ((tli ch d i).2.1 + 1)
    generalize ttx ch N m (d + (tli ch d i).2.2.1.length) ((tli ch d i).2.1 + 1) = T at o hc h200 hl hF ih ⊢
    generalize tli ch d i = L at o hc h200 hl hF ih eL ⊢
    obtain ⟨b, i', C', f'⟩ := L
    unfold xt2 at o hc h200 hl hF ⊢
    cases b with
    | false => exact absurd o Bool.false_ne_true
    | true =>
      rw [if_pos (show (true, i', C', f').1 = true from rfl)] at o hc h200 hl hF ⊢
      by_cases ci : (true, i', C', f').2.1 < N
      · rw [if_pos ci] at o hc h200 hl hF ⊢
        by_cases c59 : ch (true, i', C', f').2.1 = 59
        · rw [if_pos c59] at o hc h200 hl hF ⊢
          obtain ⟨b2, i2, C2, v2⟩ := T
          cases b2 with
          | false => exact absurd o Bool.false_ne_true
          | true =>
            rw [if_pos (show (true, i2, C2, v2).1 = true from rfl)] at o hc h200 hl hF ⊢
            have hc1 : ∀ k, k < (C' ++ C2).length → c (d + k) = (C' ++ C2).getD k 0 := hc
            have h200' : d + (C' ++ C2).length ≤ 200 := h200
            have hl' : l.toInt = ((d + (C' ++ C2).length : Nat) : Int) := hl
            have hF' : (C' ++ C2).length < F := hF
            rw [List.length_append] at h200' hl' hF'
            rcases eL rfl (cells_l hc1) (show d + C'.length ≤ 200 by omega) (show ((d + C'.length : Nat) : Int) ≤ l.toInt by omega) (show C'.length ≤ F by omega) hs h7 h8 with ⟨q1, x, g1, f1, hx⟩ | ⟨q1, F', b7, b8, hF1, g1, f1, s1, i7, i8, hx⟩
            · exact ⟨q1, by rw [g1]; exact congrArg (fun z => some (z, q1)) (hx v2).symm, f1⟩
            · have hF2 : F ≤ F' + C'.length := hF1
              obtain ⟨q2, g2, f2⟩ := ih rfl (cells_r hc1) (show d + C'.length + C2.length ≤ 200 by omega) (show l.toInt = ((d + C'.length + C2.length : Nat) : Int) by omega) F' b7 b8 q1 (show C2.length < F' by omega) s1 i7 i8
              exact ⟨q2, by rw [g1, g2]; exact congrArg (fun z => some (z, q2)) (hx v2).symm, fr_trans f1 f2⟩
        · rw [if_neg c59] at o
          exact absurd o Bool.false_ne_true
      · rw [if_neg ci] at o hc h200 hl hF ⊢
        have hl' : l.toInt = ((d + C'.length : Nat) : Int) := hl
        rcases eL rfl hc h200 (show ((d + C'.length : Nat) : Int) ≤ l.toInt by omega) (show C'.length ≤ F from Nat.le_of_lt hF) hs h7 h8 with ⟨q1, x, g1, f1, hx⟩ | ⟨q1, F', b7, b8, hF1, g1, f1, s1, i7, i8, hx⟩
        · exact ⟨q1, by rw [g1]; exact congrArg (fun z => some (z, q1)) (hx F_0).symm, f1⟩
        · have hF2 : F ≤ F' + C'.length := hF1
          have hF3 : C'.length < F := hF
          have i8' : b8.toInt = ((d + C'.length : Nat) : Int) := i8
          obtain ⟨n, rfl⟩ : ∃ n, F' = n + 1 := ⟨F' - 1, by omega⟩
          refine ⟨q1, ?_, f1⟩
          rw [g1, x5_worth_h51, if_pos (by rw [s1.2.1, le32]; omega)]
          exact congrArg (fun z => some (z, q1)) (hx F_0).symm
theorem e_worth {ch : Nat → Int32} {N : Nat} {c11 : Nat → Int32} {len : Int32} (o : (ttx ch N 121 0 0).1 = true) (hc : ∀ k, k < (ttx ch N 121 0 0).2.2.1.length → c11 k = (ttx ch N 121 0 0).2.2.1.getD k 0) (h200 : (ttx ch N 121 0 0).2.2.1.length ≤ 200) (hl : len.toInt = (((ttx ch N 121 0 0).2.2.1.length : Nat) : Int)) (q : mm_Q) (a p z w e t : Int32) (h11 : q.1 11 = c11) (h10 : q.1 10 3 = len) : ∃ q', x5_worth a p z w e t q = some ((ttx ch N 121 0 0).2.2.2 a p z w e t, q') ∧ fr [12, 13] q q' := by
  unfold x5_worth
  rw [mm_lt_s, mm_lt_s, mm_lt_s, mm_lt_s, mm_lt_s, mm_lt_s]
  obtain ⟨q6, hq6⟩ : ∃ q6, mm_si (mm_si (mm_si (mm_si (mm_si (mm_si q 13 0 a) 13 1 p) 13 2 z) 13 3 w) 13 4 e) 13 5 t = q6 := ⟨_, rfl⟩
  rw [hq6]
  have hf : fr [13] q q6 := by
    rw [← hq6]
    exact fr_trans (fr_trans (fr_trans (fr_trans (fr_trans (fr_si _ _ _ (by decide)) (fr_si _ _ _ (by decide))) (fr_si _ _ _ (by decide))) (fr_si _ _ _ (by decide))) (fr_si _ _ _ (by decide))) (fr_si _ _ _ (by decide))
  have v : nm (ttx ch N 121 0 0).2.2.2 (q6.1 13) = (ttx ch N 121 0 0).2.2.2 a p z w e t := by
    have n5 : q6.1 13 5 = t := by rw [← hq6, mm_si_self, upd_self]
    have n4 : q6.1 13 4 = e := by rw [← hq6, mm_si_self, upd_ne _ _ _ (by decide), mm_si_self, upd_self]
    have n3 : q6.1 13 3 = w := by rw [← hq6, mm_si_self, upd_ne _ _ _ (by decide), mm_si_self, upd_ne _ _ _ (by decide), mm_si_self, upd_self]
    have n2 : q6.1 13 2 = z := by rw [← hq6, mm_si_self, upd_ne _ _ _ (by decide), mm_si_self, upd_ne _ _ _ (by decide), mm_si_self, upd_ne _ _ _ (by decide), mm_si_self, upd_self]
    have n1 : q6.1 13 1 = p := by rw [← hq6, mm_si_self, upd_ne _ _ _ (by decide), mm_si_self, upd_ne _ _ _ (by decide), mm_si_self, upd_ne _ _ _ (by decide), mm_si_self, upd_ne _ _ _ (by decide), mm_si_self, upd_self]
    have n0 : q6.1 13 0 = a := by rw [← hq6, mm_si_self, upd_ne _ _ _ (by decide), mm_si_self, upd_ne _ _ _ (by decide), mm_si_self, upd_ne _ _ _ (by decide), mm_si_self, upd_ne _ _ _ (by decide), mm_si_self, upd_ne _ _ _ (by decide), mm_si_self, upd_self]
    show (ttx ch N 121 0 0).2.2.2 (q6.1 13 0) (q6.1 13 1) (q6.1 13 2) (q6.1 13 3) (q6.1 13 4) (q6.1 13 5) = _
    rw [n0, n1, n2, n3, n4, n5]
  have hs : sv c11 len (q6.1 13) [] q6 := ⟨by rw [hf.2 11 (by decide), h11], by rw [hf.2 10 (by decide), h10], rfl, fun k hk => absurd hk (Nat.not_lt_zero k)⟩
  obtain ⟨q', g1, f1⟩ := e_text (c := c11) (l := len) (g := q6.1 13) (ch := ch) (N := N) 121 0 0 o (fun k hk => by rw [Nat.zero_add]; exact hc k hk) (by omega) (by omega) mm_fu (-1) 0 q6 (show _ < 1000 by omega) hs (by decide) (by decide)
  refine ⟨q', ?_, fr_trans (fr_mono hf (by decide)) (fr_mono f1 (by decide))⟩
  rw [g1, v]
end SW
theorem tli_pos {ch : Nat → Int32} {d i : Nat} (o : (tli ch d i).1 = true) : 0 < (tli ch d i).2.2.1.length := by
  unfold tli xl2 at o ⊢
  by_cases h1 : (EX ch i).1 = true
  · rw [if_pos h1] at o ⊢
    by_cases h2 : ch (EX ch i).2.1 = 63
    · rw [if_pos h2] at o ⊢
      by_cases h3 : (EX ch ((EX ch i).2.1 + 1)).1 = true
      · rw [if_pos h3, List.length_append, List.length_append, List.length_append]
        exact Nat.add_pos_right _ (Nat.add_pos_left Nat.one_pos _)
      · rw [if_neg h3] at o
        exact absurd o Bool.false_ne_true
    · rw [if_neg h2, List.length_append]
      exact Nat.succ_pos _
  · rw [if_neg h1] at o
    exact absurd o Bool.false_ne_true
theorem ttx_wf {B : Nat → Int32} {N : Nat} : ∀ (m d i : Nat), i ≤ N → (ttx (chs B N) N m d i).1 = true → 0 < (ttx (chs B N) N m d i).2.2.1.length ∧ (ttx (chs B N) N m d i).2.2.1.length + i ≤ N + 1
  | 0, d, i, _, o => absurd o Bool.false_ne_true
  | m + 1, d, i, hi, o => by
    rw [ttx] at o ⊢
    have p := tli_pos (ch := chs B N) (d := d) (i := i)
    have w := tli_wf (B := B) (d := d) hi
    have ih := ttx_wf (B := B) (N := N) m (d + (tli (chs B N) d i).2.2.1.length) ((tli (chs B N) d i).2.1 + 1)
    generalize ttx (chs B N) N m (d + (tli (chs B N) d i).2.2.1.length) ((tli (chs B N) d i).2.1 + 1) = T at o ih ⊢
    generalize tli (chs B N) d i = L at o p w ih ⊢
    obtain ⟨b, i', C', f'⟩ := L
    obtain ⟨b2, i2, C2, v2⟩ := T
    unfold xt2 at o ⊢
    cases b with
    | false => exact absurd o Bool.false_ne_true
    | true =>
      have w1 : i' ≤ N := w.1
      have w2 : i < i' ∧ C'.length + i ≤ i' + 1 := w.2 rfl
      have p' : 0 < C'.length := p rfl
      rw [if_pos (show (true, i', C', f').1 = true from rfl)] at o ⊢
      by_cases ci : (true, i', C', f').2.1 < N
      · rw [if_pos ci] at o ⊢
        by_cases c59 : chs B N (true, i', C', f').2.1 = 59
        · rw [if_pos c59] at o ⊢
          cases b2 with
          | false => exact absurd o Bool.false_ne_true
          | true =>
            have q := ih ci rfl
            have q2 : C2.length + (i' + 1) ≤ N + 1 := q.2
            rw [if_pos (show (true, i2, C2, v2).1 = true from rfl)]
            show 0 < (C' ++ C2).length ∧ (C' ++ C2).length + i ≤ N + 1
            rw [List.length_append]
            omega
        · rw [if_neg c59] at o
          exact absurd o Bool.false_ne_true
      · rw [if_neg ci]
        show 0 < C'.length ∧ C'.length + i ≤ N + 1
        omega
theorem cp_ok {a : Int32} {n : Nat} (h : a.toInt = n) (hn : n ≤ 200) : mm_cp 0 0 a 200 200 = true := by
  unfold mm_cp
  rw [mm_tcn h, decide_eq_true (show (0 : Int32) ≤ 0 by decide), decide_eq_true (show (0 : Int32) ≤ a by rw [le32, ti0]; omega), show (0 : Int32).toNatClampNeg = 0 by decide, Nat.zero_add, Nat.ble_eq_true_of_le hn]
  rfl
