/-! a text read: whether it is one, up to where, the class's code, what it works out -/
abbrev Pr : Type := Bool × Nat × List Int32 × mm_F
def F_0 : mm_F := fun _ _ _ _ _ _ => 0
abbrev sg (t : Nat) (c : Int32) : Prop := (t = 0 ∧ c = 124) ∨ (t = 1 ∧ c = 38) ∨ (t = 2 ∧ (c = 60 ∨ c = 61 ∨ c = 62)) ∨ (t = 3 ∧ (c = 43 ∨ c = 45)) ∨ (t = 4 ∧ (c = 42 ∨ c = 47 ∨ c = 37))
/-- two joined by a sign -/
def jn (s a b : Int32) : Int32 := if s = 37 then (if b = 0 then 0 else mm_rem a b) else if s = 38 then (if a = 0 then 0 else if b = 0 then 0 else 1) else if s = 42 then a * b else if s = 43 then a + b else if s = 45 then a - b else if s = 47 then (if b = 0 then 0 else a / b) else if s = 60 then (if b ≤ a then 0 else 1) else if s = 61 then (if a = b then 1 else 0) else if s = 62 then (if a ≤ b then 0 else 1) else if s = 124 then (if a = 0 then (if b = 0 then 0 else 1) else 1) else 0
def fjn (s : Int32) (v u : mm_F) : mm_F := fun a p z w e t => jn s (v a p z w e t) (u a p z w e t)
/-- the loop of a level -/
def tlp (ch : Nat → Int32) (sub : Nat → Pr) (t : Nat) : Nat → Nat → List Int32 → mm_F → Pr
  | 0, i, C, v => (true, i, C, v)
  | m + 1, i, C, v => if sg t (ch i) then (if (sub (i + 1)).1 = true then tlp ch sub t m (sub (i + 1)).2.1 (C ++ (sub (i + 1)).2.2.1 ++ [-(ch i)]) (fjn (ch i) v (sub (i + 1)).2.2.2) else (false, (sub (i + 1)).2.1, [], F_0)) else (true, i, C, v)
/-- a chain of a level over the next -/
def chn (ch : Nat → Int32) (sub : Nat → Pr) (t : Nat) (i : Nat) : Pr := if (sub i).1 = true then tlp ch sub t (if t = 2 then 1 else 120) (sub i).2.1 (sub i).2.2.1 (sub i).2.2.2 else (false, (sub i).2.1, [], F_0)
/-- the level 5 - j -/
def tlv (ch : Nat → Int32) (op : Nat → Pr) : Nat → Nat → Pr
  | 0 => op
  | j + 1 => chn ch (tlv ch op j) (4 - j)
/-- up to so many digits -/
def tnum (ch : Nat → Int32) : Nat → Nat → Int32 → Nat × Int32
  | 0, i, a => (i, a)
  | m + 1, i, a => if ch i < 48 then (i, a) else if 57 < ch i then (i, a) else tnum ch m (i + 1) (a * 10 + ch i - 48)
def nmv (c : Int32) : Int32 := if c = 97 then 0 else if c = 101 then 4 else if c = 112 then 1 else if c = 116 then 5 else if c = 119 then 3 else if c = 122 then 2 else -1
def pj (k : Int32) : mm_F := fun a p z w e t => if k = 0 then a else if k = 1 then p else if k = 2 then z else if k = 3 then w else if k = 4 then e else t
def Fc (x : Int32) : mm_F := fun _ _ _ _ _ _ => x
def Fn (v : mm_F) : mm_F := fun a p z w e t => -(v a p z w e t)
def Fx (v : mm_F) : mm_F := fun a p z w e t => if v a p z w e t = 0 then 1 else 0
/-- what stands behind a sign ahead of an operand -/
def sgn (c : Int32) (r : Pr) : Pr := if r.1 = true then (true, r.2.1, r.2.2.1 ++ [if c = 45 then -1 else -c], if c = 45 then Fn r.2.2.2 else Fx r.2.2.2) else (false, r.2.1, [], F_0)
def cls (ch : Nat → Int32) (r : Pr) : Pr := if r.1 = true then (if ch r.2.1 = 41 then (true, r.2.1 + 1, r.2.2.1, r.2.2.2) else (false, r.2.1, [], F_0)) else (false, r.2.1, [], F_0)
/-- an operand that opens nothing -/
def op0 (ch : Nat → Int32) (i : Nat) : Pr := if 48 ≤ ch i ∧ ch i ≤ 57 then (true, (tnum ch 4 i 0).1, [(tnum ch 4 i 0).2], Fc (tnum ch 4 i 0).2) else if 0 ≤ nmv (ch i) then (true, i + 1, [10000 + nmv (ch i)], pj (nmv (ch i))) else (false, i, [], F_0)
abbrev opn (c : Int32) : Prop := c = 40 ∨ c = 33 ∨ c = 45
/-- an operand, so many may still be opened -/
def OP (ch : Nat → Int32) : Nat → Nat → Pr
  | 0, i => op0 ch i
  | r + 1, i => if opn (ch i) then (if ch i = 40 then cls ch (tlv ch (OP ch r) 5 (i + 1)) else sgn (ch i) (OP ch r (i + 1))) else op0 ch i
/-- bytes, and what stands behind them -/
def chs (B : Nat → Int32) (N : Nat) (i : Nat) : Int32 := if i < N then B i else -1
section WFP
variable {B : Nat → Int32} {N : Nat}
/-- a result is within its bounds -/
def twf (N : Nat) (i : Nat) (r : Pr) : Prop := r.2.1 ≤ N ∧ (r.1 = true → i < r.2.1 ∧ r.2.2.1.length + i ≤ r.2.1)
theorem chs_in {i : Nat} (h : chs B N i ≠ -1) : i < N := by
  unfold chs at h
  by_cases c : i < N
  · exact c
  · rw [if_neg c] at h
    exact absurd rfl h
theorem sg_ne {t : Nat} {c : Int32} (h : sg t c) : c ≠ -1 ∧ c ≠ 0 := by
  rcases h with h | h | h | h | h
  · rw [h.2]; decide
  · rw [h.2]; decide
  · rcases h.2 with g | g | g <;> rw [g] <;> decide
  · rcases h.2 with g | g <;> rw [g] <;> decide
  · rcases h.2 with g | g | g <;> rw [g] <;> decide
theorem wf_no {i i' : Nat} (h : i' ≤ N) : twf N i (false, i', [], F_0) := ⟨h, fun z => absurd z Bool.false_ne_true⟩
theorem wf_yes {i i' : Nat} {C : List Int32} {v : mm_F} (h : i' ≤ N) (h1 : i < i') (h2 : C.length + i ≤ i') : twf N i (true, i', C, v) := ⟨h, fun _ => ⟨h1, h2⟩⟩
theorem wf_step {i : Nat} {R : Pr} (w : twf N (i + 1) R) (o : R.1 = true) : i + 1 < R.2.1 ∧ R.2.2.1.length + (i + 1) ≤ R.2.1 := w.2 o
theorem cls_wf {i : Nat} {R : Pr} (w : twf N (i + 1) R) : twf N i (cls (chs B N) R) := by
  obtain ⟨b, i', C, v⟩ := R
  unfold cls
  by_cases o : b = true
  · have w1 : i' ≤ N := w.1
    have w2 : i + 1 < i' ∧ C.length + (i + 1) ≤ i' := w.2 o
    rw [if_pos (show (b, i', C, v).1 = true from o)]
    by_cases c3 : chs B N i' = 41
    · rw [if_pos (show chs B N (b, i', C, v).2.1 = 41 from c3)]
      have h3 := chs_in (B := B) (N := N) (i := i') (fun z => by rw [z] at c3; exact absurd c3 (by decide))
      exact wf_yes (by show i' + 1 ≤ N; omega) (by show i < i' + 1; omega) (by show C.length + i ≤ i' + 1; omega)
    · rw [if_neg (show ¬ chs B N (b, i', C, v).2.1 = 41 from c3)]
      exact wf_no w1
  · rw [if_neg (show ¬ (b, i', C, v).1 = true from o)]
    exact wf_no w.1
theorem sgn_wf {i : Nat} {c : Int32} {R : Pr} (w : twf N (i + 1) R) : twf N i (sgn c R) := by
  obtain ⟨b, i', C, v⟩ := R
  unfold sgn
  by_cases o : b = true
  · have w1 : i' ≤ N := w.1
    have w2 : i + 1 < i' ∧ C.length + (i + 1) ≤ i' := w.2 o
    rw [if_pos (show (b, i', C, v).1 = true from o)]
    refine wf_yes (show i' ≤ N from w1) (show i < i' by omega) ?_
    rw [List.length_append]
    show C.length + 1 + i ≤ i'
    omega
  · rw [if_neg (show ¬ (b, i', C, v).1 = true from o)]
    exact wf_no w.1
theorem tlp_wf {sub : Nat → Pr} {t : Nat} (hs : ∀ i, i ≤ N → twf N i (sub i)) {i0 : Nat} : ∀ (m i : Nat) (C : List Int32) (v : mm_F), i ≤ N → i0 < i → C.length + i0 ≤ i → twf N i0 (tlp (chs B N) sub t m i C v)
  | 0, i, C, v, h1, h2, h3 => ⟨h1, fun _ => ⟨h2, h3⟩⟩
  | m + 1, i, C, v, h1, h2, h3 => by
    unfold tlp
    by_cases c : sg t (chs B N i)
    · have hi := chs_in (sg_ne c).1
      have w := hs (i + 1) (by omega)
      rw [if_pos c]
      generalize sub (i + 1) = R at w
      obtain ⟨b, i', C', v'⟩ := R
      by_cases o : b = true
      · rw [if_pos (show (b, i', C', v').1 = true from o)]
        have w1 : i' ≤ N := w.1
        have w2 : i + 1 < i' ∧ C'.length + (i + 1) ≤ i' := w.2 o
        refine tlp_wf hs m i' _ _ w1 (by omega) ?_
        rw [List.length_append, List.length_append]
        show C.length + C'.length + 1 + i0 ≤ i'
        omega
      · rw [if_neg (show ¬ (b, i', C', v').1 = true from o)]
        exact wf_no w.1
    · rw [if_neg c]
      exact ⟨h1, fun _ => ⟨h2, h3⟩⟩
theorem tchn_wf {sub : Nat → Pr} {t : Nat} (hs : ∀ i, i ≤ N → twf N i (sub i)) : ∀ i, i ≤ N → twf N i (chn (chs B N) sub t i) := by
  intro i hi
  unfold chn
  have w := hs i hi
  generalize sub i = R at w
  obtain ⟨b, i', C', v'⟩ := R
  by_cases o : b = true
  · rw [if_pos (show (b, i', C', v').1 = true from o)]
    exact tlp_wf hs _ _ _ _ w.1 (w.2 o).1 (w.2 o).2
  · rw [if_neg (show ¬ (b, i', C', v').1 = true from o)]
    exact wf_no w.1
theorem tlv_wf {op : Nat → Pr} (ho : ∀ i, i ≤ N → twf N i (op i)) : ∀ j i, i ≤ N → twf N i (tlv (chs B N) op j i)
  | 0 => ho
  | j + 1 => tchn_wf (tlv_wf ho j)
theorem tnum_wf : ∀ (m i : Nat) (a : Int32), i ≤ N → i ≤ (tnum (chs B N) m i a).1 ∧ (tnum (chs B N) m i a).1 ≤ N
  | 0, i, a, h => ⟨Nat.le_refl _, h⟩
  | m + 1, i, a, h => by
    unfold tnum
    by_cases c1 : chs B N i < 48
    · rw [if_pos c1]; exact ⟨Nat.le_refl _, h⟩
    · by_cases c2 : 57 < chs B N i
      · rw [if_neg c1, if_pos c2]; exact ⟨Nat.le_refl _, h⟩
      · rw [if_neg c1, if_neg c2]
        have hi := chs_in (B := B) (N := N) (i := i) (fun z => c1 (by rw [z]; decide))
        have w := tnum_wf m (i + 1) (a * 10 + chs B N i - 48) hi
        exact ⟨Nat.le_of_succ_le w.1, w.2⟩
theorem nmv_ne {c : Int32} (h : 0 ≤ nmv c) : c ≠ -1 ∧ c ≠ 0 := by
  refine ⟨fun z => ?_, fun z => ?_⟩ <;> rw [z] at h <;> exact absurd h (by decide)
theorem op0_wf : ∀ i, i ≤ N → twf N i (op0 (chs B N) i) := by
  intro i hi
  unfold op0
  by_cases c1 : 48 ≤ chs B N i ∧ chs B N i ≤ 57
  · rw [if_pos c1]
    have h2 := chs_in (B := B) (N := N) (i := i) (fun z => by rw [z] at c1; exact absurd c1.1 (by decide))
    have e : tnum (chs B N) 4 i 0 = tnum (chs B N) 3 (i + 1) (0 * 10 + chs B N i - 48) := by
      rw [tnum]
      rw [if_neg (Int32.not_lt.mpr c1.1), if_neg (Int32.not_lt.mpr c1.2)]
    have w := tnum_wf (B := B) 3 (i + 1) (0 * 10 + chs B N i - 48) h2
    rw [e]
    generalize tnum (chs B N) 3 (i + 1) (0 * 10 + chs B N i - 48) = R at w
    obtain ⟨i', a⟩ := R
    have w1 : i + 1 ≤ i' := w.1
    exact wf_yes (show i' ≤ N from w.2) (show i < i' from w1) (show 1 + i ≤ i' by omega)
  · rw [if_neg c1]
    by_cases c2 : 0 ≤ nmv (chs B N i)
    · rw [if_pos c2]
      have h2 := chs_in (nmv_ne c2).1
      exact wf_yes h2 (Nat.lt_succ_self i) (Nat.le_of_eq (Nat.add_comm 1 i))
    · rw [if_neg c2]
      exact wf_no hi
theorem opn_ne {c : Int32} (h : opn c) : c ≠ -1 ∧ c ≠ 0 := by
  rcases h with h | h | h <;> rw [h] <;> decide
theorem tOP_wf : ∀ r i, i ≤ N → twf N i (OP (chs B N) r i)
  | 0 => op0_wf
  | r + 1 => by
    intro i hi
    rw [OP]
    by_cases c : opn (chs B N i)
    · have h2 := chs_in (opn_ne c).1
      rw [if_pos c]
      by_cases c2 : chs B N i = 40
      · rw [if_pos c2]
        exact cls_wf (tlv_wf (tOP_wf r) 5 (i + 1) h2)
      · rw [if_neg c2]
        exact sgn_wf (tOP_wf r (i + 1) h2)
    · rw [if_neg c]
      exact op0_wf i hi
end WFP
