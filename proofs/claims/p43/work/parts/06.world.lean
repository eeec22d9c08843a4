/-! the pure world against the heap -/
def mm_ad (base : Nat) (ro : Nat → Nat) (k : Nat) : Nat := if k < 7 then ro k else base + (k - 7)
def mm_cv (ad : Nat → Nat) (v : Value) : Value := match v with
  | .ref k => .ref (ad k)
  | v => v
theorem mm_cv_cat (ad : Nat → Nat) (v : Value) : (mm_cv ad v).category = v.category := by cases v <;> rfl
theorem mm_cv_rf (ad : Nat → Nat) (r : Option Nat) : mm_cv ad (va_rf r) = va_rf (r.map ad) := by cases r <;> rfl
def mm_cell (cT : Nat → ClassId) (ad : Nat → Nat) (w : mm_W) (k : Nat) : va_E :=
  if (mm_nth w.1 k).1 = 0 then .inl (cT 0, (mm_nth w.1 k).2, .inl (w.2.1 k))
  else if (mm_nth w.1 k).1 = 1 then .inl (cT 1, (mm_nth w.1 k).2, .inl (w.2.1 k))
  else if (mm_nth w.1 k).1 = 2 then .inl (cT 2, (mm_nth w.1 k).2, .inr (.inl (w.2.2.1 k)))
  else if (mm_nth w.1 k).1 = 3 then .inl (cT 3, (mm_nth w.1 k).2, .inr (.inr (.inr (.inr (fun j => (w.2.2.2 k j).map ad)))))
  else .inr ((mm_nth w.1 k).1 - 10, (List.range (mm_n ((mm_nth w.1 k).1 - 10))).map (fun j => mm_cv ad (mm_fa w k ((mm_nth w.1 k).1 - 10) j)))
theorem mm_cell0 {cT : Nat → ClassId} {ad : Nat → Nat} {w : mm_W} {k : Nat} (h : (mm_nth w.1 k).1 = 0) : mm_cell cT ad w k = .inl (cT 0, (mm_nth w.1 k).2, .inl (w.2.1 k)) := by unfold mm_cell; rw [if_pos h]
theorem mm_cell1 {cT : Nat → ClassId} {ad : Nat → Nat} {w : mm_W} {k : Nat} (h : (mm_nth w.1 k).1 = 1) : mm_cell cT ad w k = .inl (cT 1, (mm_nth w.1 k).2, .inl (w.2.1 k)) := by unfold mm_cell; rw [if_neg (by omega), if_pos h]
theorem mm_cell2 {cT : Nat → ClassId} {ad : Nat → Nat} {w : mm_W} {k : Nat} (h : (mm_nth w.1 k).1 = 2) : mm_cell cT ad w k = .inl (cT 2, (mm_nth w.1 k).2, .inr (.inl (w.2.2.1 k))) := by unfold mm_cell; rw [if_neg (by omega), if_neg (by omega), if_pos h]
theorem mm_cell3 {cT : Nat → ClassId} {ad : Nat → Nat} {w : mm_W} {k : Nat} (h : (mm_nth w.1 k).1 = 3) : mm_cell cT ad w k = .inl (cT 3, (mm_nth w.1 k).2, .inr (.inr (.inr (.inr (fun j => (w.2.2.2 k j).map ad))))) := by unfold mm_cell; rw [if_neg (by omega), if_neg (by omega), if_neg (by omega), if_pos h]
theorem mm_cellO {cT : Nat → ClassId} {ad : Nat → Nat} {w : mm_W} {k ci : Nat} (h : (mm_nth w.1 k).1 = ci + 10) : mm_cell cT ad w k = .inr (ci, (List.range (mm_n ci)).map (fun j => mm_cv ad (mm_fa w k ci j))) := by
  unfold mm_cell
  rw [if_neg (by omega), if_neg (by omega), if_neg (by omega), if_neg (by omega), h]
  simp
theorem mm_nth_lt : ∀ {S : List (Nat × Nat)} {k : Nat}, (mm_nth S k).1 ≠ 99 → k < S.length
  | [], _, h => absurd rfl h
  | _ :: _, 0, _ => Nat.zero_lt_succ _
  | _ :: l, n + 1, h => Nat.succ_lt_succ (mm_nth_lt (S := l) (k := n) h)
theorem mm_nth_out : ∀ {S : List (Nat × Nat)} {k : Nat}, S.length ≤ k → mm_nth S k = (99, 0)
  | [], _, _ => by unfold mm_nth; rfl
  | _ :: _, 0, h => absurd h (by simp)
  | _ :: l, n + 1, h => mm_nth_out (S := l) (k := n) (Nat.le_of_succ_le_succ h)
theorem mm_nth_app : ∀ {S : List (Nat × Nat)} {x : Nat × Nat} {k : Nat}, k < S.length → mm_nth (S ++ [x]) k = mm_nth S k
  | [], _, _, h => absurd h (by simp)
  | _ :: _, _, 0, _ => rfl
  | _ :: l, x, n + 1, h => mm_nth_app (S := l) (x := x) (k := n) (Nat.lt_of_succ_lt_succ h)
theorem mm_nth_end : ∀ {S : List (Nat × Nat)} {x : Nat × Nat}, mm_nth (S ++ [x]) S.length = x
  | [], _ => rfl
  | _ :: l, x => mm_nth_end (S := l) (x := x)
def mm_sl (S : List (Nat × Nat)) : Nat := (S.map fun q => q.2).sum
theorem mm_sl_app (S : List (Nat × Nat)) (x : Nat × Nat) : mm_sl (S ++ [x]) = mm_sl S + x.2 := by simp [mm_sl]
def mm_all (cT : Nat → ClassId) (base : Nat) (ro : Nat → Nat) (w : mm_W) : va_W := (List.range (w.1.length - 7)).map (fun k => (base + k, mm_cell cT (mm_ad base ro) w (k + 7)))
section MMW
variable {D : va_G} {cT : Nat → ClassId} {base : Nat} {ro : Nat → Nat} {w w' : mm_W} {k : Nat}
theorem mm_ad7 (h : 7 ≤ k) : mm_ad base ro k = base + (k - 7) := if_neg (by omega)
theorem mm_all_at (h7 : 7 ≤ k) (hk : k < w.1.length) : (mm_all cT base ro w)[k - 7]? = some (mm_ad base ro k, mm_cell cT (mm_ad base ro) w k) := by
  unfold mm_all
  rw [List.getElem?_map, List.getElem?_range (by omega), mm_ad7 h7]
  simp only [Option.map_some]
  rw [show k - 7 + 7 = k by omega]
theorem mm_all_in {i : Nat} {q : Nat × va_E} (h : (mm_all cT base ro w)[i]? = some q) : i + 7 < w.1.length ∧ q = (base + i, mm_cell cT (mm_ad base ro) w (i + 7)) := by
  unfold mm_all at h
  rw [List.getElem?_map] at h
  obtain ⟨j, hj, rfl⟩ := Option.map_eq_some_iff.mp h
  have h1 := (List.getElem?_eq_some_iff.mp hj).1
  rw [List.length_range] at h1
  rw [List.getElem?_range h1] at hj
  cases hj
  exact ⟨by omega, rfl⟩
theorem mm_all_D : va_D (fun q => base ≤ q) (mm_all cT base ro w) := by
  refine ⟨fun i j p q hi hj h => ?_, fun i q hi => ?_⟩
  · obtain ⟨-, rfl⟩ := mm_all_in hi
    obtain ⟨-, rfl⟩ := mm_all_in hj
    simp only at h
    omega
  · obtain ⟨-, rfl⟩ := mm_all_in hi
    exact Nat.le_add_right _ _
/-- the worlds differ at one cell at most -/
def mm_off (k : Nat) (w w' : mm_W) : Prop := w'.1 = w.1 ∧ ∀ a, a ≠ k → w'.2.1 a = w.2.1 a ∧ w'.2.2.1 a = w.2.2.1 a ∧ w'.2.2.2 a = w.2.2.2 a
theorem mm_cell_eq {a : Nat} (h0 : mm_nth w'.1 a = mm_nth w.1 a) (h1 : w'.2.1 a = w.2.1 a) (h2 : w'.2.2.1 a = w.2.2.1 a) (h3 : w'.2.2.2 a = w.2.2.2 a) {ad : Nat → Nat} : mm_cell cT ad w' a = mm_cell cT ad w a := by
  unfold mm_cell mm_fa
  simp only [h0, h1, h2, h3]
theorem mm_cell_off (h : mm_off k w w') {a : Nat} (ha : a ≠ k) {ad : Nat → Nat} : mm_cell cT ad w' a = mm_cell cT ad w a := by
  obtain ⟨h1, h2, h3⟩ := h.2 a ha
  exact mm_cell_eq (by rw [h.1]) h1 h2 h3
theorem mm_all_set (h : mm_off k w w') (h7 : 7 ≤ k) (hk : k < w.1.length) : (mm_all cT base ro w).set (k - 7) (mm_ad base ro k, mm_cell cT (mm_ad base ro) w' k) = mm_all cT base ro w' := by
  apply List.ext_getElem?
  intro i
  have hl : (mm_all cT base ro w).length = w.1.length - 7 := by simp [mm_all]
  by_cases hi : i = k - 7
  · subst hi
    rw [List.getElem?_set_self (by omega), mm_all_at h7 (by rw [h.1]; exact hk)]
  · rw [List.getElem?_set_ne (fun z => hi z.symm)]
    by_cases hlt : i + 7 < w.1.length
    · have e1 := mm_all_at (cT := cT) (base := base) (ro := ro) (w := w) (k := i + 7) (by omega) hlt
      have e2 := mm_all_at (cT := cT) (base := base) (ro := ro) (w := w') (k := i + 7) (by omega) (by rw [h.1]; exact hlt)
      rw [show i + 7 - 7 = i by omega] at e1 e2
      rw [e1, e2, mm_cell_off h (by omega)]
    · rw [List.getElem?_eq_none (by omega), List.getElem?_eq_none (by simp [mm_all, h.1]; omega)]
theorem mm_all_push (hl : w'.1.length = w.1.length + 1) (h7 : 7 ≤ w.1.length) (h : ∀ a, a < w.1.length → mm_cell cT (mm_ad base ro) w' a = mm_cell cT (mm_ad base ro) w a) : mm_all cT base ro w' = mm_all cT base ro w ++ [(base + (w.1.length - 7), mm_cell cT (mm_ad base ro) w' w.1.length)] := by
  have e : w'.1.length - 7 = (w.1.length - 7) + 1 := by omega
  unfold mm_all
  rw [e, List.range_succ, List.map_append]
  congr 1
  · apply List.map_congr_left
    intro i hi
    have := List.mem_range.mp hi
    rw [h (i + 7) (by omega)]
  · simp only [List.map_cons, List.map_nil]
    rw [show w.1.length - 7 + 7 = w.1.length by omega]
/-- the heap holds the pure world; what nobody writes is told of the method's start -/
def mm_H (D : va_G) (cT : Nat → ClassId) (base : Nat) (ro : Nat → Nat) (s : State) (H : Heap) (w : mm_W) : Prop :=
  va_P D vwCl (mm_all cT base ro w) H ∧ 7 ≤ w.1.length ∧
  (∀ k, k < 7 → ((mm_nth w.1 k).1 = 4 ∧ va_T .int (ro k) (mm_nth w.1 k).2 (fun j => .int (w.2.1 k j)) (fun q => base ≤ q) s s.heap) ∨ ((mm_nth w.1 k).1 = 5 ∧ va_T .long (ro k) (mm_nth w.1 k).2 (fun j => .long (w.2.2.1 k j)) (fun q => base ≤ q) s s.heap)) ∧
  ∀ k, 7 ≤ k → (mm_nth w.1 k).1 ≠ 4 ∧ (mm_nth w.1 k).1 ≠ 5
theorem mm_H.ge {s : State} {H : Heap} (h : mm_H D cT base ro s H w) (h4 : (mm_nth w.1 k).1 ≠ 4) (h5 : (mm_nth w.1 k).1 ≠ 5) : 7 ≤ k := by
  rcases Nat.lt_or_ge k 7 with h1 | h1
  · rcases h.2.2.1 k h1 with ⟨q, -⟩ | ⟨q, -⟩
    · exact absurd q h4
    · exact absurd q h5
  · exact h1
theorem mm_H.at {s : State} {H : Heap} (h : mm_H D cT base ro s H w) (h4 : (mm_nth w.1 k).1 ≠ 4) (h5 : (mm_nth w.1 k).1 ≠ 5) (h9 : (mm_nth w.1 k).1 ≠ 99) : (mm_all cT base ro w)[k - 7]? = some (mm_ad base ro k, mm_cell cT (mm_ad base ro) w k) := mm_all_at (h.ge h4 h5) (mm_nth_lt h9)
theorem mm_H.set {s : State} {H H1 : Heap} (h : mm_H D cT base ro s H w) (ho : mm_off k w w') (h4 : (mm_nth w.1 k).1 ≠ 4) (h5 : (mm_nth w.1 k).1 ≠ 5) (h9 : (mm_nth w.1 k).1 ≠ 99) (hP : va_P D vwCl ((mm_all cT base ro w).set (k - 7) (mm_ad base ro k, mm_cell cT (mm_ad base ro) w' k)) H1) : mm_H D cT base ro s H1 w' := by
  have h7 := h.ge h4 h5
  rw [mm_all_set ho h7 (mm_nth_lt h9)] at hP
  refine ⟨hP, by rw [ho.1]; exact h.2.1, fun a ha => ?_, fun a ha => by rw [ho.1]; exact h.2.2.2 a ha⟩
  obtain ⟨e1, e2, -⟩ := ho.2 a (by omega)
  rw [ho.1, e1, e2]
  exact h.2.2.1 a ha
theorem mm_off_I (f : Nat → Int32) : mm_off k w (w.1, mm_uc w.2.1 k f, w.2.2) := ⟨rfl, fun _ ha => ⟨mm_uc_ne _ _ ha, rfl, rfl⟩⟩
theorem mm_off_J (f : Nat → Int64) : mm_off k w (w.1, w.2.1, mm_uc w.2.2.1 k f, w.2.2.2) := ⟨rfl, fun _ ha => ⟨rfl, mm_uc_ne _ _ ha, rfl⟩⟩
theorem mm_off_R (f : Nat → Option Nat) : mm_off k w (w.1, w.2.1, w.2.2.1, mm_uc w.2.2.2 k f) := ⟨rfl, fun _ ha => ⟨rfl, rfl, mm_uc_ne _ _ ha⟩⟩
theorem mm_range_set (n j : Nat) (g : Nat → Value) (v : Value) : ((List.range n).map g).set j v = (List.range n).map (fun i => if i = j then v else g i) := by
  apply List.ext_getElem?
  intro i
  by_cases hi : i = j
  · subst hi
    by_cases hn : i < n
    · rw [List.getElem?_set_self (by simpa using hn), List.getElem?_map, List.getElem?_range hn]
      simp
    · rw [List.getElem?_eq_none (by simpa using hn), List.getElem?_eq_none (by simpa using hn)]
  · rw [List.getElem?_set_ne (fun z => hi z.symm), List.getElem?_map, List.getElem?_map]
    by_cases hn : i < n
    · rw [List.getElem?_range hn]
      simp [hi]
    · rw [List.getElem?_eq_none (by simpa using hn)]
      rfl
/-- the locals -/
def mm_LH (ad : Nat → Nat) (ls : Array Slot) (nL : Nat) (L : mm_L) : Prop := ls.size = nL ∧ L.length = nL ∧ lv_wf ls ∧ ∀ j v, mm_get L j = some v → ls[j]? = some (.val (mm_cv ad v))
def mm_ll (ad : Nat → Nat) (L : mm_L) : List (Nat × Value) := (List.range L.length).filterMap fun j => (mm_get L j).map fun v => (j, mm_cv ad v)
theorem mm_get_len : ∀ {L : mm_L} {j : Nat} {v : Value}, mm_get L j = some v → j < L.length
  | [], _, _, h => by unfold mm_get at h; cases h
  | _ :: _, 0, _, _ => Nat.zero_lt_succ _
  | _ :: l, n + 1, v, h => Nat.succ_lt_succ (mm_get_len (L := l) (j := n) (v := v) h)
theorem mm_get_set : ∀ {L : mm_L} {i j : Nat} {x : Option Value} {v : Value}, mm_get (L.set i x) j = some v → (j = i ∧ x = some v) ∨ (j ≠ i ∧ mm_get L j = some v)
  | [], i, j, x, v, h => by simp [mm_get] at h
  | a :: l, 0, 0, x, v, h => Or.inl ⟨rfl, h⟩
  | a :: l, 0, n + 1, x, v, h => Or.inr ⟨by omega, h⟩
  | a :: l, m + 1, 0, x, v, h => Or.inr ⟨by omega, h⟩
  | a :: l, m + 1, n + 1, x, v, h => by
    rcases mm_get_set (L := l) (i := m) (j := n) (x := x) (v := v) h with ⟨e, q⟩ | ⟨e, q⟩
    · exact Or.inl ⟨by omega, q⟩
    · exact Or.inr ⟨by omega, q⟩
theorem mm_ll_mem {ad : Nat → Nat} {L : mm_L} {q : Nat × Value} (h : q ∈ mm_ll ad L) : ∃ v, mm_get L q.1 = some v ∧ q.2 = mm_cv ad v := by
  obtain ⟨j, -, hj⟩ := List.mem_filterMap.mp h
  obtain ⟨v, hv, rfl⟩ := Option.map_eq_some_iff.mp hj
  exact ⟨v, hv, rfl⟩
theorem mm_ll_in {ad : Nat → Nat} {L : mm_L} {j : Nat} {v : Value} (h : mm_get L j = some v) : (j, mm_cv ad v) ∈ mm_ll ad L :=
  List.mem_filterMap.mpr ⟨j, List.mem_range.mpr (mm_get_len h), by rw [h]; rfl⟩
theorem mm_LH.has {ad : Nat → Nat} {ls : Array Slot} {nL : Nat} {L : mm_L} (h : mm_LH ad ls nL L) : lv_has ls nL (mm_ll ad L) := ⟨h.1, h.2.2.1, fun q hq => by
  obtain ⟨v, h1, h2⟩ := mm_ll_mem hq
  rw [h2]
  exact h.2.2.2 _ _ h1⟩
theorem mm_clr_len (L : mm_L) (i : Nat) : (mm_clr L i).length = L.length := by
  unfold mm_clr
  cases i with
  | zero => rfl
  | succ j =>
    simp only
    split
    · rename_i v _
      cases Nat.beq v.category 2 <;> simp
    · rfl
theorem mm_clr_get {L : mm_L} {i j : Nat} {v : Value} (h : mm_get (mm_clr L i) j = some v) : mm_get L j = some v ∧ ¬ (j + 1 = i ∧ v.category = 2) := by
  unfold mm_clr at h
  cases i with
  | zero => exact ⟨h, by omega⟩
  | succ n =>
    simp only at h
    cases hn : mm_get L n with
    | none =>
      rw [hn] at h
      refine ⟨h, fun z => ?_⟩
      obtain rfl : j = n := by omega
      rw [hn] at h
      cases h
    | some u =>
      rw [hn] at h
      cases hc : Nat.beq u.category 2 with
      | true =>
        simp only [hc, cond_true] at h
        rcases mm_get_set h with ⟨-, q⟩ | ⟨e, q⟩
        · cases q
        · exact ⟨q, fun z => e (by omega)⟩
      | false =>
        simp only [hc, cond_false] at h
        refine ⟨h, fun z => ?_⟩
        obtain rfl : j = n := by omega
        rw [hn] at h
        cases h
        rw [z.2] at hc
        cases hc
theorem mm_set1_ok {ad : Nat → Nat} {ls ls' : Array Slot} {nL i : Nat} {L L1 : mm_L} {v : Value} (h : mm_LH ad ls nL L) (hs : mm_set1 L i v = some L1)
    (h' : lv_has ls' nL ((i, mm_cv ad v) :: (mm_ll ad L).filter (fun q => !(q.1 == i) && !(q.1 + 1 == i && q.2.category == 2)))) : mm_LH ad ls' nL L1 := by
  unfold mm_set1 at hs
  cases hb : Nat.blt i L.length with
  | false => rw [hb] at hs; cases hs
  | true =>
    rw [hb] at hs
    cases hs
    refine ⟨h'.1, by simp [mm_clr_len, h.2.1], h'.2.1, fun j u hu => ?_⟩
    rcases mm_get_set hu with ⟨rfl, q⟩ | ⟨e, q⟩
    · cases q
      exact h'.2.2 (j, mm_cv ad v) List.mem_cons_self
    · obtain ⟨q1, q2⟩ := mm_clr_get q
      refine h'.2.2 (j, mm_cv ad u) (List.mem_cons_of_mem _ (List.mem_filter.mpr ⟨mm_ll_in q1, ?_⟩))
      simp only [mm_cv_cat]
      simp [e]
      by_cases z : j + 1 = i
      · exact Or.inr (fun z2 => q2 ⟨z, z2⟩)
      · exact Or.inl z
theorem mm_set2_ok {ad : Nat → Nat} {ls ls' : Array Slot} {nL i : Nat} {L L1 : mm_L} {v : Value} (h : mm_LH ad ls nL L) (hs : mm_set2 L i v = some L1)
    (h' : lv_has ls' nL ((i, mm_cv ad v) :: (mm_ll ad L).filter (fun q => !(q.1 == i) && (!(q.1 == i + 1) && !(q.1 + 1 == i && q.2.category == 2))))) : mm_LH ad ls' nL L1 := by
  unfold mm_set2 at hs
  cases hb : Nat.blt (i + 1) L.length with
  | false => rw [hb] at hs; cases hs
  | true =>
    rw [hb] at hs
    cases hs
    refine ⟨h'.1, by simp [mm_clr_len, h.2.1], h'.2.1, fun j u hu => ?_⟩
    rcases mm_get_set hu with ⟨-, q⟩ | ⟨e0, q0⟩
    · cases q
    rcases mm_get_set q0 with ⟨rfl, q⟩ | ⟨e, q⟩
    · cases q
      exact h'.2.2 (j, mm_cv ad v) List.mem_cons_self
    · obtain ⟨q1, q2⟩ := mm_clr_get q
      refine h'.2.2 (j, mm_cv ad u) (List.mem_cons_of_mem _ (List.mem_filter.mpr ⟨mm_ll_in q1, ?_⟩))
      simp only [mm_cv_cat]
      simp [e, e0]
      by_cases z : j + 1 = i
      · exact Or.inr (fun z2 => q2 ⟨z, z2⟩)
      · exact Or.inl z
theorem mm_set1_lt {L L1 : mm_L} {i : Nat} {v : Value} (hs : mm_set1 L i v = some L1) : i < L.length := by
  unfold mm_set1 at hs
  cases hb : Nat.blt i L.length with
  | false => rw [hb] at hs; cases hs
  | true => exact Nat.le_of_ble_eq_true hb
theorem mm_set2_lt {L L1 : mm_L} {i : Nat} {v : Value} (hs : mm_set2 L i v = some L1) : i + 1 < L.length := by
  unfold mm_set2 at hs
  cases hb : Nat.blt (i + 1) L.length with
  | false => rw [hb] at hs; cases hs
  | true => exact Nat.le_of_ble_eq_true hb
end MMW
