/-! fields, new cells, the JDK's own calls: the rest of the straight instructions -/
section MMC
variable {p : Program} {l : Launch} {e : Env} {R : Room} {s : State} {m : MethodId} {args : Array Value} {below : List Frame} {meth : Method} {c : Code} {H : Heap} {locs : List Loc} {cells slots : Nat} {Q : State → Prop}
variable {cc : ByteArray} {pc len nL o : Nat} {ini : Bool} {ls : Array Slot} {L L' : mm_L} {st st' : List Value} {w w' w0 : mm_W} {D : va_G} {cT : Nat → ClassId} {base : Nat} {ro : Nat → Nat} {P : Prop} {j : Instr}
theorem mm_dm {a b : Nat} (h : b < 64) : (a * 64 + b) / 64 = a ∧ (a * 64 + b) % 64 = b := by omega
theorem mm_k_getfield {x : Nat} (C : mm_Cx p R s m args meth c o ini cc nL D cT base ro) (hl : mm_LH (mm_ad base ro) ls nL L) (hp : mm_Pt D cT base ro s w0 H locs cells slots w) (hroom : w'.1.length ≤ w0.1.length + R.cells ∧ mm_sl w'.1 ≤ mm_sl w0.1 + R.slots) (hj : mm_seq j L st w = some (P, L', st', w')) (hP : P) (kk : mm_KK p l e R s m args below meth c Q nL D cT base ro w0 (pc + len) L' st' w') (hd : decode cc pc = .ok (.getfield x, len)) (hr : mm_res o ini (.getfield x) len = some j) : W p l e R s m args below meth c H locs cells slots Q (F0 m pc ls (st.map (mm_cv (mm_ad base ro)))) := by
  obtain ⟨hb1, hr⟩ := mm_c2' (show cond (Nat.beq len 3) ((mm_look mm_fldL o x).map fun q => Instr.getfield (q.1 * 64 + q.2)) none = some j from hr)
  obtain rfl := Nat.eq_of_beq_eq_true hb1
  obtain ⟨q, hz, rfl⟩ := Option.map_eq_some_iff.mp hr
  obtain ⟨n, hn⟩ := mm_look_in hz
  obtain ⟨g1, g2, g3, g4⟩ := mm_fld_ok _ hn
  dsimp only at g1 g2 g3 g4
  have h48 := mm_n48 g2
  obtain ⟨d1, d2⟩ := mm_dm (a := q.1) (b := q.2) (by omega)
  replace hj : mm_gf (q.1 * 64 + q.2) L st w = some (P, L', st', w') := hj
  unfold mm_gf at hj
  rw [d1, d2] at hj
  split at hj
  · rename_i k t
    obtain ⟨hb2, he⟩ := mm_cond_inv hj
    have hk : (mm_nth w.1 k).1 = q.1 + 10 := Nat.eq_of_beq_eq_true hb2
    cases he
    have ha := hp.at (k := k) (by omega) (by omega) (by omega)
    rw [mm_cellO hk] at ha
    exact va_get C.1 C.2.1 C.2.2.2.2.1 (mm_uws g2) C.2.2.2.1 C.2.2.2.2.2.2.2.1 hp.1.1 (k - 7) ha (mm_vwCl g2) q.2 g1 (C.has g4 rfl) (fun y hy => by rw [g3] at hy; exact hy) (by rw [List.getElem?_map, List.getElem?_range g1]; rfl) hd (kk _ _ _ _ _ hl hp)
  · cases hj
theorem mm_pv_ok {ty : FieldType} {k f : Nat} {v : Value} {t : List Value} (hj : mm_pv ty k f v L t w = some (P, L', st', w')) (hP : P) :
    L' = L ∧ st' = t ∧ mm_off k w w' ∧ ∀ (ad : Nat → Nat), narrow ty (mm_cv ad v) = mm_cv ad v ∧ fits ty (mm_cv ad v) = true ∧ ∀ ci, mm_ty ci f = ty → ∀ i, mm_cv ad (mm_fa w' k ci i) = if i = f then mm_cv ad v else mm_cv ad (mm_fa w k ci i) := by
  unfold mm_pv at hj
  split at hj
  · cases hj
    refine ⟨rfl, rfl, mm_off_I _, fun ad => ⟨rfl, rfl, fun ci hc i => ?_⟩⟩
    by_cases hi : i = f
    · subst hi
      rw [if_pos rfl]
      unfold mm_fa
      rw [hc]
      simp only [mm_uc_self, upd, if_pos]
    · rw [if_neg hi]
      unfold mm_fa
      split <;> simp only [mm_uc_self, upd, if_neg hi]
  · cases hj
    refine ⟨rfl, rfl, mm_off_I _, fun ad => ⟨?_, ?_, fun ci hc i => ?_⟩⟩
    · rcases hP with rfl | rfl <;> rfl
    · rcases hP with rfl | rfl <;> rfl
    by_cases hi : i = f
    · subst hi
      rw [if_pos rfl]
      unfold mm_fa
      rw [hc]
      simp only [mm_uc_self, upd, if_pos]
    · rw [if_neg hi]
      unfold mm_fa
      split <;> simp only [mm_uc_self, upd, if_neg hi]
  · cases hj
    refine ⟨rfl, rfl, mm_off_J _, fun ad => ⟨rfl, rfl, fun ci hc i => ?_⟩⟩
    by_cases hi : i = f
    · subst hi
      rw [if_pos rfl]
      unfold mm_fa
      rw [hc]
      simp only [mm_uc_self, vp_updL, if_pos]
    · rw [if_neg hi]
      unfold mm_fa
      split <;> simp only [mm_uc_self, vp_updL, if_neg hi]
  · cases hj
    refine ⟨rfl, rfl, mm_off_R _, fun ad => ⟨rfl, rfl, fun ci hc i => ?_⟩⟩
    by_cases hi : i = f
    · subst hi
      rw [if_pos rfl]
      unfold mm_fa
      rw [hc]
      simp only [mm_uc_self, va_up, if_pos]
      rfl
    · rw [if_neg hi]
      unfold mm_fa
      split <;> simp only [mm_uc_self, va_up, if_neg hi]
  · cases hj
    refine ⟨rfl, rfl, mm_off_R _, fun ad => ⟨rfl, rfl, fun ci hc i => ?_⟩⟩
    by_cases hi : i = f
    · subst hi
      rw [if_pos rfl]
      unfold mm_fa
      rw [hc]
      simp only [mm_uc_self, va_up, if_pos]
      rfl
    · rw [if_neg hi]
      unfold mm_fa
      split <;> simp only [mm_uc_self, va_up, if_neg hi]
  · cases hj
theorem mm_k_putfield {x : Nat} (C : mm_Cx p R s m args meth c o ini cc nL D cT base ro) (hl : mm_LH (mm_ad base ro) ls nL L) (hp : mm_Pt D cT base ro s w0 H locs cells slots w) (hroom : w'.1.length ≤ w0.1.length + R.cells ∧ mm_sl w'.1 ≤ mm_sl w0.1 + R.slots) (hj : mm_seq j L st w = some (P, L', st', w')) (hP : P) (kk : mm_KK p l e R s m args below meth c Q nL D cT base ro w0 (pc + len) L' st' w') (hd : decode cc pc = .ok (.putfield x, len)) (hr : mm_res o ini (.putfield x) len = some j) : W p l e R s m args below meth c H locs cells slots Q (F0 m pc ls (st.map (mm_cv (mm_ad base ro)))) := by
  obtain ⟨hb1, hr⟩ := mm_c2' (show cond (Nat.beq len 3) ((mm_look mm_fldL o x).bind fun q => cond (!(mm_T q.1 q.2).2.2.2 || (ini && Nat.beq q.1 o)) (some (Instr.putfield (q.1 * 64 + q.2))) none) none = some j from hr)
  obtain rfl := Nat.eq_of_beq_eq_true hb1
  obtain ⟨q, hz, hr⟩ := Option.bind_eq_some_iff.mp hr
  obtain ⟨hb3, rfl⟩ := mm_c1 hr
  obtain ⟨n, hn⟩ := mm_look_in hz
  obtain ⟨g1, g2, g3, g4⟩ := mm_fld_ok _ hn
  dsimp only at g1 g2 g3 g4
  have h48 := mm_n48 g2
  obtain ⟨d1, d2⟩ := mm_dm (a := q.1) (b := q.2) (by omega)
  replace hj : mm_pf (q.1 * 64 + q.2) L st w = some (P, L', st', w') := hj
  unfold mm_pf at hj
  rw [d1, d2] at hj
  split at hj
  · rename_i v k t
    obtain ⟨hb2, he⟩ := mm_cond_inv hj
    have hk : (mm_nth w.1 k).1 = q.1 + 10 := Nat.eq_of_beq_eq_true hb2
    obtain ⟨rfl, rfl, ho, hv⟩ := mm_pv_ok he hP
    obtain ⟨v1, v2, v3⟩ := hv (mm_ad base ro)
    have ha := hp.at (k := k) (by omega) (by omega) (by omega)
    rw [mm_cellO hk] at ha
    have hset : ∀ (H1 : Heap) (locs1 : List Loc), va_P D vwCl ((mm_all cT base ro w).set (k - 7) (mm_ad base ro k, .inr (q.1, ((List.range (mm_n q.1)).map (fun j => mm_cv (mm_ad base ro) (mm_fa w k q.1 j))).set q.2 (mm_cv (mm_ad base ro) v)))) H1 → va_D (mm_A base) ((mm_all cT base ro w).set (k - 7) (mm_ad base ro k, .inr (q.1, ((List.range (mm_n q.1)).map (fun j => mm_cv (mm_ad base ro) (mm_fa w k q.1 j))).set q.2 (mm_cv (mm_ad base ro) v)))) → va_S (mm_A base) s.heap H1 locs1 → W p l e R s m args below meth c H1 locs1 cells slots Q (F0 m (pc + 3) ls (st'.map (mm_cv (mm_ad base ro)))) := by
      intro H1 locs1 hP1 _ hS1
      refine kk _ _ _ _ _ hl (hp.sets ho (by omega) (by omega) (by omega) hP1 ?_ hS1)
      rw [mm_range_set, mm_cellO (w := w') (ci := q.1) (by rw [ho.1]; exact hk)]
      congr 2
      apply List.map_congr_left
      intro i _
      exact (v3 q.1 rfl i).symm
    cases hf : (mm_T q.1 q.2).2.2.2 with
    | false => exact va_put C.1 C.2.1 C.2.2.2.2.1 (mm_uws g2) (mm_ty q.1) (mm_tyk g2) (mm_nmk g2) C.2.2.2.1 C.2.2.2.2.2.2.2.1 hp.1.1 mm_all_D hp.2.1 (k - 7) ha (mm_vwCl g2) q.2 g1 (C.has g4 rfl) (fun y hy => by rw [g3] at hy; exact hy) hf (mm_tyk g2 _ g1) v1 v2 (by simpa using g1) hd hset
    | true =>
      rw [hf] at hb3
      simp only [Bool.not_true, Bool.false_or, Bool.and_eq_true] at hb3
      have ho2 : q.1 = o := Nat.eq_of_beq_eq_true hb3.2
      exact va_putF C.1 C.2.1 C.2.2.2.2.1 (mm_uws g2) (mm_ty q.1) (mm_tyk g2) (mm_nmk g2) C.2.2.2.1 C.2.2.2.2.2.2.2.1 hp.1.1 mm_all_D hp.2.1 (k - 7) ha (mm_vwCl g2) q.2 g1 (C.has g4 rfl) (fun y hy => by rw [g3] at hy; exact hy) hf (C.2.2.2.2.2.2.1 hb3.1) (by rw [g3, ho2]) (mm_tyk g2 _ g1) v1 v2 (by simpa using g1) hd hset
  · cases hj
theorem mm_Pt.ge (hp : mm_Pt D cT base ro s w0 H locs cells slots w) {z : Nat} (hz : s.heap.size ≤ z) : base ≤ z := by
  have := hp.2.2.2.2
  omega
/-- a new cell lies behind the others -/
theorem mm_next {T : State} {cells1 : Nat} {locs1 : List Loc} {slots1 q : Nat} {ce : va_E} (hp : mm_Pt D cT base ro s w0 H locs cells slots w) (hc : cells1 = cells + 1) (X : Stand p l e R s m args below meth c T locs1 cells1 slots1) (hP : va_P D vwCl (mm_all cT base ro w ++ [(q, ce)]) T.heap) (hD : va_D (mm_A base) (mm_all cT base ro w ++ [(q, ce)])) : q = base + (w.1.length - 7) := by
  have hll : (mm_all cT base ro w).length = w.1.length - 7 := by simp [mm_all]
  have hq : (mm_all cT base ro w ++ [(q, ce)])[w.1.length - 7]? = some (q, ce) := by rw [List.getElem?_append_right (by omega), hll, Nat.sub_self]; rfl
  have h1 : base ≤ q := hD.2 _ _ hq
  have h2 : q < T.heap.size := (hP _ _ hq).lt
  have h3 := X.heapSize
  have h4 := hp.2.2.1
  have h5 := hp.2.2.2.2.1
  have h6 := hp.1.2.1
  rcases Nat.lt_or_ge q (base + (w.1.length - 7)) with h | h
  · have ha := mm_all_at (cT := cT) (base := base) (ro := ro) (w := w) (k := (q - base) + 7) (by omega) (by omega)
    rw [show q - base + 7 - 7 = q - base by omega] at ha
    have hb : (mm_all cT base ro w ++ [(q, ce)])[q - base]? = some (mm_ad base ro (q - base + 7), mm_cell cT (mm_ad base ro) w (q - base + 7)) := by rw [List.getElem?_append_left (by omega)]; exact ha
    have := hD.1 _ _ _ _ hq hb (by show q = mm_ad base ro (q - base + 7); rw [mm_ad7 (by omega)]; omega)
    omega
  · omega
theorem mm_grown (hp : mm_Pt D cT base ro s w0 H locs cells slots w) {H1 : Heap} {x : Nat × Nat} {I : Nat → Nat → Int32} {J : Nat → Nat → Int64} {G : Nat → Nat → Option Nat} {ce : va_E} (hw : w' = (w.1 ++ [x], I, J, G)) (hI : ∀ a, a < w.1.length → I a = w.2.1 a ∧ J a = w.2.2.1 a ∧ G a = w.2.2.2 a) (hx : x.1 ≠ 4 ∧ x.1 ≠ 5) (hce : ce = mm_cell cT (mm_ad base ro) w' w.1.length)
    (hP : va_P D vwCl (mm_all cT base ro w ++ [(base + (w.1.length - 7), ce)]) H1) (hS : va_S (mm_A base) s.heap H1 locs) : mm_Pt D cT base ro s w0 H1 locs (cells + 1) (slots + x.2) w' := by
  have h7 := hp.1.2.1
  have hlen : w'.1.length = w.1.length + 1 := by rw [hw]; simp
  have hn : ∀ a, a < w.1.length → mm_nth w'.1 a = mm_nth w.1 a := fun a ha => by rw [hw]; exact mm_nth_app ha
  have hs : ∀ a, a < w.1.length → w'.2.1 a = w.2.1 a ∧ w'.2.2.1 a = w.2.2.1 a ∧ w'.2.2.2 a = w.2.2.2 a := fun a ha => by rw [hw]; exact hI a ha
  rw [hce, ← mm_all_push hlen h7 (fun a ha => by obtain ⟨q1, q2, q3⟩ := hs a ha; exact mm_cell_eq (hn a ha) q1 q2 q3)] at hP
  refine ⟨⟨hP, by omega, fun k hk => ?_, fun k hk => ?_⟩, hS, by have := hp.2.2.1; omega, ?_, hp.2.2.2.2⟩
  · obtain ⟨q1, q2, -⟩ := hs k (by omega)
    rw [hn k (by omega), q1, q2]
    exact hp.1.2.2.1 k hk
  · rcases Nat.lt_or_ge k w.1.length with h | h
    · rw [hn k h]; exact hp.1.2.2.2 k hk
    · rcases Nat.lt_or_ge w.1.length k with h2 | h2
      · rw [mm_nth_out (by omega)]; exact ⟨by decide, by decide⟩
      · obtain rfl : k = w.1.length := by omega
        rw [hw, mm_nth_end]; exact hx
  · rw [hw, mm_sl_app]
    have := hp.2.2.2.1
    omega
theorem mm_k_new {x : Nat} (C : mm_Cx p R s m args meth c o ini cc nL D cT base ro) (hl : mm_LH (mm_ad base ro) ls nL L) (hp : mm_Pt D cT base ro s w0 H locs cells slots w) (hroom : w'.1.length ≤ w0.1.length + R.cells ∧ mm_sl w'.1 ≤ mm_sl w0.1 + R.slots) (hj : mm_seq j L st w = some (P, L', st', w')) (hP : P) (kk : mm_KK p l e R s m args below meth c Q nL D cT base ro w0 (pc + len) L' st' w') (hd : decode cc pc = .ok (.new x, len)) (hr : mm_res o ini (.new x) len = some j) : W p l e R s m args below meth c H locs cells slots Q (F0 m pc ls (st.map (mm_cv (mm_ad base ro)))) := by
  obtain ⟨hb1, hr⟩ := mm_c2' (show cond (Nat.beq len 3) ((mm_look mm_claL o x).map Instr.new) none = some j from hr)
  obtain rfl := Nat.eq_of_beq_eq_true hb1
  obtain ⟨q, hz, rfl⟩ := Option.map_eq_some_iff.mp hr
  obtain ⟨n, hn⟩ := mm_look_in hz
  obtain ⟨g1, g2, g3, g4⟩ := mm_cla_ok _ hn
  dsimp only at g1 g2 g3 g4
  cases hj
  have hr1 := hroom.1
  have hr2 := hroom.2
  simp only [List.length_append, List.length_cons, List.length_nil] at hr1
  rw [mm_sl_app] at hr2
  have hc1 := hp.2.2.1
  have hs1 := hp.2.2.2.1
  refine va_new C.1 C.2.1 C.2.2.2.2.1 (mm_uws g1) (mm_ty q) (mm_tyk g1) C.2.2.2.1 (C.has g2 rfl) (C.2.2.2.2.1 _ (List.mem_filter.mpr ⟨g3, rfl⟩)) (C.2.2.2.2.1 _ (List.mem_filter.mpr ⟨g4, rfl⟩)) C.2.2.2.2.2.2.2.1 hp.1.1 mm_all_D hp.2.1 (fun z hz => ?_) (mm_vwCl g1) (fs := (List.range (mm_n q)).map (fun j => mm_zv (mm_ty q j))) (fun j hj => ?_) (by omega) (by omega) hd (fun z H1 hP1 hD1 hS1 => ?_)
  · exact mm_Pt.ge hp hz
  · rw [mm_zv_ok q (List.mem_range.mpr g1) j (List.mem_range.mpr hj)]
    unfold vp_V
    simp [hj]
  · intro T hT X
    have e1 := mm_next hp rfl X (by rw [hT]; exact hP1) hD1
    subst e1
    have k1 := kk H1 locs (cells + 1) (slots + mm_n q) ls hl (mm_grown hp rfl (fun a ha => ⟨mm_uc_ne _ _ (by omega), mm_uc_ne _ _ (by omega), mm_uc_ne _ _ (by omega)⟩) ⟨by show q + 10 ≠ 4; omega, by show q + 10 ≠ 5; omega⟩ ?_ hP1 hS1)
    · rw [List.map_cons, show mm_cv (mm_ad base ro) (.ref w.1.length) = .ref (base + (w.1.length - 7)) from congrArg Value.ref (mm_ad7 hp.1.2.1)] at k1
      exact k1 T hT X
    · rw [mm_cellO (ci := q) (by rw [mm_nth_end])]
      congr 2
      apply List.map_congr_left
      intro i _
      unfold mm_fa mm_zv
      simp only [mm_uc_self]
      cases mm_ty q i <;> rfl

/-- what comes back behind a made array -/
theorem mm_newarr {kd : Nat} {q N : Nat} {H1 : Heap} {pc' : Nat} {t : List Value} {ce : va_E} (hp : mm_Pt D cT base ro s w0 H locs cells slots w) (hl : mm_LH (mm_ad base ro) ls nL L) (hkd : kd < 4)
    (kk : mm_KK p l e R s m args below meth c Q nL D cT base ro w0 pc' L (.ref w.1.length :: t) ((w.1 ++ [(kd, N)], mm_uc w.2.1 w.1.length (fun _ => 0), mm_uc w.2.2.1 w.1.length (fun _ => 0), mm_uc w.2.2.2 w.1.length (fun _ => none)) : mm_W))
    (hce : ce = mm_cell cT (mm_ad base ro) ((w.1 ++ [(kd, N)], mm_uc w.2.1 w.1.length (fun _ => 0), mm_uc w.2.2.1 w.1.length (fun _ => 0), mm_uc w.2.2.2 w.1.length (fun _ => none)) : mm_W) w.1.length)
    (hP1 : va_P D vwCl (mm_all cT base ro w ++ [(q, ce)]) H1) (hD1 : va_D (mm_A base) (mm_all cT base ro w ++ [(q, ce)])) (hS1 : va_S (mm_A base) s.heap H1 locs) : W p l e R s m args below meth c H1 locs (cells + 1) (slots + N) Q (F0 m pc' ls (.ref q :: t.map (mm_cv (mm_ad base ro)))) := by
  intro T hT X
  have e1 := mm_next hp rfl X (by rw [hT]; exact hP1) hD1
  subst e1
  have k1 := kk H1 locs (cells + 1) (slots + N) ls hl (mm_grown hp rfl (fun a ha => ⟨mm_uc_ne _ _ (by omega), mm_uc_ne _ _ (by omega), mm_uc_ne _ _ (by omega)⟩) ⟨by show kd ≠ 4; omega, by show kd ≠ 5; omega⟩ hce hP1 hS1)
  rw [List.map_cons, show mm_cv (mm_ad base ro) (.ref w.1.length) = .ref (base + (w.1.length - 7)) from congrArg Value.ref (mm_ad7 hp.1.2.1)] at k1
  exact k1 T hT X
theorem mm_same_c {k : Nat} {cA : ClassId} {ty : FieldType} (hK : va_K D vwCl (mm_tys cT ++ [(cA, ty)]) s) (h : (mm_tys cT)[k]? = some (cT k, ty)) : cA = cT k := by
  have hl : (mm_tys cT).length = 4 := rfl
  have hk : k < 4 := by
    rw [← hl]
    exact (List.getElem?_eq_some_iff.mp h).1
  have h1 := (hK.2 4 (cA, ty) (by rw [List.getElem?_append_right (by omega)]; rfl)).2
  have h2 := (hK.2 k (cT k, ty) (by rw [List.getElem?_append_left (by omega)]; exact h)).2
  cases ty with
  | object C =>
    obtain ⟨kA, comp, -, -, -, a⟩ := h1
    obtain ⟨kB, comp2, -, -, -, b⟩ := h2
    exact Option.some.inj (a.symm.trans b)
  | _ => exact Option.some.inj (Eq.trans (Eq.symm h1) h2)

theorem mm_k_newarray {x : ArrayType} (C : mm_Cx p R s m args meth c o ini cc nL D cT base ro) (hl : mm_LH (mm_ad base ro) ls nL L) (hp : mm_Pt D cT base ro s w0 H locs cells slots w) (hroom : w'.1.length ≤ w0.1.length + R.cells ∧ mm_sl w'.1 ≤ mm_sl w0.1 + R.slots) (hj : mm_seq j L st w = some (P, L', st', w')) (hP : P) (kk : mm_KK p l e R s m args below meth c Q nL D cT base ro w0 (pc + len) L' st' w') (hd : decode cc pc = .ok (.newarray x, len)) (hr : mm_res o ini (.newarray x) len = some j) : W p l e R s m args below meth c H locs cells slots Q (F0 m pc ls (st.map (mm_cv (mm_ad base ro)))) := by
  obtain ⟨hb1, rfl⟩ := mm_c1 (show cond (Nat.beq len 2) (some (Instr.newarray x)) none = some j from hr)
  obtain rfl := Nat.eq_of_beq_eq_true hb1
  have hr1 := hroom.1
  have hr2 := hroom.2
  have hc1 := hp.2.2.1
  have hs1 := hp.2.2.2.1
  replace hj : mm_nat x L st w = some (P, L', st', w') := hj
  unfold mm_nat at hj
  split at hj
  · obtain ⟨n, t, rfl, he⟩ := mm_na_inv (kd := 0) hj
    cases he
    simp only [List.length_append, List.length_cons, List.length_nil] at hr1
    rw [mm_sl_app] at hr2
    refine va_newa (atype := .int) C.1 C.2.1 (C.has (n := 55) (x := .arrayClass .int) (by decide +kernel) rfl) (ty := .int) rfl C.2.2.2.2.2.2.2.1 hp.1.1 mm_all_D hp.2.1 (fun z hz => mm_Pt.ge hp hz) (N' := n.toNatClampNeg) (a0 := (n.toNatClampNeg, .inl (fun _ => 0))) (fun cA => rfl) hP.1 rfl (by have := hP.2; show n.toNatClampNeg * 4 ≤ _; omega) (by omega) (by omega) hd (fun z cA H1 hK1 hP1 hD1 hS1 => ?_)
    obtain rfl := mm_same_c (k := 0) hK1 rfl
    refine mm_newarr (kd := 0) hp hl (by decide) kk ?_ hP1 hD1 hS1
    rw [mm_cell0 (by rw [mm_nth_end])]
    simp only [mm_uc_self, mm_nth_end]
  · obtain ⟨n, t, rfl, he⟩ := mm_na_inv (kd := 2) hj
    cases he
    simp only [List.length_append, List.length_cons, List.length_nil] at hr1
    rw [mm_sl_app] at hr2
    refine va_newa (atype := .long) C.1 C.2.1 (C.has (n := 122) (x := .arrayClass .long) (by decide +kernel) rfl) (ty := .long) rfl C.2.2.2.2.2.2.2.1 hp.1.1 mm_all_D hp.2.1 (fun z hz => mm_Pt.ge hp hz) (N' := n.toNatClampNeg) (a0 := (n.toNatClampNeg, .inr (.inl (fun _ => 0)))) (fun cA => rfl) hP.1 rfl (by have := hP.2; show n.toNatClampNeg * 8 ≤ _; omega) (by omega) (by omega) hd (fun z cA H1 hK1 hP1 hD1 hS1 => ?_)
    obtain rfl := mm_same_c (k := 2) hK1 rfl
    refine mm_newarr (kd := 2) hp hl (by decide) kk ?_ hP1 hD1 hS1
    rw [mm_cell2 (by rw [mm_nth_end])]
    simp only [mm_uc_self, mm_nth_end]
  · cases hj
theorem mm_k_anewarray {x : Nat} (C : mm_Cx p R s m args meth c o ini cc nL D cT base ro) (hl : mm_LH (mm_ad base ro) ls nL L) (hp : mm_Pt D cT base ro s w0 H locs cells slots w) (hroom : w'.1.length ≤ w0.1.length + R.cells ∧ mm_sl w'.1 ≤ mm_sl w0.1 + R.slots) (hj : mm_seq j L st w = some (P, L', st', w')) (hP : P) (kk : mm_KK p l e R s m args below meth c Q nL D cT base ro w0 (pc + len) L' st' w') (hd : decode cc pc = .ok (.anewarray x, len)) (hr : mm_res o ini (.anewarray x) len = some j) : W p l e R s m args below meth c H locs cells slots Q (F0 m pc ls (st.map (mm_cv (mm_ad base ro)))) := by
  obtain ⟨hb1, hr⟩ := mm_c2' (show cond (Nat.beq len 3) ((mm_look mm_claL o x).bind fun q => cond (Nat.beq q 8) (some (Instr.anewarray q)) none) none = some j from hr)
  obtain rfl := Nat.eq_of_beq_eq_true hb1
  obtain ⟨q, hz, hr⟩ := Option.bind_eq_some_iff.mp hr
  obtain ⟨hb3, rfl⟩ := mm_c1 hr
  obtain rfl := Nat.eq_of_beq_eq_true hb3
  obtain ⟨n, hn⟩ := mm_look_in hz
  obtain ⟨g1, g2, g3, g4⟩ := mm_cla_ok _ hn
  have hr1 := hroom.1
  have hr2 := hroom.2
  have hc1 := hp.2.2.1
  have hs1 := hp.2.2.2.1
  obtain ⟨n, t, rfl, he⟩ := mm_na_inv (kd := 3) hj
  cases he
  simp only [List.length_append, List.length_cons, List.length_nil] at hr1
  rw [mm_sl_app] at hr2
  refine va_newq C.1 C.2.1 C.2.2.2.1 (C.has g2 rfl) C.2.2.2.2.2.2.2.2.2.1 C.2.2.2.2.2.2.2.1 hp.1.1 mm_all_D hp.2.1 (fun z hz => mm_Pt.ge hp hz) hP.1 rfl (by have := hP.2; omega) (by omega) (by omega) hd (fun z cA H1 hK1 hP1 hD1 hS1 => ?_)
  obtain rfl := mm_same_c (k := 3) hK1 rfl
  refine mm_newarr (kd := 3) hp hl (by decide) kk ?_ hP1 hD1 hS1
  rw [mm_cell3 (by rw [mm_nth_end])]
  simp only [mm_uc_self, mm_nth_end]
  rfl
theorem mm_cat_sum (ad : Nat → Nat) : ∀ st : List Value, ((st.map (mm_cv ad)).map fun v => v.category).sum = mm_cat st
  | [] => rfl
  | v :: t => by
    rw [List.map_cons, List.map_cons, List.sum_cons, mm_cat_sum ad t, mm_cv_cat]
    rfl
theorem mm_call_in {k y n : Nat} {x : Nat} (h : mm_look mm_calL o x = some (k, y, n)) : ∃ i : Nat, lw_tbl[i]? = some (mm_calC o x k y) ∧ y < mm_meL.length ∧ mm_calD k y n = true := by
  obtain ⟨i, hi⟩ := mm_look_in h
  exact ⟨i, mm_cal_ok _ hi, mm_cal_ok2 _ hi⟩
theorem mm_k_objInit {x y n : Nat} (C : mm_Cx p R s m args meth c o ini cc nL D cT base ro) (hl : mm_LH (mm_ad base ro) ls nL L) (hp : mm_Pt D cT base ro s w0 H locs cells slots w) (hroom : w'.1.length ≤ w0.1.length + R.cells ∧ mm_sl w'.1 ≤ mm_sl w0.1 + R.slots) (hj : mm_seq j L st w = some (P, L', st', w')) (hP : P) (kk : mm_KK p l e R s m args below meth c Q nL D cT base ro w0 (pc + len) L' st' w') (hd : decode cc pc = .ok (.invokespecial x, len)) (hb1 : Nat.beq len 3 = true) (hz : mm_look mm_calL o x = some (4, y, n)) (he : .monitorenter = j) : W p l e R s m args below meth c H locs cells slots Q (F0 m pc ls (st.map (mm_cv (mm_ad base ro)))) := by
  obtain rfl := Nat.eq_of_beq_eq_true hb1
  subst he
  obtain ⟨i, hi, -⟩ := mm_call_in hz
  replace hj : mm_oi L st w = some (P, L', st', w') := hj
  unfold mm_oi at hj
  split at hj
  · rename_i k t
    obtain ⟨hb2, he⟩ := mm_cond_inv hj
    have h8 : mm_cat t ≤ 8 := Nat.le_of_ble_eq_true hb2
    cases he
    refine W.objInit C.1 C.2.1 C.2.2.2.1 (C.has hi rfl) (C.has (n := 38) (x := .instanceMethod Lib.objectInit) (by decide +kernel) rfl) (C.has (n := 39) (x := .code Lib.objectInit ⟨#[0xb1]⟩ 1 none) (by decide +kernel) rfl) rfl (hl.1.trans C.2.2.1.symm) rfl hd C.2.2.2.2.2.2.2.2.2.2.1 ?_ (kk _ _ _ _ _ hl hp)
    rw [mm_cat_sum]
    have := C.2.2.2.2.2.2.2.2.2.2.2
    show 2 * 0 + _ + 12 ≤ _
    omega
  · cases hj
theorem mm_k_math0 {x y n : Nat} (C : mm_Cx p R s m args meth c o ini cc nL D cT base ro) (hl : mm_LH (mm_ad base ro) ls nL L) (hp : mm_Pt D cT base ro s w0 H locs cells slots w) (hroom : w'.1.length ≤ w0.1.length + R.cells ∧ mm_sl w'.1 ≤ mm_sl w0.1 + R.slots) (hj : mm_seq j L st w = some (P, L', st', w')) (hP : P) (kk : mm_KK p l e R s m args below meth c Q nL D cT base ro w0 (pc + len) L' st' w') (hd : decode cc pc = .ok (.invokestatic x, len)) (hb1 : Nat.beq len 3 = true) (hz : mm_look mm_calL o x = some (6, y, n)) (he : .ldc 0 = j) : W p l e R s m args below meth c H locs cells slots Q (F0 m pc ls (st.map (mm_cv (mm_ad base ro)))) := by
  obtain rfl := Nat.eq_of_beq_eq_true hb1
  subst he
  obtain ⟨i, hi, -⟩ := mm_call_in hz
  replace hj : mm_ma 0 L st w = some (P, L', st', w') := hj
  have hro := C.2.2.2.2.2.2.2.2.2.2.2
  have hr1 := hroom.1
  have hr2 := hroom.2
  have hc1 := hp.2.2.1
  have hs1 := hp.2.2.2.1
  unfold mm_ma at hj
  split at hj
  · rename_i t _
    obtain ⟨hb2, he⟩ := mm_cond_inv hj
    have h8 : mm_cat t ≤ 8 := Nat.le_of_ble_eq_true hb2
    cases he
    exact va_mmax C.1 C.2.1 (C.2.2.1.trans hl.1.symm) C.2.2.2.1 (C.has hi rfl) (C.has (n := 368) (x := .static Lib.Math.max.name) (by decide +kernel) rfl) (C.has (n := 30) (x := .initialized "java/lang/Math") (by decide +kernel) rfl) (C.has (n := 369) (x := .code Lib.Math.max.name Lib.Math.max.code 2 (some .int)) (by decide +kernel) rfl) C.2.2.2.2.2.2.2.2.2.2.1 (by rw [mm_cat_sum]; omega) (by omega) (by omega) hd (kk _ _ _ _ _ hl hp)
  · first | cases hj | contradiction
  · first | cases hj | contradiction
  · first | cases hj | contradiction
  · first | cases hj | contradiction
theorem mm_k_math1 {x y n : Nat} (C : mm_Cx p R s m args meth c o ini cc nL D cT base ro) (hl : mm_LH (mm_ad base ro) ls nL L) (hp : mm_Pt D cT base ro s w0 H locs cells slots w) (hroom : w'.1.length ≤ w0.1.length + R.cells ∧ mm_sl w'.1 ≤ mm_sl w0.1 + R.slots) (hj : mm_seq j L st w = some (P, L', st', w')) (hP : P) (kk : mm_KK p l e R s m args below meth c Q nL D cT base ro w0 (pc + len) L' st' w') (hd : decode cc pc = .ok (.invokestatic x, len)) (hb1 : Nat.beq len 3 = true) (hz : mm_look mm_calL o x = some (7, y, n)) (he : .ldc 1 = j) : W p l e R s m args below meth c H locs cells slots Q (F0 m pc ls (st.map (mm_cv (mm_ad base ro)))) := by
  obtain rfl := Nat.eq_of_beq_eq_true hb1
  subst he
  obtain ⟨i, hi, -⟩ := mm_call_in hz
  replace hj : mm_ma 1 L st w = some (P, L', st', w') := hj
  have hro := C.2.2.2.2.2.2.2.2.2.2.2
  have hr1 := hroom.1
  have hr2 := hroom.2
  have hc1 := hp.2.2.1
  have hs1 := hp.2.2.2.1
  unfold mm_ma at hj
  split at hj
  · first | cases hj | contradiction
  · rename_i t _
    obtain ⟨hb2, he⟩ := mm_cond_inv hj
    have h8 : mm_cat t ≤ 8 := Nat.le_of_ble_eq_true hb2
    cases he
    exact va_mabs C.1 C.2.1 (C.2.2.1.trans hl.1.symm) C.2.2.2.1 (C.has hi rfl) (C.has (n := 378) (x := .static Lib.Math.abs.name) (by decide +kernel) rfl) (C.has (n := 30) (x := .initialized "java/lang/Math") (by decide +kernel) rfl) (C.has (n := 379) (x := .code Lib.Math.abs.name Lib.Math.abs.code 1 (some .int)) (by decide +kernel) rfl) C.2.2.2.2.2.2.2.2.2.2.1 (by rw [mm_cat_sum]; omega) (by omega) (by omega) hd (kk _ _ _ _ _ hl hp)
  · first | cases hj | contradiction
  · first | cases hj | contradiction
  · first | cases hj | contradiction
theorem mm_k_math2 {x y n : Nat} (C : mm_Cx p R s m args meth c o ini cc nL D cT base ro) (hl : mm_LH (mm_ad base ro) ls nL L) (hp : mm_Pt D cT base ro s w0 H locs cells slots w) (hroom : w'.1.length ≤ w0.1.length + R.cells ∧ mm_sl w'.1 ≤ mm_sl w0.1 + R.slots) (hj : mm_seq j L st w = some (P, L', st', w')) (hP : P) (kk : mm_KK p l e R s m args below meth c Q nL D cT base ro w0 (pc + len) L' st' w') (hd : decode cc pc = .ok (.invokestatic x, len)) (hb1 : Nat.beq len 3 = true) (hz : mm_look mm_calL o x = some (8, y, n)) (he : .ldc 2 = j) : W p l e R s m args below meth c H locs cells slots Q (F0 m pc ls (st.map (mm_cv (mm_ad base ro)))) := by
  obtain rfl := Nat.eq_of_beq_eq_true hb1
  subst he
  obtain ⟨i, hi, -⟩ := mm_call_in hz
  replace hj : mm_ma 2 L st w = some (P, L', st', w') := hj
  have hro := C.2.2.2.2.2.2.2.2.2.2.2
  have hr1 := hroom.1
  have hr2 := hroom.2
  have hc1 := hp.2.2.1
  have hs1 := hp.2.2.2.1
  unfold mm_ma at hj
  split at hj
  · first | cases hj | contradiction
  · first | cases hj | contradiction
  · rename_i t _
    obtain ⟨hb2, he⟩ := mm_cond_inv hj
    have h8 : mm_cat t ≤ 8 := Nat.le_of_ble_eq_true hb2
    cases he
    exact va_mmin C.1 C.2.1 (C.2.2.1.trans hl.1.symm) C.2.2.2.1 (C.has hi rfl) (C.has (n := 381) (x := .static Lib.Math.min.name) (by decide +kernel) rfl) (C.has (n := 30) (x := .initialized "java/lang/Math") (by decide +kernel) rfl) (C.has (n := 382) (x := .code Lib.Math.min.name Lib.Math.min.code 2 (some .int)) (by decide +kernel) rfl) C.2.2.2.2.2.2.2.2.2.2.1 (by rw [mm_cat_sum]; omega) (by omega) (by omega) hd (kk _ _ _ _ _ hl hp)
  · first | cases hj | contradiction
  · first | cases hj | contradiction
theorem mm_k_math3 {x y n : Nat} (C : mm_Cx p R s m args meth c o ini cc nL D cT base ro) (hl : mm_LH (mm_ad base ro) ls nL L) (hp : mm_Pt D cT base ro s w0 H locs cells slots w) (hroom : w'.1.length ≤ w0.1.length + R.cells ∧ mm_sl w'.1 ≤ mm_sl w0.1 + R.slots) (hj : mm_seq j L st w = some (P, L', st', w')) (hP : P) (kk : mm_KK p l e R s m args below meth c Q nL D cT base ro w0 (pc + len) L' st' w') (hd : decode cc pc = .ok (.invokestatic x, len)) (hb1 : Nat.beq len 3 = true) (hz : mm_look mm_calL o x = some (9, y, n)) (he : .ldc 3 = j) : W p l e R s m args below meth c H locs cells slots Q (F0 m pc ls (st.map (mm_cv (mm_ad base ro)))) := by
  obtain rfl := Nat.eq_of_beq_eq_true hb1
  subst he
  obtain ⟨i, hi, -⟩ := mm_call_in hz
  replace hj : mm_ma 3 L st w = some (P, L', st', w') := hj
  have hro := C.2.2.2.2.2.2.2.2.2.2.2
  have hr1 := hroom.1
  have hr2 := hroom.2
  have hc1 := hp.2.2.1
  have hs1 := hp.2.2.2.1
  unfold mm_ma at hj
  split at hj
  · first | cases hj | contradiction
  · first | cases hj | contradiction
  · first | cases hj | contradiction
  · rename_i t _
    obtain ⟨hb2, he⟩ := mm_cond_inv hj
    have h8 : mm_cat t ≤ 8 := Nat.le_of_ble_eq_true hb2
    cases he
    exact va_mmin_long C.1 C.2.1 (C.2.2.1.trans hl.1.symm) C.2.2.2.1 (C.has hi rfl) (C.has (n := 503) (x := .static Lib.MathLoose.min_long.x) (by decide +kernel) rfl) (C.has (n := 30) (x := .initialized "java/lang/Math") (by decide +kernel) rfl) (C.has (n := 504) (x := .code Lib.MathLoose.min_long.x Lib.MathLoose.min_long.code 4 (some .long)) (by decide +kernel) rfl) C.2.2.2.2.2.2.2.2.2.2.1 (by rw [mm_cat_sum]; omega) (by omega) (by omega) hd (kk _ _ _ _ _ hl hp)
  · first | cases hj | contradiction
theorem mm_k_copy {x y n : Nat} (C : mm_Cx p R s m args meth c o ini cc nL D cT base ro) (hl : mm_LH (mm_ad base ro) ls nL L) (hp : mm_Pt D cT base ro s w0 H locs cells slots w) (hroom : w'.1.length ≤ w0.1.length + R.cells ∧ mm_sl w'.1 ≤ mm_sl w0.1 + R.slots) (hj : mm_seq j L st w = some (P, L', st', w')) (hP : P) (kk : mm_KK p l e R s m args below meth c Q nL D cT base ro w0 (pc + len) L' st' w') (hd : decode cc pc = .ok (.invokestatic x, len)) (hb1 : Nat.beq len 3 = true) (hz : mm_look mm_calL o x = some (5, y, n)) (he : .monitorexit = j) : W p l e R s m args below meth c H locs cells slots Q (F0 m pc ls (st.map (mm_cv (mm_ad base ro)))) := by
  obtain rfl := Nat.eq_of_beq_eq_true hb1
  subst he
  obtain ⟨i, hi, -⟩ := mm_call_in hz
  replace hj : mm_ac L st w = some (P, L', st', w') := hj
  have hro := C.2.2.2.2.2.2.2.2.2.2.2
  unfold mm_ac at hj
  split at hj
  · rename_i n dp b sp a t
    obtain ⟨hb2, he⟩ := mm_cond_inv hj
    have h8 : mm_cat t ≤ 8 := Nat.le_of_ble_eq_true hb2
    have hro2 : ((t.map (mm_cv (mm_ad base ro))).map fun v => v.category).sum + (nativeFrameWords "java/lang/System" "arraycopy" 5 + 11) ≤ R.locals := by
      rw [mm_cat_sum]
      have : nativeFrameWords "java/lang/System" "arraycopy" 5 + 11 ≤ 90 := by decide +kernel
      omega
    cases hq : (Nat.beq (mm_nth w.1 a).1 0 && Nat.beq (mm_nth w.1 b).1 0) with
    | true =>
      rw [hq] at he
      simp only [Bool.and_eq_true] at hq
      have hka : (mm_nth w.1 a).1 = 0 := Nat.eq_of_beq_eq_true hq.1
      have hkb : (mm_nth w.1 b).1 = 0 := Nat.eq_of_beq_eq_true hq.2
      cases he
      have h1 := hp.at (by rw [hka]; decide) (by rw [hka]; decide) (by rw [hka]; decide)
      have h2 := hp.at (by rw [hkb]; decide) (by rw [hkb]; decide) (by rw [hkb]; decide)
      rw [mm_cell0 hka] at h1
      rw [mm_cell0 hkb] at h2
      refine va_copyi C.1 C.2.1 (C.2.2.1.trans hl.1.symm) C.2.2.2.1 (C.has hi rfl) (C.has (n := 595) (x := .native arraycopyName) (by decide +kernel) rfl) (C.has (n := 594) (x := .static arraycopyName) (by decide +kernel) rfl) (C.has (n := 29) (x := .initialized "java/lang/System") (by decide +kernel) rfl) C.2.2.2.2.2.2.2.1 hp.1.1 mm_all_D hp.2.1 (a - 7) (b - 7) 0 0 h1 h2 rfl rfl rfl hP.1.1 hP.1.2.1 hP.1.2.2 hP.2.1 hP.2.2 (fun i _ => rfl) C.2.2.2.2.2.2.2.2.2.2.1 hro2 hd (fun H1 locs1 hP1 _ hS1 => kk _ _ _ _ _ hl (hp.sets (mm_off_I _) (by rw [hkb]; decide) (by rw [hkb]; decide) (by rw [hkb]; decide) hP1 ?_ hS1))
      rw [mm_cell0 (w := (w.1, mm_uc w.2.1 b _, w.2.2)) hkb]
      simp only [mm_uc_self]
    | false =>
      rw [hq] at he
      obtain ⟨hb3, he⟩ := mm_cond_inv he
      simp only [Bool.and_eq_true] at hb3
      have hka : (mm_nth w.1 a).1 = 2 := Nat.eq_of_beq_eq_true hb3.1
      have hkb : (mm_nth w.1 b).1 = 2 := Nat.eq_of_beq_eq_true hb3.2
      cases he
      have h1 := hp.at (by rw [hka]; decide) (by rw [hka]; decide) (by rw [hka]; decide)
      have h2 := hp.at (by rw [hkb]; decide) (by rw [hkb]; decide) (by rw [hkb]; decide)
      rw [mm_cell2 hka] at h1
      rw [mm_cell2 hkb] at h2
      refine va_copyl C.1 C.2.1 (C.2.2.1.trans hl.1.symm) C.2.2.2.1 (C.has hi rfl) (C.has (n := 595) (x := .native arraycopyName) (by decide +kernel) rfl) (C.has (n := 594) (x := .static arraycopyName) (by decide +kernel) rfl) (C.has (n := 29) (x := .initialized "java/lang/System") (by decide +kernel) rfl) C.2.2.2.2.2.2.2.1 hp.1.1 mm_all_D hp.2.1 (a - 7) (b - 7) 2 2 h1 h2 rfl rfl rfl hP.1.1 hP.1.2.1 hP.1.2.2 hP.2.1 hP.2.2 (fun i _ => rfl) C.2.2.2.2.2.2.2.2.2.2.1 hro2 hd (fun H1 locs1 hP1 _ hS1 => kk _ _ _ _ _ hl (hp.sets (mm_off_J _) (by rw [hkb]; decide) (by rw [hkb]; decide) (by rw [hkb]; decide) hP1 ?_ hS1))
      rw [mm_cell2 (w := (w.1, w.2.1, mm_uc w.2.2.1 b _, w.2.2.2)) hkb]
      simp only [mm_uc_self]
  · cases hj
end MMC
