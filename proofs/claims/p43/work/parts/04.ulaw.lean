/-! the rows of the law's own methods -/
theorem mm_Lr_90 : mm_meC (11, yX11_greatestDivisor, cX11_greatestDivisor, 11, (some .long), 1, 491, 490, 0, 17) := by unfold mm_meC; decide +kernel
theorem mm_Lr_91 : mm_meC (12, yJ6_bitCount_0f7a4, cJ6_bitCount_0f7a4, 1, (some .int), 1, 428, 427, 0, 31) := by unfold mm_meC; decide +kernel
set_option maxRecDepth 100000 in
theorem mm_Lc_92 : lw_tbl[569]? = some (Jvm.Cond.code yL_cell cL_cell 2 (some .int)) := rfl
theorem mm_Lr_92 : mm_meC (14, yL_cell, cL_cell, 2, (some .int), 1, 569, 568, 0, 16) := ⟨by decide +kernel, by decide, by decide, mm_Lc_92, by decide +kernel, Or.inl rfl, by decide +kernel, by decide +kernel, by decide +kernel, by decide +kernel⟩
set_option maxRecDepth 100000 in
theorem mm_Lc_93 : lw_tbl[615]? = some (Jvm.Cond.code yL_three cL_three 4 (some .boolean)) := rfl
theorem mm_Lr_93 : mm_meC (14, yL_three, cL_three, 4, (some .boolean), 1, 615, 614, 0, 16) := ⟨by decide +kernel, by decide, by decide, mm_Lc_93, by decide +kernel, Or.inl rfl, by decide +kernel, by decide +kernel, by decide +kernel, by decide +kernel⟩
set_option maxRecDepth 100000 in
theorem mm_Lc_94 : lw_tbl[573]? = some (Jvm.Cond.code yL_lane cL_lane 11 (some .boolean)) := rfl
theorem mm_Lr_94 : mm_meC (14, yL_lane, cL_lane, 11, (some .boolean), 1, 573, 572, 0, 16) := ⟨by decide +kernel, by decide, by decide, mm_Lc_94, by decide +kernel, Or.inl rfl, by decide +kernel, by decide +kernel, by decide +kernel, by decide +kernel⟩
set_option maxRecDepth 100000 in
theorem mm_Lc_95 : lw_tbl[696]? = some (Jvm.Cond.code yL_lands cL_lands 15 (some .int)) := rfl
theorem mm_Lr_95 : mm_meC (14, yL_lands, cL_lands, 15, (some .int), 1, 696, 695, 0, 16) := ⟨by decide +kernel, by decide, by decide, mm_Lc_95, by decide +kernel, Or.inl rfl, by decide +kernel, by decide +kernel, by decide +kernel, by decide +kernel⟩
set_option maxRecDepth 100000 in
theorem mm_Lc_96 : lw_tbl[702]? = some (Jvm.Cond.code yL_barrel cL_barrel 2 (some .boolean)) := rfl
theorem mm_Lr_96 : mm_meC (14, yL_barrel, cL_barrel, 2, (some .boolean), 1, 702, 701, 0, 16) := ⟨by decide +kernel, by decide, by decide, mm_Lc_96, by decide +kernel, Or.inl rfl, by decide +kernel, by decide +kernel, by decide +kernel, by decide +kernel⟩
set_option maxRecDepth 100000 in
theorem mm_Lc_97 : lw_tbl[699]? = some (Jvm.Cond.code yL_stops cL_stops 2 (some .int)) := rfl
theorem mm_Lr_97 : mm_meC (14, yL_stops, cL_stops, 2, (some .int), 1, 699, 698, 0, 16) := ⟨by decide +kernel, by decide, by decide, mm_Lc_97, by decide +kernel, Or.inl rfl, by decide +kernel, by decide +kernel, by decide +kernel, by decide +kernel⟩
set_option maxRecDepth 100000 in
theorem mm_Lc_98 : lw_tbl[705]? = some (Jvm.Cond.code yL_points cL_points 2 (some .int)) := rfl
theorem mm_Lr_98 : mm_meC (14, yL_points, cL_points, 2, (some .int), 1, 705, 704, 0, 16) := ⟨by decide +kernel, by decide, by decide, mm_Lc_98, by decide +kernel, Or.inl rfl, by decide +kernel, by decide +kernel, by decide +kernel, by decide +kernel⟩
set_option maxRecDepth 100000 in
theorem mm_Lc_99 : lw_tbl[708]? = some (Jvm.Cond.code yL_best cL_best 11 (some .int)) := rfl
theorem mm_Lr_99 : mm_meC (14, yL_best, cL_best, 11, (some .int), 1, 708, 707, 0, 16) := ⟨by decide +kernel, by decide, by decide, mm_Lc_99, by decide +kernel, Or.inl rfl, by decide +kernel, by decide +kernel, by decide +kernel, by decide +kernel⟩
set_option maxRecDepth 100000 in
theorem mm_Lc_100 : lw_tbl[711]? = some (Jvm.Cond.code yL_is cL_is 14 (some .boolean)) := rfl
theorem mm_Lr_100 : mm_meC (14, yL_is, cL_is, 14, (some .boolean), 1, 711, 710, 0, 16) := ⟨by decide +kernel, by decide, by decide, mm_Lc_100, by decide +kernel, Or.inl rfl, by decide +kernel, by decide +kernel, by decide +kernel, by decide +kernel⟩
theorem mm_me_ok6 : ∀ q ∈ mm_meL6, mm_meC q := List.forall_mem_cons.mpr ⟨mm_Lr_90, List.forall_mem_cons.mpr ⟨mm_Lr_91, List.forall_mem_cons.mpr ⟨mm_Lr_92, List.forall_mem_cons.mpr ⟨mm_Lr_93, List.forall_mem_cons.mpr ⟨mm_Lr_94, List.forall_mem_cons.mpr ⟨mm_Lr_95, List.forall_mem_cons.mpr ⟨mm_Lr_96, List.forall_mem_cons.mpr ⟨mm_Lr_97, List.forall_mem_cons.mpr ⟨mm_Lr_98, List.forall_mem_cons.mpr ⟨mm_Lr_99, List.forall_mem_cons.mpr ⟨mm_Lr_100, fun _ h => absurd h (List.not_mem_nil)⟩⟩⟩⟩⟩⟩⟩⟩⟩⟩⟩
theorem mm_me_all : ∀ q ∈ mm_meL, mm_meC q := by
  unfold mm_meL
  intro q h
  simp only [List.mem_append] at h
  rcases h with ((((((h | h) | h) | h) | h) | h) | h)
  · exact mm_me_ok0 q h
  · exact mm_me_ok1 q h
  · exact mm_me_ok2 q h
  · exact mm_me_ok3 q h
  · exact mm_me_ok4 q h
  · exact mm_me_ok5 q h
  · exact mm_me_ok6 q h
def mm_nest : Jvm.Cond → Bool
  | .methodLinkNest .. => true
  | _ => false
def mm_wds : List Jvm.Cond := lw_tbl.filter goodWord
theorem mm_wds_in {w : Jvm.Cond} {n : Nat} (h : lw_tbl[n]? = some w) (hg : goodWord w = true) : w ∈ mm_wds := List.mem_filter.mpr ⟨List.mem_of_getElem? h, hg⟩
theorem mm_wds_all : ∀ w ∈ mm_wds, (w.onTables && w.keeps) = true ∨ ∃ ty, w = .arrayClass ty := fun w h => good_of_word (List.mem_filter.mp h).2
