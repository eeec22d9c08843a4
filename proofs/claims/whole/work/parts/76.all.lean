/-! the whole law -/
theorem mm_law_all (L : Nat) (xs : Nat → Int32) (hL : L ≤ 3072) : mm_Law L xs := by
  have z61 : ∀ s, f0_c 61 s = 0 := fun s => rfl
  have hLR : mm_LX (f0_c 11) (f0_c 10 3) (f0_c 58) (f0_r 10) (f0_c 60) (f0_c 61) := ⟨mm_F0, Or.inl ⟨by decide +kernel, rfl⟩, Or.inl ⟨by decide +kernel, rfl⟩, fun s _ => Or.inl (z61 s)⟩
  exact mm_law_all_of hL (I := mm_Iv mm_LX) (mm_Iv0 xs hLR) pr_spitter pr_spitters pr_mend pr_of pr_feed pr_law pr_tries pr_angle pr_order pr_risk pr_risks pr_practice pr_match pr_winner pr_last pr_place pr_handicap pr_steps pr_whose pr_judge pr_who pr_ahead pr_drawn pr_spit pr_rest pr_led pr_image pr_back pr_undo pr_redo pr_body pr_act pr_trace pr_keep pr_row pr_put pr_element pr_shift pr_taken pr_count
