/-! the pure machine is sound: what it says of a method is so of the machine -/
section MMX
variable {p : Program} {l : Launch} {e : Env} {R : Room} {s : State} {m : MethodId} {args : Array Value} {below : List Frame} {meth : Method} {c : Code} {H : Heap} {locs : List Loc} {cells slots : Nat} {Q : State → Prop}
variable {cc : ByteArray} {pc len nL o : Nat} {ini : Bool} {ls : Array Slot} {L L' : mm_L} {st st' : List Value} {w w' w0 : mm_W} {D : va_G} {cT : Nat → ClassId} {base : Nat} {ro : Nat → Nat} {P : Prop} {i j : Instr}
theorem mm_seq_ok (C : mm_Cx p R s m args meth c o ini cc nL D cT base ro) (hl : mm_LH (mm_ad base ro) ls nL L) (hp : mm_Pt D cT base ro s w0 H locs cells slots w) (hroom : w'.1.length ≤ w0.1.length + R.cells ∧ mm_sl w'.1 ≤ mm_sl w0.1 + R.slots) (hj : mm_seq j L st w = some (P, L', st', w')) (hP : P) (kk : mm_KK p l e R s m args below meth c Q nL D cT base ro w0 (pc + len) L' st' w') (hd : decode cc pc = .ok (i, len)) (hr : mm_res o ini i len = some j) : W p l e R s m args below meth c H locs cells slots Q (F0 m pc ls (st.map (mm_cv (mm_ad base ro)))) := by
  cases i with
  | iconst n => exact mm_k_iconst C hl hp hroom hj hP kk hd hr
  | bipush n => exact mm_k_bipush C hl hp hroom hj hP kk hd hr
  | sipush n => exact mm_k_sipush C hl hp hroom hj hP kk hd hr
  | ldc n => exact mm_k_ldc C hl hp hroom hj hP kk hd hr
  | ldc_w n => exact mm_k_ldc_w C hl hp hroom hj hP kk hd hr
  | iload_n n => exact mm_k_iload_n C hl hp hroom hj hP kk hd hr
  | iload n => exact mm_k_iload C hl hp hroom hj hP kk hd hr
  | lload_n n => exact mm_k_lload_n C hl hp hroom hj hP kk hd hr
  | lload n => exact mm_k_lload C hl hp hroom hj hP kk hd hr
  | aload_n n => exact mm_k_aload_n C hl hp hroom hj hP kk hd hr
  | aload n => exact mm_k_aload C hl hp hroom hj hP kk hd hr
  | istore_n n => exact mm_k_istore_n C hl hp hroom hj hP kk hd hr
  | istore n => exact mm_k_istore C hl hp hroom hj hP kk hd hr
  | lstore_n n => exact mm_k_lstore_n C hl hp hroom hj hP kk hd hr
  | lstore n => exact mm_k_lstore C hl hp hroom hj hP kk hd hr
  | astore_n n => exact mm_k_astore_n C hl hp hroom hj hP kk hd hr
  | astore n => exact mm_k_astore C hl hp hroom hj hP kk hd hr
  | getstatic n => exact mm_k_getstatic C hl hp hroom hj hP kk hd hr
  | getfield n => exact mm_k_getfield C hl hp hroom hj hP kk hd hr
  | putfield n => exact mm_k_putfield C hl hp hroom hj hP kk hd hr
  | new n => exact mm_k_new C hl hp hroom hj hP kk hd hr
  | newarray n => exact mm_k_newarray C hl hp hroom hj hP kk hd hr
  | anewarray n => exact mm_k_anewarray C hl hp hroom hj hP kk hd hr
  | lconst n => exact mm_k_lconst C hl hp hroom hj hP kk hd hr
  | ldc2_w n => exact mm_k_ldc2_w C hl hp hroom hj hP kk hd hr
  | iinc n d => exact mm_k_iinc C hl hp hroom hj hP kk hd hr
  | iadd => exact mm_k_iadd C hl hp hroom hj hP kk hd hr
  | isub => exact mm_k_isub C hl hp hroom hj hP kk hd hr
  | imul => exact mm_k_imul C hl hp hroom hj hP kk hd hr
  | idiv => exact mm_k_idiv C hl hp hroom hj hP kk hd hr
  | irem => exact mm_k_irem C hl hp hroom hj hP kk hd hr
  | ineg => exact mm_k_ineg C hl hp hroom hj hP kk hd hr
  | iand => exact mm_k_iand C hl hp hroom hj hP kk hd hr
  | ior => exact mm_k_ior C hl hp hroom hj hP kk hd hr
  | ixor => exact mm_k_ixor C hl hp hroom hj hP kk hd hr
  | ishl => exact mm_k_ishl C hl hp hroom hj hP kk hd hr
  | ishr => exact mm_k_ishr C hl hp hroom hj hP kk hd hr
  | iushr => exact mm_k_iushr C hl hp hroom hj hP kk hd hr
  | i2l => exact mm_k_i2l C hl hp hroom hj hP kk hd hr
  | l2i => exact mm_k_l2i C hl hp hroom hj hP kk hd hr
  | i2b => exact mm_k_i2b C hl hp hroom hj hP kk hd hr
  | i2s => exact mm_k_i2s C hl hp hroom hj hP kk hd hr
  | ladd => exact mm_k_ladd C hl hp hroom hj hP kk hd hr
  | lsub => exact mm_k_lsub C hl hp hroom hj hP kk hd hr
  | lmul => exact mm_k_lmul C hl hp hroom hj hP kk hd hr
  | ldiv => exact mm_k_ldiv C hl hp hroom hj hP kk hd hr
  | lrem => exact mm_k_lrem C hl hp hroom hj hP kk hd hr
  | land => exact mm_k_land C hl hp hroom hj hP kk hd hr
  | lor => exact mm_k_lor C hl hp hroom hj hP kk hd hr
  | lshl => exact mm_k_lshl C hl hp hroom hj hP kk hd hr
  | lcmp => exact mm_k_lcmp C hl hp hroom hj hP kk hd hr
  | dup => exact mm_k_dup C hl hp hroom hj hP kk hd hr
  | dup2 => exact mm_k_dup2 C hl hp hroom hj hP kk hd hr
  | pop => exact mm_k_pop C hl hp hroom hj hP kk hd hr
  | aconst_null => exact mm_k_aconst_null C hl hp hroom hj hP kk hd hr
  | arraylength => exact mm_k_arraylength C hl hp hroom hj hP kk hd hr
  | iaload => exact mm_k_iaload C hl hp hroom hj hP kk hd hr
  | iastore => exact mm_k_iastore C hl hp hroom hj hP kk hd hr
  | laload => exact mm_k_laload C hl hp hroom hj hP kk hd hr
  | lastore => exact mm_k_lastore C hl hp hroom hj hP kk hd hr
  | aaload => exact mm_k_aaload C hl hp hroom hj hP kk hd hr
  | aastore => exact mm_k_aastore C hl hp hroom hj hP kk hd hr
  | goto d => obtain ⟨-, rfl⟩ := mm_c1 hr; cases hj
  | ifCond k d => obtain ⟨-, rfl⟩ := mm_c1 hr; cases hj
  | if_icmp k d => obtain ⟨-, rfl⟩ := mm_c1 hr; cases hj
  | ifnull d => obtain ⟨-, rfl⟩ := mm_c1 hr; cases hj
  | ifnonnull d => obtain ⟨-, rfl⟩ := mm_c1 hr; cases hj
  | ireturn => obtain ⟨-, rfl⟩ := mm_c1 hr; cases hj
  | lreturn => obtain ⟨-, rfl⟩ := mm_c1 hr; cases hj
  | areturn => obtain ⟨-, rfl⟩ := mm_c1 hr; cases hj
  | return_ => obtain ⟨-, rfl⟩ := mm_c1 hr; cases hj
  | tableswitch a b c d => cases hr; cases hj
  | lookupswitch a b => cases hr; cases hj
  | invokevirtual x =>
    obtain ⟨-, hr⟩ := mm_c2' hr
    obtain ⟨q, hz, hr⟩ := Option.bind_eq_some_iff.mp hr
    split at hr
    · cases hr; cases hj
    · cases hr
  | invokestatic x =>
    obtain ⟨hb, hr⟩ := mm_c2' hr
    obtain ⟨⟨k, y, n⟩, hz, hr⟩ := Option.bind_eq_some_iff.mp hr
    dsimp only at hr
    split at hr
    · cases hr; cases hj
    · exact mm_k_copy C hl hp hroom hj hP kk hd hb hz (Option.some.inj hr)
    · exact mm_k_math0 C hl hp hroom hj hP kk hd hb hz (Option.some.inj hr)
    · exact mm_k_math1 C hl hp hroom hj hP kk hd hb hz (Option.some.inj hr)
    · exact mm_k_math2 C hl hp hroom hj hP kk hd hb hz (Option.some.inj hr)
    · exact mm_k_math3 C hl hp hroom hj hP kk hd hb hz (Option.some.inj hr)
    · cases hr
  | invokespecial x =>
    obtain ⟨hb, hr⟩ := mm_c2' hr
    obtain ⟨⟨k, y, n⟩, hz, hr⟩ := Option.bind_eq_some_iff.mp hr
    dsimp only at hr
    split at hr
    · cases hr; cases hj
    · cases hr; cases hj
    · exact mm_k_objInit C hl hp hroom hj hP kk hd hb hz (Option.some.inj hr)
    · cases hr
  | _ => cases hr
def mm_le (w w' : mm_W) : Prop := w.1.length ≤ w'.1.length ∧ mm_sl w.1 ≤ mm_sl w'.1
theorem mm_le.rf : mm_le w w := ⟨Nat.le_refl _, Nat.le_refl _⟩
theorem mm_le.tr {a b d : mm_W} (h : mm_le a b) (h2 : mm_le b d) : mm_le a d := ⟨Nat.le_trans h.1 h2.1, Nat.le_trans h.2 h2.2⟩
theorem mm_le.of (h : w'.1 = w.1) : mm_le w w' := by unfold mm_le; rw [h]; exact ⟨Nat.le_refl _, Nat.le_refl _⟩
theorem mm_le.push {x : Nat × Nat} (h : w'.1 = w.1 ++ [x]) : mm_le w w' := by
  unfold mm_le
  rw [h, mm_sl_app]
  simp
theorem mm_seq_le (hj : mm_seq j L st w = some (P, L', st', w')) : mm_le w w' := by
  cases j with
  | iadd => obtain ⟨y, x, t, rfl, he⟩ := mm_ii_inv hj; cases he; exact mm_le.rf
  | isub => obtain ⟨y, x, t, rfl, he⟩ := mm_ii_inv hj; cases he; exact mm_le.rf
  | imul => obtain ⟨y, x, t, rfl, he⟩ := mm_ii_inv hj; cases he; exact mm_le.rf
  | iand => obtain ⟨y, x, t, rfl, he⟩ := mm_ii_inv hj; cases he; exact mm_le.rf
  | ior => obtain ⟨y, x, t, rfl, he⟩ := mm_ii_inv hj; cases he; exact mm_le.rf
  | ixor => obtain ⟨y, x, t, rfl, he⟩ := mm_ii_inv hj; cases he; exact mm_le.rf
  | ishl => obtain ⟨y, x, t, rfl, he⟩ := mm_ii_inv hj; cases he; exact mm_le.rf
  | ishr => obtain ⟨y, x, t, rfl, he⟩ := mm_ii_inv hj; cases he; exact mm_le.rf
  | iushr => obtain ⟨y, x, t, rfl, he⟩ := mm_ii_inv hj; cases he; exact mm_le.rf
  | idiv => obtain ⟨y, x, t, rfl, he⟩ := mm_in_inv hj; cases he; exact mm_le.rf
  | irem => obtain ⟨y, x, t, rfl, he⟩ := mm_in_inv hj; cases he; exact mm_le.rf
  | ladd => obtain ⟨y, x, t, rfl, he⟩ := mm_jj_inv hj; cases he; exact mm_le.rf
  | lsub => obtain ⟨y, x, t, rfl, he⟩ := mm_jj_inv hj; cases he; exact mm_le.rf
  | lmul => obtain ⟨y, x, t, rfl, he⟩ := mm_jj_inv hj; cases he; exact mm_le.rf
  | land => obtain ⟨y, x, t, rfl, he⟩ := mm_jj_inv hj; cases he; exact mm_le.rf
  | lor => obtain ⟨y, x, t, rfl, he⟩ := mm_jj_inv hj; cases he; exact mm_le.rf
  | ldiv => obtain ⟨y, x, t, rfl, he⟩ := mm_jn_inv hj; cases he; exact mm_le.rf
  | lrem => obtain ⟨y, x, t, rfl, he⟩ := mm_jn_inv hj; cases he; exact mm_le.rf
  | lshl => obtain ⟨y, x, t, rfl, he⟩ := mm_ij_inv hj; cases he; exact mm_le.rf
  | lcmp => obtain ⟨y, x, t, rfl, he⟩ := mm_ji_inv hj; cases he; exact mm_le.rf
  | ineg => obtain ⟨x, t, rfl, he⟩ := mm_i1_inv hj; cases he; exact mm_le.rf
  | i2l => obtain ⟨x, t, rfl, he⟩ := mm_i1_inv hj; cases he; exact mm_le.rf
  | i2b => obtain ⟨x, t, rfl, he⟩ := mm_i1_inv hj; cases he; exact mm_le.rf
  | i2s => obtain ⟨x, t, rfl, he⟩ := mm_i1_inv hj; cases he; exact mm_le.rf
  | l2i => obtain ⟨x, t, rfl, he⟩ := mm_j1_inv hj; cases he; exact mm_le.rf
  | iconst n => cases hj; exact mm_le.rf
  | goto_w n => cases hj; exact mm_le.rf
  | aconst_null => cases hj; exact mm_le.rf
  | iload n => obtain ⟨x, hx, he⟩ := mm_ldi_inv hj; cases he; exact mm_le.rf
  | lload n => obtain ⟨x, hx, he⟩ := mm_ldl_inv hj; cases he; exact mm_le.rf
  | aload n => rcases mm_lda_inv hj with ⟨x, hx, he⟩ | ⟨hx, he⟩ <;> cases he <;> exact mm_le.rf
  | istore n => obtain ⟨x, t, L1, rfl, hs, he⟩ := mm_sti_inv hj; cases he; exact mm_le.rf
  | lstore n => obtain ⟨x, t, L1, rfl, hs, he⟩ := mm_stl_inv hj; cases he; exact mm_le.rf
  | astore n => rcases mm_sta_inv hj with ⟨x, t, L1, rfl, hs, he⟩ | ⟨t, L1, rfl, hs, he⟩ <;> cases he <;> exact mm_le.rf
  | iinc n d => obtain ⟨x, L1, hx, hs, he⟩ := mm_inc_inv hj; cases he; exact mm_le.rf
  | dup =>
    replace hj : mm_dup L st w = some (P, L', st', w') := hj
    unfold mm_dup at hj
    split at hj
    · obtain ⟨-, he⟩ := mm_cond_inv hj
      cases he
      exact mm_le.rf
    · cases hj
  | dup2 =>
    replace hj : mm_dup2 L st w = some (P, L', st', w') := hj
    unfold mm_dup2 at hj
    split at hj
    · obtain ⟨-, he⟩ := mm_cond_inv hj
      cases he
      exact mm_le.rf
    · cases hj
  | pop =>
    replace hj : mm_pop L st w = some (P, L', st', w') := hj
    unfold mm_pop at hj
    split at hj
    · obtain ⟨-, he⟩ := mm_cond_inv hj
      cases he
      exact mm_le.rf
    · cases hj
  | arraylength =>
    replace hj : mm_len L st w = some (P, L', st', w') := hj
    unfold mm_len at hj
    split at hj
    · obtain ⟨-, he⟩ := mm_cond_inv hj
      cases he
      exact mm_le.rf
    · cases hj
  | getstatic n => obtain ⟨-, he⟩ := mm_cond_inv hj; cases he; exact mm_le.rf
  | lastore =>
    replace hj : mm_jst L st w = some (P, L', st', w') := hj
    unfold mm_jst at hj
    split at hj
    · obtain ⟨-, he⟩ := mm_cond_inv hj
      cases he
      exact mm_le.of rfl
    · cases hj
  | aastore =>
    replace hj : mm_rst L st w = some (P, L', st', w') := hj
    unfold mm_rst at hj
    split at hj
    · obtain ⟨-, he⟩ := mm_cond_inv hj
      cases he
      exact mm_le.of rfl
    · cases hj
  | getfield n =>
    replace hj : mm_gf n L st w = some (P, L', st', w') := hj
    unfold mm_gf at hj
    split at hj
    · obtain ⟨-, he⟩ := mm_cond_inv hj
      cases he
      exact mm_le.rf
    · cases hj
  | monitorenter =>
    replace hj : mm_oi L st w = some (P, L', st', w') := hj
    unfold mm_oi at hj
    split at hj
    · obtain ⟨-, he⟩ := mm_cond_inv hj
      cases he
      exact mm_le.rf
    · cases hj
  | iaload => obtain ⟨i, k, t, rfl, hb2, he⟩ := mm_ald_inv (ok := fun k => Nat.beq k 0 || Nat.beq k 4) (f := fun w k i => .int (w.2.1 k i)) hj; cases he; exact mm_le.rf
  | baload => obtain ⟨i, k, t, rfl, hb2, he⟩ := mm_ald_inv (ok := fun k => Nat.beq k 1) (f := fun w k i => .int (w.2.1 k i)) hj; cases he; exact mm_le.rf
  | laload => obtain ⟨i, k, t, rfl, hb2, he⟩ := mm_ald_inv (ok := fun k => Nat.beq k 2 || Nat.beq k 5) (f := fun w k i => .long (w.2.2.1 k i)) hj; cases he; exact mm_le.rf
  | aaload => obtain ⟨i, k, t, rfl, hb2, he⟩ := mm_ald_inv (ok := fun k => Nat.beq k 3) (f := fun w k i => va_rf (w.2.2.2 k i)) hj; cases he; exact mm_le.rf
  | iastore => obtain ⟨x, i, k, t, rfl, hk, he⟩ := mm_ist_inv (kd := 0) (f := fun x => x) hj; cases he; exact mm_le.of rfl
  | bastore => obtain ⟨x, i, k, t, rfl, hk, he⟩ := mm_ist_inv (kd := 1) (f := vp_nar .boolean) hj; cases he; exact mm_le.of rfl
  | putfield n =>
    replace hj : mm_pf n L st w = some (P, L', st', w') := hj
    unfold mm_pf at hj
    split at hj
    · obtain ⟨-, he⟩ := mm_cond_inv hj
      unfold mm_pv at he
      split at he <;> cases he <;> exact mm_le.of rfl
    · cases hj
  | new n => cases hj; exact mm_le.push rfl
  | newarray t =>
    replace hj : mm_nat t L st w = some (P, L', st', w') := hj
    unfold mm_nat at hj
    split at hj
    · obtain ⟨n, t, rfl, he⟩ := mm_na_inv hj; cases he; exact mm_le.push rfl
    · obtain ⟨n, t, rfl, he⟩ := mm_na_inv hj; cases he; exact mm_le.push rfl
    · cases hj
  | anewarray t => obtain ⟨n, t, rfl, he⟩ := mm_na_inv (kd := 3) hj; cases he; exact mm_le.push rfl
  | ldc k =>
    replace hj : mm_ma k L st w = some (P, L', st', w') := hj
    unfold mm_ma at hj
    split at hj
    · obtain ⟨-, he⟩ := mm_cond_inv hj; cases he; exact mm_le.rf
    · obtain ⟨-, he⟩ := mm_cond_inv hj; cases he; exact mm_le.rf
    · obtain ⟨-, he⟩ := mm_cond_inv hj; cases he; exact mm_le.rf
    · obtain ⟨-, he⟩ := mm_cond_inv hj; cases he; exact mm_le.rf
    · cases hj
  | monitorexit =>
    replace hj : mm_ac L st w = some (P, L', st', w') := hj
    unfold mm_ac at hj
    split at hj
    · rename_i n dp b sp a t
      obtain ⟨-, he⟩ := mm_cond_inv hj
      cases hq : (Nat.beq (mm_nth w.1 a).1 0 && Nat.beq (mm_nth w.1 b).1 0) with
      | true =>
        rw [hq] at he
        cases he
        exact mm_le.of rfl
      | false =>
        rw [hq] at he
        obtain ⟨-, he⟩ := mm_cond_inv he
        cases he
        exact mm_le.of rfl
    · cases hj
  | _ => cases hj
theorem mm_ex_le {Cl : mm_Cl} {rt : Option FieldType} {r : Option Value} {w1 : mm_W} (hCl : ∀ y as w r w1, Cl y as w r w1 → mm_le w w1) : ∀ (n pc : Nat) (L : mm_L) (st : List Value) (w : mm_W), mm_Ex Cl o ini cc rt n pc L st w r w1 → mm_le w w1
  | 0, _, _, _, _, h => h.elim
  | n + 1, pc, L, st, w, h => by
    obtain ⟨i, len, j, -, -, h⟩ := h
    rcases h with ⟨P, L', st', w', hj, -, h⟩ | ⟨pc', st', -, h⟩ | ⟨-, rfl⟩ | ⟨y, as, t, r', w', -, hc, h⟩
    · exact (mm_seq_le hj).tr (mm_ex_le hCl n _ _ _ _ h)
    · exact mm_ex_le hCl n _ _ _ _ h
    · exact mm_le.rf
    · exact (hCl _ _ _ _ _ hc).tr (mm_ex_le hCl n _ _ _ _ h)
theorem mm_runs_le : ∀ (d y : Nat) (as : List Value) (w : mm_W) (r : Option Value) (w1 : mm_W), mm_Runs d y as w r w1 → mm_le w w1
  | 0, _, _, _, _, _, h => h.elim
  | d + 1, y, as, w, r, w1, h => by
    obtain ⟨-, -, n, h⟩ := h
    exact mm_ex_le (mm_runs_le d) n _ _ _ _ h
theorem mm_tgt_ok {d : Int} (h : decide (0 ≤ (pc : Int) + d) = true) : (pc : Int) + d = (mm_tgt pc d : Int) := by
  have := of_decide_eq_true h
  unfold mm_tgt
  omega
theorem mm_br_ok {pc' : Nat} (C : mm_Cx p R s m args meth c o ini cc nL D cT base ro) (hl : mm_LH (mm_ad base ro) ls nL L) (hp : mm_Pt D cT base ro s w0 H locs cells slots w) (hb : mm_br j pc st = some (pc', st')) (kk : mm_KK p l e R s m args below meth c Q nL D cT base ro w0 pc' L st' w) (hd : decode cc pc = .ok (i, len)) (hr : mm_res o ini i len = some j) : W p l e R s m args below meth c H locs cells slots Q (F0 m pc ls (st.map (mm_cv (mm_ad base ro)))) := by
  cases i with
  | goto d =>
    obtain ⟨hb1, rfl⟩ := mm_c1 hr
    obtain rfl := Nat.eq_of_beq_eq_true hb1
    obtain ⟨hb2, he⟩ := mm_c1 (show cond (decide (0 ≤ (pc : Int) + d)) (some (mm_tgt pc d, st)) none = _ from hb)
    cases he
    exact lv_goto C.1 C.2.1 hd (mm_tgt_ok hb2) (kk _ _ _ _ _ hl hp)
  | ifCond k d =>
    obtain ⟨hb1, rfl⟩ := mm_c1 hr
    obtain rfl := Nat.eq_of_beq_eq_true hb1
    unfold mm_br at hb
    dsimp only at hb
    split at hb
    · rename_i x t
      obtain ⟨hb2, he⟩ := mm_c1 hb
      cases he
      cases k
      · exact lv_if_eq C.1 C.2.1 hd (mm_tgt_ok hb2) (fun h => by have k2 := kk; simp only [mm_c2, if_pos h] at k2; exact k2 _ _ _ _ _ hl hp) (fun h => by have k2 := kk; simp only [mm_c2, if_neg h] at k2; exact k2 _ _ _ _ _ hl hp)
      · exact lv_if_ne C.1 C.2.1 hd (mm_tgt_ok hb2) (fun h => by have k2 := kk; simp only [mm_c2, if_neg h] at k2; exact k2 _ _ _ _ _ hl hp) (fun h => by have k2 := kk; simp only [mm_c2, if_pos h] at k2; exact k2 _ _ _ _ _ hl hp)
      · exact lv_if_lt C.1 C.2.1 hd (mm_tgt_ok hb2) (fun h => by have k2 := kk; simp only [mm_c2, if_pos h] at k2; exact k2 _ _ _ _ _ hl hp) (fun h => by have k2 := kk; simp only [mm_c2, if_neg h] at k2; exact k2 _ _ _ _ _ hl hp)
      · exact lv_if_ge C.1 C.2.1 hd (mm_tgt_ok hb2) (fun h => by have k2 := kk; simp only [mm_c2, if_pos h] at k2; exact k2 _ _ _ _ _ hl hp) (fun h => by have k2 := kk; simp only [mm_c2, if_neg h] at k2; exact k2 _ _ _ _ _ hl hp)
      · exact lv_if_gt C.1 C.2.1 hd (mm_tgt_ok hb2) (fun h => by have k2 := kk; simp only [mm_c2, if_pos h] at k2; exact k2 _ _ _ _ _ hl hp) (fun h => by have k2 := kk; simp only [mm_c2, if_neg h] at k2; exact k2 _ _ _ _ _ hl hp)
      · exact lv_if_le C.1 C.2.1 hd (mm_tgt_ok hb2) (fun h => by have k2 := kk; simp only [mm_c2, if_pos h] at k2; exact k2 _ _ _ _ _ hl hp) (fun h => by have k2 := kk; simp only [mm_c2, if_neg h] at k2; exact k2 _ _ _ _ _ hl hp)
    · cases hb
  | if_icmp k d =>
    obtain ⟨hb1, rfl⟩ := mm_c1 hr
    obtain rfl := Nat.eq_of_beq_eq_true hb1
    unfold mm_br at hb
    dsimp only at hb
    split at hb
    · rename_i y x t
      obtain ⟨hb2, he⟩ := mm_c1 hb
      cases he
      cases k
      · exact lv_icmp_eq C.1 C.2.1 hd (mm_tgt_ok hb2) (fun h => by have k2 := kk; simp only [mm_c2, if_pos h] at k2; exact k2 _ _ _ _ _ hl hp) (fun h => by have k2 := kk; simp only [mm_c2, if_neg h] at k2; exact k2 _ _ _ _ _ hl hp)
      · exact lv_icmp_ne C.1 C.2.1 hd (mm_tgt_ok hb2) (fun h => by have k2 := kk; simp only [mm_c2, if_neg h] at k2; exact k2 _ _ _ _ _ hl hp) (fun h => by have k2 := kk; simp only [mm_c2, if_pos h] at k2; exact k2 _ _ _ _ _ hl hp)
      · exact lv_icmp_lt C.1 C.2.1 hd (mm_tgt_ok hb2) (fun h => by have k2 := kk; simp only [mm_c2, if_pos h] at k2; exact k2 _ _ _ _ _ hl hp) (fun h => by have k2 := kk; simp only [mm_c2, if_neg h] at k2; exact k2 _ _ _ _ _ hl hp)
      · exact lv_icmp_ge C.1 C.2.1 hd (mm_tgt_ok hb2) (fun h => by have k2 := kk; simp only [mm_c2, if_pos h] at k2; exact k2 _ _ _ _ _ hl hp) (fun h => by have k2 := kk; simp only [mm_c2, if_neg h] at k2; exact k2 _ _ _ _ _ hl hp)
      · exact lv_icmp_gt C.1 C.2.1 hd (mm_tgt_ok hb2) (fun h => by have k2 := kk; simp only [mm_c2, if_pos h] at k2; exact k2 _ _ _ _ _ hl hp) (fun h => by have k2 := kk; simp only [mm_c2, if_neg h] at k2; exact k2 _ _ _ _ _ hl hp)
      · exact lv_icmp_le C.1 C.2.1 hd (mm_tgt_ok hb2) (fun h => by have k2 := kk; simp only [mm_c2, if_pos h] at k2; exact k2 _ _ _ _ _ hl hp) (fun h => by have k2 := kk; simp only [mm_c2, if_neg h] at k2; exact k2 _ _ _ _ _ hl hp)
    · cases hb
  | ifnull d =>
    obtain ⟨hb1, rfl⟩ := mm_c1 hr
    obtain rfl := Nat.eq_of_beq_eq_true hb1
    unfold mm_br at hb
    dsimp only at hb
    split at hb
    · obtain ⟨hb2, he⟩ := mm_c1 hb
      cases he
      exact lv_ifnullN C.1 C.2.1 hd (mm_tgt_ok hb2) (kk _ _ _ _ _ hl hp)
    · cases hb
      exact lv_ifnull C.1 C.2.1 hd (kk _ _ _ _ _ hl hp)
    · cases hb
  | ifnonnull d =>
    obtain ⟨hb1, rfl⟩ := mm_c1 hr
    obtain rfl := Nat.eq_of_beq_eq_true hb1
    unfold mm_br at hb
    dsimp only at hb
    split at hb
    · cases hb
      exact lv_ifnonnullN C.1 C.2.1 hd (kk _ _ _ _ _ hl hp)
    · obtain ⟨hb2, he⟩ := mm_c1 hb
      cases he
      exact lv_ifnonnull C.1 C.2.1 hd (mm_tgt_ok hb2) (kk _ _ _ _ _ hl hp)
    · cases hb
  | tableswitch d lo hi os =>
    cases hr
    unfold mm_br at hb
    dsimp only at hb
    split at hb
    · rename_i x t
      obtain ⟨hb2, he⟩ := mm_c1 hb
      simp only [Bool.and_eq_true] at hb2
      obtain ⟨⟨hb3, hb4⟩, hb5⟩ := hb2
      have hsz := of_decide_eq_true hb5
      by_cases h : x.toInt < lo ∨ hi < x.toInt
      · rw [if_pos h] at he
        cases he
        exact lv_tableOut C.1 C.2.1 hd h (mm_tgt_ok hb4) (kk _ _ _ _ _ hl hp)
      · rw [if_neg h] at he
        cases he
        have h1 : ¬ x.toInt < lo := fun z => h (Or.inl z)
        have h2 : ¬ hi < x.toInt := fun z => h (Or.inr z)
        have hlt : (x.toInt - lo).toNat < os.size := by omega
        have hget : os[(x.toInt - lo).toNat]? = some os[(x.toInt - lo).toNat] := Array.getElem?_eq_getElem hlt
        have e2 : os.toList.getD (x.toInt - lo).toNat 0 = os[(x.toInt - lo).toNat] := by
          rw [List.getD_eq_getElem?_getD, Array.getElem?_toList, hget]
          rfl
        rw [e2] at kk
        exact lv_tableIn C.1 C.2.1 hd h1 h2 hget (mm_tgt_ok ((Array.all_eq_true.mp hb3) _ hlt)) (kk _ _ _ _ _ hl hp)
    · cases hb
  | lookupswitch d ps =>
    cases hr
    unfold mm_br at hb
    dsimp only at hb
    split at hb
    · rename_i x t
      obtain ⟨hb2, he⟩ := mm_c1 hb
      simp only [Bool.and_eq_true] at hb2
      obtain ⟨⟨hb3, hb4⟩, hb5⟩ := hb2
      cases he
      have hoff : ∀ (l : List (Int × Int)), (∀ q ∈ l, decide (0 ≤ (pc : Int) + q.2) = true) → decide (0 ≤ (pc : Int) + Op.lookupswitch.offset l d x.toInt) = true := by
        intro l
        induction l with
        | nil => intro _; exact hb4
        | cons a l ih =>
          intro h
          obtain ⟨a1, a2⟩ := a
          unfold Op.lookupswitch.offset
          split
          · exact h (a1, a2) List.mem_cons_self
          · exact ih (fun q hq => h q (List.mem_cons_of_mem _ hq))
      exact lv_lookup C.1 C.2.1 hd hb5 rfl (mm_tgt_ok (hoff _ (fun q hq => by
        obtain ⟨k, hk⟩ := List.getElem?_of_mem hq
        rw [Array.getElem?_toList] at hk
        obtain ⟨h1, h2⟩ := Array.getElem?_eq_some_iff.mp hk
        rw [← h2]
        exact (Array.all_eq_true.mp hb3) k h1))) (kk _ _ _ _ _ hl hp)
    · cases hb
  | iconst n => obtain ⟨-, rfl⟩ := mm_c1 hr; cases hb
  | iload_n n => obtain ⟨-, rfl⟩ := mm_c1 hr; cases hb
  | iload n => obtain ⟨-, rfl⟩ := mm_c1 hr; cases hb
  | lload_n n => obtain ⟨-, rfl⟩ := mm_c1 hr; cases hb
  | lload n => obtain ⟨-, rfl⟩ := mm_c1 hr; cases hb
  | aload_n n => obtain ⟨-, rfl⟩ := mm_c1 hr; cases hb
  | aload n => obtain ⟨-, rfl⟩ := mm_c1 hr; cases hb
  | istore_n n => obtain ⟨-, rfl⟩ := mm_c1 hr; cases hb
  | istore n => obtain ⟨-, rfl⟩ := mm_c1 hr; cases hb
  | lstore_n n => obtain ⟨-, rfl⟩ := mm_c1 hr; cases hb
  | lstore n => obtain ⟨-, rfl⟩ := mm_c1 hr; cases hb
  | astore_n n => obtain ⟨-, rfl⟩ := mm_c1 hr; cases hb
  | astore n => obtain ⟨-, rfl⟩ := mm_c1 hr; cases hb
  | iinc n d => obtain ⟨-, rfl⟩ := mm_c1 hr; cases hb
  | newarray n => obtain ⟨-, rfl⟩ := mm_c1 hr; cases hb
  | ireturn => obtain ⟨-, rfl⟩ := mm_c1 hr; cases hb
  | lreturn => obtain ⟨-, rfl⟩ := mm_c1 hr; cases hb
  | areturn => obtain ⟨-, rfl⟩ := mm_c1 hr; cases hb
  | return_ => obtain ⟨-, rfl⟩ := mm_c1 hr; cases hb
  | iadd => obtain ⟨-, rfl⟩ := mm_c1 hr; cases hb
  | isub => obtain ⟨-, rfl⟩ := mm_c1 hr; cases hb
  | imul => obtain ⟨-, rfl⟩ := mm_c1 hr; cases hb
  | idiv => obtain ⟨-, rfl⟩ := mm_c1 hr; cases hb
  | irem => obtain ⟨-, rfl⟩ := mm_c1 hr; cases hb
  | ineg => obtain ⟨-, rfl⟩ := mm_c1 hr; cases hb
  | iand => obtain ⟨-, rfl⟩ := mm_c1 hr; cases hb
  | ior => obtain ⟨-, rfl⟩ := mm_c1 hr; cases hb
  | ixor => obtain ⟨-, rfl⟩ := mm_c1 hr; cases hb
  | ishl => obtain ⟨-, rfl⟩ := mm_c1 hr; cases hb
  | ishr => obtain ⟨-, rfl⟩ := mm_c1 hr; cases hb
  | iushr => obtain ⟨-, rfl⟩ := mm_c1 hr; cases hb
  | i2l => obtain ⟨-, rfl⟩ := mm_c1 hr; cases hb
  | l2i => obtain ⟨-, rfl⟩ := mm_c1 hr; cases hb
  | i2b => obtain ⟨-, rfl⟩ := mm_c1 hr; cases hb
  | i2s => obtain ⟨-, rfl⟩ := mm_c1 hr; cases hb
  | ladd => obtain ⟨-, rfl⟩ := mm_c1 hr; cases hb
  | lsub => obtain ⟨-, rfl⟩ := mm_c1 hr; cases hb
  | lmul => obtain ⟨-, rfl⟩ := mm_c1 hr; cases hb
  | ldiv => obtain ⟨-, rfl⟩ := mm_c1 hr; cases hb
  | lrem => obtain ⟨-, rfl⟩ := mm_c1 hr; cases hb
  | land => obtain ⟨-, rfl⟩ := mm_c1 hr; cases hb
  | lor => obtain ⟨-, rfl⟩ := mm_c1 hr; cases hb
  | lshl => obtain ⟨-, rfl⟩ := mm_c1 hr; cases hb
  | lcmp => obtain ⟨-, rfl⟩ := mm_c1 hr; cases hb
  | dup => obtain ⟨-, rfl⟩ := mm_c1 hr; cases hb
  | dup2 => obtain ⟨-, rfl⟩ := mm_c1 hr; cases hb
  | pop => obtain ⟨-, rfl⟩ := mm_c1 hr; cases hb
  | aconst_null => obtain ⟨-, rfl⟩ := mm_c1 hr; cases hb
  | arraylength => obtain ⟨-, rfl⟩ := mm_c1 hr; cases hb
  | iaload => obtain ⟨-, rfl⟩ := mm_c1 hr; cases hb
  | iastore => obtain ⟨-, rfl⟩ := mm_c1 hr; cases hb
  | laload => obtain ⟨-, rfl⟩ := mm_c1 hr; cases hb
  | lastore => obtain ⟨-, rfl⟩ := mm_c1 hr; cases hb
  | aaload => obtain ⟨-, rfl⟩ := mm_c1 hr; cases hb
  | aastore => obtain ⟨-, rfl⟩ := mm_c1 hr; cases hb
  | bipush n => obtain ⟨-, hr⟩ := mm_c2' hr; obtain ⟨-, rfl⟩ := mm_c1 hr; cases hb
  | sipush n => obtain ⟨-, hr⟩ := mm_c2' hr; obtain ⟨-, rfl⟩ := mm_c1 hr; cases hb
  | lconst n => obtain ⟨-, hr⟩ := mm_c2' hr; obtain ⟨-, rfl⟩ := mm_c1 hr; cases hb
  | ldc n => obtain ⟨-, hr⟩ := mm_c2' hr; obtain ⟨q, -, rfl⟩ := Option.map_eq_some_iff.mp hr; cases hb
  | ldc_w n => obtain ⟨-, hr⟩ := mm_c2' hr; obtain ⟨q, -, rfl⟩ := Option.map_eq_some_iff.mp hr; cases hb
  | ldc2_w n => obtain ⟨-, hr⟩ := mm_c2' hr; obtain ⟨q, -, rfl⟩ := Option.map_eq_some_iff.mp hr; cases hb
  | getfield n => obtain ⟨-, hr⟩ := mm_c2' hr; obtain ⟨q, -, rfl⟩ := Option.map_eq_some_iff.mp hr; cases hb
  | getstatic n => obtain ⟨-, hr⟩ := mm_c2' hr; obtain ⟨q, -, rfl⟩ := Option.map_eq_some_iff.mp hr; cases hb
  | new n => obtain ⟨-, hr⟩ := mm_c2' hr; obtain ⟨q, -, rfl⟩ := Option.map_eq_some_iff.mp hr; cases hb
  | putfield n => obtain ⟨-, hr⟩ := mm_c2' hr; obtain ⟨q, -, hr⟩ := Option.bind_eq_some_iff.mp hr; obtain ⟨-, rfl⟩ := mm_c1 hr; cases hb
  | anewarray n => obtain ⟨-, hr⟩ := mm_c2' hr; obtain ⟨q, -, hr⟩ := Option.bind_eq_some_iff.mp hr; obtain ⟨-, rfl⟩ := mm_c1 hr; cases hb
  | invokevirtual n => obtain ⟨-, hr⟩ := mm_c2' hr; obtain ⟨q, -, hr⟩ := Option.bind_eq_some_iff.mp hr; split at hr <;> cases hr <;> cases hb
  | invokestatic n => obtain ⟨-, hr⟩ := mm_c2' hr; obtain ⟨q, -, hr⟩ := Option.bind_eq_some_iff.mp hr; split at hr <;> cases hr <;> cases hb
  | invokespecial n => obtain ⟨-, hr⟩ := mm_c2' hr; obtain ⟨q, -, hr⟩ := Option.bind_eq_some_iff.mp hr; split at hr <;> cases hr <;> cases hb
  | _ => cases hr
theorem mm_ret_of {rt : Option FieldType} {r : Option Value} (hr : mm_res o ini i len = some j) (h : mm_ret j rt st r) : (j = .ireturn ∨ j = .lreturn ∨ j = .areturn ∨ j = .return_) ∧ i = j ∧ len = 1 := by
  have hj : j = .ireturn ∨ j = .lreturn ∨ j = .areturn ∨ j = .return_ := by
    unfold mm_ret at h
    split at h <;> first | exact Or.inl rfl | exact Or.inr (Or.inl rfl) | exact Or.inr (Or.inr (Or.inl rfl)) | exact Or.inr (Or.inr (Or.inr rfl)) | exact h.elim
  refine ⟨hj, ?_⟩
  clear h
  cases i with
  | iconst n => obtain ⟨-, rfl⟩ := mm_c1 hr; rcases hj with h | h | h | h <;> cases h
  | iload_n n => obtain ⟨-, rfl⟩ := mm_c1 hr; rcases hj with h | h | h | h <;> cases h
  | iload n => obtain ⟨-, rfl⟩ := mm_c1 hr; rcases hj with h | h | h | h <;> cases h
  | lload_n n => obtain ⟨-, rfl⟩ := mm_c1 hr; rcases hj with h | h | h | h <;> cases h
  | lload n => obtain ⟨-, rfl⟩ := mm_c1 hr; rcases hj with h | h | h | h <;> cases h
  | aload_n n => obtain ⟨-, rfl⟩ := mm_c1 hr; rcases hj with h | h | h | h <;> cases h
  | aload n => obtain ⟨-, rfl⟩ := mm_c1 hr; rcases hj with h | h | h | h <;> cases h
  | istore_n n => obtain ⟨-, rfl⟩ := mm_c1 hr; rcases hj with h | h | h | h <;> cases h
  | istore n => obtain ⟨-, rfl⟩ := mm_c1 hr; rcases hj with h | h | h | h <;> cases h
  | lstore_n n => obtain ⟨-, rfl⟩ := mm_c1 hr; rcases hj with h | h | h | h <;> cases h
  | lstore n => obtain ⟨-, rfl⟩ := mm_c1 hr; rcases hj with h | h | h | h <;> cases h
  | astore_n n => obtain ⟨-, rfl⟩ := mm_c1 hr; rcases hj with h | h | h | h <;> cases h
  | astore n => obtain ⟨-, rfl⟩ := mm_c1 hr; rcases hj with h | h | h | h <;> cases h
  | iinc n d => obtain ⟨-, rfl⟩ := mm_c1 hr; rcases hj with h | h | h | h <;> cases h
  | newarray n => obtain ⟨-, rfl⟩ := mm_c1 hr; rcases hj with h | h | h | h <;> cases h
  | iadd => obtain ⟨-, rfl⟩ := mm_c1 hr; rcases hj with h | h | h | h <;> cases h
  | isub => obtain ⟨-, rfl⟩ := mm_c1 hr; rcases hj with h | h | h | h <;> cases h
  | imul => obtain ⟨-, rfl⟩ := mm_c1 hr; rcases hj with h | h | h | h <;> cases h
  | idiv => obtain ⟨-, rfl⟩ := mm_c1 hr; rcases hj with h | h | h | h <;> cases h
  | irem => obtain ⟨-, rfl⟩ := mm_c1 hr; rcases hj with h | h | h | h <;> cases h
  | ineg => obtain ⟨-, rfl⟩ := mm_c1 hr; rcases hj with h | h | h | h <;> cases h
  | iand => obtain ⟨-, rfl⟩ := mm_c1 hr; rcases hj with h | h | h | h <;> cases h
  | ior => obtain ⟨-, rfl⟩ := mm_c1 hr; rcases hj with h | h | h | h <;> cases h
  | ixor => obtain ⟨-, rfl⟩ := mm_c1 hr; rcases hj with h | h | h | h <;> cases h
  | ishl => obtain ⟨-, rfl⟩ := mm_c1 hr; rcases hj with h | h | h | h <;> cases h
  | ishr => obtain ⟨-, rfl⟩ := mm_c1 hr; rcases hj with h | h | h | h <;> cases h
  | iushr => obtain ⟨-, rfl⟩ := mm_c1 hr; rcases hj with h | h | h | h <;> cases h
  | i2l => obtain ⟨-, rfl⟩ := mm_c1 hr; rcases hj with h | h | h | h <;> cases h
  | l2i => obtain ⟨-, rfl⟩ := mm_c1 hr; rcases hj with h | h | h | h <;> cases h
  | i2b => obtain ⟨-, rfl⟩ := mm_c1 hr; rcases hj with h | h | h | h <;> cases h
  | i2s => obtain ⟨-, rfl⟩ := mm_c1 hr; rcases hj with h | h | h | h <;> cases h
  | ladd => obtain ⟨-, rfl⟩ := mm_c1 hr; rcases hj with h | h | h | h <;> cases h
  | lsub => obtain ⟨-, rfl⟩ := mm_c1 hr; rcases hj with h | h | h | h <;> cases h
  | lmul => obtain ⟨-, rfl⟩ := mm_c1 hr; rcases hj with h | h | h | h <;> cases h
  | ldiv => obtain ⟨-, rfl⟩ := mm_c1 hr; rcases hj with h | h | h | h <;> cases h
  | lrem => obtain ⟨-, rfl⟩ := mm_c1 hr; rcases hj with h | h | h | h <;> cases h
  | land => obtain ⟨-, rfl⟩ := mm_c1 hr; rcases hj with h | h | h | h <;> cases h
  | lor => obtain ⟨-, rfl⟩ := mm_c1 hr; rcases hj with h | h | h | h <;> cases h
  | lshl => obtain ⟨-, rfl⟩ := mm_c1 hr; rcases hj with h | h | h | h <;> cases h
  | lcmp => obtain ⟨-, rfl⟩ := mm_c1 hr; rcases hj with h | h | h | h <;> cases h
  | dup => obtain ⟨-, rfl⟩ := mm_c1 hr; rcases hj with h | h | h | h <;> cases h
  | dup2 => obtain ⟨-, rfl⟩ := mm_c1 hr; rcases hj with h | h | h | h <;> cases h
  | pop => obtain ⟨-, rfl⟩ := mm_c1 hr; rcases hj with h | h | h | h <;> cases h
  | aconst_null => obtain ⟨-, rfl⟩ := mm_c1 hr; rcases hj with h | h | h | h <;> cases h
  | arraylength => obtain ⟨-, rfl⟩ := mm_c1 hr; rcases hj with h | h | h | h <;> cases h
  | iaload => obtain ⟨-, rfl⟩ := mm_c1 hr; rcases hj with h | h | h | h <;> cases h
  | iastore => obtain ⟨-, rfl⟩ := mm_c1 hr; rcases hj with h | h | h | h <;> cases h
  | laload => obtain ⟨-, rfl⟩ := mm_c1 hr; rcases hj with h | h | h | h <;> cases h
  | lastore => obtain ⟨-, rfl⟩ := mm_c1 hr; rcases hj with h | h | h | h <;> cases h
  | aaload => obtain ⟨-, rfl⟩ := mm_c1 hr; rcases hj with h | h | h | h <;> cases h
  | aastore => obtain ⟨-, rfl⟩ := mm_c1 hr; rcases hj with h | h | h | h <;> cases h
  | goto d => obtain ⟨-, rfl⟩ := mm_c1 hr; rcases hj with h | h | h | h <;> cases h
  | ifCond k d => obtain ⟨-, rfl⟩ := mm_c1 hr; rcases hj with h | h | h | h <;> cases h
  | if_icmp k d => obtain ⟨-, rfl⟩ := mm_c1 hr; rcases hj with h | h | h | h <;> cases h
  | ifnull d => obtain ⟨-, rfl⟩ := mm_c1 hr; rcases hj with h | h | h | h <;> cases h
  | ifnonnull d => obtain ⟨-, rfl⟩ := mm_c1 hr; rcases hj with h | h | h | h <;> cases h
  | tableswitch a b c d => cases hr; rcases hj with h | h | h | h <;> cases h
  | lookupswitch a b => cases hr; rcases hj with h | h | h | h <;> cases h
  | bipush n => obtain ⟨-, hr⟩ := mm_c2' hr; obtain ⟨-, rfl⟩ := mm_c1 hr; rcases hj with h | h | h | h <;> cases h
  | sipush n => obtain ⟨-, hr⟩ := mm_c2' hr; obtain ⟨-, rfl⟩ := mm_c1 hr; rcases hj with h | h | h | h <;> cases h
  | lconst n => obtain ⟨-, hr⟩ := mm_c2' hr; obtain ⟨-, rfl⟩ := mm_c1 hr; rcases hj with h | h | h | h <;> cases h
  | ldc n => obtain ⟨-, hr⟩ := mm_c2' hr; obtain ⟨q, -, rfl⟩ := Option.map_eq_some_iff.mp hr; rcases hj with h | h | h | h <;> cases h
  | ldc_w n => obtain ⟨-, hr⟩ := mm_c2' hr; obtain ⟨q, -, rfl⟩ := Option.map_eq_some_iff.mp hr; rcases hj with h | h | h | h <;> cases h
  | ldc2_w n => obtain ⟨-, hr⟩ := mm_c2' hr; obtain ⟨q, -, rfl⟩ := Option.map_eq_some_iff.mp hr; rcases hj with h | h | h | h <;> cases h
  | getfield n => obtain ⟨-, hr⟩ := mm_c2' hr; obtain ⟨q, -, rfl⟩ := Option.map_eq_some_iff.mp hr; rcases hj with h | h | h | h <;> cases h
  | getstatic n => obtain ⟨-, hr⟩ := mm_c2' hr; obtain ⟨q, -, rfl⟩ := Option.map_eq_some_iff.mp hr; rcases hj with h | h | h | h <;> cases h
  | new n => obtain ⟨-, hr⟩ := mm_c2' hr; obtain ⟨q, -, rfl⟩ := Option.map_eq_some_iff.mp hr; rcases hj with h | h | h | h <;> cases h
  | putfield n => obtain ⟨-, hr⟩ := mm_c2' hr; obtain ⟨q, -, hr⟩ := Option.bind_eq_some_iff.mp hr; obtain ⟨-, rfl⟩ := mm_c1 hr; rcases hj with h | h | h | h <;> cases h
  | anewarray n => obtain ⟨-, hr⟩ := mm_c2' hr; obtain ⟨q, -, hr⟩ := Option.bind_eq_some_iff.mp hr; obtain ⟨-, rfl⟩ := mm_c1 hr; rcases hj with h | h | h | h <;> cases h
  | invokevirtual n => obtain ⟨-, hr⟩ := mm_c2' hr; obtain ⟨q, -, hr⟩ := Option.bind_eq_some_iff.mp hr; split at hr <;> cases hr <;> rcases hj with h | h | h | h <;> cases h
  | invokestatic n => obtain ⟨-, hr⟩ := mm_c2' hr; obtain ⟨q, -, hr⟩ := Option.bind_eq_some_iff.mp hr; split at hr <;> cases hr <;> rcases hj with h | h | h | h <;> cases h
  | invokespecial n => obtain ⟨-, hr⟩ := mm_c2' hr; obtain ⟨q, -, hr⟩ := Option.bind_eq_some_iff.mp hr; split at hr <;> cases hr <;> rcases hj with h | h | h | h <;> cases h
  | ireturn => obtain ⟨hb, rfl⟩ := mm_c1 hr; exact ⟨rfl, Nat.eq_of_beq_eq_true hb⟩
  | lreturn => obtain ⟨hb, rfl⟩ := mm_c1 hr; exact ⟨rfl, Nat.eq_of_beq_eq_true hb⟩
  | areturn => obtain ⟨hb, rfl⟩ := mm_c1 hr; exact ⟨rfl, Nat.eq_of_beq_eq_true hb⟩
  | return_ => obtain ⟨hb, rfl⟩ := mm_c1 hr; exact ⟨rfl, Nat.eq_of_beq_eq_true hb⟩
  | _ => cases hr
/-! from one state's words to another's -/
theorem mm_H.to {U : State} {H1 : Heap} (h : mm_H D cT base ro s H w) (hP : va_P D vwCl (mm_all cT base ro w) H1) (hvm : s.vm.Alike U.vm) (hq : ∀ a : Nat, a < s.heap.size → ¬ base ≤ a → U.heap[a]? = s.heap[a]?) : mm_H D cT base ro U H1 w := by
  refine ⟨hP, h.2.1, fun k hk => ?_, h.2.2.2⟩
  rcases h.2.2.1 k hk with ⟨a, b⟩ | ⟨a, b⟩
  · exact Or.inl ⟨a, (b.moved hvm).kept hq⟩
  · exact Or.inr ⟨a, (b.moved hvm).kept hq⟩
theorem mm_sts.to {U : State} (h : mm_sts base ro s) (hvm : s.vm.Alike U.vm) (hq : ∀ a : Nat, a < s.heap.size → ¬ base ≤ a → U.heap[a]? = s.heap[a]?) : mm_sts base ro U := fun q hm => ((h q hm).moved hvm).kept hq
theorem mm_nests.to {U : State} (h : mm_nests s) (hW : s.WarmedH U.vm) : mm_nests U := by
  intro w hw hn
  have h1 := h w hw hn
  cases w with
  | methodLinkNest a i x b => exact va_Nw.warmM hW h1
  | _ => cases hn
theorem mm_Pt.low (hp : mm_Pt D cT base ro s w0 H locs cells slots w) {a : Nat} (ha : ¬ base ≤ a) : a < s.heap.size := by
  have := hp.2.2.2.2
  omega
theorem mm_Pt.same (hp : mm_Pt D cT base ro s w0 H locs cells slots w) {a : Nat} (ha : ¬ base ≤ a) : H[a]? = s.heap[a]? := hp.2.1.2.1 a (hp.low ha) ha
theorem mm_Pt.size {T : State} (hp : mm_Pt D cT base ro s w0 H locs cells slots w) (hT : T.heap = H) (X : Stand p l e R s m args below meth c T locs cells slots) : H.size + 7 = base + w.1.length := by
  have h1 := X.heapSize
  rw [hT] at h1
  have h2 := hp.2.2.2.2
  have h3 := hp.2.2.1
  have h4 := hp.1.2.1
  rcases Nat.lt_or_ge 7 w.1.length with h | h
  · have ha := mm_all_at (cT := cT) (base := base) (ro := ro) (w := w) (k := w.1.length - 1) (by omega) (by omega)
    have hb : mm_ad base ro (w.1.length - 1) < H.size := (hp.1.1 _ _ ha).lt
    rw [mm_ad7 (by omega)] at hb
    omega
  · have := hp.2.1.1
    omega
/-! contracts -/
def mm_rm (d mc ms : Nat) : Room := { frames := d + 1, cells := mc, slots := ms, locals := 60 * d + 100 }
def mm_ws (y : Nat) : List Jvm.Cond := Jvm.Cond.code (mm_me y).2.1 (mm_me y).2.2.1 (mm_me y).2.2.2.1 (mm_me y).2.2.2.2.1 :: mm_wds
def mm_Pc (D : va_G) (cT : Nat → ClassId) (base : Nat) (ro : Nat → Nat) (as : List Value) (w : mm_W) : Array Value → State → Prop := fun a U => a = (as.map (mm_cv (mm_ad base ro))).toArray ∧ mm_H D cT base ro U U.heap w ∧ va_K D vwCl (mm_tys cT) U ∧ mm_sts base ro U ∧ va_AO RX8 U ∧ mm_nests U ∧ U.heap.size + 7 = base + w.1.length
def mm_Qc (D : va_G) (cT : Nat → ClassId) (base : Nat) (ro : Nat → Nat) (r : Option Value) (w1 : mm_W) : Array Value → State → Outcome → State → Prop := fun _ st oc t => oc = .returned (r.map (mm_cv (mm_ad base ro))) ∧ mm_H D cT base ro t t.heap w1 ∧ va_F (mm_A base) st t
def mm_met (l : Launch) (d : Nat) (y : Nat) (as : List Value) (w : mm_W) (r : Option Value) (w1 : mm_W) : Prop := ∀ (D : va_G) (cT : Nat → ClassId) (base : Nat) (ro : Nat → Nat), Met l (mm_me y).2.1 (mm_ws y) (mm_rm d (w1.1.length - w.1.length) (mm_sl w1.1 - mm_sl w.1)) (mm_Pc D cT base ro as w) (mm_Qc D cT base ro r w1) (w1.1.length - w.1.length) (mm_sl w1.1 - mm_sl w.1) (mm_A base)
theorem mm_Pc_blind {as : List Value} : FrameBlind (mm_Pc D cT base ro as w) := by
  intro a U g mk h
  obtain ⟨h1, h2, h3, h4, h5, h6, h7⟩ := h
  exact ⟨h1, h2.to (s := U) (U := U.calling g mk a) h2.1 (Vm.Alike.refl U.vm) (fun _ _ _ => rfl), va_K.moved (u := U) (U := U.calling g mk a) (Vm.Alike.refl U.vm) h3, mm_sts.to (s := U) (U := U.calling g mk a) h4 (Vm.Alike.refl U.vm) (fun _ _ _ => rfl), va_AO.moved (u := U) (U := U.calling g mk a) (Vm.Alike.refl U.vm) h5, mm_nests.to (s := U) (U := U.calling g mk a) h6 (State.WarmedH.refl U), h7⟩
theorem mm_Pc_at {as : List Value} (C : mm_Cx p R s m args meth c o ini cc nL D cT base ro) (hp : mm_Pt D cT base ro s w0 H locs cells slots w) (hsz : H.size + 7 = base + w.1.length) {U : State} (hU : U.heap = H) (hW : s.WarmedH U.vm) : mm_Pc D cT base ro as w (as.map (mm_cv (mm_ad base ro))).toArray U := by
  have hq : ∀ a : Nat, a < s.heap.size → ¬ base ≤ a → U.heap[a]? = s.heap[a]? := fun a _ ha => by rw [hU]; exact hp.same ha
  exact ⟨rfl, hp.1.to (by rw [hU]; exact hp.1.1) hW.alike hq, va_K.moved hW.alike C.2.2.2.2.2.2.2.1, C.2.2.2.2.2.2.2.2.1.to hW.alike hq, C.2.2.2.2.2.2.2.2.2.1.moved hW.alike, C.2.2.2.2.2.1.to hW, by rw [hU]; exact hsz⟩
theorem mm_called {mc ms : Nat} {st0 : List Value} {a : Array Value} {t : List Value} {r : Option Value} {w1 : mm_W} (hp : mm_Pt D cT base ro s w0 H locs cells slots w) (hl : mm_LH (mm_ad base ro) ls nL L) (hmc : w.1.length + mc = w1.1.length) (hms : mm_sl w.1 + ms = mm_sl w1.1)
    (hr : va_Run p l e R s m args below meth c H locs cells slots mc ms (F0 m pc ls st0) (t.map (mm_cv (mm_ad base ro))) (mm_Qc D cT base ro r w1 a) (mm_A base))
    (kk : mm_KK p l e R s m args below meth c Q nL D cT base ro w0 (pc + 3) L (r.toList ++ t) w1) : W p l e R s m args below meth c H locs cells slots Q (F0 m pc ls st0) := by
  intro T hT X
  obtain ⟨v, st₀, t1, T', L1, h0, X', hL, e1, e2, ⟨hv, hH, hF⟩, st⟩ := hr T hT X
  obtain rfl : v = r.map (mm_cv (mm_ad base ro)) := by
    injection hv
  have hS : va_S (mm_A base) s.heap T'.heap (locs ++ L1) := by
    obtain ⟨hz, hk⟩ := hF
    rw [h0] at hz hk
    refine ⟨Nat.le_trans hp.2.1.1 (by rw [e1]; exact hz), fun q h1 h2 => ?_, fun q hq => ?_⟩
    · rw [e1, hk q (Nat.lt_of_lt_of_le h1 hp.2.1.1) h2]
      exact hp.2.1.2.1 q h1 h2
    · rcases List.mem_append.mp hq with h | h
      · exact hp.2.1.2.2 q h
      · exact hL q h
  have hp1 : mm_Pt D cT base ro s w0 T'.heap (locs ++ L1) (cells + mc) (slots + ms) w1 := by
    refine ⟨hH.to (by rw [e1]; exact hH.1) (by rw [← e2]; exact X'.warmed.alike.symm) (fun a _ ha => ?_), hS, by have := hp.2.2.1; omega, by have := hp.2.2.2.1; omega, hp.2.2.2.2⟩
    rw [← e1]
    exact (hS.2.1 a (hp.low ha) ha).symm
  obtain ⟨t2, a1, b1⟩ := kk _ _ _ _ _ hl hp1 T' rfl X'
  refine ⟨t2, st t2 ?_, b1⟩
  rw [List.map_append] at a1
  cases r <;> exact a1
theorem mm_me_in {y : Nat} (h : y < mm_meL.length) : mm_meC (mm_me y) := by
  have e : mm_me y = mm_meL[y] := by
    unfold mm_me
    rw [List.getD_eq_getElem?_getD, List.getElem?_eq_getElem h]
    rfl
  rw [e]
  exact mm_me_all _ (List.getElem_mem h)
theorem mm_ws_good {y : Nat} (h : y < mm_meL.length) : GoodIn mm_wds (mm_ws y) := by
  intro w hw
  rcases List.mem_cons.mp hw with rfl | hw
  · have h1 := (mm_me_in h).2.2.2.1
    exact ⟨mm_wds_in h1 rfl, good_of_word rfl⟩
  · exact ⟨hw, mm_wds_all w hw⟩
theorem mm_rev {n : Nat} (ad : Nat → Nat) : ((st.take n).reverse.map (mm_cv ad)).reverse ++ (st.drop n).map (mm_cv ad) = st.map (mm_cv ad) := by
  rw [← List.map_reverse, List.reverse_reverse, ← List.map_append, List.take_append_drop]
theorem mm_nargs {y n : Nat} (h : decide ((parseMethodDescriptor (mm_me y).2.1.desc).map (fun d => d.parameters.length) = some n) = true) : (parseMethodDescriptor (mm_me y).2.1.desc).map (fun d => d.parameters.length) = some n := of_decide_eq_true h
theorem mm_dm16 {a b : Nat} (h : b < 16) : (a * 16 + b) / 16 = a ∧ (a * 16 + b) % 16 = b := by omega
theorem mm_cal16 : ∀ q ∈ mm_calL, q.2.2.2.2 < 16 := by decide +kernel
theorem mm_call_ok {d y : Nat} {as t : List Value} {r' : Option Value} {w1 : mm_W} (C : mm_Cx p R s m args meth c o ini cc nL D cT base ro) (hR : d + 2 ≤ R.frames ∧ 60 * d + 160 ≤ R.locals) (hl : mm_LH (mm_ad base ro) ls nL L) (hp : mm_Pt D cT base ro s w0 H locs cells slots w) (hle : mm_le w w1) (hroom : w1.1.length ≤ w0.1.length + R.cells ∧ mm_sl w1.1 ≤ mm_sl w0.1 + R.slots)
    (hd : decode cc pc = .ok (i, len)) (hr : mm_res o ini i len = some j) (hc : mm_call j st w = some (y, as, t)) (hM : mm_met l d y as w r' w1) (kk : mm_KK p l e R s m args below meth c Q nL D cT base ro w0 (pc + 3) L (r'.toList ++ t) w1) : W p l e R s m args below meth c H locs cells slots Q (F0 m pc ls (st.map (mm_cv (mm_ad base ro)))) := by
  obtain ⟨hle1, hle2⟩ := hle
  have hc1 := hp.2.2.1
  have hs1 := hp.2.2.2.1
  intro T hT X
  have hsz := hp.size hT X
  refine mm_called (a := (as.map (mm_cv (mm_ad base ro))).toArray) (t := t) (r := r') (w1 := w1) (mc := w1.1.length - w.1.length) (ms := mm_sl w1.1 - mm_sl w.1) hp hl (by omega) (by omega) ?_ kk T hT X
  have hf : cells + (w1.1.length - w.1.length) ≤ R.cells ∧ slots + (mm_sl w1.1 - mm_sl w.1) ≤ R.slots := ⟨by omega, by omega⟩
  have hfix : CallFix p m c cc nL s args mm_wds (mm_R o) := ⟨C.1, C.2.1, C.2.2.1, C.2.2.2.1, C.2.2.2.2.1⟩
  have hpre : FrameBlind (mm_Pc D cT base ro as w) ∧ ∀ U : State, U.heap = H → s.WarmedH U.vm → mm_Pc D cT base ro as w (as.map (mm_cv (mm_ad base ro))).toArray U := ⟨mm_Pc_blind, fun U hU hW => mm_Pc_at C hp hsz hU hW⟩
  cases i with
  | invokestatic x =>
    obtain ⟨hb, hr⟩ := mm_c2' hr
    obtain rfl := Nat.eq_of_beq_eq_true hb
    obtain ⟨⟨k, y2, n⟩, hz, hr⟩ := Option.bind_eq_some_iff.mp hr
    dsimp only at hr
    split at hr
    · cases hr
      obtain ⟨i, hi, hy, hdm⟩ := mm_call_in hz
      obtain ⟨i2, hi2⟩ := mm_look_in hz
      have h16 := mm_cal16 _ hi2
      dsimp only at h16
      obtain ⟨d1, d2⟩ := mm_dm16 (a := y2) (b := n) h16
      unfold mm_call at hc
      dsimp only at hc
      rw [d1, d2] at hc
      obtain ⟨hb2, he⟩ := mm_c1 hc
      cases he
      simp only [Bool.and_eq_true] at hb2
      obtain ⟨g1, g2, g3, g4, g5, g6, g7, g8, g9, g10⟩ := mm_me_in hy
      have hdm : (Nat.beq (mm_me y).2.2.2.2.2.1 1 && decide ((parseMethodDescriptor (mm_me y).2.1.desc).map (fun d => d.parameters.length) = some n)) = true := hdm
      rw [Bool.and_eq_true] at hdm
      have hst : (mm_me y).2.2.2.2.2.1 = 1 := Nat.eq_of_beq_eq_true hdm.1
      rw [if_pos hst] at g5
      have hrun := va_runS (p := p) (l := l) (e := e) (R := R) (s := s) (m := m) (args := args) (below := below) (meth := meth) (c := c) (H := H) (locs := locs) (cells := cells) (slots := slots) (index := x) (As := (st.take n).reverse.map (mm_cv (mm_ad base ro))) (rest := (st.drop n).map (mm_cv (mm_ad base ro))) (g := F0 m pc ls (st.map (mm_cv (mm_ad base ro)))) (n := n) hfix (hM D cT base ro)
        ⟨callB_of (bytes := (mm_me y).2.2.1) (maxL := (mm_me y).2.2.2.1) (ret := (mm_me y).2.2.2.2.1) n C.2.2.2.2.1 (mm_ws_good hy) rfl rfl rfl (C.has g7 rfl) (C.has hi rfl) ⟨g9, g10, mm_nargs hdm.2⟩ ⟨by show d + 1 + 1 ≤ _; omega, by show 8 + _ + (60 * d + 100) ≤ _; omega⟩, C.has g5 rfl⟩ hpre rfl
        (by rw [List.length_map, List.length_reverse, List.length_take]; have := Nat.le_of_ble_eq_true hb2.1; omega) hl.1 (mm_rev _).symm (lv_room (by rw [mm_cat_sum]; exact Nat.le_of_ble_eq_true hb2.2)) hd hf
      exact hrun
    · cases hr; cases hc
    · cases hr; cases hc
    · cases hr; cases hc
    · cases hr; cases hc
    · cases hr; cases hc
    · cases hr
  | invokevirtual x =>
    obtain ⟨hb, hr⟩ := mm_c2' hr
    obtain rfl := Nat.eq_of_beq_eq_true hb
    obtain ⟨⟨k, y2, n⟩, hz, hr⟩ := Option.bind_eq_some_iff.mp hr
    dsimp only at hr
    split at hr
    · cases hr
      obtain ⟨i, hi, hy, hdm⟩ := mm_call_in hz
      obtain ⟨i2, hi2⟩ := mm_look_in hz
      have h16 := mm_cal16 _ hi2
      dsimp only at h16
      obtain ⟨d1, d2⟩ := mm_dm16 (a := y2) (b := n) h16
      unfold mm_call at hc
      dsimp only at hc
      rw [d1, d2] at hc
      split at hc
      · rename_i b t0 hdr
        obtain ⟨hb2, he⟩ := mm_c1 hc
        cases he
        simp only [Bool.and_eq_true] at hb2
        obtain ⟨g1, g2, g3, g4, g5, g6, g7, g8, g9, g10⟩ := mm_me_in hy
        have hdm : (Nat.beq (mm_me y).2.2.2.2.2.1 0 && !decide ((mm_me y).2.1.name = "<init>") && decide ((parseMethodDescriptor (mm_me y).2.1.desc).map (fun d => d.parameters.length) = some n)) = true := hdm
        simp only [Bool.and_eq_true, Bool.not_eq_true', decide_eq_false_iff_not] at hdm
        have hst : (mm_me y).2.2.2.2.2.1 = 0 := Nat.eq_of_beq_eq_true hdm.1.1
        rw [if_neg (by omega)] at g5
        have hsel : (Jvm.Cond.selects (mm_me y).2.1.cls (mm_me y).2.1 (mm_me y).2.1).before args s = true := by
          rcases g6 with h | h | h
          · omega
          · exact absurd h hdm.1.2
          · exact C.has h rfl
        have hkb : (mm_nth w.1 b).1 = (mm_me y).1 + 10 := Nat.eq_of_beq_eq_true hb2.2
        have hlen : n < st.length := by
          have := congrArg List.length hdr
          simp only [List.length_drop, List.length_cons] at this
          omega
        have ha := hp.at (k := b) (by omega) (by omega) (by omega)
        rw [mm_cellO hkb] at ha
        have hat := hp.1.1 _ _ ha
        obtain ⟨rr, hr1, cellB, hr2, hr3, hr4, -⟩ := hat
        have hst2 : st.map (mm_cv (mm_ad base ro)) = ((st.take n).reverse.map (mm_cv (mm_ad base ro))).reverse ++ .ref (mm_ad base ro b) :: t.map (mm_cv (mm_ad base ro)) := by
          rw [← mm_rev (n := n), hdr]
          rfl
        have hcls : s.vm.findClass (mm_me y).2.1.cls = some cellB.cls := by
          have h13 : (mm_me y).1 < 12 := by
            rcases Nat.lt_or_ge (mm_me y).1 12 with q | q
            · exact q
            · rw [List.getElem?_eq_none (by exact q)] at hr1
              cases hr1
          rw [mm_vwCl h13] at hr1
          cases hr1
          have := (C.2.2.2.2.2.2.2.1.1 _ _ (mm_vwCl h13)).2.1
          rw [g1, hr3]
          exact this
        have hrun := va_runV (p := p) (l := l) (e := e) (R := R) (s := s) (m := m) (args := args) (below := below) (meth := meth) (c := c) (H := H) (locs := locs) (cells := cells) (slots := slots) (index := x) (C := (mm_me y).2.1.cls) (b := mm_ad base ro b) (As := (st.take n).reverse.map (mm_cv (mm_ad base ro))) (rest := t.map (mm_cv (mm_ad base ro))) (g := F0 m pc ls (st.map (mm_cv (mm_ad base ro)))) (n := n) hfix (hM D cT base ro)
          ⟨callB_of (bytes := (mm_me y).2.2.1) (maxL := (mm_me y).2.2.2.1) (ret := (mm_me y).2.2.2.2.1) n C.2.2.2.2.1 (mm_ws_good hy) rfl rfl rfl (C.has g7 rfl) (C.has hi rfl) ⟨g9, g10, mm_nargs hdm.2⟩ ⟨by show d + 1 + 1 ≤ _; omega, by show 8 + _ + (60 * d + 100) ≤ _; omega⟩, C.has g5 rfl, hsel⟩ ⟨hpre.1, ⟨cellB, hr2, by rw [hr4]; rfl, hcls⟩, hpre.2⟩ rfl
          (by rw [List.length_map, List.length_reverse, List.length_take]; omega) hl.1 hst2 (lv_room (by rw [mm_cat_sum]; exact Nat.le_of_ble_eq_true hb2.1)) hd hf
        exact hrun
      · cases hc
    · cases hr
  | invokespecial x =>
    obtain ⟨hb, hr⟩ := mm_c2' hr
    obtain rfl := Nat.eq_of_beq_eq_true hb
    obtain ⟨⟨k, y2, n⟩, hz, hr⟩ := Option.bind_eq_some_iff.mp hr
    dsimp only at hr
    have key : ∀ (hk : k = 2 ∨ k = 3), j = .invokespecial (y2 * 16 + n) → va_Run p l e R s m args below meth c H locs cells slots (w1.1.length - w.1.length) (mm_sl w1.1 - mm_sl w.1) (F0 m pc ls (st.map (mm_cv (mm_ad base ro)))) (t.map (mm_cv (mm_ad base ro))) (mm_Qc D cT base ro r' w1 (as.map (mm_cv (mm_ad base ro))).toArray) (mm_A base) := by
      intro hk hjj
      subst hjj
      obtain ⟨i, hi, hy, hdm⟩ := mm_call_in hz
      obtain ⟨i2, hi2⟩ := mm_look_in hz
      have h16 := mm_cal16 _ hi2
      dsimp only at h16
      obtain ⟨d1, d2⟩ := mm_dm16 (a := y2) (b := n) h16
      unfold mm_call at hc
      dsimp only at hc
      rw [d1, d2] at hc
      split at hc
      · rename_i b t0 hdr
        obtain ⟨hb2, he⟩ := mm_c1 hc
        cases he
        obtain ⟨g1, g2, g3, g4, g5, g6, g7, g8, g9, g10⟩ := mm_me_in hy
        have hdn : (Nat.beq (mm_me y).2.2.2.2.2.1 0 && decide ((mm_me y).2.1.name = "<init>") && decide ((mm_me y).2.2.2.2.1 = none) && decide ((parseMethodDescriptor (mm_me y).2.1.desc).map (fun d => d.parameters.length) = some n)) = true := by
          rcases hk with rfl | rfl <;> exact hdm
        simp only [Bool.and_eq_true, decide_eq_true_eq] at hdn
        have hst : (mm_me y).2.2.2.2.2.1 = 0 := Nat.eq_of_beq_eq_true hdn.1.1.1
        rw [if_neg (by omega)] at g5
        have hlen : n < st.length := by
          have := congrArg List.length hdr
          simp only [List.length_drop, List.length_cons] at this
          omega
        have hst2 : st.map (mm_cv (mm_ad base ro)) = ((st.take n).reverse.map (mm_cv (mm_ad base ro))).reverse ++ .ref (mm_ad base ro b) :: t.map (mm_cv (mm_ad base ro)) := by
          rw [← mm_rev (n := n), hdr]
          rfl
        have hrt : (mm_me y).2.2.2.2.1 = none := hdn.1.2
        have hwsE : mm_ws y = Jvm.Cond.code (mm_me y).2.1 (mm_me y).2.2.1 (mm_me y).2.2.2.1 none :: mm_wds := by unfold mm_ws; rw [hrt]
        rcases hk with rfl | rfl
        · exact va_runI (p := p) (l := l) (e := e) (R := R) (s := s) (m := m) (args := args) (below := below) (meth := meth) (c := c) (H := H) (locs := locs) (cells := cells) (slots := slots) (index := x) (b := mm_ad base ro b) (As := (st.take n).reverse.map (mm_cv (mm_ad base ro))) (rest := t.map (mm_cv (mm_ad base ro))) (g := F0 m pc ls (st.map (mm_cv (mm_ad base ro)))) (n := n) hfix (hM D cT base ro)
            ⟨callB_of (bytes := (mm_me y).2.2.1) (maxL := (mm_me y).2.2.2.1) (ret := none) n C.2.2.2.2.1 (mm_ws_good hy) hwsE rfl rfl (C.has g7 rfl) (C.has hi rfl) ⟨g9, g10, mm_nargs (decide_eq_true hdn.2)⟩ ⟨by show d + 1 + 1 ≤ _; omega, by show 8 + _ + (60 * d + 100) ≤ _; omega⟩, hdn.1.1.2, C.has g5 rfl⟩ hpre rfl
            (by rw [List.length_map, List.length_reverse, List.length_take]; omega) hl.1 hst2 (lv_room (by rw [mm_cat_sum]; exact Nat.le_of_ble_eq_true hb2)) hd hf
        · exact va_runIN (p := p) (l := l) (e := e) (R := R) (s := s) (m := m) (args := args) (below := below) (meth := meth) (c := c) (H := H) (locs := locs) (cells := cells) (slots := slots) (index := x) (host := "StonesOver") (b := mm_ad base ro b) (As := (st.take n).reverse.map (mm_cv (mm_ad base ro))) (rest := t.map (mm_cv (mm_ad base ro))) (g := F0 m pc ls (st.map (mm_cv (mm_ad base ro)))) (n := n) hfix (hM D cT base ro)
            ⟨va_cnB (bytes := (mm_me y).2.2.1) (maxL := (mm_me y).2.2.2.1) (ret := none) n C.2.2.2.2.1 (mm_ws_good hy) hwsE rfl rfl (C.2.2.2.2.2.1 _ (List.mem_of_getElem? hi) rfl) (C.has g7 rfl) ⟨g9, g10, mm_nargs (decide_eq_true hdn.2)⟩ ⟨by show d + 1 + 1 ≤ _; omega, by show 8 + _ + (60 * d + 100) ≤ _; omega⟩, hdn.1.1.2, C.has g5 rfl⟩ hpre rfl
            (by rw [List.length_map, List.length_reverse, List.length_take]; omega) hl.1 hst2 (lv_room (by rw [mm_cat_sum]; exact Nat.le_of_ble_eq_true hb2)) hd hf
      · cases hc
    split at hr
    · exact key (Or.inl rfl) (Option.some.inj hr).symm
    · exact key (Or.inr rfl) (Option.some.inj hr).symm
    · cases hr; cases hc
    · cases hr
  | iconst n => obtain ⟨-, rfl⟩ := mm_c1 hr; cases hc
  | iload_n n => obtain ⟨-, rfl⟩ := mm_c1 hr; cases hc
  | iload n => obtain ⟨-, rfl⟩ := mm_c1 hr; cases hc
  | lload_n n => obtain ⟨-, rfl⟩ := mm_c1 hr; cases hc
  | lload n => obtain ⟨-, rfl⟩ := mm_c1 hr; cases hc
  | aload_n n => obtain ⟨-, rfl⟩ := mm_c1 hr; cases hc
  | aload n => obtain ⟨-, rfl⟩ := mm_c1 hr; cases hc
  | istore_n n => obtain ⟨-, rfl⟩ := mm_c1 hr; cases hc
  | istore n => obtain ⟨-, rfl⟩ := mm_c1 hr; cases hc
  | lstore_n n => obtain ⟨-, rfl⟩ := mm_c1 hr; cases hc
  | lstore n => obtain ⟨-, rfl⟩ := mm_c1 hr; cases hc
  | astore_n n => obtain ⟨-, rfl⟩ := mm_c1 hr; cases hc
  | astore n => obtain ⟨-, rfl⟩ := mm_c1 hr; cases hc
  | iinc n d => obtain ⟨-, rfl⟩ := mm_c1 hr; cases hc
  | newarray n => obtain ⟨-, rfl⟩ := mm_c1 hr; cases hc
  | ireturn => obtain ⟨-, rfl⟩ := mm_c1 hr; cases hc
  | lreturn => obtain ⟨-, rfl⟩ := mm_c1 hr; cases hc
  | areturn => obtain ⟨-, rfl⟩ := mm_c1 hr; cases hc
  | return_ => obtain ⟨-, rfl⟩ := mm_c1 hr; cases hc
  | iadd => obtain ⟨-, rfl⟩ := mm_c1 hr; cases hc
  | isub => obtain ⟨-, rfl⟩ := mm_c1 hr; cases hc
  | imul => obtain ⟨-, rfl⟩ := mm_c1 hr; cases hc
  | idiv => obtain ⟨-, rfl⟩ := mm_c1 hr; cases hc
  | irem => obtain ⟨-, rfl⟩ := mm_c1 hr; cases hc
  | ineg => obtain ⟨-, rfl⟩ := mm_c1 hr; cases hc
  | iand => obtain ⟨-, rfl⟩ := mm_c1 hr; cases hc
  | ior => obtain ⟨-, rfl⟩ := mm_c1 hr; cases hc
  | ixor => obtain ⟨-, rfl⟩ := mm_c1 hr; cases hc
  | ishl => obtain ⟨-, rfl⟩ := mm_c1 hr; cases hc
  | ishr => obtain ⟨-, rfl⟩ := mm_c1 hr; cases hc
  | iushr => obtain ⟨-, rfl⟩ := mm_c1 hr; cases hc
  | i2l => obtain ⟨-, rfl⟩ := mm_c1 hr; cases hc
  | l2i => obtain ⟨-, rfl⟩ := mm_c1 hr; cases hc
  | i2b => obtain ⟨-, rfl⟩ := mm_c1 hr; cases hc
  | i2s => obtain ⟨-, rfl⟩ := mm_c1 hr; cases hc
  | ladd => obtain ⟨-, rfl⟩ := mm_c1 hr; cases hc
  | lsub => obtain ⟨-, rfl⟩ := mm_c1 hr; cases hc
  | lmul => obtain ⟨-, rfl⟩ := mm_c1 hr; cases hc
  | ldiv => obtain ⟨-, rfl⟩ := mm_c1 hr; cases hc
  | lrem => obtain ⟨-, rfl⟩ := mm_c1 hr; cases hc
  | land => obtain ⟨-, rfl⟩ := mm_c1 hr; cases hc
  | lor => obtain ⟨-, rfl⟩ := mm_c1 hr; cases hc
  | lshl => obtain ⟨-, rfl⟩ := mm_c1 hr; cases hc
  | lcmp => obtain ⟨-, rfl⟩ := mm_c1 hr; cases hc
  | dup => obtain ⟨-, rfl⟩ := mm_c1 hr; cases hc
  | dup2 => obtain ⟨-, rfl⟩ := mm_c1 hr; cases hc
  | pop => obtain ⟨-, rfl⟩ := mm_c1 hr; cases hc
  | aconst_null => obtain ⟨-, rfl⟩ := mm_c1 hr; cases hc
  | arraylength => obtain ⟨-, rfl⟩ := mm_c1 hr; cases hc
  | iaload => obtain ⟨-, rfl⟩ := mm_c1 hr; cases hc
  | iastore => obtain ⟨-, rfl⟩ := mm_c1 hr; cases hc
  | laload => obtain ⟨-, rfl⟩ := mm_c1 hr; cases hc
  | lastore => obtain ⟨-, rfl⟩ := mm_c1 hr; cases hc
  | aaload => obtain ⟨-, rfl⟩ := mm_c1 hr; cases hc
  | aastore => obtain ⟨-, rfl⟩ := mm_c1 hr; cases hc
  | goto d => obtain ⟨-, rfl⟩ := mm_c1 hr; cases hc
  | ifCond k d => obtain ⟨-, rfl⟩ := mm_c1 hr; cases hc
  | if_icmp k d => obtain ⟨-, rfl⟩ := mm_c1 hr; cases hc
  | ifnull d => obtain ⟨-, rfl⟩ := mm_c1 hr; cases hc
  | ifnonnull d => obtain ⟨-, rfl⟩ := mm_c1 hr; cases hc
  | tableswitch a b c d => cases hr; cases hc
  | lookupswitch a b => cases hr; cases hc
  | bipush n => obtain ⟨-, hr⟩ := mm_c2' hr; obtain ⟨-, rfl⟩ := mm_c1 hr; cases hc
  | sipush n => obtain ⟨-, hr⟩ := mm_c2' hr; obtain ⟨-, rfl⟩ := mm_c1 hr; cases hc
  | lconst n => obtain ⟨-, hr⟩ := mm_c2' hr; obtain ⟨-, rfl⟩ := mm_c1 hr; cases hc
  | ldc n => obtain ⟨-, hr⟩ := mm_c2' hr; obtain ⟨q, -, rfl⟩ := Option.map_eq_some_iff.mp hr; cases hc
  | ldc_w n => obtain ⟨-, hr⟩ := mm_c2' hr; obtain ⟨q, -, rfl⟩ := Option.map_eq_some_iff.mp hr; cases hc
  | ldc2_w n => obtain ⟨-, hr⟩ := mm_c2' hr; obtain ⟨q, -, rfl⟩ := Option.map_eq_some_iff.mp hr; cases hc
  | getfield n => obtain ⟨-, hr⟩ := mm_c2' hr; obtain ⟨q, -, rfl⟩ := Option.map_eq_some_iff.mp hr; cases hc
  | getstatic n => obtain ⟨-, hr⟩ := mm_c2' hr; obtain ⟨q, -, rfl⟩ := Option.map_eq_some_iff.mp hr; cases hc
  | new n => obtain ⟨-, hr⟩ := mm_c2' hr; obtain ⟨q, -, rfl⟩ := Option.map_eq_some_iff.mp hr; cases hc
  | putfield n => obtain ⟨-, hr⟩ := mm_c2' hr; obtain ⟨q, -, hr⟩ := Option.bind_eq_some_iff.mp hr; obtain ⟨-, rfl⟩ := mm_c1 hr; cases hc
  | anewarray n => obtain ⟨-, hr⟩ := mm_c2' hr; obtain ⟨q, -, hr⟩ := Option.bind_eq_some_iff.mp hr; obtain ⟨-, rfl⟩ := mm_c1 hr; cases hc
  | _ => cases hr
/-- every run of the pure machine from this point is the machine's -/
theorem mm_ex_ok {Cl : mm_Cl} {d : Nat} {rt : Option FieldType} {r : Option Value} {w1 : mm_W} (C : mm_Cx p R s m args meth c o ini cc nL D cT base ro) (hR : d + 2 ≤ R.frames ∧ 60 * d + 160 ≤ R.locals) (hle : ∀ y as w r w1, Cl y as w r w1 → mm_le w w1) (hCl : ∀ y as w r w1, Cl y as w r w1 → mm_met l d y as w r w1) (hroom : w1.1.length ≤ w0.1.length + R.cells ∧ mm_sl w1.1 ≤ mm_sl w0.1 + R.slots)
    (hret : ∀ (pc : Nat) (j : Instr) (st : List Value) (H : Heap) (locs : List Loc) (cells slots : Nat) (ls : Array Slot), mm_Pt D cT base ro s w0 H locs cells slots w1 → decode cc pc = .ok (j, 1) → (j = .ireturn ∨ j = .lreturn ∨ j = .areturn ∨ j = .return_) → mm_ret j rt st r → W p l e R s m args below meth c H locs cells slots Q (F0 m pc ls (st.map (mm_cv (mm_ad base ro))))) :
    ∀ (n pc : Nat) (L : mm_L) (st : List Value) (w : mm_W), mm_Ex Cl o ini cc rt n pc L st w r w1 → mm_KK p l e R s m args below meth c Q nL D cT base ro w0 pc L st w
  | 0, _, _, _, _, h => h.elim
  | n + 1, pc, L, st, w, h => by
    intro H locs cells slots ls hl hp
    obtain ⟨i, len, j, hd, hr, h⟩ := h
    rcases h with ⟨P, L', st', w', hj, hP, h⟩ | ⟨pc', st', hb, h⟩ | ⟨hrt, rfl⟩ | ⟨y, as, t, r', w', hc, hcl, h⟩
    · have h1 := mm_ex_le hle n _ _ _ _ h
      have ha := h1.1
      have hb := h1.2
      exact mm_seq_ok C hl hp ⟨by omega, by omega⟩ hj hP (mm_ex_ok C hR hle hCl hroom hret n _ _ _ _ h) hd hr
    · exact mm_br_ok C hl hp hb (mm_ex_ok C hR hle hCl hroom hret n _ _ _ _ h) hd hr
    · obtain ⟨h1, rfl, rfl⟩ := mm_ret_of hr hrt
      exact hret pc _ st H locs cells slots ls hp hd h1 hrt
    · have h1 := mm_ex_le hle n _ _ _ _ h
      have ha := h1.1
      have hb := h1.2
      exact mm_call_ok C hR hl hp (hle _ _ _ _ _ hcl) ⟨by omega, by omega⟩ hd hr hc (hCl _ _ _ _ _ hcl) (mm_ex_ok C hR hle hCl hroom hret n _ _ _ _ h)
/-! how a method begins -/
theorem mm_get_rep : ∀ (n j : Nat) (v : Value), mm_get (List.replicate n none) j ≠ some v
  | 0, _, _, h => by cases h
  | n + 1, 0, _, h => by cases h
  | n + 1, j + 1, v, h => mm_get_rep n j v h
theorem mm_ini_get (ad : Nat → Nat) : ∀ (as : List Value) (n i j : Nat) (v : Value), mm_get (mm_ini n as) j = some v → (i + j, mm_cv ad v) ∈ lv_args i (as.map (mm_cv ad))
  | [], n, i, j, v, h => absurd h (mm_get_rep n j v)
  | x :: t, n, i, j, v, h => by
    rw [List.map_cons]
    unfold lv_args
    rw [mm_cv_cat]
    unfold mm_ini at h
    cases hb : Nat.beq x.category 2 with
    | true =>
      rw [hb] at h
      rw [if_pos (Nat.eq_of_beq_eq_true hb)]
      match j, h with
      | 0, h => cases h; exact List.mem_cons_self
      | 1, h => cases h
      | j + 2, h =>
        have := mm_ini_get ad t (n - 2) (i + 2) j v h
        rw [show i + 2 + j = i + (j + 2) by omega] at this
        exact List.mem_cons_of_mem _ this
    | false =>
      rw [hb] at h
      rw [if_neg (fun z => by rw [z] at hb; cases hb)]
      match j, h with
      | 0, h => cases h; exact List.mem_cons_self
      | j + 1, h =>
        have := mm_ini_get ad t (n - 1) (i + 1) j v h
        rw [show i + 1 + j = i + (j + 1) by omega] at this
        exact List.mem_cons_of_mem _ this
theorem mm_ini_len (ad : Nat → Nat) : ∀ (as : List Value) (n : Nat), (lg_sl (as.map (mm_cv ad))).length ≤ (mm_ini n as).length
  | [], n => Nat.zero_le _
  | x :: t, n => by
    unfold mm_ini
    rw [List.map_cons]
    unfold lg_sl
    rw [List.flatMap_cons, mm_cv_cat]
    have h1 := mm_ini_len ad t (n - 1)
    have h2 := mm_ini_len ad t (n - 2)
    unfold lg_sl at h1 h2
    cases hb : Nat.beq x.category 2 with
    | true =>
      rw [if_pos (Nat.eq_of_beq_eq_true hb)]
      simp only [cond_true, List.length_append, List.length_cons, List.length_nil]
      omega
    | false =>
      rw [if_neg (fun z => by rw [z] at hb; cases hb)]
      simp only [cond_false, List.length_append, List.length_cons, List.length_nil]
      omega
theorem mm_entry {as : List Value} (h : (mm_ini nL as).length = nL) : mm_LH (mm_ad base ro) ((lg_sl (as.map (mm_cv (mm_ad base ro))) ++ List.replicate (nL - (lg_sl (as.map (mm_cv (mm_ad base ro)))).length) Slot.unset).toArray) nL (mm_ini nL as) := by
  have hlv := lv_entry (as.map (mm_cv (mm_ad base ro))) (n := nL) (by have := mm_ini_len (mm_ad base ro) as nL; omega)
  refine ⟨hlv.1, h, hlv.2.1, fun j v hv => ?_⟩
  have := mm_ini_get (mm_ad base ro) as nL 0 j v hv
  rw [Nat.zero_add] at this
  exact hlv.2.2 _ this
/-- THE PURE MACHINE IS SOUND -/
theorem mm_sound (l : Launch) : ∀ (d y : Nat) (as : List Value) (w : mm_W) (r : Option Value) (w1 : mm_W), mm_Runs d y as w r w1 → mm_met l d y as w r w1
  | 0, _, _, _, _, _, h => h.elim
  | d + 1, y, as, w, r, w1, h => by
    obtain ⟨hini, hy, n, hex⟩ := h
    have hle0 := mm_ex_le (mm_runs_le d) n _ _ _ _ hex
    intro D cT base ro
    obtain ⟨g1, g2, g3, g4, g5, g6, g7, g8, g9, g10⟩ := mm_me_in hy
    refine Met.ofW (cc := (mm_me y).2.2.1) (maxL := (mm_me y).2.2.2.1) (ret := (mm_me y).2.2.2.2.1) g8 rfl ?_
    intro p e s m args below meth c s₁ B hml hv
    obtain ⟨rfl, hH, hK, hsts, hAO, hnn, hsz⟩ := hv
    have hts := atoms_spec (ws := mm_ws y) B.pre
    have hlocks := B.notSynchronized
    have hx := B.exec
    have hb := B.bytes
    have hrt := B.returns
    have hle1 := hle0.1
    have hle2 := hle0.2
    have h7 := hH.2.1
    have C : mm_Cx p (mm_rm (d + 1) (w1.1.length - w.1.length) (mm_sl w1.1 - mm_sl w.1)) s m (as.map (mm_cv (mm_ad base ro))).toArray meth c (mm_me y).1 (decide ((mm_me y).2.1.name = "<init>")) (mm_me y).2.2.1 (mm_me y).2.2.2.1 D cT base ro :=
      ⟨hx, hb, hml, by rw [← g1]; exact findClass_of_methodNamed B.named, fun w hw => hts w (List.mem_cons_of_mem _ hw), hnn, fun hi => (name_of_methodNamed B.named B.method).1.trans (of_decide_eq_true hi), hK, hsts, hAO, Nat.le_add_left 1 _, by show 100 ≤ 60 * (d + 1) + 100; omega⟩
    have hp : mm_Pt D cT base ro s w s.heap [] 0 0 w := ⟨hH, va_S.rf, rfl, rfl, hsz, h7⟩
    rw [lg_entry_eq]
    refine mm_ex_ok (d := d) C ⟨Nat.le_refl _, by show 60 * d + 160 ≤ 60 * (d + 1) + 100; omega⟩ (mm_runs_le d) (mm_sound l d) ⟨by show _ ≤ _ + (w1.1.length - w.1.length); omega, by show _ ≤ _ + (mm_sl w1.1 - mm_sl w.1); omega⟩ ?_ n 0 _ [] w hex _ _ _ _ _ (mm_entry hini) hp
    intro pc j st H locs cells slots ls hp1 hd hj hret
    have e1 := hp1.2.2.1
    have e2 := hp1.2.2.2.1
    obtain rfl : cells = w1.1.length - w.1.length := by omega
    obtain rfl : slots = mm_sl w1.1 - mm_sl w.1 := by omega
    have hq : ∀ (oc : Outcome), oc = .returned (r.map (mm_cv (mm_ad base ro))) → ∀ t : State, t.heap = H → s.WarmedH t.vm → mm_Qc D cT base ro r w1 (as.map (mm_cv (mm_ad base ro))).toArray s oc t := by
      intro oc ho t ht hW
      refine ⟨ho, hp1.1.to (by rw [ht]; exact hp1.1.1) hW.alike (fun a _ ha => by rw [ht]; exact hp1.same ha), hp1.2.1.F ht⟩
    unfold mm_ret at hret
    split at hret
    · rename_i hrt2
      subst hret
      exact W.iret hx hb (hrt.trans hrt2) (hq _ rfl) hp1.2.1.2.2 hd
    · rename_i x hrt2
      obtain ⟨hz, rfl⟩ := hret
      exact W.zret (ty := .boolean) hx hb (hrt.trans hrt2) (by rcases hz with rfl | rfl <;> rfl) (hq _ rfl) hp1.2.1.2.2 hd
    · rename_i hrt2
      subst hret
      exact W.lret hx hb (hrt.trans hrt2) (hq _ rfl) hp1.2.1.2.2 hd
    · rename_i hrt2
      subst hret
      exact W.aret hx hb (hrt.trans hrt2) (Or.inl ⟨_, rfl⟩) (Or.inr ⟨_, rfl⟩) (hq _ rfl) hp1.2.1.2.2 hd
    · rename_i hrt2
      subst hret
      exact W.aret hx hb (hrt.trans hrt2) (Or.inl ⟨_, rfl⟩) (Or.inl rfl) (hq _ rfl) hp1.2.1.2.2 hd
    · rename_i hrt2
      subst hret
      exact W.vret hx hb (hrt.trans hrt2) (hq _ rfl) hp1.2.1.2.2 hd
    · exact hret.elim

end MMX
