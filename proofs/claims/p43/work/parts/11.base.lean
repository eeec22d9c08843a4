/-! runs of the pure machine, block by block -/
def mm_lsb : mm_L → mm_L → Prop
  | [], [] => True
  | none :: a, _ :: b => mm_lsb a b
  | some v :: a, x :: b => x = some v ∧ mm_lsb a b
  | _, _ => False
theorem mm_lsb_get : ∀ {a b : mm_L}, mm_lsb a b → ∀ {j : Nat} {v : Value}, mm_get a j = some v → mm_get b j = some v
  | [], [], _, _, _, h => by cases h
  | none :: a, x :: b, h, 0, v, hv => by cases hv
  | none :: a, x :: b, h, j + 1, v, hv => mm_lsb_get (a := a) (b := b) h (j := j) hv
  | some u :: a, x :: b, h, 0, v, hv => by
    obtain ⟨rfl, -⟩ := h
    exact hv
  | some u :: a, x :: b, h, j + 1, v, hv => mm_lsb_get (a := a) (b := b) h.2 (j := j) hv
theorem mm_lsb_len : ∀ {a b : mm_L}, mm_lsb a b → a.length = b.length
  | [], [], _ => rfl
  | none :: a, x :: b, h => congrArg (· + 1) (mm_lsb_len (a := a) (b := b) h)
  | some u :: a, x :: b, h => congrArg (· + 1) (mm_lsb_len (a := a) (b := b) h.2)
theorem mm_lsb_of : ∀ {a b : mm_L}, a.length = b.length → (∀ j v, mm_get a j = some v → mm_get b j = some v) → mm_lsb a b
  | [], [], _, _ => trivial
  | [], _ :: _, h, _ => by cases h
  | _ :: _, [], h, _ => by cases h
  | none :: a, x :: b, h, k => mm_lsb_of (a := a) (b := b) (Nat.succ.inj h) (fun j v hv => k (j + 1) v hv)
  | some u :: a, x :: b, h, k => ⟨k 0 u rfl, mm_lsb_of (a := a) (b := b) (Nat.succ.inj h) (fun j v hv => k (j + 1) v hv)⟩
theorem mm_get_set_self : ∀ {L : mm_L} {i : Nat} {x : Option Value}, i < L.length → mm_get (L.set i x) i = x
  | [], _, _, h => by cases h
  | _ :: _, 0, _, _ => rfl
  | _ :: l, n + 1, x, h => mm_get_set_self (L := l) (i := n) (x := x) (Nat.lt_of_succ_lt_succ h)
theorem mm_get_set_ne : ∀ {L : mm_L} {i j : Nat} {x : Option Value}, j ≠ i → mm_get (L.set i x) j = mm_get L j
  | [], _, _, _, _ => rfl
  | _ :: _, 0, 0, _, h => absurd rfl h
  | _ :: _, 0, _ + 1, _, _ => rfl
  | _ :: _, _ + 1, 0, _, _ => rfl
  | _ :: l, n + 1, j + 1, x, h => mm_get_set_ne (L := l) (i := n) (j := j) (x := x) (fun z => h (congrArg (· + 1) z))
theorem mm_clr_get2 {L : mm_L} {i j : Nat} {v : Value} (h : mm_get L j = some v) (hn : ¬ (j + 1 = i ∧ v.category = 2)) : mm_get (mm_clr L i) j = some v := by
  unfold mm_clr
  cases i with
  | zero => exact h
  | succ n =>
    dsimp only
    split
    · rename_i u hu
      cases hc : Nat.beq u.category 2 with
      | false => exact h
      | true =>
        by_cases hj : j = n
        · subst hj
          rw [hu] at h
          cases h
          exact absurd ⟨rfl, Nat.eq_of_beq_eq_true hc⟩ hn
        · show mm_get (L.set n none) j = some v
          rw [mm_get_set_ne hj]
          exact h
    · exact h
theorem mm_set1_mono {L M L1 : mm_L} {i : Nat} {v : Value} (hM : mm_lsb L M) (h : mm_set1 L i v = some L1) : ∃ M1, mm_set1 M i v = some M1 ∧ mm_lsb L1 M1 := by
  unfold mm_set1 at h ⊢
  have hl := mm_lsb_len hM
  obtain ⟨hb, rfl⟩ := mm_c1 h
  rw [hl] at hb
  have hi := Nat.le_of_ble_eq_true hb
  refine ⟨_, by rw [hb]; rfl, mm_lsb_of (by simp [mm_clr_len, hl]) (fun j u hu => ?_)⟩
  rcases mm_get_set hu with ⟨rfl, q⟩ | ⟨e, q⟩
  · rw [mm_get_set_self (by rw [mm_clr_len]; exact hi)]
    exact q
  · rw [mm_get_set_ne e]
    obtain ⟨q1, q2⟩ := mm_clr_get q
    exact mm_clr_get2 (mm_lsb_get hM q1) q2
theorem mm_set2_mono {L M L1 : mm_L} {i : Nat} {v : Value} (hM : mm_lsb L M) (h : mm_set2 L i v = some L1) : ∃ M1, mm_set2 M i v = some M1 ∧ mm_lsb L1 M1 := by
  unfold mm_set2 at h ⊢
  have hl := mm_lsb_len hM
  obtain ⟨hb, rfl⟩ := mm_c1 h
  rw [hl] at hb
  have hi : i + 1 < M.length := Nat.le_of_ble_eq_true hb
  refine ⟨_, by rw [hb]; rfl, mm_lsb_of (by simp [mm_clr_len, hl]) (fun j u hu => ?_)⟩
  rcases mm_get_set hu with ⟨-, q⟩ | ⟨e0, q0⟩
  · cases q
  rw [mm_get_set_ne e0]
  rcases mm_get_set q0 with ⟨rfl, q⟩ | ⟨e, q⟩
  · rw [mm_get_set_self (by rw [mm_clr_len]; omega)]
    exact q
  · rw [mm_get_set_ne e]
    obtain ⟨q1, q2⟩ := mm_clr_get q
    exact mm_clr_get2 (mm_lsb_get hM q1) q2
section MMB
variable {Cl : mm_Cl} {o : Nat} {ini : Bool} {cc : ByteArray} {rt : Option FieldType} {pc : Nat} {lo lo' M : mm_L} {st st' : List Value} {w w' w1 : mm_W} {r : Option Value} {P : Prop} {j : Instr}
theorem mm_seq_mono (hM : mm_lsb lo M) (hj : mm_seq j lo st w = some (P, lo', st', w')) : ∃ M', mm_seq j M st w = some (P, M', st', w') ∧ mm_lsb lo' M' := by
  cases j with
  | iadd => obtain ⟨y, x, t, rfl, he⟩ := mm_ii_inv hj; cases he; exact ⟨M, rfl, hM⟩
  | isub => obtain ⟨y, x, t, rfl, he⟩ := mm_ii_inv hj; cases he; exact ⟨M, rfl, hM⟩
  | imul => obtain ⟨y, x, t, rfl, he⟩ := mm_ii_inv hj; cases he; exact ⟨M, rfl, hM⟩
  | iand => obtain ⟨y, x, t, rfl, he⟩ := mm_ii_inv hj; cases he; exact ⟨M, rfl, hM⟩
  | ior => obtain ⟨y, x, t, rfl, he⟩ := mm_ii_inv hj; cases he; exact ⟨M, rfl, hM⟩
  | ixor => obtain ⟨y, x, t, rfl, he⟩ := mm_ii_inv hj; cases he; exact ⟨M, rfl, hM⟩
  | ishl => obtain ⟨y, x, t, rfl, he⟩ := mm_ii_inv hj; cases he; exact ⟨M, rfl, hM⟩
  | ishr => obtain ⟨y, x, t, rfl, he⟩ := mm_ii_inv hj; cases he; exact ⟨M, rfl, hM⟩
  | iushr => obtain ⟨y, x, t, rfl, he⟩ := mm_ii_inv hj; cases he; exact ⟨M, rfl, hM⟩
  | idiv => obtain ⟨y, x, t, rfl, he⟩ := mm_in_inv hj; cases he; exact ⟨M, rfl, hM⟩
  | irem => obtain ⟨y, x, t, rfl, he⟩ := mm_in_inv hj; cases he; exact ⟨M, rfl, hM⟩
  | ladd => obtain ⟨y, x, t, rfl, he⟩ := mm_jj_inv hj; cases he; exact ⟨M, rfl, hM⟩
  | lsub => obtain ⟨y, x, t, rfl, he⟩ := mm_jj_inv hj; cases he; exact ⟨M, rfl, hM⟩
  | lmul => obtain ⟨y, x, t, rfl, he⟩ := mm_jj_inv hj; cases he; exact ⟨M, rfl, hM⟩
  | land => obtain ⟨y, x, t, rfl, he⟩ := mm_jj_inv hj; cases he; exact ⟨M, rfl, hM⟩
  | lor => obtain ⟨y, x, t, rfl, he⟩ := mm_jj_inv hj; cases he; exact ⟨M, rfl, hM⟩
  | ldiv => obtain ⟨y, x, t, rfl, he⟩ := mm_jn_inv hj; cases he; exact ⟨M, rfl, hM⟩
  | lrem => obtain ⟨y, x, t, rfl, he⟩ := mm_jn_inv hj; cases he; exact ⟨M, rfl, hM⟩
  | lshl => obtain ⟨y, x, t, rfl, he⟩ := mm_ij_inv hj; cases he; exact ⟨M, rfl, hM⟩
  | lcmp => obtain ⟨y, x, t, rfl, he⟩ := mm_ji_inv hj; cases he; exact ⟨M, rfl, hM⟩
  | ineg => obtain ⟨x, t, rfl, he⟩ := mm_i1_inv hj; cases he; exact ⟨M, rfl, hM⟩
  | i2l => obtain ⟨x, t, rfl, he⟩ := mm_i1_inv hj; cases he; exact ⟨M, rfl, hM⟩
  | i2b => obtain ⟨x, t, rfl, he⟩ := mm_i1_inv hj; cases he; exact ⟨M, rfl, hM⟩
  | i2s => obtain ⟨x, t, rfl, he⟩ := mm_i1_inv hj; cases he; exact ⟨M, rfl, hM⟩
  | l2i => obtain ⟨x, t, rfl, he⟩ := mm_j1_inv hj; cases he; exact ⟨M, rfl, hM⟩
  | iconst n => cases hj; exact ⟨M, rfl, hM⟩
  | goto_w n => cases hj; exact ⟨M, rfl, hM⟩
  | aconst_null => cases hj; exact ⟨M, rfl, hM⟩
  | new n => cases hj; exact ⟨M, rfl, hM⟩
  | iload n =>
    obtain ⟨x, hx, he⟩ := mm_ldi_inv hj
    cases he
    refine ⟨M, ?_, hM⟩
    show mm_ldi n M st w = _
    unfold mm_ldi
    rw [mm_lsb_get hM hx]
  | lload n =>
    obtain ⟨x, hx, he⟩ := mm_ldl_inv hj
    cases he
    refine ⟨M, ?_, hM⟩
    show mm_ldl n M st w = _
    unfold mm_ldl
    rw [mm_lsb_get hM hx]
  | aload n =>
    rcases mm_lda_inv hj with ⟨x, hx, he⟩ | ⟨hx, he⟩
    · cases he
      refine ⟨M, ?_, hM⟩
      show mm_lda n M st w = _
      unfold mm_lda
      rw [mm_lsb_get hM hx]
    · cases he
      refine ⟨M, ?_, hM⟩
      show mm_lda n M st w = _
      unfold mm_lda
      rw [mm_lsb_get hM hx]
  | istore n =>
    obtain ⟨x, t, L1, rfl, hs, he⟩ := mm_sti_inv hj
    cases he
    obtain ⟨M1, h1, h2⟩ := mm_set1_mono hM hs
    refine ⟨M1, ?_, h2⟩
    show (mm_set1 M n _).map _ = _
    rw [h1]
    rfl
  | lstore n =>
    obtain ⟨x, t, L1, rfl, hs, he⟩ := mm_stl_inv hj
    cases he
    obtain ⟨M1, h1, h2⟩ := mm_set2_mono hM hs
    refine ⟨M1, ?_, h2⟩
    show (mm_set2 M n _).map _ = _
    rw [h1]
    rfl
  | astore n =>
    rcases mm_sta_inv hj with ⟨x, t, L1, rfl, hs, he⟩ | ⟨t, L1, rfl, hs, he⟩
    · cases he
      obtain ⟨M1, h1, h2⟩ := mm_set1_mono hM hs
      refine ⟨M1, ?_, h2⟩
      show (mm_set1 M n _).map _ = _
      rw [h1]
      rfl
    · cases he
      obtain ⟨M1, h1, h2⟩ := mm_set1_mono hM hs
      refine ⟨M1, ?_, h2⟩
      show (mm_set1 M n _).map _ = _
      rw [h1]
      rfl
  | iinc n d =>
    obtain ⟨x, L1, hx, hs, he⟩ := mm_inc_inv hj
    cases he
    obtain ⟨M1, h1, h2⟩ := mm_set1_mono hM hs
    refine ⟨M1, ?_, h2⟩
    show mm_inc n d M st w = _
    unfold mm_inc
    rw [mm_lsb_get hM hx]
    show (mm_set1 M n _).map _ = _
    rw [h1]
    rfl
  | dup =>
    replace hj : mm_dup lo st w = some (P, lo', st', w') := hj
    unfold mm_dup at hj
    split at hj
    · obtain ⟨hb, he⟩ := mm_cond_inv hj
      cases he
      refine ⟨M, ?_, hM⟩
      show mm_cond _ _ = _
      rw [hb]
      rfl
    · cases hj
  | dup2 =>
    replace hj : mm_dup2 lo st w = some (P, lo', st', w') := hj
    unfold mm_dup2 at hj
    split at hj
    · obtain ⟨hb, he⟩ := mm_cond_inv hj
      cases he
      refine ⟨M, ?_, hM⟩
      show mm_cond _ _ = _
      rw [hb]
      rfl
    · cases hj
  | pop =>
    replace hj : mm_pop lo st w = some (P, lo', st', w') := hj
    unfold mm_pop at hj
    split at hj
    · obtain ⟨hb, he⟩ := mm_cond_inv hj
      cases he
      refine ⟨M, ?_, hM⟩
      show mm_cond _ _ = _
      rw [hb]
      rfl
    · cases hj
  | arraylength =>
    replace hj : mm_len lo st w = some (P, lo', st', w') := hj
    unfold mm_len at hj
    split at hj
    · obtain ⟨hb, he⟩ := mm_cond_inv hj
      cases he
      refine ⟨M, ?_, hM⟩
      show mm_cond _ _ = _
      rw [hb]
      rfl
    · cases hj
  | getstatic n =>
    obtain ⟨hb, he⟩ := mm_cond_inv hj
    cases he
    refine ⟨M, ?_, hM⟩
    show mm_cond _ _ = _
    rw [hb]
    rfl
  | lastore =>
    replace hj : mm_jst lo st w = some (P, lo', st', w') := hj
    unfold mm_jst at hj
    split at hj
    · obtain ⟨hb, he⟩ := mm_cond_inv hj
      cases he
      refine ⟨M, ?_, hM⟩
      show mm_cond _ _ = _
      rw [hb]
      rfl
    · cases hj
  | aastore =>
    replace hj : mm_rst lo st w = some (P, lo', st', w') := hj
    unfold mm_rst at hj
    split at hj
    · obtain ⟨hb, he⟩ := mm_cond_inv hj
      cases he
      refine ⟨M, ?_, hM⟩
      show mm_cond _ _ = _
      rw [hb]
      rfl
    · cases hj
  | getfield n =>
    replace hj : mm_gf n lo st w = some (P, lo', st', w') := hj
    unfold mm_gf at hj
    split at hj
    · obtain ⟨hb, he⟩ := mm_cond_inv hj
      cases he
      refine ⟨M, ?_, hM⟩
      show mm_cond _ _ = _
      rw [hb]
      rfl
    · cases hj
  | monitorenter =>
    replace hj : mm_oi lo st w = some (P, lo', st', w') := hj
    unfold mm_oi at hj
    split at hj
    · obtain ⟨hb, he⟩ := mm_cond_inv hj
      cases he
      refine ⟨M, ?_, hM⟩
      show mm_cond _ _ = _
      rw [hb]
      rfl
    · cases hj
  | iaload =>
    obtain ⟨i, k, t, rfl, hb, he⟩ := mm_ald_inv (ok := fun k => Nat.beq k 0 || Nat.beq k 4) (f := fun w k i => .int (w.2.1 k i)) hj
    cases he
    refine ⟨M, ?_, hM⟩
    show mm_cond _ _ = _
    dsimp only
    rw [hb]
    rfl
  | baload =>
    obtain ⟨i, k, t, rfl, hb, he⟩ := mm_ald_inv (ok := fun k => Nat.beq k 1) (f := fun w k i => .int (w.2.1 k i)) hj
    cases he
    refine ⟨M, ?_, hM⟩
    show mm_cond _ _ = _
    dsimp only
    rw [hb]
    rfl
  | laload =>
    obtain ⟨i, k, t, rfl, hb, he⟩ := mm_ald_inv (ok := fun k => Nat.beq k 2 || Nat.beq k 5) (f := fun w k i => .long (w.2.2.1 k i)) hj
    cases he
    refine ⟨M, ?_, hM⟩
    show mm_cond _ _ = _
    dsimp only
    rw [hb]
    rfl
  | aaload =>
    obtain ⟨i, k, t, rfl, hb, he⟩ := mm_ald_inv (ok := fun k => Nat.beq k 3) (f := fun w k i => va_rf (w.2.2.2 k i)) hj
    cases he
    refine ⟨M, ?_, hM⟩
    show mm_cond _ _ = _
    dsimp only
    rw [hb]
    rfl
  | iastore =>
    obtain ⟨x, i, k, t, rfl, hk, he⟩ := mm_ist_inv (kd := 0) (f := fun x => x) hj
    cases he
    refine ⟨M, ?_, hM⟩
    show mm_cond _ _ = _
    rw [hk]
    rfl
  | bastore =>
    obtain ⟨x, i, k, t, rfl, hk, he⟩ := mm_ist_inv (kd := 1) (f := vp_nar .boolean) hj
    cases he
    refine ⟨M, ?_, hM⟩
    show mm_cond _ _ = _
    rw [hk]
    rfl
  | putfield n =>
    replace hj : mm_pf n lo st w = some (P, lo', st', w') := hj
    unfold mm_pf at hj
    split at hj
    · rename_i v k t
      obtain ⟨hb, he⟩ := mm_cond_inv hj
      have key : lo' = lo ∧ ∀ N : mm_L, mm_pv (mm_ty (n / 64) (n % 64)) k (n % 64) v N t w = some (P, N, st', w') := by
        generalize mm_ty (n / 64) (n % 64) = ty at he ⊢
        unfold mm_pv at he ⊢
        split at he <;> cases he <;> exact ⟨rfl, fun N => rfl⟩
      obtain ⟨rfl, k2⟩ := key
      refine ⟨M, ?_, hM⟩
      show mm_cond _ _ = _
      rw [hb]
      exact k2 M
    · cases hj
  | newarray t =>
    replace hj : mm_nat t lo st w = some (P, lo', st', w') := hj
    unfold mm_nat at hj
    split at hj
    · obtain ⟨n, t, rfl, he⟩ := mm_na_inv hj; cases he; exact ⟨M, rfl, hM⟩
    · obtain ⟨n, t, rfl, he⟩ := mm_na_inv hj; cases he; exact ⟨M, rfl, hM⟩
    · cases hj
  | anewarray t => obtain ⟨n, t, rfl, he⟩ := mm_na_inv (kd := 3) hj; cases he; exact ⟨M, rfl, hM⟩
  | ldc k =>
    replace hj : mm_ma k lo st w = some (P, lo', st', w') := hj
    unfold mm_ma at hj
    split at hj
    · obtain ⟨hb, he⟩ := mm_cond_inv hj; cases he; refine ⟨M, ?_, hM⟩; show mm_cond _ _ = _; rw [hb]; rfl
    · obtain ⟨hb, he⟩ := mm_cond_inv hj; cases he; refine ⟨M, ?_, hM⟩; show mm_cond _ _ = _; rw [hb]; rfl
    · obtain ⟨hb, he⟩ := mm_cond_inv hj; cases he; refine ⟨M, ?_, hM⟩; show mm_cond _ _ = _; rw [hb]; rfl
    · obtain ⟨hb, he⟩ := mm_cond_inv hj; cases he; refine ⟨M, ?_, hM⟩; show mm_cond _ _ = _; rw [hb]; rfl
    · cases hj
  | monitorexit =>
    replace hj : mm_ac lo st w = some (P, lo', st', w') := hj
    unfold mm_ac at hj
    split at hj
    · rename_i n dp b sp a t
      obtain ⟨hb, he⟩ := mm_cond_inv hj
      cases hq : (Nat.beq (mm_nth w.1 a).1 0 && Nat.beq (mm_nth w.1 b).1 0) with
      | true =>
        rw [hq] at he
        cases he
        refine ⟨M, ?_, hM⟩
        show mm_cond _ _ = _
        rw [hb, hq]
        rfl
      | false =>
        rw [hq] at he
        obtain ⟨hb2, he⟩ := mm_cond_inv he
        cases he
        refine ⟨M, ?_, hM⟩
        show mm_cond _ _ = _
        rw [hb, hq]
        show mm_cond _ _ = _
        rw [hb2]
        rfl
    · cases hj
  | _ => cases hj
theorem mm_ex_mono : ∀ (n pc : Nat) (L M : mm_L) (st : List Value) (w : mm_W), mm_lsb L M → mm_Ex Cl o ini cc rt n pc L st w r w1 → mm_Ex Cl o ini cc rt n pc M st w r w1
  | 0, _, _, _, _, _, _, h => h.elim
  | n + 1, pc, L, M, st, w, hM, h => by
    obtain ⟨i, len, j, hd, hr, h⟩ := h
    refine ⟨i, len, j, hd, hr, ?_⟩
    rcases h with ⟨P, L', st', w', hj, hP, h⟩ | ⟨pc', st', hb, h⟩ | h | ⟨y, as, t, r', w', hc, hcl, h⟩
    · obtain ⟨M', h1, h2⟩ := mm_seq_mono hM hj
      exact Or.inl ⟨P, M', st', w', h1, hP, mm_ex_mono n _ _ _ _ _ h2 h⟩
    · exact Or.inr (Or.inl ⟨pc', st', hb, mm_ex_mono n _ _ _ _ _ hM h⟩)
    · exact Or.inr (Or.inr (Or.inl h))
    · exact Or.inr (Or.inr (Or.inr ⟨y, as, t, r', w', hc, hcl, mm_ex_mono n _ _ _ _ _ hM h⟩))
/-- it runs to its end -/
def mm_Go (Cl : mm_Cl) (o : Nat) (ini : Bool) (cc : ByteArray) (rt : Option FieldType) (pc : Nat) (lo : mm_L) (st : List Value) (w : mm_W) (r : Option Value) (w1 : mm_W) : Prop := ∃ n, mm_Ex Cl o ini cc rt n pc lo st w r w1
def mm_is1 (o : Nat) (ini : Bool) (cc : ByteArray) (pc : Nat) (j : Instr) (len : Nat) : Bool := match decode cc pc with
  | .ok q => Nat.beq q.2 len && decide (mm_res o ini q.1 q.2 = some j)
  | .error _ => false
theorem mm_is1_ok {len : Nat} (h : mm_is1 o ini cc pc j len = true) : ∃ i, decode cc pc = .ok (i, len) ∧ mm_res o ini i len = some j := by
  unfold mm_is1 at h
  split at h
  · rename_i q hq
    rw [Bool.and_eq_true] at h
    have e := Nat.eq_of_beq_eq_true h.1
    refine ⟨q.1, ?_, ?_⟩
    · rw [hq, ← e]
    · rw [← e]
      exact of_decide_eq_true h.2
  · cases h
def mm_chk (o : Nat) (ini : Bool) (cc : ByteArray) : Nat → List (Instr × Nat) → Bool
  | _, [] => true
  | pc, a :: l => mm_is1 o ini cc pc a.1 a.2 && mm_chk o ini cc (pc + a.2) l
def mm_ln : Nat → List (Instr × Nat) → Nat
  | pc, [] => pc
  | pc, a :: l => mm_ln (pc + a.2) l
def mm_bl : List (Instr × Nat) → mm_L → List Value → mm_W → mm_Rs
  | [], L, st, w => some (True, L, st, w)
  | a :: l, L, st, w => match mm_seq a.1 L st w with
    | none => none
    | some r => match mm_bl l r.2.1 r.2.2.1 r.2.2.2 with
      | none => none
      | some r2 => some (r.1 ∧ r2.1, r2.2)
theorem mm_go_bl : ∀ (l : List (Instr × Nat)) (pc : Nat) (lo : mm_L) (st : List Value) (w : mm_W) (P : Prop) (lo' : mm_L) (st' : List Value) (w' : mm_W), mm_chk o ini cc pc l = true → mm_bl l lo st w = some (P, lo', st', w') → P → mm_Go Cl o ini cc rt (mm_ln pc l) lo' st' w' r w1 → mm_Go Cl o ini cc rt pc lo st w r w1
  | [], pc, lo, st, w, P, lo', st', w', _, hb, _, h => by
    cases hb
    exact h
  | a :: l, pc, lo, st, w, P, lo', st', w', hc, hb, hP, h => by
    unfold mm_chk at hc
    rw [Bool.and_eq_true] at hc
    obtain ⟨i, hd, hr⟩ := mm_is1_ok hc.1
    unfold mm_bl at hb
    split at hb
    · cases hb
    · rename_i q hq
      split at hb
      · cases hb
      · rename_i q2 hq2
        obtain ⟨p2, l2, s2, w2⟩ := q2
        cases hb
        obtain ⟨n, hn⟩ := mm_go_bl l _ _ _ _ _ _ _ _ hc.2 hq2 hP.2 h
        exact ⟨n + 1, i, a.2, a.1, hd, hr, Or.inl ⟨_, _, _, _, hq, hP.1, hn⟩⟩
theorem mm_go_br {len pc' : Nat} (hc : mm_chk o ini cc pc [(j, len)] = true) (hb : mm_br j pc st = some (pc', st')) (h : mm_Go Cl o ini cc rt pc' lo st' w r w1) : mm_Go Cl o ini cc rt pc lo st w r w1 := by
  unfold mm_chk at hc
  rw [Bool.and_eq_true] at hc
  obtain ⟨i, hd, hr⟩ := mm_is1_ok hc.1
  obtain ⟨n, hn⟩ := h
  exact ⟨n + 1, i, len, j, hd, hr, Or.inr (Or.inl ⟨pc', st', hb, hn⟩)⟩
theorem mm_go_ret {len : Nat} (hc : mm_chk o ini cc pc [(j, len)] = true) (hr : mm_ret j rt st r) : mm_Go Cl o ini cc rt pc lo st w r w := by
  unfold mm_chk at hc
  rw [Bool.and_eq_true] at hc
  obtain ⟨i, hd, hr2⟩ := mm_is1_ok hc.1
  exact ⟨1, i, len, j, hd, hr2, Or.inr (Or.inr (Or.inl ⟨hr, rfl⟩))⟩
theorem mm_go_call {len y : Nat} {as t : List Value} {r' : Option Value} (hc : mm_chk o ini cc pc [(j, len)] = true) (hj : mm_call j st w = some (y, as, t)) (hcl : Cl y as w r' w') (h : mm_Go Cl o ini cc rt (pc + 3) lo (r'.toList ++ t) w' r w1) : mm_Go Cl o ini cc rt pc lo st w r w1 := by
  unfold mm_chk at hc
  rw [Bool.and_eq_true] at hc
  obtain ⟨i, hd, hr2⟩ := mm_is1_ok hc.1
  obtain ⟨n, hn⟩ := h
  exact ⟨n + 1, i, len, j, hd, hr2, Or.inr (Or.inr (Or.inr ⟨y, as, t, r', w', hj, hcl, hn⟩))⟩
theorem mm_go_sub (hs : mm_lsb lo M) (h : mm_Go Cl o ini cc rt pc lo st w r w1) : mm_Go Cl o ini cc rt pc M st w r w1 := by
  obtain ⟨n, hn⟩ := h
  exact ⟨n, mm_ex_mono n _ _ _ _ _ hs hn⟩
end MMB
/-! the two objects' world: shapes and references stay -/
abbrev mm_Q : Type := (Nat → Nat → Int32) × (Nat → Nat → Int64)
/-- the script's length, and how many rows the law has made in its turns -/
abbrev mm_LT : Type := Nat × Nat
def mm_rl (n : Nat) : Nat := if n % 3 = 2 then 9 else 3
def mm_rw : Nat → List (Nat × Nat)
  | 0 => []
  | n + 1 => mm_rw n ++ [(0, mm_rl n)]
theorem mm_rw_len : ∀ n, (mm_rw n).length = n
  | 0 => rfl
  | n + 1 => by
    show (mm_rw n ++ [(0, mm_rl n)]).length = n + 1
    rw [List.length_append, mm_rw_len n]
    rfl
def mm_S (L : mm_LT) : List (Nat × Nat) := (4, L.1) :: (4, 13) :: (4, 13) :: (4, 13) :: (4, 13) :: (4, 13) :: (4, 13) :: (21, 11) :: (14, 2) :: (0, 54) :: (15, 4) :: (0, 200) :: (0, 64) :: (0, 6) :: (20, 7) :: (3, 6) :: (18, 5) :: (2, 60) :: (18, 5) :: (2, 60) :: (18, 5) :: (2, 60) :: (18, 5) :: (2, 60) :: (18, 5) :: (2, 60) :: (18, 5) :: (2, 60) :: (19, 5) :: (0, 120) :: (0, 200) :: (11, 5) :: (0, 40) :: (0, 40) :: (0, 40) :: (17, 10) :: (0, 7) :: (0, 49) :: (0, 128) :: (12, 13) :: (0, 6) :: (0, 6) :: (0, 9) :: (0, 9) :: (16, 4) :: (0, 60) :: (13, 3) :: (0, 21) :: (0, 21) :: (10, 5) :: (0, 50) :: (0, 24) :: (0, 8) :: (0, 30) :: (0, 18) :: (0, 3) :: mm_rw L.2
def mm_gn : List (Nat → Option Nat) → Nat → Nat → Option Nat
  | [], _ => fun _ => none
  | a :: _, 0 => a
  | _ :: l, n + 1 => mm_gn l n
def mm_G : Nat → Nat → Option Nat := mm_gn [(fun _ => none), (fun _ => none), (fun _ => none), (fun _ => none), (fun _ => none), (fun _ => none), (fun _ => none), (va_up (va_up (va_up (va_up (va_up (va_up (va_up (va_up (va_up (va_up (va_up (fun _ => none) 0 (some 8)) 1 (some 28)) 2 (some 10)) 3 (some 31)) 4 (some 14)) 5 (some 35)) 6 (some 39)) 7 (some 44)) 8 (some 46)) 9 (some 49)) 10 (some 15)), (va_up (fun _ => none) 0 (some 9)), (fun _ => none), (va_up (va_up (va_up (fun _ => none) 0 (some 11)) 1 (some 12)) 2 (some 13)), (fun _ => none), (fun _ => none), (fun _ => none), (va_up (va_up (fun _ => none) 0 (some 8)) 1 (some 10)), (va_up (va_up (va_up (va_up (va_up (va_up (fun _ => none) 0 (some 16)) 1 (some 18)) 2 (some 20)) 3 (some 22)) 4 (some 24)) 5 (some 26)), (va_up (fun _ => none) 0 (some 17)), (fun _ => none), (va_up (fun _ => none) 0 (some 19)), (fun _ => none), (va_up (fun _ => none) 0 (some 21)), (fun _ => none), (va_up (fun _ => none) 0 (some 23)), (fun _ => none), (va_up (fun _ => none) 0 (some 25)), (fun _ => none), (va_up (fun _ => none) 0 (some 27)), (fun _ => none), (va_up (va_up (fun _ => none) 0 (some 29)) 1 (some 30)), (fun _ => none), (fun _ => none), (va_up (va_up (va_up (fun _ => none) 0 (some 32)) 1 (some 33)) 2 (some 34)), (fun _ => none), (fun _ => none), (fun _ => none), (va_up (va_up (va_up (va_up (va_up (fun _ => none) 0 (some 8)) 1 (some 14)) 2 (some 36)) 3 (some 37)) 4 (some 38)), (fun _ => none), (fun _ => none), (fun _ => none), (va_up (va_up (va_up (va_up (va_up (va_up (fun _ => none) 0 (some 8)) 1 (some 14)) 2 (some 40)) 3 (some 41)) 4 (some 42)) 5 (some 43)), (fun _ => none), (fun _ => none), (fun _ => none), (fun _ => none), (va_up (va_up (va_up (fun _ => none) 0 (some 8)) 1 (some 14)) 2 (some 45)), (fun _ => none), (va_up (va_up (fun _ => none) 0 (some 48)) 1 (some 47)), (fun _ => none), (fun _ => none), (va_up (va_up (fun _ => none) 0 (some 50)) 1 (some 51)), (fun _ => none), (fun _ => none), (fun _ => none), (fun _ => none), (fun _ => none), (fun _ => none)]
def mm_wq (L : mm_LT) (q : mm_Q) : mm_W := (mm_S L, q.1, q.2, mm_G)
def mm_si (q : mm_Q) (k j : Nat) (x : Int32) : mm_Q := (mm_uc q.1 k (upd (q.1 k) j x), q.2)
def mm_sj (q : mm_Q) (k j : Nat) (x : Int64) : mm_Q := (q.1, mm_uc q.2 k (vp_updL (q.2 k) j x))
def mm_ci (q : mm_Q) (a b sp dp n : Nat) : mm_Q := (mm_uc q.1 b (va_cpy (q.1 a) (q.1 b) sp dp n), q.2)
def mm_cj (q : mm_Q) (a b sp dp n : Nat) : mm_Q := (q.1, mm_uc q.2 b (va_cpy (q.2 a) (q.2 b) sp dp n))
/-- the words of the written-out methods: a check, a name, a call -/
def mm_ck {α : Type} (b : Bool) (e : Option α) : Option α := match b with
  | true => e
  | false => none
def mm_lt {α β : Type} (v : β) (f : β → Option α) : Option α := f v
def mm_cl {α β : Type} (e : Option (β × mm_Q)) (f : β → mm_Q → Option α) : Option α := match e with
  | none => none
  | some p => f p.1 p.2
def mm_om {α : Type} (x : Option Nat) (A : Option α) (B : Nat → Option α) : Option α := match x with
  | none => A
  | some h => B h
def mm_inb (i : Int32) (n : Nat) : Bool := decide (0 ≤ i) && decide (i.toNatClampNeg < n)
def mm_cp (sp dp n : Int32) (a b : Nat) : Bool := decide (0 ≤ sp) && decide (0 ≤ dp) && decide (0 ≤ n) && Nat.ble (sp.toNatClampNeg + n.toNatClampNeg) a && Nat.ble (dp.toNatClampNeg + n.toNatClampNeg) b
def mm_bb (x : Int32) : Bool := x == 0 || x == 1
def mm_sh (h : Nat) : Prop := h = 16 ∨ h = 18 ∨ h = 20 ∨ h = 22 ∨ h = 24 ∨ h = 26
def mm_shb (h : Nat) : Bool := Nat.beq h 16 || Nat.beq h 18 || Nat.beq h 20 || Nat.beq h 22 || Nat.beq h 24 || Nat.beq h 26
theorem mm_inb_ix {i : Int32} {n : Nat} (h : mm_inb i n = true) : mm_ix i n := by
  unfold mm_inb at h
  simp only [Bool.and_eq_true, decide_eq_true_eq] at h
  intro z
  rcases z with z | z
  · exact Int32.not_lt.mpr h.1 z
  · omega
theorem mm_cp_ok {sp dp n : Int32} {a b : Nat} (h : mm_cp sp dp n a b = true) : (¬ sp < 0 ∧ ¬ dp < 0 ∧ ¬ n < 0) ∧ sp.toNatClampNeg + n.toNatClampNeg ≤ a ∧ dp.toNatClampNeg + n.toNatClampNeg ≤ b := by
  unfold mm_cp at h
  simp only [Bool.and_eq_true, decide_eq_true_eq] at h
  obtain ⟨⟨⟨⟨h1, h2⟩, h3⟩, h4⟩, h5⟩ := h
  exact ⟨⟨Int32.not_lt.mpr h1, Int32.not_lt.mpr h2, Int32.not_lt.mpr h3⟩, Nat.le_of_ble_eq_true h4, Nat.le_of_ble_eq_true h5⟩
theorem mm_bb_ok {x : Int32} (h : mm_bb x = true) : x = 0 ∨ x = 1 := by
  unfold mm_bb at h
  simpa using h
theorem mm_shb_ok {h : Nat} (hh : mm_shb h = true) : mm_sh h := by
  unfold mm_shb at hh
  simp only [Bool.or_eq_true] at hh
  unfold mm_sh
  rcases hh with ((((hh | hh) | hh) | hh) | hh) | hh <;> have := Nat.eq_of_beq_eq_true hh <;> omega
def mm_cvi : Int32 → Option Value := fun x => some (.int x)
def mm_cvl : Int64 → Option Value := fun x => some (.long x)
def mm_cvu : Unit → Option Value := fun _ => none
def mm_cvr : Option Nat → Option Value := fun x => some (va_rf x)
section MMO
variable {α : Type} {cv : α → Option Value} {Cl : mm_Cl} {o : Nat} {ini : Bool} {cc : ByteArray} {rt : Option FieldType} {L L9 : mm_LT} {pc : Nat} {lo lo' : mm_L} {st st' t : List Value} {q q' : mm_Q} {e A B : Option (α × mm_Q)} {P : Prop}
/-- from here the code does what e says -/
def mm_ok {α : Type} (cv : α → Option Value) (Cl : mm_Cl) (o : Nat) (ini : Bool) (cc : ByteArray) (rt : Option FieldType) (L9 L : mm_LT) (pc : Nat) (lo : mm_L) (st : List Value) (q : mm_Q) (e : Option (α × mm_Q)) : Prop := ∀ (a : α) (q' : mm_Q), e = some (a, q') → mm_Go Cl o ini cc rt pc lo st (mm_wq L q) (cv a) (mm_wq L9 q')
theorem mm_ok_none : mm_ok cv Cl o ini cc rt L9 L pc lo st q none := fun _ _ h => by cases h
theorem mm_ok_ck {b : Bool} (h : b = true → mm_ok cv Cl o ini cc rt L9 L pc lo st q e) : mm_ok cv Cl o ini cc rt L9 L pc lo st q (mm_ck b e) := by
  intro a q1 h1
  cases b
  · cases h1
  · exact h rfl a q1 h1
theorem mm_ok_lt {v : mm_Q} {f : mm_Q → Option (α × mm_Q)} (h : ∀ q1, mm_ok cv Cl o ini cc rt L9 L pc lo st q1 (f q1)) : mm_ok cv Cl o ini cc rt L9 L pc lo st v (mm_lt v f) := h v
theorem mm_ok_lti {x : Int32} {f : Int32 → Option (α × mm_Q)} {lo1 : Int32 → mm_L} {st1 : Int32 → List Value} (h : ∀ v, mm_ok cv Cl o ini cc rt L9 L pc (lo1 v) (st1 v) q (f v)) : mm_ok cv Cl o ini cc rt L9 L pc (lo1 x) (st1 x) q (mm_lt x f) := h x
theorem mm_ok_ltl {x : Int64} {f : Int64 → Option (α × mm_Q)} {lo1 : Int64 → mm_L} {st1 : Int64 → List Value} (h : ∀ v, mm_ok cv Cl o ini cc rt L9 L pc (lo1 v) (st1 v) q (f v)) : mm_ok cv Cl o ini cc rt L9 L pc (lo1 x) (st1 x) q (mm_lt x f) := h x
theorem mm_ok_bl {l : List (Instr × Nat)} {pc' : Nat} (hc : mm_chk o ini cc pc l = true) (hb : mm_bl l lo st (mm_wq L q) = some (P, lo', st', mm_wq L q')) (hpc : mm_ln pc l = pc') (hP : P) (h : mm_ok cv Cl o ini cc rt L9 L pc' lo' st' q' e) : mm_ok cv Cl o ini cc rt L9 L pc lo st q e := by
  intro a q1 h1
  subst hpc
  exact mm_go_bl l pc lo st _ P _ _ _ hc hb hP (h a q1 h1)
theorem mm_ok_sub (hs : mm_lsb lo lo') (h : mm_ok cv Cl o ini cc rt L9 L pc lo st q e) : mm_ok cv Cl o ini cc rt L9 L pc lo' st q e := fun a q1 h1 => mm_go_sub hs (h a q1 h1)
theorem mm_ok_goto {d : Int} {pt : Nat} (hc : mm_chk o ini cc pc [(.goto d, 3)] = true) (hp : (pc : Int) + d = (pt : Int)) (h : mm_ok cv Cl o ini cc rt L9 L pt lo st q e) : mm_ok cv Cl o ini cc rt L9 L pc lo st q e := by
  intro a q1 h1
  refine mm_go_br (pc' := pt) (st' := st) hc ?_ (h a q1 h1)
  show cond (decide (0 ≤ (pc : Int) + d)) (some (mm_tgt pc d, st)) none = _
  rw [hp, decide_eq_true (Int.natCast_nonneg pt)]
  unfold mm_tgt
  rw [hp]
  rfl
theorem mm_ok_call {β : Type} {cz : β → Option Value} {j : Instr} {y : Nat} {as : List Value} {e1 : Option (β × mm_Q)} {f : β → mm_Q → Option (α × mm_Q)} (hc : mm_chk o ini cc pc [(j, 3)] = true) (hj : mm_call j st (mm_wq L q) = some (y, as, t)) (hz : ∀ a q1, e1 = some (a, q1) → Cl y as (mm_wq L q) (cz a) (mm_wq L q1)) (h : ∀ a q1, mm_ok cv Cl o ini cc rt L9 L (pc + 3) lo ((cz a).toList ++ t) q1 (f a q1)) : mm_ok cv Cl o ini cc rt L9 L pc lo st q (mm_cl e1 f) := by
  intro a q1 h1
  cases e1 with
  | none => cases h1
  | some p => exact mm_go_call hc hj (hz p.1 p.2 rfl) (h p.1 p.2 a q1 h1)
theorem mm_ok_ifnull {x : Option Nat} {d : Int} {pt : Nat} {B : Nat → Option (α × mm_Q)} (hc : mm_chk o ini cc pc [(.ifnull d, 3)] = true) (hp : (pc : Int) + d = (pt : Int)) (hA : x = none → mm_ok cv Cl o ini cc rt L9 L pt lo t q A) (hB : ∀ h, x = some h → mm_ok cv Cl o ini cc rt L9 L (pc + 3) lo t q (B h)) : mm_ok cv Cl o ini cc rt L9 L pc lo (va_rf x :: t) q (mm_om x A B) := by
  intro a q1 h1
  cases x with
  | none =>
    refine mm_go_br (pc' := pt) (st' := t) hc ?_ (hA rfl a q1 h1)
    show cond (decide (0 ≤ (pc : Int) + d)) (some (mm_tgt pc d, t)) none = _
    rw [hp, decide_eq_true (Int.natCast_nonneg pt)]
    unfold mm_tgt
    rw [hp]
    rfl
  | some h => exact mm_go_br (pc' := pc + 3) (st' := t) hc rfl (hB h rfl a q1 h1)
theorem mm_ok_ifnonnull {x : Option Nat} {d : Int} {pt : Nat} {B : Nat → Option (α × mm_Q)} (hc : mm_chk o ini cc pc [(.ifnonnull d, 3)] = true) (hp : (pc : Int) + d = (pt : Int)) (hA : x = none → mm_ok cv Cl o ini cc rt L9 L (pc + 3) lo t q A) (hB : ∀ h, x = some h → mm_ok cv Cl o ini cc rt L9 L pt lo t q (B h)) : mm_ok cv Cl o ini cc rt L9 L pc lo (va_rf x :: t) q (mm_om x A B) := by
  intro a q1 h1
  cases x with
  | none => exact mm_go_br (pc' := pc + 3) (st' := t) hc rfl (hA rfl a q1 h1)
  | some h =>
    refine mm_go_br (pc' := pt) (st' := t) hc ?_ (hB h rfl a q1 h1)
    show cond (decide (0 ≤ (pc : Int) + d)) (some (mm_tgt pc d, t)) none = _
    rw [hp, decide_eq_true (Int.natCast_nonneg pt)]
    unfold mm_tgt
    rw [hp]
    rfl
theorem mm_ok_ifCond_eq {x : Int32} {d : Int} {pt : Nat} (hc : mm_chk o ini cc pc [(.ifCond .eq d, 3)] = true) (hp : (pc : Int) + d = (pt : Int)) (hA : x = 0 → mm_ok cv Cl o ini cc rt L9 L (pt) lo t q A) (hB : ¬ x = 0 → mm_ok cv Cl o ini cc rt L9 L (pc + 3) lo t q B) : mm_ok cv Cl o ini cc rt L9 L pc lo (.int x :: t) q (if x = 0 then A else B) := by
  intro a q1 h1
  have e1 : mm_br (.ifCond .eq d) pc (.int x :: t) = some (if x = 0 then pt else pc + 3, t) := by
    show cond (decide (0 ≤ (pc : Int) + d)) (some (if x = 0 then mm_tgt pc d else pc + 3, t)) none = _
    rw [hp, decide_eq_true (Int.natCast_nonneg pt)]
    unfold mm_tgt
    rw [hp]
    rfl
  by_cases hx : x = 0
  · rw [if_pos hx] at h1 e1
    exact mm_go_br hc e1 (hA hx a q1 h1)
  · rw [if_neg hx] at h1 e1
    exact mm_go_br hc e1 (hB hx a q1 h1)
theorem mm_ok_ifCond_ne {x : Int32} {d : Int} {pt : Nat} (hc : mm_chk o ini cc pc [(.ifCond .ne d, 3)] = true) (hp : (pc : Int) + d = (pt : Int)) (hA : x = 0 → mm_ok cv Cl o ini cc rt L9 L (pc + 3) lo t q A) (hB : ¬ x = 0 → mm_ok cv Cl o ini cc rt L9 L (pt) lo t q B) : mm_ok cv Cl o ini cc rt L9 L pc lo (.int x :: t) q (if x = 0 then A else B) := by
  intro a q1 h1
  have e1 : mm_br (.ifCond .ne d) pc (.int x :: t) = some (if x = 0 then pc + 3 else pt, t) := by
    show cond (decide (0 ≤ (pc : Int) + d)) (some (if x = 0 then pc + 3 else mm_tgt pc d, t)) none = _
    rw [hp, decide_eq_true (Int.natCast_nonneg pt)]
    unfold mm_tgt
    rw [hp]
    rfl
  by_cases hx : x = 0
  · rw [if_pos hx] at h1 e1
    exact mm_go_br hc e1 (hA hx a q1 h1)
  · rw [if_neg hx] at h1 e1
    exact mm_go_br hc e1 (hB hx a q1 h1)
theorem mm_ok_ifCond_lt {x : Int32} {d : Int} {pt : Nat} (hc : mm_chk o ini cc pc [(.ifCond .lt d, 3)] = true) (hp : (pc : Int) + d = (pt : Int)) (hA : x < 0 → mm_ok cv Cl o ini cc rt L9 L (pt) lo t q A) (hB : ¬ x < 0 → mm_ok cv Cl o ini cc rt L9 L (pc + 3) lo t q B) : mm_ok cv Cl o ini cc rt L9 L pc lo (.int x :: t) q (if x < 0 then A else B) := by
  intro a q1 h1
  have e1 : mm_br (.ifCond .lt d) pc (.int x :: t) = some (if x < 0 then pt else pc + 3, t) := by
    show cond (decide (0 ≤ (pc : Int) + d)) (some (if x < 0 then mm_tgt pc d else pc + 3, t)) none = _
    rw [hp, decide_eq_true (Int.natCast_nonneg pt)]
    unfold mm_tgt
    rw [hp]
    rfl
  by_cases hx : x < 0
  · rw [if_pos hx] at h1 e1
    exact mm_go_br hc e1 (hA hx a q1 h1)
  · rw [if_neg hx] at h1 e1
    exact mm_go_br hc e1 (hB hx a q1 h1)
theorem mm_ok_ifCond_ge {x : Int32} {d : Int} {pt : Nat} (hc : mm_chk o ini cc pc [(.ifCond .ge d, 3)] = true) (hp : (pc : Int) + d = (pt : Int)) (hA : 0 ≤ x → mm_ok cv Cl o ini cc rt L9 L (pt) lo t q A) (hB : ¬ 0 ≤ x → mm_ok cv Cl o ini cc rt L9 L (pc + 3) lo t q B) : mm_ok cv Cl o ini cc rt L9 L pc lo (.int x :: t) q (if 0 ≤ x then A else B) := by
  intro a q1 h1
  have e1 : mm_br (.ifCond .ge d) pc (.int x :: t) = some (if 0 ≤ x then pt else pc + 3, t) := by
    show cond (decide (0 ≤ (pc : Int) + d)) (some (if 0 ≤ x then mm_tgt pc d else pc + 3, t)) none = _
    rw [hp, decide_eq_true (Int.natCast_nonneg pt)]
    unfold mm_tgt
    rw [hp]
    rfl
  by_cases hx : 0 ≤ x
  · rw [if_pos hx] at h1 e1
    exact mm_go_br hc e1 (hA hx a q1 h1)
  · rw [if_neg hx] at h1 e1
    exact mm_go_br hc e1 (hB hx a q1 h1)
theorem mm_ok_ifCond_gt {x : Int32} {d : Int} {pt : Nat} (hc : mm_chk o ini cc pc [(.ifCond .gt d, 3)] = true) (hp : (pc : Int) + d = (pt : Int)) (hA : 0 < x → mm_ok cv Cl o ini cc rt L9 L (pt) lo t q A) (hB : ¬ 0 < x → mm_ok cv Cl o ini cc rt L9 L (pc + 3) lo t q B) : mm_ok cv Cl o ini cc rt L9 L pc lo (.int x :: t) q (if 0 < x then A else B) := by
  intro a q1 h1
  have e1 : mm_br (.ifCond .gt d) pc (.int x :: t) = some (if 0 < x then pt else pc + 3, t) := by
    show cond (decide (0 ≤ (pc : Int) + d)) (some (if 0 < x then mm_tgt pc d else pc + 3, t)) none = _
    rw [hp, decide_eq_true (Int.natCast_nonneg pt)]
    unfold mm_tgt
    rw [hp]
    rfl
  by_cases hx : 0 < x
  · rw [if_pos hx] at h1 e1
    exact mm_go_br hc e1 (hA hx a q1 h1)
  · rw [if_neg hx] at h1 e1
    exact mm_go_br hc e1 (hB hx a q1 h1)
theorem mm_ok_ifCond_le {x : Int32} {d : Int} {pt : Nat} (hc : mm_chk o ini cc pc [(.ifCond .le d, 3)] = true) (hp : (pc : Int) + d = (pt : Int)) (hA : x ≤ 0 → mm_ok cv Cl o ini cc rt L9 L (pt) lo t q A) (hB : ¬ x ≤ 0 → mm_ok cv Cl o ini cc rt L9 L (pc + 3) lo t q B) : mm_ok cv Cl o ini cc rt L9 L pc lo (.int x :: t) q (if x ≤ 0 then A else B) := by
  intro a q1 h1
  have e1 : mm_br (.ifCond .le d) pc (.int x :: t) = some (if x ≤ 0 then pt else pc + 3, t) := by
    show cond (decide (0 ≤ (pc : Int) + d)) (some (if x ≤ 0 then mm_tgt pc d else pc + 3, t)) none = _
    rw [hp, decide_eq_true (Int.natCast_nonneg pt)]
    unfold mm_tgt
    rw [hp]
    rfl
  by_cases hx : x ≤ 0
  · rw [if_pos hx] at h1 e1
    exact mm_go_br hc e1 (hA hx a q1 h1)
  · rw [if_neg hx] at h1 e1
    exact mm_go_br hc e1 (hB hx a q1 h1)
theorem mm_ok_if_icmp_eq {x y : Int32} {d : Int} {pt : Nat} (hc : mm_chk o ini cc pc [(.if_icmp .eq d, 3)] = true) (hp : (pc : Int) + d = (pt : Int)) (hA : x = y → mm_ok cv Cl o ini cc rt L9 L (pt) lo t q A) (hB : ¬ x = y → mm_ok cv Cl o ini cc rt L9 L (pc + 3) lo t q B) : mm_ok cv Cl o ini cc rt L9 L pc lo (.int y :: .int x :: t) q (if x = y then A else B) := by
  intro a q1 h1
  have e1 : mm_br (.if_icmp .eq d) pc (.int y :: .int x :: t) = some (if x = y then pt else pc + 3, t) := by
    show cond (decide (0 ≤ (pc : Int) + d)) (some (if x = y then mm_tgt pc d else pc + 3, t)) none = _
    rw [hp, decide_eq_true (Int.natCast_nonneg pt)]
    unfold mm_tgt
    rw [hp]
    rfl
  by_cases hx : x = y
  · rw [if_pos hx] at h1 e1
    exact mm_go_br hc e1 (hA hx a q1 h1)
  · rw [if_neg hx] at h1 e1
    exact mm_go_br hc e1 (hB hx a q1 h1)
theorem mm_ok_if_icmp_ne {x y : Int32} {d : Int} {pt : Nat} (hc : mm_chk o ini cc pc [(.if_icmp .ne d, 3)] = true) (hp : (pc : Int) + d = (pt : Int)) (hA : x = y → mm_ok cv Cl o ini cc rt L9 L (pc + 3) lo t q A) (hB : ¬ x = y → mm_ok cv Cl o ini cc rt L9 L (pt) lo t q B) : mm_ok cv Cl o ini cc rt L9 L pc lo (.int y :: .int x :: t) q (if x = y then A else B) := by
  intro a q1 h1
  have e1 : mm_br (.if_icmp .ne d) pc (.int y :: .int x :: t) = some (if x = y then pc + 3 else pt, t) := by
    show cond (decide (0 ≤ (pc : Int) + d)) (some (if x = y then pc + 3 else mm_tgt pc d, t)) none = _
    rw [hp, decide_eq_true (Int.natCast_nonneg pt)]
    unfold mm_tgt
    rw [hp]
    rfl
  by_cases hx : x = y
  · rw [if_pos hx] at h1 e1
    exact mm_go_br hc e1 (hA hx a q1 h1)
  · rw [if_neg hx] at h1 e1
    exact mm_go_br hc e1 (hB hx a q1 h1)
theorem mm_ok_if_icmp_lt {x y : Int32} {d : Int} {pt : Nat} (hc : mm_chk o ini cc pc [(.if_icmp .lt d, 3)] = true) (hp : (pc : Int) + d = (pt : Int)) (hA : x < y → mm_ok cv Cl o ini cc rt L9 L (pt) lo t q A) (hB : ¬ x < y → mm_ok cv Cl o ini cc rt L9 L (pc + 3) lo t q B) : mm_ok cv Cl o ini cc rt L9 L pc lo (.int y :: .int x :: t) q (if x < y then A else B) := by
  intro a q1 h1
  have e1 : mm_br (.if_icmp .lt d) pc (.int y :: .int x :: t) = some (if x < y then pt else pc + 3, t) := by
    show cond (decide (0 ≤ (pc : Int) + d)) (some (if x < y then mm_tgt pc d else pc + 3, t)) none = _
    rw [hp, decide_eq_true (Int.natCast_nonneg pt)]
    unfold mm_tgt
    rw [hp]
    rfl
  by_cases hx : x < y
  · rw [if_pos hx] at h1 e1
    exact mm_go_br hc e1 (hA hx a q1 h1)
  · rw [if_neg hx] at h1 e1
    exact mm_go_br hc e1 (hB hx a q1 h1)
theorem mm_ok_if_icmp_ge {x y : Int32} {d : Int} {pt : Nat} (hc : mm_chk o ini cc pc [(.if_icmp .ge d, 3)] = true) (hp : (pc : Int) + d = (pt : Int)) (hA : y ≤ x → mm_ok cv Cl o ini cc rt L9 L (pt) lo t q A) (hB : ¬ y ≤ x → mm_ok cv Cl o ini cc rt L9 L (pc + 3) lo t q B) : mm_ok cv Cl o ini cc rt L9 L pc lo (.int y :: .int x :: t) q (if y ≤ x then A else B) := by
  intro a q1 h1
  have e1 : mm_br (.if_icmp .ge d) pc (.int y :: .int x :: t) = some (if y ≤ x then pt else pc + 3, t) := by
    show cond (decide (0 ≤ (pc : Int) + d)) (some (if y ≤ x then mm_tgt pc d else pc + 3, t)) none = _
    rw [hp, decide_eq_true (Int.natCast_nonneg pt)]
    unfold mm_tgt
    rw [hp]
    rfl
  by_cases hx : y ≤ x
  · rw [if_pos hx] at h1 e1
    exact mm_go_br hc e1 (hA hx a q1 h1)
  · rw [if_neg hx] at h1 e1
    exact mm_go_br hc e1 (hB hx a q1 h1)
theorem mm_ok_if_icmp_gt {x y : Int32} {d : Int} {pt : Nat} (hc : mm_chk o ini cc pc [(.if_icmp .gt d, 3)] = true) (hp : (pc : Int) + d = (pt : Int)) (hA : y < x → mm_ok cv Cl o ini cc rt L9 L (pt) lo t q A) (hB : ¬ y < x → mm_ok cv Cl o ini cc rt L9 L (pc + 3) lo t q B) : mm_ok cv Cl o ini cc rt L9 L pc lo (.int y :: .int x :: t) q (if y < x then A else B) := by
  intro a q1 h1
  have e1 : mm_br (.if_icmp .gt d) pc (.int y :: .int x :: t) = some (if y < x then pt else pc + 3, t) := by
    show cond (decide (0 ≤ (pc : Int) + d)) (some (if y < x then mm_tgt pc d else pc + 3, t)) none = _
    rw [hp, decide_eq_true (Int.natCast_nonneg pt)]
    unfold mm_tgt
    rw [hp]
    rfl
  by_cases hx : y < x
  · rw [if_pos hx] at h1 e1
    exact mm_go_br hc e1 (hA hx a q1 h1)
  · rw [if_neg hx] at h1 e1
    exact mm_go_br hc e1 (hB hx a q1 h1)
theorem mm_ok_if_icmp_le {x y : Int32} {d : Int} {pt : Nat} (hc : mm_chk o ini cc pc [(.if_icmp .le d, 3)] = true) (hp : (pc : Int) + d = (pt : Int)) (hA : x ≤ y → mm_ok cv Cl o ini cc rt L9 L (pt) lo t q A) (hB : ¬ x ≤ y → mm_ok cv Cl o ini cc rt L9 L (pc + 3) lo t q B) : mm_ok cv Cl o ini cc rt L9 L pc lo (.int y :: .int x :: t) q (if x ≤ y then A else B) := by
  intro a q1 h1
  have e1 : mm_br (.if_icmp .le d) pc (.int y :: .int x :: t) = some (if x ≤ y then pt else pc + 3, t) := by
    show cond (decide (0 ≤ (pc : Int) + d)) (some (if x ≤ y then mm_tgt pc d else pc + 3, t)) none = _
    rw [hp, decide_eq_true (Int.natCast_nonneg pt)]
    unfold mm_tgt
    rw [hp]
    rfl
  by_cases hx : x ≤ y
  · rw [if_pos hx] at h1 e1
    exact mm_go_br hc e1 (hA hx a q1 h1)
  · rw [if_neg hx] at h1 e1
    exact mm_go_br hc e1 (hB hx a q1 h1)
def mm_swl : List (Int × Int) → Int → Int32 → Int
  | [], d, _ => d
  | a :: l, d, x => if x = Int32.ofInt a.1 then a.2 else mm_swl l d x
theorem mm_swl_ok : ∀ (l : List (Int × Int)) (d : Int) (x : Int32), (l.all fun a => decide (-2147483648 ≤ a.1) && decide (a.1 < 2147483648)) = true → Op.lookupswitch.offset l d x.toInt = mm_swl l d x
  | [], _, _, _ => rfl
  | (a1, a2) :: l, d, x, h => by
    rw [List.all_cons, Bool.and_eq_true] at h
    obtain ⟨h1, h2⟩ := h
    simp only [Bool.and_eq_true, decide_eq_true_eq] at h1
    have e : (Int32.ofInt a1).toInt = a1 := Int32.toInt_ofInt_of_le (by omega) (by omega)
    unfold mm_swl Op.lookupswitch.offset
    rw [mm_swl_ok l d x h2]
    by_cases hx : x = Int32.ofInt a1
    · rw [if_pos hx, if_pos (by rw [hx, e])]
    · rw [if_neg hx, if_neg (fun z => hx (Int32.toInt_inj.mp (by rw [e]; exact z.symm)))]
theorem mm_ok_lsw {x : Int32} {d : Int} {ps : List (Int × Int)} {len pt : Nat} (hc : mm_chk o ini cc pc [(.lookupswitch d ps.toArray, len)] = true) (hw : (ps.all fun a => decide (-2147483648 ≤ a.1) && decide (a.1 < 2147483648)) = true)
    (hz : (ps.all (fun q => decide (0 ≤ (pc : Int) + q.2)) && decide (0 ≤ (pc : Int) + d) && (ps.zip (ps.drop 1)).all (fun (a, next) => a.1 < next.1)) = true) (hp : mm_tgt pc (mm_swl ps d x) = pt) (h : mm_ok cv Cl o ini cc rt L9 L pt lo t q e) : mm_ok cv Cl o ini cc rt L9 L pc lo (.int x :: t) q e := by
  intro a q1 h1
  refine mm_go_br (pc' := pt) (st' := t) hc ?_ (h a q1 h1)
  have e1 : (ps.toArray.all fun q => decide (0 ≤ (pc : Int) + q.2)) = ps.all fun q => decide (0 ≤ (pc : Int) + q.2) := by simp
  unfold mm_br
  dsimp only
  rw [e1, mm_swl_ok _ _ _ hw, hp]
  exact congrArg (fun b => cond b (some (pt, t)) none) hz
theorem mm_ok_tsw {x : Int32} {d lo1 hi : Int} {os : List Int} {len pt : Nat} (hc : mm_chk o ini cc pc [(.tableswitch d lo1 hi os.toArray, len)] = true)
    (hz : (os.all (fun q => decide (0 ≤ (pc : Int) + q)) && decide (0 ≤ (pc : Int) + d) && decide (os.length = (hi - lo1 + 1).toNat)) = true) (hp : (if x.toInt < lo1 ∨ hi < x.toInt then mm_tgt pc d else mm_tgt pc (os.getD (x.toInt - lo1).toNat 0)) = pt) (h : mm_ok cv Cl o ini cc rt L9 L pt lo t q e) : mm_ok cv Cl o ini cc rt L9 L pc lo (.int x :: t) q e := by
  intro a q1 h1
  refine mm_go_br (pc' := pt) (st' := t) hc ?_ (h a q1 h1)
  have e1 : (os.toArray.all fun q => decide (0 ≤ (pc : Int) + q)) = os.all fun q => decide (0 ≤ (pc : Int) + q) := by simp
  have e3 : os.toArray.size = os.length := by simp
  unfold mm_br
  dsimp only
  rw [e1, e3, hz, hp]
  rfl
theorem mm_tsw_dn {x : Int32} {lo1 hi : Int} {l : List Int} {A B pt : Nat} (hA : A = pt) (hl : l = (List.range (hi - lo1 + 1).toNat).map (fun i : Nat => lo1 + (i : Int))) (hn : ∀ k ∈ l, ¬ x.toInt = k) : (if x.toInt < lo1 ∨ hi < x.toInt then A else B) = pt := by
  by_cases h : x.toInt < lo1 ∨ hi < x.toInt
  · rw [if_pos h]; exact hA
  · refine absurd ?_ (hn x.toInt ?_)
    · rfl
    · rw [hl]
      exact List.mem_map.mpr ⟨(x.toInt - lo1).toNat, List.mem_range.mpr (by omega), by omega⟩
theorem mm_ok_if {c : Prop} [Decidable c] (hA : c → mm_ok cv Cl o ini cc rt L9 L pc lo st q A) (hB : ¬ c → mm_ok cv Cl o ini cc rt L9 L pc lo st q B) : mm_ok cv Cl o ini cc rt L9 L pc lo st q (if c then A else B) := by
  by_cases hx : c
  · rw [if_pos hx]; exact hA hx
  · rw [if_neg hx]; exact hB hx
end MMO
section MMP
variable {Cl : mm_Cl} {o : Nat} {ini : Bool} {cc : ByteArray} {L : mm_LT} {pc : Nat} {lo : mm_L} {q : mm_Q}
theorem mm_ok_iret {x : Int32} (hc : mm_chk o ini cc pc [(.ireturn, 1)] = true) : mm_ok mm_cvi Cl o ini cc (some .int) L L pc lo [.int x] q (some (x, q)) := by
  intro a q1 h
  cases h
  exact mm_go_ret hc rfl
theorem mm_ok_zret {x : Int32} (hc : mm_chk o ini cc pc [(.ireturn, 1)] = true) (hx : x = 0 ∨ x = 1) : mm_ok mm_cvi Cl o ini cc (some .boolean) L L pc lo [.int x] q (some (x, q)) := by
  intro a q1 h
  cases h
  exact mm_go_ret hc ⟨hx, rfl⟩
theorem mm_ok_lret {x : Int64} (hc : mm_chk o ini cc pc [(.lreturn, 1)] = true) : mm_ok mm_cvl Cl o ini cc (some .long) L L pc lo [.long x] q (some (x, q)) := by
  intro a q1 h
  cases h
  exact mm_go_ret hc rfl
theorem mm_ok_vret (hc : mm_chk o ini cc pc [(.return_, 1)] = true) : mm_ok mm_cvu Cl o ini cc none L L pc lo [] q (some ((), q)) := by
  intro a q1 h
  cases h
  exact mm_go_ret hc rfl
theorem mm_me_len : mm_meL.length = 101 := by decide +kernel
theorem mm_runs_of {α : Type} {cv : α → Option Value} {d y nL : Nat} {rt : Option FieldType} {as : List Value} {e : Option (α × mm_Q)} {a : α} {q1 : mm_Q} {nm : MethodName} {rest : Nat × Nat × Nat × Nat × Nat} (hm : mm_me y = (o, nm, cc, nL, rt, rest)) (hi : decide (nm.name = "<init>") = false) (hl : (mm_ini nL as).length = nL) (hy : Nat.blt y 101 = true) (h : mm_ok cv (mm_Runs d) o false cc rt L L 0 (mm_ini nL as) [] q e) (he : e = some (a, q1)) : mm_Runs (d + 1) y as (mm_wq L q) (cv a) (mm_wq L q1) := by
  unfold mm_Runs
  rw [hm]
  refine ⟨hl, by rw [mm_me_len]; exact Nat.le_of_ble_eq_true hy, ?_⟩
  dsimp only
  rw [hi]
  exact h a q1 he
end MMP
theorem mm_gn_out : ∀ (l : List (Nat → Option Nat)) (k : Nat), l.length ≤ k → mm_gn l k = fun _ => none
  | [], _, _ => rfl
  | _ :: _, 0, h => absurd h (by simp)
  | _ :: l, n + 1, h => mm_gn_out l n (Nat.le_of_succ_le_succ h)
theorem mm_S_len (l n : Nat) : (mm_S (l, n)).length = 56 + n := by
  have e : (mm_S (l, n)).length = (mm_rw n).length + 56 := rfl
  rw [e, mm_rw_len]
  omega
/-- a fresh row of ints -/
def mm_nwr (q : mm_Q) (k : Nat) : mm_Q := (mm_uc q.1 k (fun _ => 0), mm_uc q.2 k (fun _ => 0))
theorem mm_G_new (k : Nat) (h : 56 ≤ k) : mm_uc mm_G k (fun _ => none) = mm_G := by
  funext a
  by_cases e : a = k
  · rw [e, mm_uc_self]
    exact (mm_gn_out _ _ (by show 56 ≤ k; exact h)).symm
  · exact mm_uc_ne _ _ e
theorem mm_wq_new (l n : Nat) (q : mm_Q) : mm_wq (l, n + 1) (mm_nwr q (56 + n)) = (((mm_S (l, n)) ++ [(0, mm_rl n)], mm_uc q.1 (mm_S (l, n)).length (fun _ => 0), mm_uc q.2 (mm_S (l, n)).length (fun _ => 0), mm_uc mm_G (mm_S (l, n)).length (fun _ => none)) : mm_W) := by
  rw [mm_S_len, mm_G_new _ (by omega)]
  rfl
theorem mm_ok_new {α : Type} {cv : α → Option Value} {Cl : mm_Cl} {o : Nat} {cc : ByteArray} {rt : Option FieldType} {L9 : mm_LT} {l n pc pc' : Nat} {lo : mm_L} {st : List Value} {q : mm_Q} {x : Int32} {e : mm_Q → Option (α × mm_Q)} (hx : x.toNatClampNeg = mm_rl n) (h0 : ¬ x < 0) (hc : mm_chk o false cc pc [(.newarray .int, 2)] = true) (hp : pc + 2 = pc') (h : ∀ q', mm_ok cv Cl o false cc rt L9 (l, n + 1) pc' lo (.ref (56 + n) :: st) q' (e q')) : mm_ok cv Cl o false cc rt L9 (l, n) pc lo (.int x :: st) q (mm_lt (mm_nwr q (56 + n)) e) := by
  intro a q1 h1
  subst hp
  have h2 := h (mm_nwr q (56 + n)) a q1 h1
  rw [mm_wq_new] at h2
  refine mm_go_bl [(.newarray .int, 2)] pc lo (.int x :: st) (mm_wq (l, n) q) ((¬ x < 0 ∧ x.toNatClampNeg ≤ 100000) ∧ True) lo (.ref (56 + n) :: st) (((mm_S (l, n)) ++ [(0, mm_rl n)], mm_uc q.1 (mm_S (l, n)).length (fun _ => 0), mm_uc q.2 (mm_S (l, n)).length (fun _ => 0), mm_uc mm_G (mm_S (l, n)).length (fun _ => none)) : mm_W) hc ?_ ⟨⟨h0, ?_⟩, trivial⟩ h2
  · rw [← hx, ← mm_S_len l n]
    rfl
  · rw [hx]
    unfold mm_rl
    split <;> omega
/-- which turn it is -/
def mm_tu (t : Nat) : Prop := t = 0 ∨ t = 1 ∨ t = 2 ∨ t = 3 ∨ t = 4 ∨ t = 5
def mm_tb (t : Nat) : Bool := Nat.ble t 5
theorem mm_tb_ok {t : Nat} (h : mm_tb t = true) : mm_tu t := by
  have := Nat.le_of_ble_eq_true h
  unfold mm_tu
  omega
theorem mm_tr {t : Nat} (h : mm_tu t) : mm_rl (3 * t) = 3 ∧ mm_rl (3 * t + 1) = 3 ∧ mm_rl (3 * t + 2) = 9 := by
  rcases h with rfl | rfl | rfl | rfl | rfl | rfl <;> decide
/-- the law's last turn is over -/
theorem mm_ok_end {α : Type} {cv : α → Option Value} {Cl : mm_Cl} {o : Nat} {cc : ByteArray} {rt : Option FieldType} {l t pc : Nat} {lo : mm_L} {st : List Value} {q : mm_Q} {e : Option (α × mm_Q)} (h : t = 6 → mm_ok cv Cl o false cc rt (l, 18) (l, 18) pc lo st q e) : mm_ok cv Cl o false cc rt (l, 18) (l, 3 * t) pc lo st q (mm_ck (Nat.beq t 6) e) := by
  refine mm_ok_ck (fun c => ?_)
  have := Nat.eq_of_beq_eq_true c
  subst this
  exact h rfl

