/-! the law's orders: all numbers from the last on -/
/-- the bits seen -/
def sn : List Nat → Int32
  | [] => 0
  | d :: ds => sn ds ||| ((1 : Int32) <<< (Int32.ofNat d &&& 31))
/-- the two, asked of one number -/
def seenB (m x : Nat) : Bool := !(decide (x < m ^ m)) || ((decide (sn (dgs m m x) = ((1 : Int32) <<< (Int32.ofNat m &&& 31)) - 1) == isP (lb (fun _ => true) m 0) (dgs m m x)) && decide (num m (dgs m m x) = x))
/-- all from x on, in halves -/
def halves (p : Nat → Bool) : Nat → Nat → Bool
  | 0, x => p x
  | d + 1, x => halves p d x && halves p d (x + 2 ^ d)
theorem halves_all (p : Nat → Bool) : ∀ d x, halves p d x = true → ∀ y, x ≤ y → y < x + 2 ^ d → p y = true
  | 0, x, h, y, h1, h2 => by
    have e : y = x := by omega
    rw [e]
    exact h
  | d + 1, x, h, y, h1, h2 => by
    have h' : (halves p d x && halves p d (x + 2 ^ d)) = true := h
    rw [Bool.and_eq_true] at h'
    have e2 : 2 ^ (d + 1) = 2 ^ d + 2 ^ d := by omega
    by_cases c : y < x + 2 ^ d
    · exact halves_all p d x h'.1 y h1 c
    · exact halves_all p d (x + 2 ^ d) h'.2 y (by omega) (by omega)
theorem seen_0 : halves (seenB 0) 0 0 = true := by decide +kernel
theorem seen_1 : halves (seenB 1) 0 0 = true := by decide +kernel
theorem seen_2 : halves (seenB 2) 2 0 = true := by decide +kernel
theorem seen_3 : halves (seenB 3) 5 0 = true := by decide +kernel
theorem seen_4 : halves (seenB 4) 8 0 = true := by decide +kernel
theorem seen_5 : halves (seenB 5) 12 0 = true := by decide +kernel
theorem seen_both (m : Nat) (hm : m < 6) (x : Nat) (hx : x < m ^ m) : seenB m x = true := by
  match m, hm, hx with
  | 0, _, hx => exact halves_all _ _ _ seen_0 x (Nat.zero_le _) (by simpa using hx)
  | 1, _, hx => exact halves_all _ _ _ seen_1 x (Nat.zero_le _) (by simpa using hx)
  | 2, _, hx => exact halves_all _ _ _ seen_2 x (Nat.zero_le _) (by omega)
  | 3, _, hx => exact halves_all _ _ _ seen_3 x (Nat.zero_le _) (by omega)
  | 4, _, hx => exact halves_all _ _ _ seen_4 x (Nat.zero_le _) (by omega)
  | 5, _, hx => exact halves_all _ _ _ seen_5 x (Nat.zero_le _) (by omega)
theorem seen_two (m : Nat) (hm : m < 6) (x : Nat) (hx : x < m ^ m) : (decide (sn (dgs m m x) = ((1 : Int32) <<< (Int32.ofNat m &&& 31)) - 1) = isP (lb (fun _ => true) m 0) (dgs m m x)) ∧ num m (dgs m m x) = x := by
  have h : (!(decide (x < m ^ m)) || ((decide (sn (dgs m m x) = ((1 : Int32) <<< (Int32.ofNat m &&& 31)) - 1) == isP (lb (fun _ => true) m 0) (dgs m m x)) && decide (num m (dgs m m x) = x))) = true := seen_both m hm x hx
  rw [decide_eq_true hx, Bool.not_true, Bool.false_or, Bool.and_eq_true, beq_iff_eq, decide_eq_true_eq] at h
  exact h
theorem seen_ok (m : Nat) (hm : m < 6) (x : Nat) (hx : x < m ^ m) : (sn (dgs m m x) = ((1 : Int32) <<< (Int32.ofNat m &&& 31)) - 1) ↔ isP (lb (fun _ => true) m 0) (dgs m m x) = true := by
  rw [← (seen_two m hm x hx).1, decide_eq_true_eq]
theorem numdg (m : Nat) (hm : m < 6) (x : Nat) (hx : x < m ^ m) : num m (dgs m m x) = x := (seen_two m hm x hx).2
theorem pow_s : ∀ m, m < 6 → m ^ m ≤ 3125 ∧ ∀ i, i < 6 → m ^ i ≤ 3125 := by decide
/-- what has been found among the numbers from k on -/
def JO (V : Nat → Int32) (P : Nat → Bool) (M k : Nat) (sc fo : Int32) : Prop := (∀ x, k ≤ x → x < M → P x = true → (V x).toInt ≤ sc.toInt ∧ (V x = sc → fo.toInt ≤ (x : Int))) ∧ (sc = -1 ∨ ∃ x, x < M ∧ P x = true ∧ V x = sc ∧ fo.toInt = (x : Int))
theorem JO_yes {V : Nat → Int32} {P : Nat → Bool} {M k : Nat} {sc fo a : Int32} (h : JO V P M (k + 1) sc fo) (hk : k < M) (hp : P k = true) (hv : sc ≤ V k) (ha : a.toInt = k) : JO V P M k (V k) a := by
  rw [le32] at hv
  refine ⟨fun x h1 h2 h3 => ?_, Or.inr ⟨k, hk, hp, rfl, ha⟩⟩
  by_cases e : x = k
  · rw [e]
    exact ⟨Int.le_refl _, fun _ => by omega⟩
  · have := h.1 x (by omega) h2 h3
    exact ⟨by omega, fun _ => by omega⟩
theorem JO_no {V : Nat → Int32} {P : Nat → Bool} {M k : Nat} {sc fo : Int32} (h : JO V P M (k + 1) sc fo) (hn : ¬ (P k = true ∧ sc ≤ V k)) : JO V P M k sc fo := by
  refine ⟨fun x h1 h2 h3 => ?_, h.2⟩
  by_cases e : x = k
  · rw [e] at h3 ⊢
    have : ¬ sc ≤ V k := fun z => hn ⟨h3, z⟩
    rw [le32] at this
    refine ⟨by omega, fun z => ?_⟩
    rw [z] at this
    exact absurd (Int.le_refl _) this
  · exact h.1 x (by omega) h2 h3
theorem all_sorted : ∀ m i, (lb (fun _ => true) m i).Pairwise (· < ·)
  | 0, _ => List.Pairwise.nil
  | m + 1, i => by
    show (i :: lb (fun _ => true) m (i + 1)).Pairwise (· < ·)
    rw [List.pairwise_cons]
    refine ⟨fun y hy => ?_, all_sorted m (i + 1)⟩
    have := (mem_lb (b := fun _ => true) (x := y) m (i + 1)).mp hy
    omega
/-- what the loop over all numbers comes to: the most, and the class's order -/
theorem JO_end {rl : Int32} {w : Nat → Nat → Int32} (hw : ∀ x t, 0 ≤ (w x t).toInt ∧ (w x t).toInt ≤ 129) {m : Nat} (h6 : m < 6) {sc fo : Int32} (h : JO (fun x => pvl rl w 0 (dgs m m x)) (fun x => isP (lb (fun _ => true) m 0) (dgs m m x)) (m ^ m) 0 sc fo) : sc = Mo rl w m (lb (fun _ => true) m 0) 0 ∧ ∃ x : Nat, fo.toInt = x ∧ x < m ^ m ∧ dgs m m x = gr rl w m (lb (fun _ => true) m 0) 0 0 (Mo rl w m (lb (fun _ => true) m 0) 0) := by
  have srt := all_sorted m 0
  have len := lb_true_len m 0
  have mr := Mo_rng (rl := rl) hw m (lb (fun _ => true) m 0) 0 (by omega)
  have hG : tg rl 0 (Mo rl w m (lb (fun _ => true) m 0) 0) = Mo rl w m (lb (fun _ => true) m 0) 0 := tg_0l mr.1
  obtain ⟨g1, g2, g3⟩ := goal_ok (rl := rl) hw (G := Mo rl w m (lb (fun _ => true) m 0) 0) m (lb (fun _ => true) m 0) 0 0 srt len (by omega) (by rw [ti0]; omega) (by rw [ti0]; omega) hG
  have pr := pvl_rng (rl := rl) hw (gr rl w m (lb (fun _ => true) m 0) 0 0 (Mo rl w m (lb (fun _ => true) m 0) 0)) 0 (by omega)
  rw [tg_0l pr.1] at g3
  have hd : ∀ d, d ∈ gr rl w m (lb (fun _ => true) m 0) 0 0 (Mo rl w m (lb (fun _ => true) m 0) 0) → d < m := fun d hd => by
    have := (mem_lb (b := fun _ => true) (x := d) m 0).mp (isP_mem _ _ g1 d hd)
    omega
  have up : ∀ x, isP (lb (fun _ => true) m 0) (dgs m m x) = true → (pvl rl w 0 (dgs m m x)).toInt ≤ (Mo rl w m (lb (fun _ => true) m 0) 0).toInt := fun x hx => pvl_le hw m _ _ 0 (dgs_len m m x) (by omega) hx
  by_cases hm : m = 0
  · subst hm
    have a : (pvl rl w 0 (dgs 0 0 0)).toInt ≤ sc.toInt ∧ (pvl rl w 0 (dgs 0 0 0) = sc → fo.toInt ≤ ((0 : Nat) : Int)) := h.1 0 (Nat.le_refl 0) (by decide) rfl
    have z : pvl rl w 0 (dgs 0 0 0) = 0 := rfl
    rcases h.2 with e | ⟨x, hx, -, h2, h3⟩
    · rw [e, tin1, z, ti0] at a
      omega
    · exact ⟨h2.symm, x, h3, hx, rfl⟩
  · have hm0 : 0 < m := by omega
    obtain ⟨R, hR⟩ : ∃ R, gr rl w m (lb (fun _ => true) m 0) 0 0 (Mo rl w m (lb (fun _ => true) m 0) 0) = R := ⟨_, rfl⟩
    rw [hR] at g1 g2 g3 hd
    have e1 := dgs_num hm0 m R g2 hd
    have n1 := num_lt hm0 R hd
    rw [g2] at n1
    have a : (pvl rl w 0 (dgs m m (num m R))).toInt ≤ sc.toInt ∧ (pvl rl w 0 (dgs m m (num m R)) = sc → fo.toInt ≤ ((num m R : Nat) : Int)) := h.1 (num m R) (Nat.zero_le _) n1 (show isP (lb (fun _ => true) m 0) (dgs m m (num m R)) = true by rw [e1]; exact g1)
    rw [e1, g3] at a
    rcases h.2 with e | ⟨x, hx, h1, h2, h3⟩
    · rw [e, tin1] at a
      have := mr.1
      omega
    · have ux := up x h1
      have hsc : sc = Mo rl w m (lb (fun _ => true) m 0) 0 := by
        have h2' : (pvl rl w 0 (dgs m m x)).toInt = sc.toInt := congrArg Int32.toInt h2
        rw [eq32]
        omega
      have lo := a.2 hsc.symm
      have gl := goal_le (rl := rl) hw (G := Mo rl w m (lb (fun _ => true) m 0) 0) hm0 m (lb (fun _ => true) m 0) 0 0 srt len (by omega) (by rw [ti0]; omega) (by rw [ti0]; omega) (fun d hd => by
        have := (mem_lb (b := fun _ => true) (x := d) m 0).mp hd
        omega) hG (dgs m m x) (dgs_len m m x) h1 (by
        have px := pvl_rng (rl := rl) hw (dgs m m x) 0 (by rw [dgs_len]; omega)
        rw [tg_0l px.1]
        exact h2.trans hsc)
      rw [hR] at gl
      -- x is the number of its own digits
      have xn : num m (dgs m m x) = x := numdg m h6 x hx
      rw [xn] at gl
      have ex : x = num m R := by omega
      refine ⟨hsc, x, h3, hx, ?_⟩
      rw [hR, ex, e1]
