/-! what the acts answer, and which bodies run: the class -/
def Sv (nb b x : Int32) : Int32 := if b = 20 then x + nb + 3 else if b = 70 then (x + nb) * 2 else x + nb
def Sl (b : Int32) : List Int32 := if b = 20 then [20, 1] else if b = 70 then [70, 1] else [1]
def Rv (nb : Int32) (K : Nat) (b x : Int32) : Int32 := if b = 40 then (x ^^^ nb) * 3 else if b = 50 then (x ^^^ nb) - Sv nb (tab K 0) 2 else x ^^^ nb
def Rl (K : Nat) (b : Int32) : List Int32 := if b = 40 then [40, 11] else if b = 50 then [50, 11] ++ Sl (tab K 0) else [11]
def L0v (nb : Int32) (K : Nat) (x : Int32) : Int32 := Sv nb (tab K 0) x * 2
def L0l (K : Nat) : List Int32 := [10] ++ Sl (tab K 0)
def Lv (nb : Int32) (K : Nat) (b x : Int32) : Int32 := if b = 30 then -(L0v nb K x) else if b = 41 then -(L0v nb K (x + 1)) else if b = 80 then L0v nb K x + Rv nb K (tab K 2) 2 else L0v nb K x
def Ll (K : Nat) (b : Int32) : List Int32 := if b = 30 then [30] ++ L0l K else if b = 41 then [41] ++ ([30] ++ L0l K) else if b = 80 then [80] ++ (L0l K ++ Rl K (tab K 2)) else L0l K
def T0v (nb : Int32) (K : Nat) (x : Int32) : Int32 := Lv nb K (tab K 1) x - Rv nb K (tab K 2) 1
def T0l (K : Nat) : List Int32 := [2] ++ (Ll K (tab K 1) ++ Rl K (tab K 2))
def Tv (nb : Int32) (K : Nat) (b x : Int32) : Int32 := if b = 60 then T0v nb K x ^^^ 5 else if b = 81 then T0v nb K x - 1 else T0v nb K x
def Tl (K : Nat) (b : Int32) : List Int32 := if b = 60 then [60] ++ T0l K else if b = 81 then [81] ++ T0l K else T0l K
theorem tabS_c {k : Nat} (hk : k < 8) : (tab k 0 = 1 ∧ (k = 0 ∨ k = 2 ∨ k = 3 ∨ k = 5)) ∨ (tab k 0 = 20 ∧ (k = 1 ∨ k = 4 ∨ k = 7)) ∨ (tab k 0 = 70 ∧ k = 6) := by
  obtain ⟨a0, a1, a2, a3, a4, a5, a6, a7⟩ := tab_S
  rcases (show k = 0 ∨ k = 1 ∨ k = 2 ∨ k = 3 ∨ k = 4 ∨ k = 5 ∨ k = 6 ∨ k = 7 by omega) with rfl | rfl | rfl | rfl | rfl | rfl | rfl | rfl
  · exact Or.inl ⟨a0, by omega⟩
  · exact Or.inr (Or.inl ⟨a1, by omega⟩)
  · exact Or.inl ⟨a2, by omega⟩
  · exact Or.inl ⟨a3, by omega⟩
  · exact Or.inr (Or.inl ⟨a4, by omega⟩)
  · exact Or.inl ⟨a5, by omega⟩
  · exact Or.inr (Or.inr ⟨a6, by omega⟩)
  · exact Or.inr (Or.inl ⟨a7, by omega⟩)
theorem tabR_c {k : Nat} (hk : k < 8) : (tab k 2 = 11 ∧ (k = 0 ∨ k = 1 ∨ k = 2 ∨ k = 6)) ∨ (tab k 2 = 40 ∧ (k = 3 ∨ k = 5)) ∨ (tab k 2 = 50 ∧ (k = 4 ∨ k = 7)) := by
  obtain ⟨a0, a1, a2, a3, a4, a5, a6, a7⟩ := tab_R
  rcases (show k = 0 ∨ k = 1 ∨ k = 2 ∨ k = 3 ∨ k = 4 ∨ k = 5 ∨ k = 6 ∨ k = 7 by omega) with rfl | rfl | rfl | rfl | rfl | rfl | rfl | rfl
  · exact Or.inl ⟨a0, by omega⟩
  · exact Or.inl ⟨a1, by omega⟩
  · exact Or.inl ⟨a2, by omega⟩
  · exact Or.inr (Or.inl ⟨a3, by omega⟩)
  · exact Or.inr (Or.inr ⟨a4, by omega⟩)
  · exact Or.inr (Or.inl ⟨a5, by omega⟩)
  · exact Or.inl ⟨a6, by omega⟩
  · exact Or.inr (Or.inr ⟨a7, by omega⟩)
theorem tabL_c {k : Nat} (hk : k < 8) : (tab k 1 = 10 ∧ (k = 0 ∨ k = 1 ∨ k = 4 ∨ k = 6)) ∨ (tab k 1 = 30 ∧ k = 2) ∨ (tab k 1 = 41 ∧ (k = 3 ∨ k = 5)) ∨ (tab k 1 = 80 ∧ k = 7) := by
  obtain ⟨a0, a1, a2, a3, a4, a5, a6, a7⟩ := tab_L
  rcases (show k = 0 ∨ k = 1 ∨ k = 2 ∨ k = 3 ∨ k = 4 ∨ k = 5 ∨ k = 6 ∨ k = 7 by omega) with rfl | rfl | rfl | rfl | rfl | rfl | rfl | rfl
  · exact Or.inl ⟨a0, by omega⟩
  · exact Or.inl ⟨a1, by omega⟩
  · exact Or.inr (Or.inl ⟨a2, by omega⟩)
  · exact Or.inr (Or.inr (Or.inl ⟨a3, by omega⟩))
  · exact Or.inl ⟨a4, by omega⟩
  · exact Or.inr (Or.inr (Or.inl ⟨a5, by omega⟩))
  · exact Or.inl ⟨a6, by omega⟩
  · exact Or.inr (Or.inr (Or.inr ⟨a7, by omega⟩))
theorem tabT_c {k : Nat} (hk : k < 8) : (tab k 3 = 2 ∧ k ≠ 5 ∧ k ≠ 7) ∨ (tab k 3 = 60 ∧ k = 5) ∨ (tab k 3 = 81 ∧ k = 7) := by
  obtain ⟨a0, a1, a2, a3, a4, a5, a6, a7⟩ := tab_T
  rcases (show k = 0 ∨ k = 1 ∨ k = 2 ∨ k = 3 ∨ k = 4 ∨ k = 5 ∨ k = 6 ∨ k = 7 by omega) with rfl | rfl | rfl | rfl | rfl | rfl | rfl | rfl
  · exact Or.inl ⟨a0, by omega⟩
  · exact Or.inl ⟨a1, by omega⟩
  · exact Or.inl ⟨a2, by omega⟩
  · exact Or.inl ⟨a3, by omega⟩
  · exact Or.inl ⟨a4, by omega⟩
  · exact Or.inr (Or.inl ⟨a5, by omega⟩)
  · exact Or.inl ⟨a6, by omega⟩
  · exact Or.inr (Or.inr ⟨a7, by omega⟩)
theorem Sl_len (b : Int32) : (Sl b).length ≤ 2 := by
  unfold Sl
  by_cases h : b = 20
  · rw [if_pos h]; decide
  · rw [if_neg h]
    by_cases h2 : b = 70
    · rw [if_pos h2]; decide
    · rw [if_neg h2]; decide
theorem Rl_len (K : Nat) (b : Int32) : (Rl K b).length ≤ 4 := by
  have := Sl_len (tab K 0)
  unfold Rl
  by_cases h : b = 40
  · rw [if_pos h]; decide
  · rw [if_neg h]
    by_cases h2 : b = 50
    · rw [if_pos h2, List.length_append]
      show 2 + _ ≤ 4
      omega
    · rw [if_neg h2]; decide
theorem L0l_len (K : Nat) : (L0l K).length ≤ 3 := by
  have := Sl_len (tab K 0)
  unfold L0l
  rw [List.length_append]
  show 1 + _ ≤ 3
  omega
theorem Ll_len (K : Nat) (b : Int32) : (Ll K b).length ≤ 8 := by
  have h1 := L0l_len K
  have h2 := Rl_len K (tab K 2)
  unfold Ll
  by_cases c1 : b = 30
  · rw [if_pos c1, List.length_append]
    show 1 + _ ≤ 8
    omega
  rw [if_neg c1]
  by_cases c2 : b = 41
  · rw [if_pos c2, List.length_append, List.length_append]
    show 1 + (1 + _) ≤ 8
    omega
  rw [if_neg c2]
  by_cases c3 : b = 80
  · rw [if_pos c3, List.length_append, List.length_append]
    show 1 + _ ≤ 8
    omega
  rw [if_neg c3]
  omega
theorem T0l_len (K : Nat) : (T0l K).length ≤ 13 := by
  have h1 := Ll_len K (tab K 1)
  have h2 := Rl_len K (tab K 2)
  unfold T0l
  rw [List.length_append, List.length_append]
  show 1 + _ ≤ 13
  omega
section AW
variable {nb : Int32} {K n : Nat} {q : mm_Q}
theorem dp_s {dp : Int32} {m : Nat} (h : dp.toInt = m) (hm : m < 100) : (dp + 1).toInt = ((m + 1 : Nat) : Int) := mm_inc1 h (by omega)
theorem fly1_eq (h : cA nb K n q) (d : Nat) (x dp z : Int32) : g_x0_own (d + 1) 3 1 x dp z q = some (x + nb, q) := by
  show x0_flying (g_x0_own d) 1 x dp q = _
  unfold x0_flying
  rw [if_pos rfl, h.2.1]
theorem cls_S0 (h : cA nb K n q) (hn : n < 890) (d : Nat) {k : Nat} (hk : k < 8) (ht : tab k 0 = 1) (x : Int32) {dp : Int32} (hd : dp.toInt ≤ 40) : g_x0_own (d + 2) 2 (Int32.ofNat k) 0 x dp q = some (x + nb, bgn 1 q) := by
  refine (from01_eq h (by omega) (d + 1) hk (w := 0) (by decide) x hd).trans ?_
  rw [ht]
  exact fly1_eq (cA_bgn h (by omega) 1) d x (dp + 1) 0
theorem cls_S (h : cA nb K n q) (hn : n < 880) (d : Nat) {k : Nat} (hk : k < 8) (x : Int32) {dp : Int32} {m : Nat} (hd : dp.toInt = m) (hm : m ≤ 39) : g_x0_own (d + 5) 2 (Int32.ofNat k) 0 x dp q = some (Sv nb (tab k 0) x, bgL (Sl (tab k 0)) q) := by
  rcases tabS_c hk with ⟨ht, -⟩ | ⟨ht, -⟩ | ⟨ht, -⟩
  · rw [ht]
    exact cls_S0 h (by omega) (d + 3) hk ht x (by omega)
  · refine (from01_eq h (by omega) (d + 4) hk (w := 0) (by decide) x (by omega)).trans ?_
    rw [ht]
    have h1 := cA_bgn h (by omega) 20
    have e : g_x0_own (d + 3) 1 (1 : Int32) (0 : Int32) x (dp + 1) (bgn 20 q) = some (x + nb, bgn 1 (bgn 20 q)) := (above_eq h1 (d + 2) (k := 1) (by decide) 0 x (dp + 1)).trans (cls_S0 h1 (by omega) d (k := 0) (by decide) tab_S.1 x (by rw [dp_s hd (by omega)]; omega))
    show x0_flying (g_x0_own (d + 3)) 20 x (dp + 1) (bgn 20 q) = _
    unfold x0_flying
    rw [if_neg (by decide), if_neg (by decide), if_pos rfl, e, mm_cl_s]
    rfl
  · refine (from01_eq h (by omega) (d + 4) hk (w := 0) (by decide) x (by omega)).trans ?_
    rw [ht]
    have h1 := cA_bgn h (by omega) 70
    have e : g_x0_own (d + 3) 1 (6 : Int32) (0 : Int32) x (dp + 1) (bgn 70 q) = some (x + nb, bgn 1 (bgn 70 q)) := (above_eq h1 (d + 2) (k := 6) (by decide) 0 x (dp + 1)).trans (cls_S0 h1 (by omega) d (k := 0) (by decide) tab_S.1 x (by rw [dp_s hd (by omega)]; omega))
    show x0_flying (g_x0_own (d + 3)) 70 x (dp + 1) (bgn 70 q) = _
    unfold x0_flying
    rw [if_neg (by decide), if_neg (by decide), if_neg (by decide), if_neg (by decide), if_neg (by decide), if_pos rfl, e, mm_cl_s]
    rfl
theorem cls_R0 (h : cA nb K n q) (hn : n < 890) (d : Nat) {k : Nat} (hk : k < 8) (ht : tab k 2 = 11) (x : Int32) {dp : Int32} (hd : dp.toInt ≤ 40) : g_x0_own (d + 2) 2 (Int32.ofNat k) 2 x dp q = some (x ^^^ nb, bgn 11 q) := by
  refine (from23_eq h (by omega) (d + 1) hk (w := 2) (Or.inl rfl) x hd).trans ?_
  rw [ht]
  show x0_ending (g_x0_own d) 11 x (dp + 1) (bgn 11 q) = _
  unfold x0_ending
  rw [if_neg (by decide), if_pos rfl, (cA_bgn h (by omega) 11).2.1]
theorem cls_R (h : cA nb K n q) (hK : K < 8) (hn : n < 870) (d : Nat) {k : Nat} (hk : k < 8) (x : Int32) {dp : Int32} {m : Nat} (hd : dp.toInt = m) (hm : m ≤ 37) : g_x0_own (d + 8) 2 (Int32.ofNat k) 2 x dp q = some (Rv nb K (tab k 2) x, bgL (Rl K (tab k 2)) q) := by
  rcases tabR_c hk with ⟨ht, -⟩ | ⟨ht, -⟩ | ⟨ht, -⟩
  · rw [ht]
    exact cls_R0 h (by omega) (d + 6) hk ht x (by omega)
  · refine (from23_eq h (by omega) (d + 7) hk (w := 2) (Or.inl rfl) x (by omega)).trans ?_
    rw [ht]
    have h1 := cA_bgn h (by omega) 40
    have e : g_x0_own (d + 6) 1 (3 : Int32) (2 : Int32) x (dp + 1) (bgn 40 q) = some (x ^^^ nb, bgn 11 (bgn 40 q)) := (above_eq h1 (d + 5) (k := 3) (by decide) 2 x (dp + 1)).trans (cls_R0 h1 (by omega) (d + 3) (k := 2) (by decide) tab_R.2.2.1 x (by rw [dp_s hd (by omega)]; omega))
    show x0_ending (g_x0_own (d + 6)) 40 x (dp + 1) (bgn 40 q) = _
    unfold x0_ending
    rw [if_neg (by decide), if_neg (by decide), if_pos rfl, e, mm_cl_s]
    rfl
  · refine (from23_eq h (by omega) (d + 7) hk (w := 2) (Or.inl rfl) x (by omega)).trans ?_
    rw [ht]
    have h1 := cA_bgn h (by omega) 50
    have h2 := cA_bgn h1 (by omega) 11
    have e : g_x0_own (d + 6) 1 (4 : Int32) (2 : Int32) x (dp + 1) (bgn 50 q) = some (x ^^^ nb, bgn 11 (bgn 50 q)) := (above_eq h1 (d + 5) (k := 4) (by decide) 2 x (dp + 1)).trans (cls_R0 h1 (by omega) (d + 3) (k := 1) (by decide) tab_R.2.1 x (by rw [dp_s hd (by omega)]; omega))
    have e2 : g_x0_own (d + 6) 0 (0 : Int32) (2 : Int32) (dp + 1) 0 (bgn 11 (bgn 50 q)) = some (Sv nb (tab K 0) 2, bgL (Sl (tab K 0)) (bgn 11 (bgn 50 q))) := (own_eq h2 (d + 5) 0 2 (dp + 1) 0).trans (cls_S h2 (by omega) d hK 2 (dp_s hd (by omega)) (by omega))
    show x0_ending (g_x0_own (d + 6)) 50 x (dp + 1) (bgn 50 q) = _
    unfold x0_ending
    rw [if_neg (by decide), if_neg (by decide), if_neg (by decide), if_pos rfl, e, mm_cl_s, e2, mm_cl_s]
    rfl
theorem cls_L0 (h : cA nb K n q) (hK : K < 8) (hn : n < 870) (d : Nat) {k : Nat} (hk : k < 8) (ht : tab k 1 = 10) (x : Int32) {dp : Int32} {m : Nat} (hd : dp.toInt = m) (hm : m ≤ 37) : g_x0_own (d + 8) 2 (Int32.ofNat k) 1 x dp q = some (L0v nb K x, bgL (L0l K) q) := by
  refine (from01_eq h (by omega) (d + 7) hk (w := 1) (by decide) x (by omega)).trans ?_
  rw [ht]
  have h1 := cA_bgn h (by omega) 10
  have e : g_x0_own (d + 6) 0 (0 : Int32) x (dp + 1) 0 (bgn 10 q) = some (Sv nb (tab K 0) x, bgL (Sl (tab K 0)) (bgn 10 q)) := (own_eq h1 (d + 5) 0 x (dp + 1) 0).trans (cls_S h1 (by omega) d hK x (dp_s hd (by omega)) (by omega))
  show x0_flying (g_x0_own (d + 6)) 10 x (dp + 1) (bgn 10 q) = _
  unfold x0_flying
  rw [if_neg (by decide), if_pos rfl, e, mm_cl_s]
  rfl
theorem cls_L2 (h : cA nb K n q) (hK : K < 8) (hn : n < 860) (d : Nat) (x : Int32) {dp : Int32} {m : Nat} (hd : dp.toInt = m) (hm : m ≤ 35) : g_x0_own (d + 11) 2 (2 : Int32) 1 x dp q = some (-(L0v nb K x), bgL ([30] ++ L0l K) q) := by
  refine (from01_eq h (by omega) (d + 10) (k := 2) (by decide) (w := 1) (by decide) x (by omega)).trans ?_
  rw [tab_L.2.2.1]
  have h1 := cA_bgn h (by omega) 30
  have e : g_x0_own (d + 9) 1 (2 : Int32) (1 : Int32) x (dp + 1) (bgn 30 q) = some (L0v nb K x, bgL (L0l K) (bgn 30 q)) := (above_eq h1 (d + 8) (k := 2) (by decide) 1 x (dp + 1)).trans (cls_L0 h1 hK (by omega) d (k := 0) (by decide) tab_L.1 x (dp_s hd (by omega)) (by omega))
  show x0_flying (g_x0_own (d + 9)) 30 x (dp + 1) (bgn 30 q) = _
  unfold x0_flying
  rw [if_neg (by decide), if_neg (by decide), if_neg (by decide), if_pos rfl, e, mm_cl_s]
  rfl
theorem cls_L (h : cA nb K n q) (hK : K < 8) (hn : n < 850) (d : Nat) {k : Nat} (hk : k < 8) (x : Int32) {dp : Int32} {m : Nat} (hd : dp.toInt = m) (hm : m ≤ 33) : g_x0_own (d + 14) 2 (Int32.ofNat k) 1 x dp q = some (Lv nb K (tab k 1) x, bgL (Ll K (tab k 1)) q) := by
  rcases tabL_c hk with ⟨ht, -⟩ | ⟨ht, hk2⟩ | ⟨ht, -⟩ | ⟨ht, -⟩
  · have := cls_L0 h hK (by omega) (d + 6) hk ht x hd (by omega)
    rw [ht]
    exact this
  · subst hk2
    have := cls_L2 h hK (by omega) (d + 3) x hd (by omega)
    rw [ht]
    exact this
  · refine (from01_eq h (by omega) (d + 13) hk (w := 1) (by decide) x (by omega)).trans ?_
    rw [ht]
    have h1 := cA_bgn h (by omega) 41
    have e : g_x0_own (d + 12) 1 (3 : Int32) (1 : Int32) (x + 1) (dp + 1) (bgn 41 q) = some (-(L0v nb K (x + 1)), bgL ([30] ++ L0l K) (bgn 41 q)) := (above_eq h1 (d + 11) (k := 3) (by decide) 1 (x + 1) (dp + 1)).trans (cls_L2 h1 hK (by omega) d (x + 1) (dp_s hd (by omega)) (by omega))
    show x0_flying (g_x0_own (d + 12)) 41 x (dp + 1) (bgn 41 q) = _
    unfold x0_flying
    rw [if_neg (by decide), if_neg (by decide), if_neg (by decide), if_neg (by decide), if_pos rfl, e, mm_cl_s]
    rfl
  · refine (from01_eq h (by omega) (d + 13) hk (w := 1) (by decide) x (by omega)).trans ?_
    rw [ht]
    have h1 := cA_bgn h (by omega) 80
    have e : g_x0_own (d + 12) 1 (7 : Int32) (1 : Int32) x (dp + 1) (bgn 80 q) = some (L0v nb K x, bgL (L0l K) (bgn 80 q)) := (above_eq h1 (d + 11) (k := 7) (by decide) 1 x (dp + 1)).trans (cls_L0 h1 hK (by omega) (d + 3) (k := 4) (by decide) tab_L.2.2.2.2.1 x (dp_s hd (by omega)) (by omega))
    have l0 := L0l_len K
    have h2 := cA_bgL (L0l K) _ _ h1 (by omega)
    have e2 : g_x0_own (d + 12) 0 (2 : Int32) (2 : Int32) (dp + 1) 0 (bgL (L0l K) (bgn 80 q)) = some (Rv nb K (tab K 2) 2, bgL (Rl K (tab K 2)) (bgL (L0l K) (bgn 80 q))) := (own_eq h2 (d + 11) 2 2 (dp + 1) 0).trans (cls_R h2 hK (by omega) (d + 3) hK 2 (dp_s hd (by omega)) (by omega))
    show x0_flying (g_x0_own (d + 12)) 80 x (dp + 1) (bgn 80 q) = _
    unfold x0_flying
    rw [if_neg (by decide), if_neg (by decide), if_neg (by decide), if_neg (by decide), if_neg (by decide), if_neg (by decide), if_pos rfl, e, mm_cl_s, e2, mm_cl_s, ← bgL_app]
    rfl
theorem cls_T0 (h : cA nb K n q) (hK : K < 8) (hn : n < 830) (d : Nat) {k : Nat} (hk : k < 8) (ht : tab k 3 = 2) (x : Int32) {dp : Int32} {m : Nat} (hd : dp.toInt = m) (hm : m ≤ 30) : g_x0_own (d + 17) 2 (Int32.ofNat k) 3 x dp q = some (T0v nb K x, bgL (T0l K) q) := by
  refine (from23_eq h (by omega) (d + 16) hk (w := 3) (Or.inr rfl) x (by omega)).trans ?_
  rw [ht]
  have h1 := cA_bgn h (by omega) 2
  have e : g_x0_own (d + 15) 0 (1 : Int32) x (dp + 1) 0 (bgn 2 q) = some (Lv nb K (tab K 1) x, bgL (Ll K (tab K 1)) (bgn 2 q)) := (own_eq h1 (d + 14) 1 x (dp + 1) 0).trans (cls_L h1 hK (by omega) d hK x (dp_s hd (by omega)) (by omega))
  have l0 := Ll_len K (tab K 1)
  have h2 := cA_bgL (Ll K (tab K 1)) _ _ h1 (by omega)
  have e2 : g_x0_own (d + 15) 0 (2 : Int32) (1 : Int32) (dp + 1) 0 (bgL (Ll K (tab K 1)) (bgn 2 q)) = some (Rv nb K (tab K 2) 1, bgL (Rl K (tab K 2)) (bgL (Ll K (tab K 1)) (bgn 2 q))) := (own_eq h2 (d + 14) 2 1 (dp + 1) 0).trans (cls_R h2 hK (by omega) (d + 6) hK 1 (dp_s hd (by omega)) (by omega))
  show x0_ending (g_x0_own (d + 15)) 2 x (dp + 1) (bgn 2 q) = _
  unfold x0_ending
  rw [if_pos rfl, e, mm_cl_s, e2, mm_cl_s, ← bgL_app]
  rfl
theorem cls_T (h : cA nb K n q) (hK : K < 8) (hn : n < 820) (d : Nat) {k : Nat} (hk : k < 8) (x : Int32) {dp : Int32} {m : Nat} (hd : dp.toInt = m) (hm : m ≤ 28) : g_x0_own (d + 20) 2 (Int32.ofNat k) 3 x dp q = some (Tv nb K (tab k 3) x, bgL (Tl K (tab k 3)) q) := by
  rcases tabT_c hk with ⟨ht, -⟩ | ⟨ht, -⟩ | ⟨ht, -⟩
  · have := cls_T0 h hK (by omega) (d + 3) hk ht x hd (by omega)
    rw [ht]
    exact this
  · refine (from23_eq h (by omega) (d + 19) hk (w := 3) (Or.inr rfl) x (by omega)).trans ?_
    rw [ht]
    have h1 := cA_bgn h (by omega) 60
    have e : g_x0_own (d + 18) 1 (5 : Int32) (3 : Int32) x (dp + 1) (bgn 60 q) = some (T0v nb K x, bgL (T0l K) (bgn 60 q)) := (above_eq h1 (d + 17) (k := 5) (by decide) 3 x (dp + 1)).trans (cls_T0 h1 hK (by omega) d (k := 3) (by decide) tab_T.2.2.2.1 x (dp_s hd (by omega)) (by omega))
    show x0_ending (g_x0_own (d + 18)) 60 x (dp + 1) (bgn 60 q) = _
    unfold x0_ending
    rw [if_neg (by decide), if_neg (by decide), if_neg (by decide), if_neg (by decide), if_pos rfl, e, mm_cl_s]
    rfl
  · refine (from23_eq h (by omega) (d + 19) hk (w := 3) (Or.inr rfl) x (by omega)).trans ?_
    rw [ht]
    have h1 := cA_bgn h (by omega) 81
    have e : g_x0_own (d + 18) 1 (7 : Int32) (3 : Int32) x (dp + 1) (bgn 81 q) = some (T0v nb K x, bgL (T0l K) (bgn 81 q)) := (above_eq h1 (d + 17) (k := 7) (by decide) 3 x (dp + 1)).trans (cls_T0 h1 hK (by omega) d (k := 4) (by decide) tab_T.2.2.2.2.1 x (dp_s hd (by omega)) (by omega))
    show x0_ending (g_x0_own (d + 18)) 81 x (dp + 1) (bgn 81 q) = _
    unfold x0_ending
    rw [if_neg (by decide), if_neg (by decide), if_neg (by decide), if_neg (by decide), if_neg (by decide), if_pos rfl, e, mm_cl_s]
    rfl
end AW
