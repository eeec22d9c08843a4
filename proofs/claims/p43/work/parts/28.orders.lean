/-! the law's loops over orders -/
section LO
variable {F : mm_F} {c : Nat → Int32} {sp : Int32} {xs : Nat → Int32} {len : Nat} {rr50 : Nat → Int32 → mm_Q → Option (Int32 × mm_Q)} {t : Nat} {a6 a8 a9 a10 a11 : Int32} {p s : Nat}
/-- the stones that the row of the turn holds -/
def rw9 (t : Nat) (st : List Nat) (q : mm_Q) : Prop := ∀ j, j < st.length → q.1 (56 + (3 * t + 2)) j = Int32.ofNat (st.getD j 0)
abbrev WD (F : mm_F) (c : Nat → Int32) (p : Nat) (ah : Int32) (st : List Nat) (d t : Nat) : Int32 := wo F c p ah (st.getD d 0) t
/-- the digits of one number, from the last on -/
theorem in_h (hb : bd sp c) (hs6 : sp.toInt ≤ 6) (pa : PA sp a8 a9 a10 a11 p s) {q : mm_Q} (hi : IL F c sp xs q) {st : List Nat} (h6 : st.length < 6) (hst : ∀ j, j < st.length → st.getD j 0 < 9) (hr9 : rw9 t st q) {rr : Nat → Int32 → Int32 → Int32 → Int32 → Int32 → Int32 → Int32 → Int32 → Int32 → Int32 → Int32 → mm_Q → Option (Int32 × mm_Q)} {a24 a25 a26 a28 a29 a30 : Int32} (h24 : a24.toInt = st.length) (hrl : a25 = 0 ∨ a25 = 1) {f : Nat} : ∀ (n l : Nat) (ds : List Nat) (a31 a34 : Int32), a31.toInt = l → a34.toInt = (n : Int) - 1 → n ≤ st.length → ∃ b31 b34 : Int32, b34 < 0 ∧ law_h1089 len rr50 rr (f + n + 1) t a6 a8 a9 a10 a11 a24 a25 a26 a28 a29 a30 a31 (sn ds) (pvl a25 (WD F c p a10 st) n ds) a34 q = law_h1089 len rr50 rr (f + 1) t a6 a8 a9 a10 a11 a24 a25 a26 a28 a29 a30 b31 (sn (dgs st.length n l ++ ds)) (pvl a25 (WD F c p a10 st) 0 (dgs st.length n l ++ ds)) b34 q := by
  intro n
  induction n with
  | zero =>
    intro l ds a31 a34 h1 h2 h3
    exact ⟨a31, a34, by rw [lt32, ti0]; omega, rfl⟩
  | succ n ih =>
    intro l ds a31 a34 h1 h2 h3
    obtain ⟨⟨p1, p2⟩, -⟩ := pa
    have hm0 : 0 < st.length := by omega
    have nz : mm_nz a24 = true := by
      unfold mm_nz
      rw [decide_eq_false (by rw [eq32, ti0]; omega)]
      rfl
    have er : (mm_rem a31 a24).toInt = ((l % st.length : Nat) : Int) := by
      rw [rem_ti (by omega) (by omega), h1, h24]
      omega
    have ed : (a31 / a24).toInt = ((l / st.length : Nat) : Int) := by
      rw [div_ti (by omega) (by omega), h1, h24]
      omega
    have lm : l % st.length < st.length := Nat.mod_lt _ hm0
    have e34 : a34 = Int32.ofNat n := mm_ofn (by omega)
    have row : (q.1 (56 + (3 * t + 2)) (l % st.length)).toInt = ((st.getD (l % st.length) 0 : Nat) : Int) := by
      rw [hr9 _ lm, mm_ofNat_ti (by have := hst _ lm; omega)]
    have bst := best_eq (a7 := 0) hi.2.2 hb hs6 p1 p2 row (hst _ lm) (a10 + a34) (Or.inl rfl)
    have ev : BP F c (GL c p (st.getD (l % st.length) 0) (a10 + a34) 0) 0 = WD F c p a10 st (l % st.length) n := by rw [e34]
    rw [ev] at bst
    have em : mm_rem a31 a24 = Int32.ofNat (l % st.length) := mm_ofn er
    obtain ⟨b31, b34, g1, g2⟩ := ih (l / st.length) ((l % st.length) :: ds) (a31 / a24) (a34 + Int32.ofInt (-1)) ed (by
      rw [show Int32.ofInt (-1) = (-1 : Int32) from rfl, mm_add_ti (by rw [tin1]; omega) (by rw [tin1]; omega), tin1]
      omega) (by omega)
    refine ⟨b31, b34, g1, ?_⟩
    have ea : dgs st.length (n + 1) l ++ ds = dgs st.length n (l / st.length) ++ ((l % st.length) :: ds) := by
      show (dgs st.length n (l / st.length) ++ [l % st.length]) ++ ds = _
      rw [List.append_assoc]
      rfl
    have es : sn ds ||| ((1 : Int32) <<< (mm_rem a31 a24 &&& 31)) = sn ((l % st.length) :: ds) := by rw [em]; rfl
    have ep : pvl a25 (WD F c p a10 st) n ((l % st.length) :: ds) = tg a25 (WD F c p a10 st (l % st.length) n) (pvl a25 (WD F c p a10 st) (n + 1) ds) := rfl
    rw [ea, ← g2, show f + (n + 1) + 1 = (f + n + 1) + 1 by omega, law_h1089, if_neg (by rw [lt32, ti0]; omega), mm_ck_t nz, mm_ck_t nz, mm_ck_t (mm_inb_c er (by omega)), mm_tcn er, bst, mm_cl_s, es, ep]
    have j : ∀ v : Int32, v = tg a25 (WD F c p a10 st (l % st.length) n) (pvl a25 (WD F c p a10 st) (n + 1) ds) → law_j1161 len rr50 rr (law_h1089 len rr50 rr (f + n + 1)) t a6 a8 a9 a10 a11 a24 a25 a26 a28 a29 a30 a31 (sn ((l % st.length) :: ds)) a34 v q = law_h1089 len rr50 rr (f + n + 1) t a6 a8 a9 a10 a11 a24 a25 a26 a28 a29 a30 (a31 / a24) (sn ((l % st.length) :: ds)) (tg a25 (WD F c p a10 st (l % st.length) n) (pvl a25 (WD F c p a10 st) (n + 1) ds)) (a34 + Int32.ofInt (-1)) q := by
      intro v hv
      unfold law_j1161
      rw [mm_ck_t nz, hv]
    rcases hrl with e | e
    · rw [if_neg (by rw [e]; decide)]
      by_cases z : WD F c p a10 st (l % st.length) n ≤ pvl a25 (WD F c p a10 st) (n + 1) ds
      · rw [if_pos z]
        refine j _ ?_
        unfold tg mm_max
        rw [if_pos e]
        by_cases z2 : WD F c p a10 st (l % st.length) n < pvl a25 (WD F c p a10 st) (n + 1) ds
        · rw [if_pos z2]
        · rw [if_neg z2]
          rw [le32] at z
          rw [lt32] at z2
          rw [eq32]
          omega
      · rw [if_neg z]
        refine j _ ?_
        unfold tg mm_max
        rw [if_pos e, if_neg (fun w => z (by rw [le32]; rw [lt32] at w; omega))]
    · rw [if_pos e]
      refine j _ ?_
      unfold tg
      rw [if_neg (by rw [e]; decide), Int32.add_comm]
/-- all numbers -/
theorem out_h (hb : bd sp c) (hs6 : sp.toInt ≤ 6) (pa : PA sp a8 a9 a10 a11 p s) {q : mm_Q} (hi : IL F c sp xs q) {st : List Nat} (h6 : st.length < 6) (hst : ∀ j, j < st.length → st.getD j 0 < 9) (hr9 : rw9 t st q) {a24 a25 a26 : Int32} (h24 : a24.toInt = st.length) (hrl : a25 = 0 ∨ a25 = 1) {f : Nat} : ∀ (k : Nat) (a28 a29 a30 : Int32), a30.toInt = (k : Int) - 1 → k ≤ st.length ^ st.length → JO (fun x => pvl a25 (WD F c p a10 st) 0 (dgs st.length st.length x)) (fun x => isP (lb (fun _ => true) st.length 0) (dgs st.length st.length x)) (st.length ^ st.length) k a28 a29 → ∃ b28 b29 b30 : Int32, b30 < 0 ∧ JO (fun x => pvl a25 (WD F c p a10 st) 0 (dgs st.length st.length x)) (fun x => isP (lb (fun _ => true) st.length 0) (dgs st.length st.length x)) (st.length ^ st.length) 0 b28 b29 ∧ law_h1068 len rr50 (f + k + 1) t a6 a8 a9 a10 a11 a24 a25 a26 a28 a29 a30 q = law_h1068 len rr50 (f + 1) t a6 a8 a9 a10 a11 a24 a25 a26 b28 b29 b30 q := by
  intro k
  induction k with
  | zero =>
    intro a28 a29 a30 h1 h2 h3
    exact ⟨a28, a29, a30, by rw [lt32, ti0]; omega, h3, rfl⟩
  | succ k ih =>
    intro a28 a29 a30 h1 h2 h3
    have ek : a30.toInt = (k : Int) := by omega
    have pw := (pow_s st.length h6).1
    have e34 : (a24 - 1).toInt = ((st.length : Nat) : Int) - 1 := by rw [mm_sub_ti (by rw [ti1]; omega) (by rw [ti1]; omega), ti1, h24]
    obtain ⟨b31, b34, g1, g2⟩ := in_h (t := t) (a6 := a6) (len := len) (rr50 := rr50) (rr := law_h1068 len rr50 (f + k + 1)) (a26 := a26) (a28 := a28) (a29 := a29) (a30 := a30) hb hs6 pa hi h6 hst hr9 h24 hrl (f := 8999 - st.length) st.length k [] a30 (a24 - 1) ek e34 (Nat.le_refl _)
    rw [show 8999 - st.length + st.length + 1 = mm_fv by show _ = 9000; omega, List.append_nil] at g2
    have dec : (a30 + Int32.ofInt (-1)).toInt = (k : Int) - 1 := by
      rw [show Int32.ofInt (-1) = (-1 : Int32) from rfl, mm_add_ti (by rw [tin1]; omega) (by rw [tin1]; omega), tin1]
      omega
    have start : law_h1068 len rr50 (f + (k + 1) + 1) t a6 a8 a9 a10 a11 a24 a25 a26 a28 a29 a30 q = law_h1089 len rr50 (law_h1068 len rr50 (f + k + 1)) (8999 - st.length + 1) t a6 a8 a9 a10 a11 a24 a25 a26 a28 a29 a30 b31 (sn (dgs st.length st.length k)) (pvl a25 (WD F c p a10 st) 0 (dgs st.length st.length k)) b34 q := by
      rw [show f + (k + 1) + 1 = (f + k + 1) + 1 by omega, law_h1068, if_neg (by rw [lt32, ti0]; omega)]
      exact g2
    have so := seen_ok st.length h6 k (by omega)
    rw [start, law_h1089, if_pos g1, mm_ofn h24]
    unfold law_j1205
    by_cases c1 : sn (dgs st.length st.length k) = ((1 : Int32) <<< (Int32.ofNat st.length &&& 31)) - 1
    · rw [if_pos c1]
      by_cases c2 : a28 ≤ pvl a25 (WD F c p a10 st) 0 (dgs st.length st.length k)
      · rw [if_pos c2]
        obtain ⟨b28, b29, b30, w1, w2, w3⟩ := ih _ a30 _ dec (by omega) (JO_yes h3 (by omega) (so.mp c1) c2 ek)
        rw [← mm_ofn h24]
        exact ⟨b28, b29, b30, w1, w2, w3⟩
      · rw [if_neg c2]
        obtain ⟨b28, b29, b30, w1, w2, w3⟩ := ih a28 a29 _ dec (by omega) (JO_no h3 (fun z => c2 z.2))
        rw [← mm_ofn h24]
        exact ⟨b28, b29, b30, w1, w2, w3⟩
    · rw [if_neg c1]
      obtain ⟨b28, b29, b30, w1, w2, w3⟩ := ih a28 a29 _ dec (by omega) (JO_no h3 (fun z => c1 (so.mpr z.1)))
      rw [← mm_ofn h24]
      exact ⟨b28, b29, b30, w1, w2, w3⟩
/-- the order read off -/
theorem read_h (hb : bd sp c) (hs : 0 ≤ sp.toInt ∧ sp.toInt ≤ 6) (hl : len ≤ 260) (h66 : 0 ≤ a6.toInt ∧ a6.toInt < 6) (pa : PA sp a8 a9 a10 a11 p s) {st : List Nat} {S : Nat} (S512 : S < 512) (hS : st = lb S.testBit 9 0) (h6 : st.length < 6) {a24 a25 a26 : Int32} (h24 : a24.toInt = st.length) (hrl : a25 = 0 ∨ a25 = 1) (h26 : a26.toInt = 10 * (S : Int) + a25.toInt) (hr : ∀ q', IL F c sp xs q' → ok1 (rr50 (t + 1) (a6 + 1) q')) {D : List Nat} (hD : D.length = st.length) (hg : gr a25 (wo F c p a10) st.length st 0 0 (Mo a25 (wo F c p a10) st.length st 0) = D.map (fun d => st.getD d 0)) {f : Nat} : ∀ (n l : Nat) (R : List Nat) (a29 a30 : Int32) (q : mm_Q), a29.toInt = l → a30.toInt = (n : Int) - 1 → n ≤ st.length → D = dgs st.length n l ++ R → IL F c sp xs q → rw9 t st q → ok1 (law_h1252 len rr50 (f + n + 1) t a6 a8 a9 a10 a11 a24 a26 a29 a30 q) := by
  intro n
  induction n with
  | zero =>
    intro l R a29 a30 q h1 h2 h3 h4 hi h9
    rw [law_h1252, if_pos (by rw [lt32, ti0]; omega)]
    exact stG hb hs hl h66 pa hi hr
  | succ n ih =>
    intro l R a29 a30 q h1 h2 h3 h4 hi h9
    have n30 : ¬ a30 < 0 := by
      rw [lt32, ti0]
      clear hrl h26 pa hb hs h66 hl h24
      omega
    have n3 : n ≤ st.length := Nat.le_of_succ_le h3
    have n31 : a30.toInt.toNat = n := by
      clear hrl h26 pa hb hs h66 hl h24
      omega
    obtain ⟨s1, s2, s3, s4, s5, s6⟩ := PA_sk pa
    have hrt : 0 ≤ a25.toInt ∧ a25.toInt ≤ 1 := by
      rcases hrl with e | e
      · rw [e, ti0]; omega
      · rw [e, ti1]; omega
    have hm0 : 0 < st.length := by omega
    have nz : mm_nz a24 = true := by
      unfold mm_nz
      rw [decide_eq_false (by rw [eq32, ti0]; omega)]
      rfl
    have er : (mm_rem a29 a24).toInt = ((l % st.length : Nat) : Int) := by
      rw [rem_ti (by omega) (by omega), h1, h24]
      omega
    have ed : (a29 / a24).toInt = ((l / st.length : Nat) : Int) := by
      rw [div_ti (by omega) (by omega), h1, h24]
      omega
    have lm : l % st.length < st.length := Nat.mod_lt _ hm0
    have e25 : mm_rem a26 10 = a25 := by
      rw [eq32, rem_ti (by omega) (by decide), ti10]
      omega
    obtain ⟨q2, y1, y2⟩ := cl_order (v0 := a8) (v1 := a26) (v2 := a10) (v3 := a30) (S := S) (st := st) hi.2.1 hb hs.2 ⟨s5, s6⟩ (by omega) (by omega) S512 (by omega) pa.2.2.1 (by omega) hS (by omega)
    rw [e25, s4, if_pos (by omega), if_pos (by rw [le32, ti0]; omega), hg, n31] at y1
    have ea : D = dgs st.length n (l / st.length) ++ ((l % st.length) :: R) := by
      rw [h4]
      show (dgs st.length n (l / st.length) ++ [l % st.length]) ++ R = _
      rw [List.append_assoc]
      rfl
    have en : (D.map (fun d => st.getD d 0)).getD n 0 = st.getD (l % st.length) 0 := by
      have hn : n < D.length := by omega
      have e1 : D[n]? = some (l % st.length) := by
        rw [ea, List.getElem?_append_right (Nat.le_of_eq (dgs_len _ _ _)), dgs_len, Nat.sub_self]
        rfl
      rw [List.getD_eq_getElem?_getD, List.getElem?_map, e1]
      rfl
    rw [en] at y1
    have h92 : rw9 t st q2 := fun j hj => by rw [fk_row y2 (by omega)]; exact h9 j hj
    have dec : (a30 + Int32.ofInt (-1)).toInt = (n : Int) - 1 := by
      rw [show Int32.ofInt (-1) = (-1 : Int32) from rfl, mm_add_ti (by rw [tin1]; omega) (by rw [tin1]; omega), tin1]
      omega
    rw [show f + (n + 1) + 1 = (f + n + 1) + 1 from rfl, law_h1252, if_neg n30, y1, mm_cl_s, mm_ck_t nz, mm_ck_t (mm_inb_c er (by omega)), mm_tcn er, h92 _ lm, if_pos rfl, mm_ck_t nz]
    exact ih (l / st.length) ((l % st.length) :: R) (a29 / a24) _ q2 ed dec n3 ea (IL_fk hi y2) h92
end LO
