/-! the reference reads the text -/
def mb (B : Nat → Int32) (N i : Nat) (q : mm_Q) : Prop := (q.1 52 12).toInt = i ∧ (q.1 52 13).toInt = N ∧ ((q.1 52 11 < 0 ∧ ∀ j, j < N → q.1 57 j = B j) ∨ (q.1 52 11 = 0 ∧ ∀ j, j < N → q.1 58 j = B j))
def mx (B : Nat → Int32) (N i o : Nat) (q : mm_Q) : Prop := mb B N i q ∧ q.1 52 14 = -1 ∧ (q.1 52 15).toInt = o
def my (B : Nat → Int32) (N i : Nat) (q : mm_Q) : Prop := mb B N i q ∧ (q.1 52 14).toInt = i
def mg (q q' : mm_Q) : Prop := fr [52] q q' ∧ ∀ j, j ≠ 12 → j ≠ 14 → j ≠ 15 → q'.1 52 j = q.1 52 j
def mo (B : Nat → Int32) (N o : Nat) (R : Pr) (q : mm_Q) (x : Option (Int32 × mm_Q)) : Prop := (R.1 = true → ∃ q', x = some (nm R.2.2.2 (q.1 59), q') ∧ mx B N R.2.1 o q' ∧ mg q q') ∧ (R.1 = false → ∃ (r : Int32) (q' : mm_Q), x = some (r, q') ∧ my B N R.2.1 q' ∧ mg q q')
def mR (B : Nat → Int32) (N o : Nat) (P : Nat → Pr) (f : mm_Q → Option (Int32 × mm_Q)) : Prop := ∀ q i, mx B N i o q → i ≤ N → mo B N o (P i) q (f q)
theorem mg_rfl (q : mm_Q) : mg q q := ⟨fr_rfl _ _, fun _ _ _ _ => rfl⟩
theorem mg_trans {q q1 q2 : mm_Q} (h1 : mg q q1) (h2 : mg q1 q2) : mg q q2 := ⟨fr_trans h1.1 h2.1, fun j a b c => (h2.2 j a b c).trans (h1.2 j a b c)⟩
theorem mg_names {q q' : mm_Q} (h : mg q q') : q'.1 59 = q.1 59 := h.1.2 59 (by decide)
theorem mg_si {q : mm_Q} {j : Nat} (x : Int32) (h : j = 12 ∨ j = 14 ∨ j = 15) : mg q (mm_si q 52 j x) := by
  refine ⟨fr_si _ _ _ (by decide), fun k a b c => ?_⟩
  rw [mm_si_self, upd_ne _ _ _ (by omega)]
abbrev adv (q : mm_Q) : mm_Q := mm_si q 52 12 (q.1 52 12 + 1)
def bch (B : Nat → Int32) (N i : Nat) : Int32 := if i < N then B i else 0
section MREAD
variable {B : Nat → Int32} {N i o : Nat} {q : mm_Q}
theorem bch_eq {c : Int32} (h0 : c ≠ 0) (h1 : c ≠ -1) : bch B N i = c ↔ chs B N i = c := by
  unfold bch chs
  by_cases h : i < N
  · rw [if_pos h, if_pos h]
  · rw [if_neg h, if_neg h]
    exact ⟨fun z => absurd z.symm h0, fun z => absurd z.symm h1⟩
theorem m_byte (hN : N ≤ 120) (h : mb B N i q) (hi : i ≤ N) : x12_byteAt q = some (bch B N i, q) := by
  unfold x12_byteAt bch
  by_cases c : i < N
  · rw [if_pos c, if_neg (by rw [le32]; have := h.1; have := h.2.1; omega)]
    rcases h.2.2 with ⟨hb, hB⟩ | ⟨hb, hB⟩
    · rw [if_neg (Int32.not_le.mpr hb), mm_ck_t (mm_inb_c h.1 (by omega)), mm_tcn h.1, hB i c]
    · have e : (q.1 52 11 + q.1 52 12).toInt = i := by
        rw [hb, Int32.zero_add]; exact h.1
      rw [if_pos (by rw [hb]; decide), mm_ck_t (mm_inb_c e (by omega)), mm_tcn e, hB i c]
  · rw [if_neg c, if_pos (by rw [le32]; have := h.1; have := h.2.1; omega)]
theorem mb_adv (hN : N ≤ 120) (h : mb B N i q) (hi : i ≤ N) : mb B N (i + 1) (adv q) := by
  refine ⟨?_, ?_, ?_⟩
  · rw [mm_si_self, upd_self]; exact mm_inc1 h.1 (by omega)
  · rw [mm_si_self, upd_ne _ _ _ (by decide)]; exact h.2.1
  · rw [mm_si_self, upd_ne _ _ _ (by decide), mm_si_ne _ _ _ _ (by decide), mm_si_ne _ _ _ _ (by decide)]; exact h.2.2
theorem mx_adv (hN : N ≤ 120) (h : mx B N i o q) (hi : i ≤ N) : mx B N (i + 1) o (adv q) := by
  refine ⟨mb_adv hN h.1 hi, ?_, ?_⟩
  · rw [mm_si_self, upd_ne _ _ _ (by decide)]; exact h.2.1
  · rw [mm_si_self, upd_ne _ _ _ (by decide)]; exact h.2.2
theorem mx_nf (h : mx B N i o q) : ¬ (0 : Int32) ≤ q.1 52 14 := by
  rw [h.2.1]; decide
theorem my_f (h : my B N i q) : (0 : Int32) ≤ q.1 52 14 := by
  rw [le32, ti0, h.2]; omega
theorem m_takes (hN : N ≤ 120) (h : mx B N i o q) (hi : i ≤ N) {c : Int32} (h0 : c ≠ 0) (h1 : c ≠ -1) : x12_takes c q = if chs B N i = c then some (1, adv q) else some (0, q) := by
  unfold x12_takes
  rw [if_neg (mx_nf h), m_byte hN h.1 hi, mm_cl_s]
  by_cases e : chs B N i = c
  · rw [if_pos e, if_pos ((bch_eq h0 h1).mpr e), mm_lt_s]
  · rw [if_neg e, if_neg (fun z => e ((bch_eq h0 h1).mp z))]
theorem m_takes_f (h : my B N i q) (c : Int32) : x12_takes c q = some (0, q) := by
  unfold x12_takes
  rw [if_pos (my_f h)]
theorem m_wrong (h : mx B N i o q) : ∃ q', x12_wrong q = some (0, q') ∧ my B N i q' ∧ mg q q' := by
  unfold x12_wrong x12_wrong_j19
  refine ⟨mm_si q 52 14 (q.1 52 12), by rw [if_neg (mx_nf h), mm_lt_s], ⟨⟨?_, ?_, ?_⟩, ?_⟩, mg_si _ (Or.inr (Or.inl rfl))⟩
  · rw [mm_si_self, upd_ne _ _ _ (by decide)]; exact h.1.1
  · rw [mm_si_self, upd_ne _ _ _ (by decide)]; exact h.1.2.1
  · rw [mm_si_self, upd_ne _ _ _ (by decide), mm_si_ne _ _ _ _ (by decide), mm_si_ne _ _ _ _ (by decide)]; exact h.1.2.2
  · rw [mm_si_self, upd_self]; exact h.1.1
end MREAD
/-- a loop of the reference over a level's signs -/
def mL (B : Nat → Int32) (N t : Nat) (rc : mm_Q → Option (Int32 × mm_Q)) (L : Nat → Int32 → mm_Q → Option (Int32 × mm_Q)) : Prop := (∀ n a q i, my B N i q → i ≤ N → L (n + 1) a q = some (a, q)) ∧ (∀ n a q i o, mx B N i o q → i ≤ N → ¬ sg t (chs B N i) → L (n + 1) a q = some (a, q)) ∧ ∀ n a q i o r q' i', mx B N i o q → i ≤ N → sg t (chs B N i) → rc (adv q) = some (r, q') → i' ≤ N → mb B N i' q' → L (n + 1) a q = L n (jn (chs B N i) a r) q'
section MCHAIN
variable {B : Nat → Int32} {N o : Nat}
theorem mo_pre {R : Pr} {q q1 : mm_Q} {x : Option (Int32 × mm_Q)} (h : mg q q1) (r : mo B N o R q1 x) : mo B N o R q x := by
  refine ⟨fun z => ?_, fun z => ?_⟩
  · obtain ⟨q2, e2, hk2, hn2⟩ := r.1 z
    exact ⟨q2, by rw [e2, mg_names h], hk2, mg_trans h hn2⟩
  · obtain ⟨y, q2, e2, hk2, hn2⟩ := r.2 z
    exact ⟨y, q2, e2, hk2, mg_trans h hn2⟩
theorem m_loop (hN : N ≤ 120) {P : Nat → Pr} {t : Nat} {rc : mm_Q → Option (Int32 × mm_Q)} {L : Nat → Int32 → mm_Q → Option (Int32 × mm_Q)} (hP : mR B N o P rc) (hw : ∀ i, i ≤ N → twf N i (P i)) (hL : mL B N t rc L) {q0 : mm_Q} :
    ∀ (m n : Nat) (q : mm_Q) (i : Nat) (C : List Int32) (v : mm_F), m < n → N < i + m → mx B N i o q → mg q0 q → i ≤ N → mo B N o (tlp (chs B N) P t m i C v) q0 (L n (nm v (q0.1 59)) q)
  | 0, n + 1, q, i, C, v, _, hm, _, _, hi => absurd hm (by omega)
  | m + 1, n + 1, q, i, C, v, hmn, hm, hk, hn, hi => by
    unfold tlp
    by_cases s : sg t (chs B N i)
    · have hi2 := chs_in (sg_ne s).1
      rw [if_pos s]
      have r := hP (adv q) (i + 1) (mx_adv hN hk hi) hi2
      have w := hw (i + 1) hi2
      have hg1 : mg q (adv q) := mg_si _ (Or.inl rfl)
      generalize P (i + 1) = R at r w
      obtain ⟨b, i', C', v'⟩ := R
      have w1 : i' ≤ N := w.1
      cases b with
      | true =>
        obtain ⟨q2, e2, hk2, hn2⟩ := r.1 rfl
        have w2 : i + 1 < i' ∧ C'.length + (i + 1) ≤ i' := w.2 rfl
        rw [if_pos (show (true, i', C', v').1 = true from rfl), hL.2.2 n _ q i o _ q2 i' hk hi s e2 w1 hk2.1]
        have e : (adv q).1 59 = q0.1 59 := by rw [mg_names hg1, mg_names hn]
        rw [e]
        exact m_loop hN hP hw hL m n q2 i' _ (fjn (chs B N i) v v') (by omega) (by omega) hk2 (mg_trans hn (mg_trans hg1 hn2)) w1
      | false =>
        obtain ⟨y, q2, e2, hk2, hn2⟩ := r.2 rfl
        obtain ⟨k, rfl⟩ : ∃ k, n = k + 1 := ⟨n - 1, by omega⟩
        rw [if_neg (show ¬ (false, i', C', v').1 = true from Bool.false_ne_true), hL.2.2 _ _ q i o _ q2 i' hk hi s e2 w1 hk2.1, hL.1 k _ q2 i' hk2 w1]
        exact ⟨fun z => absurd z Bool.false_ne_true, fun _ => ⟨_, q2, rfl, hk2, mg_trans hn (mg_trans hg1 hn2)⟩⟩
    · rw [if_neg s, hL.2.1 n _ q i o hk hi s]
      exact ⟨fun _ => ⟨q, rfl, hk, hn⟩, fun z => absurd z.symm Bool.false_ne_true⟩
/-- a chain: what comes first, then the loop -/
theorem m_chain (hN : N ≤ 120) {P : Nat → Pr} {t : Nat} (h2 : t ≠ 2) {rc f : mm_Q → Option (Int32 × mm_Q)} {L : Nat → Int32 → mm_Q → Option (Int32 × mm_Q)} (hP : mR B N o P rc) (hw : ∀ i, i ≤ N → twf N i (P i)) (hL : mL B N t rc L) (hf : ∀ q r q' i', rc q = some (r, q') → mb B N i' q' → i' ≤ N → f q = L mm_fu r q') : mR B N o (chn (chs B N) P t) f := by
  intro q i hk hi
  unfold chn
  have r := hP q i hk hi
  have w := hw i hi
  generalize P i = R at r w
  obtain ⟨b, i', C', v'⟩ := R
  have w1 : i' ≤ N := w.1
  cases b with
  | true =>
    obtain ⟨q2, e2, hk2, hn2⟩ := r.1 rfl
    have w2 : i < i' ∧ C'.length + i ≤ i' := w.2 rfl
    rw [if_pos (show (true, i', C', v').1 = true from rfl), if_neg h2, hf q _ q2 i' e2 hk2.1 w1]
    exact m_loop hN hP hw hL 120 mm_fu q2 i' C' v' (by decide) (by omega) hk2 hn2 w1
  | false =>
    obtain ⟨y, q2, e2, hk2, hn2⟩ := r.2 rfl
    rw [if_neg (show ¬ (false, i', C', v').1 = true from Bool.false_ne_true), hf q _ q2 i' e2 hk2.1 w1, hL.1 999 _ q2 i' hk2 w1]
    exact ⟨fun z => absurd z Bool.false_ne_true, fun _ => ⟨_, q2, rfl, hk2, hn2⟩⟩
theorem sg0 {c : Int32} : sg 0 c ↔ c = 124 := ⟨fun h => by rcases h with z | z | z | z | z <;> first | exact z.2 | exact absurd z.1 (by decide), fun h => Or.inl ⟨rfl, h⟩⟩
theorem sg1 {c : Int32} : sg 1 c ↔ c = 38 := ⟨fun h => by rcases h with z | z | z | z | z <;> first | exact z.2 | exact absurd z.1 (by decide), fun h => Or.inr (Or.inl ⟨rfl, h⟩)⟩
theorem sg2 {c : Int32} : sg 2 c ↔ c = 60 ∨ c = 61 ∨ c = 62 := ⟨fun h => by rcases h with z | z | z | z | z <;> first | exact z.2 | exact absurd z.1 (by decide), fun h => Or.inr (Or.inr (Or.inl ⟨rfl, h⟩))⟩
theorem sg3 {c : Int32} : sg 3 c ↔ c = 43 ∨ c = 45 := ⟨fun h => by rcases h with z | z | z | z | z <;> first | exact z.2 | exact absurd z.1 (by decide), fun h => Or.inr (Or.inr (Or.inr (Or.inl ⟨rfl, h⟩)))⟩
theorem sg4 {c : Int32} : sg 4 c ↔ c = 42 ∨ c = 47 ∨ c = 37 := ⟨fun h => by rcases h with z | z | z | z | z <;> first | exact z.2 | exact absurd z.1 (by decide), fun h => Or.inr (Or.inr (Or.inr (Or.inr ⟨rfl, h⟩)))⟩
theorem m_either (hN : N ≤ 120) (rc : Nat → mm_Q → Option (Int32 × mm_Q)) : mL B N 0 (rc 1) (x12_either_h5 rc) := by
  refine ⟨fun n a q i hk hi => ?_, fun n a q i o hk hi s => ?_, fun n a q i o r q' i' hk hi s e hi' hb => ?_⟩
  · unfold x12_either_h5
    rw [m_takes_f hk, mm_cl_s, if_pos rfl]
  · unfold x12_either_h5
    rw [m_takes hN hk hi (by decide) (by decide), if_neg (fun z => s (sg0.mpr z)), mm_cl_s, if_pos rfl]
  · have c := sg0.mp s
    rw [x12_either_h5, m_takes hN hk hi (by decide) (by decide), if_pos c, mm_cl_s, if_neg (by decide), e, mm_cl_s, c]
    unfold x12_either_j27 x12_either_j32
    have j : jn 124 a r = if a = 0 then (if r = 0 then 0 else 1) else 1 := rfl
    rw [j]
    by_cases a0 : a = 0
    · rw [if_pos a0, if_pos a0]
      by_cases r0 : r = 0
      · rw [if_pos r0, if_pos r0]
      · rw [if_neg r0, if_neg r0]
    · rw [if_neg a0, if_neg a0]
theorem m_both (hN : N ≤ 120) (rc : Nat → mm_Q → Option (Int32 × mm_Q)) : mL B N 1 (rc 2) (x12_both_h5 rc) := by
  refine ⟨fun n a q i hk hi => ?_, fun n a q i o hk hi s => ?_, fun n a q i o r q' i' hk hi s e hi' hb => ?_⟩
  · unfold x12_both_h5
    rw [m_takes_f hk, mm_cl_s, if_pos rfl]
  · unfold x12_both_h5
    rw [m_takes hN hk hi (by decide) (by decide), if_neg (fun z => s (sg1.mpr z)), mm_cl_s, if_pos rfl]
  · have c := sg1.mp s
    rw [x12_both_h5, m_takes hN hk hi (by decide) (by decide), if_pos c, mm_cl_s, if_neg (by decide), e, mm_cl_s, c]
    unfold x12_both_j31 x12_both_j32
    have j : jn 38 a r = if a = 0 then 0 else if r = 0 then 0 else 1 := rfl
    rw [j]
    by_cases a0 : a = 0
    · rw [if_pos a0, if_pos a0]
    · rw [if_neg a0, if_neg a0]
      by_cases r0 : r = 0
      · rw [if_pos r0, if_pos r0]
      · rw [if_neg r0, if_neg r0]
theorem m_sums (hN : N ≤ 120) (rc : Nat → mm_Q → Option (Int32 × mm_Q)) : mL B N 3 (rc 4) (x12_sums_h5 rc) := by
  refine ⟨fun n a q i hk hi => ?_, fun n a q i o hk hi s => ?_, fun n a q i o r q' i' hk hi s e hi' hb => ?_⟩
  · unfold x12_sums_h5
    rw [if_pos (my_f hk)]
  · unfold x12_sums_h5
    rw [if_neg (mx_nf hk), m_byte hN hk.1 hi, mm_cl_s, if_neg (fun z => s (sg3.mpr (Or.inl ((bch_eq (by decide) (by decide)).mp z)))), m_byte hN hk.1 hi, mm_cl_s, if_neg (fun z => s (sg3.mpr (Or.inr ((bch_eq (by decide) (by decide)).mp z))))]
  · rw [x12_sums_h5, if_neg (mx_nf hk), m_byte hN hk.1 hi, mm_cl_s]
    unfold x12_sums_j30 x12_sums_j44 x12_sums_j73
    by_cases c : chs B N i = 43
    · have c2 : bch B N i = 43 := (bch_eq (by decide) (by decide)).mpr c
      rw [if_pos c2, m_byte hN hk.1 hi, mm_cl_s, if_pos c2, mm_lt_s, e, mm_cl_s, if_neg (by decide), c]
      rfl
    · have c3 : chs B N i = 45 := (sg3.mp s).resolve_left c
      have c2 : ¬ bch B N i = 43 := fun z => c ((bch_eq (by decide) (by decide)).mp z)
      have c4 : bch B N i = 45 := (bch_eq (by decide) (by decide)).mpr c3
      rw [if_neg c2, m_byte hN hk.1 hi, mm_cl_s, if_pos c4, m_byte hN hk.1 hi, mm_cl_s, if_neg c2, mm_lt_s, e, mm_cl_s, if_pos rfl, c3]
      rfl
theorem m_product (hN : N ≤ 120) (rc : Nat → mm_Q → Option (Int32 × mm_Q)) : mL B N 4 (rc 5) (fun n a q => mm_cl (x12_byteAt q) (fun r q1 => x12_product_h10 rc n a r q1)) := by
  refine ⟨fun n a q i hk hi => ?_, fun n a q i o hk hi s => ?_, fun n a q i o r q' i' hk hi s e hi' hb => ?_⟩
  · show mm_cl (x12_byteAt q) (fun r q1 => x12_product_h10 rc (n + 1) a r q1) = _
    rw [m_byte hN hk.1 hi, mm_cl_s]
    unfold x12_product_h10
    rw [if_pos (my_f hk)]
  · show mm_cl (x12_byteAt q) (fun r q1 => x12_product_h10 rc (n + 1) a r q1) = _
    rw [m_byte hN hk.1 hi, mm_cl_s]
    unfold x12_product_h10
    rw [if_neg (mx_nf hk), if_neg (fun z => s (sg4.mpr (Or.inl ((bch_eq (by decide) (by decide)).mp z)))), if_neg (fun z => s (sg4.mpr (Or.inr (Or.inl ((bch_eq (by decide) (by decide)).mp z))))), if_neg (fun z => s (sg4.mpr (Or.inr (Or.inr ((bch_eq (by decide) (by decide)).mp z)))))]
  · show mm_cl (x12_byteAt q) (fun r q1 => x12_product_h10 rc (n + 1) a r q1) = mm_cl (x12_byteAt q') (fun r1 q1 => x12_product_h10 rc n (jn (chs B N i) a r) r1 q1)
    rw [m_byte hN hk.1 hi, mm_cl_s, x12_product_h10, if_neg (mx_nf hk)]
    have key : ∀ c : Int32, c = 42 ∨ c = 47 ∨ c = 37 → x12_product_j35 rc (x12_product_h10 rc n) a c q = mm_cl (x12_byteAt q') (fun r1 q1 => x12_product_h10 rc n (jn c a r) r1 q1) := by
      intro c hc
      unfold x12_product_j35 x12_product_j85
      rw [mm_lt_s, e, mm_cl_s]
      rcases hc with rfl | rfl | rfl
      · rw [if_pos rfl]
        rfl
      · have j : jn 47 a r = if r = 0 then 0 else a / r := rfl
        rw [if_neg (by decide), j]
        by_cases r0 : r = 0
        · rw [if_pos r0, if_pos r0]
        · rw [if_neg r0, if_neg r0, if_pos rfl, mm_ck_t (by unfold mm_nz; rw [decide_eq_false r0]; rfl)]
      · have j : jn 37 a r = if r = 0 then 0 else mm_rem a r := rfl
        rw [if_neg (by decide), j]
        by_cases r0 : r = 0
        · rw [if_pos r0, if_pos r0]
        · rw [if_neg r0, if_neg r0, if_neg (by decide), mm_ck_t (by unfold mm_nz; rw [decide_eq_false r0]; rfl)]
    rcases sg4.mp s with c | c | c
    · have c2 : bch B N i = 42 := (bch_eq (by decide) (by decide)).mpr c
      rw [if_pos c2, c2, c]
      exact key 42 (Or.inl rfl)
    · have c2 : bch B N i = 47 := (bch_eq (by decide) (by decide)).mpr c
      rw [c2, if_neg (by decide), if_pos rfl, c]
      exact key 47 (Or.inr (Or.inl rfl))
    · have c2 : bch B N i = 37 := (bch_eq (by decide) (by decide)).mpr c
      rw [c2, if_neg (by decide), if_neg (by decide), if_pos rfl, c]
      exact key 37 (Or.inr (Or.inr rfl))
end MCHAIN
