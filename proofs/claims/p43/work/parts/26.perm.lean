/-! orders as numbers: the most, and the least number that comes to it -/
section PE
variable {rl : Int32} {w : Nat → Nat → Int32}
/-- what an order brings from turn t on -/
def pvl (rl : Int32) (w : Nat → Nat → Int32) : Nat → List Nat → Int32
  | _, [] => 0
  | t, d :: ds => tg rl (w d t) (pvl rl w (t + 1) ds)
/-- each of a list once -/
def isP : List Nat → List Nat → Bool
  | L, [] => L.isEmpty
  | L, d :: ds => decide (d ∈ L) && isP (rm d L) ds
def num (m : Nat) : List Nat → Nat
  | [] => 0
  | d :: ds => d * m ^ ds.length + num m ds
def dgs (m : Nat) : Nat → Nat → List Nat
  | 0, _ => []
  | n + 1, l => dgs m n (l / m) ++ [l % m]
theorem dgs_len (m : Nat) : ∀ n l, (dgs m n l).length = n
  | 0, _ => rfl
  | n + 1, l => by
    show (dgs m n (l / m) ++ [l % m]).length = n + 1
    rw [List.length_append, dgs_len m n]
    rfl
theorem num_snoc (m d : Nat) : ∀ xs : List Nat, num m (xs ++ [d]) = num m xs * m + d
  | [] => by
    show d * m ^ 0 + 0 = 0 * m + d
    rw [Nat.pow_zero, Nat.mul_one, Nat.zero_mul, Nat.zero_add, Nat.add_zero]
  | x :: xs => by
    show x * m ^ (xs ++ [d]).length + num m (xs ++ [d]) = (x * m ^ xs.length + num m xs) * m + d
    rw [num_snoc m d xs, List.length_append, Nat.add_mul, Nat.mul_assoc]
    show x * m ^ (xs.length + 1) + (num m xs * m + d) = x * (m ^ xs.length * m) + num m xs * m + d
    rw [Nat.pow_succ]
    omega
theorem dgs_num {m : Nat} (hm : 0 < m) : ∀ (n : Nat) (ds : List Nat), ds.length = n → (∀ d, d ∈ ds → d < m) → dgs m n (num m ds) = ds
  | 0, ds, h, _ => by
    rw [List.eq_nil_of_length_eq_zero h]
    rfl
  | n + 1, ds, h, hd => by
    rcases List.eq_nil_or_concat ds with e | ⟨xs, d, e⟩
    · rw [e] at h
      exact absurd h (by simp)
    · rw [List.concat_eq_append] at e
      have hl : xs.length = n := by
        rw [e, List.length_append] at h
        exact Nat.succ.inj h
      have hdm : d < m := hd d (by rw [e]; exact List.mem_append_right _ (List.mem_singleton.mpr rfl))
      have ih := dgs_num hm n xs hl (fun x hx => hd x (by rw [e]; exact List.mem_append_left _ hx))
      rw [e, num_snoc]
      show dgs m n ((num m xs * m + d) / m) ++ [(num m xs * m + d) % m] = xs ++ [d]
      rw [Nat.add_comm, Nat.add_mul_div_right _ _ hm, Nat.div_eq_of_lt hdm, Nat.zero_add, ih, Nat.add_mul_mod_self_right, Nat.mod_eq_of_lt hdm]
theorem num_lt {m : Nat} (hm : 0 < m) : ∀ ds : List Nat, (∀ d, d ∈ ds → d < m) → num m ds < m ^ ds.length
  | [], _ => by
    show 0 < m ^ 0
    rw [Nat.pow_zero]
    exact Nat.one_pos
  | d :: ds, h => by
    have ih := num_lt hm ds (fun x hx => h x (List.mem_cons_of_mem _ hx))
    have hd := h d List.mem_cons_self
    show d * m ^ ds.length + num m ds < m ^ (ds.length + 1)
    have h2 : (d + 1) * m ^ ds.length ≤ m * m ^ ds.length := Nat.mul_le_mul_right _ hd
    rw [Nat.add_mul, Nat.one_mul] at h2
    rw [Nat.pow_succ, Nat.mul_comm (m ^ ds.length) m]
    omega
theorem isP_mem : ∀ (ds L : List Nat), isP L ds = true → ∀ d, d ∈ ds → d ∈ L
  | [], _, _, d, hd => absurd hd (List.not_mem_nil)
  | x :: ds, L, h, d, hd => by
    have h2 : (decide (x ∈ L) && isP (rm x L) ds) = true := h
    rw [Bool.and_eq_true, decide_eq_true_eq] at h2
    rcases List.mem_cons.mp hd with e | e
    · rw [e]; exact h2.1
    · have := isP_mem ds (rm x L) h2.2 d e
      unfold rm at this
      exact (List.mem_filter.mp this).1
theorem pvl_rng (hw : ∀ x t, 0 ≤ (w x t).toInt ∧ (w x t).toInt ≤ 129) : ∀ (ds : List Nat) (t : Nat), ds.length ≤ 10 → 0 ≤ (pvl rl w t ds).toInt ∧ (pvl rl w t ds).toInt ≤ 129 * ds.length
  | [], _, _ => by
    show 0 ≤ (0 : Int32).toInt ∧ (0 : Int32).toInt ≤ _
    rw [ti0]
    exact ⟨Int.le_refl _, by show (0 : Int) ≤ 129 * ((0 : Nat) : Int); omega⟩
  | d :: ds, t, h => by
    have hl : (d :: ds).length = ds.length + 1 := rfl
    have ih := pvl_rng hw ds (t + 1) (by omega)
    have := tg_rng (rl := rl) (hw d t) ih (by omega) (by omega) (by omega)
    show 0 ≤ (tg rl (w d t) (pvl rl w (t + 1) ds)).toInt ∧ (tg rl (w d t) (pvl rl w (t + 1) ds)).toInt ≤ 129 * ((ds.length + 1 : Nat) : Int)
    omega
/-- no order brings more -/
theorem pvl_le (hw : ∀ x t, 0 ≤ (w x t).toInt ∧ (w x t).toInt ≤ 129) : ∀ (n : Nat) (ds L : List Nat) (t : Nat), ds.length = n → n ≤ 9 → isP L ds = true → (pvl rl w t ds).toInt ≤ (Mo rl w n L t).toInt
  | 0, ds, L, t, h, _, _ => by
    rw [List.eq_nil_of_length_eq_zero h]
    exact Int.le_refl _
  | n + 1, [], L, t, h, _, _ => absurd h (by simp)
  | n + 1, d :: ds, L, t, h, h9, hp => by
    have hl : ds.length = n := Nat.succ.inj h
    have h2 : (decide (d ∈ L) && isP (rm d L) ds) = true := hp
    rw [Bool.and_eq_true, decide_eq_true_eq] at h2
    have ih := pvl_le hw n ds (rm d L) (t + 1) hl (by omega) h2.2
    have r1 := pvl_rng (rl := rl) hw ds (t + 1) (by omega)
    have r2 := Mo_rng (rl := rl) hw n (rm d L) (t + 1) (by omega)
    have hwd := hw d t
    have m1 := tg_mono (rl := rl) (h := w d t) (a := pvl rl w (t + 1) ds) (b := Mo rl w n (rm d L) (t + 1)) ⟨hwd.1, by omega⟩ ⟨r1.1, by omega⟩ ⟨r2.1, by omega⟩ ih
    have m2 := (mf_ge (f := fun x => tg rl (w x t) (Mo rl w n (rm x L) (t + 1))) L 0).2.1 d h2.1
    exact Int.le_trans m1 m2
theorem rm_sorted {x : Nat} {L : List Nat} (h : L.Pairwise (· < ·)) : (rm x L).Pairwise (· < ·) := h.filter _
theorem rm_ne {x : Nat} : ∀ {L : List Nat}, (∀ y, y ∈ L → x < y) → rm x L = L
  | [], _ => rfl
  | y :: L, h => by
    rw [rm_cons, if_neg (by have := h y List.mem_cons_self; omega), rm_ne (fun z hz => h z (List.mem_cons_of_mem _ hz))]
theorem rm_len {x : Nat} : ∀ {L : List Nat}, L.Pairwise (· < ·) → x ∈ L → (rm x L).length + 1 = L.length
  | [], _, h => absurd h (List.not_mem_nil)
  | y :: L, h, hx => by
    rw [List.pairwise_cons] at h
    rw [rm_cons]
    by_cases e : y = x
    · rw [if_pos e, rm_ne (fun z hz => by rw [← e]; exact h.1 z hz)]
      rfl
    · rw [if_neg e]
      have hx2 : x ∈ L := by
        rcases List.mem_cons.mp hx with z | z
        · exact absurd z.symm e
        · exact z
      have := rm_len h.2 hx2
      show (rm x L).length + 1 + 1 = L.length + 1
      omega
theorem fst1_le {f : Nat → Int32} {g : Int32} {d : Nat} (hf : f d = g) : ∀ {L : List Nat}, L.Pairwise (· < ·) → d ∈ L → fst1 f g L ≤ d
  | [], _, h => absurd h (List.not_mem_nil)
  | y :: L, h, hd => by
    rw [List.pairwise_cons] at h
    show (if f y = g then y else fst1 f g L) ≤ d
    by_cases c : f y = g
    · rw [if_pos c]
      rcases List.mem_cons.mp hd with z | z
      · omega
      · have := h.1 d z; omega
    · rw [if_neg c]
      rcases List.mem_cons.mp hd with z | z
      · rw [z] at hf; exact absurd hf c
      · exact fst1_le hf h.2 z
/-- the class's order is one, and comes to the goal -/
theorem goal_ok (hw : ∀ x t, 0 ≤ (w x t).toInt ∧ (w x t).toInt ≤ 129) {G : Int32} : ∀ (n : Nat) (L : List Nat) (t : Nat) (h : Int32), L.Pairwise (· < ·) → L.length = n → n ≤ 9 → 0 ≤ h.toInt → h.toInt + 129 * n ≤ 1900 → tg rl h (Mo rl w n L t) = G → isP L (gr rl w n L t h G) = true ∧ (gr rl w n L t h G).length = n ∧ tg rl h (pvl rl w t (gr rl w n L t h G)) = G
  | 0, L, t, h, _, hl, _, _, _, hG => by
    rw [List.eq_nil_of_length_eq_zero hl]
    exact ⟨rfl, rfl, hG⟩
  | n + 1, L, t, h, hs, hl, h9, h0, h1, hG => by
    have ne : L ≠ [] := fun z => by rw [z] at hl; exact absurd hl (by simp)
    obtain ⟨-, x, hx, hv⟩ := V_eq (rl := rl) hw (n := n) (by omega) (h := h) ⟨h0, by omega⟩ ne t
    rw [hG] at hv
    obtain ⟨f1, f2⟩ := fst1_mem (f := Vx rl w n L t h) (g := G) L ⟨x, hx, hv.symm⟩
    have rl1 := rm_len hs f1
    have hge := tg_ge (a := h) ⟨h0, by omega⟩ (hw (fst1 (Vx rl w n L t h) G L) t) rl
    obtain ⟨i1, i2, i3⟩ := goal_ok hw (G := G) n (rm (fst1 (Vx rl w n L t h) G L) L) (t + 1) (tg rl h (w (fst1 (Vx rl w n L t h) G L) t)) (rm_sorted hs) (by omega) (by omega) (by omega) (by omega) f2
    refine ⟨?_, ?_, ?_⟩
    · show (decide (fst1 (Vx rl w n L t h) G L ∈ L) && isP (rm (fst1 (Vx rl w n L t h) G L) L) _) = true
      rw [Bool.and_eq_true, decide_eq_true_eq]
      exact ⟨f1, i1⟩
    · show _ + 1 = n + 1
      rw [i2]
    · show tg rl h (tg rl (w (fst1 (Vx rl w n L t h) G L) t) _) = G
      rw [tg_assoc]
      exact i3
/-- and no order that comes to it has a smaller number -/
theorem goal_le (hw : ∀ x t, 0 ≤ (w x t).toInt ∧ (w x t).toInt ≤ 129) {G : Int32} {m : Nat} (hm : 0 < m) : ∀ (n : Nat) (L : List Nat) (t : Nat) (h : Int32), L.Pairwise (· < ·) → L.length = n → n ≤ 9 → 0 ≤ h.toInt → h.toInt + 129 * n ≤ 1900 → (∀ d, d ∈ L → d < m) → tg rl h (Mo rl w n L t) = G → ∀ ds : List Nat, ds.length = n → isP L ds = true → tg rl h (pvl rl w t ds) = G → num m (gr rl w n L t h G) ≤ num m ds
  | 0, L, t, h, _, _, _, _, _, _, _, ds, _, _, _ => Nat.zero_le _
  | n + 1, L, t, h, hs, hl, h9, h0, h1, hLm, hG, [], hd, _, _ => absurd hd (by simp)
  | n + 1, L, t, h, hs, hl, h9, h0, h1, hLm, hG, d :: ds, hd, hp, hv => by
    have hdl : ds.length = n := Nat.succ.inj hd
    have h2 : (decide (d ∈ L) && isP (rm d L) ds) = true := hp
    rw [Bool.and_eq_true, decide_eq_true_eq] at h2
    have ne : L ≠ [] := fun z => by rw [z] at hl; exact absurd hl (by simp)
    obtain ⟨v1, x, hx, hvx⟩ := V_eq (rl := rl) hw (n := n) (by omega) (h := h) ⟨h0, by omega⟩ ne t
    rw [hG] at v1 hvx
    obtain ⟨f1, f2⟩ := fst1_mem (f := Vx rl w n L t h) (g := G) L ⟨x, hx, hvx.symm⟩
    -- d is one of those by which the goal is come by
    have hge := tg_ge (a := h) ⟨h0, by omega⟩ (hw d t) rl
    have r1 := pvl_rng (rl := rl) hw ds (t + 1) (by omega)
    have r2 := Mo_rng (rl := rl) hw n (rm d L) (t + 1) (by omega)
    have ple := pvl_le (rl := rl) hw n ds (rm d L) (t + 1) hdl (by omega) h2.2
    have mo := tg_mono (rl := rl) (h := tg rl h (w d t)) (a := pvl rl w (t + 1) ds) (b := Mo rl w n (rm d L) (t + 1)) ⟨by omega, by omega⟩ ⟨r1.1, by omega⟩ ⟨r2.1, by omega⟩ ple
    have hv2 : tg rl (tg rl h (w d t)) (pvl rl w (t + 1) ds) = G := by
      rw [← tg_assoc]
      exact hv
    have hVd : Vx rl w n L t h d = G := by
      have a := v1 d h2.1
      rw [hv2] at mo
      rw [eq32]
      have b : (Vx rl w n L t h d).toInt = (tg rl (tg rl h (w d t)) (Mo rl w n (rm d L) (t + 1))).toInt := rfl
      omega
    have le := fst1_le (f := Vx rl w n L t h) hVd hs h2.1
    have rl1 := rm_len hs f1
    have hge2 := tg_ge (a := h) ⟨h0, by omega⟩ (hw (fst1 (Vx rl w n L t h) G L) t) rl
    have sub : ∀ z y : Nat, y ∈ rm z L → y ∈ L := fun z y hy => by
      unfold rm at hy
      exact (List.mem_filter.mp hy).1
    have ihok := goal_ok (rl := rl) hw (G := G) n (rm (fst1 (Vx rl w n L t h) G L) L) (t + 1) (tg rl h (w (fst1 (Vx rl w n L t h) G L) t)) (rm_sorted hs) (by omega) (by omega) (by omega) (by omega) f2
    have ihle := goal_le hw (G := G) hm n (rm (fst1 (Vx rl w n L t h) G L) L) (t + 1) (tg rl h (w (fst1 (Vx rl w n L t h) G L) t)) (rm_sorted hs) (by omega) (by omega) (by omega) (by omega) (fun y hy => hLm y (sub _ y hy)) f2
    have eg : gr rl w (n + 1) L t h G = fst1 (Vx rl w n L t h) G L :: gr rl w n (rm (fst1 (Vx rl w n L t h) G L) L) (t + 1) (tg rl h (w (fst1 (Vx rl w n L t h) G L) t)) G := rfl
    rw [eg]
    generalize fst1 (Vx rl w n L t h) G L = y at le ihok ihle f1 ⊢
    generalize gr rl w n (rm y L) (t + 1) (tg rl h (w y t)) G = R at ihok ihle ⊢
    show y * m ^ R.length + num m R ≤ d * m ^ ds.length + num m ds
    rw [ihok.2.1, hdl]
    by_cases e : y = d
    · have := ihle ds hdl (by rw [e]; exact h2.2) (by rw [e]; exact hv2)
      rw [e]
      omega
    · have b := num_lt hm R (fun z hz => hLm z (sub y z (isP_mem R _ ihok.1 z hz)))
      rw [ihok.2.1] at b
      have h3 : (y + 1) * m ^ n ≤ d * m ^ n := Nat.mul_le_mul_right _ (by omega)
      rw [Nat.add_mul, Nat.one_mul] at h3
      omega
/-! the same over stones -/
theorem fst1_congr {f g : Nat → Int32} {v : Int32} : ∀ (L : List Nat), (∀ x, x ∈ L → f x = g x) → fst1 f v L = fst1 g v L
  | [], _ => rfl
  | y :: L, h => by
    show (if f y = v then y else fst1 f v L) = (if g y = v then y else fst1 g v L)
    rw [h y List.mem_cons_self, fst1_congr L (fun x hx => h x (List.mem_cons_of_mem _ hx))]
theorem Mo_map (g : Nat → Nat) : ∀ (n : Nat) (L : List Nat) (t : Nat), (∀ x, x ∈ L → ∀ y, y ∈ L → g y = g x → y = x) → Mo rl w n (L.map g) t = Mo rl (fun d t => w (g d) t) n L t
  | 0, _, _, _ => rfl
  | n + 1, L, t, hi => by
    show mf (fun x => tg rl (w x t) (Mo rl w n (rm x (L.map g)) (t + 1))) (L.map g) 0 = mf (fun x => tg rl (w (g x) t) (Mo rl (fun d t => w (g d) t) n (rm x L) (t + 1))) L 0
    rw [mf_map]
    refine mf_congr L 0 (fun x hx => ?_)
    show tg rl (w (g x) t) (Mo rl w n (rm (g x) (L.map g)) (t + 1)) = _
    have sub : ∀ y : Nat, y ∈ rm x L → y ∈ L := fun y hy => by
      unfold rm at hy
      exact (List.mem_filter.mp hy).1
    rw [rm_map L (fun y hy e => hi x hx y hy e), Mo_map g n (rm x L) (t + 1) (fun a ha b hb e => hi a (sub a ha) b (sub b hb) e)]
theorem gr_map (hw : ∀ x t, 0 ≤ (w x t).toInt ∧ (w x t).toInt ≤ 129) {G : Int32} (g : Nat → Nat) : ∀ (n : Nat) (L : List Nat) (t : Nat) (h : Int32), L.Pairwise (· < ·) → L.length = n → n ≤ 9 → 0 ≤ h.toInt → h.toInt + 129 * n ≤ 1900 → (∀ x, x ∈ L → ∀ y, y ∈ L → g y = g x → y = x) → tg rl h (Mo rl (fun d t => w (g d) t) n L t) = G → gr rl w n (L.map g) t h G = (gr rl (fun d t => w (g d) t) n L t h G).map g
  | 0, _, _, _, _, _, _, _, _, _, _ => rfl
  | n + 1, L, t, h, hs, hl, h9, h0, h1, hi, hG => by
    have ne : L ≠ [] := fun z => by rw [z] at hl; exact absurd hl (by simp)
    have hw' : ∀ x t, 0 ≤ ((fun d t => w (g d) t) x t).toInt ∧ ((fun d t => w (g d) t) x t).toInt ≤ 129 := fun x t => hw (g x) t
    obtain ⟨-, x, hx, hvx⟩ := V_eq (rl := rl) hw' (n := n) (by omega) (h := h) ⟨h0, by omega⟩ ne t
    rw [hG] at hvx
    have sub : ∀ z y : Nat, y ∈ rm z L → y ∈ L := fun z y hy => by
      unfold rm at hy
      exact (List.mem_filter.mp hy).1
    have vv : ∀ y, y ∈ L → Vx rl w n (L.map g) t h (g y) = Vx rl (fun d t => w (g d) t) n L t h y := fun y hy => by
      unfold Vx
      rw [rm_map L (fun z hz e => hi y hy z hz e), Mo_map g n (rm y L) (t + 1) (fun a ha b hb e => hi a (sub y a ha) b (sub y b hb) e)]
    obtain ⟨f1, f2⟩ := fst1_mem (f := Vx rl (fun d t => w (g d) t) n L t h) (g := G) L ⟨x, hx, hvx.symm⟩
    have ef : fst1 (Vx rl w n (L.map g) t h) G (L.map g) = g (fst1 (Vx rl (fun d t => w (g d) t) n L t h) G L) := by
      rw [fst1_map (Vx rl w n (L.map g) t h) g G L ⟨x, hx, by rw [vv x hx]; exact hvx.symm⟩, fst1_congr L vv]
    have rl1 := rm_len hs f1
    have hge := tg_ge (a := h) ⟨h0, by omega⟩ (hw (g (fst1 (Vx rl (fun d t => w (g d) t) n L t h) G L)) t) rl
    have e1 : gr rl w (n + 1) (L.map g) t h G = fst1 (Vx rl w n (L.map g) t h) G (L.map g) :: gr rl w n (rm (fst1 (Vx rl w n (L.map g) t h) G (L.map g)) (L.map g)) (t + 1) (tg rl h (w (fst1 (Vx rl w n (L.map g) t h) G (L.map g)) t)) G := rfl
    have e2 : gr rl (fun d t => w (g d) t) (n + 1) L t h G = fst1 (Vx rl (fun d t => w (g d) t) n L t h) G L :: gr rl (fun d t => w (g d) t) n (rm (fst1 (Vx rl (fun d t => w (g d) t) n L t h) G L) L) (t + 1) (tg rl h (w (g (fst1 (Vx rl (fun d t => w (g d) t) n L t h) G L)) t)) G := rfl
    rw [e1, e2, ef, List.map_cons, rm_map L (fun z hz e => hi _ f1 z hz e)]
    congr 1
    exact gr_map hw g n (rm (fst1 (Vx rl (fun d t => w (g d) t) n L t h) G L) L) (t + 1) _ (rm_sorted hs) (by omega) (by omega) (by omega) (by omega) (fun a ha b hb e => hi a (sub _ a ha) b (sub _ b hb) e) f2
end PE
