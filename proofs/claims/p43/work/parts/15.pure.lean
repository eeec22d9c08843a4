/-! what is left of the claim: the loop of the law, as a function over ints and longs, comes to 1 -/
theorem mm_gw_ne {G : Nat → Nat → Option Nat} {o k j v : Nat} (h : k ≠ o) : mm_gw G o j v k = G k := mm_uc_ne _ _ h
set_option maxRecDepth 100000 in
theorem mm_gz_0 : mm_Gz 0 = mm_G 0 := rfl
set_option maxRecDepth 100000 in
theorem mm_gz_1 : mm_Gz 1 = mm_G 1 := rfl
set_option maxRecDepth 100000 in
theorem mm_gz_2 : mm_Gz 2 = mm_G 2 := rfl
set_option maxRecDepth 100000 in
theorem mm_gz_3 : mm_Gz 3 = mm_G 3 := rfl
set_option maxRecDepth 100000 in
theorem mm_gz_4 : mm_Gz 4 = mm_G 4 := rfl
set_option maxRecDepth 100000 in
theorem mm_gz_5 : mm_Gz 5 = mm_G 5 := rfl
set_option maxRecDepth 100000 in
theorem mm_gz_6 : mm_Gz 6 = mm_G 6 := rfl
set_option maxRecDepth 100000 in
theorem mm_gz_7 : mm_Gz 7 = mm_G 7 := rfl
set_option maxRecDepth 100000 in
theorem mm_gz_8 : mm_Gz 8 = mm_G 8 := rfl
set_option maxRecDepth 100000 in
theorem mm_gz_9 : mm_Gz 9 = mm_G 9 := rfl
set_option maxRecDepth 100000 in
theorem mm_gz_10 : mm_Gz 10 = mm_G 10 := rfl
set_option maxRecDepth 100000 in
theorem mm_gz_11 : mm_Gz 11 = mm_G 11 := rfl
set_option maxRecDepth 100000 in
theorem mm_gz_12 : mm_Gz 12 = mm_G 12 := rfl
set_option maxRecDepth 100000 in
theorem mm_gz_13 : mm_Gz 13 = mm_G 13 := rfl
set_option maxRecDepth 100000 in
theorem mm_gz_14 : mm_Gz 14 = mm_G 14 := rfl
set_option maxRecDepth 100000 in
theorem mm_gz_15 : mm_Gz 15 = mm_G 15 := rfl
set_option maxRecDepth 100000 in
theorem mm_gz_16 : mm_Gz 16 = mm_G 16 := rfl
set_option maxRecDepth 100000 in
theorem mm_gz_17 : mm_Gz 17 = mm_G 17 := rfl
set_option maxRecDepth 100000 in
theorem mm_gz_18 : mm_Gz 18 = mm_G 18 := rfl
set_option maxRecDepth 100000 in
theorem mm_gz_19 : mm_Gz 19 = mm_G 19 := rfl
set_option maxRecDepth 100000 in
theorem mm_gz_20 : mm_Gz 20 = mm_G 20 := rfl
set_option maxRecDepth 100000 in
theorem mm_gz_21 : mm_Gz 21 = mm_G 21 := rfl
set_option maxRecDepth 100000 in
theorem mm_gz_22 : mm_Gz 22 = mm_G 22 := rfl
set_option maxRecDepth 100000 in
theorem mm_gz_23 : mm_Gz 23 = mm_G 23 := rfl
set_option maxRecDepth 100000 in
theorem mm_gz_24 : mm_Gz 24 = mm_G 24 := rfl
set_option maxRecDepth 100000 in
theorem mm_gz_25 : mm_Gz 25 = mm_G 25 := rfl
set_option maxRecDepth 100000 in
theorem mm_gz_26 : mm_Gz 26 = mm_G 26 := rfl
set_option maxRecDepth 100000 in
theorem mm_gz_27 : mm_Gz 27 = mm_G 27 := rfl
set_option maxRecDepth 100000 in
theorem mm_gz_28 : mm_Gz 28 = mm_G 28 := rfl
set_option maxRecDepth 100000 in
theorem mm_gz_29 : mm_Gz 29 = mm_G 29 := rfl
set_option maxRecDepth 100000 in
theorem mm_gz_30 : mm_Gz 30 = mm_G 30 := rfl
set_option maxRecDepth 100000 in
theorem mm_gz_31 : mm_Gz 31 = mm_G 31 := rfl
set_option maxRecDepth 100000 in
theorem mm_gz_32 : mm_Gz 32 = mm_G 32 := rfl
set_option maxRecDepth 100000 in
theorem mm_gz_33 : mm_Gz 33 = mm_G 33 := rfl
set_option maxRecDepth 100000 in
theorem mm_gz_34 : mm_Gz 34 = mm_G 34 := rfl
set_option maxRecDepth 100000 in
theorem mm_gz_35 : mm_Gz 35 = mm_G 35 := by
  funext j
  show va_up (va_up (va_up (va_up (va_up (fun _ => none) 2 (some 36)) 3 (some 37)) 4 (some 38)) 0 (some 8)) 1 (some 14) j = va_up (va_up (va_up (va_up (va_up (fun _ => none) 0 (some 8)) 1 (some 14)) 2 (some 36)) 3 (some 37)) 4 (some 38) j
  unfold va_up
  by_cases h0 : j = 0
  · subst h0; rfl
  by_cases h1 : j = 1
  · subst h1; rfl
  by_cases h2 : j = 2
  · subst h2; rfl
  by_cases h3 : j = 3
  · subst h3; rfl
  by_cases h4 : j = 4
  · subst h4; rfl
  simp only [if_neg h0, if_neg h1, if_neg h2, if_neg h3, if_neg h4]
set_option maxRecDepth 100000 in
theorem mm_gz_36 : mm_Gz 36 = mm_G 36 := rfl
set_option maxRecDepth 100000 in
theorem mm_gz_37 : mm_Gz 37 = mm_G 37 := rfl
set_option maxRecDepth 100000 in
theorem mm_gz_38 : mm_Gz 38 = mm_G 38 := rfl
set_option maxRecDepth 100000 in
theorem mm_gz_39 : mm_Gz 39 = mm_G 39 := by
  funext j
  show va_up (va_up (va_up (va_up (va_up (va_up (fun _ => none) 2 (some 40)) 3 (some 41)) 4 (some 42)) 5 (some 43)) 0 (some 8)) 1 (some 14) j = va_up (va_up (va_up (va_up (va_up (va_up (fun _ => none) 0 (some 8)) 1 (some 14)) 2 (some 40)) 3 (some 41)) 4 (some 42)) 5 (some 43) j
  unfold va_up
  by_cases h0 : j = 0
  · subst h0; rfl
  by_cases h1 : j = 1
  · subst h1; rfl
  by_cases h2 : j = 2
  · subst h2; rfl
  by_cases h3 : j = 3
  · subst h3; rfl
  by_cases h4 : j = 4
  · subst h4; rfl
  by_cases h5 : j = 5
  · subst h5; rfl
  simp only [if_neg h0, if_neg h1, if_neg h2, if_neg h3, if_neg h4, if_neg h5]
set_option maxRecDepth 100000 in
theorem mm_gz_40 : mm_Gz 40 = mm_G 40 := rfl
set_option maxRecDepth 100000 in
theorem mm_gz_41 : mm_Gz 41 = mm_G 41 := rfl
set_option maxRecDepth 100000 in
theorem mm_gz_42 : mm_Gz 42 = mm_G 42 := rfl
set_option maxRecDepth 100000 in
theorem mm_gz_43 : mm_Gz 43 = mm_G 43 := rfl
set_option maxRecDepth 100000 in
theorem mm_gz_44 : mm_Gz 44 = mm_G 44 := by
  funext j
  show va_up (va_up (va_up (fun _ => none) 2 (some 45)) 0 (some 8)) 1 (some 14) j = va_up (va_up (va_up (fun _ => none) 0 (some 8)) 1 (some 14)) 2 (some 45) j
  unfold va_up
  by_cases h0 : j = 0
  · subst h0; rfl
  by_cases h1 : j = 1
  · subst h1; rfl
  by_cases h2 : j = 2
  · subst h2; rfl
  simp only [if_neg h0, if_neg h1, if_neg h2]
set_option maxRecDepth 100000 in
theorem mm_gz_45 : mm_Gz 45 = mm_G 45 := rfl
set_option maxRecDepth 100000 in
theorem mm_gz_46 : mm_Gz 46 = mm_G 46 := by
  funext j
  show va_up (va_up (fun _ => none) 1 (some 47)) 0 (some 48) j = va_up (va_up (fun _ => none) 0 (some 48)) 1 (some 47) j
  unfold va_up
  by_cases h0 : j = 0
  · subst h0; rfl
  by_cases h1 : j = 1
  · subst h1; rfl
  simp only [if_neg h0, if_neg h1]
set_option maxRecDepth 100000 in
theorem mm_gz_47 : mm_Gz 47 = mm_G 47 := rfl
set_option maxRecDepth 100000 in
theorem mm_gz_48 : mm_Gz 48 = mm_G 48 := rfl
set_option maxRecDepth 100000 in
theorem mm_gz_49 : mm_Gz 49 = mm_G 49 := rfl
set_option maxRecDepth 100000 in
theorem mm_gz_50 : mm_Gz 50 = mm_G 50 := rfl
set_option maxRecDepth 100000 in
theorem mm_gz_51 : mm_Gz 51 = mm_G 51 := rfl
set_option maxRecDepth 100000 in
theorem mm_gz_52 : mm_Gz 52 = mm_G 52 := rfl
set_option maxRecDepth 100000 in
theorem mm_gz_53 : mm_Gz 53 = mm_G 53 := rfl
set_option maxRecDepth 100000 in
theorem mm_gz_54 : mm_Gz 54 = mm_G 54 := rfl
set_option maxRecDepth 100000 in
theorem mm_gz_55 : mm_Gz 55 = mm_G 55 := rfl
def mm_pg (G : Nat → Nat → Option Nat) : Prop := ∀ k, 56 ≤ k → G k = fun _ => none
theorem mm_pg_gw {G : Nat → Nat → Option Nat} {o j v : Nat} (h : mm_pg G) (ho : Nat.blt o 56 = true) : mm_pg (mm_gw G o j v) := fun k hk => (mm_gw_ne (by have := Nat.le_of_ble_eq_true ho; omega)).trans (h k hk)
theorem mm_pg_uc {G : Nat → Nat → Option Nat} {o : Nat} {f : Nat → Option Nat} (h : mm_pg G) (ho : Nat.blt o 56 = true) : mm_pg (mm_uc G o f) := fun k hk => (mm_uc_ne _ _ (by have := Nat.le_of_ble_eq_true ho; omega)).trans (h k hk)
theorem mm_pg_zc2G {G : Nat → Nat → Option Nat} (h : mm_pg G) : mm_pg (zc2G G) := by
  unfold zc2G
  repeat first | exact h | refine mm_pg_gw ?_ rfl | refine mm_pg_uc ?_ rfl
theorem mm_pg_zc3G {G : Nat → Nat → Option Nat} (h : mm_pg G) : mm_pg (zc3G G) := by
  unfold zc3G
  repeat first | exact h | refine mm_pg_gw ?_ rfl | refine mm_pg_uc ?_ rfl | refine mm_pg_zc2G ?_
theorem mm_pg_zc4G {G : Nat → Nat → Option Nat} (h : mm_pg G) : mm_pg (zc4G G) := by
  unfold zc4G
  repeat first | exact h | refine mm_pg_gw ?_ rfl | refine mm_pg_uc ?_ rfl | refine mm_pg_zc2G ?_ | refine mm_pg_zc3G ?_
theorem mm_pg_zc5G {G : Nat → Nat → Option Nat} (h : mm_pg G) : mm_pg (zc5G G) := by
  unfold zc5G
  repeat first | exact h | refine mm_pg_gw ?_ rfl | refine mm_pg_uc ?_ rfl | refine mm_pg_zc2G ?_ | refine mm_pg_zc3G ?_ | refine mm_pg_zc4G ?_
theorem mm_pg_zc6G {G : Nat → Nat → Option Nat} (h : mm_pg G) : mm_pg (zc6G G) := by
  unfold zc6G
  repeat first | exact h | refine mm_pg_gw ?_ rfl | refine mm_pg_uc ?_ rfl | refine mm_pg_zc2G ?_ | refine mm_pg_zc3G ?_ | refine mm_pg_zc4G ?_ | refine mm_pg_zc5G ?_
theorem mm_pg_zc7G {G : Nat → Nat → Option Nat} (h : mm_pg G) : mm_pg (zc7G G) := by
  unfold zc7G
  repeat first | exact h | refine mm_pg_gw ?_ rfl | refine mm_pg_uc ?_ rfl | refine mm_pg_zc2G ?_ | refine mm_pg_zc3G ?_ | refine mm_pg_zc4G ?_ | refine mm_pg_zc5G ?_ | refine mm_pg_zc6G ?_
theorem mm_pg_zc8G {G : Nat → Nat → Option Nat} (h : mm_pg G) : mm_pg (zc8G G) := by
  unfold zc8G
  repeat first | exact h | refine mm_pg_gw ?_ rfl | refine mm_pg_uc ?_ rfl | refine mm_pg_zc2G ?_ | refine mm_pg_zc3G ?_ | refine mm_pg_zc4G ?_ | refine mm_pg_zc5G ?_ | refine mm_pg_zc6G ?_ | refine mm_pg_zc7G ?_
theorem mm_pg_zc9G {G : Nat → Nat → Option Nat} (h : mm_pg G) : mm_pg (zc9G G) := by
  unfold zc9G
  repeat first | exact h | refine mm_pg_gw ?_ rfl | refine mm_pg_uc ?_ rfl | refine mm_pg_zc2G ?_ | refine mm_pg_zc3G ?_ | refine mm_pg_zc4G ?_ | refine mm_pg_zc5G ?_ | refine mm_pg_zc6G ?_ | refine mm_pg_zc7G ?_ | refine mm_pg_zc8G ?_
theorem mm_pg_zc10G {G : Nat → Nat → Option Nat} (h : mm_pg G) : mm_pg (zc10G G) := by
  unfold zc10G
  repeat first | exact h | refine mm_pg_gw ?_ rfl | refine mm_pg_uc ?_ rfl | refine mm_pg_zc2G ?_ | refine mm_pg_zc3G ?_ | refine mm_pg_zc4G ?_ | refine mm_pg_zc5G ?_ | refine mm_pg_zc6G ?_ | refine mm_pg_zc7G ?_ | refine mm_pg_zc8G ?_ | refine mm_pg_zc9G ?_
theorem mm_pg_zc11G {G : Nat → Nat → Option Nat} (h : mm_pg G) : mm_pg (zc11G G) := by
  unfold zc11G
  repeat first | exact h | refine mm_pg_gw ?_ rfl | refine mm_pg_uc ?_ rfl | refine mm_pg_zc2G ?_ | refine mm_pg_zc3G ?_ | refine mm_pg_zc4G ?_ | refine mm_pg_zc5G ?_ | refine mm_pg_zc6G ?_ | refine mm_pg_zc7G ?_ | refine mm_pg_zc8G ?_ | refine mm_pg_zc9G ?_ | refine mm_pg_zc10G ?_
theorem mm_pg_zc12G {G : Nat → Nat → Option Nat} (h : mm_pg G) : mm_pg (zc12G G) := by
  unfold zc12G
  repeat first | exact h | refine mm_pg_gw ?_ rfl | refine mm_pg_uc ?_ rfl | refine mm_pg_zc2G ?_ | refine mm_pg_zc3G ?_ | refine mm_pg_zc4G ?_ | refine mm_pg_zc5G ?_ | refine mm_pg_zc6G ?_ | refine mm_pg_zc7G ?_ | refine mm_pg_zc8G ?_ | refine mm_pg_zc9G ?_ | refine mm_pg_zc10G ?_ | refine mm_pg_zc11G ?_
theorem mm_pg_zc13G {G : Nat → Nat → Option Nat} (h : mm_pg G) : mm_pg (zc13G G) := by
  unfold zc13G
  repeat first | exact h | refine mm_pg_gw ?_ rfl | refine mm_pg_uc ?_ rfl | refine mm_pg_zc2G ?_ | refine mm_pg_zc3G ?_ | refine mm_pg_zc4G ?_ | refine mm_pg_zc5G ?_ | refine mm_pg_zc6G ?_ | refine mm_pg_zc7G ?_ | refine mm_pg_zc8G ?_ | refine mm_pg_zc9G ?_ | refine mm_pg_zc10G ?_ | refine mm_pg_zc11G ?_ | refine mm_pg_zc12G ?_
theorem mm_pg_zc14G {G : Nat → Nat → Option Nat} (h : mm_pg G) : mm_pg (zc14G G) := by
  unfold zc14G
  repeat first | exact h | refine mm_pg_gw ?_ rfl | refine mm_pg_uc ?_ rfl | refine mm_pg_zc2G ?_ | refine mm_pg_zc3G ?_ | refine mm_pg_zc4G ?_ | refine mm_pg_zc5G ?_ | refine mm_pg_zc6G ?_ | refine mm_pg_zc7G ?_ | refine mm_pg_zc8G ?_ | refine mm_pg_zc9G ?_ | refine mm_pg_zc10G ?_ | refine mm_pg_zc11G ?_ | refine mm_pg_zc12G ?_ | refine mm_pg_zc13G ?_
theorem mm_pg_zc15G {G : Nat → Nat → Option Nat} (h : mm_pg G) : mm_pg (zc15G G) := by
  unfold zc15G
  repeat first | exact h | refine mm_pg_gw ?_ rfl | refine mm_pg_uc ?_ rfl | refine mm_pg_zc2G ?_ | refine mm_pg_zc3G ?_ | refine mm_pg_zc4G ?_ | refine mm_pg_zc5G ?_ | refine mm_pg_zc6G ?_ | refine mm_pg_zc7G ?_ | refine mm_pg_zc8G ?_ | refine mm_pg_zc9G ?_ | refine mm_pg_zc10G ?_ | refine mm_pg_zc11G ?_ | refine mm_pg_zc12G ?_ | refine mm_pg_zc13G ?_ | refine mm_pg_zc14G ?_
theorem mm_pg_zc16G {G : Nat → Nat → Option Nat} (h : mm_pg G) : mm_pg (zc16G G) := by
  unfold zc16G
  repeat first | exact h | refine mm_pg_gw ?_ rfl | refine mm_pg_uc ?_ rfl | refine mm_pg_zc2G ?_ | refine mm_pg_zc3G ?_ | refine mm_pg_zc4G ?_ | refine mm_pg_zc5G ?_ | refine mm_pg_zc6G ?_ | refine mm_pg_zc7G ?_ | refine mm_pg_zc8G ?_ | refine mm_pg_zc9G ?_ | refine mm_pg_zc10G ?_ | refine mm_pg_zc11G ?_ | refine mm_pg_zc12G ?_ | refine mm_pg_zc13G ?_ | refine mm_pg_zc14G ?_ | refine mm_pg_zc15G ?_
theorem mm_pg_zc17G {G : Nat → Nat → Option Nat} (h : mm_pg G) : mm_pg (zc17G G) := by
  unfold zc17G
  repeat first | exact h | refine mm_pg_gw ?_ rfl | refine mm_pg_uc ?_ rfl | refine mm_pg_zc2G ?_ | refine mm_pg_zc3G ?_ | refine mm_pg_zc4G ?_ | refine mm_pg_zc5G ?_ | refine mm_pg_zc6G ?_ | refine mm_pg_zc7G ?_ | refine mm_pg_zc8G ?_ | refine mm_pg_zc9G ?_ | refine mm_pg_zc10G ?_ | refine mm_pg_zc11G ?_ | refine mm_pg_zc12G ?_ | refine mm_pg_zc13G ?_ | refine mm_pg_zc14G ?_ | refine mm_pg_zc15G ?_ | refine mm_pg_zc16G ?_
theorem mm_pg_zc1G {G : Nat → Nat → Option Nat} (h : mm_pg G) : mm_pg (zc1G G) := by
  unfold zc1G
  repeat first | exact h | refine mm_pg_gw ?_ rfl | refine mm_pg_uc ?_ rfl | refine mm_pg_zc2G ?_ | refine mm_pg_zc3G ?_ | refine mm_pg_zc4G ?_ | refine mm_pg_zc5G ?_ | refine mm_pg_zc6G ?_ | refine mm_pg_zc7G ?_ | refine mm_pg_zc8G ?_ | refine mm_pg_zc9G ?_ | refine mm_pg_zc10G ?_ | refine mm_pg_zc11G ?_ | refine mm_pg_zc12G ?_ | refine mm_pg_zc13G ?_ | refine mm_pg_zc14G ?_ | refine mm_pg_zc15G ?_ | refine mm_pg_zc16G ?_ | refine mm_pg_zc17G ?_
theorem mm_gz_out {k : Nat} (h : 56 ≤ k) : mm_Gz k = fun _ => none := by
  have h2 : mm_pg mm_Gz := by
    unfold mm_Gz
    repeat first | exact fun _ _ => rfl | refine mm_pg_gw ?_ rfl | refine mm_pg_zc2G ?_ | refine mm_pg_zc3G ?_ | refine mm_pg_zc4G ?_ | refine mm_pg_zc5G ?_ | refine mm_pg_zc6G ?_ | refine mm_pg_zc7G ?_ | refine mm_pg_zc8G ?_ | refine mm_pg_zc9G ?_ | refine mm_pg_zc10G ?_ | refine mm_pg_zc11G ?_ | refine mm_pg_zc12G ?_ | refine mm_pg_zc13G ?_ | refine mm_pg_zc14G ?_ | refine mm_pg_zc15G ?_ | refine mm_pg_zc16G ?_ | refine mm_pg_zc17G ?_ | refine mm_pg_zc1G ?_ | refine mm_pg_uc ?_ rfl
  exact h2 k h
theorem mm_Gz_eq : mm_Gz = mm_G := by
  funext k
  by_cases h : k < 56
  · match k, h with
    | 0, _ => exact mm_gz_0
    | 1, _ => exact mm_gz_1
    | 2, _ => exact mm_gz_2
    | 3, _ => exact mm_gz_3
    | 4, _ => exact mm_gz_4
    | 5, _ => exact mm_gz_5
    | 6, _ => exact mm_gz_6
    | 7, _ => exact mm_gz_7
    | 8, _ => exact mm_gz_8
    | 9, _ => exact mm_gz_9
    | 10, _ => exact mm_gz_10
    | 11, _ => exact mm_gz_11
    | 12, _ => exact mm_gz_12
    | 13, _ => exact mm_gz_13
    | 14, _ => exact mm_gz_14
    | 15, _ => exact mm_gz_15
    | 16, _ => exact mm_gz_16
    | 17, _ => exact mm_gz_17
    | 18, _ => exact mm_gz_18
    | 19, _ => exact mm_gz_19
    | 20, _ => exact mm_gz_20
    | 21, _ => exact mm_gz_21
    | 22, _ => exact mm_gz_22
    | 23, _ => exact mm_gz_23
    | 24, _ => exact mm_gz_24
    | 25, _ => exact mm_gz_25
    | 26, _ => exact mm_gz_26
    | 27, _ => exact mm_gz_27
    | 28, _ => exact mm_gz_28
    | 29, _ => exact mm_gz_29
    | 30, _ => exact mm_gz_30
    | 31, _ => exact mm_gz_31
    | 32, _ => exact mm_gz_32
    | 33, _ => exact mm_gz_33
    | 34, _ => exact mm_gz_34
    | 35, _ => exact mm_gz_35
    | 36, _ => exact mm_gz_36
    | 37, _ => exact mm_gz_37
    | 38, _ => exact mm_gz_38
    | 39, _ => exact mm_gz_39
    | 40, _ => exact mm_gz_40
    | 41, _ => exact mm_gz_41
    | 42, _ => exact mm_gz_42
    | 43, _ => exact mm_gz_43
    | 44, _ => exact mm_gz_44
    | 45, _ => exact mm_gz_45
    | 46, _ => exact mm_gz_46
    | 47, _ => exact mm_gz_47
    | 48, _ => exact mm_gz_48
    | 49, _ => exact mm_gz_49
    | 50, _ => exact mm_gz_50
    | 51, _ => exact mm_gz_51
    | 52, _ => exact mm_gz_52
    | 53, _ => exact mm_gz_53
    | 54, _ => exact mm_gz_54
    | 55, _ => exact mm_gz_55
    | n + 56, h => exact absurd h (by omega)
  · rw [mm_gz_out (by omega)]
    exact (mm_gn_out _ _ (by show 56 ≤ k; omega)).symm
theorem mm_law_of {L : Nat} {xs : Nat → Int32} {q9 : mm_Q} (hL : L ≤ 260) (h : law_in L (mm_Iz xs, mm_Jz) = some (1, q9)) : mm_Law L xs := by
  have h1 := law_in_ok (len := L) (mm_Iz xs, mm_Jz) 1 q9 h
  have h2 : mm_Go (mm_Runs 107) 14 false code (some .boolean) 29 [some (.ref 0), some (.ref 7), some (.ref 52), some (.ref 53), some (.ref 54), some (.ref 55), none, none, none, none, none, none, none, none, none, none, none, none, none, none, none, none, none, none, none, none, none, none, none, none, none, none, none, none, none, none, none, none, none] [] ((mm_S (L, 0), mm_Iz xs, mm_Jz, mm_Gz) : mm_W) (some (.int 1)) (mm_wq (L, 18) q9) := by
    rw [mm_Gz_eq]
    exact h1
  obtain ⟨n, hn⟩ := mm_init_ok h2
  refine ⟨107, n, mm_wq (L, 18) q9, by decide, ?_, ?_, hn⟩
  · show (mm_S (L, 18)).length ≤ 500000
    rw [mm_S_len]
    omega
  · have e : mm_sl (mm_wq (L, 18) q9).1 = L + mm_sl (mm_S (0, 18)) := by
      show mm_sl ((4, L) :: (mm_S (0, 18)).tail) = _
      unfold mm_sl
      rw [List.map_cons, List.sum_cons]
      rfl
    have e2 : mm_sl (mm_S (0, 18)) ≤ 100000 := by decide +kernel
    omega
