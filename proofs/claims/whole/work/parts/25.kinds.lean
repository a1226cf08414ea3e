/-! KINDS: what carriers are by their kind; heat -/
theorem LK_0_0 : List.lookup 0 ([(0, 2), (1, 6), (3, 15), (4, 22), (5, 22), (7, 15)] : List (Nat × Nat)) = some 2 := rfl
theorem LK_0_1 : List.lookup 1 ([(0, 2), (1, 6), (3, 15), (4, 22), (5, 22), (7, 15)] : List (Nat × Nat)) = some 6 := rfl
theorem LK_0_3 : List.lookup 3 ([(0, 2), (1, 6), (3, 15), (4, 22), (5, 22), (7, 15)] : List (Nat × Nat)) = some 15 := rfl
theorem LK_0_4 : List.lookup 4 ([(0, 2), (1, 6), (3, 15), (4, 22), (5, 22), (7, 15)] : List (Nat × Nat)) = some 22 := rfl
theorem LK_0_5 : List.lookup 5 ([(0, 2), (1, 6), (3, 15), (4, 22), (5, 22), (7, 15)] : List (Nat × Nat)) = some 22 := rfl
theorem LK_0_7 : List.lookup 7 ([(0, 2), (1, 6), (3, 15), (4, 22), (5, 22), (7, 15)] : List (Nat × Nat)) = some 15 := rfl
theorem LK_1_0 : List.lookup 0 ([(0, 1), (1, 5), (3, 14), (4, 18), (5, 21), (7, 39)] : List (Nat × Nat)) = some 1 := rfl
theorem LK_1_1 : List.lookup 1 ([(0, 1), (1, 5), (3, 14), (4, 18), (5, 21), (7, 39)] : List (Nat × Nat)) = some 5 := rfl
theorem LK_1_3 : List.lookup 3 ([(0, 1), (1, 5), (3, 14), (4, 18), (5, 21), (7, 39)] : List (Nat × Nat)) = some 14 := rfl
theorem LK_1_4 : List.lookup 4 ([(0, 1), (1, 5), (3, 14), (4, 18), (5, 21), (7, 39)] : List (Nat × Nat)) = some 18 := rfl
theorem LK_1_5 : List.lookup 5 ([(0, 1), (1, 5), (3, 14), (4, 18), (5, 21), (7, 39)] : List (Nat × Nat)) = some 21 := rfl
theorem LK_1_7 : List.lookup 7 ([(0, 1), (1, 5), (3, 14), (4, 18), (5, 21), (7, 39)] : List (Nat × Nat)) = some 39 := rfl
theorem LK_2_3 : List.lookup 3 ([(3, 21), (7, 21)] : List (Nat × Nat)) = some 21 := rfl
theorem LK_2_7 : List.lookup 7 ([(3, 21), (7, 21)] : List (Nat × Nat)) = some 21 := rfl
theorem LK_3_3 : List.lookup 3 ([(3, 22), (7, 22)] : List (Nat × Nat)) = some 22 := rfl
theorem LK_3_7 : List.lookup 7 ([(3, 22), (7, 22)] : List (Nat × Nat)) = some 22 := rfl
theorem LK_4_3 : List.lookup 3 ([(3, 23), (7, 23)] : List (Nat × Nat)) = some 23 := rfl
theorem LK_4_7 : List.lookup 7 ([(3, 23), (7, 23)] : List (Nat × Nat)) = some 23 := rfl
theorem LK_5_0 : List.lookup 0 ([(0, 21), (4, 21)] : List (Nat × Nat)) = some 21 := rfl
theorem LK_5_4 : List.lookup 4 ([(0, 21), (4, 21)] : List (Nat × Nat)) = some 21 := rfl
theorem LK_6_0 : List.lookup 0 ([(0, 3), (1, 7), (3, 16), (4, 23), (5, 23), (7, 40)] : List (Nat × Nat)) = some 3 := rfl
theorem LK_6_1 : List.lookup 1 ([(0, 3), (1, 7), (3, 16), (4, 23), (5, 23), (7, 40)] : List (Nat × Nat)) = some 7 := rfl
theorem LK_6_3 : List.lookup 3 ([(0, 3), (1, 7), (3, 16), (4, 23), (5, 23), (7, 40)] : List (Nat × Nat)) = some 16 := rfl
theorem LK_6_4 : List.lookup 4 ([(0, 3), (1, 7), (3, 16), (4, 23), (5, 23), (7, 40)] : List (Nat × Nat)) = some 23 := rfl
theorem LK_6_5 : List.lookup 5 ([(0, 3), (1, 7), (3, 16), (4, 23), (5, 23), (7, 40)] : List (Nat × Nat)) = some 23 := rfl
theorem LK_6_7 : List.lookup 7 ([(0, 3), (1, 7), (3, 16), (4, 23), (5, 23), (7, 40)] : List (Nat × Nat)) = some 40 := rfl
theorem LK_7_0 : List.lookup 0 ([(0, 20), (1, 20), (3, 20), (4, 20), (5, 20), (7, 20)] : List (Nat × Nat)) = some 20 := rfl
theorem LK_7_1 : List.lookup 1 ([(0, 20), (1, 20), (3, 20), (4, 20), (5, 20), (7, 20)] : List (Nat × Nat)) = some 20 := rfl
theorem LK_7_3 : List.lookup 3 ([(0, 20), (1, 20), (3, 20), (4, 20), (5, 20), (7, 20)] : List (Nat × Nat)) = some 20 := rfl
theorem LK_7_4 : List.lookup 4 ([(0, 20), (1, 20), (3, 20), (4, 20), (5, 20), (7, 20)] : List (Nat × Nat)) = some 20 := rfl
theorem LK_7_5 : List.lookup 5 ([(0, 20), (1, 20), (3, 20), (4, 20), (5, 20), (7, 20)] : List (Nat × Nat)) = some 20 := rfl
theorem LK_7_7 : List.lookup 7 ([(0, 20), (1, 20), (3, 20), (4, 20), (5, 20), (7, 20)] : List (Nat × Nat)) = some 20 := rfl
theorem z_2 : ((2 : Int32) = 0) = False := by decide
theorem z_3 : ((3 : Int32) = 0) = False := by decide
theorem z_4 : ((4 : Int32) = 0) = False := by decide
theorem z_6 : ((6 : Int32) = 0) = False := by decide
theorem z_7 : ((7 : Int32) = 0) = False := by decide
theorem z_12 : ((12 : Int32) = 0) = False := by decide
theorem z_24 : ((24 : Int32) = 0) = False := by decide
theorem tl_s (v : Value) (l : List Value) : (some v).toList ++ l = v :: l := rfl
theorem tl_n (l : List Value) : (none : Option Value).toList ++ l = l := rfl
def mx0 (v : Int32) : Int32 := if 0 < v then v else 0
def hT (x : Int32) : Int32 := 12 - (if 0 ≤ (x - x / 24 * 24) - 12 then (x - x / 24 * 24) - 12 else -((x - x / 24 * 24) - 12))
def coolF (k : Nat) (sh du x : Int32) : Int32 := if k = 0 then sh / 4 else if k = 1 then sh / 4 / 2 else if k = 2 then mx0 (sh / 4 - du) else if k = 3 then sh / 2 else if k = 4 then mx0 (sh / 4 / 2 - 2) else (if x - x / 7 * 7 = 0 then 0 else mx0 (sh / 4 - du))
def fadeF (k : Nat) (du ht : Int32) : Int32 := if k = 0 then ht / 6 else if k = 1 then ht / 6 else if k = 2 then (if 4 < du then ht / 6 + 1 else ht / 6) else if k = 3 then ht / 6 + 1 else if k = 4 then mx0 (ht / 6 - 1) else (if 4 < du then ht / 6 + 1 else ht / 6)
def worthF (k : Nat) (sh du pr : Int32) : Int32 := if k = 0 then sh * pr else if k = 1 then sh * pr else if k = 2 then sh * pr + pr * du else if k = 3 then sh * pr / 2 else if k = 4 then (if 30 ≤ sh then sh * pr + 50 else sh * pr) else 0
theorem i32_add0 (x : Int32) : x + 0 = x := by simp
theorem i32_xor24 {x : Int32} (h : 0 ≤ x) : 0 ≤ x ^^^ 24 := by
  obtain ⟨n, hn, rfl⟩ := nI_of (Int32.not_lt.mpr h)
  rw [show (24 : Int32) = nI 24 from rfl, fb_xorI]
  exact nI_pos' (Nat.xor_lt_two_pow hn (by decide))
theorem sp_floorMod24 (d : Nat) (x : Int32) (h : sx_H) (hx : 0 ≤ x) : sx_call (d + 1) 211 [.int x, .int 24] h = some (some (.int (x - x / 24 * 24)), h) := by
  rw [cz211]
  simp only [ez211_0, ez211_1, ez211_2, ez211_3, ez211_4, ez211_5, ez211_6, ez211_7, ez211_10, ez211_11, ez211_14, ez211_15, ez211_16, ez211_17, ez211_18, ez211_19, z_24, if_false, i32_xor24 hx, if_true]
theorem sp_heatAt (d : Nat) (x : Int32) (h : sx_H) (hx : 0 ≤ x) : sx_call (d + 2) 112 [.int x] h = some (some (.int (hT x)), h) := by
  rw [cz112]
  simp only [ez112_0, ez112_2, ez112_3, ez112_5, ez112_8, ez112_10, ez112_11, ez112_14, ez112_15, sp_floorMod24 d x h hx, Option.bind_some, tl_s, sp_Math_abs]
  rfl
section KINDS
variable (d : Nat) (S : hs_S) (t a : Nat) (x : Int32) (ha : isCar a = true)
theorem sp_Kind_cool (ha : isCar a = true) : sx_call (d + 1) 21 [.ref t, .ref a, .int x] (hp S) = some (some (.int (S.1 a 2 / 4)), hp S) := by
  rw [cz21]
  simp only [ez21_0, ez21_1, ez21_4, ez21_5, ez21_6, GC_2 S ha, Option.bind_some, z_4, if_false]
theorem sp_Kind_fading (ha : isCar a = true) : sx_call (d + 1) 22 [.ref t, .ref a, .int x] (hp S) = some (some (.int (x / 6)), hp S) := by
  rw [cz22]
  simp only [ez22_0, ez22_1, ez22_3, ez22_4, z_6, if_false]
theorem sp_Kind_worth (ha : isCar a = true) : sx_call (d + 1) 23 [.ref t, .ref a, .int x] (hp S) = some (some (.int (S.1 a 2 * x)), hp S) := by
  rw [cz23]
  simp only [ez23_0, ez23_1, ez23_4, ez23_5, ez23_6, GC_2 S ha, Option.bind_some]
theorem sp_Granny_cool (ha : isCar a = true) (ht : sx_kl (hp S) t = some 4 ∨ sx_kl (hp S) t = some 0) : sx_call (d + 2) 18 [.ref t, .ref a, .int x] (hp S) = some (some (.int (S.1 a 2 / 4 / 2)), hp S) := by
  rw [cz18]
  rcases ht with ht | ht <;> simp only [ez18_0, ez18_1, ez18_2, ez18_3, ez18_6, ez18_7, ez18_8, ht, Option.bind_some, LK_0_0, LK_0_1, LK_0_3, LK_0_4, LK_0_5, LK_0_7, LK_1_0, LK_1_1, LK_1_3, LK_1_4, LK_1_5, LK_1_7, LK_2_3, LK_2_7, LK_3_3, LK_3_7, LK_4_3, LK_4_7, LK_5_0, LK_5_4, LK_6_0, LK_6_1, LK_6_3, LK_6_4, LK_6_5, LK_6_7, LK_7_0, LK_7_1, LK_7_3, LK_7_4, LK_7_5, LK_7_7, sp_Kind_cool d S t a x ha, tl_s, z_2, if_false]
theorem sp_Dealer_cool (ha : isCar a = true) (ht : sx_kl (hp S) t = some 3 ∨ sx_kl (hp S) t = some 7) : sx_call (d + 2) 14 [.ref t, .ref a, .int x] (hp S) = some (some (.int (mx0 (S.1 a 2 / 4 - S.1 a 4))), hp S) := by
  rw [cz14]
  rcases ht with ht | ht <;> simp only [ez14_0, ez14_1, ez14_2, ez14_3, ez14_4, ez14_7, ez14_8, ez14_11, ez14_12, ez14_15, ht, Option.bind_some, LK_0_0, LK_0_1, LK_0_3, LK_0_4, LK_0_5, LK_0_7, LK_1_0, LK_1_1, LK_1_3, LK_1_4, LK_1_5, LK_1_7, LK_2_3, LK_2_7, LK_3_3, LK_3_7, LK_4_3, LK_4_7, LK_5_0, LK_5_4, LK_6_0, LK_6_1, LK_6_3, LK_6_4, LK_6_5, LK_6_7, LK_7_0, LK_7_1, LK_7_3, LK_7_4, LK_7_5, LK_7_7, sp_Kind_cool d S t a x ha, tl_s, GC_4 S ha, sp_Math_max] <;> rfl
theorem sp_Caravan_cool (ha : isCar a = true) : sx_call (d + 1) 5 [.ref t, .ref a, .int x] (hp S) = some (some (.int (S.1 a 2 / 2)), hp S) := by
  rw [cz5]
  simp only [ez5_0, ez5_1, ez5_4, ez5_5, ez5_6, GC_2 S ha, Option.bind_some, z_2, if_false]
theorem sp_Bride_cool (ha : isCar a = true) (ht : sx_kl (hp S) t = some 0) : sx_call (d + 3) 1 [.ref t, .ref a, .int x] (hp S) = some (some (.int (mx0 (S.1 a 2 / 4 / 2 - 2))), hp S) := by
  rw [cz1]
  simp only [ez1_0, ez1_1, ez1_2, ez1_3, ez1_4, ez1_7, ez1_8, ez1_9, ez1_12, ht, if_true, Option.bind_some, LK_0_0, LK_0_1, LK_0_3, LK_0_4, LK_0_5, LK_0_7, LK_1_0, LK_1_1, LK_1_3, LK_1_4, LK_1_5, LK_1_7, LK_2_3, LK_2_7, LK_3_3, LK_3_7, LK_4_3, LK_4_7, LK_5_0, LK_5_4, LK_6_0, LK_6_1, LK_6_3, LK_6_4, LK_6_5, LK_6_7, LK_7_0, LK_7_1, LK_7_3, LK_7_4, LK_7_5, LK_7_7, sp_Granny_cool d S t a x ha (Or.inr ht), tl_s, sp_Math_max]
  rfl
theorem sp_Priest_cool (ha : isCar a = true) (ht : sx_kl (hp S) t = some 7) : sx_call (d + 3) 39 [.ref t, .ref a, .int x] (hp S) = some (some (.int (if x - x / 7 * 7 = 0 then 0 else mx0 (S.1 a 2 / 4 - S.1 a 4))), hp S) := by
  rw [cz39]
  simp only [ez39_0, ez39_1, ez39_3, ez39_4, ez39_7, ez39_8, ez39_11, ez39_12, ez39_13, ez39_14, ez39_17, ht, if_true, z_7, if_false, Option.bind_some, LK_0_0, LK_0_1, LK_0_3, LK_0_4, LK_0_5, LK_0_7, LK_1_0, LK_1_1, LK_1_3, LK_1_4, LK_1_5, LK_1_7, LK_2_3, LK_2_7, LK_3_3, LK_3_7, LK_4_3, LK_4_7, LK_5_0, LK_5_4, LK_6_0, LK_6_1, LK_6_3, LK_6_4, LK_6_5, LK_6_7, LK_7_0, LK_7_1, LK_7_3, LK_7_4, LK_7_5, LK_7_7, sp_Dealer_cool d S t a x ha (Or.inr ht), tl_s]
  by_cases h : x - x / 7 * 7 = 0
  · simp only [h, if_true, not_true, if_false]
  · simp only [h, if_false, not_false_iff, if_true]
theorem sp_Dealer_fading (ha : isCar a = true) (ht : sx_kl (hp S) t = some 3 ∨ sx_kl (hp S) t = some 7) : sx_call (d + 2) 15 [.ref t, .ref a, .int x] (hp S) = some (some (.int (if 4 < S.1 a 4 then x / 6 + 1 else x / 6)), hp S) := by
  rw [cz15]
  by_cases h : S.1 a 4 ≤ 4
  · have h2 : ¬ 4 < S.1 a 4 := Int32.not_lt.mpr h
    rcases ht with ht | ht <;> simp only [ez15_0, ez15_1, ez15_2, ez15_3, ez15_6, ez15_7, ez15_10, ez15_11, ez15_14, ez15_15, ez15_18, ez15_19, ez15_20, ht, Option.bind_some, LK_0_0, LK_0_1, LK_0_3, LK_0_4, LK_0_5, LK_0_7, LK_1_0, LK_1_1, LK_1_3, LK_1_4, LK_1_5, LK_1_7, LK_2_3, LK_2_7, LK_3_3, LK_3_7, LK_4_3, LK_4_7, LK_5_0, LK_5_4, LK_6_0, LK_6_1, LK_6_3, LK_6_4, LK_6_5, LK_6_7, LK_7_0, LK_7_1, LK_7_3, LK_7_4, LK_7_5, LK_7_7, sp_Kind_fading d S t a x ha, tl_s, GC_4 S ha, h, h2, if_true, if_false, i32_add0]
  · have h2 : 4 < S.1 a 4 := Int32.not_le.mp h
    rcases ht with ht | ht <;> simp only [ez15_0, ez15_1, ez15_2, ez15_3, ez15_6, ez15_7, ez15_10, ez15_11, ez15_14, ez15_15, ez15_18, ez15_19, ez15_20, ht, Option.bind_some, LK_0_0, LK_0_1, LK_0_3, LK_0_4, LK_0_5, LK_0_7, LK_1_0, LK_1_1, LK_1_3, LK_1_4, LK_1_5, LK_1_7, LK_2_3, LK_2_7, LK_3_3, LK_3_7, LK_4_3, LK_4_7, LK_5_0, LK_5_4, LK_6_0, LK_6_1, LK_6_3, LK_6_4, LK_6_5, LK_6_7, LK_7_0, LK_7_1, LK_7_3, LK_7_4, LK_7_5, LK_7_7, sp_Kind_fading d S t a x ha, tl_s, GC_4 S ha, h, h2, if_true, if_false]
theorem sp_Caravan_fading (ha : isCar a = true) (ht : sx_kl (hp S) t = some 1) : sx_call (d + 2) 6 [.ref t, .ref a, .int x] (hp S) = some (some (.int (x / 6 + 1)), hp S) := by
  rw [cz6]
  simp only [ez6_0, ez6_1, ez6_2, ez6_3, ez6_6, ez6_7, ez6_8, ht, if_true, Option.bind_some, LK_0_0, LK_0_1, LK_0_3, LK_0_4, LK_0_5, LK_0_7, LK_1_0, LK_1_1, LK_1_3, LK_1_4, LK_1_5, LK_1_7, LK_2_3, LK_2_7, LK_3_3, LK_3_7, LK_4_3, LK_4_7, LK_5_0, LK_5_4, LK_6_0, LK_6_1, LK_6_3, LK_6_4, LK_6_5, LK_6_7, LK_7_0, LK_7_1, LK_7_3, LK_7_4, LK_7_5, LK_7_7, sp_Kind_fading d S t a x ha, tl_s]
theorem sp_Bride_fading (ha : isCar a = true) (ht : sx_kl (hp S) t = some 0) : sx_call (d + 2) 2 [.ref t, .ref a, .int x] (hp S) = some (some (.int (mx0 (x / 6 - 1))), hp S) := by
  rw [cz2]
  simp only [ez2_0, ez2_1, ez2_2, ez2_3, ez2_4, ez2_7, ez2_8, ez2_9, ez2_12, ht, if_true, Option.bind_some, LK_0_0, LK_0_1, LK_0_3, LK_0_4, LK_0_5, LK_0_7, LK_1_0, LK_1_1, LK_1_3, LK_1_4, LK_1_5, LK_1_7, LK_2_3, LK_2_7, LK_3_3, LK_3_7, LK_4_3, LK_4_7, LK_5_0, LK_5_4, LK_6_0, LK_6_1, LK_6_3, LK_6_4, LK_6_5, LK_6_7, LK_7_0, LK_7_1, LK_7_3, LK_7_4, LK_7_5, LK_7_7, sp_Kind_fading d S t a x ha, tl_s, sp_Math_max]
  rfl
theorem sp_Dealer_worth (ha : isCar a = true) (ht : sx_kl (hp S) t = some 3 ∨ sx_kl (hp S) t = some 7) : sx_call (d + 2) 16 [.ref t, .ref a, .int x] (hp S) = some (some (.int (S.1 a 2 * x + x * S.1 a 4)), hp S) := by
  rw [cz16]
  rcases ht with ht | ht <;> simp only [ez16_0, ez16_1, ez16_2, ez16_3, ez16_6, ez16_7, ez16_8, ez16_11, ez16_12, ez16_13, ht, Option.bind_some, LK_0_0, LK_0_1, LK_0_3, LK_0_4, LK_0_5, LK_0_7, LK_1_0, LK_1_1, LK_1_3, LK_1_4, LK_1_5, LK_1_7, LK_2_3, LK_2_7, LK_3_3, LK_3_7, LK_4_3, LK_4_7, LK_5_0, LK_5_4, LK_6_0, LK_6_1, LK_6_3, LK_6_4, LK_6_5, LK_6_7, LK_7_0, LK_7_1, LK_7_3, LK_7_4, LK_7_5, LK_7_7, sp_Kind_worth d S t a x ha, tl_s, GC_4 S ha]
theorem sp_Caravan_worth (ha : isCar a = true) (ht : sx_kl (hp S) t = some 1) : sx_call (d + 2) 7 [.ref t, .ref a, .int x] (hp S) = some (some (.int (S.1 a 2 * x / 2)), hp S) := by
  rw [cz7]
  simp only [ez7_0, ez7_1, ez7_2, ez7_3, ez7_6, ez7_7, ez7_8, ht, if_true, Option.bind_some, LK_0_0, LK_0_1, LK_0_3, LK_0_4, LK_0_5, LK_0_7, LK_1_0, LK_1_1, LK_1_3, LK_1_4, LK_1_5, LK_1_7, LK_2_3, LK_2_7, LK_3_3, LK_3_7, LK_4_3, LK_4_7, LK_5_0, LK_5_4, LK_6_0, LK_6_1, LK_6_3, LK_6_4, LK_6_5, LK_6_7, LK_7_0, LK_7_1, LK_7_3, LK_7_4, LK_7_5, LK_7_7, sp_Kind_worth d S t a x ha, tl_s, z_2, if_false]
theorem sp_Bride_worth (ha : isCar a = true) (ht : sx_kl (hp S) t = some 0) : sx_call (d + 2) 3 [.ref t, .ref a, .int x] (hp S) = some (some (.int (if 30 ≤ S.1 a 2 then S.1 a 2 * x + 50 else S.1 a 2 * x)), hp S) := by
  rw [cz3]
  by_cases h : S.1 a 2 < 30
  · have h2 : ¬ 30 ≤ S.1 a 2 := Int32.not_le.mpr h
    simp only [ez3_0, ez3_1, ez3_2, ez3_3, ez3_6, ez3_7, ez3_10, ez3_12, ez3_15, ez3_17, ez3_20, ez3_21, ez3_22, ht, if_true, Option.bind_some, LK_0_0, LK_0_1, LK_0_3, LK_0_4, LK_0_5, LK_0_7, LK_1_0, LK_1_1, LK_1_3, LK_1_4, LK_1_5, LK_1_7, LK_2_3, LK_2_7, LK_3_3, LK_3_7, LK_4_3, LK_4_7, LK_5_0, LK_5_4, LK_6_0, LK_6_1, LK_6_3, LK_6_4, LK_6_5, LK_6_7, LK_7_0, LK_7_1, LK_7_3, LK_7_4, LK_7_5, LK_7_7, sp_Kind_worth d S t a x ha, tl_s, GC_2 S ha, h, h2, if_false, i32_add0]
  · have h2 : 30 ≤ S.1 a 2 := Int32.not_lt.mp h
    simp only [ez3_0, ez3_1, ez3_2, ez3_3, ez3_6, ez3_7, ez3_10, ez3_12, ez3_15, ez3_17, ez3_20, ez3_21, ez3_22, ht, if_true, Option.bind_some, LK_0_0, LK_0_1, LK_0_3, LK_0_4, LK_0_5, LK_0_7, LK_1_0, LK_1_1, LK_1_3, LK_1_4, LK_1_5, LK_1_7, LK_2_3, LK_2_7, LK_3_3, LK_3_7, LK_4_3, LK_4_7, LK_5_0, LK_5_4, LK_6_0, LK_6_1, LK_6_3, LK_6_4, LK_6_5, LK_6_7, LK_7_0, LK_7_1, LK_7_3, LK_7_4, LK_7_5, LK_7_7, sp_Kind_worth d S t a x ha, tl_s, GC_2 S ha, h, h2, if_false]
theorem sp_Priest_worth : sx_call (d + 1) 40 [.ref t, .ref a, .int x] (hp S) = some (some (.int 0), hp S) := by
  rw [cz40]
  simp only [ez40_0, ez40_1]
end KINDS
