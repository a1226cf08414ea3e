/-! THE MODEL: its public methods -/
theorem i32_or0 (x : Int32) : x ||| 0 = x := by simp
def ntX (x : Int32) : Int32 := (((if x - x / 4 * 4 ≤ 0 then (0 : Int32) else 1 <<< ((x - 1) &&& 31)) ||| (if 3 ≤ x - x / 4 * 4 then (0 : Int32) else 1 <<< ((x + 1) &&& 31))) ||| (if x ≤ 3 then (0 : Int32) else 1 <<< ((x - 4) &&& 31))) ||| (if 12 ≤ x then (0 : Int32) else 1 <<< ((x + 4) &&& 31))
theorem sp_M_nextToX (d : Nat) (x : Int32) (h : sx_H) : sx_call (d + 1) 131 [.int x] h = some (some (.int (ntX x)), h) := by
  rw [cz131]
  unfold ntX
  by_cases h1 : x - x / 4 * 4 ≤ 0
  · by_cases h2 : 3 ≤ x - x / 4 * 4
    · by_cases h3 : x ≤ 3
      · by_cases h4 : 12 ≤ x
        · simp only [ez131_0, ez131_1, ez131_2, ez131_3, ez131_6, ez131_7, ez131_8, ez131_9, ez131_10, ez131_11, ez131_14, ez131_15, ez131_16, ez131_17, ez131_18, ez131_19, ez131_20, ez131_21, ez131_24, ez131_25, ez131_26, ez131_27, ez131_28, ez131_29, ez131_32, ez131_33, ez131_34, ez131_35, ez131_36, ez131_37, ez131_38, ez131_41, ez131_42, ez131_43, ez131_44, ez131_45, ez131_46, ez131_49, ez131_50, ez131_51, ez131_52, ez131_53, ez131_55, ez131_58, ez131_59, ez131_60, ez131_61, ez131_62, ez131_63, ez131_64, ez131_65, ez131_68, ez131_69, z_4, if_false, if_pos h1, if_pos h2, if_pos h3, if_pos h4, i32_or0]
        · simp only [ez131_0, ez131_1, ez131_2, ez131_3, ez131_6, ez131_7, ez131_8, ez131_9, ez131_10, ez131_11, ez131_14, ez131_15, ez131_16, ez131_17, ez131_18, ez131_19, ez131_20, ez131_21, ez131_24, ez131_25, ez131_26, ez131_27, ez131_28, ez131_29, ez131_32, ez131_33, ez131_34, ez131_35, ez131_36, ez131_37, ez131_38, ez131_41, ez131_42, ez131_43, ez131_44, ez131_45, ez131_46, ez131_49, ez131_50, ez131_51, ez131_52, ez131_53, ez131_55, ez131_58, ez131_59, ez131_60, ez131_61, ez131_62, ez131_63, ez131_64, ez131_65, ez131_68, ez131_69, z_4, if_false, if_pos h1, if_pos h2, if_pos h3, if_neg h4, i32_or0]
      · by_cases h4 : 12 ≤ x
        · simp only [ez131_0, ez131_1, ez131_2, ez131_3, ez131_6, ez131_7, ez131_8, ez131_9, ez131_10, ez131_11, ez131_14, ez131_15, ez131_16, ez131_17, ez131_18, ez131_19, ez131_20, ez131_21, ez131_24, ez131_25, ez131_26, ez131_27, ez131_28, ez131_29, ez131_32, ez131_33, ez131_34, ez131_35, ez131_36, ez131_37, ez131_38, ez131_41, ez131_42, ez131_43, ez131_44, ez131_45, ez131_46, ez131_49, ez131_50, ez131_51, ez131_52, ez131_53, ez131_55, ez131_58, ez131_59, ez131_60, ez131_61, ez131_62, ez131_63, ez131_64, ez131_65, ez131_68, ez131_69, z_4, if_false, if_pos h1, if_pos h2, if_neg h3, if_pos h4, i32_or0]
        · simp only [ez131_0, ez131_1, ez131_2, ez131_3, ez131_6, ez131_7, ez131_8, ez131_9, ez131_10, ez131_11, ez131_14, ez131_15, ez131_16, ez131_17, ez131_18, ez131_19, ez131_20, ez131_21, ez131_24, ez131_25, ez131_26, ez131_27, ez131_28, ez131_29, ez131_32, ez131_33, ez131_34, ez131_35, ez131_36, ez131_37, ez131_38, ez131_41, ez131_42, ez131_43, ez131_44, ez131_45, ez131_46, ez131_49, ez131_50, ez131_51, ez131_52, ez131_53, ez131_55, ez131_58, ez131_59, ez131_60, ez131_61, ez131_62, ez131_63, ez131_64, ez131_65, ez131_68, ez131_69, z_4, if_false, if_pos h1, if_pos h2, if_neg h3, if_neg h4, i32_or0]
    · by_cases h3 : x ≤ 3
      · by_cases h4 : 12 ≤ x
        · simp only [ez131_0, ez131_1, ez131_2, ez131_3, ez131_6, ez131_7, ez131_8, ez131_9, ez131_10, ez131_11, ez131_14, ez131_15, ez131_16, ez131_17, ez131_18, ez131_19, ez131_20, ez131_21, ez131_24, ez131_25, ez131_26, ez131_27, ez131_28, ez131_29, ez131_32, ez131_33, ez131_34, ez131_35, ez131_36, ez131_37, ez131_38, ez131_41, ez131_42, ez131_43, ez131_44, ez131_45, ez131_46, ez131_49, ez131_50, ez131_51, ez131_52, ez131_53, ez131_55, ez131_58, ez131_59, ez131_60, ez131_61, ez131_62, ez131_63, ez131_64, ez131_65, ez131_68, ez131_69, z_4, if_false, if_pos h1, if_neg h2, if_pos h3, if_pos h4, i32_or0]
        · simp only [ez131_0, ez131_1, ez131_2, ez131_3, ez131_6, ez131_7, ez131_8, ez131_9, ez131_10, ez131_11, ez131_14, ez131_15, ez131_16, ez131_17, ez131_18, ez131_19, ez131_20, ez131_21, ez131_24, ez131_25, ez131_26, ez131_27, ez131_28, ez131_29, ez131_32, ez131_33, ez131_34, ez131_35, ez131_36, ez131_37, ez131_38, ez131_41, ez131_42, ez131_43, ez131_44, ez131_45, ez131_46, ez131_49, ez131_50, ez131_51, ez131_52, ez131_53, ez131_55, ez131_58, ez131_59, ez131_60, ez131_61, ez131_62, ez131_63, ez131_64, ez131_65, ez131_68, ez131_69, z_4, if_false, if_pos h1, if_neg h2, if_pos h3, if_neg h4, i32_or0]
      · by_cases h4 : 12 ≤ x
        · simp only [ez131_0, ez131_1, ez131_2, ez131_3, ez131_6, ez131_7, ez131_8, ez131_9, ez131_10, ez131_11, ez131_14, ez131_15, ez131_16, ez131_17, ez131_18, ez131_19, ez131_20, ez131_21, ez131_24, ez131_25, ez131_26, ez131_27, ez131_28, ez131_29, ez131_32, ez131_33, ez131_34, ez131_35, ez131_36, ez131_37, ez131_38, ez131_41, ez131_42, ez131_43, ez131_44, ez131_45, ez131_46, ez131_49, ez131_50, ez131_51, ez131_52, ez131_53, ez131_55, ez131_58, ez131_59, ez131_60, ez131_61, ez131_62, ez131_63, ez131_64, ez131_65, ez131_68, ez131_69, z_4, if_false, if_pos h1, if_neg h2, if_neg h3, if_pos h4, i32_or0]
        · simp only [ez131_0, ez131_1, ez131_2, ez131_3, ez131_6, ez131_7, ez131_8, ez131_9, ez131_10, ez131_11, ez131_14, ez131_15, ez131_16, ez131_17, ez131_18, ez131_19, ez131_20, ez131_21, ez131_24, ez131_25, ez131_26, ez131_27, ez131_28, ez131_29, ez131_32, ez131_33, ez131_34, ez131_35, ez131_36, ez131_37, ez131_38, ez131_41, ez131_42, ez131_43, ez131_44, ez131_45, ez131_46, ez131_49, ez131_50, ez131_51, ez131_52, ez131_53, ez131_55, ez131_58, ez131_59, ez131_60, ez131_61, ez131_62, ez131_63, ez131_64, ez131_65, ez131_68, ez131_69, z_4, if_false, if_pos h1, if_neg h2, if_neg h3, if_neg h4, i32_or0]
  · by_cases h2 : 3 ≤ x - x / 4 * 4
    · by_cases h3 : x ≤ 3
      · by_cases h4 : 12 ≤ x
        · simp only [ez131_0, ez131_1, ez131_2, ez131_3, ez131_6, ez131_7, ez131_8, ez131_9, ez131_10, ez131_11, ez131_14, ez131_15, ez131_16, ez131_17, ez131_18, ez131_19, ez131_20, ez131_21, ez131_24, ez131_25, ez131_26, ez131_27, ez131_28, ez131_29, ez131_32, ez131_33, ez131_34, ez131_35, ez131_36, ez131_37, ez131_38, ez131_41, ez131_42, ez131_43, ez131_44, ez131_45, ez131_46, ez131_49, ez131_50, ez131_51, ez131_52, ez131_53, ez131_55, ez131_58, ez131_59, ez131_60, ez131_61, ez131_62, ez131_63, ez131_64, ez131_65, ez131_68, ez131_69, z_4, if_false, if_neg h1, if_pos h2, if_pos h3, if_pos h4, i32_or0]
        · simp only [ez131_0, ez131_1, ez131_2, ez131_3, ez131_6, ez131_7, ez131_8, ez131_9, ez131_10, ez131_11, ez131_14, ez131_15, ez131_16, ez131_17, ez131_18, ez131_19, ez131_20, ez131_21, ez131_24, ez131_25, ez131_26, ez131_27, ez131_28, ez131_29, ez131_32, ez131_33, ez131_34, ez131_35, ez131_36, ez131_37, ez131_38, ez131_41, ez131_42, ez131_43, ez131_44, ez131_45, ez131_46, ez131_49, ez131_50, ez131_51, ez131_52, ez131_53, ez131_55, ez131_58, ez131_59, ez131_60, ez131_61, ez131_62, ez131_63, ez131_64, ez131_65, ez131_68, ez131_69, z_4, if_false, if_neg h1, if_pos h2, if_pos h3, if_neg h4, i32_or0]
      · by_cases h4 : 12 ≤ x
        · simp only [ez131_0, ez131_1, ez131_2, ez131_3, ez131_6, ez131_7, ez131_8, ez131_9, ez131_10, ez131_11, ez131_14, ez131_15, ez131_16, ez131_17, ez131_18, ez131_19, ez131_20, ez131_21, ez131_24, ez131_25, ez131_26, ez131_27, ez131_28, ez131_29, ez131_32, ez131_33, ez131_34, ez131_35, ez131_36, ez131_37, ez131_38, ez131_41, ez131_42, ez131_43, ez131_44, ez131_45, ez131_46, ez131_49, ez131_50, ez131_51, ez131_52, ez131_53, ez131_55, ez131_58, ez131_59, ez131_60, ez131_61, ez131_62, ez131_63, ez131_64, ez131_65, ez131_68, ez131_69, z_4, if_false, if_neg h1, if_pos h2, if_neg h3, if_pos h4, i32_or0]
        · simp only [ez131_0, ez131_1, ez131_2, ez131_3, ez131_6, ez131_7, ez131_8, ez131_9, ez131_10, ez131_11, ez131_14, ez131_15, ez131_16, ez131_17, ez131_18, ez131_19, ez131_20, ez131_21, ez131_24, ez131_25, ez131_26, ez131_27, ez131_28, ez131_29, ez131_32, ez131_33, ez131_34, ez131_35, ez131_36, ez131_37, ez131_38, ez131_41, ez131_42, ez131_43, ez131_44, ez131_45, ez131_46, ez131_49, ez131_50, ez131_51, ez131_52, ez131_53, ez131_55, ez131_58, ez131_59, ez131_60, ez131_61, ez131_62, ez131_63, ez131_64, ez131_65, ez131_68, ez131_69, z_4, if_false, if_neg h1, if_pos h2, if_neg h3, if_neg h4, i32_or0]
    · by_cases h3 : x ≤ 3
      · by_cases h4 : 12 ≤ x
        · simp only [ez131_0, ez131_1, ez131_2, ez131_3, ez131_6, ez131_7, ez131_8, ez131_9, ez131_10, ez131_11, ez131_14, ez131_15, ez131_16, ez131_17, ez131_18, ez131_19, ez131_20, ez131_21, ez131_24, ez131_25, ez131_26, ez131_27, ez131_28, ez131_29, ez131_32, ez131_33, ez131_34, ez131_35, ez131_36, ez131_37, ez131_38, ez131_41, ez131_42, ez131_43, ez131_44, ez131_45, ez131_46, ez131_49, ez131_50, ez131_51, ez131_52, ez131_53, ez131_55, ez131_58, ez131_59, ez131_60, ez131_61, ez131_62, ez131_63, ez131_64, ez131_65, ez131_68, ez131_69, z_4, if_false, if_neg h1, if_neg h2, if_pos h3, if_pos h4, i32_or0]
        · simp only [ez131_0, ez131_1, ez131_2, ez131_3, ez131_6, ez131_7, ez131_8, ez131_9, ez131_10, ez131_11, ez131_14, ez131_15, ez131_16, ez131_17, ez131_18, ez131_19, ez131_20, ez131_21, ez131_24, ez131_25, ez131_26, ez131_27, ez131_28, ez131_29, ez131_32, ez131_33, ez131_34, ez131_35, ez131_36, ez131_37, ez131_38, ez131_41, ez131_42, ez131_43, ez131_44, ez131_45, ez131_46, ez131_49, ez131_50, ez131_51, ez131_52, ez131_53, ez131_55, ez131_58, ez131_59, ez131_60, ez131_61, ez131_62, ez131_63, ez131_64, ez131_65, ez131_68, ez131_69, z_4, if_false, if_neg h1, if_neg h2, if_pos h3, if_neg h4, i32_or0]
      · by_cases h4 : 12 ≤ x
        · simp only [ez131_0, ez131_1, ez131_2, ez131_3, ez131_6, ez131_7, ez131_8, ez131_9, ez131_10, ez131_11, ez131_14, ez131_15, ez131_16, ez131_17, ez131_18, ez131_19, ez131_20, ez131_21, ez131_24, ez131_25, ez131_26, ez131_27, ez131_28, ez131_29, ez131_32, ez131_33, ez131_34, ez131_35, ez131_36, ez131_37, ez131_38, ez131_41, ez131_42, ez131_43, ez131_44, ez131_45, ez131_46, ez131_49, ez131_50, ez131_51, ez131_52, ez131_53, ez131_55, ez131_58, ez131_59, ez131_60, ez131_61, ez131_62, ez131_63, ez131_64, ez131_65, ez131_68, ez131_69, z_4, if_false, if_neg h1, if_neg h2, if_neg h3, if_pos h4, i32_or0]
        · simp only [ez131_0, ez131_1, ez131_2, ez131_3, ez131_6, ez131_7, ez131_8, ez131_9, ez131_10, ez131_11, ez131_14, ez131_15, ez131_16, ez131_17, ez131_18, ez131_19, ez131_20, ez131_21, ez131_24, ez131_25, ez131_26, ez131_27, ez131_28, ez131_29, ez131_32, ez131_33, ez131_34, ez131_35, ez131_36, ez131_37, ez131_38, ez131_41, ez131_42, ez131_43, ez131_44, ez131_45, ez131_46, ez131_49, ez131_50, ez131_51, ez131_52, ez131_53, ez131_55, ez131_58, ez131_59, ez131_60, ez131_61, ez131_62, ez131_63, ez131_64, ez131_65, ez131_68, ez131_69, z_4, if_false, if_neg h1, if_neg h2, if_neg h3, if_neg h4, i32_or0]
theorem nt_all : ∀ p, p < 16 → ntX (nI p) = ntF (nI p) := by decide +kernel
theorem sp_M_nextTo (d : Nat) (p : Nat) (h : sx_H) (hp0 : p < 16) : sx_call (d + 1) 131 [.int (nI p)] h = some (some (.int (ntF (nI p))), h) := by
  rw [sp_M_nextToX, nt_all p hp0]
theorem sp_M_together (d : Nat) (S : hs_S) (n q : Nat) (hn : n ≤ 8) (hq : q < 6) (hr : S.2.1 62 0 = nI n) : sx_call (d + 3) 154 [.ref 61, .int (nI q)] (hp S) = some (some (.int (smF (fun i => S.2.1 62 (35 + 6 * i + q)) n)), hp S) := by
  have loop : ∀ m j, j + m = n → sx_run (d + 2) 154 (4, [some (.ref 61), some (.int (nI q)), some (.int (smF (fun i => S.2.1 62 (35 + 6 * i + q)) j)), some (.int (nI j))], [], hp S) = some (some (.int (smF (fun i => S.2.1 62 (35 + 6 * i + q)) n)), hp S) := by
    intro m
    induction m with
    | zero =>
      intro j hj
      have e : j = n := by omega
      subst e
      rw [ez154_4]
      simp only [ez154_5, ez154_6, ez154_9, ez154_10, ez154_11, GF_61_0, GI_62, c83_0, cl_0, hr, Option.bind_some, tl_s, tl_n, bI_eq0, if_true, if_false, not_true, not_false_iff, and_self, Bool.false_eq_true, if_pos (nI_le (Nat.le_refl j) (show j < 2 ^ 31 by omega)), ez154_29, ez154_30]
    | succ m ih =>
      intro j hj
      rw [ez154_4]
      simp only [ez154_5, ez154_6, ez154_9, ez154_10, ez154_11, ez154_14, ez154_15, ez154_16, ez154_17, ez154_18, ez154_21, ez154_22, ez154_23, ez154_26, KL_61, GF_61_0, GI_62, c83_0, cl_0, hr, Option.bind_some, tl_s, tl_n, bI_eq0, if_true, if_false, not_true, not_false_iff, and_self, Bool.false_eq_true, if_neg (nI_ge (show j < n by omega) (by omega)), sp_M_its d S j q (by omega) hq, nI_1]
      exact ih (j + 1) (by omega)
  rw [cz154]
  simp only [ez154_0, ez154_1, ez154_2, ez154_3]
  exact loop n 0 (by omega)
theorem sp_M_prices (d : Nat) (S : hs_S) : sx_call (d + 1) 206 [.ref 61] (hp S) = some (some (.int (smF (fun i => S.2.1 62 (19 + i)) 16)), hp S) := by
  have loop : ∀ m j, j + m = 16 → sx_run d 206 (4, [some (.ref 61), some (.int (smF (fun i => S.2.1 62 (19 + i)) j)), some (.int (nI j))], [], hp S) = some (some (.int (smF (fun i => S.2.1 62 (19 + i)) 16)), hp S) := by
    intro m
    induction m with
    | zero =>
      intro j hj
      have e : j = 16 := by omega
      subst e
      rw [ez206_4]
      simp only [ez206_5, ez206_7, if_pos (show (16 : Int32) ≤ nI 16 by decide), ez206_28, ez206_29]
    | succ m ih =>
      intro j hj
      rw [ez206_4]
      simp only [ez206_5, ez206_7, ez206_10, ez206_11, ez206_12, ez206_15, ez206_17, ez206_18, ez206_19, ez206_20, ez206_21, ez206_22, ez206_25, GF_61_0, GI_62, Option.bind_some, tl_s, tl_n, bI_eq0, if_true, if_false, not_true, not_false_iff, and_self, Bool.false_eq_true, if_neg (ge16 (n := 16) rfl (show j < 16 by omega)), add19, in_nI (show 19 + j < 83 by omega) (by decide), nI_clamp (show 19 + j < 2 ^ 31 by omega), nI_1]
      exact ih (j + 1) (by omega)
  rw [cz206]
  simp only [ez206_0, ez206_1, ez206_2, ez206_3]
  exact loop 16 0 (by omega)
theorem sp_M_thoseAt (d : Nat) (S : hs_S) (pl : Int32) (n : Nat) (hn : n ≤ 8) (hr : S.2.1 62 0 = nI n) : sx_call (d + 3) 130 [.ref 61, .int pl] (hp S) = some (some (.int (orF (fun i => decide (S.2.1 62 (35 + 6 * i + 1) = pl)) n)), hp S) := by
  have loop : ∀ m j, j + m = n → sx_run (d + 2) 130 (4, [some (.ref 61), some (.int pl), some (.int (orF (fun i => decide (S.2.1 62 (35 + 6 * i + 1) = pl)) j)), some (.int (nI j))], [], hp S) = some (some (.int (orF (fun i => decide (S.2.1 62 (35 + 6 * i + 1) = pl)) n)), hp S) := by
    intro m
    induction m with
    | zero =>
      intro j hj
      have e : j = n := by omega
      subst e
      rw [ez130_4]
      simp only [ez130_5, ez130_6, ez130_9, ez130_10, ez130_11, GF_61_0, GI_62, c83_0, cl_0, hr, Option.bind_some, tl_s, tl_n, bI_eq0, if_true, if_false, not_true, not_false_iff, and_self, Bool.false_eq_true, if_pos (nI_le (Nat.le_refl j) (show j < 2 ^ 31 by omega)), ez130_40, ez130_41]
    | succ m ih =>
      intro j hj
      have i1 := ih (j + 1) (by omega)
      rw [ez130_4]
      by_cases h : (fun i => decide (S.2.1 62 (35 + 6 * i + 1) = pl)) j = true
      · rw [← orF_t h] at i1
        have h' := of_decide_eq_true h
        simp only [ez130_5, ez130_6, ez130_9, ez130_10, ez130_11, ez130_14, ez130_15, ez130_16, ez130_17, ez130_18, ez130_21, ez130_22, ez130_25, ez130_26, ez130_27, ez130_28, ez130_31, ez130_32, ez130_33, ez130_34, ez130_37, KL_61, GF_61_0, GI_62, c83_0, cl_0, hr, Option.bind_some, tl_s, tl_n, bI_eq0, if_true, if_false, not_true, not_false_iff, and_self, Bool.false_eq_true, if_neg (nI_ge (show j < n by omega) (by omega)), sp_M_its1 d S j (by omega), h', nI_1]
        exact i1
      · rw [← orF_f h] at i1
        have h' : ¬ _ := fun e => h (decide_eq_true e)
        simp only [ez130_5, ez130_6, ez130_9, ez130_10, ez130_11, ez130_14, ez130_15, ez130_16, ez130_17, ez130_18, ez130_21, ez130_22, ez130_25, ez130_26, ez130_27, ez130_28, ez130_31, ez130_32, ez130_33, ez130_34, ez130_37, KL_61, GF_61_0, GI_62, c83_0, cl_0, hr, Option.bind_some, tl_s, tl_n, bI_eq0, if_true, if_false, not_true, not_false_iff, and_self, Bool.false_eq_true, if_neg (nI_ge (show j < n by omega) (by omega)), sp_M_its1 d S j (by omega), h', i32_or0, nI_1]
        exact i1
  rw [cz130]
  simp only [ez130_0, ez130_1, ez130_2, ez130_3]
  exact loop n 0 (by omega)
theorem sp_M_shaded (d : Nat) (S : hs_S) (n : Nat) (hn : n ≤ 8) (hr : S.2.1 62 0 = nI n) : sx_call (d + 3) 156 [.ref 61] (hp S) = some (some (.int (orF (fun i => decide (0 < S.2.1 62 (35 + 6 * i + 2))) n)), hp S) := by
  have loop : ∀ m j, j + m = n → sx_run (d + 2) 156 (4, [some (.ref 61), some (.int (orF (fun i => decide (0 < S.2.1 62 (35 + 6 * i + 2))) j)), some (.int (nI j))], [], hp S) = some (some (.int (orF (fun i => decide (0 < S.2.1 62 (35 + 6 * i + 2))) n)), hp S) := by
    intro m
    induction m with
    | zero =>
      intro j hj
      have e : j = n := by omega
      subst e
      rw [ez156_4]
      simp only [ez156_5, ez156_6, ez156_9, ez156_10, ez156_11, GF_61_0, GI_62, c83_0, cl_0, hr, Option.bind_some, tl_s, tl_n, bI_eq0, if_true, if_false, not_true, not_false_iff, and_self, Bool.false_eq_true, if_pos (nI_le (Nat.le_refl j) (show j < 2 ^ 31 by omega)), ez156_39, ez156_40]
    | succ m ih =>
      intro j hj
      have i1 := ih (j + 1) (by omega)
      rw [ez156_4]
      by_cases h : (fun i => decide (0 < S.2.1 62 (35 + 6 * i + 2))) j = true
      · rw [← orF_t h] at i1
        have h' : ¬ S.2.1 62 (35 + 6 * j + 2) ≤ 0 := Int32.not_le.mpr (of_decide_eq_true h)
        simp only [ez156_5, ez156_6, ez156_9, ez156_10, ez156_11, ez156_14, ez156_15, ez156_16, ez156_17, ez156_18, ez156_21, ez156_24, ez156_25, ez156_26, ez156_27, ez156_30, ez156_31, ez156_32, ez156_33, ez156_36, KL_61, GF_61_0, GI_62, c83_0, cl_0, hr, Option.bind_some, tl_s, tl_n, bI_eq0, if_true, if_false, not_true, not_false_iff, and_self, Bool.false_eq_true, if_neg (nI_ge (show j < n by omega) (by omega)), sp_M_its2 d S j (by omega), h', nI_1]
        exact i1
      · rw [← orF_f h] at i1
        have h' : S.2.1 62 (35 + 6 * j + 2) ≤ 0 := Int32.not_lt.mp (fun e => h (decide_eq_true e))
        simp only [ez156_5, ez156_6, ez156_9, ez156_10, ez156_11, ez156_14, ez156_15, ez156_16, ez156_17, ez156_18, ez156_21, ez156_24, ez156_25, ez156_26, ez156_27, ez156_30, ez156_31, ez156_32, ez156_33, ez156_36, KL_61, GF_61_0, GI_62, c83_0, cl_0, hr, Option.bind_some, tl_s, tl_n, bI_eq0, if_true, if_false, not_true, not_false_iff, and_self, Bool.false_eq_true, if_neg (nI_ge (show j < n by omega) (by omega)), sp_M_its2 d S j (by omega), h', i32_or0, nI_1]
        exact i1
  rw [cz156]
  simp only [ez156_0, ez156_1, ez156_2, ez156_3]
  exact loop n 0 (by omega)
theorem sp_M_posted (d : Nat) (S : hs_S) : sx_call (d + 1) 157 [.ref 61] (hp S) = some (some (.int (orF (fun i => decide (0 < S.2.1 62 (3 + i))) 16)), hp S) := by
  have loop : ∀ m j, j + m = 16 → sx_run d 157 (4, [some (.ref 61), some (.int (orF (fun i => decide (0 < S.2.1 62 (3 + i))) j)), some (.int (nI j))], [], hp S) = some (some (.int (orF (fun i => decide (0 < S.2.1 62 (3 + i))) 16)), hp S) := by
    intro m
    induction m with
    | zero =>
      intro j hj
      have e : j = 16 := by omega
      subst e
      rw [ez157_4]
      simp only [ez157_5, ez157_7, if_pos (show (16 : Int32) ≤ nI 16 by decide), ez157_37, ez157_38]
    | succ m ih =>
      intro j hj
      have i1 := ih (j + 1) (by omega)
      rw [ez157_4]
      by_cases h : (fun i => decide (0 < S.2.1 62 (3 + i))) j = true
      · rw [← orF_t h] at i1
        have h' : ¬ S.2.1 62 (3 + j) ≤ 0 := Int32.not_le.mpr (of_decide_eq_true h)
        simp only [ez157_5, ez157_7, ez157_10, ez157_11, ez157_12, ez157_15, ez157_16, ez157_17, ez157_18, ez157_19, ez157_22, ez157_23, ez157_24, ez157_25, ez157_28, ez157_29, ez157_30, ez157_31, ez157_34, GF_61_0, GI_62, Option.bind_some, tl_s, tl_n, bI_eq0, if_true, if_false, not_true, not_false_iff, and_self, Bool.false_eq_true, if_neg (ge16 (n := 16) rfl (show j < 16 by omega)), add3, in_nI (show 3 + j < 83 by omega) (by decide), nI_clamp (show 3 + j < 2 ^ 31 by omega), h', nI_1]
        exact i1
      · rw [← orF_f h] at i1
        have h' : S.2.1 62 (3 + j) ≤ 0 := Int32.not_lt.mp (fun e => h (decide_eq_true e))
        simp only [ez157_5, ez157_7, ez157_10, ez157_11, ez157_12, ez157_15, ez157_16, ez157_17, ez157_18, ez157_19, ez157_22, ez157_23, ez157_24, ez157_25, ez157_28, ez157_29, ez157_30, ez157_31, ez157_34, GF_61_0, GI_62, Option.bind_some, tl_s, tl_n, bI_eq0, if_true, if_false, not_true, not_false_iff, and_self, Bool.false_eq_true, if_neg (ge16 (n := 16) rfl (show j < 16 by omega)), add3, in_nI (show 3 + j < 83 by omega) (by decide), nI_clamp (show 3 + j < 2 ^ 31 by omega), h', i32_or0, nI_1]
        exact i1
  rw [cz157]
  simp only [ez157_0, ez157_1, ez157_2, ez157_3]
  exact loop 16 0 (by omega)
theorem p16_of {x : Int32} (h : 0 ≤ x ∧ x < 16) : ∃ m, m < 16 ∧ x = nI m := by
  obtain ⟨m, hm, rfl⟩ := nI_of (Int32.not_lt.mpr h.1)
  exact ⟨m, Nat.lt_of_not_le fun z => Int32.not_le.mpr h.2 (nI_le (a := 16) z (by omega)), rfl⟩
def ml_place (S : hs_S) (p w v : Int32) : Int32 × hs_S :=
  if 0 ≤ p ∧ p < 16 then
    if w = 0 ∧ (0 ≤ v ∧ v ≤ 9) then (S.2.1 62 (3 + p.toNatClampNeg), uI S 62 (upd (S.2.1 62) (3 + p.toNatClampNeg) v))
    else if w = 1 ∧ (0 ≤ v ∧ v ≤ 99) then (S.2.1 62 (19 + p.toNatClampNeg), uI S 62 (upd (S.2.1 62) (19 + p.toNatClampNeg) v))
    else (-1000000001, fdM S 0)
  else (-1000000001, fdM S 0)
theorem z01 : ((0 : Int32) = 1) = False := by decide
theorem sp_M_place (d : Nat) (S : hs_S) (p w v : Int32) : sx_call (d + 3) 129 [.ref 61, .int p, .int w, .int v] (hp S) = o1 (ml_place S p w v) := by
  rw [cz129]
  have f0 := sp_M_finds (d + 1) S 0 (-1000000001) (by decide) (by decide)
  unfold ml_place o1
  by_cases h0 : w = 0
  · subst h0
    by_cases h9 : 0 ≤ v ∧ v ≤ 9
    · by_cases h : 0 ≤ p ∧ p < 16
      · obtain ⟨m, hm, rfl⟩ := p16_of h
        simp [ez129_0, ez129_1, ez129_4, ez129_5, ez129_6, ez129_7, ez129_10, ez129_13, ez129_16, ez129_17, ez129_18, ez129_21, ez129_22, ez129_23, ez129_24, ez129_27, ez129_30, ez129_33, ez129_34, ez129_37, ez129_38, ez129_40, ez129_41, ez129_44, ez129_47, ez129_49, ez129_52, ez129_53, ez129_54, ez129_57, ez129_58, ez129_61, ez129_63, ez129_64, ez129_65, ez129_66, ez129_69, ez129_72, ez129_73, ez129_75, ez129_78, sp_M_in, sp_M_isPlace, wl_0, wl_1, wl_2, wl_m1, wl_97, wl_48, wu_1, wu_3, wu_4, wu_5, wu_6, wu_9, wu_15, wu_48, wu_57, wu_60, wu_99, wu_122, wu_99999, wu_999999, tl_s, bI_eq0, h, h9, KL_61, add3, sp_M_becomes (d + 1) S (3 + m) v (by omega), nI_clamp (show m < 2 ^ 31 by omega), bI, z1_0]
      · simp [ez129_0, ez129_1, ez129_4, ez129_5, ez129_6, ez129_7, ez129_10, ez129_13, ez129_16, ez129_17, ez129_18, ez129_21, ez129_22, ez129_23, ez129_24, ez129_27, ez129_30, ez129_33, ez129_34, ez129_37, ez129_38, ez129_40, ez129_41, ez129_44, ez129_47, ez129_49, ez129_52, ez129_53, ez129_54, ez129_57, ez129_58, ez129_61, ez129_63, ez129_64, ez129_65, ez129_66, ez129_69, ez129_72, ez129_73, ez129_75, ez129_78, sp_M_in, sp_M_isPlace, wl_0, wl_1, wl_2, wl_m1, wl_97, wl_48, wu_1, wu_3, wu_4, wu_5, wu_6, wu_9, wu_15, wu_48, wu_57, wu_60, wu_99, wu_122, wu_99999, wu_999999, tl_s, bI_eq0, h, h9, KL_61, f0, bI]
    · by_cases h : 0 ≤ p ∧ p < 16
      · simp [ez129_0, ez129_1, ez129_4, ez129_5, ez129_6, ez129_7, ez129_10, ez129_13, ez129_16, ez129_17, ez129_18, ez129_21, ez129_22, ez129_23, ez129_24, ez129_27, ez129_30, ez129_33, ez129_34, ez129_37, ez129_38, ez129_40, ez129_41, ez129_44, ez129_47, ez129_49, ez129_52, ez129_53, ez129_54, ez129_57, ez129_58, ez129_61, ez129_63, ez129_64, ez129_65, ez129_66, ez129_69, ez129_72, ez129_73, ez129_75, ez129_78, sp_M_in, sp_M_isPlace, wl_0, wl_1, wl_2, wl_m1, wl_97, wl_48, wu_1, wu_3, wu_4, wu_5, wu_6, wu_9, wu_15, wu_48, wu_57, wu_60, wu_99, wu_122, wu_99999, wu_999999, tl_s, bI_eq0, h, h9, KL_61, f0]
      · simp [ez129_0, ez129_1, ez129_4, ez129_5, ez129_6, ez129_7, ez129_10, ez129_13, ez129_16, ez129_17, ez129_18, ez129_21, ez129_22, ez129_23, ez129_24, ez129_27, ez129_30, ez129_33, ez129_34, ez129_37, ez129_38, ez129_40, ez129_41, ez129_44, ez129_47, ez129_49, ez129_52, ez129_53, ez129_54, ez129_57, ez129_58, ez129_61, ez129_63, ez129_64, ez129_65, ez129_66, ez129_69, ez129_72, ez129_73, ez129_75, ez129_78, sp_M_in, sp_M_isPlace, wl_0, wl_1, wl_2, wl_m1, wl_97, wl_48, wu_1, wu_3, wu_4, wu_5, wu_6, wu_9, wu_15, wu_48, wu_57, wu_60, wu_99, wu_122, wu_99999, wu_999999, tl_s, bI_eq0, h, h9, KL_61, f0]
  · by_cases h1 : w = 1
    · subst h1
      by_cases h9 : 0 ≤ v ∧ v ≤ 99
      · by_cases h : 0 ≤ p ∧ p < 16
        · obtain ⟨m, hm, rfl⟩ := p16_of h
          simp [ez129_0, ez129_1, ez129_4, ez129_5, ez129_6, ez129_7, ez129_10, ez129_13, ez129_16, ez129_17, ez129_18, ez129_21, ez129_22, ez129_23, ez129_24, ez129_27, ez129_30, ez129_33, ez129_34, ez129_37, ez129_38, ez129_40, ez129_41, ez129_44, ez129_47, ez129_49, ez129_52, ez129_53, ez129_54, ez129_57, ez129_58, ez129_61, ez129_63, ez129_64, ez129_65, ez129_66, ez129_69, ez129_72, ez129_73, ez129_75, ez129_78, sp_M_in, sp_M_isPlace, wl_0, wl_1, wl_2, wl_m1, wl_97, wl_48, wu_1, wu_3, wu_4, wu_5, wu_6, wu_9, wu_15, wu_48, wu_57, wu_60, wu_99, wu_122, wu_99999, wu_999999, tl_s, bI_eq0, h, h9, KL_61, add19, sp_M_becomes (d + 1) S (19 + m) v (by omega), nI_clamp (show m < 2 ^ 31 by omega)]
        · simp [ez129_0, ez129_1, ez129_4, ez129_5, ez129_6, ez129_7, ez129_10, ez129_13, ez129_16, ez129_17, ez129_18, ez129_21, ez129_22, ez129_23, ez129_24, ez129_27, ez129_30, ez129_33, ez129_34, ez129_37, ez129_38, ez129_40, ez129_41, ez129_44, ez129_47, ez129_49, ez129_52, ez129_53, ez129_54, ez129_57, ez129_58, ez129_61, ez129_63, ez129_64, ez129_65, ez129_66, ez129_69, ez129_72, ez129_73, ez129_75, ez129_78, sp_M_in, sp_M_isPlace, wl_0, wl_1, wl_2, wl_m1, wl_97, wl_48, wu_1, wu_3, wu_4, wu_5, wu_6, wu_9, wu_15, wu_48, wu_57, wu_60, wu_99, wu_122, wu_99999, wu_999999, tl_s, bI_eq0, h, h9, KL_61, f0]
      · by_cases h : 0 ≤ p ∧ p < 16
        · simp [ez129_0, ez129_1, ez129_4, ez129_5, ez129_6, ez129_7, ez129_10, ez129_13, ez129_16, ez129_17, ez129_18, ez129_21, ez129_22, ez129_23, ez129_24, ez129_27, ez129_30, ez129_33, ez129_34, ez129_37, ez129_38, ez129_40, ez129_41, ez129_44, ez129_47, ez129_49, ez129_52, ez129_53, ez129_54, ez129_57, ez129_58, ez129_61, ez129_63, ez129_64, ez129_65, ez129_66, ez129_69, ez129_72, ez129_73, ez129_75, ez129_78, sp_M_in, sp_M_isPlace, wl_0, wl_1, wl_2, wl_m1, wl_97, wl_48, wu_1, wu_3, wu_4, wu_5, wu_6, wu_9, wu_15, wu_48, wu_57, wu_60, wu_99, wu_122, wu_99999, wu_999999, tl_s, bI_eq0, h, h9, KL_61, f0]
        · simp [ez129_0, ez129_1, ez129_4, ez129_5, ez129_6, ez129_7, ez129_10, ez129_13, ez129_16, ez129_17, ez129_18, ez129_21, ez129_22, ez129_23, ez129_24, ez129_27, ez129_30, ez129_33, ez129_34, ez129_37, ez129_38, ez129_40, ez129_41, ez129_44, ez129_47, ez129_49, ez129_52, ez129_53, ez129_54, ez129_57, ez129_58, ez129_61, ez129_63, ez129_64, ez129_65, ez129_66, ez129_69, ez129_72, ez129_73, ez129_75, ez129_78, sp_M_in, sp_M_isPlace, wl_0, wl_1, wl_2, wl_m1, wl_97, wl_48, wu_1, wu_3, wu_4, wu_5, wu_6, wu_9, wu_15, wu_48, wu_57, wu_60, wu_99, wu_122, wu_99999, wu_999999, tl_s, bI_eq0, h, h9, KL_61, f0]
    · by_cases h : 0 ≤ p ∧ p < 16
      · simp [ez129_0, ez129_1, ez129_4, ez129_5, ez129_6, ez129_7, ez129_10, ez129_13, ez129_16, ez129_17, ez129_18, ez129_21, ez129_22, ez129_23, ez129_24, ez129_27, ez129_30, ez129_33, ez129_34, ez129_37, ez129_38, ez129_40, ez129_41, ez129_44, ez129_47, ez129_49, ez129_52, ez129_53, ez129_54, ez129_57, ez129_58, ez129_61, ez129_63, ez129_64, ez129_65, ez129_66, ez129_69, ez129_72, ez129_73, ez129_75, ez129_78, sp_M_in, sp_M_isPlace, wl_0, wl_1, wl_2, wl_m1, wl_97, wl_48, wu_1, wu_3, wu_4, wu_5, wu_6, wu_9, wu_15, wu_48, wu_57, wu_60, wu_99, wu_122, wu_99999, wu_999999, tl_s, bI_eq0, h, h0, h1, KL_61, f0]
      · simp [ez129_0, ez129_1, ez129_4, ez129_5, ez129_6, ez129_7, ez129_10, ez129_13, ez129_16, ez129_17, ez129_18, ez129_21, ez129_22, ez129_23, ez129_24, ez129_27, ez129_30, ez129_33, ez129_34, ez129_37, ez129_38, ez129_40, ez129_41, ez129_44, ez129_47, ez129_49, ez129_52, ez129_53, ez129_54, ez129_57, ez129_58, ez129_61, ez129_63, ez129_64, ez129_65, ez129_66, ez129_69, ez129_72, ez129_73, ez129_75, ez129_78, sp_M_in, sp_M_isPlace, wl_0, wl_1, wl_2, wl_m1, wl_97, wl_48, wu_1, wu_3, wu_4, wu_5, wu_6, wu_9, wu_15, wu_48, wu_57, wu_60, wu_99, wu_122, wu_99999, wu_999999, tl_s, bI_eq0, h, h0, h1, KL_61, f0]
def ml_clouds (S : hs_S) (v : Int32) : Int32 × hs_S := if 0 ≤ v ∧ v ≤ 1 then (S.2.1 62 2, uI S 62 (upd (S.2.1 62) 2 v)) else (-1000000001, fdM S 0)
theorem sp_M_clouds (d : Nat) (S : hs_S) (v : Int32) : sx_call (d + 2) 133 [.ref 61, .int v] (hp S) = o1 (ml_clouds S v) := by
  rw [cz133]
  have f0 := sp_M_finds d S 0 (-1000000001) (by decide) (by decide)
  have b2 : sx_call (d + 1) 123 [.ref 61, .int 2, .int v] (hp S) = _ := sp_M_becomes d S 2 v (by decide)
  unfold ml_clouds o1
  by_cases h : 0 ≤ v ∧ v ≤ 1
  · simp [ez133_0, ez133_1, ez133_2, ez133_3, ez133_4, ez133_7, ez133_10, ez133_11, ez133_12, ez133_13, ez133_16, ez133_19, ez133_20, ez133_22, ez133_25, sp_M_in, wl_0, wl_1, wl_2, wl_m1, wl_97, wl_48, wu_1, wu_3, wu_4, wu_5, wu_6, wu_9, wu_15, wu_48, wu_57, wu_60, wu_99, wu_122, wu_99999, wu_999999, tl_s, bI_eq0, h, KL_61, b2]
  · simp [ez133_0, ez133_1, ez133_2, ez133_3, ez133_4, ez133_7, ez133_10, ez133_11, ez133_12, ez133_13, ez133_16, ez133_19, ez133_20, ez133_22, ez133_25, sp_M_in, wl_0, wl_1, wl_2, wl_m1, wl_97, wl_48, wu_1, wu_3, wu_4, wu_5, wu_6, wu_9, wu_15, wu_48, wu_57, wu_60, wu_99, wu_122, wu_99999, wu_999999, tl_s, bI_eq0, h, KL_61, f0]
def ml_heat (S : hs_S) (x : Int32) : Int32 × hs_S := if 0 ≤ x ∧ x ≤ 99999 then (hT x, S) else (-1000000001, fdM S 0)
theorem sp_M_heat (d : Nat) (S : hs_S) (x : Int32) : sx_call (d + 2) 135 [.ref 61, .int x] (hp S) = o1 (ml_heat S x) := by
  rw [cz135]
  have f0 := sp_M_finds d S 0 (-1000000001) (by decide) (by decide)
  unfold ml_heat o1
  by_cases h : 0 ≤ x ∧ x ≤ 99999
  · simp [ez135_0, ez135_1, ez135_2, ez135_3, ez135_6, ez135_9, ez135_12, ez135_13, ez135_16, ez135_19, ez135_20, ez135_22, ez135_25, sp_M_in, wl_0, wl_1, wl_2, wl_m1, wl_97, wl_48, wu_1, wu_3, wu_4, wu_5, wu_6, wu_9, wu_15, wu_48, wu_57, wu_60, wu_99, wu_122, wu_99999, wu_999999, tl_s, bI_eq0, h, sp_M_heatOf]
  · simp [ez135_0, ez135_1, ez135_2, ez135_3, ez135_6, ez135_9, ez135_12, ez135_13, ez135_16, ez135_19, ez135_20, ez135_22, ez135_25, sp_M_in, wl_0, wl_1, wl_2, wl_m1, wl_97, wl_48, wu_1, wu_3, wu_4, wu_5, wu_6, wu_9, wu_15, wu_48, wu_57, wu_60, wu_99, wu_122, wu_99999, wu_999999, tl_s, bI_eq0, h, KL_61, f0]
def ml_placeOf (S : hs_S) (n : Nat) (p w : Int32) : Int32 × hs_S :=
  if 0 ≤ p ∧ p < 16 then
    if w = 0 then (S.2.1 62 (3 + p.toNatClampNeg), S) else if w = 1 then (S.2.1 62 (19 + p.toNatClampNeg), S)
    else if w = 2 then (orF (fun i => decide (S.2.1 62 (35 + 6 * i + 1) = p)) n, S) else if w = 3 then (ntF p, S) else (-1000000001, fdM S 0)
  else (-1000000001, fdM S 0)
theorem four {w : Int32} (h : ¬ (w = 0 ∨ w = 1 ∨ w = 2 ∨ w = 3)) : ¬ (0 ≤ w ∧ w ≤ 3) := by
  intro z
  obtain ⟨m, hm, rfl⟩ := nI_of (Int32.not_lt.mpr z.1)
  have m3 : m ≤ 3 := Nat.le_of_not_lt fun y => nI_ge (a := 3) y (by omega) z.2
  rcases (show m = 0 ∨ m = 1 ∨ m = 2 ∨ m = 3 by omega) with rfl | rfl | rfl | rfl <;> exact h (by decide)
theorem sp_M_placeOf (d : Nat) (S : hs_S) (n : Nat) (p w : Int32) (hn : n ≤ 8) (hr : S.2.1 62 0 = nI n) : sx_call (d + 4) 132 [.ref 61, .int p, .int w] (hp S) = o1 (ml_placeOf S n p w) := by
  rw [cz132]
  have f0 := sp_M_finds (d + 2) S 0 (-1000000001) (by decide) (by decide)
  unfold ml_placeOf o1
  by_cases h : 0 ≤ p ∧ p < 16
  · obtain ⟨m, hm, rfl⟩ := p16_of h
    by_cases h0 : w = 0
    · subst h0
      simp [ez132_0, ez132_1, ez132_4, ez132_7, ez132_8, ez132_9, ez132_10, ez132_13, ez132_16, ez132_19, ez132_20, ez132_22, ez132_25, ez132_26, ez132_27, ez132_30, ez132_31, ez132_34, ez132_35, ez132_36, ez132_37, ez132_38, ez132_41, ez132_42, ez132_43, ez132_46, ez132_47, ez132_50, ez132_52, ez132_53, ez132_54, ez132_55, ez132_58, ez132_59, ez132_60, ez132_63, ez132_64, ez132_65, ez132_68, ez132_71, ez132_72, ez132_75, sp_M_in, sp_M_isPlace, wl_0, wl_1, wl_2, wl_m1, wl_97, wl_48, wu_1, wu_3, wu_4, wu_5, wu_6, wu_9, wu_15, wu_48, wu_57, wu_60, wu_99, wu_122, wu_99999, wu_999999, tl_s, bI_eq0, h, GF_61_0, GI_62, add3, in_nI (show 3 + m < 83 by omega) (by decide), nI_clamp (show 3 + m < 2 ^ 31 by omega), nI_clamp (show m < 2 ^ 31 by omega)]
    · by_cases h1 : w = 1
      · subst h1
        simp [ez132_0, ez132_1, ez132_4, ez132_7, ez132_8, ez132_9, ez132_10, ez132_13, ez132_16, ez132_19, ez132_20, ez132_22, ez132_25, ez132_26, ez132_27, ez132_30, ez132_31, ez132_34, ez132_35, ez132_36, ez132_37, ez132_38, ez132_41, ez132_42, ez132_43, ez132_46, ez132_47, ez132_50, ez132_52, ez132_53, ez132_54, ez132_55, ez132_58, ez132_59, ez132_60, ez132_63, ez132_64, ez132_65, ez132_68, ez132_71, ez132_72, ez132_75, sp_M_in, sp_M_isPlace, wl_0, wl_1, wl_2, wl_m1, wl_97, wl_48, wu_1, wu_3, wu_4, wu_5, wu_6, wu_9, wu_15, wu_48, wu_57, wu_60, wu_99, wu_122, wu_99999, wu_999999, tl_s, bI_eq0, h, GF_61_0, GI_62, add19, in_nI (show 19 + m < 83 by omega) (by decide), nI_clamp (show 19 + m < 2 ^ 31 by omega), nI_clamp (show m < 2 ^ 31 by omega)]
      · by_cases h2 : w = 2
        · subst h2
          simp [ez132_0, ez132_1, ez132_4, ez132_7, ez132_8, ez132_9, ez132_10, ez132_13, ez132_16, ez132_19, ez132_20, ez132_22, ez132_25, ez132_26, ez132_27, ez132_30, ez132_31, ez132_34, ez132_35, ez132_36, ez132_37, ez132_38, ez132_41, ez132_42, ez132_43, ez132_46, ez132_47, ez132_50, ez132_52, ez132_53, ez132_54, ez132_55, ez132_58, ez132_59, ez132_60, ez132_63, ez132_64, ez132_65, ez132_68, ez132_71, ez132_72, ez132_75, sp_M_in, sp_M_isPlace, wl_0, wl_1, wl_2, wl_m1, wl_97, wl_48, wu_1, wu_3, wu_4, wu_5, wu_6, wu_9, wu_15, wu_48, wu_57, wu_60, wu_99, wu_122, wu_99999, wu_999999, tl_s, bI_eq0, h, KL_61, sp_M_thoseAt d S (nI m) n hn hr]
        · by_cases h3 : w = 3
          · subst h3
            simp [ez132_0, ez132_1, ez132_4, ez132_7, ez132_8, ez132_9, ez132_10, ez132_13, ez132_16, ez132_19, ez132_20, ez132_22, ez132_25, ez132_26, ez132_27, ez132_30, ez132_31, ez132_34, ez132_35, ez132_36, ez132_37, ez132_38, ez132_41, ez132_42, ez132_43, ez132_46, ez132_47, ez132_50, ez132_52, ez132_53, ez132_54, ez132_55, ez132_58, ez132_59, ez132_60, ez132_63, ez132_64, ez132_65, ez132_68, ez132_71, ez132_72, ez132_75, sp_M_in, sp_M_isPlace, wl_0, wl_1, wl_2, wl_m1, wl_97, wl_48, wu_1, wu_3, wu_4, wu_5, wu_6, wu_9, wu_15, wu_48, wu_57, wu_60, wu_99, wu_122, wu_99999, wu_999999, tl_s, bI_eq0, h, sp_M_nextTo _ m _ hm]
          · have h4 := four (w := w) (fun z => by rcases z with z | z | z | z; exact h0 z; exact h1 z; exact h2 z; exact h3 z)
            simp [ez132_0, ez132_1, ez132_4, ez132_7, ez132_8, ez132_9, ez132_10, ez132_13, ez132_16, ez132_19, ez132_20, ez132_22, ez132_25, ez132_26, ez132_27, ez132_30, ez132_31, ez132_34, ez132_35, ez132_36, ez132_37, ez132_38, ez132_41, ez132_42, ez132_43, ez132_46, ez132_47, ez132_50, ez132_52, ez132_53, ez132_54, ez132_55, ez132_58, ez132_59, ez132_60, ez132_63, ez132_64, ez132_65, ez132_68, ez132_71, ez132_72, ez132_75, sp_M_in, sp_M_isPlace, wl_0, wl_1, wl_2, wl_m1, wl_97, wl_48, wu_1, wu_3, wu_4, wu_5, wu_6, wu_9, wu_15, wu_48, wu_57, wu_60, wu_99, wu_122, wu_99999, wu_999999, tl_s, bI_eq0, h, h0, h1, h2, h3, h4, KL_61, f0]
  · simp [ez132_0, ez132_1, ez132_4, ez132_7, ez132_8, ez132_9, ez132_10, ez132_13, ez132_16, ez132_19, ez132_20, ez132_22, ez132_25, ez132_26, ez132_27, ez132_30, ez132_31, ez132_34, ez132_35, ez132_36, ez132_37, ez132_38, ez132_41, ez132_42, ez132_43, ez132_46, ez132_47, ez132_50, ez132_52, ez132_53, ez132_54, ez132_55, ez132_58, ez132_59, ez132_60, ez132_63, ez132_64, ez132_65, ez132_68, ez132_71, ez132_72, ez132_75, sp_M_isPlace, tl_s, bI_eq0, h, KL_61, f0]
def ml_now (S : hs_S) (n : Nat) (w : Int32) : Int32 × hs_S :=
  if w = 0 then (S.2.1 62 1, S) else if w = 1 then (hT (S.2.1 62 1), S) else if w = 2 then (S.2.1 62 2, S)
  else if w = 3 then (smF (fun i => S.2.1 62 (35 + 6 * i + 2)) n, S) else if w = 4 then (smF (fun i => S.2.1 62 (35 + 6 * i + 5)) n, S)
  else if w = 5 then (orF (fun i => decide (0 < S.2.1 62 (35 + 6 * i + 2))) n, S) else if w = 6 then (orF (fun i => decide (0 < S.2.1 62 (3 + i))) 16, S)
  else (-1000000001, fdM S 0)
theorem sp_M_now (d : Nat) (S : hs_S) (n : Nat) (w : Int32) (hn : n ≤ 8) (hr : S.2.1 62 0 = nI n) : sx_call (d + 4) 158 [.ref 61, .int w] (hp S) = o1 (ml_now S n w) := by
  rw [cz158]
  have f0 := sp_M_finds (d + 2) S 0 (-1000000001) (by decide) (by decide)
  have t2 : sx_call (d + 3) 154 [.ref 61, .int 2] (hp S) = _ := sp_M_together d S n 2 hn (by decide) hr
  have t5 : sx_call (d + 3) 154 [.ref 61, .int 5] (hp S) = _ := sp_M_together d S n 5 hn (by decide) hr
  unfold ml_now o1
  by_cases h0 : w = 0
  · subst h0
    simp [ez158_0, ez158_1, ez158_44, ez158_45, ez158_48, ez158_49, ez158_50, ez158_51, ez158_52, ez158_55, ez158_56, ez158_57, ez158_60, ez158_61, ez158_62, ez158_65, ez158_66, ez158_67, ez158_68, ez158_69, ez158_70, ez158_73, ez158_74, ez158_75, ez158_76, ez158_79, ez158_80, ez158_81, ez158_84, ez158_85, ez158_86, ez158_89, ez158_90, ez158_91, ez158_93, ez158_96, GF_61_0, GI_62, c83_1, cl_1]
  · by_cases h1 : w = 1
    · subst h1
      simp [ez158_0, ez158_1, ez158_44, ez158_45, ez158_48, ez158_49, ez158_50, ez158_51, ez158_52, ez158_55, ez158_56, ez158_57, ez158_60, ez158_61, ez158_62, ez158_65, ez158_66, ez158_67, ez158_68, ez158_69, ez158_70, ez158_73, ez158_74, ez158_75, ez158_76, ez158_79, ez158_80, ez158_81, ez158_84, ez158_85, ez158_86, ez158_89, ez158_90, ez158_91, ez158_93, ez158_96, GF_61_0, GI_62, c83_1, cl_1, tl_s, sp_M_heatOf]
    · by_cases h2 : w = 2
      · subst h2
        simp [ez158_0, ez158_1, ez158_44, ez158_45, ez158_48, ez158_49, ez158_50, ez158_51, ez158_52, ez158_55, ez158_56, ez158_57, ez158_60, ez158_61, ez158_62, ez158_65, ez158_66, ez158_67, ez158_68, ez158_69, ez158_70, ez158_73, ez158_74, ez158_75, ez158_76, ez158_79, ez158_80, ez158_81, ez158_84, ez158_85, ez158_86, ez158_89, ez158_90, ez158_91, ez158_93, ez158_96, GF_61_0, GI_62, c83_2, cl_2]
      · by_cases h3 : w = 3
        · subst h3
          simp [ez158_0, ez158_1, ez158_44, ez158_45, ez158_48, ez158_49, ez158_50, ez158_51, ez158_52, ez158_55, ez158_56, ez158_57, ez158_60, ez158_61, ez158_62, ez158_65, ez158_66, ez158_67, ez158_68, ez158_69, ez158_70, ez158_73, ez158_74, ez158_75, ez158_76, ez158_79, ez158_80, ez158_81, ez158_84, ez158_85, ez158_86, ez158_89, ez158_90, ez158_91, ez158_93, ez158_96, KL_61, tl_s, t2]
        · by_cases h4 : w = 4
          · subst h4
            simp [ez158_0, ez158_1, ez158_44, ez158_45, ez158_48, ez158_49, ez158_50, ez158_51, ez158_52, ez158_55, ez158_56, ez158_57, ez158_60, ez158_61, ez158_62, ez158_65, ez158_66, ez158_67, ez158_68, ez158_69, ez158_70, ez158_73, ez158_74, ez158_75, ez158_76, ez158_79, ez158_80, ez158_81, ez158_84, ez158_85, ez158_86, ez158_89, ez158_90, ez158_91, ez158_93, ez158_96, KL_61, tl_s, t5]
          · by_cases h5 : w = 5
            · subst h5
              simp [ez158_0, ez158_1, ez158_44, ez158_45, ez158_48, ez158_49, ez158_50, ez158_51, ez158_52, ez158_55, ez158_56, ez158_57, ez158_60, ez158_61, ez158_62, ez158_65, ez158_66, ez158_67, ez158_68, ez158_69, ez158_70, ez158_73, ez158_74, ez158_75, ez158_76, ez158_79, ez158_80, ez158_81, ez158_84, ez158_85, ez158_86, ez158_89, ez158_90, ez158_91, ez158_93, ez158_96, KL_61, tl_s, sp_M_shaded d S n hn hr]
            · by_cases h6 : w = 6
              · subst h6
                simp [ez158_0, ez158_1, ez158_44, ez158_45, ez158_48, ez158_49, ez158_50, ez158_51, ez158_52, ez158_55, ez158_56, ez158_57, ez158_60, ez158_61, ez158_62, ez158_65, ez158_66, ez158_67, ez158_68, ez158_69, ez158_70, ez158_73, ez158_74, ez158_75, ez158_76, ez158_79, ez158_80, ez158_81, ez158_84, ez158_85, ez158_86, ez158_89, ez158_90, ez158_91, ez158_93, ez158_96, KL_61, tl_s, sp_M_posted (d + 2) S]
              · simp [ez158_0, ez158_1, ez158_44, ez158_45, ez158_48, ez158_49, ez158_50, ez158_51, ez158_52, ez158_55, ez158_56, ez158_57, ez158_60, ez158_61, ez158_62, ez158_65, ez158_66, ez158_67, ez158_68, ez158_69, ez158_70, ez158_73, ez158_74, ez158_75, ez158_76, ez158_79, ez158_80, ez158_81, ez158_84, ez158_85, ez158_86, ez158_89, ez158_90, ez158_91, ez158_93, ez158_96, h0, h1, h2, h3, h4, h5, h6, tl_s, f0, KL_61]
theorem sp_M_tear (d : Nat) (S : hs_S) : sx_call (d + 1) 205 [.ref 61] (hp S) = o1 (if S.1 61 5 = 0 then 0 else 1, uF S 61 5 0) := by
  rw [cz205]
  by_cases h : S.1 61 5 = 0
  · simp only [ez205_0, ez205_1, ez205_4, ez205_7, ez205_8, ez205_11, ez205_12, ez205_13, ez205_14, ez205_15, ez205_18, ez205_19, GF_61_5, Option.bind_some, h, if_true, isB_0, PF_61_5]
    rfl
  · simp only [ez205_0, ez205_1, ez205_4, ez205_7, ez205_8, ez205_11, ez205_12, ez205_13, ez205_14, ez205_15, ez205_18, ez205_19, GF_61_5, Option.bind_some, h, if_false, isB_0, if_true, PF_61_5]
    rfl
theorem sp_M_wipe (d : Nat) (S : hs_S) : sx_call (d + 1) 179 [.ref 61] (hp S) = o1 (S.1 61 13, uF S 61 13 0) := by
  rw [cz179]
  simp only [ez179_0, ez179_1, ez179_4, ez179_5, ez179_6, ez179_7, ez179_10, ez179_11, GF_61_13, PF_61_13, Option.bind_some]
  rfl
