/-! THE PUBLIC METHODS, on -/
theorem car_of {n : Nat} {c : Int32} (hn : n ≤ 8) (h : 0 ≤ c ∧ c < nI n) : ∃ m, m < n ∧ c = nI m := by
  obtain ⟨m, hm, rfl⟩ := nI_of (Int32.not_lt.mpr h.1)
  exact ⟨m, Nat.lt_of_not_le fun z => Int32.not_le.mpr h.2 (nI_le z (by omega)), rfl⟩
theorem k6_of {k : Int32} (h : 0 ≤ k ∧ k < 6) : ∃ m, m < 6 ∧ k = nI m := by
  obtain ⟨m, hm, rfl⟩ := nI_of (Int32.not_lt.mpr h.1)
  exact ⟨m, Nat.lt_of_not_le fun z => Int32.not_le.mpr h.2 (nI_le (a := 6) z (by omega)), rfl⟩
def cl_heat (S : hs_S) (x : Int32) : Int32 × hs_S := if 0 ≤ x ∧ x ≤ 99999 then (hT x, S) else (-1000000001, fdS S 0)
theorem sp_SC_heat (d : Nat) (S : hs_S) (x : Int32) : sx_call (d + 3) 70 [.ref 1, .int x] (hp S) = o1 (cl_heat S x) := by
  rw [cz70]
  have f0 := sp_SC_finding (d + 1) S 0 (-1000000001) (by decide) (by decide)
  unfold cl_heat o1
  by_cases h : 0 ≤ x ∧ x ≤ 99999
  · simp [ez70_0, ez70_1, ez70_3, ez70_6, ez70_9, ez70_10, ez70_13, ez70_16, ez70_17, ez70_19, ez70_22, sp_SC_within, tl_s, bI_eq0, h, sp_heatAt d x _ h.1]
  · simp [ez70_0, ez70_1, ez70_3, ez70_6, ez70_9, ez70_10, ez70_13, ez70_16, ez70_17, ez70_19, ez70_22, sp_SC_within, tl_s, bI_eq0, h, f0, KL_1]
def cl_placeOf (S : hs_S) (n : Nat) (p w : Int32) : Int32 × hs_S :=
  if 0 ≤ p ∧ p < 16 then
    if w = 0 then (S.2.1 12 p.toNatClampNeg, S) else if w = 1 then (S.2.1 13 p.toNatClampNeg, S)
    else if w = 2 then (orF (fun i => decide (S.1 (15 + i) 1 = p)) n, S) else if w = 3 then (ntF p, S) else (-1000000001, fdS S 0)
  else (-1000000001, fdS S 0)
theorem sp_SC_placeOf (d : Nat) (S : hs_S) (n : Nat) (p w : Int32) (hn : n ≤ 8) (hc : S.1 11 3 = nI n) : sx_call (d + 3) 68 [.ref 1, .int p, .int w] (hp S) = o1 (cl_placeOf S n p w) := by
  rw [cz68]
  have f0 := sp_SC_finding (d + 1) S 0 (-1000000001) (by decide) (by decide)
  unfold cl_placeOf o1
  by_cases h : 0 ≤ p ∧ p < 16
  · have hi := in_of (n := 16) (by decide) (by decide) h
    by_cases h0 : w = 0
    · subst h0
      simp [ez68_0, ez68_1, ez68_4, ez68_7, ez68_8, ez68_10, ez68_13, ez68_14, ez68_15, ez68_44, ez68_45, ez68_48, ez68_51, ez68_52, ez68_53, ez68_54, ez68_55, ez68_58, ez68_61, ez68_62, ez68_63, ez68_64, ez68_65, ez68_68, ez68_69, ez68_72, ez68_73, ez68_74, ez68_77, ez68_78, ez68_79, ez68_81, ez68_84, sp_SC_isPlace, tl_s, bI_eq0, h, GF_1_1, GF_11_0, GI_12, hi]
    · by_cases h1 : w = 1
      · subst h1
        simp [ez68_0, ez68_1, ez68_4, ez68_7, ez68_8, ez68_10, ez68_13, ez68_14, ez68_15, ez68_44, ez68_45, ez68_48, ez68_51, ez68_52, ez68_53, ez68_54, ez68_55, ez68_58, ez68_61, ez68_62, ez68_63, ez68_64, ez68_65, ez68_68, ez68_69, ez68_72, ez68_73, ez68_74, ez68_77, ez68_78, ez68_79, ez68_81, ez68_84, sp_SC_isPlace, tl_s, bI_eq0, h, GF_1_1, GF_11_1, GI_13, hi]
      · by_cases h2 : w = 2
        · subst h2
          simp [ez68_0, ez68_1, ez68_4, ez68_7, ez68_8, ez68_10, ez68_13, ez68_14, ez68_15, ez68_44, ez68_45, ez68_48, ez68_51, ez68_52, ez68_53, ez68_54, ez68_55, ez68_58, ez68_61, ez68_62, ez68_63, ez68_64, ez68_65, ez68_68, ez68_69, ez68_72, ez68_73, ez68_74, ez68_77, ez68_78, ez68_79, ez68_81, ez68_84, sp_SC_isPlace, tl_s, bI_eq0, h, GF_1_1, KL_11, sp_Land_carriersAt (d + 1) S p n hn hc]
        · by_cases h3 : w = 3
          · subst h3
            simp [ez68_0, ez68_1, ez68_4, ez68_7, ez68_8, ez68_10, ez68_13, ez68_14, ez68_15, ez68_44, ez68_45, ez68_48, ez68_51, ez68_52, ez68_53, ez68_54, ez68_55, ez68_58, ez68_61, ez68_62, ez68_63, ez68_64, ez68_65, ez68_68, ez68_69, ez68_72, ez68_73, ez68_74, ez68_77, ez68_78, ez68_79, ez68_81, ez68_84, sp_SC_isPlace, tl_s, bI_eq0, h, sp_SC_nextTo]
          · simp [ez68_0, ez68_1, ez68_4, ez68_7, ez68_8, ez68_10, ez68_13, ez68_14, ez68_15, ez68_44, ez68_45, ez68_48, ez68_51, ez68_52, ez68_53, ez68_54, ez68_55, ez68_58, ez68_61, ez68_62, ez68_63, ez68_64, ez68_65, ez68_68, ez68_69, ez68_72, ez68_73, ez68_74, ez68_77, ez68_78, ez68_79, ez68_81, ez68_84, sp_SC_isPlace, tl_s, bI_eq0, h, h0, h1, h2, h3, f0, KL_1]
  · simp [ez68_0, ez68_1, ez68_4, ez68_7, ez68_8, ez68_10, ez68_13, ez68_14, ez68_15, ez68_44, ez68_45, ez68_48, ez68_51, ez68_52, ez68_53, ez68_54, ez68_55, ez68_58, ez68_61, ez68_62, ez68_63, ez68_64, ez68_65, ez68_68, ez68_69, ez68_72, ez68_73, ez68_74, ez68_77, ez68_78, ez68_79, ez68_81, ez68_84, sp_SC_isPlace, tl_s, bI_eq0, h, f0, KL_1]
def cl_set (S : hs_S) (n : Nat) (c w v : Int32) : Int32 × hs_S :=
  if (0 ≤ c ∧ c < nI n) ∧ mbF w v = true then (S.1 (15 + c.toNatClampNeg) w.toNatClampNeg, uF S (15 + c.toNatClampNeg) w.toNatClampNeg v) else (-1000000001, fdS S 0)
theorem mbF_w {w v : Int32} (h : mbF w v = true) : w = 2 ∨ w = 3 ∨ w = 4 ∨ w = 5 := by
  unfold mbF at h
  by_cases h2 : w = 2
  · exact Or.inl h2
  · by_cases h3 : w = 3
    · exact Or.inr (Or.inl h3)
    · by_cases h4 : w = 4
      · exact Or.inr (Or.inr (Or.inl h4))
      · by_cases h5 : w = 5
        · exact Or.inr (Or.inr (Or.inr h5))
        · rw [if_neg h2, if_neg h3, if_neg h4, if_neg h5] at h
          cases h
theorem sp_SC_set (d : Nat) (S : hs_S) (n : Nat) (c w v : Int32) (hn : n ≤ 8) (hc : S.1 11 3 = nI n) : sx_call (d + 3) 73 [.ref 1, .int c, .int w, .int v] (hp S) = o1 (cl_set S n c w v) := by
  rw [cz73]
  have f0 := sp_SC_finding (d + 1) S 0 (-1000000001) (by decide) (by decide)
  unfold cl_set o1
  by_cases h : 0 ≤ c ∧ c < nI n
  · by_cases h2 : mbF w v = true
    · obtain ⟨m, hm, rfl⟩ := car_of hn h
      have ha := car15 (show m < 8 by omega)
      rcases mbF_w h2 with rfl | rfl | rfl | rfl
      · simp [ez73_0, ez73_1, ez73_2, ez73_5, ez73_8, ez73_9, ez73_10, ez73_13, ez73_16, ez73_17, ez73_19, ez73_22, ez73_23, ez73_24, ez73_27, ez73_30, ez73_31, ez73_32, ez73_34, ez73_35, ez73_60, ez73_62, ez73_65, ez73_67, ez73_69, ez73_70, ez73_73, ez73_75, ez73_76, ez73_78, ez73_81, ez73_83, ez73_85, ez73_86, ez73_89, ez73_91, ez73_92, ez73_94, ez73_97, ez73_99, ez73_101, ez73_102, ez73_105, ez73_107, ez73_108, ez73_110, ez73_113, ez73_115, ez73_117, ez73_118, ez73_121, ez73_123, sp_SC_isCarrier, sp_SC_mayBe, tl_s, bI_eq0, KL_1, GF_1_1, GF_11_2, hc, h, h2, GQ_14 _ m (show m < 8 by omega), GC_2 _ ha, PC_2 _ ha, nI_clamp (show m < 2 ^ 31 by omega)]
      · simp [ez73_0, ez73_1, ez73_2, ez73_5, ez73_8, ez73_9, ez73_10, ez73_13, ez73_16, ez73_17, ez73_19, ez73_22, ez73_23, ez73_24, ez73_27, ez73_30, ez73_31, ez73_32, ez73_34, ez73_35, ez73_60, ez73_62, ez73_65, ez73_67, ez73_69, ez73_70, ez73_73, ez73_75, ez73_76, ez73_78, ez73_81, ez73_83, ez73_85, ez73_86, ez73_89, ez73_91, ez73_92, ez73_94, ez73_97, ez73_99, ez73_101, ez73_102, ez73_105, ez73_107, ez73_108, ez73_110, ez73_113, ez73_115, ez73_117, ez73_118, ez73_121, ez73_123, sp_SC_isCarrier, sp_SC_mayBe, tl_s, bI_eq0, KL_1, GF_1_1, GF_11_2, hc, h, h2, GQ_14 _ m (show m < 8 by omega), GC_3 _ ha, PC_3 _ ha, nI_clamp (show m < 2 ^ 31 by omega)]
      · simp [ez73_0, ez73_1, ez73_2, ez73_5, ez73_8, ez73_9, ez73_10, ez73_13, ez73_16, ez73_17, ez73_19, ez73_22, ez73_23, ez73_24, ez73_27, ez73_30, ez73_31, ez73_32, ez73_34, ez73_35, ez73_60, ez73_62, ez73_65, ez73_67, ez73_69, ez73_70, ez73_73, ez73_75, ez73_76, ez73_78, ez73_81, ez73_83, ez73_85, ez73_86, ez73_89, ez73_91, ez73_92, ez73_94, ez73_97, ez73_99, ez73_101, ez73_102, ez73_105, ez73_107, ez73_108, ez73_110, ez73_113, ez73_115, ez73_117, ez73_118, ez73_121, ez73_123, sp_SC_isCarrier, sp_SC_mayBe, tl_s, bI_eq0, KL_1, GF_1_1, GF_11_2, hc, h, h2, GQ_14 _ m (show m < 8 by omega), GC_4 _ ha, PC_4 _ ha, nI_clamp (show m < 2 ^ 31 by omega)]
      · simp [ez73_0, ez73_1, ez73_2, ez73_5, ez73_8, ez73_9, ez73_10, ez73_13, ez73_16, ez73_17, ez73_19, ez73_22, ez73_23, ez73_24, ez73_27, ez73_30, ez73_31, ez73_32, ez73_34, ez73_35, ez73_60, ez73_62, ez73_65, ez73_67, ez73_69, ez73_70, ez73_73, ez73_75, ez73_76, ez73_78, ez73_81, ez73_83, ez73_85, ez73_86, ez73_89, ez73_91, ez73_92, ez73_94, ez73_97, ez73_99, ez73_101, ez73_102, ez73_105, ez73_107, ez73_108, ez73_110, ez73_113, ez73_115, ez73_117, ez73_118, ez73_121, ez73_123, sp_SC_isCarrier, sp_SC_mayBe, tl_s, bI_eq0, KL_1, GF_1_1, GF_11_2, hc, h, h2, GQ_14 _ m (show m < 8 by omega), GC_5 _ ha, PC_5 _ ha, nI_clamp (show m < 2 ^ 31 by omega)]
    · simp [ez73_0, ez73_1, ez73_2, ez73_5, ez73_8, ez73_9, ez73_10, ez73_13, ez73_16, ez73_17, ez73_19, ez73_22, ez73_23, ez73_24, ez73_27, ez73_30, ez73_31, ez73_32, ez73_34, ez73_35, ez73_60, ez73_62, ez73_65, ez73_67, ez73_69, ez73_70, ez73_73, ez73_75, ez73_76, ez73_78, ez73_81, ez73_83, ez73_85, ez73_86, ez73_89, ez73_91, ez73_92, ez73_94, ez73_97, ez73_99, ez73_101, ez73_102, ez73_105, ez73_107, ez73_108, ez73_110, ez73_113, ez73_115, ez73_117, ez73_118, ez73_121, ez73_123, sp_SC_isCarrier, sp_SC_mayBe, tl_s, bI_eq0, KL_1, hc, h, h2, f0]
  · simp [ez73_0, ez73_1, ez73_2, ez73_5, ez73_8, ez73_9, ez73_10, ez73_13, ez73_16, ez73_17, ez73_19, ez73_22, ez73_23, ez73_24, ez73_27, ez73_30, ez73_31, ez73_32, ez73_34, ez73_35, ez73_60, ez73_62, ez73_65, ez73_67, ez73_69, ez73_70, ez73_73, ez73_75, ez73_76, ez73_78, ez73_81, ez73_83, ez73_85, ez73_86, ez73_89, ez73_91, ez73_92, ez73_94, ez73_97, ez73_99, ez73_101, ez73_102, ez73_105, ez73_107, ez73_108, ez73_110, ez73_113, ez73_115, ez73_117, ez73_118, ez73_121, ez73_123, sp_SC_isCarrier, tl_s, bI_eq0, KL_1, hc, h, f0]
def cl_turn (S : hs_S) (n : Nat) (c k : Int32) : Int32 × hs_S :=
  if (0 ≤ c ∧ c < nI n) ∧ (0 ≤ k ∧ k < 6) then (nI (S.2.2.2 (15 + c.toNatClampNeg)), uK S (15 + c.toNatClampNeg) k.toNatClampNeg) else (-1000000001, fdS S 0)
theorem sp_SC_turn (d : Nat) (S : hs_S) (n : Nat) (c k : Int32) (hn : n ≤ 8) (hc : S.1 11 3 = nI n) (hk : okC S n) : sx_call (d + 2) 74 [.ref 1, .int c, .int k] (hp S) = o1 (cl_turn S n c k) := by
  rw [cz74]
  have f0 := sp_SC_finding d S 0 (-1000000001) (by decide) (by decide)
  unfold cl_turn o1
  by_cases h : 0 ≤ c ∧ c < nI n
  · by_cases h2 : 0 ≤ k ∧ k < 6
    · obtain ⟨m, hm, rfl⟩ := car_of hn h
      obtain ⟨q, hq, rfl⟩ := k6_of h2
      have ha := car15 (show m < 8 by omega)
      simp [ez74_0, ez74_1, ez74_2, ez74_5, ez74_8, ez74_9, ez74_12, ez74_15, ez74_16, ez74_18, ez74_21, ez74_22, ez74_23, ez74_26, ez74_29, ez74_30, ez74_31, ez74_32, ez74_33, ez74_36, ez74_39, ez74_41, ez74_42, ez74_43, ez74_46, ez74_47, ez74_48, ez74_51, ez74_53, sp_SC_isCarrier, sp_SC_isKind, tl_s, bI_eq0, KL_1, GF_1_0, GF_1_1, GF_11_2, hc, h, h2, GQ_14 _ m (show m < 8 by omega), GQ_2 _ q hq, GC_0 _ ha, PC_0 _ ha, GK_0 _ (hk m hm).1, nI_clamp (show m < 2 ^ 31 by omega), nI_clamp (show q < 2 ^ 31 by omega)]
    · simp [ez74_0, ez74_1, ez74_2, ez74_5, ez74_8, ez74_9, ez74_12, ez74_15, ez74_16, ez74_18, ez74_21, ez74_22, ez74_23, ez74_26, ez74_29, ez74_30, ez74_31, ez74_32, ez74_33, ez74_36, ez74_39, ez74_41, ez74_42, ez74_43, ez74_46, ez74_47, ez74_48, ez74_51, ez74_53, sp_SC_isCarrier, sp_SC_isKind, tl_s, bI_eq0, KL_1, hc, h, h2, f0]
  · simp [ez74_0, ez74_1, ez74_2, ez74_5, ez74_8, ez74_9, ez74_12, ez74_15, ez74_16, ez74_18, ez74_21, ez74_22, ez74_23, ez74_26, ez74_29, ez74_30, ez74_31, ez74_32, ez74_33, ez74_36, ez74_39, ez74_41, ez74_42, ez74_43, ez74_46, ez74_47, ez74_48, ez74_51, ez74_53, sp_SC_isCarrier, tl_s, bI_eq0, KL_1, hc, h, f0]
def cl_go (S : hs_S) (n : Nat) (c p : Int32) : Int32 × hs_S :=
  if (0 ≤ c ∧ c < nI n) ∧ (0 ≤ p ∧ p < 16) then
    if ntF (S.1 (15 + c.toNatClampNeg) 1) &&& ((1 : Int32) <<< (p &&& 31)) = 0 then (-1000000005, fdS S 4)
    else (S.1 (15 + c.toNatClampNeg) 2, uF S (15 + c.toNatClampNeg) 1 p)
  else (-1000000001, fdS S 0)
theorem sp_SC_go (d : Nat) (S : hs_S) (n : Nat) (c p : Int32) (hn : n ≤ 8) (hc : S.1 11 3 = nI n) : sx_call (d + 3) 76 [.ref 1, .int c, .int p] (hp S) = o1 (cl_go S n c p) := by
  rw [cz76]
  have f0 := sp_SC_finding (d + 1) S 0 (-1000000001) (by decide) (by decide)
  have f4 := sp_SC_finding (d + 1) S 4 (-1000000005) (by decide) (by decide)
  unfold cl_go o1
  by_cases h : 0 ≤ c ∧ c < nI n
  · by_cases h2 : 0 ≤ p ∧ p < 16
    · obtain ⟨m, hm, rfl⟩ := car_of hn h
      have ha := car15 (show m < 8 by omega)
      have hb : ∀ v, (uF S (15 + m) 1 v).1 (15 + m) 2 = S.1 (15 + m) 2 := fun v => uF_off S _ 1 v (Or.inr (by decide))
      by_cases h3 : ntF (S.1 (15 + m) 1) &&& ((1 : Int32) <<< (p &&& 31)) = 0
      · simp [ez76_0, ez76_1, ez76_2, ez76_5, ez76_8, ez76_9, ez76_12, ez76_15, ez76_16, ez76_18, ez76_21, ez76_22, ez76_23, ez76_26, ez76_29, ez76_30, ez76_31, ez76_32, ez76_33, ez76_36, ez76_39, ez76_40, ez76_41, ez76_42, ez76_43, ez76_46, ez76_47, ez76_49, ez76_52, ez76_53, ez76_54, ez76_55, ez76_58, ez76_59, ez76_62, sp_SC_isCarrier, sp_SC_isPlace, sp_SC_nextTo, tl_s, bI_eq0, KL_1, GF_1_1, GF_11_2, hc, h, h2, h3, GQ_14 _ m (show m < 8 by omega), GC_1 _ ha, f4, nI_clamp (show m < 2 ^ 31 by omega)]
      · simp [ez76_0, ez76_1, ez76_2, ez76_5, ez76_8, ez76_9, ez76_12, ez76_15, ez76_16, ez76_18, ez76_21, ez76_22, ez76_23, ez76_26, ez76_29, ez76_30, ez76_31, ez76_32, ez76_33, ez76_36, ez76_39, ez76_40, ez76_41, ez76_42, ez76_43, ez76_46, ez76_47, ez76_49, ez76_52, ez76_53, ez76_54, ez76_55, ez76_58, ez76_59, ez76_62, sp_SC_isCarrier, sp_SC_isPlace, sp_SC_nextTo, tl_s, bI_eq0, KL_1, GF_1_1, GF_11_2, hc, h, h2, h3, GQ_14 _ m (show m < 8 by omega), GC_1 _ ha, GC_2 _ ha, PC_1 _ ha, hb, nI_clamp (show m < 2 ^ 31 by omega)]
    · simp [ez76_0, ez76_1, ez76_2, ez76_5, ez76_8, ez76_9, ez76_12, ez76_15, ez76_16, ez76_18, ez76_21, ez76_22, ez76_23, ez76_26, ez76_29, ez76_30, ez76_31, ez76_32, ez76_33, ez76_36, ez76_39, ez76_40, ez76_41, ez76_42, ez76_43, ez76_46, ez76_47, ez76_49, ez76_52, ez76_53, ez76_54, ez76_55, ez76_58, ez76_59, ez76_62, sp_SC_isCarrier, sp_SC_isPlace, tl_s, bI_eq0, KL_1, hc, h, h2, f0]
  · simp [ez76_0, ez76_1, ez76_2, ez76_5, ez76_8, ez76_9, ez76_12, ez76_15, ez76_16, ez76_18, ez76_21, ez76_22, ez76_23, ez76_26, ez76_29, ez76_30, ez76_31, ez76_32, ez76_33, ez76_36, ez76_39, ez76_40, ez76_41, ez76_42, ez76_43, ez76_46, ez76_47, ez76_49, ez76_52, ez76_53, ez76_54, ez76_55, ez76_58, ez76_59, ez76_62, sp_SC_isCarrier, tl_s, bI_eq0, KL_1, hc, h, f0]
