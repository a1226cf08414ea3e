/-! THE PUBLIC METHODS, one by one: an answer and the state after it -/
def o1 (r : Int32 × hs_S) : Option sx_R := some (some (.int r.1), hp r.2)
theorem in_of {n : Nat} {x y : Int32} (hy : y = nI n) (hn : n < 2 ^ 31) (h : 0 ≤ x ∧ x < y) : sx_in x n = true := by
  obtain ⟨m, hm, rfl⟩ := nI_of (Int32.not_lt.mpr h.1)
  subst hy
  refine in_nI (Nat.lt_of_not_le fun z => ?_) hn
  exact Int32.not_le.mpr h.2 (nI_le z (by omega))
def cl_place (S : hs_S) (p w v : Int32) : Int32 × hs_S :=
  if 0 ≤ p ∧ p < 16 then
    if w = 0 ∧ (0 ≤ v ∧ v ≤ 9) then (S.2.1 12 p.toNatClampNeg, uI S 12 (upd (S.2.1 12) p.toNatClampNeg v))
    else if w = 1 ∧ (0 ≤ v ∧ v ≤ 99) then (S.2.1 13 p.toNatClampNeg, uI S 13 (upd (S.2.1 13) p.toNatClampNeg v))
    else (-1000000001, fdS S 0)
  else (-1000000001, fdS S 0)
theorem sp_SC_place (d : Nat) (S : hs_S) (p w v : Int32) : sx_call (d + 2) 67 [.ref 1, .int p, .int w, .int v] (hp S) = o1 (cl_place S p w v) := by
  rw [cz67]
  have f0 := sp_SC_finding d S 0 (-1000000001) (by decide) (by decide)
  unfold cl_place o1
  by_cases h : 0 ≤ p ∧ p < 16
  · have hi := in_of (n := 16) (by decide) (by decide) h
    by_cases h0 : w = 0
    · subst h0
      by_cases h9 : 0 ≤ v ∧ v ≤ 9
      · simp [ez67_0, ez67_1, ez67_4, ez67_7, ez67_8, ez67_10, ez67_13, ez67_14, ez67_15, ez67_18, ez67_19, ez67_21, ez67_24, ez67_27, ez67_28, ez67_31, ez67_34, ez67_35, ez67_36, ez67_38, ez67_39, ez67_42, ez67_45, ez67_46, ez67_47, ez67_48, ez67_50, ez67_51, ez67_52, ez67_53, ez67_56, ez67_57, ez67_59, ez67_62, ez67_65, ez67_66, ez67_69, ez67_72, ez67_73, ez67_74, ez67_76, ez67_77, ez67_80, ez67_83, ez67_84, ez67_85, ez67_86, ez67_88, ez67_89, ez67_90, ez67_92, ez67_95, sp_SC_isPlace, sp_SC_within, tl_s, bI_eq0, h, h9, GF_1_1, GF_11_0, GI_12, PI_12, hi]
      · simp [ez67_0, ez67_1, ez67_4, ez67_7, ez67_8, ez67_10, ez67_13, ez67_14, ez67_15, ez67_18, ez67_19, ez67_21, ez67_24, ez67_27, ez67_28, ez67_31, ez67_34, ez67_35, ez67_36, ez67_38, ez67_39, ez67_42, ez67_45, ez67_46, ez67_47, ez67_48, ez67_50, ez67_51, ez67_52, ez67_53, ez67_56, ez67_57, ez67_59, ez67_62, ez67_65, ez67_66, ez67_69, ez67_72, ez67_73, ez67_74, ez67_76, ez67_77, ez67_80, ez67_83, ez67_84, ez67_85, ez67_86, ez67_88, ez67_89, ez67_90, ez67_92, ez67_95, sp_SC_isPlace, sp_SC_within, tl_s, bI_eq0, h, h9, f0, KL_1]
    · by_cases h1 : w = 1
      · subst h1
        by_cases h9 : 0 ≤ v ∧ v ≤ 99
        · simp [ez67_0, ez67_1, ez67_4, ez67_7, ez67_8, ez67_10, ez67_13, ez67_14, ez67_15, ez67_18, ez67_19, ez67_21, ez67_24, ez67_27, ez67_28, ez67_31, ez67_34, ez67_35, ez67_36, ez67_38, ez67_39, ez67_42, ez67_45, ez67_46, ez67_47, ez67_48, ez67_50, ez67_51, ez67_52, ez67_53, ez67_56, ez67_57, ez67_59, ez67_62, ez67_65, ez67_66, ez67_69, ez67_72, ez67_73, ez67_74, ez67_76, ez67_77, ez67_80, ez67_83, ez67_84, ez67_85, ez67_86, ez67_88, ez67_89, ez67_90, ez67_92, ez67_95, sp_SC_isPlace, sp_SC_within, tl_s, bI_eq0, h, h9, GF_1_1, GF_11_1, GI_13, PI_13, hi]
        · simp [ez67_0, ez67_1, ez67_4, ez67_7, ez67_8, ez67_10, ez67_13, ez67_14, ez67_15, ez67_18, ez67_19, ez67_21, ez67_24, ez67_27, ez67_28, ez67_31, ez67_34, ez67_35, ez67_36, ez67_38, ez67_39, ez67_42, ez67_45, ez67_46, ez67_47, ez67_48, ez67_50, ez67_51, ez67_52, ez67_53, ez67_56, ez67_57, ez67_59, ez67_62, ez67_65, ez67_66, ez67_69, ez67_72, ez67_73, ez67_74, ez67_76, ez67_77, ez67_80, ez67_83, ez67_84, ez67_85, ez67_86, ez67_88, ez67_89, ez67_90, ez67_92, ez67_95, sp_SC_isPlace, sp_SC_within, tl_s, bI_eq0, h, h9, f0, KL_1]
      · simp [ez67_0, ez67_1, ez67_4, ez67_7, ez67_8, ez67_10, ez67_13, ez67_14, ez67_15, ez67_18, ez67_19, ez67_21, ez67_24, ez67_27, ez67_28, ez67_31, ez67_34, ez67_35, ez67_36, ez67_38, ez67_39, ez67_42, ez67_45, ez67_46, ez67_47, ez67_48, ez67_50, ez67_51, ez67_52, ez67_53, ez67_56, ez67_57, ez67_59, ez67_62, ez67_65, ez67_66, ez67_69, ez67_72, ez67_73, ez67_74, ez67_76, ez67_77, ez67_80, ez67_83, ez67_84, ez67_85, ez67_86, ez67_88, ez67_89, ez67_90, ez67_92, ez67_95, sp_SC_isPlace, sp_SC_within, tl_s, bI_eq0, h, h0, h1, f0, KL_1]
  · simp [ez67_0, ez67_1, ez67_4, ez67_7, ez67_8, ez67_10, ez67_13, ez67_14, ez67_15, ez67_18, ez67_19, ez67_21, ez67_24, ez67_27, ez67_28, ez67_31, ez67_34, ez67_35, ez67_36, ez67_38, ez67_39, ez67_42, ez67_45, ez67_46, ez67_47, ez67_48, ez67_50, ez67_51, ez67_52, ez67_53, ez67_56, ez67_57, ez67_59, ez67_62, ez67_65, ez67_66, ez67_69, ez67_72, ez67_73, ez67_74, ez67_76, ez67_77, ez67_80, ez67_83, ez67_84, ez67_85, ez67_86, ez67_88, ez67_89, ez67_90, ez67_92, ez67_95, sp_SC_isPlace, tl_s, bI_eq0, h, f0, KL_1]
def cl_clouds (S : hs_S) (v : Int32) : Int32 × hs_S := if 0 ≤ v ∧ v ≤ 1 then (S.1 11 5, uF S 11 5 v) else (-1000000001, fdS S 0)
theorem sp_SC_clouds (d : Nat) (S : hs_S) (v : Int32) : sx_call (d + 2) 69 [.ref 1, .int v] (hp S) = o1 (cl_clouds S v) := by
  rw [cz69]
  have f0 := sp_SC_finding d S 0 (-1000000001) (by decide) (by decide)
  unfold cl_clouds o1
  by_cases h : 0 ≤ v ∧ v ≤ 1
  · simp [ez69_0, ez69_1, ez69_2, ez69_5, ez69_8, ez69_9, ez69_11, ez69_14, ez69_15, ez69_16, ez69_19, ez69_22, ez69_23, ez69_24, ez69_27, ez69_28, ez69_31, ez69_32, sp_SC_within, tl_s, bI_eq0, h, GF_1_1, GF_11_5, PF_11_5]
  · simp [ez69_0, ez69_1, ez69_2, ez69_5, ez69_8, ez69_9, ez69_11, ez69_14, ez69_15, ez69_16, ez69_19, ez69_22, ez69_23, ez69_24, ez69_27, ez69_28, ez69_31, ez69_32, sp_SC_within, tl_s, bI_eq0, h, f0, KL_1]
def cl_carrier (S : hs_S) (n : Nat) (k p : Int32) : Int32 × hs_S :=
  if (0 ≤ k ∧ k < 6) ∧ (0 ≤ p ∧ p < 16) then
    if 8 ≤ n then (-1000000002, fdS S 1) else (nI n, uF (setC S (15 + n) k.toNatClampNeg p 20 0 0 0) 11 3 (nI (n + 1)))
  else (-1000000001, fdS S 0)
theorem sp_SC_carrier (d : Nat) (S : hs_S) (n : Nat) (k p : Int32) (hn : n ≤ 8) (hc : S.1 11 3 = nI n) : sx_call (d + 3) 71 [.ref 1, .int k, .int p] (hp S) = o1 (cl_carrier S n k p) := by
  rw [cz71]
  have f0 := sp_SC_finding (d + 1) S 0 (-1000000001) (by decide) (by decide)
  have f1 := sp_SC_finding (d + 1) S 1 (-1000000002) (by decide) (by decide)
  unfold cl_carrier o1
  by_cases h : 0 ≤ k ∧ k < 6
  · by_cases h2 : 0 ≤ p ∧ p < 16
    · by_cases h8 : 8 ≤ n
      · have e8 : n = 8 := by omega
        subst e8
        have l8 : (8 : Int32) ≤ nI 8 := by decide
        simp [ez71_0, ez71_1, ez71_4, ez71_7, ez71_8, ez71_11, ez71_14, ez71_15, ez71_17, ez71_20, ez71_21, ez71_22, ez71_25, ez71_28, ez71_31, ez71_32, ez71_34, ez71_37, ez71_38, ez71_39, ez71_42, ez71_43, ez71_46, ez71_47, ez71_48, ez71_49, ez71_52, sp_SC_isPlace, sp_SC_isKind, sp_Land_isFull, tl_s, bI_eq0, h, h2, GF_1_1, KL_11, KL_1, hc, l8, f1]
      · have g := nI_ge (a := n) (b := 8) (by omega) (by decide)
        rw [show nI 8 = 8 by decide] at g
        obtain ⟨m, hm, rfl⟩ := nI_of (Int32.not_lt.mpr h.1)
        have hm6 : m < 6 := Nat.lt_of_not_le fun z => Int32.not_le.mpr h.2 (nI_le (a := 6) z (by omega))
        simp [ez71_0, ez71_1, ez71_4, ez71_7, ez71_8, ez71_11, ez71_14, ez71_15, ez71_17, ez71_20, ez71_21, ez71_22, ez71_25, ez71_28, ez71_31, ez71_32, ez71_34, ez71_37, ez71_38, ez71_39, ez71_42, ez71_43, ez71_46, ez71_47, ez71_48, ez71_49, ez71_52, sp_SC_isPlace, sp_SC_isKind, sp_Land_isFull, tl_s, bI_eq0, h, h2, h8, GF_1_0, GF_1_1, KL_11, hc, g, GQ_2 _ m hm6, nI_clamp (show m < 2 ^ 31 by omega), sp_Land_addCarrier d S n m p (by omega) hc]
    · simp [ez71_0, ez71_1, ez71_4, ez71_7, ez71_8, ez71_11, ez71_14, ez71_15, ez71_17, ez71_20, ez71_21, ez71_22, ez71_25, ez71_28, ez71_31, ez71_32, ez71_34, ez71_37, ez71_38, ez71_39, ez71_42, ez71_43, ez71_46, ez71_47, ez71_48, ez71_49, ez71_52, sp_SC_isPlace, sp_SC_isKind, tl_s, bI_eq0, h, h2, f0, KL_1]
  · simp [ez71_0, ez71_1, ez71_4, ez71_7, ez71_8, ez71_11, ez71_14, ez71_15, ez71_17, ez71_20, ez71_21, ez71_22, ez71_25, ez71_28, ez71_31, ez71_32, ez71_34, ez71_37, ez71_38, ez71_39, ez71_42, ez71_43, ez71_46, ez71_47, ez71_48, ez71_49, ez71_52, sp_SC_isKind, tl_s, bI_eq0, h, f0, KL_1]
