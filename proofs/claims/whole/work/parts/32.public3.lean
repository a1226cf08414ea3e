/-! THE PUBLIC METHODS, on: sell, now, of -/
def cl_sell (S : hs_S) (n : Nat) (c : Int32) : Int32 × hs_S :=
  if 0 ≤ c ∧ c < nI n then
    if S.1 (15 + c.toNatClampNeg) 2 = 0 then (-1000000005, fdS S 4)
    else
      (worthF (S.2.2.2 (15 + c.toNatClampNeg)) (S.1 (15 + c.toNatClampNeg) 2) (S.1 (15 + c.toNatClampNeg) 4) (S.2.1 13 (S.1 (15 + c.toNatClampNeg) 1).toNatClampNeg),
       uF (uF S (15 + c.toNatClampNeg) 2 0) (15 + c.toNatClampNeg) 5
        (if S.1 (15 + c.toNatClampNeg) 5 + worthF (S.2.2.2 (15 + c.toNatClampNeg)) (S.1 (15 + c.toNatClampNeg) 2) (S.1 (15 + c.toNatClampNeg) 4) (S.2.1 13 (S.1 (15 + c.toNatClampNeg) 1).toNatClampNeg) < 999999 then S.1 (15 + c.toNatClampNeg) 5 + worthF (S.2.2.2 (15 + c.toNatClampNeg)) (S.1 (15 + c.toNatClampNeg) 2) (S.1 (15 + c.toNatClampNeg) 4) (S.2.1 13 (S.1 (15 + c.toNatClampNeg) 1).toNatClampNeg) else 999999))
  else (-1000000001, fdS S 0)
theorem sp_SC_sell (d : Nat) (S : hs_S) (n : Nat) (c : Int32) (hn : n ≤ 8) (hc : S.1 11 3 = nI n) (hk : okC S n) : sx_call (d + 4) 77 [.ref 1, .int c] (hp S) = o1 (cl_sell S n c) := by
  rw [cz77]
  have f0 := sp_SC_finding (d + 2) S 0 (-1000000001) (by decide) (by decide)
  have f4 := sp_SC_finding (d + 2) S 4 (-1000000005) (by decide) (by decide)
  unfold cl_sell o1
  by_cases h : 0 ≤ c ∧ c < nI n
  · obtain ⟨m, hm, rfl⟩ := car_of hn h
    have ha := car15 (show m < 8 by omega)
    have hb : ∀ v, (uF S (15 + m) 2 v).1 (15 + m) 5 = S.1 (15 + m) 5 := fun v => uF_off S _ 2 v (Or.inr (by decide))
    by_cases h3 : S.1 (15 + m) 2 = 0
    · simp [ez77_0, ez77_1, ez77_2, ez77_5, ez77_8, ez77_9, ez77_11, ez77_14, ez77_15, ez77_16, ez77_19, ez77_22, ez77_23, ez77_24, ez77_25, ez77_26, ez77_29, ez77_32, ez77_33, ez77_35, ez77_38, ez77_39, ez77_40, ez77_43, ez77_44, ez77_47, ez77_48, ez77_49, ez77_50, ez77_53, ez77_54, ez77_56, ez77_57, ez77_60, ez77_61, ez77_62, ez77_65, ez77_68, ez77_69, sp_SC_isCarrier, tl_s, bI_eq0, KL_1, GF_1_1, GF_11_2, hc, h, h3, GQ_14 _ m (show m < 8 by omega), GC_2 _ ha, f4, nI_clamp (show m < 2 ^ 31 by omega)]
    · simp [ez77_0, ez77_1, ez77_2, ez77_5, ez77_8, ez77_9, ez77_11, ez77_14, ez77_15, ez77_16, ez77_19, ez77_22, ez77_23, ez77_24, ez77_25, ez77_26, ez77_29, ez77_32, ez77_33, ez77_35, ez77_38, ez77_39, ez77_40, ez77_43, ez77_44, ez77_47, ez77_48, ez77_49, ez77_50, ez77_53, ez77_54, ez77_56, ez77_57, ez77_60, ez77_61, ez77_62, ez77_65, ez77_68, ez77_69, sp_SC_isCarrier, tl_s, bI_eq0, KL_1, KL_11, GF_1_1, GF_11_2, hc, h, h3, GQ_14 _ m (show m < 8 by omega), GC_2 _ ha, GC_5 _ ha, PC_2 _ ha, PC_5 _ ha, hb, sp_Math_min, sp_Land_worthWhereItIs d S (15 + m) ha (hk m hm).1 (hk m hm).2, nI_clamp (show m < 2 ^ 31 by omega)]
  · simp [ez77_0, ez77_1, ez77_2, ez77_5, ez77_8, ez77_9, ez77_11, ez77_14, ez77_15, ez77_16, ez77_19, ez77_22, ez77_23, ez77_24, ez77_25, ez77_26, ez77_29, ez77_32, ez77_33, ez77_35, ez77_38, ez77_39, ez77_40, ez77_43, ez77_44, ez77_47, ez77_48, ez77_49, ez77_50, ez77_53, ez77_54, ez77_56, ez77_57, ez77_60, ez77_61, ez77_62, ez77_65, ez77_68, ez77_69, sp_SC_isCarrier, tl_s, bI_eq0, KL_1, hc, h, f0]
def cl_now (S : hs_S) (n : Nat) (w : Int32) : Int32 × hs_S :=
  if w = 0 then (S.1 11 4, S) else if w = 1 then (hT (S.1 11 4), S) else if w = 2 then (S.1 11 5, S)
  else if w = 3 then (smF (fun i => S.1 (15 + i) 2) n, S) else if w = 4 then (smF (fun i => S.1 (15 + i) 5) n, S)
  else if w = 5 then (orF (fun i => decide (0 < S.1 (15 + i) 2)) n, S) else if w = 6 then (orF (fun i => decide (0 < S.2.1 12 i)) 16, S)
  else (-1000000001, fdS S 0)
theorem sp_SC_now (d : Nat) (S : hs_S) (n : Nat) (w : Int32) (hn : n ≤ 8) (hc : S.1 11 3 = nI n) (hx : 0 ≤ S.1 11 4) : sx_call (d + 3) 79 [.ref 1, .int w] (hp S) = o1 (cl_now S n w) := by
  rw [cz79]
  have f0 := sp_SC_finding (d + 1) S 0 (-1000000001) (by decide) (by decide)
  unfold cl_now o1
  by_cases h0 : w = 0
  · subst h0
    simp [ez79_0, ez79_1, ez79_44, ez79_45, ez79_48, ez79_51, ez79_52, ez79_53, ez79_56, ez79_59, ez79_62, ez79_63, ez79_64, ez79_67, ez79_70, ez79_71, ez79_72, ez79_75, ez79_78, ez79_79, ez79_80, ez79_83, ez79_86, ez79_87, ez79_88, ez79_91, ez79_94, ez79_95, ez79_96, ez79_99, ez79_102, ez79_103, ez79_104, ez79_106, ez79_109, GF_1_1, GF_11_4]
  · by_cases h1 : w = 1
    · subst h1
      simp [ez79_0, ez79_1, ez79_44, ez79_45, ez79_48, ez79_51, ez79_52, ez79_53, ez79_56, ez79_59, ez79_62, ez79_63, ez79_64, ez79_67, ez79_70, ez79_71, ez79_72, ez79_75, ez79_78, ez79_79, ez79_80, ez79_83, ez79_86, ez79_87, ez79_88, ez79_91, ez79_94, ez79_95, ez79_96, ez79_99, ez79_102, ez79_103, ez79_104, ez79_106, ez79_109, GF_1_1, GF_11_4, tl_s, sp_heatAt d _ _ hx]
    · by_cases h2 : w = 2
      · subst h2
        simp [ez79_0, ez79_1, ez79_44, ez79_45, ez79_48, ez79_51, ez79_52, ez79_53, ez79_56, ez79_59, ez79_62, ez79_63, ez79_64, ez79_67, ez79_70, ez79_71, ez79_72, ez79_75, ez79_78, ez79_79, ez79_80, ez79_83, ez79_86, ez79_87, ez79_88, ez79_91, ez79_94, ez79_95, ez79_96, ez79_99, ez79_102, ez79_103, ez79_104, ez79_106, ez79_109, GF_1_1, GF_11_5]
      · by_cases h3 : w = 3
        · subst h3
          simp [ez79_0, ez79_1, ez79_44, ez79_45, ez79_48, ez79_51, ez79_52, ez79_53, ez79_56, ez79_59, ez79_62, ez79_63, ez79_64, ez79_67, ez79_70, ez79_71, ez79_72, ez79_75, ez79_78, ez79_79, ez79_80, ez79_83, ez79_86, ez79_87, ez79_88, ez79_91, ez79_94, ez79_95, ez79_96, ez79_99, ez79_102, ez79_103, ez79_104, ez79_106, ez79_109, GF_1_1, KL_11, tl_s, sp_Land_shadeOfAll (d + 1) S n hn hc]
        · by_cases h4 : w = 4
          · subst h4
            simp [ez79_0, ez79_1, ez79_44, ez79_45, ez79_48, ez79_51, ez79_52, ez79_53, ez79_56, ez79_59, ez79_62, ez79_63, ez79_64, ez79_67, ez79_70, ez79_71, ez79_72, ez79_75, ez79_78, ez79_79, ez79_80, ez79_83, ez79_86, ez79_87, ez79_88, ez79_91, ez79_94, ez79_95, ez79_96, ez79_99, ez79_102, ez79_103, ez79_104, ez79_106, ez79_109, GF_1_1, KL_11, tl_s, sp_Land_cashOfAll (d + 1) S n hn hc]
          · by_cases h5 : w = 5
            · subst h5
              simp [ez79_0, ez79_1, ez79_44, ez79_45, ez79_48, ez79_51, ez79_52, ez79_53, ez79_56, ez79_59, ez79_62, ez79_63, ez79_64, ez79_67, ez79_70, ez79_71, ez79_72, ez79_75, ez79_78, ez79_79, ez79_80, ez79_83, ez79_86, ez79_87, ez79_88, ez79_91, ez79_94, ez79_95, ez79_96, ez79_99, ez79_102, ez79_103, ez79_104, ez79_106, ez79_109, GF_1_1, KL_11, tl_s, sp_Land_withShade (d + 1) S n hn hc]
            · by_cases h6 : w = 6
              · subst h6
                simp [ez79_0, ez79_1, ez79_44, ez79_45, ez79_48, ez79_51, ez79_52, ez79_53, ez79_56, ez79_59, ez79_62, ez79_63, ez79_64, ez79_67, ez79_70, ez79_71, ez79_72, ez79_75, ez79_78, ez79_79, ez79_80, ez79_83, ez79_86, ez79_87, ez79_88, ez79_91, ez79_94, ez79_95, ez79_96, ez79_99, ez79_102, ez79_103, ez79_104, ez79_106, ez79_109, GF_1_1, KL_11, tl_s, sp_Land_withPost (d + 1) S]
              · simp [ez79_0, ez79_1, ez79_44, ez79_45, ez79_48, ez79_51, ez79_52, ez79_53, ez79_56, ez79_59, ez79_62, ez79_63, ez79_64, ez79_67, ez79_70, ez79_71, ez79_72, ez79_75, ez79_78, ez79_79, ez79_80, ez79_83, ez79_86, ez79_87, ez79_88, ez79_91, ez79_94, ez79_95, ez79_96, ez79_99, ez79_102, ez79_103, ez79_104, ez79_106, ez79_109, h0, h1, h2, h3, h4, h5, h6, tl_s, f0, KL_1]
