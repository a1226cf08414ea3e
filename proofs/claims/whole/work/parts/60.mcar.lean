/-! THE MODEL: carriers -/
def zrR (r : Nat → Int32) (m : Nat) : Nat → Nat → Int32
  | 0 => r
  | j + 1 => upd (zrR r m j) (35 + 6 * m + j) 0
theorem zrR_0 (r : Nat → Int32) (m : Nat) : ∀ j, zrR r m j 0 = r 0
  | 0 => rfl
  | j + 1 => by
    unfold zrR upd
    rw [if_neg (by omega)]
    exact zrR_0 r m j
def adR (r : Nat → Int32) (m : Nat) (k pl : Int32) : Nat → Int32 := upd (upd (upd (upd (zrR r m 6) (35 + 6 * m + 0) k) (35 + 6 * m + 1) pl) (35 + 6 * m + 2) 20) 0 (nI (m + 1))
theorem adds_loop (d : Nat) (S : hs_S) (m : Nat) (hm : m < 8) (l1 l2 : Option Value) (R : Option sx_R) (hR : ∀ l4, sx_run (d + 1) 136 (35, [some (.ref 61), l1, l2, some (.int (nI m)), l4], [], hp (uI S 62 (zrR (S.2.1 62) m 6))) = R) : ∀ e j, j + e = 6 → sx_run (d + 1) 136 (10, [some (.ref 61), l1, l2, some (.int (nI m)), some (.int (nI j))], [], hp (uI S 62 (zrR (S.2.1 62) m j))) = R := by
  intro e
  induction e with
  | zero =>
    intro j hj
    have e6 : j = 6 := by omega
    subst e6
    rw [ez136_10]
    simp only [ez136_12, ez136_14, if_pos (show (6 : Int32) ≤ nI 6 by decide)]
    exact hR _
  | succ e ih =>
    intro j hj
    have g : ¬ (6 : Int32) ≤ nI j := nI_ge (b := 6) (show j < 6 by omega) (by omega)
    rw [ez136_10]
    simp only [ez136_12, ez136_14, ez136_17, ez136_18, ez136_21, ez136_22, ez136_24, ez136_27, ez136_28, ez136_29, ez136_32, if_neg g, GF_61_0, Option.bind_some, tl_s, tl_n, bI_eq0, if_true, if_false, not_true, not_false_iff, and_self, Bool.false_eq_true, sp_M_spotOf, PI_62, in_nI (show 35 + 6 * m + j < 83 by omega) (by decide), nI_clamp (show 35 + 6 * m + j < 2 ^ 31 by omega), uI_at, uI_uI, nI_1]
    exact ih (j + 1) (by omega)
theorem sp_M_adds (d : Nat) (S : hs_S) (m : Nat) (k pl : Int32) (hm : m < 8) (hr : S.2.1 62 0 = nI m) : sx_call (d + 2) 136 [.ref 61, .int k, .int pl] (hp S) = some (some (.int (nI m)), hp (uI S 62 (adR (S.2.1 62) m k pl))) := by
  rw [cz136]
  have l := adds_loop d S m hm (some (.int k)) (some (.int pl)) (some (some (.int (nI m)), hp (uI S 62 (adR (S.2.1 62) m k pl)))) (fun l4 => by
    have z0 : ∀ a b c e f g : Int32, upd (upd (upd (zrR (S.2.1 62) m 6) (35 + 6 * m + 0) a) (35 + 6 * m + 1) b) (35 + 6 * m + 2) c 0 = nI m := by
      intro a b c e f g
      unfold upd
      rw [if_neg (by omega), if_neg (by omega), if_neg (by omega), zrR_0]
      exact hr
    simp only [ez136_35, ez136_36, ez136_39, ez136_40, ez136_41, ez136_44, ez136_45, ez136_46, ez136_47, ez136_50, ez136_51, ez136_52, ez136_55, ez136_56, ez136_57, ez136_58, ez136_61, ez136_62, ez136_63, ez136_66, ez136_68, ez136_69, ez136_70, ez136_73, ez136_74, ez136_75, ez136_76, ez136_77, ez136_78, ez136_79, ez136_80, GF_61_0, Option.bind_some, tl_s, tl_n, bI_eq0, if_true, if_false, not_true, not_false_iff, and_self, Bool.false_eq_true, sp_M_spot0, sp_M_spot1, sp_M_spot2, PI_62, GI_62, in_nI (show 35 + 6 * m + 0 < 83 by omega) (by decide), in_nI (show 35 + 6 * m + 1 < 83 by omega) (by decide), in_nI (show 35 + 6 * m + 2 < 83 by omega) (by decide), nI_clamp (show 35 + 6 * m + 0 < 2 ^ 31 by omega), nI_clamp (show 35 + 6 * m + 1 < 2 ^ 31 by omega), nI_clamp (show 35 + 6 * m + 2 < 2 ^ 31 by omega), uI_at, uI_uI, c83_0, cl_0, z0 k pl 20 0 0 0, nI_1]
    rfl) 6 0 (by omega)
  have e0 : uI S 62 (zrR (S.2.1 62) m 0) = S := uI_self S 62
  rw [e0] at l
  simp only [ez136_0, ez136_1, ez136_4, ez136_5, ez136_6, ez136_7, ez136_8, GF_61_0, Option.bind_some, tl_s, tl_n, bI_eq0, if_true, if_false, not_true, not_false_iff, and_self, Bool.false_eq_true, GI_62, c83_0, cl_0, hr]
  exact l
def ml_carrier (S : hs_S) (n : Nat) (k p : Int32) : Int32 × hs_S :=
  if (0 ≤ k ∧ k < 6) ∧ (0 ≤ p ∧ p < 16) then
    if 8 ≤ n then (-1000000002, fdM S 1) else (nI n, uI S 62 (adR (S.2.1 62) n k p))
  else (-1000000001, fdM S 0)
theorem sp_M_carrier (d : Nat) (S : hs_S) (n : Nat) (k p : Int32) (hn : n ≤ 8) (hr : S.2.1 62 0 = nI n) : sx_call (d + 3) 137 [.ref 61, .int k, .int p] (hp S) = o1 (ml_carrier S n k p) := by
  rw [cz137]
  have f0 := sp_M_finds (d + 1) S 0 (-1000000001) (by decide) (by decide)
  have f1 := sp_M_finds (d + 1) S 1 (-1000000002) (by decide) (by decide)
  unfold ml_carrier o1
  by_cases h : 0 ≤ k ∧ k < 6
  · by_cases h2 : 0 ≤ p ∧ p < 16
    · by_cases h8 : 8 ≤ n
      · have e8 : n = 8 := by omega
        subst e8
        have n8 : nI 8 = (8 : Int32) := rfl
        simp [ez137_0, ez137_1, ez137_4, ez137_7, ez137_8, ez137_11, ez137_14, ez137_15, ez137_17, ez137_20, ez137_21, ez137_22, ez137_25, ez137_26, ez137_27, ez137_29, ez137_32, ez137_33, ez137_35, ez137_38, ez137_41, ez137_42, ez137_43, ez137_44, ez137_47, sp_M_isPlace, sp_M_isKind, tl_s, bI_eq0, h, h2, GF_61_0, KL_61, GI_62, c83_0, cl_0, hr, n8, f1]
      · have ne8 : ¬ nI n = (8 : Int32) := fun z => h8 (by have := (nI_eq (b := 8) (show n < 2 ^ 31 by omega) (by omega)).mp z; omega)
        simp [ez137_0, ez137_1, ez137_4, ez137_7, ez137_8, ez137_11, ez137_14, ez137_15, ez137_17, ez137_20, ez137_21, ez137_22, ez137_25, ez137_26, ez137_27, ez137_29, ez137_32, ez137_33, ez137_35, ez137_38, ez137_41, ez137_42, ez137_43, ez137_44, ez137_47, sp_M_isPlace, sp_M_isKind, tl_s, bI_eq0, h, h2, h8, GF_61_0, KL_61, GI_62, c83_0, cl_0, hr, ne8, sp_M_adds d S n k p (by omega) hr]
    · simp [ez137_0, ez137_1, ez137_4, ez137_7, ez137_8, ez137_11, ez137_14, ez137_15, ez137_17, ez137_20, ez137_21, ez137_22, ez137_25, ez137_26, ez137_27, ez137_29, ez137_32, ez137_33, ez137_35, ez137_38, ez137_41, ez137_42, ez137_43, ez137_44, ez137_47, sp_M_isPlace, sp_M_isKind, tl_s, bI_eq0, h, h2, f0, KL_61]
  · simp [ez137_0, ez137_1, ez137_4, ez137_7, ez137_8, ez137_11, ez137_14, ez137_15, ez137_17, ez137_20, ez137_21, ez137_22, ez137_25, ez137_26, ez137_27, ez137_29, ez137_32, ez137_33, ez137_35, ez137_38, ez137_41, ez137_42, ez137_43, ez137_44, ez137_47, sp_M_isKind, tl_s, bI_eq0, h, f0, KL_61]
def ml_of (S : hs_S) (n : Nat) (K P : Nat → Nat) (c w : Int32) : Int32 × hs_S :=
  if 0 ≤ c ∧ c < nI n then
    if 0 ≤ w ∧ w ≤ 9 then
      (if w = 6 then coolF (K c.toNatClampNeg) (S.2.1 62 (35 + 6 * c.toNatClampNeg + 2)) (S.2.1 62 (35 + 6 * c.toNatClampNeg + 4)) (S.2.1 62 1)
       else if w = 7 then fadeF (K c.toNatClampNeg) (S.2.1 62 (35 + 6 * c.toNatClampNeg + 4)) (hT (S.2.1 62 1))
       else if w = 8 then worthF (K c.toNatClampNeg) (S.2.1 62 (35 + 6 * c.toNatClampNeg + 2)) (S.2.1 62 (35 + 6 * c.toNatClampNeg + 4)) (S.2.1 62 (19 + P c.toNatClampNeg))
       else if w = 9 then bI (fmB (S.2.1 62 2) (S.2.1 62 (3 + P c.toNatClampNeg)) (K c.toNatClampNeg) (S.2.1 62 (35 + 6 * c.toNatClampNeg + 2)) (S.2.1 62 (35 + 6 * c.toNatClampNeg + 3)) (S.2.1 62 (35 + 6 * c.toNatClampNeg + 4)) (S.2.1 62 1) = true)
       else S.2.1 62 (35 + 6 * c.toNatClampNeg + w.toNatClampNeg), S)
    else (-1000000001, fdM S 0)
  else (-1000000001, fdM S 0)
theorem n9_of {w : Int32} (h : 0 ≤ w ∧ w ≤ 9) : ∃ q, q ≤ 9 ∧ w = nI q := by
  obtain ⟨m, hm, rfl⟩ := nI_of (Int32.not_lt.mpr h.1)
  exact ⟨m, Nat.le_of_not_lt fun z => nI_ge (a := 9) z (by omega) h.2, rfl⟩
theorem sp_M_of (d : Nat) (S : hs_S) (n : Nat) (K P : Nat → Nat) (c w : Int32) (hn : n ≤ 8) (hr : S.2.1 62 0 = nI n) (hc : ∀ m, m < n → rC (S.2.1 62) m (K m) (P m)) : sx_call (d + 6) 145 [.ref 61, .int c, .int w] (hp S) = o1 (ml_of S n K P c w) := by
  rw [cz145]
  have f0 := sp_M_finds (d + 4) S 0 (-1000000001) (by decide) (by decide)
  unfold ml_of o1
  by_cases h : 0 ≤ c ∧ c < nI n
  · by_cases h2 : 0 ≤ w ∧ w ≤ 9
    · rw [if_pos h, if_pos h2]
      obtain ⟨m, hm, rfl⟩ := car_of hn h
      obtain ⟨q, hq, rfl⟩ := n9_of h2
      rw [nI_clamp (show m < 2 ^ 31 by omega), nI_clamp (show q < 2 ^ 31 by omega)]
      have C := hc m hm
      have isc := sp_M_isCarrier (d + 3) S n (nI m) hn hr
      have inn := fun x => sp_M_in (d + 4) x 0 9 (hp S)
      by_cases h6 : q = 6
      · subst h6
        simp only [ez145_0, ez145_1, ez145_2, ez145_5, ez145_8, ez145_9, ez145_10, ez145_11, ez145_14, ez145_17, ez145_20, ez145_21, ez145_23, ez145_26, ez145_27, ez145_28, ez145_60, ez145_61, ez145_62, ez145_63, ez145_64, ez145_65, ez145_68, ez145_69, ez145_72, ez145_73, ez145_74, ez145_77, ez145_78, ez145_79, ez145_80, ez145_81, ez145_84, ez145_85, ez145_86, ez145_89, ez145_90, ez145_91, ez145_92, ez145_95, ez145_96, ez145_97, ez145_98, ez145_101, ez145_104, ez145_105, ez145_108, ez145_109, ez145_110, ez145_111, ez145_112, ez145_113, ez145_116, isc, inn, wl_0, wl_1, wl_2, wl_m1, wl_97, wl_48, wu_1, wu_3, wu_4, wu_5, wu_6, wu_9, wu_15, wu_48, wu_57, wu_60, wu_99, wu_122, wu_99999, wu_999999, Option.bind_some, tl_s, tl_n, bI_eq0, if_true, if_false, not_true, not_false_iff, and_self, Bool.false_eq_true, KL_61, h, h2, if_true, if_pos (show nI 6 = (6 : Int32) from rfl), sp_M_its2 _ S m (show m < 8 by omega), GF_61_0, GI_62, c83_1, cl_1, sp_M_coolOf _ S m (K m) _ _ (show m < 8 by omega) C.1.1 C.1.2]
      · by_cases h7 : q = 7
        · subst h7
          simp only [ez145_0, ez145_1, ez145_2, ez145_5, ez145_8, ez145_9, ez145_10, ez145_11, ez145_14, ez145_17, ez145_20, ez145_21, ez145_23, ez145_26, ez145_27, ez145_28, ez145_60, ez145_61, ez145_62, ez145_63, ez145_64, ez145_65, ez145_68, ez145_69, ez145_72, ez145_73, ez145_74, ez145_77, ez145_78, ez145_79, ez145_80, ez145_81, ez145_84, ez145_85, ez145_86, ez145_89, ez145_90, ez145_91, ez145_92, ez145_95, ez145_96, ez145_97, ez145_98, ez145_101, ez145_104, ez145_105, ez145_108, ez145_109, ez145_110, ez145_111, ez145_112, ez145_113, ez145_116, isc, inn, wl_0, wl_1, wl_2, wl_m1, wl_97, wl_48, wu_1, wu_3, wu_4, wu_5, wu_6, wu_9, wu_15, wu_48, wu_57, wu_60, wu_99, wu_122, wu_99999, wu_999999, Option.bind_some, tl_s, tl_n, bI_eq0, if_true, if_false, not_true, not_false_iff, and_self, Bool.false_eq_true, KL_61, h, h2, if_true, if_neg (show ¬ nI 7 = (6 : Int32) by decide), if_pos (show nI 7 = (7 : Int32) from rfl), GF_61_0, GI_62, c83_1, cl_1, sp_M_fadesOf _ S m (K m) _ (show m < 8 by omega) C.1.1 C.1.2]
        · by_cases h8 : q = 8
          · subst h8
            simp only [ez145_0, ez145_1, ez145_2, ez145_5, ez145_8, ez145_9, ez145_10, ez145_11, ez145_14, ez145_17, ez145_20, ez145_21, ez145_23, ez145_26, ez145_27, ez145_28, ez145_60, ez145_61, ez145_62, ez145_63, ez145_64, ez145_65, ez145_68, ez145_69, ez145_72, ez145_73, ez145_74, ez145_77, ez145_78, ez145_79, ez145_80, ez145_81, ez145_84, ez145_85, ez145_86, ez145_89, ez145_90, ez145_91, ez145_92, ez145_95, ez145_96, ez145_97, ez145_98, ez145_101, ez145_104, ez145_105, ez145_108, ez145_109, ez145_110, ez145_111, ez145_112, ez145_113, ez145_116, isc, inn, wl_0, wl_1, wl_2, wl_m1, wl_97, wl_48, wu_1, wu_3, wu_4, wu_5, wu_6, wu_9, wu_15, wu_48, wu_57, wu_60, wu_99, wu_122, wu_99999, wu_999999, Option.bind_some, tl_s, tl_n, bI_eq0, if_true, if_false, not_true, not_false_iff, and_self, Bool.false_eq_true, KL_61, h, h2, if_true, if_neg (show ¬ nI 8 = (6 : Int32) by decide), if_neg (show ¬ nI 8 = (7 : Int32) by decide), if_pos (show nI 8 = (8 : Int32) from rfl), sp_M_valueNow _ S m (K m) (P m) (show m < 8 by omega) C]
          · by_cases h9 : q = 9
            · subst h9
              by_cases hB : fmB (S.2.1 62 2) (S.2.1 62 (3 + P m)) (K m) (S.2.1 62 (35 + 6 * m + 2)) (S.2.1 62 (35 + 6 * m + 3)) (S.2.1 62 (35 + 6 * m + 4)) (S.2.1 62 1) = true
              · simp only [ez145_0, ez145_1, ez145_2, ez145_5, ez145_8, ez145_9, ez145_10, ez145_11, ez145_14, ez145_17, ez145_20, ez145_21, ez145_23, ez145_26, ez145_27, ez145_28, ez145_60, ez145_61, ez145_62, ez145_63, ez145_64, ez145_65, ez145_68, ez145_69, ez145_72, ez145_73, ez145_74, ez145_77, ez145_78, ez145_79, ez145_80, ez145_81, ez145_84, ez145_85, ez145_86, ez145_89, ez145_90, ez145_91, ez145_92, ez145_95, ez145_96, ez145_97, ez145_98, ez145_101, ez145_104, ez145_105, ez145_108, ez145_109, ez145_110, ez145_111, ez145_112, ez145_113, ez145_116, isc, inn, wl_0, wl_1, wl_2, wl_m1, wl_97, wl_48, wu_1, wu_3, wu_4, wu_5, wu_6, wu_9, wu_15, wu_48, wu_57, wu_60, wu_99, wu_122, wu_99999, wu_999999, Option.bind_some, tl_s, tl_n, bI_eq0, if_true, if_false, not_true, not_false_iff, and_self, Bool.false_eq_true, KL_61, h, h2, if_true, if_neg (show ¬ nI 9 = (6 : Int32) by decide), if_neg (show ¬ nI 9 = (7 : Int32) by decide), if_neg (show ¬ nI 9 = (8 : Int32) by decide), if_pos (show nI 9 = (9 : Int32) from rfl), sp_M_isFoundNow _ S m (K m) (P m) (show m < 8 by omega) C, hB]
                rfl
              · simp only [ez145_0, ez145_1, ez145_2, ez145_5, ez145_8, ez145_9, ez145_10, ez145_11, ez145_14, ez145_17, ez145_20, ez145_21, ez145_23, ez145_26, ez145_27, ez145_28, ez145_60, ez145_61, ez145_62, ez145_63, ez145_64, ez145_65, ez145_68, ez145_69, ez145_72, ez145_73, ez145_74, ez145_77, ez145_78, ez145_79, ez145_80, ez145_81, ez145_84, ez145_85, ez145_86, ez145_89, ez145_90, ez145_91, ez145_92, ez145_95, ez145_96, ez145_97, ez145_98, ez145_101, ez145_104, ez145_105, ez145_108, ez145_109, ez145_110, ez145_111, ez145_112, ez145_113, ez145_116, isc, inn, wl_0, wl_1, wl_2, wl_m1, wl_97, wl_48, wu_1, wu_3, wu_4, wu_5, wu_6, wu_9, wu_15, wu_48, wu_57, wu_60, wu_99, wu_122, wu_99999, wu_999999, Option.bind_some, tl_s, tl_n, bI_eq0, if_true, if_false, not_true, not_false_iff, and_self, Bool.false_eq_true, KL_61, h, h2, if_true, if_neg (show ¬ nI 9 = (6 : Int32) by decide), if_neg (show ¬ nI 9 = (7 : Int32) by decide), if_neg (show ¬ nI 9 = (8 : Int32) by decide), if_pos (show nI 9 = (9 : Int32) from rfl), sp_M_isFoundNow _ S m (K m) (P m) (show m < 8 by omega) C, hB]
                rfl
            · have n6 : ¬ nI q = (6 : Int32) := fun z => h6 ((nI_eq (b := 6) (by omega) (by omega)).mp z)
              have n7 : ¬ nI q = (7 : Int32) := fun z => h7 ((nI_eq (b := 7) (by omega) (by omega)).mp z)
              have n8 : ¬ nI q = (8 : Int32) := fun z => h8 ((nI_eq (b := 8) (by omega) (by omega)).mp z)
              have n9 : ¬ nI q = (9 : Int32) := fun z => h9 ((nI_eq (b := 9) (by omega) (by omega)).mp z)
              simp only [ez145_0, ez145_1, ez145_2, ez145_5, ez145_8, ez145_9, ez145_10, ez145_11, ez145_14, ez145_17, ez145_20, ez145_21, ez145_23, ez145_26, ez145_27, ez145_28, ez145_60, ez145_61, ez145_62, ez145_63, ez145_64, ez145_65, ez145_68, ez145_69, ez145_72, ez145_73, ez145_74, ez145_77, ez145_78, ez145_79, ez145_80, ez145_81, ez145_84, ez145_85, ez145_86, ez145_89, ez145_90, ez145_91, ez145_92, ez145_95, ez145_96, ez145_97, ez145_98, ez145_101, ez145_104, ez145_105, ez145_108, ez145_109, ez145_110, ez145_111, ez145_112, ez145_113, ez145_116, isc, inn, wl_0, wl_1, wl_2, wl_m1, wl_97, wl_48, wu_1, wu_3, wu_4, wu_5, wu_6, wu_9, wu_15, wu_48, wu_57, wu_60, wu_99, wu_122, wu_99999, wu_999999, Option.bind_some, tl_s, tl_n, bI_eq0, if_true, if_false, not_true, not_false_iff, and_self, Bool.false_eq_true, KL_61, h, h2, if_true, if_neg n6, if_neg n7, if_neg n8, if_neg n9, sp_M_its _ S m q (show m < 8 by omega) (show q < 6 by omega)]
    · rw [if_pos h, if_neg h2]
      simp [ez145_0, ez145_1, ez145_2, ez145_5, ez145_8, ez145_9, ez145_10, ez145_11, ez145_14, ez145_17, ez145_20, ez145_21, ez145_23, ez145_26, ez145_27, ez145_28, ez145_60, ez145_61, ez145_62, ez145_63, ez145_64, ez145_65, ez145_68, ez145_69, ez145_72, ez145_73, ez145_74, ez145_77, ez145_78, ez145_79, ez145_80, ez145_81, ez145_84, ez145_85, ez145_86, ez145_89, ez145_90, ez145_91, ez145_92, ez145_95, ez145_96, ez145_97, ez145_98, ez145_101, ez145_104, ez145_105, ez145_108, ez145_109, ez145_110, ez145_111, ez145_112, ez145_113, ez145_116, sp_M_isCarrier (d + 3) S n c hn hr, sp_M_in, wl_0, wl_1, wl_2, wl_m1, wl_97, wl_48, wu_1, wu_3, wu_4, wu_5, wu_6, wu_9, wu_15, wu_48, wu_57, wu_60, wu_99, wu_122, wu_99999, wu_999999, tl_s, bI_eq0, h, h2, KL_61, f0]
  · rw [if_neg h]
    simp [ez145_0, ez145_1, ez145_2, ez145_5, ez145_8, ez145_9, ez145_10, ez145_11, ez145_14, ez145_17, ez145_20, ez145_21, ez145_23, ez145_26, ez145_27, ez145_28, ez145_60, ez145_61, ez145_62, ez145_63, ez145_64, ez145_65, ez145_68, ez145_69, ez145_72, ez145_73, ez145_74, ez145_77, ez145_78, ez145_79, ez145_80, ez145_81, ez145_84, ez145_85, ez145_86, ez145_89, ez145_90, ez145_91, ez145_92, ez145_95, ez145_96, ez145_97, ez145_98, ez145_101, ez145_104, ez145_105, ez145_108, ez145_109, ez145_110, ez145_111, ez145_112, ez145_113, ez145_116, sp_M_isCarrier (d + 3) S n c hn hr, tl_s, bI_eq0, h, KL_61, f0]
def ml_set (S : hs_S) (n : Nat) (c w v : Int32) : Int32 × hs_S :=
  if (0 ≤ c ∧ c < nI n) ∧ mbF w v = true then (S.2.1 62 (35 + 6 * c.toNatClampNeg + w.toNatClampNeg), uI S 62 (upd (S.2.1 62) (35 + 6 * c.toNatClampNeg + w.toNatClampNeg) v)) else (-1000000001, fdM S 0)
theorem four2 {w : Int32} (h : 2 ≤ w ∧ w ≤ 5) : w = 2 ∨ w = 3 ∨ w = 4 ∨ w = 5 := by
  obtain ⟨m, hm, rfl⟩ := nI_of (Int32.not_lt.mpr (Int32.le_trans (show (0 : Int32) ≤ 2 by decide) h.1))
  have m5 : m ≤ 5 := Nat.le_of_not_lt fun y => nI_ge (a := 5) y (by omega) h.2
  have m2 : 2 ≤ m := Nat.le_of_not_lt fun y => nI_ge (b := 2) y (by omega) h.1
  rcases (show m = 2 ∨ m = 3 ∨ m = 4 ∨ m = 5 by omega) with rfl | rfl | rfl | rfl <;> decide
theorem set_key (d : Nat) (S : hs_S) (n : Nat) (c w v : Int32) (hn : n ≤ 8) (hr : S.2.1 62 0 = nI n) (b : Bool) (hb : b = mbF w v) : sx_run (d + 3) 146 (53, [some (.ref 61), some (.int c), some (.int w), some (.int v), none], [.int (bI (b = true))], hp S) = o1 (ml_set S n c w v) := by
  have f0 := sp_M_finds (d + 2) S 0 (-1000000001) (by decide) (by decide)
  subst hb
  unfold ml_set o1
  by_cases h : 0 ≤ c ∧ c < nI n
  · by_cases h2 : mbF w v = true
    · obtain ⟨m, hm, rfl⟩ := car_of hn h
      have bc := fun i hi => sp_M_becomes (d + 2) S i v hi
      rcases mbF_w h2 with rfl | rfl | rfl | rfl
      · simp [ez146_53, ez146_55, ez146_56, ez146_57, ez146_60, ez146_63, ez146_65, ez146_68, ez146_69, ez146_70, ez146_71, ez146_74, ez146_75, ez146_78, ez146_81, ez146_82, ez146_84, ez146_87, sp_M_isCarrier (d + 1) S n _ hn hr, tl_s, bI_eq0, h, h2, KL_61, sp_M_spot2, bc (35 + 6 * m + 2) (by omega), nI_clamp (show m < 2 ^ 31 by omega)]
      · simp [ez146_53, ez146_55, ez146_56, ez146_57, ez146_60, ez146_63, ez146_65, ez146_68, ez146_69, ez146_70, ez146_71, ez146_74, ez146_75, ez146_78, ez146_81, ez146_82, ez146_84, ez146_87, sp_M_isCarrier (d + 1) S n _ hn hr, tl_s, bI_eq0, h, h2, KL_61, sp_M_spot3, bc (35 + 6 * m + 3) (by omega), nI_clamp (show m < 2 ^ 31 by omega)]
      · simp [ez146_53, ez146_55, ez146_56, ez146_57, ez146_60, ez146_63, ez146_65, ez146_68, ez146_69, ez146_70, ez146_71, ez146_74, ez146_75, ez146_78, ez146_81, ez146_82, ez146_84, ez146_87, sp_M_isCarrier (d + 1) S n _ hn hr, tl_s, bI_eq0, h, h2, KL_61, sp_M_spot4, bc (35 + 6 * m + 4) (by omega), nI_clamp (show m < 2 ^ 31 by omega)]
      · simp [ez146_53, ez146_55, ez146_56, ez146_57, ez146_60, ez146_63, ez146_65, ez146_68, ez146_69, ez146_70, ez146_71, ez146_74, ez146_75, ez146_78, ez146_81, ez146_82, ez146_84, ez146_87, sp_M_isCarrier (d + 1) S n _ hn hr, tl_s, bI_eq0, h, h2, KL_61, sp_M_spot5, bc (35 + 6 * m + 5) (by omega), nI_clamp (show m < 2 ^ 31 by omega)]
    · simp [ez146_53, ez146_55, ez146_56, ez146_57, ez146_60, ez146_63, ez146_65, ez146_68, ez146_69, ez146_70, ez146_71, ez146_74, ez146_75, ez146_78, ez146_81, ez146_82, ez146_84, ez146_87, sp_M_isCarrier (d + 1) S n _ hn hr, tl_s, bI_eq0, h, h2, KL_61, f0]
  · simp [ez146_53, ez146_55, ez146_56, ez146_57, ez146_60, ez146_63, ez146_65, ez146_68, ez146_69, ez146_70, ez146_71, ez146_74, ez146_75, ez146_78, ez146_81, ez146_82, ez146_84, ez146_87, sp_M_isCarrier (d + 1) S n _ hn hr, tl_s, bI_eq0, h, KL_61, f0]
theorem bI_one : bI (true = true) = 1 := rfl
theorem bI_zero : bI (false = true) = 0 := rfl
theorem sp_M_set (d : Nat) (S : hs_S) (n : Nat) (c w v : Int32) (hn : n ≤ 8) (hr : S.2.1 62 0 = nI n) : sx_call (d + 4) 146 [.ref 61, .int c, .int w, .int v] (hp S) = o1 (ml_set S n c w v) := by
  rw [cz146]
  have kt := set_key d S n c w v hn hr
  by_cases h2 : 2 ≤ w ∧ w ≤ 5
  · have key : ∀ (b : Bool), b = mbF w v → (b = true → sx_run (d + 3) 146 (0, [some (.ref 61), some (.int c), some (.int w), some (.int v), none], [], hp S) = sx_run (d + 3) 146 (53, [some (.ref 61), some (.int c), some (.int w), some (.int v), none], [.int 1], hp S)) → (¬ b = true → sx_run (d + 3) 146 (0, [some (.ref 61), some (.int c), some (.int w), some (.int v), none], [], hp S) = sx_run (d + 3) 146 (53, [some (.ref 61), some (.int c), some (.int w), some (.int v), none], [.int 0], hp S)) → sx_run (d + 3) 146 (0, [some (.ref 61), some (.int c), some (.int w), some (.int v), none], [], hp S) = o1 (ml_set S n c w v) := by
      intro b e h1 h0
      cases b with
      | true => rw [h1 rfl, ← bI_one]; exact kt true e
      | false => rw [h0 (by decide), ← bI_zero]; exact kt false e
    refine key (mbF w v) rfl (fun hb => ?_) (fun hb => ?_)
    · rcases four2 h2 with rfl | rfl | rfl | rfl
      · have hv : 0 ≤ v ∧ v ≤ 99 := of_decide_eq_true hb
        simp [ez146_0, ez146_1, ez146_2, ez146_5, ez146_8, ez146_11, ez146_14, ez146_15, ez146_16, ez146_17, ez146_18, ez146_19, ez146_22, ez146_25, ez146_28, ez146_29, ez146_30, ez146_33, ez146_36, ez146_39, ez146_42, ez146_45, ez146_48, ez146_49, ez146_52, sp_M_in, wl_0, wl_1, wl_2, wl_m1, wl_97, wl_48, wu_1, wu_3, wu_4, wu_5, wu_6, wu_9, wu_15, wu_48, wu_57, wu_60, wu_99, wu_122, wu_99999, wu_999999, tl_s, bI_eq0, hv]
      · have hv : 0 ≤ v ∧ v ≤ 9 := of_decide_eq_true hb
        simp [ez146_0, ez146_1, ez146_2, ez146_5, ez146_8, ez146_11, ez146_14, ez146_15, ez146_16, ez146_17, ez146_18, ez146_19, ez146_22, ez146_25, ez146_28, ez146_29, ez146_30, ez146_33, ez146_36, ez146_39, ez146_42, ez146_45, ez146_48, ez146_49, ez146_52, sp_M_in, wl_0, wl_1, wl_2, wl_m1, wl_97, wl_48, wu_1, wu_3, wu_4, wu_5, wu_6, wu_9, wu_15, wu_48, wu_57, wu_60, wu_99, wu_122, wu_99999, wu_999999, tl_s, bI_eq0, hv]
      · have hv : 0 ≤ v ∧ v ≤ 9 := of_decide_eq_true hb
        simp [ez146_0, ez146_1, ez146_2, ez146_5, ez146_8, ez146_11, ez146_14, ez146_15, ez146_16, ez146_17, ez146_18, ez146_19, ez146_22, ez146_25, ez146_28, ez146_29, ez146_30, ez146_33, ez146_36, ez146_39, ez146_42, ez146_45, ez146_48, ez146_49, ez146_52, sp_M_in, wl_0, wl_1, wl_2, wl_m1, wl_97, wl_48, wu_1, wu_3, wu_4, wu_5, wu_6, wu_9, wu_15, wu_48, wu_57, wu_60, wu_99, wu_122, wu_99999, wu_999999, tl_s, bI_eq0, hv]
      · have hv : 0 ≤ v ∧ v ≤ 999999 := of_decide_eq_true hb
        simp [ez146_0, ez146_1, ez146_2, ez146_5, ez146_8, ez146_11, ez146_14, ez146_15, ez146_16, ez146_17, ez146_18, ez146_19, ez146_22, ez146_25, ez146_28, ez146_29, ez146_30, ez146_33, ez146_36, ez146_39, ez146_42, ez146_45, ez146_48, ez146_49, ez146_52, sp_M_in, wl_0, wl_1, wl_2, wl_m1, wl_97, wl_48, wu_1, wu_3, wu_4, wu_5, wu_6, wu_9, wu_15, wu_48, wu_57, wu_60, wu_99, wu_122, wu_99999, wu_999999, tl_s, bI_eq0, hv]
    · rcases four2 h2 with rfl | rfl | rfl | rfl
      · have hv : ¬ (0 ≤ v ∧ v ≤ 99) := fun z => hb (decide_eq_true z)
        simp [ez146_0, ez146_1, ez146_2, ez146_5, ez146_8, ez146_11, ez146_14, ez146_15, ez146_16, ez146_17, ez146_18, ez146_19, ez146_22, ez146_25, ez146_28, ez146_29, ez146_30, ez146_33, ez146_36, ez146_39, ez146_42, ez146_45, ez146_48, ez146_49, ez146_52, sp_M_in, wl_0, wl_1, wl_2, wl_m1, wl_97, wl_48, wu_1, wu_3, wu_4, wu_5, wu_6, wu_9, wu_15, wu_48, wu_57, wu_60, wu_99, wu_122, wu_99999, wu_999999, tl_s, bI_eq0, hv]
      · have hv : ¬ (0 ≤ v ∧ v ≤ 9) := fun z => hb (decide_eq_true z)
        simp [ez146_0, ez146_1, ez146_2, ez146_5, ez146_8, ez146_11, ez146_14, ez146_15, ez146_16, ez146_17, ez146_18, ez146_19, ez146_22, ez146_25, ez146_28, ez146_29, ez146_30, ez146_33, ez146_36, ez146_39, ez146_42, ez146_45, ez146_48, ez146_49, ez146_52, sp_M_in, wl_0, wl_1, wl_2, wl_m1, wl_97, wl_48, wu_1, wu_3, wu_4, wu_5, wu_6, wu_9, wu_15, wu_48, wu_57, wu_60, wu_99, wu_122, wu_99999, wu_999999, tl_s, bI_eq0, hv]
      · have hv : ¬ (0 ≤ v ∧ v ≤ 9) := fun z => hb (decide_eq_true z)
        simp [ez146_0, ez146_1, ez146_2, ez146_5, ez146_8, ez146_11, ez146_14, ez146_15, ez146_16, ez146_17, ez146_18, ez146_19, ez146_22, ez146_25, ez146_28, ez146_29, ez146_30, ez146_33, ez146_36, ez146_39, ez146_42, ez146_45, ez146_48, ez146_49, ez146_52, sp_M_in, wl_0, wl_1, wl_2, wl_m1, wl_97, wl_48, wu_1, wu_3, wu_4, wu_5, wu_6, wu_9, wu_15, wu_48, wu_57, wu_60, wu_99, wu_122, wu_99999, wu_999999, tl_s, bI_eq0, hv]
      · have hv : ¬ (0 ≤ v ∧ v ≤ 999999) := fun z => hb (decide_eq_true z)
        simp [ez146_0, ez146_1, ez146_2, ez146_5, ez146_8, ez146_11, ez146_14, ez146_15, ez146_16, ez146_17, ez146_18, ez146_19, ez146_22, ez146_25, ez146_28, ez146_29, ez146_30, ez146_33, ez146_36, ez146_39, ez146_42, ez146_45, ez146_48, ez146_49, ez146_52, sp_M_in, wl_0, wl_1, wl_2, wl_m1, wl_97, wl_48, wu_1, wu_3, wu_4, wu_5, wu_6, wu_9, wu_15, wu_48, wu_57, wu_60, wu_99, wu_122, wu_99999, wu_999999, tl_s, bI_eq0, hv]
  · have e : mbF w v = false := ts_nt (fun z => h2 (by rcases mbF_w z with rfl | rfl | rfl | rfl <;> decide))
    have k := kt false e.symm
    rw [bI_zero] at k
    rw [← k]
    simp [ez146_0, ez146_1, ez146_2, ez146_5, ez146_8, ez146_11, ez146_14, ez146_15, ez146_16, ez146_17, ez146_18, ez146_19, ez146_22, ez146_25, ez146_28, ez146_29, ez146_30, ez146_33, ez146_36, ez146_39, ez146_42, ez146_45, ez146_48, ez146_49, ez146_52, sp_M_in, wl_0, wl_1, wl_2, wl_m1, wl_97, wl_48, wu_1, wu_3, wu_4, wu_5, wu_6, wu_9, wu_15, wu_48, wu_57, wu_60, wu_99, wu_122, wu_99999, wu_999999, tl_s, bI_eq0, h2]
def ml_turn (S : hs_S) (n : Nat) (c k : Int32) : Int32 × hs_S :=
  if (0 ≤ c ∧ c < nI n) ∧ (0 ≤ k ∧ k < 6) then (S.2.1 62 (35 + 6 * c.toNatClampNeg + 0), uI S 62 (upd (S.2.1 62) (35 + 6 * c.toNatClampNeg + 0) k)) else (-1000000001, fdM S 0)
theorem sp_M_turn (d : Nat) (S : hs_S) (n : Nat) (c k : Int32) (hn : n ≤ 8) (hr : S.2.1 62 0 = nI n) : sx_call (d + 3) 147 [.ref 61, .int c, .int k] (hp S) = o1 (ml_turn S n c k) := by
  rw [cz147]
  have f0 := sp_M_finds (d + 1) S 0 (-1000000001) (by decide) (by decide)
  unfold ml_turn o1
  by_cases h : 0 ≤ c ∧ c < nI n
  · by_cases h2 : 0 ≤ k ∧ k < 6
    · obtain ⟨m, hm, rfl⟩ := car_of hn h
      have bc := sp_M_becomes (d + 1) S (35 + 6 * m + 0) k (by omega)
      simp only [ez147_0, ez147_1, ez147_2, ez147_5, ez147_8, ez147_9, ez147_12, ez147_15, ez147_16, ez147_17, ez147_18, ez147_21, ez147_22, ez147_25, ez147_28, ez147_29, ez147_31, ez147_34, sp_M_isCarrier d S n _ hn hr, sp_M_isKind, Option.bind_some, tl_s, tl_n, bI_eq0, if_true, if_false, not_true, not_false_iff, and_self, Bool.false_eq_true, h, h2, KL_61, sp_M_spot0, bc, nI_clamp (show m < 2 ^ 31 by omega)]
    · simp [ez147_0, ez147_1, ez147_2, ez147_5, ez147_8, ez147_9, ez147_12, ez147_15, ez147_16, ez147_17, ez147_18, ez147_21, ez147_22, ez147_25, ez147_28, ez147_29, ez147_31, ez147_34, sp_M_isCarrier d S n _ hn hr, sp_M_isKind, tl_s, bI_eq0, h, h2, KL_61, f0]
  · simp [ez147_0, ez147_1, ez147_2, ez147_5, ez147_8, ez147_9, ez147_12, ez147_15, ez147_16, ez147_17, ez147_18, ez147_21, ez147_22, ez147_25, ez147_28, ez147_29, ez147_31, ez147_34, sp_M_isCarrier d S n _ hn hr, tl_s, bI_eq0, h, KL_61, f0]
theorem sp_M_isUnder (d : Nat) (h : sx_H) (k q : Nat) (hk : k < 6) (hq : q < 6) : sx_call (d + 1) 148 [.int (nI k), .int (nI q)] h = some (some (.int (bI (und k q = true))), h) := by
  rw [cz148]
  rcases lt6 hk with rfl | rfl | rfl | rfl | rfl | rfl <;> rcases lt6 hq with rfl | rfl | rfl | rfl | rfl | rfl <;> simp [ez148_0, ez148_1, ez148_4, ez148_5, ez148_6, ez148_9, ez148_10, ez148_11, ez148_14, ez148_15, ez148_16, ez148_17, ez148_18, ez148_21, ez148_22, ez148_25, ez148_26, nar_0, nar_1, und, bI, nk_0, nk_1, nk_2, nk_3, nk_4, nk_5]
def ml_as (S : hs_S) (n : Nat) (K : Nat → Nat) (c k : Int32) : Int32 × hs_S :=
  if (0 ≤ c ∧ c < nI n) ∧ (0 ≤ k ∧ k < 6) then
    if und (K c.toNatClampNeg) k.toNatClampNeg = true then (S.2.1 62 (35 + 6 * c.toNatClampNeg + 2), S) else (-1000000003, fdM S 2)
  else (-1000000001, fdM S 0)
theorem sp_M_as (d : Nat) (S : hs_S) (n : Nat) (K P : Nat → Nat) (c k : Int32) (hn : n ≤ 8) (hr : S.2.1 62 0 = nI n) (hc : ∀ m, m < n → rC (S.2.1 62) m (K m) (P m)) : sx_call (d + 3) 149 [.ref 61, .int c, .int k] (hp S) = o1 (ml_as S n K c k) := by
  rw [cz149]
  have f0 := sp_M_finds (d + 1) S 0 (-1000000001) (by decide) (by decide)
  have f2 := sp_M_finds (d + 1) S 2 (-1000000003) (by decide) (by decide)
  unfold ml_as o1
  by_cases h : 0 ≤ c ∧ c < nI n
  · by_cases h2 : 0 ≤ k ∧ k < 6
    · obtain ⟨m, hm, rfl⟩ := car_of hn h
      obtain ⟨q, hq, rfl⟩ := k6_of h2
      have C := hc m hm
      have i0 := sp_M_its0 d S m (by omega)
      rw [C.1.2] at i0
      rw [if_pos ⟨h, h2⟩, nI_clamp (show m < 2 ^ 31 by omega), nI_clamp (show q < 2 ^ 31 by omega)]
      by_cases h3 : und (K m) q = true
      · simp only [ez149_0, ez149_1, ez149_2, ez149_5, ez149_8, ez149_9, ez149_12, ez149_15, ez149_16, ez149_18, ez149_21, ez149_22, ez149_23, ez149_24, ez149_25, ez149_28, ez149_29, ez149_32, ez149_35, ez149_36, ez149_37, ez149_38, ez149_41, ez149_44, ez149_45, ez149_47, ez149_50, sp_M_isCarrier d S n _ hn hr, sp_M_isKind, Option.bind_some, tl_s, tl_n, bI_eq0, if_true, if_false, not_true, not_false_iff, and_self, Bool.false_eq_true, h, h2, KL_61, i0, sp_M_isUnder _ _ (K m) q C.1.1 hq, h3, sp_M_its2 _ S m (show m < 8 by omega)]
      · simp only [ez149_0, ez149_1, ez149_2, ez149_5, ez149_8, ez149_9, ez149_12, ez149_15, ez149_16, ez149_18, ez149_21, ez149_22, ez149_23, ez149_24, ez149_25, ez149_28, ez149_29, ez149_32, ez149_35, ez149_36, ez149_37, ez149_38, ez149_41, ez149_44, ez149_45, ez149_47, ez149_50, sp_M_isCarrier d S n _ hn hr, sp_M_isKind, Option.bind_some, tl_s, tl_n, bI_eq0, if_true, if_false, not_true, not_false_iff, and_self, Bool.false_eq_true, h, h2, KL_61, i0, sp_M_isUnder _ _ (K m) q C.1.1 hq, h3, f2]
    · simp [ez149_0, ez149_1, ez149_2, ez149_5, ez149_8, ez149_9, ez149_12, ez149_15, ez149_16, ez149_18, ez149_21, ez149_22, ez149_23, ez149_24, ez149_25, ez149_28, ez149_29, ez149_32, ez149_35, ez149_36, ez149_37, ez149_38, ez149_41, ez149_44, ez149_45, ez149_47, ez149_50, sp_M_isCarrier d S n _ hn hr, sp_M_isKind, tl_s, bI_eq0, h, h2, KL_61, f0]
  · simp [ez149_0, ez149_1, ez149_2, ez149_5, ez149_8, ez149_9, ez149_12, ez149_15, ez149_16, ez149_18, ez149_21, ez149_22, ez149_23, ez149_24, ez149_25, ez149_28, ez149_29, ez149_32, ez149_35, ez149_36, ez149_37, ez149_38, ez149_41, ez149_44, ez149_45, ez149_47, ez149_50, sp_M_isCarrier d S n _ hn hr, tl_s, bI_eq0, h, KL_61, f0]
theorem go_all : ∀ p, p < 16 → ∀ q, q < 16 → ((ntF (nI p) >>> (nI q &&& 31) &&& 1 = 0) ↔ (ntF (nI p) &&& ((1 : Int32) <<< (nI q &&& 31)) = 0)) := by decide +kernel
def ml_go (S : hs_S) (n : Nat) (P : Nat → Nat) (c p : Int32) : Int32 × hs_S :=
  if (0 ≤ c ∧ c < nI n) ∧ (0 ≤ p ∧ p < 16) then
    if ntF (nI (P c.toNatClampNeg)) &&& ((1 : Int32) <<< (p &&& 31)) = 0 then (-1000000005, fdM S 4)
    else (S.2.1 62 (35 + 6 * c.toNatClampNeg + 2), uI S 62 (upd (S.2.1 62) (35 + 6 * c.toNatClampNeg + 1) p))
  else (-1000000001, fdM S 0)
theorem sp_M_go (d : Nat) (S : hs_S) (n : Nat) (K P : Nat → Nat) (c p : Int32) (hn : n ≤ 8) (hr : S.2.1 62 0 = nI n) (hc : ∀ m, m < n → rC (S.2.1 62) m (K m) (P m)) : sx_call (d + 3) 150 [.ref 61, .int c, .int p] (hp S) = o1 (ml_go S n P c p) := by
  rw [cz150]
  have f0 := sp_M_finds (d + 1) S 0 (-1000000001) (by decide) (by decide)
  have f4 := sp_M_finds (d + 1) S 4 (-1000000005) (by decide) (by decide)
  unfold ml_go o1
  by_cases h : 0 ≤ c ∧ c < nI n
  · by_cases h2 : 0 ≤ p ∧ p < 16
    · obtain ⟨m, hm, rfl⟩ := car_of hn h
      obtain ⟨q, hq, rfl⟩ := p16_of h2
      have C := hc m hm
      have i1 := sp_M_its1 d S m (by omega)
      rw [C.2.2] at i1
      have G := go_all (P m) C.2.1 q hq
      rw [if_pos ⟨h, h2⟩, nI_clamp (show m < 2 ^ 31 by omega)]
      by_cases h3 : ntF (nI (P m)) &&& ((1 : Int32) <<< (nI q &&& 31)) = 0
      · rw [if_pos h3]
        simp only [ez150_0, ez150_1, ez150_2, ez150_5, ez150_8, ez150_9, ez150_12, ez150_15, ez150_16, ez150_18, ez150_21, ez150_22, ez150_23, ez150_24, ez150_25, ez150_28, ez150_31, ez150_32, ez150_33, ez150_34, ez150_35, ez150_38, ez150_39, ez150_41, ez150_44, ez150_45, ez150_46, ez150_49, ez150_50, ez150_51, ez150_54, ez150_55, ez150_56, ez150_57, ez150_58, ez150_59, ez150_62, sp_M_isCarrier d S n _ hn hr, sp_M_isPlace, Option.bind_some, tl_s, tl_n, bI_eq0, if_true, if_false, not_true, not_false_iff, and_self, Bool.false_eq_true, h, h2, KL_61, i1, sp_M_nextTo _ (P m) _ C.2.1, G.mpr h3, f4]
      · rw [if_neg h3]
        have g3 : ¬ (ntF (nI (P m)) >>> (nI q &&& 31) &&& 1 = 0) := fun z => h3 (G.mp z)
        have e2 : upd (S.2.1 62) (35 + 6 * m + 1) (nI q) (35 + 6 * m + 2) = S.2.1 62 (35 + 6 * m + 2) := if_neg (by omega)
        simp only [ez150_0, ez150_1, ez150_2, ez150_5, ez150_8, ez150_9, ez150_12, ez150_15, ez150_16, ez150_18, ez150_21, ez150_22, ez150_23, ez150_24, ez150_25, ez150_28, ez150_31, ez150_32, ez150_33, ez150_34, ez150_35, ez150_38, ez150_39, ez150_41, ez150_44, ez150_45, ez150_46, ez150_49, ez150_50, ez150_51, ez150_54, ez150_55, ez150_56, ez150_57, ez150_58, ez150_59, ez150_62, sp_M_isCarrier d S n _ hn hr, sp_M_isPlace, Option.bind_some, tl_s, tl_n, bI_eq0, if_true, if_false, not_true, not_false_iff, and_self, Bool.false_eq_true, h, h2, KL_61, GF_61_0, i1, sp_M_nextTo _ (P m) _ C.2.1, g3, sp_M_spot1, PI_62, in_nI (show 35 + 6 * m + 1 < 83 by omega) (by decide), nI_clamp (show 35 + 6 * m + 1 < 2 ^ 31 by omega), sp_M_its2 _ _ m (show m < 8 by omega), uI_at, e2]
    · simp [ez150_0, ez150_1, ez150_2, ez150_5, ez150_8, ez150_9, ez150_12, ez150_15, ez150_16, ez150_18, ez150_21, ez150_22, ez150_23, ez150_24, ez150_25, ez150_28, ez150_31, ez150_32, ez150_33, ez150_34, ez150_35, ez150_38, ez150_39, ez150_41, ez150_44, ez150_45, ez150_46, ez150_49, ez150_50, ez150_51, ez150_54, ez150_55, ez150_56, ez150_57, ez150_58, ez150_59, ez150_62, sp_M_isCarrier d S n _ hn hr, sp_M_isPlace, tl_s, bI_eq0, h, h2, KL_61, f0]
  · simp [ez150_0, ez150_1, ez150_2, ez150_5, ez150_8, ez150_9, ez150_12, ez150_15, ez150_16, ez150_18, ez150_21, ez150_22, ez150_23, ez150_24, ez150_25, ez150_28, ez150_31, ez150_32, ez150_33, ez150_34, ez150_35, ez150_38, ez150_39, ez150_41, ez150_44, ez150_45, ez150_46, ez150_49, ez150_50, ez150_51, ez150_54, ez150_55, ez150_56, ez150_57, ez150_58, ez150_59, ez150_62, sp_M_isCarrier d S n _ hn hr, tl_s, bI_eq0, h, KL_61, f0]
def vlN (S : hs_S) (m k p : Nat) : Int32 := worthF k (S.2.1 62 (35 + 6 * m + 2)) (S.2.1 62 (35 + 6 * m + 4)) (S.2.1 62 (19 + p))
def ml_sell (S : hs_S) (n : Nat) (K P : Nat → Nat) (c : Int32) : Int32 × hs_S :=
  if 0 ≤ c ∧ c < nI n then
    if S.2.1 62 (35 + 6 * c.toNatClampNeg + 2) = 0 then (-1000000005, fdM S 4)
    else (vlN S c.toNatClampNeg (K c.toNatClampNeg) (P c.toNatClampNeg), uI S 62 (upd (upd (S.2.1 62) (35 + 6 * c.toNatClampNeg + 5) (if S.2.1 62 (35 + 6 * c.toNatClampNeg + 5) + vlN S c.toNatClampNeg (K c.toNatClampNeg) (P c.toNatClampNeg) ≤ 999999 then S.2.1 62 (35 + 6 * c.toNatClampNeg + 5) + vlN S c.toNatClampNeg (K c.toNatClampNeg) (P c.toNatClampNeg) else 999999)) (35 + 6 * c.toNatClampNeg + 2) 0))
  else (-1000000001, fdM S 0)
theorem sp_M_sell (d : Nat) (S : hs_S) (n : Nat) (K P : Nat → Nat) (c : Int32) (hn : n ≤ 8) (hr : S.2.1 62 0 = nI n) (hc : ∀ m, m < n → rC (S.2.1 62) m (K m) (P m)) : sx_call (d + 5) 151 [.ref 61, .int c] (hp S) = o1 (ml_sell S n K P c) := by
  rw [cz151]
  have f0 := sp_M_finds (d + 3) S 0 (-1000000001) (by decide) (by decide)
  have f4 := sp_M_finds (d + 3) S 4 (-1000000005) (by decide) (by decide)
  unfold ml_sell o1
  by_cases h : 0 ≤ c ∧ c < nI n
  · obtain ⟨m, hm, rfl⟩ := car_of hn h
    have C := hc m hm
    rw [if_pos h, nI_clamp (show m < 2 ^ 31 by omega)]
    have vn : sx_call (d + 4) 144 [.ref 61, .int (nI m)] (hp S) = some (some (.int (vlN S m (K m) (P m))), hp S) := sp_M_valueNow d S m (K m) (P m) (by omega) C
    by_cases h3 : S.2.1 62 (35 + 6 * m + 2) = 0
    · rw [if_pos h3]
      simp only [ez151_0, ez151_1, ez151_2, ez151_5, ez151_8, ez151_9, ez151_11, ez151_14, ez151_15, ez151_16, ez151_17, ez151_18, ez151_21, ez151_24, ez151_25, ez151_27, ez151_30, sp_M_isCarrier (d + 2) S n _ hn hr, Option.bind_some, tl_s, tl_n, bI_eq0, if_true, if_false, not_true, not_false_iff, and_self, Bool.false_eq_true, h, KL_61, sp_M_its2 _ S m (show m < 8 by omega), h3, f4]
    · rw [if_neg h3]
      by_cases h5 : S.2.1 62 (35 + 6 * m + 5) + vlN S m (K m) (P m) ≤ 999999
      · simp only [ez151_0, ez151_1, ez151_2, ez151_5, ez151_8, ez151_9, ez151_11, ez151_14, ez151_15, ez151_16, ez151_17, ez151_18, ez151_21, ez151_24, ez151_25, ez151_27, ez151_30, ez151_31, ez151_32, ez151_33, ez151_36, ez151_37, ez151_38, ez151_39, ez151_40, ez151_43, ez151_44, ez151_45, ez151_46, ez151_47, ez151_50, ez151_51, ez151_52, ez151_55, ez151_56, ez151_58, ez151_61, ez151_63, ez151_66, ez151_67, ez151_68, ez151_69, ez151_72, ez151_73, ez151_74, ez151_77, ez151_78, ez151_79, ez151_80, sp_M_isCarrier (d + 2) S n _ hn hr, Option.bind_some, tl_s, tl_n, bI_eq0, if_true, if_false, not_true, not_false_iff, and_self, Bool.false_eq_true, h, KL_61, sp_M_its2 _ S m (show m < 8 by omega), sp_M_its5 _ S m (show m < 8 by omega), h3, vn, GF_61_0, sp_M_spot5, sp_M_spot2, h5, PI_62, in_nI (show 35 + 6 * m + 5 < 83 by omega) (by decide), in_nI (show 35 + 6 * m + 2 < 83 by omega) (by decide), nI_clamp (show 35 + 6 * m + 5 < 2 ^ 31 by omega), nI_clamp (show 35 + 6 * m + 2 < 2 ^ 31 by omega), uI_at, uI_uI]
      · simp only [ez151_0, ez151_1, ez151_2, ez151_5, ez151_8, ez151_9, ez151_11, ez151_14, ez151_15, ez151_16, ez151_17, ez151_18, ez151_21, ez151_24, ez151_25, ez151_27, ez151_30, ez151_31, ez151_32, ez151_33, ez151_36, ez151_37, ez151_38, ez151_39, ez151_40, ez151_43, ez151_44, ez151_45, ez151_46, ez151_47, ez151_50, ez151_51, ez151_52, ez151_55, ez151_56, ez151_58, ez151_61, ez151_63, ez151_66, ez151_67, ez151_68, ez151_69, ez151_72, ez151_73, ez151_74, ez151_77, ez151_78, ez151_79, ez151_80, sp_M_isCarrier (d + 2) S n _ hn hr, Option.bind_some, tl_s, tl_n, bI_eq0, if_true, if_false, not_true, not_false_iff, and_self, Bool.false_eq_true, h, KL_61, sp_M_its2 _ S m (show m < 8 by omega), sp_M_its5 _ S m (show m < 8 by omega), h3, vn, GF_61_0, sp_M_spot5, sp_M_spot2, h5, PI_62, in_nI (show 35 + 6 * m + 5 < 83 by omega) (by decide), in_nI (show 35 + 6 * m + 2 < 83 by omega) (by decide), nI_clamp (show 35 + 6 * m + 5 < 2 ^ 31 by omega), nI_clamp (show 35 + 6 * m + 2 < 2 ^ 31 by omega), uI_at, uI_uI]
  · rw [if_neg h]
    simp only [ez151_0, ez151_1, ez151_2, ez151_5, ez151_8, ez151_9, ez151_11, ez151_14, sp_M_isCarrier (d + 2) S n _ hn hr, Option.bind_some, tl_s, tl_n, bI_eq0, if_true, if_false, not_true, not_false_iff, and_self, Bool.false_eq_true, h, KL_61, f0]
