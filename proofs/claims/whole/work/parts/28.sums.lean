/-! SUMS AND SETS over the state (11) -/
def smF (f : Nat → Int32) : Nat → Int32
  | 0 => 0
  | n + 1 => smF f n + f n
def orF (p : Nat → Bool) : Nat → Int32
  | 0 => 0
  | n + 1 => if p n = true then orF p n ||| ((1 : Int32) <<< (nI n &&& 31)) else orF p n
theorem smF_s (f : Nat → Int32) (n : Nat) : smF f n + f n = smF f (n + 1) := rfl
theorem orF_t {p : Nat → Bool} {n : Nat} (h : p n = true) : orF p n ||| ((1 : Int32) <<< (nI n &&& 31)) = orF p (n + 1) := by
  show _ = (if p n = true then _ else _)
  rw [if_pos h]
theorem orF_f {p : Nat → Bool} {n : Nat} (h : ¬ p n = true) : orF p n = orF p (n + 1) := by
  show _ = (if p n = true then _ else _)
  rw [if_neg h]
theorem in16 {j : Nat} (h : j < 16) : sx_in (nI j) 16 = true := in_nI h (by decide)
theorem ge16 {j n : Nat} (hn : n = 16) (h : j < n) : ¬ (16 : Int32) ≤ nI j := by
  have e : nI 16 = 16 := by decide
  have g := nI_ge (a := j) (b := 16) (by omega) (by decide)
  rw [e] at g
  exact g
theorem le16 {j : Nat} (h : j = 16) : (16 : Int32) ≤ nI j := by
  subst h
  decide
theorem sp_Land_isFull (d : Nat) (S : hs_S) : sx_call (d + 1) 26 [.ref 11] (hp S) = some (some (.int (bI (8 ≤ S.1 11 3))), hp S) := by
  rw [cz26]
  simp only [ez26_0, ez26_1, ez26_4, ez26_6, ez26_9, ez26_10, ez26_13, ez26_14, GF_11_3, Option.bind_some, nar_0, nar_1, if_true]
  by_cases h : S.1 11 3 < 8
  · simp only [h, if_true, bI_f (Int32.not_le.mpr h)]
  · simp only [h, if_false, bI_t (Int32.not_lt.mp h)]
theorem sp_Land_worthWhereItIs (d : Nat) (S : hs_S) (a : Nat) (ha : isCar a = true) (hk : S.2.2.2 a < 6) (hp1 : sx_in (S.1 a 1) 16 = true) : sx_call (d + 3) 31 [.ref 11, .ref a] (hp S) = some (some (.int (worthF (S.2.2.2 a) (S.1 a 2) (S.1 a 4) (S.2.1 13 (S.1 a 1).toNatClampNeg))), hp S) := by
  rw [cz31]
  simp only [ez31_0, ez31_1, ez31_4, ez31_5, ez31_6, ez31_9, ez31_10, ez31_13, ez31_14, ez31_17, GF_11_1, GC_0 _ ha, GC_1 _ ha, Option.bind_some, GI_13, hp1, if_true, vd_worth (ha := ha) (hk := hk), tl_s]
theorem sp_Land_shadeOfAll (d : Nat) (S : hs_S) (n : Nat) (hn : n ≤ 8) (hc : S.1 11 3 = nI n) : sx_call (d + 1) 33 [.ref 11] (hp S) = some (some (.int (smF (fun i => S.1 (15 + i) 2) n)), hp S) := by
  have loop : ∀ m j, j + m = n → sx_run d 33 (4, [some (.ref 11), some (.int (smF (fun i => S.1 (15 + i) 2) j)), some (.int (nI j))], [], hp S) = some (some (.int (smF (fun i => S.1 (15 + i) 2) n)), hp S) := by
    intro m
    induction m with
    | zero =>
      intro j hj
      have hjn : j = n := by omega
      subst hjn
      simp only [ez33_0, ez33_1, ez33_2, ez33_3, ez33_4, ez33_5, ez33_6, ez33_9, ez33_12, ez33_13, ez33_14, ez33_17, ez33_18, ez33_19, ez33_22, ez33_23, ez33_24, ez33_27, ez33_30, ez33_31, GF_11_2, GF_11_3, hc, Option.bind_some, if_pos (nI_le (Nat.le_refl j) (by omega))]
    | succ m ih =>
      intro j hj
      have hjn : j < n := by omega
      rw [ez33_4]
      simp only [ez33_0, ez33_1, ez33_2, ez33_3, ez33_5, ez33_6, ez33_9, ez33_12, ez33_13, ez33_14, ez33_17, ez33_18, ez33_19, ez33_22, ez33_23, ez33_24, ez33_27, ez33_30, ez33_31, GF_11_2, GF_11_3, hc, Option.bind_some, if_neg (nI_ge hjn (by omega)), GQ_14 _ j (by omega), GC_2 _ (car15 (show j < 8 by omega)), nI_1]
      exact ih (j + 1) (by omega)
  rw [cz33]
  simp only [ez33_0, ez33_1, ez33_2, ez33_3]
  exact loop n 0 (by omega)
theorem sp_Land_cashOfAll (d : Nat) (S : hs_S) (n : Nat) (hn : n ≤ 8) (hc : S.1 11 3 = nI n) : sx_call (d + 1) 34 [.ref 11] (hp S) = some (some (.int (smF (fun i => S.1 (15 + i) 5) n)), hp S) := by
  have loop : ∀ m j, j + m = n → sx_run d 34 (4, [some (.ref 11), some (.int (smF (fun i => S.1 (15 + i) 5) j)), some (.int (nI j))], [], hp S) = some (some (.int (smF (fun i => S.1 (15 + i) 5) n)), hp S) := by
    intro m
    induction m with
    | zero =>
      intro j hj
      have hjn : j = n := by omega
      subst hjn
      simp only [ez34_0, ez34_1, ez34_2, ez34_3, ez34_4, ez34_5, ez34_6, ez34_9, ez34_12, ez34_13, ez34_14, ez34_17, ez34_18, ez34_19, ez34_22, ez34_23, ez34_24, ez34_27, ez34_30, ez34_31, GF_11_2, GF_11_3, hc, Option.bind_some, if_pos (nI_le (Nat.le_refl j) (by omega))]
    | succ m ih =>
      intro j hj
      have hjn : j < n := by omega
      rw [ez34_4]
      simp only [ez34_0, ez34_1, ez34_2, ez34_3, ez34_5, ez34_6, ez34_9, ez34_12, ez34_13, ez34_14, ez34_17, ez34_18, ez34_19, ez34_22, ez34_23, ez34_24, ez34_27, ez34_30, ez34_31, GF_11_2, GF_11_3, hc, Option.bind_some, if_neg (nI_ge hjn (by omega)), GQ_14 _ j (by omega), GC_5 _ (car15 (show j < 8 by omega)), nI_1]
      exact ih (j + 1) (by omega)
  rw [cz34]
  simp only [ez34_0, ez34_1, ez34_2, ez34_3]
  exact loop n 0 (by omega)
theorem sp_Land_pricesOfAll (d : Nat) (S : hs_S) : sx_call (d + 1) 37 [.ref 11] (hp S) = some (some (.int (smF (S.2.1 13) 16)), hp S) := by
  have loop : ∀ n, n = 16 → ∀ m j, j + m = n → sx_run d 37 (4, [some (.ref 11), some (.int (smF (S.2.1 13) j)), some (.int (nI j))], [], hp S) = some (some (.int (smF (S.2.1 13) n)), hp S) := by
    intro n h16 m
    induction m with
    | zero =>
      intro j hj
      have hjn : j = n := by omega
      subst hjn
      rw [ez37_4]
      simp only [ez37_0, ez37_1, ez37_2, ez37_3, ez37_5, ez37_7, ez37_10, ez37_11, ez37_12, ez37_15, ez37_16, ez37_17, ez37_18, ez37_19, ez37_22, ez37_25, ez37_26, GF_11_1, Option.bind_some, if_pos (le16 h16)]
    | succ m ih =>
      intro j hj
      have hjn : j < n := by omega
      rw [ez37_4]
      simp only [ez37_0, ez37_1, ez37_2, ez37_3, ez37_5, ez37_7, ez37_10, ez37_11, ez37_12, ez37_15, ez37_16, ez37_17, ez37_18, ez37_19, ez37_22, ez37_25, ez37_26, GF_11_1, Option.bind_some, if_neg (ge16 h16 hjn), GI_13, in16 (show j < 16 by omega), if_true, nI_clamp (show j < 2 ^ 31 by omega), nI_1]
      exact ih (j + 1) (by omega)
  rw [cz37]
  simp only [ez37_0, ez37_1, ez37_2, ez37_3]
  exact loop 16 rfl 16 0 (by omega)
theorem sp_Land_carriersAt (d : Nat) (S : hs_S) (pl : Int32) (n : Nat) (hn : n ≤ 8) (hc : S.1 11 3 = nI n) : sx_call (d + 1) 32 [.ref 11, .int pl] (hp S) = some (some (.int (orF (fun i => decide (S.1 (15 + i) 1 = pl)) n)), hp S) := by
  have loop : ∀ m j, j + m = n → sx_run d 32 (4, [some (.ref 11), some (.int pl), some (.int (orF (fun i => decide (S.1 (15 + i) 1 = pl)) j)), some (.int (nI j))], [], hp S) = some (some (.int (orF (fun i => decide (S.1 (15 + i) 1 = pl)) n)), hp S) := by
    intro m
    induction m with
    | zero =>
      intro j hj
      have hjn : j = n := by omega
      subst hjn
      simp only [ez32_0, ez32_1, ez32_2, ez32_3, ez32_4, ez32_5, ez32_6, ez32_9, ez32_12, ez32_13, ez32_16, ez32_17, ez32_18, ez32_21, ez32_22, ez32_25, ez32_26, ez32_27, ez32_28, ez32_29, ez32_30, ez32_31, ez32_34, ez32_37, ez32_38, GF_11_3, hc, Option.bind_some, if_pos (nI_le (Nat.le_refl j) (by omega))]
    | succ m ih =>
      intro j hj
      have hjn : j < n := by omega
      rw [ez32_4]
      have i1 := ih (j + 1) (by omega)
      by_cases h : (fun i => decide (S.1 (15 + i) 1 = pl)) j = true
      · rw [← orF_t h] at i1
        have h' := of_decide_eq_true h
        simp only [ez32_0, ez32_1, ez32_2, ez32_3, ez32_5, ez32_6, ez32_9, ez32_12, ez32_13, ez32_16, ez32_17, ez32_18, ez32_21, ez32_22, ez32_25, ez32_26, ez32_27, ez32_28, ez32_29, ez32_30, ez32_31, ez32_34, ez32_37, ez32_38, GF_11_2, GF_11_3, hc, Option.bind_some, if_neg (nI_ge hjn (by omega)), GQ_14 _ j (by omega), GC_1 _ (car15 (show j < 8 by omega)), h', not_true, if_false, nI_1]
        exact i1
      · rw [← orF_f h] at i1
        have h' : ¬ _ := fun e => h (decide_eq_true e)
        simp only [ez32_0, ez32_1, ez32_2, ez32_3, ez32_5, ez32_6, ez32_9, ez32_12, ez32_13, ez32_16, ez32_17, ez32_18, ez32_21, ez32_22, ez32_25, ez32_26, ez32_27, ez32_28, ez32_29, ez32_30, ez32_31, ez32_34, ez32_37, ez32_38, GF_11_2, GF_11_3, hc, Option.bind_some, if_neg (nI_ge hjn (by omega)), GQ_14 _ j (by omega), GC_1 _ (car15 (show j < 8 by omega)), h', not_false_iff, if_true, nI_1]
        exact i1
  rw [cz32]
  simp only [ez32_0, ez32_1, ez32_2, ez32_3]
  exact loop n 0 (by omega)
theorem sp_Land_withShade (d : Nat) (S : hs_S) (n : Nat) (hn : n ≤ 8) (hc : S.1 11 3 = nI n) : sx_call (d + 1) 35 [.ref 11] (hp S) = some (some (.int (orF (fun i => decide (0 < S.1 (15 + i) 2)) n)), hp S) := by
  have loop : ∀ m j, j + m = n → sx_run d 35 (4, [some (.ref 11), some (.int (orF (fun i => decide (0 < S.1 (15 + i) 2)) j)), some (.int (nI j))], [], hp S) = some (some (.int (orF (fun i => decide (0 < S.1 (15 + i) 2)) n)), hp S) := by
    intro m
    induction m with
    | zero =>
      intro j hj
      have hjn : j = n := by omega
      subst hjn
      simp only [ez35_0, ez35_1, ez35_2, ez35_3, ez35_4, ez35_5, ez35_6, ez35_9, ez35_12, ez35_13, ez35_16, ez35_17, ez35_18, ez35_21, ez35_24, ez35_25, ez35_26, ez35_27, ez35_28, ez35_29, ez35_30, ez35_33, ez35_36, ez35_37, GF_11_3, hc, Option.bind_some, if_pos (nI_le (Nat.le_refl j) (by omega))]
    | succ m ih =>
      intro j hj
      have hjn : j < n := by omega
      rw [ez35_4]
      have i1 := ih (j + 1) (by omega)
      by_cases h : (fun i => decide (0 < S.1 (15 + i) 2)) j = true
      · rw [← orF_t h] at i1
        have h' := of_decide_eq_true h
        simp only [ez35_0, ez35_1, ez35_2, ez35_3, ez35_5, ez35_6, ez35_9, ez35_12, ez35_13, ez35_16, ez35_17, ez35_18, ez35_21, ez35_24, ez35_25, ez35_26, ez35_27, ez35_28, ez35_29, ez35_30, ez35_33, ez35_36, ez35_37, GF_11_2, GF_11_3, hc, Option.bind_some, if_neg (nI_ge hjn (by omega)), GQ_14 _ j (by omega), GC_2 _ (car15 (show j < 8 by omega)), if_neg (Int32.not_le.mpr h'), nI_1]
        exact i1
      · rw [← orF_f h] at i1
        have h' : ¬ _ := fun e => h (decide_eq_true e)
        simp only [ez35_0, ez35_1, ez35_2, ez35_3, ez35_5, ez35_6, ez35_9, ez35_12, ez35_13, ez35_16, ez35_17, ez35_18, ez35_21, ez35_24, ez35_25, ez35_26, ez35_27, ez35_28, ez35_29, ez35_30, ez35_33, ez35_36, ez35_37, GF_11_2, GF_11_3, hc, Option.bind_some, if_neg (nI_ge hjn (by omega)), GQ_14 _ j (by omega), GC_2 _ (car15 (show j < 8 by omega)), if_pos (Int32.not_lt.mp h'), nI_1]
        exact i1
  rw [cz35]
  simp only [ez35_0, ez35_1, ez35_2, ez35_3]
  exact loop n 0 (by omega)
theorem sp_Land_withPost (d : Nat) (S : hs_S) : sx_call (d + 1) 36 [.ref 11] (hp S) = some (some (.int (orF (fun i => decide (0 < S.2.1 12 i)) 16)), hp S) := by
  have loop : ∀ n, n = 16 → ∀ m j, j + m = n → sx_run d 36 (4, [some (.ref 11), some (.int (orF (fun i => decide (0 < S.2.1 12 i)) j)), some (.int (nI j))], [], hp S) = some (some (.int (orF (fun i => decide (0 < S.2.1 12 i)) n)), hp S) := by
    intro n h16 m
    induction m with
    | zero =>
      intro j hj
      have hjn : j = n := by omega
      subst hjn
      rw [ez36_4]
      simp only [ez36_0, ez36_1, ez36_2, ez36_3, ez36_5, ez36_7, ez36_10, ez36_11, ez36_14, ez36_15, ez36_16, ez36_19, ez36_20, ez36_21, ez36_22, ez36_23, ez36_24, ez36_25, ez36_28, ez36_31, ez36_32, GF_11_0, Option.bind_some, if_pos (le16 h16)]
    | succ m ih =>
      intro j hj
      have hjn : j < n := by omega
      rw [ez36_4]
      have i1 := ih (j + 1) (by omega)
      by_cases h : (fun i => decide (0 < S.2.1 12 i)) j = true
      · rw [← orF_t h] at i1
        have h' := of_decide_eq_true h
        simp only [ez36_0, ez36_1, ez36_2, ez36_3, ez36_5, ez36_7, ez36_10, ez36_11, ez36_14, ez36_15, ez36_16, ez36_19, ez36_20, ez36_21, ez36_22, ez36_23, ez36_24, ez36_25, ez36_28, ez36_31, ez36_32, GF_11_0, Option.bind_some, if_neg (ge16 h16 hjn), GI_12, in16 (show j < 16 by omega), if_true, nI_clamp (show j < 2 ^ 31 by omega), if_neg (Int32.not_le.mpr h'), nI_1]
        exact i1
      · rw [← orF_f h] at i1
        have h' : ¬ _ := fun e => h (decide_eq_true e)
        simp only [ez36_0, ez36_1, ez36_2, ez36_3, ez36_5, ez36_7, ez36_10, ez36_11, ez36_14, ez36_15, ez36_16, ez36_19, ez36_20, ez36_21, ez36_22, ez36_23, ez36_24, ez36_25, ez36_28, ez36_31, ez36_32, GF_11_0, Option.bind_some, if_neg (ge16 h16 hjn), GI_12, in16 (show j < 16 by omega), if_true, nI_clamp (show j < 2 ^ 31 by omega), if_pos (Int32.not_lt.mp h'), nI_1]
        exact i1
  rw [cz36]
  simp only [ez36_0, ez36_1, ez36_2, ez36_3]
  exact loop 16 rfl 16 0 (by omega)
