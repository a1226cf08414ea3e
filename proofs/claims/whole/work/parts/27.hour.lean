/-! AN HOUR: finds, passHour, letAnHourGo over the state (11) -/
theorem in_nI {j n : Nat} (h : j < n) (hn : n < 2 ^ 31) : sx_in (nI j) n = true := by
  unfold sx_in
  simp only [Bool.and_eq_true, decide_eq_true_eq]
  exact ⟨nI_pos' (by omega), by rw [nI_clamp (by omega)]; exact h⟩
def fdB (cl : Int32) (posts : Nat → Int32) (k : Nat) (pl sh co du x : Int32) : Bool := decide (cl = 0) && decide (lpF k sh co du x ≤ posts pl.toNatClampNeg)
theorem bI_B (b : Bool) : bI (b = true) = if b = true then 1 else 0 := rfl
theorem sp_Land_finds (d : Nat) (S : hs_S) (a : Nat) (x : Int32) (ha : isCar a = true) (hk : S.2.2.2 a < 6) (hx : 0 ≤ x) (hp1 : sx_in (S.1 a 1) 16 = true) : sx_call (d + 5) 28 [.ref 11, .ref a, .int x] (hp S) = some (some (.int (bI (fdB (S.1 11 5) (S.2.1 12) (S.2.2.2 a) (S.1 a 1) (S.1 a 2) (S.1 a 3) (S.1 a 4) x = true))), hp S) := by
  rw [cz28]
  simp only [ez28_0, ez28_1, ez28_4, ez28_7, ez28_8, ez28_11, ez28_12, ez28_15, ez28_16, ez28_17, ez28_18, ez28_21, ez28_24, ez28_25, ez28_28, ez28_29, GF_11_0, GF_11_5, GC_1 _ ha, Option.bind_some, GI_12, hp1, if_true, KL_c _ ha, sp_Carrier_lp d S a x ha hk hx, tl_s, nar_0, nar_1]
  unfold fdB
  by_cases h : S.1 11 5 = 0
  · by_cases h2 : lpF (S.2.2.2 a) (S.1 a 2) (S.1 a 3) (S.1 a 4) x ≤ S.2.1 12 (S.1 a 1).toNatClampNeg
    · have h3 : ¬ S.2.1 12 (S.1 a 1).toNatClampNeg < lpF (S.2.2.2 a) (S.1 a 2) (S.1 a 3) (S.1 a 4) x := Int32.not_lt.mpr h2
      simp [h, h2, h3, bI]
    · have h3 : S.2.1 12 (S.1 a 1).toNatClampNeg < lpF (S.2.2.2 a) (S.1 a 2) (S.1 a 3) (S.1 a 4) x := Int32.not_le.mp h2
      simp [h, h2, h3, bI]
  · simp [h, bI]
def sh1 (S : hs_S) (b : Nat) (x : Int32) : Int32 := mx0 (S.1 b 2 - fadeF (S.2.2.2 b) (S.1 b 4) (hT x))
/-- whether one is found at the hour's end; its shade then -/
def fnN (S : hs_S) (b : Nat) (x : Int32) : Bool := fdB (S.1 11 5) (S.2.1 12) (S.2.2.2 b) (S.1 b 1) (sh1 S b x) (S.1 b 3) (S.1 b 4) (x + 1)
def shN (S : hs_S) (b : Nat) (x : Int32) : Int32 := if fnN S b x = true then 0 else sh1 S b x
theorem sp_Land_passHour (d : Nat) (S : hs_S) (a : Nat) (x : Int32) (ha : isCar a = true) (hk : S.2.2.2 a < 6) (hx : 0 ≤ x) (hx1 : 0 ≤ x + 1) (hp1 : sx_in (S.1 a 1) 16 = true) : sx_call (d + 6) 29 [.ref 11, .ref a, .int x] (hp S) = some (some (.int (bI (fnN S a x = true))), hp (uF S a 2 (shN S a x))) := by
  rw [cz29]
  have o1 : ∀ v, (uF S a 2 v).1 a 1 = S.1 a 1 := fun v => uF_off S a 2 v (Or.inr (by decide))
  have o3 : ∀ v, (uF S a 2 v).1 a 3 = S.1 a 3 := fun v => uF_off S a 2 v (Or.inr (by decide))
  have o4 : ∀ v, (uF S a 2 v).1 a 4 = S.1 a 4 := fun v => uF_off S a 2 v (Or.inr (by decide))
  have o5 : ∀ v, (uF S a 2 v).1 11 5 = S.1 11 5 := fun v => uF_off S a 2 v (Or.inr (by decide))
  have hf := fun v => sp_Land_finds d (uF S a 2 v) a (x + 1) ha hk hx1 (by rw [o1]; exact hp1)
  simp only [ez29_0, ez29_1, ez29_2, ez29_5, ez29_6, ez29_7, ez29_8, ez29_9, ez29_10, ez29_13, ez29_16, ez29_17, ez29_18, ez29_19, ez29_20, ez29_23, ez29_24, KL_c _ ha, if_true, sp_Carrier_fadeIn (d + 2) S a x ha hk hx, Option.bind_some, tl_n, KL_11, hf, tl_s, bI_eq0, nar_0, nar_1, PC_2 _ ha, uF_uF]
  simp only [o1, o3, o4, o5, uF_at, uF_K, uF_I]
  have e : fdB (S.1 11 5) (S.2.1 12) (S.2.2.2 a) (S.1 a 1) (mx0 (S.1 a 2 - fadeF (S.2.2.2 a) (S.1 a 4) (hT x))) (S.1 a 3) (S.1 a 4) (x + 1) = fnN S a x := rfl
  rw [e]
  unfold shN
  by_cases h : fnN S a x = true
  · simp only [h, not_true, not_false_iff, if_false, if_true, bI_t]
  · simp only [h, not_false_iff, if_true, if_false, bI_f]; rfl
/-- the state with the first j carriers an hour on -/
def hrS (S : hs_S) (x : Int32) (j : Nat) : hs_S := (fun b k => if k = 2 ∧ (15 ≤ b ∧ b < 15 + j) then shN S b x else S.1 b k, S.2)
theorem hrS_0 (S : hs_S) (x : Int32) : hrS S x 0 = S := by
  unfold hrS
  refine Prod.ext ?_ rfl
  funext b k
  dsimp only
  rw [if_neg (by omega)]
theorem hrS_s (S : hs_S) (x : Int32) (j : Nat) : uF (hrS S x j) (15 + j) 2 (shN S (15 + j) x) = hrS S x (j + 1) := by
  unfold hrS uF
  refine Prod.ext ?_ rfl
  funext b k
  dsimp only
  by_cases h : b = 15 + j ∧ k = 2
  · obtain ⟨rfl, rfl⟩ := h
    rw [if_pos ⟨rfl, rfl⟩, if_pos (by omega)]
  · rw [if_neg h]
    by_cases h2 : k = 2 ∧ (15 ≤ b ∧ b < 15 + j)
    · rw [if_pos h2, if_pos (by omega)]
    · rw [if_neg h2, if_neg (by omega)]
theorem hrS_off (S : hs_S) (x : Int32) (j : Nat) {b k : Nat} (h : k ≠ 2 ∨ b < 15 ∨ 15 + j ≤ b) : (hrS S x j).1 b k = S.1 b k := by
  unfold hrS
  dsimp only
  rw [if_neg (by omega)]
theorem hrS_2 (S : hs_S) (x : Int32) (j : Nat) : (hrS S x j).2 = S.2 := rfl
theorem hrS_sh (S : hs_S) (x : Int32) (j : Nat) : shN (hrS S x j) (15 + j) x = shN S (15 + j) x := by
  unfold shN fnN sh1
  rw [hrS_off S x j (b := 15 + j) (k := 2) (by omega), hrS_off S x j (b := 15 + j) (k := 1) (by omega), hrS_off S x j (b := 15 + j) (k := 3) (by omega), hrS_off S x j (b := 15 + j) (k := 4) (by omega), hrS_off S x j (b := 11) (k := 5) (by omega), hrS_2]
theorem car15 {j : Nat} (h : j < 8) : isCar (15 + j) = true := by
  rcases (show j = 0 ∨ j = 1 ∨ j = 2 ∨ j = 3 ∨ j = 4 ∨ j = 5 ∨ j = 6 ∨ j = 7 by omega) with rfl | rfl | rfl | rfl | rfl | rfl | rfl | rfl <;> rfl
/-- the carriers of the state are in range -/
def okC (S : hs_S) (n : Nat) : Prop := ∀ j, j < n → S.2.2.2 (15 + j) < 6 ∧ sx_in (S.1 (15 + j) 1) 16 = true
theorem sp_Land_letAnHourGo (d : Nat) (S : hs_S) (n : Nat) (hn : n ≤ 8) (hc : S.1 11 3 = nI n) (hx : 0 ≤ S.1 11 4) (hx1 : 0 ≤ S.1 11 4 + 1) (hk : okC S n) : sx_call (d + 7) 30 [.ref 11] (hp S) = some (none, hp (uF (hrS S (S.1 11 4) n) 11 4 (S.1 11 4 + 1))) := by
  have loop : ∀ m j, j + m = n → sx_run (d + 6) 30 (2, [some (.ref 11), some (.int (nI j))], [], hp (hrS S (S.1 11 4) j)) = some (none, hp (uF (hrS S (S.1 11 4) n) 11 4 (S.1 11 4 + 1))) := by
    intro m
    induction m with
    | zero =>
      intro j hj
      have hjn : j = n := by omega
      subst hjn
      have e3 : (hrS S (S.1 11 4) j).1 11 3 = nI j := (hrS_off S _ j (Or.inl (by decide))).trans hc
      have e4 : (hrS S (S.1 11 4) j).1 11 4 = S.1 11 4 := hrS_off S _ j (Or.inl (by decide))
      simp only [ez30_0, ez30_1, ez30_2, ez30_3, ez30_4, ez30_7, ez30_10, ez30_11, ez30_12, ez30_15, ez30_16, ez30_17, ez30_18, ez30_21, ez30_24, ez30_25, ez30_28, ez30_31, ez30_32, ez30_32i, ez30_33, ez30_36, ez30_37, ez30_38, ez30_41, GF_11_3, GF_11_4, e3, e4, Option.bind_some, if_pos (nI_le (Nat.le_refl j) (by omega)), PF_11_4]
    | succ m ih =>
      intro j hj
      have hjn : j < n := by omega
      have e3 : (hrS S (S.1 11 4) j).1 11 3 = nI n := (hrS_off S _ j (Or.inl (by decide))).trans hc
      have e4 : (hrS S (S.1 11 4) j).1 11 4 = S.1 11 4 := hrS_off S _ j (Or.inl (by decide))
      have e1 : (hrS S (S.1 11 4) j).1 (15 + j) 1 = S.1 (15 + j) 1 := hrS_off S _ j (Or.inl (by decide))
      rw [ez30_2]
      simp only [ez30_0, ez30_1, ez30_3, ez30_4, ez30_7, ez30_10, ez30_11, ez30_12, ez30_15, ez30_16, ez30_17, ez30_18, ez30_21, ez30_24, ez30_25, ez30_28, ez30_31, ez30_32, ez30_32i, ez30_33, ez30_36, ez30_37, ez30_38, ez30_41, GF_11_2, GF_11_3, GF_11_4, e3, e4, Option.bind_some, if_neg (nI_ge hjn (by omega)), GQ_14 _ j (by omega), KL_11, if_true, sp_Land_passHour d (hrS S (S.1 11 4) j) (15 + j) (S.1 11 4) (car15 (by omega)) (hk j hjn).1 hx hx1 (by rw [e1]; exact (hk j hjn).2), tl_s, hrS_sh, hrS_s, nI_1]
      exact ih (j + 1) (by omega)
  rw [cz30]
  simp only [ez30_0, ez30_1]
  have h0 := loop n 0 (by omega)
  rw [hrS_0] at h0
  exact h0
