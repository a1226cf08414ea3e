/-! on, hoursUntilFound, found -/
def ghT (S : hs_S) (m : Nat) : hs_S := setC S 50 (S.2.2.2 (15 + m)) (S.1 (15 + m) 1) (S.1 (15 + m) 2) (S.1 (15 + m) 3) (S.1 (15 + m) 4) (S.1 (15 + m) 5)
theorem ghT_4 (S : hs_S) (m : Nat) : (ghT S m).1 11 4 = S.1 11 4 := by
  unfold ghT setC
  dsimp only
  rw [if_neg (by decide)]
theorem ghT_k (S : hs_S) (m : Nat) : (ghT S m).2.2.2 50 = S.2.2.2 (15 + m) := by
  unfold ghT setC
  dsimp only
  rw [if_pos rfl]
theorem ghT_1 (S : hs_S) (m : Nat) : (ghT S m).1 50 1 = S.1 (15 + m) 1 := by
  unfold ghT setC
  dsimp only
  rw [if_pos rfl, if_pos rfl]
theorem sp_ghT (d : Nat) (S : hs_S) (m : Nat) (hm : m < 8) : sx_call (d + 1) 9 [.ref 50, .ref (15 + m)] (hp S) = some (none, hp (ghT S m)) :=
  sp_Carrier_become d S 50 (15 + m) rfl (car15 hm) (by omega)
def cl_on (S : hs_S) (n H : Nat) (c x : Int32) : Int32 × hs_S :=
  if (0 ≤ c ∧ c < nI n) ∧ (0 ≤ x ∧ x ≤ 60) then ((ghK (ghT S c.toNatClampNeg) H x.toNatClampNeg).1 50 2, ghK (ghT S c.toNatClampNeg) H x.toNatClampNeg) else (-1000000001, fdS S 0)
theorem sp_SC_on (d : Nat) (S : hs_S) (n H : Nat) (c x : Int32) (h : hOk S n H) (hH : H ≤ 99999) : sx_call (d + 7) 80 [.ref 1, .int c, .int x] (hp S) = o1 (cl_on S n H c x) := by
  rw [cz80]
  have f0 := sp_SC_finding (d + 5) S 0 (-1000000001) (by decide) (by decide)
  have hc := h.cnt
  unfold cl_on o1
  by_cases h1 : 0 ≤ c ∧ c < nI n
  · by_cases h2 : 0 ≤ x ∧ x ≤ 60
    · obtain ⟨m, hm, rfl⟩ := car_of h.n8 h1
      have n8 := h.n8
      obtain ⟨q, hq, rfl⟩ := nI_of (Int32.not_lt.mpr h2.1)
      have q60 : q ≤ 60 := Nat.le_of_not_lt fun z => nI_ge (a := 60) z (by omega) h2.2
      rw [if_pos ⟨h1, h2⟩, nI_clamp (show m < 2 ^ 31 by omega), nI_clamp (show q < 2 ^ 31 by omega)]
      have l := on_loop d (ghT S m) H q (some (.int (nI m))) ((ghT_4 S m).trans h.hr) (by rw [ghT_k]; exact (h.car m hm).1) (by rw [ghT_1]; exact (h.car m hm).2) hH q60 q 0 (by omega)
      simp only [ez80_0, ez80_1, ez80_2, ez80_5, ez80_8, ez80_9, ez80_11, ez80_14, ez80_17, ez80_18, ez80_20, ez80_23, ez80_24, ez80_25, ez80_28, ez80_29, ez80_32, ez80_35, ez80_36, ez80_37, ez80_40, ez80_41, sp_SC_isCarrier, sp_SC_within, tl_s, tl_n, bI_eq0, KL_1, if_true, hc, h1, h2, and_self, not_true, not_false_iff, if_false, GF_1_1, GF_1_6, GF_11_2, Option.bind_some, GQ_14 _ m (show m < 8 by omega), KL_c _ (show isCar 50 = true from rfl), sp_ghT _ S m (show m < 8 by omega)]
      exact l
    · simp [ez80_0, ez80_1, ez80_2, ez80_5, ez80_8, ez80_9, ez80_11, ez80_14, ez80_17, ez80_18, ez80_20, ez80_23, ez80_24, ez80_25, ez80_28, ez80_29, ez80_32, ez80_35, ez80_36, ez80_37, ez80_40, ez80_41, sp_SC_isCarrier, sp_SC_within, tl_s, bI_eq0, KL_1, hc, h1, h2, f0]
  · simp [ez80_0, ez80_1, ez80_2, ez80_5, ez80_8, ez80_9, ez80_11, ez80_14, ez80_17, ez80_18, ez80_20, ez80_23, ez80_24, ez80_25, ez80_28, ez80_29, ez80_32, ez80_35, ez80_36, ez80_37, ez80_40, ez80_41, sp_SC_isCarrier, tl_s, bI_eq0, KL_1, hc, h1, f0]
def hfF (T : hs_S) (H : Nat) : Nat → Nat → Int32 × hs_S
  | 0, j => (61, ghK T H j)
  | m + 1, j => if fnN (ghK T H j) 50 (nI (H + j)) = true then (nI (j + 1), ghK T H (j + 1)) else hfF T H m (j + 1)
theorem hf_loop (d : Nat) (T : hs_S) (H q : Nat) (l1 : Option Value) (h4 : T.1 11 4 = nI H) (hk : T.2.2.2 50 < 6) (hi : sx_in (T.1 50 1) 16 = true) (hH : H ≤ 99999) (hq : q = 60) : ∀ m j, j + m = q → sx_run (d + 6) 115 (10, [some (.ref 1), l1, some (.int (nI j))], [], hp (ghK T H j)) = o1 (hfF T H m j) := by
  have e60 : nI q = 60 := by
    subst hq
    decide
  intro m
  induction m with
  | zero =>
    intro j hj
    have g : (60 : Int32) ≤ nI j := by
      rw [← e60]
      exact nI_le (by omega) (by omega)
    rw [ez115_10]
    simp only [ez115_11, ez115_13, if_pos g, ez115_49, ez115_51]
    rfl
  | succ m ih =>
    intro j hj
    have g : ¬ (60 : Int32) ≤ nI j := by
      rw [← e60]
      exact nI_ge (by omega) (by omega)
    have e4 : (ghK T H j).1 11 4 = nI H := (ghK_off T H (Or.inl (by decide)) j).trans h4
    rw [ez115_10]
    simp only [ez115_11, ez115_13, ez115_16, ez115_17, ez115_20, ez115_21, ez115_24, ez115_25, ez115_28, ez115_31, ez115_32, ez115_33, ez115_36, ez115_39, ez115_40, ez115_41, ez115_42, ez115_43, ez115_46, if_neg g, GF_1_1, GF_1_6, GF_11_4, e4, nI_ad, Option.bind_some, KL_11, if_true, sp_gh d T H j hk hi (by omega), tl_s, nI_1, bI_eq0]
    unfold hfF
    by_cases hf : fnN (ghK T H j) 50 (nI (H + j)) = true
    · rw [if_neg (fun z => z hf), if_pos hf]
      rfl
    · rw [if_pos hf, if_neg hf]
      exact ih (j + 1) (by omega)
theorem sp_SC_hoursUntilFound (d : Nat) (S : hs_S) (n H m : Nat) (h : hOk S n H) (hH : H ≤ 99999) (hm : m < n) : sx_call (d + 7) 115 [.ref 1, .ref (15 + m)] (hp S) = o1 (hfF (ghT S m) H 60 0) := by
  rw [cz115]
  have n8 := h.n8
  have l := hf_loop d (ghT S m) H 60 (some (.ref (15 + m))) ((ghT_4 S m).trans h.hr) (by rw [ghT_k]; exact (h.car m hm).1) (by rw [ghT_1]; exact (h.car m hm).2) hH rfl 60 0 (by omega)
  simp only [ez115_0, ez115_1, ez115_4, ez115_5, ez115_8, ez115_9, tl_n, if_true, GF_1_6, Option.bind_some, KL_c _ (show isCar 50 = true from rfl), sp_ghT _ S m (show m < 8 by omega)]
  exact l
