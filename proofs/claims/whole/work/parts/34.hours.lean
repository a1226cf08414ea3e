/-! hours -/
def hr1 (S : hs_S) (n : Nat) : hs_S := uF (hrS S (S.1 11 4) n) 11 4 (S.1 11 4 + 1)
def hrK (S : hs_S) (n : Nat) : Nat → hs_S
  | 0 => S
  | j + 1 => hr1 (hrK S n j) n
theorem hr1_4 (S : hs_S) (n : Nat) : (hr1 S n).1 11 4 = S.1 11 4 + 1 := by
  unfold hr1
  rw [uF_at]
theorem hr1_off (S : hs_S) (n : Nat) {b k : Nat} (h : k ≠ 2) (h2 : b ≠ 11 ∨ k ≠ 4) : (hr1 S n).1 b k = S.1 b k := by
  unfold hr1
  rw [uF_off _ 11 4 _ h2, hrS_off S _ n (Or.inl h)]
theorem hr1_2 (S : hs_S) (n : Nat) : (hr1 S n).2 = S.2 := rfl
/-- what an hour asks of the state -/
def hOk (S : hs_S) (n H : Nat) : Prop := n ≤ 8 ∧ S.1 11 3 = nI n ∧ S.1 11 4 = nI H ∧ H ≤ 100100 ∧ okC S n
theorem hOk.n8 {S : hs_S} {n H : Nat} (h : hOk S n H) : n ≤ 8 := h.1
theorem hOk.cnt {S : hs_S} {n H : Nat} (h : hOk S n H) : S.1 11 3 = nI n := h.2.1
theorem hOk.hr {S : hs_S} {n H : Nat} (h : hOk S n H) : S.1 11 4 = nI H := h.2.2.1
theorem hOk.H1 {S : hs_S} {n H : Nat} (h : hOk S n H) : H ≤ 100100 := h.2.2.2.1
theorem hOk.car {S : hs_S} {n H : Nat} (h : hOk S n H) : okC S n := h.2.2.2.2
theorem hOk_s {S : hs_S} {n H : Nat} (h : hOk S n H) (hH : H + 1 ≤ 100100) : hOk (hr1 S n) n (H + 1) := by
  refine ⟨h.n8, ?_, ?_, hH, fun j hj => ⟨(h.car j hj).1, ?_⟩⟩
  · rw [hr1_off S n (by decide) (Or.inr (by decide))]
    exact h.cnt
  · rw [hr1_4, h.hr, nI_1]
  · rw [hr1_off S n (by decide) (Or.inr (by decide))]
    exact (h.car j hj).2
theorem hrK_ok {S : hs_S} {n H : Nat} (h : hOk S n H) : ∀ j, H + j ≤ 100100 → hOk (hrK S n j) n (H + j)
  | 0, _ => h
  | j + 1, hj => hOk_s (hrK_ok h j (by omega)) (by omega)
theorem sp_hr1 (d : Nat) {S : hs_S} {n H : Nat} (h : hOk S n H) : sx_call (d + 7) 30 [.ref 11] (hp S) = some (none, hp (hr1 S n)) := by
  have h0 : 0 ≤ S.1 11 4 := by
    rw [h.hr]
    exact nI_pos' (by have := h.H1; omega)
  have h1 : 0 ≤ S.1 11 4 + 1 := by
    rw [h.hr, nI_1]
    exact nI_pos' (by have := h.H1; omega)
  exact sp_Land_letAnHourGo d S n h.n8 h.cnt h0 h1 h.car
def cl_hours (S : hs_S) (n : Nat) (x : Int32) : Int32 × hs_S :=
  if 1 ≤ x ∧ x ≤ 60 then
    if S.1 11 4 + x ≤ 99999 then (smF (fun i => (hrK S n x.toNatClampNeg).1 (15 + i) 2) n, hrK S n x.toNatClampNeg)
    else (-1000000005, fdS S 4)
  else (-1000000001, fdS S 0)
theorem hours_loop (d : Nat) (S : hs_S) (n H q : Nat) (h : hOk S n H) (hq : q ≤ 60) (hH : H ≤ 99999) : ∀ m j, j + m = q → sx_run (d + 7) 78 (41, [some (.ref 1), some (.int (nI q)), some (.int (nI j))], [], hp (hrK S n j)) = some (some (.int (smF (fun i => (hrK S n q).1 (15 + i) 2) n)), hp (hrK S n q)) := by
  intro m
  induction m with
  | zero =>
    intro j hj
    have hjn : j = q := by omega
    subst hjn
    have k := hrK_ok h j (by omega)
    rw [ez78_41]
    simp only [ez78_0, ez78_1, ez78_2, ez78_5, ez78_6, ez78_8, ez78_11, ez78_12, ez78_14, ez78_17, ez78_18, ez78_19, ez78_22, ez78_25, ez78_26, ez78_27, ez78_29, ez78_32, ez78_33, ez78_35, ez78_38, ez78_39, ez78_40, ez78_42, ez78_43, ez78_46, ez78_47, ez78_50, ez78_53, ez78_56, ez78_59, ez78_60, ez78_63, ez78_66, if_pos (nI_le (Nat.le_refl j) (by omega)), GF_1_1, Option.bind_some, KL_11, if_true, sp_Land_shadeOfAll (d + 6) (hrK S n j) n k.n8 k.cnt, tl_s]
  | succ m ih =>
    intro j hj
    have k := hrK_ok h j (by omega)
    rw [ez78_41]
    simp only [ez78_42, ez78_43, ez78_46, ez78_47, ez78_50, ez78_53, ez78_56, if_neg (nI_ge (show j < q by omega) (by omega)), GF_1_1, Option.bind_some, KL_11, if_true, sp_hr1 d k, tl_n, nI_1]
    exact ih (j + 1) (by omega)
theorem sp_SC_hours (d : Nat) (S : hs_S) (n H : Nat) (x : Int32) (h : hOk S n H) (hH : H ≤ 99999) : sx_call (d + 8) 78 [.ref 1, .int x] (hp S) = o1 (cl_hours S n x) := by
  rw [cz78]
  have f0 := sp_SC_finding (d + 6) S 0 (-1000000001) (by decide) (by decide)
  have f4 := sp_SC_finding (d + 6) S 4 (-1000000005) (by decide) (by decide)
  unfold cl_hours o1
  by_cases h1 : x < 1
  · rw [if_neg (fun z => Int32.not_le.mpr h1 z.1)]
    simp only [ez78_0, ez78_1, ez78_2, ez78_5, ez78_6, ez78_8, ez78_11, ez78_12, ez78_14, ez78_17, ez78_18, ez78_19, ez78_22, ez78_25, ez78_26, ez78_27, ez78_29, ez78_32, ez78_33, ez78_35, ez78_38, if_pos h1, KL_1, if_true, f0, Option.bind_some, tl_s]
  · by_cases h2 : x ≤ 60
    · rw [if_pos ⟨Int32.not_lt.mp h1, h2⟩]
      by_cases h3 : S.1 11 4 + x ≤ 99999
      · rw [if_pos h3]
        simp only [ez78_0, ez78_1, ez78_2, ez78_5, ez78_6, ez78_8, ez78_11, ez78_12, ez78_14, ez78_17, ez78_18, ez78_19, ez78_22, ez78_25, ez78_26, ez78_27, ez78_29, ez78_32, ez78_33, ez78_35, ez78_38, ez78_39, ez78_40, if_neg h1, if_pos h2, GF_1_1, GF_11_4, Option.bind_some, if_pos h3]
        have p0 : (0 : Int32) ≤ x := Int32.le_trans (by decide) (Int32.not_lt.mp h1)
        obtain ⟨q, hq, rfl⟩ := nI_of (Int32.not_lt.mpr p0)
        have q60 : q ≤ 60 := Nat.le_of_not_lt fun z => nI_ge (a := 60) z (by omega) h2
        rw [nI_clamp (show q < 2 ^ 31 by omega)]
        exact hours_loop d S n H q h q60 hH q 0 (by omega)
      · rw [if_neg h3]
        simp only [ez78_0, ez78_1, ez78_2, ez78_5, ez78_6, ez78_8, ez78_11, ez78_12, ez78_14, ez78_17, ez78_18, ez78_19, ez78_22, ez78_25, ez78_26, ez78_27, ez78_29, ez78_32, ez78_33, ez78_35, ez78_38, if_neg h1, if_pos h2, GF_1_1, GF_11_4, Option.bind_some, if_neg h3, KL_1, if_true, f4, tl_s]
    · rw [if_neg (fun z => h2 z.2)]
      simp only [ez78_0, ez78_1, ez78_2, ez78_5, ez78_6, ez78_8, ez78_11, ez78_12, ez78_14, ez78_17, ez78_18, ez78_19, ez78_22, ez78_25, ez78_26, ez78_27, ez78_29, ez78_32, ez78_33, ez78_35, ez78_38, if_neg h1, if_neg h2, KL_1, if_true, f0, Option.bind_some, tl_s]
