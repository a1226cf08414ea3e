/-! image, undo, tear, wipe, count, status, feed -/
theorem isB_0 : sx_isB (.int 0) = true := rfl
theorem isB_1 : sx_isB (.int 1) = true := rfl
theorem sp_SC_image (d : Nat) (S : hs_S) (n H : Nat) (h : hOk S n H) : sx_call (d + 3) 100 [.ref 1] (hp S) = o1 (1, uF (cpL S 23 11 n) 1 4 1) := by
  rw [cz100]
  simp only [ez100_0, ez100_1, ez100_4, ez100_5, ez100_8, ez100_11, ez100_12, ez100_13, ez100_16, ez100_17, GF_1_1, GF_1_2, Option.bind_some, KL_23, if_true, sp_become_23_11 d S n h.n8 h.cnt, tl_n, isB_1, PF_1_4]
  rfl
def cl_undo (S : hs_S) (q : Nat) : Int32 × hs_S := if S.1 1 4 = 0 then (-1000000004, fdS S 3) else (nI q, cpL S 11 23 q)
theorem cpL_3 (S : hs_S) (q : Nat) : (cpL S 11 23 q).1 11 3 = S.1 23 3 := by
  unfold cpL
  rw [uF_off _ _ _ _ (by decide), uF_off _ _ _ _ (by decide), lpK_off _ _ _ _ (Or.inl (by decide)), uF_at]
theorem sp_SC_undo (d : Nat) (S : hs_S) (q : Nat) (hk : S.1 1 4 = 0 ∨ (q ≤ 8 ∧ S.1 23 3 = nI q)) : sx_call (d + 3) 101 [.ref 1] (hp S) = o1 (cl_undo S q) := by
  rw [cz101]
  unfold cl_undo
  by_cases h : S.1 1 4 = 0
  · rw [if_pos h]
    simp only [ez101_0, ez101_1, ez101_4, ez101_7, ez101_8, ez101_10, ez101_13, ez101_14, ez101_15, ez101_18, ez101_19, ez101_22, ez101_25, ez101_26, ez101_29, ez101_32, GF_1_4, Option.bind_some, h, not_true, if_false, KL_1, if_true, sp_SC_finding (d + 1) S 3 (-1000000004) (by decide) (by decide), tl_s]
    rfl
  · rw [if_neg h]
    obtain ⟨h8, hc⟩ := hk.resolve_left h
    simp only [ez101_0, ez101_1, ez101_4, ez101_7, ez101_8, ez101_10, ez101_13, ez101_14, ez101_15, ez101_18, ez101_19, ez101_22, ez101_25, ez101_26, ez101_29, ez101_32, GF_1_4, Option.bind_some, h, not_false_iff, if_true, GF_1_1, GF_1_2, KL_11, sp_become_11_23 d S q h8 hc, tl_n, GF_11_3, cpL_3, hc]
    rfl
theorem sp_SC_tear (d : Nat) (S : hs_S) : sx_call (d + 1) 102 [.ref 1] (hp S) = o1 (if S.1 1 4 = 0 then 0 else 1, uF S 1 4 0) := by
  rw [cz102]
  by_cases h : S.1 1 4 = 0
  · simp only [ez102_0, ez102_1, ez102_4, ez102_7, ez102_8, ez102_11, ez102_12, ez102_13, ez102_14, ez102_15, ez102_18, ez102_19, GF_1_4, Option.bind_some, h, if_true, isB_0, PF_1_4]
    rfl
  · simp only [ez102_0, ez102_1, ez102_4, ez102_7, ez102_8, ez102_11, ez102_12, ez102_13, ez102_14, ez102_15, ez102_18, ez102_19, GF_1_4, Option.bind_some, h, if_false, isB_0, if_true, PF_1_4]
    rfl
theorem sp_SC_wipe (d : Nat) (S : hs_S) : sx_call (d + 1) 92 [.ref 1] (hp S) = o1 (S.1 51 1, uF S 51 1 0) := by
  rw [cz92]
  simp only [ez92_0, ez92_1, ez92_4, ez92_7, ez92_8, ez92_9, ez92_12, ez92_13, ez92_16, ez92_17, GF_1_7, GF_51_1, PF_51_1, Option.bind_some]
  rfl
def us (x n : Int32) : Int32 := (x.toUInt32 >>> (n.toUInt32 &&& Int32.toUInt32 31)).toInt32
def bc1 (i : Int32) : Int32 := i - (us i 1 &&& 1431655765)
def bc2 (i : Int32) : Int32 := (i &&& 858993459) + (us i 2 &&& 858993459)
def bc3 (i : Int32) : Int32 := (i + us i 4) &&& 252645135
def bc4 (i : Int32) : Int32 := i + us i 8
def bc5 (i : Int32) : Int32 := i + us i 16
def bcF (i : Int32) : Int32 := bc5 (bc4 (bc3 (bc2 (bc1 i)))) &&& 63
theorem sp_bitCount (d : Nat) (x : Int32) (h : sx_H) : sx_call (d + 1) 210 [.int x] h = some (some (.int (bcF x)), h) := by
  rw [cz210]
  simp only [ez210_0, ez210_1, ez210_2, ez210_3, ez210_4, ez210_7, ez210_8, ez210_9, ez210_10, ez210_11, ez210_14, ez210_15, ez210_16, ez210_17, ez210_18, ez210_21, ez210_22, ez210_23, ez210_24, ez210_25, ez210_26, ez210_27, ez210_28, ez210_29, ez210_32, ez210_33, ez210_34, ez210_35, ez210_36, ez210_38, ez210_39, ez210_40, ez210_41, ez210_42, ez210_43, ez210_45, ez210_46, ez210_47, ez210_48, ez210_49, ez210_51, ez210_52]
  rfl
def cl_count (S : hs_S) (w : Int32) : Int32 × hs_S :=
  if w = 0 then (S.1 11 3, S) else if w = 1 then (S.1 51 1, S) else if w = 2 then (bcF (orF (fun i => decide (0 < S.2.1 12 i)) 16), S) else if w = 3 then (smF (S.2.1 13) 16, S) else (-1000000001, fdS S 0)
theorem sp_SC_count (d : Nat) (S : hs_S) (w : Int32) : sx_call (d + 2) 103 [.ref 1, .int w] (hp S) = o1 (cl_count S w) := by
  rw [cz103]
  have f0 := sp_SC_finding d S 0 (-1000000001) (by decide) (by decide)
  unfold cl_count o1
  by_cases h0 : w = 0
  · subst h0
    simp [ez103_0, ez103_1, ez103_32, ez103_33, ez103_36, ez103_39, ez103_40, ez103_41, ez103_44, ez103_47, ez103_48, ez103_49, ez103_52, ez103_55, ez103_58, ez103_59, ez103_60, ez103_63, ez103_66, ez103_67, ez103_68, ez103_70, ez103_73, GF_1_1, GF_11_3]
  · by_cases h1 : w = 1
    · subst h1
      simp [ez103_0, ez103_1, ez103_32, ez103_33, ez103_36, ez103_39, ez103_40, ez103_41, ez103_44, ez103_47, ez103_48, ez103_49, ez103_52, ez103_55, ez103_58, ez103_59, ez103_60, ez103_63, ez103_66, ez103_67, ez103_68, ez103_70, ez103_73, GF_1_7, GF_51_1]
    · by_cases h2 : w = 2
      · subst h2
        simp [ez103_0, ez103_1, ez103_32, ez103_33, ez103_36, ez103_39, ez103_40, ez103_41, ez103_44, ez103_47, ez103_48, ez103_49, ez103_52, ez103_55, ez103_58, ez103_59, ez103_60, ez103_63, ez103_66, ez103_67, ez103_68, ez103_70, ez103_73, GF_1_1, KL_11, tl_s, sp_Land_withPost d S, sp_bitCount]
      · by_cases h3 : w = 3
        · subst h3
          simp [ez103_0, ez103_1, ez103_32, ez103_33, ez103_36, ez103_39, ez103_40, ez103_41, ez103_44, ez103_47, ez103_48, ez103_49, ez103_52, ez103_55, ez103_58, ez103_59, ez103_60, ez103_63, ez103_66, ez103_67, ez103_68, ez103_70, ez103_73, GF_1_1, KL_11, tl_s, sp_Land_pricesOfAll d S]
        · simp [ez103_0, ez103_1, ez103_32, ez103_33, ez103_36, ez103_39, ez103_40, ez103_41, ez103_44, ez103_47, ez103_48, ez103_49, ez103_52, ez103_55, ez103_58, ez103_59, ez103_60, ez103_63, ez103_66, ez103_67, ez103_68, ez103_70, ez103_73, h0, h1, h2, h3, tl_s, f0, KL_1]
theorem status_loop (d : Nat) (S : hs_S) (l1 : Option Value) : ∀ m j, j + m = 7 → sx_run d 104 (33, [some (.ref 1), l1, some (.int (smF (S.2.1 4) j)), some (.int (nI j))], [], hp S) = o1 (smF (S.2.1 4) 7, S) := by
  intro m
  induction m with
  | zero =>
    intro j hj
    have e : j = 7 := by omega
    subst e
    rw [ez104_33]
    simp only [ez104_34, ez104_36, if_pos (show (7 : Int32) ≤ nI 7 by decide), ez104_54, ez104_55]
    rfl
  | succ m ih =>
    intro j hj
    rw [ez104_33]
    simp only [ez104_34, ez104_36, ez104_39, ez104_40, ez104_41, ez104_44, ez104_45, ez104_46, ez104_47, ez104_48, ez104_51, if_neg (show ¬ (7 : Int32) ≤ nI j from nI_ge (b := 7) (show j < 7 by omega) (by omega)), GF_1_9, Option.bind_some, GI_4, in_nI (show j < 7 by omega) (by omega), if_true, nI_clamp (show j < 2 ^ 31 by omega), nI_1]
    exact ih (j + 1) (by omega)
def cl_status (S : hs_S) (w : Int32) : Int32 × hs_S :=
  if w < -1 then (-1000000001, fdS S 0) else if w < 7 then (if w < 0 then (smF (S.2.1 4) 7, S) else (S.2.1 4 w.toNatClampNeg, S)) else (-1000000001, fdS S 0)
theorem sp_SC_status (d : Nat) (S : hs_S) (w : Int32) : sx_call (d + 2) 104 [.ref 1, .int w] (hp S) = o1 (cl_status S w) := by
  rw [cz104]
  have f0 := sp_SC_finding d S 0 (-1000000001) (by decide) (by decide)
  unfold cl_status
  by_cases h1 : w < -1
  · rw [if_pos h1]
    simp only [ez104_0, ez104_1, ez104_2, ez104_5, ez104_6, ez104_8, ez104_11, ez104_12, ez104_14, ez104_17, if_pos h1, KL_1, if_true, f0, Option.bind_some, tl_s]
    rfl
  · rw [if_neg h1]
    by_cases h2 : w < 7
    · rw [if_pos h2]
      by_cases h3 : w < 0
      · rw [if_pos h3]
        simp only [ez104_0, ez104_1, ez104_2, ez104_5, ez104_6, ez104_8, ez104_11, ez104_12, ez104_14, ez104_17, ez104_18, ez104_19, ez104_22, ez104_23, ez104_26, ez104_27, ez104_28, ez104_29, ez104_30, ez104_31, ez104_32, if_neg h1, if_pos h2, if_pos h3]
        exact status_loop (d + 1) S _ 7 0 (by omega)
      · rw [if_neg h3]
        simp only [ez104_0, ez104_1, ez104_2, ez104_5, ez104_6, ez104_8, ez104_11, ez104_12, ez104_14, ez104_17, ez104_18, ez104_19, ez104_22, ez104_23, ez104_26, ez104_27, ez104_28, if_neg h1, if_pos h2, if_neg h3, GF_1_9, Option.bind_some, GI_4, in_of (n := 7) (y := 7) (by decide) (by decide) ⟨Int32.not_lt.mp h3, h2⟩, if_true]
        rfl
    · rw [if_neg h2]
      simp only [ez104_0, ez104_1, ez104_2, ez104_5, ez104_6, ez104_8, ez104_11, ez104_12, ez104_14, ez104_17, if_neg h1, if_neg h2, KL_1, if_true, f0, Option.bind_some, tl_s]
      rfl
/-- one byte more -/
def apS (S : hs_S) (L : Nat) (b : Int32) : hs_S := uF (uI S 52 (upd (S.2.1 52) L b)) 51 1 (nI (L + 1))
theorem sp_Tape_append (d : Nat) (S : hs_S) (L : Nat) (b : Int32) (hl : S.1 51 1 = nI L) (hL : L < 120) : sx_call (d + 1) 47 [.ref 51, .int b] (hp S) = some (none, hp (apS S L b)) := by
  rw [cz47]
  have e : ∀ f, (uI S 52 f).1 51 1 = nI L := fun f => hl
  simp only [ez47_0, ez47_1, ez47_4, ez47_6, ez47_9, ez47_10, ez47_13, ez47_14, ez47_17, ez47_18, ez47_19, ez47_20, ez47_20i, ez47_21, ez47_24, ez47_25, ez47_26, ez47_29, GF_51_0, GF_51_1, hl, Option.bind_some, if_neg (show ¬ (120 : Int32) ≤ nI L from nI_ge (b := 120) hL (by omega)), PI_52, in_nI hL (by omega), if_true, nI_clamp (show L < 2 ^ 31 by omega), e, PF_51_1, nI_1]
  rfl
/-- the bytes of x from place i down to 0 come to the tape -/
def fdB4 (x : Int32) : Nat → Nat → hs_S → hs_S
  | 0, _, S => S
  | i + 1, L, S => fdB4 x i (L + 1) (apS S L (us x (8 * nI i) &&& 255))
theorem fdB4_1 (x : Int32) : ∀ i L S, S.1 51 1 = nI L → (fdB4 x i L S).1 51 1 = nI (L + i)
  | 0, L, S, h => h
  | i + 1, L, S, h => by
    have := fdB4_1 x i (L + 1) (apS S L (us x (8 * nI i) &&& 255)) rfl
    rw [show L + (i + 1) = L + 1 + i by omega]
    exact this
theorem feed_loop (d : Nat) (x : Int32) (l2 : Option Value) : ∀ i L S, S.1 51 1 = nI L → L + i ≤ 120 → sx_run (d + 1) 91 (42, [some (.ref 1), some (.int x), l2, some (.int (nI i - 1))], [], hp S) = o1 (nI (L + i), fdB4 x i L S) := by
  intro i
  induction i with
  | zero =>
    intro L S h hL
    rw [ez91_42]
    simp only [ez91_43, if_pos (show nI 0 - 1 < 0 by decide), ez91_69, ez91_70, ez91_73, ez91_76, GF_1_7, GF_51_1, Option.bind_some, h]
    rfl
  | succ i ih =>
    intro L S h hL
    rw [nI_pred]
    rw [ez91_42]
    simp only [ez91_43, ez91_46, ez91_47, ez91_50, ez91_51, ez91_53, ez91_54, ez91_55, ez91_56, ez91_59, ez91_60, ez91_63, ez91_66, if_neg (nI_pos (show i < 2 ^ 31 by omega)), GF_1_7, Option.bind_some, KL_51, if_true]
    have a := fun b => sp_Tape_append d S L b h (by omega)
    have e : nI i + -1 = nI i - 1 := by rw [Int32.sub_eq_add_neg]
    simp only [a, Option.bind_some, tl_n, e]
    have k := ih (L + 1) (apS S L (us x (8 * nI i) &&& 255)) rfl (by omega)
    rw [show L + 1 + i = L + (i + 1) by omega] at k
    exact k
def cl_feed (S : hs_S) (L : Nat) (x n : Int32) : Int32 × hs_S :=
  if 1 ≤ n ∧ n ≤ 4 then (if L + n.toNatClampNeg ≤ 120 then (nI (L + n.toNatClampNeg), fdB4 x n.toNatClampNeg L S) else (-1000000002, fdS S 1)) else (-1000000001, fdS S 0)
theorem sp_SC_feed (d : Nat) (S : hs_S) (L : Nat) (x n : Int32) (h : S.1 51 1 = nI L) (hL : L ≤ 120) : sx_call (d + 2) 91 [.ref 1, .int x, .int n] (hp S) = o1 (cl_feed S L x n) := by
  rw [cz91]
  have f0 := sp_SC_finding d S 0 (-1000000001) (by decide) (by decide)
  have f1 := sp_SC_finding d S 1 (-1000000002) (by decide) (by decide)
  unfold cl_feed
  by_cases h1 : n < 1
  · rw [if_neg (fun z => Int32.not_le.mpr h1 z.1)]
    simp only [ez91_0, ez91_1, ez91_2, ez91_5, ez91_6, ez91_7, ez91_10, ez91_11, ez91_13, ez91_16, if_pos h1, KL_1, if_true, f0, Option.bind_some, tl_s]
    rfl
  · by_cases h2 : n ≤ 4
    · rw [if_pos ⟨Int32.not_lt.mp h1, h2⟩]
      obtain ⟨q, hq, rfl⟩ := nI_of (Int32.not_lt.mpr (Int32.le_trans (show (0 : Int32) ≤ 1 by decide) (Int32.not_lt.mp h1)))
      have q4 : q ≤ 4 := Nat.le_of_not_lt fun z => nI_ge (a := 4) z (by omega) h2
      rw [nI_clamp (show q < 2 ^ 31 by omega)]
      by_cases h3 : L + q ≤ 120
      · rw [if_pos h3]
        have g : nI (L + q) ≤ 120 := nI_le (b := 120) h3 (by omega)
        simp only [ez91_0, ez91_1, ez91_2, ez91_5, ez91_6, ez91_7, ez91_10, ez91_11, ez91_13, ez91_16, ez91_17, ez91_18, ez91_21, ez91_24, ez91_25, ez91_26, ez91_28, ez91_31, ez91_32, ez91_34, ez91_37, ez91_38, ez91_39, ez91_40, ez91_41, if_neg h1, if_pos h2, GF_1_7, GF_51_1, h, Option.bind_some, nI_ad, if_pos g]
        exact feed_loop d x _ q L S h h3
      · rw [if_neg h3]
        have g : ¬ nI (L + q) ≤ 120 := nI_ge (a := 120) (show 120 < L + q by omega) (by omega)
        simp only [ez91_0, ez91_1, ez91_2, ez91_5, ez91_6, ez91_7, ez91_10, ez91_11, ez91_13, ez91_16, ez91_17, ez91_18, ez91_21, ez91_24, ez91_25, ez91_26, ez91_28, ez91_31, ez91_32, ez91_34, ez91_37, if_neg h1, if_pos h2, GF_1_7, GF_51_1, h, Option.bind_some, nI_ad, if_neg g, KL_1, if_true, f1, tl_s]
        rfl
    · rw [if_neg (fun z => h2 z.2)]
      simp only [ez91_0, ez91_1, ez91_2, ez91_5, ez91_6, ez91_7, ez91_10, ez91_11, ez91_13, ez91_16, if_neg h1, if_neg h2, KL_1, if_true, f0, Option.bind_some, tl_s]
      rfl
