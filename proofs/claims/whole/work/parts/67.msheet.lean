/-! THE MODEL: sheets -/
theorem sp_M_narrowed (d : Nat) (b : Int32) (v : Int64) (h : sx_H) : sx_call (d + 1) 195 [.int b, .long v] h = some (some (.long (lbF b v)), h) := by
  rw [cz195]
  unfold lbF
  by_cases h1 : b = 8
  · rw [if_pos h1]
    simp only [ez195_0, ez195_1, ez195_3, ez195_6, ez195_7, ez195_8, ez195_9, ez195_10, ez195_13, ez195_14, ez195_16, ez195_19, ez195_20, ez195_21, ez195_22, ez195_23, ez195_26, ez195_27, h1, not_true, if_false]
  · rw [if_neg h1]
    by_cases h2 : b = 16
    · rw [if_pos h2]
      have h3 : ¬ ((16 : Int32) = 8) := by decide
      simp only [ez195_0, ez195_1, ez195_3, ez195_6, ez195_7, ez195_8, ez195_9, ez195_10, ez195_13, ez195_14, ez195_16, ez195_19, ez195_20, ez195_21, ez195_22, ez195_23, ez195_26, ez195_27, h2, h3, not_false_iff, if_true, not_true, if_false]
    · rw [if_neg h2]
      simp only [ez195_0, ez195_1, ez195_3, ez195_6, ez195_7, ez195_8, ez195_9, ez195_10, ez195_13, ez195_14, ez195_16, ez195_19, ez195_20, ez195_21, ez195_22, ez195_23, ez195_26, ez195_27, h1, h2, not_false_iff, if_true]
def wsR (S : hs_S) (s : Int32) : Int32 := if 0 ≤ s ∧ s < 4 then (if S.2.1 68 s.toNatClampNeg = 0 then -1000000006 else 0) else -1000000001
theorem sp_M_wrongSheet (d : Nat) (S : hs_S) (s : Int32) : sx_call (d + 3) 196 [.ref 61, .int s] (hp S) = some (some (.int (wsR S s)), hp S) := by
  rw [cz196]
  unfold wsR
  by_cases h1 : 0 ≤ s ∧ s < 4
  · rw [if_pos h1]
    have hi : sx_in s 4 = true := in_of (n := 4) (y := 4) (by decide) (by decide) h1
    by_cases h2 : S.2.1 68 s.toNatClampNeg = 0
    · rw [if_pos h2]
      simp only [ez196_0, ez196_1, ez196_4, ez196_7, ez196_9, ez196_12, ez196_13, ez196_16, ez196_17, ez196_18, ez196_21, ez196_24, ez196_27, ez196_28, sp_M_isOne, Option.bind_some, tl_s, tl_n, bI_eq0, if_true, if_false, not_true, not_false_iff, and_self, Bool.false_eq_true, h1, GF_61_18, GI_68, hi, h2]
    · rw [if_neg h2]
      simp only [ez196_0, ez196_1, ez196_4, ez196_7, ez196_9, ez196_12, ez196_13, ez196_16, ez196_17, ez196_18, ez196_21, ez196_24, ez196_27, ez196_28, sp_M_isOne, Option.bind_some, tl_s, tl_n, bI_eq0, if_true, if_false, not_true, not_false_iff, and_self, Bool.false_eq_true, h1, GF_61_18, GI_68, hi, h2]
  · rw [if_neg h1]
    simp only [ez196_0, ez196_1, ez196_4, ez196_7, ez196_9, ez196_12, ez196_13, ez196_16, ez196_17, ez196_18, ez196_21, ez196_24, ez196_27, ez196_28, sp_M_isOne, Option.bind_some, tl_s, tl_n, bI_eq0, if_true, if_false, not_true, not_false_iff, and_self, Bool.false_eq_true, h1]
theorem mul40 (s i : Nat) : 40 * nI s + nI i = nI (40 * s + i) := by
  have e : (40 : Int32) = nI 40 := rfl
  rw [e, nI_mu, nI_ad]
def zrL (f : Nat → Int64) (s j : Nat) : Nat → Int64 := fun k => if 40 * s ≤ k ∧ k < 40 * s + j then 0 else f k
theorem zrL_0 (f : Nat → Int64) (s : Nat) : zrL f s 0 = f := funext fun k => if_neg (by omega)
theorem zrL_s (f : Nat → Int64) (s j : Nat) : vp_updL (zrL f s j) (40 * s + j) 0 = zrL f s (j + 1) := by
  funext k
  unfold vp_updL zrL
  by_cases h : k = 40 * s + j
  · rw [if_pos h, if_pos (by omega)]
  · rw [if_neg h]
    by_cases h2 : 40 * s ≤ k ∧ k < 40 * s + j
    · rw [if_pos h2, if_pos (by omega)]
    · rw [if_neg h2, if_neg (by omega)]
theorem msheet_loop (d : Nat) (S : hs_S) (s : Nat) (hs : s < 4) (l2 l3 : Option Value) (z : Int32) (hz : S.2.1 69 s = z) : ∀ m j, j + m = 40 → sx_run d 194 (86, [some (.ref 61), some (.int (nI s)), l2, l3, some (.int (nI j))], [], hp (uJ S 70 (zrL (S.2.2.1 70) s j))) = some (some (.int z), hp (uJ S 70 (zrL (S.2.2.1 70) s 40))) := by
  have r69 : ∀ f, (uJ S 70 f).2.1 69 = S.2.1 69 := fun f => rfl
  intro m
  induction m with
  | zero =>
    intro j hj
    have e : j = 40 := by omega
    subst e
    rw [ez194_86]
    simp only [ez194_88, ez194_90, if_pos (show (40 : Int32) ≤ nI 40 by decide), ez194_112, ez194_113, ez194_116, ez194_117, ez194_118, GF_61_19, Option.bind_some, tl_s, tl_n, bI_eq0, if_true, if_false, not_true, not_false_iff, and_self, Bool.false_eq_true, GI_69, in_nI hs (by decide), nI_clamp (show s < 2 ^ 31 by omega), r69, hz]
  | succ m ih =>
    intro j hj
    have g : ¬ (40 : Int32) ≤ nI j := nI_ge (b := 40) (show j < 40 by omega) (by omega)
    rw [ez194_86]
    simp only [ez194_88, ez194_90, ez194_93, ez194_94, ez194_97, ez194_99, ez194_100, ez194_101, ez194_103, ez194_104, ez194_105, ez194_106, ez194_109, if_neg g, GF_61_20, Option.bind_some, tl_s, tl_n, bI_eq0, if_true, if_false, not_true, not_false_iff, and_self, Bool.false_eq_true, mul40, PJ_70, in_nI (show 40 * s + j < 160 by omega) (by decide), nI_clamp (show 40 * s + j < 2 ^ 31 by omega), uJ_at, uJ_uJ, zrL_s, nI_1]
    exact ih (j + 1) (by omega)
def loM (S : hs_S) (s : Nat) (b z : Int32) : hs_S := uJ (uI (uI S 68 (upd (S.2.1 68) s b)) 69 (upd (S.2.1 69) s z)) 70 (zrL (S.2.2.1 70) s 40)
def ml_sheet (S : hs_S) (s b n : Int32) : Int32 × hs_S :=
  if (0 ≤ s ∧ s < 4) ∧ (b = 0 ∨ b = 8 ∨ b = 16 ∨ b = 64) then
    if 0 ≤ n then
      if n ≤ 40 then ((if b = 0 then 0 else n), loM S s.toNatClampNeg b (if b = 0 then 0 else n))
      else (-1000000001, fdM S 0)
    else (-1000000007, fdM S 6)
  else (-1000000001, fdM S 0)
theorem sp_M_sheet (d : Nat) (S : hs_S) (s b n : Int32) : sx_call (d + 3) 194 [.ref 61, .int s, .int b, .int n] (hp S) = o1 (ml_sheet S s b n) := by
  rw [cz194]
  have f0 := sp_M_finds (d + 1) S 0 (-1000000001) (by decide) (by decide)
  have f6 := sp_M_finds (d + 1) S 6 (-1000000007) (by decide) (by decide)
  unfold ml_sheet o1
  by_cases h1 : 0 ≤ s ∧ s < 4
  · obtain ⟨q, hq, rfl⟩ := s4_of h1
    have key : ∀ w : Int32, (w = 0 ∨ w = 8 ∨ w = 16 ∨ w = 64) → sx_run (d + 2) 194 (36, [some (.ref 61), some (.int (nI q)), some (.int w), some (.int n), none], [], hp S) = some (some (.int (if 0 ≤ n then (if n ≤ 40 then ((if w = 0 then 0 else n), loM S q w (if w = 0 then 0 else n)) else (-1000000001, fdM S 0)) else (-1000000007, fdM S 6)).1), hp (if 0 ≤ n then (if n ≤ 40 then ((if w = 0 then 0 else n), loM S q w (if w = 0 then 0 else n)) else (-1000000001, fdM S 0)) else (-1000000007, fdM S 6)).2) := by
      intro w hw
      by_cases h3 : 0 ≤ n
      · rw [if_pos h3]
        by_cases h4 : n ≤ 40
        · rw [if_pos h4]
          have r69 : ∀ f, (uI S 68 f).2.1 69 = S.2.1 69 := fun f => rfl
          have l := fun (z : Int32) l2 l3 => msheet_loop (d + 2) (uI (uI S 68 (upd (S.2.1 68) q w)) 69 (upd (S.2.1 69) q z)) q hq l2 l3 z (by rw [uI_at, upd_at]) 40 0 (by omega)
          simp only [zrL_0, uJ_self] at l
          by_cases h5 : w = 0
          · subst h5
            rw [if_pos rfl]
            simp only [ez194_36, ez194_37, ez194_40, ez194_41, ez194_44, ez194_47, ez194_48, ez194_49, ez194_51, ez194_54, ez194_55, ez194_57, ez194_60, ez194_61, ez194_62, ez194_65, ez194_66, ez194_67, ez194_68, ez194_69, ez194_72, ez194_73, ez194_74, ez194_77, ez194_78, ez194_81, ez194_82, ez194_83, ez194_84, h3, h4, Option.bind_some, tl_s, tl_n, bI_eq0, if_true, if_false, not_true, not_false_iff, and_self, Bool.false_eq_true, GF_61_18, GF_61_19, PI_68, PI_69, in_nI hq (by decide), nI_clamp (show q < 2 ^ 31 by omega), r69]
            exact l 0 _ _
          · rw [if_neg h5]
            simp only [ez194_36, ez194_37, ez194_40, ez194_41, ez194_44, ez194_47, ez194_48, ez194_49, ez194_51, ez194_54, ez194_55, ez194_57, ez194_60, ez194_61, ez194_62, ez194_65, ez194_66, ez194_67, ez194_68, ez194_69, ez194_72, ez194_73, ez194_74, ez194_77, ez194_78, ez194_81, ez194_82, ez194_83, ez194_84, h3, h4, h5, Option.bind_some, tl_s, tl_n, bI_eq0, if_true, if_false, not_true, not_false_iff, and_self, Bool.false_eq_true, GF_61_18, GF_61_19, PI_68, PI_69, in_nI hq (by decide), nI_clamp (show q < 2 ^ 31 by omega), r69]
            exact l n _ _
        · simp [ez194_36, ez194_37, ez194_40, ez194_41, ez194_44, ez194_47, ez194_48, ez194_49, ez194_51, ez194_54, ez194_55, ez194_57, ez194_60, h3, h4, KL_61, f0, tl_s]
      · simp [ez194_36, ez194_37, ez194_40, ez194_41, ez194_44, ez194_47, h3, KL_61, f6, tl_s]
    by_cases h2 : b = 0 ∨ b = 8 ∨ b = 16 ∨ b = 64
    · rw [if_pos ⟨h1, h2⟩, nI_clamp (show q < 2 ^ 31 by omega), ← key b h2]
      rcases h2 with rfl | rfl | rfl | rfl
      · simp [ez194_0, ez194_1, ez194_4, ez194_7, ez194_8, ez194_11, ez194_12, ez194_14, ez194_17, ez194_18, ez194_20, ez194_23, ez194_24, ez194_26, sp_M_isOne, tl_s, bI_eq0, h1]
      · simp [ez194_0, ez194_1, ez194_4, ez194_7, ez194_8, ez194_11, ez194_12, ez194_14, ez194_17, ez194_18, ez194_20, ez194_23, ez194_24, ez194_26, sp_M_isOne, tl_s, bI_eq0, h1]
      · simp [ez194_0, ez194_1, ez194_4, ez194_7, ez194_8, ez194_11, ez194_12, ez194_14, ez194_17, ez194_18, ez194_20, ez194_23, ez194_24, ez194_26, sp_M_isOne, tl_s, bI_eq0, h1]
      · simp [ez194_0, ez194_1, ez194_4, ez194_7, ez194_8, ez194_11, ez194_12, ez194_14, ez194_17, ez194_18, ez194_20, ez194_23, ez194_24, ez194_26, sp_M_isOne, tl_s, bI_eq0, h1]
    · rw [if_neg (fun z => h2 z.2)]
      have n0 : ¬ b = 0 := fun z => h2 (Or.inl z)
      have n8 : ¬ b = 8 := fun z => h2 (Or.inr (Or.inl z))
      have n16 : ¬ b = 16 := fun z => h2 (Or.inr (Or.inr (Or.inl z)))
      have n64 : ¬ b = 64 := fun z => h2 (Or.inr (Or.inr (Or.inr z)))
      simp [ez194_0, ez194_1, ez194_4, ez194_7, ez194_8, ez194_11, ez194_12, ez194_14, ez194_17, ez194_18, ez194_20, ez194_23, ez194_24, ez194_26, ez194_29, ez194_30, ez194_32, ez194_35, sp_M_isOne, tl_s, bI_eq0, h1, n0, n8, n16, n64, KL_61, f0]
  · rw [if_neg (fun z => h1 z.1)]
    simp [ez194_0, ez194_1, ez194_4, ez194_7, ez194_8, ez194_11, ez194_12, ez194_14, ez194_17, ez194_18, ez194_20, ez194_23, ez194_24, ez194_26, ez194_29, ez194_30, ez194_32, ez194_35, sp_M_isOne, tl_s, bI_eq0, h1, KL_61, f0]
/-- the sheets have at most 40 numbers -/
def shM (S : hs_S) : Prop := ∀ s, s < 4 → ∃ z, z ≤ 40 ∧ S.2.1 69 s = nI z
def ml_write (S : hs_S) (s i : Int32) (v : Int64) : Int64 × hs_S :=
  if 0 ≤ s ∧ s < 4 then
    if S.2.1 68 s.toNatClampNeg = 0 then ((-1000000006 : Int32).toInt64, fdM S 5)
    else if 0 ≤ i ∧ i < S.2.1 69 s.toNatClampNeg then (S.2.2.1 70 (40 * s.toNatClampNeg + i.toNatClampNeg), uJ S 70 (vp_updL (S.2.2.1 70) (40 * s.toNatClampNeg + i.toNatClampNeg) (lbF (S.2.1 68 s.toNatClampNeg) v)))
    else ((-1000000001 : Int32).toInt64, fdM S 0)
  else ((-1000000001 : Int32).toInt64, fdM S 0)
theorem z40 {z : Nat} (h : z ≤ 40) (x : Int32) : (x ≤ nI z - 1) = (x < nI z) := by
  refine propext (lt_pI ?_)
  cases z with
  | zero => decide
  | succ z => rw [nI_pred, nI_toInt (by omega), nI_toInt (by omega)]; omega
theorem sp_M_write (d : Nat) (S : hs_S) (s i : Int32) (v : Int64) (ok : shM S) : sx_call (d + 4) 197 [.ref 61, .int s, .int i, .long v] (hp S) = oJ (ml_write S s i v) := by
  rw [cz197]
  have f0 := sp_M_finds (d + 2) S 0 (-1000000001) (by decide) (by decide)
  have f5 := sp_M_finds (d + 2) S 5 (-1000000006) (by decide) (by decide)
  have ws := sp_M_wrongSheet d S s
  have m1 : ¬ ((-1000000001 : Int32) = 0) := by decide
  have m6 : ¬ ((-1000000006 : Int32) = 0) := by decide
  unfold ml_write
  unfold wsR at ws
  by_cases h1 : 0 ≤ s ∧ s < 4
  · rw [if_pos h1] at ws ⊢
    obtain ⟨q, hq, rfl⟩ := s4_of h1
    rw [nI_clamp (show q < 2 ^ 31 by omega)] at ws ⊢
    obtain ⟨z, hz, ez⟩ := ok q hq
    by_cases h2 : S.2.1 68 q = 0
    · rw [if_pos h2] at ws ⊢
      simp only [ez197_0, ez197_1, ez197_2, ez197_5, ez197_7, ez197_9, ez197_12, ez197_13, ez197_15, ez197_18, ez197_19, KL_61, Option.bind_some, tl_s, tl_n, bI_eq0, if_true, if_false, not_true, not_false_iff, and_self, Bool.false_eq_true, ws, m6, f5]
      rfl
    · rw [if_neg h2] at ws ⊢
      rw [ez]
      by_cases h3 : 0 ≤ i ∧ i < nI z
      · rw [if_pos h3]
        obtain ⟨j, hj, rfl⟩ := nI_of (Int32.not_lt.mpr h3.1)
        have jz : j < z := Nat.lt_of_not_le fun y => Int32.not_le.mpr h3.2 (nI_le y (by omega))
        rw [nI_clamp (show j < 2 ^ 31 by omega)]
        simp only [ez197_0, ez197_1, ez197_2, ez197_5, ez197_7, ez197_9, ez197_12, ez197_13, ez197_15, ez197_18, ez197_19, ez197_20, ez197_21, ez197_22, ez197_23, ez197_24, ez197_27, ez197_28, ez197_29, ez197_30, ez197_31, ez197_32, ez197_35, ez197_38, ez197_39, ez197_41, ez197_44, ez197_45, ez197_46, ez197_47, ez197_50, ez197_52, ez197_53, ez197_54, ez197_55, ez197_56, ez197_57, ez197_59, ez197_60, ez197_63, ez197_65, ez197_66, ez197_67, ez197_68, ez197_69, ez197_70, ez197_73, ez197_74, ez197_75, ez197_76, ez197_79, ez197_80, ez197_82, KL_61, Option.bind_some, tl_s, tl_n, bI_eq0, if_true, if_false, not_true, not_false_iff, and_self, Bool.false_eq_true, ws, GF_61_18, GF_61_19, GF_61_20, GI_68, GI_69, in_nI hq (by decide), nI_clamp (show q < 2 ^ 31 by omega), ez, sp_M_in, wl_0, fa_wide_le, z40 hz, h3, mul40, GJ_70, PJ_70, in_nI (show 40 * q + j < 160 by omega) (by decide), nI_clamp (show 40 * q + j < 2 ^ 31 by omega), sp_M_narrowed]
        rfl
      · rw [if_neg h3]
        simp only [ez197_0, ez197_1, ez197_2, ez197_5, ez197_7, ez197_9, ez197_12, ez197_13, ez197_15, ez197_18, ez197_19, ez197_20, ez197_21, ez197_22, ez197_23, ez197_24, ez197_27, ez197_28, ez197_29, ez197_30, ez197_31, ez197_32, ez197_35, ez197_38, ez197_39, ez197_41, ez197_44, ez197_45, KL_61, Option.bind_some, tl_s, tl_n, bI_eq0, if_true, if_false, not_true, not_false_iff, and_self, Bool.false_eq_true, ws, GF_61_19, GI_69, in_nI hq (by decide), nI_clamp (show q < 2 ^ 31 by omega), ez, sp_M_in, wl_0, fa_wide_le, z40 hz, h3, f0]
        rfl
  · rw [if_neg h1] at ws ⊢
    simp only [ez197_0, ez197_1, ez197_2, ez197_5, ez197_7, ez197_9, ez197_12, ez197_13, ez197_15, ez197_18, ez197_19, KL_61, Option.bind_some, tl_s, tl_n, bI_eq0, if_true, if_false, not_true, not_false_iff, and_self, Bool.false_eq_true, ws, m1, f0]
    rfl
/-! copy -/
def mvL (f g : Nat → Int64) (a j : Nat) : Nat → Int64 := fun k => if k < j then f (a + k) else g k
theorem mvL_s (f g : Nat → Int64) (a j : Nat) : vp_updL (mvL f g a j) j (f (a + j)) = mvL f g a (j + 1) := by
  funext k
  unfold vp_updL mvL
  by_cases h : k = j
  · rw [if_pos h, if_pos (by omega), h]
  · rw [if_neg h]
    by_cases h2 : k < j
    · rw [if_pos h2, if_pos (by omega)]
    · rw [if_neg h2, if_neg (by omega)]
def ptL (f g : Nat → Int64) (a j : Nat) : Nat → Int64 := fun k => if a ≤ k ∧ k < a + j then f (k - a) else g k
theorem ptL_s (f g : Nat → Int64) (a j : Nat) : vp_updL (ptL f g a j) (a + j) (f j) = ptL f g a (j + 1) := by
  funext k
  unfold vp_updL ptL
  by_cases h : k = a + j
  · rw [if_pos h, if_pos (by omega), show k - a = j by omega]
  · rw [if_neg h]
    by_cases h2 : a ≤ k ∧ k < a + j
    · rw [if_pos h2, if_pos (by omega)]
    · rw [if_neg h2, if_neg (by omega)]
theorem add3n (s f k : Nat) : 40 * nI s + nI f + nI k = nI (40 * s + f + k) := by rw [mul40, nI_ad]
theorem mcopy_loop2 (d : Nat) (S : hs_S) (l1 l2 : Option Value) (t o n : Nat) (ht : t < 4) (hn : o + n ≤ 40) : ∀ m j, j + m = n → sx_run d 198 (157, [some (.ref 61), l1, l2, some (.int (nI t)), some (.int (nI o)), some (.int (nI n)), some (.int (nI j))], [], hp (uJ S 70 (ptL (S.2.2.1 71) (S.2.2.1 70) (40 * t + o) j))) = some (some (.int (nI n)), hp (uJ S 70 (ptL (S.2.2.1 71) (S.2.2.1 70) (40 * t + o) n))) := by
  have r71 : ∀ f, (uJ S 70 f).2.2.1 71 = S.2.2.1 71 := fun f => rfl
  intro m
  induction m with
  | zero =>
    intro j hj
    have e : j = n := by omega
    subst e
    rw [ez198_157]
    simp only [ez198_159, ez198_161, if_pos (nI_le (Nat.le_refl j) (show j < 2 ^ 31 by omega)), ez198_192, ez198_194]
  | succ m ih =>
    intro j hj
    rw [ez198_157]
    simp only [ez198_159, ez198_161, ez198_164, ez198_165, ez198_168, ez198_170, ez198_171, ez198_172, ez198_174, ez198_175, ez198_177, ez198_178, ez198_179, ez198_182, ez198_184, ez198_185, ez198_186, ez198_189, if_neg (nI_ge (show j < n by omega) (by omega)), GF_61_20, GF_61_21, Option.bind_some, tl_s, tl_n, bI_eq0, if_true, if_false, not_true, not_false_iff, and_self, Bool.false_eq_true, add3n, GJ_71, PJ_70, in_nI (show j < 40 by omega) (by decide), in_nI (show 40 * t + o + j < 160 by omega) (by decide), nI_clamp (show j < 2 ^ 31 by omega), nI_clamp (show 40 * t + o + j < 2 ^ 31 by omega), r71, uJ_at, uJ_uJ, ptL_s, nI_1]
    exact ih (j + 1) (by omega)
theorem mcopy_loop1 (d : Nat) (S : hs_S) (l3 l4 : Option Value) (s f n : Nat) (hs : s < 4) (hn : f + n ≤ 40) (R : Option sx_R) (hR : ∀ l6, sx_run d 198 (154, [some (.ref 61), some (.int (nI s)), some (.int (nI f)), l3, l4, some (.int (nI n)), l6], [], hp (uJ S 71 (mvL (S.2.2.1 70) (S.2.2.1 71) (40 * s + f) n))) = R) : ∀ m j, j + m = n → sx_run d 198 (120, [some (.ref 61), some (.int (nI s)), some (.int (nI f)), l3, l4, some (.int (nI n)), some (.int (nI j))], [], hp (uJ S 71 (mvL (S.2.2.1 70) (S.2.2.1 71) (40 * s + f) j))) = R := by
  have r70 : ∀ f, (uJ S 71 f).2.2.1 70 = S.2.2.1 70 := fun f => rfl
  intro m
  induction m with
  | zero =>
    intro j hj
    have e : j = n := by omega
    subst e
    rw [ez198_120]
    simp only [ez198_122, ez198_124, if_pos (nI_le (Nat.le_refl j) (show j < 2 ^ 31 by omega))]
    exact hR _
  | succ m ih =>
    intro j hj
    rw [ez198_120]
    simp only [ez198_122, ez198_124, ez198_127, ez198_128, ez198_131, ez198_133, ez198_134, ez198_137, ez198_139, ez198_140, ez198_141, ez198_142, ez198_143, ez198_145, ez198_146, ez198_147, ez198_148, ez198_151, if_neg (nI_ge (show j < n by omega) (by omega)), GF_61_20, GF_61_21, Option.bind_some, tl_s, tl_n, bI_eq0, if_true, if_false, not_true, not_false_iff, and_self, Bool.false_eq_true, add3n, GJ_70, PJ_71, in_nI (show j < 40 by omega) (by decide), in_nI (show 40 * s + f + j < 160 by omega) (by decide), nI_clamp (show j < 2 ^ 31 by omega), nI_clamp (show 40 * s + f + j < 2 ^ 31 by omega), r70, uJ_at, uJ_uJ, mvL_s, nI_1]
    exact ih (j + 1) (by omega)
noncomputable def ml_copy (S : hs_S) (s f t o n : Int32) : Int32 × hs_S :=
  if (0 ≤ s ∧ s < 4) ∧ (0 ≤ t ∧ t < 4) then
    if S.2.1 68 s.toNatClampNeg = 0 ∨ S.2.1 68 t.toNatClampNeg = 0 then (-1000000006, fdM S 5)
    else if S.2.1 68 s.toNatClampNeg = S.2.1 68 t.toNatClampNeg then
      @ite _ (hrP (S.2.1 69 s.toNatClampNeg) f n ∧ hrP (S.2.1 69 t.toNatClampNeg) o n) (Classical.propDecidable _) (n, uJ S 70 (ptL (fun k => S.2.2.1 70 (40 * s.toNatClampNeg + f.toNatClampNeg + k)) (S.2.2.1 70) (40 * t.toNatClampNeg + o.toNatClampNeg) n.toNatClampNeg)) (-1000000001, fdM S 0)
    else (-1000000003, fdM S 2)
  else (-1000000001, fdM S 0)
theorem sub_le {z f n : Nat} (hz : z ≤ 40) (hf : f < 2 ^ 31) (hn : n < 2 ^ 31) : nI n ≤ nI z - nI f ↔ f + n ≤ z := by
  rw [fa_le, fb_subI (by rw [nI_toInt (show z < 2 ^ 31 by omega), nI_toInt hf]; omega) (by rw [nI_toInt (show z < 2 ^ 31 by omega), nI_toInt hf]; omega), nI_toInt hn, nI_toInt hf, nI_toInt (show z < 2 ^ 31 by omega)]
  omega
theorem hrP_iff {z f n : Nat} (hz : z ≤ 40) (hf : f < 2 ^ 31) (hn : n < 2 ^ 31) : hrP (nI z) (nI f) (nI n) ↔ f + n ≤ z := by
  unfold hrP
  rw [nI_toInt hf, nI_toInt hn, nI_toInt (show z < 2 ^ 31 by omega)]
  constructor
  · intro h
    omega
  · intro h
    exact ⟨nI_pos hf, nI_pos hn, by omega⟩
theorem sp_M_copy (d : Nat) (S : hs_S) (s f t o n : Int32) (ok : shM S) : cQ (sx_call (d + 3) 198 [.ref 61, .int s, .int f, .int t, .int o, .int n] (hp S)) (ml_copy S s f t o n) := by
  rw [cz198]
  have f0 := sp_M_finds (d + 1) S 0 (-1000000001) (by decide) (by decide)
  have f2 := sp_M_finds (d + 1) S 2 (-1000000003) (by decide) (by decide)
  have f5 := sp_M_finds (d + 1) S 5 (-1000000006) (by decide) (by decide)
  unfold ml_copy
  by_cases h1 : 0 ≤ s ∧ s < 4
  · obtain ⟨q, hq, rfl⟩ := s4_of h1
    by_cases h2 : 0 ≤ t ∧ t < 4
    · obtain ⟨r, hr, rfl⟩ := s4_of h2
      rw [if_pos ⟨h1, h2⟩, nI_clamp (show q < 2 ^ 31 by omega), nI_clamp (show r < 2 ^ 31 by omega)]
      obtain ⟨z, hz, ez⟩ := ok q hq
      obtain ⟨y, hy, ey⟩ := ok r hr
      have iq := in_nI hq (show 4 < 2 ^ 31 by decide)
      have ir := in_nI hr (show 4 < 2 ^ 31 by decide)
      have cq := nI_clamp (show q < 2 ^ 31 by omega)
      have cr := nI_clamp (show r < 2 ^ 31 by omega)
      by_cases h3 : S.2.1 68 q = 0
      · rw [if_pos (Or.inl h3)]
        refine ⟨_, ?_, jk_refl _⟩
        simp only [ez198_0, ez198_1, ez198_4, ez198_7, ez198_8, ez198_11, ez198_14, ez198_15, ez198_17, ez198_20, ez198_21, ez198_22, ez198_25, ez198_26, ez198_27, ez198_30, ez198_31, ez198_34, ez198_35, ez198_36, ez198_39, ez198_40, ez198_43, ez198_46, sp_M_isOne, Option.bind_some, tl_s, tl_n, bI_eq0, if_true, if_false, not_true, not_false_iff, and_self, Bool.false_eq_true, h1, h2, GF_61_18, GI_68, iq, cq, h3, KL_61, f5]
      · by_cases h4 : S.2.1 68 r = 0
        · rw [if_pos (Or.inr h4)]
          refine ⟨_, ?_, jk_refl _⟩
          simp only [ez198_0, ez198_1, ez198_4, ez198_7, ez198_8, ez198_11, ez198_14, ez198_15, ez198_17, ez198_20, ez198_21, ez198_22, ez198_25, ez198_26, ez198_27, ez198_30, ez198_31, ez198_34, ez198_35, ez198_36, ez198_39, ez198_40, ez198_43, ez198_46, sp_M_isOne, Option.bind_some, tl_s, tl_n, bI_eq0, if_true, if_false, not_true, not_false_iff, and_self, Bool.false_eq_true, h1, h2, GF_61_18, GI_68, iq, cq, ir, cr, h3, h4, KL_61, f5]
        · rw [if_neg (fun z => z.elim h3 h4)]
          by_cases h5 : S.2.1 68 q = S.2.1 68 r
          · rw [if_pos h5, ez, ey]
            have bad : ∀ (hb : ¬ (hrP (nI z) f n ∧ hrP (nI y) o n)), sx_run (d + 2) 198 (69, [some (.ref 61), some (.int (nI q)), some (.int f), some (.int (nI r)), some (.int o), some (.int n), none], [], hp S) = some (some (.int (-1000000001)), hp (fdM S 0)) := by
              intro hb
              by_cases a1 : f < 0
              · simp only [ez198_69, ez198_70, ez198_73, ez198_75, ez198_78, ez198_80, ez198_83, ez198_85, ez198_86, ez198_89, ez198_90, ez198_91, ez198_92, ez198_93, ez198_96, ez198_98, ez198_99, ez198_102, ez198_103, ez198_104, ez198_106, ez198_107, ez198_110, ez198_111, ez198_113, ez198_116, a1, Option.bind_some, tl_s, tl_n, bI_eq0, if_true, if_false, not_true, not_false_iff, and_self, Bool.false_eq_true, KL_61, f0]
              · by_cases a2 : o < 0
                · simp only [ez198_69, ez198_70, ez198_73, ez198_75, ez198_78, ez198_80, ez198_83, ez198_85, ez198_86, ez198_89, ez198_90, ez198_91, ez198_92, ez198_93, ez198_96, ez198_98, ez198_99, ez198_102, ez198_103, ez198_104, ez198_106, ez198_107, ez198_110, ez198_111, ez198_113, ez198_116, a1, a2, Option.bind_some, tl_s, tl_n, bI_eq0, if_true, if_false, not_true, not_false_iff, and_self, Bool.false_eq_true, KL_61, f0]
                · by_cases a3 : n < 0
                  · simp only [ez198_69, ez198_70, ez198_73, ez198_75, ez198_78, ez198_80, ez198_83, ez198_85, ez198_86, ez198_89, ez198_90, ez198_91, ez198_92, ez198_93, ez198_96, ez198_98, ez198_99, ez198_102, ez198_103, ez198_104, ez198_106, ez198_107, ez198_110, ez198_111, ez198_113, ez198_116, a1, a2, a3, Option.bind_some, tl_s, tl_n, bI_eq0, if_true, if_false, not_true, not_false_iff, and_self, Bool.false_eq_true, KL_61, f0]
                  · obtain ⟨fN, hf, rfl⟩ := nI_of a1
                    obtain ⟨oN, ho, rfl⟩ := nI_of a2
                    obtain ⟨nN, hn, rfl⟩ := nI_of a3
                    rw [hrP_iff hz hf hn, hrP_iff hy ho hn] at hb
                    by_cases a4 : nI z - nI fN < nI nN
                    · simp only [ez198_69, ez198_70, ez198_73, ez198_75, ez198_78, ez198_80, ez198_83, ez198_85, ez198_86, ez198_89, ez198_90, ez198_91, ez198_92, ez198_93, ez198_96, ez198_98, ez198_99, ez198_102, ez198_103, ez198_104, ez198_106, ez198_107, ez198_110, ez198_111, ez198_113, ez198_116, a1, a2, a3, Option.bind_some, tl_s, tl_n, bI_eq0, if_true, if_false, not_true, not_false_iff, and_self, Bool.false_eq_true, GF_61_19, GI_69, iq, cq, ez, a4, KL_61, f0]
                    · have a5 : ¬ nI nN ≤ nI y - nI oN := fun w => hb ⟨(sub_le hz hf hn).mp (Int32.not_lt.mp a4), (sub_le hy ho hn).mp w⟩
                      simp only [ez198_69, ez198_70, ez198_73, ez198_75, ez198_78, ez198_80, ez198_83, ez198_85, ez198_86, ez198_89, ez198_90, ez198_91, ez198_92, ez198_93, ez198_96, ez198_98, ez198_99, ez198_102, ez198_103, ez198_104, ez198_106, ez198_107, ez198_110, ez198_111, ez198_113, ez198_116, a1, a2, a3, Option.bind_some, tl_s, tl_n, bI_eq0, if_true, if_false, not_true, not_false_iff, and_self, Bool.false_eq_true, GF_61_19, GI_69, iq, cq, ir, cr, ez, ey, a4, a5, KL_61, f0]
            by_cases h6 : hrP (nI z) f n ∧ hrP (nI y) o n
            · rw [if_pos h6]
              obtain ⟨fN, hf, rfl⟩ := nI_of h6.1.1
              obtain ⟨oN, ho, rfl⟩ := nI_of h6.2.1
              obtain ⟨nN, hn, rfl⟩ := nI_of h6.1.2.1
              have q1 := (hrP_iff hz hf hn).mp h6.1
              have q2 := (hrP_iff hy ho hn).mp h6.2
              rw [nI_clamp hf, nI_clamp ho, nI_clamp hn]
              have lp := mcopy_loop1 (d + 2) S (some (.int (nI r))) (some (.int (nI oN))) q fN nN hq (by omega) (some (some (.int (nI nN)), hp (uJ (uJ S 71 (mvL (S.2.2.1 70) (S.2.2.1 71) (40 * q + fN) nN)) 70 (ptL (mvL (S.2.2.1 70) (S.2.2.1 71) (40 * q + fN) nN) (S.2.2.1 70) (40 * r + oN) nN)))) (fun l6 => by
                have l2 := mcopy_loop2 (d + 2) (uJ S 71 (mvL (S.2.2.1 70) (S.2.2.1 71) (40 * q + fN) nN)) (some (.int (nI q))) (some (.int (nI fN))) r oN nN hr (by omega) nN 0 (by omega)
                have p0 : ∀ f g a, ptL f g a 0 = g := fun f g a => funext fun k => if_neg (by omega)
                rw [p0, uJ_self, uJ_at] at l2
                simp only [ez198_154, ez198_155]
                exact l2) nN 0 (by omega)
              have p1 : mvL (S.2.2.1 70) (S.2.2.1 71) (40 * q + fN) 0 = S.2.2.1 71 := funext fun k => if_neg (by omega)
              rw [p1, uJ_self] at lp
              have e70 : ptL (mvL (S.2.2.1 70) (S.2.2.1 71) (40 * q + fN) nN) (S.2.2.1 70) (40 * r + oN) nN = ptL (fun k => S.2.2.1 70 (40 * q + fN + k)) (S.2.2.1 70) (40 * r + oN) nN := by
                funext k
                unfold ptL mvL
                by_cases w : 40 * r + oN ≤ k ∧ k < 40 * r + oN + nN
                · rw [if_pos w, if_pos w, if_pos (by omega)]
                · rw [if_neg w, if_neg w]
              rw [e70] at lp
              refine ⟨_, ?_, jk_uJ2 (jk_uJ (jk_refl S) (show jJ 71 = true from rfl) (mvL (S.2.2.1 70) (S.2.2.1 71) (40 * q + fN) nN)) 70 _⟩
              simp only [ez198_0, ez198_1, ez198_4, ez198_7, ez198_8, ez198_11, ez198_14, ez198_15, ez198_17, ez198_20, ez198_21, ez198_22, ez198_25, ez198_26, ez198_27, ez198_30, ez198_31, ez198_34, ez198_35, ez198_36, ez198_39, ez198_40, ez198_43, ez198_46, ez198_47, ez198_48, ez198_51, ez198_52, ez198_53, ez198_54, ez198_57, ez198_58, ez198_59, ez198_62, ez198_63, ez198_65, ez198_68, ez198_69, ez198_70, ez198_73, ez198_75, ez198_78, ez198_80, ez198_83, ez198_85, ez198_86, ez198_89, ez198_90, ez198_91, ez198_92, ez198_93, ez198_96, ez198_98, ez198_99, ez198_102, ez198_103, ez198_104, ez198_106, ez198_107, ez198_110, ez198_111, ez198_113, ez198_116, ez198_117, ez198_118, sp_M_isOne, Option.bind_some, tl_s, tl_n, bI_eq0, if_true, if_false, not_true, not_false_iff, and_self, Bool.false_eq_true, h1, h2, GF_61_18, GF_61_19, GI_68, GI_69, iq, cq, ir, cr, h4, h5, ez, ey, h6.1.1, h6.2.1, h6.1.2.1, Int32.not_lt.mpr ((sub_le hz hf hn).mpr q1), (sub_le hy ho hn).mpr q2]
              exact lp
            · rw [if_neg h6]
              refine ⟨_, ?_, jk_refl _⟩
              simp only [ez198_0, ez198_1, ez198_4, ez198_7, ez198_8, ez198_11, ez198_14, ez198_15, ez198_17, ez198_20, ez198_21, ez198_22, ez198_25, ez198_26, ez198_27, ez198_30, ez198_31, ez198_34, ez198_35, ez198_36, ez198_39, ez198_40, ez198_43, ez198_46, ez198_47, ez198_48, ez198_51, ez198_52, ez198_53, ez198_54, ez198_57, ez198_58, ez198_59, sp_M_isOne, Option.bind_some, tl_s, tl_n, bI_eq0, if_true, if_false, not_true, not_false_iff, and_self, Bool.false_eq_true, h1, h2, GF_61_18, GI_68, iq, cq, ir, cr, h4, h5]
              exact bad h6
          · rw [if_neg h5]
            refine ⟨_, ?_, jk_refl _⟩
            simp only [ez198_0, ez198_1, ez198_4, ez198_7, ez198_8, ez198_11, ez198_14, ez198_15, ez198_17, ez198_20, ez198_21, ez198_22, ez198_25, ez198_26, ez198_27, ez198_30, ez198_31, ez198_34, ez198_35, ez198_36, ez198_39, ez198_40, ez198_43, ez198_46, ez198_47, ez198_48, ez198_51, ez198_52, ez198_53, ez198_54, ez198_57, ez198_58, ez198_59, ez198_62, ez198_63, ez198_65, ez198_68, sp_M_isOne, Option.bind_some, tl_s, tl_n, bI_eq0, if_true, if_false, not_true, not_false_iff, and_self, Bool.false_eq_true, h1, h2, GF_61_18, GI_68, iq, cq, ir, cr, h3, h4, h5, KL_61, f2]
    · rw [if_neg (fun z => h2 z.2)]
      refine ⟨_, ?_, jk_refl _⟩
      simp only [ez198_0, ez198_1, ez198_4, ez198_7, ez198_8, ez198_11, ez198_14, ez198_15, ez198_17, ez198_20, sp_M_isOne, Option.bind_some, tl_s, tl_n, bI_eq0, if_true, if_false, not_true, not_false_iff, and_self, Bool.false_eq_true, h1, h2, KL_61, f0]
  · rw [if_neg (fun z => h1 z.1)]
    refine ⟨_, ?_, jk_refl _⟩
    simp only [ez198_0, ez198_1, ez198_4, ez198_7, ez198_8, ez198_11, ez198_14, ez198_15, ez198_17, ez198_20, sp_M_isOne, Option.bind_some, tl_s, tl_n, bI_eq0, if_true, if_false, not_true, not_false_iff, and_self, Bool.false_eq_true, h1, KL_61, f0]
/-! lays -/
def lyR (f : Nat → Int64) (r : Nat → Int32) (j : Nat) : Nat → Int32 := fun i => if (19 ≤ i ∧ i < 19 + j) ∧ lyQ f (i - 19) = true then (f (i - 19)).toInt32 else r i
theorem lyR_t (f : Nat → Int64) (r : Nat → Int32) (j : Nat) (h : lyQ f j = true) : upd (lyR f r j) (19 + j) (f j).toInt32 = lyR f r (j + 1) := by
  funext i
  unfold upd lyR
  by_cases e : i = 19 + j
  · subst e
    rw [if_pos rfl, show 19 + j - 19 = j by omega, if_pos ⟨by omega, h⟩]
  · rw [if_neg e]
    by_cases h2 : (19 ≤ i ∧ i < 19 + j) ∧ lyQ f (i - 19) = true
    · rw [if_pos h2, if_pos ⟨by omega, h2.2⟩]
    · rw [if_neg h2, if_neg (fun z => h2 ⟨by omega, z.2⟩)]
theorem lyR_f (f : Nat → Int64) (r : Nat → Int32) (j : Nat) (h : ¬ lyQ f j = true) : upd (lyR f r j) (19 + j) (lyR f r j (19 + j)) = lyR f r (j + 1) := by
  rw [fa_upd_same rfl]
  funext i
  unfold lyR
  by_cases h2 : (19 ≤ i ∧ i < 19 + j) ∧ lyQ f (i - 19) = true
  · rw [if_pos h2, if_pos ⟨by omega, h2.2⟩]
  · rw [if_neg h2, if_neg]
    intro z
    by_cases e : i = 19 + j
    · have z2 := z.2
      rw [e, show 19 + j - 19 = j by omega] at z2
      exact h z2
    · exact h2 ⟨by omega, z.2⟩
theorem mlays_loop (d : Nat) (S : hs_S) (s z : Nat) (hs : s < 4) (hz : z ≤ 40) (ez : S.2.1 69 s = nI z) (l2 : Option Value) : ∀ m i l5, i + m = min z 16 → sx_run (d + 1) 199 (21, [some (.ref 61), some (.int (nI s)), l2, some (.int (nI (fa_cnt (lyQ (fun k => S.2.2.1 70 (40 * s + k))) i))), some (.int (nI i)), l5], [], hp (uI S 62 (lyR (fun k => S.2.2.1 70 (40 * s + k)) (S.2.1 62) i))) = o1 (nI (fa_cnt (lyQ (fun k => S.2.2.1 70 (40 * s + k))) (min z 16)), uI S 62 (lyR (fun k => S.2.2.1 70 (40 * s + k)) (S.2.1 62) (min z 16))) := by
  have r69 : ∀ f, (uI S 62 f).2.1 69 = S.2.1 69 := fun f => rfl
  have is := in_nI hs (show 4 < 2 ^ 31 by decide)
  have cs := nI_clamp (show s < 2 ^ 31 by omega)
  intro m
  induction m with
  | zero =>
    intro i l5 hi
    have ei : i = min z 16 := by omega
    rw [← ei]
    rw [ez199_21]
    by_cases g : z ≤ i
    · simp only [ez199_23, ez199_24, ez199_27, ez199_28, ez199_29, GF_61_19, Option.bind_some, tl_s, tl_n, bI_eq0, if_true, if_false, not_true, not_false_iff, and_self, Bool.false_eq_true, GI_69, is, cs, r69, ez, if_pos (nI_le g (show i < 2 ^ 31 by omega)), ez199_120, ez199_121]
      rfl
    · have e16 : i = 16 := by omega
      subst e16
      simp only [ez199_23, ez199_24, ez199_27, ez199_28, ez199_29, ez199_32, ez199_34, ez199_36, GF_61_19, Option.bind_some, tl_s, tl_n, bI_eq0, if_true, if_false, not_true, not_false_iff, and_self, Bool.false_eq_true, GI_69, is, cs, r69, ez, if_neg (nI_ge (show 16 < z by omega) (by omega)), if_pos (show (16 : Int32) ≤ nI 16 by decide), ez199_120, ez199_121]
      rfl
  | succ m ih =>
    intro i l5 hi
    have i160 := in_nI (show 40 * s + i < 160 by omega) (by decide)
    have c160 := nI_clamp (show 40 * s + i < 2 ^ 31 by omega)
    have i19 := in_nI (show 19 + i < 83 by omega) (by decide)
    have c19 := nI_clamp (show 19 + i < 2 ^ 31 by omega)
    have g1 := nI_ge (show i < z by omega) (show z < 2 ^ 31 by omega)
    have g2 := ge16 (n := 16) rfl (show i < 16 by omega)
    have ie := fun l => ih (i + 1) l (by omega)
    rw [ez199_21]
    by_cases q : lyQ (fun k => S.2.2.1 70 (40 * s + k)) i = true
    · have q2 := q
      unfold lyQ at q2
      simp only [Bool.and_eq_true, decide_eq_true_eq] at q2
      rw [fa_cnt_yes q, ← lyR_t _ _ _ q] at ie
      simp only [ez199_23, ez199_24, ez199_27, ez199_28, ez199_29, ez199_32, ez199_34, ez199_36, ez199_39, ez199_40, ez199_43, ez199_45, ez199_46, ez199_47, ez199_49, ez199_50, ez199_51, ez199_52, ez199_55, ez199_58, ez199_60, ez199_61, ez199_64, ez199_66, ez199_68, ez199_69, ez199_71, ez199_74, ez199_75, ez199_78, ez199_80, ez199_81, ez199_82, ez199_84, ez199_85, ez199_86, ez199_87, ez199_90, ez199_91, ez199_94, ez199_96, ez199_98, ez199_99, ez199_100, ez199_101, ez199_102, ez199_104, ez199_107, ez199_108, ez199_111, ez199_112, ez199_113, ez199_114, ez199_117, GF_61_0, GF_61_19, GF_61_20, Option.bind_some, tl_s, tl_n, bI_eq0, if_true, if_false, not_true, not_false_iff, and_self, Bool.false_eq_true, GI_69, is, cs, r69, ez, if_neg g1, if_neg g2, mul40, GJ_70, i160, c160, sp_M_in, q2, add19, PI_62, i19, c19, uI_at, uI_uI, nI_1, uI_3]
      exact ie _
    · have q2 : ¬ (0 ≤ S.2.2.1 70 (40 * s + i) ∧ S.2.2.1 70 (40 * s + i) ≤ 99) := fun y => q (by unfold lyQ; simp only [Bool.and_eq_true, decide_eq_true_eq]; exact y)
      rw [fa_cnt_no (ts_nt q), ← lyR_f _ _ _ q] at ie
      simp only [ez199_23, ez199_24, ez199_27, ez199_28, ez199_29, ez199_32, ez199_34, ez199_36, ez199_39, ez199_40, ez199_43, ez199_45, ez199_46, ez199_47, ez199_49, ez199_50, ez199_51, ez199_52, ez199_55, ez199_58, ez199_60, ez199_61, ez199_64, ez199_66, ez199_68, ez199_69, ez199_71, ez199_74, ez199_75, ez199_78, ez199_80, ez199_81, ez199_82, ez199_84, ez199_85, ez199_86, ez199_87, ez199_90, ez199_91, ez199_94, ez199_96, ez199_98, ez199_99, ez199_100, ez199_101, ez199_102, ez199_104, ez199_107, ez199_108, ez199_111, ez199_112, ez199_113, ez199_114, ez199_117, GF_61_0, GF_61_19, GF_61_20, Option.bind_some, tl_s, tl_n, bI_eq0, if_true, if_false, not_true, not_false_iff, and_self, Bool.false_eq_true, GI_69, is, cs, r69, ez, if_neg g1, if_neg g2, mul40, GJ_70, i160, c160, sp_M_in, q2, add19, GI_62, PI_62, i19, c19, uI_at, uI_uI, i32_add0, nI_1, uI_3]
      exact ie _
def ml_lays (S : hs_S) (s : Int32) : Int32 × hs_S :=
  if 0 ≤ s ∧ s < 4 then
    if S.2.1 68 s.toNatClampNeg = 0 then (-1000000006, fdM S 5)
    else (nI (fa_cnt (lyQ (fun k => S.2.2.1 70 (40 * s.toNatClampNeg + k))) (min (S.2.1 69 s.toNatClampNeg).toNatClampNeg 16)), uI S 62 (lyR (fun k => S.2.2.1 70 (40 * s.toNatClampNeg + k)) (S.2.1 62) (min (S.2.1 69 s.toNatClampNeg).toNatClampNeg 16)))
  else (-1000000001, fdM S 0)
theorem sp_M_lays (d : Nat) (S : hs_S) (s : Int32) (ok : shM S) : sx_call (d + 4) 199 [.ref 61, .int s] (hp S) = o1 (ml_lays S s) := by
  rw [cz199]
  have f0 := sp_M_finds (d + 2) S 0 (-1000000001) (by decide) (by decide)
  have f5 := sp_M_finds (d + 2) S 5 (-1000000006) (by decide) (by decide)
  have ws := sp_M_wrongSheet d S s
  have m1 : ¬ ((-1000000001 : Int32) = 0) := by decide
  have m6 : ¬ ((-1000000006 : Int32) = 0) := by decide
  unfold ml_lays
  unfold wsR at ws
  by_cases h1 : 0 ≤ s ∧ s < 4
  · rw [if_pos h1] at ws ⊢
    obtain ⟨q, hq, rfl⟩ := s4_of h1
    rw [nI_clamp (show q < 2 ^ 31 by omega)] at ws ⊢
    obtain ⟨z, hz, ez⟩ := ok q hq
    by_cases h2 : S.2.1 68 q = 0
    · rw [if_pos h2] at ws ⊢
      simp only [ez199_0, ez199_1, ez199_2, ez199_5, ez199_6, ez199_7, ez199_10, ez199_11, ez199_12, ez199_15, KL_61, Option.bind_some, tl_s, tl_n, bI_eq0, if_true, if_false, not_true, not_false_iff, and_self, Bool.false_eq_true, ws, m6, f5]
      rfl
    · rw [if_neg h2] at ws ⊢
      rw [ez, nI_clamp (show z < 2 ^ 31 by omega)]
      have l := mlays_loop (d + 2) S q z hq hz ez (some (.int 0)) (min z 16) 0 none (by omega)
      have e0 : lyR (fun k => S.2.2.1 70 (40 * q + k)) (S.2.1 62) 0 = S.2.1 62 := funext fun k => if_neg (by omega)
      rw [e0, uI_self] at l
      simp only [ez199_0, ez199_1, ez199_2, ez199_5, ez199_6, ez199_7, ez199_10, ez199_11, ez199_12, ez199_15, ez199_16, ez199_17, ez199_18, ez199_19, KL_61, Option.bind_some, tl_s, tl_n, bI_eq0, if_true, if_false, not_true, not_false_iff, and_self, Bool.false_eq_true, ws]
      exact l
  · rw [if_neg h1] at ws ⊢
    simp only [ez199_0, ez199_1, ez199_2, ez199_5, ez199_6, ez199_7, ez199_10, ez199_11, ez199_12, ez199_15, KL_61, Option.bind_some, tl_s, tl_n, bI_eq0, if_true, if_false, not_true, not_false_iff, and_self, Bool.false_eq_true, ws, m1, f0]
    rfl
