/-! THE MODEL: rows copied; image, undo, count, status, feed -/
theorem saves_loop (d : Nat) (S : hs_S) (R : Option sx_R) (hR : sx_run d 119 (26, [some (.ref 61), some (.int (nI 83))], [], hp (uI S 64 (fa_fill (S.2.1 62) (S.2.1 64) 83))) = R) : ∀ m j, j + m = 83 → sx_run d 119 (2, [some (.ref 61), some (.int (nI j))], [], hp (uI S 64 (fa_fill (S.2.1 62) (S.2.1 64) j))) = R := by
  have rA : ∀ f, (uI S 64 f).2.1 62 = S.2.1 62 := fun f => rfl
  intro m
  induction m with
  | zero =>
    intro j hj
    have e : j = 83 := by omega
    subst e
    rw [ez119_2]
    simp only [ez119_3, ez119_5, if_pos (show (83 : Int32) ≤ nI 83 by decide)]
    exact hR
  | succ m ih =>
    intro j hj
    have g : ¬ (83 : Int32) ≤ nI j := nI_ge (b := 83) (show j < 83 by omega) (by omega)
    rw [ez119_2]
    simp only [ez119_3, ez119_5, ez119_8, ez119_9, ez119_12, ez119_13, ez119_14, ez119_17, ez119_18, ez119_19, ez119_20, ez119_23, if_neg g, GF_61_0, GF_61_2, Option.bind_some, GI_62, PI_64, in_nI (show j < 83 by omega) (by decide), if_true, nI_clamp (show j < 2 ^ 31 by omega), rA, uI_at, uI_uI, fa_fill_succ, nI_1]
    exact ih (j + 1) (by omega)
theorem sp_M_saves (d : Nat) (S : hs_S) : sx_call (d + 1) 119 [.ref 61] (hp S) = some (none, hp (uI S 64 (fa_fill (S.2.1 62) (S.2.1 64) 83))) := by
  rw [cz119]
  have l := saves_loop d S _ (show _ = some (none, hp (uI S 64 (fa_fill (S.2.1 62) (S.2.1 64) 83))) by simp only [ez119_26]) 83 0 (by omega)
  rw [fa_fill_0, uI_self] at l
  simp only [ez119_0, ez119_1]
  exact l
theorem putsBack_loop (d : Nat) (S : hs_S) (R : Option sx_R) (hR : sx_run d 120 (26, [some (.ref 61), some (.int (nI 83))], [], hp (uI S 62 (fa_fill (S.2.1 64) (S.2.1 62) 83))) = R) : ∀ m j, j + m = 83 → sx_run d 120 (2, [some (.ref 61), some (.int (nI j))], [], hp (uI S 62 (fa_fill (S.2.1 64) (S.2.1 62) j))) = R := by
  have rA : ∀ f, (uI S 62 f).2.1 64 = S.2.1 64 := fun f => rfl
  intro m
  induction m with
  | zero =>
    intro j hj
    have e : j = 83 := by omega
    subst e
    rw [ez120_2]
    simp only [ez120_3, ez120_5, if_pos (show (83 : Int32) ≤ nI 83 by decide)]
    exact hR
  | succ m ih =>
    intro j hj
    have g : ¬ (83 : Int32) ≤ nI j := nI_ge (b := 83) (show j < 83 by omega) (by omega)
    rw [ez120_2]
    simp only [ez120_3, ez120_5, ez120_8, ez120_9, ez120_12, ez120_13, ez120_14, ez120_17, ez120_18, ez120_19, ez120_20, ez120_23, if_neg g, GF_61_2, GF_61_0, Option.bind_some, GI_64, PI_62, in_nI (show j < 83 by omega) (by decide), if_true, nI_clamp (show j < 2 ^ 31 by omega), rA, uI_at, uI_uI, fa_fill_succ, nI_1]
    exact ih (j + 1) (by omega)
theorem sp_M_putsBack (d : Nat) (S : hs_S) : sx_call (d + 1) 120 [.ref 61] (hp S) = some (none, hp (uI S 62 (fa_fill (S.2.1 64) (S.2.1 62) 83))) := by
  rw [cz120]
  have l := putsBack_loop d S _ (show _ = some (none, hp (uI S 62 (fa_fill (S.2.1 64) (S.2.1 62) 83))) by simp only [ez120_26]) 83 0 (by omega)
  rw [fa_fill_0, uI_self] at l
  simp only [ez120_0, ez120_1]
  exact l
theorem laysAside_loop (d : Nat) (S : hs_S) (R : Option sx_R) (hR : sx_run d 121 (26, [some (.ref 61), some (.int (nI 83))], [], hp (uI S 65 (fa_fill (S.2.1 62) (S.2.1 65) 83))) = R) : ∀ m j, j + m = 83 → sx_run d 121 (2, [some (.ref 61), some (.int (nI j))], [], hp (uI S 65 (fa_fill (S.2.1 62) (S.2.1 65) j))) = R := by
  have rA : ∀ f, (uI S 65 f).2.1 62 = S.2.1 62 := fun f => rfl
  intro m
  induction m with
  | zero =>
    intro j hj
    have e : j = 83 := by omega
    subst e
    rw [ez121_2]
    simp only [ez121_3, ez121_5, if_pos (show (83 : Int32) ≤ nI 83 by decide)]
    exact hR
  | succ m ih =>
    intro j hj
    have g : ¬ (83 : Int32) ≤ nI j := nI_ge (b := 83) (show j < 83 by omega) (by omega)
    rw [ez121_2]
    simp only [ez121_3, ez121_5, ez121_8, ez121_9, ez121_12, ez121_13, ez121_14, ez121_17, ez121_18, ez121_19, ez121_20, ez121_23, if_neg g, GF_61_0, GF_61_3, Option.bind_some, GI_62, PI_65, in_nI (show j < 83 by omega) (by decide), if_true, nI_clamp (show j < 2 ^ 31 by omega), rA, uI_at, uI_uI, fa_fill_succ, nI_1]
    exact ih (j + 1) (by omega)
theorem sp_M_laysAside (d : Nat) (S : hs_S) : sx_call (d + 1) 121 [.ref 61] (hp S) = some (none, hp (uI S 65 (fa_fill (S.2.1 62) (S.2.1 65) 83))) := by
  rw [cz121]
  have l := laysAside_loop d S _ (show _ = some (none, hp (uI S 65 (fa_fill (S.2.1 62) (S.2.1 65) 83))) by simp only [ez121_26]) 83 0 (by omega)
  rw [fa_fill_0, uI_self] at l
  simp only [ez121_0, ez121_1]
  exact l
theorem takesBack_loop (d : Nat) (S : hs_S) (l1 : Option Value) (R : Option sx_R) (hR : sx_run d 122 (26, [some (.ref 61), l1, some (.int (nI 83))], [], hp (uI S 62 (fa_fill (S.2.1 65) (S.2.1 62) 83))) = R) : ∀ m j, j + m = 83 → sx_run d 122 (2, [some (.ref 61), l1, some (.int (nI j))], [], hp (uI S 62 (fa_fill (S.2.1 65) (S.2.1 62) j))) = R := by
  have rA : ∀ f, (uI S 62 f).2.1 65 = S.2.1 65 := fun f => rfl
  intro m
  induction m with
  | zero =>
    intro j hj
    have e : j = 83 := by omega
    subst e
    rw [ez122_2]
    simp only [ez122_3, ez122_5, if_pos (show (83 : Int32) ≤ nI 83 by decide)]
    exact hR
  | succ m ih =>
    intro j hj
    have g : ¬ (83 : Int32) ≤ nI j := nI_ge (b := 83) (show j < 83 by omega) (by omega)
    rw [ez122_2]
    simp only [ez122_3, ez122_5, ez122_8, ez122_9, ez122_12, ez122_13, ez122_14, ez122_17, ez122_18, ez122_19, ez122_20, ez122_23, if_neg g, GF_61_3, GF_61_0, Option.bind_some, GI_65, PI_62, in_nI (show j < 83 by omega) (by decide), if_true, nI_clamp (show j < 2 ^ 31 by omega), rA, uI_at, uI_uI, fa_fill_succ, nI_1]
    exact ih (j + 1) (by omega)
theorem sp_M_takesBack (d : Nat) (S : hs_S) (v : Int32) : sx_call (d + 1) 122 [.ref 61, .int v] (hp S) = some (some (.int v), hp (uI S 62 (fa_fill (S.2.1 65) (S.2.1 62) 83))) := by
  rw [cz122]
  have l := takesBack_loop d S (some (.int v)) _ (show _ = some (some (.int v), hp (uI S 62 (fa_fill (S.2.1 65) (S.2.1 62) 83))) by simp only [ez122_26, ez122_27]) 83 0 (by omega)
  rw [fa_fill_0, uI_self] at l
  simp only [ez122_0, ez122_1]
  exact l
theorem image_loop (d : Nat) (S : hs_S) (R : Option sx_R) (hR : sx_run d 203 (26, [some (.ref 61), some (.int (nI 83))], [], hp (uI S 63 (fa_fill (S.2.1 62) (S.2.1 63) 83))) = R) : ∀ m j, j + m = 83 → sx_run d 203 (2, [some (.ref 61), some (.int (nI j))], [], hp (uI S 63 (fa_fill (S.2.1 62) (S.2.1 63) j))) = R := by
  have rA : ∀ f, (uI S 63 f).2.1 62 = S.2.1 62 := fun f => rfl
  intro m
  induction m with
  | zero =>
    intro j hj
    have e : j = 83 := by omega
    subst e
    rw [ez203_2]
    simp only [ez203_3, ez203_5, if_pos (show (83 : Int32) ≤ nI 83 by decide)]
    exact hR
  | succ m ih =>
    intro j hj
    have g : ¬ (83 : Int32) ≤ nI j := nI_ge (b := 83) (show j < 83 by omega) (by omega)
    rw [ez203_2]
    simp only [ez203_3, ez203_5, ez203_8, ez203_9, ez203_12, ez203_13, ez203_14, ez203_17, ez203_18, ez203_19, ez203_20, ez203_23, if_neg g, GF_61_0, GF_61_1, Option.bind_some, GI_62, PI_63, in_nI (show j < 83 by omega) (by decide), if_true, nI_clamp (show j < 2 ^ 31 by omega), rA, uI_at, uI_uI, fa_fill_succ, nI_1]
    exact ih (j + 1) (by omega)
theorem sp_M_image (d : Nat) (S : hs_S) : sx_call (d + 1) 203 [.ref 61] (hp S) = o1 (1, uF (uI S 63 (fa_fill (S.2.1 62) (S.2.1 63) 83)) 61 5 1) := by
  rw [cz203]
  have l := image_loop d S _ (show _ = some (some (.int 1), hp (uF (uI S 63 (fa_fill (S.2.1 62) (S.2.1 63) 83)) 61 5 1)) by simp only [ez203_26, ez203_27, ez203_28, ez203_31, ez203_32, isB_1, if_true, PF_61_5, Option.bind_some]) 83 0 (by omega)
  rw [fa_fill_0, uI_self] at l
  simp only [ez203_0, ez203_1]
  exact l
theorem undo_loop (d : Nat) (S : hs_S) (R : Option sx_R) (hR : sx_run d 204 (40, [some (.ref 61), some (.int (nI 83))], [], hp (uI S 62 (fa_fill (S.2.1 63) (S.2.1 62) 83))) = R) : ∀ m j, j + m = 83 → sx_run d 204 (16, [some (.ref 61), some (.int (nI j))], [], hp (uI S 62 (fa_fill (S.2.1 63) (S.2.1 62) j))) = R := by
  have rA : ∀ f, (uI S 62 f).2.1 63 = S.2.1 63 := fun f => rfl
  intro m
  induction m with
  | zero =>
    intro j hj
    have e : j = 83 := by omega
    subst e
    rw [ez204_16]
    simp only [ez204_17, ez204_19, if_pos (show (83 : Int32) ≤ nI 83 by decide)]
    exact hR
  | succ m ih =>
    intro j hj
    have g : ¬ (83 : Int32) ≤ nI j := nI_ge (b := 83) (show j < 83 by omega) (by omega)
    rw [ez204_16]
    simp only [ez204_17, ez204_19, ez204_22, ez204_23, ez204_26, ez204_27, ez204_28, ez204_31, ez204_32, ez204_33, ez204_34, ez204_37, if_neg g, GF_61_1, GF_61_0, Option.bind_some, GI_63, PI_62, in_nI (show j < 83 by omega) (by decide), if_true, nI_clamp (show j < 2 ^ 31 by omega), rA, uI_at, uI_uI, fa_fill_succ, nI_1]
    exact ih (j + 1) (by omega)
def ml_undo (S : hs_S) : Int32 × hs_S := if S.1 61 5 = 0 then (-1000000004, fdM S 3) else (S.2.1 63 0, uI S 62 (fa_fill (S.2.1 63) (S.2.1 62) 83))
theorem sp_M_undo (d : Nat) (S : hs_S) : sx_call (d + 2) 204 [.ref 61] (hp S) = o1 (ml_undo S) := by
  rw [cz204]
  unfold ml_undo
  by_cases h : S.1 61 5 = 0
  · rw [if_pos h]
    simp only [ez204_0, ez204_1, ez204_4, ez204_7, ez204_8, ez204_10, ez204_13, GF_61_5, Option.bind_some, tl_s, tl_n, bI_eq0, if_true, if_false, not_true, not_false_iff, and_self, Bool.false_eq_true, h, KL_61, sp_M_finds d S 3 (-1000000004) (by decide) (by decide)]
    rfl
  · rw [if_neg h]
    have e0 : fa_fill (S.2.1 63) (S.2.1 62) 83 0 = S.2.1 63 0 := fa_fill_in (by decide)
    have l := undo_loop (d + 1) S _ (show _ = some (some (.int (S.2.1 63 0)), hp (uI S 62 (fa_fill (S.2.1 63) (S.2.1 62) 83))) by simp only [ez204_40, ez204_41, ez204_44, ez204_45, ez204_46, GF_61_0, Option.bind_some, GI_62, c83_0, cl_0, if_true, uI_at, e0]) 83 0 (by omega)
    rw [fa_fill_0, uI_self] at l
    simp only [ez204_0, ez204_1, ez204_4, ez204_7, ez204_8, ez204_10, ez204_13, ez204_14, ez204_15, GF_61_5, Option.bind_some, tl_s, tl_n, bI_eq0, if_true, if_false, not_true, not_false_iff, and_self, Bool.false_eq_true, h]
    exact l
/-- how many ones: as the model counts them -/
def onF : Nat → Nat → Nat → Nat
  | 0, _, n => n
  | m + 1, k, n => if k = 0 then n else onF m (k &&& (k - 1)) (n + 1)
theorem onF_fuel (k n : Nat) : ∀ m m', k ≤ m → k ≤ m' → onF m k n = onF m' k n := by
  intro m
  induction m generalizing k n with
  | zero =>
    intro m' h1 h2
    have e : k = 0 := by omega
    subst e
    cases m' <;> rfl
  | succ m ih =>
    intro m' h1 h2
    by_cases e : k = 0
    · subst e
      cases m' <;> rfl
    · cases m' with
      | zero => omega
      | succ m' =>
        unfold onF
        rw [if_neg e, if_neg e]
        have := Nat.and_le_right (n := k) (m := k - 1)
        exact ih (k &&& (k - 1)) (n + 1) m' (by omega) (by omega)
theorem ones_loop (d : Nat) (h : sx_H) (l0 : Option Value) : ∀ m k n, k ≤ m → k < 2 ^ 31 → sx_run d 207 (4, [l0, some (.int (nI n)), some (.int (nI k))], [], h) = some (some (.int (nI (onF m k n))), h) := by
  intro m
  induction m with
  | zero =>
    intro k n hk h31
    have e : k = 0 := by omega
    subst e
    rw [ez207_4]
    simp only [ez207_5, if_pos (show nI 0 = 0 by decide), ez207_20, ez207_21]
    rfl
  | succ m ih =>
    intro k n hk h31
    unfold onF
    rw [ez207_4]
    by_cases e : k = 0
    · subst e
      rw [if_pos rfl]
      simp only [ez207_5, if_pos (show nI 0 = 0 by decide), ez207_20, ez207_21]
    · rw [if_neg e]
      have p : nI k - 1 = nI (k - 1) := by
        obtain ⟨j, rfl⟩ : ∃ j, k = j + 1 := ⟨k - 1, by omega⟩
        exact nI_pred j
      have le := Nat.and_le_right (n := k) (m := k - 1)
      simp only [ez207_5, ez207_8, ez207_11, ez207_12, ez207_13, ez207_14, ez207_15, ez207_16, ez207_17, if_neg (nI_ne0 (show 0 < k by omega) h31), p, fa_and, nI_1]
      exact ih (k &&& (k - 1)) (n + 1) (by omega) (by omega)
theorem sp_M_ones (d : Nat) (k : Nat) (h : sx_H) (hk : k < 65536) : sx_call (d + 1) 207 [.int (nI k)] h = some (some (.int (nI (onF 65536 k 0))), h) := by
  rw [cz207]
  simp only [ez207_0, ez207_1, ez207_2, ez207_3]
  exact ones_loop d h _ 65536 k 0 (by omega) (by omega)
def stS (r : Nat → Int32) (w : Int32) : Nat → Int32
  | 0 => 0
  | j + 1 => stS r w j + (if w < 0 ∨ nI j = w then r j else 0)
theorem mstatus_loop (d : Nat) (S : hs_S) (w : Int32) : ∀ m j, j + m = 7 → sx_run d 209 (25, [some (.ref 61), some (.int w), some (.int (stS (S.2.1 66) w j)), some (.int (nI j))], [], hp S) = o1 (stS (S.2.1 66) w 7, S) := by
  intro m
  induction m with
  | zero =>
    intro j hj
    have e : j = 7 := by omega
    subst e
    rw [ez209_25]
    simp only [ez209_26, ez209_28, if_pos (show (7 : Int32) ≤ nI 7 by decide), ez209_59, ez209_60]
    rfl
  | succ m ih =>
    intro j hj
    have g : ¬ (7 : Int32) ≤ nI j := nI_ge (b := 7) (show j < 7 by omega) (by omega)
    have k := ih (j + 1) (by omega)
    unfold stS at k
    rw [ez209_25]
    by_cases h1 : w < 0
    · rw [if_pos (Or.inl h1)] at k
      simp only [ez209_26, ez209_28, ez209_31, ez209_32, ez209_33, ez209_36, ez209_37, ez209_38, ez209_41, ez209_42, ez209_45, ez209_46, ez209_47, ez209_50, ez209_51, ez209_52, ez209_53, ez209_56, if_neg g, h1, if_true, GF_61_4, Option.bind_some, GI_66, in_nI (show j < 7 by omega) (by decide), nI_clamp (show j < 2 ^ 31 by omega), nI_1]
      exact k
    · by_cases h2 : nI j = w
      · rw [if_pos (Or.inr h2)] at k
        subst h2
        simp only [ez209_26, ez209_28, ez209_31, ez209_32, ez209_33, ez209_36, ez209_37, ez209_38, ez209_41, ez209_42, ez209_45, ez209_46, ez209_47, ez209_50, ez209_51, ez209_52, ez209_53, ez209_56, if_neg g, h1, not_true, if_true, if_false, GF_61_4, Option.bind_some, GI_66, in_nI (show j < 7 by omega) (by decide), nI_clamp (show j < 2 ^ 31 by omega), nI_1]
        exact k
      · rw [if_neg (fun z => z.elim h1 h2)] at k
        simp only [ez209_26, ez209_28, ez209_31, ez209_32, ez209_33, ez209_36, ez209_37, ez209_38, ez209_41, ez209_42, ez209_45, ez209_46, ez209_47, ez209_50, ez209_51, ez209_52, ez209_53, ez209_56, if_neg g, h1, h2, not_false_iff, if_true, if_false, nI_1]
        exact k
def ml_status (S : hs_S) (w : Int32) : Int32 × hs_S := if -1 ≤ w ∧ w ≤ 6 then (stS (S.2.1 66) w 7, S) else (-1000000001, fdM S 0)
theorem sp_M_status (d : Nat) (S : hs_S) (w : Int32) : sx_call (d + 2) 209 [.ref 61, .int w] (hp S) = o1 (ml_status S w) := by
  rw [cz209]
  have f0 := sp_M_finds d S 0 (-1000000001) (by decide) (by decide)
  unfold ml_status
  by_cases h : -1 ≤ w ∧ w ≤ 6
  · rw [if_pos h]
    simp only [ez209_0, ez209_1, ez209_2, ez209_5, ez209_8, ez209_11, ez209_14, ez209_15, ez209_17, ez209_20, ez209_21, ez209_22, ez209_23, ez209_24, sp_M_in, wl_0, wl_1, wl_2, wl_m1, wl_97, wl_48, wu_1, wu_3, wu_4, wu_5, wu_6, wu_9, wu_15, wu_48, wu_57, wu_60, wu_99, wu_122, wu_99999, wu_999999, Option.bind_some, tl_s, tl_n, bI_eq0, if_true, if_false, not_true, not_false_iff, and_self, Bool.false_eq_true, h]
    exact mstatus_loop (d + 1) S w 7 0 (by omega)
  · rw [if_neg h]
    simp only [ez209_0, ez209_1, ez209_2, ez209_5, ez209_8, ez209_11, ez209_14, ez209_15, ez209_17, ez209_20, sp_M_in, wl_0, wl_1, wl_2, wl_m1, wl_97, wl_48, wu_1, wu_3, wu_4, wu_5, wu_6, wu_9, wu_15, wu_48, wu_57, wu_60, wu_99, wu_122, wu_99999, wu_999999, Option.bind_some, tl_s, tl_n, bI_eq0, if_true, if_false, not_true, not_false_iff, and_self, Bool.false_eq_true, h, KL_61, f0]
    rfl
/-- one byte more -/
def apM (S : hs_S) (L : Nat) (b : Int32) : hs_S := uF (uI S 67 (upd (S.2.1 67) L b)) 61 13 (nI (L + 1))
def fdM4 (x : Int32) : Nat → Nat → hs_S → hs_S
  | 0, _, S => S
  | i + 1, L, S => fdM4 x i (L + 1) (apM S L (x >>> ((8 * nI i) &&& 31) &&& 255))
theorem mfeed_loop (d : Nat) (x : Int32) (l2 : Option Value) : ∀ i L S, S.1 61 13 = nI L → L + i ≤ 120 → sx_run d 178 (41, [some (.ref 61), some (.int x), l2, some (.int (nI i - 1))], [], hp S) = o1 (nI (L + i), fdM4 x i L S) := by
  intro i
  induction i with
  | zero =>
    intro L S h hL
    rw [ez178_41]
    simp only [ez178_42, if_pos (show nI 0 - 1 < 0 by decide), ez178_80, ez178_81, ez178_84, GF_61_13, Option.bind_some, h]
    rfl
  | succ i ih =>
    intro L S h hL
    rw [nI_pred]
    rw [ez178_41]
    have e13 : ∀ f, (uI S 67 f).1 61 13 = nI L := fun f => h
    have e : nI i + -1 = nI i - 1 := by rw [Int32.sub_eq_add_neg]
    simp only [ez178_42, ez178_45, ez178_46, ez178_49, ez178_50, ez178_53, ez178_54, ez178_56, ez178_57, ez178_58, ez178_59, ez178_62, ez178_63, ez178_64, ez178_65, ez178_65i, ez178_66, ez178_69, ez178_70, ez178_71, ez178_74, ez178_77, if_neg (nI_pos (show i < 2 ^ 31 by omega)), GF_61_12, GF_61_13, h, Option.bind_some, PI_67, in_nI (show L < 120 by omega) (by decide), if_true, nI_clamp (show L < 2 ^ 31 by omega), e13, PF_61_13, nI_1, e]
    have k := ih (L + 1) (apM S L (x >>> ((8 * nI i) &&& 31) &&& 255)) rfl (by omega)
    rw [show L + 1 + i = L + (i + 1) by omega] at k
    exact k
def ml_feed (S : hs_S) (L : Nat) (x n : Int32) : Int32 × hs_S :=
  if 1 ≤ n ∧ n ≤ 4 then (if L + n.toNatClampNeg ≤ 120 then (nI (L + n.toNatClampNeg), fdM4 x n.toNatClampNeg L S) else (-1000000002, fdM S 1)) else (-1000000001, fdM S 0)
theorem sp_M_feed (d : Nat) (S : hs_S) (L : Nat) (x n : Int32) (h : S.1 61 13 = nI L) (hL : L ≤ 120) : sx_call (d + 2) 178 [.ref 61, .int x, .int n] (hp S) = o1 (ml_feed S L x n) := by
  rw [cz178]
  have f0 := sp_M_finds d S 0 (-1000000001) (by decide) (by decide)
  have f1 := sp_M_finds d S 1 (-1000000002) (by decide) (by decide)
  unfold ml_feed
  by_cases h1 : 1 ≤ n ∧ n ≤ 4
  · rw [if_pos h1]
    obtain ⟨q, hq, rfl⟩ := nI_of (Int32.not_lt.mpr (Int32.le_trans (show (0 : Int32) ≤ 1 by decide) h1.1))
    have q4 : q ≤ 4 := Nat.le_of_not_lt fun z => nI_ge (a := 4) z (by omega) h1.2
    rw [nI_clamp (show q < 2 ^ 31 by omega)]
    by_cases h3 : L + q ≤ 120
    · rw [if_pos h3]
      have g : nI (L + q) ≤ 120 := nI_le (b := 120) h3 (by omega)
      simp only [ez178_0, ez178_1, ez178_2, ez178_3, ez178_6, ez178_9, ez178_12, ez178_13, ez178_15, ez178_18, ez178_19, ez178_20, ez178_23, ez178_24, ez178_25, ez178_27, ez178_30, ez178_31, ez178_33, ez178_36, ez178_37, ez178_38, ez178_39, ez178_40, sp_M_in, wl_0, wl_1, wl_2, wl_m1, wl_97, wl_48, wu_1, wu_3, wu_4, wu_5, wu_6, wu_9, wu_15, wu_48, wu_57, wu_60, wu_99, wu_122, wu_99999, wu_999999, Option.bind_some, tl_s, tl_n, bI_eq0, if_true, if_false, not_true, not_false_iff, and_self, Bool.false_eq_true, h1, GF_61_13, h, nI_ad, if_pos g]
      exact mfeed_loop (d + 1) x _ q L S h h3
    · rw [if_neg h3]
      have g : ¬ nI (L + q) ≤ 120 := nI_ge (a := 120) (show 120 < L + q by omega) (by omega)
      simp only [ez178_0, ez178_1, ez178_2, ez178_3, ez178_6, ez178_9, ez178_12, ez178_13, ez178_15, ez178_18, ez178_19, ez178_20, ez178_23, ez178_24, ez178_25, ez178_27, ez178_30, ez178_31, ez178_33, ez178_36, sp_M_in, wl_0, wl_1, wl_2, wl_m1, wl_97, wl_48, wu_1, wu_3, wu_4, wu_5, wu_6, wu_9, wu_15, wu_48, wu_57, wu_60, wu_99, wu_122, wu_99999, wu_999999, Option.bind_some, tl_s, tl_n, bI_eq0, if_true, if_false, not_true, not_false_iff, and_self, Bool.false_eq_true, h1, GF_61_13, h, nI_ad, if_neg g, KL_61, f1]
      rfl
  · rw [if_neg h1]
    simp only [ez178_0, ez178_1, ez178_2, ez178_3, ez178_6, ez178_9, ez178_12, ez178_13, ez178_15, ez178_18, sp_M_in, wl_0, wl_1, wl_2, wl_m1, wl_97, wl_48, wu_1, wu_3, wu_4, wu_5, wu_6, wu_9, wu_15, wu_48, wu_57, wu_60, wu_99, wu_122, wu_99999, wu_999999, Option.bind_some, tl_s, tl_n, bI_eq0, if_true, if_false, not_true, not_false_iff, and_self, Bool.false_eq_true, h1, KL_61, f0]
    rfl
