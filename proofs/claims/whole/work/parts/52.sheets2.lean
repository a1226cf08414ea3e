/-! lays, book, read -/
def lyQ (f : Nat → Int64) (j : Nat) : Bool := decide (0 ≤ f j) && decide (f j ≤ 99)
def lyP (f : Nat → Int64) (pr : Nat → Int32) (i : Nat) : Nat → Int32 := fun j => if j < i ∧ lyQ f j = true then (f j).toInt32 else pr j
theorem lyP_0 (f : Nat → Int64) (pr : Nat → Int32) : lyP f pr 0 = pr := funext fun j => if_neg (fun z => absurd z.1 (by omega))
theorem lyP_t (f : Nat → Int64) (pr : Nat → Int32) (i : Nat) (h : lyQ f i = true) : upd (lyP f pr i) i (f i).toInt32 = lyP f pr (i + 1) := by
  funext j
  unfold upd lyP
  by_cases e : j = i
  · subst e
    rw [if_pos rfl, if_pos ⟨by omega, h⟩]
  · rw [if_neg e]
    by_cases h2 : j < i ∧ lyQ f j = true
    · rw [if_pos h2, if_pos ⟨by omega, h2.2⟩]
    · rw [if_neg h2, if_neg (fun z => h2 ⟨by omega, z.2⟩)]
theorem lyP_f (f : Nat → Int64) (pr : Nat → Int32) (i : Nat) (h : ¬ lyQ f i = true) : lyP f pr i = lyP f pr (i + 1) := by
  funext j
  unfold lyP
  by_cases h2 : j < i ∧ lyQ f j = true
  · rw [if_pos h2, if_pos ⟨by omega, h2.2⟩]
  · rw [if_neg h2]
    by_cases e : j = i
    · subst e
      rw [if_neg (fun z => h z.2)]
    · rw [if_neg (fun z => h2 ⟨by omega, z.2⟩)]
theorem lays_loop (d : Nat) (S : hs_S) (s z : Nat) (hs : s < 4) (hz : z ≤ 40) (ez : S.1 (53 + 2 * s) 2 = nI z) (l1 : Option Value) : ∀ m i l5, i + m = min z 16 → sx_run d 97 (41, [some (.ref 1), l1, some (.ref (53 + 2 * s)), some (.int (nI (fa_cnt (lyQ (S.2.2.1 (54 + 2 * s))) i))), some (.int (nI i)), l5, none], [], hp (uI S 13 (lyP (S.2.2.1 (54 + 2 * s)) (S.2.1 13) i))) = o1 (nI (fa_cnt (lyQ (S.2.2.1 (54 + 2 * s))) (min z 16)), uI S 13 (lyP (S.2.2.1 (54 + 2 * s)) (S.2.1 13) (min z 16))) := by
  have e2 : ∀ f, (uI S 13 f).1 (53 + 2 * s) 2 = nI z := fun f => ez
  intro m
  induction m with
  | zero =>
    intro i l5 hi
    have ei : i = min z 16 := by omega
    rw [← ei]
    rw [ez97_41]
    by_cases g : z ≤ i
    · simp only [ez97_43, ez97_44, ez97_47, GS_2 _ hs, Option.bind_some, e2, if_pos (nI_le g (show i < 2 ^ 31 by omega)), ez97_104, ez97_105]
      rfl
    · have e16 : i = 16 := by omega
      subst e16
      simp only [ez97_43, ez97_44, ez97_47, ez97_50, ez97_52, ez97_54, GS_2 _ hs, Option.bind_some, e2, if_neg (nI_ge (show 16 < z by omega) (by omega)), if_pos (show (16 : Int32) ≤ nI 16 by decide), ez97_104, ez97_105]
      rfl
  | succ m ih =>
    intro i l5 hi
    have ie := fun l => ih (i + 1) l (by omega)
    rw [ez97_41]
    simp only [ez97_43, ez97_44, ez97_47, ez97_50, ez97_52, ez97_54, ez97_57, ez97_58, ez97_61, ez97_63, ez97_64, ez97_66, ez97_68, ez97_69, ez97_70, GS_0 _ hs, GS_2 _ hs, Option.bind_some, e2, if_neg (nI_ge (show i < z by omega) (by omega)), if_neg (ge16 (n := 16) rfl (show i < 16 by omega)), GJ_s _ hs, in_nI (show i < 40 by omega) (by omega), if_true, nI_clamp (show i < 2 ^ 31 by omega), lg_cmp_lt, uI_3]
    by_cases q : lyQ (S.2.2.1 (54 + 2 * s)) i = true
    · have q2 := q
      unfold lyQ at q2
      simp only [Bool.and_eq_true, decide_eq_true_eq] at q2
      have q3 : ¬ S.2.2.1 (54 + 2 * s) i < 0 := fun y => Int64.not_le.mpr y q2.1
      have q4 : ¬ 99 < S.2.2.1 (54 + 2 * s) i := fun y => Int64.not_le.mpr y q2.2
      have k := ie (some (.long (S.2.2.1 (54 + 2 * s) i)))
      rw [fa_cnt_yes q, ← lyP_t _ _ _ q] at k
      simp only [if_neg q3, ez97_73, ez97_75, ez97_78, ez97_79, ez97_82, ez97_83, ez97_86, ez97_89, ez97_91, ez97_93, ez97_94, ez97_95, ez97_98, ez97_101, lg_cmp_gt, if_neg q4, GF_1_1, GF_11_1, Option.bind_some, PI_13, in16 (show i < 16 by omega), if_true, nI_clamp (show i < 2 ^ 31 by omega), uI_at, uI_uI, nI_1]
      exact k
    · have k := ie (some (.long (S.2.2.1 (54 + 2 * s) i)))
      rw [fa_cnt_no (ts_nt q), ← lyP_f _ _ _ q] at k
      by_cases q3 : S.2.2.1 (54 + 2 * s) i < 0
      · simp only [if_pos q3, ez97_98, ez97_101, nI_1]
        exact k
      · have q4 : 99 < S.2.2.1 (54 + 2 * s) i := by
          refine Int64.not_le.mp (fun y => q ?_)
          unfold lyQ
          simp only [Bool.and_eq_true, decide_eq_true_eq]
          exact ⟨Int64.not_lt.mp q3, y⟩
        simp only [if_neg q3, ez97_73, ez97_75, ez97_78, ez97_79, lg_cmp_gt, if_pos q4, ez97_98, ez97_101, nI_1]
        exact k
def cl_lays (S : hs_S) (s : Int32) : Int32 × hs_S :=
  if 0 ≤ s ∧ s < 4 then
    if S.1 (53 + 2 * s.toNatClampNeg) 1 = 0 then (-1000000006, fdS S 5)
    else (nI (fa_cnt (lyQ (S.2.2.1 (54 + 2 * s.toNatClampNeg))) (min (S.1 (53 + 2 * s.toNatClampNeg) 2).toNatClampNeg 16)), uI S 13 (lyP (S.2.2.1 (54 + 2 * s.toNatClampNeg)) (S.2.1 13) (min (S.1 (53 + 2 * s.toNatClampNeg) 2).toNatClampNeg 16)))
  else (-1000000001, fdS S 0)
theorem sp_SC_lays (d : Nat) (S : hs_S) (s : Int32) (ok : shO S) : sx_call (d + 2) 97 [.ref 1, .int s] (hp S) = o1 (cl_lays S s) := by
  rw [cz97]
  have f0 := sp_SC_finding d S 0 (-1000000001) (by decide) (by decide)
  have f5 := sp_SC_finding d S 5 (-1000000006) (by decide) (by decide)
  unfold cl_lays
  by_cases h1 : 0 ≤ s ∧ s < 4
  · obtain ⟨q, hq, rfl⟩ := s4_of h1
    rw [if_pos h1, nI_clamp (show q < 2 ^ 31 by omega)]
    obtain ⟨z, hz, ez⟩ := ok q hq
    by_cases h2 : S.1 (53 + 2 * q) 1 = 0
    · rw [if_pos h2]
      simp only [ez97_0, ez97_1, ez97_4, ez97_7, ez97_8, ez97_10, ez97_13, ez97_14, ez97_15, ez97_18, ez97_19, ez97_20, ez97_21, ez97_22, ez97_25, ez97_28, ez97_29, ez97_32, ez97_35, sp_SC_isSheet, tl_s, bI_eq0, h1, and_self, not_true, not_false_iff, if_true, if_false, GF_1_8, Option.bind_some, GQ_3 _ q hq, KL_s _ hq, sp_Sheet_isMissing _ S hq, h2, KL_1, f5]
      rfl
    · rw [if_neg h2, ez, nI_clamp (show z < 2 ^ 31 by omega)]
      have l := lays_loop (d + 1) S q z hq hz ez (some (.int (nI q))) (min z 16) 0 none (by omega)
      rw [lyP_0, uI_self] at l
      simp only [ez97_0, ez97_1, ez97_4, ez97_7, ez97_8, ez97_10, ez97_13, ez97_14, ez97_15, ez97_18, ez97_19, ez97_20, ez97_21, ez97_22, ez97_25, ez97_28, ez97_29, ez97_32, ez97_35, ez97_36, ez97_37, ez97_38, ez97_39, sp_SC_isSheet, tl_s, bI_eq0, h1, and_self, not_true, not_false_iff, if_true, if_false, GF_1_8, Option.bind_some, GQ_3 _ q hq, KL_s _ hq, sp_Sheet_isMissing _ S hq, h2]
      exact l
  · rw [if_neg h1]
    simp only [ez97_0, ez97_1, ez97_4, ez97_7, ez97_8, ez97_10, ez97_13, sp_SC_isSheet, tl_s, bI_eq0, h1, not_true, not_false_iff, if_true, if_false, KL_1, f0, Option.bind_some]
    rfl
/-- the shade of carrier m after j hours -/
def hsI (S : hs_S) (m H : Nat) : Nat → Int32
  | 0 => S.1 (15 + m) 2
  | j + 1 => shC S m (hsI S m H j) (nI (H + j))
def bkF (S : hs_S) (m H : Nat) (old : Nat → Int64) (i : Nat) : Nat → Int64 := fa_fill (fun j => (hsI S m H j).toInt64) old i
theorem jk_uJ2 {S T : hs_S} (h : jk S T) (a : Nat) (f : Nat → Int64) : jk (uJ S a f) (uJ T a f) := by
  refine ⟨h.1, h.2.1, fun b e => ?_, h.2.2.2⟩
  rw [uJ_3, uJ_3, h.2.2.1 b e]
theorem jJ_s {s : Nat} (h : s < 4) : jJ (54 + 2 * s) = false := by
  rcases s4 h with rfl | rfl | rfl | rfl <;> rfl
theorem jF_s {s k : Nat} (h : s < 4) : jF (53 + 2 * s) k = false := by
  rcases s4 h with rfl | rfl | rfl | rfl <;> rfl
theorem book_loop (d : Nat) (S : hs_S) (n H m s z : Nat) (h : hOk S n H) (hm : m < n) (hH : H ≤ 99999) (hs : s < 4) (hz : z ≤ 40) (ez : S.1 (53 + 2 * s) 2 = nI z) (l1 l2 : Option Value) : ∀ e i T, i + e = z → gA (uJ S (54 + 2 * s) (bkF S m H (S.2.2.1 (54 + 2 * s)) i)) T m (hsI S m H i) → cQ (sx_run (d + 6) 98 (70, [some (.ref 1), l1, l2, some (.ref (53 + 2 * s)), some (.int (nI i))], [], hp T)) (nI z, uJ S (54 + 2 * s) (bkF S m H (S.2.2.1 (54 + 2 * s)) z)) := by
  intro e
  induction e with
  | zero =>
    intro i T hi g
    have ei : i = z := by omega
    subst ei
    have e2 : T.1 (53 + 2 * s) 2 = nI i := (g.1.1 _ _ (jF_s hs)).trans ez
    rw [ez98_70]
    refine ⟨T, ?_, g.1⟩
    simp only [ez98_72, ez98_73, ez98_76, GS_2 _ hs, Option.bind_some, e2, if_pos (nI_le (Nat.le_refl i) (by omega)), ez98_122, ez98_123, ez98_126]
  | succ e ih =>
    intro i T hi g
    have e2 : T.1 (53 + 2 * s) 2 = nI z := (g.1.1 _ _ (jF_s hs)).trans ez
    have eJ : T.2.2.1 (54 + 2 * s) = bkF S m H (S.2.2.1 (54 + 2 * s)) i := (g.1.2.2.1 _ (jJ_s hs)).trans (uJ_at _ _ _)
    have esh : T.1 50 2 = hsI S m H i := g.2.2.2.1
    have up : vp_updL (bkF S m H (S.2.2.1 (54 + 2 * s)) i) i (hsI S m H i).toInt64 = bkF S m H (S.2.2.1 (54 + 2 * s)) (i + 1) := fa_fill_succL (fun j => (hsI S m H j).toInt64) _ i
    have g2 : gA (uJ S (54 + 2 * s) (bkF S m H (S.2.2.1 (54 + 2 * s)) (i + 1))) (uJ T (54 + 2 * s) (bkF S m H (S.2.2.1 (54 + 2 * s)) (i + 1))) m (hsI S m H i) := by
      refine ⟨?_, g.2.1, g.2.2.1, g.2.2.2.1, g.2.2.2.2.1, g.2.2.2.2.2⟩
      have j := jk_uJ2 g.1 (54 + 2 * s) (bkF S m H (S.2.2.1 (54 + 2 * s)) (i + 1))
      rw [uJ_uJ] at j
      exact j
    have h' : hOk (uJ S (54 + 2 * s) (bkF S m H (S.2.2.1 (54 + 2 * s)) (i + 1))) n H := h
    have hr := (hOk_jk h' g2.1).hr
    have ps := sp_gA d h' hm g2 (H + i) (by omega)
    have g3 := gA_put g2 (shC S m (hsI S m H i) (nI (H + i)))
    have k := ih (i + 1) _ (by omega) g3
    rw [ez98_70]
    simp only [ez98_72, ez98_73, ez98_76, ez98_79, ez98_80, ez98_83, ez98_85, ez98_86, ez98_89, ez98_92, ez98_93, ez98_94, ez98_95, ez98_98, ez98_99, ez98_102, ez98_103, ez98_106, ez98_109, ez98_111, ez98_112, GS_0 _ hs, GS_2 _ hs, Option.bind_some, e2, if_neg (nI_ge (show i < z by omega) (by omega)), GF_1_1, GF_1_6, GC_2 _ (show isCar 50 = true from rfl), esh, PJ_s _ hs, in_nI (show i < 40 by omega) (by omega), if_true, nI_clamp (show i < 2 ^ 31 by omega), eJ, up, GF_11_4, hr, nI_ad, KL_11, ps, tl_s, ez98_115, ez98_116, ez98_119, nI_1]
    exact k
def cl_book (S : hs_S) (n H : Nat) (s c : Int32) : Int32 × hs_S :=
  if 0 ≤ s ∧ s < 4 then
    if S.1 (53 + 2 * s.toNatClampNeg) 1 = 0 then (-1000000006, fdS S 5)
    else if 0 ≤ c ∧ c < nI n then (S.1 (53 + 2 * s.toNatClampNeg) 2, uJ S (54 + 2 * s.toNatClampNeg) (bkF S c.toNatClampNeg H (S.2.2.1 (54 + 2 * s.toNatClampNeg)) (S.1 (53 + 2 * s.toNatClampNeg) 2).toNatClampNeg))
    else (-1000000001, fdS S 0)
  else (-1000000001, fdS S 0)
theorem sp_SC_book (d : Nat) (S : hs_S) (n H : Nat) (s c : Int32) (h : hOk S n H) (hH : H ≤ 99999) (ok : shO S) : cQ (sx_call (d + 7) 98 [.ref 1, .int s, .int c] (hp S)) (cl_book S n H s c) := by
  rw [cz98]
  have f0 := sp_SC_finding (d + 5) S 0 (-1000000001) (by decide) (by decide)
  have f5 := sp_SC_finding (d + 5) S 5 (-1000000006) (by decide) (by decide)
  have hc := h.cnt
  have n8 := h.n8
  unfold cl_book
  by_cases h1 : 0 ≤ s ∧ s < 4
  · obtain ⟨q, hq, rfl⟩ := s4_of h1
    rw [if_pos h1, nI_clamp (show q < 2 ^ 31 by omega)]
    obtain ⟨z, hz, ez⟩ := ok q hq
    by_cases h2 : S.1 (53 + 2 * q) 1 = 0
    · rw [if_pos h2]
      refine ⟨fdS S 5, ?_, jk_refl _⟩
      simp only [ez98_0, ez98_1, ez98_4, ez98_7, ez98_8, ez98_10, ez98_13, ez98_14, ez98_15, ez98_18, ez98_19, ez98_20, ez98_21, ez98_22, ez98_25, ez98_28, ez98_29, ez98_32, ez98_35, sp_SC_isSheet, tl_s, bI_eq0, h1, and_self, not_true, not_false_iff, if_true, if_false, GF_1_8, Option.bind_some, GQ_3 _ q hq, KL_s _ hq, sp_Sheet_isMissing _ S hq, h2, KL_1, f5]
    · rw [if_neg h2]
      by_cases h3 : 0 ≤ c ∧ c < nI n
      · obtain ⟨m, hm, rfl⟩ := car_of n8 h3
        rw [if_pos h3, ez, nI_clamp (show z < 2 ^ 31 by omega), nI_clamp (show m < 2 ^ 31 by omega)]
        have e0 : gA (uJ S (54 + 2 * q) (bkF S m H (S.2.2.1 (54 + 2 * q)) 0)) (ghT S m) m (hsI S m H 0) := by
          unfold bkF
          rw [fa_fill_0, uJ_self]
          exact gA_T S m
        have l := book_loop d S n H m q z h hm hH hq hz ez (some (.int (nI q))) (some (.int (nI m))) z 0 (ghT S m) (by omega) e0
        simp only [ez98_0, ez98_1, ez98_4, ez98_7, ez98_8, ez98_10, ez98_13, ez98_14, ez98_15, ez98_18, ez98_19, ez98_20, ez98_21, ez98_22, ez98_25, ez98_28, ez98_29, ez98_32, ez98_35, ez98_36, ez98_37, ez98_38, ez98_41, ez98_44, ez98_45, ez98_47, ez98_50, ez98_51, ez98_52, ez98_55, ez98_56, ez98_59, ez98_62, ez98_63, ez98_64, ez98_67, ez98_68, sp_SC_isSheet, sp_SC_isCarrier, tl_s, tl_n, bI_eq0, h1, h3, hc, and_self, not_true, not_false_iff, if_true, if_false, GF_1_1, GF_1_6, GF_1_8, GF_11_2, Option.bind_some, GQ_3 _ q hq, KL_s _ hq, sp_Sheet_isMissing _ S hq, h2, KL_1, GQ_14 _ m (show m < 8 by omega), KL_c _ (show isCar 50 = true from rfl), sp_ghT _ S m (show m < 8 by omega)]
        exact l
      · rw [if_neg h3]
        refine ⟨fdS S 0, ?_, jk_refl _⟩
        simp only [ez98_0, ez98_1, ez98_4, ez98_7, ez98_8, ez98_10, ez98_13, ez98_14, ez98_15, ez98_18, ez98_19, ez98_20, ez98_21, ez98_22, ez98_25, ez98_28, ez98_29, ez98_32, ez98_35, ez98_36, ez98_37, ez98_38, ez98_41, ez98_44, ez98_45, ez98_47, ez98_50, sp_SC_isSheet, sp_SC_isCarrier, tl_s, bI_eq0, h1, h3, hc, and_self, not_true, not_false_iff, if_true, if_false, GF_1_8, Option.bind_some, GQ_3 _ q hq, KL_s _ hq, sp_Sheet_isMissing _ S hq, h2, KL_1, f0]
  · rw [if_neg h1]
    refine ⟨fdS S 0, ?_, jk_refl _⟩
    simp only [ez98_0, ez98_1, ez98_4, ez98_7, ez98_8, ez98_10, ez98_13, sp_SC_isSheet, tl_s, bI_eq0, h1, not_true, not_false_iff, if_true, if_false, KL_1, f0, Option.bind_some]
/-- the ghost is carrier m, with a place and a shade of its own -/
def gB (S T : hs_S) (m : Nat) (pl sh : Int32) : Prop := jk S T ∧ T.2.2.2 50 = S.2.2.2 (15 + m) ∧ T.1 50 1 = pl ∧ T.1 50 2 = sh ∧ T.1 50 3 = S.1 (15 + m) 3 ∧ T.1 50 4 = S.1 (15 + m) 4
def fnW (S : hs_S) (m : Nat) (pl : Int32) : Int32 → Int32 → Bool := fnP (S.1 11 5) (S.2.1 12) (S.2.2.2 (15 + m)) pl (S.1 (15 + m) 3) (S.1 (15 + m) 4)
def shW (S : hs_S) (m : Nat) (pl : Int32) : Int32 → Int32 → Int32 := shP (S.1 11 5) (S.2.1 12) (S.2.2.2 (15 + m)) pl (S.1 (15 + m) 3) (S.1 (15 + m) 4)
theorem gB_fn {S T : hs_S} {m : Nat} {pl sh : Int32} (g : gB S T m pl sh) (x : Int32) : fnN T 50 x = fnW S m pl sh x := by
  have e : fnN T 50 x = fnP (T.1 11 5) (T.2.1 12) (T.2.2.2 50) (T.1 50 1) (T.1 50 3) (T.1 50 4) (T.1 50 2) x := rfl
  rw [e, g.1.1 11 5 rfl, g.1.2.1 12 rfl, g.2.1, g.2.2.1, g.2.2.2.1, g.2.2.2.2.1, g.2.2.2.2.2]
  rfl
theorem gB_sh {S T : hs_S} {m : Nat} {pl sh : Int32} (g : gB S T m pl sh) (x : Int32) : shN T 50 x = shW S m pl sh x := by
  have e : shN T 50 x = shP (T.1 11 5) (T.2.1 12) (T.2.2.2 50) (T.1 50 1) (T.1 50 3) (T.1 50 4) (T.1 50 2) x := rfl
  rw [e, g.1.1 11 5 rfl, g.1.2.1 12 rfl, g.2.1, g.2.2.1, g.2.2.2.1, g.2.2.2.2.1, g.2.2.2.2.2]
  rfl
theorem sp_gB (d : Nat) {S T : hs_S} {n H m : Nat} {pl sh : Int32} (h : hOk S n H) (hm : m < n) (g : gB S T m pl sh) (hp1 : sx_in pl 16 = true) (X : Nat) (hX : X ≤ 200000) : sx_call (d + 6) 29 [.ref 11, .ref 50, .int (nI X)] (hp T) = some (some (.int (bI (fnW S m pl sh (nI X) = true))), hp (uF T 50 2 (shW S m pl sh (nI X)))) := by
  have u := sp_Land_passHour d T 50 (nI X) rfl (by rw [g.2.1]; exact (h.car m hm).1) (nI_pos' (by omega)) (by rw [nI_1]; exact nI_pos' (by omega)) (by rw [g.2.2.1]; exact hp1)
  rw [gB_fn g, gB_sh g] at u
  exact u
def rdF (S : hs_S) (m H : Nat) (f : Nat → Int64) : Nat → Nat → Int32 → Int32 → Int32
  | 0, _, _, _ => 0
  | e + 1, i, pl, sh =>
    if f i < 0 ∨ 16 ≤ f i ∨ sprF ((1 : Int32) <<< (pl &&& 31)) &&& ((1 : Int32) <<< ((f i).toInt32 &&& 31)) = 0 then nI (i + 1)
    else if fnW S m (f i).toInt32 sh (nI (H + i)) = true then nI (i + 1)
    else rdF S m H f e (i + 1) (f i).toInt32 (shW S m (f i).toInt32 sh (nI (H + i)))
theorem in16_long {x : Int64} (h1 : ¬ x < 0) (h2 : ¬ 16 ≤ x) : sx_in x.toInt32 16 = true ∧ ∃ k, k < 16 ∧ x.toInt32 = nI k ∧ x = lN k := by
  have a : 0 ≤ x.toInt := (fa_le64 0 x).mp (Int64.not_lt.mp h1)
  have b : x.toInt < 16 := (fa_lt64 x 16).mp (Int64.not_le.mp h2)
  have e : x = lN x.toInt.toNat := by
    rw [fa_eq64, lN_toInt (show x.toInt.toNat < 2 ^ 31 by omega)]
    omega
  have e2 : x.toInt32 = nI x.toInt.toNat := by
    have k16 : x.toInt.toNat < 16 := by omega
    generalize x.toInt.toNat = k at e k16
    rw [e]
    rcases (show k = 0 ∨ k = 1 ∨ k = 2 ∨ k = 3 ∨ k = 4 ∨ k = 5 ∨ k = 6 ∨ k = 7 ∨ k = 8 ∨ k = 9 ∨ k = 10 ∨ k = 11 ∨ k = 12 ∨ k = 13 ∨ k = 14 ∨ k = 15 by omega) with rfl | rfl | rfl | rfl | rfl | rfl | rfl | rfl | rfl | rfl | rfl | rfl | rfl | rfl | rfl | rfl <;> decide
  exact ⟨by rw [e2]; exact in_nI (by omega) (by omega), x.toInt.toNat, by omega, e2, e⟩
theorem read_loop (d : Nat) (S : hs_S) (n H m s z : Nat) (h : hOk S n H) (hm : m < n) (hH : H ≤ 99999) (hs : s < 4) (hz : z ≤ 40) (ez : S.1 (53 + 2 * s) 2 = nI z) (l1 l2 : Option Value) : ∀ e i pl sh l5 T, i + e = z → gB S T m pl sh → cQ (sx_run (d + 6) 99 (70, [some (.ref 1), l1, l2, some (.ref (53 + 2 * s)), some (.int (nI i)), l5, none], [], hp T)) (rdF S m H (S.2.2.1 (54 + 2 * s)) e i pl sh, S) := by
  intro e
  induction e with
  | zero =>
    intro i pl sh l5 T hi g
    have ei : i = z := by omega
    subst ei
    have e2 : T.1 (53 + 2 * s) 2 = nI i := (g.1.1 _ _ (jF_s hs)).trans ez
    rw [ez99_70]
    refine ⟨T, ?_, g.1⟩
    simp only [ez99_72, ez99_73, ez99_76, GS_2 _ hs, Option.bind_some, e2, if_pos (nI_le (Nat.le_refl i) (by omega)), ez99_175, ez99_176]
    rfl
  | succ e ih =>
    intro i pl sh l5 T hi g
    have e2 : T.1 (53 + 2 * s) 2 = nI z := (g.1.1 _ _ (jF_s hs)).trans ez
    have eJ : T.2.2.1 (54 + 2 * s) = S.2.2.1 (54 + 2 * s) := g.1.2.2.1 _ (jJ_s hs)
    have epl : T.1 50 1 = pl := g.2.2.1
    have c50 : isCar 50 = true := rfl
    unfold rdF
    rw [ez99_70]
    simp only [ez99_72, ez99_73, ez99_76, ez99_79, ez99_80, ez99_83, ez99_85, ez99_86, ez99_88, ez99_90, ez99_91, ez99_92, GS_0 _ hs, GS_2 _ hs, Option.bind_some, e2, if_neg (nI_ge (show i < z by omega) (by omega)), GJ_s _ hs, in_nI (show i < 40 by omega) (by omega), if_true, nI_clamp (show i < 2 ^ 31 by omega), eJ, lg_cmp_lt]
    generalize S.2.2.1 (54 + 2 * s) i = v
    by_cases h1 : v < 0
    · rw [if_pos (Or.inl h1), if_pos h1]
      refine ⟨T, ?_, g.1⟩
      simp only [ez99_125, ez99_127, ez99_128, ez99_129, nI_1]
    · rw [if_neg h1]
      simp only [ez99_95, ez99_97, ez99_100, ez99_101, lg_cmp_ge]
      by_cases h2 : 16 ≤ v
      · rw [if_pos (Or.inr (Or.inl h2)), if_pos h2]
        refine ⟨T, ?_, g.1⟩
        simp only [ez99_125, ez99_127, ez99_128, ez99_129, nI_1]
      · rw [if_neg h2]
        simp only [ez99_104, ez99_105, ez99_106, ez99_109, ez99_112, ez99_113, ez99_116, ez99_117, ez99_119, ez99_120, ez99_121, ez99_122, GF_1_6, GC_1 _ c50, Option.bind_some, epl, sp_SC_spread, tl_s]
        by_cases h3 : sprF ((1 : Int32) <<< (pl &&& 31)) &&& ((1 : Int32) <<< (v.toInt32 &&& 31)) = 0
        · rw [if_pos (Or.inr (Or.inr h3)), if_neg (fun y => y h3)]
          refine ⟨T, ?_, g.1⟩
          simp only [ez99_125, ez99_127, ez99_128, ez99_129, nI_1]
        · rw [if_pos h3, if_neg (show ¬ (v < 0 ∨ 16 ≤ v ∨ sprF ((1 : Int32) <<< (pl &&& 31)) &&& ((1 : Int32) <<< (v.toInt32 &&& 31)) = 0) from fun y => y.elim h1 (fun y => y.elim h2 h3))]
          have g2 : gB S (uF T 50 1 v.toInt32) m v.toInt32 sh := ⟨jk_uF g.1 rfl _, g.2.1, rfl, g.2.2.2.1, g.2.2.2.2.1, g.2.2.2.2.2⟩
          have hr := (hOk_jk h g2.1).hr
          have ps := sp_gB d h hm g2 (in16_long h1 h2).1 (H + i) (by omega)
          have g3 : gB S (uF (uF T 50 1 v.toInt32) 50 2 (shW S m v.toInt32 sh (nI (H + i)))) m v.toInt32 (shW S m v.toInt32 sh (nI (H + i))) := ⟨jk_uF g2.1 rfl _, g2.2.1, rfl, rfl, g2.2.2.2.2.1, g2.2.2.2.2.2⟩
          simp only [ez99_130, ez99_131, ez99_134, ez99_136, ez99_137, ez99_140, ez99_141, ez99_144, ez99_145, ez99_148, ez99_149, ez99_152, ez99_155, ez99_157, ez99_158, ez99_161, GF_1_1, GF_1_6, PC_1 _ c50, Option.bind_some, GF_11_4, hr, nI_ad, KL_11, if_true, ps, tl_s, bI_eq0]
          by_cases h4 : fnW S m v.toInt32 sh (nI (H + i)) = true
          · rw [if_pos h4, if_neg (fun y => y h4)]
            refine ⟨_, ?_, g3.1⟩
            simp only [ez99_164, ez99_166, ez99_167, ez99_168, nI_1]
          · rw [if_neg h4, if_pos h4]
            simp only [ez99_169, ez99_172, nI_1]
            exact ih (i + 1) _ _ _ _ (by omega) g3
def cl_read (S : hs_S) (n H : Nat) (s c : Int32) : Int32 × hs_S :=
  if 0 ≤ s ∧ s < 4 then
    if S.1 (53 + 2 * s.toNatClampNeg) 1 = 0 then (-1000000006, fdS S 5)
    else if 0 ≤ c ∧ c < nI n then (rdF S c.toNatClampNeg H (S.2.2.1 (54 + 2 * s.toNatClampNeg)) (S.1 (53 + 2 * s.toNatClampNeg) 2).toNatClampNeg 0 (S.1 (15 + c.toNatClampNeg) 1) (S.1 (15 + c.toNatClampNeg) 2), S)
    else (-1000000001, fdS S 0)
  else (-1000000001, fdS S 0)
theorem sp_SC_read (d : Nat) (S : hs_S) (n H : Nat) (s c : Int32) (h : hOk S n H) (hH : H ≤ 99999) (ok : shO S) : cQ (sx_call (d + 7) 99 [.ref 1, .int s, .int c] (hp S)) (cl_read S n H s c) := by
  rw [cz99]
  have f0 := sp_SC_finding (d + 5) S 0 (-1000000001) (by decide) (by decide)
  have f5 := sp_SC_finding (d + 5) S 5 (-1000000006) (by decide) (by decide)
  have hc := h.cnt
  have n8 := h.n8
  unfold cl_read
  by_cases h1 : 0 ≤ s ∧ s < 4
  · obtain ⟨q, hq, rfl⟩ := s4_of h1
    rw [if_pos h1, nI_clamp (show q < 2 ^ 31 by omega)]
    obtain ⟨z, hz, ez⟩ := ok q hq
    by_cases h2 : S.1 (53 + 2 * q) 1 = 0
    · rw [if_pos h2]
      refine ⟨fdS S 5, ?_, jk_refl _⟩
      simp only [ez99_0, ez99_1, ez99_4, ez99_7, ez99_8, ez99_10, ez99_13, ez99_14, ez99_15, ez99_18, ez99_19, ez99_20, ez99_21, ez99_22, ez99_25, ez99_28, ez99_29, ez99_32, ez99_35, sp_SC_isSheet, tl_s, bI_eq0, h1, and_self, not_true, not_false_iff, if_true, if_false, GF_1_8, Option.bind_some, GQ_3 _ q hq, KL_s _ hq, sp_Sheet_isMissing _ S hq, h2, KL_1, f5]
    · rw [if_neg h2]
      by_cases h3 : 0 ≤ c ∧ c < nI n
      · obtain ⟨m, hm, rfl⟩ := car_of n8 h3
        rw [if_pos h3, ez, nI_clamp (show z < 2 ^ 31 by omega), nI_clamp (show m < 2 ^ 31 by omega)]
        have l := read_loop d S n H m q z h hm hH hq hz ez (some (.int (nI q))) (some (.int (nI m))) z 0 (S.1 (15 + m) 1) (S.1 (15 + m) 2) none (ghT S m) (by omega) (gA_T S m)
        simp only [ez99_0, ez99_1, ez99_4, ez99_7, ez99_8, ez99_10, ez99_13, ez99_14, ez99_15, ez99_18, ez99_19, ez99_20, ez99_21, ez99_22, ez99_25, ez99_28, ez99_29, ez99_32, ez99_35, ez99_36, ez99_37, ez99_38, ez99_41, ez99_44, ez99_45, ez99_47, ez99_50, ez99_51, ez99_52, ez99_55, ez99_56, ez99_59, ez99_62, ez99_63, ez99_64, ez99_67, ez99_68, sp_SC_isSheet, sp_SC_isCarrier, tl_s, tl_n, bI_eq0, h1, h3, hc, and_self, not_true, not_false_iff, if_true, if_false, GF_1_1, GF_1_6, GF_1_8, GF_11_2, Option.bind_some, GQ_3 _ q hq, KL_s _ hq, sp_Sheet_isMissing _ S hq, h2, KL_1, GQ_14 _ m (show m < 8 by omega), KL_c _ (show isCar 50 = true from rfl), sp_ghT _ S m (show m < 8 by omega)]
        exact l
      · rw [if_neg h3]
        refine ⟨fdS S 0, ?_, jk_refl _⟩
        simp only [ez99_0, ez99_1, ez99_4, ez99_7, ez99_8, ez99_10, ez99_13, ez99_14, ez99_15, ez99_18, ez99_19, ez99_20, ez99_21, ez99_22, ez99_25, ez99_28, ez99_29, ez99_32, ez99_35, ez99_36, ez99_37, ez99_38, ez99_41, ez99_44, ez99_45, ez99_47, ez99_50, sp_SC_isSheet, sp_SC_isCarrier, tl_s, bI_eq0, h1, h3, hc, and_self, not_true, not_false_iff, if_true, if_false, GF_1_8, Option.bind_some, GQ_3 _ q hq, KL_s _ hq, sp_Sheet_isMissing _ S hq, h2, KL_1, f0]
  · rw [if_neg h1]
    refine ⟨fdS S 0, ?_, jk_refl _⟩
    simp only [ez99_0, ez99_1, ez99_4, ez99_7, ez99_8, ez99_10, ez99_13, sp_SC_isSheet, tl_s, bI_eq0, h1, not_true, not_false_iff, if_true, if_false, KL_1, f0, Option.bind_some]
