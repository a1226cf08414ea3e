/-! depart -/
def s1P (k : Nat) (du sh x : Int32) : Int32 := mx0 (sh - fadeF k du (hT x))
def fnP (cl : Int32) (po : Nat → Int32) (k : Nat) (pl co du sh x : Int32) : Bool := fdB cl po k pl (s1P k du sh x) co du (x + 1)
def shP (cl : Int32) (po : Nat → Int32) (k : Nat) (pl co du sh x : Int32) : Int32 := if fnP cl po k pl co du sh x = true then 0 else s1P k du sh x
def fnC (S : hs_S) (m : Nat) : Int32 → Int32 → Bool := fnP (S.1 11 5) (S.2.1 12) (S.2.2.2 (15 + m)) (S.1 (15 + m) 1) (S.1 (15 + m) 3) (S.1 (15 + m) 4)
def shC (S : hs_S) (m : Nat) : Int32 → Int32 → Int32 := shP (S.1 11 5) (S.2.1 12) (S.2.2.2 (15 + m)) (S.1 (15 + m) 1) (S.1 (15 + m) 3) (S.1 (15 + m) 4)
/-- the ghost is carrier m of S, with a shade of its own; nothing else has changed but junk -/
def gA (S T : hs_S) (m : Nat) (sh : Int32) : Prop := jk S T ∧ T.2.2.2 50 = S.2.2.2 (15 + m) ∧ T.1 50 1 = S.1 (15 + m) 1 ∧ T.1 50 2 = sh ∧ T.1 50 3 = S.1 (15 + m) 3 ∧ T.1 50 4 = S.1 (15 + m) 4
theorem gA_fn {S T : hs_S} {m : Nat} {sh : Int32} (g : gA S T m sh) (x : Int32) : fnN T 50 x = fnC S m sh x := by
  have e : fnN T 50 x = fnP (T.1 11 5) (T.2.1 12) (T.2.2.2 50) (T.1 50 1) (T.1 50 3) (T.1 50 4) (T.1 50 2) x := rfl
  rw [e, g.1.1 11 5 rfl, g.1.2.1 12 rfl, g.2.1, g.2.2.1, g.2.2.2.1, g.2.2.2.2.1, g.2.2.2.2.2]
  rfl
theorem gA_sh {S T : hs_S} {m : Nat} {sh : Int32} (g : gA S T m sh) (x : Int32) : shN T 50 x = shC S m sh x := by
  have e : shN T 50 x = shP (T.1 11 5) (T.2.1 12) (T.2.2.2 50) (T.1 50 1) (T.1 50 3) (T.1 50 4) (T.1 50 2) x := rfl
  rw [e, g.1.1 11 5 rfl, g.1.2.1 12 rfl, g.2.1, g.2.2.1, g.2.2.2.1, g.2.2.2.2.1, g.2.2.2.2.2]
  rfl
theorem gA_T (S : hs_S) (m : Nat) : gA S (ghT S m) m (S.1 (15 + m) 2) := ⟨jk_gSame (gSame_T S m), rfl, rfl, rfl, rfl, rfl⟩
theorem gA_put {S T : hs_S} {m : Nat} {sh : Int32} (g : gA S T m sh) (v : Int32) : gA S (uF T 50 2 v) m v := ⟨jk_uF g.1 rfl v, g.2.1, g.2.2.1, rfl, g.2.2.2.2.1, g.2.2.2.2.2⟩
theorem gA_bg {S T : hs_S} {m : Nat} {sh : Int32} (g : gA S T m sh) (x : Int32) : gA S (bgS T 50 x) m sh := ⟨jk_bgS g.1 50 x, g.2.1, g.2.2.1, g.2.2.2.1, g.2.2.2.2.1, g.2.2.2.2.2⟩
theorem gA_wy {S T : hs_S} {m : Nat} {sh : Int32} (g : gA S T m sh) (t : wT) : gA S (wyS T t) m sh := ⟨jk_wyS g.1 t, g.2.1, g.2.2.1, g.2.2.2.1, g.2.2.2.2.1, g.2.2.2.2.2⟩
theorem sp_gA (d : Nat) {S T : hs_S} {n H m : Nat} {sh : Int32} (h : hOk S n H) (hm : m < n) (g : gA S T m sh) (X : Nat) (hX : X ≤ 200000) : sx_call (d + 6) 29 [.ref 11, .ref 50, .int (nI X)] (hp T) = some (some (.int (bI (fnC S m sh (nI X) = true))), hp (uF T 50 2 (shC S m sh (nI X)))) := by
  have u := sp_Land_passHour d T 50 (nI X) rfl (by rw [g.2.1]; exact (h.car m hm).1) (nI_pos' (by omega)) (by rw [nI_1]; exact nI_pos' (by omega)) (by rw [g.2.2.1]; exact (h.car m hm).2)
  rw [gA_fn g, gA_sh g] at u
  exact u
def dpN (S : hs_S) (m : Nat) (p : Int32) (X : Nat) (sh : Int32) : Nat := (htF (wSS S m) p 49 0 (sh, nI X, (1 : Int32) <<< (S.1 (15 + m) 1 &&& 31))).1
def dpE (S : hs_S) (t : Int32) : Int32 × hs_S := if t = -1000000004 then (-1000000004, fdS S 3) else (t, S)
def dpF (S : hs_S) (m H : Nat) (p : Int32) : Nat → Nat → Int32 → Nat → Int32 → Int32 × hs_S
  | 0, _, _, _, t => dpE S t
  | e + 1, i, sh, f, t =>
    if fnC S m sh (nI (H + i)) = true then dpE S (if f ≤ dpN S m p (H + i) sh then t else nI i)
    else dpF S m H p e (i + 1) (shC S m sh (nI (H + i))) (if f ≤ dpN S m p (H + i) sh then f else dpN S m p (H + i) sh) (if f ≤ dpN S m p (H + i) sh then t else nI i)
theorem depart_end (d : Nat) (S : hs_S) (T : hs_S) (g : jk S T) (tk : Int32) (l1 l2 l3 l5 l6 : Option Value) : cQ (sx_run (d + 1) 90 (136, [some (.ref 1), l1, l2, l3, some (.int tk), l5, l6], [], hp T)) (dpE S tk) := by
  unfold dpE
  simp only [ez90_136, ez90_138, ez90_140]
  by_cases z : tk = -1000000004
  · rw [if_pos z, if_neg (fun y => y z)]
    refine ⟨fdS T 3, ?_, jk_fdS g 3⟩
    simp only [ez90_143, ez90_144, ez90_146, ez90_149, ez90_152, ez90_154, KL_1, if_true, sp_SC_finding d T 3 (-1000000004) (by decide) (by decide), Option.bind_some, tl_s]
  · rw [if_neg z, if_pos z]
    refine ⟨T, ?_, g⟩
    simp only [ez90_152, ez90_154]
theorem depart_loop (d : Nat) (S : hs_S) (n H m : Nat) (p : Int32) (h : hOk S n H) (hm : m < n) (hH : H ≤ 99999) : ∀ e i sh f tk l6 T, i + e = 24 → f ≤ 49 → gA S T m sh → cQ (sx_run (d + 6) 90 (48, [some (.ref 1), some (.int (nI m)), some (.int p), some (.int (nI f)), some (.int tk), some (.int (nI i)), l6], [], hp T)) (dpF S m H p e i sh f tk) := by
  have n8 := h.n8
  intro e
  induction e with
  | zero =>
    intro i sh f tk l6 T hi hf g
    have e24 : i = 24 := by omega
    subst e24
    rw [ez90_48]
    simp only [ez90_50, ez90_52, if_pos (show (23 : Int32) < nI 24 by decide)]
    exact depart_end (d + 5) S T g.1 tk _ _ _ _ _
  | succ e ih =>
    intro i sh f tk l6 T hi hf g
    have k := hOk_jk h g.1
    have hr := k.hr
    have b := sp_Way_begin (d + 4) T 50 (nI (H + i)) rfl (by decide)
    have t := sp_toB d (bgS T 50 (nI (H + i))) (sh, nI (H + i), (1 : Int32) <<< (S.1 (15 + m) 1 &&& 31)) (H + i) p (wSS S m) (by show T.2.2.2 50 < 6; rw [g.2.1]; exact (h.car m hm).1) g.2.2.2.1 rfl (by show (1 : Int32) <<< (T.1 50 1 &&& 31) = _; rw [g.2.2.1]) rfl (by omega) (by
      show wst (T.2.2.2 50) (T.1 50 3) (T.1 50 4) (gdF (T.1 11 5) (T.2.1 12) (T.2.1 48)) 0 = _
      rw [wst_old, g.2.1, g.2.2.2.2.1, g.2.2.2.2.2, g.1.1 11 5 rfl, g.1.2.1 12 rfl]
      rfl)
    have e1 : (htF (wSS S m) p 49 0 (sh, nI (H + i), (1 : Int32) <<< (S.1 (15 + m) 1 &&& 31))).1 = dpN S m p (H + i) sh := rfl
    have g2 : gA S (wyS (bgS T 50 (nI (H + i))) (htF (wSS S m) p 49 0 (sh, nI (H + i), (1 : Int32) <<< (S.1 (15 + m) 1 &&& 31))).2) m sh := gA_wy (gA_bg g _) _
    have sl : dpN S m p (H + i) sh ≤ 49 := htF_le _ _ 49 0 _
    rw [e1] at t
    generalize wyS (bgS T 50 (nI (H + i))) (htF (wSS S m) p 49 0 (sh, nI (H + i), (1 : Int32) <<< (S.1 (15 + m) 1 &&& 31))).2 = U at t g2
    have k2 := hOk_jk h g2.1
    have hr2 := k2.hr
    have ps := sp_gA d h hm g2 (H + i) (by omega)
    have g3 := gA_put g2 (shC S m sh (nI (H + i)))
    unfold dpF
    rw [ez90_48]
    simp only [ez90_50, ez90_52, ez90_55, ez90_56, ez90_59, ez90_60, ez90_63, ez90_64, ez90_67, ez90_68, ez90_71, ez90_74, ez90_76, ez90_77, ez90_80, ez90_81, ez90_84, ez90_85, ez90_88, ez90_90, if_neg (show ¬ (23 : Int32) < nI i from nI_nlt (a := 23) (show i ≤ 23 by omega) (by omega)), GF_1_1, GF_1_5, GF_1_6, GF_11_4, hr, nI_ad, Option.bind_some, KL_47, if_true, b, tl_n, t, tl_s, ez90_92, ez90_93]
    by_cases z : f ≤ dpN S m p (H + i) sh
    · simp only [if_pos z, if_pos (nI_le z (show dpN S m p (H + i) sh < 2 ^ 31 by omega)), ez90_103, ez90_104, ez90_107, ez90_108, ez90_111, ez90_112, ez90_115, ez90_118, ez90_120, ez90_121, ez90_124, GF_1_1, GF_1_6, GF_11_4, hr2, nI_ad, Option.bind_some, KL_11, if_true, ps, tl_s, bI_eq0]
      by_cases z2 : fnC S m sh (nI (H + i)) = true
      · rw [if_pos z2, if_neg (fun y => y z2)]
        simp only [ez90_127]
        exact depart_end (d + 5) S _ g3.1 tk _ _ _ _ _
      · rw [if_neg z2, if_pos z2]
        simp only [ez90_130, ez90_133, nI_1]
        exact ih (i + 1) _ f tk _ _ (by omega) hf g3
    · simp only [if_neg z, if_neg (nI_ge (show dpN S m p (H + i) sh < f by omega) (by omega)), ez90_96, ez90_98, ez90_99, ez90_101, ez90_103, ez90_104, ez90_107, ez90_108, ez90_111, ez90_112, ez90_115, ez90_118, ez90_120, ez90_121, ez90_124, GF_1_1, GF_1_6, GF_11_4, hr2, nI_ad, Option.bind_some, KL_11, if_true, ps, tl_s, bI_eq0]
      by_cases z2 : fnC S m sh (nI (H + i)) = true
      · rw [if_pos z2, if_neg (fun y => y z2)]
        simp only [ez90_127]
        exact depart_end (d + 5) S _ g3.1 _ _ _ _ _ _
      · rw [if_neg z2, if_pos z2]
        simp only [ez90_130, ez90_133, nI_1]
        exact ih (i + 1) _ _ _ _ _ (by omega) sl g3
def cl_depart (S : hs_S) (n H : Nat) (c p : Int32) : Int32 × hs_S :=
  if (0 ≤ c ∧ c < nI n) ∧ (0 ≤ p ∧ p < 16) then dpF S c.toNatClampNeg H p 24 0 (S.1 (15 + c.toNatClampNeg) 2) 49 (-1000000004) else (-1000000001, fdS S 0)
theorem sp_SC_depart (d : Nat) (S : hs_S) (n H : Nat) (c p : Int32) (h : hOk S n H) (hH : H ≤ 99999) : cQ (sx_call (d + 7) 90 [.ref 1, .int c, .int p] (hp S)) (cl_depart S n H c p) := by
  rw [cz90]
  have f := sp_SC_finding (d + 5) S 0 (-1000000001) (by decide) (by decide)
  have hc := h.cnt
  have n8 := h.n8
  unfold cl_depart
  by_cases h1 : 0 ≤ c ∧ c < nI n
  · by_cases h2 : 0 ≤ p ∧ p < 16
    · obtain ⟨m, hm, rfl⟩ := car_of n8 h1
      rw [if_pos ⟨h1, h2⟩, nI_clamp (show m < 2 ^ 31 by omega)]
      simp only [ez90_0, ez90_1, ez90_2, ez90_5, ez90_8, ez90_9, ez90_12, ez90_15, ez90_16, ez90_18, ez90_21, ez90_22, ez90_23, ez90_26, ez90_27, ez90_30, ez90_33, ez90_34, ez90_35, ez90_38, ez90_40, ez90_41, ez90_43, ez90_45, ez90_46, sp_SC_isCarrier, sp_SC_isPlace, tl_s, tl_n, bI_eq0, KL_1, if_true, hc, h1, h2, and_self, not_true, not_false_iff, if_false, GF_1_1, GF_1_6, GF_11_2, Option.bind_some, GQ_14 _ m (show m < 8 by omega), KL_c _ (show isCar 50 = true from rfl), sp_ghT _ S m (show m < 8 by omega)]
      exact depart_loop d S n H m p h hm hH 24 0 (S.1 (15 + m) 2) 49 (-1000000004) none (ghT S m) (by omega) (by omega) (gA_T S m)
    · rw [if_neg (fun z => h2 z.2)]
      refine ⟨fdS S 0, ?_, jk_refl _⟩
      simp [ez90_0, ez90_1, ez90_2, ez90_5, ez90_8, ez90_9, ez90_12, ez90_15, ez90_16, ez90_18, ez90_21, sp_SC_isCarrier, sp_SC_isPlace, tl_s, bI_eq0, KL_1, hc, h1, h2, f]
  · rw [if_neg (fun z => h1 z.1)]
    refine ⟨fdS S 0, ?_, jk_refl _⟩
    simp [ez90_0, ez90_1, ez90_2, ez90_5, ez90_8, ez90_9, ez90_12, ez90_15, ez90_16, ez90_18, ez90_21, sp_SC_isCarrier, tl_s, bI_eq0, KL_1, hc, h1, f]
