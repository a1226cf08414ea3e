/-! cover, post, kind -/
theorem sp_toB (d : Nat) (B : hs_S) (t : wT) (H : Nat) (p : Int32) (st : wT → wT) (hk : B.2.2.2 49 < 6) (h1 : B.1 49 2 = t.1) (h2 : B.1 47 3 = t.2.1) (h3 : B.1 47 4 = t.2.2) (hx : t.2.1 = nI H) (hH : H ≤ 150000) (hs : wsB B = st) : sx_call (d + 6) 63 [.ref 47, .int p] (hp B) = some (some (.int (nI (htF st p 49 0 t).1)), hp (wyS B (htF st p 49 0 t).2)) := by
  have u := sp_Way_hoursTo d B p t H hk hx hH
  rw [wyS_self B t h1 h2 h3, hs] at u
  exact u
def cvN (S : hs_S) (m H : Nat) (p co : Int32) : Nat := (htF (wS (S.2.2.2 (15 + m)) co (S.1 (15 + m) 4) (S.1 11 5) (S.2.1 12) 0) p 49 0 (wt0 S m (nI H))).1
def cvF (S : hs_S) (m H : Nat) (p : Int32) (q : Nat) : Nat → Nat → Int32 × hs_S
  | 0, _ => (-1000000004, fdS S 3)
  | e + 1, j => if cvN S m H p (nI j) ≤ q then (nI j, S) else cvF S m H p q e (j + 1)
theorem cover_loop (d : Nat) (S : hs_S) (n H m q : Nat) (p : Int32) (h : hOk S n H) (hm : m < n) (hH : H ≤ 99999) (hq : q ≤ 48) : ∀ e j T, j + e = 10 → jk S T → cQ (sx_run (d + 6) 85 (34, [some (.ref 1), some (.int (nI m)), some (.int p), some (.int (nI q)), some (.int (nI j))], [], hp T)) (cvF S m H p q e j) := by
  have n8 := h.n8
  intro e
  induction e with
  | zero =>
    intro j T hj g
    have e10 : j = 10 := by omega
    subst e10
    rw [ez85_34]
    refine ⟨fdS T 3, ?_, jk_fdS g 3⟩
    simp only [ez85_36, ez85_38, if_pos (show (9 : Int32) < nI 10 by decide), ez85_101, ez85_102, ez85_104, ez85_107, KL_1, if_true, sp_SC_finding (d + 5) T 3 (-1000000004) (by decide) (by decide), Option.bind_some, tl_s]
    rfl
  | succ e ih =>
    intro j T hj g
    have k := hOk_jk h g
    have hr := k.hr
    have b := sp_begin (d + 4) h g hm
    have c49 : isCar 49 = true := rfl
    have t := sp_toB d (uF (bgS T (15 + m) (nI H)) 49 3 (nI j)) (wt0 S m (nI H)) H p (wS (S.2.2.2 (15 + m)) (nI j) (S.1 (15 + m) 4) (S.1 11 5) (S.2.1 12) 0) (bgS_k h g hm _) (g.1 _ _ (jF_car (by omega))) rfl (by show (1 : Int32) <<< (T.1 (15 + m) 1 &&& 31) = _; rw [g.1 _ _ (jF_car (show m < 8 by omega))]; rfl) rfl (by omega) (by
      show wst (T.2.2.2 (15 + m)) (nI j) (T.1 (15 + m) 4) (gdF (T.1 11 5) (T.2.1 12) (T.2.1 48)) 0 = _
      rw [wst_old, g.2.2.2 _ (jK_car (show m < 8 by omega)), g.1 _ _ (jF_car (show m < 8 by omega)), g.1 11 5 rfl, g.2.1 12 rfl])
    have sl : cvN S m H p (nI j) ≤ 49 := htF_le _ _ 49 0 _
    unfold cvF
    rw [ez85_34]
    simp only [ez85_36, ez85_38, ez85_41, ez85_42, ez85_45, ez85_46, ez85_49, ez85_50, ez85_53, ez85_56, ez85_57, ez85_58, ez85_59, ez85_62, ez85_65, ez85_68, ez85_69, ez85_72, ez85_75, ez85_77, ez85_80, ez85_81, ez85_84, ez85_85, ez85_88, if_neg (show ¬ (9 : Int32) < nI j from nI_nlt (a := 9) (show j ≤ 9 by omega) (by omega)), GF_1_1, GF_1_5, GF_11_2, GF_11_4, hr, Option.bind_some, GQ_14 _ m (show m < 8 by omega), KL_47, if_true, b, tl_n, GF_47_0, PC_3 _ c49, t, tl_s]
    have e1 : (htF (wS (S.2.2.2 (15 + m)) (nI j) (S.1 (15 + m) 4) (S.1 11 5) (S.2.1 12) 0) p 49 0 (wt0 S m (nI H))).1 = cvN S m H p (nI j) := rfl
    have g2 : jk S (wyS (uF (bgS T (15 + m) (nI H)) 49 3 (nI j)) (htF (wS (S.2.2.2 (15 + m)) (nI j) (S.1 (15 + m) 4) (S.1 11 5) (S.2.1 12) 0) p 49 0 (wt0 S m (nI H))).2) := jk_wyS (jk_uF (jk_bgS g _ _) rfl _) _
    rw [e1]
    generalize wyS (uF (bgS T (15 + m) (nI H)) 49 3 (nI j)) (htF (wS (S.2.2.2 (15 + m)) (nI j) (S.1 (15 + m) 4) (S.1 11 5) (S.2.1 12) 0) p 49 0 (wt0 S m (nI H))).2 = U at g2 ⊢
    by_cases z : cvN S m H p (nI j) ≤ q
    · rw [if_pos z]
      refine ⟨U, ?_, g2⟩
      simp only [ez85_89, if_neg (nI_nlt (show cvN S m H p (nI j) ≤ q from z) (by omega)), ez85_92, ez85_94]
    · rw [if_neg z]
      simp only [ez85_89, if_pos (nI_lt (show q < cvN S m H p (nI j) by omega) (by omega)), ez85_95, ez85_98, nI_1]
      exact ih (j + 1) U (by omega) g2
def cl_cover (S : hs_S) (n H : Nat) (c p x : Int32) : Int32 × hs_S :=
  if (0 ≤ c ∧ c < nI n) ∧ (0 ≤ p ∧ p < 16) ∧ (0 ≤ x ∧ x ≤ 48) then cvF S c.toNatClampNeg H p x.toNatClampNeg 10 0 else (-1000000001, fdS S 0)
theorem sp_SC_cover (d : Nat) (S : hs_S) (n H : Nat) (c p x : Int32) (h : hOk S n H) (hH : H ≤ 99999) : cQ (sx_call (d + 7) 85 [.ref 1, .int c, .int p, .int x] (hp S)) (cl_cover S n H c p x) := by
  rw [cz85]
  have f := sp_SC_finding (d + 5) S 0 (-1000000001) (by decide) (by decide)
  have hc := h.cnt
  have n8 := h.n8
  unfold cl_cover
  by_cases h1 : 0 ≤ c ∧ c < nI n
  · by_cases h2 : 0 ≤ p ∧ p < 16
    · by_cases h3 : 0 ≤ x ∧ x ≤ 48
      · obtain ⟨m, hm, rfl⟩ := car_of n8 h1
        obtain ⟨q, hq, rfl⟩ := n48_of h3
        rw [if_pos ⟨h1, h2, h3⟩, nI_clamp (show m < 2 ^ 31 by omega), nI_clamp (show q < 2 ^ 31 by omega)]
        simp only [ez85_0, ez85_1, ez85_2, ez85_5, ez85_8, ez85_9, ez85_12, ez85_15, ez85_16, ez85_18, ez85_21, ez85_24, ez85_25, ez85_27, ez85_30, ez85_31, ez85_32, sp_SC_isCarrier, sp_SC_isPlace, sp_SC_within, tl_s, tl_n, bI_eq0, KL_1, if_true, hc, h1, h2, h3, and_self, not_true, not_false_iff, if_false, Option.bind_some]
        exact cover_loop d S n H m q p h hm hH hq 10 0 S (by omega) (jk_refl S)
      · rw [if_neg (fun z => h3 z.2.2)]
        refine ⟨fdS S 0, ?_, jk_refl _⟩
        simp [ez85_0, ez85_1, ez85_2, ez85_5, ez85_8, ez85_9, ez85_12, ez85_15, ez85_16, ez85_18, ez85_21, ez85_24, ez85_25, ez85_27, ez85_30, sp_SC_isCarrier, sp_SC_isPlace, sp_SC_within, tl_s, bI_eq0, KL_1, hc, h1, h2, h3, f]
    · rw [if_neg (fun z => h2 z.2.1)]
      refine ⟨fdS S 0, ?_, jk_refl _⟩
      simp [ez85_0, ez85_1, ez85_2, ez85_5, ez85_8, ez85_9, ez85_12, ez85_15, ez85_16, ez85_18, ez85_21, ez85_24, ez85_25, ez85_27, ez85_30, sp_SC_isCarrier, sp_SC_isPlace, tl_s, bI_eq0, KL_1, hc, h1, h2, f]
  · rw [if_neg (fun z => h1 z.1)]
    refine ⟨fdS S 0, ?_, jk_refl _⟩
    simp [ez85_0, ez85_1, ez85_2, ez85_5, ez85_8, ez85_9, ez85_12, ez85_15, ez85_16, ez85_18, ez85_21, ez85_24, ez85_25, ez85_27, ez85_30, sp_SC_isCarrier, tl_s, bI_eq0, KL_1, hc, h1, f]
def soP (S : hs_S) (m H : Nat) (p : Int32) (q : Nat) : Nat := (htF (wS (S.2.2.2 (15 + m)) (S.1 (15 + m) 3) (S.1 (15 + m) 4) (S.1 11 5) (S.2.1 12) ((1 : Int32) <<< (nI q &&& 31))) p 49 0 (wt0 S m (nI H))).1
def poF (S : hs_S) (m H : Nat) (p : Int32) : Nat → Nat → Nat → Int32 → Int32 × hs_S
  | 0, _, _, t => if t = -1000000004 then (-1000000004, fdS S 3) else (t, S)
  | e + 1, q, f, t => if S.2.1 12 q = 0 then poF S m H p e (q + 1) f t else if f ≤ soP S m H p q then poF S m H p e (q + 1) f t else poF S m H p e (q + 1) (soP S m H p q) (nI q)
theorem post_loop (d : Nat) (S : hs_S) (n H m : Nat) (p : Int32) (h : hOk S n H) (hm : m < n) (hH : H ≤ 99999) : ∀ e q f tk l7 T, q + e = 16 → f ≤ 49 → jk S T → cQ (sx_run (d + 6) 88 (68, [some (.ref 1), some (.int (nI m)), some (.int p), some (.ref (15 + m)), some (.int (nI f)), some (.int tk), some (.int (nI q)), l7], [], hp T)) (poF S m H p e q f tk) := by
  have n8 := h.n8
  intro e
  induction e with
  | zero =>
    intro q f tk l7 T hq hf g
    have e16 : q = 16 := by omega
    subst e16
    rw [ez88_68]
    unfold poF
    simp only [ez88_70, ez88_72, if_pos (show (16 : Int32) ≤ nI 16 by decide), ez88_150, ez88_152, ez88_154]
    by_cases z : tk = -1000000004
    · rw [if_pos z, if_neg (fun y => y z)]
      refine ⟨fdS T 3, ?_, jk_fdS g 3⟩
      simp only [ez88_157, ez88_158, ez88_160, ez88_163, ez88_166, ez88_168, KL_1, if_true, sp_SC_finding (d + 5) T 3 (-1000000004) (by decide) (by decide), Option.bind_some, tl_s]
    · rw [if_neg z, if_pos z]
      refine ⟨T, ?_, g⟩
      simp only [ez88_166, ez88_168]
  | succ e ih =>
    intro q f tk l7 T hq hf g
    have k := hOk_jk h g
    have hr := k.hr
    have b := sp_begin (d + 4) h g hm
    have sp := sp_Way_spare (d + 5) (bgS T (15 + m) (nI H)) (nI q)
    have t := sp_toB d (uF (bgS T (15 + m) (nI H)) 47 2 ((1 : Int32) <<< (nI q &&& 31))) (wt0 S m (nI H)) H p (wS (S.2.2.2 (15 + m)) (S.1 (15 + m) 3) (S.1 (15 + m) 4) (S.1 11 5) (S.2.1 12) ((1 : Int32) <<< (nI q &&& 31))) (bgS_k h g hm _) (g.1 _ _ (jF_car (by omega))) rfl (by show (1 : Int32) <<< (T.1 (15 + m) 1 &&& 31) = _; rw [g.1 _ _ (jF_car (show m < 8 by omega))]; rfl) rfl (by omega) (by
      show wst (T.2.2.2 (15 + m)) (T.1 (15 + m) 3) (T.1 (15 + m) 4) (gdF (T.1 11 5) (T.2.1 12) (T.2.1 48)) ((1 : Int32) <<< (nI q &&& 31)) = _
      rw [wst_old, g.2.2.2 _ (jK_car (show m < 8 by omega)), g.1 _ _ (jF_car (show m < 8 by omega)), g.1 _ _ (jF_car (show m < 8 by omega)), g.1 11 5 rfl, g.2.1 12 rfl])
    have sl : soP S m H p q ≤ 49 := htF_le _ _ 49 0 _
    have e12 : T.2.1 12 = S.2.1 12 := g.2.1 12 rfl
    unfold poF
    rw [ez88_68]
    simp only [ez88_70, ez88_72, ez88_75, ez88_76, ez88_79, ez88_82, ez88_84, if_neg (ge16 (n := 16) rfl (show q < 16 by omega)), GF_1_1, GF_11_0, Option.bind_some, GI_12, in16 (show q < 16 by omega), if_true, nI_clamp (show q < 2 ^ 31 by omega), e12, ez88_85]
    by_cases z0 : S.2.1 12 q = 0
    · rw [if_pos z0, if_neg (fun y => y z0)]
      simp only [ez88_88, ez88_144, ez88_147, nI_1]
      exact ih (q + 1) f tk _ T (by omega) hf g
    · rw [if_neg z0, if_pos z0]
      simp only [ez88_91, ez88_92, ez88_95, ez88_96, ez88_99, ez88_100, ez88_101, ez88_104, ez88_107, ez88_110, ez88_111, ez88_114, ez88_116, ez88_119, ez88_120, ez88_123, ez88_124, ez88_127, ez88_129, GF_1_1, GF_1_5, GF_11_2, GF_11_4, hr, Option.bind_some, KL_47, if_true, b, tl_n, sp, t, tl_s]
      have e1 : (htF (wS (S.2.2.2 (15 + m)) (S.1 (15 + m) 3) (S.1 (15 + m) 4) (S.1 11 5) (S.2.1 12) ((1 : Int32) <<< (nI q &&& 31))) p 49 0 (wt0 S m (nI H))).1 = soP S m H p q := rfl
      have g2 : jk S (wyS (uF (bgS T (15 + m) (nI H)) 47 2 ((1 : Int32) <<< (nI q &&& 31))) (htF (wS (S.2.2.2 (15 + m)) (S.1 (15 + m) 3) (S.1 (15 + m) 4) (S.1 11 5) (S.2.1 12) ((1 : Int32) <<< (nI q &&& 31))) p 49 0 (wt0 S m (nI H))).2) := jk_wyS (jk_uF (jk_bgS g _ _) rfl _) _
      rw [e1]
      generalize wyS (uF (bgS T (15 + m) (nI H)) 47 2 ((1 : Int32) <<< (nI q &&& 31))) (htF (wS (S.2.2.2 (15 + m)) (S.1 (15 + m) 3) (S.1 (15 + m) 4) (S.1 11 5) (S.2.1 12) ((1 : Int32) <<< (nI q &&& 31))) p 49 0 (wt0 S m (nI H))).2 = U at g2 ⊢
      by_cases z : f ≤ soP S m H p q
      · rw [if_pos z]
        simp only [ez88_131, ez88_133, if_pos (nI_le z (by omega)), ez88_144, ez88_147, nI_1]
        exact ih (q + 1) f tk _ U (by omega) hf g2
      · rw [if_neg z]
        simp only [ez88_131, ez88_133, if_neg (nI_ge (show soP S m H p q < f by omega) (by omega)), ez88_136, ez88_138, ez88_140, ez88_142, ez88_144, ez88_147, nI_1]
        exact ih (q + 1) (soP S m H p q) (nI q) _ U (by omega) sl g2
def cl_post (S : hs_S) (n H : Nat) (c p : Int32) : Int32 × hs_S :=
  if (0 ≤ c ∧ c < nI n) ∧ (0 ≤ p ∧ p < 16) then poF S c.toNatClampNeg H p 16 0 (soN S c.toNatClampNeg H p) (-1000000004) else (-1000000001, fdS S 0)
theorem sp_SC_post (d : Nat) (S : hs_S) (n H : Nat) (c p : Int32) (h : hOk S n H) (hH : H ≤ 99999) : cQ (sx_call (d + 7) 88 [.ref 1, .int c, .int p] (hp S)) (cl_post S n H c p) := by
  rw [cz88]
  have f := sp_SC_finding (d + 5) S 0 (-1000000001) (by decide) (by decide)
  have hc := h.cnt
  have hr := h.hr
  have n8 := h.n8
  unfold cl_post
  by_cases h1 : 0 ≤ c ∧ c < nI n
  · by_cases h2 : 0 ≤ p ∧ p < 16
    · obtain ⟨m, hm, rfl⟩ := car_of n8 h1
      rw [if_pos ⟨h1, h2⟩, nI_clamp (show m < 2 ^ 31 by omega)]
      have b := sp_begin (d + 4) h (jk_refl S) hm
      have t := sp_to d h (jk_refl S) hm hH p
      have sl := soN_le S m H p
      have g2 : jk S (wyS (bgS S (15 + m) (nI H)) (htF (wSS S m) p 49 0 (wt0 S m (nI H))).2) := jk_wyS (jk_bgS (jk_refl S) _ _) _
      simp only [ez88_0, ez88_1, ez88_2, ez88_5, ez88_8, ez88_9, ez88_12, ez88_15, ez88_16, ez88_18, ez88_21, ez88_22, ez88_23, ez88_26, ez88_29, ez88_30, ez88_31, ez88_32, ez88_33, ez88_36, ez88_37, ez88_40, ez88_41, ez88_42, ez88_45, ez88_48, ez88_51, ez88_52, ez88_55, ez88_56, ez88_59, ez88_61, ez88_63, ez88_65, ez88_66, sp_SC_isCarrier, sp_SC_isPlace, tl_s, tl_n, bI_eq0, KL_1, KL_47, if_true, hc, hr, h1, h2, and_self, not_true, not_false_iff, if_false, GF_1_1, GF_1_5, GF_11_2, GF_11_4, Option.bind_some, GQ_14 _ m (show m < 8 by omega), b, t]
      exact post_loop d S n H m p h hm hH 16 0 (soN S m H p) (-1000000004) none _ (by omega) sl g2
    · rw [if_neg (fun z => h2 z.2)]
      refine ⟨fdS S 0, ?_, jk_refl _⟩
      simp [ez88_0, ez88_1, ez88_2, ez88_5, ez88_8, ez88_9, ez88_12, ez88_15, ez88_16, ez88_18, ez88_21, sp_SC_isCarrier, sp_SC_isPlace, tl_s, bI_eq0, KL_1, hc, h1, h2, f]
  · rw [if_neg (fun z => h1 z.1)]
    refine ⟨fdS S 0, ?_, jk_refl _⟩
    simp [ez88_0, ez88_1, ez88_2, ez88_5, ez88_8, ez88_9, ez88_12, ez88_15, ez88_16, ez88_18, ez88_21, sp_SC_isCarrier, tl_s, bI_eq0, KL_1, hc, h1, f]
theorem wgP_fst (k : Nat) (du : Int32) (pr : Nat → Int32) (t : wT) (hs : Int32) {b b' : Int32 × Int32} (e : b.1 = b'.1) : ∀ p, (wgP k du pr t hs b p).1 = (wgP k du pr t hs b' p).1
  | 0 => e
  | p + 1 => by
    unfold wgP
    by_cases h : t.2.2 &&& ((1 : Int32) <<< (nI p &&& 31)) = 0
    · rw [if_pos h, if_pos h]
      exact wgP_fst k du pr t hs e p
    · rw [if_neg h, if_neg h, wgP_fst k du pr t hs e p]
      by_cases h2 : wgV k t.1 du (pr p) ≤ (wgP k du pr t hs b' p).1
      · rw [if_pos h2, if_pos h2]
        exact wgP_fst k du pr t hs e p
      · rw [if_neg h2, if_neg h2]
theorem skB_fst (k : Nat) (du : Int32) (pr : Nat → Int32) (st : wT → wT) (t : wT) {b b' : Int32 × Int32} (e : b.1 = b'.1) : ∀ j, (skB k du pr st t b j).1 = (skB k du pr st t b' j).1
  | 0 => e
  | j + 1 => wgP_fst k du pr (itW st t j) (nI j) (skB_fst k du pr st t e j) 16
def kdF (S : hs_S) (m H q : Nat) : Nat → Nat → Int32 → Int32 → Int32
  | 0, _, _, bk => bk
  | e + 1, k, mo, bk => if (bsB S m H q k 0).1 ≤ mo then kdF S m H q e (k + 1) mo bk else kdF S m H q e (k + 1) (bsB S m H q k 0).1 (nI k)
theorem kind_loop (d : Nat) (S : hs_S) (n H m q : Nat) (h : hOk S n H) (hm : m < n) (hH : H ≤ 99999) (hq : q ≤ 48) : ∀ e k mo bk T, k + e = 6 → jk S T → cQ (sx_run (d + 6) 89 (32, [some (.ref 1), some (.int (nI m)), some (.int (nI q)), some (.int mo), some (.int bk), some (.int (nI k))], [], hp T)) (kdF S m H q e k mo bk, S) := by
  have n8 := h.n8
  intro e
  induction e with
  | zero =>
    intro k mo bk T hk g
    have e6 : k = 6 := by omega
    subst e6
    rw [ez89_32]
    refine ⟨T, ?_, g⟩
    simp only [ez89_34, ez89_36, if_pos (show (6 : Int32) ≤ nI 6 by decide), ez89_124, ez89_126]
    rfl
  | succ e ih =>
    intro k mo bk T hk g
    have ok := hOk_jk h g
    have hr := ok.hr
    have b := sp_begin (d + 4) h g hm
    have c49 : isCar 49 = true := rfl
    have s := sp_Way_seekBest d (uK (bgS T (15 + m) (nI H)) 49 k) (wt0 S m (nI H)) H q hq (by show k < 6; omega) rfl (by omega)
    rw [wyS_self (uK (bgS T (15 + m) (nI H)) 49 k) (wt0 S m (nI H)) (g.1 _ _ (jF_car (by omega))) rfl (by show (1 : Int32) <<< (T.1 (15 + m) 1 &&& 31) = _; rw [g.1 _ _ (jF_car (show m < 8 by omega))]; rfl)] at s
    have e1 : wsB (uK (bgS T (15 + m) (nI H)) 49 k) = wS k (S.1 (15 + m) 3) (S.1 (15 + m) 4) (S.1 11 5) (S.2.1 12) 0 := by
      show wst k (T.1 (15 + m) 3) (T.1 (15 + m) 4) (gdF (T.1 11 5) (T.2.1 12) (T.2.1 48)) 0 = _
      rw [wst_old, g.1 _ _ (jF_car (show m < 8 by omega)), g.1 _ _ (jF_car (show m < 8 by omega)), g.1 11 5 rfl, g.2.1 12 rfl]
    have e2 : skB ((uK (bgS T (15 + m) (nI H)) 49 k).2.2.2 49) ((uK (bgS T (15 + m) (nI H)) 49 k).1 49 4) ((uK (bgS T (15 + m) (nI H)) 49 k).2.1 13) (wsB (uK (bgS T (15 + m) (nI H)) 49 k)) (wt0 S m (nI H)) (-1, (uK (bgS T (15 + m) (nI H)) 49 k).1 47 6) (q + 1) = bsB S m H q k (T.1 47 6) := by
      rw [e1]
      show skB k (T.1 (15 + m) 4) (T.2.1 13) _ _ (-1, T.1 47 6) (q + 1) = _
      rw [g.1 _ _ (jF_car (show m < 8 by omega)), g.2.1 13 rfl]
      rfl
    rw [e2] at s
    have e3 : (bsB S m H q k (T.1 47 6)).1 = (bsB S m H q k 0).1 := by
      unfold bsB
      exact skB_fst _ _ _ _ _ (b := (-1, T.1 47 6)) (b' := (-1, 0)) rfl (q + 1)
    have r : ∀ B t (b : Int32 × Int32), (wyB B t b).1 47 5 = b.1 := fun _ _ _ => rfl
    have g2 := jk_wyB (jk_uK (jk_bgS g (15 + m) (nI H)) (show jK 49 = true from rfl) k) (itW (wsB (uK (bgS T (15 + m) (nI H)) 49 k)) (wt0 S m (nI H)) q) (bsB S m H q k (T.1 47 6))
    unfold kdF
    rw [ez89_32]
    simp only [ez89_34, ez89_36, ez89_39, ez89_40, ez89_43, ez89_44, ez89_47, ez89_48, ez89_51, ez89_54, ez89_55, ez89_56, ez89_57, ez89_60, ez89_63, ez89_66, ez89_67, ez89_70, ez89_73, ez89_74, ez89_77, ez89_79, ez89_80, ez89_83, ez89_84, ez89_87, ez89_88, ez89_91, ez89_92, ez89_95, ez89_96, ez89_99, ez89_102, if_neg (show ¬ (6 : Int32) ≤ nI k from nI_ge (b := 6) (show k < 6 by omega) (by omega)), GF_1_0, GF_1_1, GF_1_5, GF_11_2, GF_11_4, hr, Option.bind_some, GQ_14 _ m (show m < 8 by omega), GQ_2 _ k (show k < 6 by omega), KL_47, if_true, b, tl_n, GF_47_0, PC_0 _ c49, s, GF_47_5, r, e3]
    have u5 : (wyB (uK (bgS T (15 + m) (nI H)) 49 k) (itW (wsB (uK (bgS T (15 + m) (nI H)) 49 k)) (wt0 S m (nI H)) q) (bsB S m H q k (T.1 47 6))).1 47 5 = (bsB S m H q k 0).1 := e3
    generalize wyB (uK (bgS T (15 + m) (nI H)) 49 k) (itW (wsB (uK (bgS T (15 + m) (nI H)) 49 k)) (wt0 S m (nI H)) q) (bsB S m H q k (T.1 47 6)) = U at g2 u5 ⊢
    by_cases z : (bsB S m H q k 0).1 ≤ mo
    · rw [if_pos z]
      simp only [ez89_103, if_pos z, ez89_118, ez89_121, nI_1]
      exact ih (k + 1) mo bk U (by omega) g2
    · rw [if_neg z]
      simp only [ez89_103, if_neg z, ez89_106, ez89_107, ez89_110, ez89_113, ez89_114, ez89_116, ez89_118, ez89_121, GF_1_5, GF_47_5, u5, Option.bind_some, nI_1]
      exact ih (k + 1) (bsB S m H q k 0).1 (nI k) U (by omega) g2
def cl_kind (S : hs_S) (n H : Nat) (c x : Int32) : Int32 × hs_S :=
  if (0 ≤ c ∧ c < nI n) ∧ (0 ≤ x ∧ x ≤ 48) then (kdF S c.toNatClampNeg H x.toNatClampNeg 6 0 (-1) 0, S) else (-1000000001, fdS S 0)
theorem sp_SC_kind (d : Nat) (S : hs_S) (n H : Nat) (c x : Int32) (h : hOk S n H) (hH : H ≤ 99999) : cQ (sx_call (d + 7) 89 [.ref 1, .int c, .int x] (hp S)) (cl_kind S n H c x) := by
  rw [cz89]
  have f := sp_SC_finding (d + 5) S 0 (-1000000001) (by decide) (by decide)
  have hc := h.cnt
  have n8 := h.n8
  unfold cl_kind
  by_cases h1 : 0 ≤ c ∧ c < nI n
  · by_cases h2 : 0 ≤ x ∧ x ≤ 48
    · obtain ⟨m, hm, rfl⟩ := car_of n8 h1
      obtain ⟨q, hq, rfl⟩ := n48_of h2
      rw [if_pos ⟨h1, h2⟩, nI_clamp (show m < 2 ^ 31 by omega), nI_clamp (show q < 2 ^ 31 by omega)]
      simp only [ez89_0, ez89_1, ez89_2, ez89_5, ez89_8, ez89_9, ez89_11, ez89_14, ez89_17, ez89_18, ez89_20, ez89_23, ez89_24, ez89_25, ez89_26, ez89_27, ez89_29, ez89_30, sp_SC_isCarrier, sp_SC_within, tl_s, tl_n, bI_eq0, KL_1, if_true, hc, h1, h2, and_self, not_true, not_false_iff, if_false, Option.bind_some]
      exact kind_loop d S n H m q h hm hH hq 6 0 (-1) 0 S (by omega) (jk_refl S)
    · rw [if_neg (fun z => h2 z.2)]
      refine ⟨fdS S 0, ?_, jk_refl _⟩
      simp [ez89_0, ez89_1, ez89_2, ez89_5, ez89_8, ez89_9, ez89_11, ez89_14, ez89_17, ez89_18, ez89_20, ez89_23, sp_SC_isCarrier, sp_SC_within, tl_s, bI_eq0, KL_1, hc, h1, h2, f]
  · rw [if_neg (fun z => h1 z.1)]
    refine ⟨fdS S 0, ?_, jk_refl _⟩
    simp [ez89_0, ez89_1, ez89_2, ez89_5, ez89_8, ez89_9, ez89_11, ez89_14, ez89_17, ez89_18, ez89_20, ez89_23, sp_SC_isCarrier, tl_s, bI_eq0, KL_1, hc, h1, f]
