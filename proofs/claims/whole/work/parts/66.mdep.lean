/-! THE MODEL: post, depart -/
def pmN (w : Nat → Int32) (m k p q : Nat) : Nat := (smN (upd w (3 + q) 0) m k p 48).1
def pmF (w : Nat → Int32) (m k p : Nat) : Nat → Nat → Nat → Int32 → Int32
  | 0, _, _, t => t
  | e + 1, q, f, t => if f ≤ pmN w m k p q then pmF w m k p e (q + 1) f t else pmF w m k p e (q + 1) (pmN w m k p q) (nI q)
def m1A (S : hs_S) (t : Int32) : Int32 × hs_S := if 0 ≤ t then (t, S) else (-1000000004, fdM S 3)
theorem mpost_loop (d : Nat) (S : hs_S) (m k p : Nat) (hm : m < 8) (hk : k < 6) (hp0 : p < 16) (er : S.2.1 62 (35 + 6 * m + 0) = nI k) : ∀ e q f tk l6 l7 T, q + e = 16 → f ≤ 49 → mJ S T (S.2.1 62) → cQ (sx_run (d + 7) 175 (35, [some (.ref 61), some (.int (nI m)), some (.int (nI p)), some (.int (nI f)), some (.int tk), some (.int (nI q)), l6, l7], [], hp T)) (m1A S (pmF (S.2.1 62) m k p e q f tk)) := by
  intro e
  induction e with
  | zero =>
    intro q f tk l6 l7 T hq hf g
    have e16 : q = 16 := by omega
    subst e16
    rw [ez175_35]
    show cQ _ (m1A S tk)
    unfold m1A
    simp only [ez175_37, ez175_39, if_pos (show (16 : Int32) ≤ nI 16 by decide), ez175_116, ez175_118]
    by_cases z : 0 ≤ tk
    · rw [if_pos z, if_pos z]
      refine ⟨T, ?_, mJ_end g⟩
      simp only [ez175_130, ez175_132]
    · rw [if_neg z, if_neg z]
      refine ⟨_, ?_, jk_fdM (mJ_end g) 3⟩
      simp only [ez175_121, ez175_122, ez175_124, ez175_127, ez175_130, ez175_132, KL_61, Option.bind_some, tl_s, tl_n, bI_eq0, if_true, if_false, not_true, not_false_iff, and_self, Bool.false_eq_true, sp_M_finds (d + 6) T 3 (-1000000004) (by decide) (by decide)]
  | succ e ih =>
    intro q f tk l6 l7 T hq hf g
    have g16 := ge16 (n := 16) rfl (show q < 16 by omega)
    have g2 := mJ_row g (upd (S.2.1 62) (3 + q) 0)
    have so := sp_M_soonestOf d (uI T 62 (upd (S.2.1 62) (3 + q) 0)) m k p hm hk hp0 (by rw [g2.1, upd_ne _ _ (by omega)]; exact er)
    rw [g2.1] at so
    have e1 : (smN (upd (S.2.1 62) (3 + q) 0) m k p 48).1 = pmN (S.2.1 62) m k p q := rfl
    have le : pmN (S.2.1 62) m k p q ≤ 49 := htF_le _ _ 49 0 _
    have g3 := mJ_row (mJ_mw g2 (smN (upd (S.2.1 62) (3 + q) 0) m k p 48).2) (S.2.1 62)
    have r3 := (mJ_mw g2 (smN (upd (S.2.1 62) (3 + q) 0) m k p 48).2).1
    rw [e1] at so
    generalize mwS (uI T 62 (upd (S.2.1 62) (3 + q) 0)) (smN (upd (S.2.1 62) (3 + q) 0) m k p 48).2 = U at so g3 r3
    have i3 := in_nI (show 3 + q < 83 by omega) (by decide)
    have c3 := nI_clamp (show 3 + q < 2 ^ 31 by omega)
    unfold pmF
    rw [ez175_35]
    by_cases z : f ≤ pmN (S.2.1 62) m k p q
    · rw [if_pos z]
      have K := ih (q + 1) f tk (some (.int (S.2.1 62 (3 + q)))) (some (.int (nI (pmN (S.2.1 62) m k p q)))) _ (by omega) hf g3
      simp only [ez175_37, ez175_39, ez175_42, ez175_43, ez175_46, ez175_47, ez175_49, ez175_50, ez175_51, ez175_53, ez175_54, ez175_57, ez175_58, ez175_60, ez175_61, ez175_62, ez175_63, ez175_64, ez175_65, ez175_66, ez175_69, ez175_71, ez175_72, ez175_75, ez175_76, ez175_78, ez175_79, ez175_81, ez175_82, ez175_84, ez175_85, ez175_88, ez175_90, ez175_93, ez175_95, ez175_97, ez175_99, ez175_100, ez175_103, ez175_105, ez175_108, ez175_109, ez175_110, ez175_113, if_neg g16, GF_61_0, Option.bind_some, tl_s, tl_n, bI_eq0, if_true, if_false, not_true, not_false_iff, and_self, Bool.false_eq_true, add3, GI_62, PI_62, i3, c3, g.1, KL_61, so, r3, upd_back, if_pos (nI_le z (show pmN (S.2.1 62) m k p q < 2 ^ 31 by omega)), nI_1]
      exact K
    · rw [if_neg z]
      have K := ih (q + 1) (pmN (S.2.1 62) m k p q) (nI q) (some (.int (S.2.1 62 (3 + q)))) (some (.int (nI (pmN (S.2.1 62) m k p q)))) _ (by omega) le g3
      simp only [ez175_37, ez175_39, ez175_42, ez175_43, ez175_46, ez175_47, ez175_49, ez175_50, ez175_51, ez175_53, ez175_54, ez175_57, ez175_58, ez175_60, ez175_61, ez175_62, ez175_63, ez175_64, ez175_65, ez175_66, ez175_69, ez175_71, ez175_72, ez175_75, ez175_76, ez175_78, ez175_79, ez175_81, ez175_82, ez175_84, ez175_85, ez175_88, ez175_90, ez175_93, ez175_95, ez175_97, ez175_99, ez175_100, ez175_103, ez175_105, ez175_108, ez175_109, ez175_110, ez175_113, if_neg g16, GF_61_0, Option.bind_some, tl_s, tl_n, bI_eq0, if_true, if_false, not_true, not_false_iff, and_self, Bool.false_eq_true, add3, GI_62, PI_62, i3, c3, g.1, KL_61, so, r3, upd_back, if_neg (nI_ge (show pmN (S.2.1 62) m k p q < f by omega) (show f < 2 ^ 31 by omega)), nI_1]
      exact K
def ml_post (S : hs_S) (n : Nat) (K : Nat → Nat) (c p : Int32) : Int32 × hs_S :=
  if (0 ≤ c ∧ c < nI n) ∧ (0 ≤ p ∧ p < 16) then m1A S (pmF (S.2.1 62) c.toNatClampNeg (K c.toNatClampNeg) p.toNatClampNeg 16 0 (smN (S.2.1 62) c.toNatClampNeg (K c.toNatClampNeg) p.toNatClampNeg 48).1 (-1)) else (-1000000001, fdM S 0)
theorem sp_M_post (d : Nat) (S : hs_S) (n : Nat) (K P : Nat → Nat) (c p : Int32) (h : rG (S.2.1 62) n K P) : cQ (sx_call (d + 8) 175 [.ref 61, .int c, .int p] (hp S)) (ml_post S n K c p) := by
  rw [cz175]
  have f0 := sp_M_finds (d + 6) S 0 (-1000000001) (by decide) (by decide)
  have isc := sp_M_isCarrier (d + 5) S n c h.1 h.2.1
  have n8 := h.1
  unfold ml_post
  by_cases h1 : 0 ≤ c ∧ c < nI n
  · by_cases h2 : 0 ≤ p ∧ p < 16
    · rw [if_pos ⟨h1, h2⟩]
      obtain ⟨m, hm, rfl⟩ := car_of h.1 h1
      obtain ⟨q, hq, rfl⟩ := p16_of h2
      rw [nI_clamp (show m < 2 ^ 31 by omega), nI_clamp (show q < 2 ^ 31 by omega)]
      have C := h.2.2 m hm
      have so := sp_M_soonestOf d S m (K m) q (by omega) C.1.1 hq C.1.2
      have le : (smN (S.2.1 62) m (K m) q 48).1 ≤ 49 := htF_le _ _ 49 0 _
      have g := mJ_mw (mJ_0 S) (smN (S.2.1 62) m (K m) q 48).2
      have l := mpost_loop d S m (K m) q (by omega) C.1.1 hq C.1.2 16 0 (smN (S.2.1 62) m (K m) q 48).1 (-1) none none _ (by omega) le g
      simp only [ez175_0, ez175_1, ez175_2, ez175_5, ez175_8, ez175_9, ez175_12, ez175_15, ez175_16, ez175_18, ez175_21, ez175_22, ez175_23, ez175_24, ez175_25, ez175_28, ez175_29, ez175_30, ez175_32, ez175_33, isc, sp_M_isPlace, Option.bind_some, tl_s, tl_n, bI_eq0, if_true, if_false, not_true, not_false_iff, and_self, Bool.false_eq_true, h1, h2, KL_61, so]
      exact l
    · rw [if_neg (fun z => h2 z.2)]
      refine ⟨_, ?_, jk_refl _⟩
      simp only [ez175_0, ez175_1, ez175_2, ez175_5, ez175_8, ez175_9, ez175_12, ez175_15, ez175_16, ez175_18, ez175_21, isc, sp_M_isPlace, Option.bind_some, tl_s, tl_n, bI_eq0, if_true, if_false, not_true, not_false_iff, and_self, Bool.false_eq_true, h1, h2, KL_61, f0]
  · rw [if_neg (fun z => h1 z.1)]
    refine ⟨_, ?_, jk_refl _⟩
    simp only [ez175_0, ez175_1, ez175_2, ez175_5, ez175_8, ez175_9, ez175_12, ez175_15, ez175_16, ez175_18, ez175_21, isc, Option.bind_some, tl_s, tl_n, bI_eq0, if_true, if_false, not_true, not_false_iff, and_self, Bool.false_eq_true, h1, KL_61, f0]
/-- waiting at a place, hour by hour, until it is found -/
def dwF (st : wT → wT) : Nat → wT → wT
  | 0, t => t
  | e + 1, t => if t.2.2 = 0 then t else dwF st e (st t)
def dmN (w : Nat → Int32) (m k p wt : Nat) : Nat := if (dwF (mgo w m k (wmt w m).2.2) wt (wmt w m)).2.2 = 0 then 49 else (htF (mws w m k) (nI p) 49 0 (dwF (mgo w m k (wmt w m).2.2) wt (wmt w m))).1
def dmF (w : Nat → Int32) (m k p : Nat) : Nat → Nat → Int32 → Nat → Int32
  | 0, _, t, _ => t
  | e + 1, i, t, f => if f ≤ dmN w m k p i then dmF w m k p e (i + 1) t f else dmF w m k p e (i + 1) (nI i) (dmN w m k p i)
theorem wait_loop (d : Nat) (B : hs_S) (m k wt : Nat) (at0 : Int32) (l2 l3 l4 : Option Value) (hm : m < 8) (hk : k < 6) (hw : wt ≤ 24) (er : B.2.1 62 (35 + 6 * m + 0) = nI k) (R : Option sx_R) : ∀ e j t, j + e = wt → (∀ l7, sx_run (d + 5) 177 (79, [some (.ref 61), some (.int (nI m)), l2, l3, l4, some (.int (nI wt)), some (.int at0), l7], [], hp (mwS B (dwF (mgo (B.2.1 62) m k at0) e t))) = R) → sx_run (d + 5) 177 (52, [some (.ref 61), some (.int (nI m)), l2, l3, l4, some (.int (nI wt)), some (.int at0), some (.int (nI j))], [], hp (mwS B t)) = R := by
  intro e
  induction e with
  | zero =>
    intro j t hj hR
    have ej : j = wt := by omega
    subst ej
    rw [ez177_52]
    simp only [ez177_54, ez177_56, if_pos (nI_le (Nat.le_refl j) (show j < 2 ^ 31 by omega))]
    exact hR _
  | succ e ih =>
    intro j t hj hR
    have go := sp_M_goesOn d B m k at0 t hm hk er
    unfold dwF at hR
    rw [ez177_52]
    simp only [ez177_54, ez177_56, ez177_59, ez177_60, if_neg (nI_ge (show j < wt by omega) (by omega)), GF_61_7, mwS_re, Option.bind_some, tl_s, tl_n, bI_eq0, if_true, if_false, not_true, not_false_iff, and_self, Bool.false_eq_true, ez177_63]
    by_cases z : t.2.2 = 0
    · simp only [if_pos z] at hR
      rw [if_pos z]
      exact hR _
    · simp only [if_neg z] at hR
      rw [if_neg z]
      simp only [ez177_66, ez177_67, ez177_68, ez177_70, ez177_73, ez177_76, Option.bind_some, tl_s, tl_n, bI_eq0, if_true, if_false, not_true, not_false_iff, and_self, Bool.false_eq_true, KL_61, go, nI_1]
      exact ih (j + 1) _ (by omega) hR
theorem mdepart_loop (d : Nat) (S : hs_S) (m k p : Nat) (hm : m < 8) (hk : k < 6) (hp0 : p < 16) (er : S.2.1 62 (35 + 6 * m + 0) = nI k) : ∀ e i tk f l6 l7 T, i + e = 24 → f ≤ 49 → mJ S T (S.2.1 62) → cQ (sx_run (d + 6) 177 (31, [some (.ref 61), some (.int (nI m)), some (.int (nI p)), some (.int tk), some (.int (nI f)), some (.int (nI i)), l6, l7], [], hp T)) (m1A S (dmF (S.2.1 62) m k p e i tk f)) := by
  intro e
  induction e with
  | zero =>
    intro i tk f l6 l7 T hi hf g
    have e24 : i = 24 := by omega
    subst e24
    rw [ez177_31]
    show cQ _ (m1A S tk)
    unfold m1A
    simp only [ez177_33, ez177_35, if_pos (show (24 : Int32) ≤ nI 24 by decide), ez177_137, ez177_138]
    by_cases z : 0 ≤ tk
    · rw [if_pos z, if_pos z]
      refine ⟨T, ?_, mJ_end g⟩
      simp only [ez177_150, ez177_151]
    · rw [if_neg z, if_neg z]
      refine ⟨_, ?_, jk_fdM (mJ_end g) 3⟩
      simp only [ez177_141, ez177_142, ez177_144, ez177_147, ez177_150, ez177_151, KL_61, Option.bind_some, tl_s, tl_n, bI_eq0, if_true, if_false, not_true, not_false_iff, and_self, Bool.false_eq_true, sp_M_finds (d + 5) T 3 (-1000000004) (by decide) (by decide)]
  | succ e ih =>
    intro i tk f l6 l7 T hi hf g
    have g24 : ¬ (24 : Int32) ≤ nI i := nI_ge (b := 24) (show i < 24 by omega) (by omega)
    have b := sp_M_begins (d + 3) T m hm
    rw [g.1] at b
    have er' : T.2.1 62 (35 + 6 * m + 0) = nI k := by rw [g.1]; exact er
    have le : dmN (S.2.1 62) m k p i ≤ 49 := by
      unfold dmN
      by_cases z : (dwF (mgo (S.2.1 62) m k (wmt (S.2.1 62) m).2.2) i (wmt (S.2.1 62) m)).2.2 = 0
      · rw [if_pos z]
        omega
      · rw [if_neg z]
        exact htF_le _ _ 49 0 _
    have fin : ∀ (U : hs_S) (l6 l7 : Option Value), mJ S U (S.2.1 62) → cQ (sx_run (d + 6) 177 (99, [some (.ref 61), some (.int (nI m)), some (.int (nI p)), some (.int tk), some (.int (nI f)), some (.int (nI i)), l6, l7], [.int (nI (dmN (S.2.1 62) m k p i))], hp U)) (m1A S (dmF (S.2.1 62) m k p (e + 1) i tk f)) := by
      intro U l6 l7 gU
      unfold dmF
      by_cases z : f ≤ dmN (S.2.1 62) m k p i
      · rw [if_pos z]
        simp only [ez177_99, ez177_101, ez177_103, ez177_105, ez177_108, ez177_110, ez177_113, ez177_114, ez177_115, ez177_117, ez177_119, ez177_122, ez177_124, ez177_127, ez177_129, ez177_131, ez177_134, if_pos (nI_le z (show dmN (S.2.1 62) m k p i < 2 ^ 31 by omega)), nI_1]
        exact ih (i + 1) tk f _ _ U (by omega) hf gU
      · rw [if_neg z]
        simp only [ez177_99, ez177_101, ez177_103, ez177_105, ez177_108, ez177_110, ez177_113, ez177_114, ez177_115, ez177_117, ez177_119, ez177_122, ez177_124, ez177_127, ez177_129, ez177_131, ez177_134, if_neg (nI_ge (show dmN (S.2.1 62) m k p i < f by omega) (show f < 2 ^ 31 by omega)), nI_1]
        exact ih (i + 1) (nI i) (dmN (S.2.1 62) m k p i) _ _ U (by omega) le gU
    rw [ez177_31]
    simp only [ez177_33, ez177_35, ez177_38, ez177_39, ez177_40, ez177_43, ez177_44, ez177_47, ez177_49, ez177_50, if_neg g24, Option.bind_some, tl_s, tl_n, bI_eq0, if_true, if_false, not_true, not_false_iff, and_self, Bool.false_eq_true, KL_61, b, GF_61_7, mwS_re]
    have key : ∀ R, (∀ l7, sx_run (d + 6) 177 (79, [some (.ref 61), some (.int (nI m)), some (.int (nI p)), some (.int tk), some (.int (nI f)), some (.int (nI i)), some (.int (wmt (S.2.1 62) m).2.2), l7], [], hp (mwS T (dwF (mgo (T.2.1 62) m k (wmt (S.2.1 62) m).2.2) i (wmt (S.2.1 62) m)))) = R) → sx_run (d + 6) 177 (52, [some (.ref 61), some (.int (nI m)), some (.int (nI p)), some (.int tk), some (.int (nI f)), some (.int (nI i)), some (.int (wmt (S.2.1 62) m).2.2), some (.int (nI 0))], [], hp (mwS T (wmt (S.2.1 62) m))) = R := fun R => wait_loop (d + 1) T m k i (wmt (S.2.1 62) m).2.2 _ _ _ hm hk (by omega) er' R i 0 (wmt (S.2.1 62) m) (by omega)
    have n0 : nI 0 = (0 : Int32) := rfl
    rw [n0, g.1] at key
    have gm := mJ_mw g (dwF (mgo (S.2.1 62) m k (wmt (S.2.1 62) m).2.2) i (wmt (S.2.1 62) m))
    by_cases z : (dwF (mgo (S.2.1 62) m k (wmt (S.2.1 62) m).2.2) i (wmt (S.2.1 62) m)).2.2 = 0
    · have e49 : dmN (S.2.1 62) m k p i = 49 := if_pos z
      have fi := fun l7 => fin _ (some (.int (wmt (S.2.1 62) m).2.2)) l7 gm
      rw [e49] at fi
      have cont : ∀ l7, sx_run (d + 6) 177 (79, [some (.ref 61), some (.int (nI m)), some (.int (nI p)), some (.int tk), some (.int (nI f)), some (.int (nI i)), some (.int (wmt (S.2.1 62) m).2.2), l7], [], hp (mwS T (dwF (mgo (S.2.1 62) m k (wmt (S.2.1 62) m).2.2) i (wmt (S.2.1 62) m)))) = sx_run (d + 6) 177 (101, [some (.ref 61), some (.int (nI m)), some (.int (nI p)), some (.int tk), some (.int (nI f)), some (.int (nI i)), some (.int (wmt (S.2.1 62) m).2.2), some (.int (nI 49))], [], hp (mwS T (dwF (mgo (S.2.1 62) m k (wmt (S.2.1 62) m).2.2) i (wmt (S.2.1 62) m)))) := by
        intro l7
        simp only [ez177_79, ez177_80, ez177_83, ez177_86, ez177_88, ez177_91, ez177_92, ez177_93, ez177_94, ez177_96, ez177_99, GF_61_7, mwS_re, Option.bind_some, tl_s, tl_n, bI_eq0, if_true, if_false, not_true, not_false_iff, and_self, Bool.false_eq_true, z]
        rfl
      rw [key _ cont]
      have f2 := fi none
      rw [ez177_99] at f2
      exact f2
    · have e49 : dmN (S.2.1 62) m k p i = (htF (mws (S.2.1 62) m k) (nI p) 49 0 (dwF (mgo (S.2.1 62) m k (wmt (S.2.1 62) m).2.2) i (wmt (S.2.1 62) m))).1 := if_neg z
      have ci : sx_call (d + 6) 166 [.ref 61, .int (nI m), .int (nI p), .int 48] (hp (mwS T (dwF (mgo (S.2.1 62) m k (wmt (S.2.1 62) m).2.2) i (wmt (S.2.1 62) m)))) = _ := sp_M_comesIn d T m k p 48 (dwF (mgo (S.2.1 62) m k (wmt (S.2.1 62) m).2.2) i (wmt (S.2.1 62) m)) hm hk hp0 (by omega) er'
      rw [g.1, ← e49] at ci
      have gc := mJ_mw g (htF (mws (S.2.1 62) m k) (nI p) 49 0 (dwF (mgo (S.2.1 62) m k (wmt (S.2.1 62) m).2.2) i (wmt (S.2.1 62) m))).2
      have f2 := fin _ (some (.int (wmt (S.2.1 62) m).2.2)) none gc
      rw [ez177_99] at f2
      have cont : ∀ l7, sx_run (d + 6) 177 (79, [some (.ref 61), some (.int (nI m)), some (.int (nI p)), some (.int tk), some (.int (nI f)), some (.int (nI i)), some (.int (wmt (S.2.1 62) m).2.2), l7], [], hp (mwS T (dwF (mgo (S.2.1 62) m k (wmt (S.2.1 62) m).2.2) i (wmt (S.2.1 62) m)))) = sx_run (d + 6) 177 (101, [some (.ref 61), some (.int (nI m)), some (.int (nI p)), some (.int tk), some (.int (nI f)), some (.int (nI i)), some (.int (wmt (S.2.1 62) m).2.2), some (.int (nI (dmN (S.2.1 62) m k p i)))], [], hp (mwS T (htF (mws (S.2.1 62) m k) (nI p) 49 0 (dwF (mgo (S.2.1 62) m k (wmt (S.2.1 62) m).2.2) i (wmt (S.2.1 62) m))).2)) := by
        intro l7
        simp only [ez177_79, ez177_80, ez177_83, ez177_86, ez177_88, ez177_91, ez177_92, ez177_93, ez177_94, ez177_96, ez177_99, GF_61_7, mwS_re, Option.bind_some, tl_s, tl_n, bI_eq0, if_true, if_false, not_true, not_false_iff, and_self, Bool.false_eq_true, z, KL_61, ci]
      rw [key _ cont]
      exact f2
def ml_depart (S : hs_S) (n : Nat) (K : Nat → Nat) (c p : Int32) : Int32 × hs_S :=
  if (0 ≤ c ∧ c < nI n) ∧ (0 ≤ p ∧ p < 16) then m1A S (dmF (S.2.1 62) c.toNatClampNeg (K c.toNatClampNeg) p.toNatClampNeg 24 0 (-1) 49) else (-1000000001, fdM S 0)
theorem sp_M_depart (d : Nat) (S : hs_S) (n : Nat) (K P : Nat → Nat) (c p : Int32) (h : rG (S.2.1 62) n K P) : cQ (sx_call (d + 7) 177 [.ref 61, .int c, .int p] (hp S)) (ml_depart S n K c p) := by
  rw [cz177]
  have f0 := sp_M_finds (d + 5) S 0 (-1000000001) (by decide) (by decide)
  have isc := sp_M_isCarrier (d + 4) S n c h.1 h.2.1
  have n8 := h.1
  unfold ml_depart
  by_cases h1 : 0 ≤ c ∧ c < nI n
  · by_cases h2 : 0 ≤ p ∧ p < 16
    · rw [if_pos ⟨h1, h2⟩]
      obtain ⟨m, hm, rfl⟩ := car_of h.1 h1
      obtain ⟨q, hq, rfl⟩ := p16_of h2
      rw [nI_clamp (show m < 2 ^ 31 by omega), nI_clamp (show q < 2 ^ 31 by omega)]
      have C := h.2.2 m hm
      have l := mdepart_loop d S m (K m) q (by omega) C.1.1 hq C.1.2 24 0 (-1) 49 none none S (by omega) (by omega) (mJ_0 S)
      simp only [ez177_0, ez177_1, ez177_2, ez177_5, ez177_8, ez177_9, ez177_12, ez177_15, ez177_16, ez177_18, ez177_21, ez177_22, ez177_23, ez177_24, ez177_26, ez177_28, ez177_29, isc, sp_M_isPlace, Option.bind_some, tl_s, tl_n, bI_eq0, if_true, if_false, not_true, not_false_iff, and_self, Bool.false_eq_true, h1, h2, KL_61]
      exact l
    · rw [if_neg (fun z => h2 z.2)]
      refine ⟨_, ?_, jk_refl _⟩
      simp only [ez177_0, ez177_1, ez177_2, ez177_5, ez177_8, ez177_9, ez177_12, ez177_15, ez177_16, ez177_18, ez177_21, isc, sp_M_isPlace, Option.bind_some, tl_s, tl_n, bI_eq0, if_true, if_false, not_true, not_false_iff, and_self, Bool.false_eq_true, h1, h2, KL_61, f0]
  · rw [if_neg (fun z => h1 z.1)]
    refine ⟨_, ?_, jk_refl _⟩
    simp only [ez177_0, ez177_1, ez177_2, ez177_5, ez177_8, ez177_9, ez177_12, ez177_15, ez177_16, ez177_18, ez177_21, isc, Option.bind_some, tl_s, tl_n, bI_eq0, if_true, if_false, not_true, not_false_iff, and_self, Bool.false_eq_true, h1, KL_61, f0]
