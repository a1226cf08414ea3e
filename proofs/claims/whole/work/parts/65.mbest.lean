/-! THE MODEL: the best of ways -/
def mwB (B : hs_S) (t : wT) (b : Int32 × Int32) : hs_S := uF (uF (mwS B t) 61 10 b.1) 61 11 b.2
theorem mwB_2 (B : hs_S) (t : wT) (b : Int32 × Int32) : (mwB B t b).2 = B.2 := rfl
theorem mwB_re (B : hs_S) (t : wT) (b : Int32 × Int32) : (mwB B t b).1 61 7 = t.2.2 := rfl
theorem mwB_sh (B : hs_S) (t : wT) (b : Int32 × Int32) : (mwB B t b).1 61 8 = t.1 := rfl
theorem mwB_10 (B : hs_S) (t : wT) (b : Int32 × Int32) : (mwB B t b).1 61 10 = b.1 := rfl
theorem mwB_11 (B : hs_S) (t : wT) (b : Int32 × Int32) : (mwB B t b).1 61 11 = b.2 := rfl
theorem mwB_eq (B : hs_S) (t : wT) (b : Int32 × Int32) : mwB B t b = mwS (uF (uF B 61 10 b.1) 61 11 b.2) t := by
  unfold mwB mwS
  rw [uF_comm _ 61 7 61 10 _ _ (by decide), uF_comm _ 61 9 61 10 _ _ (by decide), uF_comm _ 61 8 61 10 _ _ (by decide), uF_comm _ 61 7 61 11 _ _ (by decide), uF_comm _ 61 9 61 11 _ _ (by decide), uF_comm _ 61 8 61 11 _ _ (by decide)]
theorem mwB_put (B : hs_S) (t : wT) (b : Int32 × Int32) (u v : Int32) : uF (uF (mwB B t b) 61 11 v) 61 10 u = mwB B t (u, v) := by
  unfold mwB
  rw [uF_uF, uF_comm _ 61 11 61 10 _ _ (by decide), uF_uF]
theorem mJ_mwB {S T : hs_S} {w : Nat → Int32} (h : mJ S T w) (t : wT) (b : Int32 × Int32) : mJ S (mwB T t b) w := mJ_F (mJ_F (mJ_mw h t) rfl _) rfl _
theorem sp_stepB (d : Nat) (B : hs_S) (m k : Nat) (t : wT) (b : Int32 × Int32) (hm : m < 8) (hk : k < 6) (er : B.2.1 62 (35 + 6 * m + 0) = nI k) : sx_call (d + 5) 164 [.ref 61, .int (nI m), .int (anF t.2.2 16)] (hp (mwB B t b)) = some (none, hp (mwB B (mws (B.2.1 62) m k t) b)) := by
  rw [mwB_eq, mwB_eq, sp_step d (uF (uF B 61 10 b.1) 61 11 b.2) m k t hm hk er]
  rfl
theorem wgP_ge (k : Nat) (du : Int32) (pr : Nat → Int32) (t : wT) (hs : Int32) {b : Int32 × Int32} (h : -1 ≤ b.1) : ∀ p, -1 ≤ (wgP k du pr t hs b p).1
  | 0 => h
  | p + 1 => by
    have ih := wgP_ge k du pr t hs h p
    unfold wgP
    by_cases h1 : t.2.2 &&& ((1 : Int32) <<< (nI p &&& 31)) = 0
    · rw [if_pos h1]
      exact ih
    · rw [if_neg h1]
      by_cases h2 : wgV k t.1 du (pr p) ≤ (wgP k du pr t hs b p).1
      · rw [if_pos h2]
        exact ih
      · rw [if_neg h2]
        exact Int32.le_trans ih (Int32.le_of_lt (Int32.not_le.mp h2))
theorem skB_ge (k : Nat) (du : Int32) (pr : Nat → Int32) (st : wT → wT) (t : wT) {b : Int32 × Int32} (h : -1 ≤ b.1) : ∀ j, -1 ≤ (skB k du pr st t b j).1
  | 0 => h
  | j + 1 => wgP_ge k du pr (itW st t j) (nI j) (skB_ge k du pr st t h j) 16
theorem fb_inner (d : Nat) (B : hs_S) (m k : Nat) (t : wT) (b : Int32 × Int32) (hs : Int32) (l2 : Option Value) (hm : m < 8) (hk : k < 6) (er : B.2.1 62 (35 + 6 * m + 0) = nI k) (hb : -1 ≤ b.1) (R : Option sx_R) (hR : ∀ l4 l5, sx_run (d + 3) 172 (130, [some (.ref 61), some (.int (nI m)), l2, some (.int hs), l4, l5], [], hp (mwB B t (wgP k (B.2.1 62 (35 + 6 * m + 4)) (fun p => B.2.1 62 (19 + p)) t hs b 16))) = R) : ∀ e p l5, p + e = 16 → sx_run (d + 3) 172 (20, [some (.ref 61), some (.int (nI m)), l2, some (.int hs), some (.int (nI p)), l5], [], hp (mwB B t (wgP k (B.2.1 62 (35 + 6 * m + 4)) (fun p => B.2.1 62 (19 + p)) t hs b p))) = R := by
  intro e
  induction e with
  | zero =>
    intro p l5 hp0
    have e16 : p = 16 := by omega
    subst e16
    rw [ez172_20]
    simp only [ez172_22, ez172_24, if_pos (show (16 : Int32) ≤ nI 16 by decide)]
    exact hR _ _
  | succ e ih =>
    intro p l5 hp0
    have K := fun l => ih (p + 1) l (by omega)
    have ge := wgP_ge k (B.2.1 62 (35 + 6 * m + 4)) (fun p => B.2.1 62 (19 + p)) t hs hb p
    have g := ge16 (n := 16) rfl (show p < 16 by omega)
    unfold wgP at K
    generalize wgP k (B.2.1 62 (35 + 6 * m + 4)) (fun p => B.2.1 62 (19 + p)) t hs b p = b1 at K ge ⊢
    have i19 := in_nI (show 19 + p < 83 by omega) (by decide)
    have c19 := nI_clamp (show 19 + p < 2 ^ 31 by omega)
    have vo : sx_call (d + 3) 141 [.ref 61, .int (nI m), .int t.1, .int (B.2.1 62 (19 + p))] (hp (mwB B t b1)) = some (some (.int (worthF k t.1 (B.2.1 62 (35 + 6 * m + 4)) (B.2.1 62 (19 + p)))), hp (mwB B t b1)) := sp_M_valueOf d (mwB B t b1) m k t.1 (B.2.1 62 (19 + p)) hm hk er
    rw [ez172_20]
    have fin : ∀ (v : Int32) (l5 : Option Value), (∀ l, sx_run (d + 3) 172 (20, [some (.ref 61), some (.int (nI m)), l2, some (.int hs), some (.int (nI (p + 1))), l], [], hp (mwB B t (if v ≤ b1.1 then b1 else (v, 100 * hs + nI p)))) = R) → sx_run (d + 3) 172 (73, [some (.ref 61), some (.int (nI m)), l2, some (.int hs), some (.int (nI p)), l5], [.int v], hp (mwB B t b1)) = R := by
      intro v l5 H
      by_cases hv : v ≤ b1.1
      · rw [if_pos hv] at H
        have s1 : uF (mwB B t b1) 61 11 b1.2 = mwB B t b1 := uF_self (mwB B t b1) 61 11
        have s2 : uF (mwB B t b1) 61 10 b1.1 = mwB B t b1 := uF_self (mwB B t b1) 61 10
        simp only [ez172_73, ez172_75, ez172_76, ez172_78, ez172_79, ez172_82, ez172_85, ez172_87, ez172_88, ez172_89, ez172_91, ez172_92, ez172_95, ez172_96, ez172_99, ez172_102, ez172_103, ez172_105, ez172_106, ez172_109, ez172_112, ez172_114, ez172_117, ez172_118, ez172_121, ez172_124, ez172_127, GF_61_10, GF_61_11, mwB_10, mwB_11, Option.bind_some, tl_s, tl_n, bI_eq0, if_true, if_false, not_true, not_false_iff, and_self, Bool.false_eq_true, hv, PF_61_10, PF_61_11, s1, s2, nI_1]
        exact H _
      · rw [if_neg hv] at H
        have s3 : ∀ x, (uF (mwB B t b1) 61 11 x).1 61 10 = b1.1 := fun x => rfl
        simp only [ez172_73, ez172_75, ez172_76, ez172_78, ez172_79, ez172_82, ez172_85, ez172_87, ez172_88, ez172_89, ez172_91, ez172_92, ez172_95, ez172_96, ez172_99, ez172_102, ez172_103, ez172_105, ez172_106, ez172_109, ez172_112, ez172_114, ez172_117, ez172_118, ez172_121, ez172_124, ez172_127, GF_61_10, GF_61_11, mwB_10, mwB_11, s3, Option.bind_some, tl_s, tl_n, bI_eq0, if_true, if_false, not_true, not_false_iff, and_self, Bool.false_eq_true, hv, PF_61_10, PF_61_11, mwB_put, nI_1]
        exact H _
    simp only [ez172_22, ez172_24, ez172_27, ez172_28, ez172_31, ez172_33, ez172_34, ez172_35, if_neg g, GF_61_7, mwB_re, Option.bind_some, tl_s, tl_n, bI_eq0, if_true, if_false, not_true, not_false_iff, and_self, Bool.false_eq_true, ez172_36, sb_ab t.2.2 (show p < 32 by omega)]
    by_cases h1 : t.2.2 &&& ((1 : Int32) <<< (nI p &&& 31)) = 0
    · simp only [if_pos h1] at K
      rw [if_neg (fun y => y h1)]
      simp only [ez172_39, ez172_40]
      refine fin (-1) _ (fun l => ?_)
      rw [if_pos ge]
      exact K l
    · simp only [if_neg h1] at K
      rw [if_pos h1]
      simp only [ez172_43, ez172_44, GF_61_8, mwB_sh, Option.bind_some, tl_s, tl_n, bI_eq0, if_true, if_false, not_true, not_false_iff, and_self, Bool.false_eq_true, ez172_47]
      unfold wgV at K
      by_cases h2 : t.1 = 0
      · simp only [if_pos h2] at K
        rw [if_neg (fun y => y h2)]
        simp only [ez172_50, ez172_51]
        exact fin 0 _ K
      · simp only [if_neg h2] at K
        rw [if_pos h2]
        simp only [ez172_54, ez172_55, ez172_56, ez172_57, ez172_60, ez172_61, ez172_64, ez172_66, ez172_68, ez172_69, ez172_70, GF_61_0, GF_61_8, mwB_sh, mwB_2, Option.bind_some, tl_s, tl_n, bI_eq0, if_true, if_false, not_true, not_false_iff, and_self, Bool.false_eq_true, GI_62, add19, i19, c19, KL_61, vo]
        exact fin _ _ K
theorem fb_outer (d : Nat) (B : hs_S) (m k q : Nat) (t : wT) (b : Int32 × Int32) (hm : m < 8) (hk : k < 6) (hq : q ≤ 48) (er : B.2.1 62 (35 + 6 * m + 0) = nI k) (hb : -1 ≤ b.1) : ∀ e j l4 l5, j + e = q + 1 → sx_run (d + 5) 172 (12, [some (.ref 61), some (.int (nI m)), some (.int (nI q)), some (.int (nI j)), l4, l5], [], hp (mwB B (itW (mws (B.2.1 62) m k) t j) (skB k (B.2.1 62 (35 + 6 * m + 4)) (fun p => B.2.1 62 (19 + p)) (mws (B.2.1 62) m k) t b j))) = some (none, hp (mwB B (itW (mws (B.2.1 62) m k) t (q + 1)) (skB k (B.2.1 62 (35 + 6 * m + 4)) (fun p => B.2.1 62 (19 + p)) (mws (B.2.1 62) m k) t b (q + 1)))) := by
  intro e
  induction e with
  | zero =>
    intro j l4 l5 hj
    have ej : j = q + 1 := by omega
    subst ej
    rw [ez172_12]
    simp only [ez172_13, ez172_14, if_pos (nI_lt (show q < q + 1 by omega) (by omega)), ez172_149]
  | succ e ih =>
    intro j l4 l5 hj
    rw [ez172_12]
    simp only [ez172_13, ez172_14, ez172_17, ez172_18, if_neg (nI_nlt (show j ≤ q by omega) (by omega))]
    refine fb_inner (d + 2) B m k (itW (mws (B.2.1 62) m k) t j) (skB k (B.2.1 62 (35 + 6 * m + 4)) (fun p => B.2.1 62 (19 + p)) (mws (B.2.1 62) m k) t b j) (nI j) _ hm hk er (skB_ge _ _ _ _ _ hb j) _ (fun l4 l5 => ?_) 16 0 _ (by omega)
    have K := ih (j + 1) l4 l5 (by omega)
    have st := fun b => sp_stepB d B m k (itW (mws (B.2.1 62) m k) t j) b hm hk er
    have an := fun b => sp_M_andNext (d + 3) (itW (mws (B.2.1 62) m k) t j).2.2 (hp (mwB B (itW (mws (B.2.1 62) m k) t j) b))
    simp only [ez172_130, ez172_131, ez172_132, ez172_133, ez172_134, ez172_137, ez172_140, ez172_143, ez172_146, GF_61_7, mwB_re, Option.bind_some, tl_s, tl_n, bI_eq0, if_true, if_false, not_true, not_false_iff, and_self, Bool.false_eq_true, KL_61, an, st, nI_1]
    exact K
def mbB (w : Nat → Int32) (m k q : Nat) (z : Int32) : Int32 × Int32 := skB k (w (35 + 6 * m + 4)) (fun p => w (19 + p)) (mws w m k) (wmt w m) (-1, z) (q + 1)
theorem sp_M_findBest (d : Nat) (T : hs_S) (m k q : Nat) (hm : m < 8) (hk : k < 6) (hq : q ≤ 48) (er : T.2.1 62 (35 + 6 * m + 0) = nI k) : sx_call (d + 6) 172 [.ref 61, .int (nI m), .int (nI q)] (hp T) = some (none, hp (mwB T (itW (mws (T.2.1 62) m k) (wmt (T.2.1 62) m) (q + 1)) (mbB (T.2.1 62) m k q (T.1 61 11)))) := by
  rw [cz172]
  have b := sp_M_begins (d + 2) (uF T 61 10 (-1)) m hm
  have l := fb_outer d T m k q (wmt (T.2.1 62) m) (-1, T.1 61 11) hm hk hq er (show (-1 : Int32) ≤ -1 by decide) (q + 1) 0 none none (by omega)
  have e : mwS (uF T 61 10 (-1)) (wmt ((uF T 61 10 (-1)).2.1 62) m) = mwB T (wmt (T.2.1 62) m) (-1, T.1 61 11) := by
    rw [mwB_eq]
    have e2 : uF (uF T 61 10 (-1, T.1 61 11).1) 61 11 (-1, T.1 61 11).2 = uF T 61 10 (-1) := uF_self (uF T 61 10 (-1)) 61 11
    rw [e2]
    rfl
  rw [e] at b
  simp only [ez172_0, ez172_1, ez172_2, ez172_5, ez172_6, ez172_7, ez172_10, ez172_11, PF_61_10, Option.bind_some, tl_s, tl_n, bI_eq0, if_true, if_false, not_true, not_false_iff, and_self, Bool.false_eq_true, KL_61, b]
  exact l
def ml_best (S : hs_S) (n : Nat) (K : Nat → Nat) (w : Bool) (c x : Int32) : Int32 × hs_S :=
  if (0 ≤ c ∧ c < nI n) ∧ (0 ≤ x ∧ x ≤ 48) then ((if w = true then (mbB (S.2.1 62) c.toNatClampNeg (K c.toNatClampNeg) x.toNatClampNeg (S.1 61 11)).2 else (mbB (S.2.1 62) c.toNatClampNeg (K c.toNatClampNeg) x.toNatClampNeg (S.1 61 11)).1), S) else (-1000000001, fdM S 0)
theorem sp_M_best (d : Nat) (S : hs_S) (n : Nat) (K P : Nat → Nat) (c x : Int32) (h : rG (S.2.1 62) n K P) : cQ (sx_call (d + 7) 173 [.ref 61, .int c, .int x] (hp S)) (ml_best S n K false c x) := by
  rw [cz173]
  have f0 := sp_M_finds (d + 5) S 0 (-1000000001) (by decide) (by decide)
  have isc := sp_M_isCarrier (d + 4) S n c h.1 h.2.1
  have n8 := h.1
  unfold ml_best
  by_cases h1 : 0 ≤ c ∧ c < nI n
  · by_cases h2 : 0 ≤ x ∧ x ≤ 48
    · rw [if_pos ⟨h1, h2⟩]
      obtain ⟨m, hm, rfl⟩ := car_of h.1 h1
      obtain ⟨q, hq, rfl⟩ := n48_of h2
      rw [nI_clamp (show m < 2 ^ 31 by omega), nI_clamp (show q < 2 ^ 31 by omega)]
      have C := h.2.2 m hm
      have fb := sp_M_findBest d S m (K m) q (by omega) C.1.1 hq C.1.2
      have r : ∀ B t (b : Int32 × Int32), (mwB B t b).1 61 10 = b.1 := fun _ _ _ => rfl
      refine ⟨_, ?_, mJ_end (mJ_mwB (mJ_0 S) (itW (mws (S.2.1 62) m (K m)) (wmt (S.2.1 62) m) (q + 1)) (mbB (S.2.1 62) m (K m) q (S.1 61 11)))⟩
      simp only [ez173_0, ez173_1, ez173_2, ez173_5, ez173_8, ez173_9, ez173_12, ez173_15, ez173_16, ez173_18, ez173_21, ez173_22, ez173_23, ez173_24, ez173_25, ez173_28, ez173_29, ez173_32, isc, sp_M_isFar, Option.bind_some, tl_s, tl_n, bI_eq0, if_true, if_false, not_true, not_false_iff, and_self, Bool.false_eq_true, h1, h2, KL_61, fb, GF_61_10, r]
    · rw [if_neg (fun z => h2 z.2)]
      refine ⟨_, ?_, jk_refl _⟩
      simp only [ez173_0, ez173_1, ez173_2, ez173_5, ez173_8, ez173_9, ez173_12, ez173_15, ez173_16, ez173_18, ez173_21, isc, sp_M_isFar, Option.bind_some, tl_s, tl_n, bI_eq0, if_true, if_false, not_true, not_false_iff, and_self, Bool.false_eq_true, h1, h2, KL_61, f0]
  · rw [if_neg (fun z => h1 z.1)]
    refine ⟨_, ?_, jk_refl _⟩
    simp only [ez173_0, ez173_1, ez173_2, ez173_5, ez173_8, ez173_9, ez173_12, ez173_15, ez173_16, ez173_18, ez173_21, isc, Option.bind_some, tl_s, tl_n, bI_eq0, if_true, if_false, not_true, not_false_iff, and_self, Bool.false_eq_true, h1, KL_61, f0]
theorem sp_M_where (d : Nat) (S : hs_S) (n : Nat) (K P : Nat → Nat) (c x : Int32) (h : rG (S.2.1 62) n K P) : cQ (sx_call (d + 7) 174 [.ref 61, .int c, .int x] (hp S)) (ml_best S n K true c x) := by
  rw [cz174]
  have f0 := sp_M_finds (d + 5) S 0 (-1000000001) (by decide) (by decide)
  have isc := sp_M_isCarrier (d + 4) S n c h.1 h.2.1
  have n8 := h.1
  unfold ml_best
  by_cases h1 : 0 ≤ c ∧ c < nI n
  · by_cases h2 : 0 ≤ x ∧ x ≤ 48
    · rw [if_pos ⟨h1, h2⟩]
      obtain ⟨m, hm, rfl⟩ := car_of h.1 h1
      obtain ⟨q, hq, rfl⟩ := n48_of h2
      rw [nI_clamp (show m < 2 ^ 31 by omega), nI_clamp (show q < 2 ^ 31 by omega)]
      have C := h.2.2 m hm
      have fb := sp_M_findBest d S m (K m) q (by omega) C.1.1 hq C.1.2
      have r : ∀ B t (b : Int32 × Int32), (mwB B t b).1 61 11 = b.2 := fun _ _ _ => rfl
      refine ⟨_, ?_, mJ_end (mJ_mwB (mJ_0 S) (itW (mws (S.2.1 62) m (K m)) (wmt (S.2.1 62) m) (q + 1)) (mbB (S.2.1 62) m (K m) q (S.1 61 11)))⟩
      simp only [ez174_0, ez174_1, ez174_2, ez174_5, ez174_8, ez174_9, ez174_12, ez174_15, ez174_16, ez174_18, ez174_21, ez174_22, ez174_23, ez174_24, ez174_25, ez174_28, ez174_29, ez174_32, isc, sp_M_isFar, Option.bind_some, tl_s, tl_n, bI_eq0, if_true, if_false, not_true, not_false_iff, and_self, Bool.false_eq_true, h1, h2, KL_61, fb, GF_61_11, r]
    · rw [if_neg (fun z => h2 z.2)]
      refine ⟨_, ?_, jk_refl _⟩
      simp only [ez174_0, ez174_1, ez174_2, ez174_5, ez174_8, ez174_9, ez174_12, ez174_15, ez174_16, ez174_18, ez174_21, isc, sp_M_isFar, Option.bind_some, tl_s, tl_n, bI_eq0, if_true, if_false, not_true, not_false_iff, and_self, Bool.false_eq_true, h1, h2, KL_61, f0]
  · rw [if_neg (fun z => h1 z.1)]
    refine ⟨_, ?_, jk_refl _⟩
    simp only [ez174_0, ez174_1, ez174_2, ez174_5, ez174_8, ez174_9, ez174_12, ez174_15, ez174_16, ez174_18, ez174_21, isc, Option.bind_some, tl_s, tl_n, bI_eq0, if_true, if_false, not_true, not_false_iff, and_self, Bool.false_eq_true, h1, KL_61, f0]
/-! kind -/
def kmF (w : Nat → Int32) (m q : Nat) : Nat → Nat → Int32 → Int32 → Int32
  | 0, _, _, bk => bk
  | e + 1, k, mo, bk => if (mbB (upd w (35 + 6 * m + 0) (nI k)) m k q 0).1 ≤ mo then kmF w m q e (k + 1) mo bk else kmF w m q e (k + 1) (mbB (upd w (35 + 6 * m + 0) (nI k)) m k q 0).1 (nI k)
theorem upd_at (f : Nat → Int32) (i : Nat) (v : Int32) : upd f i v i = v := if_pos rfl
theorem upd_ne (f : Nat → Int32) {i j : Nat} (v : Int32) (h : j ≠ i) : upd f i v j = f j := if_neg h
theorem upd_back (f : Nat → Int32) (i : Nat) (v : Int32) : upd (upd f i v) i (f i) = f := by
  rw [fa_upd_twice, fa_upd_same rfl]
theorem mkind_loop (d : Nat) (S : hs_S) (m q : Nat) (hm : m < 8) (hq : q ≤ 48) : ∀ e k mo bk T v, k + e = 6 → mJ S T (upd (S.2.1 62) (35 + 6 * m + 0) v) → ∃ T', sx_run (d + 6) 176 (38, [some (.ref 61), some (.int (nI m)), some (.int (nI q)), some (.int (S.2.1 62 (35 + 6 * m + 0))), some (.int bk), some (.int mo), some (.int (nI k))], [], hp T) = some (some (.int (kmF (S.2.1 62) m q e k mo bk)), hp T') ∧ jk S T' := by
  intro e
  induction e with
  | zero =>
    intro k mo bk T v hk g
    have e6 : k = 6 := by omega
    subst e6
    have g2 := mJ_row g (S.2.1 62)
    rw [ez176_38]
    refine ⟨_, ?_, mJ_end g2⟩
    simp only [ez176_40, ez176_41, if_pos (show (5 : Int32) < nI 6 by decide), ez176_106, ez176_107, ez176_110, ez176_111, ez176_112, ez176_115, ez176_116, ez176_117, ez176_119, GF_61_0, Option.bind_some, tl_s, tl_n, bI_eq0, if_true, if_false, not_true, not_false_iff, and_self, Bool.false_eq_true, sp_M_spot0, PI_62, in_nI (show 35 + 6 * m + 0 < 83 by omega) (by decide), nI_clamp (show 35 + 6 * m + 0 < 2 ^ 31 by omega), g.1, upd_back]
    rfl
  | succ e ih =>
    intro k mo bk T v hk g
    have g5 : ¬ (5 : Int32) < nI k := nI_nlt (a := 5) (show k ≤ 5 by omega) (by omega)
    have g2 := mJ_row g (upd (S.2.1 62) (35 + 6 * m + 0) (nI k))
    have fb := sp_M_findBest d (uI T 62 (upd (S.2.1 62) (35 + 6 * m + 0) (nI k))) m k q hm (by omega) hq (by rw [g2.1]; exact upd_at _ _ _)
    rw [g2.1] at fb
    have g3 := mJ_mwB g2 (itW (mws (upd (S.2.1 62) (35 + 6 * m + 0) (nI k)) m k) (wmt (upd (S.2.1 62) (35 + 6 * m + 0) (nI k)) m) (q + 1)) (mbB (upd (S.2.1 62) (35 + 6 * m + 0) (nI k)) m k q ((uI T 62 (upd (S.2.1 62) (35 + 6 * m + 0) (nI k))).1 61 11))
    have e10 : (mwB (uI T 62 (upd (S.2.1 62) (35 + 6 * m + 0) (nI k))) (itW (mws (upd (S.2.1 62) (35 + 6 * m + 0) (nI k)) m k) (wmt (upd (S.2.1 62) (35 + 6 * m + 0) (nI k)) m) (q + 1)) (mbB (upd (S.2.1 62) (35 + 6 * m + 0) (nI k)) m k q ((uI T 62 (upd (S.2.1 62) (35 + 6 * m + 0) (nI k))).1 61 11))).1 61 10 = (mbB (upd (S.2.1 62) (35 + 6 * m + 0) (nI k)) m k q 0).1 := by
      rw [mwB_10]
      unfold mbB
      exact skB_fst _ _ _ _ _ (b := (-1, (uI T 62 (upd (S.2.1 62) (35 + 6 * m + 0) (nI k))).1 61 11)) (b' := (-1, 0)) rfl (q + 1)
    generalize mwB (uI T 62 (upd (S.2.1 62) (35 + 6 * m + 0) (nI k))) (itW (mws (upd (S.2.1 62) (35 + 6 * m + 0) (nI k)) m k) (wmt (upd (S.2.1 62) (35 + 6 * m + 0) (nI k)) m) (q + 1)) (mbB (upd (S.2.1 62) (35 + 6 * m + 0) (nI k)) m k q ((uI T 62 (upd (S.2.1 62) (35 + 6 * m + 0) (nI k))).1 61 11)) = U at fb g3 e10
    unfold kmF
    rw [ez176_38]
    by_cases z : (mbB (upd (S.2.1 62) (35 + 6 * m + 0) (nI k)) m k q 0).1 ≤ mo
    · rw [if_pos z]
      obtain ⟨T', c, j⟩ := ih (k + 1) mo bk U (nI k) (by omega) g3
      refine ⟨T', ?_, j⟩
      simp only [ez176_40, ez176_41, ez176_44, ez176_45, ez176_48, ez176_49, ez176_50, ez176_53, ez176_55, ez176_56, ez176_57, ez176_58, ez176_59, ez176_62, ez176_63, ez176_66, ez176_68, ez176_71, ez176_73, ez176_76, ez176_78, ez176_80, ez176_81, ez176_84, ez176_86, ez176_89, ez176_90, ez176_93, ez176_96, ez176_98, ez176_100, ez176_103, if_neg g5, GF_61_0, GF_61_10, Option.bind_some, tl_s, tl_n, bI_eq0, if_true, if_false, not_true, not_false_iff, and_self, Bool.false_eq_true, sp_M_spot0, PI_62, in_nI (show 35 + 6 * m + 0 < 83 by omega) (by decide), nI_clamp (show 35 + 6 * m + 0 < 2 ^ 31 by omega), g.1, fa_upd_twice, KL_61, fb, e10, z, nI_1]
      exact c
    · rw [if_neg z]
      obtain ⟨T', c, j⟩ := ih (k + 1) (mbB (upd (S.2.1 62) (35 + 6 * m + 0) (nI k)) m k q 0).1 (nI k) U (nI k) (by omega) g3
      refine ⟨T', ?_, j⟩
      simp only [ez176_40, ez176_41, ez176_44, ez176_45, ez176_48, ez176_49, ez176_50, ez176_53, ez176_55, ez176_56, ez176_57, ez176_58, ez176_59, ez176_62, ez176_63, ez176_66, ez176_68, ez176_71, ez176_73, ez176_76, ez176_78, ez176_80, ez176_81, ez176_84, ez176_86, ez176_89, ez176_90, ez176_93, ez176_96, ez176_98, ez176_100, ez176_103, if_neg g5, GF_61_0, GF_61_10, Option.bind_some, tl_s, tl_n, bI_eq0, if_true, if_false, not_true, not_false_iff, and_self, Bool.false_eq_true, sp_M_spot0, PI_62, in_nI (show 35 + 6 * m + 0 < 83 by omega) (by decide), nI_clamp (show 35 + 6 * m + 0 < 2 ^ 31 by omega), g.1, fa_upd_twice, KL_61, fb, e10, z, nI_1]
      exact c
def ml_kind (S : hs_S) (n : Nat) (c x : Int32) : Int32 × hs_S :=
  if (0 ≤ c ∧ c < nI n) ∧ (0 ≤ x ∧ x ≤ 48) then (kmF (S.2.1 62) c.toNatClampNeg x.toNatClampNeg 6 0 (-1) 0, S) else (-1000000001, fdM S 0)
theorem mJ_same (S : hs_S) (i : Nat) : mJ S S (upd (S.2.1 62) i (S.2.1 62 i)) := by
  rw [fa_upd_same rfl]
  exact mJ_0 S
theorem sp_M_kind (d : Nat) (S : hs_S) (n : Nat) (K P : Nat → Nat) (c x : Int32) (h : rG (S.2.1 62) n K P) : cQ (sx_call (d + 7) 176 [.ref 61, .int c, .int x] (hp S)) (ml_kind S n c x) := by
  rw [cz176]
  have f0 := sp_M_finds (d + 5) S 0 (-1000000001) (by decide) (by decide)
  have isc := sp_M_isCarrier (d + 4) S n c h.1 h.2.1
  have n8 := h.1
  unfold ml_kind
  by_cases h1 : 0 ≤ c ∧ c < nI n
  · by_cases h2 : 0 ≤ x ∧ x ≤ 48
    · rw [if_pos ⟨h1, h2⟩]
      obtain ⟨m, hm, rfl⟩ := car_of h.1 h1
      obtain ⟨q, hq, rfl⟩ := n48_of h2
      rw [nI_clamp (show m < 2 ^ 31 by omega), nI_clamp (show q < 2 ^ 31 by omega)]
      obtain ⟨T', c', j⟩ := mkind_loop d S m q (by omega) hq 6 0 (-1) 0 S (S.2.1 62 (35 + 6 * m + 0)) (by omega) (mJ_same S _)
      refine ⟨T', ?_, j⟩
      simp only [ez176_0, ez176_1, ez176_2, ez176_5, ez176_8, ez176_9, ez176_12, ez176_15, ez176_16, ez176_18, ez176_21, ez176_22, ez176_23, ez176_24, ez176_25, ez176_28, ez176_29, ez176_30, ez176_32, ez176_33, ez176_35, ez176_36, isc, sp_M_isFar, Option.bind_some, tl_s, tl_n, bI_eq0, if_true, if_false, not_true, not_false_iff, and_self, Bool.false_eq_true, h1, h2, KL_61, sp_M_its0 _ S m (show m < 8 by omega)]
      exact c'
    · rw [if_neg (fun z => h2 z.2)]
      refine ⟨_, ?_, jk_refl _⟩
      simp only [ez176_0, ez176_1, ez176_2, ez176_5, ez176_8, ez176_9, ez176_12, ez176_15, ez176_16, ez176_18, ez176_21, isc, sp_M_isFar, Option.bind_some, tl_s, tl_n, bI_eq0, if_true, if_false, not_true, not_false_iff, and_self, Bool.false_eq_true, h1, h2, KL_61, f0]
  · rw [if_neg (fun z => h1 z.1)]
    refine ⟨_, ?_, jk_refl _⟩
    simp only [ez176_0, ez176_1, ez176_2, ez176_5, ez176_8, ez176_9, ez176_12, ez176_15, ez176_16, ez176_18, ez176_21, isc, Option.bind_some, tl_s, tl_n, bI_eq0, if_true, if_false, not_true, not_false_iff, and_self, Bool.false_eq_true, h1, KL_61, f0]
/-! cover -/
def cmN (w : Nat → Int32) (m k p q v : Nat) : Nat := (smN (upd w (35 + 6 * m + 3) (nI v)) m k p q).1
def cmF (w : Nat → Int32) (m k p q : Nat) : Nat → Nat → Option Nat
  | 0, _ => none
  | e + 1, v => if cmN w m k p q v ≤ q then some v else cmF w m k p q e (v + 1)
theorem mcover_end (d : Nat) (S : hs_S) (m : Nat) (hm : m < 8) (l2 l3 l6 : Option Value) (T : hs_S) (v : Int32) (g : mJ S T (upd (S.2.1 62) (35 + 6 * m + 3) v)) (fd : Int32) : cQ (sx_run (d + 1) 171 (97, [some (.ref 61), some (.int (nI m)), l2, l3, some (.int (S.2.1 62 (35 + 6 * m + 3))), some (.int fd), l6], [], hp T)) (if 0 ≤ fd then (fd, S) else (-1000000004, fdM S 3)) := by
  have g2 := mJ_end (mJ_row g (S.2.1 62))
  by_cases z : 0 ≤ fd
  · rw [if_pos z]
    refine ⟨_, ?_, g2⟩
    simp only [ez171_97, ez171_98, ez171_101, ez171_102, ez171_103, ez171_106, ez171_108, ez171_109, ez171_111, ez171_114, ez171_115, ez171_117, ez171_120, ez171_123, ez171_125, GF_61_0, Option.bind_some, tl_s, tl_n, bI_eq0, if_true, if_false, not_true, not_false_iff, and_self, Bool.false_eq_true, sp_M_spot3, PI_62, in_nI (show 35 + 6 * m + 3 < 83 by omega) (by decide), nI_clamp (show 35 + 6 * m + 3 < 2 ^ 31 by omega), g.1, upd_back, z]
  · rw [if_neg z]
    refine ⟨_, ?_, jk_fdM g2 3⟩
    simp only [ez171_97, ez171_98, ez171_101, ez171_102, ez171_103, ez171_106, ez171_108, ez171_109, ez171_111, ez171_114, ez171_115, ez171_117, ez171_120, ez171_123, ez171_125, GF_61_0, Option.bind_some, tl_s, tl_n, bI_eq0, if_true, if_false, not_true, not_false_iff, and_self, Bool.false_eq_true, sp_M_spot3, PI_62, in_nI (show 35 + 6 * m + 3 < 83 by omega) (by decide), nI_clamp (show 35 + 6 * m + 3 < 2 ^ 31 by omega), g.1, upd_back, z, KL_61, sp_M_finds d _ 3 (-1000000004) (by decide) (by decide)]
def cmA (S : hs_S) (o : Option Nat) : Int32 × hs_S := match o with
  | none => (-1000000004, fdM S 3)
  | some v => (nI v, S)
theorem mcover_loop (d : Nat) (S : hs_S) (m k p q : Nat) (hm : m < 8) (hk : k < 6) (hp0 : p < 16) (hq : q ≤ 48) (er : S.2.1 62 (35 + 6 * m + 0) = nI k) : ∀ e v T x, v + e = 10 → mJ S T (upd (S.2.1 62) (35 + 6 * m + 3) x) → cQ (sx_run (d + 6) 171 (43, [some (.ref 61), some (.int (nI m)), some (.int (nI p)), some (.int (nI q)), some (.int (S.2.1 62 (35 + 6 * m + 3))), some (.int (-1)), some (.int (nI v))], [], hp T)) (cmA S (cmF (S.2.1 62) m k p q e v)) := by
  intro e
  induction e with
  | zero =>
    intro v T x hv g
    have e10 : v = 10 := by omega
    subst e10
    rw [ez171_43]
    simp only [ez171_45, ez171_47, if_pos (show (9 : Int32) < nI 10 by decide)]
    have := mcover_end (d + 5) S m hm (some (.int (nI p))) (some (.int (nI q))) (some (.int (nI 10))) T x g (-1)
    rw [if_neg (by decide)] at this
    exact this
  | succ e ih =>
    intro v T x hv g
    have g9 : ¬ (9 : Int32) < nI v := nI_nlt (a := 9) (show v ≤ 9 by omega) (by omega)
    have m1 : ¬ (0 : Int32) ≤ -1 := by decide
    have g2 := mJ_row g (upd (S.2.1 62) (35 + 6 * m + 3) (nI v))
    have b := sp_M_begins (d + 3) (uI T 62 (upd (S.2.1 62) (35 + 6 * m + 3) (nI v))) m hm
    have c := sp_M_comesIn d (uI T 62 (upd (S.2.1 62) (35 + 6 * m + 3) (nI v))) m k p q (wmt (upd (S.2.1 62) (35 + 6 * m + 3) (nI v)) m) hm hk hp0 hq (by rw [g2.1, upd_ne _ _ (by omega)]; exact er)
    rw [g2.1] at b c
    have e1 : (htF (mws (upd (S.2.1 62) (35 + 6 * m + 3) (nI v)) m k) (nI p) (q + 1) 0 (wmt (upd (S.2.1 62) (35 + 6 * m + 3) (nI v)) m)).1 = cmN (S.2.1 62) m k p q v := rfl
    have le : cmN (S.2.1 62) m k p q v ≤ q + 1 := by
      have := htF_le (mws (upd (S.2.1 62) (35 + 6 * m + 3) (nI v)) m k) (nI p) (q + 1) 0 (wmt (upd (S.2.1 62) (35 + 6 * m + 3) (nI v)) m)
      rw [e1] at this
      omega
    have g3 := mJ_mw g2 (htF (mws (upd (S.2.1 62) (35 + 6 * m + 3) (nI v)) m k) (nI p) (q + 1) 0 (wmt (upd (S.2.1 62) (35 + 6 * m + 3) (nI v)) m)).2
    rw [e1] at c
    generalize mwS (uI T 62 (upd (S.2.1 62) (35 + 6 * m + 3) (nI v))) (htF (mws (upd (S.2.1 62) (35 + 6 * m + 3) (nI v)) m k) (nI p) (q + 1) 0 (wmt (upd (S.2.1 62) (35 + 6 * m + 3) (nI v)) m)).2 = U at c g3
    unfold cmF
    rw [ez171_43]
    by_cases z : cmN (S.2.1 62) m k p q v ≤ q
    · rw [if_pos z]
      have v0 : (0 : Int32) ≤ nI v := nI_pos' (by omega)
      have en := mcover_end (d + 5) S m hm (some (.int (nI p))) (some (.int (nI q))) (some (.int (nI (v + 1)))) U (nI v) g3 (nI v)
      rw [if_pos v0] at en
      have z2 : sx_run (d + 6) 171 (43, [some (.ref 61), some (.int (nI m)), some (.int (nI p)), some (.int (nI q)), some (.int (S.2.1 62 (35 + 6 * m + 3))), some (.int (nI v)), some (.int (nI (v + 1)))], [], hp U) = sx_run (d + 6) 171 (97, [some (.ref 61), some (.int (nI m)), some (.int (nI p)), some (.int (nI q)), some (.int (S.2.1 62 (35 + 6 * m + 3))), some (.int (nI v)), some (.int (nI (v + 1)))], [], hp U) := by
        rw [ez171_43]
        by_cases y : (9 : Int32) < nI (v + 1)
        · simp only [ez171_45, ez171_47, if_pos y]
        · simp only [ez171_45, ez171_47, ez171_50, ez171_52, if_neg y, if_pos v0]
      simp only [ez171_45, ez171_47, ez171_50, ez171_52, ez171_55, ez171_56, ez171_59, ez171_60, ez171_61, ez171_64, ez171_66, ez171_67, ez171_68, ez171_69, ez171_72, ez171_73, ez171_74, ez171_75, ez171_76, ez171_79, ez171_80, ez171_83, ez171_85, ez171_88, ez171_89, ez171_91, ez171_94, if_neg g9, if_neg m1, GF_61_0, Option.bind_some, tl_s, tl_n, bI_eq0, if_true, if_false, not_true, not_false_iff, and_self, Bool.false_eq_true, sp_M_spot3, PI_62, in_nI (show 35 + 6 * m + 3 < 83 by omega) (by decide), nI_clamp (show 35 + 6 * m + 3 < 2 ^ 31 by omega), g.1, fa_upd_twice, KL_61, b, c, if_neg (nI_nlt (show cmN (S.2.1 62) m k p q v ≤ q from z) (by omega)), nI_1, z2]
      exact en
    · rw [if_neg z]
      simp only [ez171_45, ez171_47, ez171_50, ez171_52, ez171_55, ez171_56, ez171_59, ez171_60, ez171_61, ez171_64, ez171_66, ez171_67, ez171_68, ez171_69, ez171_72, ez171_73, ez171_74, ez171_75, ez171_76, ez171_79, ez171_80, ez171_83, ez171_85, ez171_88, ez171_89, ez171_91, ez171_94, if_neg g9, if_neg m1, GF_61_0, Option.bind_some, tl_s, tl_n, bI_eq0, if_true, if_false, not_true, not_false_iff, and_self, Bool.false_eq_true, sp_M_spot3, PI_62, in_nI (show 35 + 6 * m + 3 < 83 by omega) (by decide), nI_clamp (show 35 + 6 * m + 3 < 2 ^ 31 by omega), g.1, fa_upd_twice, KL_61, b, c, if_pos (nI_lt (show q < cmN (S.2.1 62) m k p q v by omega) (by omega)), nI_1]
      exact ih (v + 1) U (nI v) (by omega) g3
def ml_cover (S : hs_S) (n : Nat) (K : Nat → Nat) (c p x : Int32) : Int32 × hs_S :=
  if (0 ≤ c ∧ c < nI n) ∧ (0 ≤ p ∧ p < 16) ∧ (0 ≤ x ∧ x ≤ 48) then cmA S (cmF (S.2.1 62) c.toNatClampNeg (K c.toNatClampNeg) p.toNatClampNeg x.toNatClampNeg 10 0) else (-1000000001, fdM S 0)
theorem sp_M_cover (d : Nat) (S : hs_S) (n : Nat) (K P : Nat → Nat) (c p x : Int32) (h : rG (S.2.1 62) n K P) : cQ (sx_call (d + 7) 171 [.ref 61, .int c, .int p, .int x] (hp S)) (ml_cover S n K c p x) := by
  rw [cz171]
  have f0 := sp_M_finds (d + 5) S 0 (-1000000001) (by decide) (by decide)
  have isc := sp_M_isCarrier (d + 4) S n c h.1 h.2.1
  have n8 := h.1
  unfold ml_cover
  by_cases h1 : 0 ≤ c ∧ c < nI n
  · by_cases h2 : 0 ≤ p ∧ p < 16
    · by_cases h3 : 0 ≤ x ∧ x ≤ 48
      · rw [if_pos ⟨h1, h2, h3⟩]
        obtain ⟨m, hm, rfl⟩ := car_of h.1 h1
        obtain ⟨q, hq, rfl⟩ := n48_of h3
        obtain ⟨r, hr, rfl⟩ := p16_of h2
        rw [nI_clamp (show m < 2 ^ 31 by omega), nI_clamp (show q < 2 ^ 31 by omega), nI_clamp (show r < 2 ^ 31 by omega)]
        have C := h.2.2 m hm
        have l := mcover_loop d S m (K m) r q (by omega) C.1.1 hr hq C.1.2 10 0 S (S.2.1 62 (35 + 6 * m + 3)) (by omega) (mJ_same S _)
        simp only [ez171_0, ez171_1, ez171_2, ez171_5, ez171_8, ez171_9, ez171_12, ez171_15, ez171_16, ez171_19, ez171_22, ez171_23, ez171_25, ez171_28, ez171_29, ez171_30, ez171_31, ez171_32, ez171_35, ez171_37, ez171_38, ez171_40, ez171_41, isc, sp_M_isFar, sp_M_isPlace, Option.bind_some, tl_s, tl_n, bI_eq0, if_true, if_false, not_true, not_false_iff, and_self, Bool.false_eq_true, h1, h2, h3, KL_61, sp_M_its3 _ S m (show m < 8 by omega)]
        exact l
      · rw [if_neg (fun z => h3 z.2.2)]
        refine ⟨_, ?_, jk_refl _⟩
        simp only [ez171_0, ez171_1, ez171_2, ez171_5, ez171_8, ez171_9, ez171_12, ez171_15, ez171_16, ez171_19, ez171_22, ez171_23, ez171_25, ez171_28, isc, sp_M_isFar, sp_M_isPlace, Option.bind_some, tl_s, tl_n, bI_eq0, if_true, if_false, not_true, not_false_iff, and_self, Bool.false_eq_true, h1, h2, h3, KL_61, f0]
    · rw [if_neg (fun z => h2 z.2.1)]
      refine ⟨_, ?_, jk_refl _⟩
      simp only [ez171_0, ez171_1, ez171_2, ez171_5, ez171_8, ez171_9, ez171_12, ez171_15, ez171_16, ez171_19, ez171_22, ez171_23, ez171_25, ez171_28, isc, sp_M_isPlace, Option.bind_some, tl_s, tl_n, bI_eq0, if_true, if_false, not_true, not_false_iff, and_self, Bool.false_eq_true, h1, h2, KL_61, f0]
  · rw [if_neg (fun z => h1 z.1)]
    refine ⟨_, ?_, jk_refl _⟩
    simp only [ez171_0, ez171_1, ez171_2, ez171_5, ez171_8, ez171_9, ez171_12, ez171_15, ez171_16, ez171_19, ez171_22, ez171_23, ez171_25, ez171_28, isc, Option.bind_some, tl_s, tl_n, bI_eq0, if_true, if_false, not_true, not_false_iff, and_self, Bool.false_eq_true, h1, KL_61, f0]
