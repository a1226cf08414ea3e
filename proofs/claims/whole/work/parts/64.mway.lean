/-! THE MODEL: ways -/
def mwS (B : hs_S) (t : wT) : hs_S := uF (uF (uF B 61 8 t.1) 61 9 t.2.1) 61 7 t.2.2
theorem mwS_2 (B : hs_S) (t : wT) : (mwS B t).2 = B.2 := rfl
theorem mwS_sh (B : hs_S) (t : wT) : (mwS B t).1 61 8 = t.1 := rfl
theorem mwS_x (B : hs_S) (t : wT) : (mwS B t).1 61 9 = t.2.1 := rfl
theorem mwS_re (B : hs_S) (t : wT) : (mwS B t).1 61 7 = t.2.2 := rfl
theorem mwS_p8 (B : hs_S) (t : wT) (v : Int32) : uF (mwS B t) 61 8 v = mwS B (v, t.2.1, t.2.2) := by
  unfold mwS
  rw [uF_comm _ 61 7 61 8 _ _ (by decide), uF_comm _ 61 9 61 8 _ _ (by decide), uF_uF]
theorem mwS_p9 (B : hs_S) (t : wT) (v : Int32) : uF (mwS B t) 61 9 v = mwS B (t.1, v, t.2.2) := by
  unfold mwS
  rw [uF_comm _ 61 7 61 9 _ _ (by decide), uF_uF]
theorem mwS_p7 (B : hs_S) (t : wT) (v : Int32) : uF (mwS B t) 61 7 v = mwS B (t.1, t.2.1, v) := by
  unfold mwS
  rw [uF_uF]
theorem mwS_of (B : hs_S) (a b c : Int32) : uF (uF (uF B 61 7 c) 61 8 a) 61 9 b = mwS B (a, b, c) := by
  unfold mwS
  rw [uF_comm _ 61 7 61 8 _ _ (by decide), uF_comm _ 61 7 61 9 _ _ (by decide)]
theorem mwS_mwS (B : hs_S) (t u : wT) : mwS (mwS B t) u = mwS B u := by
  rw [mwS, mwS_p8, mwS_p9, mwS_p7]
theorem mwS_I (B : hs_S) (t : wT) (a : Nat) (f : Nat → Int32) : uI (mwS B t) a f = mwS (uI B a f) t := rfl
theorem mJ_mw {S T : hs_S} {w : Nat → Int32} (h : mJ S T w) (t : wT) : mJ S (mwS T t) w := mJ_F (mJ_F (mJ_F h rfl _) rfl _) rfl _
def wmt (w : Nat → Int32) (m : Nat) : wT := (w (35 + 6 * m + 2), w 1, (1 : Int32) <<< (w (35 + 6 * m + 1) &&& 31))
theorem sp_M_begins (d : Nat) (T : hs_S) (m : Nat) (hm : m < 8) : sx_call (d + 3) 163 [.ref 61, .int (nI m)] (hp T) = some (none, hp (mwS T (wmt (T.2.1 62) m))) := by
  rw [cz163]
  have i1 := fun T => sp_M_its1 d T m hm
  have i2 := fun T => sp_M_its2 d T m hm
  simp only [ez163_0, ez163_1, ez163_2, ez163_3, ez163_4, ez163_5, ez163_8, ez163_9, ez163_12, ez163_13, ez163_14, ez163_15, ez163_16, ez163_19, ez163_22, ez163_23, ez163_24, ez163_27, ez163_28, ez163_29, ez163_32, Option.bind_some, tl_s, tl_n, bI_eq0, if_true, if_false, not_true, not_false_iff, and_self, Bool.false_eq_true, KL_61, i1, i2, PF_61_7, PF_61_8, PF_61_9, GF_61_0, GI_62, c83_1, cl_1, uF_I, mwS_of]
  rfl
def rmF (f : Nat → Bool) (pl : Int32) : Nat → Int32
  | 0 => pl
  | p + 1 => if pl >>> (nI p &&& 31) &&& 1 = 1 ∧ f p = true then rmF f pl p &&& (((1 : Int32) <<< (nI p &&& 31)) ^^^ (-1)) else rmF f pl p
def mgo (w : Nat → Int32) (m k : Nat) (pl : Int32) (t : wT) : wT :=
  (s1P k (w (35 + 6 * m + 4)) t.1 t.2.1, t.2.1 + 1, rmF (fun p => fmB (w 2) (w (3 + p)) k (s1P k (w (35 + 6 * m + 4)) t.1 t.2.1) (w (35 + 6 * m + 3)) (w (35 + 6 * m + 4)) (t.2.1 + 1)) pl 16)
theorem goesOn_loop (d : Nat) (B : hs_S) (m k : Nat) (pl sh x : Int32) (hm : m < 8) (hk : k < 6) (er : B.2.1 62 (35 + 6 * m + 0) = nI k) (f : Nat → Bool) (hf : ∀ p, p < 16 → f p = fmB (B.2.1 62 2) (B.2.1 62 (3 + p)) k sh (B.2.1 62 (35 + 6 * m + 3)) (B.2.1 62 (35 + 6 * m + 4)) x) : ∀ e p, p + e = 16 → sx_run (d + 4) 164 (38, [some (.ref 61), some (.int (nI m)), some (.int pl), some (.int (nI p))], [], hp (mwS B (sh, x, rmF f pl p))) = some (none, hp (mwS B (sh, x, rmF f pl 16))) := by
  intro e
  induction e with
  | zero =>
    intro p hp0
    have e16 : p = 16 := by omega
    subst e16
    rw [ez164_38]
    simp only [ez164_39, ez164_41, if_pos (show (16 : Int32) ≤ nI 16 by decide), ez164_90]
  | succ e ih =>
    intro p hp0
    have K := ih (p + 1) (by omega)
    have g := ge16 (n := 16) rfl (show p < 16 by omega)
    have fa : sx_call (d + 4) 142 [.ref 61, .int (nI m), .int (nI p), .int sh, .int x] (hp (mwS B (sh, x, rmF f pl p))) = some (some (.int (bI (f p = true))), hp (mwS B (sh, x, rmF f pl p))) := by
      rw [hf p (by omega)]
      exact sp_M_isFoundAt d (mwS B (sh, x, rmF f pl p)) m k p sh x hm hk (by omega) er
    unfold rmF at K
    rw [ez164_38]
    by_cases h1 : pl >>> (nI p &&& 31) &&& 1 = 1
    · by_cases h2 : f p = true
      · rw [if_pos ⟨h1, h2⟩] at K
        simp only [ez164_39, ez164_41, ez164_44, ez164_45, ez164_46, ez164_47, ez164_48, ez164_49, ez164_50, ez164_53, ez164_54, ez164_55, ez164_56, ez164_57, ez164_60, ez164_61, ez164_64, ez164_67, ez164_70, ez164_71, ez164_71i, ez164_72, ez164_75, ez164_76, ez164_77, ez164_78, ez164_79, ez164_80, ez164_81, ez164_84, ez164_87, if_neg g, h1, Option.bind_some, tl_s, tl_n, bI_eq0, if_true, if_false, not_true, not_false_iff, and_self, Bool.false_eq_true, GF_61_7, GF_61_8, GF_61_9, mwS_sh, mwS_x, mwS_re, KL_61, fa, h2, PF_61_7, mwS_p7, nI_1]
        exact K
      · rw [if_neg (fun z => h2 z.2)] at K
        simp only [ez164_39, ez164_41, ez164_44, ez164_45, ez164_46, ez164_47, ez164_48, ez164_49, ez164_50, ez164_53, ez164_54, ez164_55, ez164_56, ez164_57, ez164_60, ez164_61, ez164_64, ez164_67, ez164_70, ez164_71, ez164_71i, ez164_72, ez164_75, ez164_76, ez164_77, ez164_78, ez164_79, ez164_80, ez164_81, ez164_84, ez164_87, if_neg g, h1, Option.bind_some, tl_s, tl_n, bI_eq0, if_true, if_false, not_true, not_false_iff, and_self, Bool.false_eq_true, GF_61_7, GF_61_8, GF_61_9, mwS_sh, mwS_x, KL_61, fa, h2, nI_1]
        exact K
    · rw [if_neg (fun z => h1 z.1)] at K
      simp only [ez164_39, ez164_41, ez164_44, ez164_45, ez164_46, ez164_47, ez164_48, ez164_49, ez164_50, ez164_53, ez164_54, ez164_55, ez164_56, ez164_57, ez164_60, ez164_61, ez164_64, ez164_67, ez164_70, ez164_71, ez164_71i, ez164_72, ez164_75, ez164_76, ez164_77, ez164_78, ez164_79, ez164_80, ez164_81, ez164_84, ez164_87, if_neg g, h1, Option.bind_some, tl_s, tl_n, bI_eq0, if_true, if_false, not_true, not_false_iff, and_self, Bool.false_eq_true, nI_1]
      exact K
theorem sp_M_goesOn (d : Nat) (B : hs_S) (m k : Nat) (pl : Int32) (t : wT) (hm : m < 8) (hk : k < 6) (er : B.2.1 62 (35 + 6 * m + 0) = nI k) : sx_call (d + 5) 164 [.ref 61, .int (nI m), .int pl] (hp (mwS B t)) = some (none, hp (mwS B (mgo (B.2.1 62) m k pl t))) := by
  rw [cz164]
  have fo := sp_M_fadesOf (d + 1) (mwS B t) m k t.2.1 hm hk er
  have l := goesOn_loop d B m k pl (s1P k (B.2.1 62 (35 + 6 * m + 4)) t.1 t.2.1) (t.2.1 + 1) hm hk er (fun p => fmB (B.2.1 62 2) (B.2.1 62 (3 + p)) k (s1P k (B.2.1 62 (35 + 6 * m + 4)) t.1 t.2.1) (B.2.1 62 (35 + 6 * m + 3)) (B.2.1 62 (35 + 6 * m + 4)) (t.2.1 + 1)) (fun p _ => rfl) 16 0 (by omega)
  simp only [ez164_0, ez164_1, ez164_2, ez164_5, ez164_6, ez164_7, ez164_8, ez164_11, ez164_14, ez164_15, ez164_18, ez164_21, ez164_22, ez164_22i, ez164_23, ez164_26, ez164_27, ez164_28, ez164_31, ez164_32, ez164_33, ez164_36, ez164_37, Option.bind_some, tl_s, tl_n, bI_eq0, if_true, if_false, not_true, not_false_iff, and_self, Bool.false_eq_true, GF_61_8, GF_61_9, mwS_sh, mwS_x, mwS_2, KL_61, fo, sp_M_aln, PF_61_7, PF_61_8, PF_61_9, mwS_p7, mwS_p8, mwS_p9]
  exact l
def anF (x : Int32) : Nat → Int32
  | 0 => x
  | p + 1 => if x >>> (nI p &&& 31) &&& 1 = 1 then anF x p ||| ntF (nI p) else anF x p
theorem sp_M_andNext (d : Nat) (x : Int32) (h : sx_H) : sx_call (d + 2) 165 [.ref 61, .int x] h = some (some (.int (anF x 16)), h) := by
  have loop : ∀ m p, p + m = 16 → sx_run (d + 1) 165 (4, [some (.ref 61), some (.int x), some (.int (anF x p)), some (.int (nI p))], [], h) = some (some (.int (anF x 16)), h) := by
    intro m
    induction m with
    | zero =>
      intro p hp0
      have e : p = 16 := by omega
      subst e
      rw [ez165_4]
      simp only [ez165_5, ez165_7, if_pos (show (16 : Int32) ≤ nI 16 by decide), ez165_36, ez165_37]
    | succ m ih =>
      intro p hp0
      have K := ih (p + 1) (by omega)
      unfold anF at K
      rw [ez165_4]
      by_cases h1 : x >>> (nI p &&& 31) &&& 1 = 1
      · rw [if_pos h1] at K
        simp only [ez165_5, ez165_7, ez165_10, ez165_11, ez165_12, ez165_13, ez165_14, ez165_15, ez165_16, ez165_17, ez165_20, ez165_21, ez165_24, ez165_27, ez165_28, ez165_29, ez165_30, ez165_33, if_neg (ge16 (n := 16) rfl (show p < 16 by omega)), h1, Option.bind_some, tl_s, tl_n, bI_eq0, if_true, if_false, not_true, not_false_iff, and_self, Bool.false_eq_true, sp_M_nextTo _ p _ (show p < 16 by omega), nI_1]
        exact K
      · rw [if_neg h1] at K
        simp only [ez165_5, ez165_7, ez165_10, ez165_11, ez165_12, ez165_13, ez165_14, ez165_15, ez165_16, ez165_17, ez165_20, ez165_21, ez165_24, ez165_27, ez165_28, ez165_29, ez165_30, ez165_33, if_neg (ge16 (n := 16) rfl (show p < 16 by omega)), h1, Option.bind_some, tl_s, tl_n, bI_eq0, if_true, if_false, not_true, not_false_iff, and_self, Bool.false_eq_true, i32_or0, nI_1]
        exact K
  rw [cz165]
  simp only [ez165_0, ez165_1, ez165_2, ez165_3]
  exact loop 16 0 (by omega)
def mws (w : Nat → Int32) (m k : Nat) (t : wT) : wT := mgo w m k (anF t.2.2 16) t
theorem sp_step (d : Nat) (B : hs_S) (m k : Nat) (t : wT) (hm : m < 8) (hk : k < 6) (er : B.2.1 62 (35 + 6 * m + 0) = nI k) : sx_call (d + 5) 164 [.ref 61, .int (nI m), .int (anF t.2.2 16)] (hp (mwS B t)) = some (none, hp (mwS B (mws (B.2.1 62) m k t))) := sp_M_goesOn d B m k (anF t.2.2 16) t hm hk er
theorem comesIn_loop (d : Nat) (B : hs_S) (m k p q : Nat) (hm : m < 8) (hk : k < 6) (hp0 : p < 16) (hq : q ≤ 48) (er : B.2.1 62 (35 + 6 * m + 0) = nI k) : ∀ e j t, j + e = q + 1 → sx_run (d + 5) 166 (3, [some (.ref 61), some (.int (nI m)), some (.int (nI p)), some (.int (nI q)), some (.int (nI j))], [], hp (mwS B t)) = some (some (.int (nI (htF (mws (B.2.1 62) m k) (nI p) e j t).1)), hp (mwS B (htF (mws (B.2.1 62) m k) (nI p) e j t).2)) := by
  intro e
  induction e with
  | zero =>
    intro j t hj
    have ej : j = q + 1 := by omega
    subst ej
    rw [ez166_3]
    simp only [ez166_5, ez166_6, if_pos (nI_lt (show q < q + 1 by omega) (by omega)), ez166_39, ez166_41]
    rfl
  | succ e ih =>
    intro j t hj
    have st := sp_step d B m k t hm hk er
    have an := sp_M_andNext (d + 3) t.2.2 (hp (mwS B t))
    unfold htF
    rw [ez166_3]
    simp only [ez166_5, ez166_6, ez166_9, ez166_10, ez166_13, ez166_14, ez166_15, ez166_16, if_neg (nI_nlt (show j ≤ q by omega) (by omega)), GF_61_7, mwS_re, Option.bind_some, tl_s, tl_n, bI_eq0, if_true, if_false, not_true, not_false_iff, and_self, Bool.false_eq_true, ez166_17, sb_ab t.2.2 (show p < 32 by omega)]
    by_cases h : t.2.2 &&& ((1 : Int32) <<< (nI p &&& 31)) = 0
    · rw [if_pos h, if_neg (fun y => y h)]
      simp only [ez166_20, ez166_21, ez166_22, ez166_23, ez166_24, ez166_27, ez166_30, ez166_33, ez166_36, GF_61_7, mwS_re, Option.bind_some, tl_s, tl_n, bI_eq0, if_true, if_false, not_true, not_false_iff, and_self, Bool.false_eq_true, KL_61, an, st, nI_1]
      exact ih (j + 1) _ (by omega)
    · rw [if_neg h, if_pos h]
      simp only [ez166_39, ez166_41]
theorem sp_M_comesIn (d : Nat) (B : hs_S) (m k p q : Nat) (t : wT) (hm : m < 8) (hk : k < 6) (hp0 : p < 16) (hq : q ≤ 48) (er : B.2.1 62 (35 + 6 * m + 0) = nI k) : sx_call (d + 6) 166 [.ref 61, .int (nI m), .int (nI p), .int (nI q)] (hp (mwS B t)) = some (some (.int (nI (htF (mws (B.2.1 62) m k) (nI p) (q + 1) 0 t).1)), hp (mwS B (htF (mws (B.2.1 62) m k) (nI p) (q + 1) 0 t).2)) := by
  rw [cz166]
  simp only [ez166_0, ez166_1]
  exact comesIn_loop d B m k p q hm hk hp0 hq er (q + 1) 0 t (by omega)
def smN (w : Nat → Int32) (m k p q : Nat) : Nat × wT := htF (mws w m k) (nI p) (q + 1) 0 (wmt w m)
theorem sp_M_soonestOf (d : Nat) (T : hs_S) (m k p : Nat) (hm : m < 8) (hk : k < 6) (hp0 : p < 16) (er : T.2.1 62 (35 + 6 * m + 0) = nI k) : sx_call (d + 7) 167 [.ref 61, .int (nI m), .int (nI p)] (hp T) = some (some (.int (nI (smN (T.2.1 62) m k p 48).1)), hp (mwS T (smN (T.2.1 62) m k p 48).2)) := by
  rw [cz167]
  have b := sp_M_begins (d + 3) T m hm
  have c : sx_call (d + 6) 166 [.ref 61, .int (nI m), .int (nI p), .int 48] (hp (mwS T (wmt (T.2.1 62) m))) = _ := sp_M_comesIn d T m k p 48 (wmt (T.2.1 62) m) hm hk hp0 (by omega) er
  simp only [ez167_0, ez167_1, ez167_2, ez167_5, ez167_6, ez167_7, ez167_8, ez167_10, ez167_13, Option.bind_some, tl_s, tl_n, bI_eq0, if_true, if_false, not_true, not_false_iff, and_self, Bool.false_eq_true, KL_61, b, c]
  rfl
def ml_soonest (S : hs_S) (n : Nat) (K : Nat → Nat) (c p : Int32) : Int32 × hs_S :=
  if (0 ≤ c ∧ c < nI n) ∧ (0 ≤ p ∧ p < 16) then
    if (smN (S.2.1 62) c.toNatClampNeg (K c.toNatClampNeg) p.toNatClampNeg 48).1 = 49 then (-1000000004, fdM S 3) else (nI (smN (S.2.1 62) c.toNatClampNeg (K c.toNatClampNeg) p.toNatClampNeg 48).1, S)
  else (-1000000001, fdM S 0)
theorem sp_M_soonest (d : Nat) (S : hs_S) (n : Nat) (K P : Nat → Nat) (c p : Int32) (h : rG (S.2.1 62) n K P) : cQ (sx_call (d + 8) 169 [.ref 61, .int c, .int p] (hp S)) (ml_soonest S n K c p) := by
  rw [cz169]
  have f := fun T w x hc hw => sp_M_finds (d + 6) T w x hc hw
  have isc := sp_M_isCarrier (d + 5) S n c h.1 h.2.1
  have n8 := h.1
  unfold ml_soonest
  by_cases h1 : 0 ≤ c ∧ c < nI n
  · by_cases h2 : 0 ≤ p ∧ p < 16
    · rw [if_pos ⟨h1, h2⟩]
      obtain ⟨m, hm, rfl⟩ := car_of h.1 h1
      obtain ⟨q, hq, rfl⟩ := p16_of h2
      rw [nI_clamp (show m < 2 ^ 31 by omega), nI_clamp (show q < 2 ^ 31 by omega)]
      have C := h.2.2 m hm
      have so := sp_M_soonestOf d S m (K m) q (by omega) C.1.1 hq C.1.2
      have le : (smN (S.2.1 62) m (K m) q 48).1 ≤ 49 := htF_le _ _ 49 0 _
      have g := mJ_end (mJ_mw (mJ_0 S) (smN (S.2.1 62) m (K m) q 48).2)
      generalize smN (S.2.1 62) m (K m) q 48 = r at so le g ⊢
      by_cases h3 : r.1 = 49
      · rw [if_pos h3]
        refine ⟨_, ?_, jk_fdM g 3⟩
        simp only [ez169_0, ez169_1, ez169_2, ez169_5, ez169_8, ez169_9, ez169_12, ez169_15, ez169_16, ez169_18, ez169_21, ez169_22, ez169_23, ez169_24, ez169_25, ez169_28, ez169_29, ez169_30, ez169_32, ez169_35, ez169_36, ez169_38, ez169_41, ez169_44, ez169_45, isc, sp_M_isPlace, Option.bind_some, tl_s, tl_n, bI_eq0, if_true, if_false, not_true, not_false_iff, and_self, Bool.false_eq_true, h1, h2, KL_61, so, if_neg (show ¬ nI r.1 ≤ 48 from nI_ge (a := 48) (show 48 < r.1 by omega) (by omega)), f _ 3 (-1000000004) (by decide) (by decide)]
      · rw [if_neg h3]
        refine ⟨_, ?_, g⟩
        simp only [ez169_0, ez169_1, ez169_2, ez169_5, ez169_8, ez169_9, ez169_12, ez169_15, ez169_16, ez169_18, ez169_21, ez169_22, ez169_23, ez169_24, ez169_25, ez169_28, ez169_29, ez169_30, ez169_32, ez169_35, ez169_36, ez169_38, ez169_41, ez169_44, ez169_45, isc, sp_M_isPlace, Option.bind_some, tl_s, tl_n, bI_eq0, if_true, if_false, not_true, not_false_iff, and_self, Bool.false_eq_true, h1, h2, KL_61, so, if_pos (show nI r.1 ≤ 48 from nI_le (b := 48) (show r.1 ≤ 48 by omega) (by omega))]
    · rw [if_neg (fun z => h2 z.2)]
      refine ⟨_, ?_, jk_refl _⟩
      simp only [ez169_0, ez169_1, ez169_2, ez169_5, ez169_8, ez169_9, ez169_12, ez169_15, ez169_16, ez169_18, ez169_21, isc, sp_M_isPlace, Option.bind_some, tl_s, tl_n, bI_eq0, if_true, if_false, not_true, not_false_iff, and_self, Bool.false_eq_true, h1, h2, KL_61, f S 0 (-1000000001) (by decide) (by decide)]
  · rw [if_neg (fun z => h1 z.1)]
    refine ⟨_, ?_, jk_refl _⟩
    simp only [ez169_0, ez169_1, ez169_2, ez169_5, ez169_8, ez169_9, ez169_12, ez169_15, ez169_16, ez169_18, ez169_21, isc, Option.bind_some, tl_s, tl_n, bI_eq0, if_true, if_false, not_true, not_false_iff, and_self, Bool.false_eq_true, h1, KL_61, f S 0 (-1000000001) (by decide) (by decide)]
theorem mreach_loop (d : Nat) (B : hs_S) (m k q : Nat) (t : wT) (hm : m < 8) (hk : k < 6) (hq : q ≤ 48) (er : B.2.1 62 (35 + 6 * m + 0) = nI k) : ∀ e j, j + e = q → sx_run (d + 5) 170 (29, [some (.ref 61), some (.int (nI m)), some (.int (nI q)), some (.int (nI j))], [], hp (mwS B (itW (mws (B.2.1 62) m k) t j))) = some (some (.int (itW (mws (B.2.1 62) m k) t q).2.2), hp (mwS B (itW (mws (B.2.1 62) m k) t q))) := by
  intro e
  induction e with
  | zero =>
    intro j hj
    have ej : j = q := by omega
    subst ej
    rw [ez170_29]
    simp only [ez170_30, ez170_31, if_pos (nI_le (Nat.le_refl j) (show j < 2 ^ 31 by omega)), ez170_53, ez170_54, ez170_57, GF_61_7, mwS_re, Option.bind_some, tl_s, tl_n, bI_eq0, if_true, if_false, not_true, not_false_iff, and_self, Bool.false_eq_true]
  | succ e ih =>
    intro j hj
    have st := sp_step d B m k (itW (mws (B.2.1 62) m k) t j) hm hk er
    have an := sp_M_andNext (d + 3) (itW (mws (B.2.1 62) m k) t j).2.2 (hp (mwS B (itW (mws (B.2.1 62) m k) t j)))
    rw [ez170_29]
    simp only [ez170_30, ez170_31, ez170_34, ez170_35, ez170_36, ez170_37, ez170_38, ez170_41, ez170_44, ez170_47, ez170_50, if_neg (nI_ge (show j < q by omega) (by omega)), GF_61_7, mwS_re, Option.bind_some, tl_s, tl_n, bI_eq0, if_true, if_false, not_true, not_false_iff, and_self, Bool.false_eq_true, KL_61, an, st, nI_1]
    exact ih (j + 1) (by omega)
def ml_reach (S : hs_S) (n : Nat) (K : Nat → Nat) (c x : Int32) : Int32 × hs_S :=
  if (0 ≤ c ∧ c < nI n) ∧ (0 ≤ x ∧ x ≤ 48) then ((itW (mws (S.2.1 62) c.toNatClampNeg (K c.toNatClampNeg)) (wmt (S.2.1 62) c.toNatClampNeg) x.toNatClampNeg).2.2, S) else (-1000000001, fdM S 0)
theorem sp_M_reach (d : Nat) (S : hs_S) (n : Nat) (K P : Nat → Nat) (c x : Int32) (h : rG (S.2.1 62) n K P) : cQ (sx_call (d + 6) 170 [.ref 61, .int c, .int x] (hp S)) (ml_reach S n K c x) := by
  rw [cz170]
  have f0 := sp_M_finds (d + 4) S 0 (-1000000001) (by decide) (by decide)
  have isc := sp_M_isCarrier (d + 3) S n c h.1 h.2.1
  have n8 := h.1
  unfold ml_reach
  by_cases h1 : 0 ≤ c ∧ c < nI n
  · by_cases h2 : 0 ≤ x ∧ x ≤ 48
    · rw [if_pos ⟨h1, h2⟩]
      obtain ⟨m, hm, rfl⟩ := car_of h.1 h1
      obtain ⟨q, hq, rfl⟩ := n48_of h2
      rw [nI_clamp (show m < 2 ^ 31 by omega), nI_clamp (show q < 2 ^ 31 by omega)]
      have C := h.2.2 m hm
      have b := sp_M_begins (d + 2) S m (by omega)
      have l := mreach_loop d S m (K m) q (wmt (S.2.1 62) m) (by omega) C.1.1 hq C.1.2 q 0 (by omega)
      refine ⟨_, ?_, mJ_end (mJ_mw (mJ_0 S) (itW (mws (S.2.1 62) m (K m)) (wmt (S.2.1 62) m) q))⟩
      simp only [ez170_0, ez170_1, ez170_2, ez170_5, ez170_8, ez170_9, ez170_12, ez170_15, ez170_16, ez170_18, ez170_21, ez170_22, ez170_23, ez170_24, ez170_27, ez170_28, isc, sp_M_isFar, Option.bind_some, tl_s, tl_n, bI_eq0, if_true, if_false, not_true, not_false_iff, and_self, Bool.false_eq_true, h1, h2, KL_61, b]
      exact l
    · rw [if_neg (fun z => h2 z.2)]
      refine ⟨_, ?_, jk_refl _⟩
      simp only [ez170_0, ez170_1, ez170_2, ez170_5, ez170_8, ez170_9, ez170_12, ez170_15, ez170_16, ez170_18, ez170_21, isc, sp_M_isFar, Option.bind_some, tl_s, tl_n, bI_eq0, if_true, if_false, not_true, not_false_iff, and_self, Bool.false_eq_true, h1, h2, KL_61, f0]
  · rw [if_neg (fun z => h1 z.1)]
    refine ⟨_, ?_, jk_refl _⟩
    simp only [ez170_0, ez170_1, ez170_2, ez170_5, ez170_8, ez170_9, ez170_12, ez170_15, ez170_16, ez170_18, ez170_21, isc, Option.bind_some, tl_s, tl_n, bI_eq0, if_true, if_false, not_true, not_false_iff, and_self, Bool.false_eq_true, h1, KL_61, f0]
