/-! THE PUBLIC METHODS over ways: soonest, reach, best, where -/
def cQ (o : Option sx_R) (r : Int32 × hs_S) : Prop := ∃ T, o = some (some (.int r.1), hp T) ∧ jk r.2 T
theorem uF_self (S : hs_S) (a k : Nat) : uF S a k (S.1 a k) = S := by
  refine Prod.ext ?_ rfl
  funext b j
  rw [uF_1]
  by_cases h : b = a ∧ j = k
  · rw [if_pos h, h.1, h.2]
  · rw [if_neg h]
theorem wyS_self (B : hs_S) (t : wT) (h1 : B.1 49 2 = t.1) (h2 : B.1 47 3 = t.2.1) (h3 : B.1 47 4 = t.2.2) : wyS B t = B := by
  unfold wyS
  rw [← h1, uF_self, ← h2, uF_self, ← h3, uF_self]
theorem gdF_old (cl : Int32) (po old : Nat → Int32) {l : Nat} (h : l < 11) : gdF cl po old l = gdF cl po (fun _ => 0) l := by
  unfold gdF gdP
  by_cases e : cl = 0
  · rw [if_pos e, if_pos e, if_pos h, if_pos h]
  · rw [if_neg e, if_neg e, if_pos h, if_pos h]
def wS (k : Nat) (co du cl : Int32) (po : Nat → Int32) (sp : Int32) : wT → wT := wst k co du (gdF cl po (fun _ => 0)) sp
theorem wst_old (k : Nat) (co du cl : Int32) (po old : Nat → Int32) (sp : Int32) : wst k co du (gdF cl po old) sp = wS k co du cl po sp := by
  funext t
  unfold wS wst
  have h := lpF_in k (mx0 (t.1 - fadeF k du (hT t.2.1))) co du (t.2.1 + 1)
  generalize lpF k (mx0 (t.1 - fadeF k du (hT t.2.1))) co du (t.2.1 + 1) = l at h
  obtain ⟨j, hj, rfl⟩ := nI_of (Int32.not_lt.mpr (Int32.le_trans (by decide) h.2.1))
  have j10 : j ≤ 10 := Nat.le_of_not_lt fun z => nI_ge (a := 10) z (by omega) h.2.2
  rw [nI_clamp (show j < 2 ^ 31 by omega), gdF_old cl po old (show j < 11 by omega)]
def wSS (S : hs_S) (m : Nat) : wT → wT := wS (S.2.2.2 (15 + m)) (S.1 (15 + m) 3) (S.1 (15 + m) 4) (S.1 11 5) (S.2.1 12) 0
def wt0 (S : hs_S) (m : Nat) (x : Int32) : wT := (S.1 (15 + m) 2, x, (1 : Int32) <<< (S.1 (15 + m) 1 &&& 31))
theorem bgS_self (S : hs_S) (a : Nat) (x : Int32) : wyS (bgS S a x) (S.1 a 2, x, (1 : Int32) <<< (S.1 a 1 &&& 31)) = bgS S a x := wyS_self _ _ rfl rfl rfl
theorem wsB_bg {S T : hs_S} (h : jk S T) {m : Nat} (hm : m < 8) (x : Int32) : wsB (bgS T (15 + m) x) = wSS S m := by
  have e : wsB (bgS T (15 + m) x) = wst (T.2.2.2 (15 + m)) (T.1 (15 + m) 3) (T.1 (15 + m) 4) (gdF (T.1 11 5) (T.2.1 12) (T.2.1 48)) 0 := rfl
  rw [e, wst_old, h.2.2.2 _ (jK_car hm), h.1 _ _ (jF_car hm), h.1 _ _ (jF_car hm), h.1 11 5 rfl, h.2.1 12 rfl]
  rfl
theorem wt0_jk {S T : hs_S} (h : jk S T) {m : Nat} (hm : m < 8) (x : Int32) : (T.1 (15 + m) 2, x, (1 : Int32) <<< (T.1 (15 + m) 1 &&& 31)) = wt0 S m x := by
  rw [h.1 _ _ (jF_car hm), h.1 _ _ (jF_car hm)]
  rfl
theorem htF_le (st : wT → wT) (p : Int32) : ∀ m j t, (htF st p m j t).1 ≤ j + m
  | 0, j, t => Nat.le_refl _
  | m + 1, j, t => by
    unfold htF
    by_cases h : t.2.2 &&& ((1 : Int32) <<< (p &&& 31)) = 0
    · rw [if_pos h]
      have := htF_le st p m (j + 1) (st t)
      omega
    · rw [if_neg h]
      show j ≤ j + (m + 1)
      omega
/-- begin and hoursTo, from any state that is S but for junk -/
theorem sp_begin (d : Nat) {S T : hs_S} {n H m : Nat} (h : hOk S n H) (g : jk S T) (hm : m < n) : sx_call (d + 2) 60 [.ref 47, .ref 11, .ref (15 + m), .int (nI H)] (hp T) = some (none, hp (bgS T (15 + m) (nI H))) := by
  have n8 := h.n8
  exact sp_Way_begin d T (15 + m) (nI H) (car15 (by omega)) (by omega)
theorem bgS_k {S T : hs_S} {n H m : Nat} (h : hOk S n H) (g : jk S T) (hm : m < n) (x : Int32) : (bgS T (15 + m) x).2.2.2 49 < 6 := by
  have n8 := h.n8
  show T.2.2.2 (15 + m) < 6
  rw [g.2.2.2 _ (jK_car (show m < 8 by omega))]
  exact (h.car m hm).1
theorem sp_to (d : Nat) {S T : hs_S} {n H m : Nat} (h : hOk S n H) (g : jk S T) (hm : m < n) (hH : H ≤ 99999) (p : Int32) : sx_call (d + 6) 63 [.ref 47, .int p] (hp (bgS T (15 + m) (nI H))) = some (some (.int (nI (htF (wSS S m) p 49 0 (wt0 S m (nI H))).1)), hp (wyS (bgS T (15 + m) (nI H)) (htF (wSS S m) p 49 0 (wt0 S m (nI H))).2)) := by
  have n8 := h.n8
  have u := sp_Way_hoursTo d (bgS T (15 + m) (nI H)) p (wt0 S m (nI H)) H (bgS_k h g hm _) rfl (by omega)
  rw [wsB_bg g (by omega)] at u
  rw [← wt0_jk g (show m < 8 by omega), bgS_self, wt0_jk g (show m < 8 by omega)] at u
  exact u
def soN (S : hs_S) (m H : Nat) (p : Int32) : Nat := (htF (wSS S m) p 49 0 (wt0 S m (nI H))).1
theorem soN_le (S : hs_S) (m H : Nat) (p : Int32) : soN S m H p ≤ 49 := htF_le _ _ 49 0 _
def cl_soonest (S : hs_S) (n H : Nat) (c p : Int32) : Int32 × hs_S :=
  if (0 ≤ c ∧ c < nI n) ∧ (0 ≤ p ∧ p < 16) then
    if soN S c.toNatClampNeg H p = 49 then (-1000000004, fdS S 3) else (nI (soN S c.toNatClampNeg H p), S)
  else (-1000000001, fdS S 0)
theorem sp_SC_soonest (d : Nat) (S : hs_S) (n H : Nat) (c p : Int32) (h : hOk S n H) (hH : H ≤ 99999) : cQ (sx_call (d + 7) 83 [.ref 1, .int c, .int p] (hp S)) (cl_soonest S n H c p) := by
  rw [cz83]
  have f := fun T w x hc hw => sp_SC_finding (d + 5) T w x hc hw
  have hc := h.cnt
  have hr := h.hr
  have n8 := h.n8
  unfold cl_soonest
  by_cases h1 : 0 ≤ c ∧ c < nI n
  · by_cases h2 : 0 ≤ p ∧ p < 16
    · obtain ⟨m, hm, rfl⟩ := car_of n8 h1
      rw [if_pos ⟨h1, h2⟩, nI_clamp (show m < 2 ^ 31 by omega)]
      have b := sp_begin (d + 4) h (jk_refl S) hm
      have t := sp_to d h (jk_refl S) hm hH p
      have sl := soN_le S m H p
      have e49 : (nI (soN S m H p) = 49) = (soN S m H p = 49) := propext (nI_eq (b := 49) (by omega) (by omega))
      unfold soN at sl e49 ⊢
      simp only [ez83_0, ez83_1, ez83_2, ez83_5, ez83_8, ez83_9, ez83_12, ez83_15, ez83_16, ez83_18, ez83_21, ez83_22, ez83_23, ez83_26, ez83_27, ez83_30, ez83_31, ez83_34, ez83_37, ez83_38, ez83_39, ez83_40, ez83_43, ez83_46, ez83_49, ez83_50, ez83_53, ez83_54, ez83_57, sp_SC_isCarrier, sp_SC_isPlace, tl_s, tl_n, bI_eq0, KL_1, KL_47, if_true, hc, hr, h1, h2, and_self, not_true, not_false_iff, if_false, GF_1_1, GF_1_5, GF_11_2, GF_11_4, Option.bind_some, GQ_14 _ m (show m < 8 by omega), b, t, ez83_58, ez83_59, ez83_61, e49]
      generalize htF (wSS S m) p 49 0 (wt0 S m (nI H)) = r at sl e49 ⊢
      by_cases h3 : r.1 = 49
      · rw [if_pos h3, if_neg (fun z => z h3)]
        refine ⟨fdS (wyS (bgS S (15 + m) (nI H)) r.2) 3, ?_, jk_fdS (jk_wyS (jk_bgS (jk_refl S) _ _) _) 3⟩
        simp only [ez83_64, ez83_65, ez83_67, ez83_70, ez83_73, ez83_74, KL_1, if_true, f _ 3 (-1000000004) (by decide) (by decide), Option.bind_some, tl_s]
      · rw [if_neg h3, if_pos h3]
        refine ⟨wyS (bgS S (15 + m) (nI H)) r.2, ?_, jk_wyS (jk_bgS (jk_refl S) _ _) _⟩
        simp only [ez83_73, ez83_74]
    · rw [if_neg (fun z => h2 z.2)]
      refine ⟨fdS S 0, ?_, jk_refl _⟩
      simp [ez83_0, ez83_1, ez83_2, ez83_5, ez83_8, ez83_9, ez83_12, ez83_15, ez83_16, ez83_18, ez83_21, sp_SC_isCarrier, sp_SC_isPlace, tl_s, bI_eq0, KL_1, hc, h1, h2, f S 0 (-1000000001) (by decide) (by decide)]
  · rw [if_neg (fun z => h1 z.1)]
    refine ⟨fdS S 0, ?_, jk_refl _⟩
    simp [ez83_0, ez83_1, ez83_2, ez83_5, ez83_8, ez83_9, ez83_12, ez83_15, ez83_16, ez83_18, ez83_21, sp_SC_isCarrier, tl_s, bI_eq0, KL_1, hc, h1, f S 0 (-1000000001) (by decide) (by decide)]
theorem reach_loop (d : Nat) (B : hs_S) (t : wT) (X q : Nat) (l1 : Option Value) (hk : B.2.2.2 49 < 6) (hx : t.2.1 = nI X) (hX : X ≤ 150000) (hq : q ≤ 48) : ∀ m j, j + m = q → sx_run (d + 5) 84 (53, [some (.ref 1), l1, some (.int (nI q)), some (.int (nI j))], [], hp (wyS B (itW (wsB B) t j))) = some (some (.int (itW (wsB B) t q).2.2), hp (wyS B (itW (wsB B) t q))) := by
  intro m
  induction m with
  | zero =>
    intro j hj
    have e : j = q := by omega
    subst e
    rw [ez84_53]
    simp only [ez84_54, ez84_55, if_pos (nI_le (Nat.le_refl j) (by omega)), ez84_71, ez84_72, ez84_75, ez84_78, GF_1_5, GF_47_4, Option.bind_some, wyS_re]
  | succ m ih =>
    intro j hj
    have x := itW_x B t X hx j
    have ps := sp_Way_passHour d B (itW (wsB B) t j) hk (by rw [x]; exact nI_pos' (by omega)) (by rw [x, nI_1]; exact nI_pos' (by omega))
    rw [ez84_53]
    simp only [ez84_54, ez84_55, ez84_58, ez84_59, ez84_62, ez84_65, ez84_68, if_neg (nI_ge (show j < q by omega) (by omega)), GF_1_5, Option.bind_some, KL_47, if_true, ps, tl_n, nI_1]
    exact ih (j + 1) (by omega)
def cl_reach (S : hs_S) (n H : Nat) (c x : Int32) : Int32 × hs_S :=
  if (0 ≤ c ∧ c < nI n) ∧ (0 ≤ x ∧ x ≤ 48) then ((itW (wSS S c.toNatClampNeg) (wt0 S c.toNatClampNeg (nI H)) x.toNatClampNeg).2.2, S) else (-1000000001, fdS S 0)
theorem n48_of {x : Int32} (h : 0 ≤ x ∧ x ≤ 48) : ∃ m, m ≤ 48 ∧ x = nI m := by
  obtain ⟨m, hm, rfl⟩ := nI_of (Int32.not_lt.mpr h.1)
  exact ⟨m, Nat.le_of_not_lt fun z => nI_ge (a := 48) z (by omega) h.2, rfl⟩
theorem sp_SC_reach (d : Nat) (S : hs_S) (n H : Nat) (c x : Int32) (h : hOk S n H) (hH : H ≤ 99999) : cQ (sx_call (d + 6) 84 [.ref 1, .int c, .int x] (hp S)) (cl_reach S n H c x) := by
  rw [cz84]
  have f := fun T w x hc hw => sp_SC_finding (d + 4) T w x hc hw
  have hc := h.cnt
  have hr := h.hr
  have n8 := h.n8
  unfold cl_reach
  by_cases h1 : 0 ≤ c ∧ c < nI n
  · by_cases h2 : 0 ≤ x ∧ x ≤ 48
    · obtain ⟨m, hm, rfl⟩ := car_of n8 h1
      obtain ⟨q, hq, rfl⟩ := n48_of h2
      rw [if_pos ⟨h1, h2⟩, nI_clamp (show m < 2 ^ 31 by omega), nI_clamp (show q < 2 ^ 31 by omega)]
      have b := sp_begin (d + 3) h (jk_refl S) hm
      have l := reach_loop d (bgS S (15 + m) (nI H)) (wt0 S m (nI H)) H q (some (.int (nI m))) (bgS_k h (jk_refl S) hm _) rfl (by omega) hq q 0 (by omega)
      have e0 : wyS (bgS S (15 + m) (nI H)) (itW (wsB (bgS S (15 + m) (nI H))) (wt0 S m (nI H)) 0) = bgS S (15 + m) (nI H) := bgS_self S (15 + m) (nI H)
      rw [e0, wsB_bg (jk_refl S) (show m < 8 by omega)] at l
      refine ⟨_, ?_, jk_wyS (jk_bgS (jk_refl S) (15 + m) (nI H)) (itW (wSS S m) (wt0 S m (nI H)) q)⟩
      simp only [ez84_0, ez84_1, ez84_2, ez84_5, ez84_8, ez84_9, ez84_11, ez84_14, ez84_17, ez84_18, ez84_20, ez84_23, ez84_24, ez84_25, ez84_28, ez84_29, ez84_32, ez84_33, ez84_36, ez84_39, ez84_40, ez84_41, ez84_42, ez84_45, ez84_48, ez84_51, ez84_52, sp_SC_isCarrier, sp_SC_within, tl_s, tl_n, bI_eq0, KL_1, KL_47, if_true, hc, hr, h1, h2, and_self, not_true, not_false_iff, if_false, GF_1_1, GF_1_5, GF_11_2, GF_11_4, Option.bind_some, GQ_14 _ m (show m < 8 by omega), b]
      exact l
    · rw [if_neg (fun z => h2 z.2)]
      refine ⟨fdS S 0, ?_, jk_refl _⟩
      simp [ez84_0, ez84_1, ez84_2, ez84_5, ez84_8, ez84_9, ez84_11, ez84_14, ez84_17, ez84_18, ez84_20, ez84_23, sp_SC_isCarrier, sp_SC_within, tl_s, bI_eq0, KL_1, hc, h1, h2, f S 0 (-1000000001) (by decide) (by decide)]
  · rw [if_neg (fun z => h1 z.1)]
    refine ⟨fdS S 0, ?_, jk_refl _⟩
    simp [ez84_0, ez84_1, ez84_2, ez84_5, ez84_8, ez84_9, ez84_11, ez84_14, ez84_17, ez84_18, ez84_20, ez84_23, sp_SC_isCarrier, tl_s, bI_eq0, KL_1, hc, h1, f S 0 (-1000000001) (by decide) (by decide)]
def bsB (S : hs_S) (m H q : Nat) (k : Nat) (z : Int32) : Int32 × Int32 := skB k (S.1 (15 + m) 4) (S.2.1 13) (wS k (S.1 (15 + m) 3) (S.1 (15 + m) 4) (S.1 11 5) (S.2.1 12) 0) (wt0 S m (nI H)) (-1, z) (q + 1)
theorem jk_wyB {S B : hs_S} (h : jk S B) (t : wT) (b : Int32 × Int32) : jk S (wyB B t b) := jk_uF (jk_uF (jk_wyS h t) rfl _) rfl _
def cl_best (S : hs_S) (n H : Nat) (w : Bool) (c x : Int32) : Int32 × hs_S :=
  if (0 ≤ c ∧ c < nI n) ∧ (0 ≤ x ∧ x ≤ 48) then ((if w = true then (bsB S c.toNatClampNeg H x.toNatClampNeg (S.2.2.2 (15 + c.toNatClampNeg)) (S.1 47 6)).2 else (bsB S c.toNatClampNeg H x.toNatClampNeg (S.2.2.2 (15 + c.toNatClampNeg)) (S.1 47 6)).1), S) else (-1000000001, fdS S 0)
theorem sp_SC_best (d : Nat) (S : hs_S) (n H : Nat) (c x : Int32) (h : hOk S n H) (hH : H ≤ 99999) : cQ (sx_call (d + 7) 86 [.ref 1, .int c, .int x] (hp S)) (cl_best S n H false c x) := by
  rw [cz86]
  have f := fun T w x hc hw => sp_SC_finding (d + 5) T w x hc hw
  have hc := h.cnt
  have hr := h.hr
  have n8 := h.n8
  unfold cl_best
  by_cases h1 : 0 ≤ c ∧ c < nI n
  · by_cases h2 : 0 ≤ x ∧ x ≤ 48
    · obtain ⟨m, hm, rfl⟩ := car_of n8 h1
      obtain ⟨q, hq, rfl⟩ := n48_of h2
      rw [if_pos ⟨h1, h2⟩, nI_clamp (show m < 2 ^ 31 by omega), nI_clamp (show q < 2 ^ 31 by omega)]
      have b := sp_begin (d + 4) h (jk_refl S) hm
      have s := sp_Way_seekBest d (bgS S (15 + m) (nI H)) (wt0 S m (nI H)) H q hq (bgS_k h (jk_refl S) hm _) rfl (by omega)
      have e0 : wyS (bgS S (15 + m) (nI H)) (wt0 S m (nI H)) = bgS S (15 + m) (nI H) := bgS_self S (15 + m) (nI H)
      rw [e0, wsB_bg (jk_refl S) (show m < 8 by omega)] at s
      have e1 : skB ((bgS S (15 + m) (nI H)).2.2.2 49) ((bgS S (15 + m) (nI H)).1 49 4) ((bgS S (15 + m) (nI H)).2.1 13) (wSS S m) (wt0 S m (nI H)) (-1, (bgS S (15 + m) (nI H)).1 47 6) (q + 1) = bsB S m H q (S.2.2.2 (15 + m)) (S.1 47 6) := rfl
      rw [e1] at s
      refine ⟨_, ?_, jk_wyB (jk_bgS (jk_refl S) (15 + m) (nI H)) (itW (wSS S m) (wt0 S m (nI H)) q) (bsB S m H q (S.2.2.2 (15 + m)) (S.1 47 6))⟩
      have r : ∀ B t (b : Int32 × Int32), (wyB B t b).1 47 5 = b.1 := fun _ _ _ => rfl
      simp only [ez86_0, ez86_1, ez86_2, ez86_5, ez86_8, ez86_9, ez86_11, ez86_14, ez86_17, ez86_18, ez86_20, ez86_23, ez86_24, ez86_25, ez86_28, ez86_29, ez86_32, ez86_33, ez86_36, ez86_39, ez86_40, ez86_41, ez86_42, ez86_45, ez86_48, ez86_51, ez86_52, ez86_55, ez86_56, ez86_59, ez86_60, ez86_63, ez86_64, ez86_67, ez86_70, sp_SC_isCarrier, sp_SC_within, tl_s, tl_n, bI_eq0, KL_1, KL_47, if_true, hc, hr, h1, h2, and_self, not_true, not_false_iff, if_false, GF_1_1, GF_1_5, GF_11_2, GF_11_4, GF_47_5, Option.bind_some, GQ_14 _ m (show m < 8 by omega), b, s, r, Bool.false_eq_true]
    · rw [if_neg (fun z => h2 z.2)]
      refine ⟨fdS S 0, ?_, jk_refl _⟩
      simp [ez86_0, ez86_1, ez86_2, ez86_5, ez86_8, ez86_9, ez86_11, ez86_14, ez86_17, ez86_18, ez86_20, ez86_23, sp_SC_isCarrier, sp_SC_within, tl_s, bI_eq0, KL_1, hc, h1, h2, f S 0 (-1000000001) (by decide) (by decide)]
  · rw [if_neg (fun z => h1 z.1)]
    refine ⟨fdS S 0, ?_, jk_refl _⟩
    simp [ez86_0, ez86_1, ez86_2, ez86_5, ez86_8, ez86_9, ez86_11, ez86_14, ez86_17, ez86_18, ez86_20, ez86_23, sp_SC_isCarrier, tl_s, bI_eq0, KL_1, hc, h1, f S 0 (-1000000001) (by decide) (by decide)]
theorem sp_SC_where (d : Nat) (S : hs_S) (n H : Nat) (c x : Int32) (h : hOk S n H) (hH : H ≤ 99999) : cQ (sx_call (d + 7) 87 [.ref 1, .int c, .int x] (hp S)) (cl_best S n H true c x) := by
  rw [cz87]
  have f := fun T w x hc hw => sp_SC_finding (d + 5) T w x hc hw
  have hc := h.cnt
  have hr := h.hr
  have n8 := h.n8
  unfold cl_best
  by_cases h1 : 0 ≤ c ∧ c < nI n
  · by_cases h2 : 0 ≤ x ∧ x ≤ 48
    · obtain ⟨m, hm, rfl⟩ := car_of n8 h1
      obtain ⟨q, hq, rfl⟩ := n48_of h2
      rw [if_pos ⟨h1, h2⟩, nI_clamp (show m < 2 ^ 31 by omega), nI_clamp (show q < 2 ^ 31 by omega)]
      have b := sp_begin (d + 4) h (jk_refl S) hm
      have s := sp_Way_seekBest d (bgS S (15 + m) (nI H)) (wt0 S m (nI H)) H q hq (bgS_k h (jk_refl S) hm _) rfl (by omega)
      have e0 : wyS (bgS S (15 + m) (nI H)) (wt0 S m (nI H)) = bgS S (15 + m) (nI H) := bgS_self S (15 + m) (nI H)
      rw [e0, wsB_bg (jk_refl S) (show m < 8 by omega)] at s
      have e1 : skB ((bgS S (15 + m) (nI H)).2.2.2 49) ((bgS S (15 + m) (nI H)).1 49 4) ((bgS S (15 + m) (nI H)).2.1 13) (wSS S m) (wt0 S m (nI H)) (-1, (bgS S (15 + m) (nI H)).1 47 6) (q + 1) = bsB S m H q (S.2.2.2 (15 + m)) (S.1 47 6) := rfl
      rw [e1] at s
      refine ⟨_, ?_, jk_wyB (jk_bgS (jk_refl S) (15 + m) (nI H)) (itW (wSS S m) (wt0 S m (nI H)) q) (bsB S m H q (S.2.2.2 (15 + m)) (S.1 47 6))⟩
      have r : ∀ B t (b : Int32 × Int32), (wyB B t b).1 47 6 = b.2 := fun _ _ _ => rfl
      simp only [ez87_0, ez87_1, ez87_2, ez87_5, ez87_8, ez87_9, ez87_11, ez87_14, ez87_17, ez87_18, ez87_20, ez87_23, ez87_24, ez87_25, ez87_28, ez87_29, ez87_32, ez87_33, ez87_36, ez87_39, ez87_40, ez87_41, ez87_42, ez87_45, ez87_48, ez87_51, ez87_52, ez87_55, ez87_56, ez87_59, ez87_60, ez87_63, ez87_64, ez87_67, ez87_70, sp_SC_isCarrier, sp_SC_within, tl_s, tl_n, bI_eq0, KL_1, KL_47, if_true, hc, hr, h1, h2, and_self, not_true, not_false_iff, if_false, GF_1_1, GF_1_5, GF_11_2, GF_11_4, GF_47_6, Option.bind_some, GQ_14 _ m (show m < 8 by omega), b, s, r, Bool.false_eq_true]
    · rw [if_neg (fun z => h2 z.2)]
      refine ⟨fdS S 0, ?_, jk_refl _⟩
      simp [ez87_0, ez87_1, ez87_2, ez87_5, ez87_8, ez87_9, ez87_11, ez87_14, ez87_17, ez87_18, ez87_20, ez87_23, sp_SC_isCarrier, sp_SC_within, tl_s, bI_eq0, KL_1, hc, h1, h2, f S 0 (-1000000001) (by decide) (by decide)]
  · rw [if_neg (fun z => h1 z.1)]
    refine ⟨fdS S 0, ?_, jk_refl _⟩
    simp [ez87_0, ez87_1, ez87_2, ez87_5, ez87_8, ez87_9, ez87_11, ez87_14, ez87_17, ez87_18, ez87_20, ez87_23, sp_SC_isCarrier, tl_s, bI_eq0, KL_1, hc, h1, f S 0 (-1000000001) (by decide) (by decide)]
