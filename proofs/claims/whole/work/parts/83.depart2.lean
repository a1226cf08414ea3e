/-! THE STEP depart -/
theorem dwF_succ (st : wT → wT) : ∀ e t, dwF st (e + 1) t = if (dwF st e t).2.2 = 0 then dwF st e t else st (dwF st e t)
  | 0, t => rfl
  | e + 1, t => by
    have ih := dwF_succ st e (st t)
    by_cases z : t.2.2 = 0
    · have a : ∀ e, dwF st (e + 1) t = t := fun e => by
        unfold dwF
        rw [if_pos z]
      rw [a (e + 1), a e, if_pos z]
    · have a : ∀ e, dwF st (e + 1) t = dwF st e (st t) := fun e => by
        show (if t.2.2 = 0 then t else dwF st e (st t)) = _
        rw [if_neg z]
      rw [a (e + 1), a e, ih]
def dpl (S : hs_S) (m : Nat) : Int32 := (1 : Int32) <<< (S.1 (15 + m) 1 &&& 31)
theorem dpl_ne {S : hs_S} {n m : Nat} (h : Rel S n) (hm : m < n) : ¬ dpl S m = 0 := by
  obtain ⟨ep, hp16⟩ := p_nI h hm
  intro z
  unfold dpl at z
  rw [ep] at z
  have b := bt_sh1 (n := pOf S m) (i := pOf S m) (by omega) (by omega)
  rw [z, b_0, decide_eq_true rfl] at b
  cases b
/-- one hour of waiting -/
theorem dw_step {S : hs_S} {n m H i : Nat} (h : Rel S n) (hm : m < n) (hH : H ≤ 99999) (hi : i ≤ 100) : mgo (S.2.1 62) m (kOf S m) (dpl S m) (hsI S m H i, nI (H + i), dpl S m) = if fnC S m (hsI S m H i) (nI (H + i)) = true then (s1P (S.2.2.2 (15 + m)) (S.1 (15 + m) 4) (hsI S m H i) (nI (H + i)), nI (H + (i + 1)), 0) else (hsI S m H (i + 1), nI (H + (i + 1)), dpl S m) := by
  obtain ⟨s, hs, es⟩ := hs_rng h hm hH i (by omega)
  obtain ⟨k6, -, -, ⟨du, hdu, edu⟩, -⟩ := c_rng h hm
  obtain ⟨u, hu, eu⟩ := s1_N (X := H + i) k6 hs hdu (by omega)
  obtain ⟨ep, hp16⟩ := p_nI h hm
  have e1 : s1P (S.2.2.2 (15 + m)) (S.1 (15 + m) 4) (hsI S m H i) (nI (H + i)) = nI u := by
    rw [es, edu]
    exact eu
  have e4 : S.2.1 62 (35 + 6 * m + 4) = S.1 (15 + m) 4 := r_c h hm (by omega)
  have fe := f_eq (X := H + i + 1) (s := u) h hm hp16 (by omega) (by omega)
  have fn : fnC S m (hsI S m H i) (nI (H + i)) = fmB (S.2.1 62 2) (S.2.1 62 (3 + pOf S m)) (S.2.2.2 (15 + m)) (nI u) (S.2.1 62 (35 + 6 * m + 3)) (S.2.1 62 (35 + 6 * m + 4)) (nI (H + i + 1)) := by
    unfold fnC fnP
    rw [e1, ep, nI_1]
    exact fe
  have rm : rmF (fun p => fmB (S.2.1 62 2) (S.2.1 62 (3 + p)) (S.2.2.2 (15 + m)) (nI u) (S.2.1 62 (35 + 6 * m + 3)) (S.2.1 62 (35 + 6 * m + 4)) (nI (H + i + 1))) (dpl S m) 16 = if fnC S m (hsI S m H i) (nI (H + i)) = true then 0 else dpl S m := by
    apply b_ext
    intro j hj
    rw [rm_bt _ _ 16 (by omega) j hj]
    unfold dpl
    rw [ep, bt_sh1 (by omega) hj]
    by_cases e : j = pOf S m
    · subst e
      rw [decide_eq_true rfl, decide_eq_true hp16, ← fn]
      by_cases z : fnC S m (hsI S m H i) (nI (H + i)) = true
      · rw [if_pos z, z, b_0]
        rfl
      · rw [if_neg z, ts_nt z, bt_sh1 (by omega) hj, decide_eq_true rfl]
        rfl
    · rw [decide_eq_false e, Bool.false_and]
      by_cases z : fnC S m (hsI S m H i) (nI (H + i)) = true
      · rw [if_pos z, b_0]
      · rw [if_neg z, bt_sh1 (by omega) hj, decide_eq_false e]
  show (s1P (S.2.2.2 (15 + m)) (S.2.1 62 (35 + 6 * m + 4)) (hsI S m H i) (nI (H + i)), nI (H + i) + 1, rmF (fun p => fmB (S.2.1 62 2) (S.2.1 62 (3 + p)) (S.2.2.2 (15 + m)) (s1P (S.2.2.2 (15 + m)) (S.2.1 62 (35 + 6 * m + 4)) (hsI S m H i) (nI (H + i))) (S.2.1 62 (35 + 6 * m + 3)) (S.2.1 62 (35 + 6 * m + 4)) (nI (H + i) + 1)) (dpl S m) 16) = _
  have rm2 := rm
  rw [e4] at rm2
  rw [e4, e1, nI_1, rm2]
  by_cases z : fnC S m (hsI S m H i) (nI (H + i)) = true
  · rw [if_pos z, if_pos z]
    rfl
  · rw [if_neg z, if_neg z]
    have sh : hsI S m H (i + 1) = nI u := by
      show shC S m (hsI S m H i) (nI (H + i)) = _
      unfold shC shP
      have z' : ¬ fnP (S.1 11 5) (S.2.1 12) (S.2.2.2 (15 + m)) (S.1 (15 + m) 1) (S.1 (15 + m) 3) (S.1 (15 + m) 4) (hsI S m H i) (nI (H + i)) = true := z
      rw [if_neg z', e1]
    rw [sh]
    rfl
theorem dw_dead (st : wT → wT) (t : wT) {i : Nat} (h : (dwF st i t).2.2 = 0) : ∀ j, (dwF st (i + j) t).2.2 = 0
  | 0 => h
  | j + 1 => by
    have ih := dw_dead st t h j
    rw [← Nat.add_assoc, dwF_succ, if_pos ih]
    exact ih
theorem dm_dead {w : Nat → Int32} {m k p : Nat} : ∀ e i t f, f ≤ 49 → (∀ j, i ≤ j → dmN w m k p j = 49) → dmF w m k p e i t f = t
  | 0, _, _, _, _, _ => rfl
  | e + 1, i, t, f, hf, h => by
    unfold dmF
    rw [h i (Nat.le_refl _), if_pos hf]
    exact dm_dead e (i + 1) t f hf (fun j hj => h j (by omega))
theorem dp_all {S : hs_S} {n m H p : Nat} (h : Rel S n) (hm : m < n) (hH : H ≤ 99999) (eH : S.1 11 4 = nI H) : ∀ e i f t t', i + e = 24 → f ≤ 49 → tkn t t' → dwF (mgo (S.2.1 62) m (kOf S m) (dpl S m)) i (wt0 S m (nI H)) = (hsI S m H i, nI (H + i), dpl S m) → ∃ u u', dpF S m H (nI p) e i (hsI S m H i) f t = dpE S u ∧ dmF (S.2.1 62) m (kOf S m) p e i t' f = u' ∧ tkn u u'
  | 0, i, f, t, t', _, _, k, _ => ⟨t, t', rfl, rfl, k⟩
  | e + 1, i, f, t, t', hi, hf, k, dw => by
    obtain ⟨s, hs, es⟩ := hs_rng h hm hH i (by omega)
    obtain ⟨ep, hp16⟩ := p_nI h hm
    have e0 := wmt_r h hm eH
    have e2 : (wt0 S m (nI H)).2.2 = dpl S m := rfl
    have vw : wV (H + i) (hsI S m H i, nI (H + i), dpl S m) := ⟨⟨s, hs, es⟩, rfl, by
      show low ((1 : Int32) <<< (S.1 (15 + m) 1 &&& 31))
      rw [ep]
      exact low_1 hp16⟩
    have en : dmN (S.2.1 62) m (kOf S m) p i = dpN S m (nI p) (H + i) (hsI S m H i) := by
      unfold dmN dpN
      rw [e0, e2, dw, if_neg (show ¬ (hsI S m H i, nI (H + i), dpl S m).2.2 = 0 from dpl_ne h hm), ← ht_cong (B := 200000) (nI p) (wy_row h hm) 49 0 (H + i) _ vw (by omega)]
      rfl
    have le : dpN S m (nI p) (H + i) (hsI S m H i) ≤ 49 := htF_le _ _ 49 0 _
    have st := dw_step h hm hH (show i ≤ 100 by omega)
    have dn : dwF (mgo (S.2.1 62) m (kOf S m) (dpl S m)) (i + 1) (wt0 S m (nI H)) = mgo (S.2.1 62) m (kOf S m) (dpl S m) (hsI S m H i, nI (H + i), dpl S m) := by
      rw [dwF_succ, dw]
      exact if_neg (dpl_ne h hm)
    rw [st] at dn
    unfold dpF dmF
    rw [en]
    have k2 : tkn (if f ≤ dpN S m (nI p) (H + i) (hsI S m H i) then t else nI i) (if f ≤ dpN S m (nI p) (H + i) (hsI S m H i) then t' else nI i) := by
      by_cases z : f ≤ dpN S m (nI p) (H + i) (hsI S m H i)
      · rw [if_pos z, if_pos z]
        exact k
      · rw [if_neg z, if_neg z]
        exact Or.inr ⟨i, by omega, rfl, rfl⟩
    by_cases fz : fnC S m (hsI S m H i) (nI (H + i)) = true
    · rw [if_pos fz] at dn ⊢
      have dd : ∀ j, i + 1 ≤ j → dmN (S.2.1 62) m (kOf S m) p j = 49 := by
        intro j hj
        have := dw_dead (mgo (S.2.1 62) m (kOf S m) (dpl S m)) (wt0 S m (nI H)) (i := i + 1) (by rw [dn]) (j - (i + 1))
        rw [show i + 1 + (j - (i + 1)) = j by omega] at this
        unfold dmN
        rw [e0, e2, if_pos this]
      refine ⟨_, _, rfl, rfl, ?_⟩
      by_cases z : f ≤ dpN S m (nI p) (H + i) (hsI S m H i)
      · rw [if_pos z] at k2 ⊢
        rw [if_pos z, dm_dead e (i + 1) t' f hf dd]
        exact k
      · rw [if_neg z] at k2 ⊢
        rw [if_neg z, dm_dead e (i + 1) (nI i) _ le dd]
        exact Or.inr ⟨i, by omega, rfl, rfl⟩
    · rw [if_neg fz] at dn ⊢
      by_cases z : f ≤ dpN S m (nI p) (H + i) (hsI S m H i)
      · rw [if_pos z, if_pos z, if_pos z]
        exact dp_all h hm hH eH e (i + 1) f t t' (by omega) hf k dn
      · rw [if_neg z, if_neg z, if_neg z]
        exact dp_all h hm hH eH e (i + 1) _ _ _ (by omega) le (Or.inr ⟨i, by omega, rfl, rfl⟩) dn
theorem st_depart (S : hs_S) (n : Nat) (h : Rel S n) (c p : Int32) : stp S 90 [.ref 1, .int c, .int p] 177 [.ref 61, .int c, .int p] := by
  obtain ⟨H, hH, o⟩ := Rel_ok h
  have n8 := r_n8 h
  refine stp_mk (sp_SC_depart 4 S n H c p o hH) (fun T g => ?_)
  have cc := fun (e : T.2.1 62 = S.2.1 62) => sp_M_depart 4 T n (kOf S) (pOf S) c p (rowS h e)
  unfold cl_depart at g ⊢
  unfold ml_depart at cc
  by_cases h1 : (0 ≤ c ∧ c < nI n) ∧ (0 ≤ p ∧ p < 16)
  · rw [if_pos h1] at g ⊢
    simp only [if_pos h1] at cc
    obtain ⟨m, hm, rfl⟩ := car_of n8 h1.1
    obtain ⟨q, hq, rfl⟩ := p16_of h1.2
    rw [nI_clamp (show m < 2 ^ 31 by omega)] at g cc ⊢
    rw [nI_clamp (show q < 2 ^ 31 by omega)] at cc
    obtain ⟨u, u', a, b, k⟩ := dp_all (p := q) h hm hH o.hr 24 0 49 (-1000000004) (-1) (by omega) (by omega) (Or.inl ⟨rfl, rfl⟩) rfl
    have a' : dpF S m H (nI q) 24 0 (S.1 (15 + m) 2) 49 (-1000000004) = dpE S u := a
    rw [a'] at g ⊢
    refine tkn_end h k g (fun er => ?_)
    have cc := cc er
    rw [er, b] at cc
    exact cc
  · rw [if_neg h1] at g ⊢
    simp only [if_neg h1] at cc
    exact end_f h g (cc (row_fd g)) rfl
