/-! THE STEPS over ways: soonest, reach, best, where, cover, kind, post, depart -/
theorem wy_step {S : hs_S} {n m k c : Nat} {sp : Int32} {w : Nat → Int32} (h : Rel S n) (hm : m < n) (hk : k < 6) (hc : c ≤ 9) (w2 : w 2 = S.1 11 5) (w3 : w (35 + 6 * m + 3) = nI c) (w4 : w (35 + 6 * m + 4) = S.1 (15 + m) 4) (wp : ∀ p, p < 16 → (bt sp p = true ∧ w (3 + p) = nI 0) ∨ (bt sp p = false ∧ w (3 + p) = S.2.1 12 p)) : ∀ X t, X < 200000 → wV X t → wS k (nI c) (S.1 (15 + m) 4) (S.1 11 5) (S.2.1 12) sp t = mws w m k t ∧ wV (X + 1) (mws w m k t) := by
  obtain ⟨-, -, -, ⟨d, hd, ed⟩, -⟩ := c_rng h hm
  intro X t hX hv
  rw [ed] at w4 ⊢
  exact w_eq hk hc hd hX (fun p hp0 => po_rng h hp0) hv w2 w3 w4 wp
theorem wy_row {S : hs_S} {n m : Nat} (h : Rel S n) (hm : m < n) : ∀ X t, X < 200000 → wV X t → wSS S m t = mws (S.2.1 62) m (kOf S m) t ∧ wV (X + 1) (mws (S.2.1 62) m (kOf S m) t) := by
  obtain ⟨k6, -, ⟨c, hc, ec⟩, -, -⟩ := c_rng h hm
  have := wy_step (sp := 0) (w := S.2.1 62) h hm k6 hc (r_2 h) ((r_c h hm (by omega)).trans ec) (r_c h hm (by omega)) (fun p hp0 => Or.inr ⟨b_0 p, r_po h hp0⟩)
  unfold wSS
  rw [ec]
  exact this
theorem low_1 {p : Nat} (hp0 : p < 16) : low ((1 : Int32) <<< (nI p &&& 31)) := by
  intro i h1 h2
  rw [bt_sh1 (by omega) h2, decide_eq_false (by omega)]
theorem wV_0 {S : hs_S} {n m H : Nat} (h : Rel S n) (hm : m < n) : wV H (wt0 S m (nI H)) := by
  obtain ⟨-, a, -⟩ := c_rng h hm
  obtain ⟨ep, hp16⟩ := p_nI h hm
  refine ⟨a, rfl, ?_⟩
  show low ((1 : Int32) <<< (S.1 (15 + m) 1 &&& 31))
  rw [ep]
  exact low_1 hp16
theorem wmt_0 {S : hs_S} {m H : Nat} {w : Nat → Int32} (w1 : w 1 = nI H) (a : w (35 + 6 * m + 1) = S.1 (15 + m) 1) (b : w (35 + 6 * m + 2) = S.1 (15 + m) 2) : wmt w m = wt0 S m (nI H) := by
  unfold wmt wt0
  rw [w1, a, b]
theorem wmt_r {S : hs_S} {n m H : Nat} (h : Rel S n) (hm : m < n) (eH : S.1 11 4 = nI H) : wmt (S.2.1 62) m = wt0 S m (nI H) := wmt_0 ((r_1 h).trans eH) (r_c h hm (by omega)) (r_c h hm (by omega))
theorem so_eq {S : hs_S} {n m H p : Nat} (h : Rel S n) (hm : m < n) (hH : H ≤ 99999) (eH : S.1 11 4 = nI H) : (smN (S.2.1 62) m (kOf S m) p 48).1 = soN S m H (nI p) := by
  unfold smN soN
  rw [wmt_r h hm eH, ht_cong (B := 200000) (nI p) (wy_row h hm) 49 0 H _ (wV_0 h hm) (by omega)]
theorem st_soonest (S : hs_S) (n : Nat) (h : Rel S n) (c p : Int32) : stp S 83 [.ref 1, .int c, .int p] 169 [.ref 61, .int c, .int p] := by
  obtain ⟨H, hH, o⟩ := Rel_ok h
  have n8 := r_n8 h
  refine stp_mk (sp_SC_soonest 4 S n H c p o hH) (fun T g => ?_)
  have cc := fun (e : T.2.1 62 = S.2.1 62) => sp_M_soonest 3 T n (kOf S) (pOf S) c p (rowS h e)
  unfold cl_soonest at g ⊢
  unfold ml_soonest at cc
  by_cases h1 : (0 ≤ c ∧ c < nI n) ∧ (0 ≤ p ∧ p < 16)
  · rw [if_pos h1] at g ⊢
    simp only [if_pos h1] at cc
    obtain ⟨m, hm, rfl⟩ := car_of n8 h1.1
    obtain ⟨q, hq, rfl⟩ := p16_of h1.2
    rw [nI_clamp (show m < 2 ^ 31 by omega)] at g cc ⊢
    rw [nI_clamp (show q < 2 ^ 31 by omega)] at cc
    have e := so_eq (p := q) h hm hH o.hr
    by_cases z : soN S m H (nI q) = 49
    · rw [if_pos z] at g ⊢
      have er := row_fd g
      have cc := cc er
      rw [er, e, if_pos z] at cc
      exact end_f h g cc rfl
    · rw [if_neg z] at g ⊢
      have er := row_q g
      have cc := cc er
      rw [er, e, if_neg z] at cc
      exact end_q h g cc rfl
  · rw [if_neg h1] at g ⊢
    simp only [if_neg h1] at cc
    exact end_f h g (cc (row_fd g)) rfl
theorem st_reach (S : hs_S) (n : Nat) (h : Rel S n) (c x : Int32) : stp S 84 [.ref 1, .int c, .int x] 170 [.ref 61, .int c, .int x] := by
  obtain ⟨H, hH, o⟩ := Rel_ok h
  have n8 := r_n8 h
  refine stp_mk (sp_SC_reach 5 S n H c x o hH) (fun T g => ?_)
  have cc := fun (e : T.2.1 62 = S.2.1 62) => sp_M_reach 5 T n (kOf S) (pOf S) c x (rowS h e)
  unfold cl_reach at g ⊢
  unfold ml_reach at cc
  by_cases h1 : (0 ≤ c ∧ c < nI n) ∧ (0 ≤ x ∧ x ≤ 48)
  · rw [if_pos h1] at g ⊢
    simp only [if_pos h1] at cc
    obtain ⟨m, hm, rfl⟩ := car_of n8 h1.1
    obtain ⟨q, hq, rfl⟩ := n48_of h1.2
    rw [nI_clamp (show m < 2 ^ 31 by omega), nI_clamp (show q < 2 ^ 31 by omega)] at g cc ⊢
    have er := row_q g
    have cc := cc er
    rw [er, wmt_r h hm o.hr, ← (it_cong (B := 200000) (wy_row h hm) (wV_0 (H := H) h hm) q (by omega)).1] at cc
    exact end_q h g cc rfl
  · rw [if_neg h1] at g ⊢
    simp only [if_neg h1] at cc
    exact end_f h g (cc (row_fd g)) rfl
/-- the best, with a row of its own -/
theorem bs_eq {S : hs_S} {n m H q k : Nat} {w : Nat → Int32} (h : Rel S n) (hm : m < n) (hH : H ≤ 99999) (hq : q ≤ 48) (hk : k < 6) (w1 : w 1 = nI H) (w2 : w 2 = S.1 11 5) (wa : ∀ j, 1 ≤ j → j ≤ 4 → w (35 + 6 * m + j) = S.1 (15 + m) j) (wp : ∀ p, p < 16 → w (3 + p) = S.2.1 12 p) (wr : ∀ p, p < 16 → w (19 + p) = S.2.1 13 p) (z : Int32) : mbB w m k q z = bsB S m H q k z := by
  obtain ⟨-, -, ⟨c, hc, ec⟩, -, -⟩ := c_rng h hm
  have st := wy_step (sp := 0) (w := w) h hm hk hc w2 ((wa 3 (by omega) (by omega)).trans ec) (wa 4 (by omega) (by omega)) (fun p hp0 => Or.inr ⟨b_0 p, wp p hp0⟩)
  unfold mbB bsB
  rw [wa 4 (by omega) (by omega), wmt_0 (S := S) w1 (wa 1 (by omega) (by omega)) (wa 2 (by omega) (by omega)), ec]
  exact (sk_cong k _ (fun p hp0 => (wr p hp0).symm) st (wV_0 (H := H) h hm) (-1, z) (q + 1) (by omega)).symm
theorem bs_row {S : hs_S} {n m H q : Nat} (h : Rel S n) (hm : m < n) (hH : H ≤ 99999) (eH : S.1 11 4 = nI H) (hq : q ≤ 48) (z : Int32) : mbB (S.2.1 62) m (kOf S m) q z = bsB S m H q (S.2.2.2 (15 + m)) z :=
  bs_eq h hm hH hq (c_rng h hm).1 ((r_1 h).trans eH) (r_2 h) (fun j h1 h2 => r_c h hm (by omega)) (fun p hp0 => r_po h hp0) (fun p hp0 => r_pr h hp0) z
theorem wg_ind (k : Nat) (du : Int32) (pr : Nat → Int32) (t : wT) (hs : Int32) {b b' : Int32 × Int32} (e : b.1 = b'.1) : ∀ p, (wgP k du pr t hs b p = wgP k du pr t hs b' p) ∨ (wgP k du pr t hs b p = b ∧ wgP k du pr t hs b' p = b' ∧ ∀ q, q < p → ¬ t.2.2 &&& ((1 : Int32) <<< (nI q &&& 31)) = 0 → wgV k t.1 du (pr q) ≤ b.1)
  | 0 => Or.inr ⟨rfl, rfl, fun q hq => absurd hq (by omega)⟩
  | p + 1 => by
    have ih := wg_ind k du pr t hs e p
    have f := wgP_fst k du pr t hs e p
    unfold wgP
    by_cases z : t.2.2 &&& ((1 : Int32) <<< (nI p &&& 31)) = 0
    · rw [if_pos z, if_pos z]
      rcases ih with a | ⟨a, c, d⟩
      · exact Or.inl a
      · refine Or.inr ⟨a, c, fun q hq y => ?_⟩
        by_cases eq : q = p
        · subst eq
          exact absurd z y
        · exact d q (by omega) y
    · rw [if_neg z, if_neg z, f]
      by_cases v : wgV k t.1 du (pr p) ≤ (wgP k du pr t hs b' p).1
      · rw [if_pos v, if_pos v]
        rcases ih with a | ⟨a, c, d⟩
        · exact Or.inl a
        · refine Or.inr ⟨a, c, fun q hq y => ?_⟩
          by_cases eq : q = p
          · subst eq
            rw [c, ← e] at v
            exact v
          · exact d q (by omega) y
      · rw [if_neg v, if_neg v]
        exact Or.inl rfl
theorem sk_ind (k : Nat) (du : Int32) (pr : Nat → Int32) (st : wT → wT) (t : wT) {b b' : Int32 × Int32} (e : wgP k du pr t (nI 0) b 16 = wgP k du pr t (nI 0) b' 16) : ∀ j, skB k du pr st t b (j + 1) = skB k du pr st t b' (j + 1)
  | 0 => e
  | j + 1 => by
    have ih := sk_ind k du pr st t e j
    show wgP k du pr (itW st t (j + 1)) (nI (j + 1)) (skB k du pr st t b (j + 1)) 16 = wgP k du pr (itW st t (j + 1)) (nI (j + 1)) (skB k du pr st t b' (j + 1)) 16
    rw [ih]
theorem bs_z {S : hs_S} {n m H q : Nat} (h : Rel S n) (hm : m < n) (z z' : Int32) : bsB S m H q (S.2.2.2 (15 + m)) z = bsB S m H q (S.2.2.2 (15 + m)) z' := by
  obtain ⟨k6, ⟨s, hs, es⟩, -, ⟨d, hd, ed⟩, -⟩ := c_rng h hm
  obtain ⟨ep, hp16⟩ := p_nI h hm
  obtain ⟨v, hv, ev⟩ := pr_rng h hp16
  unfold bsB
  refine sk_ind _ _ _ _ _ ?_ q
  rcases wg_ind (S.2.2.2 (15 + m)) (S.1 (15 + m) 4) (S.2.1 13) (wt0 S m (nI H)) (nI 0) (b := (-1, z)) (b' := (-1, z')) rfl 16 with a | ⟨-, -, a⟩
  · exact a
  · exfalso
    have y : ¬ (wt0 S m (nI H)).2.2 &&& ((1 : Int32) <<< (nI (pOf S m) &&& 31)) = 0 := by
      show ¬ ((1 : Int32) <<< (S.1 (15 + m) 1 &&& 31)) &&& ((1 : Int32) <<< (nI (pOf S m) &&& 31)) = 0
      rw [ep, ab_z _ (by omega), bt_sh1 (by omega) (by omega), decide_eq_true rfl]
      decide
    have l := a (pOf S m) hp16 y
    have g : ∃ u, u < 2 ^ 31 ∧ wgV (S.2.2.2 (15 + m)) (wt0 S m (nI H)).1 (S.1 (15 + m) 4) (S.2.1 13 (pOf S m)) = nI u := by
      show ∃ u, u < 2 ^ 31 ∧ (if S.1 (15 + m) 2 = 0 then 0 else worthF (S.2.2.2 (15 + m)) (S.1 (15 + m) 2) (S.1 (15 + m) 4) (S.2.1 13 (pOf S m))) = nI u
      by_cases z0 : S.1 (15 + m) 2 = 0
      · rw [if_pos z0]
        exact ⟨0, by omega, rfl⟩
      · rw [if_neg z0, es, ed, ev]
        obtain ⟨u, hu, eu⟩ := worth_rng k6 hs hd hv
        exact ⟨u, by omega, eu⟩
    obtain ⟨u, hu, eu⟩ := g
    rw [eu] at l
    have p0 := nI_pos' hu
    exact absurd (Int32.le_trans p0 l) (show ¬ (0 : Int32) ≤ -1 by decide)
theorem st_best (S : hs_S) (n : Nat) (h : Rel S n) (c x : Int32) : stp S 86 [.ref 1, .int c, .int x] 173 [.ref 61, .int c, .int x] := by
  obtain ⟨H, hH, o⟩ := Rel_ok h
  have n8 := r_n8 h
  refine stp_mk (sp_SC_best 4 S n H c x o hH) (fun T g => ?_)
  have cc := fun (e : T.2.1 62 = S.2.1 62) => sp_M_best 4 T n (kOf S) (pOf S) c x (rowS h e)
  unfold cl_best at g ⊢
  unfold ml_best at cc
  by_cases h1 : (0 ≤ c ∧ c < nI n) ∧ (0 ≤ x ∧ x ≤ 48)
  · rw [if_pos h1] at g ⊢
    simp only [if_pos h1] at cc
    obtain ⟨m, hm, rfl⟩ := car_of n8 h1.1
    obtain ⟨q, hq, rfl⟩ := n48_of h1.2
    rw [nI_clamp (show m < 2 ^ 31 by omega), nI_clamp (show q < 2 ^ 31 by omega)] at g cc ⊢
    have er := row_q g
    have cc := cc er
    rw [er, bs_row h hm hH o.hr hq, bs_z h hm _ (S.1 47 6)] at cc
    exact end_q h g cc rfl
  · rw [if_neg h1] at g ⊢
    simp only [if_neg h1] at cc
    exact end_f h g (cc (row_fd g)) rfl
theorem st_where (S : hs_S) (n : Nat) (h : Rel S n) (c x : Int32) : stp S 87 [.ref 1, .int c, .int x] 174 [.ref 61, .int c, .int x] := by
  obtain ⟨H, hH, o⟩ := Rel_ok h
  have n8 := r_n8 h
  refine stp_mk (sp_SC_where 4 S n H c x o hH) (fun T g => ?_)
  have cc := fun (e : T.2.1 62 = S.2.1 62) => sp_M_where 4 T n (kOf S) (pOf S) c x (rowS h e)
  unfold cl_best at g ⊢
  unfold ml_best at cc
  by_cases h1 : (0 ≤ c ∧ c < nI n) ∧ (0 ≤ x ∧ x ≤ 48)
  · rw [if_pos h1] at g ⊢
    simp only [if_pos h1] at cc
    obtain ⟨m, hm, rfl⟩ := car_of n8 h1.1
    obtain ⟨q, hq, rfl⟩ := n48_of h1.2
    rw [nI_clamp (show m < 2 ^ 31 by omega), nI_clamp (show q < 2 ^ 31 by omega)] at g cc ⊢
    have er := row_q g
    have cc := cc er
    rw [er, bs_row h hm hH o.hr hq, bs_z h hm _ (S.1 47 6)] at cc
    exact end_q h g cc rfl
  · rw [if_neg h1] at g ⊢
    simp only [if_neg h1] at cc
    exact end_f h g (cc (row_fd g)) rfl
theorem htF_ge (st : wT → wT) (p : Int32) : ∀ m j t, j ≤ (htF st p m j t).1
  | 0, j, t => Nat.le_refl _
  | m + 1, j, t => by
    unfold htF
    by_cases z : t.2.2 &&& ((1 : Int32) <<< (p &&& 31)) = 0
    · rw [if_pos z]
      exact Nat.le_trans (Nat.le_succ j) (htF_ge st p m (j + 1) (st t))
    · rw [if_neg z]
      exact Nat.le_refl _
theorem htF_fuel (st : wT → wT) (p : Int32) : ∀ e m j t, e ≤ m → ((htF st p e j t).1 < j + e ↔ (htF st p m j t).1 < j + e)
  | 0, m, j, t, _ => by
    have := htF_ge st p m j t
    show j < j + 0 ↔ _
    omega
  | e + 1, 0, j, t, h => by omega
  | e + 1, m + 1, j, t, h => by
    have ih := htF_fuel st p e m (j + 1) (st t) (by omega)
    unfold htF
    by_cases z : t.2.2 &&& ((1 : Int32) <<< (p &&& 31)) = 0
    · rw [if_pos z, if_pos z, show j + (e + 1) = j + 1 + e by omega]
      exact ih
    · rw [if_neg z, if_neg z]
theorem cv_eq {S : hs_S} {n m H p q v : Nat} (h : Rel S n) (hm : m < n) (hH : H ≤ 99999) (eH : S.1 11 4 = nI H) (hq : q ≤ 48) (hv : v ≤ 9) : (cmN (S.2.1 62) m (kOf S m) p q v ≤ q) = (cvN S m H (nI p) (nI v) ≤ q) := by
  have k6 := (c_rng h hm).1
  have st := wy_step (sp := 0) (c := v) (w := upd (S.2.1 62) (35 + 6 * m + 3) (nI v)) h hm k6 hv (by rw [upd_ne _ _ (by omega)]; exact r_2 h) (upd_at _ _ _) (by rw [upd_ne _ _ (by omega)]; exact r_c h hm (by omega)) (fun p hp0 => Or.inr ⟨b_0 p, by rw [upd_ne _ _ (by omega)]; exact r_po h hp0⟩)
  have e0 : wmt (upd (S.2.1 62) (35 + 6 * m + 3) (nI v)) m = wt0 S m (nI H) := wmt_0 (by rw [upd_ne _ _ (by omega)]; exact (r_1 h).trans eH) (by rw [upd_ne _ _ (by omega)]; exact r_c h hm (by omega)) (by rw [upd_ne _ _ (by omega)]; exact r_c h hm (by omega))
  unfold cmN smN cvN
  rw [e0, ht_cong (B := 200000) (nI p) st 49 0 H _ (wV_0 h hm) (by omega)]
  have f := htF_fuel (mws (upd (S.2.1 62) (35 + 6 * m + 3) (nI v)) m (S.2.2.2 (15 + m))) (nI p) (q + 1) 49 0 (wt0 S m (nI H)) (by omega)
  unfold kOf
  apply propext
  omega
theorem cov_all {S T : hs_S} {n m H p q : Nat} (h : Rel S n) (hm : m < n) (hH : H ≤ 99999) (eH : S.1 11 4 = nI H) (hq : q ≤ 48) : ∀ e v, v + e = 10 → (cvF S m H (nI p) q e v = (-1000000004, fdS S 3) ∧ cmA T (cmF (S.2.1 62) m (kOf S m) p q e v) = (-1000000004, fdM T 3)) ∨ ∃ a, cvF S m H (nI p) q e v = (a, S) ∧ cmA T (cmF (S.2.1 62) m (kOf S m) p q e v) = (a, T)
  | 0, v, _ => Or.inl ⟨rfl, rfl⟩
  | e + 1, v, he => by
    have ih := cov_all (T := T) h hm hH eH hq (p := p) e (v + 1) (by omega)
    have c := cv_eq (p := p) (q := q) (v := v) h hm hH eH hq (by omega)
    unfold cvF cmF
    by_cases z : cvN S m H (nI p) (nI v) ≤ q
    · rw [if_pos z, if_pos (by rw [c]; exact z)]
      exact Or.inr ⟨nI v, rfl, rfl⟩
    · rw [if_neg z, if_neg (by rw [c]; exact z)]
      exact ih
theorem st_cover (S : hs_S) (n : Nat) (h : Rel S n) (c p x : Int32) : stp S 85 [.ref 1, .int c, .int p, .int x] 171 [.ref 61, .int c, .int p, .int x] := by
  obtain ⟨H, hH, o⟩ := Rel_ok h
  have n8 := r_n8 h
  refine stp_mk (sp_SC_cover 4 S n H c p x o hH) (fun T g => ?_)
  have cc := fun (e : T.2.1 62 = S.2.1 62) => sp_M_cover 4 T n (kOf S) (pOf S) c p x (rowS h e)
  unfold cl_cover at g ⊢
  unfold ml_cover at cc
  by_cases h1 : (0 ≤ c ∧ c < nI n) ∧ (0 ≤ p ∧ p < 16) ∧ (0 ≤ x ∧ x ≤ 48)
  · rw [if_pos h1] at g ⊢
    simp only [if_pos h1] at cc
    obtain ⟨m, hm, rfl⟩ := car_of n8 h1.1
    obtain ⟨r, hr, rfl⟩ := p16_of h1.2.1
    obtain ⟨q, hq, rfl⟩ := n48_of h1.2.2
    rw [nI_clamp (show m < 2 ^ 31 by omega), nI_clamp (show q < 2 ^ 31 by omega)] at g cc ⊢
    rw [nI_clamp (show r < 2 ^ 31 by omega)] at cc
    rcases cov_all (T := T) (p := r) h hm hH o.hr hq 10 0 (by omega) with ⟨a, b⟩ | ⟨u, a, b⟩
    · rw [a] at g ⊢
      have er := row_fd g
      have cc := cc er
      rw [er, b] at cc
      exact end_f h g cc rfl
    · rw [a] at g ⊢
      have er := row_q g
      have cc := cc er
      rw [er, b] at cc
      exact end_q h g cc rfl
  · rw [if_neg h1] at g ⊢
    simp only [if_neg h1] at cc
    exact end_f h g (cc (row_fd g)) rfl
theorem kd_eq {S : hs_S} {n m H q : Nat} (h : Rel S n) (hm : m < n) (hH : H ≤ 99999) (eH : S.1 11 4 = nI H) (hq : q ≤ 48) : ∀ e k mo bk, k + e = 6 → kmF (S.2.1 62) m q e k mo bk = kdF S m H q e k mo bk
  | 0, _, _, _, _ => rfl
  | e + 1, k, mo, bk, he => by
    have b := bs_eq (w := upd (S.2.1 62) (35 + 6 * m + 0) (nI k)) (q := q) (k := k) h hm hH hq (by omega) (by rw [upd_ne _ _ (by omega)]; exact (r_1 h).trans eH) (by rw [upd_ne _ _ (by omega)]; exact r_2 h) (fun j h1 h2 => by rw [upd_ne _ _ (by omega)]; exact r_c h hm (by omega)) (fun p hp0 => by rw [upd_ne _ _ (by omega)]; exact r_po h hp0) (fun p hp0 => by rw [upd_ne _ _ (by omega)]; exact r_pr h hp0) 0
    have i1 := kd_eq h hm hH eH hq e (k + 1) mo bk (by omega)
    have i2 := kd_eq h hm hH eH hq e (k + 1) (bsB S m H q k 0).1 (nI k) (by omega)
    unfold kmF kdF
    rw [b, i1, i2]
theorem st_kind (S : hs_S) (n : Nat) (h : Rel S n) (c x : Int32) : stp S 89 [.ref 1, .int c, .int x] 176 [.ref 61, .int c, .int x] := by
  obtain ⟨H, hH, o⟩ := Rel_ok h
  have n8 := r_n8 h
  refine stp_mk (sp_SC_kind 4 S n H c x o hH) (fun T g => ?_)
  have cc := fun (e : T.2.1 62 = S.2.1 62) => sp_M_kind 4 T n (kOf S) (pOf S) c x (rowS h e)
  unfold cl_kind at g ⊢
  unfold ml_kind at cc
  by_cases h1 : (0 ≤ c ∧ c < nI n) ∧ (0 ≤ x ∧ x ≤ 48)
  · rw [if_pos h1] at g ⊢
    simp only [if_pos h1] at cc
    obtain ⟨m, hm, rfl⟩ := car_of n8 h1.1
    obtain ⟨q, hq, rfl⟩ := n48_of h1.2
    rw [nI_clamp (show m < 2 ^ 31 by omega), nI_clamp (show q < 2 ^ 31 by omega)] at g cc ⊢
    have er := row_q g
    have cc := cc er
    rw [er, kd_eq h hm hH o.hr hq 6 0 _ _ (by omega)] at cc
    exact end_q h g cc rfl
  · rw [if_neg h1] at g ⊢
    simp only [if_neg h1] at cc
    exact end_f h g (cc (row_fd g)) rfl
/-- the token of a search on both sides -/
def tkn (t t' : Int32) : Prop := (t = -1000000004 ∧ t' = -1) ∨ ∃ r, r ≤ 99 ∧ t = nI r ∧ t' = nI r
theorem po_eq {S : hs_S} {n m H p q : Nat} (h : Rel S n) (hm : m < n) (hH : H ≤ 99999) (eH : S.1 11 4 = nI H) (hq : q < 16) : pmN (S.2.1 62) m (kOf S m) p q = soP S m H (nI p) q := by
  obtain ⟨k6, -, ⟨c, hc, ec⟩, -, -⟩ := c_rng h hm
  have st := wy_step (sp := (1 : Int32) <<< (nI q &&& 31)) (w := upd (S.2.1 62) (3 + q) 0) h hm k6 hc (by rw [upd_ne _ _ (by omega)]; exact r_2 h) (by rw [upd_ne _ _ (by omega)]; exact (r_c h hm (by omega)).trans ec) (by rw [upd_ne _ _ (by omega)]; exact r_c h hm (by omega)) (fun p hp0 => by
    by_cases e : p = q
    · subst e
      exact Or.inl ⟨by rw [bt_sh1 (by omega) (by omega), decide_eq_true rfl], upd_at _ _ _⟩
    · exact Or.inr ⟨by rw [bt_sh1 (by omega) (by omega), decide_eq_false e], by rw [upd_ne _ _ (by omega)]; exact r_po h hp0⟩)
  have e0 : wmt (upd (S.2.1 62) (3 + q) 0) m = wt0 S m (nI H) := wmt_0 (by rw [upd_ne _ _ (by omega)]; exact (r_1 h).trans eH) (by rw [upd_ne _ _ (by omega)]; exact r_c h hm (by omega)) (by rw [upd_ne _ _ (by omega)]; exact r_c h hm (by omega))
  unfold pmN smN soP
  rw [e0, ec, ht_cong (B := 200000) (nI p) st 49 0 H _ (wV_0 h hm) (by omega)]
  rfl
theorem po_all {S : hs_S} {n m H p : Nat} (h : Rel S n) (hm : m < n) (hH : H ≤ 99999) (eH : S.1 11 4 = nI H) : ∀ e q f t t', q + e = 16 → f ≤ soN S m H (nI p) → tkn t t' → ∃ u u', poF S m H (nI p) e q f t = dpE S u ∧ pmF (S.2.1 62) m (kOf S m) p e q f t' = u' ∧ tkn u u'
  | 0, q, f, t, t', _, _, k => ⟨t, t', rfl, rfl, k⟩
  | e + 1, q, f, t, t', hq, hf, k => by
    have i1 := po_all (p := p) h hm hH eH e (q + 1) f t t' (by omega) hf k
    unfold poF pmF
    by_cases z : S.2.1 12 q = 0
    · have ep : pmN (S.2.1 62) m (kOf S m) p q = soN S m H (nI p) := by
        unfold pmN
        rw [fa_upd_same ((r_po h (show q < 16 by omega)).trans z), so_eq h hm hH eH]
      rw [if_pos z, ep, if_pos hf]
      exact i1
    · rw [if_neg z, po_eq h hm hH eH (show q < 16 by omega)]
      by_cases y : f ≤ soP S m H (nI p) q
      · rw [if_pos y, if_pos y]
        exact i1
      · rw [if_neg y, if_neg y]
        exact po_all h hm hH eH e (q + 1) _ _ _ (by omega) (by omega) (Or.inr ⟨q, by omega, rfl, rfl⟩)
theorem tkn_end {S T : hs_S} {n k2 : Nat} {a2 : List Value} {u u' : Int32} (h : Rel S n) (k : tkn u u') (g : jk (dpE S u).2 T) (c : T.2.1 62 = S.2.1 62 → cQ (sx_call 11 k2 a2 (hp T)) (m1A T u')) : ∃ s : Int32 × hs_S, cQ (sx_call 11 k2 a2 (hp T)) s ∧ s.1 = (dpE S u).1 ∧ ∃ n', Rel s.2 n' := by
  rcases k with ⟨rfl, rfl⟩ | ⟨r, hr, rfl, rfl⟩
  · exact end_f h g (c (row_fd g)) rfl
  · have ne : ¬ nI r = -1000000004 := fun z => by
      have := nI_pos' (show r < 2 ^ 31 by omega)
      rw [z] at this
      exact absurd this (by decide)
    have e1 : dpE S (nI r) = (nI r, S) := if_neg ne
    rw [e1] at g ⊢
    exact end_q h g (c (row_q g)) (if_pos (nI_pos' (show r < 2 ^ 31 by omega)))
theorem st_post (S : hs_S) (n : Nat) (h : Rel S n) (c p : Int32) : stp S 88 [.ref 1, .int c, .int p] 175 [.ref 61, .int c, .int p] := by
  obtain ⟨H, hH, o⟩ := Rel_ok h
  have n8 := r_n8 h
  refine stp_mk (sp_SC_post 4 S n H c p o hH) (fun T g => ?_)
  have cc := fun (e : T.2.1 62 = S.2.1 62) => sp_M_post 3 T n (kOf S) (pOf S) c p (rowS h e)
  unfold cl_post at g ⊢
  unfold ml_post at cc
  by_cases h1 : (0 ≤ c ∧ c < nI n) ∧ (0 ≤ p ∧ p < 16)
  · rw [if_pos h1] at g ⊢
    simp only [if_pos h1] at cc
    obtain ⟨m, hm, rfl⟩ := car_of n8 h1.1
    obtain ⟨q, hq, rfl⟩ := p16_of h1.2
    rw [nI_clamp (show m < 2 ^ 31 by omega)] at g cc ⊢
    rw [nI_clamp (show q < 2 ^ 31 by omega)] at cc
    obtain ⟨u, u', a, b, k⟩ := po_all (p := q) h hm hH o.hr 16 0 (soN S m H (nI q)) (-1000000004) (-1) (by omega) (Nat.le_refl _) (Or.inl ⟨rfl, rfl⟩)
    rw [a] at g ⊢
    refine tkn_end h k g (fun er => ?_)
    have cc := cc er
    rw [er, so_eq h hm hH o.hr, b] at cc
    exact cc
  · rw [if_neg h1] at g ⊢
    simp only [if_neg h1] at cc
    exact end_f h g (cc (row_fd g)) rfl
