/-! THE STEPS: of, now, sell, hours, on, found, firstFound -/
theorem st_now (S : hs_S) (n : Nat) (h : Rel S n) (w : Int32) : stp S 79 [.ref 1, .int w] 158 [.ref 61, .int w] := by
  obtain ⟨H, hH, o⟩ := Rel_ok h
  have n8 := r_n8 h
  have x0 : 0 ≤ S.1 11 4 := by rw [o.hr]; exact nI_pos' (by omega)
  refine stp_mk (cQ_1 (sp_SC_now 8 S n w (r_n8 h) (r_n h) x0)) (fun T g => ?_)
  have c := fun e => cQ_1 (sp_M_now 7 T n w (r_n8 h) e)
  unfold cl_now at g ⊢
  unfold ml_now at c
  by_cases h0 : w = 0
  · rw [if_pos h0] at g ⊢
    simp only [if_pos h0] at c
    rw [row_q g] at c
    exact end_q h g (c (r_0 h)) (by rw [r_1 h])
  · rw [if_neg h0] at g ⊢
    simp only [if_neg h0] at c
    by_cases h1 : w = 1
    · rw [if_pos h1] at g ⊢
      simp only [if_pos h1] at c
      rw [row_q g] at c
      exact end_q h g (c (r_0 h)) (by rw [r_1 h])
    · rw [if_neg h1] at g ⊢
      simp only [if_neg h1] at c
      by_cases h2 : w = 2
      · rw [if_pos h2] at g ⊢
        simp only [if_pos h2] at c
        rw [row_q g] at c
        exact end_q h g (c (r_0 h)) (by rw [r_2 h])
      · rw [if_neg h2] at g ⊢
        simp only [if_neg h2] at c
        by_cases h3 : w = 3
        · rw [if_pos h3] at g ⊢
          simp only [if_pos h3] at c
          rw [row_q g] at c
          exact end_q h g (c (r_0 h)) (by rw [smF_cong (fun i hi => r_c h hi (by omega))])
        · rw [if_neg h3] at g ⊢
          simp only [if_neg h3] at c
          by_cases h4 : w = 4
          · rw [if_pos h4] at g ⊢
            simp only [if_pos h4] at c
            rw [row_q g] at c
            exact end_q h g (c (r_0 h)) (by rw [smF_cong (fun i hi => r_c h hi (by omega))])
          · rw [if_neg h4] at g ⊢
            simp only [if_neg h4] at c
            by_cases h5 : w = 5
            · rw [if_pos h5] at g ⊢
              simp only [if_pos h5] at c
              rw [row_q g] at c
              exact end_q h g (c (r_0 h)) (by rw [orF_cong (fun i hi => by rw [r_c h hi (by omega)])])
            · rw [if_neg h5] at g ⊢
              simp only [if_neg h5] at c
              by_cases h6 : w = 6
              · rw [if_pos h6] at g ⊢
                simp only [if_pos h6] at c
                rw [row_q g] at c
                exact end_q h g (c (r_0 h)) (by rw [orF_cong (fun i hi => by rw [r_po h hi])])
              · rw [if_neg h6] at g ⊢
                simp only [if_neg h6] at c
                rw [row_fd g] at c
                exact end_f h g (c (r_0 h)) rfl
theorem st_of (S : hs_S) (n : Nat) (h : Rel S n) (c w : Int32) : stp S 72 [.ref 1, .int c, .int w] 145 [.ref 61, .int c, .int w] := by
  obtain ⟨H, hH, o⟩ := Rel_ok h
  have n8 := r_n8 h
  have x0 : 0 ≤ S.1 11 4 := by rw [o.hr]; exact nI_pos' (by omega)
  refine stp_mk (cQ_1 (sp_SC_of 5 S n c w (r_n8 h) (r_n h) (Rel_car h) x0)) (fun T g => ?_)
  have cc := fun (e : T.2.1 62 = S.2.1 62) => cQ_1 (sp_M_of 5 T n (kOf S) (pOf S) c w (r_n8 h) (row_T h e).2.1 (row_T h e).2.2)
  unfold cl_of at g ⊢
  unfold ml_of at cc
  by_cases h1 : 0 ≤ c ∧ c < nI n
  · rw [if_pos h1] at g ⊢
    simp only [if_pos h1] at cc
    obtain ⟨m, hm, rfl⟩ := car_of n8 h1
    rw [nI_clamp (show m < 2 ^ 31 by omega)] at g cc ⊢
    obtain ⟨ep, hp16⟩ := p_nI h hm
    obtain ⟨k6, ⟨sh, hsh, esh⟩, -, -, -⟩ := c_rng h hm
    by_cases h2 : 0 ≤ w ∧ w ≤ 9
    · simp only [if_pos h2] at cc
      obtain ⟨q, hq, rfl⟩ := n9_of h2
      have ne : ∀ a b : Nat, a < 100 → b < 100 → a ≠ b → ¬ nI a = nI b := fun a b ha hb hn z => hn ((nI_eq (by omega) (by omega)).mp z)
      have fin : ∀ (a : Int32) (f : (Nat → Int32) → Int32), (cl_of S n (nI m) (nI q)) = (a, S) → f (S.2.1 62) = a → True := fun _ _ _ _ => trivial
      rcases (show q = 0 ∨ q = 1 ∨ q = 2 ∨ q = 3 ∨ q = 4 ∨ q = 5 ∨ q = 6 ∨ q = 7 ∨ q = 8 ∨ q = 9 by omega) with rfl | rfl | rfl | rfl | rfl | rfl | rfl | rfl | rfl | rfl
      · have e : (T.2.1 62 = S.2.1 62) := row_q g
        have c3 := cc e
        rw [e] at c3
        exact end_q h g c3 (by show (S.2.1 62 (35 + 6 * m + 0), T) = _; rw [r_k h hm]; rfl)
      · have e : (T.2.1 62 = S.2.1 62) := row_q g
        have c3 := cc e
        rw [e] at c3
        exact end_q h g c3 (by show (S.2.1 62 (35 + 6 * m + 1), T) = _; rw [r_c h hm (by omega)]; rfl)
      · have e : (T.2.1 62 = S.2.1 62) := row_q g
        have c3 := cc e
        rw [e] at c3
        exact end_q h g c3 (by show (S.2.1 62 (35 + 6 * m + 2), T) = _; rw [r_c h hm (by omega)]; rfl)
      · have e : (T.2.1 62 = S.2.1 62) := row_q g
        have c3 := cc e
        rw [e] at c3
        exact end_q h g c3 (by show (S.2.1 62 (35 + 6 * m + 3), T) = _; rw [r_c h hm (by omega)]; rfl)
      · have e : (T.2.1 62 = S.2.1 62) := row_q g
        have c3 := cc e
        rw [e] at c3
        exact end_q h g c3 (by show (S.2.1 62 (35 + 6 * m + 4), T) = _; rw [r_c h hm (by omega)]; rfl)
      · have e : (T.2.1 62 = S.2.1 62) := row_q g
        have c3 := cc e
        rw [e] at c3
        exact end_q h g c3 (by show (S.2.1 62 (35 + 6 * m + 5), T) = _; rw [r_c h hm (by omega)]; rfl)
      · have e : (T.2.1 62 = S.2.1 62) := row_q g
        have c3 := cc e
        rw [e] at c3
        exact end_q h g c3 (by show (coolF (kOf S m) (S.2.1 62 (35 + 6 * m + 2)) (S.2.1 62 (35 + 6 * m + 4)) (S.2.1 62 1), T) = _; rw [r_c h hm (by omega), r_c h hm (by omega), r_1 h]; rfl)
      · have e : (T.2.1 62 = S.2.1 62) := row_q g
        have c3 := cc e
        rw [e] at c3
        exact end_q h g c3 (by show (fadeF (kOf S m) (S.2.1 62 (35 + 6 * m + 4)) (hT (S.2.1 62 1)), T) = _; rw [r_c h hm (by omega), r_1 h]; rfl)
      · have e : (T.2.1 62 = S.2.1 62) := row_q g
        have c3 := cc e
        rw [e] at c3
        exact end_q h g c3 (by show (worthF (kOf S m) (S.2.1 62 (35 + 6 * m + 2)) (S.2.1 62 (35 + 6 * m + 4)) (S.2.1 62 (19 + pOf S m)), T) = _; rw [r_c h hm (by omega), r_c h hm (by omega), r_pr h hp16]; rfl)
      · have e : (T.2.1 62 = S.2.1 62) := row_q g
        have c3 := cc e
        rw [e] at c3
        refine end_q h g c3 ?_
        show (bI (fmB (S.2.1 62 2) (S.2.1 62 (3 + pOf S m)) (kOf S m) (S.2.1 62 (35 + 6 * m + 2)) (S.2.1 62 (35 + 6 * m + 3)) (S.2.1 62 (35 + 6 * m + 4)) (S.2.1 62 1) = true), T) = (bI (fdB (S.1 11 5) (S.2.1 12) (S.2.2.2 (15 + m)) (S.1 (15 + m) 1) (S.1 (15 + m) 2) (S.1 (15 + m) 3) (S.1 (15 + m) 4) (S.1 11 4) = true), T)
        have fe := f_eq (s := sh) (X := H) h hm hp16 hsh (by omega)
        rw [r_c h hm (show 1 ≤ 2 ∧ 2 ≤ 5 by omega), r_1 h, o.hr, esh, ep, fe]
        rfl
    · simp only [if_neg h2] at cc
      have nw : ∀ q, q ≤ 9 → ¬ w = nI q := fun q hq z => h2 (by
        subst z
        exact ⟨nI_pos' (by omega), nI_le (b := 9) hq (by omega)⟩)
      rw [if_neg (show ¬ w = 0 from nw 0 (by omega)), if_neg (show ¬ w = 1 from nw 1 (by omega)), if_neg (show ¬ w = 2 from nw 2 (by omega)), if_neg (show ¬ w = 3 from nw 3 (by omega)), if_neg (show ¬ w = 4 from nw 4 (by omega)), if_neg (show ¬ w = 5 from nw 5 (by omega)), if_neg (show ¬ w = 6 from nw 6 (by omega)), if_neg (show ¬ w = 7 from nw 7 (by omega)), if_neg (show ¬ w = 8 from nw 8 (by omega)), if_neg (show ¬ w = 9 from nw 9 (by omega))] at g ⊢
      exact end_f h g (cc (row_fd g)) rfl
  · rw [if_neg h1] at g ⊢
    simp only [if_neg h1] at cc
    exact end_f h g (cc (row_fd g)) rfl
theorem mulI {a b : Nat} : nI a * nI b = nI (a * b) := nI_mu a b
theorem worth_rng {k s d p : Nat} (hk : k < 6) (hs : s ≤ 99) (hd : d ≤ 9) (hp0 : p ≤ 99) : ∃ v, v ≤ 20000 ∧ worthF k (nI s) (nI d) (nI p) = nI v := by
  have m1 : s * p ≤ 99 * 99 := Nat.mul_le_mul hs hp0
  have m2 : p * d ≤ 99 * 9 := Nat.mul_le_mul hp0 hd
  unfold worthF
  rcases lt6 hk with rfl | rfl | rfl | rfl | rfl | rfl
  · exact ⟨s * p, by omega, nI_mu s p⟩
  · exact ⟨s * p, by omega, nI_mu s p⟩
  · refine ⟨s * p + p * d, by omega, ?_⟩
    show nI s * nI p + nI p * nI d = _
    rw [nI_mu, nI_mu, nI_ad]
  · refine ⟨s * p / 2, by omega, ?_⟩
    show nI s * nI p / nI 2 = _
    rw [nI_mu, pk_div (by omega) (by omega) (by omega)]
  · show ∃ v, v ≤ 20000 ∧ (if 30 ≤ nI s then nI s * nI p + nI 50 else nI s * nI p) = nI v
    by_cases z : 30 ≤ nI s
    · rw [if_pos z, nI_mu, nI_ad]
      exact ⟨_, by omega, rfl⟩
    · rw [if_neg z, nI_mu]
      exact ⟨_, by omega, rfl⟩
  · exact ⟨0, by omega, rfl⟩
theorem st_sell (S : hs_S) (n : Nat) (h : Rel S n) (c : Int32) : stp S 77 [.ref 1, .int c] 151 [.ref 61, .int c] := by
  have n8 := r_n8 h
  refine stp_mk (cQ_1 (sp_SC_sell 7 S n c (r_n8 h) (r_n h) (Rel_car h))) (fun T g => ?_)
  have cc := fun (e : T.2.1 62 = S.2.1 62) => cQ_1 (sp_M_sell 6 T n (kOf S) (pOf S) c (r_n8 h) (row_T h e).2.1 (row_T h e).2.2)
  unfold cl_sell at g ⊢
  unfold ml_sell at cc
  by_cases h1 : 0 ≤ c ∧ c < nI n
  · rw [if_pos h1] at g ⊢
    simp only [if_pos h1] at cc
    obtain ⟨m, hm, rfl⟩ := car_of n8 h1
    rw [nI_clamp (show m < 2 ^ 31 by omega)] at g cc ⊢
    obtain ⟨ep, hp16⟩ := p_nI h hm
    obtain ⟨k6, ⟨sh, hsh, esh⟩, -, ⟨du, hdu, edu⟩, ⟨ca, hca, eca⟩⟩ := c_rng h hm
    obtain ⟨pr, hpr, epr⟩ := pr_rng h hp16
    by_cases h2 : S.1 (15 + m) 2 = 0
    · rw [if_pos h2] at g ⊢
      have e := row_fd g
      have h2' : T.2.1 62 (35 + 6 * m + 2) = 0 := by rw [e, r_c h hm (by omega)]; exact h2
      simp only [if_pos h2'] at cc
      exact end_f h g (cc e) rfl
    · rw [if_neg h2] at g ⊢
      have e : T.2.1 62 = S.2.1 62 := g.2.1 62 rfl
      have h2' : ¬ T.2.1 62 (35 + 6 * m + 2) = 0 := by rw [e, r_c h hm (by omega)]; exact h2
      simp only [if_neg h2'] at cc
      have cc := cc e
      have ev : vlN T m (kOf S m) (pOf S m) = worthF (S.2.2.2 (15 + m)) (S.1 (15 + m) 2) (S.1 (15 + m) 4) (S.2.1 13 (S.1 (15 + m) 1).toNatClampNeg) := by
        unfold vlN
        rw [e, r_c h hm (by omega), r_c h hm (by omega), r_pr h hp16]
        rfl
      obtain ⟨v, hv, ew⟩ := worth_rng k6 hsh hdu hpr
      have ew2 : worthF (S.2.2.2 (15 + m)) (S.1 (15 + m) 2) (S.1 (15 + m) 4) (S.2.1 13 (S.1 (15 + m) 1).toNatClampNeg) = nI v := by
        rw [esh, edu, ep, nI_clamp (show pOf S m < 2 ^ 31 by omega), epr]
        exact ew
      rw [ev, e, r_c h hm (show 1 ≤ 5 ∧ 5 ≤ 5 by omega)] at cc
      rw [ew2] at g cc ⊢
      have ecash : (if S.1 (15 + m) 5 + nI v ≤ 999999 then S.1 (15 + m) 5 + nI v else 999999) = (if S.1 (15 + m) 5 + nI v < 999999 then S.1 (15 + m) 5 + nI v else 999999) := by
        rw [eca, nI_ad]
        by_cases z : nI (ca + v) < 999999
        · rw [if_pos z, if_pos (Int32.le_of_lt z)]
        · rw [if_neg z]
          by_cases y : nI (ca + v) ≤ 999999
          · rw [if_pos y]
            exact Int32.le_antisymm y (Int32.not_lt.mp z)
          · rw [if_neg y]
      rw [ecash] at cc
      have rg : ∃ u, u ≤ 999999 ∧ (if S.1 (15 + m) 5 + nI v < 999999 then S.1 (15 + m) 5 + nI v else 999999) = nI u := by
        rw [eca, nI_ad]
        by_cases z : nI (ca + v) < 999999
        · rw [if_pos z]
          exact ⟨ca + v, Nat.le_of_lt (Nat.lt_of_not_le fun y => Int32.not_lt.mpr (nI_le (a := 999999) y (by omega)) z), rfl⟩
        · rw [if_neg z]
          exact ⟨999999, by omega, rfl⟩
      obtain ⟨u, hu, eu⟩ := rg
      rw [eu] at g cc ⊢
      refine ⟨_, cc, rfl, n, ?_⟩
      have l1 := LL_car (c := m) (k := 2) (v := 0) h.1 hm (by omega) ⟨fun z => by omega, fun _ => ⟨0, by omega, rfl⟩, fun z => by omega, fun z => by omega, fun z => by omega⟩
      have l2 := LL_car (c := m) (k := 5) (v := nI u) l1 hm (by omega) ⟨fun z => by omega, fun z => by omega, fun z => by omega, fun z => by omega, fun _ => ⟨u, hu, rfl⟩⟩
      rw [fa_upd_swap _ (by omega)] at l2
      exact fin_row h (jo_uF (jo_uF (jo_refl S) (by omega) _) (by omega) _) l2 g
  · rw [if_neg h1] at g ⊢
    simp only [if_neg h1] at cc
    exact end_f h g (cc (row_fd g)) rfl
theorem rowS {S T : hs_S} {n : Nat} (h : Rel S n) (e : T.2.1 62 = S.2.1 62) : rG (T.2.1 62) n (kOf S) (pOf S) := row_T h e
theorem st_hours (S : hs_S) (n : Nat) (h : Rel S n) (x : Int32) : stp S 78 [.ref 1, .int x] 155 [.ref 61, .int x] := by
  obtain ⟨H, hH, o⟩ := Rel_ok h
  have n8 := r_n8 h
  refine stp_mk (cQ_1 (sp_SC_hours 3 S n H x o hH)) (fun T g => ?_)
  have cc := fun (e : T.2.1 62 = S.2.1 62) => sp_M_hours 3 T n (kOf S) (pOf S) x (rowS h e)
  unfold cl_hours at g ⊢
  unfold ml_hours at cc
  by_cases h1 : 1 ≤ x ∧ x ≤ 60
  · rw [if_pos h1] at g ⊢
    simp only [if_pos h1] at cc
    by_cases h2 : S.1 11 4 + x ≤ 99999
    · rw [if_pos h2] at g ⊢
      have e : T.2.1 62 = S.2.1 62 := by
        have := g.2.1 62 rfl
        rw [this]
        show (hrK S n x.toNatClampNeg).2.1 62 = _
        rw [(hr_all (n := n) o.hr _).2.2.1]
      have h2' : T.2.1 62 1 + x ≤ 99999 := by rw [e, r_1 h]; exact h2
      simp only [if_pos h2'] at cc
      have cc := cc e
      obtain ⟨q, hq, rfl⟩ := n60_of ⟨Int32.le_trans (show (0 : Int32) ≤ 1 by decide) h1.1, h1.2⟩
      rw [nI_clamp (show q < 2 ^ 31 by omega)] at g cc ⊢
      rw [e] at cc
      obtain ⟨i1, i2⟩ := it_all h hH o.hr q (by omega)
      obtain ⟨a1, a2, a3, a4, a5⟩ := hr_all (n := n) o.hr q
      have hq9 : H + q ≤ 99999 := by
        rw [o.hr, nI_ad] at h2
        exact Nat.le_of_not_lt fun z => nI_ge (a := 99999) z (by omega) h2
      refine ⟨_, cc, ?_, n, ?_⟩
      · exact smF_cong (fun i hi => by rw [(i2 i hi).1, a5 i hi])
      · have j0 : jo S (hrK S n q) := by
          refine ⟨fun b k eo => ?_, fun b _ => by rw [a3], fun b _ => by rw [a3], fun b _ => by rw [a3]⟩
          have nb : ¬ (11 ≤ b ∧ b < 23) := fun z => by
            rw [oF_11 z] at eo
            cases eo
          by_cases k2 : k = 2
          · subst k2
            exact a4 b (by omega)
          · exact a2 b k k2 (by omega)
        have l : LL (hrK S n q) 11 n (mIt (S.2.1 62) (kOf S) (pOf S) n q) := by
          obtain ⟨⟨b1, b2, b3, b4, b5, b6, b7⟩, r0, r1, r2, r3, r4, r5⟩ := h.1
          have oo := fun i (hi : i ≠ 1) (hi2 : i < 35 ∨ (i - 35) % 6 ≠ 2 ∨ 35 + 6 * n ≤ i) => mIt_off (S.2.1 62) (kOf S) (pOf S) n hi hi2 q
          refine ⟨⟨b1, by rw [a2 11 3 (by decide) (by decide)]; exact b2, ⟨H + q, hq9, a1⟩, by rw [a2 11 5 (by decide) (by decide)]; exact b4, by rw [a3]; exact b5, by rw [a3]; exact b6, fun c' hc' => ?_⟩, by rw [oo 0 (by decide) (by omega)]; exact r0, by rw [i1]; exact a1.symm, by rw [oo 2 (by decide) (by omega), a2 11 5 (by decide) (by decide)]; exact r2, fun p hp0 => by rw [oo _ (by omega) (by omega), a3]; exact r3 p hp0, fun p hp0 => by rw [oo _ (by omega) (by omega), a3]; exact r4 p hp0, fun c' hc' => ⟨by rw [oo _ (by omega) (by omega), a3]; exact (r5 c' hc').1, fun qq q1 q5 => ?_⟩⟩
          · have cb := b7 c' hc'
            obtain ⟨c0, c1, c2, c3, c4, c5⟩ := cb
            refine ⟨by rw [a3]; exact c0, ?_, ?_, ?_, ?_, ?_⟩
            · rw [a2 _ 1 (by decide) (by omega)]; exact c1
            · have := a5 c' hc'
              have e2 : (hrK S n q).1 (11 + 4 + c') 2 = hsI S c' H q := this
              rw [e2]
              exact hs_rng h hc' hH q (by omega)
            · rw [a2 _ 3 (by decide) (by omega)]; exact c3
            · rw [a2 _ 4 (by decide) (by omega)]; exact c4
            · rw [a2 _ 5 (by decide) (by omega)]; exact c5
          · by_cases k2 : qq = 2
            · subst k2
              rw [(i2 c' hc').1]
              exact (a5 c' hc').symm
            · rw [oo _ (by omega) (by omega), a2 _ qq k2 (by omega)]
              exact (r5 c' hc').2 qq q1 q5
        exact fin_row h j0 l g
    · rw [if_neg h2] at g ⊢
      have e := row_fd g
      have h2' : ¬ T.2.1 62 1 + x ≤ 99999 := by rw [e, r_1 h]; exact h2
      simp only [if_neg h2'] at cc
      exact end_f h g (cc e) rfl
  · rw [if_neg h1] at g ⊢
    simp only [if_neg h1] at cc
    exact end_f h g (cc (row_fd g)) rfl
theorem st_on (S : hs_S) (n : Nat) (h : Rel S n) (c x : Int32) : stp S 80 [.ref 1, .int c, .int x] 159 [.ref 61, .int c, .int x] := by
  obtain ⟨H, hH, o⟩ := Rel_ok h
  have n8 := r_n8 h
  have cl := cQ_1 (sp_SC_on 4 S n H c x o hH)
  unfold cl_on at cl
  by_cases h1 : (0 ≤ c ∧ c < nI n) ∧ (0 ≤ x ∧ x ≤ 60)
  · rw [if_pos h1] at cl
    refine stp_mk cl (fun T g => ?_)
    have g0 : jk S T := jk_trans (gh_all S _ H _).1 g
    have e := row_q g0
    have cc := sp_M_on 3 T n (kOf S) (pOf S) c x (rowS h e)
    unfold ml_on at cc
    rw [if_pos h1] at cc
    obtain ⟨m, hm, rfl⟩ := car_of n8 h1.1
    obtain ⟨q, hq, rfl⟩ := n60_of h1.2
    rw [nI_clamp (show m < 2 ^ 31 by omega), nI_clamp (show q < 2 ^ 31 by omega)] at cc ⊢
    rw [e] at cc
    refine end_q h g0 cc ?_
    rw [((it_all h hH o.hr q (by omega)).2 m hm).1]
    have := (gh_all S m H q).2.2.2.1
    show (hsI S m H q, T) = ((ghK (ghT S m) H q).1 50 2, T)
    rw [this]
  · rw [if_neg h1] at cl
    refine stp_mk cl (fun T g => ?_)
    have cc := sp_M_on 3 T n (kOf S) (pOf S) c x (rowS h (row_fd g))
    unfold ml_on at cc
    rw [if_neg h1] at cc
    exact end_f h g cc rfl
