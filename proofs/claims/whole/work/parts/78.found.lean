/-! FOUND on both sides; an hour on both sides -/
def fdN (k d h : Nat) : Nat := if k = 2 ∨ k = 5 then (if 4 < d then h / 6 + 1 else h / 6) else if k = 3 then h / 6 + 1 else if k = 4 then h / 6 - 1 else h / 6
theorem fade_N : ∀ k, k < 6 → ∀ d, d < 10 → ∀ h, h < 13 → fadeF k (nI d) (nI h) = nI (fdN k d h) := by decide +kernel
theorem fdN_le : ∀ k, k < 6 → ∀ d, d < 10 → ∀ h, h < 13 → fdN k d h ≤ 3 := by decide +kernel
theorem mx_N : ∀ s, s < 100 → ∀ f, f < 10 → mx0 (nI s - nI f) = nI (s - f) := by decide +kernel
theorem q4_N : ∀ s, s < 100 → nI s / 4 = nI (s / 4) ∧ nI s / 4 / 2 = nI (s / 4 / 2) ∧ nI s / 2 = nI (s / 2) ∧ mx0 (nI s / 4 / 2 - 2) = nI (s / 4 / 2 - 2) := by decide +kernel
theorem heat_r : ∀ r, r < 24 → 12 - (if 0 ≤ nI r - 12 then nI r - 12 else -(nI r - 12)) = nI (if r < 12 then r else 24 - r) := by decide +kernel
def htN (X : Nat) : Nat := if X % 24 < 12 then X % 24 else 24 - X % 24
theorem htN_le (X : Nat) : htN X ≤ 12 := by
  unfold htN
  split <;> omega
theorem heat_N {X : Nat} (h : X < 2 ^ 31) : hT (nI X) = nI (htN X) := by
  have e24 : (24 : Int32) = nI 24 := rfl
  unfold hT
  rw [e24, pk_rem h (by omega) (by omega), heat_r (X % 24) (by omega)]
  rfl
theorem h3_N : ∀ h, h < 13 → nI h / 3 = nI (h / 3) := by decide +kernel
theorem cool_N {k s d : Nat} (hk : k < 6) (hs : s ≤ 99) (hd : d ≤ 9) (x : Int32) : ∃ c, c ≤ 49 ∧ coolF k (nI s) (nI d) x = nI c := by
  obtain ⟨a1, a2, a3, a4⟩ := q4_N s (by omega)
  have a5 : mx0 (nI s / 4 - nI d) = nI (s / 4 - d) := by
    rw [a1]
    exact mx_N (s / 4) (by omega) d (by omega)
  unfold coolF
  rcases lt6 hk with rfl | rfl | rfl | rfl | rfl | rfl
  · exact ⟨s / 4, by omega, a1⟩
  · exact ⟨s / 4 / 2, by omega, a2⟩
  · exact ⟨s / 4 - d, by omega, a5⟩
  · exact ⟨s / 2, by omega, a3⟩
  · exact ⟨s / 4 / 2 - 2, by omega, a4⟩
  · show ∃ c, c ≤ 49 ∧ (if x - x / 7 * 7 = 0 then 0 else mx0 (nI s / 4 - nI d)) = nI c
    by_cases z : x - x / 7 * 7 = 0
    · rw [if_pos z]
      exact ⟨0, by omega, rfl⟩
    · rw [if_neg z]
      exact ⟨s / 4 - d, by omega, a5⟩
theorem s1_N {k s d X : Nat} (hk : k < 6) (hs : s ≤ 99) (hd : d ≤ 9) (hX : X < 2 ^ 31) : ∃ u, u ≤ s ∧ s1P k (nI d) (nI s) (nI X) = nI u := by
  have l := htN_le X
  have f3 := fdN_le k hk d (by omega) (htN X) (by omega)
  refine ⟨s - fdN k d (htN X), by omega, ?_⟩
  unfold s1P
  rw [heat_N hX, fade_N k hk d (by omega) (htN X) (by omega)]
  exact mx_N s (by omega) _ (by omega)
/-- found, as the class says it and as the model says it -/
theorem fd_fm {cl : Int32} {po : Nat → Int32} {k p s c d X v : Nat} (hk : k < 6) (hp0 : p < 16) (hs : s ≤ 99) (hc : c ≤ 9) (hd : d ≤ 9) (hX : X < 2 ^ 31) (hv : v ≤ 9) (ev : po p = nI v) : fdB cl po k (nI p) (nI s) (nI c) (nI d) (nI X) = fmB cl (nI v) k (nI s) (nI c) (nI d) (nI X) := by
  obtain ⟨q, hq, eq⟩ := cool_N hk hs hd (nI X)
  have l := htN_le X
  unfold fdB fmB lpF
  rw [nI_clamp (show p < 2 ^ 31 by omega), ev, eq, heat_N hX, h3_N (htN X) (by omega)]
  generalize ht : htN X / 3 = t
  have t4 : t ≤ 4 := by omega
  have T : ∀ n : Nat, n < 2 ^ 31 → (nI n).toInt = (n : Int) := fun n h => nI_toInt h
  have e9 : (9 : Int32) = nI 9 := rfl
  have e1 : (9 + nI c - nI q - nI t + 1).toInt = 10 + c - q - t := by
    have a1 : (9 + nI c).toInt = 9 + c := by rw [e9, nI_ad, T _ (by omega)]; omega
    have a2 : (9 + nI c - nI q).toInt = 9 + c - q := by rw [fb_subI (by rw [a1, T _ (by omega)]; omega) (by rw [a1, T _ (by omega)]; omega), a1, T _ (by omega)]
    have a3 : (9 + nI c - nI q - nI t).toInt = 9 + c - q - t := by rw [fb_subI (by rw [a2, T _ (by omega)]; omega) (by rw [a2, T _ (by omega)]; omega), a2, T _ (by omega)]
    have o1 : (1 : Int32).toInt = 1 := by decide
    rw [fb_addI (by rw [a3, o1]; omega) (by rw [a3, o1]; omega), a3, o1]
    omega
  have e2 : (nI q + nI t + nI v).toInt = q + t + v := by rw [nI_ad, nI_ad, T _ (by omega)]; omega
  have e3 : (9 + nI c).toInt = 9 + c := by rw [e9, nI_ad, T _ (by omega)]; omega
  have o10 : (10 : Int32).toInt = 10 := by decide
  have o1 : (1 : Int32).toInt = 1 := by decide
  have o0 : (0 : Int32).toInt = 0 := by decide
  generalize 9 + nI c - nI q - nI t + 1 = M at e1
  by_cases hcl : cl = 0
  · rw [decide_eq_true hcl, Bool.true_and, Bool.true_and]
    by_cases hs0 : nI s = 0
    · rw [if_pos hs0]
      have n1 : ¬ (10 : Int32) ≤ nI v := nI_ge (a := v) (b := 10) (by omega) (by omega)
      have n2 : ¬ (0 : Int32) < nI s := by rw [hs0]; decide
      rw [decide_eq_false n1, decide_eq_false n2]
      simp
    · rw [if_neg hs0]
      have p2 : (0 : Int32) < nI s := by
        rw [fa_lt, o0, T s (by omega)]
        rw [fa_eq, o0, T s (by omega)] at hs0
        omega
      rw [decide_eq_true p2, Bool.true_and]
      rw [← Bool.decide_and]
      apply decide_eq_decide.mpr
      rw [fa_lt 0, fa_lt (9 + nI c), e2, e3, o0, T v (by omega)]
      by_cases m1 : M < 10
      · rw [if_pos m1]
        by_cases m2 : 1 < M
        · rw [if_pos m2, fa_le, e1, T v (by omega)]
          rw [fa_lt, o1, e1] at m2
          omega
        · rw [if_neg m2, fa_le, o1, T v (by omega)]
          rw [fa_lt, o1, e1] at m2
          omega
      · rw [if_neg m1, if_pos (show (1 : Int32) < 10 by decide), fa_le, o10, T v (by omega)]
        rw [fa_lt, o10, e1] at m1
        omega
  · rw [decide_eq_false hcl]
    simp
/-- a carrier's numbers, out of the relation -/
theorem c_rng {S : hs_S} {n c : Nat} (h : Rel S n) (hc : c < n) : S.2.2.2 (15 + c) < 6 ∧ (∃ v, v ≤ 99 ∧ S.1 (15 + c) 2 = nI v) ∧ (∃ v, v ≤ 9 ∧ S.1 (15 + c) 3 = nI v) ∧ (∃ v, v ≤ 9 ∧ S.1 (15 + c) 4 = nI v) ∧ (∃ v, v ≤ 999999 ∧ S.1 (15 + c) 5 = nI v) := by
  obtain ⟨a, b, c', d, e, f⟩ := h.1.1.2.2.2.2.2.2 c hc
  exact ⟨a, c', d, e, f⟩
theorem po_rng {S : hs_S} {n p : Nat} (h : Rel S n) (hp0 : p < 16) : ∃ v, v ≤ 9 ∧ S.2.1 12 p = nI v := h.1.1.2.2.2.2.1 p hp0
theorem pr_rng {S : hs_S} {n p : Nat} (h : Rel S n) (hp0 : p < 16) : ∃ v, v ≤ 99 ∧ S.2.1 13 p = nI v := h.1.1.2.2.2.2.2.1 p hp0
/-- found at a place, on both sides -/
theorem f_eq {S : hs_S} {n c p s X : Nat} (h : Rel S n) (hc : c < n) (hp0 : p < 16) (hs : s ≤ 99) (hX : X < 2 ^ 31) : fdB (S.1 11 5) (S.2.1 12) (S.2.2.2 (15 + c)) (nI p) (nI s) (S.1 (15 + c) 3) (S.1 (15 + c) 4) (nI X) = fmB (S.2.1 62 2) (S.2.1 62 (3 + p)) (S.2.2.2 (15 + c)) (nI s) (S.2.1 62 (35 + 6 * c + 3)) (S.2.1 62 (35 + 6 * c + 4)) (nI X) := by
  obtain ⟨k6, -, ⟨co, hco, eco⟩, ⟨du, hdu, edu⟩, -⟩ := c_rng h hc
  obtain ⟨v, hv, ev⟩ := po_rng h hp0
  rw [r_2 h, r_po h hp0, r_c h hc (by omega), r_c h hc (by omega), eco, edu, fd_fm k6 hp0 hs hco hdu hX hv ev, ev]
theorem hs_rng {S : hs_S} {n c H : Nat} (h : Rel S n) (hc : c < n) (hH : H ≤ 99999) : ∀ j, j ≤ 200 → ∃ s, s ≤ 99 ∧ hsI S c H j = nI s
  | 0, _ => by
    obtain ⟨-, ⟨v, hv, e⟩, -⟩ := c_rng h hc
    exact ⟨v, hv, e⟩
  | j + 1, hj => by
    obtain ⟨s, hs, es⟩ := hs_rng h hc hH j (by omega)
    obtain ⟨k6, -, -, ⟨du, hdu, edu⟩, -⟩ := c_rng h hc
    obtain ⟨u, hu, eu⟩ := s1_N (X := H + j) k6 hs hdu (by omega)
    show ∃ s, s ≤ 99 ∧ shC S c (hsI S c H j) (nI (H + j)) = nI s
    unfold shC shP
    rw [es, edu, eu]
    by_cases z : fnP (S.1 11 5) (S.2.1 12) (S.2.2.2 (15 + c)) (S.1 (15 + c) 1) (S.1 (15 + c) 3) (nI du) (nI s) (nI (H + j)) = true
    · rw [if_pos z]
      exact ⟨0, by omega, rfl⟩
    · rw [if_neg z]
      exact ⟨u, by omega, rfl⟩
/-- an hour more: the model's row beside the class's carriers -/
theorem it_all {S : hs_S} {n H : Nat} (h : Rel S n) (hH : H ≤ 99999) (eH : S.1 11 4 = nI H) : ∀ j, j ≤ 100 → mIt (S.2.1 62) (kOf S) (pOf S) n j 1 = nI (H + j) ∧ ∀ c, c < n → mIt (S.2.1 62) (kOf S) (pOf S) n j (35 + 6 * c + 2) = hsI S c H j ∧ fnc (mIt (S.2.1 62) (kOf S) (pOf S) n j) (kOf S) (pOf S) c = fnC S c (hsI S c H j) (nI (H + j)) := by
  have n8 := r_n8 h
  have step : ∀ j, j ≤ 100 → mIt (S.2.1 62) (kOf S) (pOf S) n j 1 = nI (H + j) → (∀ c, c < n → mIt (S.2.1 62) (kOf S) (pOf S) n j (35 + 6 * c + 2) = hsI S c H j) → ∀ c, c < n → s1c (mIt (S.2.1 62) (kOf S) (pOf S) n j) (kOf S) c = s1P (S.2.2.2 (15 + c)) (S.1 (15 + c) 4) (hsI S c H j) (nI (H + j)) ∧ fnc (mIt (S.2.1 62) (kOf S) (pOf S) n j) (kOf S) (pOf S) c = fnC S c (hsI S c H j) (nI (H + j)) := by
    intro j hj e1 es c hc
    have o := fun i (hi : i ≠ 1) (hi2 : i < 35 ∨ (i - 35) % 6 ≠ 2 ∨ 35 + 6 * n ≤ i) => mIt_off (S.2.1 62) (kOf S) (pOf S) n hi hi2 j
    have a1 : s1c (mIt (S.2.1 62) (kOf S) (pOf S) n j) (kOf S) c = s1P (S.2.2.2 (15 + c)) (S.1 (15 + c) 4) (hsI S c H j) (nI (H + j)) := by
      unfold s1c
      rw [e1, es c hc, o _ (by omega) (by omega), r_c h hc (by omega)]
      rfl
    refine ⟨a1, ?_⟩
    obtain ⟨s, hs, ess⟩ := hs_rng h hc hH j (by omega)
    obtain ⟨k6, -, -, ⟨du, hdu, edu⟩, -⟩ := c_rng h hc
    obtain ⟨u, hu, eu⟩ := s1_N (X := H + j) k6 hs hdu (by omega)
    obtain ⟨ep, hp16⟩ := p_nI h hc
    unfold fnc
    rw [a1, e1, o 2 (by decide) (by omega), o (3 + pOf S c) (by omega) (by omega), o (35 + 6 * c + 3) (by omega) (by omega), o (35 + 6 * c + 4) (by omega) (by omega), nI_1]
    unfold fnC fnP
    rw [ep, nI_1]
    have := f_eq (X := H + j + 1) (s := u) h hc hp16 (by omega) (by omega)
    rw [ess, edu, eu]
    rw [edu] at this
    exact this.symm
  intro j
  induction j with
  | zero =>
    intro _
    have a : mIt (S.2.1 62) (kOf S) (pOf S) n 0 1 = nI (H + 0) := (r_1 h).trans eH
    have b : ∀ c, c < n → mIt (S.2.1 62) (kOf S) (pOf S) n 0 (35 + 6 * c + 2) = hsI S c H 0 := fun c hc => r_c h hc (by omega)
    exact ⟨a, fun c hc => ⟨b c hc, (step 0 (by omega) a b c hc).2⟩⟩
  | succ j ih =>
    intro hj
    obtain ⟨a, b⟩ := ih (by omega)
    have a' : mIt (S.2.1 62) (kOf S) (pOf S) n (j + 1) 1 = nI (H + (j + 1)) := by
      show r2F _ _ _ _ _ 1 = _
      rw [r2F_1, a, nI_1]
      rfl
    have b' : ∀ c, c < n → mIt (S.2.1 62) (kOf S) (pOf S) n (j + 1) (35 + 6 * c + 2) = hsI S c H (j + 1) := by
      intro c hc
      show r2F _ _ _ _ _ _ = _
      obtain ⟨s1, f1⟩ := step j (by omega) a (fun c hc => (b c hc).1) c hc
      rw [r2F_sh _ _ _ _ _ _ hc, s1, f1]
      show _ = shC S c (hsI S c H j) (nI (H + j))
      unfold shC shP
      by_cases z : fnC S c (hsI S c H j) (nI (H + j)) = true
      · rw [if_pos ⟨hc, z⟩]
        exact (if_pos z).symm
      · rw [if_neg (fun y => z y.2)]
        exact (if_neg z).symm
    exact ⟨a', fun c hc => ⟨b' c hc, (step (j + 1) hj a' b' c hc).2⟩⟩
/-- the class's hours -/
theorem hr_all {S : hs_S} {n H : Nat} (eH : S.1 11 4 = nI H) : ∀ j, (hrK S n j).1 11 4 = nI (H + j) ∧ (∀ b k, k ≠ 2 → (b ≠ 11 ∨ k ≠ 4) → (hrK S n j).1 b k = S.1 b k) ∧ (hrK S n j).2 = S.2 ∧ (∀ b, (b < 15 ∨ 15 + n ≤ b) → (hrK S n j).1 b 2 = S.1 b 2) ∧ ∀ c, c < n → (hrK S n j).1 (15 + c) 2 = hsI S c H j
  | 0 => ⟨eH, fun _ _ _ _ => rfl, rfl, fun _ _ => rfl, fun _ _ => rfl⟩
  | j + 1 => by
    obtain ⟨a, b, c, d, e⟩ := hr_all (S := S) (n := n) eH j
    refine ⟨?_, fun x k h1 h2 => (hr1_off _ n h1 h2).trans (b x k h1 h2), c, fun x hx => ?_, fun i hi => ?_⟩
    · show (hr1 (hrK S n j) n).1 11 4 = _
      rw [hr1_4, a, nI_1]
      rfl
    · show (hr1 (hrK S n j) n).1 x 2 = _
      unfold hr1
      rw [uF_off _ _ _ _ (Or.inr (by decide)), hrS_off _ _ _ (by omega)]
      exact d x hx
    · show (hr1 (hrK S n j) n).1 (15 + i) 2 = shC S i (hsI S i H j) (nI (H + j))
      unfold hr1
      rw [uF_off _ _ _ _ (Or.inr (by decide))]
      show (if 2 = 2 ∧ (15 ≤ 15 + i ∧ 15 + i < 15 + n) then shN (hrK S n j) (15 + i) ((hrK S n j).1 11 4) else _) = _
      rw [if_pos (by omega), a]
      have es : shN (hrK S n j) (15 + i) (nI (H + j)) = shP ((hrK S n j).1 11 5) ((hrK S n j).2.1 12) ((hrK S n j).2.2.2 (15 + i)) ((hrK S n j).1 (15 + i) 1) ((hrK S n j).1 (15 + i) 3) ((hrK S n j).1 (15 + i) 4) ((hrK S n j).1 (15 + i) 2) (nI (H + j)) := rfl
      rw [es, b 11 5 (by decide) (by decide), b (15 + i) 1 (by decide) (by omega), b (15 + i) 3 (by decide) (by omega), b (15 + i) 4 (by decide) (by omega), c, e i hi]
      rfl
/-- the ghost's hours -/
theorem gh_all (S : hs_S) (m H : Nat) : ∀ j, gA S (ghK (ghT S m) H j) m (hsI S m H j)
  | 0 => gA_T S m
  | j + 1 => by
    have g := gh_all S m H j
    have := gA_put g (shN (ghK (ghT S m) H j) 50 (nI (H + j)))
    have e : hsI S m H (j + 1) = shN (ghK (ghT S m) H j) 50 (nI (H + j)) := (gA_sh g _).symm
    rw [e]
    exact this
