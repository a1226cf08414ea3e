/-! THE STEPS: copy, lays, book, read -/
theorem st_copy (S : hs_S) (n : Nat) (h : Rel S n) (s f t o y : Int32) : stp S 96 [.ref 1, .int s, .int f, .int t, .int o, .int y] 198 [.ref 61, .int s, .int f, .int t, .int o, .int y] := by
  refine stp_mk (cQ_1 (sp_SC_copy 9 S s f t o y (Rel_shO h))) (fun T g => ?_)
  have c := fun (e : T.2.1 69 = S.2.1 69) => sp_M_copy 8 T s f t o y (fun s hs => by rw [e]; exact Rel_shM h s hs)
  unfold cl_copy at g ⊢
  unfold ml_copy at c
  by_cases h1 : (0 ≤ s ∧ s < 4) ∧ (0 ≤ t ∧ t < 4)
  · rw [if_pos h1] at g ⊢
    simp only [if_pos h1] at c
    obtain ⟨p, hp0, rfl⟩ := s4_of h1.1
    obtain ⟨q, hq, rfl⟩ := s4_of h1.2
    rw [nI_clamp (show p < 2 ^ 31 by omega), nI_clamp (show q < 2 ^ 31 by omega)] at g c ⊢
    obtain ⟨z, hz, z1, z2⟩ := s_z h hp0
    obtain ⟨w, hw, w1, w2⟩ := s_z h hq
    have e1 := s_b h hp0
    have e2 := s_b h hq
    by_cases h2 : S.1 (53 + 2 * p) 1 = 0 ∨ S.1 (53 + 2 * q) 1 = 0
    · rw [if_pos h2] at g ⊢
      have r68 : T.2.1 68 = S.2.1 68 := g.2.1 68 rfl
      have c := c (g.2.1 69 rfl)
      rw [r68, e1, e2, if_pos h2] at c
      exact end_f h g c rfl
    · rw [if_neg h2] at g ⊢
      by_cases h3 : S.1 (53 + 2 * p) 1 = S.1 (53 + 2 * q) 1
      · rw [if_pos h3] at g ⊢
        by_cases h4 : hrP (S.1 (53 + 2 * p) 2) f y ∧ hrP (S.1 (53 + 2 * q) 2) o y
        · rw [if_pos h4] at g ⊢
          have r68 : T.2.1 68 = S.2.1 68 := g.2.1 68 rfl
          have r69 : T.2.1 69 = S.2.1 69 := g.2.1 69 rfl
          have r70 : T.2.2.1 70 = S.2.2.1 70 := (g.2.2.1 70 rfl).trans (J_70 S hq _)
          have c := c r69
          have h4' : hrP (S.2.1 69 p) f y ∧ hrP (S.2.1 69 q) o y := by
            rw [z2, w2, ← z1, ← w1]
            exact h4
          rw [r68, r69, r70, e1, e2, if_neg h2, if_pos h3, if_pos h4'] at c
          rw [z1, w1] at h4
          obtain ⟨fa, fy, fs⟩ := hr_nat hz h4.1
          obtain ⟨oa, oy, os⟩ := hr_nat hw h4.2
          obtain ⟨a, ha, rfl⟩ := nI_of (Int32.not_lt.mpr fa)
          obtain ⟨b, hb, rfl⟩ := nI_of (Int32.not_lt.mpr oa)
          obtain ⟨k, hk, rfl⟩ := nI_of (Int32.not_lt.mpr fy)
          rw [nI_clamp ha, nI_clamp hk] at fs
          rw [nI_clamp hb, nI_clamp hk] at os
          rw [nI_clamp ha, nI_clamp hb, nI_clamp hk] at g c
          refine ⟨_, c, rfl, n, Rel_jk (Rel_J h hq (fun s hs i hi => ?_)) (jk_uJ2 g 70 _)⟩
          unfold ptL va_cpy
          by_cases es : s = q
          · subst es
            rw [if_pos rfl]
            by_cases ei : b ≤ i ∧ i < b + k
            · rw [if_pos (by omega), if_pos ei]
              show S.2.2.1 70 (40 * p + a + (40 * s + i - (40 * s + b))) = S.2.2.1 (54 + 2 * p) (a + (i - b))
              rw [show 40 * p + a + (40 * s + i - (40 * s + b)) = 40 * p + (a + (i - b)) by omega]
              exact s_v h hp0 (by omega)
            · rw [if_neg (by omega), if_neg ei]
              exact s_v h hs hi
          · rw [if_neg es, if_neg (by omega)]
            exact s_v h hs hi
        · rw [if_neg h4] at g ⊢
          have r68 : T.2.1 68 = S.2.1 68 := g.2.1 68 rfl
          have r69 : T.2.1 69 = S.2.1 69 := g.2.1 69 rfl
          have c := c r69
          have h4' : ¬ (hrP (S.2.1 69 p) f y ∧ hrP (S.2.1 69 q) o y) := by
            rw [z2, w2, ← z1, ← w1]
            exact h4
          rw [r68, r69, e1, e2, if_neg h2, if_pos h3, if_neg h4'] at c
          exact end_f h g c rfl
      · rw [if_neg h3] at g ⊢
        have r68 : T.2.1 68 = S.2.1 68 := g.2.1 68 rfl
        have c := c (g.2.1 69 rfl)
        rw [r68, e1, e2, if_neg h2, if_neg h3] at c
        exact end_f h g c rfl
  · rw [if_neg h1] at g ⊢
    simp only [if_neg h1] at c
    exact end_f h g (c (g.2.1 69 rfl)) rfl
theorem cnt_cong {f g : Nat → Bool} : ∀ n, (∀ i, i < n → f i = g i) → fa_cnt f n = fa_cnt g n
  | 0, _ => rfl
  | n + 1, h => by
    have ih := cnt_cong (f := f) (g := g) n (fun i hi => h i (by omega))
    unfold fa_cnt
    rw [ih, h n (by omega)]
theorem ly_N {x : Int64} (h1 : 0 ≤ x) (h2 : x ≤ 99) : ∃ k, k ≤ 99 ∧ x.toInt32 = nI k := by
  have a : 0 ≤ x.toInt := (fa_le64 0 x).mp h1
  have b : x.toInt ≤ 99 := (fa_le64 x 99).mp h2
  have e : x = lN x.toInt.toNat := by
    rw [fa_eq64, lN_toInt (show x.toInt.toNat < 2 ^ 31 by omega)]
    omega
  have all : ∀ k, k < 100 → (lN k).toInt32 = nI k := by decide +kernel
  refine ⟨x.toInt.toNat, by omega, ?_⟩
  have r := all x.toInt.toNat (by omega)
  rw [← e] at r
  exact r
theorem LL_lays {S : hs_S} {n mz : Nat} {f f' : Nat → Int64} (h : Rel S n) (hm : mz ≤ 16) (e : ∀ i, i < 16 → f' i = f i) : LL (uI S 13 (lyP f (S.2.1 13) mz)) 11 n (lyR f' (S.2.1 62) mz) := by
  obtain ⟨⟨h1, h2, h3, h4, h5, h6, h7⟩, r0, r1, r2, r3, r4, r5⟩ := h.1
  have off : ∀ i, i < 19 ∨ 35 ≤ i → lyR f' (S.2.1 62) mz i = S.2.1 62 i := fun i hi => if_neg (by omega)
  have pr : ∀ p, p < 16 → lyR f' (S.2.1 62) mz (19 + p) = lyP f (S.2.1 13) mz p := by
    intro p hp0
    unfold lyR lyP
    rw [show 19 + p - 19 = p by omega, e p hp0]
    have el : lyQ f' p = lyQ f p := by
      unfold lyQ
      rw [e p hp0]
    rw [el]
    by_cases z : p < mz ∧ lyQ f p = true
    · rw [if_pos ⟨by omega, z.2⟩, if_pos z]
    · rw [if_neg (fun y => z ⟨by omega, y.2⟩), if_neg z]
      exact r_pr h hp0
  have rg : ∀ p, p < 16 → ∃ v, v ≤ 99 ∧ lyP f (S.2.1 13) mz p = nI v := by
    intro p hp0
    unfold lyP
    by_cases z : p < mz ∧ lyQ f p = true
    · rw [if_pos z]
      have y := z.2
      unfold lyQ at y
      rw [Bool.and_eq_true] at y
      exact ly_N (of_decide_eq_true y.1) (of_decide_eq_true y.2)
    · rw [if_neg z]
      exact pr_rng h hp0
  refine ⟨⟨h1, h2, h3, h4, h5, rg, h7⟩, (off 0 (by omega)).trans r0, (off 1 (by omega)).trans r1, (off 2 (by omega)).trans r2, fun p hp0 => (off _ (by omega)).trans (r3 p hp0), pr, fun c hc => ⟨(off _ (by omega)).trans (r5 c hc).1, fun q q1 q5 => (off _ (by omega)).trans ((r5 c hc).2 q q1 q5)⟩⟩
theorem st_lays (S : hs_S) (n : Nat) (h : Rel S n) (s : Int32) : stp S 97 [.ref 1, .int s] 199 [.ref 61, .int s] := by
  refine stp_mk (cQ_1 (sp_SC_lays 9 S s (Rel_shO h))) (fun T g => ?_)
  have c := fun (e : T.2.1 69 = S.2.1 69) => cQ_1 (sp_M_lays 7 T s (fun s hs => by rw [e]; exact Rel_shM h s hs))
  unfold cl_lays at g ⊢
  unfold ml_lays at c
  by_cases h1 : 0 ≤ s ∧ s < 4
  · rw [if_pos h1] at g ⊢
    simp only [if_pos h1] at c
    obtain ⟨q, hq, rfl⟩ := s4_of h1
    rw [nI_clamp (show q < 2 ^ 31 by omega)] at g c ⊢
    obtain ⟨z, hz, z1, z2⟩ := s_z h hq
    have e1 := s_b h hq
    by_cases h2 : S.1 (53 + 2 * q) 1 = 0
    · rw [if_pos h2] at g ⊢
      have r68 : T.2.1 68 = S.2.1 68 := g.2.1 68 rfl
      have c := c (g.2.1 69 rfl)
      rw [r68, e1, if_pos h2] at c
      exact end_f h g c rfl
    · rw [if_neg h2, z1, nI_clamp (show z < 2 ^ 31 by omega)] at g ⊢
      have r68 : T.2.1 68 = S.2.1 68 := g.2.1 68 rfl
      have r69 : T.2.1 69 = S.2.1 69 := g.2.1 69 rfl
      have r70 : T.2.2.1 70 = S.2.2.1 70 := g.2.2.1 70 rfl
      have r62 : T.2.1 62 = S.2.1 62 := g.2.1 62 rfl
      have c := c r69
      rw [r68, r69, r70, r62, e1, if_neg h2, z2, nI_clamp (show z < 2 ^ 31 by omega)] at c
      have mz : min z 16 ≤ 16 := Nat.min_le_right _ _
      refine ⟨_, c, ?_, n, fin_row h (jo_uI (jo_refl S) rfl _) (LL_lays h mz (fun i hi => s_v h hq (by omega))) g⟩
      show nI (fa_cnt (lyQ (fun k => S.2.2.1 70 (40 * q + k))) (min z 16)) = nI (fa_cnt (lyQ (S.2.2.1 (54 + 2 * q))) (min z 16))
      rw [cnt_cong (f := lyQ (fun k => S.2.2.1 70 (40 * q + k))) (g := lyQ (S.2.2.1 (54 + 2 * q))) (min z 16) (fun i hi => by
        unfold lyQ
        show (decide (0 ≤ S.2.2.1 70 (40 * q + i)) && decide (S.2.2.1 70 (40 * q + i) ≤ 99)) = _
        rw [s_v h hq (by omega)])]
  · rw [if_neg h1] at g ⊢
    simp only [if_neg h1] at c
    exact end_f h g (c (g.2.1 69 rfl)) rfl
theorem lb_N (b : Int32) {v : Nat} (hv : v ≤ 99) : lbF b (nI v).toInt64 = (nI v).toInt64 := by
  have a8 : ∀ v, v < 100 → (nI v).toInt64.toInt32.toInt8.toInt32.toInt64 = (nI v).toInt64 := by decide +kernel
  have a16 : ∀ v, v < 100 → (nI v).toInt64.toInt32.toInt16.toInt32.toInt64 = (nI v).toInt64 := by decide +kernel
  unfold lbF
  by_cases b8 : b = 8
  · rw [if_pos b8]
    exact a8 v (by omega)
  · rw [if_neg b8]
    by_cases b16 : b = 16
    · rw [if_pos b16]
      exact a16 v (by omega)
    · rw [if_neg b16]
theorem st_book (S : hs_S) (n : Nat) (h : Rel S n) (s x : Int32) : stp S 98 [.ref 1, .int s, .int x] 201 [.ref 61, .int s, .int x] := by
  obtain ⟨H, hH, o⟩ := Rel_ok h
  have n8 := r_n8 h
  refine stp_mk (sp_SC_book 4 S n H s x o hH (Rel_shO h)) (fun T g => ?_)
  have c := fun (e : T.2.1 62 = S.2.1 62) (e9 : T.2.1 69 = S.2.1 69) => sp_M_book 4 T n (kOf S) (pOf S) s x (rowS h e) (fun s hs => by rw [e9]; exact Rel_shM h s hs)
  unfold cl_book at g ⊢
  unfold ml_book at c
  by_cases h1 : 0 ≤ s ∧ s < 4
  · rw [if_pos h1] at g ⊢
    simp only [if_pos h1] at c
    obtain ⟨q, hq, rfl⟩ := s4_of h1
    rw [nI_clamp (show q < 2 ^ 31 by omega)] at g c ⊢
    obtain ⟨z, hz, z1, z2⟩ := s_z h hq
    have e1 := s_b h hq
    by_cases h2 : S.1 (53 + 2 * q) 1 = 0
    · rw [if_pos h2] at g ⊢
      have r68 : T.2.1 68 = S.2.1 68 := g.2.1 68 rfl
      have c := c (g.2.1 62 rfl) (g.2.1 69 rfl)
      rw [r68, e1, if_pos h2] at c
      exact end_f h g c rfl
    · rw [if_neg h2] at g ⊢
      by_cases h3 : 0 ≤ x ∧ x < nI n
      · rw [if_pos h3, z1, nI_clamp (show z < 2 ^ 31 by omega)] at g ⊢
        obtain ⟨m, hm, rfl⟩ := car_of n8 h3
        rw [nI_clamp (show m < 2 ^ 31 by omega)] at g c ⊢
        have r68 : T.2.1 68 = S.2.1 68 := g.2.1 68 rfl
        have r69 : T.2.1 69 = S.2.1 69 := g.2.1 69 rfl
        have r70 : T.2.2.1 70 = S.2.2.1 70 := (g.2.2.1 70 rfl).trans (J_70 S hq _)
        have r62 : T.2.1 62 = S.2.1 62 := g.2.1 62 rfl
        have c := c r62 r69
        rw [r68, r69, r70, r62, e1, if_neg h2, if_pos h3, z2, nI_clamp (show z < 2 ^ 31 by omega)] at c
        refine ⟨_, c, rfl, n, Rel_jk (Rel_J h hq (fun s hs i hi => ?_)) (jk_uJ2 g 70 _)⟩
        unfold bmF ptL bkF fa_fill
        by_cases es : s = q
        · subst es
          rw [if_pos rfl]
          by_cases ei : i < z
          · rw [if_pos (by omega), if_pos ei, show 40 * s + i - 40 * s = i by omega]
            show lbF (S.1 (53 + 2 * s) 1) (mIt (S.2.1 62) (kOf S) (pOf S) n i (35 + 6 * m + 2)).toInt64 = (hsI S m H i).toInt64
            rw [((it_all h hH o.hr i (by omega)).2 m hm).1]
            obtain ⟨v, hv, ev⟩ := hs_rng h hm hH i (by omega)
            rw [ev]
            exact lb_N _ hv
          · rw [if_neg (by omega), if_neg ei]
            exact s_v h hs hi
        · rw [if_neg es, if_neg (by omega)]
          exact s_v h hs hi
      · rw [if_neg h3] at g ⊢
        have r68 : T.2.1 68 = S.2.1 68 := g.2.1 68 rfl
        have c := c (g.2.1 62 rfl) (g.2.1 69 rfl)
        rw [r68, e1, if_neg h2, if_neg h3] at c
        exact end_f h g c rfl
  · rw [if_neg h1] at g ⊢
    simp only [if_neg h1] at c
    exact end_f h g (c (g.2.1 62 rfl) (g.2.1 69 rfl)) rfl
