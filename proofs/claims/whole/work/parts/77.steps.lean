/-! THE STEPS of the law, one by one -/
theorem cQ_1 {o : Option sx_R} {r : Int32 × hs_S} (h : o = o1 r) : cQ o r := ⟨r.2, h, jk_refl _⟩
theorem stp_mk {S : hs_S} {k1 k2 : Nat} {a1 a2 : List Value} {r : Int32 × hs_S} (c : cQ (sx_call 11 k1 a1 (hp S)) r) (m : ∀ T, jk r.2 T → ∃ s : Int32 × hs_S, cQ (sx_call 11 k2 a2 (hp T)) s ∧ s.1 = r.1 ∧ ∃ n', Rel s.2 n') : stp S k1 a1 k2 a2 := by
  obtain ⟨T1, c1, g1⟩ := c
  obtain ⟨s, ⟨T2, c2, g2⟩, e, n', R⟩ := m T1 g1
  exact ⟨r.1, T1, T2, n', c1, by rw [c2, e], Rel_jk R g2⟩
/-- outside of land 11, its row and junk nothing has changed -/
def oF (b k : Nat) : Bool := jF b k || (decide (11 ≤ b) && decide (b < 23))
def oI (b : Nat) : Bool := jI b || (b == 12) || (b == 13) || (b == 62)
def oK (b : Nat) : Bool := jK b || (decide (11 ≤ b) && decide (b < 23))
def jo (S T : hs_S) : Prop := (∀ b k, oF b k = false → T.1 b k = S.1 b k) ∧ (∀ b, oI b = false → T.2.1 b = S.2.1 b) ∧ (∀ b, jJ b = false → T.2.2.1 b = S.2.2.1 b) ∧ (∀ b, oK b = false → T.2.2.2 b = S.2.2.2 b)
theorem or_f {a b : Bool} (h : (a || b) = false) : a = false ∧ b = false := by
  cases a <;> cases b <;> simp_all
theorem jo_jk {S T : hs_S} (h : jk S T) : jo S T := ⟨fun b k e => h.1 b k (or_f e).1, fun b e => h.2.1 b (or_f (or_f (or_f e).1).1).1, h.2.2.1, fun b e => h.2.2.2 b (or_f e).1⟩
theorem jo_trans {S T U : hs_S} (h : jo S T) (g : jo T U) : jo S U := ⟨fun b k e => (g.1 b k e).trans (h.1 b k e), fun b e => (g.2.1 b e).trans (h.2.1 b e), fun b e => (g.2.2.1 b e).trans (h.2.2.1 b e), fun b e => (g.2.2.2 b e).trans (h.2.2.2 b e)⟩
theorem jo_refl (S : hs_S) : jo S S := ⟨fun _ _ _ => rfl, fun _ _ => rfl, fun _ _ => rfl, fun _ _ => rfl⟩
theorem oF_11 {b k : Nat} (h : 11 ≤ b ∧ b < 23) : oF b k = true := by
  unfold oF
  rw [decide_eq_true h.1, decide_eq_true h.2]
  simp
theorem oK_11 {b : Nat} (h : 11 ≤ b ∧ b < 23) : oK b = true := by
  unfold oK
  rw [decide_eq_true h.1, decide_eq_true h.2]
  simp
theorem jo_uF {S T : hs_S} (h : jo S T) {a k : Nat} (ha : 11 ≤ a ∧ a < 23) (v : Int32) : jo S (uF T a k v) := by
  refine ⟨fun b j e => ?_, h.2⟩
  have z : ¬ (b = a ∧ j = k) := fun z => by
    rw [z.1, oF_11 ha] at e
    cases e
  rw [uF_1, if_neg z]
  exact h.1 b j e
theorem jo_uI {S T : hs_S} (h : jo S T) {a : Nat} (ha : oI a = true) (f : Nat → Int32) : jo S (uI T a f) := by
  refine ⟨h.1, fun b e => ?_, h.2.2⟩
  have z : ¬ b = a := fun z => by
    rw [z, ha] at e
    cases e
  rw [uI_2, if_neg z]
  exact h.2.1 b e
theorem jo_uK {S T : hs_S} (h : jo S T) {a : Nat} (ha : 11 ≤ a ∧ a < 23) (n : Nat) : jo S (uK T a n) := by
  refine ⟨h.1, h.2.1, h.2.2.1, fun b e => ?_⟩
  have z : ¬ b = a := fun z => by
    rw [z, oK_11 ha] at e
    cases e
  rw [uK_4, if_neg z]
  exact h.2.2.2 b e
theorem jo_setC {S T : hs_S} (h : jo S T) {a : Nat} (ha : 11 ≤ a ∧ a < 23) (k : Nat) (pl sh co du ca : Int32) : jo S (setC T a k pl sh co du ca) := by
  rw [← setC_of]
  exact jo_uF (jo_uF (jo_uF (jo_uF (jo_uF (jo_uK h ha _) ha _) ha _) ha _) ha _) ha _
theorem oF_27 {j k : Nat} (h : j < 8) : oF (27 + j) k = false := by
  unfold oF
  rw [jF_27 h, decide_eq_false (show ¬ 27 + j < 23 by omega), Bool.and_false]
  rfl
theorem oK_27 {j : Nat} (h : j < 8) : oK (27 + j) = false := by
  unfold oK
  rw [jK_27 h, decide_eq_false (show ¬ 27 + j < 23 by omega), Bool.and_false]
  rfl
theorem oF_s {s k : Nat} (h : s < 4) : oF (53 + 2 * s) k = false := by
  unfold oF
  rw [jF_s h, decide_eq_false (show ¬ 53 + 2 * s < 23 by omega), Bool.and_false]
  rfl
theorem lSame_o {S T : hs_S} {n : Nat} (hn : n ≤ 8) (g : jo S T) : lSame S T 23 n := by
  refine ⟨fun k _ _ => g.1 23 k rfl, fun p _ => by rw [g.2.1 (23 + 1) rfl], fun p _ => by rw [g.2.1 (23 + 2) rfl], fun c hc => ⟨g.2.2.2 (23 + 4 + c) (oK_27 (by omega)), fun q _ _ => g.1 (23 + 4 + c) q (oF_27 (by omega))⟩⟩
theorem Rel_jo {S T : hs_S} {n n' : Nat} (h : Rel S n) (g : jo S T) (l : LL T 11 n' (T.2.1 62)) : Rel T n' := by
  obtain ⟨-, b, c, ⟨⟨L, d1, d2, d3⟩, d4⟩, e⟩ := h
  refine ⟨l, ⟨by rw [g.1 61 5 rfl, g.1 1 4 rfl]; exact b.1, ?_⟩, by rw [g.2.1 4 rfl, g.2.1 66 rfl]; exact c, ⟨⟨L, d1, by rw [g.1 51 1 rfl]; exact d2, by rw [g.1 61 13 rfl]; exact d3⟩, by rw [g.2.1 52 rfl, g.2.1 67 rfl]; exact d4⟩, fun s hs => ?_⟩
  · rw [g.1 1 4 rfl]
    rcases b.2 with b | ⟨b, q, c⟩
    · exact Or.inl b
    · refine Or.inr ⟨b, q, ?_⟩
      rw [g.2.1 63 rfl]
      exact LL_same c (lSame_o c.1.1 g)
  · obtain ⟨a, ⟨z, b, c, d⟩, e⟩ := e s hs
    refine ⟨by rw [g.2.1 68 rfl, g.1 _ _ (oF_s hs)]; exact a, ⟨z, b, by rw [g.1 _ _ (oF_s hs)]; exact c, by rw [g.2.1 69 rfl]; exact d⟩, fun i hi => ?_⟩
    rw [g.2.2.1 70 rfl, g.2.2.1 _ (jJ_s hs)]
    exact e i hi
theorem fin_row {S S1 T : hs_S} {n n' : Nat} {w' : Nat → Int32} (h : Rel S n) (g1 : jo S S1) (l : LL S1 11 n' w') (g : jk S1 T) : Rel (uI T 62 w') n' := by
  have l2 : LL T 11 n' w' := LL_same l (lSame_11 l.1.1 g)
  refine Rel_jo h (jo_uI (jo_trans g1 (jo_jk g)) rfl _) ?_
  rw [uI_at]
  exact l2
/-- the two usual ends: an answer that changes nothing, a finding -/
theorem end_q {S T : hs_S} {n : Nat} {k2 : Nat} {a2 : List Value} {a : Int32} {s : Int32 × hs_S} (h : Rel S n) (g : jk S T) (c : cQ (sx_call 11 k2 a2 (hp T)) s) (e : s = (a, T)) : ∃ s : Int32 × hs_S, cQ (sx_call 11 k2 a2 (hp T)) s ∧ s.1 = a ∧ ∃ n', Rel s.2 n' := by
  subst e
  exact ⟨_, c, rfl, n, Rel_jk h g⟩
theorem end_f {S T : hs_S} {n w : Nat} {k2 : Nat} {a2 : List Value} {a : Int32} {s : Int32 × hs_S} (h : Rel S n) (g : jk (fdS S w) T) (c : cQ (sx_call 11 k2 a2 (hp T)) s) (e : s = (a, fdM T w)) : ∃ s : Int32 × hs_S, cQ (sx_call 11 k2 a2 (hp T)) s ∧ s.1 = a ∧ ∃ n', Rel s.2 n' := by
  subst e
  exact ⟨_, c, rfl, n, Rel_fd h g⟩
/-- the row in a state that is S but for junk (and findings) -/
theorem row_fd {S T : hs_S} {w : Nat} (g : jk (fdS S w) T) : T.2.1 62 = S.2.1 62 := g.2.1 62 rfl
theorem row_q {S T : hs_S} (g : jk S T) : T.2.1 62 = S.2.1 62 := g.2.1 62 rfl
theorem r_0 {S : hs_S} {n : Nat} (h : Rel S n) : S.2.1 62 0 = nI n := h.1.2.1
theorem r_1 {S : hs_S} {n : Nat} (h : Rel S n) : S.2.1 62 1 = S.1 11 4 := h.1.2.2.1
theorem r_2 {S : hs_S} {n : Nat} (h : Rel S n) : S.2.1 62 2 = S.1 11 5 := h.1.2.2.2.1
theorem r_po {S : hs_S} {n p : Nat} (h : Rel S n) (hp0 : p < 16) : S.2.1 62 (3 + p) = S.2.1 12 p := h.1.2.2.2.2.1 p hp0
theorem r_pr {S : hs_S} {n p : Nat} (h : Rel S n) (hp0 : p < 16) : S.2.1 62 (19 + p) = S.2.1 13 p := h.1.2.2.2.2.2.1 p hp0
theorem r_k {S : hs_S} {n c : Nat} (h : Rel S n) (hc : c < n) : S.2.1 62 (35 + 6 * c + 0) = nI (S.2.2.2 (15 + c)) := (h.1.2.2.2.2.2.2 c hc).1
theorem r_c {S : hs_S} {n c q : Nat} (h : Rel S n) (hc : c < n) (hq : 1 ≤ q ∧ q ≤ 5) : S.2.1 62 (35 + 6 * c + q) = S.1 (15 + c) q := (h.1.2.2.2.2.2.2 c hc).2 q hq.1 hq.2
theorem r_n8 {S : hs_S} {n : Nat} (h : Rel S n) : n ≤ 8 := h.1.1.1
theorem r_n {S : hs_S} {n : Nat} (h : Rel S n) : S.1 11 3 = nI n := h.1.1.2.1
theorem orF_cong {f g : Nat → Bool} : ∀ {n : Nat}, (∀ i, i < n → f i = g i) → orF f n = orF g n
  | 0, _ => rfl
  | n + 1, h => by
    have ih := orF_cong (f := f) (g := g) (n := n) (fun i hi => h i (by omega))
    unfold orF
    rw [ih, h n (by omega)]
theorem smF_cong {f g : Nat → Int32} : ∀ {n : Nat}, (∀ i, i < n → f i = g i) → smF f n = smF g n
  | 0, _ => rfl
  | n + 1, h => by
    have ih := smF_cong (f := f) (g := g) (n := n) (fun i hi => h i (by omega))
    unfold smF
    rw [ih, h n (by omega)]
theorem v9_of {v : Int32} {m : Nat} (hm : m < 2 ^ 31) (h : 0 ≤ v ∧ v ≤ nI m) : ∃ u, u ≤ m ∧ v = nI u := by
  obtain ⟨u, hu, rfl⟩ := nI_of (Int32.not_lt.mpr h.1)
  exact ⟨u, Nat.le_of_not_lt fun z => nI_ge z (by omega) h.2, rfl⟩
theorem st_place (S : hs_S) (n : Nat) (h : Rel S n) (p w v : Int32) : stp S 67 [.ref 1, .int p, .int w, .int v] 129 [.ref 61, .int p, .int w, .int v] := by
  refine stp_mk (cQ_1 (sp_SC_place 9 S p w v)) (fun T g => ?_)
  have c := cQ_1 (sp_M_place 8 T p w v)
  unfold cl_place at g ⊢
  unfold ml_place at c
  by_cases h1 : 0 ≤ p ∧ p < 16
  · rw [if_pos h1] at g c ⊢
    obtain ⟨q, hq, rfl⟩ := p16_of h1
    rw [nI_clamp (show q < 2 ^ 31 by omega)] at g c ⊢
    by_cases h2 : w = 0 ∧ (0 ≤ v ∧ v ≤ 9)
    · rw [if_pos h2] at g c ⊢
      obtain ⟨u, hu, rfl⟩ := v9_of (m := 9) (by omega) h2.2
      have e62 : T.2.1 62 = S.2.1 62 := g.2.1 62 rfl
      rw [e62] at c
      exact ⟨_, c, r_po h hq, n, fin_row h (jo_uI (jo_refl S) rfl _) (LL_post h.1 hq hu) g⟩
    · rw [if_neg h2] at g c ⊢
      by_cases h3 : w = 1 ∧ (0 ≤ v ∧ v ≤ 99)
      · rw [if_pos h3] at g c ⊢
        obtain ⟨u, hu, rfl⟩ := v9_of (m := 99) (by omega) h3.2
        have e62 : T.2.1 62 = S.2.1 62 := g.2.1 62 rfl
        rw [e62] at c
        exact ⟨_, c, r_pr h hq, n, fin_row h (jo_uI (jo_refl S) rfl _) (LL_price h.1 hq hu) g⟩
      · rw [if_neg h3] at g c ⊢
        exact end_f h g c rfl
  · rw [if_neg h1] at g c ⊢
    exact end_f h g c rfl
theorem st_placeOf (S : hs_S) (n : Nat) (h : Rel S n) (p w : Int32) : stp S 68 [.ref 1, .int p, .int w] 132 [.ref 61, .int p, .int w] := by
  refine stp_mk (cQ_1 (sp_SC_placeOf 8 S n p w (r_n8 h) (r_n h))) (fun T g => ?_)
  have n8 := r_n8 h
  have c := fun e => cQ_1 (sp_M_placeOf 7 T n p w (r_n8 h) e)
  unfold cl_placeOf at g ⊢
  unfold ml_placeOf at c
  by_cases h1 : 0 ≤ p ∧ p < 16
  · rw [if_pos h1] at g ⊢
    simp only [if_pos h1] at c
    obtain ⟨q, hq, rfl⟩ := p16_of h1
    rw [nI_clamp (show q < 2 ^ 31 by omega)] at g c ⊢
    by_cases h2 : w = 0
    · rw [if_pos h2] at g ⊢
      simp only [if_pos h2] at c
      rw [row_q g] at c
      exact end_q h g (c (r_0 h)) (by rw [r_po h hq])
    · rw [if_neg h2] at g ⊢
      simp only [if_neg h2] at c
      by_cases h3 : w = 1
      · rw [if_pos h3] at g ⊢
        simp only [if_pos h3] at c
        rw [row_q g] at c
        exact end_q h g (c (r_0 h)) (by rw [r_pr h hq])
      · rw [if_neg h3] at g ⊢
        simp only [if_neg h3] at c
        by_cases h4 : w = 2
        · rw [if_pos h4] at g ⊢
          simp only [if_pos h4] at c
          rw [row_q g] at c
          exact end_q h g (c (r_0 h)) (by rw [orF_cong (fun i hi => by rw [r_c h hi (by omega)])])
        · rw [if_neg h4] at g ⊢
          simp only [if_neg h4] at c
          by_cases h5 : w = 3
          · rw [if_pos h5] at g ⊢
            simp only [if_pos h5] at c
            rw [row_q g] at c
            exact end_q h g (c (r_0 h)) rfl
          · rw [if_neg h5] at g ⊢
            simp only [if_neg h5] at c
            rw [row_fd g] at c
            exact end_f h g (c (r_0 h)) rfl
  · rw [if_neg h1] at g ⊢
    simp only [if_neg h1] at c
    rw [row_fd g] at c
    exact end_f h g (c (r_0 h)) rfl
theorem st_clouds (S : hs_S) (n : Nat) (h : Rel S n) (v : Int32) : stp S 69 [.ref 1, .int v] 133 [.ref 61, .int v] := by
  refine stp_mk (cQ_1 (sp_SC_clouds 9 S v)) (fun T g => ?_)
  have c := cQ_1 (sp_M_clouds 9 T v)
  unfold cl_clouds at g ⊢
  unfold ml_clouds at c
  by_cases h1 : 0 ≤ v ∧ v ≤ 1
  · rw [if_pos h1] at g c ⊢
    obtain ⟨u, hu, rfl⟩ := v9_of (m := 1) (by omega) h1
    have e62 : T.2.1 62 = S.2.1 62 := g.2.1 62 rfl
    rw [e62] at c
    refine ⟨_, c, r_2 h, n, fin_row h (jo_uF (jo_refl S) (by omega) _) (LL_clouds h.1 ?_) g⟩
    rcases (show u = 0 ∨ u = 1 by omega) with rfl | rfl
    · exact Or.inl rfl
    · exact Or.inr rfl
  · rw [if_neg h1] at g c ⊢
    exact end_f h g c rfl
theorem st_heat (S : hs_S) (n : Nat) (h : Rel S n) (x : Int32) : stp S 70 [.ref 1, .int x] 135 [.ref 61, .int x] := by
  refine stp_mk (cQ_1 (sp_SC_heat 8 S x)) (fun T g => ?_)
  have c := cQ_1 (sp_M_heat 9 T x)
  unfold cl_heat at g ⊢
  unfold ml_heat at c
  by_cases h1 : 0 ≤ x ∧ x ≤ 99999
  · rw [if_pos h1] at g c ⊢
    exact end_q h g c rfl
  · rw [if_neg h1] at g c ⊢
    exact end_f h g c rfl
theorem st_carrier (S : hs_S) (n : Nat) (h : Rel S n) (k p : Int32) : stp S 71 [.ref 1, .int k, .int p] 137 [.ref 61, .int k, .int p] := by
  refine stp_mk (cQ_1 (sp_SC_carrier 8 S n k p (r_n8 h) (r_n h))) (fun T g => ?_)
  have n8 := r_n8 h
  have c := fun e => cQ_1 (sp_M_carrier 8 T n k p (r_n8 h) e)
  unfold cl_carrier at g ⊢
  unfold ml_carrier at c
  by_cases h1 : (0 ≤ k ∧ k < 6) ∧ (0 ≤ p ∧ p < 16)
  · rw [if_pos h1] at g ⊢
    simp only [if_pos h1] at c
    by_cases h8 : 8 ≤ n
    · rw [if_pos h8] at g ⊢
      simp only [if_pos h8] at c
      exact end_f h g (c (by rw [row_fd g]; exact r_0 h)) rfl
    · rw [if_neg h8] at g ⊢
      simp only [if_neg h8] at c
      obtain ⟨a, ha, rfl⟩ := k6_of h1.1
      obtain ⟨b, hb, rfl⟩ := p16_of h1.2
      rw [nI_clamp (show a < 2 ^ 31 by omega)] at g ⊢
      have e62 : T.2.1 62 = S.2.1 62 := g.2.1 62 rfl
      rw [e62] at c
      exact ⟨_, c (r_0 h), rfl, n + 1, fin_row h (jo_uF (jo_setC (jo_refl S) (by omega) _ _ _ _ _ _) (by omega) _) (LL_add h.1 (by omega) ha hb) g⟩
  · rw [if_neg h1] at g ⊢
    simp only [if_neg h1] at c
    exact end_f h g (c (by rw [row_fd g]; exact r_0 h)) rfl
theorem mbF_rng {w v : Int32} {k : Nat} (h : mbF w v = true) (hk : w = nI k) (k5 : k ≤ 5) : (2 ≤ k ∧ k ≤ 5) ∧ rngC k v := by
  rcases mbF_w h with rfl | rfl | rfl | rfl
  · have e : k = 2 := ((nI_eq (a := 2) (by omega) (by omega)).mp hk).symm
    subst e
    obtain ⟨u, hu, rfl⟩ := v9_of (m := 99) (by omega) (of_decide_eq_true h)
    exact ⟨by omega, fun z => by omega, fun _ => ⟨u, hu, rfl⟩, fun z => by omega, fun z => by omega, fun z => by omega⟩
  · have e : k = 3 := ((nI_eq (a := 3) (by omega) (by omega)).mp hk).symm
    subst e
    obtain ⟨u, hu, rfl⟩ := v9_of (m := 9) (by omega) (of_decide_eq_true h)
    exact ⟨by omega, fun z => by omega, fun z => by omega, fun _ => ⟨u, hu, rfl⟩, fun z => by omega, fun z => by omega⟩
  · have e : k = 4 := ((nI_eq (a := 4) (by omega) (by omega)).mp hk).symm
    subst e
    obtain ⟨u, hu, rfl⟩ := v9_of (m := 9) (by omega) (of_decide_eq_true h)
    exact ⟨by omega, fun z => by omega, fun z => by omega, fun z => by omega, fun _ => ⟨u, hu, rfl⟩, fun z => by omega⟩
  · have e : k = 5 := ((nI_eq (a := 5) (by omega) (by omega)).mp hk).symm
    subst e
    obtain ⟨u, hu, rfl⟩ := v9_of (m := 999999) (by omega) (of_decide_eq_true h)
    exact ⟨by omega, fun z => by omega, fun z => by omega, fun z => by omega, fun z => by omega, fun _ => ⟨u, hu, rfl⟩⟩
theorem st_set (S : hs_S) (n : Nat) (h : Rel S n) (c w v : Int32) : stp S 73 [.ref 1, .int c, .int w, .int v] 146 [.ref 61, .int c, .int w, .int v] := by
  refine stp_mk (cQ_1 (sp_SC_set 8 S n c w v (r_n8 h) (r_n h))) (fun T g => ?_)
  have n8 := r_n8 h
  have cc := fun e => cQ_1 (sp_M_set 7 T n c w v (r_n8 h) e)
  unfold cl_set at g ⊢
  unfold ml_set at cc
  by_cases h1 : (0 ≤ c ∧ c < nI n) ∧ mbF w v = true
  · rw [if_pos h1] at g ⊢
    simp only [if_pos h1] at cc
    obtain ⟨m, hm, rfl⟩ := car_of n8 h1.1
    have hw : ∃ k, k ≤ 5 ∧ w = nI k := by
      rcases mbF_w h1.2 with rfl | rfl | rfl | rfl
      · exact ⟨2, by omega, rfl⟩
      · exact ⟨3, by omega, rfl⟩
      · exact ⟨4, by omega, rfl⟩
      · exact ⟨5, by omega, rfl⟩
    obtain ⟨k, k5, rfl⟩ := hw
    obtain ⟨kr, rg⟩ := mbF_rng h1.2 rfl k5
    rw [nI_clamp (show m < 2 ^ 31 by omega), nI_clamp (show k < 2 ^ 31 by omega)] at g cc ⊢
    have e62 : T.2.1 62 = S.2.1 62 := g.2.1 62 rfl
    rw [e62] at cc
    exact ⟨_, cc (r_0 h), r_c h hm (by omega), n, fin_row h (jo_uF (jo_refl S) (by omega) _) (LL_car h.1 hm (by omega) rg) g⟩
  · rw [if_neg h1] at g ⊢
    simp only [if_neg h1] at cc
    exact end_f h g (cc (by rw [row_fd g]; exact r_0 h)) rfl
theorem Rel_car {S : hs_S} {n : Nat} (h : Rel S n) : okC S n := by
  obtain ⟨H, -, o⟩ := Rel_ok h
  exact o.car
theorem st_turn (S : hs_S) (n : Nat) (h : Rel S n) (c k : Int32) : stp S 74 [.ref 1, .int c, .int k] 147 [.ref 61, .int c, .int k] := by
  refine stp_mk (cQ_1 (sp_SC_turn 9 S n c k (r_n8 h) (r_n h) (Rel_car h))) (fun T g => ?_)
  have n8 := r_n8 h
  have cc := fun e => cQ_1 (sp_M_turn 8 T n c k (r_n8 h) e)
  unfold cl_turn at g ⊢
  unfold ml_turn at cc
  by_cases h1 : (0 ≤ c ∧ c < nI n) ∧ (0 ≤ k ∧ k < 6)
  · rw [if_pos h1] at g ⊢
    simp only [if_pos h1] at cc
    obtain ⟨m, hm, rfl⟩ := car_of n8 h1.1
    obtain ⟨q, hq, rfl⟩ := k6_of h1.2
    rw [nI_clamp (show m < 2 ^ 31 by omega)] at g cc ⊢
    rw [nI_clamp (show q < 2 ^ 31 by omega)] at g ⊢
    have e62 : T.2.1 62 = S.2.1 62 := g.2.1 62 rfl
    rw [e62] at cc
    exact ⟨_, cc (r_0 h), r_k h hm, n, fin_row h (jo_uK (jo_refl S) (by omega) _) (LL_kind h.1 hm hq) g⟩
  · rw [if_neg h1] at g ⊢
    simp only [if_neg h1] at cc
    exact end_f h g (cc (by rw [row_fd g]; exact r_0 h)) rfl
theorem kOf_jk {S T : hs_S} {n c : Nat} (hc : c < n) (n8 : n ≤ 8) (g : jk S T) : kOf T c = kOf S c := g.2.2.2 _ (jK_car (by omega))
theorem pOf_jk {S T : hs_S} {n c : Nat} (hc : c < n) (n8 : n ≤ 8) (g : jk S T) : pOf T c = pOf S c := by
  unfold pOf
  rw [g.1 _ _ (jF_car (by omega))]
theorem row_T {S T : hs_S} {n : Nat} (h : Rel S n) (e : T.2.1 62 = S.2.1 62) : rG (T.2.1 62) n (kOf S) (pOf S) := by
  rw [e]
  exact Rel_row h
theorem p_nI {S : hs_S} {n c : Nat} (h : Rel S n) (hc : c < n) : S.1 (15 + c) 1 = nI (pOf S c) ∧ pOf S c < 16 := by
  obtain ⟨-, ⟨v, hv, e⟩, -⟩ := h.1.1.2.2.2.2.2.2 c hc
  have e' : S.1 (15 + c) 1 = nI v := e
  unfold pOf
  rw [e', nI_clamp (show v < 2 ^ 31 by omega)]
  exact ⟨rfl, hv⟩
theorem st_as (S : hs_S) (n : Nat) (h : Rel S n) (c k : Int32) : stp S 75 [.ref 1, .int c, .int k] 149 [.ref 61, .int c, .int k] := by
  refine stp_mk (cQ_1 (sp_SC_as 9 S n c k (r_n8 h) (r_n h) (Rel_car h))) (fun T g => ?_)
  have n8 := r_n8 h
  have cc := fun (e : T.2.1 62 = S.2.1 62) => cQ_1 (sp_M_as 8 T n (kOf S) (pOf S) c k (r_n8 h) (row_T h e).2.1 (row_T h e).2.2)
  unfold cl_as at g ⊢
  unfold ml_as at cc
  by_cases h1 : (0 ≤ c ∧ c < nI n) ∧ (0 ≤ k ∧ k < 6)
  · rw [if_pos h1] at g ⊢
    simp only [if_pos h1] at cc
    obtain ⟨m, hm, rfl⟩ := car_of n8 h1.1
    rw [nI_clamp (show m < 2 ^ 31 by omega)] at g cc ⊢
    by_cases h2 : und (S.2.2.2 (15 + m)) k.toNatClampNeg = true
    · rw [if_pos h2] at g ⊢
      have h2' : und (kOf S m) k.toNatClampNeg = true := h2
      simp only [if_pos h2'] at cc
      have e62 := row_q g
      exact end_q h g (cc e62) (by rw [e62, r_c h hm (by omega)])
    · rw [if_neg h2] at g ⊢
      have h2' : ¬ und (kOf S m) k.toNatClampNeg = true := h2
      simp only [if_neg h2'] at cc
      exact end_f h g (cc (row_fd g)) rfl
  · rw [if_neg h1] at g ⊢
    simp only [if_neg h1] at cc
    exact end_f h g (cc (row_fd g)) rfl
theorem st_go (S : hs_S) (n : Nat) (h : Rel S n) (c p : Int32) : stp S 76 [.ref 1, .int c, .int p] 150 [.ref 61, .int c, .int p] := by
  refine stp_mk (cQ_1 (sp_SC_go 8 S n c p (r_n8 h) (r_n h))) (fun T g => ?_)
  have n8 := r_n8 h
  have cc := fun (e : T.2.1 62 = S.2.1 62) => cQ_1 (sp_M_go 8 T n (kOf S) (pOf S) c p (r_n8 h) (row_T h e).2.1 (row_T h e).2.2)
  unfold cl_go at g ⊢
  unfold ml_go at cc
  by_cases h1 : (0 ≤ c ∧ c < nI n) ∧ (0 ≤ p ∧ p < 16)
  · rw [if_pos h1] at g ⊢
    simp only [if_pos h1] at cc
    obtain ⟨m, hm, rfl⟩ := car_of n8 h1.1
    obtain ⟨q, hq, rfl⟩ := p16_of h1.2
    rw [nI_clamp (show m < 2 ^ 31 by omega)] at g cc ⊢
    rw [(p_nI h hm).1] at g ⊢
    by_cases h2 : ntF (nI (pOf S m)) &&& ((1 : Int32) <<< (nI q &&& 31)) = 0
    · rw [if_pos h2] at g ⊢
      simp only [if_pos h2] at cc
      exact end_f h g (cc (row_fd g)) rfl
    · rw [if_neg h2] at g ⊢
      simp only [if_neg h2] at cc
      have e62 : T.2.1 62 = S.2.1 62 := g.2.1 62 rfl
      have cc := cc e62
      rw [e62] at cc
      exact ⟨_, cc, r_c h hm (by omega), n, fin_row h (jo_uF (jo_refl S) (by omega) _) (LL_car h.1 hm (by omega) ⟨fun _ => ⟨q, hq, rfl⟩, fun z => by omega, fun z => by omega, fun z => by omega, fun z => by omega⟩) g⟩
  · rw [if_neg h1] at g ⊢
    simp only [if_neg h1] at cc
    exact end_f h g (cc (row_fd g)) rfl
