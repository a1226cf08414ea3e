/-! THE STEPS: wipe, tear, status, feed, image, undo, land -/
theorem lSame_uF (S : hs_S) {a n b k : Nat} (v : Int32) (hn : n ≤ 8) (h : b < a ∨ a + 12 ≤ b) : lSame S (uF S b k v) a n :=
  ⟨fun j _ _ => uF_off S b k v (Or.inl (by omega)), fun _ _ => rfl, fun _ _ => rfl, fun c hc => ⟨rfl, fun q _ _ => uF_off S b k v (Or.inl (by omega))⟩⟩
theorem lSame_uI (S : hs_S) {a n b : Nat} (f : Nat → Int32) (h : b ≠ a + 1 ∧ b ≠ a + 2) : lSame S (uI S b f) a n :=
  ⟨fun _ _ _ => rfl, fun p _ => by rw [uI_off S b f (Ne.symm h.1)], fun p _ => by rw [uI_off S b f (Ne.symm h.2)], fun c hc => ⟨rfl, fun q _ _ => rfl⟩⟩
theorem lSame_uJ (S : hs_S) {a n b : Nat} (f : Nat → Int64) : lSame S (uJ S b f) a n := ⟨fun _ _ _ => rfl, fun _ _ => rfl, fun _ _ => rfl, fun _ _ => ⟨rfl, fun _ _ _ => rfl⟩⟩
theorem lSame_tr {S T U : hs_S} {a n : Nat} (h : lSame S T a n) (g : lSame T U a n) : lSame S U a n :=
  ⟨fun k h1 h2 => (g.1 k h1 h2).trans (h.1 k h1 h2), fun p hp0 => (g.2.1 p hp0).trans (h.2.1 p hp0), fun p hp0 => (g.2.2.1 p hp0).trans (h.2.2.1 p hp0), fun c hc => ⟨(g.2.2.2 c hc).1.trans (h.2.2.2 c hc).1, fun q h1 h2 => ((g.2.2.2 c hc).2 q h1 h2).trans ((h.2.2.2 c hc).2 q h1 h2)⟩⟩
theorem kRel_same {S T : hs_S} (h : kRel S) (e1 : T.1 61 5 = S.1 61 5) (e2 : T.1 1 4 = S.1 1 4) (e3 : T.2.1 63 = S.2.1 63) (e4 : ∀ q, q ≤ 8 → lSame S T 23 q) : kRel T := by
  refine ⟨by rw [e1, e2]; exact h.1, ?_⟩
  rw [e2, e3]
  rcases h.2 with b | ⟨b, q, c⟩
  · exact Or.inl b
  · exact Or.inr ⟨b, q, LL_same c (e4 q c.1.1)⟩
theorem sRel_same {S T : hs_S} (h : sRel S) (e1 : T.2.1 68 = S.2.1 68) (e2 : T.2.1 69 = S.2.1 69) (e3 : T.2.2.1 = S.2.2.1) (e4 : ∀ s, s < 4 → ∀ k, T.1 (53 + 2 * s) k = S.1 (53 + 2 * s) k) : sRel T := by
  intro s hs
  obtain ⟨a, ⟨z, b, c, d⟩, e⟩ := h s hs
  refine ⟨by rw [e1, e4 s hs]; exact a, ⟨z, b, by rw [e4 s hs]; exact c, by rw [e2]; exact d⟩, fun i hi => ?_⟩
  rw [e3]
  exact e i hi
theorem tp_s {s : Nat} (h : s < 4) {b : Nat} (hb : b < 53 ∨ 61 ≤ b) : 53 + 2 * s ≠ b := by omega
/-- the tape and its length, anew on both sides -/
theorem Rel_tape {S : hs_S} {n L : Nat} (h : Rel S n) (hL : L ≤ 120) (f : Nat → Int32) : Rel (uF (uI (uF (uI S 52 f) 51 1 (nI L)) 67 f) 61 13 (nI L)) n := by
  have n8 := r_n8 h
  have ls : ∀ a q, q ≤ 8 → a = 11 ∨ a = 23 → lSame S (uF (uI (uF (uI S 52 f) 51 1 (nI L)) 67 f) 61 13 (nI L)) a q := fun a q hq ha =>
    lSame_tr (lSame_tr (lSame_tr (lSame_uI S f (by omega)) (lSame_uF _ _ hq (by omega))) (lSame_uI _ f (by omega))) (lSame_uF _ _ hq (by omega))
  refine ⟨LL_same h.1 (ls 11 n n8 (Or.inl rfl)), kRel_same h.2.1 rfl rfl rfl (fun q hq => ls 23 q hq (Or.inr rfl)), h.2.2.1, ⟨⟨L, hL, rfl, rfl⟩, rfl⟩, sRel_same h.2.2.2.2 rfl rfl rfl (fun s hs k => ?_)⟩
  rw [uF_off _ _ _ _ (Or.inl (tp_s hs (by omega)))]
  exact uF_off _ _ _ _ (Or.inl (tp_s hs (by omega)))
theorem Rel_len {S : hs_S} {n L : Nat} (h : Rel S n) (hL : L ≤ 120) : Rel (uF (uF S 51 1 (nI L)) 61 13 (nI L)) n := by
  have r := Rel_tape h hL (S.2.1 52)
  have e1 : uI S 52 (S.2.1 52) = S := uI_self S 52
  rw [e1, h.2.2.2.1.2] at r
  have e2 : uI (uF S 51 1 (nI L)) 67 (S.2.1 67) = uF S 51 1 (nI L) := uI_self (uF S 51 1 (nI L)) 67
  rw [e2] at r
  exact r
theorem st_wipe (S : hs_S) (n : Nat) (h : Rel S n) : stp S 92 [.ref 1] 179 [.ref 61] := by
  refine stp_mk (cQ_1 (sp_SC_wipe 10 S)) (fun T g => ⟨_, cQ_1 (sp_M_wipe 10 T), ?_, n, Rel_jk (Rel_len (L := 0) h (by omega)) (jk_uF2 g 61 13 0)⟩)
  obtain ⟨⟨L, hL, a, b⟩, -⟩ := h.2.2.2.1
  show T.1 61 13 = S.1 51 1
  rw [g.1 61 13 rfl, a]
  exact b
theorem st_tear (S : hs_S) (n : Nat) (h : Rel S n) : stp S 102 [.ref 1] 205 [.ref 61] := by
  have n8 := r_n8 h
  have r : Rel (uF (uF S 1 4 0) 61 5 0) n := by
    refine ⟨LL_same h.1 (lSame_tr (lSame_uF S _ n8 (by omega)) (lSame_uF _ _ n8 (by omega))), ⟨rfl, Or.inl rfl⟩, h.2.2.1, h.2.2.2.1, sRel_same h.2.2.2.2 rfl rfl rfl (fun s hs k => ?_)⟩
    rw [uF_off _ _ _ _ (Or.inl (tp_s hs (by omega)))]
    exact uF_off _ _ _ _ (Or.inl (tp_s hs (by omega)))
  refine stp_mk (cQ_1 (sp_SC_tear 10 S)) (fun T g => ⟨_, cQ_1 (sp_M_tear 10 T), ?_, n, Rel_jk r (jk_uF2 g 61 5 0)⟩)
  show (if T.1 61 5 = 0 then (0 : Int32) else 1) = if S.1 1 4 = 0 then 0 else 1
  have e : T.1 61 5 = S.1 1 4 := (g.1 61 5 rfl).trans h.2.1.1
  rw [e]
theorem stS_neg (r : Nat → Int32) (w : Int32) (h : w < 0) : ∀ j, stS r w j = smF r j
  | 0 => rfl
  | j + 1 => by
    have ih := stS_neg r w h j
    unfold stS smF
    rw [ih, if_pos (Or.inl h)]
theorem stS_at (r : Nat → Int32) (q : Nat) (hq : q < 100) : ∀ j, j ≤ 100 → stS r (nI q) j = if q < j then r q else 0
  | 0, _ => rfl
  | j + 1, hj => by
    have ih := stS_at r q hq j (by omega)
    unfold stS
    rw [ih]
    by_cases e : j = q
    · subst e
      rw [if_pos (Or.inr rfl), if_neg (by omega), if_pos (by omega), Int32.zero_add]
    · have ne : ¬ (nI q < 0 ∨ nI j = nI q) := fun z => by
        rcases z with z | z
        · exact nI_pos (show q < 2 ^ 31 by omega) z
        · exact e ((nI_eq (by omega) (by omega)).mp z)
      rw [if_neg ne, Int32.add_zero]
      by_cases l : q < j
      · rw [if_pos l, if_pos (by omega)]
      · rw [if_neg l, if_neg (by omega)]
theorem i7 : (7 : Int32).toInt = 7 := by decide
theorem i6 : (6 : Int32).toInt = 6 := by decide
theorem im1 : (-1 : Int32).toInt = -1 := by decide
theorem st_status (S : hs_S) (n : Nat) (h : Rel S n) (w : Int32) : stp S 104 [.ref 1, .int w] 209 [.ref 61, .int w] := by
  refine stp_mk (cQ_1 (sp_SC_status 9 S w)) (fun T g => ?_)
  have c := cQ_1 (sp_M_status 9 T w)
  unfold cl_status at g ⊢
  unfold ml_status at c
  by_cases h1 : w < -1
  · rw [if_pos h1] at g ⊢
    rw [if_neg (fun z => Int32.not_lt.mpr z.1 h1)] at c
    exact end_f h g c rfl
  · rw [if_neg h1] at g ⊢
    by_cases h2 : w < 7
    · rw [if_pos h2] at g ⊢
      have l6 : w ≤ 6 := by
        rw [fa_le, i6]
        rw [fa_lt, i7] at h2
        omega
      rw [if_pos ⟨Int32.not_lt.mp h1, l6⟩] at c
      by_cases h3 : w < 0
      · rw [if_pos h3] at g ⊢
        have e : T.2.1 66 = S.2.1 4 := (g.2.1 66 rfl).trans h.2.2.1.symm
        exact end_q h g c (by rw [e, stS_neg _ _ h3])
      · rw [if_neg h3] at g ⊢
        have e : T.2.1 66 = S.2.1 4 := (g.2.1 66 rfl).trans h.2.2.1.symm
        obtain ⟨q, hq, rfl⟩ := nI_of h3
        have q7 : q < 7 := Nat.lt_of_not_le fun z => nI_nlt (b := 7) z (by omega) h2
        rw [nI_clamp hq] at g ⊢
        exact end_q h g c (by rw [e, stS_at _ q (by omega) 7 (by omega), if_pos q7])
    · rw [if_neg h2] at g ⊢
      have l6 : ¬ w ≤ 6 := fun z => h2 (Int32.lt_of_le_of_lt z (by decide))
      rw [if_neg (fun z => l6 z.2)] at c
      exact end_f h g c rfl
/-- the bytes of a number, one after another -/
def frF (b : Nat → Int32) : Nat → Nat → (Nat → Int32) → Nat → Int32
  | 0, _, r => r
  | i + 1, L, r => frF b i (L + 1) (upd r L (b i))
theorem frF_cong {b b' : Nat → Int32} : ∀ i L r, (∀ j, j < i → b j = b' j) → frF b i L r = frF b' i L r
  | 0, _, _, _ => rfl
  | i + 1, L, r, h => by
    unfold frF
    rw [h i (by omega)]
    exact frF_cong i (L + 1) _ (fun j hj => h j (by omega))
theorem fdB4_fr (x : Int32) : ∀ i L S, S.1 51 1 = nI L → fdB4 x i L S = uF (uI S 52 (frF (fun i => us x (8 * nI i) &&& 255) i L (S.2.1 52))) 51 1 (nI (L + i))
  | 0, L, S, h => by
    show S = uF (uI S 52 (S.2.1 52)) 51 1 (nI L)
    rw [uI_self, ← h, uF_self]
  | i + 1, L, S, h => by
    have ih := fdB4_fr x i (L + 1) (apS S L (us x (8 * nI i) &&& 255)) rfl
    show fdB4 x i (L + 1) (apS S L (us x (8 * nI i) &&& 255)) = _
    rw [ih]
    have e1 : (apS S L (us x (8 * nI i) &&& 255)).2.1 52 = upd (S.2.1 52) L (us x (8 * nI i) &&& 255) := rfl
    have e2 : ∀ f, uI (apS S L (us x (8 * nI i) &&& 255)) 52 f = uF (uI S 52 f) 51 1 (nI (L + 1)) := fun f => by
      show uF (uI (uI S 52 (upd (S.2.1 52) L (us x (8 * nI i) &&& 255))) 52 f) 51 1 (nI (L + 1)) = _
      rw [uI_uI]
    rw [e1, e2, uF_uF, show L + 1 + i = L + (i + 1) by omega]
    rfl
theorem fdM4_fr (x : Int32) : ∀ i L S, S.1 61 13 = nI L → fdM4 x i L S = uF (uI S 67 (frF (fun i => x >>> ((8 * nI i) &&& 31) &&& 255) i L (S.2.1 67))) 61 13 (nI (L + i))
  | 0, L, S, h => by
    show S = uF (uI S 67 (S.2.1 67)) 61 13 (nI L)
    rw [uI_self, ← h, uF_self]
  | i + 1, L, S, h => by
    have ih := fdM4_fr x i (L + 1) (apM S L (x >>> ((8 * nI i) &&& 31) &&& 255)) rfl
    show fdM4 x i (L + 1) (apM S L (x >>> ((8 * nI i) &&& 31) &&& 255)) = _
    rw [ih]
    have e1 : (apM S L (x >>> ((8 * nI i) &&& 31) &&& 255)).2.1 67 = upd (S.2.1 67) L (x >>> ((8 * nI i) &&& 31) &&& 255) := rfl
    have e2 : ∀ f, uI (apM S L (x >>> ((8 * nI i) &&& 31) &&& 255)) 67 f = uF (uI S 67 f) 61 13 (nI (L + 1)) := fun f => by
      show uF (uI (uI S 67 (upd (S.2.1 67) L (x >>> ((8 * nI i) &&& 31) &&& 255))) 67 f) 61 13 (nI (L + 1)) = _
      rw [uI_uI]
    rw [e1, e2, uF_uF, show L + 1 + i = L + (i + 1) by omega]
    rfl
theorem by_eq (x : Int32) {i : Nat} (hi : i < 4) : us x (8 * nI i) &&& 255 = x >>> ((8 * nI i) &&& 31) &&& 255 := by
  have e8 : 8 * nI i = nI (8 * i) := nI_mu 8 i
  apply b_ext
  intro j hj
  rw [e8, b_and, b_and, b_255]
  unfold us
  rw [b_ushr (8 * i) (by omega), b_sshr (8 * i) (by omega) x hj]
  by_cases l : j < 8
  · rw [if_pos (by omega)]
  · rw [decide_eq_false l, Bool.and_false, Bool.and_false]
theorem st_feed (S : hs_S) (n : Nat) (h : Rel S n) (x y : Int32) : stp S 91 [.ref 1, .int x, .int y] 178 [.ref 61, .int x, .int y] := by
  obtain ⟨⟨L, hL, a, b⟩, t⟩ := h.2.2.2.1
  refine stp_mk (cQ_1 (sp_SC_feed 9 S L x y a hL)) (fun T g => ?_)
  have c := fun e => cQ_1 (sp_M_feed 9 T L x y e hL)
  unfold cl_feed at g ⊢
  unfold ml_feed at c
  by_cases h1 : 1 ≤ y ∧ y ≤ 4
  · rw [if_pos h1] at g ⊢
    simp only [if_pos h1] at c
    obtain ⟨q, hq, rfl⟩ := nI_of (Int32.not_lt.mpr (Int32.le_trans (show (0 : Int32) ≤ 1 by decide) h1.1))
    have q4 : q ≤ 4 := Nat.le_of_not_lt fun z => nI_ge (a := 4) z (by omega) h1.2
    rw [nI_clamp hq] at g c ⊢
    by_cases h2 : L + q ≤ 120
    · rw [if_pos h2] at g ⊢
      simp only [if_pos h2] at c
      rw [fdB4_fr x q L S a] at g ⊢
      have e13 : T.1 61 13 = nI L := (g.1 61 13 rfl).trans b
      have c := c e13
      have e67 : T.2.1 67 = S.2.1 52 := (g.2.1 67 rfl).trans t.symm
      rw [fdM4_fr x q L T e13, e67, ← frF_cong (b := fun i => us x (8 * nI i) &&& 255) q L (S.2.1 52) (fun j hj => by_eq x (show j < 4 by omega))] at c
      exact ⟨_, c, rfl, n, Rel_jk (Rel_tape h h2 (frF (fun i => us x (8 * nI i) &&& 255) q L (S.2.1 52))) (jk_uF2 (jk_uI2 g 67 _) 61 13 _)⟩
    · rw [if_neg h2] at g ⊢
      simp only [if_neg h2] at c
      exact end_f h g (c ((g.1 61 13 rfl).trans b)) rfl
  · rw [if_neg h1] at g ⊢
    simp only [if_neg h1] at c
    exact end_f h g (c ((g.1 61 13 rfl).trans b)) rfl
theorem cp_same (S : hs_S) {a b n x q : Nat} (hn : n ≤ 8) (hq : q ≤ 8) (h : a + 12 ≤ x ∨ x + 12 ≤ a) : lSame S (cpL S a b n) x q :=
  ⟨fun k _ _ => cpL_oF S a b n (by omega) (by omega), fun p _ => by rw [cpL_oI S a b n (by omega) (by omega)], fun p _ => by rw [cpL_oI S a b n (by omega) (by omega)], fun c hc => ⟨cpL_oK S a b n (by omega), fun k _ _ => cpL_oF S a b n (by omega) (by omega)⟩⟩
theorem st_image (S : hs_S) (n : Nat) (h : Rel S n) : stp S 100 [.ref 1] 203 [.ref 61] := by
  obtain ⟨H, hH, o⟩ := Rel_ok h
  have n8 := r_n8 h
  have r : Rel (uF (uI (uF (cpL S 23 11 n) 1 4 1) 63 (fa_fill (S.2.1 62) (S.2.1 63) 83)) 61 5 1) n := by
    have l1 : LL (cpL S 23 11 n) 23 n (S.2.1 62) := LL_copy (by omega) h.1
    have l2 : LL (cpL S 23 11 n) 11 n (S.2.1 62) := LL_same h.1 (cp_same S n8 n8 (by omega))
    have ls : ∀ a q, q ≤ 8 → a = 11 ∨ a = 23 → lSame (cpL S 23 11 n) (uF (uI (uF (cpL S 23 11 n) 1 4 1) 63 (fa_fill (S.2.1 62) (S.2.1 63) 83)) 61 5 1) a q := fun a q hq ha =>
      lSame_tr (lSame_tr (lSame_uF _ _ hq (by omega)) (lSame_uI _ _ (by omega))) (lSame_uF _ _ hq (by omega))
    obtain ⟨⟨L, hL, ta, tb⟩, tt⟩ := h.2.2.2.1
    refine ⟨LL_same l2 (ls 11 n n8 (Or.inl rfl)), ⟨rfl, Or.inr ⟨rfl, n, ?_⟩⟩, h.2.2.1, ⟨⟨L, hL, (cpL_oF S 23 11 n (x := 51) (k := 1) (by omega) (by omega)).trans ta, (cpL_oF S 23 11 n (x := 61) (k := 13) (by omega) (by omega)).trans tb⟩, tt⟩, sRel_same h.2.2.2.2 rfl rfl rfl (fun s hs k => ?_)⟩
    · exact LL_row (LL_same l1 (ls 23 n n8 (Or.inr rfl))) (fun i hi => fa_fill_in hi)
    · rw [uF_off _ _ _ _ (Or.inl (tp_s hs (by omega)))]
      show (uF (cpL S 23 11 n) 1 4 1).1 (53 + 2 * s) k = _
      rw [uF_off _ _ _ _ (Or.inl (tp_s hs (by omega))), cpL_oF S 23 11 n (by omega) (by omega)]
  refine stp_mk (cQ_1 (sp_SC_image 8 S n H o)) (fun T g => ?_)
  have e62 : T.2.1 62 = S.2.1 62 := (g.2.1 62 rfl).trans rfl
  have e63 : T.2.1 63 = S.2.1 63 := (g.2.1 63 rfl).trans rfl
  have c := cQ_1 (sp_M_image 10 T)
  rw [e62, e63] at c
  exact ⟨_, c, rfl, n, Rel_jk r (jk_uF2 (jk_uI2 g 63 _) 61 5 1)⟩
theorem jo_cpL {S : hs_S} {b q : Nat} (hq : q ≤ 8) : jo S (cpL S 11 b q) := by
  refine ⟨fun x k e => ?_, fun x e => ?_, fun x e => rfl, fun x e => ?_⟩
  · have z : ¬ (11 ≤ x ∧ x < 23) := fun z => by
      rw [oF_11 z] at e
      cases e
    exact cpL_oF S 11 b q (by omega) (by omega)
  · refine cpL_oI S 11 b q (fun z => ?_) (fun z => ?_)
    · subst z
      exact absurd e (by decide)
    · subst z
      exact absurd e (by decide)
  · have z : ¬ (11 ≤ x ∧ x < 23) := fun z => by
      rw [oK_11 z] at e
      cases e
    exact cpL_oK S 11 b q (by omega)
theorem st_undo (S : hs_S) (n : Nat) (h : Rel S n) : stp S 101 [.ref 1] 204 [.ref 61] := by
  rcases h.2.1.2 with k0 | ⟨k1, q, l⟩
  · refine stp_mk (cQ_1 (sp_SC_undo 8 S 0 (Or.inl k0))) (fun T g => ?_)
    have c := cQ_1 (sp_M_undo 9 T)
    unfold cl_undo at g ⊢
    unfold ml_undo at c
    rw [if_pos k0] at g ⊢
    have e5 : T.1 61 5 = 0 := (g.1 61 5 rfl).trans (h.2.1.1.trans k0)
    rw [if_pos e5] at c
    exact end_f h g c rfl
  · have ne : ¬ S.1 1 4 = 0 := by rw [k1]; decide
    refine stp_mk (cQ_1 (sp_SC_undo 8 S q (Or.inr ⟨l.1.1, l.1.2.1⟩))) (fun T g => ?_)
    have c := cQ_1 (sp_M_undo 9 T)
    unfold cl_undo at g ⊢
    unfold ml_undo at c
    rw [if_neg ne] at g ⊢
    have e5 : T.1 61 5 = S.1 1 4 := (g.1 61 5 (by rfl)).trans ((cpL_oF S 11 23 q (by omega) (by have := l.1.1; omega)).trans h.2.1.1)
    have e63 : T.2.1 63 = S.2.1 63 := (g.2.1 63 rfl).trans (cpL_oI S 11 23 q (by omega) (by omega))
    have e62 : T.2.1 62 = S.2.1 62 := (g.2.1 62 rfl).trans (cpL_oI S 11 23 q (by omega) (by omega))
    rw [if_neg (by rw [e5]; exact ne), e62, e63] at c
    refine ⟨_, c, l.2.1, q, fin_row h (jo_cpL l.1.1) ?_ g⟩
    exact LL_row (LL_copy (by omega) l) (fun i hi => fa_fill_in hi)
