/-! THE RELATION of a land and a row: what changes on both sides -/
def rngC (k : Nat) (v : Int32) : Prop := (k = 1 → ∃ u, u < 16 ∧ v = nI u) ∧ (k = 2 → ∃ u, u ≤ 99 ∧ v = nI u) ∧ (k = 3 → ∃ u, u ≤ 9 ∧ v = nI u) ∧ (k = 4 → ∃ u, u ≤ 9 ∧ v = nI u) ∧ (k = 5 → ∃ u, u ≤ 999999 ∧ v = nI u)
theorem uF_if (S : hs_S) (x k : Nat) (v : Int32) (j : Nat) : (uF S x k v).1 x j = if j = k then v else S.1 x j := by
  rw [uF_1]
  by_cases h : j = k
  · rw [if_pos ⟨rfl, h⟩, if_pos h]
  · rw [if_neg (fun z => h z.2), if_neg h]
theorem cOk_uF {S : hs_S} {x k : Nat} {v : Int32} (h : cOk S x) (r : rngC k v) : cOk (uF S x k v) x := by
  obtain ⟨h0, h1, h2, h3, h4, h5⟩ := h
  obtain ⟨r1, r2, r3, r4, r5⟩ := r
  unfold cOk
  rw [uF_if, uF_if, uF_if, uF_if, uF_if]
  refine ⟨h0, ?_, ?_, ?_, ?_, ?_⟩
  · by_cases e : 1 = k
    · rw [if_pos e]; exact r1 e.symm
    · rw [if_neg e]; exact h1
  · by_cases e : 2 = k
    · rw [if_pos e]; exact r2 e.symm
    · rw [if_neg e]; exact h2
  · by_cases e : 3 = k
    · rw [if_pos e]; exact r3 e.symm
    · rw [if_neg e]; exact h3
  · by_cases e : 4 = k
    · rw [if_pos e]; exact r4 e.symm
    · rw [if_neg e]; exact h4
  · by_cases e : 5 = k
    · rw [if_pos e]; exact r5 e.symm
    · rw [if_neg e]; exact h5
theorem cOk_cong {S T : hs_S} {x : Nat} (h : cOk S x) (hk : T.2.2.2 x = S.2.2.2 x) (hf : ∀ k, 1 ≤ k → k ≤ 5 → T.1 x k = S.1 x k) : cOk T x := by
  unfold cOk at h ⊢
  rw [hk, hf 1 (by omega) (by omega), hf 2 (by omega) (by omega), hf 3 (by omega) (by omega), hf 4 (by omega) (by omega), hf 5 (by omega) (by omega)]
  exact h
/-- a field of a carrier -/
theorem LL_car {S : hs_S} {a n c k : Nat} {w : Nat → Int32} {v : Int32} (h : LL S a n w) (hc : c < n) (hk : 1 ≤ k ∧ k ≤ 5) (r : rngC k v) : LL (uF S (a + 4 + c) k v) a n (upd w (35 + 6 * c + k) v) := by
  obtain ⟨⟨h1, h2, h3, h4, h5, h6, h7⟩, r0, r1, r2, r3, r4, r5⟩ := h
  have off : ∀ j, (uF S (a + 4 + c) k v).1 a j = S.1 a j := fun j => uF_off S _ _ _ (Or.inl (by omega))
  refine ⟨⟨h1, by rw [off]; exact h2, by rw [off]; exact h3, by rw [off]; exact h4, h5, h6, fun c' hc' => ?_⟩, ?_, ?_, ?_, fun p hp0 => ?_, fun p hp0 => ?_, fun c' hc' => ⟨?_, fun q q1 q5 => ?_⟩⟩
  · by_cases e : c' = c
    · subst e
      exact cOk_uF (h7 c' hc') r
    · exact cOk_cong (h7 c' hc') rfl (fun j _ _ => uF_off S _ _ _ (Or.inl (by omega)))
  · rw [upd_ne _ _ (by omega)]; exact r0
  · rw [upd_ne _ _ (by omega), off]; exact r1
  · rw [upd_ne _ _ (by omega), off]; exact r2
  · rw [upd_ne _ _ (by omega)]; exact r3 p hp0
  · rw [upd_ne _ _ (by omega)]; exact r4 p hp0
  · rw [upd_ne _ _ (by omega)]; exact (r5 c' hc').1
  · by_cases e : c' = c
    · subst e
      rw [uF_if]
      by_cases e2 : q = k
      · subst e2
        rw [if_pos rfl, upd_at]
      · rw [if_neg e2, upd_ne _ _ (by omega)]
        exact (r5 c' hc').2 q q1 q5
    · rw [uF_off S _ _ _ (Or.inl (by omega)), upd_ne _ _ (by omega)]
      exact (r5 c' hc').2 q q1 q5
theorem LL_kind {S : hs_S} {a n c k : Nat} {w : Nat → Int32} (h : LL S a n w) (hc : c < n) (hk : k < 6) : LL (uK S (a + 4 + c) k) a n (upd w (35 + 6 * c + 0) (nI k)) := by
  obtain ⟨⟨h1, h2, h3, h4, h5, h6, h7⟩, r0, r1, r2, r3, r4, r5⟩ := h
  refine ⟨⟨h1, h2, h3, h4, h5, h6, fun c' hc' => ?_⟩, ?_, ?_, ?_, fun p hp0 => ?_, fun p hp0 => ?_, fun c' hc' => ⟨?_, fun q q1 q5 => ?_⟩⟩
  · obtain ⟨k0, kr⟩ := h7 c' hc'
    refine ⟨?_, kr⟩
    rw [uK_4]
    by_cases e : a + 4 + c' = a + 4 + c
    · rw [if_pos e]; exact hk
    · rw [if_neg e]; exact k0
  · rw [upd_ne _ _ (by omega)]; exact r0
  · rw [upd_ne _ _ (by omega)]; exact r1
  · rw [upd_ne _ _ (by omega)]; exact r2
  · rw [upd_ne _ _ (by omega)]; exact r3 p hp0
  · rw [upd_ne _ _ (by omega)]; exact r4 p hp0
  · rw [uK_4]
    by_cases e : c' = c
    · subst e
      rw [if_pos rfl, upd_at]
    · rw [if_neg (by omega), upd_ne _ _ (by omega)]
      exact (r5 c' hc').1
  · rw [upd_ne _ _ (by omega)]; exact (r5 c' hc').2 q q1 q5
theorem LL_post {S : hs_S} {a n p v : Nat} {w : Nat → Int32} (h : LL S a n w) (hp0 : p < 16) (hv : v ≤ 9) : LL (uI S (a + 1) (upd (S.2.1 (a + 1)) p (nI v))) a n (upd w (3 + p) (nI v)) := by
  obtain ⟨⟨h1, h2, h3, h4, h5, h6, h7⟩, r0, r1, r2, r3, r4, r5⟩ := h
  refine ⟨⟨h1, h2, h3, h4, fun p' hp' => ?_, fun p' hp' => ?_, h7⟩, ?_, ?_, ?_, fun p' hp' => ?_, fun p' hp' => ?_, fun c' hc' => ⟨?_, fun q q1 q5 => ?_⟩⟩
  · rw [uI_at]
    by_cases e : p' = p
    · rw [e, upd_at]; exact ⟨v, hv, rfl⟩
    · rw [upd_ne _ _ e]; exact h5 p' hp'
  · rw [uI_off _ _ _ (by omega)]; exact h6 p' hp'
  · rw [upd_ne _ _ (by omega)]; exact r0
  · rw [upd_ne _ _ (by omega)]; exact r1
  · rw [upd_ne _ _ (by omega)]; exact r2
  · rw [uI_at]
    by_cases e : p' = p
    · rw [e, upd_at, upd_at]
    · rw [upd_ne _ _ (by omega), upd_ne _ _ e]; exact r3 p' hp'
  · rw [uI_off _ _ _ (by omega), upd_ne _ _ (by omega)]; exact r4 p' hp'
  · rw [upd_ne _ _ (by omega)]; exact (r5 c' hc').1
  · rw [upd_ne _ _ (by omega)]; exact (r5 c' hc').2 q q1 q5
theorem LL_price {S : hs_S} {a n p v : Nat} {w : Nat → Int32} (h : LL S a n w) (hp0 : p < 16) (hv : v ≤ 99) : LL (uI S (a + 2) (upd (S.2.1 (a + 2)) p (nI v))) a n (upd w (19 + p) (nI v)) := by
  obtain ⟨⟨h1, h2, h3, h4, h5, h6, h7⟩, r0, r1, r2, r3, r4, r5⟩ := h
  refine ⟨⟨h1, h2, h3, h4, fun p' hp' => ?_, fun p' hp' => ?_, h7⟩, ?_, ?_, ?_, fun p' hp' => ?_, fun p' hp' => ?_, fun c' hc' => ⟨?_, fun q q1 q5 => ?_⟩⟩
  · rw [uI_off _ _ _ (by omega)]; exact h5 p' hp'
  · rw [uI_at]
    by_cases e : p' = p
    · rw [e, upd_at]; exact ⟨v, hv, rfl⟩
    · rw [upd_ne _ _ e]; exact h6 p' hp'
  · rw [upd_ne _ _ (by omega)]; exact r0
  · rw [upd_ne _ _ (by omega)]; exact r1
  · rw [upd_ne _ _ (by omega)]; exact r2
  · rw [uI_off _ _ _ (by omega), upd_ne _ _ (by omega)]; exact r3 p' hp'
  · rw [uI_at]
    by_cases e : p' = p
    · rw [e, upd_at, upd_at]
    · rw [upd_ne _ _ (by omega), upd_ne _ _ e]; exact r4 p' hp'
  · rw [upd_ne _ _ (by omega)]; exact (r5 c' hc').1
  · rw [upd_ne _ _ (by omega)]; exact (r5 c' hc').2 q q1 q5
theorem LL_clouds {S : hs_S} {a n : Nat} {w : Nat → Int32} {v : Int32} (h : LL S a n w) (hv : v = 0 ∨ v = 1) : LL (uF S a 5 v) a n (upd w 2 v) := by
  obtain ⟨⟨h1, h2, h3, h4, h5, h6, h7⟩, r0, r1, r2, r3, r4, r5⟩ := h
  have off : ∀ c j, (uF S a 5 v).1 (a + 4 + c) j = S.1 (a + 4 + c) j := fun c j => uF_off S _ _ _ (Or.inl (by omega))
  refine ⟨⟨h1, ?_, ?_, ?_, h5, h6, fun c' hc' => cOk_cong (h7 c' hc') rfl (fun j _ _ => off c' j)⟩, ?_, ?_, ?_, fun p' hp' => ?_, fun p' hp' => ?_, fun c' hc' => ⟨?_, fun q q1 q5 => ?_⟩⟩
  · rw [uF_off S _ _ _ (Or.inr (by omega))]; exact h2
  · rw [uF_off S _ _ _ (Or.inr (by omega))]; exact h3
  · rw [uF_at]; exact hv
  · rw [upd_ne _ _ (by omega)]; exact r0
  · rw [upd_ne _ _ (by omega), uF_off S _ _ _ (Or.inr (by omega))]; exact r1
  · rw [upd_at, uF_at]
  · rw [upd_ne _ _ (by omega)]; exact r3 p' hp'
  · rw [upd_ne _ _ (by omega)]; exact r4 p' hp'
  · rw [upd_ne _ _ (by omega)]; exact (r5 c' hc').1
  · rw [upd_ne _ _ (by omega), off]; exact (r5 c' hc').2 q q1 q5
theorem zrR_at (r : Nat → Int32) (m : Nat) : ∀ j i, zrR r m j i = if 35 + 6 * m ≤ i ∧ i < 35 + 6 * m + j then 0 else r i
  | 0, i => (if_neg (by omega)).symm
  | j + 1, i => by
    unfold zrR
    by_cases h : i = 35 + 6 * m + j
    · rw [h, upd_at, if_pos (by omega)]
    · rw [upd_ne _ _ h, zrR_at r m j i]
      by_cases h2 : 35 + 6 * m ≤ i ∧ i < 35 + 6 * m + j
      · rw [if_pos h2, if_pos (by omega)]
      · rw [if_neg h2, if_neg (by omega)]
theorem adR_off (r : Nat → Int32) (m : Nat) (k pl : Int32) {i : Nat} (h0 : i ≠ 0) (h : i < 35 + 6 * m ∨ 35 + 6 * m + 6 ≤ i) : adR r m k pl i = r i := by
  unfold adR
  rw [upd_ne _ _ h0, upd_ne _ _ (by omega), upd_ne _ _ (by omega), upd_ne _ _ (by omega), zrR_at, if_neg (by omega)]
theorem adR_0 (r : Nat → Int32) (m : Nat) (k pl : Int32) : adR r m k pl 0 = nI (m + 1) := upd_at _ _ _
theorem adR_q (r : Nat → Int32) (m : Nat) (k pl : Int32) {q : Nat} (hq : q < 6) : adR r m k pl (35 + 6 * m + q) = if q = 0 then k else if q = 1 then pl else if q = 2 then 20 else 0 := by
  unfold adR
  rw [upd_ne _ _ (by omega)]
  by_cases h2 : q = 2
  · subst h2
    rw [upd_at]
    rfl
  · rw [upd_ne _ _ (by omega)]
    by_cases h1 : q = 1
    · subst h1
      rw [upd_at]
      rfl
    · rw [upd_ne _ _ (by omega)]
      by_cases h0 : q = 0
      · subst h0
        rw [upd_at]
        rfl
      · rw [upd_ne _ _ (by omega), zrR_at, if_pos (by omega), if_neg h0, if_neg h1, if_neg h2]
theorem LL_add {S : hs_S} {a n k p : Nat} {w : Nat → Int32} (h : LL S a n w) (hn : n < 8) (hk : k < 6) (hp0 : p < 16) : LL (uF (setC S (a + 4 + n) k (nI p) 20 0 0 0) a 3 (nI (n + 1))) a (n + 1) (adR w n (nI k) (nI p)) := by
  obtain ⟨⟨h1, h2, h3, h4, h5, h6, h7⟩, r0, r1, r2, r3, r4, r5⟩ := h
  have oa : ∀ j, j ≠ 3 → (uF (setC S (a + 4 + n) k (nI p) 20 0 0 0) a 3 (nI (n + 1))).1 a j = S.1 a j := fun j hj => (uF_off _ _ _ _ (Or.inr hj)).trans (setC_off S _ _ _ _ _ _ _ (by omega))
  have oc : ∀ c j, c ≠ n → (uF (setC S (a + 4 + n) k (nI p) 20 0 0 0) a 3 (nI (n + 1))).1 (a + 4 + c) j = S.1 (a + 4 + c) j := fun c j hj => (uF_off _ _ _ _ (Or.inl (by omega))).trans (setC_off S _ _ _ _ _ _ _ (by omega))
  have on : ∀ j, (uF (setC S (a + 4 + n) k (nI p) 20 0 0 0) a 3 (nI (n + 1))).1 (a + 4 + n) j = if j = 1 then nI p else if j = 2 then 20 else if j = 3 then 0 else if j = 4 then 0 else if j = 5 then 0 else S.1 (a + 4 + n) j := fun j => (uF_off _ _ _ _ (Or.inl (by omega))).trans (if_pos rfl)
  have ok : ∀ c, c ≠ n → (uF (setC S (a + 4 + n) k (nI p) 20 0 0 0) a 3 (nI (n + 1))).2.2.2 (a + 4 + c) = S.2.2.2 (a + 4 + c) := fun c hj => setC_k S (a + 4 + n) k (nI p) 20 0 0 0 (by omega)
  have okn : (uF (setC S (a + 4 + n) k (nI p) 20 0 0 0) a 3 (nI (n + 1))).2.2.2 (a + 4 + n) = k := if_pos rfl
  refine ⟨⟨by omega, uF_at _ _ _ _, ?_, ?_, h5, h6, fun c' hc' => ?_⟩, adR_0 _ _ _ _, ?_, ?_, fun p' hp' => ?_, fun p' hp' => ?_, fun c' hc' => ⟨?_, fun q q1 q5 => ?_⟩⟩
  · rw [oa 4 (by decide)]; exact h3
  · rw [oa 5 (by decide)]; exact h4
  · by_cases e : c' = n
    · subst e
      unfold cOk
      rw [okn, on, on, on, on, on]
      exact ⟨hk, ⟨p, hp0, rfl⟩, ⟨20, by omega, rfl⟩, ⟨0, by omega, rfl⟩, ⟨0, by omega, rfl⟩, ⟨0, by omega, rfl⟩⟩
    · exact cOk_cong (h7 c' (by omega)) (ok c' e) (fun j _ _ => oc c' j e)
  · rw [adR_off _ _ _ _ (by decide) (by omega), oa 4 (by decide)]; exact r1
  · rw [adR_off _ _ _ _ (by decide) (by omega), oa 5 (by decide)]; exact r2
  · rw [adR_off _ _ _ _ (by omega) (by omega)]; exact r3 p' hp'
  · rw [adR_off _ _ _ _ (by omega) (by omega)]; exact r4 p' hp'
  · by_cases e : c' = n
    · subst e
      rw [adR_q _ _ _ _ (by decide), okn]
      rfl
    · rw [adR_off _ _ _ _ (by omega) (by omega), ok c' e]
      exact (r5 c' (by omega)).1
  · by_cases e : c' = n
    · subst e
      rw [adR_q _ _ _ _ (by omega), on, if_neg (by omega)]
      rcases (show q = 1 ∨ q = 2 ∨ q = 3 ∨ q = 4 ∨ q = 5 by omega) with rfl | rfl | rfl | rfl | rfl <;> rfl
    · rw [adR_off _ _ _ _ (by omega) (by omega), oc c' q e]
      exact (r5 c' (by omega)).2 q q1 q5
