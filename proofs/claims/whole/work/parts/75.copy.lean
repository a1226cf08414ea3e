/-! a land copied, with its row -/
theorem cpL_c (S : hs_S) (a b n c k : Nat) (hn : n ≤ 8) (hab : a + 12 ≤ b ∨ b + 12 ≤ a) (hc : c < n) (hk : 1 ≤ k ∧ k ≤ 5) : (cpL S a b n).1 (a + 4 + c) k = S.1 (b + 4 + c) k := by
  unfold cpL
  rw [uF_off _ _ _ _ (Or.inl (by omega)), uF_off _ _ _ _ (Or.inl (by omega))]
  show (if (a + 4 ≤ a + 4 + c ∧ a + 4 + c < a + 4 + n) ∧ (1 ≤ k ∧ k ≤ 5) then _ else _) = _
  rw [if_pos (by omega), show a + 4 + c - a + b = b + 4 + c by omega, uF_off _ _ _ _ (Or.inl (by omega))]
  rfl
theorem cpL_k (S : hs_S) (a b n c : Nat) (hc : c < n) : (cpL S a b n).2.2.2 (a + 4 + c) = S.2.2.2 (b + 4 + c) := by
  show (if a + 4 ≤ a + 4 + c ∧ a + 4 + c < a + 4 + n then _ else _) = _
  rw [if_pos (by omega), show a + 4 + c - a + b = b + 4 + c by omega]
  rfl
theorem cpL_f (S : hs_S) (a b n k : Nat) (hk : 3 ≤ k ∧ k ≤ 5) : (cpL S a b n).1 a k = S.1 b k := by
  unfold cpL
  rcases (show k = 3 ∨ k = 4 ∨ k = 5 by omega) with rfl | rfl | rfl
  · rw [uF_off _ _ _ _ (Or.inr (by decide)), uF_off _ _ _ _ (Or.inr (by decide)), lpK_off _ _ _ _ (Or.inl (by omega)), uF_at]
  · rw [uF_off _ _ _ _ (Or.inr (by decide)), uF_at]
  · rw [uF_at]
theorem cpL_p (S : hs_S) (a b n p : Nat) (hp0 : p < 16) : (cpL S a b n).2.1 (a + 1) p = S.2.1 (b + 1) p := by
  show (uI (uI S (a + 1) _) (a + 2) _).2.1 (a + 1) p = _
  rw [uI_off _ _ _ (by omega), uI_at]
  unfold va_cpy
  rw [if_pos (by omega), show 0 + (p - 0) = p by omega]
theorem cpL_r (S : hs_S) (a b n p : Nat) (hp0 : p < 16) : (cpL S a b n).2.1 (a + 2) p = S.2.1 (b + 2) p := by
  show (uI (uI S (a + 1) _) (a + 2) _).2.1 (a + 2) p = _
  rw [uI_at]
  unfold va_cpy
  rw [if_pos (by omega), show 0 + (p - 0) = p by omega]
theorem cpL_oF (S : hs_S) (a b n : Nat) {x k : Nat} (h1 : x ≠ a) (h2 : x < a + 4 ∨ a + 4 + n ≤ x) : (cpL S a b n).1 x k = S.1 x k := by
  unfold cpL
  rw [uF_off _ _ _ _ (Or.inl h1), uF_off _ _ _ _ (Or.inl h1), lpK_off _ _ _ _ (by omega), uF_off _ _ _ _ (Or.inl h1)]
  rfl
theorem cpL_oI (S : hs_S) (a b n : Nat) {x : Nat} (h1 : x ≠ a + 1) (h2 : x ≠ a + 2) : (cpL S a b n).2.1 x = S.2.1 x := by
  show (uI (uI S (a + 1) _) (a + 2) _).2.1 x = _
  rw [uI_off _ _ _ h2, uI_off _ _ _ h1]
theorem cpL_J (S : hs_S) (a b n : Nat) : (cpL S a b n).2.2.1 = S.2.2.1 := rfl
theorem cpL_oK (S : hs_S) (a b n : Nat) {x : Nat} (h2 : x < a + 4 ∨ a + 4 + n ≤ x) : (cpL S a b n).2.2.2 x = S.2.2.2 x := if_neg (by omega)
theorem LL_copy {S : hs_S} {a b n : Nat} {w : Nat → Int32} (hab : a + 12 ≤ b ∨ b + 12 ≤ a) (h : LL S b n w) : LL (cpL S a b n) a n w := by
  obtain ⟨⟨h1, h2, h3, h4, h5, h6, h7⟩, r0, r1, r2, r3, r4, r5⟩ := h
  refine ⟨⟨h1, ?_, ?_, ?_, fun p hp0 => ?_, fun p hp0 => ?_, fun c hc => ?_⟩, r0, ?_, ?_, fun p hp0 => ?_, fun p hp0 => ?_, fun c hc => ⟨?_, fun q q1 q5 => ?_⟩⟩
  · rw [cpL_f _ _ _ _ _ (by omega)]; exact h2
  · rw [cpL_f _ _ _ _ _ (by omega)]; exact h3
  · rw [cpL_f _ _ _ _ _ (by omega)]; exact h4
  · rw [cpL_p _ _ _ _ _ hp0]; exact h5 p hp0
  · rw [cpL_r _ _ _ _ _ hp0]; exact h6 p hp0
  · have := h7 c hc
    unfold cOk at this ⊢
    rw [cpL_k _ _ _ _ _ hc, cpL_c _ _ _ _ _ _ h1 hab hc (by omega), cpL_c _ _ _ _ _ _ h1 hab hc (by omega), cpL_c _ _ _ _ _ _ h1 hab hc (by omega), cpL_c _ _ _ _ _ _ h1 hab hc (by omega), cpL_c _ _ _ _ _ _ h1 hab hc (by omega)]
    exact this
  · rw [cpL_f _ _ _ _ _ (by omega)]; exact r1
  · rw [cpL_f _ _ _ _ _ (by omega)]; exact r2
  · rw [cpL_p _ _ _ _ _ hp0]; exact r3 p hp0
  · rw [cpL_r _ _ _ _ _ hp0]; exact r4 p hp0
  · rw [cpL_k _ _ _ _ _ hc]; exact (r5 c hc).1
  · rw [cpL_c _ _ _ _ _ _ h1 hab hc ⟨q1, q5⟩]; exact (r5 c hc).2 q q1 q5
theorem jk_uF2 {S T : hs_S} (h : jk S T) (a k : Nat) (v : Int32) : jk (uF S a k v) (uF T a k v) := by
  refine ⟨fun b j e => ?_, h.2⟩
  rw [uF_1, uF_1, h.1 b j e]
theorem LL_row {S : hs_S} {a n : Nat} {w w' : Nat → Int32} (h : LL S a n w) (e : ∀ i, i < 83 → w' i = w i) : LL S a n w' := by
  obtain ⟨⟨h1, h2, h3, h4, h5, h6, h7⟩, r0, r1, r2, r3, r4, r5⟩ := h
  refine ⟨⟨h1, h2, h3, h4, h5, h6, h7⟩, by rw [e 0 (by omega)]; exact r0, by rw [e 1 (by omega)]; exact r1, by rw [e 2 (by omega)]; exact r2, fun p hp0 => by rw [e _ (by omega)]; exact r3 p hp0, fun p hp0 => by rw [e _ (by omega)]; exact r4 p hp0, fun c hc => ⟨by rw [e _ (by omega)]; exact (r5 c hc).1, fun q q1 q5 => by rw [e _ (by omega)]; exact (r5 c hc).2 q q1 q5⟩⟩
