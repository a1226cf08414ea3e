/-! firstFound -/
theorem setC_off (S : hs_S) (a k : Nat) (pl sh co du ca : Int32) {b j : Nat} (h : b ≠ a) : (setC S a k pl sh co du ca).1 b j = S.1 b j := by
  unfold setC
  dsimp only
  rw [if_neg h]
theorem setC_k (S : hs_S) (a k : Nat) (pl sh co du ca : Int32) {b : Nat} (h : b ≠ a) : (setC S a k pl sh co du ca).2.2.2 b = S.2.2.2 b := by
  unfold setC
  dsimp only
  rw [if_neg h]
/-- the ghost apart, nothing has changed -/
def gSame (S T : hs_S) : Prop := (∀ b k, b ≠ 50 → T.1 b k = S.1 b k) ∧ T.2.1 = S.2.1 ∧ T.2.2.1 = S.2.2.1 ∧ ∀ b, b ≠ 50 → T.2.2.2 b = S.2.2.2 b
theorem gSame_T (S : hs_S) (m : Nat) : gSame S (ghT S m) := ⟨fun _ _ h => setC_off S 50 _ _ _ _ _ _ h, rfl, rfl, fun _ h => setC_k S 50 _ _ _ _ _ _ h⟩
theorem gSame_K (T : hs_S) (H j : Nat) : gSame T (ghK T H j) := ⟨fun _ _ h => ghK_off T H (Or.inl h) j, by rw [ghK_2], by rw [ghK_2], fun _ _ => by rw [ghK_2]⟩
theorem gSame_trans {S T U : hs_S} (h : gSame S T) (g : gSame T U) : gSame S U := ⟨fun b k e => (g.1 b k e).trans (h.1 b k e), g.2.1.trans h.2.1, g.2.2.1.trans h.2.2.1, fun b e => (g.2.2.2 b e).trans (h.2.2.2 b e)⟩
theorem gSame_hf (T : hs_S) (H : Nat) : ∀ m j, gSame T (hfF T H m j).2
  | 0, j => gSame_K T H j
  | m + 1, j => by
    unfold hfF
    by_cases h : fnN (ghK T H j) 50 (nI (H + j)) = true
    · rw [if_pos h]
      exact gSame_K T H (j + 1)
    · rw [if_neg h]
      exact gSame_hf T H m (j + 1)
theorem hOk_same {S T : hs_S} {n H : Nat} (h : hOk S n H) (g : gSame S T) : hOk T n H := by
  have n8 := h.n8
  refine ⟨h.n8, (g.1 11 3 (by decide)).trans h.cnt, (g.1 11 4 (by decide)).trans h.hr, h.H1, fun j hj => ⟨?_, ?_⟩⟩
  · rw [g.2.2.2 (15 + j) (by omega)]
    exact (h.car j hj).1
  · rw [g.1 (15 + j) 1 (by omega)]
    exact (h.car j hj).2
