/-! firstFound, its loop -/
def ffF (H : Nat) : Nat → Nat → Int32 → Int32 → hs_S → Int32 × hs_S
  | 0, _, a, _, T => if a = -1000000004 then (-1000000004, fdS T 3) else (a, T)
  | m + 1, j, a, b, T => if b ≤ (hfF (ghT T j) H 60 0).1 then ffF H m (j + 1) a b (hfF (ghT T j) H 60 0).2 else ffF H m (j + 1) (nI j) (hfF (ghT T j) H 60 0).1 (hfF (ghT T j) H 60 0).2
theorem ff_loop (d n H : Nat) (hH : H ≤ 99999) : ∀ m j a b T l4, j + m = n → hOk T n H → sx_run (d + 7) 82 (8, [some (.ref 1), some (.int a), some (.int b), some (.int (nI j)), l4], [], hp T) = o1 (ffF H m j a b T) := by
  intro m
  induction m with
  | zero =>
    intro j a b T l4 hj h
    have n8 := h.n8
    have f3 := sp_SC_finding (d + 6) T 3 (-1000000004) (by decide) (by decide)
    rw [ez82_8]
    simp only [ez82_9, ez82_10, ez82_13, ez82_16, GF_1_1, GF_11_3, h.cnt, Option.bind_some, if_pos (nI_le (show n ≤ j by omega) (by omega))]
    unfold ffF o1
    by_cases e : a = -1000000004
    · simp [ez82_51, ez82_52, ez82_54, ez82_57, ez82_58, ez82_60, ez82_63, ez82_66, ez82_67, e, KL_1, f3, tl_s]
    · simp [ez82_51, ez82_52, ez82_54, ez82_57, ez82_58, ez82_60, ez82_63, ez82_66, ez82_67, e]
  | succ m ih =>
    intro j a b T l4 hj h
    have n8 := h.n8
    have u := sp_SC_hoursUntilFound d T n H j h hH (by omega)
    have k : hOk (hfF (ghT T j) H 60 0).2 n H := hOk_same h (gSame_trans (gSame_T T j) (gSame_hf (ghT T j) H 60 0))
    unfold ffF
    generalize hfF (ghT T j) H 60 0 = r at u k ⊢
    unfold o1 at u
    rw [ez82_8]
    simp only [ez82_9, ez82_10, ez82_13, ez82_16, ez82_19, ez82_20, ez82_21, ez82_24, ez82_27, ez82_28, ez82_29, ez82_32, ez82_34, ez82_36, ez82_37, ez82_40, ez82_42, ez82_43, ez82_44, ez82_45, ez82_48, GF_1_1, GF_11_2, GF_11_3, h.cnt, Option.bind_some, if_neg (nI_ge (show j < n by omega) (by omega)), GQ_14 _ j (show j < 8 by omega), KL_1, if_true, u, tl_s, nI_1]
    by_cases e : b ≤ r.1
    · rw [if_pos e, if_pos e]
      exact ih (j + 1) a b r.2 _ (by omega) k
    · rw [if_neg e, if_neg e]
      exact ih (j + 1) (nI j) r.1 r.2 _ (by omega) k
theorem sp_SC_firstFound (d : Nat) (S : hs_S) (n H : Nat) (h : hOk S n H) (hH : H ≤ 99999) : sx_call (d + 8) 82 [.ref 1] (hp S) = o1 (ffF H n 0 (-1000000004) 61 S) := by
  rw [cz82]
  simp only [ez82_0, ez82_2, ez82_3, ez82_5, ez82_6, ez82_7]
  exact ff_loop d n H hH n 0 (-1000000004) 61 S none (by omega) h
