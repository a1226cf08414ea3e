/-! found -/
def cl_found (S : hs_S) (n H : Nat) (c : Int32) : Int32 × hs_S :=
  if 0 ≤ c ∧ c < nI n then
    if (hfF (ghT S c.toNatClampNeg) H 60 0).1 ≤ 60 then hfF (ghT S c.toNatClampNeg) H 60 0
    else (-1000000004, fdS (hfF (ghT S c.toNatClampNeg) H 60 0).2 3)
  else (-1000000001, fdS S 0)
theorem sp_SC_found (d : Nat) (S : hs_S) (n H : Nat) (c : Int32) (h : hOk S n H) (hH : H ≤ 99999) : sx_call (d + 8) 81 [.ref 1, .int c] (hp S) = o1 (cl_found S n H c) := by
  rw [cz81]
  have f0 := sp_SC_finding (d + 6) S 0 (-1000000001) (by decide) (by decide)
  have hc := h.cnt
  unfold cl_found o1
  by_cases h1 : 0 ≤ c ∧ c < nI n
  · obtain ⟨m, hm, rfl⟩ := car_of h.n8 h1
    have n8 := h.n8
    rw [if_pos h1, nI_clamp (show m < 2 ^ 31 by omega)]
    have u := sp_SC_hoursUntilFound d S n H m h hH hm
    generalize hfF (ghT S m) H 60 0 = r at u ⊢
    unfold o1 at u
    have f3 := sp_SC_finding (d + 6) r.2 3 (-1000000004) (by decide) (by decide)
    by_cases h3 : r.1 ≤ 60
    · simp only [ez81_0, ez81_1, ez81_2, ez81_5, ez81_8, ez81_9, ez81_11, ez81_14, ez81_15, ez81_16, ez81_17, ez81_20, ez81_23, ez81_24, ez81_25, ez81_28, ez81_29, ez81_30, ez81_32, ez81_35, ez81_36, ez81_38, ez81_41, ez81_44, ez81_45, sp_SC_isCarrier, tl_s, bI_eq0, KL_1, if_true, hc, h1, and_self, not_true, not_false_iff, if_false, GF_1_1, GF_11_2, Option.bind_some, GQ_14 _ m (show m < 8 by omega), u, h3]
    · simp only [ez81_0, ez81_1, ez81_2, ez81_5, ez81_8, ez81_9, ez81_11, ez81_14, ez81_15, ez81_16, ez81_17, ez81_20, ez81_23, ez81_24, ez81_25, ez81_28, ez81_29, ez81_30, ez81_32, ez81_35, ez81_36, ez81_38, ez81_41, ez81_44, ez81_45, sp_SC_isCarrier, tl_s, bI_eq0, KL_1, if_true, hc, h1, and_self, not_true, not_false_iff, if_false, GF_1_1, GF_11_2, Option.bind_some, GQ_14 _ m (show m < 8 by omega), u, h3, f3]
  · simp [ez81_0, ez81_1, ez81_2, ez81_5, ez81_8, ez81_9, ez81_11, ez81_14, ez81_15, ez81_16, ez81_17, ez81_20, ez81_23, ez81_24, ez81_25, ez81_28, ez81_29, ez81_30, ez81_32, ez81_35, ez81_36, ez81_38, ez81_41, ez81_44, ez81_45, sp_SC_isCarrier, tl_s, bI_eq0, KL_1, hc, h1, f0]
