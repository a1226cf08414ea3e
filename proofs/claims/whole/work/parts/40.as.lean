/-! as -/
theorem lk_und (S : hs_S) {k : Nat} (hk : k < 6) : (sx_kl (hp S) (5 + k)).bind (fun c => List.lookup c ([(0, 20), (1, 20), (3, 20), (4, 20), (5, 20), (7, 20)] : List (Nat × Nat))) = some 20 := by
  rw [KL_k S hk]
  rcases lt6 hk with rfl | rfl | rfl | rfl | rfl | rfl <;> rfl
def cl_as (S : hs_S) (n : Nat) (c k : Int32) : Int32 × hs_S :=
  if (0 ≤ c ∧ c < nI n) ∧ (0 ≤ k ∧ k < 6) then
    if und (S.2.2.2 (15 + c.toNatClampNeg)) k.toNatClampNeg = true then (S.1 (15 + c.toNatClampNeg) 2, S) else (-1000000003, fdS S 2)
  else (-1000000001, fdS S 0)
theorem sp_SC_as (d : Nat) (S : hs_S) (n : Nat) (c k : Int32) (hn : n ≤ 8) (hc : S.1 11 3 = nI n) (hk : okC S n) : sx_call (d + 2) 75 [.ref 1, .int c, .int k] (hp S) = o1 (cl_as S n c k) := by
  rw [cz75]
  have f0 := sp_SC_finding d S 0 (-1000000001) (by decide) (by decide)
  have f2 := sp_SC_finding d S 2 (-1000000003) (by decide) (by decide)
  unfold cl_as o1
  by_cases h : 0 ≤ c ∧ c < nI n
  · by_cases h2 : 0 ≤ k ∧ k < 6
    · obtain ⟨m, hm, rfl⟩ := car_of hn h
      obtain ⟨q, hq, rfl⟩ := k6_of h2
      have ha := car15 (show m < 8 by omega)
      have u := sp_Kind_isUnder d S (S.2.2.2 (15 + m)) q (hk m hm).1 hq
      rw [if_pos ⟨h, h2⟩, nI_clamp (show m < 2 ^ 31 by omega), nI_clamp (show q < 2 ^ 31 by omega)]
      by_cases h3 : und (S.2.2.2 (15 + m)) q = true
      · simp only [ez75_0, ez75_1, ez75_2, ez75_5, ez75_8, ez75_9, ez75_12, ez75_15, ez75_16, ez75_18, ez75_21, ez75_22, ez75_23, ez75_26, ez75_29, ez75_30, ez75_31, ez75_32, ez75_33, ez75_36, ez75_37, ez75_40, ez75_41, ez75_42, ez75_45, ez75_48, ez75_49, ez75_52, ez75_55, ez75_56, ez75_58, ez75_61, sp_SC_isCarrier, sp_SC_isKind, tl_s, bI_eq0, KL_1, if_true, hc, h, h2, and_self, not_true, not_false_iff, if_false, GF_1_0, GF_1_1, GF_11_2, Option.bind_some, GQ_14 _ m (show m < 8 by omega), GQ_2 _ q hq, GC_0 _ ha, GC_2 _ ha, lk_und S (hk m hm).1, u, h3]
      · simp only [ez75_0, ez75_1, ez75_2, ez75_5, ez75_8, ez75_9, ez75_12, ez75_15, ez75_16, ez75_18, ez75_21, ez75_22, ez75_23, ez75_26, ez75_29, ez75_30, ez75_31, ez75_32, ez75_33, ez75_36, ez75_37, ez75_40, ez75_41, ez75_42, ez75_45, ez75_48, ez75_49, ez75_52, ez75_55, ez75_56, ez75_58, ez75_61, sp_SC_isCarrier, sp_SC_isKind, tl_s, bI_eq0, KL_1, if_true, hc, h, h2, and_self, not_true, not_false_iff, if_false, GF_1_0, GF_1_1, GF_11_2, Option.bind_some, GQ_14 _ m (show m < 8 by omega), GQ_2 _ q hq, GC_0 _ ha, lk_und S (hk m hm).1, u, h3, f2, Bool.false_eq_true]
    · simp [ez75_0, ez75_1, ez75_2, ez75_5, ez75_8, ez75_9, ez75_12, ez75_15, ez75_16, ez75_18, ez75_21, ez75_22, ez75_23, ez75_26, ez75_29, ez75_30, ez75_31, ez75_32, ez75_33, ez75_36, ez75_37, ez75_40, ez75_41, ez75_42, ez75_45, ez75_48, ez75_49, ez75_52, ez75_55, ez75_56, ez75_58, ez75_61, sp_SC_isCarrier, sp_SC_isKind, tl_s, bI_eq0, KL_1, hc, h, h2, f0]
  · simp [ez75_0, ez75_1, ez75_2, ez75_5, ez75_8, ez75_9, ez75_12, ez75_15, ez75_16, ez75_18, ez75_21, ez75_22, ez75_23, ez75_26, ez75_29, ez75_30, ez75_31, ez75_32, ez75_33, ez75_36, ez75_37, ez75_40, ez75_41, ez75_42, ez75_45, ez75_48, ez75_49, ez75_52, ez75_55, ez75_56, ez75_58, ez75_61, sp_SC_isCarrier, tl_s, bI_eq0, KL_1, hc, h, f0]
