/-! THE STEP count: the ones of a number, counted twice -/
def n1 (x : Nat) : Nat := x - Nat.land (Nat.shiftRight x 1) 1431655765
def n2 (x : Nat) : Nat := Nat.land x 858993459 + Nat.land (Nat.shiftRight x 2) 858993459
def n3 (x : Nat) : Nat := Nat.land (x + Nat.shiftRight x 4) 252645135
def n4 (x : Nat) : Nat := x + Nat.shiftRight x 8
def n5 (x : Nat) : Nat := x + Nat.shiftRight x 16
def nLf (x : Nat) : Bool := Nat.ble (Nat.land (Nat.shiftRight x 1) 1431655765) x && (Nat.ble (n1 x) 65535 && (Nat.ble (n2 (n1 x)) 65535 && (Nat.ble (n3 (n2 (n1 x))) 65535 && (Nat.ble (n4 (n3 (n2 (n1 x)))) 65535 && Nat.beq (Nat.land (n5 (n4 (n3 (n2 (n1 x))))) 63) (onF 65536 x 0)))))
def nTr : Nat → Nat → Bool
  | 0, x => nLf x
  | d + 1, x => nTr d (2 * x) && nTr d (2 * x + 1)
theorem nTr_all : ∀ d x, nTr d x = true → ∀ k, k / 2 ^ d = x → nLf k = true
  | 0, x, h, k, e => by
    rw [Nat.pow_zero, Nat.div_one] at e
    rw [e]
    exact h
  | d + 1, x, h, k, e => by
    have h' : (nTr d (2 * x) && nTr d (2 * x + 1)) = true := h
    rw [Bool.and_eq_true] at h'
    have e2 : k / 2 ^ d / 2 = x := by
      rw [Nat.div_div_eq_div_mul, ← Nat.pow_succ]
      exact e
    by_cases z : k / 2 ^ d = 2 * x
    · exact nTr_all d (2 * x) h'.1 k z
    · exact nTr_all d (2 * x + 1) h'.2 k (by omega)
theorem nTr_0 : nTr 16 0 = true := by decide +kernel
theorem us_N {k j : Nat} (hk : k < 65536) (hj : j < 32) : us (nI k) (nI j) = nI (Nat.shiftRight k j) := nx_ush hk hj
theorem bc_N {k : Nat} (hk : k < 65536) : bcF (nI k) = nI (onF 65536 k 0) := by
  have l := nTr_all 16 0 nTr_0 k (by omega)
  unfold nLf at l
  rw [Bool.and_eq_true, Bool.and_eq_true, Bool.and_eq_true, Bool.and_eq_true, Bool.and_eq_true] at l
  obtain ⟨l0, l1, l2, l3, l4, l5⟩ := l
  have l0 := Nat.le_of_ble_eq_true l0
  have l1 := Nat.le_of_ble_eq_true l1
  have l2 := Nat.le_of_ble_eq_true l2
  have l3 := Nat.le_of_ble_eq_true l3
  have l4 := Nat.le_of_ble_eq_true l4
  have l5 := Nat.eq_of_beq_eq_true l5
  have a1 : bc1 (nI k) = nI (n1 k) := by
    show nI k - (us (nI k) (nI 1) &&& nI 1431655765) = _
    rw [us_N hk (by omega), nx_and]
    exact nI_subN l0
  have a2 : bc2 (nI (n1 k)) = nI (n2 (n1 k)) := by
    show (nI (n1 k) &&& nI 858993459) + (us (nI (n1 k)) (nI 2) &&& nI 858993459) = _
    rw [us_N (by omega) (by omega), nx_and, nx_and, nI_ad]
    rfl
  have a3 : bc3 (nI (n2 (n1 k))) = nI (n3 (n2 (n1 k))) := by
    show (nI (n2 (n1 k)) + us (nI (n2 (n1 k))) (nI 4)) &&& nI 252645135 = _
    rw [us_N (by omega) (by omega), nI_ad, nx_and]
    rfl
  have a4 : bc4 (nI (n3 (n2 (n1 k)))) = nI (n4 (n3 (n2 (n1 k)))) := by
    show nI (n3 (n2 (n1 k))) + us (nI (n3 (n2 (n1 k)))) (nI 8) = _
    rw [us_N (by omega) (by omega), nI_ad]
    rfl
  have a5 : bc5 (nI (n4 (n3 (n2 (n1 k))))) = nI (n5 (n4 (n3 (n2 (n1 k))))) := by
    show nI (n4 (n3 (n2 (n1 k)))) + us (nI (n4 (n3 (n2 (n1 k))))) (nI 16) = _
    rw [us_N (by omega) (by omega), nI_ad]
    rfl
  unfold bcF
  rw [a1, a2, a3, a4, a5, ← l5]
  exact nx_and _ 63
theorem or_N (f : Nat → Bool) : ∃ k, k < 65536 ∧ orF f 16 = nI k := by
  obtain ⟨k, hk, e⟩ := nx_mask (orF f 16)
  refine ⟨k, hk, ?_⟩
  rw [← e]
  apply b_ext
  intro i hi
  rw [b_and, b_65535, bt_orF f 16 (by omega) i hi]
  by_cases l : i < 16
  · rw [decide_eq_true l, Bool.and_true]
  · rw [decide_eq_false l, Bool.false_and, Bool.false_and]
theorem st_count (S : hs_S) (n : Nat) (h : Rel S n) (w : Int32) : stp S 103 [.ref 1, .int w] 208 [.ref 61, .int w] := by
  obtain ⟨k, hk, ek⟩ := or_N (fun i => decide (0 < S.2.1 12 i))
  have ek2 : orF (fun i => decide (0 < S.2.1 62 (3 + i))) 16 = nI k := by
    rw [← ek]
    exact orF_cong (fun i hi => by rw [r_po h hi])
  obtain ⟨⟨L, hL, ta, tb⟩, tt⟩ := h.2.2.2.1
  refine stp_mk (cQ_1 (sp_SC_count 9 S w)) (fun T g => ?_)
  have c := fun (e : T.2.1 62 = S.2.1 62) => cQ_1 (sp_M_count 9 T k w hk (by rw [e]; exact ek2))
  unfold cl_count at g ⊢
  unfold ml_count at c
  by_cases h0 : w = 0
  · rw [if_pos h0] at g ⊢
    simp only [if_pos h0] at c
    exact end_q h g (c (row_q g)) (by rw [row_q g, r_0 h, r_n h])
  · rw [if_neg h0] at g ⊢
    simp only [if_neg h0] at c
    by_cases h1 : w = 1
    · rw [if_pos h1] at g ⊢
      simp only [if_pos h1] at c
      have e13 : T.1 61 13 = S.1 51 1 := (g.1 61 13 rfl).trans (tb.trans ta.symm)
      exact end_q h g (c (row_q g)) (by rw [e13])
    · rw [if_neg h1] at g ⊢
      simp only [if_neg h1] at c
      by_cases h2 : w = 2
      · rw [if_pos h2] at g ⊢
        simp only [if_pos h2] at c
        exact end_q h g (c (row_q g)) (by rw [ek, bc_N hk])
      · rw [if_neg h2] at g ⊢
        simp only [if_neg h2] at c
        by_cases h3 : w = 3
        · rw [if_pos h3] at g ⊢
          simp only [if_pos h3] at c
          exact end_q h g (c (row_q g)) (by rw [row_q g, smF_cong (fun i hi => r_pr h hi)])
        · rw [if_neg h3] at g ⊢
          simp only [if_neg h3] at c
          exact end_f h g (c (row_fd g)) rfl
