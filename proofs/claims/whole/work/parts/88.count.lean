/-! THE STEP count: the ones of a number, counted twice -/
def n1 (x : Nat) : Nat := x - Nat.land (Nat.shiftRight x 1) 1431655765
def n2 (x : Nat) : Nat := Nat.land x 858993459 + Nat.land (Nat.shiftRight x 2) 858993459
def n3 (x : Nat) : Nat := Nat.land (x + Nat.shiftRight x 4) 252645135
def n4 (x : Nat) : Nat := x + Nat.shiftRight x 8
def n5 (x : Nat) : Nat := x + Nat.shiftRight x 16
def nLf (x c : Nat) : Bool := Nat.beq (Nat.land (n5 (n4 (n3 (n2 (n1 x))))) 63) c
def nTr : Nat → Nat → Nat → Nat → Bool
  | 0, _, x, c => nLf x c
  | d + 1, w, x, c => nTr d (2 * w) x c && nTr d (2 * w) (x + w) (c + 1)
def ppN : Nat → Nat → Nat
  | 0, _ => 0
  | d + 1, y => y % 2 + ppN d (y / 2)
theorem nTr_all : ∀ d w x c, nTr d w x c = true → ∀ y, y < 2 ^ d → Nat.land (n5 (n4 (n3 (n2 (n1 (x + w * y)))))) 63 = c + ppN d y
  | 0, w, x, c, h, y, hy => by
    have y0 : y = 0 := by omega
    subst y0
    exact Nat.eq_of_beq_eq_true h
  | d + 1, w, x, c, h, y, hy => by
    have h' : (nTr d (2 * w) x c && nTr d (2 * w) (x + w) (c + 1)) = true := h
    rw [Bool.and_eq_true] at h'
    have hy2 : y / 2 < 2 ^ d := by
      rw [Nat.pow_succ] at hy
      omega
    show _ = c + (y % 2 + ppN d (y / 2))
    rcases (show y % 2 = 0 ∨ y % 2 = 1 by omega) with z | z
    · have l := nTr_all d (2 * w) x c h'.1 (y / 2) hy2
      have e : 2 * w * (y / 2) = w * y := by
        rw [Nat.mul_comm 2 w, Nat.mul_assoc]
        congr 1
        omega
      rw [e] at l
      rw [l, z]
      omega
    · have l := nTr_all d (2 * w) (x + w) (c + 1) h'.2 (y / 2) hy2
      have e : x + w + 2 * w * (y / 2) = x + w * y := by
        rw [Nat.mul_comm 2 w, Nat.mul_assoc, Nat.add_assoc]
        congr 1
        rw [show w + w * (2 * (y / 2)) = w * (2 * (y / 2) + 1) by rw [Nat.mul_add, Nat.mul_one, Nat.add_comm]]
        congr 1
        omega
      rw [e] at l
      rw [l, z]
      omega
theorem nTr_c0 : nTr 12 16 0 0 = true := by decide +kernel
theorem nTr_c1 : nTr 12 16 1 1 = true := by decide +kernel
theorem nTr_c2 : nTr 12 16 2 1 = true := by decide +kernel
theorem nTr_c3 : nTr 12 16 3 2 = true := by decide +kernel
theorem nTr_c4 : nTr 12 16 4 1 = true := by decide +kernel
theorem nTr_c5 : nTr 12 16 5 2 = true := by decide +kernel
theorem nTr_c6 : nTr 12 16 6 2 = true := by decide +kernel
theorem nTr_c7 : nTr 12 16 7 3 = true := by decide +kernel
theorem nTr_c8 : nTr 12 16 8 1 = true := by decide +kernel
theorem nTr_c9 : nTr 12 16 9 2 = true := by decide +kernel
theorem nTr_c10 : nTr 12 16 10 2 = true := by decide +kernel
theorem nTr_c11 : nTr 12 16 11 3 = true := by decide +kernel
theorem nTr_c12 : nTr 12 16 12 2 = true := by decide +kernel
theorem nTr_c13 : nTr 12 16 13 3 = true := by decide +kernel
theorem nTr_c14 : nTr 12 16 14 3 = true := by decide +kernel
theorem nTr_c15 : nTr 12 16 15 4 = true := by decide +kernel
theorem pp4 (k : Nat) : ppN 16 k = k % 2 + (k / 2 % 2 + (k / 4 % 2 + (k / 8 % 2 + ppN 12 (k / 16)))) := by
  show k % 2 + (k / 2 % 2 + (k / 2 / 2 % 2 + (k / 2 / 2 / 2 % 2 + ppN 12 (k / 2 / 2 / 2 / 2)))) = _
  rw [show k / 2 / 2 / 2 / 2 = k / 16 by omega, show k / 2 / 2 / 2 = k / 8 by omega, show k / 2 / 2 = k / 4 by omega]
theorem bt_N {k : Nat} (hk : k < 65536) : Nat.land (n5 (n4 (n3 (n2 (n1 k))))) 63 = ppN 16 k := by
  rcases (show k % 16 = 0 ∨ k % 16 = 1 ∨ k % 16 = 2 ∨ k % 16 = 3 ∨ k % 16 = 4 ∨ k % 16 = 5 ∨ k % 16 = 6 ∨ k % 16 = 7 ∨ k % 16 = 8 ∨ k % 16 = 9 ∨ k % 16 = 10 ∨ k % 16 = 11 ∨ k % 16 = 12 ∨ k % 16 = 13 ∨ k % 16 = 14 ∨ k % 16 = 15 by omega) with z | z | z | z | z | z | z | z | z | z | z | z | z | z | z | z
  · have l := nTr_all 12 16 0 0 nTr_c0 (k / 16) (by omega)
    rw [show 0 + 16 * (k / 16) = k by omega] at l
    rw [l, pp4 k, show k % 2 = 0 by omega, show k / 2 % 2 = 0 by omega, show k / 4 % 2 = 0 by omega, show k / 8 % 2 = 0 by omega]
    omega
  · have l := nTr_all 12 16 1 1 nTr_c1 (k / 16) (by omega)
    rw [show 1 + 16 * (k / 16) = k by omega] at l
    rw [l, pp4 k, show k % 2 = 1 by omega, show k / 2 % 2 = 0 by omega, show k / 4 % 2 = 0 by omega, show k / 8 % 2 = 0 by omega]
    omega
  · have l := nTr_all 12 16 2 1 nTr_c2 (k / 16) (by omega)
    rw [show 2 + 16 * (k / 16) = k by omega] at l
    rw [l, pp4 k, show k % 2 = 0 by omega, show k / 2 % 2 = 1 by omega, show k / 4 % 2 = 0 by omega, show k / 8 % 2 = 0 by omega]
    omega
  · have l := nTr_all 12 16 3 2 nTr_c3 (k / 16) (by omega)
    rw [show 3 + 16 * (k / 16) = k by omega] at l
    rw [l, pp4 k, show k % 2 = 1 by omega, show k / 2 % 2 = 1 by omega, show k / 4 % 2 = 0 by omega, show k / 8 % 2 = 0 by omega]
    omega
  · have l := nTr_all 12 16 4 1 nTr_c4 (k / 16) (by omega)
    rw [show 4 + 16 * (k / 16) = k by omega] at l
    rw [l, pp4 k, show k % 2 = 0 by omega, show k / 2 % 2 = 0 by omega, show k / 4 % 2 = 1 by omega, show k / 8 % 2 = 0 by omega]
    omega
  · have l := nTr_all 12 16 5 2 nTr_c5 (k / 16) (by omega)
    rw [show 5 + 16 * (k / 16) = k by omega] at l
    rw [l, pp4 k, show k % 2 = 1 by omega, show k / 2 % 2 = 0 by omega, show k / 4 % 2 = 1 by omega, show k / 8 % 2 = 0 by omega]
    omega
  · have l := nTr_all 12 16 6 2 nTr_c6 (k / 16) (by omega)
    rw [show 6 + 16 * (k / 16) = k by omega] at l
    rw [l, pp4 k, show k % 2 = 0 by omega, show k / 2 % 2 = 1 by omega, show k / 4 % 2 = 1 by omega, show k / 8 % 2 = 0 by omega]
    omega
  · have l := nTr_all 12 16 7 3 nTr_c7 (k / 16) (by omega)
    rw [show 7 + 16 * (k / 16) = k by omega] at l
    rw [l, pp4 k, show k % 2 = 1 by omega, show k / 2 % 2 = 1 by omega, show k / 4 % 2 = 1 by omega, show k / 8 % 2 = 0 by omega]
    omega
  · have l := nTr_all 12 16 8 1 nTr_c8 (k / 16) (by omega)
    rw [show 8 + 16 * (k / 16) = k by omega] at l
    rw [l, pp4 k, show k % 2 = 0 by omega, show k / 2 % 2 = 0 by omega, show k / 4 % 2 = 0 by omega, show k / 8 % 2 = 1 by omega]
    omega
  · have l := nTr_all 12 16 9 2 nTr_c9 (k / 16) (by omega)
    rw [show 9 + 16 * (k / 16) = k by omega] at l
    rw [l, pp4 k, show k % 2 = 1 by omega, show k / 2 % 2 = 0 by omega, show k / 4 % 2 = 0 by omega, show k / 8 % 2 = 1 by omega]
    omega
  · have l := nTr_all 12 16 10 2 nTr_c10 (k / 16) (by omega)
    rw [show 10 + 16 * (k / 16) = k by omega] at l
    rw [l, pp4 k, show k % 2 = 0 by omega, show k / 2 % 2 = 1 by omega, show k / 4 % 2 = 0 by omega, show k / 8 % 2 = 1 by omega]
    omega
  · have l := nTr_all 12 16 11 3 nTr_c11 (k / 16) (by omega)
    rw [show 11 + 16 * (k / 16) = k by omega] at l
    rw [l, pp4 k, show k % 2 = 1 by omega, show k / 2 % 2 = 1 by omega, show k / 4 % 2 = 0 by omega, show k / 8 % 2 = 1 by omega]
    omega
  · have l := nTr_all 12 16 12 2 nTr_c12 (k / 16) (by omega)
    rw [show 12 + 16 * (k / 16) = k by omega] at l
    rw [l, pp4 k, show k % 2 = 0 by omega, show k / 2 % 2 = 0 by omega, show k / 4 % 2 = 1 by omega, show k / 8 % 2 = 1 by omega]
    omega
  · have l := nTr_all 12 16 13 3 nTr_c13 (k / 16) (by omega)
    rw [show 13 + 16 * (k / 16) = k by omega] at l
    rw [l, pp4 k, show k % 2 = 1 by omega, show k / 2 % 2 = 0 by omega, show k / 4 % 2 = 1 by omega, show k / 8 % 2 = 1 by omega]
    omega
  · have l := nTr_all 12 16 14 3 nTr_c14 (k / 16) (by omega)
    rw [show 14 + 16 * (k / 16) = k by omega] at l
    rw [l, pp4 k, show k % 2 = 0 by omega, show k / 2 % 2 = 1 by omega, show k / 4 % 2 = 1 by omega, show k / 8 % 2 = 1 by omega]
    omega
  · have l := nTr_all 12 16 15 4 nTr_c15 (k / 16) (by omega)
    rw [show 15 + 16 * (k / 16) = k by omega] at l
    rw [l, pp4 k, show k % 2 = 1 by omega, show k / 2 % 2 = 1 by omega, show k / 4 % 2 = 1 by omega, show k / 8 % 2 = 1 by omega]
    omega
theorem pp_0 : ∀ d, ppN d 0 = 0
  | 0 => rfl
  | d + 1 => by
    show 0 % 2 + ppN d (0 / 2) = 0
    rw [Nat.zero_div, pp_0 d]
theorem land_even (a b : Nat) : (2 * a) &&& (2 * b + 1) = 2 * (a &&& b) := by
  apply Nat.eq_of_testBit_eq
  intro i
  rw [Nat.testBit_and]
  cases i with
  | zero =>
    rw [Nat.testBit_zero, Nat.testBit_zero, Nat.testBit_zero, show 2 * a % 2 = 0 by omega, show 2 * (a &&& b) % 2 = 0 by omega]
    simp
  | succ i =>
    rw [Nat.testBit_succ, Nat.testBit_succ, Nat.testBit_succ, show 2 * a / 2 = a by omega, show (2 * b + 1) / 2 = b by omega, show 2 * (a &&& b) / 2 = a &&& b by omega, Nat.testBit_and]
theorem land_odd (q : Nat) : (2 * q + 1) &&& (2 * q) = 2 * q := by
  apply Nat.eq_of_testBit_eq
  intro i
  rw [Nat.testBit_and]
  cases i with
  | zero =>
    rw [Nat.testBit_zero, Nat.testBit_zero, show 2 * q % 2 = 0 by omega]
    simp
  | succ i =>
    rw [Nat.testBit_succ, Nat.testBit_succ, show (2 * q + 1) / 2 = q by omega, show 2 * q / 2 = q by omega, Bool.and_self]
theorem pp_less : ∀ d k, 0 < k → k < 2 ^ d → ppN d (k &&& (k - 1)) + 1 = ppN d k
  | 0, k, h, hk => by omega
  | d + 1, k, h, hk => by
    show (k &&& (k - 1)) % 2 + ppN d ((k &&& (k - 1)) / 2) + 1 = k % 2 + ppN d (k / 2)
    rw [Nat.pow_succ] at hk
    rcases (show k % 2 = 0 ∨ k % 2 = 1 by omega) with z | z
    · have e : k &&& (k - 1) = 2 * (k / 2 &&& (k / 2 - 1)) := by
        have := land_even (k / 2) (k / 2 - 1)
        rw [show 2 * (k / 2) = k by omega, show 2 * (k / 2 - 1) + 1 = k - 1 by omega] at this
        exact this
      have ih := pp_less d (k / 2) (by omega) (by omega)
      rw [e, show 2 * (k / 2 &&& (k / 2 - 1)) % 2 = 0 by omega, show 2 * (k / 2 &&& (k / 2 - 1)) / 2 = (k / 2 &&& (k / 2 - 1)) by omega, z]
      omega
    · have e : k &&& (k - 1) = 2 * (k / 2) := by
        have := land_odd (k / 2)
        rw [show 2 * (k / 2) + 1 = k by omega] at this
        rw [show k - 1 = 2 * (k / 2) by omega]
        exact this
      rw [e, show 2 * (k / 2) % 2 = 0 by omega, show 2 * (k / 2) / 2 = k / 2 by omega, z]
      omega
theorem on_pp : ∀ m k n, k ≤ m → k < 65536 → onF m k n = n + ppN 16 k
  | 0, k, n, h, _ => by
    have k0 : k = 0 := by omega
    subst k0
    rw [pp_0]
    rfl
  | m + 1, k, n, h, hk => by
    unfold onF
    by_cases z : k = 0
    · subst z
      rw [if_pos rfl, pp_0]
      rfl
    · have l := Nat.and_le_right (n := k) (m := k - 1)
      rw [if_neg z, on_pp m (k &&& (k - 1)) (n + 1) (by omega) (by omega)]
      have := pp_less 16 k (by omega) hk
      omega
theorem us_N {k j : Nat} (hk : k < 2 ^ 31) (hj : j < 32) : us (nI k) (nI j) = nI (Nat.shiftRight k j) := by
  have hs : k >>> j ≤ k := by
    rw [Nat.shiftRight_eq_div_pow]
    exact Nat.div_le_self _ _
  have e2 : UInt32.ofNat k >>> (UInt32.ofNat j &&& Int32.toUInt32 31) = UInt32.ofNat (k >>> j) := by
    apply UInt32.toNat_inj.1
    have h1 : (UInt32.ofNat k).toNat = k := Nat.mod_eq_of_lt (by omega)
    have h2 : (UInt32.ofNat (k >>> j)).toNat = k >>> j := Nat.mod_eq_of_lt (by omega)
    rw [UInt32.toNat_shiftRight, nx_cnt ⟨j, hj⟩, h1, h2]
  show (UInt32.ofNat k >>> (UInt32.ofNat j &&& Int32.toUInt32 31)).toInt32 = _
  rw [e2]
  rfl
theorem sr_le (k j : Nat) : Nat.shiftRight k j ≤ k := by
  show k >>> j ≤ k
  rw [Nat.shiftRight_eq_div_pow]
  exact Nat.div_le_self _ _
theorem la_le (a b : Nat) : Nat.land a b ≤ a := Nat.and_le_left
theorem bc_N {k : Nat} (hk : k < 65536) : bcF (nI k) = nI (onF 65536 k 0) := by
  have l0 : Nat.land (Nat.shiftRight k 1) 1431655765 ≤ k := Nat.le_trans (la_le _ _) (sr_le _ _)
  have l1 : n1 k ≤ k := Nat.sub_le _ _
  have l2 : n2 (n1 k) ≤ 131072 := by
    have a := la_le (n1 k) 858993459
    have b := Nat.le_trans (la_le (Nat.shiftRight (n1 k) 2) 858993459) (sr_le _ _)
    unfold n2
    omega
  have l3 : n3 (n2 (n1 k)) ≤ 262144 := by
    have a := la_le (n2 (n1 k) + Nat.shiftRight (n2 (n1 k)) 4) 252645135
    have b := sr_le (n2 (n1 k)) 4
    unfold n3
    omega
  have l4 : n4 (n3 (n2 (n1 k))) ≤ 524288 := by
    have b := sr_le (n3 (n2 (n1 k))) 8
    unfold n4
    omega
  have a1 : bc1 (nI k) = nI (n1 k) := by
    show nI k - (us (nI k) (nI 1) &&& nI 1431655765) = _
    rw [us_N (by omega) (by omega), nx_and]
    exact nI_subN l0
  have a2 : bc2 (nI (n1 k)) = nI (n2 (n1 k)) := by
    show (nI (n1 k) &&& nI 858993459) + (us (nI (n1 k)) (nI 2) &&& nI 858993459) = _
    rw [us_N (by omega) (by omega), nx_and, nx_and, nI_ad]
    rfl
  have a3 : bc3 (nI (n2 (n1 k))) = nI (n3 (n2 (n1 k))) := by
    show (nI (n2 (n1 k)) + us (nI (n2 (n1 k))) (nI 4)) &&& nI 252645135 = _
    rw [us_N (by omega) (by omega), nI_ad, nx_and]
    rfl
  have a4 : bc4 (nI (n3 (n2 (n1 k)))) = nI (n4 (n3 (n2 (n1 k)))) := by
    show nI (n3 (n2 (n1 k))) + us (nI (n3 (n2 (n1 k)))) (nI 8) = _
    rw [us_N (by omega) (by omega), nI_ad]
    rfl
  have a5 : bc5 (nI (n4 (n3 (n2 (n1 k))))) = nI (n5 (n4 (n3 (n2 (n1 k))))) := by
    show nI (n4 (n3 (n2 (n1 k)))) + us (nI (n4 (n3 (n2 (n1 k))))) (nI 16) = _
    rw [us_N (by omega) (by omega), nI_ad]
    rfl
  unfold bcF
  rw [a1, a2, a3, a4, a5, on_pp 65536 k 0 (by omega) hk, Nat.zero_add, ← bt_N hk]
  exact nx_and _ 63
theorem or_N (f : Nat → Bool) : ∃ k, k < 65536 ∧ orF f 16 = nI k := by
  obtain ⟨k, hk, e⟩ := nx_mask (orF f 16)
  refine ⟨k, hk, ?_⟩
  rw [← e]
  apply b_ext
  intro i hi
  rw [b_and, b_65535, bt_orF f 16 (by omega) i hi]
  by_cases l : i < 16
  · rw [decide_eq_true l, Bool.and_true]
  · rw [decide_eq_false l, Bool.false_and, Bool.false_and]
theorem st_count (S : hs_S) (n : Nat) (h : Rel S n) (w : Int32) : stp S 103 [.ref 1, .int w] 208 [.ref 61, .int w] := by
  obtain ⟨k, hk, ek⟩ := or_N (fun i => decide (0 < S.2.1 12 i))
  have ek2 : orF (fun i => decide (0 < S.2.1 62 (3 + i))) 16 = nI k := by
    rw [← ek]
    exact orF_cong (fun i hi => by rw [r_po h hi])
  obtain ⟨⟨L, hL, ta, tb⟩, tt⟩ := h.2.2.2.1
  refine stp_mk (cQ_1 (sp_SC_count 9 S w)) (fun T g => ?_)
  have c := fun (e : T.2.1 62 = S.2.1 62) => cQ_1 (sp_M_count 9 T k w hk (by rw [e]; exact ek2))
  unfold cl_count at g ⊢
  unfold ml_count at c
  by_cases h0 : w = 0
  · rw [if_pos h0] at g ⊢
    simp only [if_pos h0] at c
    exact end_q h g (c (row_q g)) (by rw [row_q g, r_0 h, r_n h])
  · rw [if_neg h0] at g ⊢
    simp only [if_neg h0] at c
    by_cases h1 : w = 1
    · rw [if_pos h1] at g ⊢
      simp only [if_pos h1] at c
      have e13 : T.1 61 13 = S.1 51 1 := (g.1 61 13 rfl).trans (tb.trans ta.symm)
      exact end_q h g (c (row_q g)) (by rw [e13])
    · rw [if_neg h1] at g ⊢
      simp only [if_neg h1] at c
      by_cases h2 : w = 2
      · rw [if_pos h2] at g ⊢
        simp only [if_pos h2] at c
        exact end_q h g (c (row_q g)) (by rw [ek, bc_N hk])
      · rw [if_neg h2] at g ⊢
        simp only [if_neg h2] at c
        by_cases h3 : w = 3
        · rw [if_pos h3] at g ⊢
          simp only [if_pos h3] at c
          exact end_q h g (c (row_q g)) (by rw [row_q g, smF_cong (fun i hi => r_pr h hi)])
        · rw [if_neg h3] at g ⊢
          simp only [if_neg h3] at c
          exact end_f h g (c (row_fd g)) rfl
