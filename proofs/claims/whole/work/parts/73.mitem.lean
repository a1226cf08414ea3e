/-! THE MODEL: numbers; its items beside the class's -/
def vmN (b : Nat → Int32) (s : Nat) : Nat → Nat
  | 0 => 0
  | j + 1 => if vmN b s j ≤ 999 then 10 * vmN b s j + ((b (s + j)).toNatClampNeg - 48) else vmN b s j
theorem vmN_s (b : Nat → Int32) (s j : Nat) : vmN b s (j + 1) = if vmN b s j ≤ 999 then 10 * vmN b s j + ((b (s + j)).toNatClampNeg - 48) else vmN b s j := rfl
theorem dg_nI {b : Nat → Int32} {L k : Nat} (h : dgB b L k = true) : ∃ c, 48 ≤ c ∧ c ≤ 57 ∧ b k = nI c := by
  unfold dgB at h
  simp only [Bool.and_eq_true, decide_eq_true_eq] at h
  obtain ⟨c, hc, ec⟩ := nI_of (Int32.not_lt.mpr (Int32.le_trans (show (0 : Int32) ≤ 48 by decide) h.2.1))
  rw [ec] at h
  exact ⟨c, Nat.le_of_not_lt fun z => nI_ge (b := 48) z (by omega) h.2.1, Nat.le_of_not_lt fun z => nI_ge (a := 57) z (by omega) h.2.2, ec⟩
theorem vm_lt {b : Nat → Int32} {L s : Nat} : ∀ j, (∀ i, i < j → dgB b L (s + i) = true) → vmN b s j ≤ 9999
  | 0, _ => by show 0 ≤ 9999; omega
  | j + 1, h => by
    have ih := vm_lt (b := b) (L := L) (s := s) j (fun i hi => h i (by omega))
    obtain ⟨c, c1, c2, ec⟩ := dg_nI (h j (by omega))
    unfold vmN
    rw [ec, nI_clamp (show c < 2 ^ 31 by omega)]
    by_cases z : vmN b s j ≤ 999
    · rw [if_pos z]
      omega
    · rw [if_neg z]
      exact ih
theorem nm_vm {b : Nat → Int32} {L s : Nat} : ∀ m j, (∀ i, i < j → dgB b L (s + i) = true) → (nmC b L m (s + j) (nI (min 1000 (vmN b s j)))).2 = nI (min 1000 (vmN b s (rnP (dgB b L) m (s + j) - s)))
  | 0, j, _ => by
    show nI (min 1000 (vmN b s j)) = nI (min 1000 (vmN b s (s + j - s)))
    rw [Nat.add_sub_cancel_left]
  | m + 1, j, h => by
    unfold nmC rnP
    by_cases z : dgB b L (s + j) = true
    · rw [if_pos z, if_pos z]
      have ih := nm_vm (b := b) (L := L) (s := s) m (j + 1) (fun i hi => by
        by_cases e : i = j
        · rw [e]; exact z
        · exact h i (by omega))
      have lt := vm_lt (b := b) (L := L) (s := s) j h
      obtain ⟨c, c1, c2, ec⟩ := dg_nI z
      have e10 : nI (min 1000 (vmN b s j)) * 10 + b (s + j) - 48 = nI (10 * min 1000 (vmN b s j) + (c - 48)) := by
        have e1 : nI (min 1000 (vmN b s j)) * 10 = nI (10 * min 1000 (vmN b s j)) := by
          have : (10 : Int32) = nI 10 := rfl
          rw [this, nI_mu, Nat.mul_comm]
        have e2 : (48 : Int32) = nI 48 := rfl
        rw [e1, ec, nI_ad, e2, nI_subN (by omega)]
        congr 1
        omega
      have st : (if nI (min 1000 (vmN b s j)) * 10 + b (s + j) - 48 < 1000 then nI (min 1000 (vmN b s j)) * 10 + b (s + j) - 48 else 1000) = nI (min 1000 (vmN b s (j + 1))) := by
        rw [e10, vmN_s, ec, nI_clamp (show c < 2 ^ 31 by omega)]
        by_cases y : vmN b s j ≤ 999
        · rw [if_pos y]
          by_cases x : 10 * min 1000 (vmN b s j) + (c - 48) < 1000
          · rw [if_pos (show nI (10 * min 1000 (vmN b s j) + (c - 48)) < 1000 from nI_lt (b := 1000) x (by omega))]
            congr 1
            omega
          · rw [if_neg (show ¬ nI (10 * min 1000 (vmN b s j) + (c - 48)) < 1000 from nI_nlt (b := 1000) (show 1000 ≤ 10 * min 1000 (vmN b s j) + (c - 48) by omega) (by omega))]
            have : (1000 : Int32) = nI 1000 := rfl
            rw [this]
            congr 1
            omega
        · rw [if_neg y, if_neg (show ¬ nI (10 * min 1000 (vmN b s j) + (c - 48)) < 1000 from nI_nlt (b := 1000) (show 1000 ≤ 10 * min 1000 (vmN b s j) + (c - 48) by omega) (by omega))]
          have : (1000 : Int32) = nI 1000 := rfl
          rw [this]
          congr 1
          omega
      rw [st]
      exact ih
    · rw [if_neg z, if_neg z]
      show nI (min 1000 (vmN b s j)) = nI (min 1000 (vmN b s (s + j - s)))
      rw [Nat.add_sub_cancel_left]
theorem num_loop (d : Nat) {S0 T : hs_S} {L : Nat} {q : tQ} {w : Nat → Int32} (hL : L ≤ 120) (g : mq S0 T q 0 w) (hq : qOk L q) (l1 l2 : Option Value) (ds : ∀ k, q.2.1 ≤ k → k < q.2.2.1 → dgB (S0.2.1 67) L k = true) (R : Option sx_R) (hR : ∀ l5, sx_run d 186 (79, [some (.ref 61), l1, l2, some (.int 1), some (.int (nI (vmN (S0.2.1 67) q.2.1 (q.2.2.1 - q.2.1)))), l5], [], hp T) = R) : ∀ m j, j + m = q.2.2.1 - q.2.1 → sx_run d 186 (29, [some (.ref 61), l1, l2, some (.int 1), some (.int (nI (vmN (S0.2.1 67) q.2.1 j))), some (.int (nI (q.2.1 + j)))], [], hp T) = R := by
  have q1 := hq.1
  have q2 := hq.2
  have b67 := mq_67 g
  intro m
  induction m with
  | zero =>
    intro j hj
    have ej : j = q.2.2.1 - q.2.1 := by omega
    subst ej
    rw [ez186_29]
    simp only [ez186_31, ez186_32, ez186_35, GF_61_15, g.2.2.1, Option.bind_some, tl_s, tl_n, bI_eq0, if_true, if_false, not_true, not_false_iff, and_self, Bool.false_eq_true, if_pos (nI_le (show q.2.2.1 ≤ q.2.1 + (q.2.2.1 - q.2.1) by omega) (show q.2.1 + (q.2.2.1 - q.2.1) < 2 ^ 31 by omega))]
    exact hR _
  | succ m ih =>
    intro j hj
    have K := ih (j + 1) (by omega)
    have lt := vm_lt (b := S0.2.1 67) (L := L) (s := q.2.1) j (fun i hi => ds _ (by omega) (by omega))
    obtain ⟨c, c1, c2, ec⟩ := dg_nI (ds (q.2.1 + j) (by omega) (by omega))
    unfold vmN at K
    rw [ec, nI_clamp (show c < 2 ^ 31 by omega)] at K
    have e1 : 10 * nI (vmN (S0.2.1 67) q.2.1 j) + nI c - 48 = nI (10 * vmN (S0.2.1 67) q.2.1 j + (c - 48)) := by
      have a10 : (10 : Int32) = nI 10 := rfl
      have a48 : (48 : Int32) = nI 48 := rfl
      rw [a10, nI_mu, nI_ad, a48, nI_subN (by omega)]
      congr 1
      omega
    rw [ez186_29]
    by_cases z : vmN (S0.2.1 67) q.2.1 j ≤ 999
    · rw [if_pos z] at K
      simp only [ez186_31, ez186_32, ez186_35, ez186_38, ez186_39, ez186_42, ez186_44, ez186_47, ez186_50, ez186_52, ez186_55, ez186_57, ez186_59, ez186_60, ez186_61, ez186_64, ez186_66, ez186_67, ez186_68, ez186_70, ez186_71, ez186_73, ez186_76, GF_61_12, GF_61_15, g.2.2.1, Option.bind_some, tl_s, tl_n, bI_eq0, if_true, if_false, not_true, not_false_iff, and_self, Bool.false_eq_true, if_neg (nI_ge (show q.2.1 + j < q.2.2.1 by omega) (by omega)), z1_0, if_pos (show nI (vmN (S0.2.1 67) q.2.1 j) ≤ 999 from nI_le (b := 999) z (by omega)), GI_67, in_nI (show q.2.1 + j < 120 by omega) (by decide), nI_clamp (show q.2.1 + j < 2 ^ 31 by omega), b67, ec, e1, nI_1]
      exact K
    · rw [if_neg z] at K
      simp only [ez186_31, ez186_32, ez186_35, ez186_38, ez186_39, ez186_42, ez186_44, ez186_47, ez186_50, ez186_52, ez186_55, ez186_57, ez186_59, ez186_60, ez186_61, ez186_64, ez186_66, ez186_67, ez186_68, ez186_70, ez186_71, ez186_73, ez186_76, GF_61_15, g.2.2.1, Option.bind_some, tl_s, tl_n, bI_eq0, if_true, if_false, not_true, not_false_iff, and_self, Bool.false_eq_true, if_neg (nI_ge (show q.2.1 + j < q.2.2.1 by omega) (by omega)), z1_0, if_neg (show ¬ nI (vmN (S0.2.1 67) q.2.1 j) ≤ 999 from nI_ge (a := 999) (show 999 < vmN (S0.2.1 67) q.2.1 j by omega) (by omega)), nI_1]
      exact K
theorem number_w (d : Nat) {S0 T : hs_S} {q : tQ} {w : Nat → Int32} (lo hi : Int32) (g : mq S0 T q 1 w) : sx_call (d + 1) 186 [.ref 61, .int lo, .int hi] (hp T) = some (none, hp T) := by
  rw [cz186]
  simp only [ez186_0, ez186_1, ez186_4, ez186_7, GF_61_17, g.2.2.2.1, Option.bind_some, tl_s, tl_n, bI_eq0, if_true, if_false, not_true, not_false_iff, and_self, Bool.false_eq_true, z1_0]
/-- a number from 0 to h: it is taken, or the text is wrong here -/
theorem sp_number (d : Nat) {S0 T : hs_S} {L : Nat} {q : tQ} {w : Nat → Int32} (h : Nat) (hl : S0.1 61 13 = nI L) (hL : L ≤ 120) (hh : h ≤ 99) (g : mq S0 T q 0 w) (hq : qT (S0.2.1 67) L q) : ∃ T', sx_call (d + 5) 186 [.ref 61, .int 0, .int (nI h)] (hp T) = some (none, hp T') ∧ ((nbB q (nI h) = true ∧ mq S0 T' (tk (S0.2.1 67) L q) 0 w ∧ T'.1 61 16 = q.2.2.2) ∨ (nbB q (nI h) = false ∧ mq S0 T' q 1 w)) := by
  have ok := qT_ok hq
  obtain ⟨f1, f2, f3, f4, f5, f6⟩ := qT_facts hq
  have l13 : T.1 61 13 = nI L := (mq_13 g).trans hl
  have b67 := mq_67 g
  have q1 := ok.1
  have q2 := ok.2
  have by0 : sx_call (d + 4) 180 [.ref 61, .int (nI q.2.1)] (hp T) = some (some (.int (bytF (S0.2.1 67) L q.2.1)), hp T) := by
    rw [← b67]
    exact sp_byteAt (d + 3) T L q.2.1 l13 hL (by omega)
  have gv : ∀ v, mq S0 (uF T 61 16 v) q 0 w := fun v => ⟨mJ_F g.1 rfl v, g.2.1, g.2.2.1, g.2.2.2.1, g.2.2.2.2.1, g.2.2.2.2.2⟩
  rw [cz186]
  simp only [ez186_0, ez186_1, ez186_4, ez186_7, ez186_8, ez186_9, ez186_10, ez186_13, ez186_16, ez186_19, ez186_20, ez186_21, ez186_23, ez186_24, ez186_27, GF_61_14, GF_61_17, g.2.1, g.2.2.2.1, Option.bind_some, tl_s, tl_n, bI_eq0, if_true, if_false, not_true, not_false_iff, and_self, Bool.false_eq_true, KL_61, by0, sp_mDigit]
  by_cases z : dgB (S0.2.1 67) L q.2.1 = true
  · have t2 := f3.mpr z
    obtain ⟨e1, e2⟩ := f4 t2
    have ds : ∀ k, q.2.1 ≤ k → k < q.2.2.1 → dgB (S0.2.1 67) L k = true := fun k k1 k2 => rnP_all 121 q.2.1 k k1 (by rw [← e1]; exact k2)
    have lt := vm_lt (b := S0.2.1 67) (L := L) (s := q.2.1) (q.2.2.1 - q.2.1) (fun i hi => ds _ (by omega) (by omega))
    have nn : q.2.2.2 = nI (min 1000 (vmN (S0.2.1 67) q.2.1 (q.2.2.1 - q.2.1))) := by
      have := nm_vm (b := S0.2.1 67) (L := L) (s := q.2.1) 121 0 (fun i hi => by omega)
      rw [← Nat.add_zero q.2.1] at e1
      rw [e2, e1]
      exact this
    have key : ∀ R, (∀ l5, sx_run (d + 4) 186 (79, [some (.ref 61), some (.int 0), some (.int (nI h)), some (.int 1), some (.int (nI (vmN (S0.2.1 67) q.2.1 (q.2.2.1 - q.2.1)))), l5], [], hp T) = R) → sx_run (d + 4) 186 (29, [some (.ref 61), some (.int 0), some (.int (nI h)), some (.int 1), some (.int (nI 0)), some (.int (nI (q.2.1 + 0)))], [], hp T) = R := fun R hR => num_loop (d + 4) hL g ok _ _ ds R hR (q.2.2.1 - q.2.1) 0 (by omega)
    rw [bI_t z]
    generalize vmN (S0.2.1 67) q.2.1 (q.2.2.1 - q.2.1) = V at nn lt key
    by_cases y : V ≤ h
    · have nb : nbB q (nI h) = true := by
        unfold nbB
        rw [decide_eq_true t2, nn, decide_eq_true (nI_le (show min 1000 V ≤ h by omega) (by omega))]
        rfl
      have ev : q.2.2.2 = nI V := by rw [nn, show min 1000 V = V by omega]
      obtain ⟨T', c, g', e'⟩ := must_1 d hl hL (gv (nI V)) ok
      refine ⟨T', ?_, Or.inl ⟨nb, g', e'.trans ev.symm⟩⟩
      refine key _ (fun l5 => ?_)
      have iny : (0 : Int32) ≤ nI V ∧ nI V ≤ nI h := ⟨nI_pos' (by omega), nI_le y (by omega)⟩
      simp only [ez186_79, ez186_80, ez186_82, ez186_85, ez186_86, ez186_87, ez186_90, ez186_92, ez186_93, ez186_94, ez186_95, ez186_96, ez186_97, ez186_100, ez186_103, ez186_104, ez186_107, ez186_108, ez186_111, Option.bind_some, tl_s, tl_n, bI_eq0, if_true, if_false, not_true, not_false_iff, and_self, Bool.false_eq_true, PF_61_16, z1_0, sp_M_in, fa_wide_le, iny, KL_61, c]
    · have nb : nbB q (nI h) = false := by
        unfold nbB
        rw [nn, decide_eq_false (nI_ge (show h < min 1000 V by omega) (by omega)), Bool.and_false]
      obtain ⟨T', c, g', e'⟩ := must_0 (d + 3) (gv (nI V))
      refine ⟨T', ?_, Or.inr ⟨nb, g'⟩⟩
      refine key _ (fun l5 => ?_)
      have iny : ¬ ((0 : Int32) ≤ nI V ∧ nI V ≤ nI h) := fun x => nI_ge (show h < V by omega) (by omega) x.2
      simp only [ez186_79, ez186_80, ez186_82, ez186_85, ez186_86, ez186_87, ez186_90, ez186_92, ez186_93, ez186_94, ez186_95, ez186_96, ez186_97, ez186_100, ez186_103, ez186_104, ez186_107, ez186_108, ez186_111, Option.bind_some, tl_s, tl_n, bI_eq0, if_true, if_false, not_true, not_false_iff, and_self, Bool.false_eq_true, PF_61_16, z1_0, sp_M_in, fa_wide_le, iny, KL_61, c]
  · have t2 : ¬ q.1 = 2 := fun x => z (f3.mp x)
    have nb : nbB q (nI h) = false := by
      unfold nbB
      rw [decide_eq_false t2, Bool.false_and]
    obtain ⟨T', c, g', e'⟩ := must_0 (d + 3) (gv 0)
    refine ⟨T', ?_, Or.inr ⟨nb, g'⟩⟩
    rw [bI_f z]
    have c' : ∀ l5, sx_run (d + 4) 186 (79, [some (.ref 61), some (.int 0), some (.int (nI h)), some (.int 0), some (.int 0), l5], [], hp T) = some (none, hp T') := by
      intro l5
      simp only [ez186_79, ez186_80, ez186_82, ez186_85, ez186_86, ez186_87, ez186_90, ez186_92, ez186_93, ez186_94, ez186_95, ez186_96, ez186_97, ez186_100, ez186_103, ez186_104, ez186_107, ez186_108, ez186_111, Option.bind_some, tl_s, tl_n, bI_eq0, if_true, if_false, not_true, not_false_iff, and_self, Bool.false_eq_true, PF_61_16, KL_61, c]
    rw [ez186_29]
    by_cases x : q.2.2.1 ≤ q.2.1
    · simp only [ez186_31, ez186_32, ez186_35, GF_61_15, g.2.2.1, Option.bind_some, tl_s, tl_n, bI_eq0, if_true, if_false, not_true, not_false_iff, and_self, Bool.false_eq_true, if_pos (nI_le x (show q.2.1 < 2 ^ 31 by omega))]
      exact c' _
    · simp only [ez186_31, ez186_32, ez186_35, ez186_38, ez186_39, GF_61_15, g.2.2.1, Option.bind_some, tl_s, tl_n, bI_eq0, if_true, if_false, not_true, not_false_iff, and_self, Bool.false_eq_true, if_neg (nI_ge (show q.2.1 < q.2.2.1 by omega) (show q.2.2.1 < 2 ^ 31 by omega))]
      exact c' _
def khF (b : Nat → Int32) (q : tQ) : Int32 := if wdB b q 0 = true then 0 else if wdB b q 1 = true then 1 else if wdB b q 2 = true then 2 else if wdB b q 3 = true then 3 else if wdB b q 4 = true then 4 else if wdB b q 5 = true then 5 else -1
theorem cmp_w {b : Nat → Int32} {L w : Nat} {q : tQ} {c : Int64} (hw : w < 14) (h : qT b L q) (hc : c = cwL w) : (lg_cmp (wdV b L q 0) c = 0) = (wdB b q w = true) := by
  subst hc
  exact propext ((lg_cmp_eq _ _).trans (word_iff hw h))
theorem sp_kindHere (d : Nat) {S0 T : hs_S} {L : Nat} {q : tQ} {w : Nat → Int32} (hl : S0.1 61 13 = nI L) (hL : L ≤ 120) (g : mq S0 T q 0 w) (hq : qT (S0.2.1 67) L q) : sx_call (d + 4) 187 [.ref 61] (hp T) = some (some (.int (khF (S0.2.1 67) q)), hp T) := by
  rw [cz187]
  have wo := sp_word d hl hL g (qT_ok hq)
  have c0 := cmp_w (c := 3274253490) (w := 0) (by decide) hq (by decide)
  have c1 := cmp_w (c := 253802969) (w := 1) (by decide) hq (by decide)
  have c2 := cmp_w (c := 139505842) (w := 2) (by decide) hq (by decide)
  have c3 := cmp_w (c := 3273709614) (w := 3) (by decide) hq (by decide)
  have c4 := cmp_w (c := 2696325) (w := 4) (by decide) hq (by decide)
  have c5 := cmp_w (c := 556045940) (w := 5) (by decide) hq (by decide)
  unfold khF
  by_cases h0 : wdB (S0.2.1 67) q 0 = true
  · rw [if_pos h0]
    simp only [ez187_0, ez187_1, ez187_4, ez187_5, ez187_6, ez187_9, ez187_10, ez187_13, ez187_14, ez187_17, ez187_18, ez187_21, ez187_22, ez187_25, ez187_26, ez187_29, ez187_30, ez187_33, ez187_34, ez187_37, ez187_38, ez187_41, ez187_42, ez187_45, ez187_46, ez187_49, ez187_50, ez187_53, ez187_54, ez187_57, ez187_58, ez187_61, ez187_62, ez187_65, ez187_66, ez187_69, ez187_70, ez187_73, ez187_74, ez187_77, ez187_78, KL_61, Option.bind_some, tl_s, tl_n, bI_eq0, if_true, if_false, not_true, not_false_iff, and_self, Bool.false_eq_true, wo, c0, h0]
  · rw [if_neg h0]
    by_cases h1 : wdB (S0.2.1 67) q 1 = true
    · rw [if_pos h1]
      simp only [ez187_0, ez187_1, ez187_4, ez187_5, ez187_6, ez187_9, ez187_10, ez187_13, ez187_14, ez187_17, ez187_18, ez187_21, ez187_22, ez187_25, ez187_26, ez187_29, ez187_30, ez187_33, ez187_34, ez187_37, ez187_38, ez187_41, ez187_42, ez187_45, ez187_46, ez187_49, ez187_50, ez187_53, ez187_54, ez187_57, ez187_58, ez187_61, ez187_62, ez187_65, ez187_66, ez187_69, ez187_70, ez187_73, ez187_74, ez187_77, ez187_78, KL_61, Option.bind_some, tl_s, tl_n, bI_eq0, if_true, if_false, not_true, not_false_iff, and_self, Bool.false_eq_true, wo, c0, c1, h0, h1]
    · rw [if_neg h1]
      by_cases h2 : wdB (S0.2.1 67) q 2 = true
      · rw [if_pos h2]
        simp only [ez187_0, ez187_1, ez187_4, ez187_5, ez187_6, ez187_9, ez187_10, ez187_13, ez187_14, ez187_17, ez187_18, ez187_21, ez187_22, ez187_25, ez187_26, ez187_29, ez187_30, ez187_33, ez187_34, ez187_37, ez187_38, ez187_41, ez187_42, ez187_45, ez187_46, ez187_49, ez187_50, ez187_53, ez187_54, ez187_57, ez187_58, ez187_61, ez187_62, ez187_65, ez187_66, ez187_69, ez187_70, ez187_73, ez187_74, ez187_77, ez187_78, KL_61, Option.bind_some, tl_s, tl_n, bI_eq0, if_true, if_false, not_true, not_false_iff, and_self, Bool.false_eq_true, wo, c0, c1, c2, h0, h1, h2]
      · rw [if_neg h2]
        by_cases h3 : wdB (S0.2.1 67) q 3 = true
        · rw [if_pos h3]
          simp only [ez187_0, ez187_1, ez187_4, ez187_5, ez187_6, ez187_9, ez187_10, ez187_13, ez187_14, ez187_17, ez187_18, ez187_21, ez187_22, ez187_25, ez187_26, ez187_29, ez187_30, ez187_33, ez187_34, ez187_37, ez187_38, ez187_41, ez187_42, ez187_45, ez187_46, ez187_49, ez187_50, ez187_53, ez187_54, ez187_57, ez187_58, ez187_61, ez187_62, ez187_65, ez187_66, ez187_69, ez187_70, ez187_73, ez187_74, ez187_77, ez187_78, KL_61, Option.bind_some, tl_s, tl_n, bI_eq0, if_true, if_false, not_true, not_false_iff, and_self, Bool.false_eq_true, wo, c0, c1, c2, c3, h0, h1, h2, h3]
        · rw [if_neg h3]
          by_cases h4 : wdB (S0.2.1 67) q 4 = true
          · rw [if_pos h4]
            simp only [ez187_0, ez187_1, ez187_4, ez187_5, ez187_6, ez187_9, ez187_10, ez187_13, ez187_14, ez187_17, ez187_18, ez187_21, ez187_22, ez187_25, ez187_26, ez187_29, ez187_30, ez187_33, ez187_34, ez187_37, ez187_38, ez187_41, ez187_42, ez187_45, ez187_46, ez187_49, ez187_50, ez187_53, ez187_54, ez187_57, ez187_58, ez187_61, ez187_62, ez187_65, ez187_66, ez187_69, ez187_70, ez187_73, ez187_74, ez187_77, ez187_78, KL_61, Option.bind_some, tl_s, tl_n, bI_eq0, if_true, if_false, not_true, not_false_iff, and_self, Bool.false_eq_true, wo, c0, c1, c2, c3, c4, h0, h1, h2, h3, h4]
          · rw [if_neg h4]
            by_cases h5 : wdB (S0.2.1 67) q 5 = true
            · rw [if_pos h5]
              simp only [ez187_0, ez187_1, ez187_4, ez187_5, ez187_6, ez187_9, ez187_10, ez187_13, ez187_14, ez187_17, ez187_18, ez187_21, ez187_22, ez187_25, ez187_26, ez187_29, ez187_30, ez187_33, ez187_34, ez187_37, ez187_38, ez187_41, ez187_42, ez187_45, ez187_46, ez187_49, ez187_50, ez187_53, ez187_54, ez187_57, ez187_58, ez187_61, ez187_62, ez187_65, ez187_66, ez187_69, ez187_70, ez187_73, ez187_74, ez187_77, ez187_78, KL_61, Option.bind_some, tl_s, tl_n, bI_eq0, if_true, if_false, not_true, not_false_iff, and_self, Bool.false_eq_true, wo, c0, c1, c2, c3, c4, c5, h0, h1, h2, h3, h4, h5]
            · rw [if_neg h5]
              simp only [ez187_0, ez187_1, ez187_4, ez187_5, ez187_6, ez187_9, ez187_10, ez187_13, ez187_14, ez187_17, ez187_18, ez187_21, ez187_22, ez187_25, ez187_26, ez187_29, ez187_30, ez187_33, ez187_34, ez187_37, ez187_38, ez187_41, ez187_42, ez187_45, ez187_46, ez187_49, ez187_50, ez187_53, ez187_54, ez187_57, ez187_58, ez187_61, ez187_62, ez187_65, ez187_66, ez187_69, ez187_70, ez187_73, ez187_74, ez187_77, ez187_78, KL_61, Option.bind_some, tl_s, tl_n, bI_eq0, if_true, if_false, not_true, not_false_iff, and_self, Bool.false_eq_true, wo, c0, c1, c2, c3, c4, c5, h0, h1, h2, h3, h4, h5]
theorem mq_put {S0 T : hs_S} {q : tQ} {wr : Int32} {w : Nat → Int32} (g : mq S0 T q wr w) {i : Nat} (hi : i < 83) (v : Int32) : mq S0 (uI T 62 (upd w i v)) q wr (upd w i v) := by
  refine ⟨mJ_row g.1 _, g.2.1, g.2.2.1, g.2.2.2.1, ?_, fun j hj => ?_⟩
  · rw [uI_off _ _ _ (by decide)]
    exact g.2.2.2.2.1
  · rw [upd_ne _ _ (by omega)]
    exact g.2.2.2.2.2 j hj
/-- a trait, on both sides -/
theorem sp_part (d : Nat) {S0 T S : hs_S} {L n c k wI h : Nat} {q : tQ} {w : Nat → Int32} {cc : Int64} (hl : S0.1 61 13 = nI L) (hL : L ≤ 120) (g : mq S0 T q 0 w) (hq : qT (S0.2.1 67) L q) (hw : wI < 14) (hcc : cc = cwL wI) (R : LL S 35 n w) (hc : c < n) (hk : 2 ≤ k ∧ k ≤ 4) (hh : h = if k = 2 then 99 else 9) : ∃ T', sx_call (d + 6) 188 [.ref 61, .long cc, .int (nI (35 + 6 * c + k)), .int (nI h)] (hp T) = some (none, hp T') ∧ (((trF (S0.2.1 67) L wI (nI h) (39 + c) k S q).1 = true ∧ ∃ w', mq S0 T' (trF (S0.2.1 67) L wI (nI h) (39 + c) k S q).2.2 0 w' ∧ LL (trF (S0.2.1 67) L wI (nI h) (39 + c) k S q).2.1 35 n w' ∧ qT (S0.2.1 67) L (trF (S0.2.1 67) L wI (nI h) (39 + c) k S q).2.2) ∨ ((trF (S0.2.1 67) L wI (nI h) (39 + c) k S q).1 = false ∧ ∃ w', mq S0 T' (trF (S0.2.1 67) L wI (nI h) (39 + c) k S q).2.2 1 w')) := by
  have n8 := R.1.1
  have h99 : h ≤ 99 := by
    rw [hh]
    split <;> omega
  have wo := sp_word (d + 2) hl hL g (qT_ok hq)
  have cm := cmp_w (c := cc) hw hq hcc
  rw [cz188]
  unfold trF
  by_cases h1 : wdB (S0.2.1 67) q wI = true
  · rw [if_pos h1]
    obtain ⟨T1, c1, g1, -⟩ := must_1 (d + 1) hl hL g (qT_ok hq)
    obtain ⟨T2, c2, o2⟩ := sp_number d h hl hL h99 g1 (qT_tk (qT_ok hq))
    have i83 := in_nI (show 35 + 6 * c + k < 83 by omega) (by decide)
    have k83 := nI_clamp (show 35 + 6 * c + k < 2 ^ 31 by omega)
    rcases o2 with ⟨nb, g2, e2⟩ | ⟨nb, g2⟩
    · rw [if_pos nb]
      have gp := mq_put g2 (show 35 + 6 * c + k < 83 by omega) (tk (S0.2.1 67) L q).2.2.2
      refine ⟨_, ?_, Or.inl ⟨rfl, _, gp, ?_, qT_tk (qT_ok (qT_tk (qT_ok hq)))⟩⟩
      · simp only [ez188_0, ez188_1, ez188_4, ez188_5, ez188_6, ez188_9, ez188_10, ez188_11, ez188_14, ez188_15, ez188_16, ez188_18, ez188_21, ez188_22, ez188_25, ez188_26, ez188_27, ez188_30, ez188_33, ez188_34, ez188_37, ez188_38, ez188_39, ez188_42, ez188_43, ez188_46, ez188_47, KL_61, Option.bind_some, tl_s, tl_n, bI_eq0, if_true, if_false, not_true, not_false_iff, and_self, Bool.false_eq_true, wo, cm, h1, c1, c2, GF_61_0, GF_61_16, GF_61_17, g2.2.2.2.1, e2, PI_62, i83, k83, g2.1.1]
      · obtain ⟨u, hu, eu⟩ := nbB_num (show h < 2 ^ 31 by omega) nb
        refine LL_car R hc (by omega) ⟨fun z => by omega, fun z => ⟨u, by rw [hh, if_pos z] at hu; exact hu, eu⟩, fun z => ⟨u, by rw [hh, if_neg (by omega)] at hu; exact hu, eu⟩, fun z => ⟨u, by rw [hh, if_neg (by omega)] at hu; exact hu, eu⟩, fun z => by omega⟩
    · rw [if_neg (by rw [nb]; decide)]
      have gp := mq_put g2 (show 35 + 6 * c + k < 83 by omega) (w (35 + 6 * c + k))
      rw [fa_upd_same rfl] at gp
      refine ⟨_, ?_, Or.inr ⟨rfl, _, gp⟩⟩
      simp only [ez188_0, ez188_1, ez188_4, ez188_5, ez188_6, ez188_9, ez188_10, ez188_11, ez188_14, ez188_15, ez188_16, ez188_18, ez188_21, ez188_22, ez188_25, ez188_26, ez188_27, ez188_30, ez188_33, ez188_34, ez188_37, ez188_38, ez188_39, ez188_42, ez188_43, ez188_46, ez188_47, KL_61, Option.bind_some, tl_s, tl_n, bI_eq0, if_true, if_false, not_true, not_false_iff, and_self, Bool.false_eq_true, wo, cm, h1, c1, c2, GF_61_0, GF_61_17, g2.2.2.2.1, z1_0, GI_62, PI_62, i83, k83, g2.1.1, fa_upd_same]
  · rw [if_neg h1]
    refine ⟨T, ?_, Or.inl ⟨rfl, w, g, R, hq⟩⟩
    simp only [ez188_0, ez188_1, ez188_4, ez188_5, ez188_6, ez188_9, ez188_10, ez188_11, ez188_14, ez188_15, ez188_16, ez188_18, ez188_21, ez188_22, ez188_25, ez188_26, ez188_27, ez188_30, ez188_33, ez188_34, ez188_37, ez188_38, ez188_39, ez188_42, ez188_43, ez188_46, ez188_47, KL_61, Option.bind_some, tl_s, tl_n, bI_eq0, if_true, if_false, not_true, not_false_iff, and_self, Bool.false_eq_true, wo, cm, h1]
theorem part_w (d : Nat) {S0 T : hs_S} {L wI : Nat} {q : tQ} {w : Nat → Int32} {cc : Int64} (i hi : Int32) (hl : S0.1 61 13 = nI L) (hL : L ≤ 120) (g : mq S0 T q 1 w) (hq : qOk L q) (hw : wI < 14) (hcc : cc = cwL wI) : sx_call (d + 4) 188 [.ref 61, .long cc, .int i, .int hi] (hp T) = some (none, hp T) := by
  have wo := sp_word d hl hL g hq
  have cm : ¬ lg_cmp (wdV (S0.2.1 67) L q 1) cc = 0 := fun z => word_w hw ((lg_cmp_eq _ _).mp z |>.trans hcc)
  rw [cz188]
  simp only [ez188_0, ez188_1, ez188_4, ez188_5, ez188_6, ez188_9, ez188_10, ez188_11, ez188_14, ez188_15, ez188_16, ez188_18, ez188_21, ez188_22, ez188_25, ez188_26, ez188_27, ez188_30, ez188_33, ez188_34, ez188_37, ez188_38, ez188_39, ez188_42, ez188_43, ez188_46, ez188_47, KL_61, Option.bind_some, tl_s, tl_n, bI_eq0, if_true, if_false, not_true, not_false_iff, and_self, Bool.false_eq_true, wo, cm]
