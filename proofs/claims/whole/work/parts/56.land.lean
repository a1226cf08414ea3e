/-! carriers of the draft (35), items, the text, land -/
theorem stT_setC (S : hs_S) (q : tQ) (a k : Nat) (pl sh co du ca : Int32) (h : a ≠ 51) : setC (stT S q) a k pl sh co du ca = stT (setC S a k pl sh co du ca) q := by
  rw [← setC_of, ← setC_of, stT_uK, stT_uF _ _ _ _ _ h, stT_uF _ _ _ _ _ h, stT_uF _ _ _ _ _ h, stT_uF _ _ _ _ _ h, stT_uF _ _ _ _ _ h]
theorem sp_isFull35 (d : Nat) (S : hs_S) : sx_call (d + 1) 26 [.ref 35] (hp S) = some (some (.int (bI (8 ≤ S.1 35 3))), hp S) := by
  rw [cz26]
  simp only [ez26_0, ez26_1, ez26_4, ez26_6, ez26_9, ez26_10, ez26_13, ez26_14, GF_35_3, Option.bind_some, nar_0, nar_1, if_true]
  by_cases h : S.1 35 3 < 8
  · simp only [h, if_true, bI_f (Int32.not_le.mpr h)]
  · simp only [h, if_false, bI_t (Int32.not_lt.mp h)]
theorem sp_addCarrier35 (d : Nat) (S : hs_S) (n k : Nat) (pl : Int32) (hn : n < 8) (hc : S.1 35 3 = nI n) : sx_call (d + 2) 27 [.ref 35, .ref (5 + k), .int pl] (hp S) = some (some (.int (nI n)), hp (uF (setC S (39 + n) k pl 20 0 0 0) 35 3 (nI (n + 1)))) := by
  rw [cz27]
  have e3 : (setC S (39 + n) k pl 20 0 0 0).1 35 3 = nI n := by
    unfold setC
    dsimp only
    rw [if_neg (by omega)]
    exact hc
  have e4 : nI (n + 1) - 1 = nI n := nI_pred n
  simp only [ez27_0, ez27_1, ez27_4, ez27_5, ez27_8, ez27_9, ez27_10, ez27_11, ez27_14, ez27_15, ez27_15i, ez27_16, ez27_19, ez27_20, ez27_21, ez27_24, ez27_25, ez27_28, ez27_29, ez27_30, GF_35_2, GF_35_3, hc, Option.bind_some, GQ_38 _ n hn, KL_c _ (car39 hn), if_true, sp_Carrier_start d S (39 + n) k pl (car39 hn), tl_n, e3, PF_35_3, nI_1, uF_at, e4]
/-- the draft with one carrier more -/
def adS (S : hs_S) (n k : Nat) (pl : Int32) : hs_S := uF (setC S (39 + n) k pl 20 0 0 0) 35 3 (nI (n + 1))
def tcF (b : Nat → Int32) (L k n : Nat) (S : hs_S) (q : tQ) : Bool × hs_S × tQ :=
  if 8 ≤ n then (false, S, q)
  else if wdB b (tk b L q) 6 = true then
    if nbB (tk b L (tk b L q)) 15 = true then ttF b L (39 + n) (adS S n k (tk b L (tk b L q)).2.2.2) (tk b L (tk b L (tk b L q)))
    else (false, S, tk b L (tk b L q))
  else (false, S, tk b L q)
theorem adS_1 (S : hs_S) (n k : Nat) (pl : Int32) (hn : n < 8) : (adS S n k pl).1 51 1 = S.1 51 1 := by
  unfold adS
  rw [uF_off _ _ _ _ (by omega), setC_off _ _ _ _ _ _ _ _ (by omega)]
theorem sp_takeCarrier (d : Nat) (S : hs_S) (L n k : Nat) (q : tQ) (hl : S.1 51 1 = nI L) (hL : L ≤ 120) (hq : qOk L q) (hn : n ≤ 8) (hc : S.1 35 3 = nI n) : sx_call (d + 7) 50 [.ref 51, .ref 35, .ref (5 + k)] (hp (stT S q)) = some (some (.int (bI ((tcF (S.2.1 52) L k n S q).1 = true))), hp (stT (tcF (S.2.1 52) L k n S q).2.1 (tcF (S.2.1 52) L k n S q).2.2)) := by
  rw [cz50]
  have fu : sx_call (d + 6) 26 [.ref 35] (hp (stT S q)) = some (some (.int (bI ((8 : Int32) ≤ nI n))), hp (stT S q)) := by
    rw [← hc]
    exact sp_isFull35 (d + 5) (stT S q)
  unfold tcF
  by_cases h8 : 8 ≤ n
  · have g : (8 : Int32) ≤ nI n := nI_le (a := 8) h8 (by omega)
    rw [if_pos h8]
    simp only [ez50_0, ez50_1, ez50_4, ez50_7, ez50_8, KL_35, if_true, fu, Option.bind_some, tl_s, bI_eq0, g, not_true, if_false, nar_0]
    rfl
  · have g : ¬ (8 : Int32) ≤ nI n := nI_ge (b := 8) (show n < 8 by omega) (by omega)
    rw [if_neg h8]
    have av := sp_adv (d + 3) S L q hl hL hq
    have iw : sx_call (d + 6) 54 [.ref 51, .ref (1000 + 6)] (hp (stT S (tk (S.2.1 52) L q))) = _ := sp_isWord (d + 1) S L (tk (S.2.1 52) L q) 6 hL (tk_ok hq) (by decide)
    have iv : sx_call (d + 6) 54 [.ref 51, .ref 1006] (hp (stT S (tk (S.2.1 52) L q))) = _ := iw
    have av2 := sp_adv (d + 3) S L (tk (S.2.1 52) L q) hl hL (tk_ok hq)
    have nb := fun q m => sp_isNumber (d + 5) S q m
    by_cases h1 : wdB (S.2.1 52) (tk (S.2.1 52) L q) 6 = true
    · rw [if_pos h1]
      by_cases h2 : nbB (tk (S.2.1 52) L (tk (S.2.1 52) L q)) 15 = true
      · rw [if_pos h2]
        have ad : ∀ v, sx_call (d + 6) 27 [.ref 35, .ref (5 + k), .int v] (hp (stT S (tk (S.2.1 52) L (tk (S.2.1 52) L q)))) = some (some (.int (nI n)), hp (stT (adS S n k v) (tk (S.2.1 52) L (tk (S.2.1 52) L q)))) := by
          intro v
          rw [sp_addCarrier35 (d + 4) (stT S (tk (S.2.1 52) L (tk (S.2.1 52) L q))) n k v (by omega) hc, stT_setC _ _ _ _ _ _ _ _ _ (by omega), stT_uF _ _ _ _ _ (by omega)]
          rfl
        have av3 : ∀ v, sx_call (d + 6) 55 [.ref 51] (hp (stT (adS S n k v) (tk (S.2.1 52) L (tk (S.2.1 52) L q)))) = some (none, hp (stT (adS S n k v) (tk (S.2.1 52) L (tk (S.2.1 52) L (tk (S.2.1 52) L q))))) := fun v => sp_adv (d + 3) (adS S n k v) L _ ((adS_1 S n k v (by omega)).trans hl) hL (tk_ok (tk_ok hq))
        have tt : ∀ v, sx_call (d + 6) 51 [.ref 51, .ref (39 + n)] (hp (stT (adS S n k v) (tk (S.2.1 52) L (tk (S.2.1 52) L (tk (S.2.1 52) L q))))) = some (some (.int (bI ((ttF (S.2.1 52) L (39 + n) (adS S n k v) (tk (S.2.1 52) L (tk (S.2.1 52) L (tk (S.2.1 52) L q)))).1 = true))), hp (stT (ttF (S.2.1 52) L (39 + n) (adS S n k v) (tk (S.2.1 52) L (tk (S.2.1 52) L (tk (S.2.1 52) L q)))).2.1 (ttF (S.2.1 52) L (39 + n) (adS S n k v) (tk (S.2.1 52) L (tk (S.2.1 52) L (tk (S.2.1 52) L q)))).2.2)) := fun v => sp_takeTraits d (adS S n k v) L _ (39 + n) ((adS_1 S n k v (by omega)).trans hl) hL (tk_ok (tk_ok (tk_ok hq))) (car39 (by omega))
        simp only [ez50_0, ez50_1, ez50_4, ez50_7, ez50_8, ez50_9, ez50_10, ez50_13, ez50_14, ez50_16, ez50_19, ez50_22, ez50_23, ez50_24, ez50_25, ez50_28, ez50_29, ez50_31, ez50_34, ez50_37, ez50_38, ez50_39, ez50_40, ez50_43, ez50_44, ez50_45, ez50_46, ez50_49, ez50_52, ez50_53, ez50_54, ez50_55, ez50_58, ez50_59, ez50_60, ez50_63, KL_35, KL_51, if_true, fu, Option.bind_some, tl_s, tl_n, bI_eq0, g, not_false_iff, av, iw, iv, h1, not_true, if_false, av2, nb, h2, GF_35_2, GF_51_5, stT_n, ad, GQ_38 _ n (show n < 8 by omega), av3, tt, bI_nar]
      · rw [if_neg h2]
        simp only [ez50_0, ez50_1, ez50_4, ez50_7, ez50_8, ez50_9, ez50_10, ez50_13, ez50_14, ez50_16, ez50_19, ez50_22, ez50_23, ez50_24, ez50_25, ez50_28, ez50_29, ez50_31, ez50_34, ez50_37, ez50_38, KL_35, KL_51, if_true, fu, Option.bind_some, tl_s, tl_n, bI_eq0, g, not_false_iff, av, iw, iv, h1, not_true, if_false, av2, nb, h2, nar_0, Bool.false_eq_true]
        rfl
    · rw [if_neg h1]
      simp only [ez50_0, ez50_1, ez50_4, ez50_7, ez50_8, ez50_9, ez50_10, ez50_13, ez50_14, ez50_16, ez50_19, ez50_22, ez50_23, KL_35, KL_51, if_true, fu, Option.bind_some, tl_s, tl_n, bI_eq0, g, not_false_iff, av, iw, iv, h1, not_true, if_false, nar_0, Bool.false_eq_true]
      rfl
/-- an item that begins with no kind -/
def tiR (b : Nat → Int32) (L : Nat) (S : hs_S) (q : tQ) : Bool × hs_S × tQ :=
  if wdB b q 10 = true then poR b L 36 9 S q
  else if wdB b q 11 = true then poR b L 37 99 S q
  else if wdB b q 12 = true then (true, uF S 35 5 1, tk b L q)
  else if wdB b q 13 = true then (true, uF S 35 5 0, tk b L q)
  else (false, S, q)
def tiK (b : Nat → Int32) (L n : Nat) (S : hs_S) (q : tQ) : Nat → Nat → Bool × hs_S × tQ
  | 0, _ => tiR b L S q
  | m + 1, k => if wdB b q k = true then tcF b L k n S q else tiK b L n S q m (k + 1)
/-- a number that is read is no less than 0 -/
theorem nmC_pos (b : Nat → Int32) (L : Nat) : ∀ m i (v : Nat), v ≤ 1000 → ∃ u, u ≤ 1000 ∧ (nmC b L m i (nI v)).2 = nI u
  | 0, i, v, h => ⟨v, h, rfl⟩
  | m + 1, i, v, h => by
    unfold nmC
    by_cases h2 : dgB b L i = true
    · rw [if_pos h2]
      unfold dgB at h2
      simp only [Bool.and_eq_true, decide_eq_true_eq] at h2
      obtain ⟨c, hc, ec⟩ := nI_of (Int32.not_lt.mpr (Int32.le_trans (show (0 : Int32) ≤ 48 by decide) h2.2.1))
      have c1 : 48 ≤ c := by
        have := h2.2.1
        rw [ec] at this
        exact Nat.le_of_not_lt fun z => nI_ge (b := 48) z (by omega) this
      have c2 : c ≤ 57 := by
        have := h2.2.2
        rw [ec] at this
        exact Nat.le_of_not_lt fun z => nI_ge (a := 57) z (by omega) this
      have e : nI v * 10 + b i - 48 = nI (10 * v + (c - 48)) := by
        rw [ec]
        have e1 : nI v * 10 = nI (10 * v) := by
          show Int32.ofNat v * Int32.ofNat 10 = Int32.ofNat (10 * v)
          rw [← Int32.ofNat_mul, Nat.mul_comm]
        have e2 : (48 : Int32) = nI 48 := rfl
        rw [e1, nI_ad, e2, nI_subN (by omega)]
        congr 1
        omega
      rw [e]
      by_cases h3 : nI (10 * v + (c - 48)) < 1000
      · rw [if_pos h3]
        exact nmC_pos b L m (i + 1) _ (Nat.le_of_lt (Nat.lt_of_not_le fun z => Int32.not_lt.mpr (nI_le (a := 1000) z (by omega)) h3))
      · rw [if_neg h3]
        exact nmC_pos b L m (i + 1) 1000 (by omega)
    · rw [if_neg h2]
      exact ⟨v, h, rfl⟩
theorem tk_num {b : Nat → Int32} {L : Nat} {q : tQ} (h : (tk b L q).1 = 2) : ∃ u, u ≤ 1000 ∧ (tk b L q).2.2.2 = nI u := by
  unfold tk tkQ at h ⊢
  generalize rnP (blB b L) 121 q.2.2.1 = i at h ⊢
  by_cases h1 : L ≤ i
  · rw [if_pos h1] at h
    dsimp only at h
    exact absurd h (by decide)
  · rw [if_neg h1] at h ⊢
    by_cases h2 : ltB b L i = true
    · rw [if_pos h2] at h
      dsimp only at h
      exact absurd h (by decide)
    · rw [if_neg h2] at h ⊢
      by_cases h3 : dgB b L i = true
      · rw [if_pos h3]
        exact nmC_pos b L 121 i 0 (by omega)
      · rw [if_neg h3] at h
        dsimp only at h
        by_cases h4 : b i = 59
        · rw [if_pos h4] at h
          exact absurd h (by decide)
        · rw [if_neg h4] at h
          exact absurd h (by decide)
theorem nbB_num {b : Nat → Int32} {L : Nat} {q : tQ} {mo : Nat} (hm : mo < 2 ^ 31) (h : nbB (tk b L q) (nI mo) = true) : ∃ u, u ≤ mo ∧ (tk b L q).2.2.2 = nI u := by
  unfold nbB at h
  simp only [Bool.and_eq_true, decide_eq_true_eq] at h
  obtain ⟨u, hu, e⟩ := tk_num h.1
  refine ⟨u, ?_, e⟩
  have := h.2
  rw [e] at this
  exact Nat.le_of_not_lt fun z => nI_ge z (by omega) this
theorem nb15 {b : Nat → Int32} {L : Nat} {q : tQ} (h : nbB (tk b L q) 15 = true) : sx_in (tk b L q).2.2.2 16 = true := by
  obtain ⟨u, hu, e⟩ := nbB_num (mo := 15) (by omega) h
  rw [e]
  exact in_nI (by omega) (by omega)
theorem item_rest (d : Nat) (S : hs_S) (L : Nat) (q : tQ) (l3 : Option Value) (hl : S.1 51 1 = nI L) (hL : L ≤ 120) (hq : qOk L q) : sx_run (d + 5) 49 (36, [some (.ref 51), some (.ref 35), some (.ref 2), l3], [], hp (stT S q)) = some (some (.int (bI ((tiR (S.2.1 52) L S q).1 = true))), hp (stT (tiR (S.2.1 52) L S q).2.1 (tiR (S.2.1 52) L S q).2.2)) := by
  have w10 : sx_call (d + 5) 54 [.ref 51, .ref (1000 + 10)] (hp (stT S q)) = _ := sp_isWord d S L q 10 hL hq (by decide)
  have w11 : sx_call (d + 5) 54 [.ref 51, .ref (1000 + 11)] (hp (stT S q)) = _ := sp_isWord d S L q 11 hL hq (by decide)
  have w12 : sx_call (d + 5) 54 [.ref 51, .ref (1000 + 12)] (hp (stT S q)) = _ := sp_isWord d S L q 12 hL hq (by decide)
  have w13 : sx_call (d + 5) 54 [.ref 51, .ref (1000 + 13)] (hp (stT S q)) = _ := sp_isWord d S L q 13 hL hq (by decide)
  have v10 : sx_call (d + 5) 54 [.ref 51, .ref 1010] (hp (stT S q)) = _ := w10
  have v11 : sx_call (d + 5) 54 [.ref 51, .ref 1011] (hp (stT S q)) = _ := w11
  have v12 : sx_call (d + 5) 54 [.ref 51, .ref 1012] (hp (stT S q)) = _ := w12
  have v13 : sx_call (d + 5) 54 [.ref 51, .ref 1013] (hp (stT S q)) = _ := w13
  have p36 := sp_takeOf36 (d + 1) S L q 9 hl hL hq nb15
  have p37 := sp_takeOf37 (d + 1) S L q 99 hl hL hq nb15
  have av : ∀ v, sx_call (d + 5) 55 [.ref 51] (hp (stT (uF S 35 5 v) q)) = some (none, hp (stT (uF S 35 5 v) (tk (S.2.1 52) L q))) := fun v => sp_adv (d + 2) (uF S 35 5 v) L q hl hL hq
  have pu : ∀ v, uF (stT S q) 35 5 v = stT (uF S 35 5 v) q := fun v => stT_uF S q 35 5 v (by decide)
  unfold tiR
  by_cases h10 : wdB (S.2.1 52) q 10 = true
  · rw [if_pos h10]
    simp only [ez49_36, ez49_37, ez49_39, ez49_42, ez49_45, ez49_46, ez49_47, ez49_50, ez49_52, ez49_55, KL_51, if_true, w10, v10, Option.bind_some, tl_s, bI_eq0, h10, not_true, if_false, GF_35_0, p36, bI_nar]
  · rw [if_neg h10]
    by_cases h11 : wdB (S.2.1 52) q 11 = true
    · rw [if_pos h11]
      simp only [ez49_36, ez49_37, ez49_39, ez49_42, ez49_45, ez49_46, ez49_47, ez49_50, ez49_52, ez49_55, ez49_56, ez49_57, ez49_59, ez49_62, ez49_65, ez49_66, ez49_67, ez49_70, ez49_72, ez49_75, KL_51, if_true, w10, v10, w11, v11, Option.bind_some, tl_s, bI_eq0, h10, h11, not_true, not_false_iff, if_false, GF_35_1, p37, bI_nar, Bool.false_eq_true]
    · rw [if_neg h11]
      by_cases h12 : wdB (S.2.1 52) q 12 = true
      · rw [if_pos h12]
        simp only [ez49_36, ez49_37, ez49_39, ez49_42, ez49_45, ez49_46, ez49_47, ez49_50, ez49_52, ez49_55, ez49_56, ez49_57, ez49_59, ez49_62, ez49_65, ez49_66, ez49_67, ez49_70, ez49_72, ez49_75, ez49_76, ez49_77, ez49_79, ez49_82, ez49_85, ez49_86, ez49_87, ez49_90, ez49_91, ez49_94, ez49_95, KL_51, if_true, w10, v10, w11, v11, w12, v12, Option.bind_some, tl_s, tl_n, bI_eq0, h10, h11, h12, not_true, not_false_iff, if_false, PF_35_5, pu, av, nar_1, Bool.false_eq_true]
        rfl
      · rw [if_neg h12]
        by_cases h13 : wdB (S.2.1 52) q 13 = true
        · rw [if_pos h13]
          simp only [ez49_36, ez49_37, ez49_39, ez49_42, ez49_45, ez49_46, ez49_47, ez49_50, ez49_52, ez49_55, ez49_56, ez49_57, ez49_59, ez49_62, ez49_65, ez49_66, ez49_67, ez49_70, ez49_72, ez49_75, ez49_76, ez49_77, ez49_79, ez49_82, ez49_85, ez49_86, ez49_87, ez49_90, ez49_91, ez49_94, ez49_95, ez49_96, ez49_97, ez49_99, ez49_102, ez49_105, ez49_106, ez49_107, ez49_110, ez49_111, ez49_114, ez49_115, KL_51, if_true, w10, v10, w11, v11, w12, v12, w13, v13, Option.bind_some, tl_s, tl_n, bI_eq0, h10, h11, h12, h13, not_true, not_false_iff, if_false, PF_35_5, pu, av, nar_1, Bool.false_eq_true]
          rfl
        · rw [if_neg h13]
          simp only [ez49_36, ez49_37, ez49_39, ez49_42, ez49_45, ez49_46, ez49_47, ez49_50, ez49_52, ez49_55, ez49_56, ez49_57, ez49_59, ez49_62, ez49_65, ez49_66, ez49_67, ez49_70, ez49_72, ez49_75, ez49_76, ez49_77, ez49_79, ez49_82, ez49_85, ez49_86, ez49_87, ez49_90, ez49_91, ez49_94, ez49_95, ez49_96, ez49_97, ez49_99, ez49_102, ez49_105, ez49_106, ez49_107, ez49_110, ez49_111, ez49_114, ez49_115, ez49_116, ez49_117, KL_51, if_true, w10, v10, w11, v11, w12, v12, w13, v13, Option.bind_some, tl_s, tl_n, bI_eq0, h10, h11, h12, h13, not_false_iff, nar_0, Bool.false_eq_true]
          rfl
theorem item_loop (d : Nat) (S : hs_S) (L n : Nat) (q : tQ) (hl : S.1 51 1 = nI L) (hL : L ≤ 120) (hq : qOk L q) (hn : n ≤ 8) (hc : S.1 35 3 = nI n) : ∀ m k, k + m = 6 → sx_run (d + 7) 49 (2, [some (.ref 51), some (.ref 35), some (.ref 2), some (.int (nI k))], [], hp (stT S q)) = some (some (.int (bI ((tiK (S.2.1 52) L n S q m k).1 = true))), hp (stT (tiK (S.2.1 52) L n S q m k).2.1 (tiK (S.2.1 52) L n S q m k).2.2)) := by
  intro m
  induction m with
  | zero =>
    intro k hk
    have e : k = 6 := by omega
    subst e
    rw [ez49_2]
    simp only [ez49_3, ez49_4, ez49_5, AL_2, Option.bind_some, if_pos (show (6 : Int32) ≤ nI 6 by decide)]
    exact item_rest (d + 2) S L q _ hl hL hq
  | succ m ih =>
    intro k hk
    have g : ¬ (6 : Int32) ≤ nI k := nI_ge (b := 6) (show k < 6 by omega) (by omega)
    have iw := sp_isWord (d + 2) S L q k hL hq (by omega)
    have tc := sp_takeCarrier d S L n k q hl hL hq hn hc
    unfold tiK
    rw [ez49_2]
    by_cases h : wdB (S.2.1 52) q k = true
    · rw [if_pos h]
      simp only [ez49_3, ez49_4, ez49_5, ez49_8, ez49_9, ez49_10, ez49_11, ez49_12, ez49_15, ez49_18, ez49_21, ez49_22, ez49_23, ez49_24, ez49_25, ez49_26, ez49_29, AL_2, Option.bind_some, if_neg g, GQ_2 _ k (show k < 6 by omega), GK_1 _ (show k < 6 by omega), KL_51, if_true, iw, tl_s, bI_eq0, h, not_true, if_false, tc, bI_nar]
    · rw [if_neg h]
      simp only [ez49_3, ez49_4, ez49_5, ez49_8, ez49_9, ez49_10, ez49_11, ez49_12, ez49_15, ez49_18, ez49_21, ez49_22, ez49_23, ez49_24, ez49_25, ez49_26, ez49_29, ez49_30, ez49_33, AL_2, Option.bind_some, if_neg g, GQ_2 _ k (show k < 6 by omega), GK_1 _ (show k < 6 by omega), KL_51, if_true, iw, tl_s, bI_eq0, h, not_false_iff, nI_1, Bool.false_eq_true]
      exact ih (k + 1) (by omega)
theorem sp_takeItem (d : Nat) (S : hs_S) (L n : Nat) (q : tQ) (hl : S.1 51 1 = nI L) (hL : L ≤ 120) (hq : qOk L q) (hn : n ≤ 8) (hc : S.1 35 3 = nI n) : sx_call (d + 8) 49 [.ref 51, .ref 35, .ref 2] (hp (stT S q)) = some (some (.int (bI ((tiK (S.2.1 52) L n S q 6 0).1 = true))), hp (stT (tiK (S.2.1 52) L n S q 6 0).2.1 (tiK (S.2.1 52) L n S q 6 0).2.2)) := by
  rw [cz49]
  simp only [ez49_0, ez49_1]
  exact item_loop d S L n q hl hL hq hn hc 6 0 (by omega)
