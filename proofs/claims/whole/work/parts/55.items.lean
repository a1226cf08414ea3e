/-! THE TAPE: words, numbers, traits, items -/
def waF (b : Nat → Int32) (s w : Nat) : Nat → Nat → Bool
  | 0, _ => true
  | m + 1, i => decide (b (s + i) = sbN w i) && waF b s w m (i + 1)
def wdB (b : Nat → Int32) (q : tQ) (w : Nat) : Bool := decide (q.1 = 1) && (decide (q.2.2.1 - q.2.1 = slN w) && waF b q.2.1 w (slN w) 0)
def nbB (q : tQ) (mo : Int32) : Bool := decide (q.1 = 2) && decide (q.2.2.2 ≤ mo)
theorem bI_and1 {p : Bool} (h : p = false) (r : Bool) : bI ((p && r) = true) = 0 := by
  subst h
  rfl
theorem isWord_loop (d : Nat) (S : hs_S) (q : tQ) (w : Nat) (hw : w < 14) (he : q.2.1 + slN w ≤ 120) : ∀ m i, i + m = slN w → sx_run (d + 4) 54 (28, [some (.ref 51), some (.ref (1000 + w)), some (.int (nI i))], [], hp (stT S q)) = some (some (.int (bI (waF (S.2.1 52) q.2.1 w m i = true))), hp (stT S q)) := by
  have s7 := (sl_7 w hw).1
  have ln := sp_length (d + 2) w (hp (stT S q)) hw
  have c14 : 1000 ≤ 1000 + w ∧ 1000 + w < 1014 := by omega
  intro m
  induction m with
  | zero =>
    intro i hi
    have e : i = slN w := by omega
    rw [ez54_28]
    simp only [ez54_29, ez54_30, if_pos c14, ln, Option.bind_some, tl_s, ez54_33, if_pos (nI_le (show slN w ≤ i by omega) (by omega)), ez54_63, ez54_64, nar_1, if_true]
    rfl
  | succ m ih =>
    intro i hi
    have k := ih (i + 1) (by omega)
    have ca := sp_charAt d w i (hp (stT S q)) hw (by omega)
    rw [ez54_28]
    simp only [ez54_29, ez54_30, if_pos c14, ln, Option.bind_some, tl_s, ez54_33, if_neg (nI_ge (show i < slN w by omega) (by omega)), ez54_36, ez54_37, ez54_40, ez54_41, ez54_44, ez54_45, ez54_46, ez54_47, ez54_48, ez54_49, GF_51_0, GF_51_3, stT_s, stT_2, nI_ad, GI_52, in_nI (show q.2.1 + i < 120 by omega) (show 120 < 2 ^ 31 by omega), if_true, nI_clamp (show q.2.1 + i < 2 ^ 31 by omega), ca, ez54_52]
    unfold waF
    by_cases h : S.2.1 52 (q.2.1 + i) = sbN w i
    · rw [if_pos h]
      simp only [ez54_57, ez54_60, nI_1]
      rw [k, decide_eq_true h, Bool.true_and]
    · rw [if_neg h]
      simp only [ez54_55, ez54_56, nar_0, if_true]
      rw [decide_eq_false h]
      rfl
theorem nI_subN {a b : Nat} (h : b ≤ a) : nI a - nI b = nI (a - b) := by
  have e : nI a = nI (a - b) + nI b := by rw [nI_ad, Nat.sub_add_cancel h]
  rw [e, Int32.add_sub_cancel]
theorem sp_isWord (d : Nat) (S : hs_S) (L : Nat) (q : tQ) (w : Nat) (hL : L ≤ 120) (hq : q.2.1 ≤ q.2.2.1 ∧ q.2.2.1 ≤ L) (hw : w < 14) : sx_call (d + 5) 54 [.ref 51, .ref (1000 + w)] (hp (stT S q)) = some (some (.int (bI (wdB (S.2.1 52) q w = true))), hp (stT S q)) := by
  rw [cz54]
  have s7 := (sl_7 w hw).1
  have ln := sp_length (d + 2) w (hp (stT S q)) hw
  have c14 : 1000 ≤ 1000 + w ∧ 1000 + w < 1014 := by omega
  unfold wdB
  by_cases h1 : q.1 = 1
  · by_cases h2 : q.2.2.1 - q.2.1 = slN w
    · have l := isWord_loop d S q w hw (by omega) (slN w) 0 (by omega)
      rw [decide_eq_true h1, decide_eq_true h2, Bool.true_and, Bool.true_and, ← l]
      simp only [ez54_0, ez54_1, ez54_4, ez54_5, ez54_8, ez54_9, ez54_12, ez54_13, ez54_16, ez54_17, ez54_18, ez54_21, ez54_24, ez54_25, ez54_26, ez54_27, GF_51_2, GF_51_3, GF_51_4, stT_t, stT_s, stT_e, h1, not_true, if_false, Option.bind_some, nI_subN hq.1, if_pos c14, ln, tl_s, h2, if_true]
      rfl
    · have n2 : ¬ nI (q.2.2.1 - q.2.1) = nI (slN w) := fun y => h2 ((nI_eq (by omega) (by omega)).mp y)
      rw [decide_eq_false h2]
      simp only [ez54_0, ez54_1, ez54_4, ez54_5, ez54_8, ez54_9, ez54_12, ez54_13, ez54_16, ez54_17, ez54_18, ez54_21, ez54_24, ez54_25, GF_51_2, GF_51_3, GF_51_4, stT_t, stT_s, stT_e, h1, not_true, if_false, Option.bind_some, nI_subN hq.1, if_pos c14, ln, tl_s, n2, nar_0, if_true]
      rfl
  · rw [decide_eq_false h1]
    simp only [ez54_0, ez54_1, ez54_4, ez54_5, ez54_8, ez54_9, ez54_12, ez54_13, ez54_16, ez54_17, ez54_18, ez54_21, ez54_24, ez54_25, GF_51_2, stT_t, h1, not_false_iff, if_true, Option.bind_some, nar_0]
    rfl
theorem sp_isNumber (d : Nat) (S : hs_S) (q : tQ) (mo : Int32) : sx_call (d + 1) 53 [.ref 51, .int mo] (hp (stT S q)) = some (some (.int (bI (nbB q mo = true))), hp (stT S q)) := by
  rw [cz53]
  unfold nbB
  by_cases h1 : q.1 = 2
  · by_cases h2 : q.2.2.2 ≤ mo
    · rw [decide_eq_true h1, decide_eq_true h2]
      simp only [ez53_0, ez53_1, ez53_4, ez53_5, ez53_8, ez53_9, ez53_12, ez53_13, ez53_16, ez53_17, ez53_20, ez53_21, GF_51_2, GF_51_5, stT_t, stT_n, h1, not_true, if_false, Option.bind_some, if_neg (Int32.not_lt.mpr h2), nar_1, if_true]
      rfl
    · rw [decide_eq_false h2, Bool.and_false]
      simp only [ez53_0, ez53_1, ez53_4, ez53_5, ez53_8, ez53_9, ez53_12, ez53_13, ez53_16, ez53_17, ez53_20, ez53_21, GF_51_2, GF_51_5, stT_t, stT_n, h1, not_true, if_false, Option.bind_some, if_pos (Int32.not_le.mp h2), nar_0, if_true]
      rfl
  · rw [decide_eq_false h1]
    simp only [ez53_0, ez53_1, ez53_4, ez53_5, ez53_8, ez53_9, ez53_12, ez53_13, ez53_16, ez53_17, ez53_20, ez53_21, GF_51_2, stT_t, h1, not_false_iff, if_true, Option.bind_some, nar_0]
    rfl
theorem stT_uF (S : hs_S) (q : tQ) (a k : Nat) (v : Int32) (h : a ≠ 51) : uF (stT S q) a k v = stT (uF S a k v) q := by
  unfold stT
  rw [uF_comm _ 51 5 a k _ _ (Or.inl (Ne.symm h)), uF_comm _ 51 4 a k _ _ (Or.inl (Ne.symm h)), uF_comm _ 51 3 a k _ _ (Or.inl (Ne.symm h)), uF_comm _ 51 2 a k _ _ (Or.inl (Ne.symm h))]
def tk (b : Nat → Int32) (L : Nat) (q : tQ) : tQ := tkQ b L q.2.2.1 q.2.2.2
def qOk (L : Nat) (q : tQ) : Prop := q.2.1 ≤ q.2.2.1 ∧ q.2.2.1 ≤ L
theorem tk_ok {b : Nat → Int32} {L : Nat} {q : tQ} (h : qOk L q) : qOk L (tk b L q) := (tkQ_ok b L q.2.2.1 q.2.2.2 h.2).2
theorem sp_adv (d : Nat) (S : hs_S) (L : Nat) (q : tQ) (hl : S.1 51 1 = nI L) (hL : L ≤ 120) (hq : qOk L q) : sx_call (d + 3) 55 [.ref 51] (hp (stT S q)) = some (none, hp (stT S (tk (S.2.1 52) L q))) := sp_advance d S L hl hL q hq.2
/-- a trait: perhaps a word and a number -/
def trF (b : Nat → Int32) (L w : Nat) (mo : Int32) (a k : Nat) (S : hs_S) (q : tQ) : Bool × hs_S × tQ :=
  if wdB b q w = true then (if nbB (tk b L q) mo = true then (true, uF S a k (tk b L q).2.2.2, tk b L (tk b L q)) else (false, S, tk b L q)) else (true, S, q)
theorem trF_1 (b : Nat → Int32) (L w : Nat) (mo : Int32) (a k : Nat) (S : hs_S) (q : tQ) (h : a ≠ 51) : (trF b L w mo a k S q).2.1.1 51 1 = S.1 51 1 ∧ (trF b L w mo a k S q).2.1.2 = S.2 := by
  unfold trF
  by_cases h1 : wdB b q w = true
  · rw [if_pos h1]
    by_cases h2 : nbB (tk b L q) mo = true
    · rw [if_pos h2]
      exact ⟨uF_off S a k _ (Or.inl (Ne.symm h)), rfl⟩
    · rw [if_neg h2]
      exact ⟨rfl, rfl⟩
  · rw [if_neg h1]
    exact ⟨rfl, rfl⟩
theorem trF_ok {b : Nat → Int32} {L w : Nat} {mo : Int32} {a k : Nat} {S : hs_S} {q : tQ} (h : qOk L q) : qOk L (trF b L w mo a k S q).2.2 := by
  unfold trF
  by_cases h1 : wdB b q w = true
  · rw [if_pos h1]
    by_cases h2 : nbB (tk b L q) mo = true
    · rw [if_pos h2]
      exact tk_ok (tk_ok h)
    · rw [if_neg h2]
      exact tk_ok h
  · rw [if_neg h1]
    exact h
theorem tr_7 (d : Nat) (S : hs_S) (L : Nat) (q : tQ) (a : Nat) (hl : S.1 51 1 = nI L) (hL : L ≤ 120) (hq : qOk L q) (ha : isCar a = true) : sx_run (d + 5) 51 (0, [some (.ref 51), some (.ref a)], [], hp (stT S q)) = if (trF (S.2.1 52) L 7 99 a 2 S q).1 = true then sx_run (d + 5) 51 (36, [some (.ref 51), some (.ref a)], [], hp (stT (trF (S.2.1 52) L 7 99 a 2 S q).2.1 (trF (S.2.1 52) L 7 99 a 2 S q).2.2)) else some (some (.int 0), hp (stT (trF (S.2.1 52) L 7 99 a 2 S q).2.1 (trF (S.2.1 52) L 7 99 a 2 S q).2.2)) := by
  have a51 : a ≠ 51 := Nat.ne_of_lt (car_lt ha)
  have iw : sx_call (d + 5) 54 [.ref 51, .ref (1000 + 7)] (hp (stT S q)) = _ := sp_isWord d S L q 7 hL hq (by decide)
  have iv : sx_call (d + 5) 54 [.ref 51, .ref 1007] (hp (stT S q)) = _ := iw
  have av := sp_adv (d + 2) S L q hl hL hq
  have nb := sp_isNumber (d + 4) S (tk (S.2.1 52) L q) 99
  have av2 : ∀ v, sx_call (d + 5) 55 [.ref 51] (hp (stT (uF S a 2 v) (tk (S.2.1 52) L q))) = some (none, hp (stT (uF S a 2 v) (tk (S.2.1 52) L (tk (S.2.1 52) L q)))) := fun v => sp_adv (d + 2) (uF S a 2 v) L (tk (S.2.1 52) L q) ((uF_off S a 2 v (Or.inl (Ne.symm a51))).trans hl) hL (tk_ok hq)
  unfold trF
  by_cases h1 : wdB (S.2.1 52) q 7 = true
  · by_cases h2 : nbB (tk (S.2.1 52) L q) 99 = true
    · simp only [ez51_0, ez51_1, ez51_3, ez51_6, ez51_9, ez51_10, ez51_13, ez51_14, ez51_16, ez51_19, ez51_22, ez51_23, ez51_24, ez51_25, ez51_26, ez51_29, ez51_32, ez51_33, KL_51, if_true, iw, iv, Option.bind_some, tl_s, tl_n, bI_eq0, h1, not_true, not_false_iff, if_false, av, nb, h2, GF_51_5, stT_n, PC_2 _ ha, stT_uF _ _ _ _ _ a51, av2]
    · simp only [ez51_0, ez51_1, ez51_3, ez51_6, ez51_9, ez51_10, ez51_13, ez51_14, ez51_16, ez51_19, ez51_22, ez51_23, ez51_24, ez51_25, ez51_26, ez51_29, ez51_32, ez51_33, KL_51, if_true, iw, iv, Option.bind_some, tl_s, tl_n, bI_eq0, h1, not_true, not_false_iff, if_false, av, nb, h2, nar_0, Bool.false_eq_true]
  · simp only [ez51_0, ez51_1, ez51_3, ez51_6, ez51_9, ez51_10, ez51_13, ez51_14, ez51_16, ez51_19, ez51_22, ez51_23, ez51_24, ez51_25, ez51_26, ez51_29, ez51_32, ez51_33, KL_51, if_true, iw, iv, Option.bind_some, tl_s, bI_eq0, h1, not_false_iff, Bool.false_eq_true, if_false]
theorem tr_8 (d : Nat) (S : hs_S) (L : Nat) (q : tQ) (a : Nat) (hl : S.1 51 1 = nI L) (hL : L ≤ 120) (hq : qOk L q) (ha : isCar a = true) : sx_run (d + 5) 51 (36, [some (.ref 51), some (.ref a)], [], hp (stT S q)) = if (trF (S.2.1 52) L 8 9 a 3 S q).1 = true then sx_run (d + 5) 51 (72, [some (.ref 51), some (.ref a)], [], hp (stT (trF (S.2.1 52) L 8 9 a 3 S q).2.1 (trF (S.2.1 52) L 8 9 a 3 S q).2.2)) else some (some (.int 0), hp (stT (trF (S.2.1 52) L 8 9 a 3 S q).2.1 (trF (S.2.1 52) L 8 9 a 3 S q).2.2)) := by
  have a51 : a ≠ 51 := Nat.ne_of_lt (car_lt ha)
  have iw : sx_call (d + 5) 54 [.ref 51, .ref (1000 + 8)] (hp (stT S q)) = _ := sp_isWord d S L q 8 hL hq (by decide)
  have iv : sx_call (d + 5) 54 [.ref 51, .ref 1008] (hp (stT S q)) = _ := iw
  have av := sp_adv (d + 2) S L q hl hL hq
  have nb := sp_isNumber (d + 4) S (tk (S.2.1 52) L q) 9
  have av2 : ∀ v, sx_call (d + 5) 55 [.ref 51] (hp (stT (uF S a 3 v) (tk (S.2.1 52) L q))) = some (none, hp (stT (uF S a 3 v) (tk (S.2.1 52) L (tk (S.2.1 52) L q)))) := fun v => sp_adv (d + 2) (uF S a 3 v) L (tk (S.2.1 52) L q) ((uF_off S a 3 v (Or.inl (Ne.symm a51))).trans hl) hL (tk_ok hq)
  unfold trF
  by_cases h1 : wdB (S.2.1 52) q 8 = true
  · by_cases h2 : nbB (tk (S.2.1 52) L q) 9 = true
    · simp only [ez51_36, ez51_37, ez51_39, ez51_42, ez51_45, ez51_46, ez51_49, ez51_50, ez51_52, ez51_55, ez51_58, ez51_59, ez51_60, ez51_61, ez51_62, ez51_65, ez51_68, ez51_69, KL_51, if_true, iw, iv, Option.bind_some, tl_s, tl_n, bI_eq0, h1, not_true, not_false_iff, if_false, av, nb, h2, GF_51_5, stT_n, PC_3 _ ha, stT_uF _ _ _ _ _ a51, av2]
    · simp only [ez51_36, ez51_37, ez51_39, ez51_42, ez51_45, ez51_46, ez51_49, ez51_50, ez51_52, ez51_55, ez51_58, ez51_59, ez51_60, ez51_61, ez51_62, ez51_65, ez51_68, ez51_69, KL_51, if_true, iw, iv, Option.bind_some, tl_s, tl_n, bI_eq0, h1, not_true, not_false_iff, if_false, av, nb, h2, nar_0, Bool.false_eq_true]
  · simp only [ez51_36, ez51_37, ez51_39, ez51_42, ez51_45, ez51_46, ez51_49, ez51_50, ez51_52, ez51_55, ez51_58, ez51_59, ez51_60, ez51_61, ez51_62, ez51_65, ez51_68, ez51_69, KL_51, if_true, iw, iv, Option.bind_some, tl_s, bI_eq0, h1, not_false_iff, Bool.false_eq_true, if_false]
theorem tr_9 (d : Nat) (S : hs_S) (L : Nat) (q : tQ) (a : Nat) (hl : S.1 51 1 = nI L) (hL : L ≤ 120) (hq : qOk L q) (ha : isCar a = true) : sx_run (d + 5) 51 (72, [some (.ref 51), some (.ref a)], [], hp (stT S q)) = if (trF (S.2.1 52) L 9 9 a 4 S q).1 = true then sx_run (d + 5) 51 (108, [some (.ref 51), some (.ref a)], [], hp (stT (trF (S.2.1 52) L 9 9 a 4 S q).2.1 (trF (S.2.1 52) L 9 9 a 4 S q).2.2)) else some (some (.int 0), hp (stT (trF (S.2.1 52) L 9 9 a 4 S q).2.1 (trF (S.2.1 52) L 9 9 a 4 S q).2.2)) := by
  have a51 : a ≠ 51 := Nat.ne_of_lt (car_lt ha)
  have iw : sx_call (d + 5) 54 [.ref 51, .ref (1000 + 9)] (hp (stT S q)) = _ := sp_isWord d S L q 9 hL hq (by decide)
  have iv : sx_call (d + 5) 54 [.ref 51, .ref 1009] (hp (stT S q)) = _ := iw
  have av := sp_adv (d + 2) S L q hl hL hq
  have nb := sp_isNumber (d + 4) S (tk (S.2.1 52) L q) 9
  have av2 : ∀ v, sx_call (d + 5) 55 [.ref 51] (hp (stT (uF S a 4 v) (tk (S.2.1 52) L q))) = some (none, hp (stT (uF S a 4 v) (tk (S.2.1 52) L (tk (S.2.1 52) L q)))) := fun v => sp_adv (d + 2) (uF S a 4 v) L (tk (S.2.1 52) L q) ((uF_off S a 4 v (Or.inl (Ne.symm a51))).trans hl) hL (tk_ok hq)
  unfold trF
  by_cases h1 : wdB (S.2.1 52) q 9 = true
  · by_cases h2 : nbB (tk (S.2.1 52) L q) 9 = true
    · simp only [ez51_72, ez51_73, ez51_75, ez51_78, ez51_81, ez51_82, ez51_85, ez51_86, ez51_88, ez51_91, ez51_94, ez51_95, ez51_96, ez51_97, ez51_98, ez51_101, ez51_104, ez51_105, KL_51, if_true, iw, iv, Option.bind_some, tl_s, tl_n, bI_eq0, h1, not_true, not_false_iff, if_false, av, nb, h2, GF_51_5, stT_n, PC_4 _ ha, stT_uF _ _ _ _ _ a51, av2]
    · simp only [ez51_72, ez51_73, ez51_75, ez51_78, ez51_81, ez51_82, ez51_85, ez51_86, ez51_88, ez51_91, ez51_94, ez51_95, ez51_96, ez51_97, ez51_98, ez51_101, ez51_104, ez51_105, KL_51, if_true, iw, iv, Option.bind_some, tl_s, tl_n, bI_eq0, h1, not_true, not_false_iff, if_false, av, nb, h2, nar_0, Bool.false_eq_true]
  · simp only [ez51_72, ez51_73, ez51_75, ez51_78, ez51_81, ez51_82, ez51_85, ez51_86, ez51_88, ez51_91, ez51_94, ez51_95, ez51_96, ez51_97, ez51_98, ez51_101, ez51_104, ez51_105, KL_51, if_true, iw, iv, Option.bind_some, tl_s, bI_eq0, h1, not_false_iff, Bool.false_eq_true, if_false]
/-- the traits of carrier a -/
def ttF (b : Nat → Int32) (L a : Nat) (S : hs_S) (q : tQ) : Bool × hs_S × tQ :=
  if (trF b L 7 99 a 2 S q).1 = true then
    if (trF b L 8 9 a 3 (trF b L 7 99 a 2 S q).2.1 (trF b L 7 99 a 2 S q).2.2).1 = true then trF b L 9 9 a 4 (trF b L 8 9 a 3 (trF b L 7 99 a 2 S q).2.1 (trF b L 7 99 a 2 S q).2.2).2.1 (trF b L 8 9 a 3 (trF b L 7 99 a 2 S q).2.1 (trF b L 7 99 a 2 S q).2.2).2.2
    else trF b L 8 9 a 3 (trF b L 7 99 a 2 S q).2.1 (trF b L 7 99 a 2 S q).2.2
  else trF b L 7 99 a 2 S q
theorem sp_takeTraits (d : Nat) (S : hs_S) (L : Nat) (q : tQ) (a : Nat) (hl : S.1 51 1 = nI L) (hL : L ≤ 120) (hq : qOk L q) (ha : isCar a = true) : sx_call (d + 6) 51 [.ref 51, .ref a] (hp (stT S q)) = some (some (.int (bI ((ttF (S.2.1 52) L a S q).1 = true))), hp (stT (ttF (S.2.1 52) L a S q).2.1 (ttF (S.2.1 52) L a S q).2.2)) := by
  rw [cz51]
  have a51 : a ≠ 51 := Nat.ne_of_lt (car_lt ha)
  rw [tr_7 d S L q a hl hL hq ha]
  unfold ttF
  have x1 := trF_1 (S.2.1 52) L 7 99 a 2 S q a51
  have o1' := trF_ok (b := S.2.1 52) (w := 7) (mo := 99) (a := a) (k := 2) (S := S) hq
  generalize hb : S.2.1 52 = b at x1 o1' ⊢
  generalize trF b L 7 99 a 2 S q = r1 at x1 o1' ⊢
  by_cases h1 : r1.1 = true
  · rw [if_pos h1, if_pos h1]
    have b1 : r1.2.1.2.1 52 = b := by rw [x1.2]; exact hb
    rw [tr_8 d r1.2.1 L r1.2.2 a (x1.1.trans hl) hL o1' ha, b1]
    have x2 := trF_1 b L 8 9 a 3 r1.2.1 r1.2.2 a51
    have o2' := trF_ok (b := b) (w := 8) (mo := 9) (a := a) (k := 3) (S := r1.2.1) o1'
    generalize trF b L 8 9 a 3 r1.2.1 r1.2.2 = r2 at x2 o2' ⊢
    by_cases h2 : r2.1 = true
    · rw [if_pos h2, if_pos h2]
      have b2 : r2.2.1.2.1 52 = b := by rw [x2.2]; exact b1
      rw [tr_9 d r2.2.1 L r2.2.2 a (x2.1.trans (x1.1.trans hl)) hL o2' ha, b2]
      generalize trF b L 9 9 a 4 r2.2.1 r2.2.2 = r3
      by_cases h3 : r3.1 = true
      · rw [if_pos h3, bI_t h3]
        simp only [ez51_108, ez51_109, nar_1, if_true]
      · rw [if_neg h3, bI_f h3]
    · rw [if_neg h2, if_neg h2, bI_f h2]
  · rw [if_neg h1, if_neg h1, bI_f h1]
theorem stT_uI (S : hs_S) (q : tQ) (a : Nat) (f : Nat → Int32) : uI (stT S q) a f = stT (uI S a f) q := rfl
theorem stT_uK (S : hs_S) (q : tQ) (a n : Nat) : uK (stT S q) a n = stT (uK S a n) q := rfl
def poR (b : Nat → Int32) (L r : Nat) (mo : Int32) (S : hs_S) (q : tQ) : Bool × hs_S × tQ :=
  if nbB (tk b L q) 15 = true then
    if nbB (tk b L (tk b L q)) mo = true then (true, uI S r (upd (S.2.1 r) (tk b L q).2.2.2.toNatClampNeg (tk b L (tk b L q)).2.2.2), tk b L (tk b L (tk b L q)))
    else (false, S, tk b L (tk b L q))
  else (false, S, tk b L q)
theorem sp_takeOf36 (d : Nat) (S : hs_S) (L : Nat) (q : tQ) (mo : Int32) (hl : S.1 51 1 = nI L) (hL : L ≤ 120) (hq : qOk L q) (hn : nbB (tk (S.2.1 52) L q) 15 = true → sx_in (tk (S.2.1 52) L q).2.2.2 16 = true) : sx_call (d + 4) 52 [.ref 51, .ref 36, .int mo] (hp (stT S q)) = some (some (.int (bI ((poR (S.2.1 52) L 36 mo S q).1 = true))), hp (stT (poR (S.2.1 52) L 36 mo S q).2.1 (poR (S.2.1 52) L 36 mo S q).2.2)) := by
  rw [cz52]
  have av := sp_adv d S L q hl hL hq
  have av2 := sp_adv d S L (tk (S.2.1 52) L q) hl hL (tk_ok hq)
  have nb := fun q m => sp_isNumber (d + 2) S q m
  have av3 : ∀ f, sx_call (d + 3) 55 [.ref 51] (hp (stT (uI S 36 f) (tk (S.2.1 52) L (tk (S.2.1 52) L q)))) = some (none, hp (stT (uI S 36 f) (tk (S.2.1 52) L (tk (S.2.1 52) L (tk (S.2.1 52) L q))))) := fun f => sp_adv d (uI S 36 f) L _ hl hL (tk_ok (tk_ok hq))
  unfold poR
  by_cases h1 : nbB (tk (S.2.1 52) L q) 15 = true
  · by_cases h2 : nbB (tk (S.2.1 52) L (tk (S.2.1 52) L q)) mo = true
    · rw [if_pos h1, if_pos h2]
      simp only [ez52_0, ez52_1, ez52_4, ez52_5, ez52_7, ez52_10, ez52_13, ez52_14, ez52_15, ez52_16, ez52_19, ez52_20, ez52_21, ez52_24, ez52_25, ez52_26, ez52_29, ez52_32, ez52_33, ez52_34, ez52_35, ez52_36, ez52_37, ez52_40, ez52_41, ez52_42, ez52_45, ez52_46, KL_51, if_true, av, av2, Option.bind_some, tl_s, tl_n, nb, h1, h2, bI_eq0, not_true, not_false_iff, if_false, GF_51_5, stT_n, PI_36, hn h1, stT_uI, stT_2, av3, nar_1]
      rfl
    · rw [if_pos h1, if_neg h2]
      simp only [ez52_0, ez52_1, ez52_4, ez52_5, ez52_7, ez52_10, ez52_13, ez52_14, ez52_15, ez52_16, ez52_19, ez52_20, ez52_21, ez52_24, ez52_25, ez52_26, ez52_29, ez52_32, ez52_33, ez52_34, ez52_35, ez52_36, ez52_37, ez52_40, ez52_41, ez52_42, ez52_45, ez52_46, KL_51, if_true, av, av2, Option.bind_some, tl_s, tl_n, nb, h1, h2, bI_eq0, not_true, not_false_iff, if_false, GF_51_5, stT_n, nar_0, Bool.false_eq_true]
      rfl
  · rw [if_neg h1]
    simp only [ez52_0, ez52_1, ez52_4, ez52_5, ez52_7, ez52_10, ez52_13, ez52_14, ez52_15, ez52_16, ez52_19, ez52_20, ez52_21, ez52_24, ez52_25, ez52_26, ez52_29, ez52_32, ez52_33, ez52_34, ez52_35, ez52_36, ez52_37, ez52_40, ez52_41, ez52_42, ez52_45, ez52_46, KL_51, if_true, av, Option.bind_some, tl_s, tl_n, nb, h1, bI_eq0, not_true, not_false_iff, if_false, nar_0, Bool.false_eq_true]
    rfl
theorem sp_takeOf37 (d : Nat) (S : hs_S) (L : Nat) (q : tQ) (mo : Int32) (hl : S.1 51 1 = nI L) (hL : L ≤ 120) (hq : qOk L q) (hn : nbB (tk (S.2.1 52) L q) 15 = true → sx_in (tk (S.2.1 52) L q).2.2.2 16 = true) : sx_call (d + 4) 52 [.ref 51, .ref 37, .int mo] (hp (stT S q)) = some (some (.int (bI ((poR (S.2.1 52) L 37 mo S q).1 = true))), hp (stT (poR (S.2.1 52) L 37 mo S q).2.1 (poR (S.2.1 52) L 37 mo S q).2.2)) := by
  rw [cz52]
  have av := sp_adv d S L q hl hL hq
  have av2 := sp_adv d S L (tk (S.2.1 52) L q) hl hL (tk_ok hq)
  have nb := fun q m => sp_isNumber (d + 2) S q m
  have av3 : ∀ f, sx_call (d + 3) 55 [.ref 51] (hp (stT (uI S 37 f) (tk (S.2.1 52) L (tk (S.2.1 52) L q)))) = some (none, hp (stT (uI S 37 f) (tk (S.2.1 52) L (tk (S.2.1 52) L (tk (S.2.1 52) L q))))) := fun f => sp_adv d (uI S 37 f) L _ hl hL (tk_ok (tk_ok hq))
  unfold poR
  by_cases h1 : nbB (tk (S.2.1 52) L q) 15 = true
  · by_cases h2 : nbB (tk (S.2.1 52) L (tk (S.2.1 52) L q)) mo = true
    · rw [if_pos h1, if_pos h2]
      simp only [ez52_0, ez52_1, ez52_4, ez52_5, ez52_7, ez52_10, ez52_13, ez52_14, ez52_15, ez52_16, ez52_19, ez52_20, ez52_21, ez52_24, ez52_25, ez52_26, ez52_29, ez52_32, ez52_33, ez52_34, ez52_35, ez52_36, ez52_37, ez52_40, ez52_41, ez52_42, ez52_45, ez52_46, KL_51, if_true, av, av2, Option.bind_some, tl_s, tl_n, nb, h1, h2, bI_eq0, not_true, not_false_iff, if_false, GF_51_5, stT_n, PI_37, hn h1, stT_uI, stT_2, av3, nar_1]
      rfl
    · rw [if_pos h1, if_neg h2]
      simp only [ez52_0, ez52_1, ez52_4, ez52_5, ez52_7, ez52_10, ez52_13, ez52_14, ez52_15, ez52_16, ez52_19, ez52_20, ez52_21, ez52_24, ez52_25, ez52_26, ez52_29, ez52_32, ez52_33, ez52_34, ez52_35, ez52_36, ez52_37, ez52_40, ez52_41, ez52_42, ez52_45, ez52_46, KL_51, if_true, av, av2, Option.bind_some, tl_s, tl_n, nb, h1, h2, bI_eq0, not_true, not_false_iff, if_false, GF_51_5, stT_n, nar_0, Bool.false_eq_true]
      rfl
  · rw [if_neg h1]
    simp only [ez52_0, ez52_1, ez52_4, ez52_5, ez52_7, ez52_10, ez52_13, ez52_14, ez52_15, ez52_16, ez52_19, ez52_20, ez52_21, ez52_24, ez52_25, ez52_26, ez52_29, ez52_32, ez52_33, ez52_34, ez52_35, ez52_36, ez52_37, ez52_40, ez52_41, ez52_42, ez52_45, ez52_46, KL_51, if_true, av, Option.bind_some, tl_s, tl_n, nb, h1, bI_eq0, not_true, not_false_iff, if_false, nar_0, Bool.false_eq_true]
    rfl
