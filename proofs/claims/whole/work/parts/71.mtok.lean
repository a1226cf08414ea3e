/-! THE MODEL: tokens, words, numbers -/
def bytF (b : Nat → Int32) (L k : Nat) : Int32 := if k < L then b k else -1
theorem sp_byteAt (d : Nat) (T : hs_S) (L k : Nat) (hl : T.1 61 13 = nI L) (hL : L ≤ 120) (hk : k ≤ 120) : sx_call (d + 1) 180 [.ref 61, .int (nI k)] (hp T) = some (some (.int (bytF (T.2.1 67) L k)), hp T) := by
  rw [cz180]
  unfold bytF
  by_cases h : k < L
  · rw [if_pos h]
    simp only [ez180_0, ez180_1, ez180_2, ez180_5, ez180_8, ez180_9, ez180_12, ez180_13, ez180_14, ez180_17, ez180_18, GF_61_13, hl, Option.bind_some, tl_s, tl_n, bI_eq0, if_true, if_false, not_true, not_false_iff, and_self, Bool.false_eq_true, if_neg (nI_ge h (show L < 2 ^ 31 by omega)), GF_61_12, GI_67, in_nI (show k < 120 by omega) (by decide), nI_clamp (show k < 2 ^ 31 by omega)]
  · rw [if_neg h]
    simp only [ez180_0, ez180_1, ez180_2, ez180_5, ez180_8, ez180_9, ez180_12, ez180_13, ez180_14, ez180_17, ez180_18, GF_61_13, hl, Option.bind_some, tl_s, tl_n, bI_eq0, if_true, if_false, not_true, not_false_iff, and_self, Bool.false_eq_true, if_pos (nI_le (show L ≤ k by omega) (show k < 2 ^ 31 by omega))]
theorem lt_iff (b : Nat → Int32) (L k : Nat) : (97 ≤ bytF b L k ∧ bytF b L k ≤ 122) ↔ ltB b L k = true := by
  unfold bytF ltB
  by_cases h : k < L
  · rw [if_pos h, decide_eq_true h]
    simp
  · rw [if_neg h, decide_eq_false h]
    simp only [Bool.false_and, Bool.false_eq_true, iff_false]
    decide
theorem dg_iff (b : Nat → Int32) (L k : Nat) : (48 ≤ bytF b L k ∧ bytF b L k ≤ 57) ↔ dgB b L k = true := by
  unfold bytF dgB
  by_cases h : k < L
  · rw [if_pos h, decide_eq_true h]
    simp
  · rw [if_neg h, decide_eq_false h]
    simp only [Bool.false_and, Bool.false_eq_true, iff_false]
    decide
theorem bl_iff (b : Nat → Int32) (L k : Nat) : (bytF b L k = 32) ↔ blB b L k = true := by
  unfold bytF blB
  by_cases h : k < L
  · rw [if_pos h, decide_eq_true h]
    simp
  · rw [if_neg h, decide_eq_false h]
    simp only [Bool.false_and, Bool.false_eq_true, iff_false]
    decide
theorem sp_mLetter (d : Nat) (b : Nat → Int32) (L k : Nat) (h : sx_H) : sx_call (d + 2) 181 [.int (bytF b L k)] h = some (some (.int (bI (ltB b L k = true))), h) := by
  rw [cz181]
  simp only [ez181_0, ez181_1, ez181_2, ez181_5, ez181_8, ez181_11, sp_M_in, Option.bind_some, tl_s, tl_n, bI_eq0, if_true, if_false, not_true, not_false_iff, and_self, Bool.false_eq_true, bI_nar]
  rw [bI_cong (q := ltB b L k = true)]
  rw [wl_97, wu_122]
  exact lt_iff b L k
theorem sp_mDigit (d : Nat) (b : Nat → Int32) (L k : Nat) (h : sx_H) : sx_call (d + 2) 182 [.int (bytF b L k)] h = some (some (.int (bI (dgB b L k = true))), h) := by
  rw [cz182]
  simp only [ez182_0, ez182_1, ez182_2, ez182_5, ez182_8, ez182_11, sp_M_in, Option.bind_some, tl_s, tl_n, bI_eq0, if_true, if_false, not_true, not_false_iff, and_self, Bool.false_eq_true, bI_nar]
  rw [bI_cong (q := dgB b L k = true)]
  rw [wl_48, wu_57]
  exact dg_iff b L k
/-- the model's state in a text: token q, wrong or not, its row w; all else is S0 but for junk -/
def mq (S0 T : hs_S) (q : tQ) (wr : Int32) (w : Nat → Int32) : Prop := mJ S0 T w ∧ T.1 61 14 = nI q.2.1 ∧ T.1 61 15 = nI q.2.2.1 ∧ T.1 61 17 = wr ∧ T.2.1 64 = S0.2.1 64 ∧ ∀ i, 83 ≤ i → w i = S0.2.1 62 i
theorem mq_13 {S0 T : hs_S} {q : tQ} {wr : Int32} {w : Nat → Int32} (h : mq S0 T q wr w) : T.1 61 13 = S0.1 61 13 := h.1.2.1 61 13 rfl
theorem mq_67 {S0 T : hs_S} {q : tQ} {wr : Int32} {w : Nat → Int32} (h : mq S0 T q wr w) : T.2.1 67 = S0.2.1 67 := h.1.2.2.1 67 rfl
theorem rnP_fuel {p : Nat → Bool} {L : Nat} (hp0 : ∀ k, p k = true → k < L) : ∀ m m' i, L < i + m → L < i + m' → rnP p m i = rnP p m' i
  | 0, m', i, h1, h2 => by
    have e : ¬ p i = true := fun z => by have := hp0 i z; omega
    cases m' with
    | zero => rfl
    | succ m' =>
      unfold rnP
      rw [if_neg e]
  | m + 1, m', i, h1, h2 => by
    cases m' with
    | zero =>
      have e : ¬ p i = true := fun z => by have := hp0 i z; omega
      unfold rnP
      rw [if_neg e]
    | succ m' =>
      unfold rnP
      by_cases e : p i = true
      · rw [if_pos e, if_pos e]
        exact rnP_fuel hp0 m m' (i + 1) (by omega) (by omega)
      · rw [if_neg e, if_neg e]
theorem rnP_cong {p p' : Nat → Bool} (h : ∀ k, p k = p' k) : ∀ m i, rnP p m i = rnP p' m i
  | 0, i => rfl
  | m + 1, i => by
    unfold rnP
    rw [h i, rnP_cong h m (i + 1)]
theorem lt_dg (b : Nat → Int32) (L k : Nat) (h : ltB b L k = true) : dgB b L k = false := by
  unfold ltB at h
  unfold dgB
  simp only [Bool.and_eq_true, decide_eq_true_eq] at h
  have n : ¬ b k ≤ 57 := fun z => by
    have := Int32.le_trans h.2.1 z
    revert this
    decide
  rw [decide_eq_false n, Bool.and_false, Bool.and_false]
theorem mblanks_loop (d : Nat) (T : hs_S) (L : Nat) (hl : T.1 61 13 = nI L) (hL : L ≤ 120) (R : Option sx_R) : ∀ m i, L < i + m → i ≤ L → sx_run (d + 1) 183 (34, [some (.ref 61), none, none], [], hp (uF T 61 14 (nI (rnP (blB (T.2.1 67) L) m i)))) = R → sx_run (d + 1) 183 (8, [some (.ref 61), none, none], [], hp (uF T 61 14 (nI i))) = R := by
  intro m
  induction m with
  | zero => intro i h1 h2; omega
  | succ m ih =>
    intro i h1 h2 hR
    have by0 : sx_call (d + 1) 180 [.ref 61, .int (nI i)] (hp (uF T 61 14 (nI i))) = some (some (.int (bytF (T.2.1 67) L i)), hp (uF T 61 14 (nI i))) := sp_byteAt d (uF T 61 14 (nI i)) L i hl hL (by omega)
    have e14 : ∀ v, (uF T 61 14 v).1 61 14 = v := fun v => rfl
    unfold rnP at hR
    rw [ez183_8]
    simp only [ez183_9, ez183_10, ez183_13, ez183_16, GF_61_14, e14, Option.bind_some, tl_s, tl_n, bI_eq0, if_true, if_false, not_true, not_false_iff, and_self, Bool.false_eq_true, KL_61, by0, ez183_18]
    by_cases h4 : bytF (T.2.1 67) L i = 32
    · have h5 := (bl_iff (T.2.1 67) L i).mp h4
      have h3 := blB_lt h5
      rw [if_pos h5] at hR
      rw [if_neg (fun y => y h4)]
      simp only [ez183_21, ez183_22, ez183_22i, ez183_23, ez183_26, ez183_27, ez183_28, ez183_31, GF_61_14, e14, Option.bind_some, tl_s, tl_n, bI_eq0, if_true, if_false, not_true, not_false_iff, and_self, Bool.false_eq_true, PF_61_14, uF_uF, nI_1]
      exact ih (i + 1) (by omega) (by omega) hR
    · have h5 : ¬ blB (T.2.1 67) L i = true := fun y => h4 ((bl_iff _ _ _).mpr y)
      rw [if_neg h5] at hR
      rw [if_pos h4]
      exact hR
theorem run_loop (d : Nat) (T : hs_S) (L : Nat) (hl : T.1 61 13 = nI L) (hL : L ≤ 120) (wd nb : Bool) : ∀ m i, L < i + m → i ≤ L → sx_run (d + 2) 183 (86, [some (.ref 61), some (.int (bI (wd = true))), some (.int (bI (nb = true)))], [], hp (uF T 61 15 (nI i))) = some (none, hp (uF T 61 15 (nI (rnP (fun k => (wd && ltB (T.2.1 67) L k) || (nb && dgB (T.2.1 67) L k)) m i)))) := by
  intro m
  induction m with
  | zero => intro i h1 h2; omega
  | succ m ih =>
    intro i h1 h2
    have by0 : sx_call (d + 2) 180 [.ref 61, .int (nI i)] (hp (uF T 61 15 (nI i))) = some (some (.int (bytF (T.2.1 67) L i)), hp (uF T 61 15 (nI i))) := sp_byteAt (d + 1) (uF T 61 15 (nI i)) L i hl hL (by omega)
    have e15 : ∀ v, (uF T 61 15 v).1 61 15 = v := fun v => rfl
    have fin : i < L → sx_run (d + 2) 183 (122, [some (.ref 61), some (.int (bI (wd = true))), some (.int (bI (nb = true)))], [], hp (uF T 61 15 (nI i))) = some (none, hp (uF T 61 15 (nI (rnP (fun k => (wd && ltB (T.2.1 67) L k) || (nb && dgB (T.2.1 67) L k)) m (i + 1))))) := by
      intro h3
      simp only [ez183_122, ez183_123, ez183_123i, ez183_124, ez183_127, ez183_128, ez183_129, ez183_132, GF_61_15, e15, Option.bind_some, tl_s, tl_n, bI_eq0, if_true, if_false, not_true, not_false_iff, and_self, Bool.false_eq_true, PF_61_15, uF_uF, nI_1]
      exact ih (i + 1) (by omega) (by omega)
    have dig : ¬ (wd = true ∧ ltB (T.2.1 67) L i = true) → sx_run (d + 2) 183 (104, [some (.ref 61), some (.int (bI (wd = true))), some (.int (bI (nb = true)))], [], hp (uF T 61 15 (nI i))) = some (none, hp (uF T 61 15 (nI (rnP (fun k => (wd && ltB (T.2.1 67) L k) || (nb && dgB (T.2.1 67) L k)) (m + 1) i)))) := by
      intro hn
      have e0 : (wd && ltB (T.2.1 67) L i) = false := by
        cases h : wd
        · rfl
        · rw [Bool.true_and]
          exact ts_nt (fun z => hn ⟨h, z⟩)
      unfold rnP
      by_cases h3 : nb = true
      · by_cases h4 : dgB (T.2.1 67) L i = true
        · rw [if_pos (by show ((wd && ltB (T.2.1 67) L i) || (nb && dgB (T.2.1 67) L i)) = true; rw [e0, h3, h4]; rfl), ← fin (dgB_lt h4)]
          simp only [ez183_104, ez183_105, ez183_108, ez183_109, ez183_110, ez183_113, ez183_116, ez183_119, GF_61_15, e15, Option.bind_some, tl_s, tl_n, bI_eq0, if_true, if_false, not_true, not_false_iff, and_self, Bool.false_eq_true, KL_61, by0, sp_mDigit, h3, h4]
        · rw [if_neg (by show ¬ ((wd && ltB (T.2.1 67) L i) || (nb && dgB (T.2.1 67) L i)) = true; rw [e0, h3, ts_nt h4]; decide)]
          simp only [ez183_104, ez183_105, ez183_108, ez183_109, ez183_110, ez183_113, ez183_116, ez183_119, GF_61_15, e15, Option.bind_some, tl_s, tl_n, bI_eq0, if_true, if_false, not_true, not_false_iff, and_self, Bool.false_eq_true, KL_61, by0, sp_mDigit, h3, h4, ez183_135]
      · rw [if_neg (by show ¬ ((wd && ltB (T.2.1 67) L i) || (nb && dgB (T.2.1 67) L i)) = true; rw [e0, ts_nt h3, Bool.false_and]; decide)]
        simp only [ez183_104, ez183_105, Option.bind_some, tl_s, tl_n, bI_eq0, if_true, if_false, not_true, not_false_iff, and_self, Bool.false_eq_true, h3, ez183_135]
    rw [ez183_86]
    by_cases h1 : wd = true
    · by_cases h2 : ltB (T.2.1 67) L i = true
      · unfold rnP
        rw [if_pos (by show ((wd && ltB (T.2.1 67) L i) || (nb && dgB (T.2.1 67) L i)) = true; rw [h1, h2]; rfl), ← fin (ltB_lt h2)]
        simp only [ez183_87, ez183_90, ez183_91, ez183_92, ez183_95, ez183_98, ez183_101, GF_61_15, e15, Option.bind_some, tl_s, tl_n, bI_eq0, if_true, if_false, not_true, not_false_iff, and_self, Bool.false_eq_true, KL_61, by0, sp_mLetter, h1, h2]
      · rw [← dig (fun z => h2 z.2)]
        simp only [ez183_87, ez183_90, ez183_91, ez183_92, ez183_95, ez183_98, ez183_101, GF_61_15, e15, Option.bind_some, tl_s, tl_n, bI_eq0, if_true, if_false, not_true, not_false_iff, and_self, Bool.false_eq_true, KL_61, by0, sp_mLetter, h1, h2]
    · rw [← dig (fun z => h1 z.1)]
      simp only [ez183_87, Option.bind_some, tl_s, tl_n, bI_eq0, if_true, if_false, not_true, not_false_iff, and_self, Bool.false_eq_true, h1]
theorem sp_tokenE (d : Nat) {S0 T : hs_S} {L : Nat} {q : tQ} {wr : Int32} {w : Nat → Int32} (hl : S0.1 61 13 = nI L) (hL : L ≤ 120) (g : mq S0 T q wr w) (hq : q.2.2.1 ≤ L) : ∃ T', sx_call (d + 3) 183 [.ref 61] (hp T) = some (none, hp T') ∧ mq S0 T' (tk (S0.2.1 67) L q) wr w ∧ T'.1 61 16 = T.1 61 16 := by
  have l13 : T.1 61 13 = nI L := (mq_13 g).trans hl
  have b67 := mq_67 g
  have sL := rnP_le (L := L) (fun k => blB_lt (b := S0.2.1 67)) 121 q.2.2.1 hq
  have key : ∀ s, s ≤ L → ∀ e', e' = (if s < L then rnP (fun k => (ltB (S0.2.1 67) L s && ltB (S0.2.1 67) L k) || (dgB (S0.2.1 67) L s && dgB (S0.2.1 67) L k)) 121 (s + 1) else s) → sx_run (d + 2) 183 (34, [some (.ref 61), none, none], [], hp (uF T 61 14 (nI s))) = some (none, hp (uF (uF T 61 14 (nI s)) 61 15 (nI e'))) := by
    intro s hs e' he
    have by0 : sx_call (d + 2) 180 [.ref 61, .int (nI s)] (hp (uF T 61 14 (nI s))) = some (some (.int (bytF (S0.2.1 67) L s)), hp (uF T 61 14 (nI s))) := by
      rw [← b67]
      exact sp_byteAt (d + 1) (uF T 61 14 (nI s)) L s l13 hL (by omega)
    have e14 : (uF T 61 14 (nI s)).1 61 14 = nI s := rfl
    have e13 : (uF T 61 14 (nI s)).1 61 13 = nI L := l13
    have rl := fun i h1 h2 => run_loop d (uF T 61 14 (nI s)) L l13 hL (ltB (S0.2.1 67) L s) (dgB (S0.2.1 67) L s) 121 i h1 h2
    have b67' : (uF T 61 14 (nI s)).2.1 67 = S0.2.1 67 := b67
    rw [b67'] at rl
    by_cases h : s < L
    · rw [if_pos h] at he
      subst he
      simp only [ez183_34, ez183_35, ez183_36, ez183_39, ez183_42, ez183_45, ez183_46, ez183_47, ez183_48, ez183_51, ez183_54, ez183_57, ez183_58, ez183_59, ez183_60, ez183_63, ez183_64, ez183_67, ez183_70, ez183_71, ez183_74, ez183_75, ez183_76, ez183_79, ez183_80, ez183_83, GF_61_13, GF_61_14, e13, e14, Option.bind_some, tl_s, tl_n, bI_eq0, if_true, if_false, not_true, not_false_iff, and_self, Bool.false_eq_true, KL_61, by0, sp_mLetter, sp_mDigit, if_neg (nI_ge h (show L < 2 ^ 31 by omega)), PF_61_15, nI_1]
      exact rl (s + 1) (by omega) (by omega)
    · rw [if_neg h] at he
      subst he
      have r1 := rl e' (by omega) hs
      have n1 : ltB (S0.2.1 67) L e' = false := ts_nt (fun z => h (ltB_lt z))
      have n2 : dgB (S0.2.1 67) L e' = false := ts_nt (fun z => h (dgB_lt z))
      have r2 : rnP (fun k => (ltB (S0.2.1 67) L e' && ltB (S0.2.1 67) L k) || (dgB (S0.2.1 67) L e' && dgB (S0.2.1 67) L k)) 121 e' = e' := by
        rw [n1, n2]
        rfl
      rw [r2] at r1
      simp only [ez183_34, ez183_35, ez183_36, ez183_39, ez183_42, ez183_45, ez183_46, ez183_47, ez183_48, ez183_51, ez183_54, ez183_57, ez183_58, ez183_59, ez183_60, ez183_63, ez183_64, ez183_67, ez183_70, ez183_71, ez183_74, ez183_75, ez183_76, ez183_79, ez183_80, ez183_83, GF_61_13, GF_61_14, e13, e14, Option.bind_some, tl_s, tl_n, bI_eq0, if_true, if_false, not_true, not_false_iff, and_self, Bool.false_eq_true, KL_61, by0, sp_mLetter, sp_mDigit, if_pos (nI_le (show L ≤ e' by omega) (show e' < 2 ^ 31 by omega)), PF_61_15]
      exact r1
  have fin : ∃ e', sx_run (d + 2) 183 (34, [some (.ref 61), none, none], [], hp (uF T 61 14 (nI (tk (S0.2.1 67) L q).2.1))) = some (none, hp (uF (uF T 61 14 (nI (tk (S0.2.1 67) L q).2.1)) 61 15 (nI e'))) ∧ e' = (tk (S0.2.1 67) L q).2.2.1 := by
    unfold tk tkQ
    generalize rnP (blB (S0.2.1 67) L) 121 q.2.2.1 = s at sL ⊢
    by_cases h1 : L ≤ s
    · rw [if_pos h1]
      exact ⟨_, key s sL _ rfl, if_neg (by omega)⟩
    · rw [if_neg h1]
      by_cases h2 : ltB (S0.2.1 67) L s = true
      · rw [if_pos h2]
        refine ⟨_, key s sL _ rfl, ?_⟩
        rw [if_pos (by omega)]
        show rnP _ 121 (s + 1) = rnP (ltB (S0.2.1 67) L) 121 s
        rw [rnP_cong (p' := ltB (S0.2.1 67) L) (fun k => by rw [h2, lt_dg _ _ _ h2]; simp)]
        rw [rnP_fuel (fun k => ltB_lt (b := S0.2.1 67)) 121 122 s (by omega) (by omega)]
        show _ = (if ltB (S0.2.1 67) L s = true then _ else _)
        rw [if_pos h2]
      · rw [if_neg h2]
        by_cases h3 : dgB (S0.2.1 67) L s = true
        · rw [if_pos h3]
          refine ⟨_, key s sL _ rfl, ?_⟩
          rw [if_pos (by omega)]
          show rnP _ 121 (s + 1) = (nmC (S0.2.1 67) L 121 s 0).1
          rw [nmC_fst, rnP_cong (p' := dgB (S0.2.1 67) L) (fun k => by rw [h3, ts_nt h2]; simp)]
          rw [rnP_fuel (fun k => dgB_lt (b := S0.2.1 67)) 121 122 s (by omega) (by omega)]
          show _ = (if dgB (S0.2.1 67) L s = true then _ else _)
          rw [if_pos h3]
        · rw [if_neg h3]
          refine ⟨_, key s sL _ rfl, ?_⟩
          rw [if_pos (by omega)]
          show rnP _ 121 (s + 1) = s + 1
          rw [rnP_cong (p' := fun _ => false) (fun k => by rw [ts_nt h2, ts_nt h3]; simp)]
          rfl
  obtain ⟨e', c', he⟩ := fin
  have s1 : (tk (S0.2.1 67) L q).2.1 = rnP (blB (S0.2.1 67) L) 121 q.2.2.1 := by
    unfold tk tkQ
    generalize rnP (blB (S0.2.1 67) L) 121 q.2.2.1 = s
    by_cases h1 : L ≤ s
    · rw [if_pos h1]
    · rw [if_neg h1]
      by_cases h2 : ltB (S0.2.1 67) L s = true
      · rw [if_pos h2]
      · rw [if_neg h2]
        by_cases h3 : dgB (S0.2.1 67) L s = true
        · rw [if_pos h3]
        · rw [if_neg h3]
  refine ⟨_, ?_, ⟨mJ_F (mJ_F g.1 (show jF 61 14 = true from rfl) (nI (tk (S0.2.1 67) L q).2.1)) (show jF 61 15 = true from rfl) (nI e'), rfl, ?_, g.2.2.2.1, g.2.2.2.2.1, g.2.2.2.2.2⟩, rfl⟩
  · rw [cz183]
    simp only [ez183_0, ez183_1, ez183_2, ez183_5, GF_61_15, g.2.2.1, Option.bind_some, tl_s, tl_n, bI_eq0, if_true, if_false, not_true, not_false_iff, and_self, Bool.false_eq_true, PF_61_14]
    refine mblanks_loop (d + 1) T L l13 hL _ 121 q.2.2.1 (by omega) hq ?_
    rw [b67, ← s1]
    exact c'
  · show nI e' = _
    rw [he]
theorem sp_token (d : Nat) {S0 T : hs_S} {L : Nat} {q : tQ} {wr : Int32} {w : Nat → Int32} (hl : S0.1 61 13 = nI L) (hL : L ≤ 120) (g : mq S0 T q wr w) (hq : qOk L q) : ∃ T', sx_call (d + 3) 183 [.ref 61] (hp T) = some (none, hp T') ∧ mq S0 T' (tk (S0.2.1 67) L q) wr w ∧ T'.1 61 16 = T.1 61 16 := sp_tokenE d hl hL g hq.2
