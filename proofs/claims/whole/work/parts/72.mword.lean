/-! THE MODEL: must, words, numbers, over the same tokens -/
def qT (b : Nat → Int32) (L : Nat) (q : tQ) : Prop := ∃ e n, e ≤ L ∧ q = tkQ b L e n
theorem qT_ok {b : Nat → Int32} {L : Nat} {q : tQ} (h : qT b L q) : qOk L q := by
  obtain ⟨e, n, he, rfl⟩ := h
  exact (tkQ_ok b L e n he).2
theorem qT_tk {b : Nat → Int32} {L : Nat} {q : tQ} (h : qOk L q) : qT b L (tk b L q) := ⟨q.2.2.1, q.2.2.2, h.2, rfl⟩
theorem rnP_all {p : Nat → Bool} : ∀ m i k, i ≤ k → k < rnP p m i → p k = true
  | 0, i, k, h1, h2 => by
    have h2' : k < i := h2
    omega
  | m + 1, i, k, h1, h2 => by
    unfold rnP at h2
    by_cases h : p i = true
    · rw [if_pos h] at h2
      by_cases e : k = i
      · rw [e]; exact h
      · exact rnP_all m (i + 1) k (by omega) h2
    · rw [if_neg h] at h2
      omega
theorem qT_facts {b : Nat → Int32} {L : Nat} {q : tQ} (h : qT b L q) : (q.1 = 1 ↔ ltB b L q.2.1 = true) ∧ (q.1 = 1 → ∀ k, q.2.1 ≤ k → k < q.2.2.1 → ltB b L k = true) ∧ (q.1 = 2 ↔ dgB b L q.2.1 = true) ∧ (q.1 = 2 → q.2.2.1 = rnP (dgB b L) 121 q.2.1 ∧ q.2.2.2 = (nmC b L 121 q.2.1 0).2) ∧ (q.1 = 0 ↔ L ≤ q.2.1) ∧ (q.1 = 3 ↔ bytF b L q.2.1 = 59) := by
  obtain ⟨e, n, he, rfl⟩ := h
  unfold tkQ
  generalize rnP (blB b L) 121 e = s
  have d01 : ¬ ((0 : Int32) = 1) := by decide
  have d02 : ¬ ((0 : Int32) = 2) := by decide
  have d03 : ¬ ((0 : Int32) = 3) := by decide
  have d10 : ¬ ((1 : Int32) = 0) := by decide
  have d12 : ¬ ((1 : Int32) = 2) := by decide
  have d13 : ¬ ((1 : Int32) = 3) := by decide
  have d20 : ¬ ((2 : Int32) = 0) := by decide
  have d21 : ¬ ((2 : Int32) = 1) := by decide
  have d23 : ¬ ((2 : Int32) = 3) := by decide
  by_cases h1 : L ≤ s
  · rw [if_pos h1]
    have n1 : ¬ ltB b L s = true := fun z => by have := ltB_lt z; omega
    have n2 : ¬ dgB b L s = true := fun z => by have := dgB_lt z; omega
    have n3 : ¬ bytF b L s = 59 := by
      unfold bytF
      rw [if_neg (by omega)]
      decide
    exact ⟨⟨fun z => absurd z d01, fun z => absurd z n1⟩, fun z => absurd z d01, ⟨fun z => absurd z d02, fun z => absurd z n2⟩, fun z => absurd z d02, ⟨fun _ => h1, fun _ => rfl⟩, ⟨fun z => absurd z d03, fun z => absurd z n3⟩⟩
  · rw [if_neg h1]
    by_cases h2 : ltB b L s = true
    · rw [if_pos h2]
      have n2 : ¬ dgB b L s = true := by rw [lt_dg b L s h2]; decide
      have n3 : ¬ bytF b L s = 59 := fun z => by
        have := (lt_iff b L s).mpr h2
        rw [z] at this
        revert this
        decide
      exact ⟨⟨fun _ => h2, fun _ => rfl⟩, fun _ k k1 k2 => rnP_all 121 s k k1 k2, ⟨fun z => absurd z d12, fun z => absurd z n2⟩, fun z => absurd z d12, ⟨fun z => absurd z d10, fun z => absurd z h1⟩, ⟨fun z => absurd z d13, fun z => absurd z n3⟩⟩
    · rw [if_neg h2]
      by_cases h3 : dgB b L s = true
      · rw [if_pos h3]
        have n3 : ¬ bytF b L s = 59 := fun z => by
          have := (dg_iff b L s).mpr h3
          rw [z] at this
          revert this
          decide
        exact ⟨⟨fun z => absurd z d21, fun z => absurd z h2⟩, fun z => absurd z d21, ⟨fun _ => h3, fun _ => rfl⟩, fun _ => ⟨nmC_fst b L 121 s 0, rfl⟩, ⟨fun z => absurd z d20, fun z => absurd z h1⟩, ⟨fun z => absurd z d23, fun z => absurd z n3⟩⟩
      · rw [if_neg h3]
        have eb : bytF b L s = b s := if_pos (by omega)
        by_cases h4 : b s = 59
        · rw [if_pos h4]
          exact ⟨⟨fun z => absurd z (by show ¬ ((3 : Int32) = 1); decide), fun z => absurd z h2⟩, fun z => absurd z (by show ¬ ((3 : Int32) = 1); decide), ⟨fun z => absurd z (by show ¬ ((3 : Int32) = 2); decide), fun z => absurd z h3⟩, fun z => absurd z (by show ¬ ((3 : Int32) = 2); decide), ⟨fun z => absurd z (by show ¬ ((3 : Int32) = 0); decide), fun z => absurd z h1⟩, ⟨fun _ => eb.trans h4, fun _ => rfl⟩⟩
        · rw [if_neg h4]
          exact ⟨⟨fun z => absurd z (by show ¬ ((4 : Int32) = 1); decide), fun z => absurd z h2⟩, fun z => absurd z (by show ¬ ((4 : Int32) = 1); decide), ⟨fun z => absurd z (by show ¬ ((4 : Int32) = 2); decide), fun z => absurd z h3⟩, fun z => absurd z (by show ¬ ((4 : Int32) = 2); decide), ⟨fun z => absurd z (by show ¬ ((4 : Int32) = 0); decide), fun z => absurd z h1⟩, ⟨fun z => absurd z (by show ¬ ((4 : Int32) = 3); decide), fun z => absurd (eb.symm.trans z) h4⟩⟩
theorem must_1 (d : Nat) {S0 T : hs_S} {L : Nat} {q : tQ} {w : Nat → Int32} (hl : S0.1 61 13 = nI L) (hL : L ≤ 120) (g : mq S0 T q 0 w) (hq : qOk L q) : ∃ T', sx_call (d + 4) 184 [.ref 61, .int 1] (hp T) = some (none, hp T') ∧ mq S0 T' (tk (S0.2.1 67) L q) 0 w ∧ T'.1 61 16 = T.1 61 16 := by
  have g0 : mq S0 (uF T 61 17 0) q 0 w := ⟨mJ_F g.1 rfl 0, g.2.1, g.2.2.1, rfl, g.2.2.2.2.1, g.2.2.2.2.2⟩
  obtain ⟨T', c, g', e⟩ := sp_token d hl hL g0 hq
  refine ⟨T', ?_, g', e⟩
  have e17 : (uF T 61 17 0).1 61 17 = 0 := rfl
  rw [cz184]
  simp only [ez184_0, ez184_1, ez184_2, ez184_5, ez184_8, ez184_9, ez184_12, ez184_13, ez184_16, ez184_17, ez184_20, ez184_21, ez184_24, ez184_27, ez184_28, ez184_31, GF_61_17, g.2.2.2.1, Option.bind_some, tl_s, tl_n, bI_eq0, if_true, if_false, not_true, not_false_iff, and_self, Bool.false_eq_true, z1_0, isB_0, PF_61_17, e17, KL_61, c]
theorem must_0 (d : Nat) {S0 T : hs_S} {q : tQ} {w : Nat → Int32} (g : mq S0 T q 0 w) : ∃ T', sx_call (d + 1) 184 [.ref 61, .int 0] (hp T) = some (none, hp T') ∧ mq S0 T' q 1 w ∧ T'.1 61 16 = T.1 61 16 := by
  refine ⟨uF T 61 17 1, ?_, ⟨mJ_F g.1 rfl 1, g.2.1, g.2.2.1, rfl, g.2.2.2.2.1, g.2.2.2.2.2⟩, rfl⟩
  have e17 : (uF T 61 17 1).1 61 17 = 1 := rfl
  rw [cz184]
  simp only [ez184_0, ez184_1, ez184_2, ez184_5, ez184_8, ez184_9, ez184_12, ez184_13, ez184_16, ez184_17, ez184_20, ez184_21, ez184_24, ez184_27, ez184_28, ez184_31, GF_61_17, g.2.2.2.1, Option.bind_some, tl_s, tl_n, bI_eq0, if_true, if_false, not_true, not_false_iff, and_self, Bool.false_eq_true, z1_0, isB_1, PF_61_17, e17]
theorem must_w (d : Nat) {S0 T : hs_S} {q : tQ} {w : Nat → Int32} (v : Int32) (g : mq S0 T q 1 w) : ∃ T', sx_call (d + 1) 184 [.ref 61, .int v] (hp T) = some (none, hp T') ∧ mq S0 T' q 1 w ∧ T'.1 61 16 = T.1 61 16 := by
  refine ⟨uF T 61 17 1, ?_, ⟨mJ_F g.1 rfl 1, g.2.1, g.2.2.1, rfl, g.2.2.2.2.1, g.2.2.2.2.2⟩, rfl⟩
  have e17 : (uF T 61 17 1).1 61 17 = 1 := rfl
  rw [cz184]
  simp only [ez184_0, ez184_1, ez184_2, ez184_5, ez184_8, ez184_9, ez184_12, ez184_13, ez184_16, ez184_17, ez184_20, ez184_21, ez184_24, ez184_27, ez184_28, ez184_31, GF_61_17, g.2.2.2.1, Option.bind_some, tl_s, tl_n, bI_eq0, if_true, if_false, not_true, not_false_iff, and_self, Bool.false_eq_true, z1_0, isB_1, PF_61_17, e17]
/-! words -/
def wvI (b : Nat → Int32) (s : Nat) : Nat → Int64
  | 0 => 0
  | j + 1 => if wvI b s j ≤ 36028797018963967 then 32 * wvI b s j + (b (s + j) - 96).toInt64 else wvI b s j
def wdV (b : Nat → Int32) (L : Nat) (q : tQ) (wr : Int32) : Int64 := if wr = 0 ∧ ltB b L q.2.1 = true then wvI b q.2.1 (q.2.2.1 - q.2.1) else 0
theorem word_loop (d : Nat) {S0 T : hs_S} {L : Nat} {q : tQ} {wr : Int32} {w : Nat → Int32} (hl : S0.1 61 13 = nI L) (hL : L ≤ 120) (g : mq S0 T q wr w) (hq : qOk L q) : ∀ m j, j + m = q.2.2.1 - q.2.1 → sx_run (d + 2) 185 (7, [some (.ref 61), some (.long (wvI (S0.2.1 67) q.2.1 j)), none, some (.int (nI (q.2.1 + j)))], [], hp T) = some (some (.long (wdV (S0.2.1 67) L q wr)), hp T) := by
  have l13 : T.1 61 13 = nI L := (mq_13 g).trans hl
  have b67 := mq_67 g
  have by0 : sx_call (d + 2) 180 [.ref 61, .int (nI q.2.1)] (hp T) = some (some (.int (bytF (S0.2.1 67) L q.2.1)), hp T) := by
    rw [← b67]
    exact sp_byteAt (d + 1) T L q.2.1 l13 hL (by have := hq.1; have := hq.2; omega)
  have q1 := hq.1
  have q2 := hq.2
  intro m
  induction m with
  | zero =>
    intro j hj
    unfold wdV
    rw [ez185_7]
    simp only [ez185_8, ez185_9, ez185_12, GF_61_15, g.2.2.1, Option.bind_some, tl_s, tl_n, bI_eq0, if_true, if_false, not_true, not_false_iff, and_self, Bool.false_eq_true, if_pos (nI_le (show q.2.2.1 ≤ q.2.1 + j by omega) (by omega)), ez185_50, ez185_51, GF_61_17, g.2.2.2.1, ez185_54]
    by_cases z : wr = 0
    · rw [if_neg (fun y => y z)]
      simp only [ez185_57, ez185_58, ez185_59, ez185_62, ez185_65, GF_61_14, g.2.1, Option.bind_some, tl_s, tl_n, bI_eq0, if_true, if_false, not_true, not_false_iff, and_self, Bool.false_eq_true, KL_61, by0, sp_mLetter, ez185_68]
      by_cases y : ltB (S0.2.1 67) L q.2.1 = true
      · rw [if_pos (fun x => x y), if_pos ⟨z, y⟩]
        simp only [ez185_75, ez185_76, show j = q.2.2.1 - q.2.1 by omega]
      · rw [if_neg (fun x => x y), if_neg (fun x => y x.2)]
        simp only [ez185_71, ez185_72, ez185_75, ez185_76]
    · rw [if_pos z, if_neg (fun x => z x.1)]
      simp only [ez185_71, ez185_72, ez185_75, ez185_76]
  | succ m ih =>
    intro j hj
    have K := ih (j + 1) (by omega)
    unfold wvI at K
    rw [ez185_7]
    simp only [ez185_8, ez185_9, ez185_12, ez185_15, ez185_16, ez185_19, GF_61_15, g.2.2.1, Option.bind_some, tl_s, tl_n, bI_eq0, if_true, if_false, not_true, not_false_iff, and_self, Bool.false_eq_true, if_neg (nI_ge (show q.2.1 + j < q.2.2.1 by omega) (by omega)), ez185_20, lg_cmp_le]
    by_cases z : wvI (S0.2.1 67) q.2.1 j ≤ 36028797018963967
    · rw [if_pos z] at K ⊢
      simp only [ez185_27, ez185_30, ez185_31, ez185_32, ez185_33, ez185_36, ez185_37, ez185_38, ez185_40, ez185_41, ez185_42, ez185_43, ez185_44, ez185_47, GF_61_12, Option.bind_some, tl_s, tl_n, bI_eq0, if_true, if_false, not_true, not_false_iff, and_self, Bool.false_eq_true, GI_67, in_nI (show q.2.1 + j < 120 by omega) (by decide), nI_clamp (show q.2.1 + j < 2 ^ 31 by omega), b67, nI_1]
      exact K
    · rw [if_neg z] at K ⊢
      simp only [ez185_23, ez185_24, ez185_43, ez185_44, ez185_47, nI_1]
      exact K
theorem sp_word (d : Nat) {S0 T : hs_S} {L : Nat} {q : tQ} {wr : Int32} {w : Nat → Int32} (hl : S0.1 61 13 = nI L) (hL : L ≤ 120) (g : mq S0 T q wr w) (hq : qOk L q) : sx_call (d + 3) 185 [.ref 61] (hp T) = some (some (.long (wdV (S0.2.1 67) L q wr)), hp T) := by
  rw [cz185]
  simp only [ez185_0, ez185_1, ez185_2, ez185_3, ez185_6, GF_61_14, g.2.1, Option.bind_some, tl_s, tl_n, bI_eq0, if_true, if_false, not_true, not_false_iff, and_self, Bool.false_eq_true]
  exact word_loop d hl hL g hq (q.2.2.1 - q.2.1) 0 (by omega)
def wNs (b : Nat → Int32) (s : Nat) : Nat → Nat
  | 0 => 0
  | j + 1 => if wNs b s j ≤ 36028797018963967 then 32 * wNs b s j + ((b (s + j)).toNatClampNeg - 96) else wNs b s j
theorem lN_toInt' {n : Nat} (h : n < 2 ^ 63) : (lN n).toInt = (n : Int) := pf_lI h
theorem lt_nI {b : Nat → Int32} {L k : Nat} (h : ltB b L k = true) : ∃ c, 97 ≤ c ∧ c ≤ 122 ∧ b k = nI c := by
  unfold ltB at h
  simp only [Bool.and_eq_true, decide_eq_true_eq] at h
  obtain ⟨c, hc, ec⟩ := nI_of (Int32.not_lt.mpr (Int32.le_trans (show (0 : Int32) ≤ 97 by decide) h.2.1))
  rw [ec] at h
  exact ⟨c, Nat.le_of_not_lt fun z => nI_ge (b := 97) z (by omega) h.2.1, Nat.le_of_not_lt fun z => nI_ge (a := 122) z (by omega) h.2.2, ec⟩
theorem wN_ok {b : Nat → Int32} {L s : Nat} : ∀ j, (∀ i, i < j → ltB b L (s + i) = true) → wNs b s j < 2 ^ 61 ∧ wvI b s j = lN (wNs b s j)
  | 0, _ => ⟨by show 0 < 2 ^ 61; decide, rfl⟩
  | j + 1, h => by
    obtain ⟨lt, e⟩ := wN_ok j (fun i hi => h i (by omega))
    obtain ⟨c, c1, c2, ec⟩ := lt_nI (h j (by omega))
    have le : (wvI b s j ≤ 36028797018963967) ↔ wNs b s j ≤ 36028797018963967 := by
      rw [e, fa_le64, lN_toInt' (by omega)]
      have : ((36028797018963967 : Int64)).toInt = 36028797018963967 := by decide
      rw [this]
      omega
    unfold wvI wNs
    by_cases z : wNs b s j ≤ 36028797018963967
    · rw [if_pos z, if_pos (le.mpr z), ec, nI_clamp (show c < 2 ^ 31 by omega)]
      refine ⟨by omega, ?_⟩
      have e1 : nI c - 96 = nI (c - 96) := nI_subN (b := 96) (by omega)
      rw [e1, nI_l (show c - 96 < 2 ^ 31 by omega), e]
      rw [fa_eq64]
      have t32 : (32 : Int64).toInt = 32 := by decide
      have m1 : (32 * lN (wNs b s j)).toInt = 32 * (wNs b s j : Int) := by
        rw [fb_mulL (by rw [t32, lN_toInt' (by omega)]; omega) (by rw [t32, lN_toInt' (by omega)]; omega), t32, lN_toInt' (by omega)]
      rw [fb_addL (by rw [m1, lN_toInt' (by omega)]; omega) (by rw [m1, lN_toInt' (by omega)]; omega), m1, lN_toInt' (by omega), lN_toInt' (by omega)]
      omega
    · rw [if_neg z, if_neg (fun y => z (le.mp y))]
      exact ⟨lt, e⟩
def enS (w : Nat) : Nat → Nat
  | 0 => 0
  | j + 1 => 32 * enS w j + ((sbN w j).toNatClampNeg - 96)
theorem en_lt : ∀ w, w < 14 → ∀ j, j ≤ slN w → enS w j < 36028797018963967 := by decide +kernel
theorem en_d : ∀ w, w < 14 → ∀ j, j < slN w → 97 ≤ (sbN w j).toNatClampNeg ∧ (sbN w j).toNatClampNeg ≤ 122 ∧ sbN w j = nI (sbN w j).toNatClampNeg := by decide +kernel
theorem wN_iff {b : Nat → Int32} {L s w : Nat} (hw : w < 14) : ∀ m j, (∀ i, i < m → ltB b L (s + i) = true) → j ≤ slN w → (wNs b s m = enS w j ↔ m = j ∧ ∀ i, i < j → b (s + i) = sbN w i)
  | 0, 0, _, _ => ⟨fun _ => ⟨rfl, fun i hi => by omega⟩, fun _ => rfl⟩
  | 0, j + 1, _, hj => by
    obtain ⟨d1, -, -⟩ := en_d w hw j (by omega)
    refine ⟨fun z => ?_, fun z => by omega⟩
    have z' : 0 = 32 * enS w j + ((sbN w j).toNatClampNeg - 96) := z
    omega
  | m + 1, j, h, hj => by
    obtain ⟨c, c1, c2, ec⟩ := lt_nI (h m (by omega))
    have cl : (b (s + m)).toNatClampNeg = c := by rw [ec, nI_clamp (show c < 2 ^ 31 by omega)]
    unfold wNs
    by_cases z : wNs b s m ≤ 36028797018963967
    · rw [if_pos z, cl]
      cases j with
      | zero =>
        refine ⟨fun y => ?_, fun y => by omega⟩
        have y' : 32 * wNs b s m + (c - 96) = 0 := y
        omega
      | succ j =>
        obtain ⟨d1, d2, d3⟩ := en_d w hw j (by omega)
        have ih := wN_iff (b := b) (L := L) (s := s) hw m j (fun i hi => h i (by omega)) (by omega)
        constructor
        · intro y
          have y' : 32 * wNs b s m + (c - 96) = 32 * enS w j + ((sbN w j).toNatClampNeg - 96) := y
          obtain ⟨i1, i2⟩ := ih.mp (by omega)
          refine ⟨by omega, fun i hi => ?_⟩
          by_cases e : i = j
          · subst e
            rw [d3, show i = m by omega, ec]
            congr 1
            have : m = i := i1
            subst this
            omega
          · exact i2 i (by omega)
        · intro ⟨y1, y2⟩
          have i1 := ih.mpr ⟨by omega, fun i hi => y2 i (by omega)⟩
          have y3 := y2 j (by omega)
          have e2 : m = j := by omega
          subst e2
          show 32 * wNs b s m + (c - 96) = 32 * enS w m + ((sbN w m).toNatClampNeg - 96)
          rw [i1, ← y3, cl]
    · rw [if_neg z]
      have lt := en_lt w hw j hj
      refine ⟨fun y => by omega, fun ⟨y1, y2⟩ => ?_⟩
      cases j with
      | zero => omega
      | succ j =>
        have i1 := (wN_iff (b := b) (L := L) (s := s) hw m j (fun i hi => h i (by omega)) (by omega)).mpr ⟨by omega, fun i hi => y2 i (by omega)⟩
        have lt2 := en_lt w hw j (by omega)
        omega
theorem waF_iff (b : Nat → Int32) (s w : Nat) : ∀ m i, waF b s w m i = true ↔ ∀ k, i ≤ k → k < i + m → b (s + k) = sbN w k
  | 0, i => ⟨fun _ k k1 k2 => by omega, fun _ => rfl⟩
  | m + 1, i => by
    unfold waF
    rw [Bool.and_eq_true, decide_eq_true_eq, waF_iff b s w m (i + 1)]
    constructor
    · intro ⟨h1, h2⟩ k k1 k2
      by_cases e : k = i
      · rw [e]; exact h1
      · exact h2 k (by omega) (by omega)
    · intro h
      exact ⟨h i (by omega) (by omega), fun k k1 k2 => h k (by omega) (by omega)⟩
def cwL (w : Nat) : Int64 := [3274253490, 253802969, 139505842, 3273709614, 2696325, 556045940, 52, 20186245, 3659954, 153195, 540276, 17376357, 113759379, 20142].getD w 0
theorem cw_en : ∀ w, w < 14 → cwL w = lN (enS w (slN w)) := by decide +kernel
theorem cwL_0 : ∀ w, w < 14 → ¬ cwL w = 0 := by decide +kernel
/-- the word that stands here is word w -/
theorem word_iff {b : Nat → Int32} {L w : Nat} {q : tQ} (hw : w < 14) (h : qT b L q) : (wdV b L q 0 = cwL w) ↔ wdB b q w = true := by
  obtain ⟨f1, f2, -⟩ := qT_facts h
  have ok := qT_ok h
  unfold wdV wdB
  by_cases z : ltB b L q.2.1 = true
  · have t1 := f1.mpr z
    rw [if_pos ⟨rfl, z⟩, decide_eq_true t1, Bool.true_and]
    have lets : ∀ i, i < q.2.2.1 - q.2.1 → ltB b L (q.2.1 + i) = true := fun i hi => f2 t1 _ (by omega) (by omega)
    obtain ⟨lt, e⟩ := wN_ok (q.2.2.1 - q.2.1) lets
    have lt2 := en_lt w hw (slN w) (Nat.le_refl _)
    rw [e, cw_en w hw, fb_lN_inj (by omega) (by omega), wN_iff hw (q.2.2.1 - q.2.1) (slN w) lets (Nat.le_refl _), Bool.and_eq_true, decide_eq_true_eq, waF_iff]
    constructor
    · intro ⟨a, c⟩
      exact ⟨a, fun k _ k2 => c k (by omega)⟩
    · intro ⟨a, c⟩
      exact ⟨a, fun k k2 => c k (by omega) (by omega)⟩
  · rw [if_neg (fun y => z y.2), decide_eq_false (fun y => z (f1.mp y)), Bool.false_and]
    refine ⟨fun y => absurd y.symm (cwL_0 w hw), fun y => by cases y⟩
theorem word_w {b : Nat → Int32} {L w : Nat} {q : tQ} (hw : w < 14) : ¬ wdV b L q 1 = cwL w := by
  unfold wdV
  rw [if_neg (fun y => absurd y.1 (by decide))]
  exact fun y => cwL_0 w hw y.symm
