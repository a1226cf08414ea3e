/-! THE TAPE: tokens -/
def ltB (b : Nat → Int32) (L k : Nat) : Bool := decide (k < L) && (decide (97 ≤ b k) && decide (b k ≤ 122))
def dgB (b : Nat → Int32) (L k : Nat) : Bool := decide (k < L) && (decide (48 ≤ b k) && decide (b k ≤ 57))
def blB (b : Nat → Int32) (L k : Nat) : Bool := decide (k < L) && decide (b k = 32)
def rnP (p : Nat → Bool) : Nat → Nat → Nat
  | 0, i => i
  | m + 1, i => if p i = true then rnP p m (i + 1) else i
abbrev tQ : Type := Int32 × Nat × Nat × Int32
def stT (S : hs_S) (q : tQ) : hs_S := uF (uF (uF (uF S 51 2 q.1) 51 3 (nI q.2.1)) 51 4 (nI q.2.2.1)) 51 5 q.2.2.2
theorem stT_1 (S : hs_S) (q : tQ) : (stT S q).1 51 1 = S.1 51 1 := rfl
theorem stT_t (S : hs_S) (q : tQ) : (stT S q).1 51 2 = q.1 := rfl
theorem stT_s (S : hs_S) (q : tQ) : (stT S q).1 51 3 = nI q.2.1 := rfl
theorem stT_e (S : hs_S) (q : tQ) : (stT S q).1 51 4 = nI q.2.2.1 := rfl
theorem stT_n (S : hs_S) (q : tQ) : (stT S q).1 51 5 = q.2.2.2 := rfl
theorem stT_2 (S : hs_S) (q : tQ) : (stT S q).2 = S.2 := rfl
theorem stT_pt (S : hs_S) (t : Int32) (s e : Nat) (n v : Int32) : uF (stT S (t, s, e, n)) 51 2 v = stT S (v, s, e, n) := by
  unfold stT
  rw [uF_comm _ 51 5 51 2 _ _ (by decide), uF_comm _ 51 4 51 2 _ _ (by decide), uF_comm _ 51 3 51 2 _ _ (by decide), uF_uF]
theorem stT_ps (S : hs_S) (t : Int32) (s e : Nat) (n : Int32) (v : Nat) : uF (stT S (t, s, e, n)) 51 3 (nI v) = stT S (t, v, e, n) := by
  unfold stT
  rw [uF_comm _ 51 5 51 3 _ _ (by decide), uF_comm _ 51 4 51 3 _ _ (by decide), uF_uF]
theorem stT_pe (S : hs_S) (t : Int32) (s e : Nat) (n : Int32) (v : Nat) : uF (stT S (t, s, e, n)) 51 4 (nI v) = stT S (t, s, v, n) := by
  unfold stT
  rw [uF_comm _ 51 5 51 4 _ _ (by decide), uF_uF]
theorem stT_pn (S : hs_S) (t : Int32) (s e : Nat) (n v : Int32) : uF (stT S (t, s, e, n)) 51 5 v = stT S (t, s, e, v) := by
  unfold stT
  rw [uF_uF]
theorem jk_stT {S T : hs_S} (h : jk S T) (q : tQ) : jk S (stT T q) := jk_uF (jk_uF (jk_uF (jk_uF h rfl _) rfl _) rfl _) rfl _
theorem sp_isLetter (d : Nat) (S : hs_S) (L k : Nat) (hl : S.1 51 1 = nI L) (hL : L ≤ 120) (hk : k ≤ 120) : sx_call (d + 1) 57 [.ref 51, .int (nI k)] (hp S) = some (some (.int (bI (ltB (S.2.1 52) L k = true))), hp S) := by
  rw [cz57]
  unfold ltB
  by_cases h1 : k < L
  · have i := in_nI (show k < 120 by omega) (show 120 < 2 ^ 31 by omega)
    by_cases h2 : 97 ≤ S.2.1 52 k
    · by_cases h3 : S.2.1 52 k ≤ 122
      · simp [ez57_0, ez57_1, ez57_4, ez57_5, ez57_6, ez57_9, ez57_12, ez57_13, ez57_16, ez57_17, ez57_18, ez57_20, ez57_23, ez57_24, ez57_27, ez57_28, ez57_29, ez57_31, ez57_34, ez57_35, ez57_38, ez57_39, GF_51_0, GF_51_1, hl, if_neg (nI_pos (show k < 2 ^ 31 by omega)), if_neg (nI_ge h1 (show L < 2 ^ 31 by omega)), GI_52, i, nI_clamp (show k < 2 ^ 31 by omega), if_neg (Int32.not_lt.mpr h2), if_neg (Int32.not_lt.mpr h3), h1, h2, h3, nar_1, bI]
      · simp [ez57_0, ez57_1, ez57_4, ez57_5, ez57_6, ez57_9, ez57_12, ez57_13, ez57_16, ez57_17, ez57_18, ez57_20, ez57_23, ez57_24, ez57_27, ez57_28, ez57_29, ez57_31, ez57_34, ez57_35, ez57_38, ez57_39, GF_51_0, GF_51_1, hl, if_neg (nI_pos (show k < 2 ^ 31 by omega)), if_neg (nI_ge h1 (show L < 2 ^ 31 by omega)), GI_52, i, nI_clamp (show k < 2 ^ 31 by omega), if_neg (Int32.not_lt.mpr h2), if_pos (Int32.not_le.mp h3), h1, h2, h3, nar_0, bI]
    · simp [ez57_0, ez57_1, ez57_4, ez57_5, ez57_6, ez57_9, ez57_12, ez57_13, ez57_16, ez57_17, ez57_18, ez57_20, ez57_23, ez57_24, ez57_27, ez57_28, ez57_29, ez57_31, ez57_34, ez57_35, ez57_38, ez57_39, GF_51_0, GF_51_1, hl, if_neg (nI_pos (show k < 2 ^ 31 by omega)), if_neg (nI_ge h1 (show L < 2 ^ 31 by omega)), GI_52, i, nI_clamp (show k < 2 ^ 31 by omega), if_pos (Int32.not_le.mp h2), h1, h2, nar_0, bI]
  · simp [ez57_0, ez57_1, ez57_4, ez57_5, ez57_6, ez57_9, ez57_12, ez57_13, ez57_16, ez57_17, ez57_18, ez57_20, ez57_23, ez57_24, ez57_27, ez57_28, ez57_29, ez57_31, ez57_34, ez57_35, ez57_38, ez57_39, GF_51_1, hl, if_neg (nI_pos (show k < 2 ^ 31 by omega)), if_pos (nI_le (show L ≤ k by omega) (show k < 2 ^ 31 by omega)), h1, nar_0, bI]
theorem sp_isDigit (d : Nat) (S : hs_S) (L k : Nat) (hl : S.1 51 1 = nI L) (hL : L ≤ 120) (hk : k ≤ 120) : sx_call (d + 1) 58 [.ref 51, .int (nI k)] (hp S) = some (some (.int (bI (dgB (S.2.1 52) L k = true))), hp S) := by
  rw [cz58]
  unfold dgB
  by_cases h1 : k < L
  · have i := in_nI (show k < 120 by omega) (show 120 < 2 ^ 31 by omega)
    by_cases h2 : 48 ≤ S.2.1 52 k
    · by_cases h3 : S.2.1 52 k ≤ 57
      · simp [ez58_0, ez58_1, ez58_4, ez58_5, ez58_6, ez58_9, ez58_12, ez58_13, ez58_16, ez58_17, ez58_18, ez58_20, ez58_23, ez58_24, ez58_27, ez58_28, ez58_29, ez58_31, ez58_34, ez58_35, ez58_38, ez58_39, GF_51_0, GF_51_1, hl, if_neg (nI_pos (show k < 2 ^ 31 by omega)), if_neg (nI_ge h1 (show L < 2 ^ 31 by omega)), GI_52, i, nI_clamp (show k < 2 ^ 31 by omega), if_neg (Int32.not_lt.mpr h2), if_neg (Int32.not_lt.mpr h3), h1, h2, h3, nar_1, bI]
      · simp [ez58_0, ez58_1, ez58_4, ez58_5, ez58_6, ez58_9, ez58_12, ez58_13, ez58_16, ez58_17, ez58_18, ez58_20, ez58_23, ez58_24, ez58_27, ez58_28, ez58_29, ez58_31, ez58_34, ez58_35, ez58_38, ez58_39, GF_51_0, GF_51_1, hl, if_neg (nI_pos (show k < 2 ^ 31 by omega)), if_neg (nI_ge h1 (show L < 2 ^ 31 by omega)), GI_52, i, nI_clamp (show k < 2 ^ 31 by omega), if_neg (Int32.not_lt.mpr h2), if_pos (Int32.not_le.mp h3), h1, h2, h3, nar_0, bI]
    · simp [ez58_0, ez58_1, ez58_4, ez58_5, ez58_6, ez58_9, ez58_12, ez58_13, ez58_16, ez58_17, ez58_18, ez58_20, ez58_23, ez58_24, ez58_27, ez58_28, ez58_29, ez58_31, ez58_34, ez58_35, ez58_38, ez58_39, GF_51_0, GF_51_1, hl, if_neg (nI_pos (show k < 2 ^ 31 by omega)), if_neg (nI_ge h1 (show L < 2 ^ 31 by omega)), GI_52, i, nI_clamp (show k < 2 ^ 31 by omega), if_pos (Int32.not_le.mp h2), h1, h2, nar_0, bI]
  · simp [ez58_0, ez58_1, ez58_4, ez58_5, ez58_6, ez58_9, ez58_12, ez58_13, ez58_16, ez58_17, ez58_18, ez58_20, ez58_23, ez58_24, ez58_27, ez58_28, ez58_29, ez58_31, ez58_34, ez58_35, ez58_38, ez58_39, GF_51_1, hl, if_neg (nI_pos (show k < 2 ^ 31 by omega)), if_pos (nI_le (show L ≤ k by omega) (show k < 2 ^ 31 by omega)), h1, nar_0, bI]
theorem rnP_ge (p : Nat → Bool) : ∀ m i, i ≤ rnP p m i
  | 0, i => Nat.le_refl i
  | m + 1, i => by
    unfold rnP
    by_cases h : p i = true
    · rw [if_pos h]
      have := rnP_ge p m (i + 1)
      omega
    · rw [if_neg h]
      exact Nat.le_refl i
theorem rnP_le {p : Nat → Bool} {L : Nat} (hp : ∀ k, p k = true → k < L) : ∀ m i, i ≤ L → rnP p m i ≤ L
  | 0, i, h => h
  | m + 1, i, h => by
    unfold rnP
    by_cases h2 : p i = true
    · rw [if_pos h2]
      exact rnP_le hp m (i + 1) (hp i h2)
    · rw [if_neg h2]
      exact h
theorem ltB_lt {b : Nat → Int32} {L k : Nat} (h : ltB b L k = true) : k < L := by
  unfold ltB at h
  simp only [Bool.and_eq_true, decide_eq_true_eq] at h
  exact h.1
theorem dgB_lt {b : Nat → Int32} {L k : Nat} (h : dgB b L k = true) : k < L := by
  unfold dgB at h
  simp only [Bool.and_eq_true, decide_eq_true_eq] at h
  exact h.1
theorem blB_lt {b : Nat → Int32} {L k : Nat} (h : blB b L k = true) : k < L := by
  unfold blB at h
  simp only [Bool.and_eq_true, decide_eq_true_eq] at h
  exact h.1
theorem rnP_stop {p : Nat → Bool} {L : Nat} (hp : ∀ k, p k = true → k < L) : ∀ m i, L < i + m → p (rnP p m i) = false
  | 0, i, h => ts_nt (fun z => by have := hp i z; omega)
  | m + 1, i, h => by
    unfold rnP
    by_cases h2 : p i = true
    · rw [if_pos h2]
      exact rnP_stop hp m (i + 1) (by omega)
    · rw [if_neg h2]
      exact ts_nt h2
def nmC (b : Nat → Int32) (L : Nat) : Nat → Nat → Int32 → Nat × Int32
  | 0, i, v => (i, v)
  | m + 1, i, v => if dgB b L i = true then nmC b L m (i + 1) (if v * 10 + b i - 48 < 1000 then v * 10 + b i - 48 else 1000) else (i, v)
theorem nmC_fst (b : Nat → Int32) (L : Nat) : ∀ m i v, (nmC b L m i v).1 = rnP (dgB b L) m i
  | 0, i, v => rfl
  | m + 1, i, v => by
    unfold nmC rnP
    by_cases h : dgB b L i = true
    · rw [if_pos h, if_pos h]
      exact nmC_fst b L m (i + 1) _
    · rw [if_neg h, if_neg h]
theorem digits_loop (d : Nat) (S : hs_S) (L : Nat) (hl : S.1 51 1 = nI L) (hL : L ≤ 120) (t : Int32) (s : Nat) : ∀ m i v, L < i + m → i ≤ L → sx_run (d + 1) 56 (5, [some (.ref 51)], [], hp (stT S (t, s, i, v))) = some (none, hp (stT S (t, s, (nmC (S.2.1 52) L m i v).1, (nmC (S.2.1 52) L m i v).2))) := by
  intro m
  induction m with
  | zero => intro i v h1 h2; omega
  | succ m ih =>
    intro i v h1 h2
    have dg : sx_call (d + 1) 58 [.ref 51, .int (nI i)] (hp (stT S (t, s, i, v))) = some (some (.int (bI (dgB (S.2.1 52) L i = true))), hp (stT S (t, s, i, v))) := sp_isDigit d (stT S (t, s, i, v)) L i hl hL (by omega)
    have e1 : (stT S (t, s, i, v)).1 51 1 = nI L := hl
    unfold nmC
    rw [ez56_5]
    by_cases h3 : i < L
    · simp only [ez56_6, ez56_9, ez56_10, ez56_13, ez56_16, ez56_17, ez56_18, ez56_21, GF_51_1, GF_51_4, e1, stT_e, stT_2, Option.bind_some, if_neg (nI_ge h3 (show L < 2 ^ 31 by omega)), KL_51, if_true, dg, tl_s, ez56_24, bI_eq0]
      by_cases h4 : dgB (S.2.1 52) L i = true
      · have k := ih (i + 1) (if v * 10 + S.2.1 52 i - 48 < 1000 then v * 10 + S.2.1 52 i - 48 else 1000) (by omega) (by omega)
        rw [if_pos h4, if_neg (fun y => y h4)]
        simp only [ez56_27, ez56_28, ez56_31, ez56_32, ez56_35, ez56_37, ez56_38, ez56_39, ez56_42, ez56_43, ez56_46, ez56_47, ez56_48, ez56_50, ez56_51, ez56_54, ez56_57, ez56_58, ez56_58i, ez56_59, ez56_62, ez56_63, ez56_64, ez56_67, GF_51_0, GF_51_4, GF_51_5, stT_e, stT_n, stT_2, Option.bind_some, GI_52, in_nI (show i < 120 by omega) (show 120 < 2 ^ 31 by omega), if_true, nI_clamp (show i < 2 ^ 31 by omega), sp_Math_min, tl_s, PF_51_4, PF_51_5, stT_pn, nI_1, stT_pe]
        exact k
      · rw [if_neg h4, if_pos h4]
        simp only [ez56_70]
    · have h4 : ¬ dgB (S.2.1 52) L i = true := fun y => h3 (dgB_lt y)
      rw [if_neg h4]
      simp only [ez56_6, ez56_9, ez56_10, ez56_13, GF_51_1, GF_51_4, e1, stT_e, Option.bind_some, if_pos (nI_le (show L ≤ i by omega) (show i < 2 ^ 31 by omega)), ez56_70]
theorem sp_takeDigits (d : Nat) (S : hs_S) (L : Nat) (hl : S.1 51 1 = nI L) (hL : L ≤ 120) (t : Int32) (s i : Nat) (v : Int32) (hi : i ≤ L) : sx_call (d + 2) 56 [.ref 51] (hp (stT S (t, s, i, v))) = some (none, hp (stT S (t, s, (nmC (S.2.1 52) L 121 i 0).1, (nmC (S.2.1 52) L 121 i 0).2))) := by
  rw [cz56]
  simp only [ez56_0, ez56_1, ez56_2, PF_51_5, Option.bind_some, stT_pn]
  exact digits_loop d S L hl hL t s 121 i 0 (by omega) hi
theorem letters_loop (d : Nat) (S : hs_S) (L : Nat) (hl : S.1 51 1 = nI L) (hL : L ≤ 120) (t : Int32) (s : Nat) (n : Int32) : ∀ m i, L < i + m → i ≤ L → sx_run (d + 1) 55 (89, [some (.ref 51)], [], hp (stT S (t, s, i, n))) = some (none, hp (stT S (t, s, rnP (ltB (S.2.1 52) L) m i, n))) := by
  intro m
  induction m with
  | zero => intro i h1 h2; omega
  | succ m ih =>
    intro i h1 h2
    have lt : sx_call (d + 1) 57 [.ref 51, .int (nI i)] (hp (stT S (t, s, i, n))) = some (some (.int (bI (ltB (S.2.1 52) L i = true))), hp (stT S (t, s, i, n))) := sp_isLetter d (stT S (t, s, i, n)) L i hl hL (by omega)
    have e1 : (stT S (t, s, i, n)).1 51 1 = nI L := hl
    unfold rnP
    rw [ez55_89]
    by_cases h3 : i < L
    · simp only [ez55_90, ez55_93, ez55_94, ez55_97, ez55_100, ez55_101, ez55_102, ez55_105, GF_51_1, GF_51_4, e1, stT_e, stT_2, Option.bind_some, if_neg (nI_ge h3 (show L < 2 ^ 31 by omega)), KL_51, if_true, lt, tl_s, ez55_108, bI_eq0]
      by_cases h4 : ltB (S.2.1 52) L i = true
      · rw [if_pos h4, if_neg (fun y => y h4)]
        simp only [ez55_111, ez55_112, ez55_112i, ez55_113, ez55_116, ez55_117, ez55_118, ez55_121, GF_51_4, stT_e, Option.bind_some, PF_51_4, nI_1, stT_pe]
        exact ih (i + 1) (by omega) (by omega)
      · rw [if_neg h4, if_pos h4]
        simp only [ez55_180]
    · have h4 : ¬ ltB (S.2.1 52) L i = true := fun y => h3 (ltB_lt y)
      rw [if_neg h4]
      simp only [ez55_90, ez55_93, ez55_94, ez55_97, GF_51_1, GF_51_4, e1, stT_e, Option.bind_some, if_pos (nI_le (show L ≤ i by omega) (show i < 2 ^ 31 by omega)), ez55_180]
/-- the token that comes next, from e on -/
def tkQ (b : Nat → Int32) (L e : Nat) (n : Int32) : tQ :=
  if L ≤ rnP (blB b L) 121 e then (0, rnP (blB b L) 121 e, rnP (blB b L) 121 e, n)
  else if ltB b L (rnP (blB b L) 121 e) = true then (1, rnP (blB b L) 121 e, rnP (ltB b L) 121 (rnP (blB b L) 121 e), n)
  else if dgB b L (rnP (blB b L) 121 e) = true then (2, rnP (blB b L) 121 e, (nmC b L 121 (rnP (blB b L) 121 e) 0).1, (nmC b L 121 (rnP (blB b L) 121 e) 0).2)
  else ((if b (rnP (blB b L) 121 e) = 59 then 3 else 4), rnP (blB b L) 121 e, rnP (blB b L) 121 e + 1, n)
theorem blanks_loop (d : Nat) (S : hs_S) (L : Nat) (hl : S.1 51 1 = nI L) (hL : L ≤ 120) (t : Int32) (e : Nat) (n : Int32) (R : Option sx_R) : ∀ m i, L < i + m → i ≤ L → sx_run d 55 (46, [some (.ref 51)], [], hp (stT S (t, rnP (blB (S.2.1 52) L) m i, e, n))) = R → sx_run d 55 (8, [some (.ref 51)], [], hp (stT S (t, i, e, n))) = R := by
  intro m
  induction m with
  | zero => intro i h1 h2; omega
  | succ m ih =>
    intro i h1 h2 hR
    have e1 : (stT S (t, i, e, n)).1 51 1 = nI L := hl
    unfold rnP at hR
    rw [ez55_8]
    by_cases h3 : i < L
    · simp only [ez55_9, ez55_12, ez55_13, ez55_16, ez55_19, ez55_20, ez55_23, ez55_24, ez55_27, ez55_28, GF_51_0, GF_51_1, GF_51_3, e1, stT_s, stT_2, Option.bind_some, if_neg (nI_ge h3 (show L < 2 ^ 31 by omega)), GI_52, in_nI (show i < 120 by omega) (show 120 < 2 ^ 31 by omega), if_true, nI_clamp (show i < 2 ^ 31 by omega), ez55_30]
      by_cases h4 : S.2.1 52 i = 32
      · have h5 : blB (S.2.1 52) L i = true := by
          unfold blB
          simp [h3, h4]
        rw [if_pos h5] at hR
        rw [if_neg (fun y => y h4)]
        simp only [ez55_33, ez55_34, ez55_34i, ez55_35, ez55_38, ez55_39, ez55_40, ez55_43, GF_51_3, stT_s, Option.bind_some, PF_51_3, nI_1, stT_ps]
        exact ih (i + 1) (by omega) (by omega) hR
      · have h5 : ¬ blB (S.2.1 52) L i = true := by
          unfold blB
          simp [h4]
        rw [if_neg h5] at hR
        rw [if_pos h4]
        exact hR
    · have h5 : ¬ blB (S.2.1 52) L i = true := fun y => h3 (blB_lt y)
      rw [if_neg h5] at hR
      simp only [ez55_9, ez55_12, ez55_13, ez55_16, GF_51_1, GF_51_3, e1, stT_s, Option.bind_some, if_pos (nI_le (show L ≤ i by omega) (show i < 2 ^ 31 by omega))]
      exact hR
theorem sp_advance (d : Nat) (S : hs_S) (L : Nat) (hl : S.1 51 1 = nI L) (hL : L ≤ 120) (q : tQ) (hq : q.2.2.1 ≤ L) : sx_call (d + 3) 55 [.ref 51] (hp (stT S q)) = some (none, hp (stT S (tkQ (S.2.1 52) L q.2.2.1 q.2.2.2))) := by
  obtain ⟨t, s, e, n⟩ := q
  dsimp only at hq ⊢
  rw [cz55]
  simp only [ez55_0, ez55_1, ez55_2, ez55_5, GF_51_4, stT_e, Option.bind_some, PF_51_3, stT_ps]
  refine blanks_loop (d + 2) S L hl hL t e n _ 121 e (by omega) hq ?_
  have sL := rnP_le (L := L) (fun k => blB_lt (b := S.2.1 52)) 121 e hq
  unfold tkQ
  generalize rnP (blB (S.2.1 52) L) 121 e = i at sL ⊢
  have e1 : ∀ q : tQ, (stT S q).1 51 1 = nI L := fun q => hl
  simp only [ez55_46, ez55_47, ez55_48, ez55_51, ez55_54, ez55_55, ez55_58, ez55_59, GF_51_1, GF_51_3, e1, stT_s, Option.bind_some, PF_51_4, stT_pe, ez55_62]
  by_cases h1 : L ≤ i
  · rw [if_pos h1, if_neg (nI_nlt h1 (by omega))]
    simp only [ez55_65, ez55_66, ez55_67, ez55_70, PF_51_2, Option.bind_some, stT_pt, ez55_180]
  · rw [if_neg h1, if_pos (nI_lt (show i < L by omega) (by omega))]
    have lt : sx_call (d + 2) 57 [.ref 51, .int (nI i)] (hp (stT S (t, i, i, n))) = some (some (.int (bI (ltB (S.2.1 52) L i = true))), hp (stT S (t, i, i, n))) := sp_isLetter (d + 1) (stT S (t, i, i, n)) L i hl hL (by omega)
    have dg : sx_call (d + 2) 58 [.ref 51, .int (nI i)] (hp (stT S (t, i, i, n))) = some (some (.int (bI (dgB (S.2.1 52) L i = true))), hp (stT S (t, i, i, n))) := sp_isDigit (d + 1) (stT S (t, i, i, n)) L i hl hL (by omega)
    simp only [ez55_73, ez55_74, ez55_75, ez55_78, GF_51_3, stT_s, stT_2, Option.bind_some, KL_51, if_true, lt, tl_s, ez55_81, bI_eq0]
    by_cases h2 : ltB (S.2.1 52) L i = true
    · rw [if_pos h2, if_neg (fun y => y h2)]
      simp only [ez55_84, ez55_85, ez55_86, PF_51_2, Option.bind_some, stT_pt]
      exact letters_loop (d + 1) S L hl hL 1 i n 121 i (by omega) sL
    · rw [if_neg h2, if_pos h2]
      simp only [ez55_124, ez55_125, ez55_126, ez55_129, GF_51_3, stT_s, stT_2, Option.bind_some, KL_51, if_true, dg, tl_s, ez55_132, bI_eq0]
      by_cases h3 : dgB (S.2.1 52) L i = true
      · rw [if_pos h3, if_neg (fun y => y h3)]
        have td := sp_takeDigits d S L hl hL 2 i i n sL
        simp only [ez55_135, ez55_136, ez55_137, ez55_140, ez55_141, ez55_144, PF_51_2, Option.bind_some, stT_pt, KL_51, if_true, td, tl_n, ez55_180]
      · rw [if_neg h3, if_pos h3]
        simp only [ez55_147, ez55_148, ez55_149, ez55_152, ez55_153, ez55_156, ez55_157, GF_51_0, GF_51_3, stT_s, stT_2, Option.bind_some, GI_52, in_nI (show i < 120 by omega) (show 120 < 2 ^ 31 by omega), if_true, nI_clamp (show i < 2 ^ 31 by omega), ez55_159]
        by_cases h4 : S.2.1 52 i = 59
        · rw [if_neg (fun y => y h4), if_pos h4]
          simp only [ez55_162, ez55_163, ez55_166, ez55_167, ez55_170, ez55_171, ez55_172, ez55_175, ez55_176, ez55_177, ez55_180, PF_51_2, PF_51_4, GF_51_3, stT_s, Option.bind_some, stT_pt, nI_1, stT_pe]
        · rw [if_pos h4, if_neg h4]
          simp only [ez55_166, ez55_167, ez55_170, ez55_171, ez55_172, ez55_175, ez55_176, ez55_177, ez55_180, PF_51_2, PF_51_4, GF_51_3, stT_s, Option.bind_some, stT_pt, nI_1, stT_pe]
theorem tkQ_ok (b : Nat → Int32) (L e : Nat) (n : Int32) (h : e ≤ L) : e ≤ (tkQ b L e n).2.1 ∧ (tkQ b L e n).2.1 ≤ (tkQ b L e n).2.2.1 ∧ (tkQ b L e n).2.2.1 ≤ L := by
  have g := rnP_ge (blB b L) 121 e
  have sL := rnP_le (L := L) (fun k => blB_lt (b := b)) 121 e h
  unfold tkQ
  generalize rnP (blB b L) 121 e = i at g sL ⊢
  by_cases h1 : L ≤ i
  · rw [if_pos h1]
    exact ⟨g, Nat.le_refl _, sL⟩
  · rw [if_neg h1]
    by_cases h2 : ltB b L i = true
    · rw [if_pos h2]
      exact ⟨g, rnP_ge _ _ _, rnP_le (fun k => ltB_lt (b := b)) 121 i sL⟩
    · rw [if_neg h2]
      by_cases h3 : dgB b L i = true
      · rw [if_pos h3]
        refine ⟨g, ?_, ?_⟩
        · show i ≤ (nmC b L 121 i 0).1
          rw [nmC_fst]
          exact rnP_ge _ _ _
        · show (nmC b L 121 i 0).1 ≤ L
          rw [nmC_fst]
          exact rnP_le (fun k => dgB_lt (b := b)) 121 i sL
      · rw [if_neg h3]
        exact ⟨g, Nat.le_succ i, by show i + 1 ≤ L; omega⟩
