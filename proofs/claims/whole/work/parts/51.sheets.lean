/-! SHEETS: gets and puts by a sheet's number; sheet, write, copy -/
theorem s4 {s : Nat} (h : s < 4) : s = 0 ∨ s = 1 ∨ s = 2 ∨ s = 3 := by omega
theorem GS_0 (S : hs_S) {s : Nat} (h : s < 4) : sx_gf (hp S) (53 + 2 * s) [8] 0 = some (.ref (54 + 2 * s)) := by
  rcases s4 h with rfl | rfl | rfl | rfl
  · exact GF_53_0 S
  · exact GF_55_0 S
  · exact GF_57_0 S
  · exact GF_59_0 S
theorem GS_1 (S : hs_S) {s : Nat} (h : s < 4) : sx_gf (hp S) (53 + 2 * s) [8] 1 = some (.int (S.1 (53 + 2 * s) 1)) := by
  rcases s4 h with rfl | rfl | rfl | rfl
  · exact GF_53_1 S
  · exact GF_55_1 S
  · exact GF_57_1 S
  · exact GF_59_1 S
theorem GS_2 (S : hs_S) {s : Nat} (h : s < 4) : sx_gf (hp S) (53 + 2 * s) [8] 2 = some (.int (S.1 (53 + 2 * s) 2)) := by
  rcases s4 h with rfl | rfl | rfl | rfl
  · exact GF_53_2 S
  · exact GF_55_2 S
  · exact GF_57_2 S
  · exact GF_59_2 S
theorem PS_1 (S : hs_S) {s : Nat} (h : s < 4) (v : Int32) : sx_pf (hp S) (53 + 2 * s) [8] 1 (.int v) = some (hp (uF S (53 + 2 * s) 1 v)) := by
  rcases s4 h with rfl | rfl | rfl | rfl
  · exact PF_53_1 S v
  · exact PF_55_1 S v
  · exact PF_57_1 S v
  · exact PF_59_1 S v
theorem PS_2 (S : hs_S) {s : Nat} (h : s < 4) (v : Int32) : sx_pf (hp S) (53 + 2 * s) [8] 2 (.int v) = some (hp (uF S (53 + 2 * s) 2 v)) := by
  rcases s4 h with rfl | rfl | rfl | rfl
  · exact PF_53_2 S v
  · exact PF_55_2 S v
  · exact PF_57_2 S v
  · exact PF_59_2 S v
theorem KL_s (S : hs_S) {s : Nat} (h : s < 4) : sx_kl (hp S) (53 + 2 * s) = some 8 := by
  rcases s4 h with rfl | rfl | rfl | rfl
  · exact KL_53 S
  · exact KL_55 S
  · exact KL_57 S
  · exact KL_59 S
theorem GJ_s (S : hs_S) {s : Nat} (h : s < 4) (i : Int32) : sx_gj (hp S) (54 + 2 * s) i = if sx_in i 40 = true then some (S.2.2.1 (54 + 2 * s) i.toNatClampNeg) else none := by
  rcases s4 h with rfl | rfl | rfl | rfl
  · exact GJ_54 S i
  · exact GJ_56 S i
  · exact GJ_58 S i
  · exact GJ_60 S i
theorem PJ_s (S : hs_S) {s : Nat} (h : s < 4) (i : Int32) (x : Int64) : sx_pj (hp S) (54 + 2 * s) i x = if sx_in i 40 = true then some (hp (uJ S (54 + 2 * s) (vp_updL (S.2.2.1 (54 + 2 * s)) i.toNatClampNeg x))) else none := by
  rcases s4 h with rfl | rfl | rfl | rfl
  · exact PJ_54 S i x
  · exact PJ_56 S i x
  · exact PJ_58 S i x
  · exact PJ_60 S i x
theorem AL_s (S : hs_S) {s : Nat} (h : s < 4) : sx_al (hp S) (54 + 2 * s) = some 40 := by
  rcases s4 h with rfl | rfl | rfl | rfl
  · exact AL_54 S
  · exact AL_56 S
  · exact AL_58 S
  · exact AL_60 S
theorem s4_of {x : Int32} (h : 0 ≤ x ∧ x < 4) : ∃ s, s < 4 ∧ x = nI s := by
  obtain ⟨m, hm, rfl⟩ := nI_of (Int32.not_lt.mpr h.1)
  exact ⟨m, Nat.lt_of_not_le fun z => Int32.not_le.mpr h.2 (nI_le (a := 4) z (by omega)), rfl⟩
theorem sh_sh {s : Nat} (h : s < 4) : hs_sh[53 + 2 * s]? = some (1, 40, []) := by
  rcases s4 h with rfl | rfl | rfl | rfl <;> rfl
theorem uJ_uJ (S : hs_S) (a : Nat) (f g : Nat → Int64) : uJ (uJ S a f) a g = uJ S a g := by
  unfold uJ
  refine Prod.ext rfl (Prod.ext rfl (Prod.ext ?_ rfl))
  funext b
  dsimp only
  by_cases h : b = a
  · rw [if_pos h, if_pos h]
  · rw [if_neg h, if_neg h, if_neg h]
theorem uJ_at (S : hs_S) (a : Nat) (f : Nat → Int64) : (uJ S a f).2.2.1 a = f := by rw [uJ_3, if_pos rfl]
theorem uJ_self (S : hs_S) (a : Nat) : uJ S a (S.2.2.1 a) = S := by
  unfold uJ
  refine Prod.ext rfl (Prod.ext rfl (Prod.ext ?_ rfl))
  funext b
  dsimp only
  by_cases h : b = a
  · rw [if_pos h, h]
  · rw [if_neg h]
theorem uI_self (S : hs_S) (a : Nat) : uI S a (S.2.1 a) = S := by
  unfold uI
  refine Prod.ext rfl (Prod.ext ?_ rfl)
  funext b
  dsimp only
  by_cases h : b = a
  · rw [if_pos h, h]
  · rw [if_neg h]
theorem fa_fill_succL (f g : Nat → Int64) (i : Nat) : vp_updL (fa_fill f g i) i (f i) = fa_fill f g (i + 1) := by
  funext k
  unfold vp_updL fa_fill
  by_cases h : k = i
  · rw [if_pos h, if_pos (by omega), h]
  · by_cases h2 : k < i
    · rw [if_neg h, if_pos h2, if_pos (by omega)]
    · rw [if_neg h, if_neg h2, if_neg (by omega)]
theorem fillJ_loop (d : Nat) (v : Int64) (S : hs_S) (s : Nat) (hs : s < 4) : ∀ m j, j + m = 40 → sx_run d 225 (6, [some (.ref (54 + 2 * s)), some (.long v), none, some (.int (nI j)), some (.int 40)], [], hp (uJ S (54 + 2 * s) (fa_fill (fun _ => v) (S.2.2.1 (54 + 2 * s)) j))) = some (none, hp (uJ S (54 + 2 * s) (fa_fill (fun _ => v) (S.2.2.1 (54 + 2 * s)) 40))) := by
  intro m
  induction m with
  | zero =>
    intro j hj
    have e : j = 40 := by omega
    subst e
    rw [ez225_6]
    simp only [ez225_7, ez225_9, ez225_12, ez225_13, ez225_14, ez225_15, ez225_16, ez225_19, ez225_22, if_pos (show (40 : Int32) ≤ nI 40 by decide)]
  | succ m ih =>
    intro j hj
    have g : ¬ (40 : Int32) ≤ nI j := nI_ge (b := 40) (show j < 40 by omega) (by omega)
    have e : ∀ f, vp_updL (fa_fill (fun _ => v) f j) j v = fa_fill (fun _ => v) f (j + 1) := fun f => fa_fill_succL (fun _ => v) f j
    rw [ez225_6]
    simp only [ez225_7, ez225_9, ez225_12, ez225_13, ez225_14, ez225_15, ez225_16, ez225_19, if_neg g, PJ_s _ hs, in_nI (show j < 40 by omega) (by omega), if_true, Option.bind_some, nI_clamp (show j < 2 ^ 31 by omega), uJ_at, uJ_uJ, e, nI_1]
    exact ih (j + 1) (by omega)
theorem sp_fillJ (d : Nat) (v : Int64) (S : hs_S) (s : Nat) (hs : s < 4) : sx_call (d + 1) 225 [.ref (54 + 2 * s), .long v] (hp S) = some (none, hp (uJ S (54 + 2 * s) (fa_fill (fun _ => v) (S.2.2.1 (54 + 2 * s)) 40))) := by
  rw [cz225]
  have l := fillJ_loop d v S s hs 40 0 (by omega)
  rw [fa_fill_0, uJ_self] at l
  simp only [ez225_0, ez225_1, ez225_2, ez225_3, ez225_4, AL_s _ hs, Option.bind_some]
  exact l
theorem sp_Sheet_isMissing (d : Nat) (S : hs_S) {s : Nat} (hs : s < 4) : sx_call (d + 1) 42 [.ref (53 + 2 * s)] (hp S) = some (some (.int (bI (S.1 (53 + 2 * s) 1 = 0))), hp S) := by
  rw [cz42]
  by_cases h : S.1 (53 + 2 * s) 1 = 0
  · simp only [ez42_0, ez42_1, ez42_4, ez42_7, ez42_8, ez42_11, ez42_12, GS_1 _ hs, Option.bind_some, h, not_true, if_false, nar_1, if_true, bI_t]
  · simp only [ez42_0, ez42_1, ez42_4, ez42_7, ez42_8, ez42_11, ez42_12, GS_1 _ hs, Option.bind_some, h, not_false_iff, if_true, nar_0, bI_f]
def loS (S : hs_S) (s : Nat) (b z : Int32) : hs_S := uJ (uF (uF S (53 + 2 * s) 1 b) (53 + 2 * s) 2 z) (54 + 2 * s) (fa_fill (fun _ => 0) (S.2.2.1 (54 + 2 * s)) 40)
theorem sp_Sheet_layOut (d : Nat) (S : hs_S) {s : Nat} (hs : s < 4) (b z : Int32) : sx_call (d + 2) 43 [.ref (53 + 2 * s), .int b, .int z] (hp S) = some (none, hp (loS S s b z)) := by
  rw [cz43]
  simp only [ez43_0, ez43_1, ez43_2, ez43_5, ez43_6, ez43_7, ez43_10, ez43_11, ez43_14, ez43_15, ez43_18, PS_1 _ hs, PS_2 _ hs, GS_0 _ hs, Option.bind_some, sp_fillJ d 0 _ s hs, tl_n]
  rfl
def lbF (b : Int32) (v : Int64) : Int64 := if b = 8 then v.toInt32.toInt8.toInt32.toInt64 else if b = 16 then v.toInt32.toInt16.toInt32.toInt64 else v
theorem sp_Sheet_lowestBits (d : Nat) (S : hs_S) {s : Nat} (hs : s < 4) (v : Int64) : sx_call (d + 1) 44 [.ref (53 + 2 * s), .long v] (hp S) = some (some (.long (lbF (S.1 (53 + 2 * s) 1) v)), hp S) := by
  rw [cz44]
  unfold lbF
  by_cases h : S.1 (53 + 2 * s) 1 = 8
  · rw [if_pos h]
    simp only [ez44_0, ez44_1, ez44_4, ez44_6, ez44_9, ez44_10, ez44_11, ez44_12, ez44_13, ez44_14, ez44_15, ez44_18, ez44_20, ez44_23, ez44_24, ez44_25, ez44_26, ez44_27, ez44_30, ez44_31, GS_1 _ hs, Option.bind_some, h, not_true, if_false]
  · rw [if_neg h]
    by_cases h2 : S.1 (53 + 2 * s) 1 = 16
    · rw [if_pos h2]
      have h3 : ¬ ((16 : Int32) = 8) := by decide
      simp only [ez44_0, ez44_1, ez44_4, ez44_6, ez44_9, ez44_10, ez44_11, ez44_12, ez44_13, ez44_14, ez44_15, ez44_18, ez44_20, ez44_23, ez44_24, ez44_25, ez44_26, ez44_27, ez44_30, ez44_31, GS_1 _ hs, Option.bind_some, h2, h3, not_false_iff, if_true, not_true, if_false]
    · rw [if_neg h2]
      simp only [ez44_0, ez44_1, ez44_4, ez44_6, ez44_9, ez44_10, ez44_11, ez44_12, ez44_13, ez44_14, ez44_15, ez44_18, ez44_20, ez44_23, ez44_24, ez44_25, ez44_26, ez44_27, ez44_30, ez44_31, GS_1 _ hs, Option.bind_some, h, h2, not_false_iff, if_true]
def hrP (z f n : Int32) : Prop := ¬ f < 0 ∧ ¬ n < 0 ∧ f.toInt + n.toInt ≤ z.toInt
theorem hr_sum (z f n : Int32) : (z.toInt64 < f.toInt64 + n.toInt64) ↔ z.toInt < f.toInt + n.toInt := by
  have h1 := fb_rng f
  have h2 := fb_rng n
  rw [fa_lt64, Int32.toInt_toInt64, fb_addL (by rw [Int32.toInt_toInt64, Int32.toInt_toInt64]; omega) (by rw [Int32.toInt_toInt64, Int32.toInt_toInt64]; omega), Int32.toInt_toInt64, Int32.toInt_toInt64]
theorem sp_Sheet_hasRun (d : Nat) (S : hs_S) {s : Nat} (hs : s < 4) (f n : Int32) (c : Bool) (hc : c = true ↔ hrP (S.1 (53 + 2 * s) 2) f n) : sx_call (d + 1) 45 [.ref (53 + 2 * s), .int f, .int n] (hp S) = some (some (.int (bI (c = true))), hp S) := by
  rw [cz45]
  unfold hrP at hc
  by_cases h1 : f < 0
  · have e : ¬ c = true := fun y => (hc.mp y).1 h1
    simp only [ez45_0, ez45_1, ez45_4, ez45_5, ez45_8, ez45_9, ez45_10, ez45_11, ez45_12, ez45_13, ez45_14, ez45_17, ez45_18, ez45_19, ez45_22, ez45_23, ez45_26, ez45_27, h1, if_true, nar_0, bI_f e]
  · by_cases h2 : n < 0
    · have e : ¬ c = true := fun y => (hc.mp y).2.1 h2
      simp only [ez45_0, ez45_1, ez45_4, ez45_5, ez45_8, ez45_9, ez45_10, ez45_11, ez45_12, ez45_13, ez45_14, ez45_17, ez45_18, ez45_19, ez45_22, ez45_23, ez45_26, ez45_27, h1, h2, if_true, if_false, nar_0, bI_f e]
    · by_cases h3 : (S.1 (53 + 2 * s) 2).toInt64 < f.toInt64 + n.toInt64
      · have e : ¬ c = true := fun y => Int.not_le.mpr ((hr_sum _ _ _).mp h3) (hc.mp y).2.2
        simp only [ez45_0, ez45_1, ez45_4, ez45_5, ez45_8, ez45_9, ez45_10, ez45_11, ez45_12, ez45_13, ez45_14, ez45_17, ez45_18, ez45_19, ez45_22, ez45_23, ez45_26, ez45_27, h1, h2, if_false, GS_2 _ hs, Option.bind_some, lg_cmp_gt, h3, if_true, nar_0, bI_f e]
      · have e : c = true := hc.mpr ⟨h1, h2, Int.not_lt.mp (fun y => h3 ((hr_sum _ _ _).mpr y))⟩
        simp only [ez45_0, ez45_1, ez45_4, ez45_5, ez45_8, ez45_9, ez45_10, ez45_11, ez45_12, ez45_13, ez45_14, ez45_17, ez45_18, ez45_19, ez45_22, ez45_23, ez45_26, ez45_27, h1, h2, if_false, GS_2 _ hs, Option.bind_some, lg_cmp_gt, h3, nar_1, if_true, bI_t e]
def cl_sheet (S : hs_S) (s b n : Int32) : Int32 × hs_S :=
  if (0 ≤ s ∧ s < 4) ∧ (b = 0 ∨ b = 8 ∨ b = 16 ∨ b = 64) then
    if 0 ≤ n then
      if n ≤ 40 then ((if b = 0 then 0 else n), loS S s.toNatClampNeg b (if b = 0 then 0 else n))
      else (-1000000001, fdS S 0)
    else (-1000000007, fdS S 6)
  else (-1000000001, fdS S 0)
theorem loS_2 (S : hs_S) (s : Nat) (b z : Int32) : (loS S s b z).1 (53 + 2 * s) 2 = z := uF_at _ _ _ _
theorem sp_SC_sheet (d : Nat) (S : hs_S) (s b n : Int32) : sx_call (d + 3) 94 [.ref 1, .int s, .int b, .int n] (hp S) = o1 (cl_sheet S s b n) := by
  rw [cz94]
  have f0 := sp_SC_finding (d + 1) S 0 (-1000000001) (by decide) (by decide)
  have f6 := sp_SC_finding (d + 1) S 6 (-1000000007) (by decide) (by decide)
  unfold cl_sheet o1
  by_cases h1 : 0 ≤ s ∧ s < 4
  · obtain ⟨q, hq, rfl⟩ := s4_of h1
    have lo := fun b z => sp_Sheet_layOut d S hq b z
    have key : ∀ w : Int32, (w = 0 ∨ w = 8 ∨ w = 16 ∨ w = 64) → sx_run (d + 2) 94 (36, [some (.ref 1), some (.int (nI q)), some (.int w), some (.int n)], [], hp S) = some (some (.int (if 0 ≤ n then (if n ≤ 40 then ((if w = 0 then 0 else n), loS S q w (if w = 0 then 0 else n)) else (-1000000001, fdS S 0)) else (-1000000007, fdS S 6)).1), hp (if 0 ≤ n then (if n ≤ 40 then ((if w = 0 then 0 else n), loS S q w (if w = 0 then 0 else n)) else (-1000000001, fdS S 0)) else (-1000000007, fdS S 6)).2) := by
      intro w hw
      by_cases h3 : 0 ≤ n
      · by_cases h4 : n ≤ 40
        · by_cases h5 : w = 0
          · subst h5
            simp [ez94_36, ez94_37, ez94_40, ez94_41, ez94_44, ez94_47, ez94_48, ez94_49, ez94_51, ez94_54, ez94_55, ez94_57, ez94_60, ez94_61, ez94_62, ez94_65, ez94_66, ez94_67, ez94_68, ez94_69, ez94_72, ez94_73, ez94_76, ez94_77, ez94_80, ez94_81, ez94_84, ez94_85, ez94_86, ez94_89, h3, h4, GF_1_8, GQ_3 _ q hq, KL_s _ hq, lo, tl_n, GS_2 _ hq, loS_2]
          · simp [ez94_36, ez94_37, ez94_40, ez94_41, ez94_44, ez94_47, ez94_48, ez94_49, ez94_51, ez94_54, ez94_55, ez94_57, ez94_60, ez94_61, ez94_62, ez94_65, ez94_66, ez94_67, ez94_68, ez94_69, ez94_72, ez94_73, ez94_76, ez94_77, ez94_80, ez94_81, ez94_84, ez94_85, ez94_86, ez94_89, h3, h4, h5, GF_1_8, GQ_3 _ q hq, KL_s _ hq, lo, tl_n, GS_2 _ hq, loS_2]
        · simp [ez94_36, ez94_37, ez94_40, ez94_41, ez94_44, ez94_47, ez94_48, ez94_49, ez94_51, ez94_54, ez94_55, ez94_57, ez94_60, h3, h4, KL_1, f0, tl_s]
      · simp [ez94_36, ez94_37, ez94_40, ez94_41, ez94_44, ez94_47, h3, KL_1, f6, tl_s]
    by_cases h2 : b = 0 ∨ b = 8 ∨ b = 16 ∨ b = 64
    · rw [if_pos ⟨h1, h2⟩, nI_clamp (show q < 2 ^ 31 by omega), ← key b h2]
      rcases h2 with rfl | rfl | rfl | rfl
      · simp [ez94_0, ez94_1, ez94_4, ez94_7, ez94_8, ez94_11, ez94_12, ez94_14, ez94_17, ez94_18, ez94_20, ez94_23, ez94_24, ez94_26, sp_SC_isSheet, tl_s, bI_eq0, h1]
      · simp [ez94_0, ez94_1, ez94_4, ez94_7, ez94_8, ez94_11, ez94_12, ez94_14, ez94_17, ez94_18, ez94_20, ez94_23, ez94_24, ez94_26, sp_SC_isSheet, tl_s, bI_eq0, h1]
      · simp [ez94_0, ez94_1, ez94_4, ez94_7, ez94_8, ez94_11, ez94_12, ez94_14, ez94_17, ez94_18, ez94_20, ez94_23, ez94_24, ez94_26, sp_SC_isSheet, tl_s, bI_eq0, h1]
      · simp [ez94_0, ez94_1, ez94_4, ez94_7, ez94_8, ez94_11, ez94_12, ez94_14, ez94_17, ez94_18, ez94_20, ez94_23, ez94_24, ez94_26, sp_SC_isSheet, tl_s, bI_eq0, h1]
    · rw [if_neg (fun z => h2 z.2)]
      have n0 : ¬ b = 0 := fun z => h2 (Or.inl z)
      have n8 : ¬ b = 8 := fun z => h2 (Or.inr (Or.inl z))
      have n16 : ¬ b = 16 := fun z => h2 (Or.inr (Or.inr (Or.inl z)))
      have n64 : ¬ b = 64 := fun z => h2 (Or.inr (Or.inr (Or.inr z)))
      simp [ez94_0, ez94_1, ez94_4, ez94_7, ez94_8, ez94_11, ez94_12, ez94_14, ez94_17, ez94_18, ez94_20, ez94_23, ez94_24, ez94_26, ez94_29, ez94_30, ez94_32, ez94_35, sp_SC_isSheet, tl_s, bI_eq0, h1, n0, n8, n16, n64, KL_1, f0]
  · rw [if_neg (fun z => h1 z.1)]
    simp [ez94_0, ez94_1, ez94_4, ez94_7, ez94_8, ez94_11, ez94_12, ez94_14, ez94_17, ez94_18, ez94_20, ez94_23, ez94_24, ez94_26, ez94_29, ez94_30, ez94_32, ez94_35, sp_SC_isSheet, tl_s, bI_eq0, h1, KL_1, f0]
def oJ (r : Int64 × hs_S) : Option sx_R := some (some (.long r.1), hp r.2)
def cl_write (S : hs_S) (s i : Int32) (v : Int64) : Int64 × hs_S :=
  if 0 ≤ s ∧ s < 4 then
    if S.1 (53 + 2 * s.toNatClampNeg) 1 = 0 then ((-1000000006 : Int32).toInt64, fdS S 5)
    else if 0 ≤ i ∧ i < S.1 (53 + 2 * s.toNatClampNeg) 2 then (S.2.2.1 (54 + 2 * s.toNatClampNeg) i.toNatClampNeg, uJ S (54 + 2 * s.toNatClampNeg) (vp_updL (S.2.2.1 (54 + 2 * s.toNatClampNeg)) i.toNatClampNeg (lbF (S.1 (53 + 2 * s.toNatClampNeg) 1) v)))
    else ((-1000000001 : Int32).toInt64, fdS S 0)
  else ((-1000000001 : Int32).toInt64, fdS S 0)
/-- the sheets have at most 40 numbers -/
def shO (S : hs_S) : Prop := ∀ s, s < 4 → ∃ z, z ≤ 40 ∧ S.1 (53 + 2 * s) 2 = nI z
theorem sp_SC_write (d : Nat) (S : hs_S) (s i : Int32) (v : Int64) (ok : shO S) : sx_call (d + 2) 95 [.ref 1, .int s, .int i, .long v] (hp S) = oJ (cl_write S s i v) := by
  rw [cz95]
  have f0 := sp_SC_finding d S 0 (-1000000001) (by decide) (by decide)
  have f5 := sp_SC_finding d S 5 (-1000000006) (by decide) (by decide)
  unfold cl_write
  by_cases h1 : 0 ≤ s ∧ s < 4
  · obtain ⟨q, hq, rfl⟩ := s4_of h1
    rw [if_pos h1, nI_clamp (show q < 2 ^ 31 by omega)]
    obtain ⟨z, hz, ez⟩ := ok q hq
    by_cases h2 : S.1 (53 + 2 * q) 1 = 0
    · rw [if_pos h2]
      simp only [ez95_0, ez95_1, ez95_4, ez95_7, ez95_8, ez95_10, ez95_13, ez95_14, ez95_15, ez95_16, ez95_19, ez95_20, ez95_21, ez95_23, ez95_25, ez95_28, ez95_31, ez95_32, ez95_35, ez95_38, ez95_39, sp_SC_isSheet, tl_s, bI_eq0, h1, and_self, not_true, not_false_iff, if_true, if_false, GF_1_8, Option.bind_some, GQ_3 _ q hq, KL_s _ hq, sp_Sheet_isMissing _ S hq, h2, KL_1, f5]
      rfl
    · rw [if_neg h2]
      by_cases h3 : 0 ≤ i ∧ i < S.1 (53 + 2 * q) 2
      · rw [if_pos h3]
        have hi : sx_in i 40 = true := by
          rw [ez] at h3
          obtain ⟨m, hm, rfl⟩ := nI_of (Int32.not_lt.mpr h3.1)
          have : m < z := Nat.lt_of_not_le fun y => Int32.not_le.mpr h3.2 (nI_le y (by omega))
          exact in_nI (by omega) (by omega)
        simp only [ez95_0, ez95_1, ez95_4, ez95_7, ez95_8, ez95_10, ez95_13, ez95_14, ez95_15, ez95_16, ez95_19, ez95_20, ez95_21, ez95_23, ez95_25, ez95_28, ez95_31, ez95_32, ez95_35, ez95_38, ez95_39, ez95_40, ez95_41, ez95_44, ez95_45, ez95_47, ez95_50, ez95_53, ez95_54, ez95_56, ez95_59, ez95_60, ez95_61, ez95_63, ez95_66, ez95_67, ez95_68, ez95_70, ez95_72, ez95_75, ez95_76, ez95_78, ez95_79, ez95_82, ez95_83, ez95_85, sp_SC_isSheet, tl_s, bI_eq0, h1, and_self, not_true, not_false_iff, if_true, if_false, GF_1_8, Option.bind_some, GQ_3 _ q hq, KL_s _ hq, sp_Sheet_isMissing _ S hq, h2, Int32.not_lt.mpr h3.1, GS_0 _ hq, GS_2 _ hq, h3.2, GJ_s _ hq, PJ_s _ hq, hi, sp_Sheet_lowestBits _ S hq]
        rfl
      · rw [if_neg h3]
        by_cases h4 : i < 0
        · simp only [ez95_0, ez95_1, ez95_4, ez95_7, ez95_8, ez95_10, ez95_13, ez95_14, ez95_15, ez95_16, ez95_19, ez95_20, ez95_21, ez95_23, ez95_25, ez95_28, ez95_31, ez95_32, ez95_35, ez95_38, ez95_39, ez95_40, ez95_41, ez95_44, ez95_45, ez95_47, ez95_50, ez95_53, ez95_54, ez95_56, ez95_59, ez95_60, sp_SC_isSheet, tl_s, bI_eq0, h1, and_self, not_true, not_false_iff, if_true, if_false, GF_1_8, Option.bind_some, GQ_3 _ q hq, KL_s _ hq, sp_Sheet_isMissing _ S hq, h2, h4, KL_1, f0]
          rfl
        · have h5 : ¬ i < S.1 (53 + 2 * q) 2 := fun y => h3 ⟨Int32.not_lt.mp h4, y⟩
          simp only [ez95_0, ez95_1, ez95_4, ez95_7, ez95_8, ez95_10, ez95_13, ez95_14, ez95_15, ez95_16, ez95_19, ez95_20, ez95_21, ez95_23, ez95_25, ez95_28, ez95_31, ez95_32, ez95_35, ez95_38, ez95_39, ez95_40, ez95_41, ez95_44, ez95_45, ez95_47, ez95_50, ez95_53, ez95_54, ez95_56, ez95_59, ez95_60, sp_SC_isSheet, tl_s, bI_eq0, h1, and_self, not_true, not_false_iff, if_true, if_false, GF_1_8, Option.bind_some, GQ_3 _ q hq, KL_s _ hq, sp_Sheet_isMissing _ S hq, h2, h4, GS_2 _ hq, h5, KL_1, f0]
          rfl
  · rw [if_neg h1]
    simp only [ez95_0, ez95_1, ez95_4, ez95_7, ez95_8, ez95_10, ez95_13, ez95_14, sp_SC_isSheet, tl_s, bI_eq0, h1, not_true, not_false_iff, if_true, if_false, KL_1, f0, Option.bind_some]
    rfl
theorem hp_acJ {S : hs_S} {a b n0 n1 : Nat} {l0 l1 : List Nat} (sp dp n : Int32) (ha : hs_sh[a]? = some (1, n0, l0)) (hb : hs_sh[b]? = some (1, n1, l1)) (h : (0 ≤ sp ∧ 0 ≤ dp ∧ 0 ≤ n) ∧ sp.toNatClampNeg + n.toNatClampNeg ≤ n0 ∧ dp.toNatClampNeg + n.toNatClampNeg ≤ n1) : sx_ac (hp S) (a + 1) sp (b + 1) dp n = some (hp (uJ S (b + 1) (va_cpy (S.2.2.1 (a + 1)) (S.2.2.1 (b + 1)) sp.toNatClampNeg dp.toNatClampNeg n.toNatClampNeg))) := by
  unfold sx_ac
  rw [hp_ld ha, hp_ld hb]
  show (if (0 ≤ sp ∧ 0 ≤ dp ∧ 0 ≤ n) ∧ sp.toNatClampNeg + n.toNatClampNeg ≤ n0 ∧ dp.toNatClampNeg + n.toNatClampNeg ≤ n1 then some (sx_se (hp S) (b + 1) (sx_cj n1 (va_cpy (S.2.2.1 (a + 1)) (S.2.2.1 (b + 1)) sp.toNatClampNeg dp.toNatClampNeg n.toNatClampNeg))) else none) = _
  rw [if_pos h]
  rw [hp_set (S := S) (S' := uJ S (b + 1) (va_cpy (S.2.2.1 (a + 1)) (S.2.2.1 (b + 1)) sp.toNatClampNeg dp.toNatClampNeg n.toNatClampNeg)) hb ?_ (fun c e' hc hne => hs_c_cong (fun _ => rfl) rfl rfl ?_)]
  · show sx_cj n1 _ = sx_cj n1 (if b + 1 = b + 1 then _ else _)
    rw [if_pos rfl]
  · show (if c + 1 = b + 1 then _ else _) = _
    rw [if_neg (fun z => hne (by omega))]
noncomputable def cl_copy (S : hs_S) (s f t o n : Int32) : Int32 × hs_S :=
  if (0 ≤ s ∧ s < 4) ∧ (0 ≤ t ∧ t < 4) then
    if S.1 (53 + 2 * s.toNatClampNeg) 1 = 0 ∨ S.1 (53 + 2 * t.toNatClampNeg) 1 = 0 then (-1000000006, fdS S 5)
    else if S.1 (53 + 2 * s.toNatClampNeg) 1 = S.1 (53 + 2 * t.toNatClampNeg) 1 then
      @ite _ (hrP (S.1 (53 + 2 * s.toNatClampNeg) 2) f n ∧ hrP (S.1 (53 + 2 * t.toNatClampNeg) 2) o n) (Classical.propDecidable _) (n, uJ S (54 + 2 * t.toNatClampNeg) (va_cpy (S.2.2.1 (54 + 2 * s.toNatClampNeg)) (S.2.2.1 (54 + 2 * t.toNatClampNeg)) f.toNatClampNeg o.toNatClampNeg n.toNatClampNeg)) (-1000000001, fdS S 0)
    else (-1000000003, fdS S 2)
  else (-1000000001, fdS S 0)
theorem hr_nat {z : Nat} {f n : Int32} (hz : z ≤ 40) (h : hrP (nI z) f n) : 0 ≤ f ∧ 0 ≤ n ∧ f.toNatClampNeg + n.toNatClampNeg ≤ z := by
  obtain ⟨a, b, c⟩ := h
  obtain ⟨i, hi, rfl⟩ := nI_of a
  obtain ⟨j, hj, rfl⟩ := nI_of b
  rw [nI_toInt hi, nI_toInt hj, nI_toInt (show z < 2 ^ 31 by omega)] at c
  exact ⟨nI_pos' hi, nI_pos' hj, by rw [nI_clamp hi, nI_clamp hj]; omega⟩
theorem sp_SC_copy (d : Nat) (S : hs_S) (s f t o n : Int32) (ok : shO S) : sx_call (d + 2) 96 [.ref 1, .int s, .int f, .int t, .int o, .int n] (hp S) = o1 (cl_copy S s f t o n) := by
  rw [cz96]
  have f0 := sp_SC_finding d S 0 (-1000000001) (by decide) (by decide)
  have f2 := sp_SC_finding d S 2 (-1000000003) (by decide) (by decide)
  have f5 := sp_SC_finding d S 5 (-1000000006) (by decide) (by decide)
  unfold cl_copy
  by_cases h1 : 0 ≤ s ∧ s < 4
  · obtain ⟨q, hq, rfl⟩ := s4_of h1
    by_cases h2 : 0 ≤ t ∧ t < 4
    · obtain ⟨r, hr, rfl⟩ := s4_of h2
      rw [if_pos ⟨h1, h2⟩, nI_clamp (show q < 2 ^ 31 by omega), nI_clamp (show r < 2 ^ 31 by omega)]
      by_cases h3 : S.1 (53 + 2 * q) 1 = 0
      · rw [if_pos (Or.inl h3)]
        simp only [ez96_0, ez96_1, ez96_4, ez96_7, ez96_8, ez96_11, ez96_14, ez96_15, ez96_17, ez96_20, ez96_21, ez96_22, ez96_25, ez96_26, ez96_27, ez96_29, ez96_30, ez96_33, ez96_34, ez96_35, ez96_37, ez96_39, ez96_42, ez96_45, ez96_47, ez96_50, ez96_53, ez96_54, ez96_57, ez96_60, sp_SC_isSheet, tl_s, bI_eq0, h1, h2, and_self, not_true, not_false_iff, if_true, if_false, GF_1_8, Option.bind_some, GQ_3 _ q hq, GQ_3 _ r hr, KL_s _ hq, sp_Sheet_isMissing _ S hq, h3, KL_1, f5]
        rfl
      · by_cases h4 : S.1 (53 + 2 * r) 1 = 0
        · rw [if_pos (Or.inr h4)]
          simp only [ez96_0, ez96_1, ez96_4, ez96_7, ez96_8, ez96_11, ez96_14, ez96_15, ez96_17, ez96_20, ez96_21, ez96_22, ez96_25, ez96_26, ez96_27, ez96_29, ez96_30, ez96_33, ez96_34, ez96_35, ez96_37, ez96_39, ez96_42, ez96_45, ez96_47, ez96_50, ez96_53, ez96_54, ez96_57, ez96_60, sp_SC_isSheet, tl_s, bI_eq0, h1, h2, and_self, not_true, not_false_iff, if_true, if_false, GF_1_8, Option.bind_some, GQ_3 _ q hq, GQ_3 _ r hr, KL_s _ hq, KL_s _ hr, sp_Sheet_isMissing _ S hq, sp_Sheet_isMissing _ S hr, h3, h4, KL_1, f5]
          rfl
        · rw [if_neg (fun z => z.elim h3 h4)]
          by_cases h5 : S.1 (53 + 2 * q) 1 = S.1 (53 + 2 * r) 1
          · rw [if_pos h5]
            have b1 := sp_Sheet_hasRun d S hq f n (@decide (hrP (S.1 (53 + 2 * q) 2) f n) (Classical.propDecidable _)) (by simp)
            have b2 := sp_Sheet_hasRun d S hr o n (@decide (hrP (S.1 (53 + 2 * r) 2) o n) (Classical.propDecidable _)) (by simp)
            by_cases h6 : hrP (S.1 (53 + 2 * q) 2) f n
            · by_cases h7 : hrP (S.1 (53 + 2 * r) 2) o n
              · rw [if_pos ⟨h6, h7⟩]
                obtain ⟨z, hz, ez⟩ := ok q hq
                obtain ⟨y, hy, ey⟩ := ok r hr
                have n1 := hr_nat hz (by rw [← ez]; exact h6)
                have n2 := hr_nat hy (by rw [← ey]; exact h7)
                have ac : sx_ac (hp S) (54 + 2 * q) f (54 + 2 * r) o n = some (hp (uJ S (54 + 2 * r) (va_cpy (S.2.2.1 (54 + 2 * q)) (S.2.2.1 (54 + 2 * r)) f.toNatClampNeg o.toNatClampNeg n.toNatClampNeg))) := by
                  have := hp_acJ (S := S) (a := 53 + 2 * q) (b := 53 + 2 * r) f o n (sh_sh hq) (sh_sh hr) ⟨⟨n1.1, n2.1, n1.2.1⟩, by omega, by omega⟩
                  rw [show 53 + 2 * q + 1 = 54 + 2 * q by omega, show 53 + 2 * r + 1 = 54 + 2 * r by omega] at this
                  exact this
                simp only [ez96_0, ez96_1, ez96_4, ez96_7, ez96_8, ez96_11, ez96_14, ez96_15, ez96_17, ez96_20, ez96_21, ez96_22, ez96_25, ez96_26, ez96_27, ez96_29, ez96_30, ez96_33, ez96_34, ez96_35, ez96_37, ez96_39, ez96_42, ez96_45, ez96_47, ez96_50, ez96_53, ez96_54, ez96_57, ez96_60, ez96_61, ez96_63, ez96_66, ez96_68, ez96_71, ez96_74, ez96_75, ez96_77, ez96_80, ez96_81, ez96_83, ez96_84, ez96_86, ez96_89, ez96_92, ez96_94, ez96_96, ez96_98, ez96_101, ez96_104, ez96_105, ez96_107, ez96_110, ez96_111, ez96_113, ez96_116, ez96_117, ez96_119, ez96_122, ez96_124, ez96_126, ez96_129, ez96_131, sp_SC_isSheet, tl_s, bI_eq0, h1, h2, and_self, not_true, not_false_iff, if_true, if_false, GF_1_8, Option.bind_some, GQ_3 _ q hq, GQ_3 _ r hr, KL_s _ hq, KL_s _ hr, sp_Sheet_isMissing _ S hq, sp_Sheet_isMissing _ S hr, h3, h4, GS_0 _ hq, GS_0 _ hr, GS_1 _ hq, GS_1 _ hr, h5, b1, b2, h6, h7, decide_true, ac]
                rfl
              · rw [if_neg (fun z => h7 z.2)]
                simp only [ez96_0, ez96_1, ez96_4, ez96_7, ez96_8, ez96_11, ez96_14, ez96_15, ez96_17, ez96_20, ez96_21, ez96_22, ez96_25, ez96_26, ez96_27, ez96_29, ez96_30, ez96_33, ez96_34, ez96_35, ez96_37, ez96_39, ez96_42, ez96_45, ez96_47, ez96_50, ez96_53, ez96_54, ez96_57, ez96_60, ez96_61, ez96_63, ez96_66, ez96_68, ez96_71, ez96_74, ez96_75, ez96_77, ez96_80, ez96_81, ez96_83, ez96_84, ez96_86, ez96_89, ez96_92, ez96_94, ez96_96, ez96_98, ez96_101, ez96_104, ez96_105, ez96_107, ez96_110, sp_SC_isSheet, tl_s, bI_eq0, h1, h2, and_self, not_true, not_false_iff, if_true, if_false, GF_1_8, Option.bind_some, GQ_3 _ q hq, GQ_3 _ r hr, KL_s _ hq, KL_s _ hr, sp_Sheet_isMissing _ S hq, sp_Sheet_isMissing _ S hr, h3, h4, GS_1 _ hq, GS_1 _ hr, h5, b1, b2, h6, h7, decide_true, decide_false, Bool.false_eq_true, KL_1, f0]
                rfl
            · rw [if_neg (fun z => h6 z.1)]
              simp only [ez96_0, ez96_1, ez96_4, ez96_7, ez96_8, ez96_11, ez96_14, ez96_15, ez96_17, ez96_20, ez96_21, ez96_22, ez96_25, ez96_26, ez96_27, ez96_29, ez96_30, ez96_33, ez96_34, ez96_35, ez96_37, ez96_39, ez96_42, ez96_45, ez96_47, ez96_50, ez96_53, ez96_54, ez96_57, ez96_60, ez96_61, ez96_63, ez96_66, ez96_68, ez96_71, ez96_74, ez96_75, ez96_77, ez96_80, ez96_81, ez96_83, ez96_84, ez96_86, ez96_89, ez96_92, ez96_94, ez96_96, ez96_98, ez96_101, ez96_104, ez96_105, ez96_107, ez96_110, sp_SC_isSheet, tl_s, bI_eq0, h1, h2, and_self, not_true, not_false_iff, if_true, if_false, GF_1_8, Option.bind_some, GQ_3 _ q hq, GQ_3 _ r hr, KL_s _ hq, KL_s _ hr, sp_Sheet_isMissing _ S hq, sp_Sheet_isMissing _ S hr, h3, h4, GS_1 _ hq, GS_1 _ hr, h5, b1, h6, decide_false, Bool.false_eq_true, KL_1, f0]
              rfl
          · rw [if_neg h5]
            simp only [ez96_0, ez96_1, ez96_4, ez96_7, ez96_8, ez96_11, ez96_14, ez96_15, ez96_17, ez96_20, ez96_21, ez96_22, ez96_25, ez96_26, ez96_27, ez96_29, ez96_30, ez96_33, ez96_34, ez96_35, ez96_37, ez96_39, ez96_42, ez96_45, ez96_47, ez96_50, ez96_53, ez96_54, ez96_57, ez96_60, ez96_61, ez96_63, ez96_66, ez96_68, ez96_71, ez96_74, ez96_75, ez96_77, ez96_80, sp_SC_isSheet, tl_s, bI_eq0, h1, h2, and_self, not_true, not_false_iff, if_true, if_false, GF_1_8, Option.bind_some, GQ_3 _ q hq, GQ_3 _ r hr, KL_s _ hq, KL_s _ hr, sp_Sheet_isMissing _ S hq, sp_Sheet_isMissing _ S hr, h3, h4, GS_1 _ hq, GS_1 _ hr, h5, KL_1, f2]
            rfl
    · rw [if_neg (fun z => h2 z.2)]
      simp only [ez96_0, ez96_1, ez96_4, ez96_7, ez96_8, ez96_11, ez96_14, ez96_15, ez96_17, ez96_20, sp_SC_isSheet, tl_s, bI_eq0, h1, h2, and_self, not_true, not_false_iff, if_true, if_false, KL_1, f0, Option.bind_some]
      rfl
  · rw [if_neg (fun z => h1 z.1)]
    simp only [ez96_0, ez96_1, ez96_4, ez96_7, ez96_8, ez96_11, ez96_14, ez96_15, ez96_17, ez96_20, sp_SC_isSheet, tl_s, bI_eq0, h1, not_true, not_false_iff, if_true, if_false, KL_1, f0, Option.bind_some]
    rfl
