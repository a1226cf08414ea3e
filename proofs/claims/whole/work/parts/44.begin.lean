/-! A WAY: begin -/
theorem fill48_loop (d : Nat) (v : Int32) (S : hs_S) : ∀ m j, j + m = 11 → sx_run d 226 (5, [some (.ref 48), some (.int v), some (.int (nI j)), some (.int 11)], [], hp (uI S 48 (fa_fill (fun _ => v) (S.2.1 48) j))) = some (none, hp (uI S 48 (fa_fill (fun _ => v) (S.2.1 48) 11))) := by
  intro m
  induction m with
  | zero =>
    intro j hj
    have e : j = 11 := by omega
    subst e
    rw [ez226_5]
    simp only [ez226_6, ez226_7, ez226_10, ez226_11, ez226_12, ez226_13, ez226_14, ez226_17, ez226_20, if_pos (show (11 : Int32) ≤ nI 11 by decide)]
  | succ m ih =>
    intro j hj
    have g : ¬ (11 : Int32) ≤ nI j := nI_ge (b := 11) (show j < 11 by omega) (by omega)
    have e : ∀ f, upd (fa_fill (fun _ => v) f j) j v = fa_fill (fun _ => v) f (j + 1) := fun f => fa_fill_succ (fun _ => v) f j
    rw [ez226_5]
    simp only [ez226_6, ez226_7, ez226_10, ez226_11, ez226_12, ez226_13, ez226_14, ez226_17, if_neg g, PI_48, in_nI (show j < 11 by omega) (by omega), if_true, Option.bind_some, nI_clamp (show j < 2 ^ 31 by omega), uI_at, uI_uI, e, nI_1]
    exact ih (j + 1) (by omega)
theorem sp_fill48 (d : Nat) (v : Int32) (S : hs_S) : sx_call (d + 1) 226 [.ref 48, .int v] (hp S) = some (none, hp (uI S 48 (fa_fill (fun _ => v) (S.2.1 48) 11))) := by
  rw [cz226]
  have l := fill48_loop d v S 11 0 (by omega)
  have e0 : uI S 48 (fa_fill (fun _ => v) (S.2.1 48) 0) = S := by
    rw [fa_fill_0]
    unfold uI
    refine Prod.ext rfl (Prod.ext ?_ rfl)
    funext b
    dsimp only
    by_cases h : b = 48
    · rw [if_pos h, h]
    · rw [if_neg h]
  rw [e0] at l
  simp only [ez226_0, ez226_1, ez226_2, ez226_3, ez226_4, AL_48, Option.bind_some]
  exact l
/-- the places by least post, the first P of them gone through, and those with a post below l of the next -/
def gdP (po old : Nat → Int32) (P l : Nat) : Nat → Int32 := fun j => if j < 11 then (if 1 ≤ j ∧ j ≤ 9 then orF (fun p => decide (nI j ≤ po p)) (if j < l then P + 1 else P) else 0) else old j
theorem gdP_0 (po old : Nat → Int32) : gdP po old 0 1 = fa_fill (fun _ => 0) old 11 := by
  funext j
  unfold gdP fa_fill
  by_cases h : j < 11
  · rw [if_pos h, if_pos h]
    by_cases h2 : 1 ≤ j ∧ j ≤ 9
    · rw [if_pos h2, if_neg (by omega)]
      rfl
    · rw [if_neg h2]
  · rw [if_neg h, if_neg h]
theorem gdP_in (po old : Nat → Int32) (P l : Nat) (hl : 1 ≤ l ∧ l ≤ 9) : gdP po old P l l = orF (fun p => decide (nI l ≤ po p)) P := by
  unfold gdP
  rw [if_pos (by omega), if_pos hl, if_neg (by omega)]
theorem gdP_s (po old : Nat → Int32) (P l : Nat) (hl : 1 ≤ l ∧ l ≤ 9) (h : nI l ≤ po P) : upd (gdP po old P l) l (orF (fun p => decide (nI l ≤ po p)) P ||| ((1 : Int32) <<< (nI P &&& 31))) = gdP po old P (l + 1) := by
  funext j
  unfold upd
  by_cases e : j = l
  · subst e
    rw [if_pos rfl, orF_t (p := fun p => decide (nI j ≤ po p)) (decide_eq_true h)]
    unfold gdP
    rw [if_pos (by omega), if_pos hl, if_pos (by omega)]
  · rw [if_neg e]
    unfold gdP
    by_cases h1 : j < l
    · rw [if_pos h1, if_pos (show j < l + 1 by omega)]
    · rw [if_neg h1, if_neg (show ¬ j < l + 1 by omega)]
theorem gdP_e (po old : Nat → Int32) (P l : Nat) (hl : 1 ≤ l) (h : l = 10 ∨ po P < nI l) : gdP po old P l = gdP po old (P + 1) 1 := by
  funext j
  unfold gdP
  by_cases h1 : j < 11
  · rw [if_pos h1, if_pos h1]
    by_cases h2 : 1 ≤ j ∧ j ≤ 9
    · rw [if_pos h2, if_pos h2, if_neg (show ¬ j < 1 by omega)]
      by_cases h3 : j < l
      · rw [if_pos h3]
      · rw [if_neg h3]
        refine orF_f (p := fun p => decide (nI j ≤ po p)) (fun z => ?_)
        have z2 : nI j ≤ po P := of_decide_eq_true z
        rcases h with h | h
        · omega
        · exact Int32.not_lt.mpr (Int32.le_trans (nI_le (show l ≤ j by omega) (by omega)) z2) h
    · rw [if_neg h2, if_neg h2]
  · rw [if_neg h1, if_neg h1]
theorem bg_inner (d : Nat) (T : hs_S) (old : Nat → Int32) (l2 l3 : Option Value) (P : Nat) (hP : P < 16) (R : Option sx_R) (hR : ∀ l5, sx_run d 60 (47, [some (.ref 47), some (.ref 11), l2, l3, some (.int (nI (P + 1))), l5], [], hp (uI T 48 (gdP (T.2.1 12) old (P + 1) 1))) = R) : ∀ m l, l + m = 10 → 1 ≤ l → sx_run d 60 (57, [some (.ref 47), some (.ref 11), l2, l3, some (.int (nI P)), some (.int (nI l))], [], hp (uI T 48 (gdP (T.2.1 12) old P l))) = R := by
  have i12 : ∀ f, (uI T 48 f).2.1 12 = T.2.1 12 := fun f => rfl
  intro m
  induction m with
  | zero =>
    intro l hl h1
    have e : l = 10 := by omega
    subst e
    have k := hR (some (.int (nI 10)))
    rw [← gdP_e _ _ _ 10 (by omega) (Or.inl rfl)] at k
    rw [ez60_57]
    simp only [ez60_59, ez60_60, ez60_63, ez60_65, GF_11_0, Option.bind_some, GI_12, in16 hP, if_true, i12, nI_clamp (show P < 2 ^ 31 by omega), ez60_66]
    by_cases g : T.2.1 12 P < nI 10
    · rw [if_pos g]
      simp only [ez60_96, ez60_99, nI_1]
      exact k
    · rw [if_neg g]
      simp only [ez60_69, ez60_71, ez60_73, if_pos (show (9 : Int32) < nI 10 by decide), ez60_96, ez60_99, nI_1]
      exact k
  | succ m ih =>
    intro l hl h1
    rw [ez60_57]
    simp only [ez60_59, ez60_60, ez60_63, ez60_65, GF_11_0, Option.bind_some, GI_12, in16 hP, if_true, i12, nI_clamp (show P < 2 ^ 31 by omega), ez60_66]
    by_cases g : T.2.1 12 P < nI l
    · have k := hR (some (.int (nI l)))
      rw [← gdP_e _ _ _ l (by omega) (Or.inr g)] at k
      rw [if_pos g]
      simp only [ez60_96, ez60_99, nI_1]
      exact k
    · have g9 : ¬ (9 : Int32) < nI l := nI_nlt (a := 9) (show l ≤ 9 by omega) (by omega)
      have i := ih (l + 1) (by omega) (by omega)
      rw [← gdP_s _ _ P l (by omega) (Int32.not_lt.mp g)] at i
      rw [if_neg g]
      simp only [ez60_69, ez60_71, ez60_73, ez60_76, ez60_77, ez60_80, ez60_82, ez60_83, ez60_84, ez60_85, ez60_87, ez60_88, ez60_89, ez60_90, ez60_93, if_neg g9, GF_47_1, Option.bind_some, GI_48, PI_48, in_nI (show l < 11 by omega) (by omega), if_true, nI_clamp (show l < 2 ^ 31 by omega), uI_at, uI_uI, gdP_in _ _ P l (show 1 ≤ l ∧ l ≤ 9 by omega), nI_1]
      exact i
theorem bg_outer (d : Nat) (T : hs_S) (old : Nat → Int32) (l2 l3 : Option Value) : ∀ m P l5, P + m = 16 → sx_run d 60 (47, [some (.ref 47), some (.ref 11), l2, l3, some (.int (nI P)), l5], [], hp (uI T 48 (gdP (T.2.1 12) old P 1))) = some (none, hp (uI T 48 (gdP (T.2.1 12) old 16 1))) := by
  intro m
  induction m with
  | zero =>
    intro P l5 hP
    have e : P = 16 := by omega
    subst e
    rw [ez60_47]
    simp only [ez60_49, ez60_51, if_pos (show (16 : Int32) ≤ nI 16 by decide), ez60_102]
  | succ m ih =>
    intro P l5 hP
    rw [ez60_47]
    simp only [ez60_49, ez60_51, ez60_54, ez60_55, if_neg (ge16 (n := 16) rfl (show P < 16 by omega))]
    exact bg_inner d T old l2 l3 P (by omega) _ (fun l => ih (P + 1) l (by omega)) 9 1 (by omega) (by omega)
def gdF (cl : Int32) (po old : Nat → Int32) : Nat → Int32 := if cl = 0 then gdP po old 16 1 else gdP po old 0 1
def bgS (S : hs_S) (a : Nat) (x : Int32) : hs_S := uI (uF (uF (uF (setC S 49 (S.2.2.2 a) (S.1 a 1) (S.1 a 2) (S.1 a 3) (S.1 a 4) (S.1 a 5)) 47 3 x) 47 4 ((1 : Int32) <<< (S.1 a 1 &&& 31))) 47 2 0) 48 (gdF (S.1 11 5) (S.2.1 12) (S.2.1 48))
theorem jk_bgS {S T : hs_S} (h : jk S T) (a : Nat) (x : Int32) : jk S (bgS T a x) := jk_uI (jk_uF (jk_uF (jk_uF (jk_setC h rfl (fun _ => rfl) rfl _ _ _ _ _ _) rfl _) rfl _) rfl _) rfl _
theorem sp_Way_begin (d : Nat) (S : hs_S) (a : Nat) (x : Int32) (ha : isCar a = true) (hn : a ≠ 49) : sx_call (d + 2) 60 [.ref 47, .ref 11, .ref a, .int x] (hp S) = some (none, hp (bgS S a x)) := by
  rw [cz60]
  have c49 : isCar 49 = true := rfl
  have ha47 : a ≠ 47 := fun z => by
    rw [z] at ha
    cases ha
  have b := sp_Carrier_become d S 49 a c49 ha hn
  have r1 : ∀ k pl sh co du ca, (setC S 49 k pl sh co du ca).1 a 1 = S.1 a 1 := fun k pl sh co du ca => setC_off S 49 k pl sh co du ca hn
  have r2 : ∀ k pl sh co du ca v, (uF (setC S 49 k pl sh co du ca) 47 3 v).1 a 1 = S.1 a 1 := fun k pl sh co du ca v => (uF_off _ 47 3 v (Or.inl ha47)).trans (setC_off S 49 k pl sh co du ca hn)
  unfold bgS
  generalize hT0 : setC S 49 (S.2.2.2 a) (S.1 a 1) (S.1 a 2) (S.1 a 3) (S.1 a 4) (S.1 a 5) = T0 at b
  have r2 : (uF T0 47 3 x).1 a 1 = S.1 a 1 := by
    rw [← hT0]
    exact r2 _ _ _ _ _ _ _
  have c5 : T0.1 11 5 = S.1 11 5 := by rw [← hT0]; rfl
  have c6 : T0.2.1 = S.2.1 := by rw [← hT0]; rfl
  simp only [ez60_0, ez60_1, ez60_4, ez60_5, ez60_8, ez60_9, ez60_10, ez60_13, ez60_14, ez60_15, ez60_16, ez60_19, ez60_20, ez60_23, ez60_24, ez60_25, ez60_28, ez60_29, ez60_32, ez60_33, ez60_36, ez60_37, GF_47_0, GF_47_1, PF_47_2, PF_47_3, PF_47_4, GF_11_5, Option.bind_some, KL_c _ c49, if_true, b, tl_n, GC_1 _ ha, r2, sp_fill48]
  have c7 : (uI (uF (uF (uF T0 47 3 x) 47 4 ((1 : Int32) <<< (S.1 a 1 &&& 31))) 47 2 0) 48 (fa_fill (fun _ => 0) ((uF (uF (uF T0 47 3 x) 47 4 ((1 : Int32) <<< (S.1 a 1 &&& 31))) 47 2 0).2.1 48) 11)).1 11 5 = S.1 11 5 := c5
  have c8 : (uF (uF (uF T0 47 3 x) 47 4 ((1 : Int32) <<< (S.1 a 1 &&& 31))) 47 2 0).2.1 = S.2.1 := c6
  have c9 : (uF (uF (uF T0 47 3 x) 47 4 ((1 : Int32) <<< (S.1 a 1 &&& 31))) 47 2 0).1 11 5 = S.1 11 5 := c5
  generalize uF (uF (uF T0 47 3 x) 47 4 ((1 : Int32) <<< (S.1 a 1 &&& 31))) 47 2 0 = T at c7 c8 c9 ⊢
  simp only [ez60_40, c7]
  unfold gdF
  rw [← c8, ← gdP_0 (T.2.1 12)]
  by_cases h : S.1 11 5 = 0
  · rw [if_pos h, if_pos h]
    simp only [ez60_44, ez60_45]
    exact bg_outer (d + 1) T (T.2.1 48) _ _ 16 0 none (by omega)
  · rw [if_neg h, if_neg h]
    simp only [ez60_43]
