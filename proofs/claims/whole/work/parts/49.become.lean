/-! A LAND BECOMES another one -/
theorem hp_ac {S : hs_S} {a b n0 n1 : Nat} {l0 l1 : List Nat} (sp dp n : Nat) (ha : hs_sh[a]? = some (0, n0, l0)) (hb : hs_sh[b]? = some (0, n1, l1)) (h : (sp + n ≤ n0 ∧ dp + n ≤ n1) ∧ n0 < 2 ^ 31 ∧ n1 < 2 ^ 31) : sx_ac (hp S) (a + 1) (nI sp) (b + 1) (nI dp) (nI n) = some (hp (uI S (b + 1) (va_cpy (S.2.1 (a + 1)) (S.2.1 (b + 1)) sp dp n))) := by
  unfold sx_ac
  rw [hp_ld ha, hp_ld hb]
  show (if (0 ≤ nI sp ∧ 0 ≤ nI dp ∧ 0 ≤ nI n) ∧ (nI sp).toNatClampNeg + (nI n).toNatClampNeg ≤ n0 ∧ (nI dp).toNatClampNeg + (nI n).toNatClampNeg ≤ n1 then some (sx_se (hp S) (b + 1) (sx_ci n1 (va_cpy (S.2.1 (a + 1)) (S.2.1 (b + 1)) (nI sp).toNatClampNeg (nI dp).toNatClampNeg (nI n).toNatClampNeg))) else none) = _
  rw [nI_clamp (show sp < 2 ^ 31 by omega), nI_clamp (show dp < 2 ^ 31 by omega), nI_clamp (show n < 2 ^ 31 by omega), if_pos ⟨⟨nI_pos' (by omega), nI_pos' (by omega), nI_pos' (by omega)⟩, h.1.1, h.1.2⟩]
  rw [hp_set (S := S) (S' := uI S (b + 1) (va_cpy (S.2.1 (a + 1)) (S.2.1 (b + 1)) sp dp n)) hb ?_ (fun c e' hc hne => hs_c_cong (fun _ => rfl) rfl ?_ rfl)]
  · show sx_ci n1 _ = sx_ci n1 (if b + 1 = b + 1 then _ else _)
    rw [if_pos rfl]
  · show (if c + 1 = b + 1 then _ else _) = _
    rw [if_neg (fun z => hne (by omega))]
theorem car27 {j : Nat} (h : j < 8) : isCar (27 + j) = true := by
  rcases (show j = 0 ∨ j = 1 ∨ j = 2 ∨ j = 3 ∨ j = 4 ∨ j = 5 ∨ j = 6 ∨ j = 7 by omega) with rfl | rfl | rfl | rfl | rfl | rfl | rfl | rfl <;> rfl
theorem car39 {j : Nat} (h : j < 8) : isCar (39 + j) = true := by
  rcases (show j = 0 ∨ j = 1 ∨ j = 2 ∨ j = 3 ∨ j = 4 ∨ j = 5 ∨ j = 6 ∨ j = 7 by omega) with rfl | rfl | rfl | rfl | rfl | rfl | rfl | rfl <;> rfl
/-- the first j carriers of the land at a are those of the land at b -/
def lpK (T : hs_S) (a b j : Nat) : hs_S := (fun x k => if (a + 4 ≤ x ∧ x < a + 4 + j) ∧ (1 ≤ k ∧ k ≤ 5) then T.1 (x - a + b) k else T.1 x k, T.2.1, T.2.2.1, fun x => if a + 4 ≤ x ∧ x < a + 4 + j then T.2.2.2 (x - a + b) else T.2.2.2 x)
theorem lpK_0 (T : hs_S) (a b : Nat) : lpK T a b 0 = T := by
  refine Prod.ext ?_ (Prod.ext rfl (Prod.ext rfl ?_))
  · funext x k
    exact if_neg (by omega)
  · funext x
    exact if_neg (by omega)
theorem lpK_off (T : hs_S) (a b j : Nat) {x k : Nat} (h : x < a + 4 ∨ a + 4 + j ≤ x ∨ k = 0 ∨ 5 < k) : (lpK T a b j).1 x k = T.1 x k := if_neg (by omega)
theorem lpK_koff (T : hs_S) (a b j : Nat) {x : Nat} (h : x < a + 4 ∨ a + 4 + j ≤ x) : (lpK T a b j).2.2.2 x = T.2.2.2 x := if_neg (by omega)
theorem lpK_s (T : hs_S) (a b j : Nat) : setC (lpK T a b j) (a + 4 + j) (T.2.2.2 (b + 4 + j)) (T.1 (b + 4 + j) 1) (T.1 (b + 4 + j) 2) (T.1 (b + 4 + j) 3) (T.1 (b + 4 + j) 4) (T.1 (b + 4 + j) 5) = lpK T a b (j + 1) := by
  refine Prod.ext ?_ (Prod.ext rfl (Prod.ext rfl ?_))
  · funext x k
    show (if x = a + 4 + j then _ else _) = (if (a + 4 ≤ x ∧ x < a + 4 + (j + 1)) ∧ (1 ≤ k ∧ k ≤ 5) then T.1 (x - a + b) k else T.1 x k)
    by_cases hx : x = a + 4 + j
    · subst hx
      rw [if_pos rfl, show a + 4 + j - a + b = b + 4 + j by omega]
      by_cases h1 : k = 1
      · subst h1; rw [if_pos rfl, if_pos (by omega)]
      · by_cases h2 : k = 2
        · subst h2; rw [if_neg h1, if_pos rfl, if_pos (by omega)]
        · by_cases h3 : k = 3
          · subst h3; rw [if_neg h1, if_neg h2, if_pos rfl, if_pos (by omega)]
          · by_cases h4 : k = 4
            · subst h4; rw [if_neg h1, if_neg h2, if_neg h3, if_pos rfl, if_pos (by omega)]
            · by_cases h5 : k = 5
              · subst h5; rw [if_neg h1, if_neg h2, if_neg h3, if_neg h4, if_pos rfl, if_pos (by omega)]
              · rw [if_neg h1, if_neg h2, if_neg h3, if_neg h4, if_neg h5, if_neg (by omega)]
                exact if_neg (by omega)
    · rw [if_neg hx]
      show (if (a + 4 ≤ x ∧ x < a + 4 + j) ∧ (1 ≤ k ∧ k ≤ 5) then T.1 (x - a + b) k else T.1 x k) = _
      by_cases h : (a + 4 ≤ x ∧ x < a + 4 + j) ∧ (1 ≤ k ∧ k ≤ 5)
      · rw [if_pos h, if_pos (by omega)]
      · rw [if_neg h, if_neg (by omega)]
  · funext x
    show (if x = a + 4 + j then _ else _) = (if a + 4 ≤ x ∧ x < a + 4 + (j + 1) then T.2.2.2 (x - a + b) else T.2.2.2 x)
    by_cases hx : x = a + 4 + j
    · subst hx
      rw [if_pos rfl, if_pos (by omega), show a + 4 + j - a + b = b + 4 + j by omega]
    · rw [if_neg hx]
      show (if a + 4 ≤ x ∧ x < a + 4 + j then T.2.2.2 (x - a + b) else T.2.2.2 x) = _
      by_cases h : a + 4 ≤ x ∧ x < a + 4 + j
      · rw [if_pos h, if_pos (by omega)]
      · rw [if_neg h, if_neg (by omega)]
/-- the land at a is what the land at b is (n carriers) -/
def cpL (S : hs_S) (a b n : Nat) : hs_S := uF (uF (lpK (uF (uI (uI S (a + 1) (va_cpy (S.2.1 (b + 1)) (S.2.1 (a + 1)) 0 0 16)) (a + 2) (va_cpy (S.2.1 (b + 2)) (S.2.1 (a + 2)) 0 0 16)) a 3 (S.1 b 3)) a b n) a 4 (S.1 b 4)) a 5 (S.1 b 5)
theorem bc_loop_11_23 (d : Nat) (T : hs_S) (n : Nat) (hn : n ≤ 8) (hc : T.1 11 3 = nI n) : ∀ m j, j + m = n → sx_run (d + 1) 25 (40, [some (.ref 11), some (.ref 23), some (.int (nI j))], [], hp (lpK T 11 23 j)) = some (none, hp (uF (uF (lpK T 11 23 n) 11 4 (T.1 23 4)) 11 5 (T.1 23 5))) := by
  intro m
  induction m with
  | zero =>
    intro j hj
    have e : j = n := by omega
    subst e
    have e3 : (lpK T 11 23 j).1 11 3 = nI j := (lpK_off T 11 23 j (Or.inl (by omega))).trans hc
    have e4 : (lpK T 11 23 j).1 23 4 = T.1 23 4 := lpK_off T 11 23 j (by omega)
    have e5 : ∀ v, (uF (lpK T 11 23 j) 11 4 v).1 23 5 = T.1 23 5 := fun v => (uF_off _ _ _ _ (by omega)).trans (lpK_off T 11 23 j (by omega))
    rw [ez25_40]
    simp only [ez25_41, ez25_42, ez25_45, GF_11_3, Option.bind_some, e3, if_pos (nI_le (Nat.le_refl j) (show j < 2 ^ 31 by omega)), ez25_69, ez25_70, ez25_71, ez25_74, ez25_77, ez25_78, ez25_79, ez25_82, ez25_85, GF_23_4, GF_23_5, PF_11_4, PF_11_5, e4, e5]
  | succ m ih =>
    intro j hj
    have e3 : (lpK T 11 23 j).1 11 3 = nI n := (lpK_off T 11 23 j (Or.inl (by omega))).trans hc
    have b := sp_Carrier_become d (lpK T 11 23 j) (15 + j) (27 + j) (car15 (by omega)) (car27 (by omega)) (by omega)
    rw [lpK_koff T 11 23 j (x := 27 + j) (by omega), lpK_off T 11 23 j (x := 27 + j) (k := 1) (by omega), lpK_off T 11 23 j (x := 27 + j) (k := 2) (by omega), lpK_off T 11 23 j (x := 27 + j) (k := 3) (by omega), lpK_off T 11 23 j (x := 27 + j) (k := 4) (by omega), lpK_off T 11 23 j (x := 27 + j) (k := 5) (by omega)] at b
    have s : setC (lpK T 11 23 j) (15 + j) (T.2.2.2 (27 + j)) (T.1 (27 + j) 1) (T.1 (27 + j) 2) (T.1 (27 + j) 3) (T.1 (27 + j) 4) (T.1 (27 + j) 5) = lpK T 11 23 (j + 1) := lpK_s T 11 23 j
    rw [s] at b
    rw [ez25_40]
    simp only [ez25_41, ez25_42, ez25_45, ez25_48, ez25_49, ez25_52, ez25_53, ez25_54, ez25_55, ez25_58, ez25_59, ez25_60, ez25_63, ez25_66, GF_11_3, GF_11_2, GF_23_2, Option.bind_some, e3, if_neg (nI_ge (show j < n by omega) (by omega)), GQ_14 _ j (show j < 8 by omega), GQ_26 _ j (show j < 8 by omega), KL_c _ (car15 (show j < 8 by omega)), if_true, b, tl_n, nI_1]
    exact ih (j + 1) (by omega)
theorem sp_become_11_23 (d : Nat) (S : hs_S) (n : Nat) (hn : n ≤ 8) (hc : S.1 23 3 = nI n) : sx_call (d + 2) 25 [.ref 11, .ref 23] (hp S) = some (none, hp (cpL S 11 23 n)) := by
  rw [cz25]
  have c1 : ∀ T : hs_S, sx_ac (hp T) 24 0 12 0 16 = some (hp (uI T 12 (va_cpy (T.2.1 24) (T.2.1 12) 0 0 16))) := fun T => hp_ac (a := 23) (b := 11) 0 0 16 rfl rfl (by decide)
  have c2 : ∀ T : hs_S, sx_ac (hp T) 25 0 13 0 16 = some (hp (uI T 13 (va_cpy (T.2.1 25) (T.2.1 13) 0 0 16))) := fun T => hp_ac (a := 24) (b := 12) 0 0 16 rfl rfl (by decide)
  have e3 : ∀ f g, (uI (uI S 12 f) 13 g).1 23 3 = S.1 23 3 := fun f g => rfl
  have e4 : ∀ f, (uI S 12 f).2.1 25 = S.2.1 25 := fun f => rfl
  have e5 : ∀ f, (uI S 12 f).2.1 13 = S.2.1 13 := fun f => rfl
  simp only [ez25_0, ez25_1, ez25_4, ez25_5, ez25_6, ez25_9, ez25_10, ez25_12, ez25_15, ez25_16, ez25_19, ez25_20, ez25_21, ez25_24, ez25_25, ez25_27, ez25_30, ez25_31, ez25_32, ez25_35, ez25_38, ez25_39, GF_11_0, GF_11_1, GF_23_0, GF_23_1, GF_23_3, PF_11_3, Option.bind_some, c1, c2, e3, e4, e5]
  have l := bc_loop_11_23 d (uF (uI (uI S 12 (va_cpy (S.2.1 24) (S.2.1 12) 0 0 16)) 13 (va_cpy (S.2.1 25) (S.2.1 13) 0 0 16)) 11 3 (S.1 23 3)) n hn (by rw [uF_at]; exact hc) n 0 (by omega)
  rw [lpK_0] at l
  exact l
theorem bc_loop_23_11 (d : Nat) (T : hs_S) (n : Nat) (hn : n ≤ 8) (hc : T.1 23 3 = nI n) : ∀ m j, j + m = n → sx_run (d + 1) 25 (40, [some (.ref 23), some (.ref 11), some (.int (nI j))], [], hp (lpK T 23 11 j)) = some (none, hp (uF (uF (lpK T 23 11 n) 23 4 (T.1 11 4)) 23 5 (T.1 11 5))) := by
  intro m
  induction m with
  | zero =>
    intro j hj
    have e : j = n := by omega
    subst e
    have e3 : (lpK T 23 11 j).1 23 3 = nI j := (lpK_off T 23 11 j (Or.inl (by omega))).trans hc
    have e4 : (lpK T 23 11 j).1 11 4 = T.1 11 4 := lpK_off T 23 11 j (by omega)
    have e5 : ∀ v, (uF (lpK T 23 11 j) 23 4 v).1 11 5 = T.1 11 5 := fun v => (uF_off _ _ _ _ (by omega)).trans (lpK_off T 23 11 j (by omega))
    rw [ez25_40]
    simp only [ez25_41, ez25_42, ez25_45, GF_23_3, Option.bind_some, e3, if_pos (nI_le (Nat.le_refl j) (show j < 2 ^ 31 by omega)), ez25_69, ez25_70, ez25_71, ez25_74, ez25_77, ez25_78, ez25_79, ez25_82, ez25_85, GF_11_4, GF_11_5, PF_23_4, PF_23_5, e4, e5]
  | succ m ih =>
    intro j hj
    have e3 : (lpK T 23 11 j).1 23 3 = nI n := (lpK_off T 23 11 j (Or.inl (by omega))).trans hc
    have b := sp_Carrier_become d (lpK T 23 11 j) (27 + j) (15 + j) (car27 (by omega)) (car15 (by omega)) (by omega)
    rw [lpK_koff T 23 11 j (x := 15 + j) (by omega), lpK_off T 23 11 j (x := 15 + j) (k := 1) (by omega), lpK_off T 23 11 j (x := 15 + j) (k := 2) (by omega), lpK_off T 23 11 j (x := 15 + j) (k := 3) (by omega), lpK_off T 23 11 j (x := 15 + j) (k := 4) (by omega), lpK_off T 23 11 j (x := 15 + j) (k := 5) (by omega)] at b
    have s : setC (lpK T 23 11 j) (27 + j) (T.2.2.2 (15 + j)) (T.1 (15 + j) 1) (T.1 (15 + j) 2) (T.1 (15 + j) 3) (T.1 (15 + j) 4) (T.1 (15 + j) 5) = lpK T 23 11 (j + 1) := lpK_s T 23 11 j
    rw [s] at b
    rw [ez25_40]
    simp only [ez25_41, ez25_42, ez25_45, ez25_48, ez25_49, ez25_52, ez25_53, ez25_54, ez25_55, ez25_58, ez25_59, ez25_60, ez25_63, ez25_66, GF_23_3, GF_23_2, GF_11_2, Option.bind_some, e3, if_neg (nI_ge (show j < n by omega) (by omega)), GQ_26 _ j (show j < 8 by omega), GQ_14 _ j (show j < 8 by omega), KL_c _ (car27 (show j < 8 by omega)), if_true, b, tl_n, nI_1]
    exact ih (j + 1) (by omega)
theorem sp_become_23_11 (d : Nat) (S : hs_S) (n : Nat) (hn : n ≤ 8) (hc : S.1 11 3 = nI n) : sx_call (d + 2) 25 [.ref 23, .ref 11] (hp S) = some (none, hp (cpL S 23 11 n)) := by
  rw [cz25]
  have c1 : ∀ T : hs_S, sx_ac (hp T) 12 0 24 0 16 = some (hp (uI T 24 (va_cpy (T.2.1 12) (T.2.1 24) 0 0 16))) := fun T => hp_ac (a := 11) (b := 23) 0 0 16 rfl rfl (by decide)
  have c2 : ∀ T : hs_S, sx_ac (hp T) 13 0 25 0 16 = some (hp (uI T 25 (va_cpy (T.2.1 13) (T.2.1 25) 0 0 16))) := fun T => hp_ac (a := 12) (b := 24) 0 0 16 rfl rfl (by decide)
  have e3 : ∀ f g, (uI (uI S 24 f) 25 g).1 11 3 = S.1 11 3 := fun f g => rfl
  have e4 : ∀ f, (uI S 24 f).2.1 13 = S.2.1 13 := fun f => rfl
  have e5 : ∀ f, (uI S 24 f).2.1 25 = S.2.1 25 := fun f => rfl
  simp only [ez25_0, ez25_1, ez25_4, ez25_5, ez25_6, ez25_9, ez25_10, ez25_12, ez25_15, ez25_16, ez25_19, ez25_20, ez25_21, ez25_24, ez25_25, ez25_27, ez25_30, ez25_31, ez25_32, ez25_35, ez25_38, ez25_39, GF_23_0, GF_23_1, GF_11_0, GF_11_1, GF_11_3, PF_23_3, Option.bind_some, c1, c2, e3, e4, e5]
  have l := bc_loop_23_11 d (uF (uI (uI S 24 (va_cpy (S.2.1 12) (S.2.1 24) 0 0 16)) 25 (va_cpy (S.2.1 13) (S.2.1 25) 0 0 16)) 23 3 (S.1 11 3)) n hn (by rw [uF_at]; exact hc) n 0 (by omega)
  rw [lpK_0] at l
  exact l
theorem bc_loop_35_11 (d : Nat) (T : hs_S) (n : Nat) (hn : n ≤ 8) (hc : T.1 35 3 = nI n) : ∀ m j, j + m = n → sx_run (d + 1) 25 (40, [some (.ref 35), some (.ref 11), some (.int (nI j))], [], hp (lpK T 35 11 j)) = some (none, hp (uF (uF (lpK T 35 11 n) 35 4 (T.1 11 4)) 35 5 (T.1 11 5))) := by
  intro m
  induction m with
  | zero =>
    intro j hj
    have e : j = n := by omega
    subst e
    have e3 : (lpK T 35 11 j).1 35 3 = nI j := (lpK_off T 35 11 j (Or.inl (by omega))).trans hc
    have e4 : (lpK T 35 11 j).1 11 4 = T.1 11 4 := lpK_off T 35 11 j (by omega)
    have e5 : ∀ v, (uF (lpK T 35 11 j) 35 4 v).1 11 5 = T.1 11 5 := fun v => (uF_off _ _ _ _ (by omega)).trans (lpK_off T 35 11 j (by omega))
    rw [ez25_40]
    simp only [ez25_41, ez25_42, ez25_45, GF_35_3, Option.bind_some, e3, if_pos (nI_le (Nat.le_refl j) (show j < 2 ^ 31 by omega)), ez25_69, ez25_70, ez25_71, ez25_74, ez25_77, ez25_78, ez25_79, ez25_82, ez25_85, GF_11_4, GF_11_5, PF_35_4, PF_35_5, e4, e5]
  | succ m ih =>
    intro j hj
    have e3 : (lpK T 35 11 j).1 35 3 = nI n := (lpK_off T 35 11 j (Or.inl (by omega))).trans hc
    have b := sp_Carrier_become d (lpK T 35 11 j) (39 + j) (15 + j) (car39 (by omega)) (car15 (by omega)) (by omega)
    rw [lpK_koff T 35 11 j (x := 15 + j) (by omega), lpK_off T 35 11 j (x := 15 + j) (k := 1) (by omega), lpK_off T 35 11 j (x := 15 + j) (k := 2) (by omega), lpK_off T 35 11 j (x := 15 + j) (k := 3) (by omega), lpK_off T 35 11 j (x := 15 + j) (k := 4) (by omega), lpK_off T 35 11 j (x := 15 + j) (k := 5) (by omega)] at b
    have s : setC (lpK T 35 11 j) (39 + j) (T.2.2.2 (15 + j)) (T.1 (15 + j) 1) (T.1 (15 + j) 2) (T.1 (15 + j) 3) (T.1 (15 + j) 4) (T.1 (15 + j) 5) = lpK T 35 11 (j + 1) := lpK_s T 35 11 j
    rw [s] at b
    rw [ez25_40]
    simp only [ez25_41, ez25_42, ez25_45, ez25_48, ez25_49, ez25_52, ez25_53, ez25_54, ez25_55, ez25_58, ez25_59, ez25_60, ez25_63, ez25_66, GF_35_3, GF_35_2, GF_11_2, Option.bind_some, e3, if_neg (nI_ge (show j < n by omega) (by omega)), GQ_38 _ j (show j < 8 by omega), GQ_14 _ j (show j < 8 by omega), KL_c _ (car39 (show j < 8 by omega)), if_true, b, tl_n, nI_1]
    exact ih (j + 1) (by omega)
theorem sp_become_35_11 (d : Nat) (S : hs_S) (n : Nat) (hn : n ≤ 8) (hc : S.1 11 3 = nI n) : sx_call (d + 2) 25 [.ref 35, .ref 11] (hp S) = some (none, hp (cpL S 35 11 n)) := by
  rw [cz25]
  have c1 : ∀ T : hs_S, sx_ac (hp T) 12 0 36 0 16 = some (hp (uI T 36 (va_cpy (T.2.1 12) (T.2.1 36) 0 0 16))) := fun T => hp_ac (a := 11) (b := 35) 0 0 16 rfl rfl (by decide)
  have c2 : ∀ T : hs_S, sx_ac (hp T) 13 0 37 0 16 = some (hp (uI T 37 (va_cpy (T.2.1 13) (T.2.1 37) 0 0 16))) := fun T => hp_ac (a := 12) (b := 36) 0 0 16 rfl rfl (by decide)
  have e3 : ∀ f g, (uI (uI S 36 f) 37 g).1 11 3 = S.1 11 3 := fun f g => rfl
  have e4 : ∀ f, (uI S 36 f).2.1 13 = S.2.1 13 := fun f => rfl
  have e5 : ∀ f, (uI S 36 f).2.1 37 = S.2.1 37 := fun f => rfl
  simp only [ez25_0, ez25_1, ez25_4, ez25_5, ez25_6, ez25_9, ez25_10, ez25_12, ez25_15, ez25_16, ez25_19, ez25_20, ez25_21, ez25_24, ez25_25, ez25_27, ez25_30, ez25_31, ez25_32, ez25_35, ez25_38, ez25_39, GF_35_0, GF_35_1, GF_11_0, GF_11_1, GF_11_3, PF_35_3, Option.bind_some, c1, c2, e3, e4, e5]
  have l := bc_loop_35_11 d (uF (uI (uI S 36 (va_cpy (S.2.1 12) (S.2.1 36) 0 0 16)) 37 (va_cpy (S.2.1 13) (S.2.1 37) 0 0 16)) 35 3 (S.1 11 3)) n hn (by rw [uF_at]; exact hc) n 0 (by omega)
  rw [lpK_0] at l
  exact l
theorem bc_loop_11_35 (d : Nat) (T : hs_S) (n : Nat) (hn : n ≤ 8) (hc : T.1 11 3 = nI n) : ∀ m j, j + m = n → sx_run (d + 1) 25 (40, [some (.ref 11), some (.ref 35), some (.int (nI j))], [], hp (lpK T 11 35 j)) = some (none, hp (uF (uF (lpK T 11 35 n) 11 4 (T.1 35 4)) 11 5 (T.1 35 5))) := by
  intro m
  induction m with
  | zero =>
    intro j hj
    have e : j = n := by omega
    subst e
    have e3 : (lpK T 11 35 j).1 11 3 = nI j := (lpK_off T 11 35 j (Or.inl (by omega))).trans hc
    have e4 : (lpK T 11 35 j).1 35 4 = T.1 35 4 := lpK_off T 11 35 j (by omega)
    have e5 : ∀ v, (uF (lpK T 11 35 j) 11 4 v).1 35 5 = T.1 35 5 := fun v => (uF_off _ _ _ _ (by omega)).trans (lpK_off T 11 35 j (by omega))
    rw [ez25_40]
    simp only [ez25_41, ez25_42, ez25_45, GF_11_3, Option.bind_some, e3, if_pos (nI_le (Nat.le_refl j) (show j < 2 ^ 31 by omega)), ez25_69, ez25_70, ez25_71, ez25_74, ez25_77, ez25_78, ez25_79, ez25_82, ez25_85, GF_35_4, GF_35_5, PF_11_4, PF_11_5, e4, e5]
  | succ m ih =>
    intro j hj
    have e3 : (lpK T 11 35 j).1 11 3 = nI n := (lpK_off T 11 35 j (Or.inl (by omega))).trans hc
    have b := sp_Carrier_become d (lpK T 11 35 j) (15 + j) (39 + j) (car15 (by omega)) (car39 (by omega)) (by omega)
    rw [lpK_koff T 11 35 j (x := 39 + j) (by omega), lpK_off T 11 35 j (x := 39 + j) (k := 1) (by omega), lpK_off T 11 35 j (x := 39 + j) (k := 2) (by omega), lpK_off T 11 35 j (x := 39 + j) (k := 3) (by omega), lpK_off T 11 35 j (x := 39 + j) (k := 4) (by omega), lpK_off T 11 35 j (x := 39 + j) (k := 5) (by omega)] at b
    have s : setC (lpK T 11 35 j) (15 + j) (T.2.2.2 (39 + j)) (T.1 (39 + j) 1) (T.1 (39 + j) 2) (T.1 (39 + j) 3) (T.1 (39 + j) 4) (T.1 (39 + j) 5) = lpK T 11 35 (j + 1) := lpK_s T 11 35 j
    rw [s] at b
    rw [ez25_40]
    simp only [ez25_41, ez25_42, ez25_45, ez25_48, ez25_49, ez25_52, ez25_53, ez25_54, ez25_55, ez25_58, ez25_59, ez25_60, ez25_63, ez25_66, GF_11_3, GF_11_2, GF_35_2, Option.bind_some, e3, if_neg (nI_ge (show j < n by omega) (by omega)), GQ_14 _ j (show j < 8 by omega), GQ_38 _ j (show j < 8 by omega), KL_c _ (car15 (show j < 8 by omega)), if_true, b, tl_n, nI_1]
    exact ih (j + 1) (by omega)
theorem sp_become_11_35 (d : Nat) (S : hs_S) (n : Nat) (hn : n ≤ 8) (hc : S.1 35 3 = nI n) : sx_call (d + 2) 25 [.ref 11, .ref 35] (hp S) = some (none, hp (cpL S 11 35 n)) := by
  rw [cz25]
  have c1 : ∀ T : hs_S, sx_ac (hp T) 36 0 12 0 16 = some (hp (uI T 12 (va_cpy (T.2.1 36) (T.2.1 12) 0 0 16))) := fun T => hp_ac (a := 35) (b := 11) 0 0 16 rfl rfl (by decide)
  have c2 : ∀ T : hs_S, sx_ac (hp T) 37 0 13 0 16 = some (hp (uI T 13 (va_cpy (T.2.1 37) (T.2.1 13) 0 0 16))) := fun T => hp_ac (a := 36) (b := 12) 0 0 16 rfl rfl (by decide)
  have e3 : ∀ f g, (uI (uI S 12 f) 13 g).1 35 3 = S.1 35 3 := fun f g => rfl
  have e4 : ∀ f, (uI S 12 f).2.1 37 = S.2.1 37 := fun f => rfl
  have e5 : ∀ f, (uI S 12 f).2.1 13 = S.2.1 13 := fun f => rfl
  simp only [ez25_0, ez25_1, ez25_4, ez25_5, ez25_6, ez25_9, ez25_10, ez25_12, ez25_15, ez25_16, ez25_19, ez25_20, ez25_21, ez25_24, ez25_25, ez25_27, ez25_30, ez25_31, ez25_32, ez25_35, ez25_38, ez25_39, GF_11_0, GF_11_1, GF_35_0, GF_35_1, GF_35_3, PF_11_3, Option.bind_some, c1, c2, e3, e4, e5]
  have l := bc_loop_11_35 d (uF (uI (uI S 12 (va_cpy (S.2.1 36) (S.2.1 12) 0 0 16)) 13 (va_cpy (S.2.1 37) (S.2.1 13) 0 0 16)) 11 3 (S.1 35 3)) n hn (by rw [uF_at]; exact hc) n 0 (by omega)
  rw [lpK_0] at l
  exact l
