/-! A WAY: passHour, hoursTo, spare -/
abbrev wT : Type := Int32 × Int32 × Int32
def wyS (B : hs_S) (t : wT) : hs_S := uF (uF (uF B 49 2 t.1) 47 3 t.2.1) 47 4 t.2.2
def wst (k : Nat) (co du : Int32) (G : Nat → Int32) (sp : Int32) (t : wT) : wT :=
  (mx0 (t.1 - fadeF k du (hT t.2.1)), t.2.1 + 1, sprF t.2.2 &&& ((G (lpF k (mx0 (t.1 - fadeF k du (hT t.2.1))) co du (t.2.1 + 1)).toNatClampNeg &&& (sp ^^^ (-1))) ^^^ (-1)))
def wsB (B : hs_S) : wT → wT := wst (B.2.2.2 49) (B.1 49 3) (B.1 49 4) (B.2.1 48) (B.1 47 2)
theorem wyS_2 (B : hs_S) (t : wT) : (wyS B t).2 = B.2 := rfl
theorem wyS_sh (B : hs_S) (t : wT) : (wyS B t).1 49 2 = t.1 := rfl
theorem wyS_x (B : hs_S) (t : wT) : (wyS B t).1 47 3 = t.2.1 := rfl
theorem wyS_re (B : hs_S) (t : wT) : (wyS B t).1 47 4 = t.2.2 := rfl
theorem wyS_3 (B : hs_S) (t : wT) : (wyS B t).1 49 3 = B.1 49 3 := rfl
theorem wyS_4 (B : hs_S) (t : wT) : (wyS B t).1 49 4 = B.1 49 4 := rfl
theorem wyS_sp (B : hs_S) (t : wT) : (wyS B t).1 47 2 = B.1 47 2 := rfl
theorem wyS_put (B : hs_S) (t : wT) (a b c : Int32) : uF (uF (uF (wyS B t) 49 2 a) 47 3 b) 47 4 c = wyS B (a, b, c) := by
  unfold wyS
  rw [uF_comm _ 47 4 49 2 _ _ (by decide), uF_comm _ 47 3 49 2 _ _ (by decide), uF_uF, uF_comm _ 47 4 47 3 _ _ (by decide), uF_uF, uF_uF]
theorem jk_wyS {S B : hs_S} (h : jk S B) (t : wT) : jk S (wyS B t) := jk_uF (jk_uF (jk_uF h rfl _) rfl _) rfl _
theorem lpF_in (k : Nat) (sh co du x : Int32) : sx_in (lpF k sh co du x) 11 = true ∧ 1 ≤ lpF k sh co du x ∧ lpF k sh co du x ≤ 10 := by
  have key : ∀ v : Int32, 1 ≤ v → v ≤ 10 → sx_in v 11 = true ∧ 1 ≤ v ∧ v ≤ 10 := by
    intro v h1 h2
    exact ⟨in_of (n := 11) (y := 11) (by decide) (by decide) ⟨Int32.le_trans (by decide) h1, Int32.lt_of_le_of_lt h2 (by decide)⟩, h1, h2⟩
  unfold lpF
  by_cases h : sh = 0
  · rw [if_pos h]
    decide
  · rw [if_neg h]
    generalize 9 + co - coolF k sh du x - hT x / 3 + 1 = v
    by_cases h2 : v < 10
    · rw [if_pos h2]
      by_cases h3 : 1 < v
      · rw [if_pos h3]
        exact key v (Int32.le_of_lt h3) (Int32.le_of_lt h2)
      · rw [if_neg h3]
        decide
    · rw [if_neg h2]
      decide
theorem sp_Way_passHour (d : Nat) (B : hs_S) (t : wT) (hk : B.2.2.2 49 < 6) (hx : 0 ≤ t.2.1) (hx1 : 0 ≤ t.2.1 + 1) : sx_call (d + 5) 62 [.ref 47] (hp (wyS B t)) = some (none, hp (wyS B (wsB B t))) := by
  rw [cz62]
  have c49 : isCar 49 = true := rfl
  have f := sp_Carrier_fadeIn (d + 1) (wyS B t) 49 t.2.1 c49 hk hx
  have l := fun v => sp_Carrier_lp d (uF (uF (wyS B t) 49 2 v) 47 3 (t.2.1 + 1)) 49 (t.2.1 + 1) c49 hk hx1
  have r0 : ∀ v w, (uF (uF (wyS B t) 49 2 v) 47 3 w).1 49 2 = v := fun v w => rfl
  have r1 : ∀ v w, (uF (uF (wyS B t) 49 2 v) 47 3 w).1 49 3 = B.1 49 3 := fun v w => rfl
  have r2 : ∀ v w, (uF (uF (wyS B t) 49 2 v) 47 3 w).1 49 4 = B.1 49 4 := fun v w => rfl
  have r3 : ∀ v w, (uF (uF (wyS B t) 49 2 v) 47 3 w).1 47 4 = t.2.2 := fun v w => rfl
  have r4 : ∀ v w, (uF (uF (wyS B t) 49 2 v) 47 3 w).1 47 2 = B.1 47 2 := fun v w => rfl
  have r5 : ∀ v, (uF (wyS B t) 49 2 v).1 47 3 = t.2.1 := fun v => rfl
  have r6 : ∀ v w, (uF (uF (wyS B t) 49 2 v) 47 3 w).1 47 3 = w := fun v w => rfl
  have r7 : ∀ v w, (uF (uF (wyS B t) 49 2 v) 47 3 w).2 = B.2 := fun v w => rfl
  simp only [ez62_0, ez62_1, ez62_4, ez62_5, ez62_8, ez62_11, ez62_12, ez62_12i, ez62_13, ez62_16, ez62_17, ez62_18, ez62_21, ez62_22, ez62_25, ez62_26, ez62_29, ez62_30, ez62_33, ez62_36, ez62_37, ez62_38, ez62_41, ez62_42, ez62_43, ez62_44, ez62_45, ez62_46, ez62_47, ez62_50, ez62_53, ez62_54, ez62_55, ez62_56, ez62_57, ez62_60, GF_47_0, GF_47_1, GF_47_2, GF_47_3, GF_47_4, PF_47_3, PF_47_4, Option.bind_some, KL_c _ c49, if_true, wyS_x, f, tl_n, tl_s, r5, r6, l, r0, r1, r2, r3, r4, r7, GI_48, (lpF_in _ _ _ _ _).1, sp_SC_spread, wyS_put, wyS_sh, wyS_4, wyS_2]
  rfl
def htF (st : wT → wT) (p : Int32) : Nat → Nat → wT → Nat × wT
  | 0, j, t => (j, t)
  | m + 1, j, t => if t.2.2 &&& ((1 : Int32) <<< (p &&& 31)) = 0 then htF st p m (j + 1) (st t) else (j, t)
theorem hoursTo_loop (d : Nat) (B : hs_S) (p : Int32) (hk : B.2.2.2 49 < 6) : ∀ m j t X, j + m = 49 → t.2.1 = nI X → X + m ≤ 200000 → sx_run (d + 5) 63 (2, [some (.ref 47), some (.int p), some (.int (nI j))], [], hp (wyS B t)) = some (some (.int (nI (htF (wsB B) p m j t).1)), hp (wyS B (htF (wsB B) p m j t).2)) := by
  intro m
  induction m with
  | zero =>
    intro j t X hj hx hX
    have e : j = 49 := by omega
    subst e
    rw [ez63_2]
    simp only [ez63_3, ez63_5, if_pos (show (48 : Int32) < nI 49 by decide), ez63_31, ez63_33]
    rfl
  | succ m ih =>
    intro j t X hj hx hX
    have g : ¬ (48 : Int32) < nI j := nI_nlt (a := 48) (show j ≤ 48 by omega) (by omega)
    have ps := sp_Way_passHour d B t hk (by rw [hx]; exact nI_pos' (by omega)) (by rw [hx, nI_1]; exact nI_pos' (by omega))
    rw [ez63_2]
    simp only [ez63_3, ez63_5, ez63_8, ez63_9, ez63_12, ez63_13, ez63_14, ez63_15, ez63_16, ez63_19, ez63_20, ez63_21, ez63_22, ez63_25, ez63_28, if_neg g, GF_47_4, wyS_re, Option.bind_some, KL_47, if_true, ps, tl_n, nI_1]
    unfold htF
    by_cases h : t.2.2 &&& ((1 : Int32) <<< (p &&& 31)) = 0
    · rw [if_pos h, if_pos h]
      exact ih (j + 1) (wsB B t) (X + 1) (by omega) (by show t.2.1 + 1 = _; rw [hx, nI_1]) (by omega)
    · rw [if_neg h, if_neg h]
theorem sp_Way_hoursTo (d : Nat) (B : hs_S) (p : Int32) (t : wT) (X : Nat) (hk : B.2.2.2 49 < 6) (hx : t.2.1 = nI X) (hX : X ≤ 150000) : sx_call (d + 6) 63 [.ref 47, .int p] (hp (wyS B t)) = some (some (.int (nI (htF (wsB B) p 49 0 t).1)), hp (wyS B (htF (wsB B) p 49 0 t).2)) := by
  rw [cz63]
  simp only [ez63_0, ez63_1]
  exact hoursTo_loop d B p hk 49 0 t X (by omega) hx (by omega)
theorem sp_Way_spare (d : Nat) (S : hs_S) (p : Int32) : sx_call (d + 1) 61 [.ref 47, .int p] (hp S) = some (none, hp (uF S 47 2 ((1 : Int32) <<< (p &&& 31)))) := by
  rw [cz61]
  simp only [ez61_0, ez61_1, ez61_2, ez61_3, ez61_4, ez61_7, PF_47_2, Option.bind_some]
