/-! THE CLASS'S SMALL HELPERS -/
theorem sp_SC_isKind (d : Nat) (x : Int32) (h : sx_H) : sx_call (d + 1) 108 [.int x] h = some (some (.int (bI (0 ≤ x ∧ x < 6))), h) := by
  rw [cz108]
  simp only [ez108_0, ez108_1, ez108_4, ez108_5, ez108_7, ez108_10, ez108_11, ez108_14, ez108_15, nar_0, nar_1, if_true]
  by_cases h1 : x < 0
  · rw [if_pos h1, bI_f (fun z => Int32.not_lt.mpr z.1 h1)]
  · by_cases h2 : 6 ≤ x
    · rw [if_neg h1, if_pos h2, bI_f (fun z => Int32.not_le.mpr z.2 h2)]
    · rw [if_neg h1, if_neg h2, bI_t ⟨Int32.not_lt.mp h1, Int32.not_le.mp h2⟩]
theorem sp_SC_isSheet (d : Nat) (x : Int32) (h : sx_H) : sx_call (d + 1) 109 [.int x] h = some (some (.int (bI (0 ≤ x ∧ x < 4))), h) := by
  rw [cz109]
  simp only [ez109_0, ez109_1, ez109_4, ez109_5, ez109_6, ez109_9, ez109_10, ez109_13, ez109_14, nar_0, nar_1, if_true]
  by_cases h1 : x < 0
  · rw [if_pos h1, bI_f (fun z => Int32.not_lt.mpr z.1 h1)]
  · by_cases h2 : 4 ≤ x
    · rw [if_neg h1, if_pos h2, bI_f (fun z => Int32.not_le.mpr z.2 h2)]
    · rw [if_neg h1, if_neg h2, bI_t ⟨Int32.not_lt.mp h1, Int32.not_le.mp h2⟩]
theorem sp_SC_within (d : Nat) (x y : Int32) (h : sx_H) : sx_call (d + 1) 110 [.int x, .int y] h = some (some (.int (bI (0 ≤ x ∧ x ≤ y))), h) := by
  rw [cz110]
  simp only [ez110_0, ez110_1, ez110_4, ez110_5, ez110_6, ez110_9, ez110_10, ez110_13, ez110_14, nar_0, nar_1, if_true]
  by_cases h1 : x < 0
  · rw [if_pos h1, bI_f (fun z => Int32.not_lt.mpr z.1 h1)]
  · by_cases h2 : y < x
    · rw [if_neg h1, if_pos h2, bI_f (fun z => Int32.not_lt.mpr z.2 h2)]
    · rw [if_neg h1, if_neg h2, bI_t ⟨Int32.not_lt.mp h1, Int32.not_lt.mp h2⟩]
theorem sp_SC_isCarrier (d : Nat) (S : hs_S) (x : Int32) : sx_call (d + 1) 106 [.ref 1, .int x] (hp S) = some (some (.int (bI (0 ≤ x ∧ x < S.1 11 3))), hp S) := by
  rw [cz106]
  simp only [ez106_0, ez106_1, ez106_4, ez106_5, ez106_6, ez106_9, ez106_12, ez106_15, ez106_16, ez106_19, ez106_20, GF_1_1, GF_11_3, Option.bind_some, nar_0, nar_1, if_true]
  by_cases h1 : x < 0
  · rw [if_pos h1, bI_f (fun z => Int32.not_lt.mpr z.1 h1)]
  · by_cases h2 : S.1 11 3 ≤ x
    · rw [if_neg h1, if_pos h2, bI_f (fun z => Int32.not_le.mpr z.2 h2)]
    · rw [if_neg h1, if_neg h2, bI_t ⟨Int32.not_lt.mp h1, Int32.not_le.mp h2⟩]
/-- a finding more -/
def fdS (S : hs_S) (w : Nat) : hs_S := uI S 4 (upd (S.2.1 4) w (S.2.1 4 w + 1))
theorem sp_SC_finding (d : Nat) (S : hs_S) (w : Nat) (c : Int32) (hc : -1000000001 - c = nI w) (hw : w < 7) : sx_call (d + 1) 105 [.ref 1, .int c] (hp S) = some (some (.int c), hp (fdS S w)) := by
  rw [cz105]
  have e7 : nI 7 = 7 := by decide
  have g := nI_ge (a := w) (b := 7) hw (by decide)
  rw [e7] at g
  have p : ¬ nI w < 0 := Int32.not_lt.mpr (nI_pos' (by omega))
  simp only [ez105_0, ez105_2, ez105_3, ez105_4, ez105_5, ez105_6, ez105_9, ez105_10, ez105_12, ez105_15, ez105_16, ez105_19, ez105_20, ez105_21, ez105_22, ez105_23, ez105_24, ez105_25, ez105_26, hc, if_neg p, if_neg g, GF_1_9, Option.bind_some, GI_4, PI_4, in_nI hw (by decide), if_true, nI_clamp (show w < 2 ^ 31 by omega)]
  rfl
/-- the places of a set and those next to them, as the class counts them -/
def sprF (p : Int32) : Int32 := (((p ||| (((p &&& (-34953)) <<< 1) ||| (((p &&& (-4370)).toUInt32 >>> 1).toInt32))) ||| (p <<< 4)) ||| ((p.toUInt32 >>> 4).toInt32)) &&& 65535
theorem sp_SC_spread (d : Nat) (x : Int32) (h : sx_H) : sx_call (d + 1) 113 [.int x] h = some (some (.int (sprF x)), h) := by
  rw [cz113]
  simp only [ez113_0, ez113_1, ez113_4, ez113_5, ez113_6, ez113_7, ez113_8, ez113_11, ez113_12, ez113_13, ez113_14, ez113_15, ez113_16, ez113_17, ez113_18, ez113_19, ez113_20, ez113_21, ez113_22, ez113_23, ez113_24, ez113_25, ez113_26, ez113_27, ez113_30, ez113_31]
  rfl
def ntF (p : Int32) : Int32 := sprF ((1 : Int32) <<< (p &&& 31)) &&& ((1 : Int32) <<< (p &&& 31) ^^^ (-1))
theorem sp_SC_nextTo (d : Nat) (x : Int32) (h : sx_H) : sx_call (d + 2) 114 [.int x] h = some (some (.int (ntF x)), h) := by
  rw [cz114]
  simp only [ez114_0, ez114_1, ez114_2, ez114_3, ez114_6, ez114_7, ez114_8, ez114_9, ez114_10, ez114_11, ez114_12, sp_SC_spread, Option.bind_some, tl_s]
  rfl
def mbF (w v : Int32) : Bool := if w = 2 then decide (0 ≤ v ∧ v ≤ 99) else if w = 3 then decide (0 ≤ v ∧ v ≤ 9) else if w = 4 then decide (0 ≤ v ∧ v ≤ 9) else if w = 5 then decide (0 ≤ v ∧ v ≤ 999999) else false
theorem bI_d (p : Prop) [Decidable p] : bI (decide p = true) = bI p := by
  unfold bI
  by_cases h : p
  · rw [if_pos h, if_pos (decide_eq_true h)]
  · rw [if_neg h, if_neg (fun e => h (of_decide_eq_true e))]
theorem sp_SC_mayBe (d : Nat) (w v : Int32) (h : sx_H) : sx_call (d + 2) 111 [.int w, .int v] h = some (some (.int (bI (mbF w v = true))), h) := by
  rw [cz111]
  simp only [ez111_0, ez111_1, ez111_32, ez111_33, ez111_35, ez111_38, ez111_39, ez111_40, ez111_42, ez111_45, ez111_46, ez111_47, ez111_49, ez111_52, ez111_53, ez111_54, ez111_56, ez111_59, ez111_60, ez111_61, sp_SC_within, Option.bind_some, tl_s, bI_nar, nar_0, nar_1, if_true]
  unfold mbF
  by_cases h2 : w = 2
  · simp only [if_pos h2, bI_d]
  · by_cases h3 : w = 3
    · simp only [if_neg h2, if_pos h3, bI_d]
    · by_cases h4 : w = 4
      · simp only [if_neg h2, if_neg h3, if_pos h4, bI_d]
      · by_cases h5 : w = 5
        · simp only [if_neg h2, if_neg h3, if_neg h4, if_pos h5, bI_d]
        · simp only [if_neg h2, if_neg h3, if_neg h4, if_neg h5]
          rfl
theorem sp_Land_addCarrier (d : Nat) (S : hs_S) (n k : Nat) (pl : Int32) (hn : n < 8) (hc : S.1 11 3 = nI n) : sx_call (d + 2) 27 [.ref 11, .ref (5 + k), .int pl] (hp S) = some (some (.int (nI n)), hp (uF (setC S (15 + n) k pl 20 0 0 0) 11 3 (nI (n + 1)))) := by
  rw [cz27]
  have e3 : (setC S (15 + n) k pl 20 0 0 0).1 11 3 = nI n := by
    unfold setC
    dsimp only
    rw [if_neg (by omega)]
    exact hc
  have e4 : nI (n + 1) - 1 = nI n := by
    rw [← nI_1]
    simp
  simp only [ez27_0, ez27_1, ez27_4, ez27_5, ez27_8, ez27_9, ez27_10, ez27_11, ez27_14, ez27_15, ez27_15i, ez27_16, ez27_19, ez27_20, ez27_21, ez27_24, ez27_25, ez27_28, ez27_29, ez27_30, GF_11_2, GF_11_3, hc, Option.bind_some, GQ_14 _ n hn, KL_c _ (car15 hn), if_true, sp_Carrier_start d S (15 + n) k pl (car15 hn), tl_n, e3, PF_11_3, nI_1, uF_at, e4]
