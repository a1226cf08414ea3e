/-! THE MODEL: its small methods -/
theorem wl_c {k : Int32} {c : Int64} (h : c = k.toInt64) (x : Int32) : (c ≤ x.toInt64) = (k ≤ x) := by
  rw [h]
  exact propext (fa_wide_le k x)
theorem wu_c {k : Int32} {c : Int64} (h : c = k.toInt64) (x : Int32) : (x.toInt64 ≤ c) = (x ≤ k) := by
  rw [h]
  exact propext (fa_wide_le x k)
theorem wl_0 (x : Int32) : ((0 : Int64) ≤ x.toInt64) = ((0 : Int32) ≤ x) := wl_c (by decide) x
theorem wl_1 (x : Int32) : ((1 : Int64) ≤ x.toInt64) = ((1 : Int32) ≤ x) := wl_c (by decide) x
theorem wl_2 (x : Int32) : ((2 : Int64) ≤ x.toInt64) = ((2 : Int32) ≤ x) := wl_c (by decide) x
theorem wl_m1 (x : Int32) : ((-1 : Int64) ≤ x.toInt64) = ((-1 : Int32) ≤ x) := wl_c (by decide) x
theorem wl_97 (x : Int32) : ((97 : Int64) ≤ x.toInt64) = ((97 : Int32) ≤ x) := wl_c (by decide) x
theorem wl_48 (x : Int32) : ((48 : Int64) ≤ x.toInt64) = ((48 : Int32) ≤ x) := wl_c (by decide) x
theorem wu_1 (x : Int32) : (x.toInt64 ≤ (1 : Int64)) = (x ≤ (1 : Int32)) := wu_c (by decide) x
theorem wu_3 (x : Int32) : (x.toInt64 ≤ (3 : Int64)) = (x ≤ (3 : Int32)) := wu_c (by decide) x
theorem wu_4 (x : Int32) : (x.toInt64 ≤ (4 : Int64)) = (x ≤ (4 : Int32)) := wu_c (by decide) x
theorem wu_5 (x : Int32) : (x.toInt64 ≤ (5 : Int64)) = (x ≤ (5 : Int32)) := wu_c (by decide) x
theorem wu_6 (x : Int32) : (x.toInt64 ≤ (6 : Int64)) = (x ≤ (6 : Int32)) := wu_c (by decide) x
theorem wu_9 (x : Int32) : (x.toInt64 ≤ (9 : Int64)) = (x ≤ (9 : Int32)) := wu_c (by decide) x
theorem wu_15 (x : Int32) : (x.toInt64 ≤ (15 : Int64)) = (x ≤ (15 : Int32)) := wu_c (by decide) x
theorem wu_48 (x : Int32) : (x.toInt64 ≤ (48 : Int64)) = (x ≤ (48 : Int32)) := wu_c (by decide) x
theorem wu_57 (x : Int32) : (x.toInt64 ≤ (57 : Int64)) = (x ≤ (57 : Int32)) := wu_c (by decide) x
theorem wu_60 (x : Int32) : (x.toInt64 ≤ (60 : Int64)) = (x ≤ (60 : Int32)) := wu_c (by decide) x
theorem wu_99 (x : Int32) : (x.toInt64 ≤ (99 : Int64)) = (x ≤ (99 : Int32)) := wu_c (by decide) x
theorem wu_122 (x : Int32) : (x.toInt64 ≤ (122 : Int64)) = (x ≤ (122 : Int32)) := wu_c (by decide) x
theorem wu_99999 (x : Int32) : (x.toInt64 ≤ (99999 : Int64)) = (x ≤ (99999 : Int32)) := wu_c (by decide) x
theorem wu_999999 (x : Int32) : (x.toInt64 ≤ (999999 : Int64)) = (x ≤ (999999 : Int32)) := wu_c (by decide) x
theorem sp_M_in (d : Nat) (x lo hi : Int64) (h : sx_H) : sx_call (d + 1) 117 [.long x, .long lo, .long hi] h = some (some (.int (bI (lo ≤ x ∧ x ≤ hi))), h) := by
  rw [cz117]
  simp only [ez117_0, ez117_1, ez117_2, ez117_3, ez117_6, ez117_7, ez117_9, ez117_10, ez117_13, ez117_14, ez117_17, ez117_18, lg_cmp_lt, lg_cmp_gt, nar_0, nar_1, if_true]
  by_cases h1 : x < lo
  · rw [if_pos h1, bI_f (fun z => Int64.not_le.mpr h1 z.1)]
  · by_cases h2 : hi < x
    · rw [if_neg h1, if_pos h2, bI_f (fun z => Int64.not_le.mpr h2 z.2)]
    · rw [if_neg h1, if_neg h2, bI_t ⟨Int64.not_lt.mp h1, Int64.not_lt.mp h2⟩]
/-- a finding more -/
def fdM (S : hs_S) (w : Nat) : hs_S := uI S 66 (upd (S.2.1 66) w (S.2.1 66 w + 1))
theorem sp_M_finds (d : Nat) (S : hs_S) (w : Nat) (c : Int32) (hc : -1000000001 - c = nI w) (hw : w < 7) : sx_call (d + 1) 118 [.ref 61, .int c] (hp S) = some (some (.int c), hp (fdM S w)) := by
  rw [cz118]
  simp only [ez118_0, ez118_1, ez118_4, ez118_6, ez118_7, ez118_8, ez118_9, ez118_10, ez118_11, ez118_12, ez118_13, ez118_14, GF_61_4, Option.bind_some, hc, GI_66, PI_66, in_nI hw (by decide), if_true, nI_clamp (show w < 2 ^ 31 by omega)]
  rfl
theorem bI_cong {p q : Prop} [Decidable p] [Decidable q] (h : p ↔ q) : bI p = bI q := by
  by_cases hp0 : p
  · rw [bI_t hp0, bI_t (h.mp hp0)]
  · rw [bI_f hp0, bI_f (fun z => hp0 (h.mpr z))]
theorem lt_pI {x k k1 : Int32} (h : k1.toInt = k.toInt + 1) : x ≤ k ↔ x < k1 := by
  rw [fa_le, fa_lt, h]
  omega
theorem sp_M_isPlace (d : Nat) (x : Int32) (h : sx_H) : sx_call (d + 2) 124 [.int x] h = some (some (.int (bI (0 ≤ x ∧ x < 16))), h) := by
  rw [cz124]
  simp only [ez124_0, ez124_1, ez124_2, ez124_3, ez124_6, ez124_9, sp_M_in, Option.bind_some, tl_s, bI_nar, if_true]
  rw [bI_cong (q := 0 ≤ x ∧ x < 16)]
  rw [wl_0, wu_15, lt_pI (k := 15) (k1 := 16) (by decide)]
theorem sp_M_isKind (d : Nat) (x : Int32) (h : sx_H) : sx_call (d + 2) 126 [.int x] h = some (some (.int (bI (0 ≤ x ∧ x < 6))), h) := by
  rw [cz126]
  simp only [ez126_0, ez126_1, ez126_2, ez126_3, ez126_6, ez126_9, sp_M_in, Option.bind_some, tl_s, bI_nar, if_true]
  rw [bI_cong (q := 0 ≤ x ∧ x < 6)]
  rw [wl_0, wu_5, lt_pI (k := 5) (k1 := 6) (by decide)]
theorem sp_M_isFar (d : Nat) (x : Int32) (h : sx_H) : sx_call (d + 2) 168 [.int x] h = some (some (.int (bI (0 ≤ x ∧ x ≤ 48))), h) := by
  rw [cz168]
  simp only [ez168_0, ez168_1, ez168_2, ez168_3, ez168_6, ez168_9, sp_M_in, Option.bind_some, tl_s, bI_nar, if_true]
  rw [bI_cong (q := 0 ≤ x ∧ x ≤ 48)]
  rw [wl_0, wu_48]
theorem sp_M_isOne (d : Nat) (x : Int32) (h : sx_H) : sx_call (d + 2) 193 [.int x] h = some (some (.int (bI (0 ≤ x ∧ x < 4))), h) := by
  rw [cz193]
  simp only [ez193_0, ez193_1, ez193_2, ez193_3, ez193_6, ez193_9, sp_M_in, Option.bind_some, tl_s, bI_nar, if_true]
  rw [bI_cong (q := 0 ≤ x ∧ x < 4)]
  rw [wl_0, wu_3, lt_pI (k := 3) (k1 := 4) (by decide)]
theorem c83_0 : sx_in 0 83 = true := by decide
theorem c83_1 : sx_in 1 83 = true := by decide
theorem c83_2 : sx_in 2 83 = true := by decide
theorem cl_0 : Int32.toNatClampNeg 0 = 0 := by decide
theorem cl_1 : Int32.toNatClampNeg 1 = 1 := by decide
theorem cl_2 : Int32.toNatClampNeg 2 = 2 := by decide
theorem sp_M_isCarrier (d : Nat) (S : hs_S) (n : Nat) (x : Int32) (hn : n ≤ 8) (hr : S.2.1 62 0 = nI n) : sx_call (d + 2) 125 [.ref 61, .int x] (hp S) = some (some (.int (bI (0 ≤ x ∧ x < nI n))), hp S) := by
  rw [cz125]
  simp only [ez125_0, ez125_1, ez125_2, ez125_3, ez125_4, ez125_7, ez125_8, ez125_9, ez125_10, ez125_11, ez125_12, ez125_15, GF_61_0, GI_62, c83_0, cl_0, hr, if_true, sp_M_in, Option.bind_some, tl_s, bI_nar]
  rw [bI_cong (q := 0 ≤ x ∧ x < nI n)]
  rw [wl_0, fa_wide_le, lt_pI (k := nI n - 1) (k1 := nI n)]
  rcases (show n = 0 ∨ n = 1 ∨ n = 2 ∨ n = 3 ∨ n = 4 ∨ n = 5 ∨ n = 6 ∨ n = 7 ∨ n = 8 by omega) with rfl | rfl | rfl | rfl | rfl | rfl | rfl | rfl | rfl <;> decide
theorem nI_mu (a b : Nat) : nI a * nI b = nI (a * b) := by
  show Int32.ofNat a * Int32.ofNat b = Int32.ofNat (a * b)
  rw [← Int32.ofNat_mul]
theorem spot_nI (m q : Nat) : 35 + 6 * nI m + nI q = nI (35 + 6 * m + q) := by
  have e6 : (6 : Int32) = nI 6 := rfl
  have e35 : (35 : Int32) = nI 35 := rfl
  rw [e6, e35, nI_mu, nI_ad, nI_ad]
theorem sp_M_spotOf (d : Nat) (m q : Nat) (h : sx_H) : sx_call (d + 1) 127 [.int (nI m), .int (nI q)] h = some (some (.int (nI (35 + 6 * m + q))), h) := by
  rw [cz127]
  simp only [ez127_0, ez127_2, ez127_4, ez127_5, ez127_6, ez127_7, ez127_8, ez127_9, spot_nI]
theorem sp_M_spot0 (d : Nat) (m : Nat) (h : sx_H) : sx_call (d + 1) 127 [.int (nI m), .int 0] h = some (some (.int (nI (35 + 6 * m + 0))), h) := sp_M_spotOf d m 0 h
theorem sp_M_spot1 (d : Nat) (m : Nat) (h : sx_H) : sx_call (d + 1) 127 [.int (nI m), .int 1] h = some (some (.int (nI (35 + 6 * m + 1))), h) := sp_M_spotOf d m 1 h
theorem sp_M_spot2 (d : Nat) (m : Nat) (h : sx_H) : sx_call (d + 1) 127 [.int (nI m), .int 2] h = some (some (.int (nI (35 + 6 * m + 2))), h) := sp_M_spotOf d m 2 h
theorem sp_M_spot3 (d : Nat) (m : Nat) (h : sx_H) : sx_call (d + 1) 127 [.int (nI m), .int 3] h = some (some (.int (nI (35 + 6 * m + 3))), h) := sp_M_spotOf d m 3 h
theorem sp_M_spot4 (d : Nat) (m : Nat) (h : sx_H) : sx_call (d + 1) 127 [.int (nI m), .int 4] h = some (some (.int (nI (35 + 6 * m + 4))), h) := sp_M_spotOf d m 4 h
theorem sp_M_spot5 (d : Nat) (m : Nat) (h : sx_H) : sx_call (d + 1) 127 [.int (nI m), .int 5] h = some (some (.int (nI (35 + 6 * m + 5))), h) := sp_M_spotOf d m 5 h
theorem sp_M_its (d : Nat) (S : hs_S) (m q : Nat) (hm : m < 8) (hq : q < 6) : sx_call (d + 2) 128 [.ref 61, .int (nI m), .int (nI q)] (hp S) = some (some (.int (S.2.1 62 (35 + 6 * m + q))), hp S) := by
  rw [cz128]
  simp only [ez128_0, ez128_1, ez128_4, ez128_5, ez128_6, ez128_9, ez128_10, GF_61_0, sp_M_spotOf, Option.bind_some, tl_s, GI_62, in_nI (show 35 + 6 * m + q < 83 by omega) (by decide), if_true, nI_clamp (show 35 + 6 * m + q < 2 ^ 31 by omega)]
theorem sp_M_its0 (d : Nat) (S : hs_S) (m : Nat) (hm : m < 8) : sx_call (d + 2) 128 [.ref 61, .int (nI m), .int 0] (hp S) = some (some (.int (S.2.1 62 (35 + 6 * m + 0))), hp S) := sp_M_its d S m 0 hm (by decide)
theorem sp_M_its1 (d : Nat) (S : hs_S) (m : Nat) (hm : m < 8) : sx_call (d + 2) 128 [.ref 61, .int (nI m), .int 1] (hp S) = some (some (.int (S.2.1 62 (35 + 6 * m + 1))), hp S) := sp_M_its d S m 1 hm (by decide)
theorem sp_M_its2 (d : Nat) (S : hs_S) (m : Nat) (hm : m < 8) : sx_call (d + 2) 128 [.ref 61, .int (nI m), .int 2] (hp S) = some (some (.int (S.2.1 62 (35 + 6 * m + 2))), hp S) := sp_M_its d S m 2 hm (by decide)
theorem sp_M_its3 (d : Nat) (S : hs_S) (m : Nat) (hm : m < 8) : sx_call (d + 2) 128 [.ref 61, .int (nI m), .int 3] (hp S) = some (some (.int (S.2.1 62 (35 + 6 * m + 3))), hp S) := sp_M_its d S m 3 hm (by decide)
theorem sp_M_its4 (d : Nat) (S : hs_S) (m : Nat) (hm : m < 8) : sx_call (d + 2) 128 [.ref 61, .int (nI m), .int 4] (hp S) = some (some (.int (S.2.1 62 (35 + 6 * m + 4))), hp S) := sp_M_its d S m 4 hm (by decide)
theorem sp_M_its5 (d : Nat) (S : hs_S) (m : Nat) (hm : m < 8) : sx_call (d + 2) 128 [.ref 61, .int (nI m), .int 5] (hp S) = some (some (.int (S.2.1 62 (35 + 6 * m + 5))), hp S) := sp_M_its d S m 5 hm (by decide)
theorem sp_M_becomes (d : Nat) (S : hs_S) (i : Nat) (v : Int32) (hi : i < 83) : sx_call (d + 1) 123 [.ref 61, .int (nI i), .int v] (hp S) = some (some (.int (S.2.1 62 i)), hp (uI S 62 (upd (S.2.1 62) i v))) := by
  rw [cz123]
  simp only [ez123_0, ez123_1, ez123_4, ez123_5, ez123_6, ez123_7, ez123_8, ez123_11, ez123_12, ez123_13, ez123_14, ez123_15, GF_61_0, Option.bind_some, GI_62, PI_62, in_nI hi (by decide), if_true, nI_clamp (show i < 2 ^ 31 by omega)]
theorem sp_M_heatOf (d : Nat) (x : Int32) (h : sx_H) : sx_call (d + 1) 134 [.int x] h = some (some (.int (hT x)), h) := by
  rw [cz134]
  unfold hT
  by_cases h1 : 0 ≤ (x - x / 24 * 24) - 12
  · rw [if_pos h1]
    simp only [ez134_0, ez134_1, ez134_3, ez134_4, ez134_6, ez134_7, ez134_8, ez134_10, ez134_11, ez134_14, ez134_15, ez134_16, ez134_19, ez134_20, ez134_21, z_24, if_false, if_pos h1]
  · rw [if_neg h1]
    simp only [ez134_0, ez134_1, ez134_3, ez134_4, ez134_6, ez134_7, ez134_8, ez134_10, ez134_11, ez134_14, ez134_15, ez134_16, ez134_19, ez134_20, ez134_21, z_24, if_false, if_neg h1]
theorem aln_mx0 (v : Int32) : (if 0 ≤ v then v else 0) = mx0 v := by
  unfold mx0
  by_cases h : 0 < v
  · rw [if_pos h, if_pos (Int32.le_of_lt h)]
  · rw [if_neg h]
    by_cases h2 : 0 ≤ v
    · rw [if_pos h2]
      exact Int32.le_antisymm (Int32.not_lt.mp h) h2
    · rw [if_neg h2]
theorem sp_M_aln (d : Nat) (v : Int32) (h : sx_H) : sx_call (d + 1) 138 [.int v] h = some (some (.int (mx0 v)), h) := by
  rw [cz138, ← aln_mx0]
  by_cases h1 : 0 ≤ v
  · simp only [ez138_0, ez138_1, ez138_4, ez138_5, ez138_8, ez138_9, if_pos h1]
  · simp only [ez138_0, ez138_1, ez138_4, ez138_5, ez138_8, ez138_9, if_neg h1]
theorem nk_0 : nI 0 = (0 : Int32) := rfl
theorem nk_1 : nI 1 = (1 : Int32) := rfl
theorem nk_2 : nI 2 = (2 : Int32) := rfl
theorem nk_3 : nI 3 = (3 : Int32) := rfl
theorem nk_4 : nI 4 = (4 : Int32) := rfl
theorem nk_5 : nI 5 = (5 : Int32) := rfl
theorem nk_6 : nI 6 = (6 : Int32) := rfl
theorem sp_M_coolOf (d : Nat) (S : hs_S) (m k : Nat) (sh x : Int32) (hm : m < 8) (hk : k < 6) (er : S.2.1 62 (35 + 6 * m + 0) = nI k) : sx_call (d + 3) 139 [.ref 61, .int (nI m), .int sh, .int x] (hp S) = some (some (.int (coolF k sh (S.2.1 62 (35 + 6 * m + 4)) x)), hp S) := by
  rw [cz139]
  have i0 := sp_M_its0 d S m hm
  have i4 := sp_M_its4 d S m hm
  rw [er] at i0
  rcases lt6 hk with rfl | rfl | rfl | rfl | rfl | rfl
  · simp [ez139_0, ez139_1, ez139_2, ez139_3, ez139_5, ez139_7, ez139_8, ez139_9, ez139_10, ez139_13, ez139_14, ez139_17, ez139_19, ez139_20, ez139_21, ez139_22, ez139_25, ez139_60, ez139_62, ez139_63, ez139_64, ez139_65, ez139_67, ez139_68, ez139_69, ez139_70, ez139_71, ez139_72, ez139_74, ez139_75, ez139_76, ez139_77, ez139_78, ez139_81, ez139_82, ez139_83, ez139_85, ez139_86, ez139_89, ez139_90, ez139_93, ez139_95, ez139_96, ez139_98, KL_61, i0, i4, tl_s, sp_M_aln, coolF, nk_0, nk_1, nk_2, nk_3, nk_4, nk_5]
  · simp [ez139_0, ez139_1, ez139_2, ez139_3, ez139_5, ez139_7, ez139_8, ez139_9, ez139_10, ez139_13, ez139_14, ez139_17, ez139_19, ez139_20, ez139_21, ez139_22, ez139_25, ez139_60, ez139_62, ez139_63, ez139_64, ez139_65, ez139_67, ez139_68, ez139_69, ez139_70, ez139_71, ez139_72, ez139_74, ez139_75, ez139_76, ez139_77, ez139_78, ez139_81, ez139_82, ez139_83, ez139_85, ez139_86, ez139_89, ez139_90, ez139_93, ez139_95, ez139_96, ez139_98, KL_61, i0, i4, tl_s, sp_M_aln, coolF, nk_0, nk_1, nk_2, nk_3, nk_4, nk_5]
  · simp [ez139_0, ez139_1, ez139_2, ez139_3, ez139_5, ez139_7, ez139_8, ez139_9, ez139_10, ez139_13, ez139_14, ez139_17, ez139_19, ez139_20, ez139_21, ez139_22, ez139_25, ez139_60, ez139_62, ez139_63, ez139_64, ez139_65, ez139_67, ez139_68, ez139_69, ez139_70, ez139_71, ez139_72, ez139_74, ez139_75, ez139_76, ez139_77, ez139_78, ez139_81, ez139_82, ez139_83, ez139_85, ez139_86, ez139_89, ez139_90, ez139_93, ez139_95, ez139_96, ez139_98, KL_61, i0, i4, tl_s, sp_M_aln, coolF, nk_0, nk_1, nk_2, nk_3, nk_4, nk_5]
  · simp [ez139_0, ez139_1, ez139_2, ez139_3, ez139_5, ez139_7, ez139_8, ez139_9, ez139_10, ez139_13, ez139_14, ez139_17, ez139_19, ez139_20, ez139_21, ez139_22, ez139_25, ez139_60, ez139_62, ez139_63, ez139_64, ez139_65, ez139_67, ez139_68, ez139_69, ez139_70, ez139_71, ez139_72, ez139_74, ez139_75, ez139_76, ez139_77, ez139_78, ez139_81, ez139_82, ez139_83, ez139_85, ez139_86, ez139_89, ez139_90, ez139_93, ez139_95, ez139_96, ez139_98, KL_61, i0, i4, tl_s, sp_M_aln, coolF, nk_0, nk_1, nk_2, nk_3, nk_4, nk_5]
  · simp [ez139_0, ez139_1, ez139_2, ez139_3, ez139_5, ez139_7, ez139_8, ez139_9, ez139_10, ez139_13, ez139_14, ez139_17, ez139_19, ez139_20, ez139_21, ez139_22, ez139_25, ez139_60, ez139_62, ez139_63, ez139_64, ez139_65, ez139_67, ez139_68, ez139_69, ez139_70, ez139_71, ez139_72, ez139_74, ez139_75, ez139_76, ez139_77, ez139_78, ez139_81, ez139_82, ez139_83, ez139_85, ez139_86, ez139_89, ez139_90, ez139_93, ez139_95, ez139_96, ez139_98, KL_61, i0, i4, tl_s, sp_M_aln, coolF, nk_0, nk_1, nk_2, nk_3, nk_4, nk_5]
  · by_cases h7 : x - x / 7 * 7 = 0
    · simp [ez139_0, ez139_1, ez139_2, ez139_3, ez139_5, ez139_7, ez139_8, ez139_9, ez139_10, ez139_13, ez139_14, ez139_17, ez139_19, ez139_20, ez139_21, ez139_22, ez139_25, ez139_60, ez139_62, ez139_63, ez139_64, ez139_65, ez139_67, ez139_68, ez139_69, ez139_70, ez139_71, ez139_72, ez139_74, ez139_75, ez139_76, ez139_77, ez139_78, ez139_81, ez139_82, ez139_83, ez139_85, ez139_86, ez139_89, ez139_90, ez139_93, ez139_95, ez139_96, ez139_98, KL_61, i0, i4, tl_s, sp_M_aln, coolF, nk_0, nk_1, nk_2, nk_3, nk_4, nk_5, h7]
    · simp [ez139_0, ez139_1, ez139_2, ez139_3, ez139_5, ez139_7, ez139_8, ez139_9, ez139_10, ez139_13, ez139_14, ez139_17, ez139_19, ez139_20, ez139_21, ez139_22, ez139_25, ez139_60, ez139_62, ez139_63, ez139_64, ez139_65, ez139_67, ez139_68, ez139_69, ez139_70, ez139_71, ez139_72, ez139_74, ez139_75, ez139_76, ez139_77, ez139_78, ez139_81, ez139_82, ez139_83, ez139_85, ez139_86, ez139_89, ez139_90, ez139_93, ez139_95, ez139_96, ez139_98, KL_61, i0, i4, tl_s, sp_M_aln, coolF, nk_0, nk_1, nk_2, nk_3, nk_4, nk_5, h7]
theorem sp_M_fadesOf (d : Nat) (S : hs_S) (m k : Nat) (x : Int32) (hm : m < 8) (hk : k < 6) (er : S.2.1 62 (35 + 6 * m + 0) = nI k) : sx_call (d + 3) 140 [.ref 61, .int (nI m), .int x] (hp S) = some (some (.int (fadeF k (S.2.1 62 (35 + 6 * m + 4)) (hT x))), hp S) := by
  rw [cz140]
  have i0 := sp_M_its0 d S m hm
  have i4 := sp_M_its4 d S m hm
  rw [er] at i0
  rcases lt6 hk with rfl | rfl | rfl | rfl | rfl | rfl
  · simp [ez140_0, ez140_1, ez140_4, ez140_6, ez140_7, ez140_8, ez140_9, ez140_10, ez140_11, ez140_14, ez140_44, ez140_45, ez140_46, ez140_47, ez140_50, ez140_51, ez140_54, ez140_55, ez140_56, ez140_57, ez140_60, ez140_61, ez140_62, ez140_63, ez140_64, ez140_65, ez140_66, ez140_67, ez140_68, ez140_69, ez140_72, ez140_73, ez140_74, KL_61, i0, i4, tl_s, sp_M_aln, sp_M_heatOf, fadeF, nk_0, nk_1, nk_2, nk_3, nk_4, nk_5]
  · simp [ez140_0, ez140_1, ez140_4, ez140_6, ez140_7, ez140_8, ez140_9, ez140_10, ez140_11, ez140_14, ez140_44, ez140_45, ez140_46, ez140_47, ez140_50, ez140_51, ez140_54, ez140_55, ez140_56, ez140_57, ez140_60, ez140_61, ez140_62, ez140_63, ez140_64, ez140_65, ez140_66, ez140_67, ez140_68, ez140_69, ez140_72, ez140_73, ez140_74, KL_61, i0, i4, tl_s, sp_M_aln, sp_M_heatOf, fadeF, nk_0, nk_1, nk_2, nk_3, nk_4, nk_5]
  · by_cases h4 : S.2.1 62 (35 + 6 * m + 4) ≤ 4
    · simp [ez140_0, ez140_1, ez140_4, ez140_6, ez140_7, ez140_8, ez140_9, ez140_10, ez140_11, ez140_14, ez140_44, ez140_45, ez140_46, ez140_47, ez140_50, ez140_51, ez140_54, ez140_55, ez140_56, ez140_57, ez140_60, ez140_61, ez140_62, ez140_63, ez140_64, ez140_65, ez140_66, ez140_67, ez140_68, ez140_69, ez140_72, ez140_73, ez140_74, KL_61, i0, i4, tl_s, sp_M_aln, sp_M_heatOf, fadeF, nk_0, nk_1, nk_2, nk_3, nk_4, nk_5, h4, Int32.not_lt.mpr h4]
    · simp [ez140_0, ez140_1, ez140_4, ez140_6, ez140_7, ez140_8, ez140_9, ez140_10, ez140_11, ez140_14, ez140_44, ez140_45, ez140_46, ez140_47, ez140_50, ez140_51, ez140_54, ez140_55, ez140_56, ez140_57, ez140_60, ez140_61, ez140_62, ez140_63, ez140_64, ez140_65, ez140_66, ez140_67, ez140_68, ez140_69, ez140_72, ez140_73, ez140_74, KL_61, i0, i4, tl_s, sp_M_aln, sp_M_heatOf, fadeF, nk_0, nk_1, nk_2, nk_3, nk_4, nk_5, h4, Int32.not_le.mp h4]
  · simp [ez140_0, ez140_1, ez140_4, ez140_6, ez140_7, ez140_8, ez140_9, ez140_10, ez140_11, ez140_14, ez140_44, ez140_45, ez140_46, ez140_47, ez140_50, ez140_51, ez140_54, ez140_55, ez140_56, ez140_57, ez140_60, ez140_61, ez140_62, ez140_63, ez140_64, ez140_65, ez140_66, ez140_67, ez140_68, ez140_69, ez140_72, ez140_73, ez140_74, KL_61, i0, i4, tl_s, sp_M_aln, sp_M_heatOf, fadeF, nk_0, nk_1, nk_2, nk_3, nk_4, nk_5]
  · simp [ez140_0, ez140_1, ez140_4, ez140_6, ez140_7, ez140_8, ez140_9, ez140_10, ez140_11, ez140_14, ez140_44, ez140_45, ez140_46, ez140_47, ez140_50, ez140_51, ez140_54, ez140_55, ez140_56, ez140_57, ez140_60, ez140_61, ez140_62, ez140_63, ez140_64, ez140_65, ez140_66, ez140_67, ez140_68, ez140_69, ez140_72, ez140_73, ez140_74, KL_61, i0, i4, tl_s, sp_M_aln, sp_M_heatOf, fadeF, nk_0, nk_1, nk_2, nk_3, nk_4, nk_5]
  · by_cases h4 : S.2.1 62 (35 + 6 * m + 4) ≤ 4
    · simp [ez140_0, ez140_1, ez140_4, ez140_6, ez140_7, ez140_8, ez140_9, ez140_10, ez140_11, ez140_14, ez140_44, ez140_45, ez140_46, ez140_47, ez140_50, ez140_51, ez140_54, ez140_55, ez140_56, ez140_57, ez140_60, ez140_61, ez140_62, ez140_63, ez140_64, ez140_65, ez140_66, ez140_67, ez140_68, ez140_69, ez140_72, ez140_73, ez140_74, KL_61, i0, i4, tl_s, sp_M_aln, sp_M_heatOf, fadeF, nk_0, nk_1, nk_2, nk_3, nk_4, nk_5, h4, Int32.not_lt.mpr h4]
    · simp [ez140_0, ez140_1, ez140_4, ez140_6, ez140_7, ez140_8, ez140_9, ez140_10, ez140_11, ez140_14, ez140_44, ez140_45, ez140_46, ez140_47, ez140_50, ez140_51, ez140_54, ez140_55, ez140_56, ez140_57, ez140_60, ez140_61, ez140_62, ez140_63, ez140_64, ez140_65, ez140_66, ez140_67, ez140_68, ez140_69, ez140_72, ez140_73, ez140_74, KL_61, i0, i4, tl_s, sp_M_aln, sp_M_heatOf, fadeF, nk_0, nk_1, nk_2, nk_3, nk_4, nk_5, h4, Int32.not_le.mp h4]
theorem sp_M_valueOf (d : Nat) (S : hs_S) (m k : Nat) (sh p : Int32) (hm : m < 8) (hk : k < 6) (er : S.2.1 62 (35 + 6 * m + 0) = nI k) : sx_call (d + 3) 141 [.ref 61, .int (nI m), .int sh, .int p] (hp S) = some (some (.int (worthF k sh (S.2.1 62 (35 + 6 * m + 4)) p)), hp S) := by
  rw [cz141]
  have i0 := sp_M_its0 d S m hm
  have i4 := sp_M_its4 d S m hm
  rw [er] at i0
  rcases lt6 hk with rfl | rfl | rfl | rfl | rfl | rfl
  · simp [ez141_0, ez141_1, ez141_2, ez141_3, ez141_5, ez141_6, ez141_7, ez141_8, ez141_11, ez141_40, ez141_42, ez141_43, ez141_44, ez141_45, ez141_46, ez141_49, ez141_50, ez141_51, ez141_52, ez141_54, ez141_55, ez141_56, ez141_57, ez141_58, ez141_60, ez141_63, ez141_65, ez141_67, ez141_68, ez141_71, ez141_73, ez141_74, ez141_75, ez141_76, ez141_78, KL_61, i0, i4, tl_s, worthF, nk_0, nk_1, nk_2, nk_3, nk_4, nk_5]
  · simp [ez141_0, ez141_1, ez141_2, ez141_3, ez141_5, ez141_6, ez141_7, ez141_8, ez141_11, ez141_40, ez141_42, ez141_43, ez141_44, ez141_45, ez141_46, ez141_49, ez141_50, ez141_51, ez141_52, ez141_54, ez141_55, ez141_56, ez141_57, ez141_58, ez141_60, ez141_63, ez141_65, ez141_67, ez141_68, ez141_71, ez141_73, ez141_74, ez141_75, ez141_76, ez141_78, KL_61, i0, i4, tl_s, worthF, nk_0, nk_1, nk_2, nk_3, nk_4, nk_5]
  · simp [ez141_0, ez141_1, ez141_2, ez141_3, ez141_5, ez141_6, ez141_7, ez141_8, ez141_11, ez141_40, ez141_42, ez141_43, ez141_44, ez141_45, ez141_46, ez141_49, ez141_50, ez141_51, ez141_52, ez141_54, ez141_55, ez141_56, ez141_57, ez141_58, ez141_60, ez141_63, ez141_65, ez141_67, ez141_68, ez141_71, ez141_73, ez141_74, ez141_75, ez141_76, ez141_78, KL_61, i0, i4, tl_s, worthF, nk_0, nk_1, nk_2, nk_3, nk_4, nk_5]
  · simp [ez141_0, ez141_1, ez141_2, ez141_3, ez141_5, ez141_6, ez141_7, ez141_8, ez141_11, ez141_40, ez141_42, ez141_43, ez141_44, ez141_45, ez141_46, ez141_49, ez141_50, ez141_51, ez141_52, ez141_54, ez141_55, ez141_56, ez141_57, ez141_58, ez141_60, ez141_63, ez141_65, ez141_67, ez141_68, ez141_71, ez141_73, ez141_74, ez141_75, ez141_76, ez141_78, KL_61, i0, i4, tl_s, worthF, nk_0, nk_1, nk_2, nk_3, nk_4, nk_5]
  · by_cases h3 : sh < 30
    · simp [ez141_0, ez141_1, ez141_2, ez141_3, ez141_5, ez141_6, ez141_7, ez141_8, ez141_11, ez141_40, ez141_42, ez141_43, ez141_44, ez141_45, ez141_46, ez141_49, ez141_50, ez141_51, ez141_52, ez141_54, ez141_55, ez141_56, ez141_57, ez141_58, ez141_60, ez141_63, ez141_65, ez141_67, ez141_68, ez141_71, ez141_73, ez141_74, ez141_75, ez141_76, ez141_78, KL_61, i0, i4, tl_s, worthF, nk_0, nk_1, nk_2, nk_3, nk_4, nk_5, h3, Int32.not_le.mpr h3]
    · simp [ez141_0, ez141_1, ez141_2, ez141_3, ez141_5, ez141_6, ez141_7, ez141_8, ez141_11, ez141_40, ez141_42, ez141_43, ez141_44, ez141_45, ez141_46, ez141_49, ez141_50, ez141_51, ez141_52, ez141_54, ez141_55, ez141_56, ez141_57, ez141_58, ez141_60, ez141_63, ez141_65, ez141_67, ez141_68, ez141_71, ez141_73, ez141_74, ez141_75, ez141_76, ez141_78, KL_61, i0, i4, tl_s, worthF, nk_0, nk_1, nk_2, nk_3, nk_4, nk_5, h3, Int32.not_lt.mp h3]
  · simp [ez141_0, ez141_1, ez141_2, ez141_3, ez141_5, ez141_6, ez141_7, ez141_8, ez141_11, ez141_40, ez141_42, ez141_43, ez141_44, ez141_45, ez141_46, ez141_49, ez141_50, ez141_51, ez141_52, ez141_54, ez141_55, ez141_56, ez141_57, ez141_58, ez141_60, ez141_63, ez141_65, ez141_67, ez141_68, ez141_71, ez141_73, ez141_74, ez141_75, ez141_76, ez141_78, KL_61, i0, i4, tl_s, worthF, nk_0, nk_1, nk_2, nk_3, nk_4, nk_5]
/-- found, as the model says it -/
def fmB (cl po : Int32) (k : Nat) (sh co du x : Int32) : Bool := decide (0 < po) && (decide (cl = 0) && (decide (0 < sh) && decide (9 + co < coolF k sh du x + hT x / 3 + po)))
theorem add3 (p : Nat) : 3 + nI p = nI (3 + p) := nI_ad 3 p
theorem add19 (p : Nat) : 19 + nI p = nI (19 + p) := nI_ad 19 p
theorem sp_M_isFoundAt (d : Nat) (S : hs_S) (m k p : Nat) (sh x : Int32) (hm : m < 8) (hk : k < 6) (hp0 : p < 16) (er : S.2.1 62 (35 + 6 * m + 0) = nI k) : sx_call (d + 4) 142 [.ref 61, .int (nI m), .int (nI p), .int sh, .int x] (hp S) = some (some (.int (bI (fmB (S.2.1 62 2) (S.2.1 62 (3 + p)) k sh (S.2.1 62 (35 + 6 * m + 3)) (S.2.1 62 (35 + 6 * m + 4)) x = true))), hp S) := by
  rw [cz142]
  have i3 := sp_M_its3 (d + 1) S m hm
  have co := sp_M_coolOf d S m k sh x hm hk er
  unfold fmB
  have i83 := in_nI (show 3 + p < 83 by omega) (by decide)
  have c83 := nI_clamp (show 3 + p < 2 ^ 31 by omega)
  by_cases h1 : 0 < S.2.1 62 (3 + p)
  · by_cases h2 : S.2.1 62 2 = 0
    · by_cases h3 : 0 < sh
      · by_cases h4 : 9 + S.2.1 62 (35 + 6 * m + 3) < coolF k sh (S.2.1 62 (35 + 6 * m + 4)) x + hT x / 3 + S.2.1 62 (3 + p)
        · rw [decide_eq_true h1, decide_eq_true h2, decide_eq_true h3, decide_eq_true h4]
          simp only [ez142_0, ez142_1, ez142_4, ez142_5, ez142_6, ez142_7, ez142_8, ez142_10, ez142_12, ez142_15, ez142_16, ez142_19, ez142_20, ez142_21, ez142_24, ez142_25, ez142_28, ez142_29, ez142_30, ez142_31, ez142_33, ez142_36, ez142_38, ez142_41, ez142_42, ez142_43, ez142_44, ez142_46, ez142_47, ez142_49, ez142_50, ez142_51, ez142_52, ez142_55, ez142_56, ez142_59, ez142_60, ez142_63, ez142_64, Option.bind_some, tl_s, tl_n, bI_eq0, if_true, if_false, not_true, not_false_iff, and_self, Bool.false_eq_true, KL_61, GF_61_0, GI_62, add3, i83, c83, c83_2, cl_2, Int32.not_le.mpr h1, h2, Int32.not_le.mpr h3, co, sp_M_heatOf, z_3, i3, Int32.not_le.mpr h4, nar_1]
          rfl
        · rw [decide_eq_true h1, decide_eq_true h2, decide_eq_true h3, decide_eq_false h4]
          simp only [ez142_0, ez142_1, ez142_4, ez142_5, ez142_6, ez142_7, ez142_8, ez142_10, ez142_12, ez142_15, ez142_16, ez142_19, ez142_20, ez142_21, ez142_24, ez142_25, ez142_28, ez142_29, ez142_30, ez142_31, ez142_33, ez142_36, ez142_38, ez142_41, ez142_42, ez142_43, ez142_44, ez142_46, ez142_47, ez142_49, ez142_50, ez142_51, ez142_52, ez142_55, ez142_56, ez142_59, ez142_60, ez142_63, ez142_64, Option.bind_some, tl_s, tl_n, bI_eq0, if_true, if_false, not_true, not_false_iff, and_self, Bool.false_eq_true, KL_61, GF_61_0, GI_62, add3, i83, c83, c83_2, cl_2, Int32.not_le.mpr h1, h2, Int32.not_le.mpr h3, co, sp_M_heatOf, z_3, i3, Int32.not_lt.mp h4, nar_0]
          rfl
      · rw [decide_eq_true h1, decide_eq_true h2, decide_eq_false h3]
        simp only [ez142_0, ez142_1, ez142_4, ez142_5, ez142_6, ez142_7, ez142_8, ez142_10, ez142_12, ez142_15, ez142_16, ez142_19, ez142_20, ez142_21, ez142_24, ez142_25, ez142_28, ez142_29, ez142_30, ez142_31, ez142_33, ez142_36, ez142_38, ez142_41, ez142_42, ez142_43, ez142_44, ez142_46, ez142_47, ez142_49, ez142_50, ez142_51, ez142_52, ez142_55, ez142_56, ez142_59, ez142_60, ez142_63, ez142_64, Option.bind_some, tl_s, tl_n, bI_eq0, if_true, if_false, not_true, not_false_iff, and_self, Bool.false_eq_true, KL_61, GF_61_0, GI_62, add3, i83, c83, c83_2, cl_2, Int32.not_le.mpr h1, h2, Int32.not_lt.mp h3, nar_0]
        rfl
    · rw [decide_eq_true h1, decide_eq_false h2]
      simp only [ez142_0, ez142_1, ez142_4, ez142_5, ez142_6, ez142_7, ez142_8, ez142_10, ez142_12, ez142_15, ez142_16, ez142_19, ez142_20, ez142_21, ez142_24, ez142_25, ez142_28, ez142_29, ez142_30, ez142_31, ez142_33, ez142_36, ez142_38, ez142_41, ez142_42, ez142_43, ez142_44, ez142_46, ez142_47, ez142_49, ez142_50, ez142_51, ez142_52, ez142_55, ez142_56, ez142_59, ez142_60, ez142_63, ez142_64, Option.bind_some, tl_s, tl_n, bI_eq0, if_true, if_false, not_true, not_false_iff, and_self, Bool.false_eq_true, KL_61, GF_61_0, GI_62, add3, i83, c83, c83_2, cl_2, Int32.not_le.mpr h1, h2, nar_0]
      rfl
  · rw [decide_eq_false h1]
    simp only [ez142_0, ez142_1, ez142_4, ez142_5, ez142_6, ez142_7, ez142_8, ez142_10, ez142_12, ez142_15, ez142_16, ez142_19, ez142_20, ez142_21, ez142_24, ez142_25, ez142_28, ez142_29, ez142_30, ez142_31, ez142_33, ez142_36, ez142_38, ez142_41, ez142_42, ez142_43, ez142_44, ez142_46, ez142_47, ez142_49, ez142_50, ez142_51, ez142_52, ez142_55, ez142_56, ez142_59, ez142_60, ez142_63, ez142_64, Option.bind_some, tl_s, tl_n, bI_eq0, if_true, if_false, not_true, not_false_iff, and_self, Bool.false_eq_true, KL_61, GF_61_0, GI_62, add3, i83, c83, Int32.not_lt.mp h1, nar_0]
    rfl
/-- a carrier of the row: its kind, its place -/
def rC (r : Nat → Int32) (m k p : Nat) : Prop := (k < 6 ∧ r (35 + 6 * m + 0) = nI k) ∧ (p < 16 ∧ r (35 + 6 * m + 1) = nI p)
theorem sp_M_isFoundNow (d : Nat) (S : hs_S) (m k p : Nat) (hm : m < 8) (h : rC (S.2.1 62) m k p) : sx_call (d + 5) 143 [.ref 61, .int (nI m)] (hp S) = some (some (.int (bI (fmB (S.2.1 62 2) (S.2.1 62 (3 + p)) k (S.2.1 62 (35 + 6 * m + 2)) (S.2.1 62 (35 + 6 * m + 3)) (S.2.1 62 (35 + 6 * m + 4)) (S.2.1 62 1) = true))), hp S) := by
  rw [cz143]
  have i1 := sp_M_its1 (d + 2) S m hm
  rw [h.2.2] at i1
  simp only [ez143_0, ez143_1, ez143_2, ez143_3, ez143_4, ez143_5, ez143_8, ez143_9, ez143_10, ez143_11, ez143_14, ez143_15, ez143_18, ez143_19, ez143_20, ez143_23, Option.bind_some, tl_s, tl_n, bI_eq0, if_true, if_false, not_true, not_false_iff, and_self, Bool.false_eq_true, KL_61, i1, sp_M_its2 _ S m hm, GF_61_0, GI_62, c83_1, cl_1, sp_M_isFoundAt d S m k p _ _ hm h.1.1 h.2.1 h.1.2, bI_nar]
theorem sp_M_valueNow (d : Nat) (S : hs_S) (m k p : Nat) (hm : m < 8) (h : rC (S.2.1 62) m k p) : sx_call (d + 4) 144 [.ref 61, .int (nI m)] (hp S) = some (some (.int (worthF k (S.2.1 62 (35 + 6 * m + 2)) (S.2.1 62 (35 + 6 * m + 4)) (S.2.1 62 (19 + p)))), hp S) := by
  rw [cz144]
  have p16 := h.2.1
  have i1 := sp_M_its1 (d + 1) S m hm
  rw [h.2.2] at i1
  simp only [ez144_0, ez144_1, ez144_2, ez144_3, ez144_4, ez144_5, ez144_8, ez144_9, ez144_12, ez144_14, ez144_15, ez144_16, ez144_17, ez144_20, ez144_21, ez144_22, ez144_25, Option.bind_some, tl_s, tl_n, bI_eq0, if_true, if_false, not_true, not_false_iff, and_self, Bool.false_eq_true, KL_61, i1, sp_M_its2 _ S m hm, GF_61_0, GI_62, add19, in_nI (show 19 + p < 83 by omega) (by decide), nI_clamp (show 19 + p < 2 ^ 31 by omega), sp_M_valueOf d S m k _ _ hm h.1.1 h.1.2]
