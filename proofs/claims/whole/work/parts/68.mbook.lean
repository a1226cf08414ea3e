/-! THE MODEL: book, read, count -/
def wbR (S : hs_S) (n : Nat) (s c : Int32) : Int32 := if wsR S s = 0 then (if 0 ≤ c ∧ c < nI n then 0 else -1000000001) else wsR S s
theorem sp_M_wrongBook (d : Nat) (S : hs_S) (n : Nat) (s c : Int32) (hn : n ≤ 8) (hr : S.2.1 62 0 = nI n) : sx_call (d + 4) 200 [.ref 61, .int s, .int c] (hp S) = some (some (.int (wbR S n s c)), hp S) := by
  rw [cz200]
  have ws := sp_M_wrongSheet d S s
  have isc := sp_M_isCarrier (d + 1) S n c hn hr
  unfold wbR
  by_cases h1 : wsR S s = 0
  · rw [if_pos h1]
    by_cases h2 : 0 ≤ c ∧ c < nI n
    · simp only [ez200_0, ez200_1, ez200_2, ez200_5, ez200_6, ez200_7, ez200_10, ez200_11, ez200_14, ez200_15, ez200_16, ez200_19, ez200_22, ez200_23, ez200_26, ez200_28, KL_61, Option.bind_some, tl_s, tl_n, bI_eq0, if_true, if_false, not_true, not_false_iff, and_self, Bool.false_eq_true, ws, h1, isc, h2]
    · simp only [ez200_0, ez200_1, ez200_2, ez200_5, ez200_6, ez200_7, ez200_10, ez200_11, ez200_14, ez200_15, ez200_16, ez200_19, ez200_22, ez200_23, ez200_26, ez200_28, KL_61, Option.bind_some, tl_s, tl_n, bI_eq0, if_true, if_false, not_true, not_false_iff, and_self, Bool.false_eq_true, ws, h1, isc, h2]
  · rw [if_neg h1]
    simp only [ez200_0, ez200_1, ez200_2, ez200_5, ez200_6, ez200_7, ez200_10, ez200_11, ez200_14, ez200_15, ez200_16, ez200_19, ez200_22, ez200_23, ez200_26, ez200_28, KL_61, Option.bind_some, tl_s, tl_n, bI_eq0, if_true, if_false, not_true, not_false_iff, and_self, Bool.false_eq_true, ws, h1]
def bmF (w : Nat → Nat → Int32) (b : Int32) (m s : Nat) (old : Nat → Int64) (i : Nat) : Nat → Int64 := ptL (fun j => lbF b (w j (35 + 6 * m + 2)).toInt64) old (40 * s) i
theorem mJ_uJ {S T : hs_S} {w : Nat → Int32} {a : Nat} {f : Nat → Int64} (h : mJ (uJ S a f) T w) (g : Nat → Int64) : mJ (uJ S a g) (uJ T a g) w := by
  refine ⟨h.1, ?_⟩
  have := jk_uJ2 h.2 a g
  have e : uJ (uI (uJ S a f) 62 w) a g = uI (uJ S a g) 62 w := by
    show uI (uJ (uJ S a f) a g) 62 w = _
    rw [uJ_uJ]
  rw [e] at this
  exact this
theorem mbook_loop (d : Nat) (S : hs_S) (n m s z : Nat) (K P : Nat → Nat) (o : Nat → Int32) (h : rG (S.2.1 62) n K P) (hm : m < n) (hs : s < 4) (hz : z ≤ 40) (ez : S.2.1 69 s = nI z) (l3 : Option Value) : ∀ e i T, i + e = z → mJ (uJ S 70 (bmF (mIt (S.2.1 62) K P n) (S.2.1 68 s) m s (S.2.2.1 70) i)) T (mIt (S.2.1 62) K P n i) → T.2.1 65 = fa_fill (S.2.1 62) o 83 → cQ (sx_run (d + 6) 201 (24, [some (.ref 61), some (.int (nI s)), some (.int (nI m)), l3, some (.int (nI i))], [], hp T)) (nI z, uJ S 70 (bmF (mIt (S.2.1 62) K P n) (S.2.1 68 s) m s (S.2.2.1 70) z)) := by
  have is := in_nI hs (show 4 < 2 ^ 31 by decide)
  have cs := nI_clamp (show s < 2 ^ 31 by omega)
  have n8 := h.1
  intro e
  induction e with
  | zero =>
    intro i T hi g h65
    have ei : i = z := by omega
    subst ei
    have r69 : T.2.1 69 s = nI i := by
      rw [g.2.2.1 69 rfl]
      exact ez
    obtain ⟨T3, c3, g3, -⟩ := sp_back (d + 5) (nI i) g h65 (mIt_83 h.1 i)
    rw [ez201_24]
    refine ⟨T3, ?_, g3⟩
    simp only [ez201_26, ez201_27, ez201_30, ez201_31, ez201_32, GF_61_19, Option.bind_some, tl_s, tl_n, bI_eq0, if_true, if_false, not_true, not_false_iff, and_self, Bool.false_eq_true, GI_69, is, cs, r69, if_pos (nI_le (Nat.le_refl i) (show i < 2 ^ 31 by omega)), ez201_73, ez201_74, ez201_75, ez201_78, ez201_79, ez201_80, ez201_83, KL_61, c3]
  | succ e ih =>
    intro i T hi g h65
    have r69 : T.2.1 69 s = nI z := by
      rw [g.2.2.1 69 rfl]
      exact ez
    have r68 : T.2.1 68 = S.2.1 68 := g.2.2.1 68 rfl
    have r70 : T.2.2.1 70 = bmF (mIt (S.2.1 62) K P n) (S.2.1 68 s) m s (S.2.2.1 70) i := (g.2.2.2.1 70 rfl).trans (uJ_at _ _ _)
    have it := sp_M_its2 (d + 4) T m (by omega)
    rw [g.1] at it
    have up : vp_updL (bmF (mIt (S.2.1 62) K P n) (S.2.1 68 s) m s (S.2.2.1 70) i) (40 * s + i) (lbF (S.2.1 68 s) (mIt (S.2.1 62) K P n i (35 + 6 * m + 2)).toInt64) = bmF (mIt (S.2.1 62) K P n) (S.2.1 68 s) m s (S.2.2.1 70) (i + 1) := ptL_s (fun j => lbF (S.2.1 68 s) (mIt (S.2.1 62) K P n j (35 + 6 * m + 2)).toInt64) _ _ i
    have g2 := mJ_uJ g (bmF (mIt (S.2.1 62) K P n) (S.2.1 68 s) m s (S.2.2.1 70) (i + 1))
    obtain ⟨T1, c1, g1, -, e1⟩ := sp_hourJ d g2 (mIt_G h i)
    have k := ih (i + 1) T1 (by omega) g1 (e1.trans h65)
    rw [ez201_24]
    simp only [ez201_26, ez201_27, ez201_30, ez201_31, ez201_32, ez201_35, ez201_36, ez201_39, ez201_41, ez201_42, ez201_43, ez201_45, ez201_46, ez201_47, ez201_50, ez201_51, ez201_52, ez201_53, ez201_54, ez201_55, ez201_58, ez201_59, ez201_62, ez201_63, ez201_64, ez201_67, ez201_70, GF_61_18, GF_61_19, GF_61_20, Option.bind_some, tl_s, tl_n, bI_eq0, if_true, if_false, not_true, not_false_iff, and_self, Bool.false_eq_true, GI_68, GI_69, is, cs, r68, r69, if_neg (nI_ge (show i < z by omega) (show z < 2 ^ 31 by omega)), mul40, KL_61, it, sp_M_narrowed, PJ_70, in_nI (show 40 * s + i < 160 by omega) (by decide), nI_clamp (show 40 * s + i < 2 ^ 31 by omega), r70, up, c1, nI_1]
    exact k
def ml_book (S : hs_S) (n : Nat) (K P : Nat → Nat) (s c : Int32) : Int32 × hs_S :=
  if 0 ≤ s ∧ s < 4 then
    if S.2.1 68 s.toNatClampNeg = 0 then (-1000000006, fdM S 5)
    else if 0 ≤ c ∧ c < nI n then (S.2.1 69 s.toNatClampNeg, uJ S 70 (bmF (mIt (S.2.1 62) K P n) (S.2.1 68 s.toNatClampNeg) c.toNatClampNeg s.toNatClampNeg (S.2.2.1 70) (S.2.1 69 s.toNatClampNeg).toNatClampNeg))
    else (-1000000001, fdM S 0)
  else (-1000000001, fdM S 0)
theorem sp_M_book (d : Nat) (S : hs_S) (n : Nat) (K P : Nat → Nat) (s c : Int32) (h : rG (S.2.1 62) n K P) (ok : shM S) : cQ (sx_call (d + 7) 201 [.ref 61, .int s, .int c] (hp S)) (ml_book S n K P s c) := by
  rw [cz201]
  have f0 := sp_M_finds (d + 5) S 0 (-1000000001) (by decide) (by decide)
  have f5 := sp_M_finds (d + 5) S 5 (-1000000006) (by decide) (by decide)
  have wb := sp_M_wrongBook (d + 2) S n s c h.1 h.2.1
  have m1 : ¬ ((-1000000001 : Int32) = 0) := by decide
  have m6 : ¬ ((-1000000006 : Int32) = 0) := by decide
  have n8 := h.1
  unfold ml_book
  unfold wbR wsR at wb
  by_cases h1 : 0 ≤ s ∧ s < 4
  · rw [if_pos h1] at wb ⊢
    obtain ⟨q, hq, rfl⟩ := s4_of h1
    rw [nI_clamp (show q < 2 ^ 31 by omega)] at wb ⊢
    obtain ⟨z, hz, ez⟩ := ok q hq
    by_cases h2 : S.2.1 68 q = 0
    · rw [if_pos h2, if_neg m6] at wb
      rw [if_pos h2]
      refine ⟨_, ?_, jk_refl _⟩
      simp only [ez201_0, ez201_1, ez201_2, ez201_3, ez201_6, ez201_7, ez201_8, ez201_11, ez201_12, ez201_13, ez201_16, KL_61, Option.bind_some, tl_s, tl_n, bI_eq0, if_true, if_false, not_true, not_false_iff, and_self, Bool.false_eq_true, wb, m6, f5]
    · rw [if_neg h2, if_pos rfl] at wb
      rw [if_neg h2]
      by_cases h3 : 0 ≤ c ∧ c < nI n
      · rw [if_pos h3] at wb ⊢
        obtain ⟨m, hm, rfl⟩ := car_of h.1 h3
        rw [ez, nI_clamp (show m < 2 ^ 31 by omega), nI_clamp (show z < 2 ^ 31 by omega)]
        obtain ⟨T1, c1, g1, a1, -⟩ := sp_aside (d + 5) S
        have e0 : uJ S 70 (bmF (mIt (S.2.1 62) K P n) (S.2.1 68 q) m q (S.2.2.1 70) 0) = S := by
          have : bmF (mIt (S.2.1 62) K P n) (S.2.1 68 q) m q (S.2.2.1 70) 0 = S.2.2.1 70 := funext fun k => if_neg (by omega)
          rw [this, uJ_self]
        have l := mbook_loop d S n m q z K P (S.2.1 65) h hm hq hz ez (some (.int 0)) z 0 T1 (by omega) (by rw [e0]; exact g1) a1
        simp only [ez201_0, ez201_1, ez201_2, ez201_3, ez201_6, ez201_7, ez201_8, ez201_11, ez201_12, ez201_13, ez201_16, ez201_17, ez201_18, ez201_21, ez201_22, KL_61, Option.bind_some, tl_s, tl_n, bI_eq0, if_true, if_false, not_true, not_false_iff, and_self, Bool.false_eq_true, wb, c1]
        exact l
      · rw [if_neg h3] at wb ⊢
        refine ⟨_, ?_, jk_refl _⟩
        simp only [ez201_0, ez201_1, ez201_2, ez201_3, ez201_6, ez201_7, ez201_8, ez201_11, ez201_12, ez201_13, ez201_16, KL_61, Option.bind_some, tl_s, tl_n, bI_eq0, if_true, if_false, not_true, not_false_iff, and_self, Bool.false_eq_true, wb, m1, f0]
  · rw [if_neg h1, if_neg m1] at wb
    rw [if_neg h1]
    refine ⟨_, ?_, jk_refl _⟩
    simp only [ez201_0, ez201_1, ez201_2, ez201_3, ez201_6, ez201_7, ez201_8, ez201_11, ez201_12, ez201_13, ez201_16, KL_61, Option.bind_some, tl_s, tl_n, bI_eq0, if_true, if_false, not_true, not_false_iff, and_self, Bool.false_eq_true, wb, m1, f0]
def toI (v : Int64) : Int32 := if 0 ≤ v ∧ v ≤ 15 then (1 : Int32) <<< (v.toInt32 &&& 31) else 0
def rmD (w : Nat → Int32) (m k : Nat) (f : Nat → Int64) : Nat → Nat → wT → Int32
  | 0, _, _ => 0
  | e + 1, i, t => if (mgo w m k (anF t.2.2 16 &&& toI (f i)) t).2.2 = 0 then nI (i + 1) else rmD w m k f e (i + 1) (mgo w m k (anF t.2.2 16 &&& toI (f i)) t)
theorem i32_1a (x : Int32) : 1 + x = x + 1 := Int32.add_comm 1 x
theorem mread_loop (d : Nat) (S : hs_S) (m k s z : Nat) (hm : m < 8) (hk : k < 6) (er : S.2.1 62 (35 + 6 * m + 0) = nI k) (hs : s < 4) (hz : z ≤ 40) (ez : S.2.1 69 s = nI z) (l3 : Option Value) : ∀ e i t l5 l7, i + e = z → cQ (sx_run (d + 5) 202 (25, [some (.ref 61), some (.int (nI s)), some (.int (nI m)), l3, some (.int (nI i)), l5, none, l7], [], hp (mwS S t))) (rmD (S.2.1 62) m k (fun k => S.2.2.1 70 (40 * s + k)) e i t, S) := by
  have is := in_nI hs (show 4 < 2 ^ 31 by decide)
  have cs := nI_clamp (show s < 2 ^ 31 by omega)
  have jm : ∀ t, jk S (mwS S t) := fun t => mJ_end (mJ_mw (mJ_0 S) t)
  intro e
  induction e with
  | zero =>
    intro i t l5 l7 hi
    have ei : i = z := by omega
    subst ei
    rw [ez202_25]
    refine ⟨mwS S t, ?_, jm t⟩
    simp only [ez202_27, ez202_28, ez202_31, ez202_32, ez202_33, GF_61_19, Option.bind_some, tl_s, tl_n, bI_eq0, if_true, if_false, not_true, not_false_iff, and_self, Bool.false_eq_true, GI_69, is, cs, mwS_2, ez, if_pos (nI_le (Nat.le_refl i) (show i < 2 ^ 31 by omega)), ez202_107, ez202_108]
    rfl
  | succ e ih =>
    intro i t l5 l7 hi
    have i160 := in_nI (show 40 * s + i < 160 by omega) (by decide)
    have c160 := nI_clamp (show 40 * s + i < 2 ^ 31 by omega)
    have an := sp_M_andNext (d + 3) t.2.2 (hp (mwS S t))
    have go := fun pl => sp_M_goesOn d S m k pl t hm hk er
    have key : ∀ l7, sx_run (d + 5) 202 (71, [some (.ref 61), some (.int (nI s)), some (.int (nI m)), l3, some (.int (nI i)), some (.long (S.2.2.1 70 (40 * s + i))), none, l7], [.int (toI (S.2.2.1 70 (40 * s + i)))], hp (mwS S t)) = if (mgo (S.2.1 62) m k (anF t.2.2 16 &&& toI (S.2.2.1 70 (40 * s + i))) t).2.2 = 0 then some (some (.int (nI (i + 1))), hp (mwS S (mgo (S.2.1 62) m k (anF t.2.2 16 &&& toI (S.2.2.1 70 (40 * s + i))) t))) else sx_run (d + 5) 202 (25, [some (.ref 61), some (.int (nI s)), some (.int (nI m)), l3, some (.int (nI (i + 1))), some (.long (S.2.2.1 70 (40 * s + i))), none, some (.int (toI (S.2.2.1 70 (40 * s + i))))], [], hp (mwS S (mgo (S.2.1 62) m k (anF t.2.2 16 &&& toI (S.2.2.1 70 (40 * s + i))) t))) := by
      intro l7
      by_cases y : (mgo (S.2.1 62) m k (anF t.2.2 16 &&& toI (S.2.2.1 70 (40 * s + i))) t).2.2 = 0
      · simp only [ez202_71, ez202_73, ez202_74, ez202_75, ez202_76, ez202_77, ez202_80, ez202_83, ez202_85, ez202_86, ez202_89, ez202_90, ez202_93, ez202_96, ez202_97, ez202_99, ez202_100, ez202_101, ez202_104, GF_61_7, mwS_re, Option.bind_some, tl_s, tl_n, bI_eq0, if_true, if_false, not_true, not_false_iff, and_self, Bool.false_eq_true, KL_61, an, go, y, i32_1a, nI_1]
      · simp only [ez202_71, ez202_73, ez202_74, ez202_75, ez202_76, ez202_77, ez202_80, ez202_83, ez202_85, ez202_86, ez202_89, ez202_90, ez202_93, ez202_96, ez202_97, ez202_99, ez202_100, ez202_101, ez202_104, GF_61_7, mwS_re, Option.bind_some, tl_s, tl_n, bI_eq0, if_true, if_false, not_true, not_false_iff, and_self, Bool.false_eq_true, KL_61, an, go, y, nI_1]
    have st : sx_run (d + 5) 202 (25, [some (.ref 61), some (.int (nI s)), some (.int (nI m)), l3, some (.int (nI i)), l5, none, l7], [], hp (mwS S t)) = sx_run (d + 5) 202 (71, [some (.ref 61), some (.int (nI s)), some (.int (nI m)), l3, some (.int (nI i)), some (.long (S.2.2.1 70 (40 * s + i))), none, l7], [.int (toI (S.2.2.1 70 (40 * s + i)))], hp (mwS S t)) := by
      rw [ez202_25]
      unfold toI
      by_cases q : 0 ≤ S.2.2.1 70 (40 * s + i) ∧ S.2.2.1 70 (40 * s + i) ≤ 15
      · rw [if_pos q]
        simp only [ez202_27, ez202_28, ez202_31, ez202_32, ez202_33, ez202_36, ez202_37, ez202_40, ez202_42, ez202_43, ez202_44, ez202_46, ez202_47, ez202_48, ez202_50, ez202_52, ez202_53, ez202_56, ez202_59, ez202_62, ez202_63, ez202_65, ez202_66, ez202_67, ez202_70, GF_61_19, GF_61_20, Option.bind_some, tl_s, tl_n, bI_eq0, if_true, if_false, not_true, not_false_iff, and_self, Bool.false_eq_true, GI_69, is, cs, mwS_2, ez, if_neg (nI_ge (show i < z by omega) (show z < 2 ^ 31 by omega)), mul40, GJ_70, i160, c160, sp_M_in, q]
      · rw [if_neg q]
        simp only [ez202_27, ez202_28, ez202_31, ez202_32, ez202_33, ez202_36, ez202_37, ez202_40, ez202_42, ez202_43, ez202_44, ez202_46, ez202_47, ez202_48, ez202_50, ez202_52, ez202_53, ez202_56, ez202_59, ez202_62, ez202_63, ez202_65, ez202_66, ez202_67, ez202_70, GF_61_19, GF_61_20, Option.bind_some, tl_s, tl_n, bI_eq0, if_true, if_false, not_true, not_false_iff, and_self, Bool.false_eq_true, GI_69, is, cs, mwS_2, ez, if_neg (nI_ge (show i < z by omega) (show z < 2 ^ 31 by omega)), mul40, GJ_70, i160, c160, sp_M_in, q]
    rw [st, key]
    unfold rmD
    by_cases y : (mgo (S.2.1 62) m k (anF t.2.2 16 &&& toI (S.2.2.1 70 (40 * s + i))) t).2.2 = 0
    · rw [if_pos y, if_pos y]
      exact ⟨_, rfl, jm _⟩
    · rw [if_neg y, if_neg y]
      exact ih (i + 1) _ _ _ (by omega)
def ml_read (S : hs_S) (n : Nat) (K : Nat → Nat) (s c : Int32) : Int32 × hs_S :=
  if 0 ≤ s ∧ s < 4 then
    if S.2.1 68 s.toNatClampNeg = 0 then (-1000000006, fdM S 5)
    else if 0 ≤ c ∧ c < nI n then (rmD (S.2.1 62) c.toNatClampNeg (K c.toNatClampNeg) (fun k => S.2.2.1 70 (40 * s.toNatClampNeg + k)) (S.2.1 69 s.toNatClampNeg).toNatClampNeg 0 (wmt (S.2.1 62) c.toNatClampNeg), S)
    else (-1000000001, fdM S 0)
  else (-1000000001, fdM S 0)
theorem sp_M_read (d : Nat) (S : hs_S) (n : Nat) (K P : Nat → Nat) (s c : Int32) (h : rG (S.2.1 62) n K P) (ok : shM S) : cQ (sx_call (d + 6) 202 [.ref 61, .int s, .int c] (hp S)) (ml_read S n K s c) := by
  rw [cz202]
  have f0 := sp_M_finds (d + 4) S 0 (-1000000001) (by decide) (by decide)
  have f5 := sp_M_finds (d + 4) S 5 (-1000000006) (by decide) (by decide)
  have wb := sp_M_wrongBook (d + 1) S n s c h.1 h.2.1
  have m1 : ¬ ((-1000000001 : Int32) = 0) := by decide
  have m6 : ¬ ((-1000000006 : Int32) = 0) := by decide
  have n8 := h.1
  unfold ml_read
  unfold wbR wsR at wb
  by_cases h1 : 0 ≤ s ∧ s < 4
  · rw [if_pos h1] at wb ⊢
    obtain ⟨q, hq, rfl⟩ := s4_of h1
    rw [nI_clamp (show q < 2 ^ 31 by omega)] at wb ⊢
    obtain ⟨z, hz, ez⟩ := ok q hq
    by_cases h2 : S.2.1 68 q = 0
    · rw [if_pos h2, if_neg m6] at wb
      rw [if_pos h2]
      refine ⟨_, ?_, jk_refl _⟩
      simp only [ez202_0, ez202_1, ez202_2, ez202_3, ez202_6, ez202_7, ez202_8, ez202_11, ez202_12, ez202_13, ez202_16, KL_61, Option.bind_some, tl_s, tl_n, bI_eq0, if_true, if_false, not_true, not_false_iff, and_self, Bool.false_eq_true, wb, m6, f5]
    · rw [if_neg h2, if_pos rfl] at wb
      rw [if_neg h2]
      by_cases h3 : 0 ≤ c ∧ c < nI n
      · rw [if_pos h3] at wb ⊢
        obtain ⟨m, hm, rfl⟩ := car_of h.1 h3
        have C := h.2.2 m hm
        rw [ez, nI_clamp (show m < 2 ^ 31 by omega), nI_clamp (show z < 2 ^ 31 by omega)]
        have b := sp_M_begins (d + 2) S m (by omega)
        have l := mread_loop d S m (K m) q z (by omega) C.1.1 C.1.2 hq hz ez (some (.int 0)) z 0 (wmt (S.2.1 62) m) none none (by omega)
        simp only [ez202_0, ez202_1, ez202_2, ez202_3, ez202_6, ez202_7, ez202_8, ez202_11, ez202_12, ez202_13, ez202_16, ez202_17, ez202_18, ez202_19, ez202_22, ez202_23, KL_61, Option.bind_some, tl_s, tl_n, bI_eq0, if_true, if_false, not_true, not_false_iff, and_self, Bool.false_eq_true, wb, b]
        exact l
      · rw [if_neg h3] at wb ⊢
        refine ⟨_, ?_, jk_refl _⟩
        simp only [ez202_0, ez202_1, ez202_2, ez202_3, ez202_6, ez202_7, ez202_8, ez202_11, ez202_12, ez202_13, ez202_16, KL_61, Option.bind_some, tl_s, tl_n, bI_eq0, if_true, if_false, not_true, not_false_iff, and_self, Bool.false_eq_true, wb, m1, f0]
  · rw [if_neg h1, if_neg m1] at wb
    rw [if_neg h1]
    refine ⟨_, ?_, jk_refl _⟩
    simp only [ez202_0, ez202_1, ez202_2, ez202_3, ez202_6, ez202_7, ez202_8, ez202_11, ez202_12, ez202_13, ez202_16, KL_61, Option.bind_some, tl_s, tl_n, bI_eq0, if_true, if_false, not_true, not_false_iff, and_self, Bool.false_eq_true, wb, m1, f0]
def ml_count (S : hs_S) (k : Nat) (w : Int32) : Int32 × hs_S :=
  if w = 0 then (S.2.1 62 0, S) else if w = 1 then (S.1 61 13, S) else if w = 2 then (nI (onF 65536 k 0), S) else if w = 3 then (smF (fun i => S.2.1 62 (19 + i)) 16, S) else (-1000000001, fdM S 0)
theorem sp_M_count (d : Nat) (S : hs_S) (k : Nat) (w : Int32) (hk : k < 65536) (ek : orF (fun i => decide (0 < S.2.1 62 (3 + i))) 16 = nI k) : sx_call (d + 2) 208 [.ref 61, .int w] (hp S) = o1 (ml_count S k w) := by
  rw [cz208]
  have f0 := sp_M_finds d S 0 (-1000000001) (by decide) (by decide)
  have po := sp_M_posted d S
  rw [ek] at po
  unfold ml_count o1
  by_cases h0 : w = 0
  · subst h0
    simp [ez208_0, ez208_1, ez208_32, ez208_33, ez208_36, ez208_37, ez208_38, ez208_39, ez208_40, ez208_43, ez208_44, ez208_45, ez208_48, ez208_51, ez208_52, ez208_53, ez208_56, ez208_57, ez208_58, ez208_60, ez208_63, GF_61_0, GI_62, c83_0, cl_0]
  · by_cases h1 : w = 1
    · subst h1
      simp [ez208_0, ez208_1, ez208_32, ez208_33, ez208_36, ez208_37, ez208_38, ez208_39, ez208_40, ez208_43, ez208_44, ez208_45, ez208_48, ez208_51, ez208_52, ez208_53, ez208_56, ez208_57, ez208_58, ez208_60, ez208_63, GF_61_13]
    · by_cases h2 : w = 2
      · subst h2
        simp only [ez208_0, ez208_1, ez208_32, ez208_33, ez208_36, ez208_37, ez208_38, ez208_39, ez208_40, ez208_43, ez208_44, ez208_45, ez208_48, ez208_51, ez208_52, ez208_53, ez208_56, ez208_57, ez208_58, ez208_60, ez208_63, if_neg (show ¬ ((2 : Int32) = 0) by decide), if_neg (show ¬ ((2 : Int32) = 1) by decide), if_true, KL_61, Option.bind_some, tl_s, tl_n, bI_eq0, if_true, if_false, not_true, not_false_iff, and_self, Bool.false_eq_true, po, sp_M_ones d k _ hk]
      · by_cases h3 : w = 3
        · subst h3
          simp [ez208_0, ez208_1, ez208_32, ez208_33, ez208_36, ez208_37, ez208_38, ez208_39, ez208_40, ez208_43, ez208_44, ez208_45, ez208_48, ez208_51, ez208_52, ez208_53, ez208_56, ez208_57, ez208_58, ez208_60, ez208_63, KL_61, tl_s, sp_M_prices d S]
        · simp [ez208_0, ez208_1, ez208_32, ez208_33, ez208_36, ez208_37, ez208_38, ez208_39, ez208_40, ez208_43, ez208_44, ez208_45, ez208_48, ez208_51, ez208_52, ez208_53, ez208_56, ez208_57, ez208_58, ez208_60, ez208_63, h0, h1, h2, h3, tl_s, f0, KL_61]
