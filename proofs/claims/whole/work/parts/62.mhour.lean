/-! THE MODEL: an hour; on, found, firstFound, hours -/
theorem jk_uI2 {S T : hs_S} (h : jk S T) (a : Nat) (f : Nat → Int32) : jk (uI S a f) (uI T a f) := by
  refine ⟨h.1, fun b e => ?_, h.2.2⟩
  rw [uI_2, uI_2, h.2.1 b e]
def s1c (r : Nat → Int32) (K : Nat → Nat) (c : Nat) : Int32 := s1P (K c) (r (35 + 6 * c + 4)) (r (35 + 6 * c + 2)) (r 1)
def fnc (r : Nat → Int32) (K P : Nat → Nat) (c : Nat) : Bool := fmB (r 2) (r (3 + P c)) (K c) (s1c r K c) (r (35 + 6 * c + 3)) (r (35 + 6 * c + 4)) (r 1 + 1)
def r1F (r : Nat → Int32) (K : Nat → Nat) (j : Nat) : Nat → Int32 := fun i => if (35 ≤ i ∧ i < 35 + 6 * j) ∧ (i - 35) % 6 = 2 then s1c r K ((i - 35) / 6) else r i
def r2F (r : Nat → Int32) (K P : Nat → Nat) (n j : Nat) : Nat → Int32 := fun i => if i = 1 then r 1 + 1 else if (35 ≤ i ∧ i < 35 + 6 * n) ∧ (i - 35) % 6 = 2 then (if (i - 35) / 6 < j ∧ fnc r K P ((i - 35) / 6) = true then 0 else s1c r K ((i - 35) / 6)) else r i
theorem r1F_0 (r : Nat → Int32) (K : Nat → Nat) : r1F r K 0 = r := funext fun i => if_neg (by omega)
theorem r1F_s (r : Nat → Int32) (K : Nat → Nat) (j : Nat) : upd (r1F r K j) (35 + 6 * j + 2) (s1c r K j) = r1F r K (j + 1) := by
  funext i
  unfold upd r1F
  by_cases h : i = 35 + 6 * j + 2
  · rw [if_pos h, if_pos (by omega), show (i - 35) / 6 = j by omega]
  · rw [if_neg h]
    by_cases h2 : (35 ≤ i ∧ i < 35 + 6 * j) ∧ (i - 35) % 6 = 2
    · rw [if_pos h2, if_pos (by omega)]
    · rw [if_neg h2, if_neg (by omega)]
theorem r1F_off (r : Nat → Int32) (K : Nat → Nat) (j : Nat) {i : Nat} (h : i < 35 ∨ (i - 35) % 6 ≠ 2 ∨ 35 + 6 * j ≤ i) : r1F r K j i = r i := if_neg (by omega)
theorem r2F_0 (r : Nat → Int32) (K P : Nat → Nat) (n : Nat) : upd (r1F r K n) 1 (r 1 + 1) = r2F r K P n 0 := by
  funext i
  unfold upd r1F r2F
  by_cases h : i = 1
  · rw [if_pos h, if_pos h]
  · rw [if_neg h, if_neg h]
    by_cases h2 : (35 ≤ i ∧ i < 35 + 6 * n) ∧ (i - 35) % 6 = 2
    · rw [if_pos h2, if_pos h2, if_neg (by omega)]
    · rw [if_neg h2, if_neg h2]
theorem r2F_off (r : Nat → Int32) (K P : Nat → Nat) (n j : Nat) {i : Nat} (h1 : i ≠ 1) (h : i < 35 ∨ (i - 35) % 6 ≠ 2 ∨ 35 + 6 * n ≤ i) : r2F r K P n j i = r i := by
  unfold r2F
  rw [if_neg h1, if_neg (by omega)]
theorem r2F_1 (r : Nat → Int32) (K P : Nat → Nat) (n j : Nat) : r2F r K P n j 1 = r 1 + 1 := if_pos rfl
theorem r2F_sh (r : Nat → Int32) (K P : Nat → Nat) (n j c : Nat) (hc : c < n) : r2F r K P n j (35 + 6 * c + 2) = if c < j ∧ fnc r K P c = true then 0 else s1c r K c := by
  unfold r2F
  rw [if_neg (by omega), if_pos (by omega), show (35 + 6 * c + 2 - 35) / 6 = c by omega]
theorem r2F_t (r : Nat → Int32) (K P : Nat → Nat) (n j : Nat) (hj : j < n) (h : fnc r K P j = true) : upd (r2F r K P n j) (35 + 6 * j + 2) 0 = r2F r K P n (j + 1) := by
  funext i
  unfold upd r2F
  by_cases e : i = 35 + 6 * j + 2
  · subst e
    rw [if_pos rfl, if_neg (by omega), if_pos (by omega), show (35 + 6 * j + 2 - 35) / 6 = j by omega, if_pos ⟨by omega, h⟩]
  · rw [if_neg e]
    by_cases h1 : i = 1
    · rw [if_pos h1, if_pos h1]
    · rw [if_neg h1, if_neg h1]
      by_cases h2 : (35 ≤ i ∧ i < 35 + 6 * n) ∧ (i - 35) % 6 = 2
      · rw [if_pos h2, if_pos h2]
        by_cases h3 : (i - 35) / 6 < j ∧ fnc r K P ((i - 35) / 6) = true
        · rw [if_pos h3, if_pos ⟨by omega, h3.2⟩]
        · rw [if_neg h3, if_neg (fun z => h3 ⟨by omega, z.2⟩)]
      · rw [if_neg h2, if_neg h2]
theorem r2F_f (r : Nat → Int32) (K P : Nat → Nat) (n j : Nat) (h : ¬ fnc r K P j = true) : r2F r K P n j = r2F r K P n (j + 1) := by
  funext i
  unfold r2F
  by_cases h1 : i = 1
  · rw [if_pos h1, if_pos h1]
  · rw [if_neg h1, if_neg h1]
    by_cases h2 : (35 ≤ i ∧ i < 35 + 6 * n) ∧ (i - 35) % 6 = 2
    · rw [if_pos h2, if_pos h2]
      by_cases h3 : (i - 35) / 6 < j ∧ fnc r K P ((i - 35) / 6) = true
      · rw [if_pos h3, if_pos ⟨by omega, h3.2⟩]
      · rw [if_neg h3, if_neg]
        intro z
        have z2 := z.2
        by_cases e : (i - 35) / 6 = j
        · rw [e] at z2
          exact h z2
        · exact h3 ⟨by omega, z2⟩
    · rw [if_neg h2, if_neg h2]
/-- a row that is good: how many carriers, their kinds and places -/
def rG (r : Nat → Int32) (n : Nat) (K P : Nat → Nat) : Prop := n ≤ 8 ∧ r 0 = nI n ∧ ∀ c, c < n → rC r c (K c) (P c)
theorem rG_2 {r : Nat → Int32} {n : Nat} {K P : Nat → Nat} (h : rG r n K P) : rG (r2F r K P n n) n K P := by
  refine ⟨h.1, ?_, fun c hc => ?_⟩
  · rw [r2F_off r K P n n (by decide) (by omega)]
    exact h.2.1
  · have C := h.2.2 c hc
    refine ⟨⟨C.1.1, ?_⟩, C.2.1, ?_⟩
    · rw [r2F_off r K P n n (by omega) (by omega)]
      exact C.1.2
    · rw [r2F_off r K P n n (by omega) (by omega)]
      exact C.2.2
theorem hour_loop2 (d : Nat) (T : hs_S) (r : Nat → Int32) (n : Nat) (K P : Nat → Nat) (h : rG r n K P) : ∀ m j, j + m = n → sx_run (d + 5) 152 (66, [some (.ref 61), some (.int (nI j))], [], hp (uF (uI T 62 (r2F r K P n j)) 61 6 (orF (fnc r K P) j))) = some (none, hp (uF (uI T 62 (r2F r K P n n)) 61 6 (orF (fnc r K P) n))) := by
  have n8 := h.1
  have row : ∀ f v, (uF (uI T 62 f) 61 6 v).2.1 62 = f := fun f v => uI_at T 62 f
  have f6 : ∀ f v, (uF (uI T 62 f) 61 6 v).1 61 6 = v := fun f v => rfl
  have pr : ∀ f v g, uI (uF (uI T 62 f) 61 6 v) 62 g = uF (uI T 62 g) 61 6 v := fun f v g => by
    show uF (uI (uI T 62 f) 62 g) 61 6 v = _
    rw [uI_uI]
  intro m
  induction m with
  | zero =>
    intro j hj
    have e : j = n := by omega
    subst e
    rw [ez152_66]
    simp only [ez152_67, ez152_68, ez152_71, ez152_72, ez152_73, GF_61_0, GI_62, c83_0, cl_0, Option.bind_some, tl_s, tl_n, bI_eq0, if_true, if_false, not_true, not_false_iff, and_self, Bool.false_eq_true, row, r2F_off r K P j j (i := 0) (by decide) (by omega), h.2.1, if_pos (nI_le (Nat.le_refl j) (show j < 2 ^ 31 by omega)), ez152_113]
  | succ m ih =>
    intro j hj
    have k := ih (j + 1) (by omega)
    have C := h.2.2 j (by omega)
    have fn := sp_M_isFoundNow d (uF (uI T 62 (r2F r K P n j)) 61 6 (orF (fnc r K P) j)) j (K j) (P j) (by omega) (by
      rw [row]
      exact ⟨⟨C.1.1, (r2F_off r K P n j (by omega) (by omega)).trans C.1.2⟩, C.2.1, (r2F_off r K P n j (by omega) (by omega)).trans C.2.2⟩)
    rw [row] at fn
    have e1 : fmB (r2F r K P n j 2) (r2F r K P n j (3 + P j)) (K j) (r2F r K P n j (35 + 6 * j + 2)) (r2F r K P n j (35 + 6 * j + 3)) (r2F r K P n j (35 + 6 * j + 4)) (r2F r K P n j 1) = fnc r K P j := by
      have p16 := C.2.1
      rw [r2F_off r K P n j (i := 2) (by decide) (by omega), r2F_off r K P n j (i := 3 + P j) (by omega) (by omega), r2F_sh r K P n j j (by omega), if_neg (by omega), r2F_off r K P n j (i := 35 + 6 * j + 3) (by omega) (by omega), r2F_off r K P n j (i := 35 + 6 * j + 4) (by omega) (by omega), r2F_1]
      rfl
    have fn2 : sx_call (d + 5) 143 [.ref 61, .int (nI j)] (hp (uF (uI T 62 (r2F r K P n j)) 61 6 (orF (fnc r K P) j))) = some (some (.int (bI (fnc r K P j = true))), hp (uF (uI T 62 (r2F r K P n j)) 61 6 (orF (fnc r K P) j))) := by
      rw [← e1]
      exact fn
    rw [ez152_66]
    simp only [ez152_67, ez152_68, ez152_71, ez152_72, ez152_73, ez152_76, ez152_77, ez152_78, ez152_81, GF_61_0, GI_62, c83_0, cl_0, Option.bind_some, tl_s, tl_n, bI_eq0, if_true, if_false, not_true, not_false_iff, and_self, Bool.false_eq_true, row, r2F_off r K P n j (i := 0) (by decide) (by omega), h.2.1, if_neg (nI_ge (show j < n by omega) (by omega)), KL_61, fn2]
    by_cases hf : fnc r K P j = true
    · rw [← r2F_t r K P n j (by omega) hf, ← orF_t hf] at k
      rw [if_neg (fun z => z hf)]
      simp only [ez152_84, ez152_85, ez152_88, ez152_89, ez152_90, ez152_93, ez152_94, ez152_95, ez152_96, ez152_96i, ez152_97, ez152_100, ez152_101, ez152_102, ez152_103, ez152_104, ez152_107, ez152_110, GF_61_0, GF_61_6, Option.bind_some, tl_s, tl_n, bI_eq0, if_true, if_false, not_true, not_false_iff, and_self, Bool.false_eq_true, sp_M_spot2, PI_62, in_nI (show 35 + 6 * j + 2 < 83 by omega) (by decide), nI_clamp (show 35 + 6 * j + 2 < 2 ^ 31 by omega), row, pr, f6, PF_61_6, uF_uF, nI_1]
      exact k
    · rw [← r2F_f r K P n j hf, ← orF_f hf] at k
      rw [if_pos hf]
      simp only [ez152_107, ez152_110, nI_1]
      exact k
theorem hour_loop1 (d : Nat) (T : hs_S) (r : Nat → Int32) (n : Nat) (K P : Nat → Nat) (h : rG r n K P) (R : Option sx_R) (hR : ∀ l1, sx_run (d + 3) 152 (49, [some (.ref 61), l1], [], hp (uI T 62 (r1F r K n))) = R) : ∀ m j, j + m = n → sx_run (d + 3) 152 (2, [some (.ref 61), some (.int (nI j))], [], hp (uI T 62 (r1F r K j))) = R := by
  have n8 := h.1
  intro m
  induction m with
  | zero =>
    intro j hj
    have e : j = n := by omega
    subst e
    rw [ez152_2]
    simp only [ez152_3, ez152_4, ez152_7, ez152_8, ez152_9, GF_61_0, GI_62, c83_0, cl_0, Option.bind_some, tl_s, tl_n, bI_eq0, if_true, if_false, not_true, not_false_iff, and_self, Bool.false_eq_true, uI_at, r1F_off r K j (i := 0) (by omega), h.2.1, if_pos (nI_le (Nat.le_refl j) (show j < 2 ^ 31 by omega))]
    exact hR _
  | succ m ih =>
    intro j hj
    have C := h.2.2 j (by omega)
    have fa := fun x => sp_M_fadesOf d (uI T 62 (r1F r K j)) j (K j) x (by omega) C.1.1 (by rw [uI_at]; exact (r1F_off r K j (by omega)).trans C.1.2)
    have e1 : mx0 (r1F r K j (35 + 6 * j + 2) - fadeF (K j) (r1F r K j (35 + 6 * j + 4)) (hT (r1F r K j 1))) = s1c r K j := by
      rw [r1F_off r K j (i := 35 + 6 * j + 2) (by omega), r1F_off r K j (i := 35 + 6 * j + 4) (by omega), r1F_off r K j (i := 1) (by omega)]
      rfl
    rw [ez152_2]
    simp only [ez152_3, ez152_4, ez152_7, ez152_8, ez152_9, ez152_12, ez152_13, ez152_16, ez152_17, ez152_18, ez152_21, ez152_22, ez152_23, ez152_24, ez152_27, ez152_28, ez152_29, ez152_30, ez152_33, ez152_34, ez152_35, ez152_38, ez152_39, ez152_42, ez152_43, ez152_46, GF_61_0, GI_62, PI_62, c83_0, cl_0, c83_1, cl_1, Option.bind_some, tl_s, tl_n, bI_eq0, if_true, if_false, not_true, not_false_iff, and_self, Bool.false_eq_true, uI_at, r1F_off r K j (i := 0) (by omega), h.2.1, if_neg (nI_ge (show j < n by omega) (by omega)), KL_61, sp_M_spot2, sp_M_its2 _ _ j (show j < 8 by omega), fa, sp_M_aln, e1, in_nI (show 35 + 6 * j + 2 < 83 by omega) (by decide), nI_clamp (show 35 + 6 * j + 2 < 2 ^ 31 by omega), r1F_s, uI_uI, nI_1]
    exact ih (j + 1) (by omega)
theorem sp_M_hour (d : Nat) (T : hs_S) (n : Nat) (K P : Nat → Nat) (h : rG (T.2.1 62) n K P) : sx_call (d + 6) 152 [.ref 61] (hp T) = some (none, hp (uF (uI T 62 (r2F (T.2.1 62) K P n n)) 61 6 (orF (fnc (T.2.1 62) K P) n))) := by
  rw [cz152]
  have l := hour_loop1 (d + 2) T (T.2.1 62) n K P h (some (none, hp (uF (uI T 62 (r2F (T.2.1 62) K P n n)) 61 6 (orF (fnc (T.2.1 62) K P) n)))) (fun l1 => by
    have l2 := hour_loop2 d T (T.2.1 62) n K P h n 0 (by omega)
    simp only [ez152_49, ez152_50, ez152_53, ez152_54, ez152_55, ez152_56, ez152_57, ez152_58, ez152_59, ez152_60, ez152_61, ez152_64, ez152_65, GF_61_0, GI_62, PI_62, c83_1, cl_1, Option.bind_some, tl_s, tl_n, bI_eq0, if_true, if_false, not_true, not_false_iff, and_self, Bool.false_eq_true, uI_at, uI_uI, r1F_off (T.2.1 62) K n (i := 1) (by omega), r2F_0 (T.2.1 62) K P n, PF_61_6]
    exact l2) n 0 (by omega)
  rw [r1F_0, uI_self] at l
  simp only [ez152_0, ez152_1]
  exact l
/-- the row after j hours -/
def mIt (r : Nat → Int32) (K P : Nat → Nat) (n : Nat) : Nat → Nat → Int32
  | 0 => r
  | j + 1 => r2F (mIt r K P n j) K P n n
theorem mIt_G {r : Nat → Int32} {n : Nat} {K P : Nat → Nat} (h : rG r n K P) : ∀ j, rG (mIt r K P n j) n K P
  | 0 => h
  | j + 1 => rG_2 (mIt_G h j)
theorem mIt_off (r : Nat → Int32) (K P : Nat → Nat) (n : Nat) {i : Nat} (h1 : i ≠ 1) (h : i < 35 ∨ (i - 35) % 6 ≠ 2 ∨ 35 + 6 * n ≤ i) : ∀ j, mIt r K P n j i = r i
  | 0 => rfl
  | j + 1 => (r2F_off _ K P n n h1 h).trans (mIt_off r K P n h1 h j)
/-- the row is w, all else is S but for junk -/
def mJ (S T : hs_S) (w : Nat → Int32) : Prop := T.2.1 62 = w ∧ jk (uI S 62 w) T
theorem mJ_0 (S : hs_S) : mJ S S (S.2.1 62) := ⟨rfl, by rw [uI_self]; exact jk_refl S⟩
theorem mJ_row {S T : hs_S} {w : Nat → Int32} (h : mJ S T w) (v : Nat → Int32) : mJ S (uI T 62 v) v := by
  refine ⟨uI_at T 62 v, ?_⟩
  have := jk_uI2 h.2 62 v
  rw [uI_uI] at this
  exact this
theorem mJ_F {S T : hs_S} {w : Nat → Int32} (h : mJ S T w) {k : Nat} (hk : jF 61 k = true) (v : Int32) : mJ S (uF T 61 k v) w := ⟨h.1, jk_uF h.2 hk v⟩
theorem mJ_I {S T : hs_S} {w : Nat → Int32} (h : mJ S T w) {a : Nat} (ha : jI a = true) (h62 : 62 ≠ a) (f : Nat → Int32) : mJ S (uI T a f) w := ⟨(uI_off T a f h62).trans h.1, jk_uI h.2 ha f⟩
theorem mJ_end {S T : hs_S} (h : mJ S T (S.2.1 62)) : jk S T := by
  have := h.2
  rw [uI_self] at this
  exact this
theorem sp_hourJ (d : Nat) {S T : hs_S} {w : Nat → Int32} {n : Nat} {K P : Nat → Nat} (j : mJ S T w) (h : rG w n K P) : ∃ T', sx_call (d + 6) 152 [.ref 61] (hp T) = some (none, hp T') ∧ mJ S T' (r2F w K P n n) ∧ T'.1 61 6 = orF (fnc w K P) n ∧ T'.2.1 65 = T.2.1 65 := by
  obtain ⟨rfl, j2⟩ := j
  exact ⟨_, sp_M_hour d T n K P h, mJ_F (mJ_row ⟨rfl, j2⟩ _) rfl _, rfl, rfl⟩
theorem hoursGo_loop (d : Nat) (S : hs_S) (r : Nat → Int32) (n q : Nat) (K P : Nat → Nat) (h : rG r n K P) (hq : q ≤ 60) : ∀ m j T, j + m = q → mJ S T (mIt r K P n j) → ∃ T', sx_run (d + 6) 153 (2, [some (.ref 61), some (.int (nI q)), some (.int (nI j))], [], hp T) = some (none, hp T') ∧ mJ S T' (mIt r K P n q) ∧ T'.2.1 65 = T.2.1 65 := by
  intro m
  induction m with
  | zero =>
    intro j T hj g
    have e : j = q := by omega
    subst e
    rw [ez153_2]
    refine ⟨T, ?_, g, rfl⟩
    simp only [ez153_3, ez153_4, if_pos (nI_le (Nat.le_refl j) (show j < 2 ^ 31 by omega)), ez153_17]
  | succ m ih =>
    intro j T hj g
    obtain ⟨T1, c1, g1, -, e1⟩ := sp_hourJ d g (mIt_G h j)
    obtain ⟨T2, c2, g2, e2⟩ := ih (j + 1) T1 (by omega) g1
    rw [ez153_2]
    refine ⟨T2, ?_, g2, e2.trans e1⟩
    simp only [ez153_3, ez153_4, ez153_7, ez153_8, ez153_11, ez153_14, if_neg (nI_ge (show j < q by omega) (by omega)), KL_61, Option.bind_some, tl_s, tl_n, bI_eq0, if_true, if_false, not_true, not_false_iff, and_self, Bool.false_eq_true, c1, nI_1]
    exact c2
theorem sp_M_hoursGo (d : Nat) {S T : hs_S} {r : Nat → Int32} {n q : Nat} {K P : Nat → Nat} (h : rG r n K P) (hq : q ≤ 60) (g : mJ S T r) : ∃ T', sx_call (d + 7) 153 [.ref 61, .int (nI q)] (hp T) = some (none, hp T') ∧ mJ S T' (mIt r K P n q) ∧ T'.2.1 65 = T.2.1 65 := by
  rw [cz153]
  simp only [ez153_0, ez153_1]
  exact hoursGo_loop d S r n q K P h hq q 0 T (by omega) g
theorem n60_of {x : Int32} (h : 0 ≤ x ∧ x ≤ 60) : ∃ q, q ≤ 60 ∧ x = nI q := by
  obtain ⟨m, hm, rfl⟩ := nI_of (Int32.not_lt.mpr h.1)
  exact ⟨m, Nat.le_of_not_lt fun z => nI_ge (a := 60) z (by omega) h.2, rfl⟩
def ml_hours (S : hs_S) (n : Nat) (K P : Nat → Nat) (x : Int32) : Int32 × hs_S :=
  if 1 ≤ x ∧ x ≤ 60 then
    if S.2.1 62 1 + x ≤ 99999 then (smF (fun i => mIt (S.2.1 62) K P n x.toNatClampNeg (35 + 6 * i + 2)) n, uI S 62 (mIt (S.2.1 62) K P n x.toNatClampNeg))
    else (-1000000005, fdM S 4)
  else (-1000000001, fdM S 0)
theorem sp_M_hours (d : Nat) (S : hs_S) (n : Nat) (K P : Nat → Nat) (x : Int32) (h : rG (S.2.1 62) n K P) : cQ (sx_call (d + 8) 155 [.ref 61, .int x] (hp S)) (ml_hours S n K P x) := by
  rw [cz155]
  have f0 := sp_M_finds (d + 6) S 0 (-1000000001) (by decide) (by decide)
  have f4 := sp_M_finds (d + 6) S 4 (-1000000005) (by decide) (by decide)
  unfold ml_hours
  by_cases h1 : 1 ≤ x ∧ x ≤ 60
  · rw [if_pos h1]
    by_cases h3 : S.2.1 62 1 + x ≤ 99999
    · rw [if_pos h3]
      obtain ⟨q, hq, rfl⟩ := n60_of ⟨Int32.le_trans (show (0 : Int32) ≤ 1 by decide) h1.1, h1.2⟩
      rw [nI_clamp (show q < 2 ^ 31 by omega)]
      obtain ⟨T, c, g, -⟩ := sp_M_hoursGo d h hq (mJ_0 S)
      have G := mIt_G h q
      have t := sp_M_together (d + 4) T n 2 h.1 (by decide) (by rw [g.1]; exact G.2.1)
      have t2 : sx_call (d + 7) 154 [.ref 61, .int 2] (hp T) = some (some (.int (smF (fun i => mIt (S.2.1 62) K P n q (35 + 6 * i + 2)) n)), hp T) := by
        rw [← g.1]
        exact t
      refine ⟨T, ?_, g.2⟩
      simp only [ez155_0, ez155_1, ez155_2, ez155_3, ez155_6, ez155_9, ez155_12, ez155_13, ez155_15, ez155_18, ez155_19, ez155_20, ez155_23, ez155_24, ez155_25, ez155_26, ez155_27, ez155_29, ez155_32, ez155_33, ez155_35, ez155_38, ez155_39, ez155_40, ez155_41, ez155_44, ez155_45, ez155_46, ez155_49, sp_M_in, wl_0, wl_1, wl_2, wl_m1, wl_97, wl_48, wu_1, wu_3, wu_4, wu_5, wu_6, wu_9, wu_15, wu_48, wu_57, wu_60, wu_99, wu_122, wu_99999, wu_999999, Option.bind_some, tl_s, tl_n, bI_eq0, if_true, if_false, not_true, not_false_iff, and_self, Bool.false_eq_true, h1, GF_61_0, GI_62, c83_1, cl_1, h3, KL_61, c, t2]
    · rw [if_neg h3]
      refine ⟨_, ?_, jk_refl _⟩
      simp only [ez155_0, ez155_1, ez155_2, ez155_3, ez155_6, ez155_9, ez155_12, ez155_13, ez155_15, ez155_18, ez155_19, ez155_20, ez155_23, ez155_24, ez155_25, ez155_26, ez155_27, ez155_29, ez155_32, ez155_33, ez155_35, ez155_38, sp_M_in, wl_0, wl_1, wl_2, wl_m1, wl_97, wl_48, wu_1, wu_3, wu_4, wu_5, wu_6, wu_9, wu_15, wu_48, wu_57, wu_60, wu_99, wu_122, wu_99999, wu_999999, Option.bind_some, tl_s, tl_n, bI_eq0, if_true, if_false, not_true, not_false_iff, and_self, Bool.false_eq_true, h1, GF_61_0, GI_62, c83_1, cl_1, h3, KL_61, f4]
  · rw [if_neg h1]
    refine ⟨_, ?_, jk_refl _⟩
    simp only [ez155_0, ez155_1, ez155_2, ez155_3, ez155_6, ez155_9, ez155_12, ez155_13, ez155_15, ez155_18, sp_M_in, wl_0, wl_1, wl_2, wl_m1, wl_97, wl_48, wu_1, wu_3, wu_4, wu_5, wu_6, wu_9, wu_15, wu_48, wu_57, wu_60, wu_99, wu_122, wu_99999, wu_999999, Option.bind_some, tl_s, tl_n, bI_eq0, if_true, if_false, not_true, not_false_iff, and_self, Bool.false_eq_true, h1, KL_61, f0]
theorem back_row {r o w : Nat → Int32} (h : ∀ i, 83 ≤ i → w i = r i) : fa_fill (fa_fill r o 83) w 83 = r := by
  funext i
  unfold fa_fill
  by_cases h1 : i < 83
  · rw [if_pos h1, if_pos h1]
  · rw [if_neg h1]
    exact h i (by omega)
theorem mIt_83 {r : Nat → Int32} {K P : Nat → Nat} {n : Nat} (hn : n ≤ 8) (j : Nat) : ∀ i, 83 ≤ i → mIt r K P n j i = r i := fun i hi => mIt_off r K P n (by omega) (Or.inr (Or.inr (by omega))) j
/-- what was laid aside comes back -/
theorem sp_back (d : Nat) {S T : hs_S} {w o : Nat → Int32} (v : Int32) (g : mJ S T w) (h65 : T.2.1 65 = fa_fill (S.2.1 62) o 83) (h83 : ∀ i, 83 ≤ i → w i = S.2.1 62 i) : ∃ T', sx_call (d + 1) 122 [.ref 61, .int v] (hp T) = some (some (.int v), hp T') ∧ jk S T' ∧ T'.1 = T.1 := by
  refine ⟨_, sp_M_takesBack d T v, ?_, rfl⟩
  rw [h65, g.1, back_row h83]
  exact mJ_end (mJ_row g _)
theorem sp_aside (d : Nat) (S : hs_S) : ∃ T, sx_call (d + 1) 121 [.ref 61] (hp S) = some (none, hp T) ∧ mJ S T (S.2.1 62) ∧ T.2.1 65 = fa_fill (S.2.1 62) (S.2.1 65) 83 ∧ T.1 = S.1 :=
  ⟨_, sp_M_laysAside d S, mJ_I (mJ_0 S) rfl (by decide) _, uI_at _ _ _, rfl⟩
def ml_on (S : hs_S) (n : Nat) (K P : Nat → Nat) (c x : Int32) : Int32 × hs_S :=
  if (0 ≤ c ∧ c < nI n) ∧ (0 ≤ x ∧ x ≤ 60) then (mIt (S.2.1 62) K P n x.toNatClampNeg (35 + 6 * c.toNatClampNeg + 2), S) else (-1000000001, fdM S 0)
theorem sp_M_on (d : Nat) (S : hs_S) (n : Nat) (K P : Nat → Nat) (c x : Int32) (h : rG (S.2.1 62) n K P) : cQ (sx_call (d + 8) 159 [.ref 61, .int c, .int x] (hp S)) (ml_on S n K P c x) := by
  rw [cz159]
  have f0 := sp_M_finds (d + 6) S 0 (-1000000001) (by decide) (by decide)
  have isc := sp_M_isCarrier (d + 5) S n c h.1 h.2.1
  have n8 := h.1
  unfold ml_on
  by_cases h1 : 0 ≤ c ∧ c < nI n
  · by_cases h2 : 0 ≤ x ∧ x ≤ 60
    · rw [if_pos ⟨h1, h2⟩]
      obtain ⟨m, hm, rfl⟩ := car_of h.1 h1
      obtain ⟨q, hq, rfl⟩ := n60_of h2
      rw [nI_clamp (show m < 2 ^ 31 by omega), nI_clamp (show q < 2 ^ 31 by omega)]
      obtain ⟨T1, c1, g1, a1, -⟩ := sp_aside (d + 6) S
      obtain ⟨T2, c2, g2, a2⟩ := sp_M_hoursGo d h hq g1
      have it := sp_M_its2 (d + 5) T2 m (by omega)
      rw [g2.1] at it
      obtain ⟨T3, c3, g3, -⟩ := sp_back (d + 6) (mIt (S.2.1 62) K P n q (35 + 6 * m + 2)) g2 (a2.trans a1) (mIt_83 h.1 q)
      refine ⟨T3, ?_, g3⟩
      simp only [ez159_0, ez159_1, ez159_2, ez159_5, ez159_8, ez159_9, ez159_10, ez159_11, ez159_14, ez159_17, ez159_20, ez159_21, ez159_23, ez159_26, ez159_27, ez159_28, ez159_31, ez159_32, ez159_33, ez159_36, ez159_37, ez159_38, ez159_39, ez159_40, ez159_43, ez159_46, isc, sp_M_in, wl_0, wl_1, wl_2, wl_m1, wl_97, wl_48, wu_1, wu_3, wu_4, wu_5, wu_6, wu_9, wu_15, wu_48, wu_57, wu_60, wu_99, wu_122, wu_99999, wu_999999, Option.bind_some, tl_s, tl_n, bI_eq0, if_true, if_false, not_true, not_false_iff, and_self, Bool.false_eq_true, h1, h2, KL_61, c1, c2, it, c3]
    · rw [if_neg (fun z => h2 z.2)]
      refine ⟨_, ?_, jk_refl _⟩
      simp only [ez159_0, ez159_1, ez159_2, ez159_5, ez159_8, ez159_9, ez159_10, ez159_11, ez159_14, ez159_17, ez159_20, ez159_21, ez159_23, ez159_26, isc, sp_M_in, wl_0, wl_1, wl_2, wl_m1, wl_97, wl_48, wu_1, wu_3, wu_4, wu_5, wu_6, wu_9, wu_15, wu_48, wu_57, wu_60, wu_99, wu_122, wu_99999, wu_999999, Option.bind_some, tl_s, tl_n, bI_eq0, if_true, if_false, not_true, not_false_iff, and_self, Bool.false_eq_true, h1, h2, KL_61, f0]
  · rw [if_neg (fun z => h1 z.1)]
    refine ⟨_, ?_, jk_refl _⟩
    simp only [ez159_0, ez159_1, ez159_2, ez159_5, ez159_8, ez159_9, ez159_10, ez159_11, ez159_14, ez159_17, ez159_20, ez159_21, ez159_23, ez159_26, isc, Option.bind_some, tl_s, tl_n, bI_eq0, if_true, if_false, not_true, not_false_iff, and_self, Bool.false_eq_true, h1, KL_61, f0]
/-- the first hour at whose end one of a set is found -/
def fiF (K P : Nat → Nat) (n : Nat) (st : Int32) : Nat → Nat → (Nat → Int32) → Int32 → Nat × Int32
  | 0, j, _, f => (j, f)
  | m + 1, j, w, f => if f &&& st = 0 then fiF K P n st m (j + 1) (r2F w K P n n) (orF (fnc w K P) n) else (j, f)
theorem fiF_le (K P : Nat → Nat) (n : Nat) (st : Int32) : ∀ m j w f, (fiF K P n st m j w f).1 ≤ j + m
  | 0, j, w, f => Nat.le_refl _
  | m + 1, j, w, f => by
    unfold fiF
    by_cases h : f &&& st = 0
    · rw [if_pos h]
      have := fiF_le K P n st m (j + 1) (r2F w K P n n) (orF (fnc w K P) n)
      omega
    · rw [if_neg h]
      show j ≤ j + (m + 1)
      omega
theorem foundIn_loop (d : Nat) (S : hs_S) (n : Nat) (K P : Nat → Nat) (st : Int32) (o : Nat → Int32) (hn : n ≤ 8) : ∀ m j w f T, j + m = 61 → rG w n K P → mJ S T w → T.1 61 6 = f → T.2.1 65 = fa_fill (S.2.1 62) o 83 → (∀ i, 83 ≤ i → w i = S.2.1 62 i) → ∃ T', sx_run (d + 6) 160 (11, [some (.ref 61), some (.int st), some (.int (nI j))], [], hp T) = some (some (.int (nI (fiF K P n st m j w f).1)), hp T') ∧ jk S T' ∧ T'.1 61 6 = (fiF K P n st m j w f).2 := by
  intro m
  induction m with
  | zero =>
    intro j w f T hj h g hf h65 h83
    have e : j = 61 := by omega
    subst e
    obtain ⟨T3, c3, g3, e3⟩ := sp_back (d + 5) (nI 61) g h65 h83
    rw [ez160_11]
    refine ⟨T3, ?_, g3, by rw [e3]; exact hf⟩
    simp only [ez160_12, ez160_14, if_pos (show (60 : Int32) < nI 61 by decide), ez160_36, ez160_37, ez160_38, ez160_41, KL_61, Option.bind_some, tl_s, tl_n, bI_eq0, if_true, if_false, not_true, not_false_iff, and_self, Bool.false_eq_true, c3]
    rfl
  | succ m ih =>
    intro j w f T hj h g hf h65 h83
    have g60 : ¬ (60 : Int32) < nI j := nI_nlt (a := 60) (show j ≤ 60 by omega) (by omega)
    unfold fiF
    rw [ez160_11]
    simp only [ez160_12, ez160_14, ez160_17, ez160_18, ez160_21, ez160_22, if_neg g60, GF_61_6, hf, Option.bind_some, ez160_23]
    by_cases z : f &&& st = 0
    · rw [if_pos z, if_neg (fun y => y z)]
      obtain ⟨T1, c1, g1, f1, e1⟩ := sp_hourJ d g h
      obtain ⟨T2, c2, g2, f2⟩ := ih (j + 1) (r2F w K P n n) (orF (fnc w K P) n) T1 (by omega) (rG_2 h) g1 f1 (e1.trans h65) (fun i hi => (r2F_off w K P n n (by omega) (Or.inr (Or.inr (by omega)))).trans (h83 i hi))
      refine ⟨T2, ?_, g2, f2⟩
      simp only [ez160_26, ez160_27, ez160_30, ez160_33, KL_61, Option.bind_some, tl_s, tl_n, bI_eq0, if_true, if_false, not_true, not_false_iff, and_self, Bool.false_eq_true, c1, nI_1]
      exact c2
    · rw [if_neg z, if_pos z]
      obtain ⟨T3, c3, g3, e3⟩ := sp_back (d + 5) (nI j) g h65 h83
      refine ⟨T3, ?_, g3, by rw [e3]; exact hf⟩
      simp only [ez160_36, ez160_37, ez160_38, ez160_41, KL_61, Option.bind_some, tl_s, tl_n, bI_eq0, if_true, if_false, not_true, not_false_iff, and_self, Bool.false_eq_true, c3]
def fiR (S : hs_S) (n : Nat) (K P : Nat → Nat) (st : Int32) : Nat × Int32 := fiF K P n st 61 0 (S.2.1 62) 0
theorem sp_M_foundIn (d : Nat) (S : hs_S) (n : Nat) (K P : Nat → Nat) (st : Int32) (h : rG (S.2.1 62) n K P) : ∃ T, sx_call (d + 7) 160 [.ref 61, .int st] (hp S) = some (some (.int (nI (fiR S n K P st).1)), hp T) ∧ jk S T ∧ T.1 61 6 = (fiR S n K P st).2 := by
  rw [cz160]
  obtain ⟨T1, c1, g1, a1, -⟩ := sp_aside (d + 5) S
  obtain ⟨T2, c2, g2, f2⟩ := foundIn_loop d S n K P st (S.2.1 65) h.1 61 0 (S.2.1 62) 0 (uF T1 61 6 0) (by omega) h (mJ_F g1 rfl 0) rfl a1 (fun _ _ => rfl)
  refine ⟨T2, ?_, g2, f2⟩
  simp only [ez160_0, ez160_1, ez160_4, ez160_5, ez160_6, ez160_7, ez160_8, KL_61, Option.bind_some, tl_s, tl_n, bI_eq0, if_true, if_false, not_true, not_false_iff, and_self, Bool.false_eq_true, c1, PF_61_6]
  exact c2
def ml_found (S : hs_S) (n : Nat) (K P : Nat → Nat) (c : Int32) : Int32 × hs_S :=
  if 0 ≤ c ∧ c < nI n then
    if (fiR S n K P ((1 : Int32) <<< (c &&& 31))).1 ≤ 60 then (nI (fiR S n K P ((1 : Int32) <<< (c &&& 31))).1, S) else (-1000000004, fdM S 3)
  else (-1000000001, fdM S 0)
theorem jk_fdM {S T : hs_S} (h : jk S T) (w : Nat) : jk (fdM S w) (fdM T w) := by
  refine ⟨h.1, fun b e => ?_, h.2.2⟩
  unfold fdM
  rw [uI_2, uI_2, h.2.1 66 rfl, h.2.1 b e]
theorem sp_M_found (d : Nat) (S : hs_S) (n : Nat) (K P : Nat → Nat) (c : Int32) (h : rG (S.2.1 62) n K P) : cQ (sx_call (d + 8) 161 [.ref 61, .int c] (hp S)) (ml_found S n K P c) := by
  rw [cz161]
  have f := fun T w x hc hw => sp_M_finds (d + 6) T w x hc hw
  have isc := sp_M_isCarrier (d + 5) S n c h.1 h.2.1
  unfold ml_found
  by_cases h1 : 0 ≤ c ∧ c < nI n
  · rw [if_pos h1]
    obtain ⟨T, c1, g1, -⟩ := sp_M_foundIn d S n K P ((1 : Int32) <<< (c &&& 31)) h
    have le : (fiR S n K P ((1 : Int32) <<< (c &&& 31))).1 ≤ 61 := fiF_le K P n _ 61 0 _ _
    generalize fiR S n K P ((1 : Int32) <<< (c &&& 31)) = r at c1 le ⊢
    by_cases h2 : r.1 ≤ 60
    · rw [if_pos h2]
      refine ⟨T, ?_, g1⟩
      simp only [ez161_0, ez161_1, ez161_2, ez161_5, ez161_8, ez161_9, ez161_11, ez161_14, ez161_15, ez161_16, ez161_17, ez161_18, ez161_19, ez161_22, ez161_23, ez161_24, ez161_26, ez161_29, ez161_30, ez161_32, ez161_35, ez161_38, ez161_39, isc, Option.bind_some, tl_s, tl_n, bI_eq0, if_true, if_false, not_true, not_false_iff, and_self, Bool.false_eq_true, h1, KL_61, c1, if_pos (show nI r.1 ≤ 60 from nI_le (b := 60) h2 (by omega))]
    · rw [if_neg h2]
      refine ⟨fdM T 3, ?_, jk_fdM g1 3⟩
      simp only [ez161_0, ez161_1, ez161_2, ez161_5, ez161_8, ez161_9, ez161_11, ez161_14, ez161_15, ez161_16, ez161_17, ez161_18, ez161_19, ez161_22, ez161_23, ez161_24, ez161_26, ez161_29, ez161_30, ez161_32, ez161_35, ez161_38, ez161_39, isc, Option.bind_some, tl_s, tl_n, bI_eq0, if_true, if_false, not_true, not_false_iff, and_self, Bool.false_eq_true, h1, KL_61, c1, if_neg (show ¬ nI r.1 ≤ 60 from nI_ge (a := 60) (show 60 < r.1 by omega) (by omega)), f T 3 (-1000000004) (by decide) (by decide)]
  · rw [if_neg h1]
    refine ⟨_, ?_, jk_refl _⟩
    simp only [ez161_0, ez161_1, ez161_2, ez161_5, ez161_8, ez161_9, ez161_11, ez161_14, isc, Option.bind_some, tl_s, tl_n, bI_eq0, if_true, if_false, not_true, not_false_iff, and_self, Bool.false_eq_true, h1, KL_61, f S 0 (-1000000001) (by decide) (by decide)]
/-- the lowest bit of those below 8 -/
def loF (f : Int32) : Nat → Nat → Nat
  | 0, c => c
  | m + 1, c => if f >>> (nI c &&& 31) &&& 1 = 0 then loF f m (c + 1) else c
theorem lo_loop (d : Nat) (T : hs_S) (f : Int32) (l1 : Option Value) (hf : T.1 61 6 = f) (c0 : Nat) (hc0 : ¬ (f >>> (nI c0 &&& 31) &&& 1 = 0)) : ∀ m c, c + m = c0 + 1 → sx_run d 162 (23, [some (.ref 61), l1, some (.int (nI c))], [], hp T) = some (some (.int (nI (loF f m c))), hp T) ∨ c = c0 + 1 := by
  intro m
  induction m with
  | zero => intro c hc; exact Or.inr (by omega)
  | succ m ih =>
    intro c hc
    left
    unfold loF
    rw [ez162_23]
    simp only [ez162_24, ez162_27, ez162_28, ez162_29, ez162_30, GF_61_6, hf, Option.bind_some, ez162_31]
    by_cases z : f >>> (nI c &&& 31) &&& 1 = 0
    · rw [if_pos z, if_neg (fun y => y z)]
      simp only [ez162_34, ez162_37, nI_1]
      rcases ih (c + 1) (by omega) with r | r
      · exact r
      · have e : c = c0 := by omega
        subst e
        exact absurd z hc0
    · rw [if_neg z, if_pos z]
      simp only [ez162_40, ez162_41]
theorem loF_fuel (f : Int32) (c0 : Nat) (hc0 : ¬ (f >>> (nI c0 &&& 31) &&& 1 = 0)) : ∀ m m' c, c0 < c + m → c0 < c + m' → c ≤ c0 → loF f m c = loF f m' c := by
  intro m
  induction m with
  | zero => intro m' c h1 h2 h3; omega
  | succ m ih =>
    intro m' c h1 h2 h3
    cases m' with
    | zero => omega
    | succ m' =>
      unfold loF
      by_cases z : f >>> (nI c &&& 31) &&& 1 = 0
      · rw [if_pos z, if_pos z]
        by_cases e : c = c0
        · subst e
          exact absurd z hc0
        · exact ih m' (c + 1) (by omega) (by omega) (by omega)
      · rw [if_neg z, if_neg z]
def ml_firstFound (S : hs_S) (n : Nat) (K P : Nat → Nat) : Int32 × hs_S :=
  if (fiR S n K P 255).1 ≤ 60 then (nI (loF (fiR S n K P 255).2 8 0), S) else (-1000000004, fdM S 3)
theorem sp_M_firstFound (d : Nat) (S : hs_S) (n : Nat) (K P : Nat → Nat) (h : rG (S.2.1 62) n K P) (hx : (fiR S n K P 255).1 ≤ 60 → ∃ c0, c0 < 8 ∧ ¬ ((fiR S n K P 255).2 >>> (nI c0 &&& 31) &&& 1 = 0)) : cQ (sx_call (d + 8) 162 [.ref 61] (hp S)) (ml_firstFound S n K P) := by
  rw [cz162]
  have f := fun T w x hc hw => sp_M_finds (d + 6) T w x hc hw
  unfold ml_firstFound
  obtain ⟨T, c1, g1, e1⟩ := sp_M_foundIn d S n K P 255 h
  have le : (fiR S n K P 255).1 ≤ 61 := fiF_le K P n _ 61 0 _ _
  generalize fiR S n K P 255 = r at c1 le hx e1 ⊢
  by_cases h2 : r.1 ≤ 60
  · rw [if_pos h2]
    obtain ⟨c0, hc8, hc0⟩ := hx h2
    refine ⟨T, ?_, g1⟩
    simp only [ez162_0, ez162_1, ez162_4, ez162_7, ez162_8, ez162_9, ez162_11, ez162_14, ez162_15, ez162_17, ez162_20, ez162_21, ez162_22, Option.bind_some, tl_s, tl_n, bI_eq0, if_true, if_false, not_true, not_false_iff, and_self, Bool.false_eq_true, KL_61, c1, if_pos (show nI r.1 ≤ 60 from nI_le (b := 60) h2 (by omega))]
    rcases lo_loop (d + 7) T r.2 (some (.int (nI r.1))) e1 c0 hc0 (c0 + 1) 0 (by omega) with l | l
    · rw [loF_fuel r.2 c0 hc0 (c0 + 1) 8 0 (by omega) (by omega) (by omega)] at l
      exact l
    · omega
  · rw [if_neg h2]
    refine ⟨fdM T 3, ?_, jk_fdM g1 3⟩
    simp only [ez162_0, ez162_1, ez162_4, ez162_7, ez162_8, ez162_9, ez162_11, ez162_14, ez162_15, ez162_17, ez162_20, Option.bind_some, tl_s, tl_n, bI_eq0, if_true, if_false, not_true, not_false_iff, and_self, Bool.false_eq_true, KL_61, c1, if_neg (show ¬ nI r.1 ≤ 60 from nI_ge (a := 60) (show 60 < r.1 by omega) (by omega)), f T 3 (-1000000004) (by decide) (by decide)]
