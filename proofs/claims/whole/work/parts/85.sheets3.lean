/-! THE STEPS: land; sheet, write, copy, lays, book -/
theorem jF_35 {b k : Nat} (h : 35 ≤ b ∧ b < 47) : jF b k = true := by
  unfold jF
  rw [decide_eq_true h.1, decide_eq_true h.2]
  simp
theorem jK_35 {b : Nat} (h : 35 ≤ b ∧ b < 47) : jK b = true := by
  unfold jK
  rw [decide_eq_true h.1, decide_eq_true h.2]
  simp
theorem jk_cp35 {S : hs_S} {n : Nat} (hn : n ≤ 8) : jk S (cpL S 35 11 n) := by
  refine ⟨fun b k e => ?_, fun b e => ?_, fun b e => rfl, fun b e => ?_⟩
  · have z : ¬ (35 ≤ b ∧ b < 47) := fun z => by
      rw [jF_35 z] at e
      cases e
    exact cpL_oF S 35 11 n (by omega) (by omega)
  · refine cpL_oI S 35 11 n (fun z => ?_) (fun z => ?_)
    · subst z
      exact absurd e (by decide)
    · subst z
      exact absurd e (by decide)
  · have z : ¬ (35 ≤ b ∧ b < 47) := fun z => by
      rw [jK_35 z] at e
      cases e
    exact cpL_oK S 35 11 n (by omega)
theorem jo_uF2 {S T : hs_S} (h : jo S T) (a k : Nat) (v : Int32) : jo (uF S a k v) (uF T a k v) := by
  refine ⟨fun b j e => ?_, h.2⟩
  rw [uF_1, uF_1, h.1 b j e]
theorem st_land (S : hs_S) (n : Nat) (h : Rel S n) : stp S 93 [.ref 1] 192 [.ref 61] := by
  obtain ⟨H, hH, o⟩ := Rel_ok h
  have n8 := r_n8 h
  obtain ⟨⟨L, hL, ta, tb⟩, tt⟩ := h.2.2.2.1
  have jD : jk S (cpL S 35 11 n) := jk_cp35 n8
  have lD : LL (cpL S 35 11 n) 35 n (S.2.1 62) := LL_copy (by omega) h.1
  have bD : (cpL S 35 11 n).2.1 52 = S.2.1 67 := (jD.2.1 52 rfl).trans tt
  have ok0 := tkQ_ok ((cpL S 35 11 n).2.1 52) L 0 ((cpL S 35 11 n).1 51 5) (Nat.zero_le L)
  have ti := teF_in (S0 := cpL S 35 11 n) (L := L) 120 1 (cpL S 35 11 n) (tkQ ((cpL S 35 11 n).2.1 52) L 0 ((cpL S 35 11 n).1 51 5)) ⟨jk_refl _, (jD.1 51 1 rfl).trans ta, rfl, ⟨n, n8, lD.1.2.1⟩, ok0.2⟩
  have jx : jk S (teR (cpL S 35 11 n) L).2.1 := jk_trans jD ti.1
  obtain ⟨q8, hq8, eq8⟩ := ti.2.2.2.1
  have eq8 : (teR (cpL S 35 11 n) L).2.1.1 35 3 = nI q8 := eq8
  refine stp_mk (cQ_1 (sp_SC_land 1 S L n H o hL ta)) (fun T g => ?_)
  have sl := fun (e13 : T.1 61 13 = nI L) (e67 : T.2.1 67 = S.2.1 67) (e62 : T.2.1 62 = S.2.1 62) => s_land 2 T (cpL S 35 11 n) L n hL e13 (bD.trans e67.symm) (by rw [e62]; exact lD)
  unfold cl_land at g ⊢
  generalize teR (cpL S 35 11 n) L = x at g sl jx eq8 ⊢
  have jU : jk (uF S 51 1 0) (uF (stT x.2.1 x.2.2) 51 1 0) := jk_uF2 (jk_stT jx x.2.2) 51 1 0
  by_cases z : x.1 ≤ 0
  · rw [if_pos z] at g ⊢
    obtain ⟨T', c, lf⟩ := sl ((g.1 61 13 rfl).trans ((jx.1 61 13 rfl).trans tb)) ((g.2.1 67 rfl).trans (jx.2.1 67 rfl)) ((g.2.1 62 rfl).trans (jx.2.1 62 rfl))
    rcases lf with ⟨j, j1, j2, ej, -⟩ | ⟨-, g2⟩
    · exfalso
      rw [ej] at z
      exact nI_ge (a := 0) (show 0 < j by omega) (by omega) z
    · refine ⟨(x.1, T'), ⟨T', c, jk_refl _⟩, rfl, n, Rel_jk (Rel_jk (Rel_len (L := 0) h (by omega)) ?_) g2⟩
      exact jk_uF2 (jk_uI (jk_trans jU g) rfl _) 61 13 0
  · rw [if_neg z, eq8, nI_clamp (show q8 < 2 ^ 31 by omega)] at g ⊢
    have eI : ∀ b, b ≠ 12 → b ≠ 13 → jI b = false → T.2.1 b = S.2.1 b := fun b h1 h2 h3 => (g.2.1 b h3).trans ((cpL_oI _ 11 35 q8 h1 h2).trans (jx.2.1 b h3))
    obtain ⟨T', c, lf⟩ := sl ((g.1 61 13 rfl).trans ((cpL_oF _ 11 35 q8 (by omega) (by omega)).trans ((jx.1 61 13 rfl).trans tb))) (eI 67 (by omega) (by omega) rfl) (eI 62 (by omega) (by omega) rfl)
    rcases lf with ⟨j, j1, j2, ej, n', w', lx, g2⟩ | ⟨⟨s, hs, es⟩, -⟩
    · have en : q8 = n' := by
        have a := lx.1.2.1
        have b := lx.1.1
        rw [eq8] at a
        exact (nI_eq (by omega) (by omega)).mp a
      subst en
      have lU : LL (uF (stT x.2.1 x.2.2) 51 1 0) 35 q8 w' := LL_same lx (lSame_tr (lSame_tr (lSame_tr (lSame_tr (lSame_uF _ _ hq8 (by omega)) (lSame_uF _ _ hq8 (by omega))) (lSame_uF _ _ hq8 (by omega))) (lSame_uF _ _ hq8 (by omega))) (lSame_uF _ _ hq8 (by omega)))
      have lC : LL (cpL (uF (stT x.2.1 x.2.2) 51 1 0) 11 35 q8) 11 q8 w' := LL_copy (by omega) lU
      have lT : LL T 11 q8 w' := LL_same lC (lSame_11 hq8 g)
      have j0 : jo (uF S 51 1 0) T := jo_trans (jo_trans (jo_jk jU) (jo_cpL hq8)) (jo_jk g)
      have j3 : jo (uF (uF S 51 1 0) 61 13 0) (uF (uI (uI T 64 (fa_fill (T.2.1 62) (T.2.1 64) 83)) 62 w') 61 13 0) := jo_uF2 (jo_uI (jo_uI j0 rfl _) rfl _) 61 13 0
      have l3 : LL (uF (uI (uI T 64 (fa_fill (T.2.1 62) (T.2.1 64) 83)) 62 w') 61 13 0) 11 q8 w' := LL_same lT (lSame_tr (lSame_tr (lSame_uI _ _ (by omega)) (lSame_uI _ _ (by omega))) (lSame_uF _ _ hq8 (by omega)))
      exact ⟨(x.1, T'), ⟨T', c, jk_refl _⟩, rfl, q8, Rel_jk (Rel_jo (Rel_len (L := 0) h (by omega)) j3 l3) g2⟩
    · exfalso
      refine z ?_
      rw [es, fa_le, fb_subI (by rw [im1, nI_toInt (show s < 2 ^ 31 by omega)]; omega) (by rw [im1, nI_toInt (show s < 2 ^ 31 by omega)]; omega), im1, nI_toInt (show s < 2 ^ 31 by omega)]
      have i0 : (0 : Int32).toInt = 0 := by decide
      rw [i0]
      omega
/-- the sheets anew, all else as it was -/
theorem Rel_sh {S U : hs_S} {n : Nat} (h : Rel S n) (e1 : ∀ b k, (b < 53 ∨ 61 ≤ b) → U.1 b k = S.1 b k) (e2 : ∀ b, b ≠ 68 → b ≠ 69 → U.2.1 b = S.2.1 b) (e4 : U.2.2.2 = S.2.2.2) (s : sRel U) : Rel U n := by
  have n8 := r_n8 h
  have ls : ∀ a q, q ≤ 8 → a = 11 ∨ a = 23 → lSame S U a q := fun a q hq ha =>
    ⟨fun k _ _ => e1 a k (by omega), fun p _ => by rw [e2 _ (by omega) (by omega)], fun p _ => by rw [e2 _ (by omega) (by omega)], fun c hc => ⟨by rw [e4], fun k _ _ => e1 _ k (by omega)⟩⟩
  obtain ⟨⟨L, hL, ta, tb⟩, tt⟩ := h.2.2.2.1
  refine ⟨?_, kRel_same h.2.1 (e1 61 5 (by omega)) (e1 1 4 (by omega)) (e2 63 (by omega) (by omega)) (fun q hq => ls 23 q hq (Or.inr rfl)), ?_, ⟨⟨L, hL, (e1 51 1 (by omega)).trans ta, (e1 61 13 (by omega)).trans tb⟩, ?_⟩, s⟩
  · rw [e2 62 (by omega) (by omega)]
    exact LL_same h.1 (ls 11 n n8 (Or.inl rfl))
  · rw [e2 4 (by omega) (by omega), e2 66 (by omega) (by omega)]
    exact h.2.2.1
  · rw [e2 52 (by omega) (by omega), e2 67 (by omega) (by omega)]
    exact tt
theorem s_b {S : hs_S} {n q : Nat} (h : Rel S n) (hq : q < 4) : S.2.1 68 q = S.1 (53 + 2 * q) 1 := (h.2.2.2.2 q hq).1
theorem s_z {S : hs_S} {n q : Nat} (h : Rel S n) (hq : q < 4) : ∃ z, z ≤ 40 ∧ S.1 (53 + 2 * q) 2 = nI z ∧ S.2.1 69 q = nI z := (h.2.2.2.2 q hq).2.1
theorem s_v {S : hs_S} {n q i : Nat} (h : Rel S n) (hq : q < 4) (hi : i < 40) : S.2.2.1 70 (40 * q + i) = S.2.2.1 (54 + 2 * q) i := (h.2.2.2.2 q hq).2.2 i hi
theorem Rel_lo {S : hs_S} {n q zz : Nat} (h : Rel S n) (hq : q < 4) (hz : zz ≤ 40) (b : Int32) : Rel (loM (loS S q b (nI zz)) q b (nI zz)) n := by
  have f1 : ∀ x k, (loM (loS S q b (nI zz)) q b (nI zz)).1 x k = (uF (uF S (53 + 2 * q) 1 b) (53 + 2 * q) 2 (nI zz)).1 x k := fun _ _ => rfl
  have f68 : (loM (loS S q b (nI zz)) q b (nI zz)).2.1 68 = upd (S.2.1 68) q b := rfl
  have f69 : (loM (loS S q b (nI zz)) q b (nI zz)).2.1 69 = upd (S.2.1 69) q (nI zz) := rfl
  have g70 : (loS S q b (nI zz)).2.2.1 70 = S.2.2.1 70 := by
    show (uJ _ (54 + 2 * q) _).2.2.1 70 = _
    rw [uJ_3, if_neg (by omega)]
    rfl
  have f70 : (loM (loS S q b (nI zz)) q b (nI zz)).2.2.1 70 = zrL (S.2.2.1 70) q 40 := by
    rw [← g70]
    exact uJ_at _ _ _
  have fv : ∀ s, s < 4 → (loM (loS S q b (nI zz)) q b (nI zz)).2.2.1 (54 + 2 * s) = if s = q then fa_fill (fun _ => 0) (S.2.2.1 (54 + 2 * q)) 40 else S.2.2.1 (54 + 2 * s) := by
    intro s hs
    show (uJ _ 70 _).2.2.1 (54 + 2 * s) = _
    rw [uJ_3, if_neg (by omega)]
    show (uJ (uF (uF S (53 + 2 * q) 1 b) (53 + 2 * q) 2 (nI zz)) (54 + 2 * q) _).2.2.1 (54 + 2 * s) = _
    rw [uJ_3]
    by_cases e : s = q
    · rw [if_pos (by omega), if_pos e]
    · rw [if_neg (by omega), if_neg e]
      rfl
  refine Rel_sh h (fun x k hx => ?_) (fun x h1 h2 => ?_) rfl (fun s hs => ?_)
  · rw [f1, uF_off _ _ _ _ (Or.inl (by omega)), uF_off _ _ _ _ (Or.inl (by omega))]
  · show (uI (uI (loS S q b (nI zz)) 68 _) 69 _).2.1 x = _
    rw [uI_off _ _ _ h2, uI_off _ _ _ h1]
    rfl
  · rw [f68, f69, f70, fv s hs, f1, f1]
    by_cases e : s = q
    · subst e
      refine ⟨?_, ⟨zz, hz, uF_at _ _ _ _, upd_at _ _ _⟩, fun i hi => ?_⟩
      · rw [upd_at, uF_off _ _ _ _ (Or.inr (by decide)), uF_at]
      · rw [if_pos rfl, fa_fill_in hi]
        exact if_pos (by omega)
    · obtain ⟨a, ⟨z, hz2, b1, b2⟩, v⟩ := h.2.2.2.2 s hs
      refine ⟨?_, ⟨z, hz2, ?_, ?_⟩, fun i hi => ?_⟩
      · rw [upd_ne _ _ e, uF_off _ _ _ _ (Or.inl (by omega)), uF_off _ _ _ _ (Or.inl (by omega))]
        exact a
      · rw [uF_off _ _ _ _ (Or.inl (by omega)), uF_off _ _ _ _ (Or.inl (by omega))]
        exact b1
      · rw [upd_ne _ _ e]
        exact b2
      · rw [if_neg e]
        unfold zrL
        rw [if_neg (by omega)]
        exact v i hi
theorem jk_loM {A T : hs_S} (g : jk A T) (q : Nat) (b z : Int32) : jk (loM A q b z) (loM T q b z) := by
  unfold loM
  rw [g.2.1 68 rfl, g.2.1 69 rfl, g.2.2.1 70 rfl]
  exact jk_uJ2 (jk_uI2 (jk_uI2 g _ _) _ _) _ _
theorem st_sheet (S : hs_S) (n : Nat) (h : Rel S n) (s b y : Int32) : stp S 94 [.ref 1, .int s, .int b, .int y] 194 [.ref 61, .int s, .int b, .int y] := by
  refine stp_mk (cQ_1 (sp_SC_sheet 8 S s b y)) (fun T g => ?_)
  have c := cQ_1 (sp_M_sheet 8 T s b y)
  unfold cl_sheet at g ⊢
  unfold ml_sheet at c
  by_cases h1 : (0 ≤ s ∧ s < 4) ∧ (b = 0 ∨ b = 8 ∨ b = 16 ∨ b = 64)
  · rw [if_pos h1] at g c ⊢
    obtain ⟨q, hq, rfl⟩ := s4_of h1.1
    rw [nI_clamp (show q < 2 ^ 31 by omega)] at g c ⊢
    by_cases h2 : 0 ≤ y
    · rw [if_pos h2] at g c ⊢
      by_cases h3 : y ≤ 40
      · rw [if_pos h3] at g c ⊢
        have ez : ∃ zz, zz ≤ 40 ∧ (if b = 0 then 0 else y) = nI zz := by
          by_cases b0 : b = 0
          · rw [if_pos b0]
            exact ⟨0, by omega, rfl⟩
          · rw [if_neg b0]
            exact v9_of (m := 40) (by omega) ⟨h2, h3⟩
        obtain ⟨zz, hz, ez⟩ := ez
        rw [ez] at g c ⊢
        exact ⟨_, c, rfl, n, Rel_jk (Rel_lo h hq hz b) (jk_loM g q b (nI zz))⟩
      · rw [if_neg h3] at g c ⊢
        exact end_f h g c rfl
    · rw [if_neg h2] at g c ⊢
      exact end_f h g c rfl
  · rw [if_neg h1] at g c ⊢
    exact end_f h g c rfl
theorem Rel_J {S : hs_S} {n q : Nat} {f g : Nat → Int64} (h : Rel S n) (hq : q < 4) (H : ∀ s, s < 4 → ∀ i, i < 40 → g (40 * s + i) = if s = q then f i else S.2.2.1 (54 + 2 * s) i) : Rel (uJ (uJ S (54 + 2 * q) f) 70 g) n := by
  refine Rel_sh h (fun _ _ _ => rfl) (fun _ _ _ => rfl) rfl (fun s hs => ?_)
  obtain ⟨a, b, v⟩ := h.2.2.2.2 s hs
  refine ⟨a, b, fun i hi => ?_⟩
  rw [uJ_at, H s hs i hi, uJ_3, if_neg (show ¬ 54 + 2 * s = 70 by omega), uJ_3]
  by_cases e : s = q
  · rw [if_pos e, if_pos (by omega)]
  · rw [if_neg e, if_neg (by omega)]
theorem J_70 (S : hs_S) {q : Nat} (hq : q < 4) (f : Nat → Int64) : (uJ S (54 + 2 * q) f).2.2.1 70 = S.2.2.1 70 := by rw [uJ_3, if_neg (by omega)]
/-- a step that answers a long -/
def stpJ (S : hs_S) (k1 : Nat) (a1 : List Value) (k2 : Nat) (a2 : List Value) : Prop := ∃ v T1 T2 n', sx_call 11 k1 a1 (hp S) = some (some (.long v), hp T1) ∧ sx_call 11 k2 a2 (hp T1) = some (some (.long v), hp T2) ∧ Rel T2 n'
theorem stp_mkJ {S : hs_S} {k1 k2 : Nat} {a1 a2 : List Value} {r s : Int64 × hs_S} {n' : Nat} (c : sx_call 11 k1 a1 (hp S) = oJ r) (m : sx_call 11 k2 a2 (hp r.2) = oJ s) (e : s.1 = r.1) (R : Rel s.2 n') : stpJ S k1 a1 k2 a2 :=
  ⟨r.1, r.2, s.2, n', c, by rw [m, ← e]; rfl, R⟩
theorem st_write (S : hs_S) (n : Nat) (h : Rel S n) (s i : Int32) (v : Int64) : stpJ S 95 [.ref 1, .int s, .int i, .long v] 197 [.ref 61, .int s, .int i, .long v] := by
  have c := sp_SC_write 9 S s i v (Rel_shO h)
  have m := fun T (e : T.2.1 69 = S.2.1 69) => sp_M_write 7 T s i v (fun s hs => by rw [e]; exact Rel_shM h s hs)
  unfold cl_write at c
  unfold ml_write at m
  by_cases h1 : 0 ≤ s ∧ s < 4
  · rw [if_pos h1] at c
    simp only [if_pos h1] at m
    obtain ⟨q, hq, rfl⟩ := s4_of h1
    rw [nI_clamp (show q < 2 ^ 31 by omega)] at c m
    obtain ⟨z, hz, z1, z2⟩ := s_z h hq
    have e1 := s_b h hq
    by_cases h2 : S.1 (53 + 2 * q) 1 = 0
    · rw [if_pos h2] at c
      have m := m (fdS S 5) rfl
      have h2' : (fdS S 5).2.1 68 q = 0 := e1.trans h2
      rw [if_pos h2'] at m
      exact stp_mkJ c m rfl (Rel_fd h (jk_refl _))
    · rw [if_neg h2] at c
      by_cases h3 : 0 ≤ i ∧ i < S.1 (53 + 2 * q) 2
      · rw [if_pos h3] at c
        have m := m (uJ S (54 + 2 * q) (vp_updL (S.2.2.1 (54 + 2 * q)) i.toNatClampNeg (lbF (S.1 (53 + 2 * q) 1) v))) rfl
        have h2' : ¬ (uJ S (54 + 2 * q) (vp_updL (S.2.2.1 (54 + 2 * q)) i.toNatClampNeg (lbF (S.1 (53 + 2 * q) 1) v))).2.1 68 q = 0 := fun y => h2 (e1.symm.trans y)
        have h3' : 0 ≤ i ∧ i < (uJ S (54 + 2 * q) (vp_updL (S.2.2.1 (54 + 2 * q)) i.toNatClampNeg (lbF (S.1 (53 + 2 * q) 1) v))).2.1 69 q := by
          show 0 ≤ i ∧ i < S.2.1 69 q
          rw [z2, ← z1]
          exact h3
        rw [if_neg h2', if_pos h3', J_70 S hq] at m
        obtain ⟨j, hj, rfl⟩ := nI_of (Int32.not_lt.mpr h3.1)
        have j40 : j < 40 := by
          have := h3.2
          rw [z1] at this
          have := Nat.lt_of_not_le fun y => nI_nlt (a := j) (b := z) y (by omega) this
          omega
        rw [nI_clamp hj] at c m
        refine stp_mkJ c m (s_v h hq j40) (Rel_J h hq (fun s hs i hi => ?_))
        have e68 : (uJ S (54 + 2 * q) (vp_updL (S.2.2.1 (54 + 2 * q)) j (lbF (S.1 (53 + 2 * q) 1) v))).2.1 68 q = S.1 (53 + 2 * q) 1 := e1
        rw [e68]
        unfold vp_updL
        by_cases es : s = q
        · subst es
          rw [if_pos rfl]
          by_cases ei : i = j
          · rw [if_pos ei, if_pos (by omega)]
          · rw [if_neg ei, if_neg (by omega)]
            exact s_v h hs hi
        · rw [if_neg es, if_neg (by omega)]
          exact s_v h hs hi
      · rw [if_neg h3] at c
        have m := m (fdS S 0) rfl
        have h2' : ¬ (fdS S 0).2.1 68 q = 0 := fun y => h2 (e1.symm.trans y)
        have h3' : ¬ (0 ≤ i ∧ i < (fdS S 0).2.1 69 q) := fun y => h3 (by
          rw [z1, ← z2]
          exact y)
        rw [if_neg h2', if_neg h3'] at m
        exact stp_mkJ c m rfl (Rel_fd h (jk_refl _))
  · rw [if_neg h1] at c
    simp only [if_neg h1] at m
    exact stp_mkJ c (m (fdS S 0) rfl) rfl (Rel_fd h (jk_refl _))
