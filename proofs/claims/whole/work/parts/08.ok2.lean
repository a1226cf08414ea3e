/-! OK (2): the steps that read and write the heap. Written by wip/gen/ok2.py -/
theorem sx_sz_set : ∀ (h : sx_H) (k : Nat) (c c' : sx_Cl), h[k]? = some c → sx_s1 c' = sx_s1 c → sx_sz (h.set k c') = sx_sz h := by
  intro h
  induction h with
  | nil => intro k c c' h1; simp at h1
  | cons a r ih =>
    intro k c c' h1 h2
    cases k with
    | zero =>
      simp at h1
      subst h1
      simp [sx_sz, h2]
    | succ k =>
      simp only [List.set_cons_succ, sx_sz]
      rw [ih k c c' (by simpa using h1) h2]
theorem sx_sz_app : ∀ (h : sx_H) (c : sx_Cl), sx_sz (h ++ [c]) = sx_sz h + sx_s1 c := by
  intro h c
  induction h with
  | nil => simp [sx_sz]
  | cons a r ih => simp only [List.cons_append, sx_sz, ih]; omega
theorem sx_ld_at {cA : Nat → ClassId} {ad : sx_AD} {bs : Nat} {h : sx_H} {a : Nat} {cl : sx_Cl} (hA : ∀ k, k < 900 → ad.1 (k + 1) = bs + k) (hh : h.length ≤ 900) (hl : sx_ld h a = some cl) : ∃ k, a = k + 1 ∧ h[k]? = some cl ∧ ad.1 a = bs + k ∧ (sx_em cA ad bs 0 h)[k]? = some (ad.1 a, sx_tc cA ad cl) := by
  unfold sx_ld at hl
  cases a with
  | zero => cases hl
  | succ k =>
    dsimp only at hl
    have hk : k < h.length := (List.getElem?_eq_some_iff.mp hl).1
    have e : ad.1 (k + 1) = bs + k := hA k (by omega)
    refine ⟨k, rfl, hl, e, ?_⟩
    rw [sx_em_at, hl, e]
    simp
theorem sx_ld_k {h : sx_H} {a : Nat} {cl : sx_Cl} (hl : sx_ld h a = some cl) : ∃ k, a = k + 1 ∧ h[k]? = some cl := by
  unfold sx_ld at hl
  cases a with
  | zero => cases hl
  | succ k => exact ⟨k, rfl, hl⟩
theorem sx_in_vp {i : Int32} {n : Nat} (h : sx_in i n = true) : vp_in i n := by
  unfold sx_in at h
  simp only [Bool.and_eq_true, decide_eq_true_eq] at h
  intro z
  rcases z with z | z
  · exact absurd z (Int32.not_lt.mpr h.1)
  · omega
theorem sx_HR_set {D : va_G} {cA : Nat → ClassId} {ad : sx_AD} {bs : Nat} {h : sx_H} {k a : Nat} {cl : sx_Cl} {e : va_E} {H1 : Heap} (hh : h.length ≤ 900) (ha : ad.1 a = bs + k) (hak : a = k + 1) (he : e = sx_tc cA ad cl) (hP : va_P D sx_cls ((sx_em cA ad bs 0 h).set k (ad.1 a, e)) H1) : sx_HR D cA ad bs (sx_se h a cl) H1 := by
  subst he
  rw [ha, sx_em_set] at hP
  subst hak
  exact ⟨hP, by simp [sx_se]; exact hh⟩
theorem sx_se_sz {h : sx_H} {k a : Nat} {cl cl' : sx_Cl} (hak : a = k + 1) (hk : h[k]? = some cl) (e : sx_s1 cl' = sx_s1 cl) : (sx_se h a cl').length = h.length ∧ sx_sz (sx_se h a cl') = sx_sz h := by
  subst hak
  refine ⟨by simp [sx_se], ?_⟩
  show sx_sz (h.set (k + 1 - 1) cl') = _
  exact sx_sz_set h k cl cl' hk e
def sx_fo (cs : List Nat) (k : Nat) (ref name desc : String) : Prop := ∀ ci ∈ cs, ∃ q : vw_C, sx_cls[ci]? = some q ∧ k < q.2.2 ∧ (q.2.1 k).1 = ref ∧ (q.2.1 k).2.1 = name ∧ (q.2.1 k).2.2.1 = desc ∧ ∀ w ∈ u_ws q.1 q.2.1 q.2.2, w ∈ lw_good
def sx_fp (cs : List Nat) (k : Nat) (ref name desc : String) (fin : Bool) (ty : FieldType) : Prop := ∀ ci ∈ cs, ∃ (q : vw_C) (ty0 : Nat → FieldType), sx_cls[ci]? = some q ∧ k < q.2.2 ∧ (q.2.1 k).1 = ref ∧ (q.2.1 k).2.1 = name ∧ (q.2.1 k).2.2.1 = desc ∧ (q.2.1 k).2.2.2 = fin ∧ (∀ w ∈ u_ws q.1 q.2.1 q.2.2, w ∈ lw_good) ∧ (∀ k, k < q.2.2 → parseFieldDescriptor (q.2.1 k).2.2.1 = some (ty0 k)) ∧ (∀ a, a < q.2.2 → ∀ b, b < q.2.2 → a ≠ b → (q.2.1 a).2.1 ≠ (q.2.1 b).2.1) ∧ parseFieldDescriptor desc = some ty
def sx_ft (t : Value → Bool) (ty : FieldType) : Prop := ∀ (ad : sx_AD) (v : Value), t v = true → narrow ty (sx_mv ad v) = sx_mv ad v ∧ fits ty (sx_mv ad v) = true
theorem sx_ft_I : sx_ft sx_isI .int := by
  intro ad v h; cases v <;> simp_all [sx_isI, sx_mv, narrow, fits]
theorem sx_ft_J : sx_ft sx_isJ .long := by
  intro ad v h; cases v <;> simp_all [sx_isJ, sx_mv, narrow, fits]
theorem sx_ft_B : sx_ft sx_isB .boolean := by
  intro ad v h
  cases v <;> simp_all [sx_isB, sx_mv, narrow, fits]
  rcases h with h | h <;> subst h <;> decide
theorem sx_ft_O (C : String) : sx_ft sx_isA (.object C) := by
  intro ad v h; cases v <;> simp_all [sx_isA, sx_mv, narrow, fits]
theorem sx_ft_A (t : FieldType) : sx_ft sx_isA (.array t) := by
  intro ad v h; cases v <;> simp_all [sx_isA, sx_mv, narrow, fits]
theorem sx_mv_rv (ad : sx_AD) (r : Option Nat) : sx_mv ad (sx_rv r) = va_rf (r.map ad.1) := by
  cases r <;> rfl
theorem sx_sum8 (st : List Value) (h : st.length ≤ 4) : (st.map fun v => v.category).sum ≤ 8 := by
  have key : ∀ l : List Value, (l.map fun v => v.category).sum ≤ 2 * l.length := by
    intro l
    induction l with
    | nil => simp
    | cons a r ih =>
      simp only [List.map_cons, List.sum_cons, List.length_cons]
      rcases lv_cat a with h | h <;> omega
  have := key st
  omega
section OK2
variable {own : String} {cc : ByteArray} {nL : Nat} {nm : String} {ret : Option FieldType} {pc : Nat}

theorem ok_gf {cs : List Nat} {k idx : Nat} {ref name desc : String} (hcs : sx_fo cs k ref name desc) (hw : Cond.fieldLink own idx ref name desc ∈ lw_good) (hd : decode cc pc = .ok (.getfield idx, 3)) : sx_Ok own cc nL nm ret pc (si_gf cs k (pc + 3)) := by
  refine sx_Ok_of ?_ (by
  intro L st h r ho
  unfold si_gf at ho
  repeat' split at ho
  all_goals first | cases ho | exact sx_nx_r ho | (obtain ⟨_, _, ho⟩ := Option.bind_eq_some_iff.mp ho; exact sx_nx_r ho)) (by
  intro L st h r ho
  unfold si_gf at ho
  repeat' split at ho
  all_goals first | cases ho | exact sx_nx_c ho | (obtain ⟨_, _, ho⟩ := Option.bind_eq_some_iff.mp ho; exact sx_nx_c ho))
  intro d D cA ad bs n0 z0 p l e R s m args below meth c Q X L st h s' hn hz ho
  obtain ⟨hx, hb, hml, hown, hts, hnm2, hroom, hs0, hT⟩ := X
  have hK := hT.1
  have hA : ∀ k, k < 900 → ad.1 (k + 1) = bs + k := hT.2.2.2.2.2.2.2.2
  unfold si_gf at ho
  split at ho
  next a st =>
    obtain ⟨v, hv, ho⟩ := Option.bind_eq_some_iff.mp ho
    cases ho
    unfold sx_gf at hv
    split at hv
    next ci fs hl0 =>
      split at hv
      next hc =>
        refine ⟨Nat.le_refl _, Nat.le_refl _, fun _ _ K H locs ls hl hh hS => ?_⟩
        obtain ⟨q, q1, q2, q3, q4, q5, q6⟩ := hcs ci hc
        obtain ⟨k', -, -, -, he⟩ := sx_ld_at (cA := cA) hA hh.2 hl0
        exact va_get (C := q.1) (T := q.2.1) (N := q.2.2) (ref := ref) hx hb hts q6 hown hK hh.1 k' he q1 k q2 (by rw [q4, q5]; exact hts _ hw) (by rw [q3]; exact fun _ h => h) (v := sx_mv ad v) (by rw [List.getElem?_map, hv]; rfl) hd (K H locs ls hl hh hS)
      next => cases hv
    next => cases hv
  next => cases ho
theorem ok_pf {t : Value → Bool} {cs : List Nat} {k idx : Nat} {ref name desc : String} {ty : FieldType} (hft : sx_ft t ty) (hcs : sx_fp cs k ref name desc false ty) (hw : Cond.fieldLink own idx ref name desc ∈ lw_good) (hd : decode cc pc = .ok (.putfield idx, 3)) : sx_Ok own cc nL nm ret pc (si_pf t cs k (pc + 3)) := by
  refine sx_Ok_of ?_ (by
  intro L st h r ho
  unfold si_pf at ho
  repeat' split at ho
  all_goals first | cases ho | exact sx_nx_r ho | (obtain ⟨_, _, ho⟩ := Option.bind_eq_some_iff.mp ho; exact sx_nx_r ho)) (by
  intro L st h r ho
  unfold si_pf at ho
  repeat' split at ho
  all_goals first | cases ho | exact sx_nx_c ho | (obtain ⟨_, _, ho⟩ := Option.bind_eq_some_iff.mp ho; exact sx_nx_c ho))
  intro d D cA ad bs n0 z0 p l e R s m args below meth c Q X L st h s' hn hz ho
  obtain ⟨hx, hb, hml, hown, hts, hnm2, hroom, hs0, hT⟩ := X
  have hK := hT.1
  have hA : ∀ k, k < 900 → ad.1 (k + 1) = bs + k := hT.2.2.2.2.2.2.2.2
  unfold si_pf at ho
  split at ho
  next v a st =>
    split at ho
    next ht =>
      obtain ⟨h', hv, ho⟩ := Option.bind_eq_some_iff.mp ho
      cases ho
      unfold sx_pf at hv
      split at hv
      next ci fs hl0 =>
        split at hv
        next hc =>
          cases hv
          obtain ⟨q, ty0, q1, q2, q3, q4, q5, q6, q7, q8, q9, q10⟩ := hcs ci hc.1
          obtain ⟨k', e1, e2⟩ := sx_ld_k hl0
          obtain ⟨z1, z2⟩ := sx_se_sz (cl' := sx_co ci (fs.set k v)) e1 e2 (by simp [sx_s1])
          refine ⟨by dsimp only; omega, by dsimp only; omega, fun _ _ K H locs ls hl hh hS => ?_⟩
          obtain ⟨k2, f1, f2, f3, he⟩ := sx_ld_at (cA := cA) hA hh.2 hl0
          dsimp only at hh K z1 z2 ⊢
          have hK2 := K
          unfold sx_W at hK2
          dsimp only at hK2
          rw [z1, z2] at hK2
          refine va_put (C := q.1) (T := q.2.1) (N := q.2.2) (ref := ref) (ty := ty) (v := sx_mv ad v) hx hb hts q7 ty0 q8 q9 hown hK hh.1 (sx_em_D cA ad bs h) hS k2 he q1 k q2 (by rw [q4, q5]; exact hts _ hw) (by rw [q3]; exact fun _ h => h) q6 (by rw [q5]; exact q10) (hft ad v ht).1 (hft ad v ht).2 (by simpa using hc.2) hd (fun H1 locs1 hP1 _ hS1 => ?_)
          exact hK2 H1 locs1 ls hl (sx_HR_set (cl := sx_co ci (fs.set k v)) hh.2 f3 f1 (by simp [sx_tc, List.map_set]) hP1) hS1
        next => cases hv
      next => cases hv
    next => cases ho
  next => cases ho
theorem ok_pfF {t : Value → Bool} {cs : List Nat} {k idx : Nat} {ref name desc : String} {ty : FieldType} (hnm : nm = "<init>") (hre : ref = own) (hft : sx_ft t ty) (hcs : sx_fp cs k ref name desc true ty) (hw : Cond.fieldLink own idx ref name desc ∈ lw_good) (hd : decode cc pc = .ok (.putfield idx, 3)) : sx_Ok own cc nL nm ret pc (si_pf t cs k (pc + 3)) := by
  refine sx_Ok_of ?_ (by
  intro L st h r ho
  unfold si_pf at ho
  repeat' split at ho
  all_goals first | cases ho | exact sx_nx_r ho | (obtain ⟨_, _, ho⟩ := Option.bind_eq_some_iff.mp ho; exact sx_nx_r ho)) (by
  intro L st h r ho
  unfold si_pf at ho
  repeat' split at ho
  all_goals first | cases ho | exact sx_nx_c ho | (obtain ⟨_, _, ho⟩ := Option.bind_eq_some_iff.mp ho; exact sx_nx_c ho))
  intro d D cA ad bs n0 z0 p l e R s m args below meth c Q X L st h s' hn hz ho
  obtain ⟨hx, hb, hml, hown, hts, hnm2, hroom, hs0, hT⟩ := X
  have hK := hT.1
  have hA : ∀ k, k < 900 → ad.1 (k + 1) = bs + k := hT.2.2.2.2.2.2.2.2
  unfold si_pf at ho
  split at ho
  next v a st =>
    split at ho
    next ht =>
      obtain ⟨h', hv, ho⟩ := Option.bind_eq_some_iff.mp ho
      cases ho
      unfold sx_pf at hv
      split at hv
      next ci fs hl0 =>
        split at hv
        next hc =>
          cases hv
          obtain ⟨q, ty0, q1, q2, q3, q4, q5, q6, q7, q8, q9, q10⟩ := hcs ci hc.1
          obtain ⟨k', e1, e2⟩ := sx_ld_k hl0
          obtain ⟨z1, z2⟩ := sx_se_sz (cl' := sx_co ci (fs.set k v)) e1 e2 (by simp [sx_s1])
          refine ⟨by dsimp only; omega, by dsimp only; omega, fun _ _ K H locs ls hl hh hS => ?_⟩
          obtain ⟨k2, f1, f2, f3, he⟩ := sx_ld_at (cA := cA) hA hh.2 hl0
          dsimp only at hh K z1 z2 ⊢
          have hK2 := K
          unfold sx_W at hK2
          dsimp only at hK2
          rw [z1, z2] at hK2
          refine va_putF (C := q.1) (T := q.2.1) (N := q.2.2) (ref := ref) (ty := ty) (v := sx_mv ad v) hx hb hts q7 ty0 q8 q9 hown hK hh.1 (sx_em_D cA ad bs h) hS k2 he q1 k q2 (by rw [q4, q5]; exact hts _ hw) (by rw [q3]; exact fun _ h => h) q6 (hnm2.trans hnm) (by rw [q3]; exact hre) (by rw [q5]; exact q10) (hft ad v ht).1 (hft ad v ht).2 (by simpa using hc.2) hd (fun H1 locs1 hP1 _ hS1 => ?_)
          exact hK2 H1 locs1 ls hl (sx_HR_set (cl := sx_co ci (fs.set k v)) hh.2 f3 f1 (by simp [sx_tc, List.map_set]) hP1) hS1
        next => cases hv
      next => cases hv
    next => cases ho
  next => cases ho
theorem ok_iaload (hd : decode cc pc = .ok (.iaload, 1)) : sx_Ok own cc nL nm ret pc (si_ia (pc + 1)) := by
  refine sx_Ok_of ?_ (by
  intro L st h r ho
  unfold si_ia at ho
  repeat' split at ho
  all_goals first | cases ho | exact sx_nx_r ho | (obtain ⟨_, _, ho⟩ := Option.bind_eq_some_iff.mp ho; exact sx_nx_r ho)) (by
  intro L st h r ho
  unfold si_ia at ho
  repeat' split at ho
  all_goals first | cases ho | exact sx_nx_c ho | (obtain ⟨_, _, ho⟩ := Option.bind_eq_some_iff.mp ho; exact sx_nx_c ho))
  intro d D cA ad bs n0 z0 p l e R s m args below meth c Q X L st h s' hn hz ho
  obtain ⟨hx, hb, hml, hown, hts, hnm2, hroom, hs0, hT⟩ := X
  have hK := hT.1
  have hA : ∀ k, k < 900 → ad.1 (k + 1) = bs + k := hT.2.2.2.2.2.2.2.2
  unfold si_ia at ho
  split at ho
  next i a st =>
    obtain ⟨x, hv, ho⟩ := Option.bind_eq_some_iff.mp ho
    cases ho
    unfold sx_gi at hv
    split at hv
    next n f hl0 =>
      split at hv
      next hc =>
        cases hv
        refine ⟨Nat.le_refl _, Nat.le_refl _, fun _ _ K H locs ls hl hh hS => ?_⟩
        obtain ⟨k', -, -, -, he⟩ := sx_ld_at (cA := cA) hA hh.2 hl0
        exact va_iald hx hb hK hh.1 k' 0 he rfl (sx_in_vp hc) hd (K H locs ls hl hh hS)
      next => cases hv
    next => cases hv
  next => cases ho
theorem ok_laload (hd : decode cc pc = .ok (.laload, 1)) : sx_Ok own cc nL nm ret pc (si_ja (pc + 1)) := by
  refine sx_Ok_of ?_ (by
  intro L st h r ho
  unfold si_ja at ho
  repeat' split at ho
  all_goals first | cases ho | exact sx_nx_r ho | (obtain ⟨_, _, ho⟩ := Option.bind_eq_some_iff.mp ho; exact sx_nx_r ho)) (by
  intro L st h r ho
  unfold si_ja at ho
  repeat' split at ho
  all_goals first | cases ho | exact sx_nx_c ho | (obtain ⟨_, _, ho⟩ := Option.bind_eq_some_iff.mp ho; exact sx_nx_c ho))
  intro d D cA ad bs n0 z0 p l e R s m args below meth c Q X L st h s' hn hz ho
  obtain ⟨hx, hb, hml, hown, hts, hnm2, hroom, hs0, hT⟩ := X
  have hK := hT.1
  have hA : ∀ k, k < 900 → ad.1 (k + 1) = bs + k := hT.2.2.2.2.2.2.2.2
  unfold si_ja at ho
  split at ho
  next i a st =>
    obtain ⟨x, hv, ho⟩ := Option.bind_eq_some_iff.mp ho
    cases ho
    unfold sx_gj at hv
    split at hv
    next n f hl0 =>
      split at hv
      next hc =>
        cases hv
        refine ⟨Nat.le_refl _, Nat.le_refl _, fun _ _ K H locs ls hl hh hS => ?_⟩
        obtain ⟨k', -, -, -, he⟩ := sx_ld_at (cA := cA) hA hh.2 hl0
        exact va_lald hx hb hK hh.1 k' 1 he rfl (sx_in_vp hc) hd (K H locs ls hl hh hS)
      next => cases hv
    next => cases hv
  next => cases ho
theorem ok_aaload (hd : decode cc pc = .ok (.aaload, 1)) : sx_Ok own cc nL nm ret pc (si_qa (pc + 1)) := by
  refine sx_Ok_of ?_ (by
  intro L st h r ho
  unfold si_qa at ho
  repeat' split at ho
  all_goals first | cases ho | exact sx_nx_r ho | (obtain ⟨_, _, ho⟩ := Option.bind_eq_some_iff.mp ho; exact sx_nx_r ho)) (by
  intro L st h r ho
  unfold si_qa at ho
  repeat' split at ho
  all_goals first | cases ho | exact sx_nx_c ho | (obtain ⟨_, _, ho⟩ := Option.bind_eq_some_iff.mp ho; exact sx_nx_c ho))
  intro d D cA ad bs n0 z0 p l e R s m args below meth c Q X L st h s' hn hz ho
  obtain ⟨hx, hb, hml, hown, hts, hnm2, hroom, hs0, hT⟩ := X
  have hK := hT.1
  have hA : ∀ k, k < 900 → ad.1 (k + 1) = bs + k := hT.2.2.2.2.2.2.2.2
  unfold si_qa at ho
  split at ho
  next i a st =>
    obtain ⟨x, hv, ho⟩ := Option.bind_eq_some_iff.mp ho
    cases ho
    unfold sx_gq at hv
    split at hv
    next t n f hl0 =>
      split at hv
      next hc =>
        cases hv
        refine ⟨Nat.le_refl _, Nat.le_refl _, fun _ _ K H locs ls hl hh hS => ?_⟩
        obtain ⟨k', -, -, -, he⟩ := sx_ld_at (cA := cA) hA hh.2 hl0
        obtain ⟨hc, ht⟩ := hc
        have hty : ∃ C, (sx_tys cA)[2 + t]? = some (cA (2 + t), .object C) := by
          rcases (show t = 0 ∨ t = 1 ∨ t = 2 by omega) with rfl | rfl | rfl
          · exact ⟨_, rfl⟩
          · exact ⟨_, rfl⟩
          · exact ⟨_, rfl⟩
        obtain ⟨C, hC⟩ := hty
        have K2 := K H locs ls hl hh hS
        dsimp only at K2
        rw [List.map_cons, sx_mv_rv] at K2
        exact va_aldq hx hb hK hh.1 k' (2 + t) he hC (sx_in_vp hc) hd K2
      next => cases hv
    next => cases hv
  next => cases ho
theorem ok_iastore (hd : decode cc pc = .ok (.iastore, 1)) : sx_Ok own cc nL nm ret pc (si_is (pc + 1)) := by
  refine sx_Ok_of ?_ (by
  intro L st h r ho
  unfold si_is at ho
  repeat' split at ho
  all_goals first | cases ho | exact sx_nx_r ho | (obtain ⟨_, _, ho⟩ := Option.bind_eq_some_iff.mp ho; exact sx_nx_r ho)) (by
  intro L st h r ho
  unfold si_is at ho
  repeat' split at ho
  all_goals first | cases ho | exact sx_nx_c ho | (obtain ⟨_, _, ho⟩ := Option.bind_eq_some_iff.mp ho; exact sx_nx_c ho))
  intro d D cA ad bs n0 z0 p l e R s m args below meth c Q X L st h s' hn hz ho
  obtain ⟨hx, hb, hml, hown, hts, hnm2, hroom, hs0, hT⟩ := X
  have hK := hT.1
  have hA : ∀ k, k < 900 → ad.1 (k + 1) = bs + k := hT.2.2.2.2.2.2.2.2
  unfold si_is at ho
  split at ho
  next x i a st =>
    obtain ⟨h', hv, ho⟩ := Option.bind_eq_some_iff.mp ho
    cases ho
    unfold sx_pi at hv
    split at hv
    next n f hl0 =>
      split at hv
      next hc =>
        cases hv
        obtain ⟨k', e1, e2⟩ := sx_ld_k hl0
        obtain ⟨z1, z2⟩ := sx_se_sz (cl' := sx_ci n (upd f i.toNatClampNeg x)) e1 e2 (by simp [sx_s1])
        refine ⟨by dsimp only; omega, by dsimp only; omega, fun _ _ K H locs ls hl hh hS => ?_⟩
        obtain ⟨k2, f1, f2, f3, he⟩ := sx_ld_at (cA := cA) hA hh.2 hl0
        dsimp only at hh K z1 z2 ⊢
        have hK2 := K
        unfold sx_W at hK2
        dsimp only at hK2
        rw [z1, z2] at hK2
        refine va_iast hx hb hK hh.1 (sx_em_D cA ad bs h) hS k2 0 he rfl (sx_in_vp hc) hd (fun H1 locs1 hP1 _ hS1 => ?_)
        exact hK2 H1 locs1 ls hl (sx_HR_set (cl := sx_ci n (upd f i.toNatClampNeg x)) hh.2 f3 f1 rfl hP1) hS1
      next => cases hv
    next => cases hv
  next => cases ho
theorem ok_lastore (hd : decode cc pc = .ok (.lastore, 1)) : sx_Ok own cc nL nm ret pc (si_js (pc + 1)) := by
  refine sx_Ok_of ?_ (by
  intro L st h r ho
  unfold si_js at ho
  repeat' split at ho
  all_goals first | cases ho | exact sx_nx_r ho | (obtain ⟨_, _, ho⟩ := Option.bind_eq_some_iff.mp ho; exact sx_nx_r ho)) (by
  intro L st h r ho
  unfold si_js at ho
  repeat' split at ho
  all_goals first | cases ho | exact sx_nx_c ho | (obtain ⟨_, _, ho⟩ := Option.bind_eq_some_iff.mp ho; exact sx_nx_c ho))
  intro d D cA ad bs n0 z0 p l e R s m args below meth c Q X L st h s' hn hz ho
  obtain ⟨hx, hb, hml, hown, hts, hnm2, hroom, hs0, hT⟩ := X
  have hK := hT.1
  have hA : ∀ k, k < 900 → ad.1 (k + 1) = bs + k := hT.2.2.2.2.2.2.2.2
  unfold si_js at ho
  split at ho
  next x i a st =>
    obtain ⟨h', hv, ho⟩ := Option.bind_eq_some_iff.mp ho
    cases ho
    unfold sx_pj at hv
    split at hv
    next n f hl0 =>
      split at hv
      next hc =>
        cases hv
        obtain ⟨k', e1, e2⟩ := sx_ld_k hl0
        obtain ⟨z1, z2⟩ := sx_se_sz (cl' := sx_cj n (vp_updL f i.toNatClampNeg x)) e1 e2 (by simp [sx_s1])
        refine ⟨by dsimp only; omega, by dsimp only; omega, fun _ _ K H locs ls hl hh hS => ?_⟩
        obtain ⟨k2, f1, f2, f3, he⟩ := sx_ld_at (cA := cA) hA hh.2 hl0
        dsimp only at hh K z1 z2 ⊢
        have hK2 := K
        unfold sx_W at hK2
        dsimp only at hK2
        rw [z1, z2] at hK2
        refine va_last hx hb hK hh.1 (sx_em_D cA ad bs h) hS k2 1 he rfl (sx_in_vp hc) hd (fun H1 locs1 hP1 _ hS1 => ?_)
        exact hK2 H1 locs1 ls hl (sx_HR_set (cl := sx_cj n (vp_updL f i.toNatClampNeg x)) hh.2 f3 f1 rfl hP1) hS1
      next => cases hv
    next => cases hv
  next => cases ho
def sx_tn : List String := ["ShadeCarpets$Carrier", "ShadeCarpets$Kind", "ShadeCarpets$Sheet"]
def sx_qo (cs : List (Nat × Nat)) : Prop := ∀ q ∈ cs, ∃ (r : vw_C) (E : String), sx_cls[q.2]? = some r ∧ sx_tn[q.1]? = some E ∧ (r.1 = E ∨ (r.1, E) ∈ sx_nc)
theorem sx_tn_ty {cA : Nat → ClassId} {t : Nat} {E : String} (h : sx_tn[t]? = some E) : (sx_tys cA)[2 + t]? = some (cA (2 + t), .object E) := by
  have hl := (List.getElem?_eq_some_iff.mp h).1
  rcases (show t = 0 ∨ t = 1 ∨ t = 2 by have : sx_tn.length = 3 := rfl; omega) with rfl | rfl | rfl
  · cases h; rfl
  · cases h; rfl
  · cases h; rfl
theorem sx_up_map (ad : sx_AD) (f : Nat → Option Nat) (k b : Nat) : (fun j => (va_up f k (some b) j).map ad.1) = va_up (fun j => (f j).map ad.1) k (some (ad.1 b)) := by
  funext j
  unfold va_up
  by_cases h : j = k
  · rw [if_pos h, if_pos h]; rfl
  · rw [if_neg h, if_neg h]
theorem ok_aastore {cs : List (Nat × Nat)} (hcs : sx_qo cs) (hd : decode cc pc = .ok (.aastore, 1)) : sx_Ok own cc nL nm ret pc (si_qs cs (pc + 1)) := by
  refine sx_Ok_of ?_ (by
  intro L st h r ho
  unfold si_qs at ho
  repeat' split at ho
  all_goals first | cases ho | exact sx_nx_r ho | (obtain ⟨_, _, ho⟩ := Option.bind_eq_some_iff.mp ho; exact sx_nx_r ho)) (by
  intro L st h r ho
  unfold si_qs at ho
  repeat' split at ho
  all_goals first | cases ho | exact sx_nx_c ho | (obtain ⟨_, _, ho⟩ := Option.bind_eq_some_iff.mp ho; exact sx_nx_c ho))
  intro d D cA ad bs n0 z0 p l e R s m args below meth c Q X L st h s' hn hz ho
  obtain ⟨hx, hb, hml, hown, hts, hnm2, hroom, hs0, hT⟩ := X
  have hK := hT.1
  have hA : ∀ k, k < 900 → ad.1 (k + 1) = bs + k := hT.2.2.2.2.2.2.2.2
  unfold si_qs at ho
  split at ho
  next b i a st =>
    obtain ⟨h', hv, ho⟩ := Option.bind_eq_some_iff.mp ho
    cases ho
    unfold sx_pq at hv
    split at hv
    next t n f kb hl0 hlb =>
      split at hv
      next hc =>
        cases hv
        obtain ⟨hc, hm⟩ := hc
        obtain ⟨k', e1, e2⟩ := sx_ld_k hl0
        obtain ⟨z1, z2⟩ := sx_se_sz (cl' := sx_cq t n (va_up f i.toNatClampNeg (some b))) e1 e2 (by simp [sx_s1])
        refine ⟨by dsimp only; omega, by dsimp only; omega, fun _ _ K H locs ls hl hh hS => ?_⟩
        obtain ⟨k2, f1, f2, f3, he⟩ := sx_ld_at (cA := cA) hA hh.2 hl0
        unfold sx_kl at hlb
        split at hlb
        next kb2 fsb hl1 =>
          cases hlb
          obtain ⟨k3, g1, g2, g3, he3⟩ := sx_ld_at (cA := cA) hA hh.2 hl1
          obtain ⟨r, E, r1, r2, r3⟩ := hcs _ hm
          dsimp only at hh K z1 z2 r1 r2 r3 ⊢
          have hK2 := K
          unfold sx_W at hK2
          dsimp only at hK2
          rw [z1, z2] at hK2
          have fin : ∀ (H1 : Heap) (locs1 : List Loc), va_P D sx_cls ((sx_em cA ad bs 0 h).set k2 (ad.1 a, .inl (cA (2 + t), n, .inr (.inr (.inr (.inr (va_up (fun j => (f j).map ad.1) i.toNatClampNeg (some (ad.1 b))))))))) H1 → va_S (fun q => bs ≤ q) s.heap H1 locs1 → _ := fun H1 locs1 hP1 hS1 => hK2 H1 locs1 ls hl (sx_HR_set (cl := sx_cq t n (va_up f i.toNatClampNeg (some b))) hh.2 f3 f1 (by simp only [sx_tc]; rw [sx_up_map]) hP1) hS1
          rcases r3 with r3 | r3
          · subst r3
            exact va_astq hx hb hK hh.1 (sx_em_D cA ad bs h) hS k2 (2 + t) k3 kb he (sx_tn_ty r2) he3 r1 (sx_in_vp hc) hd (fun H1 locs1 hP1 _ hS1 => fin H1 locs1 hP1 hS1)
          · exact va_astqO hx hb hK hh.1 (sx_em_D cA ad bs h) hS k2 (2 + t) k3 kb he (sx_tn_ty r2) (hT.2.2.1 _ r3) he3 r1 (sx_in_vp hc) hd (fun H1 locs1 hP1 _ hS1 => fin H1 locs1 hP1 hS1)
        next => cases hlb
      next => cases hv
    next => cases hv
  next => cases ho
theorem ok_alen (hd : decode cc pc = .ok (.arraylength, 1)) : sx_Ok own cc nL nm ret pc (si_len (pc + 1)) := by
  refine sx_Ok_of ?_ (by
  intro L st h r ho
  unfold si_len at ho
  repeat' split at ho
  all_goals first | cases ho | exact sx_nx_r ho | (obtain ⟨_, _, ho⟩ := Option.bind_eq_some_iff.mp ho; exact sx_nx_r ho)) (by
  intro L st h r ho
  unfold si_len at ho
  repeat' split at ho
  all_goals first | cases ho | exact sx_nx_c ho | (obtain ⟨_, _, ho⟩ := Option.bind_eq_some_iff.mp ho; exact sx_nx_c ho))
  intro d D cA ad bs n0 z0 p l e R s m args below meth c Q X L st h s' hn hz ho
  obtain ⟨hx, hb, hml, hown, hts, hnm2, hroom, hs0, hT⟩ := X
  have hK := hT.1
  have hA : ∀ k, k < 900 → ad.1 (k + 1) = bs + k := hT.2.2.2.2.2.2.2.2
  unfold si_len at ho
  split at ho
  next a st =>
    obtain ⟨x, hv, ho⟩ := Option.bind_eq_some_iff.mp ho
    cases ho
    refine ⟨Nat.le_refl _, Nat.le_refl _, fun _ _ K H locs ls hl hh hS => ?_⟩
    unfold sx_al at hv
    split at hv
    next q hl0 =>
      cases hv
      obtain ⟨k', -, -, -, he⟩ := sx_ld_at (cA := cA) hA hh.2 hl0
      exact va_alen (ty := .int) hx hb hK hh.1 k' 0 he rfl rfl hd (K H locs ls hl hh hS)
    next q hl0 =>
      cases hv
      obtain ⟨k', -, -, -, he⟩ := sx_ld_at (cA := cA) hA hh.2 hl0
      exact va_alen (ty := .long) hx hb hK hh.1 k' 1 he rfl rfl hd (K H locs ls hl hh hS)
    next q hl0 =>
      split at hv
      next ht =>
        cases hv
        obtain ⟨k', -, -, -, he⟩ := sx_ld_at (cA := cA) hA hh.2 hl0
        have hty : ∃ C, (sx_tys cA)[2 + q.1]? = some (cA (2 + q.1), .object C) := by
          rcases (show q.1 = 0 ∨ q.1 = 1 ∨ q.1 = 2 by omega) with e | e | e <;> rw [e] <;> exact ⟨_, rfl⟩
        obtain ⟨C, hC⟩ := hty
        exact va_alen (ty := .object C) hx hb hK hh.1 k' (2 + q.1) he hC rfl hd (K H locs ls hl hh hS)
      next => cases hv
    next => cases hv
  next => cases ho
theorem ok_objInit {idx : Nat} (hw : Cond.methodLink own idx Lib.objectInit ∈ lw_good) (hw2 : Cond.instanceMethod Lib.objectInit ∈ lw_good) (hw3 : Cond.code Lib.objectInit ⟨#[0xb1]⟩ 1 none ∈ lw_good) (hd : decode cc pc = .ok (.invokespecial idx, 3)) : sx_Ok own cc nL nm ret pc (si_oi (pc + 3)) := by
  refine sx_Ok_of ?_ (by
  intro L st h r ho
  unfold si_oi at ho
  repeat' split at ho
  all_goals first | cases ho | exact sx_nx_r ho | (obtain ⟨_, _, ho⟩ := Option.bind_eq_some_iff.mp ho; exact sx_nx_r ho)) (by
  intro L st h r ho
  unfold si_oi at ho
  repeat' split at ho
  all_goals first | cases ho | exact sx_nx_c ho | (obtain ⟨_, _, ho⟩ := Option.bind_eq_some_iff.mp ho; exact sx_nx_c ho))
  intro d D cA ad bs n0 z0 p l e R s m args below meth c Q X L st h s' hn hz ho
  obtain ⟨hx, hb, hml, hown, hts, hnm2, hroom, hs0, hT⟩ := X
  have hK := hT.1
  have hA : ∀ k, k < 900 → ad.1 (k + 1) = bs + k := hT.2.2.2.2.2.2.2.2
  unfold si_oi at ho
  split at ho
  next a st =>
    split at ho
    next hl4 =>
      cases ho
      refine ⟨Nat.le_refl _, Nat.le_refl _, fun _ _ K H locs ls hl hh hS => ?_⟩
      refine W.objInit hx hb hown (hts _ hw) (hts _ hw2) (hts _ hw3) rfl hl.1 rfl hd (by omega) ?_ (K H locs ls hl hh hS)
      have h8 : (((st.map (sx_mv ad))).map fun v => v.category).sum ≤ 8 := sx_sum8 _ (by simpa using hl4)
      have := lv_room (m := m) (pc := pc) (ls := ls) (rest := ((.ref a :: st).map (sx_mv ad))) h8
      dsimp only
      omega
    next => cases ho
  next => cases ho
end OK2
