/-! OK (1): the steps that leave the heap as it is, by the kit's rows. Written by wip/gen/ok1.py -/
theorem sx_Ok_of {own : String} {cc : ByteArray} {nL : Nat} {nm : String} {ret : Option FieldType} {pc : Nat} {ps : sx_I} (hyp : ∀ (d : Nat) (D : va_G) (cA : Nat → ClassId) (ad : sx_AD) (bs n0 z0 : Nat) (p : Program) (l : Launch) (e : Env) (R : Room) (s : State) (m : MethodId) (args : Array Value) (below : List Frame) (meth : Method) (c : Code) (Q : State → Prop), sx_Cx own cc nL nm d D cA ad bs n0 p R s m args meth c →
  ∀ (L : sx_Lo) (st : List Value) (h : sx_H) (s' : sx_St), n0 ≤ h.length → z0 ≤ sx_sz h → ps L st h = some (.inr (.inl s')) → h.length ≤ s'.2.2.2.length ∧ sx_sz h ≤ sx_sz s'.2.2.2 ∧ (s'.2.2.2.length - n0 ≤ R.cells → sx_sz s'.2.2.2 - z0 ≤ R.slots → sx_W p l e R s m args below meth c Q D cA ad bs n0 z0 s' → sx_W p l e R s m args below meth c Q D cA ad bs n0 z0 (pc, L, st, h)))
  (hr : ∀ L st h r, ¬ ps L st h = some (.inl r)) (hc : ∀ L st h q, ¬ ps L st h = some (.inr (.inr q))) : sx_Ok own cc nL nm ret pc ps := by
  intro d D cA ad bs n0 z0 p l e R s m args below meth c Q X L st h hn hz
  cases ho : ps L st h with
  | none => trivial
  | some o =>
    rcases o with r | s' | q
    · exact absurd ho (hr L st h r)
    · exact hyp d D cA ad bs n0 z0 p l e R s m args below meth c Q X L st h s' hn hz ho
    · exact absurd ho (hc L st h q)
theorem sx_nx_r {pc : Nat} {L : sx_Lo} {st : List Value} {h : sx_H} {r : sx_R} : ¬ sx_nx pc L st h = some (.inl r) := by
  intro e; cases e
theorem sx_nx_c {pc : Nat} {L : sx_Lo} {st : List Value} {h : sx_H} {q : Nat × List Value × sx_St} : ¬ sx_nx pc L st h = some (.inr (.inr q)) := by
  intro e; cases e
section OK1
variable {own : String} {cc : ByteArray} {nL : Nat} {nm : String} {ret : Option FieldType} {pc : Nat}

theorem ok_iconst {n : Int} {v : Int32} (hd : decode cc pc = .ok (.iconst n, 1)) (hv : Int32.ofInt n = v) : sx_Ok own cc nL nm ret pc (si_c (.int v) (pc + 1)) := by
  refine sx_Ok_of ?_ (by
  intro L st h r ho
  unfold si_c at ho
  repeat' split at ho
  all_goals first | cases ho | exact sx_nx_r ho) (by
  intro L st h r ho
  unfold si_c at ho
  repeat' split at ho
  all_goals first | cases ho | exact sx_nx_c ho)
  intro d D cA ad bs n0 z0 p l e R s m args below meth c Q X L st h s' hn hz ho
  unfold si_c at ho
  cases ho
  exact ⟨Nat.le_refl _, Nat.le_refl _, fun _ _ K H locs ls hl hh hS => lv_iconst X.1 X.2.1 hd hv (K H locs ls hl hh hS)⟩
theorem ok_bipush {n : Int} {v : Int32} (hd : decode cc pc = .ok (.bipush n, 2)) (hv : (Int8.ofInt n).toInt32 = v) : sx_Ok own cc nL nm ret pc (si_c (.int v) (pc + 2)) := by
  refine sx_Ok_of ?_ (by
  intro L st h r ho
  unfold si_c at ho
  repeat' split at ho
  all_goals first | cases ho | exact sx_nx_r ho) (by
  intro L st h r ho
  unfold si_c at ho
  repeat' split at ho
  all_goals first | cases ho | exact sx_nx_c ho)
  intro d D cA ad bs n0 z0 p l e R s m args below meth c Q X L st h s' hn hz ho
  unfold si_c at ho
  cases ho
  exact ⟨Nat.le_refl _, Nat.le_refl _, fun _ _ K H locs ls hl hh hS => lv_bipush X.1 X.2.1 hd hv (K H locs ls hl hh hS)⟩
theorem ok_sipush {n : Int} {v : Int32} (hd : decode cc pc = .ok (.sipush n, 3)) (hv : (Int16.ofInt n).toInt32 = v) : sx_Ok own cc nL nm ret pc (si_c (.int v) (pc + 3)) := by
  refine sx_Ok_of ?_ (by
  intro L st h r ho
  unfold si_c at ho
  repeat' split at ho
  all_goals first | cases ho | exact sx_nx_r ho) (by
  intro L st h r ho
  unfold si_c at ho
  repeat' split at ho
  all_goals first | cases ho | exact sx_nx_c ho)
  intro d D cA ad bs n0 z0 p l e R s m args below meth c Q X L st h s' hn hz ho
  unfold si_c at ho
  cases ho
  exact ⟨Nat.le_refl _, Nat.le_refl _, fun _ _ K H locs ls hl hh hS => lv_sipush X.1 X.2.1 hd hv (K H locs ls hl hh hS)⟩
theorem ok_lconst {n : Fin 2} {v : Int64} (hd : decode cc pc = .ok (.lconst n, 1)) (hv : Int64.ofNat (n : Nat) = v) : sx_Ok own cc nL nm ret pc (si_c (.long v) (pc + 1)) := by
  refine sx_Ok_of ?_ (by
  intro L st h r ho
  unfold si_c at ho
  repeat' split at ho
  all_goals first | cases ho | exact sx_nx_r ho) (by
  intro L st h r ho
  unfold si_c at ho
  repeat' split at ho
  all_goals first | cases ho | exact sx_nx_c ho)
  intro d D cA ad bs n0 z0 p l e R s m args below meth c Q X L st h s' hn hz ho
  unfold si_c at ho
  cases ho
  exact ⟨Nat.le_refl _, Nat.le_refl _, fun _ _ K H locs ls hl hh hS => lv_lconst X.1 X.2.1 hd hv (K H locs ls hl hh hS)⟩
theorem ok_null (hd : decode cc pc = .ok (.aconst_null, 1)) : sx_Ok own cc nL nm ret pc (si_c (.null) (pc + 1)) := by
  refine sx_Ok_of ?_ (by
  intro L st h r ho
  unfold si_c at ho
  repeat' split at ho
  all_goals first | cases ho | exact sx_nx_r ho) (by
  intro L st h r ho
  unfold si_c at ho
  repeat' split at ho
  all_goals first | cases ho | exact sx_nx_c ho)
  intro d D cA ad bs n0 z0 p l e R s m args below meth c Q X L st h s' hn hz ho
  unfold si_c at ho
  cases ho
  exact ⟨Nat.le_refl _, Nat.le_refl _, fun _ _ K H locs ls hl hh hS => lv_null X.1 X.2.1 hd (K H locs ls hl hh hS)⟩
theorem ok_ldc {i : Nat} {v : Int32} (hw : Cond.constant own i v ∈ lw_good) (hd : decode cc pc = .ok (.ldc i, 2)) : sx_Ok own cc nL nm ret pc (si_c (.int v) (pc + 2)) := by
  refine sx_Ok_of ?_ (by
  intro L st h r ho
  unfold si_c at ho
  repeat' split at ho
  all_goals first | cases ho | exact sx_nx_r ho) (by
  intro L st h r ho
  unfold si_c at ho
  repeat' split at ho
  all_goals first | cases ho | exact sx_nx_c ho)
  intro d D cA ad bs n0 z0 p l e R s m args below meth c Q X L st h s' hn hz ho
  unfold si_c at ho
  cases ho
  exact ⟨Nat.le_refl _, Nat.le_refl _, fun _ _ K H locs ls hl hh hS => lv_ldc X.1 X.2.1 X.2.2.2.1 (X.2.2.2.2.1 _ hw) hd (K H locs ls hl hh hS)⟩
theorem ok_ldcw {i : Nat} {v : Int32} (hw : Cond.constant own i v ∈ lw_good) (hd : decode cc pc = .ok (.ldc_w i, 3)) : sx_Ok own cc nL nm ret pc (si_c (.int v) (pc + 3)) := by
  refine sx_Ok_of ?_ (by
  intro L st h r ho
  unfold si_c at ho
  repeat' split at ho
  all_goals first | cases ho | exact sx_nx_r ho) (by
  intro L st h r ho
  unfold si_c at ho
  repeat' split at ho
  all_goals first | cases ho | exact sx_nx_c ho)
  intro d D cA ad bs n0 z0 p l e R s m args below meth c Q X L st h s' hn hz ho
  unfold si_c at ho
  cases ho
  exact ⟨Nat.le_refl _, Nat.le_refl _, fun _ _ K H locs ls hl hh hS => lv_ldcw X.1 X.2.1 X.2.2.2.1 (X.2.2.2.2.1 _ hw) hd (K H locs ls hl hh hS)⟩
theorem ok_ldc2 {i : Nat} {v : Int64} (hw : Cond.constantLong own i v ∈ lw_good) (hd : decode cc pc = .ok (.ldc2_w i, 3)) : sx_Ok own cc nL nm ret pc (si_c (.long v) (pc + 3)) := by
  refine sx_Ok_of ?_ (by
  intro L st h r ho
  unfold si_c at ho
  repeat' split at ho
  all_goals first | cases ho | exact sx_nx_r ho) (by
  intro L st h r ho
  unfold si_c at ho
  repeat' split at ho
  all_goals first | cases ho | exact sx_nx_c ho)
  intro d D cA ad bs n0 z0 p l e R s m args below meth c Q X L st h s' hn hz ho
  unfold si_c at ho
  cases ho
  exact ⟨Nat.le_refl _, Nat.le_refl _, fun _ _ K H locs ls hl hh hS => lv_ldc2 X.1 X.2.1 X.2.2.2.1 (X.2.2.2.2.1 _ hw) hd (K H locs ls hl hh hS)⟩
theorem ok_ldcS {i j : Nat} {tx : String} (hq : sx_strs[j]? = some (own, i, tx)) (hd : decode cc pc = .ok (.ldc i, 2)) : sx_Ok own cc nL nm ret pc (si_c (.ref (1000 + j)) (pc + 2)) := by
  refine sx_Ok_of ?_ (by
  intro L st h r ho
  unfold si_c at ho
  repeat' split at ho
  all_goals first | cases ho | exact sx_nx_r ho) (by
  intro L st h r ho
  unfold si_c at ho
  repeat' split at ho
  all_goals first | cases ho | exact sx_nx_c ho)
  intro d D cA ad bs n0 z0 p l e R s m args below meth c Q X L st h s' hn hz ho
  unfold si_c at ho
  cases ho
  exact ⟨Nat.le_refl _, Nat.le_refl _, fun _ _ K H locs ls hl hh hS => va_ldcS X.1 X.2.1 X.2.2.2.1 (X.2.2.2.2.2.2.2.2.2.2.2.2.2.1 j _ hq) hd (K H locs ls hl hh hS)⟩
theorem ok_gsC {i : Nat} (hw : Cond.fieldLink own i "java/lang/String" "COMPACT_STRINGS" "Z" ∈ lw_good) (hd : decode cc pc = .ok (.getstatic i, 3)) : sx_Ok own cc nL nm ret pc (si_c (.int 1) (pc + 3)) := by
  refine sx_Ok_of ?_ (by
  intro L st h r ho
  unfold si_c at ho
  repeat' split at ho
  all_goals first | cases ho | exact sx_nx_r ho) (by
  intro L st h r ho
  unfold si_c at ho
  repeat' split at ho
  all_goals first | cases ho | exact sx_nx_c ho)
  intro d D cA ad bs n0 z0 p l e R s m args below meth c Q X L st h s' hn hz ho
  unfold si_c at ho
  cases ho
  exact ⟨Nat.le_refl _, Nat.le_refl _, fun _ _ K H locs ls hl hh hS => va_gets X.1 X.2.1 X.2.2.2.2.2.2.2.2.2.2.2.2.2.2.1 hS X.2.2.2.1 (X.2.2.2.2.1 _ hw) (fun _ h => h) hd (K H locs ls hl hh hS)⟩
theorem ok_gsF {i : Nat} (hw : Cond.fieldLink own i "jdk/internal/util/Preconditions" "SIOOBE_FORMATTER" "Ljava/util/function/BiFunction;" ∈ lw_good) (hd : decode cc pc = .ok (.getstatic i, 3)) : sx_Ok own cc nL nm ret pc (si_c (.retAddr 0) (pc + 3)) := by
  refine sx_Ok_of ?_ (by
  intro L st h r ho
  unfold si_c at ho
  repeat' split at ho
  all_goals first | cases ho | exact sx_nx_r ho) (by
  intro L st h r ho
  unfold si_c at ho
  repeat' split at ho
  all_goals first | cases ho | exact sx_nx_c ho)
  intro d D cA ad bs n0 z0 p l e R s m args below meth c Q X L st h s' hn hz ho
  unfold si_c at ho
  cases ho
  exact ⟨Nat.le_refl _, Nat.le_refl _, fun _ _ K H locs ls hl hh hS => va_gets X.1 X.2.1 X.2.2.2.2.2.2.2.2.2.2.2.2.2.2.2.1 hS X.2.2.2.1 (X.2.2.2.2.1 _ hw) (fun _ h => h) hd (K H locs ls hl hh hS)⟩
theorem ok_iload_n {k : Fin 4} (hd : decode cc pc = .ok (.iload_n k, 1)) : sx_Ok own cc nL nm ret pc (si_ld sx_isI (k : Nat) (pc + 1)) := by
  refine sx_Ok_of ?_ (by
  intro L st h r ho
  unfold si_ld at ho
  repeat' split at ho
  all_goals first | cases ho | exact sx_nx_r ho) (by
  intro L st h r ho
  unfold si_ld at ho
  repeat' split at ho
  all_goals first | cases ho | exact sx_nx_c ho)
  intro d D cA ad bs n0 z0 p l e R s m args below meth c Q X L st h s' hn hz ho
  unfold si_ld at ho
  split at ho
  next v hv =>
    split at ho
    next ht =>
      cases ho
      cases v <;> first | (simp [sx_isI] at ht; done) | skip
      exact ⟨Nat.le_refl _, Nat.le_refl _, fun _ _ K H locs ls hl hh hS => lv_iload_n X.1 X.2.1 hd rfl (sx_LR_get hl hv (by simp [Value.category])) (K H locs ls hl hh hS)⟩
    next => cases ho
  next => cases ho
theorem ok_iload {i : Nat} (hd : decode cc pc = .ok (.iload i, 2)) : sx_Ok own cc nL nm ret pc (si_ld sx_isI i (pc + 2)) := by
  refine sx_Ok_of ?_ (by
  intro L st h r ho
  unfold si_ld at ho
  repeat' split at ho
  all_goals first | cases ho | exact sx_nx_r ho) (by
  intro L st h r ho
  unfold si_ld at ho
  repeat' split at ho
  all_goals first | cases ho | exact sx_nx_c ho)
  intro d D cA ad bs n0 z0 p l e R s m args below meth c Q X L st h s' hn hz ho
  unfold si_ld at ho
  split at ho
  next v hv =>
    split at ho
    next ht =>
      cases ho
      cases v <;> first | (simp [sx_isI] at ht; done) | skip
      exact ⟨Nat.le_refl _, Nat.le_refl _, fun _ _ K H locs ls hl hh hS => lv_iload X.1 X.2.1 hd (sx_LR_get hl hv (by simp [Value.category])) (K H locs ls hl hh hS)⟩
    next => cases ho
  next => cases ho
theorem ok_aload_n {k : Fin 4} (hd : decode cc pc = .ok (.aload_n k, 1)) : sx_Ok own cc nL nm ret pc (si_ld sx_isA (k : Nat) (pc + 1)) := by
  refine sx_Ok_of ?_ (by
  intro L st h r ho
  unfold si_ld at ho
  repeat' split at ho
  all_goals first | cases ho | exact sx_nx_r ho) (by
  intro L st h r ho
  unfold si_ld at ho
  repeat' split at ho
  all_goals first | cases ho | exact sx_nx_c ho)
  intro d D cA ad bs n0 z0 p l e R s m args below meth c Q X L st h s' hn hz ho
  unfold si_ld at ho
  split at ho
  next v hv =>
    split at ho
    next ht =>
      cases ho
      cases v <;> first | (simp [sx_isA] at ht; done) | skip
      · exact ⟨Nat.le_refl _, Nat.le_refl _, fun _ _ K H locs ls hl hh hS => lv_aload_nN X.1 X.2.1 hd rfl (sx_LR_get hl hv (by simp [Value.category])) (K H locs ls hl hh hS)⟩
      · exact ⟨Nat.le_refl _, Nat.le_refl _, fun _ _ K H locs ls hl hh hS => lv_aload_n X.1 X.2.1 hd rfl (sx_LR_get hl hv (by simp [Value.category])) (K H locs ls hl hh hS)⟩
    next => cases ho
  next => cases ho
theorem ok_aload {i : Nat} (hd : decode cc pc = .ok (.aload i, 2)) : sx_Ok own cc nL nm ret pc (si_ld sx_isA i (pc + 2)) := by
  refine sx_Ok_of ?_ (by
  intro L st h r ho
  unfold si_ld at ho
  repeat' split at ho
  all_goals first | cases ho | exact sx_nx_r ho) (by
  intro L st h r ho
  unfold si_ld at ho
  repeat' split at ho
  all_goals first | cases ho | exact sx_nx_c ho)
  intro d D cA ad bs n0 z0 p l e R s m args below meth c Q X L st h s' hn hz ho
  unfold si_ld at ho
  split at ho
  next v hv =>
    split at ho
    next ht =>
      cases ho
      cases v <;> first | (simp [sx_isA] at ht; done) | skip
      · exact ⟨Nat.le_refl _, Nat.le_refl _, fun _ _ K H locs ls hl hh hS => lv_aloadN X.1 X.2.1 hd (sx_LR_get hl hv (by simp [Value.category])) (K H locs ls hl hh hS)⟩
      · exact ⟨Nat.le_refl _, Nat.le_refl _, fun _ _ K H locs ls hl hh hS => lv_aload X.1 X.2.1 hd (sx_LR_get hl hv (by simp [Value.category])) (K H locs ls hl hh hS)⟩
    next => cases ho
  next => cases ho
theorem ok_lload_n {k : Fin 4} (hd : decode cc pc = .ok (.lload_n k, 1)) : sx_Ok own cc nL nm ret pc (si_lj (k : Nat) (pc + 1)) := by
  refine sx_Ok_of ?_ (by
  intro L st h r ho
  unfold si_lj at ho
  repeat' split at ho
  all_goals first | cases ho | exact sx_nx_r ho) (by
  intro L st h r ho
  unfold si_lj at ho
  repeat' split at ho
  all_goals first | cases ho | exact sx_nx_c ho)
  intro d D cA ad bs n0 z0 p l e R s m args below meth c Q X L st h s' hn hz ho
  unfold si_lj at ho
  split at ho
  next x h1 h2 =>
    cases ho
    exact ⟨Nat.le_refl _, Nat.le_refl _, fun _ _ K H locs ls hl hh hS => lv_lload_n X.1 X.2.1 hd rfl (hl.2.2.2 _ (.long x) ⟨h1, fun _ => h2⟩) (K H locs ls hl hh hS)⟩
  next => cases ho
theorem ok_lload {i : Nat} (hd : decode cc pc = .ok (.lload i, 2)) : sx_Ok own cc nL nm ret pc (si_lj i (pc + 2)) := by
  refine sx_Ok_of ?_ (by
  intro L st h r ho
  unfold si_lj at ho
  repeat' split at ho
  all_goals first | cases ho | exact sx_nx_r ho) (by
  intro L st h r ho
  unfold si_lj at ho
  repeat' split at ho
  all_goals first | cases ho | exact sx_nx_c ho)
  intro d D cA ad bs n0 z0 p l e R s m args below meth c Q X L st h s' hn hz ho
  unfold si_lj at ho
  split at ho
  next x h1 h2 =>
    cases ho
    exact ⟨Nat.le_refl _, Nat.le_refl _, fun _ _ K H locs ls hl hh hS => lv_lload X.1 X.2.1 hd (hl.2.2.2 _ (.long x) ⟨h1, fun _ => h2⟩) (K H locs ls hl hh hS)⟩
  next => cases ho
theorem ok_istore_n {k : Fin 4} (hd : decode cc pc = .ok (.istore_n k, 1)) : sx_Ok own cc nL nm ret pc (si_st sx_isI (k : Nat) (pc + 1)) := by
  refine sx_Ok_of ?_ (by
  intro L st h r ho
  unfold si_st at ho
  repeat' split at ho
  all_goals first | cases ho | exact sx_nx_r ho) (by
  intro L st h r ho
  unfold si_st at ho
  repeat' split at ho
  all_goals first | cases ho | exact sx_nx_c ho)
  intro d D cA ad bs n0 z0 p l e R s m args below meth c Q X L st h s' hn hz ho
  unfold si_st at ho
  split at ho
  next v st =>
    split at ho
    next ht =>
      obtain ⟨ht, hi⟩ := ht
      cases ho
      cases v <;> first | (simp [sx_isI] at ht; done) | skip
      exact ⟨Nat.le_refl _, Nat.le_refl _, fun _ _ K H locs ls hl hh hS => lv_istore_n X.1 X.2.1 hd rfl (sx_LR_has hl) (by have := hl.2.1; dsimp only at this hi; omega) rfl (fun ls2 hl2 => K H locs ls2 (sx_LR_st hl.2.1 (by have := hl.2.1; dsimp only at this hi; omega) (by simp [Value.category]) hl2) hh hS)⟩
    next => cases ho
  next => cases ho
theorem ok_istore {i : Nat} (hd : decode cc pc = .ok (.istore i, 2)) : sx_Ok own cc nL nm ret pc (si_st sx_isI i (pc + 2)) := by
  refine sx_Ok_of ?_ (by
  intro L st h r ho
  unfold si_st at ho
  repeat' split at ho
  all_goals first | cases ho | exact sx_nx_r ho) (by
  intro L st h r ho
  unfold si_st at ho
  repeat' split at ho
  all_goals first | cases ho | exact sx_nx_c ho)
  intro d D cA ad bs n0 z0 p l e R s m args below meth c Q X L st h s' hn hz ho
  unfold si_st at ho
  split at ho
  next v st =>
    split at ho
    next ht =>
      obtain ⟨ht, hi⟩ := ht
      cases ho
      cases v <;> first | (simp [sx_isI] at ht; done) | skip
      exact ⟨Nat.le_refl _, Nat.le_refl _, fun _ _ K H locs ls hl hh hS => lv_istore X.1 X.2.1 hd (sx_LR_has hl) (by have := hl.2.1; dsimp only at this hi; omega) rfl (fun ls2 hl2 => K H locs ls2 (sx_LR_st hl.2.1 (by have := hl.2.1; dsimp only at this hi; omega) (by simp [Value.category]) hl2) hh hS)⟩
    next => cases ho
  next => cases ho
theorem ok_astore_n {k : Fin 4} (hd : decode cc pc = .ok (.astore_n k, 1)) : sx_Ok own cc nL nm ret pc (si_st sx_isA (k : Nat) (pc + 1)) := by
  refine sx_Ok_of ?_ (by
  intro L st h r ho
  unfold si_st at ho
  repeat' split at ho
  all_goals first | cases ho | exact sx_nx_r ho) (by
  intro L st h r ho
  unfold si_st at ho
  repeat' split at ho
  all_goals first | cases ho | exact sx_nx_c ho)
  intro d D cA ad bs n0 z0 p l e R s m args below meth c Q X L st h s' hn hz ho
  unfold si_st at ho
  split at ho
  next v st =>
    split at ho
    next ht =>
      obtain ⟨ht, hi⟩ := ht
      cases ho
      cases v <;> first | (simp [sx_isA] at ht; done) | skip
      · exact ⟨Nat.le_refl _, Nat.le_refl _, fun _ _ K H locs ls hl hh hS => lv_astore_nN X.1 X.2.1 hd rfl (sx_LR_has hl) (by have := hl.2.1; dsimp only at this hi; omega) rfl (fun ls2 hl2 => K H locs ls2 (sx_LR_st hl.2.1 (by have := hl.2.1; dsimp only at this hi; omega) (by simp [Value.category]) hl2) hh hS)⟩
      · exact ⟨Nat.le_refl _, Nat.le_refl _, fun _ _ K H locs ls hl hh hS => lv_astore_n X.1 X.2.1 hd rfl (sx_LR_has hl) (by have := hl.2.1; dsimp only at this hi; omega) rfl (fun ls2 hl2 => K H locs ls2 (sx_LR_st hl.2.1 (by have := hl.2.1; dsimp only at this hi; omega) (by simp [Value.category]) hl2) hh hS)⟩
    next => cases ho
  next => cases ho
theorem ok_astore {i : Nat} (hd : decode cc pc = .ok (.astore i, 2)) : sx_Ok own cc nL nm ret pc (si_st sx_isA i (pc + 2)) := by
  refine sx_Ok_of ?_ (by
  intro L st h r ho
  unfold si_st at ho
  repeat' split at ho
  all_goals first | cases ho | exact sx_nx_r ho) (by
  intro L st h r ho
  unfold si_st at ho
  repeat' split at ho
  all_goals first | cases ho | exact sx_nx_c ho)
  intro d D cA ad bs n0 z0 p l e R s m args below meth c Q X L st h s' hn hz ho
  unfold si_st at ho
  split at ho
  next v st =>
    split at ho
    next ht =>
      obtain ⟨ht, hi⟩ := ht
      cases ho
      cases v <;> first | (simp [sx_isA] at ht; done) | skip
      · exact ⟨Nat.le_refl _, Nat.le_refl _, fun _ _ K H locs ls hl hh hS => lv_astoreN X.1 X.2.1 hd (sx_LR_has hl) (by have := hl.2.1; dsimp only at this hi; omega) rfl (fun ls2 hl2 => K H locs ls2 (sx_LR_st hl.2.1 (by have := hl.2.1; dsimp only at this hi; omega) (by simp [Value.category]) hl2) hh hS)⟩
      · exact ⟨Nat.le_refl _, Nat.le_refl _, fun _ _ K H locs ls hl hh hS => lv_astore X.1 X.2.1 hd (sx_LR_has hl) (by have := hl.2.1; dsimp only at this hi; omega) rfl (fun ls2 hl2 => K H locs ls2 (sx_LR_st hl.2.1 (by have := hl.2.1; dsimp only at this hi; omega) (by simp [Value.category]) hl2) hh hS)⟩
    next => cases ho
  next => cases ho
theorem ok_lstore_n {k : Fin 4} (hd : decode cc pc = .ok (.lstore_n k, 1)) : sx_Ok own cc nL nm ret pc (si_sj (k : Nat) (pc + 1)) := by
  refine sx_Ok_of ?_ (by
  intro L st h r ho
  unfold si_sj at ho
  repeat' split at ho
  all_goals first | cases ho | exact sx_nx_r ho) (by
  intro L st h r ho
  unfold si_sj at ho
  repeat' split at ho
  all_goals first | cases ho | exact sx_nx_c ho)
  intro d D cA ad bs n0 z0 p l e R s m args below meth c Q X L st h s' hn hz ho
  unfold si_sj at ho
  split at ho
  next x st =>
    split at ho
    next hi =>
      cases ho
      exact ⟨Nat.le_refl _, Nat.le_refl _, fun _ _ K H locs ls hl hh hS => lv_lstore_n X.1 X.2.1 hd rfl (sx_LR_has hl) (by have := hl.2.1; dsimp only at this hi; omega) rfl (fun ls2 hl2 => K H locs ls2 (sx_LR_sj (v := .long x) hl.2.1 (by have := hl.2.1; dsimp only at this hi; omega) hl2) hh hS)⟩
    next => cases ho
  next => cases ho
theorem ok_lstore {i : Nat} (hd : decode cc pc = .ok (.lstore i, 2)) : sx_Ok own cc nL nm ret pc (si_sj i (pc + 2)) := by
  refine sx_Ok_of ?_ (by
  intro L st h r ho
  unfold si_sj at ho
  repeat' split at ho
  all_goals first | cases ho | exact sx_nx_r ho) (by
  intro L st h r ho
  unfold si_sj at ho
  repeat' split at ho
  all_goals first | cases ho | exact sx_nx_c ho)
  intro d D cA ad bs n0 z0 p l e R s m args below meth c Q X L st h s' hn hz ho
  unfold si_sj at ho
  split at ho
  next x st =>
    split at ho
    next hi =>
      cases ho
      exact ⟨Nat.le_refl _, Nat.le_refl _, fun _ _ K H locs ls hl hh hS => lv_lstore X.1 X.2.1 hd (sx_LR_has hl) (by have := hl.2.1; dsimp only at this hi; omega) rfl (fun ls2 hl2 => K H locs ls2 (sx_LR_sj (v := .long x) hl.2.1 (by have := hl.2.1; dsimp only at this hi; omega) hl2) hh hS)⟩
    next => cases ho
  next => cases ho
theorem ok_iinc {i : Nat} {n : Int} (hd : decode cc pc = .ok (.iinc i n, 3)) : sx_Ok own cc nL nm ret pc (si_inc i n (pc + 3)) := by
  refine sx_Ok_of ?_ (by
  intro L st h r ho
  unfold si_inc at ho
  repeat' split at ho
  all_goals first | cases ho | exact sx_nx_r ho) (by
  intro L st h r ho
  unfold si_inc at ho
  repeat' split at ho
  all_goals first | cases ho | exact sx_nx_c ho)
  intro d D cA ad bs n0 z0 p l e R s m args below meth c Q X L st h s' hn hz ho
  unfold si_inc at ho
  split at ho
  next x hv =>
    cases ho
    refine ⟨Nat.le_refl _, Nat.le_refl _, fun _ _ K H locs ls hl hh hS => ?_⟩
    obtain ⟨k, hk⟩ := List.getElem?_of_mem ((sx_ls_mem ad L (i, .int x)).mpr ⟨.int x, ⟨hv, fun e => by simp [Value.category] at e⟩, rfl⟩)
    have hi : i < c.maxLocals := by
      have h1 := (List.getElem?_eq_some_iff.mp hv).1
      have h2 := hl.2.1
      dsimp only at h2
      omega
    exact lv_iinc X.1 X.2.1 hd (sx_LR_has hl) hk rfl hi rfl (fun ls2 hl2 => K H locs ls2 (sx_LR_st (v := .int (x + Int32.ofInt n)) hl.2.1 hi (by simp [Value.category]) hl2) hh hS)
  next => cases ho
theorem ok_iadd (hd : decode cc pc = .ok (.iadd, 1)) : sx_Ok own cc nL nm ret pc (si_b (fun x y => x + y) (pc + 1)) := by
  refine sx_Ok_of ?_ (by
  intro L st h r ho
  unfold si_b at ho
  repeat' split at ho
  all_goals first | cases ho | exact sx_nx_r ho) (by
  intro L st h r ho
  unfold si_b at ho
  repeat' split at ho
  all_goals first | cases ho | exact sx_nx_c ho)
  intro d D cA ad bs n0 z0 p l e R s m args below meth c Q X L st h s' hn hz ho
  unfold si_b at ho
  split at ho
  · cases ho
    exact ⟨Nat.le_refl _, Nat.le_refl _, fun _ _ K H locs ls hl hh hS => lv_iadd X.1 X.2.1 hd (K H locs ls hl hh hS)⟩
  · cases ho
theorem ok_isub (hd : decode cc pc = .ok (.isub, 1)) : sx_Ok own cc nL nm ret pc (si_b (fun x y => x - y) (pc + 1)) := by
  refine sx_Ok_of ?_ (by
  intro L st h r ho
  unfold si_b at ho
  repeat' split at ho
  all_goals first | cases ho | exact sx_nx_r ho) (by
  intro L st h r ho
  unfold si_b at ho
  repeat' split at ho
  all_goals first | cases ho | exact sx_nx_c ho)
  intro d D cA ad bs n0 z0 p l e R s m args below meth c Q X L st h s' hn hz ho
  unfold si_b at ho
  split at ho
  · cases ho
    exact ⟨Nat.le_refl _, Nat.le_refl _, fun _ _ K H locs ls hl hh hS => lv_isub X.1 X.2.1 hd (K H locs ls hl hh hS)⟩
  · cases ho
theorem ok_imul (hd : decode cc pc = .ok (.imul, 1)) : sx_Ok own cc nL nm ret pc (si_b (fun x y => x * y) (pc + 1)) := by
  refine sx_Ok_of ?_ (by
  intro L st h r ho
  unfold si_b at ho
  repeat' split at ho
  all_goals first | cases ho | exact sx_nx_r ho) (by
  intro L st h r ho
  unfold si_b at ho
  repeat' split at ho
  all_goals first | cases ho | exact sx_nx_c ho)
  intro d D cA ad bs n0 z0 p l e R s m args below meth c Q X L st h s' hn hz ho
  unfold si_b at ho
  split at ho
  · cases ho
    exact ⟨Nat.le_refl _, Nat.le_refl _, fun _ _ K H locs ls hl hh hS => lv_imul X.1 X.2.1 hd (K H locs ls hl hh hS)⟩
  · cases ho
theorem ok_iand (hd : decode cc pc = .ok (.iand, 1)) : sx_Ok own cc nL nm ret pc (si_b (fun x y => x &&& y) (pc + 1)) := by
  refine sx_Ok_of ?_ (by
  intro L st h r ho
  unfold si_b at ho
  repeat' split at ho
  all_goals first | cases ho | exact sx_nx_r ho) (by
  intro L st h r ho
  unfold si_b at ho
  repeat' split at ho
  all_goals first | cases ho | exact sx_nx_c ho)
  intro d D cA ad bs n0 z0 p l e R s m args below meth c Q X L st h s' hn hz ho
  unfold si_b at ho
  split at ho
  · cases ho
    exact ⟨Nat.le_refl _, Nat.le_refl _, fun _ _ K H locs ls hl hh hS => lv_iand X.1 X.2.1 hd (K H locs ls hl hh hS)⟩
  · cases ho
theorem ok_ior (hd : decode cc pc = .ok (.ior, 1)) : sx_Ok own cc nL nm ret pc (si_b (fun x y => x ||| y) (pc + 1)) := by
  refine sx_Ok_of ?_ (by
  intro L st h r ho
  unfold si_b at ho
  repeat' split at ho
  all_goals first | cases ho | exact sx_nx_r ho) (by
  intro L st h r ho
  unfold si_b at ho
  repeat' split at ho
  all_goals first | cases ho | exact sx_nx_c ho)
  intro d D cA ad bs n0 z0 p l e R s m args below meth c Q X L st h s' hn hz ho
  unfold si_b at ho
  split at ho
  · cases ho
    exact ⟨Nat.le_refl _, Nat.le_refl _, fun _ _ K H locs ls hl hh hS => lv_ior X.1 X.2.1 hd (K H locs ls hl hh hS)⟩
  · cases ho
theorem ok_ixor (hd : decode cc pc = .ok (.ixor, 1)) : sx_Ok own cc nL nm ret pc (si_b (fun x y => x ^^^ y) (pc + 1)) := by
  refine sx_Ok_of ?_ (by
  intro L st h r ho
  unfold si_b at ho
  repeat' split at ho
  all_goals first | cases ho | exact sx_nx_r ho) (by
  intro L st h r ho
  unfold si_b at ho
  repeat' split at ho
  all_goals first | cases ho | exact sx_nx_c ho)
  intro d D cA ad bs n0 z0 p l e R s m args below meth c Q X L st h s' hn hz ho
  unfold si_b at ho
  split at ho
  · cases ho
    exact ⟨Nat.le_refl _, Nat.le_refl _, fun _ _ K H locs ls hl hh hS => lv_ixor X.1 X.2.1 hd (K H locs ls hl hh hS)⟩
  · cases ho
theorem ok_ishl (hd : decode cc pc = .ok (.ishl, 1)) : sx_Ok own cc nL nm ret pc (si_b (fun x y => x <<< (y &&& 31)) (pc + 1)) := by
  refine sx_Ok_of ?_ (by
  intro L st h r ho
  unfold si_b at ho
  repeat' split at ho
  all_goals first | cases ho | exact sx_nx_r ho) (by
  intro L st h r ho
  unfold si_b at ho
  repeat' split at ho
  all_goals first | cases ho | exact sx_nx_c ho)
  intro d D cA ad bs n0 z0 p l e R s m args below meth c Q X L st h s' hn hz ho
  unfold si_b at ho
  split at ho
  · cases ho
    exact ⟨Nat.le_refl _, Nat.le_refl _, fun _ _ K H locs ls hl hh hS => lv_ishl X.1 X.2.1 hd (K H locs ls hl hh hS)⟩
  · cases ho
theorem ok_ishr (hd : decode cc pc = .ok (.ishr, 1)) : sx_Ok own cc nL nm ret pc (si_b (fun x y => x >>> (y &&& 31)) (pc + 1)) := by
  refine sx_Ok_of ?_ (by
  intro L st h r ho
  unfold si_b at ho
  repeat' split at ho
  all_goals first | cases ho | exact sx_nx_r ho) (by
  intro L st h r ho
  unfold si_b at ho
  repeat' split at ho
  all_goals first | cases ho | exact sx_nx_c ho)
  intro d D cA ad bs n0 z0 p l e R s m args below meth c Q X L st h s' hn hz ho
  unfold si_b at ho
  split at ho
  · cases ho
    exact ⟨Nat.le_refl _, Nat.le_refl _, fun _ _ K H locs ls hl hh hS => lv_ishr X.1 X.2.1 hd (K H locs ls hl hh hS)⟩
  · cases ho
theorem ok_iushr (hd : decode cc pc = .ok (.iushr, 1)) : sx_Ok own cc nL nm ret pc (si_b (fun x y => (x.toUInt32 >>> (y.toUInt32 &&& Int32.toUInt32 31)).toInt32) (pc + 1)) := by
  refine sx_Ok_of ?_ (by
  intro L st h r ho
  unfold si_b at ho
  repeat' split at ho
  all_goals first | cases ho | exact sx_nx_r ho) (by
  intro L st h r ho
  unfold si_b at ho
  repeat' split at ho
  all_goals first | cases ho | exact sx_nx_c ho)
  intro d D cA ad bs n0 z0 p l e R s m args below meth c Q X L st h s' hn hz ho
  unfold si_b at ho
  split at ho
  · cases ho
    exact ⟨Nat.le_refl _, Nat.le_refl _, fun _ _ K H locs ls hl hh hS => lv_iushr X.1 X.2.1 hd rfl (K H locs ls hl hh hS)⟩
  · cases ho
theorem ok_idiv (hd : decode cc pc = .ok (.idiv, 1)) : sx_Ok own cc nL nm ret pc (si_d (fun x y => x / y) (pc + 1)) := by
  refine sx_Ok_of ?_ (by
  intro L st h r ho
  unfold si_d at ho
  repeat' split at ho
  all_goals first | cases ho | exact sx_nx_r ho) (by
  intro L st h r ho
  unfold si_d at ho
  repeat' split at ho
  all_goals first | cases ho | exact sx_nx_c ho)
  intro d D cA ad bs n0 z0 p l e R s m args below meth c Q X L st h s' hn hz ho
  unfold si_d at ho
  split at ho
  · split at ho
    · cases ho
    · next hy =>
      cases ho
      exact ⟨Nat.le_refl _, Nat.le_refl _, fun _ _ K H locs ls hl hh hS => lv_idiv X.1 X.2.1 hd hy (K H locs ls hl hh hS)⟩
  · cases ho
theorem ok_irem (hd : decode cc pc = .ok (.irem, 1)) : sx_Ok own cc nL nm ret pc (si_d (fun x y => x - x / y * y) (pc + 1)) := by
  refine sx_Ok_of ?_ (by
  intro L st h r ho
  unfold si_d at ho
  repeat' split at ho
  all_goals first | cases ho | exact sx_nx_r ho) (by
  intro L st h r ho
  unfold si_d at ho
  repeat' split at ho
  all_goals first | cases ho | exact sx_nx_c ho)
  intro d D cA ad bs n0 z0 p l e R s m args below meth c Q X L st h s' hn hz ho
  unfold si_d at ho
  split at ho
  · split at ho
    · cases ho
    · next hy =>
      cases ho
      exact ⟨Nat.le_refl _, Nat.le_refl _, fun _ _ K H locs ls hl hh hS => lv_irem X.1 X.2.1 hd hy (K H locs ls hl hh hS)⟩
  · cases ho
theorem ok_ineg (hd : decode cc pc = .ok (.ineg, 1)) : sx_Ok own cc nL nm ret pc (si_u (fun x => .int (-x)) (pc + 1)) := by
  refine sx_Ok_of ?_ (by
  intro L st h r ho
  unfold si_u at ho
  repeat' split at ho
  all_goals first | cases ho | exact sx_nx_r ho) (by
  intro L st h r ho
  unfold si_u at ho
  repeat' split at ho
  all_goals first | cases ho | exact sx_nx_c ho)
  intro d D cA ad bs n0 z0 p l e R s m args below meth c Q X L st h s' hn hz ho
  unfold si_u at ho
  split at ho
  · cases ho
    exact ⟨Nat.le_refl _, Nat.le_refl _, fun _ _ K H locs ls hl hh hS => lv_ineg X.1 X.2.1 hd (K H locs ls hl hh hS)⟩
  · cases ho
theorem ok_i2l (hd : decode cc pc = .ok (.i2l, 1)) : sx_Ok own cc nL nm ret pc (si_u (fun x => .long x.toInt64) (pc + 1)) := by
  refine sx_Ok_of ?_ (by
  intro L st h r ho
  unfold si_u at ho
  repeat' split at ho
  all_goals first | cases ho | exact sx_nx_r ho) (by
  intro L st h r ho
  unfold si_u at ho
  repeat' split at ho
  all_goals first | cases ho | exact sx_nx_c ho)
  intro d D cA ad bs n0 z0 p l e R s m args below meth c Q X L st h s' hn hz ho
  unfold si_u at ho
  split at ho
  · cases ho
    exact ⟨Nat.le_refl _, Nat.le_refl _, fun _ _ K H locs ls hl hh hS => lv_i2l X.1 X.2.1 hd rfl (K H locs ls hl hh hS)⟩
  · cases ho
theorem ok_i2b (hd : decode cc pc = .ok (.i2b, 1)) : sx_Ok own cc nL nm ret pc (si_u (fun x => .int x.toInt8.toInt32) (pc + 1)) := by
  refine sx_Ok_of ?_ (by
  intro L st h r ho
  unfold si_u at ho
  repeat' split at ho
  all_goals first | cases ho | exact sx_nx_r ho) (by
  intro L st h r ho
  unfold si_u at ho
  repeat' split at ho
  all_goals first | cases ho | exact sx_nx_c ho)
  intro d D cA ad bs n0 z0 p l e R s m args below meth c Q X L st h s' hn hz ho
  unfold si_u at ho
  split at ho
  · cases ho
    exact ⟨Nat.le_refl _, Nat.le_refl _, fun _ _ K H locs ls hl hh hS => lv_i2b X.1 X.2.1 hd rfl (K H locs ls hl hh hS)⟩
  · cases ho
theorem ok_i2s (hd : decode cc pc = .ok (.i2s, 1)) : sx_Ok own cc nL nm ret pc (si_u (fun x => .int x.toInt16.toInt32) (pc + 1)) := by
  refine sx_Ok_of ?_ (by
  intro L st h r ho
  unfold si_u at ho
  repeat' split at ho
  all_goals first | cases ho | exact sx_nx_r ho) (by
  intro L st h r ho
  unfold si_u at ho
  repeat' split at ho
  all_goals first | cases ho | exact sx_nx_c ho)
  intro d D cA ad bs n0 z0 p l e R s m args below meth c Q X L st h s' hn hz ho
  unfold si_u at ho
  split at ho
  · cases ho
    exact ⟨Nat.le_refl _, Nat.le_refl _, fun _ _ K H locs ls hl hh hS => lv_i2s X.1 X.2.1 hd rfl (K H locs ls hl hh hS)⟩
  · cases ho
theorem ok_i2c (hd : decode cc pc = .ok (.i2c, 1)) : sx_Ok own cc nL nm ret pc (si_u (fun x => .int (x.toUInt32 % 65536).toInt32) (pc + 1)) := by
  refine sx_Ok_of ?_ (by
  intro L st h r ho
  unfold si_u at ho
  repeat' split at ho
  all_goals first | cases ho | exact sx_nx_r ho) (by
  intro L st h r ho
  unfold si_u at ho
  repeat' split at ho
  all_goals first | cases ho | exact sx_nx_c ho)
  intro d D cA ad bs n0 z0 p l e R s m args below meth c Q X L st h s' hn hz ho
  unfold si_u at ho
  split at ho
  · cases ho
    exact ⟨Nat.le_refl _, Nat.le_refl _, fun _ _ K H locs ls hl hh hS => lv_i2c X.1 X.2.1 hd rfl (K H locs ls hl hh hS)⟩
  · cases ho
theorem ok_l2i (hd : decode cc pc = .ok (.l2i, 1)) : sx_Ok own cc nL nm ret pc (si_l2i (pc + 1)) := by
  refine sx_Ok_of ?_ (by
  intro L st h r ho
  unfold si_l2i at ho
  repeat' split at ho
  all_goals first | cases ho | exact sx_nx_r ho) (by
  intro L st h r ho
  unfold si_l2i at ho
  repeat' split at ho
  all_goals first | cases ho | exact sx_nx_c ho)
  intro d D cA ad bs n0 z0 p l e R s m args below meth c Q X L st h s' hn hz ho
  unfold si_l2i at ho
  split at ho
  · cases ho
    exact ⟨Nat.le_refl _, Nat.le_refl _, fun _ _ K H locs ls hl hh hS => lv_l2i X.1 X.2.1 hd rfl (K H locs ls hl hh hS)⟩
  · cases ho
theorem ok_ladd (hd : decode cc pc = .ok (.ladd, 1)) : sx_Ok own cc nL nm ret pc (si_bj (fun x y => .long (x + y)) (pc + 1)) := by
  refine sx_Ok_of ?_ (by
  intro L st h r ho
  unfold si_bj at ho
  repeat' split at ho
  all_goals first | cases ho | exact sx_nx_r ho) (by
  intro L st h r ho
  unfold si_bj at ho
  repeat' split at ho
  all_goals first | cases ho | exact sx_nx_c ho)
  intro d D cA ad bs n0 z0 p l e R s m args below meth c Q X L st h s' hn hz ho
  unfold si_bj at ho
  split at ho
  · cases ho
    exact ⟨Nat.le_refl _, Nat.le_refl _, fun _ _ K H locs ls hl hh hS => lv_ladd X.1 X.2.1 hd (K H locs ls hl hh hS)⟩
  · cases ho
theorem ok_lmul (hd : decode cc pc = .ok (.lmul, 1)) : sx_Ok own cc nL nm ret pc (si_bj (fun x y => .long (x * y)) (pc + 1)) := by
  refine sx_Ok_of ?_ (by
  intro L st h r ho
  unfold si_bj at ho
  repeat' split at ho
  all_goals first | cases ho | exact sx_nx_r ho) (by
  intro L st h r ho
  unfold si_bj at ho
  repeat' split at ho
  all_goals first | cases ho | exact sx_nx_c ho)
  intro d D cA ad bs n0 z0 p l e R s m args below meth c Q X L st h s' hn hz ho
  unfold si_bj at ho
  split at ho
  · cases ho
    exact ⟨Nat.le_refl _, Nat.le_refl _, fun _ _ K H locs ls hl hh hS => lv_lmul X.1 X.2.1 hd (K H locs ls hl hh hS)⟩
  · cases ho
theorem ok_land (hd : decode cc pc = .ok (.land, 1)) : sx_Ok own cc nL nm ret pc (si_bj (fun x y => .long (x &&& y)) (pc + 1)) := by
  refine sx_Ok_of ?_ (by
  intro L st h r ho
  unfold si_bj at ho
  repeat' split at ho
  all_goals first | cases ho | exact sx_nx_r ho) (by
  intro L st h r ho
  unfold si_bj at ho
  repeat' split at ho
  all_goals first | cases ho | exact sx_nx_c ho)
  intro d D cA ad bs n0 z0 p l e R s m args below meth c Q X L st h s' hn hz ho
  unfold si_bj at ho
  split at ho
  · cases ho
    exact ⟨Nat.le_refl _, Nat.le_refl _, fun _ _ K H locs ls hl hh hS => lv_land X.1 X.2.1 hd (K H locs ls hl hh hS)⟩
  · cases ho
theorem ok_lor (hd : decode cc pc = .ok (.lor, 1)) : sx_Ok own cc nL nm ret pc (si_bj (fun x y => .long (x ||| y)) (pc + 1)) := by
  refine sx_Ok_of ?_ (by
  intro L st h r ho
  unfold si_bj at ho
  repeat' split at ho
  all_goals first | cases ho | exact sx_nx_r ho) (by
  intro L st h r ho
  unfold si_bj at ho
  repeat' split at ho
  all_goals first | cases ho | exact sx_nx_c ho)
  intro d D cA ad bs n0 z0 p l e R s m args below meth c Q X L st h s' hn hz ho
  unfold si_bj at ho
  split at ho
  · cases ho
    exact ⟨Nat.le_refl _, Nat.le_refl _, fun _ _ K H locs ls hl hh hS => lv_lor X.1 X.2.1 hd (K H locs ls hl hh hS)⟩
  · cases ho
theorem ok_lcmp (hd : decode cc pc = .ok (.lcmp, 1)) : sx_Ok own cc nL nm ret pc (si_bj (fun x y => .int (lg_cmp x y)) (pc + 1)) := by
  refine sx_Ok_of ?_ (by
  intro L st h r ho
  unfold si_bj at ho
  repeat' split at ho
  all_goals first | cases ho | exact sx_nx_r ho) (by
  intro L st h r ho
  unfold si_bj at ho
  repeat' split at ho
  all_goals first | cases ho | exact sx_nx_c ho)
  intro d D cA ad bs n0 z0 p l e R s m args below meth c Q X L st h s' hn hz ho
  unfold si_bj at ho
  split at ho
  · cases ho
    exact ⟨Nat.le_refl _, Nat.le_refl _, fun _ _ K H locs ls hl hh hS => W.lcmp X.1 X.2.1 hd (K H locs ls hl hh hS)⟩
  · cases ho
theorem ok_lshl (hd : decode cc pc = .ok (.lshl, 1)) : sx_Ok own cc nL nm ret pc (si_lsh (pc + 1)) := by
  refine sx_Ok_of ?_ (by
  intro L st h r ho
  unfold si_lsh at ho
  repeat' split at ho
  all_goals first | cases ho | exact sx_nx_r ho) (by
  intro L st h r ho
  unfold si_lsh at ho
  repeat' split at ho
  all_goals first | cases ho | exact sx_nx_c ho)
  intro d D cA ad bs n0 z0 p l e R s m args below meth c Q X L st h s' hn hz ho
  unfold si_lsh at ho
  split at ho
  · cases ho
    exact ⟨Nat.le_refl _, Nat.le_refl _, fun _ _ K H locs ls hl hh hS => lv_lshl X.1 X.2.1 hd rfl (K H locs ls hl hh hS)⟩
  · cases ho
theorem ok_if_eq {off : Int} {t : Nat} (hd : decode cc pc = .ok (.ifCond .eq off, 3)) (ht : (pc : Int) + off = (t : Int)) : sx_Ok own cc nL nm ret pc (si_i1 (fun x => x = 0) t (pc + 3)) := by
  refine sx_Ok_of ?_ (by
  intro L st h r ho
  unfold si_i1 at ho
  repeat' split at ho
  all_goals first | cases ho | exact sx_nx_r ho) (by
  intro L st h r ho
  unfold si_i1 at ho
  repeat' split at ho
  all_goals first | cases ho | exact sx_nx_c ho)
  intro d D cA ad bs n0 z0 p l e R s m args below meth c Q X L st h s' hn hz ho
  unfold si_i1 at ho
  split at ho
  · split at ho
    next hc =>
      cases ho
      exact ⟨Nat.le_refl _, Nat.le_refl _, fun _ _ K H locs ls hl hh hS => lv_if_eq X.1 X.2.1 hd ht (fun _ => (K H locs ls hl hh hS)) (fun hc2 => absurd hc (by first | exact hc2 | exact fun z => z hc2))⟩
    next hc =>
      cases ho
      exact ⟨Nat.le_refl _, Nat.le_refl _, fun _ _ K H locs ls hl hh hS => lv_if_eq X.1 X.2.1 hd ht (fun hc2 => absurd hc2 (by first | exact hc | exact fun z => hc z)) (fun _ => (K H locs ls hl hh hS))⟩
  · cases ho
theorem ok_icmp_eq {off : Int} {t : Nat} (hd : decode cc pc = .ok (.if_icmp .eq off, 3)) (ht : (pc : Int) + off = (t : Int)) : sx_Ok own cc nL nm ret pc (si_i2 (fun x y => x = y) t (pc + 3)) := by
  refine sx_Ok_of ?_ (by
  intro L st h r ho
  unfold si_i2 at ho
  repeat' split at ho
  all_goals first | cases ho | exact sx_nx_r ho) (by
  intro L st h r ho
  unfold si_i2 at ho
  repeat' split at ho
  all_goals first | cases ho | exact sx_nx_c ho)
  intro d D cA ad bs n0 z0 p l e R s m args below meth c Q X L st h s' hn hz ho
  unfold si_i2 at ho
  split at ho
  · split at ho
    next hc =>
      cases ho
      exact ⟨Nat.le_refl _, Nat.le_refl _, fun _ _ K H locs ls hl hh hS => lv_icmp_eq X.1 X.2.1 hd ht (fun _ => (K H locs ls hl hh hS)) (fun hc2 => absurd hc (by first | exact hc2 | exact fun z => z hc2))⟩
    next hc =>
      cases ho
      exact ⟨Nat.le_refl _, Nat.le_refl _, fun _ _ K H locs ls hl hh hS => lv_icmp_eq X.1 X.2.1 hd ht (fun hc2 => absurd hc2 (by first | exact hc | exact fun z => hc z)) (fun _ => (K H locs ls hl hh hS))⟩
  · cases ho
theorem ok_if_ne {off : Int} {t : Nat} (hd : decode cc pc = .ok (.ifCond .ne off, 3)) (ht : (pc : Int) + off = (t : Int)) : sx_Ok own cc nL nm ret pc (si_i1 (fun x => ¬ x = 0) t (pc + 3)) := by
  refine sx_Ok_of ?_ (by
  intro L st h r ho
  unfold si_i1 at ho
  repeat' split at ho
  all_goals first | cases ho | exact sx_nx_r ho) (by
  intro L st h r ho
  unfold si_i1 at ho
  repeat' split at ho
  all_goals first | cases ho | exact sx_nx_c ho)
  intro d D cA ad bs n0 z0 p l e R s m args below meth c Q X L st h s' hn hz ho
  unfold si_i1 at ho
  split at ho
  · split at ho
    next hc =>
      cases ho
      exact ⟨Nat.le_refl _, Nat.le_refl _, fun _ _ K H locs ls hl hh hS => lv_if_ne X.1 X.2.1 hd ht (fun _ => (K H locs ls hl hh hS)) (fun hc2 => absurd hc (by first | exact hc2 | exact fun z => z hc2))⟩
    next hc =>
      cases ho
      exact ⟨Nat.le_refl _, Nat.le_refl _, fun _ _ K H locs ls hl hh hS => lv_if_ne X.1 X.2.1 hd ht (fun hc2 => absurd hc2 (by first | exact hc | exact fun z => hc z)) (fun _ => (K H locs ls hl hh hS))⟩
  · cases ho
theorem ok_icmp_ne {off : Int} {t : Nat} (hd : decode cc pc = .ok (.if_icmp .ne off, 3)) (ht : (pc : Int) + off = (t : Int)) : sx_Ok own cc nL nm ret pc (si_i2 (fun x y => ¬ x = y) t (pc + 3)) := by
  refine sx_Ok_of ?_ (by
  intro L st h r ho
  unfold si_i2 at ho
  repeat' split at ho
  all_goals first | cases ho | exact sx_nx_r ho) (by
  intro L st h r ho
  unfold si_i2 at ho
  repeat' split at ho
  all_goals first | cases ho | exact sx_nx_c ho)
  intro d D cA ad bs n0 z0 p l e R s m args below meth c Q X L st h s' hn hz ho
  unfold si_i2 at ho
  split at ho
  · split at ho
    next hc =>
      cases ho
      exact ⟨Nat.le_refl _, Nat.le_refl _, fun _ _ K H locs ls hl hh hS => lv_icmp_ne X.1 X.2.1 hd ht (fun _ => (K H locs ls hl hh hS)) (fun hc2 => absurd hc (by first | exact hc2 | exact fun z => z hc2))⟩
    next hc =>
      cases ho
      exact ⟨Nat.le_refl _, Nat.le_refl _, fun _ _ K H locs ls hl hh hS => lv_icmp_ne X.1 X.2.1 hd ht (fun hc2 => absurd hc2 (by first | exact hc | exact fun z => hc z)) (fun _ => (K H locs ls hl hh hS))⟩
  · cases ho
theorem ok_if_lt {off : Int} {t : Nat} (hd : decode cc pc = .ok (.ifCond .lt off, 3)) (ht : (pc : Int) + off = (t : Int)) : sx_Ok own cc nL nm ret pc (si_i1 (fun x => x < 0) t (pc + 3)) := by
  refine sx_Ok_of ?_ (by
  intro L st h r ho
  unfold si_i1 at ho
  repeat' split at ho
  all_goals first | cases ho | exact sx_nx_r ho) (by
  intro L st h r ho
  unfold si_i1 at ho
  repeat' split at ho
  all_goals first | cases ho | exact sx_nx_c ho)
  intro d D cA ad bs n0 z0 p l e R s m args below meth c Q X L st h s' hn hz ho
  unfold si_i1 at ho
  split at ho
  · split at ho
    next hc =>
      cases ho
      exact ⟨Nat.le_refl _, Nat.le_refl _, fun _ _ K H locs ls hl hh hS => lv_if_lt X.1 X.2.1 hd ht (fun _ => (K H locs ls hl hh hS)) (fun hc2 => absurd hc (by first | exact hc2 | exact fun z => z hc2))⟩
    next hc =>
      cases ho
      exact ⟨Nat.le_refl _, Nat.le_refl _, fun _ _ K H locs ls hl hh hS => lv_if_lt X.1 X.2.1 hd ht (fun hc2 => absurd hc2 (by first | exact hc | exact fun z => hc z)) (fun _ => (K H locs ls hl hh hS))⟩
  · cases ho
theorem ok_icmp_lt {off : Int} {t : Nat} (hd : decode cc pc = .ok (.if_icmp .lt off, 3)) (ht : (pc : Int) + off = (t : Int)) : sx_Ok own cc nL nm ret pc (si_i2 (fun x y => x < y) t (pc + 3)) := by
  refine sx_Ok_of ?_ (by
  intro L st h r ho
  unfold si_i2 at ho
  repeat' split at ho
  all_goals first | cases ho | exact sx_nx_r ho) (by
  intro L st h r ho
  unfold si_i2 at ho
  repeat' split at ho
  all_goals first | cases ho | exact sx_nx_c ho)
  intro d D cA ad bs n0 z0 p l e R s m args below meth c Q X L st h s' hn hz ho
  unfold si_i2 at ho
  split at ho
  · split at ho
    next hc =>
      cases ho
      exact ⟨Nat.le_refl _, Nat.le_refl _, fun _ _ K H locs ls hl hh hS => lv_icmp_lt X.1 X.2.1 hd ht (fun _ => (K H locs ls hl hh hS)) (fun hc2 => absurd hc (by first | exact hc2 | exact fun z => z hc2))⟩
    next hc =>
      cases ho
      exact ⟨Nat.le_refl _, Nat.le_refl _, fun _ _ K H locs ls hl hh hS => lv_icmp_lt X.1 X.2.1 hd ht (fun hc2 => absurd hc2 (by first | exact hc | exact fun z => hc z)) (fun _ => (K H locs ls hl hh hS))⟩
  · cases ho
theorem ok_if_ge {off : Int} {t : Nat} (hd : decode cc pc = .ok (.ifCond .ge off, 3)) (ht : (pc : Int) + off = (t : Int)) : sx_Ok own cc nL nm ret pc (si_i1 (fun x => 0 ≤ x) t (pc + 3)) := by
  refine sx_Ok_of ?_ (by
  intro L st h r ho
  unfold si_i1 at ho
  repeat' split at ho
  all_goals first | cases ho | exact sx_nx_r ho) (by
  intro L st h r ho
  unfold si_i1 at ho
  repeat' split at ho
  all_goals first | cases ho | exact sx_nx_c ho)
  intro d D cA ad bs n0 z0 p l e R s m args below meth c Q X L st h s' hn hz ho
  unfold si_i1 at ho
  split at ho
  · split at ho
    next hc =>
      cases ho
      exact ⟨Nat.le_refl _, Nat.le_refl _, fun _ _ K H locs ls hl hh hS => lv_if_ge X.1 X.2.1 hd ht (fun _ => (K H locs ls hl hh hS)) (fun hc2 => absurd hc (by first | exact hc2 | exact fun z => z hc2))⟩
    next hc =>
      cases ho
      exact ⟨Nat.le_refl _, Nat.le_refl _, fun _ _ K H locs ls hl hh hS => lv_if_ge X.1 X.2.1 hd ht (fun hc2 => absurd hc2 (by first | exact hc | exact fun z => hc z)) (fun _ => (K H locs ls hl hh hS))⟩
  · cases ho
theorem ok_icmp_ge {off : Int} {t : Nat} (hd : decode cc pc = .ok (.if_icmp .ge off, 3)) (ht : (pc : Int) + off = (t : Int)) : sx_Ok own cc nL nm ret pc (si_i2 (fun x y => y ≤ x) t (pc + 3)) := by
  refine sx_Ok_of ?_ (by
  intro L st h r ho
  unfold si_i2 at ho
  repeat' split at ho
  all_goals first | cases ho | exact sx_nx_r ho) (by
  intro L st h r ho
  unfold si_i2 at ho
  repeat' split at ho
  all_goals first | cases ho | exact sx_nx_c ho)
  intro d D cA ad bs n0 z0 p l e R s m args below meth c Q X L st h s' hn hz ho
  unfold si_i2 at ho
  split at ho
  · split at ho
    next hc =>
      cases ho
      exact ⟨Nat.le_refl _, Nat.le_refl _, fun _ _ K H locs ls hl hh hS => lv_icmp_ge X.1 X.2.1 hd ht (fun _ => (K H locs ls hl hh hS)) (fun hc2 => absurd hc (by first | exact hc2 | exact fun z => z hc2))⟩
    next hc =>
      cases ho
      exact ⟨Nat.le_refl _, Nat.le_refl _, fun _ _ K H locs ls hl hh hS => lv_icmp_ge X.1 X.2.1 hd ht (fun hc2 => absurd hc2 (by first | exact hc | exact fun z => hc z)) (fun _ => (K H locs ls hl hh hS))⟩
  · cases ho
theorem ok_if_gt {off : Int} {t : Nat} (hd : decode cc pc = .ok (.ifCond .gt off, 3)) (ht : (pc : Int) + off = (t : Int)) : sx_Ok own cc nL nm ret pc (si_i1 (fun x => 0 < x) t (pc + 3)) := by
  refine sx_Ok_of ?_ (by
  intro L st h r ho
  unfold si_i1 at ho
  repeat' split at ho
  all_goals first | cases ho | exact sx_nx_r ho) (by
  intro L st h r ho
  unfold si_i1 at ho
  repeat' split at ho
  all_goals first | cases ho | exact sx_nx_c ho)
  intro d D cA ad bs n0 z0 p l e R s m args below meth c Q X L st h s' hn hz ho
  unfold si_i1 at ho
  split at ho
  · split at ho
    next hc =>
      cases ho
      exact ⟨Nat.le_refl _, Nat.le_refl _, fun _ _ K H locs ls hl hh hS => lv_if_gt X.1 X.2.1 hd ht (fun _ => (K H locs ls hl hh hS)) (fun hc2 => absurd hc (by first | exact hc2 | exact fun z => z hc2))⟩
    next hc =>
      cases ho
      exact ⟨Nat.le_refl _, Nat.le_refl _, fun _ _ K H locs ls hl hh hS => lv_if_gt X.1 X.2.1 hd ht (fun hc2 => absurd hc2 (by first | exact hc | exact fun z => hc z)) (fun _ => (K H locs ls hl hh hS))⟩
  · cases ho
theorem ok_icmp_gt {off : Int} {t : Nat} (hd : decode cc pc = .ok (.if_icmp .gt off, 3)) (ht : (pc : Int) + off = (t : Int)) : sx_Ok own cc nL nm ret pc (si_i2 (fun x y => y < x) t (pc + 3)) := by
  refine sx_Ok_of ?_ (by
  intro L st h r ho
  unfold si_i2 at ho
  repeat' split at ho
  all_goals first | cases ho | exact sx_nx_r ho) (by
  intro L st h r ho
  unfold si_i2 at ho
  repeat' split at ho
  all_goals first | cases ho | exact sx_nx_c ho)
  intro d D cA ad bs n0 z0 p l e R s m args below meth c Q X L st h s' hn hz ho
  unfold si_i2 at ho
  split at ho
  · split at ho
    next hc =>
      cases ho
      exact ⟨Nat.le_refl _, Nat.le_refl _, fun _ _ K H locs ls hl hh hS => lv_icmp_gt X.1 X.2.1 hd ht (fun _ => (K H locs ls hl hh hS)) (fun hc2 => absurd hc (by first | exact hc2 | exact fun z => z hc2))⟩
    next hc =>
      cases ho
      exact ⟨Nat.le_refl _, Nat.le_refl _, fun _ _ K H locs ls hl hh hS => lv_icmp_gt X.1 X.2.1 hd ht (fun hc2 => absurd hc2 (by first | exact hc | exact fun z => hc z)) (fun _ => (K H locs ls hl hh hS))⟩
  · cases ho
theorem ok_if_le {off : Int} {t : Nat} (hd : decode cc pc = .ok (.ifCond .le off, 3)) (ht : (pc : Int) + off = (t : Int)) : sx_Ok own cc nL nm ret pc (si_i1 (fun x => x ≤ 0) t (pc + 3)) := by
  refine sx_Ok_of ?_ (by
  intro L st h r ho
  unfold si_i1 at ho
  repeat' split at ho
  all_goals first | cases ho | exact sx_nx_r ho) (by
  intro L st h r ho
  unfold si_i1 at ho
  repeat' split at ho
  all_goals first | cases ho | exact sx_nx_c ho)
  intro d D cA ad bs n0 z0 p l e R s m args below meth c Q X L st h s' hn hz ho
  unfold si_i1 at ho
  split at ho
  · split at ho
    next hc =>
      cases ho
      exact ⟨Nat.le_refl _, Nat.le_refl _, fun _ _ K H locs ls hl hh hS => lv_if_le X.1 X.2.1 hd ht (fun _ => (K H locs ls hl hh hS)) (fun hc2 => absurd hc (by first | exact hc2 | exact fun z => z hc2))⟩
    next hc =>
      cases ho
      exact ⟨Nat.le_refl _, Nat.le_refl _, fun _ _ K H locs ls hl hh hS => lv_if_le X.1 X.2.1 hd ht (fun hc2 => absurd hc2 (by first | exact hc | exact fun z => hc z)) (fun _ => (K H locs ls hl hh hS))⟩
  · cases ho
theorem ok_icmp_le {off : Int} {t : Nat} (hd : decode cc pc = .ok (.if_icmp .le off, 3)) (ht : (pc : Int) + off = (t : Int)) : sx_Ok own cc nL nm ret pc (si_i2 (fun x y => x ≤ y) t (pc + 3)) := by
  refine sx_Ok_of ?_ (by
  intro L st h r ho
  unfold si_i2 at ho
  repeat' split at ho
  all_goals first | cases ho | exact sx_nx_r ho) (by
  intro L st h r ho
  unfold si_i2 at ho
  repeat' split at ho
  all_goals first | cases ho | exact sx_nx_c ho)
  intro d D cA ad bs n0 z0 p l e R s m args below meth c Q X L st h s' hn hz ho
  unfold si_i2 at ho
  split at ho
  · split at ho
    next hc =>
      cases ho
      exact ⟨Nat.le_refl _, Nat.le_refl _, fun _ _ K H locs ls hl hh hS => lv_icmp_le X.1 X.2.1 hd ht (fun _ => (K H locs ls hl hh hS)) (fun hc2 => absurd hc (by first | exact hc2 | exact fun z => z hc2))⟩
    next hc =>
      cases ho
      exact ⟨Nat.le_refl _, Nat.le_refl _, fun _ _ K H locs ls hl hh hS => lv_icmp_le X.1 X.2.1 hd ht (fun hc2 => absurd hc2 (by first | exact hc | exact fun z => hc z)) (fun _ => (K H locs ls hl hh hS))⟩
  · cases ho
theorem ok_goto {off : Int} {t : Nat} (hd : decode cc pc = .ok (.goto off, 3)) (ht : (pc : Int) + off = (t : Int)) : sx_Ok own cc nL nm ret pc (si_go t) := by
  refine sx_Ok_of ?_ (by
  intro L st h r ho
  unfold si_go at ho
  repeat' split at ho
  all_goals first | cases ho | exact sx_nx_r ho) (by
  intro L st h r ho
  unfold si_go at ho
  repeat' split at ho
  all_goals first | cases ho | exact sx_nx_c ho)
  intro d D cA ad bs n0 z0 p l e R s m args below meth c Q X L st h s' hn hz ho
  unfold si_go at ho
  cases ho
  exact ⟨Nat.le_refl _, Nat.le_refl _, fun _ _ K H locs ls hl hh hS => lv_goto X.1 X.2.1 hd ht (K H locs ls hl hh hS)⟩
theorem ok_ifnull {off : Int} {t : Nat} (hd : decode cc pc = .ok (.ifnull off, 3)) (ht : (pc : Int) + off = (t : Int)) : sx_Ok own cc nL nm ret pc (si_ifn t (pc + 3)) := by
  refine sx_Ok_of ?_ (by
  intro L st h r ho
  unfold si_ifn at ho
  repeat' split at ho
  all_goals first | cases ho | exact sx_nx_r ho) (by
  intro L st h r ho
  unfold si_ifn at ho
  repeat' split at ho
  all_goals first | cases ho | exact sx_nx_c ho)
  intro d D cA ad bs n0 z0 p l e R s m args below meth c Q X L st h s' hn hz ho
  unfold si_ifn at ho
  split at ho
  · cases ho
    exact ⟨Nat.le_refl _, Nat.le_refl _, fun _ _ K H locs ls hl hh hS => lv_ifnullN X.1 X.2.1 hd ht (K H locs ls hl hh hS)⟩
  · cases ho
    exact ⟨Nat.le_refl _, Nat.le_refl _, fun _ _ K H locs ls hl hh hS => lv_ifnull X.1 X.2.1 hd (K H locs ls hl hh hS)⟩
  · cases ho
theorem ok_acmpne {off : Int} {t : Nat} (hd : decode cc pc = .ok (.if_acmp .ne off, 3)) (ht : (pc : Int) + off = (t : Int)) : sx_Ok own cc nL nm ret pc (si_acn t (pc + 3)) := by
  refine sx_Ok_of ?_ (by
  intro L st h r ho
  unfold si_acn at ho
  repeat' split at ho
  all_goals first | cases ho | exact sx_nx_r ho) (by
  intro L st h r ho
  unfold si_acn at ho
  repeat' split at ho
  all_goals first | cases ho | exact sx_nx_c ho)
  intro d D cA ad bs n0 z0 p l e R s m args below meth c Q X L st h s' hn hz ho
  unfold si_acn at ho
  have hA := X.2.2.2.2.2.2.2.2.2.2.2.2.2.2.2.2
  have hinj0 : ∀ a b : Nat, (0 < a ∧ a ≤ 900) ∧ (0 < b ∧ b ≤ 900) → ad.1 a = ad.1 b → a = b := by
    intro a b ⟨⟨h1, h2⟩, h3, h4⟩
    obtain ⟨a', rfl⟩ : ∃ z, a = z + 1 := ⟨a - 1, by omega⟩
    obtain ⟨b', rfl⟩ : ∃ z, b = z + 1 := ⟨b - 1, by omega⟩
    rw [hA a' (by omega), hA b' (by omega)]
    omega
  split at ho
  next b a st =>
    split at ho
    next hr =>
      have hinj : ad.1 a = ad.1 b → a = b := hinj0 a b hr
      split at ho
      next hab =>
        cases ho
        exact ⟨Nat.le_refl _, Nat.le_refl _, fun _ _ K H locs ls hl hh hS => lv_acmp_ne (rx := some (ad.1 a)) (ry := some (ad.1 b)) X.1 X.2.1 hd ht (fun z => absurd (by rw [hab]) z) (fun _ => (K H locs ls hl hh hS))⟩
      next hab =>
        cases ho
        exact ⟨Nat.le_refl _, Nat.le_refl _, fun _ _ K H locs ls hl hh hS => lv_acmp_ne (rx := some (ad.1 a)) (ry := some (ad.1 b)) X.1 X.2.1 hd ht (fun _ => (K H locs ls hl hh hS)) (fun z => absurd (hinj (Option.some.inj z)) hab)⟩
    next => cases ho
  next => cases ho
/-- a tableswitch's table as cases -/
def sx_swOK (cs : List (Int32 × Nat)) (d pc : Nat) (df lo hi : Int) (offs : Array Int) : Bool :=
  decide ((pc : Int) + df = (d : Int)) && (decide (hi + 1 = lo + cs.length) && (List.range cs.length).all (fun i => match cs[i]?, offs[i]? with
    | some q, some o => decide (q.1.toInt = lo + i) && decide ((pc : Int) + o = (q.2 : Int))
    | _, _ => false))
theorem sx_sw_out : ∀ (cs : List (Int32 × Nat)) (d : Nat) (x : Int32), (∀ q ∈ cs, ¬ x = q.1) → sx_sw cs d x = d := by
  intro cs
  induction cs with
  | nil => intro d x _; rfl
  | cons q r ih =>
    intro d x h
    rw [sx_sw, if_neg (h q List.mem_cons_self)]
    exact ih d x (fun q hq => h q (List.mem_cons_of_mem _ hq))
theorem sx_sw_in : ∀ (cs : List (Int32 × Nat)) (d : Nat) (x : Int32) (i : Nat) (q : Int32 × Nat), cs[i]? = some q → x = q.1 → (∀ j q', j < i → cs[j]? = some q' → ¬ x = q'.1) → sx_sw cs d x = q.2 := by
  intro cs
  induction cs with
  | nil => intro d x i q h; simp at h
  | cons a r ih =>
    intro d x i q h e hn
    cases i with
    | zero =>
      simp at h
      subst h
      rw [sx_sw, if_pos e]
    | succ i =>
      rw [sx_sw, if_neg (hn 0 a (by omega) (by simp))]
      exact ih d x i q (by simpa using h) e (fun j q' hj hq => hn (j + 1) q' (by omega) (by simpa using hq))
theorem ok_tsw {cs : List (Int32 × Nat)} {dd len : Nat} {df lo hi : Int} {offs : Array Int} (hd : decode cc pc = .ok (.tableswitch df lo hi offs, len)) (hk : sx_swOK cs dd pc df lo hi offs = true) : sx_Ok own cc nL nm ret pc (si_sw cs dd) := by
  refine sx_Ok_of ?_ (by
  intro L st h r ho
  unfold si_sw at ho
  repeat' split at ho
  all_goals first | cases ho | exact sx_nx_r ho) (by
  intro L st h r ho
  unfold si_sw at ho
  repeat' split at ho
  all_goals first | cases ho | exact sx_nx_c ho)
  intro d D cA ad bs n0 z0 p l e R s m args below meth c Q X L st h s' hn hz ho
  unfold si_sw at ho
  unfold sx_swOK at hk
  simp only [Bool.and_eq_true, decide_eq_true_eq] at hk
  obtain ⟨k1, k2, k3⟩ := hk
  have k4 : ∀ i : Nat, i < cs.length → ∃ q o, cs[i]? = some q ∧ offs[i]? = some o ∧ q.1.toInt = lo + i ∧ (pc : Int) + o = (q.2 : Int) := by
    intro i hi
    have h1 := List.all_eq_true.mp k3 i (List.mem_range.mpr hi)
    cases hq : cs[i]? with
    | none => simp [hq] at h1
    | some q =>
      cases ho2 : offs[i]? with
      | none => simp [hq, ho2] at h1
      | some o =>
        simp only [hq, ho2, Bool.and_eq_true, decide_eq_true_eq] at h1
        exact ⟨q, o, rfl, rfl, h1.1, h1.2⟩
  split at ho
  next x st =>
    cases ho
    refine ⟨Nat.le_refl _, Nat.le_refl _, fun _ _ K H locs ls hl hh hS => ?_⟩
    by_cases hx : x.toInt < lo ∨ hi < x.toInt
    · refine lv_tableOut X.1 X.2.1 hd hx (tgt := sx_sw cs dd x) ?_ (K H locs ls hl hh hS)
      rw [sx_sw_out cs dd x (fun q hq => ?_)]
      · exact k1
      · obtain ⟨i, hi⟩ := List.getElem?_of_mem hq
        have hlt := (List.getElem?_eq_some_iff.mp hi).1
        obtain ⟨q', o', e1, -, e3, -⟩ := k4 i hlt
        rw [hi] at e1
        cases e1
        intro e
        rw [e] at hx
        omega
    · have h1 : ¬ x.toInt < lo := fun z => hx (Or.inl z)
      have h2 : ¬ hi < x.toInt := fun z => hx (Or.inr z)
      have hi2 : (x.toInt - lo).toNat < cs.length := by omega
      obtain ⟨q, o', e1, e2, e3, e4⟩ := k4 _ hi2
      refine lv_tableIn X.1 X.2.1 hd h1 h2 e2 (tgt := sx_sw cs dd x) ?_ (K H locs ls hl hh hS)
      have ex : x = q.1 := Int32.toInt_inj.mp (by rw [e3]; omega)
      rw [sx_sw_in cs dd x _ q e1 ex (fun j q' hj hq' => ?_)]
      · exact e4
      · obtain ⟨q2, o2, f1, -, f3, -⟩ := k4 j (by omega)
        rw [hq'] at f1
        cases f1
        intro e
        have : x.toInt = q'.1.toInt := by rw [e]
        omega
  next => cases ho
theorem ok_dup (hd : decode cc pc = .ok (.dup, 1)) : sx_Ok own cc nL nm ret pc (si_dup (pc + 1)) := by
  refine sx_Ok_of ?_ (by
  intro L st h r ho
  unfold si_dup at ho
  repeat' split at ho
  all_goals first | cases ho | exact sx_nx_r ho) (by
  intro L st h r ho
  unfold si_dup at ho
  repeat' split at ho
  all_goals first | cases ho | exact sx_nx_c ho)
  intro d D cA ad bs n0 z0 p l e R s m args below meth c Q X L st h s' hn hz ho
  unfold si_dup at ho
  split at ho
  next v st =>
    split at ho
    next hv =>
      cases ho
      exact ⟨Nat.le_refl _, Nat.le_refl _, fun _ _ K H locs ls hl hh hS => lv_dup X.1 X.2.1 hd (by rw [sx_mv_cat]; cases v <;> simp_all [sx_c1, Value.category]) (K H locs ls hl hh hS)⟩
    next => cases ho
  next => cases ho
theorem ok_pop (hd : decode cc pc = .ok (.pop, 1)) : sx_Ok own cc nL nm ret pc (si_pop (pc + 1)) := by
  refine sx_Ok_of ?_ (by
  intro L st h r ho
  unfold si_pop at ho
  repeat' split at ho
  all_goals first | cases ho | exact sx_nx_r ho) (by
  intro L st h r ho
  unfold si_pop at ho
  repeat' split at ho
  all_goals first | cases ho | exact sx_nx_c ho)
  intro d D cA ad bs n0 z0 p l e R s m args below meth c Q X L st h s' hn hz ho
  unfold si_pop at ho
  split at ho
  next v st =>
    split at ho
    next hv =>
      cases ho
      exact ⟨Nat.le_refl _, Nat.le_refl _, fun _ _ K H locs ls hl hh hS => lv_pop X.1 X.2.1 hd (by rw [sx_mv_cat]; cases v <;> simp_all [sx_c1, Value.category]) (K H locs ls hl hh hS)⟩
    next => cases ho
  next => cases ho
theorem ok_dup2 (hd : decode cc pc = .ok (.dup2, 1)) : sx_Ok own cc nL nm ret pc (si_dp2 (pc + 1)) := by
  refine sx_Ok_of ?_ (by
  intro L st h r ho
  unfold si_dp2 at ho
  repeat' split at ho
  all_goals first | cases ho | exact sx_nx_r ho) (by
  intro L st h r ho
  unfold si_dp2 at ho
  repeat' split at ho
  all_goals first | cases ho | exact sx_nx_c ho)
  intro d D cA ad bs n0 z0 p l e R s m args below meth c Q X L st h s' hn hz ho
  unfold si_dp2 at ho
  split at ho
  next v w st =>
    split at ho
    next hv =>
      obtain ⟨hv, hw⟩ := hv
      cases ho
      exact ⟨Nat.le_refl _, Nat.le_refl _, fun _ _ K H locs ls hl hh hS => lv_dup2_11 X.1 X.2.1 hd (by rw [sx_mv_cat]; cases v <;> simp_all [sx_c1, Value.category]) (by rw [sx_mv_cat]; cases w <;> simp_all [sx_c1, Value.category]) (K H locs ls hl hh hS)⟩
    next => cases ho
  next => cases ho
end OK1
