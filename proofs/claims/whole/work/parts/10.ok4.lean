/-! OK (4): answers and calls. Written by wip/gen/ok4.py -/
section OK4
variable {own : String} {cc : ByteArray} {nL : Nat} {nm : String} {ret : Option FieldType} {pc : Nat}

theorem ok_sl (hd : decode cc pc = .ok (.arraylength, 1)) : sx_Ok own cc nL nm ret pc (si_sl (pc + 1)) := by
  refine sx_Ok_of ?_ (by
  intro L st h r ho
  unfold si_sl at ho
  repeat' split at ho
  all_goals first | cases ho | exact sx_nx_r ho | (obtain ⟨_, _, ho⟩ := Option.bind_eq_some_iff.mp ho; exact sx_nx_r ho)) (by
  intro L st h r ho
  unfold si_sl at ho
  repeat' split at ho
  all_goals first | cases ho | exact sx_nx_c ho | (obtain ⟨_, _, ho⟩ := Option.bind_eq_some_iff.mp ho; exact sx_nx_c ho))
  intro d D cA ad bs n0 z0 p l e R s m args below meth c Q X L st h s' hn hz ho
  obtain ⟨hx, hb, hml, hown, hts, hnm2, hroom, hs0, hT⟩ := X
  have hK := hT.1
  have hA : ∀ k, k < 900 → ad.1 (k + 1) = bs + k := hT.2.2.2.2.2.2.2.2
  unfold si_sl at ho
  split at ho
  next a st =>
    split at ho
    next hc =>
      cases ho
      refine ⟨Nat.le_refl _, Nat.le_refl _, fun _ _ K H locs ls hl hh hS => ?_⟩
      obtain ⟨i, hi, rfl⟩ : ∃ i : Nat, i < 14 ∧ a = 1100 + i := sx_off 1100 a hc
      have hE := (hT.2.2.2.2.1.1 i hi).2.2.2
      have K2 := K H locs ls hl hh hS
      dsimp only at K2
      rw [show 1100 + i - 1100 = i by omega] at K2
      exact va_tlen hx hb hE hS rfl hd K2
    next => cases ho
  next => cases ho
theorem ok_ba (hd : decode cc pc = .ok (.baload, 1)) : sx_Ok own cc nL nm ret pc (si_ba (pc + 1)) := by
  refine sx_Ok_of ?_ (by
  intro L st h r ho
  unfold si_ba at ho
  repeat' split at ho
  all_goals first | cases ho | exact sx_nx_r ho | (obtain ⟨_, _, ho⟩ := Option.bind_eq_some_iff.mp ho; exact sx_nx_r ho)) (by
  intro L st h r ho
  unfold si_ba at ho
  repeat' split at ho
  all_goals first | cases ho | exact sx_nx_c ho | (obtain ⟨_, _, ho⟩ := Option.bind_eq_some_iff.mp ho; exact sx_nx_c ho))
  intro d D cA ad bs n0 z0 p l e R s m args below meth c Q X L st h s' hn hz ho
  obtain ⟨hx, hb, hml, hown, hts, hnm2, hroom, hs0, hT⟩ := X
  have hK := hT.1
  have hA : ∀ k, k < 900 → ad.1 (k + 1) = bs + k := hT.2.2.2.2.2.2.2.2
  unfold si_ba at ho
  split at ho
  next j a st =>
    split at ho
    next hc =>
      obtain ⟨hc, hj⟩ := hc
      cases ho
      refine ⟨Nat.le_refl _, Nat.le_refl _, fun _ _ K H locs ls hl hh hS => ?_⟩
      obtain ⟨i, hi, rfl⟩ : ∃ i : Nat, i < 14 ∧ a = 1100 + i := sx_off 1100 a hc
      have hE := (hT.2.2.2.2.1.1 i hi).2.2.2
      have K2 := K H locs ls hl hh hS
      dsimp only at K2
      rw [show 1100 + i - 1100 = i by omega] at K2 hj
      exact va_tb hx hb hE hS (sx_in_vp hj) rfl hd K2
    next => cases ho
  next => cases ho
theorem ok_ri (hr : ret = some .int) (hd : decode cc pc = .ok (.ireturn, 1)) : sx_Ok own cc nL nm ret pc (si_ri) := by
  intro d D cA ad bs n0 z0 p l e R s m args below meth c Q X L st h hn hz
  cases ho : (si_ri) L st h with
  | none => trivial
  | some q =>
    unfold si_ri at ho
    split at ho
    next v =>
      cases ho
      exact Or.inl ⟨v, .int, hr, rfl, hd, rfl, rfl⟩
    next => cases ho
theorem ok_rz {ty : FieldType} (hr : ret = some ty) (hd : decode cc pc = .ok (.ireturn, 1)) : sx_Ok own cc nL nm ret pc (si_rz ty) := by
  intro d D cA ad bs n0 z0 p l e R s m args below meth c Q X L st h hn hz
  cases ho : (si_rz ty) L st h with
  | none => trivial
  | some q =>
    unfold si_rz at ho
    split at ho
    next v =>
      split at ho
      next hn =>
        cases ho
        exact Or.inl ⟨v, ty, hr, hn, hd, rfl, rfl⟩
      next => cases ho
    next => cases ho
theorem ok_rj (hr : ret = some .long) (hd : decode cc pc = .ok (.lreturn, 1)) : sx_Ok own cc nL nm ret pc (si_rj) := by
  intro d D cA ad bs n0 z0 p l e R s m args below meth c Q X L st h hn hz
  cases ho : (si_rj) L st h with
  | none => trivial
  | some q =>
    unfold si_rj at ho
    split at ho
    next v =>
      cases ho
      exact Or.inr (Or.inl ⟨v, hr, hd, rfl, rfl⟩)
    next => cases ho
theorem ok_rv (hr : ret = none) (hd : decode cc pc = .ok (.return_, 1)) : sx_Ok own cc nL nm ret pc (si_rv) := by
  intro d D cA ad bs n0 z0 p l e R s m args below meth c Q X L st h hn hz
  cases ho : (si_rv) L st h with
  | none => trivial
  | some q =>
    unfold si_rv at ho
    split at ho
    next =>
      cases ho
      exact Or.inr (Or.inr ⟨hr, hd, rfl, rfl⟩)
    next => cases ho
end OK4
theorem sx_none_ok {own : String} {cc : ByteArray} {nL : Nat} {nm : String} {ret : Option FieldType} {pc : Nat} : sx_Ok own cc nL nm ret pc (fun _ _ _ => none) := by
  intro d D cA ad bs n0 z0 p l e R s m args below meth c Q X L st h hn hz
  trivial
theorem sx_goodc {w : Cond} (h : w ∈ lw_good) : GoodIn lw_good (w :: lw_good) := by
  intro v hv
  rcases List.mem_cons.mp hv with rfl | hv
  · exact ⟨h, good_of_word (List.mem_filter.mp h).2⟩
  · exact ⟨hv, good_of_word (List.mem_filter.mp hv).2⟩
/-- what is known of a callee: its key, its code's word, its class, its arguments' number, few locals -/
def sx_Ke (k n : Nat) (y : MethodName) (bytes : ByteArray) (maxL : Nat) (rt : Option FieldType) : Prop := sx_ml[k]? = some (y, bytes, maxL, rt) ∧ Cond.code y bytes maxL rt ∈ lw_good ∧ Cond.initialized y.cls ∈ lw_good ∧ (y.cls ≠ "java/lang/invoke/MethodHandle" ∧ y.cls ≠ "java/lang/invoke/VarHandle" ∧ (parseMethodDescriptor y.desc).map (fun d => d.parameters.length) = some n) ∧ maxL ≤ 21
theorem sx_toL (ad : sx_AD) (v : Option Value) (r : List Value) : (v.map (sx_mv ad)).toList ++ r.map (sx_mv ad) = (v.toList ++ r).map (sx_mv ad) := by
  cases v <;> simp
theorem sx_r8_sum (ad : sx_AD) (l : List Value) (h : sx_r8 l = true) : (((l.map (sx_mv ad))).map fun v => v.category).sum ≤ 8 := by
  unfold sx_r8 at h
  simp only [Bool.or_eq_true, decide_eq_true_eq] at h
  rcases h with h | h
  · exact sx_sum8 _ (by rw [List.length_map]; exact h)
  · have e : ((l.map (sx_mv ad)).map fun v => v.category) = l.map fun v => v.category := by
      rw [List.map_map]
      apply List.map_congr_left
      intro v _
      exact sx_mv_cat ad v
    rw [e]
    exact h
section CALLS
variable {own : String} {cc : ByteArray} {nL : Nat} {nm : String} {ret : Option FieldType} {pc : Nat}
variable {k n idx maxL : Nat} {y : MethodName} {bytes : ByteArray} {rt : Option FieldType}

theorem ok_cs (hk : sx_Ke k n y bytes maxL rt) (hw : Cond.methodLink own idx y ∈ lw_good) (hw2 : Cond.static y ∈ lw_good) (hd : decode cc pc = .ok (.invokestatic idx, 3)) : sx_Ok own cc nL nm ret pc (si_cs k n (pc + 3)) := by
  intro d D cA ad bs n0 z0 p l e R s m args below meth c Q X L st h hn hz
  obtain ⟨hx, hb, hml, hown, hts, hnm2, hroom, hs0, hT⟩ := X
  have hK := hT.1
  have hA : ∀ k, k < 900 → ad.1 (k + 1) = bs + k := hT.2.2.2.2.2.2.2.2
  obtain ⟨hk1, hk2, hk3, hk4, hk5⟩ := hk
  unfold si_cs
  by_cases hc : n ≤ st.length ∧ sx_r8 (st.drop n) = true
  · rw [if_pos hc]
    refine ⟨rfl, fun v h' hC hl1 hl2 r1 r2 K H locs ls hl hh hS => ?_⟩
    dsimp only at hC hl hh ⊢
    have hM := hC _ hk1
    refine sx_sized hs0 hn hh.1 hS (fun hsz => ?_)
    have hst : (st.map (sx_mv ad)) = (((st.take n).reverse.map (sx_mv ad))).reverse ++ (st.drop n).map (sx_mv ad) := by
      rw [← List.map_reverse, List.reverse_reverse, ← List.map_append, List.take_append_drop]
    have hln : ((st.take n).reverse.map (sx_mv ad)).length = n := by simp; omega
    have h8 : ((((st.drop n).map (sx_mv ad))).map fun v => v.category).sum ≤ 8 := sx_r8_sum ad _ hc.2
    have y1 : h.length - n0 + (h'.length - h.length) = h'.length - n0 := by omega
    have y2 : sx_sz h - z0 + (sx_sz h' - sx_sz h) = sx_sz h' - z0 := by omega
    refine sx_back (v := v) (h' := h') (rest := (st.drop n).map (sx_mv ad)) (mc := h'.length - h.length) (ms := sx_sz h' - sx_sz h) (va_runS (rest := (st.drop n).map (sx_mv ad)) ⟨hx, hb, hml, hown, hts⟩ hM ⟨callB_of (rm := ⟨d, h'.length - h.length, sx_sz h' - sx_sz h, 40 * d⟩) n hts (sx_goodc hk2) rfl rfl rfl (hts _ hk3) (hts _ hw) hk4 ⟨by dsimp only; omega, by dsimp only; omega⟩, hts _ hw2⟩ (sx_preS hT hh hS hsz) rfl hln (hl.1.trans hml) hst (lv_room h8) hd ⟨by rw [y1]; exact r1, by rw [y2]; exact r2⟩) hS (fun H1 locs1 hh1 hS1 => ?_)
    have K2 := K H1 locs1 ls hl hh1 hS1
    dsimp only [sx_bk] at K2
    rw [y1, y2, sx_toL]
    exact K2
  · rw [if_neg hc]
    trivial
theorem ok_csN (hk : sx_Ke k n y bytes maxL rt) {host : String} (hw : (own, idx, y, host) ∈ sx_nm) (hw2 : Cond.static y ∈ lw_good) (hd : decode cc pc = .ok (.invokestatic idx, 3)) : sx_Ok own cc nL nm ret pc (si_cs k n (pc + 3)) := by
  intro d D cA ad bs n0 z0 p l e R s m args below meth c Q X L st h hn hz
  obtain ⟨hx, hb, hml, hown, hts, hnm2, hroom, hs0, hT⟩ := X
  have hK := hT.1
  have hA : ∀ k, k < 900 → ad.1 (k + 1) = bs + k := hT.2.2.2.2.2.2.2.2
  obtain ⟨hk1, hk2, hk3, hk4, hk5⟩ := hk
  unfold si_cs
  by_cases hc : n ≤ st.length ∧ sx_r8 (st.drop n) = true
  · rw [if_pos hc]
    refine ⟨rfl, fun v h' hC hl1 hl2 r1 r2 K H locs ls hl hh hS => ?_⟩
    dsimp only at hC hl hh ⊢
    have hM := hC _ hk1
    refine sx_sized hs0 hn hh.1 hS (fun hsz => ?_)
    have hst : (st.map (sx_mv ad)) = (((st.take n).reverse.map (sx_mv ad))).reverse ++ (st.drop n).map (sx_mv ad) := by
      rw [← List.map_reverse, List.reverse_reverse, ← List.map_append, List.take_append_drop]
    have hln : ((st.take n).reverse.map (sx_mv ad)).length = n := by simp; omega
    have h8 : ((((st.drop n).map (sx_mv ad))).map fun v => v.category).sum ≤ 8 := sx_r8_sum ad _ hc.2
    have y1 : h.length - n0 + (h'.length - h.length) = h'.length - n0 := by omega
    have y2 : sx_sz h - z0 + (sx_sz h' - sx_sz h) = sx_sz h' - z0 := by omega
    refine sx_back (v := v) (h' := h') (rest := (st.drop n).map (sx_mv ad)) (mc := h'.length - h.length) (ms := sx_sz h' - sx_sz h) (va_runSN (host := host) (rest := (st.drop n).map (sx_mv ad)) ⟨hx, hb, hml, hown, hts⟩ hM ⟨va_cnB (rm := ⟨d, h'.length - h.length, sx_sz h' - sx_sz h, 40 * d⟩) n hts (sx_goodc hk2) rfl rfl rfl (hT.2.1 _ hw) (hts _ hk3) hk4 ⟨by dsimp only; omega, by dsimp only; omega⟩, hts _ hw2, trivial⟩ (sx_preS hT hh hS hsz) rfl hln (hl.1.trans hml) hst (lv_room h8) hd ⟨by rw [y1]; exact r1, by rw [y2]; exact r2⟩) hS (fun H1 locs1 hh1 hS1 => ?_)
    have K2 := K H1 locs1 ls hl hh1 hS1
    dsimp only [sx_bk] at K2
    rw [y1, y2, sx_toL]
    exact K2
  · rw [if_neg hc]
    trivial
theorem ok_ci (hk : sx_Ke k n y bytes maxL none) (hy : y.name = "<init>") (hw : Cond.methodLink own idx y ∈ lw_good) (hw2 : Cond.instanceMethod y ∈ lw_good) (hd : decode cc pc = .ok (.invokespecial idx, 3)) : sx_Ok own cc nL nm ret pc (si_ci k n (pc + 3)) := by
  intro d D cA ad bs n0 z0 p l e R s m args below meth c Q X L st h hn hz
  obtain ⟨hx, hb, hml, hown, hts, hnm2, hroom, hs0, hT⟩ := X
  have hK := hT.1
  have hA : ∀ k, k < 900 → ad.1 (k + 1) = bs + k := hT.2.2.2.2.2.2.2.2
  obtain ⟨hk1, hk2, hk3, hk4, hk5⟩ := hk
  cases ho : si_ci k n (pc + 3) L st h with
  | none => trivial
  | some q =>
    unfold si_ci at ho
    split at ho
    next b r hdr =>
      split at ho
      next hc =>
        cases ho
        refine ⟨rfl, fun v h' hC hl1 hl2 r1 r2 K H locs ls hl hh hS => ?_⟩
        dsimp only at hC hl hh ⊢
        have hM := hC _ hk1
        refine sx_sized hs0 hn hh.1 hS (fun hsz => ?_)
        have hst : (st.map (sx_mv ad)) = (((st.take n).reverse.map (sx_mv ad))).reverse ++ .ref (ad.1 b) :: r.map (sx_mv ad) := by
          have e0 : st.map (sx_mv ad) = (st.take n ++ st.drop n).map (sx_mv ad) := by rw [List.take_append_drop]
          rw [e0, hdr, List.map_append, ← List.map_reverse, List.reverse_reverse]
          rfl
        have hln : ((st.take n).reverse.map (sx_mv ad)).length = n := by simp; omega
        have h8 : (((r.map (sx_mv ad))).map fun v => v.category).sum ≤ 8 := sx_r8_sum ad _ hc.2
        have y1 : h.length - n0 + (h'.length - h.length) = h'.length - n0 := by omega
        have y2 : sx_sz h - z0 + (sx_sz h' - sx_sz h) = sx_sz h' - z0 := by omega
        have pre := sx_preS (as := .ref b :: (st.take n).reverse) hT hh hS hsz
        refine sx_back (v := v) (h' := h') (rest := r.map (sx_mv ad)) (mc := h'.length - h.length) (ms := sx_sz h' - sx_sz h) (va_runI (b := ad.1 b) (rest := r.map (sx_mv ad)) ⟨hx, hb, hml, hown, hts⟩ hM ⟨callB_of (rm := ⟨d, h'.length - h.length, sx_sz h' - sx_sz h, 40 * d⟩) n hts (sx_goodc hk2) rfl rfl rfl (hts _ hk3) (hts _ hw) hk4 ⟨by dsimp only; omega, by dsimp only; omega⟩, hy, hts _ hw2⟩ pre rfl hln (hl.1.trans hml) hst (lv_room h8) hd ⟨by rw [y1]; exact r1, by rw [y2]; exact r2⟩) hS (fun H1 locs1 hh1 hS1 => ?_)
        have K2 := K H1 locs1 ls hl hh1 hS1
        dsimp only [sx_bk] at K2
        rw [y1, y2, sx_toL]
        exact K2
      next => cases ho
    next => cases ho
theorem ok_ciN (hk : sx_Ke k n y bytes maxL none) (hy : y.name = "<init>") {host : String} (hw : (own, idx, y, host) ∈ sx_nm) (hw2 : Cond.instanceMethod y ∈ lw_good) (hd : decode cc pc = .ok (.invokespecial idx, 3)) : sx_Ok own cc nL nm ret pc (si_ci k n (pc + 3)) := by
  intro d D cA ad bs n0 z0 p l e R s m args below meth c Q X L st h hn hz
  obtain ⟨hx, hb, hml, hown, hts, hnm2, hroom, hs0, hT⟩ := X
  have hK := hT.1
  have hA : ∀ k, k < 900 → ad.1 (k + 1) = bs + k := hT.2.2.2.2.2.2.2.2
  obtain ⟨hk1, hk2, hk3, hk4, hk5⟩ := hk
  cases ho : si_ci k n (pc + 3) L st h with
  | none => trivial
  | some q =>
    unfold si_ci at ho
    split at ho
    next b r hdr =>
      split at ho
      next hc =>
        cases ho
        refine ⟨rfl, fun v h' hC hl1 hl2 r1 r2 K H locs ls hl hh hS => ?_⟩
        dsimp only at hC hl hh ⊢
        have hM := hC _ hk1
        refine sx_sized hs0 hn hh.1 hS (fun hsz => ?_)
        have hst : (st.map (sx_mv ad)) = (((st.take n).reverse.map (sx_mv ad))).reverse ++ .ref (ad.1 b) :: r.map (sx_mv ad) := by
          have e0 : st.map (sx_mv ad) = (st.take n ++ st.drop n).map (sx_mv ad) := by rw [List.take_append_drop]
          rw [e0, hdr, List.map_append, ← List.map_reverse, List.reverse_reverse]
          rfl
        have hln : ((st.take n).reverse.map (sx_mv ad)).length = n := by simp; omega
        have h8 : (((r.map (sx_mv ad))).map fun v => v.category).sum ≤ 8 := sx_r8_sum ad _ hc.2
        have y1 : h.length - n0 + (h'.length - h.length) = h'.length - n0 := by omega
        have y2 : sx_sz h - z0 + (sx_sz h' - sx_sz h) = sx_sz h' - z0 := by omega
        have pre := sx_preS (as := .ref b :: (st.take n).reverse) hT hh hS hsz
        refine sx_back (v := v) (h' := h') (rest := r.map (sx_mv ad)) (mc := h'.length - h.length) (ms := sx_sz h' - sx_sz h) (va_runIN (host := host) (b := ad.1 b) (rest := r.map (sx_mv ad)) ⟨hx, hb, hml, hown, hts⟩ hM ⟨va_cnB (rm := ⟨d, h'.length - h.length, sx_sz h' - sx_sz h, 40 * d⟩) n hts (sx_goodc hk2) rfl rfl rfl (hT.2.1 _ hw) (hts _ hk3) hk4 ⟨by dsimp only; omega, by dsimp only; omega⟩, hy, hts _ hw2⟩ pre rfl hln (hl.1.trans hml) hst (lv_room h8) hd ⟨by rw [y1]; exact r1, by rw [y2]; exact r2⟩) hS (fun H1 locs1 hh1 hS1 => ?_)
        have K2 := K H1 locs1 ls hl hh1 hS1
        dsimp only [sx_bk] at K2
        rw [y1, y2, sx_toL]
        exact K2
      next => cases ho
    next => cases ho
/-- the words of a call on a receiver of class number ci: the class's own method, or an inherited or overriding one, or the superclass's -/
def sx_V1 (own : String) (idx ci n k : Nat) : Prop := ∃ (q : vw_C) (y : MethodName) (bytes : ByteArray) (maxL : Nat) (rt : Option FieldType), sx_cls[ci]? = some q ∧ sx_Ke k n y bytes maxL rt ∧ Cond.methodLink own idx y ∈ lw_good ∧ Cond.instanceMethod y ∈ lw_good ∧ Cond.selects q.1 y y ∈ lw_good
def sx_V2 (own : String) (idx ci n k : Nat) : Prop := ∃ (q : vw_C) (x y : MethodName) (owner : String) (bytes b0 : ByteArray) (maxL m0 : Nat) (rt r0 : Option FieldType), sx_cls[ci]? = some q ∧ sx_Ke k n y bytes maxL rt ∧ Cond.methodLink own idx x ∈ lw_good ∧ Cond.sameMethod x.cls owner x.name x.desc ∈ lw_good ∧ Cond.instanceMethod ⟨owner, x.name, x.desc⟩ ∈ lw_good ∧ Cond.code ⟨owner, x.name, x.desc⟩ b0 m0 r0 ∈ lw_good ∧ Cond.selects q.1 x y ∈ lw_good ∧ Cond.instanceMethod y ∈ lw_good ∧ (owner ≠ "java/lang/invoke/MethodHandle" ∧ owner ≠ "java/lang/invoke/VarHandle" ∧ (parseMethodDescriptor x.desc).map (fun d => d.parameters.length) = some n)
def sx_V3 (own : String) (idx ci n k : Nat) : Prop := ∃ (q : vw_C) (x y : MethodName) (bytes : ByteArray) (maxL : Nat) (rt : Option FieldType), sx_cls[ci]? = some q ∧ sx_Ke k n y bytes maxL rt ∧ Cond.methodLink own idx x ∈ lw_good ∧ Cond.sameMethod x.cls y.cls x.name x.desc ∈ lw_good ∧ Cond.superclass own x.cls ∈ lw_good ∧ (x.cls = y.cls ∨ Cond.superclass x.cls y.cls ∈ lw_good) ∧ x.name = y.name ∧ x.desc = y.desc ∧ Cond.instanceMethod y ∈ lw_good ∧ y.name ≠ "<init>"

theorem sx_lookup : ∀ {tb : List (Nat × Nat)} {c k : Nat}, tb.lookup c = some k → (c, k) ∈ tb := by
  intro tb
  induction tb with
  | nil => intro c k h; simp at h
  | cons q r ih =>
    intro c k h
    rw [List.lookup] at h
    split at h
    next hq =>
      cases h
      have : c = q.1 := by simpa using hq
      subst this
      exact List.mem_cons_self
    next => exact List.mem_cons_of_mem _ (ih h)
section SUP
variable {p : Program} {l : Launch} {e : Env} {R : Room} {s : State} {m : MethodId} {args : Array Value} {below : List Frame} {meth : Method} {c : Code}
/-- super.m(..), the method declared by the superclass or by its own superclass -/
theorem sx_callSU {T : State} {locs : List Loc} {cells slots : Nat} (X : Stand p l e R s m args below meth c T locs cells slots) (hexec : p.tables.exec = Jvm.exec) {own : String} {index : Nat} {x y : MethodName} {bytes : ByteArray} {maxL : Nat} {ret : Option FieldType}
    (hown : s.vm.findClass own = some m.cls) (hlink : (Cond.methodLink own index x).before args s = true) (hsame : (Cond.sameMethod x.cls y.cls x.name x.desc).before args s = true) (hsup : (Cond.superclass own x.cls).before args s = true) (hup : x.cls = y.cls ∨ (Cond.superclass x.cls y.cls).before args s = true) (hxn : x.name = y.name) (hxd : x.desc = y.desc)
    (hinst : (Cond.instanceMethod y).before args s = true) (hcode : (Cond.code y bytes maxL ret).before args s = true) (hno : y.name ≠ "<init>")
    {W : Nat} {Pre : Pt → Array Value → Prop} {Post : Pt → Array Value → Option Value → Pt → Prop} (hK : Back l R p e below s args y 3 W Pre Post)
    {b : Addr} {cellB : Cell} {kB : Class} (hcell : T.heap[b]? = some cellB) (hobj : cellB.vm.isStatics = false) (hkB : s.vm.classes[cellB.cls]? = some kB)
    {g : JFrame} (hg : g.method = m) (hsize : g.locals.size = c.maxLocals) {argsL rest : List Value} (hlen : ∀ sig, parseMethodDescriptor y.desc = some sig → argsL.length = sig.parameters.length)
    (hstack : g.stack = argsL.reverse ++ .ref b :: rest) (hW : 2 * g.monitorRoom + (rest.map fun v => v.category).sum ≤ W) (hdg : decode c.code g.pc = .ok (.invokespecial index, 3))
    (hpre : ∀ vm₁, s.WarmedH vm₁ → Pre ⟨T.setVm vm₁, locs, cells, slots⟩ (Value.ref b :: argsL).toArray) :
    ∃ (v : Option Value) (vm₁ : Vm) (B : Pt), s.WarmedH vm₁ ∧ Stand p l e R s m args below meth c B.U B.locs B.cells B.slots ∧ Post ⟨T.setVm vm₁, locs, cells, slots⟩ (Value.ref b :: argsL).toArray v B ∧
      ∀ target, Steps p.tables e below (B.U.setTop { g with pc := g.pc + 3, stack := v.toList ++ rest }) target → Steps p.tables e below (T.setTop g) target := by
  obtain ⟨mk, methM, hnamed, hmethM, hstM, habM⟩ := Cond.instanceMethod_spec hinst
  obtain ⟨methM', cM, hmethM', -, -, -, -, -, -, hsigM⟩ := Cond.code_spec hnamed hcode
  cases hmethM.symm.trans hmethM'
  obtain ⟨ps, dk, kp, hps, hdk, hkp, hsuper, -, -, hnid⟩ := Cond.superclass_spec hown hsup
  have hn : s.methodNamed? ⟨y.cls, x.name, x.desc⟩ = some mk := by rw [hxn, hxd]; exact hnamed
  have hsub : s.vm.isSubclass ps mk.cls = true := by
    have hmc := findClass_of_methodNamed hnamed
    rcases hup with hup | hup
    · have hpm : ps = mk.cls := Option.some.inj (hps.symm.trans (by rw [hup]; exact hmc))
      rw [hpm]; simp [Vm.isSubclass, Vm.isSubclassAux]
    · obtain ⟨ps2, dk2, kp2, hps2, hdk2, -, hsuper2, -⟩ := Cond.superclass_spec hps hup
      have hpm : ps2 = mk.cls := Option.some.inj (hps2.symm.trans hmc)
      have hsz : ∃ z, s.vm.classes.size = z + 1 := ⟨s.vm.classes.size - 1, by have := (Array.getElem?_eq_some_iff.mp hdk2).1; omega⟩
      obtain ⟨z, hz⟩ := hsz
      rw [← hpm]
      simp [Vm.isSubclass, Vm.isSubclassAux, hz, hdk2, hsuper2]
  obtain ⟨vm₁, X₁, hstep₁⟩ := X.invokespecialUp hexec hown hlink hsame hn hmethM hstM habM (by rw [hxn]; exact hno) hdk hnid hps hsuper hsub (a := b) (cell := cellB) hcell
    (fun z h => by rw [h] at hobj; cases hobj) hkB (g := g) hg (argsL := argsL) (rest := rest) (hlen _ hsigM) hstack hdg
  obtain ⟨v, B, X', hpost, hsteps⟩ := hK m meth c ⟨T.setVm vm₁, locs, cells, slots⟩ { g with stack := rest } (.invokespecial index) mk (Value.ref b :: argsL).toArray X₁ hg hsize hdg hW (X₁.named hnamed) (hpre vm₁ X₁.warmed)
  exact ⟨v, vm₁, B, X₁.warmed, X', hpost, fun target h => hstep₁ _ (by rw [doInvoke_state]; exact hsteps.trans h)⟩
variable {H : Heap} {locs : List Loc} {cells slots : Nat}
theorem sx_runSU {x y : MethodName} {bytes cc : ByteArray} {maxL nL mc ms n index : Nat} {ret : Option FieldType} {ws : List Cond} {rm : Room} {Pc : Array Value → State → Prop} {Qc : Array Value → State → Outcome → State → Prop} {free : Addr → Prop} {Ts : List Cond} {own C : String} {cC : ClassId} {b : Addr} {As rest : List Value} {g : JFrame}
    (hat : ClassAt s C cC) (S : CallFix p m c cc nL s args Ts own) (hM : Met l y ws rm Pc Qc mc ms free)
    (cw1 : rm.cells = mc ∧ rm.slots = ms ∧ rm.frames + 1 ≤ R.frames ∧ 8 + (maxL + 11) + rm.locals ≤ R.locals ∧ (∀ w ∈ ws, ∀ (a' : Array Value) (U : State), s.WarmedH U.vm → w.before a' U = true) ∧ Cond.code y bytes maxL ret ∈ ws)
    (hl1 : (Cond.methodLink own index x).before args s = true) (hl2 : (Cond.sameMethod x.cls y.cls x.name x.desc).before args s = true) (hl3 : (Cond.superclass own x.cls).before args s = true) (hl3' : x.cls = y.cls ∨ (Cond.superclass x.cls y.cls).before args s = true) (hxn : x.name = y.name) (hxd : x.desc = y.desc) (hl4 : (Cond.instanceMethod y).before args s = true) (hini : (Cond.initialized y.cls).before args s = true) (hcode : (Cond.code y bytes maxL ret).before args s = true) (hno : y.name ≠ "<init>") (hlen : ∀ sig, parseMethodDescriptor y.desc = some sig → n = sig.parameters.length)
    (hp : PreV s H C b Pc As)
    (hg : g.method = m) (hn : As.length = n) (hsize : g.locals.size = nL) (hstack : g.stack = As.reverse ++ .ref b :: rest) (hW : 2 * g.monitorRoom + (rest.map fun v => v.category).sum ≤ 8) (hdg : decode cc g.pc = .ok (.invokespecial index, 3)) (hf : cells + mc ≤ R.cells ∧ slots + ms ≤ R.slots) :
    va_Run p l e R s m args below meth c H locs cells slots mc ms g rest (Qc (Value.ref b :: As).toArray) (free) := by
  obtain ⟨hrc, hrs, hfr, hlo, hws, hcw⟩ := cw1
  have hK : Back l R p e below s args y 3 8 (PreOf R mc ms Pc) (PostOf Qc mc ms free) := back_of (bytes := bytes) (maxL := maxL) (ret := ret) hM hp.1 hrc hrs hfr hlo hws hcw (fun a' U hW => word_at hW (Or.inl (by first | rfl | simp [Cond.onTables, Cond.keeps, Cond.steady])) hini)
  obtain ⟨hx, hb, hml, ho, -⟩ := S
  obtain ⟨-, ⟨cellB, hcB, hoB, hclB⟩, hPc⟩ := hp
  obtain ⟨hfc, kB, hkB, -⟩ := hat
  cases hfc.symm.trans hclB
  intro T hT X
  obtain ⟨v, vm₁, ⟨U', l2, c2, s2⟩, hW₁, X', ⟨g', mk, t, L, e1, e2, hq, h1, hL, h2, h3⟩, st⟩ := sx_callSU X hx (bytes := bytes) (maxL := maxL) (ret := ret) ho hl1 hl2 hl3 hl3' hxn hxd hl4 hcode hno hK (by rw [hT]; exact hcB) hoB hkB hg (hsize.trans hml.symm) (argsL := As) (rest := rest) (fun sig h => hn.trans (hlen sig h)) hstack hW (by rw [hb]; exact hdg)
    (fun vm₁ hW₁ => ⟨hf.1, hf.2, hPc (T.setVm vm₁) hT hW₁⟩)
  dsimp only [Pt.U, Pt.locs, Pt.cells, Pt.slots] at X' e1 e2 h1 h2 h3 st
  subst h1; subst h2; subst h3
  exact ⟨v, (T.setVm vm₁).calling g' mk (Value.ref b :: As).toArray, t, U', L, hT, X', hL, e1, e2, hq, st⟩
end SUP
theorem ok_cv1 {tb : List (Nat × Nat)} (hv : ∀ q ∈ tb, sx_V1 own idx q.1 n q.2) (hd : decode cc pc = .ok (.invokevirtual idx, 3)) : sx_Ok own cc nL nm ret pc (si_cv tb n (pc + 3)) := by
  intro d D cA ad bs n0 z0 p l e R s m args below meth c Q X L st h hn hz
  obtain ⟨hx, hb, hml, hown, hts, hnm2, hroom, hs0, hT⟩ := X
  have hK := hT.1
  have hA : ∀ k, k < 900 → ad.1 (k + 1) = bs + k := hT.2.2.2.2.2.2.2.2
  cases ho : si_cv tb n (pc + 3) L st h with
  | none => trivial
  | some q =>
    unfold si_cv at ho
    split at ho
    next b r hdr =>
      split at ho
      next k hlk =>
        split at ho
        next hc =>
          cases ho
          obtain ⟨ci, hci, hlk⟩ := Option.bind_eq_some_iff.mp hlk
          obtain ⟨q, y, bytes, maxL, rt, hcl, hk, hw, hw2, hw3⟩ := hv _ (sx_lookup hlk)
          obtain ⟨hk1, hk2, hk3, hk4, hk5⟩ := hk
          dsimp only at hcl hk1
          refine ⟨rfl, fun v h' hC hl1 hl2 r1 r2 K H locs ls hl hh hS => ?_⟩
          dsimp only at hC hl hh ⊢
          have hM := hC _ hk1
          refine sx_sized hs0 hn hh.1 hS (fun hsz => ?_)
          have hst : (st.map (sx_mv ad)) = (((st.take n).reverse.map (sx_mv ad))).reverse ++ .ref (ad.1 b) :: r.map (sx_mv ad) := by
            have e0 : st.map (sx_mv ad) = (st.take n ++ st.drop n).map (sx_mv ad) := by rw [List.take_append_drop]
            rw [e0, hdr, List.map_append, ← List.map_reverse, List.reverse_reverse]
            rfl
          have hln : ((st.take n).reverse.map (sx_mv ad)).length = n := by simp; omega
          have h8 : (((r.map (sx_mv ad))).map fun v => v.category).sum ≤ 8 := sx_r8_sum ad _ hc.2
          have y1 : h.length - n0 + (h'.length - h.length) = h'.length - n0 := by omega
          have y2 : sx_sz h - z0 + (sx_sz h' - sx_sz h) = sx_sz h' - z0 := by omega
          have pre := sx_preS (as := .ref b :: (st.take n).reverse) hT hh hS hsz
          have hrecv : ∃ cellB : Cell, H[ad.1 b]? = some cellB ∧ cellB.vm.isStatics = false ∧ s.vm.findClass q.1 = some cellB.cls := by
            unfold sx_kl at hci
            split at hci
            next c9 fs9 hl9 =>
              cases hci
              obtain ⟨k9, -, -, -, he9⟩ := sx_ld_at (cA := cA) hA hh.2 hl9
              exact va_recv hK hh.1 hcl he9
            next => cases hci
          refine sx_back (v := v) (h' := h') (rest := r.map (sx_mv ad)) (mc := h'.length - h.length) (ms := sx_sz h' - sx_sz h) (va_runV (C := q.1) (b := ad.1 b) (rest := r.map (sx_mv ad)) ⟨hx, hb, hml, hown, hts⟩ hM ⟨callB_of (rm := ⟨d, h'.length - h.length, sx_sz h' - sx_sz h, 40 * d⟩) n hts (sx_goodc hk2) rfl rfl rfl (hts _ hk3) (hts _ hw) hk4 ⟨by dsimp only; omega, by dsimp only; omega⟩, hts _ hw2, hts _ hw3⟩ ⟨pre.1, hrecv, pre.2⟩ rfl hln (hl.1.trans hml) hst (lv_room h8) hd ⟨by rw [y1]; exact r1, by rw [y2]; exact r2⟩) hS (fun H1 locs1 hh1 hS1 => ?_)
          have K2 := K H1 locs1 ls hl hh1 hS1
          dsimp only [sx_bk] at K2
          rw [y1, y2, sx_toL]
          exact K2
        next => cases ho
      next => cases ho
    next => cases ho
theorem ok_cv2 {tb : List (Nat × Nat)} (hv : ∀ q ∈ tb, sx_V2 own idx q.1 n q.2) (hd : decode cc pc = .ok (.invokevirtual idx, 3)) : sx_Ok own cc nL nm ret pc (si_cv tb n (pc + 3)) := by
  intro d D cA ad bs n0 z0 p l e R s m args below meth c Q X L st h hn hz
  obtain ⟨hx, hb, hml, hown, hts, hnm2, hroom, hs0, hT⟩ := X
  have hK := hT.1
  have hA : ∀ k, k < 900 → ad.1 (k + 1) = bs + k := hT.2.2.2.2.2.2.2.2
  cases ho : si_cv tb n (pc + 3) L st h with
  | none => trivial
  | some q =>
    unfold si_cv at ho
    split at ho
    next b r hdr =>
      split at ho
      next k hlk =>
        split at ho
        next hc =>
          cases ho
          obtain ⟨ci, hci, hlk⟩ := Option.bind_eq_some_iff.mp hlk
          obtain ⟨q, x, y, owner, bytes, b0, maxL, m0, rt, r0, hcl, hk, hw, hw2, hw3, hw4, hw5, hw6, hw7⟩ := hv _ (sx_lookup hlk)
          obtain ⟨hk1, hk2, hk3, hk4, hk5⟩ := hk
          dsimp only at hcl hk1
          refine ⟨rfl, fun v h' hC hl1 hl2 r1 r2 K H locs ls hl hh hS => ?_⟩
          dsimp only at hC hl hh ⊢
          have hM := hC _ hk1
          refine sx_sized hs0 hn hh.1 hS (fun hsz => ?_)
          have hst : (st.map (sx_mv ad)) = (((st.take n).reverse.map (sx_mv ad))).reverse ++ .ref (ad.1 b) :: r.map (sx_mv ad) := by
            have e0 : st.map (sx_mv ad) = (st.take n ++ st.drop n).map (sx_mv ad) := by rw [List.take_append_drop]
            rw [e0, hdr, List.map_append, ← List.map_reverse, List.reverse_reverse]
            rfl
          have hln : ((st.take n).reverse.map (sx_mv ad)).length = n := by simp; omega
          have h8 : (((r.map (sx_mv ad))).map fun v => v.category).sum ≤ 8 := sx_r8_sum ad _ hc.2
          have y1 : h.length - n0 + (h'.length - h.length) = h'.length - n0 := by omega
          have y2 : sx_sz h - z0 + (sx_sz h' - sx_sz h) = sx_sz h' - z0 := by omega
          have pre := sx_preS (as := .ref b :: (st.take n).reverse) hT hh hS hsz
          have hrecv : ∃ cellB : Cell, H[ad.1 b]? = some cellB ∧ cellB.vm.isStatics = false ∧ s.vm.findClass q.1 = some cellB.cls := by
            unfold sx_kl at hci
            split at hci
            next c9 fs9 hl9 =>
              cases hci
              obtain ⟨k9, -, -, -, he9⟩ := sx_ld_at (cA := cA) hA hh.2 hl9
              exact va_recv hK hh.1 hcl he9
            next => cases hci
          refine sx_back (v := v) (h' := h') (rest := r.map (sx_mv ad)) (mc := h'.length - h.length) (ms := sx_sz h' - sx_sz h) (va_runU (rm := ⟨d, h'.length - h.length, sx_sz h' - sx_sz h, 40 * d⟩) (C := q.1) (owner := owner) (x := x) (b := ad.1 b) (rest := r.map (sx_mv ad)) ⟨hx, hb, hml, hown, hts⟩ hM ⟨⟨rfl, rfl, by dsimp only; omega, by dsimp only; omega, pay_in hts (sx_goodc hk2), List.mem_cons_self⟩, hts _ hk2, hts _ hk3, ⟨hw7.1, hw7.2.1⟩, (fun sig hsg => by have h2 := hw7.2.2; rw [hsg] at h2; exact (Option.some.inj h2).symm), hts _ hw, hts _ hw2, va_Decl.of (hts _ hw3) (hts _ hw4), hts _ hw5, hts _ hw6⟩ ⟨pre.1, hrecv, pre.2⟩ rfl hln (hl.1.trans hml) hst (lv_room h8) hd ⟨by rw [y1]; exact r1, by rw [y2]; exact r2⟩) hS (fun H1 locs1 hh1 hS1 => ?_)
          have K2 := K H1 locs1 ls hl hh1 hS1
          dsimp only [sx_bk] at K2
          rw [y1, y2, sx_toL]
          exact K2
        next => cases ho
      next => cases ho
    next => cases ho
theorem ok_cv3 {tb : List (Nat × Nat)} (hv : ∀ q ∈ tb, sx_V3 own idx q.1 n q.2) (hd : decode cc pc = .ok (.invokespecial idx, 3)) : sx_Ok own cc nL nm ret pc (si_cv tb n (pc + 3)) := by
  intro d D cA ad bs n0 z0 p l e R s m args below meth c Q X L st h hn hz
  obtain ⟨hx, hb, hml, hown, hts, hnm2, hroom, hs0, hT⟩ := X
  have hK := hT.1
  have hA : ∀ k, k < 900 → ad.1 (k + 1) = bs + k := hT.2.2.2.2.2.2.2.2
  cases ho : si_cv tb n (pc + 3) L st h with
  | none => trivial
  | some q =>
    unfold si_cv at ho
    split at ho
    next b r hdr =>
      split at ho
      next k hlk =>
        split at ho
        next hc =>
          cases ho
          obtain ⟨ci, hci, hlk⟩ := Option.bind_eq_some_iff.mp hlk
          obtain ⟨q, x, y, bytes, maxL, rt, hcl, hk, hw, hw2, hw3, hw4, hxn, hxd, hw5, hno⟩ := hv _ (sx_lookup hlk)
          obtain ⟨hk1, hk2, hk3, hk4, hk5⟩ := hk
          dsimp only at hcl hk1
          refine ⟨rfl, fun v h' hC hl1 hl2 r1 r2 K H locs ls hl hh hS => ?_⟩
          dsimp only at hC hl hh ⊢
          have hM := hC _ hk1
          refine sx_sized hs0 hn hh.1 hS (fun hsz => ?_)
          have hst : (st.map (sx_mv ad)) = (((st.take n).reverse.map (sx_mv ad))).reverse ++ .ref (ad.1 b) :: r.map (sx_mv ad) := by
            have e0 : st.map (sx_mv ad) = (st.take n ++ st.drop n).map (sx_mv ad) := by rw [List.take_append_drop]
            rw [e0, hdr, List.map_append, ← List.map_reverse, List.reverse_reverse]
            rfl
          have hln : ((st.take n).reverse.map (sx_mv ad)).length = n := by simp; omega
          have h8 : (((r.map (sx_mv ad))).map fun v => v.category).sum ≤ 8 := sx_r8_sum ad _ hc.2
          have y1 : h.length - n0 + (h'.length - h.length) = h'.length - n0 := by omega
          have y2 : sx_sz h - z0 + (sx_sz h' - sx_sz h) = sx_sz h' - z0 := by omega
          have pre := sx_preS (as := .ref b :: (st.take n).reverse) hT hh hS hsz
          have hrecv : ∃ cellB : Cell, H[ad.1 b]? = some cellB ∧ cellB.vm.isStatics = false ∧ s.vm.findClass q.1 = some cellB.cls := by
            unfold sx_kl at hci
            split at hci
            next c9 fs9 hl9 =>
              cases hci
              obtain ⟨k9, -, -, -, he9⟩ := sx_ld_at (cA := cA) hA hh.2 hl9
              exact va_recv hK hh.1 hcl he9
            next => cases hci
          refine sx_back (v := v) (h' := h') (rest := r.map (sx_mv ad)) (mc := h'.length - h.length) (ms := sx_sz h' - sx_sz h) (sx_runSU (rm := ⟨d, h'.length - h.length, sx_sz h' - sx_sz h, 40 * d⟩) (C := q.1) (x := x) (b := ad.1 b) (rest := r.map (sx_mv ad)) (hK.1 ci _ hcl).2 ⟨hx, hb, hml, hown, hts⟩ hM ⟨rfl, rfl, by dsimp only; omega, by dsimp only; omega, pay_in hts (sx_goodc hk2), List.mem_cons_self⟩ (hts _ hw) (hts _ hw2) (hts _ hw3) (hw4.imp id (fun h => hts _ h)) hxn hxd (hts _ hw5) (hts _ hk3) (hts _ hk2) hno (fun sig hsg => by have h2 := hk4.2.2; rw [hsg] at h2; exact (Option.some.inj h2).symm) ⟨pre.1, hrecv, pre.2⟩ rfl hln (hl.1.trans hml) hst (lv_room h8) hd ⟨by rw [y1]; exact r1, by rw [y2]; exact r2⟩) hS (fun H1 locs1 hh1 hS1 => ?_)
          have K2 := K H1 locs1 ls hl hh1 hS1
          dsimp only [sx_bk] at K2
          rw [y1, y2, sx_toL]
          exact K2
        next => cases ho
      next => cases ho
    next => cases ho
end CALLS
