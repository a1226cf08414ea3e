/-! a call on a String constant -/
def si_cw (k n nx : Nat) : sx_I := fun L st h => match st.drop n with
  | .ref b :: r => if (n ≤ st.length ∧ sx_r8 r = true) ∧ (1000 ≤ b ∧ b < 1014) then sx_ca k (.ref b :: (st.take n).reverse) nx L r h else none
  | _ => none
theorem mo_cw (k n nx : Nat) : sx_Mo (si_cw k n nx) := by
  refine sx_Mo_of ?_ ?_ ?_ <;> intro L st h o ho <;> unfold si_cw at ho <;> (repeat' split at ho) <;> first
    | (cases ho; done)
    | (cases ho; rfl)
theorem ok_cw {own : String} {cc : ByteArray} {nL : Nat} {nm : String} {ret : Option FieldType} {pc k n idx maxL : Nat} {y : MethodName} {bytes : ByteArray} {rt : Option FieldType} (hk : sx_Ke k n y bytes maxL rt) (hw : Cond.methodLink own idx y ∈ lw_good) (hw2 : Cond.instanceMethod y ∈ lw_good) (hw3 : Cond.selects "java/lang/String" y y ∈ lw_good) (hd : decode cc pc = .ok (.invokevirtual idx, 3)) : sx_Ok own cc nL nm ret pc (si_cw k n (pc + 3)) := by
  intro d D cA ad bs n0 z0 p l e R s m args below meth c Q X L st h hn hz
  obtain ⟨hx, hb, hml, hown, hts, hnm2, hroom, hs0, hT⟩ := X
  obtain ⟨hk1, hk2, hk3, hk4, hk5⟩ := hk
  cases ho : si_cw k n (pc + 3) L st h with
  | none => trivial
  | some q =>
    unfold si_cw at ho
    split at ho
    next b r hdr =>
      split at ho
      next hc =>
        cases ho
        obtain ⟨hc, hb0⟩ := hc
        refine ⟨rfl, fun v h' hC hl1 hl2 r1 r2 K H locs ls hl hh hS => ?_⟩
        dsimp only at hC hl hh ⊢
        have hM := hC _ hk1
        refine sx_sized hs0 hn hh.1 hS (fun hsz => ?_)
        obtain ⟨i, hi, hbi⟩ := sx_off 1000 b hb0
        have hst : (st.map (sx_mv ad)) = (((st.take n).reverse.map (sx_mv ad))).reverse ++ .ref (ad.1 b) :: r.map (sx_mv ad) := by
          have e0 : st.map (sx_mv ad) = (st.take n ++ st.drop n).map (sx_mv ad) := by rw [List.take_append_drop]
          rw [e0, hdr, List.map_append, ← List.map_reverse, List.reverse_reverse]
          rfl
        have hln : ((st.take n).reverse.map (sx_mv ad)).length = n := by simp; omega
        have h8 : (((r.map (sx_mv ad))).map fun v => v.category).sum ≤ 8 := sx_r8_sum ad _ hc.2
        have y1 : h.length - n0 + (h'.length - h.length) = h'.length - n0 := by omega
        have y2 : sx_sz h - z0 + (sx_sz h' - sx_sz h) = sx_sz h' - z0 := by omega
        have pre := sx_preS (as := .ref b :: (st.take n).reverse) hT hh hS hsz
        have hrecv : ∃ cellB : Cell, H[ad.1 b]? = some cellB ∧ cellB.vm.isStatics = false ∧ s.vm.findClass "java/lang/String" = some cellB.cls := by
          rw [hbi]
          exact vk_recv (adK := fun i => ad.1 (1000 + i)) (i := i) hT.2.2.2.2.1 hi hS
        refine sx_back (v := v) (h' := h') (rest := r.map (sx_mv ad)) (mc := h'.length - h.length) (ms := sx_sz h' - sx_sz h) (va_runV (C := "java/lang/String") (b := ad.1 b) (rest := r.map (sx_mv ad)) ⟨hx, hb, hml, hown, hts⟩ hM ⟨callB_of (rm := ⟨d, h'.length - h.length, sx_sz h' - sx_sz h, 40 * d⟩) n hts (sx_goodc hk2) rfl rfl rfl (hts _ hk3) (hts _ hw) hk4 ⟨by dsimp only; omega, by dsimp only; omega⟩, hts _ hw2, hts _ hw3⟩ ⟨pre.1, hrecv, pre.2⟩ rfl hln (hl.1.trans hml) hst (lv_room h8) hd ⟨by rw [y1]; exact r1, by rw [y2]; exact r2⟩) hS (fun H1 locs1 hh1 hS1 => ?_)
        have K2 := K H1 locs1 ls hl hh1 hS1
        dsimp only [sx_bk] at K2
        rw [y1, y2, sx_toL]
        exact K2
      next => cases ho
    next => cases ho
def sx_OK (own : String) (cc : ByteArray) (nL : Nat) (nm : String) (ret : Option FieldType) (e : Nat × sx_I) : Prop := sx_Ok own cc nL nm ret e.1 e.2 ∧ sx_Mo e.2
def sx_tab (l : List (Nat × sx_I)) (pc : Nat) : sx_I := match l.lookup pc with
  | some i => i
  | none => fun _ _ _ => none
theorem sx_tab_mem : ∀ (l : List (Nat × sx_I)) (pc : Nat) (i : sx_I), l.lookup pc = some i → (pc, i) ∈ l := by
  intro l
  induction l with
  | nil => intro pc i h; simp at h
  | cons q r ih =>
    intro pc i h
    rw [List.lookup] at h
    split at h
    next hq =>
      cases h
      have : pc = q.1 := by simpa using hq
      subst this
      exact List.mem_cons_self
    next => exact List.mem_cons_of_mem _ (ih pc i h)
theorem sx_tab_ok {own : String} {cc : ByteArray} {nL : Nat} {nm : String} {ret : Option FieldType} {l : List (Nat × sx_I)} (h : ∀ e ∈ l, sx_OK own cc nL nm ret e) (pc : Nat) : sx_Ok own cc nL nm ret pc (sx_tab l pc) ∧ sx_Mo (sx_tab l pc) := by
  unfold sx_tab
  cases hl : l.lookup pc with
  | none => exact ⟨sx_none_ok, sx_mo_none⟩
  | some i => exact h (pc, i) (sx_tab_mem l pc i hl)
def sx_dcs (cc : ByteArray) (tb : List (Nat × Instr × Nat)) : Bool := tb.all (fun e => decide (decode cc e.1 = .ok (e.2.1, e.2.2)))
theorem sx_dc {cc : ByteArray} {tb : List (Nat × Instr × Nat)} (h : sx_dcs cc tb = true) (j : Nat) {pc len : Nat} {i : Instr} (he : tb[j]? = some (pc, i, len)) : decode cc pc = .ok (i, len) := by
  have := List.all_eq_true.mp h _ (List.mem_of_getElem? he)
  simpa using this
theorem sx_cm {α : Type} {P : α → Prop} {a : α} {l : List α} (h : P a) (t : ∀ x ∈ l, P x) : ∀ x ∈ a :: l, P x := List.forall_mem_cons.mpr ⟨h, t⟩
theorem sx_nil {α : Type} {P : α → Prop} : ∀ x ∈ ([] : List α), P x := fun _ h => absurd h List.not_mem_nil
