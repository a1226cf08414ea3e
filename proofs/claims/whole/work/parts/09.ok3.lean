/-! OK (3): what is made, copied, called, answered. Written by wip/gen/ok3.py -/
theorem sx_HR_app {D : va_G} {cA : Nat → ClassId} {ad : sx_AD} {bs : Nat} {h : sx_H} {cl : sx_Cl} {H H1 : Heap} (hP : va_P D sx_cls (sx_em cA ad bs 0 h) H) (hz : H.size = bs + h.length) (hlt : h.length < 900) (o1 : ∀ q, q < H.size → H1[q]? = H[q]?) (hat : va_at D sx_cls (bs + h.length, sx_tc cA ad cl) H1) : sx_HR D cA ad bs (h ++ [cl]) H1 := by
  refine ⟨?_, by simp; omega⟩
  rw [sx_em_app]
  refine (hP.kept (fun k x hx => o1 x.1 (hP k x hx).lt)).app (fun k x hx => ?_)
  have hz : k < 1 := (List.getElem?_eq_some_iff.mp hx).1
  rw [show k = 0 by omega] at hx
  cases hx
  exact hat
theorem sx_S_app {A : Nat → Prop} {H0 H H1 : Heap} {locs : List Loc} (hS : va_S A H0 H locs) (z1 : H1.size = H.size + 1) (o1 : ∀ q, q < H.size → H1[q]? = H[q]?) : va_S A H0 H1 locs :=
  ⟨Nat.le_trans hS.1 (by omega), fun x h1 h2 => (o1 x (Nat.lt_of_lt_of_le h1 hS.1)).trans (hS.2.1 x h1 h2), hS.2.2⟩
theorem sx_nn_of {n : Int32} (h : sx_nn n = true) : ¬ n < 0 ∧ n.toNatClampNeg ≤ 1000 := by
  unfold sx_nn at h
  simp only [Bool.and_eq_true, decide_eq_true_eq] at h
  exact ⟨Int32.not_lt.mpr h.1, h.2⟩
theorem sx_off (b a : Nat) (h : b ≤ a ∧ a < b + 14) : ∃ i : Nat, i < 14 ∧ a = b + i := ⟨a - b, by omega, by omega⟩
section OK3
variable {own : String} {cc : ByteArray} {nL : Nat} {nm : String} {ret : Option FieldType} {pc : Nat}

theorem ok_new {k idx : Nat} {fs : List Value} {q : vw_C} {ty : Nat → FieldType} (hq : sx_cls[k]? = some q) (hws : ∀ w ∈ u_ws q.1 q.2.1 q.2.2, w ∈ lw_good) (hty : ∀ k, k < q.2.2 → parseFieldDescriptor (q.2.1 k).2.2.1 = some (ty k)) (hfs : ∀ (ad : sx_AD) (j : Nat), j < q.2.2 → defaultValue (ty j) = vp_V (fs.map (sx_mv ad)) j) (hlen : fs.length = q.2.2) (hw : Cond.classLink own idx q.1 ∈ lw_good) (hw2 : Cond.instantiable q.1 q.2.2 ∈ lw_good) (hw3 : Cond.initialized q.1 ∈ lw_good) (hd : decode cc pc = .ok (.new idx, 3)) : sx_Ok own cc nL nm ret pc (si_no k fs (pc + 3)) := by
  refine sx_Ok_of ?_ (by
  intro L st h r ho
  unfold si_no at ho
  repeat' split at ho
  all_goals first | cases ho | exact sx_nx_r ho | (obtain ⟨_, _, ho⟩ := Option.bind_eq_some_iff.mp ho; exact sx_nx_r ho)) (by
  intro L st h r ho
  unfold si_no at ho
  repeat' split at ho
  all_goals first | cases ho | exact sx_nx_c ho | (obtain ⟨_, _, ho⟩ := Option.bind_eq_some_iff.mp ho; exact sx_nx_c ho))
  intro d D cA ad bs n0 z0 p l e R s m args below meth c Q X L st h s' hn hz ho
  obtain ⟨hx, hb, hml, hown, hts, hnm2, hroom, hs0, hT⟩ := X
  have hK := hT.1
  have hA : ∀ k, k < 900 → ad.1 (k + 1) = bs + k := hT.2.2.2.2.2.2.2.2
  unfold si_no at ho
  split at ho
  · next hlt =>
      cases ho
      refine ⟨by dsimp only; simp, by dsimp only; rw [sx_sz_app]; omega, fun r1 r2 K H locs ls hl hh hS => ?_⟩
      dsimp only at r1 r2 hh ⊢
      have y1 : (h ++ [sx_co k fs]).length - n0 = h.length - n0 + 1 := by simp; omega
      have y2 : sx_sz (h ++ [sx_co k fs]) - z0 = sx_sz h - z0 + fs.length := by rw [sx_sz_app]; simp only [sx_s1]; omega
      rw [y1] at r1
      rw [y2] at r2
      refine sx_sized hs0 hn hh.1 hS (fun hsz => ?_)
      have K2 := fun (H1 : Heap) (hh1 : sx_HR D cA ad bs (h ++ [sx_co k fs]) H1) (hS1 : va_S (fun q => bs ≤ q) s.heap H1 locs) => K H1 locs ls hl hh1 hS1
      dsimp only at K2
      rw [y1, y2, List.map_cons, show sx_mv ad (.ref (h.length + 1)) = .ref (bs + h.length) from congrArg Value.ref (hA _ (by omega))] at K2
      have hKn := hK.1 k _ hq
      rw [hlen] at r2 K2
      refine W.newcK hx hb hown (hts _ hw) (hts _ hw2) (hts _ hw3) rfl hd r1 r2 hKn.2.1 hsz fun H1 kC hkC e1 z1 o1 => ?_
      refine K2 H1 (sx_HR_app hh.1 hsz hlt (by rw [hsz]; exact o1) ⟨_, hq, ?_⟩) (sx_S_app hS (by rw [hsz]; exact z1) (by rw [hsz]; exact o1))
      exact (u_born ty hts hws hKn hkC e1 hty).to (fun j hj => hfs ad j hj)
  · cases ho
theorem ok_newi (hw : Cond.arrayClass .int ∈ lw_good) (hd : decode cc pc = .ok (.newarray .int, 2)) : sx_Ok own cc nL nm ret pc (si_ni (pc + 2)) := by
  refine sx_Ok_of ?_ (by
  intro L st h r ho
  unfold si_ni at ho
  repeat' split at ho
  all_goals first | cases ho | exact sx_nx_r ho | (obtain ⟨_, _, ho⟩ := Option.bind_eq_some_iff.mp ho; exact sx_nx_r ho)) (by
  intro L st h r ho
  unfold si_ni at ho
  repeat' split at ho
  all_goals first | cases ho | exact sx_nx_c ho | (obtain ⟨_, _, ho⟩ := Option.bind_eq_some_iff.mp ho; exact sx_nx_c ho))
  intro d D cA ad bs n0 z0 p l e R s m args below meth c Q X L st h s' hn hz ho
  obtain ⟨hx, hb, hml, hown, hts, hnm2, hroom, hs0, hT⟩ := X
  have hK := hT.1
  have hA : ∀ k, k < 900 → ad.1 (k + 1) = bs + k := hT.2.2.2.2.2.2.2.2
  unfold si_ni at ho
  split at ho
  next n st =>
    split at ho
    · next hc =>
      obtain ⟨hc, hlt⟩ := hc
      obtain ⟨hn0, hn1⟩ := sx_nn_of hc
      cases ho
      refine ⟨by dsimp only; simp, by dsimp only; rw [sx_sz_app]; omega, fun r1 r2 K H locs ls hl hh hS => ?_⟩
      dsimp only at r1 r2 hh ⊢
      have y1 : (h ++ [sx_ci n.toNatClampNeg (fun _ => 0)]).length - n0 = h.length - n0 + 1 := by simp; omega
      have y2 : sx_sz (h ++ [sx_ci n.toNatClampNeg (fun _ => 0)]) - z0 = sx_sz h - z0 + n.toNatClampNeg := by rw [sx_sz_app]; simp only [sx_s1]; omega
      rw [y1] at r1
      rw [y2] at r2
      refine sx_sized hs0 hn hh.1 hS (fun hsz => ?_)
      have K2 := fun (H1 : Heap) (hh1 : sx_HR D cA ad bs (h ++ [sx_ci n.toNatClampNeg (fun _ => 0)]) H1) (hS1 : va_S (fun q => bs ≤ q) s.heap H1 locs) => K H1 locs ls hl hh1 hS1
      dsimp only at K2
      rw [y1, y2, List.map_cons, show sx_mv ad (.ref (h.length + 1)) = .ref (bs + h.length) from congrArg Value.ref (hA _ (by omega))] at K2
      have hRA := (hK.2 0 (cA 0, .int) rfl).2
      refine va_newaK (atype := .int) hx hb (hts _ hw) rfl hd rfl hn0 rfl ?_ r1 r2 hsz fun H1 cA1 e1 z1 o1 hAr hNm => ?_
      · show n.toNatClampNeg * _ ≤ _
        have : componentBytes (newarray.typeOf .int) ≤ 8 := by decide
        exact Nat.le_trans (Nat.mul_le_mul hn1 this) (by decide)
      · have ecA : cA1 = cA 0 := Option.some.inj (hNm.symm.trans hRA)
        subst ecA
        exact K2 H1 (sx_HR_app hh.1 hsz hlt (by rw [hsz]; exact o1) e1) (sx_S_app hS (by rw [hsz]; exact z1) (by rw [hsz]; exact o1))
    · cases ho
  next => cases ho
theorem ok_newj (hw : Cond.arrayClass .long ∈ lw_good) (hd : decode cc pc = .ok (.newarray .long, 2)) : sx_Ok own cc nL nm ret pc (si_nj (pc + 2)) := by
  refine sx_Ok_of ?_ (by
  intro L st h r ho
  unfold si_nj at ho
  repeat' split at ho
  all_goals first | cases ho | exact sx_nx_r ho | (obtain ⟨_, _, ho⟩ := Option.bind_eq_some_iff.mp ho; exact sx_nx_r ho)) (by
  intro L st h r ho
  unfold si_nj at ho
  repeat' split at ho
  all_goals first | cases ho | exact sx_nx_c ho | (obtain ⟨_, _, ho⟩ := Option.bind_eq_some_iff.mp ho; exact sx_nx_c ho))
  intro d D cA ad bs n0 z0 p l e R s m args below meth c Q X L st h s' hn hz ho
  obtain ⟨hx, hb, hml, hown, hts, hnm2, hroom, hs0, hT⟩ := X
  have hK := hT.1
  have hA : ∀ k, k < 900 → ad.1 (k + 1) = bs + k := hT.2.2.2.2.2.2.2.2
  unfold si_nj at ho
  split at ho
  next n st =>
    split at ho
    · next hc =>
      obtain ⟨hc, hlt⟩ := hc
      obtain ⟨hn0, hn1⟩ := sx_nn_of hc
      cases ho
      refine ⟨by dsimp only; simp, by dsimp only; rw [sx_sz_app]; omega, fun r1 r2 K H locs ls hl hh hS => ?_⟩
      dsimp only at r1 r2 hh ⊢
      have y1 : (h ++ [sx_cj n.toNatClampNeg (fun _ => 0)]).length - n0 = h.length - n0 + 1 := by simp; omega
      have y2 : sx_sz (h ++ [sx_cj n.toNatClampNeg (fun _ => 0)]) - z0 = sx_sz h - z0 + n.toNatClampNeg := by rw [sx_sz_app]; simp only [sx_s1]; omega
      rw [y1] at r1
      rw [y2] at r2
      refine sx_sized hs0 hn hh.1 hS (fun hsz => ?_)
      have K2 := fun (H1 : Heap) (hh1 : sx_HR D cA ad bs (h ++ [sx_cj n.toNatClampNeg (fun _ => 0)]) H1) (hS1 : va_S (fun q => bs ≤ q) s.heap H1 locs) => K H1 locs ls hl hh1 hS1
      dsimp only at K2
      rw [y1, y2, List.map_cons, show sx_mv ad (.ref (h.length + 1)) = .ref (bs + h.length) from congrArg Value.ref (hA _ (by omega))] at K2
      have hRA := (hK.2 1 (cA 1, .long) rfl).2
      refine va_newaK (atype := .long) hx hb (hts _ hw) rfl hd rfl hn0 rfl ?_ r1 r2 hsz fun H1 cA1 e1 z1 o1 hAr hNm => ?_
      · show n.toNatClampNeg * _ ≤ _
        have : componentBytes (newarray.typeOf .long) ≤ 8 := by decide
        exact Nat.le_trans (Nat.mul_le_mul hn1 this) (by decide)
      · have ecA : cA1 = cA 1 := Option.some.inj (hNm.symm.trans hRA)
        subst ecA
        exact K2 H1 (sx_HR_app hh.1 hsz hlt (by rw [hsz]; exact o1) e1) (sx_S_app hS (by rw [hsz]; exact z1) (by rw [hsz]; exact o1))
    · cases ho
  next => cases ho
theorem ok_newq {t idx : Nat} {E : String} (hE : sx_tn[t]? = some E) (hw : Cond.classLink own idx E ∈ lw_good) (hd : decode cc pc = .ok (.anewarray idx, 3)) : sx_Ok own cc nL nm ret pc (si_nq t (pc + 3)) := by
  refine sx_Ok_of ?_ (by
  intro L st h r ho
  unfold si_nq at ho
  repeat' split at ho
  all_goals first | cases ho | exact sx_nx_r ho | (obtain ⟨_, _, ho⟩ := Option.bind_eq_some_iff.mp ho; exact sx_nx_r ho)) (by
  intro L st h r ho
  unfold si_nq at ho
  repeat' split at ho
  all_goals first | cases ho | exact sx_nx_c ho | (obtain ⟨_, _, ho⟩ := Option.bind_eq_some_iff.mp ho; exact sx_nx_c ho))
  intro d D cA ad bs n0 z0 p l e R s m args below meth c Q X L st h s' hn hz ho
  obtain ⟨hx, hb, hml, hown, hts, hnm2, hroom, hs0, hT⟩ := X
  have hK := hT.1
  have hA : ∀ k, k < 900 → ad.1 (k + 1) = bs + k := hT.2.2.2.2.2.2.2.2
  unfold si_nq at ho
  split at ho
  next n st =>
    split at ho
    · next hc =>
      obtain ⟨hc, hlt⟩ := hc
      obtain ⟨hn0, hn1⟩ := sx_nn_of hc
      cases ho
      refine ⟨by dsimp only; simp, by dsimp only; rw [sx_sz_app]; omega, fun r1 r2 K H locs ls hl hh hS => ?_⟩
      dsimp only at r1 r2 hh ⊢
      have y1 : (h ++ [sx_cq t n.toNatClampNeg (fun _ => none)]).length - n0 = h.length - n0 + 1 := by simp; omega
      have y2 : sx_sz (h ++ [sx_cq t n.toNatClampNeg (fun _ => none)]) - z0 = sx_sz h - z0 + n.toNatClampNeg := by rw [sx_sz_app]; simp only [sx_s1]; omega
      rw [y1] at r1
      rw [y2] at r2
      refine sx_sized hs0 hn hh.1 hS (fun hsz => ?_)
      have K2 := fun (H1 : Heap) (hh1 : sx_HR D cA ad bs (h ++ [sx_cq t n.toNatClampNeg (fun _ => none)]) H1) (hS1 : va_S (fun q => bs ≤ q) s.heap H1 locs) => K H1 locs ls hl hh1 hS1
      dsimp only at K2
      rw [y1, y2, List.map_cons, show sx_mv ad (.ref (h.length + 1)) = .ref (bs + h.length) from congrArg Value.ref (hA _ (by omega))] at K2
      obtain ⟨kA0, comp0, -, -, -, hRA⟩ := (hK.2 (2 + t) _ (sx_tn_ty hE)).2
      have hAO : va_AO E s := hT.2.2.2.1 E (List.mem_of_getElem? hE)
      refine W.anew hx hb hown (hts _ hw) (va_AO.use hAO) rfl hd rfl hn0 (by omega) r1 r2 fun cA1 kA comp f1 f2 f3 f4 => ?_
      have ecA : cA1 = cA (2 + t) := Option.some.inj (f1.symm.trans hRA)
      subst ecA
      generalize hH1 : H.push ({ cls := cA (2 + t), slots := Array.replicate n.toNatClampNeg .null, vm := .none } : Cell) = H1
      have z1 : H1.size = H.size + 1 := by rw [← hH1, Array.size_push]
      have e1 : H1[H.size]? = some (arrV (cA (2 + t)) n.toNatClampNeg (fun _ => .null)) := by rw [← hH1, Array.getElem?_push_size, ← arrV_new]
      have o1 : ∀ q : Nat, q < H.size → H1[q]? = H[q]? := fun q hq => by rw [← hH1, Array.getElem?_push, if_neg (Nat.ne_of_lt hq)]
      rw [hsz] at e1 ⊢
      exact K2 H1 (sx_HR_app hh.1 hsz hlt o1 e1) (sx_S_app hS z1 o1)
    · cases ho
  next => cases ho
theorem ok_acopy {idx : Nat} (hw : Cond.methodLink own idx arraycopyName ∈ lw_good) (hw2 : Cond.native arraycopyName ∈ lw_good) (hw3 : Cond.static arraycopyName ∈ lw_good) (hw4 : Cond.initialized "java/lang/System" ∈ lw_good) (hd : decode cc pc = .ok (.invokestatic idx, 3)) : sx_Ok own cc nL nm ret pc (si_ac (pc + 3)) := by
  refine sx_Ok_of ?_ (by
  intro L st h r ho
  unfold si_ac at ho
  repeat' split at ho
  all_goals first | cases ho | exact sx_nx_r ho | (obtain ⟨_, _, ho⟩ := Option.bind_eq_some_iff.mp ho; exact sx_nx_r ho)) (by
  intro L st h r ho
  unfold si_ac at ho
  repeat' split at ho
  all_goals first | cases ho | exact sx_nx_c ho | (obtain ⟨_, _, ho⟩ := Option.bind_eq_some_iff.mp ho; exact sx_nx_c ho))
  intro d D cA ad bs n0 z0 p l e R s m args below meth c Q X L st h s' hn hz ho
  obtain ⟨hx, hb, hml, hown, hts, hnm2, hroom, hs0, hT⟩ := X
  have hK := hT.1
  have hA : ∀ k, k < 900 → ad.1 (k + 1) = bs + k := hT.2.2.2.2.2.2.2.2
  unfold si_ac at ho
  split at ho
  next n dp b sp a st =>
    split at ho
    next hl4 =>
      obtain ⟨h', hv, ho⟩ := Option.bind_eq_some_iff.mp ho
      cases ho
      have h8 : (((st.map (sx_mv ad))).map fun v => v.category).sum ≤ 8 := sx_sum8 _ (by simpa using hl4)
      have hloc : (((st.map (sx_mv ad))).map fun v => v.category).sum + (nativeFrameWords "java/lang/System" "arraycopy" 5 + 11) ≤ R.locals := by
        have : nativeFrameWords "java/lang/System" "arraycopy" 5 = 7 := by decide
        omega
      unfold sx_ac at hv
      split at hv
      next n0 f n1 g hl0 hl1 =>
        split at hv
        next hc =>
          cases hv
          obtain ⟨⟨c1, c2, c3⟩, c4, c5⟩ := hc
          obtain ⟨k', e1, e2⟩ := sx_ld_k hl1
          obtain ⟨z1, z2⟩ := sx_se_sz (cl' := sx_ci n1 (va_cpy f g sp.toNatClampNeg dp.toNatClampNeg n.toNatClampNeg)) e1 e2 (by simp [sx_s1])
          refine ⟨by dsimp only; omega, by dsimp only; omega, fun _ _ K H locs ls hl hh hS => ?_⟩
          dsimp only at hh K hl z1 z2 ⊢
          obtain ⟨k1, a1, a2, a3, he1⟩ := sx_ld_at (cA := cA) hA hh.2 hl0
          obtain ⟨k2, f1, f2, f3, he⟩ := sx_ld_at (cA := cA) hA hh.2 hl1
          have hK2 := K
          unfold sx_W at hK2
          dsimp only at hK2
          rw [z1, z2] at hK2
          refine va_copyi (ty := .int) hx hb hl.1.symm hown (hts _ hw) (hts _ hw2) (hts _ hw3) (hts _ hw4) hK hh.1 (sx_em_D cA ad bs h) hS k1 k2 0 0 he1 he rfl rfl (by simp [refKind]) (Int32.not_lt.mpr c1) (Int32.not_lt.mpr c2) (Int32.not_lt.mpr c3) c4 c5 (fun _ _ => rfl) (by omega) hloc hd (fun H1 locs1 hP1 _ hS1 => ?_)
          exact hK2 H1 locs1 ls hl (sx_HR_set (cl := sx_ci n1 (va_cpy f g sp.toNatClampNeg dp.toNatClampNeg n.toNatClampNeg)) hh.2 f3 f1 rfl hP1) hS1
        next => cases hv
      next n0 f n1 g hl0 hl1 =>
        split at hv
        next hc =>
          cases hv
          obtain ⟨⟨c1, c2, c3⟩, c4, c5⟩ := hc
          obtain ⟨k', e1, e2⟩ := sx_ld_k hl1
          obtain ⟨z1, z2⟩ := sx_se_sz (cl' := sx_cj n1 (va_cpy f g sp.toNatClampNeg dp.toNatClampNeg n.toNatClampNeg)) e1 e2 (by simp [sx_s1])
          refine ⟨by dsimp only; omega, by dsimp only; omega, fun _ _ K H locs ls hl hh hS => ?_⟩
          dsimp only at hh K hl z1 z2 ⊢
          obtain ⟨k1, a1, a2, a3, he1⟩ := sx_ld_at (cA := cA) hA hh.2 hl0
          obtain ⟨k2, f1, f2, f3, he⟩ := sx_ld_at (cA := cA) hA hh.2 hl1
          have hK2 := K
          unfold sx_W at hK2
          dsimp only at hK2
          rw [z1, z2] at hK2
          refine va_copyl (ty := .long) hx hb hl.1.symm hown (hts _ hw) (hts _ hw2) (hts _ hw3) (hts _ hw4) hK hh.1 (sx_em_D cA ad bs h) hS k1 k2 1 1 he1 he rfl rfl (by simp [refKind]) (Int32.not_lt.mpr c1) (Int32.not_lt.mpr c2) (Int32.not_lt.mpr c3) c4 c5 (fun _ _ => rfl) (by omega) hloc hd (fun H1 locs1 hP1 _ hS1 => ?_)
          exact hK2 H1 locs1 ls hl (sx_HR_set (cl := sx_cj n1 (va_cpy f g sp.toNatClampNeg dp.toNatClampNeg n.toNatClampNeg)) hh.2 f3 f1 rfl hP1) hS1
        next => cases hv
      next => cases hv
    next => cases ho
  next => cases ho
theorem ok_sv {idx : Nat} (hw : Cond.fieldLink own idx "java/lang/String" "value" "[B" ∈ lw_good) (hd : decode cc pc = .ok (.getfield idx, 3)) : sx_Ok own cc nL nm ret pc (si_sv (pc + 3)) := by
  refine sx_Ok_of ?_ (by
  intro L st h r ho
  unfold si_sv at ho
  repeat' split at ho
  all_goals first | cases ho | exact sx_nx_r ho | (obtain ⟨_, _, ho⟩ := Option.bind_eq_some_iff.mp ho; exact sx_nx_r ho)) (by
  intro L st h r ho
  unfold si_sv at ho
  repeat' split at ho
  all_goals first | cases ho | exact sx_nx_c ho | (obtain ⟨_, _, ho⟩ := Option.bind_eq_some_iff.mp ho; exact sx_nx_c ho))
  intro d D cA ad bs n0 z0 p l e R s m args below meth c Q X L st h s' hn hz ho
  obtain ⟨hx, hb, hml, hown, hts, hnm2, hroom, hs0, hT⟩ := X
  have hK := hT.1
  have hA : ∀ k, k < 900 → ad.1 (k + 1) = bs + k := hT.2.2.2.2.2.2.2.2
  unfold si_sv at ho
  split at ho
  next a st =>
    split at ho
    next hc =>
      cases ho
      refine ⟨Nat.le_refl _, Nat.le_refl _, fun _ _ K H locs ls hl hh hS => ?_⟩
      obtain ⟨i, hi, rfl⟩ : ∃ i : Nat, i < 14 ∧ a = 1000 + i := sx_off 1000 a hc
      have hE := (hT.2.2.2.2.1.1 i hi).2.2.1
      exact vk_getf (ref := "java/lang/String") hx hb hE hS hown (hts _ hw) (fun _ h => h) hd (by have := K H locs ls hl hh hS; dsimp only at this; rw [show 1000 + i + 100 = 1100 + i by omega] at this; exact this)
    next => cases ho
  next => cases ho
theorem ok_sk {idx : Nat} (hw : Cond.fieldLink own idx "java/lang/String" "coder" "B" ∈ lw_good) (hd : decode cc pc = .ok (.getfield idx, 3)) : sx_Ok own cc nL nm ret pc (si_sk (pc + 3)) := by
  refine sx_Ok_of ?_ (by
  intro L st h r ho
  unfold si_sk at ho
  repeat' split at ho
  all_goals first | cases ho | exact sx_nx_r ho | (obtain ⟨_, _, ho⟩ := Option.bind_eq_some_iff.mp ho; exact sx_nx_r ho)) (by
  intro L st h r ho
  unfold si_sk at ho
  repeat' split at ho
  all_goals first | cases ho | exact sx_nx_c ho | (obtain ⟨_, _, ho⟩ := Option.bind_eq_some_iff.mp ho; exact sx_nx_c ho))
  intro d D cA ad bs n0 z0 p l e R s m args below meth c Q X L st h s' hn hz ho
  obtain ⟨hx, hb, hml, hown, hts, hnm2, hroom, hs0, hT⟩ := X
  have hK := hT.1
  have hA : ∀ k, k < 900 → ad.1 (k + 1) = bs + k := hT.2.2.2.2.2.2.2.2
  unfold si_sk at ho
  split at ho
  next a st =>
    split at ho
    next hc =>
      cases ho
      refine ⟨Nat.le_refl _, Nat.le_refl _, fun _ _ K H locs ls hl hh hS => ?_⟩
      obtain ⟨i, hi, rfl⟩ : ∃ i : Nat, i < 14 ∧ a = 1000 + i := sx_off 1000 a hc
      have hE := (hT.2.2.2.2.1.1 i hi).2.1
      exact vk_getf (ref := "java/lang/String") hx hb hE hS hown (hts _ hw) (fun _ h => h) hd (K H locs ls hl hh hS)
    next => cases ho
  next => cases ho
end OK3
