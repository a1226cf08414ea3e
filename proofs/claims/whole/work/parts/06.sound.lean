/-! SOUND (the tables, the judgement, the call) -/
def sx_nm : List (String × Nat × MethodName × String) := [("ShadeCarpets", 86, ⟨"ShadeCarpets$Tape", "<init>", "()V"⟩, "ShadeCarpets"), ("ShadeCarpets", 91, ⟨"ShadeCarpets$Sheet", "<init>", "()V"⟩, "ShadeCarpets"), ("ShadeCarpets$Carrier", 31, ⟨"ShadeCarpets", "heatAt", "(I)I"⟩, "ShadeCarpets"), ("ShadeCarpets$Way", 63, ⟨"ShadeCarpets", "spread", "(I)I"⟩, "ShadeCarpets")]
def sx_nc : List (String × String) := [("ShadeCarpets$Granny", "ShadeCarpets$Kind"), ("ShadeCarpets$Dealer", "ShadeCarpets$Kind"), ("ShadeCarpets$Caravan", "ShadeCarpets$Kind"), ("ShadeCarpets$Bride", "ShadeCarpets$Kind"), ("ShadeCarpets$Priest", "ShadeCarpets$Kind")]
def sx_strs : List (String × Nat × String) := [("ShadeCarpets", 25, "carrier"), ("ShadeCarpets", 32, "granny"), ("ShadeCarpets", 37, "dealer"), ("ShadeCarpets", 42, "caravan"), ("ShadeCarpets", 47, "bride"), ("ShadeCarpets", 52, "priest"), ("ShadeCarpets$Tape", 75, "at"), ("ShadeCarpets$Tape", 96, "shade"), ("ShadeCarpets$Tape", 102, "cover"), ("ShadeCarpets$Tape", 106, "dusk"), ("ShadeCarpets$Tape", 49, "post"), ("ShadeCarpets$Tape", 60, "price"), ("ShadeCarpets$Tape", 65, "clouds"), ("ShadeCarpets$Tape", 69, "sun")]
def sx_Tab (D : va_G) (cA : Nat → ClassId) (ad : sx_AD) (bs : Nat) (U : State) : Prop :=
  va_K D sx_cls (sx_tys cA) U ∧ (∀ q ∈ sx_nm, va_Nw (.methodLinkNest q.1 q.2.1 q.2.2.1 q.2.2.2) U) ∧ (∀ q ∈ sx_nc, va_Nw (.castable q.1 q.2) U) ∧ (∀ C ∈ ["ShadeCarpets$Carrier", "ShadeCarpets$Kind", "ShadeCarpets$Sheet"], va_AO C U) ∧
  vk_S 14 sx_slen sx_sbyt (fun i => ad.1 (1000 + i)) (fun i => ad.1 (1100 + i)) (fun q => bs ≤ q) U U.heap ∧ (∀ (i : Nat) (q : String × Nat × String), sx_strs[i]? = some q → vk_R q.1 q.2.1 q.2.2 (ad.1 (1000 + i)) U) ∧
  va_Z "java/lang/String" "COMPACT_STRINGS" "Z" (.int 1) (fun q => bs ≤ q) U U.heap ∧ va_Z "jdk/internal/util/Preconditions" "SIOOBE_FORMATTER" "Ljava/util/function/BiFunction;" (va_rf ad.2) (fun q => bs ≤ q) U U.heap ∧
  (∀ k, k < 900 → ad.1 (k + 1) = bs + k)
theorem sx_Tab_next {D : va_G} {cA : Nat → ClassId} {ad : sx_AD} {bs : Nat} {s U : State} (h : sx_Tab D cA ad bs s) (hW : s.WarmedH U.vm) (hk : ∀ a : Nat, a < s.heap.size → ¬ bs ≤ a → U.heap[a]? = s.heap[a]?) : sx_Tab D cA ad bs U := by
  obtain ⟨h1, h2, h3, h4, h5, h6, h7, h8, h9⟩ := h
  exact ⟨va_K.moved hW.alike h1, fun q hq => va_Nw.warmM hW (h2 q hq), fun q hq => va_Nw.warmC hW (h3 q hq), fun C hC => (h4 C hC).moved hW.alike, (h5.kept hk).moved hW.alike, fun i q hq => (h6 i q hq).warm hW, (h7.kept hk).moved hW.alike, (h8.kept hk).moved hW.alike, h9⟩
section SXW
variable {p : Program} {l : Launch} {e : Env} {R : Room} {s : State} {m : MethodId} {args : Array Value} {below : List Frame} {meth : Method} {c : Code} {Q : State → Prop} {D : va_G} {cA : Nat → ClassId} {ad : sx_AD} {bs n0 z0 : Nat}
/-- the judgement: from every machine state that the pure state lies in, the machine comes to Q -/
def sx_W (p : Program) (l : Launch) (e : Env) (R : Room) (s : State) (m : MethodId) (args : Array Value) (below : List Frame) (meth : Method) (c : Code) (Q : State → Prop) (D : va_G) (cA : Nat → ClassId) (ad : sx_AD) (bs n0 z0 : Nat) (q : sx_St) : Prop :=
  ∀ (H : Heap) (locs : List Loc) (ls : Array Slot), sx_LR ad c.maxLocals ls q.2.1 → sx_HR D cA ad bs q.2.2.2 H → va_S (fun q => bs ≤ q) s.heap H locs → W p l e R s m args below meth c H locs (q.2.2.2.length - n0) (sx_sz q.2.2.2 - z0) Q (F0 m q.1 ls (q.2.2.1.map (sx_mv ad)))
def sx_Cx (own : String) (cc : ByteArray) (nL : Nat) (nm : String) (d : Nat) (D : va_G) (cA : Nat → ClassId) (ad : sx_AD) (bs n0 : Nat) (p : Program) (R : Room) (s : State) (m : MethodId) (args : Array Value) (meth : Method) (c : Code) : Prop :=
  p.tables.exec = Jvm.exec ∧ c.code = cc ∧ c.maxLocals = nL ∧ s.vm.findClass own = some m.cls ∧ (∀ w ∈ lw_good, w.before args s = true) ∧ meth.name = nm ∧ (d + 1 ≤ R.frames ∧ 40 * (d + 1) ≤ R.locals) ∧ s.heap.size = bs + n0 ∧ sx_Tab D cA ad bs s
/-- the heap has just the cells that it says -/
theorem sx_sized {h : sx_H} {H : Heap} {locs : List Loc} {slots : Nat} {g : JFrame} (hs0 : s.heap.size = bs + n0) (hn : n0 ≤ h.length) (hP : va_P D sx_cls (sx_em cA ad bs 0 h) H) (hS : va_S (fun q => bs ≤ q) s.heap H locs) (k : H.size = bs + h.length → W p l e R s m args below meth c H locs (h.length - n0) slots Q g) : W p l e R s m args below meth c H locs (h.length - n0) slots Q g := by
  intro T hT X
  refine k ?_ T hT X
  have h1 := X.heapSize
  rw [hT, hs0] at h1
  have h2 := hS.1
  rw [hs0] at h2
  by_cases hl : h.length = n0
  · omega
  · have h3 : (sx_em cA ad bs 0 h)[h.length - 1]? = some (bs + (0 + (h.length - 1)), sx_tc cA ad (h[h.length - 1]'(by omega))) := by
      rw [sx_em_at, List.getElem?_eq_getElem (by omega)]
      rfl
    have h4 := (hP _ _ h3).lt
    simp only at h4
    omega
/-- a callee's contract out of the pure call -/
def sx_Ct (l : Launch) (D : va_G) (cA : Nat → ClassId) (ad : sx_AD) (bs d k : Nat) (as : List Value) (h : sx_H) (v : Option Value) (h' : sx_H) : Prop :=
  ∀ q : sx_MI, sx_ml[k]? = some q → Met l q.1 (.code q.1 q.2.1 q.2.2.1 q.2.2.2 :: lw_good) { frames := d, cells := h'.length - h.length, slots := sx_sz h' - sx_sz h, locals := 40 * d } (va_Pc (as.map (sx_mv ad)) (fun U => sx_Tab D cA ad bs U ∧ sx_HR D cA ad bs h U.heap ∧ U.heap.size = bs + h.length)) (fun _ st o t => o = .returned (v.map (sx_mv ad)) ∧ sx_HR D cA ad bs h' t.heap ∧ va_F (fun q => bs ≤ q) st t) (h'.length - h.length) (sx_sz h' - sx_sz h) (fun q => bs ≤ q)
theorem sx_blind {as : List Value} {h : sx_H} : FrameBlind (va_Pc (as.map (sx_mv ad)) (fun U => sx_Tab D cA ad bs U ∧ sx_HR D cA ad bs h U.heap ∧ U.heap.size = bs + h.length)) := by
  intro a U g mk ⟨q0, q1, q2, q3⟩
  exact ⟨q0, sx_Tab_next q1 (State.WarmedH.refl U) (fun _ _ _ => rfl), q2, q3⟩
theorem sx_preS {as : List Value} {h : sx_H} {H : Heap} {locs : List Loc} (hT : sx_Tab D cA ad bs s) (hP : sx_HR D cA ad bs h H) (hS : va_S (fun q => bs ≤ q) s.heap H locs) (hz : H.size = bs + h.length) : PreS s H (va_Pc (as.map (sx_mv ad)) (fun U => sx_Tab D cA ad bs U ∧ sx_HR D cA ad bs h U.heap ∧ U.heap.size = bs + h.length)) (as.map (sx_mv ad)) :=
  ⟨sx_blind, fun U hU hW => ⟨rfl, sx_Tab_next hT hW (fun a h1 h2 => by rw [hU]; exact hS.2.1 a h1 h2), by rw [hU]; exact hP, by rw [hU]; exact hz⟩⟩
/-- behind a call -/
theorem sx_back {v : Option Value} {h' : sx_H} {H : Heap} {locs : List Loc} {cells slots mc ms pc : Nat} {ls : Array Slot} {st0 rest : List Value} (hr : va_Run p l e R s m args below meth c H locs cells slots mc ms (F0 m pc ls st0) rest (fun st o t => o = .returned (v.map (sx_mv ad)) ∧ sx_HR D cA ad bs h' t.heap ∧ va_F (fun q => bs ≤ q) st t) (fun q => bs ≤ q)) (hS : va_S (fun q => bs ≤ q) s.heap H locs)
    (kk : ∀ (H1 : Heap) (locs1 : List Loc), sx_HR D cA ad bs h' H1 → va_S (fun q => bs ≤ q) s.heap H1 locs1 → W p l e R s m args below meth c H1 locs1 (cells + mc) (slots + ms) Q (F0 m (pc + 3) ls ((v.map (sx_mv ad)).toList ++ rest))) : W p l e R s m args below meth c H locs cells slots Q (F0 m pc ls st0) := by
  intro T hT X
  obtain ⟨v', st₀, t, T', L, h0, X', hL, e1, e2, ⟨hv, hb, hz, hk⟩, st⟩ := hr T hT X
  cases hv
  rw [h0] at hz hk
  obtain ⟨t2, a1, b1⟩ := kk T'.heap (locs ++ L) (by rw [e1]; exact hb)
    ⟨Nat.le_trans hS.1 (by rw [e1]; exact hz), fun q h1 h2 => by rw [e1, hk q (Nat.lt_of_lt_of_le h1 hS.1) h2]; exact hS.2.1 q h1 h2, fun q hq => by
      rcases List.mem_append.mp hq with h | h
      · exact hS.2.2 q h
      · exact hL q h⟩ T' rfl X'
  exact ⟨t2, st t2 a1, b1⟩
end SXW
/-- what it is that a step is kept by the machine -/
def sx_Ok (own : String) (cc : ByteArray) (nL : Nat) (nm : String) (ret : Option FieldType) (pc : Nat) (ps : sx_I) : Prop :=
  ∀ (d : Nat) (D : va_G) (cA : Nat → ClassId) (ad : sx_AD) (bs n0 z0 : Nat) (p : Program) (l : Launch) (e : Env) (R : Room) (s : State) (m : MethodId) (args : Array Value) (below : List Frame) (meth : Method) (c : Code) (Q : State → Prop), sx_Cx own cc nL nm d D cA ad bs n0 p R s m args meth c →
  ∀ (L : sx_Lo) (st : List Value) (h : sx_H), n0 ≤ h.length → z0 ≤ sx_sz h → match ps L st h with
    | none => True
    | some (.inl r) => (∃ v ty, ret = some ty ∧ narrow ty (.int v) = .int v ∧ decode cc pc = .ok (.ireturn, 1) ∧ st = [.int v] ∧ r = (some (.int v), h)) ∨ (∃ v, ret = some .long ∧ decode cc pc = .ok (.lreturn, 1) ∧ st = [.long v] ∧ r = (some (.long v), h)) ∨ (ret = none ∧ decode cc pc = .ok (.return_, 1) ∧ st = [] ∧ r = (none, h))
    | some (.inr (.inl s')) => h.length ≤ s'.2.2.2.length ∧ sx_sz h ≤ sx_sz s'.2.2.2 ∧ (s'.2.2.2.length - n0 ≤ R.cells → sx_sz s'.2.2.2 - z0 ≤ R.slots → sx_W p l e R s m args below meth c Q D cA ad bs n0 z0 s' → sx_W p l e R s m args below meth c Q D cA ad bs n0 z0 (pc, L, st, h))
    | some (.inr (.inr q)) => q.2.2.2.2.2 = h ∧ ∀ (v : Option Value) (h' : sx_H), sx_Ct l D cA ad bs d q.1 q.2.1 h v h' → h.length ≤ h'.length → sx_sz h ≤ sx_sz h' → h'.length - n0 ≤ R.cells → sx_sz h' - z0 ≤ R.slots → sx_W p l e R s m args below meth c Q D cA ad bs n0 z0 (sx_bk (v, h') q.2.2) → sx_W p l e R s m args below meth c Q D cA ad bs n0 z0 (pc, L, st, h)
