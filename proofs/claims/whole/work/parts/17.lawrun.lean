/-! THE LAW: its steps over the script; the run at one context -/
def sx_Mt (l : Launch) (e : Env) (R : Room) (s : State) (m : MethodId) (args : Array Value) (below : List Frame) (meth : Method) (c : Code) (Q : State → Prop) (D : va_G) (cA : Nat → ClassId) (ad : sx_AD) (bs n0 z0 : Nat) (p : Program) (d : Nat) (cc : ByteArray) (ret : Option FieldType) (pc : Nat) (L : sx_Lo) (st : List Value) (h : sx_H) (o : sx_O) : Prop := match o with
    | none => True
    | some (.inl r) => (∃ v ty, ret = some ty ∧ narrow ty (.int v) = .int v ∧ decode cc pc = .ok (.ireturn, 1) ∧ st = [.int v] ∧ r = (some (.int v), h)) ∨ (∃ v, ret = some .long ∧ decode cc pc = .ok (.lreturn, 1) ∧ st = [.long v] ∧ r = (some (.long v), h)) ∨ (ret = none ∧ decode cc pc = .ok (.return_, 1) ∧ st = [] ∧ r = (none, h))
    | some (.inr (.inl s')) => h.length ≤ s'.2.2.2.length ∧ sx_sz h ≤ sx_sz s'.2.2.2 ∧ (s'.2.2.2.length - n0 ≤ R.cells → sx_sz s'.2.2.2 - z0 ≤ R.slots → sx_W p l e R s m args below meth c Q D cA ad bs n0 z0 s' → sx_W p l e R s m args below meth c Q D cA ad bs n0 z0 (pc, L, st, h))
    | some (.inr (.inr q)) => q.2.2.2.2.2 = h ∧ ∀ (v : Option Value) (h' : sx_H), sx_Ct l D cA ad bs d q.1 q.2.1 h v h' → h.length ≤ h'.length → sx_sz h ≤ sx_sz h' → h'.length - n0 ≤ R.cells → sx_sz h' - z0 ≤ R.slots → sx_W p l e R s m args below meth c Q D cA ad bs n0 z0 (sx_bk (v, h') q.2.2) → sx_W p l e R s m args below meth c Q D cA ad bs n0 z0 (pc, L, st, h)
theorem sx_runL {cc : ByteArray} {ret : Option FieldType} {cd : Nat → sx_I} {cl : sx_CL} {d : Nat} {D : va_G} {cA : Nat → ClassId} {ad : sx_AD} {bs n0 z0 : Nat} {p : Program} {l : Launch} {e : Env} {R : Room} {s : State} {m : MethodId} {args : Array Value} {below : List Frame} {meth : Method} {c : Code} {Q : State → Prop} (hcd : ∀ (pc : Nat) (L : sx_Lo) (st : List Value) (h : sx_H), n0 ≤ h.length → z0 ≤ sx_sz h → sx_Mt l e R s m args below meth c Q D cA ad bs n0 z0 p d cc ret pc L st h (cd pc L st h))
    (hcl : ∀ k as h v h', cl k as h = some (v, h') → sx_Ct l D cA ad bs d k as h v h' ∧ h.length ≤ h'.length ∧ sx_sz h ≤ sx_sz h') :
    ∀ (n : Nat) (q : sx_St) (r : sx_R), sx_rN cd cl n q = some r → n0 ≤ q.2.2.2.length → z0 ≤ sx_sz q.2.2.2 → q.2.2.2.length ≤ r.2.length ∧ sx_sz q.2.2.2 ≤ sx_sz r.2 ∧ (r.2.length - n0 ≤ R.cells → sx_sz r.2 - z0 ≤ R.slots → (∀ pc L st, sx_Rt cc ret pc st r.1 → sx_W p l e R s m args below meth c Q D cA ad bs n0 z0 (pc, L, st, r.2)) → sx_W p l e R s m args below meth c Q D cA ad bs n0 z0 q) := by
  intro n
  induction n with
  | zero => intro q r h; simp [sx_rN] at h
  | succ n ih =>
    intro q r h hn hz
    obtain ⟨pc, L, st, h0⟩ := q
    dsimp only at hn hz ⊢
    have hO := hcd pc L st h0 hn hz
    unfold sx_Mt at hO
    rw [sx_rN] at h
    dsimp only at h
    cases hc : cd pc L st h0 with
    | none => rw [hc] at h; cases h
    | some o =>
      rw [hc] at h hO
      rcases o with r1 | s1 | q1
      · dsimp only at h hO
        cases h
        have hr2 : r.2 = h0 := by
          rcases hO with ⟨v, ty, -, -, -, -, e⟩ | ⟨v, -, -, -, e⟩ | ⟨-, -, -, e⟩ <;> rw [e]
        refine ⟨by rw [hr2]; exact Nat.le_refl _, by rw [hr2]; exact Nat.le_refl _, fun _ _ hret => ?_⟩
        have := hret pc L st (by
          rcases hO with ⟨v, ty, a1, a2, a3, a4, a5⟩ | ⟨v, a1, a3, a4, a5⟩ | ⟨a1, a3, a4, a5⟩
          · exact Or.inl ⟨v, ty, a1, a2, a3, a4, by rw [a5]⟩
          · exact Or.inr (Or.inl ⟨v, a1, a3, a4, by rw [a5]⟩)
          · exact Or.inr (Or.inr ⟨a1, a3, a4, by rw [a5]⟩))
        rw [hr2] at this
        exact this
      · dsimp only at h hO
        obtain ⟨m1, m2, K⟩ := hO
        obtain ⟨i1, i2, i3⟩ := ih s1 r h (by omega) (by omega)
        exact ⟨by omega, by omega, fun r1 r2 hret => K (by omega) (by omega) (i3 r1 r2 hret)⟩
      · dsimp only at h hO
        obtain ⟨m1, K⟩ := hO
        cases hk : cl q1.1 q1.2.1 q1.2.2.2.2.2 with
        | none => rw [hk] at h; cases h
        | some rr =>
          rw [hk] at h
          simp only [Option.bind_some] at h
          rw [m1] at hk
          obtain ⟨hC, c1, c2⟩ := hcl _ _ _ rr.1 rr.2 hk
          obtain ⟨i1, i2, i3⟩ := ih _ r h (by show n0 ≤ rr.2.length; omega) (by show z0 ≤ sx_sz rr.2; omega)
          have j1 : rr.2.length ≤ r.2.length := i1
          have j2 : sx_sz rr.2 ≤ sx_sz r.2 := i2
          exact ⟨by omega, by omega, fun r1 r2 hret => K rr.1 rr.2 hC c1 c2 (by omega) (by omega) (i3 r1 r2 hret)⟩

/-- a step over the script of Ls ints xs -/
def sx_OkL (Ls : Nat) (xs : Nat → Int32) (own : String) (cc : ByteArray) (nL : Nat) (nm : String) (ret : Option FieldType) (e9 : Nat × sx_I) : Prop :=
  ∀ (d : Nat) (D : va_G) (cA : Nat → ClassId) (ad : sx_AD) (bs n0 z0 : Nat) (p : Program) (l : Launch) (e : Env) (R : Room) (s : State) (m : MethodId) (args : Array Value) (below : List Frame) (meth : Method) (c : Code) (Q : State → Prop), sx_Cx own cc nL nm d D cA ad bs n0 p R s m args meth c → va_X (ad.1 0) Ls xs s s.heap → ad.1 0 < s.heap.size → ¬ bs ≤ ad.1 0 →
  ∀ (L : sx_Lo) (st : List Value) (h : sx_H), n0 ≤ h.length → z0 ≤ sx_sz h → sx_Mt l e R s m args below meth c Q D cA ad bs n0 z0 p d cc ret e9.1 L st h (e9.2 L st h)
theorem sx_OkL_of {Ls : Nat} {xs : Nat → Int32} {own : String} {cc : ByteArray} {nL : Nat} {nm : String} {ret : Option FieldType} {pc : Nat} {ps : sx_I} (h : sx_Ok own cc nL nm ret pc ps) : sx_OkL Ls xs own cc nL nm ret (pc, ps) :=
  fun d D cA ad bs n0 z0 p l e R s m args below meth c Q X _ _ _ L st h0 hn hz => h d D cA ad bs n0 z0 p l e R s m args below meth c Q X L st h0 hn hz
def si_xl (Ls : Nat) (nx : Nat) : sx_I := fun L st h => match st with
  | .ref 0 :: st => sx_nx nx L (.int (Int32.ofNat Ls) :: st) h
  | _ => none
def si_xa (Ls : Nat) (xs : Nat → Int32) (nx : Nat) : sx_I := fun L st h => match st with
  | .int i :: .ref 0 :: st => if sx_in i Ls = true then sx_nx nx L (.int (xs i.toNatClampNeg) :: st) h else none
  | _ => none
theorem ok_xl {Ls : Nat} {xs : Nat → Int32} {own : String} {cc : ByteArray} {nL : Nat} {nm : String} {ret : Option FieldType} {pc : Nat} (hd : decode cc pc = .ok (.arraylength, 1)) : sx_OkL Ls xs own cc nL nm ret (pc, si_xl Ls (pc + 1)) := by
  intro d D cA ad bs n0 z0 p l e R s m args below meth c Q X hX hbl hbA L st h hn hz
  dsimp only
  cases ho : si_xl Ls (pc + 1) L st h with
  | none => trivial
  | some o =>
    unfold si_xl at ho
    split at ho
    · cases ho
      exact ⟨Nat.le_refl _, Nat.le_refl _, fun _ _ K H locs ls hl hh hS => va_slen (A := fun q => bs ≤ q) X.1 X.2.1 hX hbl hbA hS hd (K H locs ls hl hh hS)⟩
    · cases ho
theorem ok_xa {Ls : Nat} {xs : Nat → Int32} {own : String} {cc : ByteArray} {nL : Nat} {nm : String} {ret : Option FieldType} {pc : Nat} (hd : decode cc pc = .ok (.iaload, 1)) : sx_OkL Ls xs own cc nL nm ret (pc, si_xa Ls xs (pc + 1)) := by
  intro d D cA ad bs n0 z0 p l e R s m args below meth c Q X hX hbl hbA L st h hn hz
  dsimp only
  cases ho : si_xa Ls xs (pc + 1) L st h with
  | none => trivial
  | some o =>
    unfold si_xa at ho
    split at ho
    · split at ho
      next hc =>
        cases ho
        exact ⟨Nat.le_refl _, Nat.le_refl _, fun _ _ K H locs ls hl hh hS => va_sld (A := fun q => bs ≤ q) X.1 X.2.1 hX hbl hbA hS (sx_in_vp hc) hd (K H locs ls hl hh hS)⟩
      next => cases ho
    · cases ho
theorem sx_tabL {Ls : Nat} {xs : Nat → Int32} {own : String} {cc : ByteArray} {nL : Nat} {nm : String} {ret : Option FieldType} {tb : List (Nat × sx_I)} (h : ∀ e ∈ tb, sx_OkL Ls xs own cc nL nm ret e) (pc : Nat) : sx_OkL Ls xs own cc nL nm ret (pc, sx_tab tb pc) := by
  unfold sx_tab
  cases hl : tb.lookup pc with
  | none => intro d D cA ad bs n0 z0 p l e R s m args below meth c Q X hX hbl hbA L st h hn hz; trivial
  | some i => exact h (pc, i) (sx_tab_mem tb pc i hl)
