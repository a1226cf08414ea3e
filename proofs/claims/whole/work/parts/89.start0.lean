/-! THE START: the constructors, run by the kernel -/
def cK (f : Nat) : Nat → sx_CL
  | 0, _, _, _ => none
  | d + 1, k, as, h => if (sx_ea as).length ≤ sx_nl k then sx_rN (sx_cd k) (cK f d) f (0, sx_en (sx_nl k) as, [], h) else none
theorem rN_mono {cd : Nat → sx_I} {cl cl' : sx_CL} (hm : ∀ k as h r, cl k as h = some r → cl' k as h = some r) : ∀ (n : Nat) (s : sx_St) (r : sx_R), sx_rN cd cl n s = some r → sx_rN cd cl' n s = some r := by
  intro n
  induction n with
  | zero => intro s r h; simp [sx_rN] at h
  | succ n ih =>
    intro s r h
    rw [sx_rN] at h ⊢
    cases hc : cd s.1 s.2.1 s.2.2.1 s.2.2.2 with
    | none => rw [hc] at h; simp at h
    | some o =>
      rw [hc] at h
      rcases o with r1 | s1 | q
      · exact h
      · exact ih _ _ h
      · dsimp only at h ⊢
        cases hk : cl q.1 q.2.1 q.2.2.2.2.2 with
        | none => rw [hk] at h; simp at h
        | some r1 =>
          rw [hk] at h
          rw [hm _ _ _ _ hk]
          simp only [Option.bind_some] at h ⊢
          exact ih _ _ h
theorem cK_ok (f : Nat) : ∀ d k as h r, cK f d k as h = some r → sx_call d k as h = some r := by
  intro d
  induction d with
  | zero => intro k as h r e; simp [cK] at e
  | succ d ih =>
    intro k as h r e
    unfold cK at e
    by_cases z : (sx_ea as).length ≤ sx_nl k
    · rw [if_pos z] at e
      rw [er_call z rfl]
      exact (sx_rn_iff _ _ _ _).mpr ⟨f, rN_mono ih f _ _ e⟩
    · rw [if_neg z] at e
      cases e
def isR (o : Option sx_R) : Bool := match o with
  | some (none, _) => true
  | _ => false
def getH (o : Option sx_R) : sx_H := match o with
  | some (_, h) => h
  | none => []
theorem isR_out {o : Option sx_R} (h : isR o = true) : o = some (none, getH o) := by
  match o, h with
  | some (none, _), _ => rfl
def hz0 : sx_H := [sx_co 11 [.null, .null, .null, .null, .int 0, .null, .null, .null, .null, .null]]
theorem ev0 : isR (cK 300 10 66 [.ref 1] hz0) = true := by decide +kernel
