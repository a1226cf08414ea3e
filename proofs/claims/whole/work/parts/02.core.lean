/-! THE PURE MACHINE (sx_): cells, states, one step, the run as the limit of its fuelled runs, calls by depth. -/
abbrev sx_Cl : Type := (Nat × (Nat → Int32)) ⊕ ((Nat × (Nat → Int64)) ⊕ ((Nat × Nat × (Nat → Option Nat)) ⊕ (Nat × List Value)))
abbrev sx_H : Type := List sx_Cl
abbrev sx_Lo : Type := List (Option Value)
abbrev sx_R : Type := Option Value × sx_H
abbrev sx_St : Type := Nat × sx_Lo × List Value × sx_H
abbrev sx_O : Type := Option (sx_R ⊕ (sx_St ⊕ (Nat × List Value × sx_St)))
abbrev sx_I : Type := sx_Lo → List Value → sx_H → sx_O
abbrev sx_ci (n : Nat) (f : Nat → Int32) : sx_Cl := .inl (n, f)
abbrev sx_cj (n : Nat) (f : Nat → Int64) : sx_Cl := .inr (.inl (n, f))
abbrev sx_cq (t n : Nat) (f : Nat → Option Nat) : sx_Cl := .inr (.inr (.inl (t, n, f)))
abbrev sx_co (k : Nat) (fs : List Value) : sx_Cl := .inr (.inr (.inr (k, fs)))
def sx_nx (pc : Nat) (L : sx_Lo) (st : List Value) (h : sx_H) : sx_O := some (.inr (.inl (pc, L, st, h)))
def sx_rt (v : Option Value) (h : sx_H) : sx_O := some (.inl (v, h))
def sx_ca (k : Nat) (as : List Value) (pc : Nat) (L : sx_Lo) (st : List Value) (h : sx_H) : sx_O := some (.inr (.inr (k, as, pc, L, st, h)))
abbrev sx_CL : Type := Nat → List Value → sx_H → Option sx_R
def sx_bk (r : sx_R) (q : sx_St) : sx_St := (q.1, q.2.1, r.1.toList ++ q.2.2.1, r.2)
def sx_rN (cd : Nat → sx_I) (cl : sx_CL) : Nat → sx_St → Option sx_R
  | 0, _ => none
  | n + 1, s => match cd s.1 s.2.1 s.2.2.1 s.2.2.2 with
    | none => none
    | some (.inl r) => some r
    | some (.inr (.inl s')) => sx_rN cd cl n s'
    | some (.inr (.inr q)) => (cl q.1 q.2.1 q.2.2.2.2.2).bind fun r => sx_rN cd cl n (sx_bk r q.2.2)
theorem sx_rN_up (cd : Nat → sx_I) (cl : sx_CL) : ∀ (n : Nat) (s : sx_St) (r : sx_R), sx_rN cd cl n s = some r → sx_rN cd cl (n + 1) s = some r := by
  intro n
  induction n with
  | zero => intro s r h; simp [sx_rN] at h
  | succ n ih =>
    intro s r h
    rw [sx_rN] at h ⊢
    cases hc : cd s.1 s.2.1 s.2.2.1 s.2.2.2 with
    | none => rw [hc] at h; simp at h
    | some o =>
      rw [hc] at h
      rcases o with r1 | s1 | q
      · exact h
      · exact ih _ _ h
      · dsimp only at h ⊢
        cases hk : cl q.1 q.2.1 q.2.2.2.2.2 with
        | none => rw [hk] at h; simp at h
        | some r1 =>
          rw [hk] at h
          simp only [Option.bind_some] at h ⊢
          exact ih _ _ h
theorem sx_rN_le (cd : Nat → sx_I) (cl : sx_CL) {n m : Nat} (hnm : n ≤ m) {s : sx_St} {r : sx_R} (h : sx_rN cd cl n s = some r) : sx_rN cd cl m s = some r := by
  induction hnm with
  | refl => exact h
  | step _ ih => exact sx_rN_up cd cl _ _ _ ih
noncomputable def sx_rn (cd : Nat → sx_I) (cl : sx_CL) (s : sx_St) : Option sx_R :=
  @dite _ (∃ n, (sx_rN cd cl n s).isSome = true) (Classical.propDecidable _) (fun h => sx_rN cd cl (Classical.choose h) s) (fun _ => none)
theorem sx_rn_iff (cd : Nat → sx_I) (cl : sx_CL) (s : sx_St) (r : sx_R) : sx_rn cd cl s = some r ↔ ∃ n, sx_rN cd cl n s = some r := by
  unfold sx_rn
  by_cases h : ∃ n, (sx_rN cd cl n s).isSome = true
  · rw [dif_pos h]
    constructor
    · intro e
      exact ⟨_, e⟩
    · intro ⟨n, e⟩
      have h2 := Classical.choose_spec h
      obtain ⟨r2, e2⟩ := Option.isSome_iff_exists.mp h2
      have a := sx_rN_le cd cl (Nat.le_max_left n (Classical.choose h)) e
      have b := sx_rN_le cd cl (Nat.le_max_right n (Classical.choose h)) e2
      rw [e2]
      exact b.symm.trans a
  · rw [dif_neg h]
    constructor
    · intro e; simp at e
    · intro ⟨n, e⟩
      exact absurd ⟨n, by rw [e]; rfl⟩ h
theorem sx_rn_eq (cd : Nat → sx_I) (cl : sx_CL) (s : sx_St) : sx_rn cd cl s = match cd s.1 s.2.1 s.2.2.1 s.2.2.2 with
    | none => none
    | some (.inl r) => some r
    | some (.inr (.inl s')) => sx_rn cd cl s'
    | some (.inr (.inr q)) => (cl q.1 q.2.1 q.2.2.2.2.2).bind fun r => sx_rn cd cl (sx_bk r q.2.2) := by
  apply Option.ext
  intro r
  rw [sx_rn_iff]
  constructor
  · intro ⟨n, e⟩
    cases n with
    | zero => simp [sx_rN] at e
    | succ n =>
      rw [sx_rN] at e
      cases hc : cd s.1 s.2.1 s.2.2.1 s.2.2.2 with
      | none => rw [hc] at e; simp at e
      | some o =>
        rw [hc] at e
        rcases o with r1 | s1 | q
        · exact e
        · exact (sx_rn_iff cd cl s1 r).mpr ⟨n, e⟩
        · dsimp only at e ⊢
          cases hk : cl q.1 q.2.1 q.2.2.2.2.2 with
          | none => rw [hk] at e; simp at e
          | some r1 =>
            rw [hk] at e
            simp only [Option.bind_some] at e ⊢
            exact (sx_rn_iff cd cl _ r).mpr ⟨n, e⟩
  · intro e
    cases hc : cd s.1 s.2.1 s.2.2.1 s.2.2.2 with
    | none => rw [hc] at e; simp at e
    | some o =>
      rw [hc] at e
      rcases o with r1 | s1 | q
      · exact ⟨1, by rw [sx_rN, hc]; exact e⟩
      · obtain ⟨n, e2⟩ := (sx_rn_iff cd cl s1 r).mp e
        exact ⟨n + 1, by rw [sx_rN, hc]; exact e2⟩
      · dsimp only at e
        cases hk : cl q.1 q.2.1 q.2.2.2.2.2 with
        | none => rw [hk] at e; simp at e
        | some r1 =>
          rw [hk] at e
          simp only [Option.bind_some] at e
          obtain ⟨n, e2⟩ := (sx_rn_iff cd cl _ r).mp e
          exact ⟨n + 1, by rw [sx_rN, hc]; dsimp only; rw [hk]; simp only [Option.bind_some]; exact e2⟩
/-- the locals with which a method begins -/
def sx_ea : List Value → sx_Lo
  | [] => []
  | .long x :: r => some (.long x) :: none :: sx_ea r
  | .double x :: r => some (.double x) :: none :: sx_ea r
  | v :: r => some v :: sx_ea r
def sx_en (n : Nat) (as : List Value) : sx_Lo := sx_ea as ++ List.replicate (n - (sx_ea as).length) none
noncomputable def sx_cN (cd : Nat → Nat → sx_I) (nL : Nat → Nat) : Nat → sx_CL
  | 0, _, _, _ => none
  | d + 1, k, as, h => if (sx_ea as).length ≤ nL k then sx_rn (cd k) (sx_cN cd nL d) (0, sx_en (nL k) as, [], h) else none
/-! cells -/
def sx_ld (h : sx_H) (a : Nat) : Option sx_Cl := match a with
  | 0 => none
  | a + 1 => h[a]?
def sx_se (h : sx_H) (a : Nat) (c : sx_Cl) : sx_H := h.set (a - 1) c
/-- how many slots a cell has -/
def sx_s1 : sx_Cl → Nat
  | .inl q => q.1
  | .inr (.inl q) => q.1
  | .inr (.inr (.inl q)) => q.2.1
  | .inr (.inr (.inr q)) => q.2.length
def sx_sz : sx_H → Nat
  | [] => 0
  | c :: r => sx_s1 c + sx_sz r
def sx_in (i : Int32) (n : Nat) : Bool := decide (0 ≤ i) && decide (i.toNatClampNeg < n)
def sx_gi (h : sx_H) (a : Nat) (i : Int32) : Option Int32 := match sx_ld h a with
  | some (.inl (n, f)) => if sx_in i n = true then some (f i.toNatClampNeg) else none
  | _ => none
def sx_gj (h : sx_H) (a : Nat) (i : Int32) : Option Int64 := match sx_ld h a with
  | some (.inr (.inl (n, f))) => if sx_in i n = true then some (f i.toNatClampNeg) else none
  | _ => none
def sx_rv (r : Option Nat) : Value := match r with
  | none => .null
  | some a => .ref a
def sx_gq (h : sx_H) (a : Nat) (i : Int32) : Option Value := match sx_ld h a with
  | some (.inr (.inr (.inl (t, n, f)))) => if sx_in i n = true ∧ t < 3 then some (sx_rv (f i.toNatClampNeg)) else none
  | _ => none
def sx_pi (h : sx_H) (a : Nat) (i x : Int32) : Option sx_H := match sx_ld h a with
  | some (.inl (n, f)) => if sx_in i n = true then some (sx_se h a (sx_ci n (upd f i.toNatClampNeg x))) else none
  | _ => none
def sx_pj (h : sx_H) (a : Nat) (i : Int32) (x : Int64) : Option sx_H := match sx_ld h a with
  | some (.inr (.inl (n, f))) => if sx_in i n = true then some (sx_se h a (sx_cj n (vp_updL f i.toNatClampNeg x))) else none
  | _ => none
/-- the class number of an object -/
def sx_kl (h : sx_H) (a : Nat) : Option Nat := match sx_ld h a with
  | some (.inr (.inr (.inr (k, _)))) => some k
  | _ => none
/-- a reference array's store: the array is of component number t, the object of one of the classes cs -/
def sx_pq (h : sx_H) (cs : List (Nat × Nat)) (a : Nat) (i : Int32) (b : Nat) : Option sx_H := match sx_ld h a, sx_kl h b with
  | some (.inr (.inr (.inl (t, n, f)))), some k => if sx_in i n = true ∧ (t, k) ∈ cs then some (sx_se h a (sx_cq t n (va_up f i.toNatClampNeg (some b)))) else none
  | _, _ => none
def sx_gf (h : sx_H) (a : Nat) (cs : List Nat) (k : Nat) : Option Value := match sx_ld h a with
  | some (.inr (.inr (.inr (c, fs)))) => if c ∈ cs then fs[k]? else none
  | _ => none
def sx_pf (h : sx_H) (a : Nat) (cs : List Nat) (k : Nat) (v : Value) : Option sx_H := match sx_ld h a with
  | some (.inr (.inr (.inr (c, fs)))) => if c ∈ cs ∧ k < fs.length then some (sx_se h a (sx_co c (fs.set k v))) else none
  | _ => none
def sx_al (h : sx_H) (a : Nat) : Option Int32 := match sx_ld h a with
  | some (.inl q) => some (Int32.ofNat q.1)
  | some (.inr (.inl q)) => some (Int32.ofNat q.1)
  | some (.inr (.inr (.inl q))) => if q.1 < 3 then some (Int32.ofNat q.2.1) else none
  | _ => none
