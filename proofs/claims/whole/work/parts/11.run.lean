/-! RUN: the machine's run out of the pure run -/
def sx_Mo (ps : sx_I) : Prop := ∀ L st h, match ps L st h with
  | none => True
  | some (.inl r) => r.2 = h
  | some (.inr (.inl s')) => h.length ≤ s'.2.2.2.length ∧ sx_sz h ≤ sx_sz s'.2.2.2
  | some (.inr (.inr q)) => q.2.2.2.2.2 = h
theorem sx_mo_nx {pc : Nat} {L : sx_Lo} {st : List Value} {h h' : sx_H} (h1 : h.length ≤ h'.length) (h2 : sx_sz h ≤ sx_sz h') : match sx_nx pc L st h' with
  | none => True
  | some (.inl r) => r.2 = h
  | some (.inr (.inl s')) => h.length ≤ s'.2.2.2.length ∧ sx_sz h ≤ sx_sz s'.2.2.2
  | some (.inr (.inr q)) => q.2.2.2.2.2 = h := ⟨h1, h2⟩
theorem sx_mo_none : sx_Mo (fun _ _ _ => none) := fun _ _ _ => trivial
/-- by its outcome -/
theorem sx_Mo_of {ps : sx_I} (hr : ∀ L st h r, ps L st h = some (.inl r) → r.2 = h) (hn : ∀ L st h s', ps L st h = some (.inr (.inl s')) → h.length ≤ s'.2.2.2.length ∧ sx_sz h ≤ sx_sz s'.2.2.2) (hc : ∀ L st h q, ps L st h = some (.inr (.inr q)) → q.2.2.2.2.2 = h) : sx_Mo ps := by
  intro L st h
  cases ho : ps L st h with
  | none => trivial
  | some o =>
    rcases o with r | s' | q
    · exact hr L st h r ho
    · exact hn L st h s' ho
    · exact hc L st h q ho

theorem mo_c (v : Value) (nx : Nat) : sx_Mo (si_c v nx) := by
  refine sx_Mo_of ?_ ?_ ?_ <;> intro L st h o ho <;> unfold si_c at ho <;> (repeat' split at ho) <;> first
    | (cases ho; done)
    | exact absurd ho sx_nx_r
    | exact absurd ho sx_nx_c
    | (cases ho; rfl)
    | (cases ho; exact ⟨Nat.le_refl _, Nat.le_refl _⟩)
    | (cases ho; exact ⟨by simp, by rw [sx_sz_app]; omega⟩)
theorem mo_ld (t : Value → Bool) (i nx : Nat) : sx_Mo (si_ld t i nx) := by
  refine sx_Mo_of ?_ ?_ ?_ <;> intro L st h o ho <;> unfold si_ld at ho <;> (repeat' split at ho) <;> first
    | (cases ho; done)
    | exact absurd ho sx_nx_r
    | exact absurd ho sx_nx_c
    | (cases ho; rfl)
    | (cases ho; exact ⟨Nat.le_refl _, Nat.le_refl _⟩)
    | (cases ho; exact ⟨by simp, by rw [sx_sz_app]; omega⟩)
theorem mo_lj (i nx : Nat) : sx_Mo (si_lj i nx) := by
  refine sx_Mo_of ?_ ?_ ?_ <;> intro L st h o ho <;> unfold si_lj at ho <;> (repeat' split at ho) <;> first
    | (cases ho; done)
    | exact absurd ho sx_nx_r
    | exact absurd ho sx_nx_c
    | (cases ho; rfl)
    | (cases ho; exact ⟨Nat.le_refl _, Nat.le_refl _⟩)
    | (cases ho; exact ⟨by simp, by rw [sx_sz_app]; omega⟩)
theorem mo_st (t : Value → Bool) (i nx : Nat) : sx_Mo (si_st t i nx) := by
  refine sx_Mo_of ?_ ?_ ?_ <;> intro L st h o ho <;> unfold si_st at ho <;> (repeat' split at ho) <;> first
    | (cases ho; done)
    | exact absurd ho sx_nx_r
    | exact absurd ho sx_nx_c
    | (cases ho; rfl)
    | (cases ho; exact ⟨Nat.le_refl _, Nat.le_refl _⟩)
    | (cases ho; exact ⟨by simp, by rw [sx_sz_app]; omega⟩)
theorem mo_sj (i nx : Nat) : sx_Mo (si_sj i nx) := by
  refine sx_Mo_of ?_ ?_ ?_ <;> intro L st h o ho <;> unfold si_sj at ho <;> (repeat' split at ho) <;> first
    | (cases ho; done)
    | exact absurd ho sx_nx_r
    | exact absurd ho sx_nx_c
    | (cases ho; rfl)
    | (cases ho; exact ⟨Nat.le_refl _, Nat.le_refl _⟩)
    | (cases ho; exact ⟨by simp, by rw [sx_sz_app]; omega⟩)
theorem mo_inc (i : Nat) (n : Int) (nx : Nat) : sx_Mo (si_inc i n nx) := by
  refine sx_Mo_of ?_ ?_ ?_ <;> intro L st h o ho <;> unfold si_inc at ho <;> (repeat' split at ho) <;> first
    | (cases ho; done)
    | exact absurd ho sx_nx_r
    | exact absurd ho sx_nx_c
    | (cases ho; rfl)
    | (cases ho; exact ⟨Nat.le_refl _, Nat.le_refl _⟩)
    | (cases ho; exact ⟨by simp, by rw [sx_sz_app]; omega⟩)
theorem mo_u (f : Int32 → Value) (nx : Nat) : sx_Mo (si_u f nx) := by
  refine sx_Mo_of ?_ ?_ ?_ <;> intro L st h o ho <;> unfold si_u at ho <;> (repeat' split at ho) <;> first
    | (cases ho; done)
    | exact absurd ho sx_nx_r
    | exact absurd ho sx_nx_c
    | (cases ho; rfl)
    | (cases ho; exact ⟨Nat.le_refl _, Nat.le_refl _⟩)
    | (cases ho; exact ⟨by simp, by rw [sx_sz_app]; omega⟩)
theorem mo_l2i (nx : Nat) : sx_Mo (si_l2i nx) := by
  refine sx_Mo_of ?_ ?_ ?_ <;> intro L st h o ho <;> unfold si_l2i at ho <;> (repeat' split at ho) <;> first
    | (cases ho; done)
    | exact absurd ho sx_nx_r
    | exact absurd ho sx_nx_c
    | (cases ho; rfl)
    | (cases ho; exact ⟨Nat.le_refl _, Nat.le_refl _⟩)
    | (cases ho; exact ⟨by simp, by rw [sx_sz_app]; omega⟩)
theorem mo_b (f : Int32 → Int32 → Int32) (nx : Nat) : sx_Mo (si_b f nx) := by
  refine sx_Mo_of ?_ ?_ ?_ <;> intro L st h o ho <;> unfold si_b at ho <;> (repeat' split at ho) <;> first
    | (cases ho; done)
    | exact absurd ho sx_nx_r
    | exact absurd ho sx_nx_c
    | (cases ho; rfl)
    | (cases ho; exact ⟨Nat.le_refl _, Nat.le_refl _⟩)
    | (cases ho; exact ⟨by simp, by rw [sx_sz_app]; omega⟩)
theorem mo_d (f : Int32 → Int32 → Int32) (nx : Nat) : sx_Mo (si_d f nx) := by
  refine sx_Mo_of ?_ ?_ ?_ <;> intro L st h o ho <;> unfold si_d at ho <;> (repeat' split at ho) <;> first
    | (cases ho; done)
    | exact absurd ho sx_nx_r
    | exact absurd ho sx_nx_c
    | (cases ho; rfl)
    | (cases ho; exact ⟨Nat.le_refl _, Nat.le_refl _⟩)
    | (cases ho; exact ⟨by simp, by rw [sx_sz_app]; omega⟩)
theorem mo_bj (f : Int64 → Int64 → Value) (nx : Nat) : sx_Mo (si_bj f nx) := by
  refine sx_Mo_of ?_ ?_ ?_ <;> intro L st h o ho <;> unfold si_bj at ho <;> (repeat' split at ho) <;> first
    | (cases ho; done)
    | exact absurd ho sx_nx_r
    | exact absurd ho sx_nx_c
    | (cases ho; rfl)
    | (cases ho; exact ⟨Nat.le_refl _, Nat.le_refl _⟩)
    | (cases ho; exact ⟨by simp, by rw [sx_sz_app]; omega⟩)
theorem mo_lsh (nx : Nat) : sx_Mo (si_lsh nx) := by
  refine sx_Mo_of ?_ ?_ ?_ <;> intro L st h o ho <;> unfold si_lsh at ho <;> (repeat' split at ho) <;> first
    | (cases ho; done)
    | exact absurd ho sx_nx_r
    | exact absurd ho sx_nx_c
    | (cases ho; rfl)
    | (cases ho; exact ⟨Nat.le_refl _, Nat.le_refl _⟩)
    | (cases ho; exact ⟨by simp, by rw [sx_sz_app]; omega⟩)
theorem mo_i1 (c : Int32 → Prop) [∀ x, Decidable (c x)] (t nx : Nat) : sx_Mo (si_i1 c t nx) := by
  refine sx_Mo_of ?_ ?_ ?_ <;> intro L st h o ho <;> unfold si_i1 at ho <;> (repeat' split at ho) <;> first
    | (cases ho; done)
    | exact absurd ho sx_nx_r
    | exact absurd ho sx_nx_c
    | (cases ho; rfl)
    | (cases ho; exact ⟨Nat.le_refl _, Nat.le_refl _⟩)
    | (cases ho; exact ⟨by simp, by rw [sx_sz_app]; omega⟩)
theorem mo_i2 (c : Int32 → Int32 → Prop) [∀ x y, Decidable (c x y)] (t nx : Nat) : sx_Mo (si_i2 c t nx) := by
  refine sx_Mo_of ?_ ?_ ?_ <;> intro L st h o ho <;> unfold si_i2 at ho <;> (repeat' split at ho) <;> first
    | (cases ho; done)
    | exact absurd ho sx_nx_r
    | exact absurd ho sx_nx_c
    | (cases ho; rfl)
    | (cases ho; exact ⟨Nat.le_refl _, Nat.le_refl _⟩)
    | (cases ho; exact ⟨by simp, by rw [sx_sz_app]; omega⟩)
theorem mo_ifn (t nx : Nat) : sx_Mo (si_ifn t nx) := by
  refine sx_Mo_of ?_ ?_ ?_ <;> intro L st h o ho <;> unfold si_ifn at ho <;> (repeat' split at ho) <;> first
    | (cases ho; done)
    | exact absurd ho sx_nx_r
    | exact absurd ho sx_nx_c
    | (cases ho; rfl)
    | (cases ho; exact ⟨Nat.le_refl _, Nat.le_refl _⟩)
    | (cases ho; exact ⟨by simp, by rw [sx_sz_app]; omega⟩)
theorem mo_acn (t nx : Nat) : sx_Mo (si_acn t nx) := by
  refine sx_Mo_of ?_ ?_ ?_ <;> intro L st h o ho <;> unfold si_acn at ho <;> (repeat' split at ho) <;> first
    | (cases ho; done)
    | exact absurd ho sx_nx_r
    | exact absurd ho sx_nx_c
    | (cases ho; rfl)
    | (cases ho; exact ⟨Nat.le_refl _, Nat.le_refl _⟩)
    | (cases ho; exact ⟨by simp, by rw [sx_sz_app]; omega⟩)
theorem mo_go (t : Nat) : sx_Mo (si_go t) := by
  refine sx_Mo_of ?_ ?_ ?_ <;> intro L st h o ho <;> unfold si_go at ho <;> (repeat' split at ho) <;> first
    | (cases ho; done)
    | exact absurd ho sx_nx_r
    | exact absurd ho sx_nx_c
    | (cases ho; rfl)
    | (cases ho; exact ⟨Nat.le_refl _, Nat.le_refl _⟩)
    | (cases ho; exact ⟨by simp, by rw [sx_sz_app]; omega⟩)
theorem mo_sw (cs : List (Int32 × Nat)) (d : Nat) : sx_Mo (si_sw cs d) := by
  refine sx_Mo_of ?_ ?_ ?_ <;> intro L st h o ho <;> unfold si_sw at ho <;> (repeat' split at ho) <;> first
    | (cases ho; done)
    | exact absurd ho sx_nx_r
    | exact absurd ho sx_nx_c
    | (cases ho; rfl)
    | (cases ho; exact ⟨Nat.le_refl _, Nat.le_refl _⟩)
    | (cases ho; exact ⟨by simp, by rw [sx_sz_app]; omega⟩)
theorem mo_dup (nx : Nat) : sx_Mo (si_dup nx) := by
  refine sx_Mo_of ?_ ?_ ?_ <;> intro L st h o ho <;> unfold si_dup at ho <;> (repeat' split at ho) <;> first
    | (cases ho; done)
    | exact absurd ho sx_nx_r
    | exact absurd ho sx_nx_c
    | (cases ho; rfl)
    | (cases ho; exact ⟨Nat.le_refl _, Nat.le_refl _⟩)
    | (cases ho; exact ⟨by simp, by rw [sx_sz_app]; omega⟩)
theorem mo_dp2 (nx : Nat) : sx_Mo (si_dp2 nx) := by
  refine sx_Mo_of ?_ ?_ ?_ <;> intro L st h o ho <;> unfold si_dp2 at ho <;> (repeat' split at ho) <;> first
    | (cases ho; done)
    | exact absurd ho sx_nx_r
    | exact absurd ho sx_nx_c
    | (cases ho; rfl)
    | (cases ho; exact ⟨Nat.le_refl _, Nat.le_refl _⟩)
    | (cases ho; exact ⟨by simp, by rw [sx_sz_app]; omega⟩)
theorem mo_pop (nx : Nat) : sx_Mo (si_pop nx) := by
  refine sx_Mo_of ?_ ?_ ?_ <;> intro L st h o ho <;> unfold si_pop at ho <;> (repeat' split at ho) <;> first
    | (cases ho; done)
    | exact absurd ho sx_nx_r
    | exact absurd ho sx_nx_c
    | (cases ho; rfl)
    | (cases ho; exact ⟨Nat.le_refl _, Nat.le_refl _⟩)
    | (cases ho; exact ⟨by simp, by rw [sx_sz_app]; omega⟩)
theorem mo_oi (nx : Nat) : sx_Mo (si_oi nx) := by
  refine sx_Mo_of ?_ ?_ ?_ <;> intro L st h o ho <;> unfold si_oi at ho <;> (repeat' split at ho) <;> first
    | (cases ho; done)
    | exact absurd ho sx_nx_r
    | exact absurd ho sx_nx_c
    | (cases ho; rfl)
    | (cases ho; exact ⟨Nat.le_refl _, Nat.le_refl _⟩)
    | (cases ho; exact ⟨by simp, by rw [sx_sz_app]; omega⟩)
theorem mo_sv (nx : Nat) : sx_Mo (si_sv nx) := by
  refine sx_Mo_of ?_ ?_ ?_ <;> intro L st h o ho <;> unfold si_sv at ho <;> (repeat' split at ho) <;> first
    | (cases ho; done)
    | exact absurd ho sx_nx_r
    | exact absurd ho sx_nx_c
    | (cases ho; rfl)
    | (cases ho; exact ⟨Nat.le_refl _, Nat.le_refl _⟩)
    | (cases ho; exact ⟨by simp, by rw [sx_sz_app]; omega⟩)
theorem mo_sk (nx : Nat) : sx_Mo (si_sk nx) := by
  refine sx_Mo_of ?_ ?_ ?_ <;> intro L st h o ho <;> unfold si_sk at ho <;> (repeat' split at ho) <;> first
    | (cases ho; done)
    | exact absurd ho sx_nx_r
    | exact absurd ho sx_nx_c
    | (cases ho; rfl)
    | (cases ho; exact ⟨Nat.le_refl _, Nat.le_refl _⟩)
    | (cases ho; exact ⟨by simp, by rw [sx_sz_app]; omega⟩)
theorem mo_sl (nx : Nat) : sx_Mo (si_sl nx) := by
  refine sx_Mo_of ?_ ?_ ?_ <;> intro L st h o ho <;> unfold si_sl at ho <;> (repeat' split at ho) <;> first
    | (cases ho; done)
    | exact absurd ho sx_nx_r
    | exact absurd ho sx_nx_c
    | (cases ho; rfl)
    | (cases ho; exact ⟨Nat.le_refl _, Nat.le_refl _⟩)
    | (cases ho; exact ⟨by simp, by rw [sx_sz_app]; omega⟩)
theorem mo_ba (nx : Nat) : sx_Mo (si_ba nx) := by
  refine sx_Mo_of ?_ ?_ ?_ <;> intro L st h o ho <;> unfold si_ba at ho <;> (repeat' split at ho) <;> first
    | (cases ho; done)
    | exact absurd ho sx_nx_r
    | exact absurd ho sx_nx_c
    | (cases ho; rfl)
    | (cases ho; exact ⟨Nat.le_refl _, Nat.le_refl _⟩)
    | (cases ho; exact ⟨by simp, by rw [sx_sz_app]; omega⟩)
theorem mo_gf (cs : List Nat) (k nx : Nat) : sx_Mo (si_gf cs k nx) := by
  refine sx_Mo_of ?_ ?_ ?_ <;> intro L st h o ho <;> unfold si_gf at ho <;> (repeat' split at ho) <;> first
    | (cases ho; done)
    | (obtain ⟨x, hv, ho⟩ := Option.bind_eq_some_iff.mp ho
       first
         | exact absurd ho sx_nx_r
         | exact absurd ho sx_nx_c
         | (cases ho; exact ⟨Nat.le_refl _, Nat.le_refl _⟩))
theorem mo_ia (nx : Nat) : sx_Mo (si_ia nx) := by
  refine sx_Mo_of ?_ ?_ ?_ <;> intro L st h o ho <;> unfold si_ia at ho <;> (repeat' split at ho) <;> first
    | (cases ho; done)
    | (obtain ⟨x, hv, ho⟩ := Option.bind_eq_some_iff.mp ho
       first
         | exact absurd ho sx_nx_r
         | exact absurd ho sx_nx_c
         | (cases ho; exact ⟨Nat.le_refl _, Nat.le_refl _⟩))
theorem mo_ja (nx : Nat) : sx_Mo (si_ja nx) := by
  refine sx_Mo_of ?_ ?_ ?_ <;> intro L st h o ho <;> unfold si_ja at ho <;> (repeat' split at ho) <;> first
    | (cases ho; done)
    | (obtain ⟨x, hv, ho⟩ := Option.bind_eq_some_iff.mp ho
       first
         | exact absurd ho sx_nx_r
         | exact absurd ho sx_nx_c
         | (cases ho; exact ⟨Nat.le_refl _, Nat.le_refl _⟩))
theorem mo_qa (nx : Nat) : sx_Mo (si_qa nx) := by
  refine sx_Mo_of ?_ ?_ ?_ <;> intro L st h o ho <;> unfold si_qa at ho <;> (repeat' split at ho) <;> first
    | (cases ho; done)
    | (obtain ⟨x, hv, ho⟩ := Option.bind_eq_some_iff.mp ho
       first
         | exact absurd ho sx_nx_r
         | exact absurd ho sx_nx_c
         | (cases ho; exact ⟨Nat.le_refl _, Nat.le_refl _⟩))
theorem mo_len (nx : Nat) : sx_Mo (si_len nx) := by
  refine sx_Mo_of ?_ ?_ ?_ <;> intro L st h o ho <;> unfold si_len at ho <;> (repeat' split at ho) <;> first
    | (cases ho; done)
    | (obtain ⟨x, hv, ho⟩ := Option.bind_eq_some_iff.mp ho
       first
         | exact absurd ho sx_nx_r
         | exact absurd ho sx_nx_c
         | (cases ho; exact ⟨Nat.le_refl _, Nat.le_refl _⟩))
theorem mo_no (k : Nat) (fs : List Value) (nx : Nat) : sx_Mo (si_no k fs nx) := by
  refine sx_Mo_of ?_ ?_ ?_ <;> intro L st h o ho <;> unfold si_no at ho <;> (repeat' split at ho) <;> first
    | (cases ho; done)
    | exact absurd ho sx_nx_r
    | exact absurd ho sx_nx_c
    | (cases ho; rfl)
    | (cases ho; exact ⟨Nat.le_refl _, Nat.le_refl _⟩)
    | (cases ho; exact ⟨by simp, by rw [sx_sz_app]; omega⟩)
theorem mo_ni (nx : Nat) : sx_Mo (si_ni nx) := by
  refine sx_Mo_of ?_ ?_ ?_ <;> intro L st h o ho <;> unfold si_ni at ho <;> (repeat' split at ho) <;> first
    | (cases ho; done)
    | exact absurd ho sx_nx_r
    | exact absurd ho sx_nx_c
    | (cases ho; rfl)
    | (cases ho; exact ⟨Nat.le_refl _, Nat.le_refl _⟩)
    | (cases ho; exact ⟨by simp, by rw [sx_sz_app]; omega⟩)
theorem mo_nj (nx : Nat) : sx_Mo (si_nj nx) := by
  refine sx_Mo_of ?_ ?_ ?_ <;> intro L st h o ho <;> unfold si_nj at ho <;> (repeat' split at ho) <;> first
    | (cases ho; done)
    | exact absurd ho sx_nx_r
    | exact absurd ho sx_nx_c
    | (cases ho; rfl)
    | (cases ho; exact ⟨Nat.le_refl _, Nat.le_refl _⟩)
    | (cases ho; exact ⟨by simp, by rw [sx_sz_app]; omega⟩)
theorem mo_nq (t nx : Nat) : sx_Mo (si_nq t nx) := by
  refine sx_Mo_of ?_ ?_ ?_ <;> intro L st h o ho <;> unfold si_nq at ho <;> (repeat' split at ho) <;> first
    | (cases ho; done)
    | exact absurd ho sx_nx_r
    | exact absurd ho sx_nx_c
    | (cases ho; rfl)
    | (cases ho; exact ⟨Nat.le_refl _, Nat.le_refl _⟩)
    | (cases ho; exact ⟨by simp, by rw [sx_sz_app]; omega⟩)
theorem mo_cs (k n nx : Nat) : sx_Mo (si_cs k n nx) := by
  refine sx_Mo_of ?_ ?_ ?_ <;> intro L st h o ho <;> unfold si_cs at ho <;> (repeat' split at ho) <;> first
    | (cases ho; done)
    | exact absurd ho sx_nx_r
    | exact absurd ho sx_nx_c
    | (cases ho; rfl)
    | (cases ho; exact ⟨Nat.le_refl _, Nat.le_refl _⟩)
    | (cases ho; exact ⟨by simp, by rw [sx_sz_app]; omega⟩)
theorem mo_ci (k n nx : Nat) : sx_Mo (si_ci k n nx) := by
  refine sx_Mo_of ?_ ?_ ?_ <;> intro L st h o ho <;> unfold si_ci at ho <;> (repeat' split at ho) <;> first
    | (cases ho; done)
    | exact absurd ho sx_nx_r
    | exact absurd ho sx_nx_c
    | (cases ho; rfl)
    | (cases ho; exact ⟨Nat.le_refl _, Nat.le_refl _⟩)
    | (cases ho; exact ⟨by simp, by rw [sx_sz_app]; omega⟩)
theorem mo_cv (tb : List (Nat × Nat)) (n nx : Nat) : sx_Mo (si_cv tb n nx) := by
  refine sx_Mo_of ?_ ?_ ?_ <;> intro L st h o ho <;> unfold si_cv at ho <;> (repeat' split at ho) <;> first
    | (cases ho; done)
    | exact absurd ho sx_nx_r
    | exact absurd ho sx_nx_c
    | (cases ho; rfl)
    | (cases ho; exact ⟨Nat.le_refl _, Nat.le_refl _⟩)
    | (cases ho; exact ⟨by simp, by rw [sx_sz_app]; omega⟩)
theorem mo_ri  : sx_Mo (si_ri) := by
  refine sx_Mo_of ?_ ?_ ?_ <;> intro L st h o ho <;> unfold si_ri at ho <;> (repeat' split at ho) <;> first
    | (cases ho; done)
    | exact absurd ho sx_nx_r
    | exact absurd ho sx_nx_c
    | (cases ho; rfl)
    | (cases ho; exact ⟨Nat.le_refl _, Nat.le_refl _⟩)
    | (cases ho; exact ⟨by simp, by rw [sx_sz_app]; omega⟩)
theorem mo_rz (ty : FieldType) : sx_Mo (si_rz ty) := by
  refine sx_Mo_of ?_ ?_ ?_ <;> intro L st h o ho <;> unfold si_rz at ho <;> (repeat' split at ho) <;> first
    | (cases ho; done)
    | exact absurd ho sx_nx_r
    | exact absurd ho sx_nx_c
    | (cases ho; rfl)
    | (cases ho; exact ⟨Nat.le_refl _, Nat.le_refl _⟩)
    | (cases ho; exact ⟨by simp, by rw [sx_sz_app]; omega⟩)
theorem mo_rj  : sx_Mo (si_rj) := by
  refine sx_Mo_of ?_ ?_ ?_ <;> intro L st h o ho <;> unfold si_rj at ho <;> (repeat' split at ho) <;> first
    | (cases ho; done)
    | exact absurd ho sx_nx_r
    | exact absurd ho sx_nx_c
    | (cases ho; rfl)
    | (cases ho; exact ⟨Nat.le_refl _, Nat.le_refl _⟩)
    | (cases ho; exact ⟨by simp, by rw [sx_sz_app]; omega⟩)
theorem mo_rv  : sx_Mo (si_rv) := by
  refine sx_Mo_of ?_ ?_ ?_ <;> intro L st h o ho <;> unfold si_rv at ho <;> (repeat' split at ho) <;> first
    | (cases ho; done)
    | exact absurd ho sx_nx_r
    | exact absurd ho sx_nx_c
    | (cases ho; rfl)
    | (cases ho; exact ⟨Nat.le_refl _, Nat.le_refl _⟩)
    | (cases ho; exact ⟨by simp, by rw [sx_sz_app]; omega⟩)
theorem mo_pf (t : Value → Bool) (cs : List Nat) (k nx : Nat) : sx_Mo (si_pf t cs k nx) := by
  refine sx_Mo_of (by
  intro L st h r ho
  unfold si_pf at ho
  repeat' split at ho
  all_goals first | cases ho | (exact absurd ho sx_nx_r) | (obtain ⟨_, _, ho⟩ := Option.bind_eq_some_iff.mp ho; exact absurd ho sx_nx_r)) ?_ (by
  intro L st h r ho
  unfold si_pf at ho
  repeat' split at ho
  all_goals first | cases ho | (exact absurd ho sx_nx_c) | (obtain ⟨_, _, ho⟩ := Option.bind_eq_some_iff.mp ho; exact absurd ho sx_nx_c))
  intro L st h o ho
  unfold si_pf at ho
  split at ho
  next v a st =>
    split at ho
    next hcd =>
      obtain ⟨h', hv, ho⟩ := Option.bind_eq_some_iff.mp ho
      cases ho
      unfold sx_pf at hv
      split at hv
      next c fs hl0 =>
        split at hv
        next hc =>
          cases hv
          obtain ⟨k', e1, e2⟩ := sx_ld_k hl0
          obtain ⟨z1, z2⟩ := sx_se_sz (cl' := sx_co c (fs.set k v)) e1 e2 (by simp [sx_s1])
          exact ⟨Nat.le_of_eq z1.symm, Nat.le_of_eq z2.symm⟩
        next => cases hv
      next => cases hv
    next => cases ho
  next => cases ho
theorem mo_is (nx : Nat) : sx_Mo (si_is nx) := by
  refine sx_Mo_of (by
  intro L st h r ho
  unfold si_is at ho
  repeat' split at ho
  all_goals first | cases ho | (exact absurd ho sx_nx_r) | (obtain ⟨_, _, ho⟩ := Option.bind_eq_some_iff.mp ho; exact absurd ho sx_nx_r)) ?_ (by
  intro L st h r ho
  unfold si_is at ho
  repeat' split at ho
  all_goals first | cases ho | (exact absurd ho sx_nx_c) | (obtain ⟨_, _, ho⟩ := Option.bind_eq_some_iff.mp ho; exact absurd ho sx_nx_c))
  intro L st h o ho
  unfold si_is at ho
  split at ho
  next x i a st =>
    obtain ⟨h', hv, ho⟩ := Option.bind_eq_some_iff.mp ho
    cases ho
    unfold sx_pi at hv
    split at hv
    next n f hl0 =>
      split at hv
      next hc =>
        cases hv
        obtain ⟨k', e1, e2⟩ := sx_ld_k hl0
        obtain ⟨z1, z2⟩ := sx_se_sz (cl' := sx_ci n (upd f i.toNatClampNeg x)) e1 e2 (by simp [sx_s1])
        exact ⟨Nat.le_of_eq z1.symm, Nat.le_of_eq z2.symm⟩
      next => cases hv
    next => cases hv
  next => cases ho
theorem mo_js (nx : Nat) : sx_Mo (si_js nx) := by
  refine sx_Mo_of (by
  intro L st h r ho
  unfold si_js at ho
  repeat' split at ho
  all_goals first | cases ho | (exact absurd ho sx_nx_r) | (obtain ⟨_, _, ho⟩ := Option.bind_eq_some_iff.mp ho; exact absurd ho sx_nx_r)) ?_ (by
  intro L st h r ho
  unfold si_js at ho
  repeat' split at ho
  all_goals first | cases ho | (exact absurd ho sx_nx_c) | (obtain ⟨_, _, ho⟩ := Option.bind_eq_some_iff.mp ho; exact absurd ho sx_nx_c))
  intro L st h o ho
  unfold si_js at ho
  split at ho
  next x i a st =>
    obtain ⟨h', hv, ho⟩ := Option.bind_eq_some_iff.mp ho
    cases ho
    unfold sx_pj at hv
    split at hv
    next n f hl0 =>
      split at hv
      next hc =>
        cases hv
        obtain ⟨k', e1, e2⟩ := sx_ld_k hl0
        obtain ⟨z1, z2⟩ := sx_se_sz (cl' := sx_cj n (vp_updL f i.toNatClampNeg x)) e1 e2 (by simp [sx_s1])
        exact ⟨Nat.le_of_eq z1.symm, Nat.le_of_eq z2.symm⟩
      next => cases hv
    next => cases hv
  next => cases ho
theorem mo_qs (cs : List (Nat × Nat)) (nx : Nat) : sx_Mo (si_qs cs nx) := by
  refine sx_Mo_of (by
  intro L st h r ho
  unfold si_qs at ho
  repeat' split at ho
  all_goals first | cases ho | (exact absurd ho sx_nx_r) | (obtain ⟨_, _, ho⟩ := Option.bind_eq_some_iff.mp ho; exact absurd ho sx_nx_r)) ?_ (by
  intro L st h r ho
  unfold si_qs at ho
  repeat' split at ho
  all_goals first | cases ho | (exact absurd ho sx_nx_c) | (obtain ⟨_, _, ho⟩ := Option.bind_eq_some_iff.mp ho; exact absurd ho sx_nx_c))
  intro L st h o ho
  unfold si_qs at ho
  split at ho
  next b i a st =>
    obtain ⟨h', hv, ho⟩ := Option.bind_eq_some_iff.mp ho
    cases ho
    unfold sx_pq at hv
    split at hv
    next t n f kb hl0 hl1 =>
      split at hv
      next hc =>
        cases hv
        obtain ⟨k', e1, e2⟩ := sx_ld_k hl0
        obtain ⟨z1, z2⟩ := sx_se_sz (cl' := sx_cq t n (va_up f i.toNatClampNeg (some b))) e1 e2 (by simp [sx_s1])
        exact ⟨Nat.le_of_eq z1.symm, Nat.le_of_eq z2.symm⟩
      next => cases hv
    next => cases hv
  next => cases ho
theorem mo_ac (nx : Nat) : sx_Mo (si_ac nx) := by
  refine sx_Mo_of (by
  intro L st h r ho
  unfold si_ac at ho
  repeat' split at ho
  all_goals first | cases ho | (exact absurd ho sx_nx_r) | (obtain ⟨_, _, ho⟩ := Option.bind_eq_some_iff.mp ho; exact absurd ho sx_nx_r)) ?_ (by
  intro L st h r ho
  unfold si_ac at ho
  repeat' split at ho
  all_goals first | cases ho | (exact absurd ho sx_nx_c) | (obtain ⟨_, _, ho⟩ := Option.bind_eq_some_iff.mp ho; exact absurd ho sx_nx_c))
  intro L st h o ho
  unfold si_ac at ho
  split at ho
  next n dp b sp a st =>
    split at ho
    next hcd =>
      obtain ⟨h', hv, ho⟩ := Option.bind_eq_some_iff.mp ho
      cases ho
      unfold sx_ac at hv
      split at hv
      next n0 f n1 g hl1 hl0 =>
        split at hv
        next hc =>
          cases hv
          obtain ⟨k', e1, e2⟩ := sx_ld_k hl0
          obtain ⟨z1, z2⟩ := sx_se_sz (cl' := sx_ci n1 (va_cpy f g sp.toNatClampNeg dp.toNatClampNeg n.toNatClampNeg)) e1 e2 (by simp [sx_s1])
          exact ⟨Nat.le_of_eq z1.symm, Nat.le_of_eq z2.symm⟩
        next => cases hv
      next n0 f n1 g hl1 hl0 =>
        split at hv
        next hc =>
          cases hv
          obtain ⟨k', e1, e2⟩ := sx_ld_k hl0
          obtain ⟨z1, z2⟩ := sx_se_sz (cl' := sx_cj n1 (va_cpy f g sp.toNatClampNeg dp.toNatClampNeg n.toNatClampNeg)) e1 e2 (by simp [sx_s1])
          exact ⟨Nat.le_of_eq z1.symm, Nat.le_of_eq z2.symm⟩
        next => cases hv
      next => cases hv
    next => cases ho
  next => cases ho
/-- the answer's instruction -/
def sx_Rt (cc : ByteArray) (ret : Option FieldType) (pc : Nat) (st : List Value) (v : Option Value) : Prop :=
  (∃ x ty, ret = some ty ∧ narrow ty (.int x) = .int x ∧ decode cc pc = .ok (.ireturn, 1) ∧ st = [.int x] ∧ v = some (.int x)) ∨ (∃ x, ret = some .long ∧ decode cc pc = .ok (.lreturn, 1) ∧ st = [.long x] ∧ v = some (.long x)) ∨ (ret = none ∧ decode cc pc = .ok (.return_, 1) ∧ st = [] ∧ v = none)
theorem sx_runW {own : String} {cc : ByteArray} {nL : Nat} {nm : String} {ret : Option FieldType} {cd : Nat → sx_I} (hcd : ∀ pc, sx_Ok own cc nL nm ret pc (cd pc)) {cl : sx_CL} {d : Nat} {D : va_G} {cA : Nat → ClassId} {ad : sx_AD} {bs n0 z0 : Nat} {p : Program} {l : Launch} {e : Env} {R : Room} {s : State} {m : MethodId} {args : Array Value} {below : List Frame} {meth : Method} {c : Code} {Q : State → Prop} (X : sx_Cx own cc nL nm d D cA ad bs n0 p R s m args meth c)
    (hcl : ∀ k as h v h', cl k as h = some (v, h') → sx_Ct l D cA ad bs d k as h v h' ∧ h.length ≤ h'.length ∧ sx_sz h ≤ sx_sz h') :
    ∀ (n : Nat) (q : sx_St) (r : sx_R), sx_rN cd cl n q = some r → n0 ≤ q.2.2.2.length → z0 ≤ sx_sz q.2.2.2 → q.2.2.2.length ≤ r.2.length ∧ sx_sz q.2.2.2 ≤ sx_sz r.2 ∧ (r.2.length - n0 ≤ R.cells → sx_sz r.2 - z0 ≤ R.slots → (∀ pc L st, sx_Rt cc ret pc st r.1 → sx_W p l e R s m args below meth c Q D cA ad bs n0 z0 (pc, L, st, r.2)) → sx_W p l e R s m args below meth c Q D cA ad bs n0 z0 q) := by
  intro n
  induction n with
  | zero => intro q r h; simp [sx_rN] at h
  | succ n ih =>
    intro q r h hn hz
    obtain ⟨pc, L, st, h0⟩ := q
    dsimp only at hn hz ⊢
    have hO := hcd pc d D cA ad bs n0 z0 p l e R s m args below meth c Q X L st h0 hn hz
    rw [sx_rN] at h
    dsimp only at h
    cases hc : cd pc L st h0 with
    | none => rw [hc] at h; cases h
    | some o =>
      rw [hc] at h hO
      rcases o with r1 | s1 | q1
      · dsimp only at h hO
        cases h
        have hr2 : r.2 = h0 := by
          rcases hO with ⟨v, ty, -, -, -, -, e⟩ | ⟨v, -, -, -, e⟩ | ⟨-, -, -, e⟩ <;> rw [e]
        refine ⟨by rw [hr2]; exact Nat.le_refl _, by rw [hr2]; exact Nat.le_refl _, fun _ _ hret => ?_⟩
        have := hret pc L st (by
          rcases hO with ⟨v, ty, a1, a2, a3, a4, a5⟩ | ⟨v, a1, a3, a4, a5⟩ | ⟨a1, a3, a4, a5⟩
          · exact Or.inl ⟨v, ty, a1, a2, a3, a4, by rw [a5]⟩
          · exact Or.inr (Or.inl ⟨v, a1, a3, a4, by rw [a5]⟩)
          · exact Or.inr (Or.inr ⟨a1, a3, a4, by rw [a5]⟩))
        rw [hr2] at this
        exact this
      · dsimp only at h hO
        obtain ⟨m1, m2, K⟩ := hO
        obtain ⟨i1, i2, i3⟩ := ih s1 r h (by omega) (by omega)
        exact ⟨by omega, by omega, fun r1 r2 hret => K (by omega) (by omega) (i3 r1 r2 hret)⟩
      · dsimp only at h hO
        obtain ⟨m1, K⟩ := hO
        cases hk : cl q1.1 q1.2.1 q1.2.2.2.2.2 with
        | none => rw [hk] at h; cases h
        | some rr =>
          rw [hk] at h
          simp only [Option.bind_some] at h
          rw [m1] at hk
          obtain ⟨hC, c1, c2⟩ := hcl _ _ _ rr.1 rr.2 hk
          obtain ⟨i1, i2, i3⟩ := ih _ r h (by show n0 ≤ rr.2.length; omega) (by show z0 ≤ sx_sz rr.2; omega)
          have j1 : rr.2.length ≤ r.2.length := i1
          have j2 : sx_sz rr.2 ≤ sx_sz r.2 := i2
          exact ⟨by omega, by omega, fun r1 r2 hret => K rr.1 rr.2 hC c1 c2 (by omega) (by omega) (i3 r1 r2 hret)⟩
theorem sx_runM {cd : Nat → sx_I} (hcd : ∀ pc, sx_Mo (cd pc)) {cl : sx_CL} (hcl : ∀ k as h v h', cl k as h = some (v, h') → h.length ≤ h'.length ∧ sx_sz h ≤ sx_sz h') :
    ∀ (n : Nat) (q : sx_St) (r : sx_R), sx_rN cd cl n q = some r → q.2.2.2.length ≤ r.2.length ∧ sx_sz q.2.2.2 ≤ sx_sz r.2 := by
  intro n
  induction n with
  | zero => intro q r h; simp [sx_rN] at h
  | succ n ih =>
    intro q r h
    have hO := hcd q.1 q.2.1 q.2.2.1 q.2.2.2
    rw [sx_rN] at h
    cases hc : cd q.1 q.2.1 q.2.2.1 q.2.2.2 with
    | none => rw [hc] at h; cases h
    | some o =>
      rw [hc] at h hO
      rcases o with r1 | s1 | q1
      · dsimp only at h hO
        cases h
        rw [hO]
        exact ⟨Nat.le_refl _, Nat.le_refl _⟩
      · dsimp only at h hO
        obtain ⟨i1, i2⟩ := ih s1 r h
        exact ⟨Nat.le_trans hO.1 i1, Nat.le_trans hO.2 i2⟩
      · dsimp only at h hO
        cases hk : cl q1.1 q1.2.1 q1.2.2.2.2.2 with
        | none => rw [hk] at h; cases h
        | some rr =>
          rw [hk] at h
          simp only [Option.bind_some] at h
          rw [hO] at hk
          obtain ⟨c1, c2⟩ := hcl _ _ _ rr.1 rr.2 hk
          obtain ⟨i1, i2⟩ := ih _ r h
          exact ⟨Nat.le_trans c1 i1, Nat.le_trans c2 i2⟩
/-- a contract out of a walk, of a class of any name whose method isn't run by an entry instead -/
theorem sx_ofW {l : Launch} {y : MethodName} {ws ws' : List Cond} {rm : Room} {Pc : Array Value → State → Prop} {Qc : Array Value → State → Outcome → State → Prop} {mc ms : Nat} {free : Addr → Prop} {cc : ByteArray} {maxL : Nat} {ret : Option FieldType}
    (hy : plainFor y = true) (hw : ws = Cond.code y cc maxL ret :: ws')
    (body : ∀ p e s m args below meth c s₁, BodyLoose p l y (headSpec ws rm) cc maxL ret e s m args below meth c s₁ → c.maxLocals = maxL → Pc args s →
      W p l e (headSpec ws rm).room s m args below meth c s.heap [] 0 0 (MQ below Qc args s mc ms free) (entryFrame m args maxL)) : Met l y ws rm Pc Qc mc ms free := by
  refine MetFree.of_bodySF (code := cc) (maxLocals := maxL) (ret := ret) hy ?_ ?_
  · intro args s m h hn
    obtain ⟨meth, c, h1, h2, h3, h4, h5, h6, -, -⟩ := Cond.code_spec hn (atoms_spec (ws := ws) h _ (by rw [hw]; exact List.mem_cons_self))
    exact ⟨meth, c, h1, h2, h3, h4, h5, h6⟩
  · intro p e s m args below meth c s₁ B hml hP _
    have hh0 : s₁.heap = s.heap := by rw [B.state]; rfl
    obtain ⟨t, a1, o, b1, b2, b3⟩ := body p e s m args below meth c s₁ B hml hP s₁ hh0 (Stand.of_body B)
    exact ⟨t, o, a1, b1, b2, ⟨b3.1, b3.2⟩⟩
/-- what is known of the code of all keys -/
def sx_All (cd : Nat → Nat → sx_I) : Prop := (∀ k pc, sx_Mo (cd k pc)) ∧ ∀ (k : Nat) (q : sx_MI), sx_ml[k]? = some q → plainFor q.1 = true ∧ ∀ pc, sx_Ok q.1.cls q.2.1 q.2.2.1 q.1.name q.2.2.2 pc (cd k pc)
theorem sx_nl_eq {k : Nat} {q : sx_MI} (h : sx_ml[k]? = some q) : sx_nl k = q.2.2.1 := by
  unfold sx_nl
  rw [h]
theorem sx_sound {cd : Nat → Nat → sx_I} (hA : sx_All cd) {l : Launch} {D : va_G} {cA : Nat → ClassId} {ad : sx_AD} {bs : Nat} : ∀ (d k : Nat) (as : List Value) (h : sx_H) (v : Option Value) (h' : sx_H), sx_cN cd sx_nl d k as h = some (v, h') → sx_Ct l D cA ad bs d k as h v h' ∧ h.length ≤ h'.length ∧ sx_sz h ≤ sx_sz h' := by
  intro d
  induction d with
  | zero => intro k as h v h' e; simp [sx_cN] at e
  | succ d ih =>
    intro k as h v h' e
    rw [sx_cN] at e
    split at e
    next hlen =>
      obtain ⟨n, e⟩ := (sx_rn_iff _ _ _ _).mp e
      have hm := sx_runM (fun pc => hA.1 k pc) (fun k as h v h' e => (ih k as h v h' e).2) n _ _ e
      dsimp only at hm
      refine ⟨?_, hm.1, hm.2⟩
      intro q hq
      obtain ⟨hpl, hOk⟩ := hA.2 k q hq
      rw [sx_nl_eq hq] at hlen e
      refine sx_ofW (cc := q.2.1) (maxL := q.2.2.1) (ret := q.2.2.2) hpl rfl ?_
      intro p e1 s m args below meth c s₁ B hml hv
      obtain ⟨rfl, hT, hH, hz⟩ := hv
      have hts := atoms_spec (ws := Cond.code q.1 q.2.1 q.2.2.1 q.2.2.2 :: lw_good) B.pre
      have X : sx_Cx q.1.cls q.2.1 q.2.2.1 q.1.name d D cA ad bs h.length p (headSpec (Cond.code q.1 q.2.1 q.2.2.1 q.2.2.2 :: lw_good) { frames := d + 1, cells := h'.length - h.length, slots := sx_sz h' - sx_sz h, locals := 40 * (d + 1) }).room s m ((as.map (sx_mv ad)).toArray) meth c :=
        ⟨B.exec, B.bytes, hml, findClass_of_methodNamed B.named, fun w hw => hts w (List.mem_cons_of_mem _ hw), (name_of_methodNamed B.named B.method).1, ⟨Nat.le_refl _, Nat.le_refl _⟩, hz, hT⟩
      obtain ⟨-, -, key⟩ := sx_runW (z0 := sx_sz h) (l := l) (e := e1) (below := below) (Q := MQ below (fun _ st o t => o = .returned (v.map (sx_mv ad)) ∧ sx_HR D cA ad bs h' t.heap ∧ va_F (fun q => bs ≤ q) st t) ((as.map (sx_mv ad)).toArray) s (h'.length - h.length) (sx_sz h' - sx_sz h) (fun q => bs ≤ q)) hOk X (fun k as h v h' e => ih k as h v h' e) n _ _ e (Nat.le_refl _) (Nat.le_refl _)
      have hlocks := B.notSynchronized
      have hfin := key (Nat.le_refl _) (Nat.le_refl _) (fun pc L st hR H locs ls hl hh hS => by
        dsimp only at hh ⊢
        rcases hR with ⟨x, ty, a1, a2, a3, a4, a5⟩ | ⟨x, a1, a3, a4, a5⟩ | ⟨a1, a3, a4, a5⟩
        · subst a4
          dsimp only at a5
          exact W.zret (v := x) B.exec B.bytes (B.returns.trans a1) a2 (fun t ht hW => ⟨by rw [a5]; rfl, by rw [ht]; exact hh, hS.F ht⟩) hS.2.2 a3
        · subst a4
          dsimp only at a5
          exact W.lret (v := x) B.exec B.bytes (B.returns.trans a1) (fun t ht hW => ⟨by rw [a5]; rfl, by rw [ht]; exact hh, hS.F ht⟩) hS.2.2 a3
        · subst a4
          dsimp only at a5
          exact W.vret B.exec B.bytes (B.returns.trans a1) (fun t ht hW => ⟨by rw [a5]; rfl, by rw [ht]; exact hh, hS.F ht⟩) hS.2.2 a3)
      rw [lg_entry_eq]
      have hW := hfin s.heap [] _ (by dsimp only; rw [hml]; exact sx_LR_en ad as hlen) hH va_S.rf
      dsimp only at hW
      rw [Nat.sub_self, Nat.sub_self] at hW
      exact hW
    next => cases e
