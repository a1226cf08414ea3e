/-! BASE: small static methods -/
def bI (p : Prop) [Decidable p] : Int32 := if p then 1 else 0
theorem bI_t {p : Prop} [Decidable p] (h : p) : bI p = 1 := if_pos h
theorem bI_f {p : Prop} [Decidable p] (h : ¬ p) : bI p = 0 := if_neg h
theorem bI_eq0 (p : Prop) [Decidable p] : (bI p = 0) = ¬ p := by
  unfold bI
  by_cases h : p
  · simp [h]
  · simp [h]
theorem bI_nar (p : Prop) [Decidable p] : (narrow .boolean (.int (bI p)) = .int (bI p)) = True := by
  unfold bI
  by_cases h : p
  · simp only [h, if_true]; decide
  · simp only [h, if_false]; decide
theorem nar_0 : (narrow .boolean (.int 0) = .int 0) = True := by decide
theorem nar_1 : (narrow .boolean (.int 1) = .int 1) = True := by decide
theorem sp_SC_isPlace (d : Nat) (x : Int32) (h : sx_H) : sx_call (d + 1) 107 [.int x] h = some (some (.int (bI (0 ≤ x ∧ x < 16))), h) := by
  rw [cz107]
  simp only [ez107_0, ez107_1, ez107_4, ez107_5, ez107_7, ez107_10, ez107_11, ez107_14, ez107_15, nar_0, nar_1, if_true]
  by_cases h1 : x < 0
  · rw [if_pos h1, bI_f (fun z => Int32.not_lt.mpr z.1 h1)]
  · by_cases h2 : 16 ≤ x
    · rw [if_neg h1, if_pos h2, bI_f (fun z => Int32.not_le.mpr z.2 h2)]
    · rw [if_neg h1, if_neg h2, bI_t ⟨Int32.not_lt.mp h1, Int32.not_le.mp h2⟩]
theorem sp_Math_max (d : Nat) (x y : Int32) (h : sx_H) : sx_call (d + 1) 213 [.int x, .int y] h = some (some (.int (if x < y then y else x)), h) := by
  rw [cz213]
  simp only [ez213_0, ez213_1, ez213_2, ez213_5, ez213_6, ez213_9, ez213_10]
  split <;> rfl
theorem sp_Math_min (d : Nat) (x y : Int32) (h : sx_H) : sx_call (d + 1) 214 [.int x, .int y] h = some (some (.int (if y < x then y else x)), h) := by
  rw [cz214]
  simp only [ez214_0, ez214_1, ez214_2, ez214_5, ez214_6, ez214_9, ez214_10]
  split <;> rfl
theorem sp_Math_abs (d : Nat) (x : Int32) (h : sx_H) : sx_call (d + 1) 212 [.int x] h = some (some (.int (if 0 ≤ x then x else -x)), h) := by
  rw [cz212]
  simp only [ez212_0, ez212_1, ez212_4, ez212_5, ez212_6, ez212_9, ez212_10]
  split <;> rfl
