/-! the ghost: on, hoursUntilFound -/
theorem nI_ad (a b : Nat) : nI a + nI b = nI (a + b) := by
  induction b with
  | zero =>
    rw [show nI 0 = 0 by decide, Int32.add_zero]
    rfl
  | succ b ih => rw [← nI_1, ← Int32.add_assoc, ih, nI_1]; rfl
def ghK (T : hs_S) (H : Nat) : Nat → hs_S
  | 0 => T
  | j + 1 => uF (ghK T H j) 50 2 (shN (ghK T H j) 50 (nI (H + j)))
theorem ghK_off (T : hs_S) (H : Nat) {b k : Nat} (h : b ≠ 50 ∨ k ≠ 2) : ∀ j, (ghK T H j).1 b k = T.1 b k
  | 0 => rfl
  | j + 1 => (uF_off (ghK T H j) 50 2 _ h).trans (ghK_off T H h j)
theorem ghK_2 (T : hs_S) (H : Nat) : ∀ j, (ghK T H j).2 = T.2
  | 0 => rfl
  | j + 1 => ghK_2 T H j
theorem sp_gh (d : Nat) (T : hs_S) (H j : Nat) (hk : T.2.2.2 50 < 6) (hi : sx_in (T.1 50 1) 16 = true) (hH : H + j ≤ 200000) : sx_call (d + 6) 29 [.ref 11, .ref 50, .int (nI (H + j))] (hp (ghK T H j)) = some (some (.int (bI (fnN (ghK T H j) 50 (nI (H + j)) = true))), hp (ghK T H (j + 1))) :=
  sp_Land_passHour d (ghK T H j) 50 (nI (H + j)) rfl (by rw [ghK_2]; exact hk) (nI_pos' (by omega)) (by rw [nI_1]; exact nI_pos' (by omega)) (by rw [ghK_off T H (Or.inr (by decide))]; exact hi)
theorem on_loop (d : Nat) (T : hs_S) (H q : Nat) (l1 : Option Value) (h4 : T.1 11 4 = nI H) (hk : T.2.2.2 50 < 6) (hi : sx_in (T.1 50 1) 16 = true) (hH : H ≤ 99999) (hq : q ≤ 60) : ∀ m j, j + m = q → sx_run (d + 6) 80 (42, [some (.ref 1), l1, some (.int (nI q)), some (.int (nI j))], [], hp (ghK T H j)) = some (some (.int ((ghK T H q).1 50 2)), hp (ghK T H q)) := by
  intro m
  induction m with
  | zero =>
    intro j hj
    have hjn : j = q := by omega
    subst hjn
    rw [ez80_42]
    simp only [ez80_0, ez80_1, ez80_2, ez80_5, ez80_8, ez80_9, ez80_11, ez80_14, ez80_17, ez80_18, ez80_20, ez80_23, ez80_24, ez80_25, ez80_28, ez80_29, ez80_32, ez80_35, ez80_36, ez80_37, ez80_40, ez80_41, ez80_43, ez80_44, ez80_47, ez80_48, ez80_51, ez80_52, ez80_55, ez80_56, ez80_59, ez80_62, ez80_63, ez80_64, ez80_67, ez80_68, ez80_71, ez80_74, ez80_75, ez80_78, ez80_81, if_pos (nI_le (Nat.le_refl j) (by omega)), GF_1_6, Option.bind_some, GC_2 _ (show isCar 50 = true from rfl)]
  | succ m ih =>
    intro j hj
    have e4 : (ghK T H j).1 11 4 = nI H := (ghK_off T H (Or.inl (by decide)) j).trans h4
    rw [ez80_42]
    simp only [ez80_43, ez80_44, ez80_47, ez80_48, ez80_51, ez80_52, ez80_55, ez80_56, ez80_59, ez80_62, ez80_63, ez80_64, ez80_67, ez80_68, ez80_71, if_neg (nI_ge (show j < q by omega) (by omega)), GF_1_1, GF_1_6, GF_11_4, e4, nI_ad, Option.bind_some, KL_11, if_true, sp_gh d T H j hk hi (by omega), tl_s, nI_1]
    exact ih (j + 1) (by omega)
