/-! isUnder -/
def und (k q : Nat) : Bool := decide (k = q) || decide (q = 0) || (decide (k = 4) && decide (q = 1)) || (decide (k = 5) && decide (q = 2))
theorem lt6 {k : Nat} (h : k < 6) : k = 0 ∨ k = 1 ∨ k = 2 ∨ k = 3 ∨ k = 4 ∨ k = 5 := by omega
theorem sp_Kind_isUnder (d : Nat) (S : hs_S) (k q : Nat) (hk : k < 6) (hq : q < 6) : sx_call (d + 1) 20 [.ref (5 + k), .ref (5 + q)] (hp S) = some (some (.int (bI (und k q = true))), hp S) := by
  rw [cz20]
  rcases lt6 hk with rfl | rfl | rfl | rfl | rfl | rfl <;> rcases lt6 hq with rfl | rfl | rfl | rfl | rfl | rfl <;> simp [ez20_0, ez20_0n, ez20_1, ez20_1n, ez20_2, ez20_2n, ez20_3, ez20_3n, ez20_6, ez20_6n, ez20_7, ez20_7n, ez20_8, ez20_11, ez20_12, ez20_13, ez20_13n, ez20_14, ez20_17, ez20_17n, ez20_18, ez20_21, ez20_22, GF_5_2, GF_6_2, GF_7_2, GF_8_2, GF_9_2, GF_10_2, nar_0, nar_1, und, bI]
