/-! bits of sets -/
theorem bt_1 {i : Nat} (h : i < 32) : bt 1 i = decide (i = 0) := by
  have k : ∀ j, j < 32 → bt 1 j = decide (j = 0) := by decide +kernel
  exact k i h
theorem bt_sh1 {n i : Nat} (hn : n < 32) (hi : i < 32) : bt ((1 : Int32) <<< (nI n &&& 31)) i = decide (i = n) := by
  rw [b_shl n hn 1 hi]
  by_cases h : n ≤ i
  · rw [decide_eq_true h, Bool.true_and, bt_1 (by omega)]
    by_cases e : i = n
    · rw [decide_eq_true e, decide_eq_true (by omega)]
    · rw [decide_eq_false e, decide_eq_false (by omega)]
  · rw [decide_eq_false h, decide_eq_false (by omega)]
    rfl
theorem bt_s1 (x : Int32) {l i : Nat} (hl : l < 32) (hi : i < 32) : bt (x >>> (nI l &&& 31) &&& 1) i = (decide (i = 0) && bt x l) := by
  rw [b_and, b_sshr l hl x hi, bt_1 hi]
  by_cases e : i = 0
  · subst e
    rw [if_pos (by omega)]
    simp
  · rw [decide_eq_false e, Bool.and_false, Bool.false_and]
theorem sb_z (x : Int32) {l : Nat} (hl : l < 32) : (x >>> (nI l &&& 31) &&& 1 = 0) ↔ bt x l = false := by
  constructor
  · intro h
    have := bt_s1 x hl (i := 0) (by decide)
    rw [h, b_0] at this
    simpa using this.symm
  · intro h
    apply b_ext
    intro i hi
    rw [bt_s1 x hl hi, h, b_0, Bool.and_false]
theorem sb_1 (x : Int32) {l : Nat} (hl : l < 32) : (x >>> (nI l &&& 31) &&& 1 = 1) ↔ bt x l = true := by
  constructor
  · intro h
    have := bt_s1 x hl (i := 0) (by decide)
    rw [h, bt_1 (by decide)] at this
    simpa using this.symm
  · intro h
    apply b_ext
    intro i hi
    rw [bt_s1 x hl hi, h, bt_1 hi, Bool.and_true]
theorem ab_z (x : Int32) {l : Nat} (hl : l < 32) : (x &&& ((1 : Int32) <<< (nI l &&& 31)) = 0) ↔ bt x l = false := by
  constructor
  · intro h
    have e : bt (x &&& ((1 : Int32) <<< (nI l &&& 31))) l = bt x l := by
      rw [b_and, bt_sh1 hl hl, decide_eq_true rfl, Bool.and_true]
    rw [← e, h, b_0]
  · intro h
    apply b_ext
    intro i hi
    rw [b_and, bt_sh1 hl hi, b_0]
    by_cases e : i = l
    · rw [e, h, Bool.false_and]
    · rw [decide_eq_false e, Bool.and_false]
theorem sb_ab (x : Int32) {l : Nat} (hl : l < 32) : (x >>> (nI l &&& 31) &&& 1 = 0) = (x &&& ((1 : Int32) <<< (nI l &&& 31)) = 0) := propext ((sb_z x hl).trans (ab_z x hl).symm)
theorem bt_orF (f : Nat → Bool) : ∀ n, n ≤ 32 → ∀ i, i < 32 → bt (orF f n) i = (decide (i < n) && f i)
  | 0, _, i, _ => by
    show bt 0 i = _
    rw [b_0]
    rfl
  | n + 1, hn, i, hi => by
    have ih := bt_orF f n (by omega) i hi
    by_cases h : f n = true
    · rw [← orF_t h, b_or, ih, bt_sh1 (by omega) hi]
      by_cases e : i = n
      · subst e
        rw [h, decide_eq_true rfl, decide_eq_true (show i < i + 1 by omega), Bool.or_true]
        rfl
      · rw [decide_eq_false e, Bool.or_false]
        by_cases l : i < n
        · rw [decide_eq_true l, decide_eq_true (show i < n + 1 by omega)]
        · rw [decide_eq_false l, decide_eq_false (show ¬ i < n + 1 by omega)]
    · rw [← orF_f h, ih]
      by_cases e : i = n
      · subst e
        rw [ts_nt h, Bool.and_false, Bool.and_false]
      · by_cases l : i < n
        · rw [decide_eq_true l, decide_eq_true (show i < n + 1 by omega)]
        · rw [decide_eq_false l, decide_eq_false (show ¬ i < n + 1 by omega)]
theorem bt_not (x : Int32) {i : Nat} (hi : i < 32) : bt (x ^^^ (-1)) i = !bt x i := by
  rw [b_xor, b_m1 i hi]
  cases bt x i <;> rfl
