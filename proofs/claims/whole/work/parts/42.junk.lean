/-! JUNK: cells whose values no later answer shows; states that are the same but for junk -/
def jF (b k : Nat) : Bool := (b == 47) || (b == 49) || (b == 50) || (decide (35 ≤ b) && decide (b < 47)) || (b == 51 && decide (2 ≤ k)) || (b == 61 && !(k == 5) && !(k == 13))
def jI (b : Nat) : Bool := (b == 48) || (b == 36) || (b == 37) || (b == 64) || (b == 65)
def jJ (b : Nat) : Bool := b == 71
def jK (b : Nat) : Bool := (b == 49) || (b == 50) || (decide (35 ≤ b) && decide (b < 47))
def jk (S T : hs_S) : Prop := (∀ b k, jF b k = false → T.1 b k = S.1 b k) ∧ (∀ b, jI b = false → T.2.1 b = S.2.1 b) ∧ (∀ b, jJ b = false → T.2.2.1 b = S.2.2.1 b) ∧ (∀ b, jK b = false → T.2.2.2 b = S.2.2.2 b)
theorem jk_refl (S : hs_S) : jk S S := ⟨fun _ _ _ => rfl, fun _ _ => rfl, fun _ _ => rfl, fun _ _ => rfl⟩
theorem jk_trans {S T U : hs_S} (h : jk S T) (g : jk T U) : jk S U := ⟨fun b k e => (g.1 b k e).trans (h.1 b k e), fun b e => (g.2.1 b e).trans (h.2.1 b e), fun b e => (g.2.2.1 b e).trans (h.2.2.1 b e), fun b e => (g.2.2.2 b e).trans (h.2.2.2 b e)⟩
theorem jk_uF {S T : hs_S} (h : jk S T) {a k : Nat} (ha : jF a k = true) (v : Int32) : jk S (uF T a k v) := by
  refine ⟨fun b j e => ?_, h.2⟩
  have z : ¬ (b = a ∧ j = k) := fun z => by
    rw [z.1, z.2, ha] at e
    cases e
  rw [uF_1, if_neg z]
  exact h.1 b j e
theorem jk_uI {S T : hs_S} (h : jk S T) {a : Nat} (ha : jI a = true) (f : Nat → Int32) : jk S (uI T a f) := by
  refine ⟨h.1, fun b e => ?_, h.2.2⟩
  have z : ¬ b = a := fun z => by
    rw [z, ha] at e
    cases e
  rw [uI_2, if_neg z]
  exact h.2.1 b e
theorem jk_uJ {S T : hs_S} (h : jk S T) {a : Nat} (ha : jJ a = true) (f : Nat → Int64) : jk S (uJ T a f) := by
  refine ⟨h.1, h.2.1, fun b e => ?_, h.2.2.2⟩
  have z : ¬ b = a := fun z => by
    rw [z, ha] at e
    cases e
  rw [uJ_3, if_neg z]
  exact h.2.2.1 b e
theorem jk_uK {S T : hs_S} (h : jk S T) {a : Nat} (ha : jK a = true) (n : Nat) : jk S (uK T a n) := by
  refine ⟨h.1, h.2.1, h.2.2.1, fun b e => ?_⟩
  have z : ¬ b = a := fun z => by
    rw [z, ha] at e
    cases e
  rw [uK_4, if_neg z]
  exact h.2.2.2 b e
theorem jk_setC {S T : hs_S} (h : jk S T) {a : Nat} (ha : jF a 1 = true) (hj : ∀ j, jF a j = jF a 1) (hk : jK a = true) (k : Nat) (pl sh co du ca : Int32) : jk S (setC T a k pl sh co du ca) := by
  refine ⟨fun b j e => ?_, h.2.1, h.2.2.1, fun b e => ?_⟩
  · have z : b ≠ a := fun z => by
      rw [z, hj, ha] at e
      cases e
    rw [setC_off T a k pl sh co du ca z]
    exact h.1 b j e
  · have z : b ≠ a := fun z => by
      rw [z, hk] at e
      cases e
    rw [setC_k T a k pl sh co du ca z]
    exact h.2.2.2 b e
theorem jk_gSame {S T : hs_S} (g : gSame S T) : jk S T := by
  refine ⟨fun b k e => g.1 b k (fun z => ?_), fun b _ => by rw [g.2.1], fun b _ => by rw [g.2.2.1], fun b e => g.2.2.2 b (fun z => ?_)⟩
  · subst z
    cases e
  · subst z
    cases e
theorem jk_fdS {S T : hs_S} (h : jk S T) (w : Nat) : jk (fdS S w) (fdS T w) := by
  refine ⟨h.1, fun b e => ?_, h.2.2⟩
  unfold fdS
  rw [uI_2, uI_2, h.2.1 4 rfl, h.2.1 b e]
theorem jF_car {j k : Nat} (h : j < 8) : jF (15 + j) k = false := by
  rcases (show j = 0 ∨ j = 1 ∨ j = 2 ∨ j = 3 ∨ j = 4 ∨ j = 5 ∨ j = 6 ∨ j = 7 by omega) with rfl | rfl | rfl | rfl | rfl | rfl | rfl | rfl <;> rfl
theorem jK_car {j : Nat} (h : j < 8) : jK (15 + j) = false := by
  rcases (show j = 0 ∨ j = 1 ∨ j = 2 ∨ j = 3 ∨ j = 4 ∨ j = 5 ∨ j = 6 ∨ j = 7 by omega) with rfl | rfl | rfl | rfl | rfl | rfl | rfl | rfl <;> rfl
theorem hOk_jk {S T : hs_S} {n H : Nat} (h : hOk S n H) (g : jk S T) : hOk T n H := by
  have n8 := h.n8
  refine ⟨h.n8, (g.1 11 3 rfl).trans h.cnt, (g.1 11 4 rfl).trans h.hr, h.H1, fun j hj => ⟨?_, ?_⟩⟩
  · rw [g.2.2.2 (15 + j) (jK_car (by omega))]
    exact (h.car j hj).1
  · rw [g.1 (15 + j) 1 (jF_car (by omega))]
    exact (h.car j hj).2
/-- an answer, and a state but for junk -/
def cR (o : Option sx_R) (a : Int32) (S : hs_S) : Prop := ∃ T, o = some (some (.int a), hp T) ∧ jk S T
theorem cR_o1 {r : Int32 × hs_S} : cR (o1 r) r.1 r.2 := ⟨r.2, rfl, jk_refl r.2⟩
theorem uI_uI (S : hs_S) (a : Nat) (f g : Nat → Int32) : uI (uI S a f) a g = uI S a g := by
  unfold uI
  refine Prod.ext rfl (Prod.ext ?_ rfl)
  funext b
  dsimp only
  by_cases h : b = a
  · rw [if_pos h, if_pos h]
  · rw [if_neg h, if_neg h, if_neg h]
theorem uI_at (S : hs_S) (a : Nat) (f : Nat → Int32) : (uI S a f).2.1 a = f := by rw [uI_2, if_pos rfl]
theorem uI_off (S : hs_S) (a : Nat) (f : Nat → Int32) {b : Nat} (h : b ≠ a) : (uI S a f).2.1 b = S.2.1 b := by rw [uI_2, if_neg h]
theorem uF_comm (S : hs_S) (a k b j : Nat) (v w : Int32) (h : a ≠ b ∨ k ≠ j) : uF (uF S a k v) b j w = uF (uF S b j w) a k v := by
  unfold uF
  refine Prod.ext ?_ rfl
  funext x y
  dsimp only
  by_cases h1 : x = a ∧ y = k
  · by_cases h2 : x = b ∧ y = j
    · omega
    · rw [if_neg h2, if_pos h1, if_pos h1]
  · by_cases h2 : x = b ∧ y = j
    · rw [if_pos h2, if_neg h1, if_pos h2]
    · rw [if_neg h2, if_neg h1, if_neg h1, if_neg h2]
