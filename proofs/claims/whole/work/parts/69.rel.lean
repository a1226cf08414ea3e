/-! THE RELATION of the class and the model -/
def cOk (S : hs_S) (x : Nat) : Prop := S.2.2.2 x < 6 ∧ (∃ v, v < 16 ∧ S.1 x 1 = nI v) ∧ (∃ v, v ≤ 99 ∧ S.1 x 2 = nI v) ∧ (∃ v, v ≤ 9 ∧ S.1 x 3 = nI v) ∧ (∃ v, v ≤ 9 ∧ S.1 x 4 = nI v) ∧ (∃ v, v ≤ 999999 ∧ S.1 x 5 = nI v)
/-- the land at a has n carriers, and all is in range -/
def lOk (S : hs_S) (a n : Nat) : Prop := n ≤ 8 ∧ S.1 a 3 = nI n ∧ (∃ H, H ≤ 99999 ∧ S.1 a 4 = nI H) ∧ (S.1 a 5 = 0 ∨ S.1 a 5 = 1) ∧ (∀ p, p < 16 → ∃ v, v ≤ 9 ∧ S.2.1 (a + 1) p = nI v) ∧ (∀ p, p < 16 → ∃ v, v ≤ 99 ∧ S.2.1 (a + 2) p = nI v) ∧ ∀ c, c < n → cOk S (a + 4 + c)
/-- a row tells the land at a -/
def lRow (S : hs_S) (a n : Nat) (w : Nat → Int32) : Prop := w 0 = nI n ∧ w 1 = S.1 a 4 ∧ w 2 = S.1 a 5 ∧ (∀ p, p < 16 → w (3 + p) = S.2.1 (a + 1) p) ∧ (∀ p, p < 16 → w (19 + p) = S.2.1 (a + 2) p) ∧ ∀ c, c < n → (w (35 + 6 * c + 0) = nI (S.2.2.2 (a + 4 + c)) ∧ ∀ q, 1 ≤ q → q ≤ 5 → w (35 + 6 * c + q) = S.1 (a + 4 + c) q)
def LL (S : hs_S) (a n : Nat) (w : Nat → Int32) : Prop := lOk S a n ∧ lRow S a n w
/-- states that agree on the land at a -/
def lSame (S T : hs_S) (a n : Nat) : Prop := (∀ k, 3 ≤ k → k ≤ 5 → T.1 a k = S.1 a k) ∧ (∀ p, p < 16 → T.2.1 (a + 1) p = S.2.1 (a + 1) p) ∧ (∀ p, p < 16 → T.2.1 (a + 2) p = S.2.1 (a + 2) p) ∧ ∀ c, c < n → (T.2.2.2 (a + 4 + c) = S.2.2.2 (a + 4 + c) ∧ ∀ q, 1 ≤ q → q ≤ 5 → T.1 (a + 4 + c) q = S.1 (a + 4 + c) q)
theorem LL_same {S T : hs_S} {a n : Nat} {w : Nat → Int32} (h : LL S a n w) (g : lSame S T a n) : LL T a n w := by
  obtain ⟨⟨h1, h2, h3, h4, h5, h6, h7⟩, r0, r1, r2, r3, r4, r5⟩ := h
  obtain ⟨g1, g2, g3, g4⟩ := g
  refine ⟨⟨h1, ?_, ?_, ?_, fun p hp0 => ?_, fun p hp0 => ?_, fun c hc => ?_⟩, r0, ?_, ?_, fun p hp0 => ?_, fun p hp0 => ?_, fun c hc => ⟨?_, fun q q1 q5 => ?_⟩⟩
  · rw [g1 3 (by omega) (by omega)]; exact h2
  · rw [g1 4 (by omega) (by omega)]; exact h3
  · rw [g1 5 (by omega) (by omega)]; exact h4
  · rw [g2 p hp0]; exact h5 p hp0
  · rw [g3 p hp0]; exact h6 p hp0
  · obtain ⟨k0, k1⟩ := g4 c hc
    have := h7 c hc
    unfold cOk at this ⊢
    rw [k0, k1 1 (by omega) (by omega), k1 2 (by omega) (by omega), k1 3 (by omega) (by omega), k1 4 (by omega) (by omega), k1 5 (by omega) (by omega)]
    exact this
  · rw [g1 4 (by omega) (by omega)]; exact r1
  · rw [g1 5 (by omega) (by omega)]; exact r2
  · rw [g2 p hp0]; exact r3 p hp0
  · rw [g3 p hp0]; exact r4 p hp0
  · rw [(g4 c hc).1]; exact (r5 c hc).1
  · rw [(g4 c hc).2 q q1 q5]; exact (r5 c hc).2 q q1 q5
def kRel (S : hs_S) : Prop := S.1 61 5 = S.1 1 4 ∧ (S.1 1 4 = 0 ∨ (S.1 1 4 = 1 ∧ ∃ q, LL S 23 q (S.2.1 63)))
def tRel (S : hs_S) : Prop := (∃ L, L ≤ 120 ∧ S.1 51 1 = nI L ∧ S.1 61 13 = nI L) ∧ S.2.1 52 = S.2.1 67
def sRel (S : hs_S) : Prop := ∀ s, s < 4 → S.2.1 68 s = S.1 (53 + 2 * s) 1 ∧ (∃ z, z ≤ 40 ∧ S.1 (53 + 2 * s) 2 = nI z ∧ S.2.1 69 s = nI z) ∧ ∀ i, i < 40 → S.2.2.1 70 (40 * s + i) = S.2.2.1 (54 + 2 * s) i
def Rel (S : hs_S) (n : Nat) : Prop := LL S 11 n (S.2.1 62) ∧ kRel S ∧ S.2.1 4 = S.2.1 66 ∧ tRel S ∧ sRel S
theorem jF_27 {j k : Nat} (h : j < 8) : jF (27 + j) k = false := by
  rcases (show j = 0 ∨ j = 1 ∨ j = 2 ∨ j = 3 ∨ j = 4 ∨ j = 5 ∨ j = 6 ∨ j = 7 by omega) with rfl | rfl | rfl | rfl | rfl | rfl | rfl | rfl <;> rfl
theorem jK_27 {j : Nat} (h : j < 8) : jK (27 + j) = false := by
  rcases (show j = 0 ∨ j = 1 ∨ j = 2 ∨ j = 3 ∨ j = 4 ∨ j = 5 ∨ j = 6 ∨ j = 7 by omega) with rfl | rfl | rfl | rfl | rfl | rfl | rfl | rfl <;> rfl
theorem lSame_11 {S T : hs_S} {n : Nat} (hn : n ≤ 8) (g : jk S T) : lSame S T 11 n := by
  refine ⟨fun k _ _ => g.1 11 k rfl, fun p _ => by rw [g.2.1 (11 + 1) rfl], fun p _ => by rw [g.2.1 (11 + 2) rfl], fun c hc => ⟨g.2.2.2 (11 + 4 + c) (jK_car (by omega)), fun q _ _ => g.1 (11 + 4 + c) q (jF_car (by omega))⟩⟩
theorem lSame_23 {S T : hs_S} {n : Nat} (hn : n ≤ 8) (g : jk S T) : lSame S T 23 n := by
  refine ⟨fun k _ _ => g.1 23 k rfl, fun p _ => by rw [g.2.1 (23 + 1) rfl], fun p _ => by rw [g.2.1 (23 + 2) rfl], fun c hc => ⟨g.2.2.2 (23 + 4 + c) (jK_27 (by omega)), fun q _ _ => g.1 (23 + 4 + c) q (jF_27 (by omega))⟩⟩
theorem kRel_jk {S T : hs_S} (h : kRel S) (g : jk S T) : kRel T := by
  obtain ⟨a, b⟩ := h
  refine ⟨by rw [g.1 61 5 rfl, g.1 1 4 rfl]; exact a, ?_⟩
  rw [g.1 1 4 rfl]
  rcases b with b | ⟨b, q, c⟩
  · exact Or.inl b
  · refine Or.inr ⟨b, q, ?_⟩
    rw [g.2.1 63 rfl]
    exact LL_same c (lSame_23 c.1.1 g)
theorem tRel_jk {S T : hs_S} (h : tRel S) (g : jk S T) : tRel T := by
  obtain ⟨⟨L, a, b, c⟩, d⟩ := h
  exact ⟨⟨L, a, by rw [g.1 51 1 rfl]; exact b, by rw [g.1 61 13 rfl]; exact c⟩, by rw [g.2.1 52 rfl, g.2.1 67 rfl]; exact d⟩
theorem sRel_jk {S T : hs_S} (h : sRel S) (g : jk S T) : sRel T := by
  intro s hs
  obtain ⟨a, ⟨z, b, c, d⟩, e⟩ := h s hs
  refine ⟨by rw [g.2.1 68 rfl, g.1 _ _ (jF_s hs)]; exact a, ⟨z, b, by rw [g.1 _ _ (jF_s hs)]; exact c, by rw [g.2.1 69 rfl]; exact d⟩, fun i hi => ?_⟩
  rw [g.2.2.1 70 rfl, g.2.2.1 _ (jJ_s hs)]
  exact e i hi
theorem Rel_jk {S T : hs_S} {n : Nat} (h : Rel S n) (g : jk S T) : Rel T n := by
  obtain ⟨a, b, c, d, e⟩ := h
  refine ⟨?_, kRel_jk b g, by rw [g.2.1 4 rfl, g.2.1 66 rfl]; exact c, tRel_jk d g, sRel_jk e g⟩
  rw [g.2.1 62 rfl]
  exact LL_same a (lSame_11 a.1.1 g)
/-- what the specs ask, out of the relation -/
theorem Rel_ok {S : hs_S} {n : Nat} (h : Rel S n) : ∃ H, H ≤ 99999 ∧ hOk S n H := by
  obtain ⟨⟨h1, h2, ⟨H, hH, h3⟩, h4, h5, h6, h7⟩, -⟩ := h.1
  refine ⟨H, hH, h1, h2, h3, by omega, fun c hc => ?_⟩
  obtain ⟨k, ⟨v, hv, e⟩, -⟩ := h7 c hc
  refine ⟨k, ?_⟩
  have e' : S.1 (15 + c) 1 = nI v := e
  rw [e']
  exact in_nI hv (by decide)
def kOf (S : hs_S) (c : Nat) : Nat := S.2.2.2 (15 + c)
def pOf (S : hs_S) (c : Nat) : Nat := (S.1 (15 + c) 1).toNatClampNeg
theorem Rel_row {S : hs_S} {n : Nat} (h : Rel S n) : rG (S.2.1 62) n (kOf S) (pOf S) := by
  obtain ⟨⟨h1, h2, h3, h4, h5, h6, h7⟩, r0, r1, r2, r3, r4, r5⟩ := h.1
  refine ⟨h1, r0, fun c hc => ⟨⟨(h7 c hc).1, (r5 c hc).1⟩, ?_, ?_⟩⟩
  · obtain ⟨-, ⟨v, hv, e⟩, -⟩ := h7 c hc
    have e' : S.1 (15 + c) 1 = nI v := e
    unfold pOf
    rw [e', nI_clamp (show v < 2 ^ 31 by omega)]
    exact hv
  · obtain ⟨-, ⟨v, hv, e⟩, -⟩ := h7 c hc
    have e' : S.1 (15 + c) 1 = nI v := e
    rw [(r5 c hc).2 1 (by omega) (by omega)]
    unfold pOf
    rw [e', nI_clamp (show v < 2 ^ 31 by omega)]
theorem Rel_shO {S : hs_S} {n : Nat} (h : Rel S n) : shO S := fun s hs => by
  obtain ⟨-, ⟨z, a, b, c⟩, -⟩ := h.2.2.2.2 s hs
  exact ⟨z, a, b⟩
theorem Rel_shM {S : hs_S} {n : Nat} (h : Rel S n) : shM S := fun s hs => by
  obtain ⟨-, ⟨z, a, b, c⟩, -⟩ := h.2.2.2.2 s hs
  exact ⟨z, a, c⟩
/-- a finding on both sides -/
theorem Rel_fd {S T : hs_S} {n w : Nat} (h : Rel S n) (g : jk (fdS S w) T) : Rel (fdM T w) n := by
  have g0 : Rel (fdM (fdS S w) w) n := by
    obtain ⟨a, b, c, d, e⟩ := h
    refine ⟨a, b, ?_, d, e⟩
    show (fdM (fdS S w) w).2.1 4 = (fdM (fdS S w) w).2.1 66
    have e4 : (fdM (fdS S w) w).2.1 4 = upd (S.2.1 4) w (S.2.1 4 w + 1) := rfl
    have e66 : (fdM (fdS S w) w).2.1 66 = upd (S.2.1 66) w (S.2.1 66 w + 1) := rfl
    rw [e4, e66, c]
  exact Rel_jk g0 (jk_fdM g w)
/-- a step of the law: both answer alike, and the relation is kept -/
def stp (S : hs_S) (k1 : Nat) (a1 : List Value) (k2 : Nat) (a2 : List Value) : Prop := ∃ v T1 T2 n', sx_call 11 k1 a1 (hp S) = some (some (.int v), hp T1) ∧ sx_call 11 k2 a2 (hp T1) = some (some (.int v), hp T2) ∧ Rel T2 n'
