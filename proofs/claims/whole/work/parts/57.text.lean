/-! the text, land -/
/-- what an item leaves as it was -/
def iKeep (S T : hs_S) : Prop := jk S T ∧ T.1 51 1 = S.1 51 1 ∧ (∀ k, k = 4 → T.1 35 k = S.1 35 k) ∧ T.2.1 52 = S.2.1 52
theorem trF_jk {S0 S : hs_S} {b : Nat → Int32} {L w : Nat} {mo : Int32} {a k : Nat} {q : tQ} (h : jk S0 S) (ha : jF a k = true) : jk S0 (trF b L w mo a k S q).2.1 := by
  unfold trF
  by_cases h1 : wdB b q w = true
  · rw [if_pos h1]
    by_cases h2 : nbB (tk b L q) mo = true
    · rw [if_pos h2]
      exact jk_uF h ha _
    · rw [if_neg h2]
      exact h
  · rw [if_neg h1]
    exact h
theorem jF_39 {j k : Nat} (h : j < 8) : jF (39 + j) k = true := by
  rcases (show j = 0 ∨ j = 1 ∨ j = 2 ∨ j = 3 ∨ j = 4 ∨ j = 5 ∨ j = 6 ∨ j = 7 by omega) with rfl | rfl | rfl | rfl | rfl | rfl | rfl | rfl <;> rfl
theorem jK_39 {j : Nat} (h : j < 8) : jK (39 + j) = true := by
  rcases (show j = 0 ∨ j = 1 ∨ j = 2 ∨ j = 3 ∨ j = 4 ∨ j = 5 ∨ j = 6 ∨ j = 7 by omega) with rfl | rfl | rfl | rfl | rfl | rfl | rfl | rfl <;> rfl
theorem trF_35 {b : Nat → Int32} {L w : Nat} {mo : Int32} {j k : Nat} {S : hs_S} {q : tQ} (i : Nat) : (trF b L w mo (39 + j) k S q).2.1.1 35 i = S.1 35 i := by
  unfold trF
  by_cases h1 : wdB b q w = true
  · rw [if_pos h1]
    by_cases h2 : nbB (tk b L q) mo = true
    · rw [if_pos h2]
      exact uF_off S _ _ _ (Or.inl (by omega))
    · rw [if_neg h2]
  · rw [if_neg h1]
theorem ttF_keep {S0 S : hs_S} {b : Nat → Int32} {L j : Nat} {q : tQ} (hj : j < 8) (h : jk S0 S) (hq : qOk L q) : jk S0 (ttF b L (39 + j) S q).2.1 ∧ (ttF b L (39 + j) S q).2.1.1 51 1 = S.1 51 1 ∧ (ttF b L (39 + j) S q).2.1.2 = S.2 ∧ (∀ i, (ttF b L (39 + j) S q).2.1.1 35 i = S.1 35 i) ∧ qOk L (ttF b L (39 + j) S q).2.2 := by
  unfold ttF
  have a51 : 39 + j ≠ 51 := by omega
  have x1 := trF_1 b L 7 99 (39 + j) 2 S q a51
  have y1 := trF_ok (b := b) (w := 7) (mo := 99) (a := 39 + j) (k := 2) (S := S) hq
  have z1 := trF_jk (b := b) (L := L) (w := 7) (mo := 99) (a := 39 + j) (k := 2) (q := q) h (jF_39 hj)
  have v1 := fun i => trF_35 (b := b) (L := L) (w := 7) (mo := 99) (j := j) (k := 2) (S := S) (q := q) i
  generalize trF b L 7 99 (39 + j) 2 S q = r1 at x1 y1 z1 v1 ⊢
  by_cases h1 : r1.1 = true
  · rw [if_pos h1]
    have x2 := trF_1 b L 8 9 (39 + j) 3 r1.2.1 r1.2.2 a51
    have y2 := trF_ok (b := b) (w := 8) (mo := 9) (a := 39 + j) (k := 3) (S := r1.2.1) y1
    have z2 := trF_jk (b := b) (L := L) (w := 8) (mo := 9) (a := 39 + j) (k := 3) (q := r1.2.2) z1 (jF_39 hj)
    have v2 := fun i => trF_35 (b := b) (L := L) (w := 8) (mo := 9) (j := j) (k := 3) (S := r1.2.1) (q := r1.2.2) i
    generalize trF b L 8 9 (39 + j) 3 r1.2.1 r1.2.2 = r2 at x2 y2 z2 v2 ⊢
    by_cases h2 : r2.1 = true
    · rw [if_pos h2]
      have x3 := trF_1 b L 9 9 (39 + j) 4 r2.2.1 r2.2.2 a51
      have y3 := trF_ok (b := b) (w := 9) (mo := 9) (a := 39 + j) (k := 4) (S := r2.2.1) y2
      have z3 := trF_jk (b := b) (L := L) (w := 9) (mo := 9) (a := 39 + j) (k := 4) (q := r2.2.2) z2 (jF_39 hj)
      have v3 := fun i => trF_35 (b := b) (L := L) (w := 9) (mo := 9) (j := j) (k := 4) (S := r2.2.1) (q := r2.2.2) i
      generalize trF b L 9 9 (39 + j) 4 r2.2.1 r2.2.2 = r3 at x3 y3 z3 v3 ⊢
      exact ⟨z3, x3.1.trans (x2.1.trans x1.1), x3.2.trans (x2.2.trans x1.2), fun i => (v3 i).trans ((v2 i).trans (v1 i)), y3⟩
    · rw [if_neg h2]
      exact ⟨z2, x2.1.trans x1.1, x2.2.trans x1.2, fun i => (v2 i).trans (v1 i), y2⟩
  · rw [if_neg h1]
    exact ⟨z1, x1.1, x1.2, v1, y1⟩
/-- what holds of a state of the text: the draft's count, the tape's length, the rest as at first -/
def tIn (S0 : hs_S) (L : Nat) (S : hs_S) (q : tQ) : Prop := jk S0 S ∧ S.1 51 1 = nI L ∧ S.2.1 52 = S0.2.1 52 ∧ (∃ n, n ≤ 8 ∧ S.1 35 3 = nI n) ∧ qOk L q
theorem tcF_in {S0 S : hs_S} {L k n : Nat} {q : tQ} (h : tIn S0 L S q) (hn : n ≤ 8) (hc : S.1 35 3 = nI n) : tIn S0 L (tcF (S0.2.1 52) L k n S q).2.1 (tcF (S0.2.1 52) L k n S q).2.2 := by
  obtain ⟨a1, a2, a3, a4, a5⟩ := h
  unfold tcF
  by_cases h8 : 8 ≤ n
  · rw [if_pos h8]
    exact ⟨a1, a2, a3, a4, a5⟩
  · rw [if_neg h8]
    by_cases h1 : wdB (S0.2.1 52) (tk (S0.2.1 52) L q) 6 = true
    · rw [if_pos h1]
      by_cases h2 : nbB (tk (S0.2.1 52) L (tk (S0.2.1 52) L q)) 15 = true
      · rw [if_pos h2]
        have j : jk S0 (adS S n k (tk (S0.2.1 52) L (tk (S0.2.1 52) L q)).2.2.2) := jk_uF (jk_setC a1 (jF_39 (by omega)) (fun i => by rw [jF_39 (by omega), jF_39 (by omega)]) (jK_39 (by omega)) _ _ _ _ _ _) rfl _
        have e1 := adS_1 S n k (tk (S0.2.1 52) L (tk (S0.2.1 52) L q)).2.2.2 (by omega)
        have e3 : (adS S n k (tk (S0.2.1 52) L (tk (S0.2.1 52) L q)).2.2.2).1 35 3 = nI (n + 1) := uF_at _ _ _ _
        have e2 : (adS S n k (tk (S0.2.1 52) L (tk (S0.2.1 52) L q)).2.2.2).2.1 52 = S.2.1 52 := rfl
        generalize adS S n k (tk (S0.2.1 52) L (tk (S0.2.1 52) L q)).2.2.2 = A at j e1 e2 e3 ⊢
        obtain ⟨t1, t2, t3, t4, t5⟩ := ttF_keep (b := S0.2.1 52) (j := n) (by omega) j (tk_ok (b := S0.2.1 52) (tk_ok (b := S0.2.1 52) (tk_ok (b := S0.2.1 52) a5)))
        exact ⟨t1, t2.trans (e1.trans a2), by rw [t3]; exact e2.trans a3, ⟨n + 1, by omega, (t4 3).trans e3⟩, t5⟩
      · rw [if_neg h2]
        exact ⟨a1, a2, a3, a4, tk_ok (tk_ok a5)⟩
    · rw [if_neg h1]
      exact ⟨a1, a2, a3, a4, tk_ok a5⟩
theorem poR_in {S0 S : hs_S} {L r : Nat} {mo : Int32} {q : tQ} (h : tIn S0 L S q) (hr : r = 36 ∨ r = 37) : tIn S0 L (poR (S0.2.1 52) L r mo S q).2.1 (poR (S0.2.1 52) L r mo S q).2.2 := by
  obtain ⟨a1, a2, a3, a4, a5⟩ := h
  unfold poR
  by_cases h1 : nbB (tk (S0.2.1 52) L q) 15 = true
  · rw [if_pos h1]
    by_cases h2 : nbB (tk (S0.2.1 52) L (tk (S0.2.1 52) L q)) mo = true
    · rw [if_pos h2]
      refine ⟨jk_uI a1 (by rcases hr with rfl | rfl <;> rfl) _, a2, ?_, a4, tk_ok (tk_ok (tk_ok a5))⟩
      rw [uI_off _ _ _ (by omega)]
      exact a3
    · rw [if_neg h2]
      exact ⟨a1, a2, a3, a4, tk_ok (tk_ok a5)⟩
  · rw [if_neg h1]
    exact ⟨a1, a2, a3, a4, tk_ok a5⟩
theorem tiR_in {S0 S : hs_S} {L : Nat} {q : tQ} (h : tIn S0 L S q) : tIn S0 L (tiR (S0.2.1 52) L S q).2.1 (tiR (S0.2.1 52) L S q).2.2 := by
  unfold tiR
  by_cases h10 : wdB (S0.2.1 52) q 10 = true
  · rw [if_pos h10]
    exact poR_in h (Or.inl rfl)
  · rw [if_neg h10]
    by_cases h11 : wdB (S0.2.1 52) q 11 = true
    · rw [if_pos h11]
      exact poR_in h (Or.inr rfl)
    · rw [if_neg h11]
      obtain ⟨a1, a2, a3, a4, a5⟩ := h
      by_cases h12 : wdB (S0.2.1 52) q 12 = true
      · rw [if_pos h12]
        exact ⟨jk_uF a1 rfl _, a2, a3, a4, tk_ok a5⟩
      · rw [if_neg h12]
        by_cases h13 : wdB (S0.2.1 52) q 13 = true
        · rw [if_pos h13]
          exact ⟨jk_uF a1 rfl _, a2, a3, a4, tk_ok a5⟩
        · rw [if_neg h13]
          exact ⟨a1, a2, a3, a4, a5⟩
theorem tiK_in {S0 S : hs_S} {L n : Nat} {q : tQ} (h : tIn S0 L S q) (hn : n ≤ 8) (hc : S.1 35 3 = nI n) : ∀ m k, tIn S0 L (tiK (S0.2.1 52) L n S q m k).2.1 (tiK (S0.2.1 52) L n S q m k).2.2
  | 0, k => tiR_in h
  | m + 1, k => by
    unfold tiK
    by_cases h1 : wdB (S0.2.1 52) q k = true
    · rw [if_pos h1]
      exact tcF_in h hn hc
    · rw [if_neg h1]
      exact tiK_in h hn hc m (k + 1)
def tiF (b : Nat → Int32) (L : Nat) (S : hs_S) (q : tQ) : Bool × hs_S × tQ := tiK b L (S.1 35 3).toNatClampNeg S q 6 0
def teF (b : Nat → Int32) (L : Nat) : Nat → Nat → hs_S → tQ → Int32 × hs_S × tQ
  | 0, _, S, q => (-1 - nI q.2.1, S, q)
  | m + 1, it, S, q =>
    if (tiF b L S q).1 = true then
      if (tiF b L S q).2.2.1 = 0 then (nI it, (tiF b L S q).2.1, (tiF b L S q).2.2)
      else if (tiF b L S q).2.2.1 = 3 then teF b L m (it + 1) (tiF b L S q).2.1 (tk b L (tiF b L S q).2.2)
      else (-1 - nI (tiF b L S q).2.2.2.1, (tiF b L S q).2.1, (tiF b L S q).2.2)
    else (-1 - nI (tiF b L S q).2.2.2.1, (tiF b L S q).2.1, (tiF b L S q).2.2)
theorem tell_loop (d : Nat) (S0 : hs_S) (L : Nat) (hL : L ≤ 120) : ∀ m it S q, it + m = 121 → tIn S0 L S q → sx_run (d + 8) 48 (11, [some (.ref 51), some (.ref 35), some (.ref 2), some (.int (nI it))], [], hp (stT S q)) = some (some (.int (teF (S0.2.1 52) L m it S q).1), hp (stT (teF (S0.2.1 52) L m it S q).2.1 (teF (S0.2.1 52) L m it S q).2.2)) := by
  intro m
  induction m with
  | zero =>
    intro it S q hi h
    have e : it = 121 := by omega
    subst e
    rw [ez48_11]
    simp only [ez48_12, ez48_14, if_pos (show (120 : Int32) < nI 121 by decide), ez48_59, ez48_60, ez48_61, ez48_64, ez48_65, GF_51_3, stT_s, Option.bind_some]
    rfl
  | succ m ih =>
    intro it S q hi h
    obtain ⟨n, hn, hc⟩ := h.2.2.2.1
    have g : ¬ (120 : Int32) < nI it := nI_nlt (a := 120) (show it ≤ 120 by omega) (by omega)
    have ti := sp_takeItem d S L n q h.2.1 hL h.2.2.2.2 hn hc
    have ki := tiK_in h hn hc 6 0
    rw [h.2.2.1] at ti
    have e1 : tiF (S0.2.1 52) L S q = tiK (S0.2.1 52) L n S q 6 0 := by
      unfold tiF
      rw [hc, nI_clamp (show n < 2 ^ 31 by omega)]
    unfold teF
    rw [e1]
    generalize tiK (S0.2.1 52) L n S q 6 0 = r at ti ki ⊢
    rw [ez48_11]
    simp only [ez48_12, ez48_14, ez48_17, ez48_18, ez48_19, ez48_20, if_neg g, KL_51, if_true, ti, Option.bind_some, tl_s, ez48_23, bI_eq0]
    by_cases h1 : r.1 = true
    · rw [if_pos h1, if_pos (fun y => y h1)]
      simp only [ez48_29, ez48_30, GF_51_2, stT_t, Option.bind_some, ez48_33]
      by_cases h2 : r.2.2.1 = 0
      · rw [if_pos h2, if_neg (fun y => y h2)]
        simp only [ez48_36, ez48_37]
      · rw [if_neg h2, if_pos h2]
        simp only [ez48_38, ez48_39, ez48_42, GF_51_2, stT_t, Option.bind_some, ez48_43]
        by_cases h3 : r.2.2.1 = 3
        · rw [if_pos h3, if_pos h3]
          have av := sp_adv (d + 5) r.2.1 L r.2.2 ki.2.1 hL ki.2.2.2.2
          rw [ki.2.2.1] at av
          simp only [ez48_49, ez48_50, ez48_53, ez48_56, KL_51, if_true, av, Option.bind_some, tl_n, nI_1]
          exact ih (it + 1) r.2.1 _ (by omega) ⟨ki.1, ki.2.1, ki.2.2.1, ki.2.2.2.1, tk_ok ki.2.2.2.2⟩
        · rw [if_neg h3, if_neg h3]
          simp only [ez48_46, ez48_59, ez48_60, ez48_61, ez48_64, ez48_65, GF_51_3, stT_s, Option.bind_some]
    · rw [if_neg h1, if_neg (fun y => y h1)]
      simp only [ez48_26, ez48_59, ez48_60, ez48_61, ez48_64, ez48_65, GF_51_3, stT_s, Option.bind_some]
theorem teF_in {S0 : hs_S} {L : Nat} : ∀ m it S q, tIn S0 L S q → tIn S0 L (teF (S0.2.1 52) L m it S q).2.1 (teF (S0.2.1 52) L m it S q).2.2
  | 0, it, S, q, h => h
  | m + 1, it, S, q, h => by
    obtain ⟨n, hn, hc⟩ := h.2.2.2.1
    have ki := tiK_in h hn hc 6 0
    have e1 : tiF (S0.2.1 52) L S q = tiK (S0.2.1 52) L n S q 6 0 := by
      unfold tiF
      rw [hc, nI_clamp (show n < 2 ^ 31 by omega)]
    unfold teF
    rw [e1]
    generalize tiK (S0.2.1 52) L n S q 6 0 = r at ki ⊢
    by_cases h1 : r.1 = true
    · rw [if_pos h1]
      by_cases h2 : r.2.2.1 = 0
      · rw [if_pos h2]
        exact ki
      · rw [if_neg h2]
        by_cases h3 : r.2.2.1 = 3
        · rw [if_pos h3]
          exact teF_in m (it + 1) r.2.1 _ ⟨ki.1, ki.2.1, ki.2.2.1, ki.2.2.2.1, tk_ok ki.2.2.2.2⟩
        · rw [if_neg h3]
          exact ki
    · rw [if_neg h1]
      exact ki
theorem stT_self (S : hs_S) : ∃ q, stT S q = S ∧ q.2.2.2 = S.1 51 5 := by
  obtain ⟨s, -, es⟩ := wb_of32 (S.1 51 3)
  obtain ⟨e, -, ee⟩ := wb_of32 (S.1 51 4)
  refine ⟨(S.1 51 2, s, e, S.1 51 5), ?_, rfl⟩
  unfold stT
  dsimp only
  rw [← es, ← ee, uF_self, uF_self, uF_self, uF_self]
/-- the text is told to the draft -/
def teR (S : hs_S) (L : Nat) : Int32 × hs_S × tQ := teF (S.2.1 52) L 120 1 S (tkQ (S.2.1 52) L 0 (S.1 51 5))
theorem sp_tellTo (d : Nat) (S : hs_S) (L n : Nat) (hL : L ≤ 120) (hl : S.1 51 1 = nI L) (hn : n ≤ 8) (hc : S.1 35 3 = nI n) : sx_call (d + 9) 48 [.ref 51, .ref 35, .ref 2] (hp S) = some (some (.int (teR S L).1), hp (stT (teR S L).2.1 (teR S L).2.2)) := by
  obtain ⟨q, eq, en⟩ := stT_self S
  obtain ⟨t, s, e, v⟩ := q
  rw [cz48]
  have ev : v = S.1 51 5 := en
  subst ev
  have p0 : uF (stT S (t, s, e, S.1 51 5)) 51 4 0 = stT S (t, s, 0, S.1 51 5) := stT_pe S t s e (S.1 51 5) 0
  have av := sp_advance (d + 5) S L hl hL (t, s, 0, S.1 51 5) (Nat.zero_le L)
  have ok0 := tkQ_ok (S.2.1 52) L 0 (S.1 51 5) (Nat.zero_le L)
  have l := tell_loop d S L hL 120 1 S (tkQ (S.2.1 52) L 0 (S.1 51 5)) (by omega) ⟨jk_refl S, hl, rfl, ⟨n, hn, hc⟩, ok0.2⟩
  generalize hT : stT S (t, s, e, S.1 51 5) = T at eq p0
  subst eq
  simp only [ez48_0, ez48_1, ez48_2, ez48_5, ez48_6, ez48_9, ez48_10, PF_51_4, Option.bind_some, p0, KL_51, if_true, av, tl_n]
  exact l
def cl_land (S : hs_S) (L n : Nat) : Int32 × hs_S :=
  if (teR (cpL S 35 11 n) L).1 ≤ 0 then ((teR (cpL S 35 11 n) L).1, uF (stT (teR (cpL S 35 11 n) L).2.1 (teR (cpL S 35 11 n) L).2.2) 51 1 0)
  else ((teR (cpL S 35 11 n) L).1, cpL (uF (stT (teR (cpL S 35 11 n) L).2.1 (teR (cpL S 35 11 n) L).2.2) 51 1 0) 11 35 ((teR (cpL S 35 11 n) L).2.1.1 35 3).toNatClampNeg)
theorem cpL_51 (S : hs_S) (n k : Nat) (hn : n ≤ 8) : (cpL S 35 11 n).1 51 k = S.1 51 k := by
  unfold cpL
  rw [uF_off _ _ _ _ (Or.inl (by decide)), uF_off _ _ _ _ (Or.inl (by decide)), lpK_off _ _ _ _ (by omega), uF_off _ _ _ _ (Or.inl (by decide))]
  rfl
theorem cpL_35_3 (S : hs_S) (n : Nat) : (cpL S 35 11 n).1 35 3 = S.1 11 3 := by
  unfold cpL
  rw [uF_off _ _ _ _ (by decide), uF_off _ _ _ _ (by decide), lpK_off _ _ _ _ (Or.inl (by decide)), uF_at]
theorem sp_SC_land (d : Nat) (S : hs_S) (L n H : Nat) (h : hOk S n H) (hL : L ≤ 120) (hl : S.1 51 1 = nI L) : sx_call (d + 10) 93 [.ref 1] (hp S) = o1 (cl_land S L n) := by
  rw [cz93]
  have b := sp_become_35_11 (d + 7) S n h.n8 h.cnt
  have l1 : (cpL S 35 11 n).1 51 1 = nI L := (cpL_51 S n 1 h.n8).trans hl
  have l3 : (cpL S 35 11 n).1 35 3 = nI n := (cpL_35_3 S n).trans h.cnt
  have t := sp_tellTo d (cpL S 35 11 n) L n hL l1 h.n8 l3
  have ki : tIn (cpL S 35 11 n) L (teR (cpL S 35 11 n) L).2.1 (teR (cpL S 35 11 n) L).2.2 := teF_in 120 1 _ _ ⟨jk_refl _, l1, rfl, ⟨n, h.n8, l3⟩, (tkQ_ok _ L 0 _ (Nat.zero_le L)).2⟩
  unfold cl_land
  generalize teR (cpL S 35 11 n) L = r at t ki ⊢
  simp only [ez93_0, ez93_1, ez93_4, ez93_5, ez93_8, ez93_11, ez93_12, ez93_15, ez93_16, ez93_19, ez93_20, ez93_23, ez93_26, ez93_27, ez93_28, ez93_31, ez93_32, ez93_35, GF_1_0, GF_1_1, GF_1_3, GF_1_7, Option.bind_some, KL_35, KL_51, if_true, b, tl_n, t, tl_s, PF_51_1, ez93_36]
  by_cases h1 : r.1 ≤ 0
  · rw [if_pos h1, if_pos h1]
    simp only [ez93_50, ez93_51]
    rfl
  · rw [if_neg h1, if_neg h1]
    obtain ⟨q, hq, eq⟩ := ki.2.2.2.1
    have b2 := sp_become_11_35 (d + 7) (uF (stT r.2.1 r.2.2) 51 1 0) q hq eq
    rw [eq, nI_clamp (show q < 2 ^ 31 by omega)]
    simp only [ez93_39, ez93_40, ez93_43, ez93_44, ez93_47, ez93_50, ez93_51, GF_1_1, GF_1_3, Option.bind_some, KL_11, if_true, b2, tl_n]
    rfl
