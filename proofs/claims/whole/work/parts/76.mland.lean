/-! A TEXT on both sides -/
theorem tk_ge {b : Nat → Int32} {L : Nat} {q : tQ} (h : qOk L q) : q.2.2.1 ≤ (tk b L q).2.1 ∧ (tk b L q).2.1 ≤ (tk b L q).2.2.1 := ⟨(tkQ_ok b L q.2.2.1 q.2.2.2 h.2).1, (tkQ_ok b L q.2.2.1 q.2.2.2 h.2).2.1⟩
theorem tk_e {b : Nat → Int32} {L : Nat} {q : tQ} (h : qOk L q) : q.2.2.1 ≤ (tk b L q).2.2.1 := Nat.le_trans (tk_ge h).1 (tk_ge h).2
theorem trF_ge {b : Nat → Int32} {L w : Nat} {mo : Int32} {a k : Nat} {S : hs_S} {q : tQ} (h : qOk L q) : q.2.2.1 ≤ (trF b L w mo a k S q).2.2.2.2.1 := by
  unfold trF
  by_cases h1 : wdB b q w = true
  · rw [if_pos h1]
    by_cases h2 : nbB (tk b L q) mo = true
    · rw [if_pos h2]
      exact Nat.le_trans (tk_e h) (tk_e (tk_ok h))
    · rw [if_neg h2]
      exact tk_e h
  · rw [if_neg h1]
    exact Nat.le_refl _
theorem ttF_ge {b : Nat → Int32} {L a : Nat} {S : hs_S} {q : tQ} (h : qOk L q) : q.2.2.1 ≤ (ttF b L a S q).2.2.2.2.1 := by
  unfold ttF
  have y1 := trF_ok (b := b) (w := 7) (mo := 99) (a := a) (k := 2) (S := S) h
  have z1 := trF_ge (b := b) (w := 7) (mo := 99) (a := a) (k := 2) (S := S) h
  generalize trF b L 7 99 a 2 S q = r1 at y1 z1 ⊢
  by_cases h1 : r1.1 = true
  · rw [if_pos h1]
    have y2 := trF_ok (b := b) (w := 8) (mo := 9) (a := a) (k := 3) (S := r1.2.1) y1
    have z2 := trF_ge (b := b) (w := 8) (mo := 9) (a := a) (k := 3) (S := r1.2.1) y1
    generalize trF b L 8 9 a 3 r1.2.1 r1.2.2 = r2 at y2 z2 ⊢
    by_cases h2 : r2.1 = true
    · rw [if_pos h2]
      have z3 := trF_ge (b := b) (w := 9) (mo := 9) (a := a) (k := 4) (S := r2.2.1) y2
      exact Nat.le_trans z1 (Nat.le_trans z2 z3)
    · rw [if_neg h2]
      exact Nat.le_trans z1 z2
  · rw [if_neg h1]
    exact z1
theorem tcF_ge {b : Nat → Int32} {L k n : Nat} {S : hs_S} {q : tQ} (h : qOk L q) : q.2.2.1 ≤ (tcF b L k n S q).2.2.2.2.1 := by
  unfold tcF
  by_cases h8 : 8 ≤ n
  · rw [if_pos h8]
    exact Nat.le_refl _
  · rw [if_neg h8]
    by_cases h1 : wdB b (tk b L q) 6 = true
    · rw [if_pos h1]
      by_cases h2 : nbB (tk b L (tk b L q)) 15 = true
      · rw [if_pos h2]
        exact Nat.le_trans (tk_e h) (Nat.le_trans (tk_e (tk_ok h)) (Nat.le_trans (tk_e (tk_ok (tk_ok h))) (ttF_ge (tk_ok (tk_ok (tk_ok h))))))
      · rw [if_neg h2]
        exact Nat.le_trans (tk_e h) (tk_e (tk_ok h))
    · rw [if_neg h1]
      exact tk_e h
theorem poR_ge {b : Nat → Int32} {L r : Nat} {mo : Int32} {S : hs_S} {q : tQ} (h : qOk L q) : q.2.2.1 ≤ (poR b L r mo S q).2.2.2.2.1 := by
  unfold poR
  by_cases h1 : nbB (tk b L q) 15 = true
  · rw [if_pos h1]
    by_cases h2 : nbB (tk b L (tk b L q)) mo = true
    · rw [if_pos h2]
      exact Nat.le_trans (tk_e h) (Nat.le_trans (tk_e (tk_ok h)) (tk_e (tk_ok (tk_ok h))))
    · rw [if_neg h2]
      exact Nat.le_trans (tk_e h) (tk_e (tk_ok h))
  · rw [if_neg h1]
    exact tk_e h
theorem tiR_ge {b : Nat → Int32} {L : Nat} {S : hs_S} {q : tQ} (h : qOk L q) : q.2.2.1 ≤ (tiR b L S q).2.2.2.2.1 ∧ ((tiR b L S q).1 = true → ∃ w, w < 14 ∧ wdB b q w = true) := by
  unfold tiR
  by_cases h10 : wdB b q 10 = true
  · rw [if_pos h10]
    exact ⟨poR_ge h, fun _ => ⟨10, by decide, h10⟩⟩
  · rw [if_neg h10]
    by_cases h11 : wdB b q 11 = true
    · rw [if_pos h11]
      exact ⟨poR_ge h, fun _ => ⟨11, by decide, h11⟩⟩
    · rw [if_neg h11]
      by_cases h12 : wdB b q 12 = true
      · rw [if_pos h12]
        exact ⟨tk_e h, fun _ => ⟨12, by decide, h12⟩⟩
      · rw [if_neg h12]
        by_cases h13 : wdB b q 13 = true
        · rw [if_pos h13]
          exact ⟨tk_e h, fun _ => ⟨13, by decide, h13⟩⟩
        · rw [if_neg h13]
          exact ⟨Nat.le_refl _, fun z => by cases z⟩
theorem tiK_ge {b : Nat → Int32} {L n : Nat} {S : hs_S} {q : tQ} (h : qOk L q) : ∀ m k, k + m = 6 → q.2.2.1 ≤ (tiK b L n S q m k).2.2.2.2.1 ∧ ((tiK b L n S q m k).1 = true → ∃ w, w < 14 ∧ wdB b q w = true)
  | 0, k, _ => tiR_ge h
  | m + 1, k, hk => by
    unfold tiK
    by_cases h1 : wdB b q k = true
    · rw [if_pos h1]
      exact ⟨tcF_ge h, fun _ => ⟨k, by omega, h1⟩⟩
    · rw [if_neg h1]
      exact tiK_ge h m (k + 1) (by omega)
theorem tiF_ge {b : Nat → Int32} {L : Nat} {S : hs_S} {q : tQ} (h : qOk L q) (t : (tiF b L S q).1 = true) : q.2.1 + 2 ≤ (tiF b L S q).2.2.2.2.1 := by
  obtain ⟨g1, g2⟩ := tiK_ge (b := b) (n := (S.1 35 3).toNatClampNeg) (S := S) h 6 0 (by omega)
  obtain ⟨w, hw, e⟩ := g2 t
  unfold wdB at e
  simp only [Bool.and_eq_true, decide_eq_true_eq] at e
  have s2 := (sl_7 w hw).2
  have g1' : q.2.2.1 ≤ (tiF b L S q).2.2.2.2.1 := g1
  omega
theorem tiF_end {b : Nat → Int32} {L : Nat} {S : hs_S} {q : tQ} (h : ¬ q.1 = 1) : tiF b L S q = (false, S, q) := by
  have n : ∀ w, ¬ wdB b q w = true := fun w z => by
    unfold wdB at z
    rw [decide_eq_false h] at z
    cases z
  unfold tiF
  simp [tiK, tiR, n]
def teA (b : Nat → Int32) (L m it : Nat) (r : Bool × hs_S × tQ) : Int32 × hs_S × tQ :=
  if r.1 = true then
    if r.2.2.1 = 0 then (nI it, r.2.1, r.2.2)
    else if r.2.2.1 = 3 then teF b L m (it + 1) r.2.1 (tk b L r.2.2)
    else (-1 - nI r.2.2.2.1, r.2.1, r.2.2)
  else (-1 - nI r.2.2.2.1, r.2.1, r.2.2)
theorem teF_A (b : Nat → Int32) (L m it : Nat) (S : hs_S) (q : tQ) : teF b L (m + 1) it S q = teA b L m it (tiF b L S q) := rfl
/-- how a text ends on both sides -/
def lF (S0 : hs_S) (x : Int32 × hs_S × tQ) (T : hs_S) : Prop := (∃ j, 1 ≤ j ∧ j ≤ 300 ∧ x.1 = nI j ∧ ∃ n w', LL x.2.1 35 n w' ∧ jk (uF (uI S0 62 w') 61 13 0) T) ∨ ((∃ s, s ≤ 120 ∧ x.1 = -1 - nI s) ∧ jk (uF S0 61 13 0) T)
theorem end_wrong (d : Nat) {S0 T : hs_S} {L : Nat} {q : tQ} {wr : Int32} {w : Nat → Int32} (hl : S0.1 61 13 = nI L) (hL : L ≤ 120) (h64 : ∀ i, i < 83 → S0.2.1 64 i = S0.2.1 62 i) (g : mq S0 T q wr w) (hq : qOk L q) (h : wr = 1 ∨ (wr = 0 ∧ q.2.1 < L)) (l1 : Option Value) : ∃ T', sx_run (d + 1) 192 (59, [some (.ref 61), l1], [], hp T) = some (some (.int (-1 - nI q.2.1)), hp T') ∧ jk (uF S0 61 13 0) T' := by
  have l13 : T.1 61 13 = nI L := (mq_13 g).trans hl
  have q1 := hq.1
  have q2 := hq.2
  have row : fa_fill (S0.2.1 64) w 83 = S0.2.1 62 := by
    funext i
    unfold fa_fill
    by_cases z : i < 83
    · rw [if_pos z]; exact h64 i z
    · rw [if_neg z]; exact g.2.2.2.2.2 i (by omega)
  have pb := sp_M_putsBack d (uF T 61 17 1)
  have e64 : (uF T 61 17 1).2.1 64 = S0.2.1 64 := g.2.2.2.2.1
  have e62 : (uF T 61 17 1).2.1 62 = w := g.1.1
  rw [e64, e62, row] at pb
  have e17 : (uF T 61 17 1).1 61 17 = 1 := rfl
  have f17 : (uF (uI (uF T 61 17 1) 62 (S0.2.1 62)) 61 13 0).1 61 17 = 1 := rfl
  have f14 : (uF (uI (uF T 61 17 1) 62 (S0.2.1 62)) 61 13 0).1 61 14 = nI q.2.1 := g.2.1
  have fin : sx_run (d + 1) 192 (83, [some (.ref 61), l1], [.int 1, .ref 61], hp T) = some (some (.int (-1 - nI q.2.1)), hp (uF (uI (uF T 61 17 1) 62 (S0.2.1 62)) 61 13 0)) := by
    simp only [ez192_83, ez192_86, ez192_87, ez192_90, ez192_93, ez192_94, ez192_97, ez192_98, ez192_99, ez192_102, ez192_103, ez192_106, ez192_109, ez192_110, ez192_111, ez192_114, ez192_115, ez192_118, ez192_119, isB_1, Option.bind_some, tl_s, tl_n, bI_eq0, if_true, if_false, not_true, not_false_iff, and_self, Bool.false_eq_true, PF_61_17, GF_61_17, e17, z1_0, KL_61, pb, PF_61_13, f17, GF_61_14, f14]
  refine ⟨uF (uI (uF T 61 17 1) 62 (S0.2.1 62)) 61 13 0, ?_, jk_uF2 (mJ_end (mJ_row (mJ_F g.1 (show jF 61 17 = true from rfl) 1) (S0.2.1 62))) 61 13 0⟩
  rw [← fin]
  rcases h with h | ⟨h, h2⟩
  · simp only [ez192_59, ez192_60, ez192_61, ez192_64, ez192_67, ez192_68, ez192_71, ez192_72, ez192_75, ez192_78, ez192_79, GF_61_17, g.2.2.2.1, h, Option.bind_some, tl_s, tl_n, bI_eq0, if_true, if_false, not_true, not_false_iff, and_self, Bool.false_eq_true, z1_0]
  · simp only [ez192_59, ez192_60, ez192_61, ez192_64, ez192_67, ez192_68, ez192_71, ez192_72, ez192_75, ez192_78, ez192_79, GF_61_13, GF_61_14, GF_61_17, g.2.2.2.1, h, Option.bind_some, tl_s, tl_n, bI_eq0, if_true, if_false, not_true, not_false_iff, and_self, Bool.false_eq_true, g.2.1, l13, if_neg (nI_ge h2 (show L < 2 ^ 31 by omega))]
theorem end_ok (d : Nat) {S0 T : hs_S} {L : Nat} {q : tQ} {w : Nat → Int32} (hl : S0.1 61 13 = nI L) (hL : L ≤ 120) (g : mq S0 T q 0 w) (hq : qOk L q) (h : L ≤ q.2.1) (it : Nat) : ∃ T', sx_run d 192 (59, [some (.ref 61), some (.int (nI it))], [], hp T) = some (some (.int (nI it)), hp T') ∧ jk (uF (uI S0 62 w) 61 13 0) T' := by
  have l13 : T.1 61 13 = nI L := (mq_13 g).trans hl
  have q1 := hq.1
  have q2 := hq.2
  have e17 : (uF T 61 17 0).1 61 17 = 0 := rfl
  have f17 : (uF (uF T 61 17 0) 61 13 0).1 61 17 = 0 := rfl
  refine ⟨uF (uF T 61 17 0) 61 13 0, ?_, jk_uF2 (mJ_F g.1 (show jF 61 17 = true from rfl) 0).2 61 13 0⟩
  simp only [ez192_59, ez192_60, ez192_61, ez192_64, ez192_67, ez192_68, ez192_71, ez192_72, ez192_75, ez192_78, ez192_79, ez192_82, ez192_83, ez192_86, ez192_87, ez192_90, ez192_93, ez192_94, ez192_97, ez192_98, ez192_99, ez192_102, ez192_103, ez192_106, ez192_109, ez192_110, ez192_111, ez192_114, ez192_115, ez192_118, ez192_119, GF_61_13, GF_61_14, GF_61_17, g.2.2.2.1, Option.bind_some, tl_s, tl_n, bI_eq0, if_true, if_false, not_true, not_false_iff, and_self, Bool.false_eq_true, g.2.1, l13, if_pos (nI_le h (show q.2.1 < 2 ^ 31 by omega)), isB_0, PF_61_17, e17, PF_61_13, f17]
theorem land_loop (d : Nat) {S0 : hs_S} {L : Nat} (hl : S0.1 61 13 = nI L) (hL : L ≤ 120) (h64 : ∀ i, i < 83 → S0.2.1 64 i = S0.2.1 62 i) : ∀ m it r T, sO S0 L r T → (r.1 = true → L ≤ m + r.2.2.2.2.1) → 1 ≤ it → it + m ≤ 200 → ∃ T', sx_run (d + 8) 192 (24, [some (.ref 61), some (.int (nI it))], [], hp T) = some (some (.int (teA (S0.2.1 67) L m it r).1), hp T') ∧ lF S0 (teA (S0.2.1 67) L m it r) T' := by
  have fail : ∀ (it : Nat) (r : Bool × hs_S × tQ) (T : hs_S) (m : Nat), sO S0 L r T → r.1 = false → ∃ T', sx_run (d + 8) 192 (24, [some (.ref 61), some (.int (nI it))], [], hp T) = some (some (.int (-1 - nI r.2.2.2.1)), hp T') ∧ jk (uF S0 61 13 0) T' := by
    intro it r T m o hr
    rcases o with ⟨b, -⟩ | ⟨-, ⟨w, g⟩, q⟩
    · rw [hr] at b
      cases b
    · obtain ⟨T', c, j⟩ := end_wrong (d + 7) hl hL h64 g (qT_ok q) (Or.inl rfl) (some (.int (nI it)))
      refine ⟨T', ?_, j⟩
      rw [← c]
      rw [ez192_24]
      simp only [ez192_25, ez192_28, GF_61_17, g.2.2.2.1, Option.bind_some, tl_s, tl_n, bI_eq0, if_true, if_false, not_true, not_false_iff, and_self, Bool.false_eq_true, z1_0]
  intro m
  induction m with
  | zero =>
    intro it r T o hm h1 h2
    unfold teA
    by_cases hr : r.1 = true
    · rw [if_pos hr]
      rcases o with ⟨-, n, w, g, R, q⟩ | ⟨b, -⟩
      · obtain ⟨f1, f2, f3, f4, f5, f6⟩ := qT_facts q
        have ok := qT_ok q
        have l13 : T.1 61 13 = nI L := (mq_13 g).trans hl
        have by0 : sx_call (d + 8) 180 [.ref 61, .int (nI r.2.2.2.1)] (hp T) = some (some (.int (bytF (S0.2.1 67) L r.2.2.2.1)), hp T) := by
          rw [← mq_67 g]
          exact sp_byteAt (d + 7) T L r.2.2.2.1 l13 hL (by have := ok.1; have := ok.2; omega)
        rw [ez192_24]
        simp only [ez192_25, ez192_28, ez192_31, ez192_32, ez192_33, ez192_36, ez192_39, GF_61_14, GF_61_17, g.2.1, g.2.2.2.1, Option.bind_some, tl_s, tl_n, bI_eq0, if_true, if_false, not_true, not_false_iff, and_self, Bool.false_eq_true, KL_61, by0, ez192_41]
        by_cases z0 : r.2.2.1 = 0
        · rw [if_pos z0, if_pos (fun y => by
            have := f6.mpr y
            rw [z0] at this
            exact absurd this (by decide))]
          obtain ⟨T', c, j⟩ := end_ok (d + 8) hl hL g ok (f5.mp z0) it
          exact ⟨T', c, Or.inl ⟨it, h1, by omega, rfl, n, w, R, j⟩⟩
        · rw [if_neg z0]
          by_cases z3 : r.2.2.1 = 3
          · rw [if_pos z3, if_neg (fun y => y (f6.mp z3))]
            obtain ⟨T1, c1, g1, -⟩ := must_1 (d + 4) hl hL g ok
            have q' := qT_tk (b := S0.2.1 67) ok
            obtain ⟨T2, c2, o2⟩ := s_item d hl hL g1 q' R
            have st : L ≤ (tk (S0.2.1 67) L r.2.2).2.1 := Nat.le_trans (by have := hm hr; omega) (tk_ge ok).1
            have n1 : ¬ (tk (S0.2.1 67) L r.2.2).1 = 1 := by
              rw [(qT_facts q').2.2.2.2.1.mpr st]
              decide
            rw [tiF_end n1] at o2
            obtain ⟨T3, c3, j3⟩ := fail (it + 1) _ T2 0 o2 rfl
            refine ⟨T3, ?_, Or.inr ⟨⟨_, by have := (qT_ok q').1; have := (qT_ok q').2; omega, rfl⟩, j3⟩⟩
            simp only [ez192_44, ez192_45, ez192_46, ez192_49, ez192_50, ez192_53, ez192_56, Option.bind_some, tl_s, tl_n, bI_eq0, if_true, if_false, not_true, not_false_iff, and_self, Bool.false_eq_true, KL_61, c1, c2, nI_1]
            exact c3
          · rw [if_neg z3, if_pos (fun y => z3 (f6.mpr y))]
            obtain ⟨T', c, j⟩ := end_wrong (d + 7) hl hL h64 g ok (Or.inr ⟨rfl, Nat.lt_of_not_le fun y => z0 (f5.mpr y)⟩) (some (.int (nI it)))
            exact ⟨T', c, Or.inr ⟨⟨_, by have := ok.1; have := ok.2; omega, rfl⟩, j⟩⟩
      · rw [hr] at b
        cases b
    · rw [if_neg hr]
      have ok : qOk L r.2.2 := by
        rcases o with ⟨b, -⟩ | ⟨-, -, q⟩
        · exact absurd b hr
        · exact qT_ok q
      obtain ⟨T', c, j⟩ := fail it r T 0 o (ts_nt hr)
      exact ⟨T', c, Or.inr ⟨⟨_, by have := ok.1; have := ok.2; omega, rfl⟩, j⟩⟩
  | succ m ih =>
    intro it r T o hm h1 h2
    unfold teA
    by_cases hr : r.1 = true
    · rw [if_pos hr]
      rcases o with ⟨-, n, w, g, R, q⟩ | ⟨b, -⟩
      · obtain ⟨f1, f2, f3, f4, f5, f6⟩ := qT_facts q
        have ok := qT_ok q
        have l13 : T.1 61 13 = nI L := (mq_13 g).trans hl
        have by0 : sx_call (d + 8) 180 [.ref 61, .int (nI r.2.2.2.1)] (hp T) = some (some (.int (bytF (S0.2.1 67) L r.2.2.2.1)), hp T) := by
          rw [← mq_67 g]
          exact sp_byteAt (d + 7) T L r.2.2.2.1 l13 hL (by have := ok.1; have := ok.2; omega)
        rw [ez192_24]
        simp only [ez192_25, ez192_28, ez192_31, ez192_32, ez192_33, ez192_36, ez192_39, GF_61_14, GF_61_17, g.2.1, g.2.2.2.1, Option.bind_some, tl_s, tl_n, bI_eq0, if_true, if_false, not_true, not_false_iff, and_self, Bool.false_eq_true, KL_61, by0, ez192_41]
        by_cases z0 : r.2.2.1 = 0
        · rw [if_pos z0, if_pos (fun y => by
            have := f6.mpr y
            rw [z0] at this
            exact absurd this (by decide))]
          obtain ⟨T', c, j⟩ := end_ok (d + 8) hl hL g ok (f5.mp z0) it
          exact ⟨T', c, Or.inl ⟨it, h1, by omega, rfl, n, w, R, j⟩⟩
        · rw [if_neg z0]
          by_cases z3 : r.2.2.1 = 3
          · rw [if_pos z3, if_neg (fun y => y (f6.mp z3))]
            obtain ⟨T1, c1, g1, -⟩ := must_1 (d + 4) hl hL g ok
            have q' := qT_tk (b := S0.2.1 67) ok
            obtain ⟨T2, c2, o2⟩ := s_item d hl hL g1 q' R
            rw [teF_A]
            obtain ⟨T3, c3, j3⟩ := ih (it + 1) _ T2 o2 (fun t => by
              have a1 := tiF_ge (qT_ok q') t
              have a2 := (tk_ge (b := S0.2.1 67) ok).1
              have a3 := hm hr
              omega) (by omega) (by omega)
            refine ⟨T3, ?_, j3⟩
            simp only [ez192_44, ez192_45, ez192_46, ez192_49, ez192_50, ez192_53, ez192_56, Option.bind_some, tl_s, tl_n, bI_eq0, if_true, if_false, not_true, not_false_iff, and_self, Bool.false_eq_true, KL_61, c1, c2, nI_1]
            exact c3
          · rw [if_neg z3, if_pos (fun y => z3 (f6.mpr y))]
            obtain ⟨T', c, j⟩ := end_wrong (d + 7) hl hL h64 g ok (Or.inr ⟨rfl, Nat.lt_of_not_le fun y => z0 (f5.mpr y)⟩) (some (.int (nI it)))
            exact ⟨T', c, Or.inr ⟨⟨_, by have := ok.1; have := ok.2; omega, rfl⟩, j⟩⟩
      · rw [hr] at b
        cases b
    · rw [if_neg hr]
      have ok : qOk L r.2.2 := by
        rcases o with ⟨b, -⟩ | ⟨-, -, q⟩
        · exact absurd b hr
        · exact qT_ok q
      obtain ⟨T', c, j⟩ := fail it r T 0 o (ts_nt hr)
      exact ⟨T', c, Or.inr ⟨⟨_, by have := ok.1; have := ok.2; omega, rfl⟩, j⟩⟩
/-- the model's land, beside the class's text told to a draft D -/
theorem s_land (d : Nat) (S D : hs_S) (L n : Nat) (hL : L ≤ 120) (hl : S.1 61 13 = nI L) (hb : D.2.1 52 = S.2.1 67) (R : LL D 35 n (S.2.1 62)) : ∃ T', sx_call (d + 9) 192 [.ref 61] (hp S) = some (some (.int (teR D L).1), hp T') ∧ lF (uI S 64 (fa_fill (S.2.1 62) (S.2.1 64) 83)) (teR D L) T' := by
  have sv := sp_M_saves (d + 7) S
  obtain ⟨f, -, ef⟩ := wb_of32 (S.1 61 14)
  have h64 : ∀ i, i < 83 → (uI S 64 (fa_fill (S.2.1 62) (S.2.1 64) 83)).2.1 64 i = (uI S 64 (fa_fill (S.2.1 62) (S.2.1 64) 83)).2.1 62 i := by
    intro i hi
    rw [uI_at, uI_off _ _ _ (by decide)]
    exact if_pos hi
  have hl0 : (uI S 64 (fa_fill (S.2.1 62) (S.2.1 64) 83)).1 61 13 = nI L := hl
  have b67 : (uI S 64 (fa_fill (S.2.1 62) (S.2.1 64) 83)).2.1 67 = S.2.1 67 := rfl
  have w62 : (uI S 64 (fa_fill (S.2.1 62) (S.2.1 64) 83)).2.1 62 = S.2.1 62 := rfl
  have f14 : (uI S 64 (fa_fill (S.2.1 62) (S.2.1 64) 83)).1 61 14 = nI f := ef
  generalize uI S 64 (fa_fill (S.2.1 62) (S.2.1 64) 83) = S0 at sv h64 hl0 b67 w62 f14 ⊢
  have g0 : mq S0 (uF (uF S0 61 17 0) 61 15 0) (0, f, 0, D.1 51 5) 0 (S0.2.1 62) := ⟨mJ_F (mJ_F (mJ_0 S0) rfl 0) rfl 0, f14, rfl, rfl, rfl, fun _ _ => rfl⟩
  obtain ⟨T1, c1, g1, -⟩ := sp_tokenE (d + 5) hl0 hL g0 (Nat.zero_le L)
  have eq0 : tk (S0.2.1 67) L (0, f, 0, D.1 51 5) = tkQ (S0.2.1 67) L 0 (D.1 51 5) := rfl
  rw [eq0] at g1
  have qt : qT (S0.2.1 67) L (tkQ (S0.2.1 67) L 0 (D.1 51 5)) := ⟨0, D.1 51 5, Nat.zero_le L, rfl⟩
  obtain ⟨T2, c2, o2⟩ := s_item d hl0 hL g1 qt (S := D) (n := n) (by rw [w62]; exact R)
  obtain ⟨T3, c3, j3⟩ := land_loop d hl0 hL h64 119 1 _ T2 o2 (fun t => by
    have a1 := tiF_ge (qT_ok qt) t
    omega) (by omega) (by omega)
  have e : teR D L = teA (S0.2.1 67) L 119 1 (tiF (S0.2.1 67) L D (tkQ (S0.2.1 67) L 0 (D.1 51 5))) := by
    unfold teR
    rw [hb, ← b67]
    exact teF_A _ _ 119 1 _ _
  rw [e]
  refine ⟨T3, ?_, j3⟩
  rw [← c3]
  rw [cz192]
  simp only [ez192_0, ez192_1, ez192_4, ez192_5, ez192_6, ez192_9, ez192_10, ez192_11, ez192_14, ez192_15, ez192_18, ez192_19, ez192_20, ez192_21, Option.bind_some, tl_s, tl_n, bI_eq0, if_true, if_false, not_true, not_false_iff, and_self, Bool.false_eq_true, KL_61, sv, isB_0, PF_61_15, PF_61_17, c1, c2]
  rfl
