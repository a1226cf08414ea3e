/-! ITEMS on both sides -/
/-- how an item ends on both sides -/
def sO (S0 : hs_S) (L : Nat) (r : Bool × hs_S × tQ) (T : hs_S) : Prop := (r.1 = true ∧ ∃ n w', mq S0 T r.2.2 0 w' ∧ LL r.2.1 35 n w' ∧ qT (S0.2.1 67) L r.2.2) ∨ (r.1 = false ∧ (∃ w', mq S0 T r.2.2 1 w') ∧ qT (S0.2.1 67) L r.2.2)
theorem trF_qT {b : Nat → Int32} {L w : Nat} {mo : Int32} {a k : Nat} {S : hs_S} {q : tQ} (h : qT b L q) : qT b L (trF b L w mo a k S q).2.2 := by
  unfold trF
  by_cases h1 : wdB b q w = true
  · rw [if_pos h1]
    by_cases h2 : nbB (tk b L q) mo = true
    · rw [if_pos h2]
      exact qT_tk (qT_ok (qT_tk (qT_ok h)))
    · rw [if_neg h2]
      exact qT_tk (qT_ok h)
  · rw [if_neg h1]
    exact h
theorem s_traits (d : Nat) {S0 T S : hs_S} {L n c : Nat} {q : tQ} {w : Nat → Int32} (hl : S0.1 61 13 = nI L) (hL : L ≤ 120) (g : mq S0 T q 0 w) (hq : qT (S0.2.1 67) L q) (R : LL S 35 n w) (hc : c < n) (l1 : Option Value) : ∃ T', sx_run (d + 6) 189 (65, [some (.ref 61), l1, some (.int (nI c))], [], hp T) = some (none, hp T') ∧ sO S0 L (ttF (S0.2.1 67) L (39 + c) S q) T' := by
  have n8 := R.1.1
  obtain ⟨T1, c1, o1'⟩ := sp_part d (S := S) (c := c) (k := 2) (wI := 7) (h := 99) (cc := 20186245) hl hL g hq (by decide) (by decide) R hc (by omega) rfl
  have k1 : ∀ l1 : Option Value, sx_run (d + 6) 189 (65, [some (.ref 61), l1, some (.int (nI c))], [], hp T) = sx_run (d + 6) 189 (79, [some (.ref 61), l1, some (.int (nI c))], [], hp T1) := by
    intro l1
    have c1' : sx_call (d + 6) 188 [.ref 61, .long 20186245, .int (nI (35 + 6 * c + 2)), .int 99] (hp T) = some (none, hp T1) := c1
    simp only [ez189_65, ez189_66, ez189_69, ez189_70, ez189_71, ez189_74, ez189_76, Option.bind_some, tl_s, tl_n, bI_eq0, if_true, if_false, not_true, not_false_iff, and_self, Bool.false_eq_true, KL_61, sp_M_spot2, c1']
  have q1 : qT (S0.2.1 67) L (trF (S0.2.1 67) L 7 (nI 99) (39 + c) 2 S q).2.2 := trF_qT hq
  rw [k1]
  unfold ttF
  have e99 : (99 : Int32) = nI 99 := rfl
  have e9 : (9 : Int32) = nI 9 := rfl
  rw [e99, e9]
  generalize trF (S0.2.1 67) L 7 (nI 99) (39 + c) 2 S q = r1 at o1' q1 ⊢
  rcases o1' with ⟨b1, w1, g1, R1, -⟩ | ⟨b1, w1, g1⟩
  · rw [if_pos b1]
    obtain ⟨T2, c2, o2'⟩ := sp_part d (S := r1.2.1) (c := c) (k := 3) (wI := 8) (h := 9) (cc := 3659954) hl hL g1 q1 (by decide) (by decide) R1 hc (by omega) rfl
    have k2 : ∀ l1 : Option Value, sx_run (d + 6) 189 (79, [some (.ref 61), l1, some (.int (nI c))], [], hp T1) = sx_run (d + 6) 189 (93, [some (.ref 61), l1, some (.int (nI c))], [], hp T2) := by
      intro l1
      have c2' : sx_call (d + 6) 188 [.ref 61, .long 3659954, .int (nI (35 + 6 * c + 3)), .int 9] (hp T1) = some (none, hp T2) := c2
      simp only [ez189_79, ez189_80, ez189_83, ez189_84, ez189_85, ez189_88, ez189_90, Option.bind_some, tl_s, tl_n, bI_eq0, if_true, if_false, not_true, not_false_iff, and_self, Bool.false_eq_true, KL_61, sp_M_spot3, c2']
    have q2 : qT (S0.2.1 67) L (trF (S0.2.1 67) L 8 (nI 9) (39 + c) 3 r1.2.1 r1.2.2).2.2 := trF_qT q1
    rw [k2]
    generalize trF (S0.2.1 67) L 8 (nI 9) (39 + c) 3 r1.2.1 r1.2.2 = r2 at o2' q2 ⊢
    rcases o2' with ⟨b2, w2, g2, R2, -⟩ | ⟨b2, w2, g2⟩
    · rw [if_pos b2]
      obtain ⟨T3, c3, o3'⟩ := sp_part d (S := r2.2.1) (c := c) (k := 4) (wI := 9) (h := 9) (cc := 153195) hl hL g2 q2 (by decide) (by decide) R2 hc (by omega) rfl
      have c3' : sx_call (d + 6) 188 [.ref 61, .long 153195, .int (nI (35 + 6 * c + 4)), .int 9] (hp T2) = some (none, hp T3) := c3
      refine ⟨T3, ?_, ?_⟩
      · simp only [ez189_93, ez189_94, ez189_97, ez189_98, ez189_99, ez189_102, ez189_104, ez189_107, Option.bind_some, tl_s, tl_n, bI_eq0, if_true, if_false, not_true, not_false_iff, and_self, Bool.false_eq_true, KL_61, sp_M_spot4, c3']
      · rcases o3' with ⟨b3, w3, g3, R3, q3⟩ | ⟨b3, w3, g3⟩
        · exact Or.inl ⟨b3, n, w3, g3, R3, q3⟩
        · exact Or.inr ⟨b3, ⟨w3, g3⟩, trF_qT q2⟩
    · rw [if_neg (by rw [b2]; decide)]
      have p3 := part_w (d + 2) (wI := 9) (cc := 153195) (nI (35 + 6 * c + 4)) 9 hl hL g2 (qT_ok q2) (by decide) (by decide)
      refine ⟨T2, ?_, Or.inr ⟨b2, ⟨w2, g2⟩, q2⟩⟩
      simp only [ez189_93, ez189_94, ez189_97, ez189_98, ez189_99, ez189_102, ez189_104, ez189_107, Option.bind_some, tl_s, tl_n, bI_eq0, if_true, if_false, not_true, not_false_iff, and_self, Bool.false_eq_true, KL_61, sp_M_spot4, p3]
  · rw [if_neg (by rw [b1]; decide)]
    have p2 := part_w (d + 2) (wI := 8) (cc := 3659954) (nI (35 + 6 * c + 3)) 9 hl hL g1 (qT_ok q1) (by decide) (by decide)
    have p3 := part_w (d + 2) (wI := 9) (cc := 153195) (nI (35 + 6 * c + 4)) 9 hl hL g1 (qT_ok q1) (by decide) (by decide)
    refine ⟨T1, ?_, Or.inr ⟨b1, ⟨w1, g1⟩, q1⟩⟩
    simp only [ez189_79, ez189_80, ez189_83, ez189_84, ez189_85, ez189_88, ez189_90, ez189_93, ez189_94, ez189_97, ez189_98, ez189_99, ez189_102, ez189_104, ez189_107, Option.bind_some, tl_s, tl_n, bI_eq0, if_true, if_false, not_true, not_false_iff, and_self, Bool.false_eq_true, KL_61, sp_M_spot3, sp_M_spot4, p2, p3]
theorem w0c (b : Nat → Int32) (L : Nat) (q : tQ) : ¬ lg_cmp (wdV b L q 1) 52 = 0 := fun z => word_w (w := 6) (by decide) ((lg_cmp_eq _ _).mp z)
theorem s_carrier (d : Nat) {S0 T S : hs_S} {L n k : Nat} {q : tQ} {w : Nat → Int32} (hl : S0.1 61 13 = nI L) (hL : L ≤ 120) (g : mq S0 T q 0 w) (hq : qT (S0.2.1 67) L q) (R : LL S 35 n w) (hk : k < 6) : ∃ T', sx_call (d + 7) 189 [.ref 61, .int (nI k)] (hp T) = some (none, hp T') ∧ sO S0 L (tcF (S0.2.1 67) L k n S q) T' := by
  have n8 := R.1.1
  have r0 : T.2.1 62 0 = nI n := by rw [g.1.1]; exact R.2.1
  rw [cz189]
  unfold tcF
  by_cases h8 : 8 ≤ n
  · rw [if_pos h8]
    obtain ⟨T1, c1, g1, -⟩ := must_0 (d + 5) g
    have wo := sp_word (d + 3) hl hL g1 (qT_ok hq)
    obtain ⟨T2, c2, g2, -⟩ := must_w (d + 5) 0 g1
    have nw := number_w (d + 5) 0 15 g2
    refine ⟨T2, ?_, Or.inr ⟨rfl, ⟨w, g2⟩, hq⟩⟩
    simp only [ez189_0, ez189_1, ez189_2, ez189_5, ez189_6, ez189_7, ez189_9, ez189_12, ez189_13, ez189_16, ez189_17, ez189_20, ez189_21, ez189_22, ez189_25, ez189_28, ez189_29, ez189_32, ez189_33, ez189_36, ez189_37, ez189_40, ez189_41, ez189_42, ez189_44, ez189_47, ez189_48, ez189_51, ez189_54, GF_61_0, GF_61_17, Option.bind_some, tl_s, tl_n, bI_eq0, if_true, if_false, not_true, not_false_iff, and_self, Bool.false_eq_true, GI_62, c83_0, cl_0, r0, if_pos (show (8 : Int32) ≤ nI n from nI_le (a := 8) h8 (by omega)), KL_61, c1, wo, w0c, c2, nw, g2.2.2.2.1, z1_0]
  · rw [if_neg h8]
    have g8 : ¬ (8 : Int32) ≤ nI n := nI_ge (b := 8) (show n < 8 by omega) (by omega)
    obtain ⟨T1, c1, g1, -⟩ := must_1 (d + 2) hl hL g (qT_ok hq)
    have q1 := qT_tk (b := S0.2.1 67) (qT_ok hq)
    have wo := sp_word (d + 3) hl hL g1 (qT_ok q1)
    have cm := cmp_w (c := 52) (w := 6) (by decide) q1 (by decide)
    by_cases h1 : wdB (S0.2.1 67) (tk (S0.2.1 67) L q) 6 = true
    · rw [if_pos h1]
      obtain ⟨T2, c2, g2, -⟩ := must_1 (d + 2) hl hL g1 (qT_ok q1)
      have q2 := qT_tk (b := S0.2.1 67) (qT_ok q1)
      obtain ⟨T3, c3, o3⟩ := sp_number (d + 1) 15 hl hL (by omega) g2 q2
      have c3' : sx_call (d + 6) 186 [.ref 61, .int 0, .int 15] (hp T2) = some (none, hp T3) := c3
      rcases o3 with ⟨nb, g3, e3⟩ | ⟨nb, g3⟩
      · rw [if_pos (show nbB (tk (S0.2.1 67) L (tk (S0.2.1 67) L q)) 15 = true from nb)]
        obtain ⟨u, hu, eu⟩ := nbB_num (mo := 15) (by omega) nb
        have ad := sp_M_adds (d + 4) T3 n (nI k) (nI u) (by omega) (by rw [g3.1.1]; exact R.2.1)
        rw [g3.1.1] at ad
        have g4 : mq S0 (uI T3 62 (adR w n (nI k) (nI u))) (tk (S0.2.1 67) L (tk (S0.2.1 67) L (tk (S0.2.1 67) L q))) 0 (adR w n (nI k) (nI u)) := by
          refine ⟨mJ_row g3.1 _, g3.2.1, g3.2.2.1, g3.2.2.2.1, ?_, fun j hj => ?_⟩
          · rw [uI_off _ _ _ (by decide)]
            exact g3.2.2.2.2.1
          · rw [adR_off _ _ _ _ (by omega) (by omega)]
            exact g3.2.2.2.2.2 j hj
        have R4 : LL (adS S n k (nI u)) 35 (n + 1) (adR w n (nI k) (nI u)) := LL_add R (by omega) hk (by omega)
        rw [eu]
        obtain ⟨T5, c5, o5⟩ := s_traits d hl hL g4 (qT_tk (qT_ok q2)) R4 (show n < n + 1 by omega) (some (.int (nI k)))
        refine ⟨T5, ?_, o5⟩
        rw [← c5]
        simp only [ez189_0, ez189_1, ez189_2, ez189_5, ez189_6, ez189_7, ez189_9, ez189_12, ez189_13, ez189_16, ez189_17, ez189_20, ez189_21, ez189_22, ez189_25, ez189_28, ez189_29, ez189_32, ez189_33, ez189_36, ez189_37, ez189_40, ez189_41, ez189_42, ez189_44, ez189_47, ez189_48, ez189_51, ez189_54, ez189_55, ez189_56, ez189_57, ez189_58, ez189_61, ez189_64, GF_61_0, GF_61_16, GF_61_17, Option.bind_some, tl_s, tl_n, bI_eq0, if_true, if_false, not_true, not_false_iff, and_self, Bool.false_eq_true, GI_62, c83_0, cl_0, r0, if_neg g8, KL_61, c1, wo, cm, h1, c2, c3', g3.2.2.2.1, e3, eu, ad]
      · rw [if_neg (by rw [show (15 : Int32) = nI 15 from rfl, nb]; decide)]
        refine ⟨T3, ?_, Or.inr ⟨rfl, ⟨w, g3⟩, q2⟩⟩
        simp only [ez189_0, ez189_1, ez189_2, ez189_5, ez189_6, ez189_7, ez189_9, ez189_12, ez189_13, ez189_16, ez189_17, ez189_20, ez189_21, ez189_22, ez189_25, ez189_28, ez189_29, ez189_32, ez189_33, ez189_36, ez189_37, ez189_40, ez189_41, ez189_42, ez189_44, ez189_47, ez189_48, ez189_51, ez189_54, GF_61_0, GF_61_17, Option.bind_some, tl_s, tl_n, bI_eq0, if_true, if_false, not_true, not_false_iff, and_self, Bool.false_eq_true, GI_62, c83_0, cl_0, r0, if_neg g8, KL_61, c1, wo, cm, h1, c2, c3', g3.2.2.2.1, z1_0]
    · rw [if_neg h1]
      obtain ⟨T2, c2, g2, -⟩ := must_0 (d + 5) g1
      have nw := number_w (d + 5) 0 15 g2
      refine ⟨T2, ?_, Or.inr ⟨rfl, ⟨w, g2⟩, q1⟩⟩
      simp only [ez189_0, ez189_1, ez189_2, ez189_5, ez189_6, ez189_7, ez189_9, ez189_12, ez189_13, ez189_16, ez189_17, ez189_20, ez189_21, ez189_22, ez189_25, ez189_28, ez189_29, ez189_32, ez189_33, ez189_36, ez189_37, ez189_40, ez189_41, ez189_42, ez189_44, ez189_47, ez189_48, ez189_51, ez189_54, GF_61_0, GF_61_17, Option.bind_some, tl_s, tl_n, bI_eq0, if_true, if_false, not_true, not_false_iff, and_self, Bool.false_eq_true, GI_62, c83_0, cl_0, r0, if_neg g8, KL_61, c1, wo, cm, h1, c2, nw, g2.2.2.2.1, z1_0]
theorem s_place (d : Nat) {S0 T S : hs_S} {L n wh h r : Nat} {q : tQ} {w : Nat → Int32} (hl : S0.1 61 13 = nI L) (hL : L ≤ 120) (g : mq S0 T q 0 w) (hq : qT (S0.2.1 67) L q) (R : LL S 35 n w) (hr : (wh = 3 ∧ h = 9 ∧ r = 36) ∨ (wh = 19 ∧ h = 99 ∧ r = 37)) : ∃ T', sx_call (d + 6) 190 [.ref 61, .int (nI wh), .int (nI h)] (hp T) = some (none, hp T') ∧ sO S0 L (poR (S0.2.1 67) L r (nI h) S q) T' := by
  have h99 : h ≤ 99 := by omega
  have w83 : wh + 15 < 83 := by omega
  obtain ⟨T1, c1, g1, -⟩ := must_1 (d + 1) hl hL g (qT_ok hq)
  have q1 := qT_tk (b := S0.2.1 67) (qT_ok hq)
  obtain ⟨T2, c2, o2⟩ := sp_number d 15 hl hL (by omega) g1 q1
  have c2' : sx_call (d + 5) 186 [.ref 61, .int 0, .int 15] (hp T1) = some (none, hp T2) := c2
  rw [cz190]
  unfold poR
  have e15 : (15 : Int32) = nI 15 := rfl
  rw [e15]
  rcases o2 with ⟨nb, g2, e2⟩ | ⟨nb, g2⟩
  · rw [if_pos nb]
    have q2 := qT_tk (b := S0.2.1 67) (qT_ok q1)
    obtain ⟨T3, c3, o3⟩ := sp_number d h hl hL h99 g2 q2
    obtain ⟨u, hu, eu⟩ := nbB_num (mo := 15) (by omega) nb
    rcases o3 with ⟨nb3, g3, e3⟩ | ⟨nb3, g3⟩
    · rw [if_pos nb3]
      obtain ⟨v, hv, ev⟩ := nbB_num (show h < 2 ^ 31 by omega) nb3
      have gp := mq_put g3 (show wh + u < 83 by omega) (nI v)
      refine ⟨_, ?_, Or.inl ⟨rfl, n, _, gp, ?_, qT_tk (qT_ok q2)⟩⟩
      · simp only [ez190_0, ez190_1, ez190_2, ez190_5, ez190_6, ez190_7, ez190_9, ez190_12, ez190_13, ez190_16, ez190_17, ez190_18, ez190_19, ez190_20, ez190_23, ez190_24, ez190_27, ez190_30, ez190_31, ez190_34, ez190_35, ez190_36, ez190_37, ez190_38, ez190_41, ez190_42, Option.bind_some, tl_s, tl_n, bI_eq0, if_true, if_false, not_true, not_false_iff, and_self, Bool.false_eq_true, KL_61, c1, c2', GF_61_0, GF_61_16, GF_61_17, e2, c3, g3.2.2.2.1, e3, eu, ev, nI_ad, PI_62, in_nI (show wh + u < 83 by omega) (by decide), nI_clamp (show wh + u < 2 ^ 31 by omega), g3.1.1]
      · rw [eu, ev, nI_clamp (show u < 2 ^ 31 by omega)]
        rcases hr with ⟨rfl, rfl, rfl⟩ | ⟨rfl, rfl, rfl⟩
        · exact LL_post R (by omega) hv
        · exact LL_price R (by omega) hv
    · rw [if_neg (by rw [nb3]; decide)]
      refine ⟨T3, ?_, Or.inr ⟨rfl, ⟨w, g3⟩, q2⟩⟩
      simp only [ez190_0, ez190_1, ez190_2, ez190_5, ez190_6, ez190_7, ez190_9, ez190_12, ez190_13, ez190_16, ez190_17, ez190_18, ez190_19, ez190_20, ez190_23, ez190_24, ez190_27, ez190_30, ez190_31, ez190_34, ez190_35, ez190_36, ez190_37, ez190_38, ez190_41, ez190_42, Option.bind_some, tl_s, tl_n, bI_eq0, if_true, if_false, not_true, not_false_iff, and_self, Bool.false_eq_true, KL_61, c1, c2', GF_61_16, GF_61_17, e2, c3, g3.2.2.2.1, z1_0]
  · rw [if_neg (by rw [nb]; decide)]
    have nw := number_w (d + 4) 0 (nI h) g2
    refine ⟨T2, ?_, Or.inr ⟨rfl, ⟨w, g2⟩, q1⟩⟩
    simp only [ez190_0, ez190_1, ez190_2, ez190_5, ez190_6, ez190_7, ez190_9, ez190_12, ez190_13, ez190_16, ez190_17, ez190_18, ez190_19, ez190_20, ez190_23, ez190_24, ez190_27, ez190_30, ez190_31, ez190_34, ez190_35, ez190_36, ez190_37, ez190_38, ez190_41, ez190_42, Option.bind_some, tl_s, tl_n, bI_eq0, if_true, if_false, not_true, not_false_iff, and_self, Bool.false_eq_true, KL_61, c1, c2', GF_61_16, GF_61_17, nw, g2.2.2.2.1, z1_0]
theorem s_rest (d : Nat) {S0 T S : hs_S} {L n : Nat} {q : tQ} {w : Nat → Int32} (hl : S0.1 61 13 = nI L) (hL : L ≤ 120) (g : mq S0 T q 0 w) (hq : qT (S0.2.1 67) L q) (R : LL S 35 n w) (l1 : Option Value) : ∃ T', sx_run (d + 6) 191 (22, [some (.ref 61), l1, some (.long (wdV (S0.2.1 67) L q 0)), none, none], [], hp T) = some (none, hp T') ∧ sO S0 L (tiR (S0.2.1 67) L S q) T' := by
  have c10 := cmp_w (c := 540276) (w := 10) (by decide) hq (by decide)
  have c11 := cmp_w (c := 17376357) (w := 11) (by decide) hq (by decide)
  have c12 := cmp_w (c := 113759379) (w := 12) (by decide) hq (by decide)
  have c13 := cmp_w (c := 20142) (w := 13) (by decide) hq (by decide)
  unfold tiR
  by_cases h10 : wdB (S0.2.1 67) q 10 = true
  · rw [if_pos h10]
    obtain ⟨T1, c1, o⟩ := s_place d hl hL g hq R (Or.inl ⟨rfl, rfl, rfl⟩)
    have c1' : sx_call (d + 6) 190 [.ref 61, .int 3, .int 9] (hp T) = some (none, hp T1) := c1
    refine ⟨T1, ?_, o⟩
    simp only [ez191_22, ez191_23, ez191_26, ez191_27, ez191_30, ez191_31, ez191_32, ez191_34, ez191_37, ez191_128, Option.bind_some, tl_s, tl_n, bI_eq0, if_true, if_false, not_true, not_false_iff, and_self, Bool.false_eq_true, c10, h10, KL_61, c1']
  · rw [if_neg h10]
    by_cases h11 : wdB (S0.2.1 67) q 11 = true
    · rw [if_pos h11]
      obtain ⟨T1, c1, o⟩ := s_place d hl hL g hq R (Or.inr ⟨rfl, rfl, rfl⟩)
      have c1' : sx_call (d + 6) 190 [.ref 61, .int 19, .int 99] (hp T) = some (none, hp T1) := c1
      refine ⟨T1, ?_, o⟩
      simp only [ez191_22, ez191_23, ez191_26, ez191_27, ez191_30, ez191_31, ez191_32, ez191_34, ez191_37, ez191_40, ez191_41, ez191_44, ez191_45, ez191_48, ez191_49, ez191_51, ez191_53, ez191_56, ez191_128, Option.bind_some, tl_s, tl_n, bI_eq0, if_true, if_false, not_true, not_false_iff, and_self, Bool.false_eq_true, c10, c11, h10, h11, KL_61, c1']
    · rw [if_neg h11]
      by_cases h12 : wdB (S0.2.1 67) q 12 = true
      · rw [if_pos h12]
        obtain ⟨T1, c1, g1, -⟩ := must_1 (d + 2) hl hL g (qT_ok hq)
        have gp := mq_put g1 (show 2 < 83 by decide) 1
        refine ⟨_, ?_, Or.inl ⟨rfl, n, _, gp, LL_clouds R (Or.inr rfl), qT_tk (qT_ok hq)⟩⟩
        simp only [ez191_22, ez191_23, ez191_26, ez191_27, ez191_30, ez191_31, ez191_32, ez191_34, ez191_37, ez191_40, ez191_41, ez191_44, ez191_45, ez191_48, ez191_49, ez191_51, ez191_53, ez191_56, ez191_59, ez191_60, ez191_63, ez191_64, ez191_67, ez191_68, ez191_71, ez191_72, ez191_74, ez191_75, ez191_77, ez191_80, ez191_81, ez191_84, ez191_85, ez191_88, ez191_89, ez191_92, ez191_93, ez191_96, ez191_97, ez191_100, ez191_101, ez191_102, ez191_105, ez191_108, ez191_109, ez191_112, ez191_113, ez191_114, ez191_117, ez191_119, ez191_122, ez191_123, ez191_126, ez191_127, ez191_128, Option.bind_some, tl_s, tl_n, bI_eq0, if_true, if_false, not_true, not_false_iff, and_self, Bool.false_eq_true, c10, c11, c12, h10, h11, h12, z1_0, KL_61, c1, GF_61_0, GF_61_17, g1.2.2.2.1, PI_62, c83_2, cl_2, g1.1.1]
      · rw [if_neg h12]
        by_cases h13 : wdB (S0.2.1 67) q 13 = true
        · rw [if_pos h13]
          obtain ⟨T1, c1, g1, -⟩ := must_1 (d + 2) hl hL g (qT_ok hq)
          have gp := mq_put g1 (show 2 < 83 by decide) 0
          refine ⟨_, ?_, Or.inl ⟨rfl, n, _, gp, LL_clouds R (Or.inl rfl), qT_tk (qT_ok hq)⟩⟩
          simp only [ez191_22, ez191_23, ez191_26, ez191_27, ez191_30, ez191_31, ez191_32, ez191_34, ez191_37, ez191_40, ez191_41, ez191_44, ez191_45, ez191_48, ez191_49, ez191_51, ez191_53, ez191_56, ez191_59, ez191_60, ez191_63, ez191_64, ez191_67, ez191_68, ez191_71, ez191_72, ez191_74, ez191_75, ez191_77, ez191_80, ez191_81, ez191_84, ez191_85, ez191_88, ez191_89, ez191_92, ez191_93, ez191_96, ez191_97, ez191_100, ez191_101, ez191_102, ez191_105, ez191_108, ez191_109, ez191_112, ez191_113, ez191_114, ez191_117, ez191_119, ez191_122, ez191_123, ez191_126, ez191_127, ez191_128, Option.bind_some, tl_s, tl_n, bI_eq0, if_true, if_false, not_true, not_false_iff, and_self, Bool.false_eq_true, c10, c11, c12, c13, h10, h11, h12, h13, z1_0, KL_61, c1, GF_61_0, GF_61_17, g1.2.2.2.1, PI_62, c83_2, cl_2, g1.1.1]
        · rw [if_neg h13]
          obtain ⟨T1, c1, g1, -⟩ := must_0 (d + 5) g
          have gp := mq_put g1 (show 2 < 83 by decide) (w 2)
          rw [fa_upd_same rfl] at gp
          refine ⟨_, ?_, Or.inr ⟨rfl, ⟨_, gp⟩, hq⟩⟩
          simp only [ez191_22, ez191_23, ez191_26, ez191_27, ez191_30, ez191_31, ez191_32, ez191_34, ez191_37, ez191_40, ez191_41, ez191_44, ez191_45, ez191_48, ez191_49, ez191_51, ez191_53, ez191_56, ez191_59, ez191_60, ez191_63, ez191_64, ez191_67, ez191_68, ez191_71, ez191_72, ez191_74, ez191_75, ez191_77, ez191_80, ez191_81, ez191_84, ez191_85, ez191_88, ez191_89, ez191_92, ez191_93, ez191_96, ez191_97, ez191_100, ez191_101, ez191_102, ez191_105, ez191_108, ez191_109, ez191_112, ez191_113, ez191_114, ez191_117, ez191_119, ez191_122, ez191_123, ez191_126, ez191_127, ez191_128, Option.bind_some, tl_s, tl_n, bI_eq0, if_true, if_false, not_true, not_false_iff, and_self, Bool.false_eq_true, c10, c11, c12, c13, h10, h11, h12, h13, z1_0, KL_61, c1, GF_61_0, GF_61_17, g1.2.2.2.1, GI_62, PI_62, c83_2, cl_2, g1.1.1, fa_upd_same]
theorem s_item (d : Nat) {S0 T S : hs_S} {L n : Nat} {q : tQ} {w : Nat → Int32} (hl : S0.1 61 13 = nI L) (hL : L ≤ 120) (g : mq S0 T q 0 w) (hq : qT (S0.2.1 67) L q) (R : LL S 35 n w) : ∃ T', sx_call (d + 8) 191 [.ref 61] (hp T) = some (none, hp T') ∧ sO S0 L (tiF (S0.2.1 67) L S q) T' := by
  have kh := sp_kindHere (d + 3) hl hL g hq
  have wo := sp_word (d + 4) hl hL g (qT_ok hq)
  have e1 : tiF (S0.2.1 67) L S q = tiK (S0.2.1 67) L n S q 6 0 := by
    unfold tiF
    rw [R.1.2.1, nI_clamp (show n < 2 ^ 31 by have := R.1.1; omega)]
  rw [e1]
  have carr : ∀ k, k < 6 → khF (S0.2.1 67) q = nI k → tiK (S0.2.1 67) L n S q 6 0 = tcF (S0.2.1 67) L k n S q → ∃ T', sx_call (d + 8) 191 [.ref 61] (hp T) = some (none, hp T') ∧ sO S0 L (tiK (S0.2.1 67) L n S q 6 0) T' := by
    intro k hk e2 e3
    obtain ⟨T1, c1, o⟩ := s_carrier d hl hL g hq R hk
    rw [e2] at kh
    rw [e3]
    refine ⟨T1, ?_, o⟩
    rw [cz191]
    simp only [ez191_0, ez191_1, ez191_4, ez191_5, ez191_6, ez191_9, ez191_10, ez191_11, ez191_14, ez191_15, ez191_16, ez191_19, ez191_128, Option.bind_some, tl_s, tl_n, bI_eq0, if_true, if_false, not_true, not_false_iff, and_self, Bool.false_eq_true, KL_61, kh, wo, if_neg (nI_pos (show k < 2 ^ 31 by omega)), c1]
  by_cases h0 : wdB (S0.2.1 67) q 0 = true
  · exact carr 0 (by decide) (if_pos h0) (if_pos h0)
  · by_cases h1 : wdB (S0.2.1 67) q 1 = true
    · exact carr 1 (by decide) (by unfold khF; rw [if_neg h0, if_pos h1]; rfl) (by simp [tiK, h0, h1])
    · by_cases h2 : wdB (S0.2.1 67) q 2 = true
      · exact carr 2 (by decide) (by unfold khF; rw [if_neg h0, if_neg h1, if_pos h2]; rfl) (by simp [tiK, h0, h1, h2])
      · by_cases h3 : wdB (S0.2.1 67) q 3 = true
        · exact carr 3 (by decide) (by unfold khF; rw [if_neg h0, if_neg h1, if_neg h2, if_pos h3]; rfl) (by simp [tiK, h0, h1, h2, h3])
        · by_cases h4 : wdB (S0.2.1 67) q 4 = true
          · exact carr 4 (by decide) (by unfold khF; rw [if_neg h0, if_neg h1, if_neg h2, if_neg h3, if_pos h4]; rfl) (by simp [tiK, h0, h1, h2, h3, h4])
          · by_cases h5 : wdB (S0.2.1 67) q 5 = true
            · exact carr 5 (by decide) (by unfold khF; rw [if_neg h0, if_neg h1, if_neg h2, if_neg h3, if_neg h4, if_pos h5]; rfl) (by simp [tiK, h0, h1, h2, h3, h4, h5])
            · have e2 : khF (S0.2.1 67) q = -1 := by
                unfold khF
                rw [if_neg h0, if_neg h1, if_neg h2, if_neg h3, if_neg h4, if_neg h5]
              have e3 : tiK (S0.2.1 67) L n S q 6 0 = tiR (S0.2.1 67) L S q := by simp [tiK, h0, h1, h2, h3, h4, h5]
              obtain ⟨T1, c1, o⟩ := s_rest (d + 1) hl hL g hq R (some (.int (-1)))
              rw [e2] at kh
              rw [e3]
              refine ⟨T1, ?_, o⟩
              rw [cz191]
              simp only [ez191_0, ez191_1, ez191_4, ez191_5, ez191_6, ez191_9, ez191_10, ez191_11, Option.bind_some, tl_s, tl_n, bI_eq0, if_true, if_false, not_true, not_false_iff, and_self, Bool.false_eq_true, KL_61, kh, wo, if_pos (show (-1 : Int32) < 0 by decide)]
              exact c1
