/-! THE LAW: its loop -/
theorem lw_q {Ls : Nat} {xs : Nat → Int32} {d pc : Nat} {L : sx_Lo} {st : List Value} {h : sx_H} {i : sx_I} (hc : sx_tab (lzk_all Ls xs) pc = i) : lw_run Ls xs d (pc, L, st, h) = match i L st h with
    | none => none
    | some (.inl r) => some r
    | some (.inr (.inl s')) => lw_run Ls xs d s'
    | some (.inr (.inr q)) => (sx_call d q.1 q.2.1 q.2.2.2.2.2).bind fun r => lw_run Ls xs d (sx_bk r q.2.2) := by
  subst hc
  exact sx_rn_eq (sx_tab (lzk_all Ls xs)) (sx_cN sx_cd sx_nl d) (pc, L, st, h)
theorem lw_n {Ls : Nat} {xs : Nat → Int32} {d pc : Nat} {L : sx_Lo} {st : List Value} {h : sx_H} {i : sx_I} {s' : sx_St} (hc : sx_tab (lzk_all Ls xs) pc = i) (e : i L st h = sx_nx s'.1 s'.2.1 s'.2.2.1 s'.2.2.2) : lw_run Ls xs d (pc, L, st, h) = lw_run Ls xs d s' := by
  rw [lw_q hc, e]
  rfl
def Lc (i : Nat) : sx_Lo := [some (.ref 0), some (.ref 1), some (.ref 61), some (.int (nI i))]
/-- the six numbers of a step lie in the script -/
def inS (Ls i : Nat) : Prop := ∀ j, j ≤ 5 → sx_in (nI (i + j)) Ls = true ∧ i + j < 2 ^ 31
def ar1 (Ls : Nat) (xs : Nat → Int32) (pc k : Nat) : Prop := sx_tab (lzk_all Ls xs) pc = si_ld sx_isA 0 (pc + 1) ∧ sx_tab (lzk_all Ls xs) (pc + 1) = si_ld sx_isI 3 (pc + 2) ∧ sx_tab (lzk_all Ls xs) (pc + 2) = si_c (.int (nI k)) (pc + 3) ∧ sx_tab (lzk_all Ls xs) (pc + 3) = si_b (fun x y => x + y) (pc + 4) ∧ sx_tab (lzk_all Ls xs) (pc + 4) = si_xa Ls xs (pc + 5)
theorem xa_run {Ls : Nat} {xs : Nat → Int32} {i k nx : Nat} {L : sx_Lo} {st : List Value} {h : sx_H} (hx : inS Ls i) (hk : k ≤ 5) : si_xa Ls xs nx L (.int (nI i + nI k) :: .ref 0 :: st) h = sx_nx nx L (.int (xs (i + k)) :: st) h := by
  show (if sx_in (nI i + nI k) Ls = true then sx_nx nx L (.int (xs (nI i + nI k).toNatClampNeg) :: st) h else none) = _
  rw [nI_ad, if_pos (hx k hk).1, nI_clamp (hx k hk).2]
theorem ar1_run {Ls : Nat} {xs : Nat → Int32} {d pc k i : Nat} {st : List Value} {h : sx_H} (a : ar1 Ls xs pc k) (hx : inS Ls i) (hk : k ≤ 5) : lw_run Ls xs d (pc, Lc i, st, h) = lw_run Ls xs d (pc + 5, Lc i, .int (xs (i + k)) :: st, h) := by
  rw [lw_n (s' := (pc + 1, Lc i, .ref 0 :: st, h)) a.1 rfl, lw_n (s' := (pc + 2, Lc i, .int (nI i) :: .ref 0 :: st, h)) a.2.1 rfl, lw_n (s' := (pc + 3, Lc i, .int (nI k) :: .int (nI i) :: .ref 0 :: st, h)) a.2.2.1 rfl, lw_n (s' := (pc + 4, Lc i, .int (nI i + nI k) :: .ref 0 :: st, h)) a.2.2.2.1 rfl, lw_n (s' := (pc + 5, Lc i, .int (xs (i + k)) :: st, h)) a.2.2.2.2 (xa_run hx hk)]
def arR (Ls : Nat) (xs : Nat → Int32) : Nat → Nat → Nat → Prop
  | _, _, 0 => True
  | pc, k, m + 1 => ar1 Ls xs pc k ∧ arR Ls xs (pc + 5) (k + 1) m
def stk (xs : Nat → Int32) (i : Nat) : Nat → Nat → List Value → List Value
  | _, 0, st => st
  | k, m + 1, st => stk xs i (k + 1) m (.int (xs (i + k)) :: st)
theorem arR_run {Ls : Nat} {xs : Nat → Int32} {d i : Nat} {h : sx_H} (hx : inS Ls i) : ∀ m pc k st, arR Ls xs pc k m → k + m ≤ 6 → lw_run Ls xs d (pc, Lc i, st, h) = lw_run Ls xs d (pc + 5 * m, Lc i, stk xs i k m st, h)
  | 0, pc, k, st, _, _ => rfl
  | m + 1, pc, k, st, a, hk => by
    rw [ar1_run a.1 hx (by omega), arR_run hx m (pc + 5) (k + 1) _ a.2 (by omega), show pc + 5 + 5 * m = pc + 5 * (m + 1) by omega]
    rfl
theorem cv_run {Ls : Nat} {xs : Nat → Int32} {d pc ci kk n nx b : Nat} {L : sx_Lo} {st rr as : List Value} {h h' : sx_H} {v : Option Value} (hc : sx_tab (lzk_all Ls xs) pc = si_cv [(ci, kk)] n nx) (hd : st.drop n = .ref b :: rr) (hl : n ≤ st.length ∧ sx_r8 rr = true) (ha : (st.take n).reverse = as) (hk : sx_kl h b = some ci) (hr : sx_call d kk (.ref b :: as) h = some (v, h')) : lw_run Ls xs d (pc, L, st, h) = lw_run Ls xs d (nx, L, v.toList ++ rr, h') := by
  subst ha
  have lk : List.lookup ci [(ci, kk)] = some kk := by simp [List.lookup]
  have e : si_cv [(ci, kk)] n nx L st h = sx_ca kk (.ref b :: (st.take n).reverse) nx L rr h := by
    simp only [si_cv, hd, hk, Option.bind_some, lk, hl, and_self, if_true]
  rw [lw_q hc, e]
  show (sx_call d kk (.ref b :: (st.take n).reverse) h).bind _ = _
  rw [hr]
  rfl
theorem stk_5 (xs : Nat → Int32) (i : Nat) (b : Nat) (rr : List Value) : ∀ n, n ≤ 5 → (stk xs i 1 n (.ref b :: rr)).drop n = .ref b :: rr ∧ n ≤ (stk xs i 1 n (.ref b :: rr)).length ∧ ((stk xs i 1 n (.ref b :: rr)).take n).reverse = (stk xs i 1 n []).reverse := by
  intro n hn
  rcases (show n = 0 ∨ n = 1 ∨ n = 2 ∨ n = 3 ∨ n = 4 ∨ n = 5 by omega) with rfl | rfl | rfl | rfl | rfl | rfl
  · exact ⟨rfl, Nat.zero_le _, rfl⟩
  · exact ⟨rfl, by show 1 ≤ rr.length + 2; omega, rfl⟩
  · exact ⟨rfl, by show 2 ≤ rr.length + 3; omega, rfl⟩
  · exact ⟨rfl, by show 3 ≤ rr.length + 4; omega, rfl⟩
  · exact ⟨rfl, by show 4 ≤ rr.length + 5; omega, rfl⟩
  · exact ⟨rfl, by show 5 ≤ rr.length + 6; omega, rfl⟩
/-- a case of the switch: both calls, and the comparison -/
theorem blk_run {Ls : Nat} {xs : Nat → Int32} {S : hs_S} {i pc n k1 k2 : Nat} (hx : inS Ls i) (hn : n ≤ 5) (b1 : sx_tab (lzk_all Ls xs) pc = si_ld sx_isA 1 (pc + 1)) (a1 : arR Ls xs (pc + 1) 1 n) (c1 : sx_tab (lzk_all Ls xs) (pc + 1 + 5 * n) = si_cv [(11, k1)] n (pc + 4 + 5 * n)) (b2 : sx_tab (lzk_all Ls xs) (pc + 4 + 5 * n) = si_ld sx_isA 2 (pc + 5 + 5 * n)) (a2 : arR Ls xs (pc + 5 + 5 * n) 1 n) (c2 : sx_tab (lzk_all Ls xs) (pc + 5 + 5 * n + 5 * n) = si_cv [(12, k2)] n (pc + 8 + 10 * n)) (e : sx_tab (lzk_all Ls xs) (pc + 8 + 10 * n) = si_i2 (fun x y => x = y) 1355 (pc + 11 + 10 * n)) (s : stp S k1 (.ref 1 :: (stk xs i 1 n []).reverse) k2 (.ref 61 :: (stk xs i 1 n []).reverse)) : ∃ T m, Rel T m ∧ lw_run Ls xs 11 (pc, Lc i, [], hp S) = lw_run Ls xs 11 (1355, Lc i, [], hp T) := by
  obtain ⟨v, T1, T2, m, h1, h2, R⟩ := s
  refine ⟨T2, m, R, ?_⟩
  obtain ⟨p1, p2, p3⟩ := stk_5 xs i 1 [] n hn
  obtain ⟨q1, q2, q3⟩ := stk_5 xs i 61 [.int v] n hn
  rw [lw_n (s' := (pc + 1, Lc i, [.ref 1], hp S)) b1 rfl, arR_run hx n (pc + 1) 1 [.ref 1] a1 (by omega), cv_run c1 p1 ⟨p2, rfl⟩ p3 (KL_1 S) h1]
  show lw_run Ls xs 11 (pc + 4 + 5 * n, Lc i, [.int v], hp T1) = _
  rw [lw_n (s' := (pc + 5 + 5 * n, Lc i, [.ref 61, .int v], hp T1)) b2 rfl, arR_run hx n (pc + 5 + 5 * n) 1 [.ref 61, .int v] a2 (by omega), cv_run c2 q1 ⟨q2, rfl⟩ q3 (KL_61 T1) h2]
  show lw_run Ls xs 11 (pc + 8 + 10 * n, Lc i, [.int v, .int v], hp T2) = _
  rw [lw_n (s' := (1355, Lc i, [], hp T2)) e (by show (if v = v then _ else _) = _; exact if_pos rfl)]
set_option maxRecDepth 100000 in
theorem lc_0 (Ls : Nat) (xs : Nat → Int32) {S : hs_S} {n i : Nat} (h : Rel S n) (hx : inS Ls i) : ∃ T m, Rel T m ∧ lw_run Ls xs 11 (200, Lc i, [], hp S) = lw_run Ls xs 11 (1355, Lc i, [], hp T) :=
  blk_run (pc := 200) (n := 3) (k1 := 67) (k2 := 129) hx (by omega) rfl ⟨⟨rfl, rfl, rfl, rfl, rfl⟩, ⟨rfl, rfl, rfl, rfl, rfl⟩, ⟨rfl, rfl, rfl, rfl, rfl⟩, trivial⟩ rfl rfl ⟨⟨rfl, rfl, rfl, rfl, rfl⟩, ⟨rfl, rfl, rfl, rfl, rfl⟩, ⟨rfl, rfl, rfl, rfl, rfl⟩, trivial⟩ rfl rfl (st_place S n h (xs (i + 1)) (xs (i + 2)) (xs (i + 3)))
set_option maxRecDepth 100000 in
theorem lc_1 (Ls : Nat) (xs : Nat → Int32) {S : hs_S} {n i : Nat} (h : Rel S n) (hx : inS Ls i) : ∃ T m, Rel T m ∧ lw_run Ls xs 11 (243, Lc i, [], hp S) = lw_run Ls xs 11 (1355, Lc i, [], hp T) :=
  blk_run (pc := 243) (n := 2) (k1 := 68) (k2 := 132) hx (by omega) rfl ⟨⟨rfl, rfl, rfl, rfl, rfl⟩, ⟨rfl, rfl, rfl, rfl, rfl⟩, trivial⟩ rfl rfl ⟨⟨rfl, rfl, rfl, rfl, rfl⟩, ⟨rfl, rfl, rfl, rfl, rfl⟩, trivial⟩ rfl rfl (st_placeOf S n h (xs (i + 1)) (xs (i + 2)))
set_option maxRecDepth 100000 in
theorem lc_2 (Ls : Nat) (xs : Nat → Int32) {S : hs_S} {n i : Nat} (h : Rel S n) (hx : inS Ls i) : ∃ T m, Rel T m ∧ lw_run Ls xs 11 (276, Lc i, [], hp S) = lw_run Ls xs 11 (1355, Lc i, [], hp T) :=
  blk_run (pc := 276) (n := 1) (k1 := 69) (k2 := 133) hx (by omega) rfl ⟨⟨rfl, rfl, rfl, rfl, rfl⟩, trivial⟩ rfl rfl ⟨⟨rfl, rfl, rfl, rfl, rfl⟩, trivial⟩ rfl rfl (st_clouds S n h (xs (i + 1)))
set_option maxRecDepth 100000 in
theorem lc_3 (Ls : Nat) (xs : Nat → Int32) {S : hs_S} {n i : Nat} (h : Rel S n) (hx : inS Ls i) : ∃ T m, Rel T m ∧ lw_run Ls xs 11 (299, Lc i, [], hp S) = lw_run Ls xs 11 (1355, Lc i, [], hp T) :=
  blk_run (pc := 299) (n := 1) (k1 := 70) (k2 := 135) hx (by omega) rfl ⟨⟨rfl, rfl, rfl, rfl, rfl⟩, trivial⟩ rfl rfl ⟨⟨rfl, rfl, rfl, rfl, rfl⟩, trivial⟩ rfl rfl (st_heat S n h (xs (i + 1)))
set_option maxRecDepth 100000 in
theorem lc_4 (Ls : Nat) (xs : Nat → Int32) {S : hs_S} {n i : Nat} (h : Rel S n) (hx : inS Ls i) : ∃ T m, Rel T m ∧ lw_run Ls xs 11 (322, Lc i, [], hp S) = lw_run Ls xs 11 (1355, Lc i, [], hp T) :=
  blk_run (pc := 322) (n := 2) (k1 := 71) (k2 := 137) hx (by omega) rfl ⟨⟨rfl, rfl, rfl, rfl, rfl⟩, ⟨rfl, rfl, rfl, rfl, rfl⟩, trivial⟩ rfl rfl ⟨⟨rfl, rfl, rfl, rfl, rfl⟩, ⟨rfl, rfl, rfl, rfl, rfl⟩, trivial⟩ rfl rfl (st_carrier S n h (xs (i + 1)) (xs (i + 2)))
set_option maxRecDepth 100000 in
theorem lc_5 (Ls : Nat) (xs : Nat → Int32) {S : hs_S} {n i : Nat} (h : Rel S n) (hx : inS Ls i) : ∃ T m, Rel T m ∧ lw_run Ls xs 11 (355, Lc i, [], hp S) = lw_run Ls xs 11 (1355, Lc i, [], hp T) :=
  blk_run (pc := 355) (n := 2) (k1 := 72) (k2 := 145) hx (by omega) rfl ⟨⟨rfl, rfl, rfl, rfl, rfl⟩, ⟨rfl, rfl, rfl, rfl, rfl⟩, trivial⟩ rfl rfl ⟨⟨rfl, rfl, rfl, rfl, rfl⟩, ⟨rfl, rfl, rfl, rfl, rfl⟩, trivial⟩ rfl rfl (st_of S n h (xs (i + 1)) (xs (i + 2)))
set_option maxRecDepth 100000 in
theorem lc_6 (Ls : Nat) (xs : Nat → Int32) {S : hs_S} {n i : Nat} (h : Rel S n) (hx : inS Ls i) : ∃ T m, Rel T m ∧ lw_run Ls xs 11 (388, Lc i, [], hp S) = lw_run Ls xs 11 (1355, Lc i, [], hp T) :=
  blk_run (pc := 388) (n := 3) (k1 := 73) (k2 := 146) hx (by omega) rfl ⟨⟨rfl, rfl, rfl, rfl, rfl⟩, ⟨rfl, rfl, rfl, rfl, rfl⟩, ⟨rfl, rfl, rfl, rfl, rfl⟩, trivial⟩ rfl rfl ⟨⟨rfl, rfl, rfl, rfl, rfl⟩, ⟨rfl, rfl, rfl, rfl, rfl⟩, ⟨rfl, rfl, rfl, rfl, rfl⟩, trivial⟩ rfl rfl (st_set S n h (xs (i + 1)) (xs (i + 2)) (xs (i + 3)))
set_option maxRecDepth 100000 in
theorem lc_7 (Ls : Nat) (xs : Nat → Int32) {S : hs_S} {n i : Nat} (h : Rel S n) (hx : inS Ls i) : ∃ T m, Rel T m ∧ lw_run Ls xs 11 (431, Lc i, [], hp S) = lw_run Ls xs 11 (1355, Lc i, [], hp T) :=
  blk_run (pc := 431) (n := 2) (k1 := 74) (k2 := 147) hx (by omega) rfl ⟨⟨rfl, rfl, rfl, rfl, rfl⟩, ⟨rfl, rfl, rfl, rfl, rfl⟩, trivial⟩ rfl rfl ⟨⟨rfl, rfl, rfl, rfl, rfl⟩, ⟨rfl, rfl, rfl, rfl, rfl⟩, trivial⟩ rfl rfl (st_turn S n h (xs (i + 1)) (xs (i + 2)))
set_option maxRecDepth 100000 in
theorem lc_8 (Ls : Nat) (xs : Nat → Int32) {S : hs_S} {n i : Nat} (h : Rel S n) (hx : inS Ls i) : ∃ T m, Rel T m ∧ lw_run Ls xs 11 (464, Lc i, [], hp S) = lw_run Ls xs 11 (1355, Lc i, [], hp T) :=
  blk_run (pc := 464) (n := 2) (k1 := 75) (k2 := 149) hx (by omega) rfl ⟨⟨rfl, rfl, rfl, rfl, rfl⟩, ⟨rfl, rfl, rfl, rfl, rfl⟩, trivial⟩ rfl rfl ⟨⟨rfl, rfl, rfl, rfl, rfl⟩, ⟨rfl, rfl, rfl, rfl, rfl⟩, trivial⟩ rfl rfl (st_as S n h (xs (i + 1)) (xs (i + 2)))
set_option maxRecDepth 100000 in
theorem lc_9 (Ls : Nat) (xs : Nat → Int32) {S : hs_S} {n i : Nat} (h : Rel S n) (hx : inS Ls i) : ∃ T m, Rel T m ∧ lw_run Ls xs 11 (497, Lc i, [], hp S) = lw_run Ls xs 11 (1355, Lc i, [], hp T) :=
  blk_run (pc := 497) (n := 2) (k1 := 76) (k2 := 150) hx (by omega) rfl ⟨⟨rfl, rfl, rfl, rfl, rfl⟩, ⟨rfl, rfl, rfl, rfl, rfl⟩, trivial⟩ rfl rfl ⟨⟨rfl, rfl, rfl, rfl, rfl⟩, ⟨rfl, rfl, rfl, rfl, rfl⟩, trivial⟩ rfl rfl (st_go S n h (xs (i + 1)) (xs (i + 2)))
set_option maxRecDepth 100000 in
theorem lc_10 (Ls : Nat) (xs : Nat → Int32) {S : hs_S} {n i : Nat} (h : Rel S n) (hx : inS Ls i) : ∃ T m, Rel T m ∧ lw_run Ls xs 11 (530, Lc i, [], hp S) = lw_run Ls xs 11 (1355, Lc i, [], hp T) :=
  blk_run (pc := 530) (n := 1) (k1 := 77) (k2 := 151) hx (by omega) rfl ⟨⟨rfl, rfl, rfl, rfl, rfl⟩, trivial⟩ rfl rfl ⟨⟨rfl, rfl, rfl, rfl, rfl⟩, trivial⟩ rfl rfl (st_sell S n h (xs (i + 1)))
set_option maxRecDepth 100000 in
theorem lc_11 (Ls : Nat) (xs : Nat → Int32) {S : hs_S} {n i : Nat} (h : Rel S n) (hx : inS Ls i) : ∃ T m, Rel T m ∧ lw_run Ls xs 11 (553, Lc i, [], hp S) = lw_run Ls xs 11 (1355, Lc i, [], hp T) :=
  blk_run (pc := 553) (n := 1) (k1 := 78) (k2 := 155) hx (by omega) rfl ⟨⟨rfl, rfl, rfl, rfl, rfl⟩, trivial⟩ rfl rfl ⟨⟨rfl, rfl, rfl, rfl, rfl⟩, trivial⟩ rfl rfl (st_hours S n h (xs (i + 1)))
set_option maxRecDepth 100000 in
theorem lc_12 (Ls : Nat) (xs : Nat → Int32) {S : hs_S} {n i : Nat} (h : Rel S n) (hx : inS Ls i) : ∃ T m, Rel T m ∧ lw_run Ls xs 11 (576, Lc i, [], hp S) = lw_run Ls xs 11 (1355, Lc i, [], hp T) :=
  blk_run (pc := 576) (n := 1) (k1 := 79) (k2 := 158) hx (by omega) rfl ⟨⟨rfl, rfl, rfl, rfl, rfl⟩, trivial⟩ rfl rfl ⟨⟨rfl, rfl, rfl, rfl, rfl⟩, trivial⟩ rfl rfl (st_now S n h (xs (i + 1)))
set_option maxRecDepth 100000 in
theorem lc_13 (Ls : Nat) (xs : Nat → Int32) {S : hs_S} {n i : Nat} (h : Rel S n) (hx : inS Ls i) : ∃ T m, Rel T m ∧ lw_run Ls xs 11 (599, Lc i, [], hp S) = lw_run Ls xs 11 (1355, Lc i, [], hp T) :=
  blk_run (pc := 599) (n := 2) (k1 := 80) (k2 := 159) hx (by omega) rfl ⟨⟨rfl, rfl, rfl, rfl, rfl⟩, ⟨rfl, rfl, rfl, rfl, rfl⟩, trivial⟩ rfl rfl ⟨⟨rfl, rfl, rfl, rfl, rfl⟩, ⟨rfl, rfl, rfl, rfl, rfl⟩, trivial⟩ rfl rfl (st_on S n h (xs (i + 1)) (xs (i + 2)))
set_option maxRecDepth 100000 in
theorem lc_14 (Ls : Nat) (xs : Nat → Int32) {S : hs_S} {n i : Nat} (h : Rel S n) (hx : inS Ls i) : ∃ T m, Rel T m ∧ lw_run Ls xs 11 (632, Lc i, [], hp S) = lw_run Ls xs 11 (1355, Lc i, [], hp T) :=
  blk_run (pc := 632) (n := 1) (k1 := 81) (k2 := 161) hx (by omega) rfl ⟨⟨rfl, rfl, rfl, rfl, rfl⟩, trivial⟩ rfl rfl ⟨⟨rfl, rfl, rfl, rfl, rfl⟩, trivial⟩ rfl rfl (st_found S n h (xs (i + 1)))
set_option maxRecDepth 100000 in
theorem lc_15 (Ls : Nat) (xs : Nat → Int32) {S : hs_S} {n i : Nat} (h : Rel S n) (hx : inS Ls i) : ∃ T m, Rel T m ∧ lw_run Ls xs 11 (655, Lc i, [], hp S) = lw_run Ls xs 11 (1355, Lc i, [], hp T) :=
  blk_run (pc := 655) (n := 0) (k1 := 82) (k2 := 162) hx (by omega) rfl trivial rfl rfl trivial rfl rfl (st_firstFound S n h )
set_option maxRecDepth 100000 in
theorem lc_16 (Ls : Nat) (xs : Nat → Int32) {S : hs_S} {n i : Nat} (h : Rel S n) (hx : inS Ls i) : ∃ T m, Rel T m ∧ lw_run Ls xs 11 (668, Lc i, [], hp S) = lw_run Ls xs 11 (1355, Lc i, [], hp T) :=
  blk_run (pc := 668) (n := 2) (k1 := 83) (k2 := 169) hx (by omega) rfl ⟨⟨rfl, rfl, rfl, rfl, rfl⟩, ⟨rfl, rfl, rfl, rfl, rfl⟩, trivial⟩ rfl rfl ⟨⟨rfl, rfl, rfl, rfl, rfl⟩, ⟨rfl, rfl, rfl, rfl, rfl⟩, trivial⟩ rfl rfl (st_soonest S n h (xs (i + 1)) (xs (i + 2)))
set_option maxRecDepth 100000 in
theorem lc_17 (Ls : Nat) (xs : Nat → Int32) {S : hs_S} {n i : Nat} (h : Rel S n) (hx : inS Ls i) : ∃ T m, Rel T m ∧ lw_run Ls xs 11 (701, Lc i, [], hp S) = lw_run Ls xs 11 (1355, Lc i, [], hp T) :=
  blk_run (pc := 701) (n := 2) (k1 := 84) (k2 := 170) hx (by omega) rfl ⟨⟨rfl, rfl, rfl, rfl, rfl⟩, ⟨rfl, rfl, rfl, rfl, rfl⟩, trivial⟩ rfl rfl ⟨⟨rfl, rfl, rfl, rfl, rfl⟩, ⟨rfl, rfl, rfl, rfl, rfl⟩, trivial⟩ rfl rfl (st_reach S n h (xs (i + 1)) (xs (i + 2)))
set_option maxRecDepth 100000 in
theorem lc_18 (Ls : Nat) (xs : Nat → Int32) {S : hs_S} {n i : Nat} (h : Rel S n) (hx : inS Ls i) : ∃ T m, Rel T m ∧ lw_run Ls xs 11 (734, Lc i, [], hp S) = lw_run Ls xs 11 (1355, Lc i, [], hp T) :=
  blk_run (pc := 734) (n := 3) (k1 := 85) (k2 := 171) hx (by omega) rfl ⟨⟨rfl, rfl, rfl, rfl, rfl⟩, ⟨rfl, rfl, rfl, rfl, rfl⟩, ⟨rfl, rfl, rfl, rfl, rfl⟩, trivial⟩ rfl rfl ⟨⟨rfl, rfl, rfl, rfl, rfl⟩, ⟨rfl, rfl, rfl, rfl, rfl⟩, ⟨rfl, rfl, rfl, rfl, rfl⟩, trivial⟩ rfl rfl (st_cover S n h (xs (i + 1)) (xs (i + 2)) (xs (i + 3)))
set_option maxRecDepth 100000 in
theorem lc_19 (Ls : Nat) (xs : Nat → Int32) {S : hs_S} {n i : Nat} (h : Rel S n) (hx : inS Ls i) : ∃ T m, Rel T m ∧ lw_run Ls xs 11 (777, Lc i, [], hp S) = lw_run Ls xs 11 (1355, Lc i, [], hp T) :=
  blk_run (pc := 777) (n := 2) (k1 := 86) (k2 := 173) hx (by omega) rfl ⟨⟨rfl, rfl, rfl, rfl, rfl⟩, ⟨rfl, rfl, rfl, rfl, rfl⟩, trivial⟩ rfl rfl ⟨⟨rfl, rfl, rfl, rfl, rfl⟩, ⟨rfl, rfl, rfl, rfl, rfl⟩, trivial⟩ rfl rfl (st_best S n h (xs (i + 1)) (xs (i + 2)))
set_option maxRecDepth 100000 in
theorem lc_20 (Ls : Nat) (xs : Nat → Int32) {S : hs_S} {n i : Nat} (h : Rel S n) (hx : inS Ls i) : ∃ T m, Rel T m ∧ lw_run Ls xs 11 (810, Lc i, [], hp S) = lw_run Ls xs 11 (1355, Lc i, [], hp T) :=
  blk_run (pc := 810) (n := 2) (k1 := 87) (k2 := 174) hx (by omega) rfl ⟨⟨rfl, rfl, rfl, rfl, rfl⟩, ⟨rfl, rfl, rfl, rfl, rfl⟩, trivial⟩ rfl rfl ⟨⟨rfl, rfl, rfl, rfl, rfl⟩, ⟨rfl, rfl, rfl, rfl, rfl⟩, trivial⟩ rfl rfl (st_where S n h (xs (i + 1)) (xs (i + 2)))
set_option maxRecDepth 100000 in
theorem lc_21 (Ls : Nat) (xs : Nat → Int32) {S : hs_S} {n i : Nat} (h : Rel S n) (hx : inS Ls i) : ∃ T m, Rel T m ∧ lw_run Ls xs 11 (843, Lc i, [], hp S) = lw_run Ls xs 11 (1355, Lc i, [], hp T) :=
  blk_run (pc := 843) (n := 2) (k1 := 88) (k2 := 175) hx (by omega) rfl ⟨⟨rfl, rfl, rfl, rfl, rfl⟩, ⟨rfl, rfl, rfl, rfl, rfl⟩, trivial⟩ rfl rfl ⟨⟨rfl, rfl, rfl, rfl, rfl⟩, ⟨rfl, rfl, rfl, rfl, rfl⟩, trivial⟩ rfl rfl (st_post S n h (xs (i + 1)) (xs (i + 2)))
set_option maxRecDepth 100000 in
theorem lc_22 (Ls : Nat) (xs : Nat → Int32) {S : hs_S} {n i : Nat} (h : Rel S n) (hx : inS Ls i) : ∃ T m, Rel T m ∧ lw_run Ls xs 11 (876, Lc i, [], hp S) = lw_run Ls xs 11 (1355, Lc i, [], hp T) :=
  blk_run (pc := 876) (n := 2) (k1 := 89) (k2 := 176) hx (by omega) rfl ⟨⟨rfl, rfl, rfl, rfl, rfl⟩, ⟨rfl, rfl, rfl, rfl, rfl⟩, trivial⟩ rfl rfl ⟨⟨rfl, rfl, rfl, rfl, rfl⟩, ⟨rfl, rfl, rfl, rfl, rfl⟩, trivial⟩ rfl rfl (st_kind S n h (xs (i + 1)) (xs (i + 2)))
set_option maxRecDepth 100000 in
theorem lc_23 (Ls : Nat) (xs : Nat → Int32) {S : hs_S} {n i : Nat} (h : Rel S n) (hx : inS Ls i) : ∃ T m, Rel T m ∧ lw_run Ls xs 11 (909, Lc i, [], hp S) = lw_run Ls xs 11 (1355, Lc i, [], hp T) :=
  blk_run (pc := 909) (n := 2) (k1 := 90) (k2 := 177) hx (by omega) rfl ⟨⟨rfl, rfl, rfl, rfl, rfl⟩, ⟨rfl, rfl, rfl, rfl, rfl⟩, trivial⟩ rfl rfl ⟨⟨rfl, rfl, rfl, rfl, rfl⟩, ⟨rfl, rfl, rfl, rfl, rfl⟩, trivial⟩ rfl rfl (st_depart S n h (xs (i + 1)) (xs (i + 2)))
set_option maxRecDepth 100000 in
theorem lc_24 (Ls : Nat) (xs : Nat → Int32) {S : hs_S} {n i : Nat} (h : Rel S n) (hx : inS Ls i) : ∃ T m, Rel T m ∧ lw_run Ls xs 11 (942, Lc i, [], hp S) = lw_run Ls xs 11 (1355, Lc i, [], hp T) :=
  blk_run (pc := 942) (n := 2) (k1 := 91) (k2 := 178) hx (by omega) rfl ⟨⟨rfl, rfl, rfl, rfl, rfl⟩, ⟨rfl, rfl, rfl, rfl, rfl⟩, trivial⟩ rfl rfl ⟨⟨rfl, rfl, rfl, rfl, rfl⟩, ⟨rfl, rfl, rfl, rfl, rfl⟩, trivial⟩ rfl rfl (st_feed S n h (xs (i + 1)) (xs (i + 2)))
set_option maxRecDepth 100000 in
theorem lc_25 (Ls : Nat) (xs : Nat → Int32) {S : hs_S} {n i : Nat} (h : Rel S n) (hx : inS Ls i) : ∃ T m, Rel T m ∧ lw_run Ls xs 11 (975, Lc i, [], hp S) = lw_run Ls xs 11 (1355, Lc i, [], hp T) :=
  blk_run (pc := 975) (n := 0) (k1 := 92) (k2 := 179) hx (by omega) rfl trivial rfl rfl trivial rfl rfl (st_wipe S n h )
set_option maxRecDepth 100000 in
theorem lc_26 (Ls : Nat) (xs : Nat → Int32) {S : hs_S} {n i : Nat} (h : Rel S n) (hx : inS Ls i) : ∃ T m, Rel T m ∧ lw_run Ls xs 11 (988, Lc i, [], hp S) = lw_run Ls xs 11 (1355, Lc i, [], hp T) :=
  blk_run (pc := 988) (n := 0) (k1 := 93) (k2 := 192) hx (by omega) rfl trivial rfl rfl trivial rfl rfl (st_land S n h )
set_option maxRecDepth 100000 in
theorem lc_27 (Ls : Nat) (xs : Nat → Int32) {S : hs_S} {n i : Nat} (h : Rel S n) (hx : inS Ls i) : ∃ T m, Rel T m ∧ lw_run Ls xs 11 (1001, Lc i, [], hp S) = lw_run Ls xs 11 (1355, Lc i, [], hp T) :=
  blk_run (pc := 1001) (n := 3) (k1 := 94) (k2 := 194) hx (by omega) rfl ⟨⟨rfl, rfl, rfl, rfl, rfl⟩, ⟨rfl, rfl, rfl, rfl, rfl⟩, ⟨rfl, rfl, rfl, rfl, rfl⟩, trivial⟩ rfl rfl ⟨⟨rfl, rfl, rfl, rfl, rfl⟩, ⟨rfl, rfl, rfl, rfl, rfl⟩, ⟨rfl, rfl, rfl, rfl, rfl⟩, trivial⟩ rfl rfl (st_sheet S n h (xs (i + 1)) (xs (i + 2)) (xs (i + 3)))
set_option maxRecDepth 100000 in
theorem lc_29 (Ls : Nat) (xs : Nat → Int32) {S : hs_S} {n i : Nat} (h : Rel S n) (hx : inS Ls i) : ∃ T m, Rel T m ∧ lw_run Ls xs 11 (1118, Lc i, [], hp S) = lw_run Ls xs 11 (1355, Lc i, [], hp T) :=
  blk_run (pc := 1118) (n := 5) (k1 := 96) (k2 := 198) hx (by omega) rfl ⟨⟨rfl, rfl, rfl, rfl, rfl⟩, ⟨rfl, rfl, rfl, rfl, rfl⟩, ⟨rfl, rfl, rfl, rfl, rfl⟩, ⟨rfl, rfl, rfl, rfl, rfl⟩, ⟨rfl, rfl, rfl, rfl, rfl⟩, trivial⟩ rfl rfl ⟨⟨rfl, rfl, rfl, rfl, rfl⟩, ⟨rfl, rfl, rfl, rfl, rfl⟩, ⟨rfl, rfl, rfl, rfl, rfl⟩, ⟨rfl, rfl, rfl, rfl, rfl⟩, ⟨rfl, rfl, rfl, rfl, rfl⟩, trivial⟩ rfl rfl (st_copy S n h (xs (i + 1)) (xs (i + 2)) (xs (i + 3)) (xs (i + 4)) (xs (i + 5)))
set_option maxRecDepth 100000 in
theorem lc_30 (Ls : Nat) (xs : Nat → Int32) {S : hs_S} {n i : Nat} (h : Rel S n) (hx : inS Ls i) : ∃ T m, Rel T m ∧ lw_run Ls xs 11 (1181, Lc i, [], hp S) = lw_run Ls xs 11 (1355, Lc i, [], hp T) :=
  blk_run (pc := 1181) (n := 1) (k1 := 97) (k2 := 199) hx (by omega) rfl ⟨⟨rfl, rfl, rfl, rfl, rfl⟩, trivial⟩ rfl rfl ⟨⟨rfl, rfl, rfl, rfl, rfl⟩, trivial⟩ rfl rfl (st_lays S n h (xs (i + 1)))
set_option maxRecDepth 100000 in
theorem lc_31 (Ls : Nat) (xs : Nat → Int32) {S : hs_S} {n i : Nat} (h : Rel S n) (hx : inS Ls i) : ∃ T m, Rel T m ∧ lw_run Ls xs 11 (1204, Lc i, [], hp S) = lw_run Ls xs 11 (1355, Lc i, [], hp T) :=
  blk_run (pc := 1204) (n := 2) (k1 := 98) (k2 := 201) hx (by omega) rfl ⟨⟨rfl, rfl, rfl, rfl, rfl⟩, ⟨rfl, rfl, rfl, rfl, rfl⟩, trivial⟩ rfl rfl ⟨⟨rfl, rfl, rfl, rfl, rfl⟩, ⟨rfl, rfl, rfl, rfl, rfl⟩, trivial⟩ rfl rfl (st_book S n h (xs (i + 1)) (xs (i + 2)))
set_option maxRecDepth 100000 in
theorem lc_32 (Ls : Nat) (xs : Nat → Int32) {S : hs_S} {n i : Nat} (h : Rel S n) (hx : inS Ls i) : ∃ T m, Rel T m ∧ lw_run Ls xs 11 (1237, Lc i, [], hp S) = lw_run Ls xs 11 (1355, Lc i, [], hp T) :=
  blk_run (pc := 1237) (n := 2) (k1 := 99) (k2 := 202) hx (by omega) rfl ⟨⟨rfl, rfl, rfl, rfl, rfl⟩, ⟨rfl, rfl, rfl, rfl, rfl⟩, trivial⟩ rfl rfl ⟨⟨rfl, rfl, rfl, rfl, rfl⟩, ⟨rfl, rfl, rfl, rfl, rfl⟩, trivial⟩ rfl rfl (st_read S n h (xs (i + 1)) (xs (i + 2)))
set_option maxRecDepth 100000 in
theorem lc_33 (Ls : Nat) (xs : Nat → Int32) {S : hs_S} {n i : Nat} (h : Rel S n) (hx : inS Ls i) : ∃ T m, Rel T m ∧ lw_run Ls xs 11 (1270, Lc i, [], hp S) = lw_run Ls xs 11 (1355, Lc i, [], hp T) :=
  blk_run (pc := 1270) (n := 0) (k1 := 100) (k2 := 203) hx (by omega) rfl trivial rfl rfl trivial rfl rfl (st_image S n h )
set_option maxRecDepth 100000 in
theorem lc_34 (Ls : Nat) (xs : Nat → Int32) {S : hs_S} {n i : Nat} (h : Rel S n) (hx : inS Ls i) : ∃ T m, Rel T m ∧ lw_run Ls xs 11 (1283, Lc i, [], hp S) = lw_run Ls xs 11 (1355, Lc i, [], hp T) :=
  blk_run (pc := 1283) (n := 0) (k1 := 101) (k2 := 204) hx (by omega) rfl trivial rfl rfl trivial rfl rfl (st_undo S n h )
set_option maxRecDepth 100000 in
theorem lc_35 (Ls : Nat) (xs : Nat → Int32) {S : hs_S} {n i : Nat} (h : Rel S n) (hx : inS Ls i) : ∃ T m, Rel T m ∧ lw_run Ls xs 11 (1296, Lc i, [], hp S) = lw_run Ls xs 11 (1355, Lc i, [], hp T) :=
  blk_run (pc := 1296) (n := 0) (k1 := 102) (k2 := 205) hx (by omega) rfl trivial rfl rfl trivial rfl rfl (st_tear S n h )
set_option maxRecDepth 100000 in
theorem lc_36 (Ls : Nat) (xs : Nat → Int32) {S : hs_S} {n i : Nat} (h : Rel S n) (hx : inS Ls i) : ∃ T m, Rel T m ∧ lw_run Ls xs 11 (1309, Lc i, [], hp S) = lw_run Ls xs 11 (1355, Lc i, [], hp T) :=
  blk_run (pc := 1309) (n := 1) (k1 := 103) (k2 := 208) hx (by omega) rfl ⟨⟨rfl, rfl, rfl, rfl, rfl⟩, trivial⟩ rfl rfl ⟨⟨rfl, rfl, rfl, rfl, rfl⟩, trivial⟩ rfl rfl (st_count S n h (xs (i + 1)))
set_option maxRecDepth 100000 in
theorem lc_37 (Ls : Nat) (xs : Nat → Int32) {S : hs_S} {n i : Nat} (h : Rel S n) (hx : inS Ls i) : ∃ T m, Rel T m ∧ lw_run Ls xs 11 (1332, Lc i, [], hp S) = lw_run Ls xs 11 (1355, Lc i, [], hp T) :=
  blk_run (pc := 1332) (n := 1) (k1 := 104) (k2 := 209) hx (by omega) rfl ⟨⟨rfl, rfl, rfl, rfl, rfl⟩, trivial⟩ rfl rfl ⟨⟨rfl, rfl, rfl, rfl, rfl⟩, trivial⟩ rfl rfl (st_status S n h (xs (i + 1)))
