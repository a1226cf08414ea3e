/-! THE LAW: the write, the loop, the whole run -/
def lgR (Ls : Nat) (xs : Nat → Int32) (pc : Nat) : Prop := ar1 Ls xs pc 3 ∧ sx_tab (lzk_all Ls xs) (pc + 5) = si_u (fun x => .long x.toInt64) (pc + 6) ∧ sx_tab (lzk_all Ls xs) (pc + 6) = si_c (.int 32) (pc + 8) ∧ sx_tab (lzk_all Ls xs) (pc + 8) = si_lsh (pc + 9) ∧ ar1 Ls xs (pc + 9) 4 ∧ sx_tab (lzk_all Ls xs) (pc + 14) = si_u (fun x => .long x.toInt64) (pc + 15) ∧ sx_tab (lzk_all Ls xs) (pc + 15) = si_c (.long 4294967295) (pc + 18) ∧ sx_tab (lzk_all Ls xs) (pc + 18) = si_bj (fun x y => .long (x &&& y)) (pc + 19) ∧ sx_tab (lzk_all Ls xs) (pc + 19) = si_bj (fun x y => .long (x ||| y)) (pc + 20)
def wLong (a b : Int32) : Int64 := (a.toInt64 <<< ((32 : Int32).toInt64 &&& 63)) ||| (b.toInt64 &&& 4294967295)
theorem lg_run {Ls : Nat} {xs : Nat → Int32} {d pc i : Nat} {st : List Value} {h : sx_H} (a : lgR Ls xs pc) (hx : inS Ls i) : lw_run Ls xs d (pc, Lc i, st, h) = lw_run Ls xs d (pc + 20, Lc i, .long (wLong (xs (i + 3)) (xs (i + 4))) :: st, h) := by
  obtain ⟨a1, a2, a3, a4, a5, a6, a7, a8, a9⟩ := a
  rw [ar1_run a1 hx (by omega), lw_n (s' := (pc + 6, Lc i, .long (xs (i + 3)).toInt64 :: st, h)) a2 rfl, lw_n (s' := (pc + 8, Lc i, .int 32 :: .long (xs (i + 3)).toInt64 :: st, h)) a3 rfl, lw_n (s' := (pc + 9, Lc i, .long ((xs (i + 3)).toInt64 <<< ((32 : Int32).toInt64 &&& 63)) :: st, h)) a4 rfl, ar1_run a5 hx (by omega), lw_n (s' := (pc + 15, Lc i, .long (xs (i + 4)).toInt64 :: .long ((xs (i + 3)).toInt64 <<< ((32 : Int32).toInt64 &&& 63)) :: st, h)) a6 rfl, lw_n (s' := (pc + 18, Lc i, .long 4294967295 :: .long (xs (i + 4)).toInt64 :: .long ((xs (i + 3)).toInt64 <<< ((32 : Int32).toInt64 &&& 63)) :: st, h)) a7 rfl, lw_n (s' := (pc + 19, Lc i, .long ((xs (i + 4)).toInt64 &&& 4294967295) :: .long ((xs (i + 3)).toInt64 <<< ((32 : Int32).toInt64 &&& 63)) :: st, h)) a8 rfl, lw_n (s' := (pc + 20, Lc i, .long (wLong (xs (i + 3)) (xs (i + 4))) :: st, h)) a9 rfl]
theorem lgc_0 (v : Int64) : lg_cmp v v = 0 := by
  unfold lg_cmp
  simp
set_option maxRecDepth 100000 in
theorem lc_28 (Ls : Nat) (xs : Nat → Int32) {S : hs_S} {n i : Nat} (h : Rel S n) (hx : inS Ls i) : ∃ T m, Rel T m ∧ lw_run Ls xs 11 (1044, Lc i, [], hp S) = lw_run Ls xs 11 (1355, Lc i, [], hp T) := by
  obtain ⟨v, T1, T2, m, h1, h2, R⟩ := st_write S n h (xs (i + 1)) (xs (i + 2)) (wLong (xs (i + 3)) (xs (i + 4)))
  refine ⟨T2, m, R, ?_⟩
  have b1 : sx_tab (lzk_all Ls xs) 1044 = si_ld sx_isA 1 1045 := rfl
  have a1 : arR Ls xs 1045 1 2 := ⟨⟨rfl, rfl, rfl, rfl, rfl⟩, ⟨rfl, rfl, rfl, rfl, rfl⟩, trivial⟩
  have g1 : lgR Ls xs 1055 := ⟨⟨rfl, rfl, rfl, rfl, rfl⟩, rfl, rfl, rfl, ⟨rfl, rfl, rfl, rfl, rfl⟩, rfl, rfl, rfl, rfl⟩
  have c1 : sx_tab (lzk_all Ls xs) 1075 = si_cv [(11, 95)] 3 1078 := rfl
  have b2 : sx_tab (lzk_all Ls xs) 1078 = si_ld sx_isA 2 1079 := rfl
  have a2 : arR Ls xs 1079 1 2 := ⟨⟨rfl, rfl, rfl, rfl, rfl⟩, ⟨rfl, rfl, rfl, rfl, rfl⟩, trivial⟩
  have g2 : lgR Ls xs 1089 := ⟨⟨rfl, rfl, rfl, rfl, rfl⟩, rfl, rfl, rfl, ⟨rfl, rfl, rfl, rfl, rfl⟩, rfl, rfl, rfl, rfl⟩
  have c2 : sx_tab (lzk_all Ls xs) 1109 = si_cv [(12, 197)] 3 1112 := rfl
  have e1 : sx_tab (lzk_all Ls xs) 1112 = si_bj (fun x y => .int (lg_cmp x y)) 1113 := rfl
  have e2 : sx_tab (lzk_all Ls xs) 1113 = si_i1 (fun x => x = 0) 1355 1116 := rfl
  rw [lw_n (s' := (1045, Lc i, [.ref 1], hp S)) b1 rfl, arR_run hx 2 1045 1 [.ref 1] a1 (by omega)]
  show lw_run Ls xs 11 (1055, Lc i, [.int (xs (i + 2)), .int (xs (i + 1)), .ref 1], hp S) = _
  rw [lg_run g1 hx, cv_run (b := 1) (rr := []) (as := [.int (xs (i + 1)), .int (xs (i + 2)), .long (wLong (xs (i + 3)) (xs (i + 4)))]) c1 rfl ⟨Nat.le_of_ble_eq_true rfl, rfl⟩ rfl (KL_1 S) h1]
  show lw_run Ls xs 11 (1078, Lc i, [.long v], hp T1) = _
  rw [lw_n (s' := (1079, Lc i, [.ref 61, .long v], hp T1)) b2 rfl, arR_run hx 2 1079 1 [.ref 61, .long v] a2 (by omega)]
  show lw_run Ls xs 11 (1089, Lc i, [.int (xs (i + 2)), .int (xs (i + 1)), .ref 61, .long v], hp T1) = _
  rw [lg_run g2 hx, cv_run (b := 61) (rr := [.long v]) (as := [.int (xs (i + 1)), .int (xs (i + 2)), .long (wLong (xs (i + 3)) (xs (i + 4)))]) c2 rfl ⟨Nat.le_of_ble_eq_true rfl, rfl⟩ rfl (KL_61 T1) h2]
  show lw_run Ls xs 11 (1112, Lc i, [.long v, .long v], hp T2) = _
  rw [lw_n (s' := (1113, Lc i, [.int (lg_cmp v v)], hp T2)) e1 rfl, lw_n (s' := (1355, Lc i, [], hp T2)) e2 (by show (if lg_cmp v v = 0 then _ else _) = _; exact if_pos (lgc_0 v))]
theorem sw_all {P : Nat → Prop} (x : Int32) {dd : Nat} (hd : P dd) : ∀ cs : List (Int32 × Nat), (∀ q ∈ cs, P q.2) → P (sx_sw cs dd x)
  | [], _ => hd
  | q :: r, h => by
    unfold sx_sw
    by_cases e : x = q.1
    · rw [if_pos e]
      exact h q (List.mem_cons_self ..)
    · rw [if_neg e]
      exact sw_all x hd r (fun y hy => h y (List.mem_cons_of_mem _ hy))
def scs : List (Int32 × Nat) := [(0, 200), (1, 243), (2, 276), (3, 299), (4, 322), (5, 355), (6, 388), (7, 431), (8, 464), (9, 497), (10, 530), (11, 553), (12, 576), (13, 599), (14, 632), (15, 655), (16, 668), (17, 701), (18, 734), (19, 777), (20, 810), (21, 843), (22, 876), (23, 909), (24, 942), (25, 975), (26, 988), (27, 1001), (28, 1044), (29, 1118), (30, 1181), (31, 1204), (32, 1237), (33, 1270), (34, 1283), (35, 1296), (36, 1309), (37, 1332)]
theorem case_run (Ls : Nat) (xs : Nat → Int32) {S : hs_S} {n i : Nat} (h : Rel S n) (hx : inS Ls i) (x : Int32) : ∃ T m, Rel T m ∧ lw_run Ls xs 11 (sx_sw scs 1355 x, Lc i, [], hp S) = lw_run Ls xs 11 (1355, Lc i, [], hp T) := by
  refine sw_all (P := fun pc => ∃ T m, Rel T m ∧ lw_run Ls xs 11 (pc, Lc i, [], hp S) = lw_run Ls xs 11 (1355, Lc i, [], hp T)) x ⟨S, n, h, rfl⟩ scs ?_
  exact List.forall_mem_cons.mpr ⟨lc_0 Ls xs h hx, List.forall_mem_cons.mpr ⟨lc_1 Ls xs h hx, List.forall_mem_cons.mpr ⟨lc_2 Ls xs h hx, List.forall_mem_cons.mpr ⟨lc_3 Ls xs h hx, List.forall_mem_cons.mpr ⟨lc_4 Ls xs h hx, List.forall_mem_cons.mpr ⟨lc_5 Ls xs h hx, List.forall_mem_cons.mpr ⟨lc_6 Ls xs h hx, List.forall_mem_cons.mpr ⟨lc_7 Ls xs h hx, List.forall_mem_cons.mpr ⟨lc_8 Ls xs h hx, List.forall_mem_cons.mpr ⟨lc_9 Ls xs h hx, List.forall_mem_cons.mpr ⟨lc_10 Ls xs h hx, List.forall_mem_cons.mpr ⟨lc_11 Ls xs h hx, List.forall_mem_cons.mpr ⟨lc_12 Ls xs h hx, List.forall_mem_cons.mpr ⟨lc_13 Ls xs h hx, List.forall_mem_cons.mpr ⟨lc_14 Ls xs h hx, List.forall_mem_cons.mpr ⟨lc_15 Ls xs h hx, List.forall_mem_cons.mpr ⟨lc_16 Ls xs h hx, List.forall_mem_cons.mpr ⟨lc_17 Ls xs h hx, List.forall_mem_cons.mpr ⟨lc_18 Ls xs h hx, List.forall_mem_cons.mpr ⟨lc_19 Ls xs h hx, List.forall_mem_cons.mpr ⟨lc_20 Ls xs h hx, List.forall_mem_cons.mpr ⟨lc_21 Ls xs h hx, List.forall_mem_cons.mpr ⟨lc_22 Ls xs h hx, List.forall_mem_cons.mpr ⟨lc_23 Ls xs h hx, List.forall_mem_cons.mpr ⟨lc_24 Ls xs h hx, List.forall_mem_cons.mpr ⟨lc_25 Ls xs h hx, List.forall_mem_cons.mpr ⟨lc_26 Ls xs h hx, List.forall_mem_cons.mpr ⟨lc_27 Ls xs h hx, List.forall_mem_cons.mpr ⟨lc_28 Ls xs h hx, List.forall_mem_cons.mpr ⟨lc_29 Ls xs h hx, List.forall_mem_cons.mpr ⟨lc_30 Ls xs h hx, List.forall_mem_cons.mpr ⟨lc_31 Ls xs h hx, List.forall_mem_cons.mpr ⟨lc_32 Ls xs h hx, List.forall_mem_cons.mpr ⟨lc_33 Ls xs h hx, List.forall_mem_cons.mpr ⟨lc_34 Ls xs h hx, List.forall_mem_cons.mpr ⟨lc_35 Ls xs h hx, List.forall_mem_cons.mpr ⟨lc_36 Ls xs h hx, List.forall_mem_cons.mpr ⟨lc_37 Ls xs h hx, List.forall_mem_nil _⟩⟩⟩⟩⟩⟩⟩⟩⟩⟩⟩⟩⟩⟩⟩⟩⟩⟩⟩⟩⟩⟩⟩⟩⟩⟩⟩⟩⟩⟩⟩⟩⟩⟩⟩⟩⟩⟩
theorem i32_6 : (6 : Int32).toInt = 6 := by decide
set_option maxRecDepth 100000 in
theorem law_loop (Ls : Nat) (xs : Nat → Int32) (hL : Ls ≤ 3072) : ∀ e i S n, Ls < i + 6 * e + 6 → i ≤ 3100 → Rel S n → ∃ T, lw_run Ls xs 11 (18, Lc i, [], hp S) = some (some (.int 1), hp T) := by
  have r18 : sx_tab (lzk_all Ls xs) 18 = si_ld sx_isI 3 19 := rfl
  have r19 : sx_tab (lzk_all Ls xs) 19 = si_ld sx_isA 0 20 := rfl
  have r20 : sx_tab (lzk_all Ls xs) 20 = si_xl Ls 21 := rfl
  have r21 : sx_tab (lzk_all Ls xs) 21 = si_c (.int 6) 23 := rfl
  have r23 : sx_tab (lzk_all Ls xs) 23 = si_b (fun x y => x - y) 24 := rfl
  have r24 : sx_tab (lzk_all Ls xs) 24 = si_i2 (fun x y => y < x) 1361 27 := rfl
  have r27 : sx_tab (lzk_all Ls xs) 27 = si_ld sx_isA 0 28 := rfl
  have r28 : sx_tab (lzk_all Ls xs) 28 = si_ld sx_isI 3 29 := rfl
  have r29 : sx_tab (lzk_all Ls xs) 29 = si_xa Ls xs 30 := rfl
  have r30 : sx_tab (lzk_all Ls xs) 30 = si_c (.int 63) 32 := rfl
  have r32 : sx_tab (lzk_all Ls xs) 32 = si_b (fun x y => x &&& y) 33 := rfl
  have r33 : sx_tab (lzk_all Ls xs) 33 = si_sw scs 1355 := rfl
  have r1355 : sx_tab (lzk_all Ls xs) 1355 = si_inc 3 6 1358 := rfl
  have r1358 : sx_tab (lzk_all Ls xs) 1358 = si_go 18 := rfl
  have r1361 : sx_tab (lzk_all Ls xs) 1361 = si_c (.int 1) 1362 := rfl
  have r1362 : sx_tab (lzk_all Ls xs) 1362 = si_rz .boolean := rfl
  have head : ∀ i S, i ≤ 3100 → lw_run Ls xs 11 (18, Lc i, [], hp S) = if Ls < i + 6 then lw_run Ls xs 11 (1361, Lc i, [], hp S) else lw_run Ls xs 11 (27, Lc i, [], hp S) := by
    intro i S hi
    rw [lw_n (s' := (19, Lc i, [.int (nI i)], hp S)) r18 rfl, lw_n (s' := (20, Lc i, [.ref 0, .int (nI i)], hp S)) r19 rfl, lw_n (s' := (21, Lc i, [.int (nI Ls), .int (nI i)], hp S)) r20 rfl, lw_n (s' := (23, Lc i, [.int 6, .int (nI Ls), .int (nI i)], hp S)) r21 rfl, lw_n (s' := (24, Lc i, [.int (nI Ls - 6), .int (nI i)], hp S)) r23 rfl]
    have c : (nI Ls - 6 < nI i) ↔ Ls < i + 6 := by
      rw [fa_lt, fb_subI (by rw [nI_toInt (show Ls < 2 ^ 31 by omega), i32_6]; omega) (by rw [nI_toInt (show Ls < 2 ^ 31 by omega), i32_6]; omega), nI_toInt (show Ls < 2 ^ 31 by omega), nI_toInt (show i < 2 ^ 31 by omega), i32_6]
      omega
    by_cases z : Ls < i + 6
    · rw [if_pos z, lw_n (s' := (1361, Lc i, [], hp S)) r24 (by show (if nI Ls - 6 < nI i then _ else _) = _; exact if_pos (c.mpr z))]
    · rw [if_neg z, lw_n (s' := (27, Lc i, [], hp S)) r24 (by show (if nI Ls - 6 < nI i then _ else _) = _; exact if_neg (fun y => z (c.mp y)))]
  have fin : ∀ i S, lw_run Ls xs 11 (1361, Lc i, [], hp S) = some (some (.int 1), hp S) := by
    intro i S
    rw [lw_n (s' := (1362, Lc i, [.int 1], hp S)) r1361 rfl, lw_q r1362]
    rfl
  have body : ∀ i S n, i + 6 ≤ Ls → Rel S n → ∃ T m, Rel T m ∧ lw_run Ls xs 11 (27, Lc i, [], hp S) = lw_run Ls xs 11 (18, Lc (i + 6), [], hp T) := by
    intro i S n hi h
    have hx : inS Ls i := fun j hj => ⟨in_nI (by omega) (by omega), by omega⟩
    obtain ⟨T, m, R, e⟩ := case_run Ls xs h hx (xs i &&& 63)
    refine ⟨T, m, R, ?_⟩
    have x0 : si_xa Ls xs 30 (Lc i) [.int (nI i), .ref 0] (hp S) = sx_nx 30 (Lc i) [.int (xs i)] (hp S) := by
      show (if sx_in (nI i) Ls = true then sx_nx 30 (Lc i) [.int (xs (nI i).toNatClampNeg)] (hp S) else none) = _
      rw [if_pos (show sx_in (nI i) Ls = true from (hx 0 (by omega)).1), nI_clamp (show i < 2 ^ 31 by omega)]
    rw [lw_n (s' := (28, Lc i, [.ref 0], hp S)) r27 rfl, lw_n (s' := (29, Lc i, [.int (nI i), .ref 0], hp S)) r28 rfl, lw_n (s' := (30, Lc i, [.int (xs i)], hp S)) r29 x0, lw_n (s' := (32, Lc i, [.int 63, .int (xs i)], hp S)) r30 rfl, lw_n (s' := (33, Lc i, [.int (xs i &&& 63)], hp S)) r32 rfl, lw_n (s' := (sx_sw scs 1355 (xs i &&& 63), Lc i, [], hp S)) r33 rfl, e]
    have i6 : si_inc 3 6 1358 (Lc i) [] (hp T) = sx_nx 1358 (Lc (i + 6)) [] (hp T) := by
      show sx_nx 1358 [some (.ref 0), some (.ref 1), some (.ref 61), some (.int (nI i + Int32.ofInt 6))] [] (hp T) = _
      have e6 : nI i + Int32.ofInt 6 = nI (i + 6) := by
        have : Int32.ofInt 6 = nI 6 := by decide
        rw [this, nI_ad]
      rw [e6]
      rfl
    rw [lw_n (s' := (1358, Lc (i + 6), [], hp T)) r1355 i6, lw_n (s' := (18, Lc (i + 6), [], hp T)) r1358 rfl]
  intro e
  induction e with
  | zero =>
    intro i S n h1 h2 h
    rw [head i S h2, if_pos (by omega), fin]
    exact ⟨S, rfl⟩
  | succ e ih =>
    intro i S n h1 h2 h
    rw [head i S h2]
    by_cases z : Ls < i + 6
    · rw [if_pos z, fin]
      exact ⟨S, rfl⟩
    · rw [if_neg z]
      obtain ⟨T, m, R, eq⟩ := body i S n (by omega) h
      rw [eq]
      exact ih (i + 6) T m (by omega) (by omega) R
theorem cK_up (f : Nat) : ∀ d k as h r, cK f d k as h = some r → cK f (d + 1) k as h = some r := by
  intro d
  induction d with
  | zero => intro k as h r e; simp [cK] at e
  | succ d ih =>
    intro k as h r e
    unfold cK at e ⊢
    by_cases z : (sx_ea as).length ≤ sx_nl k
    · rw [if_pos z] at e ⊢
      exact rN_mono ih f _ _ e
    · rw [if_neg z] at e
      cases e
theorem ci_run {Ls : Nat} {xs : Nat → Int32} {d pc kk nx b : Nat} {L : sx_Lo} {rr : List Value} {h h' : sx_H} (hc : sx_tab (lzk_all Ls xs) pc = si_ci kk 0 nx) (hl : sx_r8 rr = true) (hr : sx_call d kk [.ref b] h = some (none, h')) : lw_run Ls xs d (pc, L, .ref b :: rr, h) = lw_run Ls xs d (nx, L, rr, h') := by
  have e : si_ci kk 0 nx L (.ref b :: rr) h = sx_ca kk [.ref b] nx L rr h := by
    show (if 0 ≤ (Value.ref b :: rr).length ∧ sx_r8 rr = true then sx_ca kk [.ref b] nx L rr h else none) = _
    rw [if_pos ⟨Nat.zero_le _, hl⟩]
  rw [lw_q hc, e]
  show (sx_call d kk [.ref b] h).bind _ = _
  rw [hr]
  rfl
set_option maxRecDepth 100000 in
theorem law_start (Ls : Nat) (xs : Nat → Int32) : lw_run Ls xs 11 (0, [some (.ref 0), none, none, none], [], []) = lw_run Ls xs 11 (18, Lc 0, [], hp (xS H1)) := by
  have r0 : sx_tab (lzk_all Ls xs) 0 = si_no 11 [.null, .null, .null, .null, .int 0, .null, .null, .null, .null, .null] 3 := rfl
  have r3 : sx_tab (lzk_all Ls xs) 3 = si_dup 4 := rfl
  have r4 : sx_tab (lzk_all Ls xs) 4 = si_ci 66 0 7 := rfl
  have r7 : sx_tab (lzk_all Ls xs) 7 = si_st sx_isA 1 8 := rfl
  have r8 : sx_tab (lzk_all Ls xs) 8 = si_no 12 [.null, .null, .null, .null, .null, .int 0, .int 0, .int 0, .int 0, .int 0, .int 0, .int 0, .null, .int 0, .int 0, .int 0, .int 0, .int 0, .null, .null, .null, .null] 11 := rfl
  have r11 : sx_tab (lzk_all Ls xs) 11 = si_dup 12 := rfl
  have r12 : sx_tab (lzk_all Ls xs) 12 = si_ci 116 0 15 := rfl
  have r15 : sx_tab (lzk_all Ls xs) 15 = si_st sx_isA 2 16 := rfl
  have r16 : sx_tab (lzk_all Ls xs) 16 = si_c (.int 0) 17 := rfl
  have r17 : sx_tab (lzk_all Ls xs) 17 = si_st sx_isI 3 18 := rfl
  have k0 := cK_ok 300 11 _ _ _ _ (cK_up 300 10 _ _ _ _ (isR_out ev0))
  have k1 := cK_ok 300 11 _ _ _ _ (cK_up 300 10 _ _ _ _ (isR_out ev1))
  have l0 := len0
  have z1 : hz1 = getH (cK 300 10 66 [.ref 1] hz0) ++ [sx_co 12 [.null, .null, .null, .null, .null, .int 0, .int 0, .int 0, .int 0, .int 0, .int 0, .int 0, .null, .int 0, .int 0, .int 0, .int 0, .int 0, .null, .null, .null, .null]] := rfl
  have h1 : H1 = getH (cK 300 10 116 [.ref 61] hz1) := rfl
  rw [← h1] at k1
  rw [hp_H1]
  generalize H1 = G1 at k1 ⊢
  generalize getH (cK 300 10 66 [.ref 1] hz0) = G0 at k0 l0 z1
  have n8 : si_no 12 [.null, .null, .null, .null, .null, .int 0, .int 0, .int 0, .int 0, .int 0, .int 0, .int 0, .null, .int 0, .int 0, .int 0, .int 0, .int 0, .null, .null, .null, .null] 11 [some (.ref 0), some (.ref 1), none, none] [] G0 = sx_nx 11 [some (.ref 0), some (.ref 1), none, none] [.ref 61] hz1 := by
    unfold si_no
    rw [if_pos (by omega), l0, ← z1]
  rw [lw_n (s' := (3, [some (.ref 0), none, none, none], [.ref 1], hz0)) r0 rfl, lw_n (s' := (4, [some (.ref 0), none, none, none], [.ref 1, .ref 1], hz0)) r3 rfl, ci_run r4 rfl k0, lw_n (s' := (8, [some (.ref 0), some (.ref 1), none, none], [], G0)) r7 rfl, lw_n (s' := (11, [some (.ref 0), some (.ref 1), none, none], [.ref 61], hz1)) r8 n8, lw_n (s' := (12, [some (.ref 0), some (.ref 1), none, none], [.ref 61, .ref 61], hz1)) r11 rfl, ci_run r12 rfl k1, lw_n (s' := (16, [some (.ref 0), some (.ref 1), some (.ref 61), none], [], G1)) r15 rfl, lw_n (s' := (17, [some (.ref 0), some (.ref 1), some (.ref 61), none], [.int 0], G1)) r16 rfl, lw_n (s' := (18, Lc 0, [], G1)) r17 rfl]
theorem law_run (Ls : Nat) (xs : Nat → Int32) (hL : Ls ≤ 3072) : ∃ T, lw_run Ls xs 11 (0, [some (.ref 0), none, none, none], [], []) = some (some (.int 1), hp T) := by
  rw [law_start]
  exact law_loop Ls xs hL 600 0 (xS H1) 0 (by omega) (by omega) Rel_0
