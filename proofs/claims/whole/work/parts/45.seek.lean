/-! A WAY: seekBest -/
def wyB (B : hs_S) (t : wT) (b : Int32 × Int32) : hs_S := uF (uF (wyS B t) 47 5 b.1) 47 6 b.2
theorem wyB_eq (B : hs_S) (t : wT) (b : Int32 × Int32) : wyB B t b = wyS (uF (uF B 47 5 b.1) 47 6 b.2) t := by
  unfold wyB wyS
  rw [uF_comm _ 47 4 47 5 _ _ (by decide), uF_comm _ 47 3 47 5 _ _ (by decide), uF_comm _ 49 2 47 5 _ _ (by decide), uF_comm _ 47 4 47 6 _ _ (by decide), uF_comm _ 47 3 47 6 _ _ (by decide), uF_comm _ 49 2 47 6 _ _ (by decide)]
theorem wyB_5 (B : hs_S) (t : wT) (b : Int32 × Int32) : (wyB B t b).1 47 5 = b.1 := rfl
theorem wyB_re (B : hs_S) (t : wT) (b : Int32 × Int32) : (wyB B t b).1 47 4 = t.2.2 := rfl
theorem wyB_sh (B : hs_S) (t : wT) (b : Int32 × Int32) : (wyB B t b).1 49 2 = t.1 := rfl
theorem wyB_du (B : hs_S) (t : wT) (b : Int32 × Int32) : (wyB B t b).1 49 4 = B.1 49 4 := rfl
theorem wyB_2 (B : hs_S) (t : wT) (b : Int32 × Int32) : (wyB B t b).2 = B.2 := rfl
theorem wyB_put (B : hs_S) (t : wT) (b : Int32 × Int32) (u v : Int32) : uF (uF (wyB B t b) 47 5 u) 47 6 v = wyB B t (u, v) := by
  unfold wyB
  rw [uF_comm _ 47 6 47 5 _ _ (by decide), uF_uF, uF_uF]
theorem wsB_b (B : hs_S) (b : Int32 × Int32) : wsB (uF (uF B 47 5 b.1) 47 6 b.2) = wsB B := rfl
theorem sp_passHourB (d : Nat) (B : hs_S) (t : wT) (b : Int32 × Int32) (hk : B.2.2.2 49 < 6) (hx : 0 ≤ t.2.1) (hx1 : 0 ≤ t.2.1 + 1) : sx_call (d + 5) 62 [.ref 47] (hp (wyB B t b)) = some (none, hp (wyB B (wsB B t) b)) := by
  rw [wyB_eq, wyB_eq, sp_Way_passHour d (uF (uF B 47 5 b.1) 47 6 b.2) t hk hx hx1, wsB_b]
def wgV (k : Nat) (sh du pr : Int32) : Int32 := if sh = 0 then 0 else worthF k sh du pr
theorem sp_Way_weigh (d : Nat) (B : hs_S) (t : wT) (b : Int32 × Int32) (pr sp : Int32) (hk : B.2.2.2 49 < 6) : sx_call (d + 3) 65 [.ref 47, .int pr, .int sp] (hp (wyB B t b)) = some (none, hp (wyB B t (if wgV (B.2.2.2 49) t.1 (B.1 49 4) pr ≤ b.1 then b else (wgV (B.2.2.2 49) t.1 (B.1 49 4) pr, sp)))) := by
  rw [cz65]
  have c49 : isCar 49 = true := rfl
  have v := fun f => vd_worth d (wyB B t b) (B.2.2.2 49) 49 pr f c49 hk
  unfold wgV
  by_cases h0 : t.1 = 0
  · simp only [ez65_0, ez65_1, ez65_4, ez65_7, ez65_10, ez65_11, ez65_14, ez65_15, ez65_18, ez65_21, ez65_22, ez65_25, ez65_26, ez65_29, ez65_30, GF_47_0, GC_0 _ c49, GC_2 _ c49, Option.bind_some, wyB_sh, h0, not_true, if_false, if_true, ez65_31, ez65_32, ez65_35, GF_47_5, wyB_5]
    by_cases h1 : 0 ≤ b.1
    · simp only [if_pos h1, ez65_48]
    · simp only [if_neg h1, ez65_38, ez65_39, ez65_40, ez65_43, ez65_44, ez65_45, ez65_48, PF_47_5, PF_47_6, Option.bind_some, wyB_put]
  · simp only [ez65_0, ez65_1, ez65_4, ez65_7, ez65_10, ez65_11, ez65_14, ez65_15, ez65_18, ez65_21, ez65_22, ez65_25, ez65_26, ez65_29, ez65_30, GF_47_0, GC_0 _ c49, GC_2 _ c49, Option.bind_some, wyB_sh, h0, not_false_iff, if_false, if_true, wyB_2, v, tl_s, wyB_du, ez65_31, ez65_32, ez65_35, GF_47_5, wyB_5]
    by_cases h1 : worthF (B.2.2.2 49) t.1 (B.1 49 4) pr ≤ b.1
    · simp only [if_pos h1, ez65_48]
    · simp only [if_neg h1, ez65_38, ez65_39, ez65_40, ez65_43, ez65_44, ez65_45, ez65_48, PF_47_5, PF_47_6, Option.bind_some, wyB_put]
/-- the best after the first p places of one hour -/
def wgP (k : Nat) (du : Int32) (pr : Nat → Int32) (t : wT) (hs : Int32) (b : Int32 × Int32) : Nat → Int32 × Int32
  | 0 => b
  | p + 1 => if t.2.2 &&& ((1 : Int32) <<< (nI p &&& 31)) = 0 then wgP k du pr t hs b p else if wgV k t.1 du (pr p) ≤ (wgP k du pr t hs b p).1 then wgP k du pr t hs b p else (wgV k t.1 du (pr p), 100 * hs + nI p)
theorem wg_loop (d : Nat) (B : hs_S) (t : wT) (b : Int32 × Int32) (hs : Int32) (l2 : Option Value) (hk : B.2.2.2 49 < 6) (R : Option sx_R) (hR : ∀ l4, sx_run (d + 3) 64 (7, [some (.ref 47), some (.ref 11), l2, some (.int (hs + 1)), l4], [], hp (wyB B t (wgP (B.2.2.2 49) (B.1 49 4) (B.2.1 13) t hs b 16))) = R) : ∀ m p, p + m = 16 → sx_run (d + 3) 64 (23, [some (.ref 47), some (.ref 11), l2, some (.int hs), some (.int (nI p))], [], hp (wyB B t (wgP (B.2.2.2 49) (B.1 49 4) (B.2.1 13) t hs b p))) = R := by
  intro m
  induction m with
  | zero =>
    intro p hp0
    have e : p = 16 := by omega
    subst e
    rw [ez64_23]
    simp only [ez64_25, ez64_27, if_pos (show (16 : Int32) ≤ nI 16 by decide), ez64_66, ez64_69]
    exact hR _
  | succ m ih =>
    intro p hp0
    have i := ih (p + 1) (by omega)
    rw [ez64_23]
    simp only [ez64_25, ez64_27, ez64_30, ez64_31, ez64_34, ez64_35, ez64_37, ez64_38, if_neg (ge16 (n := 16) rfl (show p < 16 by omega)), GF_47_4, wyB_re, Option.bind_some, ez64_39]
    unfold wgP at i
    by_cases h : t.2.2 &&& ((1 : Int32) <<< (nI p &&& 31)) = 0
    · rw [if_pos h] at i ⊢
      simp only [ez64_60, ez64_63, nI_1]
      exact i
    · rw [if_neg h] at i ⊢
      simp only [ez64_42, ez64_43, ez64_44, ez64_47, ez64_49, ez64_50, ez64_52, ez64_53, ez64_54, ez64_56, ez64_57, ez64_60, ez64_63, GF_11_1, GI_13, in16 (show p < 16 by omega), if_true, Option.bind_some, nI_clamp (show p < 2 ^ 31 by omega), wyB_2, KL_47, sp_Way_weigh d B t _ _ _ hk, tl_n, nI_1]
      exact i
def itW (st : wT → wT) (t : wT) : Nat → wT
  | 0 => t
  | j + 1 => st (itW st t j)
def skB (k : Nat) (du : Int32) (pr : Nat → Int32) (st : wT → wT) (t : wT) (b : Int32 × Int32) : Nat → Int32 × Int32
  | 0 => b
  | j + 1 => wgP k du pr (itW st t j) (nI j) (skB k du pr st t b j) 16
theorem itW_x (B : hs_S) (t : wT) (X : Nat) (hx : t.2.1 = nI X) : ∀ j, (itW (wsB B) t j).2.1 = nI (X + j)
  | 0 => hx
  | j + 1 => by
    show (itW (wsB B) t j).2.1 + 1 = _
    rw [itW_x B t X hx j, nI_1]
    rfl
theorem sk_loop (d : Nat) (B : hs_S) (t : wT) (b : Int32 × Int32) (X n : Nat) (hn : n ≤ 48) (hk : B.2.2.2 49 < 6) (hx : t.2.1 = nI X) (hX : X ≤ 150000) : ∀ m j l4, j + m = n + 1 → sx_run (d + 5) 64 (7, [some (.ref 47), some (.ref 11), some (.int (nI n)), some (.int (nI j)), l4], [], hp (wyB B (itW (wsB B) t (j - 1)) (skB (B.2.2.2 49) (B.1 49 4) (B.2.1 13) (wsB B) t b j))) = some (none, hp (wyB B (itW (wsB B) t n) (skB (B.2.2.2 49) (B.1 49 4) (B.2.1 13) (wsB B) t b (n + 1)))) := by
  intro m
  induction m with
  | zero =>
    intro j l4 hj
    have e : j = n + 1 := by omega
    subst e
    rw [ez64_7]
    simp only [ez64_8, ez64_9, if_pos (nI_lt (show n < n + 1 by omega) (by omega)), ez64_72, Nat.add_sub_cancel]
  | succ m ih =>
    intro j l4 hj
    rw [ez64_7]
    simp only [ez64_8, ez64_9, ez64_12, ez64_13, if_neg (nI_nlt (show j ≤ n by omega) (by omega))]
    have key : sx_run (d + 5) 64 (23, [some (.ref 47), some (.ref 11), some (.int (nI n)), some (.int (nI j)), some (.int (nI 0))], [], hp (wyB B (itW (wsB B) t j) (skB (B.2.2.2 49) (B.1 49 4) (B.2.1 13) (wsB B) t b j))) = some (none, hp (wyB B (itW (wsB B) t n) (skB (B.2.2.2 49) (B.1 49 4) (B.2.1 13) (wsB B) t b (n + 1)))) := by
      refine wg_loop (d + 2) B (itW (wsB B) t j) (skB (B.2.2.2 49) (B.1 49 4) (B.2.1 13) (wsB B) t b j) (nI j) _ hk _ (fun l => ?_) 16 0 (by omega)
      have i := ih (j + 1) l (by omega)
      rw [Nat.add_sub_cancel] at i
      rw [nI_1]
      exact i
    cases j with
    | zero =>
      simp only [if_pos (show nI 0 ≤ 0 by decide), ez64_20, ez64_21]
      exact key
    | succ j =>
      have x := itW_x B t X hx j
      have ps := sp_passHourB d B (itW (wsB B) t j) (skB (B.2.2.2 49) (B.1 49 4) (B.2.1 13) (wsB B) t b (j + 1)) hk (by rw [x]; exact nI_pos' (by omega)) (by rw [x, nI_1]; exact nI_pos' (by omega))
      simp only [if_neg (nI_nle (show 0 < j + 1 by omega) (by omega)), ez64_16, ez64_17, ez64_20, ez64_21, Nat.add_sub_cancel, KL_47, if_true, ps, Option.bind_some, tl_n]
      exact key
theorem sp_Way_seekBest (d : Nat) (B : hs_S) (t : wT) (X n : Nat) (hn : n ≤ 48) (hk : B.2.2.2 49 < 6) (hx : t.2.1 = nI X) (hX : X ≤ 150000) : sx_call (d + 6) 64 [.ref 47, .ref 11, .int (nI n)] (hp (wyS B t)) = some (none, hp (wyB B (itW (wsB B) t n) (skB (B.2.2.2 49) (B.1 49 4) (B.2.1 13) (wsB B) t (-1, B.1 47 6) (n + 1)))) := by
  rw [cz64]
  have e : uF (wyS B t) 47 5 (-1) = wyB B t (-1, B.1 47 6) := by
    unfold wyB
    refine Prod.ext ?_ rfl
    funext b j
    rw [uF_1 _ 47 6]
    by_cases h : b = 47 ∧ j = 6
    · rw [if_pos h, h.1, h.2]
      rfl
    · rw [if_neg h]
  simp only [ez64_0, ez64_1, ez64_2, ez64_5, ez64_6, PF_47_5, Option.bind_some, e]
  exact sk_loop d B t (-1, B.1 47 6) X n hn hk hx hX (n + 1) 0 none (by omega)
