/-! THE RUN by its equations -/
noncomputable def sx_call (d : Nat) : sx_CL := sx_cN sx_cd sx_nl d
noncomputable def sx_run (d k : Nat) (q : sx_St) : Option sx_R := sx_rn (sx_cd k) (sx_call d) q
theorem er_call {d k : Nat} {as : List Value} {h : sx_H} {L : sx_Lo} (hl : (sx_ea as).length ≤ sx_nl k) (he : sx_en (sx_nl k) as = L) : sx_call (d + 1) k as h = sx_run d k (0, L, [], h) := by
  subst he
  unfold sx_call
  rw [sx_cN, if_pos hl]
  rfl
theorem sx_ca9 {k pc : Nat} {tb : List (Nat × sx_I)} {i : sx_I} (h : sx_cd k = sx_tab tb) (h2 : tb.lookup pc = some i) : sx_cd k pc = i := by
  rw [h]
  unfold sx_tab
  rw [h2]
section ER
variable {d k pc : Nat} {L : sx_Lo} {st : List Value} {h : sx_H}
theorem sx_rq {i : sx_I} (hc : sx_cd k pc = i) : sx_run d k (pc, L, st, h) = match i L st h with
    | none => none
    | some (.inl r) => some r
    | some (.inr (.inl s')) => sx_run d k s'
    | some (.inr (.inr q)) => (sx_call d q.1 q.2.1 q.2.2.2.2.2).bind fun r => sx_run d k (sx_bk r q.2.2) := by
  subst hc
  exact sx_rn_eq (sx_cd k) (sx_call d) (pc, L, st, h)
theorem er_c {v : Value} {nx : Nat} (hc : sx_cd k pc = si_c v nx) : sx_run d k (pc, L, st, h) = sx_run d k (nx, L, v :: st, h) := by
  rw [sx_rq hc]
  rfl
theorem er_ld {t : Value → Bool} {i nx : Nat} {v : Value} (hc : sx_cd k pc = si_ld t i nx) (hl : L[i]? = some (some v)) (ht : t v = true) : sx_run d k (pc, L, st, h) = sx_run d k (nx, L, v :: st, h) := by
  rw [sx_rq hc]
  simp only [si_ld, hl, ht, if_true, sx_nx]
theorem er_lj {i nx : Nat} {x : Int64} (hc : sx_cd k pc = si_lj i nx) (hl : L[i]? = some (some (.long x))) (h2 : L[i + 1]? = some none) : sx_run d k (pc, L, st, h) = sx_run d k (nx, L, .long x :: st, h) := by
  rw [sx_rq hc]
  simp only [si_lj, hl, h2, sx_nx]
theorem er_st {t : Value → Bool} {i nx : Nat} {L' : sx_Lo} {v : Value} (hc : sx_cd k pc = si_st t i nx) (ht : t v = true) (hi : i < L.length) (hL : L.set i (some v) = L') : sx_run d k (pc, L, v :: st, h) = sx_run d k (nx, L', st, h) := by
  subst hL
  rw [sx_rq hc]
  simp only [si_st, ht, hi, and_self, if_true, sx_nx]
theorem er_sj {i nx : Nat} {L' : sx_Lo} {x : Int64} (hc : sx_cd k pc = si_sj i nx) (hi : i + 1 < L.length) (hL : (L.set i (some (.long x))).set (i + 1) none = L') : sx_run d k (pc, L, .long x :: st, h) = sx_run d k (nx, L', st, h) := by
  subst hL
  rw [sx_rq hc]
  simp only [si_sj, hi, if_true, sx_nx]
theorem er_inc {i nx : Nat} {L' : sx_Lo} {n : Int} {x m : Int32} (hc : sx_cd k pc = si_inc i n nx) (hl : L[i]? = some (some (.int x))) (hm : Int32.ofInt n = m) (hL : L.set i (some (.int (x + m))) = L') : sx_run d k (pc, L, st, h) = sx_run d k (nx, L', st, h) := by
  subst hL
  rw [sx_rq hc]
  simp only [si_inc, hl, hm, sx_nx]
theorem er_u {f : Int32 → Value} {nx : Nat} {x : Int32} (hc : sx_cd k pc = si_u f nx) : sx_run d k (pc, L, .int x :: st, h) = sx_run d k (nx, L, f x :: st, h) := by
  rw [sx_rq hc]
  rfl
theorem er_l2i {nx : Nat} {x : Int64} (hc : sx_cd k pc = si_l2i nx) : sx_run d k (pc, L, .long x :: st, h) = sx_run d k (nx, L, .int x.toInt32 :: st, h) := by
  rw [sx_rq hc]
  rfl
theorem er_b {f : Int32 → Int32 → Int32} {nx : Nat} {x y : Int32} (hc : sx_cd k pc = si_b f nx) : sx_run d k (pc, L, .int y :: .int x :: st, h) = sx_run d k (nx, L, .int (f x y) :: st, h) := by
  rw [sx_rq hc]
  rfl
theorem er_d {f : Int32 → Int32 → Int32} {nx : Nat} {x y : Int32} (hc : sx_cd k pc = si_d f nx) : sx_run d k (pc, L, .int y :: .int x :: st, h) = if y = 0 then none else sx_run d k (nx, L, .int (f x y) :: st, h) := by
  rw [sx_rq hc]
  simp only [si_d]
  by_cases qq : y = 0
  · rw [if_pos qq, if_pos qq] <;> rfl
  · rw [if_neg qq, if_neg qq] <;> rfl
theorem er_bj {f : Int64 → Int64 → Value} {nx : Nat} {x y : Int64} (hc : sx_cd k pc = si_bj f nx) : sx_run d k (pc, L, .long y :: .long x :: st, h) = sx_run d k (nx, L, f x y :: st, h) := by
  rw [sx_rq hc]
  rfl
theorem er_lsh {nx : Nat} {x : Int64} {y : Int32} (hc : sx_cd k pc = si_lsh nx) : sx_run d k (pc, L, .int y :: .long x :: st, h) = sx_run d k (nx, L, .long (x <<< (y.toInt64 &&& 63)) :: st, h) := by
  rw [sx_rq hc]
  rfl
theorem er_i1 {c : Int32 → Prop} [∀ x, Decidable (c x)] {t nx : Nat} {x : Int32} (hc : sx_cd k pc = si_i1 c t nx) : sx_run d k (pc, L, .int x :: st, h) = if c x then sx_run d k (t, L, st, h) else sx_run d k (nx, L, st, h) := by
  rw [sx_rq hc]
  simp only [si_i1]
  by_cases qq : c x
  · rw [if_pos qq, if_pos qq] <;> rfl
  · rw [if_neg qq, if_neg qq] <;> rfl
theorem er_i2 {c : Int32 → Int32 → Prop} [∀ x y, Decidable (c x y)] {t nx : Nat} {x y : Int32} (hc : sx_cd k pc = si_i2 c t nx) : sx_run d k (pc, L, .int y :: .int x :: st, h) = if c x y then sx_run d k (t, L, st, h) else sx_run d k (nx, L, st, h) := by
  rw [sx_rq hc]
  simp only [si_i2]
  by_cases qq : c x y
  · rw [if_pos qq, if_pos qq] <;> rfl
  · rw [if_neg qq, if_neg qq] <;> rfl
theorem er_go {t : Nat} (hc : sx_cd k pc = si_go t) : sx_run d k (pc, L, st, h) = sx_run d k (t, L, st, h) := by
  rw [sx_rq hc]
  rfl
theorem er_ifn {t nx x : Nat} (hc : sx_cd k pc = si_ifn t nx) : sx_run d k (pc, L, .ref x :: st, h) = sx_run d k (nx, L, st, h) := by
  rw [sx_rq hc]
  rfl
theorem er_ifnN {t nx : Nat} (hc : sx_cd k pc = si_ifn t nx) : sx_run d k (pc, L, .null :: st, h) = sx_run d k (t, L, st, h) := by
  rw [sx_rq hc]
  rfl
theorem er_acn {t nx x y : Nat} (hc : sx_cd k pc = si_acn t nx) : sx_run d k (pc, L, .ref y :: .ref x :: st, h) = if (0 < x ∧ x ≤ 900) ∧ (0 < y ∧ y ≤ 900) then (if x = y then sx_run d k (nx, L, st, h) else sx_run d k (t, L, st, h)) else none := by
  rw [sx_rq hc]
  simp only [si_acn]
  by_cases qq : (0 < x ∧ x ≤ 900) ∧ (0 < y ∧ y ≤ 900)
  · rw [if_pos qq, if_pos qq]
    by_cases q2 : x = y
    · rw [if_pos q2, if_pos q2]; rfl
    · rw [if_neg q2, if_neg q2]; rfl
  · rw [if_neg qq, if_neg qq]
theorem er_sw {cs : List (Int32 × Nat)} {dd : Nat} {x : Int32} (hc : sx_cd k pc = si_sw cs dd) : sx_run d k (pc, L, .int x :: st, h) = sx_run d k (sx_sw cs dd x, L, st, h) := by
  rw [sx_rq hc]
  rfl
theorem er_dup {nx : Nat} {v : Value} (hc : sx_cd k pc = si_dup nx) (hv : sx_c1 v = true) : sx_run d k (pc, L, v :: st, h) = sx_run d k (nx, L, v :: v :: st, h) := by
  rw [sx_rq hc]
  simp only [si_dup, hv, if_true, sx_nx]
theorem er_dp2 {nx : Nat} {v w : Value} (hc : sx_cd k pc = si_dp2 nx) (hv : sx_c1 v = true) (hw : sx_c1 w = true) : sx_run d k (pc, L, v :: w :: st, h) = sx_run d k (nx, L, v :: w :: v :: w :: st, h) := by
  rw [sx_rq hc]
  simp only [si_dp2, hv, hw, and_self, if_true, sx_nx]
theorem er_pop {nx : Nat} {v : Value} (hc : sx_cd k pc = si_pop nx) (hv : sx_c1 v = true) : sx_run d k (pc, L, v :: st, h) = sx_run d k (nx, L, st, h) := by
  rw [sx_rq hc]
  simp only [si_pop, hv, if_true, sx_nx]
theorem er_gf {cs : List Nat} {kk nx x : Nat} (hc : sx_cd k pc = si_gf cs kk nx) : sx_run d k (pc, L, .ref x :: st, h) = (sx_gf h x cs kk).bind fun v => sx_run d k (nx, L, v :: st, h) := by
  rw [sx_rq hc]
  simp only [si_gf]
  cases sx_gf h x cs kk <;> rfl
theorem er_pf {t : Value → Bool} {cs : List Nat} {kk nx x : Nat} {v : Value} (hc : sx_cd k pc = si_pf t cs kk nx) (ht : t v = true) : sx_run d k (pc, L, v :: .ref x :: st, h) = (sx_pf h x cs kk v).bind fun h' => sx_run d k (nx, L, st, h') := by
  rw [sx_rq hc]
  simp only [si_pf, ht, if_true]
  cases sx_pf h x cs kk v <;> rfl
theorem er_pfB {t : Value → Bool} {cs : List Nat} {kk nx x : Nat} {v : Value} (hc : sx_cd k pc = si_pf t cs kk nx) : sx_run d k (pc, L, v :: .ref x :: st, h) = if t v = true then (sx_pf h x cs kk v).bind (fun h' => sx_run d k (nx, L, st, h')) else none := by
  rw [sx_rq hc]
  simp only [si_pf]
  by_cases qq : t v = true
  · rw [if_pos qq, if_pos qq]
    cases sx_pf h x cs kk v <;> rfl
  · rw [if_neg qq, if_neg qq]
theorem er_ia {nx x : Nat} {i : Int32} (hc : sx_cd k pc = si_ia nx) : sx_run d k (pc, L, .int i :: .ref x :: st, h) = (sx_gi h x i).bind fun v => sx_run d k (nx, L, .int v :: st, h) := by
  rw [sx_rq hc]
  simp only [si_ia]
  cases sx_gi h x i <;> rfl
theorem er_ja {nx x : Nat} {i : Int32} (hc : sx_cd k pc = si_ja nx) : sx_run d k (pc, L, .int i :: .ref x :: st, h) = (sx_gj h x i).bind fun v => sx_run d k (nx, L, .long v :: st, h) := by
  rw [sx_rq hc]
  simp only [si_ja]
  cases sx_gj h x i <;> rfl
theorem er_qa {nx x : Nat} {i : Int32} (hc : sx_cd k pc = si_qa nx) : sx_run d k (pc, L, .int i :: .ref x :: st, h) = (sx_gq h x i).bind fun v => sx_run d k (nx, L, v :: st, h) := by
  rw [sx_rq hc]
  simp only [si_qa]
  cases sx_gq h x i <;> rfl
theorem er_is {nx x : Nat} {i v : Int32} (hc : sx_cd k pc = si_is nx) : sx_run d k (pc, L, .int v :: .int i :: .ref x :: st, h) = (sx_pi h x i v).bind fun h' => sx_run d k (nx, L, st, h') := by
  rw [sx_rq hc]
  simp only [si_is]
  cases sx_pi h x i v <;> rfl
theorem er_js {nx x : Nat} {i : Int32} {v : Int64} (hc : sx_cd k pc = si_js nx) : sx_run d k (pc, L, .long v :: .int i :: .ref x :: st, h) = (sx_pj h x i v).bind fun h' => sx_run d k (nx, L, st, h') := by
  rw [sx_rq hc]
  simp only [si_js]
  cases sx_pj h x i v <;> rfl
theorem er_qs {cs : List (Nat × Nat)} {nx x v : Nat} {i : Int32} (hc : sx_cd k pc = si_qs cs nx) : sx_run d k (pc, L, .ref v :: .int i :: .ref x :: st, h) = (sx_pq h cs x i v).bind fun h' => sx_run d k (nx, L, st, h') := by
  rw [sx_rq hc]
  simp only [si_qs]
  cases sx_pq h cs x i v <;> rfl
theorem er_len {nx x : Nat} (hc : sx_cd k pc = si_len nx) : sx_run d k (pc, L, .ref x :: st, h) = (sx_al h x).bind fun n => sx_run d k (nx, L, .int n :: st, h) := by
  rw [sx_rq hc]
  simp only [si_len]
  cases sx_al h x <;> rfl
theorem er_no {kk nx : Nat} {fs : List Value} (hc : sx_cd k pc = si_no kk fs nx) : sx_run d k (pc, L, st, h) = if h.length < 900 then sx_run d k (nx, L, .ref (h.length + 1) :: st, (h ++ [sx_co kk fs])) else none := by
  rw [sx_rq hc]
  simp only [si_no]
  by_cases qq : h.length < 900
  · rw [if_pos qq, if_pos qq] <;> rfl
  · rw [if_neg qq, if_neg qq] <;> rfl
theorem er_ni {nx : Nat} {n : Int32} (hc : sx_cd k pc = si_ni nx) : sx_run d k (pc, L, .int n :: st, h) = if sx_nn n = true ∧ h.length < 900 then sx_run d k (nx, L, .ref (h.length + 1) :: st, (h ++ [sx_ci n.toNatClampNeg (fun _ => 0)])) else none := by
  rw [sx_rq hc]
  simp only [si_ni]
  by_cases qq : sx_nn n = true ∧ h.length < 900
  · rw [if_pos qq, if_pos qq] <;> rfl
  · rw [if_neg qq, if_neg qq] <;> rfl
theorem er_nj {nx : Nat} {n : Int32} (hc : sx_cd k pc = si_nj nx) : sx_run d k (pc, L, .int n :: st, h) = if sx_nn n = true ∧ h.length < 900 then sx_run d k (nx, L, .ref (h.length + 1) :: st, (h ++ [sx_cj n.toNatClampNeg (fun _ => 0)])) else none := by
  rw [sx_rq hc]
  simp only [si_nj]
  by_cases qq : sx_nn n = true ∧ h.length < 900
  · rw [if_pos qq, if_pos qq] <;> rfl
  · rw [if_neg qq, if_neg qq] <;> rfl
theorem er_nq {t nx : Nat} {n : Int32} (hc : sx_cd k pc = si_nq t nx) : sx_run d k (pc, L, .int n :: st, h) = if sx_nn n = true ∧ h.length < 900 then sx_run d k (nx, L, .ref (h.length + 1) :: st, (h ++ [sx_cq t n.toNatClampNeg (fun _ => none)])) else none := by
  rw [sx_rq hc]
  simp only [si_nq]
  by_cases qq : sx_nn n = true ∧ h.length < 900
  · rw [if_pos qq, if_pos qq] <;> rfl
  · rw [if_neg qq, if_neg qq] <;> rfl
theorem er_oi {nx x : Nat} (hc : sx_cd k pc = si_oi nx) (hl : st.length ≤ 4) : sx_run d k (pc, L, .ref x :: st, h) = sx_run d k (nx, L, st, h) := by
  rw [sx_rq hc]
  simp only [si_oi, hl, if_true, sx_nx]
theorem er_ac {nx x b : Nat} {n dp sp : Int32} (hc : sx_cd k pc = si_ac nx) (hl : st.length ≤ 4) : sx_run d k (pc, L, .int n :: .int dp :: .ref b :: .int sp :: .ref x :: st, h) = (sx_ac h x sp b dp n).bind fun h' => sx_run d k (nx, L, st, h') := by
  rw [sx_rq hc]
  simp only [si_ac, hl, if_true]
  cases sx_ac h x sp b dp n <;> rfl
theorem er_cs {kk n nx : Nat} {as rr : List Value} (hc : sx_cd k pc = si_cs kk n nx) (hl : (n ≤ st.length ∧ sx_r8 (st.drop n) = true) ∧ True) (he : (st.take n).reverse = as ∧ st.drop n = rr) : sx_run d k (pc, L, st, h) = (sx_call d kk as h).bind fun r => sx_run d k (nx, L, r.1.toList ++ rr, r.2) := by
  rw [sx_rq hc]
  obtain ⟨rfl, rfl⟩ := he
  simp only [si_cs, hl.1, and_self, if_true, sx_ca]
  rfl
theorem er_ci {kk n nx b : Nat} {as rr : List Value} (hc : sx_cd k pc = si_ci kk n nx) (hd : st.drop n = .ref b :: rr) (hl : (n ≤ st.length ∧ sx_r8 rr = true) ∧ (st.take n).reverse = as) : sx_run d k (pc, L, st, h) = (sx_call d kk (.ref b :: as) h).bind fun r => sx_run d k (nx, L, r.1.toList ++ rr, r.2) := by
  rw [sx_rq hc]
  obtain ⟨hl, rfl⟩ := hl
  simp only [si_ci, hd, hl, and_self, if_true, sx_ca]
  rfl
theorem er_cw {kk n nx b : Nat} {as rr : List Value} (hc : sx_cd k pc = si_cw kk n nx) (hd : st.drop n = .ref b :: rr) (hl : (n ≤ st.length ∧ sx_r8 rr = true) ∧ (st.take n).reverse = as) : sx_run d k (pc, L, st, h) = if 1000 ≤ b ∧ b < 1014 then (sx_call d kk (.ref b :: as) h).bind (fun r => sx_run d k (nx, L, r.1.toList ++ rr, r.2)) else none := by
  rw [sx_rq hc]
  obtain ⟨hl, rfl⟩ := hl
  simp only [si_cw, hd, hl, and_self, true_and, sx_ca]
  by_cases qq : 1000 ≤ b ∧ b < 1014
  · rw [if_pos qq, if_pos qq] <;> rfl
  · rw [if_neg qq, if_neg qq] <;> rfl
theorem er_cv {tb : List (Nat × Nat)} {n nx b : Nat} {as rr : List Value} (hc : sx_cd k pc = si_cv tb n nx) (hd : st.drop n = .ref b :: rr) (hl : (n ≤ st.length ∧ sx_r8 rr = true) ∧ (st.take n).reverse = as) : sx_run d k (pc, L, st, h) = ((sx_kl h b).bind (fun c => List.lookup c tb)).bind fun kk => (sx_call d kk (.ref b :: as) h).bind (fun r => sx_run d k (nx, L, r.1.toList ++ rr, r.2)) := by
  rw [sx_rq hc]
  obtain ⟨hl, rfl⟩ := hl
  simp only [si_cv, hd, hl, and_self, if_true, sx_ca]
  cases (sx_kl h b).bind (fun c => List.lookup c tb) <;> rfl
theorem er_cv1 {ci kk n nx b : Nat} {as rr : List Value} (hc : sx_cd k pc = si_cv [(ci, kk)] n nx) (hd : st.drop n = .ref b :: rr) (hl : (n ≤ st.length ∧ sx_r8 rr = true) ∧ (st.take n).reverse = as) : sx_run d k (pc, L, st, h) = if sx_kl h b = some ci then (sx_call d kk (.ref b :: as) h).bind (fun r => sx_run d k (nx, L, r.1.toList ++ rr, r.2)) else none := by
  rw [sx_rq hc]
  rw [← sx_rq hc, er_cv hc hd hl]
  cases hk : sx_kl h b with
  | none => rfl
  | some c =>
    by_cases e : c = ci
    · subst e
      simp [List.lookup]
    · have e2 : ¬ (some c = some ci) := fun z => e (Option.some.inj z)
      have e3 : (c == ci) = false := by simpa using e
      simp [List.lookup, e2, e3]
theorem er_ri {x : Int32} (hc : sx_cd k pc = si_ri) : sx_run d k (pc, L, [.int x], h) = some (some (.int x), h) := by
  rw [sx_rq hc]
  rfl
theorem er_rz {ty : FieldType} {x : Int32} (hc : sx_cd k pc = si_rz ty) : sx_run d k (pc, L, [.int x], h) = if narrow ty (.int x) = .int x then some (some (.int x), h) else none := by
  rw [sx_rq hc]
  simp only [si_rz]
  by_cases qq : narrow ty (.int x) = .int x
  · rw [if_pos qq, if_pos qq] <;> rfl
  · rw [if_neg qq, if_neg qq] <;> rfl
theorem er_rj {x : Int64} (hc : sx_cd k pc = si_rj) : sx_run d k (pc, L, [.long x], h) = some (some (.long x), h) := by
  rw [sx_rq hc]
  rfl
theorem er_rv (hc : sx_cd k pc = si_rv) : sx_run d k (pc, L, [], h) = some (none, h) := by
  rw [sx_rq hc]
  rfl
theorem er_sv {nx x : Nat} (hc : sx_cd k pc = si_sv nx) : sx_run d k (pc, L, .ref x :: st, h) = if 1000 ≤ x ∧ x < 1014 then sx_run d k (nx, L, .ref (x + 100) :: st, h) else none := by
  rw [sx_rq hc]
  simp only [si_sv]
  by_cases qq : 1000 ≤ x ∧ x < 1014
  · rw [if_pos qq, if_pos qq] <;> rfl
  · rw [if_neg qq, if_neg qq] <;> rfl
theorem er_sk {nx x : Nat} (hc : sx_cd k pc = si_sk nx) : sx_run d k (pc, L, .ref x :: st, h) = if 1000 ≤ x ∧ x < 1014 then sx_run d k (nx, L, .int 0 :: st, h) else none := by
  rw [sx_rq hc]
  simp only [si_sk]
  by_cases qq : 1000 ≤ x ∧ x < 1014
  · rw [if_pos qq, if_pos qq] <;> rfl
  · rw [if_neg qq, if_neg qq] <;> rfl
theorem er_sl {nx x : Nat} (hc : sx_cd k pc = si_sl nx) : sx_run d k (pc, L, .ref x :: st, h) = if 1100 ≤ x ∧ x < 1114 then sx_run d k (nx, L, .int (Int32.ofNat (sx_slen.getD (x - 1100) 0)) :: st, h) else none := by
  rw [sx_rq hc]
  simp only [si_sl]
  by_cases qq : 1100 ≤ x ∧ x < 1114
  · rw [if_pos qq, if_pos qq] <;> rfl
  · rw [if_neg qq, if_neg qq] <;> rfl
theorem er_ba {nx x : Nat} {i : Int32} (hc : sx_cd k pc = si_ba nx) : sx_run d k (pc, L, .int i :: .ref x :: st, h) = if (1100 ≤ x ∧ x < 1114) ∧ sx_in i (sx_slen.getD (x - 1100) 0) = true then sx_run d k (nx, L, .int ((sx_sbyt.getD (x - 1100) []).getD i.toNatClampNeg 0) :: st, h) else none := by
  rw [sx_rq hc]
  simp only [si_ba]
  by_cases qq : (1100 ≤ x ∧ x < 1114) ∧ sx_in i (sx_slen.getD (x - 1100) 0) = true
  · rw [if_pos qq, if_pos qq] <;> rfl
  · rw [if_neg qq, if_neg qq] <;> rfl
end ER
