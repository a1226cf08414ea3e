/-! THE HEAP of the two objects, by a state: ints by object and field, int rows, long rows, kinds of carriers -/
abbrev hs_S : Type := (Nat → Nat → Int32) × (Nat → Nat → Int32) × (Nat → Nat → Int64) × (Nat → Nat)
def hs_v (S : hs_S) (a k d : Nat) : Value := if d = 0 then .int (S.1 a k) else if d = 1 then .ref (5 + S.2.2.2 a) else if d = 2 then .null else if d < 5000 then .ref (d - 3) else .int (Int32.ofNat (d - 5000))
def hs_f (S : hs_S) (a : Nat) : Nat → List Nat → List Value
  | _, [] => []
  | k, d :: r => hs_v S a k d :: hs_f S a (k + 1) r
def hs_c (S : hs_S) (a : Nat) (e : Nat × Nat × List Nat) : sx_Cl := if e.1 = 0 then sx_ci e.2.1 (S.2.1 a) else if e.1 = 1 then sx_cj e.2.1 (S.2.2.1 a) else if e.1 < 10 then sx_cq (e.1 - 2) e.2.1 (fun j => e.2.2[j]?) else sx_co (e.1 - 10) (hs_f S a 0 e.2.2)
def hs_m (S : hs_S) : Nat → List (Nat × Nat × List Nat) → sx_H
  | _, [] => []
  | a, e :: r => hs_c S a e :: hs_m S (a + 1) r
def hs_sh : List (Nat × Nat × List Nat) := [(21, 10, [5, 14, 26, 38, 0, 50, 53, 54, 6, 7]), (3, 6, [5, 6, 7, 8, 9, 10]), (4, 4, [53, 55, 57, 59]), (0, 7, []), (15, 3, [5000, 1003, 2]), (14, 3, [5001, 1004, 8]), (13, 3, [5002, 1005, 8]), (11, 3, [5003, 1006, 8]), (10, 3, [5004, 1007, 9]), (17, 3, [5005, 1008, 10]), (16, 6, [15, 16, 17, 0, 0, 0]), (0, 16, []), (0, 16, []), (2, 8, [15, 16, 17, 18, 19, 20, 21, 22]), (12, 6, [1, 0, 0, 0, 0, 0]), (12, 6, [1, 0, 0, 0, 0, 0]), (12, 6, [1, 0, 0, 0, 0, 0]), (12, 6, [1, 0, 0, 0, 0, 0]), (12, 6, [1, 0, 0, 0, 0, 0]), (12, 6, [1, 0, 0, 0, 0, 0]), (12, 6, [1, 0, 0, 0, 0, 0]), (12, 6, [1, 0, 0, 0, 0, 0]), (16, 6, [27, 28, 29, 0, 0, 0]), (0, 16, []), (0, 16, []), (2, 8, [27, 28, 29, 30, 31, 32, 33, 34]), (12, 6, [1, 0, 0, 0, 0, 0]), (12, 6, [1, 0, 0, 0, 0, 0]), (12, 6, [1, 0, 0, 0, 0, 0]), (12, 6, [1, 0, 0, 0, 0, 0]), (12, 6, [1, 0, 0, 0, 0, 0]), (12, 6, [1, 0, 0, 0, 0, 0]), (12, 6, [1, 0, 0, 0, 0, 0]), (12, 6, [1, 0, 0, 0, 0, 0]), (16, 6, [39, 40, 41, 0, 0, 0]), (0, 16, []), (0, 16, []), (2, 8, [39, 40, 41, 42, 43, 44, 45, 46]), (12, 6, [1, 0, 0, 0, 0, 0]), (12, 6, [1, 0, 0, 0, 0, 0]), (12, 6, [1, 0, 0, 0, 0, 0]), (12, 6, [1, 0, 0, 0, 0, 0]), (12, 6, [1, 0, 0, 0, 0, 0]), (12, 6, [1, 0, 0, 0, 0, 0]), (12, 6, [1, 0, 0, 0, 0, 0]), (12, 6, [1, 0, 0, 0, 0, 0]), (20, 7, [52, 51, 0, 0, 0, 0, 0]), (0, 11, []), (12, 6, [1, 0, 0, 0, 0, 0]), (12, 6, [1, 0, 0, 0, 0, 0]), (19, 6, [55, 0, 0, 0, 0, 0]), (0, 120, []), (18, 3, [57, 0, 0]), (1, 40, []), (18, 3, [59, 0, 0]), (1, 40, []), (18, 3, [61, 0, 0]), (1, 40, []), (18, 3, [63, 0, 0]), (1, 40, []), (22, 22, [65, 66, 67, 68, 69, 0, 0, 0, 0, 0, 0, 0, 70, 0, 0, 0, 0, 0, 71, 72, 73, 74]), (0, 83, []), (0, 83, []), (0, 83, []), (0, 83, []), (0, 7, []), (0, 120, []), (0, 4, []), (0, 4, []), (1, 160, []), (1, 40, [])]
def hp (S : hs_S) : sx_H := hs_m S 1 hs_sh
theorem hs_m_at (S : hs_S) : ∀ (l : List (Nat × Nat × List Nat)) (a k : Nat), (hs_m S a l)[k]? = (l[k]?).map (hs_c S (a + k)) := by
  intro l
  induction l with
  | nil => intro a k; simp [hs_m]
  | cons e r ih =>
    intro a k
    cases k with
    | zero => simp [hs_m]
    | succ k =>
      simp only [hs_m, List.getElem?_cons_succ]
      rw [ih (a + 1) k, show a + 1 + k = a + (k + 1) by omega]
theorem hs_m_len (S : hs_S) : ∀ (l : List (Nat × Nat × List Nat)) (a : Nat), (hs_m S a l).length = l.length := by
  intro l
  induction l with
  | nil => intro a; rfl
  | cons e r ih => intro a; simp [hs_m, ih]
theorem hp_len (S : hs_S) : (hp S).length = 71 := hs_m_len S hs_sh 1
theorem hp_ld {S : hs_S} {a : Nat} {e : Nat × Nat × List Nat} (he : hs_sh[a]? = some e) : sx_ld (hp S) (a + 1) = some (hs_c S (a + 1) e) := by
  show (hs_m S 1 hs_sh)[a]? = _
  rw [hs_m_at, he, Nat.add_comm 1 a]
  rfl
theorem hs_f_at (S : hs_S) (a : Nat) : ∀ (l : List Nat) (k j : Nat), (hs_f S a k l)[j]? = (l[j]?).map (hs_v S a (k + j)) := by
  intro l
  induction l with
  | nil => intro k j; simp [hs_f]
  | cons d r ih =>
    intro k j
    cases j with
    | zero => simp [hs_f]
    | succ j =>
      simp only [hs_f, List.getElem?_cons_succ]
      rw [ih (k + 1) j, show k + 1 + j = k + (j + 1) by omega]
theorem hs_f_len (S : hs_S) (a : Nat) : ∀ (l : List Nat) (k : Nat), (hs_f S a k l).length = l.length := by
  intro l
  induction l with
  | nil => intro k; rfl
  | cons d r ih => intro k; simp [hs_f, ih]
/-- new states -/
def uF (S : hs_S) (a k : Nat) (v : Int32) : hs_S := (fun a' k' => if a' = a ∧ k' = k then v else S.1 a' k', S.2)
def uI (S : hs_S) (a : Nat) (f : Nat → Int32) : hs_S := (S.1, fun a' => if a' = a then f else S.2.1 a', S.2.2)
def uJ (S : hs_S) (a : Nat) (f : Nat → Int64) : hs_S := (S.1, S.2.1, fun a' => if a' = a then f else S.2.2.1 a', S.2.2.2)
def uK (S : hs_S) (a n : Nat) : hs_S := (S.1, S.2.1, S.2.2.1, fun a' => if a' = a then n else S.2.2.2 a')
theorem hp_set {S S' : hs_S} {a : Nat} {e : Nat × Nat × List Nat} {c : sx_Cl} (he : hs_sh[a]? = some e) (hc : c = hs_c S' (a + 1) e) (ho : ∀ (b : Nat) (e' : Nat × Nat × List Nat), hs_sh[b]? = some e' → b ≠ a → hs_c S' (b + 1) e' = hs_c S (b + 1) e') : sx_se (hp S) (a + 1) c = hp S' := by
  show (hs_m S 1 hs_sh).set (a + 1 - 1) c = hs_m S' 1 hs_sh
  rw [Nat.add_sub_cancel]
  apply List.ext_getElem?
  intro j
  rw [List.getElem?_set, hs_m_at, hs_m_at, hs_m_len]
  by_cases hj : a = j
  · subst hj
    have hl : a < hs_sh.length := (List.getElem?_eq_some_iff.mp he).1
    simp only [if_true, hl, he, Option.map_some, hc]
    rw [Nat.add_comm 1 a]
  · rw [if_neg hj]
    cases hb : hs_sh[j]? with
    | none => rfl
    | some e' =>
      simp only [Option.map_some]
      rw [Nat.add_comm 1 j, ho j e' hb (fun z => hj z.symm)]
theorem hs_f_cong {S S' : hs_S} {a : Nat} (h1 : ∀ k, S'.1 a k = S.1 a k) (h2 : S'.2.2.2 a = S.2.2.2 a) : ∀ (l : List Nat) (k : Nat), hs_f S' a k l = hs_f S a k l := by
  intro l
  induction l with
  | nil => intro k; rfl
  | cons d r ih =>
    intro k
    simp only [hs_f]
    rw [ih (k + 1)]
    simp only [hs_v, h1, h2]
theorem hs_c_cong {S S' : hs_S} {a : Nat} {e : Nat × Nat × List Nat} (h1 : ∀ k, S'.1 a k = S.1 a k) (h2 : S'.2.2.2 a = S.2.2.2 a) (h3 : S'.2.1 a = S.2.1 a) (h4 : S'.2.2.1 a = S.2.2.1 a) : hs_c S' a e = hs_c S a e := by
  simp only [hs_c, h3, h4, hs_f_cong h1 h2]
theorem hp_gf {S : hs_S} {a k d : Nat} {cs : List Nat} {e : Nat × Nat × List Nat} (he : hs_sh[a]? = some e) (ht : (10 ≤ e.1 ∧ e.1 - 10 ∈ cs) ∧ e.2.2[k]? = some d) : sx_gf (hp S) (a + 1) cs k = some (hs_v S (a + 1) k d) := by
  obtain ⟨⟨h1, h2⟩, h3⟩ := ht
  unfold sx_gf
  rw [hp_ld he]
  unfold hs_c
  rw [if_neg (by omega), if_neg (by omega), if_neg (by omega)]
  simp only
  rw [if_pos h2, hs_f_at, h3]
  simp
theorem hp_kl {S : hs_S} {a : Nat} {e : Nat × Nat × List Nat} (he : hs_sh[a]? = some e) (ht : 10 ≤ e.1) : sx_kl (hp S) (a + 1) = some (e.1 - 10) := by
  unfold sx_kl
  rw [hp_ld he]
  unfold hs_c
  rw [if_neg (by omega), if_neg (by omega), if_neg (by omega)]
theorem hs_f_set {S : hs_S} {a : Nat} {v : Value} {S' : hs_S} : ∀ (l : List Nat) (k j d : Nat), l[j]? = some d → hs_v S' a (k + j) d = v → (∀ i d', l[i]? = some d' → i ≠ j → hs_v S' a (k + i) d' = hs_v S a (k + i) d') → (hs_f S a k l).set j v = hs_f S' a k l := by
  intro l k j d hj hv ho
  apply List.ext_getElem?
  intro i
  rw [List.getElem?_set, hs_f_at, hs_f_at, hs_f_len]
  by_cases hi : j = i
  · subst hi
    have hl : j < l.length := (List.getElem?_eq_some_iff.mp hj).1
    simp only [if_true, hl, hj, Option.map_some, hv]
  · rw [if_neg hi]
    cases hb : l[i]? with
    | none => rfl
    | some d' =>
      simp only [Option.map_some]
      rw [ho i d' hb (fun z => hi z.symm)]
theorem hp_pf {S : hs_S} {a k : Nat} {cs : List Nat} {e : Nat × Nat × List Nat} {v : Int32} (he : hs_sh[a]? = some e) (ht : (10 ≤ e.1 ∧ e.1 - 10 ∈ cs) ∧ e.2.2[k]? = some 0) : sx_pf (hp S) (a + 1) cs k (.int v) = some (hp (uF S (a + 1) k v)) := by
  obtain ⟨⟨h1, h2⟩, h3⟩ := ht
  have hk : k < e.2.2.length := (List.getElem?_eq_some_iff.mp h3).1
  unfold sx_pf
  rw [hp_ld he]
  have hc0 : ∀ T : hs_S, hs_c T (a + 1) e = sx_co (e.1 - 10) (hs_f T (a + 1) 0 e.2.2) := by
    intro T
    unfold hs_c
    rw [if_neg (by omega), if_neg (by omega), if_neg (by omega)]
  rw [hc0]
  simp only
  rw [if_pos ⟨h2, by rw [hs_f_len]; exact hk⟩]
  congr 1
  refine hp_set he ?_ (fun b e' hb hne => hs_c_cong (fun k' => ?_) rfl rfl rfl)
  · rw [hc0]
    congr 1
    refine hs_f_set e.2.2 0 k 0 h3 (by simp [hs_v, uF]) (fun i d' hd hik => ?_)
    simp [hs_v, uF, hik]
  · show (if b + 1 = a + 1 ∧ k' = k then v else S.1 (b + 1) k') = _
    rw [if_neg (fun z => hne (by omega))]
theorem hp_pk {S : hs_S} {a k n : Nat} {cs : List Nat} {e : Nat × Nat × List Nat} (he : hs_sh[a]? = some e) (ht : (10 ≤ e.1 ∧ e.1 - 10 ∈ cs) ∧ e.2.2[k]? = some 1) (hu : ∀ i, e.2.2[i]? = some 1 → i = k) : sx_pf (hp S) (a + 1) cs k (.ref (5 + n)) = some (hp (uK S (a + 1) n)) := by
  obtain ⟨⟨h1, h2⟩, h3⟩ := ht
  have hk : k < e.2.2.length := (List.getElem?_eq_some_iff.mp h3).1
  unfold sx_pf
  rw [hp_ld he]
  have hc0 : ∀ T : hs_S, hs_c T (a + 1) e = sx_co (e.1 - 10) (hs_f T (a + 1) 0 e.2.2) := by
    intro T
    unfold hs_c
    rw [if_neg (by omega), if_neg (by omega), if_neg (by omega)]
  rw [hc0]
  simp only
  rw [if_pos ⟨h2, by rw [hs_f_len]; exact hk⟩]
  congr 1
  refine hp_set he ?_ (fun b e' hb hne => hs_c_cong (fun _ => rfl) ?_ rfl rfl)
  · rw [hc0]
    congr 1
    refine hs_f_set e.2.2 0 k 1 h3 (by simp [hs_v, uK]) (fun i d' hd hik => ?_)
    have hd1 : d' ≠ 1 := fun z => hik (hu i (by rw [hd, z]))
    simp [hs_v, uK, hd1]
  · show (if b + 1 = a + 1 then n else S.2.2.2 (b + 1)) = _
    rw [if_neg (fun z => hne (by omega))]
theorem hp_gi {S : hs_S} {a n : Nat} {l : List Nat} {i : Int32} (he : hs_sh[a]? = some (0, n, l)) : sx_gi (hp S) (a + 1) i = if sx_in i n = true then some (S.2.1 (a + 1) i.toNatClampNeg) else none := by
  unfold sx_gi
  rw [hp_ld he]
  rfl
theorem hp_gj {S : hs_S} {a n : Nat} {l : List Nat} {i : Int32} (he : hs_sh[a]? = some (1, n, l)) : sx_gj (hp S) (a + 1) i = if sx_in i n = true then some (S.2.2.1 (a + 1) i.toNatClampNeg) else none := by
  unfold sx_gj
  rw [hp_ld he]
  rfl
theorem hp_gq {S : hs_S} {a t n : Nat} {l : List Nat} {i : Int32} (he : hs_sh[a]? = some (2 + t, n, l)) (ht : t < 3) : sx_gq (hp S) (a + 1) i = if sx_in i n = true then some (sx_rv l[i.toNatClampNeg]?) else none := by
  unfold sx_gq
  rw [hp_ld he]
  unfold hs_c
  dsimp only
  rw [if_neg (by omega), if_neg (by omega), if_pos (by omega)]
  simp only
  rw [show 2 + t - 2 = t by omega]
  by_cases h : sx_in i n = true
  · rw [if_pos ⟨h, ht⟩, if_pos h]
  · rw [if_neg (fun z => h z.1), if_neg h]
theorem hp_pi {S : hs_S} {a n : Nat} {l : List Nat} {i x : Int32} (he : hs_sh[a]? = some (0, n, l)) : sx_pi (hp S) (a + 1) i x = if sx_in i n = true then some (hp (uI S (a + 1) (upd (S.2.1 (a + 1)) i.toNatClampNeg x))) else none := by
  unfold sx_pi
  rw [hp_ld he]
  show (if sx_in i n = true then some (sx_se (hp S) (a + 1) (sx_ci n (upd (S.2.1 (a + 1)) i.toNatClampNeg x))) else none) = _
  rw [hp_set (S := S) (S' := uI S (a + 1) (upd (S.2.1 (a + 1)) i.toNatClampNeg x)) he ?_ (fun b e' hb hne => hs_c_cong (fun _ => rfl) rfl ?_ rfl)]
  · show sx_ci n _ = sx_ci n (if a + 1 = a + 1 then _ else _)
    rw [if_pos rfl]
  · show (if b + 1 = a + 1 then _ else _) = _
    rw [if_neg (fun z => hne (by omega))]
theorem hp_pj {S : hs_S} {a n : Nat} {l : List Nat} {i : Int32} {x : Int64} (he : hs_sh[a]? = some (1, n, l)) : sx_pj (hp S) (a + 1) i x = if sx_in i n = true then some (hp (uJ S (a + 1) (vp_updL (S.2.2.1 (a + 1)) i.toNatClampNeg x))) else none := by
  unfold sx_pj
  rw [hp_ld he]
  show (if sx_in i n = true then some (sx_se (hp S) (a + 1) (sx_cj n (vp_updL (S.2.2.1 (a + 1)) i.toNatClampNeg x))) else none) = _
  rw [hp_set (S := S) (S' := uJ S (a + 1) (vp_updL (S.2.2.1 (a + 1)) i.toNatClampNeg x)) he ?_ (fun b e' hb hne => hs_c_cong (fun _ => rfl) rfl rfl ?_)]
  · show sx_cj n _ = sx_cj n (if a + 1 = a + 1 then _ else _)
    rw [if_pos rfl]
  · show (if b + 1 = a + 1 then _ else _) = _
    rw [if_neg (fun z => hne (by omega))]
