/-! THE STEPS: found, firstFound -/
def ffI (S : hs_S) (m H : Nat) : Nat → Nat → Nat
  | 0, _ => 61
  | e + 1, j => if fnC S m (hsI S m H j) (nI (H + j)) = true then j + 1 else ffI S m H e (j + 1)
theorem hf_I (S : hs_S) (m H : Nat) : ∀ e j, (hfF (ghT S m) H e j).1 = nI (ffI S m H e j) ∧ jk S (hfF (ghT S m) H e j).2
  | 0, j => ⟨rfl, (gh_all S m H j).1⟩
  | e + 1, j => by
    have g := gh_all S m H j
    unfold hfF ffI
    rw [gA_fn g]
    by_cases z : fnC S m (hsI S m H j) (nI (H + j)) = true
    · rw [if_pos z, if_pos z]
      exact ⟨rfl, (gh_all S m H (j + 1)).1⟩
    · rw [if_neg z, if_neg z]
      exact hf_I S m H e (j + 1)
theorem ffI_le (S : hs_S) (m H : Nat) : ∀ e j, e + j = 60 → ffI S m H e j ≤ 61 ∧ j < ffI S m H e j
  | 0, j, h => by
    show 61 ≤ 61 ∧ j < 61
    omega
  | e + 1, j, h => by
    unfold ffI
    by_cases z : fnC S m (hsI S m H j) (nI (H + j)) = true
    · rw [if_pos z]
      omega
    · rw [if_neg z]
      have := ffI_le S m H e (j + 1) (by omega)
      omega
theorem or_bit {f : Nat → Bool} {n c : Nat} (hn : n ≤ 8) (hc : c < 8) : (orF f n &&& ((1 : Int32) <<< (nI c &&& 31)) = 0) ↔ ¬ (c < n ∧ f c = true) := by
  rw [ab_z _ (by omega), bt_orF f n (by omega) c (by omega)]
  by_cases h1 : c < n
  · rw [decide_eq_true h1, Bool.true_and]
    constructor
    · intro h z
      rw [h] at z
      exact absurd z.2 (by decide)
    · intro h
      exact ts_nt (fun z => h ⟨h1, z⟩)
  · rw [decide_eq_false h1, Bool.false_and]
    exact ⟨fun _ z => h1 z.1, fun _ => rfl⟩
theorem fi_I {S : hs_S} {n H m : Nat} (h : Rel S n) (hH : H ≤ 99999) (eH : S.1 11 4 = nI H) (hm : m < n) : ∀ e j, e + j = 60 → (fiF (kOf S) (pOf S) n ((1 : Int32) <<< (nI m &&& 31)) e (j + 1) (mIt (S.2.1 62) (kOf S) (pOf S) n (j + 1)) (orF (fnc (mIt (S.2.1 62) (kOf S) (pOf S) n j) (kOf S) (pOf S)) n)).1 = ffI S m H e j
  | 0, j, hj => by
    show j + 1 = 61
    omega
  | e + 1, j, hj => by
    have n8 := r_n8 h
    have f := ((it_all h hH eH j (by omega)).2 m hm).2
    have ob := or_bit (f := fnc (mIt (S.2.1 62) (kOf S) (pOf S) n j) (kOf S) (pOf S)) n8 (show m < 8 by omega)
    unfold fiF ffI
    by_cases z : fnC S m (hsI S m H j) (nI (H + j)) = true
    · rw [if_pos z, if_neg (fun y => (ob.mp y) ⟨hm, by rw [f]; exact z⟩)]
    · rw [if_neg z, if_pos (ob.mpr (fun y => z (by rw [← f]; exact y.2)))]
      exact fi_I h hH eH hm e (j + 1) (by omega)
theorem st_found (S : hs_S) (n : Nat) (h : Rel S n) (c : Int32) : stp S 81 [.ref 1, .int c] 161 [.ref 61, .int c] := by
  obtain ⟨H, hH, o⟩ := Rel_ok h
  have n8 := r_n8 h
  have cl := cQ_1 (sp_SC_found 3 S n H c o hH)
  unfold cl_found at cl
  by_cases h1 : 0 ≤ c ∧ c < nI n
  · rw [if_pos h1] at cl
    obtain ⟨m, hm, rfl⟩ := car_of n8 h1
    rw [nI_clamp (show m < 2 ^ 31 by omega)] at cl
    obtain ⟨e1, j1⟩ := hf_I S m H 60 0
    have le := ffI_le S m H 60 0 (by omega)
    have fi : (fiR S n (kOf S) (pOf S) ((1 : Int32) <<< (nI m &&& 31))).1 = ffI S m H 60 0 := by
      unfold fiR
      have z0 : (0 : Int32) &&& ((1 : Int32) <<< (nI m &&& 31)) = 0 := by simp
      show (if (0 : Int32) &&& ((1 : Int32) <<< (nI m &&& 31)) = 0 then _ else _ : Nat × Int32).1 = _
      rw [if_pos z0]
      exact fi_I h hH o.hr hm 60 0 (by omega)
    have mm : ∀ T, T.2.1 62 = S.2.1 62 → (fiR T n (kOf S) (pOf S) ((1 : Int32) <<< (nI m &&& 31))).1 = ffI S m H 60 0 := by
      intro T e
      unfold fiR at fi ⊢
      rw [e]
      exact fi
    by_cases z : ffI S m H 60 0 ≤ 60
    · rw [if_pos (show (hfF (ghT S m) H 60 0).1 ≤ 60 from by rw [e1]; exact nI_le (b := 60) z (by omega))] at cl
      refine stp_mk cl (fun T g => ?_)
      have g0 : jk S T := jk_trans j1 g
      have e := row_q g0
      have cc := sp_M_found 3 T n (kOf S) (pOf S) (nI m) (rowS h e)
      unfold ml_found at cc
      rw [if_pos h1, mm T e, if_pos z] at cc
      exact end_q h g0 cc (by rw [e1])
    · rw [if_neg (show ¬ (hfF (ghT S m) H 60 0).1 ≤ 60 from by rw [e1]; exact nI_ge (a := 60) (by omega) (by omega))] at cl
      refine stp_mk cl (fun T g => ?_)
      have g0 : jk (fdS S 3) T := jk_trans (jk_fdS j1 3) g
      have e := row_fd g0
      have cc := sp_M_found 3 T n (kOf S) (pOf S) (nI m) (rowS h e)
      unfold ml_found at cc
      rw [if_pos h1, mm T e, if_neg z] at cc
      exact end_f h g0 cc rfl
  · rw [if_neg h1] at cl
    refine stp_mk cl (fun T g => ?_)
    have cc := sp_M_found 3 T n (kOf S) (pOf S) c (rowS h (row_fd g))
    unfold ml_found at cc
    rw [if_neg h1] at cc
    exact end_f h g cc rfl
/-! firstFound -/
theorem fnC_jk {S T : hs_S} {m : Nat} (hm : m < 8) (g : jk S T) : fnC T m = fnC S m ∧ shC T m = shC S m := by
  unfold fnC shC
  rw [g.1 11 5 rfl, g.2.1 12 rfl, g.2.2.2 _ (jK_car hm), g.1 _ 1 (jF_car hm), g.1 _ 3 (jF_car hm), g.1 _ 4 (jF_car hm)]
  exact ⟨rfl, rfl⟩
theorem hsI_jk {S T : hs_S} {m H : Nat} (hm : m < 8) (g : jk S T) : ∀ j, hsI T m H j = hsI S m H j
  | 0 => g.1 _ 2 (jF_car hm)
  | j + 1 => by
    show shC T m (hsI T m H j) _ = shC S m (hsI S m H j) _
    rw [hsI_jk hm g j, (fnC_jk hm g).2]
theorem ffI_jk {S T : hs_S} {m H : Nat} (hm : m < 8) (g : jk S T) : ∀ e j, ffI T m H e j = ffI S m H e j
  | 0, _ => rfl
  | e + 1, j => by
    unfold ffI
    rw [hsI_jk hm g, (fnC_jk hm g).1, ffI_jk hm g e (j + 1)]
def pkF (hh : Nat → Nat) : Nat → Nat → Int32 → Nat → Int32
  | 0, _, a, _ => a
  | m + 1, j, a, b => if b ≤ hh j then pkF hh m (j + 1) a b else pkF hh m (j + 1) (nI j) (hh j)
theorem ffF_pk {S : hs_S} {n H : Nat} (n8 : n ≤ 8) : ∀ m j a b T, j + m = n → b ≤ 61 → jk S T → ∃ T', jk S T' ∧ ffF H m j a (nI b) T = if pkF (fun c => ffI S c H 60 0) m j a b = -1000000004 then (-1000000004, fdS T' 3) else (pkF (fun c => ffI S c H 60 0) m j a b, T') := by
  intro m
  induction m with
  | zero =>
    intro j a b T hj hb g
    exact ⟨T, g, rfl⟩
  | succ m ih =>
    intro j a b T hj hb g
    obtain ⟨e1, j1⟩ := hf_I T j H 60 0
    rw [ffI_jk (show j < 8 by omega) g] at e1
    have le := ffI_le S j H 60 0 (by omega)
    unfold ffF pkF
    rw [e1]
    by_cases z : b ≤ ffI S j H 60 0
    · rw [if_pos (nI_le z (by omega)), if_pos z]
      exact ih (j + 1) a b _ (by omega) hb (jk_trans g j1)
    · rw [if_neg (nI_ge (show ffI S j H 60 0 < b by omega) (by omega)), if_neg z]
      exact ih (j + 1) (nI j) _ _ (by omega) le.1 (jk_trans g j1)
theorem pkF_stay (hh : Nat → Nat) : ∀ m j a b, (∀ c, j ≤ c → c < j + m → b ≤ hh c) → pkF hh m j a b = a
  | 0, _, _, _, _ => rfl
  | m + 1, j, a, b, h => by
    unfold pkF
    rw [if_pos (h j (by omega) (by omega))]
    exact pkF_stay hh m (j + 1) a b (fun c c1 c2 => h c (by omega) (by omega))
theorem pkF_at (hh : Nat → Nat) (c0 : Nat) : ∀ m j a b, j ≤ c0 → c0 < j + m → hh c0 < b → (∀ c, j ≤ c → c < c0 → hh c0 < hh c) → (∀ c, c0 < c → c < j + m → hh c0 ≤ hh c) → pkF hh m j a b = nI c0
  | 0, j, a, b, h1, h2, _, _, _ => by omega
  | m + 1, j, a, b, h1, h2, h3, h4, h5 => by
    unfold pkF
    by_cases e : j = c0
    · subst e
      rw [if_neg (by omega)]
      exact pkF_stay hh m (j + 1) _ _ (fun c c1 c2 => h5 c (by omega) (by omega))
    · by_cases z : b ≤ hh j
      · rw [if_pos z]
        exact pkF_at hh c0 m (j + 1) a b (by omega) (by omega) h3 (fun c c1 c2 => h4 c (by omega) c2) (fun c c1 c2 => h5 c c1 (by omega))
      · rw [if_neg z]
        exact pkF_at hh c0 m (j + 1) _ _ (by omega) (by omega) (h4 j (by omega) (by omega)) (fun c c1 c2 => h4 c (by omega) c2) (fun c c1 c2 => h5 c c1 (by omega))
theorem or_255 {f : Nat → Bool} {n : Nat} (hn : n ≤ 8) : (orF f n &&& 255 = 0) ↔ ∀ c, c < n → ¬ f c = true := by
  constructor
  · intro h c hc z
    have b : bt (orF f n &&& 255) c = true := by
      rw [b_and, bt_orF f n (by omega) c (by omega), b_255, decide_eq_true hc, decide_eq_true (show c < 8 by omega), z]
      rfl
    rw [h, b_0] at b
    cases b
  · intro h
    apply b_ext
    intro i hi
    rw [b_and, bt_orF f n (by omega) i hi, b_0]
    by_cases l : i < n
    · rw [ts_nt (h i l), Bool.and_false, Bool.false_and]
    · rw [decide_eq_false l, Bool.false_and, Bool.false_and]
/-- what the search for any of all gives -/
theorem fi_all {S : hs_S} {n H : Nat} (h : Rel S n) (hH : H ≤ 99999) (eH : S.1 11 4 = nI H) : ∀ e j, e + j = 60 → (∀ i, i < j → ∀ c, c < n → ¬ fnC S c (hsI S c H i) (nI (H + i)) = true) → ((fiF (kOf S) (pOf S) n 255 e (j + 1) (mIt (S.2.1 62) (kOf S) (pOf S) n (j + 1)) (orF (fnc (mIt (S.2.1 62) (kOf S) (pOf S) n j) (kOf S) (pOf S)) n)).1 = 61 ∧ ∀ i, i < 60 → ∀ c, c < n → ¬ fnC S c (hsI S c H i) (nI (H + i)) = true) ∨ (∃ i, i < 60 ∧ (fiF (kOf S) (pOf S) n 255 e (j + 1) (mIt (S.2.1 62) (kOf S) (pOf S) n (j + 1)) (orF (fnc (mIt (S.2.1 62) (kOf S) (pOf S) n j) (kOf S) (pOf S)) n)).1 = i + 1 ∧ (fiF (kOf S) (pOf S) n 255 e (j + 1) (mIt (S.2.1 62) (kOf S) (pOf S) n (j + 1)) (orF (fnc (mIt (S.2.1 62) (kOf S) (pOf S) n j) (kOf S) (pOf S)) n)).2 = orF (fun c => fnC S c (hsI S c H i) (nI (H + i))) n ∧ (∀ i', i' < i → ∀ c, c < n → ¬ fnC S c (hsI S c H i') (nI (H + i')) = true) ∧ ∃ c, c < n ∧ fnC S c (hsI S c H i) (nI (H + i)) = true)
  | 0, j, hj, hi => Or.inl ⟨by show j + 1 = 61; omega, fun i h1 c hc => hi i (by omega) c hc⟩
  | e + 1, j, hj, hi => by
    have n8 := r_n8 h
    have f := fun c hc => ((it_all h hH eH j (by omega)).2 c hc).2
    have eo : orF (fnc (mIt (S.2.1 62) (kOf S) (pOf S) n j) (kOf S) (pOf S)) n = orF (fun c => fnC S c (hsI S c H j) (nI (H + j))) n := orF_cong f
    have ob := or_255 (f := fnc (mIt (S.2.1 62) (kOf S) (pOf S) n j) (kOf S) (pOf S)) n8
    unfold fiF
    by_cases z : orF (fnc (mIt (S.2.1 62) (kOf S) (pOf S) n j) (kOf S) (pOf S)) n &&& 255 = 0
    · rw [if_pos z]
      have nz := ob.mp z
      refine fi_all h hH eH e (j + 1) (by omega) (fun i h1 c hc y => ?_)
      by_cases ei : i = j
      · subst ei
        exact nz c hc (by rw [f c hc]; exact y)
      · exact hi i (by omega) c hc y
    · rw [if_neg z]
      refine Or.inr ⟨j, by omega, rfl, eo, hi, ?_⟩
      refine Classical.byContradiction (fun no => z (ob.mpr (fun c hc y => no ⟨c, hc, by rw [← f c hc]; exact y⟩)))
theorem ffI_at {S : hs_S} {m H i : Nat} (hi : i < 60) (h1 : fnC S m (hsI S m H i) (nI (H + i)) = true) : ∀ e j, e + j = 60 → j ≤ i → (∀ i', j ≤ i' → i' < i → ¬ fnC S m (hsI S m H i') (nI (H + i')) = true) → ffI S m H e j = i + 1
  | 0, j, hj, ji, _ => by omega
  | e + 1, j, hj, ji, h2 => by
    unfold ffI
    by_cases ej : j = i
    · subst ej
      rw [if_pos h1]
    · rw [if_neg (h2 j (by omega) (by omega))]
      exact ffI_at hi h1 e (j + 1) (by omega) (by omega) (fun i' a b => h2 i' (by omega) b)
theorem ffI_gt {S : hs_S} {m H i : Nat} (hi : i ≤ 60) : ∀ e j, e + j = 60 → (∀ i', j ≤ i' → i' < i → ¬ fnC S m (hsI S m H i') (nI (H + i')) = true) → j ≤ i → i < ffI S m H e j
  | 0, j, hj, _, ji => by
    show i < 61
    omega
  | e + 1, j, hj, h2, ji => by
    unfold ffI
    by_cases z : fnC S m (hsI S m H j) (nI (H + j)) = true
    · rw [if_pos z]
      by_cases ej : j = i
      · omega
      · exact absurd z (h2 j (by omega) (by omega))
    · rw [if_neg z]
      by_cases ej : j = i
      · have := (ffI_le S m H e (j + 1) (by omega)).2
        omega
      · exact ffI_gt hi e (j + 1) (by omega) (fun i' a b => h2 i' (by omega) b) (by omega)
theorem loF_at {f : Int32} {c0 : Nat} (h1 : bt f c0 = true) : ∀ m c, c ≤ c0 → c0 < c + m → c0 < 32 → (∀ c', c ≤ c' → c' < c0 → bt f c' = false) → loF f m c = c0
  | 0, c, a, b, _, _ => by omega
  | m + 1, c, a, b, l, h2 => by
    unfold loF
    by_cases e : c = c0
    · subst e
      rw [if_neg (fun z => by
        have := (sb_z f l).mp z
        rw [h1] at this
        cases this)]
    · rw [if_pos ((sb_z f (by omega)).mpr (h2 c (by omega) (by omega)))]
      exact loF_at h1 m (c + 1) (by omega) (by omega) l (fun c' x y => h2 c' (by omega) y)
theorem st_firstFound (S : hs_S) (n : Nat) (h : Rel S n) : stp S 82 [.ref 1] 162 [.ref 61] := by
  obtain ⟨H, hH, o⟩ := Rel_ok h
  have n8 := r_n8 h
  have cl := cQ_1 (sp_SC_firstFound 3 S n H o hH)
  obtain ⟨T0, j0, e0⟩ := ffF_pk (S := S) (H := H) n8 n 0 (-1000000004) 61 S (by omega) (by omega) (jk_refl S)
  have e61 : (61 : Int32) = nI 61 := rfl
  rw [e61, e0] at cl
  have z0 : (0 : Int32) &&& 255 = 0 := by decide
  have fr : ∀ T, T.2.1 62 = S.2.1 62 → fiR T n (kOf S) (pOf S) 255 = fiF (kOf S) (pOf S) n 255 60 1 (mIt (S.2.1 62) (kOf S) (pOf S) n 1) (orF (fnc (mIt (S.2.1 62) (kOf S) (pOf S) n 0) (kOf S) (pOf S)) n) := by
    intro T e
    unfold fiR
    rw [e]
    show (if (0 : Int32) &&& 255 = 0 then _ else _) = _
    rw [if_pos z0]
    rfl
  rcases fi_all h hH o.hr 60 0 (by omega) (fun i hi => by omega) with ⟨a1, a2⟩ | ⟨i, hi, a1, a2, a3, ⟨c, hc, a4⟩⟩
  · have pk : pkF (fun c => ffI S c H 60 0) n 0 (-1000000004) 61 = -1000000004 := pkF_stay _ n 0 _ 61 (fun c _ c2 => ffI_gt (i := 60) (by omega) 60 0 (by omega) (fun i' _ b => a2 i' b c (by omega)) (by omega))
    rw [if_pos pk] at cl
    refine stp_mk cl (fun T g => ?_)
    have g0 : jk (fdS S 3) T := jk_trans (jk_fdS j0 3) g
    have e := row_fd g0
    have cc := sp_M_firstFound 3 T n (kOf S) (pOf S) (rowS h e) (fun y => by rw [fr T e, a1] at y; omega)
    unfold ml_firstFound at cc
    rw [fr T e, a1, if_neg (by omega)] at cc
    exact end_f h g0 cc rfl
  · have ex : ∃ c0, c0 < n ∧ fnC S c0 (hsI S c0 H i) (nI (H + i)) = true ∧ ∀ c', c' < c0 → ¬ fnC S c' (hsI S c' H i) (nI (H + i)) = true := by
      obtain ⟨c0, q1, q2, q3⟩ := fb_first (p := fun c => fnC S c (hsI S c H i) (nI (H + i)) = true) (n := n) ⟨c, hc, a4⟩
      exact ⟨c0, q1, q2, q3⟩
    obtain ⟨c0, hc0, b1, b2⟩ := ex
    have h0 : ffI S c0 H 60 0 = i + 1 := ffI_at hi b1 60 0 (by omega) (by omega) (fun i' _ y => a3 i' y c0 hc0)
    have hge : ∀ c', c' < n → i < ffI S c' H 60 0 := fun c' hc' => ffI_gt (by omega) 60 0 (by omega) (fun i' _ y => a3 i' y c' hc') (by omega)
    have pk : pkF (fun c => ffI S c H 60 0) n 0 (-1000000004) 61 = nI c0 := by
      refine pkF_at _ c0 n 0 _ _ (by omega) (by omega) (by show ffI S c0 H 60 0 < 61; omega) (fun c' _ y => ?_) (fun c' y1 y2 => ?_)
      · show ffI S c0 H 60 0 < ffI S c' H 60 0
        rw [h0]
        exact ffI_gt (i := i + 1) (by omega) 60 0 (by omega) (fun i' _ x => by
          by_cases ei : i' = i
          · subst ei
            exact b2 c' y
          · exact a3 i' (by omega) c' (by omega)) (by omega)
      · show ffI S c0 H 60 0 ≤ ffI S c' H 60 0
        have := hge c' (by omega)
        omega
    have ne : ¬ nI c0 = (-1000000004 : Int32) := fun z => by
      have : (nI c0).toInt = (-1000000004 : Int32).toInt := by rw [z]
      rw [nI_toInt (by omega)] at this
      have e2 : (-1000000004 : Int32).toInt = -1000000004 := by decide
      omega
    rw [pk, if_neg ne] at cl
    refine stp_mk cl (fun T g => ?_)
    have g0 : jk S T := jk_trans j0 g
    have e := row_q g0
    have bits : ∀ c', c' < 8 → bt (orF (fun c => fnC S c (hsI S c H i) (nI (H + i))) n) c' = (decide (c' < n) && fnC S c' (hsI S c' H i) (nI (H + i))) := fun c' hc' => bt_orF _ n (by omega) c' (by omega)
    have bc0 : bt (orF (fun c => fnC S c (hsI S c H i) (nI (H + i))) n) c0 = true := by
      rw [bits c0 (by omega), decide_eq_true hc0, b1]
      rfl
    have cc := sp_M_firstFound 3 T n (kOf S) (pOf S) (rowS h e) (fun y => ⟨c0, by omega, fun x => by
      rw [fr T e, a2] at x
      have := (sb_z _ (show c0 < 32 by omega)).mp x
      rw [bc0] at this
      cases this⟩)
    unfold ml_firstFound at cc
    rw [fr T e, a1, if_pos (by omega), a2, loF_at bc0 8 0 (by omega) (by omega) (by omega) (fun c' _ y => by
      rw [bits c' (by omega), ts_nt (b2 c' y), Bool.and_false])] at cc
    exact end_q h g0 cc rfl
