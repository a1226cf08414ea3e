/-! THE WORLD: how the pure machine lies in the machine's heap -/
abbrev sx_AD : Type := (Nat → Nat) × Option Nat
def sx_mv (ad : sx_AD) : Value → Value
  | .ref a => .ref (ad.1 a)
  | .retAddr _ => va_rf ad.2
  | v => v
theorem sx_mv_cat (ad : sx_AD) (v : Value) : (sx_mv ad v).category = v.category := by
  cases v <;> simp [sx_mv, Value.category]
  cases ad.2 <;> simp [va_rf]
def sx_tc (cA : Nat → ClassId) (ad : sx_AD) : sx_Cl → va_E
  | .inl q => .inl (cA 0, q.1, .inl q.2)
  | .inr (.inl q) => .inl (cA 1, q.1, .inr (.inl q.2))
  | .inr (.inr (.inl q)) => .inl (cA (2 + q.1), q.2.1, .inr (.inr (.inr (.inr (fun j => (q.2.2 j).map ad.1)))))
  | .inr (.inr (.inr q)) => .inr (q.1, q.2.map (sx_mv ad))
def sx_em (cA : Nat → ClassId) (ad : sx_AD) (bs : Nat) : Nat → sx_H → va_W
  | _, [] => []
  | i, c :: r => (bs + i, sx_tc cA ad c) :: sx_em cA ad bs (i + 1) r
theorem sx_em_at (cA : Nat → ClassId) (ad : sx_AD) (bs : Nat) : ∀ (h : sx_H) (i k : Nat), (sx_em cA ad bs i h)[k]? = (h[k]?).map (fun c => (bs + (i + k), sx_tc cA ad c)) := by
  intro h
  induction h with
  | nil => intro i k; simp [sx_em]
  | cons c r ih =>
    intro i k
    cases k with
    | zero => simp [sx_em]
    | succ k =>
      simp only [sx_em, List.getElem?_cons_succ]
      rw [ih (i + 1) k]
      congr 1
      funext c
      congr 2
      omega
theorem sx_em_len (cA : Nat → ClassId) (ad : sx_AD) (bs : Nat) : ∀ (h : sx_H) (i : Nat), (sx_em cA ad bs i h).length = h.length := by
  intro h
  induction h with
  | nil => intro i; rfl
  | cons c r ih => intro i; simp [sx_em, ih]
theorem sx_em_set (cA : Nat → ClassId) (ad : sx_AD) (bs : Nat) (h : sx_H) (k : Nat) (c : sx_Cl) : (sx_em cA ad bs 0 h).set k (bs + k, sx_tc cA ad c) = sx_em cA ad bs 0 (h.set k c) := by
  apply List.ext_getElem?
  intro j
  rw [List.getElem?_set, sx_em_at, sx_em_at, sx_em_len, List.getElem?_set]
  by_cases hj : k = j
  · subst hj
    by_cases hl : k < h.length
    · simp [hl]
    · simp [hl]
  · simp [hj]
theorem sx_em_app (cA : Nat → ClassId) (ad : sx_AD) (bs : Nat) (h : sx_H) (c : sx_Cl) : sx_em cA ad bs 0 (h ++ [c]) = sx_em cA ad bs 0 h ++ [(bs + h.length, sx_tc cA ad c)] := by
  apply List.ext_getElem?
  intro j
  rw [sx_em_at]
  by_cases hl : j < h.length
  · rw [List.getElem?_append_left hl, List.getElem?_append_left (by rw [sx_em_len]; exact hl), sx_em_at]
  · rw [List.getElem?_append_right (by omega), List.getElem?_append_right (by rw [sx_em_len]; omega), sx_em_len]
    by_cases h0 : j = h.length
    · subst h0; simp
    · rw [List.getElem?_eq_none (by simp; omega), List.getElem?_eq_none (by simp; omega)]
      rfl
theorem sx_em_D (cA : Nat → ClassId) (ad : sx_AD) (bs : Nat) (h : sx_H) : va_D (fun q => bs ≤ q) (sx_em cA ad bs 0 h) := by
  refine ⟨fun i j p q hi hj e => ?_, fun k q hk => ?_⟩
  · rw [sx_em_at] at hi hj
    obtain ⟨a, -, rfl⟩ := Option.map_eq_some_iff.mp hi
    obtain ⟨b, -, rfl⟩ := Option.map_eq_some_iff.mp hj
    simp only at e
    omega
  · rw [sx_em_at] at hk
    obtain ⟨a, -, rfl⟩ := Option.map_eq_some_iff.mp hk
    show bs ≤ bs + (0 + k)
    omega
def sx_tys (cA : Nat → ClassId) : List (ClassId × FieldType) := [(cA 0, .int), (cA 1, .long), (cA 2, .object "ShadeCarpets$Carrier"), (cA 3, .object "ShadeCarpets$Kind"), (cA 4, .object "ShadeCarpets$Sheet")]
/-- the heap -/
def sx_HR (D : va_G) (cA : Nat → ClassId) (ad : sx_AD) (bs : Nat) (h : sx_H) (H : Heap) : Prop := va_P D sx_cls (sx_em cA ad bs 0 h) H ∧ h.length ≤ 900
/-- the locals -/
def sx_vl (L : sx_Lo) (i : Nat) (v : Value) : Prop := L[i]? = some (some v) ∧ (v.category = 2 → L[i + 1]? = some none)
def sx_LR (ad : sx_AD) (nL : Nat) (ls : Array Slot) (L : sx_Lo) : Prop := ls.size = nL ∧ L.length = nL ∧ lv_wf ls ∧ ∀ i v, sx_vl L i v → ls[i]? = some (.val (sx_mv ad v))
def sx_l1 (ad : sx_AD) (L : sx_Lo) (i : Nat) : Option (Nat × Value) := match L[i]? with
  | some (some v) => if v.category = 2 ∧ ¬ L[i + 1]? = some none then none else some (i, sx_mv ad v)
  | _ => none
def sx_ls (ad : sx_AD) (L : sx_Lo) : List (Nat × Value) := (List.range L.length).filterMap (sx_l1 ad L)
theorem sx_l1_iff (ad : sx_AD) (L : sx_Lo) (i : Nat) (q : Nat × Value) : sx_l1 ad L i = some q ↔ ∃ v, sx_vl L i v ∧ q = (i, sx_mv ad v) := by
  unfold sx_l1 sx_vl
  constructor
  · intro e
    split at e
    next v hv =>
      split at e
      · cases e
      · next hc =>
        refine ⟨v, ⟨hv, fun h2 => ?_⟩, (Option.some.inj e).symm⟩
        by_cases hn : L[i + 1]? = some none
        · exact hn
        · exact absurd ⟨h2, hn⟩ hc
    next => cases e
  · intro ⟨v, ⟨h1, h2⟩, e⟩
    rw [h1]
    simp only
    rw [if_neg (fun h => h.2 (h2 h.1)), e]
theorem sx_ls_mem (ad : sx_AD) (L : sx_Lo) (q : Nat × Value) : q ∈ sx_ls ad L ↔ ∃ v, sx_vl L q.1 v ∧ q.2 = sx_mv ad v := by
  unfold sx_ls
  rw [List.mem_filterMap]
  constructor
  · intro ⟨i, _, h⟩
    obtain ⟨v, h1, h2⟩ := (sx_l1_iff ad L i q).mp h
    subst h2
    exact ⟨v, h1, rfl⟩
  · intro ⟨v, h1, h2⟩
    refine ⟨q.1, List.mem_range.mpr ?_, (sx_l1_iff ad L q.1 q).mpr ⟨v, h1, ?_⟩⟩
    · have := h1.1
      exact (List.getElem?_eq_some_iff.mp this).1
    · rw [← h2]
theorem sx_LR_has {ad : sx_AD} {nL : Nat} {ls : Array Slot} {L : sx_Lo} (h : sx_LR ad nL ls L) : lv_has ls nL (sx_ls ad L) := by
  refine ⟨h.1, h.2.2.1, fun q hq => ?_⟩
  obtain ⟨v, h1, h2⟩ := (sx_ls_mem ad L q).mp hq
  rw [h2]
  exact h.2.2.2 _ _ h1
theorem sx_LR_get {ad : sx_AD} {nL : Nat} {ls : Array Slot} {L : sx_Lo} (h : sx_LR ad nL ls L) {i : Nat} {v : Value} (hv : L[i]? = some (some v)) (hc : ¬ v.category = 2) : ls[i]? = some (.val (sx_mv ad v)) := h.2.2.2 i v ⟨hv, fun h2 => absurd h2 hc⟩
/-- behind a store of one slot -/
theorem sx_LR_st {ad : sx_AD} {nL : Nat} {L : sx_Lo} {i : Nat} {v : Value} (hl : L.length = nL) (hi : i < nL) (hc : ¬ v.category = 2) {ls' : Array Slot} (h : lv_has ls' nL ((i, sx_mv ad v) :: (sx_ls ad L).filter (fun q => !(q.1 == i) && !(q.1 + 1 == i && q.2.category == 2)))) : sx_LR ad nL ls' (L.set i (some v)) := by
  refine ⟨h.1, by simp [hl], h.2.1, fun j w hw => ?_⟩
  by_cases hj : j = i
  · subst hj
    have e : w = v := by
      have := hw.1
      rw [List.getElem?_set_self (by omega)] at this
      exact (Option.some.inj (Option.some.inj this)).symm
    subst e
    exact h.2.2 (j, sx_mv ad w) List.mem_cons_self
  · have h1 : L[j]? = some (some w) := by
      have := hw.1
      rwa [List.getElem?_set_ne (Ne.symm hj)] at this
    have h2 : w.category = 2 → L[j + 1]? = some none ∧ ¬ j + 1 = i := by
      intro hc2
      have := hw.2 hc2
      by_cases hji : i = j + 1
      · subst hji
        rw [List.getElem?_set_self (by omega)] at this
        cases this
      · rw [List.getElem?_set_ne hji] at this
        exact ⟨this, fun e => hji e.symm⟩
    refine h.2.2 (j, sx_mv ad w) (List.mem_cons_of_mem _ (List.mem_filter.mpr ⟨(sx_ls_mem ad L _).mpr ⟨w, ⟨h1, fun hc2 => (h2 hc2).1⟩, rfl⟩, ?_⟩))
    simp only [Bool.and_eq_true, Bool.not_eq_true', beq_eq_false_iff_ne, ne_eq, Bool.and_eq_false_iff]
    refine ⟨hj, ?_⟩
    by_cases hji : j + 1 = i
    · right
      rw [sx_mv_cat]
      exact fun e => (h2 e).2 hji
    · exact Or.inl hji
/-- behind a store of two slots -/
theorem sx_LR_sj {ad : sx_AD} {nL : Nat} {L : sx_Lo} {i : Nat} {v : Value} (hl : L.length = nL) (hi : i + 1 < nL) {ls' : Array Slot} (h : lv_has ls' nL ((i, sx_mv ad v) :: (sx_ls ad L).filter (fun q => !(q.1 == i) && (!(q.1 == i + 1) && !(q.1 + 1 == i && q.2.category == 2))))) : sx_LR ad nL ls' ((L.set i (some v)).set (i + 1) none) := by
  refine ⟨h.1, by simp [hl], h.2.1, fun j w hw => ?_⟩
  have hj1 : ¬ j = i + 1 := by
    intro e
    subst e
    have := hw.1
    rw [List.getElem?_set_self (by simp; omega)] at this
    cases this
  have hw1 := hw.1
  rw [List.getElem?_set_ne (Ne.symm hj1)] at hw1
  by_cases hj : j = i
  · subst hj
    rw [List.getElem?_set_self (by omega)] at hw1
    cases hw1
    exact h.2.2 (j, sx_mv ad v) List.mem_cons_self
  · rw [List.getElem?_set_ne (Ne.symm hj)] at hw1
    have h2 : w.category = 2 → L[j + 1]? = some none ∧ ¬ j + 1 = i := by
      intro hc2
      have := hw.2 hc2
      rw [List.getElem?_set_ne (by omega)] at this
      by_cases hji : i = j + 1
      · subst hji
        rw [List.getElem?_set_self (by omega)] at this
        cases this
      · rw [List.getElem?_set_ne hji] at this
        exact ⟨this, fun e => hji e.symm⟩
    refine h.2.2 (j, sx_mv ad w) (List.mem_cons_of_mem _ (List.mem_filter.mpr ⟨(sx_ls_mem ad L _).mpr ⟨w, ⟨hw1, fun hc2 => (h2 hc2).1⟩, rfl⟩, ?_⟩))
    simp only [Bool.and_eq_true, Bool.not_eq_true', beq_eq_false_iff_ne, ne_eq, Bool.and_eq_false_iff]
    refine ⟨hj, hj1, ?_⟩
    by_cases hji : j + 1 = i
    · right
      rw [sx_mv_cat]
      exact fun e => (h2 e).2 hji
    · exact Or.inl hji
/-- at a method's entry -/
theorem sx_ea_len (ad : sx_AD) : ∀ as : List Value, (sx_ea as).length = (lg_sl (as.map (sx_mv ad))).length := by
  intro as
  induction as with
  | nil => rfl
  | cons v r ih =>
    have e : (lg_sl ((v :: r).map (sx_mv ad))) = (if (sx_mv ad v).category = 2 then [Slot.val (sx_mv ad v), Slot.second] else [Slot.val (sx_mv ad v)]) ++ lg_sl (r.map (sx_mv ad)) := by
      simp [lg_sl]
    rw [e, sx_mv_cat]
    cases v <;> simp [sx_ea, Value.category, ih]
theorem sx_ea_at (ad : sx_AD) : ∀ (as : List Value) (o i : Nat) (v : Value), (sx_ea as)[i]? = some (some v) → (o + i, sx_mv ad v) ∈ lv_args o (as.map (sx_mv ad)) := by
  intro as
  induction as with
  | nil => intro o i v h; simp [sx_ea] at h
  | cons w r ih =>
    intro o i v h
    have key : ∀ (k : Nat) (pre : sx_Lo), sx_ea (w :: r) = pre ++ sx_ea r → pre.length = k → pre[0]? = some (some w) → (∀ j, 0 < j → j < k → pre[j]? = some none) → (if (sx_mv ad w).category = 2 then o + 2 else o + 1) = o + k → (o + i, sx_mv ad v) ∈ lv_args o ((w :: r).map (sx_mv ad)) := by
      intro k pre e hk h0 hn ho
      rw [e] at h
      simp only [List.map_cons, lv_args, ho]
      by_cases hi : i < k
      · rw [List.getElem?_append_left (by omega)] at h
        by_cases hi0 : i = 0
        · subst hi0
          rw [h0] at h
          cases h
          exact List.mem_cons_self
        · rw [hn i (by omega) hi] at h
          cases h
      · rw [List.getElem?_append_right (by omega)] at h
        have := ih (o + k) (i - pre.length) v h
        rw [show o + k + (i - pre.length) = o + i by omega] at this
        exact List.mem_cons_of_mem _ this
    have hn0 : ∀ j : Nat, 0 < j → j < 1 → ([some w] : sx_Lo)[j]? = some none := fun j h1 h2 => absurd h2 (by omega)
    have hn2 : ∀ j : Nat, 0 < j → j < 2 → ([some w, none] : sx_Lo)[j]? = some none := fun j h1 h2 => by
      rw [show j = 1 by omega]; rfl
    cases w
    case long x => exact key 2 [some (.long x), none] rfl rfl rfl hn2 (by rw [sx_mv_cat]; rfl)
    case double x => exact key 2 [some (.double x), none] rfl rfl rfl hn2 (by rw [sx_mv_cat]; rfl)
    case int x => exact key 1 [some (.int x)] rfl rfl rfl hn0 (by rw [sx_mv_cat]; rfl)
    case float x => exact key 1 [some (.float x)] rfl rfl rfl hn0 (by rw [sx_mv_cat]; rfl)
    case null => exact key 1 [some .null] rfl rfl rfl hn0 (by rw [sx_mv_cat]; rfl)
    case ref x => exact key 1 [some (.ref x)] rfl rfl rfl hn0 (by rw [sx_mv_cat]; rfl)
    case retAddr x => exact key 1 [some (.retAddr x)] rfl rfl rfl hn0 (by rw [sx_mv_cat]; rfl)
theorem sx_LR_en (ad : sx_AD) (as : List Value) {n : Nat} (h : (sx_ea as).length ≤ n) : sx_LR ad n ((lg_sl (as.map (sx_mv ad)) ++ List.replicate (n - (lg_sl (as.map (sx_mv ad))).length) Slot.unset).toArray) (sx_en n as) := by
  have h1 := lv_entry (as.map (sx_mv ad)) (n := n) (by rw [← sx_ea_len]; exact h)
  refine ⟨h1.1, by simp [sx_en]; omega, h1.2.1, fun i v hv => ?_⟩
  have h2 := hv.1
  unfold sx_en at h2
  by_cases hi : i < (sx_ea as).length
  · rw [List.getElem?_append_left hi] at h2
    have h3 := sx_ea_at ad as 0 i v h2
    rw [Nat.zero_add] at h3
    exact h1.2.2 _ h3
  · rw [List.getElem?_append_right (by omega)] at h2
    have := List.mem_of_getElem? h2
    rw [List.mem_replicate] at this
    exact absurd this.2 (by simp)
