/-! WAYS on both sides -/
def low (x : Int32) : Prop := ∀ i, 16 ≤ i → i < 32 → bt x i = false
theorem b_sl1 (x : Int32) {i : Nat} (hi : i < 32) : bt (x <<< (1 : Int32)) i = (decide (1 ≤ i) && bt x (i - 1)) := by
  have := b_shl 1 (by decide) x hi
  rw [show nI 1 &&& 31 = (1 : Int32) by decide] at this
  exact this
theorem b_sl4 (x : Int32) {i : Nat} (hi : i < 32) : bt (x <<< (4 : Int32)) i = (decide (4 ≤ i) && bt x (i - 4)) := by
  have := b_shl 4 (by decide) x hi
  rw [show nI 4 &&& 31 = (4 : Int32) by decide] at this
  exact this
theorem b_us1 (x : Int32) (i : Nat) : bt ((x.toUInt32 >>> (1 : UInt32)).toInt32) i = bt x (1 + i) := by
  have := b_ushr 1 (by decide) x i
  rw [show (nI 1).toUInt32 &&& Int32.toUInt32 31 = (1 : UInt32) by decide] at this
  exact this
theorem b_us4 (x : Int32) (i : Nat) : bt ((x.toUInt32 >>> (4 : UInt32)).toInt32) i = bt x (4 + i) := by
  have := b_ushr 4 (by decide) x i
  rw [show (nI 4).toUInt32 &&& Int32.toUInt32 31 = (4 : UInt32) by decide] at this
  exact this
theorem mk1 : ∀ j, j < 16 → bt (-34953) j = decide (j % 4 ≠ 3) := by decide +kernel
theorem mk2 : ∀ j, j < 16 → bt (-4370) j = decide (j % 4 ≠ 0) := by decide +kernel
theorem spr_hi (x : Int32) {i : Nat} (h : 16 ≤ i) : bt (sprF x) i = false := by
  unfold sprF
  rw [b_and, b_65535, decide_eq_false (show ¬ i < 16 by omega), Bool.and_false]
theorem i16 {i : Nat} (h : i < 16) : i = 0 ∨ i = 1 ∨ i = 2 ∨ i = 3 ∨ i = 4 ∨ i = 5 ∨ i = 6 ∨ i = 7 ∨ i = 8 ∨ i = 9 ∨ i = 10 ∨ i = 11 ∨ i = 12 ∨ i = 13 ∨ i = 14 ∨ i = 15 := by omega
theorem spr_bt (x : Int32) (hx : low x) {i : Nat} (h : i < 16) : bt (sprF x) i = (bt x i || ((decide (i % 4 ≠ 0) && bt x (i - 1)) || ((decide (i % 4 ≠ 3) && bt x (i + 1)) || ((decide (4 ≤ i) && bt x (i - 4)) || (decide (i < 12) && bt x (i + 4)))))) := by
  have t16 := hx 16 (by omega) (by omega)
  have t17 := hx 17 (by omega) (by omega)
  have t18 := hx 18 (by omega) (by omega)
  have t19 := hx 19 (by omega) (by omega)
  unfold sprF
  rw [b_and, b_or, b_or, b_or, b_or, b_sl1 _ (by omega), b_us1, b_sl4 _ (by omega), b_us4, b_65535, b_and, b_and]
  rcases i16 h with rfl | rfl | rfl | rfl | rfl | rfl | rfl | rfl | rfl | rfl | rfl | rfl | rfl | rfl | rfl | rfl <;> simp [mk1, mk2, t16, t17, t18, t19, Bool.or_assoc, Bool.or_comm, Bool.or_left_comm]
def exB (f : Nat → Bool) : Nat → Bool
  | 0 => false
  | n + 1 => f n || exB f n
def adj (p i : Nat) : Bool := decide (i < 16) && ((decide (i + 1 = p) && decide (p % 4 ≠ 0)) || ((decide (i = p + 1) && decide (p % 4 ≠ 3)) || (decide (i + 4 = p) || decide (i = p + 4))))
theorem nt_bt : ∀ p, p < 16 → ∀ i, i < 32 → bt (ntF (nI p)) i = adj p i := by decide +kernel
theorem an_bt (x : Int32) : ∀ n, n ≤ 16 → ∀ i, i < 32 → bt (anF x n) i = (bt x i || exB (fun p => bt x p && adj p i) n)
  | 0, _, i, _ => (Bool.or_false _).symm
  | n + 1, hn, i, hi => by
    have ih := an_bt x n (by omega) i hi
    unfold anF exB
    by_cases z : x >>> (nI n &&& 31) &&& 1 = 1
    · rw [if_pos z, b_or, ih, nt_bt n (by omega) i hi, (sb_1 x (by omega)).mp z, Bool.true_and]
      cases bt x i <;> cases exB (fun p => bt x p && adj p i) n <;> cases adj n i <;> rfl
    · have zf : bt x n = false := ts_nt (fun y => z ((sb_1 x (by omega)).mpr y))
      rw [if_neg z, ih, zf, Bool.false_and, Bool.false_or]
theorem an_spr (x : Int32) (hx : low x) : anF x 16 = sprF x := by
  apply b_ext
  intro i hi
  rw [an_bt x 16 (by omega) i hi]
  by_cases h : i < 16
  · rw [spr_bt x hx h]
    rcases i16 h with rfl | rfl | rfl | rfl | rfl | rfl | rfl | rfl | rfl | rfl | rfl | rfl | rfl | rfl | rfl | rfl <;> simp [exB, adj, Bool.or_assoc, Bool.or_comm, Bool.or_left_comm]
  · have aj : ∀ p, adj p i = false := fun p => by
      unfold adj
      rw [decide_eq_false h, Bool.false_and]
    rw [spr_hi x (by omega), hx i (by omega) hi]
    simp [exB, aj]
theorem rm_bt (f : Nat → Bool) (pl : Int32) : ∀ n, n ≤ 16 → ∀ i, i < 32 → bt (rmF f pl n) i = (bt pl i && !(decide (i < n) && f i))
  | 0, _, i, _ => by
    show bt pl i = _
    simp
  | n + 1, hn, i, hi => by
    have ih := rm_bt f pl n (by omega) i hi
    unfold rmF
    by_cases z : pl >>> (nI n &&& 31) &&& 1 = 1 ∧ f n = true
    · rw [if_pos z, b_and, ih, bt_not _ hi, bt_sh1 (by omega) hi]
      by_cases e : i = n
      · subst e
        rw [decide_eq_true rfl, decide_eq_true (show i < i + 1 by omega), z.2]
        simp
      · rw [decide_eq_false e]
        by_cases l : i < n
        · rw [decide_eq_true l, decide_eq_true (show i < n + 1 by omega)]
          simp
        · rw [decide_eq_false l, decide_eq_false (show ¬ i < n + 1 by omega)]
          simp
    · rw [if_neg z, ih]
      by_cases e : i = n
      · subst e
        rw [decide_eq_false (show ¬ i < i by omega), decide_eq_true (show i < i + 1 by omega)]
        by_cases b : bt pl i = true
        · have fz : f i = false := ts_nt (fun y => z ⟨(sb_1 pl (by omega)).mpr b, y⟩)
          rw [fz]
          simp
        · rw [ts_nt b]
          simp
      · by_cases l : i < n
        · rw [decide_eq_true l, decide_eq_true (show i < n + 1 by omega)]
        · rw [decide_eq_false l, decide_eq_false (show ¬ i < n + 1 by omega)]
/-- the places that a least post guards -/
theorem gd_bt {cl : Int32} {po : Nat → Int32} {l : Int32} (hl : 1 ≤ l ∧ l ≤ 10) (hp0 : ∀ p, p < 16 → ∃ v, v ≤ 9 ∧ po p = nI v) {i : Nat} (hi : i < 16) : bt (gdF cl po (fun _ => 0) l.toNatClampNeg) i = (decide (cl = 0) && decide (l ≤ po i)) := by
  obtain ⟨j, hj, rfl⟩ := nI_of (Int32.not_lt.mpr (Int32.le_trans (show (0 : Int32) ≤ 1 by decide) hl.1))
  have j1 : 1 ≤ j := Nat.le_of_not_lt fun z => nI_ge (b := 1) z (by omega) hl.1
  have j10 : j ≤ 10 := Nat.le_of_not_lt fun z => nI_ge (a := 10) z (by omega) hl.2
  rw [nI_clamp hj]
  unfold gdF gdP
  by_cases c : cl = 0
  · rw [if_pos c, if_pos (by omega), decide_eq_true c, Bool.true_and]
    by_cases j9 : 1 ≤ j ∧ j ≤ 9
    · rw [if_pos j9, if_neg (by omega), bt_orF _ 16 (by omega) i (by omega), decide_eq_true hi, Bool.true_and]
    · obtain ⟨v, hv, ev⟩ := hp0 i hi
      rw [if_neg j9, b_0, ev, decide_eq_false (nI_ge (show v < j by omega) (by omega))]
  · rw [if_neg c, if_pos (by omega), decide_eq_false c, Bool.false_and]
    by_cases j9 : 1 ≤ j ∧ j ≤ 9
    · rw [if_pos j9, if_neg (by omega)]
      exact b_0 i
    · rw [if_neg j9]
      exact b_0 i
/-- a state of a way: shade, hour, places -/
def wV (X : Nat) (t : wT) : Prop := (∃ s, s ≤ 99 ∧ t.1 = nI s) ∧ t.2.1 = nI X ∧ low t.2.2
/-- one hour of a way, on both sides; pm: the posts that the model's row tells -/
theorem w_eq {cl : Int32} {po : Nat → Int32} {k c d X m : Nat} {sp : Int32} {w : Nat → Int32} {t : wT} (hk : k < 6) (hc : c ≤ 9) (hd : d ≤ 9) (hX : X < 200000) (hp0 : ∀ p, p < 16 → ∃ v, v ≤ 9 ∧ po p = nI v) (h : wV X t) (w2 : w 2 = cl) (w3 : w (35 + 6 * m + 3) = nI c) (w4 : w (35 + 6 * m + 4) = nI d) (wp : ∀ p, p < 16 → (bt sp p = true ∧ w (3 + p) = nI 0) ∨ (bt sp p = false ∧ w (3 + p) = po p)) : wS k (nI c) (nI d) cl po sp t = mws w m k t ∧ wV (X + 1) (mws w m k t) := by
  obtain ⟨⟨s, hs, es⟩, ex, hl⟩ := h
  obtain ⟨u, hu, eu⟩ := s1_N (X := X) hk hs hd (by omega)
  have e1 : mx0 (t.1 - fadeF k (nI d) (hT t.2.1)) = nI u := by
    rw [es, ex]
    exact eu
  have e2 : s1P k (nI d) t.1 t.2.1 = nI u := e1
  have re : (wS k (nI c) (nI d) cl po sp t).2.2 = (mws w m k t).2.2 := by
    show sprF t.2.2 &&& ((gdF cl po (fun _ => 0) (lpF k (mx0 (t.1 - fadeF k (nI d) (hT t.2.1))) (nI c) (nI d) (t.2.1 + 1)).toNatClampNeg &&& (sp ^^^ (-1))) ^^^ (-1)) = rmF (fun p => fmB (w 2) (w (3 + p)) k (s1P k (w (35 + 6 * m + 4)) t.1 t.2.1) (w (35 + 6 * m + 3)) (w (35 + 6 * m + 4)) (t.2.1 + 1)) (anF t.2.2 16) 16
    rw [an_spr t.2.2 hl, w2, w3, w4, e1, e2, ex, nI_1]
    apply b_ext
    intro i hi
    rw [rm_bt _ _ 16 (by omega) i hi, b_and, bt_not _ hi, b_and, bt_not _ hi]
    by_cases l : i < 16
    · rw [gd_bt (lpF_in _ _ _ _ _).2 hp0 l, decide_eq_true l, Bool.true_and]
      obtain ⟨v, hv, ev⟩ := hp0 i l
      have fm := fd_fm (cl := cl) (po := po) (X := X + 1) hk l (show u ≤ 99 by omega) hc hd (by omega) hv ev
      unfold fdB at fm
      rw [nI_clamp (show i < 2 ^ 31 by omega)] at fm
      rw [fm]
      rcases wp i l with ⟨b1, b2⟩ | ⟨b1, b2⟩
      · have f0 : fmB cl (nI 0) k (nI u) (nI c) (nI d) (nI (X + 1)) = false := rfl
        rw [b1, b2, f0]
        simp
      · rw [b1, b2, ev]
        simp
    · rw [spr_hi _ (by omega)]
      simp
  have lo : low (mws w m k t).2.2 := by
    intro i h1 h2
    rw [← re]
    show bt (sprF t.2.2 &&& _) i = false
    rw [b_and, spr_hi _ h1, Bool.false_and]
  have sh : (mws w m k t).1 = nI u := by
    show s1P k (w (35 + 6 * m + 4)) t.1 t.2.1 = nI u
    rw [w4]
    exact e2
  refine ⟨Prod.ext ?_ (Prod.ext rfl re), ⟨u, by omega, sh⟩, ?_, lo⟩
  · rw [sh]
    exact e1
  · show t.2.1 + 1 = nI (X + 1)
    rw [ex, nI_1]
theorem ht_cong {st st' : wT → wT} {B : Nat} (p : Int32) (hst : ∀ X t, X < B → wV X t → st t = st' t ∧ wV (X + 1) (st' t)) : ∀ m j X t, wV X t → X + m ≤ B → htF st p m j t = htF st' p m j t
  | 0, _, _, _, _, _ => rfl
  | m + 1, j, X, t, h, hB => by
    obtain ⟨e, v⟩ := hst X t (by omega) h
    unfold htF
    by_cases z : t.2.2 &&& ((1 : Int32) <<< (p &&& 31)) = 0
    · rw [if_pos z, if_pos z, e]
      exact ht_cong p hst m (j + 1) (X + 1) _ v (by omega)
    · rw [if_neg z, if_neg z]
theorem it_cong {st st' : wT → wT} {B : Nat} (hst : ∀ X t, X < B → wV X t → st t = st' t ∧ wV (X + 1) (st' t)) {X : Nat} {t : wT} (h : wV X t) : ∀ j, X + j ≤ B → itW st t j = itW st' t j ∧ wV (X + j) (itW st' t j)
  | 0, _ => ⟨rfl, h⟩
  | j + 1, hB => by
    obtain ⟨e, v⟩ := it_cong hst h j (by omega)
    obtain ⟨e2, v2⟩ := hst (X + j) (itW st' t j) (by omega) v
    refine ⟨?_, v2⟩
    show st (itW st t j) = st' (itW st' t j)
    rw [e, e2]
theorem wg_cong (k : Nat) (du : Int32) {pr pr' : Nat → Int32} (hp0 : ∀ p, p < 16 → pr p = pr' p) (t : wT) (hs : Int32) (b : Int32 × Int32) : ∀ p, p ≤ 16 → wgP k du pr t hs b p = wgP k du pr' t hs b p
  | 0, _ => rfl
  | p + 1, h => by
    have ih := wg_cong k du hp0 t hs b p (by omega)
    unfold wgP
    rw [ih, hp0 p (by omega)]
theorem sk_cong (k : Nat) (du : Int32) {pr pr' : Nat → Int32} (hp0 : ∀ p, p < 16 → pr p = pr' p) {st st' : wT → wT} {B : Nat} (hst : ∀ X t, X < B → wV X t → st t = st' t ∧ wV (X + 1) (st' t)) {X : Nat} {t : wT} (h : wV X t) (b : Int32 × Int32) : ∀ j, X + j ≤ B → skB k du pr st t b j = skB k du pr' st' t b j
  | 0, _ => rfl
  | j + 1, hB => by
    have ih := sk_cong k du hp0 hst h b j (by omega)
    obtain ⟨e, -⟩ := it_cong hst h j (by omega)
    unfold skB
    rw [ih, e, wg_cong k du hp0 _ _ _ 16 (by omega)]
