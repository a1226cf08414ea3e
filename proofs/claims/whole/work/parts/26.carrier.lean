/-! CARRIERS: dispatch by kind, become, start, fadeIn, leastPostThatFinds; the state's finds and passHour -/
theorem k6 {k : Nat} (hk : k < 6) : k = 0 ∨ k = 1 ∨ k = 2 ∨ k = 3 ∨ k = 4 ∨ k = 5 := by omega
section DISP
variable (d : Nat) (S : hs_S) (k a : Nat) (x : Int32) (f : sx_R → Option sx_R)
theorem vd_cool (ha : isCar a = true) (hk : k < 6) : ((sx_kl (hp S) (5 + k)).bind (fun c => List.lookup c ([(0, 1), (1, 5), (3, 14), (4, 18), (5, 21), (7, 39)] : List (Nat × Nat)))).bind (fun kk => (sx_call (d + 3) kk [.ref (5 + k), .ref a, .int x] (hp S)).bind f) = f (some (.int (coolF k (S.1 a 2) (S.1 a 4) x)), hp S) := by
  rcases k6 hk with rfl | rfl | rfl | rfl | rfl | rfl
  · simp only [Nat.reduceAdd, KL_5, Option.bind_some, LK_0_0, LK_0_1, LK_0_3, LK_0_4, LK_0_5, LK_0_7, LK_1_0, LK_1_1, LK_1_3, LK_1_4, LK_1_5, LK_1_7, LK_2_3, LK_2_7, LK_3_3, LK_3_7, LK_4_3, LK_4_7, LK_5_0, LK_5_4, LK_6_0, LK_6_1, LK_6_3, LK_6_4, LK_6_5, LK_6_7, LK_7_0, LK_7_1, LK_7_3, LK_7_4, LK_7_5, LK_7_7, sp_Kind_cool (d + 2) S 5 a x ha]; rfl
  · simp only [Nat.reduceAdd, KL_6, Option.bind_some, LK_0_0, LK_0_1, LK_0_3, LK_0_4, LK_0_5, LK_0_7, LK_1_0, LK_1_1, LK_1_3, LK_1_4, LK_1_5, LK_1_7, LK_2_3, LK_2_7, LK_3_3, LK_3_7, LK_4_3, LK_4_7, LK_5_0, LK_5_4, LK_6_0, LK_6_1, LK_6_3, LK_6_4, LK_6_5, LK_6_7, LK_7_0, LK_7_1, LK_7_3, LK_7_4, LK_7_5, LK_7_7, sp_Granny_cool (d + 1) S 6 a x ha (Or.inl (KL_6 S))]; rfl
  · simp only [Nat.reduceAdd, KL_7, Option.bind_some, LK_0_0, LK_0_1, LK_0_3, LK_0_4, LK_0_5, LK_0_7, LK_1_0, LK_1_1, LK_1_3, LK_1_4, LK_1_5, LK_1_7, LK_2_3, LK_2_7, LK_3_3, LK_3_7, LK_4_3, LK_4_7, LK_5_0, LK_5_4, LK_6_0, LK_6_1, LK_6_3, LK_6_4, LK_6_5, LK_6_7, LK_7_0, LK_7_1, LK_7_3, LK_7_4, LK_7_5, LK_7_7, sp_Dealer_cool (d + 1) S 7 a x ha (Or.inl (KL_7 S))]; rfl
  · simp only [Nat.reduceAdd, KL_8, Option.bind_some, LK_0_0, LK_0_1, LK_0_3, LK_0_4, LK_0_5, LK_0_7, LK_1_0, LK_1_1, LK_1_3, LK_1_4, LK_1_5, LK_1_7, LK_2_3, LK_2_7, LK_3_3, LK_3_7, LK_4_3, LK_4_7, LK_5_0, LK_5_4, LK_6_0, LK_6_1, LK_6_3, LK_6_4, LK_6_5, LK_6_7, LK_7_0, LK_7_1, LK_7_3, LK_7_4, LK_7_5, LK_7_7, sp_Caravan_cool (d + 2) S 8 a x ha]; rfl
  · simp only [Nat.reduceAdd, KL_9, Option.bind_some, LK_0_0, LK_0_1, LK_0_3, LK_0_4, LK_0_5, LK_0_7, LK_1_0, LK_1_1, LK_1_3, LK_1_4, LK_1_5, LK_1_7, LK_2_3, LK_2_7, LK_3_3, LK_3_7, LK_4_3, LK_4_7, LK_5_0, LK_5_4, LK_6_0, LK_6_1, LK_6_3, LK_6_4, LK_6_5, LK_6_7, LK_7_0, LK_7_1, LK_7_3, LK_7_4, LK_7_5, LK_7_7, sp_Bride_cool d S 9 a x ha (KL_9 S)]; rfl
  · simp only [Nat.reduceAdd, KL_10, Option.bind_some, LK_0_0, LK_0_1, LK_0_3, LK_0_4, LK_0_5, LK_0_7, LK_1_0, LK_1_1, LK_1_3, LK_1_4, LK_1_5, LK_1_7, LK_2_3, LK_2_7, LK_3_3, LK_3_7, LK_4_3, LK_4_7, LK_5_0, LK_5_4, LK_6_0, LK_6_1, LK_6_3, LK_6_4, LK_6_5, LK_6_7, LK_7_0, LK_7_1, LK_7_3, LK_7_4, LK_7_5, LK_7_7, sp_Priest_cool d S 10 a x ha (KL_10 S)]; rfl
theorem vd_fading (ha : isCar a = true) (hk : k < 6) : ((sx_kl (hp S) (5 + k)).bind (fun c => List.lookup c ([(0, 2), (1, 6), (3, 15), (4, 22), (5, 22), (7, 15)] : List (Nat × Nat)))).bind (fun kk => (sx_call (d + 2) kk [.ref (5 + k), .ref a, .int x] (hp S)).bind f) = f (some (.int (fadeF k (S.1 a 4) x)), hp S) := by
  rcases k6 hk with rfl | rfl | rfl | rfl | rfl | rfl
  · simp only [Nat.reduceAdd, KL_5, Option.bind_some, LK_0_0, LK_0_1, LK_0_3, LK_0_4, LK_0_5, LK_0_7, LK_1_0, LK_1_1, LK_1_3, LK_1_4, LK_1_5, LK_1_7, LK_2_3, LK_2_7, LK_3_3, LK_3_7, LK_4_3, LK_4_7, LK_5_0, LK_5_4, LK_6_0, LK_6_1, LK_6_3, LK_6_4, LK_6_5, LK_6_7, LK_7_0, LK_7_1, LK_7_3, LK_7_4, LK_7_5, LK_7_7, sp_Kind_fading (d + 1) S 5 a x ha]; rfl
  · simp only [Nat.reduceAdd, KL_6, Option.bind_some, LK_0_0, LK_0_1, LK_0_3, LK_0_4, LK_0_5, LK_0_7, LK_1_0, LK_1_1, LK_1_3, LK_1_4, LK_1_5, LK_1_7, LK_2_3, LK_2_7, LK_3_3, LK_3_7, LK_4_3, LK_4_7, LK_5_0, LK_5_4, LK_6_0, LK_6_1, LK_6_3, LK_6_4, LK_6_5, LK_6_7, LK_7_0, LK_7_1, LK_7_3, LK_7_4, LK_7_5, LK_7_7, sp_Kind_fading (d + 1) S 6 a x ha]; rfl
  · simp only [Nat.reduceAdd, KL_7, Option.bind_some, LK_0_0, LK_0_1, LK_0_3, LK_0_4, LK_0_5, LK_0_7, LK_1_0, LK_1_1, LK_1_3, LK_1_4, LK_1_5, LK_1_7, LK_2_3, LK_2_7, LK_3_3, LK_3_7, LK_4_3, LK_4_7, LK_5_0, LK_5_4, LK_6_0, LK_6_1, LK_6_3, LK_6_4, LK_6_5, LK_6_7, LK_7_0, LK_7_1, LK_7_3, LK_7_4, LK_7_5, LK_7_7, sp_Dealer_fading d S 7 a x ha (Or.inl (KL_7 S))]; rfl
  · simp only [Nat.reduceAdd, KL_8, Option.bind_some, LK_0_0, LK_0_1, LK_0_3, LK_0_4, LK_0_5, LK_0_7, LK_1_0, LK_1_1, LK_1_3, LK_1_4, LK_1_5, LK_1_7, LK_2_3, LK_2_7, LK_3_3, LK_3_7, LK_4_3, LK_4_7, LK_5_0, LK_5_4, LK_6_0, LK_6_1, LK_6_3, LK_6_4, LK_6_5, LK_6_7, LK_7_0, LK_7_1, LK_7_3, LK_7_4, LK_7_5, LK_7_7, sp_Caravan_fading d S 8 a x ha (KL_8 S)]; rfl
  · simp only [Nat.reduceAdd, KL_9, Option.bind_some, LK_0_0, LK_0_1, LK_0_3, LK_0_4, LK_0_5, LK_0_7, LK_1_0, LK_1_1, LK_1_3, LK_1_4, LK_1_5, LK_1_7, LK_2_3, LK_2_7, LK_3_3, LK_3_7, LK_4_3, LK_4_7, LK_5_0, LK_5_4, LK_6_0, LK_6_1, LK_6_3, LK_6_4, LK_6_5, LK_6_7, LK_7_0, LK_7_1, LK_7_3, LK_7_4, LK_7_5, LK_7_7, sp_Bride_fading d S 9 a x ha (KL_9 S)]; rfl
  · simp only [Nat.reduceAdd, KL_10, Option.bind_some, LK_0_0, LK_0_1, LK_0_3, LK_0_4, LK_0_5, LK_0_7, LK_1_0, LK_1_1, LK_1_3, LK_1_4, LK_1_5, LK_1_7, LK_2_3, LK_2_7, LK_3_3, LK_3_7, LK_4_3, LK_4_7, LK_5_0, LK_5_4, LK_6_0, LK_6_1, LK_6_3, LK_6_4, LK_6_5, LK_6_7, LK_7_0, LK_7_1, LK_7_3, LK_7_4, LK_7_5, LK_7_7, sp_Dealer_fading d S 10 a x ha (Or.inr (KL_10 S))]; rfl
theorem vd_worth (ha : isCar a = true) (hk : k < 6) : ((sx_kl (hp S) (5 + k)).bind (fun c => List.lookup c ([(0, 3), (1, 7), (3, 16), (4, 23), (5, 23), (7, 40)] : List (Nat × Nat)))).bind (fun kk => (sx_call (d + 2) kk [.ref (5 + k), .ref a, .int x] (hp S)).bind f) = f (some (.int (worthF k (S.1 a 2) (S.1 a 4) x)), hp S) := by
  rcases k6 hk with rfl | rfl | rfl | rfl | rfl | rfl
  · simp only [Nat.reduceAdd, KL_5, Option.bind_some, LK_0_0, LK_0_1, LK_0_3, LK_0_4, LK_0_5, LK_0_7, LK_1_0, LK_1_1, LK_1_3, LK_1_4, LK_1_5, LK_1_7, LK_2_3, LK_2_7, LK_3_3, LK_3_7, LK_4_3, LK_4_7, LK_5_0, LK_5_4, LK_6_0, LK_6_1, LK_6_3, LK_6_4, LK_6_5, LK_6_7, LK_7_0, LK_7_1, LK_7_3, LK_7_4, LK_7_5, LK_7_7, sp_Kind_worth (d + 1) S 5 a x ha]; rfl
  · simp only [Nat.reduceAdd, KL_6, Option.bind_some, LK_0_0, LK_0_1, LK_0_3, LK_0_4, LK_0_5, LK_0_7, LK_1_0, LK_1_1, LK_1_3, LK_1_4, LK_1_5, LK_1_7, LK_2_3, LK_2_7, LK_3_3, LK_3_7, LK_4_3, LK_4_7, LK_5_0, LK_5_4, LK_6_0, LK_6_1, LK_6_3, LK_6_4, LK_6_5, LK_6_7, LK_7_0, LK_7_1, LK_7_3, LK_7_4, LK_7_5, LK_7_7, sp_Kind_worth (d + 1) S 6 a x ha]; rfl
  · simp only [Nat.reduceAdd, KL_7, Option.bind_some, LK_0_0, LK_0_1, LK_0_3, LK_0_4, LK_0_5, LK_0_7, LK_1_0, LK_1_1, LK_1_3, LK_1_4, LK_1_5, LK_1_7, LK_2_3, LK_2_7, LK_3_3, LK_3_7, LK_4_3, LK_4_7, LK_5_0, LK_5_4, LK_6_0, LK_6_1, LK_6_3, LK_6_4, LK_6_5, LK_6_7, LK_7_0, LK_7_1, LK_7_3, LK_7_4, LK_7_5, LK_7_7, sp_Dealer_worth d S 7 a x ha (Or.inl (KL_7 S))]; rfl
  · simp only [Nat.reduceAdd, KL_8, Option.bind_some, LK_0_0, LK_0_1, LK_0_3, LK_0_4, LK_0_5, LK_0_7, LK_1_0, LK_1_1, LK_1_3, LK_1_4, LK_1_5, LK_1_7, LK_2_3, LK_2_7, LK_3_3, LK_3_7, LK_4_3, LK_4_7, LK_5_0, LK_5_4, LK_6_0, LK_6_1, LK_6_3, LK_6_4, LK_6_5, LK_6_7, LK_7_0, LK_7_1, LK_7_3, LK_7_4, LK_7_5, LK_7_7, sp_Caravan_worth d S 8 a x ha (KL_8 S)]; rfl
  · simp only [Nat.reduceAdd, KL_9, Option.bind_some, LK_0_0, LK_0_1, LK_0_3, LK_0_4, LK_0_5, LK_0_7, LK_1_0, LK_1_1, LK_1_3, LK_1_4, LK_1_5, LK_1_7, LK_2_3, LK_2_7, LK_3_3, LK_3_7, LK_4_3, LK_4_7, LK_5_0, LK_5_4, LK_6_0, LK_6_1, LK_6_3, LK_6_4, LK_6_5, LK_6_7, LK_7_0, LK_7_1, LK_7_3, LK_7_4, LK_7_5, LK_7_7, sp_Bride_worth d S 9 a x ha (KL_9 S)]; rfl
  · simp only [Nat.reduceAdd, KL_10, Option.bind_some, LK_0_0, LK_0_1, LK_0_3, LK_0_4, LK_0_5, LK_0_7, LK_1_0, LK_1_1, LK_1_3, LK_1_4, LK_1_5, LK_1_7, LK_2_3, LK_2_7, LK_3_3, LK_3_7, LK_4_3, LK_4_7, LK_5_0, LK_5_4, LK_6_0, LK_6_1, LK_6_3, LK_6_4, LK_6_5, LK_6_7, LK_7_0, LK_7_1, LK_7_3, LK_7_4, LK_7_5, LK_7_7, sp_Priest_worth (d + 1) S 10 a x]; rfl
end DISP
/-- a carrier's fields set all at once -/
def setC (S : hs_S) (a k : Nat) (pl sh co du ca : Int32) : hs_S := (fun b j => if b = a then (if j = 1 then pl else if j = 2 then sh else if j = 3 then co else if j = 4 then du else if j = 5 then ca else S.1 b j) else S.1 b j, S.2.1, S.2.2.1, fun b => if b = a then k else S.2.2.2 b)
theorem uF_K (S : hs_S) (a k : Nat) (v : Int32) : (uF S a k v).2.2.2 = S.2.2.2 := rfl
theorem uF_I (S : hs_S) (a k : Nat) (v : Int32) : (uF S a k v).2.1 = S.2.1 := rfl
theorem uF_J (S : hs_S) (a k : Nat) (v : Int32) : (uF S a k v).2.2.1 = S.2.2.1 := rfl
theorem uF_at (S : hs_S) (a k : Nat) (v : Int32) : (uF S a k v).1 a k = v := by rw [uF_1, if_pos ⟨rfl, rfl⟩]
theorem uF_off (S : hs_S) (a k : Nat) (v : Int32) {b j : Nat} (h : b ≠ a ∨ j ≠ k) : (uF S a k v).1 b j = S.1 b j := by
  rw [uF_1, if_neg]
  intro z
  rcases h with h | h
  · exact h z.1
  · exact h z.2
theorem uF_uF (S : hs_S) (a k : Nat) (v w : Int32) : uF (uF S a k v) a k w = uF S a k w := by
  unfold uF
  refine Prod.ext ?_ rfl
  funext b j
  dsimp only
  by_cases h : b = a ∧ j = k
  · rw [if_pos h, if_pos h]
  · rw [if_neg h, if_neg h, if_neg h]
theorem setC_of (S : hs_S) (a k : Nat) (pl sh co du ca : Int32) : uF (uF (uF (uF (uF (uK S a k) a 1 pl) a 2 sh) a 3 co) a 4 du) a 5 ca = setC S a k pl sh co du ca := by
  unfold uF uK setC
  refine Prod.ext ?_ rfl
  funext b j
  dsimp only
  by_cases hb : b = a
  · subst hb
    by_cases h5 : j = 5
    · subst h5; simp
    · by_cases h4 : j = 4
      · subst h4; simp
      · by_cases h3 : j = 3
        · subst h3; simp
        · by_cases h2 : j = 2
          · subst h2; simp
          · by_cases h1 : j = 1
            · subst h1; simp
            · simp [h1, h2, h3, h4, h5]
  · simp [hb]
theorem sp_Carrier_become (d : Nat) (S : hs_S) (a b : Nat) (ha : isCar a = true) (hb : isCar b = true) (hab : b ≠ a) : sx_call (d + 1) 9 [.ref a, .ref b] (hp S) = some (none, hp (setC S a (S.2.2.2 b) (S.1 b 1) (S.1 b 2) (S.1 b 3) (S.1 b 4) (S.1 b 5))) := by
  rw [cz9]
  simp only [ez9_0, ez9_1, ez9_2, ez9_5, ez9_8, ez9_9, ez9_10, ez9_13, ez9_16, ez9_17, ez9_18, ez9_21, ez9_24, ez9_25, ez9_26, ez9_29, ez9_32, ez9_33, ez9_34, ez9_37, ez9_40, ez9_41, ez9_42, ez9_45, ez9_48, GC_0 _ hb, GC_1 _ hb, GC_2 _ hb, GC_3 _ hb, GC_4 _ hb, GC_5 _ hb, PC_0 _ ha, PC_1 _ ha, PC_2 _ ha, PC_3 _ ha, PC_4 _ ha, PC_5 _ ha, Option.bind_some, uF_1, uK_1, hab, false_and, if_false]
  rw [setC_of]
theorem sp_Carrier_start (d : Nat) (S : hs_S) (a k : Nat) (pl : Int32) (ha : isCar a = true) : sx_call (d + 1) 10 [.ref a, .ref (5 + k), .int pl] (hp S) = some (none, hp (setC S a k pl 20 0 0 0)) := by
  rw [cz10]
  simp only [ez10_0, ez10_1, ez10_2, ez10_5, ez10_6, ez10_7, ez10_10, ez10_11, ez10_13, ez10_16, ez10_17, ez10_18, ez10_21, ez10_22, ez10_23, ez10_26, ez10_27, ez10_28, ez10_31, PC_0 _ ha, PC_1 _ ha, PC_2 _ ha, PC_3 _ ha, PC_4 _ ha, PC_5 _ ha, Option.bind_some]
  rw [setC_of]
theorem sp_Carrier_fadeIn (d : Nat) (S : hs_S) (a : Nat) (x : Int32) (ha : isCar a = true) (hk : S.2.2.2 a < 6) (hx : 0 ≤ x) : sx_call (d + 3) 11 [.ref a, .int x] (hp S) = some (none, hp (uF S a 2 (mx0 (S.1 a 2 - fadeF (S.2.2.2 a) (S.1 a 4) (hT x))))) := by
  rw [cz11]
  simp only [ez11_0, ez11_1, ez11_2, ez11_3, ez11_6, ez11_7, ez11_10, ez11_11, ez11_12, ez11_15, ez11_18, ez11_19, ez11_22, ez11_25, GC_0 _ ha, GC_2 _ ha, Option.bind_some, sp_heatAt d x _ hx, tl_s, vd_fading _ S (S.2.2.2 a) a _ _ ha hk, sp_Math_max, PC_2 _ ha]
  rfl
def lpF (k : Nat) (sh co du x : Int32) : Int32 := if sh = 0 then 10 else (if 1 < (if 9 + co - coolF k sh du x - hT x / 3 + 1 < 10 then 9 + co - coolF k sh du x - hT x / 3 + 1 else 10) then (if 9 + co - coolF k sh du x - hT x / 3 + 1 < 10 then 9 + co - coolF k sh du x - hT x / 3 + 1 else 10) else 1)
theorem sp_Carrier_lp (d : Nat) (S : hs_S) (a : Nat) (x : Int32) (ha : isCar a = true) (hk : S.2.2.2 a < 6) (hx : 0 ≤ x) : sx_call (d + 4) 12 [.ref a, .int x] (hp S) = some (some (.int (lpF (S.2.2.2 a) (S.1 a 2) (S.1 a 3) (S.1 a 4) x)), hp S) := by
  rw [cz12]
  simp only [ez12_0, ez12_1, ez12_4, ez12_7, ez12_9, ez12_10, ez12_12, ez12_13, ez12_16, ez12_17, ez12_18, ez12_21, ez12_22, ez12_23, ez12_26, ez12_27, ez12_28, ez12_31, ez12_32, ez12_33, ez12_34, ez12_35, ez12_36, ez12_37, ez12_38, ez12_40, ez12_41, ez12_44, ez12_47, GC_0 _ ha, GC_2 _ ha, GC_3 _ ha, Option.bind_some, sp_heatAt (d + 1) x _ hx, tl_s, vd_cool _ S (S.2.2.2 a) a _ _ ha hk, sp_Math_max, sp_Math_min, z_3, if_false]
  unfold lpF
  by_cases h : S.1 a 2 = 0
  · simp only [h, if_true, not_true, if_false]
  · simp only [h, if_false, not_false_iff, if_true]
