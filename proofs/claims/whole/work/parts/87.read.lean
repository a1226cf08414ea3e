/-! THE STEP read -/
theorem rm_0 (f : Nat → Bool) : rmF f 0 16 = 0 := by
  apply b_ext
  intro j hj
  rw [rm_bt f 0 16 (by omega) j hj, b_0, Bool.false_and]
theorem rm_1 (f : Nat → Bool) {k : Nat} (hk : k < 16) : rmF f ((1 : Int32) <<< (nI k &&& 31)) 16 = if f k = true then 0 else (1 : Int32) <<< (nI k &&& 31) := by
  apply b_ext
  intro j hj
  rw [rm_bt f _ 16 (by omega) j hj, bt_sh1 (by omega) hj]
  by_cases e : j = k
  · subst e
    rw [decide_eq_true rfl, decide_eq_true hk]
    by_cases z : f j = true
    · rw [if_pos z, z, b_0]
      rfl
    · rw [if_neg z, ts_nt z, bt_sh1 (by omega) hj, decide_eq_true rfl]
      rfl
  · rw [decide_eq_false e, Bool.false_and]
    by_cases z : f k = true
    · rw [if_pos z, b_0]
    · rw [if_neg z, bt_sh1 (by omega) hj, decide_eq_false e]
theorem one_of {x : Int32} {k : Nat} (hk : k < 16) (h : ¬ x &&& ((1 : Int32) <<< (nI k &&& 31)) = 0) : x &&& ((1 : Int32) <<< (nI k &&& 31)) = (1 : Int32) <<< (nI k &&& 31) := by
  have b : bt x k = true := ts_nf (fun z => h ((ab_z x (by omega)).mpr z))
  apply b_ext
  intro j hj
  rw [b_and, bt_sh1 (by omega) hj]
  by_cases e : j = k
  · subst e
    rw [b, Bool.true_and]
  · rw [decide_eq_false e, Bool.and_false]
theorem sh1_ne {k : Nat} (hk : k < 16) : ¬ (1 : Int32) <<< (nI k &&& 31) = 0 := by
  intro z
  have b := bt_sh1 (n := k) (i := k) (by omega) (by omega)
  rw [z, b_0, decide_eq_true rfl] at b
  cases b
theorem i15 : (15 : Int64).toInt = 15 := by decide
theorem i16l : (16 : Int64).toInt = 16 := by decide
theorem i0l : (0 : Int64).toInt = 0 := by decide
theorem rd_eq {S : hs_S} {n m H : Nat} {f f' : Nat → Int64} (h : Rel S n) (hm : m < n) (hH : H ≤ 99999) (ef : ∀ i, i < 40 → f' i = f i) : ∀ e i p s, i + e ≤ 40 → p < 16 → s ≤ 99 → rmD (S.2.1 62) m (kOf S m) f' e i (nI s, nI (H + i), (1 : Int32) <<< (nI p &&& 31)) = rdF S m H f e i (nI p) (nI s)
  | 0, _, _, _, _, _, _ => rfl
  | e + 1, i, p, s, hi, hp0, hs => by
    obtain ⟨k6, -, -, ⟨du, hdu, edu⟩, -⟩ := c_rng h hm
    obtain ⟨u, hu, eu⟩ := s1_N (X := H + i) k6 hs hdu (by omega)
    have e1 : s1P (S.2.2.2 (15 + m)) (S.1 (15 + m) 4) (nI s) (nI (H + i)) = nI u := by
      rw [edu]
      exact eu
    have e4 : S.2.1 62 (35 + 6 * m + 4) = S.1 (15 + m) 4 := r_c h hm (by omega)
    have mg : ∀ X, mgo (S.2.1 62) m (kOf S m) X (nI s, nI (H + i), (1 : Int32) <<< (nI p &&& 31)) = (nI u, nI (H + (i + 1)), rmF (fun p => fmB (S.2.1 62 2) (S.2.1 62 (3 + p)) (S.2.2.2 (15 + m)) (nI u) (S.2.1 62 (35 + 6 * m + 3)) (S.2.1 62 (35 + 6 * m + 4)) (nI (H + i + 1))) X 16) := by
      intro X
      have eA : s1P (kOf S m) (S.2.1 62 (35 + 6 * m + 4)) (nI s) (nI (H + i)) = nI u := by
        rw [e4]
        exact e1
      show (s1P (kOf S m) (S.2.1 62 (35 + 6 * m + 4)) (nI s) (nI (H + i)), nI (H + i) + 1, rmF (fun p => fmB (S.2.1 62 2) (S.2.1 62 (3 + p)) (kOf S m) (s1P (kOf S m) (S.2.1 62 (35 + 6 * m + 4)) (nI s) (nI (H + i))) (S.2.1 62 (35 + 6 * m + 3)) (S.2.1 62 (35 + 6 * m + 4)) (nI (H + i) + 1)) X 16) = _
      rw [eA, nI_1]
      rfl
    show (if (mgo (S.2.1 62) m (kOf S m) (anF ((1 : Int32) <<< (nI p &&& 31)) 16 &&& toI (f' i)) (nI s, nI (H + i), (1 : Int32) <<< (nI p &&& 31))).2.2 = 0 then nI (i + 1) else rmD (S.2.1 62) m (kOf S m) f' e (i + 1) (mgo (S.2.1 62) m (kOf S m) (anF ((1 : Int32) <<< (nI p &&& 31)) 16 &&& toI (f' i)) (nI s, nI (H + i), (1 : Int32) <<< (nI p &&& 31)))) = (if f i < 0 ∨ 16 ≤ f i ∨ sprF ((1 : Int32) <<< (nI p &&& 31)) &&& ((1 : Int32) <<< ((f i).toInt32 &&& 31)) = 0 then nI (i + 1) else if fnW S m (f i).toInt32 (nI s) (nI (H + i)) = true then nI (i + 1) else rdF S m H f e (i + 1) (f i).toInt32 (shW S m (f i).toInt32 (nI s) (nI (H + i))))
    rw [an_spr _ (low_1 hp0), ef i (by omega), mg]
    by_cases z0 : f i < 0 ∨ 16 ≤ f i
    · have t0 : toI (f i) = 0 := if_neg (fun y => by
        have y1 := (fa_le64 0 (f i)).mp y.1
        have y2 := (fa_le64 (f i) 15).mp y.2
        rw [i0l] at y1
        rw [i15] at y2
        rcases z0 with z | z
        · have := (fa_lt64 (f i) 0).mp z
          rw [i0l] at this
          omega
        · have := (fa_le64 16 (f i)).mp z
          rw [i16l] at this
          omega)
      have x0 : sprF ((1 : Int32) <<< (nI p &&& 31)) &&& (0 : Int32) = 0 := by simp
      have or3 : f i < 0 ∨ 16 ≤ f i ∨ sprF ((1 : Int32) <<< (nI p &&& 31)) &&& ((1 : Int32) <<< ((f i).toInt32 &&& 31)) = 0 := by
        rcases z0 with z | z
        · exact Or.inl z
        · exact Or.inr (Or.inl z)
      rw [t0, x0, rm_0, if_pos rfl, if_pos or3]
    · have n1 : ¬ f i < 0 := fun y => z0 (Or.inl y)
      have n2 : ¬ 16 ≤ f i := fun y => z0 (Or.inr y)
      obtain ⟨-, k, hk, ek, -⟩ := in16_long n1 n2
      have t1 : toI (f i) = (1 : Int32) <<< (nI k &&& 31) := by
        unfold toI
        have c : 0 ≤ f i ∧ f i ≤ 15 := by
          refine ⟨Int64.not_lt.mp n1, (fa_le64 (f i) 15).mpr ?_⟩
          have := (fa_lt64 (f i) 16).mp (Int64.not_le.mp n2)
          rw [i16l] at this
          rw [i15]
          omega
        rw [if_pos c, ek]
      rw [t1, ek]
      by_cases z1 : sprF ((1 : Int32) <<< (nI p &&& 31)) &&& ((1 : Int32) <<< (nI k &&& 31)) = 0
      · rw [z1, rm_0, if_pos rfl, if_pos (Or.inr (Or.inr rfl))]
      · have fe := f_eq (X := H + i + 1) (s := u) h hm hk (by omega) (by omega)
        have fn : fnW S m (nI k) (nI s) (nI (H + i)) = fmB (S.2.1 62 2) (S.2.1 62 (3 + k)) (S.2.2.2 (15 + m)) (nI u) (S.2.1 62 (35 + 6 * m + 3)) (S.2.1 62 (35 + 6 * m + 4)) (nI (H + i + 1)) := by
          unfold fnW fnP
          rw [e1, nI_1]
          exact fe
        rw [one_of hk z1, rm_1 _ hk, ← fn]
        have or3 : ¬ (f i < 0 ∨ 16 ≤ f i ∨ sprF ((1 : Int32) <<< (nI p &&& 31)) &&& ((1 : Int32) <<< (nI k &&& 31)) = 0) := fun y => by
          rcases y with y | y | y
          · exact n1 y
          · exact n2 y
          · exact z1 y
        rw [one_of hk z1] at or3
        rw [if_neg or3]
        by_cases z2 : fnW S m (nI k) (nI s) (nI (H + i)) = true
        · rw [if_pos z2, if_pos z2, if_pos rfl]
        · rw [if_neg z2, if_neg z2]
          have sh : shW S m (nI k) (nI s) (nI (H + i)) = nI u := by
            have z3 : ¬ fnP (S.1 11 5) (S.2.1 12) (S.2.2.2 (15 + m)) (nI k) (S.1 (15 + m) 3) (S.1 (15 + m) 4) (nI s) (nI (H + i)) = true := z2
            unfold shW shP
            rw [if_neg z3, e1]
          have nz : ¬ (nI u, nI (H + (i + 1)), (1 : Int32) <<< (nI k &&& 31)).2.2 = 0 := sh1_ne hk
          rw [if_neg nz, sh]
          exact rd_eq h hm hH ef e (i + 1) k u (by omega) hk (by omega)
theorem st_read (S : hs_S) (n : Nat) (h : Rel S n) (s x : Int32) : stp S 99 [.ref 1, .int s, .int x] 202 [.ref 61, .int s, .int x] := by
  obtain ⟨H, hH, o⟩ := Rel_ok h
  have n8 := r_n8 h
  refine stp_mk (sp_SC_read 4 S n H s x o hH (Rel_shO h)) (fun T g => ?_)
  have c := fun (e : T.2.1 62 = S.2.1 62) (e9 : T.2.1 69 = S.2.1 69) => sp_M_read 5 T n (kOf S) (pOf S) s x (rowS h e) (fun s hs => by rw [e9]; exact Rel_shM h s hs)
  unfold cl_read at g ⊢
  unfold ml_read at c
  by_cases h1 : 0 ≤ s ∧ s < 4
  · rw [if_pos h1] at g ⊢
    simp only [if_pos h1] at c
    obtain ⟨q, hq, rfl⟩ := s4_of h1
    rw [nI_clamp (show q < 2 ^ 31 by omega)] at g c ⊢
    obtain ⟨z, hz, z1, z2⟩ := s_z h hq
    have e1 := s_b h hq
    by_cases h2 : S.1 (53 + 2 * q) 1 = 0
    · rw [if_pos h2] at g ⊢
      have r68 : T.2.1 68 = S.2.1 68 := g.2.1 68 rfl
      have c := c (g.2.1 62 rfl) (g.2.1 69 rfl)
      rw [r68, e1, if_pos h2] at c
      exact end_f h g c rfl
    · rw [if_neg h2] at g ⊢
      by_cases h3 : 0 ≤ x ∧ x < nI n
      · rw [if_pos h3, z1, nI_clamp (show z < 2 ^ 31 by omega)] at g ⊢
        obtain ⟨m, hm, rfl⟩ := car_of n8 h3
        rw [nI_clamp (show m < 2 ^ 31 by omega)] at g c ⊢
        have r68 : T.2.1 68 = S.2.1 68 := g.2.1 68 rfl
        have r69 : T.2.1 69 = S.2.1 69 := g.2.1 69 rfl
        have r70 : T.2.2.1 70 = S.2.2.1 70 := g.2.2.1 70 rfl
        have r62 : T.2.1 62 = S.2.1 62 := g.2.1 62 rfl
        have c := c r62 r69
        obtain ⟨-, ⟨sh, hsh, esh⟩, -⟩ := c_rng h hm
        obtain ⟨ep, hp16⟩ := p_nI h hm
        have w0 : wmt (S.2.1 62) m = (nI sh, nI (H + 0), (1 : Int32) <<< (nI (pOf S m) &&& 31)) := by
          rw [wmt_r h hm o.hr]
          unfold wt0
          rw [esh, ep]
          rfl
        rw [r68, r69, r70, r62, e1, if_neg h2, if_pos h3, z2, nI_clamp (show z < 2 ^ 31 by omega), w0, rd_eq (f := S.2.2.1 (54 + 2 * q)) h hm hH (fun i hi => s_v h hq hi) z 0 (pOf S m) sh (by omega) hp16 hsh] at c
        rw [esh, ep] at g ⊢
        exact end_q h g c rfl
      · rw [if_neg h3] at g ⊢
        have r68 : T.2.1 68 = S.2.1 68 := g.2.1 68 rfl
        have c := c (g.2.1 62 rfl) (g.2.1 69 rfl)
        rw [r68, e1, if_neg h2, if_neg h3] at c
        exact end_f h g c rfl
  · rw [if_neg h1] at g ⊢
    simp only [if_neg h1] at c
    exact end_f h g (c (g.2.1 62 rfl) (g.2.1 69 rfl)) rfl
