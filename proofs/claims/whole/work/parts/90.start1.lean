/-! THE START: the heap of both objects -/
def hz1 : sx_H := getH (cK 300 10 66 [.ref 1] hz0) ++ [sx_co 12 [.null, .null, .null, .null, .null, .int 0, .int 0, .int 0, .int 0, .int 0, .int 0, .int 0, .null, .int 0, .int 0, .int 0, .int 0, .int 0, .null, .null, .null, .null]]
theorem len0 : (getH (cK 300 10 66 [.ref 1] hz0)).length = 60 := by decide +kernel
theorem ev1 : isR (cK 300 10 116 [.ref 61] hz1) = true := by decide +kernel
def H1 : sx_H := getH (cK 300 10 116 [.ref 61] hz1)
theorem len1 : H1.length = 71 := by decide +kernel
def xF (h : sx_H) (a k : Nat) : Int32 := match sx_ld h a with
  | some (.inr (.inr (.inr (_, fs)))) => (match fs[k]? with
    | some (.int x) => x
    | _ => 0)
  | _ => 0
def xI (h : sx_H) (a : Nat) : Nat → Int32 := match sx_ld h a with
  | some (.inl (_, f)) => f
  | _ => fun _ => 0
def xJ (h : sx_H) (a : Nat) : Nat → Int64 := match sx_ld h a with
  | some (.inr (.inl (_, f))) => f
  | _ => fun _ => 0
def xK (h : sx_H) (a : Nat) : Nat := match sx_ld h a with
  | some (.inr (.inr (.inr (_, .ref r :: _)))) => r - 5
  | _ => 0
def xS (h : sx_H) : hs_S := (xF h, xI h, xJ h, xK h)
set_option maxRecDepth 100000 in
set_option maxHeartbeats 4000000 in
theorem H1_2 : H1[1]? = some (sx_cq 1 6 (va_up (va_up (va_up (va_up (va_up (va_up (fun _ => none) 0 (some 5)) 1 (some 6)) 2 (some 7)) 3 (some 8)) 4 (some 9)) 5 (some 10))) := by rfl
theorem ch_2 : (va_up (va_up (va_up (va_up (va_up (va_up (fun _ => none) 0 (some 5)) 1 (some 6)) 2 (some 7)) 3 (some 8)) 4 (some 9)) 5 (some 10)) = fun j => ([5, 6, 7, 8, 9, 10] : List Nat)[j]? := by
  funext j
  match j with
  | 0 => rfl
  | 1 => rfl
  | 2 => rfl
  | 3 => rfl
  | 4 => rfl
  | 5 => rfl
  | j + 6 => rfl
set_option maxRecDepth 100000 in
set_option maxHeartbeats 4000000 in
theorem H1_3 : H1[2]? = some (sx_cq 2 4 (va_up (va_up (va_up (va_up (fun _ => none) 0 (some 53)) 1 (some 55)) 2 (some 57)) 3 (some 59))) := by rfl
theorem ch_3 : (va_up (va_up (va_up (va_up (fun _ => none) 0 (some 53)) 1 (some 55)) 2 (some 57)) 3 (some 59)) = fun j => ([53, 55, 57, 59] : List Nat)[j]? := by
  funext j
  match j with
  | 0 => rfl
  | 1 => rfl
  | 2 => rfl
  | 3 => rfl
  | j + 4 => rfl
set_option maxRecDepth 100000 in
set_option maxHeartbeats 4000000 in
theorem H1_14 : H1[13]? = some (sx_cq 0 8 (va_up (va_up (va_up (va_up (va_up (va_up (va_up (va_up (fun _ => none) 0 (some 15)) 1 (some 16)) 2 (some 17)) 3 (some 18)) 4 (some 19)) 5 (some 20)) 6 (some 21)) 7 (some 22))) := by rfl
theorem ch_14 : (va_up (va_up (va_up (va_up (va_up (va_up (va_up (va_up (fun _ => none) 0 (some 15)) 1 (some 16)) 2 (some 17)) 3 (some 18)) 4 (some 19)) 5 (some 20)) 6 (some 21)) 7 (some 22)) = fun j => ([15, 16, 17, 18, 19, 20, 21, 22] : List Nat)[j]? := by
  funext j
  match j with
  | 0 => rfl
  | 1 => rfl
  | 2 => rfl
  | 3 => rfl
  | 4 => rfl
  | 5 => rfl
  | 6 => rfl
  | 7 => rfl
  | j + 8 => rfl
set_option maxRecDepth 100000 in
set_option maxHeartbeats 4000000 in
theorem H1_26 : H1[25]? = some (sx_cq 0 8 (va_up (va_up (va_up (va_up (va_up (va_up (va_up (va_up (fun _ => none) 0 (some 27)) 1 (some 28)) 2 (some 29)) 3 (some 30)) 4 (some 31)) 5 (some 32)) 6 (some 33)) 7 (some 34))) := by rfl
theorem ch_26 : (va_up (va_up (va_up (va_up (va_up (va_up (va_up (va_up (fun _ => none) 0 (some 27)) 1 (some 28)) 2 (some 29)) 3 (some 30)) 4 (some 31)) 5 (some 32)) 6 (some 33)) 7 (some 34)) = fun j => ([27, 28, 29, 30, 31, 32, 33, 34] : List Nat)[j]? := by
  funext j
  match j with
  | 0 => rfl
  | 1 => rfl
  | 2 => rfl
  | 3 => rfl
  | 4 => rfl
  | 5 => rfl
  | 6 => rfl
  | 7 => rfl
  | j + 8 => rfl
set_option maxRecDepth 100000 in
set_option maxHeartbeats 4000000 in
theorem H1_38 : H1[37]? = some (sx_cq 0 8 (va_up (va_up (va_up (va_up (va_up (va_up (va_up (va_up (fun _ => none) 0 (some 39)) 1 (some 40)) 2 (some 41)) 3 (some 42)) 4 (some 43)) 5 (some 44)) 6 (some 45)) 7 (some 46))) := by rfl
theorem ch_38 : (va_up (va_up (va_up (va_up (va_up (va_up (va_up (va_up (fun _ => none) 0 (some 39)) 1 (some 40)) 2 (some 41)) 3 (some 42)) 4 (some 43)) 5 (some 44)) 6 (some 45)) 7 (some 46)) = fun j => ([39, 40, 41, 42, 43, 44, 45, 46] : List Nat)[j]? := by
  funext j
  match j with
  | 0 => rfl
  | 1 => rfl
  | 2 => rfl
  | 3 => rfl
  | 4 => rfl
  | 5 => rfl
  | 6 => rfl
  | 7 => rfl
  | j + 8 => rfl
theorem set_same {c : sx_Cl} : ∀ (l : sx_H) (i : Nat), l[i]? = some c → l.set i c = l
  | [], i, h => by simp at h
  | x :: l, 0, h => by
    rw [List.getElem?_cons_zero] at h
    cases h
    rfl
  | x :: l, i + 1, h => by
    rw [List.getElem?_cons_succ] at h
    rw [List.set_cons_succ, set_same l i h]
set_option maxRecDepth 100000 in
set_option maxHeartbeats 4000000 in
theorem hp_H2 : hp (xS H1) = (((((H1.set 1 (sx_cq 1 6 (fun j => ([5, 6, 7, 8, 9, 10] : List Nat)[j]?))).set 2 (sx_cq 2 4 (fun j => ([53, 55, 57, 59] : List Nat)[j]?))).set 13 (sx_cq 0 8 (fun j => ([15, 16, 17, 18, 19, 20, 21, 22] : List Nat)[j]?))).set 25 (sx_cq 0 8 (fun j => ([27, 28, 29, 30, 31, 32, 33, 34] : List Nat)[j]?))).set 37 (sx_cq 0 8 (fun j => ([39, 40, 41, 42, 43, 44, 45, 46] : List Nat)[j]?))) := by rfl
theorem hp_H1 : hp (xS H1) = H1 := by
  rw [hp_H2, set_same H1 1 (by rw [H1_2, ch_2]), set_same H1 2 (by rw [H1_3, ch_3]), set_same H1 13 (by rw [H1_14, ch_14]), set_same H1 25 (by rw [H1_26, ch_26]), set_same H1 37 (by rw [H1_38, ch_38])]
theorem all0 : (xF H1 11 3 = 0 ∧ xF H1 11 4 = 0 ∧ xF H1 11 5 = 0 ∧ xF H1 61 5 = 0 ∧ xF H1 1 4 = 0 ∧ xF H1 51 1 = 0 ∧ xF H1 61 13 = 0 ∧ xI H1 62 0 = 0 ∧ xI H1 62 1 = 0 ∧ xI H1 62 2 = 0) ∧ (∀ p, p < 16 → xI H1 12 p = 0 ∧ xI H1 13 p = 10 ∧ xI H1 62 (3 + p) = 0 ∧ xI H1 62 (19 + p) = 10) ∧ (∀ s, s < 4 → xI H1 68 s = 0 ∧ xI H1 69 s = 0 ∧ xF H1 (53 + 2 * s) 1 = 0 ∧ xF H1 (53 + 2 * s) 2 = 0 ∧ ∀ i, i < 40 → xJ H1 70 (40 * s + i) = xJ H1 (54 + 2 * s) i) := by decide +kernel
set_option maxRecDepth 100000 in
set_option maxHeartbeats 4000000 in
theorem row4 : xI H1 4 = xI H1 66 := by rfl
set_option maxRecDepth 100000 in
set_option maxHeartbeats 4000000 in
theorem row52 : xI H1 52 = xI H1 67 := by rfl
theorem Rel_0 : Rel (xS H1) 0 := by
  obtain ⟨⟨a1, a2, a3, a4, a5, a6, a7, a8, a9, a10⟩, b, c⟩ := all0
  refine ⟨⟨⟨by omega, a1, ⟨0, by omega, a2⟩, Or.inl a3, fun p hp0 => ⟨0, by omega, (b p hp0).1⟩, fun p hp0 => ⟨10, by omega, (b p hp0).2.1⟩, fun x hx => absurd hx (by omega)⟩, a8, a9.trans a2.symm, a10.trans a3.symm, fun p hp0 => (b p hp0).2.2.1.trans (b p hp0).1.symm, fun p hp0 => (b p hp0).2.2.2.trans (b p hp0).2.1.symm, fun x hx => absurd hx (by omega)⟩, ⟨a4.trans a5.symm, Or.inl a5⟩, row4, ⟨⟨0, by omega, a6, a7⟩, row52⟩, fun s hs => ⟨(c s hs).1.trans (c s hs).2.2.1.symm, ⟨0, by omega, (c s hs).2.2.2.1, (c s hs).2.1⟩, (c s hs).2.2.2.2⟩⟩
