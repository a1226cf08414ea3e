/-! THE STEPS (si_): what one instruction does on the pure machine -/
def sx_isI : Value → Bool
  | .int _ => true
  | _ => false
def sx_isJ : Value → Bool
  | .long _ => true
  | _ => false
def sx_isA : Value → Bool
  | .ref _ => true
  | .null => true
  | _ => false
def sx_isB : Value → Bool
  | .int v => v == 0 || v == 1
  | _ => false
def sx_c1 : Value → Bool
  | .long _ => false
  | .double _ => false
  | _ => true
def si_c (v : Value) (nx : Nat) : sx_I := fun L st h => sx_nx nx L (v :: st) h
def si_ld (t : Value → Bool) (i nx : Nat) : sx_I := fun L st h => match L[i]? with
  | some (some v) => if t v = true then sx_nx nx L (v :: st) h else none
  | _ => none
def si_lj (i nx : Nat) : sx_I := fun L st h => match L[i]?, L[i + 1]? with
  | some (some (.long x)), some none => sx_nx nx L (.long x :: st) h
  | _, _ => none
def si_st (t : Value → Bool) (i nx : Nat) : sx_I := fun L st h => match st with
  | v :: st => if t v = true ∧ i < L.length then sx_nx nx (L.set i (some v)) st h else none
  | _ => none
def si_sj (i nx : Nat) : sx_I := fun L st h => match st with
  | .long x :: st => if i + 1 < L.length then sx_nx nx ((L.set i (some (.long x))).set (i + 1) none) st h else none
  | _ => none
def si_inc (i : Nat) (n : Int) (nx : Nat) : sx_I := fun L st h => match L[i]? with
  | some (some (.int x)) => sx_nx nx (L.set i (some (.int (x + Int32.ofInt n)))) st h
  | _ => none
def si_u (f : Int32 → Value) (nx : Nat) : sx_I := fun L st h => match st with
  | .int x :: st => sx_nx nx L (f x :: st) h
  | _ => none
def si_l2i (nx : Nat) : sx_I := fun L st h => match st with
  | .long x :: st => sx_nx nx L (.int x.toInt32 :: st) h
  | _ => none
def si_b (f : Int32 → Int32 → Int32) (nx : Nat) : sx_I := fun L st h => match st with
  | .int y :: .int x :: st => sx_nx nx L (.int (f x y) :: st) h
  | _ => none
def si_d (f : Int32 → Int32 → Int32) (nx : Nat) : sx_I := fun L st h => match st with
  | .int y :: .int x :: st => if y = 0 then none else sx_nx nx L (.int (f x y) :: st) h
  | _ => none
def si_bj (f : Int64 → Int64 → Value) (nx : Nat) : sx_I := fun L st h => match st with
  | .long y :: .long x :: st => sx_nx nx L (f x y :: st) h
  | _ => none
def si_lsh (nx : Nat) : sx_I := fun L st h => match st with
  | .int y :: .long x :: st => sx_nx nx L (.long (x <<< (y.toInt64 &&& 63)) :: st) h
  | _ => none
def si_i1 (c : Int32 → Prop) [∀ x, Decidable (c x)] (t nx : Nat) : sx_I := fun L st h => match st with
  | .int x :: st => if c x then sx_nx t L st h else sx_nx nx L st h
  | _ => none
def si_i2 (c : Int32 → Int32 → Prop) [∀ x y, Decidable (c x y)] (t nx : Nat) : sx_I := fun L st h => match st with
  | .int y :: .int x :: st => if c x y then sx_nx t L st h else sx_nx nx L st h
  | _ => none
def si_ifn (t nx : Nat) : sx_I := fun L st h => match st with
  | .null :: st => sx_nx t L st h
  | .ref _ :: st => sx_nx nx L st h
  | _ => none
def si_acn (t nx : Nat) : sx_I := fun L st h => match st with
  | .ref b :: .ref a :: st => if (0 < a ∧ a ≤ 900) ∧ (0 < b ∧ b ≤ 900) then (if a = b then sx_nx nx L st h else sx_nx t L st h) else none
  | _ => none
def si_go (t : Nat) : sx_I := fun L st h => sx_nx t L st h
def sx_sw : List (Int32 × Nat) → Nat → Int32 → Nat
  | [], d, _ => d
  | q :: r, d, x => if x = q.1 then q.2 else sx_sw r d x
def si_sw (cs : List (Int32 × Nat)) (d : Nat) : sx_I := fun L st h => match st with
  | .int x :: st => sx_nx (sx_sw cs d x) L st h
  | _ => none
def si_dup (nx : Nat) : sx_I := fun L st h => match st with
  | v :: st => if sx_c1 v = true then sx_nx nx L (v :: v :: st) h else none
  | _ => none
def si_dp2 (nx : Nat) : sx_I := fun L st h => match st with
  | v :: w :: st => if sx_c1 v = true ∧ sx_c1 w = true then sx_nx nx L (v :: w :: v :: w :: st) h else none
  | _ => none
def si_pop (nx : Nat) : sx_I := fun L st h => match st with
  | v :: st => if sx_c1 v = true then sx_nx nx L st h else none
  | _ => none
def si_gf (cs : List Nat) (k nx : Nat) : sx_I := fun L st h => match st with
  | .ref a :: st => (sx_gf h a cs k).bind fun v => sx_nx nx L (v :: st) h
  | _ => none
def si_pf (t : Value → Bool) (cs : List Nat) (k nx : Nat) : sx_I := fun L st h => match st with
  | v :: .ref a :: st => if t v = true then (sx_pf h a cs k v).bind fun h' => sx_nx nx L st h' else none
  | _ => none
def si_ia (nx : Nat) : sx_I := fun L st h => match st with
  | .int i :: .ref a :: st => (sx_gi h a i).bind fun x => sx_nx nx L (.int x :: st) h
  | _ => none
def si_ja (nx : Nat) : sx_I := fun L st h => match st with
  | .int i :: .ref a :: st => (sx_gj h a i).bind fun x => sx_nx nx L (.long x :: st) h
  | _ => none
def si_qa (nx : Nat) : sx_I := fun L st h => match st with
  | .int i :: .ref a :: st => (sx_gq h a i).bind fun x => sx_nx nx L (x :: st) h
  | _ => none
def si_is (nx : Nat) : sx_I := fun L st h => match st with
  | .int x :: .int i :: .ref a :: st => (sx_pi h a i x).bind fun h' => sx_nx nx L st h'
  | _ => none
def si_js (nx : Nat) : sx_I := fun L st h => match st with
  | .long x :: .int i :: .ref a :: st => (sx_pj h a i x).bind fun h' => sx_nx nx L st h'
  | _ => none
def si_qs (cs : List (Nat × Nat)) (nx : Nat) : sx_I := fun L st h => match st with
  | .ref b :: .int i :: .ref a :: st => (sx_pq h cs a i b).bind fun h' => sx_nx nx L st h'
  | _ => none
def si_len (nx : Nat) : sx_I := fun L st h => match st with
  | .ref a :: st => (sx_al h a).bind fun n => sx_nx nx L (.int n :: st) h
  | _ => none
def si_no (k : Nat) (fs : List Value) (nx : Nat) : sx_I := fun L st h => if h.length < 900 then sx_nx nx L (.ref (h.length + 1) :: st) (h ++ [sx_co k fs]) else none
def sx_nn (n : Int32) : Bool := decide (0 ≤ n) && decide (n.toNatClampNeg ≤ 1000)
def si_ni (nx : Nat) : sx_I := fun L st h => match st with
  | .int n :: st => if sx_nn n = true ∧ h.length < 900 then sx_nx nx L (.ref (h.length + 1) :: st) (h ++ [sx_ci n.toNatClampNeg (fun _ => 0)]) else none
  | _ => none
def si_nj (nx : Nat) : sx_I := fun L st h => match st with
  | .int n :: st => if sx_nn n = true ∧ h.length < 900 then sx_nx nx L (.ref (h.length + 1) :: st) (h ++ [sx_cj n.toNatClampNeg (fun _ => 0)]) else none
  | _ => none
def si_nq (t nx : Nat) : sx_I := fun L st h => match st with
  | .int n :: st => if sx_nn n = true ∧ h.length < 900 then sx_nx nx L (.ref (h.length + 1) :: st) (h ++ [sx_cq t n.toNatClampNeg (fun _ => none)]) else none
  | _ => none
/-- what may lie below a call's arguments -/
def sx_r8 (l : List Value) : Bool := decide (l.length ≤ 4) || decide ((l.map fun v => v.category).sum ≤ 8)
/-- a static call -/
def si_cs (k n nx : Nat) : sx_I := fun L st h => if n ≤ st.length ∧ sx_r8 (st.drop n) = true then sx_ca k (st.take n).reverse nx L (st.drop n) h else none
/-- a call of a constructor -/
def si_ci (k n nx : Nat) : sx_I := fun L st h => match st.drop n with
  | .ref b :: r => if n ≤ st.length ∧ sx_r8 r = true then sx_ca k (.ref b :: (st.take n).reverse) nx L r h else none
  | _ => none
/-- a call on a receiver: by its class -/
def si_cv (tb : List (Nat × Nat)) (n nx : Nat) : sx_I := fun L st h => match st.drop n with
  | .ref b :: r => match (sx_kl h b).bind (fun c => tb.lookup c) with
    | some k => if n ≤ st.length ∧ sx_r8 r = true then sx_ca k (.ref b :: (st.take n).reverse) nx L r h else none
    | none => none
  | _ => none
def si_oi (nx : Nat) : sx_I := fun L st h => match st with
  | .ref _ :: st => if st.length ≤ 4 then sx_nx nx L st h else none
  | _ => none
/-- System.arraycopy over int rows and over long rows -/
def sx_ac (h : sx_H) (a : Nat) (sp : Int32) (b : Nat) (dp n : Int32) : Option sx_H := match sx_ld h a, sx_ld h b with
  | some (.inl (n0, f)), some (.inl (n1, g)) => if (0 ≤ sp ∧ 0 ≤ dp ∧ 0 ≤ n) ∧ sp.toNatClampNeg + n.toNatClampNeg ≤ n0 ∧ dp.toNatClampNeg + n.toNatClampNeg ≤ n1 then some (sx_se h b (sx_ci n1 (va_cpy f g sp.toNatClampNeg dp.toNatClampNeg n.toNatClampNeg))) else none
  | some (.inr (.inl (n0, f))), some (.inr (.inl (n1, g))) => if (0 ≤ sp ∧ 0 ≤ dp ∧ 0 ≤ n) ∧ sp.toNatClampNeg + n.toNatClampNeg ≤ n0 ∧ dp.toNatClampNeg + n.toNatClampNeg ≤ n1 then some (sx_se h b (sx_cj n1 (va_cpy f g sp.toNatClampNeg dp.toNatClampNeg n.toNatClampNeg))) else none
  | _, _ => none
def si_ac (nx : Nat) : sx_I := fun L st h => match st with
  | .int n :: .int dp :: .ref b :: .int sp :: .ref a :: st => if st.length ≤ 4 then (sx_ac h a sp b dp n).bind fun h' => sx_nx nx L st h' else none
  | _ => none
def si_ri : sx_I := fun _ st h => match st with
  | [.int v] => sx_rt (some (.int v)) h
  | _ => none
def si_rz (ty : FieldType) : sx_I := fun _ st h => match st with
  | [.int v] => if narrow ty (.int v) = .int v then sx_rt (some (.int v)) h else none
  | _ => none
def si_rj : sx_I := fun _ st h => match st with
  | [.long v] => sx_rt (some (.long v)) h
  | _ => none
def si_rv : sx_I := fun _ st h => match st with
  | [] => sx_rt none h
  | _ => none
/-! String constants: 1000 + i the String, 1100 + i its bytes -/
def si_sv (nx : Nat) : sx_I := fun L st h => match st with
  | .ref a :: st => if 1000 ≤ a ∧ a < 1014 then sx_nx nx L (.ref (a + 100) :: st) h else none
  | _ => none
def si_sk (nx : Nat) : sx_I := fun L st h => match st with
  | .ref a :: st => if 1000 ≤ a ∧ a < 1014 then sx_nx nx L (.int 0 :: st) h else none
  | _ => none
def sx_slen : List Nat := [7, 6, 6, 7, 5, 6, 2, 5, 5, 4, 4, 5, 6, 3]
def sx_sbyt : List (List Int32) := [[99, 97, 114, 114, 105, 101, 114], [103, 114, 97, 110, 110, 121], [100, 101, 97, 108, 101, 114], [99, 97, 114, 97, 118, 97, 110], [98, 114, 105, 100, 101], [112, 114, 105, 101, 115, 116], [97, 116], [115, 104, 97, 100, 101], [99, 111, 118, 101, 114], [100, 117, 115, 107], [112, 111, 115, 116], [112, 114, 105, 99, 101], [99, 108, 111, 117, 100, 115], [115, 117, 110]]
def si_sl (nx : Nat) : sx_I := fun L st h => match st with
  | .ref a :: st => if 1100 ≤ a ∧ a < 1114 then sx_nx nx L (.int (Int32.ofNat (sx_slen.getD (a - 1100) 0)) :: st) h else none
  | _ => none
def si_ba (nx : Nat) : sx_I := fun L st h => match st with
  | .int i :: .ref a :: st => if (1100 ≤ a ∧ a < 1114) ∧ sx_in i (sx_slen.getD (a - 1100) 0) = true then sx_nx nx L (.int ((sx_sbyt.getD (a - 1100) []).getD i.toNatClampNeg 0) :: st) h else none
  | _ => none
