/-! the words that the class knows -/
def slN (w : Nat) : Nat := sx_slen.getD w 0
def sbN (w i : Nat) : Int32 := (sx_sbyt.getD w []).getD i 0
theorem w14 {w : Nat} (h : w < 14) : w = 0 ∨ w = 1 ∨ w = 2 ∨ w = 3 ∨ w = 4 ∨ w = 5 ∨ w = 6 ∨ w = 7 ∨ w = 8 ∨ w = 9 ∨ w = 10 ∨ w = 11 ∨ w = 12 ∨ w = 13 := by omega
theorem nar_b0 : (narrow .byte (.int 0) = .int 0) = True := by decide
theorem z1_0 : ((1 : Int32) = 0) = False := by decide
theorem sp_coder (d : Nat) (w : Nat) (h : sx_H) (hw : w < 14) : sx_call (d + 1) 217 [.ref (1000 + w)] h = some (some (.int 0), h) := by
  rw [cz217]
  simp only [ez217_0, ez217_3, ez217_6, ez217_7, ez217_10, ez217_13, ez217_14, z1_0, if_false, if_pos (show 1000 ≤ 1000 + w ∧ 1000 + w < 1014 by omega), nar_b0, if_true]
theorem sp_isLatin1 (d : Nat) (w : Nat) (h : sx_H) (hw : w < 14) : sx_call (d + 1) 218 [.ref (1000 + w)] h = some (some (.int 1), h) := by
  rw [cz218]
  simp only [ez218_0, ez218_3, ez218_6, ez218_7, ez218_10, ez218_13, ez218_14, ez218_17, ez218_18, z1_0, if_false, if_pos (show 1000 ≤ 1000 + w ∧ 1000 + w < 1014 by omega), not_true, nar_1, if_true]
theorem sl_len : ∀ w, w < 14 → Int32.ofNat (slN w) >>> ((0 : Int32) &&& 31) = nI (slN w) := by decide +kernel
theorem sl_7 : ∀ w, w < 14 → slN w ≤ 7 ∧ 2 ≤ slN w := by decide +kernel
theorem sp_length (d : Nat) (w : Nat) (h : sx_H) (hw : w < 14) : sx_call (d + 2) 215 [.ref (1000 + w)] h = some (some (.int (nI (slN w))), h) := by
  rw [cz215]
  have e : sx_slen.getD (1000 + w + 100 - 1100) 0 = slN w := by
    rw [show 1000 + w + 100 - 1100 = w by omega]
    rfl
  simp only [ez215_0, ez215_1, ez215_4, ez215_5, ez215_6, ez215_9, ez215_10, if_pos (show 1000 ≤ 1000 + w ∧ 1000 + w < 1014 by omega), if_pos (show 1100 ≤ 1000 + w + 100 ∧ 1000 + w + 100 < 1114 by omega), if_pos (show 1000 ≤ 1000 + w ∧ w + 1000 < 1014 by omega), sp_coder d w h hw, Option.bind_some, tl_s, e, sl_len w hw]
def cvC (x : Int32) : Int32 := ((x &&& 255).toUInt32 % 65536).toInt32
theorem cv_all : ∀ w, w < 14 → ∀ i, i < slN w → cvC (sbN w i) = sbN w i := by decide +kernel
theorem sb_rng : ∀ w, w < 14 → ∀ i, i < slN w → 97 ≤ sbN w i ∧ sbN w i ≤ 122 := by decide +kernel
theorem nar_all : ∀ w, w < 14 → ∀ i, i < slN w → narrow .char (.int (sbN w i)) = .int (sbN w i) := by decide +kernel
theorem sp_preCheck (d : Nat) (i n : Nat) (x : Nat) (h : sx_H) (hi : i < n) (hn : n < 2 ^ 31) : sx_call (d + 1) 227 [.int (nI i), .int (nI n), .retAddr x] h = some (some (.int (nI i)), h) := by
  rw [cz227]
  simp only [ez227_0, ez227_1, ez227_4, ez227_5, ez227_6, ez227_9, ez227_10, ez227_11, ez227_16, ez227_17, if_neg (nI_pos (show i < 2 ^ 31 by omega)), if_pos (nI_lt hi hn)]
theorem sp_checkIndex (d : Nat) (i n : Nat) (h : sx_H) (hi : i < n) (hn : n < 2 ^ 31) : sx_call (d + 2) 219 [.int (nI i), .int (nI n)] h = some (none, h) := by
  rw [cz219]
  simp only [ez219_0, ez219_1, ez219_2, ez219_5, ez219_8, ez219_9, sp_preCheck d i n _ h hi hn, Option.bind_some, tl_s]
theorem sp_lcharAt (d : Nat) (w i : Nat) (h : sx_H) (hw : w < 14) (hi : i < slN w) : sx_call (d + 3) 220 [.ref (1000 + w + 100), .int (nI i)] h = some (some (.int (sbN w i)), h) := by
  rw [cz220]
  have e0 : 1000 + w + 100 - 1100 = w := by omega
  have s7 := sl_7 w hw
  have e1 : Int32.ofNat (sx_slen.getD w 0) = nI (slN w) := rfl
  have e2 : sx_in (nI i) (sx_slen.getD w 0) = true := in_nI hi (by show slN w < 2 ^ 31; omega)
  have e3 : ((((sx_sbyt.getD w []).getD i 0 &&& 255).toUInt32 % 65536).toInt32) = sbN w i := cv_all w hw i hi
  simp only [ez220_0, ez220_1, ez220_2, ez220_3, ez220_6, ez220_7, ez220_8, ez220_9, ez220_12, ez220_13, ez220_14, if_pos (show 1100 ≤ 1000 + w + 100 ∧ 1000 + w + 100 < 1114 by omega), e0, e1, sp_checkIndex d i (slN w) h hi (by omega), Option.bind_some, tl_n, e2, and_true, nI_clamp (show i < 2 ^ 31 by omega), e3, nar_all w hw i hi, if_true]
theorem sp_charAt (d : Nat) (w i : Nat) (h : sx_H) (hw : w < 14) (hi : i < slN w) : sx_call (d + 4) 216 [.ref (1000 + w), .int (nI i)] h = some (some (.int (sbN w i)), h) := by
  rw [cz216]
  simp only [ez216_0, ez216_1, ez216_4, ez216_7, ez216_8, ez216_11, ez216_12, ez216_15, sp_isLatin1 (d + 2) w h hw, Option.bind_some, tl_s, z1_0, if_false, if_pos (show 1000 ≤ 1000 + w ∧ 1000 + w < 1014 by omega), sp_lcharAt d w i h hw hi, nar_all w hw i hi, if_true]
