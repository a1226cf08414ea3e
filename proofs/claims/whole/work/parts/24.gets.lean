/-! GETS AND PUTS over hp S. Written by wip/gen/gets.py -/
theorem KL_1 (S : hs_S) : sx_kl (hp S) 1 = some 11 := hp_kl (a := 0) rfl (by decide)
theorem GF_1_0 (S : hs_S) : sx_gf (hp S) 1 [11] 0 = some (.ref 2) := hp_gf (a := 0) (k := 0) (d := 5) (cs := [11]) rfl ⟨⟨by decide, by decide⟩, rfl⟩
theorem GF_1_1 (S : hs_S) : sx_gf (hp S) 1 [11] 1 = some (.ref 11) := hp_gf (a := 0) (k := 1) (d := 14) (cs := [11]) rfl ⟨⟨by decide, by decide⟩, rfl⟩
theorem GF_1_2 (S : hs_S) : sx_gf (hp S) 1 [11] 2 = some (.ref 23) := hp_gf (a := 0) (k := 2) (d := 26) (cs := [11]) rfl ⟨⟨by decide, by decide⟩, rfl⟩
theorem GF_1_3 (S : hs_S) : sx_gf (hp S) 1 [11] 3 = some (.ref 35) := hp_gf (a := 0) (k := 3) (d := 38) (cs := [11]) rfl ⟨⟨by decide, by decide⟩, rfl⟩
theorem GF_1_4 (S : hs_S) : sx_gf (hp S) 1 [11] 4 = some (.int (S.1 1 4)) := hp_gf (a := 0) (k := 4) (d := 0) (cs := [11]) rfl ⟨⟨by decide, by decide⟩, rfl⟩
theorem PF_1_4 (S : hs_S) (v : Int32) : sx_pf (hp S) 1 [11] 4 (.int v) = some (hp (uF S 1 4 v)) := hp_pf (a := 0) (k := 4) (cs := [11]) rfl ⟨⟨by decide, by decide⟩, rfl⟩
theorem GF_1_5 (S : hs_S) : sx_gf (hp S) 1 [11] 5 = some (.ref 47) := hp_gf (a := 0) (k := 5) (d := 50) (cs := [11]) rfl ⟨⟨by decide, by decide⟩, rfl⟩
theorem GF_1_6 (S : hs_S) : sx_gf (hp S) 1 [11] 6 = some (.ref 50) := hp_gf (a := 0) (k := 6) (d := 53) (cs := [11]) rfl ⟨⟨by decide, by decide⟩, rfl⟩
theorem GF_1_7 (S : hs_S) : sx_gf (hp S) 1 [11] 7 = some (.ref 51) := hp_gf (a := 0) (k := 7) (d := 54) (cs := [11]) rfl ⟨⟨by decide, by decide⟩, rfl⟩
theorem GF_1_8 (S : hs_S) : sx_gf (hp S) 1 [11] 8 = some (.ref 3) := hp_gf (a := 0) (k := 8) (d := 6) (cs := [11]) rfl ⟨⟨by decide, by decide⟩, rfl⟩
theorem GF_1_9 (S : hs_S) : sx_gf (hp S) 1 [11] 9 = some (.ref 4) := hp_gf (a := 0) (k := 9) (d := 7) (cs := [11]) rfl ⟨⟨by decide, by decide⟩, rfl⟩
theorem GQ_2 (S : hs_S) (j : Nat) (hj : j < 6) : sx_gq (hp S) 2 (nI j) = some (.ref (5 + j)) := by
  rcases (show j = 0 ∨ j = 1 ∨ j = 2 ∨ j = 3 ∨ j = 4 ∨ j = 5 by omega) with rfl | rfl | rfl | rfl | rfl | rfl <;> rfl
theorem AL_2 (S : hs_S) : sx_al (hp S) 2 = some 6 := rfl
theorem GQ_3 (S : hs_S) (j : Nat) (hj : j < 4) : sx_gq (hp S) 3 (nI j) = some (.ref (53 + 2 * j)) := by
  rcases (show j = 0 ∨ j = 1 ∨ j = 2 ∨ j = 3 by omega) with rfl | rfl | rfl | rfl <;> rfl
theorem AL_3 (S : hs_S) : sx_al (hp S) 3 = some 4 := rfl
theorem GI_4 (S : hs_S) (i : Int32) : sx_gi (hp S) 4 i = if sx_in i 7 = true then some (S.2.1 4 i.toNatClampNeg) else none := hp_gi (a := 3) rfl
theorem PI_4 (S : hs_S) (i x : Int32) : sx_pi (hp S) 4 i x = if sx_in i 7 = true then some (hp (uI S 4 (upd (S.2.1 4) i.toNatClampNeg x))) else none := hp_pi (a := 3) rfl
theorem AL_4 (S : hs_S) : sx_al (hp S) 4 = some 7 := rfl
theorem KL_5 (S : hs_S) : sx_kl (hp S) 5 = some 5 := hp_kl (a := 4) rfl (by decide)
theorem GF_5_0 (S : hs_S) : sx_gf (hp S) 5 [0, 1, 3, 4, 5, 7] 0 = some (.int 0) := hp_gf (a := 4) (k := 0) (d := 5000) (cs := [0, 1, 3, 4, 5, 7]) rfl ⟨⟨by decide, by decide⟩, rfl⟩
theorem GF_5_1 (S : hs_S) : sx_gf (hp S) 5 [0, 1, 3, 4, 5, 7] 1 = some (.ref 1000) := hp_gf (a := 4) (k := 1) (d := 1003) (cs := [0, 1, 3, 4, 5, 7]) rfl ⟨⟨by decide, by decide⟩, rfl⟩
theorem GF_5_2 (S : hs_S) : sx_gf (hp S) 5 [0, 1, 3, 4, 5, 7] 2 = some (.null) := hp_gf (a := 4) (k := 2) (d := 2) (cs := [0, 1, 3, 4, 5, 7]) rfl ⟨⟨by decide, by decide⟩, rfl⟩
theorem KL_6 (S : hs_S) : sx_kl (hp S) 6 = some 4 := hp_kl (a := 5) rfl (by decide)
theorem GF_6_0 (S : hs_S) : sx_gf (hp S) 6 [0, 1, 3, 4, 5, 7] 0 = some (.int 1) := hp_gf (a := 5) (k := 0) (d := 5001) (cs := [0, 1, 3, 4, 5, 7]) rfl ⟨⟨by decide, by decide⟩, rfl⟩
theorem GF_6_1 (S : hs_S) : sx_gf (hp S) 6 [0, 1, 3, 4, 5, 7] 1 = some (.ref 1001) := hp_gf (a := 5) (k := 1) (d := 1004) (cs := [0, 1, 3, 4, 5, 7]) rfl ⟨⟨by decide, by decide⟩, rfl⟩
theorem GF_6_2 (S : hs_S) : sx_gf (hp S) 6 [0, 1, 3, 4, 5, 7] 2 = some (.ref 5) := hp_gf (a := 5) (k := 2) (d := 8) (cs := [0, 1, 3, 4, 5, 7]) rfl ⟨⟨by decide, by decide⟩, rfl⟩
theorem KL_7 (S : hs_S) : sx_kl (hp S) 7 = some 3 := hp_kl (a := 6) rfl (by decide)
theorem GF_7_0 (S : hs_S) : sx_gf (hp S) 7 [0, 1, 3, 4, 5, 7] 0 = some (.int 2) := hp_gf (a := 6) (k := 0) (d := 5002) (cs := [0, 1, 3, 4, 5, 7]) rfl ⟨⟨by decide, by decide⟩, rfl⟩
theorem GF_7_1 (S : hs_S) : sx_gf (hp S) 7 [0, 1, 3, 4, 5, 7] 1 = some (.ref 1002) := hp_gf (a := 6) (k := 1) (d := 1005) (cs := [0, 1, 3, 4, 5, 7]) rfl ⟨⟨by decide, by decide⟩, rfl⟩
theorem GF_7_2 (S : hs_S) : sx_gf (hp S) 7 [0, 1, 3, 4, 5, 7] 2 = some (.ref 5) := hp_gf (a := 6) (k := 2) (d := 8) (cs := [0, 1, 3, 4, 5, 7]) rfl ⟨⟨by decide, by decide⟩, rfl⟩
theorem KL_8 (S : hs_S) : sx_kl (hp S) 8 = some 1 := hp_kl (a := 7) rfl (by decide)
theorem GF_8_0 (S : hs_S) : sx_gf (hp S) 8 [0, 1, 3, 4, 5, 7] 0 = some (.int 3) := hp_gf (a := 7) (k := 0) (d := 5003) (cs := [0, 1, 3, 4, 5, 7]) rfl ⟨⟨by decide, by decide⟩, rfl⟩
theorem GF_8_1 (S : hs_S) : sx_gf (hp S) 8 [0, 1, 3, 4, 5, 7] 1 = some (.ref 1003) := hp_gf (a := 7) (k := 1) (d := 1006) (cs := [0, 1, 3, 4, 5, 7]) rfl ⟨⟨by decide, by decide⟩, rfl⟩
theorem GF_8_2 (S : hs_S) : sx_gf (hp S) 8 [0, 1, 3, 4, 5, 7] 2 = some (.ref 5) := hp_gf (a := 7) (k := 2) (d := 8) (cs := [0, 1, 3, 4, 5, 7]) rfl ⟨⟨by decide, by decide⟩, rfl⟩
theorem KL_9 (S : hs_S) : sx_kl (hp S) 9 = some 0 := hp_kl (a := 8) rfl (by decide)
theorem GF_9_0 (S : hs_S) : sx_gf (hp S) 9 [0, 1, 3, 4, 5, 7] 0 = some (.int 4) := hp_gf (a := 8) (k := 0) (d := 5004) (cs := [0, 1, 3, 4, 5, 7]) rfl ⟨⟨by decide, by decide⟩, rfl⟩
theorem GF_9_1 (S : hs_S) : sx_gf (hp S) 9 [0, 1, 3, 4, 5, 7] 1 = some (.ref 1004) := hp_gf (a := 8) (k := 1) (d := 1007) (cs := [0, 1, 3, 4, 5, 7]) rfl ⟨⟨by decide, by decide⟩, rfl⟩
theorem GF_9_2 (S : hs_S) : sx_gf (hp S) 9 [0, 1, 3, 4, 5, 7] 2 = some (.ref 6) := hp_gf (a := 8) (k := 2) (d := 9) (cs := [0, 1, 3, 4, 5, 7]) rfl ⟨⟨by decide, by decide⟩, rfl⟩
theorem KL_10 (S : hs_S) : sx_kl (hp S) 10 = some 7 := hp_kl (a := 9) rfl (by decide)
theorem GF_10_0 (S : hs_S) : sx_gf (hp S) 10 [0, 1, 3, 4, 5, 7] 0 = some (.int 5) := hp_gf (a := 9) (k := 0) (d := 5005) (cs := [0, 1, 3, 4, 5, 7]) rfl ⟨⟨by decide, by decide⟩, rfl⟩
theorem GF_10_1 (S : hs_S) : sx_gf (hp S) 10 [0, 1, 3, 4, 5, 7] 1 = some (.ref 1005) := hp_gf (a := 9) (k := 1) (d := 1008) (cs := [0, 1, 3, 4, 5, 7]) rfl ⟨⟨by decide, by decide⟩, rfl⟩
theorem GF_10_2 (S : hs_S) : sx_gf (hp S) 10 [0, 1, 3, 4, 5, 7] 2 = some (.ref 7) := hp_gf (a := 9) (k := 2) (d := 10) (cs := [0, 1, 3, 4, 5, 7]) rfl ⟨⟨by decide, by decide⟩, rfl⟩
theorem KL_11 (S : hs_S) : sx_kl (hp S) 11 = some 6 := hp_kl (a := 10) rfl (by decide)
theorem GF_11_0 (S : hs_S) : sx_gf (hp S) 11 [6] 0 = some (.ref 12) := hp_gf (a := 10) (k := 0) (d := 15) (cs := [6]) rfl ⟨⟨by decide, by decide⟩, rfl⟩
theorem GF_11_1 (S : hs_S) : sx_gf (hp S) 11 [6] 1 = some (.ref 13) := hp_gf (a := 10) (k := 1) (d := 16) (cs := [6]) rfl ⟨⟨by decide, by decide⟩, rfl⟩
theorem GF_11_2 (S : hs_S) : sx_gf (hp S) 11 [6] 2 = some (.ref 14) := hp_gf (a := 10) (k := 2) (d := 17) (cs := [6]) rfl ⟨⟨by decide, by decide⟩, rfl⟩
theorem GF_11_3 (S : hs_S) : sx_gf (hp S) 11 [6] 3 = some (.int (S.1 11 3)) := hp_gf (a := 10) (k := 3) (d := 0) (cs := [6]) rfl ⟨⟨by decide, by decide⟩, rfl⟩
theorem PF_11_3 (S : hs_S) (v : Int32) : sx_pf (hp S) 11 [6] 3 (.int v) = some (hp (uF S 11 3 v)) := hp_pf (a := 10) (k := 3) (cs := [6]) rfl ⟨⟨by decide, by decide⟩, rfl⟩
theorem GF_11_4 (S : hs_S) : sx_gf (hp S) 11 [6] 4 = some (.int (S.1 11 4)) := hp_gf (a := 10) (k := 4) (d := 0) (cs := [6]) rfl ⟨⟨by decide, by decide⟩, rfl⟩
theorem PF_11_4 (S : hs_S) (v : Int32) : sx_pf (hp S) 11 [6] 4 (.int v) = some (hp (uF S 11 4 v)) := hp_pf (a := 10) (k := 4) (cs := [6]) rfl ⟨⟨by decide, by decide⟩, rfl⟩
theorem GF_11_5 (S : hs_S) : sx_gf (hp S) 11 [6] 5 = some (.int (S.1 11 5)) := hp_gf (a := 10) (k := 5) (d := 0) (cs := [6]) rfl ⟨⟨by decide, by decide⟩, rfl⟩
theorem PF_11_5 (S : hs_S) (v : Int32) : sx_pf (hp S) 11 [6] 5 (.int v) = some (hp (uF S 11 5 v)) := hp_pf (a := 10) (k := 5) (cs := [6]) rfl ⟨⟨by decide, by decide⟩, rfl⟩
theorem GI_12 (S : hs_S) (i : Int32) : sx_gi (hp S) 12 i = if sx_in i 16 = true then some (S.2.1 12 i.toNatClampNeg) else none := hp_gi (a := 11) rfl
theorem PI_12 (S : hs_S) (i x : Int32) : sx_pi (hp S) 12 i x = if sx_in i 16 = true then some (hp (uI S 12 (upd (S.2.1 12) i.toNatClampNeg x))) else none := hp_pi (a := 11) rfl
theorem AL_12 (S : hs_S) : sx_al (hp S) 12 = some 16 := rfl
theorem GI_13 (S : hs_S) (i : Int32) : sx_gi (hp S) 13 i = if sx_in i 16 = true then some (S.2.1 13 i.toNatClampNeg) else none := hp_gi (a := 12) rfl
theorem PI_13 (S : hs_S) (i x : Int32) : sx_pi (hp S) 13 i x = if sx_in i 16 = true then some (hp (uI S 13 (upd (S.2.1 13) i.toNatClampNeg x))) else none := hp_pi (a := 12) rfl
theorem AL_13 (S : hs_S) : sx_al (hp S) 13 = some 16 := rfl
theorem GQ_14 (S : hs_S) (j : Nat) (hj : j < 8) : sx_gq (hp S) 14 (nI j) = some (.ref (15 + j)) := by
  rcases (show j = 0 ∨ j = 1 ∨ j = 2 ∨ j = 3 ∨ j = 4 ∨ j = 5 ∨ j = 6 ∨ j = 7 by omega) with rfl | rfl | rfl | rfl | rfl | rfl | rfl | rfl <;> rfl
theorem AL_14 (S : hs_S) : sx_al (hp S) 14 = some 8 := rfl
theorem KL_15 (S : hs_S) : sx_kl (hp S) 15 = some 2 := hp_kl (a := 14) rfl (by decide)
theorem GF_15_0 (S : hs_S) : sx_gf (hp S) 15 [2] 0 = some (.ref (5 + S.2.2.2 15)) := hp_gf (a := 14) (k := 0) (d := 1) (cs := [2]) rfl ⟨⟨by decide, by decide⟩, rfl⟩
theorem GF_15_1 (S : hs_S) : sx_gf (hp S) 15 [2] 1 = some (.int (S.1 15 1)) := hp_gf (a := 14) (k := 1) (d := 0) (cs := [2]) rfl ⟨⟨by decide, by decide⟩, rfl⟩
theorem PF_15_1 (S : hs_S) (v : Int32) : sx_pf (hp S) 15 [2] 1 (.int v) = some (hp (uF S 15 1 v)) := hp_pf (a := 14) (k := 1) (cs := [2]) rfl ⟨⟨by decide, by decide⟩, rfl⟩
theorem GF_15_2 (S : hs_S) : sx_gf (hp S) 15 [2] 2 = some (.int (S.1 15 2)) := hp_gf (a := 14) (k := 2) (d := 0) (cs := [2]) rfl ⟨⟨by decide, by decide⟩, rfl⟩
theorem PF_15_2 (S : hs_S) (v : Int32) : sx_pf (hp S) 15 [2] 2 (.int v) = some (hp (uF S 15 2 v)) := hp_pf (a := 14) (k := 2) (cs := [2]) rfl ⟨⟨by decide, by decide⟩, rfl⟩
theorem GF_15_3 (S : hs_S) : sx_gf (hp S) 15 [2] 3 = some (.int (S.1 15 3)) := hp_gf (a := 14) (k := 3) (d := 0) (cs := [2]) rfl ⟨⟨by decide, by decide⟩, rfl⟩
theorem PF_15_3 (S : hs_S) (v : Int32) : sx_pf (hp S) 15 [2] 3 (.int v) = some (hp (uF S 15 3 v)) := hp_pf (a := 14) (k := 3) (cs := [2]) rfl ⟨⟨by decide, by decide⟩, rfl⟩
theorem GF_15_4 (S : hs_S) : sx_gf (hp S) 15 [2] 4 = some (.int (S.1 15 4)) := hp_gf (a := 14) (k := 4) (d := 0) (cs := [2]) rfl ⟨⟨by decide, by decide⟩, rfl⟩
theorem PF_15_4 (S : hs_S) (v : Int32) : sx_pf (hp S) 15 [2] 4 (.int v) = some (hp (uF S 15 4 v)) := hp_pf (a := 14) (k := 4) (cs := [2]) rfl ⟨⟨by decide, by decide⟩, rfl⟩
theorem GF_15_5 (S : hs_S) : sx_gf (hp S) 15 [2] 5 = some (.int (S.1 15 5)) := hp_gf (a := 14) (k := 5) (d := 0) (cs := [2]) rfl ⟨⟨by decide, by decide⟩, rfl⟩
theorem PF_15_5 (S : hs_S) (v : Int32) : sx_pf (hp S) 15 [2] 5 (.int v) = some (hp (uF S 15 5 v)) := hp_pf (a := 14) (k := 5) (cs := [2]) rfl ⟨⟨by decide, by decide⟩, rfl⟩
theorem KL_16 (S : hs_S) : sx_kl (hp S) 16 = some 2 := hp_kl (a := 15) rfl (by decide)
theorem GF_16_0 (S : hs_S) : sx_gf (hp S) 16 [2] 0 = some (.ref (5 + S.2.2.2 16)) := hp_gf (a := 15) (k := 0) (d := 1) (cs := [2]) rfl ⟨⟨by decide, by decide⟩, rfl⟩
theorem GF_16_1 (S : hs_S) : sx_gf (hp S) 16 [2] 1 = some (.int (S.1 16 1)) := hp_gf (a := 15) (k := 1) (d := 0) (cs := [2]) rfl ⟨⟨by decide, by decide⟩, rfl⟩
theorem PF_16_1 (S : hs_S) (v : Int32) : sx_pf (hp S) 16 [2] 1 (.int v) = some (hp (uF S 16 1 v)) := hp_pf (a := 15) (k := 1) (cs := [2]) rfl ⟨⟨by decide, by decide⟩, rfl⟩
theorem GF_16_2 (S : hs_S) : sx_gf (hp S) 16 [2] 2 = some (.int (S.1 16 2)) := hp_gf (a := 15) (k := 2) (d := 0) (cs := [2]) rfl ⟨⟨by decide, by decide⟩, rfl⟩
theorem PF_16_2 (S : hs_S) (v : Int32) : sx_pf (hp S) 16 [2] 2 (.int v) = some (hp (uF S 16 2 v)) := hp_pf (a := 15) (k := 2) (cs := [2]) rfl ⟨⟨by decide, by decide⟩, rfl⟩
theorem GF_16_3 (S : hs_S) : sx_gf (hp S) 16 [2] 3 = some (.int (S.1 16 3)) := hp_gf (a := 15) (k := 3) (d := 0) (cs := [2]) rfl ⟨⟨by decide, by decide⟩, rfl⟩
theorem PF_16_3 (S : hs_S) (v : Int32) : sx_pf (hp S) 16 [2] 3 (.int v) = some (hp (uF S 16 3 v)) := hp_pf (a := 15) (k := 3) (cs := [2]) rfl ⟨⟨by decide, by decide⟩, rfl⟩
theorem GF_16_4 (S : hs_S) : sx_gf (hp S) 16 [2] 4 = some (.int (S.1 16 4)) := hp_gf (a := 15) (k := 4) (d := 0) (cs := [2]) rfl ⟨⟨by decide, by decide⟩, rfl⟩
theorem PF_16_4 (S : hs_S) (v : Int32) : sx_pf (hp S) 16 [2] 4 (.int v) = some (hp (uF S 16 4 v)) := hp_pf (a := 15) (k := 4) (cs := [2]) rfl ⟨⟨by decide, by decide⟩, rfl⟩
theorem GF_16_5 (S : hs_S) : sx_gf (hp S) 16 [2] 5 = some (.int (S.1 16 5)) := hp_gf (a := 15) (k := 5) (d := 0) (cs := [2]) rfl ⟨⟨by decide, by decide⟩, rfl⟩
theorem PF_16_5 (S : hs_S) (v : Int32) : sx_pf (hp S) 16 [2] 5 (.int v) = some (hp (uF S 16 5 v)) := hp_pf (a := 15) (k := 5) (cs := [2]) rfl ⟨⟨by decide, by decide⟩, rfl⟩
theorem KL_17 (S : hs_S) : sx_kl (hp S) 17 = some 2 := hp_kl (a := 16) rfl (by decide)
theorem GF_17_0 (S : hs_S) : sx_gf (hp S) 17 [2] 0 = some (.ref (5 + S.2.2.2 17)) := hp_gf (a := 16) (k := 0) (d := 1) (cs := [2]) rfl ⟨⟨by decide, by decide⟩, rfl⟩
theorem GF_17_1 (S : hs_S) : sx_gf (hp S) 17 [2] 1 = some (.int (S.1 17 1)) := hp_gf (a := 16) (k := 1) (d := 0) (cs := [2]) rfl ⟨⟨by decide, by decide⟩, rfl⟩
theorem PF_17_1 (S : hs_S) (v : Int32) : sx_pf (hp S) 17 [2] 1 (.int v) = some (hp (uF S 17 1 v)) := hp_pf (a := 16) (k := 1) (cs := [2]) rfl ⟨⟨by decide, by decide⟩, rfl⟩
theorem GF_17_2 (S : hs_S) : sx_gf (hp S) 17 [2] 2 = some (.int (S.1 17 2)) := hp_gf (a := 16) (k := 2) (d := 0) (cs := [2]) rfl ⟨⟨by decide, by decide⟩, rfl⟩
theorem PF_17_2 (S : hs_S) (v : Int32) : sx_pf (hp S) 17 [2] 2 (.int v) = some (hp (uF S 17 2 v)) := hp_pf (a := 16) (k := 2) (cs := [2]) rfl ⟨⟨by decide, by decide⟩, rfl⟩
theorem GF_17_3 (S : hs_S) : sx_gf (hp S) 17 [2] 3 = some (.int (S.1 17 3)) := hp_gf (a := 16) (k := 3) (d := 0) (cs := [2]) rfl ⟨⟨by decide, by decide⟩, rfl⟩
theorem PF_17_3 (S : hs_S) (v : Int32) : sx_pf (hp S) 17 [2] 3 (.int v) = some (hp (uF S 17 3 v)) := hp_pf (a := 16) (k := 3) (cs := [2]) rfl ⟨⟨by decide, by decide⟩, rfl⟩
theorem GF_17_4 (S : hs_S) : sx_gf (hp S) 17 [2] 4 = some (.int (S.1 17 4)) := hp_gf (a := 16) (k := 4) (d := 0) (cs := [2]) rfl ⟨⟨by decide, by decide⟩, rfl⟩
theorem PF_17_4 (S : hs_S) (v : Int32) : sx_pf (hp S) 17 [2] 4 (.int v) = some (hp (uF S 17 4 v)) := hp_pf (a := 16) (k := 4) (cs := [2]) rfl ⟨⟨by decide, by decide⟩, rfl⟩
theorem GF_17_5 (S : hs_S) : sx_gf (hp S) 17 [2] 5 = some (.int (S.1 17 5)) := hp_gf (a := 16) (k := 5) (d := 0) (cs := [2]) rfl ⟨⟨by decide, by decide⟩, rfl⟩
theorem PF_17_5 (S : hs_S) (v : Int32) : sx_pf (hp S) 17 [2] 5 (.int v) = some (hp (uF S 17 5 v)) := hp_pf (a := 16) (k := 5) (cs := [2]) rfl ⟨⟨by decide, by decide⟩, rfl⟩
theorem KL_18 (S : hs_S) : sx_kl (hp S) 18 = some 2 := hp_kl (a := 17) rfl (by decide)
theorem GF_18_0 (S : hs_S) : sx_gf (hp S) 18 [2] 0 = some (.ref (5 + S.2.2.2 18)) := hp_gf (a := 17) (k := 0) (d := 1) (cs := [2]) rfl ⟨⟨by decide, by decide⟩, rfl⟩
theorem GF_18_1 (S : hs_S) : sx_gf (hp S) 18 [2] 1 = some (.int (S.1 18 1)) := hp_gf (a := 17) (k := 1) (d := 0) (cs := [2]) rfl ⟨⟨by decide, by decide⟩, rfl⟩
theorem PF_18_1 (S : hs_S) (v : Int32) : sx_pf (hp S) 18 [2] 1 (.int v) = some (hp (uF S 18 1 v)) := hp_pf (a := 17) (k := 1) (cs := [2]) rfl ⟨⟨by decide, by decide⟩, rfl⟩
theorem GF_18_2 (S : hs_S) : sx_gf (hp S) 18 [2] 2 = some (.int (S.1 18 2)) := hp_gf (a := 17) (k := 2) (d := 0) (cs := [2]) rfl ⟨⟨by decide, by decide⟩, rfl⟩
theorem PF_18_2 (S : hs_S) (v : Int32) : sx_pf (hp S) 18 [2] 2 (.int v) = some (hp (uF S 18 2 v)) := hp_pf (a := 17) (k := 2) (cs := [2]) rfl ⟨⟨by decide, by decide⟩, rfl⟩
theorem GF_18_3 (S : hs_S) : sx_gf (hp S) 18 [2] 3 = some (.int (S.1 18 3)) := hp_gf (a := 17) (k := 3) (d := 0) (cs := [2]) rfl ⟨⟨by decide, by decide⟩, rfl⟩
theorem PF_18_3 (S : hs_S) (v : Int32) : sx_pf (hp S) 18 [2] 3 (.int v) = some (hp (uF S 18 3 v)) := hp_pf (a := 17) (k := 3) (cs := [2]) rfl ⟨⟨by decide, by decide⟩, rfl⟩
theorem GF_18_4 (S : hs_S) : sx_gf (hp S) 18 [2] 4 = some (.int (S.1 18 4)) := hp_gf (a := 17) (k := 4) (d := 0) (cs := [2]) rfl ⟨⟨by decide, by decide⟩, rfl⟩
theorem PF_18_4 (S : hs_S) (v : Int32) : sx_pf (hp S) 18 [2] 4 (.int v) = some (hp (uF S 18 4 v)) := hp_pf (a := 17) (k := 4) (cs := [2]) rfl ⟨⟨by decide, by decide⟩, rfl⟩
theorem GF_18_5 (S : hs_S) : sx_gf (hp S) 18 [2] 5 = some (.int (S.1 18 5)) := hp_gf (a := 17) (k := 5) (d := 0) (cs := [2]) rfl ⟨⟨by decide, by decide⟩, rfl⟩
theorem PF_18_5 (S : hs_S) (v : Int32) : sx_pf (hp S) 18 [2] 5 (.int v) = some (hp (uF S 18 5 v)) := hp_pf (a := 17) (k := 5) (cs := [2]) rfl ⟨⟨by decide, by decide⟩, rfl⟩
theorem KL_19 (S : hs_S) : sx_kl (hp S) 19 = some 2 := hp_kl (a := 18) rfl (by decide)
theorem GF_19_0 (S : hs_S) : sx_gf (hp S) 19 [2] 0 = some (.ref (5 + S.2.2.2 19)) := hp_gf (a := 18) (k := 0) (d := 1) (cs := [2]) rfl ⟨⟨by decide, by decide⟩, rfl⟩
theorem GF_19_1 (S : hs_S) : sx_gf (hp S) 19 [2] 1 = some (.int (S.1 19 1)) := hp_gf (a := 18) (k := 1) (d := 0) (cs := [2]) rfl ⟨⟨by decide, by decide⟩, rfl⟩
theorem PF_19_1 (S : hs_S) (v : Int32) : sx_pf (hp S) 19 [2] 1 (.int v) = some (hp (uF S 19 1 v)) := hp_pf (a := 18) (k := 1) (cs := [2]) rfl ⟨⟨by decide, by decide⟩, rfl⟩
theorem GF_19_2 (S : hs_S) : sx_gf (hp S) 19 [2] 2 = some (.int (S.1 19 2)) := hp_gf (a := 18) (k := 2) (d := 0) (cs := [2]) rfl ⟨⟨by decide, by decide⟩, rfl⟩
theorem PF_19_2 (S : hs_S) (v : Int32) : sx_pf (hp S) 19 [2] 2 (.int v) = some (hp (uF S 19 2 v)) := hp_pf (a := 18) (k := 2) (cs := [2]) rfl ⟨⟨by decide, by decide⟩, rfl⟩
theorem GF_19_3 (S : hs_S) : sx_gf (hp S) 19 [2] 3 = some (.int (S.1 19 3)) := hp_gf (a := 18) (k := 3) (d := 0) (cs := [2]) rfl ⟨⟨by decide, by decide⟩, rfl⟩
theorem PF_19_3 (S : hs_S) (v : Int32) : sx_pf (hp S) 19 [2] 3 (.int v) = some (hp (uF S 19 3 v)) := hp_pf (a := 18) (k := 3) (cs := [2]) rfl ⟨⟨by decide, by decide⟩, rfl⟩
theorem GF_19_4 (S : hs_S) : sx_gf (hp S) 19 [2] 4 = some (.int (S.1 19 4)) := hp_gf (a := 18) (k := 4) (d := 0) (cs := [2]) rfl ⟨⟨by decide, by decide⟩, rfl⟩
theorem PF_19_4 (S : hs_S) (v : Int32) : sx_pf (hp S) 19 [2] 4 (.int v) = some (hp (uF S 19 4 v)) := hp_pf (a := 18) (k := 4) (cs := [2]) rfl ⟨⟨by decide, by decide⟩, rfl⟩
theorem GF_19_5 (S : hs_S) : sx_gf (hp S) 19 [2] 5 = some (.int (S.1 19 5)) := hp_gf (a := 18) (k := 5) (d := 0) (cs := [2]) rfl ⟨⟨by decide, by decide⟩, rfl⟩
theorem PF_19_5 (S : hs_S) (v : Int32) : sx_pf (hp S) 19 [2] 5 (.int v) = some (hp (uF S 19 5 v)) := hp_pf (a := 18) (k := 5) (cs := [2]) rfl ⟨⟨by decide, by decide⟩, rfl⟩
theorem KL_20 (S : hs_S) : sx_kl (hp S) 20 = some 2 := hp_kl (a := 19) rfl (by decide)
theorem GF_20_0 (S : hs_S) : sx_gf (hp S) 20 [2] 0 = some (.ref (5 + S.2.2.2 20)) := hp_gf (a := 19) (k := 0) (d := 1) (cs := [2]) rfl ⟨⟨by decide, by decide⟩, rfl⟩
theorem GF_20_1 (S : hs_S) : sx_gf (hp S) 20 [2] 1 = some (.int (S.1 20 1)) := hp_gf (a := 19) (k := 1) (d := 0) (cs := [2]) rfl ⟨⟨by decide, by decide⟩, rfl⟩
theorem PF_20_1 (S : hs_S) (v : Int32) : sx_pf (hp S) 20 [2] 1 (.int v) = some (hp (uF S 20 1 v)) := hp_pf (a := 19) (k := 1) (cs := [2]) rfl ⟨⟨by decide, by decide⟩, rfl⟩
theorem GF_20_2 (S : hs_S) : sx_gf (hp S) 20 [2] 2 = some (.int (S.1 20 2)) := hp_gf (a := 19) (k := 2) (d := 0) (cs := [2]) rfl ⟨⟨by decide, by decide⟩, rfl⟩
theorem PF_20_2 (S : hs_S) (v : Int32) : sx_pf (hp S) 20 [2] 2 (.int v) = some (hp (uF S 20 2 v)) := hp_pf (a := 19) (k := 2) (cs := [2]) rfl ⟨⟨by decide, by decide⟩, rfl⟩
theorem GF_20_3 (S : hs_S) : sx_gf (hp S) 20 [2] 3 = some (.int (S.1 20 3)) := hp_gf (a := 19) (k := 3) (d := 0) (cs := [2]) rfl ⟨⟨by decide, by decide⟩, rfl⟩
theorem PF_20_3 (S : hs_S) (v : Int32) : sx_pf (hp S) 20 [2] 3 (.int v) = some (hp (uF S 20 3 v)) := hp_pf (a := 19) (k := 3) (cs := [2]) rfl ⟨⟨by decide, by decide⟩, rfl⟩
theorem GF_20_4 (S : hs_S) : sx_gf (hp S) 20 [2] 4 = some (.int (S.1 20 4)) := hp_gf (a := 19) (k := 4) (d := 0) (cs := [2]) rfl ⟨⟨by decide, by decide⟩, rfl⟩
theorem PF_20_4 (S : hs_S) (v : Int32) : sx_pf (hp S) 20 [2] 4 (.int v) = some (hp (uF S 20 4 v)) := hp_pf (a := 19) (k := 4) (cs := [2]) rfl ⟨⟨by decide, by decide⟩, rfl⟩
theorem GF_20_5 (S : hs_S) : sx_gf (hp S) 20 [2] 5 = some (.int (S.1 20 5)) := hp_gf (a := 19) (k := 5) (d := 0) (cs := [2]) rfl ⟨⟨by decide, by decide⟩, rfl⟩
theorem PF_20_5 (S : hs_S) (v : Int32) : sx_pf (hp S) 20 [2] 5 (.int v) = some (hp (uF S 20 5 v)) := hp_pf (a := 19) (k := 5) (cs := [2]) rfl ⟨⟨by decide, by decide⟩, rfl⟩
theorem KL_21 (S : hs_S) : sx_kl (hp S) 21 = some 2 := hp_kl (a := 20) rfl (by decide)
theorem GF_21_0 (S : hs_S) : sx_gf (hp S) 21 [2] 0 = some (.ref (5 + S.2.2.2 21)) := hp_gf (a := 20) (k := 0) (d := 1) (cs := [2]) rfl ⟨⟨by decide, by decide⟩, rfl⟩
theorem GF_21_1 (S : hs_S) : sx_gf (hp S) 21 [2] 1 = some (.int (S.1 21 1)) := hp_gf (a := 20) (k := 1) (d := 0) (cs := [2]) rfl ⟨⟨by decide, by decide⟩, rfl⟩
theorem PF_21_1 (S : hs_S) (v : Int32) : sx_pf (hp S) 21 [2] 1 (.int v) = some (hp (uF S 21 1 v)) := hp_pf (a := 20) (k := 1) (cs := [2]) rfl ⟨⟨by decide, by decide⟩, rfl⟩
theorem GF_21_2 (S : hs_S) : sx_gf (hp S) 21 [2] 2 = some (.int (S.1 21 2)) := hp_gf (a := 20) (k := 2) (d := 0) (cs := [2]) rfl ⟨⟨by decide, by decide⟩, rfl⟩
theorem PF_21_2 (S : hs_S) (v : Int32) : sx_pf (hp S) 21 [2] 2 (.int v) = some (hp (uF S 21 2 v)) := hp_pf (a := 20) (k := 2) (cs := [2]) rfl ⟨⟨by decide, by decide⟩, rfl⟩
theorem GF_21_3 (S : hs_S) : sx_gf (hp S) 21 [2] 3 = some (.int (S.1 21 3)) := hp_gf (a := 20) (k := 3) (d := 0) (cs := [2]) rfl ⟨⟨by decide, by decide⟩, rfl⟩
theorem PF_21_3 (S : hs_S) (v : Int32) : sx_pf (hp S) 21 [2] 3 (.int v) = some (hp (uF S 21 3 v)) := hp_pf (a := 20) (k := 3) (cs := [2]) rfl ⟨⟨by decide, by decide⟩, rfl⟩
theorem GF_21_4 (S : hs_S) : sx_gf (hp S) 21 [2] 4 = some (.int (S.1 21 4)) := hp_gf (a := 20) (k := 4) (d := 0) (cs := [2]) rfl ⟨⟨by decide, by decide⟩, rfl⟩
theorem PF_21_4 (S : hs_S) (v : Int32) : sx_pf (hp S) 21 [2] 4 (.int v) = some (hp (uF S 21 4 v)) := hp_pf (a := 20) (k := 4) (cs := [2]) rfl ⟨⟨by decide, by decide⟩, rfl⟩
theorem GF_21_5 (S : hs_S) : sx_gf (hp S) 21 [2] 5 = some (.int (S.1 21 5)) := hp_gf (a := 20) (k := 5) (d := 0) (cs := [2]) rfl ⟨⟨by decide, by decide⟩, rfl⟩
theorem PF_21_5 (S : hs_S) (v : Int32) : sx_pf (hp S) 21 [2] 5 (.int v) = some (hp (uF S 21 5 v)) := hp_pf (a := 20) (k := 5) (cs := [2]) rfl ⟨⟨by decide, by decide⟩, rfl⟩
theorem KL_22 (S : hs_S) : sx_kl (hp S) 22 = some 2 := hp_kl (a := 21) rfl (by decide)
theorem GF_22_0 (S : hs_S) : sx_gf (hp S) 22 [2] 0 = some (.ref (5 + S.2.2.2 22)) := hp_gf (a := 21) (k := 0) (d := 1) (cs := [2]) rfl ⟨⟨by decide, by decide⟩, rfl⟩
theorem GF_22_1 (S : hs_S) : sx_gf (hp S) 22 [2] 1 = some (.int (S.1 22 1)) := hp_gf (a := 21) (k := 1) (d := 0) (cs := [2]) rfl ⟨⟨by decide, by decide⟩, rfl⟩
theorem PF_22_1 (S : hs_S) (v : Int32) : sx_pf (hp S) 22 [2] 1 (.int v) = some (hp (uF S 22 1 v)) := hp_pf (a := 21) (k := 1) (cs := [2]) rfl ⟨⟨by decide, by decide⟩, rfl⟩
theorem GF_22_2 (S : hs_S) : sx_gf (hp S) 22 [2] 2 = some (.int (S.1 22 2)) := hp_gf (a := 21) (k := 2) (d := 0) (cs := [2]) rfl ⟨⟨by decide, by decide⟩, rfl⟩
theorem PF_22_2 (S : hs_S) (v : Int32) : sx_pf (hp S) 22 [2] 2 (.int v) = some (hp (uF S 22 2 v)) := hp_pf (a := 21) (k := 2) (cs := [2]) rfl ⟨⟨by decide, by decide⟩, rfl⟩
theorem GF_22_3 (S : hs_S) : sx_gf (hp S) 22 [2] 3 = some (.int (S.1 22 3)) := hp_gf (a := 21) (k := 3) (d := 0) (cs := [2]) rfl ⟨⟨by decide, by decide⟩, rfl⟩
theorem PF_22_3 (S : hs_S) (v : Int32) : sx_pf (hp S) 22 [2] 3 (.int v) = some (hp (uF S 22 3 v)) := hp_pf (a := 21) (k := 3) (cs := [2]) rfl ⟨⟨by decide, by decide⟩, rfl⟩
theorem GF_22_4 (S : hs_S) : sx_gf (hp S) 22 [2] 4 = some (.int (S.1 22 4)) := hp_gf (a := 21) (k := 4) (d := 0) (cs := [2]) rfl ⟨⟨by decide, by decide⟩, rfl⟩
theorem PF_22_4 (S : hs_S) (v : Int32) : sx_pf (hp S) 22 [2] 4 (.int v) = some (hp (uF S 22 4 v)) := hp_pf (a := 21) (k := 4) (cs := [2]) rfl ⟨⟨by decide, by decide⟩, rfl⟩
theorem GF_22_5 (S : hs_S) : sx_gf (hp S) 22 [2] 5 = some (.int (S.1 22 5)) := hp_gf (a := 21) (k := 5) (d := 0) (cs := [2]) rfl ⟨⟨by decide, by decide⟩, rfl⟩
theorem PF_22_5 (S : hs_S) (v : Int32) : sx_pf (hp S) 22 [2] 5 (.int v) = some (hp (uF S 22 5 v)) := hp_pf (a := 21) (k := 5) (cs := [2]) rfl ⟨⟨by decide, by decide⟩, rfl⟩
theorem KL_23 (S : hs_S) : sx_kl (hp S) 23 = some 6 := hp_kl (a := 22) rfl (by decide)
theorem GF_23_0 (S : hs_S) : sx_gf (hp S) 23 [6] 0 = some (.ref 24) := hp_gf (a := 22) (k := 0) (d := 27) (cs := [6]) rfl ⟨⟨by decide, by decide⟩, rfl⟩
theorem GF_23_1 (S : hs_S) : sx_gf (hp S) 23 [6] 1 = some (.ref 25) := hp_gf (a := 22) (k := 1) (d := 28) (cs := [6]) rfl ⟨⟨by decide, by decide⟩, rfl⟩
theorem GF_23_2 (S : hs_S) : sx_gf (hp S) 23 [6] 2 = some (.ref 26) := hp_gf (a := 22) (k := 2) (d := 29) (cs := [6]) rfl ⟨⟨by decide, by decide⟩, rfl⟩
theorem GF_23_3 (S : hs_S) : sx_gf (hp S) 23 [6] 3 = some (.int (S.1 23 3)) := hp_gf (a := 22) (k := 3) (d := 0) (cs := [6]) rfl ⟨⟨by decide, by decide⟩, rfl⟩
theorem PF_23_3 (S : hs_S) (v : Int32) : sx_pf (hp S) 23 [6] 3 (.int v) = some (hp (uF S 23 3 v)) := hp_pf (a := 22) (k := 3) (cs := [6]) rfl ⟨⟨by decide, by decide⟩, rfl⟩
theorem GF_23_4 (S : hs_S) : sx_gf (hp S) 23 [6] 4 = some (.int (S.1 23 4)) := hp_gf (a := 22) (k := 4) (d := 0) (cs := [6]) rfl ⟨⟨by decide, by decide⟩, rfl⟩
theorem PF_23_4 (S : hs_S) (v : Int32) : sx_pf (hp S) 23 [6] 4 (.int v) = some (hp (uF S 23 4 v)) := hp_pf (a := 22) (k := 4) (cs := [6]) rfl ⟨⟨by decide, by decide⟩, rfl⟩
theorem GF_23_5 (S : hs_S) : sx_gf (hp S) 23 [6] 5 = some (.int (S.1 23 5)) := hp_gf (a := 22) (k := 5) (d := 0) (cs := [6]) rfl ⟨⟨by decide, by decide⟩, rfl⟩
theorem PF_23_5 (S : hs_S) (v : Int32) : sx_pf (hp S) 23 [6] 5 (.int v) = some (hp (uF S 23 5 v)) := hp_pf (a := 22) (k := 5) (cs := [6]) rfl ⟨⟨by decide, by decide⟩, rfl⟩
theorem GI_24 (S : hs_S) (i : Int32) : sx_gi (hp S) 24 i = if sx_in i 16 = true then some (S.2.1 24 i.toNatClampNeg) else none := hp_gi (a := 23) rfl
theorem PI_24 (S : hs_S) (i x : Int32) : sx_pi (hp S) 24 i x = if sx_in i 16 = true then some (hp (uI S 24 (upd (S.2.1 24) i.toNatClampNeg x))) else none := hp_pi (a := 23) rfl
theorem AL_24 (S : hs_S) : sx_al (hp S) 24 = some 16 := rfl
theorem GI_25 (S : hs_S) (i : Int32) : sx_gi (hp S) 25 i = if sx_in i 16 = true then some (S.2.1 25 i.toNatClampNeg) else none := hp_gi (a := 24) rfl
theorem PI_25 (S : hs_S) (i x : Int32) : sx_pi (hp S) 25 i x = if sx_in i 16 = true then some (hp (uI S 25 (upd (S.2.1 25) i.toNatClampNeg x))) else none := hp_pi (a := 24) rfl
theorem AL_25 (S : hs_S) : sx_al (hp S) 25 = some 16 := rfl
theorem GQ_26 (S : hs_S) (j : Nat) (hj : j < 8) : sx_gq (hp S) 26 (nI j) = some (.ref (27 + j)) := by
  rcases (show j = 0 ∨ j = 1 ∨ j = 2 ∨ j = 3 ∨ j = 4 ∨ j = 5 ∨ j = 6 ∨ j = 7 by omega) with rfl | rfl | rfl | rfl | rfl | rfl | rfl | rfl <;> rfl
theorem AL_26 (S : hs_S) : sx_al (hp S) 26 = some 8 := rfl
theorem KL_27 (S : hs_S) : sx_kl (hp S) 27 = some 2 := hp_kl (a := 26) rfl (by decide)
theorem GF_27_0 (S : hs_S) : sx_gf (hp S) 27 [2] 0 = some (.ref (5 + S.2.2.2 27)) := hp_gf (a := 26) (k := 0) (d := 1) (cs := [2]) rfl ⟨⟨by decide, by decide⟩, rfl⟩
theorem GF_27_1 (S : hs_S) : sx_gf (hp S) 27 [2] 1 = some (.int (S.1 27 1)) := hp_gf (a := 26) (k := 1) (d := 0) (cs := [2]) rfl ⟨⟨by decide, by decide⟩, rfl⟩
theorem PF_27_1 (S : hs_S) (v : Int32) : sx_pf (hp S) 27 [2] 1 (.int v) = some (hp (uF S 27 1 v)) := hp_pf (a := 26) (k := 1) (cs := [2]) rfl ⟨⟨by decide, by decide⟩, rfl⟩
theorem GF_27_2 (S : hs_S) : sx_gf (hp S) 27 [2] 2 = some (.int (S.1 27 2)) := hp_gf (a := 26) (k := 2) (d := 0) (cs := [2]) rfl ⟨⟨by decide, by decide⟩, rfl⟩
theorem PF_27_2 (S : hs_S) (v : Int32) : sx_pf (hp S) 27 [2] 2 (.int v) = some (hp (uF S 27 2 v)) := hp_pf (a := 26) (k := 2) (cs := [2]) rfl ⟨⟨by decide, by decide⟩, rfl⟩
theorem GF_27_3 (S : hs_S) : sx_gf (hp S) 27 [2] 3 = some (.int (S.1 27 3)) := hp_gf (a := 26) (k := 3) (d := 0) (cs := [2]) rfl ⟨⟨by decide, by decide⟩, rfl⟩
theorem PF_27_3 (S : hs_S) (v : Int32) : sx_pf (hp S) 27 [2] 3 (.int v) = some (hp (uF S 27 3 v)) := hp_pf (a := 26) (k := 3) (cs := [2]) rfl ⟨⟨by decide, by decide⟩, rfl⟩
theorem GF_27_4 (S : hs_S) : sx_gf (hp S) 27 [2] 4 = some (.int (S.1 27 4)) := hp_gf (a := 26) (k := 4) (d := 0) (cs := [2]) rfl ⟨⟨by decide, by decide⟩, rfl⟩
theorem PF_27_4 (S : hs_S) (v : Int32) : sx_pf (hp S) 27 [2] 4 (.int v) = some (hp (uF S 27 4 v)) := hp_pf (a := 26) (k := 4) (cs := [2]) rfl ⟨⟨by decide, by decide⟩, rfl⟩
theorem GF_27_5 (S : hs_S) : sx_gf (hp S) 27 [2] 5 = some (.int (S.1 27 5)) := hp_gf (a := 26) (k := 5) (d := 0) (cs := [2]) rfl ⟨⟨by decide, by decide⟩, rfl⟩
theorem PF_27_5 (S : hs_S) (v : Int32) : sx_pf (hp S) 27 [2] 5 (.int v) = some (hp (uF S 27 5 v)) := hp_pf (a := 26) (k := 5) (cs := [2]) rfl ⟨⟨by decide, by decide⟩, rfl⟩
theorem KL_28 (S : hs_S) : sx_kl (hp S) 28 = some 2 := hp_kl (a := 27) rfl (by decide)
theorem GF_28_0 (S : hs_S) : sx_gf (hp S) 28 [2] 0 = some (.ref (5 + S.2.2.2 28)) := hp_gf (a := 27) (k := 0) (d := 1) (cs := [2]) rfl ⟨⟨by decide, by decide⟩, rfl⟩
theorem GF_28_1 (S : hs_S) : sx_gf (hp S) 28 [2] 1 = some (.int (S.1 28 1)) := hp_gf (a := 27) (k := 1) (d := 0) (cs := [2]) rfl ⟨⟨by decide, by decide⟩, rfl⟩
theorem PF_28_1 (S : hs_S) (v : Int32) : sx_pf (hp S) 28 [2] 1 (.int v) = some (hp (uF S 28 1 v)) := hp_pf (a := 27) (k := 1) (cs := [2]) rfl ⟨⟨by decide, by decide⟩, rfl⟩
theorem GF_28_2 (S : hs_S) : sx_gf (hp S) 28 [2] 2 = some (.int (S.1 28 2)) := hp_gf (a := 27) (k := 2) (d := 0) (cs := [2]) rfl ⟨⟨by decide, by decide⟩, rfl⟩
theorem PF_28_2 (S : hs_S) (v : Int32) : sx_pf (hp S) 28 [2] 2 (.int v) = some (hp (uF S 28 2 v)) := hp_pf (a := 27) (k := 2) (cs := [2]) rfl ⟨⟨by decide, by decide⟩, rfl⟩
theorem GF_28_3 (S : hs_S) : sx_gf (hp S) 28 [2] 3 = some (.int (S.1 28 3)) := hp_gf (a := 27) (k := 3) (d := 0) (cs := [2]) rfl ⟨⟨by decide, by decide⟩, rfl⟩
theorem PF_28_3 (S : hs_S) (v : Int32) : sx_pf (hp S) 28 [2] 3 (.int v) = some (hp (uF S 28 3 v)) := hp_pf (a := 27) (k := 3) (cs := [2]) rfl ⟨⟨by decide, by decide⟩, rfl⟩
theorem GF_28_4 (S : hs_S) : sx_gf (hp S) 28 [2] 4 = some (.int (S.1 28 4)) := hp_gf (a := 27) (k := 4) (d := 0) (cs := [2]) rfl ⟨⟨by decide, by decide⟩, rfl⟩
theorem PF_28_4 (S : hs_S) (v : Int32) : sx_pf (hp S) 28 [2] 4 (.int v) = some (hp (uF S 28 4 v)) := hp_pf (a := 27) (k := 4) (cs := [2]) rfl ⟨⟨by decide, by decide⟩, rfl⟩
theorem GF_28_5 (S : hs_S) : sx_gf (hp S) 28 [2] 5 = some (.int (S.1 28 5)) := hp_gf (a := 27) (k := 5) (d := 0) (cs := [2]) rfl ⟨⟨by decide, by decide⟩, rfl⟩
theorem PF_28_5 (S : hs_S) (v : Int32) : sx_pf (hp S) 28 [2] 5 (.int v) = some (hp (uF S 28 5 v)) := hp_pf (a := 27) (k := 5) (cs := [2]) rfl ⟨⟨by decide, by decide⟩, rfl⟩
theorem KL_29 (S : hs_S) : sx_kl (hp S) 29 = some 2 := hp_kl (a := 28) rfl (by decide)
theorem GF_29_0 (S : hs_S) : sx_gf (hp S) 29 [2] 0 = some (.ref (5 + S.2.2.2 29)) := hp_gf (a := 28) (k := 0) (d := 1) (cs := [2]) rfl ⟨⟨by decide, by decide⟩, rfl⟩
theorem GF_29_1 (S : hs_S) : sx_gf (hp S) 29 [2] 1 = some (.int (S.1 29 1)) := hp_gf (a := 28) (k := 1) (d := 0) (cs := [2]) rfl ⟨⟨by decide, by decide⟩, rfl⟩
theorem PF_29_1 (S : hs_S) (v : Int32) : sx_pf (hp S) 29 [2] 1 (.int v) = some (hp (uF S 29 1 v)) := hp_pf (a := 28) (k := 1) (cs := [2]) rfl ⟨⟨by decide, by decide⟩, rfl⟩
theorem GF_29_2 (S : hs_S) : sx_gf (hp S) 29 [2] 2 = some (.int (S.1 29 2)) := hp_gf (a := 28) (k := 2) (d := 0) (cs := [2]) rfl ⟨⟨by decide, by decide⟩, rfl⟩
theorem PF_29_2 (S : hs_S) (v : Int32) : sx_pf (hp S) 29 [2] 2 (.int v) = some (hp (uF S 29 2 v)) := hp_pf (a := 28) (k := 2) (cs := [2]) rfl ⟨⟨by decide, by decide⟩, rfl⟩
theorem GF_29_3 (S : hs_S) : sx_gf (hp S) 29 [2] 3 = some (.int (S.1 29 3)) := hp_gf (a := 28) (k := 3) (d := 0) (cs := [2]) rfl ⟨⟨by decide, by decide⟩, rfl⟩
theorem PF_29_3 (S : hs_S) (v : Int32) : sx_pf (hp S) 29 [2] 3 (.int v) = some (hp (uF S 29 3 v)) := hp_pf (a := 28) (k := 3) (cs := [2]) rfl ⟨⟨by decide, by decide⟩, rfl⟩
theorem GF_29_4 (S : hs_S) : sx_gf (hp S) 29 [2] 4 = some (.int (S.1 29 4)) := hp_gf (a := 28) (k := 4) (d := 0) (cs := [2]) rfl ⟨⟨by decide, by decide⟩, rfl⟩
theorem PF_29_4 (S : hs_S) (v : Int32) : sx_pf (hp S) 29 [2] 4 (.int v) = some (hp (uF S 29 4 v)) := hp_pf (a := 28) (k := 4) (cs := [2]) rfl ⟨⟨by decide, by decide⟩, rfl⟩
theorem GF_29_5 (S : hs_S) : sx_gf (hp S) 29 [2] 5 = some (.int (S.1 29 5)) := hp_gf (a := 28) (k := 5) (d := 0) (cs := [2]) rfl ⟨⟨by decide, by decide⟩, rfl⟩
theorem PF_29_5 (S : hs_S) (v : Int32) : sx_pf (hp S) 29 [2] 5 (.int v) = some (hp (uF S 29 5 v)) := hp_pf (a := 28) (k := 5) (cs := [2]) rfl ⟨⟨by decide, by decide⟩, rfl⟩
theorem KL_30 (S : hs_S) : sx_kl (hp S) 30 = some 2 := hp_kl (a := 29) rfl (by decide)
theorem GF_30_0 (S : hs_S) : sx_gf (hp S) 30 [2] 0 = some (.ref (5 + S.2.2.2 30)) := hp_gf (a := 29) (k := 0) (d := 1) (cs := [2]) rfl ⟨⟨by decide, by decide⟩, rfl⟩
theorem GF_30_1 (S : hs_S) : sx_gf (hp S) 30 [2] 1 = some (.int (S.1 30 1)) := hp_gf (a := 29) (k := 1) (d := 0) (cs := [2]) rfl ⟨⟨by decide, by decide⟩, rfl⟩
theorem PF_30_1 (S : hs_S) (v : Int32) : sx_pf (hp S) 30 [2] 1 (.int v) = some (hp (uF S 30 1 v)) := hp_pf (a := 29) (k := 1) (cs := [2]) rfl ⟨⟨by decide, by decide⟩, rfl⟩
theorem GF_30_2 (S : hs_S) : sx_gf (hp S) 30 [2] 2 = some (.int (S.1 30 2)) := hp_gf (a := 29) (k := 2) (d := 0) (cs := [2]) rfl ⟨⟨by decide, by decide⟩, rfl⟩
theorem PF_30_2 (S : hs_S) (v : Int32) : sx_pf (hp S) 30 [2] 2 (.int v) = some (hp (uF S 30 2 v)) := hp_pf (a := 29) (k := 2) (cs := [2]) rfl ⟨⟨by decide, by decide⟩, rfl⟩
theorem GF_30_3 (S : hs_S) : sx_gf (hp S) 30 [2] 3 = some (.int (S.1 30 3)) := hp_gf (a := 29) (k := 3) (d := 0) (cs := [2]) rfl ⟨⟨by decide, by decide⟩, rfl⟩
theorem PF_30_3 (S : hs_S) (v : Int32) : sx_pf (hp S) 30 [2] 3 (.int v) = some (hp (uF S 30 3 v)) := hp_pf (a := 29) (k := 3) (cs := [2]) rfl ⟨⟨by decide, by decide⟩, rfl⟩
theorem GF_30_4 (S : hs_S) : sx_gf (hp S) 30 [2] 4 = some (.int (S.1 30 4)) := hp_gf (a := 29) (k := 4) (d := 0) (cs := [2]) rfl ⟨⟨by decide, by decide⟩, rfl⟩
theorem PF_30_4 (S : hs_S) (v : Int32) : sx_pf (hp S) 30 [2] 4 (.int v) = some (hp (uF S 30 4 v)) := hp_pf (a := 29) (k := 4) (cs := [2]) rfl ⟨⟨by decide, by decide⟩, rfl⟩
theorem GF_30_5 (S : hs_S) : sx_gf (hp S) 30 [2] 5 = some (.int (S.1 30 5)) := hp_gf (a := 29) (k := 5) (d := 0) (cs := [2]) rfl ⟨⟨by decide, by decide⟩, rfl⟩
theorem PF_30_5 (S : hs_S) (v : Int32) : sx_pf (hp S) 30 [2] 5 (.int v) = some (hp (uF S 30 5 v)) := hp_pf (a := 29) (k := 5) (cs := [2]) rfl ⟨⟨by decide, by decide⟩, rfl⟩
theorem KL_31 (S : hs_S) : sx_kl (hp S) 31 = some 2 := hp_kl (a := 30) rfl (by decide)
theorem GF_31_0 (S : hs_S) : sx_gf (hp S) 31 [2] 0 = some (.ref (5 + S.2.2.2 31)) := hp_gf (a := 30) (k := 0) (d := 1) (cs := [2]) rfl ⟨⟨by decide, by decide⟩, rfl⟩
theorem GF_31_1 (S : hs_S) : sx_gf (hp S) 31 [2] 1 = some (.int (S.1 31 1)) := hp_gf (a := 30) (k := 1) (d := 0) (cs := [2]) rfl ⟨⟨by decide, by decide⟩, rfl⟩
theorem PF_31_1 (S : hs_S) (v : Int32) : sx_pf (hp S) 31 [2] 1 (.int v) = some (hp (uF S 31 1 v)) := hp_pf (a := 30) (k := 1) (cs := [2]) rfl ⟨⟨by decide, by decide⟩, rfl⟩
theorem GF_31_2 (S : hs_S) : sx_gf (hp S) 31 [2] 2 = some (.int (S.1 31 2)) := hp_gf (a := 30) (k := 2) (d := 0) (cs := [2]) rfl ⟨⟨by decide, by decide⟩, rfl⟩
theorem PF_31_2 (S : hs_S) (v : Int32) : sx_pf (hp S) 31 [2] 2 (.int v) = some (hp (uF S 31 2 v)) := hp_pf (a := 30) (k := 2) (cs := [2]) rfl ⟨⟨by decide, by decide⟩, rfl⟩
theorem GF_31_3 (S : hs_S) : sx_gf (hp S) 31 [2] 3 = some (.int (S.1 31 3)) := hp_gf (a := 30) (k := 3) (d := 0) (cs := [2]) rfl ⟨⟨by decide, by decide⟩, rfl⟩
theorem PF_31_3 (S : hs_S) (v : Int32) : sx_pf (hp S) 31 [2] 3 (.int v) = some (hp (uF S 31 3 v)) := hp_pf (a := 30) (k := 3) (cs := [2]) rfl ⟨⟨by decide, by decide⟩, rfl⟩
theorem GF_31_4 (S : hs_S) : sx_gf (hp S) 31 [2] 4 = some (.int (S.1 31 4)) := hp_gf (a := 30) (k := 4) (d := 0) (cs := [2]) rfl ⟨⟨by decide, by decide⟩, rfl⟩
theorem PF_31_4 (S : hs_S) (v : Int32) : sx_pf (hp S) 31 [2] 4 (.int v) = some (hp (uF S 31 4 v)) := hp_pf (a := 30) (k := 4) (cs := [2]) rfl ⟨⟨by decide, by decide⟩, rfl⟩
theorem GF_31_5 (S : hs_S) : sx_gf (hp S) 31 [2] 5 = some (.int (S.1 31 5)) := hp_gf (a := 30) (k := 5) (d := 0) (cs := [2]) rfl ⟨⟨by decide, by decide⟩, rfl⟩
theorem PF_31_5 (S : hs_S) (v : Int32) : sx_pf (hp S) 31 [2] 5 (.int v) = some (hp (uF S 31 5 v)) := hp_pf (a := 30) (k := 5) (cs := [2]) rfl ⟨⟨by decide, by decide⟩, rfl⟩
theorem KL_32 (S : hs_S) : sx_kl (hp S) 32 = some 2 := hp_kl (a := 31) rfl (by decide)
theorem GF_32_0 (S : hs_S) : sx_gf (hp S) 32 [2] 0 = some (.ref (5 + S.2.2.2 32)) := hp_gf (a := 31) (k := 0) (d := 1) (cs := [2]) rfl ⟨⟨by decide, by decide⟩, rfl⟩
theorem GF_32_1 (S : hs_S) : sx_gf (hp S) 32 [2] 1 = some (.int (S.1 32 1)) := hp_gf (a := 31) (k := 1) (d := 0) (cs := [2]) rfl ⟨⟨by decide, by decide⟩, rfl⟩
theorem PF_32_1 (S : hs_S) (v : Int32) : sx_pf (hp S) 32 [2] 1 (.int v) = some (hp (uF S 32 1 v)) := hp_pf (a := 31) (k := 1) (cs := [2]) rfl ⟨⟨by decide, by decide⟩, rfl⟩
theorem GF_32_2 (S : hs_S) : sx_gf (hp S) 32 [2] 2 = some (.int (S.1 32 2)) := hp_gf (a := 31) (k := 2) (d := 0) (cs := [2]) rfl ⟨⟨by decide, by decide⟩, rfl⟩
theorem PF_32_2 (S : hs_S) (v : Int32) : sx_pf (hp S) 32 [2] 2 (.int v) = some (hp (uF S 32 2 v)) := hp_pf (a := 31) (k := 2) (cs := [2]) rfl ⟨⟨by decide, by decide⟩, rfl⟩
theorem GF_32_3 (S : hs_S) : sx_gf (hp S) 32 [2] 3 = some (.int (S.1 32 3)) := hp_gf (a := 31) (k := 3) (d := 0) (cs := [2]) rfl ⟨⟨by decide, by decide⟩, rfl⟩
theorem PF_32_3 (S : hs_S) (v : Int32) : sx_pf (hp S) 32 [2] 3 (.int v) = some (hp (uF S 32 3 v)) := hp_pf (a := 31) (k := 3) (cs := [2]) rfl ⟨⟨by decide, by decide⟩, rfl⟩
theorem GF_32_4 (S : hs_S) : sx_gf (hp S) 32 [2] 4 = some (.int (S.1 32 4)) := hp_gf (a := 31) (k := 4) (d := 0) (cs := [2]) rfl ⟨⟨by decide, by decide⟩, rfl⟩
theorem PF_32_4 (S : hs_S) (v : Int32) : sx_pf (hp S) 32 [2] 4 (.int v) = some (hp (uF S 32 4 v)) := hp_pf (a := 31) (k := 4) (cs := [2]) rfl ⟨⟨by decide, by decide⟩, rfl⟩
theorem GF_32_5 (S : hs_S) : sx_gf (hp S) 32 [2] 5 = some (.int (S.1 32 5)) := hp_gf (a := 31) (k := 5) (d := 0) (cs := [2]) rfl ⟨⟨by decide, by decide⟩, rfl⟩
theorem PF_32_5 (S : hs_S) (v : Int32) : sx_pf (hp S) 32 [2] 5 (.int v) = some (hp (uF S 32 5 v)) := hp_pf (a := 31) (k := 5) (cs := [2]) rfl ⟨⟨by decide, by decide⟩, rfl⟩
theorem KL_33 (S : hs_S) : sx_kl (hp S) 33 = some 2 := hp_kl (a := 32) rfl (by decide)
theorem GF_33_0 (S : hs_S) : sx_gf (hp S) 33 [2] 0 = some (.ref (5 + S.2.2.2 33)) := hp_gf (a := 32) (k := 0) (d := 1) (cs := [2]) rfl ⟨⟨by decide, by decide⟩, rfl⟩
theorem GF_33_1 (S : hs_S) : sx_gf (hp S) 33 [2] 1 = some (.int (S.1 33 1)) := hp_gf (a := 32) (k := 1) (d := 0) (cs := [2]) rfl ⟨⟨by decide, by decide⟩, rfl⟩
theorem PF_33_1 (S : hs_S) (v : Int32) : sx_pf (hp S) 33 [2] 1 (.int v) = some (hp (uF S 33 1 v)) := hp_pf (a := 32) (k := 1) (cs := [2]) rfl ⟨⟨by decide, by decide⟩, rfl⟩
theorem GF_33_2 (S : hs_S) : sx_gf (hp S) 33 [2] 2 = some (.int (S.1 33 2)) := hp_gf (a := 32) (k := 2) (d := 0) (cs := [2]) rfl ⟨⟨by decide, by decide⟩, rfl⟩
theorem PF_33_2 (S : hs_S) (v : Int32) : sx_pf (hp S) 33 [2] 2 (.int v) = some (hp (uF S 33 2 v)) := hp_pf (a := 32) (k := 2) (cs := [2]) rfl ⟨⟨by decide, by decide⟩, rfl⟩
theorem GF_33_3 (S : hs_S) : sx_gf (hp S) 33 [2] 3 = some (.int (S.1 33 3)) := hp_gf (a := 32) (k := 3) (d := 0) (cs := [2]) rfl ⟨⟨by decide, by decide⟩, rfl⟩
theorem PF_33_3 (S : hs_S) (v : Int32) : sx_pf (hp S) 33 [2] 3 (.int v) = some (hp (uF S 33 3 v)) := hp_pf (a := 32) (k := 3) (cs := [2]) rfl ⟨⟨by decide, by decide⟩, rfl⟩
theorem GF_33_4 (S : hs_S) : sx_gf (hp S) 33 [2] 4 = some (.int (S.1 33 4)) := hp_gf (a := 32) (k := 4) (d := 0) (cs := [2]) rfl ⟨⟨by decide, by decide⟩, rfl⟩
theorem PF_33_4 (S : hs_S) (v : Int32) : sx_pf (hp S) 33 [2] 4 (.int v) = some (hp (uF S 33 4 v)) := hp_pf (a := 32) (k := 4) (cs := [2]) rfl ⟨⟨by decide, by decide⟩, rfl⟩
theorem GF_33_5 (S : hs_S) : sx_gf (hp S) 33 [2] 5 = some (.int (S.1 33 5)) := hp_gf (a := 32) (k := 5) (d := 0) (cs := [2]) rfl ⟨⟨by decide, by decide⟩, rfl⟩
theorem PF_33_5 (S : hs_S) (v : Int32) : sx_pf (hp S) 33 [2] 5 (.int v) = some (hp (uF S 33 5 v)) := hp_pf (a := 32) (k := 5) (cs := [2]) rfl ⟨⟨by decide, by decide⟩, rfl⟩
theorem KL_34 (S : hs_S) : sx_kl (hp S) 34 = some 2 := hp_kl (a := 33) rfl (by decide)
theorem GF_34_0 (S : hs_S) : sx_gf (hp S) 34 [2] 0 = some (.ref (5 + S.2.2.2 34)) := hp_gf (a := 33) (k := 0) (d := 1) (cs := [2]) rfl ⟨⟨by decide, by decide⟩, rfl⟩
theorem GF_34_1 (S : hs_S) : sx_gf (hp S) 34 [2] 1 = some (.int (S.1 34 1)) := hp_gf (a := 33) (k := 1) (d := 0) (cs := [2]) rfl ⟨⟨by decide, by decide⟩, rfl⟩
theorem PF_34_1 (S : hs_S) (v : Int32) : sx_pf (hp S) 34 [2] 1 (.int v) = some (hp (uF S 34 1 v)) := hp_pf (a := 33) (k := 1) (cs := [2]) rfl ⟨⟨by decide, by decide⟩, rfl⟩
theorem GF_34_2 (S : hs_S) : sx_gf (hp S) 34 [2] 2 = some (.int (S.1 34 2)) := hp_gf (a := 33) (k := 2) (d := 0) (cs := [2]) rfl ⟨⟨by decide, by decide⟩, rfl⟩
theorem PF_34_2 (S : hs_S) (v : Int32) : sx_pf (hp S) 34 [2] 2 (.int v) = some (hp (uF S 34 2 v)) := hp_pf (a := 33) (k := 2) (cs := [2]) rfl ⟨⟨by decide, by decide⟩, rfl⟩
theorem GF_34_3 (S : hs_S) : sx_gf (hp S) 34 [2] 3 = some (.int (S.1 34 3)) := hp_gf (a := 33) (k := 3) (d := 0) (cs := [2]) rfl ⟨⟨by decide, by decide⟩, rfl⟩
theorem PF_34_3 (S : hs_S) (v : Int32) : sx_pf (hp S) 34 [2] 3 (.int v) = some (hp (uF S 34 3 v)) := hp_pf (a := 33) (k := 3) (cs := [2]) rfl ⟨⟨by decide, by decide⟩, rfl⟩
theorem GF_34_4 (S : hs_S) : sx_gf (hp S) 34 [2] 4 = some (.int (S.1 34 4)) := hp_gf (a := 33) (k := 4) (d := 0) (cs := [2]) rfl ⟨⟨by decide, by decide⟩, rfl⟩
theorem PF_34_4 (S : hs_S) (v : Int32) : sx_pf (hp S) 34 [2] 4 (.int v) = some (hp (uF S 34 4 v)) := hp_pf (a := 33) (k := 4) (cs := [2]) rfl ⟨⟨by decide, by decide⟩, rfl⟩
theorem GF_34_5 (S : hs_S) : sx_gf (hp S) 34 [2] 5 = some (.int (S.1 34 5)) := hp_gf (a := 33) (k := 5) (d := 0) (cs := [2]) rfl ⟨⟨by decide, by decide⟩, rfl⟩
theorem PF_34_5 (S : hs_S) (v : Int32) : sx_pf (hp S) 34 [2] 5 (.int v) = some (hp (uF S 34 5 v)) := hp_pf (a := 33) (k := 5) (cs := [2]) rfl ⟨⟨by decide, by decide⟩, rfl⟩
theorem KL_35 (S : hs_S) : sx_kl (hp S) 35 = some 6 := hp_kl (a := 34) rfl (by decide)
theorem GF_35_0 (S : hs_S) : sx_gf (hp S) 35 [6] 0 = some (.ref 36) := hp_gf (a := 34) (k := 0) (d := 39) (cs := [6]) rfl ⟨⟨by decide, by decide⟩, rfl⟩
theorem GF_35_1 (S : hs_S) : sx_gf (hp S) 35 [6] 1 = some (.ref 37) := hp_gf (a := 34) (k := 1) (d := 40) (cs := [6]) rfl ⟨⟨by decide, by decide⟩, rfl⟩
theorem GF_35_2 (S : hs_S) : sx_gf (hp S) 35 [6] 2 = some (.ref 38) := hp_gf (a := 34) (k := 2) (d := 41) (cs := [6]) rfl ⟨⟨by decide, by decide⟩, rfl⟩
theorem GF_35_3 (S : hs_S) : sx_gf (hp S) 35 [6] 3 = some (.int (S.1 35 3)) := hp_gf (a := 34) (k := 3) (d := 0) (cs := [6]) rfl ⟨⟨by decide, by decide⟩, rfl⟩
theorem PF_35_3 (S : hs_S) (v : Int32) : sx_pf (hp S) 35 [6] 3 (.int v) = some (hp (uF S 35 3 v)) := hp_pf (a := 34) (k := 3) (cs := [6]) rfl ⟨⟨by decide, by decide⟩, rfl⟩
theorem GF_35_4 (S : hs_S) : sx_gf (hp S) 35 [6] 4 = some (.int (S.1 35 4)) := hp_gf (a := 34) (k := 4) (d := 0) (cs := [6]) rfl ⟨⟨by decide, by decide⟩, rfl⟩
theorem PF_35_4 (S : hs_S) (v : Int32) : sx_pf (hp S) 35 [6] 4 (.int v) = some (hp (uF S 35 4 v)) := hp_pf (a := 34) (k := 4) (cs := [6]) rfl ⟨⟨by decide, by decide⟩, rfl⟩
theorem GF_35_5 (S : hs_S) : sx_gf (hp S) 35 [6] 5 = some (.int (S.1 35 5)) := hp_gf (a := 34) (k := 5) (d := 0) (cs := [6]) rfl ⟨⟨by decide, by decide⟩, rfl⟩
theorem PF_35_5 (S : hs_S) (v : Int32) : sx_pf (hp S) 35 [6] 5 (.int v) = some (hp (uF S 35 5 v)) := hp_pf (a := 34) (k := 5) (cs := [6]) rfl ⟨⟨by decide, by decide⟩, rfl⟩
theorem GI_36 (S : hs_S) (i : Int32) : sx_gi (hp S) 36 i = if sx_in i 16 = true then some (S.2.1 36 i.toNatClampNeg) else none := hp_gi (a := 35) rfl
theorem PI_36 (S : hs_S) (i x : Int32) : sx_pi (hp S) 36 i x = if sx_in i 16 = true then some (hp (uI S 36 (upd (S.2.1 36) i.toNatClampNeg x))) else none := hp_pi (a := 35) rfl
theorem AL_36 (S : hs_S) : sx_al (hp S) 36 = some 16 := rfl
theorem GI_37 (S : hs_S) (i : Int32) : sx_gi (hp S) 37 i = if sx_in i 16 = true then some (S.2.1 37 i.toNatClampNeg) else none := hp_gi (a := 36) rfl
theorem PI_37 (S : hs_S) (i x : Int32) : sx_pi (hp S) 37 i x = if sx_in i 16 = true then some (hp (uI S 37 (upd (S.2.1 37) i.toNatClampNeg x))) else none := hp_pi (a := 36) rfl
theorem AL_37 (S : hs_S) : sx_al (hp S) 37 = some 16 := rfl
theorem GQ_38 (S : hs_S) (j : Nat) (hj : j < 8) : sx_gq (hp S) 38 (nI j) = some (.ref (39 + j)) := by
  rcases (show j = 0 ∨ j = 1 ∨ j = 2 ∨ j = 3 ∨ j = 4 ∨ j = 5 ∨ j = 6 ∨ j = 7 by omega) with rfl | rfl | rfl | rfl | rfl | rfl | rfl | rfl <;> rfl
theorem AL_38 (S : hs_S) : sx_al (hp S) 38 = some 8 := rfl
theorem KL_39 (S : hs_S) : sx_kl (hp S) 39 = some 2 := hp_kl (a := 38) rfl (by decide)
theorem GF_39_0 (S : hs_S) : sx_gf (hp S) 39 [2] 0 = some (.ref (5 + S.2.2.2 39)) := hp_gf (a := 38) (k := 0) (d := 1) (cs := [2]) rfl ⟨⟨by decide, by decide⟩, rfl⟩
theorem GF_39_1 (S : hs_S) : sx_gf (hp S) 39 [2] 1 = some (.int (S.1 39 1)) := hp_gf (a := 38) (k := 1) (d := 0) (cs := [2]) rfl ⟨⟨by decide, by decide⟩, rfl⟩
theorem PF_39_1 (S : hs_S) (v : Int32) : sx_pf (hp S) 39 [2] 1 (.int v) = some (hp (uF S 39 1 v)) := hp_pf (a := 38) (k := 1) (cs := [2]) rfl ⟨⟨by decide, by decide⟩, rfl⟩
theorem GF_39_2 (S : hs_S) : sx_gf (hp S) 39 [2] 2 = some (.int (S.1 39 2)) := hp_gf (a := 38) (k := 2) (d := 0) (cs := [2]) rfl ⟨⟨by decide, by decide⟩, rfl⟩
theorem PF_39_2 (S : hs_S) (v : Int32) : sx_pf (hp S) 39 [2] 2 (.int v) = some (hp (uF S 39 2 v)) := hp_pf (a := 38) (k := 2) (cs := [2]) rfl ⟨⟨by decide, by decide⟩, rfl⟩
theorem GF_39_3 (S : hs_S) : sx_gf (hp S) 39 [2] 3 = some (.int (S.1 39 3)) := hp_gf (a := 38) (k := 3) (d := 0) (cs := [2]) rfl ⟨⟨by decide, by decide⟩, rfl⟩
theorem PF_39_3 (S : hs_S) (v : Int32) : sx_pf (hp S) 39 [2] 3 (.int v) = some (hp (uF S 39 3 v)) := hp_pf (a := 38) (k := 3) (cs := [2]) rfl ⟨⟨by decide, by decide⟩, rfl⟩
theorem GF_39_4 (S : hs_S) : sx_gf (hp S) 39 [2] 4 = some (.int (S.1 39 4)) := hp_gf (a := 38) (k := 4) (d := 0) (cs := [2]) rfl ⟨⟨by decide, by decide⟩, rfl⟩
theorem PF_39_4 (S : hs_S) (v : Int32) : sx_pf (hp S) 39 [2] 4 (.int v) = some (hp (uF S 39 4 v)) := hp_pf (a := 38) (k := 4) (cs := [2]) rfl ⟨⟨by decide, by decide⟩, rfl⟩
theorem GF_39_5 (S : hs_S) : sx_gf (hp S) 39 [2] 5 = some (.int (S.1 39 5)) := hp_gf (a := 38) (k := 5) (d := 0) (cs := [2]) rfl ⟨⟨by decide, by decide⟩, rfl⟩
theorem PF_39_5 (S : hs_S) (v : Int32) : sx_pf (hp S) 39 [2] 5 (.int v) = some (hp (uF S 39 5 v)) := hp_pf (a := 38) (k := 5) (cs := [2]) rfl ⟨⟨by decide, by decide⟩, rfl⟩
theorem KL_40 (S : hs_S) : sx_kl (hp S) 40 = some 2 := hp_kl (a := 39) rfl (by decide)
theorem GF_40_0 (S : hs_S) : sx_gf (hp S) 40 [2] 0 = some (.ref (5 + S.2.2.2 40)) := hp_gf (a := 39) (k := 0) (d := 1) (cs := [2]) rfl ⟨⟨by decide, by decide⟩, rfl⟩
theorem GF_40_1 (S : hs_S) : sx_gf (hp S) 40 [2] 1 = some (.int (S.1 40 1)) := hp_gf (a := 39) (k := 1) (d := 0) (cs := [2]) rfl ⟨⟨by decide, by decide⟩, rfl⟩
theorem PF_40_1 (S : hs_S) (v : Int32) : sx_pf (hp S) 40 [2] 1 (.int v) = some (hp (uF S 40 1 v)) := hp_pf (a := 39) (k := 1) (cs := [2]) rfl ⟨⟨by decide, by decide⟩, rfl⟩
theorem GF_40_2 (S : hs_S) : sx_gf (hp S) 40 [2] 2 = some (.int (S.1 40 2)) := hp_gf (a := 39) (k := 2) (d := 0) (cs := [2]) rfl ⟨⟨by decide, by decide⟩, rfl⟩
theorem PF_40_2 (S : hs_S) (v : Int32) : sx_pf (hp S) 40 [2] 2 (.int v) = some (hp (uF S 40 2 v)) := hp_pf (a := 39) (k := 2) (cs := [2]) rfl ⟨⟨by decide, by decide⟩, rfl⟩
theorem GF_40_3 (S : hs_S) : sx_gf (hp S) 40 [2] 3 = some (.int (S.1 40 3)) := hp_gf (a := 39) (k := 3) (d := 0) (cs := [2]) rfl ⟨⟨by decide, by decide⟩, rfl⟩
theorem PF_40_3 (S : hs_S) (v : Int32) : sx_pf (hp S) 40 [2] 3 (.int v) = some (hp (uF S 40 3 v)) := hp_pf (a := 39) (k := 3) (cs := [2]) rfl ⟨⟨by decide, by decide⟩, rfl⟩
theorem GF_40_4 (S : hs_S) : sx_gf (hp S) 40 [2] 4 = some (.int (S.1 40 4)) := hp_gf (a := 39) (k := 4) (d := 0) (cs := [2]) rfl ⟨⟨by decide, by decide⟩, rfl⟩
theorem PF_40_4 (S : hs_S) (v : Int32) : sx_pf (hp S) 40 [2] 4 (.int v) = some (hp (uF S 40 4 v)) := hp_pf (a := 39) (k := 4) (cs := [2]) rfl ⟨⟨by decide, by decide⟩, rfl⟩
theorem GF_40_5 (S : hs_S) : sx_gf (hp S) 40 [2] 5 = some (.int (S.1 40 5)) := hp_gf (a := 39) (k := 5) (d := 0) (cs := [2]) rfl ⟨⟨by decide, by decide⟩, rfl⟩
theorem PF_40_5 (S : hs_S) (v : Int32) : sx_pf (hp S) 40 [2] 5 (.int v) = some (hp (uF S 40 5 v)) := hp_pf (a := 39) (k := 5) (cs := [2]) rfl ⟨⟨by decide, by decide⟩, rfl⟩
theorem KL_41 (S : hs_S) : sx_kl (hp S) 41 = some 2 := hp_kl (a := 40) rfl (by decide)
theorem GF_41_0 (S : hs_S) : sx_gf (hp S) 41 [2] 0 = some (.ref (5 + S.2.2.2 41)) := hp_gf (a := 40) (k := 0) (d := 1) (cs := [2]) rfl ⟨⟨by decide, by decide⟩, rfl⟩
theorem GF_41_1 (S : hs_S) : sx_gf (hp S) 41 [2] 1 = some (.int (S.1 41 1)) := hp_gf (a := 40) (k := 1) (d := 0) (cs := [2]) rfl ⟨⟨by decide, by decide⟩, rfl⟩
theorem PF_41_1 (S : hs_S) (v : Int32) : sx_pf (hp S) 41 [2] 1 (.int v) = some (hp (uF S 41 1 v)) := hp_pf (a := 40) (k := 1) (cs := [2]) rfl ⟨⟨by decide, by decide⟩, rfl⟩
theorem GF_41_2 (S : hs_S) : sx_gf (hp S) 41 [2] 2 = some (.int (S.1 41 2)) := hp_gf (a := 40) (k := 2) (d := 0) (cs := [2]) rfl ⟨⟨by decide, by decide⟩, rfl⟩
theorem PF_41_2 (S : hs_S) (v : Int32) : sx_pf (hp S) 41 [2] 2 (.int v) = some (hp (uF S 41 2 v)) := hp_pf (a := 40) (k := 2) (cs := [2]) rfl ⟨⟨by decide, by decide⟩, rfl⟩
theorem GF_41_3 (S : hs_S) : sx_gf (hp S) 41 [2] 3 = some (.int (S.1 41 3)) := hp_gf (a := 40) (k := 3) (d := 0) (cs := [2]) rfl ⟨⟨by decide, by decide⟩, rfl⟩
theorem PF_41_3 (S : hs_S) (v : Int32) : sx_pf (hp S) 41 [2] 3 (.int v) = some (hp (uF S 41 3 v)) := hp_pf (a := 40) (k := 3) (cs := [2]) rfl ⟨⟨by decide, by decide⟩, rfl⟩
theorem GF_41_4 (S : hs_S) : sx_gf (hp S) 41 [2] 4 = some (.int (S.1 41 4)) := hp_gf (a := 40) (k := 4) (d := 0) (cs := [2]) rfl ⟨⟨by decide, by decide⟩, rfl⟩
theorem PF_41_4 (S : hs_S) (v : Int32) : sx_pf (hp S) 41 [2] 4 (.int v) = some (hp (uF S 41 4 v)) := hp_pf (a := 40) (k := 4) (cs := [2]) rfl ⟨⟨by decide, by decide⟩, rfl⟩
theorem GF_41_5 (S : hs_S) : sx_gf (hp S) 41 [2] 5 = some (.int (S.1 41 5)) := hp_gf (a := 40) (k := 5) (d := 0) (cs := [2]) rfl ⟨⟨by decide, by decide⟩, rfl⟩
theorem PF_41_5 (S : hs_S) (v : Int32) : sx_pf (hp S) 41 [2] 5 (.int v) = some (hp (uF S 41 5 v)) := hp_pf (a := 40) (k := 5) (cs := [2]) rfl ⟨⟨by decide, by decide⟩, rfl⟩
theorem KL_42 (S : hs_S) : sx_kl (hp S) 42 = some 2 := hp_kl (a := 41) rfl (by decide)
theorem GF_42_0 (S : hs_S) : sx_gf (hp S) 42 [2] 0 = some (.ref (5 + S.2.2.2 42)) := hp_gf (a := 41) (k := 0) (d := 1) (cs := [2]) rfl ⟨⟨by decide, by decide⟩, rfl⟩
theorem GF_42_1 (S : hs_S) : sx_gf (hp S) 42 [2] 1 = some (.int (S.1 42 1)) := hp_gf (a := 41) (k := 1) (d := 0) (cs := [2]) rfl ⟨⟨by decide, by decide⟩, rfl⟩
theorem PF_42_1 (S : hs_S) (v : Int32) : sx_pf (hp S) 42 [2] 1 (.int v) = some (hp (uF S 42 1 v)) := hp_pf (a := 41) (k := 1) (cs := [2]) rfl ⟨⟨by decide, by decide⟩, rfl⟩
theorem GF_42_2 (S : hs_S) : sx_gf (hp S) 42 [2] 2 = some (.int (S.1 42 2)) := hp_gf (a := 41) (k := 2) (d := 0) (cs := [2]) rfl ⟨⟨by decide, by decide⟩, rfl⟩
theorem PF_42_2 (S : hs_S) (v : Int32) : sx_pf (hp S) 42 [2] 2 (.int v) = some (hp (uF S 42 2 v)) := hp_pf (a := 41) (k := 2) (cs := [2]) rfl ⟨⟨by decide, by decide⟩, rfl⟩
theorem GF_42_3 (S : hs_S) : sx_gf (hp S) 42 [2] 3 = some (.int (S.1 42 3)) := hp_gf (a := 41) (k := 3) (d := 0) (cs := [2]) rfl ⟨⟨by decide, by decide⟩, rfl⟩
theorem PF_42_3 (S : hs_S) (v : Int32) : sx_pf (hp S) 42 [2] 3 (.int v) = some (hp (uF S 42 3 v)) := hp_pf (a := 41) (k := 3) (cs := [2]) rfl ⟨⟨by decide, by decide⟩, rfl⟩
theorem GF_42_4 (S : hs_S) : sx_gf (hp S) 42 [2] 4 = some (.int (S.1 42 4)) := hp_gf (a := 41) (k := 4) (d := 0) (cs := [2]) rfl ⟨⟨by decide, by decide⟩, rfl⟩
theorem PF_42_4 (S : hs_S) (v : Int32) : sx_pf (hp S) 42 [2] 4 (.int v) = some (hp (uF S 42 4 v)) := hp_pf (a := 41) (k := 4) (cs := [2]) rfl ⟨⟨by decide, by decide⟩, rfl⟩
theorem GF_42_5 (S : hs_S) : sx_gf (hp S) 42 [2] 5 = some (.int (S.1 42 5)) := hp_gf (a := 41) (k := 5) (d := 0) (cs := [2]) rfl ⟨⟨by decide, by decide⟩, rfl⟩
theorem PF_42_5 (S : hs_S) (v : Int32) : sx_pf (hp S) 42 [2] 5 (.int v) = some (hp (uF S 42 5 v)) := hp_pf (a := 41) (k := 5) (cs := [2]) rfl ⟨⟨by decide, by decide⟩, rfl⟩
theorem KL_43 (S : hs_S) : sx_kl (hp S) 43 = some 2 := hp_kl (a := 42) rfl (by decide)
theorem GF_43_0 (S : hs_S) : sx_gf (hp S) 43 [2] 0 = some (.ref (5 + S.2.2.2 43)) := hp_gf (a := 42) (k := 0) (d := 1) (cs := [2]) rfl ⟨⟨by decide, by decide⟩, rfl⟩
theorem GF_43_1 (S : hs_S) : sx_gf (hp S) 43 [2] 1 = some (.int (S.1 43 1)) := hp_gf (a := 42) (k := 1) (d := 0) (cs := [2]) rfl ⟨⟨by decide, by decide⟩, rfl⟩
theorem PF_43_1 (S : hs_S) (v : Int32) : sx_pf (hp S) 43 [2] 1 (.int v) = some (hp (uF S 43 1 v)) := hp_pf (a := 42) (k := 1) (cs := [2]) rfl ⟨⟨by decide, by decide⟩, rfl⟩
theorem GF_43_2 (S : hs_S) : sx_gf (hp S) 43 [2] 2 = some (.int (S.1 43 2)) := hp_gf (a := 42) (k := 2) (d := 0) (cs := [2]) rfl ⟨⟨by decide, by decide⟩, rfl⟩
theorem PF_43_2 (S : hs_S) (v : Int32) : sx_pf (hp S) 43 [2] 2 (.int v) = some (hp (uF S 43 2 v)) := hp_pf (a := 42) (k := 2) (cs := [2]) rfl ⟨⟨by decide, by decide⟩, rfl⟩
theorem GF_43_3 (S : hs_S) : sx_gf (hp S) 43 [2] 3 = some (.int (S.1 43 3)) := hp_gf (a := 42) (k := 3) (d := 0) (cs := [2]) rfl ⟨⟨by decide, by decide⟩, rfl⟩
theorem PF_43_3 (S : hs_S) (v : Int32) : sx_pf (hp S) 43 [2] 3 (.int v) = some (hp (uF S 43 3 v)) := hp_pf (a := 42) (k := 3) (cs := [2]) rfl ⟨⟨by decide, by decide⟩, rfl⟩
theorem GF_43_4 (S : hs_S) : sx_gf (hp S) 43 [2] 4 = some (.int (S.1 43 4)) := hp_gf (a := 42) (k := 4) (d := 0) (cs := [2]) rfl ⟨⟨by decide, by decide⟩, rfl⟩
theorem PF_43_4 (S : hs_S) (v : Int32) : sx_pf (hp S) 43 [2] 4 (.int v) = some (hp (uF S 43 4 v)) := hp_pf (a := 42) (k := 4) (cs := [2]) rfl ⟨⟨by decide, by decide⟩, rfl⟩
theorem GF_43_5 (S : hs_S) : sx_gf (hp S) 43 [2] 5 = some (.int (S.1 43 5)) := hp_gf (a := 42) (k := 5) (d := 0) (cs := [2]) rfl ⟨⟨by decide, by decide⟩, rfl⟩
theorem PF_43_5 (S : hs_S) (v : Int32) : sx_pf (hp S) 43 [2] 5 (.int v) = some (hp (uF S 43 5 v)) := hp_pf (a := 42) (k := 5) (cs := [2]) rfl ⟨⟨by decide, by decide⟩, rfl⟩
theorem KL_44 (S : hs_S) : sx_kl (hp S) 44 = some 2 := hp_kl (a := 43) rfl (by decide)
theorem GF_44_0 (S : hs_S) : sx_gf (hp S) 44 [2] 0 = some (.ref (5 + S.2.2.2 44)) := hp_gf (a := 43) (k := 0) (d := 1) (cs := [2]) rfl ⟨⟨by decide, by decide⟩, rfl⟩
theorem GF_44_1 (S : hs_S) : sx_gf (hp S) 44 [2] 1 = some (.int (S.1 44 1)) := hp_gf (a := 43) (k := 1) (d := 0) (cs := [2]) rfl ⟨⟨by decide, by decide⟩, rfl⟩
theorem PF_44_1 (S : hs_S) (v : Int32) : sx_pf (hp S) 44 [2] 1 (.int v) = some (hp (uF S 44 1 v)) := hp_pf (a := 43) (k := 1) (cs := [2]) rfl ⟨⟨by decide, by decide⟩, rfl⟩
theorem GF_44_2 (S : hs_S) : sx_gf (hp S) 44 [2] 2 = some (.int (S.1 44 2)) := hp_gf (a := 43) (k := 2) (d := 0) (cs := [2]) rfl ⟨⟨by decide, by decide⟩, rfl⟩
theorem PF_44_2 (S : hs_S) (v : Int32) : sx_pf (hp S) 44 [2] 2 (.int v) = some (hp (uF S 44 2 v)) := hp_pf (a := 43) (k := 2) (cs := [2]) rfl ⟨⟨by decide, by decide⟩, rfl⟩
theorem GF_44_3 (S : hs_S) : sx_gf (hp S) 44 [2] 3 = some (.int (S.1 44 3)) := hp_gf (a := 43) (k := 3) (d := 0) (cs := [2]) rfl ⟨⟨by decide, by decide⟩, rfl⟩
theorem PF_44_3 (S : hs_S) (v : Int32) : sx_pf (hp S) 44 [2] 3 (.int v) = some (hp (uF S 44 3 v)) := hp_pf (a := 43) (k := 3) (cs := [2]) rfl ⟨⟨by decide, by decide⟩, rfl⟩
theorem GF_44_4 (S : hs_S) : sx_gf (hp S) 44 [2] 4 = some (.int (S.1 44 4)) := hp_gf (a := 43) (k := 4) (d := 0) (cs := [2]) rfl ⟨⟨by decide, by decide⟩, rfl⟩
theorem PF_44_4 (S : hs_S) (v : Int32) : sx_pf (hp S) 44 [2] 4 (.int v) = some (hp (uF S 44 4 v)) := hp_pf (a := 43) (k := 4) (cs := [2]) rfl ⟨⟨by decide, by decide⟩, rfl⟩
theorem GF_44_5 (S : hs_S) : sx_gf (hp S) 44 [2] 5 = some (.int (S.1 44 5)) := hp_gf (a := 43) (k := 5) (d := 0) (cs := [2]) rfl ⟨⟨by decide, by decide⟩, rfl⟩
theorem PF_44_5 (S : hs_S) (v : Int32) : sx_pf (hp S) 44 [2] 5 (.int v) = some (hp (uF S 44 5 v)) := hp_pf (a := 43) (k := 5) (cs := [2]) rfl ⟨⟨by decide, by decide⟩, rfl⟩
theorem KL_45 (S : hs_S) : sx_kl (hp S) 45 = some 2 := hp_kl (a := 44) rfl (by decide)
theorem GF_45_0 (S : hs_S) : sx_gf (hp S) 45 [2] 0 = some (.ref (5 + S.2.2.2 45)) := hp_gf (a := 44) (k := 0) (d := 1) (cs := [2]) rfl ⟨⟨by decide, by decide⟩, rfl⟩
theorem GF_45_1 (S : hs_S) : sx_gf (hp S) 45 [2] 1 = some (.int (S.1 45 1)) := hp_gf (a := 44) (k := 1) (d := 0) (cs := [2]) rfl ⟨⟨by decide, by decide⟩, rfl⟩
theorem PF_45_1 (S : hs_S) (v : Int32) : sx_pf (hp S) 45 [2] 1 (.int v) = some (hp (uF S 45 1 v)) := hp_pf (a := 44) (k := 1) (cs := [2]) rfl ⟨⟨by decide, by decide⟩, rfl⟩
theorem GF_45_2 (S : hs_S) : sx_gf (hp S) 45 [2] 2 = some (.int (S.1 45 2)) := hp_gf (a := 44) (k := 2) (d := 0) (cs := [2]) rfl ⟨⟨by decide, by decide⟩, rfl⟩
theorem PF_45_2 (S : hs_S) (v : Int32) : sx_pf (hp S) 45 [2] 2 (.int v) = some (hp (uF S 45 2 v)) := hp_pf (a := 44) (k := 2) (cs := [2]) rfl ⟨⟨by decide, by decide⟩, rfl⟩
theorem GF_45_3 (S : hs_S) : sx_gf (hp S) 45 [2] 3 = some (.int (S.1 45 3)) := hp_gf (a := 44) (k := 3) (d := 0) (cs := [2]) rfl ⟨⟨by decide, by decide⟩, rfl⟩
theorem PF_45_3 (S : hs_S) (v : Int32) : sx_pf (hp S) 45 [2] 3 (.int v) = some (hp (uF S 45 3 v)) := hp_pf (a := 44) (k := 3) (cs := [2]) rfl ⟨⟨by decide, by decide⟩, rfl⟩
theorem GF_45_4 (S : hs_S) : sx_gf (hp S) 45 [2] 4 = some (.int (S.1 45 4)) := hp_gf (a := 44) (k := 4) (d := 0) (cs := [2]) rfl ⟨⟨by decide, by decide⟩, rfl⟩
theorem PF_45_4 (S : hs_S) (v : Int32) : sx_pf (hp S) 45 [2] 4 (.int v) = some (hp (uF S 45 4 v)) := hp_pf (a := 44) (k := 4) (cs := [2]) rfl ⟨⟨by decide, by decide⟩, rfl⟩
theorem GF_45_5 (S : hs_S) : sx_gf (hp S) 45 [2] 5 = some (.int (S.1 45 5)) := hp_gf (a := 44) (k := 5) (d := 0) (cs := [2]) rfl ⟨⟨by decide, by decide⟩, rfl⟩
theorem PF_45_5 (S : hs_S) (v : Int32) : sx_pf (hp S) 45 [2] 5 (.int v) = some (hp (uF S 45 5 v)) := hp_pf (a := 44) (k := 5) (cs := [2]) rfl ⟨⟨by decide, by decide⟩, rfl⟩
theorem KL_46 (S : hs_S) : sx_kl (hp S) 46 = some 2 := hp_kl (a := 45) rfl (by decide)
theorem GF_46_0 (S : hs_S) : sx_gf (hp S) 46 [2] 0 = some (.ref (5 + S.2.2.2 46)) := hp_gf (a := 45) (k := 0) (d := 1) (cs := [2]) rfl ⟨⟨by decide, by decide⟩, rfl⟩
theorem GF_46_1 (S : hs_S) : sx_gf (hp S) 46 [2] 1 = some (.int (S.1 46 1)) := hp_gf (a := 45) (k := 1) (d := 0) (cs := [2]) rfl ⟨⟨by decide, by decide⟩, rfl⟩
theorem PF_46_1 (S : hs_S) (v : Int32) : sx_pf (hp S) 46 [2] 1 (.int v) = some (hp (uF S 46 1 v)) := hp_pf (a := 45) (k := 1) (cs := [2]) rfl ⟨⟨by decide, by decide⟩, rfl⟩
theorem GF_46_2 (S : hs_S) : sx_gf (hp S) 46 [2] 2 = some (.int (S.1 46 2)) := hp_gf (a := 45) (k := 2) (d := 0) (cs := [2]) rfl ⟨⟨by decide, by decide⟩, rfl⟩
theorem PF_46_2 (S : hs_S) (v : Int32) : sx_pf (hp S) 46 [2] 2 (.int v) = some (hp (uF S 46 2 v)) := hp_pf (a := 45) (k := 2) (cs := [2]) rfl ⟨⟨by decide, by decide⟩, rfl⟩
theorem GF_46_3 (S : hs_S) : sx_gf (hp S) 46 [2] 3 = some (.int (S.1 46 3)) := hp_gf (a := 45) (k := 3) (d := 0) (cs := [2]) rfl ⟨⟨by decide, by decide⟩, rfl⟩
theorem PF_46_3 (S : hs_S) (v : Int32) : sx_pf (hp S) 46 [2] 3 (.int v) = some (hp (uF S 46 3 v)) := hp_pf (a := 45) (k := 3) (cs := [2]) rfl ⟨⟨by decide, by decide⟩, rfl⟩
theorem GF_46_4 (S : hs_S) : sx_gf (hp S) 46 [2] 4 = some (.int (S.1 46 4)) := hp_gf (a := 45) (k := 4) (d := 0) (cs := [2]) rfl ⟨⟨by decide, by decide⟩, rfl⟩
theorem PF_46_4 (S : hs_S) (v : Int32) : sx_pf (hp S) 46 [2] 4 (.int v) = some (hp (uF S 46 4 v)) := hp_pf (a := 45) (k := 4) (cs := [2]) rfl ⟨⟨by decide, by decide⟩, rfl⟩
theorem GF_46_5 (S : hs_S) : sx_gf (hp S) 46 [2] 5 = some (.int (S.1 46 5)) := hp_gf (a := 45) (k := 5) (d := 0) (cs := [2]) rfl ⟨⟨by decide, by decide⟩, rfl⟩
theorem PF_46_5 (S : hs_S) (v : Int32) : sx_pf (hp S) 46 [2] 5 (.int v) = some (hp (uF S 46 5 v)) := hp_pf (a := 45) (k := 5) (cs := [2]) rfl ⟨⟨by decide, by decide⟩, rfl⟩
theorem KL_47 (S : hs_S) : sx_kl (hp S) 47 = some 10 := hp_kl (a := 46) rfl (by decide)
theorem GF_47_0 (S : hs_S) : sx_gf (hp S) 47 [10] 0 = some (.ref 49) := hp_gf (a := 46) (k := 0) (d := 52) (cs := [10]) rfl ⟨⟨by decide, by decide⟩, rfl⟩
theorem GF_47_1 (S : hs_S) : sx_gf (hp S) 47 [10] 1 = some (.ref 48) := hp_gf (a := 46) (k := 1) (d := 51) (cs := [10]) rfl ⟨⟨by decide, by decide⟩, rfl⟩
theorem GF_47_2 (S : hs_S) : sx_gf (hp S) 47 [10] 2 = some (.int (S.1 47 2)) := hp_gf (a := 46) (k := 2) (d := 0) (cs := [10]) rfl ⟨⟨by decide, by decide⟩, rfl⟩
theorem PF_47_2 (S : hs_S) (v : Int32) : sx_pf (hp S) 47 [10] 2 (.int v) = some (hp (uF S 47 2 v)) := hp_pf (a := 46) (k := 2) (cs := [10]) rfl ⟨⟨by decide, by decide⟩, rfl⟩
theorem GF_47_3 (S : hs_S) : sx_gf (hp S) 47 [10] 3 = some (.int (S.1 47 3)) := hp_gf (a := 46) (k := 3) (d := 0) (cs := [10]) rfl ⟨⟨by decide, by decide⟩, rfl⟩
theorem PF_47_3 (S : hs_S) (v : Int32) : sx_pf (hp S) 47 [10] 3 (.int v) = some (hp (uF S 47 3 v)) := hp_pf (a := 46) (k := 3) (cs := [10]) rfl ⟨⟨by decide, by decide⟩, rfl⟩
theorem GF_47_4 (S : hs_S) : sx_gf (hp S) 47 [10] 4 = some (.int (S.1 47 4)) := hp_gf (a := 46) (k := 4) (d := 0) (cs := [10]) rfl ⟨⟨by decide, by decide⟩, rfl⟩
theorem PF_47_4 (S : hs_S) (v : Int32) : sx_pf (hp S) 47 [10] 4 (.int v) = some (hp (uF S 47 4 v)) := hp_pf (a := 46) (k := 4) (cs := [10]) rfl ⟨⟨by decide, by decide⟩, rfl⟩
theorem GF_47_5 (S : hs_S) : sx_gf (hp S) 47 [10] 5 = some (.int (S.1 47 5)) := hp_gf (a := 46) (k := 5) (d := 0) (cs := [10]) rfl ⟨⟨by decide, by decide⟩, rfl⟩
theorem PF_47_5 (S : hs_S) (v : Int32) : sx_pf (hp S) 47 [10] 5 (.int v) = some (hp (uF S 47 5 v)) := hp_pf (a := 46) (k := 5) (cs := [10]) rfl ⟨⟨by decide, by decide⟩, rfl⟩
theorem GF_47_6 (S : hs_S) : sx_gf (hp S) 47 [10] 6 = some (.int (S.1 47 6)) := hp_gf (a := 46) (k := 6) (d := 0) (cs := [10]) rfl ⟨⟨by decide, by decide⟩, rfl⟩
theorem PF_47_6 (S : hs_S) (v : Int32) : sx_pf (hp S) 47 [10] 6 (.int v) = some (hp (uF S 47 6 v)) := hp_pf (a := 46) (k := 6) (cs := [10]) rfl ⟨⟨by decide, by decide⟩, rfl⟩
theorem GI_48 (S : hs_S) (i : Int32) : sx_gi (hp S) 48 i = if sx_in i 11 = true then some (S.2.1 48 i.toNatClampNeg) else none := hp_gi (a := 47) rfl
theorem PI_48 (S : hs_S) (i x : Int32) : sx_pi (hp S) 48 i x = if sx_in i 11 = true then some (hp (uI S 48 (upd (S.2.1 48) i.toNatClampNeg x))) else none := hp_pi (a := 47) rfl
theorem AL_48 (S : hs_S) : sx_al (hp S) 48 = some 11 := rfl
theorem KL_49 (S : hs_S) : sx_kl (hp S) 49 = some 2 := hp_kl (a := 48) rfl (by decide)
theorem GF_49_0 (S : hs_S) : sx_gf (hp S) 49 [2] 0 = some (.ref (5 + S.2.2.2 49)) := hp_gf (a := 48) (k := 0) (d := 1) (cs := [2]) rfl ⟨⟨by decide, by decide⟩, rfl⟩
theorem GF_49_1 (S : hs_S) : sx_gf (hp S) 49 [2] 1 = some (.int (S.1 49 1)) := hp_gf (a := 48) (k := 1) (d := 0) (cs := [2]) rfl ⟨⟨by decide, by decide⟩, rfl⟩
theorem PF_49_1 (S : hs_S) (v : Int32) : sx_pf (hp S) 49 [2] 1 (.int v) = some (hp (uF S 49 1 v)) := hp_pf (a := 48) (k := 1) (cs := [2]) rfl ⟨⟨by decide, by decide⟩, rfl⟩
theorem GF_49_2 (S : hs_S) : sx_gf (hp S) 49 [2] 2 = some (.int (S.1 49 2)) := hp_gf (a := 48) (k := 2) (d := 0) (cs := [2]) rfl ⟨⟨by decide, by decide⟩, rfl⟩
theorem PF_49_2 (S : hs_S) (v : Int32) : sx_pf (hp S) 49 [2] 2 (.int v) = some (hp (uF S 49 2 v)) := hp_pf (a := 48) (k := 2) (cs := [2]) rfl ⟨⟨by decide, by decide⟩, rfl⟩
theorem GF_49_3 (S : hs_S) : sx_gf (hp S) 49 [2] 3 = some (.int (S.1 49 3)) := hp_gf (a := 48) (k := 3) (d := 0) (cs := [2]) rfl ⟨⟨by decide, by decide⟩, rfl⟩
theorem PF_49_3 (S : hs_S) (v : Int32) : sx_pf (hp S) 49 [2] 3 (.int v) = some (hp (uF S 49 3 v)) := hp_pf (a := 48) (k := 3) (cs := [2]) rfl ⟨⟨by decide, by decide⟩, rfl⟩
theorem GF_49_4 (S : hs_S) : sx_gf (hp S) 49 [2] 4 = some (.int (S.1 49 4)) := hp_gf (a := 48) (k := 4) (d := 0) (cs := [2]) rfl ⟨⟨by decide, by decide⟩, rfl⟩
theorem PF_49_4 (S : hs_S) (v : Int32) : sx_pf (hp S) 49 [2] 4 (.int v) = some (hp (uF S 49 4 v)) := hp_pf (a := 48) (k := 4) (cs := [2]) rfl ⟨⟨by decide, by decide⟩, rfl⟩
theorem GF_49_5 (S : hs_S) : sx_gf (hp S) 49 [2] 5 = some (.int (S.1 49 5)) := hp_gf (a := 48) (k := 5) (d := 0) (cs := [2]) rfl ⟨⟨by decide, by decide⟩, rfl⟩
theorem PF_49_5 (S : hs_S) (v : Int32) : sx_pf (hp S) 49 [2] 5 (.int v) = some (hp (uF S 49 5 v)) := hp_pf (a := 48) (k := 5) (cs := [2]) rfl ⟨⟨by decide, by decide⟩, rfl⟩
theorem KL_50 (S : hs_S) : sx_kl (hp S) 50 = some 2 := hp_kl (a := 49) rfl (by decide)
theorem GF_50_0 (S : hs_S) : sx_gf (hp S) 50 [2] 0 = some (.ref (5 + S.2.2.2 50)) := hp_gf (a := 49) (k := 0) (d := 1) (cs := [2]) rfl ⟨⟨by decide, by decide⟩, rfl⟩
theorem GF_50_1 (S : hs_S) : sx_gf (hp S) 50 [2] 1 = some (.int (S.1 50 1)) := hp_gf (a := 49) (k := 1) (d := 0) (cs := [2]) rfl ⟨⟨by decide, by decide⟩, rfl⟩
theorem PF_50_1 (S : hs_S) (v : Int32) : sx_pf (hp S) 50 [2] 1 (.int v) = some (hp (uF S 50 1 v)) := hp_pf (a := 49) (k := 1) (cs := [2]) rfl ⟨⟨by decide, by decide⟩, rfl⟩
theorem GF_50_2 (S : hs_S) : sx_gf (hp S) 50 [2] 2 = some (.int (S.1 50 2)) := hp_gf (a := 49) (k := 2) (d := 0) (cs := [2]) rfl ⟨⟨by decide, by decide⟩, rfl⟩
theorem PF_50_2 (S : hs_S) (v : Int32) : sx_pf (hp S) 50 [2] 2 (.int v) = some (hp (uF S 50 2 v)) := hp_pf (a := 49) (k := 2) (cs := [2]) rfl ⟨⟨by decide, by decide⟩, rfl⟩
theorem GF_50_3 (S : hs_S) : sx_gf (hp S) 50 [2] 3 = some (.int (S.1 50 3)) := hp_gf (a := 49) (k := 3) (d := 0) (cs := [2]) rfl ⟨⟨by decide, by decide⟩, rfl⟩
theorem PF_50_3 (S : hs_S) (v : Int32) : sx_pf (hp S) 50 [2] 3 (.int v) = some (hp (uF S 50 3 v)) := hp_pf (a := 49) (k := 3) (cs := [2]) rfl ⟨⟨by decide, by decide⟩, rfl⟩
theorem GF_50_4 (S : hs_S) : sx_gf (hp S) 50 [2] 4 = some (.int (S.1 50 4)) := hp_gf (a := 49) (k := 4) (d := 0) (cs := [2]) rfl ⟨⟨by decide, by decide⟩, rfl⟩
theorem PF_50_4 (S : hs_S) (v : Int32) : sx_pf (hp S) 50 [2] 4 (.int v) = some (hp (uF S 50 4 v)) := hp_pf (a := 49) (k := 4) (cs := [2]) rfl ⟨⟨by decide, by decide⟩, rfl⟩
theorem GF_50_5 (S : hs_S) : sx_gf (hp S) 50 [2] 5 = some (.int (S.1 50 5)) := hp_gf (a := 49) (k := 5) (d := 0) (cs := [2]) rfl ⟨⟨by decide, by decide⟩, rfl⟩
theorem PF_50_5 (S : hs_S) (v : Int32) : sx_pf (hp S) 50 [2] 5 (.int v) = some (hp (uF S 50 5 v)) := hp_pf (a := 49) (k := 5) (cs := [2]) rfl ⟨⟨by decide, by decide⟩, rfl⟩
theorem KL_51 (S : hs_S) : sx_kl (hp S) 51 = some 9 := hp_kl (a := 50) rfl (by decide)
theorem GF_51_0 (S : hs_S) : sx_gf (hp S) 51 [9] 0 = some (.ref 52) := hp_gf (a := 50) (k := 0) (d := 55) (cs := [9]) rfl ⟨⟨by decide, by decide⟩, rfl⟩
theorem GF_51_1 (S : hs_S) : sx_gf (hp S) 51 [9] 1 = some (.int (S.1 51 1)) := hp_gf (a := 50) (k := 1) (d := 0) (cs := [9]) rfl ⟨⟨by decide, by decide⟩, rfl⟩
theorem PF_51_1 (S : hs_S) (v : Int32) : sx_pf (hp S) 51 [9] 1 (.int v) = some (hp (uF S 51 1 v)) := hp_pf (a := 50) (k := 1) (cs := [9]) rfl ⟨⟨by decide, by decide⟩, rfl⟩
theorem GF_51_2 (S : hs_S) : sx_gf (hp S) 51 [9] 2 = some (.int (S.1 51 2)) := hp_gf (a := 50) (k := 2) (d := 0) (cs := [9]) rfl ⟨⟨by decide, by decide⟩, rfl⟩
theorem PF_51_2 (S : hs_S) (v : Int32) : sx_pf (hp S) 51 [9] 2 (.int v) = some (hp (uF S 51 2 v)) := hp_pf (a := 50) (k := 2) (cs := [9]) rfl ⟨⟨by decide, by decide⟩, rfl⟩
theorem GF_51_3 (S : hs_S) : sx_gf (hp S) 51 [9] 3 = some (.int (S.1 51 3)) := hp_gf (a := 50) (k := 3) (d := 0) (cs := [9]) rfl ⟨⟨by decide, by decide⟩, rfl⟩
theorem PF_51_3 (S : hs_S) (v : Int32) : sx_pf (hp S) 51 [9] 3 (.int v) = some (hp (uF S 51 3 v)) := hp_pf (a := 50) (k := 3) (cs := [9]) rfl ⟨⟨by decide, by decide⟩, rfl⟩
theorem GF_51_4 (S : hs_S) : sx_gf (hp S) 51 [9] 4 = some (.int (S.1 51 4)) := hp_gf (a := 50) (k := 4) (d := 0) (cs := [9]) rfl ⟨⟨by decide, by decide⟩, rfl⟩
theorem PF_51_4 (S : hs_S) (v : Int32) : sx_pf (hp S) 51 [9] 4 (.int v) = some (hp (uF S 51 4 v)) := hp_pf (a := 50) (k := 4) (cs := [9]) rfl ⟨⟨by decide, by decide⟩, rfl⟩
theorem GF_51_5 (S : hs_S) : sx_gf (hp S) 51 [9] 5 = some (.int (S.1 51 5)) := hp_gf (a := 50) (k := 5) (d := 0) (cs := [9]) rfl ⟨⟨by decide, by decide⟩, rfl⟩
theorem PF_51_5 (S : hs_S) (v : Int32) : sx_pf (hp S) 51 [9] 5 (.int v) = some (hp (uF S 51 5 v)) := hp_pf (a := 50) (k := 5) (cs := [9]) rfl ⟨⟨by decide, by decide⟩, rfl⟩
theorem GI_52 (S : hs_S) (i : Int32) : sx_gi (hp S) 52 i = if sx_in i 120 = true then some (S.2.1 52 i.toNatClampNeg) else none := hp_gi (a := 51) rfl
theorem PI_52 (S : hs_S) (i x : Int32) : sx_pi (hp S) 52 i x = if sx_in i 120 = true then some (hp (uI S 52 (upd (S.2.1 52) i.toNatClampNeg x))) else none := hp_pi (a := 51) rfl
theorem AL_52 (S : hs_S) : sx_al (hp S) 52 = some 120 := rfl
theorem KL_53 (S : hs_S) : sx_kl (hp S) 53 = some 8 := hp_kl (a := 52) rfl (by decide)
theorem GF_53_0 (S : hs_S) : sx_gf (hp S) 53 [8] 0 = some (.ref 54) := hp_gf (a := 52) (k := 0) (d := 57) (cs := [8]) rfl ⟨⟨by decide, by decide⟩, rfl⟩
theorem GF_53_1 (S : hs_S) : sx_gf (hp S) 53 [8] 1 = some (.int (S.1 53 1)) := hp_gf (a := 52) (k := 1) (d := 0) (cs := [8]) rfl ⟨⟨by decide, by decide⟩, rfl⟩
theorem PF_53_1 (S : hs_S) (v : Int32) : sx_pf (hp S) 53 [8] 1 (.int v) = some (hp (uF S 53 1 v)) := hp_pf (a := 52) (k := 1) (cs := [8]) rfl ⟨⟨by decide, by decide⟩, rfl⟩
theorem GF_53_2 (S : hs_S) : sx_gf (hp S) 53 [8] 2 = some (.int (S.1 53 2)) := hp_gf (a := 52) (k := 2) (d := 0) (cs := [8]) rfl ⟨⟨by decide, by decide⟩, rfl⟩
theorem PF_53_2 (S : hs_S) (v : Int32) : sx_pf (hp S) 53 [8] 2 (.int v) = some (hp (uF S 53 2 v)) := hp_pf (a := 52) (k := 2) (cs := [8]) rfl ⟨⟨by decide, by decide⟩, rfl⟩
theorem GJ_54 (S : hs_S) (i : Int32) : sx_gj (hp S) 54 i = if sx_in i 40 = true then some (S.2.2.1 54 i.toNatClampNeg) else none := hp_gj (a := 53) rfl
theorem PJ_54 (S : hs_S) (i : Int32) (x : Int64) : sx_pj (hp S) 54 i x = if sx_in i 40 = true then some (hp (uJ S 54 (vp_updL (S.2.2.1 54) i.toNatClampNeg x))) else none := hp_pj (a := 53) rfl
theorem AL_54 (S : hs_S) : sx_al (hp S) 54 = some 40 := rfl
theorem KL_55 (S : hs_S) : sx_kl (hp S) 55 = some 8 := hp_kl (a := 54) rfl (by decide)
theorem GF_55_0 (S : hs_S) : sx_gf (hp S) 55 [8] 0 = some (.ref 56) := hp_gf (a := 54) (k := 0) (d := 59) (cs := [8]) rfl ⟨⟨by decide, by decide⟩, rfl⟩
theorem GF_55_1 (S : hs_S) : sx_gf (hp S) 55 [8] 1 = some (.int (S.1 55 1)) := hp_gf (a := 54) (k := 1) (d := 0) (cs := [8]) rfl ⟨⟨by decide, by decide⟩, rfl⟩
theorem PF_55_1 (S : hs_S) (v : Int32) : sx_pf (hp S) 55 [8] 1 (.int v) = some (hp (uF S 55 1 v)) := hp_pf (a := 54) (k := 1) (cs := [8]) rfl ⟨⟨by decide, by decide⟩, rfl⟩
theorem GF_55_2 (S : hs_S) : sx_gf (hp S) 55 [8] 2 = some (.int (S.1 55 2)) := hp_gf (a := 54) (k := 2) (d := 0) (cs := [8]) rfl ⟨⟨by decide, by decide⟩, rfl⟩
theorem PF_55_2 (S : hs_S) (v : Int32) : sx_pf (hp S) 55 [8] 2 (.int v) = some (hp (uF S 55 2 v)) := hp_pf (a := 54) (k := 2) (cs := [8]) rfl ⟨⟨by decide, by decide⟩, rfl⟩
theorem GJ_56 (S : hs_S) (i : Int32) : sx_gj (hp S) 56 i = if sx_in i 40 = true then some (S.2.2.1 56 i.toNatClampNeg) else none := hp_gj (a := 55) rfl
theorem PJ_56 (S : hs_S) (i : Int32) (x : Int64) : sx_pj (hp S) 56 i x = if sx_in i 40 = true then some (hp (uJ S 56 (vp_updL (S.2.2.1 56) i.toNatClampNeg x))) else none := hp_pj (a := 55) rfl
theorem AL_56 (S : hs_S) : sx_al (hp S) 56 = some 40 := rfl
theorem KL_57 (S : hs_S) : sx_kl (hp S) 57 = some 8 := hp_kl (a := 56) rfl (by decide)
theorem GF_57_0 (S : hs_S) : sx_gf (hp S) 57 [8] 0 = some (.ref 58) := hp_gf (a := 56) (k := 0) (d := 61) (cs := [8]) rfl ⟨⟨by decide, by decide⟩, rfl⟩
theorem GF_57_1 (S : hs_S) : sx_gf (hp S) 57 [8] 1 = some (.int (S.1 57 1)) := hp_gf (a := 56) (k := 1) (d := 0) (cs := [8]) rfl ⟨⟨by decide, by decide⟩, rfl⟩
theorem PF_57_1 (S : hs_S) (v : Int32) : sx_pf (hp S) 57 [8] 1 (.int v) = some (hp (uF S 57 1 v)) := hp_pf (a := 56) (k := 1) (cs := [8]) rfl ⟨⟨by decide, by decide⟩, rfl⟩
theorem GF_57_2 (S : hs_S) : sx_gf (hp S) 57 [8] 2 = some (.int (S.1 57 2)) := hp_gf (a := 56) (k := 2) (d := 0) (cs := [8]) rfl ⟨⟨by decide, by decide⟩, rfl⟩
theorem PF_57_2 (S : hs_S) (v : Int32) : sx_pf (hp S) 57 [8] 2 (.int v) = some (hp (uF S 57 2 v)) := hp_pf (a := 56) (k := 2) (cs := [8]) rfl ⟨⟨by decide, by decide⟩, rfl⟩
theorem GJ_58 (S : hs_S) (i : Int32) : sx_gj (hp S) 58 i = if sx_in i 40 = true then some (S.2.2.1 58 i.toNatClampNeg) else none := hp_gj (a := 57) rfl
theorem PJ_58 (S : hs_S) (i : Int32) (x : Int64) : sx_pj (hp S) 58 i x = if sx_in i 40 = true then some (hp (uJ S 58 (vp_updL (S.2.2.1 58) i.toNatClampNeg x))) else none := hp_pj (a := 57) rfl
theorem AL_58 (S : hs_S) : sx_al (hp S) 58 = some 40 := rfl
theorem KL_59 (S : hs_S) : sx_kl (hp S) 59 = some 8 := hp_kl (a := 58) rfl (by decide)
theorem GF_59_0 (S : hs_S) : sx_gf (hp S) 59 [8] 0 = some (.ref 60) := hp_gf (a := 58) (k := 0) (d := 63) (cs := [8]) rfl ⟨⟨by decide, by decide⟩, rfl⟩
theorem GF_59_1 (S : hs_S) : sx_gf (hp S) 59 [8] 1 = some (.int (S.1 59 1)) := hp_gf (a := 58) (k := 1) (d := 0) (cs := [8]) rfl ⟨⟨by decide, by decide⟩, rfl⟩
theorem PF_59_1 (S : hs_S) (v : Int32) : sx_pf (hp S) 59 [8] 1 (.int v) = some (hp (uF S 59 1 v)) := hp_pf (a := 58) (k := 1) (cs := [8]) rfl ⟨⟨by decide, by decide⟩, rfl⟩
theorem GF_59_2 (S : hs_S) : sx_gf (hp S) 59 [8] 2 = some (.int (S.1 59 2)) := hp_gf (a := 58) (k := 2) (d := 0) (cs := [8]) rfl ⟨⟨by decide, by decide⟩, rfl⟩
theorem PF_59_2 (S : hs_S) (v : Int32) : sx_pf (hp S) 59 [8] 2 (.int v) = some (hp (uF S 59 2 v)) := hp_pf (a := 58) (k := 2) (cs := [8]) rfl ⟨⟨by decide, by decide⟩, rfl⟩
theorem GJ_60 (S : hs_S) (i : Int32) : sx_gj (hp S) 60 i = if sx_in i 40 = true then some (S.2.2.1 60 i.toNatClampNeg) else none := hp_gj (a := 59) rfl
theorem PJ_60 (S : hs_S) (i : Int32) (x : Int64) : sx_pj (hp S) 60 i x = if sx_in i 40 = true then some (hp (uJ S 60 (vp_updL (S.2.2.1 60) i.toNatClampNeg x))) else none := hp_pj (a := 59) rfl
theorem AL_60 (S : hs_S) : sx_al (hp S) 60 = some 40 := rfl
theorem KL_61 (S : hs_S) : sx_kl (hp S) 61 = some 12 := hp_kl (a := 60) rfl (by decide)
theorem GF_61_0 (S : hs_S) : sx_gf (hp S) 61 [12] 0 = some (.ref 62) := hp_gf (a := 60) (k := 0) (d := 65) (cs := [12]) rfl ⟨⟨by decide, by decide⟩, rfl⟩
theorem GF_61_1 (S : hs_S) : sx_gf (hp S) 61 [12] 1 = some (.ref 63) := hp_gf (a := 60) (k := 1) (d := 66) (cs := [12]) rfl ⟨⟨by decide, by decide⟩, rfl⟩
theorem GF_61_2 (S : hs_S) : sx_gf (hp S) 61 [12] 2 = some (.ref 64) := hp_gf (a := 60) (k := 2) (d := 67) (cs := [12]) rfl ⟨⟨by decide, by decide⟩, rfl⟩
theorem GF_61_3 (S : hs_S) : sx_gf (hp S) 61 [12] 3 = some (.ref 65) := hp_gf (a := 60) (k := 3) (d := 68) (cs := [12]) rfl ⟨⟨by decide, by decide⟩, rfl⟩
theorem GF_61_4 (S : hs_S) : sx_gf (hp S) 61 [12] 4 = some (.ref 66) := hp_gf (a := 60) (k := 4) (d := 69) (cs := [12]) rfl ⟨⟨by decide, by decide⟩, rfl⟩
theorem GF_61_5 (S : hs_S) : sx_gf (hp S) 61 [12] 5 = some (.int (S.1 61 5)) := hp_gf (a := 60) (k := 5) (d := 0) (cs := [12]) rfl ⟨⟨by decide, by decide⟩, rfl⟩
theorem PF_61_5 (S : hs_S) (v : Int32) : sx_pf (hp S) 61 [12] 5 (.int v) = some (hp (uF S 61 5 v)) := hp_pf (a := 60) (k := 5) (cs := [12]) rfl ⟨⟨by decide, by decide⟩, rfl⟩
theorem GF_61_6 (S : hs_S) : sx_gf (hp S) 61 [12] 6 = some (.int (S.1 61 6)) := hp_gf (a := 60) (k := 6) (d := 0) (cs := [12]) rfl ⟨⟨by decide, by decide⟩, rfl⟩
theorem PF_61_6 (S : hs_S) (v : Int32) : sx_pf (hp S) 61 [12] 6 (.int v) = some (hp (uF S 61 6 v)) := hp_pf (a := 60) (k := 6) (cs := [12]) rfl ⟨⟨by decide, by decide⟩, rfl⟩
theorem GF_61_7 (S : hs_S) : sx_gf (hp S) 61 [12] 7 = some (.int (S.1 61 7)) := hp_gf (a := 60) (k := 7) (d := 0) (cs := [12]) rfl ⟨⟨by decide, by decide⟩, rfl⟩
theorem PF_61_7 (S : hs_S) (v : Int32) : sx_pf (hp S) 61 [12] 7 (.int v) = some (hp (uF S 61 7 v)) := hp_pf (a := 60) (k := 7) (cs := [12]) rfl ⟨⟨by decide, by decide⟩, rfl⟩
theorem GF_61_8 (S : hs_S) : sx_gf (hp S) 61 [12] 8 = some (.int (S.1 61 8)) := hp_gf (a := 60) (k := 8) (d := 0) (cs := [12]) rfl ⟨⟨by decide, by decide⟩, rfl⟩
theorem PF_61_8 (S : hs_S) (v : Int32) : sx_pf (hp S) 61 [12] 8 (.int v) = some (hp (uF S 61 8 v)) := hp_pf (a := 60) (k := 8) (cs := [12]) rfl ⟨⟨by decide, by decide⟩, rfl⟩
theorem GF_61_9 (S : hs_S) : sx_gf (hp S) 61 [12] 9 = some (.int (S.1 61 9)) := hp_gf (a := 60) (k := 9) (d := 0) (cs := [12]) rfl ⟨⟨by decide, by decide⟩, rfl⟩
theorem PF_61_9 (S : hs_S) (v : Int32) : sx_pf (hp S) 61 [12] 9 (.int v) = some (hp (uF S 61 9 v)) := hp_pf (a := 60) (k := 9) (cs := [12]) rfl ⟨⟨by decide, by decide⟩, rfl⟩
theorem GF_61_10 (S : hs_S) : sx_gf (hp S) 61 [12] 10 = some (.int (S.1 61 10)) := hp_gf (a := 60) (k := 10) (d := 0) (cs := [12]) rfl ⟨⟨by decide, by decide⟩, rfl⟩
theorem PF_61_10 (S : hs_S) (v : Int32) : sx_pf (hp S) 61 [12] 10 (.int v) = some (hp (uF S 61 10 v)) := hp_pf (a := 60) (k := 10) (cs := [12]) rfl ⟨⟨by decide, by decide⟩, rfl⟩
theorem GF_61_11 (S : hs_S) : sx_gf (hp S) 61 [12] 11 = some (.int (S.1 61 11)) := hp_gf (a := 60) (k := 11) (d := 0) (cs := [12]) rfl ⟨⟨by decide, by decide⟩, rfl⟩
theorem PF_61_11 (S : hs_S) (v : Int32) : sx_pf (hp S) 61 [12] 11 (.int v) = some (hp (uF S 61 11 v)) := hp_pf (a := 60) (k := 11) (cs := [12]) rfl ⟨⟨by decide, by decide⟩, rfl⟩
theorem GF_61_12 (S : hs_S) : sx_gf (hp S) 61 [12] 12 = some (.ref 67) := hp_gf (a := 60) (k := 12) (d := 70) (cs := [12]) rfl ⟨⟨by decide, by decide⟩, rfl⟩
theorem GF_61_13 (S : hs_S) : sx_gf (hp S) 61 [12] 13 = some (.int (S.1 61 13)) := hp_gf (a := 60) (k := 13) (d := 0) (cs := [12]) rfl ⟨⟨by decide, by decide⟩, rfl⟩
theorem PF_61_13 (S : hs_S) (v : Int32) : sx_pf (hp S) 61 [12] 13 (.int v) = some (hp (uF S 61 13 v)) := hp_pf (a := 60) (k := 13) (cs := [12]) rfl ⟨⟨by decide, by decide⟩, rfl⟩
theorem GF_61_14 (S : hs_S) : sx_gf (hp S) 61 [12] 14 = some (.int (S.1 61 14)) := hp_gf (a := 60) (k := 14) (d := 0) (cs := [12]) rfl ⟨⟨by decide, by decide⟩, rfl⟩
theorem PF_61_14 (S : hs_S) (v : Int32) : sx_pf (hp S) 61 [12] 14 (.int v) = some (hp (uF S 61 14 v)) := hp_pf (a := 60) (k := 14) (cs := [12]) rfl ⟨⟨by decide, by decide⟩, rfl⟩
theorem GF_61_15 (S : hs_S) : sx_gf (hp S) 61 [12] 15 = some (.int (S.1 61 15)) := hp_gf (a := 60) (k := 15) (d := 0) (cs := [12]) rfl ⟨⟨by decide, by decide⟩, rfl⟩
theorem PF_61_15 (S : hs_S) (v : Int32) : sx_pf (hp S) 61 [12] 15 (.int v) = some (hp (uF S 61 15 v)) := hp_pf (a := 60) (k := 15) (cs := [12]) rfl ⟨⟨by decide, by decide⟩, rfl⟩
theorem GF_61_16 (S : hs_S) : sx_gf (hp S) 61 [12] 16 = some (.int (S.1 61 16)) := hp_gf (a := 60) (k := 16) (d := 0) (cs := [12]) rfl ⟨⟨by decide, by decide⟩, rfl⟩
theorem PF_61_16 (S : hs_S) (v : Int32) : sx_pf (hp S) 61 [12] 16 (.int v) = some (hp (uF S 61 16 v)) := hp_pf (a := 60) (k := 16) (cs := [12]) rfl ⟨⟨by decide, by decide⟩, rfl⟩
theorem GF_61_17 (S : hs_S) : sx_gf (hp S) 61 [12] 17 = some (.int (S.1 61 17)) := hp_gf (a := 60) (k := 17) (d := 0) (cs := [12]) rfl ⟨⟨by decide, by decide⟩, rfl⟩
theorem PF_61_17 (S : hs_S) (v : Int32) : sx_pf (hp S) 61 [12] 17 (.int v) = some (hp (uF S 61 17 v)) := hp_pf (a := 60) (k := 17) (cs := [12]) rfl ⟨⟨by decide, by decide⟩, rfl⟩
theorem GF_61_18 (S : hs_S) : sx_gf (hp S) 61 [12] 18 = some (.ref 68) := hp_gf (a := 60) (k := 18) (d := 71) (cs := [12]) rfl ⟨⟨by decide, by decide⟩, rfl⟩
theorem GF_61_19 (S : hs_S) : sx_gf (hp S) 61 [12] 19 = some (.ref 69) := hp_gf (a := 60) (k := 19) (d := 72) (cs := [12]) rfl ⟨⟨by decide, by decide⟩, rfl⟩
theorem GF_61_20 (S : hs_S) : sx_gf (hp S) 61 [12] 20 = some (.ref 70) := hp_gf (a := 60) (k := 20) (d := 73) (cs := [12]) rfl ⟨⟨by decide, by decide⟩, rfl⟩
theorem GF_61_21 (S : hs_S) : sx_gf (hp S) 61 [12] 21 = some (.ref 71) := hp_gf (a := 60) (k := 21) (d := 74) (cs := [12]) rfl ⟨⟨by decide, by decide⟩, rfl⟩
theorem GI_62 (S : hs_S) (i : Int32) : sx_gi (hp S) 62 i = if sx_in i 83 = true then some (S.2.1 62 i.toNatClampNeg) else none := hp_gi (a := 61) rfl
theorem PI_62 (S : hs_S) (i x : Int32) : sx_pi (hp S) 62 i x = if sx_in i 83 = true then some (hp (uI S 62 (upd (S.2.1 62) i.toNatClampNeg x))) else none := hp_pi (a := 61) rfl
theorem AL_62 (S : hs_S) : sx_al (hp S) 62 = some 83 := rfl
theorem GI_63 (S : hs_S) (i : Int32) : sx_gi (hp S) 63 i = if sx_in i 83 = true then some (S.2.1 63 i.toNatClampNeg) else none := hp_gi (a := 62) rfl
theorem PI_63 (S : hs_S) (i x : Int32) : sx_pi (hp S) 63 i x = if sx_in i 83 = true then some (hp (uI S 63 (upd (S.2.1 63) i.toNatClampNeg x))) else none := hp_pi (a := 62) rfl
theorem AL_63 (S : hs_S) : sx_al (hp S) 63 = some 83 := rfl
theorem GI_64 (S : hs_S) (i : Int32) : sx_gi (hp S) 64 i = if sx_in i 83 = true then some (S.2.1 64 i.toNatClampNeg) else none := hp_gi (a := 63) rfl
theorem PI_64 (S : hs_S) (i x : Int32) : sx_pi (hp S) 64 i x = if sx_in i 83 = true then some (hp (uI S 64 (upd (S.2.1 64) i.toNatClampNeg x))) else none := hp_pi (a := 63) rfl
theorem AL_64 (S : hs_S) : sx_al (hp S) 64 = some 83 := rfl
theorem GI_65 (S : hs_S) (i : Int32) : sx_gi (hp S) 65 i = if sx_in i 83 = true then some (S.2.1 65 i.toNatClampNeg) else none := hp_gi (a := 64) rfl
theorem PI_65 (S : hs_S) (i x : Int32) : sx_pi (hp S) 65 i x = if sx_in i 83 = true then some (hp (uI S 65 (upd (S.2.1 65) i.toNatClampNeg x))) else none := hp_pi (a := 64) rfl
theorem AL_65 (S : hs_S) : sx_al (hp S) 65 = some 83 := rfl
theorem GI_66 (S : hs_S) (i : Int32) : sx_gi (hp S) 66 i = if sx_in i 7 = true then some (S.2.1 66 i.toNatClampNeg) else none := hp_gi (a := 65) rfl
theorem PI_66 (S : hs_S) (i x : Int32) : sx_pi (hp S) 66 i x = if sx_in i 7 = true then some (hp (uI S 66 (upd (S.2.1 66) i.toNatClampNeg x))) else none := hp_pi (a := 65) rfl
theorem AL_66 (S : hs_S) : sx_al (hp S) 66 = some 7 := rfl
theorem GI_67 (S : hs_S) (i : Int32) : sx_gi (hp S) 67 i = if sx_in i 120 = true then some (S.2.1 67 i.toNatClampNeg) else none := hp_gi (a := 66) rfl
theorem PI_67 (S : hs_S) (i x : Int32) : sx_pi (hp S) 67 i x = if sx_in i 120 = true then some (hp (uI S 67 (upd (S.2.1 67) i.toNatClampNeg x))) else none := hp_pi (a := 66) rfl
theorem AL_67 (S : hs_S) : sx_al (hp S) 67 = some 120 := rfl
theorem GI_68 (S : hs_S) (i : Int32) : sx_gi (hp S) 68 i = if sx_in i 4 = true then some (S.2.1 68 i.toNatClampNeg) else none := hp_gi (a := 67) rfl
theorem PI_68 (S : hs_S) (i x : Int32) : sx_pi (hp S) 68 i x = if sx_in i 4 = true then some (hp (uI S 68 (upd (S.2.1 68) i.toNatClampNeg x))) else none := hp_pi (a := 67) rfl
theorem AL_68 (S : hs_S) : sx_al (hp S) 68 = some 4 := rfl
theorem GI_69 (S : hs_S) (i : Int32) : sx_gi (hp S) 69 i = if sx_in i 4 = true then some (S.2.1 69 i.toNatClampNeg) else none := hp_gi (a := 68) rfl
theorem PI_69 (S : hs_S) (i x : Int32) : sx_pi (hp S) 69 i x = if sx_in i 4 = true then some (hp (uI S 69 (upd (S.2.1 69) i.toNatClampNeg x))) else none := hp_pi (a := 68) rfl
theorem AL_69 (S : hs_S) : sx_al (hp S) 69 = some 4 := rfl
theorem GJ_70 (S : hs_S) (i : Int32) : sx_gj (hp S) 70 i = if sx_in i 160 = true then some (S.2.2.1 70 i.toNatClampNeg) else none := hp_gj (a := 69) rfl
theorem PJ_70 (S : hs_S) (i : Int32) (x : Int64) : sx_pj (hp S) 70 i x = if sx_in i 160 = true then some (hp (uJ S 70 (vp_updL (S.2.2.1 70) i.toNatClampNeg x))) else none := hp_pj (a := 69) rfl
theorem AL_70 (S : hs_S) : sx_al (hp S) 70 = some 160 := rfl
theorem GJ_71 (S : hs_S) (i : Int32) : sx_gj (hp S) 71 i = if sx_in i 40 = true then some (S.2.2.1 71 i.toNatClampNeg) else none := hp_gj (a := 70) rfl
theorem PJ_71 (S : hs_S) (i : Int32) (x : Int64) : sx_pj (hp S) 71 i x = if sx_in i 40 = true then some (hp (uJ S 71 (vp_updL (S.2.2.1 71) i.toNatClampNeg x))) else none := hp_pj (a := 70) rfl
theorem AL_71 (S : hs_S) : sx_al (hp S) 71 = some 40 := rfl
/-- carriers -/
def isCar (a : Nat) : Bool := (decide (15 ≤ a) && decide (a ≤ 22)) || (decide (27 ≤ a) && decide (a ≤ 34)) || (decide (39 ≤ a) && decide (a ≤ 46)) || decide (a = 49) || decide (a = 50)
theorem car_sh : ∀ a, a < 51 → isCar a = true → ∃ b, a = b + 1 ∧ hs_sh[b]? = some (12, 6, [1, 0, 0, 0, 0, 0]) := by
  intro a h1 h2
  have key : ((List.range 51).all fun a => !isCar a || (decide (0 < a) && decide (hs_sh[a - 1]? = some (12, 6, [1, 0, 0, 0, 0, 0])))) = true := by decide +kernel
  have k2 := List.all_eq_true.mp key a (List.mem_range.mpr h1)
  rw [h2] at k2
  simp only [Bool.not_true, Bool.false_or, Bool.and_eq_true, decide_eq_true_eq] at k2
  obtain ⟨h3, h4⟩ := k2
  exact ⟨a - 1, by omega, h4⟩
theorem car_lt {a : Nat} (h : isCar a = true) : a < 51 := by
  unfold isCar at h
  simp only [Bool.or_eq_true, Bool.and_eq_true, decide_eq_true_eq] at h
  omega
theorem KL_c (S : hs_S) {a : Nat} (ha : isCar a = true) : sx_kl (hp S) a = some 2 := by
  obtain ⟨b, rfl, hb⟩ := car_sh a (car_lt ha) ha
  exact hp_kl hb (by decide)
theorem GC_0 (S : hs_S) {a : Nat} (ha : isCar a = true) : sx_gf (hp S) a [2] 0 = some (.ref (5 + S.2.2.2 a)) := by
  obtain ⟨b, rfl, hb⟩ := car_sh a (car_lt ha) ha
  exact hp_gf (k := 0) (d := 1) (cs := [2]) hb ⟨⟨by decide, by decide⟩, rfl⟩
theorem PC_0 (S : hs_S) {a : Nat} (ha : isCar a = true) (n : Nat) : sx_pf (hp S) a [2] 0 (.ref (5 + n)) = some (hp (uK S a n)) := by
  obtain ⟨b, rfl, hb⟩ := car_sh a (car_lt ha) ha
  refine hp_pk hb ⟨⟨by decide, by decide⟩, rfl⟩ (fun i hi => ?_)
  have hl : i < 6 := (List.getElem?_eq_some_iff.mp hi).1
  rcases (show i = 0 ∨ i = 1 ∨ i = 2 ∨ i = 3 ∨ i = 4 ∨ i = 5 by omega) with rfl | rfl | rfl | rfl | rfl | rfl <;> first | rfl | (cases hi)
theorem GC_1 (S : hs_S) {a : Nat} (ha : isCar a = true) : sx_gf (hp S) a [2] 1 = some (.int (S.1 a 1)) := by
  obtain ⟨b, rfl, hb⟩ := car_sh a (car_lt ha) ha
  exact hp_gf (k := 1) (d := 0) (cs := [2]) hb ⟨⟨by decide, by decide⟩, rfl⟩
theorem PC_1 (S : hs_S) {a : Nat} (ha : isCar a = true) (v : Int32) : sx_pf (hp S) a [2] 1 (.int v) = some (hp (uF S a 1 v)) := by
  obtain ⟨b, rfl, hb⟩ := car_sh a (car_lt ha) ha
  exact hp_pf hb ⟨⟨by decide, by decide⟩, rfl⟩
theorem GC_2 (S : hs_S) {a : Nat} (ha : isCar a = true) : sx_gf (hp S) a [2] 2 = some (.int (S.1 a 2)) := by
  obtain ⟨b, rfl, hb⟩ := car_sh a (car_lt ha) ha
  exact hp_gf (k := 2) (d := 0) (cs := [2]) hb ⟨⟨by decide, by decide⟩, rfl⟩
theorem PC_2 (S : hs_S) {a : Nat} (ha : isCar a = true) (v : Int32) : sx_pf (hp S) a [2] 2 (.int v) = some (hp (uF S a 2 v)) := by
  obtain ⟨b, rfl, hb⟩ := car_sh a (car_lt ha) ha
  exact hp_pf hb ⟨⟨by decide, by decide⟩, rfl⟩
theorem GC_3 (S : hs_S) {a : Nat} (ha : isCar a = true) : sx_gf (hp S) a [2] 3 = some (.int (S.1 a 3)) := by
  obtain ⟨b, rfl, hb⟩ := car_sh a (car_lt ha) ha
  exact hp_gf (k := 3) (d := 0) (cs := [2]) hb ⟨⟨by decide, by decide⟩, rfl⟩
theorem PC_3 (S : hs_S) {a : Nat} (ha : isCar a = true) (v : Int32) : sx_pf (hp S) a [2] 3 (.int v) = some (hp (uF S a 3 v)) := by
  obtain ⟨b, rfl, hb⟩ := car_sh a (car_lt ha) ha
  exact hp_pf hb ⟨⟨by decide, by decide⟩, rfl⟩
theorem GC_4 (S : hs_S) {a : Nat} (ha : isCar a = true) : sx_gf (hp S) a [2] 4 = some (.int (S.1 a 4)) := by
  obtain ⟨b, rfl, hb⟩ := car_sh a (car_lt ha) ha
  exact hp_gf (k := 4) (d := 0) (cs := [2]) hb ⟨⟨by decide, by decide⟩, rfl⟩
theorem PC_4 (S : hs_S) {a : Nat} (ha : isCar a = true) (v : Int32) : sx_pf (hp S) a [2] 4 (.int v) = some (hp (uF S a 4 v)) := by
  obtain ⟨b, rfl, hb⟩ := car_sh a (car_lt ha) ha
  exact hp_pf hb ⟨⟨by decide, by decide⟩, rfl⟩
theorem GC_5 (S : hs_S) {a : Nat} (ha : isCar a = true) : sx_gf (hp S) a [2] 5 = some (.int (S.1 a 5)) := by
  obtain ⟨b, rfl, hb⟩ := car_sh a (car_lt ha) ha
  exact hp_gf (k := 5) (d := 0) (cs := [2]) hb ⟨⟨by decide, by decide⟩, rfl⟩
theorem PC_5 (S : hs_S) {a : Nat} (ha : isCar a = true) (v : Int32) : sx_pf (hp S) a [2] 5 (.int v) = some (hp (uF S a 5 v)) := by
  obtain ⟨b, rfl, hb⟩ := car_sh a (car_lt ha) ha
  exact hp_pf hb ⟨⟨by decide, by decide⟩, rfl⟩
/-- kinds: number k at 5 + k -/
def kC (k : Nat) : Nat := if k = 0 then 5 else if k = 1 then 4 else if k = 2 then 3 else if k = 3 then 1 else if k = 4 then 0 else 7
theorem KL_k (S : hs_S) {k : Nat} (hk : k < 6) : sx_kl (hp S) (5 + k) = some (kC k) := by
  rcases (show k = 0 ∨ k = 1 ∨ k = 2 ∨ k = 3 ∨ k = 4 ∨ k = 5 by omega) with rfl | rfl | rfl | rfl | rfl | rfl <;> rfl
theorem GK_0 (S : hs_S) {k : Nat} (hk : k < 6) : sx_gf (hp S) (5 + k) [0, 1, 3, 4, 5, 7] 0 = some (.int (nI k)) := by
  rcases (show k = 0 ∨ k = 1 ∨ k = 2 ∨ k = 3 ∨ k = 4 ∨ k = 5 by omega) with rfl | rfl | rfl | rfl | rfl | rfl <;> rfl
theorem GK_1 (S : hs_S) {k : Nat} (hk : k < 6) : sx_gf (hp S) (5 + k) [0, 1, 3, 4, 5, 7] 1 = some (.ref (1000 + k)) := by
  rcases (show k = 0 ∨ k = 1 ∨ k = 2 ∨ k = 3 ∨ k = 4 ∨ k = 5 by omega) with rfl | rfl | rfl | rfl | rfl | rfl <;> rfl
/-- a state's parts behind a change -/
theorem uF_1 (S : hs_S) (a k : Nat) (v : Int32) (b j : Nat) : (uF S a k v).1 b j = if b = a ∧ j = k then v else S.1 b j := rfl
theorem uF_2 (S : hs_S) (a k : Nat) (v : Int32) : (uF S a k v).2 = S.2 := rfl
theorem uI_1 (S : hs_S) (a : Nat) (f : Nat → Int32) : (uI S a f).1 = S.1 := rfl
theorem uI_2 (S : hs_S) (a : Nat) (f : Nat → Int32) (b : Nat) : (uI S a f).2.1 b = if b = a then f else S.2.1 b := rfl
theorem uI_3 (S : hs_S) (a : Nat) (f : Nat → Int32) : (uI S a f).2.2 = S.2.2 := rfl
theorem uJ_1 (S : hs_S) (a : Nat) (f : Nat → Int64) : (uJ S a f).1 = S.1 := rfl
theorem uJ_2 (S : hs_S) (a : Nat) (f : Nat → Int64) : (uJ S a f).2.1 = S.2.1 := rfl
theorem uJ_3 (S : hs_S) (a : Nat) (f : Nat → Int64) (b : Nat) : (uJ S a f).2.2.1 b = if b = a then f else S.2.2.1 b := rfl
theorem uJ_4 (S : hs_S) (a : Nat) (f : Nat → Int64) : (uJ S a f).2.2.2 = S.2.2.2 := rfl
theorem uK_1 (S : hs_S) (a n : Nat) : (uK S a n).1 = S.1 := rfl
theorem uK_2 (S : hs_S) (a n : Nat) : (uK S a n).2.1 = S.2.1 := rfl
theorem uK_3 (S : hs_S) (a n : Nat) : (uK S a n).2.2.1 = S.2.2.1 := rfl
theorem uK_4 (S : hs_S) (a n b : Nat) : (uK S a n).2.2.2 b = if b = a then n else S.2.2.2 b := rfl
