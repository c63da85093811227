/-! Reads and writes at each object. By program. -/
section MI
variable {E : zS} {F : Nat → Nat → Int32} {A : Nat → List Int32} {i x : Int32}
theorem hs_0 : zshape[0]? = some (1, 10, [some (.ref 1), some (.ref 90), some (.ref 179), some (.ref 191), some (.ref 202), some (.ref 206), some (.ref 208), some (.ref 226), some (.ref 234), none]) := by decide +kernel
theorem mr_0 : zrc (hp F A) 0 10 = true := m_rc hs_0 ⟨rfl, by decide⟩
theorem mf_0_0 : zfl (hp F A) 0 10 0 = some (.ref 1) := m_fl hs_0
theorem mf_0_1 : zfl (hp F A) 0 10 1 = some (.ref 90) := m_fl hs_0
theorem mf_0_2 : zfl (hp F A) 0 10 2 = some (.ref 179) := m_fl hs_0
theorem mf_0_3 : zfl (hp F A) 0 10 3 = some (.ref 191) := m_fl hs_0
theorem mf_0_4 : zfl (hp F A) 0 10 4 = some (.ref 202) := m_fl hs_0
theorem mf_0_5 : zfl (hp F A) 0 10 5 = some (.ref 206) := m_fl hs_0
theorem mf_0_6 : zfl (hp F A) 0 10 6 = some (.ref 208) := m_fl hs_0
theorem mf_0_7 : zfl (hp F A) 0 10 7 = some (.ref 226) := m_fl hs_0
theorem mf_0_8 : zfl (hp F A) 0 10 8 = some (.ref 234) := m_fl hs_0
theorem mf_0_9 : zfl (hp F A) 0 10 9 = some (.int (F 0 9)) := m_fl hs_0
theorem mp_0_9 : zsf (hp F A) 0 10 9 1 (.int x) = if x = 0 ∨ x = 1 then some (hp (uF F 0 9 x) A) else none := m_sfz hs_0 (by decide) rfl rfl
theorem hs_1 : zshape[1]? = some (1, 9, [none, none, none, some (.ref 2), some (.ref 3), some (.ref 4), some (.ref 6), some (.ref 8), some (.ref 10), some (.ref 12), some (.ref 14), some (.ref 16)]) := by decide +kernel
theorem mr_1 : zrc (hp F A) 1 9 = true := m_rc hs_1 ⟨rfl, by decide⟩
theorem mf_1_0 : zfl (hp F A) 1 9 0 = some (.int (F 1 0)) := m_fl hs_1
theorem mp_1_0 : zsf (hp F A) 1 9 0 0 (.int x) = some (hp (uF F 1 0 x) A) := m_sf hs_1 (by decide) rfl rfl
theorem mf_1_1 : zfl (hp F A) 1 9 1 = some (.int (F 1 1)) := m_fl hs_1
theorem mp_1_1 : zsf (hp F A) 1 9 1 0 (.int x) = some (hp (uF F 1 1 x) A) := m_sf hs_1 (by decide) rfl rfl
theorem mf_1_2 : zfl (hp F A) 1 9 2 = some (.int (F 1 2)) := m_fl hs_1
theorem mp_1_2 : zsf (hp F A) 1 9 2 0 (.int x) = some (hp (uF F 1 2 x) A) := m_sf hs_1 (by decide) rfl rfl
theorem mf_1_3 : zfl (hp F A) 1 9 3 = some (.ref 2) := m_fl hs_1
theorem mf_1_4 : zfl (hp F A) 1 9 4 = some (.ref 3) := m_fl hs_1
theorem mf_1_5 : zfl (hp F A) 1 9 5 = some (.ref 4) := m_fl hs_1
theorem mf_1_6 : zfl (hp F A) 1 9 6 = some (.ref 6) := m_fl hs_1
theorem mf_1_7 : zfl (hp F A) 1 9 7 = some (.ref 8) := m_fl hs_1
theorem mf_1_8 : zfl (hp F A) 1 9 8 = some (.ref 10) := m_fl hs_1
theorem mf_1_9 : zfl (hp F A) 1 9 9 = some (.ref 12) := m_fl hs_1
theorem mf_1_10 : zfl (hp F A) 1 9 10 = some (.ref 14) := m_fl hs_1
theorem mf_1_11 : zfl (hp F A) 1 9 11 = some (.ref 16) := m_fl hs_1
theorem hs_2 : zshape[2]? = some (0, 0, []) := by decide +kernel
theorem mg_2 : zgi E (hp F A) 2 i 0 = (zix i (A 2).length).map (fun j => gI (A 2) j) := m_gi (by decide) hs_2
theorem mw_2 : zsi (hp F A) 2 i x 0 = (zix i (A 2).length).map (fun j => hp F (uA A 2 ((A 2).set j x))) := m_si hs_2
theorem ml_2 : zln E (hp F A) 2 = some (Int32.ofNat (A 2).length) := m_ln (by decide) (by decide) hs_2
theorem hs_4 : zshape[4]? = some (1, 7, [some (.int (nI 18)), some (.ref 5), some (.int (nI 16)), none]) := by decide +kernel
theorem mr_4 : zrc (hp F A) 4 7 = true := m_rc hs_4 ⟨rfl, by decide⟩
theorem mf_4_0 : zfl (hp F A) 4 7 0 = some (.int (nI 18)) := m_fl hs_4
theorem mf_4_1 : zfl (hp F A) 4 7 1 = some (.ref 5) := m_fl hs_4
theorem mf_4_2 : zfl (hp F A) 4 7 2 = some (.int (nI 16)) := m_fl hs_4
theorem mf_4_3 : zfl (hp F A) 4 7 3 = some (.int (F 4 3)) := m_fl hs_4
theorem mp_4_3 : zsf (hp F A) 4 7 3 0 (.int x) = some (hp (uF F 4 3 x) A) := m_sf hs_4 (by decide) rfl rfl
theorem hs_5 : zshape[5]? = some (0, 0, []) := by decide +kernel
theorem mg_5 : zgi E (hp F A) 5 i 0 = (zix i (A 5).length).map (fun j => gI (A 5) j) := m_gi (by decide) hs_5
theorem mw_5 : zsi (hp F A) 5 i x 0 = (zix i (A 5).length).map (fun j => hp F (uA A 5 ((A 5).set j x))) := m_si hs_5
theorem ml_5 : zln E (hp F A) 5 = some (Int32.ofNat (A 5).length) := m_ln (by decide) (by decide) hs_5
theorem hs_6 : zshape[6]? = some (1, 7, [some (.int (nI 2)), some (.ref 7), some (.int (nI 6)), none]) := by decide +kernel
theorem mr_6 : zrc (hp F A) 6 7 = true := m_rc hs_6 ⟨rfl, by decide⟩
theorem mf_6_0 : zfl (hp F A) 6 7 0 = some (.int (nI 2)) := m_fl hs_6
theorem mf_6_1 : zfl (hp F A) 6 7 1 = some (.ref 7) := m_fl hs_6
theorem mf_6_2 : zfl (hp F A) 6 7 2 = some (.int (nI 6)) := m_fl hs_6
theorem mf_6_3 : zfl (hp F A) 6 7 3 = some (.int (F 6 3)) := m_fl hs_6
theorem mp_6_3 : zsf (hp F A) 6 7 3 0 (.int x) = some (hp (uF F 6 3 x) A) := m_sf hs_6 (by decide) rfl rfl
theorem hs_7 : zshape[7]? = some (0, 0, []) := by decide +kernel
theorem mg_7 : zgi E (hp F A) 7 i 0 = (zix i (A 7).length).map (fun j => gI (A 7) j) := m_gi (by decide) hs_7
theorem mw_7 : zsi (hp F A) 7 i x 0 = (zix i (A 7).length).map (fun j => hp F (uA A 7 ((A 7).set j x))) := m_si hs_7
theorem ml_7 : zln E (hp F A) 7 = some (Int32.ofNat (A 7).length) := m_ln (by decide) (by decide) hs_7
theorem hs_8 : zshape[8]? = some (1, 7, [some (.int (nI 6)), some (.ref 9), some (.int (nI 24)), none]) := by decide +kernel
theorem mr_8 : zrc (hp F A) 8 7 = true := m_rc hs_8 ⟨rfl, by decide⟩
theorem mf_8_0 : zfl (hp F A) 8 7 0 = some (.int (nI 6)) := m_fl hs_8
theorem mf_8_1 : zfl (hp F A) 8 7 1 = some (.ref 9) := m_fl hs_8
theorem mf_8_2 : zfl (hp F A) 8 7 2 = some (.int (nI 24)) := m_fl hs_8
theorem mf_8_3 : zfl (hp F A) 8 7 3 = some (.int (F 8 3)) := m_fl hs_8
theorem mp_8_3 : zsf (hp F A) 8 7 3 0 (.int x) = some (hp (uF F 8 3 x) A) := m_sf hs_8 (by decide) rfl rfl
theorem hs_9 : zshape[9]? = some (0, 0, []) := by decide +kernel
theorem mg_9 : zgi E (hp F A) 9 i 0 = (zix i (A 9).length).map (fun j => gI (A 9) j) := m_gi (by decide) hs_9
theorem mw_9 : zsi (hp F A) 9 i x 0 = (zix i (A 9).length).map (fun j => hp F (uA A 9 ((A 9).set j x))) := m_si hs_9
theorem ml_9 : zln E (hp F A) 9 = some (Int32.ofNat (A 9).length) := m_ln (by decide) (by decide) hs_9
theorem hs_10 : zshape[10]? = some (1, 7, [some (.int (nI 3)), some (.ref 11), some (.int (nI 5)), none]) := by decide +kernel
theorem mr_10 : zrc (hp F A) 10 7 = true := m_rc hs_10 ⟨rfl, by decide⟩
theorem mf_10_0 : zfl (hp F A) 10 7 0 = some (.int (nI 3)) := m_fl hs_10
theorem mf_10_1 : zfl (hp F A) 10 7 1 = some (.ref 11) := m_fl hs_10
theorem mf_10_2 : zfl (hp F A) 10 7 2 = some (.int (nI 5)) := m_fl hs_10
theorem mf_10_3 : zfl (hp F A) 10 7 3 = some (.int (F 10 3)) := m_fl hs_10
theorem mp_10_3 : zsf (hp F A) 10 7 3 0 (.int x) = some (hp (uF F 10 3 x) A) := m_sf hs_10 (by decide) rfl rfl
theorem hs_11 : zshape[11]? = some (0, 0, []) := by decide +kernel
theorem mg_11 : zgi E (hp F A) 11 i 0 = (zix i (A 11).length).map (fun j => gI (A 11) j) := m_gi (by decide) hs_11
theorem mw_11 : zsi (hp F A) 11 i x 0 = (zix i (A 11).length).map (fun j => hp F (uA A 11 ((A 11).set j x))) := m_si hs_11
theorem ml_11 : zln E (hp F A) 11 = some (Int32.ofNat (A 11).length) := m_ln (by decide) (by decide) hs_11
theorem hs_12 : zshape[12]? = some (1, 7, [some (.int (nI 7)), some (.ref 13), some (.int (nI 16)), none]) := by decide +kernel
theorem mr_12 : zrc (hp F A) 12 7 = true := m_rc hs_12 ⟨rfl, by decide⟩
theorem mf_12_0 : zfl (hp F A) 12 7 0 = some (.int (nI 7)) := m_fl hs_12
theorem mf_12_1 : zfl (hp F A) 12 7 1 = some (.ref 13) := m_fl hs_12
theorem mf_12_2 : zfl (hp F A) 12 7 2 = some (.int (nI 16)) := m_fl hs_12
theorem mf_12_3 : zfl (hp F A) 12 7 3 = some (.int (F 12 3)) := m_fl hs_12
theorem mp_12_3 : zsf (hp F A) 12 7 3 0 (.int x) = some (hp (uF F 12 3 x) A) := m_sf hs_12 (by decide) rfl rfl
theorem hs_13 : zshape[13]? = some (0, 0, []) := by decide +kernel
theorem mg_13 : zgi E (hp F A) 13 i 0 = (zix i (A 13).length).map (fun j => gI (A 13) j) := m_gi (by decide) hs_13
theorem mw_13 : zsi (hp F A) 13 i x 0 = (zix i (A 13).length).map (fun j => hp F (uA A 13 ((A 13).set j x))) := m_si hs_13
theorem ml_13 : zln E (hp F A) 13 = some (Int32.ofNat (A 13).length) := m_ln (by decide) (by decide) hs_13
theorem hs_14 : zshape[14]? = some (1, 7, [some (.int (nI 3)), some (.ref 15), some (.int (nI 8)), none]) := by decide +kernel
theorem mr_14 : zrc (hp F A) 14 7 = true := m_rc hs_14 ⟨rfl, by decide⟩
theorem mf_14_0 : zfl (hp F A) 14 7 0 = some (.int (nI 3)) := m_fl hs_14
theorem mf_14_1 : zfl (hp F A) 14 7 1 = some (.ref 15) := m_fl hs_14
theorem mf_14_2 : zfl (hp F A) 14 7 2 = some (.int (nI 8)) := m_fl hs_14
theorem mf_14_3 : zfl (hp F A) 14 7 3 = some (.int (F 14 3)) := m_fl hs_14
theorem mp_14_3 : zsf (hp F A) 14 7 3 0 (.int x) = some (hp (uF F 14 3 x) A) := m_sf hs_14 (by decide) rfl rfl
theorem hs_15 : zshape[15]? = some (0, 0, []) := by decide +kernel
theorem mg_15 : zgi E (hp F A) 15 i 0 = (zix i (A 15).length).map (fun j => gI (A 15) j) := m_gi (by decide) hs_15
theorem mw_15 : zsi (hp F A) 15 i x 0 = (zix i (A 15).length).map (fun j => hp F (uA A 15 ((A 15).set j x))) := m_si hs_15
theorem ml_15 : zln E (hp F A) 15 = some (Int32.ofNat (A 15).length) := m_ln (by decide) (by decide) hs_15
theorem hs_16 : zshape[16]? = some (1, 7, [some (.int (nI 3)), some (.ref 17), some (.int (nI 16)), none]) := by decide +kernel
theorem mr_16 : zrc (hp F A) 16 7 = true := m_rc hs_16 ⟨rfl, by decide⟩
theorem mf_16_0 : zfl (hp F A) 16 7 0 = some (.int (nI 3)) := m_fl hs_16
theorem mf_16_1 : zfl (hp F A) 16 7 1 = some (.ref 17) := m_fl hs_16
theorem mf_16_2 : zfl (hp F A) 16 7 2 = some (.int (nI 16)) := m_fl hs_16
theorem mf_16_3 : zfl (hp F A) 16 7 3 = some (.int (F 16 3)) := m_fl hs_16
theorem mp_16_3 : zsf (hp F A) 16 7 3 0 (.int x) = some (hp (uF F 16 3 x) A) := m_sf hs_16 (by decide) rfl rfl
theorem hs_17 : zshape[17]? = some (0, 0, []) := by decide +kernel
theorem mg_17 : zgi E (hp F A) 17 i 0 = (zix i (A 17).length).map (fun j => gI (A 17) j) := m_gi (by decide) hs_17
theorem mw_17 : zsi (hp F A) 17 i x 0 = (zix i (A 17).length).map (fun j => hp F (uA A 17 ((A 17).set j x))) := m_si hs_17
theorem ml_17 : zln E (hp F A) 17 = some (Int32.ofNat (A 17).length) := m_ln (by decide) (by decide) hs_17
theorem hs_18 : zshape[18]? = some (1, 8, [none, none, none, none, none, some (.ref 19), some (.ref 20), some (.ref 21), some (.ref 22), some (.ref 23)]) := by decide +kernel
theorem mr_18 : zrc (hp F A) 18 8 = true := m_rc hs_18 ⟨rfl, by decide⟩
theorem mf_18_0 : zfl (hp F A) 18 8 0 = some (.int (F 18 0)) := m_fl hs_18
theorem mp_18_0 : zsf (hp F A) 18 8 0 0 (.int x) = some (hp (uF F 18 0 x) A) := m_sf hs_18 (by decide) rfl rfl
theorem mf_18_1 : zfl (hp F A) 18 8 1 = some (.int (F 18 1)) := m_fl hs_18
theorem mp_18_1 : zsf (hp F A) 18 8 1 0 (.int x) = some (hp (uF F 18 1 x) A) := m_sf hs_18 (by decide) rfl rfl
theorem mf_18_2 : zfl (hp F A) 18 8 2 = some (.int (F 18 2)) := m_fl hs_18
theorem mp_18_2 : zsf (hp F A) 18 8 2 0 (.int x) = some (hp (uF F 18 2 x) A) := m_sf hs_18 (by decide) rfl rfl
theorem mf_18_3 : zfl (hp F A) 18 8 3 = some (.int (F 18 3)) := m_fl hs_18
theorem mp_18_3 : zsf (hp F A) 18 8 3 0 (.int x) = some (hp (uF F 18 3 x) A) := m_sf hs_18 (by decide) rfl rfl
theorem mf_18_4 : zfl (hp F A) 18 8 4 = some (.int (F 18 4)) := m_fl hs_18
theorem mp_18_4 : zsf (hp F A) 18 8 4 0 (.int x) = some (hp (uF F 18 4 x) A) := m_sf hs_18 (by decide) rfl rfl
theorem mf_18_5 : zfl (hp F A) 18 8 5 = some (.ref 19) := m_fl hs_18
theorem mf_18_6 : zfl (hp F A) 18 8 6 = some (.ref 20) := m_fl hs_18
theorem mf_18_7 : zfl (hp F A) 18 8 7 = some (.ref 21) := m_fl hs_18
theorem mf_18_8 : zfl (hp F A) 18 8 8 = some (.ref 22) := m_fl hs_18
theorem mf_18_9 : zfl (hp F A) 18 8 9 = some (.ref 23) := m_fl hs_18
theorem hs_90 : zshape[90]? = some (1, 9, [none, none, none, some (.ref 91), some (.ref 92), some (.ref 93), some (.ref 95), some (.ref 97), some (.ref 99), some (.ref 101), some (.ref 103), some (.ref 105)]) := by decide +kernel
theorem mr_90 : zrc (hp F A) 90 9 = true := m_rc hs_90 ⟨rfl, by decide⟩
theorem mf_90_0 : zfl (hp F A) 90 9 0 = some (.int (F 90 0)) := m_fl hs_90
theorem mp_90_0 : zsf (hp F A) 90 9 0 0 (.int x) = some (hp (uF F 90 0 x) A) := m_sf hs_90 (by decide) rfl rfl
theorem mf_90_1 : zfl (hp F A) 90 9 1 = some (.int (F 90 1)) := m_fl hs_90
theorem mp_90_1 : zsf (hp F A) 90 9 1 0 (.int x) = some (hp (uF F 90 1 x) A) := m_sf hs_90 (by decide) rfl rfl
theorem mf_90_2 : zfl (hp F A) 90 9 2 = some (.int (F 90 2)) := m_fl hs_90
theorem mp_90_2 : zsf (hp F A) 90 9 2 0 (.int x) = some (hp (uF F 90 2 x) A) := m_sf hs_90 (by decide) rfl rfl
theorem mf_90_3 : zfl (hp F A) 90 9 3 = some (.ref 91) := m_fl hs_90
theorem mf_90_4 : zfl (hp F A) 90 9 4 = some (.ref 92) := m_fl hs_90
theorem mf_90_5 : zfl (hp F A) 90 9 5 = some (.ref 93) := m_fl hs_90
theorem mf_90_6 : zfl (hp F A) 90 9 6 = some (.ref 95) := m_fl hs_90
theorem mf_90_7 : zfl (hp F A) 90 9 7 = some (.ref 97) := m_fl hs_90
theorem mf_90_8 : zfl (hp F A) 90 9 8 = some (.ref 99) := m_fl hs_90
theorem mf_90_9 : zfl (hp F A) 90 9 9 = some (.ref 101) := m_fl hs_90
theorem mf_90_10 : zfl (hp F A) 90 9 10 = some (.ref 103) := m_fl hs_90
theorem mf_90_11 : zfl (hp F A) 90 9 11 = some (.ref 105) := m_fl hs_90
theorem hs_91 : zshape[91]? = some (0, 0, []) := by decide +kernel
theorem mg_91 : zgi E (hp F A) 91 i 0 = (zix i (A 91).length).map (fun j => gI (A 91) j) := m_gi (by decide) hs_91
theorem mw_91 : zsi (hp F A) 91 i x 0 = (zix i (A 91).length).map (fun j => hp F (uA A 91 ((A 91).set j x))) := m_si hs_91
theorem ml_91 : zln E (hp F A) 91 = some (Int32.ofNat (A 91).length) := m_ln (by decide) (by decide) hs_91
theorem hs_93 : zshape[93]? = some (1, 7, [some (.int (nI 18)), some (.ref 94), some (.int (nI 16)), none]) := by decide +kernel
theorem mr_93 : zrc (hp F A) 93 7 = true := m_rc hs_93 ⟨rfl, by decide⟩
theorem mf_93_0 : zfl (hp F A) 93 7 0 = some (.int (nI 18)) := m_fl hs_93
theorem mf_93_1 : zfl (hp F A) 93 7 1 = some (.ref 94) := m_fl hs_93
theorem mf_93_2 : zfl (hp F A) 93 7 2 = some (.int (nI 16)) := m_fl hs_93
theorem mf_93_3 : zfl (hp F A) 93 7 3 = some (.int (F 93 3)) := m_fl hs_93
theorem mp_93_3 : zsf (hp F A) 93 7 3 0 (.int x) = some (hp (uF F 93 3 x) A) := m_sf hs_93 (by decide) rfl rfl
theorem hs_94 : zshape[94]? = some (0, 0, []) := by decide +kernel
theorem mg_94 : zgi E (hp F A) 94 i 0 = (zix i (A 94).length).map (fun j => gI (A 94) j) := m_gi (by decide) hs_94
theorem mw_94 : zsi (hp F A) 94 i x 0 = (zix i (A 94).length).map (fun j => hp F (uA A 94 ((A 94).set j x))) := m_si hs_94
theorem ml_94 : zln E (hp F A) 94 = some (Int32.ofNat (A 94).length) := m_ln (by decide) (by decide) hs_94
theorem hs_95 : zshape[95]? = some (1, 7, [some (.int (nI 2)), some (.ref 96), some (.int (nI 6)), none]) := by decide +kernel
theorem mr_95 : zrc (hp F A) 95 7 = true := m_rc hs_95 ⟨rfl, by decide⟩
theorem mf_95_0 : zfl (hp F A) 95 7 0 = some (.int (nI 2)) := m_fl hs_95
theorem mf_95_1 : zfl (hp F A) 95 7 1 = some (.ref 96) := m_fl hs_95
theorem mf_95_2 : zfl (hp F A) 95 7 2 = some (.int (nI 6)) := m_fl hs_95
theorem mf_95_3 : zfl (hp F A) 95 7 3 = some (.int (F 95 3)) := m_fl hs_95
theorem mp_95_3 : zsf (hp F A) 95 7 3 0 (.int x) = some (hp (uF F 95 3 x) A) := m_sf hs_95 (by decide) rfl rfl
theorem hs_96 : zshape[96]? = some (0, 0, []) := by decide +kernel
theorem mg_96 : zgi E (hp F A) 96 i 0 = (zix i (A 96).length).map (fun j => gI (A 96) j) := m_gi (by decide) hs_96
theorem mw_96 : zsi (hp F A) 96 i x 0 = (zix i (A 96).length).map (fun j => hp F (uA A 96 ((A 96).set j x))) := m_si hs_96
theorem ml_96 : zln E (hp F A) 96 = some (Int32.ofNat (A 96).length) := m_ln (by decide) (by decide) hs_96
theorem hs_97 : zshape[97]? = some (1, 7, [some (.int (nI 6)), some (.ref 98), some (.int (nI 24)), none]) := by decide +kernel
theorem mr_97 : zrc (hp F A) 97 7 = true := m_rc hs_97 ⟨rfl, by decide⟩
theorem mf_97_0 : zfl (hp F A) 97 7 0 = some (.int (nI 6)) := m_fl hs_97
theorem mf_97_1 : zfl (hp F A) 97 7 1 = some (.ref 98) := m_fl hs_97
theorem mf_97_2 : zfl (hp F A) 97 7 2 = some (.int (nI 24)) := m_fl hs_97
theorem mf_97_3 : zfl (hp F A) 97 7 3 = some (.int (F 97 3)) := m_fl hs_97
theorem mp_97_3 : zsf (hp F A) 97 7 3 0 (.int x) = some (hp (uF F 97 3 x) A) := m_sf hs_97 (by decide) rfl rfl
theorem hs_98 : zshape[98]? = some (0, 0, []) := by decide +kernel
theorem mg_98 : zgi E (hp F A) 98 i 0 = (zix i (A 98).length).map (fun j => gI (A 98) j) := m_gi (by decide) hs_98
theorem mw_98 : zsi (hp F A) 98 i x 0 = (zix i (A 98).length).map (fun j => hp F (uA A 98 ((A 98).set j x))) := m_si hs_98
theorem ml_98 : zln E (hp F A) 98 = some (Int32.ofNat (A 98).length) := m_ln (by decide) (by decide) hs_98
theorem hs_99 : zshape[99]? = some (1, 7, [some (.int (nI 3)), some (.ref 100), some (.int (nI 5)), none]) := by decide +kernel
theorem mr_99 : zrc (hp F A) 99 7 = true := m_rc hs_99 ⟨rfl, by decide⟩
theorem mf_99_0 : zfl (hp F A) 99 7 0 = some (.int (nI 3)) := m_fl hs_99
theorem mf_99_1 : zfl (hp F A) 99 7 1 = some (.ref 100) := m_fl hs_99
theorem mf_99_2 : zfl (hp F A) 99 7 2 = some (.int (nI 5)) := m_fl hs_99
theorem mf_99_3 : zfl (hp F A) 99 7 3 = some (.int (F 99 3)) := m_fl hs_99
theorem mp_99_3 : zsf (hp F A) 99 7 3 0 (.int x) = some (hp (uF F 99 3 x) A) := m_sf hs_99 (by decide) rfl rfl
theorem hs_100 : zshape[100]? = some (0, 0, []) := by decide +kernel
theorem mg_100 : zgi E (hp F A) 100 i 0 = (zix i (A 100).length).map (fun j => gI (A 100) j) := m_gi (by decide) hs_100
theorem mw_100 : zsi (hp F A) 100 i x 0 = (zix i (A 100).length).map (fun j => hp F (uA A 100 ((A 100).set j x))) := m_si hs_100
theorem ml_100 : zln E (hp F A) 100 = some (Int32.ofNat (A 100).length) := m_ln (by decide) (by decide) hs_100
theorem hs_101 : zshape[101]? = some (1, 7, [some (.int (nI 7)), some (.ref 102), some (.int (nI 16)), none]) := by decide +kernel
theorem mr_101 : zrc (hp F A) 101 7 = true := m_rc hs_101 ⟨rfl, by decide⟩
theorem mf_101_0 : zfl (hp F A) 101 7 0 = some (.int (nI 7)) := m_fl hs_101
theorem mf_101_1 : zfl (hp F A) 101 7 1 = some (.ref 102) := m_fl hs_101
theorem mf_101_2 : zfl (hp F A) 101 7 2 = some (.int (nI 16)) := m_fl hs_101
theorem mf_101_3 : zfl (hp F A) 101 7 3 = some (.int (F 101 3)) := m_fl hs_101
theorem mp_101_3 : zsf (hp F A) 101 7 3 0 (.int x) = some (hp (uF F 101 3 x) A) := m_sf hs_101 (by decide) rfl rfl
theorem hs_102 : zshape[102]? = some (0, 0, []) := by decide +kernel
theorem mg_102 : zgi E (hp F A) 102 i 0 = (zix i (A 102).length).map (fun j => gI (A 102) j) := m_gi (by decide) hs_102
theorem mw_102 : zsi (hp F A) 102 i x 0 = (zix i (A 102).length).map (fun j => hp F (uA A 102 ((A 102).set j x))) := m_si hs_102
theorem ml_102 : zln E (hp F A) 102 = some (Int32.ofNat (A 102).length) := m_ln (by decide) (by decide) hs_102
theorem hs_103 : zshape[103]? = some (1, 7, [some (.int (nI 3)), some (.ref 104), some (.int (nI 8)), none]) := by decide +kernel
theorem mr_103 : zrc (hp F A) 103 7 = true := m_rc hs_103 ⟨rfl, by decide⟩
theorem mf_103_0 : zfl (hp F A) 103 7 0 = some (.int (nI 3)) := m_fl hs_103
theorem mf_103_1 : zfl (hp F A) 103 7 1 = some (.ref 104) := m_fl hs_103
theorem mf_103_2 : zfl (hp F A) 103 7 2 = some (.int (nI 8)) := m_fl hs_103
theorem mf_103_3 : zfl (hp F A) 103 7 3 = some (.int (F 103 3)) := m_fl hs_103
theorem mp_103_3 : zsf (hp F A) 103 7 3 0 (.int x) = some (hp (uF F 103 3 x) A) := m_sf hs_103 (by decide) rfl rfl
theorem hs_104 : zshape[104]? = some (0, 0, []) := by decide +kernel
theorem mg_104 : zgi E (hp F A) 104 i 0 = (zix i (A 104).length).map (fun j => gI (A 104) j) := m_gi (by decide) hs_104
theorem mw_104 : zsi (hp F A) 104 i x 0 = (zix i (A 104).length).map (fun j => hp F (uA A 104 ((A 104).set j x))) := m_si hs_104
theorem ml_104 : zln E (hp F A) 104 = some (Int32.ofNat (A 104).length) := m_ln (by decide) (by decide) hs_104
theorem hs_105 : zshape[105]? = some (1, 7, [some (.int (nI 3)), some (.ref 106), some (.int (nI 16)), none]) := by decide +kernel
theorem mr_105 : zrc (hp F A) 105 7 = true := m_rc hs_105 ⟨rfl, by decide⟩
theorem mf_105_0 : zfl (hp F A) 105 7 0 = some (.int (nI 3)) := m_fl hs_105
theorem mf_105_1 : zfl (hp F A) 105 7 1 = some (.ref 106) := m_fl hs_105
theorem mf_105_2 : zfl (hp F A) 105 7 2 = some (.int (nI 16)) := m_fl hs_105
theorem mf_105_3 : zfl (hp F A) 105 7 3 = some (.int (F 105 3)) := m_fl hs_105
theorem mp_105_3 : zsf (hp F A) 105 7 3 0 (.int x) = some (hp (uF F 105 3 x) A) := m_sf hs_105 (by decide) rfl rfl
theorem hs_106 : zshape[106]? = some (0, 0, []) := by decide +kernel
theorem mg_106 : zgi E (hp F A) 106 i 0 = (zix i (A 106).length).map (fun j => gI (A 106) j) := m_gi (by decide) hs_106
theorem mw_106 : zsi (hp F A) 106 i x 0 = (zix i (A 106).length).map (fun j => hp F (uA A 106 ((A 106).set j x))) := m_si hs_106
theorem ml_106 : zln E (hp F A) 106 = some (Int32.ofNat (A 106).length) := m_ln (by decide) (by decide) hs_106
theorem hs_107 : zshape[107]? = some (1, 8, [none, none, none, none, none, some (.ref 108), some (.ref 109), some (.ref 110), some (.ref 111), some (.ref 112)]) := by decide +kernel
theorem mr_107 : zrc (hp F A) 107 8 = true := m_rc hs_107 ⟨rfl, by decide⟩
theorem mf_107_0 : zfl (hp F A) 107 8 0 = some (.int (F 107 0)) := m_fl hs_107
theorem mp_107_0 : zsf (hp F A) 107 8 0 0 (.int x) = some (hp (uF F 107 0 x) A) := m_sf hs_107 (by decide) rfl rfl
theorem mf_107_1 : zfl (hp F A) 107 8 1 = some (.int (F 107 1)) := m_fl hs_107
theorem mp_107_1 : zsf (hp F A) 107 8 1 0 (.int x) = some (hp (uF F 107 1 x) A) := m_sf hs_107 (by decide) rfl rfl
theorem mf_107_2 : zfl (hp F A) 107 8 2 = some (.int (F 107 2)) := m_fl hs_107
theorem mp_107_2 : zsf (hp F A) 107 8 2 0 (.int x) = some (hp (uF F 107 2 x) A) := m_sf hs_107 (by decide) rfl rfl
theorem mf_107_3 : zfl (hp F A) 107 8 3 = some (.int (F 107 3)) := m_fl hs_107
theorem mp_107_3 : zsf (hp F A) 107 8 3 0 (.int x) = some (hp (uF F 107 3 x) A) := m_sf hs_107 (by decide) rfl rfl
theorem mf_107_4 : zfl (hp F A) 107 8 4 = some (.int (F 107 4)) := m_fl hs_107
theorem mp_107_4 : zsf (hp F A) 107 8 4 0 (.int x) = some (hp (uF F 107 4 x) A) := m_sf hs_107 (by decide) rfl rfl
theorem mf_107_5 : zfl (hp F A) 107 8 5 = some (.ref 108) := m_fl hs_107
theorem mf_107_6 : zfl (hp F A) 107 8 6 = some (.ref 109) := m_fl hs_107
theorem mf_107_7 : zfl (hp F A) 107 8 7 = some (.ref 110) := m_fl hs_107
theorem mf_107_8 : zfl (hp F A) 107 8 8 = some (.ref 111) := m_fl hs_107
theorem mf_107_9 : zfl (hp F A) 107 8 9 = some (.ref 112) := m_fl hs_107
theorem hs_180 : zshape[180]? = some (0, 1, []) := by decide +kernel
theorem mg_180 : zgi E (hp F A) 180 i 1 = (zix i (A 180).length).map (fun j => gI (A 180) j) := m_gi (by decide) hs_180
theorem mw_180 : zsi (hp F A) 180 i x 1 = (zix i (A 180).length).map (fun j => hp F (uA A 180 ((A 180).set j x.toInt8.toInt32))) := m_sib hs_180
theorem ml_180 : zln E (hp F A) 180 = some (Int32.ofNat (A 180).length) := m_ln (by decide) (by decide) hs_180
theorem hs_183 : zshape[183]? = some (0, 0, []) := by decide +kernel
theorem mg_183 : zgi E (hp F A) 183 i 0 = (zix i (A 183).length).map (fun j => gI (A 183) j) := m_gi (by decide) hs_183
theorem mw_183 : zsi (hp F A) 183 i x 0 = (zix i (A 183).length).map (fun j => hp F (uA A 183 ((A 183).set j x))) := m_si hs_183
theorem ml_183 : zln E (hp F A) 183 = some (Int32.ofNat (A 183).length) := m_ln (by decide) (by decide) hs_183
theorem hs_184 : zshape[184]? = some (0, 0, []) := by decide +kernel
theorem mg_184 : zgi E (hp F A) 184 i 0 = (zix i (A 184).length).map (fun j => gI (A 184) j) := m_gi (by decide) hs_184
theorem mw_184 : zsi (hp F A) 184 i x 0 = (zix i (A 184).length).map (fun j => hp F (uA A 184 ((A 184).set j x))) := m_si hs_184
theorem ml_184 : zln E (hp F A) 184 = some (Int32.ofNat (A 184).length) := m_ln (by decide) (by decide) hs_184
theorem hs_185 : zshape[185]? = some (1, 8, [none, none, none, none, none, some (.ref 186), some (.ref 187), some (.ref 188), some (.ref 189), some (.ref 190)]) := by decide +kernel
theorem mr_185 : zrc (hp F A) 185 8 = true := m_rc hs_185 ⟨rfl, by decide⟩
theorem mf_185_0 : zfl (hp F A) 185 8 0 = some (.int (F 185 0)) := m_fl hs_185
theorem mp_185_0 : zsf (hp F A) 185 8 0 0 (.int x) = some (hp (uF F 185 0 x) A) := m_sf hs_185 (by decide) rfl rfl
theorem mf_185_1 : zfl (hp F A) 185 8 1 = some (.int (F 185 1)) := m_fl hs_185
theorem mp_185_1 : zsf (hp F A) 185 8 1 0 (.int x) = some (hp (uF F 185 1 x) A) := m_sf hs_185 (by decide) rfl rfl
theorem mf_185_2 : zfl (hp F A) 185 8 2 = some (.int (F 185 2)) := m_fl hs_185
theorem mp_185_2 : zsf (hp F A) 185 8 2 0 (.int x) = some (hp (uF F 185 2 x) A) := m_sf hs_185 (by decide) rfl rfl
theorem mf_185_3 : zfl (hp F A) 185 8 3 = some (.int (F 185 3)) := m_fl hs_185
theorem mp_185_3 : zsf (hp F A) 185 8 3 0 (.int x) = some (hp (uF F 185 3 x) A) := m_sf hs_185 (by decide) rfl rfl
theorem mf_185_4 : zfl (hp F A) 185 8 4 = some (.int (F 185 4)) := m_fl hs_185
theorem mp_185_4 : zsf (hp F A) 185 8 4 0 (.int x) = some (hp (uF F 185 4 x) A) := m_sf hs_185 (by decide) rfl rfl
theorem mf_185_5 : zfl (hp F A) 185 8 5 = some (.ref 186) := m_fl hs_185
theorem mf_185_6 : zfl (hp F A) 185 8 6 = some (.ref 187) := m_fl hs_185
theorem mf_185_7 : zfl (hp F A) 185 8 7 = some (.ref 188) := m_fl hs_185
theorem mf_185_8 : zfl (hp F A) 185 8 8 = some (.ref 189) := m_fl hs_185
theorem mf_185_9 : zfl (hp F A) 185 8 9 = some (.ref 190) := m_fl hs_185
theorem hs_186 : zshape[186]? = some (0, 0, []) := by decide +kernel
theorem mg_186 : zgi E (hp F A) 186 i 0 = (zix i (A 186).length).map (fun j => gI (A 186) j) := m_gi (by decide) hs_186
theorem mw_186 : zsi (hp F A) 186 i x 0 = (zix i (A 186).length).map (fun j => hp F (uA A 186 ((A 186).set j x))) := m_si hs_186
theorem ml_186 : zln E (hp F A) 186 = some (Int32.ofNat (A 186).length) := m_ln (by decide) (by decide) hs_186
theorem hs_187 : zshape[187]? = some (0, 0, []) := by decide +kernel
theorem mg_187 : zgi E (hp F A) 187 i 0 = (zix i (A 187).length).map (fun j => gI (A 187) j) := m_gi (by decide) hs_187
theorem mw_187 : zsi (hp F A) 187 i x 0 = (zix i (A 187).length).map (fun j => hp F (uA A 187 ((A 187).set j x))) := m_si hs_187
theorem ml_187 : zln E (hp F A) 187 = some (Int32.ofNat (A 187).length) := m_ln (by decide) (by decide) hs_187
theorem hs_188 : zshape[188]? = some (0, 0, []) := by decide +kernel
theorem mg_188 : zgi E (hp F A) 188 i 0 = (zix i (A 188).length).map (fun j => gI (A 188) j) := m_gi (by decide) hs_188
theorem mw_188 : zsi (hp F A) 188 i x 0 = (zix i (A 188).length).map (fun j => hp F (uA A 188 ((A 188).set j x))) := m_si hs_188
theorem ml_188 : zln E (hp F A) 188 = some (Int32.ofNat (A 188).length) := m_ln (by decide) (by decide) hs_188
theorem hs_189 : zshape[189]? = some (0, 0, []) := by decide +kernel
theorem mg_189 : zgi E (hp F A) 189 i 0 = (zix i (A 189).length).map (fun j => gI (A 189) j) := m_gi (by decide) hs_189
theorem mw_189 : zsi (hp F A) 189 i x 0 = (zix i (A 189).length).map (fun j => hp F (uA A 189 ((A 189).set j x))) := m_si hs_189
theorem ml_189 : zln E (hp F A) 189 = some (Int32.ofNat (A 189).length) := m_ln (by decide) (by decide) hs_189
theorem hs_190 : zshape[190]? = some (0, 0, []) := by decide +kernel
theorem mg_190 : zgi E (hp F A) 190 i 0 = (zix i (A 190).length).map (fun j => gI (A 190) j) := m_gi (by decide) hs_190
theorem mw_190 : zsi (hp F A) 190 i x 0 = (zix i (A 190).length).map (fun j => hp F (uA A 190 ((A 190).set j x))) := m_si hs_190
theorem ml_190 : zln E (hp F A) 190 = some (Int32.ofNat (A 190).length) := m_ln (by decide) (by decide) hs_190
theorem hs_191 : zshape[191]? = some (1, 5, [some (.ref 1), some (.ref 192), some (.ref 193), some (.ref 194), some (.ref 195)]) := by decide +kernel
theorem mr_191 : zrc (hp F A) 191 5 = true := m_rc hs_191 ⟨rfl, by decide⟩
theorem mf_191_0 : zfl (hp F A) 191 5 0 = some (.ref 1) := m_fl hs_191
theorem mf_191_1 : zfl (hp F A) 191 5 1 = some (.ref 192) := m_fl hs_191
theorem mf_191_2 : zfl (hp F A) 191 5 2 = some (.ref 193) := m_fl hs_191
theorem mf_191_3 : zfl (hp F A) 191 5 3 = some (.ref 194) := m_fl hs_191
theorem mf_191_4 : zfl (hp F A) 191 5 4 = some (.ref 195) := m_fl hs_191
theorem hs_192 : zshape[192]? = some (0, 0, []) := by decide +kernel
theorem mg_192 : zgi E (hp F A) 192 i 0 = (zix i (A 192).length).map (fun j => gI (A 192) j) := m_gi (by decide) hs_192
theorem mw_192 : zsi (hp F A) 192 i x 0 = (zix i (A 192).length).map (fun j => hp F (uA A 192 ((A 192).set j x))) := m_si hs_192
theorem ml_192 : zln E (hp F A) 192 = some (Int32.ofNat (A 192).length) := m_ln (by decide) (by decide) hs_192
theorem hs_193 : zshape[193]? = some (0, 0, []) := by decide +kernel
theorem mg_193 : zgi E (hp F A) 193 i 0 = (zix i (A 193).length).map (fun j => gI (A 193) j) := m_gi (by decide) hs_193
theorem mw_193 : zsi (hp F A) 193 i x 0 = (zix i (A 193).length).map (fun j => hp F (uA A 193 ((A 193).set j x))) := m_si hs_193
theorem ml_193 : zln E (hp F A) 193 = some (Int32.ofNat (A 193).length) := m_ln (by decide) (by decide) hs_193
theorem hs_194 : zshape[194]? = some (0, 0, []) := by decide +kernel
theorem mg_194 : zgi E (hp F A) 194 i 0 = (zix i (A 194).length).map (fun j => gI (A 194) j) := m_gi (by decide) hs_194
theorem mw_194 : zsi (hp F A) 194 i x 0 = (zix i (A 194).length).map (fun j => hp F (uA A 194 ((A 194).set j x))) := m_si hs_194
theorem ml_194 : zln E (hp F A) 194 = some (Int32.ofNat (A 194).length) := m_ln (by decide) (by decide) hs_194
theorem hs_196 : zshape[196]? = some (0, 0, []) := by decide +kernel
theorem mg_196 : zgi E (hp F A) 196 i 0 = (zix i (A 196).length).map (fun j => gI (A 196) j) := m_gi (by decide) hs_196
theorem mw_196 : zsi (hp F A) 196 i x 0 = (zix i (A 196).length).map (fun j => hp F (uA A 196 ((A 196).set j x))) := m_si hs_196
theorem ml_196 : zln E (hp F A) 196 = some (Int32.ofNat (A 196).length) := m_ln (by decide) (by decide) hs_196
theorem hs_197 : zshape[197]? = some (0, 0, []) := by decide +kernel
theorem mg_197 : zgi E (hp F A) 197 i 0 = (zix i (A 197).length).map (fun j => gI (A 197) j) := m_gi (by decide) hs_197
theorem mw_197 : zsi (hp F A) 197 i x 0 = (zix i (A 197).length).map (fun j => hp F (uA A 197 ((A 197).set j x))) := m_si hs_197
theorem ml_197 : zln E (hp F A) 197 = some (Int32.ofNat (A 197).length) := m_ln (by decide) (by decide) hs_197
theorem hs_198 : zshape[198]? = some (0, 0, []) := by decide +kernel
theorem mg_198 : zgi E (hp F A) 198 i 0 = (zix i (A 198).length).map (fun j => gI (A 198) j) := m_gi (by decide) hs_198
theorem mw_198 : zsi (hp F A) 198 i x 0 = (zix i (A 198).length).map (fun j => hp F (uA A 198 ((A 198).set j x))) := m_si hs_198
theorem ml_198 : zln E (hp F A) 198 = some (Int32.ofNat (A 198).length) := m_ln (by decide) (by decide) hs_198
theorem hs_199 : zshape[199]? = some (0, 0, []) := by decide +kernel
theorem mg_199 : zgi E (hp F A) 199 i 0 = (zix i (A 199).length).map (fun j => gI (A 199) j) := m_gi (by decide) hs_199
theorem mw_199 : zsi (hp F A) 199 i x 0 = (zix i (A 199).length).map (fun j => hp F (uA A 199 ((A 199).set j x))) := m_si hs_199
theorem ml_199 : zln E (hp F A) 199 = some (Int32.ofNat (A 199).length) := m_ln (by decide) (by decide) hs_199
theorem hs_200 : zshape[200]? = some (0, 0, []) := by decide +kernel
theorem mg_200 : zgi E (hp F A) 200 i 0 = (zix i (A 200).length).map (fun j => gI (A 200) j) := m_gi (by decide) hs_200
theorem mw_200 : zsi (hp F A) 200 i x 0 = (zix i (A 200).length).map (fun j => hp F (uA A 200 ((A 200).set j x))) := m_si hs_200
theorem ml_200 : zln E (hp F A) 200 = some (Int32.ofNat (A 200).length) := m_ln (by decide) (by decide) hs_200
theorem hs_201 : zshape[201]? = some (0, 0, []) := by decide +kernel
theorem mg_201 : zgi E (hp F A) 201 i 0 = (zix i (A 201).length).map (fun j => gI (A 201) j) := m_gi (by decide) hs_201
theorem mw_201 : zsi (hp F A) 201 i x 0 = (zix i (A 201).length).map (fun j => hp F (uA A 201 ((A 201).set j x))) := m_si hs_201
theorem ml_201 : zln E (hp F A) 201 = some (Int32.ofNat (A 201).length) := m_ln (by decide) (by decide) hs_201
theorem hs_202 : zshape[202]? = some (1, 1, [some (.ref 1), some (.ref 191), none, none, some (.ref 203), none, none, none, none, some (.ref 204), some (.ref 205)]) := by decide +kernel
theorem mr_202 : zrc (hp F A) 202 1 = true := m_rc hs_202 ⟨rfl, by decide⟩
theorem mf_202_0 : zfl (hp F A) 202 1 0 = some (.ref 1) := m_fl hs_202
theorem mf_202_1 : zfl (hp F A) 202 1 1 = some (.ref 191) := m_fl hs_202
theorem mf_202_2 : zfl (hp F A) 202 1 2 = some (.int (F 202 2)) := m_fl hs_202
theorem mp_202_2 : zsf (hp F A) 202 1 2 1 (.int x) = if x = 0 ∨ x = 1 then some (hp (uF F 202 2 x) A) else none := m_sfz hs_202 (by decide) rfl rfl
theorem mf_202_3 : zfl (hp F A) 202 1 3 = some (.int (F 202 3)) := m_fl hs_202
theorem mp_202_3 : zsf (hp F A) 202 1 3 0 (.int x) = some (hp (uF F 202 3 x) A) := m_sf hs_202 (by decide) rfl rfl
theorem mf_202_4 : zfl (hp F A) 202 1 4 = some (.ref 203) := m_fl hs_202
theorem mf_202_5 : zfl (hp F A) 202 1 5 = some (.int (F 202 5)) := m_fl hs_202
theorem mp_202_5 : zsf (hp F A) 202 1 5 0 (.int x) = some (hp (uF F 202 5 x) A) := m_sf hs_202 (by decide) rfl rfl
theorem mf_202_6 : zfl (hp F A) 202 1 6 = some (.int (F 202 6)) := m_fl hs_202
theorem mp_202_6 : zsf (hp F A) 202 1 6 0 (.int x) = some (hp (uF F 202 6 x) A) := m_sf hs_202 (by decide) rfl rfl
theorem mf_202_7 : zfl (hp F A) 202 1 7 = some (.int (F 202 7)) := m_fl hs_202
theorem mp_202_7 : zsf (hp F A) 202 1 7 1 (.int x) = if x = 0 ∨ x = 1 then some (hp (uF F 202 7 x) A) else none := m_sfz hs_202 (by decide) rfl rfl
theorem mf_202_8 : zfl (hp F A) 202 1 8 = some (.int (F 202 8)) := m_fl hs_202
theorem mp_202_8 : zsf (hp F A) 202 1 8 0 (.int x) = some (hp (uF F 202 8 x) A) := m_sf hs_202 (by decide) rfl rfl
theorem mf_202_9 : zfl (hp F A) 202 1 9 = some (.ref 204) := m_fl hs_202
theorem mf_202_10 : zfl (hp F A) 202 1 10 = some (.ref 205) := m_fl hs_202
theorem hs_203 : zshape[203]? = some (0, 0, []) := by decide +kernel
theorem mg_203 : zgi E (hp F A) 203 i 0 = (zix i (A 203).length).map (fun j => gI (A 203) j) := m_gi (by decide) hs_203
theorem mw_203 : zsi (hp F A) 203 i x 0 = (zix i (A 203).length).map (fun j => hp F (uA A 203 ((A 203).set j x))) := m_si hs_203
theorem ml_203 : zln E (hp F A) 203 = some (Int32.ofNat (A 203).length) := m_ln (by decide) (by decide) hs_203
theorem hs_204 : zshape[204]? = some (0, 0, []) := by decide +kernel
theorem mg_204 : zgi E (hp F A) 204 i 0 = (zix i (A 204).length).map (fun j => gI (A 204) j) := m_gi (by decide) hs_204
theorem mw_204 : zsi (hp F A) 204 i x 0 = (zix i (A 204).length).map (fun j => hp F (uA A 204 ((A 204).set j x))) := m_si hs_204
theorem ml_204 : zln E (hp F A) 204 = some (Int32.ofNat (A 204).length) := m_ln (by decide) (by decide) hs_204
theorem hs_205 : zshape[205]? = some (0, 0, []) := by decide +kernel
theorem mg_205 : zgi E (hp F A) 205 i 0 = (zix i (A 205).length).map (fun j => gI (A 205) j) := m_gi (by decide) hs_205
theorem mw_205 : zsi (hp F A) 205 i x 0 = (zix i (A 205).length).map (fun j => hp F (uA A 205 ((A 205).set j x))) := m_si hs_205
theorem ml_205 : zln E (hp F A) 205 = some (Int32.ofNat (A 205).length) := m_ln (by decide) (by decide) hs_205
theorem hs_206 : zshape[206]? = some (1, 3, [some (.ref 1), some (.ref 207)]) := by decide +kernel
theorem mr_206 : zrc (hp F A) 206 3 = true := m_rc hs_206 ⟨rfl, by decide⟩
theorem mf_206_0 : zfl (hp F A) 206 3 0 = some (.ref 1) := m_fl hs_206
theorem mf_206_1 : zfl (hp F A) 206 3 1 = some (.ref 207) := m_fl hs_206
theorem hs_207 : zshape[207]? = some (0, 0, []) := by decide +kernel
theorem mg_207 : zgi E (hp F A) 207 i 0 = (zix i (A 207).length).map (fun j => gI (A 207) j) := m_gi (by decide) hs_207
theorem mw_207 : zsi (hp F A) 207 i x 0 = (zix i (A 207).length).map (fun j => hp F (uA A 207 ((A 207).set j x))) := m_si hs_207
theorem ml_207 : zln E (hp F A) 207 = some (Int32.ofNat (A 207).length) := m_ln (by decide) (by decide) hs_207
theorem hs_208 : zshape[208]? = some (1, 6, [some (.ref 1), some (.ref 191), some (.ref 206), some (.ref 209)]) := by decide +kernel
theorem mr_208 : zrc (hp F A) 208 6 = true := m_rc hs_208 ⟨rfl, by decide⟩
theorem mf_208_0 : zfl (hp F A) 208 6 0 = some (.ref 1) := m_fl hs_208
theorem mf_208_1 : zfl (hp F A) 208 6 1 = some (.ref 191) := m_fl hs_208
theorem mf_208_2 : zfl (hp F A) 208 6 2 = some (.ref 206) := m_fl hs_208
theorem mf_208_3 : zfl (hp F A) 208 6 3 = some (.ref 209) := m_fl hs_208
theorem hs_210 : zshape[210]? = some (0, 0, []) := by decide +kernel
theorem mg_210 : zgi E (hp F A) 210 i 0 = (zix i (A 210).length).map (fun j => gI (A 210) j) := m_gi (by decide) hs_210
theorem mw_210 : zsi (hp F A) 210 i x 0 = (zix i (A 210).length).map (fun j => hp F (uA A 210 ((A 210).set j x))) := m_si hs_210
theorem ml_210 : zln E (hp F A) 210 = some (Int32.ofNat (A 210).length) := m_ln (by decide) (by decide) hs_210
theorem hs_211 : zshape[211]? = some (0, 0, []) := by decide +kernel
theorem mg_211 : zgi E (hp F A) 211 i 0 = (zix i (A 211).length).map (fun j => gI (A 211) j) := m_gi (by decide) hs_211
theorem mw_211 : zsi (hp F A) 211 i x 0 = (zix i (A 211).length).map (fun j => hp F (uA A 211 ((A 211).set j x))) := m_si hs_211
theorem ml_211 : zln E (hp F A) 211 = some (Int32.ofNat (A 211).length) := m_ln (by decide) (by decide) hs_211
theorem hs_212 : zshape[212]? = some (0, 0, []) := by decide +kernel
theorem mg_212 : zgi E (hp F A) 212 i 0 = (zix i (A 212).length).map (fun j => gI (A 212) j) := m_gi (by decide) hs_212
theorem mw_212 : zsi (hp F A) 212 i x 0 = (zix i (A 212).length).map (fun j => hp F (uA A 212 ((A 212).set j x))) := m_si hs_212
theorem ml_212 : zln E (hp F A) 212 = some (Int32.ofNat (A 212).length) := m_ln (by decide) (by decide) hs_212
theorem hs_213 : zshape[213]? = some (0, 0, []) := by decide +kernel
theorem mg_213 : zgi E (hp F A) 213 i 0 = (zix i (A 213).length).map (fun j => gI (A 213) j) := m_gi (by decide) hs_213
theorem mw_213 : zsi (hp F A) 213 i x 0 = (zix i (A 213).length).map (fun j => hp F (uA A 213 ((A 213).set j x))) := m_si hs_213
theorem ml_213 : zln E (hp F A) 213 = some (Int32.ofNat (A 213).length) := m_ln (by decide) (by decide) hs_213
theorem hs_214 : zshape[214]? = some (0, 0, []) := by decide +kernel
theorem mg_214 : zgi E (hp F A) 214 i 0 = (zix i (A 214).length).map (fun j => gI (A 214) j) := m_gi (by decide) hs_214
theorem mw_214 : zsi (hp F A) 214 i x 0 = (zix i (A 214).length).map (fun j => hp F (uA A 214 ((A 214).set j x))) := m_si hs_214
theorem ml_214 : zln E (hp F A) 214 = some (Int32.ofNat (A 214).length) := m_ln (by decide) (by decide) hs_214
theorem hs_215 : zshape[215]? = some (0, 0, []) := by decide +kernel
theorem mg_215 : zgi E (hp F A) 215 i 0 = (zix i (A 215).length).map (fun j => gI (A 215) j) := m_gi (by decide) hs_215
theorem mw_215 : zsi (hp F A) 215 i x 0 = (zix i (A 215).length).map (fun j => hp F (uA A 215 ((A 215).set j x))) := m_si hs_215
theorem ml_215 : zln E (hp F A) 215 = some (Int32.ofNat (A 215).length) := m_ln (by decide) (by decide) hs_215
theorem hs_216 : zshape[216]? = some (0, 0, []) := by decide +kernel
theorem mg_216 : zgi E (hp F A) 216 i 0 = (zix i (A 216).length).map (fun j => gI (A 216) j) := m_gi (by decide) hs_216
theorem mw_216 : zsi (hp F A) 216 i x 0 = (zix i (A 216).length).map (fun j => hp F (uA A 216 ((A 216).set j x))) := m_si hs_216
theorem ml_216 : zln E (hp F A) 216 = some (Int32.ofNat (A 216).length) := m_ln (by decide) (by decide) hs_216
theorem hs_217 : zshape[217]? = some (0, 0, []) := by decide +kernel
theorem mg_217 : zgi E (hp F A) 217 i 0 = (zix i (A 217).length).map (fun j => gI (A 217) j) := m_gi (by decide) hs_217
theorem mw_217 : zsi (hp F A) 217 i x 0 = (zix i (A 217).length).map (fun j => hp F (uA A 217 ((A 217).set j x))) := m_si hs_217
theorem ml_217 : zln E (hp F A) 217 = some (Int32.ofNat (A 217).length) := m_ln (by decide) (by decide) hs_217
theorem hs_218 : zshape[218]? = some (0, 0, []) := by decide +kernel
theorem mg_218 : zgi E (hp F A) 218 i 0 = (zix i (A 218).length).map (fun j => gI (A 218) j) := m_gi (by decide) hs_218
theorem mw_218 : zsi (hp F A) 218 i x 0 = (zix i (A 218).length).map (fun j => hp F (uA A 218 ((A 218).set j x))) := m_si hs_218
theorem ml_218 : zln E (hp F A) 218 = some (Int32.ofNat (A 218).length) := m_ln (by decide) (by decide) hs_218
theorem hs_219 : zshape[219]? = some (0, 0, []) := by decide +kernel
theorem mg_219 : zgi E (hp F A) 219 i 0 = (zix i (A 219).length).map (fun j => gI (A 219) j) := m_gi (by decide) hs_219
theorem mw_219 : zsi (hp F A) 219 i x 0 = (zix i (A 219).length).map (fun j => hp F (uA A 219 ((A 219).set j x))) := m_si hs_219
theorem ml_219 : zln E (hp F A) 219 = some (Int32.ofNat (A 219).length) := m_ln (by decide) (by decide) hs_219
theorem hs_220 : zshape[220]? = some (0, 0, []) := by decide +kernel
theorem mg_220 : zgi E (hp F A) 220 i 0 = (zix i (A 220).length).map (fun j => gI (A 220) j) := m_gi (by decide) hs_220
theorem mw_220 : zsi (hp F A) 220 i x 0 = (zix i (A 220).length).map (fun j => hp F (uA A 220 ((A 220).set j x))) := m_si hs_220
theorem ml_220 : zln E (hp F A) 220 = some (Int32.ofNat (A 220).length) := m_ln (by decide) (by decide) hs_220
theorem hs_221 : zshape[221]? = some (0, 0, []) := by decide +kernel
theorem mg_221 : zgi E (hp F A) 221 i 0 = (zix i (A 221).length).map (fun j => gI (A 221) j) := m_gi (by decide) hs_221
theorem mw_221 : zsi (hp F A) 221 i x 0 = (zix i (A 221).length).map (fun j => hp F (uA A 221 ((A 221).set j x))) := m_si hs_221
theorem ml_221 : zln E (hp F A) 221 = some (Int32.ofNat (A 221).length) := m_ln (by decide) (by decide) hs_221
theorem hs_222 : zshape[222]? = some (0, 0, []) := by decide +kernel
theorem mg_222 : zgi E (hp F A) 222 i 0 = (zix i (A 222).length).map (fun j => gI (A 222) j) := m_gi (by decide) hs_222
theorem mw_222 : zsi (hp F A) 222 i x 0 = (zix i (A 222).length).map (fun j => hp F (uA A 222 ((A 222).set j x))) := m_si hs_222
theorem ml_222 : zln E (hp F A) 222 = some (Int32.ofNat (A 222).length) := m_ln (by decide) (by decide) hs_222
theorem hs_223 : zshape[223]? = some (0, 0, []) := by decide +kernel
theorem mg_223 : zgi E (hp F A) 223 i 0 = (zix i (A 223).length).map (fun j => gI (A 223) j) := m_gi (by decide) hs_223
theorem mw_223 : zsi (hp F A) 223 i x 0 = (zix i (A 223).length).map (fun j => hp F (uA A 223 ((A 223).set j x))) := m_si hs_223
theorem ml_223 : zln E (hp F A) 223 = some (Int32.ofNat (A 223).length) := m_ln (by decide) (by decide) hs_223
theorem hs_224 : zshape[224]? = some (0, 0, []) := by decide +kernel
theorem mg_224 : zgi E (hp F A) 224 i 0 = (zix i (A 224).length).map (fun j => gI (A 224) j) := m_gi (by decide) hs_224
theorem mw_224 : zsi (hp F A) 224 i x 0 = (zix i (A 224).length).map (fun j => hp F (uA A 224 ((A 224).set j x))) := m_si hs_224
theorem ml_224 : zln E (hp F A) 224 = some (Int32.ofNat (A 224).length) := m_ln (by decide) (by decide) hs_224
theorem hs_225 : zshape[225]? = some (0, 0, []) := by decide +kernel
theorem mg_225 : zgi E (hp F A) 225 i 0 = (zix i (A 225).length).map (fun j => gI (A 225) j) := m_gi (by decide) hs_225
theorem mw_225 : zsi (hp F A) 225 i x 0 = (zix i (A 225).length).map (fun j => hp F (uA A 225 ((A 225).set j x))) := m_si hs_225
theorem ml_225 : zln E (hp F A) 225 = some (Int32.ofNat (A 225).length) := m_ln (by decide) (by decide) hs_225
theorem hs_226 : zshape[226]? = some (1, 2, [some (.ref 1), some (.ref 191), some (.ref 206), some (.ref 227), some (.ref 228), some (.ref 229), some (.ref 230), some (.ref 232), none]) := by decide +kernel
theorem mr_226 : zrc (hp F A) 226 2 = true := m_rc hs_226 ⟨rfl, by decide⟩
theorem mf_226_0 : zfl (hp F A) 226 2 0 = some (.ref 1) := m_fl hs_226
theorem mf_226_1 : zfl (hp F A) 226 2 1 = some (.ref 191) := m_fl hs_226
theorem mf_226_2 : zfl (hp F A) 226 2 2 = some (.ref 206) := m_fl hs_226
theorem mf_226_3 : zfl (hp F A) 226 2 3 = some (.ref 227) := m_fl hs_226
theorem mf_226_4 : zfl (hp F A) 226 2 4 = some (.ref 228) := m_fl hs_226
theorem mf_226_5 : zfl (hp F A) 226 2 5 = some (.ref 229) := m_fl hs_226
theorem mf_226_6 : zfl (hp F A) 226 2 6 = some (.ref 230) := m_fl hs_226
theorem mf_226_7 : zfl (hp F A) 226 2 7 = some (.ref 232) := m_fl hs_226
theorem mf_226_8 : zfl (hp F A) 226 2 8 = some (.int (F 226 8)) := m_fl hs_226
theorem mp_226_8 : zsf (hp F A) 226 2 8 1 (.int x) = if x = 0 ∨ x = 1 then some (hp (uF F 226 8 x) A) else none := m_sfz hs_226 (by decide) rfl rfl
theorem hs_227 : zshape[227]? = some (0, 0, []) := by decide +kernel
theorem mg_227 : zgi E (hp F A) 227 i 0 = (zix i (A 227).length).map (fun j => gI (A 227) j) := m_gi (by decide) hs_227
theorem mw_227 : zsi (hp F A) 227 i x 0 = (zix i (A 227).length).map (fun j => hp F (uA A 227 ((A 227).set j x))) := m_si hs_227
theorem ml_227 : zln E (hp F A) 227 = some (Int32.ofNat (A 227).length) := m_ln (by decide) (by decide) hs_227
theorem hs_228 : zshape[228]? = some (0, 0, []) := by decide +kernel
theorem mg_228 : zgi E (hp F A) 228 i 0 = (zix i (A 228).length).map (fun j => gI (A 228) j) := m_gi (by decide) hs_228
theorem mw_228 : zsi (hp F A) 228 i x 0 = (zix i (A 228).length).map (fun j => hp F (uA A 228 ((A 228).set j x))) := m_si hs_228
theorem ml_228 : zln E (hp F A) 228 = some (Int32.ofNat (A 228).length) := m_ln (by decide) (by decide) hs_228
theorem hs_229 : zshape[229]? = some (0, 0, []) := by decide +kernel
theorem mg_229 : zgi E (hp F A) 229 i 0 = (zix i (A 229).length).map (fun j => gI (A 229) j) := m_gi (by decide) hs_229
theorem mw_229 : zsi (hp F A) 229 i x 0 = (zix i (A 229).length).map (fun j => hp F (uA A 229 ((A 229).set j x))) := m_si hs_229
theorem ml_229 : zln E (hp F A) 229 = some (Int32.ofNat (A 229).length) := m_ln (by decide) (by decide) hs_229
theorem hs_230 : zshape[230]? = some (1, 7, [some (.int (nI 2)), some (.ref 231), some (.int (nI 60)), none]) := by decide +kernel
theorem mr_230 : zrc (hp F A) 230 7 = true := m_rc hs_230 ⟨rfl, by decide⟩
theorem mf_230_0 : zfl (hp F A) 230 7 0 = some (.int (nI 2)) := m_fl hs_230
theorem mf_230_1 : zfl (hp F A) 230 7 1 = some (.ref 231) := m_fl hs_230
theorem mf_230_2 : zfl (hp F A) 230 7 2 = some (.int (nI 60)) := m_fl hs_230
theorem mf_230_3 : zfl (hp F A) 230 7 3 = some (.int (F 230 3)) := m_fl hs_230
theorem mp_230_3 : zsf (hp F A) 230 7 3 0 (.int x) = some (hp (uF F 230 3 x) A) := m_sf hs_230 (by decide) rfl rfl
theorem hs_231 : zshape[231]? = some (0, 0, []) := by decide +kernel
theorem mg_231 : zgi E (hp F A) 231 i 0 = (zix i (A 231).length).map (fun j => gI (A 231) j) := m_gi (by decide) hs_231
theorem mw_231 : zsi (hp F A) 231 i x 0 = (zix i (A 231).length).map (fun j => hp F (uA A 231 ((A 231).set j x))) := m_si hs_231
theorem ml_231 : zln E (hp F A) 231 = some (Int32.ofNat (A 231).length) := m_ln (by decide) (by decide) hs_231
theorem hs_232 : zshape[232]? = some (1, 7, [some (.int (nI 2)), some (.ref 233), some (.int (nI 60)), none]) := by decide +kernel
theorem mr_232 : zrc (hp F A) 232 7 = true := m_rc hs_232 ⟨rfl, by decide⟩
theorem mf_232_0 : zfl (hp F A) 232 7 0 = some (.int (nI 2)) := m_fl hs_232
theorem mf_232_1 : zfl (hp F A) 232 7 1 = some (.ref 233) := m_fl hs_232
theorem mf_232_2 : zfl (hp F A) 232 7 2 = some (.int (nI 60)) := m_fl hs_232
theorem mf_232_3 : zfl (hp F A) 232 7 3 = some (.int (F 232 3)) := m_fl hs_232
theorem mp_232_3 : zsf (hp F A) 232 7 3 0 (.int x) = some (hp (uF F 232 3 x) A) := m_sf hs_232 (by decide) rfl rfl
theorem hs_233 : zshape[233]? = some (0, 0, []) := by decide +kernel
theorem mg_233 : zgi E (hp F A) 233 i 0 = (zix i (A 233).length).map (fun j => gI (A 233) j) := m_gi (by decide) hs_233
theorem mw_233 : zsi (hp F A) 233 i x 0 = (zix i (A 233).length).map (fun j => hp F (uA A 233 ((A 233).set j x))) := m_si hs_233
theorem ml_233 : zln E (hp F A) 233 = some (Int32.ofNat (A 233).length) := m_ln (by decide) (by decide) hs_233
theorem hs_234 : zshape[234]? = some (1, 0, [some (.ref 1), some (.ref 235), some (.ref 236), some (.ref 237), some (.ref 242), some (.ref 243), some (.ref 244), some (.ref 245), none, none, none, none, none, none]) := by decide +kernel
theorem mr_234 : zrc (hp F A) 234 0 = true := m_rc hs_234 ⟨rfl, by decide⟩
theorem mf_234_0 : zfl (hp F A) 234 0 0 = some (.ref 1) := m_fl hs_234
theorem mf_234_1 : zfl (hp F A) 234 0 1 = some (.ref 235) := m_fl hs_234
theorem mf_234_2 : zfl (hp F A) 234 0 2 = some (.ref 236) := m_fl hs_234
theorem mf_234_3 : zfl (hp F A) 234 0 3 = some (.ref 237) := m_fl hs_234
theorem mf_234_4 : zfl (hp F A) 234 0 4 = some (.ref 242) := m_fl hs_234
theorem mf_234_5 : zfl (hp F A) 234 0 5 = some (.ref 243) := m_fl hs_234
theorem mf_234_6 : zfl (hp F A) 234 0 6 = some (.ref 244) := m_fl hs_234
theorem mf_234_7 : zfl (hp F A) 234 0 7 = some (.ref 245) := m_fl hs_234
theorem mf_234_8 : zfl (hp F A) 234 0 8 = some (.int (F 234 8)) := m_fl hs_234
theorem mp_234_8 : zsf (hp F A) 234 0 8 0 (.int x) = some (hp (uF F 234 8 x) A) := m_sf hs_234 (by decide) rfl rfl
theorem mf_234_9 : zfl (hp F A) 234 0 9 = some (.int (F 234 9)) := m_fl hs_234
theorem mp_234_9 : zsf (hp F A) 234 0 9 0 (.int x) = some (hp (uF F 234 9 x) A) := m_sf hs_234 (by decide) rfl rfl
theorem mf_234_10 : zfl (hp F A) 234 0 10 = some (.int (F 234 10)) := m_fl hs_234
theorem mp_234_10 : zsf (hp F A) 234 0 10 0 (.int x) = some (hp (uF F 234 10 x) A) := m_sf hs_234 (by decide) rfl rfl
theorem mf_234_11 : zfl (hp F A) 234 0 11 = some (.int (F 234 11)) := m_fl hs_234
theorem mp_234_11 : zsf (hp F A) 234 0 11 0 (.int x) = some (hp (uF F 234 11 x) A) := m_sf hs_234 (by decide) rfl rfl
theorem mf_234_12 : zfl (hp F A) 234 0 12 = some (.int (F 234 12)) := m_fl hs_234
theorem mp_234_12 : zsf (hp F A) 234 0 12 0 (.int x) = some (hp (uF F 234 12 x) A) := m_sf hs_234 (by decide) rfl rfl
theorem mf_234_13 : zfl (hp F A) 234 0 13 = some (.int (F 234 13)) := m_fl hs_234
theorem mp_234_13 : zsf (hp F A) 234 0 13 1 (.int x) = if x = 0 ∨ x = 1 then some (hp (uF F 234 13 x) A) else none := m_sfz hs_234 (by decide) rfl rfl
theorem hs_235 : zshape[235]? = some (0, 0, []) := by decide +kernel
theorem mg_235 : zgi E (hp F A) 235 i 0 = (zix i (A 235).length).map (fun j => gI (A 235) j) := m_gi (by decide) hs_235
theorem mw_235 : zsi (hp F A) 235 i x 0 = (zix i (A 235).length).map (fun j => hp F (uA A 235 ((A 235).set j x))) := m_si hs_235
theorem ml_235 : zln E (hp F A) 235 = some (Int32.ofNat (A 235).length) := m_ln (by decide) (by decide) hs_235
theorem hs_236 : zshape[236]? = some (0, 0, []) := by decide +kernel
theorem mg_236 : zgi E (hp F A) 236 i 0 = (zix i (A 236).length).map (fun j => gI (A 236) j) := m_gi (by decide) hs_236
theorem mw_236 : zsi (hp F A) 236 i x 0 = (zix i (A 236).length).map (fun j => hp F (uA A 236 ((A 236).set j x))) := m_si hs_236
theorem ml_236 : zln E (hp F A) 236 = some (Int32.ofNat (A 236).length) := m_ln (by decide) (by decide) hs_236
theorem hs_238 : zshape[238]? = some (0, 0, []) := by decide +kernel
theorem mg_238 : zgi E (hp F A) 238 i 0 = (zix i (A 238).length).map (fun j => gI (A 238) j) := m_gi (by decide) hs_238
theorem mw_238 : zsi (hp F A) 238 i x 0 = (zix i (A 238).length).map (fun j => hp F (uA A 238 ((A 238).set j x))) := m_si hs_238
theorem ml_238 : zln E (hp F A) 238 = some (Int32.ofNat (A 238).length) := m_ln (by decide) (by decide) hs_238
theorem hs_239 : zshape[239]? = some (0, 0, []) := by decide +kernel
theorem mg_239 : zgi E (hp F A) 239 i 0 = (zix i (A 239).length).map (fun j => gI (A 239) j) := m_gi (by decide) hs_239
theorem mw_239 : zsi (hp F A) 239 i x 0 = (zix i (A 239).length).map (fun j => hp F (uA A 239 ((A 239).set j x))) := m_si hs_239
theorem ml_239 : zln E (hp F A) 239 = some (Int32.ofNat (A 239).length) := m_ln (by decide) (by decide) hs_239
theorem hs_240 : zshape[240]? = some (0, 0, []) := by decide +kernel
theorem mg_240 : zgi E (hp F A) 240 i 0 = (zix i (A 240).length).map (fun j => gI (A 240) j) := m_gi (by decide) hs_240
theorem mw_240 : zsi (hp F A) 240 i x 0 = (zix i (A 240).length).map (fun j => hp F (uA A 240 ((A 240).set j x))) := m_si hs_240
theorem ml_240 : zln E (hp F A) 240 = some (Int32.ofNat (A 240).length) := m_ln (by decide) (by decide) hs_240
theorem hs_241 : zshape[241]? = some (0, 0, []) := by decide +kernel
theorem mg_241 : zgi E (hp F A) 241 i 0 = (zix i (A 241).length).map (fun j => gI (A 241) j) := m_gi (by decide) hs_241
theorem mw_241 : zsi (hp F A) 241 i x 0 = (zix i (A 241).length).map (fun j => hp F (uA A 241 ((A 241).set j x))) := m_si hs_241
theorem ml_241 : zln E (hp F A) 241 = some (Int32.ofNat (A 241).length) := m_ln (by decide) (by decide) hs_241
theorem hs_242 : zshape[242]? = some (0, 0, []) := by decide +kernel
theorem mg_242 : zgi E (hp F A) 242 i 0 = (zix i (A 242).length).map (fun j => gI (A 242) j) := m_gi (by decide) hs_242
theorem mw_242 : zsi (hp F A) 242 i x 0 = (zix i (A 242).length).map (fun j => hp F (uA A 242 ((A 242).set j x))) := m_si hs_242
theorem ml_242 : zln E (hp F A) 242 = some (Int32.ofNat (A 242).length) := m_ln (by decide) (by decide) hs_242
theorem hs_243 : zshape[243]? = some (0, 0, []) := by decide +kernel
theorem mg_243 : zgi E (hp F A) 243 i 0 = (zix i (A 243).length).map (fun j => gI (A 243) j) := m_gi (by decide) hs_243
theorem mw_243 : zsi (hp F A) 243 i x 0 = (zix i (A 243).length).map (fun j => hp F (uA A 243 ((A 243).set j x))) := m_si hs_243
theorem ml_243 : zln E (hp F A) 243 = some (Int32.ofNat (A 243).length) := m_ln (by decide) (by decide) hs_243
theorem hs_244 : zshape[244]? = some (0, 0, []) := by decide +kernel
theorem mg_244 : zgi E (hp F A) 244 i 0 = (zix i (A 244).length).map (fun j => gI (A 244) j) := m_gi (by decide) hs_244
theorem mw_244 : zsi (hp F A) 244 i x 0 = (zix i (A 244).length).map (fun j => hp F (uA A 244 ((A 244).set j x))) := m_si hs_244
theorem ml_244 : zln E (hp F A) 244 = some (Int32.ofNat (A 244).length) := m_ln (by decide) (by decide) hs_244
theorem hs_245 : zshape[245]? = some (0, 0, []) := by decide +kernel
theorem mg_245 : zgi E (hp F A) 245 i 0 = (zix i (A 245).length).map (fun j => gI (A 245) j) := m_gi (by decide) hs_245
theorem mw_245 : zsi (hp F A) 245 i x 0 = (zix i (A 245).length).map (fun j => hp F (uA A 245 ((A 245).set j x))) := m_si hs_245
theorem ml_245 : zln E (hp F A) 245 = some (Int32.ofNat (A 245).length) := m_ln (by decide) (by decide) hs_245
theorem hs_246 : zshape[246]? = some (1, 11, [some (.ref 247), some (.ref 248), none, some (.ref 249), none, some (.ref 250), some (.ref 251), none, none, some (.ref 252), some (.ref 253), some (.ref 254), none, none, none, none, none, none, none, none, none, none, some (.ref 255), some (.ref 256), some (.ref 257), some (.ref 258), some (.ref 259), some (.ref 260), some (.ref 261), some (.ref 262), some (.ref 263), some (.ref 264), some (.ref 265), some (.ref 266), some (.ref 267), none, none, none]) := by decide +kernel
theorem mr_246 : zrc (hp F A) 246 11 = true := m_rc hs_246 ⟨rfl, by decide⟩
theorem mf_246_0 : zfl (hp F A) 246 11 0 = some (.ref 247) := m_fl hs_246
theorem mf_246_1 : zfl (hp F A) 246 11 1 = some (.ref 248) := m_fl hs_246
theorem mf_246_2 : zfl (hp F A) 246 11 2 = some (.int (F 246 2)) := m_fl hs_246
theorem mp_246_2 : zsf (hp F A) 246 11 2 1 (.int x) = if x = 0 ∨ x = 1 then some (hp (uF F 246 2 x) A) else none := m_sfz hs_246 (by decide) rfl rfl
theorem mf_246_3 : zfl (hp F A) 246 11 3 = some (.ref 249) := m_fl hs_246
theorem mf_246_4 : zfl (hp F A) 246 11 4 = some (.int (F 246 4)) := m_fl hs_246
theorem mp_246_4 : zsf (hp F A) 246 11 4 0 (.int x) = some (hp (uF F 246 4 x) A) := m_sf hs_246 (by decide) rfl rfl
theorem mf_246_5 : zfl (hp F A) 246 11 5 = some (.ref 250) := m_fl hs_246
theorem mf_246_6 : zfl (hp F A) 246 11 6 = some (.ref 251) := m_fl hs_246
theorem mf_246_7 : zfl (hp F A) 246 11 7 = some (.int (F 246 7)) := m_fl hs_246
theorem mp_246_7 : zsf (hp F A) 246 11 7 0 (.int x) = some (hp (uF F 246 7 x) A) := m_sf hs_246 (by decide) rfl rfl
theorem mf_246_8 : zfl (hp F A) 246 11 8 = some (.int (F 246 8)) := m_fl hs_246
theorem mp_246_8 : zsf (hp F A) 246 11 8 0 (.int x) = some (hp (uF F 246 8 x) A) := m_sf hs_246 (by decide) rfl rfl
theorem mf_246_9 : zfl (hp F A) 246 11 9 = some (.ref 252) := m_fl hs_246
theorem mf_246_10 : zfl (hp F A) 246 11 10 = some (.ref 253) := m_fl hs_246
theorem mf_246_11 : zfl (hp F A) 246 11 11 = some (.ref 254) := m_fl hs_246
theorem mf_246_12 : zfl (hp F A) 246 11 12 = some (.int (F 246 12)) := m_fl hs_246
theorem mp_246_12 : zsf (hp F A) 246 11 12 1 (.int x) = if x = 0 ∨ x = 1 then some (hp (uF F 246 12 x) A) else none := m_sfz hs_246 (by decide) rfl rfl
theorem mf_246_13 : zfl (hp F A) 246 11 13 = some (.int (F 246 13)) := m_fl hs_246
theorem mp_246_13 : zsf (hp F A) 246 11 13 0 (.int x) = some (hp (uF F 246 13 x) A) := m_sf hs_246 (by decide) rfl rfl
theorem mf_246_14 : zfl (hp F A) 246 11 14 = some (.int (F 246 14)) := m_fl hs_246
theorem mp_246_14 : zsf (hp F A) 246 11 14 0 (.int x) = some (hp (uF F 246 14 x) A) := m_sf hs_246 (by decide) rfl rfl
theorem mf_246_15 : zfl (hp F A) 246 11 15 = some (.int (F 246 15)) := m_fl hs_246
theorem mp_246_15 : zsf (hp F A) 246 11 15 0 (.int x) = some (hp (uF F 246 15 x) A) := m_sf hs_246 (by decide) rfl rfl
theorem mf_246_16 : zfl (hp F A) 246 11 16 = some (.int (F 246 16)) := m_fl hs_246
theorem mp_246_16 : zsf (hp F A) 246 11 16 0 (.int x) = some (hp (uF F 246 16 x) A) := m_sf hs_246 (by decide) rfl rfl
theorem mf_246_17 : zfl (hp F A) 246 11 17 = some (.int (F 246 17)) := m_fl hs_246
theorem mp_246_17 : zsf (hp F A) 246 11 17 0 (.int x) = some (hp (uF F 246 17 x) A) := m_sf hs_246 (by decide) rfl rfl
theorem mf_246_18 : zfl (hp F A) 246 11 18 = some (.int (F 246 18)) := m_fl hs_246
theorem mp_246_18 : zsf (hp F A) 246 11 18 1 (.int x) = if x = 0 ∨ x = 1 then some (hp (uF F 246 18 x) A) else none := m_sfz hs_246 (by decide) rfl rfl
theorem mf_246_19 : zfl (hp F A) 246 11 19 = some (.int (F 246 19)) := m_fl hs_246
theorem mp_246_19 : zsf (hp F A) 246 11 19 0 (.int x) = some (hp (uF F 246 19 x) A) := m_sf hs_246 (by decide) rfl rfl
theorem mf_246_20 : zfl (hp F A) 246 11 20 = some (.int (F 246 20)) := m_fl hs_246
theorem mp_246_20 : zsf (hp F A) 246 11 20 0 (.int x) = some (hp (uF F 246 20 x) A) := m_sf hs_246 (by decide) rfl rfl
theorem mf_246_21 : zfl (hp F A) 246 11 21 = some (.int (F 246 21)) := m_fl hs_246
theorem mp_246_21 : zsf (hp F A) 246 11 21 0 (.int x) = some (hp (uF F 246 21 x) A) := m_sf hs_246 (by decide) rfl rfl
theorem mf_246_22 : zfl (hp F A) 246 11 22 = some (.ref 255) := m_fl hs_246
theorem mf_246_23 : zfl (hp F A) 246 11 23 = some (.ref 256) := m_fl hs_246
theorem mf_246_24 : zfl (hp F A) 246 11 24 = some (.ref 257) := m_fl hs_246
theorem mf_246_25 : zfl (hp F A) 246 11 25 = some (.ref 258) := m_fl hs_246
theorem mf_246_26 : zfl (hp F A) 246 11 26 = some (.ref 259) := m_fl hs_246
theorem mf_246_27 : zfl (hp F A) 246 11 27 = some (.ref 260) := m_fl hs_246
theorem mf_246_28 : zfl (hp F A) 246 11 28 = some (.ref 261) := m_fl hs_246
theorem mf_246_29 : zfl (hp F A) 246 11 29 = some (.ref 262) := m_fl hs_246
theorem mf_246_30 : zfl (hp F A) 246 11 30 = some (.ref 263) := m_fl hs_246
theorem mf_246_31 : zfl (hp F A) 246 11 31 = some (.ref 264) := m_fl hs_246
theorem mf_246_32 : zfl (hp F A) 246 11 32 = some (.ref 265) := m_fl hs_246
theorem mf_246_33 : zfl (hp F A) 246 11 33 = some (.ref 266) := m_fl hs_246
theorem mf_246_34 : zfl (hp F A) 246 11 34 = some (.ref 267) := m_fl hs_246
theorem mf_246_35 : zfl (hp F A) 246 11 35 = some (.int (F 246 35)) := m_fl hs_246
theorem mp_246_35 : zsf (hp F A) 246 11 35 0 (.int x) = some (hp (uF F 246 35 x) A) := m_sf hs_246 (by decide) rfl rfl
theorem mf_246_36 : zfl (hp F A) 246 11 36 = some (.int (F 246 36)) := m_fl hs_246
theorem mp_246_36 : zsf (hp F A) 246 11 36 0 (.int x) = some (hp (uF F 246 36 x) A) := m_sf hs_246 (by decide) rfl rfl
theorem mf_246_37 : zfl (hp F A) 246 11 37 = some (.int (F 246 37)) := m_fl hs_246
theorem mp_246_37 : zsf (hp F A) 246 11 37 1 (.int x) = if x = 0 ∨ x = 1 then some (hp (uF F 246 37 x) A) else none := m_sfz hs_246 (by decide) rfl rfl
theorem hs_247 : zshape[247]? = some (0, 0, []) := by decide +kernel
theorem mg_247 : zgi E (hp F A) 247 i 0 = (zix i (A 247).length).map (fun j => gI (A 247) j) := m_gi (by decide) hs_247
theorem mw_247 : zsi (hp F A) 247 i x 0 = (zix i (A 247).length).map (fun j => hp F (uA A 247 ((A 247).set j x))) := m_si hs_247
theorem ml_247 : zln E (hp F A) 247 = some (Int32.ofNat (A 247).length) := m_ln (by decide) (by decide) hs_247
theorem hs_248 : zshape[248]? = some (0, 0, []) := by decide +kernel
theorem mg_248 : zgi E (hp F A) 248 i 0 = (zix i (A 248).length).map (fun j => gI (A 248) j) := m_gi (by decide) hs_248
theorem mw_248 : zsi (hp F A) 248 i x 0 = (zix i (A 248).length).map (fun j => hp F (uA A 248 ((A 248).set j x))) := m_si hs_248
theorem ml_248 : zln E (hp F A) 248 = some (Int32.ofNat (A 248).length) := m_ln (by decide) (by decide) hs_248
theorem hs_249 : zshape[249]? = some (0, 0, []) := by decide +kernel
theorem mg_249 : zgi E (hp F A) 249 i 0 = (zix i (A 249).length).map (fun j => gI (A 249) j) := m_gi (by decide) hs_249
theorem mw_249 : zsi (hp F A) 249 i x 0 = (zix i (A 249).length).map (fun j => hp F (uA A 249 ((A 249).set j x))) := m_si hs_249
theorem ml_249 : zln E (hp F A) 249 = some (Int32.ofNat (A 249).length) := m_ln (by decide) (by decide) hs_249
theorem hs_250 : zshape[250]? = some (0, 0, []) := by decide +kernel
theorem mg_250 : zgi E (hp F A) 250 i 0 = (zix i (A 250).length).map (fun j => gI (A 250) j) := m_gi (by decide) hs_250
theorem mw_250 : zsi (hp F A) 250 i x 0 = (zix i (A 250).length).map (fun j => hp F (uA A 250 ((A 250).set j x))) := m_si hs_250
theorem ml_250 : zln E (hp F A) 250 = some (Int32.ofNat (A 250).length) := m_ln (by decide) (by decide) hs_250
theorem hs_251 : zshape[251]? = some (0, 0, []) := by decide +kernel
theorem mg_251 : zgi E (hp F A) 251 i 0 = (zix i (A 251).length).map (fun j => gI (A 251) j) := m_gi (by decide) hs_251
theorem mw_251 : zsi (hp F A) 251 i x 0 = (zix i (A 251).length).map (fun j => hp F (uA A 251 ((A 251).set j x))) := m_si hs_251
theorem ml_251 : zln E (hp F A) 251 = some (Int32.ofNat (A 251).length) := m_ln (by decide) (by decide) hs_251
theorem hs_252 : zshape[252]? = some (0, 0, []) := by decide +kernel
theorem mg_252 : zgi E (hp F A) 252 i 0 = (zix i (A 252).length).map (fun j => gI (A 252) j) := m_gi (by decide) hs_252
theorem mw_252 : zsi (hp F A) 252 i x 0 = (zix i (A 252).length).map (fun j => hp F (uA A 252 ((A 252).set j x))) := m_si hs_252
theorem ml_252 : zln E (hp F A) 252 = some (Int32.ofNat (A 252).length) := m_ln (by decide) (by decide) hs_252
theorem hs_253 : zshape[253]? = some (0, 0, []) := by decide +kernel
theorem mg_253 : zgi E (hp F A) 253 i 0 = (zix i (A 253).length).map (fun j => gI (A 253) j) := m_gi (by decide) hs_253
theorem mw_253 : zsi (hp F A) 253 i x 0 = (zix i (A 253).length).map (fun j => hp F (uA A 253 ((A 253).set j x))) := m_si hs_253
theorem ml_253 : zln E (hp F A) 253 = some (Int32.ofNat (A 253).length) := m_ln (by decide) (by decide) hs_253
theorem hs_254 : zshape[254]? = some (0, 0, []) := by decide +kernel
theorem mg_254 : zgi E (hp F A) 254 i 0 = (zix i (A 254).length).map (fun j => gI (A 254) j) := m_gi (by decide) hs_254
theorem mw_254 : zsi (hp F A) 254 i x 0 = (zix i (A 254).length).map (fun j => hp F (uA A 254 ((A 254).set j x))) := m_si hs_254
theorem ml_254 : zln E (hp F A) 254 = some (Int32.ofNat (A 254).length) := m_ln (by decide) (by decide) hs_254
theorem hs_255 : zshape[255]? = some (0, 0, []) := by decide +kernel
theorem mg_255 : zgi E (hp F A) 255 i 0 = (zix i (A 255).length).map (fun j => gI (A 255) j) := m_gi (by decide) hs_255
theorem mw_255 : zsi (hp F A) 255 i x 0 = (zix i (A 255).length).map (fun j => hp F (uA A 255 ((A 255).set j x))) := m_si hs_255
theorem ml_255 : zln E (hp F A) 255 = some (Int32.ofNat (A 255).length) := m_ln (by decide) (by decide) hs_255
theorem hs_256 : zshape[256]? = some (0, 0, []) := by decide +kernel
theorem mg_256 : zgi E (hp F A) 256 i 0 = (zix i (A 256).length).map (fun j => gI (A 256) j) := m_gi (by decide) hs_256
theorem mw_256 : zsi (hp F A) 256 i x 0 = (zix i (A 256).length).map (fun j => hp F (uA A 256 ((A 256).set j x))) := m_si hs_256
theorem ml_256 : zln E (hp F A) 256 = some (Int32.ofNat (A 256).length) := m_ln (by decide) (by decide) hs_256
theorem hs_258 : zshape[258]? = some (0, 0, []) := by decide +kernel
theorem mg_258 : zgi E (hp F A) 258 i 0 = (zix i (A 258).length).map (fun j => gI (A 258) j) := m_gi (by decide) hs_258
theorem mw_258 : zsi (hp F A) 258 i x 0 = (zix i (A 258).length).map (fun j => hp F (uA A 258 ((A 258).set j x))) := m_si hs_258
theorem ml_258 : zln E (hp F A) 258 = some (Int32.ofNat (A 258).length) := m_ln (by decide) (by decide) hs_258
theorem hs_259 : zshape[259]? = some (0, 0, []) := by decide +kernel
theorem mg_259 : zgi E (hp F A) 259 i 0 = (zix i (A 259).length).map (fun j => gI (A 259) j) := m_gi (by decide) hs_259
theorem mw_259 : zsi (hp F A) 259 i x 0 = (zix i (A 259).length).map (fun j => hp F (uA A 259 ((A 259).set j x))) := m_si hs_259
theorem ml_259 : zln E (hp F A) 259 = some (Int32.ofNat (A 259).length) := m_ln (by decide) (by decide) hs_259
theorem hs_260 : zshape[260]? = some (0, 0, []) := by decide +kernel
theorem mg_260 : zgi E (hp F A) 260 i 0 = (zix i (A 260).length).map (fun j => gI (A 260) j) := m_gi (by decide) hs_260
theorem mw_260 : zsi (hp F A) 260 i x 0 = (zix i (A 260).length).map (fun j => hp F (uA A 260 ((A 260).set j x))) := m_si hs_260
theorem ml_260 : zln E (hp F A) 260 = some (Int32.ofNat (A 260).length) := m_ln (by decide) (by decide) hs_260
theorem hs_261 : zshape[261]? = some (0, 0, []) := by decide +kernel
theorem mg_261 : zgi E (hp F A) 261 i 0 = (zix i (A 261).length).map (fun j => gI (A 261) j) := m_gi (by decide) hs_261
theorem mw_261 : zsi (hp F A) 261 i x 0 = (zix i (A 261).length).map (fun j => hp F (uA A 261 ((A 261).set j x))) := m_si hs_261
theorem ml_261 : zln E (hp F A) 261 = some (Int32.ofNat (A 261).length) := m_ln (by decide) (by decide) hs_261
theorem hs_262 : zshape[262]? = some (0, 0, []) := by decide +kernel
theorem mg_262 : zgi E (hp F A) 262 i 0 = (zix i (A 262).length).map (fun j => gI (A 262) j) := m_gi (by decide) hs_262
theorem mw_262 : zsi (hp F A) 262 i x 0 = (zix i (A 262).length).map (fun j => hp F (uA A 262 ((A 262).set j x))) := m_si hs_262
theorem ml_262 : zln E (hp F A) 262 = some (Int32.ofNat (A 262).length) := m_ln (by decide) (by decide) hs_262
theorem hs_263 : zshape[263]? = some (0, 0, []) := by decide +kernel
theorem mg_263 : zgi E (hp F A) 263 i 0 = (zix i (A 263).length).map (fun j => gI (A 263) j) := m_gi (by decide) hs_263
theorem mw_263 : zsi (hp F A) 263 i x 0 = (zix i (A 263).length).map (fun j => hp F (uA A 263 ((A 263).set j x))) := m_si hs_263
theorem ml_263 : zln E (hp F A) 263 = some (Int32.ofNat (A 263).length) := m_ln (by decide) (by decide) hs_263
theorem hs_264 : zshape[264]? = some (0, 0, []) := by decide +kernel
theorem mg_264 : zgi E (hp F A) 264 i 0 = (zix i (A 264).length).map (fun j => gI (A 264) j) := m_gi (by decide) hs_264
theorem mw_264 : zsi (hp F A) 264 i x 0 = (zix i (A 264).length).map (fun j => hp F (uA A 264 ((A 264).set j x))) := m_si hs_264
theorem ml_264 : zln E (hp F A) 264 = some (Int32.ofNat (A 264).length) := m_ln (by decide) (by decide) hs_264
theorem hs_265 : zshape[265]? = some (0, 0, []) := by decide +kernel
theorem mg_265 : zgi E (hp F A) 265 i 0 = (zix i (A 265).length).map (fun j => gI (A 265) j) := m_gi (by decide) hs_265
theorem mw_265 : zsi (hp F A) 265 i x 0 = (zix i (A 265).length).map (fun j => hp F (uA A 265 ((A 265).set j x))) := m_si hs_265
theorem ml_265 : zln E (hp F A) 265 = some (Int32.ofNat (A 265).length) := m_ln (by decide) (by decide) hs_265
theorem hs_266 : zshape[266]? = some (0, 0, []) := by decide +kernel
theorem mg_266 : zgi E (hp F A) 266 i 0 = (zix i (A 266).length).map (fun j => gI (A 266) j) := m_gi (by decide) hs_266
theorem mw_266 : zsi (hp F A) 266 i x 0 = (zix i (A 266).length).map (fun j => hp F (uA A 266 ((A 266).set j x))) := m_si hs_266
theorem ml_266 : zln E (hp F A) 266 = some (Int32.ofNat (A 266).length) := m_ln (by decide) (by decide) hs_266
theorem hs_267 : zshape[267]? = some (0, 0, []) := by decide +kernel
theorem mg_267 : zgi E (hp F A) 267 i 0 = (zix i (A 267).length).map (fun j => gI (A 267) j) := m_gi (by decide) hs_267
theorem mw_267 : zsi (hp F A) 267 i x 0 = (zix i (A 267).length).map (fun j => hp F (uA A 267 ((A 267).set j x))) := m_si hs_267
theorem ml_267 : zln E (hp F A) 267 = some (Int32.ofNat (A 267).length) := m_ln (by decide) (by decide) hs_267
end MI
