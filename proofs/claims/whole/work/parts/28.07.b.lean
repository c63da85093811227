/-! Equations of blocks. By program. -/
section BK
variable {e : List Int32 × Value} {d : Nat} {m : zMm}
-- M.lineOf
theorem p_252_0 : zP1 252 0 = some (.aload_n 0, 0, 0, 0) := zp_l zq_252 rfl
theorem p_252_1 : zP1 252 1 = some (.iload_n 1, 0, 0, 0) := zp_l zq_252 rfl
theorem p_252_2 : zP1 252 2 = some (.iload_n 2, 0, 0, 0) := zp_l zq_252 rfl
theorem p_252_3 : zP1 252 3 = some (.iload_n 3, 0, 0, 0) := zp_l zq_252 rfl
theorem p_252_4 : zP1 252 4 = some (.invokevirtual 300, 250, 3, 11) := zp_r zq_252 rfl
theorem p_252_7 : zP1 252 7 = some (.aload_n 0, 0, 0, 0) := zp_l zq_252 rfl
theorem p_252_8 : zP1 252 8 = some (.getfield 9, 11, 0, 0) := zp_r zq_252 rfl
theorem p_252_11 : zP1 252 11 = some (.iload_n 1, 0, 0, 0) := zp_l zq_252 rfl
theorem p_252_12 : zP1 252 12 = some (.iconst 1, 0, 0, 0) := zp_l zq_252 rfl
theorem p_252_13 : zP1 252 13 = some (.invokestatic 141, 205, 2, 0) := zp_r zq_252 rfl
theorem p_252_16 : zP1 252 16 = some (.iaload, 0, 0, 0) := zp_l zq_252 rfl
theorem p_252_17 : zP1 252 17 = some (.istore 4, 0, 0, 0) := zp_l zq_252 rfl
theorem p_252_19 : zP1 252 19 = some (.iconst (-1), 0, 0, 0) := zp_l zq_252 rfl
theorem p_252_20 : zP1 252 20 = some (.istore 5, 0, 0, 0) := zp_l zq_252 rfl
theorem p_252_22 : zP1 252 22 = some (.iconst 0, 0, 0, 0) := zp_l zq_252 rfl
theorem p_252_23 : zP1 252 23 = some (.istore 6, 0, 0, 0) := zp_l zq_252 rfl
theorem p_252_25 : zP1 252 25 = some (.iload 6, 0, 0, 0) := zp_l zq_252 rfl
theorem p_252_27 : zP1 252 27 = some (.iconst 3, 0, 0, 0) := zp_l zq_252 rfl
theorem p_252_28 : zP1 252 28 = some (.if_icmp .ge 135, 0, 0, 0) := zp_l zq_252 rfl
theorem p_252_31 : zP1 252 31 = some (.aload_n 0, 0, 0, 0) := zp_l zq_252 rfl
theorem p_252_32 : zP1 252 32 = some (.iload 6, 0, 0, 0) := zp_l zq_252 rfl
theorem p_252_34 : zP1 252 34 = some (.iload_n 3, 0, 0, 0) := zp_l zq_252 rfl
theorem p_252_35 : zP1 252 35 = some (.invokevirtual 151, 220, 2, 11) := zp_r zq_252 rfl
theorem p_252_38 : zP1 252 38 = some (.istore 7, 0, 0, 0) := zp_l zq_252 rfl
theorem p_252_40 : zP1 252 40 = some (.iconst 0, 0, 0, 0) := zp_l zq_252 rfl
theorem p_252_41 : zP1 252 41 = some (.istore 8, 0, 0, 0) := zp_l zq_252 rfl
theorem p_252_43 : zP1 252 43 = some (.iload 7, 0, 0, 0) := zp_l zq_252 rfl
theorem p_252_45 : zP1 252 45 = some (.ifCond .lt 112, 0, 0, 0) := zp_l zq_252 rfl
theorem p_252_48 : zP1 252 48 = some (.iload 8, 0, 0, 0) := zp_l zq_252 rfl
theorem p_252_50 : zP1 252 50 = some (.aload_n 0, 0, 0, 0) := zp_l zq_252 rfl
theorem p_252_51 : zP1 252 51 = some (.getfield 9, 11, 0, 0) := zp_r zq_252 rfl
theorem p_252_54 : zP1 252 54 = some (.iload 7, 0, 0, 0) := zp_l zq_252 rfl
theorem p_252_56 : zP1 252 56 = some (.iconst 3, 0, 0, 0) := zp_l zq_252 rfl
theorem p_252_57 : zP1 252 57 = some (.invokestatic 144, 218, 2, 0) := zp_r zq_252 rfl
theorem p_252_60 : zP1 252 60 = some (.iaload, 0, 0, 0) := zp_l zq_252 rfl
theorem p_252_61 : zP1 252 61 = some (.if_icmp .ge 96, 0, 0, 0) := zp_l zq_252 rfl
theorem p_252_64 : zP1 252 64 = some (.aload_n 0, 0, 0, 0) := zp_l zq_252 rfl
theorem p_252_65 : zP1 252 65 = some (.getfield 9, 11, 0, 0) := zp_r zq_252 rfl
theorem p_252_68 : zP1 252 68 = some (.iload 7, 0, 0, 0) := zp_l zq_252 rfl
theorem p_252_70 : zP1 252 70 = some (.iconst 4, 0, 0, 0) := zp_l zq_252 rfl
theorem p_252_71 : zP1 252 71 = some (.iconst 4, 0, 0, 0) := zp_l zq_252 rfl
theorem p_252_72 : zP1 252 72 = some (.iload 8, 0, 0, 0) := zp_l zq_252 rfl
theorem p_252_74 : zP1 252 74 = some (.imul, 0, 0, 0) := zp_l zq_252 rfl
theorem p_252_75 : zP1 252 75 = some (.iadd, 0, 0, 0) := zp_l zq_252 rfl
theorem p_252_76 : zP1 252 76 = some (.invokestatic 144, 218, 2, 0) := zp_r zq_252 rfl
theorem p_252_79 : zP1 252 79 = some (.iaload, 0, 0, 0) := zp_l zq_252 rfl
theorem p_252_80 : zP1 252 80 = some (.iconst 5, 0, 0, 0) := zp_l zq_252 rfl
theorem p_252_81 : zP1 252 81 = some (.if_icmp .lt 36, 0, 0, 0) := zp_l zq_252 rfl
theorem p_252_84 : zP1 252 84 = some (.aload_n 0, 0, 0, 0) := zp_l zq_252 rfl
theorem p_252_85 : zP1 252 85 = some (.getfield 9, 11, 0, 0) := zp_r zq_252 rfl
theorem p_252_88 : zP1 252 88 = some (.iload 7, 0, 0, 0) := zp_l zq_252 rfl
theorem p_252_90 : zP1 252 90 = some (.iconst 4, 0, 0, 0) := zp_l zq_252 rfl
theorem p_252_91 : zP1 252 91 = some (.iconst 4, 0, 0, 0) := zp_l zq_252 rfl
theorem p_252_92 : zP1 252 92 = some (.iload 8, 0, 0, 0) := zp_l zq_252 rfl
theorem p_252_94 : zP1 252 94 = some (.imul, 0, 0, 0) := zp_l zq_252 rfl
theorem p_252_95 : zP1 252 95 = some (.iadd, 0, 0, 0) := zp_l zq_252 rfl
theorem p_252_96 : zP1 252 96 = some (.iconst 1, 0, 0, 0) := zp_l zq_252 rfl
theorem p_252_97 : zP1 252 97 = some (.iadd, 0, 0, 0) := zp_l zq_252 rfl
theorem p_252_98 : zP1 252 98 = some (.invokestatic 144, 218, 2, 0) := zp_r zq_252 rfl
theorem p_252_101 : zP1 252 101 = some (.iaload, 0, 0, 0) := zp_l zq_252 rfl
theorem p_252_102 : zP1 252 102 = some (.iconst 1, 0, 0, 0) := zp_l zq_252 rfl
theorem p_252_103 : zP1 252 103 = some (.iload 4, 0, 0, 0) := zp_l zq_252 rfl
theorem p_252_105 : zP1 252 105 = some (.ishl, 0, 0, 0) := zp_l zq_252 rfl
theorem p_252_106 : zP1 252 106 = some (.bipush 64, 0, 0, 0) := zp_l zq_252 rfl
theorem p_252_108 : zP1 252 108 = some (.ior, 0, 0, 0) := zp_l zq_252 rfl
theorem p_252_109 : zP1 252 109 = some (.iand, 0, 0, 0) := zp_l zq_252 rfl
theorem p_252_110 : zP1 252 110 = some (.ifCond .eq 7, 0, 0, 0) := zp_l zq_252 rfl
theorem p_252_113 : zP1 252 113 = some (.iconst 1, 0, 0, 0) := zp_l zq_252 rfl
theorem p_252_114 : zP1 252 114 = some (.goto 4, 0, 0, 0) := zp_l zq_252 rfl
theorem p_252_117 : zP1 252 117 = some (.iconst 0, 0, 0, 0) := zp_l zq_252 rfl
theorem p_252_118 : zP1 252 118 = some (.istore 9, 0, 0, 0) := zp_l zq_252 rfl
theorem p_252_120 : zP1 252 120 = some (.iload 9, 0, 0, 0) := zp_l zq_252 rfl
theorem p_252_122 : zP1 252 122 = some (.ifCond .eq 25, 0, 0, 0) := zp_l zq_252 rfl
theorem p_252_125 : zP1 252 125 = some (.aload_n 0, 0, 0, 0) := zp_l zq_252 rfl
theorem p_252_126 : zP1 252 126 = some (.iload 7, 0, 0, 0) := zp_l zq_252 rfl
theorem p_252_128 : zP1 252 128 = some (.iload 8, 0, 0, 0) := zp_l zq_252 rfl
theorem p_252_130 : zP1 252 130 = some (.invokevirtual 304, 251, 2, 11) := zp_r zq_252 rfl
theorem p_252_133 : zP1 252 133 = some (.ifCond .eq 14, 0, 0, 0) := zp_l zq_252 rfl
theorem p_252_136 : zP1 252 136 = some (.bipush 100, 0, 0, 0) := zp_l zq_252 rfl
theorem p_252_138 : zP1 252 138 = some (.iload 7, 0, 0, 0) := zp_l zq_252 rfl
theorem p_252_140 : zP1 252 140 = some (.imul, 0, 0, 0) := zp_l zq_252 rfl
theorem p_252_141 : zP1 252 141 = some (.iload 8, 0, 0, 0) := zp_l zq_252 rfl
theorem p_252_143 : zP1 252 143 = some (.iadd, 0, 0, 0) := zp_l zq_252 rfl
theorem p_252_144 : zP1 252 144 = some (.goto 5, 0, 0, 0) := zp_l zq_252 rfl
theorem p_252_147 : zP1 252 147 = some (.iload 5, 0, 0, 0) := zp_l zq_252 rfl
theorem p_252_149 : zP1 252 149 = some (.istore 5, 0, 0, 0) := zp_l zq_252 rfl
theorem p_252_151 : zP1 252 151 = some (.iinc 8 1, 0, 0, 0) := zp_l zq_252 rfl
theorem p_252_154 : zP1 252 154 = some (.goto (-111), 0, 0, 0) := zp_l zq_252 rfl
theorem p_252_157 : zP1 252 157 = some (.iinc 6 1, 0, 0, 0) := zp_l zq_252 rfl
theorem p_252_160 : zP1 252 160 = some (.goto (-135), 0, 0, 0) := zp_l zq_252 rfl
theorem p_252_163 : zP1 252 163 = some (.iload 5, 0, 0, 0) := zp_l zq_252 rfl
theorem p_252_165 : zP1 252 165 = some (.ireturn, 0, 0, 0) := zp_l zq_252 rfl
theorem b_252_0 {x1 : Int} {x2 : Int} {x3 : Int} : Z e (d + 1) 252 0 [.ref 246, .int (iI x1), .int (iI x2), .int (iI x3), .retAddr 0, .retAddr 0, .retAddr 0, .retAddr 0, .retAddr 0, .retAddr 0] [] m = (Z e d 250 0 [.ref 246, .int (iI x1), .int (iI x2), .int (iI x3)] [] m).bind (ZK e (d + 1) 252 7 [.ref 246, .int (iI x1), .int (iI x2), .int (iI x3), .retAddr 0, .retAddr 0, .retAddr 0, .retAddr 0, .retAddr 0, .retAddr 0] [] m) := (s_al_0 p_252_0).trans <| (s_il_1 p_252_1).trans <| (s_il_2 p_252_2).trans <| (s_il_3 p_252_3).trans <| (s_cv3 (Lc := [.ref 246, .int (iI x1), .int (iI x2), .int (iI x3)]) p_252_4 (by decide) (by decide) (zM_of zq_250) ⟨Nat.le_of_ble_eq_true rfl, Nat.le_of_ble_eq_true rfl⟩ rfl (m_rc hs_246 ⟨rfl, by decide⟩))
theorem b_252_25 {x3 : Int} {x4 : Int} {x5 : Int} {x6 : Int} {u1 u2 u7 u8 u9 : Value} : Z e (d + 1) 252 25 [.ref 246, u1, u2, .int (iI x3), .int (iI x4), .int (iI x5), .int (iI x6), u7, u8, u9] [] m = (if (wr x6) < 3 then (Z e d 220 0 [.ref 246, .int (iI x6), .int (iI x3), .retAddr 0, .retAddr 0] [] m).bind (ZK e (d + 1) 252 38 [.ref 246, u1, u2, .int (iI x3), .int (iI x4), .int (iI x5), .int (iI x6), u7, u8, u9] [] m) else ri x5 m) := (s_il_6 p_252_25).trans <| (s_const p_252_27).trans <| Eq.trans ((s_c_ge_f p_252_28 rfl rfl wl_3)) <| ite_cg ((s_al_0 p_252_31).trans <| (s_il_6 p_252_32).trans <| (s_il_3 p_252_34).trans <| (s_cv2 (Lc := [.ref 246, .int (iI x6), .int (iI x3), .retAddr 0, .retAddr 0]) p_252_35 (by decide) (by decide) (zM_of zq_220) ⟨Nat.le_of_ble_eq_true rfl, Nat.le_of_ble_eq_true rfl⟩ rfl (m_rc hs_246 ⟨rfl, by decide⟩))) ((s_il_5 p_252_163).trans <| (s_reti p_252_165 (zM_of zq_252)))
theorem b_252_43 {x3 : Int} {x4 : Int} {x5 : Int} {x6 : Int} {x7 : Int} {x8 : Int} {u1 u2 u9 : Value} : Z e (d + 1) 252 43 [.ref 246, u1, u2, .int (iI x3), .int (iI x4), .int (iI x5), .int (iI x6), .int (iI x7), .int (iI x8), u9] [] m = ck ((0 ≤ (wr x7)) → (0 ≤ (wr ((266 + (44 * x7)) + 3)) ∧ (wr ((266 + (44 * x7)) + 3)) < 2737)) (if (0 ≤ (wr x7)) ∧ ((wr x8) < (wr (m 247 (wr ((266 + (44 * x7)) + 3))))) then ck (0 ≤ (wr ((266 + (44 * x7)) + (4 + (4 * x8)))) ∧ (wr ((266 + (44 * x7)) + (4 + (4 * x8)))) < 2737) (ck ((5 ≤ (wr (m 247 (wr ((266 + (44 * x7)) + (4 + (4 * x8))))))) → (0 ≤ (wr ((266 + (44 * x7)) + ((4 + (4 * x8)) + 1))) ∧ (wr ((266 + (44 * x7)) + ((4 + (4 * x8)) + 1))) < 2737)) ((if (5 ≤ (wr (m 247 (wr ((266 + (44 * x7)) + (4 + (4 * x8))))))) ∧ (¬ (jand (m 247 (wr ((266 + (44 * x7)) + ((4 + (4 * x8)) + 1)))) (jor (jshl 1 x4) 64)) = 0) then (Z e d 251 0 [.ref 246, .int (iI x7), .int (iI x8), .retAddr 0, .retAddr 0, .retAddr 0, .retAddr 0, .retAddr 0] [] m).bind (ZK e (d + 1) 252 133 [.ref 246, u1, u2, .int (iI x3), .int (iI x4), .int (iI x5), .int (iI x6), .int (iI x7), .int (iI x8), .int (iI (if (5 ≤ (wr (m 247 (wr ((266 + (44 * x7)) + (4 + (4 * x8))))))) ∧ (¬ (jand (m 247 (wr ((266 + (44 * x7)) + ((4 + (4 * x8)) + 1)))) (jor (jshl 1 x4) 64)) = 0) then 1 else 0))] [] m) else Z e (d + 1) 252 43 [.ref 246, u1, u2, .int (iI x3), .int (iI x4), .int (iI x5), .int (iI x6), .int (iI x7), .int (iI (x8 + 1)), .int (iI (if (5 ≤ (wr (m 247 (wr ((266 + (44 * x7)) + (4 + (4 * x8))))))) ∧ (¬ (jand (m 247 (wr ((266 + (44 * x7)) + ((4 + (4 * x8)) + 1)))) (jor (jshl 1 x4) 64)) = 0) then 1 else 0))] [] m))) else Z e (d + 1) 252 25 [.ref 246, u1, u2, .int (iI x3), .int (iI x4), .int (iI x5), .int (iI (x6 + 1)), .int (iI x7), .int (iI x8), u9] [] m) := (s_il_7 p_252_43).trans <| Eq.trans (Eq.trans (s_z_lt_f p_252_45 rfl rfl) <| Eq.trans (ite_cg ((s_il_8 p_252_48).trans <| (s_al_0 p_252_50).trans <| (s_getr p_252_51 hs_246 (by decide) rfl).trans <| (s_il_7 p_252_54).trans <| (s_const p_252_56).trans <| (s_cs2 (Lc := [.int (iI x7), .int (iI 3)]) p_252_57 (by decide) (zM_of zq_218) ⟨Nat.le_of_ble_eq_true rfl, Nat.le_of_ble_eq_true rfl⟩ rfl).trans <| (bd b_218_0).trans <| ri_k.trans <| (s_ald 2737 p_252_60 hs_247 rfl (by decide)).trans <| ck_cg fun k4 => (s_c_ge_f p_252_61 rfl rfl rfl)) rfl) <| Eq.trans ck_a <| ck_cg fun _ => co_and) <| ck_cg fun _ => ite_cg ((s_al_0 p_252_64).trans <| (s_getr p_252_65 hs_246 (by decide) rfl).trans <| (s_il_7 p_252_68).trans <| (s_const p_252_70).trans <| (s_const p_252_71).trans <| (s_il_8 p_252_72).trans <| (s_imul p_252_74).trans <| (s_iadd p_252_75).trans <| (s_cs2 (Lc := [.int (iI x7), .int (iI (4 + (4 * x8)))]) p_252_76 (by decide) (zM_of zq_218) ⟨Nat.le_of_ble_eq_true rfl, Nat.le_of_ble_eq_true rfl⟩ rfl).trans <| (bd b_218_0).trans <| ri_k.trans <| (s_ald 2737 p_252_79 hs_247 rfl (by decide)).trans <| ck_cg fun k5 => (s_const p_252_80).trans <| Eq.trans (Eq.trans (Eq.trans (s_c_lt_f p_252_81 rfl rfl wl_5) <| Eq.trans (ite_cg ((s_al_0 p_252_84).trans <| (s_getr p_252_85 hs_246 (by decide) rfl).trans <| (s_il_7 p_252_88).trans <| (s_const p_252_90).trans <| (s_const p_252_91).trans <| (s_il_8 p_252_92).trans <| (s_imul p_252_94).trans <| (s_iadd p_252_95).trans <| (s_const p_252_96).trans <| (s_iadd p_252_97).trans <| (s_cs2 (Lc := [.int (iI x7), .int (iI ((4 + (4 * x8)) + 1))]) p_252_98 (by decide) (zM_of zq_218) ⟨Nat.le_of_ble_eq_true rfl, Nat.le_of_ble_eq_true rfl⟩ rfl).trans <| (bd b_218_0).trans <| ri_k.trans <| (s_ald 2737 p_252_101 hs_247 rfl (by decide)).trans <| ck_cg fun k6 => (s_const p_252_102).trans <| (s_il_4 p_252_103).trans <| (s_ishl p_252_105).trans <| (s_bip p_252_106 rfl).trans <| (s_ior p_252_108).trans <| (s_iand p_252_109).trans <| (s_z_eq_f p_252_110 rfl wr_jand)) rfl) <| Eq.trans ck_a <| ck_cg fun _ => co_and) <| ck_cg fun _ => Eq.trans (ite_cg ((s_const p_252_113).trans <| (s_goto p_252_114 rfl).trans <| rfl) ((s_const p_252_117).trans <| rfl)) (phi1 (fun z0 => Z e (d + 1) 252 118 [.ref 246, u1, u2, .int (iI x3), .int (iI x4), .int (iI x5), .int (iI x6), .int (iI x7), .int (iI x8), u9] [.int (iI z0)] m))) <| ck_cg fun _ => (s_is_9 cat_i p_252_118).trans <| (s_il_9 p_252_120).trans <| Eq.trans ((s_beq_f p_252_122 rfl)) <| ite_cg ((s_al_0 p_252_125).trans <| (s_il_7 p_252_126).trans <| (s_il_8 p_252_128).trans <| (s_cv2 (Lc := [.ref 246, .int (iI x7), .int (iI x8), .retAddr 0, .retAddr 0, .retAddr 0, .retAddr 0, .retAddr 0]) p_252_130 (by decide) (by decide) (zM_of zq_251) ⟨Nat.le_of_ble_eq_true rfl, Nat.le_of_ble_eq_true rfl⟩ rfl (m_rc hs_246 ⟨rfl, by decide⟩))) ((s_il_5 p_252_147).trans <| (s_is_5 cat_i p_252_149).trans <| (s_inc_8 cat_i p_252_151).trans <| (s_goto p_252_154 rfl).trans <| rfl)) ((s_inc_6 cat_i p_252_157).trans <| (s_goto p_252_160 rfl).trans <| rfl)
theorem b_252_7 {x1 : Int} {x3 : Int} {u2 u4 u5 u6 u7 u8 u9 : Value} : Z e (d + 1) 252 7 [.ref 246, .int (iI x1), u2, .int (iI x3), u4, u5, u6, u7, u8, u9] [] m = ck (0 ≤ (wr ((794 + (6 * x1)) + 1)) ∧ (wr ((794 + (6 * x1)) + 1)) < 2737) (Z e (d + 1) 252 25 [.ref 246, .int (iI x1), u2, .int (iI x3), .int (iI (m 247 (wr ((794 + (6 * x1)) + 1)))), .int (iI (-1)), .int (iI 0), u7, u8, u9] [] m) := (s_al_0 p_252_7).trans <| (s_getr p_252_8 hs_246 (by decide) rfl).trans <| (s_il_1 p_252_11).trans <| (s_const p_252_12).trans <| (s_cs2 (Lc := [.int (iI x1), .int (iI 1)]) p_252_13 (by decide) (zM_of zq_205) ⟨Nat.le_of_ble_eq_true rfl, Nat.le_of_ble_eq_true rfl⟩ rfl).trans <| (bd b_205_0).trans <| ri_k.trans <| (s_ald 2737 p_252_16 hs_247 rfl (by decide)).trans <| ck_cg fun k1 => (s_is_4 cat_i p_252_17).trans <| (s_const p_252_19).trans <| (s_is_5 cat_i p_252_20).trans <| (s_const p_252_22).trans <| (s_is_6 cat_i p_252_23).trans <| rfl
theorem b_252_38 {x3 : Int} {x4 : Int} {x5 : Int} {x6 : Int} {xs0 : Int} {u1 u2 u7 u8 u9 : Value} : Z e (d + 1) 252 38 [.ref 246, u1, u2, .int (iI x3), .int (iI x4), .int (iI x5), .int (iI x6), u7, u8, u9] [.int (iI xs0)] m = Z e (d + 1) 252 43 [.ref 246, u1, u2, .int (iI x3), .int (iI x4), .int (iI x5), .int (iI x6), .int (iI xs0), .int (iI 0), u9] [] m := (s_is_7 cat_i p_252_38).trans <| (s_const p_252_40).trans <| (s_is_8 cat_i p_252_41).trans <| rfl
theorem b_252_133 {x3 : Int} {x4 : Int} {x5 : Int} {x6 : Int} {x7 : Int} {x8 : Int} {xs0 : Int} {u1 u2 u9 : Value} : Z e (d + 1) 252 133 [.ref 246, u1, u2, .int (iI x3), .int (iI x4), .int (iI x5), .int (iI x6), .int (iI x7), .int (iI x8), u9] [.int (iI xs0)] m = Z e (d + 1) 252 43 [.ref 246, u1, u2, .int (iI x3), .int (iI x4), .int (iI (if ¬ (wr xs0) = 0 then ((100 * x7) + x8) else x5)), .int (iI x6), .int (iI x7), .int (iI (x8 + 1)), u9] [] m := Eq.trans (Eq.trans ((s_z_eq_f p_252_133 rfl rfl)) <| Eq.trans (ite_cg ((s_bip p_252_136 rfl).trans <| (s_il_7 p_252_138).trans <| (s_imul p_252_140).trans <| (s_il_8 p_252_141).trans <| (s_iadd p_252_143).trans <| (s_goto p_252_144 rfl).trans <| rfl) ((s_il_5 p_252_147).trans <| rfl)) (phi1 (fun z0 => Z e (d + 1) 252 149 [.ref 246, u1, u2, .int (iI x3), .int (iI x4), .int (iI x5), .int (iI x6), .int (iI x7), .int (iI x8), u9] [.int (iI z0)] m))) <| (s_is_5 cat_i p_252_149).trans <| (s_inc_8 cat_i p_252_151).trans <| (s_goto p_252_154 rfl).trans <| rfl
-- M.doesCount
theorem p_253_0 : zP1 253 0 = some (.aload_n 0, 0, 0, 0) := zp_l zq_253 rfl
theorem p_253_1 : zP1 253 1 = some (.iload_n 1, 0, 0, 0) := zp_l zq_253 rfl
theorem p_253_2 : zP1 253 2 = some (.iload_n 2, 0, 0, 0) := zp_l zq_253 rfl
theorem p_253_3 : zP1 253 3 = some (.iload_n 3, 0, 0, 0) := zp_l zq_253 rfl
theorem p_253_4 : zP1 253 4 = some (.invokevirtual 307, 252, 3, 11) := zp_r zq_253 rfl
theorem p_253_7 : zP1 253 7 = some (.istore 4, 0, 0, 0) := zp_l zq_253 rfl
theorem p_253_9 : zP1 253 9 = some (.iload 4, 0, 0, 0) := zp_l zq_253 rfl
theorem p_253_11 : zP1 253 11 = some (.ifCond .lt 29, 0, 0, 0) := zp_l zq_253 rfl
theorem p_253_14 : zP1 253 14 = some (.aload_n 0, 0, 0, 0) := zp_l zq_253 rfl
theorem p_253_15 : zP1 253 15 = some (.getfield 9, 11, 0, 0) := zp_r zq_253 rfl
theorem p_253_18 : zP1 253 18 = some (.iload 4, 0, 0, 0) := zp_l zq_253 rfl
theorem p_253_20 : zP1 253 20 = some (.bipush 100, 0, 0, 0) := zp_l zq_253 rfl
theorem p_253_22 : zP1 253 22 = some (.idiv, 0, 0, 0) := zp_l zq_253 rfl
theorem p_253_23 : zP1 253 23 = some (.iconst 4, 0, 0, 0) := zp_l zq_253 rfl
theorem p_253_24 : zP1 253 24 = some (.iconst 4, 0, 0, 0) := zp_l zq_253 rfl
theorem p_253_25 : zP1 253 25 = some (.iload 4, 0, 0, 0) := zp_l zq_253 rfl
theorem p_253_27 : zP1 253 27 = some (.bipush 100, 0, 0, 0) := zp_l zq_253 rfl
theorem p_253_29 : zP1 253 29 = some (.irem, 0, 0, 0) := zp_l zq_253 rfl
theorem p_253_30 : zP1 253 30 = some (.imul, 0, 0, 0) := zp_l zq_253 rfl
theorem p_253_31 : zP1 253 31 = some (.iadd, 0, 0, 0) := zp_l zq_253 rfl
theorem p_253_32 : zP1 253 32 = some (.invokestatic 144, 218, 2, 0) := zp_r zq_253 rfl
theorem p_253_35 : zP1 253 35 = some (.iaload, 0, 0, 0) := zp_l zq_253 rfl
theorem p_253_36 : zP1 253 36 = some (.iconst 5, 0, 0, 0) := zp_l zq_253 rfl
theorem p_253_37 : zP1 253 37 = some (.if_icmp .ne 7, 0, 0, 0) := zp_l zq_253 rfl
theorem p_253_40 : zP1 253 40 = some (.iconst 1, 0, 0, 0) := zp_l zq_253 rfl
theorem p_253_41 : zP1 253 41 = some (.goto 4, 0, 0, 0) := zp_l zq_253 rfl
theorem p_253_44 : zP1 253 44 = some (.iconst 0, 0, 0, 0) := zp_l zq_253 rfl
theorem p_253_45 : zP1 253 45 = some (.ireturn, 0, 0, 0) := zp_l zq_253 rfl
theorem b_253_0 {x1 : Int} {x2 : Int} {x3 : Int} : Z e (d + 1) 253 0 [.ref 246, .int (iI x1), .int (iI x2), .int (iI x3), .retAddr 0] [] m = (Z e d 252 0 [.ref 246, .int (iI x1), .int (iI x2), .int (iI x3), .retAddr 0, .retAddr 0, .retAddr 0, .retAddr 0, .retAddr 0, .retAddr 0] [] m).bind (ZK e (d + 1) 253 7 [.ref 246, .int (iI x1), .int (iI x2), .int (iI x3), .retAddr 0] [] m) := (s_al_0 p_253_0).trans <| (s_il_1 p_253_1).trans <| (s_il_2 p_253_2).trans <| (s_il_3 p_253_3).trans <| (s_cv3 (Lc := [.ref 246, .int (iI x1), .int (iI x2), .int (iI x3), .retAddr 0, .retAddr 0, .retAddr 0, .retAddr 0, .retAddr 0, .retAddr 0]) p_253_4 (by decide) (by decide) (zM_of zq_252) ⟨Nat.le_of_ble_eq_true rfl, Nat.le_of_ble_eq_true rfl⟩ rfl (m_rc hs_246 ⟨rfl, by decide⟩))
theorem b_253_7 {xs0 : Int} {u1 u2 u3 u4 : Value} (hu3 : u3.category = 1) : Z e (d + 1) 253 7 [.ref 246, u1, u2, u3, u4] [.int (iI xs0)] m = ck ((¬ ((wr xs0) < 0)) → (0 ≤ (wr ((266 + (44 * (jdiv xs0 100))) + (4 + (4 * (jrem xs0 100))))) ∧ (wr ((266 + (44 * (jdiv xs0 100))) + (4 + (4 * (jrem xs0 100))))) < 2737)) (ri (if ((wr xs0) < 0) ∨ ((wr (m 247 (wr ((266 + (44 * (jdiv xs0 100))) + (4 + (4 * (jrem xs0 100))))))) = 5) then 1 else 0) m) := (s_is_4 hu3 p_253_7).trans <| (s_il_4 p_253_9).trans <| Eq.trans (Eq.trans (Eq.trans (s_z_lt_t p_253_11 rfl rfl) <| Eq.trans (ite_cg rfl ((s_al_0 p_253_14).trans <| (s_getr p_253_15 hs_246 (by decide) rfl).trans <| (s_il_4 p_253_18).trans <| (s_bip p_253_20 rfl).trans <| (s_idivc p_253_22 (by decide)).trans <| (s_const p_253_23).trans <| (s_const p_253_24).trans <| (s_il_4 p_253_25).trans <| (s_bip p_253_27 rfl).trans <| (s_iremc p_253_29 (by decide)).trans <| (s_imul p_253_30).trans <| (s_iadd p_253_31).trans <| (s_cs2 (Lc := [.int (iI (jdiv xs0 100)), .int (iI (4 + (4 * (jrem xs0 100))))]) p_253_32 (by decide) (zM_of zq_218) ⟨Nat.le_of_ble_eq_true rfl, Nat.le_of_ble_eq_true rfl⟩ rfl).trans <| (bd b_218_0).trans <| ri_k.trans <| (s_ald 2737 p_253_35 hs_247 rfl (by decide)).trans <| ck_cg fun k1 => (s_const p_253_36).trans <| (s_c_ne_f p_253_37 rfl rfl wl_5))) <| Eq.trans ck_b <| ck_cg fun _ => co_or) <| ck_cg fun _ => Eq.trans (ite_cg ((s_const p_253_40).trans <| (s_goto p_253_41 rfl).trans <| rfl) ((s_const p_253_44).trans <| rfl)) (phi1 (fun z0 => Z e (d + 1) 253 45 [.ref 246, u1, u2, u3, .int (iI xs0)] [.int (iI z0)] m))) <| ck_cg fun _ => (s_retb p_253_45 (zM_of zq_253))
-- M.isAsked
theorem p_254_0 : zP1 254 0 = some (.iload_n 1, 0, 0, 0) := zp_l zq_254 rfl
theorem p_254_1 : zP1 254 1 = some (.iconst 0, 0, 0, 0) := zp_l zq_254 rfl
theorem p_254_2 : zP1 254 2 = some (.aload_n 0, 0, 0, 0) := zp_l zq_254 rfl
theorem p_254_3 : zP1 254 3 = some (.getfield 9, 11, 0, 0) := zp_r zq_254 rfl
theorem p_254_6 : zP1 254 6 = some (.iconst 4, 0, 0, 0) := zp_l zq_254 rfl
theorem p_254_7 : zP1 254 7 = some (.iaload, 0, 0, 0) := zp_l zq_254 rfl
theorem p_254_8 : zP1 254 8 = some (.iconst 1, 0, 0, 0) := zp_l zq_254 rfl
theorem p_254_9 : zP1 254 9 = some (.isub, 0, 0, 0) := zp_l zq_254 rfl
theorem p_254_10 : zP1 254 10 = some (.invokestatic 100, 199, 3, 0) := zp_r zq_254 rfl
theorem p_254_13 : zP1 254 13 = some (.ifCond .eq 35, 0, 0, 0) := zp_l zq_254 rfl
theorem p_254_16 : zP1 254 16 = some (.iload_n 2, 0, 0, 0) := zp_l zq_254 rfl
theorem p_254_17 : zP1 254 17 = some (.invokestatic 110, 200, 1, 0) := zp_r zq_254 rfl
theorem p_254_20 : zP1 254 20 = some (.ifCond .eq 28, 0, 0, 0) := zp_l zq_254 rfl
theorem p_254_23 : zP1 254 23 = some (.iload_n 3, 0, 0, 0) := zp_l zq_254 rfl
theorem p_254_24 : zP1 254 24 = some (.invokestatic 154, 201, 1, 0) := zp_r zq_254 rfl
theorem p_254_27 : zP1 254 27 = some (.ifCond .eq 21, 0, 0, 0) := zp_l zq_254 rfl
theorem p_254_30 : zP1 254 30 = some (.iload_n 3, 0, 0, 0) := zp_l zq_254 rfl
theorem p_254_31 : zP1 254 31 = some (.aload_n 0, 0, 0, 0) := zp_l zq_254 rfl
theorem p_254_32 : zP1 254 32 = some (.getfield 9, 11, 0, 0) := zp_r zq_254 rfl
theorem p_254_35 : zP1 254 35 = some (.iload_n 1, 0, 0, 0) := zp_l zq_254 rfl
theorem p_254_36 : zP1 254 36 = some (.iconst 3, 0, 0, 0) := zp_l zq_254 rfl
theorem p_254_37 : zP1 254 37 = some (.invokestatic 141, 205, 2, 0) := zp_r zq_254 rfl
theorem p_254_40 : zP1 254 40 = some (.iaload, 0, 0, 0) := zp_l zq_254 rfl
theorem p_254_41 : zP1 254 41 = some (.if_icmp .lt 7, 0, 0, 0) := zp_l zq_254 rfl
theorem p_254_44 : zP1 254 44 = some (.iconst 1, 0, 0, 0) := zp_l zq_254 rfl
theorem p_254_45 : zP1 254 45 = some (.goto 4, 0, 0, 0) := zp_l zq_254 rfl
theorem p_254_48 : zP1 254 48 = some (.iconst 0, 0, 0, 0) := zp_l zq_254 rfl
theorem p_254_49 : zP1 254 49 = some (.ireturn, 0, 0, 0) := zp_l zq_254 rfl
theorem b_254_0 {x1 : Int} {x2 : Int} {x3 : Int} : Z e (d + 2) 254 0 [.ref 246, .int (iI x1), .int (iI x2), .int (iI x3)] [] m = ck ((((wr 0) ≤ (wr x1)) ∧ ((wr x1) ≤ (wr ((m 247 4) - 1)))) → ((((wr 0) ≤ (wr x2)) ∧ ((wr x2) ≤ (wr 99))) → ((((wr 0) ≤ (wr x3)) ∧ ((wr x3) ≤ (wr 9999))) → (0 ≤ (wr ((794 + (6 * x1)) + 3)) ∧ (wr ((794 + (6 * x1)) + 3)) < 2737)))) (ri (if (((wr 0) ≤ (wr x1)) ∧ ((wr x1) ≤ (wr ((m 247 4) - 1)))) ∧ ((((wr 0) ≤ (wr x2)) ∧ ((wr x2) ≤ (wr 99))) ∧ ((((wr 0) ≤ (wr x3)) ∧ ((wr x3) ≤ (wr 9999))) ∧ ((wr (m 247 (wr ((794 + (6 * x1)) + 3)))) ≤ (wr x3)))) then 1 else 0) m) := (s_il_1 p_254_0).trans <| (s_const p_254_1).trans <| (s_al_0 p_254_2).trans <| (s_getr p_254_3 hs_246 (by decide) rfl).trans <| (s_const p_254_6).trans <| (s_aldc p_254_7 hs_247 (by decide) wl_4 (by decide)).trans <| (s_const p_254_8).trans <| (s_isub p_254_9).trans <| (s_cs3 (Lc := [.int (iI x1), .int (iI 0), .int (iI ((m 247 4) - 1))]) p_254_10 (by decide) (zM_of zq_199) ⟨Nat.le_of_ble_eq_true rfl, Nat.le_of_ble_eq_true rfl⟩ rfl).trans <| (bd b_199_0).trans <| ri_k.trans <| Eq.trans (Eq.trans (Eq.trans (s_beq_f p_254_13 rfl) <| Eq.trans (ite_cg ((s_il_2 p_254_16).trans <| (s_cs1 (Lc := [.int (iI x2)]) p_254_17 (by decide) (zM_of zq_200) ⟨Nat.le_of_ble_eq_true rfl, Nat.le_of_ble_eq_true rfl⟩ rfl).trans <| (bd b_200_0).trans <| ri_k.trans <| Eq.trans (s_beq_f p_254_20 rfl) <| Eq.trans (ite_cg ((s_il_3 p_254_23).trans <| (s_cs1 (Lc := [.int (iI x3)]) p_254_24 (by decide) (zM_of zq_201) ⟨Nat.le_of_ble_eq_true rfl, Nat.le_of_ble_eq_true rfl⟩ rfl).trans <| (bd b_201_0).trans <| ri_k.trans <| Eq.trans (s_beq_f p_254_27 rfl) <| Eq.trans (ite_cg ((s_il_3 p_254_30).trans <| (s_al_0 p_254_31).trans <| (s_getr p_254_32 hs_246 (by decide) rfl).trans <| (s_il_1 p_254_35).trans <| (s_const p_254_36).trans <| (s_cs2 (Lc := [.int (iI x1), .int (iI 3)]) p_254_37 (by decide) (zM_of zq_205) ⟨Nat.le_of_ble_eq_true rfl, Nat.le_of_ble_eq_true rfl⟩ rfl).trans <| (bd b_205_0).trans <| ri_k.trans <| (s_ald 2737 p_254_40 hs_247 rfl (by decide)).trans <| ck_cg fun k1 => (s_c_lt_f p_254_41 rfl rfl rfl)) rfl) <| Eq.trans ck_a <| ck_cg fun _ => co_and) rfl) <| Eq.trans ck_a <| ck_cg fun _ => co_and) rfl) <| Eq.trans ck_a <| ck_cg fun _ => co_and) <| ck_cg fun _ => Eq.trans (ite_cg ((s_const p_254_44).trans <| (s_goto p_254_45 rfl).trans <| rfl) ((s_const p_254_48).trans <| rfl)) (phi1 (fun z0 => Z e (d + 2) 254 49 [.ref 246, .int (iI x1), .int (iI x2), .int (iI x3)] [.int (iI z0)] m))) <| ck_cg fun _ => (s_retb p_254_49 (zM_of zq_254))
-- M.counts
theorem p_255_0 : zP1 255 0 = some (.aload_n 0, 0, 0, 0) := zp_l zq_255 rfl
theorem p_255_1 : zP1 255 1 = some (.iload_n 1, 0, 0, 0) := zp_l zq_255 rfl
theorem p_255_2 : zP1 255 2 = some (.iload_n 2, 0, 0, 0) := zp_l zq_255 rfl
theorem p_255_3 : zP1 255 3 = some (.iload_n 3, 0, 0, 0) := zp_l zq_255 rfl
theorem p_255_4 : zP1 255 4 = some (.invokevirtual 311, 254, 3, 11) := zp_r zq_255 rfl
theorem p_255_7 : zP1 255 7 = some (.ifCond .ne 7, 0, 0, 0) := zp_l zq_255 rfl
theorem p_255_10 : zP1 255 10 = some (.iconst (-1), 0, 0, 0) := zp_l zq_255 rfl
theorem p_255_11 : zP1 255 11 = some (.goto 18, 0, 0, 0) := zp_l zq_255 rfl
theorem p_255_14 : zP1 255 14 = some (.aload_n 0, 0, 0, 0) := zp_l zq_255 rfl
theorem p_255_15 : zP1 255 15 = some (.iload_n 1, 0, 0, 0) := zp_l zq_255 rfl
theorem p_255_16 : zP1 255 16 = some (.iload_n 2, 0, 0, 0) := zp_l zq_255 rfl
theorem p_255_17 : zP1 255 17 = some (.iload_n 3, 0, 0, 0) := zp_l zq_255 rfl
theorem p_255_18 : zP1 255 18 = some (.invokevirtual 314, 253, 3, 11) := zp_r zq_255 rfl
theorem p_255_21 : zP1 255 21 = some (.ifCond .eq 7, 0, 0, 0) := zp_l zq_255 rfl
theorem p_255_24 : zP1 255 24 = some (.iconst 1, 0, 0, 0) := zp_l zq_255 rfl
theorem p_255_25 : zP1 255 25 = some (.goto 4, 0, 0, 0) := zp_l zq_255 rfl
theorem p_255_28 : zP1 255 28 = some (.iconst 0, 0, 0, 0) := zp_l zq_255 rfl
theorem p_255_29 : zP1 255 29 = some (.ireturn, 0, 0, 0) := zp_l zq_255 rfl
theorem b_255_0 {x1 : Int} {x2 : Int} {x3 : Int} : Z e (d + 3) 255 0 [.ref 246, .int (iI x1), .int (iI x2), .int (iI x3)] [] m = ck ((((wr 0) ≤ (wr x1)) ∧ ((wr x1) ≤ (wr ((m 247 4) - 1)))) → ((((wr 0) ≤ (wr x2)) ∧ ((wr x2) ≤ (wr 99))) → ((((wr 0) ≤ (wr x3)) ∧ ((wr x3) ≤ (wr 9999))) → (0 ≤ (wr ((794 + (6 * x1)) + 3)) ∧ (wr ((794 + (6 * x1)) + 3)) < 2737)))) ((if ¬ ((((wr 0) ≤ (wr x1)) ∧ ((wr x1) ≤ (wr ((m 247 4) - 1)))) ∧ ((((wr 0) ≤ (wr x2)) ∧ ((wr x2) ≤ (wr 99))) ∧ ((((wr 0) ≤ (wr x3)) ∧ ((wr x3) ≤ (wr 9999))) ∧ ((wr (m 247 (wr ((794 + (6 * x1)) + 3)))) ≤ (wr x3))))) then ri (-1) m else (Z e (d + 2) 253 0 [.ref 246, .int (iI x1), .int (iI x2), .int (iI x3), .retAddr 0] [] m).bind (ZK e (d + 3) 255 21 [.ref 246, .int (iI x1), .int (iI x2), .int (iI x3)] [] m))) := (s_al_0 p_255_0).trans <| (s_il_1 p_255_1).trans <| (s_il_2 p_255_2).trans <| (s_il_3 p_255_3).trans <| (s_cv3 (Lc := [.ref 246, .int (iI x1), .int (iI x2), .int (iI x3)]) p_255_4 (by decide) (by decide) (zM_of zq_254) ⟨Nat.le_of_ble_eq_true rfl, Nat.le_of_ble_eq_true rfl⟩ rfl (m_rc hs_246 ⟨rfl, by decide⟩)).trans <| (bd b_254_0).trans <| ck_bind.trans <| ck_cg fun _ => ri_k.trans <| Eq.trans ((s_bne_f p_255_7 rfl)) <| ite_cg ((s_const p_255_10).trans <| (s_goto p_255_11 rfl).trans <| (s_reti p_255_29 (zM_of zq_255))) ((s_al_0 p_255_14).trans <| (s_il_1 p_255_15).trans <| (s_il_2 p_255_16).trans <| (s_il_3 p_255_17).trans <| (s_cv3 (Lc := [.ref 246, .int (iI x1), .int (iI x2), .int (iI x3), .retAddr 0]) p_255_18 (by decide) (by decide) (zM_of zq_253) ⟨Nat.le_of_ble_eq_true rfl, Nat.le_of_ble_eq_true rfl⟩ rfl (m_rc hs_246 ⟨rfl, by decide⟩)))
theorem b_255_21 {xs0 : Int} {u0 u1 u2 u3 : Value} : Z e (d + 3) 255 21 [u0, u1, u2, u3] [.int (iI xs0)] m = ri (if ¬ (wr xs0) = 0 then 1 else 0) m := Eq.trans (Eq.trans ((s_z_eq_f p_255_21 rfl rfl)) <| Eq.trans (ite_cg ((s_const p_255_24).trans <| (s_goto p_255_25 rfl).trans <| rfl) ((s_const p_255_28).trans <| rfl)) (phi1 (fun z0 => Z e (d + 3) 255 29 [u0, u1, u2, u3] [.int (iI z0)] m))) <| (s_reti p_255_29 (zM_of zq_255))
-- M.line
theorem p_256_0 : zP1 256 0 = some (.aload_n 0, 0, 0, 0) := zp_l zq_256 rfl
theorem p_256_1 : zP1 256 1 = some (.iload_n 1, 0, 0, 0) := zp_l zq_256 rfl
theorem p_256_2 : zP1 256 2 = some (.iload_n 2, 0, 0, 0) := zp_l zq_256 rfl
theorem p_256_3 : zP1 256 3 = some (.iload_n 3, 0, 0, 0) := zp_l zq_256 rfl
theorem p_256_4 : zP1 256 4 = some (.invokevirtual 311, 254, 3, 11) := zp_r zq_256 rfl
theorem p_256_7 : zP1 256 7 = some (.ifCond .ne 5, 0, 0, 0) := zp_l zq_256 rfl
theorem p_256_10 : zP1 256 10 = some (.iconst (-1), 0, 0, 0) := zp_l zq_256 rfl
theorem p_256_11 : zP1 256 11 = some (.ireturn, 0, 0, 0) := zp_l zq_256 rfl
theorem p_256_12 : zP1 256 12 = some (.aload_n 0, 0, 0, 0) := zp_l zq_256 rfl
theorem p_256_13 : zP1 256 13 = some (.iload_n 1, 0, 0, 0) := zp_l zq_256 rfl
theorem p_256_14 : zP1 256 14 = some (.iload_n 2, 0, 0, 0) := zp_l zq_256 rfl
theorem p_256_15 : zP1 256 15 = some (.iload_n 3, 0, 0, 0) := zp_l zq_256 rfl
theorem p_256_16 : zP1 256 16 = some (.invokevirtual 307, 252, 3, 11) := zp_r zq_256 rfl
theorem p_256_19 : zP1 256 19 = some (.istore 4, 0, 0, 0) := zp_l zq_256 rfl
theorem p_256_21 : zP1 256 21 = some (.iload 4, 0, 0, 0) := zp_l zq_256 rfl
theorem p_256_23 : zP1 256 23 = some (.ifCond .ge 8, 0, 0, 0) := zp_l zq_256 rfl
theorem p_256_26 : zP1 256 26 = some (.bipush (-3), 0, 0, 0) := zp_l zq_256 rfl
theorem p_256_28 : zP1 256 28 = some (.goto 5, 0, 0, 0) := zp_l zq_256 rfl
theorem p_256_31 : zP1 256 31 = some (.iload 4, 0, 0, 0) := zp_l zq_256 rfl
theorem p_256_33 : zP1 256 33 = some (.ireturn, 0, 0, 0) := zp_l zq_256 rfl
theorem b_256_0 {x1 : Int} {x2 : Int} {x3 : Int} : Z e (d + 3) 256 0 [.ref 246, .int (iI x1), .int (iI x2), .int (iI x3), .retAddr 0] [] m = ck ((((wr 0) ≤ (wr x1)) ∧ ((wr x1) ≤ (wr ((m 247 4) - 1)))) → ((((wr 0) ≤ (wr x2)) ∧ ((wr x2) ≤ (wr 99))) → ((((wr 0) ≤ (wr x3)) ∧ ((wr x3) ≤ (wr 9999))) → (0 ≤ (wr ((794 + (6 * x1)) + 3)) ∧ (wr ((794 + (6 * x1)) + 3)) < 2737)))) ((if ¬ ((((wr 0) ≤ (wr x1)) ∧ ((wr x1) ≤ (wr ((m 247 4) - 1)))) ∧ ((((wr 0) ≤ (wr x2)) ∧ ((wr x2) ≤ (wr 99))) ∧ ((((wr 0) ≤ (wr x3)) ∧ ((wr x3) ≤ (wr 9999))) ∧ ((wr (m 247 (wr ((794 + (6 * x1)) + 3)))) ≤ (wr x3))))) then ri (-1) m else (Z e (d + 2) 252 0 [.ref 246, .int (iI x1), .int (iI x2), .int (iI x3), .retAddr 0, .retAddr 0, .retAddr 0, .retAddr 0, .retAddr 0, .retAddr 0] [] m).bind (ZK e (d + 3) 256 19 [.ref 246, .int (iI x1), .int (iI x2), .int (iI x3), .retAddr 0] [] m))) := (s_al_0 p_256_0).trans <| (s_il_1 p_256_1).trans <| (s_il_2 p_256_2).trans <| (s_il_3 p_256_3).trans <| (s_cv3 (Lc := [.ref 246, .int (iI x1), .int (iI x2), .int (iI x3)]) p_256_4 (by decide) (by decide) (zM_of zq_254) ⟨Nat.le_of_ble_eq_true rfl, Nat.le_of_ble_eq_true rfl⟩ rfl (m_rc hs_246 ⟨rfl, by decide⟩)).trans <| (bd b_254_0).trans <| ck_bind.trans <| ck_cg fun _ => ri_k.trans <| Eq.trans ((s_bne_f p_256_7 rfl)) <| ite_cg ((s_const p_256_10).trans <| (s_reti p_256_11 (zM_of zq_256))) ((s_al_0 p_256_12).trans <| (s_il_1 p_256_13).trans <| (s_il_2 p_256_14).trans <| (s_il_3 p_256_15).trans <| (s_cv3 (Lc := [.ref 246, .int (iI x1), .int (iI x2), .int (iI x3), .retAddr 0, .retAddr 0, .retAddr 0, .retAddr 0, .retAddr 0, .retAddr 0]) p_256_16 (by decide) (by decide) (zM_of zq_252) ⟨Nat.le_of_ble_eq_true rfl, Nat.le_of_ble_eq_true rfl⟩ rfl (m_rc hs_246 ⟨rfl, by decide⟩)))
theorem b_256_19 {xs0 : Int} {u0 u1 u2 u3 u4 : Value} (hu3 : u3.category = 1) : Z e (d + 3) 256 19 [u0, u1, u2, u3, u4] [.int (iI xs0)] m = ri (if (wr xs0) < 0 then (-3) else xs0) m := (s_is_4 hu3 p_256_19).trans <| (s_il_4 p_256_21).trans <| Eq.trans (Eq.trans ((s_z_ge_f p_256_23 rfl rfl)) <| Eq.trans (ite_cg ((s_bip p_256_26 rfl).trans <| (s_goto p_256_28 rfl).trans <| rfl) ((s_il_4 p_256_31).trans <| rfl)) (phi1 (fun z0 => Z e (d + 3) 256 33 [u0, u1, u2, u3, .int (iI xs0)] [.int (iI z0)] m))) <| (s_reti p_256_33 (zM_of zq_256))
-- M.whyNot
theorem p_257_0 : zP1 257 0 = some (.iconst 0, 0, 0, 0) := zp_l zq_257 rfl
theorem p_257_1 : zP1 257 1 = some (.istore 5, 0, 0, 0) := zp_l zq_257 rfl
theorem p_257_3 : zP1 257 3 = some (.iload 5, 0, 0, 0) := zp_l zq_257 rfl
theorem p_257_5 : zP1 257 5 = some (.aload_n 0, 0, 0, 0) := zp_l zq_257 rfl
theorem p_257_6 : zP1 257 6 = some (.getfield 9, 11, 0, 0) := zp_r zq_257 rfl
theorem p_257_9 : zP1 257 9 = some (.iconst 4, 0, 0, 0) := zp_l zq_257 rfl
theorem p_257_10 : zP1 257 10 = some (.iaload, 0, 0, 0) := zp_l zq_257 rfl
theorem p_257_11 : zP1 257 11 = some (.if_icmp .ge 81, 0, 0, 0) := zp_l zq_257 rfl
theorem p_257_14 : zP1 257 14 = some (.aload_n 0, 0, 0, 0) := zp_l zq_257 rfl
theorem p_257_15 : zP1 257 15 = some (.getfield 9, 11, 0, 0) := zp_r zq_257 rfl
theorem p_257_18 : zP1 257 18 = some (.iload 5, 0, 0, 0) := zp_l zq_257 rfl
theorem p_257_20 : zP1 257 20 = some (.iconst 0, 0, 0, 0) := zp_l zq_257 rfl
theorem p_257_21 : zP1 257 21 = some (.invokestatic 141, 205, 2, 0) := zp_r zq_257 rfl
theorem p_257_24 : zP1 257 24 = some (.iaload, 0, 0, 0) := zp_l zq_257 rfl
theorem p_257_25 : zP1 257 25 = some (.iload_n 1, 0, 0, 0) := zp_l zq_257 rfl
theorem p_257_26 : zP1 257 26 = some (.if_icmp .ne 38, 0, 0, 0) := zp_l zq_257 rfl
theorem p_257_29 : zP1 257 29 = some (.aload_n 0, 0, 0, 0) := zp_l zq_257 rfl
theorem p_257_30 : zP1 257 30 = some (.getfield 9, 11, 0, 0) := zp_r zq_257 rfl
theorem p_257_33 : zP1 257 33 = some (.iload 5, 0, 0, 0) := zp_l zq_257 rfl
theorem p_257_35 : zP1 257 35 = some (.iconst 3, 0, 0, 0) := zp_l zq_257 rfl
theorem p_257_36 : zP1 257 36 = some (.invokestatic 141, 205, 2, 0) := zp_r zq_257 rfl
theorem p_257_39 : zP1 257 39 = some (.iaload, 0, 0, 0) := zp_l zq_257 rfl
theorem p_257_40 : zP1 257 40 = some (.iload_n 3, 0, 0, 0) := zp_l zq_257 rfl
theorem p_257_41 : zP1 257 41 = some (.if_icmp .gt 23, 0, 0, 0) := zp_l zq_257 rfl
theorem p_257_44 : zP1 257 44 = some (.aload_n 0, 0, 0, 0) := zp_l zq_257 rfl
theorem p_257_45 : zP1 257 45 = some (.getfield 9, 11, 0, 0) := zp_r zq_257 rfl
theorem p_257_48 : zP1 257 48 = some (.iload 5, 0, 0, 0) := zp_l zq_257 rfl
theorem p_257_50 : zP1 257 50 = some (.iconst 5, 0, 0, 0) := zp_l zq_257 rfl
theorem p_257_51 : zP1 257 51 = some (.invokestatic 141, 205, 2, 0) := zp_r zq_257 rfl
theorem p_257_54 : zP1 257 54 = some (.iaload, 0, 0, 0) := zp_l zq_257 rfl
theorem p_257_55 : zP1 257 55 = some (.iload 4, 0, 0, 0) := zp_l zq_257 rfl
theorem p_257_57 : zP1 257 57 = some (.if_icmp .gt 7, 0, 0, 0) := zp_l zq_257 rfl
theorem p_257_60 : zP1 257 60 = some (.iconst 1, 0, 0, 0) := zp_l zq_257 rfl
theorem p_257_61 : zP1 257 61 = some (.goto 4, 0, 0, 0) := zp_l zq_257 rfl
theorem p_257_64 : zP1 257 64 = some (.iconst 0, 0, 0, 0) := zp_l zq_257 rfl
theorem p_257_65 : zP1 257 65 = some (.istore 6, 0, 0, 0) := zp_l zq_257 rfl
theorem p_257_67 : zP1 257 67 = some (.iload 6, 0, 0, 0) := zp_l zq_257 rfl
theorem p_257_69 : zP1 257 69 = some (.ifCond .eq 17, 0, 0, 0) := zp_l zq_257 rfl
theorem p_257_72 : zP1 257 72 = some (.aload_n 0, 0, 0, 0) := zp_l zq_257 rfl
theorem p_257_73 : zP1 257 73 = some (.iload 5, 0, 0, 0) := zp_l zq_257 rfl
theorem p_257_75 : zP1 257 75 = some (.iload_n 2, 0, 0, 0) := zp_l zq_257 rfl
theorem p_257_76 : zP1 257 76 = some (.iload_n 3, 0, 0, 0) := zp_l zq_257 rfl
theorem p_257_77 : zP1 257 77 = some (.invokevirtual 314, 253, 3, 11) := zp_r zq_257 rfl
theorem p_257_80 : zP1 257 80 = some (.ifCond .ne 6, 0, 0, 0) := zp_l zq_257 rfl
theorem p_257_83 : zP1 257 83 = some (.iload 5, 0, 0, 0) := zp_l zq_257 rfl
theorem p_257_85 : zP1 257 85 = some (.ireturn, 0, 0, 0) := zp_l zq_257 rfl
theorem p_257_86 : zP1 257 86 = some (.iinc 5 1, 0, 0, 0) := zp_l zq_257 rfl
theorem p_257_89 : zP1 257 89 = some (.goto (-86), 0, 0, 0) := zp_l zq_257 rfl
theorem p_257_92 : zP1 257 92 = some (.aload_n 0, 0, 0, 0) := zp_l zq_257 rfl
theorem p_257_93 : zP1 257 93 = some (.iload_n 2, 0, 0, 0) := zp_l zq_257 rfl
theorem p_257_94 : zP1 257 94 = some (.iload_n 3, 0, 0, 0) := zp_l zq_257 rfl
theorem p_257_95 : zP1 257 95 = some (.invokevirtual 169, 225, 2, 11) := zp_r zq_257 rfl
theorem p_257_98 : zP1 257 98 = some (.ifCond .le 8, 0, 0, 0) := zp_l zq_257 rfl
theorem p_257_101 : zP1 257 101 = some (.bipush (-3), 0, 0, 0) := zp_l zq_257 rfl
theorem p_257_103 : zP1 257 103 = some (.goto 5, 0, 0, 0) := zp_l zq_257 rfl
theorem p_257_106 : zP1 257 106 = some (.bipush (-9), 0, 0, 0) := zp_l zq_257 rfl
theorem p_257_108 : zP1 257 108 = some (.ireturn, 0, 0, 0) := zp_l zq_257 rfl
theorem b_257_0 {x1 : Int} {x2 : Int} {x3 : Int} {x4 : Int} : Z e (d + 1) 257 0 [.ref 246, .int (iI x1), .int (iI x2), .int (iI x3), .int (iI x4), .retAddr 0, .retAddr 0] [] m = Z e (d + 1) 257 3 [.ref 246, .int (iI x1), .int (iI x2), .int (iI x3), .int (iI x4), .int (iI 0), .retAddr 0] [] m := (s_const p_257_0).trans <| (s_is_5 cat_i p_257_1).trans <| rfl
theorem b_257_3 {x1 : Int} {x2 : Int} {x3 : Int} {x4 : Int} {x5 : Int} {u6 : Value} : Z e (d + 1) 257 3 [.ref 246, .int (iI x1), .int (iI x2), .int (iI x3), .int (iI x4), .int (iI x5), u6] [] m = (if (wr x5) < (wr (m 247 4)) then ck (0 ≤ (wr ((794 + (6 * x5)) + 0)) ∧ (wr ((794 + (6 * x5)) + 0)) < 2737) (ck (((wr (m 247 (wr ((794 + (6 * x5)) + 0)))) = (wr x1)) → ((0 ≤ (wr ((794 + (6 * x5)) + 3)) ∧ (wr ((794 + (6 * x5)) + 3)) < 2737) ∧ (((wr (m 247 (wr ((794 + (6 * x5)) + 3)))) ≤ (wr x3)) → (0 ≤ (wr ((794 + (6 * x5)) + 5)) ∧ (wr ((794 + (6 * x5)) + 5)) < 2737)))) ((if ((wr (m 247 (wr ((794 + (6 * x5)) + 0)))) = (wr x1)) ∧ (((wr (m 247 (wr ((794 + (6 * x5)) + 3)))) ≤ (wr x3)) ∧ ((wr (m 247 (wr ((794 + (6 * x5)) + 5)))) ≤ (wr x4))) then (Z e d 253 0 [.ref 246, .int (iI x5), .int (iI x2), .int (iI x3), .retAddr 0] [] m).bind (ZK e (d + 1) 257 80 [.ref 246, .int (iI x1), .int (iI x2), .int (iI x3), .int (iI x4), .int (iI x5), .int (iI (if ((wr (m 247 (wr ((794 + (6 * x5)) + 0)))) = (wr x1)) ∧ (((wr (m 247 (wr ((794 + (6 * x5)) + 3)))) ≤ (wr x3)) ∧ ((wr (m 247 (wr ((794 + (6 * x5)) + 5)))) ≤ (wr x4))) then 1 else 0))] [] m) else Z e (d + 1) 257 3 [.ref 246, .int (iI x1), .int (iI x2), .int (iI x3), .int (iI x4), .int (iI (x5 + 1)), .int (iI (if ((wr (m 247 (wr ((794 + (6 * x5)) + 0)))) = (wr x1)) ∧ (((wr (m 247 (wr ((794 + (6 * x5)) + 3)))) ≤ (wr x3)) ∧ ((wr (m 247 (wr ((794 + (6 * x5)) + 5)))) ≤ (wr x4))) then 1 else 0))] [] m))) else (Z e d 225 0 [.ref 246, .int (iI x2), .int (iI x3), .retAddr 0, .retAddr 0, .retAddr 0] [] m).bind (ZK e (d + 1) 257 98 [.ref 246, .int (iI x1), .int (iI x2), .int (iI x3), .int (iI x4), .int (iI x5), u6] [] m)) := (s_il_5 p_257_3).trans <| (s_al_0 p_257_5).trans <| (s_getr p_257_6 hs_246 (by decide) rfl).trans <| (s_const p_257_9).trans <| (s_aldc p_257_10 hs_247 (by decide) wl_4 (by decide)).trans <| Eq.trans ((s_c_ge_f p_257_11 rfl rfl rfl)) <| ite_cg ((s_al_0 p_257_14).trans <| (s_getr p_257_15 hs_246 (by decide) rfl).trans <| (s_il_5 p_257_18).trans <| (s_const p_257_20).trans <| (s_cs2 (Lc := [.int (iI x5), .int (iI 0)]) p_257_21 (by decide) (zM_of zq_205) ⟨Nat.le_of_ble_eq_true rfl, Nat.le_of_ble_eq_true rfl⟩ rfl).trans <| (bd b_205_0).trans <| ri_k.trans <| (s_ald 2737 p_257_24 hs_247 rfl (by decide)).trans <| ck_cg fun k1 => (s_il_1 p_257_25).trans <| Eq.trans (Eq.trans (Eq.trans (s_c_ne_f p_257_26 rfl rfl rfl) <| Eq.trans (ite_cg ((s_al_0 p_257_29).trans <| (s_getr p_257_30 hs_246 (by decide) rfl).trans <| (s_il_5 p_257_33).trans <| (s_const p_257_35).trans <| (s_cs2 (Lc := [.int (iI x5), .int (iI 3)]) p_257_36 (by decide) (zM_of zq_205) ⟨Nat.le_of_ble_eq_true rfl, Nat.le_of_ble_eq_true rfl⟩ rfl).trans <| (bd b_205_0).trans <| ri_k.trans <| (s_ald 2737 p_257_39 hs_247 rfl (by decide)).trans <| Eq.trans (ck_cg fun k2 => (s_il_3 p_257_40).trans <| Eq.trans (s_c_gt_f p_257_41 rfl rfl rfl) <| Eq.trans (ite_cg ((s_al_0 p_257_44).trans <| (s_getr p_257_45 hs_246 (by decide) rfl).trans <| (s_il_5 p_257_48).trans <| (s_const p_257_50).trans <| (s_cs2 (Lc := [.int (iI x5), .int (iI 5)]) p_257_51 (by decide) (zM_of zq_205) ⟨Nat.le_of_ble_eq_true rfl, Nat.le_of_ble_eq_true rfl⟩ rfl).trans <| (bd b_205_0).trans <| ri_k.trans <| (s_ald 2737 p_257_54 hs_247 rfl (by decide)).trans <| ck_cg fun k3 => (s_il_4 p_257_55).trans <| (s_c_gt_f p_257_57 rfl rfl rfl)) rfl) <| Eq.trans ck_a <| ck_cg fun _ => co_and) ck_ck) rfl) <| Eq.trans ck_a <| ck_cg fun _ => co_and) <| ck_cg fun _ => Eq.trans (ite_cg ((s_const p_257_60).trans <| (s_goto p_257_61 rfl).trans <| rfl) ((s_const p_257_64).trans <| rfl)) (phi1 (fun z0 => Z e (d + 1) 257 65 [.ref 246, .int (iI x1), .int (iI x2), .int (iI x3), .int (iI x4), .int (iI x5), u6] [.int (iI z0)] m))) <| ck_cg fun _ => (s_is_6 cat_i p_257_65).trans <| (s_il_6 p_257_67).trans <| Eq.trans ((s_beq_f p_257_69 rfl)) <| ite_cg ((s_al_0 p_257_72).trans <| (s_il_5 p_257_73).trans <| (s_il_2 p_257_75).trans <| (s_il_3 p_257_76).trans <| (s_cv3 (Lc := [.ref 246, .int (iI x5), .int (iI x2), .int (iI x3), .retAddr 0]) p_257_77 (by decide) (by decide) (zM_of zq_253) ⟨Nat.le_of_ble_eq_true rfl, Nat.le_of_ble_eq_true rfl⟩ rfl (m_rc hs_246 ⟨rfl, by decide⟩))) ((s_inc_5 cat_i p_257_86).trans <| (s_goto p_257_89 rfl).trans <| rfl)) ((s_al_0 p_257_92).trans <| (s_il_2 p_257_93).trans <| (s_il_3 p_257_94).trans <| (s_cv2 (Lc := [.ref 246, .int (iI x2), .int (iI x3), .retAddr 0, .retAddr 0, .retAddr 0]) p_257_95 (by decide) (by decide) (zM_of zq_225) ⟨Nat.le_of_ble_eq_true rfl, Nat.le_of_ble_eq_true rfl⟩ rfl (m_rc hs_246 ⟨rfl, by decide⟩)))
theorem b_257_80 {x1 : Int} {x2 : Int} {x3 : Int} {x4 : Int} {x5 : Int} {xs0 : Int} {u6 : Value} : Z e (d + 1) 257 80 [.ref 246, .int (iI x1), .int (iI x2), .int (iI x3), .int (iI x4), .int (iI x5), u6] [.int (iI xs0)] m = (if (wr xs0) = 0 then ri x5 m else Z e (d + 1) 257 3 [.ref 246, .int (iI x1), .int (iI x2), .int (iI x3), .int (iI x4), .int (iI (x5 + 1)), u6] [] m) := Eq.trans ((s_z_ne_f p_257_80 rfl rfl)) <| ite_cg ((s_il_5 p_257_83).trans <| (s_reti p_257_85 (zM_of zq_257))) ((s_inc_5 cat_i p_257_86).trans <| (s_goto p_257_89 rfl).trans <| rfl)
theorem b_257_98 {xs0 : Int} {u0 u1 u2 u3 u4 u5 u6 : Value} : Z e (d + 1) 257 98 [u0, u1, u2, u3, u4, u5, u6] [.int (iI xs0)] m = ri (if 0 < (wr xs0) then (-3) else (-9)) m := Eq.trans (Eq.trans ((s_z_le_f p_257_98 rfl rfl)) <| Eq.trans (ite_cg ((s_bip p_257_101 rfl).trans <| (s_goto p_257_103 rfl).trans <| rfl) ((s_bip p_257_106 rfl).trans <| rfl)) (phi1 (fun z0 => Z e (d + 1) 257 108 [u0, u1, u2, u3, u4, u5, u6] [.int (iI z0)] m))) <| (s_reti p_257_108 (zM_of zq_257))
-- M.isSafe
theorem p_258_0 : zP1 258 0 = some (.aload_n 0, 0, 0, 0) := zp_l zq_258 rfl
theorem p_258_1 : zP1 258 1 = some (.iload_n 1, 0, 0, 0) := zp_l zq_258 rfl
theorem p_258_2 : zP1 258 2 = some (.iload_n 2, 0, 0, 0) := zp_l zq_258 rfl
theorem p_258_3 : zP1 258 3 = some (.iload_n 3, 0, 0, 0) := zp_l zq_258 rfl
theorem p_258_4 : zP1 258 4 = some (.iload 4, 0, 0, 0) := zp_l zq_258 rfl
theorem p_258_6 : zP1 258 6 = some (.invokevirtual 317, 257, 4, 11) := zp_r zq_258 rfl
theorem p_258_9 : zP1 258 9 = some (.bipush (-3), 0, 0, 0) := zp_l zq_258 rfl
theorem p_258_11 : zP1 258 11 = some (.if_icmp .ne 7, 0, 0, 0) := zp_l zq_258 rfl
theorem p_258_14 : zP1 258 14 = some (.iconst 1, 0, 0, 0) := zp_l zq_258 rfl
theorem p_258_15 : zP1 258 15 = some (.goto 4, 0, 0, 0) := zp_l zq_258 rfl
theorem p_258_18 : zP1 258 18 = some (.iconst 0, 0, 0, 0) := zp_l zq_258 rfl
theorem p_258_19 : zP1 258 19 = some (.ireturn, 0, 0, 0) := zp_l zq_258 rfl
theorem b_258_0 {x1 : Int} {x2 : Int} {x3 : Int} {x4 : Int} : Z e (d + 1) 258 0 [.ref 246, .int (iI x1), .int (iI x2), .int (iI x3), .int (iI x4)] [] m = (Z e d 257 0 [.ref 246, .int (iI x1), .int (iI x2), .int (iI x3), .int (iI x4), .retAddr 0, .retAddr 0] [] m).bind (ZK e (d + 1) 258 9 [.ref 246, .int (iI x1), .int (iI x2), .int (iI x3), .int (iI x4)] [] m) := (s_al_0 p_258_0).trans <| (s_il_1 p_258_1).trans <| (s_il_2 p_258_2).trans <| (s_il_3 p_258_3).trans <| (s_il_4 p_258_4).trans <| (s_cv4 (Lc := [.ref 246, .int (iI x1), .int (iI x2), .int (iI x3), .int (iI x4), .retAddr 0, .retAddr 0]) p_258_6 (by decide) (by decide) (zM_of zq_257) ⟨Nat.le_of_ble_eq_true rfl, Nat.le_of_ble_eq_true rfl⟩ rfl (m_rc hs_246 ⟨rfl, by decide⟩))
theorem b_258_9 {xs0 : Int} {u0 u1 u2 u3 u4 : Value} : Z e (d + 1) 258 9 [u0, u1, u2, u3, u4] [.int (iI xs0)] m = ri (if (wr xs0) = (-3) then 1 else 0) m := (s_bip p_258_9 rfl).trans <| Eq.trans (Eq.trans ((s_c_ne_f p_258_11 rfl rfl wl_m3)) <| Eq.trans (ite_cg ((s_const p_258_14).trans <| (s_goto p_258_15 rfl).trans <| rfl) ((s_const p_258_18).trans <| rfl)) (phi1 (fun z0 => Z e (d + 1) 258 19 [u0, u1, u2, u3, u4] [.int (iI z0)] m))) <| (s_retb p_258_19 (zM_of zq_258))
-- M.isSafeNow
theorem p_259_0 : zP1 259 0 = some (.aload_n 0, 0, 0, 0) := zp_l zq_259 rfl
theorem p_259_1 : zP1 259 1 = some (.iload_n 1, 0, 0, 0) := zp_l zq_259 rfl
theorem p_259_2 : zP1 259 2 = some (.aload_n 0, 0, 0, 0) := zp_l zq_259 rfl
theorem p_259_3 : zP1 259 3 = some (.getfield 9, 11, 0, 0) := zp_r zq_259 rfl
theorem p_259_6 : zP1 259 6 = some (.iload_n 1, 0, 0, 0) := zp_l zq_259 rfl
theorem p_259_7 : zP1 259 7 = some (.iconst 0, 0, 0, 0) := zp_l zq_259 rfl
theorem p_259_8 : zP1 259 8 = some (.invokestatic 129, 204, 2, 0) := zp_r zq_259 rfl
theorem p_259_11 : zP1 259 11 = some (.iaload, 0, 0, 0) := zp_l zq_259 rfl
theorem p_259_12 : zP1 259 12 = some (.aload_n 0, 0, 0, 0) := zp_l zq_259 rfl
theorem p_259_13 : zP1 259 13 = some (.getfield 9, 11, 0, 0) := zp_r zq_259 rfl
theorem p_259_16 : zP1 259 16 = some (.iconst 0, 0, 0, 0) := zp_l zq_259 rfl
theorem p_259_17 : zP1 259 17 = some (.iaload, 0, 0, 0) := zp_l zq_259 rfl
theorem p_259_18 : zP1 259 18 = some (.aload_n 0, 0, 0, 0) := zp_l zq_259 rfl
theorem p_259_19 : zP1 259 19 = some (.getfield 9, 11, 0, 0) := zp_r zq_259 rfl
theorem p_259_22 : zP1 259 22 = some (.iconst 0, 0, 0, 0) := zp_l zq_259 rfl
theorem p_259_23 : zP1 259 23 = some (.iaload, 0, 0, 0) := zp_l zq_259 rfl
theorem p_259_24 : zP1 259 24 = some (.invokevirtual 321, 258, 4, 11) := zp_r zq_259 rfl
theorem p_259_27 : zP1 259 27 = some (.ireturn, 0, 0, 0) := zp_l zq_259 rfl
theorem b_259_0 {x1 : Int} : Z e (d + 1) 259 0 [.ref 246, .int (iI x1)] [] m = ck (0 ≤ (wr ((110 + (9 * x1)) + 0)) ∧ (wr ((110 + (9 * x1)) + 0)) < 2737) ((Z e d 258 0 [.ref 246, .int (iI x1), .int (iI (m 247 (wr ((110 + (9 * x1)) + 0)))), .int (iI (m 247 0)), .int (iI (m 247 0))] [] m).bind (ZK e (d + 1) 259 27 [.ref 246, .int (iI x1)] [] m)) := (s_al_0 p_259_0).trans <| (s_il_1 p_259_1).trans <| (s_al_0 p_259_2).trans <| (s_getr p_259_3 hs_246 (by decide) rfl).trans <| (s_il_1 p_259_6).trans <| (s_const p_259_7).trans <| (s_cs2 (Lc := [.int (iI x1), .int (iI 0)]) p_259_8 (by decide) (zM_of zq_204) ⟨Nat.le_of_ble_eq_true rfl, Nat.le_of_ble_eq_true rfl⟩ rfl).trans <| (bd b_204_0).trans <| ri_k.trans <| (s_ald 2737 p_259_11 hs_247 rfl (by decide)).trans <| ck_cg fun k1 => (s_al_0 p_259_12).trans <| (s_getr p_259_13 hs_246 (by decide) rfl).trans <| (s_const p_259_16).trans <| (s_aldc p_259_17 hs_247 (by decide) wl_0 (by decide)).trans <| (s_al_0 p_259_18).trans <| (s_getr p_259_19 hs_246 (by decide) rfl).trans <| (s_const p_259_22).trans <| (s_aldc p_259_23 hs_247 (by decide) wl_0 (by decide)).trans <| (s_cv4 (Lc := [.ref 246, .int (iI x1), .int (iI (m 247 (wr ((110 + (9 * x1)) + 0)))), .int (iI (m 247 0)), .int (iI (m 247 0))]) p_259_24 (by decide) (by decide) (zM_of zq_258) ⟨Nat.le_of_ble_eq_true rfl, Nat.le_of_ble_eq_true rfl⟩ rfl (m_rc hs_246 ⟨rfl, by decide⟩))
theorem b_259_27 {xs0 : Int} {u0 u1 : Value} : Z e (d + 1) 259 27 [u0, u1] [.int (iI xs0)] m = ck (nbp xs0) (ri xs0 m) := (s_retx p_259_27 (zM_of zq_259))
-- M.safe
theorem p_260_0 : zP1 260 0 = some (.aload_n 0, 0, 0, 0) := zp_l zq_260 rfl
theorem p_260_1 : zP1 260 1 = some (.iload_n 1, 0, 0, 0) := zp_l zq_260 rfl
theorem p_260_2 : zP1 260 2 = some (.invokevirtual 138, 202, 1, 11) := zp_r zq_260 rfl
theorem p_260_5 : zP1 260 5 = some (.ifCond .eq 25, 0, 0, 0) := zp_l zq_260 rfl
theorem p_260_8 : zP1 260 8 = some (.iload_n 2, 0, 0, 0) := zp_l zq_260 rfl
theorem p_260_9 : zP1 260 9 = some (.invokestatic 110, 200, 1, 0) := zp_r zq_260 rfl
theorem p_260_12 : zP1 260 12 = some (.ifCond .eq 18, 0, 0, 0) := zp_l zq_260 rfl
theorem p_260_15 : zP1 260 15 = some (.iload_n 3, 0, 0, 0) := zp_l zq_260 rfl
theorem p_260_16 : zP1 260 16 = some (.invokestatic 154, 201, 1, 0) := zp_r zq_260 rfl
theorem p_260_19 : zP1 260 19 = some (.ifCond .eq 11, 0, 0, 0) := zp_l zq_260 rfl
theorem p_260_22 : zP1 260 22 = some (.iload 4, 0, 0, 0) := zp_l zq_260 rfl
theorem p_260_24 : zP1 260 24 = some (.invokestatic 154, 201, 1, 0) := zp_r zq_260 rfl
theorem p_260_27 : zP1 260 27 = some (.ifCond .ne 7, 0, 0, 0) := zp_l zq_260 rfl
theorem p_260_30 : zP1 260 30 = some (.iconst (-1), 0, 0, 0) := zp_l zq_260 rfl
theorem p_260_31 : zP1 260 31 = some (.goto 20, 0, 0, 0) := zp_l zq_260 rfl
theorem p_260_34 : zP1 260 34 = some (.aload_n 0, 0, 0, 0) := zp_l zq_260 rfl
theorem p_260_35 : zP1 260 35 = some (.iload_n 1, 0, 0, 0) := zp_l zq_260 rfl
theorem p_260_36 : zP1 260 36 = some (.iload_n 2, 0, 0, 0) := zp_l zq_260 rfl
theorem p_260_37 : zP1 260 37 = some (.iload_n 3, 0, 0, 0) := zp_l zq_260 rfl
theorem p_260_38 : zP1 260 38 = some (.iload 4, 0, 0, 0) := zp_l zq_260 rfl
theorem p_260_40 : zP1 260 40 = some (.invokevirtual 321, 258, 4, 11) := zp_r zq_260 rfl
theorem p_260_43 : zP1 260 43 = some (.ifCond .eq 7, 0, 0, 0) := zp_l zq_260 rfl
theorem p_260_46 : zP1 260 46 = some (.iconst 1, 0, 0, 0) := zp_l zq_260 rfl
theorem p_260_47 : zP1 260 47 = some (.goto 4, 0, 0, 0) := zp_l zq_260 rfl
theorem p_260_50 : zP1 260 50 = some (.iconst 0, 0, 0, 0) := zp_l zq_260 rfl
theorem p_260_51 : zP1 260 51 = some (.ireturn, 0, 0, 0) := zp_l zq_260 rfl
theorem b_260_0 {x1 : Int} {x2 : Int} {x3 : Int} {x4 : Int} : Z e (d + 2) 260 0 [.ref 246, .int (iI x1), .int (iI x2), .int (iI x3), .int (iI x4)] [] m = (if (¬ (((wr 0) ≤ (wr x1)) ∧ ((wr x1) ≤ (wr ((m 247 1) - 1))))) ∨ ((¬ (((wr 0) ≤ (wr x2)) ∧ ((wr x2) ≤ (wr 99)))) ∨ ((¬ (((wr 0) ≤ (wr x3)) ∧ ((wr x3) ≤ (wr 9999)))) ∨ (¬ (((wr 0) ≤ (wr x4)) ∧ ((wr x4) ≤ (wr 9999)))))) then ri (-1) m else (Z e (d + 1) 258 0 [.ref 246, .int (iI x1), .int (iI x2), .int (iI x3), .int (iI x4)] [] m).bind (ZK e (d + 2) 260 43 [.ref 246, .int (iI x1), .int (iI x2), .int (iI x3), .int (iI x4)] [] m)) := (s_al_0 p_260_0).trans <| (s_il_1 p_260_1).trans <| (s_cv1 (Lc := [.ref 246, .int (iI x1)]) p_260_2 (by decide) (by decide) (zM_of zq_202) ⟨Nat.le_of_ble_eq_true rfl, Nat.le_of_ble_eq_true rfl⟩ rfl (m_rc hs_246 ⟨rfl, by decide⟩)).trans <| (bd b_202_0).trans <| ri_k.trans <| Eq.trans (Eq.trans (s_beq_t p_260_5 rfl) <| Eq.trans (ite_cg rfl ((s_il_2 p_260_8).trans <| (s_cs1 (Lc := [.int (iI x2)]) p_260_9 (by decide) (zM_of zq_200) ⟨Nat.le_of_ble_eq_true rfl, Nat.le_of_ble_eq_true rfl⟩ rfl).trans <| (bd b_200_0).trans <| ri_k.trans <| Eq.trans (s_beq_t p_260_12 rfl) <| Eq.trans (ite_cg rfl ((s_il_3 p_260_15).trans <| (s_cs1 (Lc := [.int (iI x3)]) p_260_16 (by decide) (zM_of zq_201) ⟨Nat.le_of_ble_eq_true rfl, Nat.le_of_ble_eq_true rfl⟩ rfl).trans <| (bd b_201_0).trans <| ri_k.trans <| Eq.trans (s_beq_t p_260_19 rfl) <| Eq.trans (ite_cg rfl ((s_il_4 p_260_22).trans <| (s_cs1 (Lc := [.int (iI x4)]) p_260_24 (by decide) (zM_of zq_201) ⟨Nat.le_of_ble_eq_true rfl, Nat.le_of_ble_eq_true rfl⟩ rfl).trans <| (bd b_201_0).trans <| ri_k.trans <| (s_bne_f p_260_27 rfl))) co_or)) co_or)) co_or) <| ite_cg ((s_const p_260_30).trans <| (s_goto p_260_31 rfl).trans <| (s_reti p_260_51 (zM_of zq_260))) ((s_al_0 p_260_34).trans <| (s_il_1 p_260_35).trans <| (s_il_2 p_260_36).trans <| (s_il_3 p_260_37).trans <| (s_il_4 p_260_38).trans <| (s_cv4 (Lc := [.ref 246, .int (iI x1), .int (iI x2), .int (iI x3), .int (iI x4)]) p_260_40 (by decide) (by decide) (zM_of zq_258) ⟨Nat.le_of_ble_eq_true rfl, Nat.le_of_ble_eq_true rfl⟩ rfl (m_rc hs_246 ⟨rfl, by decide⟩)))
theorem b_260_43 {xs0 : Int} {u0 u1 u2 u3 u4 : Value} : Z e (d + 2) 260 43 [u0, u1, u2, u3, u4] [.int (iI xs0)] m = ri (if ¬ (wr xs0) = 0 then 1 else 0) m := Eq.trans (Eq.trans ((s_z_eq_f p_260_43 rfl rfl)) <| Eq.trans (ite_cg ((s_const p_260_46).trans <| (s_goto p_260_47 rfl).trans <| rfl) ((s_const p_260_50).trans <| rfl)) (phi1 (fun z0 => Z e (d + 2) 260 51 [u0, u1, u2, u3, u4] [.int (iI z0)] m))) <| (s_reti p_260_51 (zM_of zq_260))
-- M.why
theorem p_261_0 : zP1 261 0 = some (.aload_n 0, 0, 0, 0) := zp_l zq_261 rfl
theorem p_261_1 : zP1 261 1 = some (.iload_n 1, 0, 0, 0) := zp_l zq_261 rfl
theorem p_261_2 : zP1 261 2 = some (.invokevirtual 138, 202, 1, 11) := zp_r zq_261 rfl
theorem p_261_5 : zP1 261 5 = some (.ifCond .eq 25, 0, 0, 0) := zp_l zq_261 rfl
theorem p_261_8 : zP1 261 8 = some (.iload_n 2, 0, 0, 0) := zp_l zq_261 rfl
theorem p_261_9 : zP1 261 9 = some (.invokestatic 110, 200, 1, 0) := zp_r zq_261 rfl
theorem p_261_12 : zP1 261 12 = some (.ifCond .eq 18, 0, 0, 0) := zp_l zq_261 rfl
theorem p_261_15 : zP1 261 15 = some (.iload_n 3, 0, 0, 0) := zp_l zq_261 rfl
theorem p_261_16 : zP1 261 16 = some (.invokestatic 154, 201, 1, 0) := zp_r zq_261 rfl
theorem p_261_19 : zP1 261 19 = some (.ifCond .eq 11, 0, 0, 0) := zp_l zq_261 rfl
theorem p_261_22 : zP1 261 22 = some (.iload 4, 0, 0, 0) := zp_l zq_261 rfl
theorem p_261_24 : zP1 261 24 = some (.invokestatic 154, 201, 1, 0) := zp_r zq_261 rfl
theorem p_261_27 : zP1 261 27 = some (.ifCond .ne 7, 0, 0, 0) := zp_l zq_261 rfl
theorem p_261_30 : zP1 261 30 = some (.iconst (-1), 0, 0, 0) := zp_l zq_261 rfl
theorem p_261_31 : zP1 261 31 = some (.goto 12, 0, 0, 0) := zp_l zq_261 rfl
theorem p_261_34 : zP1 261 34 = some (.aload_n 0, 0, 0, 0) := zp_l zq_261 rfl
theorem p_261_35 : zP1 261 35 = some (.iload_n 1, 0, 0, 0) := zp_l zq_261 rfl
theorem p_261_36 : zP1 261 36 = some (.iload_n 2, 0, 0, 0) := zp_l zq_261 rfl
theorem p_261_37 : zP1 261 37 = some (.iload_n 3, 0, 0, 0) := zp_l zq_261 rfl
theorem p_261_38 : zP1 261 38 = some (.iload 4, 0, 0, 0) := zp_l zq_261 rfl
theorem p_261_40 : zP1 261 40 = some (.invokevirtual 317, 257, 4, 11) := zp_r zq_261 rfl
theorem p_261_43 : zP1 261 43 = some (.ireturn, 0, 0, 0) := zp_l zq_261 rfl
theorem b_261_0 {x1 : Int} {x2 : Int} {x3 : Int} {x4 : Int} : Z e (d + 2) 261 0 [.ref 246, .int (iI x1), .int (iI x2), .int (iI x3), .int (iI x4)] [] m = (if (¬ (((wr 0) ≤ (wr x1)) ∧ ((wr x1) ≤ (wr ((m 247 1) - 1))))) ∨ ((¬ (((wr 0) ≤ (wr x2)) ∧ ((wr x2) ≤ (wr 99)))) ∨ ((¬ (((wr 0) ≤ (wr x3)) ∧ ((wr x3) ≤ (wr 9999)))) ∨ (¬ (((wr 0) ≤ (wr x4)) ∧ ((wr x4) ≤ (wr 9999)))))) then ri (-1) m else (Z e (d + 1) 257 0 [.ref 246, .int (iI x1), .int (iI x2), .int (iI x3), .int (iI x4), .retAddr 0, .retAddr 0] [] m).bind (ZK e (d + 2) 261 43 [.ref 246, .int (iI x1), .int (iI x2), .int (iI x3), .int (iI x4)] [] m)) := (s_al_0 p_261_0).trans <| (s_il_1 p_261_1).trans <| (s_cv1 (Lc := [.ref 246, .int (iI x1)]) p_261_2 (by decide) (by decide) (zM_of zq_202) ⟨Nat.le_of_ble_eq_true rfl, Nat.le_of_ble_eq_true rfl⟩ rfl (m_rc hs_246 ⟨rfl, by decide⟩)).trans <| (bd b_202_0).trans <| ri_k.trans <| Eq.trans (Eq.trans (s_beq_t p_261_5 rfl) <| Eq.trans (ite_cg rfl ((s_il_2 p_261_8).trans <| (s_cs1 (Lc := [.int (iI x2)]) p_261_9 (by decide) (zM_of zq_200) ⟨Nat.le_of_ble_eq_true rfl, Nat.le_of_ble_eq_true rfl⟩ rfl).trans <| (bd b_200_0).trans <| ri_k.trans <| Eq.trans (s_beq_t p_261_12 rfl) <| Eq.trans (ite_cg rfl ((s_il_3 p_261_15).trans <| (s_cs1 (Lc := [.int (iI x3)]) p_261_16 (by decide) (zM_of zq_201) ⟨Nat.le_of_ble_eq_true rfl, Nat.le_of_ble_eq_true rfl⟩ rfl).trans <| (bd b_201_0).trans <| ri_k.trans <| Eq.trans (s_beq_t p_261_19 rfl) <| Eq.trans (ite_cg rfl ((s_il_4 p_261_22).trans <| (s_cs1 (Lc := [.int (iI x4)]) p_261_24 (by decide) (zM_of zq_201) ⟨Nat.le_of_ble_eq_true rfl, Nat.le_of_ble_eq_true rfl⟩ rfl).trans <| (bd b_201_0).trans <| ri_k.trans <| (s_bne_f p_261_27 rfl))) co_or)) co_or)) co_or) <| ite_cg ((s_const p_261_30).trans <| (s_goto p_261_31 rfl).trans <| (s_reti p_261_43 (zM_of zq_261))) ((s_al_0 p_261_34).trans <| (s_il_1 p_261_35).trans <| (s_il_2 p_261_36).trans <| (s_il_3 p_261_37).trans <| (s_il_4 p_261_38).trans <| (s_cv4 (Lc := [.ref 246, .int (iI x1), .int (iI x2), .int (iI x3), .int (iI x4), .retAddr 0, .retAddr 0]) p_261_40 (by decide) (by decide) (zM_of zq_257) ⟨Nat.le_of_ble_eq_true rfl, Nat.le_of_ble_eq_true rfl⟩ rfl (m_rc hs_246 ⟨rfl, by decide⟩)))
theorem b_261_43 {xs0 : Int} {u0 u1 u2 u3 u4 : Value} : Z e (d + 2) 261 43 [u0, u1, u2, u3, u4] [.int (iI xs0)] m = ri xs0 m := (s_reti p_261_43 (zM_of zq_261))
-- M.costOf
theorem p_262_0 : zP1 262 0 = some (.iconst (-1), 0, 0, 0) := zp_l zq_262 rfl
theorem p_262_1 : zP1 262 1 = some (.istore_n 3, 0, 0, 0) := zp_l zq_262 rfl
theorem p_262_2 : zP1 262 2 = some (.iconst 0, 0, 0, 0) := zp_l zq_262 rfl
theorem p_262_3 : zP1 262 3 = some (.istore 4, 0, 0, 0) := zp_l zq_262 rfl
theorem p_262_5 : zP1 262 5 = some (.iload 4, 0, 0, 0) := zp_l zq_262 rfl
theorem p_262_7 : zP1 262 7 = some (.aload_n 0, 0, 0, 0) := zp_l zq_262 rfl
theorem p_262_8 : zP1 262 8 = some (.getfield 9, 11, 0, 0) := zp_r zq_262 rfl
theorem p_262_11 : zP1 262 11 = some (.iconst 4, 0, 0, 0) := zp_l zq_262 rfl
theorem p_262_12 : zP1 262 12 = some (.iaload, 0, 0, 0) := zp_l zq_262 rfl
theorem p_262_13 : zP1 262 13 = some (.if_icmp .ge 46, 0, 0, 0) := zp_l zq_262 rfl
theorem p_262_16 : zP1 262 16 = some (.aload_n 0, 0, 0, 0) := zp_l zq_262 rfl
theorem p_262_17 : zP1 262 17 = some (.getfield 9, 11, 0, 0) := zp_r zq_262 rfl
theorem p_262_20 : zP1 262 20 = some (.iload 4, 0, 0, 0) := zp_l zq_262 rfl
theorem p_262_22 : zP1 262 22 = some (.iconst 0, 0, 0, 0) := zp_l zq_262 rfl
theorem p_262_23 : zP1 262 23 = some (.invokestatic 141, 205, 2, 0) := zp_r zq_262 rfl
theorem p_262_26 : zP1 262 26 = some (.iaload, 0, 0, 0) := zp_l zq_262 rfl
theorem p_262_27 : zP1 262 27 = some (.iload_n 1, 0, 0, 0) := zp_l zq_262 rfl
theorem p_262_28 : zP1 262 28 = some (.if_icmp .ne 23, 0, 0, 0) := zp_l zq_262 rfl
theorem p_262_31 : zP1 262 31 = some (.aload_n 0, 0, 0, 0) := zp_l zq_262 rfl
theorem p_262_32 : zP1 262 32 = some (.getfield 9, 11, 0, 0) := zp_r zq_262 rfl
theorem p_262_35 : zP1 262 35 = some (.iload 4, 0, 0, 0) := zp_l zq_262 rfl
theorem p_262_37 : zP1 262 37 = some (.iconst 3, 0, 0, 0) := zp_l zq_262 rfl
theorem p_262_38 : zP1 262 38 = some (.invokestatic 141, 205, 2, 0) := zp_r zq_262 rfl
theorem p_262_41 : zP1 262 41 = some (.iaload, 0, 0, 0) := zp_l zq_262 rfl
theorem p_262_42 : zP1 262 42 = some (.iload_n 2, 0, 0, 0) := zp_l zq_262 rfl
theorem p_262_43 : zP1 262 43 = some (.if_icmp .gt 8, 0, 0, 0) := zp_l zq_262 rfl
theorem p_262_46 : zP1 262 46 = some (.iload 4, 0, 0, 0) := zp_l zq_262 rfl
theorem p_262_48 : zP1 262 48 = some (.goto 4, 0, 0, 0) := zp_l zq_262 rfl
theorem p_262_51 : zP1 262 51 = some (.iload_n 3, 0, 0, 0) := zp_l zq_262 rfl
theorem p_262_52 : zP1 262 52 = some (.istore_n 3, 0, 0, 0) := zp_l zq_262 rfl
theorem p_262_53 : zP1 262 53 = some (.iinc 4 1, 0, 0, 0) := zp_l zq_262 rfl
theorem p_262_56 : zP1 262 56 = some (.goto (-51), 0, 0, 0) := zp_l zq_262 rfl
theorem p_262_59 : zP1 262 59 = some (.iload_n 3, 0, 0, 0) := zp_l zq_262 rfl
theorem p_262_60 : zP1 262 60 = some (.ifCond .lt 19, 0, 0, 0) := zp_l zq_262 rfl
theorem p_262_63 : zP1 262 63 = some (.aload_n 0, 0, 0, 0) := zp_l zq_262 rfl
theorem p_262_64 : zP1 262 64 = some (.iload_n 3, 0, 0, 0) := zp_l zq_262 rfl
theorem p_262_65 : zP1 262 65 = some (.aload_n 0, 0, 0, 0) := zp_l zq_262 rfl
theorem p_262_66 : zP1 262 66 = some (.getfield 9, 11, 0, 0) := zp_r zq_262 rfl
theorem p_262_69 : zP1 262 69 = some (.iload_n 1, 0, 0, 0) := zp_l zq_262 rfl
theorem p_262_70 : zP1 262 70 = some (.iconst 0, 0, 0, 0) := zp_l zq_262 rfl
theorem p_262_71 : zP1 262 71 = some (.invokestatic 129, 204, 2, 0) := zp_r zq_262 rfl
theorem p_262_74 : zP1 262 74 = some (.iaload, 0, 0, 0) := zp_l zq_262 rfl
theorem p_262_75 : zP1 262 75 = some (.iload_n 2, 0, 0, 0) := zp_l zq_262 rfl
theorem p_262_76 : zP1 262 76 = some (.invokevirtual 300, 250, 3, 11) := zp_r zq_262 rfl
theorem p_262_79 : zP1 262 79 = some (.bipush 10, 0, 0, 0) := zp_l zq_262 rfl
theorem p_262_81 : zP1 262 81 = some (.istore 4, 0, 0, 0) := zp_l zq_262 rfl
theorem p_262_83 : zP1 262 83 = some (.iconst 0, 0, 0, 0) := zp_l zq_262 rfl
theorem p_262_84 : zP1 262 84 = some (.istore 5, 0, 0, 0) := zp_l zq_262 rfl
theorem p_262_86 : zP1 262 86 = some (.iload 5, 0, 0, 0) := zp_l zq_262 rfl
theorem p_262_88 : zP1 262 88 = some (.iconst 3, 0, 0, 0) := zp_l zq_262 rfl
theorem p_262_89 : zP1 262 89 = some (.if_icmp .ge 171, 0, 0, 0) := zp_l zq_262 rfl
theorem p_262_92 : zP1 262 92 = some (.aload_n 0, 0, 0, 0) := zp_l zq_262 rfl
theorem p_262_93 : zP1 262 93 = some (.iload 5, 0, 0, 0) := zp_l zq_262 rfl
theorem p_262_95 : zP1 262 95 = some (.iload_n 2, 0, 0, 0) := zp_l zq_262 rfl
theorem p_262_96 : zP1 262 96 = some (.invokevirtual 151, 220, 2, 11) := zp_r zq_262 rfl
theorem p_262_99 : zP1 262 99 = some (.istore 6, 0, 0, 0) := zp_l zq_262 rfl
theorem p_262_101 : zP1 262 101 = some (.iconst 0, 0, 0, 0) := zp_l zq_262 rfl
theorem p_262_102 : zP1 262 102 = some (.istore 7, 0, 0, 0) := zp_l zq_262 rfl
theorem p_262_104 : zP1 262 104 = some (.iload 6, 0, 0, 0) := zp_l zq_262 rfl
theorem p_262_106 : zP1 262 106 = some (.ifCond .lt 148, 0, 0, 0) := zp_l zq_262 rfl
theorem p_262_109 : zP1 262 109 = some (.iload 7, 0, 0, 0) := zp_l zq_262 rfl
theorem p_262_111 : zP1 262 111 = some (.aload_n 0, 0, 0, 0) := zp_l zq_262 rfl
theorem p_262_112 : zP1 262 112 = some (.getfield 9, 11, 0, 0) := zp_r zq_262 rfl
theorem p_262_115 : zP1 262 115 = some (.iload 6, 0, 0, 0) := zp_l zq_262 rfl
theorem p_262_117 : zP1 262 117 = some (.iconst 3, 0, 0, 0) := zp_l zq_262 rfl
theorem p_262_118 : zP1 262 118 = some (.invokestatic 144, 218, 2, 0) := zp_r zq_262 rfl
theorem p_262_121 : zP1 262 121 = some (.iaload, 0, 0, 0) := zp_l zq_262 rfl
theorem p_262_122 : zP1 262 122 = some (.if_icmp .ge 132, 0, 0, 0) := zp_l zq_262 rfl
theorem p_262_125 : zP1 262 125 = some (.aload_n 0, 0, 0, 0) := zp_l zq_262 rfl
theorem p_262_126 : zP1 262 126 = some (.getfield 9, 11, 0, 0) := zp_r zq_262 rfl
theorem p_262_129 : zP1 262 129 = some (.iload 6, 0, 0, 0) := zp_l zq_262 rfl
theorem p_262_131 : zP1 262 131 = some (.iconst 4, 0, 0, 0) := zp_l zq_262 rfl
theorem p_262_132 : zP1 262 132 = some (.iconst 4, 0, 0, 0) := zp_l zq_262 rfl
theorem p_262_133 : zP1 262 133 = some (.iload 7, 0, 0, 0) := zp_l zq_262 rfl
theorem p_262_135 : zP1 262 135 = some (.imul, 0, 0, 0) := zp_l zq_262 rfl
theorem p_262_136 : zP1 262 136 = some (.iadd, 0, 0, 0) := zp_l zq_262 rfl
theorem p_262_137 : zP1 262 137 = some (.iconst 2, 0, 0, 0) := zp_l zq_262 rfl
theorem p_262_138 : zP1 262 138 = some (.iadd, 0, 0, 0) := zp_l zq_262 rfl
theorem p_262_139 : zP1 262 139 = some (.invokestatic 144, 218, 2, 0) := zp_r zq_262 rfl
theorem p_262_142 : zP1 262 142 = some (.iaload, 0, 0, 0) := zp_l zq_262 rfl
theorem p_262_143 : zP1 262 143 = some (.aload_n 0, 0, 0, 0) := zp_l zq_262 rfl
theorem p_262_144 : zP1 262 144 = some (.getfield 9, 11, 0, 0) := zp_r zq_262 rfl
theorem p_262_147 : zP1 262 147 = some (.iload 6, 0, 0, 0) := zp_l zq_262 rfl
theorem p_262_149 : zP1 262 149 = some (.iconst 4, 0, 0, 0) := zp_l zq_262 rfl
theorem p_262_150 : zP1 262 150 = some (.iconst 4, 0, 0, 0) := zp_l zq_262 rfl
theorem p_262_151 : zP1 262 151 = some (.iload 7, 0, 0, 0) := zp_l zq_262 rfl
theorem p_262_153 : zP1 262 153 = some (.imul, 0, 0, 0) := zp_l zq_262 rfl
theorem p_262_154 : zP1 262 154 = some (.iadd, 0, 0, 0) := zp_l zq_262 rfl
theorem p_262_155 : zP1 262 155 = some (.iconst 3, 0, 0, 0) := zp_l zq_262 rfl
theorem p_262_156 : zP1 262 156 = some (.iadd, 0, 0, 0) := zp_l zq_262 rfl
theorem p_262_157 : zP1 262 157 = some (.invokestatic 144, 218, 2, 0) := zp_r zq_262 rfl
theorem p_262_160 : zP1 262 160 = some (.iaload, 0, 0, 0) := zp_l zq_262 rfl
theorem p_262_161 : zP1 262 161 = some (.if_icmp .ne 7, 0, 0, 0) := zp_l zq_262 rfl
theorem p_262_164 : zP1 262 164 = some (.iconst 1, 0, 0, 0) := zp_l zq_262 rfl
theorem p_262_165 : zP1 262 165 = some (.goto 4, 0, 0, 0) := zp_l zq_262 rfl
theorem p_262_168 : zP1 262 168 = some (.iconst 0, 0, 0, 0) := zp_l zq_262 rfl
theorem p_262_169 : zP1 262 169 = some (.istore 8, 0, 0, 0) := zp_l zq_262 rfl
theorem p_262_171 : zP1 262 171 = some (.aload_n 0, 0, 0, 0) := zp_l zq_262 rfl
theorem p_262_172 : zP1 262 172 = some (.getfield 9, 11, 0, 0) := zp_r zq_262 rfl
theorem p_262_175 : zP1 262 175 = some (.iload 6, 0, 0, 0) := zp_l zq_262 rfl
theorem p_262_177 : zP1 262 177 = some (.iconst 4, 0, 0, 0) := zp_l zq_262 rfl
theorem p_262_178 : zP1 262 178 = some (.iconst 4, 0, 0, 0) := zp_l zq_262 rfl
theorem p_262_179 : zP1 262 179 = some (.iload 7, 0, 0, 0) := zp_l zq_262 rfl
theorem p_262_181 : zP1 262 181 = some (.imul, 0, 0, 0) := zp_l zq_262 rfl
theorem p_262_182 : zP1 262 182 = some (.iadd, 0, 0, 0) := zp_l zq_262 rfl
theorem p_262_183 : zP1 262 183 = some (.invokestatic 144, 218, 2, 0) := zp_r zq_262 rfl
theorem p_262_186 : zP1 262 186 = some (.iaload, 0, 0, 0) := zp_l zq_262 rfl
theorem p_262_187 : zP1 262 187 = some (.iconst 4, 0, 0, 0) := zp_l zq_262 rfl
theorem p_262_188 : zP1 262 188 = some (.if_icmp .ne 27, 0, 0, 0) := zp_l zq_262 rfl
theorem p_262_191 : zP1 262 191 = some (.iload 8, 0, 0, 0) := zp_l zq_262 rfl
theorem p_262_193 : zP1 262 193 = some (.ifCond .ne 18, 0, 0, 0) := zp_l zq_262 rfl
theorem p_262_196 : zP1 262 196 = some (.iload_n 3, 0, 0, 0) := zp_l zq_262 rfl
theorem p_262_197 : zP1 262 197 = some (.ifCond .lt 18, 0, 0, 0) := zp_l zq_262 rfl
theorem p_262_200 : zP1 262 200 = some (.aload_n 0, 0, 0, 0) := zp_l zq_262 rfl
theorem p_262_201 : zP1 262 201 = some (.iload 6, 0, 0, 0) := zp_l zq_262 rfl
theorem p_262_203 : zP1 262 203 = some (.iload 7, 0, 0, 0) := zp_l zq_262 rfl
theorem p_262_205 : zP1 262 205 = some (.invokevirtual 304, 251, 2, 11) := zp_r zq_262 rfl
theorem p_262_208 : zP1 262 208 = some (.ifCond .eq 7, 0, 0, 0) := zp_l zq_262 rfl
theorem p_262_211 : zP1 262 211 = some (.iconst 1, 0, 0, 0) := zp_l zq_262 rfl
theorem p_262_212 : zP1 262 212 = some (.goto 4, 0, 0, 0) := zp_l zq_262 rfl
theorem p_262_215 : zP1 262 215 = some (.iconst 0, 0, 0, 0) := zp_l zq_262 rfl
theorem p_262_216 : zP1 262 216 = some (.istore 9, 0, 0, 0) := zp_l zq_262 rfl
theorem p_262_218 : zP1 262 218 = some (.iload 9, 0, 0, 0) := zp_l zq_262 rfl
theorem p_262_220 : zP1 262 220 = some (.ifCond .eq 24, 0, 0, 0) := zp_l zq_262 rfl
theorem p_262_223 : zP1 262 223 = some (.aload_n 0, 0, 0, 0) := zp_l zq_262 rfl
theorem p_262_224 : zP1 262 224 = some (.getfield 9, 11, 0, 0) := zp_r zq_262 rfl
theorem p_262_227 : zP1 262 227 = some (.iload 6, 0, 0, 0) := zp_l zq_262 rfl
theorem p_262_229 : zP1 262 229 = some (.iconst 4, 0, 0, 0) := zp_l zq_262 rfl
theorem p_262_230 : zP1 262 230 = some (.iconst 4, 0, 0, 0) := zp_l zq_262 rfl
theorem p_262_231 : zP1 262 231 = some (.iload 7, 0, 0, 0) := zp_l zq_262 rfl
theorem p_262_233 : zP1 262 233 = some (.imul, 0, 0, 0) := zp_l zq_262 rfl
theorem p_262_234 : zP1 262 234 = some (.iadd, 0, 0, 0) := zp_l zq_262 rfl
theorem p_262_235 : zP1 262 235 = some (.iconst 1, 0, 0, 0) := zp_l zq_262 rfl
theorem p_262_236 : zP1 262 236 = some (.iadd, 0, 0, 0) := zp_l zq_262 rfl
theorem p_262_237 : zP1 262 237 = some (.invokestatic 144, 218, 2, 0) := zp_r zq_262 rfl
theorem p_262_240 : zP1 262 240 = some (.iaload, 0, 0, 0) := zp_l zq_262 rfl
theorem p_262_241 : zP1 262 241 = some (.goto 5, 0, 0, 0) := zp_l zq_262 rfl
theorem p_262_244 : zP1 262 244 = some (.iload 4, 0, 0, 0) := zp_l zq_262 rfl
theorem p_262_246 : zP1 262 246 = some (.istore 4, 0, 0, 0) := zp_l zq_262 rfl
theorem p_262_248 : zP1 262 248 = some (.iinc 7 1, 0, 0, 0) := zp_l zq_262 rfl
theorem p_262_251 : zP1 262 251 = some (.goto (-147), 0, 0, 0) := zp_l zq_262 rfl
theorem p_262_254 : zP1 262 254 = some (.iinc 5 1, 0, 0, 0) := zp_l zq_262 rfl
theorem p_262_257 : zP1 262 257 = some (.goto (-171), 0, 0, 0) := zp_l zq_262 rfl
theorem p_262_260 : zP1 262 260 = some (.iload 4, 0, 0, 0) := zp_l zq_262 rfl
theorem p_262_262 : zP1 262 262 = some (.ireturn, 0, 0, 0) := zp_l zq_262 rfl
theorem b_262_0 {x1 : Int} {x2 : Int} : Z e (d + 1) 262 0 [.ref 246, .int (iI x1), .int (iI x2), .retAddr 0, .retAddr 0, .retAddr 0, .retAddr 0, .retAddr 0, .retAddr 0, .retAddr 0] [] m = Z e (d + 1) 262 5 [.ref 246, .int (iI x1), .int (iI x2), .int (iI (-1)), .int (iI 0), .retAddr 0, .retAddr 0, .retAddr 0, .retAddr 0, .retAddr 0] [] m := (s_const p_262_0).trans <| (s_is_3 cat_i p_262_1).trans <| (s_const p_262_2).trans <| (s_is_4 cat_i p_262_3).trans <| rfl
theorem b_262_5 {x1 : Int} {x2 : Int} {x3 : Int} {x4 : Int} {u5 u6 u7 u8 u9 : Value} : Z e (d + 1) 262 5 [.ref 246, .int (iI x1), .int (iI x2), .int (iI x3), .int (iI x4), u5, u6, u7, u8, u9] [] m = (if (wr x4) < (wr (m 247 4)) then ck (0 ≤ (wr ((794 + (6 * x4)) + 0)) ∧ (wr ((794 + (6 * x4)) + 0)) < 2737) (ck (((wr (m 247 (wr ((794 + (6 * x4)) + 0)))) = (wr x1)) → (0 ≤ (wr ((794 + (6 * x4)) + 3)) ∧ (wr ((794 + (6 * x4)) + 3)) < 2737)) (Z e (d + 1) 262 5 [.ref 246, .int (iI x1), .int (iI x2), .int (iI (if ((wr (m 247 (wr ((794 + (6 * x4)) + 0)))) = (wr x1)) ∧ ((wr (m 247 (wr ((794 + (6 * x4)) + 3)))) ≤ (wr x2)) then x4 else x3)), .int (iI (x4 + 1)), u5, u6, u7, u8, u9] [] m)) else Z e (d + 1) 262 59 [.ref 246, .int (iI x1), .int (iI x2), .int (iI x3), .int (iI x4), u5, u6, u7, u8, u9] [] m) := (s_il_4 p_262_5).trans <| (s_al_0 p_262_7).trans <| (s_getr p_262_8 hs_246 (by decide) rfl).trans <| (s_const p_262_11).trans <| (s_aldc p_262_12 hs_247 (by decide) wl_4 (by decide)).trans <| Eq.trans ((s_c_ge_f p_262_13 rfl rfl rfl)) <| ite_cg ((s_al_0 p_262_16).trans <| (s_getr p_262_17 hs_246 (by decide) rfl).trans <| (s_il_4 p_262_20).trans <| (s_const p_262_22).trans <| (s_cs2 (Lc := [.int (iI x4), .int (iI 0)]) p_262_23 (by decide) (zM_of zq_205) ⟨Nat.le_of_ble_eq_true rfl, Nat.le_of_ble_eq_true rfl⟩ rfl).trans <| (bd b_205_0).trans <| ri_k.trans <| (s_ald 2737 p_262_26 hs_247 rfl (by decide)).trans <| ck_cg fun k3 => (s_il_1 p_262_27).trans <| Eq.trans (Eq.trans (Eq.trans (s_c_ne_f p_262_28 rfl rfl rfl) <| Eq.trans (ite_cg ((s_al_0 p_262_31).trans <| (s_getr p_262_32 hs_246 (by decide) rfl).trans <| (s_il_4 p_262_35).trans <| (s_const p_262_37).trans <| (s_cs2 (Lc := [.int (iI x4), .int (iI 3)]) p_262_38 (by decide) (zM_of zq_205) ⟨Nat.le_of_ble_eq_true rfl, Nat.le_of_ble_eq_true rfl⟩ rfl).trans <| (bd b_205_0).trans <| ri_k.trans <| (s_ald 2737 p_262_41 hs_247 rfl (by decide)).trans <| ck_cg fun k4 => (s_il_2 p_262_42).trans <| (s_c_gt_f p_262_43 rfl rfl rfl)) rfl) <| Eq.trans ck_a <| ck_cg fun _ => co_and) <| ck_cg fun _ => Eq.trans (ite_cg ((s_il_4 p_262_46).trans <| (s_goto p_262_48 rfl).trans <| rfl) ((s_il_3 p_262_51).trans <| rfl)) (phi1 (fun z0 => Z e (d + 1) 262 52 [.ref 246, .int (iI x1), .int (iI x2), .int (iI x3), .int (iI x4), u5, u6, u7, u8, u9] [.int (iI z0)] m))) <| ck_cg fun _ => (s_is_3 cat_i p_262_52).trans <| (s_inc_4 cat_i p_262_53).trans <| (s_goto p_262_56 rfl).trans <| rfl) (rfl)
theorem b_262_59 {x1 : Int} {x2 : Int} {x3 : Int} {u4 u5 u6 u7 u8 u9 : Value} : Z e (d + 1) 262 59 [.ref 246, .int (iI x1), .int (iI x2), .int (iI x3), u4, u5, u6, u7, u8, u9] [] m = (if 0 ≤ (wr x3) then ck (0 ≤ (wr ((110 + (9 * x1)) + 0)) ∧ (wr ((110 + (9 * x1)) + 0)) < 2737) ((Z e d 250 0 [.ref 246, .int (iI x3), .int (iI (m 247 (wr ((110 + (9 * x1)) + 0)))), .int (iI x2)] [] m).bind (ZK e (d + 1) 262 79 [.ref 246, .int (iI x1), .int (iI x2), .int (iI x3), u4, u5, u6, u7, u8, u9] [] m)) else Z e (d + 1) 262 79 [.ref 246, .int (iI x1), .int (iI x2), .int (iI x3), u4, u5, u6, u7, u8, u9] [] m) := (s_il_3 p_262_59).trans <| Eq.trans ((s_z_lt_f p_262_60 rfl rfl)) <| ite_cg ((s_al_0 p_262_63).trans <| (s_il_3 p_262_64).trans <| (s_al_0 p_262_65).trans <| (s_getr p_262_66 hs_246 (by decide) rfl).trans <| (s_il_1 p_262_69).trans <| (s_const p_262_70).trans <| (s_cs2 (Lc := [.int (iI x1), .int (iI 0)]) p_262_71 (by decide) (zM_of zq_204) ⟨Nat.le_of_ble_eq_true rfl, Nat.le_of_ble_eq_true rfl⟩ rfl).trans <| (bd b_204_0).trans <| ri_k.trans <| (s_ald 2737 p_262_74 hs_247 rfl (by decide)).trans <| ck_cg fun k2 => (s_il_2 p_262_75).trans <| (s_cv3 (Lc := [.ref 246, .int (iI x3), .int (iI (m 247 (wr ((110 + (9 * x1)) + 0)))), .int (iI x2)]) p_262_76 (by decide) (by decide) (zM_of zq_250) ⟨Nat.le_of_ble_eq_true rfl, Nat.le_of_ble_eq_true rfl⟩ rfl (m_rc hs_246 ⟨rfl, by decide⟩))) (rfl)
theorem b_262_79 {x2 : Int} {x3 : Int} {u1 u4 u5 u6 u7 u8 u9 : Value} : Z e (d + 1) 262 79 [.ref 246, u1, .int (iI x2), .int (iI x3), u4, u5, u6, u7, u8, u9] [] m = Z e (d + 1) 262 86 [.ref 246, u1, .int (iI x2), .int (iI x3), .int (iI 10), .int (iI 0), u6, u7, u8, u9] [] m := (s_bip p_262_79 rfl).trans <| (s_is_4 cat_i p_262_81).trans <| (s_const p_262_83).trans <| (s_is_5 cat_i p_262_84).trans <| rfl
theorem b_262_86 {x2 : Int} {x3 : Int} {x4 : Int} {x5 : Int} {u1 u6 u7 u8 u9 : Value} : Z e (d + 1) 262 86 [.ref 246, u1, .int (iI x2), .int (iI x3), .int (iI x4), .int (iI x5), u6, u7, u8, u9] [] m = (if (wr x5) < 3 then (Z e d 220 0 [.ref 246, .int (iI x5), .int (iI x2), .retAddr 0, .retAddr 0] [] m).bind (ZK e (d + 1) 262 99 [.ref 246, u1, .int (iI x2), .int (iI x3), .int (iI x4), .int (iI x5), u6, u7, u8, u9] [] m) else ri x4 m) := (s_il_5 p_262_86).trans <| (s_const p_262_88).trans <| Eq.trans ((s_c_ge_f p_262_89 rfl rfl wl_3)) <| ite_cg ((s_al_0 p_262_92).trans <| (s_il_5 p_262_93).trans <| (s_il_2 p_262_95).trans <| (s_cv2 (Lc := [.ref 246, .int (iI x5), .int (iI x2), .retAddr 0, .retAddr 0]) p_262_96 (by decide) (by decide) (zM_of zq_220) ⟨Nat.le_of_ble_eq_true rfl, Nat.le_of_ble_eq_true rfl⟩ rfl (m_rc hs_246 ⟨rfl, by decide⟩))) ((s_il_4 p_262_260).trans <| (s_reti p_262_262 (zM_of zq_262)))
theorem b_262_99 {x2 : Int} {x3 : Int} {x4 : Int} {x5 : Int} {xs0 : Int} {u1 u6 u7 u8 u9 : Value} : Z e (d + 1) 262 99 [.ref 246, u1, .int (iI x2), .int (iI x3), .int (iI x4), .int (iI x5), u6, u7, u8, u9] [.int (iI xs0)] m = Z e (d + 1) 262 104 [.ref 246, u1, .int (iI x2), .int (iI x3), .int (iI x4), .int (iI x5), .int (iI xs0), .int (iI 0), u8, u9] [] m := (s_is_6 cat_i p_262_99).trans <| (s_const p_262_101).trans <| (s_is_7 cat_i p_262_102).trans <| rfl
theorem b_262_104 {x2 : Int} {x3 : Int} {x4 : Int} {x5 : Int} {x6 : Int} {x7 : Int} {u1 u8 u9 : Value} : Z e (d + 1) 262 104 [.ref 246, u1, .int (iI x2), .int (iI x3), .int (iI x4), .int (iI x5), .int (iI x6), .int (iI x7), u8, u9] [] m = ck ((0 ≤ (wr x6)) → (0 ≤ (wr ((266 + (44 * x6)) + 3)) ∧ (wr ((266 + (44 * x6)) + 3)) < 2737)) (if (0 ≤ (wr x6)) ∧ ((wr x7) < (wr (m 247 (wr ((266 + (44 * x6)) + 3))))) then ck (0 ≤ (wr ((266 + (44 * x6)) + ((4 + (4 * x7)) + 2))) ∧ (wr ((266 + (44 * x6)) + ((4 + (4 * x7)) + 2))) < 2737) (ck (0 ≤ (wr ((266 + (44 * x6)) + ((4 + (4 * x7)) + 3))) ∧ (wr ((266 + (44 * x6)) + ((4 + (4 * x7)) + 3))) < 2737) (ck (0 ≤ (wr ((266 + (44 * x6)) + (4 + (4 * x7)))) ∧ (wr ((266 + (44 * x6)) + (4 + (4 * x7)))) < 2737) ((if (wr (m 247 (wr ((266 + (44 * x6)) + (4 + (4 * x7)))))) = 4 then (if ¬ ((wr (m 247 (wr ((266 + (44 * x6)) + ((4 + (4 * x7)) + 2))))) = (wr (m 247 (wr ((266 + (44 * x6)) + ((4 + (4 * x7)) + 3)))))) then (if 0 ≤ (wr x3) then (Z e d 251 0 [.ref 246, .int (iI x6), .int (iI x7), .retAddr 0, .retAddr 0, .retAddr 0, .retAddr 0, .retAddr 0] [] m).bind (ZK e (d + 1) 262 208 [.ref 246, u1, .int (iI x2), .int (iI x3), .int (iI x4), .int (iI x5), .int (iI x6), .int (iI x7), .int (iI (if (wr (m 247 (wr ((266 + (44 * x6)) + ((4 + (4 * x7)) + 2))))) = (wr (m 247 (wr ((266 + (44 * x6)) + ((4 + (4 * x7)) + 3))))) then 1 else 0)), u9] [] m) else Z e (d + 1) 262 216 [.ref 246, u1, .int (iI x2), .int (iI x3), .int (iI x4), .int (iI x5), .int (iI x6), .int (iI x7), .int (iI (if (wr (m 247 (wr ((266 + (44 * x6)) + ((4 + (4 * x7)) + 2))))) = (wr (m 247 (wr ((266 + (44 * x6)) + ((4 + (4 * x7)) + 3))))) then 1 else 0)), u9] [.int (iI 0)] m) else Z e (d + 1) 262 216 [.ref 246, u1, .int (iI x2), .int (iI x3), .int (iI x4), .int (iI x5), .int (iI x6), .int (iI x7), .int (iI (if (wr (m 247 (wr ((266 + (44 * x6)) + ((4 + (4 * x7)) + 2))))) = (wr (m 247 (wr ((266 + (44 * x6)) + ((4 + (4 * x7)) + 3))))) then 1 else 0)), u9] [.int (iI 1)] m) else Z e (d + 1) 262 216 [.ref 246, u1, .int (iI x2), .int (iI x3), .int (iI x4), .int (iI x5), .int (iI x6), .int (iI x7), .int (iI (if (wr (m 247 (wr ((266 + (44 * x6)) + ((4 + (4 * x7)) + 2))))) = (wr (m 247 (wr ((266 + (44 * x6)) + ((4 + (4 * x7)) + 3))))) then 1 else 0)), u9] [.int (iI 0)] m)))) else Z e (d + 1) 262 86 [.ref 246, u1, .int (iI x2), .int (iI x3), .int (iI x4), .int (iI (x5 + 1)), .int (iI x6), .int (iI x7), u8, u9] [] m) := (s_il_6 p_262_104).trans <| Eq.trans (Eq.trans (s_z_lt_f p_262_106 rfl rfl) <| Eq.trans (ite_cg ((s_il_7 p_262_109).trans <| (s_al_0 p_262_111).trans <| (s_getr p_262_112 hs_246 (by decide) rfl).trans <| (s_il_6 p_262_115).trans <| (s_const p_262_117).trans <| (s_cs2 (Lc := [.int (iI x6), .int (iI 3)]) p_262_118 (by decide) (zM_of zq_218) ⟨Nat.le_of_ble_eq_true rfl, Nat.le_of_ble_eq_true rfl⟩ rfl).trans <| (bd b_218_0).trans <| ri_k.trans <| (s_ald 2737 p_262_121 hs_247 rfl (by decide)).trans <| ck_cg fun k5 => (s_c_ge_f p_262_122 rfl rfl rfl)) rfl) <| Eq.trans ck_a <| ck_cg fun _ => co_and) <| ck_cg fun _ => ite_cg ((s_al_0 p_262_125).trans <| (s_getr p_262_126 hs_246 (by decide) rfl).trans <| (s_il_6 p_262_129).trans <| (s_const p_262_131).trans <| (s_const p_262_132).trans <| (s_il_7 p_262_133).trans <| (s_imul p_262_135).trans <| (s_iadd p_262_136).trans <| (s_const p_262_137).trans <| (s_iadd p_262_138).trans <| (s_cs2 (Lc := [.int (iI x6), .int (iI ((4 + (4 * x7)) + 2))]) p_262_139 (by decide) (zM_of zq_218) ⟨Nat.le_of_ble_eq_true rfl, Nat.le_of_ble_eq_true rfl⟩ rfl).trans <| (bd b_218_0).trans <| ri_k.trans <| (s_ald 2737 p_262_142 hs_247 rfl (by decide)).trans <| ck_cg fun k6 => (s_al_0 p_262_143).trans <| (s_getr p_262_144 hs_246 (by decide) rfl).trans <| (s_il_6 p_262_147).trans <| (s_const p_262_149).trans <| (s_const p_262_150).trans <| (s_il_7 p_262_151).trans <| (s_imul p_262_153).trans <| (s_iadd p_262_154).trans <| (s_const p_262_155).trans <| (s_iadd p_262_156).trans <| (s_cs2 (Lc := [.int (iI x6), .int (iI ((4 + (4 * x7)) + 3))]) p_262_157 (by decide) (zM_of zq_218) ⟨Nat.le_of_ble_eq_true rfl, Nat.le_of_ble_eq_true rfl⟩ rfl).trans <| (bd b_218_0).trans <| ri_k.trans <| (s_ald 2737 p_262_160 hs_247 rfl (by decide)).trans <| ck_cg fun k7 => Eq.trans (Eq.trans ((s_c_ne_f p_262_161 rfl rfl rfl)) <| Eq.trans (ite_cg ((s_const p_262_164).trans <| (s_goto p_262_165 rfl).trans <| rfl) ((s_const p_262_168).trans <| rfl)) (phi1 (fun z0 => Z e (d + 1) 262 169 [.ref 246, u1, .int (iI x2), .int (iI x3), .int (iI x4), .int (iI x5), .int (iI x6), .int (iI x7), u8, u9] [.int (iI z0)] m))) <| (s_is_8 cat_i p_262_169).trans <| (s_al_0 p_262_171).trans <| (s_getr p_262_172 hs_246 (by decide) rfl).trans <| (s_il_6 p_262_175).trans <| (s_const p_262_177).trans <| (s_const p_262_178).trans <| (s_il_7 p_262_179).trans <| (s_imul p_262_181).trans <| (s_iadd p_262_182).trans <| (s_cs2 (Lc := [.int (iI x6), .int (iI (4 + (4 * x7)))]) p_262_183 (by decide) (zM_of zq_218) ⟨Nat.le_of_ble_eq_true rfl, Nat.le_of_ble_eq_true rfl⟩ rfl).trans <| (bd b_218_0).trans <| ri_k.trans <| (s_ald 2737 p_262_186 hs_247 rfl (by decide)).trans <| ck_cg fun k8 => (s_const p_262_187).trans <| Eq.trans ((s_c_ne_f p_262_188 rfl rfl wl_4)) <| ite_cg ((s_il_8 p_262_191).trans <| Eq.trans ((s_bne_f p_262_193 rfl)) <| ite_cg ((s_il_3 p_262_196).trans <| Eq.trans ((s_z_lt_f p_262_197 rfl rfl)) <| ite_cg ((s_al_0 p_262_200).trans <| (s_il_6 p_262_201).trans <| (s_il_7 p_262_203).trans <| (s_cv2 (Lc := [.ref 246, .int (iI x6), .int (iI x7), .retAddr 0, .retAddr 0, .retAddr 0, .retAddr 0, .retAddr 0]) p_262_205 (by decide) (by decide) (zM_of zq_251) ⟨Nat.le_of_ble_eq_true rfl, Nat.le_of_ble_eq_true rfl⟩ rfl (m_rc hs_246 ⟨rfl, by decide⟩))) ((s_const p_262_215).trans <| rfl)) ((s_const p_262_211).trans <| (s_goto p_262_212 rfl).trans <| rfl)) ((s_const p_262_215).trans <| rfl)) ((s_inc_5 cat_i p_262_254).trans <| (s_goto p_262_257 rfl).trans <| rfl)
theorem b_262_216 {x2 : Int} {x3 : Int} {x4 : Int} {x5 : Int} {x6 : Int} {x7 : Int} {xs0 : Int} {u1 u8 u9 : Value} (hu8 : u8.category = 1) : Z e (d + 1) 262 216 [.ref 246, u1, .int (iI x2), .int (iI x3), .int (iI x4), .int (iI x5), .int (iI x6), .int (iI x7), u8, u9] [.int (iI xs0)] m = ck ((¬ (wr xs0) = 0) → (0 ≤ (wr ((266 + (44 * x6)) + ((4 + (4 * x7)) + 1))) ∧ (wr ((266 + (44 * x6)) + ((4 + (4 * x7)) + 1))) < 2737)) (Z e (d + 1) 262 104 [.ref 246, u1, .int (iI x2), .int (iI x3), .int (iI (if ¬ (wr xs0) = 0 then (m 247 (wr ((266 + (44 * x6)) + ((4 + (4 * x7)) + 1)))) else x4)), .int (iI x5), .int (iI x6), .int (iI (x7 + 1)), u8, .int (iI xs0)] [] m) := (s_is_9 hu8 p_262_216).trans <| (s_il_9 p_262_218).trans <| Eq.trans (Eq.trans ((s_z_eq_f p_262_220 rfl rfl)) <| Eq.trans (ite_cg ((s_al_0 p_262_223).trans <| (s_getr p_262_224 hs_246 (by decide) rfl).trans <| (s_il_6 p_262_227).trans <| (s_const p_262_229).trans <| (s_const p_262_230).trans <| (s_il_7 p_262_231).trans <| (s_imul p_262_233).trans <| (s_iadd p_262_234).trans <| (s_const p_262_235).trans <| (s_iadd p_262_236).trans <| (s_cs2 (Lc := [.int (iI x6), .int (iI ((4 + (4 * x7)) + 1))]) p_262_237 (by decide) (zM_of zq_218) ⟨Nat.le_of_ble_eq_true rfl, Nat.le_of_ble_eq_true rfl⟩ rfl).trans <| (bd b_218_0).trans <| ri_k.trans <| (s_ald 2737 p_262_240 hs_247 rfl (by decide)).trans <| ck_cg fun k1 => (s_goto p_262_241 rfl).trans <| rfl) ((s_il_4 p_262_244).trans <| rfl)) <| Eq.trans ck_a <| ck_cg fun _ => (phi1 (fun z0 => Z e (d + 1) 262 246 [.ref 246, u1, .int (iI x2), .int (iI x3), .int (iI x4), .int (iI x5), .int (iI x6), .int (iI x7), u8, .int (iI xs0)] [.int (iI z0)] m))) <| ck_cg fun _ => (s_is_4 cat_i p_262_246).trans <| (s_inc_7 cat_i p_262_248).trans <| (s_goto p_262_251 rfl).trans <| rfl
theorem b_262_208 {x2 : Int} {x3 : Int} {x4 : Int} {x5 : Int} {x6 : Int} {x7 : Int} {xs0 : Int} {u1 u8 u9 : Value} : Z e (d + 1) 262 208 [.ref 246, u1, .int (iI x2), .int (iI x3), .int (iI x4), .int (iI x5), .int (iI x6), .int (iI x7), u8, u9] [.int (iI xs0)] m = Z e (d + 1) 262 216 [.ref 246, u1, .int (iI x2), .int (iI x3), .int (iI x4), .int (iI x5), .int (iI x6), .int (iI x7), u8, u9] [.int (iI (if ¬ (wr xs0) = 0 then 1 else 0))] m := Eq.trans (Eq.trans ((s_z_eq_f p_262_208 rfl rfl)) <| Eq.trans (ite_cg ((s_const p_262_211).trans <| (s_goto p_262_212 rfl).trans <| rfl) ((s_const p_262_215).trans <| rfl)) (phi1 (fun z0 => Z e (d + 1) 262 216 [.ref 246, u1, .int (iI x2), .int (iI x3), .int (iI x4), .int (iI x5), .int (iI x6), .int (iI x7), u8, u9] [.int (iI z0)] m))) <| rfl
-- M.cost
theorem p_263_0 : zP1 263 0 = some (.aload_n 0, 0, 0, 0) := zp_l zq_263 rfl
theorem p_263_1 : zP1 263 1 = some (.iload_n 1, 0, 0, 0) := zp_l zq_263 rfl
theorem p_263_2 : zP1 263 2 = some (.invokevirtual 138, 202, 1, 11) := zp_r zq_263 rfl
theorem p_263_5 : zP1 263 5 = some (.ifCond .eq 10, 0, 0, 0) := zp_l zq_263 rfl
theorem p_263_8 : zP1 263 8 = some (.iload_n 2, 0, 0, 0) := zp_l zq_263 rfl
theorem p_263_9 : zP1 263 9 = some (.invokestatic 154, 201, 1, 0) := zp_r zq_263 rfl
theorem p_263_12 : zP1 263 12 = some (.ifCond .ne 7, 0, 0, 0) := zp_l zq_263 rfl
theorem p_263_15 : zP1 263 15 = some (.iconst (-1), 0, 0, 0) := zp_l zq_263 rfl
theorem p_263_16 : zP1 263 16 = some (.goto 9, 0, 0, 0) := zp_l zq_263 rfl
theorem p_263_19 : zP1 263 19 = some (.aload_n 0, 0, 0, 0) := zp_l zq_263 rfl
theorem p_263_20 : zP1 263 20 = some (.iload_n 1, 0, 0, 0) := zp_l zq_263 rfl
theorem p_263_21 : zP1 263 21 = some (.iload_n 2, 0, 0, 0) := zp_l zq_263 rfl
theorem p_263_22 : zP1 263 22 = some (.invokevirtual 325, 262, 2, 11) := zp_r zq_263 rfl
theorem p_263_25 : zP1 263 25 = some (.ireturn, 0, 0, 0) := zp_l zq_263 rfl
theorem b_263_0 {x1 : Int} {x2 : Int} : Z e (d + 2) 263 0 [.ref 246, .int (iI x1), .int (iI x2)] [] m = (if (¬ (((wr 0) ≤ (wr x1)) ∧ ((wr x1) ≤ (wr ((m 247 1) - 1))))) ∨ (¬ (((wr 0) ≤ (wr x2)) ∧ ((wr x2) ≤ (wr 9999)))) then ri (-1) m else (Z e (d + 1) 262 0 [.ref 246, .int (iI x1), .int (iI x2), .retAddr 0, .retAddr 0, .retAddr 0, .retAddr 0, .retAddr 0, .retAddr 0, .retAddr 0] [] m).bind (ZK e (d + 2) 263 25 [.ref 246, .int (iI x1), .int (iI x2)] [] m)) := (s_al_0 p_263_0).trans <| (s_il_1 p_263_1).trans <| (s_cv1 (Lc := [.ref 246, .int (iI x1)]) p_263_2 (by decide) (by decide) (zM_of zq_202) ⟨Nat.le_of_ble_eq_true rfl, Nat.le_of_ble_eq_true rfl⟩ rfl (m_rc hs_246 ⟨rfl, by decide⟩)).trans <| (bd b_202_0).trans <| ri_k.trans <| Eq.trans (Eq.trans (s_beq_t p_263_5 rfl) <| Eq.trans (ite_cg rfl ((s_il_2 p_263_8).trans <| (s_cs1 (Lc := [.int (iI x2)]) p_263_9 (by decide) (zM_of zq_201) ⟨Nat.le_of_ble_eq_true rfl, Nat.le_of_ble_eq_true rfl⟩ rfl).trans <| (bd b_201_0).trans <| ri_k.trans <| (s_bne_f p_263_12 rfl))) co_or) <| ite_cg ((s_const p_263_15).trans <| (s_goto p_263_16 rfl).trans <| (s_reti p_263_25 (zM_of zq_263))) ((s_al_0 p_263_19).trans <| (s_il_1 p_263_20).trans <| (s_il_2 p_263_21).trans <| (s_cv2 (Lc := [.ref 246, .int (iI x1), .int (iI x2), .retAddr 0, .retAddr 0, .retAddr 0, .retAddr 0, .retAddr 0, .retAddr 0, .retAddr 0]) p_263_22 (by decide) (by decide) (zM_of zq_262) ⟨Nat.le_of_ble_eq_true rfl, Nat.le_of_ble_eq_true rfl⟩ rfl (m_rc hs_246 ⟨rfl, by decide⟩)))
theorem b_263_25 {xs0 : Int} {u0 u1 u2 : Value} : Z e (d + 2) 263 25 [u0, u1, u2] [.int (iI xs0)] m = ri xs0 m := (s_reti p_263_25 (zM_of zq_263))
-- M.becomes
theorem p_264_0 : zP1 264 0 = some (.aload_n 0, 0, 0, 0) := zp_l zq_264 rfl
theorem p_264_1 : zP1 264 1 = some (.getfield 9, 11, 0, 0) := zp_r zq_264 rfl
theorem p_264_4 : zP1 264 4 = some (.iload_n 1, 0, 0, 0) := zp_l zq_264 rfl
theorem p_264_5 : zP1 264 5 = some (.iconst 2, 0, 0, 0) := zp_l zq_264 rfl
theorem p_264_6 : zP1 264 6 = some (.invokestatic 129, 204, 2, 0) := zp_r zq_264 rfl
theorem p_264_9 : zP1 264 9 = some (.iload_n 2, 0, 0, 0) := zp_l zq_264 rfl
theorem p_264_10 : zP1 264 10 = some (.iastore, 0, 0, 0) := zp_l zq_264 rfl
theorem p_264_11 : zP1 264 11 = some (.aload_n 0, 0, 0, 0) := zp_l zq_264 rfl
theorem p_264_12 : zP1 264 12 = some (.getfield 9, 11, 0, 0) := zp_r zq_264 rfl
theorem p_264_15 : zP1 264 15 = some (.iload_n 1, 0, 0, 0) := zp_l zq_264 rfl
theorem p_264_16 : zP1 264 16 = some (.iconst 3, 0, 0, 0) := zp_l zq_264 rfl
theorem p_264_17 : zP1 264 17 = some (.invokestatic 129, 204, 2, 0) := zp_r zq_264 rfl
theorem p_264_20 : zP1 264 20 = some (.aload_n 0, 0, 0, 0) := zp_l zq_264 rfl
theorem p_264_21 : zP1 264 21 = some (.getfield 9, 11, 0, 0) := zp_r zq_264 rfl
theorem p_264_24 : zP1 264 24 = some (.iconst 0, 0, 0, 0) := zp_l zq_264 rfl
theorem p_264_25 : zP1 264 25 = some (.iaload, 0, 0, 0) := zp_l zq_264 rfl
theorem p_264_26 : zP1 264 26 = some (.iastore, 0, 0, 0) := zp_l zq_264 rfl
theorem p_264_27 : zP1 264 27 = some (.iconst 1, 0, 0, 0) := zp_l zq_264 rfl
theorem p_264_28 : zP1 264 28 = some (.ireturn, 0, 0, 0) := zp_l zq_264 rfl
theorem b_264_0 {x1 : Int} {x2 : Int} : Z e (d + 1) 264 0 [.ref 246, .int (iI x1), .int (iI x2)] [] m = ck (0 ≤ (wr ((110 + (9 * x1)) + 2)) ∧ (wr ((110 + (9 * x1)) + 2)) < 2737) (ck (0 ≤ (wr ((110 + (9 * x1)) + 3)) ∧ (wr ((110 + (9 * x1)) + 3)) < 2737) (ri 1 (um (um m 247 (wr ((110 + (9 * x1)) + 2)) x2) 247 (wr ((110 + (9 * x1)) + 3)) ((um m 247 (wr ((110 + (9 * x1)) + 2)) x2) 247 0)))) := (s_al_0 p_264_0).trans <| (s_getr p_264_1 hs_246 (by decide) rfl).trans <| (s_il_1 p_264_4).trans <| (s_const p_264_5).trans <| (s_cs2 (Lc := [.int (iI x1), .int (iI 2)]) p_264_6 (by decide) (zM_of zq_204) ⟨Nat.le_of_ble_eq_true rfl, Nat.le_of_ble_eq_true rfl⟩ rfl).trans <| (bd b_204_0).trans <| ri_k.trans <| (s_il_2 p_264_9).trans <| (s_ast 2737 p_264_10 hs_247 rfl).trans <| ck_cg fun k1 => (s_al_0 p_264_11).trans <| (s_getr p_264_12 hs_246 (by decide) rfl).trans <| (s_il_1 p_264_15).trans <| (s_const p_264_16).trans <| (s_cs2 (Lc := [.int (iI x1), .int (iI 3)]) p_264_17 (by decide) (zM_of zq_204) ⟨Nat.le_of_ble_eq_true rfl, Nat.le_of_ble_eq_true rfl⟩ rfl).trans <| (bd b_204_0).trans <| ri_k.trans <| (s_al_0 p_264_20).trans <| (s_getr p_264_21 hs_246 (by decide) rfl).trans <| (s_const p_264_24).trans <| (s_aldc p_264_25 hs_247 (by decide) wl_0 (by decide)).trans <| (s_ast 2737 p_264_26 hs_247 rfl).trans <| ck_cg fun k2 => (s_const p_264_27).trans <| (s_reti p_264_28 (zM_of zq_264))
-- M.isNot
theorem p_265_0 : zP1 265 0 = some (.aload_n 0, 0, 0, 0) := zp_l zq_265 rfl
theorem p_265_1 : zP1 265 1 = some (.getfield 9, 11, 0, 0) := zp_r zq_265 rfl
theorem p_265_4 : zP1 265 4 = some (.iload_n 1, 0, 0, 0) := zp_l zq_265 rfl
theorem p_265_5 : zP1 265 5 = some (.iconst 2, 0, 0, 0) := zp_l zq_265 rfl
theorem p_265_6 : zP1 265 6 = some (.invokestatic 129, 204, 2, 0) := zp_r zq_265 rfl
theorem p_265_9 : zP1 265 9 = some (.iaload, 0, 0, 0) := zp_l zq_265 rfl
theorem p_265_10 : zP1 265 10 = some (.iload_n 2, 0, 0, 0) := zp_l zq_265 rfl
theorem p_265_11 : zP1 265 11 = some (.if_icmp .eq 7, 0, 0, 0) := zp_l zq_265 rfl
theorem p_265_14 : zP1 265 14 = some (.iconst 1, 0, 0, 0) := zp_l zq_265 rfl
theorem p_265_15 : zP1 265 15 = some (.goto 4, 0, 0, 0) := zp_l zq_265 rfl
theorem p_265_18 : zP1 265 18 = some (.iconst 0, 0, 0, 0) := zp_l zq_265 rfl
theorem p_265_19 : zP1 265 19 = some (.ireturn, 0, 0, 0) := zp_l zq_265 rfl
theorem b_265_0 {x1 : Int} {x2 : Int} : Z e (d + 1) 265 0 [.ref 246, .int (iI x1), .int (iI x2)] [] m = ck (0 ≤ (wr ((110 + (9 * x1)) + 2)) ∧ (wr ((110 + (9 * x1)) + 2)) < 2737) (ri (if ¬ (wr (m 247 (wr ((110 + (9 * x1)) + 2)))) = (wr x2) then 1 else 0) m) := (s_al_0 p_265_0).trans <| (s_getr p_265_1 hs_246 (by decide) rfl).trans <| (s_il_1 p_265_4).trans <| (s_const p_265_5).trans <| (s_cs2 (Lc := [.int (iI x1), .int (iI 2)]) p_265_6 (by decide) (zM_of zq_204) ⟨Nat.le_of_ble_eq_true rfl, Nat.le_of_ble_eq_true rfl⟩ rfl).trans <| (bd b_204_0).trans <| ri_k.trans <| (s_ald 2737 p_265_9 hs_247 rfl (by decide)).trans <| ck_cg fun k1 => (s_il_2 p_265_10).trans <| Eq.trans (Eq.trans ((s_c_eq_f p_265_11 rfl rfl rfl)) <| Eq.trans (ite_cg ((s_const p_265_14).trans <| (s_goto p_265_15 rfl).trans <| rfl) ((s_const p_265_18).trans <| rfl)) (phi1 (fun z0 => Z e (d + 1) 265 19 [.ref 246, .int (iI x1), .int (iI x2)] [.int (iI z0)] m))) <| (s_retb p_265_19 (zM_of zq_265))
-- M.seek
theorem p_266_0 : zP1 266 0 = some (.aload_n 0, 0, 0, 0) := zp_l zq_266 rfl
theorem p_266_1 : zP1 266 1 = some (.iload_n 1, 0, 0, 0) := zp_l zq_266 rfl
theorem p_266_2 : zP1 266 2 = some (.invokevirtual 138, 202, 1, 11) := zp_r zq_266 rfl
theorem p_266_5 : zP1 266 5 = some (.ifCond .ne 5, 0, 0, 0) := zp_l zq_266 rfl
theorem p_266_8 : zP1 266 8 = some (.iconst (-1), 0, 0, 0) := zp_l zq_266 rfl
theorem p_266_9 : zP1 266 9 = some (.ireturn, 0, 0, 0) := zp_l zq_266 rfl
theorem p_266_10 : zP1 266 10 = some (.aload_n 0, 0, 0, 0) := zp_l zq_266 rfl
theorem p_266_11 : zP1 266 11 = some (.iload_n 1, 0, 0, 0) := zp_l zq_266 rfl
theorem p_266_12 : zP1 266 12 = some (.iconst 0, 0, 0, 0) := zp_l zq_266 rfl
theorem p_266_13 : zP1 266 13 = some (.invokevirtual 328, 265, 2, 11) := zp_r zq_266 rfl
theorem p_266_16 : zP1 266 16 = some (.ifCond .ne 11, 0, 0, 0) := zp_l zq_266 rfl
theorem p_266_19 : zP1 266 19 = some (.aload_n 0, 0, 0, 0) := zp_l zq_266 rfl
theorem p_266_20 : zP1 266 20 = some (.iload_n 1, 0, 0, 0) := zp_l zq_266 rfl
theorem p_266_21 : zP1 266 21 = some (.invokevirtual 331, 259, 1, 11) := zp_r zq_266 rfl
theorem p_266_24 : zP1 266 24 = some (.ifCond .ne 8, 0, 0, 0) := zp_l zq_266 rfl
theorem p_266_27 : zP1 266 27 = some (.bipush (-4), 0, 0, 0) := zp_l zq_266 rfl
theorem p_266_29 : zP1 266 29 = some (.goto 9, 0, 0, 0) := zp_l zq_266 rfl
theorem p_266_32 : zP1 266 32 = some (.aload_n 0, 0, 0, 0) := zp_l zq_266 rfl
theorem p_266_33 : zP1 266 33 = some (.iload_n 1, 0, 0, 0) := zp_l zq_266 rfl
theorem p_266_34 : zP1 266 34 = some (.iconst 1, 0, 0, 0) := zp_l zq_266 rfl
theorem p_266_35 : zP1 266 35 = some (.invokevirtual 334, 264, 2, 11) := zp_r zq_266 rfl
theorem p_266_38 : zP1 266 38 = some (.ireturn, 0, 0, 0) := zp_l zq_266 rfl
theorem b_266_0 {x1 : Int} : Z e (d + 2) 266 0 [.ref 246, .int (iI x1)] [] m = (if ¬ (((wr 0) ≤ (wr x1)) ∧ ((wr x1) ≤ (wr ((m 247 1) - 1)))) then ri (-1) m else ck (0 ≤ (wr ((110 + (9 * x1)) + 2)) ∧ (wr ((110 + (9 * x1)) + 2)) < 2737) ((if ¬ (¬ (wr (m 247 (wr ((110 + (9 * x1)) + 2)))) = (wr 0)) then (Z e (d + 1) 259 0 [.ref 246, .int (iI x1)] [] m).bind (ZK e (d + 2) 266 24 [.ref 246, .int (iI x1)] [] m) else ri (-4) m))) := (s_al_0 p_266_0).trans <| (s_il_1 p_266_1).trans <| (s_cv1 (Lc := [.ref 246, .int (iI x1)]) p_266_2 (by decide) (by decide) (zM_of zq_202) ⟨Nat.le_of_ble_eq_true rfl, Nat.le_of_ble_eq_true rfl⟩ rfl (m_rc hs_246 ⟨rfl, by decide⟩)).trans <| (bd b_202_0).trans <| ri_k.trans <| Eq.trans ((s_bne_f p_266_5 rfl)) <| ite_cg ((s_const p_266_8).trans <| (s_reti p_266_9 (zM_of zq_266))) ((s_al_0 p_266_10).trans <| (s_il_1 p_266_11).trans <| (s_const p_266_12).trans <| (s_cv2 (Lc := [.ref 246, .int (iI x1), .int (iI 0)]) p_266_13 (by decide) (by decide) (zM_of zq_265) ⟨Nat.le_of_ble_eq_true rfl, Nat.le_of_ble_eq_true rfl⟩ rfl (m_rc hs_246 ⟨rfl, by decide⟩)).trans <| (bd b_265_0).trans <| ck_bind.trans <| ck_cg fun _ => ri_k.trans <| Eq.trans ((s_bne_f p_266_16 rfl)) <| ite_cg ((s_al_0 p_266_19).trans <| (s_il_1 p_266_20).trans <| (s_cv1 (Lc := [.ref 246, .int (iI x1)]) p_266_21 (by decide) (by decide) (zM_of zq_259) ⟨Nat.le_of_ble_eq_true rfl, Nat.le_of_ble_eq_true rfl⟩ rfl (m_rc hs_246 ⟨rfl, by decide⟩))) ((s_bip p_266_27 rfl).trans <| (s_goto p_266_29 rfl).trans <| (s_reti p_266_38 (zM_of zq_266))))
theorem b_266_24 {x1 : Int} {xs0 : Int} : Z e (d + 2) 266 24 [.ref 246, .int (iI x1)] [.int (iI xs0)] m = (if (wr xs0) = 0 then ri (-4) m else ck (0 ≤ (wr ((110 + (9 * x1)) + 2)) ∧ (wr ((110 + (9 * x1)) + 2)) < 2737) (ck (0 ≤ (wr ((110 + (9 * x1)) + 3)) ∧ (wr ((110 + (9 * x1)) + 3)) < 2737) (ri 1 (um (um m 247 (wr ((110 + (9 * x1)) + 2)) 1) 247 (wr ((110 + (9 * x1)) + 3)) ((um m 247 (wr ((110 + (9 * x1)) + 2)) 1) 247 0))))) := Eq.trans ((s_z_ne_f p_266_24 rfl rfl)) <| ite_cg ((s_bip p_266_27 rfl).trans <| (s_goto p_266_29 rfl).trans <| (s_reti p_266_38 (zM_of zq_266))) ((s_al_0 p_266_32).trans <| (s_il_1 p_266_33).trans <| (s_const p_266_34).trans <| (s_cv2 (Lc := [.ref 246, .int (iI x1), .int (iI 1)]) p_266_35 (by decide) (by decide) (zM_of zq_264) ⟨Nat.le_of_ble_eq_true rfl, Nat.le_of_ble_eq_true rfl⟩ rfl (m_rc hs_246 ⟨rfl, by decide⟩)).trans <| (bd b_264_0).trans <| ck_bind.trans <| ck_cg fun _ => ck_bind.trans <| ck_cg fun _ => ri_k.trans <| (s_reti p_266_38 (zM_of zq_266)))
-- M.swear
theorem p_267_0 : zP1 267 0 = some (.aload_n 0, 0, 0, 0) := zp_l zq_267 rfl
theorem p_267_1 : zP1 267 1 = some (.iload_n 1, 0, 0, 0) := zp_l zq_267 rfl
theorem p_267_2 : zP1 267 2 = some (.invokevirtual 138, 202, 1, 11) := zp_r zq_267 rfl
theorem p_267_5 : zP1 267 5 = some (.ifCond .ne 5, 0, 0, 0) := zp_l zq_267 rfl
theorem p_267_8 : zP1 267 8 = some (.iconst (-1), 0, 0, 0) := zp_l zq_267 rfl
theorem p_267_9 : zP1 267 9 = some (.ireturn, 0, 0, 0) := zp_l zq_267 rfl
theorem p_267_10 : zP1 267 10 = some (.aload_n 0, 0, 0, 0) := zp_l zq_267 rfl
theorem p_267_11 : zP1 267 11 = some (.getfield 9, 11, 0, 0) := zp_r zq_267 rfl
theorem p_267_14 : zP1 267 14 = some (.iconst 0, 0, 0, 0) := zp_l zq_267 rfl
theorem p_267_15 : zP1 267 15 = some (.iaload, 0, 0, 0) := zp_l zq_267 rfl
theorem p_267_16 : zP1 267 16 = some (.aload_n 0, 0, 0, 0) := zp_l zq_267 rfl
theorem p_267_17 : zP1 267 17 = some (.getfield 9, 11, 0, 0) := zp_r zq_267 rfl
theorem p_267_20 : zP1 267 20 = some (.iload_n 1, 0, 0, 0) := zp_l zq_267 rfl
theorem p_267_21 : zP1 267 21 = some (.iconst 3, 0, 0, 0) := zp_l zq_267 rfl
theorem p_267_22 : zP1 267 22 = some (.invokestatic 129, 204, 2, 0) := zp_r zq_267 rfl
theorem p_267_25 : zP1 267 25 = some (.iaload, 0, 0, 0) := zp_l zq_267 rfl
theorem p_267_26 : zP1 267 26 = some (.bipush 24, 0, 0, 0) := zp_l zq_267 rfl
theorem p_267_28 : zP1 267 28 = some (.aload_n 0, 0, 0, 0) := zp_l zq_267 rfl
theorem p_267_29 : zP1 267 29 = some (.aload_n 0, 0, 0, 0) := zp_l zq_267 rfl
theorem p_267_30 : zP1 267 30 = some (.getfield 9, 11, 0, 0) := zp_r zq_267 rfl
theorem p_267_33 : zP1 267 33 = some (.iconst 0, 0, 0, 0) := zp_l zq_267 rfl
theorem p_267_34 : zP1 267 34 = some (.iaload, 0, 0, 0) := zp_l zq_267 rfl
theorem p_267_35 : zP1 267 35 = some (.iconst 2, 0, 0, 0) := zp_l zq_267 rfl
theorem p_267_36 : zP1 267 36 = some (.invokevirtual 157, 221, 2, 11) := zp_r zq_267 rfl
theorem p_267_39 : zP1 267 39 = some (.imul, 0, 0, 0) := zp_l zq_267 rfl
theorem p_267_40 : zP1 267 40 = some (.iadd, 0, 0, 0) := zp_l zq_267 rfl
theorem p_267_41 : zP1 267 41 = some (.if_icmp .le 7, 0, 0, 0) := zp_l zq_267 rfl
theorem p_267_44 : zP1 267 44 = some (.iconst 1, 0, 0, 0) := zp_l zq_267 rfl
theorem p_267_45 : zP1 267 45 = some (.goto 4, 0, 0, 0) := zp_l zq_267 rfl
theorem p_267_48 : zP1 267 48 = some (.iconst 0, 0, 0, 0) := zp_l zq_267 rfl
theorem p_267_49 : zP1 267 49 = some (.istore_n 2, 0, 0, 0) := zp_l zq_267 rfl
theorem p_267_50 : zP1 267 50 = some (.aload_n 0, 0, 0, 0) := zp_l zq_267 rfl
theorem p_267_51 : zP1 267 51 = some (.iload_n 1, 0, 0, 0) := zp_l zq_267 rfl
theorem p_267_52 : zP1 267 52 = some (.iconst 1, 0, 0, 0) := zp_l zq_267 rfl
theorem p_267_53 : zP1 267 53 = some (.invokevirtual 328, 265, 2, 11) := zp_r zq_267 rfl
theorem p_267_56 : zP1 267 56 = some (.ifCond .ne 7, 0, 0, 0) := zp_l zq_267 rfl
theorem p_267_59 : zP1 267 59 = some (.iload_n 2, 0, 0, 0) := zp_l zq_267 rfl
theorem p_267_60 : zP1 267 60 = some (.ifCond .eq 8, 0, 0, 0) := zp_l zq_267 rfl
theorem p_267_63 : zP1 267 63 = some (.bipush (-4), 0, 0, 0) := zp_l zq_267 rfl
theorem p_267_65 : zP1 267 65 = some (.goto 9, 0, 0, 0) := zp_l zq_267 rfl
theorem p_267_68 : zP1 267 68 = some (.aload_n 0, 0, 0, 0) := zp_l zq_267 rfl
theorem p_267_69 : zP1 267 69 = some (.iload_n 1, 0, 0, 0) := zp_l zq_267 rfl
theorem p_267_70 : zP1 267 70 = some (.iconst 2, 0, 0, 0) := zp_l zq_267 rfl
theorem p_267_71 : zP1 267 71 = some (.invokevirtual 334, 264, 2, 11) := zp_r zq_267 rfl
theorem p_267_74 : zP1 267 74 = some (.ireturn, 0, 0, 0) := zp_l zq_267 rfl
theorem b_267_0 {x1 : Int} : Z e (d + 2) 267 0 [.ref 246, .int (iI x1), .retAddr 0] [] m = (if ¬ (((wr 0) ≤ (wr x1)) ∧ ((wr x1) ≤ (wr ((m 247 1) - 1)))) then ri (-1) m else ck (0 ≤ (wr ((110 + (9 * x1)) + 3)) ∧ (wr ((110 + (9 * x1)) + 3)) < 2737) ((Z e (d + 1) 221 0 [.ref 246, .int (iI (m 247 0)), .int (iI 2), .retAddr 0, .retAddr 0, .retAddr 0, .retAddr 0, .retAddr 0, .retAddr 0] [] m).bind (ZK e (d + 2) 267 39 [.ref 246, .int (iI x1), .retAddr 0] [.int (iI 24), .int (iI (m 247 (wr ((110 + (9 * x1)) + 3)))), .int (iI (m 247 0))] m))) := (s_al_0 p_267_0).trans <| (s_il_1 p_267_1).trans <| (s_cv1 (Lc := [.ref 246, .int (iI x1)]) p_267_2 (by decide) (by decide) (zM_of zq_202) ⟨Nat.le_of_ble_eq_true rfl, Nat.le_of_ble_eq_true rfl⟩ rfl (m_rc hs_246 ⟨rfl, by decide⟩)).trans <| (bd b_202_0).trans <| ri_k.trans <| Eq.trans ((s_bne_f p_267_5 rfl)) <| ite_cg ((s_const p_267_8).trans <| (s_reti p_267_9 (zM_of zq_267))) ((s_al_0 p_267_10).trans <| (s_getr p_267_11 hs_246 (by decide) rfl).trans <| (s_const p_267_14).trans <| (s_aldc p_267_15 hs_247 (by decide) wl_0 (by decide)).trans <| (s_al_0 p_267_16).trans <| (s_getr p_267_17 hs_246 (by decide) rfl).trans <| (s_il_1 p_267_20).trans <| (s_const p_267_21).trans <| (s_cs2 (Lc := [.int (iI x1), .int (iI 3)]) p_267_22 (by decide) (zM_of zq_204) ⟨Nat.le_of_ble_eq_true rfl, Nat.le_of_ble_eq_true rfl⟩ rfl).trans <| (bd b_204_0).trans <| ri_k.trans <| (s_ald 2737 p_267_25 hs_247 rfl (by decide)).trans <| ck_cg fun k1 => (s_bip p_267_26 rfl).trans <| (s_al_0 p_267_28).trans <| (s_al_0 p_267_29).trans <| (s_getr p_267_30 hs_246 (by decide) rfl).trans <| (s_const p_267_33).trans <| (s_aldc p_267_34 hs_247 (by decide) wl_0 (by decide)).trans <| (s_const p_267_35).trans <| (s_cv2 (Lc := [.ref 246, .int (iI (m 247 0)), .int (iI 2), .retAddr 0, .retAddr 0, .retAddr 0, .retAddr 0, .retAddr 0, .retAddr 0]) p_267_36 (by decide) (by decide) (zM_of zq_221) ⟨Nat.le_of_ble_eq_true rfl, Nat.le_of_ble_eq_true rfl⟩ rfl (m_rc hs_246 ⟨rfl, by decide⟩)))
theorem b_267_39 {x1 : Int} {xs0 : Int} {xs1 : Int} {xs2 : Int} {xs3 : Int} {u2 : Value} : Z e (d + 2) 267 39 [.ref 246, .int (iI x1), u2] [.int (iI xs0), .int (iI xs1), .int (iI xs2), .int (iI xs3)] m = ck (0 ≤ (wr ((110 + (9 * x1)) + 2)) ∧ (wr ((110 + (9 * x1)) + 2)) < 2737) ((if (¬ (wr (m 247 (wr ((110 + (9 * x1)) + 2)))) = (wr 1)) ∨ ((wr (xs2 + (xs1 * xs0))) < (wr xs3)) then ri (-4) m else ck (0 ≤ (wr ((110 + (9 * x1)) + 2)) ∧ (wr ((110 + (9 * x1)) + 2)) < 2737) (ck (0 ≤ (wr ((110 + (9 * x1)) + 3)) ∧ (wr ((110 + (9 * x1)) + 3)) < 2737) (ri 1 (um (um m 247 (wr ((110 + (9 * x1)) + 2)) 2) 247 (wr ((110 + (9 * x1)) + 3)) ((um m 247 (wr ((110 + (9 * x1)) + 2)) 2) 247 0)))))) := (s_imul p_267_39).trans <| (s_iadd p_267_40).trans <| Eq.trans (Eq.trans ((s_c_le_f p_267_41 rfl rfl rfl)) <| Eq.trans (ite_cg ((s_const p_267_44).trans <| (s_goto p_267_45 rfl).trans <| rfl) ((s_const p_267_48).trans <| rfl)) (phi1 (fun z0 => Z e (d + 2) 267 49 [.ref 246, .int (iI x1), u2] [.int (iI z0)] m))) <| (s_is_2 cat_i p_267_49).trans <| (s_al_0 p_267_50).trans <| (s_il_1 p_267_51).trans <| (s_const p_267_52).trans <| (s_cv2 (Lc := [.ref 246, .int (iI x1), .int (iI 1)]) p_267_53 (by decide) (by decide) (zM_of zq_265) ⟨Nat.le_of_ble_eq_true rfl, Nat.le_of_ble_eq_true rfl⟩ rfl (m_rc hs_246 ⟨rfl, by decide⟩)).trans <| (bd b_265_0).trans <| ck_bind.trans <| ck_cg fun _ => ri_k.trans <| Eq.trans (Eq.trans (s_bne_t p_267_56 rfl) <| Eq.trans (ite_cg rfl ((s_il_2 p_267_59).trans <| (s_beq_f p_267_60 rfl))) co_or) <| ite_cg ((s_bip p_267_63 rfl).trans <| (s_goto p_267_65 rfl).trans <| (s_reti p_267_74 (zM_of zq_267))) ((s_al_0 p_267_68).trans <| (s_il_1 p_267_69).trans <| (s_const p_267_70).trans <| (s_cv2 (Lc := [.ref 246, .int (iI x1), .int (iI 2)]) p_267_71 (by decide) (by decide) (zM_of zq_264) ⟨Nat.le_of_ble_eq_true rfl, Nat.le_of_ble_eq_true rfl⟩ rfl (m_rc hs_246 ⟨rfl, by decide⟩)).trans <| (bd b_264_0).trans <| ck_bind.trans <| ck_cg fun _ => ck_bind.trans <| ck_cg fun _ => ri_k.trans <| (s_reti p_267_74 (zM_of zq_267)))
-- M.shipFrom
theorem p_268_0 : zP1 268 0 = some (.aload_n 0, 0, 0, 0) := zp_l zq_268 rfl
theorem p_268_1 : zP1 268 1 = some (.getfield 9, 11, 0, 0) := zp_r zq_268 rfl
theorem p_268_4 : zP1 268 4 = some (.sipush 1282, 0, 0, 0) := zp_l zq_268 rfl
theorem p_268_7 : zP1 268 7 = some (.iconst 3, 0, 0, 0) := zp_l zq_268 rfl
theorem p_268_8 : zP1 268 8 = some (.iload_n 1, 0, 0, 0) := zp_l zq_268 rfl
theorem p_268_9 : zP1 268 9 = some (.imul, 0, 0, 0) := zp_l zq_268 rfl
theorem p_268_10 : zP1 268 10 = some (.iadd, 0, 0, 0) := zp_l zq_268 rfl
theorem p_268_11 : zP1 268 11 = some (.iconst 1, 0, 0, 0) := zp_l zq_268 rfl
theorem p_268_12 : zP1 268 12 = some (.iadd, 0, 0, 0) := zp_l zq_268 rfl
theorem p_268_13 : zP1 268 13 = some (.iaload, 0, 0, 0) := zp_l zq_268 rfl
theorem p_268_14 : zP1 268 14 = some (.istore_n 3, 0, 0, 0) := zp_l zq_268 rfl
theorem p_268_15 : zP1 268 15 = some (.aload_n 0, 0, 0, 0) := zp_l zq_268 rfl
theorem p_268_16 : zP1 268 16 = some (.getfield 9, 11, 0, 0) := zp_r zq_268 rfl
theorem p_268_19 : zP1 268 19 = some (.sipush 1282, 0, 0, 0) := zp_l zq_268 rfl
theorem p_268_22 : zP1 268 22 = some (.iconst 3, 0, 0, 0) := zp_l zq_268 rfl
theorem p_268_23 : zP1 268 23 = some (.iload_n 1, 0, 0, 0) := zp_l zq_268 rfl
theorem p_268_24 : zP1 268 24 = some (.imul, 0, 0, 0) := zp_l zq_268 rfl
theorem p_268_25 : zP1 268 25 = some (.iadd, 0, 0, 0) := zp_l zq_268 rfl
theorem p_268_26 : zP1 268 26 = some (.iconst 2, 0, 0, 0) := zp_l zq_268 rfl
theorem p_268_27 : zP1 268 27 = some (.iadd, 0, 0, 0) := zp_l zq_268 rfl
theorem p_268_28 : zP1 268 28 = some (.iaload, 0, 0, 0) := zp_l zq_268 rfl
theorem p_268_29 : zP1 268 29 = some (.istore 4, 0, 0, 0) := zp_l zq_268 rfl
theorem p_268_31 : zP1 268 31 = some (.iload 4, 0, 0, 0) := zp_l zq_268 rfl
theorem p_268_33 : zP1 268 33 = some (.iload_n 3, 0, 0, 0) := zp_l zq_268 rfl
theorem p_268_34 : zP1 268 34 = some (.if_icmp .lt 6, 0, 0, 0) := zp_l zq_268 rfl
theorem p_268_37 : zP1 268 37 = some (.bipush (-3), 0, 0, 0) := zp_l zq_268 rfl
theorem p_268_39 : zP1 268 39 = some (.ireturn, 0, 0, 0) := zp_l zq_268 rfl
theorem p_268_40 : zP1 268 40 = some (.iload_n 2, 0, 0, 0) := zp_l zq_268 rfl
theorem p_268_41 : zP1 268 41 = some (.istore 5, 0, 0, 0) := zp_l zq_268 rfl
theorem p_268_43 : zP1 268 43 = some (.iload 5, 0, 0, 0) := zp_l zq_268 rfl
theorem p_268_45 : zP1 268 45 = some (.iload_n 3, 0, 0, 0) := zp_l zq_268 rfl
theorem p_268_46 : zP1 268 46 = some (.irem, 0, 0, 0) := zp_l zq_268 rfl
theorem p_268_47 : zP1 268 47 = some (.iload 4, 0, 0, 0) := zp_l zq_268 rfl
theorem p_268_49 : zP1 268 49 = some (.if_icmp .eq 9, 0, 0, 0) := zp_l zq_268 rfl
theorem p_268_52 : zP1 268 52 = some (.iinc 5 1, 0, 0, 0) := zp_l zq_268 rfl
theorem p_268_55 : zP1 268 55 = some (.goto (-12), 0, 0, 0) := zp_l zq_268 rfl
theorem p_268_58 : zP1 268 58 = some (.iload 5, 0, 0, 0) := zp_l zq_268 rfl
theorem p_268_60 : zP1 268 60 = some (.ireturn, 0, 0, 0) := zp_l zq_268 rfl
theorem b_268_0 {x1 : Int} {x2 : Int} : Z e d 268 0 [.ref 246, .int (iI x1), .int (iI x2), .retAddr 0, .retAddr 0, .retAddr 0] [] m = ck (0 ≤ (wr ((1282 + (3 * x1)) + 1)) ∧ (wr ((1282 + (3 * x1)) + 1)) < 2737) (ck (0 ≤ (wr ((1282 + (3 * x1)) + 2)) ∧ (wr ((1282 + (3 * x1)) + 2)) < 2737) ((if (wr (m 247 (wr ((1282 + (3 * x1)) + 1)))) ≤ (wr (m 247 (wr ((1282 + (3 * x1)) + 2)))) then ri (-3) m else Z e d 268 43 [.ref 246, .int (iI x1), .int (iI x2), .int (iI (m 247 (wr ((1282 + (3 * x1)) + 1)))), .int (iI (m 247 (wr ((1282 + (3 * x1)) + 2)))), .int (iI x2)] [] m))) := (s_al_0 p_268_0).trans <| (s_getr p_268_1 hs_246 (by decide) rfl).trans <| (s_sip p_268_4 rfl).trans <| (s_const p_268_7).trans <| (s_il_1 p_268_8).trans <| (s_imul p_268_9).trans <| (s_iadd p_268_10).trans <| (s_const p_268_11).trans <| (s_iadd p_268_12).trans <| (s_ald 2737 p_268_13 hs_247 rfl (by decide)).trans <| ck_cg fun k1 => (s_is_3 cat_i p_268_14).trans <| (s_al_0 p_268_15).trans <| (s_getr p_268_16 hs_246 (by decide) rfl).trans <| (s_sip p_268_19 rfl).trans <| (s_const p_268_22).trans <| (s_il_1 p_268_23).trans <| (s_imul p_268_24).trans <| (s_iadd p_268_25).trans <| (s_const p_268_26).trans <| (s_iadd p_268_27).trans <| (s_ald 2737 p_268_28 hs_247 rfl (by decide)).trans <| ck_cg fun k2 => (s_is_4 cat_i p_268_29).trans <| (s_il_4 p_268_31).trans <| (s_il_3 p_268_33).trans <| Eq.trans ((s_c_lt_f p_268_34 rfl rfl rfl)) <| ite_cg ((s_bip p_268_37 rfl).trans <| (s_reti p_268_39 (zM_of zq_268))) ((s_il_2 p_268_40).trans <| (s_is_5 cat_i p_268_41).trans <| rfl)
theorem b_268_43 {x3 : Int} {x4 : Int} {x5 : Int} {u0 u1 u2 : Value} : Z e d 268 43 [u0, u1, u2, .int (iI x3), .int (iI x4), .int (iI x5)] [] m = ck (¬ ((wr x3) = 0)) ((if ¬ (wr (jrem x5 x3)) = (wr x4) then Z e d 268 43 [u0, u1, u2, .int (iI x3), .int (iI x4), .int (iI (x5 + 1))] [] m else ri x5 m)) := (s_il_5 p_268_43).trans <| (s_il_3 p_268_45).trans <| (s_irem p_268_46).trans <| ck_cg fun k1 => (s_il_4 p_268_47).trans <| Eq.trans ((s_c_eq_f p_268_49 rfl rfl rfl)) <| ite_cg ((s_inc_5 cat_i p_268_52).trans <| (s_goto p_268_55 rfl).trans <| rfl) ((s_il_5 p_268_58).trans <| (s_reti p_268_60 (zM_of zq_268)))
-- M.leave
theorem p_269_0 : zP1 269 0 = some (.aload_n 0, 0, 0, 0) := zp_l zq_269 rfl
theorem p_269_1 : zP1 269 1 = some (.iload_n 1, 0, 0, 0) := zp_l zq_269 rfl
theorem p_269_2 : zP1 269 2 = some (.invokevirtual 138, 202, 1, 11) := zp_r zq_269 rfl
theorem p_269_5 : zP1 269 5 = some (.ifCond .eq 12, 0, 0, 0) := zp_l zq_269 rfl
theorem p_269_8 : zP1 269 8 = some (.iload_n 2, 0, 0, 0) := zp_l zq_269 rfl
theorem p_269_9 : zP1 269 9 = some (.iconst 0, 0, 0, 0) := zp_l zq_269 rfl
theorem p_269_10 : zP1 269 10 = some (.iconst 4, 0, 0, 0) := zp_l zq_269 rfl
theorem p_269_11 : zP1 269 11 = some (.invokestatic 100, 199, 3, 0) := zp_r zq_269 rfl
theorem p_269_14 : zP1 269 14 = some (.ifCond .ne 5, 0, 0, 0) := zp_l zq_269 rfl
theorem p_269_17 : zP1 269 17 = some (.iconst (-1), 0, 0, 0) := zp_l zq_269 rfl
theorem p_269_18 : zP1 269 18 = some (.ireturn, 0, 0, 0) := zp_l zq_269 rfl
theorem p_269_19 : zP1 269 19 = some (.aload_n 0, 0, 0, 0) := zp_l zq_269 rfl
theorem p_269_20 : zP1 269 20 = some (.iload_n 1, 0, 0, 0) := zp_l zq_269 rfl
theorem p_269_21 : zP1 269 21 = some (.iconst 2, 0, 0, 0) := zp_l zq_269 rfl
theorem p_269_22 : zP1 269 22 = some (.invokevirtual 328, 265, 2, 11) := zp_r zq_269 rfl
theorem p_269_25 : zP1 269 25 = some (.ifCond .eq 6, 0, 0, 0) := zp_l zq_269 rfl
theorem p_269_28 : zP1 269 28 = some (.bipush (-4), 0, 0, 0) := zp_l zq_269 rfl
theorem p_269_30 : zP1 269 30 = some (.ireturn, 0, 0, 0) := zp_l zq_269 rfl
theorem p_269_31 : zP1 269 31 = some (.aload_n 0, 0, 0, 0) := zp_l zq_269 rfl
theorem p_269_32 : zP1 269 32 = some (.iload_n 2, 0, 0, 0) := zp_l zq_269 rfl
theorem p_269_33 : zP1 269 33 = some (.aload_n 0, 0, 0, 0) := zp_l zq_269 rfl
theorem p_269_34 : zP1 269 34 = some (.getfield 9, 11, 0, 0) := zp_r zq_269 rfl
theorem p_269_37 : zP1 269 37 = some (.iconst 0, 0, 0, 0) := zp_l zq_269 rfl
theorem p_269_38 : zP1 269 38 = some (.iaload, 0, 0, 0) := zp_l zq_269 rfl
theorem p_269_39 : zP1 269 39 = some (.bipush 24, 0, 0, 0) := zp_l zq_269 rfl
theorem p_269_41 : zP1 269 41 = some (.idiv, 0, 0, 0) := zp_l zq_269 rfl
theorem p_269_42 : zP1 269 42 = some (.aload_n 0, 0, 0, 0) := zp_l zq_269 rfl
theorem p_269_43 : zP1 269 43 = some (.getfield 9, 11, 0, 0) := zp_r zq_269 rfl
theorem p_269_46 : zP1 269 46 = some (.sipush 1282, 0, 0, 0) := zp_l zq_269 rfl
theorem p_269_49 : zP1 269 49 = some (.iconst 3, 0, 0, 0) := zp_l zq_269 rfl
theorem p_269_50 : zP1 269 50 = some (.iload_n 2, 0, 0, 0) := zp_l zq_269 rfl
theorem p_269_51 : zP1 269 51 = some (.imul, 0, 0, 0) := zp_l zq_269 rfl
theorem p_269_52 : zP1 269 52 = some (.iadd, 0, 0, 0) := zp_l zq_269 rfl
theorem p_269_53 : zP1 269 53 = some (.iaload, 0, 0, 0) := zp_l zq_269 rfl
theorem p_269_54 : zP1 269 54 = some (.iadd, 0, 0, 0) := zp_l zq_269 rfl
theorem p_269_55 : zP1 269 55 = some (.invokevirtual 337, 268, 2, 11) := zp_r zq_269 rfl
theorem p_269_58 : zP1 269 58 = some (.istore_n 3, 0, 0, 0) := zp_l zq_269 rfl
theorem p_269_59 : zP1 269 59 = some (.iload_n 3, 0, 0, 0) := zp_l zq_269 rfl
theorem p_269_60 : zP1 269 60 = some (.bipush (-3), 0, 0, 0) := zp_l zq_269 rfl
theorem p_269_62 : zP1 269 62 = some (.if_icmp .ne 6, 0, 0, 0) := zp_l zq_269 rfl
theorem p_269_65 : zP1 269 65 = some (.bipush (-3), 0, 0, 0) := zp_l zq_269 rfl
theorem p_269_67 : zP1 269 67 = some (.ireturn, 0, 0, 0) := zp_l zq_269 rfl
theorem p_269_68 : zP1 269 68 = some (.aload_n 0, 0, 0, 0) := zp_l zq_269 rfl
theorem p_269_69 : zP1 269 69 = some (.getfield 9, 11, 0, 0) := zp_r zq_269 rfl
theorem p_269_72 : zP1 269 72 = some (.iload_n 1, 0, 0, 0) := zp_l zq_269 rfl
theorem p_269_73 : zP1 269 73 = some (.bipush 7, 0, 0, 0) := zp_l zq_269 rfl
theorem p_269_75 : zP1 269 75 = some (.invokestatic 129, 204, 2, 0) := zp_r zq_269 rfl
theorem p_269_78 : zP1 269 78 = some (.iload_n 2, 0, 0, 0) := zp_l zq_269 rfl
theorem p_269_79 : zP1 269 79 = some (.iastore, 0, 0, 0) := zp_l zq_269 rfl
theorem p_269_80 : zP1 269 80 = some (.aload_n 0, 0, 0, 0) := zp_l zq_269 rfl
theorem p_269_81 : zP1 269 81 = some (.iload_n 1, 0, 0, 0) := zp_l zq_269 rfl
theorem p_269_82 : zP1 269 82 = some (.iconst 3, 0, 0, 0) := zp_l zq_269 rfl
theorem p_269_83 : zP1 269 83 = some (.invokevirtual 334, 264, 2, 11) := zp_r zq_269 rfl
theorem p_269_86 : zP1 269 86 = some (.istore 4, 0, 0, 0) := zp_l zq_269 rfl
theorem p_269_88 : zP1 269 88 = some (.iload_n 3, 0, 0, 0) := zp_l zq_269 rfl
theorem p_269_89 : zP1 269 89 = some (.ireturn, 0, 0, 0) := zp_l zq_269 rfl
theorem b_269_0 {x1 : Int} {x2 : Int} : Z e (d + 2) 269 0 [.ref 246, .int (iI x1), .int (iI x2), .retAddr 0, .retAddr 0] [] m = (if (¬ (((wr 0) ≤ (wr x1)) ∧ ((wr x1) ≤ (wr ((m 247 1) - 1))))) ∨ (¬ (((wr 0) ≤ (wr x2)) ∧ ((wr x2) ≤ (wr 4)))) then ri (-1) m else ck (0 ≤ (wr ((110 + (9 * x1)) + 2)) ∧ (wr ((110 + (9 * x1)) + 2)) < 2737) ((if ¬ (wr (m 247 (wr ((110 + (9 * x1)) + 2)))) = (wr 2) then ri (-4) m else ck (0 ≤ (wr (1282 + (3 * x2))) ∧ (wr (1282 + (3 * x2))) < 2737) ((Z e (d + 1) 268 0 [.ref 246, .int (iI x2), .int (iI ((jdiv (m 247 0) 24) + (m 247 (wr (1282 + (3 * x2)))))), .retAddr 0, .retAddr 0, .retAddr 0] [] m).bind (ZK e (d + 2) 269 58 [.ref 246, .int (iI x1), .int (iI x2), .retAddr 0, .retAddr 0] [] m))))) := (s_al_0 p_269_0).trans <| (s_il_1 p_269_1).trans <| (s_cv1 (Lc := [.ref 246, .int (iI x1)]) p_269_2 (by decide) (by decide) (zM_of zq_202) ⟨Nat.le_of_ble_eq_true rfl, Nat.le_of_ble_eq_true rfl⟩ rfl (m_rc hs_246 ⟨rfl, by decide⟩)).trans <| (bd b_202_0).trans <| ri_k.trans <| Eq.trans (Eq.trans (s_beq_t p_269_5 rfl) <| Eq.trans (ite_cg rfl ((s_il_2 p_269_8).trans <| (s_const p_269_9).trans <| (s_const p_269_10).trans <| (s_cs3 (Lc := [.int (iI x2), .int (iI 0), .int (iI 4)]) p_269_11 (by decide) (zM_of zq_199) ⟨Nat.le_of_ble_eq_true rfl, Nat.le_of_ble_eq_true rfl⟩ rfl).trans <| (bd b_199_0).trans <| ri_k.trans <| (s_bne_f p_269_14 rfl))) co_or) <| ite_cg ((s_const p_269_17).trans <| (s_reti p_269_18 (zM_of zq_269))) ((s_al_0 p_269_19).trans <| (s_il_1 p_269_20).trans <| (s_const p_269_21).trans <| (s_cv2 (Lc := [.ref 246, .int (iI x1), .int (iI 2)]) p_269_22 (by decide) (by decide) (zM_of zq_265) ⟨Nat.le_of_ble_eq_true rfl, Nat.le_of_ble_eq_true rfl⟩ rfl (m_rc hs_246 ⟨rfl, by decide⟩)).trans <| (bd b_265_0).trans <| ck_bind.trans <| ck_cg fun _ => ri_k.trans <| Eq.trans ((s_beq_f p_269_25 rfl)) <| ite_cg ((s_bip p_269_28 rfl).trans <| (s_reti p_269_30 (zM_of zq_269))) ((s_al_0 p_269_31).trans <| (s_il_2 p_269_32).trans <| (s_al_0 p_269_33).trans <| (s_getr p_269_34 hs_246 (by decide) rfl).trans <| (s_const p_269_37).trans <| (s_aldc p_269_38 hs_247 (by decide) wl_0 (by decide)).trans <| (s_bip p_269_39 rfl).trans <| (s_idivc p_269_41 (by decide)).trans <| (s_al_0 p_269_42).trans <| (s_getr p_269_43 hs_246 (by decide) rfl).trans <| (s_sip p_269_46 rfl).trans <| (s_const p_269_49).trans <| (s_il_2 p_269_50).trans <| (s_imul p_269_51).trans <| (s_iadd p_269_52).trans <| (s_ald 2737 p_269_53 hs_247 rfl (by decide)).trans <| ck_cg fun k1 => (s_iadd p_269_54).trans <| (s_cv2 (Lc := [.ref 246, .int (iI x2), .int (iI ((jdiv (m 247 0) 24) + (m 247 (wr (1282 + (3 * x2)))))), .retAddr 0, .retAddr 0, .retAddr 0]) p_269_55 (by decide) (by decide) (zM_of zq_268) ⟨Nat.le_of_ble_eq_true rfl, Nat.le_of_ble_eq_true rfl⟩ rfl (m_rc hs_246 ⟨rfl, by decide⟩))))
theorem b_269_58 {x1 : Int} {x2 : Int} {xs0 : Int} {u3 u4 : Value} : Z e (d + 2) 269 58 [.ref 246, .int (iI x1), .int (iI x2), u3, u4] [.int (iI xs0)] m = (if (wr xs0) = (-3) then ri (-3) m else ck (0 ≤ (wr ((110 + (9 * x1)) + 7)) ∧ (wr ((110 + (9 * x1)) + 7)) < 2737) (ck (0 ≤ (wr ((110 + (9 * x1)) + 2)) ∧ (wr ((110 + (9 * x1)) + 2)) < 2737) (ck (0 ≤ (wr ((110 + (9 * x1)) + 3)) ∧ (wr ((110 + (9 * x1)) + 3)) < 2737) (ri xs0 (um (um (um m 247 (wr ((110 + (9 * x1)) + 7)) x2) 247 (wr ((110 + (9 * x1)) + 2)) 3) 247 (wr ((110 + (9 * x1)) + 3)) ((um (um m 247 (wr ((110 + (9 * x1)) + 7)) x2) 247 (wr ((110 + (9 * x1)) + 2)) 3) 247 0)))))) := (s_is_3 cat_i p_269_58).trans <| (s_il_3 p_269_59).trans <| (s_bip p_269_60 rfl).trans <| Eq.trans ((s_c_ne_f p_269_62 rfl rfl wl_m3)) <| ite_cg ((s_bip p_269_65 rfl).trans <| (s_reti p_269_67 (zM_of zq_269))) ((s_al_0 p_269_68).trans <| (s_getr p_269_69 hs_246 (by decide) rfl).trans <| (s_il_1 p_269_72).trans <| (s_bip p_269_73 rfl).trans <| (s_cs2 (Lc := [.int (iI x1), .int (iI 7)]) p_269_75 (by decide) (zM_of zq_204) ⟨Nat.le_of_ble_eq_true rfl, Nat.le_of_ble_eq_true rfl⟩ rfl).trans <| (bd b_204_0).trans <| ri_k.trans <| (s_il_2 p_269_78).trans <| (s_ast 2737 p_269_79 hs_247 rfl).trans <| ck_cg fun k1 => (s_al_0 p_269_80).trans <| (s_il_1 p_269_81).trans <| (s_const p_269_82).trans <| (s_cv2 (Lc := [.ref 246, .int (iI x1), .int (iI 3)]) p_269_83 (by decide) (by decide) (zM_of zq_264) ⟨Nat.le_of_ble_eq_true rfl, Nat.le_of_ble_eq_true rfl⟩ rfl (m_rc hs_246 ⟨rfl, by decide⟩)).trans <| (bd b_264_0).trans <| ck_bind.trans <| ck_cg fun _ => ck_bind.trans <| ck_cg fun _ => ri_k.trans <| (s_is_4 cat_i p_269_86).trans <| (s_il_3 p_269_88).trans <| (s_reti p_269_89 (zM_of zq_269)))
-- M.dwell
theorem p_270_0 : zP1 270 0 = some (.aload_n 0, 0, 0, 0) := zp_l zq_270 rfl
theorem p_270_1 : zP1 270 1 = some (.iload_n 1, 0, 0, 0) := zp_l zq_270 rfl
theorem p_270_2 : zP1 270 2 = some (.invokevirtual 138, 202, 1, 11) := zp_r zq_270 rfl
theorem p_270_5 : zP1 270 5 = some (.ifCond .ne 5, 0, 0, 0) := zp_l zq_270 rfl
theorem p_270_8 : zP1 270 8 = some (.iconst (-1), 0, 0, 0) := zp_l zq_270 rfl
theorem p_270_9 : zP1 270 9 = some (.ireturn, 0, 0, 0) := zp_l zq_270 rfl
theorem p_270_10 : zP1 270 10 = some (.iconst 1, 0, 0, 0) := zp_l zq_270 rfl
theorem p_270_11 : zP1 270 11 = some (.istore_n 2, 0, 0, 0) := zp_l zq_270 rfl
theorem p_270_12 : zP1 270 12 = some (.iconst 0, 0, 0, 0) := zp_l zq_270 rfl
theorem p_270_13 : zP1 270 13 = some (.istore_n 3, 0, 0, 0) := zp_l zq_270 rfl
theorem p_270_14 : zP1 270 14 = some (.iload_n 3, 0, 0, 0) := zp_l zq_270 rfl
theorem p_270_15 : zP1 270 15 = some (.aload_n 0, 0, 0, 0) := zp_l zq_270 rfl
theorem p_270_16 : zP1 270 16 = some (.getfield 9, 11, 0, 0) := zp_r zq_270 rfl
theorem p_270_19 : zP1 270 19 = some (.iconst 4, 0, 0, 0) := zp_l zq_270 rfl
theorem p_270_20 : zP1 270 20 = some (.iaload, 0, 0, 0) := zp_l zq_270 rfl
theorem p_270_21 : zP1 270 21 = some (.if_icmp .ge 78, 0, 0, 0) := zp_l zq_270 rfl
theorem p_270_24 : zP1 270 24 = some (.aload_n 0, 0, 0, 0) := zp_l zq_270 rfl
theorem p_270_25 : zP1 270 25 = some (.getfield 9, 11, 0, 0) := zp_r zq_270 rfl
theorem p_270_28 : zP1 270 28 = some (.iload_n 3, 0, 0, 0) := zp_l zq_270 rfl
theorem p_270_29 : zP1 270 29 = some (.iconst 0, 0, 0, 0) := zp_l zq_270 rfl
theorem p_270_30 : zP1 270 30 = some (.invokestatic 141, 205, 2, 0) := zp_r zq_270 rfl
theorem p_270_33 : zP1 270 33 = some (.iaload, 0, 0, 0) := zp_l zq_270 rfl
theorem p_270_34 : zP1 270 34 = some (.iload_n 1, 0, 0, 0) := zp_l zq_270 rfl
theorem p_270_35 : zP1 270 35 = some (.if_icmp .ne 26, 0, 0, 0) := zp_l zq_270 rfl
theorem p_270_38 : zP1 270 38 = some (.aload_n 0, 0, 0, 0) := zp_l zq_270 rfl
theorem p_270_39 : zP1 270 39 = some (.getfield 9, 11, 0, 0) := zp_r zq_270 rfl
theorem p_270_42 : zP1 270 42 = some (.iload_n 3, 0, 0, 0) := zp_l zq_270 rfl
theorem p_270_43 : zP1 270 43 = some (.iconst 5, 0, 0, 0) := zp_l zq_270 rfl
theorem p_270_44 : zP1 270 44 = some (.invokestatic 141, 205, 2, 0) := zp_r zq_270 rfl
theorem p_270_47 : zP1 270 47 = some (.iaload, 0, 0, 0) := zp_l zq_270 rfl
theorem p_270_48 : zP1 270 48 = some (.aload_n 0, 0, 0, 0) := zp_l zq_270 rfl
theorem p_270_49 : zP1 270 49 = some (.getfield 9, 11, 0, 0) := zp_r zq_270 rfl
theorem p_270_52 : zP1 270 52 = some (.iconst 0, 0, 0, 0) := zp_l zq_270 rfl
theorem p_270_53 : zP1 270 53 = some (.iaload, 0, 0, 0) := zp_l zq_270 rfl
theorem p_270_54 : zP1 270 54 = some (.if_icmp .gt 7, 0, 0, 0) := zp_l zq_270 rfl
theorem p_270_57 : zP1 270 57 = some (.iconst 1, 0, 0, 0) := zp_l zq_270 rfl
theorem p_270_58 : zP1 270 58 = some (.goto 4, 0, 0, 0) := zp_l zq_270 rfl
theorem p_270_61 : zP1 270 61 = some (.iconst 0, 0, 0, 0) := zp_l zq_270 rfl
theorem p_270_62 : zP1 270 62 = some (.istore 4, 0, 0, 0) := zp_l zq_270 rfl
theorem p_270_64 : zP1 270 64 = some (.iload_n 2, 0, 0, 0) := zp_l zq_270 rfl
theorem p_270_65 : zP1 270 65 = some (.ifCond .eq 26, 0, 0, 0) := zp_l zq_270 rfl
theorem p_270_68 : zP1 270 68 = some (.iload 4, 0, 0, 0) := zp_l zq_270 rfl
theorem p_270_70 : zP1 270 70 = some (.ifCond .eq 17, 0, 0, 0) := zp_l zq_270 rfl
theorem p_270_73 : zP1 270 73 = some (.aload_n 0, 0, 0, 0) := zp_l zq_270 rfl
theorem p_270_74 : zP1 270 74 = some (.getfield 9, 11, 0, 0) := zp_r zq_270 rfl
theorem p_270_77 : zP1 270 77 = some (.iload_n 3, 0, 0, 0) := zp_l zq_270 rfl
theorem p_270_78 : zP1 270 78 = some (.iconst 1, 0, 0, 0) := zp_l zq_270 rfl
theorem p_270_79 : zP1 270 79 = some (.invokestatic 141, 205, 2, 0) := zp_r zq_270 rfl
theorem p_270_82 : zP1 270 82 = some (.iaload, 0, 0, 0) := zp_l zq_270 rfl
theorem p_270_83 : zP1 270 83 = some (.iconst 3, 0, 0, 0) := zp_l zq_270 rfl
theorem p_270_84 : zP1 270 84 = some (.if_icmp .ne 7, 0, 0, 0) := zp_l zq_270 rfl
theorem p_270_87 : zP1 270 87 = some (.iconst 1, 0, 0, 0) := zp_l zq_270 rfl
theorem p_270_88 : zP1 270 88 = some (.goto 4, 0, 0, 0) := zp_l zq_270 rfl
theorem p_270_91 : zP1 270 91 = some (.iconst 0, 0, 0, 0) := zp_l zq_270 rfl
theorem p_270_92 : zP1 270 92 = some (.istore_n 2, 0, 0, 0) := zp_l zq_270 rfl
theorem p_270_93 : zP1 270 93 = some (.iinc 3 1, 0, 0, 0) := zp_l zq_270 rfl
theorem p_270_96 : zP1 270 96 = some (.goto (-82), 0, 0, 0) := zp_l zq_270 rfl
theorem p_270_99 : zP1 270 99 = some (.aload_n 0, 0, 0, 0) := zp_l zq_270 rfl
theorem p_270_100 : zP1 270 100 = some (.iload_n 1, 0, 0, 0) := zp_l zq_270 rfl
theorem p_270_101 : zP1 270 101 = some (.iconst 1, 0, 0, 0) := zp_l zq_270 rfl
theorem p_270_102 : zP1 270 102 = some (.invokevirtual 328, 265, 2, 11) := zp_r zq_270 rfl
theorem p_270_105 : zP1 270 105 = some (.ifCond .ne 7, 0, 0, 0) := zp_l zq_270 rfl
theorem p_270_108 : zP1 270 108 = some (.iload_n 2, 0, 0, 0) := zp_l zq_270 rfl
theorem p_270_109 : zP1 270 109 = some (.ifCond .ne 8, 0, 0, 0) := zp_l zq_270 rfl
theorem p_270_112 : zP1 270 112 = some (.bipush (-4), 0, 0, 0) := zp_l zq_270 rfl
theorem p_270_114 : zP1 270 114 = some (.goto 9, 0, 0, 0) := zp_l zq_270 rfl
theorem p_270_117 : zP1 270 117 = some (.aload_n 0, 0, 0, 0) := zp_l zq_270 rfl
theorem p_270_118 : zP1 270 118 = some (.iload_n 1, 0, 0, 0) := zp_l zq_270 rfl
theorem p_270_119 : zP1 270 119 = some (.iconst 4, 0, 0, 0) := zp_l zq_270 rfl
theorem p_270_120 : zP1 270 120 = some (.invokevirtual 334, 264, 2, 11) := zp_r zq_270 rfl
theorem p_270_123 : zP1 270 123 = some (.ireturn, 0, 0, 0) := zp_l zq_270 rfl
theorem b_270_0 {x1 : Int} : Z e (d + 2) 270 0 [.ref 246, .int (iI x1), .retAddr 0, .retAddr 0, .retAddr 0] [] m = (if ¬ (((wr 0) ≤ (wr x1)) ∧ ((wr x1) ≤ (wr ((m 247 1) - 1)))) then ri (-1) m else Z e (d + 2) 270 14 [.ref 246, .int (iI x1), .int (iI 1), .int (iI 0), .retAddr 0] [] m) := (s_al_0 p_270_0).trans <| (s_il_1 p_270_1).trans <| (s_cv1 (Lc := [.ref 246, .int (iI x1)]) p_270_2 (by decide) (by decide) (zM_of zq_202) ⟨Nat.le_of_ble_eq_true rfl, Nat.le_of_ble_eq_true rfl⟩ rfl (m_rc hs_246 ⟨rfl, by decide⟩)).trans <| (bd b_202_0).trans <| ri_k.trans <| Eq.trans ((s_bne_f p_270_5 rfl)) <| ite_cg ((s_const p_270_8).trans <| (s_reti p_270_9 (zM_of zq_270))) ((s_const p_270_10).trans <| (s_is_2 cat_i p_270_11).trans <| (s_const p_270_12).trans <| (s_is_3 cat_i p_270_13).trans <| rfl)
theorem b_270_14 {x1 : Int} {x2 : Int} {x3 : Int} {u4 : Value} : Z e (d + 2) 270 14 [.ref 246, .int (iI x1), .int (iI x2), .int (iI x3), u4] [] m = (if (wr x3) < (wr (m 247 4)) then ck (0 ≤ (wr ((794 + (6 * x3)) + 0)) ∧ (wr ((794 + (6 * x3)) + 0)) < 2737) (ck (((wr (m 247 (wr ((794 + (6 * x3)) + 0)))) = (wr x1)) → (0 ≤ (wr ((794 + (6 * x3)) + 5)) ∧ (wr ((794 + (6 * x3)) + 5)) < 2737)) (ck ((¬ (wr x2) = 0) → ((¬ (¬ (((wr (m 247 (wr ((794 + (6 * x3)) + 0)))) = (wr x1)) ∧ ((wr (m 247 (wr ((794 + (6 * x3)) + 5)))) ≤ (wr (m 247 0)))))) → (0 ≤ (wr ((794 + (6 * x3)) + 1)) ∧ (wr ((794 + (6 * x3)) + 1)) < 2737))) (Z e (d + 2) 270 14 [.ref 246, .int (iI x1), .int (iI (if (¬ (wr x2) = 0) ∧ ((¬ (((wr (m 247 (wr ((794 + (6 * x3)) + 0)))) = (wr x1)) ∧ ((wr (m 247 (wr ((794 + (6 * x3)) + 5)))) ≤ (wr (m 247 0))))) ∨ ((wr (m 247 (wr ((794 + (6 * x3)) + 1)))) = 3)) then 1 else 0)), .int (iI (x3 + 1)), .int (iI (if ((wr (m 247 (wr ((794 + (6 * x3)) + 0)))) = (wr x1)) ∧ ((wr (m 247 (wr ((794 + (6 * x3)) + 5)))) ≤ (wr (m 247 0))) then 1 else 0))] [] m))) else Z e (d + 2) 270 99 [.ref 246, .int (iI x1), .int (iI x2), .int (iI x3), u4] [] m) := (s_il_3 p_270_14).trans <| (s_al_0 p_270_15).trans <| (s_getr p_270_16 hs_246 (by decide) rfl).trans <| (s_const p_270_19).trans <| (s_aldc p_270_20 hs_247 (by decide) wl_4 (by decide)).trans <| Eq.trans ((s_c_ge_f p_270_21 rfl rfl rfl)) <| ite_cg ((s_al_0 p_270_24).trans <| (s_getr p_270_25 hs_246 (by decide) rfl).trans <| (s_il_3 p_270_28).trans <| (s_const p_270_29).trans <| (s_cs2 (Lc := [.int (iI x3), .int (iI 0)]) p_270_30 (by decide) (zM_of zq_205) ⟨Nat.le_of_ble_eq_true rfl, Nat.le_of_ble_eq_true rfl⟩ rfl).trans <| (bd b_205_0).trans <| ri_k.trans <| (s_ald 2737 p_270_33 hs_247 rfl (by decide)).trans <| ck_cg fun k4 => (s_il_1 p_270_34).trans <| Eq.trans (Eq.trans (Eq.trans (s_c_ne_f p_270_35 rfl rfl rfl) <| Eq.trans (ite_cg ((s_al_0 p_270_38).trans <| (s_getr p_270_39 hs_246 (by decide) rfl).trans <| (s_il_3 p_270_42).trans <| (s_const p_270_43).trans <| (s_cs2 (Lc := [.int (iI x3), .int (iI 5)]) p_270_44 (by decide) (zM_of zq_205) ⟨Nat.le_of_ble_eq_true rfl, Nat.le_of_ble_eq_true rfl⟩ rfl).trans <| (bd b_205_0).trans <| ri_k.trans <| (s_ald 2737 p_270_47 hs_247 rfl (by decide)).trans <| ck_cg fun k5 => (s_al_0 p_270_48).trans <| (s_getr p_270_49 hs_246 (by decide) rfl).trans <| (s_const p_270_52).trans <| (s_aldc p_270_53 hs_247 (by decide) wl_0 (by decide)).trans <| (s_c_gt_f p_270_54 rfl rfl rfl)) rfl) <| Eq.trans ck_a <| ck_cg fun _ => co_and) <| ck_cg fun _ => Eq.trans (ite_cg ((s_const p_270_57).trans <| (s_goto p_270_58 rfl).trans <| rfl) ((s_const p_270_61).trans <| rfl)) (phi1 (fun z0 => Z e (d + 2) 270 62 [.ref 246, .int (iI x1), .int (iI x2), .int (iI x3), u4] [.int (iI z0)] m))) <| ck_cg fun _ => (s_is_4 cat_i p_270_62).trans <| (s_il_2 p_270_64).trans <| Eq.trans (Eq.trans (Eq.trans (s_z_eq_f p_270_65 rfl rfl) <| Eq.trans (ite_cg ((s_il_4 p_270_68).trans <| Eq.trans (s_beq_t p_270_70 rfl) <| Eq.trans (ite_cg rfl ((s_al_0 p_270_73).trans <| (s_getr p_270_74 hs_246 (by decide) rfl).trans <| (s_il_3 p_270_77).trans <| (s_const p_270_78).trans <| (s_cs2 (Lc := [.int (iI x3), .int (iI 1)]) p_270_79 (by decide) (zM_of zq_205) ⟨Nat.le_of_ble_eq_true rfl, Nat.le_of_ble_eq_true rfl⟩ rfl).trans <| (bd b_205_0).trans <| ri_k.trans <| (s_ald 2737 p_270_82 hs_247 rfl (by decide)).trans <| ck_cg fun k6 => (s_const p_270_83).trans <| (s_c_ne_f p_270_84 rfl rfl wl_3))) <| Eq.trans ck_b <| ck_cg fun _ => co_or) rfl) <| Eq.trans ck_a <| ck_cg fun _ => co_and) <| ck_cg fun _ => Eq.trans (ite_cg ((s_const p_270_87).trans <| (s_goto p_270_88 rfl).trans <| rfl) ((s_const p_270_91).trans <| rfl)) (phi1 (fun z0 => Z e (d + 2) 270 92 [.ref 246, .int (iI x1), .int (iI x2), .int (iI x3), .int (iI (if ((wr (m 247 (wr ((794 + (6 * x3)) + 0)))) = (wr x1)) ∧ ((wr (m 247 (wr ((794 + (6 * x3)) + 5)))) ≤ (wr (m 247 0))) then 1 else 0))] [.int (iI z0)] m))) <| ck_cg fun _ => (s_is_2 cat_i p_270_92).trans <| (s_inc_3 cat_i p_270_93).trans <| (s_goto p_270_96 rfl).trans <| rfl) (rfl)
theorem b_270_99 {x1 : Int} {x2 : Int} {u3 u4 : Value} : Z e (d + 2) 270 99 [.ref 246, .int (iI x1), .int (iI x2), u3, u4] [] m = ck (0 ≤ (wr ((110 + (9 * x1)) + 2)) ∧ (wr ((110 + (9 * x1)) + 2)) < 2737) ((if (¬ (wr (m 247 (wr ((110 + (9 * x1)) + 2)))) = (wr 1)) ∨ ((wr x2) = 0) then ri (-4) m else ck (0 ≤ (wr ((110 + (9 * x1)) + 2)) ∧ (wr ((110 + (9 * x1)) + 2)) < 2737) (ck (0 ≤ (wr ((110 + (9 * x1)) + 3)) ∧ (wr ((110 + (9 * x1)) + 3)) < 2737) (ri 1 (um (um m 247 (wr ((110 + (9 * x1)) + 2)) 4) 247 (wr ((110 + (9 * x1)) + 3)) ((um m 247 (wr ((110 + (9 * x1)) + 2)) 4) 247 0)))))) := (s_al_0 p_270_99).trans <| (s_il_1 p_270_100).trans <| (s_const p_270_101).trans <| (s_cv2 (Lc := [.ref 246, .int (iI x1), .int (iI 1)]) p_270_102 (by decide) (by decide) (zM_of zq_265) ⟨Nat.le_of_ble_eq_true rfl, Nat.le_of_ble_eq_true rfl⟩ rfl (m_rc hs_246 ⟨rfl, by decide⟩)).trans <| (bd b_265_0).trans <| ck_bind.trans <| ck_cg fun _ => ri_k.trans <| Eq.trans (Eq.trans (s_bne_t p_270_105 rfl) <| Eq.trans (ite_cg rfl ((s_il_2 p_270_108).trans <| (s_z_ne_f p_270_109 rfl rfl))) co_or) <| ite_cg ((s_bip p_270_112 rfl).trans <| (s_goto p_270_114 rfl).trans <| (s_reti p_270_123 (zM_of zq_270))) ((s_al_0 p_270_117).trans <| (s_il_1 p_270_118).trans <| (s_const p_270_119).trans <| (s_cv2 (Lc := [.ref 246, .int (iI x1), .int (iI 4)]) p_270_120 (by decide) (by decide) (zM_of zq_264) ⟨Nat.le_of_ble_eq_true rfl, Nat.le_of_ble_eq_true rfl⟩ rfl (m_rc hs_246 ⟨rfl, by decide⟩)).trans <| (bd b_264_0).trans <| ck_bind.trans <| ck_cg fun _ => ck_bind.trans <| ck_cg fun _ => ri_k.trans <| (s_reti p_270_123 (zM_of zq_270)))
-- M.port
theorem p_271_0 : zP1 271 0 = some (.iload_n 1, 0, 0, 0) := zp_l zq_271 rfl
theorem p_271_1 : zP1 271 1 = some (.iconst 0, 0, 0, 0) := zp_l zq_271 rfl
theorem p_271_2 : zP1 271 2 = some (.iconst 4, 0, 0, 0) := zp_l zq_271 rfl
theorem p_271_3 : zP1 271 3 = some (.invokestatic 100, 199, 3, 0) := zp_r zq_271 rfl
theorem p_271_6 : zP1 271 6 = some (.ifCond .eq 41, 0, 0, 0) := zp_l zq_271 rfl
theorem p_271_9 : zP1 271 9 = some (.iload_n 2, 0, 0, 0) := zp_l zq_271 rfl
theorem p_271_10 : zP1 271 10 = some (.iconst 0, 0, 0, 0) := zp_l zq_271 rfl
theorem p_271_11 : zP1 271 11 = some (.iconst 2, 0, 0, 0) := zp_l zq_271 rfl
theorem p_271_12 : zP1 271 12 = some (.invokestatic 100, 199, 3, 0) := zp_r zq_271 rfl
theorem p_271_15 : zP1 271 15 = some (.ifCond .eq 32, 0, 0, 0) := zp_l zq_271 rfl
theorem p_271_18 : zP1 271 18 = some (.iload_n 3, 0, 0, 0) := zp_l zq_271 rfl
theorem p_271_19 : zP1 271 19 = some (.iload_n 2, 0, 0, 0) := zp_l zq_271 rfl
theorem p_271_20 : zP1 271 20 = some (.iconst 2, 0, 0, 0) := zp_l zq_271 rfl
theorem p_271_21 : zP1 271 21 = some (.if_icmp .ne 7, 0, 0, 0) := zp_l zq_271 rfl
theorem p_271_24 : zP1 271 24 = some (.iconst 0, 0, 0, 0) := zp_l zq_271 rfl
theorem p_271_25 : zP1 271 25 = some (.goto 4, 0, 0, 0) := zp_l zq_271 rfl
theorem p_271_28 : zP1 271 28 = some (.iconst 1, 0, 0, 0) := zp_l zq_271 rfl
theorem p_271_29 : zP1 271 29 = some (.iload_n 2, 0, 0, 0) := zp_l zq_271 rfl
theorem p_271_30 : zP1 271 30 = some (.iconst 2, 0, 0, 0) := zp_l zq_271 rfl
theorem p_271_31 : zP1 271 31 = some (.if_icmp .ne 8, 0, 0, 0) := zp_l zq_271 rfl
theorem p_271_34 : zP1 271 34 = some (.bipush 29, 0, 0, 0) := zp_l zq_271 rfl
theorem p_271_36 : zP1 271 36 = some (.goto 5, 0, 0, 0) := zp_l zq_271 rfl
theorem p_271_39 : zP1 271 39 = some (.bipush 30, 0, 0, 0) := zp_l zq_271 rfl
theorem p_271_41 : zP1 271 41 = some (.invokestatic 100, 199, 3, 0) := zp_r zq_271 rfl
theorem p_271_44 : zP1 271 44 = some (.ifCond .ne 5, 0, 0, 0) := zp_l zq_271 rfl
theorem p_271_47 : zP1 271 47 = some (.iconst (-1), 0, 0, 0) := zp_l zq_271 rfl
theorem p_271_48 : zP1 271 48 = some (.ireturn, 0, 0, 0) := zp_l zq_271 rfl
theorem p_271_49 : zP1 271 49 = some (.aload_n 0, 0, 0, 0) := zp_l zq_271 rfl
theorem p_271_50 : zP1 271 50 = some (.getfield 9, 11, 0, 0) := zp_r zq_271 rfl
theorem p_271_53 : zP1 271 53 = some (.sipush 1282, 0, 0, 0) := zp_l zq_271 rfl
theorem p_271_56 : zP1 271 56 = some (.iconst 3, 0, 0, 0) := zp_l zq_271 rfl
theorem p_271_57 : zP1 271 57 = some (.iload_n 1, 0, 0, 0) := zp_l zq_271 rfl
theorem p_271_58 : zP1 271 58 = some (.imul, 0, 0, 0) := zp_l zq_271 rfl
theorem p_271_59 : zP1 271 59 = some (.iadd, 0, 0, 0) := zp_l zq_271 rfl
theorem p_271_60 : zP1 271 60 = some (.iload_n 2, 0, 0, 0) := zp_l zq_271 rfl
theorem p_271_61 : zP1 271 61 = some (.iadd, 0, 0, 0) := zp_l zq_271 rfl
theorem p_271_62 : zP1 271 62 = some (.iaload, 0, 0, 0) := zp_l zq_271 rfl
theorem p_271_63 : zP1 271 63 = some (.istore 4, 0, 0, 0) := zp_l zq_271 rfl
theorem p_271_65 : zP1 271 65 = some (.aload_n 0, 0, 0, 0) := zp_l zq_271 rfl
theorem p_271_66 : zP1 271 66 = some (.getfield 9, 11, 0, 0) := zp_r zq_271 rfl
theorem p_271_69 : zP1 271 69 = some (.sipush 1282, 0, 0, 0) := zp_l zq_271 rfl
theorem p_271_72 : zP1 271 72 = some (.iconst 3, 0, 0, 0) := zp_l zq_271 rfl
theorem p_271_73 : zP1 271 73 = some (.iload_n 1, 0, 0, 0) := zp_l zq_271 rfl
theorem p_271_74 : zP1 271 74 = some (.imul, 0, 0, 0) := zp_l zq_271 rfl
theorem p_271_75 : zP1 271 75 = some (.iadd, 0, 0, 0) := zp_l zq_271 rfl
theorem p_271_76 : zP1 271 76 = some (.iload_n 2, 0, 0, 0) := zp_l zq_271 rfl
theorem p_271_77 : zP1 271 77 = some (.iadd, 0, 0, 0) := zp_l zq_271 rfl
theorem p_271_78 : zP1 271 78 = some (.iload_n 3, 0, 0, 0) := zp_l zq_271 rfl
theorem p_271_79 : zP1 271 79 = some (.iastore, 0, 0, 0) := zp_l zq_271 rfl
theorem p_271_80 : zP1 271 80 = some (.iload 4, 0, 0, 0) := zp_l zq_271 rfl
theorem p_271_82 : zP1 271 82 = some (.ireturn, 0, 0, 0) := zp_l zq_271 rfl
theorem b_271_0 {x1 : Int} {x2 : Int} {x3 : Int} : Z e (d + 1) 271 0 [.ref 246, .int (iI x1), .int (iI x2), .int (iI x3), .retAddr 0] [] m = (if (((wr 0) ≤ (wr x1)) ∧ ((wr x1) ≤ (wr 4))) ∧ (((wr 0) ≤ (wr x2)) ∧ ((wr x2) ≤ (wr 2))) then (if ¬ (((wr (if ¬ ((wr x2) = 2) then 1 else 0)) ≤ (wr x3)) ∧ ((wr x3) ≤ (wr (if (wr x2) = 2 then 29 else 30)))) then ri (-1) m else ck (0 ≤ (wr ((1282 + (3 * x1)) + x2)) ∧ (wr ((1282 + (3 * x1)) + x2)) < 2737) (ck (0 ≤ (wr ((1282 + (3 * x1)) + x2)) ∧ (wr ((1282 + (3 * x1)) + x2)) < 2737) (ri (m 247 (wr ((1282 + (3 * x1)) + x2))) (um m 247 (wr ((1282 + (3 * x1)) + x2)) x3)))) else ri (-1) m) := (s_il_1 p_271_0).trans <| (s_const p_271_1).trans <| (s_const p_271_2).trans <| (s_cs3 (Lc := [.int (iI x1), .int (iI 0), .int (iI 4)]) p_271_3 (by decide) (zM_of zq_199) ⟨Nat.le_of_ble_eq_true rfl, Nat.le_of_ble_eq_true rfl⟩ rfl).trans <| (bd b_199_0).trans <| ri_k.trans <| Eq.trans (Eq.trans (s_beq_f p_271_6 rfl) <| Eq.trans (ite_cg ((s_il_2 p_271_9).trans <| (s_const p_271_10).trans <| (s_const p_271_11).trans <| (s_cs3 (Lc := [.int (iI x2), .int (iI 0), .int (iI 2)]) p_271_12 (by decide) (zM_of zq_199) ⟨Nat.le_of_ble_eq_true rfl, Nat.le_of_ble_eq_true rfl⟩ rfl).trans <| (bd b_199_0).trans <| ri_k.trans <| (s_beq_f p_271_15 rfl)) rfl) co_and) <| ite_cg ((s_il_3 p_271_18).trans <| (s_il_2 p_271_19).trans <| (s_const p_271_20).trans <| Eq.trans (Eq.trans ((s_c_ne_f p_271_21 rfl rfl wl_2)) <| Eq.trans (ite_cg ((s_const p_271_24).trans <| (s_goto p_271_25 rfl).trans <| rfl) ((s_const p_271_28).trans <| rfl)) (phi_not (fun z0 => Z e (d + 1) 271 29 [.ref 246, .int (iI x1), .int (iI x2), .int (iI x3), .retAddr 0] [.int (iI z0), .int (iI x3)] m))) <| (s_il_2 p_271_29).trans <| (s_const p_271_30).trans <| Eq.trans (Eq.trans ((s_c_ne_f p_271_31 rfl rfl wl_2)) <| Eq.trans (ite_cg ((s_bip p_271_34 rfl).trans <| (s_goto p_271_36 rfl).trans <| rfl) ((s_bip p_271_39 rfl).trans <| rfl)) (phi1 (fun z0 => Z e (d + 1) 271 41 [.ref 246, .int (iI x1), .int (iI x2), .int (iI x3), .retAddr 0] [.int (iI z0), .int (iI (if ¬ ((wr x2) = 2) then 1 else 0)), .int (iI x3)] m))) <| (s_cs3 (Lc := [.int (iI x3), .int (iI (if ¬ ((wr x2) = 2) then 1 else 0)), .int (iI (if (wr x2) = 2 then 29 else 30))]) p_271_41 (by decide) (zM_of zq_199) ⟨Nat.le_of_ble_eq_true rfl, Nat.le_of_ble_eq_true rfl⟩ rfl).trans <| (bd b_199_0).trans <| ri_k.trans <| Eq.trans ((s_bne_f p_271_44 rfl)) <| ite_cg ((s_const p_271_47).trans <| (s_reti p_271_48 (zM_of zq_271))) ((s_al_0 p_271_49).trans <| (s_getr p_271_50 hs_246 (by decide) rfl).trans <| (s_sip p_271_53 rfl).trans <| (s_const p_271_56).trans <| (s_il_1 p_271_57).trans <| (s_imul p_271_58).trans <| (s_iadd p_271_59).trans <| (s_il_2 p_271_60).trans <| (s_iadd p_271_61).trans <| (s_ald 2737 p_271_62 hs_247 rfl (by decide)).trans <| ck_cg fun k1 => (s_is_4 cat_i p_271_63).trans <| (s_al_0 p_271_65).trans <| (s_getr p_271_66 hs_246 (by decide) rfl).trans <| (s_sip p_271_69 rfl).trans <| (s_const p_271_72).trans <| (s_il_1 p_271_73).trans <| (s_imul p_271_74).trans <| (s_iadd p_271_75).trans <| (s_il_2 p_271_76).trans <| (s_iadd p_271_77).trans <| (s_il_3 p_271_78).trans <| (s_ast 2737 p_271_79 hs_247 rfl).trans <| ck_cg fun k2 => (s_il_4 p_271_80).trans <| (s_reti p_271_82 (zM_of zq_271)))) ((s_const p_271_47).trans <| (s_reti p_271_48 (zM_of zq_271)))
-- M.sails
theorem p_272_0 : zP1 272 0 = some (.aload_n 0, 0, 0, 0) := zp_l zq_272 rfl
theorem p_272_1 : zP1 272 1 = some (.iload_n 1, 0, 0, 0) := zp_l zq_272 rfl
theorem p_272_2 : zP1 272 2 = some (.invokevirtual 138, 202, 1, 11) := zp_r zq_272 rfl
theorem p_272_5 : zP1 272 5 = some (.ifCond .eq 12, 0, 0, 0) := zp_l zq_272 rfl
theorem p_272_8 : zP1 272 8 = some (.iload_n 2, 0, 0, 0) := zp_l zq_272 rfl
theorem p_272_9 : zP1 272 9 = some (.iconst 0, 0, 0, 0) := zp_l zq_272 rfl
theorem p_272_10 : zP1 272 10 = some (.iconst 2, 0, 0, 0) := zp_l zq_272 rfl
theorem p_272_11 : zP1 272 11 = some (.invokestatic 100, 199, 3, 0) := zp_r zq_272 rfl
theorem p_272_14 : zP1 272 14 = some (.ifCond .ne 5, 0, 0, 0) := zp_l zq_272 rfl
theorem p_272_17 : zP1 272 17 = some (.iconst (-1), 0, 0, 0) := zp_l zq_272 rfl
theorem p_272_18 : zP1 272 18 = some (.ireturn, 0, 0, 0) := zp_l zq_272 rfl
theorem p_272_19 : zP1 272 19 = some (.aload_n 0, 0, 0, 0) := zp_l zq_272 rfl
theorem p_272_20 : zP1 272 20 = some (.iload_n 1, 0, 0, 0) := zp_l zq_272 rfl
theorem p_272_21 : zP1 272 21 = some (.iconst 3, 0, 0, 0) := zp_l zq_272 rfl
theorem p_272_22 : zP1 272 22 = some (.invokevirtual 328, 265, 2, 11) := zp_r zq_272 rfl
theorem p_272_25 : zP1 272 25 = some (.ifCond .eq 6, 0, 0, 0) := zp_l zq_272 rfl
theorem p_272_28 : zP1 272 28 = some (.bipush (-4), 0, 0, 0) := zp_l zq_272 rfl
theorem p_272_30 : zP1 272 30 = some (.ireturn, 0, 0, 0) := zp_l zq_272 rfl
theorem p_272_31 : zP1 272 31 = some (.aload_n 0, 0, 0, 0) := zp_l zq_272 rfl
theorem p_272_32 : zP1 272 32 = some (.getfield 9, 11, 0, 0) := zp_r zq_272 rfl
theorem p_272_35 : zP1 272 35 = some (.iload_n 1, 0, 0, 0) := zp_l zq_272 rfl
theorem p_272_36 : zP1 272 36 = some (.bipush 7, 0, 0, 0) := zp_l zq_272 rfl
theorem p_272_38 : zP1 272 38 = some (.invokestatic 129, 204, 2, 0) := zp_r zq_272 rfl
theorem p_272_41 : zP1 272 41 = some (.iaload, 0, 0, 0) := zp_l zq_272 rfl
theorem p_272_42 : zP1 272 42 = some (.istore_n 3, 0, 0, 0) := zp_l zq_272 rfl
theorem p_272_43 : zP1 272 43 = some (.aload_n 0, 0, 0, 0) := zp_l zq_272 rfl
theorem p_272_44 : zP1 272 44 = some (.getfield 9, 11, 0, 0) := zp_r zq_272 rfl
theorem p_272_47 : zP1 272 47 = some (.iload_n 1, 0, 0, 0) := zp_l zq_272 rfl
theorem p_272_48 : zP1 272 48 = some (.iconst 3, 0, 0, 0) := zp_l zq_272 rfl
theorem p_272_49 : zP1 272 49 = some (.invokestatic 129, 204, 2, 0) := zp_r zq_272 rfl
theorem p_272_52 : zP1 272 52 = some (.iaload, 0, 0, 0) := zp_l zq_272 rfl
theorem p_272_53 : zP1 272 53 = some (.bipush 24, 0, 0, 0) := zp_l zq_272 rfl
theorem p_272_55 : zP1 272 55 = some (.idiv, 0, 0, 0) := zp_l zq_272 rfl
theorem p_272_56 : zP1 272 56 = some (.aload_n 0, 0, 0, 0) := zp_l zq_272 rfl
theorem p_272_57 : zP1 272 57 = some (.getfield 9, 11, 0, 0) := zp_r zq_272 rfl
theorem p_272_60 : zP1 272 60 = some (.sipush 1282, 0, 0, 0) := zp_l zq_272 rfl
theorem p_272_63 : zP1 272 63 = some (.iconst 3, 0, 0, 0) := zp_l zq_272 rfl
theorem p_272_64 : zP1 272 64 = some (.iload_n 3, 0, 0, 0) := zp_l zq_272 rfl
theorem p_272_65 : zP1 272 65 = some (.imul, 0, 0, 0) := zp_l zq_272 rfl
theorem p_272_66 : zP1 272 66 = some (.iadd, 0, 0, 0) := zp_l zq_272 rfl
theorem p_272_67 : zP1 272 67 = some (.iaload, 0, 0, 0) := zp_l zq_272 rfl
theorem p_272_68 : zP1 272 68 = some (.iadd, 0, 0, 0) := zp_l zq_272 rfl
theorem p_272_69 : zP1 272 69 = some (.istore 4, 0, 0, 0) := zp_l zq_272 rfl
theorem p_272_71 : zP1 272 71 = some (.aload_n 0, 0, 0, 0) := zp_l zq_272 rfl
theorem p_272_72 : zP1 272 72 = some (.iload_n 3, 0, 0, 0) := zp_l zq_272 rfl
theorem p_272_73 : zP1 272 73 = some (.iload 4, 0, 0, 0) := zp_l zq_272 rfl
theorem p_272_75 : zP1 272 75 = some (.invokevirtual 337, 268, 2, 11) := zp_r zq_272 rfl
theorem p_272_78 : zP1 272 78 = some (.istore 5, 0, 0, 0) := zp_l zq_272 rfl
theorem p_272_80 : zP1 272 80 = some (.iload_n 2, 0, 0, 0) := zp_l zq_272 rfl
theorem p_272_81 : zP1 272 81 = some (.ifCond .ne 8, 0, 0, 0) := zp_l zq_272 rfl
theorem p_272_84 : zP1 272 84 = some (.iload 4, 0, 0, 0) := zp_l zq_272 rfl
theorem p_272_86 : zP1 272 86 = some (.goto 30, 0, 0, 0) := zp_l zq_272 rfl
theorem p_272_89 : zP1 272 89 = some (.iload 5, 0, 0, 0) := zp_l zq_272 rfl
theorem p_272_91 : zP1 272 91 = some (.bipush (-3), 0, 0, 0) := zp_l zq_272 rfl
theorem p_272_93 : zP1 272 93 = some (.if_icmp .ne 8, 0, 0, 0) := zp_l zq_272 rfl
theorem p_272_96 : zP1 272 96 = some (.bipush (-3), 0, 0, 0) := zp_l zq_272 rfl
theorem p_272_98 : zP1 272 98 = some (.goto 18, 0, 0, 0) := zp_l zq_272 rfl
theorem p_272_101 : zP1 272 101 = some (.iload_n 2, 0, 0, 0) := zp_l zq_272 rfl
theorem p_272_102 : zP1 272 102 = some (.iconst 1, 0, 0, 0) := zp_l zq_272 rfl
theorem p_272_103 : zP1 272 103 = some (.if_icmp .ne 8, 0, 0, 0) := zp_l zq_272 rfl
theorem p_272_106 : zP1 272 106 = some (.iload 5, 0, 0, 0) := zp_l zq_272 rfl
theorem p_272_108 : zP1 272 108 = some (.goto 8, 0, 0, 0) := zp_l zq_272 rfl
theorem p_272_111 : zP1 272 111 = some (.iload 5, 0, 0, 0) := zp_l zq_272 rfl
theorem p_272_113 : zP1 272 113 = some (.iload 4, 0, 0, 0) := zp_l zq_272 rfl
theorem p_272_115 : zP1 272 115 = some (.isub, 0, 0, 0) := zp_l zq_272 rfl
theorem p_272_116 : zP1 272 116 = some (.ireturn, 0, 0, 0) := zp_l zq_272 rfl
theorem b_272_0 {x1 : Int} {x2 : Int} : Z e (d + 2) 272 0 [.ref 246, .int (iI x1), .int (iI x2), .retAddr 0, .retAddr 0, .retAddr 0] [] m = (if (¬ (((wr 0) ≤ (wr x1)) ∧ ((wr x1) ≤ (wr ((m 247 1) - 1))))) ∨ (¬ (((wr 0) ≤ (wr x2)) ∧ ((wr x2) ≤ (wr 2)))) then ri (-1) m else ck (0 ≤ (wr ((110 + (9 * x1)) + 2)) ∧ (wr ((110 + (9 * x1)) + 2)) < 2737) ((if ¬ (wr (m 247 (wr ((110 + (9 * x1)) + 2)))) = (wr 3) then ri (-4) m else ck (0 ≤ (wr ((110 + (9 * x1)) + 7)) ∧ (wr ((110 + (9 * x1)) + 7)) < 2737) (ck (0 ≤ (wr ((110 + (9 * x1)) + 3)) ∧ (wr ((110 + (9 * x1)) + 3)) < 2737) (ck (0 ≤ (wr (1282 + (3 * (m 247 (wr ((110 + (9 * x1)) + 7)))))) ∧ (wr (1282 + (3 * (m 247 (wr ((110 + (9 * x1)) + 7)))))) < 2737) ((Z e (d + 1) 268 0 [.ref 246, .int (iI (m 247 (wr ((110 + (9 * x1)) + 7)))), .int (iI ((jdiv (m 247 (wr ((110 + (9 * x1)) + 3))) 24) + (m 247 (wr (1282 + (3 * (m 247 (wr ((110 + (9 * x1)) + 7))))))))), .retAddr 0, .retAddr 0, .retAddr 0] [] m).bind (ZK e (d + 2) 272 78 [.ref 246, .int (iI x1), .int (iI x2), .int (iI (m 247 (wr ((110 + (9 * x1)) + 7)))), .int (iI ((jdiv (m 247 (wr ((110 + (9 * x1)) + 3))) 24) + (m 247 (wr (1282 + (3 * (m 247 (wr ((110 + (9 * x1)) + 7))))))))), .retAddr 0] [] m))))))) := (s_al_0 p_272_0).trans <| (s_il_1 p_272_1).trans <| (s_cv1 (Lc := [.ref 246, .int (iI x1)]) p_272_2 (by decide) (by decide) (zM_of zq_202) ⟨Nat.le_of_ble_eq_true rfl, Nat.le_of_ble_eq_true rfl⟩ rfl (m_rc hs_246 ⟨rfl, by decide⟩)).trans <| (bd b_202_0).trans <| ri_k.trans <| Eq.trans (Eq.trans (s_beq_t p_272_5 rfl) <| Eq.trans (ite_cg rfl ((s_il_2 p_272_8).trans <| (s_const p_272_9).trans <| (s_const p_272_10).trans <| (s_cs3 (Lc := [.int (iI x2), .int (iI 0), .int (iI 2)]) p_272_11 (by decide) (zM_of zq_199) ⟨Nat.le_of_ble_eq_true rfl, Nat.le_of_ble_eq_true rfl⟩ rfl).trans <| (bd b_199_0).trans <| ri_k.trans <| (s_bne_f p_272_14 rfl))) co_or) <| ite_cg ((s_const p_272_17).trans <| (s_reti p_272_18 (zM_of zq_272))) ((s_al_0 p_272_19).trans <| (s_il_1 p_272_20).trans <| (s_const p_272_21).trans <| (s_cv2 (Lc := [.ref 246, .int (iI x1), .int (iI 3)]) p_272_22 (by decide) (by decide) (zM_of zq_265) ⟨Nat.le_of_ble_eq_true rfl, Nat.le_of_ble_eq_true rfl⟩ rfl (m_rc hs_246 ⟨rfl, by decide⟩)).trans <| (bd b_265_0).trans <| ck_bind.trans <| ck_cg fun _ => ri_k.trans <| Eq.trans ((s_beq_f p_272_25 rfl)) <| ite_cg ((s_bip p_272_28 rfl).trans <| (s_reti p_272_30 (zM_of zq_272))) ((s_al_0 p_272_31).trans <| (s_getr p_272_32 hs_246 (by decide) rfl).trans <| (s_il_1 p_272_35).trans <| (s_bip p_272_36 rfl).trans <| (s_cs2 (Lc := [.int (iI x1), .int (iI 7)]) p_272_38 (by decide) (zM_of zq_204) ⟨Nat.le_of_ble_eq_true rfl, Nat.le_of_ble_eq_true rfl⟩ rfl).trans <| (bd b_204_0).trans <| ri_k.trans <| (s_ald 2737 p_272_41 hs_247 rfl (by decide)).trans <| ck_cg fun k1 => (s_is_3 cat_i p_272_42).trans <| (s_al_0 p_272_43).trans <| (s_getr p_272_44 hs_246 (by decide) rfl).trans <| (s_il_1 p_272_47).trans <| (s_const p_272_48).trans <| (s_cs2 (Lc := [.int (iI x1), .int (iI 3)]) p_272_49 (by decide) (zM_of zq_204) ⟨Nat.le_of_ble_eq_true rfl, Nat.le_of_ble_eq_true rfl⟩ rfl).trans <| (bd b_204_0).trans <| ri_k.trans <| (s_ald 2737 p_272_52 hs_247 rfl (by decide)).trans <| ck_cg fun k2 => (s_bip p_272_53 rfl).trans <| (s_idivc p_272_55 (by decide)).trans <| (s_al_0 p_272_56).trans <| (s_getr p_272_57 hs_246 (by decide) rfl).trans <| (s_sip p_272_60 rfl).trans <| (s_const p_272_63).trans <| (s_il_3 p_272_64).trans <| (s_imul p_272_65).trans <| (s_iadd p_272_66).trans <| (s_ald 2737 p_272_67 hs_247 rfl (by decide)).trans <| ck_cg fun k3 => (s_iadd p_272_68).trans <| (s_is_4 cat_i p_272_69).trans <| (s_al_0 p_272_71).trans <| (s_il_3 p_272_72).trans <| (s_il_4 p_272_73).trans <| (s_cv2 (Lc := [.ref 246, .int (iI (m 247 (wr ((110 + (9 * x1)) + 7)))), .int (iI ((jdiv (m 247 (wr ((110 + (9 * x1)) + 3))) 24) + (m 247 (wr (1282 + (3 * (m 247 (wr ((110 + (9 * x1)) + 7))))))))), .retAddr 0, .retAddr 0, .retAddr 0]) p_272_75 (by decide) (by decide) (zM_of zq_268) ⟨Nat.le_of_ble_eq_true rfl, Nat.le_of_ble_eq_true rfl⟩ rfl (m_rc hs_246 ⟨rfl, by decide⟩))))
theorem b_272_78 {x2 : Int} {x4 : Int} {xs0 : Int} {u0 u1 u3 u5 : Value} : Z e (d + 2) 272 78 [u0, u1, .int (iI x2), u3, .int (iI x4), u5] [.int (iI xs0)] m = ri (if (wr x2) = 0 then x4 else (if (wr xs0) = (-3) then (-3) else (if (wr x2) = 1 then xs0 else (xs0 - x4)))) m := (s_is_5 cat_i p_272_78).trans <| (s_il_2 p_272_80).trans <| Eq.trans (Eq.trans ((s_z_ne_f p_272_81 rfl rfl)) <| Eq.trans (ite_cg ((s_il_4 p_272_84).trans <| (s_goto p_272_86 rfl).trans <| rfl) ((s_il_5 p_272_89).trans <| (s_bip p_272_91 rfl).trans <| Eq.trans (Eq.trans ((s_c_ne_f p_272_93 rfl rfl wl_m3)) <| Eq.trans (ite_cg ((s_bip p_272_96 rfl).trans <| (s_goto p_272_98 rfl).trans <| rfl) ((s_il_2 p_272_101).trans <| (s_const p_272_102).trans <| Eq.trans (Eq.trans ((s_c_ne_f p_272_103 rfl rfl wl_1)) <| Eq.trans (ite_cg ((s_il_5 p_272_106).trans <| (s_goto p_272_108 rfl).trans <| rfl) ((s_il_5 p_272_111).trans <| (s_il_4 p_272_113).trans <| (s_isub p_272_115).trans <| rfl)) (phi1 (fun z0 => Z e (d + 2) 272 116 [u0, u1, .int (iI x2), u3, .int (iI x4), .int (iI xs0)] [.int (iI z0)] m))) <| rfl)) (phi1 (fun z0 => Z e (d + 2) 272 116 [u0, u1, .int (iI x2), u3, .int (iI x4), .int (iI xs0)] [.int (iI z0)] m))) <| rfl)) (phi1 (fun z0 => Z e (d + 2) 272 116 [u0, u1, .int (iI x2), u3, .int (iI x4), .int (iI xs0)] [.int (iI z0)] m))) <| (s_reti p_272_116 (zM_of zq_272))
-- M.isOut
theorem p_273_0 : zP1 273 0 = some (.aload_n 0, 0, 0, 0) := zp_l zq_273 rfl
theorem p_273_1 : zP1 273 1 = some (.getfield 9, 11, 0, 0) := zp_r zq_273 rfl
theorem p_273_4 : zP1 273 4 = some (.iload_n 1, 0, 0, 0) := zp_l zq_273 rfl
theorem p_273_5 : zP1 273 5 = some (.iconst 2, 0, 0, 0) := zp_l zq_273 rfl
theorem p_273_6 : zP1 273 6 = some (.invokestatic 129, 204, 2, 0) := zp_r zq_273 rfl
theorem p_273_9 : zP1 273 9 = some (.iaload, 0, 0, 0) := zp_l zq_273 rfl
theorem p_273_10 : zP1 273 10 = some (.iconst 5, 0, 0, 0) := zp_l zq_273 rfl
theorem p_273_11 : zP1 273 11 = some (.if_icmp .lt 7, 0, 0, 0) := zp_l zq_273 rfl
theorem p_273_14 : zP1 273 14 = some (.iconst 1, 0, 0, 0) := zp_l zq_273 rfl
theorem p_273_15 : zP1 273 15 = some (.goto 4, 0, 0, 0) := zp_l zq_273 rfl
theorem p_273_18 : zP1 273 18 = some (.iconst 0, 0, 0, 0) := zp_l zq_273 rfl
theorem p_273_19 : zP1 273 19 = some (.ireturn, 0, 0, 0) := zp_l zq_273 rfl
theorem b_273_0 {x1 : Int} : Z e (d + 1) 273 0 [.ref 246, .int (iI x1)] [] m = ck (0 ≤ (wr ((110 + (9 * x1)) + 2)) ∧ (wr ((110 + (9 * x1)) + 2)) < 2737) (ri (if 5 ≤ (wr (m 247 (wr ((110 + (9 * x1)) + 2)))) then 1 else 0) m) := (s_al_0 p_273_0).trans <| (s_getr p_273_1 hs_246 (by decide) rfl).trans <| (s_il_1 p_273_4).trans <| (s_const p_273_5).trans <| (s_cs2 (Lc := [.int (iI x1), .int (iI 2)]) p_273_6 (by decide) (zM_of zq_204) ⟨Nat.le_of_ble_eq_true rfl, Nat.le_of_ble_eq_true rfl⟩ rfl).trans <| (bd b_204_0).trans <| ri_k.trans <| (s_ald 2737 p_273_9 hs_247 rfl (by decide)).trans <| ck_cg fun k1 => (s_const p_273_10).trans <| Eq.trans (Eq.trans ((s_c_lt_f p_273_11 rfl rfl wl_5)) <| Eq.trans (ite_cg ((s_const p_273_14).trans <| (s_goto p_273_15 rfl).trans <| rfl) ((s_const p_273_18).trans <| rfl)) (phi1 (fun z0 => Z e (d + 1) 273 19 [.ref 246, .int (iI x1)] [.int (iI z0)] m))) <| (s_retb p_273_19 (zM_of zq_273))
-- M.take
theorem p_274_0 : zP1 274 0 = some (.aload_n 0, 0, 0, 0) := zp_l zq_274 rfl
theorem p_274_1 : zP1 274 1 = some (.iload_n 1, 0, 0, 0) := zp_l zq_274 rfl
theorem p_274_2 : zP1 274 2 = some (.invokevirtual 138, 202, 1, 11) := zp_r zq_274 rfl
theorem p_274_5 : zP1 274 5 = some (.ifCond .eq 16, 0, 0, 0) := zp_l zq_274 rfl
theorem p_274_8 : zP1 274 8 = some (.aload_n 0, 0, 0, 0) := zp_l zq_274 rfl
theorem p_274_9 : zP1 274 9 = some (.iload_n 2, 0, 0, 0) := zp_l zq_274 rfl
theorem p_274_10 : zP1 274 10 = some (.invokevirtual 138, 202, 1, 11) := zp_r zq_274 rfl
theorem p_274_13 : zP1 274 13 = some (.ifCond .eq 8, 0, 0, 0) := zp_l zq_274 rfl
theorem p_274_16 : zP1 274 16 = some (.iload_n 1, 0, 0, 0) := zp_l zq_274 rfl
theorem p_274_17 : zP1 274 17 = some (.iload_n 2, 0, 0, 0) := zp_l zq_274 rfl
theorem p_274_18 : zP1 274 18 = some (.if_icmp .ne 5, 0, 0, 0) := zp_l zq_274 rfl
theorem p_274_21 : zP1 274 21 = some (.iconst (-1), 0, 0, 0) := zp_l zq_274 rfl
theorem p_274_22 : zP1 274 22 = some (.ireturn, 0, 0, 0) := zp_l zq_274 rfl
theorem p_274_23 : zP1 274 23 = some (.aload_n 0, 0, 0, 0) := zp_l zq_274 rfl
theorem p_274_24 : zP1 274 24 = some (.iload_n 2, 0, 0, 0) := zp_l zq_274 rfl
theorem p_274_25 : zP1 274 25 = some (.invokevirtual 340, 273, 1, 11) := zp_r zq_274 rfl
theorem p_274_28 : zP1 274 28 = some (.ifCond .ne 11, 0, 0, 0) := zp_l zq_274 rfl
theorem p_274_31 : zP1 274 31 = some (.aload_n 0, 0, 0, 0) := zp_l zq_274 rfl
theorem p_274_32 : zP1 274 32 = some (.iload_n 1, 0, 0, 0) := zp_l zq_274 rfl
theorem p_274_33 : zP1 274 33 = some (.invokevirtual 340, 273, 1, 11) := zp_r zq_274 rfl
theorem p_274_36 : zP1 274 36 = some (.ifCond .eq 6, 0, 0, 0) := zp_l zq_274 rfl
theorem p_274_39 : zP1 274 39 = some (.bipush (-4), 0, 0, 0) := zp_l zq_274 rfl
theorem p_274_41 : zP1 274 41 = some (.ireturn, 0, 0, 0) := zp_l zq_274 rfl
theorem p_274_42 : zP1 274 42 = some (.aload_n 0, 0, 0, 0) := zp_l zq_274 rfl
theorem p_274_43 : zP1 274 43 = some (.getfield 9, 11, 0, 0) := zp_r zq_274 rfl
theorem p_274_46 : zP1 274 46 = some (.iconst 5, 0, 0, 0) := zp_l zq_274 rfl
theorem p_274_47 : zP1 274 47 = some (.iaload, 0, 0, 0) := zp_l zq_274 rfl
theorem p_274_48 : zP1 274 48 = some (.istore_n 3, 0, 0, 0) := zp_l zq_274 rfl
theorem p_274_49 : zP1 274 49 = some (.iload_n 3, 0, 0, 0) := zp_l zq_274 rfl
theorem p_274_50 : zP1 274 50 = some (.bipush 16, 0, 0, 0) := zp_l zq_274 rfl
theorem p_274_52 : zP1 274 52 = some (.if_icmp .ne 6, 0, 0, 0) := zp_l zq_274 rfl
theorem p_274_55 : zP1 274 55 = some (.bipush (-2), 0, 0, 0) := zp_l zq_274 rfl
theorem p_274_57 : zP1 274 57 = some (.ireturn, 0, 0, 0) := zp_l zq_274 rfl
theorem p_274_58 : zP1 274 58 = some (.aload_n 0, 0, 0, 0) := zp_l zq_274 rfl
theorem p_274_59 : zP1 274 59 = some (.iload_n 2, 0, 0, 0) := zp_l zq_274 rfl
theorem p_274_60 : zP1 274 60 = some (.iconst 2, 0, 0, 0) := zp_l zq_274 rfl
theorem p_274_61 : zP1 274 61 = some (.invokevirtual 328, 265, 2, 11) := zp_r zq_274 rfl
theorem p_274_64 : zP1 274 64 = some (.ifCond .eq 12, 0, 0, 0) := zp_l zq_274 rfl
theorem p_274_67 : zP1 274 67 = some (.aload_n 0, 0, 0, 0) := zp_l zq_274 rfl
theorem p_274_68 : zP1 274 68 = some (.iload_n 2, 0, 0, 0) := zp_l zq_274 rfl
theorem p_274_69 : zP1 274 69 = some (.iconst 3, 0, 0, 0) := zp_l zq_274 rfl
theorem p_274_70 : zP1 274 70 = some (.invokevirtual 328, 265, 2, 11) := zp_r zq_274 rfl
theorem p_274_73 : zP1 274 73 = some (.ifCond .ne 7, 0, 0, 0) := zp_l zq_274 rfl
theorem p_274_76 : zP1 274 76 = some (.iconst 1, 0, 0, 0) := zp_l zq_274 rfl
theorem p_274_77 : zP1 274 77 = some (.goto 4, 0, 0, 0) := zp_l zq_274 rfl
theorem p_274_80 : zP1 274 80 = some (.iconst 0, 0, 0, 0) := zp_l zq_274 rfl
theorem p_274_81 : zP1 274 81 = some (.istore 4, 0, 0, 0) := zp_l zq_274 rfl
theorem p_274_83 : zP1 274 83 = some (.iload 4, 0, 0, 0) := zp_l zq_274 rfl
theorem p_274_85 : zP1 274 85 = some (.ifCond .ne 15, 0, 0, 0) := zp_l zq_274 rfl
theorem p_274_88 : zP1 274 88 = some (.aload_n 0, 0, 0, 0) := zp_l zq_274 rfl
theorem p_274_89 : zP1 274 89 = some (.iload_n 2, 0, 0, 0) := zp_l zq_274 rfl
theorem p_274_90 : zP1 274 90 = some (.invokevirtual 331, 259, 1, 11) := zp_r zq_274 rfl
theorem p_274_93 : zP1 274 93 = some (.ifCond .ne 7, 0, 0, 0) := zp_l zq_274 rfl
theorem p_274_96 : zP1 274 96 = some (.iconst 1, 0, 0, 0) := zp_l zq_274 rfl
theorem p_274_97 : zP1 274 97 = some (.goto 4, 0, 0, 0) := zp_l zq_274 rfl
theorem p_274_100 : zP1 274 100 = some (.iconst 0, 0, 0, 0) := zp_l zq_274 rfl
theorem p_274_101 : zP1 274 101 = some (.istore 5, 0, 0, 0) := zp_l zq_274 rfl
theorem p_274_103 : zP1 274 103 = some (.aload_n 0, 0, 0, 0) := zp_l zq_274 rfl
theorem p_274_104 : zP1 274 104 = some (.getfield 9, 11, 0, 0) := zp_r zq_274 rfl
theorem p_274_107 : zP1 274 107 = some (.iload_n 2, 0, 0, 0) := zp_l zq_274 rfl
theorem p_274_108 : zP1 274 108 = some (.iconst 0, 0, 0, 0) := zp_l zq_274 rfl
theorem p_274_109 : zP1 274 109 = some (.invokestatic 129, 204, 2, 0) := zp_r zq_274 rfl
theorem p_274_112 : zP1 274 112 = some (.iaload, 0, 0, 0) := zp_l zq_274 rfl
theorem p_274_113 : zP1 274 113 = some (.istore 6, 0, 0, 0) := zp_l zq_274 rfl
theorem p_274_115 : zP1 274 115 = some (.iload 5, 0, 0, 0) := zp_l zq_274 rfl
theorem p_274_117 : zP1 274 117 = some (.ifCond .eq 7, 0, 0, 0) := zp_l zq_274 rfl
theorem p_274_120 : zP1 274 120 = some (.iconst 0, 0, 0, 0) := zp_l zq_274 rfl
theorem p_274_121 : zP1 274 121 = some (.goto 31, 0, 0, 0) := zp_l zq_274 rfl
theorem p_274_124 : zP1 274 124 = some (.aload_n 0, 0, 0, 0) := zp_l zq_274 rfl
theorem p_274_125 : zP1 274 125 = some (.iload_n 2, 0, 0, 0) := zp_l zq_274 rfl
theorem p_274_126 : zP1 274 126 = some (.aload_n 0, 0, 0, 0) := zp_l zq_274 rfl
theorem p_274_127 : zP1 274 127 = some (.getfield 9, 11, 0, 0) := zp_r zq_274 rfl
theorem p_274_130 : zP1 274 130 = some (.iconst 0, 0, 0, 0) := zp_l zq_274 rfl
theorem p_274_131 : zP1 274 131 = some (.iaload, 0, 0, 0) := zp_l zq_274 rfl
theorem p_274_132 : zP1 274 132 = some (.invokevirtual 325, 262, 2, 11) := zp_r zq_274 rfl
theorem p_274_135 : zP1 274 135 = some (.iconst 1, 0, 0, 0) := zp_l zq_274 rfl
theorem p_274_136 : zP1 274 136 = some (.aload_n 0, 0, 0, 0) := zp_l zq_274 rfl
theorem p_274_137 : zP1 274 137 = some (.iload 6, 0, 0, 0) := zp_l zq_274 rfl
theorem p_274_139 : zP1 274 139 = some (.aload_n 0, 0, 0, 0) := zp_l zq_274 rfl
theorem p_274_140 : zP1 274 140 = some (.getfield 9, 11, 0, 0) := zp_r zq_274 rfl
theorem p_274_143 : zP1 274 143 = some (.iconst 0, 0, 0, 0) := zp_l zq_274 rfl
theorem p_274_144 : zP1 274 144 = some (.iaload, 0, 0, 0) := zp_l zq_274 rfl
theorem p_274_145 : zP1 274 145 = some (.invokevirtual 169, 225, 2, 11) := zp_r zq_274 rfl
theorem p_274_148 : zP1 274 148 = some (.invokestatic 166, 324, 2, 0) := zp_r zq_274 rfl
theorem p_274_151 : zP1 274 151 = some (.imul, 0, 0, 0) := zp_l zq_274 rfl
theorem p_274_152 : zP1 274 152 = some (.istore 7, 0, 0, 0) := zp_l zq_274 rfl
theorem p_274_154 : zP1 274 154 = some (.sipush 938, 0, 0, 0) := zp_l zq_274 rfl
theorem p_274_157 : zP1 274 157 = some (.bipush 7, 0, 0, 0) := zp_l zq_274 rfl
theorem p_274_159 : zP1 274 159 = some (.iload_n 3, 0, 0, 0) := zp_l zq_274 rfl
theorem p_274_160 : zP1 274 160 = some (.imul, 0, 0, 0) := zp_l zq_274 rfl
theorem p_274_161 : zP1 274 161 = some (.iadd, 0, 0, 0) := zp_l zq_274 rfl
theorem p_274_162 : zP1 274 162 = some (.istore 8, 0, 0, 0) := zp_l zq_274 rfl
theorem p_274_164 : zP1 274 164 = some (.aload_n 0, 0, 0, 0) := zp_l zq_274 rfl
theorem p_274_165 : zP1 274 165 = some (.getfield 9, 11, 0, 0) := zp_r zq_274 rfl
theorem p_274_168 : zP1 274 168 = some (.iload 8, 0, 0, 0) := zp_l zq_274 rfl
theorem p_274_170 : zP1 274 170 = some (.iload_n 1, 0, 0, 0) := zp_l zq_274 rfl
theorem p_274_171 : zP1 274 171 = some (.iastore, 0, 0, 0) := zp_l zq_274 rfl
theorem p_274_172 : zP1 274 172 = some (.aload_n 0, 0, 0, 0) := zp_l zq_274 rfl
theorem p_274_173 : zP1 274 173 = some (.getfield 9, 11, 0, 0) := zp_r zq_274 rfl
theorem p_274_176 : zP1 274 176 = some (.iload 8, 0, 0, 0) := zp_l zq_274 rfl
theorem p_274_178 : zP1 274 178 = some (.iconst 1, 0, 0, 0) := zp_l zq_274 rfl
theorem p_274_179 : zP1 274 179 = some (.iadd, 0, 0, 0) := zp_l zq_274 rfl
theorem p_274_180 : zP1 274 180 = some (.iload_n 2, 0, 0, 0) := zp_l zq_274 rfl
theorem p_274_181 : zP1 274 181 = some (.iastore, 0, 0, 0) := zp_l zq_274 rfl
theorem p_274_182 : zP1 274 182 = some (.aload_n 0, 0, 0, 0) := zp_l zq_274 rfl
theorem p_274_183 : zP1 274 183 = some (.getfield 9, 11, 0, 0) := zp_r zq_274 rfl
theorem p_274_186 : zP1 274 186 = some (.iload 8, 0, 0, 0) := zp_l zq_274 rfl
theorem p_274_188 : zP1 274 188 = some (.iconst 2, 0, 0, 0) := zp_l zq_274 rfl
theorem p_274_189 : zP1 274 189 = some (.iadd, 0, 0, 0) := zp_l zq_274 rfl
theorem p_274_190 : zP1 274 190 = some (.aload_n 0, 0, 0, 0) := zp_l zq_274 rfl
theorem p_274_191 : zP1 274 191 = some (.getfield 9, 11, 0, 0) := zp_r zq_274 rfl
theorem p_274_194 : zP1 274 194 = some (.iconst 0, 0, 0, 0) := zp_l zq_274 rfl
theorem p_274_195 : zP1 274 195 = some (.iaload, 0, 0, 0) := zp_l zq_274 rfl
theorem p_274_196 : zP1 274 196 = some (.iastore, 0, 0, 0) := zp_l zq_274 rfl
theorem p_274_197 : zP1 274 197 = some (.aload_n 0, 0, 0, 0) := zp_l zq_274 rfl
theorem p_274_198 : zP1 274 198 = some (.getfield 9, 11, 0, 0) := zp_r zq_274 rfl
theorem p_274_201 : zP1 274 201 = some (.iload 8, 0, 0, 0) := zp_l zq_274 rfl
theorem p_274_203 : zP1 274 203 = some (.iconst 3, 0, 0, 0) := zp_l zq_274 rfl
theorem p_274_204 : zP1 274 204 = some (.iadd, 0, 0, 0) := zp_l zq_274 rfl
theorem p_274_205 : zP1 274 205 = some (.iload 6, 0, 0, 0) := zp_l zq_274 rfl
theorem p_274_207 : zP1 274 207 = some (.iastore, 0, 0, 0) := zp_l zq_274 rfl
theorem p_274_208 : zP1 274 208 = some (.aload_n 0, 0, 0, 0) := zp_l zq_274 rfl
theorem p_274_209 : zP1 274 209 = some (.getfield 9, 11, 0, 0) := zp_r zq_274 rfl
theorem p_274_212 : zP1 274 212 = some (.iload 8, 0, 0, 0) := zp_l zq_274 rfl
theorem p_274_214 : zP1 274 214 = some (.iconst 4, 0, 0, 0) := zp_l zq_274 rfl
theorem p_274_215 : zP1 274 215 = some (.iadd, 0, 0, 0) := zp_l zq_274 rfl
theorem p_274_216 : zP1 274 216 = some (.iload 7, 0, 0, 0) := zp_l zq_274 rfl
theorem p_274_218 : zP1 274 218 = some (.iastore, 0, 0, 0) := zp_l zq_274 rfl
theorem p_274_219 : zP1 274 219 = some (.aload_n 0, 0, 0, 0) := zp_l zq_274 rfl
theorem p_274_220 : zP1 274 220 = some (.getfield 9, 11, 0, 0) := zp_r zq_274 rfl
theorem p_274_223 : zP1 274 223 = some (.iload 8, 0, 0, 0) := zp_l zq_274 rfl
theorem p_274_225 : zP1 274 225 = some (.iconst 5, 0, 0, 0) := zp_l zq_274 rfl
theorem p_274_226 : zP1 274 226 = some (.iadd, 0, 0, 0) := zp_l zq_274 rfl
theorem p_274_227 : zP1 274 227 = some (.iload 5, 0, 0, 0) := zp_l zq_274 rfl
theorem p_274_229 : zP1 274 229 = some (.ifCond .eq 7, 0, 0, 0) := zp_l zq_274 rfl
theorem p_274_232 : zP1 274 232 = some (.iconst 1, 0, 0, 0) := zp_l zq_274 rfl
theorem p_274_233 : zP1 274 233 = some (.goto 4, 0, 0, 0) := zp_l zq_274 rfl
theorem p_274_236 : zP1 274 236 = some (.iconst 0, 0, 0, 0) := zp_l zq_274 rfl
theorem p_274_237 : zP1 274 237 = some (.iastore, 0, 0, 0) := zp_l zq_274 rfl
theorem p_274_238 : zP1 274 238 = some (.aload_n 0, 0, 0, 0) := zp_l zq_274 rfl
theorem p_274_239 : zP1 274 239 = some (.getfield 9, 11, 0, 0) := zp_r zq_274 rfl
theorem p_274_242 : zP1 274 242 = some (.iload 8, 0, 0, 0) := zp_l zq_274 rfl
theorem p_274_244 : zP1 274 244 = some (.bipush 6, 0, 0, 0) := zp_l zq_274 rfl
theorem p_274_246 : zP1 274 246 = some (.iadd, 0, 0, 0) := zp_l zq_274 rfl
theorem p_274_247 : zP1 274 247 = some (.iload 4, 0, 0, 0) := zp_l zq_274 rfl
theorem p_274_249 : zP1 274 249 = some (.ifCond .eq 7, 0, 0, 0) := zp_l zq_274 rfl
theorem p_274_252 : zP1 274 252 = some (.iconst 0, 0, 0, 0) := zp_l zq_274 rfl
theorem p_274_253 : zP1 274 253 = some (.goto 4, 0, 0, 0) := zp_l zq_274 rfl
theorem p_274_256 : zP1 274 256 = some (.iconst 1, 0, 0, 0) := zp_l zq_274 rfl
theorem p_274_257 : zP1 274 257 = some (.iastore, 0, 0, 0) := zp_l zq_274 rfl
theorem p_274_258 : zP1 274 258 = some (.aload_n 0, 0, 0, 0) := zp_l zq_274 rfl
theorem p_274_259 : zP1 274 259 = some (.getfield 9, 11, 0, 0) := zp_r zq_274 rfl
theorem p_274_262 : zP1 274 262 = some (.iconst 5, 0, 0, 0) := zp_l zq_274 rfl
theorem p_274_263 : zP1 274 263 = some (.dup2, 0, 0, 0) := zp_l zq_274 rfl
theorem p_274_264 : zP1 274 264 = some (.iaload, 0, 0, 0) := zp_l zq_274 rfl
theorem p_274_265 : zP1 274 265 = some (.iconst 1, 0, 0, 0) := zp_l zq_274 rfl
theorem p_274_266 : zP1 274 266 = some (.iadd, 0, 0, 0) := zp_l zq_274 rfl
theorem p_274_267 : zP1 274 267 = some (.iastore, 0, 0, 0) := zp_l zq_274 rfl
theorem p_274_268 : zP1 274 268 = some (.aload_n 0, 0, 0, 0) := zp_l zq_274 rfl
theorem p_274_269 : zP1 274 269 = some (.getfield 9, 11, 0, 0) := zp_r zq_274 rfl
theorem p_274_272 : zP1 274 272 = some (.iload_n 1, 0, 0, 0) := zp_l zq_274 rfl
theorem p_274_273 : zP1 274 273 = some (.bipush 8, 0, 0, 0) := zp_l zq_274 rfl
theorem p_274_275 : zP1 274 275 = some (.invokestatic 129, 204, 2, 0) := zp_r zq_274 rfl
theorem p_274_278 : zP1 274 278 = some (.dup2, 0, 0, 0) := zp_l zq_274 rfl
theorem p_274_279 : zP1 274 279 = some (.iaload, 0, 0, 0) := zp_l zq_274 rfl
theorem p_274_280 : zP1 274 280 = some (.iload 7, 0, 0, 0) := zp_l zq_274 rfl
theorem p_274_282 : zP1 274 282 = some (.iadd, 0, 0, 0) := zp_l zq_274 rfl
theorem p_274_283 : zP1 274 283 = some (.iastore, 0, 0, 0) := zp_l zq_274 rfl
theorem p_274_284 : zP1 274 284 = some (.aload_n 0, 0, 0, 0) := zp_l zq_274 rfl
theorem p_274_285 : zP1 274 285 = some (.getfield 9, 11, 0, 0) := zp_r zq_274 rfl
theorem p_274_288 : zP1 274 288 = some (.iload_n 2, 0, 0, 0) := zp_l zq_274 rfl
theorem p_274_289 : zP1 274 289 = some (.iconst 4, 0, 0, 0) := zp_l zq_274 rfl
theorem p_274_290 : zP1 274 290 = some (.invokestatic 129, 204, 2, 0) := zp_r zq_274 rfl
theorem p_274_293 : zP1 274 293 = some (.bipush (-3), 0, 0, 0) := zp_l zq_274 rfl
theorem p_274_295 : zP1 274 295 = some (.iastore, 0, 0, 0) := zp_l zq_274 rfl
theorem p_274_296 : zP1 274 296 = some (.aload_n 0, 0, 0, 0) := zp_l zq_274 rfl
theorem p_274_297 : zP1 274 297 = some (.iload_n 2, 0, 0, 0) := zp_l zq_274 rfl
theorem p_274_298 : zP1 274 298 = some (.iload 5, 0, 0, 0) := zp_l zq_274 rfl
theorem p_274_300 : zP1 274 300 = some (.ifCond .eq 7, 0, 0, 0) := zp_l zq_274 rfl
theorem p_274_303 : zP1 274 303 = some (.iconst 5, 0, 0, 0) := zp_l zq_274 rfl
theorem p_274_304 : zP1 274 304 = some (.goto 5, 0, 0, 0) := zp_l zq_274 rfl
theorem p_274_307 : zP1 274 307 = some (.bipush 6, 0, 0, 0) := zp_l zq_274 rfl
theorem p_274_309 : zP1 274 309 = some (.invokevirtual 334, 264, 2, 11) := zp_r zq_274 rfl
theorem p_274_312 : zP1 274 312 = some (.istore 9, 0, 0, 0) := zp_l zq_274 rfl
theorem p_274_314 : zP1 274 314 = some (.iload_n 3, 0, 0, 0) := zp_l zq_274 rfl
theorem p_274_315 : zP1 274 315 = some (.ireturn, 0, 0, 0) := zp_l zq_274 rfl
theorem b_274_0 {x1 : Int} {x2 : Int} : Z e (d + 2) 274 0 [.ref 246, .int (iI x1), .int (iI x2), .retAddr 0, .retAddr 0, .retAddr 0, .retAddr 0, .retAddr 0, .retAddr 0, .retAddr 0] [] m = (if (¬ (((wr 0) ≤ (wr x1)) ∧ ((wr x1) ≤ (wr ((m 247 1) - 1))))) ∨ ((¬ (((wr 0) ≤ (wr x2)) ∧ ((wr x2) ≤ (wr ((m 247 1) - 1))))) ∨ ((wr x1) = (wr x2))) then ri (-1) m else ck (0 ≤ (wr ((110 + (9 * x2)) + 2)) ∧ (wr ((110 + (9 * x2)) + 2)) < 2737) (ck ((¬ (5 ≤ (wr (m 247 (wr ((110 + (9 * x2)) + 2)))))) → (0 ≤ (wr ((110 + (9 * x1)) + 2)) ∧ (wr ((110 + (9 * x1)) + 2)) < 2737)) (if (5 ≤ (wr (m 247 (wr ((110 + (9 * x2)) + 2))))) ∨ (5 ≤ (wr (m 247 (wr ((110 + (9 * x1)) + 2))))) then ri (-4) m else (if (wr (m 247 5)) = 16 then ri (-2) m else ck (0 ≤ (wr ((110 + (9 * x2)) + 2)) ∧ (wr ((110 + (9 * x2)) + 2)) < 2737) (ck ((¬ (¬ (¬ (wr (m 247 (wr ((110 + (9 * x2)) + 2)))) = (wr 2)))) → (0 ≤ (wr ((110 + (9 * x2)) + 2)) ∧ (wr ((110 + (9 * x2)) + 2)) < 2737)) ((if ¬ ((¬ (¬ (wr (m 247 (wr ((110 + (9 * x2)) + 2)))) = (wr 2))) ∨ (¬ (¬ (wr (m 247 (wr ((110 + (9 * x2)) + 2)))) = (wr 3)))) then (Z e (d + 1) 259 0 [.ref 246, .int (iI x2)] [] m).bind (ZK e (d + 2) 274 93 [.ref 246, .int (iI x1), .int (iI x2), .int (iI (m 247 5)), .int (iI (if (¬ (¬ (wr (m 247 (wr ((110 + (9 * x2)) + 2)))) = (wr 2))) ∨ (¬ (¬ (wr (m 247 (wr ((110 + (9 * x2)) + 2)))) = (wr 3))) then 1 else 0)), .retAddr 0, .retAddr 0, .retAddr 0, .retAddr 0, .retAddr 0] [] m) else Z e (d + 2) 274 101 [.ref 246, .int (iI x1), .int (iI x2), .int (iI (m 247 5)), .int (iI (if (¬ (¬ (wr (m 247 (wr ((110 + (9 * x2)) + 2)))) = (wr 2))) ∨ (¬ (¬ (wr (m 247 (wr ((110 + (9 * x2)) + 2)))) = (wr 3))) then 1 else 0)), .retAddr 0, .retAddr 0, .retAddr 0, .retAddr 0, .retAddr 0] [.int (iI 0)] m))))))) := (s_al_0 p_274_0).trans <| (s_il_1 p_274_1).trans <| (s_cv1 (Lc := [.ref 246, .int (iI x1)]) p_274_2 (by decide) (by decide) (zM_of zq_202) ⟨Nat.le_of_ble_eq_true rfl, Nat.le_of_ble_eq_true rfl⟩ rfl (m_rc hs_246 ⟨rfl, by decide⟩)).trans <| (bd b_202_0).trans <| ri_k.trans <| Eq.trans (Eq.trans (s_beq_t p_274_5 rfl) <| Eq.trans (ite_cg rfl ((s_al_0 p_274_8).trans <| (s_il_2 p_274_9).trans <| (s_cv1 (Lc := [.ref 246, .int (iI x2)]) p_274_10 (by decide) (by decide) (zM_of zq_202) ⟨Nat.le_of_ble_eq_true rfl, Nat.le_of_ble_eq_true rfl⟩ rfl (m_rc hs_246 ⟨rfl, by decide⟩)).trans <| (bd b_202_0).trans <| ri_k.trans <| Eq.trans (s_beq_t p_274_13 rfl) <| Eq.trans (ite_cg rfl ((s_il_1 p_274_16).trans <| (s_il_2 p_274_17).trans <| (s_c_ne_f p_274_18 rfl rfl rfl))) co_or)) co_or) <| ite_cg ((s_const p_274_21).trans <| (s_reti p_274_22 (zM_of zq_274))) ((s_al_0 p_274_23).trans <| (s_il_2 p_274_24).trans <| (s_cv1 (Lc := [.ref 246, .int (iI x2)]) p_274_25 (by decide) (by decide) (zM_of zq_273) ⟨Nat.le_of_ble_eq_true rfl, Nat.le_of_ble_eq_true rfl⟩ rfl (m_rc hs_246 ⟨rfl, by decide⟩)).trans <| (bd b_273_0).trans <| ck_bind.trans <| ck_cg fun _ => ri_k.trans <| Eq.trans (Eq.trans (s_bne_t p_274_28 rfl) <| Eq.trans (ite_cg rfl ((s_al_0 p_274_31).trans <| (s_il_1 p_274_32).trans <| (s_cv1 (Lc := [.ref 246, .int (iI x1)]) p_274_33 (by decide) (by decide) (zM_of zq_273) ⟨Nat.le_of_ble_eq_true rfl, Nat.le_of_ble_eq_true rfl⟩ rfl (m_rc hs_246 ⟨rfl, by decide⟩)).trans <| (bd b_273_0).trans <| ck_bind.trans <| ck_cg fun k1 => ri_k.trans <| (s_beq_f p_274_36 rfl))) <| Eq.trans ck_b <| ck_cg fun _ => co_or) <| ck_cg fun _ => ite_cg ((s_bip p_274_39 rfl).trans <| (s_reti p_274_41 (zM_of zq_274))) ((s_al_0 p_274_42).trans <| (s_getr p_274_43 hs_246 (by decide) rfl).trans <| (s_const p_274_46).trans <| (s_aldc p_274_47 hs_247 (by decide) wl_5 (by decide)).trans <| (s_is_3 cat_i p_274_48).trans <| (s_il_3 p_274_49).trans <| (s_bip p_274_50 rfl).trans <| Eq.trans ((s_c_ne_f p_274_52 rfl rfl wl_16)) <| ite_cg ((s_bip p_274_55 rfl).trans <| (s_reti p_274_57 (zM_of zq_274))) ((s_al_0 p_274_58).trans <| (s_il_2 p_274_59).trans <| (s_const p_274_60).trans <| (s_cv2 (Lc := [.ref 246, .int (iI x2), .int (iI 2)]) p_274_61 (by decide) (by decide) (zM_of zq_265) ⟨Nat.le_of_ble_eq_true rfl, Nat.le_of_ble_eq_true rfl⟩ rfl (m_rc hs_246 ⟨rfl, by decide⟩)).trans <| (bd b_265_0).trans <| ck_bind.trans <| ck_cg fun _ => ri_k.trans <| Eq.trans (Eq.trans (Eq.trans (s_beq_t p_274_64 rfl) <| Eq.trans (ite_cg rfl ((s_al_0 p_274_67).trans <| (s_il_2 p_274_68).trans <| (s_const p_274_69).trans <| (s_cv2 (Lc := [.ref 246, .int (iI x2), .int (iI 3)]) p_274_70 (by decide) (by decide) (zM_of zq_265) ⟨Nat.le_of_ble_eq_true rfl, Nat.le_of_ble_eq_true rfl⟩ rfl (m_rc hs_246 ⟨rfl, by decide⟩)).trans <| (bd b_265_0).trans <| ck_bind.trans <| ck_cg fun k2 => ri_k.trans <| (s_bne_f p_274_73 rfl))) <| Eq.trans ck_b <| ck_cg fun _ => co_or) <| ck_cg fun _ => Eq.trans (ite_cg ((s_const p_274_76).trans <| (s_goto p_274_77 rfl).trans <| rfl) ((s_const p_274_80).trans <| rfl)) (phi1 (fun z0 => Z e (d + 2) 274 81 [.ref 246, .int (iI x1), .int (iI x2), .int (iI (m 247 5)), .retAddr 0, .retAddr 0, .retAddr 0, .retAddr 0, .retAddr 0, .retAddr 0] [.int (iI z0)] m))) <| ck_cg fun _ => (s_is_4 cat_i p_274_81).trans <| (s_il_4 p_274_83).trans <| Eq.trans ((s_bne_f p_274_85 rfl)) <| ite_cg ((s_al_0 p_274_88).trans <| (s_il_2 p_274_89).trans <| (s_cv1 (Lc := [.ref 246, .int (iI x2)]) p_274_90 (by decide) (by decide) (zM_of zq_259) ⟨Nat.le_of_ble_eq_true rfl, Nat.le_of_ble_eq_true rfl⟩ rfl (m_rc hs_246 ⟨rfl, by decide⟩))) ((s_const p_274_100).trans <| rfl))))
theorem b_274_93 {x1 : Int} {x2 : Int} {x3 : Int} {x4 : Int} {xs0 : Int} {u5 u6 u7 u8 u9 : Value} : Z e (d + 2) 274 93 [.ref 246, .int (iI x1), .int (iI x2), .int (iI x3), .int (iI x4), u5, u6, u7, u8, u9] [.int (iI xs0)] m = Z e (d + 2) 274 101 [.ref 246, .int (iI x1), .int (iI x2), .int (iI x3), .int (iI x4), u5, u6, u7, u8, u9] [.int (iI (if (wr xs0) = 0 then 1 else 0))] m := Eq.trans (Eq.trans ((s_z_ne_f p_274_93 rfl rfl)) <| Eq.trans (ite_cg ((s_const p_274_96).trans <| (s_goto p_274_97 rfl).trans <| rfl) ((s_const p_274_100).trans <| rfl)) (phi1 (fun z0 => Z e (d + 2) 274 101 [.ref 246, .int (iI x1), .int (iI x2), .int (iI x3), .int (iI x4), u5, u6, u7, u8, u9] [.int (iI z0)] m))) <| rfl
theorem b_274_101 {x1 : Int} {x2 : Int} {x3 : Int} {x4 : Int} {xs0 : Int} {u5 u6 u7 u8 u9 : Value} : Z e (d + 2) 274 101 [.ref 246, .int (iI x1), .int (iI x2), .int (iI x3), .int (iI x4), u5, u6, u7, u8, u9] [.int (iI xs0)] m = ck (0 ≤ (wr ((110 + (9 * x2)) + 0)) ∧ (wr ((110 + (9 * x2)) + 0)) < 2737) ((if ¬ (wr xs0) = 0 then Z e (d + 2) 274 152 [.ref 246, .int (iI x1), .int (iI x2), .int (iI x3), .int (iI x4), .int (iI xs0), .int (iI (m 247 (wr ((110 + (9 * x2)) + 0)))), u7, u8, u9] [.int (iI 0)] m else (Z e (d + 1) 262 0 [.ref 246, .int (iI x2), .int (iI (m 247 0)), .retAddr 0, .retAddr 0, .retAddr 0, .retAddr 0, .retAddr 0, .retAddr 0, .retAddr 0] [] m).bind (ZK e (d + 2) 274 135 [.ref 246, .int (iI x1), .int (iI x2), .int (iI x3), .int (iI x4), .int (iI xs0), .int (iI (m 247 (wr ((110 + (9 * x2)) + 0)))), u7, u8, u9] [] m))) := (s_is_5 cat_i p_274_101).trans <| (s_al_0 p_274_103).trans <| (s_getr p_274_104 hs_246 (by decide) rfl).trans <| (s_il_2 p_274_107).trans <| (s_const p_274_108).trans <| (s_cs2 (Lc := [.int (iI x2), .int (iI 0)]) p_274_109 (by decide) (zM_of zq_204) ⟨Nat.le_of_ble_eq_true rfl, Nat.le_of_ble_eq_true rfl⟩ rfl).trans <| (bd b_204_0).trans <| ri_k.trans <| (s_ald 2737 p_274_112 hs_247 rfl (by decide)).trans <| ck_cg fun k1 => (s_is_6 cat_i p_274_113).trans <| (s_il_5 p_274_115).trans <| Eq.trans ((s_z_eq_f p_274_117 rfl rfl)) <| ite_cg ((s_const p_274_120).trans <| (s_goto p_274_121 rfl).trans <| rfl) ((s_al_0 p_274_124).trans <| (s_il_2 p_274_125).trans <| (s_al_0 p_274_126).trans <| (s_getr p_274_127 hs_246 (by decide) rfl).trans <| (s_const p_274_130).trans <| (s_aldc p_274_131 hs_247 (by decide) wl_0 (by decide)).trans <| (s_cv2 (Lc := [.ref 246, .int (iI x2), .int (iI (m 247 0)), .retAddr 0, .retAddr 0, .retAddr 0, .retAddr 0, .retAddr 0, .retAddr 0, .retAddr 0]) p_274_132 (by decide) (by decide) (zM_of zq_262) ⟨Nat.le_of_ble_eq_true rfl, Nat.le_of_ble_eq_true rfl⟩ rfl (m_rc hs_246 ⟨rfl, by decide⟩)))
theorem b_274_152 {x1 : Int} {x2 : Int} {x3 : Int} {x4 : Int} {x5 : Int} {x6 : Int} {xs0 : Int} {u7 u8 u9 : Value} : Z e (d + 2) 274 152 [.ref 246, .int (iI x1), .int (iI x2), .int (iI x3), .int (iI x4), .int (iI x5), .int (iI x6), u7, u8, u9] [.int (iI xs0)] m = ck (0 ≤ (wr (938 + (7 * x3))) ∧ (wr (938 + (7 * x3))) < 2737) (ck (0 ≤ (wr ((938 + (7 * x3)) + 1)) ∧ (wr ((938 + (7 * x3)) + 1)) < 2737) (ck (0 ≤ (wr ((938 + (7 * x3)) + 2)) ∧ (wr ((938 + (7 * x3)) + 2)) < 2737) (ck (0 ≤ (wr ((938 + (7 * x3)) + 3)) ∧ (wr ((938 + (7 * x3)) + 3)) < 2737) (ck (0 ≤ (wr ((938 + (7 * x3)) + 4)) ∧ (wr ((938 + (7 * x3)) + 4)) < 2737) (ck (0 ≤ (wr ((938 + (7 * x3)) + 5)) ∧ (wr ((938 + (7 * x3)) + 5)) < 2737) (ck (0 ≤ (wr ((938 + (7 * x3)) + 6)) ∧ (wr ((938 + (7 * x3)) + 6)) < 2737) (ck (0 ≤ (wr ((110 + (9 * x1)) + 8)) ∧ (wr ((110 + (9 * x1)) + 8)) < 2737) (ck (0 ≤ (wr ((110 + (9 * x1)) + 8)) ∧ (wr ((110 + (9 * x1)) + 8)) < 2737) (ck (0 ≤ (wr ((110 + (9 * x2)) + 4)) ∧ (wr ((110 + (9 * x2)) + 4)) < 2737) (ck (0 ≤ (wr ((110 + (9 * x2)) + 2)) ∧ (wr ((110 + (9 * x2)) + 2)) < 2737) (ck (0 ≤ (wr ((110 + (9 * x2)) + 3)) ∧ (wr ((110 + (9 * x2)) + 3)) < 2737) (ri x3 (um (um (um (um (um (um (um (um (um (um (um (um m 247 (wr (938 + (7 * x3))) x1) 247 (wr ((938 + (7 * x3)) + 1)) x2) 247 (wr ((938 + (7 * x3)) + 2)) ((um (um m 247 (wr (938 + (7 * x3))) x1) 247 (wr ((938 + (7 * x3)) + 1)) x2) 247 0)) 247 (wr ((938 + (7 * x3)) + 3)) x6) 247 (wr ((938 + (7 * x3)) + 4)) xs0) 247 (wr ((938 + (7 * x3)) + 5)) (if ¬ (wr x5) = 0 then 1 else 0)) 247 (wr ((938 + (7 * x3)) + 6)) (if ¬ (¬ (wr x4) = 0) then 1 else 0)) 247 5 (((um (um (um (um (um (um (um m 247 (wr (938 + (7 * x3))) x1) 247 (wr ((938 + (7 * x3)) + 1)) x2) 247 (wr ((938 + (7 * x3)) + 2)) ((um (um m 247 (wr (938 + (7 * x3))) x1) 247 (wr ((938 + (7 * x3)) + 1)) x2) 247 0)) 247 (wr ((938 + (7 * x3)) + 3)) x6) 247 (wr ((938 + (7 * x3)) + 4)) xs0) 247 (wr ((938 + (7 * x3)) + 5)) (if ¬ (wr x5) = 0 then 1 else 0)) 247 (wr ((938 + (7 * x3)) + 6)) (if ¬ (¬ (wr x4) = 0) then 1 else 0)) 247 5) + 1)) 247 (wr ((110 + (9 * x1)) + 8)) (((um (um (um (um (um (um (um (um m 247 (wr (938 + (7 * x3))) x1) 247 (wr ((938 + (7 * x3)) + 1)) x2) 247 (wr ((938 + (7 * x3)) + 2)) ((um (um m 247 (wr (938 + (7 * x3))) x1) 247 (wr ((938 + (7 * x3)) + 1)) x2) 247 0)) 247 (wr ((938 + (7 * x3)) + 3)) x6) 247 (wr ((938 + (7 * x3)) + 4)) xs0) 247 (wr ((938 + (7 * x3)) + 5)) (if ¬ (wr x5) = 0 then 1 else 0)) 247 (wr ((938 + (7 * x3)) + 6)) (if ¬ (¬ (wr x4) = 0) then 1 else 0)) 247 5 (((um (um (um (um (um (um (um m 247 (wr (938 + (7 * x3))) x1) 247 (wr ((938 + (7 * x3)) + 1)) x2) 247 (wr ((938 + (7 * x3)) + 2)) ((um (um m 247 (wr (938 + (7 * x3))) x1) 247 (wr ((938 + (7 * x3)) + 1)) x2) 247 0)) 247 (wr ((938 + (7 * x3)) + 3)) x6) 247 (wr ((938 + (7 * x3)) + 4)) xs0) 247 (wr ((938 + (7 * x3)) + 5)) (if ¬ (wr x5) = 0 then 1 else 0)) 247 (wr ((938 + (7 * x3)) + 6)) (if ¬ (¬ (wr x4) = 0) then 1 else 0)) 247 5) + 1)) 247 (wr ((110 + (9 * x1)) + 8))) + xs0)) 247 (wr ((110 + (9 * x2)) + 4)) (-3)) 247 (wr ((110 + (9 * x2)) + 2)) (if ¬ (wr x5) = 0 then 5 else 6)) 247 (wr ((110 + (9 * x2)) + 3)) ((um (um (um (um (um (um (um (um (um (um (um m 247 (wr (938 + (7 * x3))) x1) 247 (wr ((938 + (7 * x3)) + 1)) x2) 247 (wr ((938 + (7 * x3)) + 2)) ((um (um m 247 (wr (938 + (7 * x3))) x1) 247 (wr ((938 + (7 * x3)) + 1)) x2) 247 0)) 247 (wr ((938 + (7 * x3)) + 3)) x6) 247 (wr ((938 + (7 * x3)) + 4)) xs0) 247 (wr ((938 + (7 * x3)) + 5)) (if ¬ (wr x5) = 0 then 1 else 0)) 247 (wr ((938 + (7 * x3)) + 6)) (if ¬ (¬ (wr x4) = 0) then 1 else 0)) 247 5 (((um (um (um (um (um (um (um m 247 (wr (938 + (7 * x3))) x1) 247 (wr ((938 + (7 * x3)) + 1)) x2) 247 (wr ((938 + (7 * x3)) + 2)) ((um (um m 247 (wr (938 + (7 * x3))) x1) 247 (wr ((938 + (7 * x3)) + 1)) x2) 247 0)) 247 (wr ((938 + (7 * x3)) + 3)) x6) 247 (wr ((938 + (7 * x3)) + 4)) xs0) 247 (wr ((938 + (7 * x3)) + 5)) (if ¬ (wr x5) = 0 then 1 else 0)) 247 (wr ((938 + (7 * x3)) + 6)) (if ¬ (¬ (wr x4) = 0) then 1 else 0)) 247 5) + 1)) 247 (wr ((110 + (9 * x1)) + 8)) (((um (um (um (um (um (um (um (um m 247 (wr (938 + (7 * x3))) x1) 247 (wr ((938 + (7 * x3)) + 1)) x2) 247 (wr ((938 + (7 * x3)) + 2)) ((um (um m 247 (wr (938 + (7 * x3))) x1) 247 (wr ((938 + (7 * x3)) + 1)) x2) 247 0)) 247 (wr ((938 + (7 * x3)) + 3)) x6) 247 (wr ((938 + (7 * x3)) + 4)) xs0) 247 (wr ((938 + (7 * x3)) + 5)) (if ¬ (wr x5) = 0 then 1 else 0)) 247 (wr ((938 + (7 * x3)) + 6)) (if ¬ (¬ (wr x4) = 0) then 1 else 0)) 247 5 (((um (um (um (um (um (um (um m 247 (wr (938 + (7 * x3))) x1) 247 (wr ((938 + (7 * x3)) + 1)) x2) 247 (wr ((938 + (7 * x3)) + 2)) ((um (um m 247 (wr (938 + (7 * x3))) x1) 247 (wr ((938 + (7 * x3)) + 1)) x2) 247 0)) 247 (wr ((938 + (7 * x3)) + 3)) x6) 247 (wr ((938 + (7 * x3)) + 4)) xs0) 247 (wr ((938 + (7 * x3)) + 5)) (if ¬ (wr x5) = 0 then 1 else 0)) 247 (wr ((938 + (7 * x3)) + 6)) (if ¬ (¬ (wr x4) = 0) then 1 else 0)) 247 5) + 1)) 247 (wr ((110 + (9 * x1)) + 8))) + xs0)) 247 (wr ((110 + (9 * x2)) + 4)) (-3)) 247 (wr ((110 + (9 * x2)) + 2)) (if ¬ (wr x5) = 0 then 5 else 6)) 247 0)))))))))))))) := (s_is_7 cat_i p_274_152).trans <| (s_sip p_274_154 rfl).trans <| (s_bip p_274_157 rfl).trans <| (s_il_3 p_274_159).trans <| (s_imul p_274_160).trans <| (s_iadd p_274_161).trans <| (s_is_8 cat_i p_274_162).trans <| (s_al_0 p_274_164).trans <| (s_getr p_274_165 hs_246 (by decide) rfl).trans <| (s_il_8 p_274_168).trans <| (s_il_1 p_274_170).trans <| (s_ast 2737 p_274_171 hs_247 rfl).trans <| ck_cg fun k1 => (s_al_0 p_274_172).trans <| (s_getr p_274_173 hs_246 (by decide) rfl).trans <| (s_il_8 p_274_176).trans <| (s_const p_274_178).trans <| (s_iadd p_274_179).trans <| (s_il_2 p_274_180).trans <| (s_ast 2737 p_274_181 hs_247 rfl).trans <| ck_cg fun k2 => (s_al_0 p_274_182).trans <| (s_getr p_274_183 hs_246 (by decide) rfl).trans <| (s_il_8 p_274_186).trans <| (s_const p_274_188).trans <| (s_iadd p_274_189).trans <| (s_al_0 p_274_190).trans <| (s_getr p_274_191 hs_246 (by decide) rfl).trans <| (s_const p_274_194).trans <| (s_aldc p_274_195 hs_247 (by decide) wl_0 (by decide)).trans <| (s_ast 2737 p_274_196 hs_247 rfl).trans <| ck_cg fun k3 => (s_al_0 p_274_197).trans <| (s_getr p_274_198 hs_246 (by decide) rfl).trans <| (s_il_8 p_274_201).trans <| (s_const p_274_203).trans <| (s_iadd p_274_204).trans <| (s_il_6 p_274_205).trans <| (s_ast 2737 p_274_207 hs_247 rfl).trans <| ck_cg fun k4 => (s_al_0 p_274_208).trans <| (s_getr p_274_209 hs_246 (by decide) rfl).trans <| (s_il_8 p_274_212).trans <| (s_const p_274_214).trans <| (s_iadd p_274_215).trans <| (s_il_7 p_274_216).trans <| (s_ast 2737 p_274_218 hs_247 rfl).trans <| ck_cg fun k5 => (s_al_0 p_274_219).trans <| (s_getr p_274_220 hs_246 (by decide) rfl).trans <| (s_il_8 p_274_223).trans <| (s_const p_274_225).trans <| (s_iadd p_274_226).trans <| (s_il_5 p_274_227).trans <| Eq.trans (Eq.trans ((s_z_eq_f p_274_229 rfl rfl)) <| Eq.trans (ite_cg ((s_const p_274_232).trans <| (s_goto p_274_233 rfl).trans <| rfl) ((s_const p_274_236).trans <| rfl)) (phi1 (fun z0 => Z e (d + 2) 274 237 [.ref 246, .int (iI x1), .int (iI x2), .int (iI x3), .int (iI x4), .int (iI x5), .int (iI x6), .int (iI xs0), .int (iI (938 + (7 * x3))), u9] [.int (iI z0), .int (iI ((938 + (7 * x3)) + 5)), .ref 247] (um (um (um (um (um m 247 (wr (938 + (7 * x3))) x1) 247 (wr ((938 + (7 * x3)) + 1)) x2) 247 (wr ((938 + (7 * x3)) + 2)) ((um (um m 247 (wr (938 + (7 * x3))) x1) 247 (wr ((938 + (7 * x3)) + 1)) x2) 247 0)) 247 (wr ((938 + (7 * x3)) + 3)) x6) 247 (wr ((938 + (7 * x3)) + 4)) xs0)))) <| (s_ast 2737 p_274_237 hs_247 rfl).trans <| ck_cg fun k6 => (s_al_0 p_274_238).trans <| (s_getr p_274_239 hs_246 (by decide) rfl).trans <| (s_il_8 p_274_242).trans <| (s_bip p_274_244 rfl).trans <| (s_iadd p_274_246).trans <| (s_il_4 p_274_247).trans <| Eq.trans (Eq.trans ((s_z_eq_f p_274_249 rfl rfl)) <| Eq.trans (ite_cg ((s_const p_274_252).trans <| (s_goto p_274_253 rfl).trans <| rfl) ((s_const p_274_256).trans <| rfl)) (phi_not (fun z0 => Z e (d + 2) 274 257 [.ref 246, .int (iI x1), .int (iI x2), .int (iI x3), .int (iI x4), .int (iI x5), .int (iI x6), .int (iI xs0), .int (iI (938 + (7 * x3))), u9] [.int (iI z0), .int (iI ((938 + (7 * x3)) + 6)), .ref 247] (um (um (um (um (um (um m 247 (wr (938 + (7 * x3))) x1) 247 (wr ((938 + (7 * x3)) + 1)) x2) 247 (wr ((938 + (7 * x3)) + 2)) ((um (um m 247 (wr (938 + (7 * x3))) x1) 247 (wr ((938 + (7 * x3)) + 1)) x2) 247 0)) 247 (wr ((938 + (7 * x3)) + 3)) x6) 247 (wr ((938 + (7 * x3)) + 4)) xs0) 247 (wr ((938 + (7 * x3)) + 5)) (if ¬ (wr x5) = 0 then 1 else 0))))) <| (s_ast 2737 p_274_257 hs_247 rfl).trans <| ck_cg fun k7 => (s_al_0 p_274_258).trans <| (s_getr p_274_259 hs_246 (by decide) rfl).trans <| (s_const p_274_262).trans <| (s_dup2 cat_i cat_r p_274_263).trans <| (s_aldc p_274_264 hs_247 (by decide) wl_5 (by decide)).trans <| (s_const p_274_265).trans <| (s_iadd p_274_266).trans <| (s_astc p_274_267 hs_247 wl_5 (by decide)).trans <| (s_al_0 p_274_268).trans <| (s_getr p_274_269 hs_246 (by decide) rfl).trans <| (s_il_1 p_274_272).trans <| (s_bip p_274_273 rfl).trans <| (s_cs2 (Lc := [.int (iI x1), .int (iI 8)]) p_274_275 (by decide) (zM_of zq_204) ⟨Nat.le_of_ble_eq_true rfl, Nat.le_of_ble_eq_true rfl⟩ rfl).trans <| (bd b_204_0).trans <| ri_k.trans <| (s_dup2 cat_i cat_r p_274_278).trans <| (s_ald 2737 p_274_279 hs_247 rfl (by decide)).trans <| ck_cg fun k8 => (s_il_7 p_274_280).trans <| (s_iadd p_274_282).trans <| (s_ast 2737 p_274_283 hs_247 rfl).trans <| ck_cg fun k9 => (s_al_0 p_274_284).trans <| (s_getr p_274_285 hs_246 (by decide) rfl).trans <| (s_il_2 p_274_288).trans <| (s_const p_274_289).trans <| (s_cs2 (Lc := [.int (iI x2), .int (iI 4)]) p_274_290 (by decide) (zM_of zq_204) ⟨Nat.le_of_ble_eq_true rfl, Nat.le_of_ble_eq_true rfl⟩ rfl).trans <| (bd b_204_0).trans <| ri_k.trans <| (s_bip p_274_293 rfl).trans <| (s_ast 2737 p_274_295 hs_247 rfl).trans <| ck_cg fun k10 => (s_al_0 p_274_296).trans <| (s_il_2 p_274_297).trans <| (s_il_5 p_274_298).trans <| Eq.trans (Eq.trans ((s_z_eq_f p_274_300 rfl rfl)) <| Eq.trans (ite_cg ((s_const p_274_303).trans <| (s_goto p_274_304 rfl).trans <| rfl) ((s_bip p_274_307 rfl).trans <| rfl)) (phi1 (fun z0 => Z e (d + 2) 274 309 [.ref 246, .int (iI x1), .int (iI x2), .int (iI x3), .int (iI x4), .int (iI x5), .int (iI x6), .int (iI xs0), .int (iI (938 + (7 * x3))), u9] [.int (iI z0), .int (iI x2), .ref 246] (um (um (um (um (um (um (um (um (um (um m 247 (wr (938 + (7 * x3))) x1) 247 (wr ((938 + (7 * x3)) + 1)) x2) 247 (wr ((938 + (7 * x3)) + 2)) ((um (um m 247 (wr (938 + (7 * x3))) x1) 247 (wr ((938 + (7 * x3)) + 1)) x2) 247 0)) 247 (wr ((938 + (7 * x3)) + 3)) x6) 247 (wr ((938 + (7 * x3)) + 4)) xs0) 247 (wr ((938 + (7 * x3)) + 5)) (if ¬ (wr x5) = 0 then 1 else 0)) 247 (wr ((938 + (7 * x3)) + 6)) (if ¬ (¬ (wr x4) = 0) then 1 else 0)) 247 5 (((um (um (um (um (um (um (um m 247 (wr (938 + (7 * x3))) x1) 247 (wr ((938 + (7 * x3)) + 1)) x2) 247 (wr ((938 + (7 * x3)) + 2)) ((um (um m 247 (wr (938 + (7 * x3))) x1) 247 (wr ((938 + (7 * x3)) + 1)) x2) 247 0)) 247 (wr ((938 + (7 * x3)) + 3)) x6) 247 (wr ((938 + (7 * x3)) + 4)) xs0) 247 (wr ((938 + (7 * x3)) + 5)) (if ¬ (wr x5) = 0 then 1 else 0)) 247 (wr ((938 + (7 * x3)) + 6)) (if ¬ (¬ (wr x4) = 0) then 1 else 0)) 247 5) + 1)) 247 (wr ((110 + (9 * x1)) + 8)) (((um (um (um (um (um (um (um (um m 247 (wr (938 + (7 * x3))) x1) 247 (wr ((938 + (7 * x3)) + 1)) x2) 247 (wr ((938 + (7 * x3)) + 2)) ((um (um m 247 (wr (938 + (7 * x3))) x1) 247 (wr ((938 + (7 * x3)) + 1)) x2) 247 0)) 247 (wr ((938 + (7 * x3)) + 3)) x6) 247 (wr ((938 + (7 * x3)) + 4)) xs0) 247 (wr ((938 + (7 * x3)) + 5)) (if ¬ (wr x5) = 0 then 1 else 0)) 247 (wr ((938 + (7 * x3)) + 6)) (if ¬ (¬ (wr x4) = 0) then 1 else 0)) 247 5 (((um (um (um (um (um (um (um m 247 (wr (938 + (7 * x3))) x1) 247 (wr ((938 + (7 * x3)) + 1)) x2) 247 (wr ((938 + (7 * x3)) + 2)) ((um (um m 247 (wr (938 + (7 * x3))) x1) 247 (wr ((938 + (7 * x3)) + 1)) x2) 247 0)) 247 (wr ((938 + (7 * x3)) + 3)) x6) 247 (wr ((938 + (7 * x3)) + 4)) xs0) 247 (wr ((938 + (7 * x3)) + 5)) (if ¬ (wr x5) = 0 then 1 else 0)) 247 (wr ((938 + (7 * x3)) + 6)) (if ¬ (¬ (wr x4) = 0) then 1 else 0)) 247 5) + 1)) 247 (wr ((110 + (9 * x1)) + 8))) + xs0)) 247 (wr ((110 + (9 * x2)) + 4)) (-3))))) <| (s_cv2 (Lc := [.ref 246, .int (iI x2), .int (iI (if ¬ (wr x5) = 0 then 5 else 6))]) p_274_309 (by decide) (by decide) (zM_of zq_264) ⟨Nat.le_of_ble_eq_true rfl, Nat.le_of_ble_eq_true rfl⟩ rfl (m_rc hs_246 ⟨rfl, by decide⟩)).trans <| (bd b_264_0).trans <| ck_bind.trans <| ck_cg fun _ => ck_bind.trans <| ck_cg fun _ => ri_k.trans <| (s_is_9 cat_i p_274_312).trans <| (s_il_3 p_274_314).trans <| (s_reti p_274_315 (zM_of zq_274))
theorem b_274_135 {x1 : Int} {x2 : Int} {x3 : Int} {x4 : Int} {x5 : Int} {x6 : Int} {xs0 : Int} {u7 u8 u9 : Value} : Z e (d + 2) 274 135 [.ref 246, .int (iI x1), .int (iI x2), .int (iI x3), .int (iI x4), .int (iI x5), .int (iI x6), u7, u8, u9] [.int (iI xs0)] m = (Z e (d + 1) 225 0 [.ref 246, .int (iI x6), .int (iI (m 247 0)), .retAddr 0, .retAddr 0, .retAddr 0] [] m).bind (ZK e (d + 2) 274 148 [.ref 246, .int (iI x1), .int (iI x2), .int (iI x3), .int (iI x4), .int (iI x5), .int (iI x6), u7, u8, u9] [.int (iI 1), .int (iI xs0)] m) := (s_const p_274_135).trans <| (s_al_0 p_274_136).trans <| (s_il_6 p_274_137).trans <| (s_al_0 p_274_139).trans <| (s_getr p_274_140 hs_246 (by decide) rfl).trans <| (s_const p_274_143).trans <| (s_aldc p_274_144 hs_247 (by decide) wl_0 (by decide)).trans <| (s_cv2 (Lc := [.ref 246, .int (iI x6), .int (iI (m 247 0)), .retAddr 0, .retAddr 0, .retAddr 0]) p_274_145 (by decide) (by decide) (zM_of zq_225) ⟨Nat.le_of_ble_eq_true rfl, Nat.le_of_ble_eq_true rfl⟩ rfl (m_rc hs_246 ⟨rfl, by decide⟩))
theorem b_274_148 {x1 : Int} {x2 : Int} {x3 : Int} {x4 : Int} {x5 : Int} {x6 : Int} {xs0 : Int} {xs1 : Int} {xs2 : Int} {u7 u8 u9 : Value} : Z e (d + 2) 274 148 [.ref 246, .int (iI x1), .int (iI x2), .int (iI x3), .int (iI x4), .int (iI x5), .int (iI x6), u7, u8, u9] [.int (iI xs0), .int (iI xs1), .int (iI xs2)] m = Z e (d + 2) 274 152 [.ref 246, .int (iI x1), .int (iI x2), .int (iI x3), .int (iI x4), .int (iI x5), .int (iI x6), u7, u8, u9] [.int (iI (xs2 * (if (wr xs0) ≤ (wr xs1) then xs1 else xs0)))] m := (s_cs2 (Lc := [.int (iI xs1), .int (iI xs0)]) p_274_148 (by decide) (zM_of zq_324) ⟨Nat.le_of_ble_eq_true rfl, Nat.le_of_ble_eq_true rfl⟩ rfl).trans <| (bd b_324_0).trans <| ri_k.trans <| (s_imul p_274_151).trans <| rfl
-- M.taking
theorem p_275_0 : zP1 275 0 = some (.iload_n 1, 0, 0, 0) := zp_l zq_275 rfl
theorem p_275_1 : zP1 275 1 = some (.iconst 0, 0, 0, 0) := zp_l zq_275 rfl
theorem p_275_2 : zP1 275 2 = some (.aload_n 0, 0, 0, 0) := zp_l zq_275 rfl
theorem p_275_3 : zP1 275 3 = some (.getfield 9, 11, 0, 0) := zp_r zq_275 rfl
theorem p_275_6 : zP1 275 6 = some (.iconst 5, 0, 0, 0) := zp_l zq_275 rfl
theorem p_275_7 : zP1 275 7 = some (.iaload, 0, 0, 0) := zp_l zq_275 rfl
theorem p_275_8 : zP1 275 8 = some (.iconst 1, 0, 0, 0) := zp_l zq_275 rfl
theorem p_275_9 : zP1 275 9 = some (.isub, 0, 0, 0) := zp_l zq_275 rfl
theorem p_275_10 : zP1 275 10 = some (.invokestatic 100, 199, 3, 0) := zp_r zq_275 rfl
theorem p_275_13 : zP1 275 13 = some (.ifCond .eq 12, 0, 0, 0) := zp_l zq_275 rfl
theorem p_275_16 : zP1 275 16 = some (.iload_n 2, 0, 0, 0) := zp_l zq_275 rfl
theorem p_275_17 : zP1 275 17 = some (.iconst 0, 0, 0, 0) := zp_l zq_275 rfl
theorem p_275_18 : zP1 275 18 = some (.iconst 5, 0, 0, 0) := zp_l zq_275 rfl
theorem p_275_19 : zP1 275 19 = some (.invokestatic 100, 199, 3, 0) := zp_r zq_275 rfl
theorem p_275_22 : zP1 275 22 = some (.ifCond .ne 5, 0, 0, 0) := zp_l zq_275 rfl
theorem p_275_25 : zP1 275 25 = some (.iconst (-1), 0, 0, 0) := zp_l zq_275 rfl
theorem p_275_26 : zP1 275 26 = some (.ireturn, 0, 0, 0) := zp_l zq_275 rfl
theorem p_275_27 : zP1 275 27 = some (.sipush 938, 0, 0, 0) := zp_l zq_275 rfl
theorem p_275_30 : zP1 275 30 = some (.bipush 7, 0, 0, 0) := zp_l zq_275 rfl
theorem p_275_32 : zP1 275 32 = some (.iload_n 1, 0, 0, 0) := zp_l zq_275 rfl
theorem p_275_33 : zP1 275 33 = some (.imul, 0, 0, 0) := zp_l zq_275 rfl
theorem p_275_34 : zP1 275 34 = some (.iadd, 0, 0, 0) := zp_l zq_275 rfl
theorem p_275_35 : zP1 275 35 = some (.istore_n 3, 0, 0, 0) := zp_l zq_275 rfl
theorem p_275_36 : zP1 275 36 = some (.iload_n 2, 0, 0, 0) := zp_l zq_275 rfl
theorem p_275_37 : zP1 275 37 = some (.iconst 5, 0, 0, 0) := zp_l zq_275 rfl
theorem p_275_38 : zP1 275 38 = some (.if_icmp .ge 12, 0, 0, 0) := zp_l zq_275 rfl
theorem p_275_41 : zP1 275 41 = some (.aload_n 0, 0, 0, 0) := zp_l zq_275 rfl
theorem p_275_42 : zP1 275 42 = some (.getfield 9, 11, 0, 0) := zp_r zq_275 rfl
theorem p_275_45 : zP1 275 45 = some (.iload_n 3, 0, 0, 0) := zp_l zq_275 rfl
theorem p_275_46 : zP1 275 46 = some (.iload_n 2, 0, 0, 0) := zp_l zq_275 rfl
theorem p_275_47 : zP1 275 47 = some (.iadd, 0, 0, 0) := zp_l zq_275 rfl
theorem p_275_48 : zP1 275 48 = some (.iaload, 0, 0, 0) := zp_l zq_275 rfl
theorem p_275_49 : zP1 275 49 = some (.ireturn, 0, 0, 0) := zp_l zq_275 rfl
theorem p_275_50 : zP1 275 50 = some (.aload_n 0, 0, 0, 0) := zp_l zq_275 rfl
theorem p_275_51 : zP1 275 51 = some (.getfield 9, 11, 0, 0) := zp_r zq_275 rfl
theorem p_275_54 : zP1 275 54 = some (.iload_n 3, 0, 0, 0) := zp_l zq_275 rfl
theorem p_275_55 : zP1 275 55 = some (.bipush 6, 0, 0, 0) := zp_l zq_275 rfl
theorem p_275_57 : zP1 275 57 = some (.iadd, 0, 0, 0) := zp_l zq_275 rfl
theorem p_275_58 : zP1 275 58 = some (.iaload, 0, 0, 0) := zp_l zq_275 rfl
theorem p_275_59 : zP1 275 59 = some (.iconst 1, 0, 0, 0) := zp_l zq_275 rfl
theorem p_275_60 : zP1 275 60 = some (.if_icmp .ne 41, 0, 0, 0) := zp_l zq_275 rfl
theorem p_275_63 : zP1 275 63 = some (.aload_n 0, 0, 0, 0) := zp_l zq_275 rfl
theorem p_275_64 : zP1 275 64 = some (.aload_n 0, 0, 0, 0) := zp_l zq_275 rfl
theorem p_275_65 : zP1 275 65 = some (.getfield 9, 11, 0, 0) := zp_r zq_275 rfl
theorem p_275_68 : zP1 275 68 = some (.iload_n 3, 0, 0, 0) := zp_l zq_275 rfl
theorem p_275_69 : zP1 275 69 = some (.iconst 1, 0, 0, 0) := zp_l zq_275 rfl
theorem p_275_70 : zP1 275 70 = some (.iadd, 0, 0, 0) := zp_l zq_275 rfl
theorem p_275_71 : zP1 275 71 = some (.iaload, 0, 0, 0) := zp_l zq_275 rfl
theorem p_275_72 : zP1 275 72 = some (.aload_n 0, 0, 0, 0) := zp_l zq_275 rfl
theorem p_275_73 : zP1 275 73 = some (.getfield 9, 11, 0, 0) := zp_r zq_275 rfl
theorem p_275_76 : zP1 275 76 = some (.iload_n 3, 0, 0, 0) := zp_l zq_275 rfl
theorem p_275_77 : zP1 275 77 = some (.iconst 3, 0, 0, 0) := zp_l zq_275 rfl
theorem p_275_78 : zP1 275 78 = some (.iadd, 0, 0, 0) := zp_l zq_275 rfl
theorem p_275_79 : zP1 275 79 = some (.iaload, 0, 0, 0) := zp_l zq_275 rfl
theorem p_275_80 : zP1 275 80 = some (.aload_n 0, 0, 0, 0) := zp_l zq_275 rfl
theorem p_275_81 : zP1 275 81 = some (.getfield 9, 11, 0, 0) := zp_r zq_275 rfl
theorem p_275_84 : zP1 275 84 = some (.iload_n 3, 0, 0, 0) := zp_l zq_275 rfl
theorem p_275_85 : zP1 275 85 = some (.iconst 2, 0, 0, 0) := zp_l zq_275 rfl
theorem p_275_86 : zP1 275 86 = some (.iadd, 0, 0, 0) := zp_l zq_275 rfl
theorem p_275_87 : zP1 275 87 = some (.iaload, 0, 0, 0) := zp_l zq_275 rfl
theorem p_275_88 : zP1 275 88 = some (.ldc_w 343, 0, 0, 1000000) := zp_r zq_275 rfl
theorem p_275_91 : zP1 275 91 = some (.invokevirtual 321, 258, 4, 11) := zp_r zq_275 rfl
theorem p_275_94 : zP1 275 94 = some (.ifCond .ne 7, 0, 0, 0) := zp_l zq_275 rfl
theorem p_275_97 : zP1 275 97 = some (.iconst 1, 0, 0, 0) := zp_l zq_275 rfl
theorem p_275_98 : zP1 275 98 = some (.goto 4, 0, 0, 0) := zp_l zq_275 rfl
theorem p_275_101 : zP1 275 101 = some (.iconst 0, 0, 0, 0) := zp_l zq_275 rfl
theorem p_275_102 : zP1 275 102 = some (.istore 4, 0, 0, 0) := zp_l zq_275 rfl
theorem p_275_104 : zP1 275 104 = some (.aload_n 0, 0, 0, 0) := zp_l zq_275 rfl
theorem p_275_105 : zP1 275 105 = some (.getfield 9, 11, 0, 0) := zp_r zq_275 rfl
theorem p_275_108 : zP1 275 108 = some (.iload_n 3, 0, 0, 0) := zp_l zq_275 rfl
theorem p_275_109 : zP1 275 109 = some (.iconst 5, 0, 0, 0) := zp_l zq_275 rfl
theorem p_275_110 : zP1 275 110 = some (.iadd, 0, 0, 0) := zp_l zq_275 rfl
theorem p_275_111 : zP1 275 111 = some (.iaload, 0, 0, 0) := zp_l zq_275 rfl
theorem p_275_112 : zP1 275 112 = some (.iload 4, 0, 0, 0) := zp_l zq_275 rfl
theorem p_275_114 : zP1 275 114 = some (.ifCond .eq 7, 0, 0, 0) := zp_l zq_275 rfl
theorem p_275_117 : zP1 275 117 = some (.iconst 2, 0, 0, 0) := zp_l zq_275 rfl
theorem p_275_118 : zP1 275 118 = some (.goto 4, 0, 0, 0) := zp_l zq_275 rfl
theorem p_275_121 : zP1 275 121 = some (.iconst 0, 0, 0, 0) := zp_l zq_275 rfl
theorem p_275_122 : zP1 275 122 = some (.iadd, 0, 0, 0) := zp_l zq_275 rfl
theorem p_275_123 : zP1 275 123 = some (.ireturn, 0, 0, 0) := zp_l zq_275 rfl
theorem b_275_0 {x1 : Int} {x2 : Int} : Z e (d + 1) 275 0 [.ref 246, .int (iI x1), .int (iI x2), .retAddr 0, .retAddr 0] [] m = (if (¬ (((wr 0) ≤ (wr x1)) ∧ ((wr x1) ≤ (wr ((m 247 5) - 1))))) ∨ (¬ (((wr 0) ≤ (wr x2)) ∧ ((wr x2) ≤ (wr 5)))) then ri (-1) m else (if (wr x2) < 5 then ck (0 ≤ (wr ((938 + (7 * x1)) + x2)) ∧ (wr ((938 + (7 * x1)) + x2)) < 2737) (ri (m 247 (wr ((938 + (7 * x1)) + x2))) m) else ck (0 ≤ (wr ((938 + (7 * x1)) + 6)) ∧ (wr ((938 + (7 * x1)) + 6)) < 2737) ((if (wr (m 247 (wr ((938 + (7 * x1)) + 6)))) = 1 then ck (0 ≤ (wr ((938 + (7 * x1)) + 1)) ∧ (wr ((938 + (7 * x1)) + 1)) < 2737) (ck (0 ≤ (wr ((938 + (7 * x1)) + 3)) ∧ (wr ((938 + (7 * x1)) + 3)) < 2737) (ck (0 ≤ (wr ((938 + (7 * x1)) + 2)) ∧ (wr ((938 + (7 * x1)) + 2)) < 2737) ((Z e d 258 0 [.ref 246, .int (iI (m 247 (wr ((938 + (7 * x1)) + 1)))), .int (iI (m 247 (wr ((938 + (7 * x1)) + 3)))), .int (iI (m 247 (wr ((938 + (7 * x1)) + 2)))), .int (iI 1000000)] [] m).bind (ZK e (d + 1) 275 94 [.ref 246, .int (iI x1), .int (iI x2), .int (iI (938 + (7 * x1))), .retAddr 0] [] m)))) else Z e (d + 1) 275 102 [.ref 246, .int (iI x1), .int (iI x2), .int (iI (938 + (7 * x1))), .retAddr 0] [.int (iI 0)] m)))) := (s_il_1 p_275_0).trans <| (s_const p_275_1).trans <| (s_al_0 p_275_2).trans <| (s_getr p_275_3 hs_246 (by decide) rfl).trans <| (s_const p_275_6).trans <| (s_aldc p_275_7 hs_247 (by decide) wl_5 (by decide)).trans <| (s_const p_275_8).trans <| (s_isub p_275_9).trans <| (s_cs3 (Lc := [.int (iI x1), .int (iI 0), .int (iI ((m 247 5) - 1))]) p_275_10 (by decide) (zM_of zq_199) ⟨Nat.le_of_ble_eq_true rfl, Nat.le_of_ble_eq_true rfl⟩ rfl).trans <| (bd b_199_0).trans <| ri_k.trans <| Eq.trans (Eq.trans (s_beq_t p_275_13 rfl) <| Eq.trans (ite_cg rfl ((s_il_2 p_275_16).trans <| (s_const p_275_17).trans <| (s_const p_275_18).trans <| (s_cs3 (Lc := [.int (iI x2), .int (iI 0), .int (iI 5)]) p_275_19 (by decide) (zM_of zq_199) ⟨Nat.le_of_ble_eq_true rfl, Nat.le_of_ble_eq_true rfl⟩ rfl).trans <| (bd b_199_0).trans <| ri_k.trans <| (s_bne_f p_275_22 rfl))) co_or) <| ite_cg ((s_const p_275_25).trans <| (s_reti p_275_26 (zM_of zq_275))) ((s_sip p_275_27 rfl).trans <| (s_bip p_275_30 rfl).trans <| (s_il_1 p_275_32).trans <| (s_imul p_275_33).trans <| (s_iadd p_275_34).trans <| (s_is_3 cat_i p_275_35).trans <| (s_il_2 p_275_36).trans <| (s_const p_275_37).trans <| Eq.trans ((s_c_ge_f p_275_38 rfl rfl wl_5)) <| ite_cg ((s_al_0 p_275_41).trans <| (s_getr p_275_42 hs_246 (by decide) rfl).trans <| (s_il_3 p_275_45).trans <| (s_il_2 p_275_46).trans <| (s_iadd p_275_47).trans <| (s_ald 2737 p_275_48 hs_247 rfl (by decide)).trans <| ck_cg fun k1 => (s_reti p_275_49 (zM_of zq_275))) ((s_al_0 p_275_50).trans <| (s_getr p_275_51 hs_246 (by decide) rfl).trans <| (s_il_3 p_275_54).trans <| (s_bip p_275_55 rfl).trans <| (s_iadd p_275_57).trans <| (s_ald 2737 p_275_58 hs_247 rfl (by decide)).trans <| ck_cg fun k2 => (s_const p_275_59).trans <| Eq.trans ((s_c_ne_f p_275_60 rfl rfl wl_1)) <| ite_cg ((s_al_0 p_275_63).trans <| (s_al_0 p_275_64).trans <| (s_getr p_275_65 hs_246 (by decide) rfl).trans <| (s_il_3 p_275_68).trans <| (s_const p_275_69).trans <| (s_iadd p_275_70).trans <| (s_ald 2737 p_275_71 hs_247 rfl (by decide)).trans <| ck_cg fun k6 => (s_al_0 p_275_72).trans <| (s_getr p_275_73 hs_246 (by decide) rfl).trans <| (s_il_3 p_275_76).trans <| (s_const p_275_77).trans <| (s_iadd p_275_78).trans <| (s_ald 2737 p_275_79 hs_247 rfl (by decide)).trans <| ck_cg fun k7 => (s_al_0 p_275_80).trans <| (s_getr p_275_81 hs_246 (by decide) rfl).trans <| (s_il_3 p_275_84).trans <| (s_const p_275_85).trans <| (s_iadd p_275_86).trans <| (s_ald 2737 p_275_87 hs_247 rfl (by decide)).trans <| ck_cg fun k8 => (s_ldcw p_275_88).trans <| (s_cv4 (Lc := [.ref 246, .int (iI (m 247 (wr ((938 + (7 * x1)) + 1)))), .int (iI (m 247 (wr ((938 + (7 * x1)) + 3)))), .int (iI (m 247 (wr ((938 + (7 * x1)) + 2)))), .int (iI 1000000)]) p_275_91 (by decide) (by decide) (zM_of zq_258) ⟨Nat.le_of_ble_eq_true rfl, Nat.le_of_ble_eq_true rfl⟩ rfl (m_rc hs_246 ⟨rfl, by decide⟩))) ((s_const p_275_101).trans <| rfl)))
theorem b_275_102 {x3 : Int} {xs0 : Int} {u1 u2 u4 : Value} : Z e (d + 1) 275 102 [.ref 246, u1, u2, .int (iI x3), u4] [.int (iI xs0)] m = ck (0 ≤ (wr (x3 + 5)) ∧ (wr (x3 + 5)) < 2737) (ri ((m 247 (wr (x3 + 5))) + (if ¬ (wr xs0) = 0 then 2 else 0)) m) := (s_is_4 cat_i p_275_102).trans <| (s_al_0 p_275_104).trans <| (s_getr p_275_105 hs_246 (by decide) rfl).trans <| (s_il_3 p_275_108).trans <| (s_const p_275_109).trans <| (s_iadd p_275_110).trans <| (s_ald 2737 p_275_111 hs_247 rfl (by decide)).trans <| ck_cg fun k1 => (s_il_4 p_275_112).trans <| Eq.trans (Eq.trans ((s_z_eq_f p_275_114 rfl rfl)) <| Eq.trans (ite_cg ((s_const p_275_117).trans <| (s_goto p_275_118 rfl).trans <| rfl) ((s_const p_275_121).trans <| rfl)) (phi1 (fun z0 => Z e (d + 1) 275 122 [.ref 246, u1, u2, .int (iI x3), .int (iI xs0)] [.int (iI z0), .int (iI (m 247 (wr (x3 + 5))))] m))) <| (s_iadd p_275_122).trans <| (s_reti p_275_123 (zM_of zq_275))
theorem b_275_94 {x3 : Int} {xs0 : Int} {u1 u2 u4 : Value} : Z e (d + 1) 275 94 [.ref 246, u1, u2, .int (iI x3), u4] [.int (iI xs0)] m = Z e (d + 1) 275 102 [.ref 246, u1, u2, .int (iI x3), u4] [.int (iI (if (wr xs0) = 0 then 1 else 0))] m := Eq.trans (Eq.trans ((s_z_ne_f p_275_94 rfl rfl)) <| Eq.trans (ite_cg ((s_const p_275_97).trans <| (s_goto p_275_98 rfl).trans <| rfl) ((s_const p_275_101).trans <| rfl)) (phi1 (fun z0 => Z e (d + 1) 275 102 [.ref 246, u1, u2, .int (iI x3), u4] [.int (iI z0)] m))) <| rfl
-- M.post
theorem p_276_0 : zP1 276 0 = some (.iload_n 1, 0, 0, 0) := zp_l zq_276 rfl
theorem p_276_1 : zP1 276 1 = some (.invokestatic 110, 200, 1, 0) := zp_r zq_276 rfl
theorem p_276_4 : zP1 276 4 = some (.ifCond .eq 33, 0, 0, 0) := zp_l zq_276 rfl
theorem p_276_7 : zP1 276 7 = some (.iload_n 2, 0, 0, 0) := zp_l zq_276 rfl
theorem p_276_8 : zP1 276 8 = some (.iconst 0, 0, 0, 0) := zp_l zq_276 rfl
theorem p_276_9 : zP1 276 9 = some (.iconst 4, 0, 0, 0) := zp_l zq_276 rfl
theorem p_276_10 : zP1 276 10 = some (.invokestatic 100, 199, 3, 0) := zp_r zq_276 rfl
theorem p_276_13 : zP1 276 13 = some (.ifCond .eq 24, 0, 0, 0) := zp_l zq_276 rfl
theorem p_276_16 : zP1 276 16 = some (.iload_n 3, 0, 0, 0) := zp_l zq_276 rfl
theorem p_276_17 : zP1 276 17 = some (.iconst 0, 0, 0, 0) := zp_l zq_276 rfl
theorem p_276_18 : zP1 276 18 = some (.bipush 23, 0, 0, 0) := zp_l zq_276 rfl
theorem p_276_20 : zP1 276 20 = some (.invokestatic 100, 199, 3, 0) := zp_r zq_276 rfl
theorem p_276_23 : zP1 276 23 = some (.ifCond .eq 14, 0, 0, 0) := zp_l zq_276 rfl
theorem p_276_26 : zP1 276 26 = some (.iload 4, 0, 0, 0) := zp_l zq_276 rfl
theorem p_276_28 : zP1 276 28 = some (.iconst 0, 0, 0, 0) := zp_l zq_276 rfl
theorem p_276_29 : zP1 276 29 = some (.bipush 23, 0, 0, 0) := zp_l zq_276 rfl
theorem p_276_31 : zP1 276 31 = some (.invokestatic 100, 199, 3, 0) := zp_r zq_276 rfl
theorem p_276_34 : zP1 276 34 = some (.ifCond .ne 5, 0, 0, 0) := zp_l zq_276 rfl
theorem p_276_37 : zP1 276 37 = some (.iconst (-1), 0, 0, 0) := zp_l zq_276 rfl
theorem p_276_38 : zP1 276 38 = some (.ireturn, 0, 0, 0) := zp_l zq_276 rfl
theorem p_276_39 : zP1 276 39 = some (.aload_n 0, 0, 0, 0) := zp_l zq_276 rfl
theorem p_276_40 : zP1 276 40 = some (.iload_n 1, 0, 0, 0) := zp_l zq_276 rfl
theorem p_276_41 : zP1 276 41 = some (.invokevirtual 114, 203, 1, 11) := zp_r zq_276 rfl
theorem p_276_44 : zP1 276 44 = some (.ifCond .eq 6, 0, 0, 0) := zp_l zq_276 rfl
theorem p_276_47 : zP1 276 47 = some (.bipush (-4), 0, 0, 0) := zp_l zq_276 rfl
theorem p_276_49 : zP1 276 49 = some (.ireturn, 0, 0, 0) := zp_l zq_276 rfl
theorem p_276_50 : zP1 276 50 = some (.aload_n 0, 0, 0, 0) := zp_l zq_276 rfl
theorem p_276_51 : zP1 276 51 = some (.getfield 9, 11, 0, 0) := zp_r zq_276 rfl
theorem p_276_54 : zP1 276 54 = some (.bipush 6, 0, 0, 0) := zp_l zq_276 rfl
theorem p_276_56 : zP1 276 56 = some (.iaload, 0, 0, 0) := zp_l zq_276 rfl
theorem p_276_57 : zP1 276 57 = some (.istore 5, 0, 0, 0) := zp_l zq_276 rfl
theorem p_276_59 : zP1 276 59 = some (.iload 5, 0, 0, 0) := zp_l zq_276 rfl
theorem p_276_61 : zP1 276 61 = some (.bipush 8, 0, 0, 0) := zp_l zq_276 rfl
theorem p_276_63 : zP1 276 63 = some (.if_icmp .ne 6, 0, 0, 0) := zp_l zq_276 rfl
theorem p_276_66 : zP1 276 66 = some (.bipush (-2), 0, 0, 0) := zp_l zq_276 rfl
theorem p_276_68 : zP1 276 68 = some (.ireturn, 0, 0, 0) := zp_l zq_276 rfl
theorem p_276_69 : zP1 276 69 = some (.aload_n 0, 0, 0, 0) := zp_l zq_276 rfl
theorem p_276_70 : zP1 276 70 = some (.getfield 9, 11, 0, 0) := zp_r zq_276 rfl
theorem p_276_73 : zP1 276 73 = some (.sipush 1050, 0, 0, 0) := zp_l zq_276 rfl
theorem p_276_76 : zP1 276 76 = some (.iconst 4, 0, 0, 0) := zp_l zq_276 rfl
theorem p_276_77 : zP1 276 77 = some (.iload 5, 0, 0, 0) := zp_l zq_276 rfl
theorem p_276_79 : zP1 276 79 = some (.imul, 0, 0, 0) := zp_l zq_276 rfl
theorem p_276_80 : zP1 276 80 = some (.iadd, 0, 0, 0) := zp_l zq_276 rfl
theorem p_276_81 : zP1 276 81 = some (.iload_n 1, 0, 0, 0) := zp_l zq_276 rfl
theorem p_276_82 : zP1 276 82 = some (.iastore, 0, 0, 0) := zp_l zq_276 rfl
theorem p_276_83 : zP1 276 83 = some (.aload_n 0, 0, 0, 0) := zp_l zq_276 rfl
theorem p_276_84 : zP1 276 84 = some (.getfield 9, 11, 0, 0) := zp_r zq_276 rfl
theorem p_276_87 : zP1 276 87 = some (.sipush 1050, 0, 0, 0) := zp_l zq_276 rfl
theorem p_276_90 : zP1 276 90 = some (.iconst 4, 0, 0, 0) := zp_l zq_276 rfl
theorem p_276_91 : zP1 276 91 = some (.iload 5, 0, 0, 0) := zp_l zq_276 rfl
theorem p_276_93 : zP1 276 93 = some (.imul, 0, 0, 0) := zp_l zq_276 rfl
theorem p_276_94 : zP1 276 94 = some (.iadd, 0, 0, 0) := zp_l zq_276 rfl
theorem p_276_95 : zP1 276 95 = some (.iconst 1, 0, 0, 0) := zp_l zq_276 rfl
theorem p_276_96 : zP1 276 96 = some (.iadd, 0, 0, 0) := zp_l zq_276 rfl
theorem p_276_97 : zP1 276 97 = some (.iload_n 2, 0, 0, 0) := zp_l zq_276 rfl
theorem p_276_98 : zP1 276 98 = some (.iastore, 0, 0, 0) := zp_l zq_276 rfl
theorem p_276_99 : zP1 276 99 = some (.aload_n 0, 0, 0, 0) := zp_l zq_276 rfl
theorem p_276_100 : zP1 276 100 = some (.getfield 9, 11, 0, 0) := zp_r zq_276 rfl
theorem p_276_103 : zP1 276 103 = some (.sipush 1050, 0, 0, 0) := zp_l zq_276 rfl
theorem p_276_106 : zP1 276 106 = some (.iconst 4, 0, 0, 0) := zp_l zq_276 rfl
theorem p_276_107 : zP1 276 107 = some (.iload 5, 0, 0, 0) := zp_l zq_276 rfl
theorem p_276_109 : zP1 276 109 = some (.imul, 0, 0, 0) := zp_l zq_276 rfl
theorem p_276_110 : zP1 276 110 = some (.iadd, 0, 0, 0) := zp_l zq_276 rfl
theorem p_276_111 : zP1 276 111 = some (.iconst 2, 0, 0, 0) := zp_l zq_276 rfl
theorem p_276_112 : zP1 276 112 = some (.iadd, 0, 0, 0) := zp_l zq_276 rfl
theorem p_276_113 : zP1 276 113 = some (.iload_n 3, 0, 0, 0) := zp_l zq_276 rfl
theorem p_276_114 : zP1 276 114 = some (.iastore, 0, 0, 0) := zp_l zq_276 rfl
theorem p_276_115 : zP1 276 115 = some (.aload_n 0, 0, 0, 0) := zp_l zq_276 rfl
theorem p_276_116 : zP1 276 116 = some (.getfield 9, 11, 0, 0) := zp_r zq_276 rfl
theorem p_276_119 : zP1 276 119 = some (.sipush 1050, 0, 0, 0) := zp_l zq_276 rfl
theorem p_276_122 : zP1 276 122 = some (.iconst 4, 0, 0, 0) := zp_l zq_276 rfl
theorem p_276_123 : zP1 276 123 = some (.iload 5, 0, 0, 0) := zp_l zq_276 rfl
theorem p_276_125 : zP1 276 125 = some (.imul, 0, 0, 0) := zp_l zq_276 rfl
theorem p_276_126 : zP1 276 126 = some (.iadd, 0, 0, 0) := zp_l zq_276 rfl
theorem p_276_127 : zP1 276 127 = some (.iconst 3, 0, 0, 0) := zp_l zq_276 rfl
theorem p_276_128 : zP1 276 128 = some (.iadd, 0, 0, 0) := zp_l zq_276 rfl
theorem p_276_129 : zP1 276 129 = some (.iload 4, 0, 0, 0) := zp_l zq_276 rfl
theorem p_276_131 : zP1 276 131 = some (.iastore, 0, 0, 0) := zp_l zq_276 rfl
theorem p_276_132 : zP1 276 132 = some (.aload_n 0, 0, 0, 0) := zp_l zq_276 rfl
theorem p_276_133 : zP1 276 133 = some (.getfield 9, 11, 0, 0) := zp_r zq_276 rfl
theorem p_276_136 : zP1 276 136 = some (.bipush 6, 0, 0, 0) := zp_l zq_276 rfl
theorem p_276_138 : zP1 276 138 = some (.dup2, 0, 0, 0) := zp_l zq_276 rfl
theorem p_276_139 : zP1 276 139 = some (.iaload, 0, 0, 0) := zp_l zq_276 rfl
theorem p_276_140 : zP1 276 140 = some (.iconst 1, 0, 0, 0) := zp_l zq_276 rfl
theorem p_276_141 : zP1 276 141 = some (.iadd, 0, 0, 0) := zp_l zq_276 rfl
theorem p_276_142 : zP1 276 142 = some (.iastore, 0, 0, 0) := zp_l zq_276 rfl
theorem p_276_143 : zP1 276 143 = some (.iload 5, 0, 0, 0) := zp_l zq_276 rfl
theorem p_276_145 : zP1 276 145 = some (.ireturn, 0, 0, 0) := zp_l zq_276 rfl
theorem b_276_0 {x1 : Int} {x2 : Int} {x3 : Int} {x4 : Int} : Z e (d + 2) 276 0 [.ref 246, .int (iI x1), .int (iI x2), .int (iI x3), .int (iI x4), .retAddr 0] [] m = (if (¬ (((wr 0) ≤ (wr x1)) ∧ ((wr x1) ≤ (wr 99)))) ∨ ((¬ (((wr 0) ≤ (wr x2)) ∧ ((wr x2) ≤ (wr 4)))) ∨ ((¬ (((wr 0) ≤ (wr x3)) ∧ ((wr x3) ≤ (wr 23)))) ∨ (¬ (((wr 0) ≤ (wr x4)) ∧ ((wr x4) ≤ (wr 23)))))) then ri (-1) m else ck (0 ≤ (wr (10 + x1)) ∧ (wr (10 + x1)) < 2737) ((if (wr (m 247 (wr (10 + x1)))) = 1 then ri (-4) m else (if (wr (m 247 6)) = 8 then ri (-2) m else ck (0 ≤ (wr (1050 + (4 * (m 247 6)))) ∧ (wr (1050 + (4 * (m 247 6)))) < 2737) (ck (0 ≤ (wr ((1050 + (4 * (m 247 6))) + 1)) ∧ (wr ((1050 + (4 * (m 247 6))) + 1)) < 2737) (ck (0 ≤ (wr ((1050 + (4 * (m 247 6))) + 2)) ∧ (wr ((1050 + (4 * (m 247 6))) + 2)) < 2737) (ck (0 ≤ (wr ((1050 + (4 * (m 247 6))) + 3)) ∧ (wr ((1050 + (4 * (m 247 6))) + 3)) < 2737) (ri (m 247 6) (um (um (um (um (um m 247 (wr (1050 + (4 * (m 247 6)))) x1) 247 (wr ((1050 + (4 * (m 247 6))) + 1)) x2) 247 (wr ((1050 + (4 * (m 247 6))) + 2)) x3) 247 (wr ((1050 + (4 * (m 247 6))) + 3)) x4) 247 6 (((um (um (um (um m 247 (wr (1050 + (4 * (m 247 6)))) x1) 247 (wr ((1050 + (4 * (m 247 6))) + 1)) x2) 247 (wr ((1050 + (4 * (m 247 6))) + 2)) x3) 247 (wr ((1050 + (4 * (m 247 6))) + 3)) x4) 247 6) + 1)))))))))) := (s_il_1 p_276_0).trans <| (s_cs1 (Lc := [.int (iI x1)]) p_276_1 (by decide) (zM_of zq_200) ⟨Nat.le_of_ble_eq_true rfl, Nat.le_of_ble_eq_true rfl⟩ rfl).trans <| (bd b_200_0).trans <| ri_k.trans <| Eq.trans (Eq.trans (s_beq_t p_276_4 rfl) <| Eq.trans (ite_cg rfl ((s_il_2 p_276_7).trans <| (s_const p_276_8).trans <| (s_const p_276_9).trans <| (s_cs3 (Lc := [.int (iI x2), .int (iI 0), .int (iI 4)]) p_276_10 (by decide) (zM_of zq_199) ⟨Nat.le_of_ble_eq_true rfl, Nat.le_of_ble_eq_true rfl⟩ rfl).trans <| (bd b_199_0).trans <| ri_k.trans <| Eq.trans (s_beq_t p_276_13 rfl) <| Eq.trans (ite_cg rfl ((s_il_3 p_276_16).trans <| (s_const p_276_17).trans <| (s_bip p_276_18 rfl).trans <| (s_cs3 (Lc := [.int (iI x3), .int (iI 0), .int (iI 23)]) p_276_20 (by decide) (zM_of zq_199) ⟨Nat.le_of_ble_eq_true rfl, Nat.le_of_ble_eq_true rfl⟩ rfl).trans <| (bd b_199_0).trans <| ri_k.trans <| Eq.trans (s_beq_t p_276_23 rfl) <| Eq.trans (ite_cg rfl ((s_il_4 p_276_26).trans <| (s_const p_276_28).trans <| (s_bip p_276_29 rfl).trans <| (s_cs3 (Lc := [.int (iI x4), .int (iI 0), .int (iI 23)]) p_276_31 (by decide) (zM_of zq_199) ⟨Nat.le_of_ble_eq_true rfl, Nat.le_of_ble_eq_true rfl⟩ rfl).trans <| (bd b_199_0).trans <| ri_k.trans <| (s_bne_f p_276_34 rfl))) co_or)) co_or)) co_or) <| ite_cg ((s_const p_276_37).trans <| (s_reti p_276_38 (zM_of zq_276))) ((s_al_0 p_276_39).trans <| (s_il_1 p_276_40).trans <| (s_cv1 (Lc := [.ref 246, .int (iI x1)]) p_276_41 (by decide) (by decide) (zM_of zq_203) ⟨Nat.le_of_ble_eq_true rfl, Nat.le_of_ble_eq_true rfl⟩ rfl (m_rc hs_246 ⟨rfl, by decide⟩)).trans <| (bd b_203_0).trans <| ck_bind.trans <| ck_cg fun _ => ri_k.trans <| Eq.trans ((s_beq_f p_276_44 rfl)) <| ite_cg ((s_bip p_276_47 rfl).trans <| (s_reti p_276_49 (zM_of zq_276))) ((s_al_0 p_276_50).trans <| (s_getr p_276_51 hs_246 (by decide) rfl).trans <| (s_bip p_276_54 rfl).trans <| (s_aldc p_276_56 hs_247 (by decide) wl_6 (by decide)).trans <| (s_is_5 cat_i p_276_57).trans <| (s_il_5 p_276_59).trans <| (s_bip p_276_61 rfl).trans <| Eq.trans ((s_c_ne_f p_276_63 rfl rfl wl_8)) <| ite_cg ((s_bip p_276_66 rfl).trans <| (s_reti p_276_68 (zM_of zq_276))) ((s_al_0 p_276_69).trans <| (s_getr p_276_70 hs_246 (by decide) rfl).trans <| (s_sip p_276_73 rfl).trans <| (s_const p_276_76).trans <| (s_il_5 p_276_77).trans <| (s_imul p_276_79).trans <| (s_iadd p_276_80).trans <| (s_il_1 p_276_81).trans <| (s_ast 2737 p_276_82 hs_247 rfl).trans <| ck_cg fun k1 => (s_al_0 p_276_83).trans <| (s_getr p_276_84 hs_246 (by decide) rfl).trans <| (s_sip p_276_87 rfl).trans <| (s_const p_276_90).trans <| (s_il_5 p_276_91).trans <| (s_imul p_276_93).trans <| (s_iadd p_276_94).trans <| (s_const p_276_95).trans <| (s_iadd p_276_96).trans <| (s_il_2 p_276_97).trans <| (s_ast 2737 p_276_98 hs_247 rfl).trans <| ck_cg fun k2 => (s_al_0 p_276_99).trans <| (s_getr p_276_100 hs_246 (by decide) rfl).trans <| (s_sip p_276_103 rfl).trans <| (s_const p_276_106).trans <| (s_il_5 p_276_107).trans <| (s_imul p_276_109).trans <| (s_iadd p_276_110).trans <| (s_const p_276_111).trans <| (s_iadd p_276_112).trans <| (s_il_3 p_276_113).trans <| (s_ast 2737 p_276_114 hs_247 rfl).trans <| ck_cg fun k3 => (s_al_0 p_276_115).trans <| (s_getr p_276_116 hs_246 (by decide) rfl).trans <| (s_sip p_276_119 rfl).trans <| (s_const p_276_122).trans <| (s_il_5 p_276_123).trans <| (s_imul p_276_125).trans <| (s_iadd p_276_126).trans <| (s_const p_276_127).trans <| (s_iadd p_276_128).trans <| (s_il_4 p_276_129).trans <| (s_ast 2737 p_276_131 hs_247 rfl).trans <| ck_cg fun k4 => (s_al_0 p_276_132).trans <| (s_getr p_276_133 hs_246 (by decide) rfl).trans <| (s_bip p_276_136 rfl).trans <| (s_dup2 cat_i cat_r p_276_138).trans <| (s_aldc p_276_139 hs_247 (by decide) wl_6 (by decide)).trans <| (s_const p_276_140).trans <| (s_iadd p_276_141).trans <| (s_astc p_276_142 hs_247 wl_6 (by decide)).trans <| (s_il_5 p_276_143).trans <| (s_reti p_276_145 (zM_of zq_276)))))
end BK
