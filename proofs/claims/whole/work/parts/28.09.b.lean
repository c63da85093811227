/-! Equations of blocks. By program. -/
section BK
variable {e : List Int32 × Value} {d : Nat} {m : zMm}
-- M.who
theorem p_296_0 : zP1 296 0 = some (.iload_n 1, 0, 0, 0) := zp_l zq_296 rfl
theorem p_296_1 : zP1 296 1 = some (.iconst 0, 0, 0, 0) := zp_l zq_296 rfl
theorem p_296_2 : zP1 296 2 = some (.aload_n 0, 0, 0, 0) := zp_l zq_296 rfl
theorem p_296_3 : zP1 296 3 = some (.getfield 9, 11, 0, 0) := zp_r zq_296 rfl
theorem p_296_6 : zP1 296 6 = some (.bipush 8, 0, 0, 0) := zp_l zq_296 rfl
theorem p_296_8 : zP1 296 8 = some (.iaload, 0, 0, 0) := zp_l zq_296 rfl
theorem p_296_9 : zP1 296 9 = some (.iconst 1, 0, 0, 0) := zp_l zq_296 rfl
theorem p_296_10 : zP1 296 10 = some (.isub, 0, 0, 0) := zp_l zq_296 rfl
theorem p_296_11 : zP1 296 11 = some (.invokestatic 100, 199, 3, 0) := zp_r zq_296 rfl
theorem p_296_14 : zP1 296 14 = some (.ifCond .ne 5, 0, 0, 0) := zp_l zq_296 rfl
theorem p_296_17 : zP1 296 17 = some (.iconst (-1), 0, 0, 0) := zp_l zq_296 rfl
theorem p_296_18 : zP1 296 18 = some (.ireturn, 0, 0, 0) := zp_l zq_296 rfl
theorem p_296_19 : zP1 296 19 = some (.aload_n 0, 0, 0, 0) := zp_l zq_296 rfl
theorem p_296_20 : zP1 296 20 = some (.aload_n 0, 0, 0, 0) := zp_l zq_296 rfl
theorem p_296_21 : zP1 296 21 = some (.getfield 9, 11, 0, 0) := zp_r zq_296 rfl
theorem p_296_24 : zP1 296 24 = some (.sipush 1234, 0, 0, 0) := zp_l zq_296 rfl
theorem p_296_27 : zP1 296 27 = some (.iconst 3, 0, 0, 0) := zp_l zq_296 rfl
theorem p_296_28 : zP1 296 28 = some (.iload_n 1, 0, 0, 0) := zp_l zq_296 rfl
theorem p_296_29 : zP1 296 29 = some (.imul, 0, 0, 0) := zp_l zq_296 rfl
theorem p_296_30 : zP1 296 30 = some (.iadd, 0, 0, 0) := zp_l zq_296 rfl
theorem p_296_31 : zP1 296 31 = some (.iaload, 0, 0, 0) := zp_l zq_296 rfl
theorem p_296_32 : zP1 296 32 = some (.invokevirtual 125, 209, 1, 11) := zp_r zq_296 rfl
theorem p_296_35 : zP1 296 35 = some (.aload_n 0, 0, 0, 0) := zp_l zq_296 rfl
theorem p_296_36 : zP1 296 36 = some (.getfield 9, 11, 0, 0) := zp_r zq_296 rfl
theorem p_296_39 : zP1 296 39 = some (.sipush 1234, 0, 0, 0) := zp_l zq_296 rfl
theorem p_296_42 : zP1 296 42 = some (.iconst 3, 0, 0, 0) := zp_l zq_296 rfl
theorem p_296_43 : zP1 296 43 = some (.iload_n 1, 0, 0, 0) := zp_l zq_296 rfl
theorem p_296_44 : zP1 296 44 = some (.imul, 0, 0, 0) := zp_l zq_296 rfl
theorem p_296_45 : zP1 296 45 = some (.iadd, 0, 0, 0) := zp_l zq_296 rfl
theorem p_296_46 : zP1 296 46 = some (.iconst 1, 0, 0, 0) := zp_l zq_296 rfl
theorem p_296_47 : zP1 296 47 = some (.iadd, 0, 0, 0) := zp_l zq_296 rfl
theorem p_296_48 : zP1 296 48 = some (.iaload, 0, 0, 0) := zp_l zq_296 rfl
theorem p_296_49 : zP1 296 49 = some (.bipush 24, 0, 0, 0) := zp_l zq_296 rfl
theorem p_296_51 : zP1 296 51 = some (.irem, 0, 0, 0) := zp_l zq_296 rfl
theorem p_296_52 : zP1 296 52 = some (.istore_n 2, 0, 0, 0) := zp_l zq_296 rfl
theorem p_296_53 : zP1 296 53 = some (.iload_n 2, 0, 0, 0) := zp_l zq_296 rfl
theorem p_296_54 : zP1 296 54 = some (.bipush 20, 0, 0, 0) := zp_l zq_296 rfl
theorem p_296_56 : zP1 296 56 = some (.if_icmp .lt 10, 0, 0, 0) := zp_l zq_296 rfl
theorem p_296_59 : zP1 296 59 = some (.iload_n 2, 0, 0, 0) := zp_l zq_296 rfl
theorem p_296_60 : zP1 296 60 = some (.bipush 20, 0, 0, 0) := zp_l zq_296 rfl
theorem p_296_62 : zP1 296 62 = some (.isub, 0, 0, 0) := zp_l zq_296 rfl
theorem p_296_63 : zP1 296 63 = some (.goto 6, 0, 0, 0) := zp_l zq_296 rfl
theorem p_296_66 : zP1 296 66 = some (.iload_n 2, 0, 0, 0) := zp_l zq_296 rfl
theorem p_296_67 : zP1 296 67 = some (.iconst 4, 0, 0, 0) := zp_l zq_296 rfl
theorem p_296_68 : zP1 296 68 = some (.iadd, 0, 0, 0) := zp_l zq_296 rfl
theorem p_296_69 : zP1 296 69 = some (.istore_n 3, 0, 0, 0) := zp_l zq_296 rfl
theorem p_296_70 : zP1 296 70 = some (.aload_n 0, 0, 0, 0) := zp_l zq_296 rfl
theorem p_296_71 : zP1 296 71 = some (.getfield 9, 11, 0, 0) := zp_r zq_296 rfl
theorem p_296_74 : zP1 296 74 = some (.sipush 1234, 0, 0, 0) := zp_l zq_296 rfl
theorem p_296_77 : zP1 296 77 = some (.iconst 3, 0, 0, 0) := zp_l zq_296 rfl
theorem p_296_78 : zP1 296 78 = some (.iload_n 1, 0, 0, 0) := zp_l zq_296 rfl
theorem p_296_79 : zP1 296 79 = some (.imul, 0, 0, 0) := zp_l zq_296 rfl
theorem p_296_80 : zP1 296 80 = some (.iadd, 0, 0, 0) := zp_l zq_296 rfl
theorem p_296_81 : zP1 296 81 = some (.iconst 2, 0, 0, 0) := zp_l zq_296 rfl
theorem p_296_82 : zP1 296 82 = some (.iadd, 0, 0, 0) := zp_l zq_296 rfl
theorem p_296_83 : zP1 296 83 = some (.iaload, 0, 0, 0) := zp_l zq_296 rfl
theorem p_296_84 : zP1 296 84 = some (.istore 4, 0, 0, 0) := zp_l zq_296 rfl
theorem p_296_86 : zP1 296 86 = some (.iconst 0, 0, 0, 0) := zp_l zq_296 rfl
theorem p_296_87 : zP1 296 87 = some (.istore 5, 0, 0, 0) := zp_l zq_296 rfl
theorem p_296_89 : zP1 296 89 = some (.iconst 0, 0, 0, 0) := zp_l zq_296 rfl
theorem p_296_90 : zP1 296 90 = some (.istore 6, 0, 0, 0) := zp_l zq_296 rfl
theorem p_296_92 : zP1 296 92 = some (.iload 6, 0, 0, 0) := zp_l zq_296 rfl
theorem p_296_94 : zP1 296 94 = some (.aload_n 0, 0, 0, 0) := zp_l zq_296 rfl
theorem p_296_95 : zP1 296 95 = some (.getfield 9, 11, 0, 0) := zp_r zq_296 rfl
theorem p_296_98 : zP1 296 98 = some (.iconst 1, 0, 0, 0) := zp_l zq_296 rfl
theorem p_296_99 : zP1 296 99 = some (.iaload, 0, 0, 0) := zp_l zq_296 rfl
theorem p_296_100 : zP1 296 100 = some (.if_icmp .ge 92, 0, 0, 0) := zp_l zq_296 rfl
theorem p_296_103 : zP1 296 103 = some (.aload_n 0, 0, 0, 0) := zp_l zq_296 rfl
theorem p_296_104 : zP1 296 104 = some (.getfield 9, 11, 0, 0) := zp_r zq_296 rfl
theorem p_296_107 : zP1 296 107 = some (.iload 6, 0, 0, 0) := zp_l zq_296 rfl
theorem p_296_109 : zP1 296 109 = some (.iconst 1, 0, 0, 0) := zp_l zq_296 rfl
theorem p_296_110 : zP1 296 110 = some (.invokestatic 129, 204, 2, 0) := zp_r zq_296 rfl
theorem p_296_113 : zP1 296 113 = some (.iaload, 0, 0, 0) := zp_l zq_296 rfl
theorem p_296_114 : zP1 296 114 = some (.istore 7, 0, 0, 0) := zp_l zq_296 rfl
theorem p_296_116 : zP1 296 116 = some (.aload_n 0, 0, 0, 0) := zp_l zq_296 rfl
theorem p_296_117 : zP1 296 117 = some (.iload 6, 0, 0, 0) := zp_l zq_296 rfl
theorem p_296_119 : zP1 296 119 = some (.iconst 4, 0, 0, 0) := zp_l zq_296 rfl
theorem p_296_120 : zP1 296 120 = some (.invokevirtual 328, 265, 2, 11) := zp_r zq_296 rfl
theorem p_296_123 : zP1 296 123 = some (.ifCond .ne 42, 0, 0, 0) := zp_l zq_296 rfl
theorem p_296_126 : zP1 296 126 = some (.iload 4, 0, 0, 0) := zp_l zq_296 rfl
theorem p_296_128 : zP1 296 128 = some (.ifCond .eq 10, 0, 0, 0) := zp_l zq_296 rfl
theorem p_296_131 : zP1 296 131 = some (.iload 4, 0, 0, 0) := zp_l zq_296 rfl
theorem p_296_133 : zP1 296 133 = some (.iload 7, 0, 0, 0) := zp_l zq_296 rfl
theorem p_296_135 : zP1 296 135 = some (.if_icmp .ne 30, 0, 0, 0) := zp_l zq_296 rfl
theorem p_296_138 : zP1 296 138 = some (.aload_n 0, 0, 0, 0) := zp_l zq_296 rfl
theorem p_296_139 : zP1 296 139 = some (.getfield 29, 11, 9, 0) := zp_r zq_296 rfl
theorem p_296_142 : zP1 296 142 = some (.aload_n 0, 0, 0, 0) := zp_l zq_296 rfl
theorem p_296_143 : zP1 296 143 = some (.getfield 9, 11, 0, 0) := zp_r zq_296 rfl
theorem p_296_146 : zP1 296 146 = some (.iload 6, 0, 0, 0) := zp_l zq_296 rfl
theorem p_296_148 : zP1 296 148 = some (.iconst 0, 0, 0, 0) := zp_l zq_296 rfl
theorem p_296_149 : zP1 296 149 = some (.invokestatic 129, 204, 2, 0) := zp_r zq_296 rfl
theorem p_296_152 : zP1 296 152 = some (.iaload, 0, 0, 0) := zp_l zq_296 rfl
theorem p_296_153 : zP1 296 153 = some (.iaload, 0, 0, 0) := zp_l zq_296 rfl
theorem p_296_154 : zP1 296 154 = some (.iload 7, 0, 0, 0) := zp_l zq_296 rfl
theorem p_296_156 : zP1 296 156 = some (.iload_n 3, 0, 0, 0) := zp_l zq_296 rfl
theorem p_296_157 : zP1 296 157 = some (.imul, 0, 0, 0) := zp_l zq_296 rfl
theorem p_296_158 : zP1 296 158 = some (.if_icmp .gt 7, 0, 0, 0) := zp_l zq_296 rfl
theorem p_296_161 : zP1 296 161 = some (.iconst 1, 0, 0, 0) := zp_l zq_296 rfl
theorem p_296_162 : zP1 296 162 = some (.goto 4, 0, 0, 0) := zp_l zq_296 rfl
theorem p_296_165 : zP1 296 165 = some (.iconst 0, 0, 0, 0) := zp_l zq_296 rfl
theorem p_296_166 : zP1 296 166 = some (.istore 8, 0, 0, 0) := zp_l zq_296 rfl
theorem p_296_168 : zP1 296 168 = some (.iload 5, 0, 0, 0) := zp_l zq_296 rfl
theorem p_296_170 : zP1 296 170 = some (.iload 8, 0, 0, 0) := zp_l zq_296 rfl
theorem p_296_172 : zP1 296 172 = some (.ifCond .eq 10, 0, 0, 0) := zp_l zq_296 rfl
theorem p_296_175 : zP1 296 175 = some (.iconst 1, 0, 0, 0) := zp_l zq_296 rfl
theorem p_296_176 : zP1 296 176 = some (.iload 6, 0, 0, 0) := zp_l zq_296 rfl
theorem p_296_178 : zP1 296 178 = some (.ishl, 0, 0, 0) := zp_l zq_296 rfl
theorem p_296_179 : zP1 296 179 = some (.goto 4, 0, 0, 0) := zp_l zq_296 rfl
theorem p_296_182 : zP1 296 182 = some (.iconst 0, 0, 0, 0) := zp_l zq_296 rfl
theorem p_296_183 : zP1 296 183 = some (.ior, 0, 0, 0) := zp_l zq_296 rfl
theorem p_296_184 : zP1 296 184 = some (.istore 5, 0, 0, 0) := zp_l zq_296 rfl
theorem p_296_186 : zP1 296 186 = some (.iinc 6 1, 0, 0, 0) := zp_l zq_296 rfl
theorem p_296_189 : zP1 296 189 = some (.goto (-97), 0, 0, 0) := zp_l zq_296 rfl
theorem p_296_192 : zP1 296 192 = some (.iload 5, 0, 0, 0) := zp_l zq_296 rfl
theorem p_296_194 : zP1 296 194 = some (.ireturn, 0, 0, 0) := zp_l zq_296 rfl
theorem b_296_0 {x1 : Int} : Z e (d + 2) 296 0 [.ref 246, .int (iI x1), .retAddr 0, .retAddr 0, .retAddr 0, .retAddr 0, .retAddr 0, .retAddr 0, .retAddr 0] [] m = (if ¬ (((wr 0) ≤ (wr x1)) ∧ ((wr x1) ≤ (wr ((m 247 8) - 1)))) then ri (-1) m else ck (0 ≤ (wr (1234 + (3 * x1))) ∧ (wr (1234 + (3 * x1))) < 2737) ((Z e (d + 1) 209 0 [.ref 246, .int (iI (m 247 (wr (1234 + (3 * x1))))), .retAddr 0, .retAddr 0, .retAddr 0, .retAddr 0] [] m).bind (ZK e (d + 2) 296 35 [.ref 246, .int (iI x1), .retAddr 0, .retAddr 0, .retAddr 0, .retAddr 0, .retAddr 0, .retAddr 0, .retAddr 0] [] m))) := (s_il_1 p_296_0).trans <| (s_const p_296_1).trans <| (s_al_0 p_296_2).trans <| (s_getr p_296_3 hs_246 (by decide) rfl).trans <| (s_bip p_296_6 rfl).trans <| (s_aldc p_296_8 hs_247 (by decide) wl_8 (by decide)).trans <| (s_const p_296_9).trans <| (s_isub p_296_10).trans <| (s_cs3 (Lc := [.int (iI x1), .int (iI 0), .int (iI ((m 247 8) - 1))]) p_296_11 (by decide) (zM_of zq_199) ⟨Nat.le_of_ble_eq_true rfl, Nat.le_of_ble_eq_true rfl⟩ rfl).trans <| (bd b_199_0).trans <| ri_k.trans <| Eq.trans ((s_bne_f p_296_14 rfl)) <| ite_cg ((s_const p_296_17).trans <| (s_reti p_296_18 (zM_of zq_296))) ((s_al_0 p_296_19).trans <| (s_al_0 p_296_20).trans <| (s_getr p_296_21 hs_246 (by decide) rfl).trans <| (s_sip p_296_24 rfl).trans <| (s_const p_296_27).trans <| (s_il_1 p_296_28).trans <| (s_imul p_296_29).trans <| (s_iadd p_296_30).trans <| (s_ald 2737 p_296_31 hs_247 rfl (by decide)).trans <| ck_cg fun k1 => (s_cv1 (Lc := [.ref 246, .int (iI (m 247 (wr (1234 + (3 * x1))))), .retAddr 0, .retAddr 0, .retAddr 0, .retAddr 0]) p_296_32 (by decide) (by decide) (zM_of zq_209) ⟨Nat.le_of_ble_eq_true rfl, Nat.le_of_ble_eq_true rfl⟩ rfl (m_rc hs_246 ⟨rfl, by decide⟩)))
theorem b_296_92 {x3 : Int} {x4 : Int} {x5 : Int} {x6 : Int} {u1 u2 u7 u8 : Value} : Z e (d + 2) 296 92 [.ref 246, u1, u2, .int (iI x3), .int (iI x4), .int (iI x5), .int (iI x6), u7, u8] [] m = (if (wr x6) < (wr (m 247 1)) then ck (0 ≤ (wr ((110 + (9 * x6)) + 1)) ∧ (wr ((110 + (9 * x6)) + 1)) < 2737) (ck (0 ≤ (wr ((110 + (9 * x6)) + 2)) ∧ (wr ((110 + (9 * x6)) + 2)) < 2737) (ck ((¬ (¬ (wr (m 247 (wr ((110 + (9 * x6)) + 2)))) = (wr 4))) → (((¬ (wr x4) = 0) → (((wr x4) = (wr (m 247 (wr ((110 + (9 * x6)) + 1))))) → ((0 ≤ (wr ((110 + (9 * x6)) + 0)) ∧ (wr ((110 + (9 * x6)) + 0)) < 2737) ∧ (0 ≤ (wr (m 247 (wr ((110 + (9 * x6)) + 0)))) ∧ (wr (m 247 (wr ((110 + (9 * x6)) + 0)))) < 100)))) ∧ ((¬ (¬ (wr x4) = 0)) → ((0 ≤ (wr ((110 + (9 * x6)) + 0)) ∧ (wr ((110 + (9 * x6)) + 0)) < 2737) ∧ (0 ≤ (wr (m 247 (wr ((110 + (9 * x6)) + 0)))) ∧ (wr (m 247 (wr ((110 + (9 * x6)) + 0)))) < 100))))) (Z e (d + 2) 296 92 [.ref 246, u1, u2, .int (iI x3), .int (iI x4), .int (iI (jor x5 (if ¬ (wr (if ¬ (¬ (wr (m 247 (wr ((110 + (9 * x6)) + 2)))) = (wr 4)) then (if ¬ (wr x4) = 0 then (if ((wr x4) = (wr (m 247 (wr ((110 + (9 * x6)) + 1))))) ∧ ((wr (m 252 (wr (m 247 (wr ((110 + (9 * x6)) + 0)))))) ≤ (wr ((m 247 (wr ((110 + (9 * x6)) + 1))) * x3))) then 1 else 0) else (if (wr (m 252 (wr (m 247 (wr ((110 + (9 * x6)) + 0)))))) ≤ (wr ((m 247 (wr ((110 + (9 * x6)) + 1))) * x3)) then 1 else 0)) else 0)) = 0 then (jshl 1 x6) else 0))), .int (iI (x6 + 1)), .int (iI (m 247 (wr ((110 + (9 * x6)) + 1)))), .int (iI (if ¬ (¬ (wr (m 247 (wr ((110 + (9 * x6)) + 2)))) = (wr 4)) then (if ¬ (wr x4) = 0 then (if ((wr x4) = (wr (m 247 (wr ((110 + (9 * x6)) + 1))))) ∧ ((wr (m 252 (wr (m 247 (wr ((110 + (9 * x6)) + 0)))))) ≤ (wr ((m 247 (wr ((110 + (9 * x6)) + 1))) * x3))) then 1 else 0) else (if (wr (m 252 (wr (m 247 (wr ((110 + (9 * x6)) + 0)))))) ≤ (wr ((m 247 (wr ((110 + (9 * x6)) + 1))) * x3)) then 1 else 0)) else 0))] [] m))) else ri x5 m) := (s_il_6 p_296_92).trans <| (s_al_0 p_296_94).trans <| (s_getr p_296_95 hs_246 (by decide) rfl).trans <| (s_const p_296_98).trans <| (s_aldc p_296_99 hs_247 (by decide) wl_1 (by decide)).trans <| Eq.trans ((s_c_ge_f p_296_100 rfl rfl rfl)) <| ite_cg ((s_al_0 p_296_103).trans <| (s_getr p_296_104 hs_246 (by decide) rfl).trans <| (s_il_6 p_296_107).trans <| (s_const p_296_109).trans <| (s_cs2 (Lc := [.int (iI x6), .int (iI 1)]) p_296_110 (by decide) (zM_of zq_204) ⟨Nat.le_of_ble_eq_true rfl, Nat.le_of_ble_eq_true rfl⟩ rfl).trans <| (bd b_204_0).trans <| ri_k.trans <| (s_ald 2737 p_296_113 hs_247 rfl (by decide)).trans <| ck_cg fun k6 => (s_is_7 cat_i p_296_114).trans <| (s_al_0 p_296_116).trans <| (s_il_6 p_296_117).trans <| (s_const p_296_119).trans <| (s_cv2 (Lc := [.ref 246, .int (iI x6), .int (iI 4)]) p_296_120 (by decide) (by decide) (zM_of zq_265) ⟨Nat.le_of_ble_eq_true rfl, Nat.le_of_ble_eq_true rfl⟩ rfl (m_rc hs_246 ⟨rfl, by decide⟩)).trans <| (bd b_265_0).trans <| ck_bind.trans <| ck_cg fun _ => ri_k.trans <| Eq.trans (Eq.trans ((s_bne_f p_296_123 rfl)) <| Eq.trans (ite_cg ((s_il_4 p_296_126).trans <| Eq.trans (Eq.trans ((s_z_eq_f p_296_128 rfl rfl)) <| Eq.trans (ite_cg ((s_il_4 p_296_131).trans <| (s_il_7 p_296_133).trans <| Eq.trans (Eq.trans (Eq.trans (s_c_ne_f p_296_135 rfl rfl rfl) <| Eq.trans (ite_cg ((s_al_0 p_296_138).trans <| (s_getr p_296_139 hs_246 (by decide) rfl).trans <| (s_al_0 p_296_142).trans <| (s_getr p_296_143 hs_246 (by decide) rfl).trans <| (s_il_6 p_296_146).trans <| (s_const p_296_148).trans <| (s_cs2 (Lc := [.int (iI x6), .int (iI 0)]) p_296_149 (by decide) (zM_of zq_204) ⟨Nat.le_of_ble_eq_true rfl, Nat.le_of_ble_eq_true rfl⟩ rfl).trans <| (bd b_204_0).trans <| ri_k.trans <| (s_ald 2737 p_296_152 hs_247 rfl (by decide)).trans <| Eq.trans (ck_cg fun k7 => (s_ald 100 p_296_153 hs_252 rfl (by decide)).trans <| ck_cg fun k8 => (s_il_7 p_296_154).trans <| (s_il_3 p_296_156).trans <| (s_imul p_296_157).trans <| (s_c_gt_f p_296_158 rfl rfl rfl)) ck_ck) rfl) <| Eq.trans ck_a <| ck_cg fun _ => co_and) <| ck_cg fun _ => Eq.trans (ite_cg ((s_const p_296_161).trans <| (s_goto p_296_162 rfl).trans <| rfl) ((s_const p_296_165).trans <| rfl)) (phi1 (fun z0 => Z e (d + 2) 296 166 [.ref 246, u1, u2, .int (iI x3), .int (iI x4), .int (iI x5), .int (iI x6), .int (iI (m 247 (wr ((110 + (9 * x6)) + 1)))), u8] [.int (iI z0)] m))) <| ck_cg fun _ => rfl) ((s_al_0 p_296_138).trans <| (s_getr p_296_139 hs_246 (by decide) rfl).trans <| (s_al_0 p_296_142).trans <| (s_getr p_296_143 hs_246 (by decide) rfl).trans <| (s_il_6 p_296_146).trans <| (s_const p_296_148).trans <| (s_cs2 (Lc := [.int (iI x6), .int (iI 0)]) p_296_149 (by decide) (zM_of zq_204) ⟨Nat.le_of_ble_eq_true rfl, Nat.le_of_ble_eq_true rfl⟩ rfl).trans <| (bd b_204_0).trans <| ri_k.trans <| (s_ald 2737 p_296_152 hs_247 rfl (by decide)).trans <| Eq.trans (ck_cg fun k9 => (s_ald 100 p_296_153 hs_252 rfl (by decide)).trans <| ck_cg fun k10 => (s_il_7 p_296_154).trans <| (s_il_3 p_296_156).trans <| (s_imul p_296_157).trans <| Eq.trans (Eq.trans ((s_c_gt_f p_296_158 rfl rfl rfl)) <| Eq.trans (ite_cg ((s_const p_296_161).trans <| (s_goto p_296_162 rfl).trans <| rfl) ((s_const p_296_165).trans <| rfl)) (phi1 (fun z0 => Z e (d + 2) 296 166 [.ref 246, u1, u2, .int (iI x3), .int (iI x4), .int (iI x5), .int (iI x6), .int (iI (m 247 (wr ((110 + (9 * x6)) + 1)))), u8] [.int (iI z0)] m))) <| rfl) ck_ck)) <| Eq.trans ck_ab <| ck_cg fun _ => (phi1 (fun z0 => Z e (d + 2) 296 166 [.ref 246, u1, u2, .int (iI x3), .int (iI x4), .int (iI x5), .int (iI x6), .int (iI (m 247 (wr ((110 + (9 * x6)) + 1)))), u8] [.int (iI z0)] m))) <| ck_cg fun _ => rfl) ((s_const p_296_165).trans <| rfl)) <| Eq.trans ck_a <| ck_cg fun _ => (phi1 (fun z0 => Z e (d + 2) 296 166 [.ref 246, u1, u2, .int (iI x3), .int (iI x4), .int (iI x5), .int (iI x6), .int (iI (m 247 (wr ((110 + (9 * x6)) + 1)))), u8] [.int (iI z0)] m))) <| ck_cg fun _ => (s_is_8 cat_i p_296_166).trans <| (s_il_5 p_296_168).trans <| (s_il_8 p_296_170).trans <| Eq.trans (Eq.trans ((s_z_eq_f p_296_172 rfl rfl)) <| Eq.trans (ite_cg ((s_const p_296_175).trans <| (s_il_6 p_296_176).trans <| (s_ishl p_296_178).trans <| (s_goto p_296_179 rfl).trans <| rfl) ((s_const p_296_182).trans <| rfl)) (phi1 (fun z0 => Z e (d + 2) 296 183 [.ref 246, u1, u2, .int (iI x3), .int (iI x4), .int (iI x5), .int (iI x6), .int (iI (m 247 (wr ((110 + (9 * x6)) + 1)))), .int (iI (if ¬ (¬ (wr (m 247 (wr ((110 + (9 * x6)) + 2)))) = (wr 4)) then (if ¬ (wr x4) = 0 then (if ((wr x4) = (wr (m 247 (wr ((110 + (9 * x6)) + 1))))) ∧ ((wr (m 252 (wr (m 247 (wr ((110 + (9 * x6)) + 0)))))) ≤ (wr ((m 247 (wr ((110 + (9 * x6)) + 1))) * x3))) then 1 else 0) else (if (wr (m 252 (wr (m 247 (wr ((110 + (9 * x6)) + 0)))))) ≤ (wr ((m 247 (wr ((110 + (9 * x6)) + 1))) * x3)) then 1 else 0)) else 0))] [.int (iI z0), .int (iI x5)] m))) <| (s_ior p_296_183).trans <| (s_is_5 cat_i p_296_184).trans <| (s_inc_6 cat_i p_296_186).trans <| (s_goto p_296_189 rfl).trans <| rfl) ((s_il_5 p_296_192).trans <| (s_reti p_296_194 (zM_of zq_296)))
theorem b_296_35 {x1 : Int} {u2 u3 u4 u5 u6 u7 u8 : Value} : Z e (d + 2) 296 35 [.ref 246, .int (iI x1), u2, u3, u4, u5, u6, u7, u8] [] m = ck (0 ≤ (wr ((1234 + (3 * x1)) + 1)) ∧ (wr ((1234 + (3 * x1)) + 1)) < 2737) (ck (0 ≤ (wr ((1234 + (3 * x1)) + 2)) ∧ (wr ((1234 + (3 * x1)) + 2)) < 2737) (Z e (d + 2) 296 92 [.ref 246, .int (iI x1), .int (iI (jrem (m 247 (wr ((1234 + (3 * x1)) + 1))) 24)), .int (iI (if 20 ≤ (wr (jrem (m 247 (wr ((1234 + (3 * x1)) + 1))) 24)) then ((jrem (m 247 (wr ((1234 + (3 * x1)) + 1))) 24) - 20) else ((jrem (m 247 (wr ((1234 + (3 * x1)) + 1))) 24) + 4))), .int (iI (m 247 (wr ((1234 + (3 * x1)) + 2)))), .int (iI 0), .int (iI 0), u7, u8] [] m)) := (s_al_0 p_296_35).trans <| (s_getr p_296_36 hs_246 (by decide) rfl).trans <| (s_sip p_296_39 rfl).trans <| (s_const p_296_42).trans <| (s_il_1 p_296_43).trans <| (s_imul p_296_44).trans <| (s_iadd p_296_45).trans <| (s_const p_296_46).trans <| (s_iadd p_296_47).trans <| (s_ald 2737 p_296_48 hs_247 rfl (by decide)).trans <| ck_cg fun k1 => (s_bip p_296_49 rfl).trans <| (s_iremc p_296_51 (by decide)).trans <| (s_is_2 cat_i p_296_52).trans <| (s_il_2 p_296_53).trans <| (s_bip p_296_54 rfl).trans <| Eq.trans (Eq.trans ((s_c_lt_f p_296_56 rfl rfl wl_20)) <| Eq.trans (ite_cg ((s_il_2 p_296_59).trans <| (s_bip p_296_60 rfl).trans <| (s_isub p_296_62).trans <| (s_goto p_296_63 rfl).trans <| rfl) ((s_il_2 p_296_66).trans <| (s_const p_296_67).trans <| (s_iadd p_296_68).trans <| rfl)) (phi1 (fun z0 => Z e (d + 2) 296 69 [.ref 246, .int (iI x1), .int (iI (jrem (m 247 (wr ((1234 + (3 * x1)) + 1))) 24)), u3, u4, u5, u6, u7, u8] [.int (iI z0)] m))) <| (s_is_3 cat_i p_296_69).trans <| (s_al_0 p_296_70).trans <| (s_getr p_296_71 hs_246 (by decide) rfl).trans <| (s_sip p_296_74 rfl).trans <| (s_const p_296_77).trans <| (s_il_1 p_296_78).trans <| (s_imul p_296_79).trans <| (s_iadd p_296_80).trans <| (s_const p_296_81).trans <| (s_iadd p_296_82).trans <| (s_ald 2737 p_296_83 hs_247 rfl (by decide)).trans <| ck_cg fun k2 => (s_is_4 cat_i p_296_84).trans <| (s_const p_296_86).trans <| (s_is_5 cat_i p_296_87).trans <| (s_const p_296_89).trans <| (s_is_6 cat_i p_296_90).trans <| rfl
-- M.safeBy
theorem p_297_0 : zP1 297 0 = some (.aload_n 0, 0, 0, 0) := zp_l zq_297 rfl
theorem p_297_1 : zP1 297 1 = some (.iload_n 1, 0, 0, 0) := zp_l zq_297 rfl
theorem p_297_2 : zP1 297 2 = some (.putfield 38, 11, 13, 0) := zp_r zq_297 rfl
theorem p_297_5 : zP1 297 5 = some (.iconst 0, 0, 0, 0) := zp_l zq_297 rfl
theorem p_297_6 : zP1 297 6 = some (.istore_n 2, 0, 0, 0) := zp_l zq_297 rfl
theorem p_297_7 : zP1 297 7 = some (.iconst 0, 0, 0, 0) := zp_l zq_297 rfl
theorem p_297_8 : zP1 297 8 = some (.istore_n 3, 0, 0, 0) := zp_l zq_297 rfl
theorem p_297_9 : zP1 297 9 = some (.iload_n 3, 0, 0, 0) := zp_l zq_297 rfl
theorem p_297_10 : zP1 297 10 = some (.aload_n 0, 0, 0, 0) := zp_l zq_297 rfl
theorem p_297_11 : zP1 297 11 = some (.getfield 9, 11, 0, 0) := zp_r zq_297 rfl
theorem p_297_14 : zP1 297 14 = some (.iconst 1, 0, 0, 0) := zp_l zq_297 rfl
theorem p_297_15 : zP1 297 15 = some (.iaload, 0, 0, 0) := zp_l zq_297 rfl
theorem p_297_16 : zP1 297 16 = some (.if_icmp .ge 27, 0, 0, 0) := zp_l zq_297 rfl
theorem p_297_19 : zP1 297 19 = some (.iload_n 2, 0, 0, 0) := zp_l zq_297 rfl
theorem p_297_20 : zP1 297 20 = some (.aload_n 0, 0, 0, 0) := zp_l zq_297 rfl
theorem p_297_21 : zP1 297 21 = some (.iload_n 3, 0, 0, 0) := zp_l zq_297 rfl
theorem p_297_22 : zP1 297 22 = some (.invokevirtual 331, 259, 1, 11) := zp_r zq_297 rfl
theorem p_297_25 : zP1 297 25 = some (.ifCond .eq 9, 0, 0, 0) := zp_l zq_297 rfl
theorem p_297_28 : zP1 297 28 = some (.iconst 1, 0, 0, 0) := zp_l zq_297 rfl
theorem p_297_29 : zP1 297 29 = some (.iload_n 3, 0, 0, 0) := zp_l zq_297 rfl
theorem p_297_30 : zP1 297 30 = some (.ishl, 0, 0, 0) := zp_l zq_297 rfl
theorem p_297_31 : zP1 297 31 = some (.goto 4, 0, 0, 0) := zp_l zq_297 rfl
theorem p_297_34 : zP1 297 34 = some (.iconst 0, 0, 0, 0) := zp_l zq_297 rfl
theorem p_297_35 : zP1 297 35 = some (.ior, 0, 0, 0) := zp_l zq_297 rfl
theorem p_297_36 : zP1 297 36 = some (.istore_n 2, 0, 0, 0) := zp_l zq_297 rfl
theorem p_297_37 : zP1 297 37 = some (.iinc 3 1, 0, 0, 0) := zp_l zq_297 rfl
theorem p_297_40 : zP1 297 40 = some (.goto (-31), 0, 0, 0) := zp_l zq_297 rfl
theorem p_297_43 : zP1 297 43 = some (.aload_n 0, 0, 0, 0) := zp_l zq_297 rfl
theorem p_297_44 : zP1 297 44 = some (.iconst (-1), 0, 0, 0) := zp_l zq_297 rfl
theorem p_297_45 : zP1 297 45 = some (.putfield 38, 11, 13, 0) := zp_r zq_297 rfl
theorem p_297_48 : zP1 297 48 = some (.iload_n 2, 0, 0, 0) := zp_l zq_297 rfl
theorem p_297_49 : zP1 297 49 = some (.ireturn, 0, 0, 0) := zp_l zq_297 rfl
theorem b_297_0 {x1 : Int} : Z e (d + 1) 297 0 [.ref 246, .int (iI x1), .retAddr 0, .retAddr 0] [] m = Z e (d + 1) 297 9 [.ref 246, .int (iI x1), .int (iI 0), .int (iI 0)] [] (um m 246 13 x1) := (s_al_0 p_297_0).trans <| (s_il_1 p_297_1).trans <| (s_put p_297_2 hs_246 (by decide) rfl).trans <| (s_const p_297_5).trans <| (s_is_2 cat_i p_297_6).trans <| (s_const p_297_7).trans <| (s_is_3 cat_i p_297_8).trans <| rfl
theorem b_297_9 {x2 : Int} {x3 : Int} {u1 : Value} : Z e (d + 1) 297 9 [.ref 246, u1, .int (iI x2), .int (iI x3)] [] m = (if (wr x3) < (wr (m 247 1)) then (Z e d 259 0 [.ref 246, .int (iI x3)] [] m).bind (ZK e (d + 1) 297 25 [.ref 246, u1, .int (iI x2), .int (iI x3)] [.int (iI x2)] m) else ri x2 (um m 246 13 (-1))) := (s_il_3 p_297_9).trans <| (s_al_0 p_297_10).trans <| (s_getr p_297_11 hs_246 (by decide) rfl).trans <| (s_const p_297_14).trans <| (s_aldc p_297_15 hs_247 (by decide) wl_1 (by decide)).trans <| Eq.trans ((s_c_ge_f p_297_16 rfl rfl rfl)) <| ite_cg ((s_il_2 p_297_19).trans <| (s_al_0 p_297_20).trans <| (s_il_3 p_297_21).trans <| (s_cv1 (Lc := [.ref 246, .int (iI x3)]) p_297_22 (by decide) (by decide) (zM_of zq_259) ⟨Nat.le_of_ble_eq_true rfl, Nat.le_of_ble_eq_true rfl⟩ rfl (m_rc hs_246 ⟨rfl, by decide⟩))) ((s_al_0 p_297_43).trans <| (s_const p_297_44).trans <| (s_put p_297_45 hs_246 (by decide) rfl).trans <| (s_il_2 p_297_48).trans <| (s_reti p_297_49 (zM_of zq_297)))
theorem b_297_25 {x3 : Int} {xs0 : Int} {xs1 : Int} {u1 u2 : Value} (hu1 : u1.category = 1) : Z e (d + 1) 297 25 [.ref 246, u1, u2, .int (iI x3)] [.int (iI xs0), .int (iI xs1)] m = Z e (d + 1) 297 9 [.ref 246, u1, .int (iI (jor xs1 (if ¬ (wr xs0) = 0 then (jshl 1 x3) else 0))), .int (iI (x3 + 1))] [] m := Eq.trans (Eq.trans ((s_z_eq_f p_297_25 rfl rfl)) <| Eq.trans (ite_cg ((s_const p_297_28).trans <| (s_il_3 p_297_29).trans <| (s_ishl p_297_30).trans <| (s_goto p_297_31 rfl).trans <| rfl) ((s_const p_297_34).trans <| rfl)) (phi1 (fun z0 => Z e (d + 1) 297 35 [.ref 246, u1, u2, .int (iI x3)] [.int (iI z0), .int (iI xs1)] m))) <| (s_ior p_297_35).trans <| (s_is_2 hu1 p_297_36).trans <| (s_inc_3 cat_i p_297_37).trans <| (s_goto p_297_40 rfl).trans <| rfl
-- M.narrow
theorem p_298_0 : zP1 298 0 = some (.iload_n 1, 0, 0, 0) := zp_l zq_298 rfl
theorem p_298_1 : zP1 298 1 = some (.iconst 0, 0, 0, 0) := zp_l zq_298 rfl
theorem p_298_2 : zP1 298 2 = some (.aload_n 0, 0, 0, 0) := zp_l zq_298 rfl
theorem p_298_3 : zP1 298 3 = some (.getfield 9, 11, 0, 0) := zp_r zq_298 rfl
theorem p_298_6 : zP1 298 6 = some (.iconst 3, 0, 0, 0) := zp_l zq_298 rfl
theorem p_298_7 : zP1 298 7 = some (.iaload, 0, 0, 0) := zp_l zq_298 rfl
theorem p_298_8 : zP1 298 8 = some (.iconst 1, 0, 0, 0) := zp_l zq_298 rfl
theorem p_298_9 : zP1 298 9 = some (.isub, 0, 0, 0) := zp_l zq_298 rfl
theorem p_298_10 : zP1 298 10 = some (.invokestatic 100, 199, 3, 0) := zp_r zq_298 rfl
theorem p_298_13 : zP1 298 13 = some (.ifCond .eq 19, 0, 0, 0) := zp_l zq_298 rfl
theorem p_298_16 : zP1 298 16 = some (.iload_n 2, 0, 0, 0) := zp_l zq_298 rfl
theorem p_298_17 : zP1 298 17 = some (.iconst 0, 0, 0, 0) := zp_l zq_298 rfl
theorem p_298_18 : zP1 298 18 = some (.aload_n 0, 0, 0, 0) := zp_l zq_298 rfl
theorem p_298_19 : zP1 298 19 = some (.getfield 9, 11, 0, 0) := zp_r zq_298 rfl
theorem p_298_22 : zP1 298 22 = some (.iconst 3, 0, 0, 0) := zp_l zq_298 rfl
theorem p_298_23 : zP1 298 23 = some (.iaload, 0, 0, 0) := zp_l zq_298 rfl
theorem p_298_24 : zP1 298 24 = some (.iconst 1, 0, 0, 0) := zp_l zq_298 rfl
theorem p_298_25 : zP1 298 25 = some (.isub, 0, 0, 0) := zp_l zq_298 rfl
theorem p_298_26 : zP1 298 26 = some (.invokestatic 100, 199, 3, 0) := zp_r zq_298 rfl
theorem p_298_29 : zP1 298 29 = some (.ifCond .ne 5, 0, 0, 0) := zp_l zq_298 rfl
theorem p_298_32 : zP1 298 32 = some (.iconst (-1), 0, 0, 0) := zp_l zq_298 rfl
theorem p_298_33 : zP1 298 33 = some (.ireturn, 0, 0, 0) := zp_l zq_298 rfl
theorem p_298_34 : zP1 298 34 = some (.aload_n 0, 0, 0, 0) := zp_l zq_298 rfl
theorem p_298_35 : zP1 298 35 = some (.iload_n 1, 0, 0, 0) := zp_l zq_298 rfl
theorem p_298_36 : zP1 298 36 = some (.invokevirtual 372, 297, 1, 11) := zp_r zq_298 rfl
theorem p_298_39 : zP1 298 39 = some (.aload_n 0, 0, 0, 0) := zp_l zq_298 rfl
theorem p_298_40 : zP1 298 40 = some (.iload_n 2, 0, 0, 0) := zp_l zq_298 rfl
theorem p_298_41 : zP1 298 41 = some (.invokevirtual 372, 297, 1, 11) := zp_r zq_298 rfl
theorem p_298_44 : zP1 298 44 = some (.iconst (-1), 0, 0, 0) := zp_l zq_298 rfl
theorem p_298_45 : zP1 298 45 = some (.ixor, 0, 0, 0) := zp_l zq_298 rfl
theorem p_298_46 : zP1 298 46 = some (.iand, 0, 0, 0) := zp_l zq_298 rfl
theorem p_298_47 : zP1 298 47 = some (.ireturn, 0, 0, 0) := zp_l zq_298 rfl
theorem b_298_0 {x1 : Int} {x2 : Int} : Z e (d + 1) 298 0 [.ref 246, .int (iI x1), .int (iI x2)] [] m = (if (¬ (((wr 0) ≤ (wr x1)) ∧ ((wr x1) ≤ (wr ((m 247 3) - 1))))) ∨ (¬ (((wr 0) ≤ (wr x2)) ∧ ((wr x2) ≤ (wr ((m 247 3) - 1))))) then ri (-1) m else (Z e d 297 0 [.ref 246, .int (iI x1), .retAddr 0, .retAddr 0] [] m).bind (ZK e (d + 1) 298 39 [.ref 246, .int (iI x1), .int (iI x2)] [] m)) := (s_il_1 p_298_0).trans <| (s_const p_298_1).trans <| (s_al_0 p_298_2).trans <| (s_getr p_298_3 hs_246 (by decide) rfl).trans <| (s_const p_298_6).trans <| (s_aldc p_298_7 hs_247 (by decide) wl_3 (by decide)).trans <| (s_const p_298_8).trans <| (s_isub p_298_9).trans <| (s_cs3 (Lc := [.int (iI x1), .int (iI 0), .int (iI ((m 247 3) - 1))]) p_298_10 (by decide) (zM_of zq_199) ⟨Nat.le_of_ble_eq_true rfl, Nat.le_of_ble_eq_true rfl⟩ rfl).trans <| (bd b_199_0).trans <| ri_k.trans <| Eq.trans (Eq.trans (s_beq_t p_298_13 rfl) <| Eq.trans (ite_cg rfl ((s_il_2 p_298_16).trans <| (s_const p_298_17).trans <| (s_al_0 p_298_18).trans <| (s_getr p_298_19 hs_246 (by decide) rfl).trans <| (s_const p_298_22).trans <| (s_aldc p_298_23 hs_247 (by decide) wl_3 (by decide)).trans <| (s_const p_298_24).trans <| (s_isub p_298_25).trans <| (s_cs3 (Lc := [.int (iI x2), .int (iI 0), .int (iI ((m 247 3) - 1))]) p_298_26 (by decide) (zM_of zq_199) ⟨Nat.le_of_ble_eq_true rfl, Nat.le_of_ble_eq_true rfl⟩ rfl).trans <| (bd b_199_0).trans <| ri_k.trans <| (s_bne_f p_298_29 rfl))) co_or) <| ite_cg ((s_const p_298_32).trans <| (s_reti p_298_33 (zM_of zq_298))) ((s_al_0 p_298_34).trans <| (s_il_1 p_298_35).trans <| (s_cv1 (Lc := [.ref 246, .int (iI x1), .retAddr 0, .retAddr 0]) p_298_36 (by decide) (by decide) (zM_of zq_297) ⟨Nat.le_of_ble_eq_true rfl, Nat.le_of_ble_eq_true rfl⟩ rfl (m_rc hs_246 ⟨rfl, by decide⟩)))
theorem b_298_39 {x2 : Int} {xs0 : Int} {u1 : Value} : Z e (d + 1) 298 39 [.ref 246, u1, .int (iI x2)] [.int (iI xs0)] m = (Z e d 297 0 [.ref 246, .int (iI x2), .retAddr 0, .retAddr 0] [] m).bind (ZK e (d + 1) 298 44 [.ref 246, u1, .int (iI x2)] [.int (iI xs0)] m) := (s_al_0 p_298_39).trans <| (s_il_2 p_298_40).trans <| (s_cv1 (Lc := [.ref 246, .int (iI x2), .retAddr 0, .retAddr 0]) p_298_41 (by decide) (by decide) (zM_of zq_297) ⟨Nat.le_of_ble_eq_true rfl, Nat.le_of_ble_eq_true rfl⟩ rfl (m_rc hs_246 ⟨rfl, by decide⟩))
theorem b_298_44 {xs0 : Int} {xs1 : Int} {u0 u1 u2 : Value} : Z e (d + 1) 298 44 [u0, u1, u2] [.int (iI xs0), .int (iI xs1)] m = ri (jand xs1 (jxor xs0 (-1))) m := (s_const p_298_44).trans <| (s_ixor p_298_45).trans <| (s_iand p_298_46).trans <| (s_reti p_298_47 (zM_of zq_298))
-- M.both
theorem p_299_0 : zP1 299 0 = some (.iload_n 1, 0, 0, 0) := zp_l zq_299 rfl
theorem p_299_1 : zP1 299 1 = some (.iconst 0, 0, 0, 0) := zp_l zq_299 rfl
theorem p_299_2 : zP1 299 2 = some (.bipush 16, 0, 0, 0) := zp_l zq_299 rfl
theorem p_299_4 : zP1 299 4 = some (.invokestatic 100, 199, 3, 0) := zp_r zq_299 rfl
theorem p_299_7 : zP1 299 7 = some (.ifCond .eq 13, 0, 0, 0) := zp_l zq_299 rfl
theorem p_299_10 : zP1 299 10 = some (.iload_n 2, 0, 0, 0) := zp_l zq_299 rfl
theorem p_299_11 : zP1 299 11 = some (.iconst 0, 0, 0, 0) := zp_l zq_299 rfl
theorem p_299_12 : zP1 299 12 = some (.bipush 16, 0, 0, 0) := zp_l zq_299 rfl
theorem p_299_14 : zP1 299 14 = some (.invokestatic 100, 199, 3, 0) := zp_r zq_299 rfl
theorem p_299_17 : zP1 299 17 = some (.ifCond .ne 5, 0, 0, 0) := zp_l zq_299 rfl
theorem p_299_20 : zP1 299 20 = some (.iconst (-1), 0, 0, 0) := zp_l zq_299 rfl
theorem p_299_21 : zP1 299 21 = some (.ireturn, 0, 0, 0) := zp_l zq_299 rfl
theorem p_299_22 : zP1 299 22 = some (.aload_n 0, 0, 0, 0) := zp_l zq_299 rfl
theorem p_299_23 : zP1 299 23 = some (.iconst (-1), 0, 0, 0) := zp_l zq_299 rfl
theorem p_299_24 : zP1 299 24 = some (.invokevirtual 372, 297, 1, 11) := zp_r zq_299 rfl
theorem p_299_27 : zP1 299 27 = some (.istore_n 3, 0, 0, 0) := zp_l zq_299 rfl
theorem p_299_28 : zP1 299 28 = some (.iconst 0, 0, 0, 0) := zp_l zq_299 rfl
theorem p_299_29 : zP1 299 29 = some (.istore 4, 0, 0, 0) := zp_l zq_299 rfl
theorem p_299_31 : zP1 299 31 = some (.iconst 0, 0, 0, 0) := zp_l zq_299 rfl
theorem p_299_32 : zP1 299 32 = some (.istore 5, 0, 0, 0) := zp_l zq_299 rfl
theorem p_299_34 : zP1 299 34 = some (.iload 5, 0, 0, 0) := zp_l zq_299 rfl
theorem p_299_36 : zP1 299 36 = some (.aload_n 0, 0, 0, 0) := zp_l zq_299 rfl
theorem p_299_37 : zP1 299 37 = some (.getfield 9, 11, 0, 0) := zp_r zq_299 rfl
theorem p_299_40 : zP1 299 40 = some (.iconst 1, 0, 0, 0) := zp_l zq_299 rfl
theorem p_299_41 : zP1 299 41 = some (.iaload, 0, 0, 0) := zp_l zq_299 rfl
theorem p_299_42 : zP1 299 42 = some (.if_icmp .ge 42, 0, 0, 0) := zp_l zq_299 rfl
theorem p_299_45 : zP1 299 45 = some (.iload 4, 0, 0, 0) := zp_l zq_299 rfl
theorem p_299_47 : zP1 299 47 = some (.aload_n 0, 0, 0, 0) := zp_l zq_299 rfl
theorem p_299_48 : zP1 299 48 = some (.iload 5, 0, 0, 0) := zp_l zq_299 rfl
theorem p_299_50 : zP1 299 50 = some (.invokevirtual 340, 273, 1, 11) := zp_r zq_299 rfl
theorem p_299_53 : zP1 299 53 = some (.ifCond .ne 21, 0, 0, 0) := zp_l zq_299 rfl
theorem p_299_56 : zP1 299 56 = some (.aload_n 0, 0, 0, 0) := zp_l zq_299 rfl
theorem p_299_57 : zP1 299 57 = some (.iload 5, 0, 0, 0) := zp_l zq_299 rfl
theorem p_299_59 : zP1 299 59 = some (.bipush 9, 0, 0, 0) := zp_l zq_299 rfl
theorem p_299_61 : zP1 299 61 = some (.invokevirtual 375, 216, 2, 11) := zp_r zq_299 rfl
theorem p_299_64 : zP1 299 64 = some (.ifCond .le 10, 0, 0, 0) := zp_l zq_299 rfl
theorem p_299_67 : zP1 299 67 = some (.iconst 1, 0, 0, 0) := zp_l zq_299 rfl
theorem p_299_68 : zP1 299 68 = some (.iload 5, 0, 0, 0) := zp_l zq_299 rfl
theorem p_299_70 : zP1 299 70 = some (.ishl, 0, 0, 0) := zp_l zq_299 rfl
theorem p_299_71 : zP1 299 71 = some (.goto 4, 0, 0, 0) := zp_l zq_299 rfl
theorem p_299_74 : zP1 299 74 = some (.iconst 0, 0, 0, 0) := zp_l zq_299 rfl
theorem p_299_75 : zP1 299 75 = some (.ior, 0, 0, 0) := zp_l zq_299 rfl
theorem p_299_76 : zP1 299 76 = some (.istore 4, 0, 0, 0) := zp_l zq_299 rfl
theorem p_299_78 : zP1 299 78 = some (.iinc 5 1, 0, 0, 0) := zp_l zq_299 rfl
theorem p_299_81 : zP1 299 81 = some (.goto (-47), 0, 0, 0) := zp_l zq_299 rfl
theorem p_299_84 : zP1 299 84 = some (.bipush (-3), 0, 0, 0) := zp_l zq_299 rfl
theorem p_299_86 : zP1 299 86 = some (.istore 5, 0, 0, 0) := zp_l zq_299 rfl
theorem p_299_88 : zP1 299 88 = some (.iconst 0, 0, 0, 0) := zp_l zq_299 rfl
theorem p_299_89 : zP1 299 89 = some (.istore 6, 0, 0, 0) := zp_l zq_299 rfl
theorem p_299_91 : zP1 299 91 = some (.iload 6, 0, 0, 0) := zp_l zq_299 rfl
theorem p_299_93 : zP1 299 93 = some (.bipush 18, 0, 0, 0) := zp_l zq_299 rfl
theorem p_299_95 : zP1 299 95 = some (.if_icmp .gt 63, 0, 0, 0) := zp_l zq_299 rfl
theorem p_299_98 : zP1 299 98 = some (.aload_n 0, 0, 0, 0) := zp_l zq_299 rfl
theorem p_299_99 : zP1 299 99 = some (.iload 6, 0, 0, 0) := zp_l zq_299 rfl
theorem p_299_101 : zP1 299 101 = some (.putfield 41, 11, 14, 0) := zp_r zq_299 rfl
theorem p_299_104 : zP1 299 104 = some (.aload_n 0, 0, 0, 0) := zp_l zq_299 rfl
theorem p_299_105 : zP1 299 105 = some (.iconst (-1), 0, 0, 0) := zp_l zq_299 rfl
theorem p_299_106 : zP1 299 106 = some (.invokevirtual 372, 297, 1, 11) := zp_r zq_299 rfl
theorem p_299_109 : zP1 299 109 = some (.istore 7, 0, 0, 0) := zp_l zq_299 rfl
theorem p_299_111 : zP1 299 111 = some (.aload_n 0, 0, 0, 0) := zp_l zq_299 rfl
theorem p_299_112 : zP1 299 112 = some (.iconst (-1), 0, 0, 0) := zp_l zq_299 rfl
theorem p_299_113 : zP1 299 113 = some (.putfield 41, 11, 14, 0) := zp_r zq_299 rfl
theorem p_299_116 : zP1 299 116 = some (.iload_n 3, 0, 0, 0) := zp_l zq_299 rfl
theorem p_299_117 : zP1 299 117 = some (.iload 7, 0, 0, 0) := zp_l zq_299 rfl
theorem p_299_119 : zP1 299 119 = some (.iconst (-1), 0, 0, 0) := zp_l zq_299 rfl
theorem p_299_120 : zP1 299 120 = some (.ixor, 0, 0, 0) := zp_l zq_299 rfl
theorem p_299_121 : zP1 299 121 = some (.iand, 0, 0, 0) := zp_l zq_299 rfl
theorem p_299_122 : zP1 299 122 = some (.invokestatic 369, 207, 1, 0) := zp_r zq_299 rfl
theorem p_299_125 : zP1 299 125 = some (.iload_n 1, 0, 0, 0) := zp_l zq_299 rfl
theorem p_299_126 : zP1 299 126 = some (.if_icmp .gt 22, 0, 0, 0) := zp_l zq_299 rfl
theorem p_299_129 : zP1 299 129 = some (.iload 4, 0, 0, 0) := zp_l zq_299 rfl
theorem p_299_131 : zP1 299 131 = some (.iload 7, 0, 0, 0) := zp_l zq_299 rfl
theorem p_299_133 : zP1 299 133 = some (.iconst (-1), 0, 0, 0) := zp_l zq_299 rfl
theorem p_299_134 : zP1 299 134 = some (.ixor, 0, 0, 0) := zp_l zq_299 rfl
theorem p_299_135 : zP1 299 135 = some (.iand, 0, 0, 0) := zp_l zq_299 rfl
theorem p_299_136 : zP1 299 136 = some (.invokestatic 369, 207, 1, 0) := zp_r zq_299 rfl
theorem p_299_139 : zP1 299 139 = some (.iload_n 2, 0, 0, 0) := zp_l zq_299 rfl
theorem p_299_140 : zP1 299 140 = some (.if_icmp .lt 8, 0, 0, 0) := zp_l zq_299 rfl
theorem p_299_143 : zP1 299 143 = some (.iload 6, 0, 0, 0) := zp_l zq_299 rfl
theorem p_299_145 : zP1 299 145 = some (.goto 5, 0, 0, 0) := zp_l zq_299 rfl
theorem p_299_148 : zP1 299 148 = some (.iload 5, 0, 0, 0) := zp_l zq_299 rfl
theorem p_299_150 : zP1 299 150 = some (.istore 5, 0, 0, 0) := zp_l zq_299 rfl
theorem p_299_152 : zP1 299 152 = some (.iinc 6 1, 0, 0, 0) := zp_l zq_299 rfl
theorem p_299_155 : zP1 299 155 = some (.goto (-64), 0, 0, 0) := zp_l zq_299 rfl
theorem p_299_158 : zP1 299 158 = some (.iload 5, 0, 0, 0) := zp_l zq_299 rfl
theorem p_299_160 : zP1 299 160 = some (.ireturn, 0, 0, 0) := zp_l zq_299 rfl
theorem b_299_0 {x1 : Int} {x2 : Int} : Z e (d + 2) 299 0 [.ref 246, .int (iI x1), .int (iI x2), .retAddr 0, .retAddr 0, .retAddr 0, .retAddr 0, .retAddr 0] [] m = (if (¬ (((wr 0) ≤ (wr x1)) ∧ ((wr x1) ≤ (wr 16)))) ∨ (¬ (((wr 0) ≤ (wr x2)) ∧ ((wr x2) ≤ (wr 16)))) then ri (-1) m else (Z e (d + 1) 297 0 [.ref 246, .int (iI (-1)), .retAddr 0, .retAddr 0] [] m).bind (ZK e (d + 2) 299 27 [.ref 246, .int (iI x1), .int (iI x2), .retAddr 0, .retAddr 0, .retAddr 0, .retAddr 0, .retAddr 0] [] m)) := (s_il_1 p_299_0).trans <| (s_const p_299_1).trans <| (s_bip p_299_2 rfl).trans <| (s_cs3 (Lc := [.int (iI x1), .int (iI 0), .int (iI 16)]) p_299_4 (by decide) (zM_of zq_199) ⟨Nat.le_of_ble_eq_true rfl, Nat.le_of_ble_eq_true rfl⟩ rfl).trans <| (bd b_199_0).trans <| ri_k.trans <| Eq.trans (Eq.trans (s_beq_t p_299_7 rfl) <| Eq.trans (ite_cg rfl ((s_il_2 p_299_10).trans <| (s_const p_299_11).trans <| (s_bip p_299_12 rfl).trans <| (s_cs3 (Lc := [.int (iI x2), .int (iI 0), .int (iI 16)]) p_299_14 (by decide) (zM_of zq_199) ⟨Nat.le_of_ble_eq_true rfl, Nat.le_of_ble_eq_true rfl⟩ rfl).trans <| (bd b_199_0).trans <| ri_k.trans <| (s_bne_f p_299_17 rfl))) co_or) <| ite_cg ((s_const p_299_20).trans <| (s_reti p_299_21 (zM_of zq_299))) ((s_al_0 p_299_22).trans <| (s_const p_299_23).trans <| (s_cv1 (Lc := [.ref 246, .int (iI (-1)), .retAddr 0, .retAddr 0]) p_299_24 (by decide) (by decide) (zM_of zq_297) ⟨Nat.le_of_ble_eq_true rfl, Nat.le_of_ble_eq_true rfl⟩ rfl (m_rc hs_246 ⟨rfl, by decide⟩)))
theorem b_299_34 {x1 : Int} {x2 : Int} {x3 : Int} {x4 : Int} {x5 : Int} {u6 u7 : Value} : Z e (d + 2) 299 34 [.ref 246, .int (iI x1), .int (iI x2), .int (iI x3), .int (iI x4), .int (iI x5), u6, u7] [] m = (if (wr x5) < (wr (m 247 1)) then ck (0 ≤ (wr ((110 + (9 * x5)) + 2)) ∧ (wr ((110 + (9 * x5)) + 2)) < 2737) ((if ¬ (5 ≤ (wr (m 247 (wr ((110 + (9 * x5)) + 2))))) then (Z e (d + 1) 216 0 [.ref 246, .int (iI x5), .int (iI 9), .retAddr 0, .retAddr 0] [] m).bind (ZK e (d + 2) 299 64 [.ref 246, .int (iI x1), .int (iI x2), .int (iI x3), .int (iI x4), .int (iI x5), u6, u7] [.int (iI x4)] m) else Z e (d + 2) 299 34 [.ref 246, .int (iI x1), .int (iI x2), .int (iI x3), .int (iI (jor x4 0)), .int (iI (x5 + 1)), u6, u7] [] m)) else Z e (d + 2) 299 91 [.ref 246, .int (iI x1), .int (iI x2), .int (iI x3), .int (iI x4), .int (iI (-3)), .int (iI 0), u7] [] m) := (s_il_5 p_299_34).trans <| (s_al_0 p_299_36).trans <| (s_getr p_299_37 hs_246 (by decide) rfl).trans <| (s_const p_299_40).trans <| (s_aldc p_299_41 hs_247 (by decide) wl_1 (by decide)).trans <| Eq.trans ((s_c_ge_f p_299_42 rfl rfl rfl)) <| ite_cg ((s_il_4 p_299_45).trans <| (s_al_0 p_299_47).trans <| (s_il_5 p_299_48).trans <| (s_cv1 (Lc := [.ref 246, .int (iI x5)]) p_299_50 (by decide) (by decide) (zM_of zq_273) ⟨Nat.le_of_ble_eq_true rfl, Nat.le_of_ble_eq_true rfl⟩ rfl (m_rc hs_246 ⟨rfl, by decide⟩)).trans <| (bd b_273_0).trans <| ck_bind.trans <| ck_cg fun _ => ri_k.trans <| Eq.trans ((s_bne_f p_299_53 rfl)) <| ite_cg ((s_al_0 p_299_56).trans <| (s_il_5 p_299_57).trans <| (s_bip p_299_59 rfl).trans <| (s_cv2 (Lc := [.ref 246, .int (iI x5), .int (iI 9), .retAddr 0, .retAddr 0]) p_299_61 (by decide) (by decide) (zM_of zq_216) ⟨Nat.le_of_ble_eq_true rfl, Nat.le_of_ble_eq_true rfl⟩ rfl (m_rc hs_246 ⟨rfl, by decide⟩))) ((s_const p_299_74).trans <| (s_ior p_299_75).trans <| (s_is_4 cat_i p_299_76).trans <| (s_inc_5 cat_i p_299_78).trans <| (s_goto p_299_81 rfl).trans <| rfl)) ((s_bip p_299_84 rfl).trans <| (s_is_5 cat_i p_299_86).trans <| (s_const p_299_88).trans <| (s_is_6 cat_i p_299_89).trans <| rfl)
theorem b_299_91 {x1 : Int} {x2 : Int} {x3 : Int} {x4 : Int} {x5 : Int} {x6 : Int} {u7 : Value} : Z e (d + 2) 299 91 [.ref 246, .int (iI x1), .int (iI x2), .int (iI x3), .int (iI x4), .int (iI x5), .int (iI x6), u7] [] m = (if (wr x6) ≤ 18 then (Z e (d + 1) 297 0 [.ref 246, .int (iI (-1)), .retAddr 0, .retAddr 0] [] (um m 246 14 x6)).bind (ZK e (d + 2) 299 109 [.ref 246, .int (iI x1), .int (iI x2), .int (iI x3), .int (iI x4), .int (iI x5), .int (iI x6), u7] [] (um m 246 14 x6)) else ri x5 m) := (s_il_6 p_299_91).trans <| (s_bip p_299_93 rfl).trans <| Eq.trans ((s_c_gt_f p_299_95 rfl rfl wl_18)) <| ite_cg ((s_al_0 p_299_98).trans <| (s_il_6 p_299_99).trans <| (s_put p_299_101 hs_246 (by decide) rfl).trans <| (s_al_0 p_299_104).trans <| (s_const p_299_105).trans <| (s_cv1 (Lc := [.ref 246, .int (iI (-1)), .retAddr 0, .retAddr 0]) p_299_106 (by decide) (by decide) (zM_of zq_297) ⟨Nat.le_of_ble_eq_true rfl, Nat.le_of_ble_eq_true rfl⟩ rfl (m_rc hs_246 ⟨rfl, by decide⟩))) ((s_il_5 p_299_158).trans <| (s_reti p_299_160 (zM_of zq_299)))
theorem b_299_27 {x1 : Int} {x2 : Int} {xs0 : Int} {u3 u4 u5 u6 u7 : Value} : Z e (d + 2) 299 27 [.ref 246, .int (iI x1), .int (iI x2), u3, u4, u5, u6, u7] [.int (iI xs0)] m = Z e (d + 2) 299 34 [.ref 246, .int (iI x1), .int (iI x2), .int (iI xs0), .int (iI 0), .int (iI 0), u6, u7] [] m := (s_is_3 cat_i p_299_27).trans <| (s_const p_299_28).trans <| (s_is_4 cat_i p_299_29).trans <| (s_const p_299_31).trans <| (s_is_5 cat_i p_299_32).trans <| rfl
theorem b_299_64 {x1 : Int} {x2 : Int} {x3 : Int} {x5 : Int} {xs0 : Int} {xs1 : Int} {u4 u6 u7 : Value} : Z e (d + 2) 299 64 [.ref 246, .int (iI x1), .int (iI x2), .int (iI x3), u4, .int (iI x5), u6, u7] [.int (iI xs0), .int (iI xs1)] m = Z e (d + 2) 299 34 [.ref 246, .int (iI x1), .int (iI x2), .int (iI x3), .int (iI (jor xs1 (if 0 < (wr xs0) then (jshl 1 x5) else 0))), .int (iI (x5 + 1)), u6, u7] [] m := Eq.trans (Eq.trans ((s_z_le_f p_299_64 rfl rfl)) <| Eq.trans (ite_cg ((s_const p_299_67).trans <| (s_il_5 p_299_68).trans <| (s_ishl p_299_70).trans <| (s_goto p_299_71 rfl).trans <| rfl) ((s_const p_299_74).trans <| rfl)) (phi1 (fun z0 => Z e (d + 2) 299 75 [.ref 246, .int (iI x1), .int (iI x2), .int (iI x3), u4, .int (iI x5), u6, u7] [.int (iI z0), .int (iI xs1)] m))) <| (s_ior p_299_75).trans <| (s_is_4 cat_i p_299_76).trans <| (s_inc_5 cat_i p_299_78).trans <| (s_goto p_299_81 rfl).trans <| rfl
theorem b_299_109 {x1 : Int} {x2 : Int} {x3 : Int} {x4 : Int} {x5 : Int} {x6 : Int} {xs0 : Int} {u7 : Value} : Z e (d + 2) 299 109 [.ref 246, .int (iI x1), .int (iI x2), .int (iI x3), .int (iI x4), .int (iI x5), .int (iI x6), u7] [.int (iI xs0)] m = (Z e (d + 1) 207 0 [.int (iI (jand x3 (jxor xs0 (-1)))), .retAddr 0, .retAddr 0] [] (um m 246 14 (-1))).bind (ZK e (d + 2) 299 125 [.ref 246, .int (iI x1), .int (iI x2), .int (iI x3), .int (iI x4), .int (iI x5), .int (iI x6), .int (iI xs0)] [] (um m 246 14 (-1))) := (s_is_7 cat_i p_299_109).trans <| (s_al_0 p_299_111).trans <| (s_const p_299_112).trans <| (s_put p_299_113 hs_246 (by decide) rfl).trans <| (s_il_3 p_299_116).trans <| (s_il_7 p_299_117).trans <| (s_const p_299_119).trans <| (s_ixor p_299_120).trans <| (s_iand p_299_121).trans <| (s_cs1 (Lc := [.int (iI (jand x3 (jxor xs0 (-1)))), .retAddr 0, .retAddr 0]) p_299_122 (by decide) (zM_of zq_207) ⟨Nat.le_of_ble_eq_true rfl, Nat.le_of_ble_eq_true rfl⟩ rfl)
theorem b_299_125 {x1 : Int} {x2 : Int} {x3 : Int} {x4 : Int} {x5 : Int} {x6 : Int} {x7 : Int} {xs0 : Int} : Z e (d + 2) 299 125 [.ref 246, .int (iI x1), .int (iI x2), .int (iI x3), .int (iI x4), .int (iI x5), .int (iI x6), .int (iI x7)] [.int (iI xs0)] m = (if (wr xs0) ≤ (wr x1) then (Z e (d + 1) 207 0 [.int (iI (jand x4 (jxor x7 (-1)))), .retAddr 0, .retAddr 0] [] m).bind (ZK e (d + 2) 299 139 [.ref 246, .int (iI x1), .int (iI x2), .int (iI x3), .int (iI x4), .int (iI x5), .int (iI x6), .int (iI x7)] [] m) else Z e (d + 2) 299 91 [.ref 246, .int (iI x1), .int (iI x2), .int (iI x3), .int (iI x4), .int (iI x5), .int (iI (x6 + 1)), .int (iI x7)] [] m) := (s_il_1 p_299_125).trans <| Eq.trans ((s_c_gt_f p_299_126 rfl rfl rfl)) <| ite_cg ((s_il_4 p_299_129).trans <| (s_il_7 p_299_131).trans <| (s_const p_299_133).trans <| (s_ixor p_299_134).trans <| (s_iand p_299_135).trans <| (s_cs1 (Lc := [.int (iI (jand x4 (jxor x7 (-1)))), .retAddr 0, .retAddr 0]) p_299_136 (by decide) (zM_of zq_207) ⟨Nat.le_of_ble_eq_true rfl, Nat.le_of_ble_eq_true rfl⟩ rfl)) ((s_il_5 p_299_148).trans <| (s_is_5 cat_i p_299_150).trans <| (s_inc_6 cat_i p_299_152).trans <| (s_goto p_299_155 rfl).trans <| rfl)
theorem b_299_139 {x1 : Int} {x2 : Int} {x3 : Int} {x4 : Int} {x5 : Int} {x6 : Int} {xs0 : Int} {u7 : Value} : Z e (d + 2) 299 139 [.ref 246, .int (iI x1), .int (iI x2), .int (iI x3), .int (iI x4), .int (iI x5), .int (iI x6), u7] [.int (iI xs0)] m = Z e (d + 2) 299 91 [.ref 246, .int (iI x1), .int (iI x2), .int (iI x3), .int (iI x4), .int (iI (if (wr x2) ≤ (wr xs0) then x6 else x5)), .int (iI (x6 + 1)), u7] [] m := (s_il_2 p_299_139).trans <| Eq.trans (Eq.trans ((s_c_lt_f p_299_140 rfl rfl rfl)) <| Eq.trans (ite_cg ((s_il_6 p_299_143).trans <| (s_goto p_299_145 rfl).trans <| rfl) ((s_il_5 p_299_148).trans <| rfl)) (phi1 (fun z0 => Z e (d + 2) 299 150 [.ref 246, .int (iI x1), .int (iI x2), .int (iI x3), .int (iI x4), .int (iI x5), .int (iI x6), u7] [.int (iI z0)] m))) <| (s_is_5 cat_i p_299_150).trans <| (s_inc_6 cat_i p_299_152).trans <| (s_goto p_299_155 rfl).trans <| rfl
-- M.isFour
theorem p_300_0 : zP1 300 0 = some (.iload_n 0, 0, 0, 0) := zp_l zq_300 rfl
theorem p_300_1 : zP1 300 1 = some (.iconst 0, 0, 0, 0) := zp_l zq_300 rfl
theorem p_300_2 : zP1 300 2 = some (.iconst 3, 0, 0, 0) := zp_l zq_300 rfl
theorem p_300_3 : zP1 300 3 = some (.invokestatic 100, 199, 3, 0) := zp_r zq_300 rfl
theorem p_300_6 : zP1 300 6 = some (.ireturn, 0, 0, 0) := zp_l zq_300 rfl
theorem b_300_0 {x0 : Int} : Z e (d + 1) 300 0 [.int (iI x0)] [] m = ri (if ((wr 0) ≤ (wr x0)) ∧ ((wr x0) ≤ (wr 3)) then 1 else 0) m := (s_il_0 p_300_0).trans <| (s_const p_300_1).trans <| (s_const p_300_2).trans <| (s_cs3 (Lc := [.int (iI x0), .int (iI 0), .int (iI 3)]) p_300_3 (by decide) (zM_of zq_199) ⟨Nat.le_of_ble_eq_true rfl, Nat.le_of_ble_eq_true rfl⟩ rfl).trans <| (bd b_199_0).trans <| ri_k.trans <| (s_retb p_300_6 (zM_of zq_300))
-- M.sheet
theorem p_301_0 : zP1 301 0 = some (.iload_n 1, 0, 0, 0) := zp_l zq_301 rfl
theorem p_301_1 : zP1 301 1 = some (.invokestatic 378, 300, 1, 0) := zp_r zq_301 rfl
theorem p_301_4 : zP1 301 4 = some (.ifCond .eq 22, 0, 0, 0) := zp_l zq_301 rfl
theorem p_301_7 : zP1 301 7 = some (.iload_n 2, 0, 0, 0) := zp_l zq_301 rfl
theorem p_301_8 : zP1 301 8 = some (.iconst (-1), 0, 0, 0) := zp_l zq_301 rfl
theorem p_301_9 : zP1 301 9 = some (.iconst 4, 0, 0, 0) := zp_l zq_301 rfl
theorem p_301_10 : zP1 301 10 = some (.invokestatic 100, 199, 3, 0) := zp_r zq_301 rfl
theorem p_301_13 : zP1 301 13 = some (.ifCond .eq 13, 0, 0, 0) := zp_l zq_301 rfl
theorem p_301_16 : zP1 301 16 = some (.iload_n 2, 0, 0, 0) := zp_l zq_301 rfl
theorem p_301_17 : zP1 301 17 = some (.ifCond .lt 11, 0, 0, 0) := zp_l zq_301 rfl
theorem p_301_20 : zP1 301 20 = some (.iload_n 3, 0, 0, 0) := zp_l zq_301 rfl
theorem p_301_21 : zP1 301 21 = some (.bipush 40, 0, 0, 0) := zp_l zq_301 rfl
theorem p_301_23 : zP1 301 23 = some (.if_icmp .le 5, 0, 0, 0) := zp_l zq_301 rfl
theorem p_301_26 : zP1 301 26 = some (.iconst (-1), 0, 0, 0) := zp_l zq_301 rfl
theorem p_301_27 : zP1 301 27 = some (.ireturn, 0, 0, 0) := zp_l zq_301 rfl
theorem p_301_28 : zP1 301 28 = some (.iload_n 2, 0, 0, 0) := zp_l zq_301 rfl
theorem p_301_29 : zP1 301 29 = some (.ifCond .lt 10, 0, 0, 0) := zp_l zq_301 rfl
theorem p_301_32 : zP1 301 32 = some (.iload_n 3, 0, 0, 0) := zp_l zq_301 rfl
theorem p_301_33 : zP1 301 33 = some (.ifCond .ge 6, 0, 0, 0) := zp_l zq_301 rfl
theorem p_301_36 : zP1 301 36 = some (.bipush (-14), 0, 0, 0) := zp_l zq_301 rfl
theorem p_301_38 : zP1 301 38 = some (.ireturn, 0, 0, 0) := zp_l zq_301 rfl
theorem p_301_39 : zP1 301 39 = some (.aload_n 0, 0, 0, 0) := zp_l zq_301 rfl
theorem p_301_40 : zP1 301 40 = some (.getfield 79, 11, 28, 0) := zp_r zq_301 rfl
theorem p_301_43 : zP1 301 43 = some (.iload_n 1, 0, 0, 0) := zp_l zq_301 rfl
theorem p_301_44 : zP1 301 44 = some (.iload_n 2, 0, 0, 0) := zp_l zq_301 rfl
theorem p_301_45 : zP1 301 45 = some (.iastore, 0, 0, 0) := zp_l zq_301 rfl
theorem p_301_46 : zP1 301 46 = some (.aload_n 0, 0, 0, 0) := zp_l zq_301 rfl
theorem p_301_47 : zP1 301 47 = some (.getfield 82, 11, 29, 0) := zp_r zq_301 rfl
theorem p_301_50 : zP1 301 50 = some (.iload_n 1, 0, 0, 0) := zp_l zq_301 rfl
theorem p_301_51 : zP1 301 51 = some (.iload_n 2, 0, 0, 0) := zp_l zq_301 rfl
theorem p_301_52 : zP1 301 52 = some (.ifCond .ge 7, 0, 0, 0) := zp_l zq_301 rfl
theorem p_301_55 : zP1 301 55 = some (.iconst 0, 0, 0, 0) := zp_l zq_301 rfl
theorem p_301_56 : zP1 301 56 = some (.goto 4, 0, 0, 0) := zp_l zq_301 rfl
theorem p_301_59 : zP1 301 59 = some (.iload_n 3, 0, 0, 0) := zp_l zq_301 rfl
theorem p_301_60 : zP1 301 60 = some (.iastore, 0, 0, 0) := zp_l zq_301 rfl
theorem p_301_61 : zP1 301 61 = some (.iconst 0, 0, 0, 0) := zp_l zq_301 rfl
theorem p_301_62 : zP1 301 62 = some (.istore 4, 0, 0, 0) := zp_l zq_301 rfl
theorem p_301_64 : zP1 301 64 = some (.iload 4, 0, 0, 0) := zp_l zq_301 rfl
theorem p_301_66 : zP1 301 66 = some (.bipush 40, 0, 0, 0) := zp_l zq_301 rfl
theorem p_301_68 : zP1 301 68 = some (.if_icmp .ge 22, 0, 0, 0) := zp_l zq_301 rfl
theorem p_301_71 : zP1 301 71 = some (.aload_n 0, 0, 0, 0) := zp_l zq_301 rfl
theorem p_301_72 : zP1 301 72 = some (.getfield 85, 11, 30, 0) := zp_r zq_301 rfl
theorem p_301_75 : zP1 301 75 = some (.bipush 40, 0, 0, 0) := zp_l zq_301 rfl
theorem p_301_77 : zP1 301 77 = some (.iload_n 1, 0, 0, 0) := zp_l zq_301 rfl
theorem p_301_78 : zP1 301 78 = some (.imul, 0, 0, 0) := zp_l zq_301 rfl
theorem p_301_79 : zP1 301 79 = some (.iload 4, 0, 0, 0) := zp_l zq_301 rfl
theorem p_301_81 : zP1 301 81 = some (.iadd, 0, 0, 0) := zp_l zq_301 rfl
theorem p_301_82 : zP1 301 82 = some (.iconst 0, 0, 0, 0) := zp_l zq_301 rfl
theorem p_301_83 : zP1 301 83 = some (.iastore, 0, 0, 0) := zp_l zq_301 rfl
theorem p_301_84 : zP1 301 84 = some (.iinc 4 1, 0, 0, 0) := zp_l zq_301 rfl
theorem p_301_87 : zP1 301 87 = some (.goto (-23), 0, 0, 0) := zp_l zq_301 rfl
theorem p_301_90 : zP1 301 90 = some (.iconst 1, 0, 0, 0) := zp_l zq_301 rfl
theorem p_301_91 : zP1 301 91 = some (.ireturn, 0, 0, 0) := zp_l zq_301 rfl
theorem b_301_0 {x1 : Int} {x2 : Int} {x3 : Int} : Z e (d + 2) 301 0 [.ref 246, .int (iI x1), .int (iI x2), .int (iI x3), .retAddr 0] [] m = (if (¬ (((wr 0) ≤ (wr x1)) ∧ ((wr x1) ≤ (wr 3)))) ∨ ((¬ (((wr (-1)) ≤ (wr x2)) ∧ ((wr x2) ≤ (wr 4)))) ∨ ((0 ≤ (wr x2)) ∧ (40 < (wr x3)))) then ri (-1) m else (if (0 ≤ (wr x2)) ∧ ((wr x3) < 0) then ri (-14) m else ck (0 ≤ (wr x1) ∧ (wr x1) < 4) (ck (0 ≤ (wr x1) ∧ (wr x1) < 4) (Z e (d + 2) 301 64 [.ref 246, .int (iI x1), .int (iI x2), .int (iI x3), .int (iI 0)] [] (um (um m 261 (wr x1) x2) 262 (wr x1) (if (wr x2) < 0 then 0 else x3)))))) := (s_il_1 p_301_0).trans <| (s_cs1 (Lc := [.int (iI x1)]) p_301_1 (by decide) (zM_of zq_300) ⟨Nat.le_of_ble_eq_true rfl, Nat.le_of_ble_eq_true rfl⟩ rfl).trans <| (bd b_300_0).trans <| ri_k.trans <| Eq.trans (Eq.trans (s_beq_t p_301_4 rfl) <| Eq.trans (ite_cg rfl ((s_il_2 p_301_7).trans <| (s_const p_301_8).trans <| (s_const p_301_9).trans <| (s_cs3 (Lc := [.int (iI x2), .int (iI (-1)), .int (iI 4)]) p_301_10 (by decide) (zM_of zq_199) ⟨Nat.le_of_ble_eq_true rfl, Nat.le_of_ble_eq_true rfl⟩ rfl).trans <| (bd b_199_0).trans <| ri_k.trans <| Eq.trans (s_beq_t p_301_13 rfl) <| Eq.trans (ite_cg rfl ((s_il_2 p_301_16).trans <| Eq.trans (s_z_lt_f p_301_17 rfl rfl) <| Eq.trans (ite_cg ((s_il_3 p_301_20).trans <| (s_bip p_301_21 rfl).trans <| (s_c_le_f p_301_23 rfl rfl wl_40)) rfl) co_and)) co_or)) co_or) <| ite_cg ((s_const p_301_26).trans <| (s_reti p_301_27 (zM_of zq_301))) ((s_il_2 p_301_28).trans <| Eq.trans (Eq.trans (s_z_lt_f p_301_29 rfl rfl) <| Eq.trans (ite_cg ((s_il_3 p_301_32).trans <| (s_z_ge_f p_301_33 rfl rfl)) rfl) co_and) <| ite_cg ((s_bip p_301_36 rfl).trans <| (s_reti p_301_38 (zM_of zq_301))) ((s_al_0 p_301_39).trans <| (s_getr p_301_40 hs_246 (by decide) rfl).trans <| (s_il_1 p_301_43).trans <| (s_il_2 p_301_44).trans <| (s_ast 4 p_301_45 hs_261 rfl).trans <| ck_cg fun k1 => (s_al_0 p_301_46).trans <| (s_getr p_301_47 hs_246 (by decide) rfl).trans <| (s_il_1 p_301_50).trans <| (s_il_2 p_301_51).trans <| Eq.trans (Eq.trans ((s_z_ge_f p_301_52 rfl rfl)) <| Eq.trans (ite_cg ((s_const p_301_55).trans <| (s_goto p_301_56 rfl).trans <| rfl) ((s_il_3 p_301_59).trans <| rfl)) (phi1 (fun z0 => Z e (d + 2) 301 60 [.ref 246, .int (iI x1), .int (iI x2), .int (iI x3), .retAddr 0] [.int (iI z0), .int (iI x1), .ref 262] (um m 261 (wr x1) x2)))) <| (s_ast 4 p_301_60 hs_262 rfl).trans <| ck_cg fun k2 => (s_const p_301_61).trans <| (s_is_4 cat_i p_301_62).trans <| rfl))
theorem b_301_64 {x1 : Int} {x4 : Int} {u2 u3 : Value} (hu3 : u3.category = 1) : Z e (d + 2) 301 64 [.ref 246, .int (iI x1), u2, u3, .int (iI x4)] [] m = (if (wr x4) < 40 then ck (0 ≤ (wr ((40 * x1) + x4)) ∧ (wr ((40 * x1) + x4)) < 160) (Z e (d + 2) 301 64 [.ref 246, .int (iI x1), u2, u3, .int (iI (x4 + 1))] [] (um m 263 (wr ((40 * x1) + x4)) 0)) else ri 1 m) := (s_il_4 p_301_64).trans <| (s_bip p_301_66 rfl).trans <| Eq.trans ((s_c_ge_f p_301_68 rfl rfl wl_40)) <| ite_cg ((s_al_0 p_301_71).trans <| (s_getr p_301_72 hs_246 (by decide) rfl).trans <| (s_bip p_301_75 rfl).trans <| (s_il_1 p_301_77).trans <| (s_imul p_301_78).trans <| (s_il_4 p_301_79).trans <| (s_iadd p_301_81).trans <| (s_const p_301_82).trans <| (s_ast 160 p_301_83 hs_263 rfl).trans <| ck_cg fun k1 => (s_inc_4 hu3 p_301_84).trans <| (s_goto p_301_87 rfl).trans <| rfl) ((s_const p_301_90).trans <| (s_reti p_301_91 (zM_of zq_301)))
-- M.put
theorem p_302_0 : zP1 302 0 = some (.iload_n 1, 0, 0, 0) := zp_l zq_302 rfl
theorem p_302_1 : zP1 302 1 = some (.invokestatic 378, 300, 1, 0) := zp_r zq_302 rfl
theorem p_302_4 : zP1 302 4 = some (.ifCond .ne 5, 0, 0, 0) := zp_l zq_302 rfl
theorem p_302_7 : zP1 302 7 = some (.iconst (-1), 0, 0, 0) := zp_l zq_302 rfl
theorem p_302_8 : zP1 302 8 = some (.ireturn, 0, 0, 0) := zp_l zq_302 rfl
theorem p_302_9 : zP1 302 9 = some (.aload_n 0, 0, 0, 0) := zp_l zq_302 rfl
theorem p_302_10 : zP1 302 10 = some (.getfield 79, 11, 28, 0) := zp_r zq_302 rfl
theorem p_302_13 : zP1 302 13 = some (.iload_n 1, 0, 0, 0) := zp_l zq_302 rfl
theorem p_302_14 : zP1 302 14 = some (.iaload, 0, 0, 0) := zp_l zq_302 rfl
theorem p_302_15 : zP1 302 15 = some (.ifCond .ge 6, 0, 0, 0) := zp_l zq_302 rfl
theorem p_302_18 : zP1 302 18 = some (.bipush (-11), 0, 0, 0) := zp_l zq_302 rfl
theorem p_302_20 : zP1 302 20 = some (.ireturn, 0, 0, 0) := zp_l zq_302 rfl
theorem p_302_21 : zP1 302 21 = some (.iload_n 2, 0, 0, 0) := zp_l zq_302 rfl
theorem p_302_22 : zP1 302 22 = some (.iconst 0, 0, 0, 0) := zp_l zq_302 rfl
theorem p_302_23 : zP1 302 23 = some (.aload_n 0, 0, 0, 0) := zp_l zq_302 rfl
theorem p_302_24 : zP1 302 24 = some (.getfield 82, 11, 29, 0) := zp_r zq_302 rfl
theorem p_302_27 : zP1 302 27 = some (.iload_n 1, 0, 0, 0) := zp_l zq_302 rfl
theorem p_302_28 : zP1 302 28 = some (.iaload, 0, 0, 0) := zp_l zq_302 rfl
theorem p_302_29 : zP1 302 29 = some (.iconst 1, 0, 0, 0) := zp_l zq_302 rfl
theorem p_302_30 : zP1 302 30 = some (.isub, 0, 0, 0) := zp_l zq_302 rfl
theorem p_302_31 : zP1 302 31 = some (.invokestatic 100, 199, 3, 0) := zp_r zq_302 rfl
theorem p_302_34 : zP1 302 34 = some (.ifCond .ne 6, 0, 0, 0) := zp_l zq_302 rfl
theorem p_302_37 : zP1 302 37 = some (.bipush (-12), 0, 0, 0) := zp_l zq_302 rfl
theorem p_302_39 : zP1 302 39 = some (.ireturn, 0, 0, 0) := zp_l zq_302 rfl
theorem p_302_40 : zP1 302 40 = some (.aload_n 0, 0, 0, 0) := zp_l zq_302 rfl
theorem p_302_41 : zP1 302 41 = some (.getfield 85, 11, 30, 0) := zp_r zq_302 rfl
theorem p_302_44 : zP1 302 44 = some (.bipush 40, 0, 0, 0) := zp_l zq_302 rfl
theorem p_302_46 : zP1 302 46 = some (.iload_n 1, 0, 0, 0) := zp_l zq_302 rfl
theorem p_302_47 : zP1 302 47 = some (.imul, 0, 0, 0) := zp_l zq_302 rfl
theorem p_302_48 : zP1 302 48 = some (.iload_n 2, 0, 0, 0) := zp_l zq_302 rfl
theorem p_302_49 : zP1 302 49 = some (.iadd, 0, 0, 0) := zp_l zq_302 rfl
theorem p_302_50 : zP1 302 50 = some (.aload_n 0, 0, 0, 0) := zp_l zq_302 rfl
theorem p_302_51 : zP1 302 51 = some (.getfield 79, 11, 28, 0) := zp_r zq_302 rfl
theorem p_302_54 : zP1 302 54 = some (.iload_n 1, 0, 0, 0) := zp_l zq_302 rfl
theorem p_302_55 : zP1 302 55 = some (.iaload, 0, 0, 0) := zp_l zq_302 rfl
theorem p_302_56 : zP1 302 56 = some (.ifCond .ne 8, 0, 0, 0) := zp_l zq_302 rfl
theorem p_302_59 : zP1 302 59 = some (.iload_n 3, 0, 0, 0) := zp_l zq_302 rfl
theorem p_302_60 : zP1 302 60 = some (.i2b, 0, 0, 0) := zp_l zq_302 rfl
theorem p_302_61 : zP1 302 61 = some (.goto 41, 0, 0, 0) := zp_l zq_302 rfl
theorem p_302_64 : zP1 302 64 = some (.aload_n 0, 0, 0, 0) := zp_l zq_302 rfl
theorem p_302_65 : zP1 302 65 = some (.getfield 79, 11, 28, 0) := zp_r zq_302 rfl
theorem p_302_68 : zP1 302 68 = some (.iload_n 1, 0, 0, 0) := zp_l zq_302 rfl
theorem p_302_69 : zP1 302 69 = some (.iaload, 0, 0, 0) := zp_l zq_302 rfl
theorem p_302_70 : zP1 302 70 = some (.iconst 1, 0, 0, 0) := zp_l zq_302 rfl
theorem p_302_71 : zP1 302 71 = some (.if_icmp .ne 8, 0, 0, 0) := zp_l zq_302 rfl
theorem p_302_74 : zP1 302 74 = some (.iload_n 3, 0, 0, 0) := zp_l zq_302 rfl
theorem p_302_75 : zP1 302 75 = some (.i2s, 0, 0, 0) := zp_l zq_302 rfl
theorem p_302_76 : zP1 302 76 = some (.goto 26, 0, 0, 0) := zp_l zq_302 rfl
theorem p_302_79 : zP1 302 79 = some (.aload_n 0, 0, 0, 0) := zp_l zq_302 rfl
theorem p_302_80 : zP1 302 80 = some (.getfield 79, 11, 28, 0) := zp_r zq_302 rfl
theorem p_302_83 : zP1 302 83 = some (.iload_n 1, 0, 0, 0) := zp_l zq_302 rfl
theorem p_302_84 : zP1 302 84 = some (.iaload, 0, 0, 0) := zp_l zq_302 rfl
theorem p_302_85 : zP1 302 85 = some (.iconst 4, 0, 0, 0) := zp_l zq_302 rfl
theorem p_302_86 : zP1 302 86 = some (.if_icmp .ne 15, 0, 0, 0) := zp_l zq_302 rfl
theorem p_302_89 : zP1 302 89 = some (.iload_n 3, 0, 0, 0) := zp_l zq_302 rfl
theorem p_302_90 : zP1 302 90 = some (.ifCond .eq 7, 0, 0, 0) := zp_l zq_302 rfl
theorem p_302_93 : zP1 302 93 = some (.iconst 1, 0, 0, 0) := zp_l zq_302 rfl
theorem p_302_94 : zP1 302 94 = some (.goto 8, 0, 0, 0) := zp_l zq_302 rfl
theorem p_302_97 : zP1 302 97 = some (.iconst 0, 0, 0, 0) := zp_l zq_302 rfl
theorem p_302_98 : zP1 302 98 = some (.goto 4, 0, 0, 0) := zp_l zq_302 rfl
theorem p_302_101 : zP1 302 101 = some (.iload_n 3, 0, 0, 0) := zp_l zq_302 rfl
theorem p_302_102 : zP1 302 102 = some (.iastore, 0, 0, 0) := zp_l zq_302 rfl
theorem p_302_103 : zP1 302 103 = some (.iconst 1, 0, 0, 0) := zp_l zq_302 rfl
theorem p_302_104 : zP1 302 104 = some (.ireturn, 0, 0, 0) := zp_l zq_302 rfl
theorem b_302_0 {x1 : Int} {x2 : Int} {x3 : Int} : Z e (d + 2) 302 0 [.ref 246, .int (iI x1), .int (iI x2), .int (iI x3)] [] m = (if ¬ (((wr 0) ≤ (wr x1)) ∧ ((wr x1) ≤ (wr 3))) then ri (-1) m else ck (0 ≤ (wr x1) ∧ (wr x1) < 4) ((if (wr (m 261 (wr x1))) < 0 then ri (-11) m else ck (0 ≤ (wr x1) ∧ (wr x1) < 4) ((if ¬ (((wr 0) ≤ (wr x2)) ∧ ((wr x2) ≤ (wr ((m 262 (wr x1)) - 1)))) then ri (-12) m else ck (0 ≤ (wr x1) ∧ (wr x1) < 4) (ck ((¬ ((wr (m 261 (wr x1))) = 0)) → ((0 ≤ (wr x1) ∧ (wr x1) < 4) ∧ ((¬ ((wr (m 261 (wr x1))) = 1)) → (0 ≤ (wr x1) ∧ (wr x1) < 4)))) (ck (0 ≤ (wr ((40 * x1) + x2)) ∧ (wr ((40 * x1) + x2)) < 160) (ri 1 (um m 263 (wr ((40 * x1) + x2)) (if (wr (m 261 (wr x1))) = 0 then (j8 x3) else (if (wr (m 261 (wr x1))) = 1 then (j16 x3) else (if (wr (m 261 (wr x1))) = 4 then (if ¬ (wr x3) = 0 then 1 else 0) else x3)))))))))))) := (s_il_1 p_302_0).trans <| (s_cs1 (Lc := [.int (iI x1)]) p_302_1 (by decide) (zM_of zq_300) ⟨Nat.le_of_ble_eq_true rfl, Nat.le_of_ble_eq_true rfl⟩ rfl).trans <| (bd b_300_0).trans <| ri_k.trans <| Eq.trans ((s_bne_f p_302_4 rfl)) <| ite_cg ((s_const p_302_7).trans <| (s_reti p_302_8 (zM_of zq_302))) ((s_al_0 p_302_9).trans <| (s_getr p_302_10 hs_246 (by decide) rfl).trans <| (s_il_1 p_302_13).trans <| (s_ald 4 p_302_14 hs_261 rfl (by decide)).trans <| ck_cg fun k1 => Eq.trans ((s_z_ge_f p_302_15 rfl rfl)) <| ite_cg ((s_bip p_302_18 rfl).trans <| (s_reti p_302_20 (zM_of zq_302))) ((s_il_2 p_302_21).trans <| (s_const p_302_22).trans <| (s_al_0 p_302_23).trans <| (s_getr p_302_24 hs_246 (by decide) rfl).trans <| (s_il_1 p_302_27).trans <| (s_ald 4 p_302_28 hs_262 rfl (by decide)).trans <| ck_cg fun k2 => (s_const p_302_29).trans <| (s_isub p_302_30).trans <| (s_cs3 (Lc := [.int (iI x2), .int (iI 0), .int (iI ((m 262 (wr x1)) - 1))]) p_302_31 (by decide) (zM_of zq_199) ⟨Nat.le_of_ble_eq_true rfl, Nat.le_of_ble_eq_true rfl⟩ rfl).trans <| (bd b_199_0).trans <| ri_k.trans <| Eq.trans ((s_bne_f p_302_34 rfl)) <| ite_cg ((s_bip p_302_37 rfl).trans <| (s_reti p_302_39 (zM_of zq_302))) ((s_al_0 p_302_40).trans <| (s_getr p_302_41 hs_246 (by decide) rfl).trans <| (s_bip p_302_44 rfl).trans <| (s_il_1 p_302_46).trans <| (s_imul p_302_47).trans <| (s_il_2 p_302_48).trans <| (s_iadd p_302_49).trans <| (s_al_0 p_302_50).trans <| (s_getr p_302_51 hs_246 (by decide) rfl).trans <| (s_il_1 p_302_54).trans <| (s_ald 4 p_302_55 hs_261 rfl (by decide)).trans <| ck_cg fun k3 => Eq.trans (Eq.trans ((s_z_ne_f p_302_56 rfl rfl)) <| Eq.trans (ite_cg ((s_il_3 p_302_59).trans <| (s_i2b p_302_60).trans <| (s_goto p_302_61 rfl).trans <| rfl) ((s_al_0 p_302_64).trans <| (s_getr p_302_65 hs_246 (by decide) rfl).trans <| (s_il_1 p_302_68).trans <| (s_ald 4 p_302_69 hs_261 rfl (by decide)).trans <| Eq.trans (ck_cg fun k4 => (s_const p_302_70).trans <| Eq.trans (Eq.trans ((s_c_ne_f p_302_71 rfl rfl wl_1)) <| Eq.trans (ite_cg ((s_il_3 p_302_74).trans <| (s_i2s p_302_75).trans <| (s_goto p_302_76 rfl).trans <| rfl) ((s_al_0 p_302_79).trans <| (s_getr p_302_80 hs_246 (by decide) rfl).trans <| (s_il_1 p_302_83).trans <| (s_ald 4 p_302_84 hs_261 rfl (by decide)).trans <| ck_cg fun k5 => (s_const p_302_85).trans <| Eq.trans (Eq.trans ((s_c_ne_f p_302_86 rfl rfl wl_4)) <| Eq.trans (ite_cg ((s_il_3 p_302_89).trans <| Eq.trans (Eq.trans ((s_z_eq_f p_302_90 rfl rfl)) <| Eq.trans (ite_cg ((s_const p_302_93).trans <| (s_goto p_302_94 rfl).trans <| rfl) ((s_const p_302_97).trans <| (s_goto p_302_98 rfl).trans <| rfl)) (phi1 (fun z0 => Z e (d + 2) 302 102 [.ref 246, .int (iI x1), .int (iI x2), .int (iI x3)] [.int (iI z0), .int (iI ((40 * x1) + x2)), .ref 263] m))) <| rfl) ((s_il_3 p_302_101).trans <| rfl)) (phi1 (fun z0 => Z e (d + 2) 302 102 [.ref 246, .int (iI x1), .int (iI x2), .int (iI x3)] [.int (iI z0), .int (iI ((40 * x1) + x2)), .ref 263] m))) <| rfl)) <| Eq.trans ck_b <| ck_cg fun _ => (phi1 (fun z0 => Z e (d + 2) 302 102 [.ref 246, .int (iI x1), .int (iI x2), .int (iI x3)] [.int (iI z0), .int (iI ((40 * x1) + x2)), .ref 263] m))) <| ck_cg fun _ => rfl) ck_ck)) <| Eq.trans ck_b <| ck_cg fun _ => (phi1 (fun z0 => Z e (d + 2) 302 102 [.ref 246, .int (iI x1), .int (iI x2), .int (iI x3)] [.int (iI z0), .int (iI ((40 * x1) + x2)), .ref 263] m))) <| ck_cg fun _ => (s_ast 160 p_302_102 hs_263 rfl).trans <| ck_cg fun k6 => (s_const p_302_103).trans <| (s_reti p_302_104 (zM_of zq_302)))))
-- M.notThere
theorem p_303_0 : zP1 303 0 = some (.aload_n 0, 0, 0, 0) := zp_l zq_303 rfl
theorem p_303_1 : zP1 303 1 = some (.getfield 79, 11, 28, 0) := zp_r zq_303 rfl
theorem p_303_4 : zP1 303 4 = some (.iload_n 1, 0, 0, 0) := zp_l zq_303 rfl
theorem p_303_5 : zP1 303 5 = some (.iaload, 0, 0, 0) := zp_l zq_303 rfl
theorem p_303_6 : zP1 303 6 = some (.ifCond .ge 8, 0, 0, 0) := zp_l zq_303 rfl
theorem p_303_9 : zP1 303 9 = some (.bipush (-11), 0, 0, 0) := zp_l zq_303 rfl
theorem p_303_11 : zP1 303 11 = some (.goto 45, 0, 0, 0) := zp_l zq_303 rfl
theorem p_303_14 : zP1 303 14 = some (.aload_n 0, 0, 0, 0) := zp_l zq_303 rfl
theorem p_303_15 : zP1 303 15 = some (.getfield 79, 11, 28, 0) := zp_r zq_303 rfl
theorem p_303_18 : zP1 303 18 = some (.iload_n 1, 0, 0, 0) := zp_l zq_303 rfl
theorem p_303_19 : zP1 303 19 = some (.iaload, 0, 0, 0) := zp_l zq_303 rfl
theorem p_303_20 : zP1 303 20 = some (.iload_n 2, 0, 0, 0) := zp_l zq_303 rfl
theorem p_303_21 : zP1 303 21 = some (.if_icmp .eq 8, 0, 0, 0) := zp_l zq_303 rfl
theorem p_303_24 : zP1 303 24 = some (.bipush (-13), 0, 0, 0) := zp_l zq_303 rfl
theorem p_303_26 : zP1 303 26 = some (.goto 30, 0, 0, 0) := zp_l zq_303 rfl
theorem p_303_29 : zP1 303 29 = some (.iload_n 3, 0, 0, 0) := zp_l zq_303 rfl
theorem p_303_30 : zP1 303 30 = some (.ifCond .lt 20, 0, 0, 0) := zp_l zq_303 rfl
theorem p_303_33 : zP1 303 33 = some (.iload 4, 0, 0, 0) := zp_l zq_303 rfl
theorem p_303_35 : zP1 303 35 = some (.aload_n 0, 0, 0, 0) := zp_l zq_303 rfl
theorem p_303_36 : zP1 303 36 = some (.getfield 82, 11, 29, 0) := zp_r zq_303 rfl
theorem p_303_39 : zP1 303 39 = some (.iload_n 1, 0, 0, 0) := zp_l zq_303 rfl
theorem p_303_40 : zP1 303 40 = some (.iaload, 0, 0, 0) := zp_l zq_303 rfl
theorem p_303_41 : zP1 303 41 = some (.if_icmp .ge 9, 0, 0, 0) := zp_l zq_303 rfl
theorem p_303_44 : zP1 303 44 = some (.iload 4, 0, 0, 0) := zp_l zq_303 rfl
theorem p_303_46 : zP1 303 46 = some (.iload_n 3, 0, 0, 0) := zp_l zq_303 rfl
theorem p_303_47 : zP1 303 47 = some (.if_icmp .ge 8, 0, 0, 0) := zp_l zq_303 rfl
theorem p_303_50 : zP1 303 50 = some (.bipush (-12), 0, 0, 0) := zp_l zq_303 rfl
theorem p_303_52 : zP1 303 52 = some (.goto 4, 0, 0, 0) := zp_l zq_303 rfl
theorem p_303_55 : zP1 303 55 = some (.iconst 0, 0, 0, 0) := zp_l zq_303 rfl
theorem p_303_56 : zP1 303 56 = some (.ireturn, 0, 0, 0) := zp_l zq_303 rfl
theorem b_303_0 {x1 : Int} {x2 : Int} {x3 : Int} {x4 : Int} : Z e d 303 0 [.ref 246, .int (iI x1), .int (iI x2), .int (iI x3), .int (iI x4)] [] m = ck (0 ≤ (wr x1) ∧ (wr x1) < 4) (ck ((¬ ((wr (m 261 (wr x1))) < 0)) → ((0 ≤ (wr x1) ∧ (wr x1) < 4) ∧ ((¬ (¬ (wr (m 261 (wr x1))) = (wr x2))) → ((¬ ((wr x3) < 0)) → (0 ≤ (wr x1) ∧ (wr x1) < 4))))) (ri (if (wr (m 261 (wr x1))) < 0 then (-11) else (if ¬ (wr (m 261 (wr x1))) = (wr x2) then (-13) else (if ((wr x3) < 0) ∨ (((wr (m 262 (wr x1))) ≤ (wr x4)) ∨ ((wr x4) < (wr x3))) then (-12) else 0))) m)) := (s_al_0 p_303_0).trans <| (s_getr p_303_1 hs_246 (by decide) rfl).trans <| (s_il_1 p_303_4).trans <| (s_ald 4 p_303_5 hs_261 rfl (by decide)).trans <| ck_cg fun k1 => Eq.trans (Eq.trans ((s_z_ge_f p_303_6 rfl rfl)) <| Eq.trans (ite_cg ((s_bip p_303_9 rfl).trans <| (s_goto p_303_11 rfl).trans <| rfl) ((s_al_0 p_303_14).trans <| (s_getr p_303_15 hs_246 (by decide) rfl).trans <| (s_il_1 p_303_18).trans <| (s_ald 4 p_303_19 hs_261 rfl (by decide)).trans <| Eq.trans (ck_cg fun k2 => (s_il_2 p_303_20).trans <| Eq.trans (Eq.trans ((s_c_eq_f p_303_21 rfl rfl rfl)) <| Eq.trans (ite_cg ((s_bip p_303_24 rfl).trans <| (s_goto p_303_26 rfl).trans <| rfl) ((s_il_3 p_303_29).trans <| Eq.trans (Eq.trans (Eq.trans (s_z_lt_t p_303_30 rfl rfl) <| Eq.trans (ite_cg rfl ((s_il_4 p_303_33).trans <| (s_al_0 p_303_35).trans <| (s_getr p_303_36 hs_246 (by decide) rfl).trans <| (s_il_1 p_303_39).trans <| (s_ald 4 p_303_40 hs_262 rfl (by decide)).trans <| ck_cg fun k3 => Eq.trans (s_c_ge_t p_303_41 rfl rfl rfl) <| Eq.trans (ite_cg rfl ((s_il_4 p_303_44).trans <| (s_il_3 p_303_46).trans <| (s_c_ge_f p_303_47 rfl rfl rfl))) co_or)) <| Eq.trans ck_b <| ck_cg fun _ => co_or) <| ck_cg fun _ => Eq.trans (ite_cg ((s_bip p_303_50 rfl).trans <| (s_goto p_303_52 rfl).trans <| rfl) ((s_const p_303_55).trans <| rfl)) (phi1 (fun z0 => Z e d 303 56 [.ref 246, .int (iI x1), .int (iI x2), .int (iI x3), .int (iI x4)] [.int (iI z0)] m))) <| ck_cg fun _ => rfl)) <| Eq.trans ck_b <| ck_cg fun _ => (phi1 (fun z0 => Z e d 303 56 [.ref 246, .int (iI x1), .int (iI x2), .int (iI x3), .int (iI x4)] [.int (iI z0)] m))) <| ck_cg fun _ => rfl) ck_ck)) <| Eq.trans ck_b <| ck_cg fun _ => (phi1 (fun z0 => Z e d 303 56 [.ref 246, .int (iI x1), .int (iI x2), .int (iI x3), .int (iI x4)] [.int (iI z0)] m))) <| ck_cg fun _ => (s_reti p_303_56 (zM_of zq_303))
-- M.item
theorem p_304_0 : zP1 304 0 = some (.iload_n 1, 0, 0, 0) := zp_l zq_304 rfl
theorem p_304_1 : zP1 304 1 = some (.invokestatic 378, 300, 1, 0) := zp_r zq_304 rfl
theorem p_304_4 : zP1 304 4 = some (.ifCond .eq 12, 0, 0, 0) := zp_l zq_304 rfl
theorem p_304_7 : zP1 304 7 = some (.iload_n 2, 0, 0, 0) := zp_l zq_304 rfl
theorem p_304_8 : zP1 304 8 = some (.iconst 0, 0, 0, 0) := zp_l zq_304 rfl
theorem p_304_9 : zP1 304 9 = some (.iconst 4, 0, 0, 0) := zp_l zq_304 rfl
theorem p_304_10 : zP1 304 10 = some (.invokestatic 100, 199, 3, 0) := zp_r zq_304 rfl
theorem p_304_13 : zP1 304 13 = some (.ifCond .ne 5, 0, 0, 0) := zp_l zq_304 rfl
theorem p_304_16 : zP1 304 16 = some (.iconst (-1), 0, 0, 0) := zp_l zq_304 rfl
theorem p_304_17 : zP1 304 17 = some (.ireturn, 0, 0, 0) := zp_l zq_304 rfl
theorem p_304_18 : zP1 304 18 = some (.aload_n 0, 0, 0, 0) := zp_l zq_304 rfl
theorem p_304_19 : zP1 304 19 = some (.iload_n 1, 0, 0, 0) := zp_l zq_304 rfl
theorem p_304_20 : zP1 304 20 = some (.iload_n 2, 0, 0, 0) := zp_l zq_304 rfl
theorem p_304_21 : zP1 304 21 = some (.iload_n 3, 0, 0, 0) := zp_l zq_304 rfl
theorem p_304_22 : zP1 304 22 = some (.iload_n 3, 0, 0, 0) := zp_l zq_304 rfl
theorem p_304_23 : zP1 304 23 = some (.invokevirtual 381, 303, 4, 11) := zp_r zq_304 rfl
theorem p_304_26 : zP1 304 26 = some (.istore 4, 0, 0, 0) := zp_l zq_304 rfl
theorem p_304_28 : zP1 304 28 = some (.iload 4, 0, 0, 0) := zp_l zq_304 rfl
theorem p_304_30 : zP1 304 30 = some (.ifCond .eq 8, 0, 0, 0) := zp_l zq_304 rfl
theorem p_304_33 : zP1 304 33 = some (.iload 4, 0, 0, 0) := zp_l zq_304 rfl
theorem p_304_35 : zP1 304 35 = some (.goto 14, 0, 0, 0) := zp_l zq_304 rfl
theorem p_304_38 : zP1 304 38 = some (.aload_n 0, 0, 0, 0) := zp_l zq_304 rfl
theorem p_304_39 : zP1 304 39 = some (.getfield 85, 11, 30, 0) := zp_r zq_304 rfl
theorem p_304_42 : zP1 304 42 = some (.bipush 40, 0, 0, 0) := zp_l zq_304 rfl
theorem p_304_44 : zP1 304 44 = some (.iload_n 1, 0, 0, 0) := zp_l zq_304 rfl
theorem p_304_45 : zP1 304 45 = some (.imul, 0, 0, 0) := zp_l zq_304 rfl
theorem p_304_46 : zP1 304 46 = some (.iload_n 3, 0, 0, 0) := zp_l zq_304 rfl
theorem p_304_47 : zP1 304 47 = some (.iadd, 0, 0, 0) := zp_l zq_304 rfl
theorem p_304_48 : zP1 304 48 = some (.iaload, 0, 0, 0) := zp_l zq_304 rfl
theorem p_304_49 : zP1 304 49 = some (.ireturn, 0, 0, 0) := zp_l zq_304 rfl
theorem b_304_0 {x1 : Int} {x2 : Int} {x3 : Int} : Z e (d + 2) 304 0 [.ref 246, .int (iI x1), .int (iI x2), .int (iI x3), .retAddr 0] [] m = (if (¬ (((wr 0) ≤ (wr x1)) ∧ ((wr x1) ≤ (wr 3)))) ∨ (¬ (((wr 0) ≤ (wr x2)) ∧ ((wr x2) ≤ (wr 4)))) then ri (-1) m else ck (0 ≤ (wr x1) ∧ (wr x1) < 4) (ck ((¬ ((wr (m 261 (wr x1))) < 0)) → ((0 ≤ (wr x1) ∧ (wr x1) < 4) ∧ ((¬ (¬ (wr (m 261 (wr x1))) = (wr x2))) → ((¬ ((wr x3) < 0)) → (0 ≤ (wr x1) ∧ (wr x1) < 4))))) (ck ((¬ (¬ (wr (if (wr (m 261 (wr x1))) < 0 then (-11) else (if ¬ (wr (m 261 (wr x1))) = (wr x2) then (-13) else (if ((wr x3) < 0) ∨ (((wr (m 262 (wr x1))) ≤ (wr x3)) ∨ ((wr x3) < (wr x3))) then (-12) else 0)))) = 0)) → (0 ≤ (wr ((40 * x1) + x3)) ∧ (wr ((40 * x1) + x3)) < 160)) (ri (if ¬ (wr (if (wr (m 261 (wr x1))) < 0 then (-11) else (if ¬ (wr (m 261 (wr x1))) = (wr x2) then (-13) else (if ((wr x3) < 0) ∨ (((wr (m 262 (wr x1))) ≤ (wr x3)) ∨ ((wr x3) < (wr x3))) then (-12) else 0)))) = 0 then (if (wr (m 261 (wr x1))) < 0 then (-11) else (if ¬ (wr (m 261 (wr x1))) = (wr x2) then (-13) else (if ((wr x3) < 0) ∨ (((wr (m 262 (wr x1))) ≤ (wr x3)) ∨ ((wr x3) < (wr x3))) then (-12) else 0))) else (m 263 (wr ((40 * x1) + x3)))) m)))) := (s_il_1 p_304_0).trans <| (s_cs1 (Lc := [.int (iI x1)]) p_304_1 (by decide) (zM_of zq_300) ⟨Nat.le_of_ble_eq_true rfl, Nat.le_of_ble_eq_true rfl⟩ rfl).trans <| (bd b_300_0).trans <| ri_k.trans <| Eq.trans (Eq.trans (s_beq_t p_304_4 rfl) <| Eq.trans (ite_cg rfl ((s_il_2 p_304_7).trans <| (s_const p_304_8).trans <| (s_const p_304_9).trans <| (s_cs3 (Lc := [.int (iI x2), .int (iI 0), .int (iI 4)]) p_304_10 (by decide) (zM_of zq_199) ⟨Nat.le_of_ble_eq_true rfl, Nat.le_of_ble_eq_true rfl⟩ rfl).trans <| (bd b_199_0).trans <| ri_k.trans <| (s_bne_f p_304_13 rfl))) co_or) <| ite_cg ((s_const p_304_16).trans <| (s_reti p_304_17 (zM_of zq_304))) ((s_al_0 p_304_18).trans <| (s_il_1 p_304_19).trans <| (s_il_2 p_304_20).trans <| (s_il_3 p_304_21).trans <| (s_il_3 p_304_22).trans <| (s_cv4 (Lc := [.ref 246, .int (iI x1), .int (iI x2), .int (iI x3), .int (iI x3)]) p_304_23 (by decide) (by decide) (zM_of zq_303) ⟨Nat.le_of_ble_eq_true rfl, Nat.le_of_ble_eq_true rfl⟩ rfl (m_rc hs_246 ⟨rfl, by decide⟩)).trans <| (bd b_303_0).trans <| ck_bind.trans <| ck_cg fun _ => ck_bind.trans <| ck_cg fun _ => ri_k.trans <| (s_is_4 cat_i p_304_26).trans <| (s_il_4 p_304_28).trans <| Eq.trans (Eq.trans ((s_z_eq_f p_304_30 rfl rfl)) <| Eq.trans (ite_cg ((s_il_4 p_304_33).trans <| (s_goto p_304_35 rfl).trans <| rfl) ((s_al_0 p_304_38).trans <| (s_getr p_304_39 hs_246 (by decide) rfl).trans <| (s_bip p_304_42 rfl).trans <| (s_il_1 p_304_44).trans <| (s_imul p_304_45).trans <| (s_il_3 p_304_46).trans <| (s_iadd p_304_47).trans <| (s_ald 160 p_304_48 hs_263 rfl (by decide)).trans <| ck_cg fun k1 => rfl)) <| Eq.trans ck_b <| ck_cg fun _ => (phi1 (fun z0 => Z e (d + 2) 304 49 [.ref 246, .int (iI x1), .int (iI x2), .int (iI x3), .int (iI (if (wr (m 261 (wr x1))) < 0 then (-11) else (if ¬ (wr (m 261 (wr x1))) = (wr x2) then (-13) else (if ((wr x3) < 0) ∨ (((wr (m 262 (wr x1))) ≤ (wr x3)) ∨ ((wr x3) < (wr x3))) then (-12) else 0))))] [.int (iI z0)] m))) <| ck_cg fun _ => (s_reti p_304_49 (zM_of zq_304)))
-- M.comes
theorem p_305_0 : zP1 305 0 = some (.iload_n 1, 0, 0, 0) := zp_l zq_305 rfl
theorem p_305_1 : zP1 305 1 = some (.invokestatic 378, 300, 1, 0) := zp_r zq_305 rfl
theorem p_305_4 : zP1 305 4 = some (.ifCond .ne 5, 0, 0, 0) := zp_l zq_305 rfl
theorem p_305_7 : zP1 305 7 = some (.iconst (-1), 0, 0, 0) := zp_l zq_305 rfl
theorem p_305_8 : zP1 305 8 = some (.ireturn, 0, 0, 0) := zp_l zq_305 rfl
theorem p_305_9 : zP1 305 9 = some (.aload_n 0, 0, 0, 0) := zp_l zq_305 rfl
theorem p_305_10 : zP1 305 10 = some (.iload_n 1, 0, 0, 0) := zp_l zq_305 rfl
theorem p_305_11 : zP1 305 11 = some (.iconst 0, 0, 0, 0) := zp_l zq_305 rfl
theorem p_305_12 : zP1 305 12 = some (.iload_n 2, 0, 0, 0) := zp_l zq_305 rfl
theorem p_305_13 : zP1 305 13 = some (.iload_n 2, 0, 0, 0) := zp_l zq_305 rfl
theorem p_305_14 : zP1 305 14 = some (.iconst 3, 0, 0, 0) := zp_l zq_305 rfl
theorem p_305_15 : zP1 305 15 = some (.iadd, 0, 0, 0) := zp_l zq_305 rfl
theorem p_305_16 : zP1 305 16 = some (.invokevirtual 381, 303, 4, 11) := zp_r zq_305 rfl
theorem p_305_19 : zP1 305 19 = some (.istore_n 3, 0, 0, 0) := zp_l zq_305 rfl
theorem p_305_20 : zP1 305 20 = some (.bipush 40, 0, 0, 0) := zp_l zq_305 rfl
theorem p_305_22 : zP1 305 22 = some (.iload_n 1, 0, 0, 0) := zp_l zq_305 rfl
theorem p_305_23 : zP1 305 23 = some (.imul, 0, 0, 0) := zp_l zq_305 rfl
theorem p_305_24 : zP1 305 24 = some (.iload_n 2, 0, 0, 0) := zp_l zq_305 rfl
theorem p_305_25 : zP1 305 25 = some (.iadd, 0, 0, 0) := zp_l zq_305 rfl
theorem p_305_26 : zP1 305 26 = some (.istore 4, 0, 0, 0) := zp_l zq_305 rfl
theorem p_305_28 : zP1 305 28 = some (.iload_n 3, 0, 0, 0) := zp_l zq_305 rfl
theorem p_305_29 : zP1 305 29 = some (.ifCond .eq 7, 0, 0, 0) := zp_l zq_305 rfl
theorem p_305_32 : zP1 305 32 = some (.iload_n 3, 0, 0, 0) := zp_l zq_305 rfl
theorem p_305_33 : zP1 305 33 = some (.goto 41, 0, 0, 0) := zp_l zq_305 rfl
theorem p_305_36 : zP1 305 36 = some (.aload_n 0, 0, 0, 0) := zp_l zq_305 rfl
theorem p_305_37 : zP1 305 37 = some (.aload_n 0, 0, 0, 0) := zp_l zq_305 rfl
theorem p_305_38 : zP1 305 38 = some (.getfield 85, 11, 30, 0) := zp_r zq_305 rfl
theorem p_305_41 : zP1 305 41 = some (.iload 4, 0, 0, 0) := zp_l zq_305 rfl
theorem p_305_43 : zP1 305 43 = some (.iaload, 0, 0, 0) := zp_l zq_305 rfl
theorem p_305_44 : zP1 305 44 = some (.aload_n 0, 0, 0, 0) := zp_l zq_305 rfl
theorem p_305_45 : zP1 305 45 = some (.getfield 85, 11, 30, 0) := zp_r zq_305 rfl
theorem p_305_48 : zP1 305 48 = some (.iload 4, 0, 0, 0) := zp_l zq_305 rfl
theorem p_305_50 : zP1 305 50 = some (.iconst 1, 0, 0, 0) := zp_l zq_305 rfl
theorem p_305_51 : zP1 305 51 = some (.iadd, 0, 0, 0) := zp_l zq_305 rfl
theorem p_305_52 : zP1 305 52 = some (.iaload, 0, 0, 0) := zp_l zq_305 rfl
theorem p_305_53 : zP1 305 53 = some (.aload_n 0, 0, 0, 0) := zp_l zq_305 rfl
theorem p_305_54 : zP1 305 54 = some (.getfield 85, 11, 30, 0) := zp_r zq_305 rfl
theorem p_305_57 : zP1 305 57 = some (.iload 4, 0, 0, 0) := zp_l zq_305 rfl
theorem p_305_59 : zP1 305 59 = some (.iconst 2, 0, 0, 0) := zp_l zq_305 rfl
theorem p_305_60 : zP1 305 60 = some (.iadd, 0, 0, 0) := zp_l zq_305 rfl
theorem p_305_61 : zP1 305 61 = some (.iaload, 0, 0, 0) := zp_l zq_305 rfl
theorem p_305_62 : zP1 305 62 = some (.aload_n 0, 0, 0, 0) := zp_l zq_305 rfl
theorem p_305_63 : zP1 305 63 = some (.getfield 85, 11, 30, 0) := zp_r zq_305 rfl
theorem p_305_66 : zP1 305 66 = some (.iload 4, 0, 0, 0) := zp_l zq_305 rfl
theorem p_305_68 : zP1 305 68 = some (.iconst 3, 0, 0, 0) := zp_l zq_305 rfl
theorem p_305_69 : zP1 305 69 = some (.iadd, 0, 0, 0) := zp_l zq_305 rfl
theorem p_305_70 : zP1 305 70 = some (.iaload, 0, 0, 0) := zp_l zq_305 rfl
theorem p_305_71 : zP1 305 71 = some (.invokevirtual 384, 276, 4, 11) := zp_r zq_305 rfl
theorem p_305_74 : zP1 305 74 = some (.ireturn, 0, 0, 0) := zp_l zq_305 rfl
theorem b_305_0 {x1 : Int} {x2 : Int} : Z e (d + 2) 305 0 [.ref 246, .int (iI x1), .int (iI x2), .retAddr 0, .retAddr 0] [] m = (if ¬ (((wr 0) ≤ (wr x1)) ∧ ((wr x1) ≤ (wr 3))) then ri (-1) m else ck (0 ≤ (wr x1) ∧ (wr x1) < 4) (ck ((¬ ((wr (m 261 (wr x1))) < 0)) → ((0 ≤ (wr x1) ∧ (wr x1) < 4) ∧ ((¬ (¬ (wr (m 261 (wr x1))) = (wr 0))) → ((¬ ((wr x2) < 0)) → (0 ≤ (wr x1) ∧ (wr x1) < 4))))) ((if ¬ (wr (if (wr (m 261 (wr x1))) < 0 then (-11) else (if ¬ (wr (m 261 (wr x1))) = (wr 0) then (-13) else (if ((wr x2) < 0) ∨ (((wr (m 262 (wr x1))) ≤ (wr (x2 + 3))) ∨ ((wr (x2 + 3)) < (wr x2))) then (-12) else 0)))) = 0 then ri (if (wr (m 261 (wr x1))) < 0 then (-11) else (if ¬ (wr (m 261 (wr x1))) = (wr 0) then (-13) else (if ((wr x2) < 0) ∨ (((wr (m 262 (wr x1))) ≤ (wr (x2 + 3))) ∨ ((wr (x2 + 3)) < (wr x2))) then (-12) else 0))) m else ck (0 ≤ (wr ((40 * x1) + x2)) ∧ (wr ((40 * x1) + x2)) < 160) (ck (0 ≤ (wr (((40 * x1) + x2) + 1)) ∧ (wr (((40 * x1) + x2) + 1)) < 160) (ck (0 ≤ (wr (((40 * x1) + x2) + 2)) ∧ (wr (((40 * x1) + x2) + 2)) < 160) (ck (0 ≤ (wr (((40 * x1) + x2) + 3)) ∧ (wr (((40 * x1) + x2) + 3)) < 160) ((Z e (d + 1) 276 0 [.ref 246, .int (iI (m 263 (wr ((40 * x1) + x2)))), .int (iI (m 263 (wr (((40 * x1) + x2) + 1)))), .int (iI (m 263 (wr (((40 * x1) + x2) + 2)))), .int (iI (m 263 (wr (((40 * x1) + x2) + 3)))), .retAddr 0] [] m).bind (ZK e (d + 2) 305 74 [.ref 246, .int (iI x1), .int (iI x2), .int (iI (if (wr (m 261 (wr x1))) < 0 then (-11) else (if ¬ (wr (m 261 (wr x1))) = (wr 0) then (-13) else (if ((wr x2) < 0) ∨ (((wr (m 262 (wr x1))) ≤ (wr (x2 + 3))) ∨ ((wr (x2 + 3)) < (wr x2))) then (-12) else 0)))), .int (iI ((40 * x1) + x2))] [] m))))))))) := (s_il_1 p_305_0).trans <| (s_cs1 (Lc := [.int (iI x1)]) p_305_1 (by decide) (zM_of zq_300) ⟨Nat.le_of_ble_eq_true rfl, Nat.le_of_ble_eq_true rfl⟩ rfl).trans <| (bd b_300_0).trans <| ri_k.trans <| Eq.trans ((s_bne_f p_305_4 rfl)) <| ite_cg ((s_const p_305_7).trans <| (s_reti p_305_8 (zM_of zq_305))) ((s_al_0 p_305_9).trans <| (s_il_1 p_305_10).trans <| (s_const p_305_11).trans <| (s_il_2 p_305_12).trans <| (s_il_2 p_305_13).trans <| (s_const p_305_14).trans <| (s_iadd p_305_15).trans <| (s_cv4 (Lc := [.ref 246, .int (iI x1), .int (iI 0), .int (iI x2), .int (iI (x2 + 3))]) p_305_16 (by decide) (by decide) (zM_of zq_303) ⟨Nat.le_of_ble_eq_true rfl, Nat.le_of_ble_eq_true rfl⟩ rfl (m_rc hs_246 ⟨rfl, by decide⟩)).trans <| (bd b_303_0).trans <| ck_bind.trans <| ck_cg fun _ => ck_bind.trans <| ck_cg fun _ => ri_k.trans <| (s_is_3 cat_i p_305_19).trans <| (s_bip p_305_20 rfl).trans <| (s_il_1 p_305_22).trans <| (s_imul p_305_23).trans <| (s_il_2 p_305_24).trans <| (s_iadd p_305_25).trans <| (s_is_4 cat_i p_305_26).trans <| (s_il_3 p_305_28).trans <| Eq.trans ((s_z_eq_f p_305_29 rfl rfl)) <| ite_cg ((s_il_3 p_305_32).trans <| (s_goto p_305_33 rfl).trans <| (s_reti p_305_74 (zM_of zq_305))) ((s_al_0 p_305_36).trans <| (s_al_0 p_305_37).trans <| (s_getr p_305_38 hs_246 (by decide) rfl).trans <| (s_il_4 p_305_41).trans <| (s_ald 160 p_305_43 hs_263 rfl (by decide)).trans <| ck_cg fun k5 => (s_al_0 p_305_44).trans <| (s_getr p_305_45 hs_246 (by decide) rfl).trans <| (s_il_4 p_305_48).trans <| (s_const p_305_50).trans <| (s_iadd p_305_51).trans <| (s_ald 160 p_305_52 hs_263 rfl (by decide)).trans <| ck_cg fun k6 => (s_al_0 p_305_53).trans <| (s_getr p_305_54 hs_246 (by decide) rfl).trans <| (s_il_4 p_305_57).trans <| (s_const p_305_59).trans <| (s_iadd p_305_60).trans <| (s_ald 160 p_305_61 hs_263 rfl (by decide)).trans <| ck_cg fun k7 => (s_al_0 p_305_62).trans <| (s_getr p_305_63 hs_246 (by decide) rfl).trans <| (s_il_4 p_305_66).trans <| (s_const p_305_68).trans <| (s_iadd p_305_69).trans <| (s_ald 160 p_305_70 hs_263 rfl (by decide)).trans <| ck_cg fun k8 => (s_cv4 (Lc := [.ref 246, .int (iI (m 263 (wr ((40 * x1) + x2)))), .int (iI (m 263 (wr (((40 * x1) + x2) + 1)))), .int (iI (m 263 (wr (((40 * x1) + x2) + 2)))), .int (iI (m 263 (wr (((40 * x1) + x2) + 3)))), .retAddr 0]) p_305_71 (by decide) (by decide) (zM_of zq_276) ⟨Nat.le_of_ble_eq_true rfl, Nat.le_of_ble_eq_true rfl⟩ rfl (m_rc hs_246 ⟨rfl, by decide⟩))))
theorem b_305_74 {xs0 : Int} {u0 u1 u2 u3 u4 : Value} : Z e (d + 2) 305 74 [u0, u1, u2, u3, u4] [.int (iI xs0)] m = ri xs0 m := (s_reti p_305_74 (zM_of zq_305))
-- M.shelf
theorem p_306_0 : zP1 306 0 = some (.iload_n 1, 0, 0, 0) := zp_l zq_306 rfl
theorem p_306_1 : zP1 306 1 = some (.invokestatic 378, 300, 1, 0) := zp_r zq_306 rfl
theorem p_306_4 : zP1 306 4 = some (.ifCond .eq 36, 0, 0, 0) := zp_l zq_306 rfl
theorem p_306_7 : zP1 306 7 = some (.iload_n 2, 0, 0, 0) := zp_l zq_306 rfl
theorem p_306_8 : zP1 306 8 = some (.iconst 0, 0, 0, 0) := zp_l zq_306 rfl
theorem p_306_9 : zP1 306 9 = some (.iconst 2, 0, 0, 0) := zp_l zq_306 rfl
theorem p_306_10 : zP1 306 10 = some (.invokestatic 100, 199, 3, 0) := zp_r zq_306 rfl
theorem p_306_13 : zP1 306 13 = some (.ifCond .eq 27, 0, 0, 0) := zp_l zq_306 rfl
theorem p_306_16 : zP1 306 16 = some (.iload_n 2, 0, 0, 0) := zp_l zq_306 rfl
theorem p_306_17 : zP1 306 17 = some (.ifCond .ne 11, 0, 0, 0) := zp_l zq_306 rfl
theorem p_306_20 : zP1 306 20 = some (.aload_n 0, 0, 0, 0) := zp_l zq_306 rfl
theorem p_306_21 : zP1 306 21 = some (.iload_n 3, 0, 0, 0) := zp_l zq_306 rfl
theorem p_306_22 : zP1 306 22 = some (.invokevirtual 138, 202, 1, 11) := zp_r zq_306 rfl
theorem p_306_25 : zP1 306 25 = some (.ifCond .eq 15, 0, 0, 0) := zp_l zq_306 rfl
theorem p_306_28 : zP1 306 28 = some (.iload_n 2, 0, 0, 0) := zp_l zq_306 rfl
theorem p_306_29 : zP1 306 29 = some (.iconst 1, 0, 0, 0) := zp_l zq_306 rfl
theorem p_306_30 : zP1 306 30 = some (.if_icmp .ne 12, 0, 0, 0) := zp_l zq_306 rfl
theorem p_306_33 : zP1 306 33 = some (.iload_n 3, 0, 0, 0) := zp_l zq_306 rfl
theorem p_306_34 : zP1 306 34 = some (.invokestatic 378, 300, 1, 0) := zp_r zq_306 rfl
theorem p_306_37 : zP1 306 37 = some (.ifCond .ne 5, 0, 0, 0) := zp_l zq_306 rfl
theorem p_306_40 : zP1 306 40 = some (.iconst (-1), 0, 0, 0) := zp_l zq_306 rfl
theorem p_306_41 : zP1 306 41 = some (.ireturn, 0, 0, 0) := zp_l zq_306 rfl
theorem p_306_42 : zP1 306 42 = some (.aload_n 0, 0, 0, 0) := zp_l zq_306 rfl
theorem p_306_43 : zP1 306 43 = some (.getfield 88, 11, 31, 0) := zp_r zq_306 rfl
theorem p_306_46 : zP1 306 46 = some (.iload_n 1, 0, 0, 0) := zp_l zq_306 rfl
theorem p_306_47 : zP1 306 47 = some (.iload_n 2, 0, 0, 0) := zp_l zq_306 rfl
theorem p_306_48 : zP1 306 48 = some (.ifCond .ne 7, 0, 0, 0) := zp_l zq_306 rfl
theorem p_306_51 : zP1 306 51 = some (.iconst 1, 0, 0, 0) := zp_l zq_306 rfl
theorem p_306_52 : zP1 306 52 = some (.goto 22, 0, 0, 0) := zp_l zq_306 rfl
theorem p_306_55 : zP1 306 55 = some (.iload_n 2, 0, 0, 0) := zp_l zq_306 rfl
theorem p_306_56 : zP1 306 56 = some (.iconst 1, 0, 0, 0) := zp_l zq_306 rfl
theorem p_306_57 : zP1 306 57 = some (.if_icmp .ne 16, 0, 0, 0) := zp_l zq_306 rfl
theorem p_306_60 : zP1 306 60 = some (.aload_n 0, 0, 0, 0) := zp_l zq_306 rfl
theorem p_306_61 : zP1 306 61 = some (.getfield 79, 11, 28, 0) := zp_r zq_306 rfl
theorem p_306_64 : zP1 306 64 = some (.iload_n 3, 0, 0, 0) := zp_l zq_306 rfl
theorem p_306_65 : zP1 306 65 = some (.iaload, 0, 0, 0) := zp_l zq_306 rfl
theorem p_306_66 : zP1 306 66 = some (.ifCond .lt 7, 0, 0, 0) := zp_l zq_306 rfl
theorem p_306_69 : zP1 306 69 = some (.iconst 2, 0, 0, 0) := zp_l zq_306 rfl
theorem p_306_70 : zP1 306 70 = some (.goto 4, 0, 0, 0) := zp_l zq_306 rfl
theorem p_306_73 : zP1 306 73 = some (.iconst 0, 0, 0, 0) := zp_l zq_306 rfl
theorem p_306_74 : zP1 306 74 = some (.iastore, 0, 0, 0) := zp_l zq_306 rfl
theorem p_306_75 : zP1 306 75 = some (.aload_n 0, 0, 0, 0) := zp_l zq_306 rfl
theorem p_306_76 : zP1 306 76 = some (.getfield 91, 11, 32, 0) := zp_r zq_306 rfl
theorem p_306_79 : zP1 306 79 = some (.iload_n 1, 0, 0, 0) := zp_l zq_306 rfl
theorem p_306_80 : zP1 306 80 = some (.iload_n 2, 0, 0, 0) := zp_l zq_306 rfl
theorem p_306_81 : zP1 306 81 = some (.iconst 1, 0, 0, 0) := zp_l zq_306 rfl
theorem p_306_82 : zP1 306 82 = some (.if_icmp .ne 12, 0, 0, 0) := zp_l zq_306 rfl
theorem p_306_85 : zP1 306 85 = some (.aload_n 0, 0, 0, 0) := zp_l zq_306 rfl
theorem p_306_86 : zP1 306 86 = some (.getfield 79, 11, 28, 0) := zp_r zq_306 rfl
theorem p_306_89 : zP1 306 89 = some (.iload_n 3, 0, 0, 0) := zp_l zq_306 rfl
theorem p_306_90 : zP1 306 90 = some (.iaload, 0, 0, 0) := zp_l zq_306 rfl
theorem p_306_91 : zP1 306 91 = some (.goto 4, 0, 0, 0) := zp_l zq_306 rfl
theorem p_306_94 : zP1 306 94 = some (.iload_n 3, 0, 0, 0) := zp_l zq_306 rfl
theorem p_306_95 : zP1 306 95 = some (.iastore, 0, 0, 0) := zp_l zq_306 rfl
theorem p_306_96 : zP1 306 96 = some (.aload_n 0, 0, 0, 0) := zp_l zq_306 rfl
theorem p_306_97 : zP1 306 97 = some (.getfield 94, 11, 33, 0) := zp_r zq_306 rfl
theorem p_306_100 : zP1 306 100 = some (.iload_n 1, 0, 0, 0) := zp_l zq_306 rfl
theorem p_306_101 : zP1 306 101 = some (.iload_n 2, 0, 0, 0) := zp_l zq_306 rfl
theorem p_306_102 : zP1 306 102 = some (.iconst 1, 0, 0, 0) := zp_l zq_306 rfl
theorem p_306_103 : zP1 306 103 = some (.if_icmp .ne 12, 0, 0, 0) := zp_l zq_306 rfl
theorem p_306_106 : zP1 306 106 = some (.aload_n 0, 0, 0, 0) := zp_l zq_306 rfl
theorem p_306_107 : zP1 306 107 = some (.getfield 82, 11, 29, 0) := zp_r zq_306 rfl
theorem p_306_110 : zP1 306 110 = some (.iload_n 3, 0, 0, 0) := zp_l zq_306 rfl
theorem p_306_111 : zP1 306 111 = some (.iaload, 0, 0, 0) := zp_l zq_306 rfl
theorem p_306_112 : zP1 306 112 = some (.goto 4, 0, 0, 0) := zp_l zq_306 rfl
theorem p_306_115 : zP1 306 115 = some (.iconst 0, 0, 0, 0) := zp_l zq_306 rfl
theorem p_306_116 : zP1 306 116 = some (.iastore, 0, 0, 0) := zp_l zq_306 rfl
theorem p_306_117 : zP1 306 117 = some (.iconst 1, 0, 0, 0) := zp_l zq_306 rfl
theorem p_306_118 : zP1 306 118 = some (.ireturn, 0, 0, 0) := zp_l zq_306 rfl
theorem b_306_0 {x1 : Int} {x2 : Int} {x3 : Int} : Z e (d + 2) 306 0 [.ref 246, .int (iI x1), .int (iI x2), .int (iI x3)] [] m = (if (((wr 0) ≤ (wr x1)) ∧ ((wr x1) ≤ (wr 3))) ∧ (((wr 0) ≤ (wr x2)) ∧ ((wr x2) ≤ (wr 2))) then (if (wr x2) = 0 then (if (¬ (((wr 0) ≤ (wr x3)) ∧ ((wr x3) ≤ (wr ((m 247 1) - 1))))) ∨ (((wr x2) = 1) ∧ (¬ (((wr 0) ≤ (wr x3)) ∧ ((wr x3) ≤ (wr 3))))) then ri (-1) m else ck ((¬ ((wr x2) = 0)) → (((wr x2) = 1) → (0 ≤ (wr x3) ∧ (wr x3) < 4))) (ck (0 ≤ (wr x1) ∧ (wr x1) < 4) (ck (((wr x2) = 1) → (0 ≤ (wr x3) ∧ (wr x3) < 4)) (ck (0 ≤ (wr x1) ∧ (wr x1) < 4) (ck (((wr x2) = 1) → (0 ≤ (wr x3) ∧ (wr x3) < 4)) (ck (0 ≤ (wr x1) ∧ (wr x1) < 4) (ri 1 (um (um (um m 264 (wr x1) (if (wr x2) = 0 then 1 else (if ((wr x2) = 1) ∧ (0 ≤ (wr (m 261 (wr x3)))) then 2 else 0))) 265 (wr x1) (if (wr x2) = 1 then ((um m 264 (wr x1) (if (wr x2) = 0 then 1 else (if ((wr x2) = 1) ∧ (0 ≤ (wr (m 261 (wr x3)))) then 2 else 0))) 261 (wr x3)) else x3)) 266 (wr x1) (if (wr x2) = 1 then ((um (um m 264 (wr x1) (if (wr x2) = 0 then 1 else (if ((wr x2) = 1) ∧ (0 ≤ (wr (m 261 (wr x3)))) then 2 else 0))) 265 (wr x1) (if (wr x2) = 1 then ((um m 264 (wr x1) (if (wr x2) = 0 then 1 else (if ((wr x2) = 1) ∧ (0 ≤ (wr (m 261 (wr x3)))) then 2 else 0))) 261 (wr x3)) else x3)) 262 (wr x3)) else 0))))))))) else (if ((wr x2) = 1) ∧ (¬ (((wr 0) ≤ (wr x3)) ∧ ((wr x3) ≤ (wr 3)))) then ri (-1) m else ck ((¬ ((wr x2) = 0)) → (((wr x2) = 1) → (0 ≤ (wr x3) ∧ (wr x3) < 4))) (ck (0 ≤ (wr x1) ∧ (wr x1) < 4) (ck (((wr x2) = 1) → (0 ≤ (wr x3) ∧ (wr x3) < 4)) (ck (0 ≤ (wr x1) ∧ (wr x1) < 4) (ck (((wr x2) = 1) → (0 ≤ (wr x3) ∧ (wr x3) < 4)) (ck (0 ≤ (wr x1) ∧ (wr x1) < 4) (ri 1 (um (um (um m 264 (wr x1) (if (wr x2) = 0 then 1 else (if ((wr x2) = 1) ∧ (0 ≤ (wr (m 261 (wr x3)))) then 2 else 0))) 265 (wr x1) (if (wr x2) = 1 then ((um m 264 (wr x1) (if (wr x2) = 0 then 1 else (if ((wr x2) = 1) ∧ (0 ≤ (wr (m 261 (wr x3)))) then 2 else 0))) 261 (wr x3)) else x3)) 266 (wr x1) (if (wr x2) = 1 then ((um (um m 264 (wr x1) (if (wr x2) = 0 then 1 else (if ((wr x2) = 1) ∧ (0 ≤ (wr (m 261 (wr x3)))) then 2 else 0))) 265 (wr x1) (if (wr x2) = 1 then ((um m 264 (wr x1) (if (wr x2) = 0 then 1 else (if ((wr x2) = 1) ∧ (0 ≤ (wr (m 261 (wr x3)))) then 2 else 0))) 261 (wr x3)) else x3)) 262 (wr x3)) else 0)))))))))) else ri (-1) m) := (s_il_1 p_306_0).trans <| (s_cs1 (Lc := [.int (iI x1)]) p_306_1 (by decide) (zM_of zq_300) ⟨Nat.le_of_ble_eq_true rfl, Nat.le_of_ble_eq_true rfl⟩ rfl).trans <| (bd b_300_0).trans <| ri_k.trans <| Eq.trans (Eq.trans (s_beq_f p_306_4 rfl) <| Eq.trans (ite_cg ((s_il_2 p_306_7).trans <| (s_const p_306_8).trans <| (s_const p_306_9).trans <| (s_cs3 (Lc := [.int (iI x2), .int (iI 0), .int (iI 2)]) p_306_10 (by decide) (zM_of zq_199) ⟨Nat.le_of_ble_eq_true rfl, Nat.le_of_ble_eq_true rfl⟩ rfl).trans <| (bd b_199_0).trans <| ri_k.trans <| (s_beq_f p_306_13 rfl)) rfl) co_and) <| ite_cg ((s_il_2 p_306_16).trans <| Eq.trans ((s_z_ne_f p_306_17 rfl rfl)) <| ite_cg ((s_al_0 p_306_20).trans <| (s_il_3 p_306_21).trans <| (s_cv1 (Lc := [.ref 246, .int (iI x3)]) p_306_22 (by decide) (by decide) (zM_of zq_202) ⟨Nat.le_of_ble_eq_true rfl, Nat.le_of_ble_eq_true rfl⟩ rfl (m_rc hs_246 ⟨rfl, by decide⟩)).trans <| (bd b_202_0).trans <| ri_k.trans <| Eq.trans (Eq.trans (s_beq_t p_306_25 rfl) <| Eq.trans (ite_cg rfl ((s_il_2 p_306_28).trans <| (s_const p_306_29).trans <| Eq.trans (s_c_ne_f p_306_30 rfl rfl wl_1) <| Eq.trans (ite_cg ((s_il_3 p_306_33).trans <| (s_cs1 (Lc := [.int (iI x3)]) p_306_34 (by decide) (zM_of zq_300) ⟨Nat.le_of_ble_eq_true rfl, Nat.le_of_ble_eq_true rfl⟩ rfl).trans <| (bd b_300_0).trans <| ri_k.trans <| (s_bne_f p_306_37 rfl)) rfl) co_and)) co_or) <| ite_cg ((s_const p_306_40).trans <| (s_reti p_306_41 (zM_of zq_306))) ((s_al_0 p_306_42).trans <| (s_getr p_306_43 hs_246 (by decide) rfl).trans <| (s_il_1 p_306_46).trans <| (s_il_2 p_306_47).trans <| Eq.trans (Eq.trans ((s_z_ne_f p_306_48 rfl rfl)) <| Eq.trans (ite_cg ((s_const p_306_51).trans <| (s_goto p_306_52 rfl).trans <| rfl) ((s_il_2 p_306_55).trans <| (s_const p_306_56).trans <| Eq.trans (Eq.trans (Eq.trans (s_c_ne_f p_306_57 rfl rfl wl_1) <| Eq.trans (ite_cg ((s_al_0 p_306_60).trans <| (s_getr p_306_61 hs_246 (by decide) rfl).trans <| (s_il_3 p_306_64).trans <| (s_ald 4 p_306_65 hs_261 rfl (by decide)).trans <| ck_cg fun k1 => (s_z_lt_f p_306_66 rfl rfl)) rfl) <| Eq.trans ck_a <| ck_cg fun _ => co_and) <| ck_cg fun _ => Eq.trans (ite_cg ((s_const p_306_69).trans <| (s_goto p_306_70 rfl).trans <| rfl) ((s_const p_306_73).trans <| rfl)) (phi1 (fun z0 => Z e (d + 2) 306 74 [.ref 246, .int (iI x1), .int (iI x2), .int (iI x3)] [.int (iI z0), .int (iI x1), .ref 264] m))) <| ck_cg fun _ => rfl)) <| Eq.trans ck_b <| ck_cg fun _ => (phi1 (fun z0 => Z e (d + 2) 306 74 [.ref 246, .int (iI x1), .int (iI x2), .int (iI x3)] [.int (iI z0), .int (iI x1), .ref 264] m))) <| ck_cg fun _ => (s_ast 4 p_306_74 hs_264 rfl).trans <| ck_cg fun k2 => (s_al_0 p_306_75).trans <| (s_getr p_306_76 hs_246 (by decide) rfl).trans <| (s_il_1 p_306_79).trans <| (s_il_2 p_306_80).trans <| (s_const p_306_81).trans <| Eq.trans (Eq.trans ((s_c_ne_f p_306_82 rfl rfl wl_1)) <| Eq.trans (ite_cg ((s_al_0 p_306_85).trans <| (s_getr p_306_86 hs_246 (by decide) rfl).trans <| (s_il_3 p_306_89).trans <| (s_ald 4 p_306_90 hs_261 rfl (by decide)).trans <| ck_cg fun k3 => (s_goto p_306_91 rfl).trans <| rfl) ((s_il_3 p_306_94).trans <| rfl)) <| Eq.trans ck_a <| ck_cg fun _ => (phi1 (fun z0 => Z e (d + 2) 306 95 [.ref 246, .int (iI x1), .int (iI x2), .int (iI x3)] [.int (iI z0), .int (iI x1), .ref 265] (um m 264 (wr x1) (if (wr x2) = 0 then 1 else (if ((wr x2) = 1) ∧ (0 ≤ (wr (m 261 (wr x3)))) then 2 else 0)))))) <| ck_cg fun _ => (s_ast 4 p_306_95 hs_265 rfl).trans <| ck_cg fun k4 => (s_al_0 p_306_96).trans <| (s_getr p_306_97 hs_246 (by decide) rfl).trans <| (s_il_1 p_306_100).trans <| (s_il_2 p_306_101).trans <| (s_const p_306_102).trans <| Eq.trans (Eq.trans ((s_c_ne_f p_306_103 rfl rfl wl_1)) <| Eq.trans (ite_cg ((s_al_0 p_306_106).trans <| (s_getr p_306_107 hs_246 (by decide) rfl).trans <| (s_il_3 p_306_110).trans <| (s_ald 4 p_306_111 hs_262 rfl (by decide)).trans <| ck_cg fun k5 => (s_goto p_306_112 rfl).trans <| rfl) ((s_const p_306_115).trans <| rfl)) <| Eq.trans ck_a <| ck_cg fun _ => (phi1 (fun z0 => Z e (d + 2) 306 116 [.ref 246, .int (iI x1), .int (iI x2), .int (iI x3)] [.int (iI z0), .int (iI x1), .ref 266] (um (um m 264 (wr x1) (if (wr x2) = 0 then 1 else (if ((wr x2) = 1) ∧ (0 ≤ (wr (m 261 (wr x3)))) then 2 else 0))) 265 (wr x1) (if (wr x2) = 1 then ((um m 264 (wr x1) (if (wr x2) = 0 then 1 else (if ((wr x2) = 1) ∧ (0 ≤ (wr (m 261 (wr x3)))) then 2 else 0))) 261 (wr x3)) else x3))))) <| ck_cg fun _ => (s_ast 4 p_306_116 hs_266 rfl).trans <| ck_cg fun k6 => (s_const p_306_117).trans <| (s_reti p_306_118 (zM_of zq_306)))) ((s_il_2 p_306_28).trans <| (s_const p_306_29).trans <| Eq.trans (Eq.trans (s_c_ne_f p_306_30 rfl rfl wl_1) <| Eq.trans (ite_cg ((s_il_3 p_306_33).trans <| (s_cs1 (Lc := [.int (iI x3)]) p_306_34 (by decide) (zM_of zq_300) ⟨Nat.le_of_ble_eq_true rfl, Nat.le_of_ble_eq_true rfl⟩ rfl).trans <| (bd b_300_0).trans <| ri_k.trans <| (s_bne_f p_306_37 rfl)) rfl) co_and) <| ite_cg ((s_const p_306_40).trans <| (s_reti p_306_41 (zM_of zq_306))) ((s_al_0 p_306_42).trans <| (s_getr p_306_43 hs_246 (by decide) rfl).trans <| (s_il_1 p_306_46).trans <| (s_il_2 p_306_47).trans <| Eq.trans (Eq.trans ((s_z_ne_f p_306_48 rfl rfl)) <| Eq.trans (ite_cg ((s_const p_306_51).trans <| (s_goto p_306_52 rfl).trans <| rfl) ((s_il_2 p_306_55).trans <| (s_const p_306_56).trans <| Eq.trans (Eq.trans (Eq.trans (s_c_ne_f p_306_57 rfl rfl wl_1) <| Eq.trans (ite_cg ((s_al_0 p_306_60).trans <| (s_getr p_306_61 hs_246 (by decide) rfl).trans <| (s_il_3 p_306_64).trans <| (s_ald 4 p_306_65 hs_261 rfl (by decide)).trans <| ck_cg fun k7 => (s_z_lt_f p_306_66 rfl rfl)) rfl) <| Eq.trans ck_a <| ck_cg fun _ => co_and) <| ck_cg fun _ => Eq.trans (ite_cg ((s_const p_306_69).trans <| (s_goto p_306_70 rfl).trans <| rfl) ((s_const p_306_73).trans <| rfl)) (phi1 (fun z0 => Z e (d + 2) 306 74 [.ref 246, .int (iI x1), .int (iI x2), .int (iI x3)] [.int (iI z0), .int (iI x1), .ref 264] m))) <| ck_cg fun _ => rfl)) <| Eq.trans ck_b <| ck_cg fun _ => (phi1 (fun z0 => Z e (d + 2) 306 74 [.ref 246, .int (iI x1), .int (iI x2), .int (iI x3)] [.int (iI z0), .int (iI x1), .ref 264] m))) <| ck_cg fun _ => (s_ast 4 p_306_74 hs_264 rfl).trans <| ck_cg fun k8 => (s_al_0 p_306_75).trans <| (s_getr p_306_76 hs_246 (by decide) rfl).trans <| (s_il_1 p_306_79).trans <| (s_il_2 p_306_80).trans <| (s_const p_306_81).trans <| Eq.trans (Eq.trans ((s_c_ne_f p_306_82 rfl rfl wl_1)) <| Eq.trans (ite_cg ((s_al_0 p_306_85).trans <| (s_getr p_306_86 hs_246 (by decide) rfl).trans <| (s_il_3 p_306_89).trans <| (s_ald 4 p_306_90 hs_261 rfl (by decide)).trans <| ck_cg fun k9 => (s_goto p_306_91 rfl).trans <| rfl) ((s_il_3 p_306_94).trans <| rfl)) <| Eq.trans ck_a <| ck_cg fun _ => (phi1 (fun z0 => Z e (d + 2) 306 95 [.ref 246, .int (iI x1), .int (iI x2), .int (iI x3)] [.int (iI z0), .int (iI x1), .ref 265] (um m 264 (wr x1) (if (wr x2) = 0 then 1 else (if ((wr x2) = 1) ∧ (0 ≤ (wr (m 261 (wr x3)))) then 2 else 0)))))) <| ck_cg fun _ => (s_ast 4 p_306_95 hs_265 rfl).trans <| ck_cg fun k10 => (s_al_0 p_306_96).trans <| (s_getr p_306_97 hs_246 (by decide) rfl).trans <| (s_il_1 p_306_100).trans <| (s_il_2 p_306_101).trans <| (s_const p_306_102).trans <| Eq.trans (Eq.trans ((s_c_ne_f p_306_103 rfl rfl wl_1)) <| Eq.trans (ite_cg ((s_al_0 p_306_106).trans <| (s_getr p_306_107 hs_246 (by decide) rfl).trans <| (s_il_3 p_306_110).trans <| (s_ald 4 p_306_111 hs_262 rfl (by decide)).trans <| ck_cg fun k11 => (s_goto p_306_112 rfl).trans <| rfl) ((s_const p_306_115).trans <| rfl)) <| Eq.trans ck_a <| ck_cg fun _ => (phi1 (fun z0 => Z e (d + 2) 306 116 [.ref 246, .int (iI x1), .int (iI x2), .int (iI x3)] [.int (iI z0), .int (iI x1), .ref 266] (um (um m 264 (wr x1) (if (wr x2) = 0 then 1 else (if ((wr x2) = 1) ∧ (0 ≤ (wr (m 261 (wr x3)))) then 2 else 0))) 265 (wr x1) (if (wr x2) = 1 then ((um m 264 (wr x1) (if (wr x2) = 0 then 1 else (if ((wr x2) = 1) ∧ (0 ≤ (wr (m 261 (wr x3)))) then 2 else 0))) 261 (wr x3)) else x3))))) <| ck_cg fun _ => (s_ast 4 p_306_116 hs_266 rfl).trans <| ck_cg fun k12 => (s_const p_306_117).trans <| (s_reti p_306_118 (zM_of zq_306))))) ((s_const p_306_40).trans <| (s_reti p_306_41 (zM_of zq_306)))
-- M.personOn
theorem p_307_0 : zP1 307 0 = some (.aload_n 0, 0, 0, 0) := zp_l zq_307 rfl
theorem p_307_1 : zP1 307 1 = some (.getfield 88, 11, 31, 0) := zp_r zq_307 rfl
theorem p_307_4 : zP1 307 4 = some (.iload_n 1, 0, 0, 0) := zp_l zq_307 rfl
theorem p_307_5 : zP1 307 5 = some (.iaload, 0, 0, 0) := zp_l zq_307 rfl
theorem p_307_6 : zP1 307 6 = some (.iconst 1, 0, 0, 0) := zp_l zq_307 rfl
theorem p_307_7 : zP1 307 7 = some (.if_icmp .ne 25, 0, 0, 0) := zp_l zq_307 rfl
theorem p_307_10 : zP1 307 10 = some (.aload_n 0, 0, 0, 0) := zp_l zq_307 rfl
theorem p_307_11 : zP1 307 11 = some (.aload_n 0, 0, 0, 0) := zp_l zq_307 rfl
theorem p_307_12 : zP1 307 12 = some (.getfield 91, 11, 32, 0) := zp_r zq_307 rfl
theorem p_307_15 : zP1 307 15 = some (.iload_n 1, 0, 0, 0) := zp_l zq_307 rfl
theorem p_307_16 : zP1 307 16 = some (.iaload, 0, 0, 0) := zp_l zq_307 rfl
theorem p_307_17 : zP1 307 17 = some (.invokevirtual 138, 202, 1, 11) := zp_r zq_307 rfl
theorem p_307_20 : zP1 307 20 = some (.ifCond .eq 12, 0, 0, 0) := zp_l zq_307 rfl
theorem p_307_23 : zP1 307 23 = some (.aload_n 0, 0, 0, 0) := zp_l zq_307 rfl
theorem p_307_24 : zP1 307 24 = some (.getfield 91, 11, 32, 0) := zp_r zq_307 rfl
theorem p_307_27 : zP1 307 27 = some (.iload_n 1, 0, 0, 0) := zp_l zq_307 rfl
theorem p_307_28 : zP1 307 28 = some (.iaload, 0, 0, 0) := zp_l zq_307 rfl
theorem p_307_29 : zP1 307 29 = some (.goto 4, 0, 0, 0) := zp_l zq_307 rfl
theorem p_307_32 : zP1 307 32 = some (.iconst (-1), 0, 0, 0) := zp_l zq_307 rfl
theorem p_307_33 : zP1 307 33 = some (.ireturn, 0, 0, 0) := zp_l zq_307 rfl
theorem b_307_0 {x1 : Int} : Z e (d + 2) 307 0 [.ref 246, .int (iI x1)] [] m = ck (0 ≤ (wr x1) ∧ (wr x1) < 4) (ck ((((wr (m 264 (wr x1))) = 1) → (0 ≤ (wr x1) ∧ (wr x1) < 4)) ∧ ((((wr (m 264 (wr x1))) = 1) ∧ (((wr 0) ≤ (wr (m 265 (wr x1)))) ∧ ((wr (m 265 (wr x1))) ≤ (wr ((m 247 1) - 1))))) → (0 ≤ (wr x1) ∧ (wr x1) < 4))) (ri (if ((wr (m 264 (wr x1))) = 1) ∧ (((wr 0) ≤ (wr (m 265 (wr x1)))) ∧ ((wr (m 265 (wr x1))) ≤ (wr ((m 247 1) - 1)))) then (m 265 (wr x1)) else (-1)) m)) := (s_al_0 p_307_0).trans <| (s_getr p_307_1 hs_246 (by decide) rfl).trans <| (s_il_1 p_307_4).trans <| (s_ald 4 p_307_5 hs_264 rfl (by decide)).trans <| ck_cg fun k1 => (s_const p_307_6).trans <| Eq.trans (Eq.trans (Eq.trans (s_c_ne_f p_307_7 rfl rfl wl_1) <| Eq.trans (ite_cg ((s_al_0 p_307_10).trans <| (s_al_0 p_307_11).trans <| (s_getr p_307_12 hs_246 (by decide) rfl).trans <| (s_il_1 p_307_15).trans <| (s_ald 4 p_307_16 hs_265 rfl (by decide)).trans <| ck_cg fun k2 => (s_cv1 (Lc := [.ref 246, .int (iI (m 265 (wr x1)))]) p_307_17 (by decide) (by decide) (zM_of zq_202) ⟨Nat.le_of_ble_eq_true rfl, Nat.le_of_ble_eq_true rfl⟩ rfl (m_rc hs_246 ⟨rfl, by decide⟩)).trans <| (bd b_202_0).trans <| ri_k.trans <| (s_beq_f p_307_20 rfl)) rfl) <| Eq.trans ck_a <| ck_cg fun _ => co_and) <| Eq.trans (ck_cg fun _ => Eq.trans (ite_cg ((s_al_0 p_307_23).trans <| (s_getr p_307_24 hs_246 (by decide) rfl).trans <| (s_il_1 p_307_27).trans <| (s_ald 4 p_307_28 hs_265 rfl (by decide)).trans <| ck_cg fun k3 => (s_goto p_307_29 rfl).trans <| rfl) ((s_const p_307_32).trans <| rfl)) <| Eq.trans ck_a <| ck_cg fun _ => (phi1 (fun z0 => Z e (d + 2) 307 33 [.ref 246, .int (iI x1)] [.int (iI z0)] m))) ck_ck) <| ck_cg fun _ => (s_reti p_307_33 (zM_of zq_307))
-- M.above
theorem p_308_0 : zP1 308 0 = some (.iload_n 0, 0, 0, 0) := zp_l zq_308 rfl
theorem p_308_1 : zP1 308 1 = some (.iconst 1, 0, 0, 0) := zp_l zq_308 rfl
theorem p_308_2 : zP1 308 2 = some (.if_icmp .eq 13, 0, 0, 0) := zp_l zq_308 rfl
theorem p_308_5 : zP1 308 5 = some (.iload_n 0, 0, 0, 0) := zp_l zq_308 rfl
theorem p_308_6 : zP1 308 6 = some (.iconst 4, 0, 0, 0) := zp_l zq_308 rfl
theorem p_308_7 : zP1 308 7 = some (.if_icmp .eq 8, 0, 0, 0) := zp_l zq_308 rfl
theorem p_308_10 : zP1 308 10 = some (.iload_n 0, 0, 0, 0) := zp_l zq_308 rfl
theorem p_308_11 : zP1 308 11 = some (.iconst 5, 0, 0, 0) := zp_l zq_308 rfl
theorem p_308_12 : zP1 308 12 = some (.if_icmp .ne 7, 0, 0, 0) := zp_l zq_308 rfl
theorem p_308_15 : zP1 308 15 = some (.iconst 0, 0, 0, 0) := zp_l zq_308 rfl
theorem p_308_16 : zP1 308 16 = some (.goto 32, 0, 0, 0) := zp_l zq_308 rfl
theorem p_308_19 : zP1 308 19 = some (.iload_n 0, 0, 0, 0) := zp_l zq_308 rfl
theorem p_308_20 : zP1 308 20 = some (.iconst 2, 0, 0, 0) := zp_l zq_308 rfl
theorem p_308_21 : zP1 308 21 = some (.if_icmp .ne 7, 0, 0, 0) := zp_l zq_308 rfl
theorem p_308_24 : zP1 308 24 = some (.iconst 1, 0, 0, 0) := zp_l zq_308 rfl
theorem p_308_25 : zP1 308 25 = some (.goto 23, 0, 0, 0) := zp_l zq_308 rfl
theorem p_308_28 : zP1 308 28 = some (.iload_n 0, 0, 0, 0) := zp_l zq_308 rfl
theorem p_308_29 : zP1 308 29 = some (.iconst 3, 0, 0, 0) := zp_l zq_308 rfl
theorem p_308_30 : zP1 308 30 = some (.if_icmp .ne 7, 0, 0, 0) := zp_l zq_308 rfl
theorem p_308_33 : zP1 308 33 = some (.iconst 2, 0, 0, 0) := zp_l zq_308 rfl
theorem p_308_34 : zP1 308 34 = some (.goto 14, 0, 0, 0) := zp_l zq_308 rfl
theorem p_308_37 : zP1 308 37 = some (.iload_n 0, 0, 0, 0) := zp_l zq_308 rfl
theorem p_308_38 : zP1 308 38 = some (.bipush 6, 0, 0, 0) := zp_l zq_308 rfl
theorem p_308_40 : zP1 308 40 = some (.if_icmp .ne 7, 0, 0, 0) := zp_l zq_308 rfl
theorem p_308_43 : zP1 308 43 = some (.iconst 5, 0, 0, 0) := zp_l zq_308 rfl
theorem p_308_44 : zP1 308 44 = some (.goto 4, 0, 0, 0) := zp_l zq_308 rfl
theorem p_308_47 : zP1 308 47 = some (.iconst (-1), 0, 0, 0) := zp_l zq_308 rfl
theorem p_308_48 : zP1 308 48 = some (.ireturn, 0, 0, 0) := zp_l zq_308 rfl
theorem b_308_0 {x0 : Int} : Z e d 308 0 [.int (iI x0)] [] m = ri (if ((wr x0) = 1) ∨ (((wr x0) = 4) ∨ ((wr x0) = 5)) then 0 else (if (wr x0) = 2 then 1 else (if (wr x0) = 3 then 2 else (if (wr x0) = 6 then 5 else (-1))))) m := (s_il_0 p_308_0).trans <| (s_const p_308_1).trans <| Eq.trans (Eq.trans (Eq.trans (s_c_eq_t p_308_2 rfl rfl wl_1) <| Eq.trans (ite_cg rfl ((s_il_0 p_308_5).trans <| (s_const p_308_6).trans <| Eq.trans (s_c_eq_t p_308_7 rfl rfl wl_4) <| Eq.trans (ite_cg rfl ((s_il_0 p_308_10).trans <| (s_const p_308_11).trans <| (s_c_ne_f p_308_12 rfl rfl wl_5))) co_or)) co_or) <| Eq.trans (ite_cg ((s_const p_308_15).trans <| (s_goto p_308_16 rfl).trans <| rfl) ((s_il_0 p_308_19).trans <| (s_const p_308_20).trans <| Eq.trans (Eq.trans ((s_c_ne_f p_308_21 rfl rfl wl_2)) <| Eq.trans (ite_cg ((s_const p_308_24).trans <| (s_goto p_308_25 rfl).trans <| rfl) ((s_il_0 p_308_28).trans <| (s_const p_308_29).trans <| Eq.trans (Eq.trans ((s_c_ne_f p_308_30 rfl rfl wl_3)) <| Eq.trans (ite_cg ((s_const p_308_33).trans <| (s_goto p_308_34 rfl).trans <| rfl) ((s_il_0 p_308_37).trans <| (s_bip p_308_38 rfl).trans <| Eq.trans (Eq.trans ((s_c_ne_f p_308_40 rfl rfl wl_6)) <| Eq.trans (ite_cg ((s_const p_308_43).trans <| (s_goto p_308_44 rfl).trans <| rfl) ((s_const p_308_47).trans <| rfl)) (phi1 (fun z0 => Z e d 308 48 [.int (iI x0)] [.int (iI z0)] m))) <| rfl)) (phi1 (fun z0 => Z e d 308 48 [.int (iI x0)] [.int (iI z0)] m))) <| rfl)) (phi1 (fun z0 => Z e d 308 48 [.int (iI x0)] [.int (iI z0)] m))) <| rfl)) (phi1 (fun z0 => Z e d 308 48 [.int (iI x0)] [.int (iI z0)] m))) <| (s_reti p_308_48 (zM_of zq_308))
-- M.taken
theorem p_309_0 : zP1 309 0 = some (.iload_n 1, 0, 0, 0) := zp_l zq_309 rfl
theorem p_309_1 : zP1 309 1 = some (.invokestatic 378, 300, 1, 0) := zp_r zq_309 rfl
theorem p_309_4 : zP1 309 4 = some (.ifCond .eq 24, 0, 0, 0) := zp_l zq_309 rfl
theorem p_309_7 : zP1 309 7 = some (.iload_n 2, 0, 0, 0) := zp_l zq_309 rfl
theorem p_309_8 : zP1 309 8 = some (.iconst 0, 0, 0, 0) := zp_l zq_309 rfl
theorem p_309_9 : zP1 309 9 = some (.bipush 6, 0, 0, 0) := zp_l zq_309 rfl
theorem p_309_11 : zP1 309 11 = some (.invokestatic 100, 199, 3, 0) := zp_r zq_309 rfl
theorem p_309_14 : zP1 309 14 = some (.ifCond .ne 16, 0, 0, 0) := zp_l zq_309 rfl
theorem p_309_17 : zP1 309 17 = some (.iload_n 2, 0, 0, 0) := zp_l zq_309 rfl
theorem p_309_18 : zP1 309 18 = some (.bipush 10, 0, 0, 0) := zp_l zq_309 rfl
theorem p_309_20 : zP1 309 20 = some (.bipush 14, 0, 0, 0) := zp_l zq_309 rfl
theorem p_309_22 : zP1 309 22 = some (.invokestatic 100, 199, 3, 0) := zp_r zq_309 rfl
theorem p_309_25 : zP1 309 25 = some (.ifCond .ne 5, 0, 0, 0) := zp_l zq_309 rfl
theorem p_309_28 : zP1 309 28 = some (.iconst (-1), 0, 0, 0) := zp_l zq_309 rfl
theorem p_309_29 : zP1 309 29 = some (.ireturn, 0, 0, 0) := zp_l zq_309 rfl
theorem p_309_30 : zP1 309 30 = some (.aload_n 0, 0, 0, 0) := zp_l zq_309 rfl
theorem p_309_31 : zP1 309 31 = some (.iload_n 1, 0, 0, 0) := zp_l zq_309 rfl
theorem p_309_32 : zP1 309 32 = some (.invokevirtual 387, 307, 1, 11) := zp_r zq_309 rfl
theorem p_309_35 : zP1 309 35 = some (.istore_n 3, 0, 0, 0) := zp_l zq_309 rfl
theorem p_309_36 : zP1 309 36 = some (.iload_n 3, 0, 0, 0) := zp_l zq_309 rfl
theorem p_309_37 : zP1 309 37 = some (.ifCond .ge 16, 0, 0, 0) := zp_l zq_309 rfl
theorem p_309_40 : zP1 309 40 = some (.aload_n 0, 0, 0, 0) := zp_l zq_309 rfl
theorem p_309_41 : zP1 309 41 = some (.getfield 88, 11, 31, 0) := zp_r zq_309 rfl
theorem p_309_44 : zP1 309 44 = some (.iload_n 1, 0, 0, 0) := zp_l zq_309 rfl
theorem p_309_45 : zP1 309 45 = some (.iaload, 0, 0, 0) := zp_l zq_309 rfl
theorem p_309_46 : zP1 309 46 = some (.iconst 2, 0, 0, 0) := zp_l zq_309 rfl
theorem p_309_47 : zP1 309 47 = some (.if_icmp .eq 6, 0, 0, 0) := zp_l zq_309 rfl
theorem p_309_50 : zP1 309 50 = some (.bipush (-11), 0, 0, 0) := zp_l zq_309 rfl
theorem p_309_52 : zP1 309 52 = some (.ireturn, 0, 0, 0) := zp_l zq_309 rfl
theorem p_309_53 : zP1 309 53 = some (.aload_n 0, 0, 0, 0) := zp_l zq_309 rfl
theorem p_309_54 : zP1 309 54 = some (.getfield 88, 11, 31, 0) := zp_r zq_309 rfl
theorem p_309_57 : zP1 309 57 = some (.iload_n 1, 0, 0, 0) := zp_l zq_309 rfl
theorem p_309_58 : zP1 309 58 = some (.iaload, 0, 0, 0) := zp_l zq_309 rfl
theorem p_309_59 : zP1 309 59 = some (.iconst 2, 0, 0, 0) := zp_l zq_309 rfl
theorem p_309_60 : zP1 309 60 = some (.if_icmp .ne 28, 0, 0, 0) := zp_l zq_309 rfl
theorem p_309_63 : zP1 309 63 = some (.iload_n 2, 0, 0, 0) := zp_l zq_309 rfl
theorem p_309_64 : zP1 309 64 = some (.bipush 10, 0, 0, 0) := zp_l zq_309 rfl
theorem p_309_66 : zP1 309 66 = some (.isub, 0, 0, 0) := zp_l zq_309 rfl
theorem p_309_67 : zP1 309 67 = some (.aload_n 0, 0, 0, 0) := zp_l zq_309 rfl
theorem p_309_68 : zP1 309 68 = some (.getfield 91, 11, 32, 0) := zp_r zq_309 rfl
theorem p_309_71 : zP1 309 71 = some (.iload_n 1, 0, 0, 0) := zp_l zq_309 rfl
theorem p_309_72 : zP1 309 72 = some (.iaload, 0, 0, 0) := zp_l zq_309 rfl
theorem p_309_73 : zP1 309 73 = some (.if_icmp .ne 12, 0, 0, 0) := zp_l zq_309 rfl
theorem p_309_76 : zP1 309 76 = some (.aload_n 0, 0, 0, 0) := zp_l zq_309 rfl
theorem p_309_77 : zP1 309 77 = some (.getfield 94, 11, 33, 0) := zp_r zq_309 rfl
theorem p_309_80 : zP1 309 80 = some (.iload_n 1, 0, 0, 0) := zp_l zq_309 rfl
theorem p_309_81 : zP1 309 81 = some (.iaload, 0, 0, 0) := zp_l zq_309 rfl
theorem p_309_82 : zP1 309 82 = some (.goto 5, 0, 0, 0) := zp_l zq_309 rfl
theorem p_309_85 : zP1 309 85 = some (.bipush (-13), 0, 0, 0) := zp_l zq_309 rfl
theorem p_309_87 : zP1 309 87 = some (.ireturn, 0, 0, 0) := zp_l zq_309 rfl
theorem p_309_88 : zP1 309 88 = some (.aload_n 0, 0, 0, 0) := zp_l zq_309 rfl
theorem p_309_89 : zP1 309 89 = some (.getfield 9, 11, 0, 0) := zp_r zq_309 rfl
theorem p_309_92 : zP1 309 92 = some (.iload_n 3, 0, 0, 0) := zp_l zq_309 rfl
theorem p_309_93 : zP1 309 93 = some (.iconst 2, 0, 0, 0) := zp_l zq_309 rfl
theorem p_309_94 : zP1 309 94 = some (.invokestatic 129, 204, 2, 0) := zp_r zq_309 rfl
theorem p_309_97 : zP1 309 97 = some (.iaload, 0, 0, 0) := zp_l zq_309 rfl
theorem p_309_98 : zP1 309 98 = some (.istore 4, 0, 0, 0) := zp_l zq_309 rfl
theorem p_309_100 : zP1 309 100 = some (.iload 4, 0, 0, 0) := zp_l zq_309 rfl
theorem p_309_102 : zP1 309 102 = some (.ifCond .lt 19, 0, 0, 0) := zp_l zq_309 rfl
theorem p_309_105 : zP1 309 105 = some (.iload 4, 0, 0, 0) := zp_l zq_309 rfl
theorem p_309_107 : zP1 309 107 = some (.iload_n 2, 0, 0, 0) := zp_l zq_309 rfl
theorem p_309_108 : zP1 309 108 = some (.if_icmp .eq 13, 0, 0, 0) := zp_l zq_309 rfl
theorem p_309_111 : zP1 309 111 = some (.iload 4, 0, 0, 0) := zp_l zq_309 rfl
theorem p_309_113 : zP1 309 113 = some (.invokestatic 390, 308, 1, 0) := zp_r zq_309 rfl
theorem p_309_116 : zP1 309 116 = some (.istore 4, 0, 0, 0) := zp_l zq_309 rfl
theorem p_309_118 : zP1 309 118 = some (.goto (-18), 0, 0, 0) := zp_l zq_309 rfl
theorem p_309_121 : zP1 309 121 = some (.iload 4, 0, 0, 0) := zp_l zq_309 rfl
theorem p_309_123 : zP1 309 123 = some (.iload_n 2, 0, 0, 0) := zp_l zq_309 rfl
theorem p_309_124 : zP1 309 124 = some (.if_icmp .ne 7, 0, 0, 0) := zp_l zq_309 rfl
theorem p_309_127 : zP1 309 127 = some (.iload_n 3, 0, 0, 0) := zp_l zq_309 rfl
theorem p_309_128 : zP1 309 128 = some (.goto 5, 0, 0, 0) := zp_l zq_309 rfl
theorem p_309_131 : zP1 309 131 = some (.bipush (-13), 0, 0, 0) := zp_l zq_309 rfl
theorem p_309_133 : zP1 309 133 = some (.ireturn, 0, 0, 0) := zp_l zq_309 rfl
theorem b_309_0 {x1 : Int} {x2 : Int} : Z e (d + 3) 309 0 [.ref 246, .int (iI x1), .int (iI x2), .retAddr 0, .retAddr 0] [] m = (if (¬ (((wr 0) ≤ (wr x1)) ∧ ((wr x1) ≤ (wr 3)))) ∨ ((¬ (((wr 0) ≤ (wr x2)) ∧ ((wr x2) ≤ (wr 6)))) ∧ (¬ (((wr 10) ≤ (wr x2)) ∧ ((wr x2) ≤ (wr 14))))) then ri (-1) m else ck (0 ≤ (wr x1) ∧ (wr x1) < 4) (ck ((((wr (m 264 (wr x1))) = 1) → (0 ≤ (wr x1) ∧ (wr x1) < 4)) ∧ ((((wr (m 264 (wr x1))) = 1) ∧ (((wr 0) ≤ (wr (m 265 (wr x1)))) ∧ ((wr (m 265 (wr x1))) ≤ (wr ((m 247 1) - 1))))) → (0 ≤ (wr x1) ∧ (wr x1) < 4))) (ck (((wr (if ((wr (m 264 (wr x1))) = 1) ∧ (((wr 0) ≤ (wr (m 265 (wr x1)))) ∧ ((wr (m 265 (wr x1))) ≤ (wr ((m 247 1) - 1)))) then (m 265 (wr x1)) else (-1))) < 0) → (0 ≤ (wr x1) ∧ (wr x1) < 4)) (if ((wr (if ((wr (m 264 (wr x1))) = 1) ∧ (((wr 0) ≤ (wr (m 265 (wr x1)))) ∧ ((wr (m 265 (wr x1))) ≤ (wr ((m 247 1) - 1)))) then (m 265 (wr x1)) else (-1))) < 0) ∧ (¬ (wr (m 264 (wr x1))) = 2) then ri (-11) m else ck (0 ≤ (wr x1) ∧ (wr x1) < 4) ((if (wr (m 264 (wr x1))) = 2 then ck (0 ≤ (wr x1) ∧ (wr x1) < 4) (ck (((wr (x2 - 10)) = (wr (m 265 (wr x1)))) → (0 ≤ (wr x1) ∧ (wr x1) < 4)) (ri (if (wr (x2 - 10)) = (wr (m 265 (wr x1))) then (m 266 (wr x1)) else (-13)) m)) else ck (0 ≤ (wr ((110 + (9 * (if ((wr (m 264 (wr x1))) = 1) ∧ (((wr 0) ≤ (wr (m 265 (wr x1)))) ∧ ((wr (m 265 (wr x1))) ≤ (wr ((m 247 1) - 1)))) then (m 265 (wr x1)) else (-1)))) + 2)) ∧ (wr ((110 + (9 * (if ((wr (m 264 (wr x1))) = 1) ∧ (((wr 0) ≤ (wr (m 265 (wr x1)))) ∧ ((wr (m 265 (wr x1))) ≤ (wr ((m 247 1) - 1)))) then (m 265 (wr x1)) else (-1)))) + 2)) < 2737) (Z e (d + 3) 309 100 [.ref 246, .int (iI x1), .int (iI x2), .int (iI (if ((wr (m 264 (wr x1))) = 1) ∧ (((wr 0) ≤ (wr (m 265 (wr x1)))) ∧ ((wr (m 265 (wr x1))) ≤ (wr ((m 247 1) - 1)))) then (m 265 (wr x1)) else (-1))), .int (iI (m 247 (wr ((110 + (9 * (if ((wr (m 264 (wr x1))) = 1) ∧ (((wr 0) ≤ (wr (m 265 (wr x1)))) ∧ ((wr (m 265 (wr x1))) ≤ (wr ((m 247 1) - 1)))) then (m 265 (wr x1)) else (-1)))) + 2))))] [] m))))))) := (s_il_1 p_309_0).trans <| (s_cs1 (Lc := [.int (iI x1)]) p_309_1 (by decide) (zM_of zq_300) ⟨Nat.le_of_ble_eq_true rfl, Nat.le_of_ble_eq_true rfl⟩ rfl).trans <| (bd b_300_0).trans <| ri_k.trans <| Eq.trans (Eq.trans (s_beq_t p_309_4 rfl) <| Eq.trans (ite_cg rfl ((s_il_2 p_309_7).trans <| (s_const p_309_8).trans <| (s_bip p_309_9 rfl).trans <| (s_cs3 (Lc := [.int (iI x2), .int (iI 0), .int (iI 6)]) p_309_11 (by decide) (zM_of zq_199) ⟨Nat.le_of_ble_eq_true rfl, Nat.le_of_ble_eq_true rfl⟩ rfl).trans <| (bd b_199_0).trans <| ri_k.trans <| Eq.trans (s_bne_f p_309_14 rfl) <| Eq.trans (ite_cg ((s_il_2 p_309_17).trans <| (s_bip p_309_18 rfl).trans <| (s_bip p_309_20 rfl).trans <| (s_cs3 (Lc := [.int (iI x2), .int (iI 10), .int (iI 14)]) p_309_22 (by decide) (zM_of zq_199) ⟨Nat.le_of_ble_eq_true rfl, Nat.le_of_ble_eq_true rfl⟩ rfl).trans <| (bd b_199_0).trans <| ri_k.trans <| (s_bne_f p_309_25 rfl)) rfl) co_and)) co_or) <| ite_cg ((s_const p_309_28).trans <| (s_reti p_309_29 (zM_of zq_309))) ((s_al_0 p_309_30).trans <| (s_il_1 p_309_31).trans <| (s_cv1 (Lc := [.ref 246, .int (iI x1)]) p_309_32 (by decide) (by decide) (zM_of zq_307) ⟨Nat.le_of_ble_eq_true rfl, Nat.le_of_ble_eq_true rfl⟩ rfl (m_rc hs_246 ⟨rfl, by decide⟩)).trans <| (bd b_307_0).trans <| ck_bind.trans <| ck_cg fun _ => ck_bind.trans <| ck_cg fun _ => ri_k.trans <| (s_is_3 cat_i p_309_35).trans <| (s_il_3 p_309_36).trans <| Eq.trans (Eq.trans (s_z_ge_f p_309_37 rfl rfl) <| Eq.trans (ite_cg ((s_al_0 p_309_40).trans <| (s_getr p_309_41 hs_246 (by decide) rfl).trans <| (s_il_1 p_309_44).trans <| (s_ald 4 p_309_45 hs_264 rfl (by decide)).trans <| ck_cg fun k1 => (s_const p_309_46).trans <| (s_c_eq_f p_309_47 rfl rfl wl_2)) rfl) <| Eq.trans ck_a <| ck_cg fun _ => co_and) <| ck_cg fun _ => ite_cg ((s_bip p_309_50 rfl).trans <| (s_reti p_309_52 (zM_of zq_309))) ((s_al_0 p_309_53).trans <| (s_getr p_309_54 hs_246 (by decide) rfl).trans <| (s_il_1 p_309_57).trans <| (s_ald 4 p_309_58 hs_264 rfl (by decide)).trans <| ck_cg fun k2 => (s_const p_309_59).trans <| Eq.trans ((s_c_ne_f p_309_60 rfl rfl wl_2)) <| ite_cg ((s_il_2 p_309_63).trans <| (s_bip p_309_64 rfl).trans <| (s_isub p_309_66).trans <| (s_al_0 p_309_67).trans <| (s_getr p_309_68 hs_246 (by decide) rfl).trans <| (s_il_1 p_309_71).trans <| (s_ald 4 p_309_72 hs_265 rfl (by decide)).trans <| ck_cg fun k3 => Eq.trans (Eq.trans ((s_c_ne_f p_309_73 rfl rfl rfl)) <| Eq.trans (ite_cg ((s_al_0 p_309_76).trans <| (s_getr p_309_77 hs_246 (by decide) rfl).trans <| (s_il_1 p_309_80).trans <| (s_ald 4 p_309_81 hs_266 rfl (by decide)).trans <| ck_cg fun k4 => (s_goto p_309_82 rfl).trans <| rfl) ((s_bip p_309_85 rfl).trans <| rfl)) <| Eq.trans ck_a <| ck_cg fun _ => (phi1 (fun z0 => Z e (d + 3) 309 87 [.ref 246, .int (iI x1), .int (iI x2), .int (iI (if ((wr (m 264 (wr x1))) = 1) ∧ (((wr 0) ≤ (wr (m 265 (wr x1)))) ∧ ((wr (m 265 (wr x1))) ≤ (wr ((m 247 1) - 1)))) then (m 265 (wr x1)) else (-1))), .retAddr 0] [.int (iI z0)] m))) <| ck_cg fun _ => (s_reti p_309_87 (zM_of zq_309))) ((s_al_0 p_309_88).trans <| (s_getr p_309_89 hs_246 (by decide) rfl).trans <| (s_il_3 p_309_92).trans <| (s_const p_309_93).trans <| (s_cs2 (Lc := [.int (iI (if ((wr (m 264 (wr x1))) = 1) ∧ (((wr 0) ≤ (wr (m 265 (wr x1)))) ∧ ((wr (m 265 (wr x1))) ≤ (wr ((m 247 1) - 1)))) then (m 265 (wr x1)) else (-1))), .int (iI 2)]) p_309_94 (by decide) (zM_of zq_204) ⟨Nat.le_of_ble_eq_true rfl, Nat.le_of_ble_eq_true rfl⟩ rfl).trans <| (bd b_204_0).trans <| ri_k.trans <| (s_ald 2737 p_309_97 hs_247 rfl (by decide)).trans <| ck_cg fun k5 => (s_is_4 cat_i p_309_98).trans <| rfl)))
theorem b_309_100 {x2 : Int} {x3 : Int} {x4 : Int} {u0 u1 : Value} : Z e (d + 3) 309 100 [u0, u1, .int (iI x2), .int (iI x3), .int (iI x4)] [] m = (if (0 ≤ (wr x4)) ∧ (¬ (wr x4) = (wr x2)) then Z e (d + 3) 309 100 [u0, u1, .int (iI x2), .int (iI x3), .int (iI (if ((wr x4) = 1) ∨ (((wr x4) = 4) ∨ ((wr x4) = 5)) then 0 else (if (wr x4) = 2 then 1 else (if (wr x4) = 3 then 2 else (if (wr x4) = 6 then 5 else (-1))))))] [] m else Z e (d + 3) 309 121 [u0, u1, .int (iI x2), .int (iI x3), .int (iI x4)] [] m) := (s_il_4 p_309_100).trans <| Eq.trans (Eq.trans (s_z_lt_f p_309_102 rfl rfl) <| Eq.trans (ite_cg ((s_il_4 p_309_105).trans <| (s_il_2 p_309_107).trans <| (s_c_eq_f p_309_108 rfl rfl rfl)) rfl) co_and) <| ite_cg ((s_il_4 p_309_111).trans <| (s_cs1 (Lc := [.int (iI x4)]) p_309_113 (by decide) (zM_of zq_308) ⟨Nat.le_of_ble_eq_true rfl, Nat.le_of_ble_eq_true rfl⟩ rfl).trans <| (bd b_308_0).trans <| ri_k.trans <| (s_is_4 cat_i p_309_116).trans <| (s_goto p_309_118 rfl).trans <| rfl) (rfl)
theorem b_309_121 {x2 : Int} {x3 : Int} {x4 : Int} {u0 u1 : Value} : Z e (d + 3) 309 121 [u0, u1, .int (iI x2), .int (iI x3), .int (iI x4)] [] m = ri (if (wr x4) = (wr x2) then x3 else (-13)) m := (s_il_4 p_309_121).trans <| (s_il_2 p_309_123).trans <| Eq.trans (Eq.trans ((s_c_ne_f p_309_124 rfl rfl rfl)) <| Eq.trans (ite_cg ((s_il_3 p_309_127).trans <| (s_goto p_309_128 rfl).trans <| rfl) ((s_bip p_309_131 rfl).trans <| rfl)) (phi1 (fun z0 => Z e (d + 3) 309 133 [u0, u1, .int (iI x2), .int (iI x3), .int (iI x4)] [.int (iI z0)] m))) <| (s_reti p_309_133 (zM_of zq_309))
-- M.began
theorem p_310_0 : zP1 310 0 = some (.aload_n 0, 0, 0, 0) := zp_l zq_310 rfl
theorem p_310_1 : zP1 310 1 = some (.getfield 392, 11, 35, 0) := zp_r zq_310 rfl
theorem p_310_4 : zP1 310 4 = some (.bipush 30, 0, 0, 0) := zp_l zq_310 rfl
theorem p_310_6 : zP1 310 6 = some (.if_icmp .ge 23, 0, 0, 0) := zp_l zq_310 rfl
theorem p_310_9 : zP1 310 9 = some (.aload_n 0, 0, 0, 0) := zp_l zq_310 rfl
theorem p_310_10 : zP1 310 10 = some (.getfield 97, 11, 34, 0) := zp_r zq_310 rfl
theorem p_310_13 : zP1 310 13 = some (.aload_n 0, 0, 0, 0) := zp_l zq_310 rfl
theorem p_310_14 : zP1 310 14 = some (.getfield 392, 11, 35, 0) := zp_r zq_310 rfl
theorem p_310_17 : zP1 310 17 = some (.iload_n 1, 0, 0, 0) := zp_l zq_310 rfl
theorem p_310_18 : zP1 310 18 = some (.iastore, 0, 0, 0) := zp_l zq_310 rfl
theorem p_310_19 : zP1 310 19 = some (.aload_n 0, 0, 0, 0) := zp_l zq_310 rfl
theorem p_310_20 : zP1 310 20 = some (.dup, 0, 0, 0) := zp_l zq_310 rfl
theorem p_310_21 : zP1 310 21 = some (.getfield 392, 11, 35, 0) := zp_r zq_310 rfl
theorem p_310_24 : zP1 310 24 = some (.iconst 1, 0, 0, 0) := zp_l zq_310 rfl
theorem p_310_25 : zP1 310 25 = some (.iadd, 0, 0, 0) := zp_l zq_310 rfl
theorem p_310_26 : zP1 310 26 = some (.putfield 392, 11, 35, 0) := zp_r zq_310 rfl
theorem p_310_29 : zP1 310 29 = some (.return_, 0, 0, 0) := zp_l zq_310 rfl
theorem b_310_0 {x1 : Int} : Z e d 310 0 [.ref 246, .int (iI x1)] [] m = (if (wr (m 246 35)) < 30 then ck (0 ≤ (wr (m 246 35)) ∧ (wr (m 246 35)) < 30) (rn (um (um m 267 (wr (m 246 35)) x1) 246 35 (((um m 267 (wr (m 246 35)) x1) 246 35) + 1))) else rn m) := (s_al_0 p_310_0).trans <| (s_get p_310_1 hs_246 (by decide) rfl).trans <| (s_bip p_310_4 rfl).trans <| Eq.trans ((s_c_ge_f p_310_6 rfl rfl wl_30)) <| ite_cg ((s_al_0 p_310_9).trans <| (s_getr p_310_10 hs_246 (by decide) rfl).trans <| (s_al_0 p_310_13).trans <| (s_get p_310_14 hs_246 (by decide) rfl).trans <| (s_il_1 p_310_17).trans <| (s_ast 30 p_310_18 hs_267 rfl).trans <| ck_cg fun k1 => (s_al_0 p_310_19).trans <| (s_dup cat_r p_310_20).trans <| (s_get p_310_21 hs_246 (by decide) rfl).trans <| (s_const p_310_24).trans <| (s_iadd p_310_25).trans <| (s_put p_310_26 hs_246 (by decide) rfl).trans <| (s_retv p_310_29 (zM_of zq_310))) ((s_retv p_310_29 (zM_of zq_310)))
-- M.kindOf
theorem p_311_0 : zP1 311 0 = some (.aload_n 0, 0, 0, 0) := zp_l zq_311 rfl
theorem p_311_1 : zP1 311 1 = some (.getfield 9, 11, 0, 0) := zp_r zq_311 rfl
theorem p_311_4 : zP1 311 4 = some (.aload_n 0, 0, 0, 0) := zp_l zq_311 rfl
theorem p_311_5 : zP1 311 5 = some (.getfield 395, 11, 36, 0) := zp_r zq_311 rfl
theorem p_311_8 : zP1 311 8 = some (.iconst 2, 0, 0, 0) := zp_l zq_311 rfl
theorem p_311_9 : zP1 311 9 = some (.invokestatic 129, 204, 2, 0) := zp_r zq_311 rfl
theorem p_311_12 : zP1 311 12 = some (.iaload, 0, 0, 0) := zp_l zq_311 rfl
theorem p_311_13 : zP1 311 13 = some (.ireturn, 0, 0, 0) := zp_l zq_311 rfl
theorem b_311_0 : Z e (d + 1) 311 0 [.ref 246] [] m = ck (0 ≤ (wr ((110 + (9 * (m 246 36))) + 2)) ∧ (wr ((110 + (9 * (m 246 36))) + 2)) < 2737) (ri (m 247 (wr ((110 + (9 * (m 246 36))) + 2))) m) := (s_al_0 p_311_0).trans <| (s_getr p_311_1 hs_246 (by decide) rfl).trans <| (s_al_0 p_311_4).trans <| (s_get p_311_5 hs_246 (by decide) rfl).trans <| (s_const p_311_8).trans <| (s_cs2 (Lc := [.int (iI (m 246 36)), .int (iI 2)]) p_311_9 (by decide) (zM_of zq_204) ⟨Nat.le_of_ble_eq_true rfl, Nat.le_of_ble_eq_true rfl⟩ rfl).trans <| (bd b_204_0).trans <| ri_k.trans <| (s_ald 2737 p_311_12 hs_247 rfl (by decide)).trans <| ck_cg fun k1 => (s_reti p_311_13 (zM_of zq_311))
-- M.bodyOf
theorem p_312_0 : zP1 312 0 = some (.iload_n 0, 0, 0, 0) := zp_l zq_312 rfl
theorem p_312_1 : zP1 312 1 = some (.istore_n 2, 0, 0, 0) := zp_l zq_312 rfl
theorem p_312_2 : zP1 312 2 = some (.iload_n 2, 0, 0, 0) := zp_l zq_312 rfl
theorem p_312_3 : zP1 312 3 = some (.ifCond .le 142, 0, 0, 0) := zp_l zq_312 rfl
theorem p_312_6 : zP1 312 6 = some (.iload_n 2, 0, 0, 0) := zp_l zq_312 rfl
theorem p_312_7 : zP1 312 7 = some (.iconst 1, 0, 0, 0) := zp_l zq_312 rfl
theorem p_312_8 : zP1 312 8 = some (.if_icmp .ne 20, 0, 0, 0) := zp_l zq_312 rfl
theorem p_312_11 : zP1 312 11 = some (.iload_n 1, 0, 0, 0) := zp_l zq_312 rfl
theorem p_312_12 : zP1 312 12 = some (.ifCond .eq 8, 0, 0, 0) := zp_l zq_312 rfl
theorem p_312_15 : zP1 312 15 = some (.iload_n 1, 0, 0, 0) := zp_l zq_312 rfl
theorem p_312_16 : zP1 312 16 = some (.iconst 2, 0, 0, 0) := zp_l zq_312 rfl
theorem p_312_17 : zP1 312 17 = some (.if_icmp .ne 7, 0, 0, 0) := zp_l zq_312 rfl
theorem p_312_20 : zP1 312 20 = some (.iconst 1, 0, 0, 0) := zp_l zq_312 rfl
theorem p_312_21 : zP1 312 21 = some (.goto 104, 0, 0, 0) := zp_l zq_312 rfl
theorem p_312_24 : zP1 312 24 = some (.iconst 0, 0, 0, 0) := zp_l zq_312 rfl
theorem p_312_25 : zP1 312 25 = some (.goto 100, 0, 0, 0) := zp_l zq_312 rfl
theorem p_312_28 : zP1 312 28 = some (.iload_n 2, 0, 0, 0) := zp_l zq_312 rfl
theorem p_312_29 : zP1 312 29 = some (.iconst 2, 0, 0, 0) := zp_l zq_312 rfl
theorem p_312_30 : zP1 312 30 = some (.if_icmp .ne 21, 0, 0, 0) := zp_l zq_312 rfl
theorem p_312_33 : zP1 312 33 = some (.iload_n 1, 0, 0, 0) := zp_l zq_312 rfl
theorem p_312_34 : zP1 312 34 = some (.iconst 1, 0, 0, 0) := zp_l zq_312 rfl
theorem p_312_35 : zP1 312 35 = some (.if_icmp .eq 8, 0, 0, 0) := zp_l zq_312 rfl
theorem p_312_38 : zP1 312 38 = some (.iload_n 1, 0, 0, 0) := zp_l zq_312 rfl
theorem p_312_39 : zP1 312 39 = some (.iconst 3, 0, 0, 0) := zp_l zq_312 rfl
theorem p_312_40 : zP1 312 40 = some (.if_icmp .ne 7, 0, 0, 0) := zp_l zq_312 rfl
theorem p_312_43 : zP1 312 43 = some (.iconst 1, 0, 0, 0) := zp_l zq_312 rfl
theorem p_312_44 : zP1 312 44 = some (.goto 81, 0, 0, 0) := zp_l zq_312 rfl
theorem p_312_47 : zP1 312 47 = some (.iconst 0, 0, 0, 0) := zp_l zq_312 rfl
theorem p_312_48 : zP1 312 48 = some (.goto 77, 0, 0, 0) := zp_l zq_312 rfl
theorem p_312_51 : zP1 312 51 = some (.iload_n 2, 0, 0, 0) := zp_l zq_312 rfl
theorem p_312_52 : zP1 312 52 = some (.iconst 3, 0, 0, 0) := zp_l zq_312 rfl
theorem p_312_53 : zP1 312 53 = some (.if_icmp .ne 16, 0, 0, 0) := zp_l zq_312 rfl
theorem p_312_56 : zP1 312 56 = some (.iload_n 1, 0, 0, 0) := zp_l zq_312 rfl
theorem p_312_57 : zP1 312 57 = some (.iconst 2, 0, 0, 0) := zp_l zq_312 rfl
theorem p_312_58 : zP1 312 58 = some (.if_icmp .ge 7, 0, 0, 0) := zp_l zq_312 rfl
theorem p_312_61 : zP1 312 61 = some (.iconst 1, 0, 0, 0) := zp_l zq_312 rfl
theorem p_312_62 : zP1 312 62 = some (.goto 63, 0, 0, 0) := zp_l zq_312 rfl
theorem p_312_65 : zP1 312 65 = some (.iconst 0, 0, 0, 0) := zp_l zq_312 rfl
theorem p_312_66 : zP1 312 66 = some (.goto 59, 0, 0, 0) := zp_l zq_312 rfl
theorem p_312_69 : zP1 312 69 = some (.iload_n 2, 0, 0, 0) := zp_l zq_312 rfl
theorem p_312_70 : zP1 312 70 = some (.iconst 4, 0, 0, 0) := zp_l zq_312 rfl
theorem p_312_71 : zP1 312 71 = some (.if_icmp .ne 16, 0, 0, 0) := zp_l zq_312 rfl
theorem p_312_74 : zP1 312 74 = some (.iload_n 1, 0, 0, 0) := zp_l zq_312 rfl
theorem p_312_75 : zP1 312 75 = some (.iconst 2, 0, 0, 0) := zp_l zq_312 rfl
theorem p_312_76 : zP1 312 76 = some (.if_icmp .ne 7, 0, 0, 0) := zp_l zq_312 rfl
theorem p_312_79 : zP1 312 79 = some (.iconst 1, 0, 0, 0) := zp_l zq_312 rfl
theorem p_312_80 : zP1 312 80 = some (.goto 45, 0, 0, 0) := zp_l zq_312 rfl
theorem p_312_83 : zP1 312 83 = some (.iconst 0, 0, 0, 0) := zp_l zq_312 rfl
theorem p_312_84 : zP1 312 84 = some (.goto 41, 0, 0, 0) := zp_l zq_312 rfl
theorem p_312_87 : zP1 312 87 = some (.iload_n 2, 0, 0, 0) := zp_l zq_312 rfl
theorem p_312_88 : zP1 312 88 = some (.iconst 5, 0, 0, 0) := zp_l zq_312 rfl
theorem p_312_89 : zP1 312 89 = some (.if_icmp .ne 21, 0, 0, 0) := zp_l zq_312 rfl
theorem p_312_92 : zP1 312 92 = some (.iload_n 1, 0, 0, 0) := zp_l zq_312 rfl
theorem p_312_93 : zP1 312 93 = some (.iconst 1, 0, 0, 0) := zp_l zq_312 rfl
theorem p_312_94 : zP1 312 94 = some (.if_icmp .eq 8, 0, 0, 0) := zp_l zq_312 rfl
theorem p_312_97 : zP1 312 97 = some (.iload_n 1, 0, 0, 0) := zp_l zq_312 rfl
theorem p_312_98 : zP1 312 98 = some (.iconst 3, 0, 0, 0) := zp_l zq_312 rfl
theorem p_312_99 : zP1 312 99 = some (.if_icmp .ne 7, 0, 0, 0) := zp_l zq_312 rfl
theorem p_312_102 : zP1 312 102 = some (.iconst 1, 0, 0, 0) := zp_l zq_312 rfl
theorem p_312_103 : zP1 312 103 = some (.goto 22, 0, 0, 0) := zp_l zq_312 rfl
theorem p_312_106 : zP1 312 106 = some (.iconst 0, 0, 0, 0) := zp_l zq_312 rfl
theorem p_312_107 : zP1 312 107 = some (.goto 18, 0, 0, 0) := zp_l zq_312 rfl
theorem p_312_110 : zP1 312 110 = some (.iload_n 1, 0, 0, 0) := zp_l zq_312 rfl
theorem p_312_111 : zP1 312 111 = some (.iconst 1, 0, 0, 0) := zp_l zq_312 rfl
theorem p_312_112 : zP1 312 112 = some (.if_icmp .eq 8, 0, 0, 0) := zp_l zq_312 rfl
theorem p_312_115 : zP1 312 115 = some (.iload_n 1, 0, 0, 0) := zp_l zq_312 rfl
theorem p_312_116 : zP1 312 116 = some (.iconst 2, 0, 0, 0) := zp_l zq_312 rfl
theorem p_312_117 : zP1 312 117 = some (.if_icmp .ne 7, 0, 0, 0) := zp_l zq_312 rfl
theorem p_312_120 : zP1 312 120 = some (.iconst 1, 0, 0, 0) := zp_l zq_312 rfl
theorem p_312_121 : zP1 312 121 = some (.goto 4, 0, 0, 0) := zp_l zq_312 rfl
theorem p_312_124 : zP1 312 124 = some (.iconst 0, 0, 0, 0) := zp_l zq_312 rfl
theorem p_312_125 : zP1 312 125 = some (.istore_n 3, 0, 0, 0) := zp_l zq_312 rfl
theorem p_312_126 : zP1 312 126 = some (.iload_n 3, 0, 0, 0) := zp_l zq_312 rfl
theorem p_312_127 : zP1 312 127 = some (.ifCond .eq 10, 0, 0, 0) := zp_l zq_312 rfl
theorem p_312_130 : zP1 312 130 = some (.bipush 10, 0, 0, 0) := zp_l zq_312 rfl
theorem p_312_132 : zP1 312 132 = some (.iload_n 2, 0, 0, 0) := zp_l zq_312 rfl
theorem p_312_133 : zP1 312 133 = some (.imul, 0, 0, 0) := zp_l zq_312 rfl
theorem p_312_134 : zP1 312 134 = some (.iload_n 1, 0, 0, 0) := zp_l zq_312 rfl
theorem p_312_135 : zP1 312 135 = some (.iadd, 0, 0, 0) := zp_l zq_312 rfl
theorem p_312_136 : zP1 312 136 = some (.ireturn, 0, 0, 0) := zp_l zq_312 rfl
theorem p_312_137 : zP1 312 137 = some (.iload_n 2, 0, 0, 0) := zp_l zq_312 rfl
theorem p_312_138 : zP1 312 138 = some (.invokestatic 390, 308, 1, 0) := zp_r zq_312 rfl
theorem p_312_141 : zP1 312 141 = some (.istore_n 2, 0, 0, 0) := zp_l zq_312 rfl
theorem p_312_142 : zP1 312 142 = some (.goto (-140), 0, 0, 0) := zp_l zq_312 rfl
theorem p_312_145 : zP1 312 145 = some (.iload_n 1, 0, 0, 0) := zp_l zq_312 rfl
theorem p_312_146 : zP1 312 146 = some (.ireturn, 0, 0, 0) := zp_l zq_312 rfl
theorem b_312_0 {x0 : Int} {x1 : Int} : Z e (d + 1) 312 0 [.int (iI x0), .int (iI x1), .retAddr 0, .retAddr 0] [] m = Z e (d + 1) 312 2 [.int (iI x0), .int (iI x1), .int (iI x0), .retAddr 0] [] m := (s_il_0 p_312_0).trans <| (s_is_2 cat_i p_312_1).trans <| rfl
theorem b_312_2 {x1 : Int} {x2 : Int} {u0 u3 : Value} : Z e (d + 1) 312 2 [u0, .int (iI x1), .int (iI x2), u3] [] m = (if 0 < (wr x2) then (if ¬ (wr (if (wr x2) = 1 then (if ((wr x1) = 0) ∨ ((wr x1) = 2) then 1 else 0) else (if (wr x2) = 2 then (if ((wr x1) = 1) ∨ ((wr x1) = 3) then 1 else 0) else (if (wr x2) = 3 then (if (wr x1) < 2 then 1 else 0) else (if (wr x2) = 4 then (if (wr x1) = 2 then 1 else 0) else (if (wr x2) = 5 then (if ((wr x1) = 1) ∨ ((wr x1) = 3) then 1 else 0) else (if ((wr x1) = 1) ∨ ((wr x1) = 2) then 1 else 0))))))) = 0 then ri ((10 * x2) + x1) m else Z e (d + 1) 312 2 [u0, .int (iI x1), .int (iI (if ((wr x2) = 1) ∨ (((wr x2) = 4) ∨ ((wr x2) = 5)) then 0 else (if (wr x2) = 2 then 1 else (if (wr x2) = 3 then 2 else (if (wr x2) = 6 then 5 else (-1)))))), .int (iI (if (wr x2) = 1 then (if ((wr x1) = 0) ∨ ((wr x1) = 2) then 1 else 0) else (if (wr x2) = 2 then (if ((wr x1) = 1) ∨ ((wr x1) = 3) then 1 else 0) else (if (wr x2) = 3 then (if (wr x1) < 2 then 1 else 0) else (if (wr x2) = 4 then (if (wr x1) = 2 then 1 else 0) else (if (wr x2) = 5 then (if ((wr x1) = 1) ∨ ((wr x1) = 3) then 1 else 0) else (if ((wr x1) = 1) ∨ ((wr x1) = 2) then 1 else 0)))))))] [] m) else ri x1 m) := (s_il_2 p_312_2).trans <| Eq.trans ((s_z_le_f p_312_3 rfl rfl)) <| ite_cg ((s_il_2 p_312_6).trans <| (s_const p_312_7).trans <| Eq.trans (Eq.trans ((s_c_ne_f p_312_8 rfl rfl wl_1)) <| Eq.trans (ite_cg ((s_il_1 p_312_11).trans <| Eq.trans (Eq.trans (Eq.trans (s_z_eq_t p_312_12 rfl rfl) <| Eq.trans (ite_cg rfl ((s_il_1 p_312_15).trans <| (s_const p_312_16).trans <| (s_c_ne_f p_312_17 rfl rfl wl_2))) co_or) <| Eq.trans (ite_cg ((s_const p_312_20).trans <| (s_goto p_312_21 rfl).trans <| rfl) ((s_const p_312_24).trans <| (s_goto p_312_25 rfl).trans <| rfl)) (phi1 (fun z0 => Z e (d + 1) 312 125 [u0, .int (iI x1), .int (iI x2), u3] [.int (iI z0)] m))) <| rfl) ((s_il_2 p_312_28).trans <| (s_const p_312_29).trans <| Eq.trans (Eq.trans ((s_c_ne_f p_312_30 rfl rfl wl_2)) <| Eq.trans (ite_cg ((s_il_1 p_312_33).trans <| (s_const p_312_34).trans <| Eq.trans (Eq.trans (Eq.trans (s_c_eq_t p_312_35 rfl rfl wl_1) <| Eq.trans (ite_cg rfl ((s_il_1 p_312_38).trans <| (s_const p_312_39).trans <| (s_c_ne_f p_312_40 rfl rfl wl_3))) co_or) <| Eq.trans (ite_cg ((s_const p_312_43).trans <| (s_goto p_312_44 rfl).trans <| rfl) ((s_const p_312_47).trans <| (s_goto p_312_48 rfl).trans <| rfl)) (phi1 (fun z0 => Z e (d + 1) 312 125 [u0, .int (iI x1), .int (iI x2), u3] [.int (iI z0)] m))) <| rfl) ((s_il_2 p_312_51).trans <| (s_const p_312_52).trans <| Eq.trans (Eq.trans ((s_c_ne_f p_312_53 rfl rfl wl_3)) <| Eq.trans (ite_cg ((s_il_1 p_312_56).trans <| (s_const p_312_57).trans <| Eq.trans (Eq.trans ((s_c_ge_f p_312_58 rfl rfl wl_2)) <| Eq.trans (ite_cg ((s_const p_312_61).trans <| (s_goto p_312_62 rfl).trans <| rfl) ((s_const p_312_65).trans <| (s_goto p_312_66 rfl).trans <| rfl)) (phi1 (fun z0 => Z e (d + 1) 312 125 [u0, .int (iI x1), .int (iI x2), u3] [.int (iI z0)] m))) <| rfl) ((s_il_2 p_312_69).trans <| (s_const p_312_70).trans <| Eq.trans (Eq.trans ((s_c_ne_f p_312_71 rfl rfl wl_4)) <| Eq.trans (ite_cg ((s_il_1 p_312_74).trans <| (s_const p_312_75).trans <| Eq.trans (Eq.trans ((s_c_ne_f p_312_76 rfl rfl wl_2)) <| Eq.trans (ite_cg ((s_const p_312_79).trans <| (s_goto p_312_80 rfl).trans <| rfl) ((s_const p_312_83).trans <| (s_goto p_312_84 rfl).trans <| rfl)) (phi1 (fun z0 => Z e (d + 1) 312 125 [u0, .int (iI x1), .int (iI x2), u3] [.int (iI z0)] m))) <| rfl) ((s_il_2 p_312_87).trans <| (s_const p_312_88).trans <| Eq.trans (Eq.trans ((s_c_ne_f p_312_89 rfl rfl wl_5)) <| Eq.trans (ite_cg ((s_il_1 p_312_92).trans <| (s_const p_312_93).trans <| Eq.trans (Eq.trans (Eq.trans (s_c_eq_t p_312_94 rfl rfl wl_1) <| Eq.trans (ite_cg rfl ((s_il_1 p_312_97).trans <| (s_const p_312_98).trans <| (s_c_ne_f p_312_99 rfl rfl wl_3))) co_or) <| Eq.trans (ite_cg ((s_const p_312_102).trans <| (s_goto p_312_103 rfl).trans <| rfl) ((s_const p_312_106).trans <| (s_goto p_312_107 rfl).trans <| rfl)) (phi1 (fun z0 => Z e (d + 1) 312 125 [u0, .int (iI x1), .int (iI x2), u3] [.int (iI z0)] m))) <| rfl) ((s_il_1 p_312_110).trans <| (s_const p_312_111).trans <| Eq.trans (Eq.trans (Eq.trans (s_c_eq_t p_312_112 rfl rfl wl_1) <| Eq.trans (ite_cg rfl ((s_il_1 p_312_115).trans <| (s_const p_312_116).trans <| (s_c_ne_f p_312_117 rfl rfl wl_2))) co_or) <| Eq.trans (ite_cg ((s_const p_312_120).trans <| (s_goto p_312_121 rfl).trans <| rfl) ((s_const p_312_124).trans <| rfl)) (phi1 (fun z0 => Z e (d + 1) 312 125 [u0, .int (iI x1), .int (iI x2), u3] [.int (iI z0)] m))) <| rfl)) (phi1 (fun z0 => Z e (d + 1) 312 125 [u0, .int (iI x1), .int (iI x2), u3] [.int (iI z0)] m))) <| rfl)) (phi1 (fun z0 => Z e (d + 1) 312 125 [u0, .int (iI x1), .int (iI x2), u3] [.int (iI z0)] m))) <| rfl)) (phi1 (fun z0 => Z e (d + 1) 312 125 [u0, .int (iI x1), .int (iI x2), u3] [.int (iI z0)] m))) <| rfl)) (phi1 (fun z0 => Z e (d + 1) 312 125 [u0, .int (iI x1), .int (iI x2), u3] [.int (iI z0)] m))) <| rfl)) (phi1 (fun z0 => Z e (d + 1) 312 125 [u0, .int (iI x1), .int (iI x2), u3] [.int (iI z0)] m))) <| (s_is_3 cat_i p_312_125).trans <| (s_il_3 p_312_126).trans <| Eq.trans ((s_z_eq_f p_312_127 rfl rfl)) <| ite_cg ((s_bip p_312_130 rfl).trans <| (s_il_2 p_312_132).trans <| (s_imul p_312_133).trans <| (s_il_1 p_312_134).trans <| (s_iadd p_312_135).trans <| (s_reti p_312_136 (zM_of zq_312))) ((s_il_2 p_312_137).trans <| (s_cs1 (Lc := [.int (iI x2)]) p_312_138 (by decide) (zM_of zq_308) ⟨Nat.le_of_ble_eq_true rfl, Nat.le_of_ble_eq_true rfl⟩ rfl).trans <| (bd b_308_0).trans <| ri_k.trans <| (s_is_2 cat_i p_312_141).trans <| (s_goto p_312_142 rfl).trans <| rfl)) ((s_il_1 p_312_145).trans <| (s_reti p_312_146 (zM_of zq_312)))
-- M.fromAbove
theorem p_314_0 : zP1 314 0 = some (.aload_n 0, 0, 0, 0) := zp_l zq_314 rfl
theorem p_314_1 : zP1 314 1 = some (.iload_n 1, 0, 0, 0) := zp_l zq_314 rfl
theorem p_314_2 : zP1 314 2 = some (.invokestatic 390, 308, 1, 0) := zp_r zq_314 rfl
theorem p_314_5 : zP1 314 5 = some (.iload_n 2, 0, 0, 0) := zp_l zq_314 rfl
theorem p_314_6 : zP1 314 6 = some (.invokestatic 401, 312, 2, 0) := zp_r zq_314 rfl
theorem p_314_9 : zP1 314 9 = some (.iload_n 3, 0, 0, 0) := zp_l zq_314 rfl
theorem p_314_10 : zP1 314 10 = some (.invokevirtual 404, 315, 2, 11) := zp_r zq_314 rfl
theorem p_314_13 : zP1 314 13 = some (.ireturn, 0, 0, 0) := zp_l zq_314 rfl
theorem b_314_0 {x1 : Int} {x2 : Int} {x3 : Int} : Z e (d + 1) 314 0 [.ref 246, .int (iI x1), .int (iI x2), .int (iI x3)] [] m = (Z e d 312 0 [.int (iI (if ((wr x1) = 1) ∨ (((wr x1) = 4) ∨ ((wr x1) = 5)) then 0 else (if (wr x1) = 2 then 1 else (if (wr x1) = 3 then 2 else (if (wr x1) = 6 then 5 else (-1)))))), .int (iI x2), .retAddr 0, .retAddr 0] [] m).bind (ZK e (d + 1) 314 9 [.ref 246, .int (iI x1), .int (iI x2), .int (iI x3)] [.ref 246] m) := (s_al_0 p_314_0).trans <| (s_il_1 p_314_1).trans <| (s_cs1 (Lc := [.int (iI x1)]) p_314_2 (by decide) (zM_of zq_308) ⟨Nat.le_of_ble_eq_true rfl, Nat.le_of_ble_eq_true rfl⟩ rfl).trans <| (bd b_308_0).trans <| ri_k.trans <| (s_il_2 p_314_5).trans <| (s_cs2 (Lc := [.int (iI (if ((wr x1) = 1) ∨ (((wr x1) = 4) ∨ ((wr x1) = 5)) then 0 else (if (wr x1) = 2 then 1 else (if (wr x1) = 3 then 2 else (if (wr x1) = 6 then 5 else (-1)))))), .int (iI x2), .retAddr 0, .retAddr 0]) p_314_6 (by decide) (zM_of zq_312) ⟨Nat.le_of_ble_eq_true rfl, Nat.le_of_ble_eq_true rfl⟩ rfl)
theorem b_314_9 {x3 : Int} {xs0 : Int} {u0 u1 u2 : Value} : Z e (d + 1) 314 9 [u0, u1, u2, .int (iI x3)] [.int (iI xs0), .ref 246] m = (Z e d 315 0 [.ref 246, .int (iI xs0), .int (iI x3), .retAddr 0, .retAddr 0, .retAddr 0, .retAddr 0] [] m).bind (ZK e (d + 1) 314 13 [u0, u1, u2, .int (iI x3)] [] m) := (s_il_3 p_314_9).trans <| (s_cv2 (Lc := [.ref 246, .int (iI xs0), .int (iI x3), .retAddr 0, .retAddr 0, .retAddr 0, .retAddr 0]) p_314_10 (by decide) (by decide) (zM_of zq_315) ⟨Nat.le_of_ble_eq_true rfl, Nat.le_of_ble_eq_true rfl⟩ rfl (m_rc hs_246 ⟨rfl, by decide⟩))
theorem b_314_13 {xs0 : Int} {u0 u1 u2 u3 : Value} : Z e (d + 1) 314 13 [u0, u1, u2, u3] [.int (iI xs0)] m = ri xs0 m := (s_reti p_314_13 (zM_of zq_314))
-- M.body
theorem p_315_0 : zP1 315 0 = some (.aload_n 0, 0, 0, 0) := zp_l zq_315 rfl
theorem p_315_1 : zP1 315 1 = some (.getfield 9, 11, 0, 0) := zp_r zq_315 rfl
theorem p_315_4 : zP1 315 4 = some (.aload_n 0, 0, 0, 0) := zp_l zq_315 rfl
theorem p_315_5 : zP1 315 5 = some (.getfield 395, 11, 36, 0) := zp_r zq_315 rfl
theorem p_315_8 : zP1 315 8 = some (.iconst 0, 0, 0, 0) := zp_l zq_315 rfl
theorem p_315_9 : zP1 315 9 = some (.invokestatic 129, 204, 2, 0) := zp_r zq_315 rfl
theorem p_315_12 : zP1 315 12 = some (.iaload, 0, 0, 0) := zp_l zq_315 rfl
theorem p_315_13 : zP1 315 13 = some (.istore_n 3, 0, 0, 0) := zp_l zq_315 rfl
theorem p_315_14 : zP1 315 14 = some (.aload_n 0, 0, 0, 0) := zp_l zq_315 rfl
theorem p_315_15 : zP1 315 15 = some (.getfield 9, 11, 0, 0) := zp_r zq_315 rfl
theorem p_315_18 : zP1 315 18 = some (.aload_n 0, 0, 0, 0) := zp_l zq_315 rfl
theorem p_315_19 : zP1 315 19 = some (.getfield 395, 11, 36, 0) := zp_r zq_315 rfl
theorem p_315_22 : zP1 315 22 = some (.iconst 1, 0, 0, 0) := zp_l zq_315 rfl
theorem p_315_23 : zP1 315 23 = some (.invokestatic 129, 204, 2, 0) := zp_r zq_315 rfl
theorem p_315_26 : zP1 315 26 = some (.iaload, 0, 0, 0) := zp_l zq_315 rfl
theorem p_315_27 : zP1 315 27 = some (.istore 4, 0, 0, 0) := zp_l zq_315 rfl
theorem p_315_29 : zP1 315 29 = some (.iload_n 1, 0, 0, 0) := zp_l zq_315 rfl
theorem p_315_30 : zP1 315 30 = some (.lookupswitch 394 #[(0, 122), (1, 132), (2, 147), (3, 165), (10, 210), (12, 227), (21, 243), (23, 259), (30, 278), (31, 294), (42, 319), (51, 336), (53, 352), (62, 368)], 0, 0, 0) := zp_l zq_315 rfl
theorem p_315_152 : zP1 315 152 = some (.aload_n 0, 0, 0, 0) := zp_l zq_315 rfl
theorem p_315_153 : zP1 315 153 = some (.bipush 10, 0, 0, 0) := zp_l zq_315 rfl
theorem p_315_155 : zP1 315 155 = some (.invokevirtual 407, 310, 1, 11) := zp_r zq_315 rfl
theorem p_315_158 : zP1 315 158 = some (.iload_n 2, 0, 0, 0) := zp_l zq_315 rfl
theorem p_315_159 : zP1 315 159 = some (.iload_n 3, 0, 0, 0) := zp_l zq_315 rfl
theorem p_315_160 : zP1 315 160 = some (.iadd, 0, 0, 0) := zp_l zq_315 rfl
theorem p_315_161 : zP1 315 161 = some (.ireturn, 0, 0, 0) := zp_l zq_315 rfl
theorem p_315_162 : zP1 315 162 = some (.aload_n 0, 0, 0, 0) := zp_l zq_315 rfl
theorem p_315_163 : zP1 315 163 = some (.bipush 11, 0, 0, 0) := zp_l zq_315 rfl
theorem p_315_165 : zP1 315 165 = some (.invokevirtual 407, 310, 1, 11) := zp_r zq_315 rfl
theorem p_315_168 : zP1 315 168 = some (.aload_n 0, 0, 0, 0) := zp_l zq_315 rfl
theorem p_315_169 : zP1 315 169 = some (.iconst 0, 0, 0, 0) := zp_l zq_315 rfl
theorem p_315_170 : zP1 315 170 = some (.iload_n 2, 0, 0, 0) := zp_l zq_315 rfl
theorem p_315_171 : zP1 315 171 = some (.invokevirtual 410, 313, 2, 11) := zp_r zq_315 rfl
theorem p_315_174 : zP1 315 174 = some (.iconst 2, 0, 0, 0) := zp_l zq_315 rfl
theorem p_315_175 : zP1 315 175 = some (.imul, 0, 0, 0) := zp_l zq_315 rfl
theorem p_315_176 : zP1 315 176 = some (.ireturn, 0, 0, 0) := zp_l zq_315 rfl
theorem p_315_177 : zP1 315 177 = some (.aload_n 0, 0, 0, 0) := zp_l zq_315 rfl
theorem p_315_178 : zP1 315 178 = some (.bipush 12, 0, 0, 0) := zp_l zq_315 rfl
theorem p_315_180 : zP1 315 180 = some (.invokevirtual 407, 310, 1, 11) := zp_r zq_315 rfl
theorem p_315_183 : zP1 315 183 = some (.aload_n 0, 0, 0, 0) := zp_l zq_315 rfl
theorem p_315_184 : zP1 315 184 = some (.iconst 1, 0, 0, 0) := zp_l zq_315 rfl
theorem p_315_185 : zP1 315 185 = some (.iload_n 2, 0, 0, 0) := zp_l zq_315 rfl
theorem p_315_186 : zP1 315 186 = some (.invokevirtual 410, 313, 2, 11) := zp_r zq_315 rfl
theorem p_315_189 : zP1 315 189 = some (.aload_n 0, 0, 0, 0) := zp_l zq_315 rfl
theorem p_315_190 : zP1 315 190 = some (.getfield 395, 11, 36, 0) := zp_r zq_315 rfl
theorem p_315_193 : zP1 315 193 = some (.isub, 0, 0, 0) := zp_l zq_315 rfl
theorem p_315_194 : zP1 315 194 = some (.ireturn, 0, 0, 0) := zp_l zq_315 rfl
theorem p_315_195 : zP1 315 195 = some (.aload_n 0, 0, 0, 0) := zp_l zq_315 rfl
theorem p_315_196 : zP1 315 196 = some (.bipush 13, 0, 0, 0) := zp_l zq_315 rfl
theorem p_315_198 : zP1 315 198 = some (.invokevirtual 407, 310, 1, 11) := zp_r zq_315 rfl
theorem p_315_201 : zP1 315 201 = some (.aload_n 0, 0, 0, 0) := zp_l zq_315 rfl
theorem p_315_202 : zP1 315 202 = some (.aload_n 0, 0, 0, 0) := zp_l zq_315 rfl
theorem p_315_203 : zP1 315 203 = some (.getfield 413, 11, 37, 0) := zp_r zq_315 rfl
theorem p_315_206 : zP1 315 206 = some (.ifCond .ne 9, 0, 0, 0) := zp_l zq_315 rfl
theorem p_315_209 : zP1 315 209 = some (.iload_n 3, 0, 0, 0) := zp_l zq_315 rfl
theorem p_315_210 : zP1 315 210 = some (.bipush 11, 0, 0, 0) := zp_l zq_315 rfl
theorem p_315_212 : zP1 315 212 = some (.if_icmp .ne 7, 0, 0, 0) := zp_l zq_315 rfl
theorem p_315_215 : zP1 315 215 = some (.iconst 1, 0, 0, 0) := zp_l zq_315 rfl
theorem p_315_216 : zP1 315 216 = some (.goto 4, 0, 0, 0) := zp_l zq_315 rfl
theorem p_315_219 : zP1 315 219 = some (.iconst 0, 0, 0, 0) := zp_l zq_315 rfl
theorem p_315_220 : zP1 315 220 = some (.putfield 413, 11, 37, 1) := zp_r zq_315 rfl
theorem p_315_223 : zP1 315 223 = some (.iload_n 3, 0, 0, 0) := zp_l zq_315 rfl
theorem p_315_224 : zP1 315 224 = some (.bipush 11, 0, 0, 0) := zp_l zq_315 rfl
theorem p_315_226 : zP1 315 226 = some (.if_icmp .ne 7, 0, 0, 0) := zp_l zq_315 rfl
theorem p_315_229 : zP1 315 229 = some (.iconst 0, 0, 0, 0) := zp_l zq_315 rfl
theorem p_315_230 : zP1 315 230 = some (.goto 9, 0, 0, 0) := zp_l zq_315 rfl
theorem p_315_233 : zP1 315 233 = some (.iload_n 2, 0, 0, 0) := zp_l zq_315 rfl
theorem p_315_234 : zP1 315 234 = some (.iload_n 3, 0, 0, 0) := zp_l zq_315 rfl
theorem p_315_235 : zP1 315 235 = some (.bipush 11, 0, 0, 0) := zp_l zq_315 rfl
theorem p_315_237 : zP1 315 237 = some (.isub, 0, 0, 0) := zp_l zq_315 rfl
theorem p_315_238 : zP1 315 238 = some (.idiv, 0, 0, 0) := zp_l zq_315 rfl
theorem p_315_239 : zP1 315 239 = some (.ireturn, 0, 0, 0) := zp_l zq_315 rfl
theorem p_315_240 : zP1 315 240 = some (.aload_n 0, 0, 0, 0) := zp_l zq_315 rfl
theorem p_315_241 : zP1 315 241 = some (.bipush 20, 0, 0, 0) := zp_l zq_315 rfl
theorem p_315_243 : zP1 315 243 = some (.invokevirtual 407, 310, 1, 11) := zp_r zq_315 rfl
theorem p_315_246 : zP1 315 246 = some (.aload_n 0, 0, 0, 0) := zp_l zq_315 rfl
theorem p_315_247 : zP1 315 247 = some (.iconst 1, 0, 0, 0) := zp_l zq_315 rfl
theorem p_315_248 : zP1 315 248 = some (.iconst 0, 0, 0, 0) := zp_l zq_315 rfl
theorem p_315_249 : zP1 315 249 = some (.iload_n 2, 0, 0, 0) := zp_l zq_315 rfl
theorem p_315_250 : zP1 315 250 = some (.invokevirtual 416, 314, 3, 11) := zp_r zq_315 rfl
theorem p_315_253 : zP1 315 253 = some (.iload 4, 0, 0, 0) := zp_l zq_315 rfl
theorem p_315_255 : zP1 315 255 = some (.ixor, 0, 0, 0) := zp_l zq_315 rfl
theorem p_315_256 : zP1 315 256 = some (.ireturn, 0, 0, 0) := zp_l zq_315 rfl
theorem p_315_257 : zP1 315 257 = some (.aload_n 0, 0, 0, 0) := zp_l zq_315 rfl
theorem p_315_258 : zP1 315 258 = some (.bipush 21, 0, 0, 0) := zp_l zq_315 rfl
theorem p_315_260 : zP1 315 260 = some (.invokevirtual 407, 310, 1, 11) := zp_r zq_315 rfl
theorem p_315_263 : zP1 315 263 = some (.aload_n 0, 0, 0, 0) := zp_l zq_315 rfl
theorem p_315_264 : zP1 315 264 = some (.iconst 1, 0, 0, 0) := zp_l zq_315 rfl
theorem p_315_265 : zP1 315 265 = some (.iconst 2, 0, 0, 0) := zp_l zq_315 rfl
theorem p_315_266 : zP1 315 266 = some (.iload_n 2, 0, 0, 0) := zp_l zq_315 rfl
theorem p_315_267 : zP1 315 267 = some (.invokevirtual 416, 314, 3, 11) := zp_r zq_315 rfl
theorem p_315_270 : zP1 315 270 = some (.iconst 3, 0, 0, 0) := zp_l zq_315 rfl
theorem p_315_271 : zP1 315 271 = some (.iadd, 0, 0, 0) := zp_l zq_315 rfl
theorem p_315_272 : zP1 315 272 = some (.ireturn, 0, 0, 0) := zp_l zq_315 rfl
theorem p_315_273 : zP1 315 273 = some (.aload_n 0, 0, 0, 0) := zp_l zq_315 rfl
theorem p_315_274 : zP1 315 274 = some (.bipush 30, 0, 0, 0) := zp_l zq_315 rfl
theorem p_315_276 : zP1 315 276 = some (.invokevirtual 407, 310, 1, 11) := zp_r zq_315 rfl
theorem p_315_279 : zP1 315 279 = some (.aload_n 0, 0, 0, 0) := zp_l zq_315 rfl
theorem p_315_280 : zP1 315 280 = some (.iconst 2, 0, 0, 0) := zp_l zq_315 rfl
theorem p_315_281 : zP1 315 281 = some (.iconst 1, 0, 0, 0) := zp_l zq_315 rfl
theorem p_315_282 : zP1 315 282 = some (.iload_n 2, 0, 0, 0) := zp_l zq_315 rfl
theorem p_315_283 : zP1 315 283 = some (.iconst 1, 0, 0, 0) := zp_l zq_315 rfl
theorem p_315_284 : zP1 315 284 = some (.isub, 0, 0, 0) := zp_l zq_315 rfl
theorem p_315_285 : zP1 315 285 = some (.invokevirtual 416, 314, 3, 11) := zp_r zq_315 rfl
theorem p_315_288 : zP1 315 288 = some (.ireturn, 0, 0, 0) := zp_l zq_315 rfl
theorem p_315_289 : zP1 315 289 = some (.aload_n 0, 0, 0, 0) := zp_l zq_315 rfl
theorem p_315_290 : zP1 315 290 = some (.bipush 31, 0, 0, 0) := zp_l zq_315 rfl
theorem p_315_292 : zP1 315 292 = some (.invokevirtual 407, 310, 1, 11) := zp_r zq_315 rfl
theorem p_315_295 : zP1 315 295 = some (.aload_n 0, 0, 0, 0) := zp_l zq_315 rfl
theorem p_315_296 : zP1 315 296 = some (.iconst 2, 0, 0, 0) := zp_l zq_315 rfl
theorem p_315_297 : zP1 315 297 = some (.iconst 3, 0, 0, 0) := zp_l zq_315 rfl
theorem p_315_298 : zP1 315 298 = some (.iload_n 2, 0, 0, 0) := zp_l zq_315 rfl
theorem p_315_299 : zP1 315 299 = some (.invokevirtual 416, 314, 3, 11) := zp_r zq_315 rfl
theorem p_315_302 : zP1 315 302 = some (.aload_n 0, 0, 0, 0) := zp_l zq_315 rfl
theorem p_315_303 : zP1 315 303 = some (.getfield 395, 11, 36, 0) := zp_r zq_315 rfl
theorem p_315_306 : zP1 315 306 = some (.iadd, 0, 0, 0) := zp_l zq_315 rfl
theorem p_315_307 : zP1 315 307 = some (.ireturn, 0, 0, 0) := zp_l zq_315 rfl
theorem p_315_308 : zP1 315 308 = some (.aload_n 0, 0, 0, 0) := zp_l zq_315 rfl
theorem p_315_309 : zP1 315 309 = some (.bipush 40, 0, 0, 0) := zp_l zq_315 rfl
theorem p_315_311 : zP1 315 311 = some (.invokevirtual 407, 310, 1, 11) := zp_r zq_315 rfl
theorem p_315_314 : zP1 315 314 = some (.iconst 0, 0, 0, 0) := zp_l zq_315 rfl
theorem p_315_315 : zP1 315 315 = some (.aload_n 0, 0, 0, 0) := zp_l zq_315 rfl
theorem p_315_316 : zP1 315 316 = some (.iconst 3, 0, 0, 0) := zp_l zq_315 rfl
theorem p_315_317 : zP1 315 317 = some (.iconst 0, 0, 0, 0) := zp_l zq_315 rfl
theorem p_315_318 : zP1 315 318 = some (.iload_n 2, 0, 0, 0) := zp_l zq_315 rfl
theorem p_315_319 : zP1 315 319 = some (.invokevirtual 416, 314, 3, 11) := zp_r zq_315 rfl
theorem p_315_322 : zP1 315 322 = some (.isub, 0, 0, 0) := zp_l zq_315 rfl
theorem p_315_323 : zP1 315 323 = some (.ireturn, 0, 0, 0) := zp_l zq_315 rfl
theorem p_315_324 : zP1 315 324 = some (.aload_n 0, 0, 0, 0) := zp_l zq_315 rfl
theorem p_315_325 : zP1 315 325 = some (.bipush 41, 0, 0, 0) := zp_l zq_315 rfl
theorem p_315_327 : zP1 315 327 = some (.invokevirtual 407, 310, 1, 11) := zp_r zq_315 rfl
theorem p_315_330 : zP1 315 330 = some (.aload_n 0, 0, 0, 0) := zp_l zq_315 rfl
theorem p_315_331 : zP1 315 331 = some (.iconst 3, 0, 0, 0) := zp_l zq_315 rfl
theorem p_315_332 : zP1 315 332 = some (.iconst 1, 0, 0, 0) := zp_l zq_315 rfl
theorem p_315_333 : zP1 315 333 = some (.iload_n 2, 0, 0, 0) := zp_l zq_315 rfl
theorem p_315_334 : zP1 315 334 = some (.invokevirtual 416, 314, 3, 11) := zp_r zq_315 rfl
theorem p_315_337 : zP1 315 337 = some (.istore 5, 0, 0, 0) := zp_l zq_315 rfl
theorem p_315_339 : zP1 315 339 = some (.iload 5, 0, 0, 0) := zp_l zq_315 rfl
theorem p_315_341 : zP1 315 341 = some (.aload_n 0, 0, 0, 0) := zp_l zq_315 rfl
theorem p_315_342 : zP1 315 342 = some (.iconst 0, 0, 0, 0) := zp_l zq_315 rfl
theorem p_315_343 : zP1 315 343 = some (.iconst 1, 0, 0, 0) := zp_l zq_315 rfl
theorem p_315_344 : zP1 315 344 = some (.invokevirtual 410, 313, 2, 11) := zp_r zq_315 rfl
theorem p_315_347 : zP1 315 347 = some (.iadd, 0, 0, 0) := zp_l zq_315 rfl
theorem p_315_348 : zP1 315 348 = some (.ireturn, 0, 0, 0) := zp_l zq_315 rfl
theorem p_315_349 : zP1 315 349 = some (.aload_n 0, 0, 0, 0) := zp_l zq_315 rfl
theorem p_315_350 : zP1 315 350 = some (.bipush 50, 0, 0, 0) := zp_l zq_315 rfl
theorem p_315_352 : zP1 315 352 = some (.invokevirtual 407, 310, 1, 11) := zp_r zq_315 rfl
theorem p_315_355 : zP1 315 355 = some (.aload_n 0, 0, 0, 0) := zp_l zq_315 rfl
theorem p_315_356 : zP1 315 356 = some (.iconst 4, 0, 0, 0) := zp_l zq_315 rfl
theorem p_315_357 : zP1 315 357 = some (.iconst 2, 0, 0, 0) := zp_l zq_315 rfl
theorem p_315_358 : zP1 315 358 = some (.iload_n 2, 0, 0, 0) := zp_l zq_315 rfl
theorem p_315_359 : zP1 315 359 = some (.invokevirtual 416, 314, 3, 11) := zp_r zq_315 rfl
theorem p_315_362 : zP1 315 362 = some (.iload 4, 0, 0, 0) := zp_l zq_315 rfl
theorem p_315_364 : zP1 315 364 = some (.imul, 0, 0, 0) := zp_l zq_315 rfl
theorem p_315_365 : zP1 315 365 = some (.ireturn, 0, 0, 0) := zp_l zq_315 rfl
theorem p_315_366 : zP1 315 366 = some (.aload_n 0, 0, 0, 0) := zp_l zq_315 rfl
theorem p_315_367 : zP1 315 367 = some (.bipush 60, 0, 0, 0) := zp_l zq_315 rfl
theorem p_315_369 : zP1 315 369 = some (.invokevirtual 407, 310, 1, 11) := zp_r zq_315 rfl
theorem p_315_372 : zP1 315 372 = some (.aload_n 0, 0, 0, 0) := zp_l zq_315 rfl
theorem p_315_373 : zP1 315 373 = some (.iconst 5, 0, 0, 0) := zp_l zq_315 rfl
theorem p_315_374 : zP1 315 374 = some (.iconst 1, 0, 0, 0) := zp_l zq_315 rfl
theorem p_315_375 : zP1 315 375 = some (.iload_n 2, 0, 0, 0) := zp_l zq_315 rfl
theorem p_315_376 : zP1 315 376 = some (.invokevirtual 416, 314, 3, 11) := zp_r zq_315 rfl
theorem p_315_379 : zP1 315 379 = some (.iconst 5, 0, 0, 0) := zp_l zq_315 rfl
theorem p_315_380 : zP1 315 380 = some (.ixor, 0, 0, 0) := zp_l zq_315 rfl
theorem p_315_381 : zP1 315 381 = some (.ireturn, 0, 0, 0) := zp_l zq_315 rfl
theorem p_315_382 : zP1 315 382 = some (.aload_n 0, 0, 0, 0) := zp_l zq_315 rfl
theorem p_315_383 : zP1 315 383 = some (.bipush 61, 0, 0, 0) := zp_l zq_315 rfl
theorem p_315_385 : zP1 315 385 = some (.invokevirtual 407, 310, 1, 11) := zp_r zq_315 rfl
theorem p_315_388 : zP1 315 388 = some (.aload_n 0, 0, 0, 0) := zp_l zq_315 rfl
theorem p_315_389 : zP1 315 389 = some (.iconst 5, 0, 0, 0) := zp_l zq_315 rfl
theorem p_315_390 : zP1 315 390 = some (.iconst 3, 0, 0, 0) := zp_l zq_315 rfl
theorem p_315_391 : zP1 315 391 = some (.iload_n 2, 0, 0, 0) := zp_l zq_315 rfl
theorem p_315_392 : zP1 315 392 = some (.iconst 2, 0, 0, 0) := zp_l zq_315 rfl
theorem p_315_393 : zP1 315 393 = some (.iadd, 0, 0, 0) := zp_l zq_315 rfl
theorem p_315_394 : zP1 315 394 = some (.invokevirtual 416, 314, 3, 11) := zp_r zq_315 rfl
theorem p_315_397 : zP1 315 397 = some (.ireturn, 0, 0, 0) := zp_l zq_315 rfl
theorem p_315_398 : zP1 315 398 = some (.aload_n 0, 0, 0, 0) := zp_l zq_315 rfl
theorem p_315_399 : zP1 315 399 = some (.bipush 70, 0, 0, 0) := zp_l zq_315 rfl
theorem p_315_401 : zP1 315 401 = some (.invokevirtual 407, 310, 1, 11) := zp_r zq_315 rfl
theorem p_315_404 : zP1 315 404 = some (.aload_n 0, 0, 0, 0) := zp_l zq_315 rfl
theorem p_315_405 : zP1 315 405 = some (.bipush 6, 0, 0, 0) := zp_l zq_315 rfl
theorem p_315_407 : zP1 315 407 = some (.iconst 2, 0, 0, 0) := zp_l zq_315 rfl
theorem p_315_408 : zP1 315 408 = some (.iload_n 2, 0, 0, 0) := zp_l zq_315 rfl
theorem p_315_409 : zP1 315 409 = some (.invokevirtual 416, 314, 3, 11) := zp_r zq_315 rfl
theorem p_315_412 : zP1 315 412 = some (.istore 6, 0, 0, 0) := zp_l zq_315 rfl
theorem p_315_414 : zP1 315 414 = some (.iload 6, 0, 0, 0) := zp_l zq_315 rfl
theorem p_315_416 : zP1 315 416 = some (.aload_n 0, 0, 0, 0) := zp_l zq_315 rfl
theorem p_315_417 : zP1 315 417 = some (.iconst 1, 0, 0, 0) := zp_l zq_315 rfl
theorem p_315_418 : zP1 315 418 = some (.iconst 0, 0, 0, 0) := zp_l zq_315 rfl
theorem p_315_419 : zP1 315 419 = some (.invokevirtual 410, 313, 2, 11) := zp_r zq_315 rfl
theorem p_315_422 : zP1 315 422 = some (.isub, 0, 0, 0) := zp_l zq_315 rfl
theorem p_315_423 : zP1 315 423 = some (.ireturn, 0, 0, 0) := zp_l zq_315 rfl
theorem p_315_424 : zP1 315 424 = some (.aload_n 0, 0, 0, 0) := zp_l zq_315 rfl
theorem p_315_425 : zP1 315 425 = some (.bipush 71, 0, 0, 0) := zp_l zq_315 rfl
theorem p_315_427 : zP1 315 427 = some (.invokevirtual 407, 310, 1, 11) := zp_r zq_315 rfl
theorem p_315_430 : zP1 315 430 = some (.aload_n 0, 0, 0, 0) := zp_l zq_315 rfl
theorem p_315_431 : zP1 315 431 = some (.bipush 6, 0, 0, 0) := zp_l zq_315 rfl
theorem p_315_433 : zP1 315 433 = some (.iconst 1, 0, 0, 0) := zp_l zq_315 rfl
theorem p_315_434 : zP1 315 434 = some (.iload_n 2, 0, 0, 0) := zp_l zq_315 rfl
theorem p_315_435 : zP1 315 435 = some (.invokevirtual 416, 314, 3, 11) := zp_r zq_315 rfl
theorem p_315_438 : zP1 315 438 = some (.aload_n 0, 0, 0, 0) := zp_l zq_315 rfl
theorem p_315_439 : zP1 315 439 = some (.getfield 395, 11, 36, 0) := zp_r zq_315 rfl
theorem p_315_442 : zP1 315 442 = some (.iadd, 0, 0, 0) := zp_l zq_315 rfl
theorem p_315_443 : zP1 315 443 = some (.ireturn, 0, 0, 0) := zp_l zq_315 rfl
theorem b_315_0 {x1 : Int} {x2 : Int} : Z e (d + 1) 315 0 [.ref 246, .int (iI x1), .int (iI x2), .retAddr 0, .retAddr 0, .retAddr 0, .retAddr 0] [] m = ck (0 ≤ (wr ((110 + (9 * (m 246 36))) + 0)) ∧ (wr ((110 + (9 * (m 246 36))) + 0)) < 2737) (ck (0 ≤ (wr ((110 + (9 * (m 246 36))) + 1)) ∧ (wr ((110 + (9 * (m 246 36))) + 1)) < 2737) ((if (wr x1) = 0 then (Z e d 310 0 [.ref 246, .int (iI 10)] [] m).bind (ZK e (d + 1) 315 158 [.ref 246, .int (iI x1), .int (iI x2), .int (iI (m 247 (wr ((110 + (9 * (m 246 36))) + 0)))), .int (iI (m 247 (wr ((110 + (9 * (m 246 36))) + 1)))), .retAddr 0, .retAddr 0] [] m) else (if (wr x1) = 1 then (Z e d 310 0 [.ref 246, .int (iI 11)] [] m).bind (ZK e (d + 1) 315 168 [.ref 246, .int (iI x1), .int (iI x2), .int (iI (m 247 (wr ((110 + (9 * (m 246 36))) + 0)))), .int (iI (m 247 (wr ((110 + (9 * (m 246 36))) + 1)))), .retAddr 0, .retAddr 0] [] m) else (if (wr x1) = 2 then (Z e d 310 0 [.ref 246, .int (iI 12)] [] m).bind (ZK e (d + 1) 315 183 [.ref 246, .int (iI x1), .int (iI x2), .int (iI (m 247 (wr ((110 + (9 * (m 246 36))) + 0)))), .int (iI (m 247 (wr ((110 + (9 * (m 246 36))) + 1)))), .retAddr 0, .retAddr 0] [] m) else (if (wr x1) = 3 then (Z e d 310 0 [.ref 246, .int (iI 13)] [] m).bind (ZK e (d + 1) 315 201 [.ref 246, .int (iI x1), .int (iI x2), .int (iI (m 247 (wr ((110 + (9 * (m 246 36))) + 0)))), .int (iI (m 247 (wr ((110 + (9 * (m 246 36))) + 1)))), .retAddr 0, .retAddr 0] [] m) else (if (wr x1) = 10 then (Z e d 310 0 [.ref 246, .int (iI 20)] [] m).bind (ZK e (d + 1) 315 246 [.ref 246, .int (iI x1), .int (iI x2), .int (iI (m 247 (wr ((110 + (9 * (m 246 36))) + 0)))), .int (iI (m 247 (wr ((110 + (9 * (m 246 36))) + 1)))), .retAddr 0, .retAddr 0] [] m) else (if (wr x1) = 12 then (Z e d 310 0 [.ref 246, .int (iI 21)] [] m).bind (ZK e (d + 1) 315 263 [.ref 246, .int (iI x1), .int (iI x2), .int (iI (m 247 (wr ((110 + (9 * (m 246 36))) + 0)))), .int (iI (m 247 (wr ((110 + (9 * (m 246 36))) + 1)))), .retAddr 0, .retAddr 0] [] m) else (if (wr x1) = 21 then (Z e d 310 0 [.ref 246, .int (iI 30)] [] m).bind (ZK e (d + 1) 315 279 [.ref 246, .int (iI x1), .int (iI x2), .int (iI (m 247 (wr ((110 + (9 * (m 246 36))) + 0)))), .int (iI (m 247 (wr ((110 + (9 * (m 246 36))) + 1)))), .retAddr 0, .retAddr 0] [] m) else (if (wr x1) = 23 then (Z e d 310 0 [.ref 246, .int (iI 31)] [] m).bind (ZK e (d + 1) 315 295 [.ref 246, .int (iI x1), .int (iI x2), .int (iI (m 247 (wr ((110 + (9 * (m 246 36))) + 0)))), .int (iI (m 247 (wr ((110 + (9 * (m 246 36))) + 1)))), .retAddr 0, .retAddr 0] [] m) else (if (wr x1) = 30 then (Z e d 310 0 [.ref 246, .int (iI 40)] [] m).bind (ZK e (d + 1) 315 314 [.ref 246, .int (iI x1), .int (iI x2), .int (iI (m 247 (wr ((110 + (9 * (m 246 36))) + 0)))), .int (iI (m 247 (wr ((110 + (9 * (m 246 36))) + 1)))), .retAddr 0, .retAddr 0] [] m) else (if (wr x1) = 31 then (Z e d 310 0 [.ref 246, .int (iI 41)] [] m).bind (ZK e (d + 1) 315 330 [.ref 246, .int (iI x1), .int (iI x2), .int (iI (m 247 (wr ((110 + (9 * (m 246 36))) + 0)))), .int (iI (m 247 (wr ((110 + (9 * (m 246 36))) + 1)))), .retAddr 0, .retAddr 0] [] m) else (if (wr x1) = 42 then (Z e d 310 0 [.ref 246, .int (iI 50)] [] m).bind (ZK e (d + 1) 315 355 [.ref 246, .int (iI x1), .int (iI x2), .int (iI (m 247 (wr ((110 + (9 * (m 246 36))) + 0)))), .int (iI (m 247 (wr ((110 + (9 * (m 246 36))) + 1)))), .retAddr 0, .retAddr 0] [] m) else (if (wr x1) = 51 then (Z e d 310 0 [.ref 246, .int (iI 60)] [] m).bind (ZK e (d + 1) 315 372 [.ref 246, .int (iI x1), .int (iI x2), .int (iI (m 247 (wr ((110 + (9 * (m 246 36))) + 0)))), .int (iI (m 247 (wr ((110 + (9 * (m 246 36))) + 1)))), .retAddr 0, .retAddr 0] [] m) else (if (wr x1) = 53 then (Z e d 310 0 [.ref 246, .int (iI 61)] [] m).bind (ZK e (d + 1) 315 388 [.ref 246, .int (iI x1), .int (iI x2), .int (iI (m 247 (wr ((110 + (9 * (m 246 36))) + 0)))), .int (iI (m 247 (wr ((110 + (9 * (m 246 36))) + 1)))), .retAddr 0, .retAddr 0] [] m) else (if (wr x1) = 62 then (Z e d 310 0 [.ref 246, .int (iI 70)] [] m).bind (ZK e (d + 1) 315 404 [.ref 246, .int (iI x1), .int (iI x2), .int (iI (m 247 (wr ((110 + (9 * (m 246 36))) + 0)))), .int (iI (m 247 (wr ((110 + (9 * (m 246 36))) + 1)))), .retAddr 0, .retAddr 0] [] m) else (Z e d 310 0 [.ref 246, .int (iI 71)] [] m).bind (ZK e (d + 1) 315 430 [.ref 246, .int (iI x1), .int (iI x2), .int (iI (m 247 (wr ((110 + (9 * (m 246 36))) + 0)))), .int (iI (m 247 (wr ((110 + (9 * (m 246 36))) + 1)))), .retAddr 0, .retAddr 0] [] m))))))))))))))))) := (s_al_0 p_315_0).trans <| (s_getr p_315_1 hs_246 (by decide) rfl).trans <| (s_al_0 p_315_4).trans <| (s_get p_315_5 hs_246 (by decide) rfl).trans <| (s_const p_315_8).trans <| (s_cs2 (Lc := [.int (iI (m 246 36)), .int (iI 0)]) p_315_9 (by decide) (zM_of zq_204) ⟨Nat.le_of_ble_eq_true rfl, Nat.le_of_ble_eq_true rfl⟩ rfl).trans <| (bd b_204_0).trans <| ri_k.trans <| (s_ald 2737 p_315_12 hs_247 rfl (by decide)).trans <| ck_cg fun k1 => (s_is_3 cat_i p_315_13).trans <| (s_al_0 p_315_14).trans <| (s_getr p_315_15 hs_246 (by decide) rfl).trans <| (s_al_0 p_315_18).trans <| (s_get p_315_19 hs_246 (by decide) rfl).trans <| (s_const p_315_22).trans <| (s_cs2 (Lc := [.int (iI (m 246 36)), .int (iI 1)]) p_315_23 (by decide) (zM_of zq_204) ⟨Nat.le_of_ble_eq_true rfl, Nat.le_of_ble_eq_true rfl⟩ rfl).trans <| (bd b_204_0).trans <| ri_k.trans <| (s_ald 2737 p_315_26 hs_247 rfl (by decide)).trans <| ck_cg fun k2 => (s_is_4 cat_i p_315_27).trans <| (s_il_1 p_315_29).trans <| (s_lsw (ts := [(0, 152), (1, 162), (2, 177), (3, 195), (10, 240), (12, 257), (21, 273), (23, 289), (30, 308), (31, 324), (42, 349), (51, 366), (53, 382), (62, 398)]) (td := 424) p_315_30 (by decide) (by decide) rfl rfl).trans <| ite_cg ((s_al_0 p_315_152).trans <| (s_bip p_315_153 rfl).trans <| (s_cv1 (Lc := [.ref 246, .int (iI 10)]) p_315_155 (by decide) (by decide) (zM_of zq_310) ⟨Nat.le_of_ble_eq_true rfl, Nat.le_of_ble_eq_true rfl⟩ rfl (m_rc hs_246 ⟨rfl, by decide⟩))) (ite_cg ((s_al_0 p_315_162).trans <| (s_bip p_315_163 rfl).trans <| (s_cv1 (Lc := [.ref 246, .int (iI 11)]) p_315_165 (by decide) (by decide) (zM_of zq_310) ⟨Nat.le_of_ble_eq_true rfl, Nat.le_of_ble_eq_true rfl⟩ rfl (m_rc hs_246 ⟨rfl, by decide⟩))) (ite_cg ((s_al_0 p_315_177).trans <| (s_bip p_315_178 rfl).trans <| (s_cv1 (Lc := [.ref 246, .int (iI 12)]) p_315_180 (by decide) (by decide) (zM_of zq_310) ⟨Nat.le_of_ble_eq_true rfl, Nat.le_of_ble_eq_true rfl⟩ rfl (m_rc hs_246 ⟨rfl, by decide⟩))) (ite_cg ((s_al_0 p_315_195).trans <| (s_bip p_315_196 rfl).trans <| (s_cv1 (Lc := [.ref 246, .int (iI 13)]) p_315_198 (by decide) (by decide) (zM_of zq_310) ⟨Nat.le_of_ble_eq_true rfl, Nat.le_of_ble_eq_true rfl⟩ rfl (m_rc hs_246 ⟨rfl, by decide⟩))) (ite_cg ((s_al_0 p_315_240).trans <| (s_bip p_315_241 rfl).trans <| (s_cv1 (Lc := [.ref 246, .int (iI 20)]) p_315_243 (by decide) (by decide) (zM_of zq_310) ⟨Nat.le_of_ble_eq_true rfl, Nat.le_of_ble_eq_true rfl⟩ rfl (m_rc hs_246 ⟨rfl, by decide⟩))) (ite_cg ((s_al_0 p_315_257).trans <| (s_bip p_315_258 rfl).trans <| (s_cv1 (Lc := [.ref 246, .int (iI 21)]) p_315_260 (by decide) (by decide) (zM_of zq_310) ⟨Nat.le_of_ble_eq_true rfl, Nat.le_of_ble_eq_true rfl⟩ rfl (m_rc hs_246 ⟨rfl, by decide⟩))) (ite_cg ((s_al_0 p_315_273).trans <| (s_bip p_315_274 rfl).trans <| (s_cv1 (Lc := [.ref 246, .int (iI 30)]) p_315_276 (by decide) (by decide) (zM_of zq_310) ⟨Nat.le_of_ble_eq_true rfl, Nat.le_of_ble_eq_true rfl⟩ rfl (m_rc hs_246 ⟨rfl, by decide⟩))) (ite_cg ((s_al_0 p_315_289).trans <| (s_bip p_315_290 rfl).trans <| (s_cv1 (Lc := [.ref 246, .int (iI 31)]) p_315_292 (by decide) (by decide) (zM_of zq_310) ⟨Nat.le_of_ble_eq_true rfl, Nat.le_of_ble_eq_true rfl⟩ rfl (m_rc hs_246 ⟨rfl, by decide⟩))) (ite_cg ((s_al_0 p_315_308).trans <| (s_bip p_315_309 rfl).trans <| (s_cv1 (Lc := [.ref 246, .int (iI 40)]) p_315_311 (by decide) (by decide) (zM_of zq_310) ⟨Nat.le_of_ble_eq_true rfl, Nat.le_of_ble_eq_true rfl⟩ rfl (m_rc hs_246 ⟨rfl, by decide⟩))) (ite_cg ((s_al_0 p_315_324).trans <| (s_bip p_315_325 rfl).trans <| (s_cv1 (Lc := [.ref 246, .int (iI 41)]) p_315_327 (by decide) (by decide) (zM_of zq_310) ⟨Nat.le_of_ble_eq_true rfl, Nat.le_of_ble_eq_true rfl⟩ rfl (m_rc hs_246 ⟨rfl, by decide⟩))) (ite_cg ((s_al_0 p_315_349).trans <| (s_bip p_315_350 rfl).trans <| (s_cv1 (Lc := [.ref 246, .int (iI 50)]) p_315_352 (by decide) (by decide) (zM_of zq_310) ⟨Nat.le_of_ble_eq_true rfl, Nat.le_of_ble_eq_true rfl⟩ rfl (m_rc hs_246 ⟨rfl, by decide⟩))) (ite_cg ((s_al_0 p_315_366).trans <| (s_bip p_315_367 rfl).trans <| (s_cv1 (Lc := [.ref 246, .int (iI 60)]) p_315_369 (by decide) (by decide) (zM_of zq_310) ⟨Nat.le_of_ble_eq_true rfl, Nat.le_of_ble_eq_true rfl⟩ rfl (m_rc hs_246 ⟨rfl, by decide⟩))) (ite_cg ((s_al_0 p_315_382).trans <| (s_bip p_315_383 rfl).trans <| (s_cv1 (Lc := [.ref 246, .int (iI 61)]) p_315_385 (by decide) (by decide) (zM_of zq_310) ⟨Nat.le_of_ble_eq_true rfl, Nat.le_of_ble_eq_true rfl⟩ rfl (m_rc hs_246 ⟨rfl, by decide⟩))) (ite_cg ((s_al_0 p_315_398).trans <| (s_bip p_315_399 rfl).trans <| (s_cv1 (Lc := [.ref 246, .int (iI 70)]) p_315_401 (by decide) (by decide) (zM_of zq_310) ⟨Nat.le_of_ble_eq_true rfl, Nat.le_of_ble_eq_true rfl⟩ rfl (m_rc hs_246 ⟨rfl, by decide⟩))) ((s_al_0 p_315_424).trans <| (s_bip p_315_425 rfl).trans <| (s_cv1 (Lc := [.ref 246, .int (iI 71)]) p_315_427 (by decide) (by decide) (zM_of zq_310) ⟨Nat.le_of_ble_eq_true rfl, Nat.le_of_ble_eq_true rfl⟩ rfl (m_rc hs_246 ⟨rfl, by decide⟩))))))))))))))))
theorem b_315_158 {x2 : Int} {x3 : Int} {u0 u1 u4 u5 u6 : Value} : Z e (d + 1) 315 158 [u0, u1, .int (iI x2), .int (iI x3), u4, u5, u6] [] m = ri (x2 + x3) m := (s_il_2 p_315_158).trans <| (s_il_3 p_315_159).trans <| (s_iadd p_315_160).trans <| (s_reti p_315_161 (zM_of zq_315))
theorem b_315_168 {x2 : Int} {u1 u3 u4 u5 u6 : Value} : Z e (d + 1) 315 168 [.ref 246, u1, .int (iI x2), u3, u4, u5, u6] [] m = (Z e d 313 0 [.ref 246, .int (iI 0), .int (iI x2)] [] m).bind (ZK e (d + 1) 315 174 [.ref 246, u1, .int (iI x2), u3, u4, u5, u6] [] m) := (s_al_0 p_315_168).trans <| (s_const p_315_169).trans <| (s_il_2 p_315_170).trans <| (s_cv2 (Lc := [.ref 246, .int (iI 0), .int (iI x2)]) p_315_171 (by decide) (by decide) (zM_of zq_313) ⟨Nat.le_of_ble_eq_true rfl, Nat.le_of_ble_eq_true rfl⟩ rfl (m_rc hs_246 ⟨rfl, by decide⟩))
theorem b_315_183 {x2 : Int} {u1 u3 u4 u5 u6 : Value} : Z e (d + 1) 315 183 [.ref 246, u1, .int (iI x2), u3, u4, u5, u6] [] m = (Z e d 313 0 [.ref 246, .int (iI 1), .int (iI x2)] [] m).bind (ZK e (d + 1) 315 189 [.ref 246, u1, .int (iI x2), u3, u4, u5, u6] [] m) := (s_al_0 p_315_183).trans <| (s_const p_315_184).trans <| (s_il_2 p_315_185).trans <| (s_cv2 (Lc := [.ref 246, .int (iI 1), .int (iI x2)]) p_315_186 (by decide) (by decide) (zM_of zq_313) ⟨Nat.le_of_ble_eq_true rfl, Nat.le_of_ble_eq_true rfl⟩ rfl (m_rc hs_246 ⟨rfl, by decide⟩))
theorem b_315_201 {x2 : Int} {x3 : Int} {u1 u4 u5 u6 : Value} : Z e (d + 1) 315 201 [.ref 246, u1, .int (iI x2), .int (iI x3), u4, u5, u6] [] m = ck ((¬ ((wr x3) = 11)) → (¬ ((wr (x3 - 11)) = 0))) (ri (if (wr x3) = 11 then 0 else (jdiv x2 (x3 - 11))) (um m 246 37 (if (¬ (wr (m 246 37)) = 0) ∨ ((wr x3) = 11) then 1 else 0))) := (s_al_0 p_315_201).trans <| (s_al_0 p_315_202).trans <| (s_get p_315_203 hs_246 (by decide) rfl).trans <| Eq.trans (Eq.trans (Eq.trans (s_z_ne_t p_315_206 rfl rfl) <| Eq.trans (ite_cg rfl ((s_il_3 p_315_209).trans <| (s_bip p_315_210 rfl).trans <| (s_c_ne_f p_315_212 rfl rfl wl_11))) co_or) <| Eq.trans (ite_cg ((s_const p_315_215).trans <| (s_goto p_315_216 rfl).trans <| rfl) ((s_const p_315_219).trans <| rfl)) (phi1 (fun z0 => Z e (d + 1) 315 220 [.ref 246, u1, .int (iI x2), .int (iI x3), u4, u5, u6] [.int (iI z0), .ref 246] m))) <| (s_putb p_315_220 hs_246 (by decide) rfl).trans <| (s_il_3 p_315_223).trans <| (s_bip p_315_224 rfl).trans <| Eq.trans (Eq.trans ((s_c_ne_f p_315_226 rfl rfl wl_11)) <| Eq.trans (ite_cg ((s_const p_315_229).trans <| (s_goto p_315_230 rfl).trans <| rfl) ((s_il_2 p_315_233).trans <| (s_il_3 p_315_234).trans <| (s_bip p_315_235 rfl).trans <| (s_isub p_315_237).trans <| (s_idiv p_315_238).trans <| ck_cg fun k1 => rfl)) <| Eq.trans ck_b <| ck_cg fun _ => (phi1 (fun z0 => Z e (d + 1) 315 239 [.ref 246, u1, .int (iI x2), .int (iI x3), u4, u5, u6] [.int (iI z0)] (um m 246 37 (if (¬ (wr (m 246 37)) = 0) ∨ ((wr x3) = 11) then 1 else 0))))) <| ck_cg fun _ => (s_reti p_315_239 (zM_of zq_315))
theorem b_315_246 {x2 : Int} {x4 : Int} {u1 u3 u5 u6 : Value} : Z e (d + 1) 315 246 [.ref 246, u1, .int (iI x2), u3, .int (iI x4), u5, u6] [] m = (Z e d 314 0 [.ref 246, .int (iI 1), .int (iI 0), .int (iI x2)] [] m).bind (ZK e (d + 1) 315 253 [.ref 246, u1, .int (iI x2), u3, .int (iI x4), u5, u6] [] m) := (s_al_0 p_315_246).trans <| (s_const p_315_247).trans <| (s_const p_315_248).trans <| (s_il_2 p_315_249).trans <| (s_cv3 (Lc := [.ref 246, .int (iI 1), .int (iI 0), .int (iI x2)]) p_315_250 (by decide) (by decide) (zM_of zq_314) ⟨Nat.le_of_ble_eq_true rfl, Nat.le_of_ble_eq_true rfl⟩ rfl (m_rc hs_246 ⟨rfl, by decide⟩))
theorem b_315_263 {x2 : Int} {u1 u3 u4 u5 u6 : Value} : Z e (d + 1) 315 263 [.ref 246, u1, .int (iI x2), u3, u4, u5, u6] [] m = (Z e d 314 0 [.ref 246, .int (iI 1), .int (iI 2), .int (iI x2)] [] m).bind (ZK e (d + 1) 315 270 [.ref 246, u1, .int (iI x2), u3, u4, u5, u6] [] m) := (s_al_0 p_315_263).trans <| (s_const p_315_264).trans <| (s_const p_315_265).trans <| (s_il_2 p_315_266).trans <| (s_cv3 (Lc := [.ref 246, .int (iI 1), .int (iI 2), .int (iI x2)]) p_315_267 (by decide) (by decide) (zM_of zq_314) ⟨Nat.le_of_ble_eq_true rfl, Nat.le_of_ble_eq_true rfl⟩ rfl (m_rc hs_246 ⟨rfl, by decide⟩))
theorem b_315_279 {x2 : Int} {u1 u3 u4 u5 u6 : Value} : Z e (d + 1) 315 279 [.ref 246, u1, .int (iI x2), u3, u4, u5, u6] [] m = (Z e d 314 0 [.ref 246, .int (iI 2), .int (iI 1), .int (iI (x2 - 1))] [] m).bind (ZK e (d + 1) 315 288 [.ref 246, u1, .int (iI x2), u3, u4, u5, u6] [] m) := (s_al_0 p_315_279).trans <| (s_const p_315_280).trans <| (s_const p_315_281).trans <| (s_il_2 p_315_282).trans <| (s_const p_315_283).trans <| (s_isub p_315_284).trans <| (s_cv3 (Lc := [.ref 246, .int (iI 2), .int (iI 1), .int (iI (x2 - 1))]) p_315_285 (by decide) (by decide) (zM_of zq_314) ⟨Nat.le_of_ble_eq_true rfl, Nat.le_of_ble_eq_true rfl⟩ rfl (m_rc hs_246 ⟨rfl, by decide⟩))
theorem b_315_295 {x2 : Int} {u1 u3 u4 u5 u6 : Value} : Z e (d + 1) 315 295 [.ref 246, u1, .int (iI x2), u3, u4, u5, u6] [] m = (Z e d 314 0 [.ref 246, .int (iI 2), .int (iI 3), .int (iI x2)] [] m).bind (ZK e (d + 1) 315 302 [.ref 246, u1, .int (iI x2), u3, u4, u5, u6] [] m) := (s_al_0 p_315_295).trans <| (s_const p_315_296).trans <| (s_const p_315_297).trans <| (s_il_2 p_315_298).trans <| (s_cv3 (Lc := [.ref 246, .int (iI 2), .int (iI 3), .int (iI x2)]) p_315_299 (by decide) (by decide) (zM_of zq_314) ⟨Nat.le_of_ble_eq_true rfl, Nat.le_of_ble_eq_true rfl⟩ rfl (m_rc hs_246 ⟨rfl, by decide⟩))
theorem b_315_314 {x2 : Int} {u1 u3 u4 u5 u6 : Value} : Z e (d + 1) 315 314 [.ref 246, u1, .int (iI x2), u3, u4, u5, u6] [] m = (Z e d 314 0 [.ref 246, .int (iI 3), .int (iI 0), .int (iI x2)] [] m).bind (ZK e (d + 1) 315 322 [.ref 246, u1, .int (iI x2), u3, u4, u5, u6] [.int (iI 0)] m) := (s_const p_315_314).trans <| (s_al_0 p_315_315).trans <| (s_const p_315_316).trans <| (s_const p_315_317).trans <| (s_il_2 p_315_318).trans <| (s_cv3 (Lc := [.ref 246, .int (iI 3), .int (iI 0), .int (iI x2)]) p_315_319 (by decide) (by decide) (zM_of zq_314) ⟨Nat.le_of_ble_eq_true rfl, Nat.le_of_ble_eq_true rfl⟩ rfl (m_rc hs_246 ⟨rfl, by decide⟩))
theorem b_315_330 {x2 : Int} {u1 u3 u4 u5 u6 : Value} : Z e (d + 1) 315 330 [.ref 246, u1, .int (iI x2), u3, u4, u5, u6] [] m = (Z e d 314 0 [.ref 246, .int (iI 3), .int (iI 1), .int (iI x2)] [] m).bind (ZK e (d + 1) 315 337 [.ref 246, u1, .int (iI x2), u3, u4, u5, u6] [] m) := (s_al_0 p_315_330).trans <| (s_const p_315_331).trans <| (s_const p_315_332).trans <| (s_il_2 p_315_333).trans <| (s_cv3 (Lc := [.ref 246, .int (iI 3), .int (iI 1), .int (iI x2)]) p_315_334 (by decide) (by decide) (zM_of zq_314) ⟨Nat.le_of_ble_eq_true rfl, Nat.le_of_ble_eq_true rfl⟩ rfl (m_rc hs_246 ⟨rfl, by decide⟩))
theorem b_315_355 {x2 : Int} {x4 : Int} {u1 u3 u5 u6 : Value} : Z e (d + 1) 315 355 [.ref 246, u1, .int (iI x2), u3, .int (iI x4), u5, u6] [] m = (Z e d 314 0 [.ref 246, .int (iI 4), .int (iI 2), .int (iI x2)] [] m).bind (ZK e (d + 1) 315 362 [.ref 246, u1, .int (iI x2), u3, .int (iI x4), u5, u6] [] m) := (s_al_0 p_315_355).trans <| (s_const p_315_356).trans <| (s_const p_315_357).trans <| (s_il_2 p_315_358).trans <| (s_cv3 (Lc := [.ref 246, .int (iI 4), .int (iI 2), .int (iI x2)]) p_315_359 (by decide) (by decide) (zM_of zq_314) ⟨Nat.le_of_ble_eq_true rfl, Nat.le_of_ble_eq_true rfl⟩ rfl (m_rc hs_246 ⟨rfl, by decide⟩))
theorem b_315_372 {x2 : Int} {u1 u3 u4 u5 u6 : Value} : Z e (d + 1) 315 372 [.ref 246, u1, .int (iI x2), u3, u4, u5, u6] [] m = (Z e d 314 0 [.ref 246, .int (iI 5), .int (iI 1), .int (iI x2)] [] m).bind (ZK e (d + 1) 315 379 [.ref 246, u1, .int (iI x2), u3, u4, u5, u6] [] m) := (s_al_0 p_315_372).trans <| (s_const p_315_373).trans <| (s_const p_315_374).trans <| (s_il_2 p_315_375).trans <| (s_cv3 (Lc := [.ref 246, .int (iI 5), .int (iI 1), .int (iI x2)]) p_315_376 (by decide) (by decide) (zM_of zq_314) ⟨Nat.le_of_ble_eq_true rfl, Nat.le_of_ble_eq_true rfl⟩ rfl (m_rc hs_246 ⟨rfl, by decide⟩))
theorem b_315_388 {x2 : Int} {u1 u3 u4 u5 u6 : Value} : Z e (d + 1) 315 388 [.ref 246, u1, .int (iI x2), u3, u4, u5, u6] [] m = (Z e d 314 0 [.ref 246, .int (iI 5), .int (iI 3), .int (iI (x2 + 2))] [] m).bind (ZK e (d + 1) 315 397 [.ref 246, u1, .int (iI x2), u3, u4, u5, u6] [] m) := (s_al_0 p_315_388).trans <| (s_const p_315_389).trans <| (s_const p_315_390).trans <| (s_il_2 p_315_391).trans <| (s_const p_315_392).trans <| (s_iadd p_315_393).trans <| (s_cv3 (Lc := [.ref 246, .int (iI 5), .int (iI 3), .int (iI (x2 + 2))]) p_315_394 (by decide) (by decide) (zM_of zq_314) ⟨Nat.le_of_ble_eq_true rfl, Nat.le_of_ble_eq_true rfl⟩ rfl (m_rc hs_246 ⟨rfl, by decide⟩))
theorem b_315_404 {x2 : Int} {u1 u3 u4 u5 u6 : Value} : Z e (d + 1) 315 404 [.ref 246, u1, .int (iI x2), u3, u4, u5, u6] [] m = (Z e d 314 0 [.ref 246, .int (iI 6), .int (iI 2), .int (iI x2)] [] m).bind (ZK e (d + 1) 315 412 [.ref 246, u1, .int (iI x2), u3, u4, u5, u6] [] m) := (s_al_0 p_315_404).trans <| (s_bip p_315_405 rfl).trans <| (s_const p_315_407).trans <| (s_il_2 p_315_408).trans <| (s_cv3 (Lc := [.ref 246, .int (iI 6), .int (iI 2), .int (iI x2)]) p_315_409 (by decide) (by decide) (zM_of zq_314) ⟨Nat.le_of_ble_eq_true rfl, Nat.le_of_ble_eq_true rfl⟩ rfl (m_rc hs_246 ⟨rfl, by decide⟩))
theorem b_315_430 {x2 : Int} {u1 u3 u4 u5 u6 : Value} : Z e (d + 1) 315 430 [.ref 246, u1, .int (iI x2), u3, u4, u5, u6] [] m = (Z e d 314 0 [.ref 246, .int (iI 6), .int (iI 1), .int (iI x2)] [] m).bind (ZK e (d + 1) 315 438 [.ref 246, u1, .int (iI x2), u3, u4, u5, u6] [] m) := (s_al_0 p_315_430).trans <| (s_bip p_315_431 rfl).trans <| (s_const p_315_433).trans <| (s_il_2 p_315_434).trans <| (s_cv3 (Lc := [.ref 246, .int (iI 6), .int (iI 1), .int (iI x2)]) p_315_435 (by decide) (by decide) (zM_of zq_314) ⟨Nat.le_of_ble_eq_true rfl, Nat.le_of_ble_eq_true rfl⟩ rfl (m_rc hs_246 ⟨rfl, by decide⟩))
theorem b_315_174 {xs0 : Int} {u0 u1 u2 u3 u4 u5 u6 : Value} : Z e (d + 1) 315 174 [u0, u1, u2, u3, u4, u5, u6] [.int (iI xs0)] m = ri (xs0 * 2) m := (s_const p_315_174).trans <| (s_imul p_315_175).trans <| (s_reti p_315_176 (zM_of zq_315))
theorem b_315_189 {xs0 : Int} {u1 u2 u3 u4 u5 u6 : Value} : Z e (d + 1) 315 189 [.ref 246, u1, u2, u3, u4, u5, u6] [.int (iI xs0)] m = ri (xs0 - (m 246 36)) m := (s_al_0 p_315_189).trans <| (s_get p_315_190 hs_246 (by decide) rfl).trans <| (s_isub p_315_193).trans <| (s_reti p_315_194 (zM_of zq_315))
theorem b_315_253 {x4 : Int} {xs0 : Int} {u0 u1 u2 u3 u5 u6 : Value} : Z e (d + 1) 315 253 [u0, u1, u2, u3, .int (iI x4), u5, u6] [.int (iI xs0)] m = ri (jxor xs0 x4) m := (s_il_4 p_315_253).trans <| (s_ixor p_315_255).trans <| (s_reti p_315_256 (zM_of zq_315))
theorem b_315_270 {xs0 : Int} {u0 u1 u2 u3 u4 u5 u6 : Value} : Z e (d + 1) 315 270 [u0, u1, u2, u3, u4, u5, u6] [.int (iI xs0)] m = ri (xs0 + 3) m := (s_const p_315_270).trans <| (s_iadd p_315_271).trans <| (s_reti p_315_272 (zM_of zq_315))
theorem b_315_288 {xs0 : Int} {u0 u1 u2 u3 u4 u5 u6 : Value} : Z e (d + 1) 315 288 [u0, u1, u2, u3, u4, u5, u6] [.int (iI xs0)] m = ri xs0 m := (s_reti p_315_288 (zM_of zq_315))
theorem b_315_302 {xs0 : Int} {u1 u2 u3 u4 u5 u6 : Value} : Z e (d + 1) 315 302 [.ref 246, u1, u2, u3, u4, u5, u6] [.int (iI xs0)] m = ri (xs0 + (m 246 36)) m := (s_al_0 p_315_302).trans <| (s_get p_315_303 hs_246 (by decide) rfl).trans <| (s_iadd p_315_306).trans <| (s_reti p_315_307 (zM_of zq_315))
theorem b_315_322 {xs0 : Int} {xs1 : Int} {u0 u1 u2 u3 u4 u5 u6 : Value} : Z e (d + 1) 315 322 [u0, u1, u2, u3, u4, u5, u6] [.int (iI xs0), .int (iI xs1)] m = ri (xs1 - xs0) m := (s_isub p_315_322).trans <| (s_reti p_315_323 (zM_of zq_315))
theorem b_315_337 {xs0 : Int} {u1 u2 u3 u4 u5 u6 : Value} (hu4 : u4.category = 1) : Z e (d + 1) 315 337 [.ref 246, u1, u2, u3, u4, u5, u6] [.int (iI xs0)] m = (Z e d 313 0 [.ref 246, .int (iI 0), .int (iI 1)] [] m).bind (ZK e (d + 1) 315 347 [.ref 246, u1, u2, u3, u4, .int (iI xs0), u6] [.int (iI xs0)] m) := (s_is_5 hu4 p_315_337).trans <| (s_il_5 p_315_339).trans <| (s_al_0 p_315_341).trans <| (s_const p_315_342).trans <| (s_const p_315_343).trans <| (s_cv2 (Lc := [.ref 246, .int (iI 0), .int (iI 1)]) p_315_344 (by decide) (by decide) (zM_of zq_313) ⟨Nat.le_of_ble_eq_true rfl, Nat.le_of_ble_eq_true rfl⟩ rfl (m_rc hs_246 ⟨rfl, by decide⟩))
theorem b_315_362 {x4 : Int} {xs0 : Int} {u0 u1 u2 u3 u5 u6 : Value} : Z e (d + 1) 315 362 [u0, u1, u2, u3, .int (iI x4), u5, u6] [.int (iI xs0)] m = ri (xs0 * x4) m := (s_il_4 p_315_362).trans <| (s_imul p_315_364).trans <| (s_reti p_315_365 (zM_of zq_315))
theorem b_315_379 {xs0 : Int} {u0 u1 u2 u3 u4 u5 u6 : Value} : Z e (d + 1) 315 379 [u0, u1, u2, u3, u4, u5, u6] [.int (iI xs0)] m = ri (jxor xs0 5) m := (s_const p_315_379).trans <| (s_ixor p_315_380).trans <| (s_reti p_315_381 (zM_of zq_315))
theorem b_315_397 {xs0 : Int} {u0 u1 u2 u3 u4 u5 u6 : Value} : Z e (d + 1) 315 397 [u0, u1, u2, u3, u4, u5, u6] [.int (iI xs0)] m = ri xs0 m := (s_reti p_315_397 (zM_of zq_315))
theorem b_315_412 {xs0 : Int} {u1 u2 u3 u4 u5 u6 : Value} (hu5 : u5.category = 1) : Z e (d + 1) 315 412 [.ref 246, u1, u2, u3, u4, u5, u6] [.int (iI xs0)] m = (Z e d 313 0 [.ref 246, .int (iI 1), .int (iI 0)] [] m).bind (ZK e (d + 1) 315 422 [.ref 246, u1, u2, u3, u4, u5, .int (iI xs0)] [.int (iI xs0)] m) := (s_is_6 hu5 p_315_412).trans <| (s_il_6 p_315_414).trans <| (s_al_0 p_315_416).trans <| (s_const p_315_417).trans <| (s_const p_315_418).trans <| (s_cv2 (Lc := [.ref 246, .int (iI 1), .int (iI 0)]) p_315_419 (by decide) (by decide) (zM_of zq_313) ⟨Nat.le_of_ble_eq_true rfl, Nat.le_of_ble_eq_true rfl⟩ rfl (m_rc hs_246 ⟨rfl, by decide⟩))
theorem b_315_438 {xs0 : Int} {u1 u2 u3 u4 u5 u6 : Value} : Z e (d + 1) 315 438 [.ref 246, u1, u2, u3, u4, u5, u6] [.int (iI xs0)] m = ri (xs0 + (m 246 36)) m := (s_al_0 p_315_438).trans <| (s_get p_315_439 hs_246 (by decide) rfl).trans <| (s_iadd p_315_442).trans <| (s_reti p_315_443 (zM_of zq_315))
theorem b_315_347 {xs0 : Int} {xs1 : Int} {u0 u1 u2 u3 u4 u5 u6 : Value} : Z e (d + 1) 315 347 [u0, u1, u2, u3, u4, u5, u6] [.int (iI xs0), .int (iI xs1)] m = ri (xs1 + xs0) m := (s_iadd p_315_347).trans <| (s_reti p_315_348 (zM_of zq_315))
theorem b_315_422 {xs0 : Int} {xs1 : Int} {u0 u1 u2 u3 u4 u5 u6 : Value} : Z e (d + 1) 315 422 [u0, u1, u2, u3, u4, u5, u6] [.int (iI xs0), .int (iI xs1)] m = ri (xs1 - xs0) m := (s_isub p_315_422).trans <| (s_reti p_315_423 (zM_of zq_315))
-- M.dealt
theorem p_313_0 : zP1 313 0 = some (.aload_n 0, 0, 0, 0) := zp_l zq_313 rfl
theorem p_313_1 : zP1 313 1 = some (.aload_n 0, 0, 0, 0) := zp_l zq_313 rfl
theorem p_313_2 : zP1 313 2 = some (.invokevirtual 398, 311, 0, 11) := zp_r zq_313 rfl
theorem p_313_5 : zP1 313 5 = some (.iload_n 1, 0, 0, 0) := zp_l zq_313 rfl
theorem p_313_6 : zP1 313 6 = some (.invokestatic 401, 312, 2, 0) := zp_r zq_313 rfl
theorem p_313_9 : zP1 313 9 = some (.iload_n 2, 0, 0, 0) := zp_l zq_313 rfl
theorem p_313_10 : zP1 313 10 = some (.invokevirtual 404, 315, 2, 11) := zp_r zq_313 rfl
theorem p_313_13 : zP1 313 13 = some (.ireturn, 0, 0, 0) := zp_l zq_313 rfl
theorem b_313_0 {x1 : Int} {x2 : Int} : Z e (d + 2) 313 0 [.ref 246, .int (iI x1), .int (iI x2)] [] m = ck (0 ≤ (wr ((110 + (9 * (m 246 36))) + 2)) ∧ (wr ((110 + (9 * (m 246 36))) + 2)) < 2737) ((Z e (d + 1) 312 0 [.int (iI (m 247 (wr ((110 + (9 * (m 246 36))) + 2)))), .int (iI x1), .retAddr 0, .retAddr 0] [] m).bind (ZK e (d + 2) 313 9 [.ref 246, .int (iI x1), .int (iI x2)] [.ref 246] m)) := (s_al_0 p_313_0).trans <| (s_al_0 p_313_1).trans <| (s_cv0 (Lc := [.ref 246]) p_313_2 (by decide) (by decide) (zM_of zq_311) ⟨Nat.le_of_ble_eq_true rfl, Nat.le_of_ble_eq_true rfl⟩ rfl (m_rc hs_246 ⟨rfl, by decide⟩)).trans <| (bd b_311_0).trans <| ck_bind.trans <| ck_cg fun _ => ri_k.trans <| (s_il_1 p_313_5).trans <| (s_cs2 (Lc := [.int (iI (m 247 (wr ((110 + (9 * (m 246 36))) + 2)))), .int (iI x1), .retAddr 0, .retAddr 0]) p_313_6 (by decide) (zM_of zq_312) ⟨Nat.le_of_ble_eq_true rfl, Nat.le_of_ble_eq_true rfl⟩ rfl)
theorem b_313_9 {x2 : Int} {xs0 : Int} {u0 u1 : Value} : Z e (d + 2) 313 9 [u0, u1, .int (iI x2)] [.int (iI xs0), .ref 246] m = (Z e (d + 1) 315 0 [.ref 246, .int (iI xs0), .int (iI x2), .retAddr 0, .retAddr 0, .retAddr 0, .retAddr 0] [] m).bind (ZK e (d + 2) 313 13 [u0, u1, .int (iI x2)] [] m) := (s_il_2 p_313_9).trans <| (s_cv2 (Lc := [.ref 246, .int (iI xs0), .int (iI x2), .retAddr 0, .retAddr 0, .retAddr 0, .retAddr 0]) p_313_10 (by decide) (by decide) (zM_of zq_315) ⟨Nat.le_of_ble_eq_true rfl, Nat.le_of_ble_eq_true rfl⟩ rfl (m_rc hs_246 ⟨rfl, by decide⟩))
theorem b_313_13 {xs0 : Int} {u0 u1 u2 : Value} : Z e (d + 2) 313 13 [u0, u1, u2] [.int (iI xs0)] m = ri xs0 m := (s_reti p_313_13 (zM_of zq_313))
-- M.deal
theorem p_316_0 : zP1 316 0 = some (.aload_n 0, 0, 0, 0) := zp_l zq_316 rfl
theorem p_316_1 : zP1 316 1 = some (.iconst 0, 0, 0, 0) := zp_l zq_316 rfl
theorem p_316_2 : zP1 316 2 = some (.putfield 392, 11, 35, 0) := zp_r zq_316 rfl
theorem p_316_5 : zP1 316 5 = some (.iload_n 1, 0, 0, 0) := zp_l zq_316 rfl
theorem p_316_6 : zP1 316 6 = some (.invokestatic 378, 300, 1, 0) := zp_r zq_316 rfl
theorem p_316_9 : zP1 316 9 = some (.ifCond .eq 10, 0, 0, 0) := zp_l zq_316 rfl
theorem p_316_12 : zP1 316 12 = some (.iload_n 2, 0, 0, 0) := zp_l zq_316 rfl
theorem p_316_13 : zP1 316 13 = some (.invokestatic 378, 300, 1, 0) := zp_r zq_316 rfl
theorem p_316_16 : zP1 316 16 = some (.ifCond .ne 7, 0, 0, 0) := zp_l zq_316 rfl
theorem p_316_19 : zP1 316 19 = some (.iconst (-1), 0, 0, 0) := zp_l zq_316 rfl
theorem p_316_20 : zP1 316 20 = some (.goto 8, 0, 0, 0) := zp_l zq_316 rfl
theorem p_316_23 : zP1 316 23 = some (.aload_n 0, 0, 0, 0) := zp_l zq_316 rfl
theorem p_316_24 : zP1 316 24 = some (.iload_n 1, 0, 0, 0) := zp_l zq_316 rfl
theorem p_316_25 : zP1 316 25 = some (.invokevirtual 387, 307, 1, 11) := zp_r zq_316 rfl
theorem p_316_28 : zP1 316 28 = some (.istore 4, 0, 0, 0) := zp_l zq_316 rfl
theorem p_316_30 : zP1 316 30 = some (.iload 4, 0, 0, 0) := zp_l zq_316 rfl
theorem p_316_32 : zP1 316 32 = some (.ifCond .ge 5, 0, 0, 0) := zp_l zq_316 rfl
theorem p_316_35 : zP1 316 35 = some (.iconst 0, 0, 0, 0) := zp_l zq_316 rfl
theorem p_316_36 : zP1 316 36 = some (.ireturn, 0, 0, 0) := zp_l zq_316 rfl
theorem p_316_37 : zP1 316 37 = some (.aload_n 0, 0, 0, 0) := zp_l zq_316 rfl
theorem p_316_38 : zP1 316 38 = some (.iload 4, 0, 0, 0) := zp_l zq_316 rfl
theorem p_316_40 : zP1 316 40 = some (.putfield 395, 11, 36, 0) := zp_r zq_316 rfl
theorem p_316_43 : zP1 316 43 = some (.aload_n 0, 0, 0, 0) := zp_l zq_316 rfl
theorem p_316_44 : zP1 316 44 = some (.iconst 0, 0, 0, 0) := zp_l zq_316 rfl
theorem p_316_45 : zP1 316 45 = some (.putfield 413, 11, 37, 1) := zp_r zq_316 rfl
theorem p_316_48 : zP1 316 48 = some (.aload_n 0, 0, 0, 0) := zp_l zq_316 rfl
theorem p_316_49 : zP1 316 49 = some (.iload_n 2, 0, 0, 0) := zp_l zq_316 rfl
theorem p_316_50 : zP1 316 50 = some (.iload_n 3, 0, 0, 0) := zp_l zq_316 rfl
theorem p_316_51 : zP1 316 51 = some (.invokevirtual 410, 313, 2, 11) := zp_r zq_316 rfl
theorem p_316_54 : zP1 316 54 = some (.istore 5, 0, 0, 0) := zp_l zq_316 rfl
theorem p_316_56 : zP1 316 56 = some (.aload_n 0, 0, 0, 0) := zp_l zq_316 rfl
theorem p_316_57 : zP1 316 57 = some (.getfield 413, 11, 37, 0) := zp_r zq_316 rfl
theorem p_316_60 : zP1 316 60 = some (.ifCond .eq 8, 0, 0, 0) := zp_l zq_316 rfl
theorem p_316_63 : zP1 316 63 = some (.bipush (-15), 0, 0, 0) := zp_l zq_316 rfl
theorem p_316_65 : zP1 316 65 = some (.goto 5, 0, 0, 0) := zp_l zq_316 rfl
theorem p_316_68 : zP1 316 68 = some (.iload 5, 0, 0, 0) := zp_l zq_316 rfl
theorem p_316_70 : zP1 316 70 = some (.ireturn, 0, 0, 0) := zp_l zq_316 rfl
theorem b_316_0 {x1 : Int} {x2 : Int} {x3 : Int} : Z e (d + 3) 316 0 [.ref 246, .int (iI x1), .int (iI x2), .int (iI x3), .retAddr 0, .retAddr 0] [] m = ck ((¬ ((¬ (((wr 0) ≤ (wr x1)) ∧ ((wr x1) ≤ (wr 3)))) ∨ (¬ (((wr 0) ≤ (wr x2)) ∧ ((wr x2) ≤ (wr 3)))))) → ((0 ≤ (wr x1) ∧ (wr x1) < 4) ∧ ((((wr ((um m 246 35 0) 264 (wr x1))) = 1) → (0 ≤ (wr x1) ∧ (wr x1) < 4)) ∧ ((((wr ((um m 246 35 0) 264 (wr x1))) = 1) ∧ (((wr 0) ≤ (wr ((um m 246 35 0) 265 (wr x1)))) ∧ ((wr ((um m 246 35 0) 265 (wr x1))) ≤ (wr (((um m 246 35 0) 247 1) - 1))))) → (0 ≤ (wr x1) ∧ (wr x1) < 4))))) ((if (wr (if (¬ (((wr 0) ≤ (wr x1)) ∧ ((wr x1) ≤ (wr 3)))) ∨ (¬ (((wr 0) ≤ (wr x2)) ∧ ((wr x2) ≤ (wr 3)))) then (-1) else (if ((wr ((um m 246 35 0) 264 (wr x1))) = 1) ∧ (((wr 0) ≤ (wr ((um m 246 35 0) 265 (wr x1)))) ∧ ((wr ((um m 246 35 0) 265 (wr x1))) ≤ (wr (((um m 246 35 0) 247 1) - 1)))) then ((um m 246 35 0) 265 (wr x1)) else (-1)))) < 0 then ri 0 (um m 246 35 0) else (Z e (d + 2) 313 0 [.ref 246, .int (iI x2), .int (iI x3)] [] (um (um (um m 246 35 0) 246 36 (if (¬ (((wr 0) ≤ (wr x1)) ∧ ((wr x1) ≤ (wr 3)))) ∨ (¬ (((wr 0) ≤ (wr x2)) ∧ ((wr x2) ≤ (wr 3)))) then (-1) else (if ((wr ((um m 246 35 0) 264 (wr x1))) = 1) ∧ (((wr 0) ≤ (wr ((um m 246 35 0) 265 (wr x1)))) ∧ ((wr ((um m 246 35 0) 265 (wr x1))) ≤ (wr (((um m 246 35 0) 247 1) - 1)))) then ((um m 246 35 0) 265 (wr x1)) else (-1)))) 246 37 0)).bind (ZK e (d + 3) 316 54 [.ref 246, .int (iI x1), .int (iI x2), .int (iI x3), .int (iI (if (¬ (((wr 0) ≤ (wr x1)) ∧ ((wr x1) ≤ (wr 3)))) ∨ (¬ (((wr 0) ≤ (wr x2)) ∧ ((wr x2) ≤ (wr 3)))) then (-1) else (if ((wr ((um m 246 35 0) 264 (wr x1))) = 1) ∧ (((wr 0) ≤ (wr ((um m 246 35 0) 265 (wr x1)))) ∧ ((wr ((um m 246 35 0) 265 (wr x1))) ≤ (wr (((um m 246 35 0) 247 1) - 1)))) then ((um m 246 35 0) 265 (wr x1)) else (-1)))), .retAddr 0] [] (um (um (um m 246 35 0) 246 36 (if (¬ (((wr 0) ≤ (wr x1)) ∧ ((wr x1) ≤ (wr 3)))) ∨ (¬ (((wr 0) ≤ (wr x2)) ∧ ((wr x2) ≤ (wr 3)))) then (-1) else (if ((wr ((um m 246 35 0) 264 (wr x1))) = 1) ∧ (((wr 0) ≤ (wr ((um m 246 35 0) 265 (wr x1)))) ∧ ((wr ((um m 246 35 0) 265 (wr x1))) ≤ (wr (((um m 246 35 0) 247 1) - 1)))) then ((um m 246 35 0) 265 (wr x1)) else (-1)))) 246 37 0)))) := (s_al_0 p_316_0).trans <| (s_const p_316_1).trans <| (s_put p_316_2 hs_246 (by decide) rfl).trans <| (s_il_1 p_316_5).trans <| (s_cs1 (Lc := [.int (iI x1)]) p_316_6 (by decide) (zM_of zq_300) ⟨Nat.le_of_ble_eq_true rfl, Nat.le_of_ble_eq_true rfl⟩ rfl).trans <| (bd b_300_0).trans <| ri_k.trans <| Eq.trans (Eq.trans (Eq.trans (s_beq_t p_316_9 rfl) <| Eq.trans (ite_cg rfl ((s_il_2 p_316_12).trans <| (s_cs1 (Lc := [.int (iI x2)]) p_316_13 (by decide) (zM_of zq_300) ⟨Nat.le_of_ble_eq_true rfl, Nat.le_of_ble_eq_true rfl⟩ rfl).trans <| (bd b_300_0).trans <| ri_k.trans <| (s_bne_f p_316_16 rfl))) co_or) <| Eq.trans (ite_cg ((s_const p_316_19).trans <| (s_goto p_316_20 rfl).trans <| rfl) ((s_al_0 p_316_23).trans <| (s_il_1 p_316_24).trans <| (s_cv1 (Lc := [.ref 246, .int (iI x1)]) p_316_25 (by decide) (by decide) (zM_of zq_307) ⟨Nat.le_of_ble_eq_true rfl, Nat.le_of_ble_eq_true rfl⟩ rfl (m_rc hs_246 ⟨rfl, by decide⟩)).trans <| (bd b_307_0).trans <| ck_bind.trans <| Eq.trans (ck_cg fun k1 => ck_bind.trans <| ck_cg fun k2 => ri_k.trans <| rfl) ck_ck)) <| Eq.trans ck_b <| ck_cg fun _ => (phi1 (fun z0 => Z e (d + 3) 316 28 [.ref 246, .int (iI x1), .int (iI x2), .int (iI x3), .retAddr 0, .retAddr 0] [.int (iI z0)] (um m 246 35 0)))) <| ck_cg fun _ => (s_is_4 cat_i p_316_28).trans <| (s_il_4 p_316_30).trans <| Eq.trans ((s_z_ge_f p_316_32 rfl rfl)) <| ite_cg ((s_const p_316_35).trans <| (s_reti p_316_36 (zM_of zq_316))) ((s_al_0 p_316_37).trans <| (s_il_4 p_316_38).trans <| (s_put p_316_40 hs_246 (by decide) rfl).trans <| (s_al_0 p_316_43).trans <| (s_const p_316_44).trans <| (s_putk p_316_45 rfl hs_246 (by decide) rfl).trans <| (s_al_0 p_316_48).trans <| (s_il_2 p_316_49).trans <| (s_il_3 p_316_50).trans <| (s_cv2 (Lc := [.ref 246, .int (iI x2), .int (iI x3)]) p_316_51 (by decide) (by decide) (zM_of zq_313) ⟨Nat.le_of_ble_eq_true rfl, Nat.le_of_ble_eq_true rfl⟩ rfl (m_rc hs_246 ⟨rfl, by decide⟩)))
theorem b_316_54 {xs0 : Int} {u1 u2 u3 u4 u5 : Value} (hu4 : u4.category = 1) : Z e (d + 3) 316 54 [.ref 246, u1, u2, u3, u4, u5] [.int (iI xs0)] m = ri (if ¬ (wr (m 246 37)) = 0 then (-15) else xs0) m := (s_is_5 hu4 p_316_54).trans <| (s_al_0 p_316_56).trans <| (s_get p_316_57 hs_246 (by decide) rfl).trans <| Eq.trans (Eq.trans ((s_z_eq_f p_316_60 rfl rfl)) <| Eq.trans (ite_cg ((s_bip p_316_63 rfl).trans <| (s_goto p_316_65 rfl).trans <| rfl) ((s_il_5 p_316_68).trans <| rfl)) (phi1 (fun z0 => Z e (d + 3) 316 70 [.ref 246, u1, u2, u3, u4, .int (iI xs0)] [.int (iI z0)] m))) <| (s_reti p_316_70 (zM_of zq_316))
-- M.trace
theorem p_317_0 : zP1 317 0 = some (.iload_n 1, 0, 0, 0) := zp_l zq_317 rfl
theorem p_317_1 : zP1 317 1 = some (.iconst 0, 0, 0, 0) := zp_l zq_317 rfl
theorem p_317_2 : zP1 317 2 = some (.aload_n 0, 0, 0, 0) := zp_l zq_317 rfl
theorem p_317_3 : zP1 317 3 = some (.getfield 392, 11, 35, 0) := zp_r zq_317 rfl
theorem p_317_6 : zP1 317 6 = some (.iconst 1, 0, 0, 0) := zp_l zq_317 rfl
theorem p_317_7 : zP1 317 7 = some (.isub, 0, 0, 0) := zp_l zq_317 rfl
theorem p_317_8 : zP1 317 8 = some (.invokestatic 100, 199, 3, 0) := zp_r zq_317 rfl
theorem p_317_11 : zP1 317 11 = some (.ifCond .eq 12, 0, 0, 0) := zp_l zq_317 rfl
theorem p_317_14 : zP1 317 14 = some (.aload_n 0, 0, 0, 0) := zp_l zq_317 rfl
theorem p_317_15 : zP1 317 15 = some (.getfield 97, 11, 34, 0) := zp_r zq_317 rfl
theorem p_317_18 : zP1 317 18 = some (.iload_n 1, 0, 0, 0) := zp_l zq_317 rfl
theorem p_317_19 : zP1 317 19 = some (.iaload, 0, 0, 0) := zp_l zq_317 rfl
theorem p_317_20 : zP1 317 20 = some (.goto 5, 0, 0, 0) := zp_l zq_317 rfl
theorem p_317_23 : zP1 317 23 = some (.bipush (-3), 0, 0, 0) := zp_l zq_317 rfl
theorem p_317_25 : zP1 317 25 = some (.ireturn, 0, 0, 0) := zp_l zq_317 rfl
theorem b_317_0 {x1 : Int} : Z e (d + 1) 317 0 [.ref 246, .int (iI x1)] [] m = ck ((((wr 0) ≤ (wr x1)) ∧ ((wr x1) ≤ (wr ((m 246 35) - 1)))) → (0 ≤ (wr x1) ∧ (wr x1) < 30)) (ri (if ((wr 0) ≤ (wr x1)) ∧ ((wr x1) ≤ (wr ((m 246 35) - 1))) then (m 267 (wr x1)) else (-3)) m) := (s_il_1 p_317_0).trans <| (s_const p_317_1).trans <| (s_al_0 p_317_2).trans <| (s_get p_317_3 hs_246 (by decide) rfl).trans <| (s_const p_317_6).trans <| (s_isub p_317_7).trans <| (s_cs3 (Lc := [.int (iI x1), .int (iI 0), .int (iI ((m 246 35) - 1))]) p_317_8 (by decide) (zM_of zq_199) ⟨Nat.le_of_ble_eq_true rfl, Nat.le_of_ble_eq_true rfl⟩ rfl).trans <| (bd b_199_0).trans <| ri_k.trans <| Eq.trans (Eq.trans ((s_beq_f p_317_11 rfl)) <| Eq.trans (ite_cg ((s_al_0 p_317_14).trans <| (s_getr p_317_15 hs_246 (by decide) rfl).trans <| (s_il_1 p_317_18).trans <| (s_ald 30 p_317_19 hs_267 rfl (by decide)).trans <| ck_cg fun k1 => (s_goto p_317_20 rfl).trans <| rfl) ((s_bip p_317_23 rfl).trans <| rfl)) <| Eq.trans ck_a <| ck_cg fun _ => (phi1 (fun z0 => Z e (d + 1) 317 25 [.ref 246, .int (iI x1)] [.int (iI z0)] m))) <| ck_cg fun _ => (s_reti p_317_25 (zM_of zq_317))
-- M.many
theorem p_318_0 : zP1 318 0 = some (.iload_n 1, 0, 0, 0) := zp_l zq_318 rfl
theorem p_318_1 : zP1 318 1 = some (.tableswitch 163 0 13 #[71, 71, 71, 71, 71, 71, 71, 78, 123, 131, 139, 144, 149, 154], 0, 0, 0) := zp_l zq_318 rfl
theorem p_318_72 : zP1 318 72 = some (.aload_n 0, 0, 0, 0) := zp_l zq_318 rfl
theorem p_318_73 : zP1 318 73 = some (.getfield 9, 11, 0, 0) := zp_r zq_318 rfl
theorem p_318_76 : zP1 318 76 = some (.iload_n 1, 0, 0, 0) := zp_l zq_318 rfl
theorem p_318_77 : zP1 318 77 = some (.iaload, 0, 0, 0) := zp_l zq_318 rfl
theorem p_318_78 : zP1 318 78 = some (.ireturn, 0, 0, 0) := zp_l zq_318 rfl
theorem p_318_79 : zP1 318 79 = some (.iconst 0, 0, 0, 0) := zp_l zq_318 rfl
theorem p_318_80 : zP1 318 80 = some (.istore_n 2, 0, 0, 0) := zp_l zq_318 rfl
theorem p_318_81 : zP1 318 81 = some (.iconst 0, 0, 0, 0) := zp_l zq_318 rfl
theorem p_318_82 : zP1 318 82 = some (.istore_n 3, 0, 0, 0) := zp_l zq_318 rfl
theorem p_318_83 : zP1 318 83 = some (.iload_n 3, 0, 0, 0) := zp_l zq_318 rfl
theorem p_318_84 : zP1 318 84 = some (.aload_n 0, 0, 0, 0) := zp_l zq_318 rfl
theorem p_318_85 : zP1 318 85 = some (.getfield 9, 11, 0, 0) := zp_r zq_318 rfl
theorem p_318_88 : zP1 318 88 = some (.iconst 1, 0, 0, 0) := zp_l zq_318 rfl
theorem p_318_89 : zP1 318 89 = some (.iaload, 0, 0, 0) := zp_l zq_318 rfl
theorem p_318_90 : zP1 318 90 = some (.if_icmp .ge 32, 0, 0, 0) := zp_l zq_318 rfl
theorem p_318_93 : zP1 318 93 = some (.iload_n 2, 0, 0, 0) := zp_l zq_318 rfl
theorem p_318_94 : zP1 318 94 = some (.aload_n 0, 0, 0, 0) := zp_l zq_318 rfl
theorem p_318_95 : zP1 318 95 = some (.getfield 9, 11, 0, 0) := zp_r zq_318 rfl
theorem p_318_98 : zP1 318 98 = some (.iload_n 3, 0, 0, 0) := zp_l zq_318 rfl
theorem p_318_99 : zP1 318 99 = some (.iconst 4, 0, 0, 0) := zp_l zq_318 rfl
theorem p_318_100 : zP1 318 100 = some (.invokestatic 129, 204, 2, 0) := zp_r zq_318 rfl
theorem p_318_103 : zP1 318 103 = some (.iaload, 0, 0, 0) := zp_l zq_318 rfl
theorem p_318_104 : zP1 318 104 = some (.bipush (-3), 0, 0, 0) := zp_l zq_318 rfl
theorem p_318_106 : zP1 318 106 = some (.if_icmp .eq 7, 0, 0, 0) := zp_l zq_318 rfl
theorem p_318_109 : zP1 318 109 = some (.iconst 1, 0, 0, 0) := zp_l zq_318 rfl
theorem p_318_110 : zP1 318 110 = some (.goto 4, 0, 0, 0) := zp_l zq_318 rfl
theorem p_318_113 : zP1 318 113 = some (.iconst 0, 0, 0, 0) := zp_l zq_318 rfl
theorem p_318_114 : zP1 318 114 = some (.iadd, 0, 0, 0) := zp_l zq_318 rfl
theorem p_318_115 : zP1 318 115 = some (.istore_n 2, 0, 0, 0) := zp_l zq_318 rfl
theorem p_318_116 : zP1 318 116 = some (.iinc 3 1, 0, 0, 0) := zp_l zq_318 rfl
theorem p_318_119 : zP1 318 119 = some (.goto (-36), 0, 0, 0) := zp_l zq_318 rfl
theorem p_318_122 : zP1 318 122 = some (.iload_n 2, 0, 0, 0) := zp_l zq_318 rfl
theorem p_318_123 : zP1 318 123 = some (.ireturn, 0, 0, 0) := zp_l zq_318 rfl
theorem p_318_124 : zP1 318 124 = some (.aload_n 0, 0, 0, 0) := zp_l zq_318 rfl
theorem p_318_125 : zP1 318 125 = some (.getfield 9, 11, 0, 0) := zp_r zq_318 rfl
theorem p_318_128 : zP1 318 128 = some (.bipush 7, 0, 0, 0) := zp_l zq_318 rfl
theorem p_318_130 : zP1 318 130 = some (.iaload, 0, 0, 0) := zp_l zq_318 rfl
theorem p_318_131 : zP1 318 131 = some (.ireturn, 0, 0, 0) := zp_l zq_318 rfl
theorem p_318_132 : zP1 318 132 = some (.aload_n 0, 0, 0, 0) := zp_l zq_318 rfl
theorem p_318_133 : zP1 318 133 = some (.getfield 9, 11, 0, 0) := zp_r zq_318 rfl
theorem p_318_136 : zP1 318 136 = some (.bipush 8, 0, 0, 0) := zp_l zq_318 rfl
theorem p_318_138 : zP1 318 138 = some (.iaload, 0, 0, 0) := zp_l zq_318 rfl
theorem p_318_139 : zP1 318 139 = some (.ireturn, 0, 0, 0) := zp_l zq_318 rfl
theorem p_318_140 : zP1 318 140 = some (.aload_n 0, 0, 0, 0) := zp_l zq_318 rfl
theorem p_318_141 : zP1 318 141 = some (.getfield 363, 11, 7, 0) := zp_r zq_318 rfl
theorem p_318_144 : zP1 318 144 = some (.ireturn, 0, 0, 0) := zp_l zq_318 rfl
theorem p_318_145 : zP1 318 145 = some (.aload_n 0, 0, 0, 0) := zp_l zq_318 rfl
theorem p_318_146 : zP1 318 146 = some (.getfield 172, 11, 4, 0) := zp_r zq_318 rfl
theorem p_318_149 : zP1 318 149 = some (.ireturn, 0, 0, 0) := zp_l zq_318 rfl
theorem p_318_150 : zP1 318 150 = some (.aload_n 0, 0, 0, 0) := zp_l zq_318 rfl
theorem p_318_151 : zP1 318 151 = some (.getfield 392, 11, 35, 0) := zp_r zq_318 rfl
theorem p_318_154 : zP1 318 154 = some (.ireturn, 0, 0, 0) := zp_l zq_318 rfl
theorem p_318_155 : zP1 318 155 = some (.aload_n 0, 0, 0, 0) := zp_l zq_318 rfl
theorem p_318_156 : zP1 318 156 = some (.iconst (-1), 0, 0, 0) := zp_l zq_318 rfl
theorem p_318_157 : zP1 318 157 = some (.invokevirtual 372, 297, 1, 11) := zp_r zq_318 rfl
theorem p_318_160 : zP1 318 160 = some (.invokestatic 369, 207, 1, 0) := zp_r zq_318 rfl
theorem p_318_163 : zP1 318 163 = some (.ireturn, 0, 0, 0) := zp_l zq_318 rfl
theorem p_318_164 : zP1 318 164 = some (.iconst (-1), 0, 0, 0) := zp_l zq_318 rfl
theorem p_318_165 : zP1 318 165 = some (.ireturn, 0, 0, 0) := zp_l zq_318 rfl
theorem b_318_0 {x1 : Int} : Z e (d + 1) 318 0 [.ref 246, .int (iI x1), .retAddr 0, .retAddr 0] [] m = (if (wr x1) = 0 then ck (0 ≤ (wr x1) ∧ (wr x1) < 2737) (ri (m 247 (wr x1)) m) else (if (wr x1) = 1 then ck (0 ≤ (wr x1) ∧ (wr x1) < 2737) (ri (m 247 (wr x1)) m) else (if (wr x1) = 2 then ck (0 ≤ (wr x1) ∧ (wr x1) < 2737) (ri (m 247 (wr x1)) m) else (if (wr x1) = 3 then ck (0 ≤ (wr x1) ∧ (wr x1) < 2737) (ri (m 247 (wr x1)) m) else (if (wr x1) = 4 then ck (0 ≤ (wr x1) ∧ (wr x1) < 2737) (ri (m 247 (wr x1)) m) else (if (wr x1) = 5 then ck (0 ≤ (wr x1) ∧ (wr x1) < 2737) (ri (m 247 (wr x1)) m) else (if (wr x1) = 6 then ck (0 ≤ (wr x1) ∧ (wr x1) < 2737) (ri (m 247 (wr x1)) m) else (if (wr x1) = 7 then Z e (d + 1) 318 83 [.ref 246, .int (iI x1), .int (iI 0), .int (iI 0)] [] m else (if (wr x1) = 8 then ri (m 247 7) m else (if (wr x1) = 9 then ri (m 247 8) m else (if (wr x1) = 10 then ri (m 246 7) m else (if (wr x1) = 11 then ri (m 246 4) m else (if (wr x1) = 12 then ri (m 246 35) m else (if (wr x1) = 13 then (Z e d 297 0 [.ref 246, .int (iI (-1)), .retAddr 0, .retAddr 0] [] m).bind (ZK e (d + 1) 318 160 [.ref 246, .int (iI x1), .retAddr 0, .retAddr 0] [] m) else ri (-1) m)))))))))))))) := (s_il_1 p_318_0).trans <| (s_tsw (ts := [(0, 72), (1, 72), (2, 72), (3, 72), (4, 72), (5, 72), (6, 72), (7, 79), (8, 124), (9, 132), (10, 140), (11, 145), (12, 150), (13, 155)]) (td := 164) p_318_1 rfl (by decide) rfl rfl).trans <| ite_cg ((s_al_0 p_318_72).trans <| (s_getr p_318_73 hs_246 (by decide) rfl).trans <| (s_il_1 p_318_76).trans <| (s_ald 2737 p_318_77 hs_247 rfl (by decide)).trans <| ck_cg fun k1 => (s_reti p_318_78 (zM_of zq_318))) (ite_cg ((s_al_0 p_318_72).trans <| (s_getr p_318_73 hs_246 (by decide) rfl).trans <| (s_il_1 p_318_76).trans <| (s_ald 2737 p_318_77 hs_247 rfl (by decide)).trans <| ck_cg fun k2 => (s_reti p_318_78 (zM_of zq_318))) (ite_cg ((s_al_0 p_318_72).trans <| (s_getr p_318_73 hs_246 (by decide) rfl).trans <| (s_il_1 p_318_76).trans <| (s_ald 2737 p_318_77 hs_247 rfl (by decide)).trans <| ck_cg fun k3 => (s_reti p_318_78 (zM_of zq_318))) (ite_cg ((s_al_0 p_318_72).trans <| (s_getr p_318_73 hs_246 (by decide) rfl).trans <| (s_il_1 p_318_76).trans <| (s_ald 2737 p_318_77 hs_247 rfl (by decide)).trans <| ck_cg fun k4 => (s_reti p_318_78 (zM_of zq_318))) (ite_cg ((s_al_0 p_318_72).trans <| (s_getr p_318_73 hs_246 (by decide) rfl).trans <| (s_il_1 p_318_76).trans <| (s_ald 2737 p_318_77 hs_247 rfl (by decide)).trans <| ck_cg fun k5 => (s_reti p_318_78 (zM_of zq_318))) (ite_cg ((s_al_0 p_318_72).trans <| (s_getr p_318_73 hs_246 (by decide) rfl).trans <| (s_il_1 p_318_76).trans <| (s_ald 2737 p_318_77 hs_247 rfl (by decide)).trans <| ck_cg fun k6 => (s_reti p_318_78 (zM_of zq_318))) (ite_cg ((s_al_0 p_318_72).trans <| (s_getr p_318_73 hs_246 (by decide) rfl).trans <| (s_il_1 p_318_76).trans <| (s_ald 2737 p_318_77 hs_247 rfl (by decide)).trans <| ck_cg fun k7 => (s_reti p_318_78 (zM_of zq_318))) (ite_cg ((s_const p_318_79).trans <| (s_is_2 cat_i p_318_80).trans <| (s_const p_318_81).trans <| (s_is_3 cat_i p_318_82).trans <| rfl) (ite_cg ((s_al_0 p_318_124).trans <| (s_getr p_318_125 hs_246 (by decide) rfl).trans <| (s_bip p_318_128 rfl).trans <| (s_aldc p_318_130 hs_247 (by decide) wl_7 (by decide)).trans <| (s_reti p_318_131 (zM_of zq_318))) (ite_cg ((s_al_0 p_318_132).trans <| (s_getr p_318_133 hs_246 (by decide) rfl).trans <| (s_bip p_318_136 rfl).trans <| (s_aldc p_318_138 hs_247 (by decide) wl_8 (by decide)).trans <| (s_reti p_318_139 (zM_of zq_318))) (ite_cg ((s_al_0 p_318_140).trans <| (s_get p_318_141 hs_246 (by decide) rfl).trans <| (s_reti p_318_144 (zM_of zq_318))) (ite_cg ((s_al_0 p_318_145).trans <| (s_get p_318_146 hs_246 (by decide) rfl).trans <| (s_reti p_318_149 (zM_of zq_318))) (ite_cg ((s_al_0 p_318_150).trans <| (s_get p_318_151 hs_246 (by decide) rfl).trans <| (s_reti p_318_154 (zM_of zq_318))) (ite_cg ((s_al_0 p_318_155).trans <| (s_const p_318_156).trans <| (s_cv1 (Lc := [.ref 246, .int (iI (-1)), .retAddr 0, .retAddr 0]) p_318_157 (by decide) (by decide) (zM_of zq_297) ⟨Nat.le_of_ble_eq_true rfl, Nat.le_of_ble_eq_true rfl⟩ rfl (m_rc hs_246 ⟨rfl, by decide⟩))) ((s_const p_318_164).trans <| (s_reti p_318_165 (zM_of zq_318))))))))))))))))
theorem b_318_83 {x2 : Int} {x3 : Int} {u1 : Value} (hu1 : u1.category = 1) : Z e (d + 1) 318 83 [.ref 246, u1, .int (iI x2), .int (iI x3)] [] m = (if (wr x3) < (wr (m 247 1)) then ck (0 ≤ (wr ((110 + (9 * x3)) + 4)) ∧ (wr ((110 + (9 * x3)) + 4)) < 2737) (Z e (d + 1) 318 83 [.ref 246, u1, .int (iI (x2 + (if ¬ (wr (m 247 (wr ((110 + (9 * x3)) + 4)))) = (-3) then 1 else 0))), .int (iI (x3 + 1))] [] m) else ri x2 m) := (s_il_3 p_318_83).trans <| (s_al_0 p_318_84).trans <| (s_getr p_318_85 hs_246 (by decide) rfl).trans <| (s_const p_318_88).trans <| (s_aldc p_318_89 hs_247 (by decide) wl_1 (by decide)).trans <| Eq.trans ((s_c_ge_f p_318_90 rfl rfl rfl)) <| ite_cg ((s_il_2 p_318_93).trans <| (s_al_0 p_318_94).trans <| (s_getr p_318_95 hs_246 (by decide) rfl).trans <| (s_il_3 p_318_98).trans <| (s_const p_318_99).trans <| (s_cs2 (Lc := [.int (iI x3), .int (iI 4)]) p_318_100 (by decide) (zM_of zq_204) ⟨Nat.le_of_ble_eq_true rfl, Nat.le_of_ble_eq_true rfl⟩ rfl).trans <| (bd b_204_0).trans <| ri_k.trans <| (s_ald 2737 p_318_103 hs_247 rfl (by decide)).trans <| ck_cg fun k2 => (s_bip p_318_104 rfl).trans <| Eq.trans (Eq.trans ((s_c_eq_f p_318_106 rfl rfl wl_m3)) <| Eq.trans (ite_cg ((s_const p_318_109).trans <| (s_goto p_318_110 rfl).trans <| rfl) ((s_const p_318_113).trans <| rfl)) (phi1 (fun z0 => Z e (d + 1) 318 114 [.ref 246, u1, .int (iI x2), .int (iI x3)] [.int (iI z0), .int (iI x2)] m))) <| (s_iadd p_318_114).trans <| (s_is_2 hu1 p_318_115).trans <| (s_inc_3 cat_i p_318_116).trans <| (s_goto p_318_119 rfl).trans <| rfl) ((s_il_2 p_318_122).trans <| (s_reti p_318_123 (zM_of zq_318)))
theorem b_318_160 {xs0 : Int} {u0 u1 u2 u3 : Value} : Z e (d + 1) 318 160 [u0, u1, u2, u3] [.int (iI xs0)] m = (Z e d 207 0 [.int (iI xs0), .retAddr 0, .retAddr 0] [] m).bind (ZK e (d + 1) 318 163 [u0, u1, u2, u3] [] m) := (s_cs1 (Lc := [.int (iI xs0), .retAddr 0, .retAddr 0]) p_318_160 (by decide) (zM_of zq_207) ⟨Nat.le_of_ble_eq_true rfl, Nat.le_of_ble_eq_true rfl⟩ rfl)
theorem b_318_163 {xs0 : Int} {u0 u1 u2 u3 : Value} : Z e (d + 1) 318 163 [u0, u1, u2, u3] [.int (iI xs0)] m = ri xs0 m := (s_reti p_318_163 (zM_of zq_318))
-- M.keep
theorem p_319_0 : zP1 319 0 = some (.iconst 0, 0, 0, 0) := zp_l zq_319 rfl
theorem p_319_1 : zP1 319 1 = some (.istore_n 1, 0, 0, 0) := zp_l zq_319 rfl
theorem p_319_2 : zP1 319 2 = some (.iload_n 1, 0, 0, 0) := zp_l zq_319 rfl
theorem p_319_3 : zP1 319 3 = some (.sipush 2737, 0, 0, 0) := zp_l zq_319 rfl
theorem p_319_6 : zP1 319 6 = some (.if_icmp .ge 21, 0, 0, 0) := zp_l zq_319 rfl
theorem p_319_9 : zP1 319 9 = some (.aload_n 0, 0, 0, 0) := zp_l zq_319 rfl
theorem p_319_10 : zP1 319 10 = some (.getfield 13, 11, 1, 0) := zp_r zq_319 rfl
theorem p_319_13 : zP1 319 13 = some (.iload_n 1, 0, 0, 0) := zp_l zq_319 rfl
theorem p_319_14 : zP1 319 14 = some (.aload_n 0, 0, 0, 0) := zp_l zq_319 rfl
theorem p_319_15 : zP1 319 15 = some (.getfield 9, 11, 0, 0) := zp_r zq_319 rfl
theorem p_319_18 : zP1 319 18 = some (.iload_n 1, 0, 0, 0) := zp_l zq_319 rfl
theorem p_319_19 : zP1 319 19 = some (.iaload, 0, 0, 0) := zp_l zq_319 rfl
theorem p_319_20 : zP1 319 20 = some (.iastore, 0, 0, 0) := zp_l zq_319 rfl
theorem p_319_21 : zP1 319 21 = some (.iinc 1 1, 0, 0, 0) := zp_l zq_319 rfl
theorem p_319_24 : zP1 319 24 = some (.goto (-22), 0, 0, 0) := zp_l zq_319 rfl
theorem p_319_27 : zP1 319 27 = some (.aload_n 0, 0, 0, 0) := zp_l zq_319 rfl
theorem p_319_28 : zP1 319 28 = some (.iconst 1, 0, 0, 0) := zp_l zq_319 rfl
theorem p_319_29 : zP1 319 29 = some (.putfield 419, 11, 2, 1) := zp_r zq_319 rfl
theorem p_319_32 : zP1 319 32 = some (.iconst 1, 0, 0, 0) := zp_l zq_319 rfl
theorem p_319_33 : zP1 319 33 = some (.ireturn, 0, 0, 0) := zp_l zq_319 rfl
theorem b_319_0 : Z e d 319 0 [.ref 246, .retAddr 0] [] m = Z e d 319 2 [.ref 246, .int (iI 0)] [] m := (s_const p_319_0).trans <| (s_is_1 cat_r p_319_1).trans <| rfl
theorem b_319_2 {x1 : Int} : Z e d 319 2 [.ref 246, .int (iI x1)] [] m = (if (wr x1) < 2737 then ck (0 ≤ (wr x1) ∧ (wr x1) < 2737) (ck (0 ≤ (wr x1) ∧ (wr x1) < 2737) (Z e d 319 2 [.ref 246, .int (iI (x1 + 1))] [] (um m 248 (wr x1) (m 247 (wr x1))))) else ri 1 (um m 246 2 1)) := (s_il_1 p_319_2).trans <| (s_sip p_319_3 rfl).trans <| Eq.trans ((s_c_ge_f p_319_6 rfl rfl wl_2737)) <| ite_cg ((s_al_0 p_319_9).trans <| (s_getr p_319_10 hs_246 (by decide) rfl).trans <| (s_il_1 p_319_13).trans <| (s_al_0 p_319_14).trans <| (s_getr p_319_15 hs_246 (by decide) rfl).trans <| (s_il_1 p_319_18).trans <| (s_ald 2737 p_319_19 hs_247 rfl (by decide)).trans <| ck_cg fun k2 => (s_ast 2737 p_319_20 hs_248 rfl).trans <| ck_cg fun k3 => (s_inc_1 cat_r p_319_21).trans <| (s_goto p_319_24 rfl).trans <| rfl) ((s_al_0 p_319_27).trans <| (s_const p_319_28).trans <| (s_putk p_319_29 rfl hs_246 (by decide) rfl).trans <| (s_const p_319_32).trans <| (s_reti p_319_33 (zM_of zq_319)))
-- M.again
theorem p_320_0 : zP1 320 0 = some (.aload_n 0, 0, 0, 0) := zp_l zq_320 rfl
theorem p_320_1 : zP1 320 1 = some (.getfield 419, 11, 2, 0) := zp_r zq_320 rfl
theorem p_320_4 : zP1 320 4 = some (.ifCond .ne 6, 0, 0, 0) := zp_l zq_320 rfl
theorem p_320_7 : zP1 320 7 = some (.bipush (-3), 0, 0, 0) := zp_l zq_320 rfl
theorem p_320_9 : zP1 320 9 = some (.ireturn, 0, 0, 0) := zp_l zq_320 rfl
theorem p_320_10 : zP1 320 10 = some (.iconst 0, 0, 0, 0) := zp_l zq_320 rfl
theorem p_320_11 : zP1 320 11 = some (.istore_n 1, 0, 0, 0) := zp_l zq_320 rfl
theorem p_320_12 : zP1 320 12 = some (.iload_n 1, 0, 0, 0) := zp_l zq_320 rfl
theorem p_320_13 : zP1 320 13 = some (.sipush 2737, 0, 0, 0) := zp_l zq_320 rfl
theorem p_320_16 : zP1 320 16 = some (.if_icmp .ge 21, 0, 0, 0) := zp_l zq_320 rfl
theorem p_320_19 : zP1 320 19 = some (.aload_n 0, 0, 0, 0) := zp_l zq_320 rfl
theorem p_320_20 : zP1 320 20 = some (.getfield 9, 11, 0, 0) := zp_r zq_320 rfl
theorem p_320_23 : zP1 320 23 = some (.iload_n 1, 0, 0, 0) := zp_l zq_320 rfl
theorem p_320_24 : zP1 320 24 = some (.aload_n 0, 0, 0, 0) := zp_l zq_320 rfl
theorem p_320_25 : zP1 320 25 = some (.getfield 13, 11, 1, 0) := zp_r zq_320 rfl
theorem p_320_28 : zP1 320 28 = some (.iload_n 1, 0, 0, 0) := zp_l zq_320 rfl
theorem p_320_29 : zP1 320 29 = some (.iaload, 0, 0, 0) := zp_l zq_320 rfl
theorem p_320_30 : zP1 320 30 = some (.iastore, 0, 0, 0) := zp_l zq_320 rfl
theorem p_320_31 : zP1 320 31 = some (.iinc 1 1, 0, 0, 0) := zp_l zq_320 rfl
theorem p_320_34 : zP1 320 34 = some (.goto (-22), 0, 0, 0) := zp_l zq_320 rfl
theorem p_320_37 : zP1 320 37 = some (.aload_n 0, 0, 0, 0) := zp_l zq_320 rfl
theorem p_320_38 : zP1 320 38 = some (.iconst 0, 0, 0, 0) := zp_l zq_320 rfl
theorem p_320_39 : zP1 320 39 = some (.putfield 121, 11, 12, 1) := zp_r zq_320 rfl
theorem p_320_42 : zP1 320 42 = some (.iconst 1, 0, 0, 0) := zp_l zq_320 rfl
theorem p_320_43 : zP1 320 43 = some (.ireturn, 0, 0, 0) := zp_l zq_320 rfl
theorem b_320_0 : Z e d 320 0 [.ref 246, .retAddr 0] [] m = (if (wr (m 246 2)) = 0 then ri (-3) m else Z e d 320 12 [.ref 246, .int (iI 0)] [] m) := (s_al_0 p_320_0).trans <| (s_get p_320_1 hs_246 (by decide) rfl).trans <| Eq.trans ((s_z_ne_f p_320_4 rfl rfl)) <| ite_cg ((s_bip p_320_7 rfl).trans <| (s_reti p_320_9 (zM_of zq_320))) ((s_const p_320_10).trans <| (s_is_1 cat_r p_320_11).trans <| rfl)
theorem b_320_12 {x1 : Int} : Z e d 320 12 [.ref 246, .int (iI x1)] [] m = (if (wr x1) < 2737 then ck (0 ≤ (wr x1) ∧ (wr x1) < 2737) (ck (0 ≤ (wr x1) ∧ (wr x1) < 2737) (Z e d 320 12 [.ref 246, .int (iI (x1 + 1))] [] (um m 247 (wr x1) (m 248 (wr x1))))) else ri 1 (um m 246 12 0)) := (s_il_1 p_320_12).trans <| (s_sip p_320_13 rfl).trans <| Eq.trans ((s_c_ge_f p_320_16 rfl rfl wl_2737)) <| ite_cg ((s_al_0 p_320_19).trans <| (s_getr p_320_20 hs_246 (by decide) rfl).trans <| (s_il_1 p_320_23).trans <| (s_al_0 p_320_24).trans <| (s_getr p_320_25 hs_246 (by decide) rfl).trans <| (s_il_1 p_320_28).trans <| (s_ald 2737 p_320_29 hs_248 rfl (by decide)).trans <| ck_cg fun k2 => (s_ast 2737 p_320_30 hs_247 rfl).trans <| ck_cg fun k3 => (s_inc_1 cat_r p_320_31).trans <| (s_goto p_320_34 rfl).trans <| rfl) ((s_al_0 p_320_37).trans <| (s_const p_320_38).trans <| (s_putk p_320_39 rfl hs_246 (by decide) rfl).trans <| (s_const p_320_42).trans <| (s_reti p_320_43 (zM_of zq_320)))
end BK
