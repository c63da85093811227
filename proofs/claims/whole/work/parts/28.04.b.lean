/-! Equations of blocks. By program. -/
section BK
variable {e : List Int32 × Value} {d : Nat} {m : zMm}
-- P.deed
theorem p_153_0 : zP1 153 0 = some (.aload_n 0, 0, 0, 0) := zp_l zq_153 rfl
theorem p_153_1 : zP1 153 1 = some (.iload_n 1, 0, 0, 0) := zp_l zq_153 rfl
theorem p_153_2 : zP1 153 2 = some (.invokevirtual 123, 197, 1, 10) := zp_r zq_153 rfl
theorem p_153_5 : zP1 153 5 = some (.ifCond .ne 16, 0, 0, 0) := zp_l zq_153 rfl
theorem p_153_8 : zP1 153 8 = some (.iload_n 3, 0, 0, 0) := zp_l zq_153 rfl
theorem p_153_9 : zP1 153 9 = some (.iconst (-1), 0, 0, 0) := zp_l zq_153 rfl
theorem p_153_10 : zP1 153 10 = some (.if_icmp .eq 13, 0, 0, 0) := zp_l zq_153 rfl
theorem p_153_13 : zP1 153 13 = some (.aload_n 0, 0, 0, 0) := zp_l zq_153 rfl
theorem p_153_14 : zP1 153 14 = some (.iload_n 3, 0, 0, 0) := zp_l zq_153 rfl
theorem p_153_15 : zP1 153 15 = some (.invokevirtual 123, 197, 1, 10) := zp_r zq_153 rfl
theorem p_153_18 : zP1 153 18 = some (.ifCond .eq 5, 0, 0, 0) := zp_l zq_153 rfl
theorem p_153_21 : zP1 153 21 = some (.iconst (-1), 0, 0, 0) := zp_l zq_153 rfl
theorem p_153_22 : zP1 153 22 = some (.ireturn, 0, 0, 0) := zp_l zq_153 rfl
theorem p_153_23 : zP1 153 23 = some (.iload_n 2, 0, 0, 0) := zp_l zq_153 rfl
theorem p_153_24 : zP1 153 24 = some (.ifCond .lt 17, 0, 0, 0) := zp_l zq_153 rfl
theorem p_153_27 : zP1 153 27 = some (.iload_n 2, 0, 0, 0) := zp_l zq_153 rfl
theorem p_153_28 : zP1 153 28 = some (.bipush 6, 0, 0, 0) := zp_l zq_153 rfl
theorem p_153_30 : zP1 153 30 = some (.if_icmp .ge 11, 0, 0, 0) := zp_l zq_153 rfl
theorem p_153_33 : zP1 153 33 = some (.iload 5, 0, 0, 0) := zp_l zq_153 rfl
theorem p_153_35 : zP1 153 35 = some (.invokestatic 86, 194, 1, 0) := zp_r zq_153 rfl
theorem p_153_38 : zP1 153 38 = some (.ifCond .eq 5, 0, 0, 0) := zp_l zq_153 rfl
theorem p_153_41 : zP1 153 41 = some (.iconst (-1), 0, 0, 0) := zp_l zq_153 rfl
theorem p_153_42 : zP1 153 42 = some (.ireturn, 0, 0, 0) := zp_l zq_153 rfl
theorem p_153_43 : zP1 153 43 = some (.iload 4, 0, 0, 0) := zp_l zq_153 rfl
theorem p_153_45 : zP1 153 45 = some (.ifCond .lt 30, 0, 0, 0) := zp_l zq_153 rfl
theorem p_153_48 : zP1 153 48 = some (.iload 4, 0, 0, 0) := zp_l zq_153 rfl
theorem p_153_50 : zP1 153 50 = some (.aload_n 0, 0, 0, 0) := zp_l zq_153 rfl
theorem p_153_51 : zP1 153 51 = some (.getfield 10, 10, 0, 0) := zp_r zq_153 rfl
theorem p_153_54 : zP1 153 54 = some (.getfield 78, 9, 0, 0) := zp_r zq_153 rfl
theorem p_153_57 : zP1 153 57 = some (.if_icmp .gt 18, 0, 0, 0) := zp_l zq_153 rfl
theorem p_153_60 : zP1 153 60 = some (.iload 6, 0, 0, 0) := zp_l zq_153 rfl
theorem p_153_62 : zP1 153 62 = some (.iload 4, 0, 0, 0) := zp_l zq_153 rfl
theorem p_153_64 : zP1 153 64 = some (.if_icmp .lt 11, 0, 0, 0) := zp_l zq_153 rfl
theorem p_153_67 : zP1 153 67 = some (.iload 6, 0, 0, 0) := zp_l zq_153 rfl
theorem p_153_69 : zP1 153 69 = some (.sipush 9999, 0, 0, 0) := zp_l zq_153 rfl
theorem p_153_72 : zP1 153 72 = some (.if_icmp .le 5, 0, 0, 0) := zp_l zq_153 rfl
theorem p_153_75 : zP1 153 75 = some (.iconst (-1), 0, 0, 0) := zp_l zq_153 rfl
theorem p_153_76 : zP1 153 76 = some (.ireturn, 0, 0, 0) := zp_l zq_153 rfl
theorem p_153_77 : zP1 153 77 = some (.aload_n 0, 0, 0, 0) := zp_l zq_153 rfl
theorem p_153_78 : zP1 153 78 = some (.getfield 10, 10, 0, 0) := zp_r zq_153 rfl
theorem p_153_81 : zP1 153 81 = some (.getfield 219, 9, 7, 0) := zp_r zq_153 rfl
theorem p_153_84 : zP1 153 84 = some (.invokevirtual 114, 103, 0, 7) := zp_r zq_153 rfl
theorem p_153_87 : zP1 153 87 = some (.ifCond .eq 6, 0, 0, 0) := zp_l zq_153 rfl
theorem p_153_90 : zP1 153 90 = some (.bipush (-2), 0, 0, 0) := zp_l zq_153 rfl
theorem p_153_92 : zP1 153 92 = some (.ireturn, 0, 0, 0) := zp_l zq_153 rfl
theorem p_153_93 : zP1 153 93 = some (.aload_n 0, 0, 0, 0) := zp_l zq_153 rfl
theorem p_153_94 : zP1 153 94 = some (.getfield 10, 10, 0, 0) := zp_r zq_153 rfl
theorem p_153_97 : zP1 153 97 = some (.getfield 219, 9, 7, 0) := zp_r zq_153 rfl
theorem p_153_100 : zP1 153 100 = some (.invokevirtual 140, 106, 0, 7) := zp_r zq_153 rfl
theorem p_153_103 : zP1 153 103 = some (.istore 7, 0, 0, 0) := zp_l zq_153 rfl
theorem p_153_105 : zP1 153 105 = some (.aload_n 0, 0, 0, 0) := zp_l zq_153 rfl
theorem p_153_106 : zP1 153 106 = some (.getfield 10, 10, 0, 0) := zp_r zq_153 rfl
theorem p_153_109 : zP1 153 109 = some (.getfield 219, 9, 7, 0) := zp_r zq_153 rfl
theorem p_153_112 : zP1 153 112 = some (.iload 7, 0, 0, 0) := zp_l zq_153 rfl
theorem p_153_114 : zP1 153 114 = some (.iconst 0, 0, 0, 0) := zp_l zq_153 rfl
theorem p_153_115 : zP1 153 115 = some (.iload_n 1, 0, 0, 0) := zp_l zq_153 rfl
theorem p_153_116 : zP1 153 116 = some (.invokevirtual 129, 105, 3, 7) := zp_r zq_153 rfl
theorem p_153_119 : zP1 153 119 = some (.aload_n 0, 0, 0, 0) := zp_l zq_153 rfl
theorem p_153_120 : zP1 153 120 = some (.getfield 10, 10, 0, 0) := zp_r zq_153 rfl
theorem p_153_123 : zP1 153 123 = some (.getfield 219, 9, 7, 0) := zp_r zq_153 rfl
theorem p_153_126 : zP1 153 126 = some (.iload 7, 0, 0, 0) := zp_l zq_153 rfl
theorem p_153_128 : zP1 153 128 = some (.iconst 1, 0, 0, 0) := zp_l zq_153 rfl
theorem p_153_129 : zP1 153 129 = some (.iload_n 2, 0, 0, 0) := zp_l zq_153 rfl
theorem p_153_130 : zP1 153 130 = some (.invokevirtual 129, 105, 3, 7) := zp_r zq_153 rfl
theorem p_153_133 : zP1 153 133 = some (.aload_n 0, 0, 0, 0) := zp_l zq_153 rfl
theorem p_153_134 : zP1 153 134 = some (.getfield 10, 10, 0, 0) := zp_r zq_153 rfl
theorem p_153_137 : zP1 153 137 = some (.getfield 219, 9, 7, 0) := zp_r zq_153 rfl
theorem p_153_140 : zP1 153 140 = some (.iload 7, 0, 0, 0) := zp_l zq_153 rfl
theorem p_153_142 : zP1 153 142 = some (.iconst 2, 0, 0, 0) := zp_l zq_153 rfl
theorem p_153_143 : zP1 153 143 = some (.iload_n 3, 0, 0, 0) := zp_l zq_153 rfl
theorem p_153_144 : zP1 153 144 = some (.invokevirtual 129, 105, 3, 7) := zp_r zq_153 rfl
theorem p_153_147 : zP1 153 147 = some (.aload_n 0, 0, 0, 0) := zp_l zq_153 rfl
theorem p_153_148 : zP1 153 148 = some (.getfield 10, 10, 0, 0) := zp_r zq_153 rfl
theorem p_153_151 : zP1 153 151 = some (.getfield 219, 9, 7, 0) := zp_r zq_153 rfl
theorem p_153_154 : zP1 153 154 = some (.iload 7, 0, 0, 0) := zp_l zq_153 rfl
theorem p_153_156 : zP1 153 156 = some (.iconst 3, 0, 0, 0) := zp_l zq_153 rfl
theorem p_153_157 : zP1 153 157 = some (.iload 4, 0, 0, 0) := zp_l zq_153 rfl
theorem p_153_159 : zP1 153 159 = some (.invokevirtual 129, 105, 3, 7) := zp_r zq_153 rfl
theorem p_153_162 : zP1 153 162 = some (.aload_n 0, 0, 0, 0) := zp_l zq_153 rfl
theorem p_153_163 : zP1 153 163 = some (.getfield 10, 10, 0, 0) := zp_r zq_153 rfl
theorem p_153_166 : zP1 153 166 = some (.getfield 219, 9, 7, 0) := zp_r zq_153 rfl
theorem p_153_169 : zP1 153 169 = some (.iload 7, 0, 0, 0) := zp_l zq_153 rfl
theorem p_153_171 : zP1 153 171 = some (.iconst 4, 0, 0, 0) := zp_l zq_153 rfl
theorem p_153_172 : zP1 153 172 = some (.iload 5, 0, 0, 0) := zp_l zq_153 rfl
theorem p_153_174 : zP1 153 174 = some (.invokevirtual 129, 105, 3, 7) := zp_r zq_153 rfl
theorem p_153_177 : zP1 153 177 = some (.aload_n 0, 0, 0, 0) := zp_l zq_153 rfl
theorem p_153_178 : zP1 153 178 = some (.getfield 10, 10, 0, 0) := zp_r zq_153 rfl
theorem p_153_181 : zP1 153 181 = some (.getfield 219, 9, 7, 0) := zp_r zq_153 rfl
theorem p_153_184 : zP1 153 184 = some (.iload 7, 0, 0, 0) := zp_l zq_153 rfl
theorem p_153_186 : zP1 153 186 = some (.iconst 5, 0, 0, 0) := zp_l zq_153 rfl
theorem p_153_187 : zP1 153 187 = some (.iload 6, 0, 0, 0) := zp_l zq_153 rfl
theorem p_153_189 : zP1 153 189 = some (.invokevirtual 129, 105, 3, 7) := zp_r zq_153 rfl
theorem p_153_192 : zP1 153 192 = some (.aload_n 0, 0, 0, 0) := zp_l zq_153 rfl
theorem p_153_193 : zP1 153 193 = some (.getfield 40, 10, 4, 0) := zp_r zq_153 rfl
theorem p_153_196 : zP1 153 196 = some (.invokevirtual 97, 18, 0, 1) := zp_r zq_153 rfl
theorem p_153_199 : zP1 153 199 = some (.iload 7, 0, 0, 0) := zp_l zq_153 rfl
theorem p_153_201 : zP1 153 201 = some (.ireturn, 0, 0, 0) := zp_l zq_153 rfl
theorem b_153_0 {x1 : Int} {x2 : Int} {x3 : Int} {x4 : Int} {x5 : Int} {x6 : Int} : Z e (d + 2) 153 0 [.ref 0, .int (iI x1), .int (iI x2), .int (iI x3), .int (iI x4), .int (iI x5), .int (iI x6), .retAddr 0] [] m = (if (¬ ((0 ≤ (wr x1)) ∧ ((wr x1) < (wr (m 4 3))))) ∨ ((¬ (wr x3) = (-1)) ∧ (¬ ((0 ≤ (wr x3)) ∧ ((wr x3) < (wr (m 4 3)))))) then ri (-1) m else (if ((wr x2) < 0) ∨ ((6 ≤ (wr x2)) ∨ (((wr x5) < 0) ∨ (100 ≤ (wr x5)))) then ri (-1) m else (if ((wr x4) < 0) ∨ (((wr (m 1 0)) < (wr x4)) ∨ (((wr x6) < (wr x4)) ∨ (9999 < (wr x6)))) then ri (-1) m else (if (wr ((24 : Nat) : Int)) ≤ (wr (m 8 3)) then ri (-2) m else (Z e (d + 1) 106 0 [.ref 8, .retAddr 0] [] m).bind (ZK e (d + 2) 153 103 [.ref 0, .int (iI x1), .int (iI x2), .int (iI x3), .int (iI x4), .int (iI x5), .int (iI x6), .retAddr 0] [] m))))) := (s_al_0 p_153_0).trans <| (s_il_1 p_153_1).trans <| (s_cv1 (Lc := [.ref 0, .int (iI x1)]) p_153_2 (by decide) (by decide) (zM_of zq_197) ⟨Nat.le_of_ble_eq_true rfl, Nat.le_of_ble_eq_true rfl⟩ rfl (m_rc hs_0 ⟨rfl, by decide⟩)).trans <| (bd b_197_0).trans <| ri_k.trans <| Eq.trans (Eq.trans (s_bne_t p_153_5 rfl) <| Eq.trans (ite_cg rfl ((s_il_3 p_153_8).trans <| (s_const p_153_9).trans <| Eq.trans (s_c_eq_f p_153_10 rfl rfl wl_m1) <| Eq.trans (ite_cg ((s_al_0 p_153_13).trans <| (s_il_3 p_153_14).trans <| (s_cv1 (Lc := [.ref 0, .int (iI x3)]) p_153_15 (by decide) (by decide) (zM_of zq_197) ⟨Nat.le_of_ble_eq_true rfl, Nat.le_of_ble_eq_true rfl⟩ rfl (m_rc hs_0 ⟨rfl, by decide⟩)).trans <| (bd b_197_0).trans <| ri_k.trans <| (s_beq_f p_153_18 rfl)) rfl) co_and)) co_or) <| ite_cg ((s_const p_153_21).trans <| (s_reti p_153_22 (zM_of zq_153))) ((s_il_2 p_153_23).trans <| Eq.trans (Eq.trans (s_z_lt_t p_153_24 rfl rfl) <| Eq.trans (ite_cg rfl ((s_il_2 p_153_27).trans <| (s_bip p_153_28 rfl).trans <| Eq.trans (s_c_ge_t p_153_30 rfl rfl wl_6) <| Eq.trans (ite_cg rfl ((s_il_5 p_153_33).trans <| (s_cs1 (Lc := [.int (iI x5)]) p_153_35 (by decide) (zM_of zq_194) ⟨Nat.le_of_ble_eq_true rfl, Nat.le_of_ble_eq_true rfl⟩ rfl).trans <| (bd b_194_0).trans <| ri_k.trans <| (s_beq_f p_153_38 rfl))) co_or)) co_or) <| ite_cg ((s_const p_153_41).trans <| (s_reti p_153_42 (zM_of zq_153))) ((s_il_4 p_153_43).trans <| Eq.trans (Eq.trans (s_z_lt_t p_153_45 rfl rfl) <| Eq.trans (ite_cg rfl ((s_il_4 p_153_48).trans <| (s_al_0 p_153_50).trans <| (s_getr p_153_51 hs_0 (by decide) rfl).trans <| (s_get p_153_54 hs_1 (by decide) rfl).trans <| Eq.trans (s_c_gt_t p_153_57 rfl rfl rfl) <| Eq.trans (ite_cg rfl ((s_il_6 p_153_60).trans <| (s_il_4 p_153_62).trans <| Eq.trans (s_c_lt_t p_153_64 rfl rfl rfl) <| Eq.trans (ite_cg rfl ((s_il_6 p_153_67).trans <| (s_sip p_153_69 rfl).trans <| (s_c_le_f p_153_72 rfl rfl wl_9999))) co_or)) co_or)) co_or) <| ite_cg ((s_const p_153_75).trans <| (s_reti p_153_76 (zM_of zq_153))) ((s_al_0 p_153_77).trans <| (s_getr p_153_78 hs_0 (by decide) rfl).trans <| (s_getr p_153_81 hs_1 (by decide) rfl).trans <| (s_cv0 (Lc := [.ref 8]) p_153_84 (by decide) (by decide) (zM_of zq_103) ⟨Nat.le_of_ble_eq_true rfl, Nat.le_of_ble_eq_true rfl⟩ rfl (m_rc hs_8 ⟨rfl, by decide⟩)).trans <| (bd (b_103_0 zTab_8)).trans <| ri_k.trans <| Eq.trans ((s_beq_f p_153_87 rfl)) <| ite_cg ((s_bip p_153_90 rfl).trans <| (s_reti p_153_92 (zM_of zq_153))) ((s_al_0 p_153_93).trans <| (s_getr p_153_94 hs_0 (by decide) rfl).trans <| (s_getr p_153_97 hs_1 (by decide) rfl).trans <| (s_cv0 (Lc := [.ref 8, .retAddr 0]) p_153_100 (by decide) (by decide) (zM_of zq_106) ⟨Nat.le_of_ble_eq_true rfl, Nat.le_of_ble_eq_true rfl⟩ rfl (m_rc hs_8 ⟨rfl, by decide⟩))))))
theorem b_153_103 {x1 : Int} {x2 : Int} {x3 : Int} {x4 : Int} {x5 : Int} {x6 : Int} {xs0 : Int} {u7 : Value} : Z e (d + 2) 153 103 [.ref 0, .int (iI x1), .int (iI x2), .int (iI x3), .int (iI x4), .int (iI x5), .int (iI x6), u7] [.int (iI xs0)] m = (Z e (d + 1) 105 0 [.ref 8, .int (iI xs0), .int (iI 0), .int (iI x1)] [] m).bind (ZK e (d + 2) 153 119 [.ref 0, .int (iI x1), .int (iI x2), .int (iI x3), .int (iI x4), .int (iI x5), .int (iI x6), .int (iI xs0)] [] m) := (s_is_7 cat_i p_153_103).trans <| (s_al_0 p_153_105).trans <| (s_getr p_153_106 hs_0 (by decide) rfl).trans <| (s_getr p_153_109 hs_1 (by decide) rfl).trans <| (s_il_7 p_153_112).trans <| (s_const p_153_114).trans <| (s_il_1 p_153_115).trans <| (s_cv3 (Lc := [.ref 8, .int (iI xs0), .int (iI 0), .int (iI x1)]) p_153_116 (by decide) (by decide) (zM_of zq_105) ⟨Nat.le_of_ble_eq_true rfl, Nat.le_of_ble_eq_true rfl⟩ rfl (m_rc hs_8 ⟨rfl, by decide⟩))
theorem b_153_119 {x2 : Int} {x3 : Int} {x4 : Int} {x5 : Int} {x6 : Int} {x7 : Int} {u1 : Value} : Z e (d + 2) 153 119 [.ref 0, u1, .int (iI x2), .int (iI x3), .int (iI x4), .int (iI x5), .int (iI x6), .int (iI x7)] [] m = (Z e (d + 1) 105 0 [.ref 8, .int (iI x7), .int (iI 1), .int (iI x2)] [] m).bind (ZK e (d + 2) 153 133 [.ref 0, u1, .int (iI x2), .int (iI x3), .int (iI x4), .int (iI x5), .int (iI x6), .int (iI x7)] [] m) := (s_al_0 p_153_119).trans <| (s_getr p_153_120 hs_0 (by decide) rfl).trans <| (s_getr p_153_123 hs_1 (by decide) rfl).trans <| (s_il_7 p_153_126).trans <| (s_const p_153_128).trans <| (s_il_2 p_153_129).trans <| (s_cv3 (Lc := [.ref 8, .int (iI x7), .int (iI 1), .int (iI x2)]) p_153_130 (by decide) (by decide) (zM_of zq_105) ⟨Nat.le_of_ble_eq_true rfl, Nat.le_of_ble_eq_true rfl⟩ rfl (m_rc hs_8 ⟨rfl, by decide⟩))
theorem b_153_133 {x3 : Int} {x4 : Int} {x5 : Int} {x6 : Int} {x7 : Int} {u1 u2 : Value} : Z e (d + 2) 153 133 [.ref 0, u1, u2, .int (iI x3), .int (iI x4), .int (iI x5), .int (iI x6), .int (iI x7)] [] m = (Z e (d + 1) 105 0 [.ref 8, .int (iI x7), .int (iI 2), .int (iI x3)] [] m).bind (ZK e (d + 2) 153 147 [.ref 0, u1, u2, .int (iI x3), .int (iI x4), .int (iI x5), .int (iI x6), .int (iI x7)] [] m) := (s_al_0 p_153_133).trans <| (s_getr p_153_134 hs_0 (by decide) rfl).trans <| (s_getr p_153_137 hs_1 (by decide) rfl).trans <| (s_il_7 p_153_140).trans <| (s_const p_153_142).trans <| (s_il_3 p_153_143).trans <| (s_cv3 (Lc := [.ref 8, .int (iI x7), .int (iI 2), .int (iI x3)]) p_153_144 (by decide) (by decide) (zM_of zq_105) ⟨Nat.le_of_ble_eq_true rfl, Nat.le_of_ble_eq_true rfl⟩ rfl (m_rc hs_8 ⟨rfl, by decide⟩))
theorem b_153_147 {x4 : Int} {x5 : Int} {x6 : Int} {x7 : Int} {u1 u2 u3 : Value} : Z e (d + 2) 153 147 [.ref 0, u1, u2, u3, .int (iI x4), .int (iI x5), .int (iI x6), .int (iI x7)] [] m = (Z e (d + 1) 105 0 [.ref 8, .int (iI x7), .int (iI 3), .int (iI x4)] [] m).bind (ZK e (d + 2) 153 162 [.ref 0, u1, u2, u3, .int (iI x4), .int (iI x5), .int (iI x6), .int (iI x7)] [] m) := (s_al_0 p_153_147).trans <| (s_getr p_153_148 hs_0 (by decide) rfl).trans <| (s_getr p_153_151 hs_1 (by decide) rfl).trans <| (s_il_7 p_153_154).trans <| (s_const p_153_156).trans <| (s_il_4 p_153_157).trans <| (s_cv3 (Lc := [.ref 8, .int (iI x7), .int (iI 3), .int (iI x4)]) p_153_159 (by decide) (by decide) (zM_of zq_105) ⟨Nat.le_of_ble_eq_true rfl, Nat.le_of_ble_eq_true rfl⟩ rfl (m_rc hs_8 ⟨rfl, by decide⟩))
theorem b_153_162 {x5 : Int} {x6 : Int} {x7 : Int} {u1 u2 u3 u4 : Value} : Z e (d + 2) 153 162 [.ref 0, u1, u2, u3, u4, .int (iI x5), .int (iI x6), .int (iI x7)] [] m = (Z e (d + 1) 105 0 [.ref 8, .int (iI x7), .int (iI 4), .int (iI x5)] [] m).bind (ZK e (d + 2) 153 177 [.ref 0, u1, u2, u3, u4, .int (iI x5), .int (iI x6), .int (iI x7)] [] m) := (s_al_0 p_153_162).trans <| (s_getr p_153_163 hs_0 (by decide) rfl).trans <| (s_getr p_153_166 hs_1 (by decide) rfl).trans <| (s_il_7 p_153_169).trans <| (s_const p_153_171).trans <| (s_il_5 p_153_172).trans <| (s_cv3 (Lc := [.ref 8, .int (iI x7), .int (iI 4), .int (iI x5)]) p_153_174 (by decide) (by decide) (zM_of zq_105) ⟨Nat.le_of_ble_eq_true rfl, Nat.le_of_ble_eq_true rfl⟩ rfl (m_rc hs_8 ⟨rfl, by decide⟩))
theorem b_153_177 {x6 : Int} {x7 : Int} {u1 u2 u3 u4 u5 : Value} : Z e (d + 2) 153 177 [.ref 0, u1, u2, u3, u4, u5, .int (iI x6), .int (iI x7)] [] m = (Z e (d + 1) 105 0 [.ref 8, .int (iI x7), .int (iI 5), .int (iI x6)] [] m).bind (ZK e (d + 2) 153 192 [.ref 0, u1, u2, u3, u4, u5, .int (iI x6), .int (iI x7)] [] m) := (s_al_0 p_153_177).trans <| (s_getr p_153_178 hs_0 (by decide) rfl).trans <| (s_getr p_153_181 hs_1 (by decide) rfl).trans <| (s_il_7 p_153_184).trans <| (s_const p_153_186).trans <| (s_il_6 p_153_187).trans <| (s_cv3 (Lc := [.ref 8, .int (iI x7), .int (iI 5), .int (iI x6)]) p_153_189 (by decide) (by decide) (zM_of zq_105) ⟨Nat.le_of_ble_eq_true rfl, Nat.le_of_ble_eq_true rfl⟩ rfl (m_rc hs_8 ⟨rfl, by decide⟩))
theorem b_153_192 {x7 : Int} {u1 u2 u3 u4 u5 u6 : Value} : Z e (d + 2) 153 192 [.ref 0, u1, u2, u3, u4, u5, u6, .int (iI x7)] [] m = ri x7 (um m 202 2 1) := (s_al_0 p_153_192).trans <| (s_getr p_153_193 hs_0 (by decide) rfl).trans <| (s_cv0 (Lc := [.ref 202]) p_153_196 (by decide) (by decide) (zM_of zq_18) ⟨Nat.le_of_ble_eq_true rfl, Nat.le_of_ble_eq_true rfl⟩ rfl (m_rc hs_202 ⟨rfl, by decide⟩)).trans <| (bd b_18_0).trans <| rn_k.trans <| (s_il_7 p_153_199).trans <| (s_reti p_153_201 (zM_of zq_153))
-- P.line
theorem p_155_0 : zP1 155 0 = some (.aload_n 0, 0, 0, 0) := zp_l zq_155 rfl
theorem p_155_1 : zP1 155 1 = some (.getfield 10, 10, 0, 0) := zp_r zq_155 rfl
theorem p_155_4 : zP1 155 4 = some (.getfield 219, 9, 7, 0) := zp_r zq_155 rfl
theorem p_155_7 : zP1 155 7 = some (.iload_n 1, 0, 0, 0) := zp_l zq_155 rfl
theorem p_155_8 : zP1 155 8 = some (.invokevirtual 229, 102, 1, 7) := zp_r zq_155 rfl
theorem p_155_11 : zP1 155 11 = some (.ifCond .eq 17, 0, 0, 0) := zp_l zq_155 rfl
theorem p_155_14 : zP1 155 14 = some (.iload_n 2, 0, 0, 0) := zp_l zq_155 rfl
theorem p_155_15 : zP1 155 15 = some (.invokestatic 86, 194, 1, 0) := zp_r zq_155 rfl
theorem p_155_18 : zP1 155 18 = some (.ifCond .ne 10, 0, 0, 0) := zp_l zq_155 rfl
theorem p_155_21 : zP1 155 21 = some (.iload_n 3, 0, 0, 0) := zp_l zq_155 rfl
theorem p_155_22 : zP1 155 22 = some (.invokestatic 144, 195, 1, 0) := zp_r zq_155 rfl
theorem p_155_25 : zP1 155 25 = some (.ifCond .eq 5, 0, 0, 0) := zp_l zq_155 rfl
theorem p_155_28 : zP1 155 28 = some (.iconst (-1), 0, 0, 0) := zp_l zq_155 rfl
theorem p_155_29 : zP1 155 29 = some (.ireturn, 0, 0, 0) := zp_l zq_155 rfl
theorem p_155_30 : zP1 155 30 = some (.iload_n 3, 0, 0, 0) := zp_l zq_155 rfl
theorem p_155_31 : zP1 155 31 = some (.aload_n 0, 0, 0, 0) := zp_l zq_155 rfl
theorem p_155_32 : zP1 155 32 = some (.getfield 10, 10, 0, 0) := zp_r zq_155 rfl
theorem p_155_35 : zP1 155 35 = some (.getfield 219, 9, 7, 0) := zp_r zq_155 rfl
theorem p_155_38 : zP1 155 38 = some (.iload_n 1, 0, 0, 0) := zp_l zq_155 rfl
theorem p_155_39 : zP1 155 39 = some (.iconst 3, 0, 0, 0) := zp_l zq_155 rfl
theorem p_155_40 : zP1 155 40 = some (.invokevirtual 126, 104, 2, 7) := zp_r zq_155 rfl
theorem p_155_43 : zP1 155 43 = some (.if_icmp .ge 5, 0, 0, 0) := zp_l zq_155 rfl
theorem p_155_46 : zP1 155 46 = some (.iconst (-1), 0, 0, 0) := zp_l zq_155 rfl
theorem p_155_47 : zP1 155 47 = some (.ireturn, 0, 0, 0) := zp_l zq_155 rfl
theorem p_155_48 : zP1 155 48 = some (.aload_n 0, 0, 0, 0) := zp_l zq_155 rfl
theorem p_155_49 : zP1 155 49 = some (.getfield 40, 10, 4, 0) := zp_r zq_155 rfl
theorem p_155_52 : zP1 155 52 = some (.iload_n 3, 0, 0, 0) := zp_l zq_155 rfl
theorem p_155_53 : zP1 155 53 = some (.invokevirtual 147, 19, 1, 1) := zp_r zq_155 rfl
theorem p_155_56 : zP1 155 56 = some (.aload_n 0, 0, 0, 0) := zp_l zq_155 rfl
theorem p_155_57 : zP1 155 57 = some (.getfield 40, 10, 4, 0) := zp_r zq_155 rfl
theorem p_155_60 : zP1 155 60 = some (.iload_n 1, 0, 0, 0) := zp_l zq_155 rfl
theorem p_155_61 : zP1 155 61 = some (.aload_n 0, 0, 0, 0) := zp_l zq_155 rfl
theorem p_155_62 : zP1 155 62 = some (.getfield 40, 10, 4, 0) := zp_r zq_155 rfl
theorem p_155_65 : zP1 155 65 = some (.iload_n 2, 0, 0, 0) := zp_l zq_155 rfl
theorem p_155_66 : zP1 155 66 = some (.invokevirtual 153, 23, 1, 1) := zp_r zq_155 rfl
theorem p_155_69 : zP1 155 69 = some (.iload_n 3, 0, 0, 0) := zp_l zq_155 rfl
theorem p_155_70 : zP1 155 70 = some (.invokevirtual 232, 27, 3, 1) := zp_r zq_155 rfl
theorem p_155_73 : zP1 155 73 = some (.ireturn, 0, 0, 0) := zp_l zq_155 rfl
theorem b_155_0 {x1 : Int} {x2 : Int} {x3 : Int} : Z e (d + 1) 155 0 [.ref 0, .int (iI x1), .int (iI x2), .int (iI x3)] [] m = (if (¬ ((0 ≤ (wr x1)) ∧ ((wr x1) < (wr (m 8 3))))) ∨ ((((wr x2) < 0) ∨ (100 ≤ (wr x2))) ∨ (((wr x3) < 0) ∨ (9999 < (wr x3)))) then ri (-1) m else (Z e d 104 0 [.ref 8, .int (iI x1), .int (iI 3)] [] m).bind (ZK e (d + 1) 155 43 [.ref 0, .int (iI x1), .int (iI x2), .int (iI x3)] [.int (iI x3)] m)) := (s_al_0 p_155_0).trans <| (s_getr p_155_1 hs_0 (by decide) rfl).trans <| (s_getr p_155_4 hs_1 (by decide) rfl).trans <| (s_il_1 p_155_7).trans <| (s_cv1 (Lc := [.ref 8, .int (iI x1)]) p_155_8 (by decide) (by decide) (zM_of zq_102) ⟨Nat.le_of_ble_eq_true rfl, Nat.le_of_ble_eq_true rfl⟩ rfl (m_rc hs_8 ⟨rfl, by decide⟩)).trans <| (bd (b_102_0 zTab_8)).trans <| ri_k.trans <| Eq.trans (Eq.trans (s_beq_t p_155_11 rfl) <| Eq.trans (ite_cg rfl ((s_il_2 p_155_14).trans <| (s_cs1 (Lc := [.int (iI x2)]) p_155_15 (by decide) (zM_of zq_194) ⟨Nat.le_of_ble_eq_true rfl, Nat.le_of_ble_eq_true rfl⟩ rfl).trans <| (bd b_194_0).trans <| ri_k.trans <| Eq.trans (s_bne_t p_155_18 rfl) <| Eq.trans (ite_cg rfl ((s_il_3 p_155_21).trans <| (s_cs1 (Lc := [.int (iI x3)]) p_155_22 (by decide) (zM_of zq_195) ⟨Nat.le_of_ble_eq_true rfl, Nat.le_of_ble_eq_true rfl⟩ rfl).trans <| (bd b_195_0).trans <| ri_k.trans <| (s_beq_f p_155_25 rfl))) co_or)) co_or) <| ite_cg ((s_const p_155_28).trans <| (s_reti p_155_29 (zM_of zq_155))) ((s_il_3 p_155_30).trans <| (s_al_0 p_155_31).trans <| (s_getr p_155_32 hs_0 (by decide) rfl).trans <| (s_getr p_155_35 hs_1 (by decide) rfl).trans <| (s_il_1 p_155_38).trans <| (s_const p_155_39).trans <| (s_cv2 (Lc := [.ref 8, .int (iI x1), .int (iI 3)]) p_155_40 (by decide) (by decide) (zM_of zq_104) ⟨Nat.le_of_ble_eq_true rfl, Nat.le_of_ble_eq_true rfl⟩ rfl (m_rc hs_8 ⟨rfl, by decide⟩)))
theorem b_155_43 {x1 : Int} {x2 : Int} {x3 : Int} {xs0 : Int} {xs1 : Int} : Z e (d + 1) 155 43 [.ref 0, .int (iI x1), .int (iI x2), .int (iI x3)] [.int (iI xs0), .int (iI xs1)] m = (if (wr xs1) < (wr xs0) then ri (-1) m else (Z e d 19 0 [.ref 202, .int (iI x3)] [] m).bind (ZK e (d + 1) 155 56 [.ref 0, .int (iI x1), .int (iI x2), .int (iI x3)] [] m)) := Eq.trans ((s_c_ge_f p_155_43 rfl rfl rfl)) <| ite_cg ((s_const p_155_46).trans <| (s_reti p_155_47 (zM_of zq_155))) ((s_al_0 p_155_48).trans <| (s_getr p_155_49 hs_0 (by decide) rfl).trans <| (s_il_3 p_155_52).trans <| (s_cv1 (Lc := [.ref 202, .int (iI x3)]) p_155_53 (by decide) (by decide) (zM_of zq_19) ⟨Nat.le_of_ble_eq_true rfl, Nat.le_of_ble_eq_true rfl⟩ rfl (m_rc hs_202 ⟨rfl, by decide⟩)))
theorem b_155_56 {x1 : Int} {x2 : Int} {x3 : Int} : Z e (d + 1) 155 56 [.ref 0, .int (iI x1), .int (iI x2), .int (iI x3)] [] m = (Z e d 23 0 [.ref 202, .int (iI x2), .retAddr 0, .retAddr 0, .retAddr 0] [] m).bind (ZK e (d + 1) 155 69 [.ref 0, .int (iI x1), .int (iI x2), .int (iI x3)] [.int (iI x1), .ref 202] m) := (s_al_0 p_155_56).trans <| (s_getr p_155_57 hs_0 (by decide) rfl).trans <| (s_il_1 p_155_60).trans <| (s_al_0 p_155_61).trans <| (s_getr p_155_62 hs_0 (by decide) rfl).trans <| (s_il_2 p_155_65).trans <| (s_cv1 (Lc := [.ref 202, .int (iI x2), .retAddr 0, .retAddr 0, .retAddr 0]) p_155_66 (by decide) (by decide) (zM_of zq_23) ⟨Nat.le_of_ble_eq_true rfl, Nat.le_of_ble_eq_true rfl⟩ rfl (m_rc hs_202 ⟨rfl, by decide⟩))
theorem b_155_69 {x3 : Int} {xs0 : Int} {xs1 : Int} {u0 u1 u2 : Value} : Z e (d + 1) 155 69 [u0, u1, u2, .int (iI x3)] [.int (iI xs0), .int (iI xs1), .ref 202] m = (Z e d 27 0 [.ref 202, .int (iI xs1), .int (iI xs0), .int (iI x3), .retAddr 0, .retAddr 0, .retAddr 0, .retAddr 0, .retAddr 0] [] m).bind (ZK e (d + 1) 155 73 [u0, u1, u2, .int (iI x3)] [] m) := (s_il_3 p_155_69).trans <| (s_cv3 (Lc := [.ref 202, .int (iI xs1), .int (iI xs0), .int (iI x3), .retAddr 0, .retAddr 0, .retAddr 0, .retAddr 0, .retAddr 0]) p_155_70 (by decide) (by decide) (zM_of zq_27) ⟨Nat.le_of_ble_eq_true rfl, Nat.le_of_ble_eq_true rfl⟩ rfl (m_rc hs_202 ⟨rfl, by decide⟩))
theorem b_155_73 {xs0 : Int} {u0 u1 u2 u3 : Value} : Z e (d + 1) 155 73 [u0, u1, u2, u3] [.int (iI xs0)] m = ri xs0 m := (s_reti p_155_73 (zM_of zq_155))
-- P.counts
theorem p_154_0 : zP1 154 0 = some (.aload_n 0, 0, 0, 0) := zp_l zq_154 rfl
theorem p_154_1 : zP1 154 1 = some (.iload_n 1, 0, 0, 0) := zp_l zq_154 rfl
theorem p_154_2 : zP1 154 2 = some (.iload_n 2, 0, 0, 0) := zp_l zq_154 rfl
theorem p_154_3 : zP1 154 3 = some (.iload_n 3, 0, 0, 0) := zp_l zq_154 rfl
theorem p_154_4 : zP1 154 4 = some (.invokevirtual 222, 155, 3, 10) := zp_r zq_154 rfl
theorem p_154_7 : zP1 154 7 = some (.istore 4, 0, 0, 0) := zp_l zq_154 rfl
theorem p_154_9 : zP1 154 9 = some (.iload 4, 0, 0, 0) := zp_l zq_154 rfl
theorem p_154_11 : zP1 154 11 = some (.iconst (-1), 0, 0, 0) := zp_l zq_154 rfl
theorem p_154_12 : zP1 154 12 = some (.if_icmp .ne 5, 0, 0, 0) := zp_l zq_154 rfl
theorem p_154_15 : zP1 154 15 = some (.iconst (-1), 0, 0, 0) := zp_l zq_154 rfl
theorem p_154_16 : zP1 154 16 = some (.ireturn, 0, 0, 0) := zp_l zq_154 rfl
theorem p_154_17 : zP1 154 17 = some (.aload_n 0, 0, 0, 0) := zp_l zq_154 rfl
theorem p_154_18 : zP1 154 18 = some (.getfield 40, 10, 4, 0) := zp_r zq_154 rfl
theorem p_154_21 : zP1 154 21 = some (.iload 4, 0, 0, 0) := zp_l zq_154 rfl
theorem p_154_23 : zP1 154 23 = some (.invokevirtual 226, 28, 1, 1) := zp_r zq_154 rfl
theorem p_154_26 : zP1 154 26 = some (.ifCond .eq 7, 0, 0, 0) := zp_l zq_154 rfl
theorem p_154_29 : zP1 154 29 = some (.iconst 0, 0, 0, 0) := zp_l zq_154 rfl
theorem p_154_30 : zP1 154 30 = some (.goto 4, 0, 0, 0) := zp_l zq_154 rfl
theorem p_154_33 : zP1 154 33 = some (.iconst 1, 0, 0, 0) := zp_l zq_154 rfl
theorem p_154_34 : zP1 154 34 = some (.ireturn, 0, 0, 0) := zp_l zq_154 rfl
theorem b_154_0 {x1 : Int} {x2 : Int} {x3 : Int} : Z e (d + 1) 154 0 [.ref 0, .int (iI x1), .int (iI x2), .int (iI x3), .retAddr 0] [] m = (Z e d 155 0 [.ref 0, .int (iI x1), .int (iI x2), .int (iI x3)] [] m).bind (ZK e (d + 1) 154 7 [.ref 0, .int (iI x1), .int (iI x2), .int (iI x3), .retAddr 0] [] m) := (s_al_0 p_154_0).trans <| (s_il_1 p_154_1).trans <| (s_il_2 p_154_2).trans <| (s_il_3 p_154_3).trans <| (s_cv3 (Lc := [.ref 0, .int (iI x1), .int (iI x2), .int (iI x3)]) p_154_4 (by decide) (by decide) (zM_of zq_155) ⟨Nat.le_of_ble_eq_true rfl, Nat.le_of_ble_eq_true rfl⟩ rfl (m_rc hs_0 ⟨rfl, by decide⟩))
theorem b_154_7 {xs0 : Int} {u1 u2 u3 u4 : Value} (hu3 : u3.category = 1) : Z e (d + 1) 154 7 [.ref 0, u1, u2, u3, u4] [.int (iI xs0)] m = (if (wr xs0) = (-1) then ri (-1) m else ck ((0 ≤ (wr xs0)) → ((0 ≤ (wr (jdiv xs0 100)) ∧ (wr (jdiv xs0 100)) < 12) ∧ (0 ≤ (wr (jrem xs0 100)) ∧ (wr (jrem xs0 100)) < 10))) (ri (if ¬ ((0 ≤ (wr xs0)) ∧ ((wr (m ((18 + 6 * (wr (jdiv xs0 100)).toNat) + 1) (wr (jrem xs0 100)))) = 6)) then 1 else 0) m)) := (s_is_4 hu3 p_154_7).trans <| (s_il_4 p_154_9).trans <| (s_const p_154_11).trans <| Eq.trans ((s_c_ne_f p_154_12 rfl rfl wl_m1)) <| ite_cg ((s_const p_154_15).trans <| (s_reti p_154_16 (zM_of zq_154))) ((s_al_0 p_154_17).trans <| (s_getr p_154_18 hs_0 (by decide) rfl).trans <| (s_il_4 p_154_21).trans <| (s_cv1 (Lc := [.ref 202, .int (iI xs0)]) p_154_23 (by decide) (by decide) (zM_of zq_28) ⟨Nat.le_of_ble_eq_true rfl, Nat.le_of_ble_eq_true rfl⟩ rfl (m_rc hs_202 ⟨rfl, by decide⟩)).trans <| (bd b_28_0).trans <| ck_bind.trans <| ck_cg fun _ => ri_k.trans <| Eq.trans (Eq.trans ((s_beq_f p_154_26 rfl)) <| Eq.trans (ite_cg ((s_const p_154_29).trans <| (s_goto p_154_30 rfl).trans <| rfl) ((s_const p_154_33).trans <| rfl)) (phi_not (fun z0 => Z e (d + 1) 154 34 [.ref 0, u1, u2, u3, .int (iI xs0)] [.int (iI z0)] m))) <| (s_reti p_154_34 (zM_of zq_154)))
-- P.why
theorem p_157_0 : zP1 157 0 = some (.aload_n 0, 0, 0, 0) := zp_l zq_157 rfl
theorem p_157_1 : zP1 157 1 = some (.iload_n 1, 0, 0, 0) := zp_l zq_157 rfl
theorem p_157_2 : zP1 157 2 = some (.invokevirtual 123, 197, 1, 10) := zp_r zq_157 rfl
theorem p_157_5 : zP1 157 5 = some (.ifCond .ne 25, 0, 0, 0) := zp_l zq_157 rfl
theorem p_157_8 : zP1 157 8 = some (.iload_n 2, 0, 0, 0) := zp_l zq_157 rfl
theorem p_157_9 : zP1 157 9 = some (.invokestatic 86, 194, 1, 0) := zp_r zq_157 rfl
theorem p_157_12 : zP1 157 12 = some (.ifCond .ne 18, 0, 0, 0) := zp_l zq_157 rfl
theorem p_157_15 : zP1 157 15 = some (.iload_n 3, 0, 0, 0) := zp_l zq_157 rfl
theorem p_157_16 : zP1 157 16 = some (.invokestatic 144, 195, 1, 0) := zp_r zq_157 rfl
theorem p_157_19 : zP1 157 19 = some (.ifCond .ne 11, 0, 0, 0) := zp_l zq_157 rfl
theorem p_157_22 : zP1 157 22 = some (.iload 4, 0, 0, 0) := zp_l zq_157 rfl
theorem p_157_24 : zP1 157 24 = some (.invokestatic 144, 195, 1, 0) := zp_r zq_157 rfl
theorem p_157_27 : zP1 157 27 = some (.ifCond .eq 5, 0, 0, 0) := zp_l zq_157 rfl
theorem p_157_30 : zP1 157 30 = some (.iconst (-1), 0, 0, 0) := zp_l zq_157 rfl
theorem p_157_31 : zP1 157 31 = some (.ireturn, 0, 0, 0) := zp_l zq_157 rfl
theorem p_157_32 : zP1 157 32 = some (.aload_n 0, 0, 0, 0) := zp_l zq_157 rfl
theorem p_157_33 : zP1 157 33 = some (.getfield 40, 10, 4, 0) := zp_r zq_157 rfl
theorem p_157_36 : zP1 157 36 = some (.iload_n 1, 0, 0, 0) := zp_l zq_157 rfl
theorem p_157_37 : zP1 157 37 = some (.iload_n 2, 0, 0, 0) := zp_l zq_157 rfl
theorem p_157_38 : zP1 157 38 = some (.iload_n 3, 0, 0, 0) := zp_l zq_157 rfl
theorem p_157_39 : zP1 157 39 = some (.iload 4, 0, 0, 0) := zp_l zq_157 rfl
theorem p_157_41 : zP1 157 41 = some (.invokevirtual 239, 30, 4, 1) := zp_r zq_157 rfl
theorem p_157_44 : zP1 157 44 = some (.ireturn, 0, 0, 0) := zp_l zq_157 rfl
theorem b_157_0 {x1 : Int} {x2 : Int} {x3 : Int} {x4 : Int} : Z e (d + 2) 157 0 [.ref 0, .int (iI x1), .int (iI x2), .int (iI x3), .int (iI x4)] [] m = (if (¬ ((0 ≤ (wr x1)) ∧ ((wr x1) < (wr (m 4 3))))) ∨ ((((wr x2) < 0) ∨ (100 ≤ (wr x2))) ∨ ((((wr x3) < 0) ∨ (9999 < (wr x3))) ∨ (((wr x4) < 0) ∨ (9999 < (wr x4))))) then ri (-1) m else (Z e (d + 1) 30 0 [.ref 202, .int (iI x1), .int (iI x2), .int (iI x3), .int (iI x4), .retAddr 0, .retAddr 0] [] m).bind (ZK e (d + 2) 157 44 [.ref 0, .int (iI x1), .int (iI x2), .int (iI x3), .int (iI x4)] [] m)) := (s_al_0 p_157_0).trans <| (s_il_1 p_157_1).trans <| (s_cv1 (Lc := [.ref 0, .int (iI x1)]) p_157_2 (by decide) (by decide) (zM_of zq_197) ⟨Nat.le_of_ble_eq_true rfl, Nat.le_of_ble_eq_true rfl⟩ rfl (m_rc hs_0 ⟨rfl, by decide⟩)).trans <| (bd b_197_0).trans <| ri_k.trans <| Eq.trans (Eq.trans (s_bne_t p_157_5 rfl) <| Eq.trans (ite_cg rfl ((s_il_2 p_157_8).trans <| (s_cs1 (Lc := [.int (iI x2)]) p_157_9 (by decide) (zM_of zq_194) ⟨Nat.le_of_ble_eq_true rfl, Nat.le_of_ble_eq_true rfl⟩ rfl).trans <| (bd b_194_0).trans <| ri_k.trans <| Eq.trans (s_bne_t p_157_12 rfl) <| Eq.trans (ite_cg rfl ((s_il_3 p_157_15).trans <| (s_cs1 (Lc := [.int (iI x3)]) p_157_16 (by decide) (zM_of zq_195) ⟨Nat.le_of_ble_eq_true rfl, Nat.le_of_ble_eq_true rfl⟩ rfl).trans <| (bd b_195_0).trans <| ri_k.trans <| Eq.trans (s_bne_t p_157_19 rfl) <| Eq.trans (ite_cg rfl ((s_il_4 p_157_22).trans <| (s_cs1 (Lc := [.int (iI x4)]) p_157_24 (by decide) (zM_of zq_195) ⟨Nat.le_of_ble_eq_true rfl, Nat.le_of_ble_eq_true rfl⟩ rfl).trans <| (bd b_195_0).trans <| ri_k.trans <| (s_beq_f p_157_27 rfl))) co_or)) co_or)) co_or) <| ite_cg ((s_const p_157_30).trans <| (s_reti p_157_31 (zM_of zq_157))) ((s_al_0 p_157_32).trans <| (s_getr p_157_33 hs_0 (by decide) rfl).trans <| (s_il_1 p_157_36).trans <| (s_il_2 p_157_37).trans <| (s_il_3 p_157_38).trans <| (s_il_4 p_157_39).trans <| (s_cv4 (Lc := [.ref 202, .int (iI x1), .int (iI x2), .int (iI x3), .int (iI x4), .retAddr 0, .retAddr 0]) p_157_41 (by decide) (by decide) (zM_of zq_30) ⟨Nat.le_of_ble_eq_true rfl, Nat.le_of_ble_eq_true rfl⟩ rfl (m_rc hs_202 ⟨rfl, by decide⟩)))
theorem b_157_44 {xs0 : Int} {u0 u1 u2 u3 u4 : Value} : Z e (d + 2) 157 44 [u0, u1, u2, u3, u4] [.int (iI xs0)] m = ri xs0 m := (s_reti p_157_44 (zM_of zq_157))
-- P.safe
theorem p_156_0 : zP1 156 0 = some (.aload_n 0, 0, 0, 0) := zp_l zq_156 rfl
theorem p_156_1 : zP1 156 1 = some (.iload_n 1, 0, 0, 0) := zp_l zq_156 rfl
theorem p_156_2 : zP1 156 2 = some (.iload_n 2, 0, 0, 0) := zp_l zq_156 rfl
theorem p_156_3 : zP1 156 3 = some (.iload_n 3, 0, 0, 0) := zp_l zq_156 rfl
theorem p_156_4 : zP1 156 4 = some (.iload 4, 0, 0, 0) := zp_l zq_156 rfl
theorem p_156_6 : zP1 156 6 = some (.invokevirtual 235, 157, 4, 10) := zp_r zq_156 rfl
theorem p_156_9 : zP1 156 9 = some (.istore 5, 0, 0, 0) := zp_l zq_156 rfl
theorem p_156_11 : zP1 156 11 = some (.iload 5, 0, 0, 0) := zp_l zq_156 rfl
theorem p_156_13 : zP1 156 13 = some (.iconst (-1), 0, 0, 0) := zp_l zq_156 rfl
theorem p_156_14 : zP1 156 14 = some (.if_icmp .ne 5, 0, 0, 0) := zp_l zq_156 rfl
theorem p_156_17 : zP1 156 17 = some (.iconst (-1), 0, 0, 0) := zp_l zq_156 rfl
theorem p_156_18 : zP1 156 18 = some (.ireturn, 0, 0, 0) := zp_l zq_156 rfl
theorem p_156_19 : zP1 156 19 = some (.iload 5, 0, 0, 0) := zp_l zq_156 rfl
theorem p_156_21 : zP1 156 21 = some (.bipush (-3), 0, 0, 0) := zp_l zq_156 rfl
theorem p_156_23 : zP1 156 23 = some (.if_icmp .ne 7, 0, 0, 0) := zp_l zq_156 rfl
theorem p_156_26 : zP1 156 26 = some (.iconst 1, 0, 0, 0) := zp_l zq_156 rfl
theorem p_156_27 : zP1 156 27 = some (.goto 4, 0, 0, 0) := zp_l zq_156 rfl
theorem p_156_30 : zP1 156 30 = some (.iconst 0, 0, 0, 0) := zp_l zq_156 rfl
theorem p_156_31 : zP1 156 31 = some (.ireturn, 0, 0, 0) := zp_l zq_156 rfl
theorem b_156_0 {x1 : Int} {x2 : Int} {x3 : Int} {x4 : Int} : Z e (d + 1) 156 0 [.ref 0, .int (iI x1), .int (iI x2), .int (iI x3), .int (iI x4), .retAddr 0] [] m = (Z e d 157 0 [.ref 0, .int (iI x1), .int (iI x2), .int (iI x3), .int (iI x4)] [] m).bind (ZK e (d + 1) 156 9 [.ref 0, .int (iI x1), .int (iI x2), .int (iI x3), .int (iI x4), .retAddr 0] [] m) := (s_al_0 p_156_0).trans <| (s_il_1 p_156_1).trans <| (s_il_2 p_156_2).trans <| (s_il_3 p_156_3).trans <| (s_il_4 p_156_4).trans <| (s_cv4 (Lc := [.ref 0, .int (iI x1), .int (iI x2), .int (iI x3), .int (iI x4)]) p_156_6 (by decide) (by decide) (zM_of zq_157) ⟨Nat.le_of_ble_eq_true rfl, Nat.le_of_ble_eq_true rfl⟩ rfl (m_rc hs_0 ⟨rfl, by decide⟩))
theorem b_156_9 {xs0 : Int} {u0 u1 u2 u3 u4 u5 : Value} (hu4 : u4.category = 1) : Z e (d + 1) 156 9 [u0, u1, u2, u3, u4, u5] [.int (iI xs0)] m = (if (wr xs0) = (-1) then ri (-1) m else ri (if (wr xs0) = (-3) then 1 else 0) m) := (s_is_5 hu4 p_156_9).trans <| (s_il_5 p_156_11).trans <| (s_const p_156_13).trans <| Eq.trans ((s_c_ne_f p_156_14 rfl rfl wl_m1)) <| ite_cg ((s_const p_156_17).trans <| (s_reti p_156_18 (zM_of zq_156))) ((s_il_5 p_156_19).trans <| (s_bip p_156_21 rfl).trans <| Eq.trans (Eq.trans ((s_c_ne_f p_156_23 rfl rfl wl_m3)) <| Eq.trans (ite_cg ((s_const p_156_26).trans <| (s_goto p_156_27 rfl).trans <| rfl) ((s_const p_156_30).trans <| rfl)) (phi1 (fun z0 => Z e (d + 1) 156 31 [u0, u1, u2, u3, u4, .int (iI xs0)] [.int (iI z0)] m))) <| (s_reti p_156_31 (zM_of zq_156)))
-- P.cost
theorem p_158_0 : zP1 158 0 = some (.aload_n 0, 0, 0, 0) := zp_l zq_158 rfl
theorem p_158_1 : zP1 158 1 = some (.iload_n 1, 0, 0, 0) := zp_l zq_158 rfl
theorem p_158_2 : zP1 158 2 = some (.invokevirtual 123, 197, 1, 10) := zp_r zq_158 rfl
theorem p_158_5 : zP1 158 5 = some (.ifCond .ne 10, 0, 0, 0) := zp_l zq_158 rfl
theorem p_158_8 : zP1 158 8 = some (.iload_n 2, 0, 0, 0) := zp_l zq_158 rfl
theorem p_158_9 : zP1 158 9 = some (.invokestatic 144, 195, 1, 0) := zp_r zq_158 rfl
theorem p_158_12 : zP1 158 12 = some (.ifCond .eq 5, 0, 0, 0) := zp_l zq_158 rfl
theorem p_158_15 : zP1 158 15 = some (.iconst (-1), 0, 0, 0) := zp_l zq_158 rfl
theorem p_158_16 : zP1 158 16 = some (.ireturn, 0, 0, 0) := zp_l zq_158 rfl
theorem p_158_17 : zP1 158 17 = some (.aload_n 0, 0, 0, 0) := zp_l zq_158 rfl
theorem p_158_18 : zP1 158 18 = some (.getfield 40, 10, 4, 0) := zp_r zq_158 rfl
theorem p_158_21 : zP1 158 21 = some (.iload_n 1, 0, 0, 0) := zp_l zq_158 rfl
theorem p_158_22 : zP1 158 22 = some (.iload_n 2, 0, 0, 0) := zp_l zq_158 rfl
theorem p_158_23 : zP1 158 23 = some (.invokevirtual 242, 34, 2, 1) := zp_r zq_158 rfl
theorem p_158_26 : zP1 158 26 = some (.ireturn, 0, 0, 0) := zp_l zq_158 rfl
theorem b_158_0 {x1 : Int} {x2 : Int} : Z e (d + 2) 158 0 [.ref 0, .int (iI x1), .int (iI x2)] [] m = (if (¬ ((0 ≤ (wr x1)) ∧ ((wr x1) < (wr (m 4 3))))) ∨ (((wr x2) < 0) ∨ (9999 < (wr x2))) then ri (-1) m else (Z e (d + 1) 34 0 [.ref 202, .int (iI x1), .int (iI x2), .retAddr 0, .retAddr 0, .retAddr 0, .retAddr 0, .retAddr 0, .retAddr 0, .retAddr 0] [] m).bind (ZK e (d + 2) 158 26 [.ref 0, .int (iI x1), .int (iI x2)] [] m)) := (s_al_0 p_158_0).trans <| (s_il_1 p_158_1).trans <| (s_cv1 (Lc := [.ref 0, .int (iI x1)]) p_158_2 (by decide) (by decide) (zM_of zq_197) ⟨Nat.le_of_ble_eq_true rfl, Nat.le_of_ble_eq_true rfl⟩ rfl (m_rc hs_0 ⟨rfl, by decide⟩)).trans <| (bd b_197_0).trans <| ri_k.trans <| Eq.trans (Eq.trans (s_bne_t p_158_5 rfl) <| Eq.trans (ite_cg rfl ((s_il_2 p_158_8).trans <| (s_cs1 (Lc := [.int (iI x2)]) p_158_9 (by decide) (zM_of zq_195) ⟨Nat.le_of_ble_eq_true rfl, Nat.le_of_ble_eq_true rfl⟩ rfl).trans <| (bd b_195_0).trans <| ri_k.trans <| (s_beq_f p_158_12 rfl))) co_or) <| ite_cg ((s_const p_158_15).trans <| (s_reti p_158_16 (zM_of zq_158))) ((s_al_0 p_158_17).trans <| (s_getr p_158_18 hs_0 (by decide) rfl).trans <| (s_il_1 p_158_21).trans <| (s_il_2 p_158_22).trans <| (s_cv2 (Lc := [.ref 202, .int (iI x1), .int (iI x2), .retAddr 0, .retAddr 0, .retAddr 0, .retAddr 0, .retAddr 0, .retAddr 0, .retAddr 0]) p_158_23 (by decide) (by decide) (zM_of zq_34) ⟨Nat.le_of_ble_eq_true rfl, Nat.le_of_ble_eq_true rfl⟩ rfl (m_rc hs_202 ⟨rfl, by decide⟩)))
theorem b_158_26 {xs0 : Int} {u0 u1 u2 : Value} : Z e (d + 2) 158 26 [u0, u1, u2] [.int (iI xs0)] m = ri xs0 m := (s_reti p_158_26 (zM_of zq_158))
-- P.seek
theorem p_159_0 : zP1 159 0 = some (.aload_n 0, 0, 0, 0) := zp_l zq_159 rfl
theorem p_159_1 : zP1 159 1 = some (.iload_n 1, 0, 0, 0) := zp_l zq_159 rfl
theorem p_159_2 : zP1 159 2 = some (.invokevirtual 123, 197, 1, 10) := zp_r zq_159 rfl
theorem p_159_5 : zP1 159 5 = some (.ifCond .eq 5, 0, 0, 0) := zp_l zq_159 rfl
theorem p_159_8 : zP1 159 8 = some (.iconst (-1), 0, 0, 0) := zp_l zq_159 rfl
theorem p_159_9 : zP1 159 9 = some (.ireturn, 0, 0, 0) := zp_l zq_159 rfl
theorem p_159_10 : zP1 159 10 = some (.aload_n 0, 0, 0, 0) := zp_l zq_159 rfl
theorem p_159_11 : zP1 159 11 = some (.getfield 10, 10, 0, 0) := zp_r zq_159 rfl
theorem p_159_14 : zP1 159 14 = some (.iload_n 1, 0, 0, 0) := zp_l zq_159 rfl
theorem p_159_15 : zP1 159 15 = some (.iconst 0, 0, 0, 0) := zp_l zq_159 rfl
theorem p_159_16 : zP1 159 16 = some (.invokevirtual 245, 127, 2, 9) := zp_r zq_159 rfl
theorem p_159_19 : zP1 159 19 = some (.ifCond .eq 14, 0, 0, 0) := zp_l zq_159 rfl
theorem p_159_22 : zP1 159 22 = some (.aload_n 0, 0, 0, 0) := zp_l zq_159 rfl
theorem p_159_23 : zP1 159 23 = some (.getfield 40, 10, 4, 0) := zp_r zq_159 rfl
theorem p_159_26 : zP1 159 26 = some (.iload_n 1, 0, 0, 0) := zp_l zq_159 rfl
theorem p_159_27 : zP1 159 27 = some (.invokevirtual 249, 31, 1, 1) := zp_r zq_159 rfl
theorem p_159_30 : zP1 159 30 = some (.ifCond .ne 6, 0, 0, 0) := zp_l zq_159 rfl
theorem p_159_33 : zP1 159 33 = some (.bipush (-4), 0, 0, 0) := zp_l zq_159 rfl
theorem p_159_35 : zP1 159 35 = some (.ireturn, 0, 0, 0) := zp_l zq_159 rfl
theorem p_159_36 : zP1 159 36 = some (.aload_n 0, 0, 0, 0) := zp_l zq_159 rfl
theorem p_159_37 : zP1 159 37 = some (.getfield 10, 10, 0, 0) := zp_r zq_159 rfl
theorem p_159_40 : zP1 159 40 = some (.iload_n 1, 0, 0, 0) := zp_l zq_159 rfl
theorem p_159_41 : zP1 159 41 = some (.iconst 1, 0, 0, 0) := zp_l zq_159 rfl
theorem p_159_42 : zP1 159 42 = some (.invokevirtual 252, 129, 2, 9) := zp_r zq_159 rfl
theorem p_159_45 : zP1 159 45 = some (.iconst 1, 0, 0, 0) := zp_l zq_159 rfl
theorem p_159_46 : zP1 159 46 = some (.ireturn, 0, 0, 0) := zp_l zq_159 rfl
theorem b_159_0 {x1 : Int} : Z e (d + 2) 159 0 [.ref 0, .int (iI x1)] [] m = (if ¬ ((0 ≤ (wr x1)) ∧ ((wr x1) < (wr (m 4 3)))) then ri (-1) m else (Z e (d + 1) 127 0 [.ref 1, .int (iI x1), .int (iI 0)] [] m).bind (ZK e (d + 2) 159 19 [.ref 0, .int (iI x1)] [] m)) := (s_al_0 p_159_0).trans <| (s_il_1 p_159_1).trans <| (s_cv1 (Lc := [.ref 0, .int (iI x1)]) p_159_2 (by decide) (by decide) (zM_of zq_197) ⟨Nat.le_of_ble_eq_true rfl, Nat.le_of_ble_eq_true rfl⟩ rfl (m_rc hs_0 ⟨rfl, by decide⟩)).trans <| (bd b_197_0).trans <| ri_k.trans <| Eq.trans ((s_beq_f p_159_5 rfl)) <| ite_cg ((s_const p_159_8).trans <| (s_reti p_159_9 (zM_of zq_159))) ((s_al_0 p_159_10).trans <| (s_getr p_159_11 hs_0 (by decide) rfl).trans <| (s_il_1 p_159_14).trans <| (s_const p_159_15).trans <| (s_cv2 (Lc := [.ref 1, .int (iI x1), .int (iI 0)]) p_159_16 (by decide) (by decide) (zM_of zq_127) ⟨Nat.le_of_ble_eq_true rfl, Nat.le_of_ble_eq_true rfl⟩ rfl (m_rc hs_1 ⟨rfl, by decide⟩)))
theorem b_159_19 {x1 : Int} {xs0 : Int} : Z e (d + 2) 159 19 [.ref 0, .int (iI x1)] [.int (iI xs0)] m = (if ¬ (wr xs0) = 0 then (Z e (d + 1) 31 0 [.ref 202, .int (iI x1)] [] m).bind (ZK e (d + 2) 159 30 [.ref 0, .int (iI x1)] [] m) else ri (-4) m) := Eq.trans ((s_z_eq_f p_159_19 rfl rfl)) <| ite_cg ((s_al_0 p_159_22).trans <| (s_getr p_159_23 hs_0 (by decide) rfl).trans <| (s_il_1 p_159_26).trans <| (s_cv1 (Lc := [.ref 202, .int (iI x1)]) p_159_27 (by decide) (by decide) (zM_of zq_31) ⟨Nat.le_of_ble_eq_true rfl, Nat.le_of_ble_eq_true rfl⟩ rfl (m_rc hs_202 ⟨rfl, by decide⟩))) ((s_bip p_159_33 rfl).trans <| (s_reti p_159_35 (zM_of zq_159)))
theorem b_159_30 {x1 : Int} {xs0 : Int} : Z e (d + 2) 159 30 [.ref 0, .int (iI x1)] [.int (iI xs0)] m = (if (wr xs0) = 0 then ri (-4) m else (Z e (d + 1) 129 0 [.ref 1, .int (iI x1), .int (iI 1)] [] m).bind (ZK e (d + 2) 159 45 [.ref 0, .int (iI x1)] [] m)) := Eq.trans ((s_z_ne_f p_159_30 rfl rfl)) <| ite_cg ((s_bip p_159_33 rfl).trans <| (s_reti p_159_35 (zM_of zq_159))) ((s_al_0 p_159_36).trans <| (s_getr p_159_37 hs_0 (by decide) rfl).trans <| (s_il_1 p_159_40).trans <| (s_const p_159_41).trans <| (s_cv2 (Lc := [.ref 1, .int (iI x1), .int (iI 1)]) p_159_42 (by decide) (by decide) (zM_of zq_129) ⟨Nat.le_of_ble_eq_true rfl, Nat.le_of_ble_eq_true rfl⟩ rfl (m_rc hs_1 ⟨rfl, by decide⟩)))
theorem b_159_45 {u0 u1 : Value} : Z e (d + 2) 159 45 [u0, u1] [] m = ri 1 m := (s_const p_159_45).trans <| (s_reti p_159_46 (zM_of zq_159))
-- P.swear
theorem p_160_0 : zP1 160 0 = some (.aload_n 0, 0, 0, 0) := zp_l zq_160 rfl
theorem p_160_1 : zP1 160 1 = some (.iload_n 1, 0, 0, 0) := zp_l zq_160 rfl
theorem p_160_2 : zP1 160 2 = some (.invokevirtual 123, 197, 1, 10) := zp_r zq_160 rfl
theorem p_160_5 : zP1 160 5 = some (.ifCond .eq 5, 0, 0, 0) := zp_l zq_160 rfl
theorem p_160_8 : zP1 160 8 = some (.iconst (-1), 0, 0, 0) := zp_l zq_160 rfl
theorem p_160_9 : zP1 160 9 = some (.ireturn, 0, 0, 0) := zp_l zq_160 rfl
theorem p_160_10 : zP1 160 10 = some (.aload_n 0, 0, 0, 0) := zp_l zq_160 rfl
theorem p_160_11 : zP1 160 11 = some (.getfield 10, 10, 0, 0) := zp_r zq_160 rfl
theorem p_160_14 : zP1 160 14 = some (.iload_n 1, 0, 0, 0) := zp_l zq_160 rfl
theorem p_160_15 : zP1 160 15 = some (.iconst 1, 0, 0, 0) := zp_l zq_160 rfl
theorem p_160_16 : zP1 160 16 = some (.invokevirtual 245, 127, 2, 9) := zp_r zq_160 rfl
theorem p_160_19 : zP1 160 19 = some (.ifCond .ne 6, 0, 0, 0) := zp_l zq_160 rfl
theorem p_160_22 : zP1 160 22 = some (.bipush (-4), 0, 0, 0) := zp_l zq_160 rfl
theorem p_160_24 : zP1 160 24 = some (.ireturn, 0, 0, 0) := zp_l zq_160 rfl
theorem p_160_25 : zP1 160 25 = some (.aload_n 0, 0, 0, 0) := zp_l zq_160 rfl
theorem p_160_26 : zP1 160 26 = some (.getfield 40, 10, 4, 0) := zp_r zq_160 rfl
theorem p_160_29 : zP1 160 29 = some (.aload_n 0, 0, 0, 0) := zp_l zq_160 rfl
theorem p_160_30 : zP1 160 30 = some (.getfield 10, 10, 0, 0) := zp_r zq_160 rfl
theorem p_160_33 : zP1 160 33 = some (.getfield 78, 9, 0, 0) := zp_r zq_160 rfl
theorem p_160_36 : zP1 160 36 = some (.invokevirtual 147, 19, 1, 1) := zp_r zq_160 rfl
theorem p_160_39 : zP1 160 39 = some (.aload_n 0, 0, 0, 0) := zp_l zq_160 rfl
theorem p_160_40 : zP1 160 40 = some (.getfield 10, 10, 0, 0) := zp_r zq_160 rfl
theorem p_160_43 : zP1 160 43 = some (.getfield 78, 9, 0, 0) := zp_r zq_160 rfl
theorem p_160_46 : zP1 160 46 = some (.aload_n 0, 0, 0, 0) := zp_l zq_160 rfl
theorem p_160_47 : zP1 160 47 = some (.getfield 10, 10, 0, 0) := zp_r zq_160 rfl
theorem p_160_50 : zP1 160 50 = some (.getfield 110, 9, 5, 0) := zp_r zq_160 rfl
theorem p_160_53 : zP1 160 53 = some (.iload_n 1, 0, 0, 0) := zp_l zq_160 rfl
theorem p_160_54 : zP1 160 54 = some (.iconst 3, 0, 0, 0) := zp_l zq_160 rfl
theorem p_160_55 : zP1 160 55 = some (.invokevirtual 126, 104, 2, 7) := zp_r zq_160 rfl
theorem p_160_58 : zP1 160 58 = some (.isub, 0, 0, 0) := zp_l zq_160 rfl
theorem p_160_59 : zP1 160 59 = some (.bipush 24, 0, 0, 0) := zp_l zq_160 rfl
theorem p_160_61 : zP1 160 61 = some (.aload_n 0, 0, 0, 0) := zp_l zq_160 rfl
theorem p_160_62 : zP1 160 62 = some (.getfield 40, 10, 4, 0) := zp_r zq_160 rfl
theorem p_160_65 : zP1 160 65 = some (.getfield 216, 1, 8, 0) := zp_r zq_160 rfl
theorem p_160_68 : zP1 160 68 = some (.imul, 0, 0, 0) := zp_l zq_160 rfl
theorem p_160_69 : zP1 160 69 = some (.if_icmp .le 6, 0, 0, 0) := zp_l zq_160 rfl
theorem p_160_72 : zP1 160 72 = some (.bipush (-4), 0, 0, 0) := zp_l zq_160 rfl
theorem p_160_74 : zP1 160 74 = some (.ireturn, 0, 0, 0) := zp_l zq_160 rfl
theorem p_160_75 : zP1 160 75 = some (.aload_n 0, 0, 0, 0) := zp_l zq_160 rfl
theorem p_160_76 : zP1 160 76 = some (.getfield 10, 10, 0, 0) := zp_r zq_160 rfl
theorem p_160_79 : zP1 160 79 = some (.iload_n 1, 0, 0, 0) := zp_l zq_160 rfl
theorem p_160_80 : zP1 160 80 = some (.iconst 2, 0, 0, 0) := zp_l zq_160 rfl
theorem p_160_81 : zP1 160 81 = some (.invokevirtual 252, 129, 2, 9) := zp_r zq_160 rfl
theorem p_160_84 : zP1 160 84 = some (.iconst 1, 0, 0, 0) := zp_l zq_160 rfl
theorem p_160_85 : zP1 160 85 = some (.ireturn, 0, 0, 0) := zp_l zq_160 rfl
theorem b_160_0 {x1 : Int} : Z e (d + 2) 160 0 [.ref 0, .int (iI x1)] [] m = (if ¬ ((0 ≤ (wr x1)) ∧ ((wr x1) < (wr (m 4 3)))) then ri (-1) m else (Z e (d + 1) 127 0 [.ref 1, .int (iI x1), .int (iI 1)] [] m).bind (ZK e (d + 2) 160 19 [.ref 0, .int (iI x1)] [] m)) := (s_al_0 p_160_0).trans <| (s_il_1 p_160_1).trans <| (s_cv1 (Lc := [.ref 0, .int (iI x1)]) p_160_2 (by decide) (by decide) (zM_of zq_197) ⟨Nat.le_of_ble_eq_true rfl, Nat.le_of_ble_eq_true rfl⟩ rfl (m_rc hs_0 ⟨rfl, by decide⟩)).trans <| (bd b_197_0).trans <| ri_k.trans <| Eq.trans ((s_beq_f p_160_5 rfl)) <| ite_cg ((s_const p_160_8).trans <| (s_reti p_160_9 (zM_of zq_160))) ((s_al_0 p_160_10).trans <| (s_getr p_160_11 hs_0 (by decide) rfl).trans <| (s_il_1 p_160_14).trans <| (s_const p_160_15).trans <| (s_cv2 (Lc := [.ref 1, .int (iI x1), .int (iI 1)]) p_160_16 (by decide) (by decide) (zM_of zq_127) ⟨Nat.le_of_ble_eq_true rfl, Nat.le_of_ble_eq_true rfl⟩ rfl (m_rc hs_1 ⟨rfl, by decide⟩)))
theorem b_160_19 {x1 : Int} {xs0 : Int} : Z e (d + 2) 160 19 [.ref 0, .int (iI x1)] [.int (iI xs0)] m = (if (wr xs0) = 0 then ri (-4) m else (Z e (d + 1) 19 0 [.ref 202, .int (iI (m 1 0))] [] m).bind (ZK e (d + 2) 160 39 [.ref 0, .int (iI x1)] [] m)) := Eq.trans ((s_z_ne_f p_160_19 rfl rfl)) <| ite_cg ((s_bip p_160_22 rfl).trans <| (s_reti p_160_24 (zM_of zq_160))) ((s_al_0 p_160_25).trans <| (s_getr p_160_26 hs_0 (by decide) rfl).trans <| (s_al_0 p_160_29).trans <| (s_getr p_160_30 hs_0 (by decide) rfl).trans <| (s_get p_160_33 hs_1 (by decide) rfl).trans <| (s_cv1 (Lc := [.ref 202, .int (iI (m 1 0))]) p_160_36 (by decide) (by decide) (zM_of zq_19) ⟨Nat.le_of_ble_eq_true rfl, Nat.le_of_ble_eq_true rfl⟩ rfl (m_rc hs_202 ⟨rfl, by decide⟩)))
theorem b_160_39 {x1 : Int} : Z e (d + 2) 160 39 [.ref 0, .int (iI x1)] [] m = (Z e (d + 1) 104 0 [.ref 4, .int (iI x1), .int (iI 3)] [] m).bind (ZK e (d + 2) 160 58 [.ref 0, .int (iI x1)] [.int (iI (m 1 0))] m) := (s_al_0 p_160_39).trans <| (s_getr p_160_40 hs_0 (by decide) rfl).trans <| (s_get p_160_43 hs_1 (by decide) rfl).trans <| (s_al_0 p_160_46).trans <| (s_getr p_160_47 hs_0 (by decide) rfl).trans <| (s_getr p_160_50 hs_1 (by decide) rfl).trans <| (s_il_1 p_160_53).trans <| (s_const p_160_54).trans <| (s_cv2 (Lc := [.ref 4, .int (iI x1), .int (iI 3)]) p_160_55 (by decide) (by decide) (zM_of zq_104) ⟨Nat.le_of_ble_eq_true rfl, Nat.le_of_ble_eq_true rfl⟩ rfl (m_rc hs_4 ⟨rfl, by decide⟩))
theorem b_160_58 {x1 : Int} {xs0 : Int} {xs1 : Int} : Z e (d + 2) 160 58 [.ref 0, .int (iI x1)] [.int (iI xs0), .int (iI xs1)] m = (if (wr (24 * (m 202 8))) < (wr (xs1 - xs0)) then ri (-4) m else (Z e (d + 1) 129 0 [.ref 1, .int (iI x1), .int (iI 2)] [] m).bind (ZK e (d + 2) 160 84 [.ref 0, .int (iI x1)] [] m)) := (s_isub p_160_58).trans <| (s_bip p_160_59 rfl).trans <| (s_al_0 p_160_61).trans <| (s_getr p_160_62 hs_0 (by decide) rfl).trans <| (s_get p_160_65 hs_202 (by decide) rfl).trans <| (s_imul p_160_68).trans <| Eq.trans ((s_c_le_f p_160_69 rfl rfl rfl)) <| ite_cg ((s_bip p_160_72 rfl).trans <| (s_reti p_160_74 (zM_of zq_160))) ((s_al_0 p_160_75).trans <| (s_getr p_160_76 hs_0 (by decide) rfl).trans <| (s_il_1 p_160_79).trans <| (s_const p_160_80).trans <| (s_cv2 (Lc := [.ref 1, .int (iI x1), .int (iI 2)]) p_160_81 (by decide) (by decide) (zM_of zq_129) ⟨Nat.le_of_ble_eq_true rfl, Nat.le_of_ble_eq_true rfl⟩ rfl (m_rc hs_1 ⟨rfl, by decide⟩)))
theorem b_160_84 {u0 u1 : Value} : Z e (d + 2) 160 84 [u0, u1] [] m = ri 1 m := (s_const p_160_84).trans <| (s_reti p_160_85 (zM_of zq_160))
-- P.leave
theorem p_161_0 : zP1 161 0 = some (.aload_n 0, 0, 0, 0) := zp_l zq_161 rfl
theorem p_161_1 : zP1 161 1 = some (.iload_n 1, 0, 0, 0) := zp_l zq_161 rfl
theorem p_161_2 : zP1 161 2 = some (.invokevirtual 123, 197, 1, 10) := zp_r zq_161 rfl
theorem p_161_5 : zP1 161 5 = some (.ifCond .ne 17, 0, 0, 0) := zp_l zq_161 rfl
theorem p_161_8 : zP1 161 8 = some (.aload_n 0, 0, 0, 0) := zp_l zq_161 rfl
theorem p_161_9 : zP1 161 9 = some (.getfield 10, 10, 0, 0) := zp_r zq_161 rfl
theorem p_161_12 : zP1 161 12 = some (.getfield 256, 9, 8, 0) := zp_r zq_161 rfl
theorem p_161_15 : zP1 161 15 = some (.iload_n 2, 0, 0, 0) := zp_l zq_161 rfl
theorem p_161_16 : zP1 161 16 = some (.invokevirtual 229, 102, 1, 7) := zp_r zq_161 rfl
theorem p_161_19 : zP1 161 19 = some (.ifCond .ne 5, 0, 0, 0) := zp_l zq_161 rfl
theorem p_161_22 : zP1 161 22 = some (.iconst (-1), 0, 0, 0) := zp_l zq_161 rfl
theorem p_161_23 : zP1 161 23 = some (.ireturn, 0, 0, 0) := zp_l zq_161 rfl
theorem p_161_24 : zP1 161 24 = some (.aload_n 0, 0, 0, 0) := zp_l zq_161 rfl
theorem p_161_25 : zP1 161 25 = some (.getfield 10, 10, 0, 0) := zp_r zq_161 rfl
theorem p_161_28 : zP1 161 28 = some (.iload_n 1, 0, 0, 0) := zp_l zq_161 rfl
theorem p_161_29 : zP1 161 29 = some (.iconst 2, 0, 0, 0) := zp_l zq_161 rfl
theorem p_161_30 : zP1 161 30 = some (.invokevirtual 245, 127, 2, 9) := zp_r zq_161 rfl
theorem p_161_33 : zP1 161 33 = some (.ifCond .ne 6, 0, 0, 0) := zp_l zq_161 rfl
theorem p_161_36 : zP1 161 36 = some (.bipush (-4), 0, 0, 0) := zp_l zq_161 rfl
theorem p_161_38 : zP1 161 38 = some (.ireturn, 0, 0, 0) := zp_l zq_161 rfl
theorem p_161_39 : zP1 161 39 = some (.aload_n 0, 0, 0, 0) := zp_l zq_161 rfl
theorem p_161_40 : zP1 161 40 = some (.getfield 10, 10, 0, 0) := zp_r zq_161 rfl
theorem p_161_43 : zP1 161 43 = some (.iload_n 2, 0, 0, 0) := zp_l zq_161 rfl
theorem p_161_44 : zP1 161 44 = some (.aload_n 0, 0, 0, 0) := zp_l zq_161 rfl
theorem p_161_45 : zP1 161 45 = some (.getfield 10, 10, 0, 0) := zp_r zq_161 rfl
theorem p_161_48 : zP1 161 48 = some (.getfield 78, 9, 0, 0) := zp_r zq_161 rfl
theorem p_161_51 : zP1 161 51 = some (.invokevirtual 259, 133, 2, 9) := zp_r zq_161 rfl
theorem p_161_54 : zP1 161 54 = some (.istore_n 3, 0, 0, 0) := zp_l zq_161 rfl
theorem p_161_55 : zP1 161 55 = some (.aload_n 0, 0, 0, 0) := zp_l zq_161 rfl
theorem p_161_56 : zP1 161 56 = some (.getfield 10, 10, 0, 0) := zp_r zq_161 rfl
theorem p_161_59 : zP1 161 59 = some (.iload_n 2, 0, 0, 0) := zp_l zq_161 rfl
theorem p_161_60 : zP1 161 60 = some (.iload_n 3, 0, 0, 0) := zp_l zq_161 rfl
theorem p_161_61 : zP1 161 61 = some (.invokevirtual 262, 134, 2, 9) := zp_r zq_161 rfl
theorem p_161_64 : zP1 161 64 = some (.istore 4, 0, 0, 0) := zp_l zq_161 rfl
theorem p_161_66 : zP1 161 66 = some (.iload 4, 0, 0, 0) := zp_l zq_161 rfl
theorem p_161_68 : zP1 161 68 = some (.bipush (-3), 0, 0, 0) := zp_l zq_161 rfl
theorem p_161_70 : zP1 161 70 = some (.if_icmp .ne 6, 0, 0, 0) := zp_l zq_161 rfl
theorem p_161_73 : zP1 161 73 = some (.bipush (-3), 0, 0, 0) := zp_l zq_161 rfl
theorem p_161_75 : zP1 161 75 = some (.ireturn, 0, 0, 0) := zp_l zq_161 rfl
theorem p_161_76 : zP1 161 76 = some (.aload_n 0, 0, 0, 0) := zp_l zq_161 rfl
theorem p_161_77 : zP1 161 77 = some (.getfield 10, 10, 0, 0) := zp_r zq_161 rfl
theorem p_161_80 : zP1 161 80 = some (.iload_n 1, 0, 0, 0) := zp_l zq_161 rfl
theorem p_161_81 : zP1 161 81 = some (.iconst 3, 0, 0, 0) := zp_l zq_161 rfl
theorem p_161_82 : zP1 161 82 = some (.invokevirtual 252, 129, 2, 9) := zp_r zq_161 rfl
theorem p_161_85 : zP1 161 85 = some (.aload_n 0, 0, 0, 0) := zp_l zq_161 rfl
theorem p_161_86 : zP1 161 86 = some (.getfield 10, 10, 0, 0) := zp_r zq_161 rfl
theorem p_161_89 : zP1 161 89 = some (.getfield 110, 9, 5, 0) := zp_r zq_161 rfl
theorem p_161_92 : zP1 161 92 = some (.iload_n 1, 0, 0, 0) := zp_l zq_161 rfl
theorem p_161_93 : zP1 161 93 = some (.bipush 7, 0, 0, 0) := zp_l zq_161 rfl
theorem p_161_95 : zP1 161 95 = some (.iload_n 2, 0, 0, 0) := zp_l zq_161 rfl
theorem p_161_96 : zP1 161 96 = some (.invokevirtual 129, 105, 3, 7) := zp_r zq_161 rfl
theorem p_161_99 : zP1 161 99 = some (.iload_n 3, 0, 0, 0) := zp_l zq_161 rfl
theorem p_161_100 : zP1 161 100 = some (.iload 4, 0, 0, 0) := zp_l zq_161 rfl
theorem p_161_102 : zP1 161 102 = some (.iadd, 0, 0, 0) := zp_l zq_161 rfl
theorem p_161_103 : zP1 161 103 = some (.ireturn, 0, 0, 0) := zp_l zq_161 rfl
theorem b_161_0 {x1 : Int} {x2 : Int} : Z e (d + 2) 161 0 [.ref 0, .int (iI x1), .int (iI x2), .retAddr 0, .retAddr 0] [] m = (if (¬ ((0 ≤ (wr x1)) ∧ ((wr x1) < (wr (m 4 3))))) ∨ (¬ ((0 ≤ (wr x2)) ∧ ((wr x2) < (wr (m 10 3))))) then ri (-1) m else (Z e (d + 1) 127 0 [.ref 1, .int (iI x1), .int (iI 2)] [] m).bind (ZK e (d + 2) 161 33 [.ref 0, .int (iI x1), .int (iI x2), .retAddr 0, .retAddr 0] [] m)) := (s_al_0 p_161_0).trans <| (s_il_1 p_161_1).trans <| (s_cv1 (Lc := [.ref 0, .int (iI x1)]) p_161_2 (by decide) (by decide) (zM_of zq_197) ⟨Nat.le_of_ble_eq_true rfl, Nat.le_of_ble_eq_true rfl⟩ rfl (m_rc hs_0 ⟨rfl, by decide⟩)).trans <| (bd b_197_0).trans <| ri_k.trans <| Eq.trans (Eq.trans (s_bne_t p_161_5 rfl) <| Eq.trans (ite_cg rfl ((s_al_0 p_161_8).trans <| (s_getr p_161_9 hs_0 (by decide) rfl).trans <| (s_getr p_161_12 hs_1 (by decide) rfl).trans <| (s_il_2 p_161_15).trans <| (s_cv1 (Lc := [.ref 10, .int (iI x2)]) p_161_16 (by decide) (by decide) (zM_of zq_102) ⟨Nat.le_of_ble_eq_true rfl, Nat.le_of_ble_eq_true rfl⟩ rfl (m_rc hs_10 ⟨rfl, by decide⟩)).trans <| (bd (b_102_0 zTab_10)).trans <| ri_k.trans <| (s_bne_f p_161_19 rfl))) co_or) <| ite_cg ((s_const p_161_22).trans <| (s_reti p_161_23 (zM_of zq_161))) ((s_al_0 p_161_24).trans <| (s_getr p_161_25 hs_0 (by decide) rfl).trans <| (s_il_1 p_161_28).trans <| (s_const p_161_29).trans <| (s_cv2 (Lc := [.ref 1, .int (iI x1), .int (iI 2)]) p_161_30 (by decide) (by decide) (zM_of zq_127) ⟨Nat.le_of_ble_eq_true rfl, Nat.le_of_ble_eq_true rfl⟩ rfl (m_rc hs_1 ⟨rfl, by decide⟩)))
theorem b_161_33 {x1 : Int} {x2 : Int} {xs0 : Int} {u3 u4 : Value} : Z e (d + 2) 161 33 [.ref 0, .int (iI x1), .int (iI x2), u3, u4] [.int (iI xs0)] m = (if (wr xs0) = 0 then ri (-4) m else (Z e (d + 1) 133 0 [.ref 1, .int (iI x2), .int (iI (m 1 0))] [] m).bind (ZK e (d + 2) 161 54 [.ref 0, .int (iI x1), .int (iI x2), u3, u4] [] m)) := Eq.trans ((s_z_ne_f p_161_33 rfl rfl)) <| ite_cg ((s_bip p_161_36 rfl).trans <| (s_reti p_161_38 (zM_of zq_161))) ((s_al_0 p_161_39).trans <| (s_getr p_161_40 hs_0 (by decide) rfl).trans <| (s_il_2 p_161_43).trans <| (s_al_0 p_161_44).trans <| (s_getr p_161_45 hs_0 (by decide) rfl).trans <| (s_get p_161_48 hs_1 (by decide) rfl).trans <| (s_cv2 (Lc := [.ref 1, .int (iI x2), .int (iI (m 1 0))]) p_161_51 (by decide) (by decide) (zM_of zq_133) ⟨Nat.le_of_ble_eq_true rfl, Nat.le_of_ble_eq_true rfl⟩ rfl (m_rc hs_1 ⟨rfl, by decide⟩)))
theorem b_161_54 {x1 : Int} {x2 : Int} {xs0 : Int} {u3 u4 : Value} : Z e (d + 2) 161 54 [.ref 0, .int (iI x1), .int (iI x2), u3, u4] [.int (iI xs0)] m = (Z e (d + 1) 134 0 [.ref 1, .int (iI x2), .int (iI xs0), .retAddr 0, .retAddr 0] [] m).bind (ZK e (d + 2) 161 64 [.ref 0, .int (iI x1), .int (iI x2), .int (iI xs0), u4] [] m) := (s_is_3 cat_i p_161_54).trans <| (s_al_0 p_161_55).trans <| (s_getr p_161_56 hs_0 (by decide) rfl).trans <| (s_il_2 p_161_59).trans <| (s_il_3 p_161_60).trans <| (s_cv2 (Lc := [.ref 1, .int (iI x2), .int (iI xs0), .retAddr 0, .retAddr 0]) p_161_61 (by decide) (by decide) (zM_of zq_134) ⟨Nat.le_of_ble_eq_true rfl, Nat.le_of_ble_eq_true rfl⟩ rfl (m_rc hs_1 ⟨rfl, by decide⟩))
theorem b_161_64 {x1 : Int} {x2 : Int} {x3 : Int} {xs0 : Int} {u4 : Value} : Z e (d + 2) 161 64 [.ref 0, .int (iI x1), .int (iI x2), .int (iI x3), u4] [.int (iI xs0)] m = (if (wr xs0) = (-3) then ri (-3) m else (Z e (d + 1) 129 0 [.ref 1, .int (iI x1), .int (iI 3)] [] m).bind (ZK e (d + 2) 161 85 [.ref 0, .int (iI x1), .int (iI x2), .int (iI x3), .int (iI xs0)] [] m)) := (s_is_4 cat_i p_161_64).trans <| (s_il_4 p_161_66).trans <| (s_bip p_161_68 rfl).trans <| Eq.trans ((s_c_ne_f p_161_70 rfl rfl wl_m3)) <| ite_cg ((s_bip p_161_73 rfl).trans <| (s_reti p_161_75 (zM_of zq_161))) ((s_al_0 p_161_76).trans <| (s_getr p_161_77 hs_0 (by decide) rfl).trans <| (s_il_1 p_161_80).trans <| (s_const p_161_81).trans <| (s_cv2 (Lc := [.ref 1, .int (iI x1), .int (iI 3)]) p_161_82 (by decide) (by decide) (zM_of zq_129) ⟨Nat.le_of_ble_eq_true rfl, Nat.le_of_ble_eq_true rfl⟩ rfl (m_rc hs_1 ⟨rfl, by decide⟩)))
theorem b_161_85 {x1 : Int} {x2 : Int} {x3 : Int} {x4 : Int} : Z e (d + 2) 161 85 [.ref 0, .int (iI x1), .int (iI x2), .int (iI x3), .int (iI x4)] [] m = (Z e (d + 1) 105 0 [.ref 4, .int (iI x1), .int (iI 7), .int (iI x2)] [] m).bind (ZK e (d + 2) 161 99 [.ref 0, .int (iI x1), .int (iI x2), .int (iI x3), .int (iI x4)] [] m) := (s_al_0 p_161_85).trans <| (s_getr p_161_86 hs_0 (by decide) rfl).trans <| (s_getr p_161_89 hs_1 (by decide) rfl).trans <| (s_il_1 p_161_92).trans <| (s_bip p_161_93 rfl).trans <| (s_il_2 p_161_95).trans <| (s_cv3 (Lc := [.ref 4, .int (iI x1), .int (iI 7), .int (iI x2)]) p_161_96 (by decide) (by decide) (zM_of zq_105) ⟨Nat.le_of_ble_eq_true rfl, Nat.le_of_ble_eq_true rfl⟩ rfl (m_rc hs_4 ⟨rfl, by decide⟩))
theorem b_161_99 {x3 : Int} {x4 : Int} {u0 u1 u2 : Value} : Z e (d + 2) 161 99 [u0, u1, u2, .int (iI x3), .int (iI x4)] [] m = ri (x3 + x4) m := (s_il_3 p_161_99).trans <| (s_il_4 p_161_100).trans <| (s_iadd p_161_102).trans <| (s_reti p_161_103 (zM_of zq_161))
-- P.dwell
theorem p_162_0 : zP1 162 0 = some (.aload_n 0, 0, 0, 0) := zp_l zq_162 rfl
theorem p_162_1 : zP1 162 1 = some (.iload_n 1, 0, 0, 0) := zp_l zq_162 rfl
theorem p_162_2 : zP1 162 2 = some (.invokevirtual 123, 197, 1, 10) := zp_r zq_162 rfl
theorem p_162_5 : zP1 162 5 = some (.ifCond .eq 5, 0, 0, 0) := zp_l zq_162 rfl
theorem p_162_8 : zP1 162 8 = some (.iconst (-1), 0, 0, 0) := zp_l zq_162 rfl
theorem p_162_9 : zP1 162 9 = some (.ireturn, 0, 0, 0) := zp_l zq_162 rfl
theorem p_162_10 : zP1 162 10 = some (.aload_n 0, 0, 0, 0) := zp_l zq_162 rfl
theorem p_162_11 : zP1 162 11 = some (.getfield 10, 10, 0, 0) := zp_r zq_162 rfl
theorem p_162_14 : zP1 162 14 = some (.iload_n 1, 0, 0, 0) := zp_l zq_162 rfl
theorem p_162_15 : zP1 162 15 = some (.iconst 1, 0, 0, 0) := zp_l zq_162 rfl
theorem p_162_16 : zP1 162 16 = some (.invokevirtual 245, 127, 2, 9) := zp_r zq_162 rfl
theorem p_162_19 : zP1 162 19 = some (.ifCond .eq 14, 0, 0, 0) := zp_l zq_162 rfl
theorem p_162_22 : zP1 162 22 = some (.aload_n 0, 0, 0, 0) := zp_l zq_162 rfl
theorem p_162_23 : zP1 162 23 = some (.getfield 10, 10, 0, 0) := zp_r zq_162 rfl
theorem p_162_26 : zP1 162 26 = some (.iload_n 1, 0, 0, 0) := zp_l zq_162 rfl
theorem p_162_27 : zP1 162 27 = some (.invokevirtual 265, 131, 1, 9) := zp_r zq_162 rfl
theorem p_162_30 : zP1 162 30 = some (.ifCond .eq 6, 0, 0, 0) := zp_l zq_162 rfl
theorem p_162_33 : zP1 162 33 = some (.bipush (-4), 0, 0, 0) := zp_l zq_162 rfl
theorem p_162_35 : zP1 162 35 = some (.ireturn, 0, 0, 0) := zp_l zq_162 rfl
theorem p_162_36 : zP1 162 36 = some (.aload_n 0, 0, 0, 0) := zp_l zq_162 rfl
theorem p_162_37 : zP1 162 37 = some (.getfield 10, 10, 0, 0) := zp_r zq_162 rfl
theorem p_162_40 : zP1 162 40 = some (.iload_n 1, 0, 0, 0) := zp_l zq_162 rfl
theorem p_162_41 : zP1 162 41 = some (.iconst 4, 0, 0, 0) := zp_l zq_162 rfl
theorem p_162_42 : zP1 162 42 = some (.invokevirtual 252, 129, 2, 9) := zp_r zq_162 rfl
theorem p_162_45 : zP1 162 45 = some (.iconst 1, 0, 0, 0) := zp_l zq_162 rfl
theorem p_162_46 : zP1 162 46 = some (.ireturn, 0, 0, 0) := zp_l zq_162 rfl
theorem b_162_0 {x1 : Int} : Z e (d + 2) 162 0 [.ref 0, .int (iI x1)] [] m = (if ¬ ((0 ≤ (wr x1)) ∧ ((wr x1) < (wr (m 4 3)))) then ri (-1) m else (Z e (d + 1) 127 0 [.ref 1, .int (iI x1), .int (iI 1)] [] m).bind (ZK e (d + 2) 162 19 [.ref 0, .int (iI x1)] [] m)) := (s_al_0 p_162_0).trans <| (s_il_1 p_162_1).trans <| (s_cv1 (Lc := [.ref 0, .int (iI x1)]) p_162_2 (by decide) (by decide) (zM_of zq_197) ⟨Nat.le_of_ble_eq_true rfl, Nat.le_of_ble_eq_true rfl⟩ rfl (m_rc hs_0 ⟨rfl, by decide⟩)).trans <| (bd b_197_0).trans <| ri_k.trans <| Eq.trans ((s_beq_f p_162_5 rfl)) <| ite_cg ((s_const p_162_8).trans <| (s_reti p_162_9 (zM_of zq_162))) ((s_al_0 p_162_10).trans <| (s_getr p_162_11 hs_0 (by decide) rfl).trans <| (s_il_1 p_162_14).trans <| (s_const p_162_15).trans <| (s_cv2 (Lc := [.ref 1, .int (iI x1), .int (iI 1)]) p_162_16 (by decide) (by decide) (zM_of zq_127) ⟨Nat.le_of_ble_eq_true rfl, Nat.le_of_ble_eq_true rfl⟩ rfl (m_rc hs_1 ⟨rfl, by decide⟩)))
theorem b_162_19 {x1 : Int} {xs0 : Int} : Z e (d + 2) 162 19 [.ref 0, .int (iI x1)] [.int (iI xs0)] m = (if ¬ (wr xs0) = 0 then (Z e (d + 1) 131 0 [.ref 1, .int (iI x1), .retAddr 0, .retAddr 0] [] m).bind (ZK e (d + 2) 162 30 [.ref 0, .int (iI x1)] [] m) else ri (-4) m) := Eq.trans ((s_z_eq_f p_162_19 rfl rfl)) <| ite_cg ((s_al_0 p_162_22).trans <| (s_getr p_162_23 hs_0 (by decide) rfl).trans <| (s_il_1 p_162_26).trans <| (s_cv1 (Lc := [.ref 1, .int (iI x1), .retAddr 0, .retAddr 0]) p_162_27 (by decide) (by decide) (zM_of zq_131) ⟨Nat.le_of_ble_eq_true rfl, Nat.le_of_ble_eq_true rfl⟩ rfl (m_rc hs_1 ⟨rfl, by decide⟩))) ((s_bip p_162_33 rfl).trans <| (s_reti p_162_35 (zM_of zq_162)))
theorem b_162_30 {x1 : Int} {xs0 : Int} : Z e (d + 2) 162 30 [.ref 0, .int (iI x1)] [.int (iI xs0)] m = (if ¬ (wr xs0) = 0 then ri (-4) m else (Z e (d + 1) 129 0 [.ref 1, .int (iI x1), .int (iI 4)] [] m).bind (ZK e (d + 2) 162 45 [.ref 0, .int (iI x1)] [] m)) := Eq.trans ((s_z_eq_f p_162_30 rfl rfl)) <| ite_cg ((s_bip p_162_33 rfl).trans <| (s_reti p_162_35 (zM_of zq_162))) ((s_al_0 p_162_36).trans <| (s_getr p_162_37 hs_0 (by decide) rfl).trans <| (s_il_1 p_162_40).trans <| (s_const p_162_41).trans <| (s_cv2 (Lc := [.ref 1, .int (iI x1), .int (iI 4)]) p_162_42 (by decide) (by decide) (zM_of zq_129) ⟨Nat.le_of_ble_eq_true rfl, Nat.le_of_ble_eq_true rfl⟩ rfl (m_rc hs_1 ⟨rfl, by decide⟩)))
theorem b_162_45 {u0 u1 : Value} : Z e (d + 2) 162 45 [u0, u1] [] m = ri 1 m := (s_const p_162_45).trans <| (s_reti p_162_46 (zM_of zq_162))
-- P.port
theorem p_163_0 : zP1 163 0 = some (.aload_n 0, 0, 0, 0) := zp_l zq_163 rfl
theorem p_163_1 : zP1 163 1 = some (.getfield 10, 10, 0, 0) := zp_r zq_163 rfl
theorem p_163_4 : zP1 163 4 = some (.getfield 256, 9, 8, 0) := zp_r zq_163 rfl
theorem p_163_7 : zP1 163 7 = some (.iload_n 1, 0, 0, 0) := zp_l zq_163 rfl
theorem p_163_8 : zP1 163 8 = some (.invokevirtual 229, 102, 1, 7) := zp_r zq_163 rfl
theorem p_163_11 : zP1 163 11 = some (.ifCond .eq 12, 0, 0, 0) := zp_l zq_163 rfl
theorem p_163_14 : zP1 163 14 = some (.iload_n 2, 0, 0, 0) := zp_l zq_163 rfl
theorem p_163_15 : zP1 163 15 = some (.ifCond .lt 8, 0, 0, 0) := zp_l zq_163 rfl
theorem p_163_18 : zP1 163 18 = some (.iload_n 2, 0, 0, 0) := zp_l zq_163 rfl
theorem p_163_19 : zP1 163 19 = some (.iconst 2, 0, 0, 0) := zp_l zq_163 rfl
theorem p_163_20 : zP1 163 20 = some (.if_icmp .le 5, 0, 0, 0) := zp_l zq_163 rfl
theorem p_163_23 : zP1 163 23 = some (.iconst (-1), 0, 0, 0) := zp_l zq_163 rfl
theorem p_163_24 : zP1 163 24 = some (.ireturn, 0, 0, 0) := zp_l zq_163 rfl
theorem p_163_25 : zP1 163 25 = some (.iload_n 2, 0, 0, 0) := zp_l zq_163 rfl
theorem p_163_26 : zP1 163 26 = some (.iconst 2, 0, 0, 0) := zp_l zq_163 rfl
theorem p_163_27 : zP1 163 27 = some (.if_icmp .ne 7, 0, 0, 0) := zp_l zq_163 rfl
theorem p_163_30 : zP1 163 30 = some (.iconst 0, 0, 0, 0) := zp_l zq_163 rfl
theorem p_163_31 : zP1 163 31 = some (.goto 4, 0, 0, 0) := zp_l zq_163 rfl
theorem p_163_34 : zP1 163 34 = some (.iconst 1, 0, 0, 0) := zp_l zq_163 rfl
theorem p_163_35 : zP1 163 35 = some (.istore 4, 0, 0, 0) := zp_l zq_163 rfl
theorem p_163_37 : zP1 163 37 = some (.iload_n 2, 0, 0, 0) := zp_l zq_163 rfl
theorem p_163_38 : zP1 163 38 = some (.iconst 2, 0, 0, 0) := zp_l zq_163 rfl
theorem p_163_39 : zP1 163 39 = some (.if_icmp .ne 8, 0, 0, 0) := zp_l zq_163 rfl
theorem p_163_42 : zP1 163 42 = some (.bipush 29, 0, 0, 0) := zp_l zq_163 rfl
theorem p_163_44 : zP1 163 44 = some (.goto 5, 0, 0, 0) := zp_l zq_163 rfl
theorem p_163_47 : zP1 163 47 = some (.bipush 30, 0, 0, 0) := zp_l zq_163 rfl
theorem p_163_49 : zP1 163 49 = some (.istore 5, 0, 0, 0) := zp_l zq_163 rfl
theorem p_163_51 : zP1 163 51 = some (.iload_n 3, 0, 0, 0) := zp_l zq_163 rfl
theorem p_163_52 : zP1 163 52 = some (.iload 4, 0, 0, 0) := zp_l zq_163 rfl
theorem p_163_54 : zP1 163 54 = some (.if_icmp .lt 9, 0, 0, 0) := zp_l zq_163 rfl
theorem p_163_57 : zP1 163 57 = some (.iload_n 3, 0, 0, 0) := zp_l zq_163 rfl
theorem p_163_58 : zP1 163 58 = some (.iload 5, 0, 0, 0) := zp_l zq_163 rfl
theorem p_163_60 : zP1 163 60 = some (.if_icmp .le 5, 0, 0, 0) := zp_l zq_163 rfl
theorem p_163_63 : zP1 163 63 = some (.iconst (-1), 0, 0, 0) := zp_l zq_163 rfl
theorem p_163_64 : zP1 163 64 = some (.ireturn, 0, 0, 0) := zp_l zq_163 rfl
theorem p_163_65 : zP1 163 65 = some (.aload_n 0, 0, 0, 0) := zp_l zq_163 rfl
theorem p_163_66 : zP1 163 66 = some (.getfield 10, 10, 0, 0) := zp_r zq_163 rfl
theorem p_163_69 : zP1 163 69 = some (.getfield 256, 9, 8, 0) := zp_r zq_163 rfl
theorem p_163_72 : zP1 163 72 = some (.iload_n 1, 0, 0, 0) := zp_l zq_163 rfl
theorem p_163_73 : zP1 163 73 = some (.iload_n 2, 0, 0, 0) := zp_l zq_163 rfl
theorem p_163_74 : zP1 163 74 = some (.invokevirtual 126, 104, 2, 7) := zp_r zq_163 rfl
theorem p_163_77 : zP1 163 77 = some (.istore 6, 0, 0, 0) := zp_l zq_163 rfl
theorem p_163_79 : zP1 163 79 = some (.aload_n 0, 0, 0, 0) := zp_l zq_163 rfl
theorem p_163_80 : zP1 163 80 = some (.getfield 10, 10, 0, 0) := zp_r zq_163 rfl
theorem p_163_83 : zP1 163 83 = some (.getfield 256, 9, 8, 0) := zp_r zq_163 rfl
theorem p_163_86 : zP1 163 86 = some (.iload_n 1, 0, 0, 0) := zp_l zq_163 rfl
theorem p_163_87 : zP1 163 87 = some (.iload_n 2, 0, 0, 0) := zp_l zq_163 rfl
theorem p_163_88 : zP1 163 88 = some (.iload_n 3, 0, 0, 0) := zp_l zq_163 rfl
theorem p_163_89 : zP1 163 89 = some (.invokevirtual 129, 105, 3, 7) := zp_r zq_163 rfl
theorem p_163_92 : zP1 163 92 = some (.iload 6, 0, 0, 0) := zp_l zq_163 rfl
theorem p_163_94 : zP1 163 94 = some (.ireturn, 0, 0, 0) := zp_l zq_163 rfl
theorem b_163_0 {x1 : Int} {x2 : Int} {x3 : Int} : Z e (d + 1) 163 0 [.ref 0, .int (iI x1), .int (iI x2), .int (iI x3), .retAddr 0, .retAddr 0, .retAddr 0] [] m = (if (¬ ((0 ≤ (wr x1)) ∧ ((wr x1) < (wr (m 10 3))))) ∨ (((wr x2) < 0) ∨ (2 < (wr x2))) then ri (-1) m else (if ((wr x3) < (if ¬ ((wr x2) = 2) then 1 else 0)) ∨ ((wr (if (wr x2) = 2 then 29 else 30)) < (wr x3)) then ri (-1) m else (Z e d 104 0 [.ref 10, .int (iI x1), .int (iI x2)] [] m).bind (ZK e (d + 1) 163 77 [.ref 0, .int (iI x1), .int (iI x2), .int (iI x3), .int (iI (if ¬ ((wr x2) = 2) then 1 else 0)), .int (iI (if (wr x2) = 2 then 29 else 30)), .retAddr 0] [] m))) := (s_al_0 p_163_0).trans <| (s_getr p_163_1 hs_0 (by decide) rfl).trans <| (s_getr p_163_4 hs_1 (by decide) rfl).trans <| (s_il_1 p_163_7).trans <| (s_cv1 (Lc := [.ref 10, .int (iI x1)]) p_163_8 (by decide) (by decide) (zM_of zq_102) ⟨Nat.le_of_ble_eq_true rfl, Nat.le_of_ble_eq_true rfl⟩ rfl (m_rc hs_10 ⟨rfl, by decide⟩)).trans <| (bd (b_102_0 zTab_10)).trans <| ri_k.trans <| Eq.trans (Eq.trans (s_beq_t p_163_11 rfl) <| Eq.trans (ite_cg rfl ((s_il_2 p_163_14).trans <| Eq.trans (s_z_lt_t p_163_15 rfl rfl) <| Eq.trans (ite_cg rfl ((s_il_2 p_163_18).trans <| (s_const p_163_19).trans <| (s_c_le_f p_163_20 rfl rfl wl_2))) co_or)) co_or) <| ite_cg ((s_const p_163_23).trans <| (s_reti p_163_24 (zM_of zq_163))) ((s_il_2 p_163_25).trans <| (s_const p_163_26).trans <| Eq.trans (Eq.trans ((s_c_ne_f p_163_27 rfl rfl wl_2)) <| Eq.trans (ite_cg ((s_const p_163_30).trans <| (s_goto p_163_31 rfl).trans <| rfl) ((s_const p_163_34).trans <| rfl)) (phi_not (fun z0 => Z e (d + 1) 163 35 [.ref 0, .int (iI x1), .int (iI x2), .int (iI x3), .retAddr 0, .retAddr 0, .retAddr 0] [.int (iI z0)] m))) <| (s_is_4 cat_i p_163_35).trans <| (s_il_2 p_163_37).trans <| (s_const p_163_38).trans <| Eq.trans (Eq.trans ((s_c_ne_f p_163_39 rfl rfl wl_2)) <| Eq.trans (ite_cg ((s_bip p_163_42 rfl).trans <| (s_goto p_163_44 rfl).trans <| rfl) ((s_bip p_163_47 rfl).trans <| rfl)) (phi1 (fun z0 => Z e (d + 1) 163 49 [.ref 0, .int (iI x1), .int (iI x2), .int (iI x3), .int (iI (if ¬ ((wr x2) = 2) then 1 else 0)), .retAddr 0, .retAddr 0] [.int (iI z0)] m))) <| (s_is_5 cat_i p_163_49).trans <| (s_il_3 p_163_51).trans <| (s_il_4 p_163_52).trans <| Eq.trans (Eq.trans (s_c_lt_t p_163_54 rfl rfl wr_b) <| Eq.trans (ite_cg rfl ((s_il_3 p_163_57).trans <| (s_il_5 p_163_58).trans <| (s_c_le_f p_163_60 rfl rfl rfl))) co_or) <| ite_cg ((s_const p_163_63).trans <| (s_reti p_163_64 (zM_of zq_163))) ((s_al_0 p_163_65).trans <| (s_getr p_163_66 hs_0 (by decide) rfl).trans <| (s_getr p_163_69 hs_1 (by decide) rfl).trans <| (s_il_1 p_163_72).trans <| (s_il_2 p_163_73).trans <| (s_cv2 (Lc := [.ref 10, .int (iI x1), .int (iI x2)]) p_163_74 (by decide) (by decide) (zM_of zq_104) ⟨Nat.le_of_ble_eq_true rfl, Nat.le_of_ble_eq_true rfl⟩ rfl (m_rc hs_10 ⟨rfl, by decide⟩))))
theorem b_163_77 {x1 : Int} {x2 : Int} {x3 : Int} {xs0 : Int} {u4 u5 u6 : Value} (hu5 : u5.category = 1) : Z e (d + 1) 163 77 [.ref 0, .int (iI x1), .int (iI x2), .int (iI x3), u4, u5, u6] [.int (iI xs0)] m = (Z e d 105 0 [.ref 10, .int (iI x1), .int (iI x2), .int (iI x3)] [] m).bind (ZK e (d + 1) 163 92 [.ref 0, .int (iI x1), .int (iI x2), .int (iI x3), u4, u5, .int (iI xs0)] [] m) := (s_is_6 hu5 p_163_77).trans <| (s_al_0 p_163_79).trans <| (s_getr p_163_80 hs_0 (by decide) rfl).trans <| (s_getr p_163_83 hs_1 (by decide) rfl).trans <| (s_il_1 p_163_86).trans <| (s_il_2 p_163_87).trans <| (s_il_3 p_163_88).trans <| (s_cv3 (Lc := [.ref 10, .int (iI x1), .int (iI x2), .int (iI x3)]) p_163_89 (by decide) (by decide) (zM_of zq_105) ⟨Nat.le_of_ble_eq_true rfl, Nat.le_of_ble_eq_true rfl⟩ rfl (m_rc hs_10 ⟨rfl, by decide⟩))
theorem b_163_92 {x6 : Int} {u0 u1 u2 u3 u4 u5 : Value} : Z e (d + 1) 163 92 [u0, u1, u2, u3, u4, u5, .int (iI x6)] [] m = ri x6 m := (s_il_6 p_163_92).trans <| (s_reti p_163_94 (zM_of zq_163))
-- P.sails
theorem p_164_0 : zP1 164 0 = some (.aload_n 0, 0, 0, 0) := zp_l zq_164 rfl
theorem p_164_1 : zP1 164 1 = some (.iload_n 1, 0, 0, 0) := zp_l zq_164 rfl
theorem p_164_2 : zP1 164 2 = some (.invokevirtual 123, 197, 1, 10) := zp_r zq_164 rfl
theorem p_164_5 : zP1 164 5 = some (.ifCond .ne 12, 0, 0, 0) := zp_l zq_164 rfl
theorem p_164_8 : zP1 164 8 = some (.iload_n 2, 0, 0, 0) := zp_l zq_164 rfl
theorem p_164_9 : zP1 164 9 = some (.ifCond .lt 8, 0, 0, 0) := zp_l zq_164 rfl
theorem p_164_12 : zP1 164 12 = some (.iload_n 2, 0, 0, 0) := zp_l zq_164 rfl
theorem p_164_13 : zP1 164 13 = some (.iconst 2, 0, 0, 0) := zp_l zq_164 rfl
theorem p_164_14 : zP1 164 14 = some (.if_icmp .le 5, 0, 0, 0) := zp_l zq_164 rfl
theorem p_164_17 : zP1 164 17 = some (.iconst (-1), 0, 0, 0) := zp_l zq_164 rfl
theorem p_164_18 : zP1 164 18 = some (.ireturn, 0, 0, 0) := zp_l zq_164 rfl
theorem p_164_19 : zP1 164 19 = some (.aload_n 0, 0, 0, 0) := zp_l zq_164 rfl
theorem p_164_20 : zP1 164 20 = some (.getfield 10, 10, 0, 0) := zp_r zq_164 rfl
theorem p_164_23 : zP1 164 23 = some (.iload_n 1, 0, 0, 0) := zp_l zq_164 rfl
theorem p_164_24 : zP1 164 24 = some (.iconst 3, 0, 0, 0) := zp_l zq_164 rfl
theorem p_164_25 : zP1 164 25 = some (.invokevirtual 245, 127, 2, 9) := zp_r zq_164 rfl
theorem p_164_28 : zP1 164 28 = some (.ifCond .ne 6, 0, 0, 0) := zp_l zq_164 rfl
theorem p_164_31 : zP1 164 31 = some (.bipush (-4), 0, 0, 0) := zp_l zq_164 rfl
theorem p_164_33 : zP1 164 33 = some (.ireturn, 0, 0, 0) := zp_l zq_164 rfl
theorem p_164_34 : zP1 164 34 = some (.aload_n 0, 0, 0, 0) := zp_l zq_164 rfl
theorem p_164_35 : zP1 164 35 = some (.getfield 10, 10, 0, 0) := zp_r zq_164 rfl
theorem p_164_38 : zP1 164 38 = some (.getfield 110, 9, 5, 0) := zp_r zq_164 rfl
theorem p_164_41 : zP1 164 41 = some (.iload_n 1, 0, 0, 0) := zp_l zq_164 rfl
theorem p_164_42 : zP1 164 42 = some (.bipush 7, 0, 0, 0) := zp_l zq_164 rfl
theorem p_164_44 : zP1 164 44 = some (.invokevirtual 126, 104, 2, 7) := zp_r zq_164 rfl
theorem p_164_47 : zP1 164 47 = some (.istore_n 3, 0, 0, 0) := zp_l zq_164 rfl
theorem p_164_48 : zP1 164 48 = some (.aload_n 0, 0, 0, 0) := zp_l zq_164 rfl
theorem p_164_49 : zP1 164 49 = some (.getfield 10, 10, 0, 0) := zp_r zq_164 rfl
theorem p_164_52 : zP1 164 52 = some (.iload_n 3, 0, 0, 0) := zp_l zq_164 rfl
theorem p_164_53 : zP1 164 53 = some (.aload_n 0, 0, 0, 0) := zp_l zq_164 rfl
theorem p_164_54 : zP1 164 54 = some (.getfield 10, 10, 0, 0) := zp_r zq_164 rfl
theorem p_164_57 : zP1 164 57 = some (.getfield 110, 9, 5, 0) := zp_r zq_164 rfl
theorem p_164_60 : zP1 164 60 = some (.iload_n 1, 0, 0, 0) := zp_l zq_164 rfl
theorem p_164_61 : zP1 164 61 = some (.iconst 3, 0, 0, 0) := zp_l zq_164 rfl
theorem p_164_62 : zP1 164 62 = some (.invokevirtual 126, 104, 2, 7) := zp_r zq_164 rfl
theorem p_164_65 : zP1 164 65 = some (.invokevirtual 259, 133, 2, 9) := zp_r zq_164 rfl
theorem p_164_68 : zP1 164 68 = some (.istore 4, 0, 0, 0) := zp_l zq_164 rfl
theorem p_164_70 : zP1 164 70 = some (.iload_n 2, 0, 0, 0) := zp_l zq_164 rfl
theorem p_164_71 : zP1 164 71 = some (.ifCond .ne 6, 0, 0, 0) := zp_l zq_164 rfl
theorem p_164_74 : zP1 164 74 = some (.iload 4, 0, 0, 0) := zp_l zq_164 rfl
theorem p_164_76 : zP1 164 76 = some (.ireturn, 0, 0, 0) := zp_l zq_164 rfl
theorem p_164_77 : zP1 164 77 = some (.aload_n 0, 0, 0, 0) := zp_l zq_164 rfl
theorem p_164_78 : zP1 164 78 = some (.getfield 10, 10, 0, 0) := zp_r zq_164 rfl
theorem p_164_81 : zP1 164 81 = some (.iload_n 3, 0, 0, 0) := zp_l zq_164 rfl
theorem p_164_82 : zP1 164 82 = some (.iload 4, 0, 0, 0) := zp_l zq_164 rfl
theorem p_164_84 : zP1 164 84 = some (.invokevirtual 262, 134, 2, 9) := zp_r zq_164 rfl
theorem p_164_87 : zP1 164 87 = some (.istore 5, 0, 0, 0) := zp_l zq_164 rfl
theorem p_164_89 : zP1 164 89 = some (.iload 5, 0, 0, 0) := zp_l zq_164 rfl
theorem p_164_91 : zP1 164 91 = some (.bipush (-3), 0, 0, 0) := zp_l zq_164 rfl
theorem p_164_93 : zP1 164 93 = some (.if_icmp .ne 6, 0, 0, 0) := zp_l zq_164 rfl
theorem p_164_96 : zP1 164 96 = some (.bipush (-3), 0, 0, 0) := zp_l zq_164 rfl
theorem p_164_98 : zP1 164 98 = some (.ireturn, 0, 0, 0) := zp_l zq_164 rfl
theorem p_164_99 : zP1 164 99 = some (.iload_n 2, 0, 0, 0) := zp_l zq_164 rfl
theorem p_164_100 : zP1 164 100 = some (.iconst 1, 0, 0, 0) := zp_l zq_164 rfl
theorem p_164_101 : zP1 164 101 = some (.if_icmp .ne 11, 0, 0, 0) := zp_l zq_164 rfl
theorem p_164_104 : zP1 164 104 = some (.iload 4, 0, 0, 0) := zp_l zq_164 rfl
theorem p_164_106 : zP1 164 106 = some (.iload 5, 0, 0, 0) := zp_l zq_164 rfl
theorem p_164_108 : zP1 164 108 = some (.iadd, 0, 0, 0) := zp_l zq_164 rfl
theorem p_164_109 : zP1 164 109 = some (.goto 5, 0, 0, 0) := zp_l zq_164 rfl
theorem p_164_112 : zP1 164 112 = some (.iload 5, 0, 0, 0) := zp_l zq_164 rfl
theorem p_164_114 : zP1 164 114 = some (.ireturn, 0, 0, 0) := zp_l zq_164 rfl
theorem b_164_0 {x1 : Int} {x2 : Int} : Z e (d + 2) 164 0 [.ref 0, .int (iI x1), .int (iI x2), .retAddr 0, .retAddr 0, .retAddr 0] [] m = (if (¬ ((0 ≤ (wr x1)) ∧ ((wr x1) < (wr (m 4 3))))) ∨ (((wr x2) < 0) ∨ (2 < (wr x2))) then ri (-1) m else (Z e (d + 1) 127 0 [.ref 1, .int (iI x1), .int (iI 3)] [] m).bind (ZK e (d + 2) 164 28 [.ref 0, .int (iI x1), .int (iI x2), .retAddr 0, .retAddr 0, .retAddr 0] [] m)) := (s_al_0 p_164_0).trans <| (s_il_1 p_164_1).trans <| (s_cv1 (Lc := [.ref 0, .int (iI x1)]) p_164_2 (by decide) (by decide) (zM_of zq_197) ⟨Nat.le_of_ble_eq_true rfl, Nat.le_of_ble_eq_true rfl⟩ rfl (m_rc hs_0 ⟨rfl, by decide⟩)).trans <| (bd b_197_0).trans <| ri_k.trans <| Eq.trans (Eq.trans (s_bne_t p_164_5 rfl) <| Eq.trans (ite_cg rfl ((s_il_2 p_164_8).trans <| Eq.trans (s_z_lt_t p_164_9 rfl rfl) <| Eq.trans (ite_cg rfl ((s_il_2 p_164_12).trans <| (s_const p_164_13).trans <| (s_c_le_f p_164_14 rfl rfl wl_2))) co_or)) co_or) <| ite_cg ((s_const p_164_17).trans <| (s_reti p_164_18 (zM_of zq_164))) ((s_al_0 p_164_19).trans <| (s_getr p_164_20 hs_0 (by decide) rfl).trans <| (s_il_1 p_164_23).trans <| (s_const p_164_24).trans <| (s_cv2 (Lc := [.ref 1, .int (iI x1), .int (iI 3)]) p_164_25 (by decide) (by decide) (zM_of zq_127) ⟨Nat.le_of_ble_eq_true rfl, Nat.le_of_ble_eq_true rfl⟩ rfl (m_rc hs_1 ⟨rfl, by decide⟩)))
theorem b_164_28 {x1 : Int} {x2 : Int} {xs0 : Int} {u3 u4 u5 : Value} : Z e (d + 2) 164 28 [.ref 0, .int (iI x1), .int (iI x2), u3, u4, u5] [.int (iI xs0)] m = (if (wr xs0) = 0 then ri (-4) m else (Z e (d + 1) 104 0 [.ref 4, .int (iI x1), .int (iI 7)] [] m).bind (ZK e (d + 2) 164 47 [.ref 0, .int (iI x1), .int (iI x2), u3, u4, u5] [] m)) := Eq.trans ((s_z_ne_f p_164_28 rfl rfl)) <| ite_cg ((s_bip p_164_31 rfl).trans <| (s_reti p_164_33 (zM_of zq_164))) ((s_al_0 p_164_34).trans <| (s_getr p_164_35 hs_0 (by decide) rfl).trans <| (s_getr p_164_38 hs_1 (by decide) rfl).trans <| (s_il_1 p_164_41).trans <| (s_bip p_164_42 rfl).trans <| (s_cv2 (Lc := [.ref 4, .int (iI x1), .int (iI 7)]) p_164_44 (by decide) (by decide) (zM_of zq_104) ⟨Nat.le_of_ble_eq_true rfl, Nat.le_of_ble_eq_true rfl⟩ rfl (m_rc hs_4 ⟨rfl, by decide⟩)))
theorem b_164_47 {x1 : Int} {x2 : Int} {xs0 : Int} {u3 u4 u5 : Value} : Z e (d + 2) 164 47 [.ref 0, .int (iI x1), .int (iI x2), u3, u4, u5] [.int (iI xs0)] m = (Z e (d + 1) 104 0 [.ref 4, .int (iI x1), .int (iI 3)] [] m).bind (ZK e (d + 2) 164 65 [.ref 0, .int (iI x1), .int (iI x2), .int (iI xs0), u4, u5] [.int (iI xs0), .ref 1] m) := (s_is_3 cat_i p_164_47).trans <| (s_al_0 p_164_48).trans <| (s_getr p_164_49 hs_0 (by decide) rfl).trans <| (s_il_3 p_164_52).trans <| (s_al_0 p_164_53).trans <| (s_getr p_164_54 hs_0 (by decide) rfl).trans <| (s_getr p_164_57 hs_1 (by decide) rfl).trans <| (s_il_1 p_164_60).trans <| (s_const p_164_61).trans <| (s_cv2 (Lc := [.ref 4, .int (iI x1), .int (iI 3)]) p_164_62 (by decide) (by decide) (zM_of zq_104) ⟨Nat.le_of_ble_eq_true rfl, Nat.le_of_ble_eq_true rfl⟩ rfl (m_rc hs_4 ⟨rfl, by decide⟩))
theorem b_164_65 {x2 : Int} {x3 : Int} {xs0 : Int} {xs1 : Int} {u1 u4 u5 : Value} : Z e (d + 2) 164 65 [.ref 0, u1, .int (iI x2), .int (iI x3), u4, u5] [.int (iI xs0), .int (iI xs1), .ref 1] m = (Z e (d + 1) 133 0 [.ref 1, .int (iI xs1), .int (iI xs0)] [] m).bind (ZK e (d + 2) 164 68 [.ref 0, u1, .int (iI x2), .int (iI x3), u4, u5] [] m) := (s_cv2 (Lc := [.ref 1, .int (iI xs1), .int (iI xs0)]) p_164_65 (by decide) (by decide) (zM_of zq_133) ⟨Nat.le_of_ble_eq_true rfl, Nat.le_of_ble_eq_true rfl⟩ rfl (m_rc hs_1 ⟨rfl, by decide⟩))
theorem b_164_68 {x2 : Int} {x3 : Int} {xs0 : Int} {u1 u4 u5 : Value} : Z e (d + 2) 164 68 [.ref 0, u1, .int (iI x2), .int (iI x3), u4, u5] [.int (iI xs0)] m = (if (wr x2) = 0 then ri xs0 m else (Z e (d + 1) 134 0 [.ref 1, .int (iI x3), .int (iI xs0), .retAddr 0, .retAddr 0] [] m).bind (ZK e (d + 2) 164 87 [.ref 0, u1, .int (iI x2), .int (iI x3), .int (iI xs0), u5] [] m)) := (s_is_4 cat_i p_164_68).trans <| (s_il_2 p_164_70).trans <| Eq.trans ((s_z_ne_f p_164_71 rfl rfl)) <| ite_cg ((s_il_4 p_164_74).trans <| (s_reti p_164_76 (zM_of zq_164))) ((s_al_0 p_164_77).trans <| (s_getr p_164_78 hs_0 (by decide) rfl).trans <| (s_il_3 p_164_81).trans <| (s_il_4 p_164_82).trans <| (s_cv2 (Lc := [.ref 1, .int (iI x3), .int (iI xs0), .retAddr 0, .retAddr 0]) p_164_84 (by decide) (by decide) (zM_of zq_134) ⟨Nat.le_of_ble_eq_true rfl, Nat.le_of_ble_eq_true rfl⟩ rfl (m_rc hs_1 ⟨rfl, by decide⟩)))
theorem b_164_87 {x2 : Int} {x4 : Int} {xs0 : Int} {u0 u1 u3 u5 : Value} : Z e (d + 2) 164 87 [u0, u1, .int (iI x2), u3, .int (iI x4), u5] [.int (iI xs0)] m = (if (wr xs0) = (-3) then ri (-3) m else ri (if (wr x2) = 1 then (x4 + xs0) else xs0) m) := (s_is_5 cat_i p_164_87).trans <| (s_il_5 p_164_89).trans <| (s_bip p_164_91 rfl).trans <| Eq.trans ((s_c_ne_f p_164_93 rfl rfl wl_m3)) <| ite_cg ((s_bip p_164_96 rfl).trans <| (s_reti p_164_98 (zM_of zq_164))) ((s_il_2 p_164_99).trans <| (s_const p_164_100).trans <| Eq.trans (Eq.trans ((s_c_ne_f p_164_101 rfl rfl wl_1)) <| Eq.trans (ite_cg ((s_il_4 p_164_104).trans <| (s_il_5 p_164_106).trans <| (s_iadd p_164_108).trans <| (s_goto p_164_109 rfl).trans <| rfl) ((s_il_5 p_164_112).trans <| rfl)) (phi1 (fun z0 => Z e (d + 2) 164 114 [u0, u1, .int (iI x2), u3, .int (iI x4), .int (iI xs0)] [.int (iI z0)] m))) <| (s_reti p_164_114 (zM_of zq_164)))
-- P.take
theorem p_165_0 : zP1 165 0 = some (.aload_n 0, 0, 0, 0) := zp_l zq_165 rfl
theorem p_165_1 : zP1 165 1 = some (.iload_n 1, 0, 0, 0) := zp_l zq_165 rfl
theorem p_165_2 : zP1 165 2 = some (.invokevirtual 123, 197, 1, 10) := zp_r zq_165 rfl
theorem p_165_5 : zP1 165 5 = some (.ifCond .ne 16, 0, 0, 0) := zp_l zq_165 rfl
theorem p_165_8 : zP1 165 8 = some (.aload_n 0, 0, 0, 0) := zp_l zq_165 rfl
theorem p_165_9 : zP1 165 9 = some (.iload_n 2, 0, 0, 0) := zp_l zq_165 rfl
theorem p_165_10 : zP1 165 10 = some (.invokevirtual 123, 197, 1, 10) := zp_r zq_165 rfl
theorem p_165_13 : zP1 165 13 = some (.ifCond .ne 8, 0, 0, 0) := zp_l zq_165 rfl
theorem p_165_16 : zP1 165 16 = some (.iload_n 1, 0, 0, 0) := zp_l zq_165 rfl
theorem p_165_17 : zP1 165 17 = some (.iload_n 2, 0, 0, 0) := zp_l zq_165 rfl
theorem p_165_18 : zP1 165 18 = some (.if_icmp .ne 5, 0, 0, 0) := zp_l zq_165 rfl
theorem p_165_21 : zP1 165 21 = some (.iconst (-1), 0, 0, 0) := zp_l zq_165 rfl
theorem p_165_22 : zP1 165 22 = some (.ireturn, 0, 0, 0) := zp_l zq_165 rfl
theorem p_165_23 : zP1 165 23 = some (.aload_n 0, 0, 0, 0) := zp_l zq_165 rfl
theorem p_165_24 : zP1 165 24 = some (.getfield 10, 10, 0, 0) := zp_r zq_165 rfl
theorem p_165_27 : zP1 165 27 = some (.iload_n 2, 0, 0, 0) := zp_l zq_165 rfl
theorem p_165_28 : zP1 165 28 = some (.invokevirtual 268, 128, 1, 9) := zp_r zq_165 rfl
theorem p_165_31 : zP1 165 31 = some (.ifCond .ne 14, 0, 0, 0) := zp_l zq_165 rfl
theorem p_165_34 : zP1 165 34 = some (.aload_n 0, 0, 0, 0) := zp_l zq_165 rfl
theorem p_165_35 : zP1 165 35 = some (.getfield 10, 10, 0, 0) := zp_r zq_165 rfl
theorem p_165_38 : zP1 165 38 = some (.iload_n 1, 0, 0, 0) := zp_l zq_165 rfl
theorem p_165_39 : zP1 165 39 = some (.invokevirtual 268, 128, 1, 9) := zp_r zq_165 rfl
theorem p_165_42 : zP1 165 42 = some (.ifCond .eq 6, 0, 0, 0) := zp_l zq_165 rfl
theorem p_165_45 : zP1 165 45 = some (.bipush (-4), 0, 0, 0) := zp_l zq_165 rfl
theorem p_165_47 : zP1 165 47 = some (.ireturn, 0, 0, 0) := zp_l zq_165 rfl
theorem p_165_48 : zP1 165 48 = some (.aload_n 0, 0, 0, 0) := zp_l zq_165 rfl
theorem p_165_49 : zP1 165 49 = some (.getfield 10, 10, 0, 0) := zp_r zq_165 rfl
theorem p_165_52 : zP1 165 52 = some (.getfield 271, 9, 9, 0) := zp_r zq_165 rfl
theorem p_165_55 : zP1 165 55 = some (.invokevirtual 114, 103, 0, 7) := zp_r zq_165 rfl
theorem p_165_58 : zP1 165 58 = some (.ifCond .eq 6, 0, 0, 0) := zp_l zq_165 rfl
theorem p_165_61 : zP1 165 61 = some (.bipush (-2), 0, 0, 0) := zp_l zq_165 rfl
theorem p_165_63 : zP1 165 63 = some (.ireturn, 0, 0, 0) := zp_l zq_165 rfl
theorem p_165_64 : zP1 165 64 = some (.aload_n 0, 0, 0, 0) := zp_l zq_165 rfl
theorem p_165_65 : zP1 165 65 = some (.getfield 10, 10, 0, 0) := zp_r zq_165 rfl
theorem p_165_68 : zP1 165 68 = some (.iload_n 2, 0, 0, 0) := zp_l zq_165 rfl
theorem p_165_69 : zP1 165 69 = some (.iconst 2, 0, 0, 0) := zp_l zq_165 rfl
theorem p_165_70 : zP1 165 70 = some (.invokevirtual 245, 127, 2, 9) := zp_r zq_165 rfl
theorem p_165_73 : zP1 165 73 = some (.ifCond .ne 15, 0, 0, 0) := zp_l zq_165 rfl
theorem p_165_76 : zP1 165 76 = some (.aload_n 0, 0, 0, 0) := zp_l zq_165 rfl
theorem p_165_77 : zP1 165 77 = some (.getfield 10, 10, 0, 0) := zp_r zq_165 rfl
theorem p_165_80 : zP1 165 80 = some (.iload_n 2, 0, 0, 0) := zp_l zq_165 rfl
theorem p_165_81 : zP1 165 81 = some (.iconst 3, 0, 0, 0) := zp_l zq_165 rfl
theorem p_165_82 : zP1 165 82 = some (.invokevirtual 245, 127, 2, 9) := zp_r zq_165 rfl
theorem p_165_85 : zP1 165 85 = some (.ifCond .eq 7, 0, 0, 0) := zp_l zq_165 rfl
theorem p_165_88 : zP1 165 88 = some (.iconst 1, 0, 0, 0) := zp_l zq_165 rfl
theorem p_165_89 : zP1 165 89 = some (.goto 4, 0, 0, 0) := zp_l zq_165 rfl
theorem p_165_92 : zP1 165 92 = some (.iconst 0, 0, 0, 0) := zp_l zq_165 rfl
theorem p_165_93 : zP1 165 93 = some (.istore_n 3, 0, 0, 0) := zp_l zq_165 rfl
theorem p_165_94 : zP1 165 94 = some (.iload_n 3, 0, 0, 0) := zp_l zq_165 rfl
theorem p_165_95 : zP1 165 95 = some (.ifCond .ne 18, 0, 0, 0) := zp_l zq_165 rfl
theorem p_165_98 : zP1 165 98 = some (.aload_n 0, 0, 0, 0) := zp_l zq_165 rfl
theorem p_165_99 : zP1 165 99 = some (.getfield 40, 10, 4, 0) := zp_r zq_165 rfl
theorem p_165_102 : zP1 165 102 = some (.iload_n 2, 0, 0, 0) := zp_l zq_165 rfl
theorem p_165_103 : zP1 165 103 = some (.invokevirtual 249, 31, 1, 1) := zp_r zq_165 rfl
theorem p_165_106 : zP1 165 106 = some (.ifCond .ne 7, 0, 0, 0) := zp_l zq_165 rfl
theorem p_165_109 : zP1 165 109 = some (.iconst 1, 0, 0, 0) := zp_l zq_165 rfl
theorem p_165_110 : zP1 165 110 = some (.goto 4, 0, 0, 0) := zp_l zq_165 rfl
theorem p_165_113 : zP1 165 113 = some (.iconst 0, 0, 0, 0) := zp_l zq_165 rfl
theorem p_165_114 : zP1 165 114 = some (.istore 4, 0, 0, 0) := zp_l zq_165 rfl
theorem p_165_116 : zP1 165 116 = some (.iload 4, 0, 0, 0) := zp_l zq_165 rfl
theorem p_165_118 : zP1 165 118 = some (.ifCond .eq 7, 0, 0, 0) := zp_l zq_165 rfl
theorem p_165_121 : zP1 165 121 = some (.iconst 0, 0, 0, 0) := zp_l zq_165 rfl
theorem p_165_122 : zP1 165 122 = some (.goto 11, 0, 0, 0) := zp_l zq_165 rfl
theorem p_165_125 : zP1 165 125 = some (.aload_n 0, 0, 0, 0) := zp_l zq_165 rfl
theorem p_165_126 : zP1 165 126 = some (.getfield 40, 10, 4, 0) := zp_r zq_165 rfl
theorem p_165_129 : zP1 165 129 = some (.iload_n 2, 0, 0, 0) := zp_l zq_165 rfl
theorem p_165_130 : zP1 165 130 = some (.invokevirtual 274, 36, 1, 1) := zp_r zq_165 rfl
theorem p_165_133 : zP1 165 133 = some (.istore 5, 0, 0, 0) := zp_l zq_165 rfl
theorem p_165_135 : zP1 165 135 = some (.aload_n 0, 0, 0, 0) := zp_l zq_165 rfl
theorem p_165_136 : zP1 165 136 = some (.getfield 10, 10, 0, 0) := zp_r zq_165 rfl
theorem p_165_139 : zP1 165 139 = some (.iload_n 1, 0, 0, 0) := zp_l zq_165 rfl
theorem p_165_140 : zP1 165 140 = some (.iload_n 2, 0, 0, 0) := zp_l zq_165 rfl
theorem p_165_141 : zP1 165 141 = some (.invokevirtual 277, 126, 2, 9) := zp_r zq_165 rfl
theorem p_165_144 : zP1 165 144 = some (.istore 6, 0, 0, 0) := zp_l zq_165 rfl
theorem p_165_146 : zP1 165 146 = some (.aload_n 0, 0, 0, 0) := zp_l zq_165 rfl
theorem p_165_147 : zP1 165 147 = some (.getfield 10, 10, 0, 0) := zp_r zq_165 rfl
theorem p_165_150 : zP1 165 150 = some (.getfield 271, 9, 9, 0) := zp_r zq_165 rfl
theorem p_165_153 : zP1 165 153 = some (.iload 6, 0, 0, 0) := zp_l zq_165 rfl
theorem p_165_155 : zP1 165 155 = some (.iconst 4, 0, 0, 0) := zp_l zq_165 rfl
theorem p_165_156 : zP1 165 156 = some (.iload 5, 0, 0, 0) := zp_l zq_165 rfl
theorem p_165_158 : zP1 165 158 = some (.invokevirtual 129, 105, 3, 7) := zp_r zq_165 rfl
theorem p_165_161 : zP1 165 161 = some (.aload_n 0, 0, 0, 0) := zp_l zq_165 rfl
theorem p_165_162 : zP1 165 162 = some (.getfield 10, 10, 0, 0) := zp_r zq_165 rfl
theorem p_165_165 : zP1 165 165 = some (.getfield 271, 9, 9, 0) := zp_r zq_165 rfl
theorem p_165_168 : zP1 165 168 = some (.iload 6, 0, 0, 0) := zp_l zq_165 rfl
theorem p_165_170 : zP1 165 170 = some (.iconst 5, 0, 0, 0) := zp_l zq_165 rfl
theorem p_165_171 : zP1 165 171 = some (.iload 4, 0, 0, 0) := zp_l zq_165 rfl
theorem p_165_173 : zP1 165 173 = some (.ifCond .eq 7, 0, 0, 0) := zp_l zq_165 rfl
theorem p_165_176 : zP1 165 176 = some (.iconst 1, 0, 0, 0) := zp_l zq_165 rfl
theorem p_165_177 : zP1 165 177 = some (.goto 4, 0, 0, 0) := zp_l zq_165 rfl
theorem p_165_180 : zP1 165 180 = some (.iconst 0, 0, 0, 0) := zp_l zq_165 rfl
theorem p_165_181 : zP1 165 181 = some (.invokevirtual 129, 105, 3, 7) := zp_r zq_165 rfl
theorem p_165_184 : zP1 165 184 = some (.aload_n 0, 0, 0, 0) := zp_l zq_165 rfl
theorem p_165_185 : zP1 165 185 = some (.getfield 10, 10, 0, 0) := zp_r zq_165 rfl
theorem p_165_188 : zP1 165 188 = some (.getfield 271, 9, 9, 0) := zp_r zq_165 rfl
theorem p_165_191 : zP1 165 191 = some (.iload 6, 0, 0, 0) := zp_l zq_165 rfl
theorem p_165_193 : zP1 165 193 = some (.bipush 6, 0, 0, 0) := zp_l zq_165 rfl
theorem p_165_195 : zP1 165 195 = some (.iload_n 3, 0, 0, 0) := zp_l zq_165 rfl
theorem p_165_196 : zP1 165 196 = some (.ifCond .eq 7, 0, 0, 0) := zp_l zq_165 rfl
theorem p_165_199 : zP1 165 199 = some (.iconst 1, 0, 0, 0) := zp_l zq_165 rfl
theorem p_165_200 : zP1 165 200 = some (.goto 4, 0, 0, 0) := zp_l zq_165 rfl
theorem p_165_203 : zP1 165 203 = some (.iconst 0, 0, 0, 0) := zp_l zq_165 rfl
theorem p_165_204 : zP1 165 204 = some (.invokevirtual 129, 105, 3, 7) := zp_r zq_165 rfl
theorem p_165_207 : zP1 165 207 = some (.aload_n 0, 0, 0, 0) := zp_l zq_165 rfl
theorem p_165_208 : zP1 165 208 = some (.getfield 10, 10, 0, 0) := zp_r zq_165 rfl
theorem p_165_211 : zP1 165 211 = some (.getfield 110, 9, 5, 0) := zp_r zq_165 rfl
theorem p_165_214 : zP1 165 214 = some (.iload_n 1, 0, 0, 0) := zp_l zq_165 rfl
theorem p_165_215 : zP1 165 215 = some (.bipush 8, 0, 0, 0) := zp_l zq_165 rfl
theorem p_165_217 : zP1 165 217 = some (.aload_n 0, 0, 0, 0) := zp_l zq_165 rfl
theorem p_165_218 : zP1 165 218 = some (.getfield 10, 10, 0, 0) := zp_r zq_165 rfl
theorem p_165_221 : zP1 165 221 = some (.getfield 110, 9, 5, 0) := zp_r zq_165 rfl
theorem p_165_224 : zP1 165 224 = some (.iload_n 1, 0, 0, 0) := zp_l zq_165 rfl
theorem p_165_225 : zP1 165 225 = some (.bipush 8, 0, 0, 0) := zp_l zq_165 rfl
theorem p_165_227 : zP1 165 227 = some (.invokevirtual 126, 104, 2, 7) := zp_r zq_165 rfl
theorem p_165_230 : zP1 165 230 = some (.iload 5, 0, 0, 0) := zp_l zq_165 rfl
theorem p_165_232 : zP1 165 232 = some (.iadd, 0, 0, 0) := zp_l zq_165 rfl
theorem p_165_233 : zP1 165 233 = some (.invokevirtual 129, 105, 3, 7) := zp_r zq_165 rfl
theorem p_165_236 : zP1 165 236 = some (.aload_n 0, 0, 0, 0) := zp_l zq_165 rfl
theorem p_165_237 : zP1 165 237 = some (.getfield 10, 10, 0, 0) := zp_r zq_165 rfl
theorem p_165_240 : zP1 165 240 = some (.iload_n 2, 0, 0, 0) := zp_l zq_165 rfl
theorem p_165_241 : zP1 165 241 = some (.iload 4, 0, 0, 0) := zp_l zq_165 rfl
theorem p_165_243 : zP1 165 243 = some (.ifCond .eq 7, 0, 0, 0) := zp_l zq_165 rfl
theorem p_165_246 : zP1 165 246 = some (.iconst 5, 0, 0, 0) := zp_l zq_165 rfl
theorem p_165_247 : zP1 165 247 = some (.goto 5, 0, 0, 0) := zp_l zq_165 rfl
theorem p_165_250 : zP1 165 250 = some (.bipush 6, 0, 0, 0) := zp_l zq_165 rfl
theorem p_165_252 : zP1 165 252 = some (.invokevirtual 252, 129, 2, 9) := zp_r zq_165 rfl
theorem p_165_255 : zP1 165 255 = some (.aload_n 0, 0, 0, 0) := zp_l zq_165 rfl
theorem p_165_256 : zP1 165 256 = some (.getfield 10, 10, 0, 0) := zp_r zq_165 rfl
theorem p_165_259 : zP1 165 259 = some (.getfield 110, 9, 5, 0) := zp_r zq_165 rfl
theorem p_165_262 : zP1 165 262 = some (.iload_n 2, 0, 0, 0) := zp_l zq_165 rfl
theorem p_165_263 : zP1 165 263 = some (.iconst 4, 0, 0, 0) := zp_l zq_165 rfl
theorem p_165_264 : zP1 165 264 = some (.bipush (-3), 0, 0, 0) := zp_l zq_165 rfl
theorem p_165_266 : zP1 165 266 = some (.invokevirtual 129, 105, 3, 7) := zp_r zq_165 rfl
theorem p_165_269 : zP1 165 269 = some (.iload 6, 0, 0, 0) := zp_l zq_165 rfl
theorem p_165_271 : zP1 165 271 = some (.ireturn, 0, 0, 0) := zp_l zq_165 rfl
theorem b_165_0 {x1 : Int} {x2 : Int} : Z e (d + 2) 165 0 [.ref 0, .int (iI x1), .int (iI x2), .retAddr 0, .retAddr 0, .retAddr 0, .retAddr 0] [] m = (if (¬ ((0 ≤ (wr x1)) ∧ ((wr x1) < (wr (m 4 3))))) ∨ ((¬ ((0 ≤ (wr x2)) ∧ ((wr x2) < (wr (m 4 3))))) ∨ ((wr x1) = (wr x2))) then ri (-1) m else (Z e (d + 1) 128 0 [.ref 1, .int (iI x2)] [] m).bind (ZK e (d + 2) 165 31 [.ref 0, .int (iI x1), .int (iI x2), .retAddr 0, .retAddr 0, .retAddr 0, .retAddr 0] [] m)) := (s_al_0 p_165_0).trans <| (s_il_1 p_165_1).trans <| (s_cv1 (Lc := [.ref 0, .int (iI x1)]) p_165_2 (by decide) (by decide) (zM_of zq_197) ⟨Nat.le_of_ble_eq_true rfl, Nat.le_of_ble_eq_true rfl⟩ rfl (m_rc hs_0 ⟨rfl, by decide⟩)).trans <| (bd b_197_0).trans <| ri_k.trans <| Eq.trans (Eq.trans (s_bne_t p_165_5 rfl) <| Eq.trans (ite_cg rfl ((s_al_0 p_165_8).trans <| (s_il_2 p_165_9).trans <| (s_cv1 (Lc := [.ref 0, .int (iI x2)]) p_165_10 (by decide) (by decide) (zM_of zq_197) ⟨Nat.le_of_ble_eq_true rfl, Nat.le_of_ble_eq_true rfl⟩ rfl (m_rc hs_0 ⟨rfl, by decide⟩)).trans <| (bd b_197_0).trans <| ri_k.trans <| Eq.trans (s_bne_t p_165_13 rfl) <| Eq.trans (ite_cg rfl ((s_il_1 p_165_16).trans <| (s_il_2 p_165_17).trans <| (s_c_ne_f p_165_18 rfl rfl rfl))) co_or)) co_or) <| ite_cg ((s_const p_165_21).trans <| (s_reti p_165_22 (zM_of zq_165))) ((s_al_0 p_165_23).trans <| (s_getr p_165_24 hs_0 (by decide) rfl).trans <| (s_il_2 p_165_27).trans <| (s_cv1 (Lc := [.ref 1, .int (iI x2)]) p_165_28 (by decide) (by decide) (zM_of zq_128) ⟨Nat.le_of_ble_eq_true rfl, Nat.le_of_ble_eq_true rfl⟩ rfl (m_rc hs_1 ⟨rfl, by decide⟩)))
theorem b_165_31 {x1 : Int} {x2 : Int} {xs0 : Int} {u3 u4 u5 u6 : Value} : Z e (d + 2) 165 31 [.ref 0, .int (iI x1), .int (iI x2), u3, u4, u5, u6] [.int (iI xs0)] m = (if (wr xs0) = 0 then (Z e (d + 1) 128 0 [.ref 1, .int (iI x1)] [] m).bind (ZK e (d + 2) 165 42 [.ref 0, .int (iI x1), .int (iI x2), u3, u4, u5, u6] [] m) else ri (-4) m) := Eq.trans ((s_z_ne_f p_165_31 rfl rfl)) <| ite_cg ((s_al_0 p_165_34).trans <| (s_getr p_165_35 hs_0 (by decide) rfl).trans <| (s_il_1 p_165_38).trans <| (s_cv1 (Lc := [.ref 1, .int (iI x1)]) p_165_39 (by decide) (by decide) (zM_of zq_128) ⟨Nat.le_of_ble_eq_true rfl, Nat.le_of_ble_eq_true rfl⟩ rfl (m_rc hs_1 ⟨rfl, by decide⟩))) ((s_bip p_165_45 rfl).trans <| (s_reti p_165_47 (zM_of zq_165)))
theorem b_165_42 {x1 : Int} {x2 : Int} {xs0 : Int} {u3 u4 u5 u6 : Value} : Z e (d + 2) 165 42 [.ref 0, .int (iI x1), .int (iI x2), u3, u4, u5, u6] [.int (iI xs0)] m = (if ¬ (wr xs0) = 0 then ri (-4) m else (if (wr ((16 : Nat) : Int)) ≤ (wr (m 12 3)) then ri (-2) m else (Z e (d + 1) 127 0 [.ref 1, .int (iI x2), .int (iI 2)] [] m).bind (ZK e (d + 2) 165 73 [.ref 0, .int (iI x1), .int (iI x2), u3, u4, u5, u6] [] m))) := Eq.trans ((s_z_eq_f p_165_42 rfl rfl)) <| ite_cg ((s_bip p_165_45 rfl).trans <| (s_reti p_165_47 (zM_of zq_165))) ((s_al_0 p_165_48).trans <| (s_getr p_165_49 hs_0 (by decide) rfl).trans <| (s_getr p_165_52 hs_1 (by decide) rfl).trans <| (s_cv0 (Lc := [.ref 12]) p_165_55 (by decide) (by decide) (zM_of zq_103) ⟨Nat.le_of_ble_eq_true rfl, Nat.le_of_ble_eq_true rfl⟩ rfl (m_rc hs_12 ⟨rfl, by decide⟩)).trans <| (bd (b_103_0 zTab_12)).trans <| ri_k.trans <| Eq.trans ((s_beq_f p_165_58 rfl)) <| ite_cg ((s_bip p_165_61 rfl).trans <| (s_reti p_165_63 (zM_of zq_165))) ((s_al_0 p_165_64).trans <| (s_getr p_165_65 hs_0 (by decide) rfl).trans <| (s_il_2 p_165_68).trans <| (s_const p_165_69).trans <| (s_cv2 (Lc := [.ref 1, .int (iI x2), .int (iI 2)]) p_165_70 (by decide) (by decide) (zM_of zq_127) ⟨Nat.le_of_ble_eq_true rfl, Nat.le_of_ble_eq_true rfl⟩ rfl (m_rc hs_1 ⟨rfl, by decide⟩))))
theorem b_165_73 {x1 : Int} {x2 : Int} {xs0 : Int} {u3 u4 u5 u6 : Value} : Z e (d + 2) 165 73 [.ref 0, .int (iI x1), .int (iI x2), u3, u4, u5, u6] [.int (iI xs0)] m = (if (wr xs0) = 0 then (Z e (d + 1) 127 0 [.ref 1, .int (iI x2), .int (iI 3)] [] m).bind (ZK e (d + 2) 165 85 [.ref 0, .int (iI x1), .int (iI x2), u3, u4, u5, u6] [] m) else Z e (d + 2) 165 93 [.ref 0, .int (iI x1), .int (iI x2), u3, u4, u5, u6] [.int (iI 1)] m) := Eq.trans ((s_z_ne_f p_165_73 rfl rfl)) <| ite_cg ((s_al_0 p_165_76).trans <| (s_getr p_165_77 hs_0 (by decide) rfl).trans <| (s_il_2 p_165_80).trans <| (s_const p_165_81).trans <| (s_cv2 (Lc := [.ref 1, .int (iI x2), .int (iI 3)]) p_165_82 (by decide) (by decide) (zM_of zq_127) ⟨Nat.le_of_ble_eq_true rfl, Nat.le_of_ble_eq_true rfl⟩ rfl (m_rc hs_1 ⟨rfl, by decide⟩))) ((s_const p_165_88).trans <| (s_goto p_165_89 rfl).trans <| rfl)
theorem b_165_85 {x1 : Int} {x2 : Int} {xs0 : Int} {u3 u4 u5 u6 : Value} : Z e (d + 2) 165 85 [.ref 0, .int (iI x1), .int (iI x2), u3, u4, u5, u6] [.int (iI xs0)] m = Z e (d + 2) 165 93 [.ref 0, .int (iI x1), .int (iI x2), u3, u4, u5, u6] [.int (iI (if ¬ (wr xs0) = 0 then 1 else 0))] m := Eq.trans (Eq.trans ((s_z_eq_f p_165_85 rfl rfl)) <| Eq.trans (ite_cg ((s_const p_165_88).trans <| (s_goto p_165_89 rfl).trans <| rfl) ((s_const p_165_92).trans <| rfl)) (phi1 (fun z0 => Z e (d + 2) 165 93 [.ref 0, .int (iI x1), .int (iI x2), u3, u4, u5, u6] [.int (iI z0)] m))) <| rfl
theorem b_165_93 {x1 : Int} {x2 : Int} {xs0 : Int} {u3 u4 u5 u6 : Value} : Z e (d + 2) 165 93 [.ref 0, .int (iI x1), .int (iI x2), u3, u4, u5, u6] [.int (iI xs0)] m = (if (wr xs0) = 0 then (Z e (d + 1) 31 0 [.ref 202, .int (iI x2)] [] m).bind (ZK e (d + 2) 165 106 [.ref 0, .int (iI x1), .int (iI x2), .int (iI xs0), u4, u5, u6] [] m) else Z e (d + 2) 165 114 [.ref 0, .int (iI x1), .int (iI x2), .int (iI xs0), u4, u5, u6] [.int (iI 0)] m) := (s_is_3 cat_i p_165_93).trans <| (s_il_3 p_165_94).trans <| Eq.trans ((s_z_ne_f p_165_95 rfl rfl)) <| ite_cg ((s_al_0 p_165_98).trans <| (s_getr p_165_99 hs_0 (by decide) rfl).trans <| (s_il_2 p_165_102).trans <| (s_cv1 (Lc := [.ref 202, .int (iI x2)]) p_165_103 (by decide) (by decide) (zM_of zq_31) ⟨Nat.le_of_ble_eq_true rfl, Nat.le_of_ble_eq_true rfl⟩ rfl (m_rc hs_202 ⟨rfl, by decide⟩))) ((s_const p_165_113).trans <| rfl)
theorem b_165_106 {x1 : Int} {x2 : Int} {x3 : Int} {xs0 : Int} {u4 u5 u6 : Value} : Z e (d + 2) 165 106 [.ref 0, .int (iI x1), .int (iI x2), .int (iI x3), u4, u5, u6] [.int (iI xs0)] m = Z e (d + 2) 165 114 [.ref 0, .int (iI x1), .int (iI x2), .int (iI x3), u4, u5, u6] [.int (iI (if (wr xs0) = 0 then 1 else 0))] m := Eq.trans (Eq.trans ((s_z_ne_f p_165_106 rfl rfl)) <| Eq.trans (ite_cg ((s_const p_165_109).trans <| (s_goto p_165_110 rfl).trans <| rfl) ((s_const p_165_113).trans <| rfl)) (phi1 (fun z0 => Z e (d + 2) 165 114 [.ref 0, .int (iI x1), .int (iI x2), .int (iI x3), u4, u5, u6] [.int (iI z0)] m))) <| rfl
theorem b_165_114 {x1 : Int} {x2 : Int} {x3 : Int} {xs0 : Int} {u4 u5 u6 : Value} : Z e (d + 2) 165 114 [.ref 0, .int (iI x1), .int (iI x2), .int (iI x3), u4, u5, u6] [.int (iI xs0)] m = (if ¬ (wr xs0) = 0 then Z e (d + 2) 165 133 [.ref 0, .int (iI x1), .int (iI x2), .int (iI x3), .int (iI xs0), u5, u6] [.int (iI 0)] m else (Z e (d + 1) 36 0 [.ref 202, .int (iI x2), .retAddr 0] [] m).bind (ZK e (d + 2) 165 133 [.ref 0, .int (iI x1), .int (iI x2), .int (iI x3), .int (iI xs0), u5, u6] [] m)) := (s_is_4 cat_i p_165_114).trans <| (s_il_4 p_165_116).trans <| Eq.trans ((s_z_eq_f p_165_118 rfl rfl)) <| ite_cg ((s_const p_165_121).trans <| (s_goto p_165_122 rfl).trans <| rfl) ((s_al_0 p_165_125).trans <| (s_getr p_165_126 hs_0 (by decide) rfl).trans <| (s_il_2 p_165_129).trans <| (s_cv1 (Lc := [.ref 202, .int (iI x2), .retAddr 0]) p_165_130 (by decide) (by decide) (zM_of zq_36) ⟨Nat.le_of_ble_eq_true rfl, Nat.le_of_ble_eq_true rfl⟩ rfl (m_rc hs_202 ⟨rfl, by decide⟩)))
theorem b_165_133 {x1 : Int} {x2 : Int} {x3 : Int} {x4 : Int} {xs0 : Int} {u5 u6 : Value} : Z e (d + 2) 165 133 [.ref 0, .int (iI x1), .int (iI x2), .int (iI x3), .int (iI x4), u5, u6] [.int (iI xs0)] m = (Z e (d + 1) 126 0 [.ref 1, .int (iI x1), .int (iI x2), .retAddr 0] [] m).bind (ZK e (d + 2) 165 144 [.ref 0, .int (iI x1), .int (iI x2), .int (iI x3), .int (iI x4), .int (iI xs0), u6] [] m) := (s_is_5 cat_i p_165_133).trans <| (s_al_0 p_165_135).trans <| (s_getr p_165_136 hs_0 (by decide) rfl).trans <| (s_il_1 p_165_139).trans <| (s_il_2 p_165_140).trans <| (s_cv2 (Lc := [.ref 1, .int (iI x1), .int (iI x2), .retAddr 0]) p_165_141 (by decide) (by decide) (zM_of zq_126) ⟨Nat.le_of_ble_eq_true rfl, Nat.le_of_ble_eq_true rfl⟩ rfl (m_rc hs_1 ⟨rfl, by decide⟩))
theorem b_165_144 {x1 : Int} {x2 : Int} {x3 : Int} {x4 : Int} {x5 : Int} {xs0 : Int} {u6 : Value} : Z e (d + 2) 165 144 [.ref 0, .int (iI x1), .int (iI x2), .int (iI x3), .int (iI x4), .int (iI x5), u6] [.int (iI xs0)] m = (Z e (d + 1) 105 0 [.ref 12, .int (iI xs0), .int (iI 4), .int (iI x5)] [] m).bind (ZK e (d + 2) 165 161 [.ref 0, .int (iI x1), .int (iI x2), .int (iI x3), .int (iI x4), .int (iI x5), .int (iI xs0)] [] m) := (s_is_6 cat_i p_165_144).trans <| (s_al_0 p_165_146).trans <| (s_getr p_165_147 hs_0 (by decide) rfl).trans <| (s_getr p_165_150 hs_1 (by decide) rfl).trans <| (s_il_6 p_165_153).trans <| (s_const p_165_155).trans <| (s_il_5 p_165_156).trans <| (s_cv3 (Lc := [.ref 12, .int (iI xs0), .int (iI 4), .int (iI x5)]) p_165_158 (by decide) (by decide) (zM_of zq_105) ⟨Nat.le_of_ble_eq_true rfl, Nat.le_of_ble_eq_true rfl⟩ rfl (m_rc hs_12 ⟨rfl, by decide⟩))
theorem b_165_161 {x1 : Int} {x2 : Int} {x3 : Int} {x4 : Int} {x5 : Int} {x6 : Int} : Z e (d + 2) 165 161 [.ref 0, .int (iI x1), .int (iI x2), .int (iI x3), .int (iI x4), .int (iI x5), .int (iI x6)] [] m = (Z e (d + 1) 105 0 [.ref 12, .int (iI x6), .int (iI 5), .int (iI (if ¬ (wr x4) = 0 then 1 else 0))] [] m).bind (ZK e (d + 2) 165 184 [.ref 0, .int (iI x1), .int (iI x2), .int (iI x3), .int (iI x4), .int (iI x5), .int (iI x6)] [] m) := (s_al_0 p_165_161).trans <| (s_getr p_165_162 hs_0 (by decide) rfl).trans <| (s_getr p_165_165 hs_1 (by decide) rfl).trans <| (s_il_6 p_165_168).trans <| (s_const p_165_170).trans <| (s_il_4 p_165_171).trans <| Eq.trans (Eq.trans ((s_z_eq_f p_165_173 rfl rfl)) <| Eq.trans (ite_cg ((s_const p_165_176).trans <| (s_goto p_165_177 rfl).trans <| rfl) ((s_const p_165_180).trans <| rfl)) (phi1 (fun z0 => Z e (d + 2) 165 181 [.ref 0, .int (iI x1), .int (iI x2), .int (iI x3), .int (iI x4), .int (iI x5), .int (iI x6)] [.int (iI z0), .int (iI 5), .int (iI x6), .ref 12] m))) <| (s_cv3 (Lc := [.ref 12, .int (iI x6), .int (iI 5), .int (iI (if ¬ (wr x4) = 0 then 1 else 0))]) p_165_181 (by decide) (by decide) (zM_of zq_105) ⟨Nat.le_of_ble_eq_true rfl, Nat.le_of_ble_eq_true rfl⟩ rfl (m_rc hs_12 ⟨rfl, by decide⟩))
theorem b_165_184 {x1 : Int} {x2 : Int} {x3 : Int} {x4 : Int} {x5 : Int} {x6 : Int} : Z e (d + 2) 165 184 [.ref 0, .int (iI x1), .int (iI x2), .int (iI x3), .int (iI x4), .int (iI x5), .int (iI x6)] [] m = (Z e (d + 1) 105 0 [.ref 12, .int (iI x6), .int (iI 6), .int (iI (if ¬ (wr x3) = 0 then 1 else 0))] [] m).bind (ZK e (d + 2) 165 207 [.ref 0, .int (iI x1), .int (iI x2), .int (iI x3), .int (iI x4), .int (iI x5), .int (iI x6)] [] m) := (s_al_0 p_165_184).trans <| (s_getr p_165_185 hs_0 (by decide) rfl).trans <| (s_getr p_165_188 hs_1 (by decide) rfl).trans <| (s_il_6 p_165_191).trans <| (s_bip p_165_193 rfl).trans <| (s_il_3 p_165_195).trans <| Eq.trans (Eq.trans ((s_z_eq_f p_165_196 rfl rfl)) <| Eq.trans (ite_cg ((s_const p_165_199).trans <| (s_goto p_165_200 rfl).trans <| rfl) ((s_const p_165_203).trans <| rfl)) (phi1 (fun z0 => Z e (d + 2) 165 204 [.ref 0, .int (iI x1), .int (iI x2), .int (iI x3), .int (iI x4), .int (iI x5), .int (iI x6)] [.int (iI z0), .int (iI 6), .int (iI x6), .ref 12] m))) <| (s_cv3 (Lc := [.ref 12, .int (iI x6), .int (iI 6), .int (iI (if ¬ (wr x3) = 0 then 1 else 0))]) p_165_204 (by decide) (by decide) (zM_of zq_105) ⟨Nat.le_of_ble_eq_true rfl, Nat.le_of_ble_eq_true rfl⟩ rfl (m_rc hs_12 ⟨rfl, by decide⟩))
theorem b_165_207 {x1 : Int} {x2 : Int} {x4 : Int} {x5 : Int} {x6 : Int} {u3 : Value} : Z e (d + 2) 165 207 [.ref 0, .int (iI x1), .int (iI x2), u3, .int (iI x4), .int (iI x5), .int (iI x6)] [] m = (Z e (d + 1) 104 0 [.ref 4, .int (iI x1), .int (iI 8)] [] m).bind (ZK e (d + 2) 165 230 [.ref 0, .int (iI x1), .int (iI x2), u3, .int (iI x4), .int (iI x5), .int (iI x6)] [.int (iI 8), .int (iI x1), .ref 4] m) := (s_al_0 p_165_207).trans <| (s_getr p_165_208 hs_0 (by decide) rfl).trans <| (s_getr p_165_211 hs_1 (by decide) rfl).trans <| (s_il_1 p_165_214).trans <| (s_bip p_165_215 rfl).trans <| (s_al_0 p_165_217).trans <| (s_getr p_165_218 hs_0 (by decide) rfl).trans <| (s_getr p_165_221 hs_1 (by decide) rfl).trans <| (s_il_1 p_165_224).trans <| (s_bip p_165_225 rfl).trans <| (s_cv2 (Lc := [.ref 4, .int (iI x1), .int (iI 8)]) p_165_227 (by decide) (by decide) (zM_of zq_104) ⟨Nat.le_of_ble_eq_true rfl, Nat.le_of_ble_eq_true rfl⟩ rfl (m_rc hs_4 ⟨rfl, by decide⟩))
theorem b_165_230 {x2 : Int} {x4 : Int} {x5 : Int} {x6 : Int} {xs0 : Int} {xs1 : Int} {xs2 : Int} {u1 u3 : Value} : Z e (d + 2) 165 230 [.ref 0, u1, .int (iI x2), u3, .int (iI x4), .int (iI x5), .int (iI x6)] [.int (iI xs0), .int (iI xs1), .int (iI xs2), .ref 4] m = (Z e (d + 1) 105 0 [.ref 4, .int (iI xs2), .int (iI xs1), .int (iI (xs0 + x5))] [] m).bind (ZK e (d + 2) 165 236 [.ref 0, u1, .int (iI x2), u3, .int (iI x4), .int (iI x5), .int (iI x6)] [] m) := (s_il_5 p_165_230).trans <| (s_iadd p_165_232).trans <| (s_cv3 (Lc := [.ref 4, .int (iI xs2), .int (iI xs1), .int (iI (xs0 + x5))]) p_165_233 (by decide) (by decide) (zM_of zq_105) ⟨Nat.le_of_ble_eq_true rfl, Nat.le_of_ble_eq_true rfl⟩ rfl (m_rc hs_4 ⟨rfl, by decide⟩))
theorem b_165_236 {x2 : Int} {x4 : Int} {x6 : Int} {u1 u3 u5 : Value} : Z e (d + 2) 165 236 [.ref 0, u1, .int (iI x2), u3, .int (iI x4), u5, .int (iI x6)] [] m = (Z e (d + 1) 129 0 [.ref 1, .int (iI x2), .int (iI (if ¬ (wr x4) = 0 then 5 else 6))] [] m).bind (ZK e (d + 2) 165 255 [.ref 0, u1, .int (iI x2), u3, .int (iI x4), u5, .int (iI x6)] [] m) := (s_al_0 p_165_236).trans <| (s_getr p_165_237 hs_0 (by decide) rfl).trans <| (s_il_2 p_165_240).trans <| (s_il_4 p_165_241).trans <| Eq.trans (Eq.trans ((s_z_eq_f p_165_243 rfl rfl)) <| Eq.trans (ite_cg ((s_const p_165_246).trans <| (s_goto p_165_247 rfl).trans <| rfl) ((s_bip p_165_250 rfl).trans <| rfl)) (phi1 (fun z0 => Z e (d + 2) 165 252 [.ref 0, u1, .int (iI x2), u3, .int (iI x4), u5, .int (iI x6)] [.int (iI z0), .int (iI x2), .ref 1] m))) <| (s_cv2 (Lc := [.ref 1, .int (iI x2), .int (iI (if ¬ (wr x4) = 0 then 5 else 6))]) p_165_252 (by decide) (by decide) (zM_of zq_129) ⟨Nat.le_of_ble_eq_true rfl, Nat.le_of_ble_eq_true rfl⟩ rfl (m_rc hs_1 ⟨rfl, by decide⟩))
theorem b_165_255 {x2 : Int} {x6 : Int} {u1 u3 u4 u5 : Value} : Z e (d + 2) 165 255 [.ref 0, u1, .int (iI x2), u3, u4, u5, .int (iI x6)] [] m = (Z e (d + 1) 105 0 [.ref 4, .int (iI x2), .int (iI 4), .int (iI (-3))] [] m).bind (ZK e (d + 2) 165 269 [.ref 0, u1, .int (iI x2), u3, u4, u5, .int (iI x6)] [] m) := (s_al_0 p_165_255).trans <| (s_getr p_165_256 hs_0 (by decide) rfl).trans <| (s_getr p_165_259 hs_1 (by decide) rfl).trans <| (s_il_2 p_165_262).trans <| (s_const p_165_263).trans <| (s_bip p_165_264 rfl).trans <| (s_cv3 (Lc := [.ref 4, .int (iI x2), .int (iI 4), .int (iI (-3))]) p_165_266 (by decide) (by decide) (zM_of zq_105) ⟨Nat.le_of_ble_eq_true rfl, Nat.le_of_ble_eq_true rfl⟩ rfl (m_rc hs_4 ⟨rfl, by decide⟩))
theorem b_165_269 {x6 : Int} {u0 u1 u2 u3 u4 u5 : Value} : Z e (d + 2) 165 269 [u0, u1, u2, u3, u4, u5, .int (iI x6)] [] m = ri x6 m := (s_il_6 p_165_269).trans <| (s_reti p_165_271 (zM_of zq_165))
-- P.taking
theorem p_166_0 : zP1 166 0 = some (.aload_n 0, 0, 0, 0) := zp_l zq_166 rfl
theorem p_166_1 : zP1 166 1 = some (.getfield 10, 10, 0, 0) := zp_r zq_166 rfl
theorem p_166_4 : zP1 166 4 = some (.getfield 271, 9, 9, 0) := zp_r zq_166 rfl
theorem p_166_7 : zP1 166 7 = some (.iload_n 1, 0, 0, 0) := zp_l zq_166 rfl
theorem p_166_8 : zP1 166 8 = some (.invokevirtual 229, 102, 1, 7) := zp_r zq_166 rfl
theorem p_166_11 : zP1 166 11 = some (.ifCond .eq 12, 0, 0, 0) := zp_l zq_166 rfl
theorem p_166_14 : zP1 166 14 = some (.iload_n 2, 0, 0, 0) := zp_l zq_166 rfl
theorem p_166_15 : zP1 166 15 = some (.ifCond .lt 8, 0, 0, 0) := zp_l zq_166 rfl
theorem p_166_18 : zP1 166 18 = some (.iload_n 2, 0, 0, 0) := zp_l zq_166 rfl
theorem p_166_19 : zP1 166 19 = some (.iconst 5, 0, 0, 0) := zp_l zq_166 rfl
theorem p_166_20 : zP1 166 20 = some (.if_icmp .le 5, 0, 0, 0) := zp_l zq_166 rfl
theorem p_166_23 : zP1 166 23 = some (.iconst (-1), 0, 0, 0) := zp_l zq_166 rfl
theorem p_166_24 : zP1 166 24 = some (.ireturn, 0, 0, 0) := zp_l zq_166 rfl
theorem p_166_25 : zP1 166 25 = some (.aload_n 0, 0, 0, 0) := zp_l zq_166 rfl
theorem p_166_26 : zP1 166 26 = some (.getfield 10, 10, 0, 0) := zp_r zq_166 rfl
theorem p_166_29 : zP1 166 29 = some (.getfield 271, 9, 9, 0) := zp_r zq_166 rfl
theorem p_166_32 : zP1 166 32 = some (.iload_n 1, 0, 0, 0) := zp_l zq_166 rfl
theorem p_166_33 : zP1 166 33 = some (.iload_n 2, 0, 0, 0) := zp_l zq_166 rfl
theorem p_166_34 : zP1 166 34 = some (.invokevirtual 126, 104, 2, 7) := zp_r zq_166 rfl
theorem p_166_37 : zP1 166 37 = some (.istore_n 3, 0, 0, 0) := zp_l zq_166 rfl
theorem p_166_38 : zP1 166 38 = some (.iload_n 2, 0, 0, 0) := zp_l zq_166 rfl
theorem p_166_39 : zP1 166 39 = some (.iconst 5, 0, 0, 0) := zp_l zq_166 rfl
theorem p_166_40 : zP1 166 40 = some (.if_icmp .ne 18, 0, 0, 0) := zp_l zq_166 rfl
theorem p_166_43 : zP1 166 43 = some (.aload_n 0, 0, 0, 0) := zp_l zq_166 rfl
theorem p_166_44 : zP1 166 44 = some (.getfield 40, 10, 4, 0) := zp_r zq_166 rfl
theorem p_166_47 : zP1 166 47 = some (.iload_n 1, 0, 0, 0) := zp_l zq_166 rfl
theorem p_166_48 : zP1 166 48 = some (.invokevirtual 280, 37, 1, 1) := zp_r zq_166 rfl
theorem p_166_51 : zP1 166 51 = some (.ifCond .eq 7, 0, 0, 0) := zp_l zq_166 rfl
theorem p_166_54 : zP1 166 54 = some (.iload_n 3, 0, 0, 0) := zp_l zq_166 rfl
theorem p_166_55 : zP1 166 55 = some (.iconst 2, 0, 0, 0) := zp_l zq_166 rfl
theorem p_166_56 : zP1 166 56 = some (.iadd, 0, 0, 0) := zp_l zq_166 rfl
theorem p_166_57 : zP1 166 57 = some (.ireturn, 0, 0, 0) := zp_l zq_166 rfl
theorem p_166_58 : zP1 166 58 = some (.iload_n 3, 0, 0, 0) := zp_l zq_166 rfl
theorem p_166_59 : zP1 166 59 = some (.ireturn, 0, 0, 0) := zp_l zq_166 rfl
theorem b_166_0 {x1 : Int} {x2 : Int} : Z e (d + 1) 166 0 [.ref 0, .int (iI x1), .int (iI x2), .retAddr 0] [] m = (if (¬ ((0 ≤ (wr x1)) ∧ ((wr x1) < (wr (m 12 3))))) ∨ (((wr x2) < 0) ∨ (5 < (wr x2))) then ri (-1) m else (Z e d 104 0 [.ref 12, .int (iI x1), .int (iI x2)] [] m).bind (ZK e (d + 1) 166 37 [.ref 0, .int (iI x1), .int (iI x2), .retAddr 0] [] m)) := (s_al_0 p_166_0).trans <| (s_getr p_166_1 hs_0 (by decide) rfl).trans <| (s_getr p_166_4 hs_1 (by decide) rfl).trans <| (s_il_1 p_166_7).trans <| (s_cv1 (Lc := [.ref 12, .int (iI x1)]) p_166_8 (by decide) (by decide) (zM_of zq_102) ⟨Nat.le_of_ble_eq_true rfl, Nat.le_of_ble_eq_true rfl⟩ rfl (m_rc hs_12 ⟨rfl, by decide⟩)).trans <| (bd (b_102_0 zTab_12)).trans <| ri_k.trans <| Eq.trans (Eq.trans (s_beq_t p_166_11 rfl) <| Eq.trans (ite_cg rfl ((s_il_2 p_166_14).trans <| Eq.trans (s_z_lt_t p_166_15 rfl rfl) <| Eq.trans (ite_cg rfl ((s_il_2 p_166_18).trans <| (s_const p_166_19).trans <| (s_c_le_f p_166_20 rfl rfl wl_5))) co_or)) co_or) <| ite_cg ((s_const p_166_23).trans <| (s_reti p_166_24 (zM_of zq_166))) ((s_al_0 p_166_25).trans <| (s_getr p_166_26 hs_0 (by decide) rfl).trans <| (s_getr p_166_29 hs_1 (by decide) rfl).trans <| (s_il_1 p_166_32).trans <| (s_il_2 p_166_33).trans <| (s_cv2 (Lc := [.ref 12, .int (iI x1), .int (iI x2)]) p_166_34 (by decide) (by decide) (zM_of zq_104) ⟨Nat.le_of_ble_eq_true rfl, Nat.le_of_ble_eq_true rfl⟩ rfl (m_rc hs_12 ⟨rfl, by decide⟩)))
theorem b_166_37 {x1 : Int} {x2 : Int} {xs0 : Int} {u3 : Value} : Z e (d + 1) 166 37 [.ref 0, .int (iI x1), .int (iI x2), u3] [.int (iI xs0)] m = (if (wr x2) = 5 then (Z e d 37 0 [.ref 202, .int (iI x1), .retAddr 0, .retAddr 0] [] m).bind (ZK e (d + 1) 166 51 [.ref 0, .int (iI x1), .int (iI x2), .int (iI xs0)] [] m) else ri xs0 m) := (s_is_3 cat_i p_166_37).trans <| (s_il_2 p_166_38).trans <| (s_const p_166_39).trans <| Eq.trans ((s_c_ne_f p_166_40 rfl rfl wl_5)) <| ite_cg ((s_al_0 p_166_43).trans <| (s_getr p_166_44 hs_0 (by decide) rfl).trans <| (s_il_1 p_166_47).trans <| (s_cv1 (Lc := [.ref 202, .int (iI x1), .retAddr 0, .retAddr 0]) p_166_48 (by decide) (by decide) (zM_of zq_37) ⟨Nat.le_of_ble_eq_true rfl, Nat.le_of_ble_eq_true rfl⟩ rfl (m_rc hs_202 ⟨rfl, by decide⟩))) ((s_il_3 p_166_58).trans <| (s_reti p_166_59 (zM_of zq_166)))
theorem b_166_51 {x3 : Int} {xs0 : Int} {u0 u1 u2 : Value} : Z e (d + 1) 166 51 [u0, u1, u2, .int (iI x3)] [.int (iI xs0)] m = (if ¬ (wr xs0) = 0 then ri (x3 + 2) m else ri x3 m) := Eq.trans ((s_z_eq_f p_166_51 rfl rfl)) <| ite_cg ((s_il_3 p_166_54).trans <| (s_const p_166_55).trans <| (s_iadd p_166_56).trans <| (s_reti p_166_57 (zM_of zq_166))) ((s_il_3 p_166_58).trans <| (s_reti p_166_59 (zM_of zq_166)))
-- P.noClock
theorem p_196_0 : zP1 196 0 = some (.iload_n 0, 0, 0, 0) := zp_l zq_196 rfl
theorem p_196_1 : zP1 196 1 = some (.ifCond .lt 9, 0, 0, 0) := zp_l zq_196 rfl
theorem p_196_4 : zP1 196 4 = some (.iload_n 0, 0, 0, 0) := zp_l zq_196 rfl
theorem p_196_5 : zP1 196 5 = some (.bipush 24, 0, 0, 0) := zp_l zq_196 rfl
theorem p_196_7 : zP1 196 7 = some (.if_icmp .lt 7, 0, 0, 0) := zp_l zq_196 rfl
theorem p_196_10 : zP1 196 10 = some (.iconst 1, 0, 0, 0) := zp_l zq_196 rfl
theorem p_196_11 : zP1 196 11 = some (.goto 4, 0, 0, 0) := zp_l zq_196 rfl
theorem p_196_14 : zP1 196 14 = some (.iconst 0, 0, 0, 0) := zp_l zq_196 rfl
theorem p_196_15 : zP1 196 15 = some (.ireturn, 0, 0, 0) := zp_l zq_196 rfl
theorem b_196_0 {x0 : Int} : Z e d 196 0 [.int (iI x0)] [] m = ri (if ((wr x0) < 0) ∨ (24 ≤ (wr x0)) then 1 else 0) m := (s_il_0 p_196_0).trans <| Eq.trans (Eq.trans (Eq.trans (s_z_lt_t p_196_1 rfl rfl) <| Eq.trans (ite_cg rfl ((s_il_0 p_196_4).trans <| (s_bip p_196_5 rfl).trans <| (s_c_lt_f p_196_7 rfl rfl wl_24))) co_or) <| Eq.trans (ite_cg ((s_const p_196_10).trans <| (s_goto p_196_11 rfl).trans <| rfl) ((s_const p_196_14).trans <| rfl)) (phi1 (fun z0 => Z e d 196 15 [.int (iI x0)] [.int (iI z0)] m))) <| (s_retb p_196_15 (zM_of zq_196))
-- P.post
theorem p_167_0 : zP1 167 0 = some (.iload_n 1, 0, 0, 0) := zp_l zq_167 rfl
theorem p_167_1 : zP1 167 1 = some (.invokestatic 86, 194, 1, 0) := zp_r zq_167 rfl
theorem p_167_4 : zP1 167 4 = some (.ifCond .ne 27, 0, 0, 0) := zp_l zq_167 rfl
theorem p_167_7 : zP1 167 7 = some (.iload_n 3, 0, 0, 0) := zp_l zq_167 rfl
theorem p_167_8 : zP1 167 8 = some (.invokestatic 283, 196, 1, 0) := zp_r zq_167 rfl
theorem p_167_11 : zP1 167 11 = some (.ifCond .ne 20, 0, 0, 0) := zp_l zq_167 rfl
theorem p_167_14 : zP1 167 14 = some (.iload 4, 0, 0, 0) := zp_l zq_167 rfl
theorem p_167_16 : zP1 167 16 = some (.invokestatic 283, 196, 1, 0) := zp_r zq_167 rfl
theorem p_167_19 : zP1 167 19 = some (.ifCond .ne 12, 0, 0, 0) := zp_l zq_167 rfl
theorem p_167_22 : zP1 167 22 = some (.iload_n 2, 0, 0, 0) := zp_l zq_167 rfl
theorem p_167_23 : zP1 167 23 = some (.ifCond .lt 8, 0, 0, 0) := zp_l zq_167 rfl
theorem p_167_26 : zP1 167 26 = some (.iload_n 2, 0, 0, 0) := zp_l zq_167 rfl
theorem p_167_27 : zP1 167 27 = some (.iconst 4, 0, 0, 0) := zp_l zq_167 rfl
theorem p_167_28 : zP1 167 28 = some (.if_icmp .le 5, 0, 0, 0) := zp_l zq_167 rfl
theorem p_167_31 : zP1 167 31 = some (.iconst (-1), 0, 0, 0) := zp_l zq_167 rfl
theorem p_167_32 : zP1 167 32 = some (.ireturn, 0, 0, 0) := zp_l zq_167 rfl
theorem p_167_33 : zP1 167 33 = some (.aload_n 0, 0, 0, 0) := zp_l zq_167 rfl
theorem p_167_34 : zP1 167 34 = some (.getfield 10, 10, 0, 0) := zp_r zq_167 rfl
theorem p_167_37 : zP1 167 37 = some (.iload_n 1, 0, 0, 0) := zp_l zq_167 rfl
theorem p_167_38 : zP1 167 38 = some (.invokevirtual 107, 123, 1, 9) := zp_r zq_167 rfl
theorem p_167_41 : zP1 167 41 = some (.ifCond .eq 6, 0, 0, 0) := zp_l zq_167 rfl
theorem p_167_44 : zP1 167 44 = some (.bipush (-4), 0, 0, 0) := zp_l zq_167 rfl
theorem p_167_46 : zP1 167 46 = some (.ireturn, 0, 0, 0) := zp_l zq_167 rfl
theorem p_167_47 : zP1 167 47 = some (.aload_n 0, 0, 0, 0) := zp_l zq_167 rfl
theorem p_167_48 : zP1 167 48 = some (.getfield 10, 10, 0, 0) := zp_r zq_167 rfl
theorem p_167_51 : zP1 167 51 = some (.getfield 286, 9, 10, 0) := zp_r zq_167 rfl
theorem p_167_54 : zP1 167 54 = some (.invokevirtual 114, 103, 0, 7) := zp_r zq_167 rfl
theorem p_167_57 : zP1 167 57 = some (.ifCond .eq 6, 0, 0, 0) := zp_l zq_167 rfl
theorem p_167_60 : zP1 167 60 = some (.bipush (-2), 0, 0, 0) := zp_l zq_167 rfl
theorem p_167_62 : zP1 167 62 = some (.ireturn, 0, 0, 0) := zp_l zq_167 rfl
theorem p_167_63 : zP1 167 63 = some (.aload_n 0, 0, 0, 0) := zp_l zq_167 rfl
theorem p_167_64 : zP1 167 64 = some (.getfield 47, 10, 5, 0) := zp_r zq_167 rfl
theorem p_167_67 : zP1 167 67 = some (.iload_n 1, 0, 0, 0) := zp_l zq_167 rfl
theorem p_167_68 : zP1 167 68 = some (.iload_n 2, 0, 0, 0) := zp_l zq_167 rfl
theorem p_167_69 : zP1 167 69 = some (.iload_n 3, 0, 0, 0) := zp_l zq_167 rfl
theorem p_167_70 : zP1 167 70 = some (.iload 4, 0, 0, 0) := zp_l zq_167 rfl
theorem p_167_72 : zP1 167 72 = some (.invokevirtual 288, 53, 4, 3) := zp_r zq_167 rfl
theorem p_167_75 : zP1 167 75 = some (.ireturn, 0, 0, 0) := zp_l zq_167 rfl
theorem b_167_0 {x1 : Int} {x2 : Int} {x3 : Int} {x4 : Int} : Z e (d + 1) 167 0 [.ref 0, .int (iI x1), .int (iI x2), .int (iI x3), .int (iI x4)] [] m = (if (((wr x1) < 0) ∨ (100 ≤ (wr x1))) ∨ ((((wr x3) < 0) ∨ (24 ≤ (wr x3))) ∨ ((((wr x4) < 0) ∨ (24 ≤ (wr x4))) ∨ (((wr x2) < 0) ∨ (4 < (wr x2))))) then ri (-1) m else ck (0 ≤ (wr x1) ∧ (wr x1) < 100) ((if (wr (m 2 (wr x1))) = 1 then ri (-4) m else (if (wr ((8 : Nat) : Int)) ≤ (wr (m 14 3)) then ri (-2) m else (Z e d 53 0 [.ref 206, .int (iI x1), .int (iI x2), .int (iI x3), .int (iI x4), .retAddr 0, .retAddr 0, .retAddr 0] [] m).bind (ZK e (d + 1) 167 75 [.ref 0, .int (iI x1), .int (iI x2), .int (iI x3), .int (iI x4)] [] m))))) := (s_il_1 p_167_0).trans <| (s_cs1 (Lc := [.int (iI x1)]) p_167_1 (by decide) (zM_of zq_194) ⟨Nat.le_of_ble_eq_true rfl, Nat.le_of_ble_eq_true rfl⟩ rfl).trans <| (bd b_194_0).trans <| ri_k.trans <| Eq.trans (Eq.trans (s_bne_t p_167_4 rfl) <| Eq.trans (ite_cg rfl ((s_il_3 p_167_7).trans <| (s_cs1 (Lc := [.int (iI x3)]) p_167_8 (by decide) (zM_of zq_196) ⟨Nat.le_of_ble_eq_true rfl, Nat.le_of_ble_eq_true rfl⟩ rfl).trans <| (bd b_196_0).trans <| ri_k.trans <| Eq.trans (s_bne_t p_167_11 rfl) <| Eq.trans (ite_cg rfl ((s_il_4 p_167_14).trans <| (s_cs1 (Lc := [.int (iI x4)]) p_167_16 (by decide) (zM_of zq_196) ⟨Nat.le_of_ble_eq_true rfl, Nat.le_of_ble_eq_true rfl⟩ rfl).trans <| (bd b_196_0).trans <| ri_k.trans <| Eq.trans (s_bne_t p_167_19 rfl) <| Eq.trans (ite_cg rfl ((s_il_2 p_167_22).trans <| Eq.trans (s_z_lt_t p_167_23 rfl rfl) <| Eq.trans (ite_cg rfl ((s_il_2 p_167_26).trans <| (s_const p_167_27).trans <| (s_c_le_f p_167_28 rfl rfl wl_4))) co_or)) co_or)) co_or)) co_or) <| ite_cg ((s_const p_167_31).trans <| (s_reti p_167_32 (zM_of zq_167))) ((s_al_0 p_167_33).trans <| (s_getr p_167_34 hs_0 (by decide) rfl).trans <| (s_il_1 p_167_37).trans <| (s_cv1 (Lc := [.ref 1, .int (iI x1)]) p_167_38 (by decide) (by decide) (zM_of zq_123) ⟨Nat.le_of_ble_eq_true rfl, Nat.le_of_ble_eq_true rfl⟩ rfl (m_rc hs_1 ⟨rfl, by decide⟩)).trans <| (bd b_123_0).trans <| ck_bind.trans <| ck_cg fun _ => ri_k.trans <| Eq.trans ((s_beq_f p_167_41 rfl)) <| ite_cg ((s_bip p_167_44 rfl).trans <| (s_reti p_167_46 (zM_of zq_167))) ((s_al_0 p_167_47).trans <| (s_getr p_167_48 hs_0 (by decide) rfl).trans <| (s_getr p_167_51 hs_1 (by decide) rfl).trans <| (s_cv0 (Lc := [.ref 14]) p_167_54 (by decide) (by decide) (zM_of zq_103) ⟨Nat.le_of_ble_eq_true rfl, Nat.le_of_ble_eq_true rfl⟩ rfl (m_rc hs_14 ⟨rfl, by decide⟩)).trans <| (bd (b_103_0 zTab_14)).trans <| ri_k.trans <| Eq.trans ((s_beq_f p_167_57 rfl)) <| ite_cg ((s_bip p_167_60 rfl).trans <| (s_reti p_167_62 (zM_of zq_167))) ((s_al_0 p_167_63).trans <| (s_getr p_167_64 hs_0 (by decide) rfl).trans <| (s_il_1 p_167_67).trans <| (s_il_2 p_167_68).trans <| (s_il_3 p_167_69).trans <| (s_il_4 p_167_70).trans <| (s_cv4 (Lc := [.ref 206, .int (iI x1), .int (iI x2), .int (iI x3), .int (iI x4), .retAddr 0, .retAddr 0, .retAddr 0]) p_167_72 (by decide) (by decide) (zM_of zq_53) ⟨Nat.le_of_ble_eq_true rfl, Nat.le_of_ble_eq_true rfl⟩ rfl (m_rc hs_206 ⟨rfl, by decide⟩)))))
theorem b_167_75 {xs0 : Int} {u0 u1 u2 u3 u4 : Value} : Z e (d + 1) 167 75 [u0, u1, u2, u3, u4] [.int (iI xs0)] m = ri xs0 m := (s_reti p_167_75 (zM_of zq_167))
-- P.sees
theorem p_168_0 : zP1 168 0 = some (.iload_n 1, 0, 0, 0) := zp_l zq_168 rfl
theorem p_168_1 : zP1 168 1 = some (.invokestatic 86, 194, 1, 0) := zp_r zq_168 rfl
theorem p_168_4 : zP1 168 4 = some (.ifCond .ne 10, 0, 0, 0) := zp_l zq_168 rfl
theorem p_168_7 : zP1 168 7 = some (.iload_n 2, 0, 0, 0) := zp_l zq_168 rfl
theorem p_168_8 : zP1 168 8 = some (.invokestatic 144, 195, 1, 0) := zp_r zq_168 rfl
theorem p_168_11 : zP1 168 11 = some (.ifCond .eq 5, 0, 0, 0) := zp_l zq_168 rfl
theorem p_168_14 : zP1 168 14 = some (.iconst (-1), 0, 0, 0) := zp_l zq_168 rfl
theorem p_168_15 : zP1 168 15 = some (.ireturn, 0, 0, 0) := zp_l zq_168 rfl
theorem p_168_16 : zP1 168 16 = some (.aload_n 0, 0, 0, 0) := zp_l zq_168 rfl
theorem p_168_17 : zP1 168 17 = some (.getfield 47, 10, 5, 0) := zp_r zq_168 rfl
theorem p_168_20 : zP1 168 20 = some (.iload_n 1, 0, 0, 0) := zp_l zq_168 rfl
theorem p_168_21 : zP1 168 21 = some (.iload_n 2, 0, 0, 0) := zp_l zq_168 rfl
theorem p_168_22 : zP1 168 22 = some (.bipush 24, 0, 0, 0) := zp_l zq_168 rfl
theorem p_168_24 : zP1 168 24 = some (.irem, 0, 0, 0) := zp_l zq_168 rfl
theorem p_168_25 : zP1 168 25 = some (.invokevirtual 291, 55, 2, 3) := zp_r zq_168 rfl
theorem p_168_28 : zP1 168 28 = some (.ireturn, 0, 0, 0) := zp_l zq_168 rfl
theorem b_168_0 {x1 : Int} {x2 : Int} : Z e (d + 1) 168 0 [.ref 0, .int (iI x1), .int (iI x2)] [] m = (if (((wr x1) < 0) ∨ (100 ≤ (wr x1))) ∨ (((wr x2) < 0) ∨ (9999 < (wr x2))) then ri (-1) m else (Z e d 55 0 [.ref 206, .int (iI x1), .int (iI (jrem x2 24)), .retAddr 0, .retAddr 0, .retAddr 0] [] m).bind (ZK e (d + 1) 168 28 [.ref 0, .int (iI x1), .int (iI x2)] [] m)) := (s_il_1 p_168_0).trans <| (s_cs1 (Lc := [.int (iI x1)]) p_168_1 (by decide) (zM_of zq_194) ⟨Nat.le_of_ble_eq_true rfl, Nat.le_of_ble_eq_true rfl⟩ rfl).trans <| (bd b_194_0).trans <| ri_k.trans <| Eq.trans (Eq.trans (s_bne_t p_168_4 rfl) <| Eq.trans (ite_cg rfl ((s_il_2 p_168_7).trans <| (s_cs1 (Lc := [.int (iI x2)]) p_168_8 (by decide) (zM_of zq_195) ⟨Nat.le_of_ble_eq_true rfl, Nat.le_of_ble_eq_true rfl⟩ rfl).trans <| (bd b_195_0).trans <| ri_k.trans <| (s_beq_f p_168_11 rfl))) co_or) <| ite_cg ((s_const p_168_14).trans <| (s_reti p_168_15 (zM_of zq_168))) ((s_al_0 p_168_16).trans <| (s_getr p_168_17 hs_0 (by decide) rfl).trans <| (s_il_1 p_168_20).trans <| (s_il_2 p_168_21).trans <| (s_bip p_168_22 rfl).trans <| (s_iremc p_168_24 (by decide)).trans <| (s_cv2 (Lc := [.ref 206, .int (iI x1), .int (iI (jrem x2 24)), .retAddr 0, .retAddr 0, .retAddr 0]) p_168_25 (by decide) (by decide) (zM_of zq_55) ⟨Nat.le_of_ble_eq_true rfl, Nat.le_of_ble_eq_true rfl⟩ rfl (m_rc hs_206 ⟨rfl, by decide⟩)))
theorem b_168_28 {xs0 : Int} {u0 u1 u2 : Value} : Z e (d + 1) 168 28 [u0, u1, u2] [.int (iI xs0)] m = ri xs0 m := (s_reti p_168_28 (zM_of zq_168))
-- P.aim
theorem p_169_0 : zP1 169 0 = some (.aload_n 0, 0, 0, 0) := zp_l zq_169 rfl
theorem p_169_1 : zP1 169 1 = some (.iload_n 1, 0, 0, 0) := zp_l zq_169 rfl
theorem p_169_2 : zP1 169 2 = some (.invokevirtual 123, 197, 1, 10) := zp_r zq_169 rfl
theorem p_169_5 : zP1 169 5 = some (.ifCond .ne 10, 0, 0, 0) := zp_l zq_169 rfl
theorem p_169_8 : zP1 169 8 = some (.iload_n 2, 0, 0, 0) := zp_l zq_169 rfl
theorem p_169_9 : zP1 169 9 = some (.invokestatic 86, 194, 1, 0) := zp_r zq_169 rfl
theorem p_169_12 : zP1 169 12 = some (.ifCond .eq 5, 0, 0, 0) := zp_l zq_169 rfl
theorem p_169_15 : zP1 169 15 = some (.iconst (-1), 0, 0, 0) := zp_l zq_169 rfl
theorem p_169_16 : zP1 169 16 = some (.ireturn, 0, 0, 0) := zp_l zq_169 rfl
theorem p_169_17 : zP1 169 17 = some (.aload_n 0, 0, 0, 0) := zp_l zq_169 rfl
theorem p_169_18 : zP1 169 18 = some (.getfield 10, 10, 0, 0) := zp_r zq_169 rfl
theorem p_169_21 : zP1 169 21 = some (.iload_n 1, 0, 0, 0) := zp_l zq_169 rfl
theorem p_169_22 : zP1 169 22 = some (.invokevirtual 268, 128, 1, 9) := zp_r zq_169 rfl
theorem p_169_25 : zP1 169 25 = some (.ifCond .ne 19, 0, 0, 0) := zp_l zq_169 rfl
theorem p_169_28 : zP1 169 28 = some (.aload_n 0, 0, 0, 0) := zp_l zq_169 rfl
theorem p_169_29 : zP1 169 29 = some (.getfield 10, 10, 0, 0) := zp_r zq_169 rfl
theorem p_169_32 : zP1 169 32 = some (.getfield 110, 9, 5, 0) := zp_r zq_169 rfl
theorem p_169_35 : zP1 169 35 = some (.iload_n 1, 0, 0, 0) := zp_l zq_169 rfl
theorem p_169_36 : zP1 169 36 = some (.iconst 0, 0, 0, 0) := zp_l zq_169 rfl
theorem p_169_37 : zP1 169 37 = some (.invokevirtual 126, 104, 2, 7) := zp_r zq_169 rfl
theorem p_169_40 : zP1 169 40 = some (.iload_n 2, 0, 0, 0) := zp_l zq_169 rfl
theorem p_169_41 : zP1 169 41 = some (.if_icmp .ne 6, 0, 0, 0) := zp_l zq_169 rfl
theorem p_169_44 : zP1 169 44 = some (.bipush (-4), 0, 0, 0) := zp_l zq_169 rfl
theorem p_169_46 : zP1 169 46 = some (.ireturn, 0, 0, 0) := zp_l zq_169 rfl
theorem p_169_47 : zP1 169 47 = some (.aload_n 0, 0, 0, 0) := zp_l zq_169 rfl
theorem p_169_48 : zP1 169 48 = some (.getfield 10, 10, 0, 0) := zp_r zq_169 rfl
theorem p_169_51 : zP1 169 51 = some (.getfield 110, 9, 5, 0) := zp_r zq_169 rfl
theorem p_169_54 : zP1 169 54 = some (.iload_n 1, 0, 0, 0) := zp_l zq_169 rfl
theorem p_169_55 : zP1 169 55 = some (.iconst 4, 0, 0, 0) := zp_l zq_169 rfl
theorem p_169_56 : zP1 169 56 = some (.invokevirtual 126, 104, 2, 7) := zp_r zq_169 rfl
theorem p_169_59 : zP1 169 59 = some (.istore_n 3, 0, 0, 0) := zp_l zq_169 rfl
theorem p_169_60 : zP1 169 60 = some (.aload_n 0, 0, 0, 0) := zp_l zq_169 rfl
theorem p_169_61 : zP1 169 61 = some (.getfield 10, 10, 0, 0) := zp_r zq_169 rfl
theorem p_169_64 : zP1 169 64 = some (.getfield 110, 9, 5, 0) := zp_r zq_169 rfl
theorem p_169_67 : zP1 169 67 = some (.iload_n 1, 0, 0, 0) := zp_l zq_169 rfl
theorem p_169_68 : zP1 169 68 = some (.iconst 4, 0, 0, 0) := zp_l zq_169 rfl
theorem p_169_69 : zP1 169 69 = some (.iload_n 2, 0, 0, 0) := zp_l zq_169 rfl
theorem p_169_70 : zP1 169 70 = some (.invokevirtual 129, 105, 3, 7) := zp_r zq_169 rfl
theorem p_169_73 : zP1 169 73 = some (.aload_n 0, 0, 0, 0) := zp_l zq_169 rfl
theorem p_169_74 : zP1 169 74 = some (.getfield 10, 10, 0, 0) := zp_r zq_169 rfl
theorem p_169_77 : zP1 169 77 = some (.getfield 110, 9, 5, 0) := zp_r zq_169 rfl
theorem p_169_80 : zP1 169 80 = some (.iload_n 1, 0, 0, 0) := zp_l zq_169 rfl
theorem p_169_81 : zP1 169 81 = some (.bipush 6, 0, 0, 0) := zp_l zq_169 rfl
theorem p_169_83 : zP1 169 83 = some (.iconst 0, 0, 0, 0) := zp_l zq_169 rfl
theorem p_169_84 : zP1 169 84 = some (.invokevirtual 129, 105, 3, 7) := zp_r zq_169 rfl
theorem p_169_87 : zP1 169 87 = some (.iload_n 3, 0, 0, 0) := zp_l zq_169 rfl
theorem p_169_88 : zP1 169 88 = some (.ireturn, 0, 0, 0) := zp_l zq_169 rfl
theorem b_169_0 {x1 : Int} {x2 : Int} : Z e (d + 2) 169 0 [.ref 0, .int (iI x1), .int (iI x2), .retAddr 0] [] m = (if (¬ ((0 ≤ (wr x1)) ∧ ((wr x1) < (wr (m 4 3))))) ∨ (((wr x2) < 0) ∨ (100 ≤ (wr x2))) then ri (-1) m else (Z e (d + 1) 128 0 [.ref 1, .int (iI x1)] [] m).bind (ZK e (d + 2) 169 25 [.ref 0, .int (iI x1), .int (iI x2), .retAddr 0] [] m)) := (s_al_0 p_169_0).trans <| (s_il_1 p_169_1).trans <| (s_cv1 (Lc := [.ref 0, .int (iI x1)]) p_169_2 (by decide) (by decide) (zM_of zq_197) ⟨Nat.le_of_ble_eq_true rfl, Nat.le_of_ble_eq_true rfl⟩ rfl (m_rc hs_0 ⟨rfl, by decide⟩)).trans <| (bd b_197_0).trans <| ri_k.trans <| Eq.trans (Eq.trans (s_bne_t p_169_5 rfl) <| Eq.trans (ite_cg rfl ((s_il_2 p_169_8).trans <| (s_cs1 (Lc := [.int (iI x2)]) p_169_9 (by decide) (zM_of zq_194) ⟨Nat.le_of_ble_eq_true rfl, Nat.le_of_ble_eq_true rfl⟩ rfl).trans <| (bd b_194_0).trans <| ri_k.trans <| (s_beq_f p_169_12 rfl))) co_or) <| ite_cg ((s_const p_169_15).trans <| (s_reti p_169_16 (zM_of zq_169))) ((s_al_0 p_169_17).trans <| (s_getr p_169_18 hs_0 (by decide) rfl).trans <| (s_il_1 p_169_21).trans <| (s_cv1 (Lc := [.ref 1, .int (iI x1)]) p_169_22 (by decide) (by decide) (zM_of zq_128) ⟨Nat.le_of_ble_eq_true rfl, Nat.le_of_ble_eq_true rfl⟩ rfl (m_rc hs_1 ⟨rfl, by decide⟩)))
theorem b_169_25 {x1 : Int} {x2 : Int} {xs0 : Int} {u3 : Value} : Z e (d + 2) 169 25 [.ref 0, .int (iI x1), .int (iI x2), u3] [.int (iI xs0)] m = (if (wr xs0) = 0 then (Z e (d + 1) 104 0 [.ref 4, .int (iI x1), .int (iI 0)] [] m).bind (ZK e (d + 2) 169 40 [.ref 0, .int (iI x1), .int (iI x2), u3] [] m) else ri (-4) m) := Eq.trans ((s_z_ne_f p_169_25 rfl rfl)) <| ite_cg ((s_al_0 p_169_28).trans <| (s_getr p_169_29 hs_0 (by decide) rfl).trans <| (s_getr p_169_32 hs_1 (by decide) rfl).trans <| (s_il_1 p_169_35).trans <| (s_const p_169_36).trans <| (s_cv2 (Lc := [.ref 4, .int (iI x1), .int (iI 0)]) p_169_37 (by decide) (by decide) (zM_of zq_104) ⟨Nat.le_of_ble_eq_true rfl, Nat.le_of_ble_eq_true rfl⟩ rfl (m_rc hs_4 ⟨rfl, by decide⟩))) ((s_bip p_169_44 rfl).trans <| (s_reti p_169_46 (zM_of zq_169)))
theorem b_169_40 {x1 : Int} {x2 : Int} {xs0 : Int} {u3 : Value} : Z e (d + 2) 169 40 [.ref 0, .int (iI x1), .int (iI x2), u3] [.int (iI xs0)] m = (if (wr xs0) = (wr x2) then ri (-4) m else (Z e (d + 1) 104 0 [.ref 4, .int (iI x1), .int (iI 4)] [] m).bind (ZK e (d + 2) 169 59 [.ref 0, .int (iI x1), .int (iI x2), u3] [] m)) := (s_il_2 p_169_40).trans <| Eq.trans ((s_c_ne_f p_169_41 rfl rfl rfl)) <| ite_cg ((s_bip p_169_44 rfl).trans <| (s_reti p_169_46 (zM_of zq_169))) ((s_al_0 p_169_47).trans <| (s_getr p_169_48 hs_0 (by decide) rfl).trans <| (s_getr p_169_51 hs_1 (by decide) rfl).trans <| (s_il_1 p_169_54).trans <| (s_const p_169_55).trans <| (s_cv2 (Lc := [.ref 4, .int (iI x1), .int (iI 4)]) p_169_56 (by decide) (by decide) (zM_of zq_104) ⟨Nat.le_of_ble_eq_true rfl, Nat.le_of_ble_eq_true rfl⟩ rfl (m_rc hs_4 ⟨rfl, by decide⟩)))
theorem b_169_59 {x1 : Int} {x2 : Int} {xs0 : Int} {u3 : Value} : Z e (d + 2) 169 59 [.ref 0, .int (iI x1), .int (iI x2), u3] [.int (iI xs0)] m = (Z e (d + 1) 105 0 [.ref 4, .int (iI x1), .int (iI 4), .int (iI x2)] [] m).bind (ZK e (d + 2) 169 73 [.ref 0, .int (iI x1), .int (iI x2), .int (iI xs0)] [] m) := (s_is_3 cat_i p_169_59).trans <| (s_al_0 p_169_60).trans <| (s_getr p_169_61 hs_0 (by decide) rfl).trans <| (s_getr p_169_64 hs_1 (by decide) rfl).trans <| (s_il_1 p_169_67).trans <| (s_const p_169_68).trans <| (s_il_2 p_169_69).trans <| (s_cv3 (Lc := [.ref 4, .int (iI x1), .int (iI 4), .int (iI x2)]) p_169_70 (by decide) (by decide) (zM_of zq_105) ⟨Nat.le_of_ble_eq_true rfl, Nat.le_of_ble_eq_true rfl⟩ rfl (m_rc hs_4 ⟨rfl, by decide⟩))
theorem b_169_73 {x1 : Int} {x3 : Int} {u2 : Value} : Z e (d + 2) 169 73 [.ref 0, .int (iI x1), u2, .int (iI x3)] [] m = (Z e (d + 1) 105 0 [.ref 4, .int (iI x1), .int (iI 6), .int (iI 0)] [] m).bind (ZK e (d + 2) 169 87 [.ref 0, .int (iI x1), u2, .int (iI x3)] [] m) := (s_al_0 p_169_73).trans <| (s_getr p_169_74 hs_0 (by decide) rfl).trans <| (s_getr p_169_77 hs_1 (by decide) rfl).trans <| (s_il_1 p_169_80).trans <| (s_bip p_169_81 rfl).trans <| (s_const p_169_83).trans <| (s_cv3 (Lc := [.ref 4, .int (iI x1), .int (iI 6), .int (iI 0)]) p_169_84 (by decide) (by decide) (zM_of zq_105) ⟨Nat.le_of_ble_eq_true rfl, Nat.le_of_ble_eq_true rfl⟩ rfl (m_rc hs_4 ⟨rfl, by decide⟩))
theorem b_169_87 {x3 : Int} {u0 u1 u2 : Value} : Z e (d + 2) 169 87 [u0, u1, u2, .int (iI x3)] [] m = ri x3 m := (s_il_3 p_169_87).trans <| (s_reti p_169_88 (zM_of zq_169))
-- P.run
theorem p_170_0 : zP1 170 0 = some (.iload_n 1, 0, 0, 0) := zp_l zq_170 rfl
theorem p_170_1 : zP1 170 1 = some (.invokestatic 86, 194, 1, 0) := zp_r zq_170 rfl
theorem p_170_4 : zP1 170 4 = some (.ifCond .ne 31, 0, 0, 0) := zp_l zq_170 rfl
theorem p_170_7 : zP1 170 7 = some (.iload_n 2, 0, 0, 0) := zp_l zq_170 rfl
theorem p_170_8 : zP1 170 8 = some (.invokestatic 86, 194, 1, 0) := zp_r zq_170 rfl
theorem p_170_11 : zP1 170 11 = some (.ifCond .ne 24, 0, 0, 0) := zp_l zq_170 rfl
theorem p_170_14 : zP1 170 14 = some (.iload_n 3, 0, 0, 0) := zp_l zq_170 rfl
theorem p_170_15 : zP1 170 15 = some (.iconst 1, 0, 0, 0) := zp_l zq_170 rfl
theorem p_170_16 : zP1 170 16 = some (.if_icmp .lt 19, 0, 0, 0) := zp_l zq_170 rfl
theorem p_170_19 : zP1 170 19 = some (.iload_n 3, 0, 0, 0) := zp_l zq_170 rfl
theorem p_170_20 : zP1 170 20 = some (.iconst 4, 0, 0, 0) := zp_l zq_170 rfl
theorem p_170_21 : zP1 170 21 = some (.if_icmp .gt 14, 0, 0, 0) := zp_l zq_170 rfl
theorem p_170_24 : zP1 170 24 = some (.iload 4, 0, 0, 0) := zp_l zq_170 rfl
theorem p_170_26 : zP1 170 26 = some (.ifCond .lt 9, 0, 0, 0) := zp_l zq_170 rfl
theorem p_170_29 : zP1 170 29 = some (.iload 4, 0, 0, 0) := zp_l zq_170 rfl
theorem p_170_31 : zP1 170 31 = some (.iconst 2, 0, 0, 0) := zp_l zq_170 rfl
theorem p_170_32 : zP1 170 32 = some (.if_icmp .le 5, 0, 0, 0) := zp_l zq_170 rfl
theorem p_170_35 : zP1 170 35 = some (.iconst (-1), 0, 0, 0) := zp_l zq_170 rfl
theorem p_170_36 : zP1 170 36 = some (.ireturn, 0, 0, 0) := zp_l zq_170 rfl
theorem p_170_37 : zP1 170 37 = some (.aload_n 0, 0, 0, 0) := zp_l zq_170 rfl
theorem p_170_38 : zP1 170 38 = some (.getfield 63, 10, 7, 0) := zp_r zq_170 rfl
theorem p_170_41 : zP1 170 41 = some (.iload_n 1, 0, 0, 0) := zp_l zq_170 rfl
theorem p_170_42 : zP1 170 42 = some (.iload_n 2, 0, 0, 0) := zp_l zq_170 rfl
theorem p_170_43 : zP1 170 43 = some (.iload_n 3, 0, 0, 0) := zp_l zq_170 rfl
theorem p_170_44 : zP1 170 44 = some (.invokevirtual 294, 43, 3, 2) := zp_r zq_170 rfl
theorem p_170_47 : zP1 170 47 = some (.ifCond .ne 6, 0, 0, 0) := zp_l zq_170 rfl
theorem p_170_50 : zP1 170 50 = some (.bipush (-3), 0, 0, 0) := zp_l zq_170 rfl
theorem p_170_52 : zP1 170 52 = some (.ireturn, 0, 0, 0) := zp_l zq_170 rfl
theorem p_170_53 : zP1 170 53 = some (.iload 4, 0, 0, 0) := zp_l zq_170 rfl
theorem p_170_55 : zP1 170 55 = some (.ifCond .ne 11, 0, 0, 0) := zp_l zq_170 rfl
theorem p_170_58 : zP1 170 58 = some (.aload_n 0, 0, 0, 0) := zp_l zq_170 rfl
theorem p_170_59 : zP1 170 59 = some (.getfield 63, 10, 7, 0) := zp_r zq_170 rfl
theorem p_170_62 : zP1 170 62 = some (.invokevirtual 298, 50, 0, 2) := zp_r zq_170 rfl
theorem p_170_65 : zP1 170 65 = some (.ireturn, 0, 0, 0) := zp_l zq_170 rfl
theorem p_170_66 : zP1 170 66 = some (.iload 4, 0, 0, 0) := zp_l zq_170 rfl
theorem p_170_68 : zP1 170 68 = some (.iconst 1, 0, 0, 0) := zp_l zq_170 rfl
theorem p_170_69 : zP1 170 69 = some (.if_icmp .ne 14, 0, 0, 0) := zp_l zq_170 rfl
theorem p_170_72 : zP1 170 72 = some (.aload_n 0, 0, 0, 0) := zp_l zq_170 rfl
theorem p_170_73 : zP1 170 73 = some (.getfield 63, 10, 7, 0) := zp_r zq_170 rfl
theorem p_170_76 : zP1 170 76 = some (.getfield 301, 2, 6, 0) := zp_r zq_170 rfl
theorem p_170_79 : zP1 170 79 = some (.getfield 304, 7, 3, 0) := zp_r zq_170 rfl
theorem p_170_82 : zP1 170 82 = some (.ireturn, 0, 0, 0) := zp_l zq_170 rfl
theorem p_170_83 : zP1 170 83 = some (.aload_n 0, 0, 0, 0) := zp_l zq_170 rfl
theorem p_170_84 : zP1 170 84 = some (.getfield 63, 10, 7, 0) := zp_r zq_170 rfl
theorem p_170_87 : zP1 170 87 = some (.getfield 301, 2, 6, 0) := zp_r zq_170 rfl
theorem p_170_90 : zP1 170 90 = some (.iconst 0, 0, 0, 0) := zp_l zq_170 rfl
theorem p_170_91 : zP1 170 91 = some (.iconst 0, 0, 0, 0) := zp_l zq_170 rfl
theorem p_170_92 : zP1 170 92 = some (.invokevirtual 126, 104, 2, 7) := zp_r zq_170 rfl
theorem p_170_95 : zP1 170 95 = some (.ireturn, 0, 0, 0) := zp_l zq_170 rfl
theorem b_170_0 {x1 : Int} {x2 : Int} {x3 : Int} {x4 : Int} : Z e (d + 1) 170 0 [.ref 0, .int (iI x1), .int (iI x2), .int (iI x3), .int (iI x4)] [] m = (if (((wr x1) < 0) ∨ (100 ≤ (wr x1))) ∨ ((((wr x2) < 0) ∨ (100 ≤ (wr x2))) ∨ (((wr x3) < 1) ∨ ((4 < (wr x3)) ∨ (((wr x4) < 0) ∨ (2 < (wr x4)))))) then ri (-1) m else (Z e d 43 0 [.ref 226, .int (iI x1), .int (iI x2), .int (iI x3), .retAddr 0] [] m).bind (ZK e (d + 1) 170 47 [.ref 0, .int (iI x1), .int (iI x2), .int (iI x3), .int (iI x4)] [] m)) := (s_il_1 p_170_0).trans <| (s_cs1 (Lc := [.int (iI x1)]) p_170_1 (by decide) (zM_of zq_194) ⟨Nat.le_of_ble_eq_true rfl, Nat.le_of_ble_eq_true rfl⟩ rfl).trans <| (bd b_194_0).trans <| ri_k.trans <| Eq.trans (Eq.trans (s_bne_t p_170_4 rfl) <| Eq.trans (ite_cg rfl ((s_il_2 p_170_7).trans <| (s_cs1 (Lc := [.int (iI x2)]) p_170_8 (by decide) (zM_of zq_194) ⟨Nat.le_of_ble_eq_true rfl, Nat.le_of_ble_eq_true rfl⟩ rfl).trans <| (bd b_194_0).trans <| ri_k.trans <| Eq.trans (s_bne_t p_170_11 rfl) <| Eq.trans (ite_cg rfl ((s_il_3 p_170_14).trans <| (s_const p_170_15).trans <| Eq.trans (s_c_lt_t p_170_16 rfl rfl wl_1) <| Eq.trans (ite_cg rfl ((s_il_3 p_170_19).trans <| (s_const p_170_20).trans <| Eq.trans (s_c_gt_t p_170_21 rfl rfl wl_4) <| Eq.trans (ite_cg rfl ((s_il_4 p_170_24).trans <| Eq.trans (s_z_lt_t p_170_26 rfl rfl) <| Eq.trans (ite_cg rfl ((s_il_4 p_170_29).trans <| (s_const p_170_31).trans <| (s_c_le_f p_170_32 rfl rfl wl_2))) co_or)) co_or)) co_or)) co_or)) co_or) <| ite_cg ((s_const p_170_35).trans <| (s_reti p_170_36 (zM_of zq_170))) ((s_al_0 p_170_37).trans <| (s_getr p_170_38 hs_0 (by decide) rfl).trans <| (s_il_1 p_170_41).trans <| (s_il_2 p_170_42).trans <| (s_il_3 p_170_43).trans <| (s_cv3 (Lc := [.ref 226, .int (iI x1), .int (iI x2), .int (iI x3), .retAddr 0]) p_170_44 (by decide) (by decide) (zM_of zq_43) ⟨Nat.le_of_ble_eq_true rfl, Nat.le_of_ble_eq_true rfl⟩ rfl (m_rc hs_226 ⟨rfl, by decide⟩)))
theorem b_170_47 {x4 : Int} {xs0 : Int} {u1 u2 u3 : Value} : Z e (d + 1) 170 47 [.ref 0, u1, u2, u3, .int (iI x4)] [.int (iI xs0)] m = (if (wr xs0) = 0 then ri (-3) m else (if (wr x4) = 0 then (Z e d 50 0 [.ref 226, .retAddr 0, .retAddr 0] [] m).bind (ZK e (d + 1) 170 65 [.ref 0, u1, u2, u3, .int (iI x4)] [] m) else (if (wr x4) = 1 then ri (m 230 3) m else (Z e d 104 0 [.ref 230, .int (iI 0), .int (iI 0)] [] m).bind (ZK e (d + 1) 170 95 [.ref 0, u1, u2, u3, .int (iI x4)] [] m)))) := Eq.trans ((s_z_ne_f p_170_47 rfl rfl)) <| ite_cg ((s_bip p_170_50 rfl).trans <| (s_reti p_170_52 (zM_of zq_170))) ((s_il_4 p_170_53).trans <| Eq.trans ((s_z_ne_f p_170_55 rfl rfl)) <| ite_cg ((s_al_0 p_170_58).trans <| (s_getr p_170_59 hs_0 (by decide) rfl).trans <| (s_cv0 (Lc := [.ref 226, .retAddr 0, .retAddr 0]) p_170_62 (by decide) (by decide) (zM_of zq_50) ⟨Nat.le_of_ble_eq_true rfl, Nat.le_of_ble_eq_true rfl⟩ rfl (m_rc hs_226 ⟨rfl, by decide⟩))) ((s_il_4 p_170_66).trans <| (s_const p_170_68).trans <| Eq.trans ((s_c_ne_f p_170_69 rfl rfl wl_1)) <| ite_cg ((s_al_0 p_170_72).trans <| (s_getr p_170_73 hs_0 (by decide) rfl).trans <| (s_getr p_170_76 hs_226 (by decide) rfl).trans <| (s_get p_170_79 hs_230 (by decide) rfl).trans <| (s_reti p_170_82 (zM_of zq_170))) ((s_al_0 p_170_83).trans <| (s_getr p_170_84 hs_0 (by decide) rfl).trans <| (s_getr p_170_87 hs_226 (by decide) rfl).trans <| (s_const p_170_90).trans <| (s_const p_170_91).trans <| (s_cv2 (Lc := [.ref 230, .int (iI 0), .int (iI 0)]) p_170_92 (by decide) (by decide) (zM_of zq_104) ⟨Nat.le_of_ble_eq_true rfl, Nat.le_of_ble_eq_true rfl⟩ rfl (m_rc hs_230 ⟨rfl, by decide⟩)))))
theorem b_170_65 {xs0 : Int} {u0 u1 u2 u3 u4 : Value} : Z e (d + 1) 170 65 [u0, u1, u2, u3, u4] [.int (iI xs0)] m = ri xs0 m := (s_reti p_170_65 (zM_of zq_170))
theorem b_170_95 {xs0 : Int} {u0 u1 u2 u3 u4 : Value} : Z e (d + 1) 170 95 [u0, u1, u2, u3, u4] [.int (iI xs0)] m = ri xs0 m := (s_reti p_170_95 (zM_of zq_170))
-- P.row
theorem p_171_0 : zP1 171 0 = some (.aload_n 0, 0, 0, 0) := zp_l zq_171 rfl
theorem p_171_1 : zP1 171 1 = some (.getfield 63, 10, 7, 0) := zp_r zq_171 rfl
theorem p_171_4 : zP1 171 4 = some (.getfield 301, 2, 6, 0) := zp_r zq_171 rfl
theorem p_171_7 : zP1 171 7 = some (.iload_n 1, 0, 0, 0) := zp_l zq_171 rfl
theorem p_171_8 : zP1 171 8 = some (.invokevirtual 229, 102, 1, 7) := zp_r zq_171 rfl
theorem p_171_11 : zP1 171 11 = some (.ifCond .eq 12, 0, 0, 0) := zp_l zq_171 rfl
theorem p_171_14 : zP1 171 14 = some (.iload_n 2, 0, 0, 0) := zp_l zq_171 rfl
theorem p_171_15 : zP1 171 15 = some (.ifCond .lt 8, 0, 0, 0) := zp_l zq_171 rfl
theorem p_171_18 : zP1 171 18 = some (.iload_n 2, 0, 0, 0) := zp_l zq_171 rfl
theorem p_171_19 : zP1 171 19 = some (.iconst 1, 0, 0, 0) := zp_l zq_171 rfl
theorem p_171_20 : zP1 171 20 = some (.if_icmp .le 6, 0, 0, 0) := zp_l zq_171 rfl
theorem p_171_23 : zP1 171 23 = some (.bipush (-9), 0, 0, 0) := zp_l zq_171 rfl
theorem p_171_25 : zP1 171 25 = some (.ireturn, 0, 0, 0) := zp_l zq_171 rfl
theorem p_171_26 : zP1 171 26 = some (.aload_n 0, 0, 0, 0) := zp_l zq_171 rfl
theorem p_171_27 : zP1 171 27 = some (.getfield 63, 10, 7, 0) := zp_r zq_171 rfl
theorem p_171_30 : zP1 171 30 = some (.getfield 301, 2, 6, 0) := zp_r zq_171 rfl
theorem p_171_33 : zP1 171 33 = some (.iload_n 1, 0, 0, 0) := zp_l zq_171 rfl
theorem p_171_34 : zP1 171 34 = some (.iload_n 2, 0, 0, 0) := zp_l zq_171 rfl
theorem p_171_35 : zP1 171 35 = some (.invokevirtual 126, 104, 2, 7) := zp_r zq_171 rfl
theorem p_171_38 : zP1 171 38 = some (.ireturn, 0, 0, 0) := zp_l zq_171 rfl
theorem b_171_0 {x1 : Int} {x2 : Int} : Z e (d + 1) 171 0 [.ref 0, .int (iI x1), .int (iI x2)] [] m = (if (¬ ((0 ≤ (wr x1)) ∧ ((wr x1) < (wr (m 230 3))))) ∨ (((wr x2) < 0) ∨ (1 < (wr x2))) then ri (-9) m else (Z e d 104 0 [.ref 230, .int (iI x1), .int (iI x2)] [] m).bind (ZK e (d + 1) 171 38 [.ref 0, .int (iI x1), .int (iI x2)] [] m)) := (s_al_0 p_171_0).trans <| (s_getr p_171_1 hs_0 (by decide) rfl).trans <| (s_getr p_171_4 hs_226 (by decide) rfl).trans <| (s_il_1 p_171_7).trans <| (s_cv1 (Lc := [.ref 230, .int (iI x1)]) p_171_8 (by decide) (by decide) (zM_of zq_102) ⟨Nat.le_of_ble_eq_true rfl, Nat.le_of_ble_eq_true rfl⟩ rfl (m_rc hs_230 ⟨rfl, by decide⟩)).trans <| (bd (b_102_0 zTab_230)).trans <| ri_k.trans <| Eq.trans (Eq.trans (s_beq_t p_171_11 rfl) <| Eq.trans (ite_cg rfl ((s_il_2 p_171_14).trans <| Eq.trans (s_z_lt_t p_171_15 rfl rfl) <| Eq.trans (ite_cg rfl ((s_il_2 p_171_18).trans <| (s_const p_171_19).trans <| (s_c_le_f p_171_20 rfl rfl wl_1))) co_or)) co_or) <| ite_cg ((s_bip p_171_23 rfl).trans <| (s_reti p_171_25 (zM_of zq_171))) ((s_al_0 p_171_26).trans <| (s_getr p_171_27 hs_0 (by decide) rfl).trans <| (s_getr p_171_30 hs_226 (by decide) rfl).trans <| (s_il_1 p_171_33).trans <| (s_il_2 p_171_34).trans <| (s_cv2 (Lc := [.ref 230, .int (iI x1), .int (iI x2)]) p_171_35 (by decide) (by decide) (zM_of zq_104) ⟨Nat.le_of_ble_eq_true rfl, Nat.le_of_ble_eq_true rfl⟩ rfl (m_rc hs_230 ⟨rfl, by decide⟩)))
theorem b_171_38 {xs0 : Int} {u0 u1 u2 : Value} : Z e (d + 1) 171 38 [u0, u1, u2] [.int (iI xs0)] m = ri xs0 m := (s_reti p_171_38 (zM_of zq_171))
-- P.alterRow
theorem p_172_0 : zP1 172 0 = some (.aload_n 0, 0, 0, 0) := zp_l zq_172 rfl
theorem p_172_1 : zP1 172 1 = some (.getfield 63, 10, 7, 0) := zp_r zq_172 rfl
theorem p_172_4 : zP1 172 4 = some (.getfield 301, 2, 6, 0) := zp_r zq_172 rfl
theorem p_172_7 : zP1 172 7 = some (.iload_n 1, 0, 0, 0) := zp_l zq_172 rfl
theorem p_172_8 : zP1 172 8 = some (.invokevirtual 229, 102, 1, 7) := zp_r zq_172 rfl
theorem p_172_11 : zP1 172 11 = some (.ifCond .eq 12, 0, 0, 0) := zp_l zq_172 rfl
theorem p_172_14 : zP1 172 14 = some (.iload_n 2, 0, 0, 0) := zp_l zq_172 rfl
theorem p_172_15 : zP1 172 15 = some (.ifCond .lt 8, 0, 0, 0) := zp_l zq_172 rfl
theorem p_172_18 : zP1 172 18 = some (.iload_n 2, 0, 0, 0) := zp_l zq_172 rfl
theorem p_172_19 : zP1 172 19 = some (.iconst 1, 0, 0, 0) := zp_l zq_172 rfl
theorem p_172_20 : zP1 172 20 = some (.if_icmp .le 6, 0, 0, 0) := zp_l zq_172 rfl
theorem p_172_23 : zP1 172 23 = some (.bipush (-9), 0, 0, 0) := zp_l zq_172 rfl
theorem p_172_25 : zP1 172 25 = some (.ireturn, 0, 0, 0) := zp_l zq_172 rfl
theorem p_172_26 : zP1 172 26 = some (.aload_n 0, 0, 0, 0) := zp_l zq_172 rfl
theorem p_172_27 : zP1 172 27 = some (.getfield 63, 10, 7, 0) := zp_r zq_172 rfl
theorem p_172_30 : zP1 172 30 = some (.getfield 301, 2, 6, 0) := zp_r zq_172 rfl
theorem p_172_33 : zP1 172 33 = some (.iload_n 1, 0, 0, 0) := zp_l zq_172 rfl
theorem p_172_34 : zP1 172 34 = some (.iload_n 2, 0, 0, 0) := zp_l zq_172 rfl
theorem p_172_35 : zP1 172 35 = some (.invokevirtual 126, 104, 2, 7) := zp_r zq_172 rfl
theorem p_172_38 : zP1 172 38 = some (.istore 4, 0, 0, 0) := zp_l zq_172 rfl
theorem p_172_40 : zP1 172 40 = some (.aload_n 0, 0, 0, 0) := zp_l zq_172 rfl
theorem p_172_41 : zP1 172 41 = some (.getfield 63, 10, 7, 0) := zp_r zq_172 rfl
theorem p_172_44 : zP1 172 44 = some (.getfield 301, 2, 6, 0) := zp_r zq_172 rfl
theorem p_172_47 : zP1 172 47 = some (.iload_n 1, 0, 0, 0) := zp_l zq_172 rfl
theorem p_172_48 : zP1 172 48 = some (.iload_n 2, 0, 0, 0) := zp_l zq_172 rfl
theorem p_172_49 : zP1 172 49 = some (.iload_n 3, 0, 0, 0) := zp_l zq_172 rfl
theorem p_172_50 : zP1 172 50 = some (.invokevirtual 129, 105, 3, 7) := zp_r zq_172 rfl
theorem p_172_53 : zP1 172 53 = some (.iload 4, 0, 0, 0) := zp_l zq_172 rfl
theorem p_172_55 : zP1 172 55 = some (.ireturn, 0, 0, 0) := zp_l zq_172 rfl
theorem b_172_0 {x1 : Int} {x2 : Int} {x3 : Int} : Z e (d + 1) 172 0 [.ref 0, .int (iI x1), .int (iI x2), .int (iI x3), .retAddr 0] [] m = (if (¬ ((0 ≤ (wr x1)) ∧ ((wr x1) < (wr (m 230 3))))) ∨ (((wr x2) < 0) ∨ (1 < (wr x2))) then ri (-9) m else (Z e d 104 0 [.ref 230, .int (iI x1), .int (iI x2)] [] m).bind (ZK e (d + 1) 172 38 [.ref 0, .int (iI x1), .int (iI x2), .int (iI x3), .retAddr 0] [] m)) := (s_al_0 p_172_0).trans <| (s_getr p_172_1 hs_0 (by decide) rfl).trans <| (s_getr p_172_4 hs_226 (by decide) rfl).trans <| (s_il_1 p_172_7).trans <| (s_cv1 (Lc := [.ref 230, .int (iI x1)]) p_172_8 (by decide) (by decide) (zM_of zq_102) ⟨Nat.le_of_ble_eq_true rfl, Nat.le_of_ble_eq_true rfl⟩ rfl (m_rc hs_230 ⟨rfl, by decide⟩)).trans <| (bd (b_102_0 zTab_230)).trans <| ri_k.trans <| Eq.trans (Eq.trans (s_beq_t p_172_11 rfl) <| Eq.trans (ite_cg rfl ((s_il_2 p_172_14).trans <| Eq.trans (s_z_lt_t p_172_15 rfl rfl) <| Eq.trans (ite_cg rfl ((s_il_2 p_172_18).trans <| (s_const p_172_19).trans <| (s_c_le_f p_172_20 rfl rfl wl_1))) co_or)) co_or) <| ite_cg ((s_bip p_172_23 rfl).trans <| (s_reti p_172_25 (zM_of zq_172))) ((s_al_0 p_172_26).trans <| (s_getr p_172_27 hs_0 (by decide) rfl).trans <| (s_getr p_172_30 hs_226 (by decide) rfl).trans <| (s_il_1 p_172_33).trans <| (s_il_2 p_172_34).trans <| (s_cv2 (Lc := [.ref 230, .int (iI x1), .int (iI x2)]) p_172_35 (by decide) (by decide) (zM_of zq_104) ⟨Nat.le_of_ble_eq_true rfl, Nat.le_of_ble_eq_true rfl⟩ rfl (m_rc hs_230 ⟨rfl, by decide⟩)))
theorem b_172_38 {x1 : Int} {x2 : Int} {x3 : Int} {xs0 : Int} {u4 : Value} : Z e (d + 1) 172 38 [.ref 0, .int (iI x1), .int (iI x2), .int (iI x3), u4] [.int (iI xs0)] m = (Z e d 105 0 [.ref 230, .int (iI x1), .int (iI x2), .int (iI x3)] [] m).bind (ZK e (d + 1) 172 53 [.ref 0, .int (iI x1), .int (iI x2), .int (iI x3), .int (iI xs0)] [] m) := (s_is_4 cat_i p_172_38).trans <| (s_al_0 p_172_40).trans <| (s_getr p_172_41 hs_0 (by decide) rfl).trans <| (s_getr p_172_44 hs_226 (by decide) rfl).trans <| (s_il_1 p_172_47).trans <| (s_il_2 p_172_48).trans <| (s_il_3 p_172_49).trans <| (s_cv3 (Lc := [.ref 230, .int (iI x1), .int (iI x2), .int (iI x3)]) p_172_50 (by decide) (by decide) (zM_of zq_105) ⟨Nat.le_of_ble_eq_true rfl, Nat.le_of_ble_eq_true rfl⟩ rfl (m_rc hs_230 ⟨rfl, by decide⟩))
theorem b_172_53 {x4 : Int} {u0 u1 u2 u3 : Value} : Z e (d + 1) 172 53 [u0, u1, u2, u3, .int (iI x4)] [] m = ri x4 m := (s_il_4 p_172_53).trans <| (s_reti p_172_55 (zM_of zq_172))
-- P.dropRow
theorem p_173_0 : zP1 173 0 = some (.aload_n 0, 0, 0, 0) := zp_l zq_173 rfl
theorem p_173_1 : zP1 173 1 = some (.getfield 63, 10, 7, 0) := zp_r zq_173 rfl
theorem p_173_4 : zP1 173 4 = some (.getfield 301, 2, 6, 0) := zp_r zq_173 rfl
theorem p_173_7 : zP1 173 7 = some (.getfield 304, 7, 3, 0) := zp_r zq_173 rfl
theorem p_173_10 : zP1 173 10 = some (.ifCond .ne 6, 0, 0, 0) := zp_l zq_173 rfl
theorem p_173_13 : zP1 173 13 = some (.bipush (-3), 0, 0, 0) := zp_l zq_173 rfl
theorem p_173_15 : zP1 173 15 = some (.ireturn, 0, 0, 0) := zp_l zq_173 rfl
theorem p_173_16 : zP1 173 16 = some (.aload_n 0, 0, 0, 0) := zp_l zq_173 rfl
theorem p_173_17 : zP1 173 17 = some (.getfield 63, 10, 7, 0) := zp_r zq_173 rfl
theorem p_173_20 : zP1 173 20 = some (.getfield 301, 2, 6, 0) := zp_r zq_173 rfl
theorem p_173_23 : zP1 173 23 = some (.dup, 0, 0, 0) := zp_l zq_173 rfl
theorem p_173_24 : zP1 173 24 = some (.getfield 304, 7, 3, 0) := zp_r zq_173 rfl
theorem p_173_27 : zP1 173 27 = some (.iconst 1, 0, 0, 0) := zp_l zq_173 rfl
theorem p_173_28 : zP1 173 28 = some (.isub, 0, 0, 0) := zp_l zq_173 rfl
theorem p_173_29 : zP1 173 29 = some (.putfield 304, 7, 3, 0) := zp_r zq_173 rfl
theorem p_173_32 : zP1 173 32 = some (.aload_n 0, 0, 0, 0) := zp_l zq_173 rfl
theorem p_173_33 : zP1 173 33 = some (.getfield 63, 10, 7, 0) := zp_r zq_173 rfl
theorem p_173_36 : zP1 173 36 = some (.getfield 301, 2, 6, 0) := zp_r zq_173 rfl
theorem p_173_39 : zP1 173 39 = some (.getfield 304, 7, 3, 0) := zp_r zq_173 rfl
theorem p_173_42 : zP1 173 42 = some (.ireturn, 0, 0, 0) := zp_l zq_173 rfl
theorem b_173_0 : Z e d 173 0 [.ref 0] [] m = (if (wr (m 230 3)) = 0 then ri (-3) m else ri ((um m 230 3 ((m 230 3) - 1)) 230 3) (um m 230 3 ((m 230 3) - 1))) := (s_al_0 p_173_0).trans <| (s_getr p_173_1 hs_0 (by decide) rfl).trans <| (s_getr p_173_4 hs_226 (by decide) rfl).trans <| (s_get p_173_7 hs_230 (by decide) rfl).trans <| Eq.trans ((s_z_ne_f p_173_10 rfl rfl)) <| ite_cg ((s_bip p_173_13 rfl).trans <| (s_reti p_173_15 (zM_of zq_173))) ((s_al_0 p_173_16).trans <| (s_getr p_173_17 hs_0 (by decide) rfl).trans <| (s_getr p_173_20 hs_226 (by decide) rfl).trans <| (s_dup cat_r p_173_23).trans <| (s_get p_173_24 hs_230 (by decide) rfl).trans <| (s_const p_173_27).trans <| (s_isub p_173_28).trans <| (s_put p_173_29 hs_230 (by decide) rfl).trans <| (s_al_0 p_173_32).trans <| (s_getr p_173_33 hs_0 (by decide) rfl).trans <| (s_getr p_173_36 hs_226 (by decide) rfl).trans <| (s_get p_173_39 hs_230 (by decide) rfl).trans <| (s_reti p_173_42 (zM_of zq_173)))
-- P.judge
theorem p_174_0 : zP1 174 0 = some (.aload_n 0, 0, 0, 0) := zp_l zq_174 rfl
theorem p_174_1 : zP1 174 1 = some (.getfield 63, 10, 7, 0) := zp_r zq_174 rfl
theorem p_174_4 : zP1 174 4 = some (.getfield 307, 2, 8, 0) := zp_r zq_174 rfl
theorem p_174_7 : zP1 174 7 = some (.ifCond .eq 15, 0, 0, 0) := zp_l zq_174 rfl
theorem p_174_10 : zP1 174 10 = some (.aload_n 0, 0, 0, 0) := zp_l zq_174 rfl
theorem p_174_11 : zP1 174 11 = some (.getfield 63, 10, 7, 0) := zp_r zq_174 rfl
theorem p_174_14 : zP1 174 14 = some (.invokevirtual 310, 51, 0, 2) := zp_r zq_174 rfl
theorem p_174_17 : zP1 174 17 = some (.iconst 1, 0, 0, 0) := zp_l zq_174 rfl
theorem p_174_18 : zP1 174 18 = some (.iadd, 0, 0, 0) := zp_l zq_174 rfl
theorem p_174_19 : zP1 174 19 = some (.goto 5, 0, 0, 0) := zp_l zq_174 rfl
theorem p_174_22 : zP1 174 22 = some (.bipush (-3), 0, 0, 0) := zp_l zq_174 rfl
theorem p_174_24 : zP1 174 24 = some (.ireturn, 0, 0, 0) := zp_l zq_174 rfl
theorem b_174_0 : Z e (d + 1) 174 0 [.ref 0] [] m = (if ¬ (wr (m 226 8)) = 0 then (Z e d 51 0 [.ref 226, .retAddr 0, .retAddr 0] [] m).bind (ZK e (d + 1) 174 17 [.ref 0] [] m) else ri (-3) m) := (s_al_0 p_174_0).trans <| (s_getr p_174_1 hs_0 (by decide) rfl).trans <| (s_get p_174_4 hs_226 (by decide) rfl).trans <| Eq.trans ((s_z_eq_f p_174_7 rfl rfl)) <| ite_cg ((s_al_0 p_174_10).trans <| (s_getr p_174_11 hs_0 (by decide) rfl).trans <| (s_cv0 (Lc := [.ref 226, .retAddr 0, .retAddr 0]) p_174_14 (by decide) (by decide) (zM_of zq_51) ⟨Nat.le_of_ble_eq_true rfl, Nat.le_of_ble_eq_true rfl⟩ rfl (m_rc hs_226 ⟨rfl, by decide⟩))) ((s_bip p_174_22 rfl).trans <| (s_reti p_174_24 (zM_of zq_174)))
theorem b_174_17 {xs0 : Int} {u0 : Value} : Z e (d + 1) 174 17 [u0] [.int (iI xs0)] m = ri (xs0 + 1) m := (s_const p_174_17).trans <| (s_iadd p_174_18).trans <| (s_goto p_174_19 rfl).trans <| (s_reti p_174_24 (zM_of zq_174))
-- P.gap
theorem p_175_0 : zP1 175 0 = some (.aload_n 0, 0, 0, 0) := zp_l zq_175 rfl
theorem p_175_1 : zP1 175 1 = some (.getfield 10, 10, 0, 0) := zp_r zq_175 rfl
theorem p_175_4 : zP1 175 4 = some (.getfield 137, 9, 6, 0) := zp_r zq_175 rfl
theorem p_175_7 : zP1 175 7 = some (.iload_n 1, 0, 0, 0) := zp_l zq_175 rfl
theorem p_175_8 : zP1 175 8 = some (.invokevirtual 229, 102, 1, 7) := zp_r zq_175 rfl
theorem p_175_11 : zP1 175 11 = some (.ifCond .ne 5, 0, 0, 0) := zp_l zq_175 rfl
theorem p_175_14 : zP1 175 14 = some (.iconst (-1), 0, 0, 0) := zp_l zq_175 rfl
theorem p_175_15 : zP1 175 15 = some (.ireturn, 0, 0, 0) := zp_l zq_175 rfl
theorem p_175_16 : zP1 175 16 = some (.aload_n 0, 0, 0, 0) := zp_l zq_175 rfl
theorem p_175_17 : zP1 175 17 = some (.getfield 47, 10, 5, 0) := zp_r zq_175 rfl
theorem p_175_20 : zP1 175 20 = some (.aload_n 0, 0, 0, 0) := zp_l zq_175 rfl
theorem p_175_21 : zP1 175 21 = some (.getfield 10, 10, 0, 0) := zp_r zq_175 rfl
theorem p_175_24 : zP1 175 24 = some (.getfield 137, 9, 6, 0) := zp_r zq_175 rfl
theorem p_175_27 : zP1 175 27 = some (.iload_n 1, 0, 0, 0) := zp_l zq_175 rfl
theorem p_175_28 : zP1 175 28 = some (.iconst 0, 0, 0, 0) := zp_l zq_175 rfl
theorem p_175_29 : zP1 175 29 = some (.invokevirtual 126, 104, 2, 7) := zp_r zq_175 rfl
theorem p_175_32 : zP1 175 32 = some (.invokevirtual 313, 57, 1, 3) := zp_r zq_175 rfl
theorem p_175_35 : zP1 175 35 = some (.ireturn, 0, 0, 0) := zp_l zq_175 rfl
theorem b_175_0 {x1 : Int} : Z e (d + 1) 175 0 [.ref 0, .int (iI x1)] [] m = (if ¬ ((0 ≤ (wr x1)) ∧ ((wr x1) < (wr (m 6 3)))) then ri (-1) m else (Z e d 104 0 [.ref 6, .int (iI x1), .int (iI 0)] [] m).bind (ZK e (d + 1) 175 32 [.ref 0, .int (iI x1)] [.ref 206] m)) := (s_al_0 p_175_0).trans <| (s_getr p_175_1 hs_0 (by decide) rfl).trans <| (s_getr p_175_4 hs_1 (by decide) rfl).trans <| (s_il_1 p_175_7).trans <| (s_cv1 (Lc := [.ref 6, .int (iI x1)]) p_175_8 (by decide) (by decide) (zM_of zq_102) ⟨Nat.le_of_ble_eq_true rfl, Nat.le_of_ble_eq_true rfl⟩ rfl (m_rc hs_6 ⟨rfl, by decide⟩)).trans <| (bd (b_102_0 zTab_6)).trans <| ri_k.trans <| Eq.trans ((s_bne_f p_175_11 rfl)) <| ite_cg ((s_const p_175_14).trans <| (s_reti p_175_15 (zM_of zq_175))) ((s_al_0 p_175_16).trans <| (s_getr p_175_17 hs_0 (by decide) rfl).trans <| (s_al_0 p_175_20).trans <| (s_getr p_175_21 hs_0 (by decide) rfl).trans <| (s_getr p_175_24 hs_1 (by decide) rfl).trans <| (s_il_1 p_175_27).trans <| (s_const p_175_28).trans <| (s_cv2 (Lc := [.ref 6, .int (iI x1), .int (iI 0)]) p_175_29 (by decide) (by decide) (zM_of zq_104) ⟨Nat.le_of_ble_eq_true rfl, Nat.le_of_ble_eq_true rfl⟩ rfl (m_rc hs_6 ⟨rfl, by decide⟩)))
theorem b_175_32 {xs0 : Int} {u0 u1 : Value} : Z e (d + 1) 175 32 [u0, u1] [.int (iI xs0), .ref 206] m = (Z e d 57 0 [.ref 206, .int (iI xs0), .retAddr 0, .retAddr 0, .retAddr 0, .retAddr 0] [] m).bind (ZK e (d + 1) 175 35 [u0, u1] [] m) := (s_cv1 (Lc := [.ref 206, .int (iI xs0), .retAddr 0, .retAddr 0, .retAddr 0, .retAddr 0]) p_175_32 (by decide) (by decide) (zM_of zq_57) ⟨Nat.le_of_ble_eq_true rfl, Nat.le_of_ble_eq_true rfl⟩ rfl (m_rc hs_206 ⟨rfl, by decide⟩))
theorem b_175_35 {xs0 : Int} {u0 u1 : Value} : Z e (d + 1) 175 35 [u0, u1] [.int (iI xs0)] m = ri xs0 m := (s_reti p_175_35 (zM_of zq_175))
-- P.watch
theorem p_176_0 : zP1 176 0 = some (.aload_n 0, 0, 0, 0) := zp_l zq_176 rfl
theorem p_176_1 : zP1 176 1 = some (.getfield 47, 10, 5, 0) := zp_r zq_176 rfl
theorem p_176_4 : zP1 176 4 = some (.invokevirtual 316, 58, 0, 3) := zp_r zq_176 rfl
theorem p_176_7 : zP1 176 7 = some (.ireturn, 0, 0, 0) := zp_l zq_176 rfl
theorem b_176_0 : Z e (d + 1) 176 0 [.ref 0] [] m = (Z e d 58 0 [.ref 206, .retAddr 0, .retAddr 0, .retAddr 0, .retAddr 0] [] m).bind (ZK e (d + 1) 176 7 [.ref 0] [] m) := (s_al_0 p_176_0).trans <| (s_getr p_176_1 hs_0 (by decide) rfl).trans <| (s_cv0 (Lc := [.ref 206, .retAddr 0, .retAddr 0, .retAddr 0, .retAddr 0]) p_176_4 (by decide) (by decide) (zM_of zq_58) ⟨Nat.le_of_ble_eq_true rfl, Nat.le_of_ble_eq_true rfl⟩ rfl (m_rc hs_206 ⟨rfl, by decide⟩))
theorem b_176_7 {xs0 : Int} {u0 : Value} : Z e (d + 1) 176 7 [u0] [.int (iI xs0)] m = ri xs0 m := (s_reti p_176_7 (zM_of zq_176))
-- P.bell
theorem p_177_0 : zP1 177 0 = some (.iload_n 1, 0, 0, 0) := zp_l zq_177 rfl
theorem p_177_1 : zP1 177 1 = some (.invokestatic 86, 194, 1, 0) := zp_r zq_177 rfl
theorem p_177_4 : zP1 177 4 = some (.ifCond .ne 13, 0, 0, 0) := zp_l zq_177 rfl
theorem p_177_7 : zP1 177 7 = some (.iload_n 2, 0, 0, 0) := zp_l zq_177 rfl
theorem p_177_8 : zP1 177 8 = some (.ifCond .lt 9, 0, 0, 0) := zp_l zq_177 rfl
theorem p_177_11 : zP1 177 11 = some (.iload_n 2, 0, 0, 0) := zp_l zq_177 rfl
theorem p_177_12 : zP1 177 12 = some (.bipush 18, 0, 0, 0) := zp_l zq_177 rfl
theorem p_177_14 : zP1 177 14 = some (.if_icmp .le 5, 0, 0, 0) := zp_l zq_177 rfl
theorem p_177_17 : zP1 177 17 = some (.iconst (-1), 0, 0, 0) := zp_l zq_177 rfl
theorem p_177_18 : zP1 177 18 = some (.ireturn, 0, 0, 0) := zp_l zq_177 rfl
theorem p_177_19 : zP1 177 19 = some (.aload_n 0, 0, 0, 0) := zp_l zq_177 rfl
theorem p_177_20 : zP1 177 20 = some (.getfield 10, 10, 0, 0) := zp_r zq_177 rfl
theorem p_177_23 : zP1 177 23 = some (.getfield 319, 9, 1, 0) := zp_r zq_177 rfl
theorem p_177_26 : zP1 177 26 = some (.bipush 8, 0, 0, 0) := zp_l zq_177 rfl
theorem p_177_28 : zP1 177 28 = some (.if_icmp .lt 6, 0, 0, 0) := zp_l zq_177 rfl
theorem p_177_31 : zP1 177 31 = some (.bipush (-2), 0, 0, 0) := zp_l zq_177 rfl
theorem p_177_33 : zP1 177 33 = some (.ireturn, 0, 0, 0) := zp_l zq_177 rfl
theorem p_177_34 : zP1 177 34 = some (.aload_n 0, 0, 0, 0) := zp_l zq_177 rfl
theorem p_177_35 : zP1 177 35 = some (.getfield 10, 10, 0, 0) := zp_r zq_177 rfl
theorem p_177_38 : zP1 177 38 = some (.iload_n 1, 0, 0, 0) := zp_l zq_177 rfl
theorem p_177_39 : zP1 177 39 = some (.iload_n 2, 0, 0, 0) := zp_l zq_177 rfl
theorem p_177_40 : zP1 177 40 = some (.invokevirtual 322, 137, 2, 9) := zp_r zq_177 rfl
theorem p_177_43 : zP1 177 43 = some (.ireturn, 0, 0, 0) := zp_l zq_177 rfl
theorem b_177_0 {x1 : Int} {x2 : Int} : Z e (d + 1) 177 0 [.ref 0, .int (iI x1), .int (iI x2)] [] m = (if (((wr x1) < 0) ∨ (100 ≤ (wr x1))) ∨ (((wr x2) < 0) ∨ (18 < (wr x2))) then ri (-1) m else (if 8 ≤ (wr (m 1 1)) then ri (-2) m else (Z e d 137 0 [.ref 1, .int (iI x1), .int (iI x2), .retAddr 0, .retAddr 0] [] m).bind (ZK e (d + 1) 177 43 [.ref 0, .int (iI x1), .int (iI x2)] [] m))) := (s_il_1 p_177_0).trans <| (s_cs1 (Lc := [.int (iI x1)]) p_177_1 (by decide) (zM_of zq_194) ⟨Nat.le_of_ble_eq_true rfl, Nat.le_of_ble_eq_true rfl⟩ rfl).trans <| (bd b_194_0).trans <| ri_k.trans <| Eq.trans (Eq.trans (s_bne_t p_177_4 rfl) <| Eq.trans (ite_cg rfl ((s_il_2 p_177_7).trans <| Eq.trans (s_z_lt_t p_177_8 rfl rfl) <| Eq.trans (ite_cg rfl ((s_il_2 p_177_11).trans <| (s_bip p_177_12 rfl).trans <| (s_c_le_f p_177_14 rfl rfl wl_18))) co_or)) co_or) <| ite_cg ((s_const p_177_17).trans <| (s_reti p_177_18 (zM_of zq_177))) ((s_al_0 p_177_19).trans <| (s_getr p_177_20 hs_0 (by decide) rfl).trans <| (s_get p_177_23 hs_1 (by decide) rfl).trans <| (s_bip p_177_26 rfl).trans <| Eq.trans ((s_c_lt_f p_177_28 rfl rfl wl_8)) <| ite_cg ((s_bip p_177_31 rfl).trans <| (s_reti p_177_33 (zM_of zq_177))) ((s_al_0 p_177_34).trans <| (s_getr p_177_35 hs_0 (by decide) rfl).trans <| (s_il_1 p_177_38).trans <| (s_il_2 p_177_39).trans <| (s_cv2 (Lc := [.ref 1, .int (iI x1), .int (iI x2), .retAddr 0, .retAddr 0]) p_177_40 (by decide) (by decide) (zM_of zq_137) ⟨Nat.le_of_ble_eq_true rfl, Nat.le_of_ble_eq_true rfl⟩ rfl (m_rc hs_1 ⟨rfl, by decide⟩))))
theorem b_177_43 {xs0 : Int} {u0 u1 u2 : Value} : Z e (d + 1) 177 43 [u0, u1, u2] [.int (iI xs0)] m = ri xs0 m := (s_reti p_177_43 (zM_of zq_177))
-- P.heard
theorem p_178_0 : zP1 178 0 = some (.aload_n 0, 0, 0, 0) := zp_l zq_178 rfl
theorem p_178_1 : zP1 178 1 = some (.iload_n 1, 0, 0, 0) := zp_l zq_178 rfl
theorem p_178_2 : zP1 178 2 = some (.invokevirtual 123, 197, 1, 10) := zp_r zq_178 rfl
theorem p_178_5 : zP1 178 5 = some (.ifCond .ne 18, 0, 0, 0) := zp_l zq_178 rfl
theorem p_178_8 : zP1 178 8 = some (.iload_n 2, 0, 0, 0) := zp_l zq_178 rfl
theorem p_178_9 : zP1 178 9 = some (.ifCond .lt 14, 0, 0, 0) := zp_l zq_178 rfl
theorem p_178_12 : zP1 178 12 = some (.iload_n 2, 0, 0, 0) := zp_l zq_178 rfl
theorem p_178_13 : zP1 178 13 = some (.aload_n 0, 0, 0, 0) := zp_l zq_178 rfl
theorem p_178_14 : zP1 178 14 = some (.getfield 10, 10, 0, 0) := zp_r zq_178 rfl
theorem p_178_17 : zP1 178 17 = some (.getfield 319, 9, 1, 0) := zp_r zq_178 rfl
theorem p_178_20 : zP1 178 20 = some (.if_icmp .lt 5, 0, 0, 0) := zp_l zq_178 rfl
theorem p_178_23 : zP1 178 23 = some (.iconst (-1), 0, 0, 0) := zp_l zq_178 rfl
theorem p_178_24 : zP1 178 24 = some (.ireturn, 0, 0, 0) := zp_l zq_178 rfl
theorem p_178_25 : zP1 178 25 = some (.aload_n 0, 0, 0, 0) := zp_l zq_178 rfl
theorem p_178_26 : zP1 178 26 = some (.getfield 10, 10, 0, 0) := zp_r zq_178 rfl
theorem p_178_29 : zP1 178 29 = some (.getfield 110, 9, 5, 0) := zp_r zq_178 rfl
theorem p_178_32 : zP1 178 32 = some (.iload_n 1, 0, 0, 0) := zp_l zq_178 rfl
theorem p_178_33 : zP1 178 33 = some (.bipush 10, 0, 0, 0) := zp_l zq_178 rfl
theorem p_178_35 : zP1 178 35 = some (.iload_n 2, 0, 0, 0) := zp_l zq_178 rfl
theorem p_178_36 : zP1 178 36 = some (.iadd, 0, 0, 0) := zp_l zq_178 rfl
theorem p_178_37 : zP1 178 37 = some (.invokevirtual 126, 104, 2, 7) := zp_r zq_178 rfl
theorem p_178_40 : zP1 178 40 = some (.ireturn, 0, 0, 0) := zp_l zq_178 rfl
theorem b_178_0 {x1 : Int} {x2 : Int} : Z e (d + 2) 178 0 [.ref 0, .int (iI x1), .int (iI x2)] [] m = (if (¬ ((0 ≤ (wr x1)) ∧ ((wr x1) < (wr (m 4 3))))) ∨ (((wr x2) < 0) ∨ ((wr (m 1 1)) ≤ (wr x2))) then ri (-1) m else (Z e (d + 1) 104 0 [.ref 4, .int (iI x1), .int (iI (10 + x2))] [] m).bind (ZK e (d + 2) 178 40 [.ref 0, .int (iI x1), .int (iI x2)] [] m)) := (s_al_0 p_178_0).trans <| (s_il_1 p_178_1).trans <| (s_cv1 (Lc := [.ref 0, .int (iI x1)]) p_178_2 (by decide) (by decide) (zM_of zq_197) ⟨Nat.le_of_ble_eq_true rfl, Nat.le_of_ble_eq_true rfl⟩ rfl (m_rc hs_0 ⟨rfl, by decide⟩)).trans <| (bd b_197_0).trans <| ri_k.trans <| Eq.trans (Eq.trans (s_bne_t p_178_5 rfl) <| Eq.trans (ite_cg rfl ((s_il_2 p_178_8).trans <| Eq.trans (s_z_lt_t p_178_9 rfl rfl) <| Eq.trans (ite_cg rfl ((s_il_2 p_178_12).trans <| (s_al_0 p_178_13).trans <| (s_getr p_178_14 hs_0 (by decide) rfl).trans <| (s_get p_178_17 hs_1 (by decide) rfl).trans <| (s_c_lt_f p_178_20 rfl rfl rfl))) co_or)) co_or) <| ite_cg ((s_const p_178_23).trans <| (s_reti p_178_24 (zM_of zq_178))) ((s_al_0 p_178_25).trans <| (s_getr p_178_26 hs_0 (by decide) rfl).trans <| (s_getr p_178_29 hs_1 (by decide) rfl).trans <| (s_il_1 p_178_32).trans <| (s_bip p_178_33 rfl).trans <| (s_il_2 p_178_35).trans <| (s_iadd p_178_36).trans <| (s_cv2 (Lc := [.ref 4, .int (iI x1), .int (iI (10 + x2))]) p_178_37 (by decide) (by decide) (zM_of zq_104) ⟨Nat.le_of_ble_eq_true rfl, Nat.le_of_ble_eq_true rfl⟩ rfl (m_rc hs_4 ⟨rfl, by decide⟩)))
theorem b_178_40 {xs0 : Int} {u0 u1 u2 : Value} : Z e (d + 2) 178 40 [u0, u1, u2] [.int (iI xs0)] m = ri xs0 m := (s_reti p_178_40 (zM_of zq_178))
-- P.sight
theorem p_179_0 : zP1 179 0 = some (.iload_n 1, 0, 0, 0) := zp_l zq_179 rfl
theorem p_179_1 : zP1 179 1 = some (.invokestatic 86, 194, 1, 0) := zp_r zq_179 rfl
theorem p_179_4 : zP1 179 4 = some (.ifCond .ne 27, 0, 0, 0) := zp_l zq_179 rfl
theorem p_179_7 : zP1 179 7 = some (.iload_n 2, 0, 0, 0) := zp_l zq_179 rfl
theorem p_179_8 : zP1 179 8 = some (.ifCond .lt 23, 0, 0, 0) := zp_l zq_179 rfl
theorem p_179_11 : zP1 179 11 = some (.iload_n 2, 0, 0, 0) := zp_l zq_179 rfl
theorem p_179_12 : zP1 179 12 = some (.aload_n 0, 0, 0, 0) := zp_l zq_179 rfl
theorem p_179_13 : zP1 179 13 = some (.getfield 10, 10, 0, 0) := zp_r zq_179 rfl
theorem p_179_16 : zP1 179 16 = some (.getfield 78, 9, 0, 0) := zp_r zq_179 rfl
theorem p_179_19 : zP1 179 19 = some (.if_icmp .gt 12, 0, 0, 0) := zp_l zq_179 rfl
theorem p_179_22 : zP1 179 22 = some (.iload_n 3, 0, 0, 0) := zp_l zq_179 rfl
theorem p_179_23 : zP1 179 23 = some (.ifCond .lt 8, 0, 0, 0) := zp_l zq_179 rfl
theorem p_179_26 : zP1 179 26 = some (.iload_n 3, 0, 0, 0) := zp_l zq_179 rfl
theorem p_179_27 : zP1 179 27 = some (.iconst 4, 0, 0, 0) := zp_l zq_179 rfl
theorem p_179_28 : zP1 179 28 = some (.if_icmp .le 5, 0, 0, 0) := zp_l zq_179 rfl
theorem p_179_31 : zP1 179 31 = some (.iconst (-1), 0, 0, 0) := zp_l zq_179 rfl
theorem p_179_32 : zP1 179 32 = some (.ireturn, 0, 0, 0) := zp_l zq_179 rfl
theorem p_179_33 : zP1 179 33 = some (.iload_n 2, 0, 0, 0) := zp_l zq_179 rfl
theorem p_179_34 : zP1 179 34 = some (.invokestatic 325, 122, 1, 0) := zp_r zq_179 rfl
theorem p_179_37 : zP1 179 37 = some (.ifCond .ne 6, 0, 0, 0) := zp_l zq_179 rfl
theorem p_179_40 : zP1 179 40 = some (.bipush (-4), 0, 0, 0) := zp_l zq_179 rfl
theorem p_179_42 : zP1 179 42 = some (.ireturn, 0, 0, 0) := zp_l zq_179 rfl
theorem p_179_43 : zP1 179 43 = some (.aload_n 0, 0, 0, 0) := zp_l zq_179 rfl
theorem p_179_44 : zP1 179 44 = some (.getfield 10, 10, 0, 0) := zp_r zq_179 rfl
theorem p_179_47 : zP1 179 47 = some (.getfield 328, 9, 11, 0) := zp_r zq_179 rfl
theorem p_179_50 : zP1 179 50 = some (.invokevirtual 114, 103, 0, 7) := zp_r zq_179 rfl
theorem p_179_53 : zP1 179 53 = some (.ifCond .eq 6, 0, 0, 0) := zp_l zq_179 rfl
theorem p_179_56 : zP1 179 56 = some (.bipush (-2), 0, 0, 0) := zp_l zq_179 rfl
theorem p_179_58 : zP1 179 58 = some (.ireturn, 0, 0, 0) := zp_l zq_179 rfl
theorem p_179_59 : zP1 179 59 = some (.aload_n 0, 0, 0, 0) := zp_l zq_179 rfl
theorem p_179_60 : zP1 179 60 = some (.getfield 10, 10, 0, 0) := zp_r zq_179 rfl
theorem p_179_63 : zP1 179 63 = some (.getfield 328, 9, 11, 0) := zp_r zq_179 rfl
theorem p_179_66 : zP1 179 66 = some (.invokevirtual 140, 106, 0, 7) := zp_r zq_179 rfl
theorem p_179_69 : zP1 179 69 = some (.istore 4, 0, 0, 0) := zp_l zq_179 rfl
theorem p_179_71 : zP1 179 71 = some (.aload_n 0, 0, 0, 0) := zp_l zq_179 rfl
theorem p_179_72 : zP1 179 72 = some (.getfield 10, 10, 0, 0) := zp_r zq_179 rfl
theorem p_179_75 : zP1 179 75 = some (.getfield 328, 9, 11, 0) := zp_r zq_179 rfl
theorem p_179_78 : zP1 179 78 = some (.iload 4, 0, 0, 0) := zp_l zq_179 rfl
theorem p_179_80 : zP1 179 80 = some (.iconst 0, 0, 0, 0) := zp_l zq_179 rfl
theorem p_179_81 : zP1 179 81 = some (.iload_n 1, 0, 0, 0) := zp_l zq_179 rfl
theorem p_179_82 : zP1 179 82 = some (.invokevirtual 129, 105, 3, 7) := zp_r zq_179 rfl
theorem p_179_85 : zP1 179 85 = some (.aload_n 0, 0, 0, 0) := zp_l zq_179 rfl
theorem p_179_86 : zP1 179 86 = some (.getfield 10, 10, 0, 0) := zp_r zq_179 rfl
theorem p_179_89 : zP1 179 89 = some (.getfield 328, 9, 11, 0) := zp_r zq_179 rfl
theorem p_179_92 : zP1 179 92 = some (.iload 4, 0, 0, 0) := zp_l zq_179 rfl
theorem p_179_94 : zP1 179 94 = some (.iconst 1, 0, 0, 0) := zp_l zq_179 rfl
theorem p_179_95 : zP1 179 95 = some (.iload_n 2, 0, 0, 0) := zp_l zq_179 rfl
theorem p_179_96 : zP1 179 96 = some (.invokevirtual 129, 105, 3, 7) := zp_r zq_179 rfl
theorem p_179_99 : zP1 179 99 = some (.aload_n 0, 0, 0, 0) := zp_l zq_179 rfl
theorem p_179_100 : zP1 179 100 = some (.getfield 10, 10, 0, 0) := zp_r zq_179 rfl
theorem p_179_103 : zP1 179 103 = some (.getfield 328, 9, 11, 0) := zp_r zq_179 rfl
theorem p_179_106 : zP1 179 106 = some (.iload 4, 0, 0, 0) := zp_l zq_179 rfl
theorem p_179_108 : zP1 179 108 = some (.iconst 2, 0, 0, 0) := zp_l zq_179 rfl
theorem p_179_109 : zP1 179 109 = some (.iload_n 3, 0, 0, 0) := zp_l zq_179 rfl
theorem p_179_110 : zP1 179 110 = some (.invokevirtual 129, 105, 3, 7) := zp_r zq_179 rfl
theorem p_179_113 : zP1 179 113 = some (.iload 4, 0, 0, 0) := zp_l zq_179 rfl
theorem p_179_115 : zP1 179 115 = some (.ireturn, 0, 0, 0) := zp_l zq_179 rfl
theorem b_179_0 {x1 : Int} {x2 : Int} {x3 : Int} : Z e (d + 1) 179 0 [.ref 0, .int (iI x1), .int (iI x2), .int (iI x3), .retAddr 0] [] m = (if (((wr x1) < 0) ∨ (100 ≤ (wr x1))) ∨ (((wr x2) < 0) ∨ (((wr (m 1 0)) < (wr x2)) ∨ (((wr x3) < 0) ∨ (4 < (wr x3))))) then ri (-1) m else (if ¬ ((20 ≤ (wr (jrem x2 24))) ∨ ((wr (jrem x2 24)) < 6)) then ri (-4) m else (if (wr ((16 : Nat) : Int)) ≤ (wr (m 16 3)) then ri (-2) m else (Z e d 106 0 [.ref 16, .retAddr 0] [] m).bind (ZK e (d + 1) 179 69 [.ref 0, .int (iI x1), .int (iI x2), .int (iI x3), .retAddr 0] [] m)))) := (s_il_1 p_179_0).trans <| (s_cs1 (Lc := [.int (iI x1)]) p_179_1 (by decide) (zM_of zq_194) ⟨Nat.le_of_ble_eq_true rfl, Nat.le_of_ble_eq_true rfl⟩ rfl).trans <| (bd b_194_0).trans <| ri_k.trans <| Eq.trans (Eq.trans (s_bne_t p_179_4 rfl) <| Eq.trans (ite_cg rfl ((s_il_2 p_179_7).trans <| Eq.trans (s_z_lt_t p_179_8 rfl rfl) <| Eq.trans (ite_cg rfl ((s_il_2 p_179_11).trans <| (s_al_0 p_179_12).trans <| (s_getr p_179_13 hs_0 (by decide) rfl).trans <| (s_get p_179_16 hs_1 (by decide) rfl).trans <| Eq.trans (s_c_gt_t p_179_19 rfl rfl rfl) <| Eq.trans (ite_cg rfl ((s_il_3 p_179_22).trans <| Eq.trans (s_z_lt_t p_179_23 rfl rfl) <| Eq.trans (ite_cg rfl ((s_il_3 p_179_26).trans <| (s_const p_179_27).trans <| (s_c_le_f p_179_28 rfl rfl wl_4))) co_or)) co_or)) co_or)) co_or) <| ite_cg ((s_const p_179_31).trans <| (s_reti p_179_32 (zM_of zq_179))) ((s_il_2 p_179_33).trans <| (s_cs1 (Lc := [.int (iI x2), .retAddr 0]) p_179_34 (by decide) (zM_of zq_122) ⟨Nat.le_of_ble_eq_true rfl, Nat.le_of_ble_eq_true rfl⟩ rfl).trans <| (bd b_122_0).trans <| ri_k.trans <| Eq.trans ((s_bne_f p_179_37 rfl)) <| ite_cg ((s_bip p_179_40 rfl).trans <| (s_reti p_179_42 (zM_of zq_179))) ((s_al_0 p_179_43).trans <| (s_getr p_179_44 hs_0 (by decide) rfl).trans <| (s_getr p_179_47 hs_1 (by decide) rfl).trans <| (s_cv0 (Lc := [.ref 16]) p_179_50 (by decide) (by decide) (zM_of zq_103) ⟨Nat.le_of_ble_eq_true rfl, Nat.le_of_ble_eq_true rfl⟩ rfl (m_rc hs_16 ⟨rfl, by decide⟩)).trans <| (bd (b_103_0 zTab_16)).trans <| ri_k.trans <| Eq.trans ((s_beq_f p_179_53 rfl)) <| ite_cg ((s_bip p_179_56 rfl).trans <| (s_reti p_179_58 (zM_of zq_179))) ((s_al_0 p_179_59).trans <| (s_getr p_179_60 hs_0 (by decide) rfl).trans <| (s_getr p_179_63 hs_1 (by decide) rfl).trans <| (s_cv0 (Lc := [.ref 16, .retAddr 0]) p_179_66 (by decide) (by decide) (zM_of zq_106) ⟨Nat.le_of_ble_eq_true rfl, Nat.le_of_ble_eq_true rfl⟩ rfl (m_rc hs_16 ⟨rfl, by decide⟩)))))
theorem b_179_69 {x1 : Int} {x2 : Int} {x3 : Int} {xs0 : Int} {u4 : Value} : Z e (d + 1) 179 69 [.ref 0, .int (iI x1), .int (iI x2), .int (iI x3), u4] [.int (iI xs0)] m = (Z e d 105 0 [.ref 16, .int (iI xs0), .int (iI 0), .int (iI x1)] [] m).bind (ZK e (d + 1) 179 85 [.ref 0, .int (iI x1), .int (iI x2), .int (iI x3), .int (iI xs0)] [] m) := (s_is_4 cat_i p_179_69).trans <| (s_al_0 p_179_71).trans <| (s_getr p_179_72 hs_0 (by decide) rfl).trans <| (s_getr p_179_75 hs_1 (by decide) rfl).trans <| (s_il_4 p_179_78).trans <| (s_const p_179_80).trans <| (s_il_1 p_179_81).trans <| (s_cv3 (Lc := [.ref 16, .int (iI xs0), .int (iI 0), .int (iI x1)]) p_179_82 (by decide) (by decide) (zM_of zq_105) ⟨Nat.le_of_ble_eq_true rfl, Nat.le_of_ble_eq_true rfl⟩ rfl (m_rc hs_16 ⟨rfl, by decide⟩))
theorem b_179_85 {x2 : Int} {x3 : Int} {x4 : Int} {u1 : Value} : Z e (d + 1) 179 85 [.ref 0, u1, .int (iI x2), .int (iI x3), .int (iI x4)] [] m = (Z e d 105 0 [.ref 16, .int (iI x4), .int (iI 1), .int (iI x2)] [] m).bind (ZK e (d + 1) 179 99 [.ref 0, u1, .int (iI x2), .int (iI x3), .int (iI x4)] [] m) := (s_al_0 p_179_85).trans <| (s_getr p_179_86 hs_0 (by decide) rfl).trans <| (s_getr p_179_89 hs_1 (by decide) rfl).trans <| (s_il_4 p_179_92).trans <| (s_const p_179_94).trans <| (s_il_2 p_179_95).trans <| (s_cv3 (Lc := [.ref 16, .int (iI x4), .int (iI 1), .int (iI x2)]) p_179_96 (by decide) (by decide) (zM_of zq_105) ⟨Nat.le_of_ble_eq_true rfl, Nat.le_of_ble_eq_true rfl⟩ rfl (m_rc hs_16 ⟨rfl, by decide⟩))
theorem b_179_99 {x3 : Int} {x4 : Int} {u1 u2 : Value} : Z e (d + 1) 179 99 [.ref 0, u1, u2, .int (iI x3), .int (iI x4)] [] m = (Z e d 105 0 [.ref 16, .int (iI x4), .int (iI 2), .int (iI x3)] [] m).bind (ZK e (d + 1) 179 113 [.ref 0, u1, u2, .int (iI x3), .int (iI x4)] [] m) := (s_al_0 p_179_99).trans <| (s_getr p_179_100 hs_0 (by decide) rfl).trans <| (s_getr p_179_103 hs_1 (by decide) rfl).trans <| (s_il_4 p_179_106).trans <| (s_const p_179_108).trans <| (s_il_3 p_179_109).trans <| (s_cv3 (Lc := [.ref 16, .int (iI x4), .int (iI 2), .int (iI x3)]) p_179_110 (by decide) (by decide) (zM_of zq_105) ⟨Nat.le_of_ble_eq_true rfl, Nat.le_of_ble_eq_true rfl⟩ rfl (m_rc hs_16 ⟨rfl, by decide⟩))
theorem b_179_113 {x4 : Int} {u0 u1 u2 u3 : Value} : Z e (d + 1) 179 113 [u0, u1, u2, u3, .int (iI x4)] [] m = ri x4 m := (s_il_4 p_179_113).trans <| (s_reti p_179_115 (zM_of zq_179))
-- P.who
theorem p_180_0 : zP1 180 0 = some (.aload_n 0, 0, 0, 0) := zp_l zq_180 rfl
theorem p_180_1 : zP1 180 1 = some (.getfield 10, 10, 0, 0) := zp_r zq_180 rfl
theorem p_180_4 : zP1 180 4 = some (.getfield 328, 9, 11, 0) := zp_r zq_180 rfl
theorem p_180_7 : zP1 180 7 = some (.iload_n 1, 0, 0, 0) := zp_l zq_180 rfl
theorem p_180_8 : zP1 180 8 = some (.invokevirtual 229, 102, 1, 7) := zp_r zq_180 rfl
theorem p_180_11 : zP1 180 11 = some (.ifCond .ne 5, 0, 0, 0) := zp_l zq_180 rfl
theorem p_180_14 : zP1 180 14 = some (.iconst (-1), 0, 0, 0) := zp_l zq_180 rfl
theorem p_180_15 : zP1 180 15 = some (.ireturn, 0, 0, 0) := zp_l zq_180 rfl
theorem p_180_16 : zP1 180 16 = some (.aload_n 0, 0, 0, 0) := zp_l zq_180 rfl
theorem p_180_17 : zP1 180 17 = some (.getfield 31, 10, 3, 0) := zp_r zq_180 rfl
theorem p_180_20 : zP1 180 20 = some (.iload_n 1, 0, 0, 0) := zp_l zq_180 rfl
theorem p_180_21 : zP1 180 21 = some (.invokevirtual 331, 91, 1, 5) := zp_r zq_180 rfl
theorem p_180_24 : zP1 180 24 = some (.ireturn, 0, 0, 0) := zp_l zq_180 rfl
theorem b_180_0 {x1 : Int} : Z e (d + 1) 180 0 [.ref 0, .int (iI x1)] [] m = (if ¬ ((0 ≤ (wr x1)) ∧ ((wr x1) < (wr (m 16 3)))) then ri (-1) m else (Z e d 91 0 [.ref 191, .int (iI x1), .retAddr 0, .retAddr 0, .retAddr 0, .retAddr 0, .retAddr 0, .retAddr 0, .retAddr 0] [] m).bind (ZK e (d + 1) 180 24 [.ref 0, .int (iI x1)] [] m)) := (s_al_0 p_180_0).trans <| (s_getr p_180_1 hs_0 (by decide) rfl).trans <| (s_getr p_180_4 hs_1 (by decide) rfl).trans <| (s_il_1 p_180_7).trans <| (s_cv1 (Lc := [.ref 16, .int (iI x1)]) p_180_8 (by decide) (by decide) (zM_of zq_102) ⟨Nat.le_of_ble_eq_true rfl, Nat.le_of_ble_eq_true rfl⟩ rfl (m_rc hs_16 ⟨rfl, by decide⟩)).trans <| (bd (b_102_0 zTab_16)).trans <| ri_k.trans <| Eq.trans ((s_bne_f p_180_11 rfl)) <| ite_cg ((s_const p_180_14).trans <| (s_reti p_180_15 (zM_of zq_180))) ((s_al_0 p_180_16).trans <| (s_getr p_180_17 hs_0 (by decide) rfl).trans <| (s_il_1 p_180_20).trans <| (s_cv1 (Lc := [.ref 191, .int (iI x1), .retAddr 0, .retAddr 0, .retAddr 0, .retAddr 0, .retAddr 0, .retAddr 0, .retAddr 0]) p_180_21 (by decide) (by decide) (zM_of zq_91) ⟨Nat.le_of_ble_eq_true rfl, Nat.le_of_ble_eq_true rfl⟩ rfl (m_rc hs_191 ⟨rfl, by decide⟩)))
theorem b_180_24 {xs0 : Int} {u0 u1 : Value} : Z e (d + 1) 180 24 [u0, u1] [.int (iI xs0)] m = ri xs0 m := (s_reti p_180_24 (zM_of zq_180))
-- P.narrow
theorem p_181_0 : zP1 181 0 = some (.iload_n 1, 0, 0, 0) := zp_l zq_181 rfl
theorem p_181_1 : zP1 181 1 = some (.ifCond .lt 29, 0, 0, 0) := zp_l zq_181 rfl
theorem p_181_4 : zP1 181 4 = some (.iload_n 1, 0, 0, 0) := zp_l zq_181 rfl
theorem p_181_5 : zP1 181 5 = some (.aload_n 0, 0, 0, 0) := zp_l zq_181 rfl
theorem p_181_6 : zP1 181 6 = some (.getfield 10, 10, 0, 0) := zp_r zq_181 rfl
theorem p_181_9 : zP1 181 9 = some (.getfield 172, 9, 2, 0) := zp_r zq_181 rfl
theorem p_181_12 : zP1 181 12 = some (.if_icmp .ge 18, 0, 0, 0) := zp_l zq_181 rfl
theorem p_181_15 : zP1 181 15 = some (.iload_n 2, 0, 0, 0) := zp_l zq_181 rfl
theorem p_181_16 : zP1 181 16 = some (.ifCond .lt 14, 0, 0, 0) := zp_l zq_181 rfl
theorem p_181_19 : zP1 181 19 = some (.iload_n 2, 0, 0, 0) := zp_l zq_181 rfl
theorem p_181_20 : zP1 181 20 = some (.aload_n 0, 0, 0, 0) := zp_l zq_181 rfl
theorem p_181_21 : zP1 181 21 = some (.getfield 10, 10, 0, 0) := zp_r zq_181 rfl
theorem p_181_24 : zP1 181 24 = some (.getfield 172, 9, 2, 0) := zp_r zq_181 rfl
theorem p_181_27 : zP1 181 27 = some (.if_icmp .lt 5, 0, 0, 0) := zp_l zq_181 rfl
theorem p_181_30 : zP1 181 30 = some (.iconst (-1), 0, 0, 0) := zp_l zq_181 rfl
theorem p_181_31 : zP1 181 31 = some (.ireturn, 0, 0, 0) := zp_l zq_181 rfl
theorem p_181_32 : zP1 181 32 = some (.aload_n 0, 0, 0, 0) := zp_l zq_181 rfl
theorem p_181_33 : zP1 181 33 = some (.getfield 40, 10, 4, 0) := zp_r zq_181 rfl
theorem p_181_36 : zP1 181 36 = some (.iload_n 1, 0, 0, 0) := zp_l zq_181 rfl
theorem p_181_37 : zP1 181 37 = some (.iload_n 2, 0, 0, 0) := zp_l zq_181 rfl
theorem p_181_38 : zP1 181 38 = some (.invokevirtual 334, 38, 2, 1) := zp_r zq_181 rfl
theorem p_181_41 : zP1 181 41 = some (.ireturn, 0, 0, 0) := zp_l zq_181 rfl
theorem b_181_0 {x1 : Int} {x2 : Int} : Z e (d + 1) 181 0 [.ref 0, .int (iI x1), .int (iI x2)] [] m = (if ((wr x1) < 0) ∨ (((wr (m 1 2)) ≤ (wr x1)) ∨ (((wr x2) < 0) ∨ ((wr (m 1 2)) ≤ (wr x2)))) then ri (-1) m else (Z e d 38 0 [.ref 202, .int (iI x1), .int (iI x2), .retAddr 0] [] m).bind (ZK e (d + 1) 181 41 [.ref 0, .int (iI x1), .int (iI x2)] [] m)) := (s_il_1 p_181_0).trans <| Eq.trans (Eq.trans (s_z_lt_t p_181_1 rfl rfl) <| Eq.trans (ite_cg rfl ((s_il_1 p_181_4).trans <| (s_al_0 p_181_5).trans <| (s_getr p_181_6 hs_0 (by decide) rfl).trans <| (s_get p_181_9 hs_1 (by decide) rfl).trans <| Eq.trans (s_c_ge_t p_181_12 rfl rfl rfl) <| Eq.trans (ite_cg rfl ((s_il_2 p_181_15).trans <| Eq.trans (s_z_lt_t p_181_16 rfl rfl) <| Eq.trans (ite_cg rfl ((s_il_2 p_181_19).trans <| (s_al_0 p_181_20).trans <| (s_getr p_181_21 hs_0 (by decide) rfl).trans <| (s_get p_181_24 hs_1 (by decide) rfl).trans <| (s_c_lt_f p_181_27 rfl rfl rfl))) co_or)) co_or)) co_or) <| ite_cg ((s_const p_181_30).trans <| (s_reti p_181_31 (zM_of zq_181))) ((s_al_0 p_181_32).trans <| (s_getr p_181_33 hs_0 (by decide) rfl).trans <| (s_il_1 p_181_36).trans <| (s_il_2 p_181_37).trans <| (s_cv2 (Lc := [.ref 202, .int (iI x1), .int (iI x2), .retAddr 0]) p_181_38 (by decide) (by decide) (zM_of zq_38) ⟨Nat.le_of_ble_eq_true rfl, Nat.le_of_ble_eq_true rfl⟩ rfl (m_rc hs_202 ⟨rfl, by decide⟩)))
theorem b_181_41 {xs0 : Int} {u0 u1 u2 : Value} : Z e (d + 1) 181 41 [u0, u1, u2] [.int (iI xs0)] m = ri xs0 m := (s_reti p_181_41 (zM_of zq_181))
-- P.both
theorem p_182_0 : zP1 182 0 = some (.iload_n 1, 0, 0, 0) := zp_l zq_182 rfl
theorem p_182_1 : zP1 182 1 = some (.ifCond .lt 19, 0, 0, 0) := zp_l zq_182 rfl
theorem p_182_4 : zP1 182 4 = some (.iload_n 1, 0, 0, 0) := zp_l zq_182 rfl
theorem p_182_5 : zP1 182 5 = some (.bipush 16, 0, 0, 0) := zp_l zq_182 rfl
theorem p_182_7 : zP1 182 7 = some (.if_icmp .gt 13, 0, 0, 0) := zp_l zq_182 rfl
theorem p_182_10 : zP1 182 10 = some (.iload_n 2, 0, 0, 0) := zp_l zq_182 rfl
theorem p_182_11 : zP1 182 11 = some (.ifCond .lt 9, 0, 0, 0) := zp_l zq_182 rfl
theorem p_182_14 : zP1 182 14 = some (.iload_n 2, 0, 0, 0) := zp_l zq_182 rfl
theorem p_182_15 : zP1 182 15 = some (.bipush 16, 0, 0, 0) := zp_l zq_182 rfl
theorem p_182_17 : zP1 182 17 = some (.if_icmp .le 5, 0, 0, 0) := zp_l zq_182 rfl
theorem p_182_20 : zP1 182 20 = some (.iconst (-1), 0, 0, 0) := zp_l zq_182 rfl
theorem p_182_21 : zP1 182 21 = some (.ireturn, 0, 0, 0) := zp_l zq_182 rfl
theorem p_182_22 : zP1 182 22 = some (.aload_n 0, 0, 0, 0) := zp_l zq_182 rfl
theorem p_182_23 : zP1 182 23 = some (.getfield 40, 10, 4, 0) := zp_r zq_182 rfl
theorem p_182_26 : zP1 182 26 = some (.iload_n 1, 0, 0, 0) := zp_l zq_182 rfl
theorem p_182_27 : zP1 182 27 = some (.iload_n 2, 0, 0, 0) := zp_l zq_182 rfl
theorem p_182_28 : zP1 182 28 = some (.invokevirtual 337, 40, 2, 1) := zp_r zq_182 rfl
theorem p_182_31 : zP1 182 31 = some (.ireturn, 0, 0, 0) := zp_l zq_182 rfl
theorem b_182_0 {x1 : Int} {x2 : Int} : Z e (d + 1) 182 0 [.ref 0, .int (iI x1), .int (iI x2)] [] m = (if ((wr x1) < 0) ∨ ((16 < (wr x1)) ∨ (((wr x2) < 0) ∨ (16 < (wr x2)))) then ri (-1) m else (Z e d 40 0 [.ref 202, .int (iI x1), .int (iI x2), .retAddr 0, .retAddr 0, .retAddr 0, .retAddr 0] [] m).bind (ZK e (d + 1) 182 31 [.ref 0, .int (iI x1), .int (iI x2)] [] m)) := (s_il_1 p_182_0).trans <| Eq.trans (Eq.trans (s_z_lt_t p_182_1 rfl rfl) <| Eq.trans (ite_cg rfl ((s_il_1 p_182_4).trans <| (s_bip p_182_5 rfl).trans <| Eq.trans (s_c_gt_t p_182_7 rfl rfl wl_16) <| Eq.trans (ite_cg rfl ((s_il_2 p_182_10).trans <| Eq.trans (s_z_lt_t p_182_11 rfl rfl) <| Eq.trans (ite_cg rfl ((s_il_2 p_182_14).trans <| (s_bip p_182_15 rfl).trans <| (s_c_le_f p_182_17 rfl rfl wl_16))) co_or)) co_or)) co_or) <| ite_cg ((s_const p_182_20).trans <| (s_reti p_182_21 (zM_of zq_182))) ((s_al_0 p_182_22).trans <| (s_getr p_182_23 hs_0 (by decide) rfl).trans <| (s_il_1 p_182_26).trans <| (s_il_2 p_182_27).trans <| (s_cv2 (Lc := [.ref 202, .int (iI x1), .int (iI x2), .retAddr 0, .retAddr 0, .retAddr 0, .retAddr 0]) p_182_28 (by decide) (by decide) (zM_of zq_40) ⟨Nat.le_of_ble_eq_true rfl, Nat.le_of_ble_eq_true rfl⟩ rfl (m_rc hs_202 ⟨rfl, by decide⟩)))
theorem b_182_31 {xs0 : Int} {u0 u1 u2 : Value} : Z e (d + 1) 182 31 [u0, u1, u2] [.int (iI xs0)] m = ri xs0 m := (s_reti p_182_31 (zM_of zq_182))
-- P.sheet
theorem p_183_0 : zP1 183 0 = some (.iload_n 1, 0, 0, 0) := zp_l zq_183 rfl
theorem p_183_1 : zP1 183 1 = some (.invokestatic 340, 2, 1, 0) := zp_r zq_183 rfl
theorem p_183_4 : zP1 183 4 = some (.ifCond .ne 13, 0, 0, 0) := zp_l zq_183 rfl
theorem p_183_7 : zP1 183 7 = some (.iload_n 2, 0, 0, 0) := zp_l zq_183 rfl
theorem p_183_8 : zP1 183 8 = some (.iconst (-1), 0, 0, 0) := zp_l zq_183 rfl
theorem p_183_9 : zP1 183 9 = some (.if_icmp .lt 8, 0, 0, 0) := zp_l zq_183 rfl
theorem p_183_12 : zP1 183 12 = some (.iload_n 2, 0, 0, 0) := zp_l zq_183 rfl
theorem p_183_13 : zP1 183 13 = some (.iconst 4, 0, 0, 0) := zp_l zq_183 rfl
theorem p_183_14 : zP1 183 14 = some (.if_icmp .le 5, 0, 0, 0) := zp_l zq_183 rfl
theorem p_183_17 : zP1 183 17 = some (.iconst (-1), 0, 0, 0) := zp_l zq_183 rfl
theorem p_183_18 : zP1 183 18 = some (.ireturn, 0, 0, 0) := zp_l zq_183 rfl
theorem p_183_19 : zP1 183 19 = some (.iload_n 2, 0, 0, 0) := zp_l zq_183 rfl
theorem p_183_20 : zP1 183 20 = some (.iconst (-1), 0, 0, 0) := zp_l zq_183 rfl
theorem p_183_21 : zP1 183 21 = some (.if_icmp .eq 11, 0, 0, 0) := zp_l zq_183 rfl
theorem p_183_24 : zP1 183 24 = some (.iload_n 3, 0, 0, 0) := zp_l zq_183 rfl
theorem p_183_25 : zP1 183 25 = some (.bipush 40, 0, 0, 0) := zp_l zq_183 rfl
theorem p_183_27 : zP1 183 27 = some (.if_icmp .le 5, 0, 0, 0) := zp_l zq_183 rfl
theorem p_183_30 : zP1 183 30 = some (.iconst (-1), 0, 0, 0) := zp_l zq_183 rfl
theorem p_183_31 : zP1 183 31 = some (.ireturn, 0, 0, 0) := zp_l zq_183 rfl
theorem p_183_32 : zP1 183 32 = some (.iload_n 2, 0, 0, 0) := zp_l zq_183 rfl
theorem p_183_33 : zP1 183 33 = some (.iconst (-1), 0, 0, 0) := zp_l zq_183 rfl
theorem p_183_34 : zP1 183 34 = some (.if_icmp .eq 10, 0, 0, 0) := zp_l zq_183 rfl
theorem p_183_37 : zP1 183 37 = some (.iload_n 3, 0, 0, 0) := zp_l zq_183 rfl
theorem p_183_38 : zP1 183 38 = some (.ifCond .ge 6, 0, 0, 0) := zp_l zq_183 rfl
theorem p_183_41 : zP1 183 41 = some (.bipush (-14), 0, 0, 0) := zp_l zq_183 rfl
theorem p_183_43 : zP1 183 43 = some (.ireturn, 0, 0, 0) := zp_l zq_183 rfl
theorem p_183_44 : zP1 183 44 = some (.aload_n 0, 0, 0, 0) := zp_l zq_183 rfl
theorem p_183_45 : zP1 183 45 = some (.getfield 70, 10, 8, 0) := zp_r zq_183 rfl
theorem p_183_48 : zP1 183 48 = some (.iload_n 1, 0, 0, 0) := zp_l zq_183 rfl
theorem p_183_49 : zP1 183 49 = some (.iload_n 2, 0, 0, 0) := zp_l zq_183 rfl
theorem p_183_50 : zP1 183 50 = some (.iload_n 3, 0, 0, 0) := zp_l zq_183 rfl
theorem p_183_51 : zP1 183 51 = some (.invokevirtual 343, 3, 3, 0) := zp_r zq_183 rfl
theorem p_183_54 : zP1 183 54 = some (.iconst 1, 0, 0, 0) := zp_l zq_183 rfl
theorem p_183_55 : zP1 183 55 = some (.ireturn, 0, 0, 0) := zp_l zq_183 rfl
theorem b_183_0 {x1 : Int} {x2 : Int} {x3 : Int} : Z e (d + 1) 183 0 [.ref 0, .int (iI x1), .int (iI x2), .int (iI x3)] [] m = (if (((wr x1) < 0) ∨ (4 ≤ (wr x1))) ∨ (((wr x2) < (-1)) ∨ (4 < (wr x2))) then ri (-1) m else (if (¬ (wr x2) = (-1)) ∧ (40 < (wr x3)) then ri (-1) m else (if (¬ (wr x2) = (-1)) ∧ ((wr x3) < 0) then ri (-14) m else (Z e d 3 0 [.ref 234, .int (iI x1), .int (iI x2), .int (iI x3)] [] m).bind (ZK e (d + 1) 183 54 [.ref 0, .int (iI x1), .int (iI x2), .int (iI x3)] [] m)))) := (s_il_1 p_183_0).trans <| (s_cs1 (Lc := [.int (iI x1)]) p_183_1 (by decide) (zM_of zq_2) ⟨Nat.le_of_ble_eq_true rfl, Nat.le_of_ble_eq_true rfl⟩ rfl).trans <| (bd b_2_0).trans <| ri_k.trans <| Eq.trans (Eq.trans (s_bne_t p_183_4 rfl) <| Eq.trans (ite_cg rfl ((s_il_2 p_183_7).trans <| (s_const p_183_8).trans <| Eq.trans (s_c_lt_t p_183_9 rfl rfl wl_m1) <| Eq.trans (ite_cg rfl ((s_il_2 p_183_12).trans <| (s_const p_183_13).trans <| (s_c_le_f p_183_14 rfl rfl wl_4))) co_or)) co_or) <| ite_cg ((s_const p_183_17).trans <| (s_reti p_183_18 (zM_of zq_183))) ((s_il_2 p_183_19).trans <| (s_const p_183_20).trans <| Eq.trans (Eq.trans (s_c_eq_f p_183_21 rfl rfl wl_m1) <| Eq.trans (ite_cg ((s_il_3 p_183_24).trans <| (s_bip p_183_25 rfl).trans <| (s_c_le_f p_183_27 rfl rfl wl_40)) rfl) co_and) <| ite_cg ((s_const p_183_30).trans <| (s_reti p_183_31 (zM_of zq_183))) ((s_il_2 p_183_32).trans <| (s_const p_183_33).trans <| Eq.trans (Eq.trans (s_c_eq_f p_183_34 rfl rfl wl_m1) <| Eq.trans (ite_cg ((s_il_3 p_183_37).trans <| (s_z_ge_f p_183_38 rfl rfl)) rfl) co_and) <| ite_cg ((s_bip p_183_41 rfl).trans <| (s_reti p_183_43 (zM_of zq_183))) ((s_al_0 p_183_44).trans <| (s_getr p_183_45 hs_0 (by decide) rfl).trans <| (s_il_1 p_183_48).trans <| (s_il_2 p_183_49).trans <| (s_il_3 p_183_50).trans <| (s_cv3 (Lc := [.ref 234, .int (iI x1), .int (iI x2), .int (iI x3)]) p_183_51 (by decide) (by decide) (zM_of zq_3) ⟨Nat.le_of_ble_eq_true rfl, Nat.le_of_ble_eq_true rfl⟩ rfl (m_rc hs_234 ⟨rfl, by decide⟩)))))
theorem b_183_54 {u0 u1 u2 u3 : Value} : Z e (d + 1) 183 54 [u0, u1, u2, u3] [] m = ri 1 m := (s_const p_183_54).trans <| (s_reti p_183_55 (zM_of zq_183))
-- P.put
theorem p_184_0 : zP1 184 0 = some (.iload_n 1, 0, 0, 0) := zp_l zq_184 rfl
theorem p_184_1 : zP1 184 1 = some (.invokestatic 340, 2, 1, 0) := zp_r zq_184 rfl
theorem p_184_4 : zP1 184 4 = some (.ifCond .eq 5, 0, 0, 0) := zp_l zq_184 rfl
theorem p_184_7 : zP1 184 7 = some (.iconst (-1), 0, 0, 0) := zp_l zq_184 rfl
theorem p_184_8 : zP1 184 8 = some (.ireturn, 0, 0, 0) := zp_l zq_184 rfl
theorem p_184_9 : zP1 184 9 = some (.aload_n 0, 0, 0, 0) := zp_l zq_184 rfl
theorem p_184_10 : zP1 184 10 = some (.getfield 70, 10, 8, 0) := zp_r zq_184 rfl
theorem p_184_13 : zP1 184 13 = some (.iload_n 1, 0, 0, 0) := zp_l zq_184 rfl
theorem p_184_14 : zP1 184 14 = some (.aload_n 0, 0, 0, 0) := zp_l zq_184 rfl
theorem p_184_15 : zP1 184 15 = some (.getfield 70, 10, 8, 0) := zp_r zq_184 rfl
theorem p_184_18 : zP1 184 18 = some (.getfield 346, 0, 1, 0) := zp_r zq_184 rfl
theorem p_184_21 : zP1 184 21 = some (.iload_n 1, 0, 0, 0) := zp_l zq_184 rfl
theorem p_184_22 : zP1 184 22 = some (.iaload, 0, 0, 0) := zp_l zq_184 rfl
theorem p_184_23 : zP1 184 23 = some (.iload_n 2, 0, 0, 0) := zp_l zq_184 rfl
theorem p_184_24 : zP1 184 24 = some (.iconst 1, 0, 0, 0) := zp_l zq_184 rfl
theorem p_184_25 : zP1 184 25 = some (.invokevirtual 349, 4, 4, 0) := zp_r zq_184 rfl
theorem p_184_28 : zP1 184 28 = some (.istore 4, 0, 0, 0) := zp_l zq_184 rfl
theorem p_184_30 : zP1 184 30 = some (.iload 4, 0, 0, 0) := zp_l zq_184 rfl
theorem p_184_32 : zP1 184 32 = some (.ifCond .eq 6, 0, 0, 0) := zp_l zq_184 rfl
theorem p_184_35 : zP1 184 35 = some (.iload 4, 0, 0, 0) := zp_l zq_184 rfl
theorem p_184_37 : zP1 184 37 = some (.ireturn, 0, 0, 0) := zp_l zq_184 rfl
theorem p_184_38 : zP1 184 38 = some (.aload_n 0, 0, 0, 0) := zp_l zq_184 rfl
theorem p_184_39 : zP1 184 39 = some (.getfield 70, 10, 8, 0) := zp_r zq_184 rfl
theorem p_184_42 : zP1 184 42 = some (.getfield 352, 0, 3, 0) := zp_r zq_184 rfl
theorem p_184_45 : zP1 184 45 = some (.iload_n 1, 0, 0, 0) := zp_l zq_184 rfl
theorem p_184_46 : zP1 184 46 = some (.aaload, 0, 0, 0) := zp_l zq_184 rfl
theorem p_184_47 : zP1 184 47 = some (.iload_n 2, 0, 0, 0) := zp_l zq_184 rfl
theorem p_184_48 : zP1 184 48 = some (.aload_n 0, 0, 0, 0) := zp_l zq_184 rfl
theorem p_184_49 : zP1 184 49 = some (.getfield 70, 10, 8, 0) := zp_r zq_184 rfl
theorem p_184_52 : zP1 184 52 = some (.getfield 346, 0, 1, 0) := zp_r zq_184 rfl
theorem p_184_55 : zP1 184 55 = some (.iload_n 1, 0, 0, 0) := zp_l zq_184 rfl
theorem p_184_56 : zP1 184 56 = some (.iaload, 0, 0, 0) := zp_l zq_184 rfl
theorem p_184_57 : zP1 184 57 = some (.iload_n 3, 0, 0, 0) := zp_l zq_184 rfl
theorem p_184_58 : zP1 184 58 = some (.invokestatic 356, 5, 2, 0) := zp_r zq_184 rfl
theorem p_184_61 : zP1 184 61 = some (.iastore, 0, 0, 0) := zp_l zq_184 rfl
theorem p_184_62 : zP1 184 62 = some (.iconst 1, 0, 0, 0) := zp_l zq_184 rfl
theorem p_184_63 : zP1 184 63 = some (.ireturn, 0, 0, 0) := zp_l zq_184 rfl
theorem b_184_0 {x1 : Int} {x2 : Int} {x3 : Int} : Z e (d + 1) 184 0 [.ref 0, .int (iI x1), .int (iI x2), .int (iI x3), .retAddr 0] [] m = (if ((wr x1) < 0) ∨ (4 ≤ (wr x1)) then ri (-1) m else ck (0 ≤ (wr x1) ∧ (wr x1) < 4) ((Z e d 4 0 [.ref 234, .int (iI x1), .int (iI (m 235 (wr x1))), .int (iI x2), .int (iI 1)] [] m).bind (ZK e (d + 1) 184 28 [.ref 0, .int (iI x1), .int (iI x2), .int (iI x3), .retAddr 0] [] m))) := (s_il_1 p_184_0).trans <| (s_cs1 (Lc := [.int (iI x1)]) p_184_1 (by decide) (zM_of zq_2) ⟨Nat.le_of_ble_eq_true rfl, Nat.le_of_ble_eq_true rfl⟩ rfl).trans <| (bd b_2_0).trans <| ri_k.trans <| Eq.trans ((s_beq_f p_184_4 rfl)) <| ite_cg ((s_const p_184_7).trans <| (s_reti p_184_8 (zM_of zq_184))) ((s_al_0 p_184_9).trans <| (s_getr p_184_10 hs_0 (by decide) rfl).trans <| (s_il_1 p_184_13).trans <| (s_al_0 p_184_14).trans <| (s_getr p_184_15 hs_0 (by decide) rfl).trans <| (s_getr p_184_18 hs_234 (by decide) rfl).trans <| (s_il_1 p_184_21).trans <| (s_ald 4 p_184_22 hs_235 rfl (by decide)).trans <| ck_cg fun k1 => (s_il_2 p_184_23).trans <| (s_const p_184_24).trans <| (s_cv4 (Lc := [.ref 234, .int (iI x1), .int (iI (m 235 (wr x1))), .int (iI x2), .int (iI 1)]) p_184_25 (by decide) (by decide) (zM_of zq_4) ⟨Nat.le_of_ble_eq_true rfl, Nat.le_of_ble_eq_true rfl⟩ rfl (m_rc hs_234 ⟨rfl, by decide⟩)))
theorem b_184_28 {x1 : Int} {x2 : Int} {x3 : Int} {xs0 : Int} {u4 : Value} : Z e (d + 1) 184 28 [.ref 0, .int (iI x1), .int (iI x2), .int (iI x3), u4] [.int (iI xs0)] m = (if ¬ (wr xs0) = 0 then ri xs0 m else ck (0 ≤ (wr x1) ∧ (wr x1) < 4) (ck (0 ≤ (wr x1) ∧ (wr x1) < 4) ((Z e d 5 0 [.int (iI (m 235 (wr x1))), .int (iI x3)] [] m).bind (ZK e (d + 1) 184 61 [.ref 0, .int (iI x1), .int (iI x2), .int (iI x3), .int (iI xs0)] [.int (iI x2), .ref (238 + (wr x1).toNat)] m)))) := (s_is_4 cat_i p_184_28).trans <| (s_il_4 p_184_30).trans <| Eq.trans ((s_z_eq_f p_184_32 rfl rfl)) <| ite_cg ((s_il_4 p_184_35).trans <| (s_reti p_184_37 (zM_of zq_184))) ((s_al_0 p_184_38).trans <| (s_getr p_184_39 hs_0 (by decide) rfl).trans <| (s_getr p_184_42 hs_234 (by decide) rfl).trans <| (s_il_1 p_184_45).trans <| (s_aald 4 p_184_46 hs_237 rfl ⟨by decide, by decide⟩ ar_237).trans <| ck_cg fun k1 => (s_il_2 p_184_47).trans <| (s_al_0 p_184_48).trans <| (s_getr p_184_49 hs_0 (by decide) rfl).trans <| (s_getr p_184_52 hs_234 (by decide) rfl).trans <| (s_il_1 p_184_55).trans <| (s_ald 4 p_184_56 hs_235 rfl (by decide)).trans <| ck_cg fun k2 => (s_il_3 p_184_57).trans <| (s_cs2 (Lc := [.int (iI (m 235 (wr x1))), .int (iI x3)]) p_184_58 (by decide) (zM_of zq_5) ⟨Nat.le_of_ble_eq_true rfl, Nat.le_of_ble_eq_true rfl⟩ rfl))
theorem b_184_61 {xs0 : Int} {xs1 : Int} {as2 : Nat} {u0 u1 u2 u3 u4 : Value} (hAs2 : zArr as2 40) : Z e (d + 1) 184 61 [u0, u1, u2, u3, u4] [.int (iI xs0), .int (iI xs1), .ref as2] m = ck (0 ≤ (wr xs1) ∧ (wr xs1) < 40) (ri 1 (um m as2 (wr xs1) xs0)) := (s_ast 40 p_184_61 (hAs2).1 rfl).trans <| ck_cg fun k1 => (s_const p_184_62).trans <| (s_reti p_184_63 (zM_of zq_184))
-- P.item
theorem p_185_0 : zP1 185 0 = some (.iload_n 1, 0, 0, 0) := zp_l zq_185 rfl
theorem p_185_1 : zP1 185 1 = some (.invokestatic 340, 2, 1, 0) := zp_r zq_185 rfl
theorem p_185_4 : zP1 185 4 = some (.ifCond .ne 12, 0, 0, 0) := zp_l zq_185 rfl
theorem p_185_7 : zP1 185 7 = some (.iload_n 2, 0, 0, 0) := zp_l zq_185 rfl
theorem p_185_8 : zP1 185 8 = some (.ifCond .lt 8, 0, 0, 0) := zp_l zq_185 rfl
theorem p_185_11 : zP1 185 11 = some (.iload_n 2, 0, 0, 0) := zp_l zq_185 rfl
theorem p_185_12 : zP1 185 12 = some (.iconst 4, 0, 0, 0) := zp_l zq_185 rfl
theorem p_185_13 : zP1 185 13 = some (.if_icmp .le 5, 0, 0, 0) := zp_l zq_185 rfl
theorem p_185_16 : zP1 185 16 = some (.iconst (-1), 0, 0, 0) := zp_l zq_185 rfl
theorem p_185_17 : zP1 185 17 = some (.ireturn, 0, 0, 0) := zp_l zq_185 rfl
theorem p_185_18 : zP1 185 18 = some (.aload_n 0, 0, 0, 0) := zp_l zq_185 rfl
theorem p_185_19 : zP1 185 19 = some (.getfield 70, 10, 8, 0) := zp_r zq_185 rfl
theorem p_185_22 : zP1 185 22 = some (.iload_n 1, 0, 0, 0) := zp_l zq_185 rfl
theorem p_185_23 : zP1 185 23 = some (.iload_n 2, 0, 0, 0) := zp_l zq_185 rfl
theorem p_185_24 : zP1 185 24 = some (.iload_n 3, 0, 0, 0) := zp_l zq_185 rfl
theorem p_185_25 : zP1 185 25 = some (.iconst 1, 0, 0, 0) := zp_l zq_185 rfl
theorem p_185_26 : zP1 185 26 = some (.invokevirtual 349, 4, 4, 0) := zp_r zq_185 rfl
theorem p_185_29 : zP1 185 29 = some (.istore 4, 0, 0, 0) := zp_l zq_185 rfl
theorem p_185_31 : zP1 185 31 = some (.iload 4, 0, 0, 0) := zp_l zq_185 rfl
theorem p_185_33 : zP1 185 33 = some (.ifCond .eq 8, 0, 0, 0) := zp_l zq_185 rfl
theorem p_185_36 : zP1 185 36 = some (.iload 4, 0, 0, 0) := zp_l zq_185 rfl
theorem p_185_38 : zP1 185 38 = some (.goto 14, 0, 0, 0) := zp_l zq_185 rfl
theorem p_185_41 : zP1 185 41 = some (.aload_n 0, 0, 0, 0) := zp_l zq_185 rfl
theorem p_185_42 : zP1 185 42 = some (.getfield 70, 10, 8, 0) := zp_r zq_185 rfl
theorem p_185_45 : zP1 185 45 = some (.getfield 352, 0, 3, 0) := zp_r zq_185 rfl
theorem p_185_48 : zP1 185 48 = some (.iload_n 1, 0, 0, 0) := zp_l zq_185 rfl
theorem p_185_49 : zP1 185 49 = some (.aaload, 0, 0, 0) := zp_l zq_185 rfl
theorem p_185_50 : zP1 185 50 = some (.iload_n 3, 0, 0, 0) := zp_l zq_185 rfl
theorem p_185_51 : zP1 185 51 = some (.iaload, 0, 0, 0) := zp_l zq_185 rfl
theorem p_185_52 : zP1 185 52 = some (.ireturn, 0, 0, 0) := zp_l zq_185 rfl
theorem b_185_0 {x1 : Int} {x2 : Int} {x3 : Int} : Z e (d + 1) 185 0 [.ref 0, .int (iI x1), .int (iI x2), .int (iI x3), .retAddr 0] [] m = (if (((wr x1) < 0) ∨ (4 ≤ (wr x1))) ∨ (((wr x2) < 0) ∨ (4 < (wr x2))) then ri (-1) m else (Z e d 4 0 [.ref 234, .int (iI x1), .int (iI x2), .int (iI x3), .int (iI 1)] [] m).bind (ZK e (d + 1) 185 29 [.ref 0, .int (iI x1), .int (iI x2), .int (iI x3), .retAddr 0] [] m)) := (s_il_1 p_185_0).trans <| (s_cs1 (Lc := [.int (iI x1)]) p_185_1 (by decide) (zM_of zq_2) ⟨Nat.le_of_ble_eq_true rfl, Nat.le_of_ble_eq_true rfl⟩ rfl).trans <| (bd b_2_0).trans <| ri_k.trans <| Eq.trans (Eq.trans (s_bne_t p_185_4 rfl) <| Eq.trans (ite_cg rfl ((s_il_2 p_185_7).trans <| Eq.trans (s_z_lt_t p_185_8 rfl rfl) <| Eq.trans (ite_cg rfl ((s_il_2 p_185_11).trans <| (s_const p_185_12).trans <| (s_c_le_f p_185_13 rfl rfl wl_4))) co_or)) co_or) <| ite_cg ((s_const p_185_16).trans <| (s_reti p_185_17 (zM_of zq_185))) ((s_al_0 p_185_18).trans <| (s_getr p_185_19 hs_0 (by decide) rfl).trans <| (s_il_1 p_185_22).trans <| (s_il_2 p_185_23).trans <| (s_il_3 p_185_24).trans <| (s_const p_185_25).trans <| (s_cv4 (Lc := [.ref 234, .int (iI x1), .int (iI x2), .int (iI x3), .int (iI 1)]) p_185_26 (by decide) (by decide) (zM_of zq_4) ⟨Nat.le_of_ble_eq_true rfl, Nat.le_of_ble_eq_true rfl⟩ rfl (m_rc hs_234 ⟨rfl, by decide⟩)))
theorem b_185_29 {x1 : Int} {x3 : Int} {xs0 : Int} {u2 u4 : Value} : Z e (d + 1) 185 29 [.ref 0, .int (iI x1), u2, .int (iI x3), u4] [.int (iI xs0)] m = ck ((¬ (¬ (wr xs0) = 0)) → ((0 ≤ (wr x1) ∧ (wr x1) < 4) ∧ (0 ≤ (wr x3) ∧ (wr x3) < 40))) (ri (if ¬ (wr xs0) = 0 then xs0 else (m (238 + (wr x1).toNat) (wr x3))) m) := (s_is_4 cat_i p_185_29).trans <| (s_il_4 p_185_31).trans <| Eq.trans (Eq.trans ((s_z_eq_f p_185_33 rfl rfl)) <| Eq.trans (ite_cg ((s_il_4 p_185_36).trans <| (s_goto p_185_38 rfl).trans <| rfl) ((s_al_0 p_185_41).trans <| (s_getr p_185_42 hs_0 (by decide) rfl).trans <| (s_getr p_185_45 hs_234 (by decide) rfl).trans <| (s_il_1 p_185_48).trans <| (s_aald 4 p_185_49 hs_237 rfl ⟨by decide, by decide⟩ ar_237).trans <| Eq.trans (ck_cg fun k1 => (s_il_3 p_185_50).trans <| (s_ald 40 p_185_51 ((zArr_237 k1)).1 rfl ((zArr_237 k1)).2).trans <| ck_cg fun k2 => rfl) ck_ck)) <| Eq.trans ck_b <| ck_cg fun _ => (phi1 (fun z0 => Z e (d + 1) 185 52 [.ref 0, .int (iI x1), u2, .int (iI x3), .int (iI xs0)] [.int (iI z0)] m))) <| ck_cg fun _ => (s_reti p_185_52 (zM_of zq_185))
-- P.comes
theorem p_186_0 : zP1 186 0 = some (.iload_n 1, 0, 0, 0) := zp_l zq_186 rfl
theorem p_186_1 : zP1 186 1 = some (.invokestatic 340, 2, 1, 0) := zp_r zq_186 rfl
theorem p_186_4 : zP1 186 4 = some (.ifCond .eq 5, 0, 0, 0) := zp_l zq_186 rfl
theorem p_186_7 : zP1 186 7 = some (.iconst (-1), 0, 0, 0) := zp_l zq_186 rfl
theorem p_186_8 : zP1 186 8 = some (.ireturn, 0, 0, 0) := zp_l zq_186 rfl
theorem p_186_9 : zP1 186 9 = some (.aload_n 0, 0, 0, 0) := zp_l zq_186 rfl
theorem p_186_10 : zP1 186 10 = some (.getfield 70, 10, 8, 0) := zp_r zq_186 rfl
theorem p_186_13 : zP1 186 13 = some (.iload_n 1, 0, 0, 0) := zp_l zq_186 rfl
theorem p_186_14 : zP1 186 14 = some (.iconst 0, 0, 0, 0) := zp_l zq_186 rfl
theorem p_186_15 : zP1 186 15 = some (.iload_n 2, 0, 0, 0) := zp_l zq_186 rfl
theorem p_186_16 : zP1 186 16 = some (.iconst 4, 0, 0, 0) := zp_l zq_186 rfl
theorem p_186_17 : zP1 186 17 = some (.invokevirtual 349, 4, 4, 0) := zp_r zq_186 rfl
theorem p_186_20 : zP1 186 20 = some (.istore_n 3, 0, 0, 0) := zp_l zq_186 rfl
theorem p_186_21 : zP1 186 21 = some (.iload_n 3, 0, 0, 0) := zp_l zq_186 rfl
theorem p_186_22 : zP1 186 22 = some (.ifCond .eq 5, 0, 0, 0) := zp_l zq_186 rfl
theorem p_186_25 : zP1 186 25 = some (.iload_n 3, 0, 0, 0) := zp_l zq_186 rfl
theorem p_186_26 : zP1 186 26 = some (.ireturn, 0, 0, 0) := zp_l zq_186 rfl
theorem p_186_27 : zP1 186 27 = some (.aload_n 0, 0, 0, 0) := zp_l zq_186 rfl
theorem p_186_28 : zP1 186 28 = some (.getfield 70, 10, 8, 0) := zp_r zq_186 rfl
theorem p_186_31 : zP1 186 31 = some (.getfield 352, 0, 3, 0) := zp_r zq_186 rfl
theorem p_186_34 : zP1 186 34 = some (.iload_n 1, 0, 0, 0) := zp_l zq_186 rfl
theorem p_186_35 : zP1 186 35 = some (.aaload, 0, 0, 0) := zp_l zq_186 rfl
theorem p_186_36 : zP1 186 36 = some (.astore 4, 0, 0, 0) := zp_l zq_186 rfl
theorem p_186_38 : zP1 186 38 = some (.aload_n 0, 0, 0, 0) := zp_l zq_186 rfl
theorem p_186_39 : zP1 186 39 = some (.aload 4, 0, 0, 0) := zp_l zq_186 rfl
theorem p_186_41 : zP1 186 41 = some (.iload_n 2, 0, 0, 0) := zp_l zq_186 rfl
theorem p_186_42 : zP1 186 42 = some (.iaload, 0, 0, 0) := zp_l zq_186 rfl
theorem p_186_43 : zP1 186 43 = some (.aload 4, 0, 0, 0) := zp_l zq_186 rfl
theorem p_186_45 : zP1 186 45 = some (.iload_n 2, 0, 0, 0) := zp_l zq_186 rfl
theorem p_186_46 : zP1 186 46 = some (.iconst 1, 0, 0, 0) := zp_l zq_186 rfl
theorem p_186_47 : zP1 186 47 = some (.iadd, 0, 0, 0) := zp_l zq_186 rfl
theorem p_186_48 : zP1 186 48 = some (.iaload, 0, 0, 0) := zp_l zq_186 rfl
theorem p_186_49 : zP1 186 49 = some (.aload 4, 0, 0, 0) := zp_l zq_186 rfl
theorem p_186_51 : zP1 186 51 = some (.iload_n 2, 0, 0, 0) := zp_l zq_186 rfl
theorem p_186_52 : zP1 186 52 = some (.iconst 2, 0, 0, 0) := zp_l zq_186 rfl
theorem p_186_53 : zP1 186 53 = some (.iadd, 0, 0, 0) := zp_l zq_186 rfl
theorem p_186_54 : zP1 186 54 = some (.iaload, 0, 0, 0) := zp_l zq_186 rfl
theorem p_186_55 : zP1 186 55 = some (.aload 4, 0, 0, 0) := zp_l zq_186 rfl
theorem p_186_57 : zP1 186 57 = some (.iload_n 2, 0, 0, 0) := zp_l zq_186 rfl
theorem p_186_58 : zP1 186 58 = some (.iconst 3, 0, 0, 0) := zp_l zq_186 rfl
theorem p_186_59 : zP1 186 59 = some (.iadd, 0, 0, 0) := zp_l zq_186 rfl
theorem p_186_60 : zP1 186 60 = some (.iaload, 0, 0, 0) := zp_l zq_186 rfl
theorem p_186_61 : zP1 186 61 = some (.invokevirtual 359, 167, 4, 10) := zp_r zq_186 rfl
theorem p_186_64 : zP1 186 64 = some (.ireturn, 0, 0, 0) := zp_l zq_186 rfl
theorem b_186_0 {x1 : Int} {x2 : Int} : Z e (d + 1) 186 0 [.ref 0, .int (iI x1), .int (iI x2), .retAddr 0, .retAddr 0] [] m = (if ((wr x1) < 0) ∨ (4 ≤ (wr x1)) then ri (-1) m else (Z e d 4 0 [.ref 234, .int (iI x1), .int (iI 0), .int (iI x2), .int (iI 4)] [] m).bind (ZK e (d + 1) 186 20 [.ref 0, .int (iI x1), .int (iI x2), .retAddr 0, .retAddr 0] [] m)) := (s_il_1 p_186_0).trans <| (s_cs1 (Lc := [.int (iI x1)]) p_186_1 (by decide) (zM_of zq_2) ⟨Nat.le_of_ble_eq_true rfl, Nat.le_of_ble_eq_true rfl⟩ rfl).trans <| (bd b_2_0).trans <| ri_k.trans <| Eq.trans ((s_beq_f p_186_4 rfl)) <| ite_cg ((s_const p_186_7).trans <| (s_reti p_186_8 (zM_of zq_186))) ((s_al_0 p_186_9).trans <| (s_getr p_186_10 hs_0 (by decide) rfl).trans <| (s_il_1 p_186_13).trans <| (s_const p_186_14).trans <| (s_il_2 p_186_15).trans <| (s_const p_186_16).trans <| (s_cv4 (Lc := [.ref 234, .int (iI x1), .int (iI 0), .int (iI x2), .int (iI 4)]) p_186_17 (by decide) (by decide) (zM_of zq_4) ⟨Nat.le_of_ble_eq_true rfl, Nat.le_of_ble_eq_true rfl⟩ rfl (m_rc hs_234 ⟨rfl, by decide⟩)))
theorem b_186_20 {x1 : Int} {x2 : Int} {xs0 : Int} {u3 u4 : Value} : Z e (d + 1) 186 20 [.ref 0, .int (iI x1), .int (iI x2), u3, u4] [.int (iI xs0)] m = (if ¬ (wr xs0) = 0 then ri xs0 m else ck (0 ≤ (wr x1) ∧ (wr x1) < 4) (ck (0 ≤ (wr x2) ∧ (wr x2) < 40) (ck (0 ≤ (wr (x2 + 1)) ∧ (wr (x2 + 1)) < 40) (ck (0 ≤ (wr (x2 + 2)) ∧ (wr (x2 + 2)) < 40) (ck (0 ≤ (wr (x2 + 3)) ∧ (wr (x2 + 3)) < 40) ((Z e d 167 0 [.ref 0, .int (iI (m (238 + (wr x1).toNat) (wr x2))), .int (iI (m (238 + (wr x1).toNat) (wr (x2 + 1)))), .int (iI (m (238 + (wr x1).toNat) (wr (x2 + 2)))), .int (iI (m (238 + (wr x1).toNat) (wr (x2 + 3))))] [] m).bind (ZK e (d + 1) 186 64 [.ref 0, .int (iI x1), .int (iI x2), .int (iI xs0), .ref (238 + (wr x1).toNat)] [] m))))))) := (s_is_3 cat_i p_186_20).trans <| (s_il_3 p_186_21).trans <| Eq.trans ((s_z_eq_f p_186_22 rfl rfl)) <| ite_cg ((s_il_3 p_186_25).trans <| (s_reti p_186_26 (zM_of zq_186))) ((s_al_0 p_186_27).trans <| (s_getr p_186_28 hs_0 (by decide) rfl).trans <| (s_getr p_186_31 hs_234 (by decide) rfl).trans <| (s_il_1 p_186_34).trans <| (s_aald 4 p_186_35 hs_237 rfl ⟨by decide, by decide⟩ ar_237).trans <| ck_cg fun k1 => (s_as_4 cat_i p_186_36).trans <| (s_al_0 p_186_38).trans <| (s_al_4 p_186_39).trans <| (s_il_2 p_186_41).trans <| (s_ald 40 p_186_42 ((zArr_237 k1)).1 rfl ((zArr_237 k1)).2).trans <| ck_cg fun k2 => (s_al_4 p_186_43).trans <| (s_il_2 p_186_45).trans <| (s_const p_186_46).trans <| (s_iadd p_186_47).trans <| (s_ald 40 p_186_48 ((zArr_237 k1)).1 rfl ((zArr_237 k1)).2).trans <| ck_cg fun k3 => (s_al_4 p_186_49).trans <| (s_il_2 p_186_51).trans <| (s_const p_186_52).trans <| (s_iadd p_186_53).trans <| (s_ald 40 p_186_54 ((zArr_237 k1)).1 rfl ((zArr_237 k1)).2).trans <| ck_cg fun k4 => (s_al_4 p_186_55).trans <| (s_il_2 p_186_57).trans <| (s_const p_186_58).trans <| (s_iadd p_186_59).trans <| (s_ald 40 p_186_60 ((zArr_237 k1)).1 rfl ((zArr_237 k1)).2).trans <| ck_cg fun k5 => (s_cv4 (Lc := [.ref 0, .int (iI (m (238 + (wr x1).toNat) (wr x2))), .int (iI (m (238 + (wr x1).toNat) (wr (x2 + 1)))), .int (iI (m (238 + (wr x1).toNat) (wr (x2 + 2)))), .int (iI (m (238 + (wr x1).toNat) (wr (x2 + 3))))]) p_186_61 (by decide) (by decide) (zM_of zq_167) ⟨Nat.le_of_ble_eq_true rfl, Nat.le_of_ble_eq_true rfl⟩ rfl (m_rc hs_0 ⟨rfl, by decide⟩)))
theorem b_186_64 {xs0 : Int} {u0 u1 u2 u3 u4 : Value} : Z e (d + 1) 186 64 [u0, u1, u2, u3, u4] [.int (iI xs0)] m = ri xs0 m := (s_reti p_186_64 (zM_of zq_186))
-- P.shelf
theorem p_187_0 : zP1 187 0 = some (.iload_n 1, 0, 0, 0) := zp_l zq_187 rfl
theorem p_187_1 : zP1 187 1 = some (.invokestatic 340, 2, 1, 0) := zp_r zq_187 rfl
theorem p_187_4 : zP1 187 4 = some (.ifCond .ne 12, 0, 0, 0) := zp_l zq_187 rfl
theorem p_187_7 : zP1 187 7 = some (.iload_n 2, 0, 0, 0) := zp_l zq_187 rfl
theorem p_187_8 : zP1 187 8 = some (.ifCond .lt 8, 0, 0, 0) := zp_l zq_187 rfl
theorem p_187_11 : zP1 187 11 = some (.iload_n 2, 0, 0, 0) := zp_l zq_187 rfl
theorem p_187_12 : zP1 187 12 = some (.iconst 2, 0, 0, 0) := zp_l zq_187 rfl
theorem p_187_13 : zP1 187 13 = some (.if_icmp .le 5, 0, 0, 0) := zp_l zq_187 rfl
theorem p_187_16 : zP1 187 16 = some (.iconst (-1), 0, 0, 0) := zp_l zq_187 rfl
theorem p_187_17 : zP1 187 17 = some (.ireturn, 0, 0, 0) := zp_l zq_187 rfl
theorem p_187_18 : zP1 187 18 = some (.iload_n 2, 0, 0, 0) := zp_l zq_187 rfl
theorem p_187_19 : zP1 187 19 = some (.ifCond .ne 11, 0, 0, 0) := zp_l zq_187 rfl
theorem p_187_22 : zP1 187 22 = some (.aload_n 0, 0, 0, 0) := zp_l zq_187 rfl
theorem p_187_23 : zP1 187 23 = some (.iload_n 3, 0, 0, 0) := zp_l zq_187 rfl
theorem p_187_24 : zP1 187 24 = some (.invokevirtual 123, 197, 1, 10) := zp_r zq_187 rfl
theorem p_187_27 : zP1 187 27 = some (.ifCond .ne 15, 0, 0, 0) := zp_l zq_187 rfl
theorem p_187_30 : zP1 187 30 = some (.iload_n 2, 0, 0, 0) := zp_l zq_187 rfl
theorem p_187_31 : zP1 187 31 = some (.iconst 1, 0, 0, 0) := zp_l zq_187 rfl
theorem p_187_32 : zP1 187 32 = some (.if_icmp .ne 12, 0, 0, 0) := zp_l zq_187 rfl
theorem p_187_35 : zP1 187 35 = some (.iload_n 3, 0, 0, 0) := zp_l zq_187 rfl
theorem p_187_36 : zP1 187 36 = some (.invokestatic 340, 2, 1, 0) := zp_r zq_187 rfl
theorem p_187_39 : zP1 187 39 = some (.ifCond .eq 5, 0, 0, 0) := zp_l zq_187 rfl
theorem p_187_42 : zP1 187 42 = some (.iconst (-1), 0, 0, 0) := zp_l zq_187 rfl
theorem p_187_43 : zP1 187 43 = some (.ireturn, 0, 0, 0) := zp_l zq_187 rfl
theorem p_187_44 : zP1 187 44 = some (.aload_n 0, 0, 0, 0) := zp_l zq_187 rfl
theorem p_187_45 : zP1 187 45 = some (.getfield 70, 10, 8, 0) := zp_r zq_187 rfl
theorem p_187_48 : zP1 187 48 = some (.iload_n 1, 0, 0, 0) := zp_l zq_187 rfl
theorem p_187_49 : zP1 187 49 = some (.iload_n 2, 0, 0, 0) := zp_l zq_187 rfl
theorem p_187_50 : zP1 187 50 = some (.iload_n 3, 0, 0, 0) := zp_l zq_187 rfl
theorem p_187_51 : zP1 187 51 = some (.invokevirtual 362, 6, 3, 0) := zp_r zq_187 rfl
theorem p_187_54 : zP1 187 54 = some (.iconst 1, 0, 0, 0) := zp_l zq_187 rfl
theorem p_187_55 : zP1 187 55 = some (.ireturn, 0, 0, 0) := zp_l zq_187 rfl
theorem b_187_0 {x1 : Int} {x2 : Int} {x3 : Int} : Z e (d + 2) 187 0 [.ref 0, .int (iI x1), .int (iI x2), .int (iI x3)] [] m = (if (((wr x1) < 0) ∨ (4 ≤ (wr x1))) ∨ (((wr x2) < 0) ∨ (2 < (wr x2))) then ri (-1) m else (if (wr x2) = 0 then (if (¬ ((0 ≤ (wr x3)) ∧ ((wr x3) < (wr (m 4 3))))) ∨ (((wr x2) = 1) ∧ (((wr x3) < 0) ∨ (4 ≤ (wr x3)))) then ri (-1) m else (Z e (d + 1) 6 0 [.ref 234, .int (iI x1), .int (iI x2), .int (iI x3)] [] m).bind (ZK e (d + 2) 187 54 [.ref 0, .int (iI x1), .int (iI x2), .int (iI x3)] [] m)) else (if ((wr x2) = 1) ∧ (((wr x3) < 0) ∨ (4 ≤ (wr x3))) then ri (-1) m else (Z e (d + 1) 6 0 [.ref 234, .int (iI x1), .int (iI x2), .int (iI x3)] [] m).bind (ZK e (d + 2) 187 54 [.ref 0, .int (iI x1), .int (iI x2), .int (iI x3)] [] m)))) := (s_il_1 p_187_0).trans <| (s_cs1 (Lc := [.int (iI x1)]) p_187_1 (by decide) (zM_of zq_2) ⟨Nat.le_of_ble_eq_true rfl, Nat.le_of_ble_eq_true rfl⟩ rfl).trans <| (bd b_2_0).trans <| ri_k.trans <| Eq.trans (Eq.trans (s_bne_t p_187_4 rfl) <| Eq.trans (ite_cg rfl ((s_il_2 p_187_7).trans <| Eq.trans (s_z_lt_t p_187_8 rfl rfl) <| Eq.trans (ite_cg rfl ((s_il_2 p_187_11).trans <| (s_const p_187_12).trans <| (s_c_le_f p_187_13 rfl rfl wl_2))) co_or)) co_or) <| ite_cg ((s_const p_187_16).trans <| (s_reti p_187_17 (zM_of zq_187))) ((s_il_2 p_187_18).trans <| Eq.trans ((s_z_ne_f p_187_19 rfl rfl)) <| ite_cg ((s_al_0 p_187_22).trans <| (s_il_3 p_187_23).trans <| (s_cv1 (Lc := [.ref 0, .int (iI x3)]) p_187_24 (by decide) (by decide) (zM_of zq_197) ⟨Nat.le_of_ble_eq_true rfl, Nat.le_of_ble_eq_true rfl⟩ rfl (m_rc hs_0 ⟨rfl, by decide⟩)).trans <| (bd b_197_0).trans <| ri_k.trans <| Eq.trans (Eq.trans (s_bne_t p_187_27 rfl) <| Eq.trans (ite_cg rfl ((s_il_2 p_187_30).trans <| (s_const p_187_31).trans <| Eq.trans (s_c_ne_f p_187_32 rfl rfl wl_1) <| Eq.trans (ite_cg ((s_il_3 p_187_35).trans <| (s_cs1 (Lc := [.int (iI x3)]) p_187_36 (by decide) (zM_of zq_2) ⟨Nat.le_of_ble_eq_true rfl, Nat.le_of_ble_eq_true rfl⟩ rfl).trans <| (bd b_2_0).trans <| ri_k.trans <| (s_beq_f p_187_39 rfl)) rfl) co_and)) co_or) <| ite_cg ((s_const p_187_42).trans <| (s_reti p_187_43 (zM_of zq_187))) ((s_al_0 p_187_44).trans <| (s_getr p_187_45 hs_0 (by decide) rfl).trans <| (s_il_1 p_187_48).trans <| (s_il_2 p_187_49).trans <| (s_il_3 p_187_50).trans <| (s_cv3 (Lc := [.ref 234, .int (iI x1), .int (iI x2), .int (iI x3)]) p_187_51 (by decide) (by decide) (zM_of zq_6) ⟨Nat.le_of_ble_eq_true rfl, Nat.le_of_ble_eq_true rfl⟩ rfl (m_rc hs_234 ⟨rfl, by decide⟩)))) ((s_il_2 p_187_30).trans <| (s_const p_187_31).trans <| Eq.trans (Eq.trans (s_c_ne_f p_187_32 rfl rfl wl_1) <| Eq.trans (ite_cg ((s_il_3 p_187_35).trans <| (s_cs1 (Lc := [.int (iI x3)]) p_187_36 (by decide) (zM_of zq_2) ⟨Nat.le_of_ble_eq_true rfl, Nat.le_of_ble_eq_true rfl⟩ rfl).trans <| (bd b_2_0).trans <| ri_k.trans <| (s_beq_f p_187_39 rfl)) rfl) co_and) <| ite_cg ((s_const p_187_42).trans <| (s_reti p_187_43 (zM_of zq_187))) ((s_al_0 p_187_44).trans <| (s_getr p_187_45 hs_0 (by decide) rfl).trans <| (s_il_1 p_187_48).trans <| (s_il_2 p_187_49).trans <| (s_il_3 p_187_50).trans <| (s_cv3 (Lc := [.ref 234, .int (iI x1), .int (iI x2), .int (iI x3)]) p_187_51 (by decide) (by decide) (zM_of zq_6) ⟨Nat.le_of_ble_eq_true rfl, Nat.le_of_ble_eq_true rfl⟩ rfl (m_rc hs_234 ⟨rfl, by decide⟩)))))
theorem b_187_54 {u0 u1 u2 u3 : Value} : Z e (d + 2) 187 54 [u0, u1, u2, u3] [] m = ri 1 m := (s_const p_187_54).trans <| (s_reti p_187_55 (zM_of zq_187))
-- P.taken
theorem p_188_0 : zP1 188 0 = some (.iload_n 2, 0, 0, 0) := zp_l zq_188 rfl
theorem p_188_1 : zP1 188 1 = some (.ifCond .lt 13, 0, 0, 0) := zp_l zq_188 rfl
theorem p_188_4 : zP1 188 4 = some (.iload_n 2, 0, 0, 0) := zp_l zq_188 rfl
theorem p_188_5 : zP1 188 5 = some (.bipush 6, 0, 0, 0) := zp_l zq_188 rfl
theorem p_188_7 : zP1 188 7 = some (.if_icmp .gt 7, 0, 0, 0) := zp_l zq_188 rfl
theorem p_188_10 : zP1 188 10 = some (.iconst 1, 0, 0, 0) := zp_l zq_188 rfl
theorem p_188_11 : zP1 188 11 = some (.goto 4, 0, 0, 0) := zp_l zq_188 rfl
theorem p_188_14 : zP1 188 14 = some (.iconst 0, 0, 0, 0) := zp_l zq_188 rfl
theorem p_188_15 : zP1 188 15 = some (.istore_n 3, 0, 0, 0) := zp_l zq_188 rfl
theorem p_188_16 : zP1 188 16 = some (.iload_n 2, 0, 0, 0) := zp_l zq_188 rfl
theorem p_188_17 : zP1 188 17 = some (.bipush 10, 0, 0, 0) := zp_l zq_188 rfl
theorem p_188_19 : zP1 188 19 = some (.if_icmp .lt 13, 0, 0, 0) := zp_l zq_188 rfl
theorem p_188_22 : zP1 188 22 = some (.iload_n 2, 0, 0, 0) := zp_l zq_188 rfl
theorem p_188_23 : zP1 188 23 = some (.bipush 14, 0, 0, 0) := zp_l zq_188 rfl
theorem p_188_25 : zP1 188 25 = some (.if_icmp .gt 7, 0, 0, 0) := zp_l zq_188 rfl
theorem p_188_28 : zP1 188 28 = some (.iconst 1, 0, 0, 0) := zp_l zq_188 rfl
theorem p_188_29 : zP1 188 29 = some (.goto 4, 0, 0, 0) := zp_l zq_188 rfl
theorem p_188_32 : zP1 188 32 = some (.iconst 0, 0, 0, 0) := zp_l zq_188 rfl
theorem p_188_33 : zP1 188 33 = some (.istore 4, 0, 0, 0) := zp_l zq_188 rfl
theorem p_188_35 : zP1 188 35 = some (.iload_n 1, 0, 0, 0) := zp_l zq_188 rfl
theorem p_188_36 : zP1 188 36 = some (.invokestatic 340, 2, 1, 0) := zp_r zq_188 rfl
theorem p_188_39 : zP1 188 39 = some (.ifCond .ne 12, 0, 0, 0) := zp_l zq_188 rfl
theorem p_188_42 : zP1 188 42 = some (.iload_n 3, 0, 0, 0) := zp_l zq_188 rfl
theorem p_188_43 : zP1 188 43 = some (.ifCond .ne 10, 0, 0, 0) := zp_l zq_188 rfl
theorem p_188_46 : zP1 188 46 = some (.iload 4, 0, 0, 0) := zp_l zq_188 rfl
theorem p_188_48 : zP1 188 48 = some (.ifCond .ne 5, 0, 0, 0) := zp_l zq_188 rfl
theorem p_188_51 : zP1 188 51 = some (.iconst (-1), 0, 0, 0) := zp_l zq_188 rfl
theorem p_188_52 : zP1 188 52 = some (.ireturn, 0, 0, 0) := zp_l zq_188 rfl
theorem p_188_53 : zP1 188 53 = some (.iload_n 3, 0, 0, 0) := zp_l zq_188 rfl
theorem p_188_54 : zP1 188 54 = some (.ifCond .eq 15, 0, 0, 0) := zp_l zq_188 rfl
theorem p_188_57 : zP1 188 57 = some (.aload_n 0, 0, 0, 0) := zp_l zq_188 rfl
theorem p_188_58 : zP1 188 58 = some (.getfield 70, 10, 8, 0) := zp_r zq_188 rfl
theorem p_188_61 : zP1 188 61 = some (.iload_n 1, 0, 0, 0) := zp_l zq_188 rfl
theorem p_188_62 : zP1 188 62 = some (.iload_n 2, 0, 0, 0) := zp_l zq_188 rfl
theorem p_188_63 : zP1 188 63 = some (.invokevirtual 365, 8, 2, 0) := zp_r zq_188 rfl
theorem p_188_66 : zP1 188 66 = some (.goto 15, 0, 0, 0) := zp_l zq_188 rfl
theorem p_188_69 : zP1 188 69 = some (.aload_n 0, 0, 0, 0) := zp_l zq_188 rfl
theorem p_188_70 : zP1 188 70 = some (.getfield 70, 10, 8, 0) := zp_r zq_188 rfl
theorem p_188_73 : zP1 188 73 = some (.iload_n 1, 0, 0, 0) := zp_l zq_188 rfl
theorem p_188_74 : zP1 188 74 = some (.iload_n 2, 0, 0, 0) := zp_l zq_188 rfl
theorem p_188_75 : zP1 188 75 = some (.bipush 10, 0, 0, 0) := zp_l zq_188 rfl
theorem p_188_77 : zP1 188 77 = some (.isub, 0, 0, 0) := zp_l zq_188 rfl
theorem p_188_78 : zP1 188 78 = some (.invokevirtual 368, 9, 2, 0) := zp_r zq_188 rfl
theorem p_188_81 : zP1 188 81 = some (.ireturn, 0, 0, 0) := zp_l zq_188 rfl
theorem b_188_0 {x1 : Int} {x2 : Int} : Z e (d + 1) 188 0 [.ref 0, .int (iI x1), .int (iI x2), .retAddr 0, .retAddr 0] [] m = (if (((wr x1) < 0) ∨ (4 ≤ (wr x1))) ∨ ((¬ ((0 ≤ (wr x2)) ∧ ((wr x2) ≤ 6))) ∧ (¬ ((10 ≤ (wr x2)) ∧ ((wr x2) ≤ 14)))) then ri (-1) m else (if (0 ≤ (wr x2)) ∧ ((wr x2) ≤ 6) then (Z e d 8 0 [.ref 234, .int (iI x1), .int (iI x2)] [] m).bind (ZK e (d + 1) 188 66 [.ref 0, .int (iI x1), .int (iI x2), .int (iI (if (0 ≤ (wr x2)) ∧ ((wr x2) ≤ 6) then 1 else 0)), .int (iI (if (10 ≤ (wr x2)) ∧ ((wr x2) ≤ 14) then 1 else 0))] [] m) else (Z e d 9 0 [.ref 234, .int (iI x1), .int (iI (x2 - 10))] [] m).bind (ZK e (d + 1) 188 81 [.ref 0, .int (iI x1), .int (iI x2), .int (iI (if (0 ≤ (wr x2)) ∧ ((wr x2) ≤ 6) then 1 else 0)), .int (iI (if (10 ≤ (wr x2)) ∧ ((wr x2) ≤ 14) then 1 else 0))] [] m))) := (s_il_2 p_188_0).trans <| Eq.trans (Eq.trans (Eq.trans (s_z_lt_f p_188_1 rfl rfl) <| Eq.trans (ite_cg ((s_il_2 p_188_4).trans <| (s_bip p_188_5 rfl).trans <| (s_c_gt_f p_188_7 rfl rfl wl_6)) rfl) co_and) <| Eq.trans (ite_cg ((s_const p_188_10).trans <| (s_goto p_188_11 rfl).trans <| rfl) ((s_const p_188_14).trans <| rfl)) (phi1 (fun z0 => Z e (d + 1) 188 15 [.ref 0, .int (iI x1), .int (iI x2), .retAddr 0, .retAddr 0] [.int (iI z0)] m))) <| (s_is_3 cat_i p_188_15).trans <| (s_il_2 p_188_16).trans <| (s_bip p_188_17 rfl).trans <| Eq.trans (Eq.trans (Eq.trans (s_c_lt_f p_188_19 rfl rfl wl_10) <| Eq.trans (ite_cg ((s_il_2 p_188_22).trans <| (s_bip p_188_23 rfl).trans <| (s_c_gt_f p_188_25 rfl rfl wl_14)) rfl) co_and) <| Eq.trans (ite_cg ((s_const p_188_28).trans <| (s_goto p_188_29 rfl).trans <| rfl) ((s_const p_188_32).trans <| rfl)) (phi1 (fun z0 => Z e (d + 1) 188 33 [.ref 0, .int (iI x1), .int (iI x2), .int (iI (if (0 ≤ (wr x2)) ∧ ((wr x2) ≤ 6) then 1 else 0)), .retAddr 0] [.int (iI z0)] m))) <| (s_is_4 cat_i p_188_33).trans <| (s_il_1 p_188_35).trans <| (s_cs1 (Lc := [.int (iI x1)]) p_188_36 (by decide) (zM_of zq_2) ⟨Nat.le_of_ble_eq_true rfl, Nat.le_of_ble_eq_true rfl⟩ rfl).trans <| (bd b_2_0).trans <| ri_k.trans <| Eq.trans (Eq.trans (s_bne_t p_188_39 rfl) <| Eq.trans (ite_cg rfl ((s_il_3 p_188_42).trans <| Eq.trans (s_bne_f p_188_43 rfl) <| Eq.trans (ite_cg ((s_il_4 p_188_46).trans <| (s_bne_f p_188_48 rfl)) rfl) co_and)) co_or) <| ite_cg ((s_const p_188_51).trans <| (s_reti p_188_52 (zM_of zq_188))) ((s_il_3 p_188_53).trans <| Eq.trans ((s_beq_f p_188_54 rfl)) <| ite_cg ((s_al_0 p_188_57).trans <| (s_getr p_188_58 hs_0 (by decide) rfl).trans <| (s_il_1 p_188_61).trans <| (s_il_2 p_188_62).trans <| (s_cv2 (Lc := [.ref 234, .int (iI x1), .int (iI x2)]) p_188_63 (by decide) (by decide) (zM_of zq_8) ⟨Nat.le_of_ble_eq_true rfl, Nat.le_of_ble_eq_true rfl⟩ rfl (m_rc hs_234 ⟨rfl, by decide⟩))) ((s_al_0 p_188_69).trans <| (s_getr p_188_70 hs_0 (by decide) rfl).trans <| (s_il_1 p_188_73).trans <| (s_il_2 p_188_74).trans <| (s_bip p_188_75 rfl).trans <| (s_isub p_188_77).trans <| (s_cv2 (Lc := [.ref 234, .int (iI x1), .int (iI (x2 - 10))]) p_188_78 (by decide) (by decide) (zM_of zq_9) ⟨Nat.le_of_ble_eq_true rfl, Nat.le_of_ble_eq_true rfl⟩ rfl (m_rc hs_234 ⟨rfl, by decide⟩))))
theorem b_188_66 {xs0 : Int} {u0 u1 u2 u3 u4 : Value} : Z e (d + 1) 188 66 [u0, u1, u2, u3, u4] [.int (iI xs0)] m = Z e (d + 1) 188 81 [u0, u1, u2, u3, u4] [.int (iI xs0)] m := (s_goto p_188_66 rfl).trans <| rfl
theorem b_188_81 {xs0 : Int} {u0 u1 u2 u3 u4 : Value} : Z e (d + 1) 188 81 [u0, u1, u2, u3, u4] [.int (iI xs0)] m = ri xs0 m := (s_reti p_188_81 (zM_of zq_188))
end BK
