/-! Equations of blocks. By program. -/
section BK
variable {e : List Int32 × Value} {d : Nat} {m : zMm}
-- P.deal
theorem p_189_0 : zP1 189 0 = some (.aload_n 0, 0, 0, 0) := zp_l zq_189 rfl
theorem p_189_1 : zP1 189 1 = some (.getfield 70, 10, 8, 0) := zp_r zq_189 rfl
theorem p_189_4 : zP1 189 4 = some (.iconst 0, 0, 0, 0) := zp_l zq_189 rfl
theorem p_189_5 : zP1 189 5 = some (.putfield 371, 0, 8, 0) := zp_r zq_189 rfl
theorem p_189_8 : zP1 189 8 = some (.iload_n 1, 0, 0, 0) := zp_l zq_189 rfl
theorem p_189_9 : zP1 189 9 = some (.invokestatic 340, 2, 1, 0) := zp_r zq_189 rfl
theorem p_189_12 : zP1 189 12 = some (.ifCond .ne 12, 0, 0, 0) := zp_l zq_189 rfl
theorem p_189_15 : zP1 189 15 = some (.iload_n 2, 0, 0, 0) := zp_l zq_189 rfl
theorem p_189_16 : zP1 189 16 = some (.ifCond .lt 8, 0, 0, 0) := zp_l zq_189 rfl
theorem p_189_19 : zP1 189 19 = some (.iload_n 2, 0, 0, 0) := zp_l zq_189 rfl
theorem p_189_20 : zP1 189 20 = some (.iconst 3, 0, 0, 0) := zp_l zq_189 rfl
theorem p_189_21 : zP1 189 21 = some (.if_icmp .le 5, 0, 0, 0) := zp_l zq_189 rfl
theorem p_189_24 : zP1 189 24 = some (.iconst 0, 0, 0, 0) := zp_l zq_189 rfl
theorem p_189_25 : zP1 189 25 = some (.ireturn, 0, 0, 0) := zp_l zq_189 rfl
theorem p_189_26 : zP1 189 26 = some (.aload_n 0, 0, 0, 0) := zp_l zq_189 rfl
theorem p_189_27 : zP1 189 27 = some (.getfield 70, 10, 8, 0) := zp_r zq_189 rfl
theorem p_189_30 : zP1 189 30 = some (.iload_n 1, 0, 0, 0) := zp_l zq_189 rfl
theorem p_189_31 : zP1 189 31 = some (.iload_n 2, 0, 0, 0) := zp_l zq_189 rfl
theorem p_189_32 : zP1 189 32 = some (.iload_n 3, 0, 0, 0) := zp_l zq_189 rfl
theorem p_189_33 : zP1 189 33 = some (.invokevirtual 374, 11, 3, 0) := zp_r zq_189 rfl
theorem p_189_36 : zP1 189 36 = some (.ireturn, 0, 0, 0) := zp_l zq_189 rfl
theorem b_189_0 {x1 : Int} {x2 : Int} {x3 : Int} : Z e (d + 1) 189 0 [.ref 0, .int (iI x1), .int (iI x2), .int (iI x3)] [] m = (if (((wr x1) < 0) ∨ (4 ≤ (wr x1))) ∨ (((wr x2) < 0) ∨ (3 < (wr x2))) then ri 0 (um m 234 8 0) else (Z e d 11 0 [.ref 234, .int (iI x1), .int (iI x2), .int (iI x3), .retAddr 0] [] (um m 234 8 0)).bind (ZK e (d + 1) 189 36 [.ref 0, .int (iI x1), .int (iI x2), .int (iI x3)] [] (um m 234 8 0))) := (s_al_0 p_189_0).trans <| (s_getr p_189_1 hs_0 (by decide) rfl).trans <| (s_const p_189_4).trans <| (s_put p_189_5 hs_234 (by decide) rfl).trans <| (s_il_1 p_189_8).trans <| (s_cs1 (Lc := [.int (iI x1)]) p_189_9 (by decide) (zM_of zq_2) ⟨Nat.le_of_ble_eq_true rfl, Nat.le_of_ble_eq_true rfl⟩ rfl).trans <| (bd b_2_0).trans <| ri_k.trans <| Eq.trans (Eq.trans (s_bne_t p_189_12 rfl) <| Eq.trans (ite_cg rfl ((s_il_2 p_189_15).trans <| Eq.trans (s_z_lt_t p_189_16 rfl rfl) <| Eq.trans (ite_cg rfl ((s_il_2 p_189_19).trans <| (s_const p_189_20).trans <| (s_c_le_f p_189_21 rfl rfl wl_3))) co_or)) co_or) <| ite_cg ((s_const p_189_24).trans <| (s_reti p_189_25 (zM_of zq_189))) ((s_al_0 p_189_26).trans <| (s_getr p_189_27 hs_0 (by decide) rfl).trans <| (s_il_1 p_189_30).trans <| (s_il_2 p_189_31).trans <| (s_il_3 p_189_32).trans <| (s_cv3 (Lc := [.ref 234, .int (iI x1), .int (iI x2), .int (iI x3), .retAddr 0]) p_189_33 (by decide) (by decide) (zM_of zq_11) ⟨Nat.le_of_ble_eq_true rfl, Nat.le_of_ble_eq_true rfl⟩ rfl (m_rc hs_234 ⟨rfl, by decide⟩)))
theorem b_189_36 {xs0 : Int} {u0 u1 u2 u3 : Value} : Z e (d + 1) 189 36 [u0, u1, u2, u3] [.int (iI xs0)] m = ri xs0 m := (s_reti p_189_36 (zM_of zq_189))
-- P.trace
theorem p_190_0 : zP1 190 0 = some (.iload_n 1, 0, 0, 0) := zp_l zq_190 rfl
theorem p_190_1 : zP1 190 1 = some (.ifCond .lt 14, 0, 0, 0) := zp_l zq_190 rfl
theorem p_190_4 : zP1 190 4 = some (.iload_n 1, 0, 0, 0) := zp_l zq_190 rfl
theorem p_190_5 : zP1 190 5 = some (.aload_n 0, 0, 0, 0) := zp_l zq_190 rfl
theorem p_190_6 : zP1 190 6 = some (.getfield 70, 10, 8, 0) := zp_r zq_190 rfl
theorem p_190_9 : zP1 190 9 = some (.getfield 371, 0, 8, 0) := zp_r zq_190 rfl
theorem p_190_12 : zP1 190 12 = some (.if_icmp .lt 6, 0, 0, 0) := zp_l zq_190 rfl
theorem p_190_15 : zP1 190 15 = some (.bipush (-3), 0, 0, 0) := zp_l zq_190 rfl
theorem p_190_17 : zP1 190 17 = some (.ireturn, 0, 0, 0) := zp_l zq_190 rfl
theorem p_190_18 : zP1 190 18 = some (.aload_n 0, 0, 0, 0) := zp_l zq_190 rfl
theorem p_190_19 : zP1 190 19 = some (.getfield 70, 10, 8, 0) := zp_r zq_190 rfl
theorem p_190_22 : zP1 190 22 = some (.getfield 377, 0, 7, 0) := zp_r zq_190 rfl
theorem p_190_25 : zP1 190 25 = some (.iload_n 1, 0, 0, 0) := zp_l zq_190 rfl
theorem p_190_26 : zP1 190 26 = some (.iaload, 0, 0, 0) := zp_l zq_190 rfl
theorem p_190_27 : zP1 190 27 = some (.ireturn, 0, 0, 0) := zp_l zq_190 rfl
theorem b_190_0 {x1 : Int} : Z e d 190 0 [.ref 0, .int (iI x1)] [] m = (if ((wr x1) < 0) ∨ ((wr (m 234 8)) ≤ (wr x1)) then ri (-3) m else ck (0 ≤ (wr x1) ∧ (wr x1) < 30) (ri (m 245 (wr x1)) m)) := (s_il_1 p_190_0).trans <| Eq.trans (Eq.trans (s_z_lt_t p_190_1 rfl rfl) <| Eq.trans (ite_cg rfl ((s_il_1 p_190_4).trans <| (s_al_0 p_190_5).trans <| (s_getr p_190_6 hs_0 (by decide) rfl).trans <| (s_get p_190_9 hs_234 (by decide) rfl).trans <| (s_c_lt_f p_190_12 rfl rfl rfl))) co_or) <| ite_cg ((s_bip p_190_15 rfl).trans <| (s_reti p_190_17 (zM_of zq_190))) ((s_al_0 p_190_18).trans <| (s_getr p_190_19 hs_0 (by decide) rfl).trans <| (s_getr p_190_22 hs_234 (by decide) rfl).trans <| (s_il_1 p_190_25).trans <| (s_ald 30 p_190_26 hs_245 rfl (by decide)).trans <| ck_cg fun k1 => (s_reti p_190_27 (zM_of zq_190)))
-- P.many
theorem p_191_0 : zP1 191 0 = some (.iload_n 1, 0, 0, 0) := zp_l zq_191 rfl
theorem p_191_1 : zP1 191 1 = some (.tableswitch 207 0 13 #[71, 79, 90, 101, 109, 120, 131, 142, 150, 158, 169, 180, 188, 196], 0, 0, 0) := zp_l zq_191 rfl
theorem p_191_72 : zP1 191 72 = some (.aload_n 0, 0, 0, 0) := zp_l zq_191 rfl
theorem p_191_73 : zP1 191 73 = some (.getfield 10, 10, 0, 0) := zp_r zq_191 rfl
theorem p_191_76 : zP1 191 76 = some (.getfield 78, 9, 0, 0) := zp_r zq_191 rfl
theorem p_191_79 : zP1 191 79 = some (.ireturn, 0, 0, 0) := zp_l zq_191 rfl
theorem p_191_80 : zP1 191 80 = some (.aload_n 0, 0, 0, 0) := zp_l zq_191 rfl
theorem p_191_81 : zP1 191 81 = some (.getfield 10, 10, 0, 0) := zp_r zq_191 rfl
theorem p_191_84 : zP1 191 84 = some (.getfield 110, 9, 5, 0) := zp_r zq_191 rfl
theorem p_191_87 : zP1 191 87 = some (.getfield 304, 7, 3, 0) := zp_r zq_191 rfl
theorem p_191_90 : zP1 191 90 = some (.ireturn, 0, 0, 0) := zp_l zq_191 rfl
theorem p_191_91 : zP1 191 91 = some (.aload_n 0, 0, 0, 0) := zp_l zq_191 rfl
theorem p_191_92 : zP1 191 92 = some (.getfield 10, 10, 0, 0) := zp_r zq_191 rfl
theorem p_191_95 : zP1 191 95 = some (.getfield 137, 9, 6, 0) := zp_r zq_191 rfl
theorem p_191_98 : zP1 191 98 = some (.getfield 304, 7, 3, 0) := zp_r zq_191 rfl
theorem p_191_101 : zP1 191 101 = some (.ireturn, 0, 0, 0) := zp_l zq_191 rfl
theorem p_191_102 : zP1 191 102 = some (.aload_n 0, 0, 0, 0) := zp_l zq_191 rfl
theorem p_191_103 : zP1 191 103 = some (.getfield 10, 10, 0, 0) := zp_r zq_191 rfl
theorem p_191_106 : zP1 191 106 = some (.getfield 172, 9, 2, 0) := zp_r zq_191 rfl
theorem p_191_109 : zP1 191 109 = some (.ireturn, 0, 0, 0) := zp_l zq_191 rfl
theorem p_191_110 : zP1 191 110 = some (.aload_n 0, 0, 0, 0) := zp_l zq_191 rfl
theorem p_191_111 : zP1 191 111 = some (.getfield 10, 10, 0, 0) := zp_r zq_191 rfl
theorem p_191_114 : zP1 191 114 = some (.getfield 219, 9, 7, 0) := zp_r zq_191 rfl
theorem p_191_117 : zP1 191 117 = some (.getfield 304, 7, 3, 0) := zp_r zq_191 rfl
theorem p_191_120 : zP1 191 120 = some (.ireturn, 0, 0, 0) := zp_l zq_191 rfl
theorem p_191_121 : zP1 191 121 = some (.aload_n 0, 0, 0, 0) := zp_l zq_191 rfl
theorem p_191_122 : zP1 191 122 = some (.getfield 10, 10, 0, 0) := zp_r zq_191 rfl
theorem p_191_125 : zP1 191 125 = some (.getfield 271, 9, 9, 0) := zp_r zq_191 rfl
theorem p_191_128 : zP1 191 128 = some (.getfield 304, 7, 3, 0) := zp_r zq_191 rfl
theorem p_191_131 : zP1 191 131 = some (.ireturn, 0, 0, 0) := zp_l zq_191 rfl
theorem p_191_132 : zP1 191 132 = some (.aload_n 0, 0, 0, 0) := zp_l zq_191 rfl
theorem p_191_133 : zP1 191 133 = some (.getfield 10, 10, 0, 0) := zp_r zq_191 rfl
theorem p_191_136 : zP1 191 136 = some (.getfield 286, 9, 10, 0) := zp_r zq_191 rfl
theorem p_191_139 : zP1 191 139 = some (.getfield 304, 7, 3, 0) := zp_r zq_191 rfl
theorem p_191_142 : zP1 191 142 = some (.ireturn, 0, 0, 0) := zp_l zq_191 rfl
theorem p_191_143 : zP1 191 143 = some (.aload_n 0, 0, 0, 0) := zp_l zq_191 rfl
theorem p_191_144 : zP1 191 144 = some (.getfield 10, 10, 0, 0) := zp_r zq_191 rfl
theorem p_191_147 : zP1 191 147 = some (.invokevirtual 380, 132, 0, 9) := zp_r zq_191 rfl
theorem p_191_150 : zP1 191 150 = some (.ireturn, 0, 0, 0) := zp_l zq_191 rfl
theorem p_191_151 : zP1 191 151 = some (.aload_n 0, 0, 0, 0) := zp_l zq_191 rfl
theorem p_191_152 : zP1 191 152 = some (.getfield 10, 10, 0, 0) := zp_r zq_191 rfl
theorem p_191_155 : zP1 191 155 = some (.getfield 319, 9, 1, 0) := zp_r zq_191 rfl
theorem p_191_158 : zP1 191 158 = some (.ireturn, 0, 0, 0) := zp_l zq_191 rfl
theorem p_191_159 : zP1 191 159 = some (.aload_n 0, 0, 0, 0) := zp_l zq_191 rfl
theorem p_191_160 : zP1 191 160 = some (.getfield 10, 10, 0, 0) := zp_r zq_191 rfl
theorem p_191_163 : zP1 191 163 = some (.getfield 328, 9, 11, 0) := zp_r zq_191 rfl
theorem p_191_166 : zP1 191 166 = some (.getfield 304, 7, 3, 0) := zp_r zq_191 rfl
theorem p_191_169 : zP1 191 169 = some (.ireturn, 0, 0, 0) := zp_l zq_191 rfl
theorem p_191_170 : zP1 191 170 = some (.aload_n 0, 0, 0, 0) := zp_l zq_191 rfl
theorem p_191_171 : zP1 191 171 = some (.getfield 63, 10, 7, 0) := zp_r zq_191 rfl
theorem p_191_174 : zP1 191 174 = some (.getfield 301, 2, 6, 0) := zp_r zq_191 rfl
theorem p_191_177 : zP1 191 177 = some (.getfield 304, 7, 3, 0) := zp_r zq_191 rfl
theorem p_191_180 : zP1 191 180 = some (.ireturn, 0, 0, 0) := zp_l zq_191 rfl
theorem p_191_181 : zP1 191 181 = some (.aload_n 0, 0, 0, 0) := zp_l zq_191 rfl
theorem p_191_182 : zP1 191 182 = some (.getfield 22, 10, 2, 0) := zp_r zq_191 rfl
theorem p_191_185 : zP1 191 185 = some (.getfield 156, 4, 1, 0) := zp_r zq_191 rfl
theorem p_191_188 : zP1 191 188 = some (.ireturn, 0, 0, 0) := zp_l zq_191 rfl
theorem p_191_189 : zP1 191 189 = some (.aload_n 0, 0, 0, 0) := zp_l zq_191 rfl
theorem p_191_190 : zP1 191 190 = some (.getfield 70, 10, 8, 0) := zp_r zq_191 rfl
theorem p_191_193 : zP1 191 193 = some (.getfield 371, 0, 8, 0) := zp_r zq_191 rfl
theorem p_191_196 : zP1 191 196 = some (.ireturn, 0, 0, 0) := zp_l zq_191 rfl
theorem p_191_197 : zP1 191 197 = some (.aload_n 0, 0, 0, 0) := zp_l zq_191 rfl
theorem p_191_198 : zP1 191 198 = some (.getfield 40, 10, 4, 0) := zp_r zq_191 rfl
theorem p_191_201 : zP1 191 201 = some (.invokevirtual 382, 32, 0, 1) := zp_r zq_191 rfl
theorem p_191_204 : zP1 191 204 = some (.invokestatic 385, 321, 1, 0) := zp_r zq_191 rfl
theorem p_191_207 : zP1 191 207 = some (.ireturn, 0, 0, 0) := zp_l zq_191 rfl
theorem p_191_208 : zP1 191 208 = some (.iconst (-1), 0, 0, 0) := zp_l zq_191 rfl
theorem p_191_209 : zP1 191 209 = some (.ireturn, 0, 0, 0) := zp_l zq_191 rfl
theorem b_191_0 {x1 : Int} : Z e (d + 1) 191 0 [.ref 0, .int (iI x1)] [] m = (if (wr x1) = 0 then ri (m 1 0) m else (if (wr x1) = 1 then ri (m 4 3) m else (if (wr x1) = 2 then ri (m 6 3) m else (if (wr x1) = 3 then ri (m 1 2) m else (if (wr x1) = 4 then ri (m 8 3) m else (if (wr x1) = 5 then ri (m 12 3) m else (if (wr x1) = 6 then ri (m 14 3) m else (if (wr x1) = 7 then (Z e d 132 0 [.ref 1, .retAddr 0, .retAddr 0] [] m).bind (ZK e (d + 1) 191 150 [.ref 0, .int (iI x1)] [] m) else (if (wr x1) = 8 then ri (m 1 1) m else (if (wr x1) = 9 then ri (m 16 3) m else (if (wr x1) = 10 then ri (m 230 3) m else (if (wr x1) = 11 then ri (m 179 1) m else (if (wr x1) = 12 then ri (m 234 8) m else (if (wr x1) = 13 then (Z e d 32 0 [.ref 202] [] m).bind (ZK e (d + 1) 191 204 [.ref 0, .int (iI x1)] [] m) else ri (-1) m)))))))))))))) := (s_il_1 p_191_0).trans <| (s_tsw (ts := [(0, 72), (1, 80), (2, 91), (3, 102), (4, 110), (5, 121), (6, 132), (7, 143), (8, 151), (9, 159), (10, 170), (11, 181), (12, 189), (13, 197)]) (td := 208) p_191_1 rfl (by decide) rfl rfl).trans <| ite_cg ((s_al_0 p_191_72).trans <| (s_getr p_191_73 hs_0 (by decide) rfl).trans <| (s_get p_191_76 hs_1 (by decide) rfl).trans <| (s_reti p_191_79 (zM_of zq_191))) (ite_cg ((s_al_0 p_191_80).trans <| (s_getr p_191_81 hs_0 (by decide) rfl).trans <| (s_getr p_191_84 hs_1 (by decide) rfl).trans <| (s_get p_191_87 hs_4 (by decide) rfl).trans <| (s_reti p_191_90 (zM_of zq_191))) (ite_cg ((s_al_0 p_191_91).trans <| (s_getr p_191_92 hs_0 (by decide) rfl).trans <| (s_getr p_191_95 hs_1 (by decide) rfl).trans <| (s_get p_191_98 hs_6 (by decide) rfl).trans <| (s_reti p_191_101 (zM_of zq_191))) (ite_cg ((s_al_0 p_191_102).trans <| (s_getr p_191_103 hs_0 (by decide) rfl).trans <| (s_get p_191_106 hs_1 (by decide) rfl).trans <| (s_reti p_191_109 (zM_of zq_191))) (ite_cg ((s_al_0 p_191_110).trans <| (s_getr p_191_111 hs_0 (by decide) rfl).trans <| (s_getr p_191_114 hs_1 (by decide) rfl).trans <| (s_get p_191_117 hs_8 (by decide) rfl).trans <| (s_reti p_191_120 (zM_of zq_191))) (ite_cg ((s_al_0 p_191_121).trans <| (s_getr p_191_122 hs_0 (by decide) rfl).trans <| (s_getr p_191_125 hs_1 (by decide) rfl).trans <| (s_get p_191_128 hs_12 (by decide) rfl).trans <| (s_reti p_191_131 (zM_of zq_191))) (ite_cg ((s_al_0 p_191_132).trans <| (s_getr p_191_133 hs_0 (by decide) rfl).trans <| (s_getr p_191_136 hs_1 (by decide) rfl).trans <| (s_get p_191_139 hs_14 (by decide) rfl).trans <| (s_reti p_191_142 (zM_of zq_191))) (ite_cg ((s_al_0 p_191_143).trans <| (s_getr p_191_144 hs_0 (by decide) rfl).trans <| (s_cv0 (Lc := [.ref 1, .retAddr 0, .retAddr 0]) p_191_147 (by decide) (by decide) (zM_of zq_132) ⟨Nat.le_of_ble_eq_true rfl, Nat.le_of_ble_eq_true rfl⟩ rfl (m_rc hs_1 ⟨rfl, by decide⟩))) (ite_cg ((s_al_0 p_191_151).trans <| (s_getr p_191_152 hs_0 (by decide) rfl).trans <| (s_get p_191_155 hs_1 (by decide) rfl).trans <| (s_reti p_191_158 (zM_of zq_191))) (ite_cg ((s_al_0 p_191_159).trans <| (s_getr p_191_160 hs_0 (by decide) rfl).trans <| (s_getr p_191_163 hs_1 (by decide) rfl).trans <| (s_get p_191_166 hs_16 (by decide) rfl).trans <| (s_reti p_191_169 (zM_of zq_191))) (ite_cg ((s_al_0 p_191_170).trans <| (s_getr p_191_171 hs_0 (by decide) rfl).trans <| (s_getr p_191_174 hs_226 (by decide) rfl).trans <| (s_get p_191_177 hs_230 (by decide) rfl).trans <| (s_reti p_191_180 (zM_of zq_191))) (ite_cg ((s_al_0 p_191_181).trans <| (s_getr p_191_182 hs_0 (by decide) rfl).trans <| (s_get3 p_191_185 hs_179 (by decide) rfl (by decide)).trans <| (s_reti p_191_188 (zM_of zq_191))) (ite_cg ((s_al_0 p_191_189).trans <| (s_getr p_191_190 hs_0 (by decide) rfl).trans <| (s_get p_191_193 hs_234 (by decide) rfl).trans <| (s_reti p_191_196 (zM_of zq_191))) (ite_cg ((s_al_0 p_191_197).trans <| (s_getr p_191_198 hs_0 (by decide) rfl).trans <| (s_cv0 (Lc := [.ref 202]) p_191_201 (by decide) (by decide) (zM_of zq_32) ⟨Nat.le_of_ble_eq_true rfl, Nat.le_of_ble_eq_true rfl⟩ rfl (m_rc hs_202 ⟨rfl, by decide⟩))) ((s_const p_191_208).trans <| (s_reti p_191_209 (zM_of zq_191))))))))))))))))
theorem b_191_150 {xs0 : Int} {u0 u1 : Value} : Z e (d + 1) 191 150 [u0, u1] [.int (iI xs0)] m = ri xs0 m := (s_reti p_191_150 (zM_of zq_191))
theorem b_191_204 {xs0 : Int} {u0 u1 : Value} : Z e (d + 1) 191 204 [u0, u1] [.int (iI xs0)] m = (Z e d 321 0 [.int (iI xs0)] [] m).bind (ZK e (d + 1) 191 207 [u0, u1] [] m) := (s_cs1 (Lc := [.int (iI xs0)]) p_191_204 (by decide) (zM_of zq_321) ⟨Nat.le_of_ble_eq_true rfl, Nat.le_of_ble_eq_true rfl⟩ rfl)
theorem b_191_207 {xs0 : Int} {u0 u1 : Value} : Z e (d + 1) 191 207 [u0, u1] [.int (iI xs0)] m = ri xs0 m := (s_reti p_191_207 (zM_of zq_191))
-- P.keep
theorem p_192_0 : zP1 192 0 = some (.aload_n 0, 0, 0, 0) := zp_l zq_192 rfl
theorem p_192_1 : zP1 192 1 = some (.getfield 16, 10, 1, 0) := zp_r zq_192 rfl
theorem p_192_4 : zP1 192 4 = some (.aload_n 0, 0, 0, 0) := zp_l zq_192 rfl
theorem p_192_5 : zP1 192 5 = some (.getfield 10, 10, 0, 0) := zp_r zq_192 rfl
theorem p_192_8 : zP1 192 8 = some (.invokevirtual 390, 120, 1, 9) := zp_r zq_192 rfl
theorem p_192_11 : zP1 192 11 = some (.aload_n 0, 0, 0, 0) := zp_l zq_192 rfl
theorem p_192_12 : zP1 192 12 = some (.iconst 1, 0, 0, 0) := zp_l zq_192 rfl
theorem p_192_13 : zP1 192 13 = some (.putfield 74, 10, 9, 1) := zp_r zq_192 rfl
theorem p_192_16 : zP1 192 16 = some (.iconst 1, 0, 0, 0) := zp_l zq_192 rfl
theorem p_192_17 : zP1 192 17 = some (.ireturn, 0, 0, 0) := zp_l zq_192 rfl
theorem b_192_0 : Z e (d + 1) 192 0 [.ref 0] [] m = (Z e d 120 0 [.ref 90, .ref 1, .retAddr 0] [] m).bind (ZK e (d + 1) 192 11 [.ref 0] [] m) := (s_al_0 p_192_0).trans <| (s_getr p_192_1 hs_0 (by decide) rfl).trans <| (s_al_0 p_192_4).trans <| (s_getr p_192_5 hs_0 (by decide) rfl).trans <| (s_cv1 (Lc := [.ref 90, .ref 1, .retAddr 0]) p_192_8 (by decide) (by decide) (zM_of zq_120) ⟨Nat.le_of_ble_eq_true rfl, Nat.le_of_ble_eq_true rfl⟩ rfl (m_rc hs_90 ⟨rfl, by decide⟩))
theorem b_192_11 : Z e (d + 1) 192 11 [.ref 0] [] m = ri 1 (um m 0 9 1) := (s_al_0 p_192_11).trans <| (s_const p_192_12).trans <| (s_putk p_192_13 rfl hs_0 (by decide) rfl).trans <| (s_const p_192_16).trans <| (s_reti p_192_17 (zM_of zq_192))
-- P.again
theorem p_193_0 : zP1 193 0 = some (.aload_n 0, 0, 0, 0) := zp_l zq_193 rfl
theorem p_193_1 : zP1 193 1 = some (.getfield 74, 10, 9, 0) := zp_r zq_193 rfl
theorem p_193_4 : zP1 193 4 = some (.ifCond .ne 6, 0, 0, 0) := zp_l zq_193 rfl
theorem p_193_7 : zP1 193 7 = some (.bipush (-3), 0, 0, 0) := zp_l zq_193 rfl
theorem p_193_9 : zP1 193 9 = some (.ireturn, 0, 0, 0) := zp_l zq_193 rfl
theorem p_193_10 : zP1 193 10 = some (.aload_n 0, 0, 0, 0) := zp_l zq_193 rfl
theorem p_193_11 : zP1 193 11 = some (.getfield 10, 10, 0, 0) := zp_r zq_193 rfl
theorem p_193_14 : zP1 193 14 = some (.aload_n 0, 0, 0, 0) := zp_l zq_193 rfl
theorem p_193_15 : zP1 193 15 = some (.getfield 16, 10, 1, 0) := zp_r zq_193 rfl
theorem p_193_18 : zP1 193 18 = some (.invokevirtual 390, 120, 1, 9) := zp_r zq_193 rfl
theorem p_193_21 : zP1 193 21 = some (.aload_n 0, 0, 0, 0) := zp_l zq_193 rfl
theorem p_193_22 : zP1 193 22 = some (.getfield 40, 10, 4, 0) := zp_r zq_193 rfl
theorem p_193_25 : zP1 193 25 = some (.invokevirtual 97, 18, 0, 1) := zp_r zq_193 rfl
theorem p_193_28 : zP1 193 28 = some (.iconst 1, 0, 0, 0) := zp_l zq_193 rfl
theorem p_193_29 : zP1 193 29 = some (.ireturn, 0, 0, 0) := zp_l zq_193 rfl
theorem b_193_0 : Z e (d + 1) 193 0 [.ref 0] [] m = (if (wr (m 0 9)) = 0 then ri (-3) m else (Z e d 120 0 [.ref 1, .ref 90, .retAddr 0] [] m).bind (ZK e (d + 1) 193 21 [.ref 0] [] m)) := (s_al_0 p_193_0).trans <| (s_get p_193_1 hs_0 (by decide) rfl).trans <| Eq.trans ((s_z_ne_f p_193_4 rfl rfl)) <| ite_cg ((s_bip p_193_7 rfl).trans <| (s_reti p_193_9 (zM_of zq_193))) ((s_al_0 p_193_10).trans <| (s_getr p_193_11 hs_0 (by decide) rfl).trans <| (s_al_0 p_193_14).trans <| (s_getr p_193_15 hs_0 (by decide) rfl).trans <| (s_cv1 (Lc := [.ref 1, .ref 90, .retAddr 0]) p_193_18 (by decide) (by decide) (zM_of zq_120) ⟨Nat.le_of_ble_eq_true rfl, Nat.le_of_ble_eq_true rfl⟩ rfl (m_rc hs_1 ⟨rfl, by decide⟩)))
theorem b_193_21 : Z e (d + 1) 193 21 [.ref 0] [] m = ri 1 (um m 202 2 1) := (s_al_0 p_193_21).trans <| (s_getr p_193_22 hs_0 (by decide) rfl).trans <| (s_cv0 (Lc := [.ref 202]) p_193_25 (by decide) (by decide) (zM_of zq_18) ⟨Nat.le_of_ble_eq_true rfl, Nat.le_of_ble_eq_true rfl⟩ rfl (m_rc hs_202 ⟨rfl, by decide⟩)).trans <| (bd b_18_0).trans <| rn_k.trans <| (s_const p_193_28).trans <| (s_reti p_193_29 (zM_of zq_193))
-- M.within3
theorem p_199_0 : zP1 199 0 = some (.iload_n 0, 0, 0, 0) := zp_l zq_199 rfl
theorem p_199_1 : zP1 199 1 = some (.iload_n 1, 0, 0, 0) := zp_l zq_199 rfl
theorem p_199_2 : zP1 199 2 = some (.if_icmp .lt 12, 0, 0, 0) := zp_l zq_199 rfl
theorem p_199_5 : zP1 199 5 = some (.iload_n 0, 0, 0, 0) := zp_l zq_199 rfl
theorem p_199_6 : zP1 199 6 = some (.iload_n 2, 0, 0, 0) := zp_l zq_199 rfl
theorem p_199_7 : zP1 199 7 = some (.if_icmp .gt 7, 0, 0, 0) := zp_l zq_199 rfl
theorem p_199_10 : zP1 199 10 = some (.iconst 1, 0, 0, 0) := zp_l zq_199 rfl
theorem p_199_11 : zP1 199 11 = some (.goto 4, 0, 0, 0) := zp_l zq_199 rfl
theorem p_199_14 : zP1 199 14 = some (.iconst 0, 0, 0, 0) := zp_l zq_199 rfl
theorem p_199_15 : zP1 199 15 = some (.ireturn, 0, 0, 0) := zp_l zq_199 rfl
theorem b_199_0 {x0 : Int} {x1 : Int} {x2 : Int} : Z e d 199 0 [.int (iI x0), .int (iI x1), .int (iI x2)] [] m = ri (if ((wr x1) ≤ (wr x0)) ∧ ((wr x0) ≤ (wr x2)) then 1 else 0) m := (s_il_0 p_199_0).trans <| (s_il_1 p_199_1).trans <| Eq.trans (Eq.trans (Eq.trans (s_c_lt_f p_199_2 rfl rfl rfl) <| Eq.trans (ite_cg ((s_il_0 p_199_5).trans <| (s_il_2 p_199_6).trans <| (s_c_gt_f p_199_7 rfl rfl rfl)) rfl) co_and) <| Eq.trans (ite_cg ((s_const p_199_10).trans <| (s_goto p_199_11 rfl).trans <| rfl) ((s_const p_199_14).trans <| rfl)) (phi1 (fun z0 => Z e d 199 15 [.int (iI x0), .int (iI x1), .int (iI x2)] [.int (iI z0)] m))) <| (s_retb p_199_15 (zM_of zq_199))
-- M.isCell
theorem p_200_0 : zP1 200 0 = some (.iload_n 0, 0, 0, 0) := zp_l zq_200 rfl
theorem p_200_1 : zP1 200 1 = some (.iconst 0, 0, 0, 0) := zp_l zq_200 rfl
theorem p_200_2 : zP1 200 2 = some (.bipush 99, 0, 0, 0) := zp_l zq_200 rfl
theorem p_200_4 : zP1 200 4 = some (.invokestatic 100, 199, 3, 0) := zp_r zq_200 rfl
theorem p_200_7 : zP1 200 7 = some (.ireturn, 0, 0, 0) := zp_l zq_200 rfl
theorem b_200_0 {x0 : Int} : Z e (d + 1) 200 0 [.int (iI x0)] [] m = ri (if ((wr 0) ≤ (wr x0)) ∧ ((wr x0) ≤ (wr 99)) then 1 else 0) m := (s_il_0 p_200_0).trans <| (s_const p_200_1).trans <| (s_bip p_200_2 rfl).trans <| (s_cs3 (Lc := [.int (iI x0), .int (iI 0), .int (iI 99)]) p_200_4 (by decide) (zM_of zq_199) ⟨Nat.le_of_ble_eq_true rfl, Nat.le_of_ble_eq_true rfl⟩ rfl).trans <| (bd b_199_0).trans <| ri_k.trans <| (s_retb p_200_7 (zM_of zq_200))
-- M.isHour
theorem p_201_0 : zP1 201 0 = some (.iload_n 0, 0, 0, 0) := zp_l zq_201 rfl
theorem p_201_1 : zP1 201 1 = some (.iconst 0, 0, 0, 0) := zp_l zq_201 rfl
theorem p_201_2 : zP1 201 2 = some (.sipush 9999, 0, 0, 0) := zp_l zq_201 rfl
theorem p_201_5 : zP1 201 5 = some (.invokestatic 100, 199, 3, 0) := zp_r zq_201 rfl
theorem p_201_8 : zP1 201 8 = some (.ireturn, 0, 0, 0) := zp_l zq_201 rfl
theorem b_201_0 {x0 : Int} : Z e (d + 1) 201 0 [.int (iI x0)] [] m = ri (if ((wr 0) ≤ (wr x0)) ∧ ((wr x0) ≤ (wr 9999)) then 1 else 0) m := (s_il_0 p_201_0).trans <| (s_const p_201_1).trans <| (s_sip p_201_2 rfl).trans <| (s_cs3 (Lc := [.int (iI x0), .int (iI 0), .int (iI 9999)]) p_201_5 (by decide) (zM_of zq_199) ⟨Nat.le_of_ble_eq_true rfl, Nat.le_of_ble_eq_true rfl⟩ rfl).trans <| (bd b_199_0).trans <| ri_k.trans <| (s_retb p_201_8 (zM_of zq_201))
-- M.isPerson
theorem p_202_0 : zP1 202 0 = some (.iload_n 1, 0, 0, 0) := zp_l zq_202 rfl
theorem p_202_1 : zP1 202 1 = some (.iconst 0, 0, 0, 0) := zp_l zq_202 rfl
theorem p_202_2 : zP1 202 2 = some (.aload_n 0, 0, 0, 0) := zp_l zq_202 rfl
theorem p_202_3 : zP1 202 3 = some (.getfield 9, 11, 0, 0) := zp_r zq_202 rfl
theorem p_202_6 : zP1 202 6 = some (.iconst 1, 0, 0, 0) := zp_l zq_202 rfl
theorem p_202_7 : zP1 202 7 = some (.iaload, 0, 0, 0) := zp_l zq_202 rfl
theorem p_202_8 : zP1 202 8 = some (.iconst 1, 0, 0, 0) := zp_l zq_202 rfl
theorem p_202_9 : zP1 202 9 = some (.isub, 0, 0, 0) := zp_l zq_202 rfl
theorem p_202_10 : zP1 202 10 = some (.invokestatic 100, 199, 3, 0) := zp_r zq_202 rfl
theorem p_202_13 : zP1 202 13 = some (.ireturn, 0, 0, 0) := zp_l zq_202 rfl
theorem b_202_0 {x1 : Int} : Z e (d + 1) 202 0 [.ref 246, .int (iI x1)] [] m = ri (if ((wr 0) ≤ (wr x1)) ∧ ((wr x1) ≤ (wr ((m 247 1) - 1))) then 1 else 0) m := (s_il_1 p_202_0).trans <| (s_const p_202_1).trans <| (s_al_0 p_202_2).trans <| (s_getr p_202_3 hs_246 (by decide) rfl).trans <| (s_const p_202_6).trans <| (s_aldc p_202_7 hs_247 (by decide) wl_1 (by decide)).trans <| (s_const p_202_8).trans <| (s_isub p_202_9).trans <| (s_cs3 (Lc := [.int (iI x1), .int (iI 0), .int (iI ((m 247 1) - 1))]) p_202_10 (by decide) (zM_of zq_199) ⟨Nat.le_of_ble_eq_true rfl, Nat.le_of_ble_eq_true rfl⟩ rfl).trans <| (bd b_199_0).trans <| ri_k.trans <| (s_retb p_202_13 (zM_of zq_202))
-- M.isWall
theorem p_203_0 : zP1 203 0 = some (.aload_n 0, 0, 0, 0) := zp_l zq_203 rfl
theorem p_203_1 : zP1 203 1 = some (.getfield 9, 11, 0, 0) := zp_r zq_203 rfl
theorem p_203_4 : zP1 203 4 = some (.bipush 10, 0, 0, 0) := zp_l zq_203 rfl
theorem p_203_6 : zP1 203 6 = some (.iload_n 1, 0, 0, 0) := zp_l zq_203 rfl
theorem p_203_7 : zP1 203 7 = some (.iadd, 0, 0, 0) := zp_l zq_203 rfl
theorem p_203_8 : zP1 203 8 = some (.iaload, 0, 0, 0) := zp_l zq_203 rfl
theorem p_203_9 : zP1 203 9 = some (.iconst 1, 0, 0, 0) := zp_l zq_203 rfl
theorem p_203_10 : zP1 203 10 = some (.if_icmp .ne 7, 0, 0, 0) := zp_l zq_203 rfl
theorem p_203_13 : zP1 203 13 = some (.iconst 1, 0, 0, 0) := zp_l zq_203 rfl
theorem p_203_14 : zP1 203 14 = some (.goto 4, 0, 0, 0) := zp_l zq_203 rfl
theorem p_203_17 : zP1 203 17 = some (.iconst 0, 0, 0, 0) := zp_l zq_203 rfl
theorem p_203_18 : zP1 203 18 = some (.ireturn, 0, 0, 0) := zp_l zq_203 rfl
theorem b_203_0 {x1 : Int} : Z e d 203 0 [.ref 246, .int (iI x1)] [] m = ck (0 ≤ (wr (10 + x1)) ∧ (wr (10 + x1)) < 2737) (ri (if (wr (m 247 (wr (10 + x1)))) = 1 then 1 else 0) m) := (s_al_0 p_203_0).trans <| (s_getr p_203_1 hs_246 (by decide) rfl).trans <| (s_bip p_203_4 rfl).trans <| (s_il_1 p_203_6).trans <| (s_iadd p_203_7).trans <| (s_ald 2737 p_203_8 hs_247 rfl (by decide)).trans <| ck_cg fun k1 => (s_const p_203_9).trans <| Eq.trans (Eq.trans ((s_c_ne_f p_203_10 rfl rfl wl_1)) <| Eq.trans (ite_cg ((s_const p_203_13).trans <| (s_goto p_203_14 rfl).trans <| rfl) ((s_const p_203_17).trans <| rfl)) (phi1 (fun z0 => Z e d 203 18 [.ref 246, .int (iI x1)] [.int (iI z0)] m))) <| (s_retb p_203_18 (zM_of zq_203))
-- M.of
theorem p_204_0 : zP1 204 0 = some (.bipush 110, 0, 0, 0) := zp_l zq_204 rfl
theorem p_204_2 : zP1 204 2 = some (.bipush 9, 0, 0, 0) := zp_l zq_204 rfl
theorem p_204_4 : zP1 204 4 = some (.iload_n 0, 0, 0, 0) := zp_l zq_204 rfl
theorem p_204_5 : zP1 204 5 = some (.imul, 0, 0, 0) := zp_l zq_204 rfl
theorem p_204_6 : zP1 204 6 = some (.iadd, 0, 0, 0) := zp_l zq_204 rfl
theorem p_204_7 : zP1 204 7 = some (.iload_n 1, 0, 0, 0) := zp_l zq_204 rfl
theorem p_204_8 : zP1 204 8 = some (.iadd, 0, 0, 0) := zp_l zq_204 rfl
theorem p_204_9 : zP1 204 9 = some (.ireturn, 0, 0, 0) := zp_l zq_204 rfl
theorem b_204_0 {x0 : Int} {x1 : Int} : Z e d 204 0 [.int (iI x0), .int (iI x1)] [] m = ri ((110 + (9 * x0)) + x1) m := (s_bip p_204_0 rfl).trans <| (s_bip p_204_2 rfl).trans <| (s_il_0 p_204_4).trans <| (s_imul p_204_5).trans <| (s_iadd p_204_6).trans <| (s_il_1 p_204_7).trans <| (s_iadd p_204_8).trans <| (s_reti p_204_9 (zM_of zq_204))
-- M.ofDeed
theorem p_205_0 : zP1 205 0 = some (.sipush 794, 0, 0, 0) := zp_l zq_205 rfl
theorem p_205_3 : zP1 205 3 = some (.bipush 6, 0, 0, 0) := zp_l zq_205 rfl
theorem p_205_5 : zP1 205 5 = some (.iload_n 0, 0, 0, 0) := zp_l zq_205 rfl
theorem p_205_6 : zP1 205 6 = some (.imul, 0, 0, 0) := zp_l zq_205 rfl
theorem p_205_7 : zP1 205 7 = some (.iadd, 0, 0, 0) := zp_l zq_205 rfl
theorem p_205_8 : zP1 205 8 = some (.iload_n 1, 0, 0, 0) := zp_l zq_205 rfl
theorem p_205_9 : zP1 205 9 = some (.iadd, 0, 0, 0) := zp_l zq_205 rfl
theorem p_205_10 : zP1 205 10 = some (.ireturn, 0, 0, 0) := zp_l zq_205 rfl
theorem b_205_0 {x0 : Int} {x1 : Int} : Z e d 205 0 [.int (iI x0), .int (iI x1)] [] m = ri ((794 + (6 * x0)) + x1) m := (s_sip p_205_0 rfl).trans <| (s_bip p_205_3 rfl).trans <| (s_il_0 p_205_5).trans <| (s_imul p_205_6).trans <| (s_iadd p_205_7).trans <| (s_il_1 p_205_8).trans <| (s_iadd p_205_9).trans <| (s_reti p_205_10 (zM_of zq_205))
-- M.far
theorem p_206_0 : zP1 206 0 = some (.iload_n 0, 0, 0, 0) := zp_l zq_206 rfl
theorem p_206_1 : zP1 206 1 = some (.bipush 10, 0, 0, 0) := zp_l zq_206 rfl
theorem p_206_3 : zP1 206 3 = some (.idiv, 0, 0, 0) := zp_l zq_206 rfl
theorem p_206_4 : zP1 206 4 = some (.iload_n 1, 0, 0, 0) := zp_l zq_206 rfl
theorem p_206_5 : zP1 206 5 = some (.bipush 10, 0, 0, 0) := zp_l zq_206 rfl
theorem p_206_7 : zP1 206 7 = some (.idiv, 0, 0, 0) := zp_l zq_206 rfl
theorem p_206_8 : zP1 206 8 = some (.isub, 0, 0, 0) := zp_l zq_206 rfl
theorem p_206_9 : zP1 206 9 = some (.invokestatic 104, 323, 1, 0) := zp_r zq_206 rfl
theorem p_206_12 : zP1 206 12 = some (.iload_n 0, 0, 0, 0) := zp_l zq_206 rfl
theorem p_206_13 : zP1 206 13 = some (.bipush 10, 0, 0, 0) := zp_l zq_206 rfl
theorem p_206_15 : zP1 206 15 = some (.irem, 0, 0, 0) := zp_l zq_206 rfl
theorem p_206_16 : zP1 206 16 = some (.iload_n 1, 0, 0, 0) := zp_l zq_206 rfl
theorem p_206_17 : zP1 206 17 = some (.bipush 10, 0, 0, 0) := zp_l zq_206 rfl
theorem p_206_19 : zP1 206 19 = some (.irem, 0, 0, 0) := zp_l zq_206 rfl
theorem p_206_20 : zP1 206 20 = some (.isub, 0, 0, 0) := zp_l zq_206 rfl
theorem p_206_21 : zP1 206 21 = some (.invokestatic 104, 323, 1, 0) := zp_r zq_206 rfl
theorem p_206_24 : zP1 206 24 = some (.iadd, 0, 0, 0) := zp_l zq_206 rfl
theorem p_206_25 : zP1 206 25 = some (.ireturn, 0, 0, 0) := zp_l zq_206 rfl
theorem b_206_0 {x0 : Int} {x1 : Int} : Z e (d + 1) 206 0 [.int (iI x0), .int (iI x1)] [] m = ri (jfar x0 x1) m := (s_il_0 p_206_0).trans <| (s_bip p_206_1 rfl).trans <| (s_idivc p_206_3 (by decide)).trans <| (s_il_1 p_206_4).trans <| (s_bip p_206_5 rfl).trans <| (s_idivc p_206_7 (by decide)).trans <| (s_isub p_206_8).trans <| (s_cs1 (Lc := [.int (iI ((jdiv x0 10) - (jdiv x1 10)))]) p_206_9 (by decide) (zM_of zq_323) ⟨Nat.le_of_ble_eq_true rfl, Nat.le_of_ble_eq_true rfl⟩ rfl).trans <| (bd b_323_0).trans <| ri_k.trans <| (s_il_0 p_206_12).trans <| (s_bip p_206_13 rfl).trans <| (s_iremc p_206_15 (by decide)).trans <| (s_il_1 p_206_16).trans <| (s_bip p_206_17 rfl).trans <| (s_iremc p_206_19 (by decide)).trans <| (s_isub p_206_20).trans <| (s_cs1 (Lc := [.int (iI ((jrem x0 10) - (jrem x1 10)))]) p_206_21 (by decide) (zM_of zq_323) ⟨Nat.le_of_ble_eq_true rfl, Nat.le_of_ble_eq_true rfl⟩ rfl).trans <| (bd b_323_0).trans <| ri_k.trans <| (s_iadd p_206_24).trans <| (s_reti p_206_25 (zM_of zq_206))
-- M.bits
theorem p_207_0 : zP1 207 0 = some (.iconst 0, 0, 0, 0) := zp_l zq_207 rfl
theorem p_207_1 : zP1 207 1 = some (.istore_n 1, 0, 0, 0) := zp_l zq_207 rfl
theorem p_207_2 : zP1 207 2 = some (.iconst 0, 0, 0, 0) := zp_l zq_207 rfl
theorem p_207_3 : zP1 207 3 = some (.istore_n 2, 0, 0, 0) := zp_l zq_207 rfl
theorem p_207_4 : zP1 207 4 = some (.iload_n 2, 0, 0, 0) := zp_l zq_207 rfl
theorem p_207_5 : zP1 207 5 = some (.bipush 16, 0, 0, 0) := zp_l zq_207 rfl
theorem p_207_7 : zP1 207 7 = some (.if_icmp .ge 17, 0, 0, 0) := zp_l zq_207 rfl
theorem p_207_10 : zP1 207 10 = some (.iload_n 1, 0, 0, 0) := zp_l zq_207 rfl
theorem p_207_11 : zP1 207 11 = some (.iload_n 0, 0, 0, 0) := zp_l zq_207 rfl
theorem p_207_12 : zP1 207 12 = some (.iload_n 2, 0, 0, 0) := zp_l zq_207 rfl
theorem p_207_13 : zP1 207 13 = some (.ishr, 0, 0, 0) := zp_l zq_207 rfl
theorem p_207_14 : zP1 207 14 = some (.iconst 1, 0, 0, 0) := zp_l zq_207 rfl
theorem p_207_15 : zP1 207 15 = some (.iand, 0, 0, 0) := zp_l zq_207 rfl
theorem p_207_16 : zP1 207 16 = some (.iadd, 0, 0, 0) := zp_l zq_207 rfl
theorem p_207_17 : zP1 207 17 = some (.istore_n 1, 0, 0, 0) := zp_l zq_207 rfl
theorem p_207_18 : zP1 207 18 = some (.iinc 2 1, 0, 0, 0) := zp_l zq_207 rfl
theorem p_207_21 : zP1 207 21 = some (.goto (-17), 0, 0, 0) := zp_l zq_207 rfl
theorem p_207_24 : zP1 207 24 = some (.iload_n 1, 0, 0, 0) := zp_l zq_207 rfl
theorem p_207_25 : zP1 207 25 = some (.ireturn, 0, 0, 0) := zp_l zq_207 rfl
theorem b_207_0 {x0 : Int} : Z e d 207 0 [.int (iI x0), .retAddr 0, .retAddr 0] [] m = Z e d 207 4 [.int (iI x0), .int (iI 0), .int (iI 0)] [] m := (s_const p_207_0).trans <| (s_is_1 cat_i p_207_1).trans <| (s_const p_207_2).trans <| (s_is_2 cat_i p_207_3).trans <| rfl
theorem b_207_4 {x0 : Int} {x1 : Int} {x2 : Int} : Z e d 207 4 [.int (iI x0), .int (iI x1), .int (iI x2)] [] m = (if (wr x2) < 16 then Z e d 207 4 [.int (iI x0), .int (iI (x1 + (jand (jshr x0 x2) 1))), .int (iI (x2 + 1))] [] m else ri x1 m) := (s_il_2 p_207_4).trans <| (s_bip p_207_5 rfl).trans <| Eq.trans ((s_c_ge_f p_207_7 rfl rfl wl_16)) <| ite_cg ((s_il_1 p_207_10).trans <| (s_il_0 p_207_11).trans <| (s_il_2 p_207_12).trans <| (s_ishr p_207_13).trans <| (s_const p_207_14).trans <| (s_iand p_207_15).trans <| (s_iadd p_207_16).trans <| (s_is_1 cat_i p_207_17).trans <| (s_inc_2 cat_i p_207_18).trans <| (s_goto p_207_21 rfl).trans <| rfl) ((s_il_1 p_207_24).trans <| (s_reti p_207_25 (zM_of zq_207)))
-- M.stepTo
theorem p_208_0 : zP1 208 0 = some (.iload_n 2, 0, 0, 0) := zp_l zq_208 rfl
theorem p_208_1 : zP1 208 1 = some (.ifCond .ne 10, 0, 0, 0) := zp_l zq_208 rfl
theorem p_208_4 : zP1 208 4 = some (.iload_n 1, 0, 0, 0) := zp_l zq_208 rfl
theorem p_208_5 : zP1 208 5 = some (.bipush 10, 0, 0, 0) := zp_l zq_208 rfl
theorem p_208_7 : zP1 208 7 = some (.isub, 0, 0, 0) := zp_l zq_208 rfl
theorem p_208_8 : zP1 208 8 = some (.goto 53, 0, 0, 0) := zp_l zq_208 rfl
theorem p_208_11 : zP1 208 11 = some (.iload_n 2, 0, 0, 0) := zp_l zq_208 rfl
theorem p_208_12 : zP1 208 12 = some (.iconst 1, 0, 0, 0) := zp_l zq_208 rfl
theorem p_208_13 : zP1 208 13 = some (.if_icmp .ne 20, 0, 0, 0) := zp_l zq_208 rfl
theorem p_208_16 : zP1 208 16 = some (.iload_n 1, 0, 0, 0) := zp_l zq_208 rfl
theorem p_208_17 : zP1 208 17 = some (.bipush 10, 0, 0, 0) := zp_l zq_208 rfl
theorem p_208_19 : zP1 208 19 = some (.irem, 0, 0, 0) := zp_l zq_208 rfl
theorem p_208_20 : zP1 208 20 = some (.ifCond .ne 7, 0, 0, 0) := zp_l zq_208 rfl
theorem p_208_23 : zP1 208 23 = some (.iconst (-1), 0, 0, 0) := zp_l zq_208 rfl
theorem p_208_24 : zP1 208 24 = some (.goto 37, 0, 0, 0) := zp_l zq_208 rfl
theorem p_208_27 : zP1 208 27 = some (.iload_n 1, 0, 0, 0) := zp_l zq_208 rfl
theorem p_208_28 : zP1 208 28 = some (.iconst 1, 0, 0, 0) := zp_l zq_208 rfl
theorem p_208_29 : zP1 208 29 = some (.isub, 0, 0, 0) := zp_l zq_208 rfl
theorem p_208_30 : zP1 208 30 = some (.goto 31, 0, 0, 0) := zp_l zq_208 rfl
theorem p_208_33 : zP1 208 33 = some (.iload_n 2, 0, 0, 0) := zp_l zq_208 rfl
theorem p_208_34 : zP1 208 34 = some (.iconst 2, 0, 0, 0) := zp_l zq_208 rfl
theorem p_208_35 : zP1 208 35 = some (.if_icmp .ne 22, 0, 0, 0) := zp_l zq_208 rfl
theorem p_208_38 : zP1 208 38 = some (.iload_n 1, 0, 0, 0) := zp_l zq_208 rfl
theorem p_208_39 : zP1 208 39 = some (.bipush 10, 0, 0, 0) := zp_l zq_208 rfl
theorem p_208_41 : zP1 208 41 = some (.irem, 0, 0, 0) := zp_l zq_208 rfl
theorem p_208_42 : zP1 208 42 = some (.bipush 9, 0, 0, 0) := zp_l zq_208 rfl
theorem p_208_44 : zP1 208 44 = some (.if_icmp .ne 7, 0, 0, 0) := zp_l zq_208 rfl
theorem p_208_47 : zP1 208 47 = some (.iconst (-1), 0, 0, 0) := zp_l zq_208 rfl
theorem p_208_48 : zP1 208 48 = some (.goto 13, 0, 0, 0) := zp_l zq_208 rfl
theorem p_208_51 : zP1 208 51 = some (.iload_n 1, 0, 0, 0) := zp_l zq_208 rfl
theorem p_208_52 : zP1 208 52 = some (.iconst 1, 0, 0, 0) := zp_l zq_208 rfl
theorem p_208_53 : zP1 208 53 = some (.iadd, 0, 0, 0) := zp_l zq_208 rfl
theorem p_208_54 : zP1 208 54 = some (.goto 7, 0, 0, 0) := zp_l zq_208 rfl
theorem p_208_57 : zP1 208 57 = some (.iload_n 1, 0, 0, 0) := zp_l zq_208 rfl
theorem p_208_58 : zP1 208 58 = some (.bipush 10, 0, 0, 0) := zp_l zq_208 rfl
theorem p_208_60 : zP1 208 60 = some (.iadd, 0, 0, 0) := zp_l zq_208 rfl
theorem p_208_61 : zP1 208 61 = some (.istore_n 3, 0, 0, 0) := zp_l zq_208 rfl
theorem p_208_62 : zP1 208 62 = some (.iload_n 3, 0, 0, 0) := zp_l zq_208 rfl
theorem p_208_63 : zP1 208 63 = some (.invokestatic 110, 200, 1, 0) := zp_r zq_208 rfl
theorem p_208_66 : zP1 208 66 = some (.ifCond .eq 11, 0, 0, 0) := zp_l zq_208 rfl
theorem p_208_69 : zP1 208 69 = some (.aload_n 0, 0, 0, 0) := zp_l zq_208 rfl
theorem p_208_70 : zP1 208 70 = some (.iload_n 3, 0, 0, 0) := zp_l zq_208 rfl
theorem p_208_71 : zP1 208 71 = some (.invokevirtual 114, 203, 1, 11) := zp_r zq_208 rfl
theorem p_208_74 : zP1 208 74 = some (.ifCond .eq 7, 0, 0, 0) := zp_l zq_208 rfl
theorem p_208_77 : zP1 208 77 = some (.iconst (-1), 0, 0, 0) := zp_l zq_208 rfl
theorem p_208_78 : zP1 208 78 = some (.goto 4, 0, 0, 0) := zp_l zq_208 rfl
theorem p_208_81 : zP1 208 81 = some (.iload_n 3, 0, 0, 0) := zp_l zq_208 rfl
theorem p_208_82 : zP1 208 82 = some (.ireturn, 0, 0, 0) := zp_l zq_208 rfl
theorem b_208_0 {x1 : Int} {x2 : Int} : Z e (d + 2) 208 0 [.ref 246, .int (iI x1), .int (iI x2), .retAddr 0] [] m = ck ((¬ (¬ (((wr 0) ≤ (wr (if (wr x2) = 0 then (x1 - 10) else (if (wr x2) = 1 then (if (wr (jrem x1 10)) = 0 then (-1) else (x1 - 1)) else (if (wr x2) = 2 then (if (wr (jrem x1 10)) = 9 then (-1) else (x1 + 1)) else (x1 + 10)))))) ∧ ((wr (if (wr x2) = 0 then (x1 - 10) else (if (wr x2) = 1 then (if (wr (jrem x1 10)) = 0 then (-1) else (x1 - 1)) else (if (wr x2) = 2 then (if (wr (jrem x1 10)) = 9 then (-1) else (x1 + 1)) else (x1 + 10))))) ≤ (wr 99))))) → (0 ≤ (wr (10 + (if (wr x2) = 0 then (x1 - 10) else (if (wr x2) = 1 then (if (wr (jrem x1 10)) = 0 then (-1) else (x1 - 1)) else (if (wr x2) = 2 then (if (wr (jrem x1 10)) = 9 then (-1) else (x1 + 1)) else (x1 + 10)))))) ∧ (wr (10 + (if (wr x2) = 0 then (x1 - 10) else (if (wr x2) = 1 then (if (wr (jrem x1 10)) = 0 then (-1) else (x1 - 1)) else (if (wr x2) = 2 then (if (wr (jrem x1 10)) = 9 then (-1) else (x1 + 1)) else (x1 + 10)))))) < 2737)) (ri (if (¬ (((wr 0) ≤ (wr (if (wr x2) = 0 then (x1 - 10) else (if (wr x2) = 1 then (if (wr (jrem x1 10)) = 0 then (-1) else (x1 - 1)) else (if (wr x2) = 2 then (if (wr (jrem x1 10)) = 9 then (-1) else (x1 + 1)) else (x1 + 10)))))) ∧ ((wr (if (wr x2) = 0 then (x1 - 10) else (if (wr x2) = 1 then (if (wr (jrem x1 10)) = 0 then (-1) else (x1 - 1)) else (if (wr x2) = 2 then (if (wr (jrem x1 10)) = 9 then (-1) else (x1 + 1)) else (x1 + 10))))) ≤ (wr 99)))) ∨ ((wr (m 247 (wr (10 + (if (wr x2) = 0 then (x1 - 10) else (if (wr x2) = 1 then (if (wr (jrem x1 10)) = 0 then (-1) else (x1 - 1)) else (if (wr x2) = 2 then (if (wr (jrem x1 10)) = 9 then (-1) else (x1 + 1)) else (x1 + 10)))))))) = 1) then (-1) else (if (wr x2) = 0 then (x1 - 10) else (if (wr x2) = 1 then (if (wr (jrem x1 10)) = 0 then (-1) else (x1 - 1)) else (if (wr x2) = 2 then (if (wr (jrem x1 10)) = 9 then (-1) else (x1 + 1)) else (x1 + 10))))) m) := (s_il_2 p_208_0).trans <| Eq.trans (Eq.trans ((s_z_ne_f p_208_1 rfl rfl)) <| Eq.trans (ite_cg ((s_il_1 p_208_4).trans <| (s_bip p_208_5 rfl).trans <| (s_isub p_208_7).trans <| (s_goto p_208_8 rfl).trans <| rfl) ((s_il_2 p_208_11).trans <| (s_const p_208_12).trans <| Eq.trans (Eq.trans ((s_c_ne_f p_208_13 rfl rfl wl_1)) <| Eq.trans (ite_cg ((s_il_1 p_208_16).trans <| (s_bip p_208_17 rfl).trans <| (s_iremc p_208_19 (by decide)).trans <| Eq.trans (Eq.trans ((s_z_ne_f p_208_20 rfl rfl)) <| Eq.trans (ite_cg ((s_const p_208_23).trans <| (s_goto p_208_24 rfl).trans <| rfl) ((s_il_1 p_208_27).trans <| (s_const p_208_28).trans <| (s_isub p_208_29).trans <| (s_goto p_208_30 rfl).trans <| rfl)) (phi1 (fun z0 => Z e (d + 2) 208 61 [.ref 246, .int (iI x1), .int (iI x2), .retAddr 0] [.int (iI z0)] m))) <| rfl) ((s_il_2 p_208_33).trans <| (s_const p_208_34).trans <| Eq.trans (Eq.trans ((s_c_ne_f p_208_35 rfl rfl wl_2)) <| Eq.trans (ite_cg ((s_il_1 p_208_38).trans <| (s_bip p_208_39 rfl).trans <| (s_iremc p_208_41 (by decide)).trans <| (s_bip p_208_42 rfl).trans <| Eq.trans (Eq.trans ((s_c_ne_f p_208_44 rfl rfl wl_9)) <| Eq.trans (ite_cg ((s_const p_208_47).trans <| (s_goto p_208_48 rfl).trans <| rfl) ((s_il_1 p_208_51).trans <| (s_const p_208_52).trans <| (s_iadd p_208_53).trans <| (s_goto p_208_54 rfl).trans <| rfl)) (phi1 (fun z0 => Z e (d + 2) 208 61 [.ref 246, .int (iI x1), .int (iI x2), .retAddr 0] [.int (iI z0)] m))) <| rfl) ((s_il_1 p_208_57).trans <| (s_bip p_208_58 rfl).trans <| (s_iadd p_208_60).trans <| rfl)) (phi1 (fun z0 => Z e (d + 2) 208 61 [.ref 246, .int (iI x1), .int (iI x2), .retAddr 0] [.int (iI z0)] m))) <| rfl)) (phi1 (fun z0 => Z e (d + 2) 208 61 [.ref 246, .int (iI x1), .int (iI x2), .retAddr 0] [.int (iI z0)] m))) <| rfl)) (phi1 (fun z0 => Z e (d + 2) 208 61 [.ref 246, .int (iI x1), .int (iI x2), .retAddr 0] [.int (iI z0)] m))) <| (s_is_3 cat_i p_208_61).trans <| (s_il_3 p_208_62).trans <| (s_cs1 (Lc := [.int (iI (if (wr x2) = 0 then (x1 - 10) else (if (wr x2) = 1 then (if (wr (jrem x1 10)) = 0 then (-1) else (x1 - 1)) else (if (wr x2) = 2 then (if (wr (jrem x1 10)) = 9 then (-1) else (x1 + 1)) else (x1 + 10)))))]) p_208_63 (by decide) (zM_of zq_200) ⟨Nat.le_of_ble_eq_true rfl, Nat.le_of_ble_eq_true rfl⟩ rfl).trans <| (bd b_200_0).trans <| ri_k.trans <| Eq.trans (Eq.trans (Eq.trans (s_beq_t p_208_66 rfl) <| Eq.trans (ite_cg rfl ((s_al_0 p_208_69).trans <| (s_il_3 p_208_70).trans <| (s_cv1 (Lc := [.ref 246, .int (iI (if (wr x2) = 0 then (x1 - 10) else (if (wr x2) = 1 then (if (wr (jrem x1 10)) = 0 then (-1) else (x1 - 1)) else (if (wr x2) = 2 then (if (wr (jrem x1 10)) = 9 then (-1) else (x1 + 1)) else (x1 + 10)))))]) p_208_71 (by decide) (by decide) (zM_of zq_203) ⟨Nat.le_of_ble_eq_true rfl, Nat.le_of_ble_eq_true rfl⟩ rfl (m_rc hs_246 ⟨rfl, by decide⟩)).trans <| (bd b_203_0).trans <| ck_bind.trans <| ck_cg fun k1 => ri_k.trans <| (s_beq_f p_208_74 rfl))) <| Eq.trans ck_b <| ck_cg fun _ => co_or) <| ck_cg fun _ => Eq.trans (ite_cg ((s_const p_208_77).trans <| (s_goto p_208_78 rfl).trans <| rfl) ((s_il_3 p_208_81).trans <| rfl)) (phi1 (fun z0 => Z e (d + 2) 208 82 [.ref 246, .int (iI x1), .int (iI x2), .int (iI (if (wr x2) = 0 then (x1 - 10) else (if (wr x2) = 1 then (if (wr (jrem x1 10)) = 0 then (-1) else (x1 - 1)) else (if (wr x2) = 2 then (if (wr (jrem x1 10)) = 9 then (-1) else (x1 + 1)) else (x1 + 10)))))] [.int (iI z0)] m))) <| ck_cg fun _ => (s_reti p_208_82 (zM_of zq_208))
-- M.findWays
theorem p_209_0 : zP1 209 0 = some (.iconst 0, 0, 0, 0) := zp_l zq_209 rfl
theorem p_209_1 : zP1 209 1 = some (.istore_n 2, 0, 0, 0) := zp_l zq_209 rfl
theorem p_209_2 : zP1 209 2 = some (.iload_n 2, 0, 0, 0) := zp_l zq_209 rfl
theorem p_209_3 : zP1 209 3 = some (.bipush 100, 0, 0, 0) := zp_l zq_209 rfl
theorem p_209_5 : zP1 209 5 = some (.if_icmp .ge 18, 0, 0, 0) := zp_l zq_209 rfl
theorem p_209_8 : zP1 209 8 = some (.aload_n 0, 0, 0, 0) := zp_l zq_209 rfl
theorem p_209_9 : zP1 209 9 = some (.getfield 29, 11, 9, 0) := zp_r zq_209 rfl
theorem p_209_12 : zP1 209 12 = some (.iload_n 2, 0, 0, 0) := zp_l zq_209 rfl
theorem p_209_13 : zP1 209 13 = some (.sipush 1000, 0, 0, 0) := zp_l zq_209 rfl
theorem p_209_16 : zP1 209 16 = some (.iastore, 0, 0, 0) := zp_l zq_209 rfl
theorem p_209_17 : zP1 209 17 = some (.iinc 2 1, 0, 0, 0) := zp_l zq_209 rfl
theorem p_209_20 : zP1 209 20 = some (.goto (-18), 0, 0, 0) := zp_l zq_209 rfl
theorem p_209_23 : zP1 209 23 = some (.aload_n 0, 0, 0, 0) := zp_l zq_209 rfl
theorem p_209_24 : zP1 209 24 = some (.iload_n 1, 0, 0, 0) := zp_l zq_209 rfl
theorem p_209_25 : zP1 209 25 = some (.invokevirtual 114, 203, 1, 11) := zp_r zq_209 rfl
theorem p_209_28 : zP1 209 28 = some (.ifCond .eq 4, 0, 0, 0) := zp_l zq_209 rfl
theorem p_209_31 : zP1 209 31 = some (.return_, 0, 0, 0) := zp_l zq_209 rfl
theorem p_209_32 : zP1 209 32 = some (.aload_n 0, 0, 0, 0) := zp_l zq_209 rfl
theorem p_209_33 : zP1 209 33 = some (.getfield 29, 11, 9, 0) := zp_r zq_209 rfl
theorem p_209_36 : zP1 209 36 = some (.iload_n 1, 0, 0, 0) := zp_l zq_209 rfl
theorem p_209_37 : zP1 209 37 = some (.iconst 0, 0, 0, 0) := zp_l zq_209 rfl
theorem p_209_38 : zP1 209 38 = some (.iastore, 0, 0, 0) := zp_l zq_209 rfl
theorem p_209_39 : zP1 209 39 = some (.aload_n 0, 0, 0, 0) := zp_l zq_209 rfl
theorem p_209_40 : zP1 209 40 = some (.getfield 32, 11, 10, 0) := zp_r zq_209 rfl
theorem p_209_43 : zP1 209 43 = some (.iconst 0, 0, 0, 0) := zp_l zq_209 rfl
theorem p_209_44 : zP1 209 44 = some (.iload_n 1, 0, 0, 0) := zp_l zq_209 rfl
theorem p_209_45 : zP1 209 45 = some (.iastore, 0, 0, 0) := zp_l zq_209 rfl
theorem p_209_46 : zP1 209 46 = some (.iconst 1, 0, 0, 0) := zp_l zq_209 rfl
theorem p_209_47 : zP1 209 47 = some (.istore_n 2, 0, 0, 0) := zp_l zq_209 rfl
theorem p_209_48 : zP1 209 48 = some (.iconst 0, 0, 0, 0) := zp_l zq_209 rfl
theorem p_209_49 : zP1 209 49 = some (.istore_n 3, 0, 0, 0) := zp_l zq_209 rfl
theorem p_209_50 : zP1 209 50 = some (.iload_n 3, 0, 0, 0) := zp_l zq_209 rfl
theorem p_209_51 : zP1 209 51 = some (.iload_n 2, 0, 0, 0) := zp_l zq_209 rfl
theorem p_209_52 : zP1 209 52 = some (.if_icmp .ge 87, 0, 0, 0) := zp_l zq_209 rfl
theorem p_209_55 : zP1 209 55 = some (.iconst 0, 0, 0, 0) := zp_l zq_209 rfl
theorem p_209_56 : zP1 209 56 = some (.istore 4, 0, 0, 0) := zp_l zq_209 rfl
theorem p_209_58 : zP1 209 58 = some (.iload 4, 0, 0, 0) := zp_l zq_209 rfl
theorem p_209_60 : zP1 209 60 = some (.iconst 4, 0, 0, 0) := zp_l zq_209 rfl
theorem p_209_61 : zP1 209 61 = some (.if_icmp .ge 72, 0, 0, 0) := zp_l zq_209 rfl
theorem p_209_64 : zP1 209 64 = some (.aload_n 0, 0, 0, 0) := zp_l zq_209 rfl
theorem p_209_65 : zP1 209 65 = some (.aload_n 0, 0, 0, 0) := zp_l zq_209 rfl
theorem p_209_66 : zP1 209 66 = some (.getfield 32, 11, 10, 0) := zp_r zq_209 rfl
theorem p_209_69 : zP1 209 69 = some (.iload_n 3, 0, 0, 0) := zp_l zq_209 rfl
theorem p_209_70 : zP1 209 70 = some (.iaload, 0, 0, 0) := zp_l zq_209 rfl
theorem p_209_71 : zP1 209 71 = some (.iload 4, 0, 0, 0) := zp_l zq_209 rfl
theorem p_209_73 : zP1 209 73 = some (.invokevirtual 117, 208, 2, 11) := zp_r zq_209 rfl
theorem p_209_76 : zP1 209 76 = some (.istore 5, 0, 0, 0) := zp_l zq_209 rfl
theorem p_209_78 : zP1 209 78 = some (.iload 5, 0, 0, 0) := zp_l zq_209 rfl
theorem p_209_80 : zP1 209 80 = some (.ifCond .lt 47, 0, 0, 0) := zp_l zq_209 rfl
theorem p_209_83 : zP1 209 83 = some (.aload_n 0, 0, 0, 0) := zp_l zq_209 rfl
theorem p_209_84 : zP1 209 84 = some (.getfield 29, 11, 9, 0) := zp_r zq_209 rfl
theorem p_209_87 : zP1 209 87 = some (.iload 5, 0, 0, 0) := zp_l zq_209 rfl
theorem p_209_89 : zP1 209 89 = some (.iaload, 0, 0, 0) := zp_l zq_209 rfl
theorem p_209_90 : zP1 209 90 = some (.sipush 1000, 0, 0, 0) := zp_l zq_209 rfl
theorem p_209_93 : zP1 209 93 = some (.if_icmp .ne 34, 0, 0, 0) := zp_l zq_209 rfl
theorem p_209_96 : zP1 209 96 = some (.aload_n 0, 0, 0, 0) := zp_l zq_209 rfl
theorem p_209_97 : zP1 209 97 = some (.getfield 29, 11, 9, 0) := zp_r zq_209 rfl
theorem p_209_100 : zP1 209 100 = some (.iload 5, 0, 0, 0) := zp_l zq_209 rfl
theorem p_209_102 : zP1 209 102 = some (.aload_n 0, 0, 0, 0) := zp_l zq_209 rfl
theorem p_209_103 : zP1 209 103 = some (.getfield 29, 11, 9, 0) := zp_r zq_209 rfl
theorem p_209_106 : zP1 209 106 = some (.aload_n 0, 0, 0, 0) := zp_l zq_209 rfl
theorem p_209_107 : zP1 209 107 = some (.getfield 32, 11, 10, 0) := zp_r zq_209 rfl
theorem p_209_110 : zP1 209 110 = some (.iload_n 3, 0, 0, 0) := zp_l zq_209 rfl
theorem p_209_111 : zP1 209 111 = some (.iaload, 0, 0, 0) := zp_l zq_209 rfl
theorem p_209_112 : zP1 209 112 = some (.iaload, 0, 0, 0) := zp_l zq_209 rfl
theorem p_209_113 : zP1 209 113 = some (.iconst 1, 0, 0, 0) := zp_l zq_209 rfl
theorem p_209_114 : zP1 209 114 = some (.iadd, 0, 0, 0) := zp_l zq_209 rfl
theorem p_209_115 : zP1 209 115 = some (.iastore, 0, 0, 0) := zp_l zq_209 rfl
theorem p_209_116 : zP1 209 116 = some (.aload_n 0, 0, 0, 0) := zp_l zq_209 rfl
theorem p_209_117 : zP1 209 117 = some (.getfield 32, 11, 10, 0) := zp_r zq_209 rfl
theorem p_209_120 : zP1 209 120 = some (.iload_n 2, 0, 0, 0) := zp_l zq_209 rfl
theorem p_209_121 : zP1 209 121 = some (.iload 5, 0, 0, 0) := zp_l zq_209 rfl
theorem p_209_123 : zP1 209 123 = some (.iastore, 0, 0, 0) := zp_l zq_209 rfl
theorem p_209_124 : zP1 209 124 = some (.iinc 2 1, 0, 0, 0) := zp_l zq_209 rfl
theorem p_209_127 : zP1 209 127 = some (.iinc 4 1, 0, 0, 0) := zp_l zq_209 rfl
theorem p_209_130 : zP1 209 130 = some (.goto (-72), 0, 0, 0) := zp_l zq_209 rfl
theorem p_209_133 : zP1 209 133 = some (.iinc 3 1, 0, 0, 0) := zp_l zq_209 rfl
theorem p_209_136 : zP1 209 136 = some (.goto (-86), 0, 0, 0) := zp_l zq_209 rfl
theorem p_209_139 : zP1 209 139 = some (.return_, 0, 0, 0) := zp_l zq_209 rfl
theorem b_209_0 {x1 : Int} : Z e (d + 1) 209 0 [.ref 246, .int (iI x1), .retAddr 0, .retAddr 0, .retAddr 0, .retAddr 0] [] m = Z e (d + 1) 209 2 [.ref 246, .int (iI x1), .int (iI 0), .retAddr 0, .retAddr 0, .retAddr 0] [] m := (s_const p_209_0).trans <| (s_is_2 cat_i p_209_1).trans <| rfl
theorem b_209_2 {x1 : Int} {x2 : Int} {u3 u4 u5 : Value} : Z e (d + 1) 209 2 [.ref 246, .int (iI x1), .int (iI x2), u3, u4, u5] [] m = (if (wr x2) < 100 then ck (0 ≤ (wr x2) ∧ (wr x2) < 100) (Z e (d + 1) 209 2 [.ref 246, .int (iI x1), .int (iI (x2 + 1)), u3, u4, u5] [] (um m 252 (wr x2) 1000)) else Z e (d + 1) 209 23 [.ref 246, .int (iI x1), .int (iI x2), u3, u4, u5] [] m) := (s_il_2 p_209_2).trans <| (s_bip p_209_3 rfl).trans <| Eq.trans ((s_c_ge_f p_209_5 rfl rfl wl_100)) <| ite_cg ((s_al_0 p_209_8).trans <| (s_getr p_209_9 hs_246 (by decide) rfl).trans <| (s_il_2 p_209_12).trans <| (s_sip p_209_13 rfl).trans <| (s_ast 100 p_209_16 hs_252 rfl).trans <| ck_cg fun k1 => (s_inc_2 cat_i p_209_17).trans <| (s_goto p_209_20 rfl).trans <| rfl) (rfl)
theorem b_209_23 {x1 : Int} {u2 u3 u4 u5 : Value} : Z e (d + 1) 209 23 [.ref 246, .int (iI x1), u2, u3, u4, u5] [] m = ck (0 ≤ (wr (10 + x1)) ∧ (wr (10 + x1)) < 2737) ((if (wr (m 247 (wr (10 + x1)))) = 1 then rn m else ck (0 ≤ (wr x1) ∧ (wr x1) < 100) (Z e (d + 1) 209 50 [.ref 246, .int (iI x1), .int (iI 1), .int (iI 0), u4, u5] [] (um (um m 252 (wr x1) 0) 253 0 x1)))) := (s_al_0 p_209_23).trans <| (s_il_1 p_209_24).trans <| (s_cv1 (Lc := [.ref 246, .int (iI x1)]) p_209_25 (by decide) (by decide) (zM_of zq_203) ⟨Nat.le_of_ble_eq_true rfl, Nat.le_of_ble_eq_true rfl⟩ rfl (m_rc hs_246 ⟨rfl, by decide⟩)).trans <| (bd b_203_0).trans <| ck_bind.trans <| ck_cg fun _ => ri_k.trans <| Eq.trans ((s_beq_f p_209_28 rfl)) <| ite_cg ((s_retv p_209_31 (zM_of zq_209))) ((s_al_0 p_209_32).trans <| (s_getr p_209_33 hs_246 (by decide) rfl).trans <| (s_il_1 p_209_36).trans <| (s_const p_209_37).trans <| (s_ast 100 p_209_38 hs_252 rfl).trans <| ck_cg fun k1 => (s_al_0 p_209_39).trans <| (s_getr p_209_40 hs_246 (by decide) rfl).trans <| (s_const p_209_43).trans <| (s_il_1 p_209_44).trans <| (s_astc p_209_45 hs_253 wl_0 (by decide)).trans <| (s_const p_209_46).trans <| (s_is_2 cat_i p_209_47).trans <| (s_const p_209_48).trans <| (s_is_3 cat_i p_209_49).trans <| rfl)
theorem b_209_50 {x2 : Int} {x3 : Int} {u1 u4 u5 : Value} : Z e (d + 1) 209 50 [.ref 246, u1, .int (iI x2), .int (iI x3), u4, u5] [] m = (if (wr x3) < (wr x2) then Z e (d + 1) 209 58 [.ref 246, u1, .int (iI x2), .int (iI x3), .int (iI 0), u5] [] m else rn m) := (s_il_3 p_209_50).trans <| (s_il_2 p_209_51).trans <| Eq.trans ((s_c_ge_f p_209_52 rfl rfl rfl)) <| ite_cg ((s_const p_209_55).trans <| (s_is_4 cat_i p_209_56).trans <| rfl) ((s_retv p_209_139 (zM_of zq_209)))
theorem b_209_58 {x2 : Int} {x3 : Int} {x4 : Int} {u1 u5 : Value} : Z e (d + 1) 209 58 [.ref 246, u1, .int (iI x2), .int (iI x3), .int (iI x4), u5] [] m = (if (wr x4) < 4 then ck (0 ≤ (wr x3) ∧ (wr x3) < 100) ((Z e d 208 0 [.ref 246, .int (iI (m 253 (wr x3))), .int (iI x4), .retAddr 0] [] m).bind (ZK e (d + 1) 209 76 [.ref 246, u1, .int (iI x2), .int (iI x3), .int (iI x4), u5] [] m)) else Z e (d + 1) 209 50 [.ref 246, u1, .int (iI x2), .int (iI (x3 + 1)), .int (iI x4), u5] [] m) := (s_il_4 p_209_58).trans <| (s_const p_209_60).trans <| Eq.trans ((s_c_ge_f p_209_61 rfl rfl wl_4)) <| ite_cg ((s_al_0 p_209_64).trans <| (s_al_0 p_209_65).trans <| (s_getr p_209_66 hs_246 (by decide) rfl).trans <| (s_il_3 p_209_69).trans <| (s_ald 100 p_209_70 hs_253 rfl (by decide)).trans <| ck_cg fun k2 => (s_il_4 p_209_71).trans <| (s_cv2 (Lc := [.ref 246, .int (iI (m 253 (wr x3))), .int (iI x4), .retAddr 0]) p_209_73 (by decide) (by decide) (zM_of zq_208) ⟨Nat.le_of_ble_eq_true rfl, Nat.le_of_ble_eq_true rfl⟩ rfl (m_rc hs_246 ⟨rfl, by decide⟩))) ((s_inc_3 cat_i p_209_133).trans <| (s_goto p_209_136 rfl).trans <| rfl)
theorem b_209_76 {x2 : Int} {x3 : Int} {x4 : Int} {xs0 : Int} {u1 u5 : Value} (hu1 : u1.category = 1) : Z e (d + 1) 209 76 [.ref 246, u1, .int (iI x2), .int (iI x3), .int (iI x4), u5] [.int (iI xs0)] m = ck ((0 ≤ (wr xs0)) → (0 ≤ (wr xs0) ∧ (wr xs0) < 100)) (if (0 ≤ (wr xs0)) ∧ ((wr (m 252 (wr xs0))) = 1000) then ck (0 ≤ (wr x3) ∧ (wr x3) < 100) (ck (0 ≤ (wr (m 253 (wr x3))) ∧ (wr (m 253 (wr x3))) < 100) (ck (0 ≤ (wr xs0) ∧ (wr xs0) < 100) (ck (0 ≤ (wr x2) ∧ (wr x2) < 100) (Z e (d + 1) 209 58 [.ref 246, u1, .int (iI (x2 + 1)), .int (iI x3), .int (iI (x4 + 1)), .int (iI xs0)] [] (um (um m 252 (wr xs0) ((m 252 (wr (m 253 (wr x3)))) + 1)) 253 (wr x2) xs0))))) else Z e (d + 1) 209 58 [.ref 246, u1, .int (iI x2), .int (iI x3), .int (iI (x4 + 1)), .int (iI xs0)] [] m) := (s_is_5 cat_i p_209_76).trans <| (s_il_5 p_209_78).trans <| Eq.trans (Eq.trans (s_z_lt_f p_209_80 rfl rfl) <| Eq.trans (ite_cg ((s_al_0 p_209_83).trans <| (s_getr p_209_84 hs_246 (by decide) rfl).trans <| (s_il_5 p_209_87).trans <| (s_ald 100 p_209_89 hs_252 rfl (by decide)).trans <| ck_cg fun k4 => (s_sip p_209_90 rfl).trans <| (s_c_ne_f p_209_93 rfl rfl wl_1000)) rfl) <| Eq.trans ck_a <| ck_cg fun _ => co_and) <| ck_cg fun _ => ite_cg ((s_al_0 p_209_96).trans <| (s_getr p_209_97 hs_246 (by decide) rfl).trans <| (s_il_5 p_209_100).trans <| (s_al_0 p_209_102).trans <| (s_getr p_209_103 hs_246 (by decide) rfl).trans <| (s_al_0 p_209_106).trans <| (s_getr p_209_107 hs_246 (by decide) rfl).trans <| (s_il_3 p_209_110).trans <| (s_ald 100 p_209_111 hs_253 rfl (by decide)).trans <| ck_cg fun k5 => (s_ald 100 p_209_112 hs_252 rfl (by decide)).trans <| ck_cg fun k6 => (s_const p_209_113).trans <| (s_iadd p_209_114).trans <| (s_ast 100 p_209_115 hs_252 rfl).trans <| ck_cg fun k7 => (s_al_0 p_209_116).trans <| (s_getr p_209_117 hs_246 (by decide) rfl).trans <| (s_il_2 p_209_120).trans <| (s_il_5 p_209_121).trans <| (s_ast 100 p_209_123 hs_253 rfl).trans <| ck_cg fun k8 => (s_inc_2 hu1 p_209_124).trans <| (s_inc_4 cat_i p_209_127).trans <| (s_goto p_209_130 rfl).trans <| rfl) ((s_inc_4 cat_i p_209_127).trans <| (s_goto p_209_130 rfl).trans <| rfl)
-- M.knowWays
theorem p_210_0 : zP1 210 0 = some (.iconst 0, 0, 0, 0) := zp_l zq_210 rfl
theorem p_210_1 : zP1 210 1 = some (.istore_n 1, 0, 0, 0) := zp_l zq_210 rfl
theorem p_210_2 : zP1 210 2 = some (.iload_n 1, 0, 0, 0) := zp_l zq_210 rfl
theorem p_210_3 : zP1 210 3 = some (.aload_n 0, 0, 0, 0) := zp_l zq_210 rfl
theorem p_210_4 : zP1 210 4 = some (.getfield 9, 11, 0, 0) := zp_r zq_210 rfl
theorem p_210_7 : zP1 210 7 = some (.iconst 2, 0, 0, 0) := zp_l zq_210 rfl
theorem p_210_8 : zP1 210 8 = some (.iaload, 0, 0, 0) := zp_l zq_210 rfl
theorem p_210_9 : zP1 210 9 = some (.if_icmp .ge 63, 0, 0, 0) := zp_l zq_210 rfl
theorem p_210_12 : zP1 210 12 = some (.aload_n 0, 0, 0, 0) := zp_l zq_210 rfl
theorem p_210_13 : zP1 210 13 = some (.getfield 121, 11, 12, 0) := zp_r zq_210 rfl
theorem p_210_16 : zP1 210 16 = some (.ifCond .ne 56, 0, 0, 0) := zp_l zq_210 rfl
theorem p_210_19 : zP1 210 19 = some (.aload_n 0, 0, 0, 0) := zp_l zq_210 rfl
theorem p_210_20 : zP1 210 20 = some (.aload_n 0, 0, 0, 0) := zp_l zq_210 rfl
theorem p_210_21 : zP1 210 21 = some (.getfield 9, 11, 0, 0) := zp_r zq_210 rfl
theorem p_210_24 : zP1 210 24 = some (.sipush 254, 0, 0, 0) := zp_l zq_210 rfl
theorem p_210_27 : zP1 210 27 = some (.iconst 2, 0, 0, 0) := zp_l zq_210 rfl
theorem p_210_28 : zP1 210 28 = some (.iload_n 1, 0, 0, 0) := zp_l zq_210 rfl
theorem p_210_29 : zP1 210 29 = some (.imul, 0, 0, 0) := zp_l zq_210 rfl
theorem p_210_30 : zP1 210 30 = some (.iadd, 0, 0, 0) := zp_l zq_210 rfl
theorem p_210_31 : zP1 210 31 = some (.iaload, 0, 0, 0) := zp_l zq_210 rfl
theorem p_210_32 : zP1 210 32 = some (.invokevirtual 125, 209, 1, 11) := zp_r zq_210 rfl
theorem p_210_35 : zP1 210 35 = some (.iconst 0, 0, 0, 0) := zp_l zq_210 rfl
theorem p_210_36 : zP1 210 36 = some (.istore_n 2, 0, 0, 0) := zp_l zq_210 rfl
theorem p_210_37 : zP1 210 37 = some (.iload_n 2, 0, 0, 0) := zp_l zq_210 rfl
theorem p_210_38 : zP1 210 38 = some (.bipush 100, 0, 0, 0) := zp_l zq_210 rfl
theorem p_210_40 : zP1 210 40 = some (.if_icmp .ge 26, 0, 0, 0) := zp_l zq_210 rfl
theorem p_210_43 : zP1 210 43 = some (.aload_n 0, 0, 0, 0) := zp_l zq_210 rfl
theorem p_210_44 : zP1 210 44 = some (.getfield 35, 11, 11, 0) := zp_r zq_210 rfl
theorem p_210_47 : zP1 210 47 = some (.bipush 100, 0, 0, 0) := zp_l zq_210 rfl
theorem p_210_49 : zP1 210 49 = some (.iload_n 1, 0, 0, 0) := zp_l zq_210 rfl
theorem p_210_50 : zP1 210 50 = some (.imul, 0, 0, 0) := zp_l zq_210 rfl
theorem p_210_51 : zP1 210 51 = some (.iload_n 2, 0, 0, 0) := zp_l zq_210 rfl
theorem p_210_52 : zP1 210 52 = some (.iadd, 0, 0, 0) := zp_l zq_210 rfl
theorem p_210_53 : zP1 210 53 = some (.aload_n 0, 0, 0, 0) := zp_l zq_210 rfl
theorem p_210_54 : zP1 210 54 = some (.getfield 29, 11, 9, 0) := zp_r zq_210 rfl
theorem p_210_57 : zP1 210 57 = some (.iload_n 2, 0, 0, 0) := zp_l zq_210 rfl
theorem p_210_58 : zP1 210 58 = some (.iaload, 0, 0, 0) := zp_l zq_210 rfl
theorem p_210_59 : zP1 210 59 = some (.iastore, 0, 0, 0) := zp_l zq_210 rfl
theorem p_210_60 : zP1 210 60 = some (.iinc 2 1, 0, 0, 0) := zp_l zq_210 rfl
theorem p_210_63 : zP1 210 63 = some (.goto (-26), 0, 0, 0) := zp_l zq_210 rfl
theorem p_210_66 : zP1 210 66 = some (.iinc 1 1, 0, 0, 0) := zp_l zq_210 rfl
theorem p_210_69 : zP1 210 69 = some (.goto (-67), 0, 0, 0) := zp_l zq_210 rfl
theorem p_210_72 : zP1 210 72 = some (.aload_n 0, 0, 0, 0) := zp_l zq_210 rfl
theorem p_210_73 : zP1 210 73 = some (.iconst 1, 0, 0, 0) := zp_l zq_210 rfl
theorem p_210_74 : zP1 210 74 = some (.putfield 121, 11, 12, 1) := zp_r zq_210 rfl
theorem p_210_77 : zP1 210 77 = some (.return_, 0, 0, 0) := zp_l zq_210 rfl
theorem b_210_0 : Z e (d + 1) 210 0 [.ref 246, .retAddr 0, .retAddr 0] [] m = Z e (d + 1) 210 2 [.ref 246, .int (iI 0), .retAddr 0] [] m := (s_const p_210_0).trans <| (s_is_1 cat_r p_210_1).trans <| rfl
theorem b_210_2 {x1 : Int} {u2 : Value} : Z e (d + 1) 210 2 [.ref 246, .int (iI x1), u2] [] m = (if ((wr x1) < (wr (m 247 2))) ∧ ((wr (m 246 12)) = 0) then ck (0 ≤ (wr (254 + (2 * x1))) ∧ (wr (254 + (2 * x1))) < 2737) ((Z e d 209 0 [.ref 246, .int (iI (m 247 (wr (254 + (2 * x1))))), .retAddr 0, .retAddr 0, .retAddr 0, .retAddr 0] [] m).bind (ZK e (d + 1) 210 35 [.ref 246, .int (iI x1), u2] [] m)) else rn (um m 246 12 1)) := (s_il_1 p_210_2).trans <| (s_al_0 p_210_3).trans <| (s_getr p_210_4 hs_246 (by decide) rfl).trans <| (s_const p_210_7).trans <| (s_aldc p_210_8 hs_247 (by decide) wl_2 (by decide)).trans <| Eq.trans (Eq.trans (s_c_ge_f p_210_9 rfl rfl rfl) <| Eq.trans (ite_cg ((s_al_0 p_210_12).trans <| (s_get p_210_13 hs_246 (by decide) rfl).trans <| (s_z_ne_f p_210_16 rfl rfl)) rfl) co_and) <| ite_cg ((s_al_0 p_210_19).trans <| (s_al_0 p_210_20).trans <| (s_getr p_210_21 hs_246 (by decide) rfl).trans <| (s_sip p_210_24 rfl).trans <| (s_const p_210_27).trans <| (s_il_1 p_210_28).trans <| (s_imul p_210_29).trans <| (s_iadd p_210_30).trans <| (s_ald 2737 p_210_31 hs_247 rfl (by decide)).trans <| ck_cg fun k2 => (s_cv1 (Lc := [.ref 246, .int (iI (m 247 (wr (254 + (2 * x1))))), .retAddr 0, .retAddr 0, .retAddr 0, .retAddr 0]) p_210_32 (by decide) (by decide) (zM_of zq_209) ⟨Nat.le_of_ble_eq_true rfl, Nat.le_of_ble_eq_true rfl⟩ rfl (m_rc hs_246 ⟨rfl, by decide⟩))) ((s_al_0 p_210_72).trans <| (s_const p_210_73).trans <| (s_putk p_210_74 rfl hs_246 (by decide) rfl).trans <| (s_retv p_210_77 (zM_of zq_210)))
theorem b_210_37 {x1 : Int} {x2 : Int} : Z e (d + 1) 210 37 [.ref 246, .int (iI x1), .int (iI x2)] [] m = (if (wr x2) < 100 then ck (0 ≤ (wr x2) ∧ (wr x2) < 100) (ck (0 ≤ (wr ((100 * x1) + x2)) ∧ (wr ((100 * x1) + x2)) < 600) (Z e (d + 1) 210 37 [.ref 246, .int (iI x1), .int (iI (x2 + 1))] [] (um m 254 (wr ((100 * x1) + x2)) (m 252 (wr x2))))) else Z e (d + 1) 210 2 [.ref 246, .int (iI (x1 + 1)), .int (iI x2)] [] m) := (s_il_2 p_210_37).trans <| (s_bip p_210_38 rfl).trans <| Eq.trans ((s_c_ge_f p_210_40 rfl rfl wl_100)) <| ite_cg ((s_al_0 p_210_43).trans <| (s_getr p_210_44 hs_246 (by decide) rfl).trans <| (s_bip p_210_47 rfl).trans <| (s_il_1 p_210_49).trans <| (s_imul p_210_50).trans <| (s_il_2 p_210_51).trans <| (s_iadd p_210_52).trans <| (s_al_0 p_210_53).trans <| (s_getr p_210_54 hs_246 (by decide) rfl).trans <| (s_il_2 p_210_57).trans <| (s_ald 100 p_210_58 hs_252 rfl (by decide)).trans <| ck_cg fun k2 => (s_ast 600 p_210_59 hs_254 rfl).trans <| ck_cg fun k3 => (s_inc_2 cat_i p_210_60).trans <| (s_goto p_210_63 rfl).trans <| rfl) ((s_inc_1 cat_r p_210_66).trans <| (s_goto p_210_69 rfl).trans <| rfl)
theorem b_210_35 {x1 : Int} {u2 : Value} : Z e (d + 1) 210 35 [.ref 246, .int (iI x1), u2] [] m = Z e (d + 1) 210 37 [.ref 246, .int (iI x1), .int (iI 0)] [] m := (s_const p_210_35).trans <| (s_is_2 cat_i p_210_36).trans <| rfl
-- M.isTaken
theorem p_211_0 : zP1 211 0 = some (.iconst 0, 0, 0, 0) := zp_l zq_211 rfl
theorem p_211_1 : zP1 211 1 = some (.istore_n 2, 0, 0, 0) := zp_l zq_211 rfl
theorem p_211_2 : zP1 211 2 = some (.iconst 0, 0, 0, 0) := zp_l zq_211 rfl
theorem p_211_3 : zP1 211 3 = some (.istore_n 3, 0, 0, 0) := zp_l zq_211 rfl
theorem p_211_4 : zP1 211 4 = some (.iload_n 3, 0, 0, 0) := zp_l zq_211 rfl
theorem p_211_5 : zP1 211 5 = some (.aload_n 0, 0, 0, 0) := zp_l zq_211 rfl
theorem p_211_6 : zP1 211 6 = some (.getfield 9, 11, 0, 0) := zp_r zq_211 rfl
theorem p_211_9 : zP1 211 9 = some (.iconst 1, 0, 0, 0) := zp_l zq_211 rfl
theorem p_211_10 : zP1 211 10 = some (.iaload, 0, 0, 0) := zp_l zq_211 rfl
theorem p_211_11 : zP1 211 11 = some (.if_icmp .ge 33, 0, 0, 0) := zp_l zq_211 rfl
theorem p_211_14 : zP1 211 14 = some (.iload_n 2, 0, 0, 0) := zp_l zq_211 rfl
theorem p_211_15 : zP1 211 15 = some (.ifCond .ne 17, 0, 0, 0) := zp_l zq_211 rfl
theorem p_211_18 : zP1 211 18 = some (.aload_n 0, 0, 0, 0) := zp_l zq_211 rfl
theorem p_211_19 : zP1 211 19 = some (.getfield 9, 11, 0, 0) := zp_r zq_211 rfl
theorem p_211_22 : zP1 211 22 = some (.iload_n 3, 0, 0, 0) := zp_l zq_211 rfl
theorem p_211_23 : zP1 211 23 = some (.iconst 0, 0, 0, 0) := zp_l zq_211 rfl
theorem p_211_24 : zP1 211 24 = some (.invokestatic 129, 204, 2, 0) := zp_r zq_211 rfl
theorem p_211_27 : zP1 211 27 = some (.iaload, 0, 0, 0) := zp_l zq_211 rfl
theorem p_211_28 : zP1 211 28 = some (.iload_n 1, 0, 0, 0) := zp_l zq_211 rfl
theorem p_211_29 : zP1 211 29 = some (.if_icmp .ne 7, 0, 0, 0) := zp_l zq_211 rfl
theorem p_211_32 : zP1 211 32 = some (.iconst 1, 0, 0, 0) := zp_l zq_211 rfl
theorem p_211_33 : zP1 211 33 = some (.goto 4, 0, 0, 0) := zp_l zq_211 rfl
theorem p_211_36 : zP1 211 36 = some (.iconst 0, 0, 0, 0) := zp_l zq_211 rfl
theorem p_211_37 : zP1 211 37 = some (.istore_n 2, 0, 0, 0) := zp_l zq_211 rfl
theorem p_211_38 : zP1 211 38 = some (.iinc 3 1, 0, 0, 0) := zp_l zq_211 rfl
theorem p_211_41 : zP1 211 41 = some (.goto (-37), 0, 0, 0) := zp_l zq_211 rfl
theorem p_211_44 : zP1 211 44 = some (.iconst 0, 0, 0, 0) := zp_l zq_211 rfl
theorem p_211_45 : zP1 211 45 = some (.istore_n 3, 0, 0, 0) := zp_l zq_211 rfl
theorem p_211_46 : zP1 211 46 = some (.iload_n 3, 0, 0, 0) := zp_l zq_211 rfl
theorem p_211_47 : zP1 211 47 = some (.aload_n 0, 0, 0, 0) := zp_l zq_211 rfl
theorem p_211_48 : zP1 211 48 = some (.getfield 9, 11, 0, 0) := zp_r zq_211 rfl
theorem p_211_51 : zP1 211 51 = some (.iconst 2, 0, 0, 0) := zp_l zq_211 rfl
theorem p_211_52 : zP1 211 52 = some (.iaload, 0, 0, 0) := zp_l zq_211 rfl
theorem p_211_53 : zP1 211 53 = some (.if_icmp .ge 35, 0, 0, 0) := zp_l zq_211 rfl
theorem p_211_56 : zP1 211 56 = some (.iload_n 2, 0, 0, 0) := zp_l zq_211 rfl
theorem p_211_57 : zP1 211 57 = some (.ifCond .ne 19, 0, 0, 0) := zp_l zq_211 rfl
theorem p_211_60 : zP1 211 60 = some (.aload_n 0, 0, 0, 0) := zp_l zq_211 rfl
theorem p_211_61 : zP1 211 61 = some (.getfield 9, 11, 0, 0) := zp_r zq_211 rfl
theorem p_211_64 : zP1 211 64 = some (.sipush 254, 0, 0, 0) := zp_l zq_211 rfl
theorem p_211_67 : zP1 211 67 = some (.iconst 2, 0, 0, 0) := zp_l zq_211 rfl
theorem p_211_68 : zP1 211 68 = some (.iload_n 3, 0, 0, 0) := zp_l zq_211 rfl
theorem p_211_69 : zP1 211 69 = some (.imul, 0, 0, 0) := zp_l zq_211 rfl
theorem p_211_70 : zP1 211 70 = some (.iadd, 0, 0, 0) := zp_l zq_211 rfl
theorem p_211_71 : zP1 211 71 = some (.iaload, 0, 0, 0) := zp_l zq_211 rfl
theorem p_211_72 : zP1 211 72 = some (.iload_n 1, 0, 0, 0) := zp_l zq_211 rfl
theorem p_211_73 : zP1 211 73 = some (.if_icmp .ne 7, 0, 0, 0) := zp_l zq_211 rfl
theorem p_211_76 : zP1 211 76 = some (.iconst 1, 0, 0, 0) := zp_l zq_211 rfl
theorem p_211_77 : zP1 211 77 = some (.goto 4, 0, 0, 0) := zp_l zq_211 rfl
theorem p_211_80 : zP1 211 80 = some (.iconst 0, 0, 0, 0) := zp_l zq_211 rfl
theorem p_211_81 : zP1 211 81 = some (.istore_n 2, 0, 0, 0) := zp_l zq_211 rfl
theorem p_211_82 : zP1 211 82 = some (.iinc 3 1, 0, 0, 0) := zp_l zq_211 rfl
theorem p_211_85 : zP1 211 85 = some (.goto (-39), 0, 0, 0) := zp_l zq_211 rfl
theorem p_211_88 : zP1 211 88 = some (.iconst 0, 0, 0, 0) := zp_l zq_211 rfl
theorem p_211_89 : zP1 211 89 = some (.istore_n 3, 0, 0, 0) := zp_l zq_211 rfl
theorem p_211_90 : zP1 211 90 = some (.iload_n 3, 0, 0, 0) := zp_l zq_211 rfl
theorem p_211_91 : zP1 211 91 = some (.aload_n 0, 0, 0, 0) := zp_l zq_211 rfl
theorem p_211_92 : zP1 211 92 = some (.getfield 9, 11, 0, 0) := zp_r zq_211 rfl
theorem p_211_95 : zP1 211 95 = some (.bipush 6, 0, 0, 0) := zp_l zq_211 rfl
theorem p_211_97 : zP1 211 97 = some (.iaload, 0, 0, 0) := zp_l zq_211 rfl
theorem p_211_98 : zP1 211 98 = some (.if_icmp .ge 35, 0, 0, 0) := zp_l zq_211 rfl
theorem p_211_101 : zP1 211 101 = some (.iload_n 2, 0, 0, 0) := zp_l zq_211 rfl
theorem p_211_102 : zP1 211 102 = some (.ifCond .ne 19, 0, 0, 0) := zp_l zq_211 rfl
theorem p_211_105 : zP1 211 105 = some (.aload_n 0, 0, 0, 0) := zp_l zq_211 rfl
theorem p_211_106 : zP1 211 106 = some (.getfield 9, 11, 0, 0) := zp_r zq_211 rfl
theorem p_211_109 : zP1 211 109 = some (.sipush 1050, 0, 0, 0) := zp_l zq_211 rfl
theorem p_211_112 : zP1 211 112 = some (.iconst 4, 0, 0, 0) := zp_l zq_211 rfl
theorem p_211_113 : zP1 211 113 = some (.iload_n 3, 0, 0, 0) := zp_l zq_211 rfl
theorem p_211_114 : zP1 211 114 = some (.imul, 0, 0, 0) := zp_l zq_211 rfl
theorem p_211_115 : zP1 211 115 = some (.iadd, 0, 0, 0) := zp_l zq_211 rfl
theorem p_211_116 : zP1 211 116 = some (.iaload, 0, 0, 0) := zp_l zq_211 rfl
theorem p_211_117 : zP1 211 117 = some (.iload_n 1, 0, 0, 0) := zp_l zq_211 rfl
theorem p_211_118 : zP1 211 118 = some (.if_icmp .ne 7, 0, 0, 0) := zp_l zq_211 rfl
theorem p_211_121 : zP1 211 121 = some (.iconst 1, 0, 0, 0) := zp_l zq_211 rfl
theorem p_211_122 : zP1 211 122 = some (.goto 4, 0, 0, 0) := zp_l zq_211 rfl
theorem p_211_125 : zP1 211 125 = some (.iconst 0, 0, 0, 0) := zp_l zq_211 rfl
theorem p_211_126 : zP1 211 126 = some (.istore_n 2, 0, 0, 0) := zp_l zq_211 rfl
theorem p_211_127 : zP1 211 127 = some (.iinc 3 1, 0, 0, 0) := zp_l zq_211 rfl
theorem p_211_130 : zP1 211 130 = some (.goto (-40), 0, 0, 0) := zp_l zq_211 rfl
theorem p_211_133 : zP1 211 133 = some (.iload_n 2, 0, 0, 0) := zp_l zq_211 rfl
theorem p_211_134 : zP1 211 134 = some (.ireturn, 0, 0, 0) := zp_l zq_211 rfl
theorem b_211_0 {x1 : Int} : Z e (d + 1) 211 0 [.ref 246, .int (iI x1), .retAddr 0, .retAddr 0] [] m = Z e (d + 1) 211 4 [.ref 246, .int (iI x1), .int (iI 0), .int (iI 0)] [] m := (s_const p_211_0).trans <| (s_is_2 cat_i p_211_1).trans <| (s_const p_211_2).trans <| (s_is_3 cat_i p_211_3).trans <| rfl
theorem b_211_4 {x1 : Int} {x2 : Int} {x3 : Int} : Z e (d + 1) 211 4 [.ref 246, .int (iI x1), .int (iI x2), .int (iI x3)] [] m = (if (wr x3) < (wr (m 247 1)) then ck ((¬ (¬ (wr x2) = 0)) → (0 ≤ (wr ((110 + (9 * x3)) + 0)) ∧ (wr ((110 + (9 * x3)) + 0)) < 2737)) (Z e (d + 1) 211 4 [.ref 246, .int (iI x1), .int (iI (if (¬ (wr x2) = 0) ∨ ((wr (m 247 (wr ((110 + (9 * x3)) + 0)))) = (wr x1)) then 1 else 0)), .int (iI (x3 + 1))] [] m) else Z e (d + 1) 211 46 [.ref 246, .int (iI x1), .int (iI x2), .int (iI 0)] [] m) := (s_il_3 p_211_4).trans <| (s_al_0 p_211_5).trans <| (s_getr p_211_6 hs_246 (by decide) rfl).trans <| (s_const p_211_9).trans <| (s_aldc p_211_10 hs_247 (by decide) wl_1 (by decide)).trans <| Eq.trans ((s_c_ge_f p_211_11 rfl rfl rfl)) <| ite_cg ((s_il_2 p_211_14).trans <| Eq.trans (Eq.trans (Eq.trans (s_z_ne_t p_211_15 rfl rfl) <| Eq.trans (ite_cg rfl ((s_al_0 p_211_18).trans <| (s_getr p_211_19 hs_246 (by decide) rfl).trans <| (s_il_3 p_211_22).trans <| (s_const p_211_23).trans <| (s_cs2 (Lc := [.int (iI x3), .int (iI 0)]) p_211_24 (by decide) (zM_of zq_204) ⟨Nat.le_of_ble_eq_true rfl, Nat.le_of_ble_eq_true rfl⟩ rfl).trans <| (bd b_204_0).trans <| ri_k.trans <| (s_ald 2737 p_211_27 hs_247 rfl (by decide)).trans <| ck_cg fun k2 => (s_il_1 p_211_28).trans <| (s_c_ne_f p_211_29 rfl rfl rfl))) <| Eq.trans ck_b <| ck_cg fun _ => co_or) <| ck_cg fun _ => Eq.trans (ite_cg ((s_const p_211_32).trans <| (s_goto p_211_33 rfl).trans <| rfl) ((s_const p_211_36).trans <| rfl)) (phi1 (fun z0 => Z e (d + 1) 211 37 [.ref 246, .int (iI x1), .int (iI x2), .int (iI x3)] [.int (iI z0)] m))) <| ck_cg fun _ => (s_is_2 cat_i p_211_37).trans <| (s_inc_3 cat_i p_211_38).trans <| (s_goto p_211_41 rfl).trans <| rfl) ((s_const p_211_44).trans <| (s_is_3 cat_i p_211_45).trans <| rfl)
theorem b_211_46 {x1 : Int} {x2 : Int} {x3 : Int} : Z e (d + 1) 211 46 [.ref 246, .int (iI x1), .int (iI x2), .int (iI x3)] [] m = (if (wr x3) < (wr (m 247 2)) then ck ((¬ (¬ (wr x2) = 0)) → (0 ≤ (wr (254 + (2 * x3))) ∧ (wr (254 + (2 * x3))) < 2737)) (Z e (d + 1) 211 46 [.ref 246, .int (iI x1), .int (iI (if (¬ (wr x2) = 0) ∨ ((wr (m 247 (wr (254 + (2 * x3))))) = (wr x1)) then 1 else 0)), .int (iI (x3 + 1))] [] m) else Z e (d + 1) 211 90 [.ref 246, .int (iI x1), .int (iI x2), .int (iI 0)] [] m) := (s_il_3 p_211_46).trans <| (s_al_0 p_211_47).trans <| (s_getr p_211_48 hs_246 (by decide) rfl).trans <| (s_const p_211_51).trans <| (s_aldc p_211_52 hs_247 (by decide) wl_2 (by decide)).trans <| Eq.trans ((s_c_ge_f p_211_53 rfl rfl rfl)) <| ite_cg ((s_il_2 p_211_56).trans <| Eq.trans (Eq.trans (Eq.trans (s_z_ne_t p_211_57 rfl rfl) <| Eq.trans (ite_cg rfl ((s_al_0 p_211_60).trans <| (s_getr p_211_61 hs_246 (by decide) rfl).trans <| (s_sip p_211_64 rfl).trans <| (s_const p_211_67).trans <| (s_il_3 p_211_68).trans <| (s_imul p_211_69).trans <| (s_iadd p_211_70).trans <| (s_ald 2737 p_211_71 hs_247 rfl (by decide)).trans <| ck_cg fun k2 => (s_il_1 p_211_72).trans <| (s_c_ne_f p_211_73 rfl rfl rfl))) <| Eq.trans ck_b <| ck_cg fun _ => co_or) <| ck_cg fun _ => Eq.trans (ite_cg ((s_const p_211_76).trans <| (s_goto p_211_77 rfl).trans <| rfl) ((s_const p_211_80).trans <| rfl)) (phi1 (fun z0 => Z e (d + 1) 211 81 [.ref 246, .int (iI x1), .int (iI x2), .int (iI x3)] [.int (iI z0)] m))) <| ck_cg fun _ => (s_is_2 cat_i p_211_81).trans <| (s_inc_3 cat_i p_211_82).trans <| (s_goto p_211_85 rfl).trans <| rfl) ((s_const p_211_88).trans <| (s_is_3 cat_i p_211_89).trans <| rfl)
theorem b_211_90 {x1 : Int} {x2 : Int} {x3 : Int} : Z e (d + 1) 211 90 [.ref 246, .int (iI x1), .int (iI x2), .int (iI x3)] [] m = (if (wr x3) < (wr (m 247 6)) then ck ((¬ (¬ (wr x2) = 0)) → (0 ≤ (wr (1050 + (4 * x3))) ∧ (wr (1050 + (4 * x3))) < 2737)) (Z e (d + 1) 211 90 [.ref 246, .int (iI x1), .int (iI (if (¬ (wr x2) = 0) ∨ ((wr (m 247 (wr (1050 + (4 * x3))))) = (wr x1)) then 1 else 0)), .int (iI (x3 + 1))] [] m) else ck (nbp x2) (ri x2 m)) := (s_il_3 p_211_90).trans <| (s_al_0 p_211_91).trans <| (s_getr p_211_92 hs_246 (by decide) rfl).trans <| (s_bip p_211_95 rfl).trans <| (s_aldc p_211_97 hs_247 (by decide) wl_6 (by decide)).trans <| Eq.trans ((s_c_ge_f p_211_98 rfl rfl rfl)) <| ite_cg ((s_il_2 p_211_101).trans <| Eq.trans (Eq.trans (Eq.trans (s_z_ne_t p_211_102 rfl rfl) <| Eq.trans (ite_cg rfl ((s_al_0 p_211_105).trans <| (s_getr p_211_106 hs_246 (by decide) rfl).trans <| (s_sip p_211_109 rfl).trans <| (s_const p_211_112).trans <| (s_il_3 p_211_113).trans <| (s_imul p_211_114).trans <| (s_iadd p_211_115).trans <| (s_ald 2737 p_211_116 hs_247 rfl (by decide)).trans <| ck_cg fun k2 => (s_il_1 p_211_117).trans <| (s_c_ne_f p_211_118 rfl rfl rfl))) <| Eq.trans ck_b <| ck_cg fun _ => co_or) <| ck_cg fun _ => Eq.trans (ite_cg ((s_const p_211_121).trans <| (s_goto p_211_122 rfl).trans <| rfl) ((s_const p_211_125).trans <| rfl)) (phi1 (fun z0 => Z e (d + 1) 211 126 [.ref 246, .int (iI x1), .int (iI x2), .int (iI x3)] [.int (iI z0)] m))) <| ck_cg fun _ => (s_is_2 cat_i p_211_126).trans <| (s_inc_3 cat_i p_211_127).trans <| (s_goto p_211_130 rfl).trans <| rfl) ((s_il_2 p_211_133).trans <| (s_retx p_211_134 (zM_of zq_211)))
-- M.ground
theorem p_212_0 : zP1 212 0 = some (.iload_n 1, 0, 0, 0) := zp_l zq_212 rfl
theorem p_212_1 : zP1 212 1 = some (.invokestatic 110, 200, 1, 0) := zp_r zq_212 rfl
theorem p_212_4 : zP1 212 4 = some (.ifCond .eq 12, 0, 0, 0) := zp_l zq_212 rfl
theorem p_212_7 : zP1 212 7 = some (.iload_n 2, 0, 0, 0) := zp_l zq_212 rfl
theorem p_212_8 : zP1 212 8 = some (.iconst 0, 0, 0, 0) := zp_l zq_212 rfl
theorem p_212_9 : zP1 212 9 = some (.iconst 3, 0, 0, 0) := zp_l zq_212 rfl
theorem p_212_10 : zP1 212 10 = some (.invokestatic 100, 199, 3, 0) := zp_r zq_212 rfl
theorem p_212_13 : zP1 212 13 = some (.ifCond .ne 5, 0, 0, 0) := zp_l zq_212 rfl
theorem p_212_16 : zP1 212 16 = some (.iconst (-1), 0, 0, 0) := zp_l zq_212 rfl
theorem p_212_17 : zP1 212 17 = some (.ireturn, 0, 0, 0) := zp_l zq_212 rfl
theorem p_212_18 : zP1 212 18 = some (.iload_n 2, 0, 0, 0) := zp_l zq_212 rfl
theorem p_212_19 : zP1 212 19 = some (.iconst 1, 0, 0, 0) := zp_l zq_212 rfl
theorem p_212_20 : zP1 212 20 = some (.if_icmp .ne 14, 0, 0, 0) := zp_l zq_212 rfl
theorem p_212_23 : zP1 212 23 = some (.aload_n 0, 0, 0, 0) := zp_l zq_212 rfl
theorem p_212_24 : zP1 212 24 = some (.iload_n 1, 0, 0, 0) := zp_l zq_212 rfl
theorem p_212_25 : zP1 212 25 = some (.invokevirtual 132, 211, 1, 11) := zp_r zq_212 rfl
theorem p_212_28 : zP1 212 28 = some (.ifCond .eq 6, 0, 0, 0) := zp_l zq_212 rfl
theorem p_212_31 : zP1 212 31 = some (.bipush (-4), 0, 0, 0) := zp_l zq_212 rfl
theorem p_212_33 : zP1 212 33 = some (.ireturn, 0, 0, 0) := zp_l zq_212 rfl
theorem p_212_34 : zP1 212 34 = some (.aload_n 0, 0, 0, 0) := zp_l zq_212 rfl
theorem p_212_35 : zP1 212 35 = some (.getfield 9, 11, 0, 0) := zp_r zq_212 rfl
theorem p_212_38 : zP1 212 38 = some (.bipush 10, 0, 0, 0) := zp_l zq_212 rfl
theorem p_212_40 : zP1 212 40 = some (.iload_n 1, 0, 0, 0) := zp_l zq_212 rfl
theorem p_212_41 : zP1 212 41 = some (.iadd, 0, 0, 0) := zp_l zq_212 rfl
theorem p_212_42 : zP1 212 42 = some (.iaload, 0, 0, 0) := zp_l zq_212 rfl
theorem p_212_43 : zP1 212 43 = some (.istore_n 3, 0, 0, 0) := zp_l zq_212 rfl
theorem p_212_44 : zP1 212 44 = some (.aload_n 0, 0, 0, 0) := zp_l zq_212 rfl
theorem p_212_45 : zP1 212 45 = some (.getfield 9, 11, 0, 0) := zp_r zq_212 rfl
theorem p_212_48 : zP1 212 48 = some (.bipush 10, 0, 0, 0) := zp_l zq_212 rfl
theorem p_212_50 : zP1 212 50 = some (.iload_n 1, 0, 0, 0) := zp_l zq_212 rfl
theorem p_212_51 : zP1 212 51 = some (.iadd, 0, 0, 0) := zp_l zq_212 rfl
theorem p_212_52 : zP1 212 52 = some (.iload_n 2, 0, 0, 0) := zp_l zq_212 rfl
theorem p_212_53 : zP1 212 53 = some (.iastore, 0, 0, 0) := zp_l zq_212 rfl
theorem p_212_54 : zP1 212 54 = some (.aload_n 0, 0, 0, 0) := zp_l zq_212 rfl
theorem p_212_55 : zP1 212 55 = some (.iconst 0, 0, 0, 0) := zp_l zq_212 rfl
theorem p_212_56 : zP1 212 56 = some (.putfield 121, 11, 12, 1) := zp_r zq_212 rfl
theorem p_212_59 : zP1 212 59 = some (.iload_n 3, 0, 0, 0) := zp_l zq_212 rfl
theorem p_212_60 : zP1 212 60 = some (.ireturn, 0, 0, 0) := zp_l zq_212 rfl
theorem b_212_0 {x1 : Int} {x2 : Int} : Z e (d + 2) 212 0 [.ref 246, .int (iI x1), .int (iI x2), .retAddr 0] [] m = (if (¬ (((wr 0) ≤ (wr x1)) ∧ ((wr x1) ≤ (wr 99)))) ∨ (¬ (((wr 0) ≤ (wr x2)) ∧ ((wr x2) ≤ (wr 3)))) then ri (-1) m else (if (wr x2) = 1 then (Z e (d + 1) 211 0 [.ref 246, .int (iI x1), .retAddr 0, .retAddr 0] [] m).bind (ZK e (d + 2) 212 28 [.ref 246, .int (iI x1), .int (iI x2), .retAddr 0] [] m) else ck (0 ≤ (wr (10 + x1)) ∧ (wr (10 + x1)) < 2737) (ck (0 ≤ (wr (10 + x1)) ∧ (wr (10 + x1)) < 2737) (ri (m 247 (wr (10 + x1))) (um (um m 247 (wr (10 + x1)) x2) 246 12 0))))) := (s_il_1 p_212_0).trans <| (s_cs1 (Lc := [.int (iI x1)]) p_212_1 (by decide) (zM_of zq_200) ⟨Nat.le_of_ble_eq_true rfl, Nat.le_of_ble_eq_true rfl⟩ rfl).trans <| (bd b_200_0).trans <| ri_k.trans <| Eq.trans (Eq.trans (s_beq_t p_212_4 rfl) <| Eq.trans (ite_cg rfl ((s_il_2 p_212_7).trans <| (s_const p_212_8).trans <| (s_const p_212_9).trans <| (s_cs3 (Lc := [.int (iI x2), .int (iI 0), .int (iI 3)]) p_212_10 (by decide) (zM_of zq_199) ⟨Nat.le_of_ble_eq_true rfl, Nat.le_of_ble_eq_true rfl⟩ rfl).trans <| (bd b_199_0).trans <| ri_k.trans <| (s_bne_f p_212_13 rfl))) co_or) <| ite_cg ((s_const p_212_16).trans <| (s_reti p_212_17 (zM_of zq_212))) ((s_il_2 p_212_18).trans <| (s_const p_212_19).trans <| Eq.trans ((s_c_ne_f p_212_20 rfl rfl wl_1)) <| ite_cg ((s_al_0 p_212_23).trans <| (s_il_1 p_212_24).trans <| (s_cv1 (Lc := [.ref 246, .int (iI x1), .retAddr 0, .retAddr 0]) p_212_25 (by decide) (by decide) (zM_of zq_211) ⟨Nat.le_of_ble_eq_true rfl, Nat.le_of_ble_eq_true rfl⟩ rfl (m_rc hs_246 ⟨rfl, by decide⟩))) ((s_al_0 p_212_34).trans <| (s_getr p_212_35 hs_246 (by decide) rfl).trans <| (s_bip p_212_38 rfl).trans <| (s_il_1 p_212_40).trans <| (s_iadd p_212_41).trans <| (s_ald 2737 p_212_42 hs_247 rfl (by decide)).trans <| ck_cg fun k1 => (s_is_3 cat_i p_212_43).trans <| (s_al_0 p_212_44).trans <| (s_getr p_212_45 hs_246 (by decide) rfl).trans <| (s_bip p_212_48 rfl).trans <| (s_il_1 p_212_50).trans <| (s_iadd p_212_51).trans <| (s_il_2 p_212_52).trans <| (s_ast 2737 p_212_53 hs_247 rfl).trans <| ck_cg fun k2 => (s_al_0 p_212_54).trans <| (s_const p_212_55).trans <| (s_putk p_212_56 rfl hs_246 (by decide) rfl).trans <| (s_il_3 p_212_59).trans <| (s_reti p_212_60 (zM_of zq_212))))
theorem b_212_28 {x1 : Int} {x2 : Int} {xs0 : Int} {u3 : Value} : Z e (d + 2) 212 28 [.ref 246, .int (iI x1), .int (iI x2), u3] [.int (iI xs0)] m = (if ¬ (wr xs0) = 0 then ri (-4) m else ck (0 ≤ (wr (10 + x1)) ∧ (wr (10 + x1)) < 2737) (ck (0 ≤ (wr (10 + x1)) ∧ (wr (10 + x1)) < 2737) (ri (m 247 (wr (10 + x1))) (um (um m 247 (wr (10 + x1)) x2) 246 12 0)))) := Eq.trans ((s_z_eq_f p_212_28 rfl rfl)) <| ite_cg ((s_bip p_212_31 rfl).trans <| (s_reti p_212_33 (zM_of zq_212))) ((s_al_0 p_212_34).trans <| (s_getr p_212_35 hs_246 (by decide) rfl).trans <| (s_bip p_212_38 rfl).trans <| (s_il_1 p_212_40).trans <| (s_iadd p_212_41).trans <| (s_ald 2737 p_212_42 hs_247 rfl (by decide)).trans <| ck_cg fun k1 => (s_is_3 cat_i p_212_43).trans <| (s_al_0 p_212_44).trans <| (s_getr p_212_45 hs_246 (by decide) rfl).trans <| (s_bip p_212_48 rfl).trans <| (s_il_1 p_212_50).trans <| (s_iadd p_212_51).trans <| (s_il_2 p_212_52).trans <| (s_ast 2737 p_212_53 hs_247 rfl).trans <| ck_cg fun k2 => (s_al_0 p_212_54).trans <| (s_const p_212_55).trans <| (s_putk p_212_56 rfl hs_246 (by decide) rfl).trans <| (s_il_3 p_212_59).trans <| (s_reti p_212_60 (zM_of zq_212)))
-- M.between
theorem p_213_0 : zP1 213 0 = some (.iload_n 1, 0, 0, 0) := zp_l zq_213 rfl
theorem p_213_1 : zP1 213 1 = some (.invokestatic 110, 200, 1, 0) := zp_r zq_213 rfl
theorem p_213_4 : zP1 213 4 = some (.ifCond .eq 19, 0, 0, 0) := zp_l zq_213 rfl
theorem p_213_7 : zP1 213 7 = some (.iload_n 2, 0, 0, 0) := zp_l zq_213 rfl
theorem p_213_8 : zP1 213 8 = some (.invokestatic 110, 200, 1, 0) := zp_r zq_213 rfl
theorem p_213_11 : zP1 213 11 = some (.ifCond .eq 12, 0, 0, 0) := zp_l zq_213 rfl
theorem p_213_14 : zP1 213 14 = some (.iload_n 3, 0, 0, 0) := zp_l zq_213 rfl
theorem p_213_15 : zP1 213 15 = some (.iconst 0, 0, 0, 0) := zp_l zq_213 rfl
theorem p_213_16 : zP1 213 16 = some (.iconst 1, 0, 0, 0) := zp_l zq_213 rfl
theorem p_213_17 : zP1 213 17 = some (.invokestatic 100, 199, 3, 0) := zp_r zq_213 rfl
theorem p_213_20 : zP1 213 20 = some (.ifCond .ne 5, 0, 0, 0) := zp_l zq_213 rfl
theorem p_213_23 : zP1 213 23 = some (.iconst (-1), 0, 0, 0) := zp_l zq_213 rfl
theorem p_213_24 : zP1 213 24 = some (.ireturn, 0, 0, 0) := zp_l zq_213 rfl
theorem p_213_25 : zP1 213 25 = some (.iload_n 3, 0, 0, 0) := zp_l zq_213 rfl
theorem p_213_26 : zP1 213 26 = some (.iconst 1, 0, 0, 0) := zp_l zq_213 rfl
theorem p_213_27 : zP1 213 27 = some (.if_icmp .ne 9, 0, 0, 0) := zp_l zq_213 rfl
theorem p_213_30 : zP1 213 30 = some (.iload_n 1, 0, 0, 0) := zp_l zq_213 rfl
theorem p_213_31 : zP1 213 31 = some (.iload_n 2, 0, 0, 0) := zp_l zq_213 rfl
theorem p_213_32 : zP1 213 32 = some (.invokestatic 135, 206, 2, 0) := zp_r zq_213 rfl
theorem p_213_35 : zP1 213 35 = some (.ireturn, 0, 0, 0) := zp_l zq_213 rfl
theorem p_213_36 : zP1 213 36 = some (.aload_n 0, 0, 0, 0) := zp_l zq_213 rfl
theorem p_213_37 : zP1 213 37 = some (.iload_n 1, 0, 0, 0) := zp_l zq_213 rfl
theorem p_213_38 : zP1 213 38 = some (.invokevirtual 125, 209, 1, 11) := zp_r zq_213 rfl
theorem p_213_41 : zP1 213 41 = some (.aload_n 0, 0, 0, 0) := zp_l zq_213 rfl
theorem p_213_42 : zP1 213 42 = some (.getfield 29, 11, 9, 0) := zp_r zq_213 rfl
theorem p_213_45 : zP1 213 45 = some (.iload_n 2, 0, 0, 0) := zp_l zq_213 rfl
theorem p_213_46 : zP1 213 46 = some (.iaload, 0, 0, 0) := zp_l zq_213 rfl
theorem p_213_47 : zP1 213 47 = some (.sipush 1000, 0, 0, 0) := zp_l zq_213 rfl
theorem p_213_50 : zP1 213 50 = some (.if_icmp .ne 8, 0, 0, 0) := zp_l zq_213 rfl
theorem p_213_53 : zP1 213 53 = some (.bipush (-3), 0, 0, 0) := zp_l zq_213 rfl
theorem p_213_55 : zP1 213 55 = some (.goto 9, 0, 0, 0) := zp_l zq_213 rfl
theorem p_213_58 : zP1 213 58 = some (.aload_n 0, 0, 0, 0) := zp_l zq_213 rfl
theorem p_213_59 : zP1 213 59 = some (.getfield 29, 11, 9, 0) := zp_r zq_213 rfl
theorem p_213_62 : zP1 213 62 = some (.iload_n 2, 0, 0, 0) := zp_l zq_213 rfl
theorem p_213_63 : zP1 213 63 = some (.iaload, 0, 0, 0) := zp_l zq_213 rfl
theorem p_213_64 : zP1 213 64 = some (.ireturn, 0, 0, 0) := zp_l zq_213 rfl
theorem b_213_0 {x1 : Int} {x2 : Int} {x3 : Int} : Z e (d + 2) 213 0 [.ref 246, .int (iI x1), .int (iI x2), .int (iI x3)] [] m = (if (¬ (((wr 0) ≤ (wr x1)) ∧ ((wr x1) ≤ (wr 99)))) ∨ ((¬ (((wr 0) ≤ (wr x2)) ∧ ((wr x2) ≤ (wr 99)))) ∨ (¬ (((wr 0) ≤ (wr x3)) ∧ ((wr x3) ≤ (wr 1))))) then ri (-1) m else (if (wr x3) = 1 then ri (jfar x1 x2) m else (Z e (d + 1) 209 0 [.ref 246, .int (iI x1), .retAddr 0, .retAddr 0, .retAddr 0, .retAddr 0] [] m).bind (ZK e (d + 2) 213 41 [.ref 246, .int (iI x1), .int (iI x2), .int (iI x3)] [] m))) := (s_il_1 p_213_0).trans <| (s_cs1 (Lc := [.int (iI x1)]) p_213_1 (by decide) (zM_of zq_200) ⟨Nat.le_of_ble_eq_true rfl, Nat.le_of_ble_eq_true rfl⟩ rfl).trans <| (bd b_200_0).trans <| ri_k.trans <| Eq.trans (Eq.trans (s_beq_t p_213_4 rfl) <| Eq.trans (ite_cg rfl ((s_il_2 p_213_7).trans <| (s_cs1 (Lc := [.int (iI x2)]) p_213_8 (by decide) (zM_of zq_200) ⟨Nat.le_of_ble_eq_true rfl, Nat.le_of_ble_eq_true rfl⟩ rfl).trans <| (bd b_200_0).trans <| ri_k.trans <| Eq.trans (s_beq_t p_213_11 rfl) <| Eq.trans (ite_cg rfl ((s_il_3 p_213_14).trans <| (s_const p_213_15).trans <| (s_const p_213_16).trans <| (s_cs3 (Lc := [.int (iI x3), .int (iI 0), .int (iI 1)]) p_213_17 (by decide) (zM_of zq_199) ⟨Nat.le_of_ble_eq_true rfl, Nat.le_of_ble_eq_true rfl⟩ rfl).trans <| (bd b_199_0).trans <| ri_k.trans <| (s_bne_f p_213_20 rfl))) co_or)) co_or) <| ite_cg ((s_const p_213_23).trans <| (s_reti p_213_24 (zM_of zq_213))) ((s_il_3 p_213_25).trans <| (s_const p_213_26).trans <| Eq.trans ((s_c_ne_f p_213_27 rfl rfl wl_1)) <| ite_cg ((s_il_1 p_213_30).trans <| (s_il_2 p_213_31).trans <| (s_cs2 (Lc := [.int (iI x1), .int (iI x2)]) p_213_32 (by decide) (zM_of zq_206) ⟨Nat.le_of_ble_eq_true rfl, Nat.le_of_ble_eq_true rfl⟩ rfl).trans <| (bd b_206_0).trans <| ri_k.trans <| (s_reti p_213_35 (zM_of zq_213))) ((s_al_0 p_213_36).trans <| (s_il_1 p_213_37).trans <| (s_cv1 (Lc := [.ref 246, .int (iI x1), .retAddr 0, .retAddr 0, .retAddr 0, .retAddr 0]) p_213_38 (by decide) (by decide) (zM_of zq_209) ⟨Nat.le_of_ble_eq_true rfl, Nat.le_of_ble_eq_true rfl⟩ rfl (m_rc hs_246 ⟨rfl, by decide⟩))))
theorem b_213_41 {x2 : Int} {u1 u3 : Value} : Z e (d + 2) 213 41 [.ref 246, u1, .int (iI x2), u3] [] m = ck (0 ≤ (wr x2) ∧ (wr x2) < 100) (ck ((¬ ((wr (m 252 (wr x2))) = 1000)) → (0 ≤ (wr x2) ∧ (wr x2) < 100)) (ri (if (wr (m 252 (wr x2))) = 1000 then (-3) else (m 252 (wr x2))) m)) := (s_al_0 p_213_41).trans <| (s_getr p_213_42 hs_246 (by decide) rfl).trans <| (s_il_2 p_213_45).trans <| (s_ald 100 p_213_46 hs_252 rfl (by decide)).trans <| ck_cg fun k1 => (s_sip p_213_47 rfl).trans <| Eq.trans (Eq.trans ((s_c_ne_f p_213_50 rfl rfl wl_1000)) <| Eq.trans (ite_cg ((s_bip p_213_53 rfl).trans <| (s_goto p_213_55 rfl).trans <| rfl) ((s_al_0 p_213_58).trans <| (s_getr p_213_59 hs_246 (by decide) rfl).trans <| (s_il_2 p_213_62).trans <| (s_ald 100 p_213_63 hs_252 rfl (by decide)).trans <| ck_cg fun k2 => rfl)) <| Eq.trans ck_b <| ck_cg fun _ => (phi1 (fun z0 => Z e (d + 2) 213 64 [.ref 246, u1, .int (iI x2), u3] [.int (iI z0)] m))) <| ck_cg fun _ => (s_reti p_213_64 (zM_of zq_213))
-- M.person
theorem p_214_0 : zP1 214 0 = some (.iload_n 1, 0, 0, 0) := zp_l zq_214 rfl
theorem p_214_1 : zP1 214 1 = some (.invokestatic 110, 200, 1, 0) := zp_r zq_214 rfl
theorem p_214_4 : zP1 214 4 = some (.ifCond .eq 12, 0, 0, 0) := zp_l zq_214 rfl
theorem p_214_7 : zP1 214 7 = some (.iload_n 2, 0, 0, 0) := zp_l zq_214 rfl
theorem p_214_8 : zP1 214 8 = some (.iconst 1, 0, 0, 0) := zp_l zq_214 rfl
theorem p_214_9 : zP1 214 9 = some (.iconst 4, 0, 0, 0) := zp_l zq_214 rfl
theorem p_214_10 : zP1 214 10 = some (.invokestatic 100, 199, 3, 0) := zp_r zq_214 rfl
theorem p_214_13 : zP1 214 13 = some (.ifCond .ne 5, 0, 0, 0) := zp_l zq_214 rfl
theorem p_214_16 : zP1 214 16 = some (.iconst (-1), 0, 0, 0) := zp_l zq_214 rfl
theorem p_214_17 : zP1 214 17 = some (.ireturn, 0, 0, 0) := zp_l zq_214 rfl
theorem p_214_18 : zP1 214 18 = some (.aload_n 0, 0, 0, 0) := zp_l zq_214 rfl
theorem p_214_19 : zP1 214 19 = some (.iload_n 1, 0, 0, 0) := zp_l zq_214 rfl
theorem p_214_20 : zP1 214 20 = some (.invokevirtual 114, 203, 1, 11) := zp_r zq_214 rfl
theorem p_214_23 : zP1 214 23 = some (.ifCond .eq 6, 0, 0, 0) := zp_l zq_214 rfl
theorem p_214_26 : zP1 214 26 = some (.bipush (-4), 0, 0, 0) := zp_l zq_214 rfl
theorem p_214_28 : zP1 214 28 = some (.ireturn, 0, 0, 0) := zp_l zq_214 rfl
theorem p_214_29 : zP1 214 29 = some (.aload_n 0, 0, 0, 0) := zp_l zq_214 rfl
theorem p_214_30 : zP1 214 30 = some (.getfield 9, 11, 0, 0) := zp_r zq_214 rfl
theorem p_214_33 : zP1 214 33 = some (.iconst 1, 0, 0, 0) := zp_l zq_214 rfl
theorem p_214_34 : zP1 214 34 = some (.iaload, 0, 0, 0) := zp_l zq_214 rfl
theorem p_214_35 : zP1 214 35 = some (.istore_n 3, 0, 0, 0) := zp_l zq_214 rfl
theorem p_214_36 : zP1 214 36 = some (.iload_n 3, 0, 0, 0) := zp_l zq_214 rfl
theorem p_214_37 : zP1 214 37 = some (.bipush 16, 0, 0, 0) := zp_l zq_214 rfl
theorem p_214_39 : zP1 214 39 = some (.if_icmp .ne 6, 0, 0, 0) := zp_l zq_214 rfl
theorem p_214_42 : zP1 214 42 = some (.bipush (-2), 0, 0, 0) := zp_l zq_214 rfl
theorem p_214_44 : zP1 214 44 = some (.ireturn, 0, 0, 0) := zp_l zq_214 rfl
theorem p_214_45 : zP1 214 45 = some (.iconst 0, 0, 0, 0) := zp_l zq_214 rfl
theorem p_214_46 : zP1 214 46 = some (.istore 4, 0, 0, 0) := zp_l zq_214 rfl
theorem p_214_48 : zP1 214 48 = some (.iload 4, 0, 0, 0) := zp_l zq_214 rfl
theorem p_214_50 : zP1 214 50 = some (.bipush 9, 0, 0, 0) := zp_l zq_214 rfl
theorem p_214_52 : zP1 214 52 = some (.if_icmp .ge 21, 0, 0, 0) := zp_l zq_214 rfl
theorem p_214_55 : zP1 214 55 = some (.aload_n 0, 0, 0, 0) := zp_l zq_214 rfl
theorem p_214_56 : zP1 214 56 = some (.getfield 9, 11, 0, 0) := zp_r zq_214 rfl
theorem p_214_59 : zP1 214 59 = some (.iload_n 3, 0, 0, 0) := zp_l zq_214 rfl
theorem p_214_60 : zP1 214 60 = some (.iload 4, 0, 0, 0) := zp_l zq_214 rfl
theorem p_214_62 : zP1 214 62 = some (.invokestatic 129, 204, 2, 0) := zp_r zq_214 rfl
theorem p_214_65 : zP1 214 65 = some (.iconst 0, 0, 0, 0) := zp_l zq_214 rfl
theorem p_214_66 : zP1 214 66 = some (.iastore, 0, 0, 0) := zp_l zq_214 rfl
theorem p_214_67 : zP1 214 67 = some (.iinc 4 1, 0, 0, 0) := zp_l zq_214 rfl
theorem p_214_70 : zP1 214 70 = some (.goto (-22), 0, 0, 0) := zp_l zq_214 rfl
theorem p_214_73 : zP1 214 73 = some (.aload_n 0, 0, 0, 0) := zp_l zq_214 rfl
theorem p_214_74 : zP1 214 74 = some (.getfield 9, 11, 0, 0) := zp_r zq_214 rfl
theorem p_214_77 : zP1 214 77 = some (.iload_n 3, 0, 0, 0) := zp_l zq_214 rfl
theorem p_214_78 : zP1 214 78 = some (.iconst 0, 0, 0, 0) := zp_l zq_214 rfl
theorem p_214_79 : zP1 214 79 = some (.invokestatic 129, 204, 2, 0) := zp_r zq_214 rfl
theorem p_214_82 : zP1 214 82 = some (.iload_n 1, 0, 0, 0) := zp_l zq_214 rfl
theorem p_214_83 : zP1 214 83 = some (.iastore, 0, 0, 0) := zp_l zq_214 rfl
theorem p_214_84 : zP1 214 84 = some (.aload_n 0, 0, 0, 0) := zp_l zq_214 rfl
theorem p_214_85 : zP1 214 85 = some (.getfield 9, 11, 0, 0) := zp_r zq_214 rfl
theorem p_214_88 : zP1 214 88 = some (.iload_n 3, 0, 0, 0) := zp_l zq_214 rfl
theorem p_214_89 : zP1 214 89 = some (.iconst 1, 0, 0, 0) := zp_l zq_214 rfl
theorem p_214_90 : zP1 214 90 = some (.invokestatic 129, 204, 2, 0) := zp_r zq_214 rfl
theorem p_214_93 : zP1 214 93 = some (.iload_n 2, 0, 0, 0) := zp_l zq_214 rfl
theorem p_214_94 : zP1 214 94 = some (.iastore, 0, 0, 0) := zp_l zq_214 rfl
theorem p_214_95 : zP1 214 95 = some (.aload_n 0, 0, 0, 0) := zp_l zq_214 rfl
theorem p_214_96 : zP1 214 96 = some (.getfield 9, 11, 0, 0) := zp_r zq_214 rfl
theorem p_214_99 : zP1 214 99 = some (.iload_n 3, 0, 0, 0) := zp_l zq_214 rfl
theorem p_214_100 : zP1 214 100 = some (.iconst 4, 0, 0, 0) := zp_l zq_214 rfl
theorem p_214_101 : zP1 214 101 = some (.invokestatic 129, 204, 2, 0) := zp_r zq_214 rfl
theorem p_214_104 : zP1 214 104 = some (.bipush (-3), 0, 0, 0) := zp_l zq_214 rfl
theorem p_214_106 : zP1 214 106 = some (.iastore, 0, 0, 0) := zp_l zq_214 rfl
theorem p_214_107 : zP1 214 107 = some (.aload_n 0, 0, 0, 0) := zp_l zq_214 rfl
theorem p_214_108 : zP1 214 108 = some (.getfield 9, 11, 0, 0) := zp_r zq_214 rfl
theorem p_214_111 : zP1 214 111 = some (.iload_n 3, 0, 0, 0) := zp_l zq_214 rfl
theorem p_214_112 : zP1 214 112 = some (.iconst 5, 0, 0, 0) := zp_l zq_214 rfl
theorem p_214_113 : zP1 214 113 = some (.invokestatic 129, 204, 2, 0) := zp_r zq_214 rfl
theorem p_214_116 : zP1 214 116 = some (.bipush (-3), 0, 0, 0) := zp_l zq_214 rfl
theorem p_214_118 : zP1 214 118 = some (.iastore, 0, 0, 0) := zp_l zq_214 rfl
theorem p_214_119 : zP1 214 119 = some (.aload_n 0, 0, 0, 0) := zp_l zq_214 rfl
theorem p_214_120 : zP1 214 120 = some (.getfield 9, 11, 0, 0) := zp_r zq_214 rfl
theorem p_214_123 : zP1 214 123 = some (.iload_n 3, 0, 0, 0) := zp_l zq_214 rfl
theorem p_214_124 : zP1 214 124 = some (.bipush 7, 0, 0, 0) := zp_l zq_214 rfl
theorem p_214_126 : zP1 214 126 = some (.invokestatic 129, 204, 2, 0) := zp_r zq_214 rfl
theorem p_214_129 : zP1 214 129 = some (.bipush (-3), 0, 0, 0) := zp_l zq_214 rfl
theorem p_214_131 : zP1 214 131 = some (.iastore, 0, 0, 0) := zp_l zq_214 rfl
theorem p_214_132 : zP1 214 132 = some (.iconst 0, 0, 0, 0) := zp_l zq_214 rfl
theorem p_214_133 : zP1 214 133 = some (.istore 4, 0, 0, 0) := zp_l zq_214 rfl
theorem p_214_135 : zP1 214 135 = some (.iload 4, 0, 0, 0) := zp_l zq_214 rfl
theorem p_214_137 : zP1 214 137 = some (.bipush 8, 0, 0, 0) := zp_l zq_214 rfl
theorem p_214_139 : zP1 214 139 = some (.if_icmp .ge 27, 0, 0, 0) := zp_l zq_214 rfl
theorem p_214_142 : zP1 214 142 = some (.aload_n 0, 0, 0, 0) := zp_l zq_214 rfl
theorem p_214_143 : zP1 214 143 = some (.getfield 9, 11, 0, 0) := zp_r zq_214 rfl
theorem p_214_146 : zP1 214 146 = some (.sipush 1106, 0, 0, 0) := zp_l zq_214 rfl
theorem p_214_149 : zP1 214 149 = some (.bipush 8, 0, 0, 0) := zp_l zq_214 rfl
theorem p_214_151 : zP1 214 151 = some (.iload_n 3, 0, 0, 0) := zp_l zq_214 rfl
theorem p_214_152 : zP1 214 152 = some (.imul, 0, 0, 0) := zp_l zq_214 rfl
theorem p_214_153 : zP1 214 153 = some (.iadd, 0, 0, 0) := zp_l zq_214 rfl
theorem p_214_154 : zP1 214 154 = some (.iload 4, 0, 0, 0) := zp_l zq_214 rfl
theorem p_214_156 : zP1 214 156 = some (.iadd, 0, 0, 0) := zp_l zq_214 rfl
theorem p_214_157 : zP1 214 157 = some (.bipush (-3), 0, 0, 0) := zp_l zq_214 rfl
theorem p_214_159 : zP1 214 159 = some (.iastore, 0, 0, 0) := zp_l zq_214 rfl
theorem p_214_160 : zP1 214 160 = some (.iinc 4 1, 0, 0, 0) := zp_l zq_214 rfl
theorem p_214_163 : zP1 214 163 = some (.goto (-28), 0, 0, 0) := zp_l zq_214 rfl
theorem p_214_166 : zP1 214 166 = some (.aload_n 0, 0, 0, 0) := zp_l zq_214 rfl
theorem p_214_167 : zP1 214 167 = some (.getfield 9, 11, 0, 0) := zp_r zq_214 rfl
theorem p_214_170 : zP1 214 170 = some (.iconst 1, 0, 0, 0) := zp_l zq_214 rfl
theorem p_214_171 : zP1 214 171 = some (.dup2, 0, 0, 0) := zp_l zq_214 rfl
theorem p_214_172 : zP1 214 172 = some (.iaload, 0, 0, 0) := zp_l zq_214 rfl
theorem p_214_173 : zP1 214 173 = some (.iconst 1, 0, 0, 0) := zp_l zq_214 rfl
theorem p_214_174 : zP1 214 174 = some (.iadd, 0, 0, 0) := zp_l zq_214 rfl
theorem p_214_175 : zP1 214 175 = some (.iastore, 0, 0, 0) := zp_l zq_214 rfl
theorem p_214_176 : zP1 214 176 = some (.iload_n 3, 0, 0, 0) := zp_l zq_214 rfl
theorem p_214_177 : zP1 214 177 = some (.ireturn, 0, 0, 0) := zp_l zq_214 rfl
theorem b_214_0 {x1 : Int} {x2 : Int} : Z e (d + 2) 214 0 [.ref 246, .int (iI x1), .int (iI x2), .retAddr 0, .retAddr 0] [] m = (if (¬ (((wr 0) ≤ (wr x1)) ∧ ((wr x1) ≤ (wr 99)))) ∨ (¬ (((wr 1) ≤ (wr x2)) ∧ ((wr x2) ≤ (wr 4)))) then ri (-1) m else ck (0 ≤ (wr (10 + x1)) ∧ (wr (10 + x1)) < 2737) ((if (wr (m 247 (wr (10 + x1)))) = 1 then ri (-4) m else (if (wr (m 247 1)) = 16 then ri (-2) m else Z e (d + 2) 214 48 [.ref 246, .int (iI x1), .int (iI x2), .int (iI (m 247 1)), .int (iI 0)] [] m)))) := (s_il_1 p_214_0).trans <| (s_cs1 (Lc := [.int (iI x1)]) p_214_1 (by decide) (zM_of zq_200) ⟨Nat.le_of_ble_eq_true rfl, Nat.le_of_ble_eq_true rfl⟩ rfl).trans <| (bd b_200_0).trans <| ri_k.trans <| Eq.trans (Eq.trans (s_beq_t p_214_4 rfl) <| Eq.trans (ite_cg rfl ((s_il_2 p_214_7).trans <| (s_const p_214_8).trans <| (s_const p_214_9).trans <| (s_cs3 (Lc := [.int (iI x2), .int (iI 1), .int (iI 4)]) p_214_10 (by decide) (zM_of zq_199) ⟨Nat.le_of_ble_eq_true rfl, Nat.le_of_ble_eq_true rfl⟩ rfl).trans <| (bd b_199_0).trans <| ri_k.trans <| (s_bne_f p_214_13 rfl))) co_or) <| ite_cg ((s_const p_214_16).trans <| (s_reti p_214_17 (zM_of zq_214))) ((s_al_0 p_214_18).trans <| (s_il_1 p_214_19).trans <| (s_cv1 (Lc := [.ref 246, .int (iI x1)]) p_214_20 (by decide) (by decide) (zM_of zq_203) ⟨Nat.le_of_ble_eq_true rfl, Nat.le_of_ble_eq_true rfl⟩ rfl (m_rc hs_246 ⟨rfl, by decide⟩)).trans <| (bd b_203_0).trans <| ck_bind.trans <| ck_cg fun _ => ri_k.trans <| Eq.trans ((s_beq_f p_214_23 rfl)) <| ite_cg ((s_bip p_214_26 rfl).trans <| (s_reti p_214_28 (zM_of zq_214))) ((s_al_0 p_214_29).trans <| (s_getr p_214_30 hs_246 (by decide) rfl).trans <| (s_const p_214_33).trans <| (s_aldc p_214_34 hs_247 (by decide) wl_1 (by decide)).trans <| (s_is_3 cat_i p_214_35).trans <| (s_il_3 p_214_36).trans <| (s_bip p_214_37 rfl).trans <| Eq.trans ((s_c_ne_f p_214_39 rfl rfl wl_16)) <| ite_cg ((s_bip p_214_42 rfl).trans <| (s_reti p_214_44 (zM_of zq_214))) ((s_const p_214_45).trans <| (s_is_4 cat_i p_214_46).trans <| rfl)))
theorem b_214_48 {x1 : Int} {x2 : Int} {x3 : Int} {x4 : Int} : Z e (d + 2) 214 48 [.ref 246, .int (iI x1), .int (iI x2), .int (iI x3), .int (iI x4)] [] m = (if (wr x4) < 9 then ck (0 ≤ (wr ((110 + (9 * x3)) + x4)) ∧ (wr ((110 + (9 * x3)) + x4)) < 2737) (Z e (d + 2) 214 48 [.ref 246, .int (iI x1), .int (iI x2), .int (iI x3), .int (iI (x4 + 1))] [] (um m 247 (wr ((110 + (9 * x3)) + x4)) 0)) else Z e (d + 2) 214 73 [.ref 246, .int (iI x1), .int (iI x2), .int (iI x3), .int (iI x4)] [] m) := (s_il_4 p_214_48).trans <| (s_bip p_214_50 rfl).trans <| Eq.trans ((s_c_ge_f p_214_52 rfl rfl wl_9)) <| ite_cg ((s_al_0 p_214_55).trans <| (s_getr p_214_56 hs_246 (by decide) rfl).trans <| (s_il_3 p_214_59).trans <| (s_il_4 p_214_60).trans <| (s_cs2 (Lc := [.int (iI x3), .int (iI x4)]) p_214_62 (by decide) (zM_of zq_204) ⟨Nat.le_of_ble_eq_true rfl, Nat.le_of_ble_eq_true rfl⟩ rfl).trans <| (bd b_204_0).trans <| ri_k.trans <| (s_const p_214_65).trans <| (s_ast 2737 p_214_66 hs_247 rfl).trans <| ck_cg fun k1 => (s_inc_4 cat_i p_214_67).trans <| (s_goto p_214_70 rfl).trans <| rfl) (rfl)
theorem b_214_73 {x1 : Int} {x2 : Int} {x3 : Int} {u4 : Value} : Z e (d + 2) 214 73 [.ref 246, .int (iI x1), .int (iI x2), .int (iI x3), u4] [] m = ck (0 ≤ (wr ((110 + (9 * x3)) + 0)) ∧ (wr ((110 + (9 * x3)) + 0)) < 2737) (ck (0 ≤ (wr ((110 + (9 * x3)) + 1)) ∧ (wr ((110 + (9 * x3)) + 1)) < 2737) (ck (0 ≤ (wr ((110 + (9 * x3)) + 4)) ∧ (wr ((110 + (9 * x3)) + 4)) < 2737) (ck (0 ≤ (wr ((110 + (9 * x3)) + 5)) ∧ (wr ((110 + (9 * x3)) + 5)) < 2737) (ck (0 ≤ (wr ((110 + (9 * x3)) + 7)) ∧ (wr ((110 + (9 * x3)) + 7)) < 2737) (Z e (d + 2) 214 135 [.ref 246, .int (iI x1), .int (iI x2), .int (iI x3), .int (iI 0)] [] (um (um (um (um (um m 247 (wr ((110 + (9 * x3)) + 0)) x1) 247 (wr ((110 + (9 * x3)) + 1)) x2) 247 (wr ((110 + (9 * x3)) + 4)) (-3)) 247 (wr ((110 + (9 * x3)) + 5)) (-3)) 247 (wr ((110 + (9 * x3)) + 7)) (-3))))))) := (s_al_0 p_214_73).trans <| (s_getr p_214_74 hs_246 (by decide) rfl).trans <| (s_il_3 p_214_77).trans <| (s_const p_214_78).trans <| (s_cs2 (Lc := [.int (iI x3), .int (iI 0)]) p_214_79 (by decide) (zM_of zq_204) ⟨Nat.le_of_ble_eq_true rfl, Nat.le_of_ble_eq_true rfl⟩ rfl).trans <| (bd b_204_0).trans <| ri_k.trans <| (s_il_1 p_214_82).trans <| (s_ast 2737 p_214_83 hs_247 rfl).trans <| ck_cg fun k1 => (s_al_0 p_214_84).trans <| (s_getr p_214_85 hs_246 (by decide) rfl).trans <| (s_il_3 p_214_88).trans <| (s_const p_214_89).trans <| (s_cs2 (Lc := [.int (iI x3), .int (iI 1)]) p_214_90 (by decide) (zM_of zq_204) ⟨Nat.le_of_ble_eq_true rfl, Nat.le_of_ble_eq_true rfl⟩ rfl).trans <| (bd b_204_0).trans <| ri_k.trans <| (s_il_2 p_214_93).trans <| (s_ast 2737 p_214_94 hs_247 rfl).trans <| ck_cg fun k2 => (s_al_0 p_214_95).trans <| (s_getr p_214_96 hs_246 (by decide) rfl).trans <| (s_il_3 p_214_99).trans <| (s_const p_214_100).trans <| (s_cs2 (Lc := [.int (iI x3), .int (iI 4)]) p_214_101 (by decide) (zM_of zq_204) ⟨Nat.le_of_ble_eq_true rfl, Nat.le_of_ble_eq_true rfl⟩ rfl).trans <| (bd b_204_0).trans <| ri_k.trans <| (s_bip p_214_104 rfl).trans <| (s_ast 2737 p_214_106 hs_247 rfl).trans <| ck_cg fun k3 => (s_al_0 p_214_107).trans <| (s_getr p_214_108 hs_246 (by decide) rfl).trans <| (s_il_3 p_214_111).trans <| (s_const p_214_112).trans <| (s_cs2 (Lc := [.int (iI x3), .int (iI 5)]) p_214_113 (by decide) (zM_of zq_204) ⟨Nat.le_of_ble_eq_true rfl, Nat.le_of_ble_eq_true rfl⟩ rfl).trans <| (bd b_204_0).trans <| ri_k.trans <| (s_bip p_214_116 rfl).trans <| (s_ast 2737 p_214_118 hs_247 rfl).trans <| ck_cg fun k4 => (s_al_0 p_214_119).trans <| (s_getr p_214_120 hs_246 (by decide) rfl).trans <| (s_il_3 p_214_123).trans <| (s_bip p_214_124 rfl).trans <| (s_cs2 (Lc := [.int (iI x3), .int (iI 7)]) p_214_126 (by decide) (zM_of zq_204) ⟨Nat.le_of_ble_eq_true rfl, Nat.le_of_ble_eq_true rfl⟩ rfl).trans <| (bd b_204_0).trans <| ri_k.trans <| (s_bip p_214_129 rfl).trans <| (s_ast 2737 p_214_131 hs_247 rfl).trans <| ck_cg fun k5 => (s_const p_214_132).trans <| (s_is_4 cat_i p_214_133).trans <| rfl
theorem b_214_135 {x3 : Int} {x4 : Int} {u1 u2 : Value} : Z e (d + 2) 214 135 [.ref 246, u1, u2, .int (iI x3), .int (iI x4)] [] m = (if (wr x4) < 8 then ck (0 ≤ (wr ((1106 + (8 * x3)) + x4)) ∧ (wr ((1106 + (8 * x3)) + x4)) < 2737) (Z e (d + 2) 214 135 [.ref 246, u1, u2, .int (iI x3), .int (iI (x4 + 1))] [] (um m 247 (wr ((1106 + (8 * x3)) + x4)) (-3))) else ri x3 (um m 247 1 ((m 247 1) + 1))) := (s_il_4 p_214_135).trans <| (s_bip p_214_137 rfl).trans <| Eq.trans ((s_c_ge_f p_214_139 rfl rfl wl_8)) <| ite_cg ((s_al_0 p_214_142).trans <| (s_getr p_214_143 hs_246 (by decide) rfl).trans <| (s_sip p_214_146 rfl).trans <| (s_bip p_214_149 rfl).trans <| (s_il_3 p_214_151).trans <| (s_imul p_214_152).trans <| (s_iadd p_214_153).trans <| (s_il_4 p_214_154).trans <| (s_iadd p_214_156).trans <| (s_bip p_214_157 rfl).trans <| (s_ast 2737 p_214_159 hs_247 rfl).trans <| ck_cg fun k1 => (s_inc_4 cat_i p_214_160).trans <| (s_goto p_214_163 rfl).trans <| rfl) ((s_al_0 p_214_166).trans <| (s_getr p_214_167 hs_246 (by decide) rfl).trans <| (s_const p_214_170).trans <| (s_dup2 cat_i cat_r p_214_171).trans <| (s_aldc p_214_172 hs_247 (by decide) wl_1 (by decide)).trans <| (s_const p_214_173).trans <| (s_iadd p_214_174).trans <| (s_astc p_214_175 hs_247 wl_1 (by decide)).trans <| (s_il_3 p_214_176).trans <| (s_reti p_214_177 (zM_of zq_214)))
-- M.move
theorem p_215_0 : zP1 215 0 = some (.aload_n 0, 0, 0, 0) := zp_l zq_215 rfl
theorem p_215_1 : zP1 215 1 = some (.iload_n 1, 0, 0, 0) := zp_l zq_215 rfl
theorem p_215_2 : zP1 215 2 = some (.invokevirtual 138, 202, 1, 11) := zp_r zq_215 rfl
theorem p_215_5 : zP1 215 5 = some (.ifCond .eq 10, 0, 0, 0) := zp_l zq_215 rfl
theorem p_215_8 : zP1 215 8 = some (.iload_n 2, 0, 0, 0) := zp_l zq_215 rfl
theorem p_215_9 : zP1 215 9 = some (.invokestatic 110, 200, 1, 0) := zp_r zq_215 rfl
theorem p_215_12 : zP1 215 12 = some (.ifCond .ne 5, 0, 0, 0) := zp_l zq_215 rfl
theorem p_215_15 : zP1 215 15 = some (.iconst (-1), 0, 0, 0) := zp_l zq_215 rfl
theorem p_215_16 : zP1 215 16 = some (.ireturn, 0, 0, 0) := zp_l zq_215 rfl
theorem p_215_17 : zP1 215 17 = some (.aload_n 0, 0, 0, 0) := zp_l zq_215 rfl
theorem p_215_18 : zP1 215 18 = some (.iload_n 2, 0, 0, 0) := zp_l zq_215 rfl
theorem p_215_19 : zP1 215 19 = some (.invokevirtual 114, 203, 1, 11) := zp_r zq_215 rfl
theorem p_215_22 : zP1 215 22 = some (.ifCond .eq 6, 0, 0, 0) := zp_l zq_215 rfl
theorem p_215_25 : zP1 215 25 = some (.bipush (-4), 0, 0, 0) := zp_l zq_215 rfl
theorem p_215_27 : zP1 215 27 = some (.ireturn, 0, 0, 0) := zp_l zq_215 rfl
theorem p_215_28 : zP1 215 28 = some (.aload_n 0, 0, 0, 0) := zp_l zq_215 rfl
theorem p_215_29 : zP1 215 29 = some (.getfield 9, 11, 0, 0) := zp_r zq_215 rfl
theorem p_215_32 : zP1 215 32 = some (.iload_n 1, 0, 0, 0) := zp_l zq_215 rfl
theorem p_215_33 : zP1 215 33 = some (.iconst 0, 0, 0, 0) := zp_l zq_215 rfl
theorem p_215_34 : zP1 215 34 = some (.invokestatic 129, 204, 2, 0) := zp_r zq_215 rfl
theorem p_215_37 : zP1 215 37 = some (.iaload, 0, 0, 0) := zp_l zq_215 rfl
theorem p_215_38 : zP1 215 38 = some (.istore_n 3, 0, 0, 0) := zp_l zq_215 rfl
theorem p_215_39 : zP1 215 39 = some (.aload_n 0, 0, 0, 0) := zp_l zq_215 rfl
theorem p_215_40 : zP1 215 40 = some (.getfield 9, 11, 0, 0) := zp_r zq_215 rfl
theorem p_215_43 : zP1 215 43 = some (.iload_n 1, 0, 0, 0) := zp_l zq_215 rfl
theorem p_215_44 : zP1 215 44 = some (.iconst 0, 0, 0, 0) := zp_l zq_215 rfl
theorem p_215_45 : zP1 215 45 = some (.invokestatic 129, 204, 2, 0) := zp_r zq_215 rfl
theorem p_215_48 : zP1 215 48 = some (.iload_n 2, 0, 0, 0) := zp_l zq_215 rfl
theorem p_215_49 : zP1 215 49 = some (.iastore, 0, 0, 0) := zp_l zq_215 rfl
theorem p_215_50 : zP1 215 50 = some (.aload_n 0, 0, 0, 0) := zp_l zq_215 rfl
theorem p_215_51 : zP1 215 51 = some (.getfield 9, 11, 0, 0) := zp_r zq_215 rfl
theorem p_215_54 : zP1 215 54 = some (.iload_n 1, 0, 0, 0) := zp_l zq_215 rfl
theorem p_215_55 : zP1 215 55 = some (.iconst 4, 0, 0, 0) := zp_l zq_215 rfl
theorem p_215_56 : zP1 215 56 = some (.invokestatic 129, 204, 2, 0) := zp_r zq_215 rfl
theorem p_215_59 : zP1 215 59 = some (.bipush (-3), 0, 0, 0) := zp_l zq_215 rfl
theorem p_215_61 : zP1 215 61 = some (.iastore, 0, 0, 0) := zp_l zq_215 rfl
theorem p_215_62 : zP1 215 62 = some (.iload_n 3, 0, 0, 0) := zp_l zq_215 rfl
theorem p_215_63 : zP1 215 63 = some (.ireturn, 0, 0, 0) := zp_l zq_215 rfl
theorem b_215_0 {x1 : Int} {x2 : Int} : Z e (d + 2) 215 0 [.ref 246, .int (iI x1), .int (iI x2), .retAddr 0] [] m = (if (¬ (((wr 0) ≤ (wr x1)) ∧ ((wr x1) ≤ (wr ((m 247 1) - 1))))) ∨ (¬ (((wr 0) ≤ (wr x2)) ∧ ((wr x2) ≤ (wr 99)))) then ri (-1) m else ck (0 ≤ (wr (10 + x2)) ∧ (wr (10 + x2)) < 2737) ((if (wr (m 247 (wr (10 + x2)))) = 1 then ri (-4) m else ck (0 ≤ (wr ((110 + (9 * x1)) + 0)) ∧ (wr ((110 + (9 * x1)) + 0)) < 2737) (ck (0 ≤ (wr ((110 + (9 * x1)) + 0)) ∧ (wr ((110 + (9 * x1)) + 0)) < 2737) (ck (0 ≤ (wr ((110 + (9 * x1)) + 4)) ∧ (wr ((110 + (9 * x1)) + 4)) < 2737) (ri (m 247 (wr ((110 + (9 * x1)) + 0))) (um (um m 247 (wr ((110 + (9 * x1)) + 0)) x2) 247 (wr ((110 + (9 * x1)) + 4)) (-3)))))))) := (s_al_0 p_215_0).trans <| (s_il_1 p_215_1).trans <| (s_cv1 (Lc := [.ref 246, .int (iI x1)]) p_215_2 (by decide) (by decide) (zM_of zq_202) ⟨Nat.le_of_ble_eq_true rfl, Nat.le_of_ble_eq_true rfl⟩ rfl (m_rc hs_246 ⟨rfl, by decide⟩)).trans <| (bd b_202_0).trans <| ri_k.trans <| Eq.trans (Eq.trans (s_beq_t p_215_5 rfl) <| Eq.trans (ite_cg rfl ((s_il_2 p_215_8).trans <| (s_cs1 (Lc := [.int (iI x2)]) p_215_9 (by decide) (zM_of zq_200) ⟨Nat.le_of_ble_eq_true rfl, Nat.le_of_ble_eq_true rfl⟩ rfl).trans <| (bd b_200_0).trans <| ri_k.trans <| (s_bne_f p_215_12 rfl))) co_or) <| ite_cg ((s_const p_215_15).trans <| (s_reti p_215_16 (zM_of zq_215))) ((s_al_0 p_215_17).trans <| (s_il_2 p_215_18).trans <| (s_cv1 (Lc := [.ref 246, .int (iI x2)]) p_215_19 (by decide) (by decide) (zM_of zq_203) ⟨Nat.le_of_ble_eq_true rfl, Nat.le_of_ble_eq_true rfl⟩ rfl (m_rc hs_246 ⟨rfl, by decide⟩)).trans <| (bd b_203_0).trans <| ck_bind.trans <| ck_cg fun _ => ri_k.trans <| Eq.trans ((s_beq_f p_215_22 rfl)) <| ite_cg ((s_bip p_215_25 rfl).trans <| (s_reti p_215_27 (zM_of zq_215))) ((s_al_0 p_215_28).trans <| (s_getr p_215_29 hs_246 (by decide) rfl).trans <| (s_il_1 p_215_32).trans <| (s_const p_215_33).trans <| (s_cs2 (Lc := [.int (iI x1), .int (iI 0)]) p_215_34 (by decide) (zM_of zq_204) ⟨Nat.le_of_ble_eq_true rfl, Nat.le_of_ble_eq_true rfl⟩ rfl).trans <| (bd b_204_0).trans <| ri_k.trans <| (s_ald 2737 p_215_37 hs_247 rfl (by decide)).trans <| ck_cg fun k1 => (s_is_3 cat_i p_215_38).trans <| (s_al_0 p_215_39).trans <| (s_getr p_215_40 hs_246 (by decide) rfl).trans <| (s_il_1 p_215_43).trans <| (s_const p_215_44).trans <| (s_cs2 (Lc := [.int (iI x1), .int (iI 0)]) p_215_45 (by decide) (zM_of zq_204) ⟨Nat.le_of_ble_eq_true rfl, Nat.le_of_ble_eq_true rfl⟩ rfl).trans <| (bd b_204_0).trans <| ri_k.trans <| (s_il_2 p_215_48).trans <| (s_ast 2737 p_215_49 hs_247 rfl).trans <| ck_cg fun k2 => (s_al_0 p_215_50).trans <| (s_getr p_215_51 hs_246 (by decide) rfl).trans <| (s_il_1 p_215_54).trans <| (s_const p_215_55).trans <| (s_cs2 (Lc := [.int (iI x1), .int (iI 4)]) p_215_56 (by decide) (zM_of zq_204) ⟨Nat.le_of_ble_eq_true rfl, Nat.le_of_ble_eq_true rfl⟩ rfl).trans <| (bd b_204_0).trans <| ri_k.trans <| (s_bip p_215_59 rfl).trans <| (s_ast 2737 p_215_61 hs_247 rfl).trans <| ck_cg fun k3 => (s_il_3 p_215_62).trans <| (s_reti p_215_63 (zM_of zq_215))))
-- M.personOf
theorem p_216_0 : zP1 216 0 = some (.aload_n 0, 0, 0, 0) := zp_l zq_216 rfl
theorem p_216_1 : zP1 216 1 = some (.iload_n 1, 0, 0, 0) := zp_l zq_216 rfl
theorem p_216_2 : zP1 216 2 = some (.invokevirtual 138, 202, 1, 11) := zp_r zq_216 rfl
theorem p_216_5 : zP1 216 5 = some (.ifCond .eq 13, 0, 0, 0) := zp_l zq_216 rfl
theorem p_216_8 : zP1 216 8 = some (.iload_n 2, 0, 0, 0) := zp_l zq_216 rfl
theorem p_216_9 : zP1 216 9 = some (.iconst 0, 0, 0, 0) := zp_l zq_216 rfl
theorem p_216_10 : zP1 216 10 = some (.bipush 9, 0, 0, 0) := zp_l zq_216 rfl
theorem p_216_12 : zP1 216 12 = some (.invokestatic 100, 199, 3, 0) := zp_r zq_216 rfl
theorem p_216_15 : zP1 216 15 = some (.ifCond .ne 5, 0, 0, 0) := zp_l zq_216 rfl
theorem p_216_18 : zP1 216 18 = some (.iconst (-1), 0, 0, 0) := zp_l zq_216 rfl
theorem p_216_19 : zP1 216 19 = some (.ireturn, 0, 0, 0) := zp_l zq_216 rfl
theorem p_216_20 : zP1 216 20 = some (.iload_n 2, 0, 0, 0) := zp_l zq_216 rfl
theorem p_216_21 : zP1 216 21 = some (.bipush 9, 0, 0, 0) := zp_l zq_216 rfl
theorem p_216_23 : zP1 216 23 = some (.if_icmp .ge 14, 0, 0, 0) := zp_l zq_216 rfl
theorem p_216_26 : zP1 216 26 = some (.aload_n 0, 0, 0, 0) := zp_l zq_216 rfl
theorem p_216_27 : zP1 216 27 = some (.getfield 9, 11, 0, 0) := zp_r zq_216 rfl
theorem p_216_30 : zP1 216 30 = some (.iload_n 1, 0, 0, 0) := zp_l zq_216 rfl
theorem p_216_31 : zP1 216 31 = some (.iload_n 2, 0, 0, 0) := zp_l zq_216 rfl
theorem p_216_32 : zP1 216 32 = some (.invokestatic 129, 204, 2, 0) := zp_r zq_216 rfl
theorem p_216_35 : zP1 216 35 = some (.iaload, 0, 0, 0) := zp_l zq_216 rfl
theorem p_216_36 : zP1 216 36 = some (.ireturn, 0, 0, 0) := zp_l zq_216 rfl
theorem p_216_37 : zP1 216 37 = some (.iconst 0, 0, 0, 0) := zp_l zq_216 rfl
theorem p_216_38 : zP1 216 38 = some (.istore_n 3, 0, 0, 0) := zp_l zq_216 rfl
theorem p_216_39 : zP1 216 39 = some (.iconst 0, 0, 0, 0) := zp_l zq_216 rfl
theorem p_216_40 : zP1 216 40 = some (.istore 4, 0, 0, 0) := zp_l zq_216 rfl
theorem p_216_42 : zP1 216 42 = some (.iload 4, 0, 0, 0) := zp_l zq_216 rfl
theorem p_216_44 : zP1 216 44 = some (.aload_n 0, 0, 0, 0) := zp_l zq_216 rfl
theorem p_216_45 : zP1 216 45 = some (.getfield 9, 11, 0, 0) := zp_r zq_216 rfl
theorem p_216_48 : zP1 216 48 = some (.iconst 4, 0, 0, 0) := zp_l zq_216 rfl
theorem p_216_49 : zP1 216 49 = some (.iaload, 0, 0, 0) := zp_l zq_216 rfl
theorem p_216_50 : zP1 216 50 = some (.if_icmp .ge 32, 0, 0, 0) := zp_l zq_216 rfl
theorem p_216_53 : zP1 216 53 = some (.iload_n 3, 0, 0, 0) := zp_l zq_216 rfl
theorem p_216_54 : zP1 216 54 = some (.aload_n 0, 0, 0, 0) := zp_l zq_216 rfl
theorem p_216_55 : zP1 216 55 = some (.getfield 9, 11, 0, 0) := zp_r zq_216 rfl
theorem p_216_58 : zP1 216 58 = some (.iload 4, 0, 0, 0) := zp_l zq_216 rfl
theorem p_216_60 : zP1 216 60 = some (.iconst 0, 0, 0, 0) := zp_l zq_216 rfl
theorem p_216_61 : zP1 216 61 = some (.invokestatic 141, 205, 2, 0) := zp_r zq_216 rfl
theorem p_216_64 : zP1 216 64 = some (.iaload, 0, 0, 0) := zp_l zq_216 rfl
theorem p_216_65 : zP1 216 65 = some (.iload_n 1, 0, 0, 0) := zp_l zq_216 rfl
theorem p_216_66 : zP1 216 66 = some (.if_icmp .ne 7, 0, 0, 0) := zp_l zq_216 rfl
theorem p_216_69 : zP1 216 69 = some (.iconst 1, 0, 0, 0) := zp_l zq_216 rfl
theorem p_216_70 : zP1 216 70 = some (.goto 4, 0, 0, 0) := zp_l zq_216 rfl
theorem p_216_73 : zP1 216 73 = some (.iconst 0, 0, 0, 0) := zp_l zq_216 rfl
theorem p_216_74 : zP1 216 74 = some (.iadd, 0, 0, 0) := zp_l zq_216 rfl
theorem p_216_75 : zP1 216 75 = some (.istore_n 3, 0, 0, 0) := zp_l zq_216 rfl
theorem p_216_76 : zP1 216 76 = some (.iinc 4 1, 0, 0, 0) := zp_l zq_216 rfl
theorem p_216_79 : zP1 216 79 = some (.goto (-37), 0, 0, 0) := zp_l zq_216 rfl
theorem p_216_82 : zP1 216 82 = some (.iload_n 3, 0, 0, 0) := zp_l zq_216 rfl
theorem p_216_83 : zP1 216 83 = some (.ireturn, 0, 0, 0) := zp_l zq_216 rfl
theorem b_216_0 {x1 : Int} {x2 : Int} : Z e (d + 2) 216 0 [.ref 246, .int (iI x1), .int (iI x2), .retAddr 0, .retAddr 0] [] m = (if (¬ (((wr 0) ≤ (wr x1)) ∧ ((wr x1) ≤ (wr ((m 247 1) - 1))))) ∨ (¬ (((wr 0) ≤ (wr x2)) ∧ ((wr x2) ≤ (wr 9)))) then ri (-1) m else (if (wr x2) < 9 then ck (0 ≤ (wr ((110 + (9 * x1)) + x2)) ∧ (wr ((110 + (9 * x1)) + x2)) < 2737) (ri (m 247 (wr ((110 + (9 * x1)) + x2))) m) else Z e (d + 2) 216 42 [.ref 246, .int (iI x1), .int (iI x2), .int (iI 0), .int (iI 0)] [] m)) := (s_al_0 p_216_0).trans <| (s_il_1 p_216_1).trans <| (s_cv1 (Lc := [.ref 246, .int (iI x1)]) p_216_2 (by decide) (by decide) (zM_of zq_202) ⟨Nat.le_of_ble_eq_true rfl, Nat.le_of_ble_eq_true rfl⟩ rfl (m_rc hs_246 ⟨rfl, by decide⟩)).trans <| (bd b_202_0).trans <| ri_k.trans <| Eq.trans (Eq.trans (s_beq_t p_216_5 rfl) <| Eq.trans (ite_cg rfl ((s_il_2 p_216_8).trans <| (s_const p_216_9).trans <| (s_bip p_216_10 rfl).trans <| (s_cs3 (Lc := [.int (iI x2), .int (iI 0), .int (iI 9)]) p_216_12 (by decide) (zM_of zq_199) ⟨Nat.le_of_ble_eq_true rfl, Nat.le_of_ble_eq_true rfl⟩ rfl).trans <| (bd b_199_0).trans <| ri_k.trans <| (s_bne_f p_216_15 rfl))) co_or) <| ite_cg ((s_const p_216_18).trans <| (s_reti p_216_19 (zM_of zq_216))) ((s_il_2 p_216_20).trans <| (s_bip p_216_21 rfl).trans <| Eq.trans ((s_c_ge_f p_216_23 rfl rfl wl_9)) <| ite_cg ((s_al_0 p_216_26).trans <| (s_getr p_216_27 hs_246 (by decide) rfl).trans <| (s_il_1 p_216_30).trans <| (s_il_2 p_216_31).trans <| (s_cs2 (Lc := [.int (iI x1), .int (iI x2)]) p_216_32 (by decide) (zM_of zq_204) ⟨Nat.le_of_ble_eq_true rfl, Nat.le_of_ble_eq_true rfl⟩ rfl).trans <| (bd b_204_0).trans <| ri_k.trans <| (s_ald 2737 p_216_35 hs_247 rfl (by decide)).trans <| ck_cg fun k1 => (s_reti p_216_36 (zM_of zq_216))) ((s_const p_216_37).trans <| (s_is_3 cat_i p_216_38).trans <| (s_const p_216_39).trans <| (s_is_4 cat_i p_216_40).trans <| rfl))
theorem b_216_42 {x1 : Int} {x3 : Int} {x4 : Int} {u2 : Value} (hu2 : u2.category = 1) : Z e (d + 2) 216 42 [.ref 246, .int (iI x1), u2, .int (iI x3), .int (iI x4)] [] m = (if (wr x4) < (wr (m 247 4)) then ck (0 ≤ (wr ((794 + (6 * x4)) + 0)) ∧ (wr ((794 + (6 * x4)) + 0)) < 2737) (Z e (d + 2) 216 42 [.ref 246, .int (iI x1), u2, .int (iI (x3 + (if (wr (m 247 (wr ((794 + (6 * x4)) + 0)))) = (wr x1) then 1 else 0))), .int (iI (x4 + 1))] [] m) else ri x3 m) := (s_il_4 p_216_42).trans <| (s_al_0 p_216_44).trans <| (s_getr p_216_45 hs_246 (by decide) rfl).trans <| (s_const p_216_48).trans <| (s_aldc p_216_49 hs_247 (by decide) wl_4 (by decide)).trans <| Eq.trans ((s_c_ge_f p_216_50 rfl rfl rfl)) <| ite_cg ((s_il_3 p_216_53).trans <| (s_al_0 p_216_54).trans <| (s_getr p_216_55 hs_246 (by decide) rfl).trans <| (s_il_4 p_216_58).trans <| (s_const p_216_60).trans <| (s_cs2 (Lc := [.int (iI x4), .int (iI 0)]) p_216_61 (by decide) (zM_of zq_205) ⟨Nat.le_of_ble_eq_true rfl, Nat.le_of_ble_eq_true rfl⟩ rfl).trans <| (bd b_205_0).trans <| ri_k.trans <| (s_ald 2737 p_216_64 hs_247 rfl (by decide)).trans <| ck_cg fun k2 => (s_il_1 p_216_65).trans <| Eq.trans (Eq.trans ((s_c_ne_f p_216_66 rfl rfl rfl)) <| Eq.trans (ite_cg ((s_const p_216_69).trans <| (s_goto p_216_70 rfl).trans <| rfl) ((s_const p_216_73).trans <| rfl)) (phi1 (fun z0 => Z e (d + 2) 216 74 [.ref 246, .int (iI x1), u2, .int (iI x3), .int (iI x4)] [.int (iI z0), .int (iI x3)] m))) <| (s_iadd p_216_74).trans <| (s_is_3 hu2 p_216_75).trans <| (s_inc_4 cat_i p_216_76).trans <| (s_goto p_216_79 rfl).trans <| rfl) ((s_il_3 p_216_82).trans <| (s_reti p_216_83 (zM_of zq_216)))
-- M.stone
theorem p_217_0 : zP1 217 0 = some (.iload_n 1, 0, 0, 0) := zp_l zq_217 rfl
theorem p_217_1 : zP1 217 1 = some (.invokestatic 110, 200, 1, 0) := zp_r zq_217 rfl
theorem p_217_4 : zP1 217 4 = some (.ifCond .eq 13, 0, 0, 0) := zp_l zq_217 rfl
theorem p_217_7 : zP1 217 7 = some (.iload_n 2, 0, 0, 0) := zp_l zq_217 rfl
theorem p_217_8 : zP1 217 8 = some (.iconst 1, 0, 0, 0) := zp_l zq_217 rfl
theorem p_217_9 : zP1 217 9 = some (.bipush 9, 0, 0, 0) := zp_l zq_217 rfl
theorem p_217_11 : zP1 217 11 = some (.invokestatic 100, 199, 3, 0) := zp_r zq_217 rfl
theorem p_217_14 : zP1 217 14 = some (.ifCond .ne 5, 0, 0, 0) := zp_l zq_217 rfl
theorem p_217_17 : zP1 217 17 = some (.iconst (-1), 0, 0, 0) := zp_l zq_217 rfl
theorem p_217_18 : zP1 217 18 = some (.ireturn, 0, 0, 0) := zp_l zq_217 rfl
theorem p_217_19 : zP1 217 19 = some (.aload_n 0, 0, 0, 0) := zp_l zq_217 rfl
theorem p_217_20 : zP1 217 20 = some (.iload_n 1, 0, 0, 0) := zp_l zq_217 rfl
theorem p_217_21 : zP1 217 21 = some (.invokevirtual 114, 203, 1, 11) := zp_r zq_217 rfl
theorem p_217_24 : zP1 217 24 = some (.ifCond .eq 6, 0, 0, 0) := zp_l zq_217 rfl
theorem p_217_27 : zP1 217 27 = some (.bipush (-4), 0, 0, 0) := zp_l zq_217 rfl
theorem p_217_29 : zP1 217 29 = some (.ireturn, 0, 0, 0) := zp_l zq_217 rfl
theorem p_217_30 : zP1 217 30 = some (.aload_n 0, 0, 0, 0) := zp_l zq_217 rfl
theorem p_217_31 : zP1 217 31 = some (.getfield 9, 11, 0, 0) := zp_r zq_217 rfl
theorem p_217_34 : zP1 217 34 = some (.iconst 2, 0, 0, 0) := zp_l zq_217 rfl
theorem p_217_35 : zP1 217 35 = some (.iaload, 0, 0, 0) := zp_l zq_217 rfl
theorem p_217_36 : zP1 217 36 = some (.istore_n 3, 0, 0, 0) := zp_l zq_217 rfl
theorem p_217_37 : zP1 217 37 = some (.iload_n 3, 0, 0, 0) := zp_l zq_217 rfl
theorem p_217_38 : zP1 217 38 = some (.bipush 6, 0, 0, 0) := zp_l zq_217 rfl
theorem p_217_40 : zP1 217 40 = some (.if_icmp .ne 6, 0, 0, 0) := zp_l zq_217 rfl
theorem p_217_43 : zP1 217 43 = some (.bipush (-2), 0, 0, 0) := zp_l zq_217 rfl
theorem p_217_45 : zP1 217 45 = some (.ireturn, 0, 0, 0) := zp_l zq_217 rfl
theorem p_217_46 : zP1 217 46 = some (.aload_n 0, 0, 0, 0) := zp_l zq_217 rfl
theorem p_217_47 : zP1 217 47 = some (.getfield 9, 11, 0, 0) := zp_r zq_217 rfl
theorem p_217_50 : zP1 217 50 = some (.sipush 254, 0, 0, 0) := zp_l zq_217 rfl
theorem p_217_53 : zP1 217 53 = some (.iconst 2, 0, 0, 0) := zp_l zq_217 rfl
theorem p_217_54 : zP1 217 54 = some (.iload_n 3, 0, 0, 0) := zp_l zq_217 rfl
theorem p_217_55 : zP1 217 55 = some (.imul, 0, 0, 0) := zp_l zq_217 rfl
theorem p_217_56 : zP1 217 56 = some (.iadd, 0, 0, 0) := zp_l zq_217 rfl
theorem p_217_57 : zP1 217 57 = some (.iload_n 1, 0, 0, 0) := zp_l zq_217 rfl
theorem p_217_58 : zP1 217 58 = some (.iastore, 0, 0, 0) := zp_l zq_217 rfl
theorem p_217_59 : zP1 217 59 = some (.aload_n 0, 0, 0, 0) := zp_l zq_217 rfl
theorem p_217_60 : zP1 217 60 = some (.getfield 9, 11, 0, 0) := zp_r zq_217 rfl
theorem p_217_63 : zP1 217 63 = some (.sipush 254, 0, 0, 0) := zp_l zq_217 rfl
theorem p_217_66 : zP1 217 66 = some (.iconst 2, 0, 0, 0) := zp_l zq_217 rfl
theorem p_217_67 : zP1 217 67 = some (.iload_n 3, 0, 0, 0) := zp_l zq_217 rfl
theorem p_217_68 : zP1 217 68 = some (.imul, 0, 0, 0) := zp_l zq_217 rfl
theorem p_217_69 : zP1 217 69 = some (.iadd, 0, 0, 0) := zp_l zq_217 rfl
theorem p_217_70 : zP1 217 70 = some (.iconst 1, 0, 0, 0) := zp_l zq_217 rfl
theorem p_217_71 : zP1 217 71 = some (.iadd, 0, 0, 0) := zp_l zq_217 rfl
theorem p_217_72 : zP1 217 72 = some (.iload_n 2, 0, 0, 0) := zp_l zq_217 rfl
theorem p_217_73 : zP1 217 73 = some (.iastore, 0, 0, 0) := zp_l zq_217 rfl
theorem p_217_74 : zP1 217 74 = some (.aload_n 0, 0, 0, 0) := zp_l zq_217 rfl
theorem p_217_75 : zP1 217 75 = some (.getfield 9, 11, 0, 0) := zp_r zq_217 rfl
theorem p_217_78 : zP1 217 78 = some (.iconst 2, 0, 0, 0) := zp_l zq_217 rfl
theorem p_217_79 : zP1 217 79 = some (.dup2, 0, 0, 0) := zp_l zq_217 rfl
theorem p_217_80 : zP1 217 80 = some (.iaload, 0, 0, 0) := zp_l zq_217 rfl
theorem p_217_81 : zP1 217 81 = some (.iconst 1, 0, 0, 0) := zp_l zq_217 rfl
theorem p_217_82 : zP1 217 82 = some (.iadd, 0, 0, 0) := zp_l zq_217 rfl
theorem p_217_83 : zP1 217 83 = some (.iastore, 0, 0, 0) := zp_l zq_217 rfl
theorem p_217_84 : zP1 217 84 = some (.aload_n 0, 0, 0, 0) := zp_l zq_217 rfl
theorem p_217_85 : zP1 217 85 = some (.iconst 0, 0, 0, 0) := zp_l zq_217 rfl
theorem p_217_86 : zP1 217 86 = some (.putfield 121, 11, 12, 1) := zp_r zq_217 rfl
theorem p_217_89 : zP1 217 89 = some (.iload_n 3, 0, 0, 0) := zp_l zq_217 rfl
theorem p_217_90 : zP1 217 90 = some (.ireturn, 0, 0, 0) := zp_l zq_217 rfl
theorem b_217_0 {x1 : Int} {x2 : Int} : Z e (d + 2) 217 0 [.ref 246, .int (iI x1), .int (iI x2), .retAddr 0] [] m = (if (¬ (((wr 0) ≤ (wr x1)) ∧ ((wr x1) ≤ (wr 99)))) ∨ (¬ (((wr 1) ≤ (wr x2)) ∧ ((wr x2) ≤ (wr 9)))) then ri (-1) m else ck (0 ≤ (wr (10 + x1)) ∧ (wr (10 + x1)) < 2737) ((if (wr (m 247 (wr (10 + x1)))) = 1 then ri (-4) m else (if (wr (m 247 2)) = 6 then ri (-2) m else ck (0 ≤ (wr (254 + (2 * (m 247 2)))) ∧ (wr (254 + (2 * (m 247 2)))) < 2737) (ck (0 ≤ (wr ((254 + (2 * (m 247 2))) + 1)) ∧ (wr ((254 + (2 * (m 247 2))) + 1)) < 2737) (ri (m 247 2) (um (um (um (um m 247 (wr (254 + (2 * (m 247 2)))) x1) 247 (wr ((254 + (2 * (m 247 2))) + 1)) x2) 247 2 (((um (um m 247 (wr (254 + (2 * (m 247 2)))) x1) 247 (wr ((254 + (2 * (m 247 2))) + 1)) x2) 247 2) + 1)) 246 12 0))))))) := (s_il_1 p_217_0).trans <| (s_cs1 (Lc := [.int (iI x1)]) p_217_1 (by decide) (zM_of zq_200) ⟨Nat.le_of_ble_eq_true rfl, Nat.le_of_ble_eq_true rfl⟩ rfl).trans <| (bd b_200_0).trans <| ri_k.trans <| Eq.trans (Eq.trans (s_beq_t p_217_4 rfl) <| Eq.trans (ite_cg rfl ((s_il_2 p_217_7).trans <| (s_const p_217_8).trans <| (s_bip p_217_9 rfl).trans <| (s_cs3 (Lc := [.int (iI x2), .int (iI 1), .int (iI 9)]) p_217_11 (by decide) (zM_of zq_199) ⟨Nat.le_of_ble_eq_true rfl, Nat.le_of_ble_eq_true rfl⟩ rfl).trans <| (bd b_199_0).trans <| ri_k.trans <| (s_bne_f p_217_14 rfl))) co_or) <| ite_cg ((s_const p_217_17).trans <| (s_reti p_217_18 (zM_of zq_217))) ((s_al_0 p_217_19).trans <| (s_il_1 p_217_20).trans <| (s_cv1 (Lc := [.ref 246, .int (iI x1)]) p_217_21 (by decide) (by decide) (zM_of zq_203) ⟨Nat.le_of_ble_eq_true rfl, Nat.le_of_ble_eq_true rfl⟩ rfl (m_rc hs_246 ⟨rfl, by decide⟩)).trans <| (bd b_203_0).trans <| ck_bind.trans <| ck_cg fun _ => ri_k.trans <| Eq.trans ((s_beq_f p_217_24 rfl)) <| ite_cg ((s_bip p_217_27 rfl).trans <| (s_reti p_217_29 (zM_of zq_217))) ((s_al_0 p_217_30).trans <| (s_getr p_217_31 hs_246 (by decide) rfl).trans <| (s_const p_217_34).trans <| (s_aldc p_217_35 hs_247 (by decide) wl_2 (by decide)).trans <| (s_is_3 cat_i p_217_36).trans <| (s_il_3 p_217_37).trans <| (s_bip p_217_38 rfl).trans <| Eq.trans ((s_c_ne_f p_217_40 rfl rfl wl_6)) <| ite_cg ((s_bip p_217_43 rfl).trans <| (s_reti p_217_45 (zM_of zq_217))) ((s_al_0 p_217_46).trans <| (s_getr p_217_47 hs_246 (by decide) rfl).trans <| (s_sip p_217_50 rfl).trans <| (s_const p_217_53).trans <| (s_il_3 p_217_54).trans <| (s_imul p_217_55).trans <| (s_iadd p_217_56).trans <| (s_il_1 p_217_57).trans <| (s_ast 2737 p_217_58 hs_247 rfl).trans <| ck_cg fun k1 => (s_al_0 p_217_59).trans <| (s_getr p_217_60 hs_246 (by decide) rfl).trans <| (s_sip p_217_63 rfl).trans <| (s_const p_217_66).trans <| (s_il_3 p_217_67).trans <| (s_imul p_217_68).trans <| (s_iadd p_217_69).trans <| (s_const p_217_70).trans <| (s_iadd p_217_71).trans <| (s_il_2 p_217_72).trans <| (s_ast 2737 p_217_73 hs_247 rfl).trans <| ck_cg fun k2 => (s_al_0 p_217_74).trans <| (s_getr p_217_75 hs_246 (by decide) rfl).trans <| (s_const p_217_78).trans <| (s_dup2 cat_i cat_r p_217_79).trans <| (s_aldc p_217_80 hs_247 (by decide) wl_2 (by decide)).trans <| (s_const p_217_81).trans <| (s_iadd p_217_82).trans <| (s_astc p_217_83 hs_247 wl_2 (by decide)).trans <| (s_al_0 p_217_84).trans <| (s_const p_217_85).trans <| (s_putk p_217_86 rfl hs_246 (by decide) rfl).trans <| (s_il_3 p_217_89).trans <| (s_reti p_217_90 (zM_of zq_217)))))
-- M.ofVersion
theorem p_218_0 : zP1 218 0 = some (.sipush 266, 0, 0, 0) := zp_l zq_218 rfl
theorem p_218_3 : zP1 218 3 = some (.bipush 44, 0, 0, 0) := zp_l zq_218 rfl
theorem p_218_5 : zP1 218 5 = some (.iload_n 0, 0, 0, 0) := zp_l zq_218 rfl
theorem p_218_6 : zP1 218 6 = some (.imul, 0, 0, 0) := zp_l zq_218 rfl
theorem p_218_7 : zP1 218 7 = some (.iadd, 0, 0, 0) := zp_l zq_218 rfl
theorem p_218_8 : zP1 218 8 = some (.iload_n 1, 0, 0, 0) := zp_l zq_218 rfl
theorem p_218_9 : zP1 218 9 = some (.iadd, 0, 0, 0) := zp_l zq_218 rfl
theorem p_218_10 : zP1 218 10 = some (.ireturn, 0, 0, 0) := zp_l zq_218 rfl
theorem b_218_0 {x0 : Int} {x1 : Int} : Z e d 218 0 [.int (iI x0), .int (iI x1)] [] m = ri ((266 + (44 * x0)) + x1) m := (s_sip p_218_0 rfl).trans <| (s_bip p_218_3 rfl).trans <| (s_il_0 p_218_5).trans <| (s_imul p_218_6).trans <| (s_iadd p_218_7).trans <| (s_il_1 p_218_8).trans <| (s_iadd p_218_9).trans <| (s_reti p_218_10 (zM_of zq_218))
-- M.isInForce
theorem p_219_0 : zP1 219 0 = some (.aload_n 0, 0, 0, 0) := zp_l zq_219 rfl
theorem p_219_1 : zP1 219 1 = some (.getfield 9, 11, 0, 0) := zp_r zq_219 rfl
theorem p_219_4 : zP1 219 4 = some (.iload_n 1, 0, 0, 0) := zp_l zq_219 rfl
theorem p_219_5 : zP1 219 5 = some (.iconst 2, 0, 0, 0) := zp_l zq_219 rfl
theorem p_219_6 : zP1 219 6 = some (.invokestatic 144, 218, 2, 0) := zp_r zq_219 rfl
theorem p_219_9 : zP1 219 9 = some (.iaload, 0, 0, 0) := zp_l zq_219 rfl
theorem p_219_10 : zP1 219 10 = some (.istore_n 3, 0, 0, 0) := zp_l zq_219 rfl
theorem p_219_11 : zP1 219 11 = some (.aload_n 0, 0, 0, 0) := zp_l zq_219 rfl
theorem p_219_12 : zP1 219 12 = some (.getfield 38, 11, 13, 0) := zp_r zq_219 rfl
theorem p_219_15 : zP1 219 15 = some (.ifCond .lt 19, 0, 0, 0) := zp_l zq_219 rfl
theorem p_219_18 : zP1 219 18 = some (.iload_n 1, 0, 0, 0) := zp_l zq_219 rfl
theorem p_219_19 : zP1 219 19 = some (.aload_n 0, 0, 0, 0) := zp_l zq_219 rfl
theorem p_219_20 : zP1 219 20 = some (.getfield 38, 11, 13, 0) := zp_r zq_219 rfl
theorem p_219_23 : zP1 219 23 = some (.if_icmp .ne 7, 0, 0, 0) := zp_l zq_219 rfl
theorem p_219_26 : zP1 219 26 = some (.iconst 1, 0, 0, 0) := zp_l zq_219 rfl
theorem p_219_27 : zP1 219 27 = some (.goto 37, 0, 0, 0) := zp_l zq_219 rfl
theorem p_219_30 : zP1 219 30 = some (.iconst 0, 0, 0, 0) := zp_l zq_219 rfl
theorem p_219_31 : zP1 219 31 = some (.goto 33, 0, 0, 0) := zp_l zq_219 rfl
theorem p_219_34 : zP1 219 34 = some (.aload_n 0, 0, 0, 0) := zp_l zq_219 rfl
theorem p_219_35 : zP1 219 35 = some (.getfield 9, 11, 0, 0) := zp_r zq_219 rfl
theorem p_219_38 : zP1 219 38 = some (.iload_n 1, 0, 0, 0) := zp_l zq_219 rfl
theorem p_219_39 : zP1 219 39 = some (.iconst 1, 0, 0, 0) := zp_l zq_219 rfl
theorem p_219_40 : zP1 219 40 = some (.invokestatic 144, 218, 2, 0) := zp_r zq_219 rfl
theorem p_219_43 : zP1 219 43 = some (.iaload, 0, 0, 0) := zp_l zq_219 rfl
theorem p_219_44 : zP1 219 44 = some (.iload_n 2, 0, 0, 0) := zp_l zq_219 rfl
theorem p_219_45 : zP1 219 45 = some (.if_icmp .gt 18, 0, 0, 0) := zp_l zq_219 rfl
theorem p_219_48 : zP1 219 48 = some (.iload_n 3, 0, 0, 0) := zp_l zq_219 rfl
theorem p_219_49 : zP1 219 49 = some (.bipush (-3), 0, 0, 0) := zp_l zq_219 rfl
theorem p_219_51 : zP1 219 51 = some (.if_icmp .eq 8, 0, 0, 0) := zp_l zq_219 rfl
theorem p_219_54 : zP1 219 54 = some (.iload_n 2, 0, 0, 0) := zp_l zq_219 rfl
theorem p_219_55 : zP1 219 55 = some (.iload_n 3, 0, 0, 0) := zp_l zq_219 rfl
theorem p_219_56 : zP1 219 56 = some (.if_icmp .ge 7, 0, 0, 0) := zp_l zq_219 rfl
theorem p_219_59 : zP1 219 59 = some (.iconst 1, 0, 0, 0) := zp_l zq_219 rfl
theorem p_219_60 : zP1 219 60 = some (.goto 4, 0, 0, 0) := zp_l zq_219 rfl
theorem p_219_63 : zP1 219 63 = some (.iconst 0, 0, 0, 0) := zp_l zq_219 rfl
theorem p_219_64 : zP1 219 64 = some (.ireturn, 0, 0, 0) := zp_l zq_219 rfl
theorem b_219_0 {x1 : Int} {x2 : Int} : Z e (d + 1) 219 0 [.ref 246, .int (iI x1), .int (iI x2), .retAddr 0] [] m = ck (0 ≤ (wr ((266 + (44 * x1)) + 2)) ∧ (wr ((266 + (44 * x1)) + 2)) < 2737) (ck ((¬ (0 ≤ (wr (m 246 13)))) → (0 ≤ (wr ((266 + (44 * x1)) + 1)) ∧ (wr ((266 + (44 * x1)) + 1)) < 2737)) (ck (nbp (if 0 ≤ (wr (m 246 13)) then (if (wr x1) = (wr (m 246 13)) then 1 else 0) else (if ((wr (m 247 (wr ((266 + (44 * x1)) + 1)))) ≤ (wr x2)) ∧ (((wr (m 247 (wr ((266 + (44 * x1)) + 2)))) = (-3)) ∨ ((wr x2) < (wr (m 247 (wr ((266 + (44 * x1)) + 2)))))) then 1 else 0))) (ri (if 0 ≤ (wr (m 246 13)) then (if (wr x1) = (wr (m 246 13)) then 1 else 0) else (if ((wr (m 247 (wr ((266 + (44 * x1)) + 1)))) ≤ (wr x2)) ∧ (((wr (m 247 (wr ((266 + (44 * x1)) + 2)))) = (-3)) ∨ ((wr x2) < (wr (m 247 (wr ((266 + (44 * x1)) + 2)))))) then 1 else 0)) m))) := (s_al_0 p_219_0).trans <| (s_getr p_219_1 hs_246 (by decide) rfl).trans <| (s_il_1 p_219_4).trans <| (s_const p_219_5).trans <| (s_cs2 (Lc := [.int (iI x1), .int (iI 2)]) p_219_6 (by decide) (zM_of zq_218) ⟨Nat.le_of_ble_eq_true rfl, Nat.le_of_ble_eq_true rfl⟩ rfl).trans <| (bd b_218_0).trans <| ri_k.trans <| (s_ald 2737 p_219_9 hs_247 rfl (by decide)).trans <| ck_cg fun k1 => (s_is_3 cat_i p_219_10).trans <| (s_al_0 p_219_11).trans <| (s_get p_219_12 hs_246 (by decide) rfl).trans <| Eq.trans (Eq.trans ((s_z_lt_f p_219_15 rfl rfl)) <| Eq.trans (ite_cg ((s_il_1 p_219_18).trans <| (s_al_0 p_219_19).trans <| (s_get p_219_20 hs_246 (by decide) rfl).trans <| Eq.trans (Eq.trans ((s_c_ne_f p_219_23 rfl rfl rfl)) <| Eq.trans (ite_cg ((s_const p_219_26).trans <| (s_goto p_219_27 rfl).trans <| rfl) ((s_const p_219_30).trans <| (s_goto p_219_31 rfl).trans <| rfl)) (phi1 (fun z0 => Z e (d + 1) 219 64 [.ref 246, .int (iI x1), .int (iI x2), .int (iI (m 247 (wr ((266 + (44 * x1)) + 2))))] [.int (iI z0)] m))) <| rfl) ((s_al_0 p_219_34).trans <| (s_getr p_219_35 hs_246 (by decide) rfl).trans <| (s_il_1 p_219_38).trans <| (s_const p_219_39).trans <| (s_cs2 (Lc := [.int (iI x1), .int (iI 1)]) p_219_40 (by decide) (zM_of zq_218) ⟨Nat.le_of_ble_eq_true rfl, Nat.le_of_ble_eq_true rfl⟩ rfl).trans <| (bd b_218_0).trans <| ri_k.trans <| (s_ald 2737 p_219_43 hs_247 rfl (by decide)).trans <| ck_cg fun k2 => (s_il_2 p_219_44).trans <| Eq.trans (Eq.trans (Eq.trans (s_c_gt_f p_219_45 rfl rfl rfl) <| Eq.trans (ite_cg ((s_il_3 p_219_48).trans <| (s_bip p_219_49 rfl).trans <| Eq.trans (s_c_eq_t p_219_51 rfl rfl wl_m3) <| Eq.trans (ite_cg rfl ((s_il_2 p_219_54).trans <| (s_il_3 p_219_55).trans <| (s_c_ge_f p_219_56 rfl rfl rfl))) co_or) rfl) co_and) <| Eq.trans (ite_cg ((s_const p_219_59).trans <| (s_goto p_219_60 rfl).trans <| rfl) ((s_const p_219_63).trans <| rfl)) (phi1 (fun z0 => Z e (d + 1) 219 64 [.ref 246, .int (iI x1), .int (iI x2), .int (iI (m 247 (wr ((266 + (44 * x1)) + 2))))] [.int (iI z0)] m))) <| rfl)) <| Eq.trans ck_b <| ck_cg fun _ => (phi1 (fun z0 => Z e (d + 1) 219 64 [.ref 246, .int (iI x1), .int (iI x2), .int (iI (m 247 (wr ((266 + (44 * x1)) + 2))))] [.int (iI z0)] m))) <| ck_cg fun _ => (s_retx p_219_64 (zM_of zq_219))
-- M.inForce
theorem p_220_0 : zP1 220 0 = some (.iconst (-1), 0, 0, 0) := zp_l zq_220 rfl
theorem p_220_1 : zP1 220 1 = some (.istore_n 3, 0, 0, 0) := zp_l zq_220 rfl
theorem p_220_2 : zP1 220 2 = some (.iconst 0, 0, 0, 0) := zp_l zq_220 rfl
theorem p_220_3 : zP1 220 3 = some (.istore 4, 0, 0, 0) := zp_l zq_220 rfl
theorem p_220_5 : zP1 220 5 = some (.iload 4, 0, 0, 0) := zp_l zq_220 rfl
theorem p_220_7 : zP1 220 7 = some (.aload_n 0, 0, 0, 0) := zp_l zq_220 rfl
theorem p_220_8 : zP1 220 8 = some (.getfield 9, 11, 0, 0) := zp_r zq_220 rfl
theorem p_220_11 : zP1 220 11 = some (.iconst 3, 0, 0, 0) := zp_l zq_220 rfl
theorem p_220_12 : zP1 220 12 = some (.iaload, 0, 0, 0) := zp_l zq_220 rfl
theorem p_220_13 : zP1 220 13 = some (.if_icmp .ge 41, 0, 0, 0) := zp_l zq_220 rfl
theorem p_220_16 : zP1 220 16 = some (.aload_n 0, 0, 0, 0) := zp_l zq_220 rfl
theorem p_220_17 : zP1 220 17 = some (.getfield 9, 11, 0, 0) := zp_r zq_220 rfl
theorem p_220_20 : zP1 220 20 = some (.iload 4, 0, 0, 0) := zp_l zq_220 rfl
theorem p_220_22 : zP1 220 22 = some (.iconst 0, 0, 0, 0) := zp_l zq_220 rfl
theorem p_220_23 : zP1 220 23 = some (.invokestatic 144, 218, 2, 0) := zp_r zq_220 rfl
theorem p_220_26 : zP1 220 26 = some (.iaload, 0, 0, 0) := zp_l zq_220 rfl
theorem p_220_27 : zP1 220 27 = some (.iload_n 1, 0, 0, 0) := zp_l zq_220 rfl
theorem p_220_28 : zP1 220 28 = some (.if_icmp .ne 18, 0, 0, 0) := zp_l zq_220 rfl
theorem p_220_31 : zP1 220 31 = some (.aload_n 0, 0, 0, 0) := zp_l zq_220 rfl
theorem p_220_32 : zP1 220 32 = some (.iload 4, 0, 0, 0) := zp_l zq_220 rfl
theorem p_220_34 : zP1 220 34 = some (.iload_n 2, 0, 0, 0) := zp_l zq_220 rfl
theorem p_220_35 : zP1 220 35 = some (.invokevirtual 147, 219, 2, 11) := zp_r zq_220 rfl
theorem p_220_38 : zP1 220 38 = some (.ifCond .eq 8, 0, 0, 0) := zp_l zq_220 rfl
theorem p_220_41 : zP1 220 41 = some (.iload 4, 0, 0, 0) := zp_l zq_220 rfl
theorem p_220_43 : zP1 220 43 = some (.goto 4, 0, 0, 0) := zp_l zq_220 rfl
theorem p_220_46 : zP1 220 46 = some (.iload_n 3, 0, 0, 0) := zp_l zq_220 rfl
theorem p_220_47 : zP1 220 47 = some (.istore_n 3, 0, 0, 0) := zp_l zq_220 rfl
theorem p_220_48 : zP1 220 48 = some (.iinc 4 1, 0, 0, 0) := zp_l zq_220 rfl
theorem p_220_51 : zP1 220 51 = some (.goto (-46), 0, 0, 0) := zp_l zq_220 rfl
theorem p_220_54 : zP1 220 54 = some (.iload_n 3, 0, 0, 0) := zp_l zq_220 rfl
theorem p_220_55 : zP1 220 55 = some (.ireturn, 0, 0, 0) := zp_l zq_220 rfl
theorem b_220_0 {x1 : Int} {x2 : Int} : Z e (d + 2) 220 0 [.ref 246, .int (iI x1), .int (iI x2), .retAddr 0, .retAddr 0] [] m = Z e (d + 2) 220 5 [.ref 246, .int (iI x1), .int (iI x2), .int (iI (-1)), .int (iI 0)] [] m := (s_const p_220_0).trans <| (s_is_3 cat_i p_220_1).trans <| (s_const p_220_2).trans <| (s_is_4 cat_i p_220_3).trans <| rfl
theorem b_220_5 {x1 : Int} {x2 : Int} {x3 : Int} {x4 : Int} : Z e (d + 2) 220 5 [.ref 246, .int (iI x1), .int (iI x2), .int (iI x3), .int (iI x4)] [] m = (if (wr x4) < (wr (m 247 3)) then ck (0 ≤ (wr ((266 + (44 * x4)) + 0)) ∧ (wr ((266 + (44 * x4)) + 0)) < 2737) (ck (((wr (m 247 (wr ((266 + (44 * x4)) + 0)))) = (wr x1)) → ((0 ≤ (wr ((266 + (44 * x4)) + 2)) ∧ (wr ((266 + (44 * x4)) + 2)) < 2737) ∧ (((¬ (0 ≤ (wr (m 246 13)))) → (0 ≤ (wr ((266 + (44 * x4)) + 1)) ∧ (wr ((266 + (44 * x4)) + 1)) < 2737)) ∧ (nbp (if 0 ≤ (wr (m 246 13)) then (if (wr x4) = (wr (m 246 13)) then 1 else 0) else (if ((wr (m 247 (wr ((266 + (44 * x4)) + 1)))) ≤ (wr x2)) ∧ (((wr (m 247 (wr ((266 + (44 * x4)) + 2)))) = (-3)) ∨ ((wr x2) < (wr (m 247 (wr ((266 + (44 * x4)) + 2)))))) then 1 else 0)))))) (Z e (d + 2) 220 5 [.ref 246, .int (iI x1), .int (iI x2), .int (iI (if ((wr (m 247 (wr ((266 + (44 * x4)) + 0)))) = (wr x1)) ∧ (¬ (wr (if 0 ≤ (wr (m 246 13)) then (if (wr x4) = (wr (m 246 13)) then 1 else 0) else (if ((wr (m 247 (wr ((266 + (44 * x4)) + 1)))) ≤ (wr x2)) ∧ (((wr (m 247 (wr ((266 + (44 * x4)) + 2)))) = (-3)) ∨ ((wr x2) < (wr (m 247 (wr ((266 + (44 * x4)) + 2)))))) then 1 else 0))) = 0) then x4 else x3)), .int (iI (x4 + 1))] [] m)) else ri x3 m) := (s_il_4 p_220_5).trans <| (s_al_0 p_220_7).trans <| (s_getr p_220_8 hs_246 (by decide) rfl).trans <| (s_const p_220_11).trans <| (s_aldc p_220_12 hs_247 (by decide) wl_3 (by decide)).trans <| Eq.trans ((s_c_ge_f p_220_13 rfl rfl rfl)) <| ite_cg ((s_al_0 p_220_16).trans <| (s_getr p_220_17 hs_246 (by decide) rfl).trans <| (s_il_4 p_220_20).trans <| (s_const p_220_22).trans <| (s_cs2 (Lc := [.int (iI x4), .int (iI 0)]) p_220_23 (by decide) (zM_of zq_218) ⟨Nat.le_of_ble_eq_true rfl, Nat.le_of_ble_eq_true rfl⟩ rfl).trans <| (bd b_218_0).trans <| ri_k.trans <| (s_ald 2737 p_220_26 hs_247 rfl (by decide)).trans <| ck_cg fun k5 => (s_il_1 p_220_27).trans <| Eq.trans (Eq.trans (Eq.trans (s_c_ne_f p_220_28 rfl rfl rfl) <| Eq.trans (ite_cg ((s_al_0 p_220_31).trans <| (s_il_4 p_220_32).trans <| (s_il_2 p_220_34).trans <| (s_cv2 (Lc := [.ref 246, .int (iI x4), .int (iI x2), .retAddr 0]) p_220_35 (by decide) (by decide) (zM_of zq_219) ⟨Nat.le_of_ble_eq_true rfl, Nat.le_of_ble_eq_true rfl⟩ rfl (m_rc hs_246 ⟨rfl, by decide⟩)).trans <| (bd b_219_0).trans <| ck_bind.trans <| Eq.trans (ck_cg fun k6 => ck_bind.trans <| Eq.trans (ck_cg fun k7 => ck_bind.trans <| ck_cg fun k8 => ri_k.trans <| (s_z_eq_f p_220_38 rfl rfl)) ck_ck) ck_ck) rfl) <| Eq.trans ck_a <| ck_cg fun _ => co_and) <| ck_cg fun _ => Eq.trans (ite_cg ((s_il_4 p_220_41).trans <| (s_goto p_220_43 rfl).trans <| rfl) ((s_il_3 p_220_46).trans <| rfl)) (phi1 (fun z0 => Z e (d + 2) 220 47 [.ref 246, .int (iI x1), .int (iI x2), .int (iI x3), .int (iI x4)] [.int (iI z0)] m))) <| ck_cg fun _ => (s_is_3 cat_i p_220_47).trans <| (s_inc_4 cat_i p_220_48).trans <| (s_goto p_220_51 rfl).trans <| rfl) ((s_il_3 p_220_54).trans <| (s_reti p_220_55 (zM_of zq_220)))
-- M.ruled
theorem p_221_0 : zP1 221 0 = some (.iload_n 2, 0, 0, 0) := zp_l zq_221 rfl
theorem p_221_1 : zP1 221 1 = some (.ifCond .ne 7, 0, 0, 0) := zp_l zq_221 rfl
theorem p_221_4 : zP1 221 4 = some (.iconst 3, 0, 0, 0) := zp_l zq_221 rfl
theorem p_221_5 : zP1 221 5 = some (.goto 14, 0, 0, 0) := zp_l zq_221 rfl
theorem p_221_8 : zP1 221 8 = some (.iload_n 2, 0, 0, 0) := zp_l zq_221 rfl
theorem p_221_9 : zP1 221 9 = some (.iconst 1, 0, 0, 0) := zp_l zq_221 rfl
theorem p_221_10 : zP1 221 10 = some (.if_icmp .ne 7, 0, 0, 0) := zp_l zq_221 rfl
theorem p_221_13 : zP1 221 13 = some (.iconst 0, 0, 0, 0) := zp_l zq_221 rfl
theorem p_221_14 : zP1 221 14 = some (.goto 5, 0, 0, 0) := zp_l zq_221 rfl
theorem p_221_17 : zP1 221 17 = some (.bipush 40, 0, 0, 0) := zp_l zq_221 rfl
theorem p_221_19 : zP1 221 19 = some (.istore_n 3, 0, 0, 0) := zp_l zq_221 rfl
theorem p_221_20 : zP1 221 20 = some (.iconst 0, 0, 0, 0) := zp_l zq_221 rfl
theorem p_221_21 : zP1 221 21 = some (.istore 4, 0, 0, 0) := zp_l zq_221 rfl
theorem p_221_23 : zP1 221 23 = some (.iload 4, 0, 0, 0) := zp_l zq_221 rfl
theorem p_221_25 : zP1 221 25 = some (.iconst 3, 0, 0, 0) := zp_l zq_221 rfl
theorem p_221_26 : zP1 221 26 = some (.if_icmp .ge 137, 0, 0, 0) := zp_l zq_221 rfl
theorem p_221_29 : zP1 221 29 = some (.aload_n 0, 0, 0, 0) := zp_l zq_221 rfl
theorem p_221_30 : zP1 221 30 = some (.iload 4, 0, 0, 0) := zp_l zq_221 rfl
theorem p_221_32 : zP1 221 32 = some (.iload_n 1, 0, 0, 0) := zp_l zq_221 rfl
theorem p_221_33 : zP1 221 33 = some (.invokevirtual 151, 220, 2, 11) := zp_r zq_221 rfl
theorem p_221_36 : zP1 221 36 = some (.istore 5, 0, 0, 0) := zp_l zq_221 rfl
theorem p_221_38 : zP1 221 38 = some (.iconst 0, 0, 0, 0) := zp_l zq_221 rfl
theorem p_221_39 : zP1 221 39 = some (.istore 6, 0, 0, 0) := zp_l zq_221 rfl
theorem p_221_41 : zP1 221 41 = some (.iload 5, 0, 0, 0) := zp_l zq_221 rfl
theorem p_221_43 : zP1 221 43 = some (.ifCond .lt 114, 0, 0, 0) := zp_l zq_221 rfl
theorem p_221_46 : zP1 221 46 = some (.iload 6, 0, 0, 0) := zp_l zq_221 rfl
theorem p_221_48 : zP1 221 48 = some (.aload_n 0, 0, 0, 0) := zp_l zq_221 rfl
theorem p_221_49 : zP1 221 49 = some (.getfield 9, 11, 0, 0) := zp_r zq_221 rfl
theorem p_221_52 : zP1 221 52 = some (.iload 5, 0, 0, 0) := zp_l zq_221 rfl
theorem p_221_54 : zP1 221 54 = some (.iconst 3, 0, 0, 0) := zp_l zq_221 rfl
theorem p_221_55 : zP1 221 55 = some (.invokestatic 144, 218, 2, 0) := zp_r zq_221 rfl
theorem p_221_58 : zP1 221 58 = some (.iaload, 0, 0, 0) := zp_l zq_221 rfl
theorem p_221_59 : zP1 221 59 = some (.if_icmp .ge 98, 0, 0, 0) := zp_l zq_221 rfl
theorem p_221_62 : zP1 221 62 = some (.aload_n 0, 0, 0, 0) := zp_l zq_221 rfl
theorem p_221_63 : zP1 221 63 = some (.getfield 9, 11, 0, 0) := zp_r zq_221 rfl
theorem p_221_66 : zP1 221 66 = some (.iload 5, 0, 0, 0) := zp_l zq_221 rfl
theorem p_221_68 : zP1 221 68 = some (.iconst 4, 0, 0, 0) := zp_l zq_221 rfl
theorem p_221_69 : zP1 221 69 = some (.iconst 4, 0, 0, 0) := zp_l zq_221 rfl
theorem p_221_70 : zP1 221 70 = some (.iload 6, 0, 0, 0) := zp_l zq_221 rfl
theorem p_221_72 : zP1 221 72 = some (.imul, 0, 0, 0) := zp_l zq_221 rfl
theorem p_221_73 : zP1 221 73 = some (.iadd, 0, 0, 0) := zp_l zq_221 rfl
theorem p_221_74 : zP1 221 74 = some (.invokestatic 144, 218, 2, 0) := zp_r zq_221 rfl
theorem p_221_77 : zP1 221 77 = some (.iaload, 0, 0, 0) := zp_l zq_221 rfl
theorem p_221_78 : zP1 221 78 = some (.istore 7, 0, 0, 0) := zp_l zq_221 rfl
theorem p_221_80 : zP1 221 80 = some (.aload_n 0, 0, 0, 0) := zp_l zq_221 rfl
theorem p_221_81 : zP1 221 81 = some (.getfield 9, 11, 0, 0) := zp_r zq_221 rfl
theorem p_221_84 : zP1 221 84 = some (.iload 5, 0, 0, 0) := zp_l zq_221 rfl
theorem p_221_86 : zP1 221 86 = some (.iconst 4, 0, 0, 0) := zp_l zq_221 rfl
theorem p_221_87 : zP1 221 87 = some (.iconst 4, 0, 0, 0) := zp_l zq_221 rfl
theorem p_221_88 : zP1 221 88 = some (.iload 6, 0, 0, 0) := zp_l zq_221 rfl
theorem p_221_90 : zP1 221 90 = some (.imul, 0, 0, 0) := zp_l zq_221 rfl
theorem p_221_91 : zP1 221 91 = some (.iadd, 0, 0, 0) := zp_l zq_221 rfl
theorem p_221_92 : zP1 221 92 = some (.iconst 1, 0, 0, 0) := zp_l zq_221 rfl
theorem p_221_93 : zP1 221 93 = some (.iadd, 0, 0, 0) := zp_l zq_221 rfl
theorem p_221_94 : zP1 221 94 = some (.invokestatic 144, 218, 2, 0) := zp_r zq_221 rfl
theorem p_221_97 : zP1 221 97 = some (.iaload, 0, 0, 0) := zp_l zq_221 rfl
theorem p_221_98 : zP1 221 98 = some (.istore 8, 0, 0, 0) := zp_l zq_221 rfl
theorem p_221_100 : zP1 221 100 = some (.iload_n 2, 0, 0, 0) := zp_l zq_221 rfl
theorem p_221_101 : zP1 221 101 = some (.ifCond .ne 8, 0, 0, 0) := zp_l zq_221 rfl
theorem p_221_104 : zP1 221 104 = some (.iload 7, 0, 0, 0) := zp_l zq_221 rfl
theorem p_221_106 : zP1 221 106 = some (.ifCond .eq 14, 0, 0, 0) := zp_l zq_221 rfl
theorem p_221_109 : zP1 221 109 = some (.iload_n 2, 0, 0, 0) := zp_l zq_221 rfl
theorem p_221_110 : zP1 221 110 = some (.iconst 2, 0, 0, 0) := zp_l zq_221 rfl
theorem p_221_111 : zP1 221 111 = some (.if_icmp .ne 14, 0, 0, 0) := zp_l zq_221 rfl
theorem p_221_114 : zP1 221 114 = some (.iload 7, 0, 0, 0) := zp_l zq_221 rfl
theorem p_221_116 : zP1 221 116 = some (.iconst 3, 0, 0, 0) := zp_l zq_221 rfl
theorem p_221_117 : zP1 221 117 = some (.if_icmp .ne 8, 0, 0, 0) := zp_l zq_221 rfl
theorem p_221_120 : zP1 221 120 = some (.iload 8, 0, 0, 0) := zp_l zq_221 rfl
theorem p_221_122 : zP1 221 122 = some (.goto 28, 0, 0, 0) := zp_l zq_221 rfl
theorem p_221_125 : zP1 221 125 = some (.iload_n 2, 0, 0, 0) := zp_l zq_221 rfl
theorem p_221_126 : zP1 221 126 = some (.iconst 1, 0, 0, 0) := zp_l zq_221 rfl
theorem p_221_127 : zP1 221 127 = some (.if_icmp .ne 22, 0, 0, 0) := zp_l zq_221 rfl
theorem p_221_130 : zP1 221 130 = some (.iload 7, 0, 0, 0) := zp_l zq_221 rfl
theorem p_221_132 : zP1 221 132 = some (.iconst 1, 0, 0, 0) := zp_l zq_221 rfl
theorem p_221_133 : zP1 221 133 = some (.if_icmp .eq 9, 0, 0, 0) := zp_l zq_221 rfl
theorem p_221_136 : zP1 221 136 = some (.iload 7, 0, 0, 0) := zp_l zq_221 rfl
theorem p_221_138 : zP1 221 138 = some (.iconst 2, 0, 0, 0) := zp_l zq_221 rfl
theorem p_221_139 : zP1 221 139 = some (.if_icmp .ne 10, 0, 0, 0) := zp_l zq_221 rfl
theorem p_221_142 : zP1 221 142 = some (.iload 7, 0, 0, 0) := zp_l zq_221 rfl
theorem p_221_144 : zP1 221 144 = some (.iconst 1, 0, 0, 0) := zp_l zq_221 rfl
theorem p_221_145 : zP1 221 145 = some (.isub, 0, 0, 0) := zp_l zq_221 rfl
theorem p_221_146 : zP1 221 146 = some (.goto 4, 0, 0, 0) := zp_l zq_221 rfl
theorem p_221_149 : zP1 221 149 = some (.iload_n 3, 0, 0, 0) := zp_l zq_221 rfl
theorem p_221_150 : zP1 221 150 = some (.istore_n 3, 0, 0, 0) := zp_l zq_221 rfl
theorem p_221_151 : zP1 221 151 = some (.iinc 6 1, 0, 0, 0) := zp_l zq_221 rfl
theorem p_221_154 : zP1 221 154 = some (.goto (-113), 0, 0, 0) := zp_l zq_221 rfl
theorem p_221_157 : zP1 221 157 = some (.iinc 4 1, 0, 0, 0) := zp_l zq_221 rfl
theorem p_221_160 : zP1 221 160 = some (.goto (-137), 0, 0, 0) := zp_l zq_221 rfl
theorem p_221_163 : zP1 221 163 = some (.iload_n 3, 0, 0, 0) := zp_l zq_221 rfl
theorem p_221_164 : zP1 221 164 = some (.ireturn, 0, 0, 0) := zp_l zq_221 rfl
theorem b_221_0 {x1 : Int} {x2 : Int} : Z e (d + 1) 221 0 [.ref 246, .int (iI x1), .int (iI x2), .retAddr 0, .retAddr 0, .retAddr 0, .retAddr 0, .retAddr 0, .retAddr 0] [] m = Z e (d + 1) 221 23 [.ref 246, .int (iI x1), .int (iI x2), .int (iI (if (wr x2) = 0 then 3 else (if (wr x2) = 1 then 0 else 40))), .int (iI 0), .retAddr 0, .retAddr 0, .retAddr 0, .retAddr 0] [] m := (s_il_2 p_221_0).trans <| Eq.trans (Eq.trans ((s_z_ne_f p_221_1 rfl rfl)) <| Eq.trans (ite_cg ((s_const p_221_4).trans <| (s_goto p_221_5 rfl).trans <| rfl) ((s_il_2 p_221_8).trans <| (s_const p_221_9).trans <| Eq.trans (Eq.trans ((s_c_ne_f p_221_10 rfl rfl wl_1)) <| Eq.trans (ite_cg ((s_const p_221_13).trans <| (s_goto p_221_14 rfl).trans <| rfl) ((s_bip p_221_17 rfl).trans <| rfl)) (phi1 (fun z0 => Z e (d + 1) 221 19 [.ref 246, .int (iI x1), .int (iI x2), .retAddr 0, .retAddr 0, .retAddr 0, .retAddr 0, .retAddr 0, .retAddr 0] [.int (iI z0)] m))) <| rfl)) (phi1 (fun z0 => Z e (d + 1) 221 19 [.ref 246, .int (iI x1), .int (iI x2), .retAddr 0, .retAddr 0, .retAddr 0, .retAddr 0, .retAddr 0, .retAddr 0] [.int (iI z0)] m))) <| (s_is_3 cat_i p_221_19).trans <| (s_const p_221_20).trans <| (s_is_4 cat_i p_221_21).trans <| rfl
theorem b_221_23 {x1 : Int} {x2 : Int} {x3 : Int} {x4 : Int} {u5 u6 u7 u8 : Value} : Z e (d + 1) 221 23 [.ref 246, .int (iI x1), .int (iI x2), .int (iI x3), .int (iI x4), u5, u6, u7, u8] [] m = (if (wr x4) < 3 then (Z e d 220 0 [.ref 246, .int (iI x4), .int (iI x1), .retAddr 0, .retAddr 0] [] m).bind (ZK e (d + 1) 221 36 [.ref 246, .int (iI x1), .int (iI x2), .int (iI x3), .int (iI x4), u5, u6, u7, u8] [] m) else ri x3 m) := (s_il_4 p_221_23).trans <| (s_const p_221_25).trans <| Eq.trans ((s_c_ge_f p_221_26 rfl rfl wl_3)) <| ite_cg ((s_al_0 p_221_29).trans <| (s_il_4 p_221_30).trans <| (s_il_1 p_221_32).trans <| (s_cv2 (Lc := [.ref 246, .int (iI x4), .int (iI x1), .retAddr 0, .retAddr 0]) p_221_33 (by decide) (by decide) (zM_of zq_220) ⟨Nat.le_of_ble_eq_true rfl, Nat.le_of_ble_eq_true rfl⟩ rfl (m_rc hs_246 ⟨rfl, by decide⟩))) ((s_il_3 p_221_163).trans <| (s_reti p_221_164 (zM_of zq_221)))
theorem b_221_41 {x1 : Int} {x2 : Int} {x3 : Int} {x4 : Int} {x5 : Int} {x6 : Int} {u7 u8 : Value} : Z e (d + 1) 221 41 [.ref 246, .int (iI x1), .int (iI x2), .int (iI x3), .int (iI x4), .int (iI x5), .int (iI x6), u7, u8] [] m = ck ((0 ≤ (wr x5)) → (0 ≤ (wr ((266 + (44 * x5)) + 3)) ∧ (wr ((266 + (44 * x5)) + 3)) < 2737)) (if (0 ≤ (wr x5)) ∧ ((wr x6) < (wr (m 247 (wr ((266 + (44 * x5)) + 3))))) then ck (0 ≤ (wr ((266 + (44 * x5)) + (4 + (4 * x6)))) ∧ (wr ((266 + (44 * x5)) + (4 + (4 * x6)))) < 2737) (ck (0 ≤ (wr ((266 + (44 * x5)) + ((4 + (4 * x6)) + 1))) ∧ (wr ((266 + (44 * x5)) + ((4 + (4 * x6)) + 1))) < 2737) (Z e (d + 1) 221 41 [.ref 246, .int (iI x1), .int (iI x2), .int (iI (if (wr x2) = 0 then (if ((wr (m 247 (wr ((266 + (44 * x5)) + (4 + (4 * x6)))))) = 0) ∨ (((wr x2) = 2) ∧ ((wr (m 247 (wr ((266 + (44 * x5)) + (4 + (4 * x6)))))) = 3)) then (m 247 (wr ((266 + (44 * x5)) + ((4 + (4 * x6)) + 1)))) else (if ((wr x2) = 1) ∧ (((wr (m 247 (wr ((266 + (44 * x5)) + (4 + (4 * x6)))))) = 1) ∨ ((wr (m 247 (wr ((266 + (44 * x5)) + (4 + (4 * x6)))))) = 2)) then ((m 247 (wr ((266 + (44 * x5)) + (4 + (4 * x6))))) - 1) else x3)) else (if ((wr x2) = 2) ∧ ((wr (m 247 (wr ((266 + (44 * x5)) + (4 + (4 * x6)))))) = 3) then (m 247 (wr ((266 + (44 * x5)) + ((4 + (4 * x6)) + 1)))) else (if ((wr x2) = 1) ∧ (((wr (m 247 (wr ((266 + (44 * x5)) + (4 + (4 * x6)))))) = 1) ∨ ((wr (m 247 (wr ((266 + (44 * x5)) + (4 + (4 * x6)))))) = 2)) then ((m 247 (wr ((266 + (44 * x5)) + (4 + (4 * x6))))) - 1) else x3)))), .int (iI x4), .int (iI x5), .int (iI (x6 + 1)), .int (iI (m 247 (wr ((266 + (44 * x5)) + (4 + (4 * x6)))))), .int (iI (m 247 (wr ((266 + (44 * x5)) + ((4 + (4 * x6)) + 1)))))] [] m)) else Z e (d + 1) 221 23 [.ref 246, .int (iI x1), .int (iI x2), .int (iI x3), .int (iI (x4 + 1)), .int (iI x5), .int (iI x6), u7, u8] [] m) := (s_il_5 p_221_41).trans <| Eq.trans (Eq.trans (s_z_lt_f p_221_43 rfl rfl) <| Eq.trans (ite_cg ((s_il_6 p_221_46).trans <| (s_al_0 p_221_48).trans <| (s_getr p_221_49 hs_246 (by decide) rfl).trans <| (s_il_5 p_221_52).trans <| (s_const p_221_54).trans <| (s_cs2 (Lc := [.int (iI x5), .int (iI 3)]) p_221_55 (by decide) (zM_of zq_218) ⟨Nat.le_of_ble_eq_true rfl, Nat.le_of_ble_eq_true rfl⟩ rfl).trans <| (bd b_218_0).trans <| ri_k.trans <| (s_ald 2737 p_221_58 hs_247 rfl (by decide)).trans <| ck_cg fun k4 => (s_c_ge_f p_221_59 rfl rfl rfl)) rfl) <| Eq.trans ck_a <| ck_cg fun _ => co_and) <| ck_cg fun _ => ite_cg ((s_al_0 p_221_62).trans <| (s_getr p_221_63 hs_246 (by decide) rfl).trans <| (s_il_5 p_221_66).trans <| (s_const p_221_68).trans <| (s_const p_221_69).trans <| (s_il_6 p_221_70).trans <| (s_imul p_221_72).trans <| (s_iadd p_221_73).trans <| (s_cs2 (Lc := [.int (iI x5), .int (iI (4 + (4 * x6)))]) p_221_74 (by decide) (zM_of zq_218) ⟨Nat.le_of_ble_eq_true rfl, Nat.le_of_ble_eq_true rfl⟩ rfl).trans <| (bd b_218_0).trans <| ri_k.trans <| (s_ald 2737 p_221_77 hs_247 rfl (by decide)).trans <| ck_cg fun k5 => (s_is_7 cat_i p_221_78).trans <| (s_al_0 p_221_80).trans <| (s_getr p_221_81 hs_246 (by decide) rfl).trans <| (s_il_5 p_221_84).trans <| (s_const p_221_86).trans <| (s_const p_221_87).trans <| (s_il_6 p_221_88).trans <| (s_imul p_221_90).trans <| (s_iadd p_221_91).trans <| (s_const p_221_92).trans <| (s_iadd p_221_93).trans <| (s_cs2 (Lc := [.int (iI x5), .int (iI ((4 + (4 * x6)) + 1))]) p_221_94 (by decide) (zM_of zq_218) ⟨Nat.le_of_ble_eq_true rfl, Nat.le_of_ble_eq_true rfl⟩ rfl).trans <| (bd b_218_0).trans <| ri_k.trans <| (s_ald 2737 p_221_97 hs_247 rfl (by decide)).trans <| ck_cg fun k6 => (s_is_8 cat_i p_221_98).trans <| (s_il_2 p_221_100).trans <| Eq.trans (Eq.trans ((s_z_ne_f p_221_101 rfl rfl)) <| Eq.trans (ite_cg ((s_il_7 p_221_104).trans <| Eq.trans (Eq.trans (Eq.trans (s_z_eq_t p_221_106 rfl rfl) <| Eq.trans (ite_cg rfl ((s_il_2 p_221_109).trans <| (s_const p_221_110).trans <| Eq.trans (s_c_ne_f p_221_111 rfl rfl wl_2) <| Eq.trans (ite_cg ((s_il_7 p_221_114).trans <| (s_const p_221_116).trans <| (s_c_ne_f p_221_117 rfl rfl wl_3)) rfl) co_and)) co_or) <| Eq.trans (ite_cg ((s_il_8 p_221_120).trans <| (s_goto p_221_122 rfl).trans <| rfl) ((s_il_2 p_221_125).trans <| (s_const p_221_126).trans <| Eq.trans (Eq.trans (Eq.trans (s_c_ne_f p_221_127 rfl rfl wl_1) <| Eq.trans (ite_cg ((s_il_7 p_221_130).trans <| (s_const p_221_132).trans <| Eq.trans (s_c_eq_t p_221_133 rfl rfl wl_1) <| Eq.trans (ite_cg rfl ((s_il_7 p_221_136).trans <| (s_const p_221_138).trans <| (s_c_ne_f p_221_139 rfl rfl wl_2))) co_or) rfl) co_and) <| Eq.trans (ite_cg ((s_il_7 p_221_142).trans <| (s_const p_221_144).trans <| (s_isub p_221_145).trans <| (s_goto p_221_146 rfl).trans <| rfl) ((s_il_3 p_221_149).trans <| rfl)) (phi1 (fun z0 => Z e (d + 1) 221 150 [.ref 246, .int (iI x1), .int (iI x2), .int (iI x3), .int (iI x4), .int (iI x5), .int (iI x6), .int (iI (m 247 (wr ((266 + (44 * x5)) + (4 + (4 * x6)))))), .int (iI (m 247 (wr ((266 + (44 * x5)) + ((4 + (4 * x6)) + 1)))))] [.int (iI z0)] m))) <| rfl)) (phi1 (fun z0 => Z e (d + 1) 221 150 [.ref 246, .int (iI x1), .int (iI x2), .int (iI x3), .int (iI x4), .int (iI x5), .int (iI x6), .int (iI (m 247 (wr ((266 + (44 * x5)) + (4 + (4 * x6)))))), .int (iI (m 247 (wr ((266 + (44 * x5)) + ((4 + (4 * x6)) + 1)))))] [.int (iI z0)] m))) <| rfl) ((s_il_2 p_221_109).trans <| (s_const p_221_110).trans <| Eq.trans (Eq.trans (Eq.trans (s_c_ne_f p_221_111 rfl rfl wl_2) <| Eq.trans (ite_cg ((s_il_7 p_221_114).trans <| (s_const p_221_116).trans <| (s_c_ne_f p_221_117 rfl rfl wl_3)) rfl) co_and) <| Eq.trans (ite_cg ((s_il_8 p_221_120).trans <| (s_goto p_221_122 rfl).trans <| rfl) ((s_il_2 p_221_125).trans <| (s_const p_221_126).trans <| Eq.trans (Eq.trans (Eq.trans (s_c_ne_f p_221_127 rfl rfl wl_1) <| Eq.trans (ite_cg ((s_il_7 p_221_130).trans <| (s_const p_221_132).trans <| Eq.trans (s_c_eq_t p_221_133 rfl rfl wl_1) <| Eq.trans (ite_cg rfl ((s_il_7 p_221_136).trans <| (s_const p_221_138).trans <| (s_c_ne_f p_221_139 rfl rfl wl_2))) co_or) rfl) co_and) <| Eq.trans (ite_cg ((s_il_7 p_221_142).trans <| (s_const p_221_144).trans <| (s_isub p_221_145).trans <| (s_goto p_221_146 rfl).trans <| rfl) ((s_il_3 p_221_149).trans <| rfl)) (phi1 (fun z0 => Z e (d + 1) 221 150 [.ref 246, .int (iI x1), .int (iI x2), .int (iI x3), .int (iI x4), .int (iI x5), .int (iI x6), .int (iI (m 247 (wr ((266 + (44 * x5)) + (4 + (4 * x6)))))), .int (iI (m 247 (wr ((266 + (44 * x5)) + ((4 + (4 * x6)) + 1)))))] [.int (iI z0)] m))) <| rfl)) (phi1 (fun z0 => Z e (d + 1) 221 150 [.ref 246, .int (iI x1), .int (iI x2), .int (iI x3), .int (iI x4), .int (iI x5), .int (iI x6), .int (iI (m 247 (wr ((266 + (44 * x5)) + (4 + (4 * x6)))))), .int (iI (m 247 (wr ((266 + (44 * x5)) + ((4 + (4 * x6)) + 1)))))] [.int (iI z0)] m))) <| rfl)) (phi1 (fun z0 => Z e (d + 1) 221 150 [.ref 246, .int (iI x1), .int (iI x2), .int (iI x3), .int (iI x4), .int (iI x5), .int (iI x6), .int (iI (m 247 (wr ((266 + (44 * x5)) + (4 + (4 * x6)))))), .int (iI (m 247 (wr ((266 + (44 * x5)) + ((4 + (4 * x6)) + 1)))))] [.int (iI z0)] m))) <| (s_is_3 cat_i p_221_150).trans <| (s_inc_6 cat_i p_221_151).trans <| (s_goto p_221_154 rfl).trans <| rfl) ((s_inc_4 cat_i p_221_157).trans <| (s_goto p_221_160 rfl).trans <| rfl)
theorem b_221_36 {x1 : Int} {x2 : Int} {x3 : Int} {x4 : Int} {xs0 : Int} {u5 u6 u7 u8 : Value} : Z e (d + 1) 221 36 [.ref 246, .int (iI x1), .int (iI x2), .int (iI x3), .int (iI x4), u5, u6, u7, u8] [.int (iI xs0)] m = Z e (d + 1) 221 41 [.ref 246, .int (iI x1), .int (iI x2), .int (iI x3), .int (iI x4), .int (iI xs0), .int (iI 0), u7, u8] [] m := (s_is_5 cat_i p_221_36).trans <| (s_const p_221_38).trans <| (s_is_6 cat_i p_221_39).trans <| rfl
-- M.rule
theorem p_222_0 : zP1 222 0 = some (.iload_n 1, 0, 0, 0) := zp_l zq_222 rfl
theorem p_222_1 : zP1 222 1 = some (.invokestatic 154, 201, 1, 0) := zp_r zq_222 rfl
theorem p_222_4 : zP1 222 4 = some (.ifCond .eq 12, 0, 0, 0) := zp_l zq_222 rfl
theorem p_222_7 : zP1 222 7 = some (.iload_n 2, 0, 0, 0) := zp_l zq_222 rfl
theorem p_222_8 : zP1 222 8 = some (.iconst 0, 0, 0, 0) := zp_l zq_222 rfl
theorem p_222_9 : zP1 222 9 = some (.iconst 2, 0, 0, 0) := zp_l zq_222 rfl
theorem p_222_10 : zP1 222 10 = some (.invokestatic 100, 199, 3, 0) := zp_r zq_222 rfl
theorem p_222_13 : zP1 222 13 = some (.ifCond .ne 7, 0, 0, 0) := zp_l zq_222 rfl
theorem p_222_16 : zP1 222 16 = some (.iconst (-1), 0, 0, 0) := zp_l zq_222 rfl
theorem p_222_17 : zP1 222 17 = some (.goto 9, 0, 0, 0) := zp_l zq_222 rfl
theorem p_222_20 : zP1 222 20 = some (.aload_n 0, 0, 0, 0) := zp_l zq_222 rfl
theorem p_222_21 : zP1 222 21 = some (.iload_n 1, 0, 0, 0) := zp_l zq_222 rfl
theorem p_222_22 : zP1 222 22 = some (.iload_n 2, 0, 0, 0) := zp_l zq_222 rfl
theorem p_222_23 : zP1 222 23 = some (.invokevirtual 157, 221, 2, 11) := zp_r zq_222 rfl
theorem p_222_26 : zP1 222 26 = some (.ireturn, 0, 0, 0) := zp_l zq_222 rfl
theorem b_222_0 {x1 : Int} {x2 : Int} : Z e (d + 2) 222 0 [.ref 246, .int (iI x1), .int (iI x2)] [] m = (if (¬ (((wr 0) ≤ (wr x1)) ∧ ((wr x1) ≤ (wr 9999)))) ∨ (¬ (((wr 0) ≤ (wr x2)) ∧ ((wr x2) ≤ (wr 2)))) then ri (-1) m else (Z e (d + 1) 221 0 [.ref 246, .int (iI x1), .int (iI x2), .retAddr 0, .retAddr 0, .retAddr 0, .retAddr 0, .retAddr 0, .retAddr 0] [] m).bind (ZK e (d + 2) 222 26 [.ref 246, .int (iI x1), .int (iI x2)] [] m)) := (s_il_1 p_222_0).trans <| (s_cs1 (Lc := [.int (iI x1)]) p_222_1 (by decide) (zM_of zq_201) ⟨Nat.le_of_ble_eq_true rfl, Nat.le_of_ble_eq_true rfl⟩ rfl).trans <| (bd b_201_0).trans <| ri_k.trans <| Eq.trans (Eq.trans (s_beq_t p_222_4 rfl) <| Eq.trans (ite_cg rfl ((s_il_2 p_222_7).trans <| (s_const p_222_8).trans <| (s_const p_222_9).trans <| (s_cs3 (Lc := [.int (iI x2), .int (iI 0), .int (iI 2)]) p_222_10 (by decide) (zM_of zq_199) ⟨Nat.le_of_ble_eq_true rfl, Nat.le_of_ble_eq_true rfl⟩ rfl).trans <| (bd b_199_0).trans <| ri_k.trans <| (s_bne_f p_222_13 rfl))) co_or) <| ite_cg ((s_const p_222_16).trans <| (s_goto p_222_17 rfl).trans <| (s_reti p_222_26 (zM_of zq_222))) ((s_al_0 p_222_20).trans <| (s_il_1 p_222_21).trans <| (s_il_2 p_222_22).trans <| (s_cv2 (Lc := [.ref 246, .int (iI x1), .int (iI x2), .retAddr 0, .retAddr 0, .retAddr 0, .retAddr 0, .retAddr 0, .retAddr 0]) p_222_23 (by decide) (by decide) (zM_of zq_221) ⟨Nat.le_of_ble_eq_true rfl, Nat.le_of_ble_eq_true rfl⟩ rfl (m_rc hs_246 ⟨rfl, by decide⟩)))
theorem b_222_26 {xs0 : Int} {u0 u1 u2 : Value} : Z e (d + 2) 222 26 [u0, u1, u2] [.int (iI xs0)] m = ri xs0 m := (s_reti p_222_26 (zM_of zq_222))
-- M.withinOf
theorem p_223_0 : zP1 223 0 = some (.aload_n 0, 0, 0, 0) := zp_l zq_223 rfl
theorem p_223_1 : zP1 223 1 = some (.getfield 41, 11, 14, 0) := zp_r zq_223 rfl
theorem p_223_4 : zP1 223 4 = some (.ifCond .lt 20, 0, 0, 0) := zp_l zq_223 rfl
theorem p_223_7 : zP1 223 7 = some (.iload_n 2, 0, 0, 0) := zp_l zq_223 rfl
theorem p_223_8 : zP1 223 8 = some (.aload_n 0, 0, 0, 0) := zp_l zq_223 rfl
theorem p_223_9 : zP1 223 9 = some (.getfield 9, 11, 0, 0) := zp_r zq_223 rfl
theorem p_223_12 : zP1 223 12 = some (.iconst 0, 0, 0, 0) := zp_l zq_223 rfl
theorem p_223_13 : zP1 223 13 = some (.iaload, 0, 0, 0) := zp_l zq_223 rfl
theorem p_223_14 : zP1 223 14 = some (.if_icmp .ne 10, 0, 0, 0) := zp_l zq_223 rfl
theorem p_223_17 : zP1 223 17 = some (.aload_n 0, 0, 0, 0) := zp_l zq_223 rfl
theorem p_223_18 : zP1 223 18 = some (.getfield 41, 11, 14, 0) := zp_r zq_223 rfl
theorem p_223_21 : zP1 223 21 = some (.goto 9, 0, 0, 0) := zp_l zq_223 rfl
theorem p_223_24 : zP1 223 24 = some (.aload_n 0, 0, 0, 0) := zp_l zq_223 rfl
theorem p_223_25 : zP1 223 25 = some (.iload_n 2, 0, 0, 0) := zp_l zq_223 rfl
theorem p_223_26 : zP1 223 26 = some (.iconst 0, 0, 0, 0) := zp_l zq_223 rfl
theorem p_223_27 : zP1 223 27 = some (.invokevirtual 157, 221, 2, 11) := zp_r zq_223 rfl
theorem p_223_30 : zP1 223 30 = some (.istore_n 3, 0, 0, 0) := zp_l zq_223 rfl
theorem p_223_31 : zP1 223 31 = some (.aload_n 0, 0, 0, 0) := zp_l zq_223 rfl
theorem p_223_32 : zP1 223 32 = some (.iload_n 2, 0, 0, 0) := zp_l zq_223 rfl
theorem p_223_33 : zP1 223 33 = some (.iconst 1, 0, 0, 0) := zp_l zq_223 rfl
theorem p_223_34 : zP1 223 34 = some (.invokevirtual 157, 221, 2, 11) := zp_r zq_223 rfl
theorem p_223_37 : zP1 223 37 = some (.iconst 1, 0, 0, 0) := zp_l zq_223 rfl
theorem p_223_38 : zP1 223 38 = some (.if_icmp .ne 7, 0, 0, 0) := zp_l zq_223 rfl
theorem p_223_41 : zP1 223 41 = some (.iconst 1, 0, 0, 0) := zp_l zq_223 rfl
theorem p_223_42 : zP1 223 42 = some (.goto 4, 0, 0, 0) := zp_l zq_223 rfl
theorem p_223_45 : zP1 223 45 = some (.iconst 0, 0, 0, 0) := zp_l zq_223 rfl
theorem p_223_46 : zP1 223 46 = some (.istore 4, 0, 0, 0) := zp_l zq_223 rfl
theorem p_223_48 : zP1 223 48 = some (.aload_n 0, 0, 0, 0) := zp_l zq_223 rfl
theorem p_223_49 : zP1 223 49 = some (.invokevirtual 160, 210, 0, 11) := zp_r zq_223 rfl
theorem p_223_52 : zP1 223 52 = some (.iconst 0, 0, 0, 0) := zp_l zq_223 rfl
theorem p_223_53 : zP1 223 53 = some (.istore 5, 0, 0, 0) := zp_l zq_223 rfl
theorem p_223_55 : zP1 223 55 = some (.iconst 0, 0, 0, 0) := zp_l zq_223 rfl
theorem p_223_56 : zP1 223 56 = some (.istore 6, 0, 0, 0) := zp_l zq_223 rfl
theorem p_223_58 : zP1 223 58 = some (.iload 6, 0, 0, 0) := zp_l zq_223 rfl
theorem p_223_60 : zP1 223 60 = some (.aload_n 0, 0, 0, 0) := zp_l zq_223 rfl
theorem p_223_61 : zP1 223 61 = some (.getfield 9, 11, 0, 0) := zp_r zq_223 rfl
theorem p_223_64 : zP1 223 64 = some (.iconst 2, 0, 0, 0) := zp_l zq_223 rfl
theorem p_223_65 : zP1 223 65 = some (.iaload, 0, 0, 0) := zp_l zq_223 rfl
theorem p_223_66 : zP1 223 66 = some (.if_icmp .ge 67, 0, 0, 0) := zp_l zq_223 rfl
theorem p_223_69 : zP1 223 69 = some (.iload 4, 0, 0, 0) := zp_l zq_223 rfl
theorem p_223_71 : zP1 223 71 = some (.ifCond .eq 23, 0, 0, 0) := zp_l zq_223 rfl
theorem p_223_74 : zP1 223 74 = some (.aload_n 0, 0, 0, 0) := zp_l zq_223 rfl
theorem p_223_75 : zP1 223 75 = some (.getfield 9, 11, 0, 0) := zp_r zq_223 rfl
theorem p_223_78 : zP1 223 78 = some (.sipush 254, 0, 0, 0) := zp_l zq_223 rfl
theorem p_223_81 : zP1 223 81 = some (.iconst 2, 0, 0, 0) := zp_l zq_223 rfl
theorem p_223_82 : zP1 223 82 = some (.iload 6, 0, 0, 0) := zp_l zq_223 rfl
theorem p_223_84 : zP1 223 84 = some (.imul, 0, 0, 0) := zp_l zq_223 rfl
theorem p_223_85 : zP1 223 85 = some (.iadd, 0, 0, 0) := zp_l zq_223 rfl
theorem p_223_86 : zP1 223 86 = some (.iaload, 0, 0, 0) := zp_l zq_223 rfl
theorem p_223_87 : zP1 223 87 = some (.iload_n 1, 0, 0, 0) := zp_l zq_223 rfl
theorem p_223_88 : zP1 223 88 = some (.invokestatic 135, 206, 2, 0) := zp_r zq_223 rfl
theorem p_223_91 : zP1 223 91 = some (.goto 15, 0, 0, 0) := zp_l zq_223 rfl
theorem p_223_94 : zP1 223 94 = some (.aload_n 0, 0, 0, 0) := zp_l zq_223 rfl
theorem p_223_95 : zP1 223 95 = some (.getfield 35, 11, 11, 0) := zp_r zq_223 rfl
theorem p_223_98 : zP1 223 98 = some (.bipush 100, 0, 0, 0) := zp_l zq_223 rfl
theorem p_223_100 : zP1 223 100 = some (.iload 6, 0, 0, 0) := zp_l zq_223 rfl
theorem p_223_102 : zP1 223 102 = some (.imul, 0, 0, 0) := zp_l zq_223 rfl
theorem p_223_103 : zP1 223 103 = some (.iload_n 1, 0, 0, 0) := zp_l zq_223 rfl
theorem p_223_104 : zP1 223 104 = some (.iadd, 0, 0, 0) := zp_l zq_223 rfl
theorem p_223_105 : zP1 223 105 = some (.iaload, 0, 0, 0) := zp_l zq_223 rfl
theorem p_223_106 : zP1 223 106 = some (.istore 7, 0, 0, 0) := zp_l zq_223 rfl
theorem p_223_108 : zP1 223 108 = some (.iload 5, 0, 0, 0) := zp_l zq_223 rfl
theorem p_223_110 : zP1 223 110 = some (.iload 7, 0, 0, 0) := zp_l zq_223 rfl
theorem p_223_112 : zP1 223 112 = some (.iload_n 3, 0, 0, 0) := zp_l zq_223 rfl
theorem p_223_113 : zP1 223 113 = some (.if_icmp .gt 10, 0, 0, 0) := zp_l zq_223 rfl
theorem p_223_116 : zP1 223 116 = some (.iconst 1, 0, 0, 0) := zp_l zq_223 rfl
theorem p_223_117 : zP1 223 117 = some (.iload 6, 0, 0, 0) := zp_l zq_223 rfl
theorem p_223_119 : zP1 223 119 = some (.ishl, 0, 0, 0) := zp_l zq_223 rfl
theorem p_223_120 : zP1 223 120 = some (.goto 4, 0, 0, 0) := zp_l zq_223 rfl
theorem p_223_123 : zP1 223 123 = some (.iconst 0, 0, 0, 0) := zp_l zq_223 rfl
theorem p_223_124 : zP1 223 124 = some (.ior, 0, 0, 0) := zp_l zq_223 rfl
theorem p_223_125 : zP1 223 125 = some (.istore 5, 0, 0, 0) := zp_l zq_223 rfl
theorem p_223_127 : zP1 223 127 = some (.iinc 6 1, 0, 0, 0) := zp_l zq_223 rfl
theorem p_223_130 : zP1 223 130 = some (.goto (-72), 0, 0, 0) := zp_l zq_223 rfl
theorem p_223_133 : zP1 223 133 = some (.iload 5, 0, 0, 0) := zp_l zq_223 rfl
theorem p_223_135 : zP1 223 135 = some (.ireturn, 0, 0, 0) := zp_l zq_223 rfl
theorem b_223_0 {x1 : Int} {x2 : Int} : Z e (d + 2) 223 0 [.ref 246, .int (iI x1), .int (iI x2), .retAddr 0, .retAddr 0, .retAddr 0, .retAddr 0, .retAddr 0] [] m = (if (0 ≤ (wr (m 246 14))) ∧ ((wr x2) = (wr (m 247 0))) then Z e (d + 2) 223 30 [.ref 246, .int (iI x1), .int (iI x2), .retAddr 0, .retAddr 0, .retAddr 0, .retAddr 0, .retAddr 0] [.int (iI (m 246 14))] m else (Z e (d + 1) 221 0 [.ref 246, .int (iI x2), .int (iI 0), .retAddr 0, .retAddr 0, .retAddr 0, .retAddr 0, .retAddr 0, .retAddr 0] [] m).bind (ZK e (d + 2) 223 30 [.ref 246, .int (iI x1), .int (iI x2), .retAddr 0, .retAddr 0, .retAddr 0, .retAddr 0, .retAddr 0] [] m)) := (s_al_0 p_223_0).trans <| (s_get p_223_1 hs_246 (by decide) rfl).trans <| Eq.trans (Eq.trans (s_z_lt_f p_223_4 rfl rfl) <| Eq.trans (ite_cg ((s_il_2 p_223_7).trans <| (s_al_0 p_223_8).trans <| (s_getr p_223_9 hs_246 (by decide) rfl).trans <| (s_const p_223_12).trans <| (s_aldc p_223_13 hs_247 (by decide) wl_0 (by decide)).trans <| (s_c_ne_f p_223_14 rfl rfl rfl)) rfl) co_and) <| ite_cg ((s_al_0 p_223_17).trans <| (s_get p_223_18 hs_246 (by decide) rfl).trans <| (s_goto p_223_21 rfl).trans <| rfl) ((s_al_0 p_223_24).trans <| (s_il_2 p_223_25).trans <| (s_const p_223_26).trans <| (s_cv2 (Lc := [.ref 246, .int (iI x2), .int (iI 0), .retAddr 0, .retAddr 0, .retAddr 0, .retAddr 0, .retAddr 0, .retAddr 0]) p_223_27 (by decide) (by decide) (zM_of zq_221) ⟨Nat.le_of_ble_eq_true rfl, Nat.le_of_ble_eq_true rfl⟩ rfl (m_rc hs_246 ⟨rfl, by decide⟩)))
theorem b_223_30 {x1 : Int} {x2 : Int} {xs0 : Int} {u3 u4 u5 u6 u7 : Value} : Z e (d + 2) 223 30 [.ref 246, .int (iI x1), .int (iI x2), u3, u4, u5, u6, u7] [.int (iI xs0)] m = (Z e (d + 1) 221 0 [.ref 246, .int (iI x2), .int (iI 1), .retAddr 0, .retAddr 0, .retAddr 0, .retAddr 0, .retAddr 0, .retAddr 0] [] m).bind (ZK e (d + 2) 223 37 [.ref 246, .int (iI x1), .int (iI x2), .int (iI xs0), u4, u5, u6, u7] [] m) := (s_is_3 cat_i p_223_30).trans <| (s_al_0 p_223_31).trans <| (s_il_2 p_223_32).trans <| (s_const p_223_33).trans <| (s_cv2 (Lc := [.ref 246, .int (iI x2), .int (iI 1), .retAddr 0, .retAddr 0, .retAddr 0, .retAddr 0, .retAddr 0, .retAddr 0]) p_223_34 (by decide) (by decide) (zM_of zq_221) ⟨Nat.le_of_ble_eq_true rfl, Nat.le_of_ble_eq_true rfl⟩ rfl (m_rc hs_246 ⟨rfl, by decide⟩))
theorem b_223_58 {x1 : Int} {x3 : Int} {x4 : Int} {x5 : Int} {x6 : Int} {u2 u7 : Value} : Z e (d + 2) 223 58 [.ref 246, .int (iI x1), u2, .int (iI x3), .int (iI x4), .int (iI x5), .int (iI x6), u7] [] m = (if (wr x6) < (wr (m 247 2)) then ck (((¬ (wr x4) = 0) → (0 ≤ (wr (254 + (2 * x6))) ∧ (wr (254 + (2 * x6))) < 2737)) ∧ ((¬ (¬ (wr x4) = 0)) → (0 ≤ (wr ((100 * x6) + x1)) ∧ (wr ((100 * x6) + x1)) < 600))) (Z e (d + 2) 223 58 [.ref 246, .int (iI x1), u2, .int (iI x3), .int (iI x4), .int (iI (jor x5 (if (wr (if ¬ (wr x4) = 0 then (jfar (m 247 (wr (254 + (2 * x6)))) x1) else (m 254 (wr ((100 * x6) + x1))))) ≤ (wr x3) then (jshl 1 x6) else 0))), .int (iI (x6 + 1)), .int (iI (if ¬ (wr x4) = 0 then (jfar (m 247 (wr (254 + (2 * x6)))) x1) else (m 254 (wr ((100 * x6) + x1)))))] [] m) else ri x5 m) := (s_il_6 p_223_58).trans <| (s_al_0 p_223_60).trans <| (s_getr p_223_61 hs_246 (by decide) rfl).trans <| (s_const p_223_64).trans <| (s_aldc p_223_65 hs_247 (by decide) wl_2 (by decide)).trans <| Eq.trans ((s_c_ge_f p_223_66 rfl rfl rfl)) <| ite_cg ((s_il_4 p_223_69).trans <| Eq.trans (Eq.trans ((s_z_eq_f p_223_71 rfl rfl)) <| Eq.trans (ite_cg ((s_al_0 p_223_74).trans <| (s_getr p_223_75 hs_246 (by decide) rfl).trans <| (s_sip p_223_78 rfl).trans <| (s_const p_223_81).trans <| (s_il_6 p_223_82).trans <| (s_imul p_223_84).trans <| (s_iadd p_223_85).trans <| (s_ald 2737 p_223_86 hs_247 rfl (by decide)).trans <| ck_cg fun k3 => (s_il_1 p_223_87).trans <| (s_cs2 (Lc := [.int (iI (m 247 (wr (254 + (2 * x6))))), .int (iI x1)]) p_223_88 (by decide) (zM_of zq_206) ⟨Nat.le_of_ble_eq_true rfl, Nat.le_of_ble_eq_true rfl⟩ rfl).trans <| (bd b_206_0).trans <| ri_k.trans <| (s_goto p_223_91 rfl).trans <| rfl) ((s_al_0 p_223_94).trans <| (s_getr p_223_95 hs_246 (by decide) rfl).trans <| (s_bip p_223_98 rfl).trans <| (s_il_6 p_223_100).trans <| (s_imul p_223_102).trans <| (s_il_1 p_223_103).trans <| (s_iadd p_223_104).trans <| (s_ald 600 p_223_105 hs_254 rfl (by decide)).trans <| ck_cg fun k4 => rfl)) <| Eq.trans ck_ab <| ck_cg fun _ => (phi1 (fun z0 => Z e (d + 2) 223 106 [.ref 246, .int (iI x1), u2, .int (iI x3), .int (iI x4), .int (iI x5), .int (iI x6), u7] [.int (iI z0)] m))) <| ck_cg fun _ => (s_is_7 cat_i p_223_106).trans <| (s_il_5 p_223_108).trans <| (s_il_7 p_223_110).trans <| (s_il_3 p_223_112).trans <| Eq.trans (Eq.trans ((s_c_gt_f p_223_113 rfl rfl rfl)) <| Eq.trans (ite_cg ((s_const p_223_116).trans <| (s_il_6 p_223_117).trans <| (s_ishl p_223_119).trans <| (s_goto p_223_120 rfl).trans <| rfl) ((s_const p_223_123).trans <| rfl)) (phi1 (fun z0 => Z e (d + 2) 223 124 [.ref 246, .int (iI x1), u2, .int (iI x3), .int (iI x4), .int (iI x5), .int (iI x6), .int (iI (if ¬ (wr x4) = 0 then (jfar (m 247 (wr (254 + (2 * x6)))) x1) else (m 254 (wr ((100 * x6) + x1)))))] [.int (iI z0), .int (iI x5)] m))) <| (s_ior p_223_124).trans <| (s_is_5 cat_i p_223_125).trans <| (s_inc_6 cat_i p_223_127).trans <| (s_goto p_223_130 rfl).trans <| rfl) ((s_il_5 p_223_133).trans <| (s_reti p_223_135 (zM_of zq_223)))
theorem b_223_37 {x1 : Int} {x3 : Int} {xs0 : Int} {u2 u4 u5 u6 u7 : Value} : Z e (d + 2) 223 37 [.ref 246, .int (iI x1), u2, .int (iI x3), u4, u5, u6, u7] [.int (iI xs0)] m = (Z e (d + 1) 210 0 [.ref 246, .retAddr 0, .retAddr 0] [] m).bind (ZK e (d + 2) 223 52 [.ref 246, .int (iI x1), u2, .int (iI x3), .int (iI (if (wr xs0) = 1 then 1 else 0)), u5, u6, u7] [] m) := (s_const p_223_37).trans <| Eq.trans (Eq.trans ((s_c_ne_f p_223_38 rfl rfl wl_1)) <| Eq.trans (ite_cg ((s_const p_223_41).trans <| (s_goto p_223_42 rfl).trans <| rfl) ((s_const p_223_45).trans <| rfl)) (phi1 (fun z0 => Z e (d + 2) 223 46 [.ref 246, .int (iI x1), u2, .int (iI x3), u4, u5, u6, u7] [.int (iI z0)] m))) <| (s_is_4 cat_i p_223_46).trans <| (s_al_0 p_223_48).trans <| (s_cv0 (Lc := [.ref 246, .retAddr 0, .retAddr 0]) p_223_49 (by decide) (by decide) (zM_of zq_210) ⟨Nat.le_of_ble_eq_true rfl, Nat.le_of_ble_eq_true rfl⟩ rfl (m_rc hs_246 ⟨rfl, by decide⟩))
theorem b_223_52 {x1 : Int} {x3 : Int} {x4 : Int} {u2 u5 u6 u7 : Value} : Z e (d + 2) 223 52 [.ref 246, .int (iI x1), u2, .int (iI x3), .int (iI x4), u5, u6, u7] [] m = Z e (d + 2) 223 58 [.ref 246, .int (iI x1), u2, .int (iI x3), .int (iI x4), .int (iI 0), .int (iI 0), u7] [] m := (s_const p_223_52).trans <| (s_is_5 cat_i p_223_53).trans <| (s_const p_223_55).trans <| (s_is_6 cat_i p_223_56).trans <| rfl
-- M.within2
theorem p_224_0 : zP1 224 0 = some (.iload_n 1, 0, 0, 0) := zp_l zq_224 rfl
theorem p_224_1 : zP1 224 1 = some (.invokestatic 110, 200, 1, 0) := zp_r zq_224 rfl
theorem p_224_4 : zP1 224 4 = some (.ifCond .eq 10, 0, 0, 0) := zp_l zq_224 rfl
theorem p_224_7 : zP1 224 7 = some (.iload_n 2, 0, 0, 0) := zp_l zq_224 rfl
theorem p_224_8 : zP1 224 8 = some (.invokestatic 154, 201, 1, 0) := zp_r zq_224 rfl
theorem p_224_11 : zP1 224 11 = some (.ifCond .ne 7, 0, 0, 0) := zp_l zq_224 rfl
theorem p_224_14 : zP1 224 14 = some (.iconst (-1), 0, 0, 0) := zp_l zq_224 rfl
theorem p_224_15 : zP1 224 15 = some (.goto 9, 0, 0, 0) := zp_l zq_224 rfl
theorem p_224_18 : zP1 224 18 = some (.aload_n 0, 0, 0, 0) := zp_l zq_224 rfl
theorem p_224_19 : zP1 224 19 = some (.iload_n 1, 0, 0, 0) := zp_l zq_224 rfl
theorem p_224_20 : zP1 224 20 = some (.iload_n 2, 0, 0, 0) := zp_l zq_224 rfl
theorem p_224_21 : zP1 224 21 = some (.invokevirtual 163, 223, 2, 11) := zp_r zq_224 rfl
theorem p_224_24 : zP1 224 24 = some (.ireturn, 0, 0, 0) := zp_l zq_224 rfl
theorem b_224_0 {x1 : Int} {x2 : Int} : Z e (d + 2) 224 0 [.ref 246, .int (iI x1), .int (iI x2)] [] m = (if (¬ (((wr 0) ≤ (wr x1)) ∧ ((wr x1) ≤ (wr 99)))) ∨ (¬ (((wr 0) ≤ (wr x2)) ∧ ((wr x2) ≤ (wr 9999)))) then ri (-1) m else (Z e (d + 1) 223 0 [.ref 246, .int (iI x1), .int (iI x2), .retAddr 0, .retAddr 0, .retAddr 0, .retAddr 0, .retAddr 0] [] m).bind (ZK e (d + 2) 224 24 [.ref 246, .int (iI x1), .int (iI x2)] [] m)) := (s_il_1 p_224_0).trans <| (s_cs1 (Lc := [.int (iI x1)]) p_224_1 (by decide) (zM_of zq_200) ⟨Nat.le_of_ble_eq_true rfl, Nat.le_of_ble_eq_true rfl⟩ rfl).trans <| (bd b_200_0).trans <| ri_k.trans <| Eq.trans (Eq.trans (s_beq_t p_224_4 rfl) <| Eq.trans (ite_cg rfl ((s_il_2 p_224_7).trans <| (s_cs1 (Lc := [.int (iI x2)]) p_224_8 (by decide) (zM_of zq_201) ⟨Nat.le_of_ble_eq_true rfl, Nat.le_of_ble_eq_true rfl⟩ rfl).trans <| (bd b_201_0).trans <| ri_k.trans <| (s_bne_f p_224_11 rfl))) co_or) <| ite_cg ((s_const p_224_14).trans <| (s_goto p_224_15 rfl).trans <| (s_reti p_224_24 (zM_of zq_224))) ((s_al_0 p_224_18).trans <| (s_il_1 p_224_19).trans <| (s_il_2 p_224_20).trans <| (s_cv2 (Lc := [.ref 246, .int (iI x1), .int (iI x2), .retAddr 0, .retAddr 0, .retAddr 0, .retAddr 0, .retAddr 0]) p_224_21 (by decide) (by decide) (zM_of zq_223) ⟨Nat.le_of_ble_eq_true rfl, Nat.le_of_ble_eq_true rfl⟩ rfl (m_rc hs_246 ⟨rfl, by decide⟩)))
theorem b_224_24 {xs0 : Int} {u0 u1 u2 : Value} : Z e (d + 2) 224 24 [u0, u1, u2] [.int (iI xs0)] m = ri xs0 m := (s_reti p_224_24 (zM_of zq_224))
-- M.degreeOf
theorem p_225_0 : zP1 225 0 = some (.aload_n 0, 0, 0, 0) := zp_l zq_225 rfl
theorem p_225_1 : zP1 225 1 = some (.iload_n 1, 0, 0, 0) := zp_l zq_225 rfl
theorem p_225_2 : zP1 225 2 = some (.iload_n 2, 0, 0, 0) := zp_l zq_225 rfl
theorem p_225_3 : zP1 225 3 = some (.invokevirtual 163, 223, 2, 11) := zp_r zq_225 rfl
theorem p_225_6 : zP1 225 6 = some (.istore_n 3, 0, 0, 0) := zp_l zq_225 rfl
theorem p_225_7 : zP1 225 7 = some (.iconst 0, 0, 0, 0) := zp_l zq_225 rfl
theorem p_225_8 : zP1 225 8 = some (.istore 4, 0, 0, 0) := zp_l zq_225 rfl
theorem p_225_10 : zP1 225 10 = some (.iconst 0, 0, 0, 0) := zp_l zq_225 rfl
theorem p_225_11 : zP1 225 11 = some (.istore 5, 0, 0, 0) := zp_l zq_225 rfl
theorem p_225_13 : zP1 225 13 = some (.iload 5, 0, 0, 0) := zp_l zq_225 rfl
theorem p_225_15 : zP1 225 15 = some (.aload_n 0, 0, 0, 0) := zp_l zq_225 rfl
theorem p_225_16 : zP1 225 16 = some (.getfield 9, 11, 0, 0) := zp_r zq_225 rfl
theorem p_225_19 : zP1 225 19 = some (.iconst 2, 0, 0, 0) := zp_l zq_225 rfl
theorem p_225_20 : zP1 225 20 = some (.iaload, 0, 0, 0) := zp_l zq_225 rfl
theorem p_225_21 : zP1 225 21 = some (.if_icmp .ge 46, 0, 0, 0) := zp_l zq_225 rfl
theorem p_225_24 : zP1 225 24 = some (.iload_n 3, 0, 0, 0) := zp_l zq_225 rfl
theorem p_225_25 : zP1 225 25 = some (.iload 5, 0, 0, 0) := zp_l zq_225 rfl
theorem p_225_27 : zP1 225 27 = some (.ishr, 0, 0, 0) := zp_l zq_225 rfl
theorem p_225_28 : zP1 225 28 = some (.iconst 1, 0, 0, 0) := zp_l zq_225 rfl
theorem p_225_29 : zP1 225 29 = some (.iand, 0, 0, 0) := zp_l zq_225 rfl
theorem p_225_30 : zP1 225 30 = some (.iconst 1, 0, 0, 0) := zp_l zq_225 rfl
theorem p_225_31 : zP1 225 31 = some (.if_icmp .ne 26, 0, 0, 0) := zp_l zq_225 rfl
theorem p_225_34 : zP1 225 34 = some (.iload 4, 0, 0, 0) := zp_l zq_225 rfl
theorem p_225_36 : zP1 225 36 = some (.aload_n 0, 0, 0, 0) := zp_l zq_225 rfl
theorem p_225_37 : zP1 225 37 = some (.getfield 9, 11, 0, 0) := zp_r zq_225 rfl
theorem p_225_40 : zP1 225 40 = some (.sipush 254, 0, 0, 0) := zp_l zq_225 rfl
theorem p_225_43 : zP1 225 43 = some (.iconst 2, 0, 0, 0) := zp_l zq_225 rfl
theorem p_225_44 : zP1 225 44 = some (.iload 5, 0, 0, 0) := zp_l zq_225 rfl
theorem p_225_46 : zP1 225 46 = some (.imul, 0, 0, 0) := zp_l zq_225 rfl
theorem p_225_47 : zP1 225 47 = some (.iadd, 0, 0, 0) := zp_l zq_225 rfl
theorem p_225_48 : zP1 225 48 = some (.iconst 1, 0, 0, 0) := zp_l zq_225 rfl
theorem p_225_49 : zP1 225 49 = some (.iadd, 0, 0, 0) := zp_l zq_225 rfl
theorem p_225_50 : zP1 225 50 = some (.iaload, 0, 0, 0) := zp_l zq_225 rfl
theorem p_225_51 : zP1 225 51 = some (.invokestatic 166, 324, 2, 0) := zp_r zq_225 rfl
theorem p_225_54 : zP1 225 54 = some (.goto 5, 0, 0, 0) := zp_l zq_225 rfl
theorem p_225_57 : zP1 225 57 = some (.iload 4, 0, 0, 0) := zp_l zq_225 rfl
theorem p_225_59 : zP1 225 59 = some (.istore 4, 0, 0, 0) := zp_l zq_225 rfl
theorem p_225_61 : zP1 225 61 = some (.iinc 5 1, 0, 0, 0) := zp_l zq_225 rfl
theorem p_225_64 : zP1 225 64 = some (.goto (-51), 0, 0, 0) := zp_l zq_225 rfl
theorem p_225_67 : zP1 225 67 = some (.aload_n 0, 0, 0, 0) := zp_l zq_225 rfl
theorem p_225_68 : zP1 225 68 = some (.getfield 9, 11, 0, 0) := zp_r zq_225 rfl
theorem p_225_71 : zP1 225 71 = some (.bipush 10, 0, 0, 0) := zp_l zq_225 rfl
theorem p_225_73 : zP1 225 73 = some (.iload_n 1, 0, 0, 0) := zp_l zq_225 rfl
theorem p_225_74 : zP1 225 74 = some (.iadd, 0, 0, 0) := zp_l zq_225 rfl
theorem p_225_75 : zP1 225 75 = some (.iaload, 0, 0, 0) := zp_l zq_225 rfl
theorem p_225_76 : zP1 225 76 = some (.istore 5, 0, 0, 0) := zp_l zq_225 rfl
theorem p_225_78 : zP1 225 78 = some (.iload 4, 0, 0, 0) := zp_l zq_225 rfl
theorem p_225_80 : zP1 225 80 = some (.ifCond .ne 7, 0, 0, 0) := zp_l zq_225 rfl
theorem p_225_83 : zP1 225 83 = some (.iconst 0, 0, 0, 0) := zp_l zq_225 rfl
theorem p_225_84 : zP1 225 84 = some (.goto 27, 0, 0, 0) := zp_l zq_225 rfl
theorem p_225_87 : zP1 225 87 = some (.iload 4, 0, 0, 0) := zp_l zq_225 rfl
theorem p_225_89 : zP1 225 89 = some (.iload 5, 0, 0, 0) := zp_l zq_225 rfl
theorem p_225_91 : zP1 225 91 = some (.iconst 2, 0, 0, 0) := zp_l zq_225 rfl
theorem p_225_92 : zP1 225 92 = some (.if_icmp .ne 7, 0, 0, 0) := zp_l zq_225 rfl
theorem p_225_95 : zP1 225 95 = some (.iconst 1, 0, 0, 0) := zp_l zq_225 rfl
theorem p_225_96 : zP1 225 96 = some (.goto 14, 0, 0, 0) := zp_l zq_225 rfl
theorem p_225_99 : zP1 225 99 = some (.iload 5, 0, 0, 0) := zp_l zq_225 rfl
theorem p_225_101 : zP1 225 101 = some (.iconst 3, 0, 0, 0) := zp_l zq_225 rfl
theorem p_225_102 : zP1 225 102 = some (.if_icmp .ne 7, 0, 0, 0) := zp_l zq_225 rfl
theorem p_225_105 : zP1 225 105 = some (.iconst 3, 0, 0, 0) := zp_l zq_225 rfl
theorem p_225_106 : zP1 225 106 = some (.goto 4, 0, 0, 0) := zp_l zq_225 rfl
theorem p_225_109 : zP1 225 109 = some (.iconst 0, 0, 0, 0) := zp_l zq_225 rfl
theorem p_225_110 : zP1 225 110 = some (.iadd, 0, 0, 0) := zp_l zq_225 rfl
theorem p_225_111 : zP1 225 111 = some (.ireturn, 0, 0, 0) := zp_l zq_225 rfl
theorem b_225_0 {x1 : Int} {x2 : Int} : Z e (d + 1) 225 0 [.ref 246, .int (iI x1), .int (iI x2), .retAddr 0, .retAddr 0, .retAddr 0] [] m = (Z e d 223 0 [.ref 246, .int (iI x1), .int (iI x2), .retAddr 0, .retAddr 0, .retAddr 0, .retAddr 0, .retAddr 0] [] m).bind (ZK e (d + 1) 225 6 [.ref 246, .int (iI x1), .int (iI x2), .retAddr 0, .retAddr 0, .retAddr 0] [] m) := (s_al_0 p_225_0).trans <| (s_il_1 p_225_1).trans <| (s_il_2 p_225_2).trans <| (s_cv2 (Lc := [.ref 246, .int (iI x1), .int (iI x2), .retAddr 0, .retAddr 0, .retAddr 0, .retAddr 0, .retAddr 0]) p_225_3 (by decide) (by decide) (zM_of zq_223) ⟨Nat.le_of_ble_eq_true rfl, Nat.le_of_ble_eq_true rfl⟩ rfl (m_rc hs_246 ⟨rfl, by decide⟩))
theorem b_225_6 {x1 : Int} {xs0 : Int} {u2 u3 u4 u5 : Value} (hu2 : u2.category = 1) : Z e (d + 1) 225 6 [.ref 246, .int (iI x1), u2, u3, u4, u5] [.int (iI xs0)] m = Z e (d + 1) 225 13 [.ref 246, .int (iI x1), u2, .int (iI xs0), .int (iI 0), .int (iI 0)] [] m := (s_is_3 hu2 p_225_6).trans <| (s_const p_225_7).trans <| (s_is_4 cat_i p_225_8).trans <| (s_const p_225_10).trans <| (s_is_5 cat_i p_225_11).trans <| rfl
theorem b_225_13 {x1 : Int} {x3 : Int} {x4 : Int} {x5 : Int} {u2 : Value} : Z e (d + 1) 225 13 [.ref 246, .int (iI x1), u2, .int (iI x3), .int (iI x4), .int (iI x5)] [] m = (if (wr x5) < (wr (m 247 2)) then ck (((jand (jshr x3 x5) 1) = 1) → (0 ≤ (wr ((254 + (2 * x5)) + 1)) ∧ (wr ((254 + (2 * x5)) + 1)) < 2737)) (Z e (d + 1) 225 13 [.ref 246, .int (iI x1), u2, .int (iI x3), .int (iI (if (jand (jshr x3 x5) 1) = 1 then (if (wr (m 247 (wr ((254 + (2 * x5)) + 1)))) ≤ (wr x4) then x4 else (m 247 (wr ((254 + (2 * x5)) + 1)))) else x4)), .int (iI (x5 + 1))] [] m) else Z e (d + 1) 225 67 [.ref 246, .int (iI x1), u2, .int (iI x3), .int (iI x4), .int (iI x5)] [] m) := (s_il_5 p_225_13).trans <| (s_al_0 p_225_15).trans <| (s_getr p_225_16 hs_246 (by decide) rfl).trans <| (s_const p_225_19).trans <| (s_aldc p_225_20 hs_247 (by decide) wl_2 (by decide)).trans <| Eq.trans ((s_c_ge_f p_225_21 rfl rfl rfl)) <| ite_cg ((s_il_3 p_225_24).trans <| (s_il_5 p_225_25).trans <| (s_ishr p_225_27).trans <| (s_const p_225_28).trans <| (s_iand p_225_29).trans <| (s_const p_225_30).trans <| Eq.trans (Eq.trans ((s_c_ne_f p_225_31 rfl wr_jand wl_1)) <| Eq.trans (ite_cg ((s_il_4 p_225_34).trans <| (s_al_0 p_225_36).trans <| (s_getr p_225_37 hs_246 (by decide) rfl).trans <| (s_sip p_225_40 rfl).trans <| (s_const p_225_43).trans <| (s_il_5 p_225_44).trans <| (s_imul p_225_46).trans <| (s_iadd p_225_47).trans <| (s_const p_225_48).trans <| (s_iadd p_225_49).trans <| (s_ald 2737 p_225_50 hs_247 rfl (by decide)).trans <| ck_cg fun k2 => (s_cs2 (Lc := [.int (iI x4), .int (iI (m 247 (wr ((254 + (2 * x5)) + 1))))]) p_225_51 (by decide) (zM_of zq_324) ⟨Nat.le_of_ble_eq_true rfl, Nat.le_of_ble_eq_true rfl⟩ rfl).trans <| (bd b_324_0).trans <| ri_k.trans <| (s_goto p_225_54 rfl).trans <| rfl) ((s_il_4 p_225_57).trans <| rfl)) <| Eq.trans ck_a <| ck_cg fun _ => (phi1 (fun z0 => Z e (d + 1) 225 59 [.ref 246, .int (iI x1), u2, .int (iI x3), .int (iI x4), .int (iI x5)] [.int (iI z0)] m))) <| ck_cg fun _ => (s_is_4 cat_i p_225_59).trans <| (s_inc_5 cat_i p_225_61).trans <| (s_goto p_225_64 rfl).trans <| rfl) (rfl)
theorem b_225_67 {x1 : Int} {x4 : Int} {u2 u3 u5 : Value} : Z e (d + 1) 225 67 [.ref 246, .int (iI x1), u2, u3, .int (iI x4), u5] [] m = ck (0 ≤ (wr (10 + x1)) ∧ (wr (10 + x1)) < 2737) (ri (if (wr x4) = 0 then 0 else (x4 + (if (wr (m 247 (wr (10 + x1)))) = 2 then 1 else (if (wr (m 247 (wr (10 + x1)))) = 3 then 3 else 0)))) m) := (s_al_0 p_225_67).trans <| (s_getr p_225_68 hs_246 (by decide) rfl).trans <| (s_bip p_225_71 rfl).trans <| (s_il_1 p_225_73).trans <| (s_iadd p_225_74).trans <| (s_ald 2737 p_225_75 hs_247 rfl (by decide)).trans <| ck_cg fun k1 => (s_is_5 cat_i p_225_76).trans <| (s_il_4 p_225_78).trans <| Eq.trans (Eq.trans ((s_z_ne_f p_225_80 rfl rfl)) <| Eq.trans (ite_cg ((s_const p_225_83).trans <| (s_goto p_225_84 rfl).trans <| rfl) ((s_il_4 p_225_87).trans <| (s_il_5 p_225_89).trans <| (s_const p_225_91).trans <| Eq.trans (Eq.trans ((s_c_ne_f p_225_92 rfl rfl wl_2)) <| Eq.trans (ite_cg ((s_const p_225_95).trans <| (s_goto p_225_96 rfl).trans <| rfl) ((s_il_5 p_225_99).trans <| (s_const p_225_101).trans <| Eq.trans (Eq.trans ((s_c_ne_f p_225_102 rfl rfl wl_3)) <| Eq.trans (ite_cg ((s_const p_225_105).trans <| (s_goto p_225_106 rfl).trans <| rfl) ((s_const p_225_109).trans <| rfl)) (phi1 (fun z0 => Z e (d + 1) 225 110 [.ref 246, .int (iI x1), u2, u3, .int (iI x4), .int (iI (m 247 (wr (10 + x1))))] [.int (iI z0), .int (iI x4)] m))) <| rfl)) (phi1 (fun z0 => Z e (d + 1) 225 110 [.ref 246, .int (iI x1), u2, u3, .int (iI x4), .int (iI (m 247 (wr (10 + x1))))] [.int (iI z0), .int (iI x4)] m))) <| (s_iadd p_225_110).trans <| rfl)) (phi1 (fun z0 => Z e (d + 1) 225 111 [.ref 246, .int (iI x1), u2, u3, .int (iI x4), .int (iI (m 247 (wr (10 + x1))))] [.int (iI z0)] m))) <| (s_reti p_225_111 (zM_of zq_225))
-- M.degree
theorem p_226_0 : zP1 226 0 = some (.iload_n 1, 0, 0, 0) := zp_l zq_226 rfl
theorem p_226_1 : zP1 226 1 = some (.invokestatic 110, 200, 1, 0) := zp_r zq_226 rfl
theorem p_226_4 : zP1 226 4 = some (.ifCond .eq 10, 0, 0, 0) := zp_l zq_226 rfl
theorem p_226_7 : zP1 226 7 = some (.iload_n 2, 0, 0, 0) := zp_l zq_226 rfl
theorem p_226_8 : zP1 226 8 = some (.invokestatic 154, 201, 1, 0) := zp_r zq_226 rfl
theorem p_226_11 : zP1 226 11 = some (.ifCond .ne 7, 0, 0, 0) := zp_l zq_226 rfl
theorem p_226_14 : zP1 226 14 = some (.iconst (-1), 0, 0, 0) := zp_l zq_226 rfl
theorem p_226_15 : zP1 226 15 = some (.goto 9, 0, 0, 0) := zp_l zq_226 rfl
theorem p_226_18 : zP1 226 18 = some (.aload_n 0, 0, 0, 0) := zp_l zq_226 rfl
theorem p_226_19 : zP1 226 19 = some (.iload_n 1, 0, 0, 0) := zp_l zq_226 rfl
theorem p_226_20 : zP1 226 20 = some (.iload_n 2, 0, 0, 0) := zp_l zq_226 rfl
theorem p_226_21 : zP1 226 21 = some (.invokevirtual 169, 225, 2, 11) := zp_r zq_226 rfl
theorem p_226_24 : zP1 226 24 = some (.ireturn, 0, 0, 0) := zp_l zq_226 rfl
theorem b_226_0 {x1 : Int} {x2 : Int} : Z e (d + 2) 226 0 [.ref 246, .int (iI x1), .int (iI x2)] [] m = (if (¬ (((wr 0) ≤ (wr x1)) ∧ ((wr x1) ≤ (wr 99)))) ∨ (¬ (((wr 0) ≤ (wr x2)) ∧ ((wr x2) ≤ (wr 9999)))) then ri (-1) m else (Z e (d + 1) 225 0 [.ref 246, .int (iI x1), .int (iI x2), .retAddr 0, .retAddr 0, .retAddr 0] [] m).bind (ZK e (d + 2) 226 24 [.ref 246, .int (iI x1), .int (iI x2)] [] m)) := (s_il_1 p_226_0).trans <| (s_cs1 (Lc := [.int (iI x1)]) p_226_1 (by decide) (zM_of zq_200) ⟨Nat.le_of_ble_eq_true rfl, Nat.le_of_ble_eq_true rfl⟩ rfl).trans <| (bd b_200_0).trans <| ri_k.trans <| Eq.trans (Eq.trans (s_beq_t p_226_4 rfl) <| Eq.trans (ite_cg rfl ((s_il_2 p_226_7).trans <| (s_cs1 (Lc := [.int (iI x2)]) p_226_8 (by decide) (zM_of zq_201) ⟨Nat.le_of_ble_eq_true rfl, Nat.le_of_ble_eq_true rfl⟩ rfl).trans <| (bd b_201_0).trans <| ri_k.trans <| (s_bne_f p_226_11 rfl))) co_or) <| ite_cg ((s_const p_226_14).trans <| (s_goto p_226_15 rfl).trans <| (s_reti p_226_24 (zM_of zq_226))) ((s_al_0 p_226_18).trans <| (s_il_1 p_226_19).trans <| (s_il_2 p_226_20).trans <| (s_cv2 (Lc := [.ref 246, .int (iI x1), .int (iI x2), .retAddr 0, .retAddr 0, .retAddr 0]) p_226_21 (by decide) (by decide) (zM_of zq_225) ⟨Nat.le_of_ble_eq_true rfl, Nat.le_of_ble_eq_true rfl⟩ rfl (m_rc hs_246 ⟨rfl, by decide⟩)))
theorem b_226_24 {xs0 : Int} {u0 u1 u2 : Value} : Z e (d + 2) 226 24 [u0, u1, u2] [.int (iI xs0)] m = ri xs0 m := (s_reti p_226_24 (zM_of zq_226))
-- M.feed
theorem p_227_0 : zP1 227 0 = some (.iload_n 3, 0, 0, 0) := zp_l zq_227 rfl
theorem p_227_1 : zP1 227 1 = some (.iconst 1, 0, 0, 0) := zp_l zq_227 rfl
theorem p_227_2 : zP1 227 2 = some (.bipush 8, 0, 0, 0) := zp_l zq_227 rfl
theorem p_227_4 : zP1 227 4 = some (.invokestatic 100, 199, 3, 0) := zp_r zq_227 rfl
theorem p_227_7 : zP1 227 7 = some (.ifCond .ne 5, 0, 0, 0) := zp_l zq_227 rfl
theorem p_227_10 : zP1 227 10 = some (.iconst (-1), 0, 0, 0) := zp_l zq_227 rfl
theorem p_227_11 : zP1 227 11 = some (.ireturn, 0, 0, 0) := zp_l zq_227 rfl
theorem p_227_12 : zP1 227 12 = some (.aload_n 0, 0, 0, 0) := zp_l zq_227 rfl
theorem p_227_13 : zP1 227 13 = some (.getfield 172, 11, 4, 0) := zp_r zq_227 rfl
theorem p_227_16 : zP1 227 16 = some (.iload_n 3, 0, 0, 0) := zp_l zq_227 rfl
theorem p_227_17 : zP1 227 17 = some (.iadd, 0, 0, 0) := zp_l zq_227 rfl
theorem p_227_18 : zP1 227 18 = some (.sipush 300, 0, 0, 0) := zp_l zq_227 rfl
theorem p_227_21 : zP1 227 21 = some (.if_icmp .le 6, 0, 0, 0) := zp_l zq_227 rfl
theorem p_227_24 : zP1 227 24 = some (.bipush (-2), 0, 0, 0) := zp_l zq_227 rfl
theorem p_227_26 : zP1 227 26 = some (.ireturn, 0, 0, 0) := zp_l zq_227 rfl
theorem p_227_27 : zP1 227 27 = some (.iconst 0, 0, 0, 0) := zp_l zq_227 rfl
theorem p_227_28 : zP1 227 28 = some (.istore 4, 0, 0, 0) := zp_l zq_227 rfl
theorem p_227_30 : zP1 227 30 = some (.iload 4, 0, 0, 0) := zp_l zq_227 rfl
theorem p_227_32 : zP1 227 32 = some (.iload_n 3, 0, 0, 0) := zp_l zq_227 rfl
theorem p_227_33 : zP1 227 33 = some (.if_icmp .ge 40, 0, 0, 0) := zp_l zq_227 rfl
theorem p_227_36 : zP1 227 36 = some (.aload_n 0, 0, 0, 0) := zp_l zq_227 rfl
theorem p_227_37 : zP1 227 37 = some (.getfield 16, 11, 3, 0) := zp_r zq_227 rfl
theorem p_227_40 : zP1 227 40 = some (.aload_n 0, 0, 0, 0) := zp_l zq_227 rfl
theorem p_227_41 : zP1 227 41 = some (.getfield 172, 11, 4, 0) := zp_r zq_227 rfl
theorem p_227_44 : zP1 227 44 = some (.lload_n 1, 0, 0, 0) := zp_l zq_227 rfl
theorem p_227_45 : zP1 227 45 = some (.bipush 8, 0, 0, 0) := zp_l zq_227 rfl
theorem p_227_47 : zP1 227 47 = some (.iload 4, 0, 0, 0) := zp_l zq_227 rfl
theorem p_227_49 : zP1 227 49 = some (.imul, 0, 0, 0) := zp_l zq_227 rfl
theorem p_227_50 : zP1 227 50 = some (.lshr, 0, 0, 0) := zp_l zq_227 rfl
theorem p_227_51 : zP1 227 51 = some (.ldc2_w 175, 0, 0, 255) := zp_r zq_227 rfl
theorem p_227_54 : zP1 227 54 = some (.land, 0, 0, 0) := zp_l zq_227 rfl
theorem p_227_55 : zP1 227 55 = some (.l2i, 0, 0, 0) := zp_l zq_227 rfl
theorem p_227_56 : zP1 227 56 = some (.iastore, 0, 0, 0) := zp_l zq_227 rfl
theorem p_227_57 : zP1 227 57 = some (.aload_n 0, 0, 0, 0) := zp_l zq_227 rfl
theorem p_227_58 : zP1 227 58 = some (.dup, 0, 0, 0) := zp_l zq_227 rfl
theorem p_227_59 : zP1 227 59 = some (.getfield 172, 11, 4, 0) := zp_r zq_227 rfl
theorem p_227_62 : zP1 227 62 = some (.iconst 1, 0, 0, 0) := zp_l zq_227 rfl
theorem p_227_63 : zP1 227 63 = some (.iadd, 0, 0, 0) := zp_l zq_227 rfl
theorem p_227_64 : zP1 227 64 = some (.putfield 172, 11, 4, 0) := zp_r zq_227 rfl
theorem p_227_67 : zP1 227 67 = some (.iinc 4 1, 0, 0, 0) := zp_l zq_227 rfl
theorem p_227_70 : zP1 227 70 = some (.goto (-40), 0, 0, 0) := zp_l zq_227 rfl
theorem p_227_73 : zP1 227 73 = some (.aload_n 0, 0, 0, 0) := zp_l zq_227 rfl
theorem p_227_74 : zP1 227 74 = some (.getfield 172, 11, 4, 0) := zp_r zq_227 rfl
theorem p_227_77 : zP1 227 77 = some (.ireturn, 0, 0, 0) := zp_l zq_227 rfl
theorem b_227_0 {w1 : Int64} {x3 : Int} : Z e (d + 1) 227 0 [.ref 246, .long w1, .retAddr 0, .int (iI x3), .retAddr 0] [] m = (if ¬ (((wr 1) ≤ (wr x3)) ∧ ((wr x3) ≤ (wr 8))) then ri (-1) m else (if 300 < (wr ((m 246 4) + x3)) then ri (-2) m else Z e (d + 1) 227 30 [.ref 246, .long w1, .retAddr 0, .int (iI x3), .int (iI 0)] [] m)) := (s_il_3 p_227_0).trans <| (s_const p_227_1).trans <| (s_bip p_227_2 rfl).trans <| (s_cs3 (Lc := [.int (iI x3), .int (iI 1), .int (iI 8)]) p_227_4 (by decide) (zM_of zq_199) ⟨Nat.le_of_ble_eq_true rfl, Nat.le_of_ble_eq_true rfl⟩ rfl).trans <| (bd b_199_0).trans <| ri_k.trans <| Eq.trans ((s_bne_f p_227_7 rfl)) <| ite_cg ((s_const p_227_10).trans <| (s_reti p_227_11 (zM_of zq_227))) ((s_al_0 p_227_12).trans <| (s_get p_227_13 hs_246 (by decide) rfl).trans <| (s_il_3 p_227_16).trans <| (s_iadd p_227_17).trans <| (s_sip p_227_18 rfl).trans <| Eq.trans ((s_c_le_f p_227_21 rfl rfl wl_300)) <| ite_cg ((s_bip p_227_24 rfl).trans <| (s_reti p_227_26 (zM_of zq_227))) ((s_const p_227_27).trans <| (s_is_4 cat_i p_227_28).trans <| rfl))
theorem b_227_30 {w1 : Int64} {x3 : Int} {x4 : Int} {u2 : Value} : Z e (d + 1) 227 30 [.ref 246, .long w1, u2, .int (iI x3), .int (iI x4)] [] m = (if (wr x4) < (wr x3) then ck (0 ≤ (wr (m 246 4)) ∧ (wr (m 246 4)) < 300) (Z e (d + 1) 227 30 [.ref 246, .long w1, u2, .int (iI x3), .int (iI (x4 + 1))] [] (um (um m 249 (wr (m 246 4)) ((w1 >>> ((iI (8 * x4)).toInt64 &&& 63)) &&& (255)).toInt32.toInt) 246 4 (((um m 249 (wr (m 246 4)) ((w1 >>> ((iI (8 * x4)).toInt64 &&& 63)) &&& (255)).toInt32.toInt) 246 4) + 1))) else ri (m 246 4) m) := (s_il_4 p_227_30).trans <| (s_il_3 p_227_32).trans <| Eq.trans ((s_c_ge_f p_227_33 rfl rfl rfl)) <| ite_cg ((s_al_0 p_227_36).trans <| (s_getr p_227_37 hs_246 (by decide) rfl).trans <| (s_al_0 p_227_40).trans <| (s_get p_227_41 hs_246 (by decide) rfl).trans <| (s_ll_1 p_227_44).trans <| (s_bip p_227_45 rfl).trans <| (s_il_4 p_227_47).trans <| (s_imul p_227_49).trans <| (s_lshr p_227_50).trans <| (s_ldcl (w := 255) p_227_51 rfl).trans <| (s_land p_227_54).trans <| (s_l2i p_227_55).trans <| (s_ast 300 p_227_56 hs_249 rfl).trans <| ck_cg fun k1 => (s_al_0 p_227_57).trans <| (s_dup cat_r p_227_58).trans <| (s_get p_227_59 hs_246 (by decide) rfl).trans <| (s_const p_227_62).trans <| (s_iadd p_227_63).trans <| (s_put p_227_64 hs_246 (by decide) rfl).trans <| (s_inc_4 cat_i p_227_67).trans <| (s_goto p_227_70 rfl).trans <| rfl) ((s_al_0 p_227_73).trans <| (s_get p_227_74 hs_246 (by decide) rfl).trans <| (s_reti p_227_77 (zM_of zq_227)))
-- M.isIn
theorem p_228_0 : zP1 228 0 = some (.iload_n 1, 0, 0, 0) := zp_l zq_228 rfl
theorem p_228_1 : zP1 228 1 = some (.aload_n 0, 0, 0, 0) := zp_l zq_228 rfl
theorem p_228_2 : zP1 228 2 = some (.getfield 172, 11, 4, 0) := zp_r zq_228 rfl
theorem p_228_5 : zP1 228 5 = some (.if_icmp .ge 21, 0, 0, 0) := zp_l zq_228 rfl
theorem p_228_8 : zP1 228 8 = some (.aload_n 0, 0, 0, 0) := zp_l zq_228 rfl
theorem p_228_9 : zP1 228 9 = some (.getfield 16, 11, 3, 0) := zp_r zq_228 rfl
theorem p_228_12 : zP1 228 12 = some (.iload_n 1, 0, 0, 0) := zp_l zq_228 rfl
theorem p_228_13 : zP1 228 13 = some (.iaload, 0, 0, 0) := zp_l zq_228 rfl
theorem p_228_14 : zP1 228 14 = some (.iload_n 2, 0, 0, 0) := zp_l zq_228 rfl
theorem p_228_15 : zP1 228 15 = some (.iload_n 3, 0, 0, 0) := zp_l zq_228 rfl
theorem p_228_16 : zP1 228 16 = some (.invokestatic 100, 199, 3, 0) := zp_r zq_228 rfl
theorem p_228_19 : zP1 228 19 = some (.ifCond .eq 7, 0, 0, 0) := zp_l zq_228 rfl
theorem p_228_22 : zP1 228 22 = some (.iconst 1, 0, 0, 0) := zp_l zq_228 rfl
theorem p_228_23 : zP1 228 23 = some (.goto 4, 0, 0, 0) := zp_l zq_228 rfl
theorem p_228_26 : zP1 228 26 = some (.iconst 0, 0, 0, 0) := zp_l zq_228 rfl
theorem p_228_27 : zP1 228 27 = some (.ireturn, 0, 0, 0) := zp_l zq_228 rfl
theorem b_228_0 {x1 : Int} {x2 : Int} {x3 : Int} : Z e (d + 1) 228 0 [.ref 246, .int (iI x1), .int (iI x2), .int (iI x3)] [] m = ck (((wr x1) < (wr (m 246 4))) → (0 ≤ (wr x1) ∧ (wr x1) < 300)) (ri (if ((wr x1) < (wr (m 246 4))) ∧ (((wr x2) ≤ (wr (m 249 (wr x1)))) ∧ ((wr (m 249 (wr x1))) ≤ (wr x3))) then 1 else 0) m) := (s_il_1 p_228_0).trans <| (s_al_0 p_228_1).trans <| (s_get p_228_2 hs_246 (by decide) rfl).trans <| Eq.trans (Eq.trans (Eq.trans (s_c_ge_f p_228_5 rfl rfl rfl) <| Eq.trans (ite_cg ((s_al_0 p_228_8).trans <| (s_getr p_228_9 hs_246 (by decide) rfl).trans <| (s_il_1 p_228_12).trans <| (s_ald 300 p_228_13 hs_249 rfl (by decide)).trans <| ck_cg fun k1 => (s_il_2 p_228_14).trans <| (s_il_3 p_228_15).trans <| (s_cs3 (Lc := [.int (iI (m 249 (wr x1))), .int (iI x2), .int (iI x3)]) p_228_16 (by decide) (zM_of zq_199) ⟨Nat.le_of_ble_eq_true rfl, Nat.le_of_ble_eq_true rfl⟩ rfl).trans <| (bd b_199_0).trans <| ri_k.trans <| (s_beq_f p_228_19 rfl)) rfl) <| Eq.trans ck_a <| ck_cg fun _ => co_and) <| ck_cg fun _ => Eq.trans (ite_cg ((s_const p_228_22).trans <| (s_goto p_228_23 rfl).trans <| rfl) ((s_const p_228_26).trans <| rfl)) (phi1 (fun z0 => Z e (d + 1) 228 27 [.ref 246, .int (iI x1), .int (iI x2), .int (iI x3)] [.int (iI z0)] m))) <| ck_cg fun _ => (s_retb p_228_27 (zM_of zq_228))
-- M.next
theorem p_229_0 : zP1 229 0 = some (.aload_n 0, 0, 0, 0) := zp_l zq_229 rfl
theorem p_229_1 : zP1 229 1 = some (.aload_n 0, 0, 0, 0) := zp_l zq_229 rfl
theorem p_229_2 : zP1 229 2 = some (.getfield 177, 11, 16, 0) := zp_r zq_229 rfl
theorem p_229_5 : zP1 229 5 = some (.putfield 180, 11, 15, 0) := zp_r zq_229 rfl
theorem p_229_8 : zP1 229 8 = some (.aload_n 0, 0, 0, 0) := zp_l zq_229 rfl
theorem p_229_9 : zP1 229 9 = some (.getfield 180, 11, 15, 0) := zp_r zq_229 rfl
theorem p_229_12 : zP1 229 12 = some (.aload_n 0, 0, 0, 0) := zp_l zq_229 rfl
theorem p_229_13 : zP1 229 13 = some (.getfield 172, 11, 4, 0) := zp_r zq_229 rfl
theorem p_229_16 : zP1 229 16 = some (.if_icmp .ge 30, 0, 0, 0) := zp_l zq_229 rfl
theorem p_229_19 : zP1 229 19 = some (.aload_n 0, 0, 0, 0) := zp_l zq_229 rfl
theorem p_229_20 : zP1 229 20 = some (.getfield 16, 11, 3, 0) := zp_r zq_229 rfl
theorem p_229_23 : zP1 229 23 = some (.aload_n 0, 0, 0, 0) := zp_l zq_229 rfl
theorem p_229_24 : zP1 229 24 = some (.getfield 180, 11, 15, 0) := zp_r zq_229 rfl
theorem p_229_27 : zP1 229 27 = some (.iaload, 0, 0, 0) := zp_l zq_229 rfl
theorem p_229_28 : zP1 229 28 = some (.bipush 32, 0, 0, 0) := zp_l zq_229 rfl
theorem p_229_30 : zP1 229 30 = some (.if_icmp .ne 16, 0, 0, 0) := zp_l zq_229 rfl
theorem p_229_33 : zP1 229 33 = some (.aload_n 0, 0, 0, 0) := zp_l zq_229 rfl
theorem p_229_34 : zP1 229 34 = some (.dup, 0, 0, 0) := zp_l zq_229 rfl
theorem p_229_35 : zP1 229 35 = some (.getfield 180, 11, 15, 0) := zp_r zq_229 rfl
theorem p_229_38 : zP1 229 38 = some (.iconst 1, 0, 0, 0) := zp_l zq_229 rfl
theorem p_229_39 : zP1 229 39 = some (.iadd, 0, 0, 0) := zp_l zq_229 rfl
theorem p_229_40 : zP1 229 40 = some (.putfield 180, 11, 15, 0) := zp_r zq_229 rfl
theorem p_229_43 : zP1 229 43 = some (.goto (-35), 0, 0, 0) := zp_l zq_229 rfl
theorem p_229_46 : zP1 229 46 = some (.aload_n 0, 0, 0, 0) := zp_l zq_229 rfl
theorem p_229_47 : zP1 229 47 = some (.aload_n 0, 0, 0, 0) := zp_l zq_229 rfl
theorem p_229_48 : zP1 229 48 = some (.getfield 180, 11, 15, 0) := zp_r zq_229 rfl
theorem p_229_51 : zP1 229 51 = some (.putfield 177, 11, 16, 0) := zp_r zq_229 rfl
theorem p_229_54 : zP1 229 54 = some (.aload_n 0, 0, 0, 0) := zp_l zq_229 rfl
theorem p_229_55 : zP1 229 55 = some (.getfield 180, 11, 15, 0) := zp_r zq_229 rfl
theorem p_229_58 : zP1 229 58 = some (.aload_n 0, 0, 0, 0) := zp_l zq_229 rfl
theorem p_229_59 : zP1 229 59 = some (.getfield 172, 11, 4, 0) := zp_r zq_229 rfl
theorem p_229_62 : zP1 229 62 = some (.if_icmp .ne 9, 0, 0, 0) := zp_l zq_229 rfl
theorem p_229_65 : zP1 229 65 = some (.aload_n 0, 0, 0, 0) := zp_l zq_229 rfl
theorem p_229_66 : zP1 229 66 = some (.iconst 0, 0, 0, 0) := zp_l zq_229 rfl
theorem p_229_67 : zP1 229 67 = some (.putfield 183, 11, 17, 0) := zp_r zq_229 rfl
theorem p_229_70 : zP1 229 70 = some (.return_, 0, 0, 0) := zp_l zq_229 rfl
theorem p_229_71 : zP1 229 71 = some (.aload_n 0, 0, 0, 0) := zp_l zq_229 rfl
theorem p_229_72 : zP1 229 72 = some (.aload_n 0, 0, 0, 0) := zp_l zq_229 rfl
theorem p_229_73 : zP1 229 73 = some (.aload_n 0, 0, 0, 0) := zp_l zq_229 rfl
theorem p_229_74 : zP1 229 74 = some (.getfield 180, 11, 15, 0) := zp_r zq_229 rfl
theorem p_229_77 : zP1 229 77 = some (.bipush 97, 0, 0, 0) := zp_l zq_229 rfl
theorem p_229_79 : zP1 229 79 = some (.bipush 122, 0, 0, 0) := zp_l zq_229 rfl
theorem p_229_81 : zP1 229 81 = some (.invokevirtual 186, 228, 3, 11) := zp_r zq_229 rfl
theorem p_229_84 : zP1 229 84 = some (.ifCond .eq 7, 0, 0, 0) := zp_l zq_229 rfl
theorem p_229_87 : zP1 229 87 = some (.iconst 1, 0, 0, 0) := zp_l zq_229 rfl
theorem p_229_88 : zP1 229 88 = some (.goto 23, 0, 0, 0) := zp_l zq_229 rfl
theorem p_229_91 : zP1 229 91 = some (.aload_n 0, 0, 0, 0) := zp_l zq_229 rfl
theorem p_229_92 : zP1 229 92 = some (.aload_n 0, 0, 0, 0) := zp_l zq_229 rfl
theorem p_229_93 : zP1 229 93 = some (.getfield 180, 11, 15, 0) := zp_r zq_229 rfl
theorem p_229_96 : zP1 229 96 = some (.bipush 48, 0, 0, 0) := zp_l zq_229 rfl
theorem p_229_98 : zP1 229 98 = some (.bipush 57, 0, 0, 0) := zp_l zq_229 rfl
theorem p_229_100 : zP1 229 100 = some (.invokevirtual 186, 228, 3, 11) := zp_r zq_229 rfl
theorem p_229_103 : zP1 229 103 = some (.ifCond .eq 7, 0, 0, 0) := zp_l zq_229 rfl
theorem p_229_106 : zP1 229 106 = some (.iconst 2, 0, 0, 0) := zp_l zq_229 rfl
theorem p_229_107 : zP1 229 107 = some (.goto 4, 0, 0, 0) := zp_l zq_229 rfl
theorem p_229_110 : zP1 229 110 = some (.iconst 3, 0, 0, 0) := zp_l zq_229 rfl
theorem p_229_111 : zP1 229 111 = some (.putfield 183, 11, 17, 0) := zp_r zq_229 rfl
theorem p_229_114 : zP1 229 114 = some (.aload_n 0, 0, 0, 0) := zp_l zq_229 rfl
theorem p_229_115 : zP1 229 115 = some (.dup, 0, 0, 0) := zp_l zq_229 rfl
theorem p_229_116 : zP1 229 116 = some (.getfield 177, 11, 16, 0) := zp_r zq_229 rfl
theorem p_229_119 : zP1 229 119 = some (.iconst 1, 0, 0, 0) := zp_l zq_229 rfl
theorem p_229_120 : zP1 229 120 = some (.iadd, 0, 0, 0) := zp_l zq_229 rfl
theorem p_229_121 : zP1 229 121 = some (.putfield 177, 11, 16, 0) := zp_r zq_229 rfl
theorem p_229_124 : zP1 229 124 = some (.aload_n 0, 0, 0, 0) := zp_l zq_229 rfl
theorem p_229_125 : zP1 229 125 = some (.getfield 183, 11, 17, 0) := zp_r zq_229 rfl
theorem p_229_128 : zP1 229 128 = some (.iconst 1, 0, 0, 0) := zp_l zq_229 rfl
theorem p_229_129 : zP1 229 129 = some (.if_icmp .ne 18, 0, 0, 0) := zp_l zq_229 rfl
theorem p_229_132 : zP1 229 132 = some (.aload_n 0, 0, 0, 0) := zp_l zq_229 rfl
theorem p_229_133 : zP1 229 133 = some (.aload_n 0, 0, 0, 0) := zp_l zq_229 rfl
theorem p_229_134 : zP1 229 134 = some (.getfield 177, 11, 16, 0) := zp_r zq_229 rfl
theorem p_229_137 : zP1 229 137 = some (.bipush 97, 0, 0, 0) := zp_l zq_229 rfl
theorem p_229_139 : zP1 229 139 = some (.bipush 122, 0, 0, 0) := zp_l zq_229 rfl
theorem p_229_141 : zP1 229 141 = some (.invokevirtual 186, 228, 3, 11) := zp_r zq_229 rfl
theorem p_229_144 : zP1 229 144 = some (.ifCond .ne 26, 0, 0, 0) := zp_l zq_229 rfl
theorem p_229_147 : zP1 229 147 = some (.aload_n 0, 0, 0, 0) := zp_l zq_229 rfl
theorem p_229_148 : zP1 229 148 = some (.getfield 183, 11, 17, 0) := zp_r zq_229 rfl
theorem p_229_151 : zP1 229 151 = some (.iconst 2, 0, 0, 0) := zp_l zq_229 rfl
theorem p_229_152 : zP1 229 152 = some (.if_icmp .ne 31, 0, 0, 0) := zp_l zq_229 rfl
theorem p_229_155 : zP1 229 155 = some (.aload_n 0, 0, 0, 0) := zp_l zq_229 rfl
theorem p_229_156 : zP1 229 156 = some (.aload_n 0, 0, 0, 0) := zp_l zq_229 rfl
theorem p_229_157 : zP1 229 157 = some (.getfield 177, 11, 16, 0) := zp_r zq_229 rfl
theorem p_229_160 : zP1 229 160 = some (.bipush 48, 0, 0, 0) := zp_l zq_229 rfl
theorem p_229_162 : zP1 229 162 = some (.bipush 57, 0, 0, 0) := zp_l zq_229 rfl
theorem p_229_164 : zP1 229 164 = some (.invokevirtual 186, 228, 3, 11) := zp_r zq_229 rfl
theorem p_229_167 : zP1 229 167 = some (.ifCond .eq 16, 0, 0, 0) := zp_l zq_229 rfl
theorem p_229_170 : zP1 229 170 = some (.aload_n 0, 0, 0, 0) := zp_l zq_229 rfl
theorem p_229_171 : zP1 229 171 = some (.dup, 0, 0, 0) := zp_l zq_229 rfl
theorem p_229_172 : zP1 229 172 = some (.getfield 177, 11, 16, 0) := zp_r zq_229 rfl
theorem p_229_175 : zP1 229 175 = some (.iconst 1, 0, 0, 0) := zp_l zq_229 rfl
theorem p_229_176 : zP1 229 176 = some (.iadd, 0, 0, 0) := zp_l zq_229 rfl
theorem p_229_177 : zP1 229 177 = some (.putfield 177, 11, 16, 0) := zp_r zq_229 rfl
theorem p_229_180 : zP1 229 180 = some (.goto (-56), 0, 0, 0) := zp_l zq_229 rfl
theorem p_229_183 : zP1 229 183 = some (.return_, 0, 0, 0) := zp_l zq_229 rfl
theorem b_229_0 : Z e (d + 2) 229 0 [.ref 246] [] m = Z e (d + 2) 229 8 [.ref 246] [] (um m 246 15 (m 246 16)) := (s_al_0 p_229_0).trans <| (s_al_0 p_229_1).trans <| (s_get p_229_2 hs_246 (by decide) rfl).trans <| (s_put p_229_5 hs_246 (by decide) rfl).trans <| rfl
theorem b_229_8 : Z e (d + 2) 229 8 [.ref 246] [] m = ck (((wr (m 246 15)) < (wr (m 246 4))) → (0 ≤ (wr (m 246 15)) ∧ (wr (m 246 15)) < 300)) (if ((wr (m 246 15)) < (wr (m 246 4))) ∧ ((wr (m 249 (wr (m 246 15)))) = 32) then Z e (d + 2) 229 8 [.ref 246] [] (um m 246 15 ((m 246 15) + 1)) else Z e (d + 2) 229 46 [.ref 246] [] m) := (s_al_0 p_229_8).trans <| (s_get p_229_9 hs_246 (by decide) rfl).trans <| (s_al_0 p_229_12).trans <| (s_get p_229_13 hs_246 (by decide) rfl).trans <| Eq.trans (Eq.trans (s_c_ge_f p_229_16 rfl rfl rfl) <| Eq.trans (ite_cg ((s_al_0 p_229_19).trans <| (s_getr p_229_20 hs_246 (by decide) rfl).trans <| (s_al_0 p_229_23).trans <| (s_get p_229_24 hs_246 (by decide) rfl).trans <| (s_ald 300 p_229_27 hs_249 rfl (by decide)).trans <| ck_cg fun k2 => (s_bip p_229_28 rfl).trans <| (s_c_ne_f p_229_30 rfl rfl wl_32)) rfl) <| Eq.trans ck_a <| ck_cg fun _ => co_and) <| ck_cg fun _ => ite_cg ((s_al_0 p_229_33).trans <| (s_dup cat_r p_229_34).trans <| (s_get p_229_35 hs_246 (by decide) rfl).trans <| (s_const p_229_38).trans <| (s_iadd p_229_39).trans <| (s_put p_229_40 hs_246 (by decide) rfl).trans <| (s_goto p_229_43 rfl).trans <| rfl) (rfl)
theorem b_229_46 : Z e (d + 2) 229 46 [.ref 246] [] m = (if (wr ((um m 246 16 (m 246 15)) 246 15)) = (wr ((um m 246 16 (m 246 15)) 246 4)) then rn (um (um m 246 16 (m 246 15)) 246 17 0) else ck (((wr ((um m 246 16 (m 246 15)) 246 15)) < (wr ((um m 246 16 (m 246 15)) 246 4))) → (0 ≤ (wr ((um m 246 16 (m 246 15)) 246 15)) ∧ (wr ((um m 246 16 (m 246 15)) 246 15)) < 300)) (ck ((¬ (((wr ((um m 246 16 (m 246 15)) 246 15)) < (wr ((um m 246 16 (m 246 15)) 246 4))) ∧ (((wr 97) ≤ (wr ((um m 246 16 (m 246 15)) 249 (wr ((um m 246 16 (m 246 15)) 246 15))))) ∧ ((wr ((um m 246 16 (m 246 15)) 249 (wr ((um m 246 16 (m 246 15)) 246 15)))) ≤ (wr 122))))) → (((wr ((um m 246 16 (m 246 15)) 246 15)) < (wr ((um m 246 16 (m 246 15)) 246 4))) → (0 ≤ (wr ((um m 246 16 (m 246 15)) 246 15)) ∧ (wr ((um m 246 16 (m 246 15)) 246 15)) < 300))) (Z e (d + 2) 229 124 [.ref 246] [] (um (um (um m 246 16 (m 246 15)) 246 17 (if ((wr ((um m 246 16 (m 246 15)) 246 15)) < (wr ((um m 246 16 (m 246 15)) 246 4))) ∧ (((wr 97) ≤ (wr ((um m 246 16 (m 246 15)) 249 (wr ((um m 246 16 (m 246 15)) 246 15))))) ∧ ((wr ((um m 246 16 (m 246 15)) 249 (wr ((um m 246 16 (m 246 15)) 246 15)))) ≤ (wr 122))) then 1 else (if ((wr ((um m 246 16 (m 246 15)) 246 15)) < (wr ((um m 246 16 (m 246 15)) 246 4))) ∧ (((wr 48) ≤ (wr ((um m 246 16 (m 246 15)) 249 (wr ((um m 246 16 (m 246 15)) 246 15))))) ∧ ((wr ((um m 246 16 (m 246 15)) 249 (wr ((um m 246 16 (m 246 15)) 246 15)))) ≤ (wr 57))) then 2 else 3))) 246 16 (((um (um m 246 16 (m 246 15)) 246 17 (if ((wr ((um m 246 16 (m 246 15)) 246 15)) < (wr ((um m 246 16 (m 246 15)) 246 4))) ∧ (((wr 97) ≤ (wr ((um m 246 16 (m 246 15)) 249 (wr ((um m 246 16 (m 246 15)) 246 15))))) ∧ ((wr ((um m 246 16 (m 246 15)) 249 (wr ((um m 246 16 (m 246 15)) 246 15)))) ≤ (wr 122))) then 1 else (if ((wr ((um m 246 16 (m 246 15)) 246 15)) < (wr ((um m 246 16 (m 246 15)) 246 4))) ∧ (((wr 48) ≤ (wr ((um m 246 16 (m 246 15)) 249 (wr ((um m 246 16 (m 246 15)) 246 15))))) ∧ ((wr ((um m 246 16 (m 246 15)) 249 (wr ((um m 246 16 (m 246 15)) 246 15)))) ≤ (wr 57))) then 2 else 3))) 246 16) + 1))))) := (s_al_0 p_229_46).trans <| (s_al_0 p_229_47).trans <| (s_get p_229_48 hs_246 (by decide) rfl).trans <| (s_put p_229_51 hs_246 (by decide) rfl).trans <| (s_al_0 p_229_54).trans <| (s_get p_229_55 hs_246 (by decide) rfl).trans <| (s_al_0 p_229_58).trans <| (s_get p_229_59 hs_246 (by decide) rfl).trans <| Eq.trans ((s_c_ne_f p_229_62 rfl rfl rfl)) <| ite_cg ((s_al_0 p_229_65).trans <| (s_const p_229_66).trans <| (s_put p_229_67 hs_246 (by decide) rfl).trans <| (s_retv p_229_70 (zM_of zq_229))) ((s_al_0 p_229_71).trans <| (s_al_0 p_229_72).trans <| (s_al_0 p_229_73).trans <| (s_get p_229_74 hs_246 (by decide) rfl).trans <| (s_bip p_229_77 rfl).trans <| (s_bip p_229_79 rfl).trans <| (s_cv3 (Lc := [.ref 246, .int (iI ((um m 246 16 (m 246 15)) 246 15)), .int (iI 97), .int (iI 122)]) p_229_81 (by decide) (by decide) (zM_of zq_228) ⟨Nat.le_of_ble_eq_true rfl, Nat.le_of_ble_eq_true rfl⟩ rfl (m_rc hs_246 ⟨rfl, by decide⟩)).trans <| (bd b_228_0).trans <| ck_bind.trans <| ck_cg fun _ => ri_k.trans <| Eq.trans (Eq.trans ((s_beq_f p_229_84 rfl)) <| Eq.trans (ite_cg ((s_const p_229_87).trans <| (s_goto p_229_88 rfl).trans <| rfl) ((s_al_0 p_229_91).trans <| (s_al_0 p_229_92).trans <| (s_get p_229_93 hs_246 (by decide) rfl).trans <| (s_bip p_229_96 rfl).trans <| (s_bip p_229_98 rfl).trans <| (s_cv3 (Lc := [.ref 246, .int (iI ((um m 246 16 (m 246 15)) 246 15)), .int (iI 48), .int (iI 57)]) p_229_100 (by decide) (by decide) (zM_of zq_228) ⟨Nat.le_of_ble_eq_true rfl, Nat.le_of_ble_eq_true rfl⟩ rfl (m_rc hs_246 ⟨rfl, by decide⟩)).trans <| (bd b_228_0).trans <| ck_bind.trans <| ck_cg fun k1 => ri_k.trans <| Eq.trans (Eq.trans ((s_beq_f p_229_103 rfl)) <| Eq.trans (ite_cg ((s_const p_229_106).trans <| (s_goto p_229_107 rfl).trans <| rfl) ((s_const p_229_110).trans <| rfl)) (phi1 (fun z0 => Z e (d + 2) 229 111 [.ref 246] [.int (iI z0), .ref 246] (um m 246 16 (m 246 15))))) <| rfl)) <| Eq.trans ck_b <| ck_cg fun _ => (phi1 (fun z0 => Z e (d + 2) 229 111 [.ref 246] [.int (iI z0), .ref 246] (um m 246 16 (m 246 15))))) <| ck_cg fun _ => (s_put p_229_111 hs_246 (by decide) rfl).trans <| (s_al_0 p_229_114).trans <| (s_dup cat_r p_229_115).trans <| (s_get p_229_116 hs_246 (by decide) rfl).trans <| (s_const p_229_119).trans <| (s_iadd p_229_120).trans <| (s_put p_229_121 hs_246 (by decide) rfl).trans <| rfl)
theorem b_229_124 : Z e (d + 2) 229 124 [.ref 246] [] m = ck ((¬ (¬ (wr (m 246 17)) = 1)) → (((wr (m 246 16)) < (wr (m 246 4))) → (0 ≤ (wr (m 246 16)) ∧ (wr (m 246 16)) < 300))) (if (¬ (wr (m 246 17)) = 1) ∨ (¬ (((wr (m 246 16)) < (wr (m 246 4))) ∧ (((wr 97) ≤ (wr (m 249 (wr (m 246 16))))) ∧ ((wr (m 249 (wr (m 246 16)))) ≤ (wr 122))))) then Z e (d + 2) 229 147 [.ref 246] [] m else Z e (d + 2) 229 124 [.ref 246] [] (um m 246 16 ((m 246 16) + 1))) := (s_al_0 p_229_124).trans <| (s_get p_229_125 hs_246 (by decide) rfl).trans <| (s_const p_229_128).trans <| Eq.trans (Eq.trans (s_c_ne_t p_229_129 rfl rfl wl_1) <| Eq.trans (ite_cg rfl ((s_al_0 p_229_132).trans <| (s_al_0 p_229_133).trans <| (s_get p_229_134 hs_246 (by decide) rfl).trans <| (s_bip p_229_137 rfl).trans <| (s_bip p_229_139 rfl).trans <| (s_cv3 (Lc := [.ref 246, .int (iI (m 246 16)), .int (iI 97), .int (iI 122)]) p_229_141 (by decide) (by decide) (zM_of zq_228) ⟨Nat.le_of_ble_eq_true rfl, Nat.le_of_ble_eq_true rfl⟩ rfl (m_rc hs_246 ⟨rfl, by decide⟩)).trans <| (bd b_228_0).trans <| ck_bind.trans <| ck_cg fun k2 => ri_k.trans <| (s_bne_f p_229_144 rfl))) <| Eq.trans ck_b <| ck_cg fun _ => co_or) <| ck_cg fun _ => ite_cg (rfl) ((s_al_0 p_229_170).trans <| (s_dup cat_r p_229_171).trans <| (s_get p_229_172 hs_246 (by decide) rfl).trans <| (s_const p_229_175).trans <| (s_iadd p_229_176).trans <| (s_put p_229_177 hs_246 (by decide) rfl).trans <| (s_goto p_229_180 rfl).trans <| rfl)
theorem b_229_147 : Z e (d + 2) 229 147 [.ref 246] [] m = ck (((wr (m 246 17)) = 2) → (((wr (m 246 16)) < (wr (m 246 4))) → (0 ≤ (wr (m 246 16)) ∧ (wr (m 246 16)) < 300))) (if ((wr (m 246 17)) = 2) ∧ (((wr (m 246 16)) < (wr (m 246 4))) ∧ (((wr 48) ≤ (wr (m 249 (wr (m 246 16))))) ∧ ((wr (m 249 (wr (m 246 16)))) ≤ (wr 57)))) then Z e (d + 2) 229 124 [.ref 246] [] (um m 246 16 ((m 246 16) + 1)) else rn m) := (s_al_0 p_229_147).trans <| (s_get p_229_148 hs_246 (by decide) rfl).trans <| (s_const p_229_151).trans <| Eq.trans (Eq.trans (s_c_ne_f p_229_152 rfl rfl wl_2) <| Eq.trans (ite_cg ((s_al_0 p_229_155).trans <| (s_al_0 p_229_156).trans <| (s_get p_229_157 hs_246 (by decide) rfl).trans <| (s_bip p_229_160 rfl).trans <| (s_bip p_229_162 rfl).trans <| (s_cv3 (Lc := [.ref 246, .int (iI (m 246 16)), .int (iI 48), .int (iI 57)]) p_229_164 (by decide) (by decide) (zM_of zq_228) ⟨Nat.le_of_ble_eq_true rfl, Nat.le_of_ble_eq_true rfl⟩ rfl (m_rc hs_246 ⟨rfl, by decide⟩)).trans <| (bd b_228_0).trans <| ck_bind.trans <| ck_cg fun k2 => ri_k.trans <| (s_beq_f p_229_167 rfl)) rfl) <| Eq.trans ck_a <| ck_cg fun _ => co_and) <| ck_cg fun _ => ite_cg ((s_al_0 p_229_170).trans <| (s_dup cat_r p_229_171).trans <| (s_get p_229_172 hs_246 (by decide) rfl).trans <| (s_const p_229_175).trans <| (s_iadd p_229_176).trans <| (s_put p_229_177 hs_246 (by decide) rfl).trans <| (s_goto p_229_180 rfl).trans <| rfl) ((s_retv p_229_183 (zM_of zq_229)))
end BK
