/-! Equations of blocks. By program. -/
section BK
variable {e : List Int32 × Value} {d : Nat} {m : zMm}
-- Version.holds
theorem p_117_0 : zP1 117 0 = some (.aload_n 0, 0, 0, 0) := zp_l zq_117 rfl
theorem p_117_1 : zP1 117 1 = some (.getfield 21, 8, 8, 0) := zp_r zq_117 rfl
theorem p_117_4 : zP1 117 4 = some (.iload_n 1, 0, 0, 0) := zp_l zq_117 rfl
theorem p_117_5 : zP1 117 5 = some (.iaload, 0, 0, 0) := zp_l zq_117 rfl
theorem p_117_6 : zP1 117 6 = some (.aload_n 0, 0, 0, 0) := zp_l zq_117 rfl
theorem p_117_7 : zP1 117 7 = some (.getfield 18, 8, 7, 0) := zp_r zq_117 rfl
theorem p_117_10 : zP1 117 10 = some (.iload_n 1, 0, 0, 0) := zp_l zq_117 rfl
theorem p_117_11 : zP1 117 11 = some (.iaload, 0, 0, 0) := zp_l zq_117 rfl
theorem p_117_12 : zP1 117 12 = some (.if_icmp .le 7, 0, 0, 0) := zp_l zq_117 rfl
theorem p_117_15 : zP1 117 15 = some (.iconst 0, 0, 0, 0) := zp_l zq_117 rfl
theorem p_117_16 : zP1 117 16 = some (.goto 4, 0, 0, 0) := zp_l zq_117 rfl
theorem p_117_19 : zP1 117 19 = some (.iconst 1, 0, 0, 0) := zp_l zq_117 rfl
theorem p_117_20 : zP1 117 20 = some (.istore 6, 0, 0, 0) := zp_l zq_117 rfl
theorem p_117_22 : zP1 117 22 = some (.aload_n 0, 0, 0, 0) := zp_l zq_117 rfl
theorem p_117_23 : zP1 117 23 = some (.getfield 18, 8, 7, 0) := zp_r zq_117 rfl
theorem p_117_26 : zP1 117 26 = some (.iload_n 1, 0, 0, 0) := zp_l zq_117 rfl
theorem p_117_27 : zP1 117 27 = some (.iaload, 0, 0, 0) := zp_l zq_117 rfl
theorem p_117_28 : zP1 117 28 = some (.istore 7, 0, 0, 0) := zp_l zq_117 rfl
theorem p_117_30 : zP1 117 30 = some (.iload 7, 0, 0, 0) := zp_l zq_117 rfl
theorem p_117_32 : zP1 117 32 = some (.aload_n 0, 0, 0, 0) := zp_l zq_117 rfl
theorem p_117_33 : zP1 117 33 = some (.getfield 21, 8, 8, 0) := zp_r zq_117 rfl
theorem p_117_36 : zP1 117 36 = some (.iload_n 1, 0, 0, 0) := zp_l zq_117 rfl
theorem p_117_37 : zP1 117 37 = some (.iaload, 0, 0, 0) := zp_l zq_117 rfl
theorem p_117_38 : zP1 117 38 = some (.if_icmp .ge 179, 0, 0, 0) := zp_l zq_117 rfl
theorem p_117_41 : zP1 117 41 = some (.iload 7, 0, 0, 0) := zp_l zq_117 rfl
theorem p_117_43 : zP1 117 43 = some (.bipush 100, 0, 0, 0) := zp_l zq_117 rfl
theorem p_117_45 : zP1 117 45 = some (.if_icmp .ge 172, 0, 0, 0) := zp_l zq_117 rfl
theorem p_117_48 : zP1 117 48 = some (.aload_n 0, 0, 0, 0) := zp_l zq_117 rfl
theorem p_117_49 : zP1 117 49 = some (.getfield 24, 8, 9, 0) := zp_r zq_117 rfl
theorem p_117_52 : zP1 117 52 = some (.iload 7, 0, 0, 0) := zp_l zq_117 rfl
theorem p_117_54 : zP1 117 54 = some (.iaload, 0, 0, 0) := zp_l zq_117 rfl
theorem p_117_55 : zP1 117 55 = some (.sipush 1000, 0, 0, 0) := zp_l zq_117 rfl
theorem p_117_58 : zP1 117 58 = some (.idiv, 0, 0, 0) := zp_l zq_117 rfl
theorem p_117_59 : zP1 117 59 = some (.istore 8, 0, 0, 0) := zp_l zq_117 rfl
theorem p_117_61 : zP1 117 61 = some (.aload_n 0, 0, 0, 0) := zp_l zq_117 rfl
theorem p_117_62 : zP1 117 62 = some (.getfield 24, 8, 9, 0) := zp_r zq_117 rfl
theorem p_117_65 : zP1 117 65 = some (.iload 7, 0, 0, 0) := zp_l zq_117 rfl
theorem p_117_67 : zP1 117 67 = some (.iaload, 0, 0, 0) := zp_l zq_117 rfl
theorem p_117_68 : zP1 117 68 = some (.sipush 1000, 0, 0, 0) := zp_l zq_117 rfl
theorem p_117_71 : zP1 117 71 = some (.irem, 0, 0, 0) := zp_l zq_117 rfl
theorem p_117_72 : zP1 117 72 = some (.istore 9, 0, 0, 0) := zp_l zq_117 rfl
theorem p_117_74 : zP1 117 74 = some (.iload 6, 0, 0, 0) := zp_l zq_117 rfl
theorem p_117_76 : zP1 117 76 = some (.iconst 1, 0, 0, 0) := zp_l zq_117 rfl
theorem p_117_77 : zP1 117 77 = some (.iand, 0, 0, 0) := zp_l zq_117 rfl
theorem p_117_78 : zP1 117 78 = some (.istore 10, 0, 0, 0) := zp_l zq_117 rfl
theorem p_117_80 : zP1 117 80 = some (.iload 8, 0, 0, 0) := zp_l zq_117 rfl
theorem p_117_82 : zP1 117 82 = some (.bipush 6, 0, 0, 0) := zp_l zq_117 rfl
theorem p_117_84 : zP1 117 84 = some (.if_icmp .ne 12, 0, 0, 0) := zp_l zq_117 rfl
theorem p_117_87 : zP1 117 87 = some (.iload 6, 0, 0, 0) := zp_l zq_117 rfl
theorem p_117_89 : zP1 117 89 = some (.iconst 1, 0, 0, 0) := zp_l zq_117 rfl
theorem p_117_90 : zP1 117 90 = some (.ixor, 0, 0, 0) := zp_l zq_117 rfl
theorem p_117_91 : zP1 117 91 = some (.istore 6, 0, 0, 0) := zp_l zq_117 rfl
theorem p_117_93 : zP1 117 93 = some (.goto 118, 0, 0, 0) := zp_l zq_117 rfl
theorem p_117_96 : zP1 117 96 = some (.iload 8, 0, 0, 0) := zp_l zq_117 rfl
theorem p_117_98 : zP1 117 98 = some (.bipush 7, 0, 0, 0) := zp_l zq_117 rfl
theorem p_117_100 : zP1 117 100 = some (.if_icmp .ne 25, 0, 0, 0) := zp_l zq_117 rfl
theorem p_117_103 : zP1 117 103 = some (.iload 6, 0, 0, 0) := zp_l zq_117 rfl
theorem p_117_105 : zP1 117 105 = some (.iconst 1, 0, 0, 0) := zp_l zq_117 rfl
theorem p_117_106 : zP1 117 106 = some (.ishr, 0, 0, 0) := zp_l zq_117 rfl
theorem p_117_107 : zP1 117 107 = some (.iload 10, 0, 0, 0) := zp_l zq_117 rfl
theorem p_117_109 : zP1 117 109 = some (.iconst 1, 0, 0, 0) := zp_l zq_117 rfl
theorem p_117_110 : zP1 117 110 = some (.if_icmp .ne 7, 0, 0, 0) := zp_l zq_117 rfl
theorem p_117_113 : zP1 117 113 = some (.iconst (-1), 0, 0, 0) := zp_l zq_117 rfl
theorem p_117_114 : zP1 117 114 = some (.goto 5, 0, 0, 0) := zp_l zq_117 rfl
theorem p_117_117 : zP1 117 117 = some (.bipush (-2), 0, 0, 0) := zp_l zq_117 rfl
theorem p_117_119 : zP1 117 119 = some (.iand, 0, 0, 0) := zp_l zq_117 rfl
theorem p_117_120 : zP1 117 120 = some (.istore 6, 0, 0, 0) := zp_l zq_117 rfl
theorem p_117_122 : zP1 117 122 = some (.goto 89, 0, 0, 0) := zp_l zq_117 rfl
theorem p_117_125 : zP1 117 125 = some (.iload 8, 0, 0, 0) := zp_l zq_117 rfl
theorem p_117_127 : zP1 117 127 = some (.bipush 8, 0, 0, 0) := zp_l zq_117 rfl
theorem p_117_129 : zP1 117 129 = some (.if_icmp .ne 15, 0, 0, 0) := zp_l zq_117 rfl
theorem p_117_132 : zP1 117 132 = some (.iload 6, 0, 0, 0) := zp_l zq_117 rfl
theorem p_117_134 : zP1 117 134 = some (.iconst 1, 0, 0, 0) := zp_l zq_117 rfl
theorem p_117_135 : zP1 117 135 = some (.ishr, 0, 0, 0) := zp_l zq_117 rfl
theorem p_117_136 : zP1 117 136 = some (.iload 10, 0, 0, 0) := zp_l zq_117 rfl
theorem p_117_138 : zP1 117 138 = some (.ior, 0, 0, 0) := zp_l zq_117 rfl
theorem p_117_139 : zP1 117 139 = some (.istore 6, 0, 0, 0) := zp_l zq_117 rfl
theorem p_117_141 : zP1 117 141 = some (.goto 70, 0, 0, 0) := zp_l zq_117 rfl
theorem p_117_144 : zP1 117 144 = some (.iload 8, 0, 0, 0) := zp_l zq_117 rfl
theorem p_117_146 : zP1 117 146 = some (.iconst 3, 0, 0, 0) := zp_l zq_117 rfl
theorem p_117_147 : zP1 117 147 = some (.if_icmp .lt 22, 0, 0, 0) := zp_l zq_117 rfl
theorem p_117_150 : zP1 117 150 = some (.iload 6, 0, 0, 0) := zp_l zq_117 rfl
theorem p_117_152 : zP1 117 152 = some (.iconst 1, 0, 0, 0) := zp_l zq_117 rfl
theorem p_117_153 : zP1 117 153 = some (.ishl, 0, 0, 0) := zp_l zq_117 rfl
theorem p_117_154 : zP1 117 154 = some (.iload 5, 0, 0, 0) := zp_l zq_117 rfl
theorem p_117_156 : zP1 117 156 = some (.iload 8, 0, 0, 0) := zp_l zq_117 rfl
theorem p_117_158 : zP1 117 158 = some (.iconst 3, 0, 0, 0) := zp_l zq_117 rfl
theorem p_117_159 : zP1 117 159 = some (.isub, 0, 0, 0) := zp_l zq_117 rfl
theorem p_117_160 : zP1 117 160 = some (.ishr, 0, 0, 0) := zp_l zq_117 rfl
theorem p_117_161 : zP1 117 161 = some (.iconst 1, 0, 0, 0) := zp_l zq_117 rfl
theorem p_117_162 : zP1 117 162 = some (.iand, 0, 0, 0) := zp_l zq_117 rfl
theorem p_117_163 : zP1 117 163 = some (.ior, 0, 0, 0) := zp_l zq_117 rfl
theorem p_117_164 : zP1 117 164 = some (.istore 6, 0, 0, 0) := zp_l zq_117 rfl
theorem p_117_166 : zP1 117 166 = some (.goto 45, 0, 0, 0) := zp_l zq_117 rfl
theorem p_117_169 : zP1 117 169 = some (.iload 8, 0, 0, 0) := zp_l zq_117 rfl
theorem p_117_171 : zP1 117 171 = some (.ifCond .ne 7, 0, 0, 0) := zp_l zq_117 rfl
theorem p_117_174 : zP1 117 174 = some (.iload_n 2, 0, 0, 0) := zp_l zq_117 rfl
theorem p_117_175 : zP1 117 175 = some (.goto 15, 0, 0, 0) := zp_l zq_117 rfl
theorem p_117_178 : zP1 117 178 = some (.iload 8, 0, 0, 0) := zp_l zq_117 rfl
theorem p_117_180 : zP1 117 180 = some (.iconst 1, 0, 0, 0) := zp_l zq_117 rfl
theorem p_117_181 : zP1 117 181 = some (.if_icmp .ne 7, 0, 0, 0) := zp_l zq_117 rfl
theorem p_117_184 : zP1 117 184 = some (.iload_n 3, 0, 0, 0) := zp_l zq_117 rfl
theorem p_117_185 : zP1 117 185 = some (.goto 5, 0, 0, 0) := zp_l zq_117 rfl
theorem p_117_188 : zP1 117 188 = some (.iload 4, 0, 0, 0) := zp_l zq_117 rfl
theorem p_117_190 : zP1 117 190 = some (.istore 11, 0, 0, 0) := zp_l zq_117 rfl
theorem p_117_192 : zP1 117 192 = some (.iload 6, 0, 0, 0) := zp_l zq_117 rfl
theorem p_117_194 : zP1 117 194 = some (.iconst 1, 0, 0, 0) := zp_l zq_117 rfl
theorem p_117_195 : zP1 117 195 = some (.ishl, 0, 0, 0) := zp_l zq_117 rfl
theorem p_117_196 : zP1 117 196 = some (.iload 11, 0, 0, 0) := zp_l zq_117 rfl
theorem p_117_198 : zP1 117 198 = some (.iload 9, 0, 0, 0) := zp_l zq_117 rfl
theorem p_117_200 : zP1 117 200 = some (.if_icmp .le 7, 0, 0, 0) := zp_l zq_117 rfl
theorem p_117_203 : zP1 117 203 = some (.iconst 1, 0, 0, 0) := zp_l zq_117 rfl
theorem p_117_204 : zP1 117 204 = some (.goto 4, 0, 0, 0) := zp_l zq_117 rfl
theorem p_117_207 : zP1 117 207 = some (.iconst 0, 0, 0, 0) := zp_l zq_117 rfl
theorem p_117_208 : zP1 117 208 = some (.ior, 0, 0, 0) := zp_l zq_117 rfl
theorem p_117_209 : zP1 117 209 = some (.istore 6, 0, 0, 0) := zp_l zq_117 rfl
theorem p_117_211 : zP1 117 211 = some (.iinc 7 1, 0, 0, 0) := zp_l zq_117 rfl
theorem p_117_214 : zP1 117 214 = some (.goto (-184), 0, 0, 0) := zp_l zq_117 rfl
theorem p_117_217 : zP1 117 217 = some (.iload 6, 0, 0, 0) := zp_l zq_117 rfl
theorem p_117_219 : zP1 117 219 = some (.iconst 1, 0, 0, 0) := zp_l zq_117 rfl
theorem p_117_220 : zP1 117 220 = some (.iand, 0, 0, 0) := zp_l zq_117 rfl
theorem p_117_221 : zP1 117 221 = some (.iconst 1, 0, 0, 0) := zp_l zq_117 rfl
theorem p_117_222 : zP1 117 222 = some (.if_icmp .ne 7, 0, 0, 0) := zp_l zq_117 rfl
theorem p_117_225 : zP1 117 225 = some (.iconst 1, 0, 0, 0) := zp_l zq_117 rfl
theorem p_117_226 : zP1 117 226 = some (.goto 4, 0, 0, 0) := zp_l zq_117 rfl
theorem p_117_229 : zP1 117 229 = some (.iconst 0, 0, 0, 0) := zp_l zq_117 rfl
theorem p_117_230 : zP1 117 230 = some (.ireturn, 0, 0, 0) := zp_l zq_117 rfl
theorem b_117_0 {a : Nat} {x1 : Int} {x2 : Int} {x3 : Int} {x4 : Int} {x5 : Int} (hV : zVer a) : Z e d 117 0 [.ref a, .int (iI x1), .int (iI x2), .int (iI x3), .int (iI x4), .int (iI x5), .retAddr 0, .retAddr 0, .retAddr 0, .retAddr 0, .retAddr 0, .retAddr 0] [] m = ck (0 ≤ (wr x1) ∧ (wr x1) < 10) (ck (0 ≤ (wr x1) ∧ (wr x1) < 10) (ck (0 ≤ (wr x1) ∧ (wr x1) < 10) (Z e d 117 30 [.ref a, .int (iI x1), .int (iI x2), .int (iI x3), .int (iI x4), .int (iI x5), .int (iI (if ¬ ((wr (m (a + 3) (wr x1))) < (wr (m (a + 4) (wr x1)))) then 1 else 0)), .int (iI (m (a + 3) (wr x1))), .retAddr 0, .retAddr 0, .retAddr 0, .retAddr 0] [] m))) := (s_al_0 p_117_0).trans <| (s_getr p_117_1 (hV).1 (by decide) rfl).trans <| (s_il_1 p_117_4).trans <| (s_ald 10 p_117_5 (hV).2.2.2.2.1 rfl (zV_4 (hV))).trans <| ck_cg fun k1 => (s_al_0 p_117_6).trans <| (s_getr p_117_7 (hV).1 (by decide) rfl).trans <| (s_il_1 p_117_10).trans <| (s_ald 10 p_117_11 (hV).2.2.2.1 rfl (zV_3 (hV))).trans <| ck_cg fun k2 => Eq.trans (Eq.trans ((s_c_le_f p_117_12 rfl rfl rfl)) <| Eq.trans (ite_cg ((s_const p_117_15).trans <| (s_goto p_117_16 rfl).trans <| rfl) ((s_const p_117_19).trans <| rfl)) (phi_not (fun z0 => Z e d 117 20 [.ref a, .int (iI x1), .int (iI x2), .int (iI x3), .int (iI x4), .int (iI x5), .retAddr 0, .retAddr 0, .retAddr 0, .retAddr 0, .retAddr 0, .retAddr 0] [.int (iI z0)] m))) <| (s_is_6 cat_i p_117_20).trans <| (s_al_0 p_117_22).trans <| (s_getr p_117_23 (hV).1 (by decide) rfl).trans <| (s_il_1 p_117_26).trans <| (s_ald 10 p_117_27 (hV).2.2.2.1 rfl (zV_3 (hV))).trans <| ck_cg fun k3 => (s_is_7 cat_i p_117_28).trans <| rfl
theorem b_117_30 {a : Nat} {x1 : Int} {x2 : Int} {x3 : Int} {x4 : Int} {x5 : Int} {x6 : Int} {x7 : Int} {u8 u9 u10 u11 : Value} (hV : zVer a) : Z e d 117 30 [.ref a, .int (iI x1), .int (iI x2), .int (iI x3), .int (iI x4), .int (iI x5), .int (iI x6), .int (iI x7), u8, u9, u10, u11] [] m = ck (0 ≤ (wr x1) ∧ (wr x1) < 10) ((if ((wr x7) < (wr (m (a + 4) (wr x1)))) ∧ ((wr x7) < 100) then ck (0 ≤ (wr x7) ∧ (wr x7) < 100) (ck (0 ≤ (wr x7) ∧ (wr x7) < 100) ((if (wr (jdiv (m (a + 5) (wr x7)) 1000)) = 6 then Z e d 117 30 [.ref a, .int (iI x1), .int (iI x2), .int (iI x3), .int (iI x4), .int (iI x5), .int (iI (jxor x6 1)), .int (iI (x7 + 1)), .int (iI (jdiv (m (a + 5) (wr x7)) 1000)), .int (iI (jrem (m (a + 5) (wr x7)) 1000)), .int (iI (jand x6 1)), u11] [] m else (if (wr (jdiv (m (a + 5) (wr x7)) 1000)) = 7 then Z e d 117 30 [.ref a, .int (iI x1), .int (iI x2), .int (iI x3), .int (iI x4), .int (iI x5), .int (iI (jand (jshr x6 1) (if (jand x6 1) = 1 then (-1) else (-2)))), .int (iI (x7 + 1)), .int (iI (jdiv (m (a + 5) (wr x7)) 1000)), .int (iI (jrem (m (a + 5) (wr x7)) 1000)), .int (iI (jand x6 1)), u11] [] m else (if (wr (jdiv (m (a + 5) (wr x7)) 1000)) = 8 then Z e d 117 30 [.ref a, .int (iI x1), .int (iI x2), .int (iI x3), .int (iI x4), .int (iI x5), .int (iI (jor (jshr x6 1) (jand x6 1))), .int (iI (x7 + 1)), .int (iI (jdiv (m (a + 5) (wr x7)) 1000)), .int (iI (jrem (m (a + 5) (wr x7)) 1000)), .int (iI (jand x6 1)), u11] [] m else (if 3 ≤ (wr (jdiv (m (a + 5) (wr x7)) 1000)) then Z e d 117 30 [.ref a, .int (iI x1), .int (iI x2), .int (iI x3), .int (iI x4), .int (iI x5), .int (iI (jor (jshl x6 1) (jand (jshr x5 ((jdiv (m (a + 5) (wr x7)) 1000) - 3)) 1))), .int (iI (x7 + 1)), .int (iI (jdiv (m (a + 5) (wr x7)) 1000)), .int (iI (jrem (m (a + 5) (wr x7)) 1000)), .int (iI (jand x6 1)), u11] [] m else Z e d 117 30 [.ref a, .int (iI x1), .int (iI x2), .int (iI x3), .int (iI x4), .int (iI x5), .int (iI (jor (jshl x6 1) (if (wr (jrem (m (a + 5) (wr x7)) 1000)) < (wr (if (wr (jdiv (m (a + 5) (wr x7)) 1000)) = 0 then x2 else (if (wr (jdiv (m (a + 5) (wr x7)) 1000)) = 1 then x3 else x4))) then 1 else 0))), .int (iI (x7 + 1)), .int (iI (jdiv (m (a + 5) (wr x7)) 1000)), .int (iI (jrem (m (a + 5) (wr x7)) 1000)), .int (iI (jand x6 1)), .int (iI (if (wr (jdiv (m (a + 5) (wr x7)) 1000)) = 0 then x2 else (if (wr (jdiv (m (a + 5) (wr x7)) 1000)) = 1 then x3 else x4)))] [] m)))))) else Z e d 117 217 [.ref a, .int (iI x1), .int (iI x2), .int (iI x3), .int (iI x4), .int (iI x5), .int (iI x6), .int (iI x7), u8, u9, u10, u11] [] m)) := (s_il_7 p_117_30).trans <| (s_al_0 p_117_32).trans <| (s_getr p_117_33 (hV).1 (by decide) rfl).trans <| (s_il_1 p_117_36).trans <| (s_ald 10 p_117_37 (hV).2.2.2.2.1 rfl (zV_4 (hV))).trans <| ck_cg fun k1 => Eq.trans (Eq.trans (s_c_ge_f p_117_38 rfl rfl rfl) <| Eq.trans (ite_cg ((s_il_7 p_117_41).trans <| (s_bip p_117_43 rfl).trans <| (s_c_ge_f p_117_45 rfl rfl wl_100)) rfl) co_and) <| ite_cg ((s_al_0 p_117_48).trans <| (s_getr p_117_49 (hV).1 (by decide) rfl).trans <| (s_il_7 p_117_52).trans <| (s_ald 100 p_117_54 (hV).2.2.2.2.2.1 rfl (zV_5 (hV))).trans <| ck_cg fun k4 => (s_sip p_117_55 rfl).trans <| (s_idivc p_117_58 (by decide)).trans <| (s_is_8 cat_i p_117_59).trans <| (s_al_0 p_117_61).trans <| (s_getr p_117_62 (hV).1 (by decide) rfl).trans <| (s_il_7 p_117_65).trans <| (s_ald 100 p_117_67 (hV).2.2.2.2.2.1 rfl (zV_5 (hV))).trans <| ck_cg fun k5 => (s_sip p_117_68 rfl).trans <| (s_iremc p_117_71 (by decide)).trans <| (s_is_9 cat_i p_117_72).trans <| (s_il_6 p_117_74).trans <| (s_const p_117_76).trans <| (s_iand p_117_77).trans <| (s_is_10 cat_i p_117_78).trans <| (s_il_8 p_117_80).trans <| (s_bip p_117_82 rfl).trans <| Eq.trans ((s_c_ne_f p_117_84 rfl rfl wl_6)) <| ite_cg ((s_il_6 p_117_87).trans <| (s_const p_117_89).trans <| (s_ixor p_117_90).trans <| (s_is_6 cat_i p_117_91).trans <| (s_goto p_117_93 rfl).trans <| (s_inc_7 cat_i p_117_211).trans <| (s_goto p_117_214 rfl).trans <| rfl) ((s_il_8 p_117_96).trans <| (s_bip p_117_98 rfl).trans <| Eq.trans ((s_c_ne_f p_117_100 rfl rfl wl_7)) <| ite_cg ((s_il_6 p_117_103).trans <| (s_const p_117_105).trans <| (s_ishr p_117_106).trans <| (s_il_10 p_117_107).trans <| (s_const p_117_109).trans <| Eq.trans (Eq.trans ((s_c_ne_f p_117_110 rfl wr_jand wl_1)) <| Eq.trans (ite_cg ((s_const p_117_113).trans <| (s_goto p_117_114 rfl).trans <| rfl) ((s_bip p_117_117 rfl).trans <| rfl)) (phi1 (fun z0 => Z e d 117 119 [.ref a, .int (iI x1), .int (iI x2), .int (iI x3), .int (iI x4), .int (iI x5), .int (iI x6), .int (iI x7), .int (iI (jdiv (m (a + 5) (wr x7)) 1000)), .int (iI (jrem (m (a + 5) (wr x7)) 1000)), .int (iI (jand x6 1)), u11] [.int (iI z0), .int (iI (jshr x6 1))] m))) <| (s_iand p_117_119).trans <| (s_is_6 cat_i p_117_120).trans <| (s_goto p_117_122 rfl).trans <| (s_inc_7 cat_i p_117_211).trans <| (s_goto p_117_214 rfl).trans <| rfl) ((s_il_8 p_117_125).trans <| (s_bip p_117_127 rfl).trans <| Eq.trans ((s_c_ne_f p_117_129 rfl rfl wl_8)) <| ite_cg ((s_il_6 p_117_132).trans <| (s_const p_117_134).trans <| (s_ishr p_117_135).trans <| (s_il_10 p_117_136).trans <| (s_ior p_117_138).trans <| (s_is_6 cat_i p_117_139).trans <| (s_goto p_117_141 rfl).trans <| (s_inc_7 cat_i p_117_211).trans <| (s_goto p_117_214 rfl).trans <| rfl) ((s_il_8 p_117_144).trans <| (s_const p_117_146).trans <| Eq.trans ((s_c_lt_f p_117_147 rfl rfl wl_3)) <| ite_cg ((s_il_6 p_117_150).trans <| (s_const p_117_152).trans <| (s_ishl p_117_153).trans <| (s_il_5 p_117_154).trans <| (s_il_8 p_117_156).trans <| (s_const p_117_158).trans <| (s_isub p_117_159).trans <| (s_ishr p_117_160).trans <| (s_const p_117_161).trans <| (s_iand p_117_162).trans <| (s_ior p_117_163).trans <| (s_is_6 cat_i p_117_164).trans <| (s_goto p_117_166 rfl).trans <| (s_inc_7 cat_i p_117_211).trans <| (s_goto p_117_214 rfl).trans <| rfl) ((s_il_8 p_117_169).trans <| Eq.trans (Eq.trans ((s_z_ne_f p_117_171 rfl rfl)) <| Eq.trans (ite_cg ((s_il_2 p_117_174).trans <| (s_goto p_117_175 rfl).trans <| rfl) ((s_il_8 p_117_178).trans <| (s_const p_117_180).trans <| Eq.trans (Eq.trans ((s_c_ne_f p_117_181 rfl rfl wl_1)) <| Eq.trans (ite_cg ((s_il_3 p_117_184).trans <| (s_goto p_117_185 rfl).trans <| rfl) ((s_il_4 p_117_188).trans <| rfl)) (phi1 (fun z0 => Z e d 117 190 [.ref a, .int (iI x1), .int (iI x2), .int (iI x3), .int (iI x4), .int (iI x5), .int (iI x6), .int (iI x7), .int (iI (jdiv (m (a + 5) (wr x7)) 1000)), .int (iI (jrem (m (a + 5) (wr x7)) 1000)), .int (iI (jand x6 1)), u11] [.int (iI z0)] m))) <| rfl)) (phi1 (fun z0 => Z e d 117 190 [.ref a, .int (iI x1), .int (iI x2), .int (iI x3), .int (iI x4), .int (iI x5), .int (iI x6), .int (iI x7), .int (iI (jdiv (m (a + 5) (wr x7)) 1000)), .int (iI (jrem (m (a + 5) (wr x7)) 1000)), .int (iI (jand x6 1)), u11] [.int (iI z0)] m))) <| (s_is_11 cat_i p_117_190).trans <| (s_il_6 p_117_192).trans <| (s_const p_117_194).trans <| (s_ishl p_117_195).trans <| (s_il_11 p_117_196).trans <| (s_il_9 p_117_198).trans <| Eq.trans (Eq.trans ((s_c_le_f p_117_200 rfl rfl rfl)) <| Eq.trans (ite_cg ((s_const p_117_203).trans <| (s_goto p_117_204 rfl).trans <| rfl) ((s_const p_117_207).trans <| rfl)) (phi1 (fun z0 => Z e d 117 208 [.ref a, .int (iI x1), .int (iI x2), .int (iI x3), .int (iI x4), .int (iI x5), .int (iI x6), .int (iI x7), .int (iI (jdiv (m (a + 5) (wr x7)) 1000)), .int (iI (jrem (m (a + 5) (wr x7)) 1000)), .int (iI (jand x6 1)), .int (iI (if (wr (jdiv (m (a + 5) (wr x7)) 1000)) = 0 then x2 else (if (wr (jdiv (m (a + 5) (wr x7)) 1000)) = 1 then x3 else x4)))] [.int (iI z0), .int (iI (jshl x6 1))] m))) <| (s_ior p_117_208).trans <| (s_is_6 cat_i p_117_209).trans <| (s_inc_7 cat_i p_117_211).trans <| (s_goto p_117_214 rfl).trans <| rfl))))) (rfl)
theorem b_117_217 {a : Nat} {x6 : Int} {u0 u1 u2 u3 u4 u5 u7 u8 u9 u10 u11 : Value} (hV : zVer a) : Z e d 117 217 [u0, u1, u2, u3, u4, u5, .int (iI x6), u7, u8, u9, u10, u11] [] m = ri (if (jand x6 1) = 1 then 1 else 0) m := (s_il_6 p_117_217).trans <| (s_const p_117_219).trans <| (s_iand p_117_220).trans <| (s_const p_117_221).trans <| Eq.trans (Eq.trans ((s_c_ne_f p_117_222 rfl wr_jand wl_1)) <| Eq.trans (ite_cg ((s_const p_117_225).trans <| (s_goto p_117_226 rfl).trans <| rfl) ((s_const p_117_229).trans <| rfl)) (phi1 (fun z0 => Z e d 117 230 [u0, u1, u2, u3, u4, u5, .int (iI x6), u7, u8, u9, u10, u11] [.int (iI z0)] m))) <| (s_retb p_117_230 (zM_of zq_117))
-- Law.holdsOn
theorem p_26_0 : zP1 26 0 = some (.iload_n 2, 0, 0, 0) := zp_l zq_26 rfl
theorem p_26_1 : zP1 26 1 = some (.ifCond .lt 9, 0, 0, 0) := zp_l zq_26 rfl
theorem p_26_4 : zP1 26 4 = some (.iload_n 2, 0, 0, 0) := zp_l zq_26 rfl
theorem p_26_5 : zP1 26 5 = some (.bipush 24, 0, 0, 0) := zp_l zq_26 rfl
theorem p_26_7 : zP1 26 7 = some (.if_icmp .lt 5, 0, 0, 0) := zp_l zq_26 rfl
theorem p_26_10 : zP1 26 10 = some (.iconst 0, 0, 0, 0) := zp_l zq_26 rfl
theorem p_26_11 : zP1 26 11 = some (.ireturn, 0, 0, 0) := zp_l zq_26 rfl
theorem p_26_12 : zP1 26 12 = some (.iload 4, 0, 0, 0) := zp_l zq_26 rfl
theorem p_26_14 : zP1 26 14 = some (.aload_n 0, 0, 0, 0) := zp_l zq_26 rfl
theorem p_26_15 : zP1 26 15 = some (.getfield 29, 1, 0, 0) := zp_r zq_26 rfl
theorem p_26_18 : zP1 26 18 = some (.getfield 120, 9, 7, 0) := zp_r zq_26 rfl
theorem p_26_21 : zP1 26 21 = some (.iload_n 2, 0, 0, 0) := zp_l zq_26 rfl
theorem p_26_22 : zP1 26 22 = some (.iconst 3, 0, 0, 0) := zp_l zq_26 rfl
theorem p_26_23 : zP1 26 23 = some (.invokevirtual 97, 104, 2, 7) := zp_r zq_26 rfl
theorem p_26_26 : zP1 26 26 = some (.isub, 0, 0, 0) := zp_l zq_26 rfl
theorem p_26_27 : zP1 26 27 = some (.istore 5, 0, 0, 0) := zp_l zq_26 rfl
theorem p_26_29 : zP1 26 29 = some (.aload_n 0, 0, 0, 0) := zp_l zq_26 rfl
theorem p_26_30 : zP1 26 30 = some (.getfield 29, 1, 0, 0) := zp_r zq_26 rfl
theorem p_26_33 : zP1 26 33 = some (.getfield 69, 9, 4, 0) := zp_r zq_26 rfl
theorem p_26_36 : zP1 26 36 = some (.iload_n 1, 0, 0, 0) := zp_l zq_26 rfl
theorem p_26_37 : zP1 26 37 = some (.bipush 100, 0, 0, 0) := zp_l zq_26 rfl
theorem p_26_39 : zP1 26 39 = some (.idiv, 0, 0, 0) := zp_l zq_26 rfl
theorem p_26_40 : zP1 26 40 = some (.aaload, 0, 0, 0) := zp_l zq_26 rfl
theorem p_26_41 : zP1 26 41 = some (.iload_n 1, 0, 0, 0) := zp_l zq_26 rfl
theorem p_26_42 : zP1 26 42 = some (.bipush 100, 0, 0, 0) := zp_l zq_26 rfl
theorem p_26_44 : zP1 26 44 = some (.irem, 0, 0, 0) := zp_l zq_26 rfl
theorem p_26_45 : zP1 26 45 = some (.iload 5, 0, 0, 0) := zp_l zq_26 rfl
theorem p_26_47 : zP1 26 47 = some (.aload_n 0, 0, 0, 0) := zp_l zq_26 rfl
theorem p_26_48 : zP1 26 48 = some (.getfield 23, 1, 9, 0) := zp_r zq_26 rfl
theorem p_26_51 : zP1 26 51 = some (.iload_n 2, 0, 0, 0) := zp_l zq_26 rfl
theorem p_26_52 : zP1 26 52 = some (.iaload, 0, 0, 0) := zp_l zq_26 rfl
theorem p_26_53 : zP1 26 53 = some (.iload_n 3, 0, 0, 0) := zp_l zq_26 rfl
theorem p_26_54 : zP1 26 54 = some (.aload_n 0, 0, 0, 0) := zp_l zq_26 rfl
theorem p_26_55 : zP1 26 55 = some (.getfield 26, 1, 10, 0) := zp_r zq_26 rfl
theorem p_26_58 : zP1 26 58 = some (.iload_n 2, 0, 0, 0) := zp_l zq_26 rfl
theorem p_26_59 : zP1 26 59 = some (.iaload, 0, 0, 0) := zp_l zq_26 rfl
theorem p_26_60 : zP1 26 60 = some (.invokevirtual 129, 117, 5, 8) := zp_r zq_26 rfl
theorem p_26_63 : zP1 26 63 = some (.ireturn, 0, 0, 0) := zp_l zq_26 rfl
theorem b_26_0 {x1 : Int} {x2 : Int} {x3 : Int} {x4 : Int} : Z e (d + 1) 26 0 [.ref 202, .int (iI x1), .int (iI x2), .int (iI x3), .int (iI x4), .retAddr 0] [] m = (if ((wr x2) < 0) ∨ (24 ≤ (wr x2)) then ri 0 m else (Z e d 104 0 [.ref 8, .int (iI x2), .int (iI 3)] [] m).bind (ZK e (d + 1) 26 26 [.ref 202, .int (iI x1), .int (iI x2), .int (iI x3), .int (iI x4), .retAddr 0] [.int (iI x4)] m)) := (s_il_2 p_26_0).trans <| Eq.trans (Eq.trans (s_z_lt_t p_26_1 rfl rfl) <| Eq.trans (ite_cg rfl ((s_il_2 p_26_4).trans <| (s_bip p_26_5 rfl).trans <| (s_c_lt_f p_26_7 rfl rfl wl_24))) co_or) <| ite_cg ((s_const p_26_10).trans <| (s_retk rfl p_26_11 (zM_of zq_26))) ((s_il_4 p_26_12).trans <| (s_al_0 p_26_14).trans <| (s_getr p_26_15 hs_202 (by decide) rfl).trans <| (s_getr p_26_18 hs_1 (by decide) rfl).trans <| (s_il_2 p_26_21).trans <| (s_const p_26_22).trans <| (s_cv2 (Lc := [.ref 8, .int (iI x2), .int (iI 3)]) p_26_23 (by decide) (by decide) (zM_of zq_104) ⟨Nat.le_of_ble_eq_true rfl, Nat.le_of_ble_eq_true rfl⟩ rfl (m_rc hs_8 ⟨rfl, by decide⟩)))
theorem b_26_26 {x1 : Int} {x2 : Int} {x3 : Int} {xs0 : Int} {xs1 : Int} {u4 u5 : Value} (hu4 : u4.category = 1) : Z e (d + 1) 26 26 [.ref 202, .int (iI x1), .int (iI x2), .int (iI x3), u4, u5] [.int (iI xs0), .int (iI xs1)] m = ck (0 ≤ (wr (jdiv x1 100)) ∧ (wr (jdiv x1 100)) < 12) (ck (0 ≤ (wr x2) ∧ (wr x2) < 24) (ck (0 ≤ (wr x2) ∧ (wr x2) < 24) ((Z e d 117 0 [.ref (18 + 6 * (wr (jdiv x1 100)).toNat), .int (iI (jrem x1 100)), .int (iI (xs1 - xs0)), .int (iI (m 204 (wr x2))), .int (iI x3), .int (iI (m 205 (wr x2))), .retAddr 0, .retAddr 0, .retAddr 0, .retAddr 0, .retAddr 0, .retAddr 0] [] m).bind (ZK e (d + 1) 26 63 [.ref 202, .int (iI x1), .int (iI x2), .int (iI x3), u4, .int (iI (xs1 - xs0))] [] m)))) := (s_isub p_26_26).trans <| (s_is_5 hu4 p_26_27).trans <| (s_al_0 p_26_29).trans <| (s_getr p_26_30 hs_202 (by decide) rfl).trans <| (s_getr p_26_33 hs_1 (by decide) rfl).trans <| (s_il_1 p_26_36).trans <| (s_bip p_26_37 rfl).trans <| (s_idivc p_26_39 (by decide)).trans <| (s_aald 12 p_26_40 hs_3 rfl ⟨by decide, by decide⟩ ar_3).trans <| ck_cg fun k1 => (s_il_1 p_26_41).trans <| (s_bip p_26_42 rfl).trans <| (s_iremc p_26_44 (by decide)).trans <| (s_il_5 p_26_45).trans <| (s_al_0 p_26_47).trans <| (s_getr p_26_48 hs_202 (by decide) rfl).trans <| (s_il_2 p_26_51).trans <| (s_ald 24 p_26_52 hs_204 rfl (by decide)).trans <| ck_cg fun k2 => (s_il_3 p_26_53).trans <| (s_al_0 p_26_54).trans <| (s_getr p_26_55 hs_202 (by decide) rfl).trans <| (s_il_2 p_26_58).trans <| (s_ald 24 p_26_59 hs_205 rfl (by decide)).trans <| ck_cg fun k3 => (s_cv5 (Lc := [.ref (18 + 6 * (wr (jdiv x1 100)).toNat), .int (iI (jrem x1 100)), .int (iI (xs1 - xs0)), .int (iI (m 204 (wr x2))), .int (iI x3), .int (iI (m 205 (wr x2))), .retAddr 0, .retAddr 0, .retAddr 0, .retAddr 0, .retAddr 0, .retAddr 0]) p_26_60 (by decide) (by decide) (zM_of zq_117) ⟨Nat.le_of_ble_eq_true rfl, Nat.le_of_ble_eq_true rfl⟩ rfl (m_rc (zVer_0 k1).1 ⟨rfl, by decide⟩))
theorem b_26_63 {xs0 : Int} {u0 u1 u2 u3 u4 u5 : Value} : Z e (d + 1) 26 63 [u0, u1, u2, u3, u4, u5] [.int (iI xs0)] m = ck (nbp xs0) (ri xs0 m) := (s_retx p_26_63 (zM_of zq_26))
-- Version.names
theorem p_116_0 : zP1 116 0 = some (.aload_n 0, 0, 0, 0) := zp_l zq_116 rfl
theorem p_116_1 : zP1 116 1 = some (.getfield 15, 8, 6, 0) := zp_r zq_116 rfl
theorem p_116_4 : zP1 116 4 = some (.iload_n 1, 0, 0, 0) := zp_l zq_116 rfl
theorem p_116_5 : zP1 116 5 = some (.iaload, 0, 0, 0) := zp_l zq_116 rfl
theorem p_116_6 : zP1 116 6 = some (.iconst 1, 0, 0, 0) := zp_l zq_116 rfl
theorem p_116_7 : zP1 116 7 = some (.iload_n 2, 0, 0, 0) := zp_l zq_116 rfl
theorem p_116_8 : zP1 116 8 = some (.ishl, 0, 0, 0) := zp_l zq_116 rfl
theorem p_116_9 : zP1 116 9 = some (.bipush 64, 0, 0, 0) := zp_l zq_116 rfl
theorem p_116_11 : zP1 116 11 = some (.ior, 0, 0, 0) := zp_l zq_116 rfl
theorem p_116_12 : zP1 116 12 = some (.iand, 0, 0, 0) := zp_l zq_116 rfl
theorem p_116_13 : zP1 116 13 = some (.ifCond .eq 7, 0, 0, 0) := zp_l zq_116 rfl
theorem p_116_16 : zP1 116 16 = some (.iconst 1, 0, 0, 0) := zp_l zq_116 rfl
theorem p_116_17 : zP1 116 17 = some (.goto 4, 0, 0, 0) := zp_l zq_116 rfl
theorem p_116_20 : zP1 116 20 = some (.iconst 0, 0, 0, 0) := zp_l zq_116 rfl
theorem p_116_21 : zP1 116 21 = some (.ireturn, 0, 0, 0) := zp_l zq_116 rfl
theorem b_116_0 {a : Nat} {x1 : Int} {x2 : Int} (hV : zVer a) : Z e d 116 0 [.ref a, .int (iI x1), .int (iI x2)] [] m = ck (0 ≤ (wr x1) ∧ (wr x1) < 10) (ri (if ¬ (jand (m (a + 2) (wr x1)) (jor (jshl 1 x2) 64)) = 0 then 1 else 0) m) := (s_al_0 p_116_0).trans <| (s_getr p_116_1 (hV).1 (by decide) rfl).trans <| (s_il_1 p_116_4).trans <| (s_ald 10 p_116_5 (hV).2.2.1 rfl (zV_2 (hV))).trans <| ck_cg fun k1 => (s_const p_116_6).trans <| (s_il_2 p_116_7).trans <| (s_ishl p_116_8).trans <| (s_bip p_116_9 rfl).trans <| (s_ior p_116_11).trans <| (s_iand p_116_12).trans <| Eq.trans (Eq.trans ((s_z_eq_f p_116_13 rfl wr_jand)) <| Eq.trans (ite_cg ((s_const p_116_16).trans <| (s_goto p_116_17 rfl).trans <| rfl) ((s_const p_116_20).trans <| rfl)) (phi1 (fun z0 => Z e d 116 21 [.ref a, .int (iI x1), .int (iI x2)] [.int (iI z0)] m))) <| (s_retb p_116_21 (zM_of zq_116))
-- Law.lineThatTells
theorem p_27_0 : zP1 27 0 = some (.aload_n 0, 0, 0, 0) := zp_l zq_27 rfl
theorem p_27_1 : zP1 27 1 = some (.getfield 29, 1, 0, 0) := zp_r zq_27 rfl
theorem p_27_4 : zP1 27 4 = some (.getfield 120, 9, 7, 0) := zp_r zq_27 rfl
theorem p_27_7 : zP1 27 7 = some (.iload_n 1, 0, 0, 0) := zp_l zq_27 rfl
theorem p_27_8 : zP1 27 8 = some (.iconst 1, 0, 0, 0) := zp_l zq_27 rfl
theorem p_27_9 : zP1 27 9 = some (.invokevirtual 97, 104, 2, 7) := zp_r zq_27 rfl
theorem p_27_12 : zP1 27 12 = some (.istore 4, 0, 0, 0) := zp_l zq_27 rfl
theorem p_27_14 : zP1 27 14 = some (.aload_n 0, 0, 0, 0) := zp_l zq_27 rfl
theorem p_27_15 : zP1 27 15 = some (.getfield 49, 1, 5, 0) := zp_r zq_27 rfl
theorem p_27_18 : zP1 27 18 = some (.iconst 1, 0, 0, 0) := zp_l zq_27 rfl
theorem p_27_19 : zP1 27 19 = some (.isub, 0, 0, 0) := zp_l zq_27 rfl
theorem p_27_20 : zP1 27 20 = some (.istore 5, 0, 0, 0) := zp_l zq_27 rfl
theorem p_27_22 : zP1 27 22 = some (.iload 5, 0, 0, 0) := zp_l zq_27 rfl
theorem p_27_24 : zP1 27 24 = some (.ifCond .lt 102, 0, 0, 0) := zp_l zq_27 rfl
theorem p_27_27 : zP1 27 27 = some (.aload_n 0, 0, 0, 0) := zp_l zq_27 rfl
theorem p_27_28 : zP1 27 28 = some (.getfield 29, 1, 0, 0) := zp_r zq_27 rfl
theorem p_27_31 : zP1 27 31 = some (.getfield 69, 9, 4, 0) := zp_r zq_27 rfl
theorem p_27_34 : zP1 27 34 = some (.aload_n 0, 0, 0, 0) := zp_l zq_27 rfl
theorem p_27_35 : zP1 27 35 = some (.getfield 19, 1, 4, 0) := zp_r zq_27 rfl
theorem p_27_38 : zP1 27 38 = some (.iload 5, 0, 0, 0) := zp_l zq_27 rfl
theorem p_27_40 : zP1 27 40 = some (.iaload, 0, 0, 0) := zp_l zq_27 rfl
theorem p_27_41 : zP1 27 41 = some (.bipush 100, 0, 0, 0) := zp_l zq_27 rfl
theorem p_27_43 : zP1 27 43 = some (.idiv, 0, 0, 0) := zp_l zq_27 rfl
theorem p_27_44 : zP1 27 44 = some (.aaload, 0, 0, 0) := zp_l zq_27 rfl
theorem p_27_45 : zP1 27 45 = some (.astore 6, 0, 0, 0) := zp_l zq_27 rfl
theorem p_27_47 : zP1 27 47 = some (.aload_n 0, 0, 0, 0) := zp_l zq_27 rfl
theorem p_27_48 : zP1 27 48 = some (.getfield 19, 1, 4, 0) := zp_r zq_27 rfl
theorem p_27_51 : zP1 27 51 = some (.iload 5, 0, 0, 0) := zp_l zq_27 rfl
theorem p_27_53 : zP1 27 53 = some (.iaload, 0, 0, 0) := zp_l zq_27 rfl
theorem p_27_54 : zP1 27 54 = some (.bipush 100, 0, 0, 0) := zp_l zq_27 rfl
theorem p_27_56 : zP1 27 56 = some (.irem, 0, 0, 0) := zp_l zq_27 rfl
theorem p_27_57 : zP1 27 57 = some (.istore 7, 0, 0, 0) := zp_l zq_27 rfl
theorem p_27_59 : zP1 27 59 = some (.aload 6, 0, 0, 0) := zp_l zq_27 rfl
theorem p_27_61 : zP1 27 61 = some (.getfield 84, 8, 5, 0) := zp_r zq_27 rfl
theorem p_27_64 : zP1 27 64 = some (.iload 7, 0, 0, 0) := zp_l zq_27 rfl
theorem p_27_66 : zP1 27 66 = some (.iaload, 0, 0, 0) := zp_l zq_27 rfl
theorem p_27_67 : zP1 27 67 = some (.iconst 5, 0, 0, 0) := zp_l zq_27 rfl
theorem p_27_68 : zP1 27 68 = some (.if_icmp .lt 19, 0, 0, 0) := zp_l zq_27 rfl
theorem p_27_71 : zP1 27 71 = some (.aload 6, 0, 0, 0) := zp_l zq_27 rfl
theorem p_27_73 : zP1 27 73 = some (.iload 7, 0, 0, 0) := zp_l zq_27 rfl
theorem p_27_75 : zP1 27 75 = some (.iload 4, 0, 0, 0) := zp_l zq_27 rfl
theorem p_27_77 : zP1 27 77 = some (.invokevirtual 133, 116, 2, 8) := zp_r zq_27 rfl
theorem p_27_80 : zP1 27 80 = some (.ifCond .eq 7, 0, 0, 0) := zp_l zq_27 rfl
theorem p_27_83 : zP1 27 83 = some (.iconst 1, 0, 0, 0) := zp_l zq_27 rfl
theorem p_27_84 : zP1 27 84 = some (.goto 4, 0, 0, 0) := zp_l zq_27 rfl
theorem p_27_87 : zP1 27 87 = some (.iconst 0, 0, 0, 0) := zp_l zq_27 rfl
theorem p_27_88 : zP1 27 88 = some (.istore 8, 0, 0, 0) := zp_l zq_27 rfl
theorem p_27_90 : zP1 27 90 = some (.iload 8, 0, 0, 0) := zp_l zq_27 rfl
theorem p_27_92 : zP1 27 92 = some (.ifCond .eq 28, 0, 0, 0) := zp_l zq_27 rfl
theorem p_27_95 : zP1 27 95 = some (.aload_n 0, 0, 0, 0) := zp_l zq_27 rfl
theorem p_27_96 : zP1 27 96 = some (.aload_n 0, 0, 0, 0) := zp_l zq_27 rfl
theorem p_27_97 : zP1 27 97 = some (.getfield 19, 1, 4, 0) := zp_r zq_27 rfl
theorem p_27_100 : zP1 27 100 = some (.iload 5, 0, 0, 0) := zp_l zq_27 rfl
theorem p_27_102 : zP1 27 102 = some (.iaload, 0, 0, 0) := zp_l zq_27 rfl
theorem p_27_103 : zP1 27 103 = some (.iload_n 1, 0, 0, 0) := zp_l zq_27 rfl
theorem p_27_104 : zP1 27 104 = some (.iload_n 2, 0, 0, 0) := zp_l zq_27 rfl
theorem p_27_105 : zP1 27 105 = some (.iload_n 3, 0, 0, 0) := zp_l zq_27 rfl
theorem p_27_106 : zP1 27 106 = some (.invokevirtual 137, 26, 4, 1) := zp_r zq_27 rfl
theorem p_27_109 : zP1 27 109 = some (.ifCond .eq 11, 0, 0, 0) := zp_l zq_27 rfl
theorem p_27_112 : zP1 27 112 = some (.aload_n 0, 0, 0, 0) := zp_l zq_27 rfl
theorem p_27_113 : zP1 27 113 = some (.getfield 19, 1, 4, 0) := zp_r zq_27 rfl
theorem p_27_116 : zP1 27 116 = some (.iload 5, 0, 0, 0) := zp_l zq_27 rfl
theorem p_27_118 : zP1 27 118 = some (.iaload, 0, 0, 0) := zp_l zq_27 rfl
theorem p_27_119 : zP1 27 119 = some (.ireturn, 0, 0, 0) := zp_l zq_27 rfl
theorem p_27_120 : zP1 27 120 = some (.iinc 5 (-1), 0, 0, 0) := zp_l zq_27 rfl
theorem p_27_123 : zP1 27 123 = some (.goto (-101), 0, 0, 0) := zp_l zq_27 rfl
theorem p_27_126 : zP1 27 126 = some (.bipush (-3), 0, 0, 0) := zp_l zq_27 rfl
theorem p_27_128 : zP1 27 128 = some (.ireturn, 0, 0, 0) := zp_l zq_27 rfl
theorem b_27_0 {x1 : Int} {x2 : Int} {x3 : Int} : Z e (d + 1) 27 0 [.ref 202, .int (iI x1), .int (iI x2), .int (iI x3), .retAddr 0, .retAddr 0, .retAddr 0, .retAddr 0, .retAddr 0] [] m = (Z e d 104 0 [.ref 8, .int (iI x1), .int (iI 1)] [] m).bind (ZK e (d + 1) 27 12 [.ref 202, .int (iI x1), .int (iI x2), .int (iI x3), .retAddr 0, .retAddr 0, .retAddr 0, .retAddr 0, .retAddr 0] [] m) := (s_al_0 p_27_0).trans <| (s_getr p_27_1 hs_202 (by decide) rfl).trans <| (s_getr p_27_4 hs_1 (by decide) rfl).trans <| (s_il_1 p_27_7).trans <| (s_const p_27_8).trans <| (s_cv2 (Lc := [.ref 8, .int (iI x1), .int (iI 1)]) p_27_9 (by decide) (by decide) (zM_of zq_104) ⟨Nat.le_of_ble_eq_true rfl, Nat.le_of_ble_eq_true rfl⟩ rfl (m_rc hs_8 ⟨rfl, by decide⟩))
theorem b_27_22 {x1 : Int} {x2 : Int} {x3 : Int} {x4 : Int} {x5 : Int} {u6 u7 u8 : Value} : Z e (d + 1) 27 22 [.ref 202, .int (iI x1), .int (iI x2), .int (iI x3), .int (iI x4), .int (iI x5), u6, u7, u8] [] m = (if 0 ≤ (wr x5) then ck (0 ≤ (wr x5) ∧ (wr x5) < 30) (ck (0 ≤ (wr (jdiv (m 203 (wr x5)) 100)) ∧ (wr (jdiv (m 203 (wr x5)) 100)) < 12) (ck (0 ≤ (wr x5) ∧ (wr x5) < 30) (ck (0 ≤ (wr (jrem (m 203 (wr x5)) 100)) ∧ (wr (jrem (m 203 (wr x5)) 100)) < 10) (ck ((5 ≤ (wr (m ((18 + 6 * (wr (jdiv (m 203 (wr x5)) 100)).toNat) + 1) (wr (jrem (m 203 (wr x5)) 100))))) → (0 ≤ (wr (jrem (m 203 (wr x5)) 100)) ∧ (wr (jrem (m 203 (wr x5)) 100)) < 10)) ((if (5 ≤ (wr (m ((18 + 6 * (wr (jdiv (m 203 (wr x5)) 100)).toNat) + 1) (wr (jrem (m 203 (wr x5)) 100))))) ∧ (¬ (jand (m ((18 + 6 * (wr (jdiv (m 203 (wr x5)) 100)).toNat) + 2) (wr (jrem (m 203 (wr x5)) 100))) (jor (jshl 1 x4) 64)) = 0) then ck (0 ≤ (wr x5) ∧ (wr x5) < 30) ((Z e d 26 0 [.ref 202, .int (iI (m 203 (wr x5))), .int (iI x1), .int (iI x2), .int (iI x3), .retAddr 0] [] m).bind (ZK e (d + 1) 27 109 [.ref 202, .int (iI x1), .int (iI x2), .int (iI x3), .int (iI x4), .int (iI x5), .ref (18 + 6 * (wr (jdiv (m 203 (wr x5)) 100)).toNat), .int (iI (jrem (m 203 (wr x5)) 100)), .int (iI (if (5 ≤ (wr (m ((18 + 6 * (wr (jdiv (m 203 (wr x5)) 100)).toNat) + 1) (wr (jrem (m 203 (wr x5)) 100))))) ∧ (¬ (jand (m ((18 + 6 * (wr (jdiv (m 203 (wr x5)) 100)).toNat) + 2) (wr (jrem (m 203 (wr x5)) 100))) (jor (jshl 1 x4) 64)) = 0) then 1 else 0))] [] m)) else Z e (d + 1) 27 22 [.ref 202, .int (iI x1), .int (iI x2), .int (iI x3), .int (iI x4), .int (iI (x5 + (-1))), .ref (18 + 6 * (wr (jdiv (m 203 (wr x5)) 100)).toNat), .int (iI (jrem (m 203 (wr x5)) 100)), .int (iI (if (5 ≤ (wr (m ((18 + 6 * (wr (jdiv (m 203 (wr x5)) 100)).toNat) + 1) (wr (jrem (m 203 (wr x5)) 100))))) ∧ (¬ (jand (m ((18 + 6 * (wr (jdiv (m 203 (wr x5)) 100)).toNat) + 2) (wr (jrem (m 203 (wr x5)) 100))) (jor (jshl 1 x4) 64)) = 0) then 1 else 0))] [] m)))))) else ri (-3) m) := (s_il_5 p_27_22).trans <| Eq.trans ((s_z_lt_f p_27_24 rfl rfl)) <| ite_cg ((s_al_0 p_27_27).trans <| (s_getr p_27_28 hs_202 (by decide) rfl).trans <| (s_getr p_27_31 hs_1 (by decide) rfl).trans <| (s_al_0 p_27_34).trans <| (s_getr p_27_35 hs_202 (by decide) rfl).trans <| (s_il_5 p_27_38).trans <| (s_ald 30 p_27_40 hs_203 rfl (by decide)).trans <| ck_cg fun k1 => (s_bip p_27_41 rfl).trans <| (s_idivc p_27_43 (by decide)).trans <| (s_aald 12 p_27_44 hs_3 rfl ⟨by decide, by decide⟩ ar_3).trans <| ck_cg fun k2 => (s_as_6 cat_i p_27_45).trans <| (s_al_0 p_27_47).trans <| (s_getr p_27_48 hs_202 (by decide) rfl).trans <| (s_il_5 p_27_51).trans <| (s_ald 30 p_27_53 hs_203 rfl (by decide)).trans <| ck_cg fun k3 => (s_bip p_27_54 rfl).trans <| (s_iremc p_27_56 (by decide)).trans <| (s_is_7 cat_r p_27_57).trans <| (s_al_6 p_27_59).trans <| (s_getr p_27_61 (zVer_0 k2).1 (by decide) rfl).trans <| (s_il_7 p_27_64).trans <| (s_ald 10 p_27_66 (zVer_0 k2).2.1 rfl (zV_1 (zVer_0 k2))).trans <| ck_cg fun k4 => (s_const p_27_67).trans <| Eq.trans (Eq.trans (Eq.trans (s_c_lt_f p_27_68 rfl rfl wl_5) <| Eq.trans (ite_cg ((s_al_6 p_27_71).trans <| (s_il_7 p_27_73).trans <| (s_il_4 p_27_75).trans <| (s_cv2 (Lc := [.ref (18 + 6 * (wr (jdiv (m 203 (wr x5)) 100)).toNat), .int (iI (jrem (m 203 (wr x5)) 100)), .int (iI x4)]) p_27_77 (by decide) (by decide) (zM_of zq_116) ⟨Nat.le_of_ble_eq_true rfl, Nat.le_of_ble_eq_true rfl⟩ rfl (m_rc (zVer_0 k2).1 ⟨rfl, by decide⟩)).trans <| (bd (b_116_0 (zVer_0 k2))).trans <| ck_bind.trans <| ck_cg fun k5 => ri_k.trans <| (s_beq_f p_27_80 rfl)) rfl) <| Eq.trans ck_a <| ck_cg fun _ => co_and) <| ck_cg fun _ => Eq.trans (ite_cg ((s_const p_27_83).trans <| (s_goto p_27_84 rfl).trans <| rfl) ((s_const p_27_87).trans <| rfl)) (phi1 (fun z0 => Z e (d + 1) 27 88 [.ref 202, .int (iI x1), .int (iI x2), .int (iI x3), .int (iI x4), .int (iI x5), .ref (18 + 6 * (wr (jdiv (m 203 (wr x5)) 100)).toNat), .int (iI (jrem (m 203 (wr x5)) 100)), u8] [.int (iI z0)] m))) <| ck_cg fun _ => (s_is_8 cat_i p_27_88).trans <| (s_il_8 p_27_90).trans <| Eq.trans ((s_beq_f p_27_92 rfl)) <| ite_cg ((s_al_0 p_27_95).trans <| (s_al_0 p_27_96).trans <| (s_getr p_27_97 hs_202 (by decide) rfl).trans <| (s_il_5 p_27_100).trans <| (s_ald 30 p_27_102 hs_203 rfl (by decide)).trans <| ck_cg fun k6 => (s_il_1 p_27_103).trans <| (s_il_2 p_27_104).trans <| (s_il_3 p_27_105).trans <| (s_cv4 (Lc := [.ref 202, .int (iI (m 203 (wr x5))), .int (iI x1), .int (iI x2), .int (iI x3), .retAddr 0]) p_27_106 (by decide) (by decide) (zM_of zq_26) ⟨Nat.le_of_ble_eq_true rfl, Nat.le_of_ble_eq_true rfl⟩ rfl (m_rc hs_202 ⟨rfl, by decide⟩))) ((s_inc_5 cat_i p_27_120).trans <| (s_goto p_27_123 rfl).trans <| rfl)) ((s_bip p_27_126 rfl).trans <| (s_reti p_27_128 (zM_of zq_27)))
theorem b_27_12 {x1 : Int} {x2 : Int} {x3 : Int} {xs0 : Int} {u4 u5 u6 u7 u8 : Value} : Z e (d + 1) 27 12 [.ref 202, .int (iI x1), .int (iI x2), .int (iI x3), u4, u5, u6, u7, u8] [.int (iI xs0)] m = Z e (d + 1) 27 22 [.ref 202, .int (iI x1), .int (iI x2), .int (iI x3), .int (iI xs0), .int (iI ((m 202 5) - 1)), u6, u7, u8] [] m := (s_is_4 cat_i p_27_12).trans <| (s_al_0 p_27_14).trans <| (s_get p_27_15 hs_202 (by decide) rfl).trans <| (s_const p_27_18).trans <| (s_isub p_27_19).trans <| (s_is_5 cat_i p_27_20).trans <| rfl
theorem b_27_109 {x1 : Int} {x2 : Int} {x3 : Int} {x4 : Int} {x5 : Int} {xs0 : Int} {u6 u7 u8 : Value} : Z e (d + 1) 27 109 [.ref 202, .int (iI x1), .int (iI x2), .int (iI x3), .int (iI x4), .int (iI x5), u6, u7, u8] [.int (iI xs0)] m = (if ¬ (wr xs0) = 0 then ck (0 ≤ (wr x5) ∧ (wr x5) < 30) (ri (m 203 (wr x5)) m) else Z e (d + 1) 27 22 [.ref 202, .int (iI x1), .int (iI x2), .int (iI x3), .int (iI x4), .int (iI (x5 + (-1))), u6, u7, u8] [] m) := Eq.trans ((s_z_eq_f p_27_109 rfl rfl)) <| ite_cg ((s_al_0 p_27_112).trans <| (s_getr p_27_113 hs_202 (by decide) rfl).trans <| (s_il_5 p_27_116).trans <| (s_ald 30 p_27_118 hs_203 rfl (by decide)).trans <| ck_cg fun k1 => (s_reti p_27_119 (zM_of zq_27))) ((s_inc_5 cat_i p_27_120).trans <| (s_goto p_27_123 rfl).trans <| rfl)
-- Law.isFail
theorem p_28_0 : zP1 28 0 = some (.iload_n 1, 0, 0, 0) := zp_l zq_28 rfl
theorem p_28_1 : zP1 28 1 = some (.ifCond .lt 32, 0, 0, 0) := zp_l zq_28 rfl
theorem p_28_4 : zP1 28 4 = some (.aload_n 0, 0, 0, 0) := zp_l zq_28 rfl
theorem p_28_5 : zP1 28 5 = some (.getfield 29, 1, 0, 0) := zp_r zq_28 rfl
theorem p_28_8 : zP1 28 8 = some (.getfield 69, 9, 4, 0) := zp_r zq_28 rfl
theorem p_28_11 : zP1 28 11 = some (.iload_n 1, 0, 0, 0) := zp_l zq_28 rfl
theorem p_28_12 : zP1 28 12 = some (.bipush 100, 0, 0, 0) := zp_l zq_28 rfl
theorem p_28_14 : zP1 28 14 = some (.idiv, 0, 0, 0) := zp_l zq_28 rfl
theorem p_28_15 : zP1 28 15 = some (.aaload, 0, 0, 0) := zp_l zq_28 rfl
theorem p_28_16 : zP1 28 16 = some (.getfield 84, 8, 5, 0) := zp_r zq_28 rfl
theorem p_28_19 : zP1 28 19 = some (.iload_n 1, 0, 0, 0) := zp_l zq_28 rfl
theorem p_28_20 : zP1 28 20 = some (.bipush 100, 0, 0, 0) := zp_l zq_28 rfl
theorem p_28_22 : zP1 28 22 = some (.irem, 0, 0, 0) := zp_l zq_28 rfl
theorem p_28_23 : zP1 28 23 = some (.iaload, 0, 0, 0) := zp_l zq_28 rfl
theorem p_28_24 : zP1 28 24 = some (.bipush 6, 0, 0, 0) := zp_l zq_28 rfl
theorem p_28_26 : zP1 28 26 = some (.if_icmp .ne 7, 0, 0, 0) := zp_l zq_28 rfl
theorem p_28_29 : zP1 28 29 = some (.iconst 1, 0, 0, 0) := zp_l zq_28 rfl
theorem p_28_30 : zP1 28 30 = some (.goto 4, 0, 0, 0) := zp_l zq_28 rfl
theorem p_28_33 : zP1 28 33 = some (.iconst 0, 0, 0, 0) := zp_l zq_28 rfl
theorem p_28_34 : zP1 28 34 = some (.ireturn, 0, 0, 0) := zp_l zq_28 rfl
theorem b_28_0 {x1 : Int} : Z e d 28 0 [.ref 202, .int (iI x1)] [] m = ck ((0 ≤ (wr x1)) → ((0 ≤ (wr (jdiv x1 100)) ∧ (wr (jdiv x1 100)) < 12) ∧ (0 ≤ (wr (jrem x1 100)) ∧ (wr (jrem x1 100)) < 10))) (ri (if (0 ≤ (wr x1)) ∧ ((wr (m ((18 + 6 * (wr (jdiv x1 100)).toNat) + 1) (wr (jrem x1 100)))) = 6) then 1 else 0) m) := (s_il_1 p_28_0).trans <| Eq.trans (Eq.trans (Eq.trans (s_z_lt_f p_28_1 rfl rfl) <| Eq.trans (ite_cg ((s_al_0 p_28_4).trans <| (s_getr p_28_5 hs_202 (by decide) rfl).trans <| (s_getr p_28_8 hs_1 (by decide) rfl).trans <| (s_il_1 p_28_11).trans <| (s_bip p_28_12 rfl).trans <| (s_idivc p_28_14 (by decide)).trans <| (s_aald 12 p_28_15 hs_3 rfl ⟨by decide, by decide⟩ ar_3).trans <| Eq.trans (ck_cg fun k1 => (s_getr p_28_16 (zVer_0 k1).1 (by decide) rfl).trans <| (s_il_1 p_28_19).trans <| (s_bip p_28_20 rfl).trans <| (s_iremc p_28_22 (by decide)).trans <| (s_ald 10 p_28_23 (zVer_0 k1).2.1 rfl (zV_1 (zVer_0 k1))).trans <| ck_cg fun k2 => (s_bip p_28_24 rfl).trans <| (s_c_ne_f p_28_26 rfl rfl wl_6)) ck_ck) rfl) <| Eq.trans ck_a <| ck_cg fun _ => co_and) <| ck_cg fun _ => Eq.trans (ite_cg ((s_const p_28_29).trans <| (s_goto p_28_30 rfl).trans <| rfl) ((s_const p_28_33).trans <| rfl)) (phi1 (fun z0 => Z e d 28 34 [.ref 202, .int (iI x1)] [.int (iI z0)] m))) <| ck_cg fun _ => (s_retb p_28_34 (zM_of zq_28))
-- Law.firstFailing
theorem p_29_0 : zP1 29 0 = some (.iconst 0, 0, 0, 0) := zp_l zq_29 rfl
theorem p_29_1 : zP1 29 1 = some (.istore 5, 0, 0, 0) := zp_l zq_29 rfl
theorem p_29_3 : zP1 29 3 = some (.iload 5, 0, 0, 0) := zp_l zq_29 rfl
theorem p_29_5 : zP1 29 5 = some (.aload_n 0, 0, 0, 0) := zp_l zq_29 rfl
theorem p_29_6 : zP1 29 6 = some (.getfield 29, 1, 0, 0) := zp_r zq_29 rfl
theorem p_29_9 : zP1 29 9 = some (.getfield 120, 9, 7, 0) := zp_r zq_29 rfl
theorem p_29_12 : zP1 29 12 = some (.getfield 94, 7, 3, 0) := zp_r zq_29 rfl
theorem p_29_15 : zP1 29 15 = some (.if_icmp .ge 103, 0, 0, 0) := zp_l zq_29 rfl
theorem p_29_18 : zP1 29 18 = some (.aload_n 0, 0, 0, 0) := zp_l zq_29 rfl
theorem p_29_19 : zP1 29 19 = some (.getfield 29, 1, 0, 0) := zp_r zq_29 rfl
theorem p_29_22 : zP1 29 22 = some (.getfield 120, 9, 7, 0) := zp_r zq_29 rfl
theorem p_29_25 : zP1 29 25 = some (.iload 5, 0, 0, 0) := zp_l zq_29 rfl
theorem p_29_27 : zP1 29 27 = some (.iconst 0, 0, 0, 0) := zp_l zq_29 rfl
theorem p_29_28 : zP1 29 28 = some (.invokevirtual 97, 104, 2, 7) := zp_r zq_29 rfl
theorem p_29_31 : zP1 29 31 = some (.iload_n 1, 0, 0, 0) := zp_l zq_29 rfl
theorem p_29_32 : zP1 29 32 = some (.if_icmp .ne 25, 0, 0, 0) := zp_l zq_29 rfl
theorem p_29_35 : zP1 29 35 = some (.aload_n 0, 0, 0, 0) := zp_l zq_29 rfl
theorem p_29_36 : zP1 29 36 = some (.getfield 29, 1, 0, 0) := zp_r zq_29 rfl
theorem p_29_39 : zP1 29 39 = some (.getfield 120, 9, 7, 0) := zp_r zq_29 rfl
theorem p_29_42 : zP1 29 42 = some (.iload 5, 0, 0, 0) := zp_l zq_29 rfl
theorem p_29_44 : zP1 29 44 = some (.iconst 5, 0, 0, 0) := zp_l zq_29 rfl
theorem p_29_45 : zP1 29 45 = some (.invokevirtual 97, 104, 2, 7) := zp_r zq_29 rfl
theorem p_29_48 : zP1 29 48 = some (.iload 4, 0, 0, 0) := zp_l zq_29 rfl
theorem p_29_50 : zP1 29 50 = some (.if_icmp .gt 7, 0, 0, 0) := zp_l zq_29 rfl
theorem p_29_53 : zP1 29 53 = some (.iconst 1, 0, 0, 0) := zp_l zq_29 rfl
theorem p_29_54 : zP1 29 54 = some (.goto 4, 0, 0, 0) := zp_l zq_29 rfl
theorem p_29_57 : zP1 29 57 = some (.iconst 0, 0, 0, 0) := zp_l zq_29 rfl
theorem p_29_58 : zP1 29 58 = some (.istore 6, 0, 0, 0) := zp_l zq_29 rfl
theorem p_29_60 : zP1 29 60 = some (.iload 6, 0, 0, 0) := zp_l zq_29 rfl
theorem p_29_62 : zP1 29 62 = some (.ifCond .eq 24, 0, 0, 0) := zp_l zq_29 rfl
theorem p_29_65 : zP1 29 65 = some (.aload_n 0, 0, 0, 0) := zp_l zq_29 rfl
theorem p_29_66 : zP1 29 66 = some (.getfield 29, 1, 0, 0) := zp_r zq_29 rfl
theorem p_29_69 : zP1 29 69 = some (.getfield 120, 9, 7, 0) := zp_r zq_29 rfl
theorem p_29_72 : zP1 29 72 = some (.iload 5, 0, 0, 0) := zp_l zq_29 rfl
theorem p_29_74 : zP1 29 74 = some (.iconst 3, 0, 0, 0) := zp_l zq_29 rfl
theorem p_29_75 : zP1 29 75 = some (.invokevirtual 97, 104, 2, 7) := zp_r zq_29 rfl
theorem p_29_78 : zP1 29 78 = some (.iload_n 3, 0, 0, 0) := zp_l zq_29 rfl
theorem p_29_79 : zP1 29 79 = some (.if_icmp .gt 7, 0, 0, 0) := zp_l zq_29 rfl
theorem p_29_82 : zP1 29 82 = some (.iconst 1, 0, 0, 0) := zp_l zq_29 rfl
theorem p_29_83 : zP1 29 83 = some (.goto 4, 0, 0, 0) := zp_l zq_29 rfl
theorem p_29_86 : zP1 29 86 = some (.iconst 0, 0, 0, 0) := zp_l zq_29 rfl
theorem p_29_87 : zP1 29 87 = some (.istore 7, 0, 0, 0) := zp_l zq_29 rfl
theorem p_29_89 : zP1 29 89 = some (.iload 7, 0, 0, 0) := zp_l zq_29 rfl
theorem p_29_91 : zP1 29 91 = some (.ifCond .eq 21, 0, 0, 0) := zp_l zq_29 rfl
theorem p_29_94 : zP1 29 94 = some (.aload_n 0, 0, 0, 0) := zp_l zq_29 rfl
theorem p_29_95 : zP1 29 95 = some (.aload_n 0, 0, 0, 0) := zp_l zq_29 rfl
theorem p_29_96 : zP1 29 96 = some (.iload 5, 0, 0, 0) := zp_l zq_29 rfl
theorem p_29_98 : zP1 29 98 = some (.iload_n 2, 0, 0, 0) := zp_l zq_29 rfl
theorem p_29_99 : zP1 29 99 = some (.iload_n 3, 0, 0, 0) := zp_l zq_29 rfl
theorem p_29_100 : zP1 29 100 = some (.invokevirtual 141, 27, 3, 1) := zp_r zq_29 rfl
theorem p_29_103 : zP1 29 103 = some (.invokevirtual 145, 28, 1, 1) := zp_r zq_29 rfl
theorem p_29_106 : zP1 29 106 = some (.ifCond .eq 6, 0, 0, 0) := zp_l zq_29 rfl
theorem p_29_109 : zP1 29 109 = some (.iload 5, 0, 0, 0) := zp_l zq_29 rfl
theorem p_29_111 : zP1 29 111 = some (.ireturn, 0, 0, 0) := zp_l zq_29 rfl
theorem p_29_112 : zP1 29 112 = some (.iinc 5 1, 0, 0, 0) := zp_l zq_29 rfl
theorem p_29_115 : zP1 29 115 = some (.goto (-112), 0, 0, 0) := zp_l zq_29 rfl
theorem p_29_118 : zP1 29 118 = some (.bipush (-3), 0, 0, 0) := zp_l zq_29 rfl
theorem p_29_120 : zP1 29 120 = some (.ireturn, 0, 0, 0) := zp_l zq_29 rfl
theorem b_29_0 {x1 : Int} {x2 : Int} {x3 : Int} {x4 : Int} : Z e (d + 1) 29 0 [.ref 202, .int (iI x1), .int (iI x2), .int (iI x3), .int (iI x4), .retAddr 0, .retAddr 0, .retAddr 0] [] m = Z e (d + 1) 29 3 [.ref 202, .int (iI x1), .int (iI x2), .int (iI x3), .int (iI x4), .int (iI 0), .retAddr 0, .retAddr 0] [] m := (s_const p_29_0).trans <| (s_is_5 cat_i p_29_1).trans <| rfl
theorem b_29_3 {x1 : Int} {x2 : Int} {x3 : Int} {x4 : Int} {x5 : Int} {u6 u7 : Value} : Z e (d + 1) 29 3 [.ref 202, .int (iI x1), .int (iI x2), .int (iI x3), .int (iI x4), .int (iI x5), u6, u7] [] m = (if (wr x5) < (wr (m 8 3)) then (Z e d 104 0 [.ref 8, .int (iI x5), .int (iI 0)] [] m).bind (ZK e (d + 1) 29 31 [.ref 202, .int (iI x1), .int (iI x2), .int (iI x3), .int (iI x4), .int (iI x5), u6, u7] [] m) else ri (-3) m) := (s_il_5 p_29_3).trans <| (s_al_0 p_29_5).trans <| (s_getr p_29_6 hs_202 (by decide) rfl).trans <| (s_getr p_29_9 hs_1 (by decide) rfl).trans <| (s_get p_29_12 hs_8 (by decide) rfl).trans <| Eq.trans ((s_c_ge_f p_29_15 rfl rfl rfl)) <| ite_cg ((s_al_0 p_29_18).trans <| (s_getr p_29_19 hs_202 (by decide) rfl).trans <| (s_getr p_29_22 hs_1 (by decide) rfl).trans <| (s_il_5 p_29_25).trans <| (s_const p_29_27).trans <| (s_cv2 (Lc := [.ref 8, .int (iI x5), .int (iI 0)]) p_29_28 (by decide) (by decide) (zM_of zq_104) ⟨Nat.le_of_ble_eq_true rfl, Nat.le_of_ble_eq_true rfl⟩ rfl (m_rc hs_8 ⟨rfl, by decide⟩))) ((s_bip p_29_118 rfl).trans <| (s_reti p_29_120 (zM_of zq_29)))
theorem b_29_31 {x1 : Int} {x2 : Int} {x3 : Int} {x4 : Int} {x5 : Int} {xs0 : Int} {u6 u7 : Value} : Z e (d + 1) 29 31 [.ref 202, .int (iI x1), .int (iI x2), .int (iI x3), .int (iI x4), .int (iI x5), u6, u7] [.int (iI xs0)] m = (if (wr xs0) = (wr x1) then (Z e d 104 0 [.ref 8, .int (iI x5), .int (iI 5)] [] m).bind (ZK e (d + 1) 29 48 [.ref 202, .int (iI x1), .int (iI x2), .int (iI x3), .int (iI x4), .int (iI x5), u6, u7] [] m) else Z e (d + 1) 29 58 [.ref 202, .int (iI x1), .int (iI x2), .int (iI x3), .int (iI x4), .int (iI x5), u6, u7] [.int (iI 0)] m) := (s_il_1 p_29_31).trans <| Eq.trans ((s_c_ne_f p_29_32 rfl rfl rfl)) <| ite_cg ((s_al_0 p_29_35).trans <| (s_getr p_29_36 hs_202 (by decide) rfl).trans <| (s_getr p_29_39 hs_1 (by decide) rfl).trans <| (s_il_5 p_29_42).trans <| (s_const p_29_44).trans <| (s_cv2 (Lc := [.ref 8, .int (iI x5), .int (iI 5)]) p_29_45 (by decide) (by decide) (zM_of zq_104) ⟨Nat.le_of_ble_eq_true rfl, Nat.le_of_ble_eq_true rfl⟩ rfl (m_rc hs_8 ⟨rfl, by decide⟩))) ((s_const p_29_57).trans <| rfl)
theorem b_29_48 {x1 : Int} {x2 : Int} {x3 : Int} {x4 : Int} {x5 : Int} {xs0 : Int} {u6 u7 : Value} : Z e (d + 1) 29 48 [.ref 202, .int (iI x1), .int (iI x2), .int (iI x3), .int (iI x4), .int (iI x5), u6, u7] [.int (iI xs0)] m = Z e (d + 1) 29 58 [.ref 202, .int (iI x1), .int (iI x2), .int (iI x3), .int (iI x4), .int (iI x5), u6, u7] [.int (iI (if (wr xs0) ≤ (wr x4) then 1 else 0))] m := (s_il_4 p_29_48).trans <| Eq.trans (Eq.trans ((s_c_gt_f p_29_50 rfl rfl rfl)) <| Eq.trans (ite_cg ((s_const p_29_53).trans <| (s_goto p_29_54 rfl).trans <| rfl) ((s_const p_29_57).trans <| rfl)) (phi1 (fun z0 => Z e (d + 1) 29 58 [.ref 202, .int (iI x1), .int (iI x2), .int (iI x3), .int (iI x4), .int (iI x5), u6, u7] [.int (iI z0)] m))) <| rfl
theorem b_29_58 {x1 : Int} {x2 : Int} {x3 : Int} {x4 : Int} {x5 : Int} {xs0 : Int} {u6 u7 : Value} : Z e (d + 1) 29 58 [.ref 202, .int (iI x1), .int (iI x2), .int (iI x3), .int (iI x4), .int (iI x5), u6, u7] [.int (iI xs0)] m = (if ¬ (wr xs0) = 0 then (Z e d 104 0 [.ref 8, .int (iI x5), .int (iI 3)] [] m).bind (ZK e (d + 1) 29 78 [.ref 202, .int (iI x1), .int (iI x2), .int (iI x3), .int (iI x4), .int (iI x5), .int (iI xs0), u7] [] m) else Z e (d + 1) 29 87 [.ref 202, .int (iI x1), .int (iI x2), .int (iI x3), .int (iI x4), .int (iI x5), .int (iI xs0), u7] [.int (iI 0)] m) := (s_is_6 cat_i p_29_58).trans <| (s_il_6 p_29_60).trans <| Eq.trans ((s_z_eq_f p_29_62 rfl rfl)) <| ite_cg ((s_al_0 p_29_65).trans <| (s_getr p_29_66 hs_202 (by decide) rfl).trans <| (s_getr p_29_69 hs_1 (by decide) rfl).trans <| (s_il_5 p_29_72).trans <| (s_const p_29_74).trans <| (s_cv2 (Lc := [.ref 8, .int (iI x5), .int (iI 3)]) p_29_75 (by decide) (by decide) (zM_of zq_104) ⟨Nat.le_of_ble_eq_true rfl, Nat.le_of_ble_eq_true rfl⟩ rfl (m_rc hs_8 ⟨rfl, by decide⟩))) ((s_const p_29_86).trans <| rfl)
theorem b_29_87 {x1 : Int} {x2 : Int} {x3 : Int} {x4 : Int} {x5 : Int} {xs0 : Int} {u6 u7 : Value} (hu6 : u6.category = 1) : Z e (d + 1) 29 87 [.ref 202, .int (iI x1), .int (iI x2), .int (iI x3), .int (iI x4), .int (iI x5), u6, u7] [.int (iI xs0)] m = (if ¬ (wr xs0) = 0 then (Z e d 27 0 [.ref 202, .int (iI x5), .int (iI x2), .int (iI x3), .retAddr 0, .retAddr 0, .retAddr 0, .retAddr 0, .retAddr 0] [] m).bind (ZK e (d + 1) 29 103 [.ref 202, .int (iI x1), .int (iI x2), .int (iI x3), .int (iI x4), .int (iI x5), u6, .int (iI xs0)] [.ref 202] m) else Z e (d + 1) 29 3 [.ref 202, .int (iI x1), .int (iI x2), .int (iI x3), .int (iI x4), .int (iI (x5 + 1)), u6, .int (iI xs0)] [] m) := (s_is_7 hu6 p_29_87).trans <| (s_il_7 p_29_89).trans <| Eq.trans ((s_z_eq_f p_29_91 rfl rfl)) <| ite_cg ((s_al_0 p_29_94).trans <| (s_al_0 p_29_95).trans <| (s_il_5 p_29_96).trans <| (s_il_2 p_29_98).trans <| (s_il_3 p_29_99).trans <| (s_cv3 (Lc := [.ref 202, .int (iI x5), .int (iI x2), .int (iI x3), .retAddr 0, .retAddr 0, .retAddr 0, .retAddr 0, .retAddr 0]) p_29_100 (by decide) (by decide) (zM_of zq_27) ⟨Nat.le_of_ble_eq_true rfl, Nat.le_of_ble_eq_true rfl⟩ rfl (m_rc hs_202 ⟨rfl, by decide⟩))) ((s_inc_5 cat_i p_29_112).trans <| (s_goto p_29_115 rfl).trans <| rfl)
theorem b_29_78 {x1 : Int} {x2 : Int} {x3 : Int} {x4 : Int} {x5 : Int} {xs0 : Int} {u6 u7 : Value} : Z e (d + 1) 29 78 [.ref 202, .int (iI x1), .int (iI x2), .int (iI x3), .int (iI x4), .int (iI x5), u6, u7] [.int (iI xs0)] m = Z e (d + 1) 29 87 [.ref 202, .int (iI x1), .int (iI x2), .int (iI x3), .int (iI x4), .int (iI x5), u6, u7] [.int (iI (if (wr xs0) ≤ (wr x3) then 1 else 0))] m := (s_il_3 p_29_78).trans <| Eq.trans (Eq.trans ((s_c_gt_f p_29_79 rfl rfl rfl)) <| Eq.trans (ite_cg ((s_const p_29_82).trans <| (s_goto p_29_83 rfl).trans <| rfl) ((s_const p_29_86).trans <| rfl)) (phi1 (fun z0 => Z e (d + 1) 29 87 [.ref 202, .int (iI x1), .int (iI x2), .int (iI x3), .int (iI x4), .int (iI x5), u6, u7] [.int (iI z0)] m))) <| rfl
theorem b_29_103 {x1 : Int} {x2 : Int} {x3 : Int} {x4 : Int} {x5 : Int} {xs0 : Int} {u6 u7 : Value} : Z e (d + 1) 29 103 [.ref 202, .int (iI x1), .int (iI x2), .int (iI x3), .int (iI x4), .int (iI x5), u6, u7] [.int (iI xs0), .ref 202] m = ck ((0 ≤ (wr xs0)) → ((0 ≤ (wr (jdiv xs0 100)) ∧ (wr (jdiv xs0 100)) < 12) ∧ (0 ≤ (wr (jrem xs0 100)) ∧ (wr (jrem xs0 100)) < 10))) ((if (0 ≤ (wr xs0)) ∧ ((wr (m ((18 + 6 * (wr (jdiv xs0 100)).toNat) + 1) (wr (jrem xs0 100)))) = 6) then ri x5 m else Z e (d + 1) 29 3 [.ref 202, .int (iI x1), .int (iI x2), .int (iI x3), .int (iI x4), .int (iI (x5 + 1)), u6, u7] [] m)) := (s_cv1 (Lc := [.ref 202, .int (iI xs0)]) p_29_103 (by decide) (by decide) (zM_of zq_28) ⟨Nat.le_of_ble_eq_true rfl, Nat.le_of_ble_eq_true rfl⟩ rfl (m_rc hs_202 ⟨rfl, by decide⟩)).trans <| (bd b_28_0).trans <| ck_bind.trans <| ck_cg fun _ => ri_k.trans <| Eq.trans ((s_beq_f p_29_106 rfl)) <| ite_cg ((s_il_5 p_29_109).trans <| (s_reti p_29_111 (zM_of zq_29))) ((s_inc_5 cat_i p_29_112).trans <| (s_goto p_29_115 rfl).trans <| rfl)
-- Law.reason
theorem p_30_0 : zP1 30 0 = some (.aload_n 0, 0, 0, 0) := zp_l zq_30 rfl
theorem p_30_1 : zP1 30 1 = some (.iload_n 3, 0, 0, 0) := zp_l zq_30 rfl
theorem p_30_2 : zP1 30 2 = some (.invokevirtual 148, 19, 1, 1) := zp_r zq_30 rfl
theorem p_30_5 : zP1 30 5 = some (.aload_n 0, 0, 0, 0) := zp_l zq_30 rfl
theorem p_30_6 : zP1 30 6 = some (.iload_n 2, 0, 0, 0) := zp_l zq_30 rfl
theorem p_30_7 : zP1 30 7 = some (.invokevirtual 151, 23, 1, 1) := zp_r zq_30 rfl
theorem p_30_10 : zP1 30 10 = some (.istore 5, 0, 0, 0) := zp_l zq_30 rfl
theorem p_30_12 : zP1 30 12 = some (.aload_n 0, 0, 0, 0) := zp_l zq_30 rfl
theorem p_30_13 : zP1 30 13 = some (.iload_n 1, 0, 0, 0) := zp_l zq_30 rfl
theorem p_30_14 : zP1 30 14 = some (.iload 5, 0, 0, 0) := zp_l zq_30 rfl
theorem p_30_16 : zP1 30 16 = some (.iload_n 3, 0, 0, 0) := zp_l zq_30 rfl
theorem p_30_17 : zP1 30 17 = some (.iload 4, 0, 0, 0) := zp_l zq_30 rfl
theorem p_30_19 : zP1 30 19 = some (.invokevirtual 154, 29, 4, 1) := zp_r zq_30 rfl
theorem p_30_22 : zP1 30 22 = some (.istore 6, 0, 0, 0) := zp_l zq_30 rfl
theorem p_30_24 : zP1 30 24 = some (.iload 6, 0, 0, 0) := zp_l zq_30 rfl
theorem p_30_26 : zP1 30 26 = some (.bipush (-3), 0, 0, 0) := zp_l zq_30 rfl
theorem p_30_28 : zP1 30 28 = some (.if_icmp .eq 6, 0, 0, 0) := zp_l zq_30 rfl
theorem p_30_31 : zP1 30 31 = some (.iload 6, 0, 0, 0) := zp_l zq_30 rfl
theorem p_30_33 : zP1 30 33 = some (.ireturn, 0, 0, 0) := zp_l zq_30 rfl
theorem p_30_34 : zP1 30 34 = some (.iload 5, 0, 0, 0) := zp_l zq_30 rfl
theorem p_30_36 : zP1 30 36 = some (.ifCond .le 8, 0, 0, 0) := zp_l zq_30 rfl
theorem p_30_39 : zP1 30 39 = some (.bipush (-3), 0, 0, 0) := zp_l zq_30 rfl
theorem p_30_41 : zP1 30 41 = some (.goto 5, 0, 0, 0) := zp_l zq_30 rfl
theorem p_30_44 : zP1 30 44 = some (.bipush (-9), 0, 0, 0) := zp_l zq_30 rfl
theorem p_30_46 : zP1 30 46 = some (.ireturn, 0, 0, 0) := zp_l zq_30 rfl
theorem b_30_0 {x1 : Int} {x2 : Int} {x3 : Int} {x4 : Int} : Z e (d + 1) 30 0 [.ref 202, .int (iI x1), .int (iI x2), .int (iI x3), .int (iI x4), .retAddr 0, .retAddr 0] [] m = (Z e d 19 0 [.ref 202, .int (iI x3)] [] m).bind (ZK e (d + 1) 30 5 [.ref 202, .int (iI x1), .int (iI x2), .int (iI x3), .int (iI x4), .retAddr 0, .retAddr 0] [] m) := (s_al_0 p_30_0).trans <| (s_il_3 p_30_1).trans <| (s_cv1 (Lc := [.ref 202, .int (iI x3)]) p_30_2 (by decide) (by decide) (zM_of zq_19) ⟨Nat.le_of_ble_eq_true rfl, Nat.le_of_ble_eq_true rfl⟩ rfl (m_rc hs_202 ⟨rfl, by decide⟩))
theorem b_30_5 {x1 : Int} {x2 : Int} {x3 : Int} {x4 : Int} {u5 u6 : Value} : Z e (d + 1) 30 5 [.ref 202, .int (iI x1), .int (iI x2), .int (iI x3), .int (iI x4), u5, u6] [] m = (Z e d 23 0 [.ref 202, .int (iI x2), .retAddr 0, .retAddr 0, .retAddr 0] [] m).bind (ZK e (d + 1) 30 10 [.ref 202, .int (iI x1), .int (iI x2), .int (iI x3), .int (iI x4), u5, u6] [] m) := (s_al_0 p_30_5).trans <| (s_il_2 p_30_6).trans <| (s_cv1 (Lc := [.ref 202, .int (iI x2), .retAddr 0, .retAddr 0, .retAddr 0]) p_30_7 (by decide) (by decide) (zM_of zq_23) ⟨Nat.le_of_ble_eq_true rfl, Nat.le_of_ble_eq_true rfl⟩ rfl (m_rc hs_202 ⟨rfl, by decide⟩))
theorem b_30_10 {x1 : Int} {x3 : Int} {x4 : Int} {xs0 : Int} {u2 u5 u6 : Value} : Z e (d + 1) 30 10 [.ref 202, .int (iI x1), u2, .int (iI x3), .int (iI x4), u5, u6] [.int (iI xs0)] m = (Z e d 29 0 [.ref 202, .int (iI x1), .int (iI xs0), .int (iI x3), .int (iI x4), .retAddr 0, .retAddr 0, .retAddr 0] [] m).bind (ZK e (d + 1) 30 22 [.ref 202, .int (iI x1), u2, .int (iI x3), .int (iI x4), .int (iI xs0), u6] [] m) := (s_is_5 cat_i p_30_10).trans <| (s_al_0 p_30_12).trans <| (s_il_1 p_30_13).trans <| (s_il_5 p_30_14).trans <| (s_il_3 p_30_16).trans <| (s_il_4 p_30_17).trans <| (s_cv4 (Lc := [.ref 202, .int (iI x1), .int (iI xs0), .int (iI x3), .int (iI x4), .retAddr 0, .retAddr 0, .retAddr 0]) p_30_19 (by decide) (by decide) (zM_of zq_29) ⟨Nat.le_of_ble_eq_true rfl, Nat.le_of_ble_eq_true rfl⟩ rfl (m_rc hs_202 ⟨rfl, by decide⟩))
theorem b_30_22 {x5 : Int} {xs0 : Int} {u0 u1 u2 u3 u4 u6 : Value} : Z e (d + 1) 30 22 [u0, u1, u2, u3, u4, .int (iI x5), u6] [.int (iI xs0)] m = (if ¬ (wr xs0) = (-3) then ri xs0 m else ri (if 0 < (wr x5) then (-3) else (-9)) m) := (s_is_6 cat_i p_30_22).trans <| (s_il_6 p_30_24).trans <| (s_bip p_30_26 rfl).trans <| Eq.trans ((s_c_eq_f p_30_28 rfl rfl wl_m3)) <| ite_cg ((s_il_6 p_30_31).trans <| (s_reti p_30_33 (zM_of zq_30))) ((s_il_5 p_30_34).trans <| Eq.trans (Eq.trans ((s_z_le_f p_30_36 rfl rfl)) <| Eq.trans (ite_cg ((s_bip p_30_39 rfl).trans <| (s_goto p_30_41 rfl).trans <| rfl) ((s_bip p_30_44 rfl).trans <| rfl)) (phi1 (fun z0 => Z e (d + 1) 30 46 [u0, u1, u2, u3, u4, .int (iI x5), .int (iI xs0)] [.int (iI z0)] m))) <| (s_reti p_30_46 (zM_of zq_30)))
-- Law.isSafeNow
theorem p_31_0 : zP1 31 0 = some (.aload_n 0, 0, 0, 0) := zp_l zq_31 rfl
theorem p_31_1 : zP1 31 1 = some (.iload_n 1, 0, 0, 0) := zp_l zq_31 rfl
theorem p_31_2 : zP1 31 2 = some (.aload_n 0, 0, 0, 0) := zp_l zq_31 rfl
theorem p_31_3 : zP1 31 3 = some (.getfield 29, 1, 0, 0) := zp_r zq_31 rfl
theorem p_31_6 : zP1 31 6 = some (.getfield 158, 9, 5, 0) := zp_r zq_31 rfl
theorem p_31_9 : zP1 31 9 = some (.iload_n 1, 0, 0, 0) := zp_l zq_31 rfl
theorem p_31_10 : zP1 31 10 = some (.iconst 0, 0, 0, 0) := zp_l zq_31 rfl
theorem p_31_11 : zP1 31 11 = some (.invokevirtual 97, 104, 2, 7) := zp_r zq_31 rfl
theorem p_31_14 : zP1 31 14 = some (.aload_n 0, 0, 0, 0) := zp_l zq_31 rfl
theorem p_31_15 : zP1 31 15 = some (.getfield 29, 1, 0, 0) := zp_r zq_31 rfl
theorem p_31_18 : zP1 31 18 = some (.getfield 161, 9, 0, 0) := zp_r zq_31 rfl
theorem p_31_21 : zP1 31 21 = some (.aload_n 0, 0, 0, 0) := zp_l zq_31 rfl
theorem p_31_22 : zP1 31 22 = some (.getfield 29, 1, 0, 0) := zp_r zq_31 rfl
theorem p_31_25 : zP1 31 25 = some (.getfield 161, 9, 0, 0) := zp_r zq_31 rfl
theorem p_31_28 : zP1 31 28 = some (.invokevirtual 164, 30, 4, 1) := zp_r zq_31 rfl
theorem p_31_31 : zP1 31 31 = some (.bipush (-3), 0, 0, 0) := zp_l zq_31 rfl
theorem p_31_33 : zP1 31 33 = some (.if_icmp .ne 7, 0, 0, 0) := zp_l zq_31 rfl
theorem p_31_36 : zP1 31 36 = some (.iconst 1, 0, 0, 0) := zp_l zq_31 rfl
theorem p_31_37 : zP1 31 37 = some (.goto 4, 0, 0, 0) := zp_l zq_31 rfl
theorem p_31_40 : zP1 31 40 = some (.iconst 0, 0, 0, 0) := zp_l zq_31 rfl
theorem p_31_41 : zP1 31 41 = some (.ireturn, 0, 0, 0) := zp_l zq_31 rfl
theorem b_31_0 {x1 : Int} : Z e (d + 1) 31 0 [.ref 202, .int (iI x1)] [] m = (Z e d 104 0 [.ref 4, .int (iI x1), .int (iI 0)] [] m).bind (ZK e (d + 1) 31 14 [.ref 202, .int (iI x1)] [.int (iI x1), .ref 202] m) := (s_al_0 p_31_0).trans <| (s_il_1 p_31_1).trans <| (s_al_0 p_31_2).trans <| (s_getr p_31_3 hs_202 (by decide) rfl).trans <| (s_getr p_31_6 hs_1 (by decide) rfl).trans <| (s_il_1 p_31_9).trans <| (s_const p_31_10).trans <| (s_cv2 (Lc := [.ref 4, .int (iI x1), .int (iI 0)]) p_31_11 (by decide) (by decide) (zM_of zq_104) ⟨Nat.le_of_ble_eq_true rfl, Nat.le_of_ble_eq_true rfl⟩ rfl (m_rc hs_4 ⟨rfl, by decide⟩))
theorem b_31_14 {xs0 : Int} {xs1 : Int} {u1 : Value} : Z e (d + 1) 31 14 [.ref 202, u1] [.int (iI xs0), .int (iI xs1), .ref 202] m = (Z e d 30 0 [.ref 202, .int (iI xs1), .int (iI xs0), .int (iI (m 1 0)), .int (iI (m 1 0)), .retAddr 0, .retAddr 0] [] m).bind (ZK e (d + 1) 31 31 [.ref 202, u1] [] m) := (s_al_0 p_31_14).trans <| (s_getr p_31_15 hs_202 (by decide) rfl).trans <| (s_get p_31_18 hs_1 (by decide) rfl).trans <| (s_al_0 p_31_21).trans <| (s_getr p_31_22 hs_202 (by decide) rfl).trans <| (s_get p_31_25 hs_1 (by decide) rfl).trans <| (s_cv4 (Lc := [.ref 202, .int (iI xs1), .int (iI xs0), .int (iI (m 1 0)), .int (iI (m 1 0)), .retAddr 0, .retAddr 0]) p_31_28 (by decide) (by decide) (zM_of zq_30) ⟨Nat.le_of_ble_eq_true rfl, Nat.le_of_ble_eq_true rfl⟩ rfl (m_rc hs_202 ⟨rfl, by decide⟩))
theorem b_31_31 {xs0 : Int} {u0 u1 : Value} : Z e (d + 1) 31 31 [u0, u1] [.int (iI xs0)] m = ri (if (wr xs0) = (-3) then 1 else 0) m := (s_bip p_31_31 rfl).trans <| Eq.trans (Eq.trans ((s_c_ne_f p_31_33 rfl rfl wl_m3)) <| Eq.trans (ite_cg ((s_const p_31_36).trans <| (s_goto p_31_37 rfl).trans <| rfl) ((s_const p_31_40).trans <| rfl)) (phi1 (fun z0 => Z e (d + 1) 31 41 [u0, u1] [.int (iI z0)] m))) <| (s_retb p_31_41 (zM_of zq_31))
-- Law.safeAsGathered
theorem p_33_0 : zP1 33 0 = some (.iconst 0, 0, 0, 0) := zp_l zq_33 rfl
theorem p_33_1 : zP1 33 1 = some (.istore_n 1, 0, 0, 0) := zp_l zq_33 rfl
theorem p_33_2 : zP1 33 2 = some (.iconst 0, 0, 0, 0) := zp_l zq_33 rfl
theorem p_33_3 : zP1 33 3 = some (.istore_n 2, 0, 0, 0) := zp_l zq_33 rfl
theorem p_33_4 : zP1 33 4 = some (.iload_n 2, 0, 0, 0) := zp_l zq_33 rfl
theorem p_33_5 : zP1 33 5 = some (.aload_n 0, 0, 0, 0) := zp_l zq_33 rfl
theorem p_33_6 : zP1 33 6 = some (.getfield 29, 1, 0, 0) := zp_r zq_33 rfl
theorem p_33_9 : zP1 33 9 = some (.getfield 158, 9, 5, 0) := zp_r zq_33 rfl
theorem p_33_12 : zP1 33 12 = some (.getfield 94, 7, 3, 0) := zp_r zq_33 rfl
theorem p_33_15 : zP1 33 15 = some (.if_icmp .ge 73, 0, 0, 0) := zp_l zq_33 rfl
theorem p_33_18 : zP1 33 18 = some (.aload_n 0, 0, 0, 0) := zp_l zq_33 rfl
theorem p_33_19 : zP1 33 19 = some (.aload_n 0, 0, 0, 0) := zp_l zq_33 rfl
theorem p_33_20 : zP1 33 20 = some (.getfield 29, 1, 0, 0) := zp_r zq_33 rfl
theorem p_33_23 : zP1 33 23 = some (.getfield 158, 9, 5, 0) := zp_r zq_33 rfl
theorem p_33_26 : zP1 33 26 = some (.iload_n 2, 0, 0, 0) := zp_l zq_33 rfl
theorem p_33_27 : zP1 33 27 = some (.iconst 0, 0, 0, 0) := zp_l zq_33 rfl
theorem p_33_28 : zP1 33 28 = some (.invokevirtual 97, 104, 2, 7) := zp_r zq_33 rfl
theorem p_33_31 : zP1 33 31 = some (.invokevirtual 151, 23, 1, 1) := zp_r zq_33 rfl
theorem p_33_34 : zP1 33 34 = some (.istore_n 3, 0, 0, 0) := zp_l zq_33 rfl
theorem p_33_35 : zP1 33 35 = some (.iload_n 3, 0, 0, 0) := zp_l zq_33 rfl
theorem p_33_36 : zP1 33 36 = some (.ifCond .le 32, 0, 0, 0) := zp_l zq_33 rfl
theorem p_33_39 : zP1 33 39 = some (.aload_n 0, 0, 0, 0) := zp_l zq_33 rfl
theorem p_33_40 : zP1 33 40 = some (.iload_n 2, 0, 0, 0) := zp_l zq_33 rfl
theorem p_33_41 : zP1 33 41 = some (.iload_n 3, 0, 0, 0) := zp_l zq_33 rfl
theorem p_33_42 : zP1 33 42 = some (.aload_n 0, 0, 0, 0) := zp_l zq_33 rfl
theorem p_33_43 : zP1 33 43 = some (.getfield 29, 1, 0, 0) := zp_r zq_33 rfl
theorem p_33_46 : zP1 33 46 = some (.getfield 161, 9, 0, 0) := zp_r zq_33 rfl
theorem p_33_49 : zP1 33 49 = some (.aload_n 0, 0, 0, 0) := zp_l zq_33 rfl
theorem p_33_50 : zP1 33 50 = some (.getfield 29, 1, 0, 0) := zp_r zq_33 rfl
theorem p_33_53 : zP1 33 53 = some (.getfield 161, 9, 0, 0) := zp_r zq_33 rfl
theorem p_33_56 : zP1 33 56 = some (.invokevirtual 154, 29, 4, 1) := zp_r zq_33 rfl
theorem p_33_59 : zP1 33 59 = some (.bipush (-3), 0, 0, 0) := zp_l zq_33 rfl
theorem p_33_61 : zP1 33 61 = some (.if_icmp .ne 7, 0, 0, 0) := zp_l zq_33 rfl
theorem p_33_64 : zP1 33 64 = some (.iconst 1, 0, 0, 0) := zp_l zq_33 rfl
theorem p_33_65 : zP1 33 65 = some (.goto 4, 0, 0, 0) := zp_l zq_33 rfl
theorem p_33_68 : zP1 33 68 = some (.iconst 0, 0, 0, 0) := zp_l zq_33 rfl
theorem p_33_69 : zP1 33 69 = some (.istore 4, 0, 0, 0) := zp_l zq_33 rfl
theorem p_33_71 : zP1 33 71 = some (.iload 4, 0, 0, 0) := zp_l zq_33 rfl
theorem p_33_73 : zP1 33 73 = some (.ifCond .eq 9, 0, 0, 0) := zp_l zq_33 rfl
theorem p_33_76 : zP1 33 76 = some (.iload_n 1, 0, 0, 0) := zp_l zq_33 rfl
theorem p_33_77 : zP1 33 77 = some (.iconst 1, 0, 0, 0) := zp_l zq_33 rfl
theorem p_33_78 : zP1 33 78 = some (.iload_n 2, 0, 0, 0) := zp_l zq_33 rfl
theorem p_33_79 : zP1 33 79 = some (.ishl, 0, 0, 0) := zp_l zq_33 rfl
theorem p_33_80 : zP1 33 80 = some (.ior, 0, 0, 0) := zp_l zq_33 rfl
theorem p_33_81 : zP1 33 81 = some (.istore_n 1, 0, 0, 0) := zp_l zq_33 rfl
theorem p_33_82 : zP1 33 82 = some (.iinc 2 1, 0, 0, 0) := zp_l zq_33 rfl
theorem p_33_85 : zP1 33 85 = some (.goto (-81), 0, 0, 0) := zp_l zq_33 rfl
theorem p_33_88 : zP1 33 88 = some (.iload_n 1, 0, 0, 0) := zp_l zq_33 rfl
theorem p_33_89 : zP1 33 89 = some (.ireturn, 0, 0, 0) := zp_l zq_33 rfl
theorem b_33_0 : Z e (d + 1) 33 0 [.ref 202, .retAddr 0, .retAddr 0, .retAddr 0, .retAddr 0] [] m = Z e (d + 1) 33 4 [.ref 202, .int (iI 0), .int (iI 0), .retAddr 0, .retAddr 0] [] m := (s_const p_33_0).trans <| (s_is_1 cat_r p_33_1).trans <| (s_const p_33_2).trans <| (s_is_2 cat_i p_33_3).trans <| rfl
theorem b_33_4 {x1 : Int} {x2 : Int} {u3 u4 : Value} : Z e (d + 1) 33 4 [.ref 202, .int (iI x1), .int (iI x2), u3, u4] [] m = (if (wr x2) < (wr (m 4 3)) then (Z e d 104 0 [.ref 4, .int (iI x2), .int (iI 0)] [] m).bind (ZK e (d + 1) 33 31 [.ref 202, .int (iI x1), .int (iI x2), u3, u4] [.ref 202] m) else ri x1 m) := (s_il_2 p_33_4).trans <| (s_al_0 p_33_5).trans <| (s_getr p_33_6 hs_202 (by decide) rfl).trans <| (s_getr p_33_9 hs_1 (by decide) rfl).trans <| (s_get p_33_12 hs_4 (by decide) rfl).trans <| Eq.trans ((s_c_ge_f p_33_15 rfl rfl rfl)) <| ite_cg ((s_al_0 p_33_18).trans <| (s_al_0 p_33_19).trans <| (s_getr p_33_20 hs_202 (by decide) rfl).trans <| (s_getr p_33_23 hs_1 (by decide) rfl).trans <| (s_il_2 p_33_26).trans <| (s_const p_33_27).trans <| (s_cv2 (Lc := [.ref 4, .int (iI x2), .int (iI 0)]) p_33_28 (by decide) (by decide) (zM_of zq_104) ⟨Nat.le_of_ble_eq_true rfl, Nat.le_of_ble_eq_true rfl⟩ rfl (m_rc hs_4 ⟨rfl, by decide⟩))) ((s_il_1 p_33_88).trans <| (s_reti p_33_89 (zM_of zq_33)))
theorem b_33_31 {x1 : Int} {x2 : Int} {xs0 : Int} {u3 u4 : Value} : Z e (d + 1) 33 31 [.ref 202, .int (iI x1), .int (iI x2), u3, u4] [.int (iI xs0), .ref 202] m = (Z e d 23 0 [.ref 202, .int (iI xs0), .retAddr 0, .retAddr 0, .retAddr 0] [] m).bind (ZK e (d + 1) 33 34 [.ref 202, .int (iI x1), .int (iI x2), u3, u4] [] m) := (s_cv1 (Lc := [.ref 202, .int (iI xs0), .retAddr 0, .retAddr 0, .retAddr 0]) p_33_31 (by decide) (by decide) (zM_of zq_23) ⟨Nat.le_of_ble_eq_true rfl, Nat.le_of_ble_eq_true rfl⟩ rfl (m_rc hs_202 ⟨rfl, by decide⟩))
theorem b_33_34 {x1 : Int} {x2 : Int} {xs0 : Int} {u3 u4 : Value} : Z e (d + 1) 33 34 [.ref 202, .int (iI x1), .int (iI x2), u3, u4] [.int (iI xs0)] m = (if 0 < (wr xs0) then (Z e d 29 0 [.ref 202, .int (iI x2), .int (iI xs0), .int (iI (m 1 0)), .int (iI (m 1 0)), .retAddr 0, .retAddr 0, .retAddr 0] [] m).bind (ZK e (d + 1) 33 59 [.ref 202, .int (iI x1), .int (iI x2), .int (iI xs0), u4] [] m) else Z e (d + 1) 33 69 [.ref 202, .int (iI x1), .int (iI x2), .int (iI xs0), u4] [.int (iI 0)] m) := (s_is_3 cat_i p_33_34).trans <| (s_il_3 p_33_35).trans <| Eq.trans ((s_z_le_f p_33_36 rfl rfl)) <| ite_cg ((s_al_0 p_33_39).trans <| (s_il_2 p_33_40).trans <| (s_il_3 p_33_41).trans <| (s_al_0 p_33_42).trans <| (s_getr p_33_43 hs_202 (by decide) rfl).trans <| (s_get p_33_46 hs_1 (by decide) rfl).trans <| (s_al_0 p_33_49).trans <| (s_getr p_33_50 hs_202 (by decide) rfl).trans <| (s_get p_33_53 hs_1 (by decide) rfl).trans <| (s_cv4 (Lc := [.ref 202, .int (iI x2), .int (iI xs0), .int (iI (m 1 0)), .int (iI (m 1 0)), .retAddr 0, .retAddr 0, .retAddr 0]) p_33_56 (by decide) (by decide) (zM_of zq_29) ⟨Nat.le_of_ble_eq_true rfl, Nat.le_of_ble_eq_true rfl⟩ rfl (m_rc hs_202 ⟨rfl, by decide⟩))) ((s_const p_33_68).trans <| rfl)
theorem b_33_69 {x1 : Int} {x2 : Int} {xs0 : Int} {u3 u4 : Value} (hu3 : u3.category = 1) : Z e (d + 1) 33 69 [.ref 202, .int (iI x1), .int (iI x2), u3, u4] [.int (iI xs0)] m = Z e (d + 1) 33 4 [.ref 202, .int (iI (if ¬ (wr xs0) = 0 then (jor x1 (jshl 1 x2)) else x1)), .int (iI (x2 + 1)), u3, .int (iI xs0)] [] m := (s_is_4 hu3 p_33_69).trans <| (s_il_4 p_33_71).trans <| Eq.trans (Eq.trans ((s_z_eq_f p_33_73 rfl rfl)) <| Eq.trans (ite_cg ((s_il_1 p_33_76).trans <| (s_const p_33_77).trans <| (s_il_2 p_33_78).trans <| (s_ishl p_33_79).trans <| (s_ior p_33_80).trans <| (s_is_1 cat_r p_33_81).trans <| rfl) (rfl)) (phi1 (fun z0 => Z e (d + 1) 33 82 [.ref 202, .int (iI z0), .int (iI x2), u3, .int (iI xs0)] [] m))) <| (s_inc_2 cat_i p_33_82).trans <| (s_goto p_33_85 rfl).trans <| rfl
theorem b_33_59 {x1 : Int} {x2 : Int} {xs0 : Int} {u3 u4 : Value} : Z e (d + 1) 33 59 [.ref 202, .int (iI x1), .int (iI x2), u3, u4] [.int (iI xs0)] m = Z e (d + 1) 33 69 [.ref 202, .int (iI x1), .int (iI x2), u3, u4] [.int (iI (if (wr xs0) = (-3) then 1 else 0))] m := (s_bip p_33_59 rfl).trans <| Eq.trans (Eq.trans ((s_c_ne_f p_33_61 rfl rfl wl_m3)) <| Eq.trans (ite_cg ((s_const p_33_64).trans <| (s_goto p_33_65 rfl).trans <| rfl) ((s_const p_33_68).trans <| rfl)) (phi1 (fun z0 => Z e (d + 1) 33 69 [.ref 202, .int (iI x1), .int (iI x2), u3, u4] [.int (iI z0)] m))) <| rfl
-- Law.safeNow
theorem p_32_0 : zP1 32 0 = some (.aload_n 0, 0, 0, 0) := zp_l zq_32 rfl
theorem p_32_1 : zP1 32 1 = some (.aload_n 0, 0, 0, 0) := zp_l zq_32 rfl
theorem p_32_2 : zP1 32 2 = some (.getfield 29, 1, 0, 0) := zp_r zq_32 rfl
theorem p_32_5 : zP1 32 5 = some (.getfield 161, 9, 0, 0) := zp_r zq_32 rfl
theorem p_32_8 : zP1 32 8 = some (.invokevirtual 148, 19, 1, 1) := zp_r zq_32 rfl
theorem p_32_11 : zP1 32 11 = some (.aload_n 0, 0, 0, 0) := zp_l zq_32 rfl
theorem p_32_12 : zP1 32 12 = some (.invokevirtual 167, 33, 0, 1) := zp_r zq_32 rfl
theorem p_32_15 : zP1 32 15 = some (.ireturn, 0, 0, 0) := zp_l zq_32 rfl
theorem b_32_0 : Z e (d + 1) 32 0 [.ref 202] [] m = (Z e d 19 0 [.ref 202, .int (iI (m 1 0))] [] m).bind (ZK e (d + 1) 32 11 [.ref 202] [] m) := (s_al_0 p_32_0).trans <| (s_al_0 p_32_1).trans <| (s_getr p_32_2 hs_202 (by decide) rfl).trans <| (s_get p_32_5 hs_1 (by decide) rfl).trans <| (s_cv1 (Lc := [.ref 202, .int (iI (m 1 0))]) p_32_8 (by decide) (by decide) (zM_of zq_19) ⟨Nat.le_of_ble_eq_true rfl, Nat.le_of_ble_eq_true rfl⟩ rfl (m_rc hs_202 ⟨rfl, by decide⟩))
theorem b_32_11 : Z e (d + 1) 32 11 [.ref 202] [] m = (Z e d 33 0 [.ref 202, .retAddr 0, .retAddr 0, .retAddr 0, .retAddr 0] [] m).bind (ZK e (d + 1) 32 15 [.ref 202] [] m) := (s_al_0 p_32_11).trans <| (s_cv0 (Lc := [.ref 202, .retAddr 0, .retAddr 0, .retAddr 0, .retAddr 0]) p_32_12 (by decide) (by decide) (zM_of zq_33) ⟨Nat.le_of_ble_eq_true rfl, Nat.le_of_ble_eq_true rfl⟩ rfl (m_rc hs_202 ⟨rfl, by decide⟩))
theorem b_32_15 {xs0 : Int} {u0 : Value} : Z e (d + 1) 32 15 [u0] [.int (iI xs0)] m = ri xs0 m := (s_reti p_32_15 (zM_of zq_32))
-- Law.latestDeed
theorem p_35_0 : zP1 35 0 = some (.aload_n 0, 0, 0, 0) := zp_l zq_35 rfl
theorem p_35_1 : zP1 35 1 = some (.getfield 29, 1, 0, 0) := zp_r zq_35 rfl
theorem p_35_4 : zP1 35 4 = some (.getfield 120, 9, 7, 0) := zp_r zq_35 rfl
theorem p_35_7 : zP1 35 7 = some (.getfield 94, 7, 3, 0) := zp_r zq_35 rfl
theorem p_35_10 : zP1 35 10 = some (.iconst 1, 0, 0, 0) := zp_l zq_35 rfl
theorem p_35_11 : zP1 35 11 = some (.isub, 0, 0, 0) := zp_l zq_35 rfl
theorem p_35_12 : zP1 35 12 = some (.istore_n 3, 0, 0, 0) := zp_l zq_35 rfl
theorem p_35_13 : zP1 35 13 = some (.iload_n 3, 0, 0, 0) := zp_l zq_35 rfl
theorem p_35_14 : zP1 35 14 = some (.ifCond .lt 55, 0, 0, 0) := zp_l zq_35 rfl
theorem p_35_17 : zP1 35 17 = some (.aload_n 0, 0, 0, 0) := zp_l zq_35 rfl
theorem p_35_18 : zP1 35 18 = some (.getfield 29, 1, 0, 0) := zp_r zq_35 rfl
theorem p_35_21 : zP1 35 21 = some (.getfield 120, 9, 7, 0) := zp_r zq_35 rfl
theorem p_35_24 : zP1 35 24 = some (.iload_n 3, 0, 0, 0) := zp_l zq_35 rfl
theorem p_35_25 : zP1 35 25 = some (.iconst 0, 0, 0, 0) := zp_l zq_35 rfl
theorem p_35_26 : zP1 35 26 = some (.invokevirtual 97, 104, 2, 7) := zp_r zq_35 rfl
theorem p_35_29 : zP1 35 29 = some (.iload_n 1, 0, 0, 0) := zp_l zq_35 rfl
theorem p_35_30 : zP1 35 30 = some (.if_icmp .ne 7, 0, 0, 0) := zp_l zq_35 rfl
theorem p_35_33 : zP1 35 33 = some (.iconst 1, 0, 0, 0) := zp_l zq_35 rfl
theorem p_35_34 : zP1 35 34 = some (.goto 4, 0, 0, 0) := zp_l zq_35 rfl
theorem p_35_37 : zP1 35 37 = some (.iconst 0, 0, 0, 0) := zp_l zq_35 rfl
theorem p_35_38 : zP1 35 38 = some (.istore 4, 0, 0, 0) := zp_l zq_35 rfl
theorem p_35_40 : zP1 35 40 = some (.iload 4, 0, 0, 0) := zp_l zq_35 rfl
theorem p_35_42 : zP1 35 42 = some (.ifCond .eq 21, 0, 0, 0) := zp_l zq_35 rfl
theorem p_35_45 : zP1 35 45 = some (.aload_n 0, 0, 0, 0) := zp_l zq_35 rfl
theorem p_35_46 : zP1 35 46 = some (.getfield 29, 1, 0, 0) := zp_r zq_35 rfl
theorem p_35_49 : zP1 35 49 = some (.getfield 120, 9, 7, 0) := zp_r zq_35 rfl
theorem p_35_52 : zP1 35 52 = some (.iload_n 3, 0, 0, 0) := zp_l zq_35 rfl
theorem p_35_53 : zP1 35 53 = some (.iconst 3, 0, 0, 0) := zp_l zq_35 rfl
theorem p_35_54 : zP1 35 54 = some (.invokevirtual 97, 104, 2, 7) := zp_r zq_35 rfl
theorem p_35_57 : zP1 35 57 = some (.iload_n 2, 0, 0, 0) := zp_l zq_35 rfl
theorem p_35_58 : zP1 35 58 = some (.if_icmp .gt 5, 0, 0, 0) := zp_l zq_35 rfl
theorem p_35_61 : zP1 35 61 = some (.iload_n 3, 0, 0, 0) := zp_l zq_35 rfl
theorem p_35_62 : zP1 35 62 = some (.ireturn, 0, 0, 0) := zp_l zq_35 rfl
theorem p_35_63 : zP1 35 63 = some (.iinc 3 (-1), 0, 0, 0) := zp_l zq_35 rfl
theorem p_35_66 : zP1 35 66 = some (.goto (-53), 0, 0, 0) := zp_l zq_35 rfl
theorem p_35_69 : zP1 35 69 = some (.bipush (-3), 0, 0, 0) := zp_l zq_35 rfl
theorem p_35_71 : zP1 35 71 = some (.ireturn, 0, 0, 0) := zp_l zq_35 rfl
theorem b_35_0 {x1 : Int} {x2 : Int} : Z e (d + 1) 35 0 [.ref 202, .int (iI x1), .int (iI x2), .retAddr 0, .retAddr 0] [] m = Z e (d + 1) 35 13 [.ref 202, .int (iI x1), .int (iI x2), .int (iI ((m 8 3) - 1)), .retAddr 0] [] m := (s_al_0 p_35_0).trans <| (s_getr p_35_1 hs_202 (by decide) rfl).trans <| (s_getr p_35_4 hs_1 (by decide) rfl).trans <| (s_get p_35_7 hs_8 (by decide) rfl).trans <| (s_const p_35_10).trans <| (s_isub p_35_11).trans <| (s_is_3 cat_i p_35_12).trans <| rfl
theorem b_35_13 {x1 : Int} {x2 : Int} {x3 : Int} {u4 : Value} : Z e (d + 1) 35 13 [.ref 202, .int (iI x1), .int (iI x2), .int (iI x3), u4] [] m = (if 0 ≤ (wr x3) then (Z e d 104 0 [.ref 8, .int (iI x3), .int (iI 0)] [] m).bind (ZK e (d + 1) 35 29 [.ref 202, .int (iI x1), .int (iI x2), .int (iI x3), u4] [] m) else ri (-3) m) := (s_il_3 p_35_13).trans <| Eq.trans ((s_z_lt_f p_35_14 rfl rfl)) <| ite_cg ((s_al_0 p_35_17).trans <| (s_getr p_35_18 hs_202 (by decide) rfl).trans <| (s_getr p_35_21 hs_1 (by decide) rfl).trans <| (s_il_3 p_35_24).trans <| (s_const p_35_25).trans <| (s_cv2 (Lc := [.ref 8, .int (iI x3), .int (iI 0)]) p_35_26 (by decide) (by decide) (zM_of zq_104) ⟨Nat.le_of_ble_eq_true rfl, Nat.le_of_ble_eq_true rfl⟩ rfl (m_rc hs_8 ⟨rfl, by decide⟩))) ((s_bip p_35_69 rfl).trans <| (s_reti p_35_71 (zM_of zq_35)))
theorem b_35_29 {x1 : Int} {x2 : Int} {x3 : Int} {xs0 : Int} {u4 : Value} : Z e (d + 1) 35 29 [.ref 202, .int (iI x1), .int (iI x2), .int (iI x3), u4] [.int (iI xs0)] m = (if (wr xs0) = (wr x1) then (Z e d 104 0 [.ref 8, .int (iI x3), .int (iI 3)] [] m).bind (ZK e (d + 1) 35 57 [.ref 202, .int (iI x1), .int (iI x2), .int (iI x3), .int (iI (if (wr xs0) = (wr x1) then 1 else 0))] [] m) else Z e (d + 1) 35 13 [.ref 202, .int (iI x1), .int (iI x2), .int (iI (x3 + (-1))), .int (iI (if (wr xs0) = (wr x1) then 1 else 0))] [] m) := (s_il_1 p_35_29).trans <| Eq.trans (Eq.trans ((s_c_ne_f p_35_30 rfl rfl rfl)) <| Eq.trans (ite_cg ((s_const p_35_33).trans <| (s_goto p_35_34 rfl).trans <| rfl) ((s_const p_35_37).trans <| rfl)) (phi1 (fun z0 => Z e (d + 1) 35 38 [.ref 202, .int (iI x1), .int (iI x2), .int (iI x3), u4] [.int (iI z0)] m))) <| (s_is_4 cat_i p_35_38).trans <| (s_il_4 p_35_40).trans <| Eq.trans ((s_beq_f p_35_42 rfl)) <| ite_cg ((s_al_0 p_35_45).trans <| (s_getr p_35_46 hs_202 (by decide) rfl).trans <| (s_getr p_35_49 hs_1 (by decide) rfl).trans <| (s_il_3 p_35_52).trans <| (s_const p_35_53).trans <| (s_cv2 (Lc := [.ref 8, .int (iI x3), .int (iI 3)]) p_35_54 (by decide) (by decide) (zM_of zq_104) ⟨Nat.le_of_ble_eq_true rfl, Nat.le_of_ble_eq_true rfl⟩ rfl (m_rc hs_8 ⟨rfl, by decide⟩))) ((s_inc_3 cat_i p_35_63).trans <| (s_goto p_35_66 rfl).trans <| rfl)
theorem b_35_57 {x1 : Int} {x2 : Int} {x3 : Int} {xs0 : Int} {u4 : Value} : Z e (d + 1) 35 57 [.ref 202, .int (iI x1), .int (iI x2), .int (iI x3), u4] [.int (iI xs0)] m = (if (wr xs0) ≤ (wr x2) then ri x3 m else Z e (d + 1) 35 13 [.ref 202, .int (iI x1), .int (iI x2), .int (iI (x3 + (-1))), u4] [] m) := (s_il_2 p_35_57).trans <| Eq.trans ((s_c_gt_f p_35_58 rfl rfl rfl)) <| ite_cg ((s_il_3 p_35_61).trans <| (s_reti p_35_62 (zM_of zq_35))) ((s_inc_3 cat_i p_35_63).trans <| (s_goto p_35_66 rfl).trans <| rfl)
-- Version.hasCondition
theorem p_115_0 : zP1 115 0 = some (.aload_n 0, 0, 0, 0) := zp_l zq_115 rfl
theorem p_115_1 : zP1 115 1 = some (.getfield 21, 8, 8, 0) := zp_r zq_115 rfl
theorem p_115_4 : zP1 115 4 = some (.iload_n 1, 0, 0, 0) := zp_l zq_115 rfl
theorem p_115_5 : zP1 115 5 = some (.iaload, 0, 0, 0) := zp_l zq_115 rfl
theorem p_115_6 : zP1 115 6 = some (.aload_n 0, 0, 0, 0) := zp_l zq_115 rfl
theorem p_115_7 : zP1 115 7 = some (.getfield 18, 8, 7, 0) := zp_r zq_115 rfl
theorem p_115_10 : zP1 115 10 = some (.iload_n 1, 0, 0, 0) := zp_l zq_115 rfl
theorem p_115_11 : zP1 115 11 = some (.iaload, 0, 0, 0) := zp_l zq_115 rfl
theorem p_115_12 : zP1 115 12 = some (.if_icmp .le 7, 0, 0, 0) := zp_l zq_115 rfl
theorem p_115_15 : zP1 115 15 = some (.iconst 1, 0, 0, 0) := zp_l zq_115 rfl
theorem p_115_16 : zP1 115 16 = some (.goto 4, 0, 0, 0) := zp_l zq_115 rfl
theorem p_115_19 : zP1 115 19 = some (.iconst 0, 0, 0, 0) := zp_l zq_115 rfl
theorem p_115_20 : zP1 115 20 = some (.ireturn, 0, 0, 0) := zp_l zq_115 rfl
theorem b_115_0 {a : Nat} {x1 : Int} (hV : zVer a) : Z e d 115 0 [.ref a, .int (iI x1)] [] m = ck (0 ≤ (wr x1) ∧ (wr x1) < 10) (ck (0 ≤ (wr x1) ∧ (wr x1) < 10) (ri (if (wr (m (a + 3) (wr x1))) < (wr (m (a + 4) (wr x1))) then 1 else 0) m)) := (s_al_0 p_115_0).trans <| (s_getr p_115_1 (hV).1 (by decide) rfl).trans <| (s_il_1 p_115_4).trans <| (s_ald 10 p_115_5 (hV).2.2.2.2.1 rfl (zV_4 (hV))).trans <| ck_cg fun k1 => (s_al_0 p_115_6).trans <| (s_getr p_115_7 (hV).1 (by decide) rfl).trans <| (s_il_1 p_115_10).trans <| (s_ald 10 p_115_11 (hV).2.2.2.1 rfl (zV_3 (hV))).trans <| ck_cg fun k2 => Eq.trans (Eq.trans ((s_c_le_f p_115_12 rfl rfl rfl)) <| Eq.trans (ite_cg ((s_const p_115_15).trans <| (s_goto p_115_16 rfl).trans <| rfl) ((s_const p_115_19).trans <| rfl)) (phi1 (fun z0 => Z e d 115 20 [.ref a, .int (iI x1)] [.int (iI z0)] m))) <| (s_retb p_115_20 (zM_of zq_115))
-- Law.costOf
theorem p_34_0 : zP1 34 0 = some (.aload_n 0, 0, 0, 0) := zp_l zq_34 rfl
theorem p_34_1 : zP1 34 1 = some (.iload_n 2, 0, 0, 0) := zp_l zq_34 rfl
theorem p_34_2 : zP1 34 2 = some (.invokevirtual 148, 19, 1, 1) := zp_r zq_34 rfl
theorem p_34_5 : zP1 34 5 = some (.aload_n 0, 0, 0, 0) := zp_l zq_34 rfl
theorem p_34_6 : zP1 34 6 = some (.aload_n 0, 0, 0, 0) := zp_l zq_34 rfl
theorem p_34_7 : zP1 34 7 = some (.getfield 29, 1, 0, 0) := zp_r zq_34 rfl
theorem p_34_10 : zP1 34 10 = some (.getfield 158, 9, 5, 0) := zp_r zq_34 rfl
theorem p_34_13 : zP1 34 13 = some (.iload_n 1, 0, 0, 0) := zp_l zq_34 rfl
theorem p_34_14 : zP1 34 14 = some (.iconst 0, 0, 0, 0) := zp_l zq_34 rfl
theorem p_34_15 : zP1 34 15 = some (.invokevirtual 97, 104, 2, 7) := zp_r zq_34 rfl
theorem p_34_18 : zP1 34 18 = some (.invokevirtual 151, 23, 1, 1) := zp_r zq_34 rfl
theorem p_34_21 : zP1 34 21 = some (.istore_n 3, 0, 0, 0) := zp_l zq_34 rfl
theorem p_34_22 : zP1 34 22 = some (.aload_n 0, 0, 0, 0) := zp_l zq_34 rfl
theorem p_34_23 : zP1 34 23 = some (.iload_n 1, 0, 0, 0) := zp_l zq_34 rfl
theorem p_34_24 : zP1 34 24 = some (.iload_n 2, 0, 0, 0) := zp_l zq_34 rfl
theorem p_34_25 : zP1 34 25 = some (.invokevirtual 171, 35, 2, 1) := zp_r zq_34 rfl
theorem p_34_28 : zP1 34 28 = some (.istore 4, 0, 0, 0) := zp_l zq_34 rfl
theorem p_34_30 : zP1 34 30 = some (.aload_n 0, 0, 0, 0) := zp_l zq_34 rfl
theorem p_34_31 : zP1 34 31 = some (.getfield 49, 1, 5, 0) := zp_r zq_34 rfl
theorem p_34_34 : zP1 34 34 = some (.iconst 1, 0, 0, 0) := zp_l zq_34 rfl
theorem p_34_35 : zP1 34 35 = some (.isub, 0, 0, 0) := zp_l zq_34 rfl
theorem p_34_36 : zP1 34 36 = some (.istore 5, 0, 0, 0) := zp_l zq_34 rfl
theorem p_34_38 : zP1 34 38 = some (.iload 5, 0, 0, 0) := zp_l zq_34 rfl
theorem p_34_40 : zP1 34 40 = some (.ifCond .lt 114, 0, 0, 0) := zp_l zq_34 rfl
theorem p_34_43 : zP1 34 43 = some (.aload_n 0, 0, 0, 0) := zp_l zq_34 rfl
theorem p_34_44 : zP1 34 44 = some (.getfield 29, 1, 0, 0) := zp_r zq_34 rfl
theorem p_34_47 : zP1 34 47 = some (.getfield 69, 9, 4, 0) := zp_r zq_34 rfl
theorem p_34_50 : zP1 34 50 = some (.aload_n 0, 0, 0, 0) := zp_l zq_34 rfl
theorem p_34_51 : zP1 34 51 = some (.getfield 19, 1, 4, 0) := zp_r zq_34 rfl
theorem p_34_54 : zP1 34 54 = some (.iload 5, 0, 0, 0) := zp_l zq_34 rfl
theorem p_34_56 : zP1 34 56 = some (.iaload, 0, 0, 0) := zp_l zq_34 rfl
theorem p_34_57 : zP1 34 57 = some (.bipush 100, 0, 0, 0) := zp_l zq_34 rfl
theorem p_34_59 : zP1 34 59 = some (.idiv, 0, 0, 0) := zp_l zq_34 rfl
theorem p_34_60 : zP1 34 60 = some (.aaload, 0, 0, 0) := zp_l zq_34 rfl
theorem p_34_61 : zP1 34 61 = some (.astore 6, 0, 0, 0) := zp_l zq_34 rfl
theorem p_34_63 : zP1 34 63 = some (.aload_n 0, 0, 0, 0) := zp_l zq_34 rfl
theorem p_34_64 : zP1 34 64 = some (.getfield 19, 1, 4, 0) := zp_r zq_34 rfl
theorem p_34_67 : zP1 34 67 = some (.iload 5, 0, 0, 0) := zp_l zq_34 rfl
theorem p_34_69 : zP1 34 69 = some (.iaload, 0, 0, 0) := zp_l zq_34 rfl
theorem p_34_70 : zP1 34 70 = some (.bipush 100, 0, 0, 0) := zp_l zq_34 rfl
theorem p_34_72 : zP1 34 72 = some (.irem, 0, 0, 0) := zp_l zq_34 rfl
theorem p_34_73 : zP1 34 73 = some (.istore 7, 0, 0, 0) := zp_l zq_34 rfl
theorem p_34_75 : zP1 34 75 = some (.aload 6, 0, 0, 0) := zp_l zq_34 rfl
theorem p_34_77 : zP1 34 77 = some (.getfield 84, 8, 5, 0) := zp_r zq_34 rfl
theorem p_34_80 : zP1 34 80 = some (.iload 7, 0, 0, 0) := zp_l zq_34 rfl
theorem p_34_82 : zP1 34 82 = some (.iaload, 0, 0, 0) := zp_l zq_34 rfl
theorem p_34_83 : zP1 34 83 = some (.iconst 4, 0, 0, 0) := zp_l zq_34 rfl
theorem p_34_84 : zP1 34 84 = some (.if_icmp .ne 7, 0, 0, 0) := zp_l zq_34 rfl
theorem p_34_87 : zP1 34 87 = some (.iconst 1, 0, 0, 0) := zp_l zq_34 rfl
theorem p_34_88 : zP1 34 88 = some (.goto 4, 0, 0, 0) := zp_l zq_34 rfl
theorem p_34_91 : zP1 34 91 = some (.iconst 0, 0, 0, 0) := zp_l zq_34 rfl
theorem p_34_92 : zP1 34 92 = some (.istore 8, 0, 0, 0) := zp_l zq_34 rfl
theorem p_34_94 : zP1 34 94 = some (.iload 8, 0, 0, 0) := zp_l zq_34 rfl
theorem p_34_96 : zP1 34 96 = some (.ifCond .eq 35, 0, 0, 0) := zp_l zq_34 rfl
theorem p_34_99 : zP1 34 99 = some (.aload 6, 0, 0, 0) := zp_l zq_34 rfl
theorem p_34_101 : zP1 34 101 = some (.iload 7, 0, 0, 0) := zp_l zq_34 rfl
theorem p_34_103 : zP1 34 103 = some (.invokevirtual 174, 115, 1, 8) := zp_r zq_34 rfl
theorem p_34_106 : zP1 34 106 = some (.ifCond .eq 21, 0, 0, 0) := zp_l zq_34 rfl
theorem p_34_109 : zP1 34 109 = some (.aload_n 0, 0, 0, 0) := zp_l zq_34 rfl
theorem p_34_110 : zP1 34 110 = some (.aload_n 0, 0, 0, 0) := zp_l zq_34 rfl
theorem p_34_111 : zP1 34 111 = some (.getfield 19, 1, 4, 0) := zp_r zq_34 rfl
theorem p_34_114 : zP1 34 114 = some (.iload 5, 0, 0, 0) := zp_l zq_34 rfl
theorem p_34_116 : zP1 34 116 = some (.iaload, 0, 0, 0) := zp_l zq_34 rfl
theorem p_34_117 : zP1 34 117 = some (.iload 4, 0, 0, 0) := zp_l zq_34 rfl
theorem p_34_119 : zP1 34 119 = some (.iload_n 3, 0, 0, 0) := zp_l zq_34 rfl
theorem p_34_120 : zP1 34 120 = some (.iload_n 2, 0, 0, 0) := zp_l zq_34 rfl
theorem p_34_121 : zP1 34 121 = some (.invokevirtual 137, 26, 4, 1) := zp_r zq_34 rfl
theorem p_34_124 : zP1 34 124 = some (.ifCond .eq 7, 0, 0, 0) := zp_l zq_34 rfl
theorem p_34_127 : zP1 34 127 = some (.iconst 1, 0, 0, 0) := zp_l zq_34 rfl
theorem p_34_128 : zP1 34 128 = some (.goto 4, 0, 0, 0) := zp_l zq_34 rfl
theorem p_34_131 : zP1 34 131 = some (.iconst 0, 0, 0, 0) := zp_l zq_34 rfl
theorem p_34_132 : zP1 34 132 = some (.istore 9, 0, 0, 0) := zp_l zq_34 rfl
theorem p_34_134 : zP1 34 134 = some (.iload 9, 0, 0, 0) := zp_l zq_34 rfl
theorem p_34_136 : zP1 34 136 = some (.ifCond .eq 12, 0, 0, 0) := zp_l zq_34 rfl
theorem p_34_139 : zP1 34 139 = some (.aload 6, 0, 0, 0) := zp_l zq_34 rfl
theorem p_34_141 : zP1 34 141 = some (.getfield 87, 8, 6, 0) := zp_r zq_34 rfl
theorem p_34_144 : zP1 34 144 = some (.iload 7, 0, 0, 0) := zp_l zq_34 rfl
theorem p_34_146 : zP1 34 146 = some (.iaload, 0, 0, 0) := zp_l zq_34 rfl
theorem p_34_147 : zP1 34 147 = some (.ireturn, 0, 0, 0) := zp_l zq_34 rfl
theorem p_34_148 : zP1 34 148 = some (.iinc 5 (-1), 0, 0, 0) := zp_l zq_34 rfl
theorem p_34_151 : zP1 34 151 = some (.goto (-113), 0, 0, 0) := zp_l zq_34 rfl
theorem p_34_154 : zP1 34 154 = some (.bipush 10, 0, 0, 0) := zp_l zq_34 rfl
theorem p_34_156 : zP1 34 156 = some (.ireturn, 0, 0, 0) := zp_l zq_34 rfl
theorem b_34_0 {x1 : Int} {x2 : Int} : Z e (d + 1) 34 0 [.ref 202, .int (iI x1), .int (iI x2), .retAddr 0, .retAddr 0, .retAddr 0, .retAddr 0, .retAddr 0, .retAddr 0, .retAddr 0] [] m = (Z e d 19 0 [.ref 202, .int (iI x2)] [] m).bind (ZK e (d + 1) 34 5 [.ref 202, .int (iI x1), .int (iI x2), .retAddr 0, .retAddr 0, .retAddr 0, .retAddr 0, .retAddr 0, .retAddr 0, .retAddr 0] [] m) := (s_al_0 p_34_0).trans <| (s_il_2 p_34_1).trans <| (s_cv1 (Lc := [.ref 202, .int (iI x2)]) p_34_2 (by decide) (by decide) (zM_of zq_19) ⟨Nat.le_of_ble_eq_true rfl, Nat.le_of_ble_eq_true rfl⟩ rfl (m_rc hs_202 ⟨rfl, by decide⟩))
theorem b_34_5 {x1 : Int} {x2 : Int} {u3 u4 u5 u6 u7 u8 u9 : Value} : Z e (d + 1) 34 5 [.ref 202, .int (iI x1), .int (iI x2), u3, u4, u5, u6, u7, u8, u9] [] m = (Z e d 104 0 [.ref 4, .int (iI x1), .int (iI 0)] [] m).bind (ZK e (d + 1) 34 18 [.ref 202, .int (iI x1), .int (iI x2), u3, u4, u5, u6, u7, u8, u9] [.ref 202] m) := (s_al_0 p_34_5).trans <| (s_al_0 p_34_6).trans <| (s_getr p_34_7 hs_202 (by decide) rfl).trans <| (s_getr p_34_10 hs_1 (by decide) rfl).trans <| (s_il_1 p_34_13).trans <| (s_const p_34_14).trans <| (s_cv2 (Lc := [.ref 4, .int (iI x1), .int (iI 0)]) p_34_15 (by decide) (by decide) (zM_of zq_104) ⟨Nat.le_of_ble_eq_true rfl, Nat.le_of_ble_eq_true rfl⟩ rfl (m_rc hs_4 ⟨rfl, by decide⟩))
theorem b_34_38 {x2 : Int} {x3 : Int} {x4 : Int} {x5 : Int} {u1 u6 u7 u8 u9 : Value} : Z e (d + 1) 34 38 [.ref 202, u1, .int (iI x2), .int (iI x3), .int (iI x4), .int (iI x5), u6, u7, u8, u9] [] m = (if 0 ≤ (wr x5) then ck (0 ≤ (wr x5) ∧ (wr x5) < 30) (ck (0 ≤ (wr (jdiv (m 203 (wr x5)) 100)) ∧ (wr (jdiv (m 203 (wr x5)) 100)) < 12) (ck (0 ≤ (wr x5) ∧ (wr x5) < 30) (ck (0 ≤ (wr (jrem (m 203 (wr x5)) 100)) ∧ (wr (jrem (m 203 (wr x5)) 100)) < 10) ((if (wr (m ((18 + 6 * (wr (jdiv (m 203 (wr x5)) 100)).toNat) + 1) (wr (jrem (m 203 (wr x5)) 100)))) = 4 then ck (0 ≤ (wr (jrem (m 203 (wr x5)) 100)) ∧ (wr (jrem (m 203 (wr x5)) 100)) < 10) (ck (0 ≤ (wr (jrem (m 203 (wr x5)) 100)) ∧ (wr (jrem (m 203 (wr x5)) 100)) < 10) ((if (wr (m ((18 + 6 * (wr (jdiv (m 203 (wr x5)) 100)).toNat) + 3) (wr (jrem (m 203 (wr x5)) 100)))) < (wr (m ((18 + 6 * (wr (jdiv (m 203 (wr x5)) 100)).toNat) + 4) (wr (jrem (m 203 (wr x5)) 100)))) then ck (0 ≤ (wr x5) ∧ (wr x5) < 30) ((Z e d 26 0 [.ref 202, .int (iI (m 203 (wr x5))), .int (iI x4), .int (iI x3), .int (iI x2), .retAddr 0] [] m).bind (ZK e (d + 1) 34 124 [.ref 202, u1, .int (iI x2), .int (iI x3), .int (iI x4), .int (iI x5), .ref (18 + 6 * (wr (jdiv (m 203 (wr x5)) 100)).toNat), .int (iI (jrem (m 203 (wr x5)) 100)), .int (iI (if (wr (m ((18 + 6 * (wr (jdiv (m 203 (wr x5)) 100)).toNat) + 1) (wr (jrem (m 203 (wr x5)) 100)))) = 4 then 1 else 0)), u9] [] m)) else Z e (d + 1) 34 132 [.ref 202, u1, .int (iI x2), .int (iI x3), .int (iI x4), .int (iI x5), .ref (18 + 6 * (wr (jdiv (m 203 (wr x5)) 100)).toNat), .int (iI (jrem (m 203 (wr x5)) 100)), .int (iI (if (wr (m ((18 + 6 * (wr (jdiv (m 203 (wr x5)) 100)).toNat) + 1) (wr (jrem (m 203 (wr x5)) 100)))) = 4 then 1 else 0)), u9] [.int (iI 1)] m))) else Z e (d + 1) 34 132 [.ref 202, u1, .int (iI x2), .int (iI x3), .int (iI x4), .int (iI x5), .ref (18 + 6 * (wr (jdiv (m 203 (wr x5)) 100)).toNat), .int (iI (jrem (m 203 (wr x5)) 100)), .int (iI (if (wr (m ((18 + 6 * (wr (jdiv (m 203 (wr x5)) 100)).toNat) + 1) (wr (jrem (m 203 (wr x5)) 100)))) = 4 then 1 else 0)), u9] [.int (iI 0)] m))))) else ri 10 m) := (s_il_5 p_34_38).trans <| Eq.trans ((s_z_lt_f p_34_40 rfl rfl)) <| ite_cg ((s_al_0 p_34_43).trans <| (s_getr p_34_44 hs_202 (by decide) rfl).trans <| (s_getr p_34_47 hs_1 (by decide) rfl).trans <| (s_al_0 p_34_50).trans <| (s_getr p_34_51 hs_202 (by decide) rfl).trans <| (s_il_5 p_34_54).trans <| (s_ald 30 p_34_56 hs_203 rfl (by decide)).trans <| ck_cg fun k1 => (s_bip p_34_57 rfl).trans <| (s_idivc p_34_59 (by decide)).trans <| (s_aald 12 p_34_60 hs_3 rfl ⟨by decide, by decide⟩ ar_3).trans <| ck_cg fun k2 => (s_as_6 cat_i p_34_61).trans <| (s_al_0 p_34_63).trans <| (s_getr p_34_64 hs_202 (by decide) rfl).trans <| (s_il_5 p_34_67).trans <| (s_ald 30 p_34_69 hs_203 rfl (by decide)).trans <| ck_cg fun k3 => (s_bip p_34_70 rfl).trans <| (s_iremc p_34_72 (by decide)).trans <| (s_is_7 cat_r p_34_73).trans <| (s_al_6 p_34_75).trans <| (s_getr p_34_77 (zVer_0 k2).1 (by decide) rfl).trans <| (s_il_7 p_34_80).trans <| (s_ald 10 p_34_82 (zVer_0 k2).2.1 rfl (zV_1 (zVer_0 k2))).trans <| ck_cg fun k4 => (s_const p_34_83).trans <| Eq.trans (Eq.trans ((s_c_ne_f p_34_84 rfl rfl wl_4)) <| Eq.trans (ite_cg ((s_const p_34_87).trans <| (s_goto p_34_88 rfl).trans <| rfl) ((s_const p_34_91).trans <| rfl)) (phi1 (fun z0 => Z e (d + 1) 34 92 [.ref 202, u1, .int (iI x2), .int (iI x3), .int (iI x4), .int (iI x5), .ref (18 + 6 * (wr (jdiv (m 203 (wr x5)) 100)).toNat), .int (iI (jrem (m 203 (wr x5)) 100)), u8, u9] [.int (iI z0)] m))) <| (s_is_8 cat_i p_34_92).trans <| (s_il_8 p_34_94).trans <| Eq.trans ((s_beq_f p_34_96 rfl)) <| ite_cg ((s_al_6 p_34_99).trans <| (s_il_7 p_34_101).trans <| (s_cv1 (Lc := [.ref (18 + 6 * (wr (jdiv (m 203 (wr x5)) 100)).toNat), .int (iI (jrem (m 203 (wr x5)) 100))]) p_34_103 (by decide) (by decide) (zM_of zq_115) ⟨Nat.le_of_ble_eq_true rfl, Nat.le_of_ble_eq_true rfl⟩ rfl (m_rc (zVer_0 k2).1 ⟨rfl, by decide⟩)).trans <| (bd (b_115_0 (zVer_0 k2))).trans <| ck_bind.trans <| ck_cg fun _ => ck_bind.trans <| ck_cg fun _ => ri_k.trans <| Eq.trans ((s_beq_f p_34_106 rfl)) <| ite_cg ((s_al_0 p_34_109).trans <| (s_al_0 p_34_110).trans <| (s_getr p_34_111 hs_202 (by decide) rfl).trans <| (s_il_5 p_34_114).trans <| (s_ald 30 p_34_116 hs_203 rfl (by decide)).trans <| ck_cg fun k7 => (s_il_4 p_34_117).trans <| (s_il_3 p_34_119).trans <| (s_il_2 p_34_120).trans <| (s_cv4 (Lc := [.ref 202, .int (iI (m 203 (wr x5))), .int (iI x4), .int (iI x3), .int (iI x2), .retAddr 0]) p_34_121 (by decide) (by decide) (zM_of zq_26) ⟨Nat.le_of_ble_eq_true rfl, Nat.le_of_ble_eq_true rfl⟩ rfl (m_rc hs_202 ⟨rfl, by decide⟩))) ((s_const p_34_127).trans <| (s_goto p_34_128 rfl).trans <| rfl)) ((s_const p_34_131).trans <| rfl)) ((s_bip p_34_154 rfl).trans <| (s_reti p_34_156 (zM_of zq_34)))
theorem b_34_132 {x2 : Int} {x3 : Int} {x4 : Int} {x5 : Int} {a6 : Nat} {x7 : Int} {xs0 : Int} {u1 u8 u9 : Value} (hV6 : zVer a6) (hu8 : u8.category = 1) : Z e (d + 1) 34 132 [.ref 202, u1, .int (iI x2), .int (iI x3), .int (iI x4), .int (iI x5), .ref a6, .int (iI x7), u8, u9] [.int (iI xs0)] m = (if ¬ (wr xs0) = 0 then ck (0 ≤ (wr x7) ∧ (wr x7) < 10) (ri (m (a6 + 2) (wr x7)) m) else Z e (d + 1) 34 38 [.ref 202, u1, .int (iI x2), .int (iI x3), .int (iI x4), .int (iI (x5 + (-1))), .ref a6, .int (iI x7), u8, .int (iI xs0)] [] m) := (s_is_9 hu8 p_34_132).trans <| (s_il_9 p_34_134).trans <| Eq.trans ((s_z_eq_f p_34_136 rfl rfl)) <| ite_cg ((s_al_6 p_34_139).trans <| (s_getr p_34_141 (hV6).1 (by decide) rfl).trans <| (s_il_7 p_34_144).trans <| (s_ald 10 p_34_146 (hV6).2.2.1 rfl (zV_2 (hV6))).trans <| ck_cg fun k1 => (s_reti p_34_147 (zM_of zq_34))) ((s_inc_5 cat_i p_34_148).trans <| (s_goto p_34_151 rfl).trans <| rfl)
theorem b_34_18 {x1 : Int} {x2 : Int} {xs0 : Int} {u3 u4 u5 u6 u7 u8 u9 : Value} : Z e (d + 1) 34 18 [.ref 202, .int (iI x1), .int (iI x2), u3, u4, u5, u6, u7, u8, u9] [.int (iI xs0), .ref 202] m = (Z e d 23 0 [.ref 202, .int (iI xs0), .retAddr 0, .retAddr 0, .retAddr 0] [] m).bind (ZK e (d + 1) 34 21 [.ref 202, .int (iI x1), .int (iI x2), u3, u4, u5, u6, u7, u8, u9] [] m) := (s_cv1 (Lc := [.ref 202, .int (iI xs0), .retAddr 0, .retAddr 0, .retAddr 0]) p_34_18 (by decide) (by decide) (zM_of zq_23) ⟨Nat.le_of_ble_eq_true rfl, Nat.le_of_ble_eq_true rfl⟩ rfl (m_rc hs_202 ⟨rfl, by decide⟩))
theorem b_34_124 {x2 : Int} {x3 : Int} {x4 : Int} {x5 : Int} {a6 : Nat} {x7 : Int} {xs0 : Int} {u1 u8 u9 : Value} (hV6 : zVer a6) : Z e (d + 1) 34 124 [.ref 202, u1, .int (iI x2), .int (iI x3), .int (iI x4), .int (iI x5), .ref a6, .int (iI x7), u8, u9] [.int (iI xs0)] m = Z e (d + 1) 34 132 [.ref 202, u1, .int (iI x2), .int (iI x3), .int (iI x4), .int (iI x5), .ref a6, .int (iI x7), u8, u9] [.int (iI (if ¬ (wr xs0) = 0 then 1 else 0))] m := Eq.trans (Eq.trans ((s_z_eq_f p_34_124 rfl rfl)) <| Eq.trans (ite_cg ((s_const p_34_127).trans <| (s_goto p_34_128 rfl).trans <| rfl) ((s_const p_34_131).trans <| rfl)) (phi1 (fun z0 => Z e (d + 1) 34 132 [.ref 202, u1, .int (iI x2), .int (iI x3), .int (iI x4), .int (iI x5), .ref a6, .int (iI x7), u8, u9] [.int (iI z0)] m))) <| rfl
theorem b_34_21 {x1 : Int} {x2 : Int} {xs0 : Int} {u3 u4 u5 u6 u7 u8 u9 : Value} : Z e (d + 1) 34 21 [.ref 202, .int (iI x1), .int (iI x2), u3, u4, u5, u6, u7, u8, u9] [.int (iI xs0)] m = (Z e d 35 0 [.ref 202, .int (iI x1), .int (iI x2), .retAddr 0, .retAddr 0] [] m).bind (ZK e (d + 1) 34 28 [.ref 202, .int (iI x1), .int (iI x2), .int (iI xs0), u4, u5, u6, u7, u8, u9] [] m) := (s_is_3 cat_i p_34_21).trans <| (s_al_0 p_34_22).trans <| (s_il_1 p_34_23).trans <| (s_il_2 p_34_24).trans <| (s_cv2 (Lc := [.ref 202, .int (iI x1), .int (iI x2), .retAddr 0, .retAddr 0]) p_34_25 (by decide) (by decide) (zM_of zq_35) ⟨Nat.le_of_ble_eq_true rfl, Nat.le_of_ble_eq_true rfl⟩ rfl (m_rc hs_202 ⟨rfl, by decide⟩))
theorem b_34_28 {x2 : Int} {x3 : Int} {xs0 : Int} {u1 u4 u5 u6 u7 u8 u9 : Value} : Z e (d + 1) 34 28 [.ref 202, u1, .int (iI x2), .int (iI x3), u4, u5, u6, u7, u8, u9] [.int (iI xs0)] m = Z e (d + 1) 34 38 [.ref 202, u1, .int (iI x2), .int (iI x3), .int (iI xs0), .int (iI ((m 202 5) - 1)), u6, u7, u8, u9] [] m := (s_is_4 cat_i p_34_28).trans <| (s_al_0 p_34_30).trans <| (s_get p_34_31 hs_202 (by decide) rfl).trans <| (s_const p_34_34).trans <| (s_isub p_34_35).trans <| (s_is_5 cat_i p_34_36).trans <| rfl
-- Law.fineFor
theorem p_36_0 : zP1 36 0 = some (.aload_n 0, 0, 0, 0) := zp_l zq_36 rfl
theorem p_36_1 : zP1 36 1 = some (.iload_n 1, 0, 0, 0) := zp_l zq_36 rfl
theorem p_36_2 : zP1 36 2 = some (.aload_n 0, 0, 0, 0) := zp_l zq_36 rfl
theorem p_36_3 : zP1 36 3 = some (.getfield 29, 1, 0, 0) := zp_r zq_36 rfl
theorem p_36_6 : zP1 36 6 = some (.getfield 161, 9, 0, 0) := zp_r zq_36 rfl
theorem p_36_9 : zP1 36 9 = some (.invokevirtual 177, 34, 2, 1) := zp_r zq_36 rfl
theorem p_36_12 : zP1 36 12 = some (.istore_n 2, 0, 0, 0) := zp_l zq_36 rfl
theorem p_36_13 : zP1 36 13 = some (.iload_n 2, 0, 0, 0) := zp_l zq_36 rfl
theorem p_36_14 : zP1 36 14 = some (.iconst 1, 0, 0, 0) := zp_l zq_36 rfl
theorem p_36_15 : zP1 36 15 = some (.aload_n 0, 0, 0, 0) := zp_l zq_36 rfl
theorem p_36_16 : zP1 36 16 = some (.aload_n 0, 0, 0, 0) := zp_l zq_36 rfl
theorem p_36_17 : zP1 36 17 = some (.getfield 29, 1, 0, 0) := zp_r zq_36 rfl
theorem p_36_20 : zP1 36 20 = some (.getfield 158, 9, 5, 0) := zp_r zq_36 rfl
theorem p_36_23 : zP1 36 23 = some (.iload_n 1, 0, 0, 0) := zp_l zq_36 rfl
theorem p_36_24 : zP1 36 24 = some (.iconst 0, 0, 0, 0) := zp_l zq_36 rfl
theorem p_36_25 : zP1 36 25 = some (.invokevirtual 97, 104, 2, 7) := zp_r zq_36 rfl
theorem p_36_28 : zP1 36 28 = some (.invokevirtual 151, 23, 1, 1) := zp_r zq_36 rfl
theorem p_36_31 : zP1 36 31 = some (.invokestatic 112, 324, 2, 0) := zp_r zq_36 rfl
theorem p_36_34 : zP1 36 34 = some (.imul, 0, 0, 0) := zp_l zq_36 rfl
theorem p_36_35 : zP1 36 35 = some (.ireturn, 0, 0, 0) := zp_l zq_36 rfl
theorem b_36_0 {x1 : Int} : Z e (d + 1) 36 0 [.ref 202, .int (iI x1), .retAddr 0] [] m = (Z e d 34 0 [.ref 202, .int (iI x1), .int (iI (m 1 0)), .retAddr 0, .retAddr 0, .retAddr 0, .retAddr 0, .retAddr 0, .retAddr 0, .retAddr 0] [] m).bind (ZK e (d + 1) 36 12 [.ref 202, .int (iI x1), .retAddr 0] [] m) := (s_al_0 p_36_0).trans <| (s_il_1 p_36_1).trans <| (s_al_0 p_36_2).trans <| (s_getr p_36_3 hs_202 (by decide) rfl).trans <| (s_get p_36_6 hs_1 (by decide) rfl).trans <| (s_cv2 (Lc := [.ref 202, .int (iI x1), .int (iI (m 1 0)), .retAddr 0, .retAddr 0, .retAddr 0, .retAddr 0, .retAddr 0, .retAddr 0, .retAddr 0]) p_36_9 (by decide) (by decide) (zM_of zq_34) ⟨Nat.le_of_ble_eq_true rfl, Nat.le_of_ble_eq_true rfl⟩ rfl (m_rc hs_202 ⟨rfl, by decide⟩))
theorem b_36_12 {x1 : Int} {xs0 : Int} {u2 : Value} : Z e (d + 1) 36 12 [.ref 202, .int (iI x1), u2] [.int (iI xs0)] m = (Z e d 104 0 [.ref 4, .int (iI x1), .int (iI 0)] [] m).bind (ZK e (d + 1) 36 28 [.ref 202, .int (iI x1), .int (iI xs0)] [.ref 202, .int (iI 1), .int (iI xs0)] m) := (s_is_2 cat_i p_36_12).trans <| (s_il_2 p_36_13).trans <| (s_const p_36_14).trans <| (s_al_0 p_36_15).trans <| (s_al_0 p_36_16).trans <| (s_getr p_36_17 hs_202 (by decide) rfl).trans <| (s_getr p_36_20 hs_1 (by decide) rfl).trans <| (s_il_1 p_36_23).trans <| (s_const p_36_24).trans <| (s_cv2 (Lc := [.ref 4, .int (iI x1), .int (iI 0)]) p_36_25 (by decide) (by decide) (zM_of zq_104) ⟨Nat.le_of_ble_eq_true rfl, Nat.le_of_ble_eq_true rfl⟩ rfl (m_rc hs_4 ⟨rfl, by decide⟩))
theorem b_36_28 {xs0 : Int} {xs2 : Int} {xs3 : Int} {u0 u1 u2 : Value} : Z e (d + 1) 36 28 [u0, u1, u2] [.int (iI xs0), .ref 202, .int (iI xs2), .int (iI xs3)] m = (Z e d 23 0 [.ref 202, .int (iI xs0), .retAddr 0, .retAddr 0, .retAddr 0] [] m).bind (ZK e (d + 1) 36 31 [u0, u1, u2] [.int (iI xs2), .int (iI xs3)] m) := (s_cv1 (Lc := [.ref 202, .int (iI xs0), .retAddr 0, .retAddr 0, .retAddr 0]) p_36_28 (by decide) (by decide) (zM_of zq_23) ⟨Nat.le_of_ble_eq_true rfl, Nat.le_of_ble_eq_true rfl⟩ rfl (m_rc hs_202 ⟨rfl, by decide⟩))
theorem b_36_31 {xs0 : Int} {xs1 : Int} {xs2 : Int} {u0 u1 u2 : Value} : Z e (d + 1) 36 31 [u0, u1, u2] [.int (iI xs0), .int (iI xs1), .int (iI xs2)] m = ri (xs2 * (if (wr xs0) ≤ (wr xs1) then xs1 else xs0)) m := (s_cs2 (Lc := [.int (iI xs1), .int (iI xs0)]) p_36_31 (by decide) (zM_of zq_324) ⟨Nat.le_of_ble_eq_true rfl, Nat.le_of_ble_eq_true rfl⟩ rfl).trans <| (bd b_324_0).trans <| ri_k.trans <| (s_imul p_36_34).trans <| (s_reti p_36_35 (zM_of zq_36))
-- Law.wasLawful
theorem p_37_0 : zP1 37 0 = some (.aload_n 0, 0, 0, 0) := zp_l zq_37 rfl
theorem p_37_1 : zP1 37 1 = some (.getfield 29, 1, 0, 0) := zp_r zq_37 rfl
theorem p_37_4 : zP1 37 4 = some (.getfield 180, 9, 9, 0) := zp_r zq_37 rfl
theorem p_37_7 : zP1 37 7 = some (.iload_n 1, 0, 0, 0) := zp_l zq_37 rfl
theorem p_37_8 : zP1 37 8 = some (.bipush 6, 0, 0, 0) := zp_l zq_37 rfl
theorem p_37_10 : zP1 37 10 = some (.invokevirtual 97, 104, 2, 7) := zp_r zq_37 rfl
theorem p_37_13 : zP1 37 13 = some (.iconst 1, 0, 0, 0) := zp_l zq_37 rfl
theorem p_37_14 : zP1 37 14 = some (.if_icmp .ne 5, 0, 0, 0) := zp_l zq_37 rfl
theorem p_37_17 : zP1 37 17 = some (.iconst 0, 0, 0, 0) := zp_l zq_37 rfl
theorem p_37_18 : zP1 37 18 = some (.ireturn, 0, 0, 0) := zp_l zq_37 rfl
theorem p_37_19 : zP1 37 19 = some (.aload_n 0, 0, 0, 0) := zp_l zq_37 rfl
theorem p_37_20 : zP1 37 20 = some (.getfield 29, 1, 0, 0) := zp_r zq_37 rfl
theorem p_37_23 : zP1 37 23 = some (.getfield 180, 9, 9, 0) := zp_r zq_37 rfl
theorem p_37_26 : zP1 37 26 = some (.iload_n 1, 0, 0, 0) := zp_l zq_37 rfl
theorem p_37_27 : zP1 37 27 = some (.iconst 1, 0, 0, 0) := zp_l zq_37 rfl
theorem p_37_28 : zP1 37 28 = some (.invokevirtual 97, 104, 2, 7) := zp_r zq_37 rfl
theorem p_37_31 : zP1 37 31 = some (.istore_n 2, 0, 0, 0) := zp_l zq_37 rfl
theorem p_37_32 : zP1 37 32 = some (.aload_n 0, 0, 0, 0) := zp_l zq_37 rfl
theorem p_37_33 : zP1 37 33 = some (.getfield 29, 1, 0, 0) := zp_r zq_37 rfl
theorem p_37_36 : zP1 37 36 = some (.getfield 180, 9, 9, 0) := zp_r zq_37 rfl
theorem p_37_39 : zP1 37 39 = some (.iload_n 1, 0, 0, 0) := zp_l zq_37 rfl
theorem p_37_40 : zP1 37 40 = some (.iconst 3, 0, 0, 0) := zp_l zq_37 rfl
theorem p_37_41 : zP1 37 41 = some (.invokevirtual 97, 104, 2, 7) := zp_r zq_37 rfl
theorem p_37_44 : zP1 37 44 = some (.istore_n 3, 0, 0, 0) := zp_l zq_37 rfl
theorem p_37_45 : zP1 37 45 = some (.aload_n 0, 0, 0, 0) := zp_l zq_37 rfl
theorem p_37_46 : zP1 37 46 = some (.iload_n 2, 0, 0, 0) := zp_l zq_37 rfl
theorem p_37_47 : zP1 37 47 = some (.iload_n 3, 0, 0, 0) := zp_l zq_37 rfl
theorem p_37_48 : zP1 37 48 = some (.aload_n 0, 0, 0, 0) := zp_l zq_37 rfl
theorem p_37_49 : zP1 37 49 = some (.getfield 29, 1, 0, 0) := zp_r zq_37 rfl
theorem p_37_52 : zP1 37 52 = some (.getfield 180, 9, 9, 0) := zp_r zq_37 rfl
theorem p_37_55 : zP1 37 55 = some (.iload_n 1, 0, 0, 0) := zp_l zq_37 rfl
theorem p_37_56 : zP1 37 56 = some (.iconst 2, 0, 0, 0) := zp_l zq_37 rfl
theorem p_37_57 : zP1 37 57 = some (.invokevirtual 97, 104, 2, 7) := zp_r zq_37 rfl
theorem p_37_60 : zP1 37 60 = some (.sipush 9999, 0, 0, 0) := zp_l zq_37 rfl
theorem p_37_63 : zP1 37 63 = some (.invokevirtual 164, 30, 4, 1) := zp_r zq_37 rfl
theorem p_37_66 : zP1 37 66 = some (.bipush (-3), 0, 0, 0) := zp_l zq_37 rfl
theorem p_37_68 : zP1 37 68 = some (.if_icmp .eq 7, 0, 0, 0) := zp_l zq_37 rfl
theorem p_37_71 : zP1 37 71 = some (.iconst 1, 0, 0, 0) := zp_l zq_37 rfl
theorem p_37_72 : zP1 37 72 = some (.goto 4, 0, 0, 0) := zp_l zq_37 rfl
theorem p_37_75 : zP1 37 75 = some (.iconst 0, 0, 0, 0) := zp_l zq_37 rfl
theorem p_37_76 : zP1 37 76 = some (.ireturn, 0, 0, 0) := zp_l zq_37 rfl
theorem b_37_0 {x1 : Int} : Z e (d + 1) 37 0 [.ref 202, .int (iI x1), .retAddr 0, .retAddr 0] [] m = (Z e d 104 0 [.ref 12, .int (iI x1), .int (iI 6)] [] m).bind (ZK e (d + 1) 37 13 [.ref 202, .int (iI x1), .retAddr 0, .retAddr 0] [] m) := (s_al_0 p_37_0).trans <| (s_getr p_37_1 hs_202 (by decide) rfl).trans <| (s_getr p_37_4 hs_1 (by decide) rfl).trans <| (s_il_1 p_37_7).trans <| (s_bip p_37_8 rfl).trans <| (s_cv2 (Lc := [.ref 12, .int (iI x1), .int (iI 6)]) p_37_10 (by decide) (by decide) (zM_of zq_104) ⟨Nat.le_of_ble_eq_true rfl, Nat.le_of_ble_eq_true rfl⟩ rfl (m_rc hs_12 ⟨rfl, by decide⟩))
theorem b_37_13 {x1 : Int} {xs0 : Int} {u2 u3 : Value} : Z e (d + 1) 37 13 [.ref 202, .int (iI x1), u2, u3] [.int (iI xs0)] m = (if (wr xs0) = 1 then ri 0 m else (Z e d 104 0 [.ref 12, .int (iI x1), .int (iI 1)] [] m).bind (ZK e (d + 1) 37 31 [.ref 202, .int (iI x1), u2, u3] [] m)) := (s_const p_37_13).trans <| Eq.trans ((s_c_ne_f p_37_14 rfl rfl wl_1)) <| ite_cg ((s_const p_37_17).trans <| (s_retk rfl p_37_18 (zM_of zq_37))) ((s_al_0 p_37_19).trans <| (s_getr p_37_20 hs_202 (by decide) rfl).trans <| (s_getr p_37_23 hs_1 (by decide) rfl).trans <| (s_il_1 p_37_26).trans <| (s_const p_37_27).trans <| (s_cv2 (Lc := [.ref 12, .int (iI x1), .int (iI 1)]) p_37_28 (by decide) (by decide) (zM_of zq_104) ⟨Nat.le_of_ble_eq_true rfl, Nat.le_of_ble_eq_true rfl⟩ rfl (m_rc hs_12 ⟨rfl, by decide⟩)))
theorem b_37_31 {x1 : Int} {xs0 : Int} {u2 u3 : Value} : Z e (d + 1) 37 31 [.ref 202, .int (iI x1), u2, u3] [.int (iI xs0)] m = (Z e d 104 0 [.ref 12, .int (iI x1), .int (iI 3)] [] m).bind (ZK e (d + 1) 37 44 [.ref 202, .int (iI x1), .int (iI xs0), u3] [] m) := (s_is_2 cat_i p_37_31).trans <| (s_al_0 p_37_32).trans <| (s_getr p_37_33 hs_202 (by decide) rfl).trans <| (s_getr p_37_36 hs_1 (by decide) rfl).trans <| (s_il_1 p_37_39).trans <| (s_const p_37_40).trans <| (s_cv2 (Lc := [.ref 12, .int (iI x1), .int (iI 3)]) p_37_41 (by decide) (by decide) (zM_of zq_104) ⟨Nat.le_of_ble_eq_true rfl, Nat.le_of_ble_eq_true rfl⟩ rfl (m_rc hs_12 ⟨rfl, by decide⟩))
theorem b_37_44 {x1 : Int} {x2 : Int} {xs0 : Int} {u3 : Value} : Z e (d + 1) 37 44 [.ref 202, .int (iI x1), .int (iI x2), u3] [.int (iI xs0)] m = (Z e d 104 0 [.ref 12, .int (iI x1), .int (iI 2)] [] m).bind (ZK e (d + 1) 37 60 [.ref 202, .int (iI x1), .int (iI x2), .int (iI xs0)] [.int (iI xs0), .int (iI x2), .ref 202] m) := (s_is_3 cat_i p_37_44).trans <| (s_al_0 p_37_45).trans <| (s_il_2 p_37_46).trans <| (s_il_3 p_37_47).trans <| (s_al_0 p_37_48).trans <| (s_getr p_37_49 hs_202 (by decide) rfl).trans <| (s_getr p_37_52 hs_1 (by decide) rfl).trans <| (s_il_1 p_37_55).trans <| (s_const p_37_56).trans <| (s_cv2 (Lc := [.ref 12, .int (iI x1), .int (iI 2)]) p_37_57 (by decide) (by decide) (zM_of zq_104) ⟨Nat.le_of_ble_eq_true rfl, Nat.le_of_ble_eq_true rfl⟩ rfl (m_rc hs_12 ⟨rfl, by decide⟩))
theorem b_37_60 {xs0 : Int} {xs1 : Int} {xs2 : Int} {u0 u1 u2 u3 : Value} : Z e (d + 1) 37 60 [u0, u1, u2, u3] [.int (iI xs0), .int (iI xs1), .int (iI xs2), .ref 202] m = (Z e d 30 0 [.ref 202, .int (iI xs2), .int (iI xs1), .int (iI xs0), .int (iI 9999), .retAddr 0, .retAddr 0] [] m).bind (ZK e (d + 1) 37 66 [u0, u1, u2, u3] [] m) := (s_sip p_37_60 rfl).trans <| (s_cv4 (Lc := [.ref 202, .int (iI xs2), .int (iI xs1), .int (iI xs0), .int (iI 9999), .retAddr 0, .retAddr 0]) p_37_63 (by decide) (by decide) (zM_of zq_30) ⟨Nat.le_of_ble_eq_true rfl, Nat.le_of_ble_eq_true rfl⟩ rfl (m_rc hs_202 ⟨rfl, by decide⟩))
theorem b_37_66 {xs0 : Int} {u0 u1 u2 u3 : Value} : Z e (d + 1) 37 66 [u0, u1, u2, u3] [.int (iI xs0)] m = ri (if ¬ (wr xs0) = (-3) then 1 else 0) m := (s_bip p_37_66 rfl).trans <| Eq.trans (Eq.trans ((s_c_eq_f p_37_68 rfl rfl wl_m3)) <| Eq.trans (ite_cg ((s_const p_37_71).trans <| (s_goto p_37_72 rfl).trans <| rfl) ((s_const p_37_75).trans <| rfl)) (phi1 (fun z0 => Z e (d + 1) 37 76 [u0, u1, u2, u3] [.int (iI z0)] m))) <| (s_retb p_37_76 (zM_of zq_37))
-- Law.safeUnder
theorem p_39_0 : zP1 39 0 = some (.aload_n 0, 0, 0, 0) := zp_l zq_39 rfl
theorem p_39_1 : zP1 39 1 = some (.iload_n 1, 0, 0, 0) := zp_l zq_39 rfl
theorem p_39_2 : zP1 39 2 = some (.putfield 15, 1, 3, 0) := zp_r zq_39 rfl
theorem p_39_5 : zP1 39 5 = some (.aload_n 0, 0, 0, 0) := zp_l zq_39 rfl
theorem p_39_6 : zP1 39 6 = some (.invokevirtual 42, 24, 0, 1) := zp_r zq_39 rfl
theorem p_39_9 : zP1 39 9 = some (.aload_n 0, 0, 0, 0) := zp_l zq_39 rfl
theorem p_39_10 : zP1 39 10 = some (.aload_n 0, 0, 0, 0) := zp_l zq_39 rfl
theorem p_39_11 : zP1 39 11 = some (.getfield 29, 1, 0, 0) := zp_r zq_39 rfl
theorem p_39_14 : zP1 39 14 = some (.getfield 161, 9, 0, 0) := zp_r zq_39 rfl
theorem p_39_17 : zP1 39 17 = some (.invokevirtual 45, 20, 1, 1) := zp_r zq_39 rfl
theorem p_39_20 : zP1 39 20 = some (.aload_n 0, 0, 0, 0) := zp_l zq_39 rfl
theorem p_39_21 : zP1 39 21 = some (.invokevirtual 167, 33, 0, 1) := zp_r zq_39 rfl
theorem p_39_24 : zP1 39 24 = some (.ireturn, 0, 0, 0) := zp_l zq_39 rfl
theorem b_39_0 {x1 : Int} : Z e (d + 1) 39 0 [.ref 202, .int (iI x1)] [] m = (Z e d 24 0 [.ref 202, .retAddr 0, .retAddr 0, .retAddr 0, .retAddr 0, .retAddr 0] [] (um m 202 3 x1)).bind (ZK e (d + 1) 39 9 [.ref 202, .int (iI x1)] [] (um m 202 3 x1)) := (s_al_0 p_39_0).trans <| (s_il_1 p_39_1).trans <| (s_put p_39_2 hs_202 (by decide) rfl).trans <| (s_al_0 p_39_5).trans <| (s_cv0 (Lc := [.ref 202, .retAddr 0, .retAddr 0, .retAddr 0, .retAddr 0, .retAddr 0]) p_39_6 (by decide) (by decide) (zM_of zq_24) ⟨Nat.le_of_ble_eq_true rfl, Nat.le_of_ble_eq_true rfl⟩ rfl (m_rc hs_202 ⟨rfl, by decide⟩))
theorem b_39_9 {u1 : Value} : Z e (d + 1) 39 9 [.ref 202, u1] [] m = (Z e d 20 0 [.ref 202, .int (iI (m 1 0)), .retAddr 0, .retAddr 0, .retAddr 0] [] m).bind (ZK e (d + 1) 39 20 [.ref 202, u1] [] m) := (s_al_0 p_39_9).trans <| (s_al_0 p_39_10).trans <| (s_getr p_39_11 hs_202 (by decide) rfl).trans <| (s_get p_39_14 hs_1 (by decide) rfl).trans <| (s_cv1 (Lc := [.ref 202, .int (iI (m 1 0)), .retAddr 0, .retAddr 0, .retAddr 0]) p_39_17 (by decide) (by decide) (zM_of zq_20) ⟨Nat.le_of_ble_eq_true rfl, Nat.le_of_ble_eq_true rfl⟩ rfl (m_rc hs_202 ⟨rfl, by decide⟩))
theorem b_39_20 {u1 : Value} : Z e (d + 1) 39 20 [.ref 202, u1] [] m = (Z e d 33 0 [.ref 202, .retAddr 0, .retAddr 0, .retAddr 0, .retAddr 0] [] m).bind (ZK e (d + 1) 39 24 [.ref 202, u1] [] m) := (s_al_0 p_39_20).trans <| (s_cv0 (Lc := [.ref 202, .retAddr 0, .retAddr 0, .retAddr 0, .retAddr 0]) p_39_21 (by decide) (by decide) (zM_of zq_33) ⟨Nat.le_of_ble_eq_true rfl, Nat.le_of_ble_eq_true rfl⟩ rfl (m_rc hs_202 ⟨rfl, by decide⟩))
theorem b_39_24 {xs0 : Int} {u0 u1 : Value} : Z e (d + 1) 39 24 [u0, u1] [.int (iI xs0)] m = ri xs0 m := (s_reti p_39_24 (zM_of zq_39))
-- Law.safeUnderFirstAlone
theorem p_38_0 : zP1 38 0 = some (.aload_n 0, 0, 0, 0) := zp_l zq_38 rfl
theorem p_38_1 : zP1 38 1 = some (.aload_n 0, 0, 0, 0) := zp_l zq_38 rfl
theorem p_38_2 : zP1 38 2 = some (.getfield 29, 1, 0, 0) := zp_r zq_38 rfl
theorem p_38_5 : zP1 38 5 = some (.getfield 161, 9, 0, 0) := zp_r zq_38 rfl
theorem p_38_8 : zP1 38 8 = some (.invokevirtual 148, 19, 1, 1) := zp_r zq_38 rfl
theorem p_38_11 : zP1 38 11 = some (.aload_n 0, 0, 0, 0) := zp_l zq_38 rfl
theorem p_38_12 : zP1 38 12 = some (.iload_n 1, 0, 0, 0) := zp_l zq_38 rfl
theorem p_38_13 : zP1 38 13 = some (.invokevirtual 183, 39, 1, 1) := zp_r zq_38 rfl
theorem p_38_16 : zP1 38 16 = some (.aload_n 0, 0, 0, 0) := zp_l zq_38 rfl
theorem p_38_17 : zP1 38 17 = some (.iload_n 2, 0, 0, 0) := zp_l zq_38 rfl
theorem p_38_18 : zP1 38 18 = some (.invokevirtual 183, 39, 1, 1) := zp_r zq_38 rfl
theorem p_38_21 : zP1 38 21 = some (.iconst (-1), 0, 0, 0) := zp_l zq_38 rfl
theorem p_38_22 : zP1 38 22 = some (.ixor, 0, 0, 0) := zp_l zq_38 rfl
theorem p_38_23 : zP1 38 23 = some (.iand, 0, 0, 0) := zp_l zq_38 rfl
theorem p_38_24 : zP1 38 24 = some (.istore_n 3, 0, 0, 0) := zp_l zq_38 rfl
theorem p_38_25 : zP1 38 25 = some (.aload_n 0, 0, 0, 0) := zp_l zq_38 rfl
theorem p_38_26 : zP1 38 26 = some (.bipush (-3), 0, 0, 0) := zp_l zq_38 rfl
theorem p_38_28 : zP1 38 28 = some (.putfield 15, 1, 3, 0) := zp_r zq_38 rfl
theorem p_38_31 : zP1 38 31 = some (.aload_n 0, 0, 0, 0) := zp_l zq_38 rfl
theorem p_38_32 : zP1 38 32 = some (.invokevirtual 42, 24, 0, 1) := zp_r zq_38 rfl
theorem p_38_35 : zP1 38 35 = some (.iload_n 3, 0, 0, 0) := zp_l zq_38 rfl
theorem p_38_36 : zP1 38 36 = some (.ireturn, 0, 0, 0) := zp_l zq_38 rfl
theorem b_38_0 {x1 : Int} {x2 : Int} : Z e (d + 1) 38 0 [.ref 202, .int (iI x1), .int (iI x2), .retAddr 0] [] m = (Z e d 19 0 [.ref 202, .int (iI (m 1 0))] [] m).bind (ZK e (d + 1) 38 11 [.ref 202, .int (iI x1), .int (iI x2), .retAddr 0] [] m) := (s_al_0 p_38_0).trans <| (s_al_0 p_38_1).trans <| (s_getr p_38_2 hs_202 (by decide) rfl).trans <| (s_get p_38_5 hs_1 (by decide) rfl).trans <| (s_cv1 (Lc := [.ref 202, .int (iI (m 1 0))]) p_38_8 (by decide) (by decide) (zM_of zq_19) ⟨Nat.le_of_ble_eq_true rfl, Nat.le_of_ble_eq_true rfl⟩ rfl (m_rc hs_202 ⟨rfl, by decide⟩))
theorem b_38_11 {x1 : Int} {x2 : Int} {u3 : Value} : Z e (d + 1) 38 11 [.ref 202, .int (iI x1), .int (iI x2), u3] [] m = (Z e d 39 0 [.ref 202, .int (iI x1)] [] m).bind (ZK e (d + 1) 38 16 [.ref 202, .int (iI x1), .int (iI x2), u3] [] m) := (s_al_0 p_38_11).trans <| (s_il_1 p_38_12).trans <| (s_cv1 (Lc := [.ref 202, .int (iI x1)]) p_38_13 (by decide) (by decide) (zM_of zq_39) ⟨Nat.le_of_ble_eq_true rfl, Nat.le_of_ble_eq_true rfl⟩ rfl (m_rc hs_202 ⟨rfl, by decide⟩))
theorem b_38_16 {x2 : Int} {xs0 : Int} {u1 u3 : Value} : Z e (d + 1) 38 16 [.ref 202, u1, .int (iI x2), u3] [.int (iI xs0)] m = (Z e d 39 0 [.ref 202, .int (iI x2)] [] m).bind (ZK e (d + 1) 38 21 [.ref 202, u1, .int (iI x2), u3] [.int (iI xs0)] m) := (s_al_0 p_38_16).trans <| (s_il_2 p_38_17).trans <| (s_cv1 (Lc := [.ref 202, .int (iI x2)]) p_38_18 (by decide) (by decide) (zM_of zq_39) ⟨Nat.le_of_ble_eq_true rfl, Nat.le_of_ble_eq_true rfl⟩ rfl (m_rc hs_202 ⟨rfl, by decide⟩))
theorem b_38_21 {xs0 : Int} {xs1 : Int} {u1 u2 u3 : Value} (hu2 : u2.category = 1) : Z e (d + 1) 38 21 [.ref 202, u1, u2, u3] [.int (iI xs0), .int (iI xs1)] m = (Z e d 24 0 [.ref 202, .retAddr 0, .retAddr 0, .retAddr 0, .retAddr 0, .retAddr 0] [] (um m 202 3 (-3))).bind (ZK e (d + 1) 38 35 [.ref 202, u1, u2, .int (iI (jand xs1 (jxor xs0 (-1))))] [] (um m 202 3 (-3))) := (s_const p_38_21).trans <| (s_ixor p_38_22).trans <| (s_iand p_38_23).trans <| (s_is_3 hu2 p_38_24).trans <| (s_al_0 p_38_25).trans <| (s_bip p_38_26 rfl).trans <| (s_put p_38_28 hs_202 (by decide) rfl).trans <| (s_al_0 p_38_31).trans <| (s_cv0 (Lc := [.ref 202, .retAddr 0, .retAddr 0, .retAddr 0, .retAddr 0, .retAddr 0]) p_38_32 (by decide) (by decide) (zM_of zq_24) ⟨Nat.le_of_ble_eq_true rfl, Nat.le_of_ble_eq_true rfl⟩ rfl (m_rc hs_202 ⟨rfl, by decide⟩))
theorem b_38_35 {x3 : Int} {u0 u1 u2 : Value} : Z e (d + 1) 38 35 [u0, u1, u2, .int (iI x3)] [] m = ri x3 m := (s_il_3 p_38_35).trans <| (s_reti p_38_36 (zM_of zq_38))
-- Integer.bitCount
theorem p_321_0 : zP1 321 0 = some (.iload_n 0, 0, 0, 0) := zp_l zq_321 rfl
theorem p_321_1 : zP1 321 1 = some (.iload_n 0, 0, 0, 0) := zp_l zq_321 rfl
theorem p_321_2 : zP1 321 2 = some (.iconst 1, 0, 0, 0) := zp_l zq_321 rfl
theorem p_321_3 : zP1 321 3 = some (.iushr, 0, 0, 0) := zp_l zq_321 rfl
theorem p_321_4 : zP1 321 4 = some (.ldc_w 265, 0, 0, 1431655765) := zp_r zq_321 rfl
theorem p_321_7 : zP1 321 7 = some (.iand, 0, 0, 0) := zp_l zq_321 rfl
theorem p_321_8 : zP1 321 8 = some (.isub, 0, 0, 0) := zp_l zq_321 rfl
theorem p_321_9 : zP1 321 9 = some (.istore_n 0, 0, 0, 0) := zp_l zq_321 rfl
theorem p_321_10 : zP1 321 10 = some (.iload_n 0, 0, 0, 0) := zp_l zq_321 rfl
theorem p_321_11 : zP1 321 11 = some (.ldc_w 266, 0, 0, 858993459) := zp_r zq_321 rfl
theorem p_321_14 : zP1 321 14 = some (.iand, 0, 0, 0) := zp_l zq_321 rfl
theorem p_321_15 : zP1 321 15 = some (.iload_n 0, 0, 0, 0) := zp_l zq_321 rfl
theorem p_321_16 : zP1 321 16 = some (.iconst 2, 0, 0, 0) := zp_l zq_321 rfl
theorem p_321_17 : zP1 321 17 = some (.iushr, 0, 0, 0) := zp_l zq_321 rfl
theorem p_321_18 : zP1 321 18 = some (.ldc_w 266, 0, 0, 858993459) := zp_r zq_321 rfl
theorem p_321_21 : zP1 321 21 = some (.iand, 0, 0, 0) := zp_l zq_321 rfl
theorem p_321_22 : zP1 321 22 = some (.iadd, 0, 0, 0) := zp_l zq_321 rfl
theorem p_321_23 : zP1 321 23 = some (.istore_n 0, 0, 0, 0) := zp_l zq_321 rfl
theorem p_321_24 : zP1 321 24 = some (.iload_n 0, 0, 0, 0) := zp_l zq_321 rfl
theorem p_321_25 : zP1 321 25 = some (.iload_n 0, 0, 0, 0) := zp_l zq_321 rfl
theorem p_321_26 : zP1 321 26 = some (.iconst 4, 0, 0, 0) := zp_l zq_321 rfl
theorem p_321_27 : zP1 321 27 = some (.iushr, 0, 0, 0) := zp_l zq_321 rfl
theorem p_321_28 : zP1 321 28 = some (.iadd, 0, 0, 0) := zp_l zq_321 rfl
theorem p_321_29 : zP1 321 29 = some (.ldc_w 267, 0, 0, 252645135) := zp_r zq_321 rfl
theorem p_321_32 : zP1 321 32 = some (.iand, 0, 0, 0) := zp_l zq_321 rfl
theorem p_321_33 : zP1 321 33 = some (.istore_n 0, 0, 0, 0) := zp_l zq_321 rfl
theorem p_321_34 : zP1 321 34 = some (.iload_n 0, 0, 0, 0) := zp_l zq_321 rfl
theorem p_321_35 : zP1 321 35 = some (.iload_n 0, 0, 0, 0) := zp_l zq_321 rfl
theorem p_321_36 : zP1 321 36 = some (.bipush 8, 0, 0, 0) := zp_l zq_321 rfl
theorem p_321_38 : zP1 321 38 = some (.iushr, 0, 0, 0) := zp_l zq_321 rfl
theorem p_321_39 : zP1 321 39 = some (.iadd, 0, 0, 0) := zp_l zq_321 rfl
theorem p_321_40 : zP1 321 40 = some (.istore_n 0, 0, 0, 0) := zp_l zq_321 rfl
theorem p_321_41 : zP1 321 41 = some (.iload_n 0, 0, 0, 0) := zp_l zq_321 rfl
theorem p_321_42 : zP1 321 42 = some (.iload_n 0, 0, 0, 0) := zp_l zq_321 rfl
theorem p_321_43 : zP1 321 43 = some (.bipush 16, 0, 0, 0) := zp_l zq_321 rfl
theorem p_321_45 : zP1 321 45 = some (.iushr, 0, 0, 0) := zp_l zq_321 rfl
theorem p_321_46 : zP1 321 46 = some (.iadd, 0, 0, 0) := zp_l zq_321 rfl
theorem p_321_47 : zP1 321 47 = some (.istore_n 0, 0, 0, 0) := zp_l zq_321 rfl
theorem p_321_48 : zP1 321 48 = some (.iload_n 0, 0, 0, 0) := zp_l zq_321 rfl
theorem p_321_49 : zP1 321 49 = some (.bipush 63, 0, 0, 0) := zp_l zq_321 rfl
theorem p_321_51 : zP1 321 51 = some (.iand, 0, 0, 0) := zp_l zq_321 rfl
theorem p_321_52 : zP1 321 52 = some (.ireturn, 0, 0, 0) := zp_l zq_321 rfl
theorem b_321_0 {x0 : Int} : Z e d 321 0 [.int (iI x0)] [] m = ri (jand (((jand (((jand (x0 - (jand (jush x0 1) 1431655765)) 858993459) + (jand (jush (x0 - (jand (jush x0 1) 1431655765)) 2) 858993459)) + (jush ((jand (x0 - (jand (jush x0 1) 1431655765)) 858993459) + (jand (jush (x0 - (jand (jush x0 1) 1431655765)) 2) 858993459)) 4)) 252645135) + (jush (jand (((jand (x0 - (jand (jush x0 1) 1431655765)) 858993459) + (jand (jush (x0 - (jand (jush x0 1) 1431655765)) 2) 858993459)) + (jush ((jand (x0 - (jand (jush x0 1) 1431655765)) 858993459) + (jand (jush (x0 - (jand (jush x0 1) 1431655765)) 2) 858993459)) 4)) 252645135) 8)) + (jush ((jand (((jand (x0 - (jand (jush x0 1) 1431655765)) 858993459) + (jand (jush (x0 - (jand (jush x0 1) 1431655765)) 2) 858993459)) + (jush ((jand (x0 - (jand (jush x0 1) 1431655765)) 858993459) + (jand (jush (x0 - (jand (jush x0 1) 1431655765)) 2) 858993459)) 4)) 252645135) + (jush (jand (((jand (x0 - (jand (jush x0 1) 1431655765)) 858993459) + (jand (jush (x0 - (jand (jush x0 1) 1431655765)) 2) 858993459)) + (jush ((jand (x0 - (jand (jush x0 1) 1431655765)) 858993459) + (jand (jush (x0 - (jand (jush x0 1) 1431655765)) 2) 858993459)) 4)) 252645135) 8)) 16)) 63) m := (s_il_0 p_321_0).trans <| (s_il_0 p_321_1).trans <| (s_const p_321_2).trans <| (s_iushr p_321_3).trans <| (s_ldcw p_321_4).trans <| (s_iand p_321_7).trans <| (s_isub p_321_8).trans <| (s_is_0 p_321_9).trans <| (s_il_0 p_321_10).trans <| (s_ldcw p_321_11).trans <| (s_iand p_321_14).trans <| (s_il_0 p_321_15).trans <| (s_const p_321_16).trans <| (s_iushr p_321_17).trans <| (s_ldcw p_321_18).trans <| (s_iand p_321_21).trans <| (s_iadd p_321_22).trans <| (s_is_0 p_321_23).trans <| (s_il_0 p_321_24).trans <| (s_il_0 p_321_25).trans <| (s_const p_321_26).trans <| (s_iushr p_321_27).trans <| (s_iadd p_321_28).trans <| (s_ldcw p_321_29).trans <| (s_iand p_321_32).trans <| (s_is_0 p_321_33).trans <| (s_il_0 p_321_34).trans <| (s_il_0 p_321_35).trans <| (s_bip p_321_36 rfl).trans <| (s_iushr p_321_38).trans <| (s_iadd p_321_39).trans <| (s_is_0 p_321_40).trans <| (s_il_0 p_321_41).trans <| (s_il_0 p_321_42).trans <| (s_bip p_321_43 rfl).trans <| (s_iushr p_321_45).trans <| (s_iadd p_321_46).trans <| (s_is_0 p_321_47).trans <| (s_il_0 p_321_48).trans <| (s_bip p_321_49 rfl).trans <| (s_iand p_321_51).trans <| (s_reti p_321_52 (zM_of zq_321))
-- World.isIn
theorem p_127_0 : zP1 127 0 = some (.aload_n 0, 0, 0, 0) := zp_l zq_127 rfl
theorem p_127_1 : zP1 127 1 = some (.getfield 26, 9, 5, 0) := zp_r zq_127 rfl
theorem p_127_4 : zP1 127 4 = some (.iload_n 1, 0, 0, 0) := zp_l zq_127 rfl
theorem p_127_5 : zP1 127 5 = some (.iconst 2, 0, 0, 0) := zp_l zq_127 rfl
theorem p_127_6 : zP1 127 6 = some (.invokevirtual 90, 104, 2, 7) := zp_r zq_127 rfl
theorem p_127_9 : zP1 127 9 = some (.iload_n 2, 0, 0, 0) := zp_l zq_127 rfl
theorem p_127_10 : zP1 127 10 = some (.if_icmp .ne 7, 0, 0, 0) := zp_l zq_127 rfl
theorem p_127_13 : zP1 127 13 = some (.iconst 1, 0, 0, 0) := zp_l zq_127 rfl
theorem p_127_14 : zP1 127 14 = some (.goto 4, 0, 0, 0) := zp_l zq_127 rfl
theorem p_127_17 : zP1 127 17 = some (.iconst 0, 0, 0, 0) := zp_l zq_127 rfl
theorem p_127_18 : zP1 127 18 = some (.ireturn, 0, 0, 0) := zp_l zq_127 rfl
theorem b_127_0 {x1 : Int} {x2 : Int} : Z e (d + 1) 127 0 [.ref 1, .int (iI x1), .int (iI x2)] [] m = (Z e d 104 0 [.ref 4, .int (iI x1), .int (iI 2)] [] m).bind (ZK e (d + 1) 127 9 [.ref 1, .int (iI x1), .int (iI x2)] [] m) := (s_al_0 p_127_0).trans <| (s_getr p_127_1 hs_1 (by decide) rfl).trans <| (s_il_1 p_127_4).trans <| (s_const p_127_5).trans <| (s_cv2 (Lc := [.ref 4, .int (iI x1), .int (iI 2)]) p_127_6 (by decide) (by decide) (zM_of zq_104) ⟨Nat.le_of_ble_eq_true rfl, Nat.le_of_ble_eq_true rfl⟩ rfl (m_rc hs_4 ⟨rfl, by decide⟩))
theorem b_127_9 {x2 : Int} {xs0 : Int} {u0 u1 : Value} : Z e (d + 1) 127 9 [u0, u1, .int (iI x2)] [.int (iI xs0)] m = ri (if (wr xs0) = (wr x2) then 1 else 0) m := (s_il_2 p_127_9).trans <| Eq.trans (Eq.trans ((s_c_ne_f p_127_10 rfl rfl rfl)) <| Eq.trans (ite_cg ((s_const p_127_13).trans <| (s_goto p_127_14 rfl).trans <| rfl) ((s_const p_127_17).trans <| rfl)) (phi1 (fun z0 => Z e (d + 1) 127 18 [u0, u1, .int (iI x2)] [.int (iI z0)] m))) <| (s_retb p_127_18 (zM_of zq_127))
-- World.isCaught
theorem p_128_0 : zP1 128 0 = some (.aload_n 0, 0, 0, 0) := zp_l zq_128 rfl
theorem p_128_1 : zP1 128 1 = some (.iload_n 1, 0, 0, 0) := zp_l zq_128 rfl
theorem p_128_2 : zP1 128 2 = some (.iconst 5, 0, 0, 0) := zp_l zq_128 rfl
theorem p_128_3 : zP1 128 3 = some (.invokevirtual 94, 127, 2, 9) := zp_r zq_128 rfl
theorem p_128_6 : zP1 128 6 = some (.ifCond .ne 13, 0, 0, 0) := zp_l zq_128 rfl
theorem p_128_9 : zP1 128 9 = some (.aload_n 0, 0, 0, 0) := zp_l zq_128 rfl
theorem p_128_10 : zP1 128 10 = some (.iload_n 1, 0, 0, 0) := zp_l zq_128 rfl
theorem p_128_11 : zP1 128 11 = some (.bipush 6, 0, 0, 0) := zp_l zq_128 rfl
theorem p_128_13 : zP1 128 13 = some (.invokevirtual 94, 127, 2, 9) := zp_r zq_128 rfl
theorem p_128_16 : zP1 128 16 = some (.ifCond .eq 7, 0, 0, 0) := zp_l zq_128 rfl
theorem p_128_19 : zP1 128 19 = some (.iconst 1, 0, 0, 0) := zp_l zq_128 rfl
theorem p_128_20 : zP1 128 20 = some (.goto 4, 0, 0, 0) := zp_l zq_128 rfl
theorem p_128_23 : zP1 128 23 = some (.iconst 0, 0, 0, 0) := zp_l zq_128 rfl
theorem p_128_24 : zP1 128 24 = some (.ireturn, 0, 0, 0) := zp_l zq_128 rfl
theorem b_128_0 {x1 : Int} : Z e (d + 1) 128 0 [.ref 1, .int (iI x1)] [] m = (Z e d 127 0 [.ref 1, .int (iI x1), .int (iI 5)] [] m).bind (ZK e (d + 1) 128 6 [.ref 1, .int (iI x1)] [] m) := (s_al_0 p_128_0).trans <| (s_il_1 p_128_1).trans <| (s_const p_128_2).trans <| (s_cv2 (Lc := [.ref 1, .int (iI x1), .int (iI 5)]) p_128_3 (by decide) (by decide) (zM_of zq_127) ⟨Nat.le_of_ble_eq_true rfl, Nat.le_of_ble_eq_true rfl⟩ rfl (m_rc hs_1 ⟨rfl, by decide⟩))
theorem b_128_6 {x1 : Int} {xs0 : Int} : Z e (d + 1) 128 6 [.ref 1, .int (iI x1)] [.int (iI xs0)] m = (if (wr xs0) = 0 then (Z e d 127 0 [.ref 1, .int (iI x1), .int (iI 6)] [] m).bind (ZK e (d + 1) 128 16 [.ref 1, .int (iI x1)] [] m) else ri 1 m) := Eq.trans ((s_z_ne_f p_128_6 rfl rfl)) <| ite_cg ((s_al_0 p_128_9).trans <| (s_il_1 p_128_10).trans <| (s_bip p_128_11 rfl).trans <| (s_cv2 (Lc := [.ref 1, .int (iI x1), .int (iI 6)]) p_128_13 (by decide) (by decide) (zM_of zq_127) ⟨Nat.le_of_ble_eq_true rfl, Nat.le_of_ble_eq_true rfl⟩ rfl (m_rc hs_1 ⟨rfl, by decide⟩))) ((s_const p_128_19).trans <| (s_goto p_128_20 rfl).trans <| (s_retk rfl p_128_24 (zM_of zq_128)))
theorem b_128_16 {xs0 : Int} {u0 u1 : Value} : Z e (d + 1) 128 16 [u0, u1] [.int (iI xs0)] m = ri (if ¬ (wr xs0) = 0 then 1 else 0) m := Eq.trans (Eq.trans ((s_z_eq_f p_128_16 rfl rfl)) <| Eq.trans (ite_cg ((s_const p_128_19).trans <| (s_goto p_128_20 rfl).trans <| rfl) ((s_const p_128_23).trans <| rfl)) (phi1 (fun z0 => Z e (d + 1) 128 24 [u0, u1] [.int (iI z0)] m))) <| (s_retb p_128_24 (zM_of zq_128))
-- World.deedsOf
theorem p_130_0 : zP1 130 0 = some (.iconst 0, 0, 0, 0) := zp_l zq_130 rfl
theorem p_130_1 : zP1 130 1 = some (.istore_n 2, 0, 0, 0) := zp_l zq_130 rfl
theorem p_130_2 : zP1 130 2 = some (.iconst 0, 0, 0, 0) := zp_l zq_130 rfl
theorem p_130_3 : zP1 130 3 = some (.istore_n 3, 0, 0, 0) := zp_l zq_130 rfl
theorem p_130_4 : zP1 130 4 = some (.iload_n 3, 0, 0, 0) := zp_l zq_130 rfl
theorem p_130_5 : zP1 130 5 = some (.aload_n 0, 0, 0, 0) := zp_l zq_130 rfl
theorem p_130_6 : zP1 130 6 = some (.getfield 33, 9, 7, 0) := zp_r zq_130 rfl
theorem p_130_9 : zP1 130 9 = some (.getfield 98, 7, 3, 0) := zp_r zq_130 rfl
theorem p_130_12 : zP1 130 12 = some (.if_icmp .ge 25, 0, 0, 0) := zp_l zq_130 rfl
theorem p_130_15 : zP1 130 15 = some (.aload_n 0, 0, 0, 0) := zp_l zq_130 rfl
theorem p_130_16 : zP1 130 16 = some (.getfield 33, 9, 7, 0) := zp_r zq_130 rfl
theorem p_130_19 : zP1 130 19 = some (.iload_n 3, 0, 0, 0) := zp_l zq_130 rfl
theorem p_130_20 : zP1 130 20 = some (.iconst 0, 0, 0, 0) := zp_l zq_130 rfl
theorem p_130_21 : zP1 130 21 = some (.invokevirtual 90, 104, 2, 7) := zp_r zq_130 rfl
theorem p_130_24 : zP1 130 24 = some (.iload_n 1, 0, 0, 0) := zp_l zq_130 rfl
theorem p_130_25 : zP1 130 25 = some (.if_icmp .ne 6, 0, 0, 0) := zp_l zq_130 rfl
theorem p_130_28 : zP1 130 28 = some (.iinc 2 1, 0, 0, 0) := zp_l zq_130 rfl
theorem p_130_31 : zP1 130 31 = some (.iinc 3 1, 0, 0, 0) := zp_l zq_130 rfl
theorem p_130_34 : zP1 130 34 = some (.goto (-30), 0, 0, 0) := zp_l zq_130 rfl
theorem p_130_37 : zP1 130 37 = some (.iload_n 2, 0, 0, 0) := zp_l zq_130 rfl
theorem p_130_38 : zP1 130 38 = some (.ireturn, 0, 0, 0) := zp_l zq_130 rfl
theorem b_130_0 {x1 : Int} : Z e (d + 1) 130 0 [.ref 1, .int (iI x1), .retAddr 0, .retAddr 0] [] m = Z e (d + 1) 130 4 [.ref 1, .int (iI x1), .int (iI 0), .int (iI 0)] [] m := (s_const p_130_0).trans <| (s_is_2 cat_i p_130_1).trans <| (s_const p_130_2).trans <| (s_is_3 cat_i p_130_3).trans <| rfl
theorem b_130_4 {x1 : Int} {x2 : Int} {x3 : Int} : Z e (d + 1) 130 4 [.ref 1, .int (iI x1), .int (iI x2), .int (iI x3)] [] m = (if (wr x3) < (wr (m 8 3)) then (Z e d 104 0 [.ref 8, .int (iI x3), .int (iI 0)] [] m).bind (ZK e (d + 1) 130 24 [.ref 1, .int (iI x1), .int (iI x2), .int (iI x3)] [] m) else ri x2 m) := (s_il_3 p_130_4).trans <| (s_al_0 p_130_5).trans <| (s_getr p_130_6 hs_1 (by decide) rfl).trans <| (s_get p_130_9 hs_8 (by decide) rfl).trans <| Eq.trans ((s_c_ge_f p_130_12 rfl rfl rfl)) <| ite_cg ((s_al_0 p_130_15).trans <| (s_getr p_130_16 hs_1 (by decide) rfl).trans <| (s_il_3 p_130_19).trans <| (s_const p_130_20).trans <| (s_cv2 (Lc := [.ref 8, .int (iI x3), .int (iI 0)]) p_130_21 (by decide) (by decide) (zM_of zq_104) ⟨Nat.le_of_ble_eq_true rfl, Nat.le_of_ble_eq_true rfl⟩ rfl (m_rc hs_8 ⟨rfl, by decide⟩))) ((s_il_2 p_130_37).trans <| (s_reti p_130_38 (zM_of zq_130)))
theorem b_130_24 {x1 : Int} {x2 : Int} {x3 : Int} {xs0 : Int} : Z e (d + 1) 130 24 [.ref 1, .int (iI x1), .int (iI x2), .int (iI x3)] [.int (iI xs0)] m = Z e (d + 1) 130 4 [.ref 1, .int (iI x1), .int (iI (if (wr xs0) = (wr x1) then (x2 + 1) else x2)), .int (iI (x3 + 1))] [] m := (s_il_1 p_130_24).trans <| Eq.trans (Eq.trans ((s_c_ne_f p_130_25 rfl rfl rfl)) <| Eq.trans (ite_cg ((s_inc_2 cat_i p_130_28).trans <| rfl) (rfl)) (phi1 (fun z0 => Z e (d + 1) 130 31 [.ref 1, .int (iI x1), .int (iI z0), .int (iI x3)] [] m))) <| (s_inc_3 cat_i p_130_31).trans <| (s_goto p_130_34 rfl).trans <| rfl
-- Law.unsafeDoers
theorem p_41_0 : zP1 41 0 = some (.iconst 0, 0, 0, 0) := zp_l zq_41 rfl
theorem p_41_1 : zP1 41 1 = some (.istore_n 2, 0, 0, 0) := zp_l zq_41 rfl
theorem p_41_2 : zP1 41 2 = some (.iconst 0, 0, 0, 0) := zp_l zq_41 rfl
theorem p_41_3 : zP1 41 3 = some (.istore_n 3, 0, 0, 0) := zp_l zq_41 rfl
theorem p_41_4 : zP1 41 4 = some (.iload_n 3, 0, 0, 0) := zp_l zq_41 rfl
theorem p_41_5 : zP1 41 5 = some (.aload_n 0, 0, 0, 0) := zp_l zq_41 rfl
theorem p_41_6 : zP1 41 6 = some (.getfield 29, 1, 0, 0) := zp_r zq_41 rfl
theorem p_41_9 : zP1 41 9 = some (.getfield 158, 9, 5, 0) := zp_r zq_41 rfl
theorem p_41_12 : zP1 41 12 = some (.getfield 94, 7, 3, 0) := zp_r zq_41 rfl
theorem p_41_15 : zP1 41 15 = some (.if_icmp .ge 54, 0, 0, 0) := zp_l zq_41 rfl
theorem p_41_18 : zP1 41 18 = some (.iload_n 1, 0, 0, 0) := zp_l zq_41 rfl
theorem p_41_19 : zP1 41 19 = some (.iload_n 3, 0, 0, 0) := zp_l zq_41 rfl
theorem p_41_20 : zP1 41 20 = some (.ishr, 0, 0, 0) := zp_l zq_41 rfl
theorem p_41_21 : zP1 41 21 = some (.iconst 1, 0, 0, 0) := zp_l zq_41 rfl
theorem p_41_22 : zP1 41 22 = some (.iand, 0, 0, 0) := zp_l zq_41 rfl
theorem p_41_23 : zP1 41 23 = some (.ifCond .ne 18, 0, 0, 0) := zp_l zq_41 rfl
theorem p_41_26 : zP1 41 26 = some (.aload_n 0, 0, 0, 0) := zp_l zq_41 rfl
theorem p_41_27 : zP1 41 27 = some (.getfield 29, 1, 0, 0) := zp_r zq_41 rfl
theorem p_41_30 : zP1 41 30 = some (.iload_n 3, 0, 0, 0) := zp_l zq_41 rfl
theorem p_41_31 : zP1 41 31 = some (.invokevirtual 197, 128, 1, 9) := zp_r zq_41 rfl
theorem p_41_34 : zP1 41 34 = some (.ifCond .ne 7, 0, 0, 0) := zp_l zq_41 rfl
theorem p_41_37 : zP1 41 37 = some (.iconst 1, 0, 0, 0) := zp_l zq_41 rfl
theorem p_41_38 : zP1 41 38 = some (.goto 4, 0, 0, 0) := zp_l zq_41 rfl
theorem p_41_41 : zP1 41 41 = some (.iconst 0, 0, 0, 0) := zp_l zq_41 rfl
theorem p_41_42 : zP1 41 42 = some (.istore 4, 0, 0, 0) := zp_l zq_41 rfl
theorem p_41_44 : zP1 41 44 = some (.iload 4, 0, 0, 0) := zp_l zq_41 rfl
theorem p_41_46 : zP1 41 46 = some (.ifCond .eq 17, 0, 0, 0) := zp_l zq_41 rfl
theorem p_41_49 : zP1 41 49 = some (.aload_n 0, 0, 0, 0) := zp_l zq_41 rfl
theorem p_41_50 : zP1 41 50 = some (.getfield 29, 1, 0, 0) := zp_r zq_41 rfl
theorem p_41_53 : zP1 41 53 = some (.iload_n 3, 0, 0, 0) := zp_l zq_41 rfl
theorem p_41_54 : zP1 41 54 = some (.invokevirtual 200, 130, 1, 9) := zp_r zq_41 rfl
theorem p_41_57 : zP1 41 57 = some (.ifCond .le 6, 0, 0, 0) := zp_l zq_41 rfl
theorem p_41_60 : zP1 41 60 = some (.iinc 2 1, 0, 0, 0) := zp_l zq_41 rfl
theorem p_41_63 : zP1 41 63 = some (.iinc 3 1, 0, 0, 0) := zp_l zq_41 rfl
theorem p_41_66 : zP1 41 66 = some (.goto (-62), 0, 0, 0) := zp_l zq_41 rfl
theorem p_41_69 : zP1 41 69 = some (.iload_n 2, 0, 0, 0) := zp_l zq_41 rfl
theorem p_41_70 : zP1 41 70 = some (.ireturn, 0, 0, 0) := zp_l zq_41 rfl
theorem b_41_0 {x1 : Int} : Z e (d + 1) 41 0 [.ref 202, .int (iI x1), .retAddr 0, .retAddr 0, .retAddr 0] [] m = Z e (d + 1) 41 4 [.ref 202, .int (iI x1), .int (iI 0), .int (iI 0), .retAddr 0] [] m := (s_const p_41_0).trans <| (s_is_2 cat_i p_41_1).trans <| (s_const p_41_2).trans <| (s_is_3 cat_i p_41_3).trans <| rfl
theorem b_41_4 {x1 : Int} {x2 : Int} {x3 : Int} {u4 : Value} : Z e (d + 1) 41 4 [.ref 202, .int (iI x1), .int (iI x2), .int (iI x3), u4] [] m = (if (wr x3) < (wr (m 4 3)) then (if (jand (jshr x1 x3) 1) = 0 then (Z e d 128 0 [.ref 1, .int (iI x3)] [] m).bind (ZK e (d + 1) 41 34 [.ref 202, .int (iI x1), .int (iI x2), .int (iI x3), u4] [] m) else Z e (d + 1) 41 42 [.ref 202, .int (iI x1), .int (iI x2), .int (iI x3), u4] [.int (iI 0)] m) else ri x2 m) := (s_il_3 p_41_4).trans <| (s_al_0 p_41_5).trans <| (s_getr p_41_6 hs_202 (by decide) rfl).trans <| (s_getr p_41_9 hs_1 (by decide) rfl).trans <| (s_get p_41_12 hs_4 (by decide) rfl).trans <| Eq.trans ((s_c_ge_f p_41_15 rfl rfl rfl)) <| ite_cg ((s_il_1 p_41_18).trans <| (s_il_3 p_41_19).trans <| (s_ishr p_41_20).trans <| (s_const p_41_21).trans <| (s_iand p_41_22).trans <| Eq.trans ((s_z_ne_f p_41_23 rfl wr_jand)) <| ite_cg ((s_al_0 p_41_26).trans <| (s_getr p_41_27 hs_202 (by decide) rfl).trans <| (s_il_3 p_41_30).trans <| (s_cv1 (Lc := [.ref 1, .int (iI x3)]) p_41_31 (by decide) (by decide) (zM_of zq_128) ⟨Nat.le_of_ble_eq_true rfl, Nat.le_of_ble_eq_true rfl⟩ rfl (m_rc hs_1 ⟨rfl, by decide⟩))) ((s_const p_41_41).trans <| rfl)) ((s_il_2 p_41_69).trans <| (s_reti p_41_70 (zM_of zq_41)))
theorem b_41_42 {x1 : Int} {x2 : Int} {x3 : Int} {xs0 : Int} {u4 : Value} : Z e (d + 1) 41 42 [.ref 202, .int (iI x1), .int (iI x2), .int (iI x3), u4] [.int (iI xs0)] m = (if ¬ (wr xs0) = 0 then (Z e d 130 0 [.ref 1, .int (iI x3), .retAddr 0, .retAddr 0] [] m).bind (ZK e (d + 1) 41 57 [.ref 202, .int (iI x1), .int (iI x2), .int (iI x3), .int (iI xs0)] [] m) else Z e (d + 1) 41 4 [.ref 202, .int (iI x1), .int (iI x2), .int (iI (x3 + 1)), .int (iI xs0)] [] m) := (s_is_4 cat_i p_41_42).trans <| (s_il_4 p_41_44).trans <| Eq.trans ((s_z_eq_f p_41_46 rfl rfl)) <| ite_cg ((s_al_0 p_41_49).trans <| (s_getr p_41_50 hs_202 (by decide) rfl).trans <| (s_il_3 p_41_53).trans <| (s_cv1 (Lc := [.ref 1, .int (iI x3), .retAddr 0, .retAddr 0]) p_41_54 (by decide) (by decide) (zM_of zq_130) ⟨Nat.le_of_ble_eq_true rfl, Nat.le_of_ble_eq_true rfl⟩ rfl (m_rc hs_1 ⟨rfl, by decide⟩))) ((s_inc_3 cat_i p_41_63).trans <| (s_goto p_41_66 rfl).trans <| rfl)
theorem b_41_34 {x1 : Int} {x2 : Int} {x3 : Int} {xs0 : Int} {u4 : Value} : Z e (d + 1) 41 34 [.ref 202, .int (iI x1), .int (iI x2), .int (iI x3), u4] [.int (iI xs0)] m = Z e (d + 1) 41 42 [.ref 202, .int (iI x1), .int (iI x2), .int (iI x3), u4] [.int (iI (if (wr xs0) = 0 then 1 else 0))] m := Eq.trans (Eq.trans ((s_z_ne_f p_41_34 rfl rfl)) <| Eq.trans (ite_cg ((s_const p_41_37).trans <| (s_goto p_41_38 rfl).trans <| rfl) ((s_const p_41_41).trans <| rfl)) (phi1 (fun z0 => Z e (d + 1) 41 42 [.ref 202, .int (iI x1), .int (iI x2), .int (iI x3), u4] [.int (iI z0)] m))) <| rfl
theorem b_41_57 {x1 : Int} {x2 : Int} {x3 : Int} {xs0 : Int} {u4 : Value} : Z e (d + 1) 41 57 [.ref 202, .int (iI x1), .int (iI x2), .int (iI x3), u4] [.int (iI xs0)] m = Z e (d + 1) 41 4 [.ref 202, .int (iI x1), .int (iI (if 0 < (wr xs0) then (x2 + 1) else x2)), .int (iI (x3 + 1)), u4] [] m := Eq.trans (Eq.trans ((s_z_le_f p_41_57 rfl rfl)) <| Eq.trans (ite_cg ((s_inc_2 cat_i p_41_60).trans <| rfl) (rfl)) (phi1 (fun z0 => Z e (d + 1) 41 63 [.ref 202, .int (iI x1), .int (iI z0), .int (iI x3), u4] [] m))) <| (s_inc_3 cat_i p_41_63).trans <| (s_goto p_41_66 rfl).trans <| rfl
-- Law.greatestMile
theorem p_40_0 : zP1 40 0 = some (.aload_n 0, 0, 0, 0) := zp_l zq_40 rfl
theorem p_40_1 : zP1 40 1 = some (.invokevirtual 186, 32, 0, 1) := zp_r zq_40 rfl
theorem p_40_4 : zP1 40 4 = some (.istore_n 3, 0, 0, 0) := zp_l zq_40 rfl
theorem p_40_5 : zP1 40 5 = some (.bipush 18, 0, 0, 0) := zp_l zq_40 rfl
theorem p_40_7 : zP1 40 7 = some (.istore 4, 0, 0, 0) := zp_l zq_40 rfl
theorem p_40_9 : zP1 40 9 = some (.iload 4, 0, 0, 0) := zp_l zq_40 rfl
theorem p_40_11 : zP1 40 11 = some (.ifCond .lt 59, 0, 0, 0) := zp_l zq_40 rfl
theorem p_40_14 : zP1 40 14 = some (.aload_n 0, 0, 0, 0) := zp_l zq_40 rfl
theorem p_40_15 : zP1 40 15 = some (.iload 4, 0, 0, 0) := zp_l zq_40 rfl
theorem p_40_17 : zP1 40 17 = some (.putfield 52, 1, 6, 0) := zp_r zq_40 rfl
theorem p_40_20 : zP1 40 20 = some (.aload_n 0, 0, 0, 0) := zp_l zq_40 rfl
theorem p_40_21 : zP1 40 21 = some (.invokevirtual 167, 33, 0, 1) := zp_r zq_40 rfl
theorem p_40_24 : zP1 40 24 = some (.istore 5, 0, 0, 0) := zp_l zq_40 rfl
theorem p_40_26 : zP1 40 26 = some (.iload_n 3, 0, 0, 0) := zp_l zq_40 rfl
theorem p_40_27 : zP1 40 27 = some (.iload 5, 0, 0, 0) := zp_l zq_40 rfl
theorem p_40_29 : zP1 40 29 = some (.iconst (-1), 0, 0, 0) := zp_l zq_40 rfl
theorem p_40_30 : zP1 40 30 = some (.ixor, 0, 0, 0) := zp_l zq_40 rfl
theorem p_40_31 : zP1 40 31 = some (.iand, 0, 0, 0) := zp_l zq_40 rfl
theorem p_40_32 : zP1 40 32 = some (.invokestatic 189, 321, 1, 0) := zp_r zq_40 rfl
theorem p_40_35 : zP1 40 35 = some (.iload_n 1, 0, 0, 0) := zp_l zq_40 rfl
theorem p_40_36 : zP1 40 36 = some (.if_icmp .gt 17, 0, 0, 0) := zp_l zq_40 rfl
theorem p_40_39 : zP1 40 39 = some (.aload_n 0, 0, 0, 0) := zp_l zq_40 rfl
theorem p_40_40 : zP1 40 40 = some (.iload 5, 0, 0, 0) := zp_l zq_40 rfl
theorem p_40_42 : zP1 40 42 = some (.invokevirtual 194, 41, 1, 1) := zp_r zq_40 rfl
theorem p_40_45 : zP1 40 45 = some (.iload_n 2, 0, 0, 0) := zp_l zq_40 rfl
theorem p_40_46 : zP1 40 46 = some (.if_icmp .lt 7, 0, 0, 0) := zp_l zq_40 rfl
theorem p_40_49 : zP1 40 49 = some (.iconst 1, 0, 0, 0) := zp_l zq_40 rfl
theorem p_40_50 : zP1 40 50 = some (.goto 4, 0, 0, 0) := zp_l zq_40 rfl
theorem p_40_53 : zP1 40 53 = some (.iconst 0, 0, 0, 0) := zp_l zq_40 rfl
theorem p_40_54 : zP1 40 54 = some (.istore 6, 0, 0, 0) := zp_l zq_40 rfl
theorem p_40_56 : zP1 40 56 = some (.iload 6, 0, 0, 0) := zp_l zq_40 rfl
theorem p_40_58 : zP1 40 58 = some (.ifCond .eq 6, 0, 0, 0) := zp_l zq_40 rfl
theorem p_40_61 : zP1 40 61 = some (.iload 4, 0, 0, 0) := zp_l zq_40 rfl
theorem p_40_63 : zP1 40 63 = some (.ireturn, 0, 0, 0) := zp_l zq_40 rfl
theorem p_40_64 : zP1 40 64 = some (.iinc 4 (-1), 0, 0, 0) := zp_l zq_40 rfl
theorem p_40_67 : zP1 40 67 = some (.goto (-58), 0, 0, 0) := zp_l zq_40 rfl
theorem p_40_70 : zP1 40 70 = some (.bipush (-3), 0, 0, 0) := zp_l zq_40 rfl
theorem p_40_72 : zP1 40 72 = some (.ireturn, 0, 0, 0) := zp_l zq_40 rfl
theorem b_40_0 {x1 : Int} {x2 : Int} : Z e (d + 1) 40 0 [.ref 202, .int (iI x1), .int (iI x2), .retAddr 0, .retAddr 0, .retAddr 0, .retAddr 0] [] m = (Z e d 32 0 [.ref 202] [] m).bind (ZK e (d + 1) 40 4 [.ref 202, .int (iI x1), .int (iI x2), .retAddr 0, .retAddr 0, .retAddr 0, .retAddr 0] [] m) := (s_al_0 p_40_0).trans <| (s_cv0 (Lc := [.ref 202]) p_40_1 (by decide) (by decide) (zM_of zq_32) ⟨Nat.le_of_ble_eq_true rfl, Nat.le_of_ble_eq_true rfl⟩ rfl (m_rc hs_202 ⟨rfl, by decide⟩))
theorem b_40_4 {x1 : Int} {x2 : Int} {xs0 : Int} {u3 u4 u5 u6 : Value} : Z e (d + 1) 40 4 [.ref 202, .int (iI x1), .int (iI x2), u3, u4, u5, u6] [.int (iI xs0)] m = Z e (d + 1) 40 9 [.ref 202, .int (iI x1), .int (iI x2), .int (iI xs0), .int (iI 18), u5, u6] [] m := (s_is_3 cat_i p_40_4).trans <| (s_bip p_40_5 rfl).trans <| (s_is_4 cat_i p_40_7).trans <| rfl
theorem b_40_9 {x1 : Int} {x2 : Int} {x3 : Int} {x4 : Int} {u5 u6 : Value} : Z e (d + 1) 40 9 [.ref 202, .int (iI x1), .int (iI x2), .int (iI x3), .int (iI x4), u5, u6] [] m = (if 0 ≤ (wr x4) then (Z e d 33 0 [.ref 202, .retAddr 0, .retAddr 0, .retAddr 0, .retAddr 0] [] (um m 202 6 x4)).bind (ZK e (d + 1) 40 24 [.ref 202, .int (iI x1), .int (iI x2), .int (iI x3), .int (iI x4), u5, u6] [] (um m 202 6 x4)) else ri (-3) m) := (s_il_4 p_40_9).trans <| Eq.trans ((s_z_lt_f p_40_11 rfl rfl)) <| ite_cg ((s_al_0 p_40_14).trans <| (s_il_4 p_40_15).trans <| (s_put p_40_17 hs_202 (by decide) rfl).trans <| (s_al_0 p_40_20).trans <| (s_cv0 (Lc := [.ref 202, .retAddr 0, .retAddr 0, .retAddr 0, .retAddr 0]) p_40_21 (by decide) (by decide) (zM_of zq_33) ⟨Nat.le_of_ble_eq_true rfl, Nat.le_of_ble_eq_true rfl⟩ rfl (m_rc hs_202 ⟨rfl, by decide⟩))) ((s_bip p_40_70 rfl).trans <| (s_reti p_40_72 (zM_of zq_40)))
theorem b_40_24 {x1 : Int} {x2 : Int} {x3 : Int} {x4 : Int} {xs0 : Int} {u5 u6 : Value} : Z e (d + 1) 40 24 [.ref 202, .int (iI x1), .int (iI x2), .int (iI x3), .int (iI x4), u5, u6] [.int (iI xs0)] m = (Z e d 321 0 [.int (iI (jand x3 (jxor xs0 (-1))))] [] m).bind (ZK e (d + 1) 40 35 [.ref 202, .int (iI x1), .int (iI x2), .int (iI x3), .int (iI x4), .int (iI xs0), u6] [] m) := (s_is_5 cat_i p_40_24).trans <| (s_il_3 p_40_26).trans <| (s_il_5 p_40_27).trans <| (s_const p_40_29).trans <| (s_ixor p_40_30).trans <| (s_iand p_40_31).trans <| (s_cs1 (Lc := [.int (iI (jand x3 (jxor xs0 (-1))))]) p_40_32 (by decide) (zM_of zq_321) ⟨Nat.le_of_ble_eq_true rfl, Nat.le_of_ble_eq_true rfl⟩ rfl)
theorem b_40_35 {x1 : Int} {x2 : Int} {x3 : Int} {x4 : Int} {x5 : Int} {xs0 : Int} {u6 : Value} : Z e (d + 1) 40 35 [.ref 202, .int (iI x1), .int (iI x2), .int (iI x3), .int (iI x4), .int (iI x5), u6] [.int (iI xs0)] m = (if (wr xs0) ≤ (wr x1) then (Z e d 41 0 [.ref 202, .int (iI x5), .retAddr 0, .retAddr 0, .retAddr 0] [] m).bind (ZK e (d + 1) 40 45 [.ref 202, .int (iI x1), .int (iI x2), .int (iI x3), .int (iI x4), .int (iI x5), u6] [] m) else Z e (d + 1) 40 54 [.ref 202, .int (iI x1), .int (iI x2), .int (iI x3), .int (iI x4), .int (iI x5), u6] [.int (iI 0)] m) := (s_il_1 p_40_35).trans <| Eq.trans ((s_c_gt_f p_40_36 rfl rfl rfl)) <| ite_cg ((s_al_0 p_40_39).trans <| (s_il_5 p_40_40).trans <| (s_cv1 (Lc := [.ref 202, .int (iI x5), .retAddr 0, .retAddr 0, .retAddr 0]) p_40_42 (by decide) (by decide) (zM_of zq_41) ⟨Nat.le_of_ble_eq_true rfl, Nat.le_of_ble_eq_true rfl⟩ rfl (m_rc hs_202 ⟨rfl, by decide⟩))) ((s_const p_40_53).trans <| rfl)
theorem b_40_54 {x1 : Int} {x2 : Int} {x3 : Int} {x4 : Int} {xs0 : Int} {u5 u6 : Value} (hu5 : u5.category = 1) : Z e (d + 1) 40 54 [.ref 202, .int (iI x1), .int (iI x2), .int (iI x3), .int (iI x4), u5, u6] [.int (iI xs0)] m = (if ¬ (wr xs0) = 0 then ri x4 m else Z e (d + 1) 40 9 [.ref 202, .int (iI x1), .int (iI x2), .int (iI x3), .int (iI (x4 + (-1))), u5, .int (iI xs0)] [] m) := (s_is_6 hu5 p_40_54).trans <| (s_il_6 p_40_56).trans <| Eq.trans ((s_z_eq_f p_40_58 rfl rfl)) <| ite_cg ((s_il_4 p_40_61).trans <| (s_reti p_40_63 (zM_of zq_40))) ((s_inc_4 cat_i p_40_64).trans <| (s_goto p_40_67 rfl).trans <| rfl)
theorem b_40_45 {x1 : Int} {x2 : Int} {x3 : Int} {x4 : Int} {xs0 : Int} {u5 u6 : Value} : Z e (d + 1) 40 45 [.ref 202, .int (iI x1), .int (iI x2), .int (iI x3), .int (iI x4), u5, u6] [.int (iI xs0)] m = Z e (d + 1) 40 54 [.ref 202, .int (iI x1), .int (iI x2), .int (iI x3), .int (iI x4), u5, u6] [.int (iI (if (wr x2) ≤ (wr xs0) then 1 else 0))] m := (s_il_2 p_40_45).trans <| Eq.trans (Eq.trans ((s_c_lt_f p_40_46 rfl rfl rfl)) <| Eq.trans (ite_cg ((s_const p_40_49).trans <| (s_goto p_40_50 rfl).trans <| rfl) ((s_const p_40_53).trans <| rfl)) (phi1 (fun z0 => Z e (d + 1) 40 54 [.ref 202, .int (iI x1), .int (iI x2), .int (iI x3), .int (iI x4), u5, u6] [.int (iI z0)] m))) <| rfl
-- Posts.reaches
theorem p_54_0 : zP1 54 0 = some (.aload_n 0, 0, 0, 0) := zp_l zq_54 rfl
theorem p_54_1 : zP1 54 1 = some (.getfield 15, 3, 0, 0) := zp_r zq_54 rfl
theorem p_54_4 : zP1 54 4 = some (.getfield 19, 9, 10, 0) := zp_r zq_54 rfl
theorem p_54_7 : zP1 54 7 = some (.iload_n 1, 0, 0, 0) := zp_l zq_54 rfl
theorem p_54_8 : zP1 54 8 = some (.iconst 0, 0, 0, 0) := zp_l zq_54 rfl
theorem p_54_9 : zP1 54 9 = some (.invokevirtual 35, 104, 2, 7) := zp_r zq_54 rfl
theorem p_54_12 : zP1 54 12 = some (.iload_n 2, 0, 0, 0) := zp_l zq_54 rfl
theorem p_54_13 : zP1 54 13 = some (.invokestatic 39, 121, 2, 0) := zp_r zq_54 rfl
theorem p_54_16 : zP1 54 16 = some (.aload_n 0, 0, 0, 0) := zp_l zq_54 rfl
theorem p_54_17 : zP1 54 17 = some (.getfield 15, 3, 0, 0) := zp_r zq_54 rfl
theorem p_54_20 : zP1 54 20 = some (.getfield 19, 9, 10, 0) := zp_r zq_54 rfl
theorem p_54_23 : zP1 54 23 = some (.iload_n 1, 0, 0, 0) := zp_l zq_54 rfl
theorem p_54_24 : zP1 54 24 = some (.iconst 1, 0, 0, 0) := zp_l zq_54 rfl
theorem p_54_25 : zP1 54 25 = some (.invokevirtual 35, 104, 2, 7) := zp_r zq_54 rfl
theorem p_54_28 : zP1 54 28 = some (.if_icmp .gt 7, 0, 0, 0) := zp_l zq_54 rfl
theorem p_54_31 : zP1 54 31 = some (.iconst 1, 0, 0, 0) := zp_l zq_54 rfl
theorem p_54_32 : zP1 54 32 = some (.goto 4, 0, 0, 0) := zp_l zq_54 rfl
theorem p_54_35 : zP1 54 35 = some (.iconst 0, 0, 0, 0) := zp_l zq_54 rfl
theorem p_54_36 : zP1 54 36 = some (.ireturn, 0, 0, 0) := zp_l zq_54 rfl
theorem b_54_0 {x1 : Int} {x2 : Int} : Z e (d + 2) 54 0 [.ref 206, .int (iI x1), .int (iI x2)] [] m = (Z e (d + 1) 104 0 [.ref 14, .int (iI x1), .int (iI 0)] [] m).bind (ZK e (d + 2) 54 12 [.ref 206, .int (iI x1), .int (iI x2)] [] m) := (s_al_0 p_54_0).trans <| (s_getr p_54_1 hs_206 (by decide) rfl).trans <| (s_getr p_54_4 hs_1 (by decide) rfl).trans <| (s_il_1 p_54_7).trans <| (s_const p_54_8).trans <| (s_cv2 (Lc := [.ref 14, .int (iI x1), .int (iI 0)]) p_54_9 (by decide) (by decide) (zM_of zq_104) ⟨Nat.le_of_ble_eq_true rfl, Nat.le_of_ble_eq_true rfl⟩ rfl (m_rc hs_14 ⟨rfl, by decide⟩))
theorem b_54_12 {x1 : Int} {x2 : Int} {xs0 : Int} : Z e (d + 2) 54 12 [.ref 206, .int (iI x1), .int (iI x2)] [.int (iI xs0)] m = (Z e (d + 1) 104 0 [.ref 14, .int (iI x1), .int (iI 1)] [] m).bind (ZK e (d + 2) 54 28 [.ref 206, .int (iI x1), .int (iI x2)] [.int (iI (jfar xs0 x2))] m) := (s_il_2 p_54_12).trans <| (s_cs2 (Lc := [.int (iI xs0), .int (iI x2)]) p_54_13 (by decide) (zM_of zq_121) ⟨Nat.le_of_ble_eq_true rfl, Nat.le_of_ble_eq_true rfl⟩ rfl).trans <| (bd b_121_0).trans <| ri_k.trans <| (s_al_0 p_54_16).trans <| (s_getr p_54_17 hs_206 (by decide) rfl).trans <| (s_getr p_54_20 hs_1 (by decide) rfl).trans <| (s_il_1 p_54_23).trans <| (s_const p_54_24).trans <| (s_cv2 (Lc := [.ref 14, .int (iI x1), .int (iI 1)]) p_54_25 (by decide) (by decide) (zM_of zq_104) ⟨Nat.le_of_ble_eq_true rfl, Nat.le_of_ble_eq_true rfl⟩ rfl (m_rc hs_14 ⟨rfl, by decide⟩))
theorem b_54_28 {xs0 : Int} {xs1 : Int} {u0 u1 u2 : Value} : Z e (d + 2) 54 28 [u0, u1, u2] [.int (iI xs0), .int (iI xs1)] m = ri (if (wr xs1) ≤ (wr xs0) then 1 else 0) m := Eq.trans (Eq.trans ((s_c_gt_f p_54_28 rfl rfl rfl)) <| Eq.trans (ite_cg ((s_const p_54_31).trans <| (s_goto p_54_32 rfl).trans <| rfl) ((s_const p_54_35).trans <| rfl)) (phi1 (fun z0 => Z e (d + 2) 54 36 [u0, u1, u2] [.int (iI z0)] m))) <| (s_retb p_54_36 (zM_of zq_54))
-- Posts.clocksSeen
theorem p_56_0 : zP1 56 0 = some (.iconst 0, 0, 0, 0) := zp_l zq_56 rfl
theorem p_56_1 : zP1 56 1 = some (.istore_n 2, 0, 0, 0) := zp_l zq_56 rfl
theorem p_56_2 : zP1 56 2 = some (.iconst 0, 0, 0, 0) := zp_l zq_56 rfl
theorem p_56_3 : zP1 56 3 = some (.istore_n 3, 0, 0, 0) := zp_l zq_56 rfl
theorem p_56_4 : zP1 56 4 = some (.iload_n 3, 0, 0, 0) := zp_l zq_56 rfl
theorem p_56_5 : zP1 56 5 = some (.aload_n 0, 0, 0, 0) := zp_l zq_56 rfl
theorem p_56_6 : zP1 56 6 = some (.getfield 15, 3, 0, 0) := zp_r zq_56 rfl
theorem p_56_9 : zP1 56 9 = some (.getfield 19, 9, 10, 0) := zp_r zq_56 rfl
theorem p_56_12 : zP1 56 12 = some (.getfield 42, 7, 3, 0) := zp_r zq_56 rfl
theorem p_56_15 : zP1 56 15 = some (.if_icmp .ge 33, 0, 0, 0) := zp_l zq_56 rfl
theorem p_56_18 : zP1 56 18 = some (.aload_n 0, 0, 0, 0) := zp_l zq_56 rfl
theorem p_56_19 : zP1 56 19 = some (.iload_n 3, 0, 0, 0) := zp_l zq_56 rfl
theorem p_56_20 : zP1 56 20 = some (.iload_n 1, 0, 0, 0) := zp_l zq_56 rfl
theorem p_56_21 : zP1 56 21 = some (.invokevirtual 46, 54, 2, 3) := zp_r zq_56 rfl
theorem p_56_24 : zP1 56 24 = some (.ifCond .eq 18, 0, 0, 0) := zp_l zq_56 rfl
theorem p_56_27 : zP1 56 27 = some (.iload_n 2, 0, 0, 0) := zp_l zq_56 rfl
theorem p_56_28 : zP1 56 28 = some (.aload_n 0, 0, 0, 0) := zp_l zq_56 rfl
theorem p_56_29 : zP1 56 29 = some (.getfield 15, 3, 0, 0) := zp_r zq_56 rfl
theorem p_56_32 : zP1 56 32 = some (.getfield 19, 9, 10, 0) := zp_r zq_56 rfl
theorem p_56_35 : zP1 56 35 = some (.iload_n 3, 0, 0, 0) := zp_l zq_56 rfl
theorem p_56_36 : zP1 56 36 = some (.iconst 2, 0, 0, 0) := zp_l zq_56 rfl
theorem p_56_37 : zP1 56 37 = some (.invokevirtual 35, 104, 2, 7) := zp_r zq_56 rfl
theorem p_56_40 : zP1 56 40 = some (.ior, 0, 0, 0) := zp_l zq_56 rfl
theorem p_56_41 : zP1 56 41 = some (.istore_n 2, 0, 0, 0) := zp_l zq_56 rfl
theorem p_56_42 : zP1 56 42 = some (.iinc 3 1, 0, 0, 0) := zp_l zq_56 rfl
theorem p_56_45 : zP1 56 45 = some (.goto (-41), 0, 0, 0) := zp_l zq_56 rfl
theorem p_56_48 : zP1 56 48 = some (.iload_n 2, 0, 0, 0) := zp_l zq_56 rfl
theorem p_56_49 : zP1 56 49 = some (.ireturn, 0, 0, 0) := zp_l zq_56 rfl
theorem b_56_0 {x1 : Int} : Z e (d + 1) 56 0 [.ref 206, .int (iI x1), .retAddr 0, .retAddr 0] [] m = Z e (d + 1) 56 4 [.ref 206, .int (iI x1), .int (iI 0), .int (iI 0)] [] m := (s_const p_56_0).trans <| (s_is_2 cat_i p_56_1).trans <| (s_const p_56_2).trans <| (s_is_3 cat_i p_56_3).trans <| rfl
theorem b_56_4 {x1 : Int} {x2 : Int} {x3 : Int} : Z e (d + 1) 56 4 [.ref 206, .int (iI x1), .int (iI x2), .int (iI x3)] [] m = (if (wr x3) < (wr (m 14 3)) then (Z e d 54 0 [.ref 206, .int (iI x3), .int (iI x1)] [] m).bind (ZK e (d + 1) 56 24 [.ref 206, .int (iI x1), .int (iI x2), .int (iI x3)] [] m) else ri x2 m) := (s_il_3 p_56_4).trans <| (s_al_0 p_56_5).trans <| (s_getr p_56_6 hs_206 (by decide) rfl).trans <| (s_getr p_56_9 hs_1 (by decide) rfl).trans <| (s_get p_56_12 hs_14 (by decide) rfl).trans <| Eq.trans ((s_c_ge_f p_56_15 rfl rfl rfl)) <| ite_cg ((s_al_0 p_56_18).trans <| (s_il_3 p_56_19).trans <| (s_il_1 p_56_20).trans <| (s_cv2 (Lc := [.ref 206, .int (iI x3), .int (iI x1)]) p_56_21 (by decide) (by decide) (zM_of zq_54) ⟨Nat.le_of_ble_eq_true rfl, Nat.le_of_ble_eq_true rfl⟩ rfl (m_rc hs_206 ⟨rfl, by decide⟩))) ((s_il_2 p_56_48).trans <| (s_reti p_56_49 (zM_of zq_56)))
theorem b_56_24 {x1 : Int} {x2 : Int} {x3 : Int} {xs0 : Int} : Z e (d + 1) 56 24 [.ref 206, .int (iI x1), .int (iI x2), .int (iI x3)] [.int (iI xs0)] m = (if ¬ (wr xs0) = 0 then (Z e d 104 0 [.ref 14, .int (iI x3), .int (iI 2)] [] m).bind (ZK e (d + 1) 56 40 [.ref 206, .int (iI x1), .int (iI x2), .int (iI x3)] [.int (iI x2)] m) else Z e (d + 1) 56 4 [.ref 206, .int (iI x1), .int (iI x2), .int (iI (x3 + 1))] [] m) := Eq.trans ((s_z_eq_f p_56_24 rfl rfl)) <| ite_cg ((s_il_2 p_56_27).trans <| (s_al_0 p_56_28).trans <| (s_getr p_56_29 hs_206 (by decide) rfl).trans <| (s_getr p_56_32 hs_1 (by decide) rfl).trans <| (s_il_3 p_56_35).trans <| (s_const p_56_36).trans <| (s_cv2 (Lc := [.ref 14, .int (iI x3), .int (iI 2)]) p_56_37 (by decide) (by decide) (zM_of zq_104) ⟨Nat.le_of_ble_eq_true rfl, Nat.le_of_ble_eq_true rfl⟩ rfl (m_rc hs_14 ⟨rfl, by decide⟩))) ((s_inc_3 cat_i p_56_42).trans <| (s_goto p_56_45 rfl).trans <| rfl)
theorem b_56_40 {x1 : Int} {x3 : Int} {xs0 : Int} {xs1 : Int} {u2 : Value} : Z e (d + 1) 56 40 [.ref 206, .int (iI x1), u2, .int (iI x3)] [.int (iI xs0), .int (iI xs1)] m = Z e (d + 1) 56 4 [.ref 206, .int (iI x1), .int (iI (jor xs1 xs0)), .int (iI (x3 + 1))] [] m := (s_ior p_56_40).trans <| (s_is_2 cat_i p_56_41).trans <| (s_inc_3 cat_i p_56_42).trans <| (s_goto p_56_45 rfl).trans <| rfl
-- Plan.clockAfter
theorem p_44_0 : zP1 44 0 = some (.aload_n 0, 0, 0, 0) := zp_l zq_44 rfl
theorem p_44_1 : zP1 44 1 = some (.getfield 33, 2, 0, 0) := zp_r zq_44 rfl
theorem p_44_4 : zP1 44 4 = some (.getfield 68, 9, 0, 0) := zp_r zq_44 rfl
theorem p_44_7 : zP1 44 7 = some (.iload_n 1, 0, 0, 0) := zp_l zq_44 rfl
theorem p_44_8 : zP1 44 8 = some (.iload_n 2, 0, 0, 0) := zp_l zq_44 rfl
theorem p_44_9 : zP1 44 9 = some (.idiv, 0, 0, 0) := zp_l zq_44 rfl
theorem p_44_10 : zP1 44 10 = some (.iadd, 0, 0, 0) := zp_l zq_44 rfl
theorem p_44_11 : zP1 44 11 = some (.iconst 1, 0, 0, 0) := zp_l zq_44 rfl
theorem p_44_12 : zP1 44 12 = some (.iadd, 0, 0, 0) := zp_l zq_44 rfl
theorem p_44_13 : zP1 44 13 = some (.bipush 24, 0, 0, 0) := zp_l zq_44 rfl
theorem p_44_15 : zP1 44 15 = some (.irem, 0, 0, 0) := zp_l zq_44 rfl
theorem p_44_16 : zP1 44 16 = some (.ireturn, 0, 0, 0) := zp_l zq_44 rfl
theorem b_44_0 {x1 : Int} {x2 : Int} : Z e d 44 0 [.ref 226, .int (iI x1), .int (iI x2)] [] m = ck (¬ ((wr x2) = 0)) (ri (jrem (((m 1 0) + (jdiv x1 x2)) + 1) 24) m) := (s_al_0 p_44_0).trans <| (s_getr p_44_1 hs_226 (by decide) rfl).trans <| (s_get p_44_4 hs_1 (by decide) rfl).trans <| (s_il_1 p_44_7).trans <| (s_il_2 p_44_8).trans <| (s_idiv p_44_9).trans <| ck_cg fun k1 => (s_iadd p_44_10).trans <| (s_const p_44_11).trans <| (s_iadd p_44_12).trans <| (s_bip p_44_13 rfl).trans <| (s_iremc p_44_15 (by decide)).trans <| (s_reti p_44_16 (zM_of zq_44))
-- Plan.priceBy
theorem p_47_0 : zP1 47 0 = some (.aload_n 0, 0, 0, 0) := zp_l zq_47 rfl
theorem p_47_1 : zP1 47 1 = some (.getfield 18, 2, 5, 0) := zp_r zq_47 rfl
theorem p_47_4 : zP1 47 4 = some (.iload_n 2, 0, 0, 0) := zp_l zq_47 rfl
theorem p_47_5 : zP1 47 5 = some (.iaload, 0, 0, 0) := zp_l zq_47 rfl
theorem p_47_6 : zP1 47 6 = some (.iload_n 3, 0, 0, 0) := zp_l zq_47 rfl
theorem p_47_7 : zP1 47 7 = some (.ishr, 0, 0, 0) := zp_l zq_47 rfl
theorem p_47_8 : zP1 47 8 = some (.iconst 1, 0, 0, 0) := zp_l zq_47 rfl
theorem p_47_9 : zP1 47 9 = some (.iand, 0, 0, 0) := zp_l zq_47 rfl
theorem p_47_10 : zP1 47 10 = some (.istore 4, 0, 0, 0) := zp_l zq_47 rfl
theorem p_47_12 : zP1 47 12 = some (.iconst 1, 0, 0, 0) := zp_l zq_47 rfl
theorem p_47_13 : zP1 47 13 = some (.bipush 64, 0, 0, 0) := zp_l zq_47 rfl
theorem p_47_15 : zP1 47 15 = some (.iload 4, 0, 0, 0) := zp_l zq_47 rfl
theorem p_47_17 : zP1 47 17 = some (.imul, 0, 0, 0) := zp_l zq_47 rfl
theorem p_47_18 : zP1 47 18 = some (.iadd, 0, 0, 0) := zp_l zq_47 rfl
theorem p_47_19 : zP1 47 19 = some (.aload_n 0, 0, 0, 0) := zp_l zq_47 rfl
theorem p_47_20 : zP1 47 20 = some (.getfield 11, 2, 3, 0) := zp_r zq_47 rfl
theorem p_47_23 : zP1 47 23 = some (.iload_n 1, 0, 0, 0) := zp_l zq_47 rfl
theorem p_47_24 : zP1 47 24 = some (.iconst 1, 0, 0, 0) := zp_l zq_47 rfl
theorem p_47_25 : zP1 47 25 = some (.iadd, 0, 0, 0) := zp_l zq_47 rfl
theorem p_47_26 : zP1 47 26 = some (.bipush 100, 0, 0, 0) := zp_l zq_47 rfl
theorem p_47_28 : zP1 47 28 = some (.imul, 0, 0, 0) := zp_l zq_47 rfl
theorem p_47_29 : zP1 47 29 = some (.iload_n 2, 0, 0, 0) := zp_l zq_47 rfl
theorem p_47_30 : zP1 47 30 = some (.iadd, 0, 0, 0) := zp_l zq_47 rfl
theorem p_47_31 : zP1 47 31 = some (.iaload, 0, 0, 0) := zp_l zq_47 rfl
theorem p_47_32 : zP1 47 32 = some (.iadd, 0, 0, 0) := zp_l zq_47 rfl
theorem p_47_33 : zP1 47 33 = some (.ireturn, 0, 0, 0) := zp_l zq_47 rfl
theorem b_47_0 {x1 : Int} {x2 : Int} {x3 : Int} : Z e d 47 0 [.ref 226, .int (iI x1), .int (iI x2), .int (iI x3), .retAddr 0] [] m = ck (0 ≤ (wr x2) ∧ (wr x2) < 100) (ck (0 ≤ (wr (((x1 + 1) * 100) + x2)) ∧ (wr (((x1 + 1) * 100) + x2)) < 6100) (ri ((1 + (64 * (jand (jshr (m 229 (wr x2)) x3) 1))) + (m 227 (wr (((x1 + 1) * 100) + x2)))) m)) := (s_al_0 p_47_0).trans <| (s_getr p_47_1 hs_226 (by decide) rfl).trans <| (s_il_2 p_47_4).trans <| (s_ald 100 p_47_5 hs_229 rfl (by decide)).trans <| ck_cg fun k1 => (s_il_3 p_47_6).trans <| (s_ishr p_47_7).trans <| (s_const p_47_8).trans <| (s_iand p_47_9).trans <| (s_is_4 cat_i p_47_10).trans <| (s_const p_47_12).trans <| (s_bip p_47_13 rfl).trans <| (s_il_4 p_47_15).trans <| (s_imul p_47_17).trans <| (s_iadd p_47_18).trans <| (s_al_0 p_47_19).trans <| (s_getr p_47_20 hs_226 (by decide) rfl).trans <| (s_il_1 p_47_23).trans <| (s_const p_47_24).trans <| (s_iadd p_47_25).trans <| (s_bip p_47_26 rfl).trans <| (s_imul p_47_28).trans <| (s_il_2 p_47_29).trans <| (s_iadd p_47_30).trans <| (s_ald 6100 p_47_31 hs_227 rfl (by decide)).trans <| ck_cg fun k2 => (s_iadd p_47_32).trans <| (s_reti p_47_33 (zM_of zq_47))
-- Plan.leastPrice
theorem p_46_0 : zP1 46 0 = some (.ldc 74, 0, 0, 1048576) := zp_r zq_46 rfl
theorem p_46_2 : zP1 46 2 = some (.istore 4, 0, 0, 0) := zp_l zq_46 rfl
theorem p_46_4 : zP1 46 4 = some (.iconst 4, 0, 0, 0) := zp_l zq_46 rfl
theorem p_46_5 : zP1 46 5 = some (.iload_n 2, 0, 0, 0) := zp_l zq_46 rfl
theorem p_46_6 : zP1 46 6 = some (.imul, 0, 0, 0) := zp_l zq_46 rfl
theorem p_46_7 : zP1 46 7 = some (.istore 5, 0, 0, 0) := zp_l zq_46 rfl
theorem p_46_9 : zP1 46 9 = some (.iload 5, 0, 0, 0) := zp_l zq_46 rfl
theorem p_46_11 : zP1 46 11 = some (.iconst 4, 0, 0, 0) := zp_l zq_46 rfl
theorem p_46_12 : zP1 46 12 = some (.iload_n 2, 0, 0, 0) := zp_l zq_46 rfl
theorem p_46_13 : zP1 46 13 = some (.imul, 0, 0, 0) := zp_l zq_46 rfl
theorem p_46_14 : zP1 46 14 = some (.iconst 4, 0, 0, 0) := zp_l zq_46 rfl
theorem p_46_15 : zP1 46 15 = some (.iadd, 0, 0, 0) := zp_l zq_46 rfl
theorem p_46_16 : zP1 46 16 = some (.if_icmp .ge 54, 0, 0, 0) := zp_l zq_46 rfl
theorem p_46_19 : zP1 46 19 = some (.aload_n 0, 0, 0, 0) := zp_l zq_46 rfl
theorem p_46_20 : zP1 46 20 = some (.getfield 37, 2, 1, 0) := zp_r zq_46 rfl
theorem p_46_23 : zP1 46 23 = some (.getfield 79, 5, 1, 0) := zp_r zq_46 rfl
theorem p_46_26 : zP1 46 26 = some (.iload 5, 0, 0, 0) := zp_l zq_46 rfl
theorem p_46_28 : zP1 46 28 = some (.iaload, 0, 0, 0) := zp_l zq_46 rfl
theorem p_46_29 : zP1 46 29 = some (.istore 6, 0, 0, 0) := zp_l zq_46 rfl
theorem p_46_31 : zP1 46 31 = some (.iload 6, 0, 0, 0) := zp_l zq_46 rfl
theorem p_46_33 : zP1 46 33 = some (.bipush (-3), 0, 0, 0) := zp_l zq_46 rfl
theorem p_46_35 : zP1 46 35 = some (.if_icmp .ne 8, 0, 0, 0) := zp_l zq_46 rfl
theorem p_46_38 : zP1 46 38 = some (.ldc 74, 0, 0, 1048576) := zp_r zq_46 rfl
theorem p_46_40 : zP1 46 40 = some (.goto 11, 0, 0, 0) := zp_l zq_46 rfl
theorem p_46_43 : zP1 46 43 = some (.aload_n 0, 0, 0, 0) := zp_l zq_46 rfl
theorem p_46_44 : zP1 46 44 = some (.iload_n 1, 0, 0, 0) := zp_l zq_46 rfl
theorem p_46_45 : zP1 46 45 = some (.iload 6, 0, 0, 0) := zp_l zq_46 rfl
theorem p_46_47 : zP1 46 47 = some (.iload_n 3, 0, 0, 0) := zp_l zq_46 rfl
theorem p_46_48 : zP1 46 48 = some (.invokevirtual 82, 47, 3, 2) := zp_r zq_46 rfl
theorem p_46_51 : zP1 46 51 = some (.istore 7, 0, 0, 0) := zp_l zq_46 rfl
theorem p_46_53 : zP1 46 53 = some (.iload 7, 0, 0, 0) := zp_l zq_46 rfl
theorem p_46_55 : zP1 46 55 = some (.iload 4, 0, 0, 0) := zp_l zq_46 rfl
theorem p_46_57 : zP1 46 57 = some (.if_icmp .ge 7, 0, 0, 0) := zp_l zq_46 rfl
theorem p_46_60 : zP1 46 60 = some (.iload 7, 0, 0, 0) := zp_l zq_46 rfl
theorem p_46_62 : zP1 46 62 = some (.istore 4, 0, 0, 0) := zp_l zq_46 rfl
theorem p_46_64 : zP1 46 64 = some (.iinc 5 1, 0, 0, 0) := zp_l zq_46 rfl
theorem p_46_67 : zP1 46 67 = some (.goto (-58), 0, 0, 0) := zp_l zq_46 rfl
theorem p_46_70 : zP1 46 70 = some (.iload 4, 0, 0, 0) := zp_l zq_46 rfl
theorem p_46_72 : zP1 46 72 = some (.ireturn, 0, 0, 0) := zp_l zq_46 rfl
theorem b_46_0 {x1 : Int} {x2 : Int} {x3 : Int} : Z e (d + 1) 46 0 [.ref 226, .int (iI x1), .int (iI x2), .int (iI x3), .retAddr 0, .retAddr 0, .retAddr 0, .retAddr 0] [] m = Z e (d + 1) 46 9 [.ref 226, .int (iI x1), .int (iI x2), .int (iI x3), .int (iI 1048576), .int (iI (4 * x2)), .retAddr 0, .retAddr 0] [] m := (s_ldc p_46_0).trans <| (s_is_4 cat_i p_46_2).trans <| (s_const p_46_4).trans <| (s_il_2 p_46_5).trans <| (s_imul p_46_6).trans <| (s_is_5 cat_i p_46_7).trans <| rfl
theorem b_46_9 {x1 : Int} {x2 : Int} {x3 : Int} {x4 : Int} {x5 : Int} {u6 u7 : Value} : Z e (d + 1) 46 9 [.ref 226, .int (iI x1), .int (iI x2), .int (iI x3), .int (iI x4), .int (iI x5), u6, u7] [] m = (if (wr x5) < (wr ((4 * x2) + 4)) then ck (0 ≤ (wr x5) ∧ (wr x5) < 400) (ck ((¬ ((wr (m 192 (wr x5))) = (-3))) → ((0 ≤ (wr (m 192 (wr x5))) ∧ (wr (m 192 (wr x5))) < 100) ∧ (0 ≤ (wr (((x1 + 1) * 100) + (m 192 (wr x5)))) ∧ (wr (((x1 + 1) * 100) + (m 192 (wr x5)))) < 6100))) (Z e (d + 1) 46 9 [.ref 226, .int (iI x1), .int (iI x2), .int (iI x3), .int (iI (if (wr (if (wr (m 192 (wr x5))) = (-3) then 1048576 else ((1 + (64 * (jand (jshr (m 229 (wr (m 192 (wr x5)))) x3) 1))) + (m 227 (wr (((x1 + 1) * 100) + (m 192 (wr x5)))))))) < (wr x4) then (if (wr (m 192 (wr x5))) = (-3) then 1048576 else ((1 + (64 * (jand (jshr (m 229 (wr (m 192 (wr x5)))) x3) 1))) + (m 227 (wr (((x1 + 1) * 100) + (m 192 (wr x5))))))) else x4)), .int (iI (x5 + 1)), .int (iI (m 192 (wr x5))), .int (iI (if (wr (m 192 (wr x5))) = (-3) then 1048576 else ((1 + (64 * (jand (jshr (m 229 (wr (m 192 (wr x5)))) x3) 1))) + (m 227 (wr (((x1 + 1) * 100) + (m 192 (wr x5))))))))] [] m)) else ri x4 m) := (s_il_5 p_46_9).trans <| (s_const p_46_11).trans <| (s_il_2 p_46_12).trans <| (s_imul p_46_13).trans <| (s_const p_46_14).trans <| (s_iadd p_46_15).trans <| Eq.trans ((s_c_ge_f p_46_16 rfl rfl rfl)) <| ite_cg ((s_al_0 p_46_19).trans <| (s_getr p_46_20 hs_226 (by decide) rfl).trans <| (s_getr p_46_23 hs_191 (by decide) rfl).trans <| (s_il_5 p_46_26).trans <| (s_ald 400 p_46_28 hs_192 rfl (by decide)).trans <| ck_cg fun k4 => (s_is_6 cat_i p_46_29).trans <| (s_il_6 p_46_31).trans <| (s_bip p_46_33 rfl).trans <| Eq.trans (Eq.trans ((s_c_ne_f p_46_35 rfl rfl wl_m3)) <| Eq.trans (ite_cg ((s_ldc p_46_38).trans <| (s_goto p_46_40 rfl).trans <| rfl) ((s_al_0 p_46_43).trans <| (s_il_1 p_46_44).trans <| (s_il_6 p_46_45).trans <| (s_il_3 p_46_47).trans <| (s_cv3 (Lc := [.ref 226, .int (iI x1), .int (iI (m 192 (wr x5))), .int (iI x3), .retAddr 0]) p_46_48 (by decide) (by decide) (zM_of zq_47) ⟨Nat.le_of_ble_eq_true rfl, Nat.le_of_ble_eq_true rfl⟩ rfl (m_rc hs_226 ⟨rfl, by decide⟩)).trans <| (bd b_47_0).trans <| ck_bind.trans <| Eq.trans (ck_cg fun k5 => ck_bind.trans <| ck_cg fun k6 => ri_k.trans <| rfl) ck_ck)) <| Eq.trans ck_b <| ck_cg fun _ => (phi1 (fun z0 => Z e (d + 1) 46 51 [.ref 226, .int (iI x1), .int (iI x2), .int (iI x3), .int (iI x4), .int (iI x5), .int (iI (m 192 (wr x5))), u7] [.int (iI z0)] m))) <| ck_cg fun _ => (s_is_7 cat_i p_46_51).trans <| (s_il_7 p_46_53).trans <| (s_il_4 p_46_55).trans <| Eq.trans (Eq.trans ((s_c_ge_f p_46_57 rfl rfl rfl)) <| Eq.trans (ite_cg ((s_il_7 p_46_60).trans <| (s_is_4 cat_i p_46_62).trans <| rfl) (rfl)) (phi1 (fun z0 => Z e (d + 1) 46 64 [.ref 226, .int (iI x1), .int (iI x2), .int (iI x3), .int (iI z0), .int (iI x5), .int (iI (m 192 (wr x5))), .int (iI (if (wr (m 192 (wr x5))) = (-3) then 1048576 else ((1 + (64 * (jand (jshr (m 229 (wr (m 192 (wr x5)))) x3) 1))) + (m 227 (wr (((x1 + 1) * 100) + (m 192 (wr x5))))))))] [] m))) <| (s_inc_5 cat_i p_46_64).trans <| (s_goto p_46_67 rfl).trans <| rfl) ((s_il_4 p_46_70).trans <| (s_reti p_46_72 (zM_of zq_46)))
-- Plan.priceAll
theorem p_45_0 : zP1 45 0 = some (.iconst 0, 0, 0, 0) := zp_l zq_45 rfl
theorem p_45_1 : zP1 45 1 = some (.istore 4, 0, 0, 0) := zp_l zq_45 rfl
theorem p_45_3 : zP1 45 3 = some (.iload 4, 0, 0, 0) := zp_l zq_45 rfl
theorem p_45_5 : zP1 45 5 = some (.bipush 100, 0, 0, 0) := zp_l zq_45 rfl
theorem p_45_7 : zP1 45 7 = some (.if_icmp .ge 109, 0, 0, 0) := zp_l zq_45 rfl
theorem p_45_10 : zP1 45 10 = some (.aload_n 0, 0, 0, 0) := zp_l zq_45 rfl
theorem p_45_11 : zP1 45 11 = some (.getfield 15, 2, 4, 0) := zp_r zq_45 rfl
theorem p_45_14 : zP1 45 14 = some (.iload 4, 0, 0, 0) := zp_l zq_45 rfl
theorem p_45_16 : zP1 45 16 = some (.iaload, 0, 0, 0) := zp_l zq_45 rfl
theorem p_45_17 : zP1 45 17 = some (.bipush (-3), 0, 0, 0) := zp_l zq_45 rfl
theorem p_45_19 : zP1 45 19 = some (.if_icmp .eq 32, 0, 0, 0) := zp_l zq_45 rfl
theorem p_45_22 : zP1 45 22 = some (.aload_n 0, 0, 0, 0) := zp_l zq_45 rfl
theorem p_45_23 : zP1 45 23 = some (.getfield 15, 2, 4, 0) := zp_r zq_45 rfl
theorem p_45_26 : zP1 45 26 = some (.iload 4, 0, 0, 0) := zp_l zq_45 rfl
theorem p_45_28 : zP1 45 28 = some (.iaload, 0, 0, 0) := zp_l zq_45 rfl
theorem p_45_29 : zP1 45 29 = some (.iload_n 1, 0, 0, 0) := zp_l zq_45 rfl
theorem p_45_30 : zP1 45 30 = some (.if_icmp .gt 21, 0, 0, 0) := zp_l zq_45 rfl
theorem p_45_33 : zP1 45 33 = some (.iload_n 1, 0, 0, 0) := zp_l zq_45 rfl
theorem p_45_34 : zP1 45 34 = some (.aload_n 0, 0, 0, 0) := zp_l zq_45 rfl
theorem p_45_35 : zP1 45 35 = some (.getfield 15, 2, 4, 0) := zp_r zq_45 rfl
theorem p_45_38 : zP1 45 38 = some (.iload 4, 0, 0, 0) := zp_l zq_45 rfl
theorem p_45_40 : zP1 45 40 = some (.iaload, 0, 0, 0) := zp_l zq_45 rfl
theorem p_45_41 : zP1 45 41 = some (.isub, 0, 0, 0) := zp_l zq_45 rfl
theorem p_45_42 : zP1 45 42 = some (.iconst 2, 0, 0, 0) := zp_l zq_45 rfl
theorem p_45_43 : zP1 45 43 = some (.irem, 0, 0, 0) := zp_l zq_45 rfl
theorem p_45_44 : zP1 45 44 = some (.ifCond .ne 7, 0, 0, 0) := zp_l zq_45 rfl
theorem p_45_47 : zP1 45 47 = some (.iconst 1, 0, 0, 0) := zp_l zq_45 rfl
theorem p_45_48 : zP1 45 48 = some (.goto 4, 0, 0, 0) := zp_l zq_45 rfl
theorem p_45_51 : zP1 45 51 = some (.iconst 0, 0, 0, 0) := zp_l zq_45 rfl
theorem p_45_52 : zP1 45 52 = some (.istore 5, 0, 0, 0) := zp_l zq_45 rfl
theorem p_45_54 : zP1 45 54 = some (.ldc 74, 0, 0, 1048576) := zp_r zq_45 rfl
theorem p_45_56 : zP1 45 56 = some (.istore 6, 0, 0, 0) := zp_l zq_45 rfl
theorem p_45_58 : zP1 45 58 = some (.iload 5, 0, 0, 0) := zp_l zq_45 rfl
theorem p_45_60 : zP1 45 60 = some (.ifCond .eq 15, 0, 0, 0) := zp_l zq_45 rfl
theorem p_45_63 : zP1 45 63 = some (.iload 4, 0, 0, 0) := zp_l zq_45 rfl
theorem p_45_65 : zP1 45 65 = some (.iload_n 2, 0, 0, 0) := zp_l zq_45 rfl
theorem p_45_66 : zP1 45 66 = some (.if_icmp .ne 9, 0, 0, 0) := zp_l zq_45 rfl
theorem p_45_69 : zP1 45 69 = some (.iconst 0, 0, 0, 0) := zp_l zq_45 rfl
theorem p_45_70 : zP1 45 70 = some (.istore 6, 0, 0, 0) := zp_l zq_45 rfl
theorem p_45_72 : zP1 45 72 = some (.goto 24, 0, 0, 0) := zp_l zq_45 rfl
theorem p_45_75 : zP1 45 75 = some (.iload 5, 0, 0, 0) := zp_l zq_45 rfl
theorem p_45_77 : zP1 45 77 = some (.ifCond .eq 19, 0, 0, 0) := zp_l zq_45 rfl
theorem p_45_80 : zP1 45 80 = some (.iload_n 1, 0, 0, 0) := zp_l zq_45 rfl
theorem p_45_81 : zP1 45 81 = some (.bipush 60, 0, 0, 0) := zp_l zq_45 rfl
theorem p_45_83 : zP1 45 83 = some (.if_icmp .ge 13, 0, 0, 0) := zp_l zq_45 rfl
theorem p_45_86 : zP1 45 86 = some (.aload_n 0, 0, 0, 0) := zp_l zq_45 rfl
theorem p_45_87 : zP1 45 87 = some (.iload_n 1, 0, 0, 0) := zp_l zq_45 rfl
theorem p_45_88 : zP1 45 88 = some (.iload 4, 0, 0, 0) := zp_l zq_45 rfl
theorem p_45_90 : zP1 45 90 = some (.iload_n 3, 0, 0, 0) := zp_l zq_45 rfl
theorem p_45_91 : zP1 45 91 = some (.invokevirtual 75, 46, 3, 2) := zp_r zq_45 rfl
theorem p_45_94 : zP1 45 94 = some (.istore 6, 0, 0, 0) := zp_l zq_45 rfl
theorem p_45_96 : zP1 45 96 = some (.aload_n 0, 0, 0, 0) := zp_l zq_45 rfl
theorem p_45_97 : zP1 45 97 = some (.getfield 11, 2, 3, 0) := zp_r zq_45 rfl
theorem p_45_100 : zP1 45 100 = some (.iload_n 1, 0, 0, 0) := zp_l zq_45 rfl
theorem p_45_101 : zP1 45 101 = some (.bipush 100, 0, 0, 0) := zp_l zq_45 rfl
theorem p_45_103 : zP1 45 103 = some (.imul, 0, 0, 0) := zp_l zq_45 rfl
theorem p_45_104 : zP1 45 104 = some (.iload 4, 0, 0, 0) := zp_l zq_45 rfl
theorem p_45_106 : zP1 45 106 = some (.iadd, 0, 0, 0) := zp_l zq_45 rfl
theorem p_45_107 : zP1 45 107 = some (.iload 6, 0, 0, 0) := zp_l zq_45 rfl
theorem p_45_109 : zP1 45 109 = some (.iastore, 0, 0, 0) := zp_l zq_45 rfl
theorem p_45_110 : zP1 45 110 = some (.iinc 4 1, 0, 0, 0) := zp_l zq_45 rfl
theorem p_45_113 : zP1 45 113 = some (.goto (-110), 0, 0, 0) := zp_l zq_45 rfl
theorem p_45_116 : zP1 45 116 = some (.return_, 0, 0, 0) := zp_l zq_45 rfl
theorem b_45_0 {x1 : Int} {x2 : Int} {x3 : Int} : Z e (d + 1) 45 0 [.ref 226, .int (iI x1), .int (iI x2), .int (iI x3), .retAddr 0, .retAddr 0, .retAddr 0] [] m = Z e (d + 1) 45 3 [.ref 226, .int (iI x1), .int (iI x2), .int (iI x3), .int (iI 0), .retAddr 0, .retAddr 0] [] m := (s_const p_45_0).trans <| (s_is_4 cat_i p_45_1).trans <| rfl
theorem b_45_3 {x1 : Int} {x2 : Int} {x3 : Int} {x4 : Int} {u5 u6 : Value} : Z e (d + 1) 45 3 [.ref 226, .int (iI x1), .int (iI x2), .int (iI x3), .int (iI x4), u5, u6] [] m = (if (wr x4) < 100 then ck (0 ≤ (wr x4) ∧ (wr x4) < 100) (ck ((¬ (wr (m 228 (wr x4))) = (-3)) → ((0 ≤ (wr x4) ∧ (wr x4) < 100) ∧ (((wr (m 228 (wr x4))) ≤ (wr x1)) → (0 ≤ (wr x4) ∧ (wr x4) < 100)))) ((if ((¬ (wr (m 228 (wr x4))) = (-3)) ∧ (((wr (m 228 (wr x4))) ≤ (wr x1)) ∧ ((wr (jrem (x1 - (m 228 (wr x4))) 2)) = 0))) ∧ ((wr x4) = (wr x2)) then Z e (d + 1) 45 96 [.ref 226, .int (iI x1), .int (iI x2), .int (iI x3), .int (iI x4), .int (iI (if (¬ (wr (m 228 (wr x4))) = (-3)) ∧ (((wr (m 228 (wr x4))) ≤ (wr x1)) ∧ ((wr (jrem (x1 - (m 228 (wr x4))) 2)) = 0)) then 1 else 0)), .int (iI 0)] [] m else (if ((¬ (wr (m 228 (wr x4))) = (-3)) ∧ (((wr (m 228 (wr x4))) ≤ (wr x1)) ∧ ((wr (jrem (x1 - (m 228 (wr x4))) 2)) = 0))) ∧ ((wr x1) < 60) then (Z e d 46 0 [.ref 226, .int (iI x1), .int (iI x4), .int (iI x3), .retAddr 0, .retAddr 0, .retAddr 0, .retAddr 0] [] m).bind (ZK e (d + 1) 45 94 [.ref 226, .int (iI x1), .int (iI x2), .int (iI x3), .int (iI x4), .int (iI (if (¬ (wr (m 228 (wr x4))) = (-3)) ∧ (((wr (m 228 (wr x4))) ≤ (wr x1)) ∧ ((wr (jrem (x1 - (m 228 (wr x4))) 2)) = 0)) then 1 else 0)), .int (iI 1048576)] [] m) else Z e (d + 1) 45 96 [.ref 226, .int (iI x1), .int (iI x2), .int (iI x3), .int (iI x4), .int (iI (if (¬ (wr (m 228 (wr x4))) = (-3)) ∧ (((wr (m 228 (wr x4))) ≤ (wr x1)) ∧ ((wr (jrem (x1 - (m 228 (wr x4))) 2)) = 0)) then 1 else 0)), .int (iI 1048576)] [] m)))) else rn m) := (s_il_4 p_45_3).trans <| (s_bip p_45_5 rfl).trans <| Eq.trans ((s_c_ge_f p_45_7 rfl rfl wl_100)) <| ite_cg ((s_al_0 p_45_10).trans <| (s_getr p_45_11 hs_226 (by decide) rfl).trans <| (s_il_4 p_45_14).trans <| (s_ald 100 p_45_16 hs_228 rfl (by decide)).trans <| ck_cg fun k4 => (s_bip p_45_17 rfl).trans <| Eq.trans (Eq.trans (Eq.trans (s_c_eq_f p_45_19 rfl rfl wl_m3) <| Eq.trans (ite_cg ((s_al_0 p_45_22).trans <| (s_getr p_45_23 hs_226 (by decide) rfl).trans <| (s_il_4 p_45_26).trans <| (s_ald 100 p_45_28 hs_228 rfl (by decide)).trans <| Eq.trans (ck_cg fun k5 => (s_il_1 p_45_29).trans <| Eq.trans (s_c_gt_f p_45_30 rfl rfl rfl) <| Eq.trans (ite_cg ((s_il_1 p_45_33).trans <| (s_al_0 p_45_34).trans <| (s_getr p_45_35 hs_226 (by decide) rfl).trans <| (s_il_4 p_45_38).trans <| (s_ald 100 p_45_40 hs_228 rfl (by decide)).trans <| ck_cg fun k6 => (s_isub p_45_41).trans <| (s_const p_45_42).trans <| (s_iremc p_45_43 (by decide)).trans <| (s_z_ne_f p_45_44 rfl rfl)) rfl) <| Eq.trans ck_a <| ck_cg fun _ => co_and) ck_ck) rfl) <| Eq.trans ck_a <| ck_cg fun _ => co_and) <| ck_cg fun _ => Eq.trans (ite_cg ((s_const p_45_47).trans <| (s_goto p_45_48 rfl).trans <| rfl) ((s_const p_45_51).trans <| rfl)) (phi1 (fun z0 => Z e (d + 1) 45 52 [.ref 226, .int (iI x1), .int (iI x2), .int (iI x3), .int (iI x4), u5, u6] [.int (iI z0)] m))) <| ck_cg fun _ => (s_is_5 cat_i p_45_52).trans <| (s_ldc p_45_54).trans <| (s_is_6 cat_i p_45_56).trans <| (s_il_5 p_45_58).trans <| Eq.trans (Eq.trans (s_beq_f p_45_60 rfl) <| Eq.trans (ite_cg ((s_il_4 p_45_63).trans <| (s_il_2 p_45_65).trans <| (s_c_ne_f p_45_66 rfl rfl rfl)) rfl) co_and) <| ite_cg ((s_const p_45_69).trans <| (s_is_6 cat_i p_45_70).trans <| (s_goto p_45_72 rfl).trans <| rfl) ((s_il_5 p_45_75).trans <| Eq.trans (Eq.trans (s_beq_f p_45_77 rfl) <| Eq.trans (ite_cg ((s_il_1 p_45_80).trans <| (s_bip p_45_81 rfl).trans <| (s_c_ge_f p_45_83 rfl rfl wl_60)) rfl) co_and) <| ite_cg ((s_al_0 p_45_86).trans <| (s_il_1 p_45_87).trans <| (s_il_4 p_45_88).trans <| (s_il_3 p_45_90).trans <| (s_cv3 (Lc := [.ref 226, .int (iI x1), .int (iI x4), .int (iI x3), .retAddr 0, .retAddr 0, .retAddr 0, .retAddr 0]) p_45_91 (by decide) (by decide) (zM_of zq_46) ⟨Nat.le_of_ble_eq_true rfl, Nat.le_of_ble_eq_true rfl⟩ rfl (m_rc hs_226 ⟨rfl, by decide⟩))) (rfl))) ((s_retv p_45_116 (zM_of zq_45)))
theorem b_45_96 {x1 : Int} {x2 : Int} {x3 : Int} {x4 : Int} {x6 : Int} {u5 : Value} : Z e (d + 1) 45 96 [.ref 226, .int (iI x1), .int (iI x2), .int (iI x3), .int (iI x4), u5, .int (iI x6)] [] m = ck (0 ≤ (wr ((x1 * 100) + x4)) ∧ (wr ((x1 * 100) + x4)) < 6100) (Z e (d + 1) 45 3 [.ref 226, .int (iI x1), .int (iI x2), .int (iI x3), .int (iI (x4 + 1)), u5, .int (iI x6)] [] (um m 227 (wr ((x1 * 100) + x4)) x6)) := (s_al_0 p_45_96).trans <| (s_getr p_45_97 hs_226 (by decide) rfl).trans <| (s_il_1 p_45_100).trans <| (s_bip p_45_101 rfl).trans <| (s_imul p_45_103).trans <| (s_il_4 p_45_104).trans <| (s_iadd p_45_106).trans <| (s_il_6 p_45_107).trans <| (s_ast 6100 p_45_109 hs_227 rfl).trans <| ck_cg fun k1 => (s_inc_4 cat_i p_45_110).trans <| (s_goto p_45_113 rfl).trans <| rfl
theorem b_45_94 {x1 : Int} {x2 : Int} {x3 : Int} {x4 : Int} {xs0 : Int} {u5 u6 : Value} (hu5 : u5.category = 1) : Z e (d + 1) 45 94 [.ref 226, .int (iI x1), .int (iI x2), .int (iI x3), .int (iI x4), u5, u6] [.int (iI xs0)] m = Z e (d + 1) 45 96 [.ref 226, .int (iI x1), .int (iI x2), .int (iI x3), .int (iI x4), u5, .int (iI xs0)] [] m := (s_is_6 hu5 p_45_94).trans <| rfl
-- Plan.nextCell
theorem p_49_0 : zP1 49 0 = some (.aload_n 0, 0, 0, 0) := zp_l zq_49 rfl
theorem p_49_1 : zP1 49 1 = some (.getfield 11, 2, 3, 0) := zp_r zq_49 rfl
theorem p_49_4 : zP1 49 4 = some (.iload_n 1, 0, 0, 0) := zp_l zq_49 rfl
theorem p_49_5 : zP1 49 5 = some (.bipush 100, 0, 0, 0) := zp_l zq_49 rfl
theorem p_49_7 : zP1 49 7 = some (.imul, 0, 0, 0) := zp_l zq_49 rfl
theorem p_49_8 : zP1 49 8 = some (.iload_n 2, 0, 0, 0) := zp_l zq_49 rfl
theorem p_49_9 : zP1 49 9 = some (.iadd, 0, 0, 0) := zp_l zq_49 rfl
theorem p_49_10 : zP1 49 10 = some (.iaload, 0, 0, 0) := zp_l zq_49 rfl
theorem p_49_11 : zP1 49 11 = some (.istore 4, 0, 0, 0) := zp_l zq_49 rfl
theorem p_49_13 : zP1 49 13 = some (.iconst 4, 0, 0, 0) := zp_l zq_49 rfl
theorem p_49_14 : zP1 49 14 = some (.iload_n 2, 0, 0, 0) := zp_l zq_49 rfl
theorem p_49_15 : zP1 49 15 = some (.imul, 0, 0, 0) := zp_l zq_49 rfl
theorem p_49_16 : zP1 49 16 = some (.istore 5, 0, 0, 0) := zp_l zq_49 rfl
theorem p_49_18 : zP1 49 18 = some (.iload 5, 0, 0, 0) := zp_l zq_49 rfl
theorem p_49_20 : zP1 49 20 = some (.iconst 4, 0, 0, 0) := zp_l zq_49 rfl
theorem p_49_21 : zP1 49 21 = some (.iload_n 2, 0, 0, 0) := zp_l zq_49 rfl
theorem p_49_22 : zP1 49 22 = some (.imul, 0, 0, 0) := zp_l zq_49 rfl
theorem p_49_23 : zP1 49 23 = some (.iconst 4, 0, 0, 0) := zp_l zq_49 rfl
theorem p_49_24 : zP1 49 24 = some (.iadd, 0, 0, 0) := zp_l zq_49 rfl
theorem p_49_25 : zP1 49 25 = some (.if_icmp .ge 44, 0, 0, 0) := zp_l zq_49 rfl
theorem p_49_28 : zP1 49 28 = some (.aload_n 0, 0, 0, 0) := zp_l zq_49 rfl
theorem p_49_29 : zP1 49 29 = some (.getfield 37, 2, 1, 0) := zp_r zq_49 rfl
theorem p_49_32 : zP1 49 32 = some (.getfield 79, 5, 1, 0) := zp_r zq_49 rfl
theorem p_49_35 : zP1 49 35 = some (.iload 5, 0, 0, 0) := zp_l zq_49 rfl
theorem p_49_37 : zP1 49 37 = some (.iaload, 0, 0, 0) := zp_l zq_49 rfl
theorem p_49_38 : zP1 49 38 = some (.istore 6, 0, 0, 0) := zp_l zq_49 rfl
theorem p_49_40 : zP1 49 40 = some (.iload 6, 0, 0, 0) := zp_l zq_49 rfl
theorem p_49_42 : zP1 49 42 = some (.bipush (-3), 0, 0, 0) := zp_l zq_49 rfl
theorem p_49_44 : zP1 49 44 = some (.if_icmp .eq 19, 0, 0, 0) := zp_l zq_49 rfl
theorem p_49_47 : zP1 49 47 = some (.aload_n 0, 0, 0, 0) := zp_l zq_49 rfl
theorem p_49_48 : zP1 49 48 = some (.iload_n 1, 0, 0, 0) := zp_l zq_49 rfl
theorem p_49_49 : zP1 49 49 = some (.iload 6, 0, 0, 0) := zp_l zq_49 rfl
theorem p_49_51 : zP1 49 51 = some (.iload_n 3, 0, 0, 0) := zp_l zq_49 rfl
theorem p_49_52 : zP1 49 52 = some (.invokevirtual 82, 47, 3, 2) := zp_r zq_49 rfl
theorem p_49_55 : zP1 49 55 = some (.iload 4, 0, 0, 0) := zp_l zq_49 rfl
theorem p_49_57 : zP1 49 57 = some (.if_icmp .ne 6, 0, 0, 0) := zp_l zq_49 rfl
theorem p_49_60 : zP1 49 60 = some (.iload 6, 0, 0, 0) := zp_l zq_49 rfl
theorem p_49_62 : zP1 49 62 = some (.ireturn, 0, 0, 0) := zp_l zq_49 rfl
theorem p_49_63 : zP1 49 63 = some (.iinc 5 1, 0, 0, 0) := zp_l zq_49 rfl
theorem p_49_66 : zP1 49 66 = some (.goto (-48), 0, 0, 0) := zp_l zq_49 rfl
theorem p_49_69 : zP1 49 69 = some (.iload_n 2, 0, 0, 0) := zp_l zq_49 rfl
theorem p_49_70 : zP1 49 70 = some (.ireturn, 0, 0, 0) := zp_l zq_49 rfl
theorem b_49_0 {x1 : Int} {x2 : Int} {x3 : Int} : Z e (d + 1) 49 0 [.ref 226, .int (iI x1), .int (iI x2), .int (iI x3), .retAddr 0, .retAddr 0, .retAddr 0] [] m = ck (0 ≤ (wr ((x1 * 100) + x2)) ∧ (wr ((x1 * 100) + x2)) < 6100) (Z e (d + 1) 49 18 [.ref 226, .int (iI x1), .int (iI x2), .int (iI x3), .int (iI (m 227 (wr ((x1 * 100) + x2)))), .int (iI (4 * x2)), .retAddr 0] [] m) := (s_al_0 p_49_0).trans <| (s_getr p_49_1 hs_226 (by decide) rfl).trans <| (s_il_1 p_49_4).trans <| (s_bip p_49_5 rfl).trans <| (s_imul p_49_7).trans <| (s_il_2 p_49_8).trans <| (s_iadd p_49_9).trans <| (s_ald 6100 p_49_10 hs_227 rfl (by decide)).trans <| ck_cg fun k1 => (s_is_4 cat_i p_49_11).trans <| (s_const p_49_13).trans <| (s_il_2 p_49_14).trans <| (s_imul p_49_15).trans <| (s_is_5 cat_i p_49_16).trans <| rfl
theorem b_49_18 {x1 : Int} {x2 : Int} {x3 : Int} {x4 : Int} {x5 : Int} {u6 : Value} : Z e (d + 1) 49 18 [.ref 226, .int (iI x1), .int (iI x2), .int (iI x3), .int (iI x4), .int (iI x5), u6] [] m = (if (wr x5) < (wr ((4 * x2) + 4)) then ck (0 ≤ (wr x5) ∧ (wr x5) < 400) (ck ((¬ (wr (m 192 (wr x5))) = (-3)) → ((0 ≤ (wr (m 192 (wr x5))) ∧ (wr (m 192 (wr x5))) < 100) ∧ (0 ≤ (wr (((x1 + 1) * 100) + (m 192 (wr x5)))) ∧ (wr (((x1 + 1) * 100) + (m 192 (wr x5)))) < 6100))) (if (¬ (wr (m 192 (wr x5))) = (-3)) ∧ ((wr ((1 + (64 * (jand (jshr (m 229 (wr (m 192 (wr x5)))) x3) 1))) + (m 227 (wr (((x1 + 1) * 100) + (m 192 (wr x5))))))) = (wr x4)) then ri (m 192 (wr x5)) m else Z e (d + 1) 49 18 [.ref 226, .int (iI x1), .int (iI x2), .int (iI x3), .int (iI x4), .int (iI (x5 + 1)), .int (iI (m 192 (wr x5)))] [] m)) else ri x2 m) := (s_il_5 p_49_18).trans <| (s_const p_49_20).trans <| (s_il_2 p_49_21).trans <| (s_imul p_49_22).trans <| (s_const p_49_23).trans <| (s_iadd p_49_24).trans <| Eq.trans ((s_c_ge_f p_49_25 rfl rfl rfl)) <| ite_cg ((s_al_0 p_49_28).trans <| (s_getr p_49_29 hs_226 (by decide) rfl).trans <| (s_getr p_49_32 hs_191 (by decide) rfl).trans <| (s_il_5 p_49_35).trans <| (s_ald 400 p_49_37 hs_192 rfl (by decide)).trans <| ck_cg fun k1 => (s_is_6 cat_i p_49_38).trans <| (s_il_6 p_49_40).trans <| (s_bip p_49_42 rfl).trans <| Eq.trans (Eq.trans (s_c_eq_f p_49_44 rfl rfl wl_m3) <| Eq.trans (ite_cg ((s_al_0 p_49_47).trans <| (s_il_1 p_49_48).trans <| (s_il_6 p_49_49).trans <| (s_il_3 p_49_51).trans <| (s_cv3 (Lc := [.ref 226, .int (iI x1), .int (iI (m 192 (wr x5))), .int (iI x3), .retAddr 0]) p_49_52 (by decide) (by decide) (zM_of zq_47) ⟨Nat.le_of_ble_eq_true rfl, Nat.le_of_ble_eq_true rfl⟩ rfl (m_rc hs_226 ⟨rfl, by decide⟩)).trans <| (bd b_47_0).trans <| ck_bind.trans <| Eq.trans (ck_cg fun k2 => ck_bind.trans <| ck_cg fun k3 => ri_k.trans <| (s_il_4 p_49_55).trans <| (s_c_ne_f p_49_57 rfl rfl rfl)) ck_ck) rfl) <| Eq.trans ck_a <| ck_cg fun _ => co_and) <| ck_cg fun _ => ite_cg ((s_il_6 p_49_60).trans <| (s_reti p_49_62 (zM_of zq_49))) ((s_inc_5 cat_i p_49_63).trans <| (s_goto p_49_66 rfl).trans <| rfl)) ((s_il_2 p_49_69).trans <| (s_reti p_49_70 (zM_of zq_49)))
-- Table.add
theorem p_106_0 : zP1 106 0 = some (.aload_n 0, 0, 0, 0) := zp_l zq_106 rfl
theorem p_106_1 : zP1 106 1 = some (.getfield 22, 7, 3, 0) := zp_r zq_106 rfl
theorem p_106_4 : zP1 106 4 = some (.aload_n 0, 0, 0, 0) := zp_l zq_106 rfl
theorem p_106_5 : zP1 106 5 = some (.getfield 9, 7, 2, 0) := zp_r zq_106 rfl
theorem p_106_8 : zP1 106 8 = some (.if_icmp .lt 6, 0, 0, 0) := zp_l zq_106 rfl
theorem p_106_11 : zP1 106 11 = some (.bipush (-2), 0, 0, 0) := zp_l zq_106 rfl
theorem p_106_13 : zP1 106 13 = some (.ireturn, 0, 0, 0) := zp_l zq_106 rfl
theorem p_106_14 : zP1 106 14 = some (.iconst 0, 0, 0, 0) := zp_l zq_106 rfl
theorem p_106_15 : zP1 106 15 = some (.istore_n 1, 0, 0, 0) := zp_l zq_106 rfl
theorem p_106_16 : zP1 106 16 = some (.iload_n 1, 0, 0, 0) := zp_l zq_106 rfl
theorem p_106_17 : zP1 106 17 = some (.aload_n 0, 0, 0, 0) := zp_l zq_106 rfl
theorem p_106_18 : zP1 106 18 = some (.getfield 15, 7, 0, 0) := zp_r zq_106 rfl
theorem p_106_21 : zP1 106 21 = some (.if_icmp .ge 26, 0, 0, 0) := zp_l zq_106 rfl
theorem p_106_24 : zP1 106 24 = some (.aload_n 0, 0, 0, 0) := zp_l zq_106 rfl
theorem p_106_25 : zP1 106 25 = some (.getfield 18, 7, 1, 0) := zp_r zq_106 rfl
theorem p_106_28 : zP1 106 28 = some (.aload_n 0, 0, 0, 0) := zp_l zq_106 rfl
theorem p_106_29 : zP1 106 29 = some (.getfield 22, 7, 3, 0) := zp_r zq_106 rfl
theorem p_106_32 : zP1 106 32 = some (.aload_n 0, 0, 0, 0) := zp_l zq_106 rfl
theorem p_106_33 : zP1 106 33 = some (.getfield 15, 7, 0, 0) := zp_r zq_106 rfl
theorem p_106_36 : zP1 106 36 = some (.imul, 0, 0, 0) := zp_l zq_106 rfl
theorem p_106_37 : zP1 106 37 = some (.iload_n 1, 0, 0, 0) := zp_l zq_106 rfl
theorem p_106_38 : zP1 106 38 = some (.iadd, 0, 0, 0) := zp_l zq_106 rfl
theorem p_106_39 : zP1 106 39 = some (.iconst 0, 0, 0, 0) := zp_l zq_106 rfl
theorem p_106_40 : zP1 106 40 = some (.iastore, 0, 0, 0) := zp_l zq_106 rfl
theorem p_106_41 : zP1 106 41 = some (.iinc 1 1, 0, 0, 0) := zp_l zq_106 rfl
theorem p_106_44 : zP1 106 44 = some (.goto (-28), 0, 0, 0) := zp_l zq_106 rfl
theorem p_106_47 : zP1 106 47 = some (.aload_n 0, 0, 0, 0) := zp_l zq_106 rfl
theorem p_106_48 : zP1 106 48 = some (.dup, 0, 0, 0) := zp_l zq_106 rfl
theorem p_106_49 : zP1 106 49 = some (.getfield 22, 7, 3, 0) := zp_r zq_106 rfl
theorem p_106_52 : zP1 106 52 = some (.iconst 1, 0, 0, 0) := zp_l zq_106 rfl
theorem p_106_53 : zP1 106 53 = some (.iadd, 0, 0, 0) := zp_l zq_106 rfl
theorem p_106_54 : zP1 106 54 = some (.putfield 22, 7, 3, 0) := zp_r zq_106 rfl
theorem p_106_57 : zP1 106 57 = some (.aload_n 0, 0, 0, 0) := zp_l zq_106 rfl
theorem p_106_58 : zP1 106 58 = some (.getfield 22, 7, 3, 0) := zp_r zq_106 rfl
theorem p_106_61 : zP1 106 61 = some (.iconst 1, 0, 0, 0) := zp_l zq_106 rfl
theorem p_106_62 : zP1 106 62 = some (.isub, 0, 0, 0) := zp_l zq_106 rfl
theorem p_106_63 : zP1 106 63 = some (.ireturn, 0, 0, 0) := zp_l zq_106 rfl
theorem b_106_0 {a ca w mx : Nat} (hT : zTab a ca w mx) : Z e d 106 0 [.ref a, .retAddr 0] [] m = (if (wr (mx : Int)) ≤ (wr (m a 3)) then ri (-2) m else Z e d 106 16 [.ref a, .int (iI 0)] [] m) := (s_al_0 p_106_0).trans <| (s_get p_106_1 (hT).1 (by decide) rfl).trans <| (s_al_0 p_106_4).trans <| (s_getr p_106_5 (hT).1 (by decide) rfl).trans <| Eq.trans ((s_c_lt_f p_106_8 rfl rfl rfl)) <| ite_cg ((s_bip p_106_11 rfl).trans <| (s_reti p_106_13 (zM_of zq_106))) ((s_const p_106_14).trans <| (s_is_1 cat_r p_106_15).trans <| rfl)
theorem b_106_16 {a ca w mx : Nat} {x1 : Int} (hT : zTab a ca w mx) : Z e d 106 16 [.ref a, .int (iI x1)] [] m = (if (wr x1) < (wr (w : Int)) then ck (0 ≤ (wr (((m a 3) * (w : Int)) + x1)) ∧ (wr (((m a 3) * (w : Int)) + x1)) < ((mx * w : Nat) : Int)) (Z e d 106 16 [.ref a, .int (iI (x1 + 1))] [] (um m ca (wr (((m a 3) * (w : Int)) + x1)) 0)) else ri (((um m a 3 ((m a 3) + 1)) a 3) - 1) (um m a 3 ((m a 3) + 1))) := (s_il_1 p_106_16).trans <| (s_al_0 p_106_17).trans <| (s_getr p_106_18 (hT).1 (by decide) rfl).trans <| Eq.trans ((s_c_ge_f p_106_21 rfl rfl rfl)) <| ite_cg ((s_al_0 p_106_24).trans <| (s_getr p_106_25 (hT).1 (by decide) rfl).trans <| (s_al_0 p_106_28).trans <| (s_get p_106_29 (hT).1 (by decide) rfl).trans <| (s_al_0 p_106_32).trans <| (s_getr p_106_33 (hT).1 (by decide) rfl).trans <| (s_imul p_106_36).trans <| (s_il_1 p_106_37).trans <| (s_iadd p_106_38).trans <| (s_const p_106_39).trans <| (s_ast ((mx * w : Nat) : Int) p_106_40 (hT.2).1 rfl).trans <| ck_cg fun k1 => (s_inc_1 cat_r p_106_41).trans <| (s_goto p_106_44 rfl).trans <| rfl) ((s_al_0 p_106_47).trans <| (s_dup cat_r p_106_48).trans <| (s_get p_106_49 (hT).1 (by decide) rfl).trans <| (s_const p_106_52).trans <| (s_iadd p_106_53).trans <| (s_put p_106_54 (hT).1 (by decide) rfl).trans <| (s_al_0 p_106_57).trans <| (s_get p_106_58 (hT).1 (by decide) rfl).trans <| (s_const p_106_61).trans <| (s_isub p_106_62).trans <| (s_reti p_106_63 (zM_of zq_106)))
-- Table.set
theorem p_105_0 : zP1 105 0 = some (.iload_n 1, 0, 0, 0) := zp_l zq_105 rfl
theorem p_105_1 : zP1 105 1 = some (.ifCond .lt 23, 0, 0, 0) := zp_l zq_105 rfl
theorem p_105_4 : zP1 105 4 = some (.iload_n 1, 0, 0, 0) := zp_l zq_105 rfl
theorem p_105_5 : zP1 105 5 = some (.aload_n 0, 0, 0, 0) := zp_l zq_105 rfl
theorem p_105_6 : zP1 105 6 = some (.getfield 22, 7, 3, 0) := zp_r zq_105 rfl
theorem p_105_9 : zP1 105 9 = some (.if_icmp .ge 15, 0, 0, 0) := zp_l zq_105 rfl
theorem p_105_12 : zP1 105 12 = some (.iload_n 2, 0, 0, 0) := zp_l zq_105 rfl
theorem p_105_13 : zP1 105 13 = some (.ifCond .lt 11, 0, 0, 0) := zp_l zq_105 rfl
theorem p_105_16 : zP1 105 16 = some (.iload_n 2, 0, 0, 0) := zp_l zq_105 rfl
theorem p_105_17 : zP1 105 17 = some (.aload_n 0, 0, 0, 0) := zp_l zq_105 rfl
theorem p_105_18 : zP1 105 18 = some (.getfield 15, 7, 0, 0) := zp_r zq_105 rfl
theorem p_105_21 : zP1 105 21 = some (.if_icmp .lt 4, 0, 0, 0) := zp_l zq_105 rfl
theorem p_105_24 : zP1 105 24 = some (.return_, 0, 0, 0) := zp_l zq_105 rfl
theorem p_105_25 : zP1 105 25 = some (.aload_n 0, 0, 0, 0) := zp_l zq_105 rfl
theorem p_105_26 : zP1 105 26 = some (.getfield 18, 7, 1, 0) := zp_r zq_105 rfl
theorem p_105_29 : zP1 105 29 = some (.iload_n 1, 0, 0, 0) := zp_l zq_105 rfl
theorem p_105_30 : zP1 105 30 = some (.aload_n 0, 0, 0, 0) := zp_l zq_105 rfl
theorem p_105_31 : zP1 105 31 = some (.getfield 15, 7, 0, 0) := zp_r zq_105 rfl
theorem p_105_34 : zP1 105 34 = some (.imul, 0, 0, 0) := zp_l zq_105 rfl
theorem p_105_35 : zP1 105 35 = some (.iload_n 2, 0, 0, 0) := zp_l zq_105 rfl
theorem p_105_36 : zP1 105 36 = some (.iadd, 0, 0, 0) := zp_l zq_105 rfl
theorem p_105_37 : zP1 105 37 = some (.iload_n 3, 0, 0, 0) := zp_l zq_105 rfl
theorem p_105_38 : zP1 105 38 = some (.iastore, 0, 0, 0) := zp_l zq_105 rfl
theorem p_105_39 : zP1 105 39 = some (.return_, 0, 0, 0) := zp_l zq_105 rfl
theorem b_105_0 {a ca w mx : Nat} {x1 : Int} {x2 : Int} {x3 : Int} (hT : zTab a ca w mx) : Z e d 105 0 [.ref a, .int (iI x1), .int (iI x2), .int (iI x3)] [] m = (if ((wr x1) < 0) ∨ (((wr (m a 3)) ≤ (wr x1)) ∨ (((wr x2) < 0) ∨ ((wr (w : Int)) ≤ (wr x2)))) then rn m else ck (0 ≤ (wr ((x1 * (w : Int)) + x2)) ∧ (wr ((x1 * (w : Int)) + x2)) < ((mx * w : Nat) : Int)) (rn (um m ca (wr ((x1 * (w : Int)) + x2)) x3))) := (s_il_1 p_105_0).trans <| Eq.trans (Eq.trans (s_z_lt_t p_105_1 rfl rfl) <| Eq.trans (ite_cg rfl ((s_il_1 p_105_4).trans <| (s_al_0 p_105_5).trans <| (s_get p_105_6 (hT).1 (by decide) rfl).trans <| Eq.trans (s_c_ge_t p_105_9 rfl rfl rfl) <| Eq.trans (ite_cg rfl ((s_il_2 p_105_12).trans <| Eq.trans (s_z_lt_t p_105_13 rfl rfl) <| Eq.trans (ite_cg rfl ((s_il_2 p_105_16).trans <| (s_al_0 p_105_17).trans <| (s_getr p_105_18 (hT).1 (by decide) rfl).trans <| (s_c_lt_f p_105_21 rfl rfl rfl))) co_or)) co_or)) co_or) <| ite_cg ((s_retv p_105_24 (zM_of zq_105))) ((s_al_0 p_105_25).trans <| (s_getr p_105_26 (hT).1 (by decide) rfl).trans <| (s_il_1 p_105_29).trans <| (s_al_0 p_105_30).trans <| (s_getr p_105_31 (hT).1 (by decide) rfl).trans <| (s_imul p_105_34).trans <| (s_il_2 p_105_35).trans <| (s_iadd p_105_36).trans <| (s_il_3 p_105_37).trans <| (s_ast ((mx * w : Nat) : Int) p_105_38 (hT.2).1 rfl).trans <| ck_cg fun k1 => (s_retv p_105_39 (zM_of zq_105)))
-- Table.copyFrom
theorem p_108_0 : zP1 108 0 = some (.aload_n 1, 0, 0, 0) := zp_l zq_108 rfl
theorem p_108_1 : zP1 108 1 = some (.getfield 18, 7, 1, 0) := zp_r zq_108 rfl
theorem p_108_4 : zP1 108 4 = some (.arraylength, 0, 0, 0) := zp_l zq_108 rfl
theorem p_108_5 : zP1 108 5 = some (.aload_n 0, 0, 0, 0) := zp_l zq_108 rfl
theorem p_108_6 : zP1 108 6 = some (.getfield 18, 7, 1, 0) := zp_r zq_108 rfl
theorem p_108_9 : zP1 108 9 = some (.arraylength, 0, 0, 0) := zp_l zq_108 rfl
theorem p_108_10 : zP1 108 10 = some (.if_icmp .eq 4, 0, 0, 0) := zp_l zq_108 rfl
theorem p_108_13 : zP1 108 13 = some (.return_, 0, 0, 0) := zp_l zq_108 rfl
theorem p_108_14 : zP1 108 14 = some (.aload_n 0, 0, 0, 0) := zp_l zq_108 rfl
theorem p_108_15 : zP1 108 15 = some (.aload_n 1, 0, 0, 0) := zp_l zq_108 rfl
theorem p_108_16 : zP1 108 16 = some (.getfield 22, 7, 3, 0) := zp_r zq_108 rfl
theorem p_108_19 : zP1 108 19 = some (.putfield 22, 7, 3, 0) := zp_r zq_108 rfl
theorem p_108_22 : zP1 108 22 = some (.aload_n 1, 0, 0, 0) := zp_l zq_108 rfl
theorem p_108_23 : zP1 108 23 = some (.getfield 18, 7, 1, 0) := zp_r zq_108 rfl
theorem p_108_26 : zP1 108 26 = some (.iconst 0, 0, 0, 0) := zp_l zq_108 rfl
theorem p_108_27 : zP1 108 27 = some (.aload_n 0, 0, 0, 0) := zp_l zq_108 rfl
theorem p_108_28 : zP1 108 28 = some (.getfield 18, 7, 1, 0) := zp_r zq_108 rfl
theorem p_108_31 : zP1 108 31 = some (.iconst 0, 0, 0, 0) := zp_l zq_108 rfl
theorem p_108_32 : zP1 108 32 = some (.aload_n 0, 0, 0, 0) := zp_l zq_108 rfl
theorem p_108_33 : zP1 108 33 = some (.getfield 22, 7, 3, 0) := zp_r zq_108 rfl
theorem p_108_36 : zP1 108 36 = some (.aload_n 0, 0, 0, 0) := zp_l zq_108 rfl
theorem p_108_37 : zP1 108 37 = some (.getfield 15, 7, 0, 0) := zp_r zq_108 rfl
theorem p_108_40 : zP1 108 40 = some (.imul, 0, 0, 0) := zp_l zq_108 rfl
theorem p_108_41 : zP1 108 41 = some (.invokestatic 25, 9999, 0, 0) := zp_r zq_108 rfl
theorem p_108_44 : zP1 108 44 = some (.return_, 0, 0, 0) := zp_l zq_108 rfl
theorem b_108_0 {a ca w mx : Nat} {a2 ca2 w2 mx2 : Nat} (hT : zTab a ca w mx) (hT2 : zTab a2 ca2 w2 mx2) : Z e d 108 0 [.ref a, .ref a2] [] m = (if ¬ (wr ((mx2 * w2 : Nat) : Int)) = (wr ((mx * w : Nat) : Int)) then rn m else ck (0 ≤ (wr (((um m a 3 (m a2 3)) a 3) * (w : Int))) ∧ 0 ≤ (wr 0) ∧ 0 ≤ (wr 0) ∧ (wr 0) + (wr (((um m a 3 (m a2 3)) a 3) * (w : Int))) ≤ ((mx2 * w2 : Nat) : Int) ∧ (wr 0) + (wr (((um m a 3 (m a2 3)) a 3) * (w : Int))) ≤ ((mx * w : Nat) : Int)) (rn (uc (um m a 3 (m a2 3)) ca2 (wr 0) ca (wr 0) (wr (((um m a 3 (m a2 3)) a 3) * (w : Int)))))) := (s_al_1 p_108_0).trans <| (s_getr p_108_1 (hT2).1 (by decide) rfl).trans <| (s_len ((mx2 * w2 : Nat) : Int) p_108_4 (hT2.2).1 rfl (hT2.2).2).trans <| (s_al_0 p_108_5).trans <| (s_getr p_108_6 (hT).1 (by decide) rfl).trans <| (s_len ((mx * w : Nat) : Int) p_108_9 (hT.2).1 rfl (hT.2).2).trans <| Eq.trans ((s_c_eq_f p_108_10 rfl rfl rfl)) <| ite_cg ((s_retv p_108_13 (zM_of zq_108))) ((s_al_0 p_108_14).trans <| (s_al_1 p_108_15).trans <| (s_get p_108_16 (hT2).1 (by decide) rfl).trans <| (s_put p_108_19 (hT).1 (by decide) rfl).trans <| (s_al_1 p_108_22).trans <| (s_getr p_108_23 (hT2).1 (by decide) rfl).trans <| (s_const p_108_26).trans <| (s_al_0 p_108_27).trans <| (s_getr p_108_28 (hT).1 (by decide) rfl).trans <| (s_const p_108_31).trans <| (s_al_0 p_108_32).trans <| (s_get p_108_33 (hT).1 (by decide) rfl).trans <| (s_al_0 p_108_36).trans <| (s_getr p_108_37 (hT).1 (by decide) rfl).trans <| (s_imul p_108_40).trans <| (s_cpy (n0' := ((mx2 * w2 : Nat) : Int)) (n1' := ((mx * w : Nat) : Int)) p_108_41 (hT2.2).1 (hT.2).1 rfl rfl).trans <| ck_cg fun k1 => (s_retv p_108_44 (zM_of zq_108)))
-- Plan.tellRows
theorem p_48_0 : zP1 48 0 = some (.aload_n 0, 0, 0, 0) := zp_l zq_48 rfl
theorem p_48_1 : zP1 48 1 = some (.getfield 30, 2, 7, 0) := zp_r zq_48 rfl
theorem p_48_4 : zP1 48 4 = some (.iconst 0, 0, 0, 0) := zp_l zq_48 rfl
theorem p_48_5 : zP1 48 5 = some (.putfield 85, 7, 3, 0) := zp_r zq_48 rfl
theorem p_48_8 : zP1 48 8 = some (.iload_n 1, 0, 0, 0) := zp_l zq_48 rfl
theorem p_48_9 : zP1 48 9 = some (.istore 4, 0, 0, 0) := zp_l zq_48 rfl
theorem p_48_11 : zP1 48 11 = some (.iconst 0, 0, 0, 0) := zp_l zq_48 rfl
theorem p_48_12 : zP1 48 12 = some (.istore 5, 0, 0, 0) := zp_l zq_48 rfl
theorem p_48_14 : zP1 48 14 = some (.iload 5, 0, 0, 0) := zp_l zq_48 rfl
theorem p_48_16 : zP1 48 16 = some (.bipush 60, 0, 0, 0) := zp_l zq_48 rfl
theorem p_48_18 : zP1 48 18 = some (.if_icmp .ge 79, 0, 0, 0) := zp_l zq_48 rfl
theorem p_48_21 : zP1 48 21 = some (.iload 4, 0, 0, 0) := zp_l zq_48 rfl
theorem p_48_23 : zP1 48 23 = some (.iload_n 2, 0, 0, 0) := zp_l zq_48 rfl
theorem p_48_24 : zP1 48 24 = some (.if_icmp .eq 73, 0, 0, 0) := zp_l zq_48 rfl
theorem p_48_27 : zP1 48 27 = some (.aload_n 0, 0, 0, 0) := zp_l zq_48 rfl
theorem p_48_28 : zP1 48 28 = some (.iload 5, 0, 0, 0) := zp_l zq_48 rfl
theorem p_48_30 : zP1 48 30 = some (.iload_n 3, 0, 0, 0) := zp_l zq_48 rfl
theorem p_48_31 : zP1 48 31 = some (.invokevirtual 57, 44, 2, 2) := zp_r zq_48 rfl
theorem p_48_34 : zP1 48 34 = some (.istore 6, 0, 0, 0) := zp_l zq_48 rfl
theorem p_48_36 : zP1 48 36 = some (.aload_n 0, 0, 0, 0) := zp_l zq_48 rfl
theorem p_48_37 : zP1 48 37 = some (.iload 5, 0, 0, 0) := zp_l zq_48 rfl
theorem p_48_39 : zP1 48 39 = some (.iload 4, 0, 0, 0) := zp_l zq_48 rfl
theorem p_48_41 : zP1 48 41 = some (.iload 6, 0, 0, 0) := zp_l zq_48 rfl
theorem p_48_43 : zP1 48 43 = some (.invokevirtual 88, 49, 3, 2) := zp_r zq_48 rfl
theorem p_48_46 : zP1 48 46 = some (.istore 4, 0, 0, 0) := zp_l zq_48 rfl
theorem p_48_48 : zP1 48 48 = some (.aload_n 0, 0, 0, 0) := zp_l zq_48 rfl
theorem p_48_49 : zP1 48 49 = some (.getfield 30, 2, 7, 0) := zp_r zq_48 rfl
theorem p_48_52 : zP1 48 52 = some (.invokevirtual 91, 106, 0, 7) := zp_r zq_48 rfl
theorem p_48_55 : zP1 48 55 = some (.istore 7, 0, 0, 0) := zp_l zq_48 rfl
theorem p_48_57 : zP1 48 57 = some (.aload_n 0, 0, 0, 0) := zp_l zq_48 rfl
theorem p_48_58 : zP1 48 58 = some (.getfield 30, 2, 7, 0) := zp_r zq_48 rfl
theorem p_48_61 : zP1 48 61 = some (.iload 7, 0, 0, 0) := zp_l zq_48 rfl
theorem p_48_63 : zP1 48 63 = some (.iconst 0, 0, 0, 0) := zp_l zq_48 rfl
theorem p_48_64 : zP1 48 64 = some (.iload 4, 0, 0, 0) := zp_l zq_48 rfl
theorem p_48_66 : zP1 48 66 = some (.invokevirtual 95, 105, 3, 7) := zp_r zq_48 rfl
theorem p_48_69 : zP1 48 69 = some (.aload_n 0, 0, 0, 0) := zp_l zq_48 rfl
theorem p_48_70 : zP1 48 70 = some (.getfield 30, 2, 7, 0) := zp_r zq_48 rfl
theorem p_48_73 : zP1 48 73 = some (.iload 7, 0, 0, 0) := zp_l zq_48 rfl
theorem p_48_75 : zP1 48 75 = some (.iconst 1, 0, 0, 0) := zp_l zq_48 rfl
theorem p_48_76 : zP1 48 76 = some (.aload_n 0, 0, 0, 0) := zp_l zq_48 rfl
theorem p_48_77 : zP1 48 77 = some (.getfield 18, 2, 5, 0) := zp_r zq_48 rfl
theorem p_48_80 : zP1 48 80 = some (.iload 4, 0, 0, 0) := zp_l zq_48 rfl
theorem p_48_82 : zP1 48 82 = some (.iaload, 0, 0, 0) := zp_l zq_48 rfl
theorem p_48_83 : zP1 48 83 = some (.iload 6, 0, 0, 0) := zp_l zq_48 rfl
theorem p_48_85 : zP1 48 85 = some (.ishr, 0, 0, 0) := zp_l zq_48 rfl
theorem p_48_86 : zP1 48 86 = some (.iconst 1, 0, 0, 0) := zp_l zq_48 rfl
theorem p_48_87 : zP1 48 87 = some (.iand, 0, 0, 0) := zp_l zq_48 rfl
theorem p_48_88 : zP1 48 88 = some (.invokevirtual 95, 105, 3, 7) := zp_r zq_48 rfl
theorem p_48_91 : zP1 48 91 = some (.iinc 5 1, 0, 0, 0) := zp_l zq_48 rfl
theorem p_48_94 : zP1 48 94 = some (.goto (-80), 0, 0, 0) := zp_l zq_48 rfl
theorem p_48_97 : zP1 48 97 = some (.aload_n 0, 0, 0, 0) := zp_l zq_48 rfl
theorem p_48_98 : zP1 48 98 = some (.getfield 26, 2, 6, 0) := zp_r zq_48 rfl
theorem p_48_101 : zP1 48 101 = some (.aload_n 0, 0, 0, 0) := zp_l zq_48 rfl
theorem p_48_102 : zP1 48 102 = some (.getfield 30, 2, 7, 0) := zp_r zq_48 rfl
theorem p_48_105 : zP1 48 105 = some (.invokevirtual 98, 108, 1, 7) := zp_r zq_48 rfl
theorem p_48_108 : zP1 48 108 = some (.aload_n 0, 0, 0, 0) := zp_l zq_48 rfl
theorem p_48_109 : zP1 48 109 = some (.iconst 1, 0, 0, 0) := zp_l zq_48 rfl
theorem p_48_110 : zP1 48 110 = some (.putfield 102, 2, 8, 1) := zp_r zq_48 rfl
theorem p_48_113 : zP1 48 113 = some (.return_, 0, 0, 0) := zp_l zq_48 rfl
theorem b_48_0 {x1 : Int} {x2 : Int} {x3 : Int} : Z e (d + 1) 48 0 [.ref 226, .int (iI x1), .int (iI x2), .int (iI x3), .retAddr 0, .retAddr 0, .retAddr 0, .retAddr 0] [] m = Z e (d + 1) 48 14 [.ref 226, .int (iI x1), .int (iI x2), .int (iI x3), .int (iI x1), .int (iI 0), .retAddr 0, .retAddr 0] [] (um m 232 3 0) := (s_al_0 p_48_0).trans <| (s_getr p_48_1 hs_226 (by decide) rfl).trans <| (s_const p_48_4).trans <| (s_put p_48_5 hs_232 (by decide) rfl).trans <| (s_il_1 p_48_8).trans <| (s_is_4 cat_i p_48_9).trans <| (s_const p_48_11).trans <| (s_is_5 cat_i p_48_12).trans <| rfl
theorem b_48_14 {x2 : Int} {x3 : Int} {x4 : Int} {x5 : Int} {u1 u6 u7 : Value} : Z e (d + 1) 48 14 [.ref 226, u1, .int (iI x2), .int (iI x3), .int (iI x4), .int (iI x5), u6, u7] [] m = (if ((wr x5) < 60) ∧ (¬ (wr x4) = (wr x2)) then ck (¬ ((wr x3) = 0)) ((Z e d 49 0 [.ref 226, .int (iI x5), .int (iI x4), .int (iI (jrem (((m 1 0) + (jdiv x5 x3)) + 1) 24)), .retAddr 0, .retAddr 0, .retAddr 0] [] m).bind (ZK e (d + 1) 48 46 [.ref 226, u1, .int (iI x2), .int (iI x3), .int (iI x4), .int (iI x5), .int (iI (jrem (((m 1 0) + (jdiv x5 x3)) + 1) 24)), u7] [] m)) else Z e (d + 1) 48 97 [.ref 226, u1, .int (iI x2), .int (iI x3), .int (iI x4), .int (iI x5), u6, u7] [] m) := (s_il_5 p_48_14).trans <| (s_bip p_48_16 rfl).trans <| Eq.trans (Eq.trans (s_c_ge_f p_48_18 rfl rfl wl_60) <| Eq.trans (ite_cg ((s_il_4 p_48_21).trans <| (s_il_2 p_48_23).trans <| (s_c_eq_f p_48_24 rfl rfl rfl)) rfl) co_and) <| ite_cg ((s_al_0 p_48_27).trans <| (s_il_5 p_48_28).trans <| (s_il_3 p_48_30).trans <| (s_cv2 (Lc := [.ref 226, .int (iI x5), .int (iI x3)]) p_48_31 (by decide) (by decide) (zM_of zq_44) ⟨Nat.le_of_ble_eq_true rfl, Nat.le_of_ble_eq_true rfl⟩ rfl (m_rc hs_226 ⟨rfl, by decide⟩)).trans <| (bd b_44_0).trans <| ck_bind.trans <| ck_cg fun _ => ri_k.trans <| (s_is_6 cat_i p_48_34).trans <| (s_al_0 p_48_36).trans <| (s_il_5 p_48_37).trans <| (s_il_4 p_48_39).trans <| (s_il_6 p_48_41).trans <| (s_cv3 (Lc := [.ref 226, .int (iI x5), .int (iI x4), .int (iI (jrem (((m 1 0) + (jdiv x5 x3)) + 1) 24)), .retAddr 0, .retAddr 0, .retAddr 0]) p_48_43 (by decide) (by decide) (zM_of zq_49) ⟨Nat.le_of_ble_eq_true rfl, Nat.le_of_ble_eq_true rfl⟩ rfl (m_rc hs_226 ⟨rfl, by decide⟩))) (rfl)
theorem b_48_97 {u1 u2 u3 u4 u5 u6 u7 : Value} : Z e (d + 1) 48 97 [.ref 226, u1, u2, u3, u4, u5, u6, u7] [] m = (Z e d 108 0 [.ref 230, .ref 232] [] m).bind (ZK e (d + 1) 48 108 [.ref 226, u1, u2, u3, u4, u5, u6, u7] [] m) := (s_al_0 p_48_97).trans <| (s_getr p_48_98 hs_226 (by decide) rfl).trans <| (s_al_0 p_48_101).trans <| (s_getr p_48_102 hs_226 (by decide) rfl).trans <| (s_cv1 (Lc := [.ref 230, .ref 232]) p_48_105 (by decide) (by decide) (zM_of zq_108) ⟨Nat.le_of_ble_eq_true rfl, Nat.le_of_ble_eq_true rfl⟩ rfl (m_rc hs_230 ⟨rfl, by decide⟩))
theorem b_48_46 {x2 : Int} {x3 : Int} {x5 : Int} {x6 : Int} {xs0 : Int} {u1 u4 u7 : Value} : Z e (d + 1) 48 46 [.ref 226, u1, .int (iI x2), .int (iI x3), u4, .int (iI x5), .int (iI x6), u7] [.int (iI xs0)] m = (Z e d 106 0 [.ref 232, .retAddr 0] [] m).bind (ZK e (d + 1) 48 55 [.ref 226, u1, .int (iI x2), .int (iI x3), .int (iI xs0), .int (iI x5), .int (iI x6), u7] [] m) := (s_is_4 cat_i p_48_46).trans <| (s_al_0 p_48_48).trans <| (s_getr p_48_49 hs_226 (by decide) rfl).trans <| (s_cv0 (Lc := [.ref 232, .retAddr 0]) p_48_52 (by decide) (by decide) (zM_of zq_106) ⟨Nat.le_of_ble_eq_true rfl, Nat.le_of_ble_eq_true rfl⟩ rfl (m_rc hs_232 ⟨rfl, by decide⟩))
theorem b_48_108 {u1 u2 u3 u4 u5 u6 u7 : Value} : Z e (d + 1) 48 108 [.ref 226, u1, u2, u3, u4, u5, u6, u7] [] m = rn (um m 226 8 1) := (s_al_0 p_48_108).trans <| (s_const p_48_109).trans <| (s_putk p_48_110 rfl hs_226 (by decide) rfl).trans <| (s_retv p_48_113 (zM_of zq_48))
theorem b_48_55 {x2 : Int} {x3 : Int} {x4 : Int} {x5 : Int} {x6 : Int} {xs0 : Int} {u1 u7 : Value} : Z e (d + 1) 48 55 [.ref 226, u1, .int (iI x2), .int (iI x3), .int (iI x4), .int (iI x5), .int (iI x6), u7] [.int (iI xs0)] m = (Z e d 105 0 [.ref 232, .int (iI xs0), .int (iI 0), .int (iI x4)] [] m).bind (ZK e (d + 1) 48 69 [.ref 226, u1, .int (iI x2), .int (iI x3), .int (iI x4), .int (iI x5), .int (iI x6), .int (iI xs0)] [] m) := (s_is_7 cat_i p_48_55).trans <| (s_al_0 p_48_57).trans <| (s_getr p_48_58 hs_226 (by decide) rfl).trans <| (s_il_7 p_48_61).trans <| (s_const p_48_63).trans <| (s_il_4 p_48_64).trans <| (s_cv3 (Lc := [.ref 232, .int (iI xs0), .int (iI 0), .int (iI x4)]) p_48_66 (by decide) (by decide) (zM_of zq_105) ⟨Nat.le_of_ble_eq_true rfl, Nat.le_of_ble_eq_true rfl⟩ rfl (m_rc hs_232 ⟨rfl, by decide⟩))
theorem b_48_69 {x2 : Int} {x3 : Int} {x4 : Int} {x5 : Int} {x6 : Int} {x7 : Int} {u1 : Value} : Z e (d + 1) 48 69 [.ref 226, u1, .int (iI x2), .int (iI x3), .int (iI x4), .int (iI x5), .int (iI x6), .int (iI x7)] [] m = ck (0 ≤ (wr x4) ∧ (wr x4) < 100) ((Z e d 105 0 [.ref 232, .int (iI x7), .int (iI 1), .int (iI (jand (jshr (m 229 (wr x4)) x6) 1))] [] m).bind (ZK e (d + 1) 48 91 [.ref 226, u1, .int (iI x2), .int (iI x3), .int (iI x4), .int (iI x5), .int (iI x6), .int (iI x7)] [] m)) := (s_al_0 p_48_69).trans <| (s_getr p_48_70 hs_226 (by decide) rfl).trans <| (s_il_7 p_48_73).trans <| (s_const p_48_75).trans <| (s_al_0 p_48_76).trans <| (s_getr p_48_77 hs_226 (by decide) rfl).trans <| (s_il_4 p_48_80).trans <| (s_ald 100 p_48_82 hs_229 rfl (by decide)).trans <| ck_cg fun k1 => (s_il_6 p_48_83).trans <| (s_ishr p_48_85).trans <| (s_const p_48_86).trans <| (s_iand p_48_87).trans <| (s_cv3 (Lc := [.ref 232, .int (iI x7), .int (iI 1), .int (iI (jand (jshr (m 229 (wr x4)) x6) 1))]) p_48_88 (by decide) (by decide) (zM_of zq_105) ⟨Nat.le_of_ble_eq_true rfl, Nat.le_of_ble_eq_true rfl⟩ rfl (m_rc hs_232 ⟨rfl, by decide⟩))
theorem b_48_91 {x2 : Int} {x3 : Int} {x4 : Int} {x5 : Int} {u1 u6 u7 : Value} : Z e (d + 1) 48 91 [.ref 226, u1, .int (iI x2), .int (iI x3), .int (iI x4), .int (iI x5), u6, u7] [] m = Z e (d + 1) 48 14 [.ref 226, u1, .int (iI x2), .int (iI x3), .int (iI x4), .int (iI (x5 + 1)), u6, u7] [] m := (s_inc_5 cat_i p_48_91).trans <| (s_goto p_48_94 rfl).trans <| rfl
-- Plan.find
theorem p_43_0 : zP1 43 0 = some (.iload_n 3, 0, 0, 0) := zp_l zq_43 rfl
theorem p_43_1 : zP1 43 1 = some (.iconst 1, 0, 0, 0) := zp_l zq_43 rfl
theorem p_43_2 : zP1 43 2 = some (.if_icmp .ge 5, 0, 0, 0) := zp_l zq_43 rfl
theorem p_43_5 : zP1 43 5 = some (.iconst 0, 0, 0, 0) := zp_l zq_43 rfl
theorem p_43_6 : zP1 43 6 = some (.ireturn, 0, 0, 0) := zp_l zq_43 rfl
theorem p_43_7 : zP1 43 7 = some (.aload_n 0, 0, 0, 0) := zp_l zq_43 rfl
theorem p_43_8 : zP1 43 8 = some (.getfield 37, 2, 1, 0) := zp_r zq_43 rfl
theorem p_43_11 : zP1 43 11 = some (.iload_n 1, 0, 0, 0) := zp_l zq_43 rfl
theorem p_43_12 : zP1 43 12 = some (.aload_n 0, 0, 0, 0) := zp_l zq_43 rfl
theorem p_43_13 : zP1 43 13 = some (.getfield 15, 2, 4, 0) := zp_r zq_43 rfl
theorem p_43_16 : zP1 43 16 = some (.invokevirtual 45, 88, 2, 5) := zp_r zq_43 rfl
theorem p_43_19 : zP1 43 19 = some (.aload_n 0, 0, 0, 0) := zp_l zq_43 rfl
theorem p_43_20 : zP1 43 20 = some (.getfield 15, 2, 4, 0) := zp_r zq_43 rfl
theorem p_43_23 : zP1 43 23 = some (.iload_n 2, 0, 0, 0) := zp_l zq_43 rfl
theorem p_43_24 : zP1 43 24 = some (.iaload, 0, 0, 0) := zp_l zq_43 rfl
theorem p_43_25 : zP1 43 25 = some (.bipush (-3), 0, 0, 0) := zp_l zq_43 rfl
theorem p_43_27 : zP1 43 27 = some (.if_icmp .eq 14, 0, 0, 0) := zp_l zq_43 rfl
theorem p_43_30 : zP1 43 30 = some (.aload_n 0, 0, 0, 0) := zp_l zq_43 rfl
theorem p_43_31 : zP1 43 31 = some (.getfield 15, 2, 4, 0) := zp_r zq_43 rfl
theorem p_43_34 : zP1 43 34 = some (.iload_n 2, 0, 0, 0) := zp_l zq_43 rfl
theorem p_43_35 : zP1 43 35 = some (.iaload, 0, 0, 0) := zp_l zq_43 rfl
theorem p_43_36 : zP1 43 36 = some (.bipush 60, 0, 0, 0) := zp_l zq_43 rfl
theorem p_43_38 : zP1 43 38 = some (.if_icmp .le 5, 0, 0, 0) := zp_l zq_43 rfl
theorem p_43_41 : zP1 43 41 = some (.iconst 0, 0, 0, 0) := zp_l zq_43 rfl
theorem p_43_42 : zP1 43 42 = some (.ireturn, 0, 0, 0) := zp_l zq_43 rfl
theorem p_43_43 : zP1 43 43 = some (.iconst 0, 0, 0, 0) := zp_l zq_43 rfl
theorem p_43_44 : zP1 43 44 = some (.istore 4, 0, 0, 0) := zp_l zq_43 rfl
theorem p_43_46 : zP1 43 46 = some (.iload 4, 0, 0, 0) := zp_l zq_43 rfl
theorem p_43_48 : zP1 43 48 = some (.bipush 100, 0, 0, 0) := zp_l zq_43 rfl
theorem p_43_50 : zP1 43 50 = some (.if_icmp .ge 25, 0, 0, 0) := zp_l zq_43 rfl
theorem p_43_53 : zP1 43 53 = some (.aload_n 0, 0, 0, 0) := zp_l zq_43 rfl
theorem p_43_54 : zP1 43 54 = some (.getfield 18, 2, 5, 0) := zp_r zq_43 rfl
theorem p_43_57 : zP1 43 57 = some (.iload 4, 0, 0, 0) := zp_l zq_43 rfl
theorem p_43_59 : zP1 43 59 = some (.aload_n 0, 0, 0, 0) := zp_l zq_43 rfl
theorem p_43_60 : zP1 43 60 = some (.getfield 41, 2, 2, 0) := zp_r zq_43 rfl
theorem p_43_63 : zP1 43 63 = some (.iload 4, 0, 0, 0) := zp_l zq_43 rfl
theorem p_43_65 : zP1 43 65 = some (.invokevirtual 51, 56, 1, 3) := zp_r zq_43 rfl
theorem p_43_68 : zP1 43 68 = some (.iastore, 0, 0, 0) := zp_l zq_43 rfl
theorem p_43_69 : zP1 43 69 = some (.iinc 4 1, 0, 0, 0) := zp_l zq_43 rfl
theorem p_43_72 : zP1 43 72 = some (.goto (-26), 0, 0, 0) := zp_l zq_43 rfl
theorem p_43_75 : zP1 43 75 = some (.bipush 60, 0, 0, 0) := zp_l zq_43 rfl
theorem p_43_77 : zP1 43 77 = some (.istore 4, 0, 0, 0) := zp_l zq_43 rfl
theorem p_43_79 : zP1 43 79 = some (.iload 4, 0, 0, 0) := zp_l zq_43 rfl
theorem p_43_81 : zP1 43 81 = some (.ifCond .lt 23, 0, 0, 0) := zp_l zq_43 rfl
theorem p_43_84 : zP1 43 84 = some (.aload_n 0, 0, 0, 0) := zp_l zq_43 rfl
theorem p_43_85 : zP1 43 85 = some (.iload 4, 0, 0, 0) := zp_l zq_43 rfl
theorem p_43_87 : zP1 43 87 = some (.iload_n 2, 0, 0, 0) := zp_l zq_43 rfl
theorem p_43_88 : zP1 43 88 = some (.aload_n 0, 0, 0, 0) := zp_l zq_43 rfl
theorem p_43_89 : zP1 43 89 = some (.iload 4, 0, 0, 0) := zp_l zq_43 rfl
theorem p_43_91 : zP1 43 91 = some (.iload_n 3, 0, 0, 0) := zp_l zq_43 rfl
theorem p_43_92 : zP1 43 92 = some (.invokevirtual 57, 44, 2, 2) := zp_r zq_43 rfl
theorem p_43_95 : zP1 43 95 = some (.invokevirtual 61, 45, 3, 2) := zp_r zq_43 rfl
theorem p_43_98 : zP1 43 98 = some (.iinc 4 (-1), 0, 0, 0) := zp_l zq_43 rfl
theorem p_43_101 : zP1 43 101 = some (.goto (-22), 0, 0, 0) := zp_l zq_43 rfl
theorem p_43_104 : zP1 43 104 = some (.aload_n 0, 0, 0, 0) := zp_l zq_43 rfl
theorem p_43_105 : zP1 43 105 = some (.iload_n 1, 0, 0, 0) := zp_l zq_43 rfl
theorem p_43_106 : zP1 43 106 = some (.iload_n 2, 0, 0, 0) := zp_l zq_43 rfl
theorem p_43_107 : zP1 43 107 = some (.iload_n 3, 0, 0, 0) := zp_l zq_43 rfl
theorem p_43_108 : zP1 43 108 = some (.invokevirtual 65, 48, 3, 2) := zp_r zq_43 rfl
theorem p_43_111 : zP1 43 111 = some (.iconst 1, 0, 0, 0) := zp_l zq_43 rfl
theorem p_43_112 : zP1 43 112 = some (.ireturn, 0, 0, 0) := zp_l zq_43 rfl
theorem b_43_0 {x1 : Int} {x2 : Int} {x3 : Int} : Z e (d + 1) 43 0 [.ref 226, .int (iI x1), .int (iI x2), .int (iI x3), .retAddr 0] [] m = (if (wr x3) < 1 then ri 0 m else (Z e d 88 0 [.ref 191, .int (iI x1), .ref 228, .retAddr 0, .retAddr 0, .retAddr 0, .retAddr 0, .retAddr 0] [] m).bind (ZK e (d + 1) 43 19 [.ref 226, .int (iI x1), .int (iI x2), .int (iI x3), .retAddr 0] [] m)) := (s_il_3 p_43_0).trans <| (s_const p_43_1).trans <| Eq.trans ((s_c_ge_f p_43_2 rfl rfl wl_1)) <| ite_cg ((s_const p_43_5).trans <| (s_retk rfl p_43_6 (zM_of zq_43))) ((s_al_0 p_43_7).trans <| (s_getr p_43_8 hs_226 (by decide) rfl).trans <| (s_il_1 p_43_11).trans <| (s_al_0 p_43_12).trans <| (s_getr p_43_13 hs_226 (by decide) rfl).trans <| (s_cv2 (Lc := [.ref 191, .int (iI x1), .ref 228, .retAddr 0, .retAddr 0, .retAddr 0, .retAddr 0, .retAddr 0]) p_43_16 (by decide) (by decide) (zM_of zq_88) ⟨Nat.le_of_ble_eq_true rfl, Nat.le_of_ble_eq_true rfl⟩ rfl (m_rc hs_191 ⟨rfl, by decide⟩)))
theorem b_43_19 {x1 : Int} {x2 : Int} {x3 : Int} {u4 : Value} : Z e (d + 1) 43 19 [.ref 226, .int (iI x1), .int (iI x2), .int (iI x3), u4] [] m = ck (0 ≤ (wr x2) ∧ (wr x2) < 100) (ck ((¬ ((wr (m 228 (wr x2))) = (-3))) → (0 ≤ (wr x2) ∧ (wr x2) < 100)) (if ((wr (m 228 (wr x2))) = (-3)) ∨ (60 < (wr (m 228 (wr x2)))) then ri 0 m else Z e (d + 1) 43 46 [.ref 226, .int (iI x1), .int (iI x2), .int (iI x3), .int (iI 0)] [] m)) := (s_al_0 p_43_19).trans <| (s_getr p_43_20 hs_226 (by decide) rfl).trans <| (s_il_2 p_43_23).trans <| (s_ald 100 p_43_24 hs_228 rfl (by decide)).trans <| ck_cg fun k1 => (s_bip p_43_25 rfl).trans <| Eq.trans (Eq.trans (s_c_eq_t p_43_27 rfl rfl wl_m3) <| Eq.trans (ite_cg rfl ((s_al_0 p_43_30).trans <| (s_getr p_43_31 hs_226 (by decide) rfl).trans <| (s_il_2 p_43_34).trans <| (s_ald 100 p_43_35 hs_228 rfl (by decide)).trans <| ck_cg fun k2 => (s_bip p_43_36 rfl).trans <| (s_c_le_f p_43_38 rfl rfl wl_60))) <| Eq.trans ck_b <| ck_cg fun _ => co_or) <| ck_cg fun _ => ite_cg ((s_const p_43_41).trans <| (s_retk rfl p_43_42 (zM_of zq_43))) ((s_const p_43_43).trans <| (s_is_4 cat_i p_43_44).trans <| rfl)
theorem b_43_46 {x1 : Int} {x2 : Int} {x3 : Int} {x4 : Int} : Z e (d + 1) 43 46 [.ref 226, .int (iI x1), .int (iI x2), .int (iI x3), .int (iI x4)] [] m = (if (wr x4) < 100 then (Z e d 56 0 [.ref 206, .int (iI x4), .retAddr 0, .retAddr 0] [] m).bind (ZK e (d + 1) 43 68 [.ref 226, .int (iI x1), .int (iI x2), .int (iI x3), .int (iI x4)] [.int (iI x4), .ref 229] m) else Z e (d + 1) 43 79 [.ref 226, .int (iI x1), .int (iI x2), .int (iI x3), .int (iI 60)] [] m) := (s_il_4 p_43_46).trans <| (s_bip p_43_48 rfl).trans <| Eq.trans ((s_c_ge_f p_43_50 rfl rfl wl_100)) <| ite_cg ((s_al_0 p_43_53).trans <| (s_getr p_43_54 hs_226 (by decide) rfl).trans <| (s_il_4 p_43_57).trans <| (s_al_0 p_43_59).trans <| (s_getr p_43_60 hs_226 (by decide) rfl).trans <| (s_il_4 p_43_63).trans <| (s_cv1 (Lc := [.ref 206, .int (iI x4), .retAddr 0, .retAddr 0]) p_43_65 (by decide) (by decide) (zM_of zq_56) ⟨Nat.le_of_ble_eq_true rfl, Nat.le_of_ble_eq_true rfl⟩ rfl (m_rc hs_206 ⟨rfl, by decide⟩))) ((s_bip p_43_75 rfl).trans <| (s_is_4 cat_i p_43_77).trans <| rfl)
theorem b_43_68 {x1 : Int} {x2 : Int} {x3 : Int} {x4 : Int} {xs0 : Int} {xs1 : Int} : Z e (d + 1) 43 68 [.ref 226, .int (iI x1), .int (iI x2), .int (iI x3), .int (iI x4)] [.int (iI xs0), .int (iI xs1), .ref 229] m = ck (0 ≤ (wr xs1) ∧ (wr xs1) < 100) (Z e (d + 1) 43 46 [.ref 226, .int (iI x1), .int (iI x2), .int (iI x3), .int (iI (x4 + 1))] [] (um m 229 (wr xs1) xs0)) := (s_ast 100 p_43_68 hs_229 rfl).trans <| ck_cg fun k1 => (s_inc_4 cat_i p_43_69).trans <| (s_goto p_43_72 rfl).trans <| rfl
theorem b_43_79 {x1 : Int} {x2 : Int} {x3 : Int} {x4 : Int} : Z e (d + 1) 43 79 [.ref 226, .int (iI x1), .int (iI x2), .int (iI x3), .int (iI x4)] [] m = (if 0 ≤ (wr x4) then ck (¬ ((wr x3) = 0)) ((Z e d 45 0 [.ref 226, .int (iI x4), .int (iI x2), .int (iI (jrem (((m 1 0) + (jdiv x4 x3)) + 1) 24)), .retAddr 0, .retAddr 0, .retAddr 0] [] m).bind (ZK e (d + 1) 43 98 [.ref 226, .int (iI x1), .int (iI x2), .int (iI x3), .int (iI x4)] [] m)) else Z e (d + 1) 43 104 [.ref 226, .int (iI x1), .int (iI x2), .int (iI x3), .int (iI x4)] [] m) := (s_il_4 p_43_79).trans <| Eq.trans ((s_z_lt_f p_43_81 rfl rfl)) <| ite_cg ((s_al_0 p_43_84).trans <| (s_il_4 p_43_85).trans <| (s_il_2 p_43_87).trans <| (s_al_0 p_43_88).trans <| (s_il_4 p_43_89).trans <| (s_il_3 p_43_91).trans <| (s_cv2 (Lc := [.ref 226, .int (iI x4), .int (iI x3)]) p_43_92 (by decide) (by decide) (zM_of zq_44) ⟨Nat.le_of_ble_eq_true rfl, Nat.le_of_ble_eq_true rfl⟩ rfl (m_rc hs_226 ⟨rfl, by decide⟩)).trans <| (bd b_44_0).trans <| ck_bind.trans <| ck_cg fun _ => ri_k.trans <| (s_cv3 (Lc := [.ref 226, .int (iI x4), .int (iI x2), .int (iI (jrem (((m 1 0) + (jdiv x4 x3)) + 1) 24)), .retAddr 0, .retAddr 0, .retAddr 0]) p_43_95 (by decide) (by decide) (zM_of zq_45) ⟨Nat.le_of_ble_eq_true rfl, Nat.le_of_ble_eq_true rfl⟩ rfl (m_rc hs_226 ⟨rfl, by decide⟩))) (rfl)
theorem b_43_104 {x1 : Int} {x2 : Int} {x3 : Int} {u4 : Value} : Z e (d + 1) 43 104 [.ref 226, .int (iI x1), .int (iI x2), .int (iI x3), u4] [] m = (Z e d 48 0 [.ref 226, .int (iI x1), .int (iI x2), .int (iI x3), .retAddr 0, .retAddr 0, .retAddr 0, .retAddr 0] [] m).bind (ZK e (d + 1) 43 111 [.ref 226, .int (iI x1), .int (iI x2), .int (iI x3), u4] [] m) := (s_al_0 p_43_104).trans <| (s_il_1 p_43_105).trans <| (s_il_2 p_43_106).trans <| (s_il_3 p_43_107).trans <| (s_cv3 (Lc := [.ref 226, .int (iI x1), .int (iI x2), .int (iI x3), .retAddr 0, .retAddr 0, .retAddr 0, .retAddr 0]) p_43_108 (by decide) (by decide) (zM_of zq_48) ⟨Nat.le_of_ble_eq_true rfl, Nat.le_of_ble_eq_true rfl⟩ rfl (m_rc hs_226 ⟨rfl, by decide⟩))
theorem b_43_98 {x1 : Int} {x2 : Int} {x3 : Int} {x4 : Int} : Z e (d + 1) 43 98 [.ref 226, .int (iI x1), .int (iI x2), .int (iI x3), .int (iI x4)] [] m = Z e (d + 1) 43 79 [.ref 226, .int (iI x1), .int (iI x2), .int (iI x3), .int (iI (x4 + (-1)))] [] m := (s_inc_4 cat_i p_43_98).trans <| (s_goto p_43_101 rfl).trans <| rfl
theorem b_43_111 {u0 u1 u2 u3 u4 : Value} : Z e (d + 1) 43 111 [u0, u1, u2, u3, u4] [] m = ri 1 m := (s_const p_43_111).trans <| (s_retk rfl p_43_112 (zM_of zq_43))
-- Plan.stepsSeen
theorem p_50_0 : zP1 50 0 = some (.iconst 0, 0, 0, 0) := zp_l zq_50 rfl
theorem p_50_1 : zP1 50 1 = some (.istore_n 1, 0, 0, 0) := zp_l zq_50 rfl
theorem p_50_2 : zP1 50 2 = some (.iconst 0, 0, 0, 0) := zp_l zq_50 rfl
theorem p_50_3 : zP1 50 3 = some (.istore_n 2, 0, 0, 0) := zp_l zq_50 rfl
theorem p_50_4 : zP1 50 4 = some (.iload_n 2, 0, 0, 0) := zp_l zq_50 rfl
theorem p_50_5 : zP1 50 5 = some (.aload_n 0, 0, 0, 0) := zp_l zq_50 rfl
theorem p_50_6 : zP1 50 6 = some (.getfield 30, 2, 7, 0) := zp_r zq_50 rfl
theorem p_50_9 : zP1 50 9 = some (.getfield 85, 7, 3, 0) := zp_r zq_50 rfl
theorem p_50_12 : zP1 50 12 = some (.if_icmp .ge 21, 0, 0, 0) := zp_l zq_50 rfl
theorem p_50_15 : zP1 50 15 = some (.iload_n 1, 0, 0, 0) := zp_l zq_50 rfl
theorem p_50_16 : zP1 50 16 = some (.aload_n 0, 0, 0, 0) := zp_l zq_50 rfl
theorem p_50_17 : zP1 50 17 = some (.getfield 30, 2, 7, 0) := zp_r zq_50 rfl
theorem p_50_20 : zP1 50 20 = some (.iload_n 2, 0, 0, 0) := zp_l zq_50 rfl
theorem p_50_21 : zP1 50 21 = some (.iconst 1, 0, 0, 0) := zp_l zq_50 rfl
theorem p_50_22 : zP1 50 22 = some (.invokevirtual 106, 104, 2, 7) := zp_r zq_50 rfl
theorem p_50_25 : zP1 50 25 = some (.iadd, 0, 0, 0) := zp_l zq_50 rfl
theorem p_50_26 : zP1 50 26 = some (.istore_n 1, 0, 0, 0) := zp_l zq_50 rfl
theorem p_50_27 : zP1 50 27 = some (.iinc 2 1, 0, 0, 0) := zp_l zq_50 rfl
theorem p_50_30 : zP1 50 30 = some (.goto (-26), 0, 0, 0) := zp_l zq_50 rfl
theorem p_50_33 : zP1 50 33 = some (.iload_n 1, 0, 0, 0) := zp_l zq_50 rfl
theorem p_50_34 : zP1 50 34 = some (.ireturn, 0, 0, 0) := zp_l zq_50 rfl
theorem b_50_0 : Z e (d + 1) 50 0 [.ref 226, .retAddr 0, .retAddr 0] [] m = Z e (d + 1) 50 4 [.ref 226, .int (iI 0), .int (iI 0)] [] m := (s_const p_50_0).trans <| (s_is_1 cat_r p_50_1).trans <| (s_const p_50_2).trans <| (s_is_2 cat_i p_50_3).trans <| rfl
theorem b_50_4 {x1 : Int} {x2 : Int} : Z e (d + 1) 50 4 [.ref 226, .int (iI x1), .int (iI x2)] [] m = (if (wr x2) < (wr (m 232 3)) then (Z e d 104 0 [.ref 232, .int (iI x2), .int (iI 1)] [] m).bind (ZK e (d + 1) 50 25 [.ref 226, .int (iI x1), .int (iI x2)] [.int (iI x1)] m) else ri x1 m) := (s_il_2 p_50_4).trans <| (s_al_0 p_50_5).trans <| (s_getr p_50_6 hs_226 (by decide) rfl).trans <| (s_get p_50_9 hs_232 (by decide) rfl).trans <| Eq.trans ((s_c_ge_f p_50_12 rfl rfl rfl)) <| ite_cg ((s_il_1 p_50_15).trans <| (s_al_0 p_50_16).trans <| (s_getr p_50_17 hs_226 (by decide) rfl).trans <| (s_il_2 p_50_20).trans <| (s_const p_50_21).trans <| (s_cv2 (Lc := [.ref 232, .int (iI x2), .int (iI 1)]) p_50_22 (by decide) (by decide) (zM_of zq_104) ⟨Nat.le_of_ble_eq_true rfl, Nat.le_of_ble_eq_true rfl⟩ rfl (m_rc hs_232 ⟨rfl, by decide⟩))) ((s_il_1 p_50_33).trans <| (s_reti p_50_34 (zM_of zq_50)))
theorem b_50_25 {x2 : Int} {xs0 : Int} {xs1 : Int} {u1 : Value} : Z e (d + 1) 50 25 [.ref 226, u1, .int (iI x2)] [.int (iI xs0), .int (iI xs1)] m = Z e (d + 1) 50 4 [.ref 226, .int (iI (xs1 + xs0)), .int (iI (x2 + 1))] [] m := (s_iadd p_50_25).trans <| (s_is_1 cat_r p_50_26).trans <| (s_inc_2 cat_i p_50_27).trans <| (s_goto p_50_30 rfl).trans <| rfl
end BK
