/-! Equations of blocks. By program. -/
section BK
variable {e : List Int32 × Value} {d : Nat} {m : zMm}
-- M.seenBy
theorem p_277_0 : zP1 277 0 = some (.iconst 0, 0, 0, 0) := zp_l zq_277 rfl
theorem p_277_1 : zP1 277 1 = some (.istore_n 3, 0, 0, 0) := zp_l zq_277 rfl
theorem p_277_2 : zP1 277 2 = some (.iconst 0, 0, 0, 0) := zp_l zq_277 rfl
theorem p_277_3 : zP1 277 3 = some (.istore 4, 0, 0, 0) := zp_l zq_277 rfl
theorem p_277_5 : zP1 277 5 = some (.iload 4, 0, 0, 0) := zp_l zq_277 rfl
theorem p_277_7 : zP1 277 7 = some (.aload_n 0, 0, 0, 0) := zp_l zq_277 rfl
theorem p_277_8 : zP1 277 8 = some (.getfield 9, 11, 0, 0) := zp_r zq_277 rfl
theorem p_277_11 : zP1 277 11 = some (.bipush 6, 0, 0, 0) := zp_l zq_277 rfl
theorem p_277_13 : zP1 277 13 = some (.iaload, 0, 0, 0) := zp_l zq_277 rfl
theorem p_277_14 : zP1 277 14 = some (.if_icmp .ge 131, 0, 0, 0) := zp_l zq_277 rfl
theorem p_277_17 : zP1 277 17 = some (.aload_n 0, 0, 0, 0) := zp_l zq_277 rfl
theorem p_277_18 : zP1 277 18 = some (.getfield 9, 11, 0, 0) := zp_r zq_277 rfl
theorem p_277_21 : zP1 277 21 = some (.sipush 1050, 0, 0, 0) := zp_l zq_277 rfl
theorem p_277_24 : zP1 277 24 = some (.iconst 4, 0, 0, 0) := zp_l zq_277 rfl
theorem p_277_25 : zP1 277 25 = some (.iload 4, 0, 0, 0) := zp_l zq_277 rfl
theorem p_277_27 : zP1 277 27 = some (.imul, 0, 0, 0) := zp_l zq_277 rfl
theorem p_277_28 : zP1 277 28 = some (.iadd, 0, 0, 0) := zp_l zq_277 rfl
theorem p_277_29 : zP1 277 29 = some (.iconst 2, 0, 0, 0) := zp_l zq_277 rfl
theorem p_277_30 : zP1 277 30 = some (.iadd, 0, 0, 0) := zp_l zq_277 rfl
theorem p_277_31 : zP1 277 31 = some (.iaload, 0, 0, 0) := zp_l zq_277 rfl
theorem p_277_32 : zP1 277 32 = some (.istore 5, 0, 0, 0) := zp_l zq_277 rfl
theorem p_277_34 : zP1 277 34 = some (.aload_n 0, 0, 0, 0) := zp_l zq_277 rfl
theorem p_277_35 : zP1 277 35 = some (.getfield 9, 11, 0, 0) := zp_r zq_277 rfl
theorem p_277_38 : zP1 277 38 = some (.sipush 1050, 0, 0, 0) := zp_l zq_277 rfl
theorem p_277_41 : zP1 277 41 = some (.iconst 4, 0, 0, 0) := zp_l zq_277 rfl
theorem p_277_42 : zP1 277 42 = some (.iload 4, 0, 0, 0) := zp_l zq_277 rfl
theorem p_277_44 : zP1 277 44 = some (.imul, 0, 0, 0) := zp_l zq_277 rfl
theorem p_277_45 : zP1 277 45 = some (.iadd, 0, 0, 0) := zp_l zq_277 rfl
theorem p_277_46 : zP1 277 46 = some (.iconst 3, 0, 0, 0) := zp_l zq_277 rfl
theorem p_277_47 : zP1 277 47 = some (.iadd, 0, 0, 0) := zp_l zq_277 rfl
theorem p_277_48 : zP1 277 48 = some (.iaload, 0, 0, 0) := zp_l zq_277 rfl
theorem p_277_49 : zP1 277 49 = some (.istore 6, 0, 0, 0) := zp_l zq_277 rfl
theorem p_277_51 : zP1 277 51 = some (.iload 5, 0, 0, 0) := zp_l zq_277 rfl
theorem p_277_53 : zP1 277 53 = some (.iload 6, 0, 0, 0) := zp_l zq_277 rfl
theorem p_277_55 : zP1 277 55 = some (.if_icmp .gt 14, 0, 0, 0) := zp_l zq_277 rfl
theorem p_277_58 : zP1 277 58 = some (.iload_n 2, 0, 0, 0) := zp_l zq_277 rfl
theorem p_277_59 : zP1 277 59 = some (.iload 5, 0, 0, 0) := zp_l zq_277 rfl
theorem p_277_61 : zP1 277 61 = some (.iload 6, 0, 0, 0) := zp_l zq_277 rfl
theorem p_277_63 : zP1 277 63 = some (.invokestatic 100, 199, 3, 0) := zp_r zq_277 rfl
theorem p_277_66 : zP1 277 66 = some (.goto 20, 0, 0, 0) := zp_l zq_277 rfl
theorem p_277_69 : zP1 277 69 = some (.iload_n 2, 0, 0, 0) := zp_l zq_277 rfl
theorem p_277_70 : zP1 277 70 = some (.iload 5, 0, 0, 0) := zp_l zq_277 rfl
theorem p_277_72 : zP1 277 72 = some (.if_icmp .ge 9, 0, 0, 0) := zp_l zq_277 rfl
theorem p_277_75 : zP1 277 75 = some (.iload_n 2, 0, 0, 0) := zp_l zq_277 rfl
theorem p_277_76 : zP1 277 76 = some (.iload 6, 0, 0, 0) := zp_l zq_277 rfl
theorem p_277_78 : zP1 277 78 = some (.if_icmp .gt 7, 0, 0, 0) := zp_l zq_277 rfl
theorem p_277_81 : zP1 277 81 = some (.iconst 1, 0, 0, 0) := zp_l zq_277 rfl
theorem p_277_82 : zP1 277 82 = some (.goto 4, 0, 0, 0) := zp_l zq_277 rfl
theorem p_277_85 : zP1 277 85 = some (.iconst 0, 0, 0, 0) := zp_l zq_277 rfl
theorem p_277_86 : zP1 277 86 = some (.istore 7, 0, 0, 0) := zp_l zq_277 rfl
theorem p_277_88 : zP1 277 88 = some (.iload_n 3, 0, 0, 0) := zp_l zq_277 rfl
theorem p_277_89 : zP1 277 89 = some (.iload 7, 0, 0, 0) := zp_l zq_277 rfl
theorem p_277_91 : zP1 277 91 = some (.ifCond .eq 45, 0, 0, 0) := zp_l zq_277 rfl
theorem p_277_94 : zP1 277 94 = some (.aload_n 0, 0, 0, 0) := zp_l zq_277 rfl
theorem p_277_95 : zP1 277 95 = some (.getfield 9, 11, 0, 0) := zp_r zq_277 rfl
theorem p_277_98 : zP1 277 98 = some (.sipush 1050, 0, 0, 0) := zp_l zq_277 rfl
theorem p_277_101 : zP1 277 101 = some (.iconst 4, 0, 0, 0) := zp_l zq_277 rfl
theorem p_277_102 : zP1 277 102 = some (.iload 4, 0, 0, 0) := zp_l zq_277 rfl
theorem p_277_104 : zP1 277 104 = some (.imul, 0, 0, 0) := zp_l zq_277 rfl
theorem p_277_105 : zP1 277 105 = some (.iadd, 0, 0, 0) := zp_l zq_277 rfl
theorem p_277_106 : zP1 277 106 = some (.iaload, 0, 0, 0) := zp_l zq_277 rfl
theorem p_277_107 : zP1 277 107 = some (.iload_n 1, 0, 0, 0) := zp_l zq_277 rfl
theorem p_277_108 : zP1 277 108 = some (.invokestatic 135, 206, 2, 0) := zp_r zq_277 rfl
theorem p_277_111 : zP1 277 111 = some (.aload_n 0, 0, 0, 0) := zp_l zq_277 rfl
theorem p_277_112 : zP1 277 112 = some (.getfield 9, 11, 0, 0) := zp_r zq_277 rfl
theorem p_277_115 : zP1 277 115 = some (.sipush 1050, 0, 0, 0) := zp_l zq_277 rfl
theorem p_277_118 : zP1 277 118 = some (.iconst 4, 0, 0, 0) := zp_l zq_277 rfl
theorem p_277_119 : zP1 277 119 = some (.iload 4, 0, 0, 0) := zp_l zq_277 rfl
theorem p_277_121 : zP1 277 121 = some (.imul, 0, 0, 0) := zp_l zq_277 rfl
theorem p_277_122 : zP1 277 122 = some (.iadd, 0, 0, 0) := zp_l zq_277 rfl
theorem p_277_123 : zP1 277 123 = some (.iconst 1, 0, 0, 0) := zp_l zq_277 rfl
theorem p_277_124 : zP1 277 124 = some (.iadd, 0, 0, 0) := zp_l zq_277 rfl
theorem p_277_125 : zP1 277 125 = some (.iaload, 0, 0, 0) := zp_l zq_277 rfl
theorem p_277_126 : zP1 277 126 = some (.if_icmp .gt 10, 0, 0, 0) := zp_l zq_277 rfl
theorem p_277_129 : zP1 277 129 = some (.iconst 1, 0, 0, 0) := zp_l zq_277 rfl
theorem p_277_130 : zP1 277 130 = some (.iload 4, 0, 0, 0) := zp_l zq_277 rfl
theorem p_277_132 : zP1 277 132 = some (.ishl, 0, 0, 0) := zp_l zq_277 rfl
theorem p_277_133 : zP1 277 133 = some (.goto 4, 0, 0, 0) := zp_l zq_277 rfl
theorem p_277_136 : zP1 277 136 = some (.iconst 0, 0, 0, 0) := zp_l zq_277 rfl
theorem p_277_137 : zP1 277 137 = some (.ior, 0, 0, 0) := zp_l zq_277 rfl
theorem p_277_138 : zP1 277 138 = some (.istore_n 3, 0, 0, 0) := zp_l zq_277 rfl
theorem p_277_139 : zP1 277 139 = some (.iinc 4 1, 0, 0, 0) := zp_l zq_277 rfl
theorem p_277_142 : zP1 277 142 = some (.goto (-137), 0, 0, 0) := zp_l zq_277 rfl
theorem p_277_145 : zP1 277 145 = some (.iload_n 3, 0, 0, 0) := zp_l zq_277 rfl
theorem p_277_146 : zP1 277 146 = some (.ireturn, 0, 0, 0) := zp_l zq_277 rfl
theorem b_277_0 {x1 : Int} {x2 : Int} : Z e (d + 2) 277 0 [.ref 246, .int (iI x1), .int (iI x2), .retAddr 0, .retAddr 0, .retAddr 0, .retAddr 0, .retAddr 0] [] m = Z e (d + 2) 277 5 [.ref 246, .int (iI x1), .int (iI x2), .int (iI 0), .int (iI 0), .retAddr 0, .retAddr 0, .retAddr 0] [] m := (s_const p_277_0).trans <| (s_is_3 cat_i p_277_1).trans <| (s_const p_277_2).trans <| (s_is_4 cat_i p_277_3).trans <| rfl
theorem b_277_5 {x1 : Int} {x2 : Int} {x3 : Int} {x4 : Int} {u5 u6 u7 : Value} : Z e (d + 2) 277 5 [.ref 246, .int (iI x1), .int (iI x2), .int (iI x3), .int (iI x4), u5, u6, u7] [] m = (if (wr x4) < (wr (m 247 6)) then ck (0 ≤ (wr ((1050 + (4 * x4)) + 2)) ∧ (wr ((1050 + (4 * x4)) + 2)) < 2737) (ck (0 ≤ (wr ((1050 + (4 * x4)) + 3)) ∧ (wr ((1050 + (4 * x4)) + 3)) < 2737) (ck ((¬ (wr (if (wr (m 247 (wr ((1050 + (4 * x4)) + 2)))) ≤ (wr (m 247 (wr ((1050 + (4 * x4)) + 3)))) then (if ((wr (m 247 (wr ((1050 + (4 * x4)) + 2)))) ≤ (wr x2)) ∧ ((wr x2) ≤ (wr (m 247 (wr ((1050 + (4 * x4)) + 3))))) then 1 else 0) else (if ((wr (m 247 (wr ((1050 + (4 * x4)) + 2)))) ≤ (wr x2)) ∨ ((wr x2) ≤ (wr (m 247 (wr ((1050 + (4 * x4)) + 3))))) then 1 else 0))) = 0) → ((0 ≤ (wr (1050 + (4 * x4))) ∧ (wr (1050 + (4 * x4))) < 2737) ∧ (0 ≤ (wr ((1050 + (4 * x4)) + 1)) ∧ (wr ((1050 + (4 * x4)) + 1)) < 2737))) (Z e (d + 2) 277 5 [.ref 246, .int (iI x1), .int (iI x2), .int (iI (jor x3 (if (¬ (wr (if (wr (m 247 (wr ((1050 + (4 * x4)) + 2)))) ≤ (wr (m 247 (wr ((1050 + (4 * x4)) + 3)))) then (if ((wr (m 247 (wr ((1050 + (4 * x4)) + 2)))) ≤ (wr x2)) ∧ ((wr x2) ≤ (wr (m 247 (wr ((1050 + (4 * x4)) + 3))))) then 1 else 0) else (if ((wr (m 247 (wr ((1050 + (4 * x4)) + 2)))) ≤ (wr x2)) ∨ ((wr x2) ≤ (wr (m 247 (wr ((1050 + (4 * x4)) + 3))))) then 1 else 0))) = 0) ∧ ((wr (jfar (m 247 (wr (1050 + (4 * x4)))) x1)) ≤ (wr (m 247 (wr ((1050 + (4 * x4)) + 1))))) then (jshl 1 x4) else 0))), .int (iI (x4 + 1)), .int (iI (m 247 (wr ((1050 + (4 * x4)) + 2)))), .int (iI (m 247 (wr ((1050 + (4 * x4)) + 3)))), .int (iI (if (wr (m 247 (wr ((1050 + (4 * x4)) + 2)))) ≤ (wr (m 247 (wr ((1050 + (4 * x4)) + 3)))) then (if ((wr (m 247 (wr ((1050 + (4 * x4)) + 2)))) ≤ (wr x2)) ∧ ((wr x2) ≤ (wr (m 247 (wr ((1050 + (4 * x4)) + 3))))) then 1 else 0) else (if ((wr (m 247 (wr ((1050 + (4 * x4)) + 2)))) ≤ (wr x2)) ∨ ((wr x2) ≤ (wr (m 247 (wr ((1050 + (4 * x4)) + 3))))) then 1 else 0)))] [] m))) else ri x3 m) := (s_il_4 p_277_5).trans <| (s_al_0 p_277_7).trans <| (s_getr p_277_8 hs_246 (by decide) rfl).trans <| (s_bip p_277_11 rfl).trans <| (s_aldc p_277_13 hs_247 (by decide) wl_6 (by decide)).trans <| Eq.trans ((s_c_ge_f p_277_14 rfl rfl rfl)) <| ite_cg ((s_al_0 p_277_17).trans <| (s_getr p_277_18 hs_246 (by decide) rfl).trans <| (s_sip p_277_21 rfl).trans <| (s_const p_277_24).trans <| (s_il_4 p_277_25).trans <| (s_imul p_277_27).trans <| (s_iadd p_277_28).trans <| (s_const p_277_29).trans <| (s_iadd p_277_30).trans <| (s_ald 2737 p_277_31 hs_247 rfl (by decide)).trans <| ck_cg fun k5 => (s_is_5 cat_i p_277_32).trans <| (s_al_0 p_277_34).trans <| (s_getr p_277_35 hs_246 (by decide) rfl).trans <| (s_sip p_277_38 rfl).trans <| (s_const p_277_41).trans <| (s_il_4 p_277_42).trans <| (s_imul p_277_44).trans <| (s_iadd p_277_45).trans <| (s_const p_277_46).trans <| (s_iadd p_277_47).trans <| (s_ald 2737 p_277_48 hs_247 rfl (by decide)).trans <| ck_cg fun k6 => (s_is_6 cat_i p_277_49).trans <| (s_il_5 p_277_51).trans <| (s_il_6 p_277_53).trans <| Eq.trans (Eq.trans ((s_c_gt_f p_277_55 rfl rfl rfl)) <| Eq.trans (ite_cg ((s_il_2 p_277_58).trans <| (s_il_5 p_277_59).trans <| (s_il_6 p_277_61).trans <| (s_cs3 (Lc := [.int (iI x2), .int (iI (m 247 (wr ((1050 + (4 * x4)) + 2)))), .int (iI (m 247 (wr ((1050 + (4 * x4)) + 3))))]) p_277_63 (by decide) (zM_of zq_199) ⟨Nat.le_of_ble_eq_true rfl, Nat.le_of_ble_eq_true rfl⟩ rfl).trans <| (bd b_199_0).trans <| ri_k.trans <| (s_goto p_277_66 rfl).trans <| rfl) ((s_il_2 p_277_69).trans <| (s_il_5 p_277_70).trans <| Eq.trans (Eq.trans (Eq.trans (s_c_ge_t p_277_72 rfl rfl rfl) <| Eq.trans (ite_cg rfl ((s_il_2 p_277_75).trans <| (s_il_6 p_277_76).trans <| (s_c_gt_f p_277_78 rfl rfl rfl))) co_or) <| Eq.trans (ite_cg ((s_const p_277_81).trans <| (s_goto p_277_82 rfl).trans <| rfl) ((s_const p_277_85).trans <| rfl)) (phi1 (fun z0 => Z e (d + 2) 277 86 [.ref 246, .int (iI x1), .int (iI x2), .int (iI x3), .int (iI x4), .int (iI (m 247 (wr ((1050 + (4 * x4)) + 2)))), .int (iI (m 247 (wr ((1050 + (4 * x4)) + 3)))), u7] [.int (iI z0)] m))) <| rfl)) (phi1 (fun z0 => Z e (d + 2) 277 86 [.ref 246, .int (iI x1), .int (iI x2), .int (iI x3), .int (iI x4), .int (iI (m 247 (wr ((1050 + (4 * x4)) + 2)))), .int (iI (m 247 (wr ((1050 + (4 * x4)) + 3)))), u7] [.int (iI z0)] m))) <| (s_is_7 cat_i p_277_86).trans <| (s_il_3 p_277_88).trans <| (s_il_7 p_277_89).trans <| Eq.trans (Eq.trans (Eq.trans (s_z_eq_f p_277_91 rfl rfl) <| Eq.trans (ite_cg ((s_al_0 p_277_94).trans <| (s_getr p_277_95 hs_246 (by decide) rfl).trans <| (s_sip p_277_98 rfl).trans <| (s_const p_277_101).trans <| (s_il_4 p_277_102).trans <| (s_imul p_277_104).trans <| (s_iadd p_277_105).trans <| (s_ald 2737 p_277_106 hs_247 rfl (by decide)).trans <| Eq.trans (ck_cg fun k7 => (s_il_1 p_277_107).trans <| (s_cs2 (Lc := [.int (iI (m 247 (wr (1050 + (4 * x4))))), .int (iI x1)]) p_277_108 (by decide) (zM_of zq_206) ⟨Nat.le_of_ble_eq_true rfl, Nat.le_of_ble_eq_true rfl⟩ rfl).trans <| (bd b_206_0).trans <| ri_k.trans <| (s_al_0 p_277_111).trans <| (s_getr p_277_112 hs_246 (by decide) rfl).trans <| (s_sip p_277_115 rfl).trans <| (s_const p_277_118).trans <| (s_il_4 p_277_119).trans <| (s_imul p_277_121).trans <| (s_iadd p_277_122).trans <| (s_const p_277_123).trans <| (s_iadd p_277_124).trans <| (s_ald 2737 p_277_125 hs_247 rfl (by decide)).trans <| ck_cg fun k8 => (s_c_gt_f p_277_126 rfl rfl rfl)) ck_ck) rfl) <| Eq.trans ck_a <| ck_cg fun _ => co_and) <| ck_cg fun _ => Eq.trans (ite_cg ((s_const p_277_129).trans <| (s_il_4 p_277_130).trans <| (s_ishl p_277_132).trans <| (s_goto p_277_133 rfl).trans <| rfl) ((s_const p_277_136).trans <| rfl)) (phi1 (fun z0 => Z e (d + 2) 277 137 [.ref 246, .int (iI x1), .int (iI x2), .int (iI x3), .int (iI x4), .int (iI (m 247 (wr ((1050 + (4 * x4)) + 2)))), .int (iI (m 247 (wr ((1050 + (4 * x4)) + 3)))), .int (iI (if (wr (m 247 (wr ((1050 + (4 * x4)) + 2)))) ≤ (wr (m 247 (wr ((1050 + (4 * x4)) + 3)))) then (if ((wr (m 247 (wr ((1050 + (4 * x4)) + 2)))) ≤ (wr x2)) ∧ ((wr x2) ≤ (wr (m 247 (wr ((1050 + (4 * x4)) + 3))))) then 1 else 0) else (if ((wr (m 247 (wr ((1050 + (4 * x4)) + 2)))) ≤ (wr x2)) ∨ ((wr x2) ≤ (wr (m 247 (wr ((1050 + (4 * x4)) + 3))))) then 1 else 0)))] [.int (iI z0), .int (iI x3)] m))) <| ck_cg fun _ => (s_ior p_277_137).trans <| (s_is_3 cat_i p_277_138).trans <| (s_inc_4 cat_i p_277_139).trans <| (s_goto p_277_142 rfl).trans <| rfl) ((s_il_3 p_277_145).trans <| (s_reti p_277_146 (zM_of zq_277)))
-- M.sees
theorem p_278_0 : zP1 278 0 = some (.iload_n 1, 0, 0, 0) := zp_l zq_278 rfl
theorem p_278_1 : zP1 278 1 = some (.invokestatic 110, 200, 1, 0) := zp_r zq_278 rfl
theorem p_278_4 : zP1 278 4 = some (.ifCond .eq 10, 0, 0, 0) := zp_l zq_278 rfl
theorem p_278_7 : zP1 278 7 = some (.iload_n 2, 0, 0, 0) := zp_l zq_278 rfl
theorem p_278_8 : zP1 278 8 = some (.invokestatic 154, 201, 1, 0) := zp_r zq_278 rfl
theorem p_278_11 : zP1 278 11 = some (.ifCond .ne 7, 0, 0, 0) := zp_l zq_278 rfl
theorem p_278_14 : zP1 278 14 = some (.iconst (-1), 0, 0, 0) := zp_l zq_278 rfl
theorem p_278_15 : zP1 278 15 = some (.goto 12, 0, 0, 0) := zp_l zq_278 rfl
theorem p_278_18 : zP1 278 18 = some (.aload_n 0, 0, 0, 0) := zp_l zq_278 rfl
theorem p_278_19 : zP1 278 19 = some (.iload_n 1, 0, 0, 0) := zp_l zq_278 rfl
theorem p_278_20 : zP1 278 20 = some (.iload_n 2, 0, 0, 0) := zp_l zq_278 rfl
theorem p_278_21 : zP1 278 21 = some (.bipush 24, 0, 0, 0) := zp_l zq_278 rfl
theorem p_278_23 : zP1 278 23 = some (.irem, 0, 0, 0) := zp_l zq_278 rfl
theorem p_278_24 : zP1 278 24 = some (.invokevirtual 344, 277, 2, 11) := zp_r zq_278 rfl
theorem p_278_27 : zP1 278 27 = some (.ireturn, 0, 0, 0) := zp_l zq_278 rfl
theorem b_278_0 {x1 : Int} {x2 : Int} : Z e (d + 2) 278 0 [.ref 246, .int (iI x1), .int (iI x2)] [] m = (if (¬ (((wr 0) ≤ (wr x1)) ∧ ((wr x1) ≤ (wr 99)))) ∨ (¬ (((wr 0) ≤ (wr x2)) ∧ ((wr x2) ≤ (wr 9999)))) then ri (-1) m else (Z e (d + 1) 277 0 [.ref 246, .int (iI x1), .int (iI (jrem x2 24)), .retAddr 0, .retAddr 0, .retAddr 0, .retAddr 0, .retAddr 0] [] m).bind (ZK e (d + 2) 278 27 [.ref 246, .int (iI x1), .int (iI x2)] [] m)) := (s_il_1 p_278_0).trans <| (s_cs1 (Lc := [.int (iI x1)]) p_278_1 (by decide) (zM_of zq_200) ⟨Nat.le_of_ble_eq_true rfl, Nat.le_of_ble_eq_true rfl⟩ rfl).trans <| (bd b_200_0).trans <| ri_k.trans <| Eq.trans (Eq.trans (s_beq_t p_278_4 rfl) <| Eq.trans (ite_cg rfl ((s_il_2 p_278_7).trans <| (s_cs1 (Lc := [.int (iI x2)]) p_278_8 (by decide) (zM_of zq_201) ⟨Nat.le_of_ble_eq_true rfl, Nat.le_of_ble_eq_true rfl⟩ rfl).trans <| (bd b_201_0).trans <| ri_k.trans <| (s_bne_f p_278_11 rfl))) co_or) <| ite_cg ((s_const p_278_14).trans <| (s_goto p_278_15 rfl).trans <| (s_reti p_278_27 (zM_of zq_278))) ((s_al_0 p_278_18).trans <| (s_il_1 p_278_19).trans <| (s_il_2 p_278_20).trans <| (s_bip p_278_21 rfl).trans <| (s_iremc p_278_23 (by decide)).trans <| (s_cv2 (Lc := [.ref 246, .int (iI x1), .int (iI (jrem x2 24)), .retAddr 0, .retAddr 0, .retAddr 0, .retAddr 0, .retAddr 0]) p_278_24 (by decide) (by decide) (zM_of zq_277) ⟨Nat.le_of_ble_eq_true rfl, Nat.le_of_ble_eq_true rfl⟩ rfl (m_rc hs_246 ⟨rfl, by decide⟩)))
theorem b_278_27 {xs0 : Int} {u0 u1 u2 : Value} : Z e (d + 2) 278 27 [u0, u1, u2] [.int (iI xs0)] m = ri xs0 m := (s_reti p_278_27 (zM_of zq_278))
-- M.aim
theorem p_279_0 : zP1 279 0 = some (.aload_n 0, 0, 0, 0) := zp_l zq_279 rfl
theorem p_279_1 : zP1 279 1 = some (.iload_n 1, 0, 0, 0) := zp_l zq_279 rfl
theorem p_279_2 : zP1 279 2 = some (.invokevirtual 138, 202, 1, 11) := zp_r zq_279 rfl
theorem p_279_5 : zP1 279 5 = some (.ifCond .eq 10, 0, 0, 0) := zp_l zq_279 rfl
theorem p_279_8 : zP1 279 8 = some (.iload_n 2, 0, 0, 0) := zp_l zq_279 rfl
theorem p_279_9 : zP1 279 9 = some (.invokestatic 110, 200, 1, 0) := zp_r zq_279 rfl
theorem p_279_12 : zP1 279 12 = some (.ifCond .ne 5, 0, 0, 0) := zp_l zq_279 rfl
theorem p_279_15 : zP1 279 15 = some (.iconst (-1), 0, 0, 0) := zp_l zq_279 rfl
theorem p_279_16 : zP1 279 16 = some (.ireturn, 0, 0, 0) := zp_l zq_279 rfl
theorem p_279_17 : zP1 279 17 = some (.aload_n 0, 0, 0, 0) := zp_l zq_279 rfl
theorem p_279_18 : zP1 279 18 = some (.iload_n 1, 0, 0, 0) := zp_l zq_279 rfl
theorem p_279_19 : zP1 279 19 = some (.invokevirtual 340, 273, 1, 11) := zp_r zq_279 rfl
theorem p_279_22 : zP1 279 22 = some (.ifCond .ne 17, 0, 0, 0) := zp_l zq_279 rfl
theorem p_279_25 : zP1 279 25 = some (.aload_n 0, 0, 0, 0) := zp_l zq_279 rfl
theorem p_279_26 : zP1 279 26 = some (.getfield 9, 11, 0, 0) := zp_r zq_279 rfl
theorem p_279_29 : zP1 279 29 = some (.iload_n 1, 0, 0, 0) := zp_l zq_279 rfl
theorem p_279_30 : zP1 279 30 = some (.iconst 0, 0, 0, 0) := zp_l zq_279 rfl
theorem p_279_31 : zP1 279 31 = some (.invokestatic 129, 204, 2, 0) := zp_r zq_279 rfl
theorem p_279_34 : zP1 279 34 = some (.iaload, 0, 0, 0) := zp_l zq_279 rfl
theorem p_279_35 : zP1 279 35 = some (.iload_n 2, 0, 0, 0) := zp_l zq_279 rfl
theorem p_279_36 : zP1 279 36 = some (.if_icmp .ne 6, 0, 0, 0) := zp_l zq_279 rfl
theorem p_279_39 : zP1 279 39 = some (.bipush (-4), 0, 0, 0) := zp_l zq_279 rfl
theorem p_279_41 : zP1 279 41 = some (.ireturn, 0, 0, 0) := zp_l zq_279 rfl
theorem p_279_42 : zP1 279 42 = some (.aload_n 0, 0, 0, 0) := zp_l zq_279 rfl
theorem p_279_43 : zP1 279 43 = some (.getfield 9, 11, 0, 0) := zp_r zq_279 rfl
theorem p_279_46 : zP1 279 46 = some (.iload_n 1, 0, 0, 0) := zp_l zq_279 rfl
theorem p_279_47 : zP1 279 47 = some (.iconst 4, 0, 0, 0) := zp_l zq_279 rfl
theorem p_279_48 : zP1 279 48 = some (.invokestatic 129, 204, 2, 0) := zp_r zq_279 rfl
theorem p_279_51 : zP1 279 51 = some (.iaload, 0, 0, 0) := zp_l zq_279 rfl
theorem p_279_52 : zP1 279 52 = some (.istore_n 3, 0, 0, 0) := zp_l zq_279 rfl
theorem p_279_53 : zP1 279 53 = some (.aload_n 0, 0, 0, 0) := zp_l zq_279 rfl
theorem p_279_54 : zP1 279 54 = some (.getfield 9, 11, 0, 0) := zp_r zq_279 rfl
theorem p_279_57 : zP1 279 57 = some (.iload_n 1, 0, 0, 0) := zp_l zq_279 rfl
theorem p_279_58 : zP1 279 58 = some (.iconst 4, 0, 0, 0) := zp_l zq_279 rfl
theorem p_279_59 : zP1 279 59 = some (.invokestatic 129, 204, 2, 0) := zp_r zq_279 rfl
theorem p_279_62 : zP1 279 62 = some (.iload_n 2, 0, 0, 0) := zp_l zq_279 rfl
theorem p_279_63 : zP1 279 63 = some (.iastore, 0, 0, 0) := zp_l zq_279 rfl
theorem p_279_64 : zP1 279 64 = some (.aload_n 0, 0, 0, 0) := zp_l zq_279 rfl
theorem p_279_65 : zP1 279 65 = some (.getfield 9, 11, 0, 0) := zp_r zq_279 rfl
theorem p_279_68 : zP1 279 68 = some (.iload_n 1, 0, 0, 0) := zp_l zq_279 rfl
theorem p_279_69 : zP1 279 69 = some (.bipush 6, 0, 0, 0) := zp_l zq_279 rfl
theorem p_279_71 : zP1 279 71 = some (.invokestatic 129, 204, 2, 0) := zp_r zq_279 rfl
theorem p_279_74 : zP1 279 74 = some (.iconst 0, 0, 0, 0) := zp_l zq_279 rfl
theorem p_279_75 : zP1 279 75 = some (.iastore, 0, 0, 0) := zp_l zq_279 rfl
theorem p_279_76 : zP1 279 76 = some (.iload_n 3, 0, 0, 0) := zp_l zq_279 rfl
theorem p_279_77 : zP1 279 77 = some (.ireturn, 0, 0, 0) := zp_l zq_279 rfl
theorem b_279_0 {x1 : Int} {x2 : Int} : Z e (d + 2) 279 0 [.ref 246, .int (iI x1), .int (iI x2), .retAddr 0] [] m = (if (¬ (((wr 0) ≤ (wr x1)) ∧ ((wr x1) ≤ (wr ((m 247 1) - 1))))) ∨ (¬ (((wr 0) ≤ (wr x2)) ∧ ((wr x2) ≤ (wr 99)))) then ri (-1) m else ck (0 ≤ (wr ((110 + (9 * x1)) + 2)) ∧ (wr ((110 + (9 * x1)) + 2)) < 2737) (ck ((¬ (5 ≤ (wr (m 247 (wr ((110 + (9 * x1)) + 2)))))) → (0 ≤ (wr ((110 + (9 * x1)) + 0)) ∧ (wr ((110 + (9 * x1)) + 0)) < 2737)) (if (5 ≤ (wr (m 247 (wr ((110 + (9 * x1)) + 2))))) ∨ ((wr (m 247 (wr ((110 + (9 * x1)) + 0)))) = (wr x2)) then ri (-4) m else ck (0 ≤ (wr ((110 + (9 * x1)) + 4)) ∧ (wr ((110 + (9 * x1)) + 4)) < 2737) (ck (0 ≤ (wr ((110 + (9 * x1)) + 4)) ∧ (wr ((110 + (9 * x1)) + 4)) < 2737) (ck (0 ≤ (wr ((110 + (9 * x1)) + 6)) ∧ (wr ((110 + (9 * x1)) + 6)) < 2737) (ri (m 247 (wr ((110 + (9 * x1)) + 4))) (um (um m 247 (wr ((110 + (9 * x1)) + 4)) x2) 247 (wr ((110 + (9 * x1)) + 6)) 0))))))) := (s_al_0 p_279_0).trans <| (s_il_1 p_279_1).trans <| (s_cv1 (Lc := [.ref 246, .int (iI x1)]) p_279_2 (by decide) (by decide) (zM_of zq_202) ⟨Nat.le_of_ble_eq_true rfl, Nat.le_of_ble_eq_true rfl⟩ rfl (m_rc hs_246 ⟨rfl, by decide⟩)).trans <| (bd b_202_0).trans <| ri_k.trans <| Eq.trans (Eq.trans (s_beq_t p_279_5 rfl) <| Eq.trans (ite_cg rfl ((s_il_2 p_279_8).trans <| (s_cs1 (Lc := [.int (iI x2)]) p_279_9 (by decide) (zM_of zq_200) ⟨Nat.le_of_ble_eq_true rfl, Nat.le_of_ble_eq_true rfl⟩ rfl).trans <| (bd b_200_0).trans <| ri_k.trans <| (s_bne_f p_279_12 rfl))) co_or) <| ite_cg ((s_const p_279_15).trans <| (s_reti p_279_16 (zM_of zq_279))) ((s_al_0 p_279_17).trans <| (s_il_1 p_279_18).trans <| (s_cv1 (Lc := [.ref 246, .int (iI x1)]) p_279_19 (by decide) (by decide) (zM_of zq_273) ⟨Nat.le_of_ble_eq_true rfl, Nat.le_of_ble_eq_true rfl⟩ rfl (m_rc hs_246 ⟨rfl, by decide⟩)).trans <| (bd b_273_0).trans <| ck_bind.trans <| ck_cg fun _ => ri_k.trans <| Eq.trans (Eq.trans (s_bne_t p_279_22 rfl) <| Eq.trans (ite_cg rfl ((s_al_0 p_279_25).trans <| (s_getr p_279_26 hs_246 (by decide) rfl).trans <| (s_il_1 p_279_29).trans <| (s_const p_279_30).trans <| (s_cs2 (Lc := [.int (iI x1), .int (iI 0)]) p_279_31 (by decide) (zM_of zq_204) ⟨Nat.le_of_ble_eq_true rfl, Nat.le_of_ble_eq_true rfl⟩ rfl).trans <| (bd b_204_0).trans <| ri_k.trans <| (s_ald 2737 p_279_34 hs_247 rfl (by decide)).trans <| ck_cg fun k1 => (s_il_2 p_279_35).trans <| (s_c_ne_f p_279_36 rfl rfl rfl))) <| Eq.trans ck_b <| ck_cg fun _ => co_or) <| ck_cg fun _ => ite_cg ((s_bip p_279_39 rfl).trans <| (s_reti p_279_41 (zM_of zq_279))) ((s_al_0 p_279_42).trans <| (s_getr p_279_43 hs_246 (by decide) rfl).trans <| (s_il_1 p_279_46).trans <| (s_const p_279_47).trans <| (s_cs2 (Lc := [.int (iI x1), .int (iI 4)]) p_279_48 (by decide) (zM_of zq_204) ⟨Nat.le_of_ble_eq_true rfl, Nat.le_of_ble_eq_true rfl⟩ rfl).trans <| (bd b_204_0).trans <| ri_k.trans <| (s_ald 2737 p_279_51 hs_247 rfl (by decide)).trans <| ck_cg fun k2 => (s_is_3 cat_i p_279_52).trans <| (s_al_0 p_279_53).trans <| (s_getr p_279_54 hs_246 (by decide) rfl).trans <| (s_il_1 p_279_57).trans <| (s_const p_279_58).trans <| (s_cs2 (Lc := [.int (iI x1), .int (iI 4)]) p_279_59 (by decide) (zM_of zq_204) ⟨Nat.le_of_ble_eq_true rfl, Nat.le_of_ble_eq_true rfl⟩ rfl).trans <| (bd b_204_0).trans <| ri_k.trans <| (s_il_2 p_279_62).trans <| (s_ast 2737 p_279_63 hs_247 rfl).trans <| ck_cg fun k3 => (s_al_0 p_279_64).trans <| (s_getr p_279_65 hs_246 (by decide) rfl).trans <| (s_il_1 p_279_68).trans <| (s_bip p_279_69 rfl).trans <| (s_cs2 (Lc := [.int (iI x1), .int (iI 6)]) p_279_71 (by decide) (zM_of zq_204) ⟨Nat.le_of_ble_eq_true rfl, Nat.le_of_ble_eq_true rfl⟩ rfl).trans <| (bd b_204_0).trans <| ri_k.trans <| (s_const p_279_74).trans <| (s_ast 2737 p_279_75 hs_247 rfl).trans <| ck_cg fun k4 => (s_il_3 p_279_76).trans <| (s_reti p_279_77 (zM_of zq_279))))
-- M.runs
theorem p_280_0 : zP1 280 0 = some (.aload_n 0, 0, 0, 0) := zp_l zq_280 rfl
theorem p_280_1 : zP1 280 1 = some (.aload_n 0, 0, 0, 0) := zp_l zq_280 rfl
theorem p_280_2 : zP1 280 2 = some (.getfield 9, 11, 0, 0) := zp_r zq_280 rfl
theorem p_280_5 : zP1 280 5 = some (.iload_n 1, 0, 0, 0) := zp_l zq_280 rfl
theorem p_280_6 : zP1 280 6 = some (.iconst 4, 0, 0, 0) := zp_l zq_280 rfl
theorem p_280_7 : zP1 280 7 = some (.invokestatic 129, 204, 2, 0) := zp_r zq_280 rfl
theorem p_280_10 : zP1 280 10 = some (.iaload, 0, 0, 0) := zp_l zq_280 rfl
theorem p_280_11 : zP1 280 11 = some (.invokevirtual 125, 209, 1, 11) := zp_r zq_280 rfl
theorem p_280_14 : zP1 280 14 = some (.iconst 0, 0, 0, 0) := zp_l zq_280 rfl
theorem p_280_15 : zP1 280 15 = some (.istore_n 2, 0, 0, 0) := zp_l zq_280 rfl
theorem p_280_16 : zP1 280 16 = some (.iload_n 2, 0, 0, 0) := zp_l zq_280 rfl
theorem p_280_17 : zP1 280 17 = some (.aload_n 0, 0, 0, 0) := zp_l zq_280 rfl
theorem p_280_18 : zP1 280 18 = some (.getfield 9, 11, 0, 0) := zp_r zq_280 rfl
theorem p_280_21 : zP1 280 21 = some (.iload_n 1, 0, 0, 0) := zp_l zq_280 rfl
theorem p_280_22 : zP1 280 22 = some (.iconst 1, 0, 0, 0) := zp_l zq_280 rfl
theorem p_280_23 : zP1 280 23 = some (.invokestatic 129, 204, 2, 0) := zp_r zq_280 rfl
theorem p_280_26 : zP1 280 26 = some (.iaload, 0, 0, 0) := zp_l zq_280 rfl
theorem p_280_27 : zP1 280 27 = some (.if_icmp .ge 230, 0, 0, 0) := zp_l zq_280 rfl
theorem p_280_30 : zP1 280 30 = some (.aload_n 0, 0, 0, 0) := zp_l zq_280 rfl
theorem p_280_31 : zP1 280 31 = some (.getfield 9, 11, 0, 0) := zp_r zq_280 rfl
theorem p_280_34 : zP1 280 34 = some (.iload_n 1, 0, 0, 0) := zp_l zq_280 rfl
theorem p_280_35 : zP1 280 35 = some (.iconst 4, 0, 0, 0) := zp_l zq_280 rfl
theorem p_280_36 : zP1 280 36 = some (.invokestatic 129, 204, 2, 0) := zp_r zq_280 rfl
theorem p_280_39 : zP1 280 39 = some (.iaload, 0, 0, 0) := zp_l zq_280 rfl
theorem p_280_40 : zP1 280 40 = some (.bipush (-3), 0, 0, 0) := zp_l zq_280 rfl
theorem p_280_42 : zP1 280 42 = some (.if_icmp .eq 215, 0, 0, 0) := zp_l zq_280 rfl
theorem p_280_45 : zP1 280 45 = some (.aload_n 0, 0, 0, 0) := zp_l zq_280 rfl
theorem p_280_46 : zP1 280 46 = some (.getfield 9, 11, 0, 0) := zp_r zq_280 rfl
theorem p_280_49 : zP1 280 49 = some (.iload_n 1, 0, 0, 0) := zp_l zq_280 rfl
theorem p_280_50 : zP1 280 50 = some (.iconst 0, 0, 0, 0) := zp_l zq_280 rfl
theorem p_280_51 : zP1 280 51 = some (.invokestatic 129, 204, 2, 0) := zp_r zq_280 rfl
theorem p_280_54 : zP1 280 54 = some (.iaload, 0, 0, 0) := zp_l zq_280 rfl
theorem p_280_55 : zP1 280 55 = some (.istore_n 3, 0, 0, 0) := zp_l zq_280 rfl
theorem p_280_56 : zP1 280 56 = some (.iconst (-1), 0, 0, 0) := zp_l zq_280 rfl
theorem p_280_57 : zP1 280 57 = some (.istore 4, 0, 0, 0) := zp_l zq_280 rfl
theorem p_280_59 : zP1 280 59 = some (.iconst 3, 0, 0, 0) := zp_l zq_280 rfl
theorem p_280_60 : zP1 280 60 = some (.istore 5, 0, 0, 0) := zp_l zq_280 rfl
theorem p_280_62 : zP1 280 62 = some (.iload 5, 0, 0, 0) := zp_l zq_280 rfl
theorem p_280_64 : zP1 280 64 = some (.ifCond .lt 62, 0, 0, 0) := zp_l zq_280 rfl
theorem p_280_67 : zP1 280 67 = some (.aload_n 0, 0, 0, 0) := zp_l zq_280 rfl
theorem p_280_68 : zP1 280 68 = some (.iload_n 3, 0, 0, 0) := zp_l zq_280 rfl
theorem p_280_69 : zP1 280 69 = some (.iload 5, 0, 0, 0) := zp_l zq_280 rfl
theorem p_280_71 : zP1 280 71 = some (.invokevirtual 117, 208, 2, 11) := zp_r zq_280 rfl
theorem p_280_74 : zP1 280 74 = some (.istore 6, 0, 0, 0) := zp_l zq_280 rfl
theorem p_280_76 : zP1 280 76 = some (.iload 6, 0, 0, 0) := zp_l zq_280 rfl
theorem p_280_78 : zP1 280 78 = some (.ifCond .lt 38, 0, 0, 0) := zp_l zq_280 rfl
theorem p_280_81 : zP1 280 81 = some (.aload_n 0, 0, 0, 0) := zp_l zq_280 rfl
theorem p_280_82 : zP1 280 82 = some (.getfield 29, 11, 9, 0) := zp_r zq_280 rfl
theorem p_280_85 : zP1 280 85 = some (.iload_n 3, 0, 0, 0) := zp_l zq_280 rfl
theorem p_280_86 : zP1 280 86 = some (.iaload, 0, 0, 0) := zp_l zq_280 rfl
theorem p_280_87 : zP1 280 87 = some (.sipush 1000, 0, 0, 0) := zp_l zq_280 rfl
theorem p_280_90 : zP1 280 90 = some (.if_icmp .eq 26, 0, 0, 0) := zp_l zq_280 rfl
theorem p_280_93 : zP1 280 93 = some (.aload_n 0, 0, 0, 0) := zp_l zq_280 rfl
theorem p_280_94 : zP1 280 94 = some (.getfield 29, 11, 9, 0) := zp_r zq_280 rfl
theorem p_280_97 : zP1 280 97 = some (.iload 6, 0, 0, 0) := zp_l zq_280 rfl
theorem p_280_99 : zP1 280 99 = some (.iaload, 0, 0, 0) := zp_l zq_280 rfl
theorem p_280_100 : zP1 280 100 = some (.aload_n 0, 0, 0, 0) := zp_l zq_280 rfl
theorem p_280_101 : zP1 280 101 = some (.getfield 29, 11, 9, 0) := zp_r zq_280 rfl
theorem p_280_104 : zP1 280 104 = some (.iload_n 3, 0, 0, 0) := zp_l zq_280 rfl
theorem p_280_105 : zP1 280 105 = some (.iaload, 0, 0, 0) := zp_l zq_280 rfl
theorem p_280_106 : zP1 280 106 = some (.iconst 1, 0, 0, 0) := zp_l zq_280 rfl
theorem p_280_107 : zP1 280 107 = some (.isub, 0, 0, 0) := zp_l zq_280 rfl
theorem p_280_108 : zP1 280 108 = some (.if_icmp .ne 8, 0, 0, 0) := zp_l zq_280 rfl
theorem p_280_111 : zP1 280 111 = some (.iload 6, 0, 0, 0) := zp_l zq_280 rfl
theorem p_280_113 : zP1 280 113 = some (.goto 5, 0, 0, 0) := zp_l zq_280 rfl
theorem p_280_116 : zP1 280 116 = some (.iload 4, 0, 0, 0) := zp_l zq_280 rfl
theorem p_280_118 : zP1 280 118 = some (.istore 4, 0, 0, 0) := zp_l zq_280 rfl
theorem p_280_120 : zP1 280 120 = some (.iinc 5 (-1), 0, 0, 0) := zp_l zq_280 rfl
theorem p_280_123 : zP1 280 123 = some (.goto (-61), 0, 0, 0) := zp_l zq_280 rfl
theorem p_280_126 : zP1 280 126 = some (.iload 4, 0, 0, 0) := zp_l zq_280 rfl
theorem p_280_128 : zP1 280 128 = some (.ifCond .ge 4, 0, 0, 0) := zp_l zq_280 rfl
theorem p_280_131 : zP1 280 131 = some (.return_, 0, 0, 0) := zp_l zq_280 rfl
theorem p_280_132 : zP1 280 132 = some (.aload_n 0, 0, 0, 0) := zp_l zq_280 rfl
theorem p_280_133 : zP1 280 133 = some (.getfield 9, 11, 0, 0) := zp_r zq_280 rfl
theorem p_280_136 : zP1 280 136 = some (.iload_n 1, 0, 0, 0) := zp_l zq_280 rfl
theorem p_280_137 : zP1 280 137 = some (.iconst 0, 0, 0, 0) := zp_l zq_280 rfl
theorem p_280_138 : zP1 280 138 = some (.invokestatic 129, 204, 2, 0) := zp_r zq_280 rfl
theorem p_280_141 : zP1 280 141 = some (.iload 4, 0, 0, 0) := zp_l zq_280 rfl
theorem p_280_143 : zP1 280 143 = some (.iastore, 0, 0, 0) := zp_l zq_280 rfl
theorem p_280_144 : zP1 280 144 = some (.aload_n 0, 0, 0, 0) := zp_l zq_280 rfl
theorem p_280_145 : zP1 280 145 = some (.iload 4, 0, 0, 0) := zp_l zq_280 rfl
theorem p_280_147 : zP1 280 147 = some (.aload_n 0, 0, 0, 0) := zp_l zq_280 rfl
theorem p_280_148 : zP1 280 148 = some (.getfield 9, 11, 0, 0) := zp_r zq_280 rfl
theorem p_280_151 : zP1 280 151 = some (.iconst 0, 0, 0, 0) := zp_l zq_280 rfl
theorem p_280_152 : zP1 280 152 = some (.iaload, 0, 0, 0) := zp_l zq_280 rfl
theorem p_280_153 : zP1 280 153 = some (.bipush 24, 0, 0, 0) := zp_l zq_280 rfl
theorem p_280_155 : zP1 280 155 = some (.irem, 0, 0, 0) := zp_l zq_280 rfl
theorem p_280_156 : zP1 280 156 = some (.invokevirtual 344, 277, 2, 11) := zp_r zq_280 rfl
theorem p_280_159 : zP1 280 159 = some (.istore 5, 0, 0, 0) := zp_l zq_280 rfl
theorem p_280_161 : zP1 280 161 = some (.iload 5, 0, 0, 0) := zp_l zq_280 rfl
theorem p_280_163 : zP1 280 163 = some (.ifCond .eq 49, 0, 0, 0) := zp_l zq_280 rfl
theorem p_280_166 : zP1 280 166 = some (.iconst 0, 0, 0, 0) := zp_l zq_280 rfl
theorem p_280_167 : zP1 280 167 = some (.istore 6, 0, 0, 0) := zp_l zq_280 rfl
theorem p_280_169 : zP1 280 169 = some (.iload 5, 0, 0, 0) := zp_l zq_280 rfl
theorem p_280_171 : zP1 280 171 = some (.iload 6, 0, 0, 0) := zp_l zq_280 rfl
theorem p_280_173 : zP1 280 173 = some (.ishr, 0, 0, 0) := zp_l zq_280 rfl
theorem p_280_174 : zP1 280 174 = some (.iconst 1, 0, 0, 0) := zp_l zq_280 rfl
theorem p_280_175 : zP1 280 175 = some (.iand, 0, 0, 0) := zp_l zq_280 rfl
theorem p_280_176 : zP1 280 176 = some (.ifCond .ne 9, 0, 0, 0) := zp_l zq_280 rfl
theorem p_280_179 : zP1 280 179 = some (.iinc 6 1, 0, 0, 0) := zp_l zq_280 rfl
theorem p_280_182 : zP1 280 182 = some (.goto (-13), 0, 0, 0) := zp_l zq_280 rfl
theorem p_280_185 : zP1 280 185 = some (.aload_n 0, 0, 0, 0) := zp_l zq_280 rfl
theorem p_280_186 : zP1 280 186 = some (.getfield 9, 11, 0, 0) := zp_r zq_280 rfl
theorem p_280_189 : zP1 280 189 = some (.iload_n 1, 0, 0, 0) := zp_l zq_280 rfl
theorem p_280_190 : zP1 280 190 = some (.iconst 5, 0, 0, 0) := zp_l zq_280 rfl
theorem p_280_191 : zP1 280 191 = some (.invokestatic 129, 204, 2, 0) := zp_r zq_280 rfl
theorem p_280_194 : zP1 280 194 = some (.iload 6, 0, 0, 0) := zp_l zq_280 rfl
theorem p_280_196 : zP1 280 196 = some (.iastore, 0, 0, 0) := zp_l zq_280 rfl
theorem p_280_197 : zP1 280 197 = some (.aload_n 0, 0, 0, 0) := zp_l zq_280 rfl
theorem p_280_198 : zP1 280 198 = some (.getfield 9, 11, 0, 0) := zp_r zq_280 rfl
theorem p_280_201 : zP1 280 201 = some (.iload_n 1, 0, 0, 0) := zp_l zq_280 rfl
theorem p_280_202 : zP1 280 202 = some (.iconst 4, 0, 0, 0) := zp_l zq_280 rfl
theorem p_280_203 : zP1 280 203 = some (.invokestatic 129, 204, 2, 0) := zp_r zq_280 rfl
theorem p_280_206 : zP1 280 206 = some (.bipush (-3), 0, 0, 0) := zp_l zq_280 rfl
theorem p_280_208 : zP1 280 208 = some (.iastore, 0, 0, 0) := zp_l zq_280 rfl
theorem p_280_209 : zP1 280 209 = some (.goto 42, 0, 0, 0) := zp_l zq_280 rfl
theorem p_280_212 : zP1 280 212 = some (.iload 4, 0, 0, 0) := zp_l zq_280 rfl
theorem p_280_214 : zP1 280 214 = some (.aload_n 0, 0, 0, 0) := zp_l zq_280 rfl
theorem p_280_215 : zP1 280 215 = some (.getfield 9, 11, 0, 0) := zp_r zq_280 rfl
theorem p_280_218 : zP1 280 218 = some (.iload_n 1, 0, 0, 0) := zp_l zq_280 rfl
theorem p_280_219 : zP1 280 219 = some (.iconst 4, 0, 0, 0) := zp_l zq_280 rfl
theorem p_280_220 : zP1 280 220 = some (.invokestatic 129, 204, 2, 0) := zp_r zq_280 rfl
theorem p_280_223 : zP1 280 223 = some (.iaload, 0, 0, 0) := zp_l zq_280 rfl
theorem p_280_224 : zP1 280 224 = some (.if_icmp .ne 27, 0, 0, 0) := zp_l zq_280 rfl
theorem p_280_227 : zP1 280 227 = some (.aload_n 0, 0, 0, 0) := zp_l zq_280 rfl
theorem p_280_228 : zP1 280 228 = some (.getfield 9, 11, 0, 0) := zp_r zq_280 rfl
theorem p_280_231 : zP1 280 231 = some (.iload_n 1, 0, 0, 0) := zp_l zq_280 rfl
theorem p_280_232 : zP1 280 232 = some (.bipush 6, 0, 0, 0) := zp_l zq_280 rfl
theorem p_280_234 : zP1 280 234 = some (.invokestatic 129, 204, 2, 0) := zp_r zq_280 rfl
theorem p_280_237 : zP1 280 237 = some (.iconst 1, 0, 0, 0) := zp_l zq_280 rfl
theorem p_280_238 : zP1 280 238 = some (.iastore, 0, 0, 0) := zp_l zq_280 rfl
theorem p_280_239 : zP1 280 239 = some (.aload_n 0, 0, 0, 0) := zp_l zq_280 rfl
theorem p_280_240 : zP1 280 240 = some (.getfield 9, 11, 0, 0) := zp_r zq_280 rfl
theorem p_280_243 : zP1 280 243 = some (.iload_n 1, 0, 0, 0) := zp_l zq_280 rfl
theorem p_280_244 : zP1 280 244 = some (.iconst 4, 0, 0, 0) := zp_l zq_280 rfl
theorem p_280_245 : zP1 280 245 = some (.invokestatic 129, 204, 2, 0) := zp_r zq_280 rfl
theorem p_280_248 : zP1 280 248 = some (.bipush (-3), 0, 0, 0) := zp_l zq_280 rfl
theorem p_280_250 : zP1 280 250 = some (.iastore, 0, 0, 0) := zp_l zq_280 rfl
theorem p_280_251 : zP1 280 251 = some (.iinc 2 1, 0, 0, 0) := zp_l zq_280 rfl
theorem p_280_254 : zP1 280 254 = some (.goto (-238), 0, 0, 0) := zp_l zq_280 rfl
theorem p_280_257 : zP1 280 257 = some (.return_, 0, 0, 0) := zp_l zq_280 rfl
theorem b_280_0 {x1 : Int} : Z e (d + 1) 280 0 [.ref 246, .int (iI x1), .retAddr 0, .retAddr 0, .retAddr 0, .retAddr 0, .retAddr 0] [] m = ck (0 ≤ (wr ((110 + (9 * x1)) + 4)) ∧ (wr ((110 + (9 * x1)) + 4)) < 2737) ((Z e d 209 0 [.ref 246, .int (iI (m 247 (wr ((110 + (9 * x1)) + 4)))), .retAddr 0, .retAddr 0, .retAddr 0, .retAddr 0] [] m).bind (ZK e (d + 1) 280 14 [.ref 246, .int (iI x1), .retAddr 0, .retAddr 0, .retAddr 0, .retAddr 0, .retAddr 0] [] m)) := (s_al_0 p_280_0).trans <| (s_al_0 p_280_1).trans <| (s_getr p_280_2 hs_246 (by decide) rfl).trans <| (s_il_1 p_280_5).trans <| (s_const p_280_6).trans <| (s_cs2 (Lc := [.int (iI x1), .int (iI 4)]) p_280_7 (by decide) (zM_of zq_204) ⟨Nat.le_of_ble_eq_true rfl, Nat.le_of_ble_eq_true rfl⟩ rfl).trans <| (bd b_204_0).trans <| ri_k.trans <| (s_ald 2737 p_280_10 hs_247 rfl (by decide)).trans <| ck_cg fun k1 => (s_cv1 (Lc := [.ref 246, .int (iI (m 247 (wr ((110 + (9 * x1)) + 4)))), .retAddr 0, .retAddr 0, .retAddr 0, .retAddr 0]) p_280_11 (by decide) (by decide) (zM_of zq_209) ⟨Nat.le_of_ble_eq_true rfl, Nat.le_of_ble_eq_true rfl⟩ rfl (m_rc hs_246 ⟨rfl, by decide⟩))
theorem b_280_14 {x1 : Int} {u2 u3 u4 u5 u6 : Value} : Z e (d + 1) 280 14 [.ref 246, .int (iI x1), u2, u3, u4, u5, u6] [] m = Z e (d + 1) 280 16 [.ref 246, .int (iI x1), .int (iI 0), u3, u4, u5, u6] [] m := (s_const p_280_14).trans <| (s_is_2 cat_i p_280_15).trans <| rfl
theorem b_280_16 {x1 : Int} {x2 : Int} {u3 u4 u5 u6 : Value} : Z e (d + 1) 280 16 [.ref 246, .int (iI x1), .int (iI x2), u3, u4, u5, u6] [] m = ck (0 ≤ (wr ((110 + (9 * x1)) + 1)) ∧ (wr ((110 + (9 * x1)) + 1)) < 2737) (ck (((wr x2) < (wr (m 247 (wr ((110 + (9 * x1)) + 1))))) → (0 ≤ (wr ((110 + (9 * x1)) + 4)) ∧ (wr ((110 + (9 * x1)) + 4)) < 2737)) (if ((wr x2) < (wr (m 247 (wr ((110 + (9 * x1)) + 1))))) ∧ (¬ (wr (m 247 (wr ((110 + (9 * x1)) + 4)))) = (-3)) then ck (0 ≤ (wr ((110 + (9 * x1)) + 0)) ∧ (wr ((110 + (9 * x1)) + 0)) < 2737) (Z e (d + 1) 280 62 [.ref 246, .int (iI x1), .int (iI x2), .int (iI (m 247 (wr ((110 + (9 * x1)) + 0)))), .int (iI (-1)), .int (iI 3), u6] [] m) else rn m)) := (s_il_2 p_280_16).trans <| (s_al_0 p_280_17).trans <| (s_getr p_280_18 hs_246 (by decide) rfl).trans <| (s_il_1 p_280_21).trans <| (s_const p_280_22).trans <| (s_cs2 (Lc := [.int (iI x1), .int (iI 1)]) p_280_23 (by decide) (zM_of zq_204) ⟨Nat.le_of_ble_eq_true rfl, Nat.le_of_ble_eq_true rfl⟩ rfl).trans <| (bd b_204_0).trans <| ri_k.trans <| (s_ald 2737 p_280_26 hs_247 rfl (by decide)).trans <| ck_cg fun k1 => Eq.trans (Eq.trans (s_c_ge_f p_280_27 rfl rfl rfl) <| Eq.trans (ite_cg ((s_al_0 p_280_30).trans <| (s_getr p_280_31 hs_246 (by decide) rfl).trans <| (s_il_1 p_280_34).trans <| (s_const p_280_35).trans <| (s_cs2 (Lc := [.int (iI x1), .int (iI 4)]) p_280_36 (by decide) (zM_of zq_204) ⟨Nat.le_of_ble_eq_true rfl, Nat.le_of_ble_eq_true rfl⟩ rfl).trans <| (bd b_204_0).trans <| ri_k.trans <| (s_ald 2737 p_280_39 hs_247 rfl (by decide)).trans <| ck_cg fun k2 => (s_bip p_280_40 rfl).trans <| (s_c_eq_f p_280_42 rfl rfl wl_m3)) rfl) <| Eq.trans ck_a <| ck_cg fun _ => co_and) <| ck_cg fun _ => ite_cg ((s_al_0 p_280_45).trans <| (s_getr p_280_46 hs_246 (by decide) rfl).trans <| (s_il_1 p_280_49).trans <| (s_const p_280_50).trans <| (s_cs2 (Lc := [.int (iI x1), .int (iI 0)]) p_280_51 (by decide) (zM_of zq_204) ⟨Nat.le_of_ble_eq_true rfl, Nat.le_of_ble_eq_true rfl⟩ rfl).trans <| (bd b_204_0).trans <| ri_k.trans <| (s_ald 2737 p_280_54 hs_247 rfl (by decide)).trans <| ck_cg fun k3 => (s_is_3 cat_i p_280_55).trans <| (s_const p_280_56).trans <| (s_is_4 cat_i p_280_57).trans <| (s_const p_280_59).trans <| (s_is_5 cat_i p_280_60).trans <| rfl) ((s_retv p_280_257 (zM_of zq_280)))
theorem b_280_62 {x1 : Int} {x2 : Int} {x3 : Int} {x4 : Int} {x5 : Int} {u6 : Value} : Z e (d + 1) 280 62 [.ref 246, .int (iI x1), .int (iI x2), .int (iI x3), .int (iI x4), .int (iI x5), u6] [] m = (if 0 ≤ (wr x5) then (Z e d 208 0 [.ref 246, .int (iI x3), .int (iI x5), .retAddr 0] [] m).bind (ZK e (d + 1) 280 74 [.ref 246, .int (iI x1), .int (iI x2), .int (iI x3), .int (iI x4), .int (iI x5), u6] [] m) else Z e (d + 1) 280 126 [.ref 246, .int (iI x1), .int (iI x2), .int (iI x3), .int (iI x4), .int (iI x5), u6] [] m) := (s_il_5 p_280_62).trans <| Eq.trans ((s_z_lt_f p_280_64 rfl rfl)) <| ite_cg ((s_al_0 p_280_67).trans <| (s_il_3 p_280_68).trans <| (s_il_5 p_280_69).trans <| (s_cv2 (Lc := [.ref 246, .int (iI x3), .int (iI x5), .retAddr 0]) p_280_71 (by decide) (by decide) (zM_of zq_208) ⟨Nat.le_of_ble_eq_true rfl, Nat.le_of_ble_eq_true rfl⟩ rfl (m_rc hs_246 ⟨rfl, by decide⟩))) (rfl)
theorem b_280_74 {x1 : Int} {x2 : Int} {x3 : Int} {x4 : Int} {x5 : Int} {xs0 : Int} {u6 : Value} : Z e (d + 1) 280 74 [.ref 246, .int (iI x1), .int (iI x2), .int (iI x3), .int (iI x4), .int (iI x5), u6] [.int (iI xs0)] m = ck ((0 ≤ (wr xs0)) → ((0 ≤ (wr x3) ∧ (wr x3) < 100) ∧ ((¬ (wr (m 252 (wr x3))) = 1000) → ((0 ≤ (wr xs0) ∧ (wr xs0) < 100) ∧ (0 ≤ (wr x3) ∧ (wr x3) < 100))))) (Z e (d + 1) 280 62 [.ref 246, .int (iI x1), .int (iI x2), .int (iI x3), .int (iI (if (0 ≤ (wr xs0)) ∧ ((¬ (wr (m 252 (wr x3))) = 1000) ∧ ((wr (m 252 (wr xs0))) = (wr ((m 252 (wr x3)) - 1)))) then xs0 else x4)), .int (iI (x5 + (-1))), .int (iI xs0)] [] m) := (s_is_6 cat_i p_280_74).trans <| (s_il_6 p_280_76).trans <| Eq.trans (Eq.trans (Eq.trans (s_z_lt_f p_280_78 rfl rfl) <| Eq.trans (ite_cg ((s_al_0 p_280_81).trans <| (s_getr p_280_82 hs_246 (by decide) rfl).trans <| (s_il_3 p_280_85).trans <| (s_ald 100 p_280_86 hs_252 rfl (by decide)).trans <| Eq.trans (ck_cg fun k1 => (s_sip p_280_87 rfl).trans <| Eq.trans (s_c_eq_f p_280_90 rfl rfl wl_1000) <| Eq.trans (ite_cg ((s_al_0 p_280_93).trans <| (s_getr p_280_94 hs_246 (by decide) rfl).trans <| (s_il_6 p_280_97).trans <| (s_ald 100 p_280_99 hs_252 rfl (by decide)).trans <| Eq.trans (ck_cg fun k2 => (s_al_0 p_280_100).trans <| (s_getr p_280_101 hs_246 (by decide) rfl).trans <| (s_il_3 p_280_104).trans <| (s_ald 100 p_280_105 hs_252 rfl (by decide)).trans <| ck_cg fun k3 => (s_const p_280_106).trans <| (s_isub p_280_107).trans <| (s_c_ne_f p_280_108 rfl rfl rfl)) ck_ck) rfl) <| Eq.trans ck_a <| ck_cg fun _ => co_and) ck_ck) rfl) <| Eq.trans ck_a <| ck_cg fun _ => co_and) <| ck_cg fun _ => Eq.trans (ite_cg ((s_il_6 p_280_111).trans <| (s_goto p_280_113 rfl).trans <| rfl) ((s_il_4 p_280_116).trans <| rfl)) (phi1 (fun z0 => Z e (d + 1) 280 118 [.ref 246, .int (iI x1), .int (iI x2), .int (iI x3), .int (iI x4), .int (iI x5), .int (iI xs0)] [.int (iI z0)] m))) <| ck_cg fun _ => (s_is_4 cat_i p_280_118).trans <| (s_inc_5 cat_i p_280_120).trans <| (s_goto p_280_123 rfl).trans <| rfl
theorem b_280_126 {x1 : Int} {x2 : Int} {x4 : Int} {u3 u5 u6 : Value} : Z e (d + 1) 280 126 [.ref 246, .int (iI x1), .int (iI x2), u3, .int (iI x4), u5, u6] [] m = (if (wr x4) < 0 then rn m else ck (0 ≤ (wr ((110 + (9 * x1)) + 0)) ∧ (wr ((110 + (9 * x1)) + 0)) < 2737) ((Z e d 277 0 [.ref 246, .int (iI x4), .int (iI (jrem ((um m 247 (wr ((110 + (9 * x1)) + 0)) x4) 247 0) 24)), .retAddr 0, .retAddr 0, .retAddr 0, .retAddr 0, .retAddr 0] [] (um m 247 (wr ((110 + (9 * x1)) + 0)) x4)).bind (ZK e (d + 1) 280 159 [.ref 246, .int (iI x1), .int (iI x2), u3, .int (iI x4), u5, u6] [] (um m 247 (wr ((110 + (9 * x1)) + 0)) x4)))) := (s_il_4 p_280_126).trans <| Eq.trans ((s_z_ge_f p_280_128 rfl rfl)) <| ite_cg ((s_retv p_280_131 (zM_of zq_280))) ((s_al_0 p_280_132).trans <| (s_getr p_280_133 hs_246 (by decide) rfl).trans <| (s_il_1 p_280_136).trans <| (s_const p_280_137).trans <| (s_cs2 (Lc := [.int (iI x1), .int (iI 0)]) p_280_138 (by decide) (zM_of zq_204) ⟨Nat.le_of_ble_eq_true rfl, Nat.le_of_ble_eq_true rfl⟩ rfl).trans <| (bd b_204_0).trans <| ri_k.trans <| (s_il_4 p_280_141).trans <| (s_ast 2737 p_280_143 hs_247 rfl).trans <| ck_cg fun k1 => (s_al_0 p_280_144).trans <| (s_il_4 p_280_145).trans <| (s_al_0 p_280_147).trans <| (s_getr p_280_148 hs_246 (by decide) rfl).trans <| (s_const p_280_151).trans <| (s_aldc p_280_152 hs_247 (by decide) wl_0 (by decide)).trans <| (s_bip p_280_153 rfl).trans <| (s_iremc p_280_155 (by decide)).trans <| (s_cv2 (Lc := [.ref 246, .int (iI x4), .int (iI (jrem ((um m 247 (wr ((110 + (9 * x1)) + 0)) x4) 247 0) 24)), .retAddr 0, .retAddr 0, .retAddr 0, .retAddr 0, .retAddr 0]) p_280_156 (by decide) (by decide) (zM_of zq_277) ⟨Nat.le_of_ble_eq_true rfl, Nat.le_of_ble_eq_true rfl⟩ rfl (m_rc hs_246 ⟨rfl, by decide⟩)))
theorem b_280_159 {x1 : Int} {x2 : Int} {x4 : Int} {xs0 : Int} {u3 u5 u6 : Value} : Z e (d + 1) 280 159 [.ref 246, .int (iI x1), .int (iI x2), u3, .int (iI x4), u5, u6] [.int (iI xs0)] m = (if ¬ (wr xs0) = 0 then Z e (d + 1) 280 169 [.ref 246, .int (iI x1), .int (iI x2), u3, .int (iI x4), .int (iI xs0), .int (iI 0)] [] m else ck (0 ≤ (wr ((110 + (9 * x1)) + 4)) ∧ (wr ((110 + (9 * x1)) + 4)) < 2737) ((if (wr x4) = (wr (m 247 (wr ((110 + (9 * x1)) + 4)))) then ck (0 ≤ (wr ((110 + (9 * x1)) + 6)) ∧ (wr ((110 + (9 * x1)) + 6)) < 2737) (ck (0 ≤ (wr ((110 + (9 * x1)) + 4)) ∧ (wr ((110 + (9 * x1)) + 4)) < 2737) (Z e (d + 1) 280 16 [.ref 246, .int (iI x1), .int (iI (x2 + 1)), u3, .int (iI x4), .int (iI xs0), u6] [] (um (um m 247 (wr ((110 + (9 * x1)) + 6)) 1) 247 (wr ((110 + (9 * x1)) + 4)) (-3)))) else Z e (d + 1) 280 16 [.ref 246, .int (iI x1), .int (iI (x2 + 1)), u3, .int (iI x4), .int (iI xs0), u6] [] m))) := (s_is_5 cat_i p_280_159).trans <| (s_il_5 p_280_161).trans <| Eq.trans ((s_z_eq_f p_280_163 rfl rfl)) <| ite_cg ((s_const p_280_166).trans <| (s_is_6 cat_i p_280_167).trans <| rfl) ((s_il_4 p_280_212).trans <| (s_al_0 p_280_214).trans <| (s_getr p_280_215 hs_246 (by decide) rfl).trans <| (s_il_1 p_280_218).trans <| (s_const p_280_219).trans <| (s_cs2 (Lc := [.int (iI x1), .int (iI 4)]) p_280_220 (by decide) (zM_of zq_204) ⟨Nat.le_of_ble_eq_true rfl, Nat.le_of_ble_eq_true rfl⟩ rfl).trans <| (bd b_204_0).trans <| ri_k.trans <| (s_ald 2737 p_280_223 hs_247 rfl (by decide)).trans <| ck_cg fun k1 => Eq.trans ((s_c_ne_f p_280_224 rfl rfl rfl)) <| ite_cg ((s_al_0 p_280_227).trans <| (s_getr p_280_228 hs_246 (by decide) rfl).trans <| (s_il_1 p_280_231).trans <| (s_bip p_280_232 rfl).trans <| (s_cs2 (Lc := [.int (iI x1), .int (iI 6)]) p_280_234 (by decide) (zM_of zq_204) ⟨Nat.le_of_ble_eq_true rfl, Nat.le_of_ble_eq_true rfl⟩ rfl).trans <| (bd b_204_0).trans <| ri_k.trans <| (s_const p_280_237).trans <| (s_ast 2737 p_280_238 hs_247 rfl).trans <| ck_cg fun k2 => (s_al_0 p_280_239).trans <| (s_getr p_280_240 hs_246 (by decide) rfl).trans <| (s_il_1 p_280_243).trans <| (s_const p_280_244).trans <| (s_cs2 (Lc := [.int (iI x1), .int (iI 4)]) p_280_245 (by decide) (zM_of zq_204) ⟨Nat.le_of_ble_eq_true rfl, Nat.le_of_ble_eq_true rfl⟩ rfl).trans <| (bd b_204_0).trans <| ri_k.trans <| (s_bip p_280_248 rfl).trans <| (s_ast 2737 p_280_250 hs_247 rfl).trans <| ck_cg fun k3 => (s_inc_2 cat_i p_280_251).trans <| (s_goto p_280_254 rfl).trans <| rfl) ((s_inc_2 cat_i p_280_251).trans <| (s_goto p_280_254 rfl).trans <| rfl))
theorem b_280_169 {x1 : Int} {x2 : Int} {x5 : Int} {x6 : Int} {u3 u4 : Value} : Z e (d + 1) 280 169 [.ref 246, .int (iI x1), .int (iI x2), u3, u4, .int (iI x5), .int (iI x6)] [] m = (if (jand (jshr x5 x6) 1) = 0 then Z e (d + 1) 280 169 [.ref 246, .int (iI x1), .int (iI x2), u3, u4, .int (iI x5), .int (iI (x6 + 1))] [] m else Z e (d + 1) 280 185 [.ref 246, .int (iI x1), .int (iI x2), u3, u4, .int (iI x5), .int (iI x6)] [] m) := (s_il_5 p_280_169).trans <| (s_il_6 p_280_171).trans <| (s_ishr p_280_173).trans <| (s_const p_280_174).trans <| (s_iand p_280_175).trans <| Eq.trans ((s_z_ne_f p_280_176 rfl wr_jand)) <| ite_cg ((s_inc_6 cat_i p_280_179).trans <| (s_goto p_280_182 rfl).trans <| rfl) (rfl)
theorem b_280_185 {x1 : Int} {x2 : Int} {x6 : Int} {u3 u4 u5 : Value} : Z e (d + 1) 280 185 [.ref 246, .int (iI x1), .int (iI x2), u3, u4, u5, .int (iI x6)] [] m = ck (0 ≤ (wr ((110 + (9 * x1)) + 5)) ∧ (wr ((110 + (9 * x1)) + 5)) < 2737) (ck (0 ≤ (wr ((110 + (9 * x1)) + 4)) ∧ (wr ((110 + (9 * x1)) + 4)) < 2737) (Z e (d + 1) 280 16 [.ref 246, .int (iI x1), .int (iI (x2 + 1)), u3, u4, u5, .int (iI x6)] [] (um (um m 247 (wr ((110 + (9 * x1)) + 5)) x6) 247 (wr ((110 + (9 * x1)) + 4)) (-3)))) := (s_al_0 p_280_185).trans <| (s_getr p_280_186 hs_246 (by decide) rfl).trans <| (s_il_1 p_280_189).trans <| (s_const p_280_190).trans <| (s_cs2 (Lc := [.int (iI x1), .int (iI 5)]) p_280_191 (by decide) (zM_of zq_204) ⟨Nat.le_of_ble_eq_true rfl, Nat.le_of_ble_eq_true rfl⟩ rfl).trans <| (bd b_204_0).trans <| ri_k.trans <| (s_il_6 p_280_194).trans <| (s_ast 2737 p_280_196 hs_247 rfl).trans <| ck_cg fun k1 => (s_al_0 p_280_197).trans <| (s_getr p_280_198 hs_246 (by decide) rfl).trans <| (s_il_1 p_280_201).trans <| (s_const p_280_202).trans <| (s_cs2 (Lc := [.int (iI x1), .int (iI 4)]) p_280_203 (by decide) (zM_of zq_204) ⟨Nat.le_of_ble_eq_true rfl, Nat.le_of_ble_eq_true rfl⟩ rfl).trans <| (bd b_204_0).trans <| ri_k.trans <| (s_bip p_280_206 rfl).trans <| (s_ast 2737 p_280_208 hs_247 rfl).trans <| ck_cg fun k2 => (s_goto p_280_209 rfl).trans <| (s_inc_2 cat_i p_280_251).trans <| (s_goto p_280_254 rfl).trans <| rfl
-- M.tellOn
theorem p_281_0 : zP1 281 0 = some (.iconst 0, 0, 0, 0) := zp_l zq_281 rfl
theorem p_281_1 : zP1 281 1 = some (.istore_n 2, 0, 0, 0) := zp_l zq_281 rfl
theorem p_281_2 : zP1 281 2 = some (.iload_n 2, 0, 0, 0) := zp_l zq_281 rfl
theorem p_281_3 : zP1 281 3 = some (.aload_n 0, 0, 0, 0) := zp_l zq_281 rfl
theorem p_281_4 : zP1 281 4 = some (.getfield 9, 11, 0, 0) := zp_r zq_281 rfl
theorem p_281_7 : zP1 281 7 = some (.iconst 1, 0, 0, 0) := zp_l zq_281 rfl
theorem p_281_8 : zP1 281 8 = some (.iaload, 0, 0, 0) := zp_l zq_281 rfl
theorem p_281_9 : zP1 281 9 = some (.if_icmp .ge 128, 0, 0, 0) := zp_l zq_281 rfl
theorem p_281_12 : zP1 281 12 = some (.aload_n 0, 0, 0, 0) := zp_l zq_281 rfl
theorem p_281_13 : zP1 281 13 = some (.getfield 9, 11, 0, 0) := zp_r zq_281 rfl
theorem p_281_16 : zP1 281 16 = some (.sipush 1106, 0, 0, 0) := zp_l zq_281 rfl
theorem p_281_19 : zP1 281 19 = some (.bipush 8, 0, 0, 0) := zp_l zq_281 rfl
theorem p_281_21 : zP1 281 21 = some (.iload_n 2, 0, 0, 0) := zp_l zq_281 rfl
theorem p_281_22 : zP1 281 22 = some (.imul, 0, 0, 0) := zp_l zq_281 rfl
theorem p_281_23 : zP1 281 23 = some (.iadd, 0, 0, 0) := zp_l zq_281 rfl
theorem p_281_24 : zP1 281 24 = some (.iload_n 1, 0, 0, 0) := zp_l zq_281 rfl
theorem p_281_25 : zP1 281 25 = some (.iadd, 0, 0, 0) := zp_l zq_281 rfl
theorem p_281_26 : zP1 281 26 = some (.iaload, 0, 0, 0) := zp_l zq_281 rfl
theorem p_281_27 : zP1 281 27 = some (.istore_n 3, 0, 0, 0) := zp_l zq_281 rfl
theorem p_281_28 : zP1 281 28 = some (.iconst 0, 0, 0, 0) := zp_l zq_281 rfl
theorem p_281_29 : zP1 281 29 = some (.istore 4, 0, 0, 0) := zp_l zq_281 rfl
theorem p_281_31 : zP1 281 31 = some (.iload 4, 0, 0, 0) := zp_l zq_281 rfl
theorem p_281_33 : zP1 281 33 = some (.aload_n 0, 0, 0, 0) := zp_l zq_281 rfl
theorem p_281_34 : zP1 281 34 = some (.getfield 9, 11, 0, 0) := zp_r zq_281 rfl
theorem p_281_37 : zP1 281 37 = some (.iconst 1, 0, 0, 0) := zp_l zq_281 rfl
theorem p_281_38 : zP1 281 38 = some (.iaload, 0, 0, 0) := zp_l zq_281 rfl
theorem p_281_39 : zP1 281 39 = some (.if_icmp .ge 92, 0, 0, 0) := zp_l zq_281 rfl
theorem p_281_42 : zP1 281 42 = some (.iload_n 3, 0, 0, 0) := zp_l zq_281 rfl
theorem p_281_43 : zP1 281 43 = some (.bipush (-3), 0, 0, 0) := zp_l zq_281 rfl
theorem p_281_45 : zP1 281 45 = some (.if_icmp .eq 86, 0, 0, 0) := zp_l zq_281 rfl
theorem p_281_48 : zP1 281 48 = some (.iload_n 3, 0, 0, 0) := zp_l zq_281 rfl
theorem p_281_49 : zP1 281 49 = some (.aload_n 0, 0, 0, 0) := zp_l zq_281 rfl
theorem p_281_50 : zP1 281 50 = some (.getfield 9, 11, 0, 0) := zp_r zq_281 rfl
theorem p_281_53 : zP1 281 53 = some (.iconst 0, 0, 0, 0) := zp_l zq_281 rfl
theorem p_281_54 : zP1 281 54 = some (.iaload, 0, 0, 0) := zp_l zq_281 rfl
theorem p_281_55 : zP1 281 55 = some (.if_icmp .ge 76, 0, 0, 0) := zp_l zq_281 rfl
theorem p_281_58 : zP1 281 58 = some (.aload_n 0, 0, 0, 0) := zp_l zq_281 rfl
theorem p_281_59 : zP1 281 59 = some (.getfield 9, 11, 0, 0) := zp_r zq_281 rfl
theorem p_281_62 : zP1 281 62 = some (.sipush 1106, 0, 0, 0) := zp_l zq_281 rfl
theorem p_281_65 : zP1 281 65 = some (.bipush 8, 0, 0, 0) := zp_l zq_281 rfl
theorem p_281_67 : zP1 281 67 = some (.iload 4, 0, 0, 0) := zp_l zq_281 rfl
theorem p_281_69 : zP1 281 69 = some (.imul, 0, 0, 0) := zp_l zq_281 rfl
theorem p_281_70 : zP1 281 70 = some (.iadd, 0, 0, 0) := zp_l zq_281 rfl
theorem p_281_71 : zP1 281 71 = some (.iload_n 1, 0, 0, 0) := zp_l zq_281 rfl
theorem p_281_72 : zP1 281 72 = some (.iadd, 0, 0, 0) := zp_l zq_281 rfl
theorem p_281_73 : zP1 281 73 = some (.iaload, 0, 0, 0) := zp_l zq_281 rfl
theorem p_281_74 : zP1 281 74 = some (.bipush (-3), 0, 0, 0) := zp_l zq_281 rfl
theorem p_281_76 : zP1 281 76 = some (.if_icmp .ne 49, 0, 0, 0) := zp_l zq_281 rfl
theorem p_281_79 : zP1 281 79 = some (.aload_n 0, 0, 0, 0) := zp_l zq_281 rfl
theorem p_281_80 : zP1 281 80 = some (.getfield 9, 11, 0, 0) := zp_r zq_281 rfl
theorem p_281_83 : zP1 281 83 = some (.iload 4, 0, 0, 0) := zp_l zq_281 rfl
theorem p_281_85 : zP1 281 85 = some (.iconst 0, 0, 0, 0) := zp_l zq_281 rfl
theorem p_281_86 : zP1 281 86 = some (.invokestatic 129, 204, 2, 0) := zp_r zq_281 rfl
theorem p_281_89 : zP1 281 89 = some (.iaload, 0, 0, 0) := zp_l zq_281 rfl
theorem p_281_90 : zP1 281 90 = some (.aload_n 0, 0, 0, 0) := zp_l zq_281 rfl
theorem p_281_91 : zP1 281 91 = some (.getfield 9, 11, 0, 0) := zp_r zq_281 rfl
theorem p_281_94 : zP1 281 94 = some (.iload_n 2, 0, 0, 0) := zp_l zq_281 rfl
theorem p_281_95 : zP1 281 95 = some (.iconst 0, 0, 0, 0) := zp_l zq_281 rfl
theorem p_281_96 : zP1 281 96 = some (.invokestatic 129, 204, 2, 0) := zp_r zq_281 rfl
theorem p_281_99 : zP1 281 99 = some (.iaload, 0, 0, 0) := zp_l zq_281 rfl
theorem p_281_100 : zP1 281 100 = some (.if_icmp .ne 25, 0, 0, 0) := zp_l zq_281 rfl
theorem p_281_103 : zP1 281 103 = some (.aload_n 0, 0, 0, 0) := zp_l zq_281 rfl
theorem p_281_104 : zP1 281 104 = some (.getfield 9, 11, 0, 0) := zp_r zq_281 rfl
theorem p_281_107 : zP1 281 107 = some (.sipush 1106, 0, 0, 0) := zp_l zq_281 rfl
theorem p_281_110 : zP1 281 110 = some (.bipush 8, 0, 0, 0) := zp_l zq_281 rfl
theorem p_281_112 : zP1 281 112 = some (.iload 4, 0, 0, 0) := zp_l zq_281 rfl
theorem p_281_114 : zP1 281 114 = some (.imul, 0, 0, 0) := zp_l zq_281 rfl
theorem p_281_115 : zP1 281 115 = some (.iadd, 0, 0, 0) := zp_l zq_281 rfl
theorem p_281_116 : zP1 281 116 = some (.iload_n 1, 0, 0, 0) := zp_l zq_281 rfl
theorem p_281_117 : zP1 281 117 = some (.iadd, 0, 0, 0) := zp_l zq_281 rfl
theorem p_281_118 : zP1 281 118 = some (.aload_n 0, 0, 0, 0) := zp_l zq_281 rfl
theorem p_281_119 : zP1 281 119 = some (.getfield 9, 11, 0, 0) := zp_r zq_281 rfl
theorem p_281_122 : zP1 281 122 = some (.iconst 0, 0, 0, 0) := zp_l zq_281 rfl
theorem p_281_123 : zP1 281 123 = some (.iaload, 0, 0, 0) := zp_l zq_281 rfl
theorem p_281_124 : zP1 281 124 = some (.iastore, 0, 0, 0) := zp_l zq_281 rfl
theorem p_281_125 : zP1 281 125 = some (.iinc 4 1, 0, 0, 0) := zp_l zq_281 rfl
theorem p_281_128 : zP1 281 128 = some (.goto (-97), 0, 0, 0) := zp_l zq_281 rfl
theorem p_281_131 : zP1 281 131 = some (.iinc 2 1, 0, 0, 0) := zp_l zq_281 rfl
theorem p_281_134 : zP1 281 134 = some (.goto (-132), 0, 0, 0) := zp_l zq_281 rfl
theorem p_281_137 : zP1 281 137 = some (.return_, 0, 0, 0) := zp_l zq_281 rfl
theorem b_281_0 {x1 : Int} : Z e (d + 1) 281 0 [.ref 246, .int (iI x1), .retAddr 0, .retAddr 0, .retAddr 0] [] m = Z e (d + 1) 281 2 [.ref 246, .int (iI x1), .int (iI 0), .retAddr 0, .retAddr 0] [] m := (s_const p_281_0).trans <| (s_is_2 cat_i p_281_1).trans <| rfl
theorem b_281_2 {x1 : Int} {x2 : Int} {u3 u4 : Value} : Z e (d + 1) 281 2 [.ref 246, .int (iI x1), .int (iI x2), u3, u4] [] m = (if (wr x2) < (wr (m 247 1)) then ck (0 ≤ (wr ((1106 + (8 * x2)) + x1)) ∧ (wr ((1106 + (8 * x2)) + x1)) < 2737) (Z e (d + 1) 281 31 [.ref 246, .int (iI x1), .int (iI x2), .int (iI (m 247 (wr ((1106 + (8 * x2)) + x1)))), .int (iI 0)] [] m) else rn m) := (s_il_2 p_281_2).trans <| (s_al_0 p_281_3).trans <| (s_getr p_281_4 hs_246 (by decide) rfl).trans <| (s_const p_281_7).trans <| (s_aldc p_281_8 hs_247 (by decide) wl_1 (by decide)).trans <| Eq.trans ((s_c_ge_f p_281_9 rfl rfl rfl)) <| ite_cg ((s_al_0 p_281_12).trans <| (s_getr p_281_13 hs_246 (by decide) rfl).trans <| (s_sip p_281_16 rfl).trans <| (s_bip p_281_19 rfl).trans <| (s_il_2 p_281_21).trans <| (s_imul p_281_22).trans <| (s_iadd p_281_23).trans <| (s_il_1 p_281_24).trans <| (s_iadd p_281_25).trans <| (s_ald 2737 p_281_26 hs_247 rfl (by decide)).trans <| ck_cg fun k2 => (s_is_3 cat_i p_281_27).trans <| (s_const p_281_28).trans <| (s_is_4 cat_i p_281_29).trans <| rfl) ((s_retv p_281_137 (zM_of zq_281)))
theorem b_281_31 {x1 : Int} {x2 : Int} {x3 : Int} {x4 : Int} : Z e (d + 1) 281 31 [.ref 246, .int (iI x1), .int (iI x2), .int (iI x3), .int (iI x4)] [] m = (if ((wr x4) < (wr (m 247 1))) ∧ ((¬ (wr x3) = (-3)) ∧ ((wr x3) < (wr (m 247 0)))) then ck (0 ≤ (wr ((1106 + (8 * x4)) + x1)) ∧ (wr ((1106 + (8 * x4)) + x1)) < 2737) (ck (((wr (m 247 (wr ((1106 + (8 * x4)) + x1)))) = (-3)) → ((0 ≤ (wr ((110 + (9 * x4)) + 0)) ∧ (wr ((110 + (9 * x4)) + 0)) < 2737) ∧ (0 ≤ (wr ((110 + (9 * x2)) + 0)) ∧ (wr ((110 + (9 * x2)) + 0)) < 2737))) (if ((wr (m 247 (wr ((1106 + (8 * x4)) + x1)))) = (-3)) ∧ ((wr (m 247 (wr ((110 + (9 * x4)) + 0)))) = (wr (m 247 (wr ((110 + (9 * x2)) + 0))))) then ck (0 ≤ (wr ((1106 + (8 * x4)) + x1)) ∧ (wr ((1106 + (8 * x4)) + x1)) < 2737) (Z e (d + 1) 281 31 [.ref 246, .int (iI x1), .int (iI x2), .int (iI x3), .int (iI (x4 + 1))] [] (um m 247 (wr ((1106 + (8 * x4)) + x1)) (m 247 0))) else Z e (d + 1) 281 31 [.ref 246, .int (iI x1), .int (iI x2), .int (iI x3), .int (iI (x4 + 1))] [] m)) else Z e (d + 1) 281 2 [.ref 246, .int (iI x1), .int (iI (x2 + 1)), .int (iI x3), .int (iI x4)] [] m) := (s_il_4 p_281_31).trans <| (s_al_0 p_281_33).trans <| (s_getr p_281_34 hs_246 (by decide) rfl).trans <| (s_const p_281_37).trans <| (s_aldc p_281_38 hs_247 (by decide) wl_1 (by decide)).trans <| Eq.trans (Eq.trans (s_c_ge_f p_281_39 rfl rfl rfl) <| Eq.trans (ite_cg ((s_il_3 p_281_42).trans <| (s_bip p_281_43 rfl).trans <| Eq.trans (s_c_eq_f p_281_45 rfl rfl wl_m3) <| Eq.trans (ite_cg ((s_il_3 p_281_48).trans <| (s_al_0 p_281_49).trans <| (s_getr p_281_50 hs_246 (by decide) rfl).trans <| (s_const p_281_53).trans <| (s_aldc p_281_54 hs_247 (by decide) wl_0 (by decide)).trans <| (s_c_ge_f p_281_55 rfl rfl rfl)) rfl) co_and) rfl) co_and) <| ite_cg ((s_al_0 p_281_58).trans <| (s_getr p_281_59 hs_246 (by decide) rfl).trans <| (s_sip p_281_62 rfl).trans <| (s_bip p_281_65 rfl).trans <| (s_il_4 p_281_67).trans <| (s_imul p_281_69).trans <| (s_iadd p_281_70).trans <| (s_il_1 p_281_71).trans <| (s_iadd p_281_72).trans <| (s_ald 2737 p_281_73 hs_247 rfl (by decide)).trans <| ck_cg fun k4 => (s_bip p_281_74 rfl).trans <| Eq.trans (Eq.trans (s_c_ne_f p_281_76 rfl rfl wl_m3) <| Eq.trans (ite_cg ((s_al_0 p_281_79).trans <| (s_getr p_281_80 hs_246 (by decide) rfl).trans <| (s_il_4 p_281_83).trans <| (s_const p_281_85).trans <| (s_cs2 (Lc := [.int (iI x4), .int (iI 0)]) p_281_86 (by decide) (zM_of zq_204) ⟨Nat.le_of_ble_eq_true rfl, Nat.le_of_ble_eq_true rfl⟩ rfl).trans <| (bd b_204_0).trans <| ri_k.trans <| (s_ald 2737 p_281_89 hs_247 rfl (by decide)).trans <| Eq.trans (ck_cg fun k7 => (s_al_0 p_281_90).trans <| (s_getr p_281_91 hs_246 (by decide) rfl).trans <| (s_il_2 p_281_94).trans <| (s_const p_281_95).trans <| (s_cs2 (Lc := [.int (iI x2), .int (iI 0)]) p_281_96 (by decide) (zM_of zq_204) ⟨Nat.le_of_ble_eq_true rfl, Nat.le_of_ble_eq_true rfl⟩ rfl).trans <| (bd b_204_0).trans <| ri_k.trans <| (s_ald 2737 p_281_99 hs_247 rfl (by decide)).trans <| ck_cg fun k8 => (s_c_ne_f p_281_100 rfl rfl rfl)) ck_ck) rfl) <| Eq.trans ck_a <| ck_cg fun _ => co_and) <| ck_cg fun _ => ite_cg ((s_al_0 p_281_103).trans <| (s_getr p_281_104 hs_246 (by decide) rfl).trans <| (s_sip p_281_107 rfl).trans <| (s_bip p_281_110 rfl).trans <| (s_il_4 p_281_112).trans <| (s_imul p_281_114).trans <| (s_iadd p_281_115).trans <| (s_il_1 p_281_116).trans <| (s_iadd p_281_117).trans <| (s_al_0 p_281_118).trans <| (s_getr p_281_119 hs_246 (by decide) rfl).trans <| (s_const p_281_122).trans <| (s_aldc p_281_123 hs_247 (by decide) wl_0 (by decide)).trans <| (s_ast 2737 p_281_124 hs_247 rfl).trans <| ck_cg fun k9 => (s_inc_4 cat_i p_281_125).trans <| (s_goto p_281_128 rfl).trans <| rfl) ((s_inc_4 cat_i p_281_125).trans <| (s_goto p_281_128 rfl).trans <| rfl)) ((s_inc_2 cat_i p_281_131).trans <| (s_goto p_281_134 rfl).trans <| rfl)
-- M.hours
theorem p_282_0 : zP1 282 0 = some (.iload_n 1, 0, 0, 0) := zp_l zq_282 rfl
theorem p_282_1 : zP1 282 1 = some (.iconst 1, 0, 0, 0) := zp_l zq_282 rfl
theorem p_282_2 : zP1 282 2 = some (.bipush 100, 0, 0, 0) := zp_l zq_282 rfl
theorem p_282_4 : zP1 282 4 = some (.invokestatic 100, 199, 3, 0) := zp_r zq_282 rfl
theorem p_282_7 : zP1 282 7 = some (.ifCond .ne 5, 0, 0, 0) := zp_l zq_282 rfl
theorem p_282_10 : zP1 282 10 = some (.iconst (-1), 0, 0, 0) := zp_l zq_282 rfl
theorem p_282_11 : zP1 282 11 = some (.ireturn, 0, 0, 0) := zp_l zq_282 rfl
theorem p_282_12 : zP1 282 12 = some (.aload_n 0, 0, 0, 0) := zp_l zq_282 rfl
theorem p_282_13 : zP1 282 13 = some (.getfield 9, 11, 0, 0) := zp_r zq_282 rfl
theorem p_282_16 : zP1 282 16 = some (.iconst 0, 0, 0, 0) := zp_l zq_282 rfl
theorem p_282_17 : zP1 282 17 = some (.iaload, 0, 0, 0) := zp_l zq_282 rfl
theorem p_282_18 : zP1 282 18 = some (.iload_n 1, 0, 0, 0) := zp_l zq_282 rfl
theorem p_282_19 : zP1 282 19 = some (.iadd, 0, 0, 0) := zp_l zq_282 rfl
theorem p_282_20 : zP1 282 20 = some (.sipush 9999, 0, 0, 0) := zp_l zq_282 rfl
theorem p_282_23 : zP1 282 23 = some (.if_icmp .le 6, 0, 0, 0) := zp_l zq_282 rfl
theorem p_282_26 : zP1 282 26 = some (.bipush (-4), 0, 0, 0) := zp_l zq_282 rfl
theorem p_282_28 : zP1 282 28 = some (.ireturn, 0, 0, 0) := zp_l zq_282 rfl
theorem p_282_29 : zP1 282 29 = some (.iconst 0, 0, 0, 0) := zp_l zq_282 rfl
theorem p_282_30 : zP1 282 30 = some (.istore_n 2, 0, 0, 0) := zp_l zq_282 rfl
theorem p_282_31 : zP1 282 31 = some (.iload_n 2, 0, 0, 0) := zp_l zq_282 rfl
theorem p_282_32 : zP1 282 32 = some (.iload_n 1, 0, 0, 0) := zp_l zq_282 rfl
theorem p_282_33 : zP1 282 33 = some (.if_icmp .ge 81, 0, 0, 0) := zp_l zq_282 rfl
theorem p_282_36 : zP1 282 36 = some (.aload_n 0, 0, 0, 0) := zp_l zq_282 rfl
theorem p_282_37 : zP1 282 37 = some (.getfield 9, 11, 0, 0) := zp_r zq_282 rfl
theorem p_282_40 : zP1 282 40 = some (.iconst 0, 0, 0, 0) := zp_l zq_282 rfl
theorem p_282_41 : zP1 282 41 = some (.dup2, 0, 0, 0) := zp_l zq_282 rfl
theorem p_282_42 : zP1 282 42 = some (.iaload, 0, 0, 0) := zp_l zq_282 rfl
theorem p_282_43 : zP1 282 43 = some (.iconst 1, 0, 0, 0) := zp_l zq_282 rfl
theorem p_282_44 : zP1 282 44 = some (.iadd, 0, 0, 0) := zp_l zq_282 rfl
theorem p_282_45 : zP1 282 45 = some (.iastore, 0, 0, 0) := zp_l zq_282 rfl
theorem p_282_46 : zP1 282 46 = some (.iconst 0, 0, 0, 0) := zp_l zq_282 rfl
theorem p_282_47 : zP1 282 47 = some (.istore_n 3, 0, 0, 0) := zp_l zq_282 rfl
theorem p_282_48 : zP1 282 48 = some (.iload_n 3, 0, 0, 0) := zp_l zq_282 rfl
theorem p_282_49 : zP1 282 49 = some (.aload_n 0, 0, 0, 0) := zp_l zq_282 rfl
theorem p_282_50 : zP1 282 50 = some (.getfield 9, 11, 0, 0) := zp_r zq_282 rfl
theorem p_282_53 : zP1 282 53 = some (.iconst 1, 0, 0, 0) := zp_l zq_282 rfl
theorem p_282_54 : zP1 282 54 = some (.iaload, 0, 0, 0) := zp_l zq_282 rfl
theorem p_282_55 : zP1 282 55 = some (.if_icmp .ge 29, 0, 0, 0) := zp_l zq_282 rfl
theorem p_282_58 : zP1 282 58 = some (.aload_n 0, 0, 0, 0) := zp_l zq_282 rfl
theorem p_282_59 : zP1 282 59 = some (.getfield 9, 11, 0, 0) := zp_r zq_282 rfl
theorem p_282_62 : zP1 282 62 = some (.iload_n 3, 0, 0, 0) := zp_l zq_282 rfl
theorem p_282_63 : zP1 282 63 = some (.iconst 4, 0, 0, 0) := zp_l zq_282 rfl
theorem p_282_64 : zP1 282 64 = some (.invokestatic 129, 204, 2, 0) := zp_r zq_282 rfl
theorem p_282_67 : zP1 282 67 = some (.iaload, 0, 0, 0) := zp_l zq_282 rfl
theorem p_282_68 : zP1 282 68 = some (.bipush (-3), 0, 0, 0) := zp_l zq_282 rfl
theorem p_282_70 : zP1 282 70 = some (.if_icmp .eq 8, 0, 0, 0) := zp_l zq_282 rfl
theorem p_282_73 : zP1 282 73 = some (.aload_n 0, 0, 0, 0) := zp_l zq_282 rfl
theorem p_282_74 : zP1 282 74 = some (.iload_n 3, 0, 0, 0) := zp_l zq_282 rfl
theorem p_282_75 : zP1 282 75 = some (.invokevirtual 347, 280, 1, 11) := zp_r zq_282 rfl
theorem p_282_78 : zP1 282 78 = some (.iinc 3 1, 0, 0, 0) := zp_l zq_282 rfl
theorem p_282_81 : zP1 282 81 = some (.goto (-33), 0, 0, 0) := zp_l zq_282 rfl
theorem p_282_84 : zP1 282 84 = some (.iconst 0, 0, 0, 0) := zp_l zq_282 rfl
theorem p_282_85 : zP1 282 85 = some (.istore_n 3, 0, 0, 0) := zp_l zq_282 rfl
theorem p_282_86 : zP1 282 86 = some (.iload_n 3, 0, 0, 0) := zp_l zq_282 rfl
theorem p_282_87 : zP1 282 87 = some (.aload_n 0, 0, 0, 0) := zp_l zq_282 rfl
theorem p_282_88 : zP1 282 88 = some (.getfield 9, 11, 0, 0) := zp_r zq_282 rfl
theorem p_282_91 : zP1 282 91 = some (.bipush 7, 0, 0, 0) := zp_l zq_282 rfl
theorem p_282_93 : zP1 282 93 = some (.iaload, 0, 0, 0) := zp_l zq_282 rfl
theorem p_282_94 : zP1 282 94 = some (.if_icmp .ge 14, 0, 0, 0) := zp_l zq_282 rfl
theorem p_282_97 : zP1 282 97 = some (.aload_n 0, 0, 0, 0) := zp_l zq_282 rfl
theorem p_282_98 : zP1 282 98 = some (.iload_n 3, 0, 0, 0) := zp_l zq_282 rfl
theorem p_282_99 : zP1 282 99 = some (.invokevirtual 350, 281, 1, 11) := zp_r zq_282 rfl
theorem p_282_102 : zP1 282 102 = some (.iinc 3 1, 0, 0, 0) := zp_l zq_282 rfl
theorem p_282_105 : zP1 282 105 = some (.goto (-19), 0, 0, 0) := zp_l zq_282 rfl
theorem p_282_108 : zP1 282 108 = some (.iinc 2 1, 0, 0, 0) := zp_l zq_282 rfl
theorem p_282_111 : zP1 282 111 = some (.goto (-80), 0, 0, 0) := zp_l zq_282 rfl
theorem p_282_114 : zP1 282 114 = some (.aload_n 0, 0, 0, 0) := zp_l zq_282 rfl
theorem p_282_115 : zP1 282 115 = some (.getfield 9, 11, 0, 0) := zp_r zq_282 rfl
theorem p_282_118 : zP1 282 118 = some (.iconst 0, 0, 0, 0) := zp_l zq_282 rfl
theorem p_282_119 : zP1 282 119 = some (.iaload, 0, 0, 0) := zp_l zq_282 rfl
theorem p_282_120 : zP1 282 120 = some (.ireturn, 0, 0, 0) := zp_l zq_282 rfl
theorem b_282_0 {x1 : Int} : Z e (d + 1) 282 0 [.ref 246, .int (iI x1), .retAddr 0, .retAddr 0] [] m = (if ¬ (((wr 1) ≤ (wr x1)) ∧ ((wr x1) ≤ (wr 100))) then ri (-1) m else (if 9999 < (wr ((m 247 0) + x1)) then ri (-4) m else Z e (d + 1) 282 31 [.ref 246, .int (iI x1), .int (iI 0), .retAddr 0] [] m)) := (s_il_1 p_282_0).trans <| (s_const p_282_1).trans <| (s_bip p_282_2 rfl).trans <| (s_cs3 (Lc := [.int (iI x1), .int (iI 1), .int (iI 100)]) p_282_4 (by decide) (zM_of zq_199) ⟨Nat.le_of_ble_eq_true rfl, Nat.le_of_ble_eq_true rfl⟩ rfl).trans <| (bd b_199_0).trans <| ri_k.trans <| Eq.trans ((s_bne_f p_282_7 rfl)) <| ite_cg ((s_const p_282_10).trans <| (s_reti p_282_11 (zM_of zq_282))) ((s_al_0 p_282_12).trans <| (s_getr p_282_13 hs_246 (by decide) rfl).trans <| (s_const p_282_16).trans <| (s_aldc p_282_17 hs_247 (by decide) wl_0 (by decide)).trans <| (s_il_1 p_282_18).trans <| (s_iadd p_282_19).trans <| (s_sip p_282_20 rfl).trans <| Eq.trans ((s_c_le_f p_282_23 rfl rfl wl_9999)) <| ite_cg ((s_bip p_282_26 rfl).trans <| (s_reti p_282_28 (zM_of zq_282))) ((s_const p_282_29).trans <| (s_is_2 cat_i p_282_30).trans <| rfl))
theorem b_282_31 {x1 : Int} {x2 : Int} {u3 : Value} : Z e (d + 1) 282 31 [.ref 246, .int (iI x1), .int (iI x2), u3] [] m = (if (wr x2) < (wr x1) then Z e (d + 1) 282 48 [.ref 246, .int (iI x1), .int (iI x2), .int (iI 0)] [] (um m 247 0 ((m 247 0) + 1)) else ri (m 247 0) m) := (s_il_2 p_282_31).trans <| (s_il_1 p_282_32).trans <| Eq.trans ((s_c_ge_f p_282_33 rfl rfl rfl)) <| ite_cg ((s_al_0 p_282_36).trans <| (s_getr p_282_37 hs_246 (by decide) rfl).trans <| (s_const p_282_40).trans <| (s_dup2 cat_i cat_r p_282_41).trans <| (s_aldc p_282_42 hs_247 (by decide) wl_0 (by decide)).trans <| (s_const p_282_43).trans <| (s_iadd p_282_44).trans <| (s_astc p_282_45 hs_247 wl_0 (by decide)).trans <| (s_const p_282_46).trans <| (s_is_3 cat_i p_282_47).trans <| rfl) ((s_al_0 p_282_114).trans <| (s_getr p_282_115 hs_246 (by decide) rfl).trans <| (s_const p_282_118).trans <| (s_aldc p_282_119 hs_247 (by decide) wl_0 (by decide)).trans <| (s_reti p_282_120 (zM_of zq_282)))
theorem b_282_48 {x1 : Int} {x2 : Int} {x3 : Int} : Z e (d + 1) 282 48 [.ref 246, .int (iI x1), .int (iI x2), .int (iI x3)] [] m = (if (wr x3) < (wr (m 247 1)) then ck (0 ≤ (wr ((110 + (9 * x3)) + 4)) ∧ (wr ((110 + (9 * x3)) + 4)) < 2737) ((if ¬ (wr (m 247 (wr ((110 + (9 * x3)) + 4)))) = (-3) then (Z e d 280 0 [.ref 246, .int (iI x3), .retAddr 0, .retAddr 0, .retAddr 0, .retAddr 0, .retAddr 0] [] m).bind (ZK e (d + 1) 282 78 [.ref 246, .int (iI x1), .int (iI x2), .int (iI x3)] [] m) else Z e (d + 1) 282 78 [.ref 246, .int (iI x1), .int (iI x2), .int (iI x3)] [] m)) else Z e (d + 1) 282 86 [.ref 246, .int (iI x1), .int (iI x2), .int (iI 0)] [] m) := (s_il_3 p_282_48).trans <| (s_al_0 p_282_49).trans <| (s_getr p_282_50 hs_246 (by decide) rfl).trans <| (s_const p_282_53).trans <| (s_aldc p_282_54 hs_247 (by decide) wl_1 (by decide)).trans <| Eq.trans ((s_c_ge_f p_282_55 rfl rfl rfl)) <| ite_cg ((s_al_0 p_282_58).trans <| (s_getr p_282_59 hs_246 (by decide) rfl).trans <| (s_il_3 p_282_62).trans <| (s_const p_282_63).trans <| (s_cs2 (Lc := [.int (iI x3), .int (iI 4)]) p_282_64 (by decide) (zM_of zq_204) ⟨Nat.le_of_ble_eq_true rfl, Nat.le_of_ble_eq_true rfl⟩ rfl).trans <| (bd b_204_0).trans <| ri_k.trans <| (s_ald 2737 p_282_67 hs_247 rfl (by decide)).trans <| ck_cg fun k2 => (s_bip p_282_68 rfl).trans <| Eq.trans ((s_c_eq_f p_282_70 rfl rfl wl_m3)) <| ite_cg ((s_al_0 p_282_73).trans <| (s_il_3 p_282_74).trans <| (s_cv1 (Lc := [.ref 246, .int (iI x3), .retAddr 0, .retAddr 0, .retAddr 0, .retAddr 0, .retAddr 0]) p_282_75 (by decide) (by decide) (zM_of zq_280) ⟨Nat.le_of_ble_eq_true rfl, Nat.le_of_ble_eq_true rfl⟩ rfl (m_rc hs_246 ⟨rfl, by decide⟩))) (rfl)) ((s_const p_282_84).trans <| (s_is_3 cat_i p_282_85).trans <| rfl)
theorem b_282_86 {x1 : Int} {x2 : Int} {x3 : Int} : Z e (d + 1) 282 86 [.ref 246, .int (iI x1), .int (iI x2), .int (iI x3)] [] m = (if (wr x3) < (wr (m 247 7)) then (Z e d 281 0 [.ref 246, .int (iI x3), .retAddr 0, .retAddr 0, .retAddr 0] [] m).bind (ZK e (d + 1) 282 102 [.ref 246, .int (iI x1), .int (iI x2), .int (iI x3)] [] m) else Z e (d + 1) 282 31 [.ref 246, .int (iI x1), .int (iI (x2 + 1)), .int (iI x3)] [] m) := (s_il_3 p_282_86).trans <| (s_al_0 p_282_87).trans <| (s_getr p_282_88 hs_246 (by decide) rfl).trans <| (s_bip p_282_91 rfl).trans <| (s_aldc p_282_93 hs_247 (by decide) wl_7 (by decide)).trans <| Eq.trans ((s_c_ge_f p_282_94 rfl rfl rfl)) <| ite_cg ((s_al_0 p_282_97).trans <| (s_il_3 p_282_98).trans <| (s_cv1 (Lc := [.ref 246, .int (iI x3), .retAddr 0, .retAddr 0, .retAddr 0]) p_282_99 (by decide) (by decide) (zM_of zq_281) ⟨Nat.le_of_ble_eq_true rfl, Nat.le_of_ble_eq_true rfl⟩ rfl (m_rc hs_246 ⟨rfl, by decide⟩))) ((s_inc_2 cat_i p_282_108).trans <| (s_goto p_282_111 rfl).trans <| rfl)
theorem b_282_78 {x1 : Int} {x2 : Int} {x3 : Int} : Z e (d + 1) 282 78 [.ref 246, .int (iI x1), .int (iI x2), .int (iI x3)] [] m = Z e (d + 1) 282 48 [.ref 246, .int (iI x1), .int (iI x2), .int (iI (x3 + 1))] [] m := (s_inc_3 cat_i p_282_78).trans <| (s_goto p_282_81 rfl).trans <| rfl
theorem b_282_102 {x1 : Int} {x2 : Int} {x3 : Int} : Z e (d + 1) 282 102 [.ref 246, .int (iI x1), .int (iI x2), .int (iI x3)] [] m = Z e (d + 1) 282 86 [.ref 246, .int (iI x1), .int (iI x2), .int (iI (x3 + 1))] [] m := (s_inc_3 cat_i p_282_102).trans <| (s_goto p_282_105 rfl).trans <| rfl
-- M.seenAt
theorem p_283_0 : zP1 283 0 = some (.aload_n 0, 0, 0, 0) := zp_l zq_283 rfl
theorem p_283_1 : zP1 283 1 = some (.iload_n 2, 0, 0, 0) := zp_l zq_283 rfl
theorem p_283_2 : zP1 283 2 = some (.aload_n 0, 0, 0, 0) := zp_l zq_283 rfl
theorem p_283_3 : zP1 283 3 = some (.getfield 9, 11, 0, 0) := zp_r zq_283 rfl
theorem p_283_6 : zP1 283 6 = some (.iconst 0, 0, 0, 0) := zp_l zq_283 rfl
theorem p_283_7 : zP1 283 7 = some (.iaload, 0, 0, 0) := zp_l zq_283 rfl
theorem p_283_8 : zP1 283 8 = some (.iload_n 1, 0, 0, 0) := zp_l zq_283 rfl
theorem p_283_9 : zP1 283 9 = some (.iconst 1, 0, 0, 0) := zp_l zq_283 rfl
theorem p_283_10 : zP1 283 10 = some (.isub, 0, 0, 0) := zp_l zq_283 rfl
theorem p_283_11 : zP1 283 11 = some (.iload_n 3, 0, 0, 0) := zp_l zq_283 rfl
theorem p_283_12 : zP1 283 12 = some (.idiv, 0, 0, 0) := zp_l zq_283 rfl
theorem p_283_13 : zP1 283 13 = some (.iadd, 0, 0, 0) := zp_l zq_283 rfl
theorem p_283_14 : zP1 283 14 = some (.iconst 1, 0, 0, 0) := zp_l zq_283 rfl
theorem p_283_15 : zP1 283 15 = some (.iadd, 0, 0, 0) := zp_l zq_283 rfl
theorem p_283_16 : zP1 283 16 = some (.bipush 24, 0, 0, 0) := zp_l zq_283 rfl
theorem p_283_18 : zP1 283 18 = some (.irem, 0, 0, 0) := zp_l zq_283 rfl
theorem p_283_19 : zP1 283 19 = some (.invokevirtual 344, 277, 2, 11) := zp_r zq_283 rfl
theorem p_283_22 : zP1 283 22 = some (.ifCond .eq 7, 0, 0, 0) := zp_l zq_283 rfl
theorem p_283_25 : zP1 283 25 = some (.iconst 1, 0, 0, 0) := zp_l zq_283 rfl
theorem p_283_26 : zP1 283 26 = some (.goto 4, 0, 0, 0) := zp_l zq_283 rfl
theorem p_283_29 : zP1 283 29 = some (.iconst 0, 0, 0, 0) := zp_l zq_283 rfl
theorem p_283_30 : zP1 283 30 = some (.ireturn, 0, 0, 0) := zp_l zq_283 rfl
theorem b_283_0 {x1 : Int} {x2 : Int} {x3 : Int} : Z e (d + 1) 283 0 [.ref 246, .int (iI x1), .int (iI x2), .int (iI x3)] [] m = ck (¬ ((wr x3) = 0)) ((Z e d 277 0 [.ref 246, .int (iI x2), .int (iI (jrem (((m 247 0) + (jdiv (x1 - 1) x3)) + 1) 24)), .retAddr 0, .retAddr 0, .retAddr 0, .retAddr 0, .retAddr 0] [] m).bind (ZK e (d + 1) 283 22 [.ref 246, .int (iI x1), .int (iI x2), .int (iI x3)] [] m)) := (s_al_0 p_283_0).trans <| (s_il_2 p_283_1).trans <| (s_al_0 p_283_2).trans <| (s_getr p_283_3 hs_246 (by decide) rfl).trans <| (s_const p_283_6).trans <| (s_aldc p_283_7 hs_247 (by decide) wl_0 (by decide)).trans <| (s_il_1 p_283_8).trans <| (s_const p_283_9).trans <| (s_isub p_283_10).trans <| (s_il_3 p_283_11).trans <| (s_idiv p_283_12).trans <| ck_cg fun k1 => (s_iadd p_283_13).trans <| (s_const p_283_14).trans <| (s_iadd p_283_15).trans <| (s_bip p_283_16 rfl).trans <| (s_iremc p_283_18 (by decide)).trans <| (s_cv2 (Lc := [.ref 246, .int (iI x2), .int (iI (jrem (((m 247 0) + (jdiv (x1 - 1) x3)) + 1) 24)), .retAddr 0, .retAddr 0, .retAddr 0, .retAddr 0, .retAddr 0]) p_283_19 (by decide) (by decide) (zM_of zq_277) ⟨Nat.le_of_ble_eq_true rfl, Nat.le_of_ble_eq_true rfl⟩ rfl (m_rc hs_246 ⟨rfl, by decide⟩))
theorem b_283_22 {xs0 : Int} {u0 u1 u2 u3 : Value} : Z e (d + 1) 283 22 [u0, u1, u2, u3] [.int (iI xs0)] m = ri (if ¬ (wr xs0) = 0 then 1 else 0) m := Eq.trans (Eq.trans ((s_z_eq_f p_283_22 rfl rfl)) <| Eq.trans (ite_cg ((s_const p_283_25).trans <| (s_goto p_283_26 rfl).trans <| rfl) ((s_const p_283_29).trans <| rfl)) (phi1 (fun z0 => Z e (d + 1) 283 30 [u0, u1, u2, u3] [.int (iI z0)] m))) <| (s_reti p_283_30 (zM_of zq_283))
-- Math.min
theorem p_325_0 : zP1 325 0 = some (.iload_n 0, 0, 0, 0) := zp_l zq_325 rfl
theorem p_325_1 : zP1 325 1 = some (.iload_n 1, 0, 0, 0) := zp_l zq_325 rfl
theorem p_325_2 : zP1 325 2 = some (.if_icmp .gt 7, 0, 0, 0) := zp_l zq_325 rfl
theorem p_325_5 : zP1 325 5 = some (.iload_n 0, 0, 0, 0) := zp_l zq_325 rfl
theorem p_325_6 : zP1 325 6 = some (.goto 4, 0, 0, 0) := zp_l zq_325 rfl
theorem p_325_9 : zP1 325 9 = some (.iload_n 1, 0, 0, 0) := zp_l zq_325 rfl
theorem p_325_10 : zP1 325 10 = some (.ireturn, 0, 0, 0) := zp_l zq_325 rfl
theorem b_325_0 {x0 : Int} {x1 : Int} : Z e d 325 0 [.int (iI x0), .int (iI x1)] [] m = ri (if (wr x0) ≤ (wr x1) then x0 else x1) m := (s_il_0 p_325_0).trans <| (s_il_1 p_325_1).trans <| Eq.trans (Eq.trans ((s_c_gt_f p_325_2 rfl rfl rfl)) <| Eq.trans (ite_cg ((s_il_0 p_325_5).trans <| (s_goto p_325_6 rfl).trans <| rfl) ((s_il_1 p_325_9).trans <| rfl)) (phi1 (fun z0 => Z e d 325 10 [.int (iI x0), .int (iI x1)] [.int (iI z0)] m))) <| (s_reti p_325_10 (zM_of zq_325))
-- M.findRun
theorem p_284_0 : zP1 284 0 = some (.bipush 60, 0, 0, 0) := zp_l zq_284 rfl
theorem p_284_2 : zP1 284 2 = some (.istore_n 3, 0, 0, 0) := zp_l zq_284 rfl
theorem p_284_3 : zP1 284 3 = some (.iload_n 3, 0, 0, 0) := zp_l zq_284 rfl
theorem p_284_4 : zP1 284 4 = some (.ifCond .lt 162, 0, 0, 0) := zp_l zq_284 rfl
theorem p_284_7 : zP1 284 7 = some (.iconst 0, 0, 0, 0) := zp_l zq_284 rfl
theorem p_284_8 : zP1 284 8 = some (.istore 4, 0, 0, 0) := zp_l zq_284 rfl
theorem p_284_10 : zP1 284 10 = some (.iload 4, 0, 0, 0) := zp_l zq_284 rfl
theorem p_284_12 : zP1 284 12 = some (.bipush 100, 0, 0, 0) := zp_l zq_284 rfl
theorem p_284_14 : zP1 284 14 = some (.if_icmp .ge 146, 0, 0, 0) := zp_l zq_284 rfl
theorem p_284_17 : zP1 284 17 = some (.iload 4, 0, 0, 0) := zp_l zq_284 rfl
theorem p_284_19 : zP1 284 19 = some (.iload_n 1, 0, 0, 0) := zp_l zq_284 rfl
theorem p_284_20 : zP1 284 20 = some (.if_icmp .ne 16, 0, 0, 0) := zp_l zq_284 rfl
theorem p_284_23 : zP1 284 23 = some (.aload_n 0, 0, 0, 0) := zp_l zq_284 rfl
theorem p_284_24 : zP1 284 24 = some (.iload 4, 0, 0, 0) := zp_l zq_284 rfl
theorem p_284_26 : zP1 284 26 = some (.invokevirtual 114, 203, 1, 11) := zp_r zq_284 rfl
theorem p_284_29 : zP1 284 29 = some (.ifCond .ne 7, 0, 0, 0) := zp_l zq_284 rfl
theorem p_284_32 : zP1 284 32 = some (.iconst 0, 0, 0, 0) := zp_l zq_284 rfl
theorem p_284_33 : zP1 284 33 = some (.goto 6, 0, 0, 0) := zp_l zq_284 rfl
theorem p_284_36 : zP1 284 36 = some (.ldc_w 343, 0, 0, 1000000) := zp_r zq_284 rfl
theorem p_284_39 : zP1 284 39 = some (.istore 5, 0, 0, 0) := zp_l zq_284 rfl
theorem p_284_41 : zP1 284 41 = some (.iconst 0, 0, 0, 0) := zp_l zq_284 rfl
theorem p_284_42 : zP1 284 42 = some (.istore 6, 0, 0, 0) := zp_l zq_284 rfl
theorem p_284_44 : zP1 284 44 = some (.iload 6, 0, 0, 0) := zp_l zq_284 rfl
theorem p_284_46 : zP1 284 46 = some (.iconst 4, 0, 0, 0) := zp_l zq_284 rfl
theorem p_284_47 : zP1 284 47 = some (.if_icmp .ge 93, 0, 0, 0) := zp_l zq_284 rfl
theorem p_284_50 : zP1 284 50 = some (.iload_n 3, 0, 0, 0) := zp_l zq_284 rfl
theorem p_284_51 : zP1 284 51 = some (.bipush 60, 0, 0, 0) := zp_l zq_284 rfl
theorem p_284_53 : zP1 284 53 = some (.if_icmp .ge 87, 0, 0, 0) := zp_l zq_284 rfl
theorem p_284_56 : zP1 284 56 = some (.iload 5, 0, 0, 0) := zp_l zq_284 rfl
theorem p_284_58 : zP1 284 58 = some (.ifCond .eq 82, 0, 0, 0) := zp_l zq_284 rfl
theorem p_284_61 : zP1 284 61 = some (.aload_n 0, 0, 0, 0) := zp_l zq_284 rfl
theorem p_284_62 : zP1 284 62 = some (.iload 4, 0, 0, 0) := zp_l zq_284 rfl
theorem p_284_64 : zP1 284 64 = some (.iload 6, 0, 0, 0) := zp_l zq_284 rfl
theorem p_284_66 : zP1 284 66 = some (.invokevirtual 117, 208, 2, 11) := zp_r zq_284 rfl
theorem p_284_69 : zP1 284 69 = some (.istore 7, 0, 0, 0) := zp_l zq_284 rfl
theorem p_284_71 : zP1 284 71 = some (.iload 7, 0, 0, 0) := zp_l zq_284 rfl
theorem p_284_73 : zP1 284 73 = some (.ifCond .lt 61, 0, 0, 0) := zp_l zq_284 rfl
theorem p_284_76 : zP1 284 76 = some (.aload_n 0, 0, 0, 0) := zp_l zq_284 rfl
theorem p_284_77 : zP1 284 77 = some (.getfield 76, 11, 27, 0) := zp_r zq_284 rfl
theorem p_284_80 : zP1 284 80 = some (.bipush 100, 0, 0, 0) := zp_l zq_284 rfl
theorem p_284_82 : zP1 284 82 = some (.iload_n 3, 0, 0, 0) := zp_l zq_284 rfl
theorem p_284_83 : zP1 284 83 = some (.iconst 1, 0, 0, 0) := zp_l zq_284 rfl
theorem p_284_84 : zP1 284 84 = some (.iadd, 0, 0, 0) := zp_l zq_284 rfl
theorem p_284_85 : zP1 284 85 = some (.imul, 0, 0, 0) := zp_l zq_284 rfl
theorem p_284_86 : zP1 284 86 = some (.iload 7, 0, 0, 0) := zp_l zq_284 rfl
theorem p_284_88 : zP1 284 88 = some (.iadd, 0, 0, 0) := zp_l zq_284 rfl
theorem p_284_89 : zP1 284 89 = some (.iaload, 0, 0, 0) := zp_l zq_284 rfl
theorem p_284_90 : zP1 284 90 = some (.ldc_w 343, 0, 0, 1000000) := zp_r zq_284 rfl
theorem p_284_93 : zP1 284 93 = some (.if_icmp .ge 41, 0, 0, 0) := zp_l zq_284 rfl
theorem p_284_96 : zP1 284 96 = some (.iload 5, 0, 0, 0) := zp_l zq_284 rfl
theorem p_284_98 : zP1 284 98 = some (.aload_n 0, 0, 0, 0) := zp_l zq_284 rfl
theorem p_284_99 : zP1 284 99 = some (.getfield 76, 11, 27, 0) := zp_r zq_284 rfl
theorem p_284_102 : zP1 284 102 = some (.bipush 100, 0, 0, 0) := zp_l zq_284 rfl
theorem p_284_104 : zP1 284 104 = some (.iload_n 3, 0, 0, 0) := zp_l zq_284 rfl
theorem p_284_105 : zP1 284 105 = some (.iconst 1, 0, 0, 0) := zp_l zq_284 rfl
theorem p_284_106 : zP1 284 106 = some (.iadd, 0, 0, 0) := zp_l zq_284 rfl
theorem p_284_107 : zP1 284 107 = some (.imul, 0, 0, 0) := zp_l zq_284 rfl
theorem p_284_108 : zP1 284 108 = some (.iload 7, 0, 0, 0) := zp_l zq_284 rfl
theorem p_284_110 : zP1 284 110 = some (.iadd, 0, 0, 0) := zp_l zq_284 rfl
theorem p_284_111 : zP1 284 111 = some (.iaload, 0, 0, 0) := zp_l zq_284 rfl
theorem p_284_112 : zP1 284 112 = some (.iconst 1, 0, 0, 0) := zp_l zq_284 rfl
theorem p_284_113 : zP1 284 113 = some (.iadd, 0, 0, 0) := zp_l zq_284 rfl
theorem p_284_114 : zP1 284 114 = some (.sipush 1000, 0, 0, 0) := zp_l zq_284 rfl
theorem p_284_117 : zP1 284 117 = some (.aload_n 0, 0, 0, 0) := zp_l zq_284 rfl
theorem p_284_118 : zP1 284 118 = some (.iload_n 3, 0, 0, 0) := zp_l zq_284 rfl
theorem p_284_119 : zP1 284 119 = some (.iconst 1, 0, 0, 0) := zp_l zq_284 rfl
theorem p_284_120 : zP1 284 120 = some (.iadd, 0, 0, 0) := zp_l zq_284 rfl
theorem p_284_121 : zP1 284 121 = some (.iload 7, 0, 0, 0) := zp_l zq_284 rfl
theorem p_284_123 : zP1 284 123 = some (.iload_n 2, 0, 0, 0) := zp_l zq_284 rfl
theorem p_284_124 : zP1 284 124 = some (.invokevirtual 353, 283, 3, 11) := zp_r zq_284 rfl
theorem p_284_127 : zP1 284 127 = some (.imul, 0, 0, 0) := zp_l zq_284 rfl
theorem p_284_128 : zP1 284 128 = some (.iadd, 0, 0, 0) := zp_l zq_284 rfl
theorem p_284_129 : zP1 284 129 = some (.invokestatic 356, 325, 2, 0) := zp_r zq_284 rfl
theorem p_284_132 : zP1 284 132 = some (.istore 5, 0, 0, 0) := zp_l zq_284 rfl
theorem p_284_134 : zP1 284 134 = some (.iinc 6 1, 0, 0, 0) := zp_l zq_284 rfl
theorem p_284_137 : zP1 284 137 = some (.goto (-93), 0, 0, 0) := zp_l zq_284 rfl
theorem p_284_140 : zP1 284 140 = some (.aload_n 0, 0, 0, 0) := zp_l zq_284 rfl
theorem p_284_141 : zP1 284 141 = some (.getfield 76, 11, 27, 0) := zp_r zq_284 rfl
theorem p_284_144 : zP1 284 144 = some (.bipush 100, 0, 0, 0) := zp_l zq_284 rfl
theorem p_284_146 : zP1 284 146 = some (.iload_n 3, 0, 0, 0) := zp_l zq_284 rfl
theorem p_284_147 : zP1 284 147 = some (.imul, 0, 0, 0) := zp_l zq_284 rfl
theorem p_284_148 : zP1 284 148 = some (.iload 4, 0, 0, 0) := zp_l zq_284 rfl
theorem p_284_150 : zP1 284 150 = some (.iadd, 0, 0, 0) := zp_l zq_284 rfl
theorem p_284_151 : zP1 284 151 = some (.iload 5, 0, 0, 0) := zp_l zq_284 rfl
theorem p_284_153 : zP1 284 153 = some (.iastore, 0, 0, 0) := zp_l zq_284 rfl
theorem p_284_154 : zP1 284 154 = some (.iinc 4 1, 0, 0, 0) := zp_l zq_284 rfl
theorem p_284_157 : zP1 284 157 = some (.goto (-147), 0, 0, 0) := zp_l zq_284 rfl
theorem p_284_160 : zP1 284 160 = some (.iinc 3 (-1), 0, 0, 0) := zp_l zq_284 rfl
theorem p_284_163 : zP1 284 163 = some (.goto (-160), 0, 0, 0) := zp_l zq_284 rfl
theorem p_284_166 : zP1 284 166 = some (.return_, 0, 0, 0) := zp_l zq_284 rfl
theorem b_284_0 {x1 : Int} {x2 : Int} : Z e (d + 1) 284 0 [.ref 246, .int (iI x1), .int (iI x2), .retAddr 0, .retAddr 0, .retAddr 0, .retAddr 0, .retAddr 0] [] m = Z e (d + 1) 284 3 [.ref 246, .int (iI x1), .int (iI x2), .int (iI 60), .retAddr 0, .retAddr 0, .retAddr 0, .retAddr 0] [] m := (s_bip p_284_0 rfl).trans <| (s_is_3 cat_i p_284_2).trans <| rfl
theorem b_284_3 {x1 : Int} {x2 : Int} {x3 : Int} {u4 u5 u6 u7 : Value} : Z e (d + 1) 284 3 [.ref 246, .int (iI x1), .int (iI x2), .int (iI x3), u4, u5, u6, u7] [] m = (if 0 ≤ (wr x3) then Z e (d + 1) 284 10 [.ref 246, .int (iI x1), .int (iI x2), .int (iI x3), .int (iI 0), u5, u6, u7] [] m else rn m) := (s_il_3 p_284_3).trans <| Eq.trans ((s_z_lt_f p_284_4 rfl rfl)) <| ite_cg ((s_const p_284_7).trans <| (s_is_4 cat_i p_284_8).trans <| rfl) ((s_retv p_284_166 (zM_of zq_284)))
theorem b_284_10 {x1 : Int} {x2 : Int} {x3 : Int} {x4 : Int} {u5 u6 u7 : Value} : Z e (d + 1) 284 10 [.ref 246, .int (iI x1), .int (iI x2), .int (iI x3), .int (iI x4), u5, u6, u7] [] m = (if (wr x4) < 100 then ck (((wr x4) = (wr x1)) → (0 ≤ (wr (10 + x4)) ∧ (wr (10 + x4)) < 2737)) (Z e (d + 1) 284 44 [.ref 246, .int (iI x1), .int (iI x2), .int (iI x3), .int (iI x4), .int (iI (if ((wr x4) = (wr x1)) ∧ (¬ ((wr (m 247 (wr (10 + x4)))) = 1)) then 0 else 1000000)), .int (iI 0), u7] [] m) else Z e (d + 1) 284 3 [.ref 246, .int (iI x1), .int (iI x2), .int (iI (x3 + (-1))), .int (iI x4), u5, u6, u7] [] m) := (s_il_4 p_284_10).trans <| (s_bip p_284_12 rfl).trans <| Eq.trans ((s_c_ge_f p_284_14 rfl rfl wl_100)) <| ite_cg ((s_il_4 p_284_17).trans <| (s_il_1 p_284_19).trans <| Eq.trans (Eq.trans (Eq.trans (s_c_ne_f p_284_20 rfl rfl rfl) <| Eq.trans (ite_cg ((s_al_0 p_284_23).trans <| (s_il_4 p_284_24).trans <| (s_cv1 (Lc := [.ref 246, .int (iI x4)]) p_284_26 (by decide) (by decide) (zM_of zq_203) ⟨Nat.le_of_ble_eq_true rfl, Nat.le_of_ble_eq_true rfl⟩ rfl (m_rc hs_246 ⟨rfl, by decide⟩)).trans <| (bd b_203_0).trans <| ck_bind.trans <| ck_cg fun k2 => ri_k.trans <| (s_bne_f p_284_29 rfl)) rfl) <| Eq.trans ck_a <| ck_cg fun _ => co_and) <| ck_cg fun _ => Eq.trans (ite_cg ((s_const p_284_32).trans <| (s_goto p_284_33 rfl).trans <| rfl) ((s_ldcw p_284_36).trans <| rfl)) (phi1 (fun z0 => Z e (d + 1) 284 39 [.ref 246, .int (iI x1), .int (iI x2), .int (iI x3), .int (iI x4), u5, u6, u7] [.int (iI z0)] m))) <| ck_cg fun _ => (s_is_5 cat_i p_284_39).trans <| (s_const p_284_41).trans <| (s_is_6 cat_i p_284_42).trans <| rfl) ((s_inc_3 cat_i p_284_160).trans <| (s_goto p_284_163 rfl).trans <| rfl)
theorem b_284_44 {x1 : Int} {x2 : Int} {x3 : Int} {x4 : Int} {x5 : Int} {x6 : Int} {u7 : Value} : Z e (d + 1) 284 44 [.ref 246, .int (iI x1), .int (iI x2), .int (iI x3), .int (iI x4), .int (iI x5), .int (iI x6), u7] [] m = (if ((wr x6) < 4) ∧ (((wr x3) < 60) ∧ (¬ (wr x5) = 0)) then (Z e d 208 0 [.ref 246, .int (iI x4), .int (iI x6), .retAddr 0] [] m).bind (ZK e (d + 1) 284 69 [.ref 246, .int (iI x1), .int (iI x2), .int (iI x3), .int (iI x4), .int (iI x5), .int (iI x6), u7] [] m) else Z e (d + 1) 284 140 [.ref 246, .int (iI x1), .int (iI x2), .int (iI x3), .int (iI x4), .int (iI x5), .int (iI x6), u7] [] m) := (s_il_6 p_284_44).trans <| (s_const p_284_46).trans <| Eq.trans (Eq.trans (s_c_ge_f p_284_47 rfl rfl wl_4) <| Eq.trans (ite_cg ((s_il_3 p_284_50).trans <| (s_bip p_284_51 rfl).trans <| Eq.trans (s_c_ge_f p_284_53 rfl rfl wl_60) <| Eq.trans (ite_cg ((s_il_5 p_284_56).trans <| (s_z_eq_f p_284_58 rfl rfl)) rfl) co_and) rfl) co_and) <| ite_cg ((s_al_0 p_284_61).trans <| (s_il_4 p_284_62).trans <| (s_il_6 p_284_64).trans <| (s_cv2 (Lc := [.ref 246, .int (iI x4), .int (iI x6), .retAddr 0]) p_284_66 (by decide) (by decide) (zM_of zq_208) ⟨Nat.le_of_ble_eq_true rfl, Nat.le_of_ble_eq_true rfl⟩ rfl (m_rc hs_246 ⟨rfl, by decide⟩))) (rfl)
theorem b_284_140 {x1 : Int} {x2 : Int} {x3 : Int} {x4 : Int} {x5 : Int} {u6 u7 : Value} : Z e (d + 1) 284 140 [.ref 246, .int (iI x1), .int (iI x2), .int (iI x3), .int (iI x4), .int (iI x5), u6, u7] [] m = ck (0 ≤ (wr ((100 * x3) + x4)) ∧ (wr ((100 * x3) + x4)) < 6100) (Z e (d + 1) 284 10 [.ref 246, .int (iI x1), .int (iI x2), .int (iI x3), .int (iI (x4 + 1)), .int (iI x5), u6, u7] [] (um m 260 (wr ((100 * x3) + x4)) x5)) := (s_al_0 p_284_140).trans <| (s_getr p_284_141 hs_246 (by decide) rfl).trans <| (s_bip p_284_144 rfl).trans <| (s_il_3 p_284_146).trans <| (s_imul p_284_147).trans <| (s_il_4 p_284_148).trans <| (s_iadd p_284_150).trans <| (s_il_5 p_284_151).trans <| (s_ast 6100 p_284_153 hs_260 rfl).trans <| ck_cg fun k1 => (s_inc_4 cat_i p_284_154).trans <| (s_goto p_284_157 rfl).trans <| rfl
theorem b_284_69 {x1 : Int} {x2 : Int} {x3 : Int} {x4 : Int} {x5 : Int} {x6 : Int} {xs0 : Int} {u7 : Value} : Z e (d + 1) 284 69 [.ref 246, .int (iI x1), .int (iI x2), .int (iI x3), .int (iI x4), .int (iI x5), .int (iI x6), u7] [.int (iI xs0)] m = ck ((0 ≤ (wr xs0)) → (0 ≤ (wr ((100 * (x3 + 1)) + xs0)) ∧ (wr ((100 * (x3 + 1)) + xs0)) < 6100)) (if (0 ≤ (wr xs0)) ∧ ((wr (m 260 (wr ((100 * (x3 + 1)) + xs0)))) < 1000000) then ck (0 ≤ (wr ((100 * (x3 + 1)) + xs0)) ∧ (wr ((100 * (x3 + 1)) + xs0)) < 6100) ((Z e d 283 0 [.ref 246, .int (iI (x3 + 1)), .int (iI xs0), .int (iI x2)] [] m).bind (ZK e (d + 1) 284 127 [.ref 246, .int (iI x1), .int (iI x2), .int (iI x3), .int (iI x4), .int (iI x5), .int (iI x6), .int (iI xs0)] [.int (iI 1000), .int (iI ((m 260 (wr ((100 * (x3 + 1)) + xs0))) + 1)), .int (iI x5)] m)) else Z e (d + 1) 284 44 [.ref 246, .int (iI x1), .int (iI x2), .int (iI x3), .int (iI x4), .int (iI x5), .int (iI (x6 + 1)), .int (iI xs0)] [] m) := (s_is_7 cat_i p_284_69).trans <| (s_il_7 p_284_71).trans <| Eq.trans (Eq.trans (s_z_lt_f p_284_73 rfl rfl) <| Eq.trans (ite_cg ((s_al_0 p_284_76).trans <| (s_getr p_284_77 hs_246 (by decide) rfl).trans <| (s_bip p_284_80 rfl).trans <| (s_il_3 p_284_82).trans <| (s_const p_284_83).trans <| (s_iadd p_284_84).trans <| (s_imul p_284_85).trans <| (s_il_7 p_284_86).trans <| (s_iadd p_284_88).trans <| (s_ald 6100 p_284_89 hs_260 rfl (by decide)).trans <| ck_cg fun k3 => (s_ldcw p_284_90).trans <| (s_c_ge_f p_284_93 rfl rfl wl_1000000)) rfl) <| Eq.trans ck_a <| ck_cg fun _ => co_and) <| ck_cg fun _ => ite_cg ((s_il_5 p_284_96).trans <| (s_al_0 p_284_98).trans <| (s_getr p_284_99 hs_246 (by decide) rfl).trans <| (s_bip p_284_102 rfl).trans <| (s_il_3 p_284_104).trans <| (s_const p_284_105).trans <| (s_iadd p_284_106).trans <| (s_imul p_284_107).trans <| (s_il_7 p_284_108).trans <| (s_iadd p_284_110).trans <| (s_ald 6100 p_284_111 hs_260 rfl (by decide)).trans <| ck_cg fun k4 => (s_const p_284_112).trans <| (s_iadd p_284_113).trans <| (s_sip p_284_114 rfl).trans <| (s_al_0 p_284_117).trans <| (s_il_3 p_284_118).trans <| (s_const p_284_119).trans <| (s_iadd p_284_120).trans <| (s_il_7 p_284_121).trans <| (s_il_2 p_284_123).trans <| (s_cv3 (Lc := [.ref 246, .int (iI (x3 + 1)), .int (iI xs0), .int (iI x2)]) p_284_124 (by decide) (by decide) (zM_of zq_283) ⟨Nat.le_of_ble_eq_true rfl, Nat.le_of_ble_eq_true rfl⟩ rfl (m_rc hs_246 ⟨rfl, by decide⟩))) ((s_inc_6 cat_i p_284_134).trans <| (s_goto p_284_137 rfl).trans <| rfl)
theorem b_284_127 {x1 : Int} {x2 : Int} {x3 : Int} {x4 : Int} {x6 : Int} {xs0 : Int} {xs1 : Int} {xs2 : Int} {xs3 : Int} {u5 u7 : Value} : Z e (d + 1) 284 127 [.ref 246, .int (iI x1), .int (iI x2), .int (iI x3), .int (iI x4), u5, .int (iI x6), u7] [.int (iI xs0), .int (iI xs1), .int (iI xs2), .int (iI xs3)] m = Z e (d + 1) 284 44 [.ref 246, .int (iI x1), .int (iI x2), .int (iI x3), .int (iI x4), .int (iI (if (wr xs3) ≤ (wr (xs2 + (xs1 * xs0))) then xs3 else (xs2 + (xs1 * xs0)))), .int (iI (x6 + 1)), u7] [] m := (s_imul p_284_127).trans <| (s_iadd p_284_128).trans <| (s_cs2 (Lc := [.int (iI xs3), .int (iI (xs2 + (xs1 * xs0)))]) p_284_129 (by decide) (zM_of zq_325) ⟨Nat.le_of_ble_eq_true rfl, Nat.le_of_ble_eq_true rfl⟩ rfl).trans <| (bd b_325_0).trans <| ri_k.trans <| (s_is_5 cat_i p_284_132).trans <| (s_inc_6 cat_i p_284_134).trans <| (s_goto p_284_137 rfl).trans <| rfl
-- M.run
theorem p_285_0 : zP1 285 0 = some (.iload_n 1, 0, 0, 0) := zp_l zq_285 rfl
theorem p_285_1 : zP1 285 1 = some (.invokestatic 110, 200, 1, 0) := zp_r zq_285 rfl
theorem p_285_4 : zP1 285 4 = some (.ifCond .eq 29, 0, 0, 0) := zp_l zq_285 rfl
theorem p_285_7 : zP1 285 7 = some (.iload_n 2, 0, 0, 0) := zp_l zq_285 rfl
theorem p_285_8 : zP1 285 8 = some (.invokestatic 110, 200, 1, 0) := zp_r zq_285 rfl
theorem p_285_11 : zP1 285 11 = some (.ifCond .eq 22, 0, 0, 0) := zp_l zq_285 rfl
theorem p_285_14 : zP1 285 14 = some (.iload_n 3, 0, 0, 0) := zp_l zq_285 rfl
theorem p_285_15 : zP1 285 15 = some (.iconst 1, 0, 0, 0) := zp_l zq_285 rfl
theorem p_285_16 : zP1 285 16 = some (.iconst 4, 0, 0, 0) := zp_l zq_285 rfl
theorem p_285_17 : zP1 285 17 = some (.invokestatic 100, 199, 3, 0) := zp_r zq_285 rfl
theorem p_285_20 : zP1 285 20 = some (.ifCond .eq 13, 0, 0, 0) := zp_l zq_285 rfl
theorem p_285_23 : zP1 285 23 = some (.iload 4, 0, 0, 0) := zp_l zq_285 rfl
theorem p_285_25 : zP1 285 25 = some (.iconst 0, 0, 0, 0) := zp_l zq_285 rfl
theorem p_285_26 : zP1 285 26 = some (.iconst 2, 0, 0, 0) := zp_l zq_285 rfl
theorem p_285_27 : zP1 285 27 = some (.invokestatic 100, 199, 3, 0) := zp_r zq_285 rfl
theorem p_285_30 : zP1 285 30 = some (.ifCond .ne 5, 0, 0, 0) := zp_l zq_285 rfl
theorem p_285_33 : zP1 285 33 = some (.iconst (-1), 0, 0, 0) := zp_l zq_285 rfl
theorem p_285_34 : zP1 285 34 = some (.ireturn, 0, 0, 0) := zp_l zq_285 rfl
theorem p_285_35 : zP1 285 35 = some (.aload_n 0, 0, 0, 0) := zp_l zq_285 rfl
theorem p_285_36 : zP1 285 36 = some (.iload_n 2, 0, 0, 0) := zp_l zq_285 rfl
theorem p_285_37 : zP1 285 37 = some (.iload_n 3, 0, 0, 0) := zp_l zq_285 rfl
theorem p_285_38 : zP1 285 38 = some (.invokevirtual 359, 284, 2, 11) := zp_r zq_285 rfl
theorem p_285_41 : zP1 285 41 = some (.aload_n 0, 0, 0, 0) := zp_l zq_285 rfl
theorem p_285_42 : zP1 285 42 = some (.iload_n 1, 0, 0, 0) := zp_l zq_285 rfl
theorem p_285_43 : zP1 285 43 = some (.invokevirtual 114, 203, 1, 11) := zp_r zq_285 rfl
theorem p_285_46 : zP1 285 46 = some (.ifCond .eq 9, 0, 0, 0) := zp_l zq_285 rfl
theorem p_285_49 : zP1 285 49 = some (.ldc_w 343, 0, 0, 1000000) := zp_r zq_285 rfl
theorem p_285_52 : zP1 285 52 = some (.goto 9, 0, 0, 0) := zp_l zq_285 rfl
theorem p_285_55 : zP1 285 55 = some (.aload_n 0, 0, 0, 0) := zp_l zq_285 rfl
theorem p_285_56 : zP1 285 56 = some (.getfield 76, 11, 27, 0) := zp_r zq_285 rfl
theorem p_285_59 : zP1 285 59 = some (.iload_n 1, 0, 0, 0) := zp_l zq_285 rfl
theorem p_285_60 : zP1 285 60 = some (.iaload, 0, 0, 0) := zp_l zq_285 rfl
theorem p_285_61 : zP1 285 61 = some (.istore 5, 0, 0, 0) := zp_l zq_285 rfl
theorem p_285_63 : zP1 285 63 = some (.iload 5, 0, 0, 0) := zp_l zq_285 rfl
theorem p_285_65 : zP1 285 65 = some (.ldc_w 343, 0, 0, 1000000) := zp_r zq_285 rfl
theorem p_285_68 : zP1 285 68 = some (.if_icmp .ne 6, 0, 0, 0) := zp_l zq_285 rfl
theorem p_285_71 : zP1 285 71 = some (.bipush (-3), 0, 0, 0) := zp_l zq_285 rfl
theorem p_285_73 : zP1 285 73 = some (.ireturn, 0, 0, 0) := zp_l zq_285 rfl
theorem p_285_74 : zP1 285 74 = some (.aload_n 0, 0, 0, 0) := zp_l zq_285 rfl
theorem p_285_75 : zP1 285 75 = some (.iload 5, 0, 0, 0) := zp_l zq_285 rfl
theorem p_285_77 : zP1 285 77 = some (.sipush 1000, 0, 0, 0) := zp_l zq_285 rfl
theorem p_285_80 : zP1 285 80 = some (.irem, 0, 0, 0) := zp_l zq_285 rfl
theorem p_285_81 : zP1 285 81 = some (.putfield 363, 11, 7, 0) := zp_r zq_285 rfl
theorem p_285_84 : zP1 285 84 = some (.aload_n 0, 0, 0, 0) := zp_l zq_285 rfl
theorem p_285_85 : zP1 285 85 = some (.aload_n 0, 0, 0, 0) := zp_l zq_285 rfl
theorem p_285_86 : zP1 285 86 = some (.getfield 363, 11, 7, 0) := zp_r zq_285 rfl
theorem p_285_89 : zP1 285 89 = some (.putfield 25, 11, 8, 0) := zp_r zq_285 rfl
theorem p_285_92 : zP1 285 92 = some (.iload_n 1, 0, 0, 0) := zp_l zq_285 rfl
theorem p_285_93 : zP1 285 93 = some (.istore 6, 0, 0, 0) := zp_l zq_285 rfl
theorem p_285_95 : zP1 285 95 = some (.iconst 0, 0, 0, 0) := zp_l zq_285 rfl
theorem p_285_96 : zP1 285 96 = some (.istore 7, 0, 0, 0) := zp_l zq_285 rfl
theorem p_285_98 : zP1 285 98 = some (.iload 7, 0, 0, 0) := zp_l zq_285 rfl
theorem p_285_100 : zP1 285 100 = some (.aload_n 0, 0, 0, 0) := zp_l zq_285 rfl
theorem p_285_101 : zP1 285 101 = some (.getfield 363, 11, 7, 0) := zp_r zq_285 rfl
theorem p_285_104 : zP1 285 104 = some (.if_icmp .ge 188, 0, 0, 0) := zp_l zq_285 rfl
theorem p_285_107 : zP1 285 107 = some (.iconst (-1), 0, 0, 0) := zp_l zq_285 rfl
theorem p_285_108 : zP1 285 108 = some (.istore 8, 0, 0, 0) := zp_l zq_285 rfl
theorem p_285_110 : zP1 285 110 = some (.iconst 3, 0, 0, 0) := zp_l zq_285 rfl
theorem p_285_111 : zP1 285 111 = some (.istore 9, 0, 0, 0) := zp_l zq_285 rfl
theorem p_285_113 : zP1 285 113 = some (.iload 9, 0, 0, 0) := zp_l zq_285 rfl
theorem p_285_115 : zP1 285 115 = some (.ifCond .lt 94, 0, 0, 0) := zp_l zq_285 rfl
theorem p_285_118 : zP1 285 118 = some (.aload_n 0, 0, 0, 0) := zp_l zq_285 rfl
theorem p_285_119 : zP1 285 119 = some (.iload 6, 0, 0, 0) := zp_l zq_285 rfl
theorem p_285_121 : zP1 285 121 = some (.iload 9, 0, 0, 0) := zp_l zq_285 rfl
theorem p_285_123 : zP1 285 123 = some (.invokevirtual 117, 208, 2, 11) := zp_r zq_285 rfl
theorem p_285_126 : zP1 285 126 = some (.istore 10, 0, 0, 0) := zp_l zq_285 rfl
theorem p_285_128 : zP1 285 128 = some (.iload 10, 0, 0, 0) := zp_l zq_285 rfl
theorem p_285_130 : zP1 285 130 = some (.ifCond .lt 56, 0, 0, 0) := zp_l zq_285 rfl
theorem p_285_133 : zP1 285 133 = some (.aload_n 0, 0, 0, 0) := zp_l zq_285 rfl
theorem p_285_134 : zP1 285 134 = some (.getfield 76, 11, 27, 0) := zp_r zq_285 rfl
theorem p_285_137 : zP1 285 137 = some (.bipush 100, 0, 0, 0) := zp_l zq_285 rfl
theorem p_285_139 : zP1 285 139 = some (.iload 7, 0, 0, 0) := zp_l zq_285 rfl
theorem p_285_141 : zP1 285 141 = some (.iconst 1, 0, 0, 0) := zp_l zq_285 rfl
theorem p_285_142 : zP1 285 142 = some (.iadd, 0, 0, 0) := zp_l zq_285 rfl
theorem p_285_143 : zP1 285 143 = some (.imul, 0, 0, 0) := zp_l zq_285 rfl
theorem p_285_144 : zP1 285 144 = some (.iload 10, 0, 0, 0) := zp_l zq_285 rfl
theorem p_285_146 : zP1 285 146 = some (.iadd, 0, 0, 0) := zp_l zq_285 rfl
theorem p_285_147 : zP1 285 147 = some (.iaload, 0, 0, 0) := zp_l zq_285 rfl
theorem p_285_148 : zP1 285 148 = some (.iconst 1, 0, 0, 0) := zp_l zq_285 rfl
theorem p_285_149 : zP1 285 149 = some (.iadd, 0, 0, 0) := zp_l zq_285 rfl
theorem p_285_150 : zP1 285 150 = some (.sipush 1000, 0, 0, 0) := zp_l zq_285 rfl
theorem p_285_153 : zP1 285 153 = some (.aload_n 0, 0, 0, 0) := zp_l zq_285 rfl
theorem p_285_154 : zP1 285 154 = some (.iload 7, 0, 0, 0) := zp_l zq_285 rfl
theorem p_285_156 : zP1 285 156 = some (.iconst 1, 0, 0, 0) := zp_l zq_285 rfl
theorem p_285_157 : zP1 285 157 = some (.iadd, 0, 0, 0) := zp_l zq_285 rfl
theorem p_285_158 : zP1 285 158 = some (.iload 10, 0, 0, 0) := zp_l zq_285 rfl
theorem p_285_160 : zP1 285 160 = some (.iload_n 3, 0, 0, 0) := zp_l zq_285 rfl
theorem p_285_161 : zP1 285 161 = some (.invokevirtual 353, 283, 3, 11) := zp_r zq_285 rfl
theorem p_285_164 : zP1 285 164 = some (.imul, 0, 0, 0) := zp_l zq_285 rfl
theorem p_285_165 : zP1 285 165 = some (.iadd, 0, 0, 0) := zp_l zq_285 rfl
theorem p_285_166 : zP1 285 166 = some (.aload_n 0, 0, 0, 0) := zp_l zq_285 rfl
theorem p_285_167 : zP1 285 167 = some (.getfield 76, 11, 27, 0) := zp_r zq_285 rfl
theorem p_285_170 : zP1 285 170 = some (.bipush 100, 0, 0, 0) := zp_l zq_285 rfl
theorem p_285_172 : zP1 285 172 = some (.iload 7, 0, 0, 0) := zp_l zq_285 rfl
theorem p_285_174 : zP1 285 174 = some (.imul, 0, 0, 0) := zp_l zq_285 rfl
theorem p_285_175 : zP1 285 175 = some (.iload 6, 0, 0, 0) := zp_l zq_285 rfl
theorem p_285_177 : zP1 285 177 = some (.iadd, 0, 0, 0) := zp_l zq_285 rfl
theorem p_285_178 : zP1 285 178 = some (.iaload, 0, 0, 0) := zp_l zq_285 rfl
theorem p_285_179 : zP1 285 179 = some (.if_icmp .ne 7, 0, 0, 0) := zp_l zq_285 rfl
theorem p_285_182 : zP1 285 182 = some (.iconst 1, 0, 0, 0) := zp_l zq_285 rfl
theorem p_285_183 : zP1 285 183 = some (.goto 4, 0, 0, 0) := zp_l zq_285 rfl
theorem p_285_186 : zP1 285 186 = some (.iconst 0, 0, 0, 0) := zp_l zq_285 rfl
theorem p_285_187 : zP1 285 187 = some (.istore 11, 0, 0, 0) := zp_l zq_285 rfl
theorem p_285_189 : zP1 285 189 = some (.iload 11, 0, 0, 0) := zp_l zq_285 rfl
theorem p_285_191 : zP1 285 191 = some (.ifCond .eq 8, 0, 0, 0) := zp_l zq_285 rfl
theorem p_285_194 : zP1 285 194 = some (.iload 10, 0, 0, 0) := zp_l zq_285 rfl
theorem p_285_196 : zP1 285 196 = some (.goto 5, 0, 0, 0) := zp_l zq_285 rfl
theorem p_285_199 : zP1 285 199 = some (.iload 8, 0, 0, 0) := zp_l zq_285 rfl
theorem p_285_201 : zP1 285 201 = some (.istore 8, 0, 0, 0) := zp_l zq_285 rfl
theorem p_285_203 : zP1 285 203 = some (.iinc 9 (-1), 0, 0, 0) := zp_l zq_285 rfl
theorem p_285_206 : zP1 285 206 = some (.goto (-93), 0, 0, 0) := zp_l zq_285 rfl
theorem p_285_209 : zP1 285 209 = some (.aload_n 0, 0, 0, 0) := zp_l zq_285 rfl
theorem p_285_210 : zP1 285 210 = some (.getfield 19, 11, 5, 0) := zp_r zq_285 rfl
theorem p_285_213 : zP1 285 213 = some (.iconst 2, 0, 0, 0) := zp_l zq_285 rfl
theorem p_285_214 : zP1 285 214 = some (.iload 7, 0, 0, 0) := zp_l zq_285 rfl
theorem p_285_216 : zP1 285 216 = some (.imul, 0, 0, 0) := zp_l zq_285 rfl
theorem p_285_217 : zP1 285 217 = some (.iload 8, 0, 0, 0) := zp_l zq_285 rfl
theorem p_285_219 : zP1 285 219 = some (.iastore, 0, 0, 0) := zp_l zq_285 rfl
theorem p_285_220 : zP1 285 220 = some (.aload_n 0, 0, 0, 0) := zp_l zq_285 rfl
theorem p_285_221 : zP1 285 221 = some (.getfield 19, 11, 5, 0) := zp_r zq_285 rfl
theorem p_285_224 : zP1 285 224 = some (.iconst 2, 0, 0, 0) := zp_l zq_285 rfl
theorem p_285_225 : zP1 285 225 = some (.iload 7, 0, 0, 0) := zp_l zq_285 rfl
theorem p_285_227 : zP1 285 227 = some (.imul, 0, 0, 0) := zp_l zq_285 rfl
theorem p_285_228 : zP1 285 228 = some (.iconst 1, 0, 0, 0) := zp_l zq_285 rfl
theorem p_285_229 : zP1 285 229 = some (.iadd, 0, 0, 0) := zp_l zq_285 rfl
theorem p_285_230 : zP1 285 230 = some (.aload_n 0, 0, 0, 0) := zp_l zq_285 rfl
theorem p_285_231 : zP1 285 231 = some (.iload 7, 0, 0, 0) := zp_l zq_285 rfl
theorem p_285_233 : zP1 285 233 = some (.iconst 1, 0, 0, 0) := zp_l zq_285 rfl
theorem p_285_234 : zP1 285 234 = some (.iadd, 0, 0, 0) := zp_l zq_285 rfl
theorem p_285_235 : zP1 285 235 = some (.iload 8, 0, 0, 0) := zp_l zq_285 rfl
theorem p_285_237 : zP1 285 237 = some (.iload_n 3, 0, 0, 0) := zp_l zq_285 rfl
theorem p_285_238 : zP1 285 238 = some (.invokevirtual 353, 283, 3, 11) := zp_r zq_285 rfl
theorem p_285_241 : zP1 285 241 = some (.iastore, 0, 0, 0) := zp_l zq_285 rfl
theorem p_285_242 : zP1 285 242 = some (.aload_n 0, 0, 0, 0) := zp_l zq_285 rfl
theorem p_285_243 : zP1 285 243 = some (.getfield 22, 11, 6, 0) := zp_r zq_285 rfl
theorem p_285_246 : zP1 285 246 = some (.iconst 2, 0, 0, 0) := zp_l zq_285 rfl
theorem p_285_247 : zP1 285 247 = some (.iload 7, 0, 0, 0) := zp_l zq_285 rfl
theorem p_285_249 : zP1 285 249 = some (.imul, 0, 0, 0) := zp_l zq_285 rfl
theorem p_285_250 : zP1 285 250 = some (.aload_n 0, 0, 0, 0) := zp_l zq_285 rfl
theorem p_285_251 : zP1 285 251 = some (.getfield 19, 11, 5, 0) := zp_r zq_285 rfl
theorem p_285_254 : zP1 285 254 = some (.iconst 2, 0, 0, 0) := zp_l zq_285 rfl
theorem p_285_255 : zP1 285 255 = some (.iload 7, 0, 0, 0) := zp_l zq_285 rfl
theorem p_285_257 : zP1 285 257 = some (.imul, 0, 0, 0) := zp_l zq_285 rfl
theorem p_285_258 : zP1 285 258 = some (.iaload, 0, 0, 0) := zp_l zq_285 rfl
theorem p_285_259 : zP1 285 259 = some (.iastore, 0, 0, 0) := zp_l zq_285 rfl
theorem p_285_260 : zP1 285 260 = some (.aload_n 0, 0, 0, 0) := zp_l zq_285 rfl
theorem p_285_261 : zP1 285 261 = some (.getfield 22, 11, 6, 0) := zp_r zq_285 rfl
theorem p_285_264 : zP1 285 264 = some (.iconst 2, 0, 0, 0) := zp_l zq_285 rfl
theorem p_285_265 : zP1 285 265 = some (.iload 7, 0, 0, 0) := zp_l zq_285 rfl
theorem p_285_267 : zP1 285 267 = some (.imul, 0, 0, 0) := zp_l zq_285 rfl
theorem p_285_268 : zP1 285 268 = some (.iconst 1, 0, 0, 0) := zp_l zq_285 rfl
theorem p_285_269 : zP1 285 269 = some (.iadd, 0, 0, 0) := zp_l zq_285 rfl
theorem p_285_270 : zP1 285 270 = some (.aload_n 0, 0, 0, 0) := zp_l zq_285 rfl
theorem p_285_271 : zP1 285 271 = some (.getfield 19, 11, 5, 0) := zp_r zq_285 rfl
theorem p_285_274 : zP1 285 274 = some (.iconst 2, 0, 0, 0) := zp_l zq_285 rfl
theorem p_285_275 : zP1 285 275 = some (.iload 7, 0, 0, 0) := zp_l zq_285 rfl
theorem p_285_277 : zP1 285 277 = some (.imul, 0, 0, 0) := zp_l zq_285 rfl
theorem p_285_278 : zP1 285 278 = some (.iconst 1, 0, 0, 0) := zp_l zq_285 rfl
theorem p_285_279 : zP1 285 279 = some (.iadd, 0, 0, 0) := zp_l zq_285 rfl
theorem p_285_280 : zP1 285 280 = some (.iaload, 0, 0, 0) := zp_l zq_285 rfl
theorem p_285_281 : zP1 285 281 = some (.iastore, 0, 0, 0) := zp_l zq_285 rfl
theorem p_285_282 : zP1 285 282 = some (.iload 8, 0, 0, 0) := zp_l zq_285 rfl
theorem p_285_284 : zP1 285 284 = some (.istore 6, 0, 0, 0) := zp_l zq_285 rfl
theorem p_285_286 : zP1 285 286 = some (.iinc 7 1, 0, 0, 0) := zp_l zq_285 rfl
theorem p_285_289 : zP1 285 289 = some (.goto (-191), 0, 0, 0) := zp_l zq_285 rfl
theorem p_285_292 : zP1 285 292 = some (.iload 4, 0, 0, 0) := zp_l zq_285 rfl
theorem p_285_294 : zP1 285 294 = some (.ifCond .ne 12, 0, 0, 0) := zp_l zq_285 rfl
theorem p_285_297 : zP1 285 297 = some (.iload 5, 0, 0, 0) := zp_l zq_285 rfl
theorem p_285_299 : zP1 285 299 = some (.sipush 1000, 0, 0, 0) := zp_l zq_285 rfl
theorem p_285_302 : zP1 285 302 = some (.idiv, 0, 0, 0) := zp_l zq_285 rfl
theorem p_285_303 : zP1 285 303 = some (.goto 34, 0, 0, 0) := zp_l zq_285 rfl
theorem p_285_306 : zP1 285 306 = some (.iload 4, 0, 0, 0) := zp_l zq_285 rfl
theorem p_285_308 : zP1 285 308 = some (.iconst 1, 0, 0, 0) := zp_l zq_285 rfl
theorem p_285_309 : zP1 285 309 = some (.if_icmp .ne 10, 0, 0, 0) := zp_l zq_285 rfl
theorem p_285_312 : zP1 285 312 = some (.aload_n 0, 0, 0, 0) := zp_l zq_285 rfl
theorem p_285_313 : zP1 285 313 = some (.getfield 363, 11, 7, 0) := zp_r zq_285 rfl
theorem p_285_316 : zP1 285 316 = some (.goto 21, 0, 0, 0) := zp_l zq_285 rfl
theorem p_285_319 : zP1 285 319 = some (.aload_n 0, 0, 0, 0) := zp_l zq_285 rfl
theorem p_285_320 : zP1 285 320 = some (.getfield 363, 11, 7, 0) := zp_r zq_285 rfl
theorem p_285_323 : zP1 285 323 = some (.ifCond .ne 8, 0, 0, 0) := zp_l zq_285 rfl
theorem p_285_326 : zP1 285 326 = some (.bipush (-3), 0, 0, 0) := zp_l zq_285 rfl
theorem p_285_328 : zP1 285 328 = some (.goto 9, 0, 0, 0) := zp_l zq_285 rfl
theorem p_285_331 : zP1 285 331 = some (.aload_n 0, 0, 0, 0) := zp_l zq_285 rfl
theorem p_285_332 : zP1 285 332 = some (.getfield 19, 11, 5, 0) := zp_r zq_285 rfl
theorem p_285_335 : zP1 285 335 = some (.iconst 0, 0, 0, 0) := zp_l zq_285 rfl
theorem p_285_336 : zP1 285 336 = some (.iaload, 0, 0, 0) := zp_l zq_285 rfl
theorem p_285_337 : zP1 285 337 = some (.ireturn, 0, 0, 0) := zp_l zq_285 rfl
theorem b_285_0 {x1 : Int} {x2 : Int} {x3 : Int} {x4 : Int} : Z e (d + 2) 285 0 [.ref 246, .int (iI x1), .int (iI x2), .int (iI x3), .int (iI x4), .retAddr 0, .retAddr 0, .retAddr 0, .retAddr 0, .retAddr 0, .retAddr 0, .retAddr 0] [] m = (if (¬ (((wr 0) ≤ (wr x1)) ∧ ((wr x1) ≤ (wr 99)))) ∨ ((¬ (((wr 0) ≤ (wr x2)) ∧ ((wr x2) ≤ (wr 99)))) ∨ ((¬ (((wr 1) ≤ (wr x3)) ∧ ((wr x3) ≤ (wr 4)))) ∨ (¬ (((wr 0) ≤ (wr x4)) ∧ ((wr x4) ≤ (wr 2)))))) then ri (-1) m else (Z e (d + 1) 284 0 [.ref 246, .int (iI x2), .int (iI x3), .retAddr 0, .retAddr 0, .retAddr 0, .retAddr 0, .retAddr 0] [] m).bind (ZK e (d + 2) 285 41 [.ref 246, .int (iI x1), .int (iI x2), .int (iI x3), .int (iI x4), .retAddr 0, .retAddr 0, .retAddr 0, .retAddr 0, .retAddr 0, .retAddr 0, .retAddr 0] [] m)) := (s_il_1 p_285_0).trans <| (s_cs1 (Lc := [.int (iI x1)]) p_285_1 (by decide) (zM_of zq_200) ⟨Nat.le_of_ble_eq_true rfl, Nat.le_of_ble_eq_true rfl⟩ rfl).trans <| (bd b_200_0).trans <| ri_k.trans <| Eq.trans (Eq.trans (s_beq_t p_285_4 rfl) <| Eq.trans (ite_cg rfl ((s_il_2 p_285_7).trans <| (s_cs1 (Lc := [.int (iI x2)]) p_285_8 (by decide) (zM_of zq_200) ⟨Nat.le_of_ble_eq_true rfl, Nat.le_of_ble_eq_true rfl⟩ rfl).trans <| (bd b_200_0).trans <| ri_k.trans <| Eq.trans (s_beq_t p_285_11 rfl) <| Eq.trans (ite_cg rfl ((s_il_3 p_285_14).trans <| (s_const p_285_15).trans <| (s_const p_285_16).trans <| (s_cs3 (Lc := [.int (iI x3), .int (iI 1), .int (iI 4)]) p_285_17 (by decide) (zM_of zq_199) ⟨Nat.le_of_ble_eq_true rfl, Nat.le_of_ble_eq_true rfl⟩ rfl).trans <| (bd b_199_0).trans <| ri_k.trans <| Eq.trans (s_beq_t p_285_20 rfl) <| Eq.trans (ite_cg rfl ((s_il_4 p_285_23).trans <| (s_const p_285_25).trans <| (s_const p_285_26).trans <| (s_cs3 (Lc := [.int (iI x4), .int (iI 0), .int (iI 2)]) p_285_27 (by decide) (zM_of zq_199) ⟨Nat.le_of_ble_eq_true rfl, Nat.le_of_ble_eq_true rfl⟩ rfl).trans <| (bd b_199_0).trans <| ri_k.trans <| (s_bne_f p_285_30 rfl))) co_or)) co_or)) co_or) <| ite_cg ((s_const p_285_33).trans <| (s_reti p_285_34 (zM_of zq_285))) ((s_al_0 p_285_35).trans <| (s_il_2 p_285_36).trans <| (s_il_3 p_285_37).trans <| (s_cv2 (Lc := [.ref 246, .int (iI x2), .int (iI x3), .retAddr 0, .retAddr 0, .retAddr 0, .retAddr 0, .retAddr 0]) p_285_38 (by decide) (by decide) (zM_of zq_284) ⟨Nat.le_of_ble_eq_true rfl, Nat.le_of_ble_eq_true rfl⟩ rfl (m_rc hs_246 ⟨rfl, by decide⟩)))
theorem b_285_41 {x1 : Int} {x3 : Int} {x4 : Int} {u2 u5 u6 u7 u8 u9 u10 u11 : Value} : Z e (d + 2) 285 41 [.ref 246, .int (iI x1), u2, .int (iI x3), .int (iI x4), u5, u6, u7, u8, u9, u10, u11] [] m = ck (0 ≤ (wr (10 + x1)) ∧ (wr (10 + x1)) < 2737) (ck ((¬ ((wr (m 247 (wr (10 + x1)))) = 1)) → (0 ≤ (wr x1) ∧ (wr x1) < 6100)) ((if (wr (if (wr (m 247 (wr (10 + x1)))) = 1 then 1000000 else (m 260 (wr x1)))) = 1000000 then ri (-3) m else Z e (d + 2) 285 98 [.ref 246, .int (iI x1), u2, .int (iI x3), .int (iI x4), .int (iI (if (wr (m 247 (wr (10 + x1)))) = 1 then 1000000 else (m 260 (wr x1)))), .int (iI x1), .int (iI 0), u8, u9, u10, u11] [] (um (um m 246 7 (jrem (if (wr (m 247 (wr (10 + x1)))) = 1 then 1000000 else (m 260 (wr x1))) 1000)) 246 8 ((um m 246 7 (jrem (if (wr (m 247 (wr (10 + x1)))) = 1 then 1000000 else (m 260 (wr x1))) 1000)) 246 7))))) := (s_al_0 p_285_41).trans <| (s_il_1 p_285_42).trans <| (s_cv1 (Lc := [.ref 246, .int (iI x1)]) p_285_43 (by decide) (by decide) (zM_of zq_203) ⟨Nat.le_of_ble_eq_true rfl, Nat.le_of_ble_eq_true rfl⟩ rfl (m_rc hs_246 ⟨rfl, by decide⟩)).trans <| (bd b_203_0).trans <| ck_bind.trans <| ck_cg fun _ => ri_k.trans <| Eq.trans (Eq.trans ((s_beq_f p_285_46 rfl)) <| Eq.trans (ite_cg ((s_ldcw p_285_49).trans <| (s_goto p_285_52 rfl).trans <| rfl) ((s_al_0 p_285_55).trans <| (s_getr p_285_56 hs_246 (by decide) rfl).trans <| (s_il_1 p_285_59).trans <| (s_ald 6100 p_285_60 hs_260 rfl (by decide)).trans <| ck_cg fun k1 => rfl)) <| Eq.trans ck_b <| ck_cg fun _ => (phi1 (fun z0 => Z e (d + 2) 285 61 [.ref 246, .int (iI x1), u2, .int (iI x3), .int (iI x4), u5, u6, u7, u8, u9, u10, u11] [.int (iI z0)] m))) <| ck_cg fun _ => (s_is_5 cat_i p_285_61).trans <| (s_il_5 p_285_63).trans <| (s_ldcw p_285_65).trans <| Eq.trans ((s_c_ne_f p_285_68 rfl rfl wl_1000000)) <| ite_cg ((s_bip p_285_71 rfl).trans <| (s_reti p_285_73 (zM_of zq_285))) ((s_al_0 p_285_74).trans <| (s_il_5 p_285_75).trans <| (s_sip p_285_77 rfl).trans <| (s_iremc p_285_80 (by decide)).trans <| (s_put p_285_81 hs_246 (by decide) rfl).trans <| (s_al_0 p_285_84).trans <| (s_al_0 p_285_85).trans <| (s_get p_285_86 hs_246 (by decide) rfl).trans <| (s_put p_285_89 hs_246 (by decide) rfl).trans <| (s_il_1 p_285_92).trans <| (s_is_6 cat_i p_285_93).trans <| (s_const p_285_95).trans <| (s_is_7 cat_i p_285_96).trans <| rfl)
theorem b_285_98 {x3 : Int} {x4 : Int} {x5 : Int} {x6 : Int} {x7 : Int} {u1 u2 u8 u9 u10 u11 : Value} : Z e (d + 2) 285 98 [.ref 246, u1, u2, .int (iI x3), .int (iI x4), .int (iI x5), .int (iI x6), .int (iI x7), u8, u9, u10, u11] [] m = (if (wr x7) < (wr (m 246 7)) then Z e (d + 2) 285 113 [.ref 246, u1, u2, .int (iI x3), .int (iI x4), .int (iI x5), .int (iI x6), .int (iI x7), .int (iI (-1)), .int (iI 3), u10, u11] [] m else Z e (d + 2) 285 292 [.ref 246, u1, u2, .int (iI x3), .int (iI x4), .int (iI x5), .int (iI x6), .int (iI x7), u8, u9, u10, u11] [] m) := (s_il_7 p_285_98).trans <| (s_al_0 p_285_100).trans <| (s_get p_285_101 hs_246 (by decide) rfl).trans <| Eq.trans ((s_c_ge_f p_285_104 rfl rfl rfl)) <| ite_cg ((s_const p_285_107).trans <| (s_is_8 cat_i p_285_108).trans <| (s_const p_285_110).trans <| (s_is_9 cat_i p_285_111).trans <| rfl) (rfl)
theorem b_285_113 {x3 : Int} {x4 : Int} {x5 : Int} {x6 : Int} {x7 : Int} {x8 : Int} {x9 : Int} {u1 u2 u10 u11 : Value} : Z e (d + 2) 285 113 [.ref 246, u1, u2, .int (iI x3), .int (iI x4), .int (iI x5), .int (iI x6), .int (iI x7), .int (iI x8), .int (iI x9), u10, u11] [] m = (if 0 ≤ (wr x9) then (Z e (d + 1) 208 0 [.ref 246, .int (iI x6), .int (iI x9), .retAddr 0] [] m).bind (ZK e (d + 2) 285 126 [.ref 246, u1, u2, .int (iI x3), .int (iI x4), .int (iI x5), .int (iI x6), .int (iI x7), .int (iI x8), .int (iI x9), u10, u11] [] m) else Z e (d + 2) 285 209 [.ref 246, u1, u2, .int (iI x3), .int (iI x4), .int (iI x5), .int (iI x6), .int (iI x7), .int (iI x8), .int (iI x9), u10, u11] [] m) := (s_il_9 p_285_113).trans <| Eq.trans ((s_z_lt_f p_285_115 rfl rfl)) <| ite_cg ((s_al_0 p_285_118).trans <| (s_il_6 p_285_119).trans <| (s_il_9 p_285_121).trans <| (s_cv2 (Lc := [.ref 246, .int (iI x6), .int (iI x9), .retAddr 0]) p_285_123 (by decide) (by decide) (zM_of zq_208) ⟨Nat.le_of_ble_eq_true rfl, Nat.le_of_ble_eq_true rfl⟩ rfl (m_rc hs_246 ⟨rfl, by decide⟩))) (rfl)
theorem b_285_126 {x3 : Int} {x4 : Int} {x5 : Int} {x6 : Int} {x7 : Int} {x8 : Int} {x9 : Int} {xs0 : Int} {u1 u2 u10 u11 : Value} : Z e (d + 2) 285 126 [.ref 246, u1, u2, .int (iI x3), .int (iI x4), .int (iI x5), .int (iI x6), .int (iI x7), .int (iI x8), .int (iI x9), u10, u11] [.int (iI xs0)] m = (if 0 ≤ (wr xs0) then ck (0 ≤ (wr ((100 * (x7 + 1)) + xs0)) ∧ (wr ((100 * (x7 + 1)) + xs0)) < 6100) ((Z e (d + 1) 283 0 [.ref 246, .int (iI (x7 + 1)), .int (iI xs0), .int (iI x3)] [] m).bind (ZK e (d + 2) 285 164 [.ref 246, u1, u2, .int (iI x3), .int (iI x4), .int (iI x5), .int (iI x6), .int (iI x7), .int (iI x8), .int (iI x9), .int (iI xs0), u11] [.int (iI 1000), .int (iI ((m 260 (wr ((100 * (x7 + 1)) + xs0))) + 1))] m)) else Z e (d + 2) 285 187 [.ref 246, u1, u2, .int (iI x3), .int (iI x4), .int (iI x5), .int (iI x6), .int (iI x7), .int (iI x8), .int (iI x9), .int (iI xs0), u11] [.int (iI 0)] m) := (s_is_10 cat_i p_285_126).trans <| (s_il_10 p_285_128).trans <| Eq.trans ((s_z_lt_f p_285_130 rfl rfl)) <| ite_cg ((s_al_0 p_285_133).trans <| (s_getr p_285_134 hs_246 (by decide) rfl).trans <| (s_bip p_285_137 rfl).trans <| (s_il_7 p_285_139).trans <| (s_const p_285_141).trans <| (s_iadd p_285_142).trans <| (s_imul p_285_143).trans <| (s_il_10 p_285_144).trans <| (s_iadd p_285_146).trans <| (s_ald 6100 p_285_147 hs_260 rfl (by decide)).trans <| ck_cg fun k2 => (s_const p_285_148).trans <| (s_iadd p_285_149).trans <| (s_sip p_285_150 rfl).trans <| (s_al_0 p_285_153).trans <| (s_il_7 p_285_154).trans <| (s_const p_285_156).trans <| (s_iadd p_285_157).trans <| (s_il_10 p_285_158).trans <| (s_il_3 p_285_160).trans <| (s_cv3 (Lc := [.ref 246, .int (iI (x7 + 1)), .int (iI xs0), .int (iI x3)]) p_285_161 (by decide) (by decide) (zM_of zq_283) ⟨Nat.le_of_ble_eq_true rfl, Nat.le_of_ble_eq_true rfl⟩ rfl (m_rc hs_246 ⟨rfl, by decide⟩))) ((s_const p_285_186).trans <| rfl)
theorem b_285_187 {x3 : Int} {x4 : Int} {x5 : Int} {x6 : Int} {x7 : Int} {x8 : Int} {x9 : Int} {x10 : Int} {xs0 : Int} {u1 u2 u11 : Value} : Z e (d + 2) 285 187 [.ref 246, u1, u2, .int (iI x3), .int (iI x4), .int (iI x5), .int (iI x6), .int (iI x7), .int (iI x8), .int (iI x9), .int (iI x10), u11] [.int (iI xs0)] m = Z e (d + 2) 285 113 [.ref 246, u1, u2, .int (iI x3), .int (iI x4), .int (iI x5), .int (iI x6), .int (iI x7), .int (iI (if ¬ (wr xs0) = 0 then x10 else x8)), .int (iI (x9 + (-1))), .int (iI x10), .int (iI xs0)] [] m := (s_is_11 cat_i p_285_187).trans <| (s_il_11 p_285_189).trans <| Eq.trans (Eq.trans ((s_z_eq_f p_285_191 rfl rfl)) <| Eq.trans (ite_cg ((s_il_10 p_285_194).trans <| (s_goto p_285_196 rfl).trans <| rfl) ((s_il_8 p_285_199).trans <| rfl)) (phi1 (fun z0 => Z e (d + 2) 285 201 [.ref 246, u1, u2, .int (iI x3), .int (iI x4), .int (iI x5), .int (iI x6), .int (iI x7), .int (iI x8), .int (iI x9), .int (iI x10), .int (iI xs0)] [.int (iI z0)] m))) <| (s_is_8 cat_i p_285_201).trans <| (s_inc_9 cat_i p_285_203).trans <| (s_goto p_285_206 rfl).trans <| rfl
theorem b_285_209 {x3 : Int} {x4 : Int} {x5 : Int} {x7 : Int} {x8 : Int} {u1 u2 u6 u9 u10 u11 : Value} : Z e (d + 2) 285 209 [.ref 246, u1, u2, .int (iI x3), .int (iI x4), .int (iI x5), u6, .int (iI x7), .int (iI x8), u9, u10, u11] [] m = ck (0 ≤ (wr (2 * x7)) ∧ (wr (2 * x7)) < 120) ((Z e (d + 1) 283 0 [.ref 246, .int (iI (x7 + 1)), .int (iI x8), .int (iI x3)] [] (um m 250 (wr (2 * x7)) x8)).bind (ZK e (d + 2) 285 241 [.ref 246, u1, u2, .int (iI x3), .int (iI x4), .int (iI x5), u6, .int (iI x7), .int (iI x8), u9, u10, u11] [.int (iI ((2 * x7) + 1)), .ref 250] (um m 250 (wr (2 * x7)) x8))) := (s_al_0 p_285_209).trans <| (s_getr p_285_210 hs_246 (by decide) rfl).trans <| (s_const p_285_213).trans <| (s_il_7 p_285_214).trans <| (s_imul p_285_216).trans <| (s_il_8 p_285_217).trans <| (s_ast 120 p_285_219 hs_250 rfl).trans <| ck_cg fun k1 => (s_al_0 p_285_220).trans <| (s_getr p_285_221 hs_246 (by decide) rfl).trans <| (s_const p_285_224).trans <| (s_il_7 p_285_225).trans <| (s_imul p_285_227).trans <| (s_const p_285_228).trans <| (s_iadd p_285_229).trans <| (s_al_0 p_285_230).trans <| (s_il_7 p_285_231).trans <| (s_const p_285_233).trans <| (s_iadd p_285_234).trans <| (s_il_8 p_285_235).trans <| (s_il_3 p_285_237).trans <| (s_cv3 (Lc := [.ref 246, .int (iI (x7 + 1)), .int (iI x8), .int (iI x3)]) p_285_238 (by decide) (by decide) (zM_of zq_283) ⟨Nat.le_of_ble_eq_true rfl, Nat.le_of_ble_eq_true rfl⟩ rfl (m_rc hs_246 ⟨rfl, by decide⟩))
theorem b_285_241 {x3 : Int} {x4 : Int} {x5 : Int} {x7 : Int} {x8 : Int} {xs0 : Int} {xs1 : Int} {u1 u2 u6 u9 u10 u11 : Value} : Z e (d + 2) 285 241 [.ref 246, u1, u2, .int (iI x3), .int (iI x4), .int (iI x5), u6, .int (iI x7), .int (iI x8), u9, u10, u11] [.int (iI xs0), .int (iI xs1), .ref 250] m = ck (0 ≤ (wr xs1) ∧ (wr xs1) < 120) (ck (0 ≤ (wr (2 * x7)) ∧ (wr (2 * x7)) < 120) (ck (0 ≤ (wr (2 * x7)) ∧ (wr (2 * x7)) < 120) (ck (0 ≤ (wr ((2 * x7) + 1)) ∧ (wr ((2 * x7) + 1)) < 120) (ck (0 ≤ (wr ((2 * x7) + 1)) ∧ (wr ((2 * x7) + 1)) < 120) (Z e (d + 2) 285 98 [.ref 246, u1, u2, .int (iI x3), .int (iI x4), .int (iI x5), .int (iI x8), .int (iI (x7 + 1)), .int (iI x8), u9, u10, u11] [] (um (um (um m 250 (wr xs1) xs0) 251 (wr (2 * x7)) ((um m 250 (wr xs1) xs0) 250 (wr (2 * x7)))) 251 (wr ((2 * x7) + 1)) ((um (um m 250 (wr xs1) xs0) 251 (wr (2 * x7)) ((um m 250 (wr xs1) xs0) 250 (wr (2 * x7)))) 250 (wr ((2 * x7) + 1))))))))) := (s_ast 120 p_285_241 hs_250 rfl).trans <| ck_cg fun k1 => (s_al_0 p_285_242).trans <| (s_getr p_285_243 hs_246 (by decide) rfl).trans <| (s_const p_285_246).trans <| (s_il_7 p_285_247).trans <| (s_imul p_285_249).trans <| (s_al_0 p_285_250).trans <| (s_getr p_285_251 hs_246 (by decide) rfl).trans <| (s_const p_285_254).trans <| (s_il_7 p_285_255).trans <| (s_imul p_285_257).trans <| (s_ald 120 p_285_258 hs_250 rfl (by decide)).trans <| ck_cg fun k2 => (s_ast 120 p_285_259 hs_251 rfl).trans <| ck_cg fun k3 => (s_al_0 p_285_260).trans <| (s_getr p_285_261 hs_246 (by decide) rfl).trans <| (s_const p_285_264).trans <| (s_il_7 p_285_265).trans <| (s_imul p_285_267).trans <| (s_const p_285_268).trans <| (s_iadd p_285_269).trans <| (s_al_0 p_285_270).trans <| (s_getr p_285_271 hs_246 (by decide) rfl).trans <| (s_const p_285_274).trans <| (s_il_7 p_285_275).trans <| (s_imul p_285_277).trans <| (s_const p_285_278).trans <| (s_iadd p_285_279).trans <| (s_ald 120 p_285_280 hs_250 rfl (by decide)).trans <| ck_cg fun k4 => (s_ast 120 p_285_281 hs_251 rfl).trans <| ck_cg fun k5 => (s_il_8 p_285_282).trans <| (s_is_6 cat_i p_285_284).trans <| (s_inc_7 cat_i p_285_286).trans <| (s_goto p_285_289 rfl).trans <| rfl
theorem b_285_292 {x4 : Int} {x5 : Int} {u1 u2 u3 u6 u7 u8 u9 u10 u11 : Value} : Z e (d + 2) 285 292 [.ref 246, u1, u2, u3, .int (iI x4), .int (iI x5), u6, u7, u8, u9, u10, u11] [] m = ri (if (wr x4) = 0 then (jdiv x5 1000) else (if (wr x4) = 1 then (m 246 7) else (if (wr (m 246 7)) = 0 then (-3) else (m 250 0)))) m := (s_il_4 p_285_292).trans <| Eq.trans (Eq.trans ((s_z_ne_f p_285_294 rfl rfl)) <| Eq.trans (ite_cg ((s_il_5 p_285_297).trans <| (s_sip p_285_299 rfl).trans <| (s_idivc p_285_302 (by decide)).trans <| (s_goto p_285_303 rfl).trans <| rfl) ((s_il_4 p_285_306).trans <| (s_const p_285_308).trans <| Eq.trans (Eq.trans ((s_c_ne_f p_285_309 rfl rfl wl_1)) <| Eq.trans (ite_cg ((s_al_0 p_285_312).trans <| (s_get p_285_313 hs_246 (by decide) rfl).trans <| (s_goto p_285_316 rfl).trans <| rfl) ((s_al_0 p_285_319).trans <| (s_get p_285_320 hs_246 (by decide) rfl).trans <| Eq.trans (Eq.trans ((s_z_ne_f p_285_323 rfl rfl)) <| Eq.trans (ite_cg ((s_bip p_285_326 rfl).trans <| (s_goto p_285_328 rfl).trans <| rfl) ((s_al_0 p_285_331).trans <| (s_getr p_285_332 hs_246 (by decide) rfl).trans <| (s_const p_285_335).trans <| (s_aldc p_285_336 hs_250 (by decide) wl_0 (by decide)).trans <| rfl)) (phi1 (fun z0 => Z e (d + 2) 285 337 [.ref 246, u1, u2, u3, .int (iI x4), .int (iI x5), u6, u7, u8, u9, u10, u11] [.int (iI z0)] m))) <| rfl)) (phi1 (fun z0 => Z e (d + 2) 285 337 [.ref 246, u1, u2, u3, .int (iI x4), .int (iI x5), u6, u7, u8, u9, u10, u11] [.int (iI z0)] m))) <| rfl)) (phi1 (fun z0 => Z e (d + 2) 285 337 [.ref 246, u1, u2, u3, .int (iI x4), .int (iI x5), u6, u7, u8, u9, u10, u11] [.int (iI z0)] m))) <| (s_reti p_285_337 (zM_of zq_285))
theorem b_285_164 {x3 : Int} {x4 : Int} {x5 : Int} {x6 : Int} {x7 : Int} {x8 : Int} {x9 : Int} {x10 : Int} {xs0 : Int} {xs1 : Int} {xs2 : Int} {u1 u2 u11 : Value} : Z e (d + 2) 285 164 [.ref 246, u1, u2, .int (iI x3), .int (iI x4), .int (iI x5), .int (iI x6), .int (iI x7), .int (iI x8), .int (iI x9), .int (iI x10), u11] [.int (iI xs0), .int (iI xs1), .int (iI xs2)] m = ck (0 ≤ (wr ((100 * x7) + x6)) ∧ (wr ((100 * x7) + x6)) < 6100) (Z e (d + 2) 285 187 [.ref 246, u1, u2, .int (iI x3), .int (iI x4), .int (iI x5), .int (iI x6), .int (iI x7), .int (iI x8), .int (iI x9), .int (iI x10), u11] [.int (iI (if (wr (xs2 + (xs1 * xs0))) = (wr (m 260 (wr ((100 * x7) + x6)))) then 1 else 0))] m) := (s_imul p_285_164).trans <| (s_iadd p_285_165).trans <| (s_al_0 p_285_166).trans <| (s_getr p_285_167 hs_246 (by decide) rfl).trans <| (s_bip p_285_170 rfl).trans <| (s_il_7 p_285_172).trans <| (s_imul p_285_174).trans <| (s_il_6 p_285_175).trans <| (s_iadd p_285_177).trans <| (s_ald 6100 p_285_178 hs_260 rfl (by decide)).trans <| ck_cg fun k1 => Eq.trans (Eq.trans ((s_c_ne_f p_285_179 rfl rfl rfl)) <| Eq.trans (ite_cg ((s_const p_285_182).trans <| (s_goto p_285_183 rfl).trans <| rfl) ((s_const p_285_186).trans <| rfl)) (phi1 (fun z0 => Z e (d + 2) 285 187 [.ref 246, u1, u2, .int (iI x3), .int (iI x4), .int (iI x5), .int (iI x6), .int (iI x7), .int (iI x8), .int (iI x9), .int (iI x10), u11] [.int (iI z0)] m))) <| rfl
-- M.isRow
theorem p_286_0 : zP1 286 0 = some (.iload_n 1, 0, 0, 0) := zp_l zq_286 rfl
theorem p_286_1 : zP1 286 1 = some (.iconst 0, 0, 0, 0) := zp_l zq_286 rfl
theorem p_286_2 : zP1 286 2 = some (.aload_n 0, 0, 0, 0) := zp_l zq_286 rfl
theorem p_286_3 : zP1 286 3 = some (.getfield 363, 11, 7, 0) := zp_r zq_286 rfl
theorem p_286_6 : zP1 286 6 = some (.iconst 1, 0, 0, 0) := zp_l zq_286 rfl
theorem p_286_7 : zP1 286 7 = some (.isub, 0, 0, 0) := zp_l zq_286 rfl
theorem p_286_8 : zP1 286 8 = some (.invokestatic 100, 199, 3, 0) := zp_r zq_286 rfl
theorem p_286_11 : zP1 286 11 = some (.ifCond .eq 16, 0, 0, 0) := zp_l zq_286 rfl
theorem p_286_14 : zP1 286 14 = some (.iload_n 2, 0, 0, 0) := zp_l zq_286 rfl
theorem p_286_15 : zP1 286 15 = some (.iconst 0, 0, 0, 0) := zp_l zq_286 rfl
theorem p_286_16 : zP1 286 16 = some (.iconst 1, 0, 0, 0) := zp_l zq_286 rfl
theorem p_286_17 : zP1 286 17 = some (.invokestatic 100, 199, 3, 0) := zp_r zq_286 rfl
theorem p_286_20 : zP1 286 20 = some (.ifCond .eq 7, 0, 0, 0) := zp_l zq_286 rfl
theorem p_286_23 : zP1 286 23 = some (.iconst 1, 0, 0, 0) := zp_l zq_286 rfl
theorem p_286_24 : zP1 286 24 = some (.goto 4, 0, 0, 0) := zp_l zq_286 rfl
theorem p_286_27 : zP1 286 27 = some (.iconst 0, 0, 0, 0) := zp_l zq_286 rfl
theorem p_286_28 : zP1 286 28 = some (.ireturn, 0, 0, 0) := zp_l zq_286 rfl
theorem b_286_0 {x1 : Int} {x2 : Int} : Z e (d + 1) 286 0 [.ref 246, .int (iI x1), .int (iI x2)] [] m = ri (if (((wr 0) ≤ (wr x1)) ∧ ((wr x1) ≤ (wr ((m 246 7) - 1)))) ∧ (((wr 0) ≤ (wr x2)) ∧ ((wr x2) ≤ (wr 1))) then 1 else 0) m := (s_il_1 p_286_0).trans <| (s_const p_286_1).trans <| (s_al_0 p_286_2).trans <| (s_get p_286_3 hs_246 (by decide) rfl).trans <| (s_const p_286_6).trans <| (s_isub p_286_7).trans <| (s_cs3 (Lc := [.int (iI x1), .int (iI 0), .int (iI ((m 246 7) - 1))]) p_286_8 (by decide) (zM_of zq_199) ⟨Nat.le_of_ble_eq_true rfl, Nat.le_of_ble_eq_true rfl⟩ rfl).trans <| (bd b_199_0).trans <| ri_k.trans <| Eq.trans (Eq.trans (Eq.trans (s_beq_f p_286_11 rfl) <| Eq.trans (ite_cg ((s_il_2 p_286_14).trans <| (s_const p_286_15).trans <| (s_const p_286_16).trans <| (s_cs3 (Lc := [.int (iI x2), .int (iI 0), .int (iI 1)]) p_286_17 (by decide) (zM_of zq_199) ⟨Nat.le_of_ble_eq_true rfl, Nat.le_of_ble_eq_true rfl⟩ rfl).trans <| (bd b_199_0).trans <| ri_k.trans <| (s_beq_f p_286_20 rfl)) rfl) co_and) <| Eq.trans (ite_cg ((s_const p_286_23).trans <| (s_goto p_286_24 rfl).trans <| rfl) ((s_const p_286_27).trans <| rfl)) (phi1 (fun z0 => Z e (d + 1) 286 28 [.ref 246, .int (iI x1), .int (iI x2)] [.int (iI z0)] m))) <| (s_retb p_286_28 (zM_of zq_286))
-- M.row
theorem p_287_0 : zP1 287 0 = some (.aload_n 0, 0, 0, 0) := zp_l zq_287 rfl
theorem p_287_1 : zP1 287 1 = some (.iload_n 1, 0, 0, 0) := zp_l zq_287 rfl
theorem p_287_2 : zP1 287 2 = some (.iload_n 2, 0, 0, 0) := zp_l zq_287 rfl
theorem p_287_3 : zP1 287 3 = some (.invokevirtual 366, 286, 2, 11) := zp_r zq_287 rfl
theorem p_287_6 : zP1 287 6 = some (.ifCond .eq 16, 0, 0, 0) := zp_l zq_287 rfl
theorem p_287_9 : zP1 287 9 = some (.aload_n 0, 0, 0, 0) := zp_l zq_287 rfl
theorem p_287_10 : zP1 287 10 = some (.getfield 19, 11, 5, 0) := zp_r zq_287 rfl
theorem p_287_13 : zP1 287 13 = some (.iconst 2, 0, 0, 0) := zp_l zq_287 rfl
theorem p_287_14 : zP1 287 14 = some (.iload_n 1, 0, 0, 0) := zp_l zq_287 rfl
theorem p_287_15 : zP1 287 15 = some (.imul, 0, 0, 0) := zp_l zq_287 rfl
theorem p_287_16 : zP1 287 16 = some (.iload_n 2, 0, 0, 0) := zp_l zq_287 rfl
theorem p_287_17 : zP1 287 17 = some (.iadd, 0, 0, 0) := zp_l zq_287 rfl
theorem p_287_18 : zP1 287 18 = some (.iaload, 0, 0, 0) := zp_l zq_287 rfl
theorem p_287_19 : zP1 287 19 = some (.goto 5, 0, 0, 0) := zp_l zq_287 rfl
theorem p_287_22 : zP1 287 22 = some (.bipush (-9), 0, 0, 0) := zp_l zq_287 rfl
theorem p_287_24 : zP1 287 24 = some (.ireturn, 0, 0, 0) := zp_l zq_287 rfl
theorem b_287_0 {x1 : Int} {x2 : Int} : Z e (d + 2) 287 0 [.ref 246, .int (iI x1), .int (iI x2)] [] m = ck (((((wr 0) ≤ (wr x1)) ∧ ((wr x1) ≤ (wr ((m 246 7) - 1)))) ∧ (((wr 0) ≤ (wr x2)) ∧ ((wr x2) ≤ (wr 1)))) → (0 ≤ (wr ((2 * x1) + x2)) ∧ (wr ((2 * x1) + x2)) < 120)) (ri (if (((wr 0) ≤ (wr x1)) ∧ ((wr x1) ≤ (wr ((m 246 7) - 1)))) ∧ (((wr 0) ≤ (wr x2)) ∧ ((wr x2) ≤ (wr 1))) then (m 250 (wr ((2 * x1) + x2))) else (-9)) m) := (s_al_0 p_287_0).trans <| (s_il_1 p_287_1).trans <| (s_il_2 p_287_2).trans <| (s_cv2 (Lc := [.ref 246, .int (iI x1), .int (iI x2)]) p_287_3 (by decide) (by decide) (zM_of zq_286) ⟨Nat.le_of_ble_eq_true rfl, Nat.le_of_ble_eq_true rfl⟩ rfl (m_rc hs_246 ⟨rfl, by decide⟩)).trans <| (bd b_286_0).trans <| ri_k.trans <| Eq.trans (Eq.trans ((s_beq_f p_287_6 rfl)) <| Eq.trans (ite_cg ((s_al_0 p_287_9).trans <| (s_getr p_287_10 hs_246 (by decide) rfl).trans <| (s_const p_287_13).trans <| (s_il_1 p_287_14).trans <| (s_imul p_287_15).trans <| (s_il_2 p_287_16).trans <| (s_iadd p_287_17).trans <| (s_ald 120 p_287_18 hs_250 rfl (by decide)).trans <| ck_cg fun k1 => (s_goto p_287_19 rfl).trans <| rfl) ((s_bip p_287_22 rfl).trans <| rfl)) <| Eq.trans ck_a <| ck_cg fun _ => (phi1 (fun z0 => Z e (d + 2) 287 24 [.ref 246, .int (iI x1), .int (iI x2)] [.int (iI z0)] m))) <| ck_cg fun _ => (s_reti p_287_24 (zM_of zq_287))
-- M.alterRow
theorem p_288_0 : zP1 288 0 = some (.aload_n 0, 0, 0, 0) := zp_l zq_288 rfl
theorem p_288_1 : zP1 288 1 = some (.iload_n 1, 0, 0, 0) := zp_l zq_288 rfl
theorem p_288_2 : zP1 288 2 = some (.iload_n 2, 0, 0, 0) := zp_l zq_288 rfl
theorem p_288_3 : zP1 288 3 = some (.invokevirtual 366, 286, 2, 11) := zp_r zq_288 rfl
theorem p_288_6 : zP1 288 6 = some (.ifCond .ne 6, 0, 0, 0) := zp_l zq_288 rfl
theorem p_288_9 : zP1 288 9 = some (.bipush (-9), 0, 0, 0) := zp_l zq_288 rfl
theorem p_288_11 : zP1 288 11 = some (.ireturn, 0, 0, 0) := zp_l zq_288 rfl
theorem p_288_12 : zP1 288 12 = some (.aload_n 0, 0, 0, 0) := zp_l zq_288 rfl
theorem p_288_13 : zP1 288 13 = some (.getfield 19, 11, 5, 0) := zp_r zq_288 rfl
theorem p_288_16 : zP1 288 16 = some (.iconst 2, 0, 0, 0) := zp_l zq_288 rfl
theorem p_288_17 : zP1 288 17 = some (.iload_n 1, 0, 0, 0) := zp_l zq_288 rfl
theorem p_288_18 : zP1 288 18 = some (.imul, 0, 0, 0) := zp_l zq_288 rfl
theorem p_288_19 : zP1 288 19 = some (.iload_n 2, 0, 0, 0) := zp_l zq_288 rfl
theorem p_288_20 : zP1 288 20 = some (.iadd, 0, 0, 0) := zp_l zq_288 rfl
theorem p_288_21 : zP1 288 21 = some (.iaload, 0, 0, 0) := zp_l zq_288 rfl
theorem p_288_22 : zP1 288 22 = some (.istore 4, 0, 0, 0) := zp_l zq_288 rfl
theorem p_288_24 : zP1 288 24 = some (.aload_n 0, 0, 0, 0) := zp_l zq_288 rfl
theorem p_288_25 : zP1 288 25 = some (.getfield 19, 11, 5, 0) := zp_r zq_288 rfl
theorem p_288_28 : zP1 288 28 = some (.iconst 2, 0, 0, 0) := zp_l zq_288 rfl
theorem p_288_29 : zP1 288 29 = some (.iload_n 1, 0, 0, 0) := zp_l zq_288 rfl
theorem p_288_30 : zP1 288 30 = some (.imul, 0, 0, 0) := zp_l zq_288 rfl
theorem p_288_31 : zP1 288 31 = some (.iload_n 2, 0, 0, 0) := zp_l zq_288 rfl
theorem p_288_32 : zP1 288 32 = some (.iadd, 0, 0, 0) := zp_l zq_288 rfl
theorem p_288_33 : zP1 288 33 = some (.iload_n 3, 0, 0, 0) := zp_l zq_288 rfl
theorem p_288_34 : zP1 288 34 = some (.iastore, 0, 0, 0) := zp_l zq_288 rfl
theorem p_288_35 : zP1 288 35 = some (.iload 4, 0, 0, 0) := zp_l zq_288 rfl
theorem p_288_37 : zP1 288 37 = some (.ireturn, 0, 0, 0) := zp_l zq_288 rfl
theorem b_288_0 {x1 : Int} {x2 : Int} {x3 : Int} : Z e (d + 2) 288 0 [.ref 246, .int (iI x1), .int (iI x2), .int (iI x3), .retAddr 0] [] m = (if ¬ ((((wr 0) ≤ (wr x1)) ∧ ((wr x1) ≤ (wr ((m 246 7) - 1)))) ∧ (((wr 0) ≤ (wr x2)) ∧ ((wr x2) ≤ (wr 1)))) then ri (-9) m else ck (0 ≤ (wr ((2 * x1) + x2)) ∧ (wr ((2 * x1) + x2)) < 120) (ck (0 ≤ (wr ((2 * x1) + x2)) ∧ (wr ((2 * x1) + x2)) < 120) (ri (m 250 (wr ((2 * x1) + x2))) (um m 250 (wr ((2 * x1) + x2)) x3)))) := (s_al_0 p_288_0).trans <| (s_il_1 p_288_1).trans <| (s_il_2 p_288_2).trans <| (s_cv2 (Lc := [.ref 246, .int (iI x1), .int (iI x2)]) p_288_3 (by decide) (by decide) (zM_of zq_286) ⟨Nat.le_of_ble_eq_true rfl, Nat.le_of_ble_eq_true rfl⟩ rfl (m_rc hs_246 ⟨rfl, by decide⟩)).trans <| (bd b_286_0).trans <| ri_k.trans <| Eq.trans ((s_bne_f p_288_6 rfl)) <| ite_cg ((s_bip p_288_9 rfl).trans <| (s_reti p_288_11 (zM_of zq_288))) ((s_al_0 p_288_12).trans <| (s_getr p_288_13 hs_246 (by decide) rfl).trans <| (s_const p_288_16).trans <| (s_il_1 p_288_17).trans <| (s_imul p_288_18).trans <| (s_il_2 p_288_19).trans <| (s_iadd p_288_20).trans <| (s_ald 120 p_288_21 hs_250 rfl (by decide)).trans <| ck_cg fun k1 => (s_is_4 cat_i p_288_22).trans <| (s_al_0 p_288_24).trans <| (s_getr p_288_25 hs_246 (by decide) rfl).trans <| (s_const p_288_28).trans <| (s_il_1 p_288_29).trans <| (s_imul p_288_30).trans <| (s_il_2 p_288_31).trans <| (s_iadd p_288_32).trans <| (s_il_3 p_288_33).trans <| (s_ast 120 p_288_34 hs_250 rfl).trans <| ck_cg fun k2 => (s_il_4 p_288_35).trans <| (s_reti p_288_37 (zM_of zq_288)))
-- M.dropRow
theorem p_289_0 : zP1 289 0 = some (.aload_n 0, 0, 0, 0) := zp_l zq_289 rfl
theorem p_289_1 : zP1 289 1 = some (.getfield 363, 11, 7, 0) := zp_r zq_289 rfl
theorem p_289_4 : zP1 289 4 = some (.ifCond .ne 6, 0, 0, 0) := zp_l zq_289 rfl
theorem p_289_7 : zP1 289 7 = some (.bipush (-3), 0, 0, 0) := zp_l zq_289 rfl
theorem p_289_9 : zP1 289 9 = some (.ireturn, 0, 0, 0) := zp_l zq_289 rfl
theorem p_289_10 : zP1 289 10 = some (.aload_n 0, 0, 0, 0) := zp_l zq_289 rfl
theorem p_289_11 : zP1 289 11 = some (.dup, 0, 0, 0) := zp_l zq_289 rfl
theorem p_289_12 : zP1 289 12 = some (.getfield 363, 11, 7, 0) := zp_r zq_289 rfl
theorem p_289_15 : zP1 289 15 = some (.iconst 1, 0, 0, 0) := zp_l zq_289 rfl
theorem p_289_16 : zP1 289 16 = some (.isub, 0, 0, 0) := zp_l zq_289 rfl
theorem p_289_17 : zP1 289 17 = some (.putfield 363, 11, 7, 0) := zp_r zq_289 rfl
theorem p_289_20 : zP1 289 20 = some (.aload_n 0, 0, 0, 0) := zp_l zq_289 rfl
theorem p_289_21 : zP1 289 21 = some (.getfield 363, 11, 7, 0) := zp_r zq_289 rfl
theorem p_289_24 : zP1 289 24 = some (.ireturn, 0, 0, 0) := zp_l zq_289 rfl
theorem b_289_0 : Z e d 289 0 [.ref 246] [] m = (if (wr (m 246 7)) = 0 then ri (-3) m else ri ((um m 246 7 ((m 246 7) - 1)) 246 7) (um m 246 7 ((m 246 7) - 1))) := (s_al_0 p_289_0).trans <| (s_get p_289_1 hs_246 (by decide) rfl).trans <| Eq.trans ((s_z_ne_f p_289_4 rfl rfl)) <| ite_cg ((s_bip p_289_7 rfl).trans <| (s_reti p_289_9 (zM_of zq_289))) ((s_al_0 p_289_10).trans <| (s_dup cat_r p_289_11).trans <| (s_get p_289_12 hs_246 (by decide) rfl).trans <| (s_const p_289_15).trans <| (s_isub p_289_16).trans <| (s_put p_289_17 hs_246 (by decide) rfl).trans <| (s_al_0 p_289_20).trans <| (s_get p_289_21 hs_246 (by decide) rfl).trans <| (s_reti p_289_24 (zM_of zq_289)))
-- M.judge
theorem p_290_0 : zP1 290 0 = some (.aload_n 0, 0, 0, 0) := zp_l zq_290 rfl
theorem p_290_1 : zP1 290 1 = some (.getfield 25, 11, 8, 0) := zp_r zq_290 rfl
theorem p_290_4 : zP1 290 4 = some (.ifCond .ge 6, 0, 0, 0) := zp_l zq_290 rfl
theorem p_290_7 : zP1 290 7 = some (.bipush (-3), 0, 0, 0) := zp_l zq_290 rfl
theorem p_290_9 : zP1 290 9 = some (.ireturn, 0, 0, 0) := zp_l zq_290 rfl
theorem p_290_10 : zP1 290 10 = some (.iconst 0, 0, 0, 0) := zp_l zq_290 rfl
theorem p_290_11 : zP1 290 11 = some (.istore_n 1, 0, 0, 0) := zp_l zq_290 rfl
theorem p_290_12 : zP1 290 12 = some (.iload_n 1, 0, 0, 0) := zp_l zq_290 rfl
theorem p_290_13 : zP1 290 13 = some (.iconst 2, 0, 0, 0) := zp_l zq_290 rfl
theorem p_290_14 : zP1 290 14 = some (.aload_n 0, 0, 0, 0) := zp_l zq_290 rfl
theorem p_290_15 : zP1 290 15 = some (.getfield 363, 11, 7, 0) := zp_r zq_290 rfl
theorem p_290_18 : zP1 290 18 = some (.imul, 0, 0, 0) := zp_l zq_290 rfl
theorem p_290_19 : zP1 290 19 = some (.if_icmp .ge 30, 0, 0, 0) := zp_l zq_290 rfl
theorem p_290_22 : zP1 290 22 = some (.aload_n 0, 0, 0, 0) := zp_l zq_290 rfl
theorem p_290_23 : zP1 290 23 = some (.getfield 19, 11, 5, 0) := zp_r zq_290 rfl
theorem p_290_26 : zP1 290 26 = some (.iload_n 1, 0, 0, 0) := zp_l zq_290 rfl
theorem p_290_27 : zP1 290 27 = some (.iaload, 0, 0, 0) := zp_l zq_290 rfl
theorem p_290_28 : zP1 290 28 = some (.aload_n 0, 0, 0, 0) := zp_l zq_290 rfl
theorem p_290_29 : zP1 290 29 = some (.getfield 22, 11, 6, 0) := zp_r zq_290 rfl
theorem p_290_32 : zP1 290 32 = some (.iload_n 1, 0, 0, 0) := zp_l zq_290 rfl
theorem p_290_33 : zP1 290 33 = some (.iaload, 0, 0, 0) := zp_l zq_290 rfl
theorem p_290_34 : zP1 290 34 = some (.if_icmp .eq 9, 0, 0, 0) := zp_l zq_290 rfl
theorem p_290_37 : zP1 290 37 = some (.iload_n 1, 0, 0, 0) := zp_l zq_290 rfl
theorem p_290_38 : zP1 290 38 = some (.iconst 2, 0, 0, 0) := zp_l zq_290 rfl
theorem p_290_39 : zP1 290 39 = some (.idiv, 0, 0, 0) := zp_l zq_290 rfl
theorem p_290_40 : zP1 290 40 = some (.iconst 1, 0, 0, 0) := zp_l zq_290 rfl
theorem p_290_41 : zP1 290 41 = some (.iadd, 0, 0, 0) := zp_l zq_290 rfl
theorem p_290_42 : zP1 290 42 = some (.ireturn, 0, 0, 0) := zp_l zq_290 rfl
theorem p_290_43 : zP1 290 43 = some (.iinc 1 1, 0, 0, 0) := zp_l zq_290 rfl
theorem p_290_46 : zP1 290 46 = some (.goto (-34), 0, 0, 0) := zp_l zq_290 rfl
theorem p_290_49 : zP1 290 49 = some (.aload_n 0, 0, 0, 0) := zp_l zq_290 rfl
theorem p_290_50 : zP1 290 50 = some (.getfield 363, 11, 7, 0) := zp_r zq_290 rfl
theorem p_290_53 : zP1 290 53 = some (.aload_n 0, 0, 0, 0) := zp_l zq_290 rfl
theorem p_290_54 : zP1 290 54 = some (.getfield 25, 11, 8, 0) := zp_r zq_290 rfl
theorem p_290_57 : zP1 290 57 = some (.if_icmp .ge 12, 0, 0, 0) := zp_l zq_290 rfl
theorem p_290_60 : zP1 290 60 = some (.aload_n 0, 0, 0, 0) := zp_l zq_290 rfl
theorem p_290_61 : zP1 290 61 = some (.getfield 363, 11, 7, 0) := zp_r zq_290 rfl
theorem p_290_64 : zP1 290 64 = some (.iconst 1, 0, 0, 0) := zp_l zq_290 rfl
theorem p_290_65 : zP1 290 65 = some (.iadd, 0, 0, 0) := zp_l zq_290 rfl
theorem p_290_66 : zP1 290 66 = some (.goto 4, 0, 0, 0) := zp_l zq_290 rfl
theorem p_290_69 : zP1 290 69 = some (.iconst 0, 0, 0, 0) := zp_l zq_290 rfl
theorem p_290_70 : zP1 290 70 = some (.ireturn, 0, 0, 0) := zp_l zq_290 rfl
theorem b_290_0 : Z e d 290 0 [.ref 246, .retAddr 0] [] m = (if (wr (m 246 8)) < 0 then ri (-3) m else Z e d 290 12 [.ref 246, .int (iI 0)] [] m) := (s_al_0 p_290_0).trans <| (s_get p_290_1 hs_246 (by decide) rfl).trans <| Eq.trans ((s_z_ge_f p_290_4 rfl rfl)) <| ite_cg ((s_bip p_290_7 rfl).trans <| (s_reti p_290_9 (zM_of zq_290))) ((s_const p_290_10).trans <| (s_is_1 cat_r p_290_11).trans <| rfl)
theorem b_290_12 {x1 : Int} : Z e d 290 12 [.ref 246, .int (iI x1)] [] m = (if (wr x1) < (wr (2 * (m 246 7))) then ck (0 ≤ (wr x1) ∧ (wr x1) < 120) (ck (0 ≤ (wr x1) ∧ (wr x1) < 120) ((if ¬ (wr (m 250 (wr x1))) = (wr (m 251 (wr x1))) then ri ((jdiv x1 2) + 1) m else Z e d 290 12 [.ref 246, .int (iI (x1 + 1))] [] m))) else ri (if (wr (m 246 7)) < (wr (m 246 8)) then ((m 246 7) + 1) else 0) m) := (s_il_1 p_290_12).trans <| (s_const p_290_13).trans <| (s_al_0 p_290_14).trans <| (s_get p_290_15 hs_246 (by decide) rfl).trans <| (s_imul p_290_18).trans <| Eq.trans ((s_c_ge_f p_290_19 rfl rfl rfl)) <| ite_cg ((s_al_0 p_290_22).trans <| (s_getr p_290_23 hs_246 (by decide) rfl).trans <| (s_il_1 p_290_26).trans <| (s_ald 120 p_290_27 hs_250 rfl (by decide)).trans <| ck_cg fun k1 => (s_al_0 p_290_28).trans <| (s_getr p_290_29 hs_246 (by decide) rfl).trans <| (s_il_1 p_290_32).trans <| (s_ald 120 p_290_33 hs_251 rfl (by decide)).trans <| ck_cg fun k2 => Eq.trans ((s_c_eq_f p_290_34 rfl rfl rfl)) <| ite_cg ((s_il_1 p_290_37).trans <| (s_const p_290_38).trans <| (s_idivc p_290_39 (by decide)).trans <| (s_const p_290_40).trans <| (s_iadd p_290_41).trans <| (s_reti p_290_42 (zM_of zq_290))) ((s_inc_1 cat_r p_290_43).trans <| (s_goto p_290_46 rfl).trans <| rfl)) ((s_al_0 p_290_49).trans <| (s_get p_290_50 hs_246 (by decide) rfl).trans <| (s_al_0 p_290_53).trans <| (s_get p_290_54 hs_246 (by decide) rfl).trans <| Eq.trans (Eq.trans ((s_c_ge_f p_290_57 rfl rfl rfl)) <| Eq.trans (ite_cg ((s_al_0 p_290_60).trans <| (s_get p_290_61 hs_246 (by decide) rfl).trans <| (s_const p_290_64).trans <| (s_iadd p_290_65).trans <| (s_goto p_290_66 rfl).trans <| rfl) ((s_const p_290_69).trans <| rfl)) (phi1 (fun z0 => Z e d 290 70 [.ref 246, .int (iI x1)] [.int (iI z0)] m))) <| (s_reti p_290_70 (zM_of zq_290)))
-- M.gap
theorem p_291_0 : zP1 291 0 = some (.iload_n 1, 0, 0, 0) := zp_l zq_291 rfl
theorem p_291_1 : zP1 291 1 = some (.iconst 0, 0, 0, 0) := zp_l zq_291 rfl
theorem p_291_2 : zP1 291 2 = some (.aload_n 0, 0, 0, 0) := zp_l zq_291 rfl
theorem p_291_3 : zP1 291 3 = some (.getfield 9, 11, 0, 0) := zp_r zq_291 rfl
theorem p_291_6 : zP1 291 6 = some (.iconst 2, 0, 0, 0) := zp_l zq_291 rfl
theorem p_291_7 : zP1 291 7 = some (.iaload, 0, 0, 0) := zp_l zq_291 rfl
theorem p_291_8 : zP1 291 8 = some (.iconst 1, 0, 0, 0) := zp_l zq_291 rfl
theorem p_291_9 : zP1 291 9 = some (.isub, 0, 0, 0) := zp_l zq_291 rfl
theorem p_291_10 : zP1 291 10 = some (.invokestatic 100, 199, 3, 0) := zp_r zq_291 rfl
theorem p_291_13 : zP1 291 13 = some (.ifCond .ne 5, 0, 0, 0) := zp_l zq_291 rfl
theorem p_291_16 : zP1 291 16 = some (.iconst (-1), 0, 0, 0) := zp_l zq_291 rfl
theorem p_291_17 : zP1 291 17 = some (.ireturn, 0, 0, 0) := zp_l zq_291 rfl
theorem p_291_18 : zP1 291 18 = some (.iconst 0, 0, 0, 0) := zp_l zq_291 rfl
theorem p_291_19 : zP1 291 19 = some (.istore_n 2, 0, 0, 0) := zp_l zq_291 rfl
theorem p_291_20 : zP1 291 20 = some (.iconst 0, 0, 0, 0) := zp_l zq_291 rfl
theorem p_291_21 : zP1 291 21 = some (.istore_n 3, 0, 0, 0) := zp_l zq_291 rfl
theorem p_291_22 : zP1 291 22 = some (.iconst 0, 0, 0, 0) := zp_l zq_291 rfl
theorem p_291_23 : zP1 291 23 = some (.istore 4, 0, 0, 0) := zp_l zq_291 rfl
theorem p_291_25 : zP1 291 25 = some (.iload 4, 0, 0, 0) := zp_l zq_291 rfl
theorem p_291_27 : zP1 291 27 = some (.bipush 48, 0, 0, 0) := zp_l zq_291 rfl
theorem p_291_29 : zP1 291 29 = some (.if_icmp .ge 52, 0, 0, 0) := zp_l zq_291 rfl
theorem p_291_32 : zP1 291 32 = some (.aload_n 0, 0, 0, 0) := zp_l zq_291 rfl
theorem p_291_33 : zP1 291 33 = some (.aload_n 0, 0, 0, 0) := zp_l zq_291 rfl
theorem p_291_34 : zP1 291 34 = some (.getfield 9, 11, 0, 0) := zp_r zq_291 rfl
theorem p_291_37 : zP1 291 37 = some (.sipush 254, 0, 0, 0) := zp_l zq_291 rfl
theorem p_291_40 : zP1 291 40 = some (.iconst 2, 0, 0, 0) := zp_l zq_291 rfl
theorem p_291_41 : zP1 291 41 = some (.iload_n 1, 0, 0, 0) := zp_l zq_291 rfl
theorem p_291_42 : zP1 291 42 = some (.imul, 0, 0, 0) := zp_l zq_291 rfl
theorem p_291_43 : zP1 291 43 = some (.iadd, 0, 0, 0) := zp_l zq_291 rfl
theorem p_291_44 : zP1 291 44 = some (.iaload, 0, 0, 0) := zp_l zq_291 rfl
theorem p_291_45 : zP1 291 45 = some (.iload 4, 0, 0, 0) := zp_l zq_291 rfl
theorem p_291_47 : zP1 291 47 = some (.bipush 24, 0, 0, 0) := zp_l zq_291 rfl
theorem p_291_49 : zP1 291 49 = some (.irem, 0, 0, 0) := zp_l zq_291 rfl
theorem p_291_50 : zP1 291 50 = some (.invokevirtual 344, 277, 2, 11) := zp_r zq_291 rfl
theorem p_291_53 : zP1 291 53 = some (.ifCond .ne 9, 0, 0, 0) := zp_l zq_291 rfl
theorem p_291_56 : zP1 291 56 = some (.iload_n 3, 0, 0, 0) := zp_l zq_291 rfl
theorem p_291_57 : zP1 291 57 = some (.iconst 1, 0, 0, 0) := zp_l zq_291 rfl
theorem p_291_58 : zP1 291 58 = some (.iadd, 0, 0, 0) := zp_l zq_291 rfl
theorem p_291_59 : zP1 291 59 = some (.goto 4, 0, 0, 0) := zp_l zq_291 rfl
theorem p_291_62 : zP1 291 62 = some (.iconst 0, 0, 0, 0) := zp_l zq_291 rfl
theorem p_291_63 : zP1 291 63 = some (.istore_n 3, 0, 0, 0) := zp_l zq_291 rfl
theorem p_291_64 : zP1 291 64 = some (.iload_n 2, 0, 0, 0) := zp_l zq_291 rfl
theorem p_291_65 : zP1 291 65 = some (.bipush 24, 0, 0, 0) := zp_l zq_291 rfl
theorem p_291_67 : zP1 291 67 = some (.iload_n 3, 0, 0, 0) := zp_l zq_291 rfl
theorem p_291_68 : zP1 291 68 = some (.invokestatic 356, 325, 2, 0) := zp_r zq_291 rfl
theorem p_291_71 : zP1 291 71 = some (.invokestatic 166, 324, 2, 0) := zp_r zq_291 rfl
theorem p_291_74 : zP1 291 74 = some (.istore_n 2, 0, 0, 0) := zp_l zq_291 rfl
theorem p_291_75 : zP1 291 75 = some (.iinc 4 1, 0, 0, 0) := zp_l zq_291 rfl
theorem p_291_78 : zP1 291 78 = some (.goto (-53), 0, 0, 0) := zp_l zq_291 rfl
theorem p_291_81 : zP1 291 81 = some (.iload_n 2, 0, 0, 0) := zp_l zq_291 rfl
theorem p_291_82 : zP1 291 82 = some (.ireturn, 0, 0, 0) := zp_l zq_291 rfl
theorem b_291_0 {x1 : Int} : Z e (d + 1) 291 0 [.ref 246, .int (iI x1), .retAddr 0, .retAddr 0, .retAddr 0] [] m = (if ¬ (((wr 0) ≤ (wr x1)) ∧ ((wr x1) ≤ (wr ((m 247 2) - 1)))) then ri (-1) m else Z e (d + 1) 291 25 [.ref 246, .int (iI x1), .int (iI 0), .int (iI 0), .int (iI 0)] [] m) := (s_il_1 p_291_0).trans <| (s_const p_291_1).trans <| (s_al_0 p_291_2).trans <| (s_getr p_291_3 hs_246 (by decide) rfl).trans <| (s_const p_291_6).trans <| (s_aldc p_291_7 hs_247 (by decide) wl_2 (by decide)).trans <| (s_const p_291_8).trans <| (s_isub p_291_9).trans <| (s_cs3 (Lc := [.int (iI x1), .int (iI 0), .int (iI ((m 247 2) - 1))]) p_291_10 (by decide) (zM_of zq_199) ⟨Nat.le_of_ble_eq_true rfl, Nat.le_of_ble_eq_true rfl⟩ rfl).trans <| (bd b_199_0).trans <| ri_k.trans <| Eq.trans ((s_bne_f p_291_13 rfl)) <| ite_cg ((s_const p_291_16).trans <| (s_reti p_291_17 (zM_of zq_291))) ((s_const p_291_18).trans <| (s_is_2 cat_i p_291_19).trans <| (s_const p_291_20).trans <| (s_is_3 cat_i p_291_21).trans <| (s_const p_291_22).trans <| (s_is_4 cat_i p_291_23).trans <| rfl)
theorem b_291_25 {x1 : Int} {x2 : Int} {x3 : Int} {x4 : Int} : Z e (d + 1) 291 25 [.ref 246, .int (iI x1), .int (iI x2), .int (iI x3), .int (iI x4)] [] m = (if (wr x4) < 48 then ck (0 ≤ (wr (254 + (2 * x1))) ∧ (wr (254 + (2 * x1))) < 2737) ((Z e d 277 0 [.ref 246, .int (iI (m 247 (wr (254 + (2 * x1))))), .int (iI (jrem x4 24)), .retAddr 0, .retAddr 0, .retAddr 0, .retAddr 0, .retAddr 0] [] m).bind (ZK e (d + 1) 291 53 [.ref 246, .int (iI x1), .int (iI x2), .int (iI x3), .int (iI x4)] [] m)) else ri x2 m) := (s_il_4 p_291_25).trans <| (s_bip p_291_27 rfl).trans <| Eq.trans ((s_c_ge_f p_291_29 rfl rfl wl_48)) <| ite_cg ((s_al_0 p_291_32).trans <| (s_al_0 p_291_33).trans <| (s_getr p_291_34 hs_246 (by decide) rfl).trans <| (s_sip p_291_37 rfl).trans <| (s_const p_291_40).trans <| (s_il_1 p_291_41).trans <| (s_imul p_291_42).trans <| (s_iadd p_291_43).trans <| (s_ald 2737 p_291_44 hs_247 rfl (by decide)).trans <| ck_cg fun k2 => (s_il_4 p_291_45).trans <| (s_bip p_291_47 rfl).trans <| (s_iremc p_291_49 (by decide)).trans <| (s_cv2 (Lc := [.ref 246, .int (iI (m 247 (wr (254 + (2 * x1))))), .int (iI (jrem x4 24)), .retAddr 0, .retAddr 0, .retAddr 0, .retAddr 0, .retAddr 0]) p_291_50 (by decide) (by decide) (zM_of zq_277) ⟨Nat.le_of_ble_eq_true rfl, Nat.le_of_ble_eq_true rfl⟩ rfl (m_rc hs_246 ⟨rfl, by decide⟩))) ((s_il_2 p_291_81).trans <| (s_reti p_291_82 (zM_of zq_291)))
theorem b_291_53 {x1 : Int} {x2 : Int} {x3 : Int} {x4 : Int} {xs0 : Int} : Z e (d + 1) 291 53 [.ref 246, .int (iI x1), .int (iI x2), .int (iI x3), .int (iI x4)] [.int (iI xs0)] m = Z e (d + 1) 291 25 [.ref 246, .int (iI x1), .int (iI (if (wr (if (wr 24) ≤ (wr (if (wr xs0) = 0 then (x3 + 1) else 0)) then 24 else (if (wr xs0) = 0 then (x3 + 1) else 0))) ≤ (wr x2) then x2 else (if (wr 24) ≤ (wr (if (wr xs0) = 0 then (x3 + 1) else 0)) then 24 else (if (wr xs0) = 0 then (x3 + 1) else 0)))), .int (iI (if (wr xs0) = 0 then (x3 + 1) else 0)), .int (iI (x4 + 1))] [] m := Eq.trans (Eq.trans ((s_z_ne_f p_291_53 rfl rfl)) <| Eq.trans (ite_cg ((s_il_3 p_291_56).trans <| (s_const p_291_57).trans <| (s_iadd p_291_58).trans <| (s_goto p_291_59 rfl).trans <| rfl) ((s_const p_291_62).trans <| rfl)) (phi1 (fun z0 => Z e (d + 1) 291 63 [.ref 246, .int (iI x1), .int (iI x2), .int (iI x3), .int (iI x4)] [.int (iI z0)] m))) <| (s_is_3 cat_i p_291_63).trans <| (s_il_2 p_291_64).trans <| (s_bip p_291_65 rfl).trans <| (s_il_3 p_291_67).trans <| (s_cs2 (Lc := [.int (iI 24), .int (iI (if (wr xs0) = 0 then (x3 + 1) else 0))]) p_291_68 (by decide) (zM_of zq_325) ⟨Nat.le_of_ble_eq_true rfl, Nat.le_of_ble_eq_true rfl⟩ rfl).trans <| (bd b_325_0).trans <| ri_k.trans <| (s_cs2 (Lc := [.int (iI x2), .int (iI (if (wr 24) ≤ (wr (if (wr xs0) = 0 then (x3 + 1) else 0)) then 24 else (if (wr xs0) = 0 then (x3 + 1) else 0)))]) p_291_71 (by decide) (zM_of zq_324) ⟨Nat.le_of_ble_eq_true rfl, Nat.le_of_ble_eq_true rfl⟩ rfl).trans <| (bd b_324_0).trans <| ri_k.trans <| (s_is_2 cat_i p_291_74).trans <| (s_inc_4 cat_i p_291_75).trans <| (s_goto p_291_78 rfl).trans <| rfl
-- M.watch
theorem p_292_0 : zP1 292 0 = some (.iconst 1, 0, 0, 0) := zp_l zq_292 rfl
theorem p_292_1 : zP1 292 1 = some (.aload_n 0, 0, 0, 0) := zp_l zq_292 rfl
theorem p_292_2 : zP1 292 2 = some (.getfield 9, 11, 0, 0) := zp_r zq_292 rfl
theorem p_292_5 : zP1 292 5 = some (.bipush 6, 0, 0, 0) := zp_l zq_292 rfl
theorem p_292_7 : zP1 292 7 = some (.iaload, 0, 0, 0) := zp_l zq_292 rfl
theorem p_292_8 : zP1 292 8 = some (.ishl, 0, 0, 0) := zp_l zq_292 rfl
theorem p_292_9 : zP1 292 9 = some (.iconst 1, 0, 0, 0) := zp_l zq_292 rfl
theorem p_292_10 : zP1 292 10 = some (.isub, 0, 0, 0) := zp_l zq_292 rfl
theorem p_292_11 : zP1 292 11 = some (.istore_n 1, 0, 0, 0) := zp_l zq_292 rfl
theorem p_292_12 : zP1 292 12 = some (.iload_n 1, 0, 0, 0) := zp_l zq_292 rfl
theorem p_292_13 : zP1 292 13 = some (.istore_n 2, 0, 0, 0) := zp_l zq_292 rfl
theorem p_292_14 : zP1 292 14 = some (.iload_n 2, 0, 0, 0) := zp_l zq_292 rfl
theorem p_292_15 : zP1 292 15 = some (.ifCond .lt 108, 0, 0, 0) := zp_l zq_292 rfl
theorem p_292_18 : zP1 292 18 = some (.iload_n 2, 0, 0, 0) := zp_l zq_292 rfl
theorem p_292_19 : zP1 292 19 = some (.invokestatic 369, 207, 1, 0) := zp_r zq_292 rfl
theorem p_292_22 : zP1 292 22 = some (.iload_n 1, 0, 0, 0) := zp_l zq_292 rfl
theorem p_292_23 : zP1 292 23 = some (.invokestatic 369, 207, 1, 0) := zp_r zq_292 rfl
theorem p_292_26 : zP1 292 26 = some (.if_icmp .gt 7, 0, 0, 0) := zp_l zq_292 rfl
theorem p_292_29 : zP1 292 29 = some (.iconst 1, 0, 0, 0) := zp_l zq_292 rfl
theorem p_292_30 : zP1 292 30 = some (.goto 4, 0, 0, 0) := zp_l zq_292 rfl
theorem p_292_33 : zP1 292 33 = some (.iconst 0, 0, 0, 0) := zp_l zq_292 rfl
theorem p_292_34 : zP1 292 34 = some (.istore_n 3, 0, 0, 0) := zp_l zq_292 rfl
theorem p_292_35 : zP1 292 35 = some (.iconst 0, 0, 0, 0) := zp_l zq_292 rfl
theorem p_292_36 : zP1 292 36 = some (.istore 4, 0, 0, 0) := zp_l zq_292 rfl
theorem p_292_38 : zP1 292 38 = some (.iload_n 3, 0, 0, 0) := zp_l zq_292 rfl
theorem p_292_39 : zP1 292 39 = some (.ifCond .eq 68, 0, 0, 0) := zp_l zq_292 rfl
theorem p_292_42 : zP1 292 42 = some (.iload 4, 0, 0, 0) := zp_l zq_292 rfl
theorem p_292_44 : zP1 292 44 = some (.bipush 24, 0, 0, 0) := zp_l zq_292 rfl
theorem p_292_46 : zP1 292 46 = some (.aload_n 0, 0, 0, 0) := zp_l zq_292 rfl
theorem p_292_47 : zP1 292 47 = some (.getfield 9, 11, 0, 0) := zp_r zq_292 rfl
theorem p_292_50 : zP1 292 50 = some (.iconst 2, 0, 0, 0) := zp_l zq_292 rfl
theorem p_292_51 : zP1 292 51 = some (.iaload, 0, 0, 0) := zp_l zq_292 rfl
theorem p_292_52 : zP1 292 52 = some (.imul, 0, 0, 0) := zp_l zq_292 rfl
theorem p_292_53 : zP1 292 53 = some (.if_icmp .ge 54, 0, 0, 0) := zp_l zq_292 rfl
theorem p_292_56 : zP1 292 56 = some (.aload_n 0, 0, 0, 0) := zp_l zq_292 rfl
theorem p_292_57 : zP1 292 57 = some (.aload_n 0, 0, 0, 0) := zp_l zq_292 rfl
theorem p_292_58 : zP1 292 58 = some (.getfield 9, 11, 0, 0) := zp_r zq_292 rfl
theorem p_292_61 : zP1 292 61 = some (.sipush 254, 0, 0, 0) := zp_l zq_292 rfl
theorem p_292_64 : zP1 292 64 = some (.iconst 2, 0, 0, 0) := zp_l zq_292 rfl
theorem p_292_65 : zP1 292 65 = some (.iload 4, 0, 0, 0) := zp_l zq_292 rfl
theorem p_292_67 : zP1 292 67 = some (.bipush 24, 0, 0, 0) := zp_l zq_292 rfl
theorem p_292_69 : zP1 292 69 = some (.idiv, 0, 0, 0) := zp_l zq_292 rfl
theorem p_292_70 : zP1 292 70 = some (.imul, 0, 0, 0) := zp_l zq_292 rfl
theorem p_292_71 : zP1 292 71 = some (.iadd, 0, 0, 0) := zp_l zq_292 rfl
theorem p_292_72 : zP1 292 72 = some (.iaload, 0, 0, 0) := zp_l zq_292 rfl
theorem p_292_73 : zP1 292 73 = some (.iload 4, 0, 0, 0) := zp_l zq_292 rfl
theorem p_292_75 : zP1 292 75 = some (.bipush 24, 0, 0, 0) := zp_l zq_292 rfl
theorem p_292_77 : zP1 292 77 = some (.irem, 0, 0, 0) := zp_l zq_292 rfl
theorem p_292_78 : zP1 292 78 = some (.invokevirtual 344, 277, 2, 11) := zp_r zq_292 rfl
theorem p_292_81 : zP1 292 81 = some (.istore 5, 0, 0, 0) := zp_l zq_292 rfl
theorem p_292_83 : zP1 292 83 = some (.iload 5, 0, 0, 0) := zp_l zq_292 rfl
theorem p_292_85 : zP1 292 85 = some (.ifCond .eq 10, 0, 0, 0) := zp_l zq_292 rfl
theorem p_292_88 : zP1 292 88 = some (.iload 5, 0, 0, 0) := zp_l zq_292 rfl
theorem p_292_90 : zP1 292 90 = some (.iload_n 2, 0, 0, 0) := zp_l zq_292 rfl
theorem p_292_91 : zP1 292 91 = some (.iand, 0, 0, 0) := zp_l zq_292 rfl
theorem p_292_92 : zP1 292 92 = some (.ifCond .eq 7, 0, 0, 0) := zp_l zq_292 rfl
theorem p_292_95 : zP1 292 95 = some (.iconst 1, 0, 0, 0) := zp_l zq_292 rfl
theorem p_292_96 : zP1 292 96 = some (.goto 4, 0, 0, 0) := zp_l zq_292 rfl
theorem p_292_99 : zP1 292 99 = some (.iconst 0, 0, 0, 0) := zp_l zq_292 rfl
theorem p_292_100 : zP1 292 100 = some (.istore_n 3, 0, 0, 0) := zp_l zq_292 rfl
theorem p_292_101 : zP1 292 101 = some (.iinc 4 1, 0, 0, 0) := zp_l zq_292 rfl
theorem p_292_104 : zP1 292 104 = some (.goto (-66), 0, 0, 0) := zp_l zq_292 rfl
theorem p_292_107 : zP1 292 107 = some (.iload_n 3, 0, 0, 0) := zp_l zq_292 rfl
theorem p_292_108 : zP1 292 108 = some (.ifCond .eq 7, 0, 0, 0) := zp_l zq_292 rfl
theorem p_292_111 : zP1 292 111 = some (.iload_n 2, 0, 0, 0) := zp_l zq_292 rfl
theorem p_292_112 : zP1 292 112 = some (.goto 4, 0, 0, 0) := zp_l zq_292 rfl
theorem p_292_115 : zP1 292 115 = some (.iload_n 1, 0, 0, 0) := zp_l zq_292 rfl
theorem p_292_116 : zP1 292 116 = some (.istore_n 1, 0, 0, 0) := zp_l zq_292 rfl
theorem p_292_117 : zP1 292 117 = some (.iinc 2 (-1), 0, 0, 0) := zp_l zq_292 rfl
theorem p_292_120 : zP1 292 120 = some (.goto (-106), 0, 0, 0) := zp_l zq_292 rfl
theorem p_292_123 : zP1 292 123 = some (.iload_n 1, 0, 0, 0) := zp_l zq_292 rfl
theorem p_292_124 : zP1 292 124 = some (.ireturn, 0, 0, 0) := zp_l zq_292 rfl
theorem b_292_0 : Z e (d + 1) 292 0 [.ref 246, .retAddr 0, .retAddr 0, .retAddr 0, .retAddr 0, .retAddr 0] [] m = Z e (d + 1) 292 14 [.ref 246, .int (iI ((jshl 1 (m 247 6)) - 1)), .int (iI ((jshl 1 (m 247 6)) - 1)), .retAddr 0, .retAddr 0, .retAddr 0] [] m := (s_const p_292_0).trans <| (s_al_0 p_292_1).trans <| (s_getr p_292_2 hs_246 (by decide) rfl).trans <| (s_bip p_292_5 rfl).trans <| (s_aldc p_292_7 hs_247 (by decide) wl_6 (by decide)).trans <| (s_ishl p_292_8).trans <| (s_const p_292_9).trans <| (s_isub p_292_10).trans <| (s_is_1 cat_r p_292_11).trans <| (s_il_1 p_292_12).trans <| (s_is_2 cat_i p_292_13).trans <| rfl
theorem b_292_14 {x1 : Int} {x2 : Int} {u3 u4 u5 : Value} : Z e (d + 1) 292 14 [.ref 246, .int (iI x1), .int (iI x2), u3, u4, u5] [] m = (if 0 ≤ (wr x2) then (Z e d 207 0 [.int (iI x2), .retAddr 0, .retAddr 0] [] m).bind (ZK e (d + 1) 292 22 [.ref 246, .int (iI x1), .int (iI x2), u3, u4, u5] [] m) else ri x1 m) := (s_il_2 p_292_14).trans <| Eq.trans ((s_z_lt_f p_292_15 rfl rfl)) <| ite_cg ((s_il_2 p_292_18).trans <| (s_cs1 (Lc := [.int (iI x2), .retAddr 0, .retAddr 0]) p_292_19 (by decide) (zM_of zq_207) ⟨Nat.le_of_ble_eq_true rfl, Nat.le_of_ble_eq_true rfl⟩ rfl)) ((s_il_1 p_292_123).trans <| (s_reti p_292_124 (zM_of zq_292)))
theorem b_292_22 {x1 : Int} {x2 : Int} {xs0 : Int} {u3 u4 u5 : Value} : Z e (d + 1) 292 22 [.ref 246, .int (iI x1), .int (iI x2), u3, u4, u5] [.int (iI xs0)] m = (Z e d 207 0 [.int (iI x1), .retAddr 0, .retAddr 0] [] m).bind (ZK e (d + 1) 292 26 [.ref 246, .int (iI x1), .int (iI x2), u3, u4, u5] [.int (iI xs0)] m) := (s_il_1 p_292_22).trans <| (s_cs1 (Lc := [.int (iI x1), .retAddr 0, .retAddr 0]) p_292_23 (by decide) (zM_of zq_207) ⟨Nat.le_of_ble_eq_true rfl, Nat.le_of_ble_eq_true rfl⟩ rfl)
theorem b_292_38 {x1 : Int} {x2 : Int} {x3 : Int} {x4 : Int} {u5 : Value} : Z e (d + 1) 292 38 [.ref 246, .int (iI x1), .int (iI x2), .int (iI x3), .int (iI x4), u5] [] m = (if (¬ (wr x3) = 0) ∧ ((wr x4) < (wr (24 * (m 247 2)))) then ck (0 ≤ (wr (254 + (2 * (jdiv x4 24)))) ∧ (wr (254 + (2 * (jdiv x4 24)))) < 2737) ((Z e d 277 0 [.ref 246, .int (iI (m 247 (wr (254 + (2 * (jdiv x4 24)))))), .int (iI (jrem x4 24)), .retAddr 0, .retAddr 0, .retAddr 0, .retAddr 0, .retAddr 0] [] m).bind (ZK e (d + 1) 292 81 [.ref 246, .int (iI x1), .int (iI x2), .int (iI x3), .int (iI x4), u5] [] m)) else Z e (d + 1) 292 107 [.ref 246, .int (iI x1), .int (iI x2), .int (iI x3), .int (iI x4), u5] [] m) := (s_il_3 p_292_38).trans <| Eq.trans (Eq.trans (s_z_eq_f p_292_39 rfl rfl) <| Eq.trans (ite_cg ((s_il_4 p_292_42).trans <| (s_bip p_292_44 rfl).trans <| (s_al_0 p_292_46).trans <| (s_getr p_292_47 hs_246 (by decide) rfl).trans <| (s_const p_292_50).trans <| (s_aldc p_292_51 hs_247 (by decide) wl_2 (by decide)).trans <| (s_imul p_292_52).trans <| (s_c_ge_f p_292_53 rfl rfl rfl)) rfl) co_and) <| ite_cg ((s_al_0 p_292_56).trans <| (s_al_0 p_292_57).trans <| (s_getr p_292_58 hs_246 (by decide) rfl).trans <| (s_sip p_292_61 rfl).trans <| (s_const p_292_64).trans <| (s_il_4 p_292_65).trans <| (s_bip p_292_67 rfl).trans <| (s_idivc p_292_69 (by decide)).trans <| (s_imul p_292_70).trans <| (s_iadd p_292_71).trans <| (s_ald 2737 p_292_72 hs_247 rfl (by decide)).trans <| ck_cg fun k2 => (s_il_4 p_292_73).trans <| (s_bip p_292_75 rfl).trans <| (s_iremc p_292_77 (by decide)).trans <| (s_cv2 (Lc := [.ref 246, .int (iI (m 247 (wr (254 + (2 * (jdiv x4 24)))))), .int (iI (jrem x4 24)), .retAddr 0, .retAddr 0, .retAddr 0, .retAddr 0, .retAddr 0]) p_292_78 (by decide) (by decide) (zM_of zq_277) ⟨Nat.le_of_ble_eq_true rfl, Nat.le_of_ble_eq_true rfl⟩ rfl (m_rc hs_246 ⟨rfl, by decide⟩))) (rfl)
theorem b_292_107 {x1 : Int} {x2 : Int} {x3 : Int} {u4 u5 : Value} : Z e (d + 1) 292 107 [.ref 246, .int (iI x1), .int (iI x2), .int (iI x3), u4, u5] [] m = Z e (d + 1) 292 14 [.ref 246, .int (iI (if ¬ (wr x3) = 0 then x2 else x1)), .int (iI (x2 + (-1))), .int (iI x3), u4, u5] [] m := (s_il_3 p_292_107).trans <| Eq.trans (Eq.trans ((s_z_eq_f p_292_108 rfl rfl)) <| Eq.trans (ite_cg ((s_il_2 p_292_111).trans <| (s_goto p_292_112 rfl).trans <| rfl) ((s_il_1 p_292_115).trans <| rfl)) (phi1 (fun z0 => Z e (d + 1) 292 116 [.ref 246, .int (iI x1), .int (iI x2), .int (iI x3), u4, u5] [.int (iI z0)] m))) <| (s_is_1 cat_r p_292_116).trans <| (s_inc_2 cat_i p_292_117).trans <| (s_goto p_292_120 rfl).trans <| rfl
theorem b_292_26 {x1 : Int} {x2 : Int} {xs0 : Int} {xs1 : Int} {u3 u4 u5 : Value} : Z e (d + 1) 292 26 [.ref 246, .int (iI x1), .int (iI x2), u3, u4, u5] [.int (iI xs0), .int (iI xs1)] m = Z e (d + 1) 292 38 [.ref 246, .int (iI x1), .int (iI x2), .int (iI (if (wr xs1) ≤ (wr xs0) then 1 else 0)), .int (iI 0), u5] [] m := Eq.trans (Eq.trans ((s_c_gt_f p_292_26 rfl rfl rfl)) <| Eq.trans (ite_cg ((s_const p_292_29).trans <| (s_goto p_292_30 rfl).trans <| rfl) ((s_const p_292_33).trans <| rfl)) (phi1 (fun z0 => Z e (d + 1) 292 34 [.ref 246, .int (iI x1), .int (iI x2), u3, u4, u5] [.int (iI z0)] m))) <| (s_is_3 cat_i p_292_34).trans <| (s_const p_292_35).trans <| (s_is_4 cat_i p_292_36).trans <| rfl
theorem b_292_81 {x1 : Int} {x2 : Int} {x4 : Int} {xs0 : Int} {u3 u5 : Value} : Z e (d + 1) 292 81 [.ref 246, .int (iI x1), .int (iI x2), u3, .int (iI x4), u5] [.int (iI xs0)] m = Z e (d + 1) 292 38 [.ref 246, .int (iI x1), .int (iI x2), .int (iI (if ((wr xs0) = 0) ∨ (¬ (jand xs0 x2) = 0) then 1 else 0)), .int (iI (x4 + 1)), .int (iI xs0)] [] m := (s_is_5 cat_i p_292_81).trans <| (s_il_5 p_292_83).trans <| Eq.trans (Eq.trans (Eq.trans (s_z_eq_t p_292_85 rfl rfl) <| Eq.trans (ite_cg rfl ((s_il_5 p_292_88).trans <| (s_il_2 p_292_90).trans <| (s_iand p_292_91).trans <| (s_z_eq_f p_292_92 rfl wr_jand))) co_or) <| Eq.trans (ite_cg ((s_const p_292_95).trans <| (s_goto p_292_96 rfl).trans <| rfl) ((s_const p_292_99).trans <| rfl)) (phi1 (fun z0 => Z e (d + 1) 292 100 [.ref 246, .int (iI x1), .int (iI x2), u3, .int (iI x4), .int (iI xs0)] [.int (iI z0)] m))) <| (s_is_3 cat_i p_292_100).trans <| (s_inc_4 cat_i p_292_101).trans <| (s_goto p_292_104 rfl).trans <| rfl
-- M.bell
theorem p_293_0 : zP1 293 0 = some (.iload_n 1, 0, 0, 0) := zp_l zq_293 rfl
theorem p_293_1 : zP1 293 1 = some (.invokestatic 110, 200, 1, 0) := zp_r zq_293 rfl
theorem p_293_4 : zP1 293 4 = some (.ifCond .eq 13, 0, 0, 0) := zp_l zq_293 rfl
theorem p_293_7 : zP1 293 7 = some (.iload_n 2, 0, 0, 0) := zp_l zq_293 rfl
theorem p_293_8 : zP1 293 8 = some (.iconst 0, 0, 0, 0) := zp_l zq_293 rfl
theorem p_293_9 : zP1 293 9 = some (.bipush 18, 0, 0, 0) := zp_l zq_293 rfl
theorem p_293_11 : zP1 293 11 = some (.invokestatic 100, 199, 3, 0) := zp_r zq_293 rfl
theorem p_293_14 : zP1 293 14 = some (.ifCond .ne 5, 0, 0, 0) := zp_l zq_293 rfl
theorem p_293_17 : zP1 293 17 = some (.iconst (-1), 0, 0, 0) := zp_l zq_293 rfl
theorem p_293_18 : zP1 293 18 = some (.ireturn, 0, 0, 0) := zp_l zq_293 rfl
theorem p_293_19 : zP1 293 19 = some (.aload_n 0, 0, 0, 0) := zp_l zq_293 rfl
theorem p_293_20 : zP1 293 20 = some (.getfield 9, 11, 0, 0) := zp_r zq_293 rfl
theorem p_293_23 : zP1 293 23 = some (.bipush 7, 0, 0, 0) := zp_l zq_293 rfl
theorem p_293_25 : zP1 293 25 = some (.iaload, 0, 0, 0) := zp_l zq_293 rfl
theorem p_293_26 : zP1 293 26 = some (.istore_n 3, 0, 0, 0) := zp_l zq_293 rfl
theorem p_293_27 : zP1 293 27 = some (.iload_n 3, 0, 0, 0) := zp_l zq_293 rfl
theorem p_293_28 : zP1 293 28 = some (.bipush 8, 0, 0, 0) := zp_l zq_293 rfl
theorem p_293_30 : zP1 293 30 = some (.if_icmp .ne 6, 0, 0, 0) := zp_l zq_293 rfl
theorem p_293_33 : zP1 293 33 = some (.bipush (-2), 0, 0, 0) := zp_l zq_293 rfl
theorem p_293_35 : zP1 293 35 = some (.ireturn, 0, 0, 0) := zp_l zq_293 rfl
theorem p_293_36 : zP1 293 36 = some (.aload_n 0, 0, 0, 0) := zp_l zq_293 rfl
theorem p_293_37 : zP1 293 37 = some (.getfield 9, 11, 0, 0) := zp_r zq_293 rfl
theorem p_293_40 : zP1 293 40 = some (.sipush 1082, 0, 0, 0) := zp_l zq_293 rfl
theorem p_293_43 : zP1 293 43 = some (.iconst 3, 0, 0, 0) := zp_l zq_293 rfl
theorem p_293_44 : zP1 293 44 = some (.iload_n 3, 0, 0, 0) := zp_l zq_293 rfl
theorem p_293_45 : zP1 293 45 = some (.imul, 0, 0, 0) := zp_l zq_293 rfl
theorem p_293_46 : zP1 293 46 = some (.iadd, 0, 0, 0) := zp_l zq_293 rfl
theorem p_293_47 : zP1 293 47 = some (.iload_n 1, 0, 0, 0) := zp_l zq_293 rfl
theorem p_293_48 : zP1 293 48 = some (.iastore, 0, 0, 0) := zp_l zq_293 rfl
theorem p_293_49 : zP1 293 49 = some (.aload_n 0, 0, 0, 0) := zp_l zq_293 rfl
theorem p_293_50 : zP1 293 50 = some (.getfield 9, 11, 0, 0) := zp_r zq_293 rfl
theorem p_293_53 : zP1 293 53 = some (.sipush 1082, 0, 0, 0) := zp_l zq_293 rfl
theorem p_293_56 : zP1 293 56 = some (.iconst 3, 0, 0, 0) := zp_l zq_293 rfl
theorem p_293_57 : zP1 293 57 = some (.iload_n 3, 0, 0, 0) := zp_l zq_293 rfl
theorem p_293_58 : zP1 293 58 = some (.imul, 0, 0, 0) := zp_l zq_293 rfl
theorem p_293_59 : zP1 293 59 = some (.iadd, 0, 0, 0) := zp_l zq_293 rfl
theorem p_293_60 : zP1 293 60 = some (.iconst 1, 0, 0, 0) := zp_l zq_293 rfl
theorem p_293_61 : zP1 293 61 = some (.iadd, 0, 0, 0) := zp_l zq_293 rfl
theorem p_293_62 : zP1 293 62 = some (.aload_n 0, 0, 0, 0) := zp_l zq_293 rfl
theorem p_293_63 : zP1 293 63 = some (.getfield 9, 11, 0, 0) := zp_r zq_293 rfl
theorem p_293_66 : zP1 293 66 = some (.iconst 0, 0, 0, 0) := zp_l zq_293 rfl
theorem p_293_67 : zP1 293 67 = some (.iaload, 0, 0, 0) := zp_l zq_293 rfl
theorem p_293_68 : zP1 293 68 = some (.iastore, 0, 0, 0) := zp_l zq_293 rfl
theorem p_293_69 : zP1 293 69 = some (.aload_n 0, 0, 0, 0) := zp_l zq_293 rfl
theorem p_293_70 : zP1 293 70 = some (.getfield 9, 11, 0, 0) := zp_r zq_293 rfl
theorem p_293_73 : zP1 293 73 = some (.sipush 1082, 0, 0, 0) := zp_l zq_293 rfl
theorem p_293_76 : zP1 293 76 = some (.iconst 3, 0, 0, 0) := zp_l zq_293 rfl
theorem p_293_77 : zP1 293 77 = some (.iload_n 3, 0, 0, 0) := zp_l zq_293 rfl
theorem p_293_78 : zP1 293 78 = some (.imul, 0, 0, 0) := zp_l zq_293 rfl
theorem p_293_79 : zP1 293 79 = some (.iadd, 0, 0, 0) := zp_l zq_293 rfl
theorem p_293_80 : zP1 293 80 = some (.iconst 2, 0, 0, 0) := zp_l zq_293 rfl
theorem p_293_81 : zP1 293 81 = some (.iadd, 0, 0, 0) := zp_l zq_293 rfl
theorem p_293_82 : zP1 293 82 = some (.iload_n 2, 0, 0, 0) := zp_l zq_293 rfl
theorem p_293_83 : zP1 293 83 = some (.iastore, 0, 0, 0) := zp_l zq_293 rfl
theorem p_293_84 : zP1 293 84 = some (.iconst 0, 0, 0, 0) := zp_l zq_293 rfl
theorem p_293_85 : zP1 293 85 = some (.istore 4, 0, 0, 0) := zp_l zq_293 rfl
theorem p_293_87 : zP1 293 87 = some (.iload 4, 0, 0, 0) := zp_l zq_293 rfl
theorem p_293_89 : zP1 293 89 = some (.bipush 16, 0, 0, 0) := zp_l zq_293 rfl
theorem p_293_91 : zP1 293 91 = some (.if_icmp .ge 66, 0, 0, 0) := zp_l zq_293 rfl
theorem p_293_94 : zP1 293 94 = some (.aload_n 0, 0, 0, 0) := zp_l zq_293 rfl
theorem p_293_95 : zP1 293 95 = some (.getfield 9, 11, 0, 0) := zp_r zq_293 rfl
theorem p_293_98 : zP1 293 98 = some (.sipush 1106, 0, 0, 0) := zp_l zq_293 rfl
theorem p_293_101 : zP1 293 101 = some (.bipush 8, 0, 0, 0) := zp_l zq_293 rfl
theorem p_293_103 : zP1 293 103 = some (.iload 4, 0, 0, 0) := zp_l zq_293 rfl
theorem p_293_105 : zP1 293 105 = some (.imul, 0, 0, 0) := zp_l zq_293 rfl
theorem p_293_106 : zP1 293 106 = some (.iadd, 0, 0, 0) := zp_l zq_293 rfl
theorem p_293_107 : zP1 293 107 = some (.iload_n 3, 0, 0, 0) := zp_l zq_293 rfl
theorem p_293_108 : zP1 293 108 = some (.iadd, 0, 0, 0) := zp_l zq_293 rfl
theorem p_293_109 : zP1 293 109 = some (.iload 4, 0, 0, 0) := zp_l zq_293 rfl
theorem p_293_111 : zP1 293 111 = some (.aload_n 0, 0, 0, 0) := zp_l zq_293 rfl
theorem p_293_112 : zP1 293 112 = some (.getfield 9, 11, 0, 0) := zp_r zq_293 rfl
theorem p_293_115 : zP1 293 115 = some (.iconst 1, 0, 0, 0) := zp_l zq_293 rfl
theorem p_293_116 : zP1 293 116 = some (.iaload, 0, 0, 0) := zp_l zq_293 rfl
theorem p_293_117 : zP1 293 117 = some (.if_icmp .ge 31, 0, 0, 0) := zp_l zq_293 rfl
theorem p_293_120 : zP1 293 120 = some (.aload_n 0, 0, 0, 0) := zp_l zq_293 rfl
theorem p_293_121 : zP1 293 121 = some (.getfield 9, 11, 0, 0) := zp_r zq_293 rfl
theorem p_293_124 : zP1 293 124 = some (.iload 4, 0, 0, 0) := zp_l zq_293 rfl
theorem p_293_126 : zP1 293 126 = some (.iconst 0, 0, 0, 0) := zp_l zq_293 rfl
theorem p_293_127 : zP1 293 127 = some (.invokestatic 129, 204, 2, 0) := zp_r zq_293 rfl
theorem p_293_130 : zP1 293 130 = some (.iaload, 0, 0, 0) := zp_l zq_293 rfl
theorem p_293_131 : zP1 293 131 = some (.iload_n 1, 0, 0, 0) := zp_l zq_293 rfl
theorem p_293_132 : zP1 293 132 = some (.invokestatic 135, 206, 2, 0) := zp_r zq_293 rfl
theorem p_293_135 : zP1 293 135 = some (.iload_n 2, 0, 0, 0) := zp_l zq_293 rfl
theorem p_293_136 : zP1 293 136 = some (.if_icmp .gt 12, 0, 0, 0) := zp_l zq_293 rfl
theorem p_293_139 : zP1 293 139 = some (.aload_n 0, 0, 0, 0) := zp_l zq_293 rfl
theorem p_293_140 : zP1 293 140 = some (.getfield 9, 11, 0, 0) := zp_r zq_293 rfl
theorem p_293_143 : zP1 293 143 = some (.iconst 0, 0, 0, 0) := zp_l zq_293 rfl
theorem p_293_144 : zP1 293 144 = some (.iaload, 0, 0, 0) := zp_l zq_293 rfl
theorem p_293_145 : zP1 293 145 = some (.goto 5, 0, 0, 0) := zp_l zq_293 rfl
theorem p_293_148 : zP1 293 148 = some (.bipush (-3), 0, 0, 0) := zp_l zq_293 rfl
theorem p_293_150 : zP1 293 150 = some (.iastore, 0, 0, 0) := zp_l zq_293 rfl
theorem p_293_151 : zP1 293 151 = some (.iinc 4 1, 0, 0, 0) := zp_l zq_293 rfl
theorem p_293_154 : zP1 293 154 = some (.goto (-67), 0, 0, 0) := zp_l zq_293 rfl
theorem p_293_157 : zP1 293 157 = some (.aload_n 0, 0, 0, 0) := zp_l zq_293 rfl
theorem p_293_158 : zP1 293 158 = some (.getfield 9, 11, 0, 0) := zp_r zq_293 rfl
theorem p_293_161 : zP1 293 161 = some (.bipush 7, 0, 0, 0) := zp_l zq_293 rfl
theorem p_293_163 : zP1 293 163 = some (.dup2, 0, 0, 0) := zp_l zq_293 rfl
theorem p_293_164 : zP1 293 164 = some (.iaload, 0, 0, 0) := zp_l zq_293 rfl
theorem p_293_165 : zP1 293 165 = some (.iconst 1, 0, 0, 0) := zp_l zq_293 rfl
theorem p_293_166 : zP1 293 166 = some (.iadd, 0, 0, 0) := zp_l zq_293 rfl
theorem p_293_167 : zP1 293 167 = some (.iastore, 0, 0, 0) := zp_l zq_293 rfl
theorem p_293_168 : zP1 293 168 = some (.iload_n 3, 0, 0, 0) := zp_l zq_293 rfl
theorem p_293_169 : zP1 293 169 = some (.ireturn, 0, 0, 0) := zp_l zq_293 rfl
theorem b_293_0 {x1 : Int} {x2 : Int} : Z e (d + 2) 293 0 [.ref 246, .int (iI x1), .int (iI x2), .retAddr 0, .retAddr 0] [] m = (if (¬ (((wr 0) ≤ (wr x1)) ∧ ((wr x1) ≤ (wr 99)))) ∨ (¬ (((wr 0) ≤ (wr x2)) ∧ ((wr x2) ≤ (wr 18)))) then ri (-1) m else (if (wr (m 247 7)) = 8 then ri (-2) m else ck (0 ≤ (wr (1082 + (3 * (m 247 7)))) ∧ (wr (1082 + (3 * (m 247 7)))) < 2737) (ck (0 ≤ (wr ((1082 + (3 * (m 247 7))) + 1)) ∧ (wr ((1082 + (3 * (m 247 7))) + 1)) < 2737) (ck (0 ≤ (wr ((1082 + (3 * (m 247 7))) + 2)) ∧ (wr ((1082 + (3 * (m 247 7))) + 2)) < 2737) (Z e (d + 2) 293 87 [.ref 246, .int (iI x1), .int (iI x2), .int (iI (m 247 7)), .int (iI 0)] [] (um (um (um m 247 (wr (1082 + (3 * (m 247 7)))) x1) 247 (wr ((1082 + (3 * (m 247 7))) + 1)) ((um m 247 (wr (1082 + (3 * (m 247 7)))) x1) 247 0)) 247 (wr ((1082 + (3 * (m 247 7))) + 2)) x2)))))) := (s_il_1 p_293_0).trans <| (s_cs1 (Lc := [.int (iI x1)]) p_293_1 (by decide) (zM_of zq_200) ⟨Nat.le_of_ble_eq_true rfl, Nat.le_of_ble_eq_true rfl⟩ rfl).trans <| (bd b_200_0).trans <| ri_k.trans <| Eq.trans (Eq.trans (s_beq_t p_293_4 rfl) <| Eq.trans (ite_cg rfl ((s_il_2 p_293_7).trans <| (s_const p_293_8).trans <| (s_bip p_293_9 rfl).trans <| (s_cs3 (Lc := [.int (iI x2), .int (iI 0), .int (iI 18)]) p_293_11 (by decide) (zM_of zq_199) ⟨Nat.le_of_ble_eq_true rfl, Nat.le_of_ble_eq_true rfl⟩ rfl).trans <| (bd b_199_0).trans <| ri_k.trans <| (s_bne_f p_293_14 rfl))) co_or) <| ite_cg ((s_const p_293_17).trans <| (s_reti p_293_18 (zM_of zq_293))) ((s_al_0 p_293_19).trans <| (s_getr p_293_20 hs_246 (by decide) rfl).trans <| (s_bip p_293_23 rfl).trans <| (s_aldc p_293_25 hs_247 (by decide) wl_7 (by decide)).trans <| (s_is_3 cat_i p_293_26).trans <| (s_il_3 p_293_27).trans <| (s_bip p_293_28 rfl).trans <| Eq.trans ((s_c_ne_f p_293_30 rfl rfl wl_8)) <| ite_cg ((s_bip p_293_33 rfl).trans <| (s_reti p_293_35 (zM_of zq_293))) ((s_al_0 p_293_36).trans <| (s_getr p_293_37 hs_246 (by decide) rfl).trans <| (s_sip p_293_40 rfl).trans <| (s_const p_293_43).trans <| (s_il_3 p_293_44).trans <| (s_imul p_293_45).trans <| (s_iadd p_293_46).trans <| (s_il_1 p_293_47).trans <| (s_ast 2737 p_293_48 hs_247 rfl).trans <| ck_cg fun k1 => (s_al_0 p_293_49).trans <| (s_getr p_293_50 hs_246 (by decide) rfl).trans <| (s_sip p_293_53 rfl).trans <| (s_const p_293_56).trans <| (s_il_3 p_293_57).trans <| (s_imul p_293_58).trans <| (s_iadd p_293_59).trans <| (s_const p_293_60).trans <| (s_iadd p_293_61).trans <| (s_al_0 p_293_62).trans <| (s_getr p_293_63 hs_246 (by decide) rfl).trans <| (s_const p_293_66).trans <| (s_aldc p_293_67 hs_247 (by decide) wl_0 (by decide)).trans <| (s_ast 2737 p_293_68 hs_247 rfl).trans <| ck_cg fun k2 => (s_al_0 p_293_69).trans <| (s_getr p_293_70 hs_246 (by decide) rfl).trans <| (s_sip p_293_73 rfl).trans <| (s_const p_293_76).trans <| (s_il_3 p_293_77).trans <| (s_imul p_293_78).trans <| (s_iadd p_293_79).trans <| (s_const p_293_80).trans <| (s_iadd p_293_81).trans <| (s_il_2 p_293_82).trans <| (s_ast 2737 p_293_83 hs_247 rfl).trans <| ck_cg fun k3 => (s_const p_293_84).trans <| (s_is_4 cat_i p_293_85).trans <| rfl))
theorem b_293_87 {x1 : Int} {x2 : Int} {x3 : Int} {x4 : Int} : Z e (d + 2) 293 87 [.ref 246, .int (iI x1), .int (iI x2), .int (iI x3), .int (iI x4)] [] m = (if (wr x4) < 16 then ck (((wr x4) < (wr (m 247 1))) → (0 ≤ (wr ((110 + (9 * x4)) + 0)) ∧ (wr ((110 + (9 * x4)) + 0)) < 2737)) (ck (0 ≤ (wr ((1106 + (8 * x4)) + x3)) ∧ (wr ((1106 + (8 * x4)) + x3)) < 2737) (Z e (d + 2) 293 87 [.ref 246, .int (iI x1), .int (iI x2), .int (iI x3), .int (iI (x4 + 1))] [] (um m 247 (wr ((1106 + (8 * x4)) + x3)) (if ((wr x4) < (wr (m 247 1))) ∧ ((wr (jfar (m 247 (wr ((110 + (9 * x4)) + 0))) x1)) ≤ (wr x2)) then (m 247 0) else (-3))))) else ri x3 (um m 247 7 ((m 247 7) + 1))) := (s_il_4 p_293_87).trans <| (s_bip p_293_89 rfl).trans <| Eq.trans ((s_c_ge_f p_293_91 rfl rfl wl_16)) <| ite_cg ((s_al_0 p_293_94).trans <| (s_getr p_293_95 hs_246 (by decide) rfl).trans <| (s_sip p_293_98 rfl).trans <| (s_bip p_293_101 rfl).trans <| (s_il_4 p_293_103).trans <| (s_imul p_293_105).trans <| (s_iadd p_293_106).trans <| (s_il_3 p_293_107).trans <| (s_iadd p_293_108).trans <| (s_il_4 p_293_109).trans <| (s_al_0 p_293_111).trans <| (s_getr p_293_112 hs_246 (by decide) rfl).trans <| (s_const p_293_115).trans <| (s_aldc p_293_116 hs_247 (by decide) wl_1 (by decide)).trans <| Eq.trans (Eq.trans (Eq.trans (s_c_ge_f p_293_117 rfl rfl rfl) <| Eq.trans (ite_cg ((s_al_0 p_293_120).trans <| (s_getr p_293_121 hs_246 (by decide) rfl).trans <| (s_il_4 p_293_124).trans <| (s_const p_293_126).trans <| (s_cs2 (Lc := [.int (iI x4), .int (iI 0)]) p_293_127 (by decide) (zM_of zq_204) ⟨Nat.le_of_ble_eq_true rfl, Nat.le_of_ble_eq_true rfl⟩ rfl).trans <| (bd b_204_0).trans <| ri_k.trans <| (s_ald 2737 p_293_130 hs_247 rfl (by decide)).trans <| ck_cg fun k2 => (s_il_1 p_293_131).trans <| (s_cs2 (Lc := [.int (iI (m 247 (wr ((110 + (9 * x4)) + 0)))), .int (iI x1)]) p_293_132 (by decide) (zM_of zq_206) ⟨Nat.le_of_ble_eq_true rfl, Nat.le_of_ble_eq_true rfl⟩ rfl).trans <| (bd b_206_0).trans <| ri_k.trans <| (s_il_2 p_293_135).trans <| (s_c_gt_f p_293_136 rfl rfl rfl)) rfl) <| Eq.trans ck_a <| ck_cg fun _ => co_and) <| ck_cg fun _ => Eq.trans (ite_cg ((s_al_0 p_293_139).trans <| (s_getr p_293_140 hs_246 (by decide) rfl).trans <| (s_const p_293_143).trans <| (s_aldc p_293_144 hs_247 (by decide) wl_0 (by decide)).trans <| (s_goto p_293_145 rfl).trans <| rfl) ((s_bip p_293_148 rfl).trans <| rfl)) (phi1 (fun z0 => Z e (d + 2) 293 150 [.ref 246, .int (iI x1), .int (iI x2), .int (iI x3), .int (iI x4)] [.int (iI z0), .int (iI ((1106 + (8 * x4)) + x3)), .ref 247] m))) <| ck_cg fun _ => (s_ast 2737 p_293_150 hs_247 rfl).trans <| ck_cg fun k3 => (s_inc_4 cat_i p_293_151).trans <| (s_goto p_293_154 rfl).trans <| rfl) ((s_al_0 p_293_157).trans <| (s_getr p_293_158 hs_246 (by decide) rfl).trans <| (s_bip p_293_161 rfl).trans <| (s_dup2 cat_i cat_r p_293_163).trans <| (s_aldc p_293_164 hs_247 (by decide) wl_7 (by decide)).trans <| (s_const p_293_165).trans <| (s_iadd p_293_166).trans <| (s_astc p_293_167 hs_247 wl_7 (by decide)).trans <| (s_il_3 p_293_168).trans <| (s_reti p_293_169 (zM_of zq_293)))
-- M.heard
theorem p_294_0 : zP1 294 0 = some (.aload_n 0, 0, 0, 0) := zp_l zq_294 rfl
theorem p_294_1 : zP1 294 1 = some (.iload_n 1, 0, 0, 0) := zp_l zq_294 rfl
theorem p_294_2 : zP1 294 2 = some (.invokevirtual 138, 202, 1, 11) := zp_r zq_294 rfl
theorem p_294_5 : zP1 294 5 = some (.ifCond .eq 20, 0, 0, 0) := zp_l zq_294 rfl
theorem p_294_8 : zP1 294 8 = some (.iload_n 2, 0, 0, 0) := zp_l zq_294 rfl
theorem p_294_9 : zP1 294 9 = some (.iconst 0, 0, 0, 0) := zp_l zq_294 rfl
theorem p_294_10 : zP1 294 10 = some (.aload_n 0, 0, 0, 0) := zp_l zq_294 rfl
theorem p_294_11 : zP1 294 11 = some (.getfield 9, 11, 0, 0) := zp_r zq_294 rfl
theorem p_294_14 : zP1 294 14 = some (.bipush 7, 0, 0, 0) := zp_l zq_294 rfl
theorem p_294_16 : zP1 294 16 = some (.iaload, 0, 0, 0) := zp_l zq_294 rfl
theorem p_294_17 : zP1 294 17 = some (.iconst 1, 0, 0, 0) := zp_l zq_294 rfl
theorem p_294_18 : zP1 294 18 = some (.isub, 0, 0, 0) := zp_l zq_294 rfl
theorem p_294_19 : zP1 294 19 = some (.invokestatic 100, 199, 3, 0) := zp_r zq_294 rfl
theorem p_294_22 : zP1 294 22 = some (.ifCond .ne 7, 0, 0, 0) := zp_l zq_294 rfl
theorem p_294_25 : zP1 294 25 = some (.iconst (-1), 0, 0, 0) := zp_l zq_294 rfl
theorem p_294_26 : zP1 294 26 = some (.goto 18, 0, 0, 0) := zp_l zq_294 rfl
theorem p_294_29 : zP1 294 29 = some (.aload_n 0, 0, 0, 0) := zp_l zq_294 rfl
theorem p_294_30 : zP1 294 30 = some (.getfield 9, 11, 0, 0) := zp_r zq_294 rfl
theorem p_294_33 : zP1 294 33 = some (.sipush 1106, 0, 0, 0) := zp_l zq_294 rfl
theorem p_294_36 : zP1 294 36 = some (.bipush 8, 0, 0, 0) := zp_l zq_294 rfl
theorem p_294_38 : zP1 294 38 = some (.iload_n 1, 0, 0, 0) := zp_l zq_294 rfl
theorem p_294_39 : zP1 294 39 = some (.imul, 0, 0, 0) := zp_l zq_294 rfl
theorem p_294_40 : zP1 294 40 = some (.iadd, 0, 0, 0) := zp_l zq_294 rfl
theorem p_294_41 : zP1 294 41 = some (.iload_n 2, 0, 0, 0) := zp_l zq_294 rfl
theorem p_294_42 : zP1 294 42 = some (.iadd, 0, 0, 0) := zp_l zq_294 rfl
theorem p_294_43 : zP1 294 43 = some (.iaload, 0, 0, 0) := zp_l zq_294 rfl
theorem p_294_44 : zP1 294 44 = some (.ireturn, 0, 0, 0) := zp_l zq_294 rfl
theorem b_294_0 {x1 : Int} {x2 : Int} : Z e (d + 2) 294 0 [.ref 246, .int (iI x1), .int (iI x2)] [] m = ck ((¬ ((¬ (((wr 0) ≤ (wr x1)) ∧ ((wr x1) ≤ (wr ((m 247 1) - 1))))) ∨ (¬ (((wr 0) ≤ (wr x2)) ∧ ((wr x2) ≤ (wr ((m 247 7) - 1))))))) → (0 ≤ (wr ((1106 + (8 * x1)) + x2)) ∧ (wr ((1106 + (8 * x1)) + x2)) < 2737)) (ri (if (¬ (((wr 0) ≤ (wr x1)) ∧ ((wr x1) ≤ (wr ((m 247 1) - 1))))) ∨ (¬ (((wr 0) ≤ (wr x2)) ∧ ((wr x2) ≤ (wr ((m 247 7) - 1))))) then (-1) else (m 247 (wr ((1106 + (8 * x1)) + x2)))) m) := (s_al_0 p_294_0).trans <| (s_il_1 p_294_1).trans <| (s_cv1 (Lc := [.ref 246, .int (iI x1)]) p_294_2 (by decide) (by decide) (zM_of zq_202) ⟨Nat.le_of_ble_eq_true rfl, Nat.le_of_ble_eq_true rfl⟩ rfl (m_rc hs_246 ⟨rfl, by decide⟩)).trans <| (bd b_202_0).trans <| ri_k.trans <| Eq.trans (Eq.trans (Eq.trans (s_beq_t p_294_5 rfl) <| Eq.trans (ite_cg rfl ((s_il_2 p_294_8).trans <| (s_const p_294_9).trans <| (s_al_0 p_294_10).trans <| (s_getr p_294_11 hs_246 (by decide) rfl).trans <| (s_bip p_294_14 rfl).trans <| (s_aldc p_294_16 hs_247 (by decide) wl_7 (by decide)).trans <| (s_const p_294_17).trans <| (s_isub p_294_18).trans <| (s_cs3 (Lc := [.int (iI x2), .int (iI 0), .int (iI ((m 247 7) - 1))]) p_294_19 (by decide) (zM_of zq_199) ⟨Nat.le_of_ble_eq_true rfl, Nat.le_of_ble_eq_true rfl⟩ rfl).trans <| (bd b_199_0).trans <| ri_k.trans <| (s_bne_f p_294_22 rfl))) co_or) <| Eq.trans (ite_cg ((s_const p_294_25).trans <| (s_goto p_294_26 rfl).trans <| rfl) ((s_al_0 p_294_29).trans <| (s_getr p_294_30 hs_246 (by decide) rfl).trans <| (s_sip p_294_33 rfl).trans <| (s_bip p_294_36 rfl).trans <| (s_il_1 p_294_38).trans <| (s_imul p_294_39).trans <| (s_iadd p_294_40).trans <| (s_il_2 p_294_41).trans <| (s_iadd p_294_42).trans <| (s_ald 2737 p_294_43 hs_247 rfl (by decide)).trans <| ck_cg fun k1 => rfl)) <| Eq.trans ck_b <| ck_cg fun _ => (phi1 (fun z0 => Z e (d + 2) 294 44 [.ref 246, .int (iI x1), .int (iI x2)] [.int (iI z0)] m))) <| ck_cg fun _ => (s_reti p_294_44 (zM_of zq_294))
-- M.sight
theorem p_295_0 : zP1 295 0 = some (.iload_n 1, 0, 0, 0) := zp_l zq_295 rfl
theorem p_295_1 : zP1 295 1 = some (.invokestatic 110, 200, 1, 0) := zp_r zq_295 rfl
theorem p_295_4 : zP1 295 4 = some (.ifCond .eq 26, 0, 0, 0) := zp_l zq_295 rfl
theorem p_295_7 : zP1 295 7 = some (.iload_n 2, 0, 0, 0) := zp_l zq_295 rfl
theorem p_295_8 : zP1 295 8 = some (.iconst 0, 0, 0, 0) := zp_l zq_295 rfl
theorem p_295_9 : zP1 295 9 = some (.aload_n 0, 0, 0, 0) := zp_l zq_295 rfl
theorem p_295_10 : zP1 295 10 = some (.getfield 9, 11, 0, 0) := zp_r zq_295 rfl
theorem p_295_13 : zP1 295 13 = some (.iconst 0, 0, 0, 0) := zp_l zq_295 rfl
theorem p_295_14 : zP1 295 14 = some (.iaload, 0, 0, 0) := zp_l zq_295 rfl
theorem p_295_15 : zP1 295 15 = some (.invokestatic 100, 199, 3, 0) := zp_r zq_295 rfl
theorem p_295_18 : zP1 295 18 = some (.ifCond .eq 12, 0, 0, 0) := zp_l zq_295 rfl
theorem p_295_21 : zP1 295 21 = some (.iload_n 3, 0, 0, 0) := zp_l zq_295 rfl
theorem p_295_22 : zP1 295 22 = some (.iconst 0, 0, 0, 0) := zp_l zq_295 rfl
theorem p_295_23 : zP1 295 23 = some (.iconst 4, 0, 0, 0) := zp_l zq_295 rfl
theorem p_295_24 : zP1 295 24 = some (.invokestatic 100, 199, 3, 0) := zp_r zq_295 rfl
theorem p_295_27 : zP1 295 27 = some (.ifCond .ne 5, 0, 0, 0) := zp_l zq_295 rfl
theorem p_295_30 : zP1 295 30 = some (.iconst (-1), 0, 0, 0) := zp_l zq_295 rfl
theorem p_295_31 : zP1 295 31 = some (.ireturn, 0, 0, 0) := zp_l zq_295 rfl
theorem p_295_32 : zP1 295 32 = some (.iload_n 2, 0, 0, 0) := zp_l zq_295 rfl
theorem p_295_33 : zP1 295 33 = some (.invokestatic 297, 247, 1, 0) := zp_r zq_295 rfl
theorem p_295_36 : zP1 295 36 = some (.ifCond .ne 6, 0, 0, 0) := zp_l zq_295 rfl
theorem p_295_39 : zP1 295 39 = some (.bipush (-4), 0, 0, 0) := zp_l zq_295 rfl
theorem p_295_41 : zP1 295 41 = some (.ireturn, 0, 0, 0) := zp_l zq_295 rfl
theorem p_295_42 : zP1 295 42 = some (.aload_n 0, 0, 0, 0) := zp_l zq_295 rfl
theorem p_295_43 : zP1 295 43 = some (.getfield 9, 11, 0, 0) := zp_r zq_295 rfl
theorem p_295_46 : zP1 295 46 = some (.bipush 8, 0, 0, 0) := zp_l zq_295 rfl
theorem p_295_48 : zP1 295 48 = some (.iaload, 0, 0, 0) := zp_l zq_295 rfl
theorem p_295_49 : zP1 295 49 = some (.istore 4, 0, 0, 0) := zp_l zq_295 rfl
theorem p_295_51 : zP1 295 51 = some (.iload 4, 0, 0, 0) := zp_l zq_295 rfl
theorem p_295_53 : zP1 295 53 = some (.bipush 16, 0, 0, 0) := zp_l zq_295 rfl
theorem p_295_55 : zP1 295 55 = some (.if_icmp .ne 6, 0, 0, 0) := zp_l zq_295 rfl
theorem p_295_58 : zP1 295 58 = some (.bipush (-2), 0, 0, 0) := zp_l zq_295 rfl
theorem p_295_60 : zP1 295 60 = some (.ireturn, 0, 0, 0) := zp_l zq_295 rfl
theorem p_295_61 : zP1 295 61 = some (.aload_n 0, 0, 0, 0) := zp_l zq_295 rfl
theorem p_295_62 : zP1 295 62 = some (.getfield 9, 11, 0, 0) := zp_r zq_295 rfl
theorem p_295_65 : zP1 295 65 = some (.sipush 1234, 0, 0, 0) := zp_l zq_295 rfl
theorem p_295_68 : zP1 295 68 = some (.iconst 3, 0, 0, 0) := zp_l zq_295 rfl
theorem p_295_69 : zP1 295 69 = some (.iload 4, 0, 0, 0) := zp_l zq_295 rfl
theorem p_295_71 : zP1 295 71 = some (.imul, 0, 0, 0) := zp_l zq_295 rfl
theorem p_295_72 : zP1 295 72 = some (.iadd, 0, 0, 0) := zp_l zq_295 rfl
theorem p_295_73 : zP1 295 73 = some (.iload_n 1, 0, 0, 0) := zp_l zq_295 rfl
theorem p_295_74 : zP1 295 74 = some (.iastore, 0, 0, 0) := zp_l zq_295 rfl
theorem p_295_75 : zP1 295 75 = some (.aload_n 0, 0, 0, 0) := zp_l zq_295 rfl
theorem p_295_76 : zP1 295 76 = some (.getfield 9, 11, 0, 0) := zp_r zq_295 rfl
theorem p_295_79 : zP1 295 79 = some (.sipush 1234, 0, 0, 0) := zp_l zq_295 rfl
theorem p_295_82 : zP1 295 82 = some (.iconst 3, 0, 0, 0) := zp_l zq_295 rfl
theorem p_295_83 : zP1 295 83 = some (.iload 4, 0, 0, 0) := zp_l zq_295 rfl
theorem p_295_85 : zP1 295 85 = some (.imul, 0, 0, 0) := zp_l zq_295 rfl
theorem p_295_86 : zP1 295 86 = some (.iadd, 0, 0, 0) := zp_l zq_295 rfl
theorem p_295_87 : zP1 295 87 = some (.iconst 1, 0, 0, 0) := zp_l zq_295 rfl
theorem p_295_88 : zP1 295 88 = some (.iadd, 0, 0, 0) := zp_l zq_295 rfl
theorem p_295_89 : zP1 295 89 = some (.iload_n 2, 0, 0, 0) := zp_l zq_295 rfl
theorem p_295_90 : zP1 295 90 = some (.iastore, 0, 0, 0) := zp_l zq_295 rfl
theorem p_295_91 : zP1 295 91 = some (.aload_n 0, 0, 0, 0) := zp_l zq_295 rfl
theorem p_295_92 : zP1 295 92 = some (.getfield 9, 11, 0, 0) := zp_r zq_295 rfl
theorem p_295_95 : zP1 295 95 = some (.sipush 1234, 0, 0, 0) := zp_l zq_295 rfl
theorem p_295_98 : zP1 295 98 = some (.iconst 3, 0, 0, 0) := zp_l zq_295 rfl
theorem p_295_99 : zP1 295 99 = some (.iload 4, 0, 0, 0) := zp_l zq_295 rfl
theorem p_295_101 : zP1 295 101 = some (.imul, 0, 0, 0) := zp_l zq_295 rfl
theorem p_295_102 : zP1 295 102 = some (.iadd, 0, 0, 0) := zp_l zq_295 rfl
theorem p_295_103 : zP1 295 103 = some (.iconst 2, 0, 0, 0) := zp_l zq_295 rfl
theorem p_295_104 : zP1 295 104 = some (.iadd, 0, 0, 0) := zp_l zq_295 rfl
theorem p_295_105 : zP1 295 105 = some (.iload_n 3, 0, 0, 0) := zp_l zq_295 rfl
theorem p_295_106 : zP1 295 106 = some (.iastore, 0, 0, 0) := zp_l zq_295 rfl
theorem p_295_107 : zP1 295 107 = some (.aload_n 0, 0, 0, 0) := zp_l zq_295 rfl
theorem p_295_108 : zP1 295 108 = some (.getfield 9, 11, 0, 0) := zp_r zq_295 rfl
theorem p_295_111 : zP1 295 111 = some (.bipush 8, 0, 0, 0) := zp_l zq_295 rfl
theorem p_295_113 : zP1 295 113 = some (.dup2, 0, 0, 0) := zp_l zq_295 rfl
theorem p_295_114 : zP1 295 114 = some (.iaload, 0, 0, 0) := zp_l zq_295 rfl
theorem p_295_115 : zP1 295 115 = some (.iconst 1, 0, 0, 0) := zp_l zq_295 rfl
theorem p_295_116 : zP1 295 116 = some (.iadd, 0, 0, 0) := zp_l zq_295 rfl
theorem p_295_117 : zP1 295 117 = some (.iastore, 0, 0, 0) := zp_l zq_295 rfl
theorem p_295_118 : zP1 295 118 = some (.iload 4, 0, 0, 0) := zp_l zq_295 rfl
theorem p_295_120 : zP1 295 120 = some (.ireturn, 0, 0, 0) := zp_l zq_295 rfl
theorem b_295_0 {x1 : Int} {x2 : Int} {x3 : Int} : Z e (d + 2) 295 0 [.ref 246, .int (iI x1), .int (iI x2), .int (iI x3), .retAddr 0] [] m = (if (¬ (((wr 0) ≤ (wr x1)) ∧ ((wr x1) ≤ (wr 99)))) ∨ ((¬ (((wr 0) ≤ (wr x2)) ∧ ((wr x2) ≤ (wr (m 247 0))))) ∨ (¬ (((wr 0) ≤ (wr x3)) ∧ ((wr x3) ≤ (wr 4))))) then ri (-1) m else (if ¬ ((20 ≤ (wr (jrem x2 24))) ∨ ((wr (jrem x2 24)) < 6)) then ri (-4) m else (if (wr (m 247 8)) = 16 then ri (-2) m else ck (0 ≤ (wr (1234 + (3 * (m 247 8)))) ∧ (wr (1234 + (3 * (m 247 8)))) < 2737) (ck (0 ≤ (wr ((1234 + (3 * (m 247 8))) + 1)) ∧ (wr ((1234 + (3 * (m 247 8))) + 1)) < 2737) (ck (0 ≤ (wr ((1234 + (3 * (m 247 8))) + 2)) ∧ (wr ((1234 + (3 * (m 247 8))) + 2)) < 2737) (ri (m 247 8) (um (um (um (um m 247 (wr (1234 + (3 * (m 247 8)))) x1) 247 (wr ((1234 + (3 * (m 247 8))) + 1)) x2) 247 (wr ((1234 + (3 * (m 247 8))) + 2)) x3) 247 8 (((um (um (um m 247 (wr (1234 + (3 * (m 247 8)))) x1) 247 (wr ((1234 + (3 * (m 247 8))) + 1)) x2) 247 (wr ((1234 + (3 * (m 247 8))) + 2)) x3) 247 8) + 1)))))))) := (s_il_1 p_295_0).trans <| (s_cs1 (Lc := [.int (iI x1)]) p_295_1 (by decide) (zM_of zq_200) ⟨Nat.le_of_ble_eq_true rfl, Nat.le_of_ble_eq_true rfl⟩ rfl).trans <| (bd b_200_0).trans <| ri_k.trans <| Eq.trans (Eq.trans (s_beq_t p_295_4 rfl) <| Eq.trans (ite_cg rfl ((s_il_2 p_295_7).trans <| (s_const p_295_8).trans <| (s_al_0 p_295_9).trans <| (s_getr p_295_10 hs_246 (by decide) rfl).trans <| (s_const p_295_13).trans <| (s_aldc p_295_14 hs_247 (by decide) wl_0 (by decide)).trans <| (s_cs3 (Lc := [.int (iI x2), .int (iI 0), .int (iI (m 247 0))]) p_295_15 (by decide) (zM_of zq_199) ⟨Nat.le_of_ble_eq_true rfl, Nat.le_of_ble_eq_true rfl⟩ rfl).trans <| (bd b_199_0).trans <| ri_k.trans <| Eq.trans (s_beq_t p_295_18 rfl) <| Eq.trans (ite_cg rfl ((s_il_3 p_295_21).trans <| (s_const p_295_22).trans <| (s_const p_295_23).trans <| (s_cs3 (Lc := [.int (iI x3), .int (iI 0), .int (iI 4)]) p_295_24 (by decide) (zM_of zq_199) ⟨Nat.le_of_ble_eq_true rfl, Nat.le_of_ble_eq_true rfl⟩ rfl).trans <| (bd b_199_0).trans <| ri_k.trans <| (s_bne_f p_295_27 rfl))) co_or)) co_or) <| ite_cg ((s_const p_295_30).trans <| (s_reti p_295_31 (zM_of zq_295))) ((s_il_2 p_295_32).trans <| (s_cs1 (Lc := [.int (iI x2)]) p_295_33 (by decide) (zM_of zq_247) ⟨Nat.le_of_ble_eq_true rfl, Nat.le_of_ble_eq_true rfl⟩ rfl).trans <| (bd b_247_0).trans <| ri_k.trans <| Eq.trans ((s_bne_f p_295_36 rfl)) <| ite_cg ((s_bip p_295_39 rfl).trans <| (s_reti p_295_41 (zM_of zq_295))) ((s_al_0 p_295_42).trans <| (s_getr p_295_43 hs_246 (by decide) rfl).trans <| (s_bip p_295_46 rfl).trans <| (s_aldc p_295_48 hs_247 (by decide) wl_8 (by decide)).trans <| (s_is_4 cat_i p_295_49).trans <| (s_il_4 p_295_51).trans <| (s_bip p_295_53 rfl).trans <| Eq.trans ((s_c_ne_f p_295_55 rfl rfl wl_16)) <| ite_cg ((s_bip p_295_58 rfl).trans <| (s_reti p_295_60 (zM_of zq_295))) ((s_al_0 p_295_61).trans <| (s_getr p_295_62 hs_246 (by decide) rfl).trans <| (s_sip p_295_65 rfl).trans <| (s_const p_295_68).trans <| (s_il_4 p_295_69).trans <| (s_imul p_295_71).trans <| (s_iadd p_295_72).trans <| (s_il_1 p_295_73).trans <| (s_ast 2737 p_295_74 hs_247 rfl).trans <| ck_cg fun k1 => (s_al_0 p_295_75).trans <| (s_getr p_295_76 hs_246 (by decide) rfl).trans <| (s_sip p_295_79 rfl).trans <| (s_const p_295_82).trans <| (s_il_4 p_295_83).trans <| (s_imul p_295_85).trans <| (s_iadd p_295_86).trans <| (s_const p_295_87).trans <| (s_iadd p_295_88).trans <| (s_il_2 p_295_89).trans <| (s_ast 2737 p_295_90 hs_247 rfl).trans <| ck_cg fun k2 => (s_al_0 p_295_91).trans <| (s_getr p_295_92 hs_246 (by decide) rfl).trans <| (s_sip p_295_95 rfl).trans <| (s_const p_295_98).trans <| (s_il_4 p_295_99).trans <| (s_imul p_295_101).trans <| (s_iadd p_295_102).trans <| (s_const p_295_103).trans <| (s_iadd p_295_104).trans <| (s_il_3 p_295_105).trans <| (s_ast 2737 p_295_106 hs_247 rfl).trans <| ck_cg fun k3 => (s_al_0 p_295_107).trans <| (s_getr p_295_108 hs_246 (by decide) rfl).trans <| (s_bip p_295_111 rfl).trans <| (s_dup2 cat_i cat_r p_295_113).trans <| (s_aldc p_295_114 hs_247 (by decide) wl_8 (by decide)).trans <| (s_const p_295_115).trans <| (s_iadd p_295_116).trans <| (s_astc p_295_117 hs_247 wl_8 (by decide)).trans <| (s_il_4 p_295_118).trans <| (s_reti p_295_120 (zM_of zq_295)))))
end BK
