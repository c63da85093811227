/-! Equations of blocks. By program. -/
section BK
variable {e : List Int32 × Value} {d : Nat} {m : zMm}
-- Plan.firstUnlike
theorem p_51_0 : zP1 51 0 = some (.iconst 0, 0, 0, 0) := zp_l zq_51 rfl
theorem p_51_1 : zP1 51 1 = some (.istore_n 1, 0, 0, 0) := zp_l zq_51 rfl
theorem p_51_2 : zP1 51 2 = some (.iload_n 1, 0, 0, 0) := zp_l zq_51 rfl
theorem p_51_3 : zP1 51 3 = some (.aload_n 0, 0, 0, 0) := zp_l zq_51 rfl
theorem p_51_4 : zP1 51 4 = some (.getfield 26, 2, 6, 0) := zp_r zq_51 rfl
theorem p_51_7 : zP1 51 7 = some (.getfield 85, 7, 3, 0) := zp_r zq_51 rfl
theorem p_51_10 : zP1 51 10 = some (.if_icmp .ge 63, 0, 0, 0) := zp_l zq_51 rfl
theorem p_51_13 : zP1 51 13 = some (.aload_n 0, 0, 0, 0) := zp_l zq_51 rfl
theorem p_51_14 : zP1 51 14 = some (.getfield 26, 2, 6, 0) := zp_r zq_51 rfl
theorem p_51_17 : zP1 51 17 = some (.iload_n 1, 0, 0, 0) := zp_l zq_51 rfl
theorem p_51_18 : zP1 51 18 = some (.iconst 0, 0, 0, 0) := zp_l zq_51 rfl
theorem p_51_19 : zP1 51 19 = some (.invokevirtual 106, 104, 2, 7) := zp_r zq_51 rfl
theorem p_51_22 : zP1 51 22 = some (.aload_n 0, 0, 0, 0) := zp_l zq_51 rfl
theorem p_51_23 : zP1 51 23 = some (.getfield 30, 2, 7, 0) := zp_r zq_51 rfl
theorem p_51_26 : zP1 51 26 = some (.iload_n 1, 0, 0, 0) := zp_l zq_51 rfl
theorem p_51_27 : zP1 51 27 = some (.iconst 0, 0, 0, 0) := zp_l zq_51 rfl
theorem p_51_28 : zP1 51 28 = some (.invokevirtual 106, 104, 2, 7) := zp_r zq_51 rfl
theorem p_51_31 : zP1 51 31 = some (.if_icmp .ne 28, 0, 0, 0) := zp_l zq_51 rfl
theorem p_51_34 : zP1 51 34 = some (.aload_n 0, 0, 0, 0) := zp_l zq_51 rfl
theorem p_51_35 : zP1 51 35 = some (.getfield 26, 2, 6, 0) := zp_r zq_51 rfl
theorem p_51_38 : zP1 51 38 = some (.iload_n 1, 0, 0, 0) := zp_l zq_51 rfl
theorem p_51_39 : zP1 51 39 = some (.iconst 1, 0, 0, 0) := zp_l zq_51 rfl
theorem p_51_40 : zP1 51 40 = some (.invokevirtual 106, 104, 2, 7) := zp_r zq_51 rfl
theorem p_51_43 : zP1 51 43 = some (.aload_n 0, 0, 0, 0) := zp_l zq_51 rfl
theorem p_51_44 : zP1 51 44 = some (.getfield 30, 2, 7, 0) := zp_r zq_51 rfl
theorem p_51_47 : zP1 51 47 = some (.iload_n 1, 0, 0, 0) := zp_l zq_51 rfl
theorem p_51_48 : zP1 51 48 = some (.iconst 1, 0, 0, 0) := zp_l zq_51 rfl
theorem p_51_49 : zP1 51 49 = some (.invokevirtual 106, 104, 2, 7) := zp_r zq_51 rfl
theorem p_51_52 : zP1 51 52 = some (.if_icmp .ne 7, 0, 0, 0) := zp_l zq_51 rfl
theorem p_51_55 : zP1 51 55 = some (.iconst 1, 0, 0, 0) := zp_l zq_51 rfl
theorem p_51_56 : zP1 51 56 = some (.goto 4, 0, 0, 0) := zp_l zq_51 rfl
theorem p_51_59 : zP1 51 59 = some (.iconst 0, 0, 0, 0) := zp_l zq_51 rfl
theorem p_51_60 : zP1 51 60 = some (.istore_n 2, 0, 0, 0) := zp_l zq_51 rfl
theorem p_51_61 : zP1 51 61 = some (.iload_n 2, 0, 0, 0) := zp_l zq_51 rfl
theorem p_51_62 : zP1 51 62 = some (.ifCond .ne 5, 0, 0, 0) := zp_l zq_51 rfl
theorem p_51_65 : zP1 51 65 = some (.iload_n 1, 0, 0, 0) := zp_l zq_51 rfl
theorem p_51_66 : zP1 51 66 = some (.ireturn, 0, 0, 0) := zp_l zq_51 rfl
theorem p_51_67 : zP1 51 67 = some (.iinc 1 1, 0, 0, 0) := zp_l zq_51 rfl
theorem p_51_70 : zP1 51 70 = some (.goto (-68), 0, 0, 0) := zp_l zq_51 rfl
theorem p_51_73 : zP1 51 73 = some (.aload_n 0, 0, 0, 0) := zp_l zq_51 rfl
theorem p_51_74 : zP1 51 74 = some (.getfield 26, 2, 6, 0) := zp_r zq_51 rfl
theorem p_51_77 : zP1 51 77 = some (.getfield 85, 7, 3, 0) := zp_r zq_51 rfl
theorem p_51_80 : zP1 51 80 = some (.aload_n 0, 0, 0, 0) := zp_l zq_51 rfl
theorem p_51_81 : zP1 51 81 = some (.getfield 30, 2, 7, 0) := zp_r zq_51 rfl
theorem p_51_84 : zP1 51 84 = some (.getfield 85, 7, 3, 0) := zp_r zq_51 rfl
theorem p_51_87 : zP1 51 87 = some (.if_icmp .ge 13, 0, 0, 0) := zp_l zq_51 rfl
theorem p_51_90 : zP1 51 90 = some (.aload_n 0, 0, 0, 0) := zp_l zq_51 rfl
theorem p_51_91 : zP1 51 91 = some (.getfield 26, 2, 6, 0) := zp_r zq_51 rfl
theorem p_51_94 : zP1 51 94 = some (.getfield 85, 7, 3, 0) := zp_r zq_51 rfl
theorem p_51_97 : zP1 51 97 = some (.goto 4, 0, 0, 0) := zp_l zq_51 rfl
theorem p_51_100 : zP1 51 100 = some (.iconst (-1), 0, 0, 0) := zp_l zq_51 rfl
theorem p_51_101 : zP1 51 101 = some (.ireturn, 0, 0, 0) := zp_l zq_51 rfl
theorem b_51_0 : Z e (d + 1) 51 0 [.ref 226, .retAddr 0, .retAddr 0] [] m = Z e (d + 1) 51 2 [.ref 226, .int (iI 0), .retAddr 0] [] m := (s_const p_51_0).trans <| (s_is_1 cat_r p_51_1).trans <| rfl
theorem b_51_2 {x1 : Int} {u2 : Value} : Z e (d + 1) 51 2 [.ref 226, .int (iI x1), u2] [] m = (if (wr x1) < (wr (m 230 3)) then (Z e d 104 0 [.ref 230, .int (iI x1), .int (iI 0)] [] m).bind (ZK e (d + 1) 51 22 [.ref 226, .int (iI x1), u2] [] m) else ri (if (wr (m 230 3)) < (wr (m 232 3)) then (m 230 3) else (-1)) m) := (s_il_1 p_51_2).trans <| (s_al_0 p_51_3).trans <| (s_getr p_51_4 hs_226 (by decide) rfl).trans <| (s_get p_51_7 hs_230 (by decide) rfl).trans <| Eq.trans ((s_c_ge_f p_51_10 rfl rfl rfl)) <| ite_cg ((s_al_0 p_51_13).trans <| (s_getr p_51_14 hs_226 (by decide) rfl).trans <| (s_il_1 p_51_17).trans <| (s_const p_51_18).trans <| (s_cv2 (Lc := [.ref 230, .int (iI x1), .int (iI 0)]) p_51_19 (by decide) (by decide) (zM_of zq_104) ⟨Nat.le_of_ble_eq_true rfl, Nat.le_of_ble_eq_true rfl⟩ rfl (m_rc hs_230 ⟨rfl, by decide⟩))) ((s_al_0 p_51_73).trans <| (s_getr p_51_74 hs_226 (by decide) rfl).trans <| (s_get p_51_77 hs_230 (by decide) rfl).trans <| (s_al_0 p_51_80).trans <| (s_getr p_51_81 hs_226 (by decide) rfl).trans <| (s_get p_51_84 hs_232 (by decide) rfl).trans <| Eq.trans (Eq.trans ((s_c_ge_f p_51_87 rfl rfl rfl)) <| Eq.trans (ite_cg ((s_al_0 p_51_90).trans <| (s_getr p_51_91 hs_226 (by decide) rfl).trans <| (s_get p_51_94 hs_230 (by decide) rfl).trans <| (s_goto p_51_97 rfl).trans <| rfl) ((s_const p_51_100).trans <| rfl)) (phi1 (fun z0 => Z e (d + 1) 51 101 [.ref 226, .int (iI x1), u2] [.int (iI z0)] m))) <| (s_reti p_51_101 (zM_of zq_51)))
theorem b_51_22 {x1 : Int} {xs0 : Int} {u2 : Value} : Z e (d + 1) 51 22 [.ref 226, .int (iI x1), u2] [.int (iI xs0)] m = (Z e d 104 0 [.ref 232, .int (iI x1), .int (iI 0)] [] m).bind (ZK e (d + 1) 51 31 [.ref 226, .int (iI x1), u2] [.int (iI xs0)] m) := (s_al_0 p_51_22).trans <| (s_getr p_51_23 hs_226 (by decide) rfl).trans <| (s_il_1 p_51_26).trans <| (s_const p_51_27).trans <| (s_cv2 (Lc := [.ref 232, .int (iI x1), .int (iI 0)]) p_51_28 (by decide) (by decide) (zM_of zq_104) ⟨Nat.le_of_ble_eq_true rfl, Nat.le_of_ble_eq_true rfl⟩ rfl (m_rc hs_232 ⟨rfl, by decide⟩))
theorem b_51_31 {x1 : Int} {xs0 : Int} {xs1 : Int} {u2 : Value} : Z e (d + 1) 51 31 [.ref 226, .int (iI x1), u2] [.int (iI xs0), .int (iI xs1)] m = (if (wr xs1) = (wr xs0) then (Z e d 104 0 [.ref 230, .int (iI x1), .int (iI 1)] [] m).bind (ZK e (d + 1) 51 43 [.ref 226, .int (iI x1), u2] [] m) else Z e (d + 1) 51 60 [.ref 226, .int (iI x1), u2] [.int (iI 0)] m) := Eq.trans ((s_c_ne_f p_51_31 rfl rfl rfl)) <| ite_cg ((s_al_0 p_51_34).trans <| (s_getr p_51_35 hs_226 (by decide) rfl).trans <| (s_il_1 p_51_38).trans <| (s_const p_51_39).trans <| (s_cv2 (Lc := [.ref 230, .int (iI x1), .int (iI 1)]) p_51_40 (by decide) (by decide) (zM_of zq_104) ⟨Nat.le_of_ble_eq_true rfl, Nat.le_of_ble_eq_true rfl⟩ rfl (m_rc hs_230 ⟨rfl, by decide⟩))) ((s_const p_51_59).trans <| rfl)
theorem b_51_60 {x1 : Int} {xs0 : Int} {u2 : Value} : Z e (d + 1) 51 60 [.ref 226, .int (iI x1), u2] [.int (iI xs0)] m = (if (wr xs0) = 0 then ri x1 m else Z e (d + 1) 51 2 [.ref 226, .int (iI (x1 + 1)), .int (iI xs0)] [] m) := (s_is_2 cat_i p_51_60).trans <| (s_il_2 p_51_61).trans <| Eq.trans ((s_z_ne_f p_51_62 rfl rfl)) <| ite_cg ((s_il_1 p_51_65).trans <| (s_reti p_51_66 (zM_of zq_51))) ((s_inc_1 cat_r p_51_67).trans <| (s_goto p_51_70 rfl).trans <| rfl)
theorem b_51_43 {x1 : Int} {xs0 : Int} {u2 : Value} : Z e (d + 1) 51 43 [.ref 226, .int (iI x1), u2] [.int (iI xs0)] m = (Z e d 104 0 [.ref 232, .int (iI x1), .int (iI 1)] [] m).bind (ZK e (d + 1) 51 52 [.ref 226, .int (iI x1), u2] [.int (iI xs0)] m) := (s_al_0 p_51_43).trans <| (s_getr p_51_44 hs_226 (by decide) rfl).trans <| (s_il_1 p_51_47).trans <| (s_const p_51_48).trans <| (s_cv2 (Lc := [.ref 232, .int (iI x1), .int (iI 1)]) p_51_49 (by decide) (by decide) (zM_of zq_104) ⟨Nat.le_of_ble_eq_true rfl, Nat.le_of_ble_eq_true rfl⟩ rfl (m_rc hs_232 ⟨rfl, by decide⟩))
theorem b_51_52 {x1 : Int} {xs0 : Int} {xs1 : Int} {u2 : Value} : Z e (d + 1) 51 52 [.ref 226, .int (iI x1), u2] [.int (iI xs0), .int (iI xs1)] m = Z e (d + 1) 51 60 [.ref 226, .int (iI x1), u2] [.int (iI (if (wr xs1) = (wr xs0) then 1 else 0))] m := Eq.trans (Eq.trans ((s_c_ne_f p_51_52 rfl rfl rfl)) <| Eq.trans (ite_cg ((s_const p_51_55).trans <| (s_goto p_51_56 rfl).trans <| rfl) ((s_const p_51_59).trans <| rfl)) (phi1 (fun z0 => Z e (d + 1) 51 60 [.ref 226, .int (iI x1), u2] [.int (iI z0)] m))) <| rfl
-- Posts.man
theorem p_53_0 : zP1 53 0 = some (.iconst 0, 0, 0, 0) := zp_l zq_53 rfl
theorem p_53_1 : zP1 53 1 = some (.istore 5, 0, 0, 0) := zp_l zq_53 rfl
theorem p_53_3 : zP1 53 3 = some (.iconst 0, 0, 0, 0) := zp_l zq_53 rfl
theorem p_53_4 : zP1 53 4 = some (.istore 6, 0, 0, 0) := zp_l zq_53 rfl
theorem p_53_6 : zP1 53 6 = some (.iload 6, 0, 0, 0) := zp_l zq_53 rfl
theorem p_53_8 : zP1 53 8 = some (.bipush 24, 0, 0, 0) := zp_l zq_53 rfl
theorem p_53_10 : zP1 53 10 = some (.if_icmp .ge 70, 0, 0, 0) := zp_l zq_53 rfl
theorem p_53_13 : zP1 53 13 = some (.iload_n 3, 0, 0, 0) := zp_l zq_53 rfl
theorem p_53_14 : zP1 53 14 = some (.iload 4, 0, 0, 0) := zp_l zq_53 rfl
theorem p_53_16 : zP1 53 16 = some (.if_icmp .gt 24, 0, 0, 0) := zp_l zq_53 rfl
theorem p_53_19 : zP1 53 19 = some (.iload 6, 0, 0, 0) := zp_l zq_53 rfl
theorem p_53_21 : zP1 53 21 = some (.iload_n 3, 0, 0, 0) := zp_l zq_53 rfl
theorem p_53_22 : zP1 53 22 = some (.if_icmp .lt 14, 0, 0, 0) := zp_l zq_53 rfl
theorem p_53_25 : zP1 53 25 = some (.iload 6, 0, 0, 0) := zp_l zq_53 rfl
theorem p_53_27 : zP1 53 27 = some (.iload 4, 0, 0, 0) := zp_l zq_53 rfl
theorem p_53_29 : zP1 53 29 = some (.if_icmp .gt 7, 0, 0, 0) := zp_l zq_53 rfl
theorem p_53_32 : zP1 53 32 = some (.iconst 1, 0, 0, 0) := zp_l zq_53 rfl
theorem p_53_33 : zP1 53 33 = some (.goto 25, 0, 0, 0) := zp_l zq_53 rfl
theorem p_53_36 : zP1 53 36 = some (.iconst 0, 0, 0, 0) := zp_l zq_53 rfl
theorem p_53_37 : zP1 53 37 = some (.goto 21, 0, 0, 0) := zp_l zq_53 rfl
theorem p_53_40 : zP1 53 40 = some (.iload 6, 0, 0, 0) := zp_l zq_53 rfl
theorem p_53_42 : zP1 53 42 = some (.iload_n 3, 0, 0, 0) := zp_l zq_53 rfl
theorem p_53_43 : zP1 53 43 = some (.if_icmp .ge 10, 0, 0, 0) := zp_l zq_53 rfl
theorem p_53_46 : zP1 53 46 = some (.iload 6, 0, 0, 0) := zp_l zq_53 rfl
theorem p_53_48 : zP1 53 48 = some (.iload 4, 0, 0, 0) := zp_l zq_53 rfl
theorem p_53_50 : zP1 53 50 = some (.if_icmp .gt 7, 0, 0, 0) := zp_l zq_53 rfl
theorem p_53_53 : zP1 53 53 = some (.iconst 1, 0, 0, 0) := zp_l zq_53 rfl
theorem p_53_54 : zP1 53 54 = some (.goto 4, 0, 0, 0) := zp_l zq_53 rfl
theorem p_53_57 : zP1 53 57 = some (.iconst 0, 0, 0, 0) := zp_l zq_53 rfl
theorem p_53_58 : zP1 53 58 = some (.istore 7, 0, 0, 0) := zp_l zq_53 rfl
theorem p_53_60 : zP1 53 60 = some (.iload 7, 0, 0, 0) := zp_l zq_53 rfl
theorem p_53_62 : zP1 53 62 = some (.ifCond .eq 12, 0, 0, 0) := zp_l zq_53 rfl
theorem p_53_65 : zP1 53 65 = some (.iload 5, 0, 0, 0) := zp_l zq_53 rfl
theorem p_53_67 : zP1 53 67 = some (.iconst 1, 0, 0, 0) := zp_l zq_53 rfl
theorem p_53_68 : zP1 53 68 = some (.iload 6, 0, 0, 0) := zp_l zq_53 rfl
theorem p_53_70 : zP1 53 70 = some (.ishl, 0, 0, 0) := zp_l zq_53 rfl
theorem p_53_71 : zP1 53 71 = some (.ior, 0, 0, 0) := zp_l zq_53 rfl
theorem p_53_72 : zP1 53 72 = some (.istore 5, 0, 0, 0) := zp_l zq_53 rfl
theorem p_53_74 : zP1 53 74 = some (.iinc 6 1, 0, 0, 0) := zp_l zq_53 rfl
theorem p_53_77 : zP1 53 77 = some (.goto (-71), 0, 0, 0) := zp_l zq_53 rfl
theorem p_53_80 : zP1 53 80 = some (.aload_n 0, 0, 0, 0) := zp_l zq_53 rfl
theorem p_53_81 : zP1 53 81 = some (.getfield 15, 3, 0, 0) := zp_r zq_53 rfl
theorem p_53_84 : zP1 53 84 = some (.getfield 19, 9, 10, 0) := zp_r zq_53 rfl
theorem p_53_87 : zP1 53 87 = some (.invokevirtual 25, 106, 0, 7) := zp_r zq_53 rfl
theorem p_53_90 : zP1 53 90 = some (.istore 6, 0, 0, 0) := zp_l zq_53 rfl
theorem p_53_92 : zP1 53 92 = some (.aload_n 0, 0, 0, 0) := zp_l zq_53 rfl
theorem p_53_93 : zP1 53 93 = some (.getfield 15, 3, 0, 0) := zp_r zq_53 rfl
theorem p_53_96 : zP1 53 96 = some (.getfield 19, 9, 10, 0) := zp_r zq_53 rfl
theorem p_53_99 : zP1 53 99 = some (.iload 6, 0, 0, 0) := zp_l zq_53 rfl
theorem p_53_101 : zP1 53 101 = some (.iconst 0, 0, 0, 0) := zp_l zq_53 rfl
theorem p_53_102 : zP1 53 102 = some (.iload_n 1, 0, 0, 0) := zp_l zq_53 rfl
theorem p_53_103 : zP1 53 103 = some (.invokevirtual 31, 105, 3, 7) := zp_r zq_53 rfl
theorem p_53_106 : zP1 53 106 = some (.aload_n 0, 0, 0, 0) := zp_l zq_53 rfl
theorem p_53_107 : zP1 53 107 = some (.getfield 15, 3, 0, 0) := zp_r zq_53 rfl
theorem p_53_110 : zP1 53 110 = some (.getfield 19, 9, 10, 0) := zp_r zq_53 rfl
theorem p_53_113 : zP1 53 113 = some (.iload 6, 0, 0, 0) := zp_l zq_53 rfl
theorem p_53_115 : zP1 53 115 = some (.iconst 1, 0, 0, 0) := zp_l zq_53 rfl
theorem p_53_116 : zP1 53 116 = some (.iload_n 2, 0, 0, 0) := zp_l zq_53 rfl
theorem p_53_117 : zP1 53 117 = some (.invokevirtual 31, 105, 3, 7) := zp_r zq_53 rfl
theorem p_53_120 : zP1 53 120 = some (.aload_n 0, 0, 0, 0) := zp_l zq_53 rfl
theorem p_53_121 : zP1 53 121 = some (.getfield 15, 3, 0, 0) := zp_r zq_53 rfl
theorem p_53_124 : zP1 53 124 = some (.getfield 19, 9, 10, 0) := zp_r zq_53 rfl
theorem p_53_127 : zP1 53 127 = some (.iload 6, 0, 0, 0) := zp_l zq_53 rfl
theorem p_53_129 : zP1 53 129 = some (.iconst 2, 0, 0, 0) := zp_l zq_53 rfl
theorem p_53_130 : zP1 53 130 = some (.iload 5, 0, 0, 0) := zp_l zq_53 rfl
theorem p_53_132 : zP1 53 132 = some (.invokevirtual 31, 105, 3, 7) := zp_r zq_53 rfl
theorem p_53_135 : zP1 53 135 = some (.iload 6, 0, 0, 0) := zp_l zq_53 rfl
theorem p_53_137 : zP1 53 137 = some (.ireturn, 0, 0, 0) := zp_l zq_53 rfl
theorem b_53_0 {x1 : Int} {x2 : Int} {x3 : Int} {x4 : Int} : Z e (d + 1) 53 0 [.ref 206, .int (iI x1), .int (iI x2), .int (iI x3), .int (iI x4), .retAddr 0, .retAddr 0, .retAddr 0] [] m = Z e (d + 1) 53 6 [.ref 206, .int (iI x1), .int (iI x2), .int (iI x3), .int (iI x4), .int (iI 0), .int (iI 0), .retAddr 0] [] m := (s_const p_53_0).trans <| (s_is_5 cat_i p_53_1).trans <| (s_const p_53_3).trans <| (s_is_6 cat_i p_53_4).trans <| rfl
theorem b_53_6 {x1 : Int} {x2 : Int} {x3 : Int} {x4 : Int} {x5 : Int} {x6 : Int} {u7 : Value} : Z e (d + 1) 53 6 [.ref 206, .int (iI x1), .int (iI x2), .int (iI x3), .int (iI x4), .int (iI x5), .int (iI x6), u7] [] m = (if (wr x6) < 24 then Z e (d + 1) 53 6 [.ref 206, .int (iI x1), .int (iI x2), .int (iI x3), .int (iI x4), .int (iI (if ¬ (wr (if (wr x3) ≤ (wr x4) then (if ((wr x3) ≤ (wr x6)) ∧ ((wr x6) ≤ (wr x4)) then 1 else 0) else (if ((wr x3) ≤ (wr x6)) ∨ ((wr x6) ≤ (wr x4)) then 1 else 0))) = 0 then (jor x5 (jshl 1 x6)) else x5)), .int (iI (x6 + 1)), .int (iI (if (wr x3) ≤ (wr x4) then (if ((wr x3) ≤ (wr x6)) ∧ ((wr x6) ≤ (wr x4)) then 1 else 0) else (if ((wr x3) ≤ (wr x6)) ∨ ((wr x6) ≤ (wr x4)) then 1 else 0)))] [] m else Z e (d + 1) 53 80 [.ref 206, .int (iI x1), .int (iI x2), .int (iI x3), .int (iI x4), .int (iI x5), .int (iI x6), u7] [] m) := (s_il_6 p_53_6).trans <| (s_bip p_53_8 rfl).trans <| Eq.trans ((s_c_ge_f p_53_10 rfl rfl wl_24)) <| ite_cg ((s_il_3 p_53_13).trans <| (s_il_4 p_53_14).trans <| Eq.trans (Eq.trans ((s_c_gt_f p_53_16 rfl rfl rfl)) <| Eq.trans (ite_cg ((s_il_6 p_53_19).trans <| (s_il_3 p_53_21).trans <| Eq.trans (Eq.trans (Eq.trans (s_c_lt_f p_53_22 rfl rfl rfl) <| Eq.trans (ite_cg ((s_il_6 p_53_25).trans <| (s_il_4 p_53_27).trans <| (s_c_gt_f p_53_29 rfl rfl rfl)) rfl) co_and) <| Eq.trans (ite_cg ((s_const p_53_32).trans <| (s_goto p_53_33 rfl).trans <| rfl) ((s_const p_53_36).trans <| (s_goto p_53_37 rfl).trans <| rfl)) (phi1 (fun z0 => Z e (d + 1) 53 58 [.ref 206, .int (iI x1), .int (iI x2), .int (iI x3), .int (iI x4), .int (iI x5), .int (iI x6), u7] [.int (iI z0)] m))) <| rfl) ((s_il_6 p_53_40).trans <| (s_il_3 p_53_42).trans <| Eq.trans (Eq.trans (Eq.trans (s_c_ge_t p_53_43 rfl rfl rfl) <| Eq.trans (ite_cg rfl ((s_il_6 p_53_46).trans <| (s_il_4 p_53_48).trans <| (s_c_gt_f p_53_50 rfl rfl rfl))) co_or) <| Eq.trans (ite_cg ((s_const p_53_53).trans <| (s_goto p_53_54 rfl).trans <| rfl) ((s_const p_53_57).trans <| rfl)) (phi1 (fun z0 => Z e (d + 1) 53 58 [.ref 206, .int (iI x1), .int (iI x2), .int (iI x3), .int (iI x4), .int (iI x5), .int (iI x6), u7] [.int (iI z0)] m))) <| rfl)) (phi1 (fun z0 => Z e (d + 1) 53 58 [.ref 206, .int (iI x1), .int (iI x2), .int (iI x3), .int (iI x4), .int (iI x5), .int (iI x6), u7] [.int (iI z0)] m))) <| (s_is_7 cat_i p_53_58).trans <| (s_il_7 p_53_60).trans <| Eq.trans (Eq.trans ((s_z_eq_f p_53_62 rfl rfl)) <| Eq.trans (ite_cg ((s_il_5 p_53_65).trans <| (s_const p_53_67).trans <| (s_il_6 p_53_68).trans <| (s_ishl p_53_70).trans <| (s_ior p_53_71).trans <| (s_is_5 cat_i p_53_72).trans <| rfl) (rfl)) (phi1 (fun z0 => Z e (d + 1) 53 74 [.ref 206, .int (iI x1), .int (iI x2), .int (iI x3), .int (iI x4), .int (iI z0), .int (iI x6), .int (iI (if (wr x3) ≤ (wr x4) then (if ((wr x3) ≤ (wr x6)) ∧ ((wr x6) ≤ (wr x4)) then 1 else 0) else (if ((wr x3) ≤ (wr x6)) ∨ ((wr x6) ≤ (wr x4)) then 1 else 0)))] [] m))) <| (s_inc_6 cat_i p_53_74).trans <| (s_goto p_53_77 rfl).trans <| rfl) (rfl)
theorem b_53_80 {x1 : Int} {x2 : Int} {x5 : Int} {u3 u4 u6 u7 : Value} : Z e (d + 1) 53 80 [.ref 206, .int (iI x1), .int (iI x2), u3, u4, .int (iI x5), u6, u7] [] m = (Z e d 106 0 [.ref 14, .retAddr 0] [] m).bind (ZK e (d + 1) 53 90 [.ref 206, .int (iI x1), .int (iI x2), u3, u4, .int (iI x5), u6, u7] [] m) := (s_al_0 p_53_80).trans <| (s_getr p_53_81 hs_206 (by decide) rfl).trans <| (s_getr p_53_84 hs_1 (by decide) rfl).trans <| (s_cv0 (Lc := [.ref 14, .retAddr 0]) p_53_87 (by decide) (by decide) (zM_of zq_106) ⟨Nat.le_of_ble_eq_true rfl, Nat.le_of_ble_eq_true rfl⟩ rfl (m_rc hs_14 ⟨rfl, by decide⟩))
theorem b_53_90 {x1 : Int} {x2 : Int} {x5 : Int} {xs0 : Int} {u3 u4 u6 u7 : Value} : Z e (d + 1) 53 90 [.ref 206, .int (iI x1), .int (iI x2), u3, u4, .int (iI x5), u6, u7] [.int (iI xs0)] m = (Z e d 105 0 [.ref 14, .int (iI xs0), .int (iI 0), .int (iI x1)] [] m).bind (ZK e (d + 1) 53 106 [.ref 206, .int (iI x1), .int (iI x2), u3, u4, .int (iI x5), .int (iI xs0), u7] [] m) := (s_is_6 cat_i p_53_90).trans <| (s_al_0 p_53_92).trans <| (s_getr p_53_93 hs_206 (by decide) rfl).trans <| (s_getr p_53_96 hs_1 (by decide) rfl).trans <| (s_il_6 p_53_99).trans <| (s_const p_53_101).trans <| (s_il_1 p_53_102).trans <| (s_cv3 (Lc := [.ref 14, .int (iI xs0), .int (iI 0), .int (iI x1)]) p_53_103 (by decide) (by decide) (zM_of zq_105) ⟨Nat.le_of_ble_eq_true rfl, Nat.le_of_ble_eq_true rfl⟩ rfl (m_rc hs_14 ⟨rfl, by decide⟩))
theorem b_53_106 {x2 : Int} {x5 : Int} {x6 : Int} {u1 u3 u4 u7 : Value} : Z e (d + 1) 53 106 [.ref 206, u1, .int (iI x2), u3, u4, .int (iI x5), .int (iI x6), u7] [] m = (Z e d 105 0 [.ref 14, .int (iI x6), .int (iI 1), .int (iI x2)] [] m).bind (ZK e (d + 1) 53 120 [.ref 206, u1, .int (iI x2), u3, u4, .int (iI x5), .int (iI x6), u7] [] m) := (s_al_0 p_53_106).trans <| (s_getr p_53_107 hs_206 (by decide) rfl).trans <| (s_getr p_53_110 hs_1 (by decide) rfl).trans <| (s_il_6 p_53_113).trans <| (s_const p_53_115).trans <| (s_il_2 p_53_116).trans <| (s_cv3 (Lc := [.ref 14, .int (iI x6), .int (iI 1), .int (iI x2)]) p_53_117 (by decide) (by decide) (zM_of zq_105) ⟨Nat.le_of_ble_eq_true rfl, Nat.le_of_ble_eq_true rfl⟩ rfl (m_rc hs_14 ⟨rfl, by decide⟩))
theorem b_53_120 {x5 : Int} {x6 : Int} {u1 u2 u3 u4 u7 : Value} : Z e (d + 1) 53 120 [.ref 206, u1, u2, u3, u4, .int (iI x5), .int (iI x6), u7] [] m = (Z e d 105 0 [.ref 14, .int (iI x6), .int (iI 2), .int (iI x5)] [] m).bind (ZK e (d + 1) 53 135 [.ref 206, u1, u2, u3, u4, .int (iI x5), .int (iI x6), u7] [] m) := (s_al_0 p_53_120).trans <| (s_getr p_53_121 hs_206 (by decide) rfl).trans <| (s_getr p_53_124 hs_1 (by decide) rfl).trans <| (s_il_6 p_53_127).trans <| (s_const p_53_129).trans <| (s_il_5 p_53_130).trans <| (s_cv3 (Lc := [.ref 14, .int (iI x6), .int (iI 2), .int (iI x5)]) p_53_132 (by decide) (by decide) (zM_of zq_105) ⟨Nat.le_of_ble_eq_true rfl, Nat.le_of_ble_eq_true rfl⟩ rfl (m_rc hs_14 ⟨rfl, by decide⟩))
theorem b_53_135 {x6 : Int} {u0 u1 u2 u3 u4 u5 u7 : Value} : Z e (d + 1) 53 135 [u0, u1, u2, u3, u4, u5, .int (iI x6), u7] [] m = ri x6 m := (s_il_6 p_53_135).trans <| (s_reti p_53_137 (zM_of zq_53))
-- Posts.seers
theorem p_55_0 : zP1 55 0 = some (.iconst 0, 0, 0, 0) := zp_l zq_55 rfl
theorem p_55_1 : zP1 55 1 = some (.istore_n 3, 0, 0, 0) := zp_l zq_55 rfl
theorem p_55_2 : zP1 55 2 = some (.iconst 0, 0, 0, 0) := zp_l zq_55 rfl
theorem p_55_3 : zP1 55 3 = some (.istore 4, 0, 0, 0) := zp_l zq_55 rfl
theorem p_55_5 : zP1 55 5 = some (.iload 4, 0, 0, 0) := zp_l zq_55 rfl
theorem p_55_7 : zP1 55 7 = some (.aload_n 0, 0, 0, 0) := zp_l zq_55 rfl
theorem p_55_8 : zP1 55 8 = some (.getfield 15, 3, 0, 0) := zp_r zq_55 rfl
theorem p_55_11 : zP1 55 11 = some (.getfield 19, 9, 10, 0) := zp_r zq_55 rfl
theorem p_55_14 : zP1 55 14 = some (.getfield 42, 7, 3, 0) := zp_r zq_55 rfl
theorem p_55_17 : zP1 55 17 = some (.if_icmp .ge 59, 0, 0, 0) := zp_l zq_55 rfl
theorem p_55_20 : zP1 55 20 = some (.aload_n 0, 0, 0, 0) := zp_l zq_55 rfl
theorem p_55_21 : zP1 55 21 = some (.getfield 15, 3, 0, 0) := zp_r zq_55 rfl
theorem p_55_24 : zP1 55 24 = some (.getfield 19, 9, 10, 0) := zp_r zq_55 rfl
theorem p_55_27 : zP1 55 27 = some (.iload 4, 0, 0, 0) := zp_l zq_55 rfl
theorem p_55_29 : zP1 55 29 = some (.iconst 2, 0, 0, 0) := zp_l zq_55 rfl
theorem p_55_30 : zP1 55 30 = some (.invokevirtual 35, 104, 2, 7) := zp_r zq_55 rfl
theorem p_55_33 : zP1 55 33 = some (.iload_n 2, 0, 0, 0) := zp_l zq_55 rfl
theorem p_55_34 : zP1 55 34 = some (.ishr, 0, 0, 0) := zp_l zq_55 rfl
theorem p_55_35 : zP1 55 35 = some (.iconst 1, 0, 0, 0) := zp_l zq_55 rfl
theorem p_55_36 : zP1 55 36 = some (.iand, 0, 0, 0) := zp_l zq_55 rfl
theorem p_55_37 : zP1 55 37 = some (.iconst 1, 0, 0, 0) := zp_l zq_55 rfl
theorem p_55_38 : zP1 55 38 = some (.if_icmp .ne 7, 0, 0, 0) := zp_l zq_55 rfl
theorem p_55_41 : zP1 55 41 = some (.iconst 1, 0, 0, 0) := zp_l zq_55 rfl
theorem p_55_42 : zP1 55 42 = some (.goto 4, 0, 0, 0) := zp_l zq_55 rfl
theorem p_55_45 : zP1 55 45 = some (.iconst 0, 0, 0, 0) := zp_l zq_55 rfl
theorem p_55_46 : zP1 55 46 = some (.istore 5, 0, 0, 0) := zp_l zq_55 rfl
theorem p_55_48 : zP1 55 48 = some (.iload 5, 0, 0, 0) := zp_l zq_55 rfl
theorem p_55_50 : zP1 55 50 = some (.ifCond .eq 20, 0, 0, 0) := zp_l zq_55 rfl
theorem p_55_53 : zP1 55 53 = some (.aload_n 0, 0, 0, 0) := zp_l zq_55 rfl
theorem p_55_54 : zP1 55 54 = some (.iload 4, 0, 0, 0) := zp_l zq_55 rfl
theorem p_55_56 : zP1 55 56 = some (.iload_n 1, 0, 0, 0) := zp_l zq_55 rfl
theorem p_55_57 : zP1 55 57 = some (.invokevirtual 46, 54, 2, 3) := zp_r zq_55 rfl
theorem p_55_60 : zP1 55 60 = some (.ifCond .eq 10, 0, 0, 0) := zp_l zq_55 rfl
theorem p_55_63 : zP1 55 63 = some (.iload_n 3, 0, 0, 0) := zp_l zq_55 rfl
theorem p_55_64 : zP1 55 64 = some (.iconst 1, 0, 0, 0) := zp_l zq_55 rfl
theorem p_55_65 : zP1 55 65 = some (.iload 4, 0, 0, 0) := zp_l zq_55 rfl
theorem p_55_67 : zP1 55 67 = some (.ishl, 0, 0, 0) := zp_l zq_55 rfl
theorem p_55_68 : zP1 55 68 = some (.ior, 0, 0, 0) := zp_l zq_55 rfl
theorem p_55_69 : zP1 55 69 = some (.istore_n 3, 0, 0, 0) := zp_l zq_55 rfl
theorem p_55_70 : zP1 55 70 = some (.iinc 4 1, 0, 0, 0) := zp_l zq_55 rfl
theorem p_55_73 : zP1 55 73 = some (.goto (-68), 0, 0, 0) := zp_l zq_55 rfl
theorem p_55_76 : zP1 55 76 = some (.iload_n 3, 0, 0, 0) := zp_l zq_55 rfl
theorem p_55_77 : zP1 55 77 = some (.ireturn, 0, 0, 0) := zp_l zq_55 rfl
theorem b_55_0 {x1 : Int} {x2 : Int} : Z e (d + 1) 55 0 [.ref 206, .int (iI x1), .int (iI x2), .retAddr 0, .retAddr 0, .retAddr 0] [] m = Z e (d + 1) 55 5 [.ref 206, .int (iI x1), .int (iI x2), .int (iI 0), .int (iI 0), .retAddr 0] [] m := (s_const p_55_0).trans <| (s_is_3 cat_i p_55_1).trans <| (s_const p_55_2).trans <| (s_is_4 cat_i p_55_3).trans <| rfl
theorem b_55_5 {x1 : Int} {x2 : Int} {x3 : Int} {x4 : Int} {u5 : Value} : Z e (d + 1) 55 5 [.ref 206, .int (iI x1), .int (iI x2), .int (iI x3), .int (iI x4), u5] [] m = (if (wr x4) < (wr (m 14 3)) then (Z e d 104 0 [.ref 14, .int (iI x4), .int (iI 2)] [] m).bind (ZK e (d + 1) 55 33 [.ref 206, .int (iI x1), .int (iI x2), .int (iI x3), .int (iI x4), u5] [] m) else ri x3 m) := (s_il_4 p_55_5).trans <| (s_al_0 p_55_7).trans <| (s_getr p_55_8 hs_206 (by decide) rfl).trans <| (s_getr p_55_11 hs_1 (by decide) rfl).trans <| (s_get p_55_14 hs_14 (by decide) rfl).trans <| Eq.trans ((s_c_ge_f p_55_17 rfl rfl rfl)) <| ite_cg ((s_al_0 p_55_20).trans <| (s_getr p_55_21 hs_206 (by decide) rfl).trans <| (s_getr p_55_24 hs_1 (by decide) rfl).trans <| (s_il_4 p_55_27).trans <| (s_const p_55_29).trans <| (s_cv2 (Lc := [.ref 14, .int (iI x4), .int (iI 2)]) p_55_30 (by decide) (by decide) (zM_of zq_104) ⟨Nat.le_of_ble_eq_true rfl, Nat.le_of_ble_eq_true rfl⟩ rfl (m_rc hs_14 ⟨rfl, by decide⟩))) ((s_il_3 p_55_76).trans <| (s_reti p_55_77 (zM_of zq_55)))
theorem b_55_33 {x1 : Int} {x2 : Int} {x3 : Int} {x4 : Int} {xs0 : Int} {u5 : Value} : Z e (d + 1) 55 33 [.ref 206, .int (iI x1), .int (iI x2), .int (iI x3), .int (iI x4), u5] [.int (iI xs0)] m = (if (jand (jshr xs0 x2) 1) = 1 then (Z e d 54 0 [.ref 206, .int (iI x4), .int (iI x1)] [] m).bind (ZK e (d + 1) 55 60 [.ref 206, .int (iI x1), .int (iI x2), .int (iI x3), .int (iI x4), .int (iI (if (jand (jshr xs0 x2) 1) = 1 then 1 else 0))] [] m) else Z e (d + 1) 55 5 [.ref 206, .int (iI x1), .int (iI x2), .int (iI x3), .int (iI (x4 + 1)), .int (iI (if (jand (jshr xs0 x2) 1) = 1 then 1 else 0))] [] m) := (s_il_2 p_55_33).trans <| (s_ishr p_55_34).trans <| (s_const p_55_35).trans <| (s_iand p_55_36).trans <| (s_const p_55_37).trans <| Eq.trans (Eq.trans ((s_c_ne_f p_55_38 rfl wr_jand wl_1)) <| Eq.trans (ite_cg ((s_const p_55_41).trans <| (s_goto p_55_42 rfl).trans <| rfl) ((s_const p_55_45).trans <| rfl)) (phi1 (fun z0 => Z e (d + 1) 55 46 [.ref 206, .int (iI x1), .int (iI x2), .int (iI x3), .int (iI x4), u5] [.int (iI z0)] m))) <| (s_is_5 cat_i p_55_46).trans <| (s_il_5 p_55_48).trans <| Eq.trans ((s_beq_f p_55_50 rfl)) <| ite_cg ((s_al_0 p_55_53).trans <| (s_il_4 p_55_54).trans <| (s_il_1 p_55_56).trans <| (s_cv2 (Lc := [.ref 206, .int (iI x4), .int (iI x1)]) p_55_57 (by decide) (by decide) (zM_of zq_54) ⟨Nat.le_of_ble_eq_true rfl, Nat.le_of_ble_eq_true rfl⟩ rfl (m_rc hs_206 ⟨rfl, by decide⟩))) ((s_inc_4 cat_i p_55_70).trans <| (s_goto p_55_73 rfl).trans <| rfl)
theorem b_55_60 {x1 : Int} {x2 : Int} {x3 : Int} {x4 : Int} {xs0 : Int} {u5 : Value} : Z e (d + 1) 55 60 [.ref 206, .int (iI x1), .int (iI x2), .int (iI x3), .int (iI x4), u5] [.int (iI xs0)] m = Z e (d + 1) 55 5 [.ref 206, .int (iI x1), .int (iI x2), .int (iI (if ¬ (wr xs0) = 0 then (jor x3 (jshl 1 x4)) else x3)), .int (iI (x4 + 1)), u5] [] m := Eq.trans (Eq.trans ((s_z_eq_f p_55_60 rfl rfl)) <| Eq.trans (ite_cg ((s_il_3 p_55_63).trans <| (s_const p_55_64).trans <| (s_il_4 p_55_65).trans <| (s_ishl p_55_67).trans <| (s_ior p_55_68).trans <| (s_is_3 cat_i p_55_69).trans <| rfl) (rfl)) (phi1 (fun z0 => Z e (d + 1) 55 70 [.ref 206, .int (iI x1), .int (iI x2), .int (iI z0), .int (iI x4), u5] [] m))) <| (s_inc_4 cat_i p_55_70).trans <| (s_goto p_55_73 rfl).trans <| rfl
-- Posts.longestGap
theorem p_57_0 : zP1 57 0 = some (.aload_n 0, 0, 0, 0) := zp_l zq_57 rfl
theorem p_57_1 : zP1 57 1 = some (.iload_n 1, 0, 0, 0) := zp_l zq_57 rfl
theorem p_57_2 : zP1 57 2 = some (.invokevirtual 50, 56, 1, 3) := zp_r zq_57 rfl
theorem p_57_5 : zP1 57 5 = some (.istore_n 2, 0, 0, 0) := zp_l zq_57 rfl
theorem p_57_6 : zP1 57 6 = some (.iload_n 2, 0, 0, 0) := zp_l zq_57 rfl
theorem p_57_7 : zP1 57 7 = some (.ifCond .ne 6, 0, 0, 0) := zp_l zq_57 rfl
theorem p_57_10 : zP1 57 10 = some (.bipush 24, 0, 0, 0) := zp_l zq_57 rfl
theorem p_57_12 : zP1 57 12 = some (.ireturn, 0, 0, 0) := zp_l zq_57 rfl
theorem p_57_13 : zP1 57 13 = some (.iconst 0, 0, 0, 0) := zp_l zq_57 rfl
theorem p_57_14 : zP1 57 14 = some (.istore_n 3, 0, 0, 0) := zp_l zq_57 rfl
theorem p_57_15 : zP1 57 15 = some (.iconst 0, 0, 0, 0) := zp_l zq_57 rfl
theorem p_57_16 : zP1 57 16 = some (.istore 4, 0, 0, 0) := zp_l zq_57 rfl
theorem p_57_18 : zP1 57 18 = some (.iconst 0, 0, 0, 0) := zp_l zq_57 rfl
theorem p_57_19 : zP1 57 19 = some (.istore 5, 0, 0, 0) := zp_l zq_57 rfl
theorem p_57_21 : zP1 57 21 = some (.iload 5, 0, 0, 0) := zp_l zq_57 rfl
theorem p_57_23 : zP1 57 23 = some (.bipush 48, 0, 0, 0) := zp_l zq_57 rfl
theorem p_57_25 : zP1 57 25 = some (.if_icmp .ge 39, 0, 0, 0) := zp_l zq_57 rfl
theorem p_57_28 : zP1 57 28 = some (.iload_n 2, 0, 0, 0) := zp_l zq_57 rfl
theorem p_57_29 : zP1 57 29 = some (.iload 5, 0, 0, 0) := zp_l zq_57 rfl
theorem p_57_31 : zP1 57 31 = some (.bipush 24, 0, 0, 0) := zp_l zq_57 rfl
theorem p_57_33 : zP1 57 33 = some (.irem, 0, 0, 0) := zp_l zq_57 rfl
theorem p_57_34 : zP1 57 34 = some (.ishr, 0, 0, 0) := zp_l zq_57 rfl
theorem p_57_35 : zP1 57 35 = some (.iconst 1, 0, 0, 0) := zp_l zq_57 rfl
theorem p_57_36 : zP1 57 36 = some (.iand, 0, 0, 0) := zp_l zq_57 rfl
theorem p_57_37 : zP1 57 37 = some (.iconst 1, 0, 0, 0) := zp_l zq_57 rfl
theorem p_57_38 : zP1 57 38 = some (.if_icmp .ne 7, 0, 0, 0) := zp_l zq_57 rfl
theorem p_57_41 : zP1 57 41 = some (.iconst 0, 0, 0, 0) := zp_l zq_57 rfl
theorem p_57_42 : zP1 57 42 = some (.goto 7, 0, 0, 0) := zp_l zq_57 rfl
theorem p_57_45 : zP1 57 45 = some (.iload 4, 0, 0, 0) := zp_l zq_57 rfl
theorem p_57_47 : zP1 57 47 = some (.iconst 1, 0, 0, 0) := zp_l zq_57 rfl
theorem p_57_48 : zP1 57 48 = some (.iadd, 0, 0, 0) := zp_l zq_57 rfl
theorem p_57_49 : zP1 57 49 = some (.istore 4, 0, 0, 0) := zp_l zq_57 rfl
theorem p_57_51 : zP1 57 51 = some (.iload_n 3, 0, 0, 0) := zp_l zq_57 rfl
theorem p_57_52 : zP1 57 52 = some (.iload 4, 0, 0, 0) := zp_l zq_57 rfl
theorem p_57_54 : zP1 57 54 = some (.invokestatic 54, 324, 2, 0) := zp_r zq_57 rfl
theorem p_57_57 : zP1 57 57 = some (.istore_n 3, 0, 0, 0) := zp_l zq_57 rfl
theorem p_57_58 : zP1 57 58 = some (.iinc 5 1, 0, 0, 0) := zp_l zq_57 rfl
theorem p_57_61 : zP1 57 61 = some (.goto (-40), 0, 0, 0) := zp_l zq_57 rfl
theorem p_57_64 : zP1 57 64 = some (.iload_n 3, 0, 0, 0) := zp_l zq_57 rfl
theorem p_57_65 : zP1 57 65 = some (.ireturn, 0, 0, 0) := zp_l zq_57 rfl
theorem b_57_0 {x1 : Int} : Z e (d + 1) 57 0 [.ref 206, .int (iI x1), .retAddr 0, .retAddr 0, .retAddr 0, .retAddr 0] [] m = (Z e d 56 0 [.ref 206, .int (iI x1), .retAddr 0, .retAddr 0] [] m).bind (ZK e (d + 1) 57 5 [.ref 206, .int (iI x1), .retAddr 0, .retAddr 0, .retAddr 0, .retAddr 0] [] m) := (s_al_0 p_57_0).trans <| (s_il_1 p_57_1).trans <| (s_cv1 (Lc := [.ref 206, .int (iI x1), .retAddr 0, .retAddr 0]) p_57_2 (by decide) (by decide) (zM_of zq_56) ⟨Nat.le_of_ble_eq_true rfl, Nat.le_of_ble_eq_true rfl⟩ rfl (m_rc hs_206 ⟨rfl, by decide⟩))
theorem b_57_21 {x2 : Int} {x3 : Int} {x4 : Int} {x5 : Int} {u0 u1 : Value} : Z e (d + 1) 57 21 [u0, u1, .int (iI x2), .int (iI x3), .int (iI x4), .int (iI x5)] [] m = (if (wr x5) < 48 then Z e (d + 1) 57 21 [u0, u1, .int (iI x2), .int (iI (if (wr (if (jand (jshr x2 (jrem x5 24)) 1) = 1 then 0 else (x4 + 1))) ≤ (wr x3) then x3 else (if (jand (jshr x2 (jrem x5 24)) 1) = 1 then 0 else (x4 + 1)))), .int (iI (if (jand (jshr x2 (jrem x5 24)) 1) = 1 then 0 else (x4 + 1))), .int (iI (x5 + 1))] [] m else ri x3 m) := (s_il_5 p_57_21).trans <| (s_bip p_57_23 rfl).trans <| Eq.trans ((s_c_ge_f p_57_25 rfl rfl wl_48)) <| ite_cg ((s_il_2 p_57_28).trans <| (s_il_5 p_57_29).trans <| (s_bip p_57_31 rfl).trans <| (s_iremc p_57_33 (by decide)).trans <| (s_ishr p_57_34).trans <| (s_const p_57_35).trans <| (s_iand p_57_36).trans <| (s_const p_57_37).trans <| Eq.trans (Eq.trans ((s_c_ne_f p_57_38 rfl wr_jand wl_1)) <| Eq.trans (ite_cg ((s_const p_57_41).trans <| (s_goto p_57_42 rfl).trans <| rfl) ((s_il_4 p_57_45).trans <| (s_const p_57_47).trans <| (s_iadd p_57_48).trans <| rfl)) (phi1 (fun z0 => Z e (d + 1) 57 49 [u0, u1, .int (iI x2), .int (iI x3), .int (iI x4), .int (iI x5)] [.int (iI z0)] m))) <| (s_is_4 cat_i p_57_49).trans <| (s_il_3 p_57_51).trans <| (s_il_4 p_57_52).trans <| (s_cs2 (Lc := [.int (iI x3), .int (iI (if (jand (jshr x2 (jrem x5 24)) 1) = 1 then 0 else (x4 + 1)))]) p_57_54 (by decide) (zM_of zq_324) ⟨Nat.le_of_ble_eq_true rfl, Nat.le_of_ble_eq_true rfl⟩ rfl).trans <| (bd b_324_0).trans <| ri_k.trans <| (s_is_3 cat_i p_57_57).trans <| (s_inc_5 cat_i p_57_58).trans <| (s_goto p_57_61 rfl).trans <| rfl) ((s_il_3 p_57_64).trans <| (s_reti p_57_65 (zM_of zq_57)))
theorem b_57_5 {xs0 : Int} {u0 u1 u2 u3 u4 u5 : Value} (hu1 : u1.category = 1) : Z e (d + 1) 57 5 [u0, u1, u2, u3, u4, u5] [.int (iI xs0)] m = (if (wr xs0) = 0 then ri 24 m else Z e (d + 1) 57 21 [u0, u1, .int (iI xs0), .int (iI 0), .int (iI 0), .int (iI 0)] [] m) := (s_is_2 hu1 p_57_5).trans <| (s_il_2 p_57_6).trans <| Eq.trans ((s_z_ne_f p_57_7 rfl rfl)) <| ite_cg ((s_bip p_57_10 rfl).trans <| (s_reti p_57_12 (zM_of zq_57))) ((s_const p_57_13).trans <| (s_is_3 cat_i p_57_14).trans <| (s_const p_57_15).trans <| (s_is_4 cat_i p_57_16).trans <| (s_const p_57_18).trans <| (s_is_5 cat_i p_57_19).trans <| rfl)
-- Posts.isNeeded
theorem p_60_0 : zP1 60 0 = some (.iconst 0, 0, 0, 0) := zp_l zq_60 rfl
theorem p_60_1 : zP1 60 1 = some (.istore_n 3, 0, 0, 0) := zp_l zq_60 rfl
theorem p_60_2 : zP1 60 2 = some (.iload_n 3, 0, 0, 0) := zp_l zq_60 rfl
theorem p_60_3 : zP1 60 3 = some (.iload_n 2, 0, 0, 0) := zp_l zq_60 rfl
theorem p_60_4 : zP1 60 4 = some (.if_icmp .ge 21, 0, 0, 0) := zp_l zq_60 rfl
theorem p_60_7 : zP1 60 7 = some (.aload_n 0, 0, 0, 0) := zp_l zq_60 rfl
theorem p_60_8 : zP1 60 8 = some (.getfield 9, 3, 1, 0) := zp_r zq_60 rfl
theorem p_60_11 : zP1 60 11 = some (.iload_n 3, 0, 0, 0) := zp_l zq_60 rfl
theorem p_60_12 : zP1 60 12 = some (.iaload, 0, 0, 0) := zp_l zq_60 rfl
theorem p_60_13 : zP1 60 13 = some (.iload_n 1, 0, 0, 0) := zp_l zq_60 rfl
theorem p_60_14 : zP1 60 14 = some (.if_icmp .ne 5, 0, 0, 0) := zp_l zq_60 rfl
theorem p_60_17 : zP1 60 17 = some (.iconst 1, 0, 0, 0) := zp_l zq_60 rfl
theorem p_60_18 : zP1 60 18 = some (.ireturn, 0, 0, 0) := zp_l zq_60 rfl
theorem p_60_19 : zP1 60 19 = some (.iinc 3 1, 0, 0, 0) := zp_l zq_60 rfl
theorem p_60_22 : zP1 60 22 = some (.goto (-20), 0, 0, 0) := zp_l zq_60 rfl
theorem p_60_25 : zP1 60 25 = some (.iconst 0, 0, 0, 0) := zp_l zq_60 rfl
theorem p_60_26 : zP1 60 26 = some (.ireturn, 0, 0, 0) := zp_l zq_60 rfl
theorem b_60_0 {x1 : Int} {x2 : Int} : Z e d 60 0 [.ref 206, .int (iI x1), .int (iI x2), .retAddr 0] [] m = Z e d 60 2 [.ref 206, .int (iI x1), .int (iI x2), .int (iI 0)] [] m := (s_const p_60_0).trans <| (s_is_3 cat_i p_60_1).trans <| rfl
theorem b_60_2 {x1 : Int} {x2 : Int} {x3 : Int} : Z e d 60 2 [.ref 206, .int (iI x1), .int (iI x2), .int (iI x3)] [] m = (if (wr x3) < (wr x2) then ck (0 ≤ (wr x3) ∧ (wr x3) < 256) ((if (wr (m 207 (wr x3))) = (wr x1) then ri 1 m else Z e d 60 2 [.ref 206, .int (iI x1), .int (iI x2), .int (iI (x3 + 1))] [] m)) else ri 0 m) := (s_il_3 p_60_2).trans <| (s_il_2 p_60_3).trans <| Eq.trans ((s_c_ge_f p_60_4 rfl rfl rfl)) <| ite_cg ((s_al_0 p_60_7).trans <| (s_getr p_60_8 hs_206 (by decide) rfl).trans <| (s_il_3 p_60_11).trans <| (s_ald 256 p_60_12 hs_207 rfl (by decide)).trans <| ck_cg fun k1 => (s_il_1 p_60_13).trans <| Eq.trans ((s_c_ne_f p_60_14 rfl rfl rfl)) <| ite_cg ((s_const p_60_17).trans <| (s_retk rfl p_60_18 (zM_of zq_60))) ((s_inc_3 cat_i p_60_19).trans <| (s_goto p_60_22 rfl).trans <| rfl)) ((s_const p_60_25).trans <| (s_retk rfl p_60_26 (zM_of zq_60)))
-- Posts.gatherNeeds
theorem p_59_0 : zP1 59 0 = some (.iconst 0, 0, 0, 0) := zp_l zq_59 rfl
theorem p_59_1 : zP1 59 1 = some (.istore_n 1, 0, 0, 0) := zp_l zq_59 rfl
theorem p_59_2 : zP1 59 2 = some (.iconst 0, 0, 0, 0) := zp_l zq_59 rfl
theorem p_59_3 : zP1 59 3 = some (.istore_n 2, 0, 0, 0) := zp_l zq_59 rfl
theorem p_59_4 : zP1 59 4 = some (.iload_n 2, 0, 0, 0) := zp_l zq_59 rfl
theorem p_59_5 : zP1 59 5 = some (.aload_n 0, 0, 0, 0) := zp_l zq_59 rfl
theorem p_59_6 : zP1 59 6 = some (.getfield 15, 3, 0, 0) := zp_r zq_59 rfl
theorem p_59_9 : zP1 59 9 = some (.getfield 70, 9, 6, 0) := zp_r zq_59 rfl
theorem p_59_12 : zP1 59 12 = some (.getfield 42, 7, 3, 0) := zp_r zq_59 rfl
theorem p_59_15 : zP1 59 15 = some (.if_icmp .ge 82, 0, 0, 0) := zp_l zq_59 rfl
theorem p_59_18 : zP1 59 18 = some (.aload_n 0, 0, 0, 0) := zp_l zq_59 rfl
theorem p_59_19 : zP1 59 19 = some (.getfield 15, 3, 0, 0) := zp_r zq_59 rfl
theorem p_59_22 : zP1 59 22 = some (.getfield 70, 9, 6, 0) := zp_r zq_59 rfl
theorem p_59_25 : zP1 59 25 = some (.iload_n 2, 0, 0, 0) := zp_l zq_59 rfl
theorem p_59_26 : zP1 59 26 = some (.iconst 0, 0, 0, 0) := zp_l zq_59 rfl
theorem p_59_27 : zP1 59 27 = some (.invokevirtual 35, 104, 2, 7) := zp_r zq_59 rfl
theorem p_59_30 : zP1 59 30 = some (.istore_n 3, 0, 0, 0) := zp_l zq_59 rfl
theorem p_59_31 : zP1 59 31 = some (.iconst 0, 0, 0, 0) := zp_l zq_59 rfl
theorem p_59_32 : zP1 59 32 = some (.istore 4, 0, 0, 0) := zp_l zq_59 rfl
theorem p_59_34 : zP1 59 34 = some (.iload 4, 0, 0, 0) := zp_l zq_59 rfl
theorem p_59_36 : zP1 59 36 = some (.bipush 24, 0, 0, 0) := zp_l zq_59 rfl
theorem p_59_38 : zP1 59 38 = some (.if_icmp .ge 53, 0, 0, 0) := zp_l zq_59 rfl
theorem p_59_41 : zP1 59 41 = some (.aload_n 0, 0, 0, 0) := zp_l zq_59 rfl
theorem p_59_42 : zP1 59 42 = some (.iload_n 3, 0, 0, 0) := zp_l zq_59 rfl
theorem p_59_43 : zP1 59 43 = some (.iload 4, 0, 0, 0) := zp_l zq_59 rfl
theorem p_59_45 : zP1 59 45 = some (.invokevirtual 73, 55, 2, 3) := zp_r zq_59 rfl
theorem p_59_48 : zP1 59 48 = some (.istore 5, 0, 0, 0) := zp_l zq_59 rfl
theorem p_59_50 : zP1 59 50 = some (.iload 5, 0, 0, 0) := zp_l zq_59 rfl
theorem p_59_52 : zP1 59 52 = some (.ifCond .eq 33, 0, 0, 0) := zp_l zq_59 rfl
theorem p_59_55 : zP1 59 55 = some (.aload_n 0, 0, 0, 0) := zp_l zq_59 rfl
theorem p_59_56 : zP1 59 56 = some (.iload 5, 0, 0, 0) := zp_l zq_59 rfl
theorem p_59_58 : zP1 59 58 = some (.iload_n 1, 0, 0, 0) := zp_l zq_59 rfl
theorem p_59_59 : zP1 59 59 = some (.invokevirtual 76, 60, 2, 3) := zp_r zq_59 rfl
theorem p_59_62 : zP1 59 62 = some (.ifCond .ne 23, 0, 0, 0) := zp_l zq_59 rfl
theorem p_59_65 : zP1 59 65 = some (.iload_n 1, 0, 0, 0) := zp_l zq_59 rfl
theorem p_59_66 : zP1 59 66 = some (.aload_n 0, 0, 0, 0) := zp_l zq_59 rfl
theorem p_59_67 : zP1 59 67 = some (.getfield 9, 3, 1, 0) := zp_r zq_59 rfl
theorem p_59_70 : zP1 59 70 = some (.arraylength, 0, 0, 0) := zp_l zq_59 rfl
theorem p_59_71 : zP1 59 71 = some (.if_icmp .ge 14, 0, 0, 0) := zp_l zq_59 rfl
theorem p_59_74 : zP1 59 74 = some (.aload_n 0, 0, 0, 0) := zp_l zq_59 rfl
theorem p_59_75 : zP1 59 75 = some (.getfield 9, 3, 1, 0) := zp_r zq_59 rfl
theorem p_59_78 : zP1 59 78 = some (.iload_n 1, 0, 0, 0) := zp_l zq_59 rfl
theorem p_59_79 : zP1 59 79 = some (.iload 5, 0, 0, 0) := zp_l zq_59 rfl
theorem p_59_81 : zP1 59 81 = some (.iastore, 0, 0, 0) := zp_l zq_59 rfl
theorem p_59_82 : zP1 59 82 = some (.iinc 1 1, 0, 0, 0) := zp_l zq_59 rfl
theorem p_59_85 : zP1 59 85 = some (.iinc 4 1, 0, 0, 0) := zp_l zq_59 rfl
theorem p_59_88 : zP1 59 88 = some (.goto (-54), 0, 0, 0) := zp_l zq_59 rfl
theorem p_59_91 : zP1 59 91 = some (.iinc 2 1, 0, 0, 0) := zp_l zq_59 rfl
theorem p_59_94 : zP1 59 94 = some (.goto (-90), 0, 0, 0) := zp_l zq_59 rfl
theorem p_59_97 : zP1 59 97 = some (.iload_n 1, 0, 0, 0) := zp_l zq_59 rfl
theorem p_59_98 : zP1 59 98 = some (.ireturn, 0, 0, 0) := zp_l zq_59 rfl
theorem b_59_0 : Z e (d + 1) 59 0 [.ref 206, .retAddr 0, .retAddr 0, .retAddr 0, .retAddr 0, .retAddr 0] [] m = Z e (d + 1) 59 4 [.ref 206, .int (iI 0), .int (iI 0), .retAddr 0, .retAddr 0, .retAddr 0] [] m := (s_const p_59_0).trans <| (s_is_1 cat_r p_59_1).trans <| (s_const p_59_2).trans <| (s_is_2 cat_i p_59_3).trans <| rfl
theorem b_59_4 {x1 : Int} {x2 : Int} {u3 u4 u5 : Value} : Z e (d + 1) 59 4 [.ref 206, .int (iI x1), .int (iI x2), u3, u4, u5] [] m = (if (wr x2) < (wr (m 6 3)) then (Z e d 104 0 [.ref 6, .int (iI x2), .int (iI 0)] [] m).bind (ZK e (d + 1) 59 30 [.ref 206, .int (iI x1), .int (iI x2), u3, u4, u5] [] m) else ri x1 m) := (s_il_2 p_59_4).trans <| (s_al_0 p_59_5).trans <| (s_getr p_59_6 hs_206 (by decide) rfl).trans <| (s_getr p_59_9 hs_1 (by decide) rfl).trans <| (s_get p_59_12 hs_6 (by decide) rfl).trans <| Eq.trans ((s_c_ge_f p_59_15 rfl rfl rfl)) <| ite_cg ((s_al_0 p_59_18).trans <| (s_getr p_59_19 hs_206 (by decide) rfl).trans <| (s_getr p_59_22 hs_1 (by decide) rfl).trans <| (s_il_2 p_59_25).trans <| (s_const p_59_26).trans <| (s_cv2 (Lc := [.ref 6, .int (iI x2), .int (iI 0)]) p_59_27 (by decide) (by decide) (zM_of zq_104) ⟨Nat.le_of_ble_eq_true rfl, Nat.le_of_ble_eq_true rfl⟩ rfl (m_rc hs_6 ⟨rfl, by decide⟩))) ((s_il_1 p_59_97).trans <| (s_reti p_59_98 (zM_of zq_59)))
theorem b_59_34 {x1 : Int} {x2 : Int} {x3 : Int} {x4 : Int} {u5 : Value} : Z e (d + 1) 59 34 [.ref 206, .int (iI x1), .int (iI x2), .int (iI x3), .int (iI x4), u5] [] m = (if (wr x4) < 24 then (Z e d 55 0 [.ref 206, .int (iI x3), .int (iI x4), .retAddr 0, .retAddr 0, .retAddr 0] [] m).bind (ZK e (d + 1) 59 48 [.ref 206, .int (iI x1), .int (iI x2), .int (iI x3), .int (iI x4), u5] [] m) else Z e (d + 1) 59 4 [.ref 206, .int (iI x1), .int (iI (x2 + 1)), .int (iI x3), .int (iI x4), u5] [] m) := (s_il_4 p_59_34).trans <| (s_bip p_59_36 rfl).trans <| Eq.trans ((s_c_ge_f p_59_38 rfl rfl wl_24)) <| ite_cg ((s_al_0 p_59_41).trans <| (s_il_3 p_59_42).trans <| (s_il_4 p_59_43).trans <| (s_cv2 (Lc := [.ref 206, .int (iI x3), .int (iI x4), .retAddr 0, .retAddr 0, .retAddr 0]) p_59_45 (by decide) (by decide) (zM_of zq_55) ⟨Nat.le_of_ble_eq_true rfl, Nat.le_of_ble_eq_true rfl⟩ rfl (m_rc hs_206 ⟨rfl, by decide⟩))) ((s_inc_2 cat_i p_59_91).trans <| (s_goto p_59_94 rfl).trans <| rfl)
theorem b_59_30 {x1 : Int} {x2 : Int} {xs0 : Int} {u3 u4 u5 : Value} : Z e (d + 1) 59 30 [.ref 206, .int (iI x1), .int (iI x2), u3, u4, u5] [.int (iI xs0)] m = Z e (d + 1) 59 34 [.ref 206, .int (iI x1), .int (iI x2), .int (iI xs0), .int (iI 0), u5] [] m := (s_is_3 cat_i p_59_30).trans <| (s_const p_59_31).trans <| (s_is_4 cat_i p_59_32).trans <| rfl
theorem b_59_48 {x1 : Int} {x2 : Int} {x3 : Int} {x4 : Int} {xs0 : Int} {u5 : Value} : Z e (d + 1) 59 48 [.ref 206, .int (iI x1), .int (iI x2), .int (iI x3), .int (iI x4), u5] [.int (iI xs0)] m = (if ¬ (wr xs0) = 0 then (Z e d 60 0 [.ref 206, .int (iI xs0), .int (iI x1), .retAddr 0] [] m).bind (ZK e (d + 1) 59 62 [.ref 206, .int (iI x1), .int (iI x2), .int (iI x3), .int (iI x4), .int (iI xs0)] [] m) else Z e (d + 1) 59 34 [.ref 206, .int (iI x1), .int (iI x2), .int (iI x3), .int (iI (x4 + 1)), .int (iI xs0)] [] m) := (s_is_5 cat_i p_59_48).trans <| (s_il_5 p_59_50).trans <| Eq.trans ((s_z_eq_f p_59_52 rfl rfl)) <| ite_cg ((s_al_0 p_59_55).trans <| (s_il_5 p_59_56).trans <| (s_il_1 p_59_58).trans <| (s_cv2 (Lc := [.ref 206, .int (iI xs0), .int (iI x1), .retAddr 0]) p_59_59 (by decide) (by decide) (zM_of zq_60) ⟨Nat.le_of_ble_eq_true rfl, Nat.le_of_ble_eq_true rfl⟩ rfl (m_rc hs_206 ⟨rfl, by decide⟩))) ((s_inc_4 cat_i p_59_85).trans <| (s_goto p_59_88 rfl).trans <| rfl)
theorem b_59_62 {x1 : Int} {x2 : Int} {x3 : Int} {x4 : Int} {x5 : Int} {xs0 : Int} : Z e (d + 1) 59 62 [.ref 206, .int (iI x1), .int (iI x2), .int (iI x3), .int (iI x4), .int (iI x5)] [.int (iI xs0)] m = (if ((wr xs0) = 0) ∧ ((wr x1) < 256) then ck (0 ≤ (wr x1) ∧ (wr x1) < 256) (Z e (d + 1) 59 34 [.ref 206, .int (iI (x1 + 1)), .int (iI x2), .int (iI x3), .int (iI (x4 + 1)), .int (iI x5)] [] (um m 207 (wr x1) x5)) else Z e (d + 1) 59 34 [.ref 206, .int (iI x1), .int (iI x2), .int (iI x3), .int (iI (x4 + 1)), .int (iI x5)] [] m) := Eq.trans (Eq.trans (s_z_ne_f p_59_62 rfl rfl) <| Eq.trans (ite_cg ((s_il_1 p_59_65).trans <| (s_al_0 p_59_66).trans <| (s_getr p_59_67 hs_206 (by decide) rfl).trans <| (s_len 256 p_59_70 hs_207 rfl (by decide)).trans <| (s_c_ge_f p_59_71 rfl rfl wl_256)) rfl) co_and) <| ite_cg ((s_al_0 p_59_74).trans <| (s_getr p_59_75 hs_206 (by decide) rfl).trans <| (s_il_1 p_59_78).trans <| (s_il_5 p_59_79).trans <| (s_ast 256 p_59_81 hs_207 rfl).trans <| ck_cg fun k1 => (s_inc_1 cat_r p_59_82).trans <| (s_inc_4 cat_i p_59_85).trans <| (s_goto p_59_88 rfl).trans <| rfl) ((s_inc_4 cat_i p_59_85).trans <| (s_goto p_59_88 rfl).trans <| rfl)
-- Posts.meetsNeeds
theorem p_61_0 : zP1 61 0 = some (.iconst 0, 0, 0, 0) := zp_l zq_61 rfl
theorem p_61_1 : zP1 61 1 = some (.istore_n 3, 0, 0, 0) := zp_l zq_61 rfl
theorem p_61_2 : zP1 61 2 = some (.iload_n 3, 0, 0, 0) := zp_l zq_61 rfl
theorem p_61_3 : zP1 61 3 = some (.iload_n 2, 0, 0, 0) := zp_l zq_61 rfl
theorem p_61_4 : zP1 61 4 = some (.if_icmp .ge 22, 0, 0, 0) := zp_l zq_61 rfl
theorem p_61_7 : zP1 61 7 = some (.aload_n 0, 0, 0, 0) := zp_l zq_61 rfl
theorem p_61_8 : zP1 61 8 = some (.getfield 9, 3, 1, 0) := zp_r zq_61 rfl
theorem p_61_11 : zP1 61 11 = some (.iload_n 3, 0, 0, 0) := zp_l zq_61 rfl
theorem p_61_12 : zP1 61 12 = some (.iaload, 0, 0, 0) := zp_l zq_61 rfl
theorem p_61_13 : zP1 61 13 = some (.iload_n 1, 0, 0, 0) := zp_l zq_61 rfl
theorem p_61_14 : zP1 61 14 = some (.iand, 0, 0, 0) := zp_l zq_61 rfl
theorem p_61_15 : zP1 61 15 = some (.ifCond .ne 5, 0, 0, 0) := zp_l zq_61 rfl
theorem p_61_18 : zP1 61 18 = some (.iconst 0, 0, 0, 0) := zp_l zq_61 rfl
theorem p_61_19 : zP1 61 19 = some (.ireturn, 0, 0, 0) := zp_l zq_61 rfl
theorem p_61_20 : zP1 61 20 = some (.iinc 3 1, 0, 0, 0) := zp_l zq_61 rfl
theorem p_61_23 : zP1 61 23 = some (.goto (-21), 0, 0, 0) := zp_l zq_61 rfl
theorem p_61_26 : zP1 61 26 = some (.iconst 1, 0, 0, 0) := zp_l zq_61 rfl
theorem p_61_27 : zP1 61 27 = some (.ireturn, 0, 0, 0) := zp_l zq_61 rfl
theorem b_61_0 {x1 : Int} {x2 : Int} : Z e d 61 0 [.ref 206, .int (iI x1), .int (iI x2), .retAddr 0] [] m = Z e d 61 2 [.ref 206, .int (iI x1), .int (iI x2), .int (iI 0)] [] m := (s_const p_61_0).trans <| (s_is_3 cat_i p_61_1).trans <| rfl
theorem b_61_2 {x1 : Int} {x2 : Int} {x3 : Int} : Z e d 61 2 [.ref 206, .int (iI x1), .int (iI x2), .int (iI x3)] [] m = (if (wr x3) < (wr x2) then ck (0 ≤ (wr x3) ∧ (wr x3) < 256) ((if (jand (m 207 (wr x3)) x1) = 0 then ri 0 m else Z e d 61 2 [.ref 206, .int (iI x1), .int (iI x2), .int (iI (x3 + 1))] [] m)) else ri 1 m) := (s_il_3 p_61_2).trans <| (s_il_2 p_61_3).trans <| Eq.trans ((s_c_ge_f p_61_4 rfl rfl rfl)) <| ite_cg ((s_al_0 p_61_7).trans <| (s_getr p_61_8 hs_206 (by decide) rfl).trans <| (s_il_3 p_61_11).trans <| (s_ald 256 p_61_12 hs_207 rfl (by decide)).trans <| ck_cg fun k1 => (s_il_1 p_61_13).trans <| (s_iand p_61_14).trans <| Eq.trans ((s_z_ne_f p_61_15 rfl wr_jand)) <| ite_cg ((s_const p_61_18).trans <| (s_retk rfl p_61_19 (zM_of zq_61))) ((s_inc_3 cat_i p_61_20).trans <| (s_goto p_61_23 rfl).trans <| rfl)) ((s_const p_61_26).trans <| (s_retk rfl p_61_27 (zM_of zq_61)))
-- Posts.leastWatch
theorem p_58_0 : zP1 58 0 = some (.aload_n 0, 0, 0, 0) := zp_l zq_58 rfl
theorem p_58_1 : zP1 58 1 = some (.invokevirtual 59, 59, 0, 3) := zp_r zq_58 rfl
theorem p_58_4 : zP1 58 4 = some (.istore_n 1, 0, 0, 0) := zp_l zq_58 rfl
theorem p_58_5 : zP1 58 5 = some (.iconst 1, 0, 0, 0) := zp_l zq_58 rfl
theorem p_58_6 : zP1 58 6 = some (.aload_n 0, 0, 0, 0) := zp_l zq_58 rfl
theorem p_58_7 : zP1 58 7 = some (.getfield 15, 3, 0, 0) := zp_r zq_58 rfl
theorem p_58_10 : zP1 58 10 = some (.getfield 19, 9, 10, 0) := zp_r zq_58 rfl
theorem p_58_13 : zP1 58 13 = some (.getfield 42, 7, 3, 0) := zp_r zq_58 rfl
theorem p_58_16 : zP1 58 16 = some (.ishl, 0, 0, 0) := zp_l zq_58 rfl
theorem p_58_17 : zP1 58 17 = some (.iconst 1, 0, 0, 0) := zp_l zq_58 rfl
theorem p_58_18 : zP1 58 18 = some (.isub, 0, 0, 0) := zp_l zq_58 rfl
theorem p_58_19 : zP1 58 19 = some (.istore_n 2, 0, 0, 0) := zp_l zq_58 rfl
theorem p_58_20 : zP1 58 20 = some (.aload_n 0, 0, 0, 0) := zp_l zq_58 rfl
theorem p_58_21 : zP1 58 21 = some (.getfield 15, 3, 0, 0) := zp_r zq_58 rfl
theorem p_58_24 : zP1 58 24 = some (.getfield 19, 9, 10, 0) := zp_r zq_58 rfl
theorem p_58_27 : zP1 58 27 = some (.getfield 42, 7, 3, 0) := zp_r zq_58 rfl
theorem p_58_30 : zP1 58 30 = some (.istore_n 3, 0, 0, 0) := zp_l zq_58 rfl
theorem p_58_31 : zP1 58 31 = some (.iconst 0, 0, 0, 0) := zp_l zq_58 rfl
theorem p_58_32 : zP1 58 32 = some (.istore 4, 0, 0, 0) := zp_l zq_58 rfl
theorem p_58_34 : zP1 58 34 = some (.iload 4, 0, 0, 0) := zp_l zq_58 rfl
theorem p_58_36 : zP1 58 36 = some (.iconst 1, 0, 0, 0) := zp_l zq_58 rfl
theorem p_58_37 : zP1 58 37 = some (.aload_n 0, 0, 0, 0) := zp_l zq_58 rfl
theorem p_58_38 : zP1 58 38 = some (.getfield 15, 3, 0, 0) := zp_r zq_58 rfl
theorem p_58_41 : zP1 58 41 = some (.getfield 19, 9, 10, 0) := zp_r zq_58 rfl
theorem p_58_44 : zP1 58 44 = some (.getfield 42, 7, 3, 0) := zp_r zq_58 rfl
theorem p_58_47 : zP1 58 47 = some (.ishl, 0, 0, 0) := zp_l zq_58 rfl
theorem p_58_48 : zP1 58 48 = some (.if_icmp .ge 37, 0, 0, 0) := zp_l zq_58 rfl
theorem p_58_51 : zP1 58 51 = some (.iload 4, 0, 0, 0) := zp_l zq_58 rfl
theorem p_58_53 : zP1 58 53 = some (.invokestatic 62, 321, 1, 0) := zp_r zq_58 rfl
theorem p_58_56 : zP1 58 56 = some (.iload_n 3, 0, 0, 0) := zp_l zq_58 rfl
theorem p_58_57 : zP1 58 57 = some (.if_icmp .ge 22, 0, 0, 0) := zp_l zq_58 rfl
theorem p_58_60 : zP1 58 60 = some (.aload_n 0, 0, 0, 0) := zp_l zq_58 rfl
theorem p_58_61 : zP1 58 61 = some (.iload 4, 0, 0, 0) := zp_l zq_58 rfl
theorem p_58_63 : zP1 58 63 = some (.iload_n 1, 0, 0, 0) := zp_l zq_58 rfl
theorem p_58_64 : zP1 58 64 = some (.invokevirtual 67, 61, 2, 3) := zp_r zq_58 rfl
theorem p_58_67 : zP1 58 67 = some (.ifCond .eq 12, 0, 0, 0) := zp_l zq_58 rfl
theorem p_58_70 : zP1 58 70 = some (.iload 4, 0, 0, 0) := zp_l zq_58 rfl
theorem p_58_72 : zP1 58 72 = some (.istore_n 2, 0, 0, 0) := zp_l zq_58 rfl
theorem p_58_73 : zP1 58 73 = some (.iload 4, 0, 0, 0) := zp_l zq_58 rfl
theorem p_58_75 : zP1 58 75 = some (.invokestatic 62, 321, 1, 0) := zp_r zq_58 rfl
theorem p_58_78 : zP1 58 78 = some (.istore_n 3, 0, 0, 0) := zp_l zq_58 rfl
theorem p_58_79 : zP1 58 79 = some (.iinc 4 1, 0, 0, 0) := zp_l zq_58 rfl
theorem p_58_82 : zP1 58 82 = some (.goto (-48), 0, 0, 0) := zp_l zq_58 rfl
theorem p_58_85 : zP1 58 85 = some (.iload_n 2, 0, 0, 0) := zp_l zq_58 rfl
theorem p_58_86 : zP1 58 86 = some (.ireturn, 0, 0, 0) := zp_l zq_58 rfl
theorem b_58_0 : Z e (d + 1) 58 0 [.ref 206, .retAddr 0, .retAddr 0, .retAddr 0, .retAddr 0] [] m = (Z e d 59 0 [.ref 206, .retAddr 0, .retAddr 0, .retAddr 0, .retAddr 0, .retAddr 0] [] m).bind (ZK e (d + 1) 58 4 [.ref 206, .retAddr 0, .retAddr 0, .retAddr 0, .retAddr 0] [] m) := (s_al_0 p_58_0).trans <| (s_cv0 (Lc := [.ref 206, .retAddr 0, .retAddr 0, .retAddr 0, .retAddr 0, .retAddr 0]) p_58_1 (by decide) (by decide) (zM_of zq_59) ⟨Nat.le_of_ble_eq_true rfl, Nat.le_of_ble_eq_true rfl⟩ rfl (m_rc hs_206 ⟨rfl, by decide⟩))
theorem b_58_34 {x1 : Int} {x2 : Int} {x3 : Int} {x4 : Int} : Z e (d + 1) 58 34 [.ref 206, .int (iI x1), .int (iI x2), .int (iI x3), .int (iI x4)] [] m = (if (wr x4) < (jshl 1 (m 14 3)) then (Z e d 321 0 [.int (iI x4)] [] m).bind (ZK e (d + 1) 58 56 [.ref 206, .int (iI x1), .int (iI x2), .int (iI x3), .int (iI x4)] [] m) else ri x2 m) := (s_il_4 p_58_34).trans <| (s_const p_58_36).trans <| (s_al_0 p_58_37).trans <| (s_getr p_58_38 hs_206 (by decide) rfl).trans <| (s_getr p_58_41 hs_1 (by decide) rfl).trans <| (s_get p_58_44 hs_14 (by decide) rfl).trans <| (s_ishl p_58_47).trans <| Eq.trans ((s_c_ge_f p_58_48 rfl rfl wr_jshl)) <| ite_cg ((s_il_4 p_58_51).trans <| (s_cs1 (Lc := [.int (iI x4)]) p_58_53 (by decide) (zM_of zq_321) ⟨Nat.le_of_ble_eq_true rfl, Nat.le_of_ble_eq_true rfl⟩ rfl)) ((s_il_2 p_58_85).trans <| (s_reti p_58_86 (zM_of zq_58)))
theorem b_58_4 {xs0 : Int} {u1 u2 u3 u4 : Value} : Z e (d + 1) 58 4 [.ref 206, u1, u2, u3, u4] [.int (iI xs0)] m = Z e (d + 1) 58 34 [.ref 206, .int (iI xs0), .int (iI ((jshl 1 (m 14 3)) - 1)), .int (iI (m 14 3)), .int (iI 0)] [] m := (s_is_1 cat_r p_58_4).trans <| (s_const p_58_5).trans <| (s_al_0 p_58_6).trans <| (s_getr p_58_7 hs_206 (by decide) rfl).trans <| (s_getr p_58_10 hs_1 (by decide) rfl).trans <| (s_get p_58_13 hs_14 (by decide) rfl).trans <| (s_ishl p_58_16).trans <| (s_const p_58_17).trans <| (s_isub p_58_18).trans <| (s_is_2 cat_i p_58_19).trans <| (s_al_0 p_58_20).trans <| (s_getr p_58_21 hs_206 (by decide) rfl).trans <| (s_getr p_58_24 hs_1 (by decide) rfl).trans <| (s_get p_58_27 hs_14 (by decide) rfl).trans <| (s_is_3 cat_i p_58_30).trans <| (s_const p_58_31).trans <| (s_is_4 cat_i p_58_32).trans <| rfl
theorem b_58_56 {x1 : Int} {x2 : Int} {x3 : Int} {x4 : Int} {xs0 : Int} : Z e (d + 1) 58 56 [.ref 206, .int (iI x1), .int (iI x2), .int (iI x3), .int (iI x4)] [.int (iI xs0)] m = (if (wr xs0) < (wr x3) then (Z e d 61 0 [.ref 206, .int (iI x4), .int (iI x1), .retAddr 0] [] m).bind (ZK e (d + 1) 58 67 [.ref 206, .int (iI x1), .int (iI x2), .int (iI x3), .int (iI x4)] [] m) else Z e (d + 1) 58 34 [.ref 206, .int (iI x1), .int (iI x2), .int (iI x3), .int (iI (x4 + 1))] [] m) := (s_il_3 p_58_56).trans <| Eq.trans ((s_c_ge_f p_58_57 rfl rfl rfl)) <| ite_cg ((s_al_0 p_58_60).trans <| (s_il_4 p_58_61).trans <| (s_il_1 p_58_63).trans <| (s_cv2 (Lc := [.ref 206, .int (iI x4), .int (iI x1), .retAddr 0]) p_58_64 (by decide) (by decide) (zM_of zq_61) ⟨Nat.le_of_ble_eq_true rfl, Nat.le_of_ble_eq_true rfl⟩ rfl (m_rc hs_206 ⟨rfl, by decide⟩))) ((s_inc_4 cat_i p_58_79).trans <| (s_goto p_58_82 rfl).trans <| rfl)
theorem b_58_67 {x1 : Int} {x2 : Int} {x3 : Int} {x4 : Int} {xs0 : Int} : Z e (d + 1) 58 67 [.ref 206, .int (iI x1), .int (iI x2), .int (iI x3), .int (iI x4)] [.int (iI xs0)] m = (if ¬ (wr xs0) = 0 then (Z e d 321 0 [.int (iI x4)] [] m).bind (ZK e (d + 1) 58 78 [.ref 206, .int (iI x1), .int (iI x4), .int (iI x3), .int (iI x4)] [] m) else Z e (d + 1) 58 34 [.ref 206, .int (iI x1), .int (iI x2), .int (iI x3), .int (iI (x4 + 1))] [] m) := Eq.trans ((s_z_eq_f p_58_67 rfl rfl)) <| ite_cg ((s_il_4 p_58_70).trans <| (s_is_2 cat_i p_58_72).trans <| (s_il_4 p_58_73).trans <| (s_cs1 (Lc := [.int (iI x4)]) p_58_75 (by decide) (zM_of zq_321) ⟨Nat.le_of_ble_eq_true rfl, Nat.le_of_ble_eq_true rfl⟩ rfl)) ((s_inc_4 cat_i p_58_79).trans <| (s_goto p_58_82 rfl).trans <| rfl)
theorem b_58_78 {x1 : Int} {x2 : Int} {x4 : Int} {xs0 : Int} {u3 : Value} : Z e (d + 1) 58 78 [.ref 206, .int (iI x1), .int (iI x2), u3, .int (iI x4)] [.int (iI xs0)] m = Z e (d + 1) 58 34 [.ref 206, .int (iI x1), .int (iI x2), .int (iI xs0), .int (iI (x4 + 1))] [] m := (s_is_3 cat_i p_58_78).trans <| (s_inc_4 cat_i p_58_79).trans <| (s_goto p_58_82 rfl).trans <| rfl
-- Reader.append
theorem p_63_0 : zP1 63 0 = some (.iconst 0, 0, 0, 0) := zp_l zq_63 rfl
theorem p_63_1 : zP1 63 1 = some (.istore 4, 0, 0, 0) := zp_l zq_63 rfl
theorem p_63_3 : zP1 63 3 = some (.iload 4, 0, 0, 0) := zp_l zq_63 rfl
theorem p_63_5 : zP1 63 5 = some (.iload_n 3, 0, 0, 0) := zp_l zq_63 rfl
theorem p_63_6 : zP1 63 6 = some (.if_icmp .ge 47, 0, 0, 0) := zp_l zq_63 rfl
theorem p_63_9 : zP1 63 9 = some (.aload_n 0, 0, 0, 0) := zp_l zq_63 rfl
theorem p_63_10 : zP1 63 10 = some (.getfield 49, 4, 1, 0) := zp_r zq_63 rfl
theorem p_63_13 : zP1 63 13 = some (.sipush 300, 0, 0, 0) := zp_l zq_63 rfl
theorem p_63_16 : zP1 63 16 = some (.if_icmp .ge 37, 0, 0, 0) := zp_l zq_63 rfl
theorem p_63_19 : zP1 63 19 = some (.aload_n 0, 0, 0, 0) := zp_l zq_63 rfl
theorem p_63_20 : zP1 63 20 = some (.getfield 9, 4, 0, 0) := zp_r zq_63 rfl
theorem p_63_23 : zP1 63 23 = some (.aload_n 0, 0, 0, 0) := zp_l zq_63 rfl
theorem p_63_24 : zP1 63 24 = some (.getfield 49, 4, 1, 0) := zp_r zq_63 rfl
theorem p_63_27 : zP1 63 27 = some (.lload_n 1, 0, 0, 0) := zp_l zq_63 rfl
theorem p_63_28 : zP1 63 28 = some (.bipush 8, 0, 0, 0) := zp_l zq_63 rfl
theorem p_63_30 : zP1 63 30 = some (.iload 4, 0, 0, 0) := zp_l zq_63 rfl
theorem p_63_32 : zP1 63 32 = some (.imul, 0, 0, 0) := zp_l zq_63 rfl
theorem p_63_33 : zP1 63 33 = some (.lshr, 0, 0, 0) := zp_l zq_63 rfl
theorem p_63_34 : zP1 63 34 = some (.l2i, 0, 0, 0) := zp_l zq_63 rfl
theorem p_63_35 : zP1 63 35 = some (.i2b, 0, 0, 0) := zp_l zq_63 rfl
theorem p_63_36 : zP1 63 36 = some (.bastore, 0, 0, 0) := zp_l zq_63 rfl
theorem p_63_37 : zP1 63 37 = some (.aload_n 0, 0, 0, 0) := zp_l zq_63 rfl
theorem p_63_38 : zP1 63 38 = some (.dup, 0, 0, 0) := zp_l zq_63 rfl
theorem p_63_39 : zP1 63 39 = some (.getfield 49, 4, 1, 0) := zp_r zq_63 rfl
theorem p_63_42 : zP1 63 42 = some (.iconst 1, 0, 0, 0) := zp_l zq_63 rfl
theorem p_63_43 : zP1 63 43 = some (.iadd, 0, 0, 0) := zp_l zq_63 rfl
theorem p_63_44 : zP1 63 44 = some (.putfield 49, 4, 1, 0) := zp_r zq_63 rfl
theorem p_63_47 : zP1 63 47 = some (.iinc 4 1, 0, 0, 0) := zp_l zq_63 rfl
theorem p_63_50 : zP1 63 50 = some (.goto (-47), 0, 0, 0) := zp_l zq_63 rfl
theorem p_63_53 : zP1 63 53 = some (.return_, 0, 0, 0) := zp_l zq_63 rfl
theorem b_63_0 {w1 : Int64} {x3 : Int} : Z e d 63 0 [.ref 179, .long w1, .retAddr 0, .int (iI x3), .retAddr 0] [] m = Z e d 63 3 [.ref 179, .long w1, .retAddr 0, .int (iI x3), .int (iI 0)] [] m := (s_const p_63_0).trans <| (s_is_4 cat_i p_63_1).trans <| rfl
theorem b_63_3 {w1 : Int64} {x3 : Int} {x4 : Int} {u2 : Value} : Z e d 63 3 [.ref 179, .long w1, u2, .int (iI x3), .int (iI x4)] [] m = (if ((wr x4) < (wr x3)) ∧ ((wr (m 179 1)) < 300) then ck (0 ≤ (wr (m 179 1)) ∧ (wr (m 179 1)) < 300) (Z e d 63 3 [.ref 179, .long w1, u2, .int (iI x3), .int (iI (x4 + 1))] [] (um (um m 180 (wr (m 179 1)) (j8 (j8 (w1 >>> ((iI (8 * x4)).toInt64 &&& 63)).toInt32.toInt))) 179 1 (((um m 180 (wr (m 179 1)) (j8 (j8 (w1 >>> ((iI (8 * x4)).toInt64 &&& 63)).toInt32.toInt))) 179 1) + 1))) else rn m) := (s_il_4 p_63_3).trans <| (s_il_3 p_63_5).trans <| Eq.trans (Eq.trans (s_c_ge_f p_63_6 rfl rfl rfl) <| Eq.trans (ite_cg ((s_al_0 p_63_9).trans <| (s_get3 p_63_10 hs_179 (by decide) rfl (by decide)).trans <| (s_sip p_63_13 rfl).trans <| (s_c_ge_f p_63_16 rfl rfl wl_300)) rfl) co_and) <| ite_cg ((s_al_0 p_63_19).trans <| (s_getr3 p_63_20 hs_179 (by decide) rfl (by decide)).trans <| (s_al_0 p_63_23).trans <| (s_get3 p_63_24 hs_179 (by decide) rfl (by decide)).trans <| (s_ll_1 p_63_27).trans <| (s_bip p_63_28 rfl).trans <| (s_il_4 p_63_30).trans <| (s_imul p_63_32).trans <| (s_lshr p_63_33).trans <| (s_l2i p_63_34).trans <| (s_i2b p_63_35).trans <| (s_bst 300 p_63_36 hs_180 rfl).trans <| ck_cg fun k1 => (s_al_0 p_63_37).trans <| (s_dup cat_r p_63_38).trans <| (s_get3 p_63_39 hs_179 (by decide) rfl (by decide)).trans <| (s_const p_63_42).trans <| (s_iadd p_63_43).trans <| (s_put3 p_63_44 hs_179 (by decide) rfl (by decide)).trans <| (s_inc_4 cat_i p_63_47).trans <| (s_goto p_63_50 rfl).trans <| rfl) ((s_retv p_63_53 (zM_of zq_63)))
-- Reader.empty
theorem p_64_0 : zP1 64 0 = some (.aload_n 0, 0, 0, 0) := zp_l zq_64 rfl
theorem p_64_1 : zP1 64 1 = some (.iconst 0, 0, 0, 0) := zp_l zq_64 rfl
theorem p_64_2 : zP1 64 2 = some (.putfield 49, 4, 1, 0) := zp_r zq_64 rfl
theorem p_64_5 : zP1 64 5 = some (.return_, 0, 0, 0) := zp_l zq_64 rfl
theorem b_64_0 : Z e d 64 0 [.ref 179] [] m = rn (um m 179 1 0) := (s_al_0 p_64_0).trans <| (s_const p_64_1).trans <| (s_put3 p_64_2 hs_179 (by decide) rfl (by decide)).trans <| (s_retv p_64_5 (zM_of zq_64))
-- Reader.faultPlace
theorem p_65_0 : zP1 65 0 = some (.aload_n 0, 0, 0, 0) := zp_l zq_65 rfl
theorem p_65_1 : zP1 65 1 = some (.getfield 32, 4, 5, 0) := zp_r zq_65 rfl
theorem p_65_4 : zP1 65 4 = some (.aload_n 0, 0, 0, 0) := zp_l zq_65 rfl
theorem p_65_5 : zP1 65 5 = some (.getfield 53, 4, 7, 0) := zp_r zq_65 rfl
theorem p_65_8 : zP1 65 8 = some (.iaload, 0, 0, 0) := zp_l zq_65 rfl
theorem p_65_9 : zP1 65 9 = some (.ireturn, 0, 0, 0) := zp_l zq_65 rfl
theorem b_65_0 : Z e d 65 0 [.ref 179] [] m = ck (0 ≤ (wr (m 179 7)) ∧ (wr (m 179 7)) < 301) (ri (m 184 (wr (m 179 7))) m) := (s_al_0 p_65_0).trans <| (s_getr3 p_65_1 hs_179 (by decide) rfl (by decide)).trans <| (s_al_0 p_65_4).trans <| (s_get3 p_65_5 hs_179 (by decide) rfl (by decide)).trans <| (s_ald 301 p_65_8 hs_184 rfl (by decide)).trans <| ck_cg fun k1 => (s_reti p_65_9 (zM_of zq_65))
-- Reader.isLetter
theorem p_69_0 : zP1 69 0 = some (.aload_n 0, 0, 0, 0) := zp_l zq_69 rfl
theorem p_69_1 : zP1 69 1 = some (.getfield 9, 4, 0, 0) := zp_r zq_69 rfl
theorem p_69_4 : zP1 69 4 = some (.iload_n 1, 0, 0, 0) := zp_l zq_69 rfl
theorem p_69_5 : zP1 69 5 = some (.baload, 0, 0, 0) := zp_l zq_69 rfl
theorem p_69_6 : zP1 69 6 = some (.bipush 97, 0, 0, 0) := zp_l zq_69 rfl
theorem p_69_8 : zP1 69 8 = some (.if_icmp .lt 18, 0, 0, 0) := zp_l zq_69 rfl
theorem p_69_11 : zP1 69 11 = some (.aload_n 0, 0, 0, 0) := zp_l zq_69 rfl
theorem p_69_12 : zP1 69 12 = some (.getfield 9, 4, 0, 0) := zp_r zq_69 rfl
theorem p_69_15 : zP1 69 15 = some (.iload_n 1, 0, 0, 0) := zp_l zq_69 rfl
theorem p_69_16 : zP1 69 16 = some (.baload, 0, 0, 0) := zp_l zq_69 rfl
theorem p_69_17 : zP1 69 17 = some (.bipush 122, 0, 0, 0) := zp_l zq_69 rfl
theorem p_69_19 : zP1 69 19 = some (.if_icmp .gt 7, 0, 0, 0) := zp_l zq_69 rfl
theorem p_69_22 : zP1 69 22 = some (.iconst 1, 0, 0, 0) := zp_l zq_69 rfl
theorem p_69_23 : zP1 69 23 = some (.goto 4, 0, 0, 0) := zp_l zq_69 rfl
theorem p_69_26 : zP1 69 26 = some (.iconst 0, 0, 0, 0) := zp_l zq_69 rfl
theorem p_69_27 : zP1 69 27 = some (.ireturn, 0, 0, 0) := zp_l zq_69 rfl
theorem b_69_0 {x1 : Int} : Z e d 69 0 [.ref 179, .int (iI x1)] [] m = ck (0 ≤ (wr x1) ∧ (wr x1) < 300) (ck ((97 ≤ (wr (m 180 (wr x1)))) → (0 ≤ (wr x1) ∧ (wr x1) < 300)) (ri (if (97 ≤ (wr (m 180 (wr x1)))) ∧ ((wr (m 180 (wr x1))) ≤ 122) then 1 else 0) m)) := (s_al_0 p_69_0).trans <| (s_getr3 p_69_1 hs_179 (by decide) rfl (by decide)).trans <| (s_il_1 p_69_4).trans <| (s_bld 300 p_69_5 hs_180 rfl (by decide)).trans <| ck_cg fun k1 => (s_bip p_69_6 rfl).trans <| Eq.trans (Eq.trans (Eq.trans (s_c_lt_f p_69_8 rfl rfl wl_97) <| Eq.trans (ite_cg ((s_al_0 p_69_11).trans <| (s_getr3 p_69_12 hs_179 (by decide) rfl (by decide)).trans <| (s_il_1 p_69_15).trans <| (s_bld 300 p_69_16 hs_180 rfl (by decide)).trans <| ck_cg fun k2 => (s_bip p_69_17 rfl).trans <| (s_c_gt_f p_69_19 rfl rfl wl_122)) rfl) <| Eq.trans ck_a <| ck_cg fun _ => co_and) <| ck_cg fun _ => Eq.trans (ite_cg ((s_const p_69_22).trans <| (s_goto p_69_23 rfl).trans <| rfl) ((s_const p_69_26).trans <| rfl)) (phi1 (fun z0 => Z e d 69 27 [.ref 179, .int (iI x1)] [.int (iI z0)] m))) <| ck_cg fun _ => (s_retb p_69_27 (zM_of zq_69))
-- Reader.isSpelled
theorem p_72_0 : zP1 72 0 = some (.aload_n 1, 0, 0, 0) := zp_l zq_72 rfl
theorem p_72_1 : zP1 72 1 = some (.invokevirtual 109, 326, 0, 41) := zp_r zq_72 rfl
theorem p_72_4 : zP1 72 4 = some (.iload_n 3, 0, 0, 0) := zp_l zq_72 rfl
theorem p_72_5 : zP1 72 5 = some (.iload_n 2, 0, 0, 0) := zp_l zq_72 rfl
theorem p_72_6 : zP1 72 6 = some (.isub, 0, 0, 0) := zp_l zq_72 rfl
theorem p_72_7 : zP1 72 7 = some (.if_icmp .eq 5, 0, 0, 0) := zp_l zq_72 rfl
theorem p_72_10 : zP1 72 10 = some (.iconst 0, 0, 0, 0) := zp_l zq_72 rfl
theorem p_72_11 : zP1 72 11 = some (.ireturn, 0, 0, 0) := zp_l zq_72 rfl
theorem p_72_12 : zP1 72 12 = some (.iconst 0, 0, 0, 0) := zp_l zq_72 rfl
theorem p_72_13 : zP1 72 13 = some (.istore 4, 0, 0, 0) := zp_l zq_72 rfl
theorem p_72_15 : zP1 72 15 = some (.iload 4, 0, 0, 0) := zp_l zq_72 rfl
theorem p_72_17 : zP1 72 17 = some (.aload_n 1, 0, 0, 0) := zp_l zq_72 rfl
theorem p_72_18 : zP1 72 18 = some (.invokevirtual 109, 326, 0, 41) := zp_r zq_72 rfl
theorem p_72_21 : zP1 72 21 = some (.if_icmp .ge 29, 0, 0, 0) := zp_l zq_72 rfl
theorem p_72_24 : zP1 72 24 = some (.aload_n 0, 0, 0, 0) := zp_l zq_72 rfl
theorem p_72_25 : zP1 72 25 = some (.getfield 9, 4, 0, 0) := zp_r zq_72 rfl
theorem p_72_28 : zP1 72 28 = some (.iload_n 2, 0, 0, 0) := zp_l zq_72 rfl
theorem p_72_29 : zP1 72 29 = some (.iload 4, 0, 0, 0) := zp_l zq_72 rfl
theorem p_72_31 : zP1 72 31 = some (.iadd, 0, 0, 0) := zp_l zq_72 rfl
theorem p_72_32 : zP1 72 32 = some (.baload, 0, 0, 0) := zp_l zq_72 rfl
theorem p_72_33 : zP1 72 33 = some (.aload_n 1, 0, 0, 0) := zp_l zq_72 rfl
theorem p_72_34 : zP1 72 34 = some (.iload 4, 0, 0, 0) := zp_l zq_72 rfl
theorem p_72_36 : zP1 72 36 = some (.invokevirtual 114, 327, 1, 41) := zp_r zq_72 rfl
theorem p_72_39 : zP1 72 39 = some (.if_icmp .eq 5, 0, 0, 0) := zp_l zq_72 rfl
theorem p_72_42 : zP1 72 42 = some (.iconst 0, 0, 0, 0) := zp_l zq_72 rfl
theorem p_72_43 : zP1 72 43 = some (.ireturn, 0, 0, 0) := zp_l zq_72 rfl
theorem p_72_44 : zP1 72 44 = some (.iinc 4 1, 0, 0, 0) := zp_l zq_72 rfl
theorem p_72_47 : zP1 72 47 = some (.goto (-32), 0, 0, 0) := zp_l zq_72 rfl
theorem p_72_50 : zP1 72 50 = some (.iconst 1, 0, 0, 0) := zp_l zq_72 rfl
theorem p_72_51 : zP1 72 51 = some (.ireturn, 0, 0, 0) := zp_l zq_72 rfl
theorem b_72_0 {a1 : Nat} {x2 : Int} {x3 : Int} (hSa1 : zisS (zE0 e.1 e.2) a1 = true) : Z e (d + 1) 72 0 [.ref 179, .ref a1, .int (iI x2), .int (iI x3), .retAddr 0] [] m = (Z e d 326 0 [.ref a1] [] m).bind (ZK e (d + 1) 72 4 [.ref 179, .ref a1, .int (iI x2), .int (iI x3), .retAddr 0] [] m) := (s_al_1 p_72_0).trans <| (s_cg0 (Lc := [.ref a1]) p_72_1 (by decide) (zM_of zq_326) ⟨Nat.le_of_ble_eq_true rfl, Nat.le_of_ble_eq_true rfl⟩ rfl hSa1)
theorem b_72_15 {a1 : Nat} {x2 : Int} {x4 : Int} {u3 : Value} (hSa1 : zisS (zE0 e.1 e.2) a1 = true) : Z e (d + 1) 72 15 [.ref 179, .ref a1, .int (iI x2), u3, .int (iI x4)] [] m = (Z e d 326 0 [.ref a1] [] m).bind (ZK e (d + 1) 72 21 [.ref 179, .ref a1, .int (iI x2), u3, .int (iI x4)] [.int (iI x4)] m) := (s_il_4 p_72_15).trans <| (s_al_1 p_72_17).trans <| (s_cg0 (Lc := [.ref a1]) p_72_18 (by decide) (zM_of zq_326) ⟨Nat.le_of_ble_eq_true rfl, Nat.le_of_ble_eq_true rfl⟩ rfl hSa1)
theorem b_72_4 {a1 : Nat} {x2 : Int} {x3 : Int} {xs0 : Int} {u4 : Value} : Z e (d + 1) 72 4 [.ref 179, .ref a1, .int (iI x2), .int (iI x3), u4] [.int (iI xs0)] m = (if ¬ (wr xs0) = (wr (x3 - x2)) then ri 0 m else Z e (d + 1) 72 15 [.ref 179, .ref a1, .int (iI x2), .int (iI x3), .int (iI 0)] [] m) := (s_il_3 p_72_4).trans <| (s_il_2 p_72_5).trans <| (s_isub p_72_6).trans <| Eq.trans ((s_c_eq_f p_72_7 rfl rfl rfl)) <| ite_cg ((s_const p_72_10).trans <| (s_retk rfl p_72_11 (zM_of zq_72))) ((s_const p_72_12).trans <| (s_is_4 cat_i p_72_13).trans <| rfl)
theorem b_72_21 {a1 : Nat} {x2 : Int} {x4 : Int} {xs0 : Int} {xs1 : Int} {u3 : Value} (hSa1 : zisS (zE0 e.1 e.2) a1 = true) : Z e (d + 1) 72 21 [.ref 179, .ref a1, .int (iI x2), u3, .int (iI x4)] [.int (iI xs0), .int (iI xs1)] m = (if (wr xs1) < (wr xs0) then ck (0 ≤ (wr (x2 + x4)) ∧ (wr (x2 + x4)) < 300) ((Z e d 327 0 [.ref a1, .int (iI x4)] [] m).bind (ZK e (d + 1) 72 39 [.ref 179, .ref a1, .int (iI x2), u3, .int (iI x4)] [.int (iI (m 180 (wr (x2 + x4))))] m)) else ri 1 m) := Eq.trans ((s_c_ge_f p_72_21 rfl rfl rfl)) <| ite_cg ((s_al_0 p_72_24).trans <| (s_getr3 p_72_25 hs_179 (by decide) rfl (by decide)).trans <| (s_il_2 p_72_28).trans <| (s_il_4 p_72_29).trans <| (s_iadd p_72_31).trans <| (s_bld 300 p_72_32 hs_180 rfl (by decide)).trans <| ck_cg fun k1 => (s_al_1 p_72_33).trans <| (s_il_4 p_72_34).trans <| (s_cg1 (Lc := [.ref a1, .int (iI x4)]) p_72_36 (by decide) (zM_of zq_327) ⟨Nat.le_of_ble_eq_true rfl, Nat.le_of_ble_eq_true rfl⟩ rfl hSa1)) ((s_const p_72_50).trans <| (s_retk rfl p_72_51 (zM_of zq_72)))
theorem b_72_39 {a1 : Nat} {x2 : Int} {x4 : Int} {xs0 : Int} {xs1 : Int} {u3 : Value} (hu3 : u3.category = 1) : Z e (d + 1) 72 39 [.ref 179, .ref a1, .int (iI x2), u3, .int (iI x4)] [.int (iI xs0), .int (iI xs1)] m = (if ¬ (wr xs1) = (wr xs0) then ri 0 m else Z e (d + 1) 72 15 [.ref 179, .ref a1, .int (iI x2), u3, .int (iI (x4 + 1))] [] m) := Eq.trans ((s_c_eq_f p_72_39 rfl rfl rfl)) <| ite_cg ((s_const p_72_42).trans <| (s_retk rfl p_72_43 (zM_of zq_72))) ((s_inc_4 hu3 p_72_44).trans <| (s_goto p_72_47 rfl).trans <| rfl)
-- Reader.wordFrom
theorem p_71_0 : zP1 71 0 = some (.iconst 0, 0, 0, 0) := zp_l zq_71 rfl
theorem p_71_1 : zP1 71 1 = some (.istore_n 3, 0, 0, 0) := zp_l zq_71 rfl
theorem p_71_2 : zP1 71 2 = some (.iload_n 3, 0, 0, 0) := zp_l zq_71 rfl
theorem p_71_3 : zP1 71 3 = some (.aload_n 0, 0, 0, 0) := zp_l zq_71 rfl
theorem p_71_4 : zP1 71 4 = some (.getfield 21, 4, 2, 0) := zp_r zq_71 rfl
theorem p_71_7 : zP1 71 7 = some (.arraylength, 0, 0, 0) := zp_l zq_71 rfl
theorem p_71_8 : zP1 71 8 = some (.if_icmp .ge 34, 0, 0, 0) := zp_l zq_71 rfl
theorem p_71_11 : zP1 71 11 = some (.aload_n 0, 0, 0, 0) := zp_l zq_71 rfl
theorem p_71_12 : zP1 71 12 = some (.aload_n 0, 0, 0, 0) := zp_l zq_71 rfl
theorem p_71_13 : zP1 71 13 = some (.getfield 21, 4, 2, 0) := zp_r zq_71 rfl
theorem p_71_16 : zP1 71 16 = some (.iload_n 3, 0, 0, 0) := zp_l zq_71 rfl
theorem p_71_17 : zP1 71 17 = some (.aaload, 0, 0, 0) := zp_l zq_71 rfl
theorem p_71_18 : zP1 71 18 = some (.getfield 98, 40, 0, 0) := zp_r zq_71 rfl
theorem p_71_21 : zP1 71 21 = some (.iload_n 1, 0, 0, 0) := zp_l zq_71 rfl
theorem p_71_22 : zP1 71 22 = some (.iload_n 2, 0, 0, 0) := zp_l zq_71 rfl
theorem p_71_23 : zP1 71 23 = some (.invokevirtual 102, 72, 3, 4) := zp_r zq_71 rfl
theorem p_71_26 : zP1 71 26 = some (.ifCond .eq 10, 0, 0, 0) := zp_l zq_71 rfl
theorem p_71_29 : zP1 71 29 = some (.aload_n 0, 0, 0, 0) := zp_l zq_71 rfl
theorem p_71_30 : zP1 71 30 = some (.getfield 21, 4, 2, 0) := zp_r zq_71 rfl
theorem p_71_33 : zP1 71 33 = some (.iload_n 3, 0, 0, 0) := zp_l zq_71 rfl
theorem p_71_34 : zP1 71 34 = some (.aaload, 0, 0, 0) := zp_l zq_71 rfl
theorem p_71_35 : zP1 71 35 = some (.areturn, 0, 0, 0) := zp_l zq_71 rfl
theorem p_71_36 : zP1 71 36 = some (.iinc 3 1, 0, 0, 0) := zp_l zq_71 rfl
theorem p_71_39 : zP1 71 39 = some (.goto (-37), 0, 0, 0) := zp_l zq_71 rfl
theorem p_71_42 : zP1 71 42 = some (.getstatic 106, 4, 0, 0) := zp_r zq_71 rfl
theorem p_71_45 : zP1 71 45 = some (.areturn, 0, 0, 0) := zp_l zq_71 rfl
theorem b_71_0 {x1 : Int} {x2 : Int} : Z e (d + 1) 71 0 [.ref 179, .int (iI x1), .int (iI x2), .retAddr 0] [] m = Z e (d + 1) 71 2 [.ref 179, .int (iI x1), .int (iI x2), .int (iI 0)] [] m := (s_const p_71_0).trans <| (s_is_3 cat_i p_71_1).trans <| rfl
theorem b_71_2 {x1 : Int} {x2 : Int} {x3 : Int} : Z e (d + 1) 71 2 [.ref 179, .int (iI x1), .int (iI x2), .int (iI x3)] [] m = (if (wr x3) < 32 then ck (0 ≤ (wr x3) ∧ (wr x3) < 32) ((Z e d 72 0 [.ref 179, .ref (wtx (wr x3)), .int (iI x1), .int (iI x2), .retAddr 0] [] m).bind (ZK e (d + 1) 71 26 [.ref 179, .int (iI x1), .int (iI x2), .int (iI x3)] [] m)) else rr (10000 + (1 : Int).toNat) m) := (s_il_3 p_71_2).trans <| (s_al_0 p_71_3).trans <| (s_getr3 p_71_4 hs_179 (by decide) rfl (by decide)).trans <| (s_lenr 32 p_71_7 hs_181 rfl (by decide) ⟨by decide, by decide⟩).trans <| Eq.trans ((s_c_ge_f p_71_8 rfl rfl wl_32)) <| ite_cg ((s_al_0 p_71_11).trans <| (s_al_0 p_71_12).trans <| (s_getr3 p_71_13 hs_179 (by decide) rfl (by decide)).trans <| (s_il_3 p_71_16).trans <| (s_aald 32 p_71_17 hs_181 rfl ⟨by decide, by decide⟩ ar_181).trans <| ck_cg fun k1 => (s_wtext p_71_18 k1).trans <| (s_il_1 p_71_21).trans <| (s_il_2 p_71_22).trans <| (s_cv3 (Lc := [.ref 179, .ref (wtx (wr x3)), .int (iI x1), .int (iI x2), .retAddr 0]) p_71_23 (by decide) (by decide) (zM_of zq_72) ⟨Nat.le_of_ble_eq_true rfl, Nat.le_of_ble_eq_true rfl⟩ rfl (m_rc3 hs_179 ⟨rfl, by decide⟩))) ((s_gets (v := .ref (10000 + (1 : Int).toNat)) p_71_42 rfl).trans <| (s_reta p_71_45 (zM_of zq_71) rfl))
theorem b_71_26 {x1 : Int} {x2 : Int} {x3 : Int} {xs0 : Int} : Z e (d + 1) 71 26 [.ref 179, .int (iI x1), .int (iI x2), .int (iI x3)] [.int (iI xs0)] m = (if ¬ (wr xs0) = 0 then ck (0 ≤ (wr x3) ∧ (wr x3) < 32) (rr (10000 + (wr x3).toNat) m) else Z e (d + 1) 71 2 [.ref 179, .int (iI x1), .int (iI x2), .int (iI (x3 + 1))] [] m) := Eq.trans ((s_z_eq_f p_71_26 rfl rfl)) <| ite_cg ((s_al_0 p_71_29).trans <| (s_getr3 p_71_30 hs_179 (by decide) rfl (by decide)).trans <| (s_il_3 p_71_33).trans <| (s_aald 32 p_71_34 hs_181 rfl ⟨by decide, by decide⟩ ar_181).trans <| ck_cg fun k1 => (s_reta p_71_35 (zM_of zq_71) rfl)) ((s_inc_3 cat_i p_71_36).trans <| (s_goto p_71_39 rfl).trans <| rfl)
-- Reader.addWord
theorem p_68_0 : zP1 68 0 = some (.aload_n 0, 0, 0, 0) := zp_l zq_68 rfl
theorem p_68_1 : zP1 68 1 = some (.getfield 73, 4, 6, 0) := zp_r zq_68 rfl
theorem p_68_4 : zP1 68 4 = some (.sipush 300, 0, 0, 0) := zp_l zq_68 rfl
theorem p_68_7 : zP1 68 7 = some (.if_icmp .le 4, 0, 0, 0) := zp_l zq_68 rfl
theorem p_68_10 : zP1 68 10 = some (.return_, 0, 0, 0) := zp_l zq_68 rfl
theorem p_68_11 : zP1 68 11 = some (.aload_n 0, 0, 0, 0) := zp_l zq_68 rfl
theorem p_68_12 : zP1 68 12 = some (.getfield 25, 4, 3, 0) := zp_r zq_68 rfl
theorem p_68_15 : zP1 68 15 = some (.aload_n 0, 0, 0, 0) := zp_l zq_68 rfl
theorem p_68_16 : zP1 68 16 = some (.getfield 73, 4, 6, 0) := zp_r zq_68 rfl
theorem p_68_19 : zP1 68 19 = some (.aload_n 1, 0, 0, 0) := zp_l zq_68 rfl
theorem p_68_20 : zP1 68 20 = some (.aastore, 0, 0, 0) := zp_l zq_68 rfl
theorem p_68_21 : zP1 68 21 = some (.aload_n 0, 0, 0, 0) := zp_l zq_68 rfl
theorem p_68_22 : zP1 68 22 = some (.getfield 28, 4, 4, 0) := zp_r zq_68 rfl
theorem p_68_25 : zP1 68 25 = some (.aload_n 0, 0, 0, 0) := zp_l zq_68 rfl
theorem p_68_26 : zP1 68 26 = some (.getfield 73, 4, 6, 0) := zp_r zq_68 rfl
theorem p_68_29 : zP1 68 29 = some (.iload_n 2, 0, 0, 0) := zp_l zq_68 rfl
theorem p_68_30 : zP1 68 30 = some (.iastore, 0, 0, 0) := zp_l zq_68 rfl
theorem p_68_31 : zP1 68 31 = some (.aload_n 0, 0, 0, 0) := zp_l zq_68 rfl
theorem p_68_32 : zP1 68 32 = some (.getfield 32, 4, 5, 0) := zp_r zq_68 rfl
theorem p_68_35 : zP1 68 35 = some (.aload_n 0, 0, 0, 0) := zp_l zq_68 rfl
theorem p_68_36 : zP1 68 36 = some (.getfield 73, 4, 6, 0) := zp_r zq_68 rfl
theorem p_68_39 : zP1 68 39 = some (.iload_n 3, 0, 0, 0) := zp_l zq_68 rfl
theorem p_68_40 : zP1 68 40 = some (.iastore, 0, 0, 0) := zp_l zq_68 rfl
theorem p_68_41 : zP1 68 41 = some (.aload_n 0, 0, 0, 0) := zp_l zq_68 rfl
theorem p_68_42 : zP1 68 42 = some (.dup, 0, 0, 0) := zp_l zq_68 rfl
theorem p_68_43 : zP1 68 43 = some (.getfield 73, 4, 6, 0) := zp_r zq_68 rfl
theorem p_68_46 : zP1 68 46 = some (.iconst 1, 0, 0, 0) := zp_l zq_68 rfl
theorem p_68_47 : zP1 68 47 = some (.iadd, 0, 0, 0) := zp_l zq_68 rfl
theorem p_68_48 : zP1 68 48 = some (.putfield 73, 4, 6, 0) := zp_r zq_68 rfl
theorem p_68_51 : zP1 68 51 = some (.return_, 0, 0, 0) := zp_l zq_68 rfl
theorem b_68_0 {x1 : Int} {x2 : Int} {x3 : Int} (hx1 : 0 ≤ x1 ∧ x1 < 32) : Z e d 68 0 [.ref 179, .ref (10000 + x1.toNat), .int (iI x2), .int (iI x3)] [] m = (if 300 < (wr (m 179 6)) then rn m else ck (0 ≤ (wr (m 179 6)) ∧ (wr (m 179 6)) < 301) (ck (0 ≤ (wr ((um m 182 (wr (m 179 6)) x1) 179 6)) ∧ (wr ((um m 182 (wr (m 179 6)) x1) 179 6)) < 301) (ck (0 ≤ (wr ((um (um m 182 (wr (m 179 6)) x1) 183 (wr ((um m 182 (wr (m 179 6)) x1) 179 6)) x2) 179 6)) ∧ (wr ((um (um m 182 (wr (m 179 6)) x1) 183 (wr ((um m 182 (wr (m 179 6)) x1) 179 6)) x2) 179 6)) < 301) (rn (um (um (um (um m 182 (wr (m 179 6)) x1) 183 (wr ((um m 182 (wr (m 179 6)) x1) 179 6)) x2) 184 (wr ((um (um m 182 (wr (m 179 6)) x1) 183 (wr ((um m 182 (wr (m 179 6)) x1) 179 6)) x2) 179 6)) x3) 179 6 (((um (um (um m 182 (wr (m 179 6)) x1) 183 (wr ((um m 182 (wr (m 179 6)) x1) 179 6)) x2) 184 (wr ((um (um m 182 (wr (m 179 6)) x1) 183 (wr ((um m 182 (wr (m 179 6)) x1) 179 6)) x2) 179 6)) x3) 179 6) + 1)))))) := (s_al_0 p_68_0).trans <| (s_get3 p_68_1 hs_179 (by decide) rfl (by decide)).trans <| (s_sip p_68_4 rfl).trans <| Eq.trans ((s_c_le_f p_68_7 rfl rfl wl_300)) <| ite_cg ((s_retv p_68_10 (zM_of zq_68))) ((s_al_0 p_68_11).trans <| (s_getr3 p_68_12 hs_179 (by decide) rfl (by decide)).trans <| (s_al_0 p_68_15).trans <| (s_get3 p_68_16 hs_179 (by decide) rfl (by decide)).trans <| (s_al_1 p_68_19).trans <| (s_wst p_68_20 hx1).trans <| ck_cg fun k1 => (s_al_0 p_68_21).trans <| (s_getr3 p_68_22 hs_179 (by decide) rfl (by decide)).trans <| (s_al_0 p_68_25).trans <| (s_get3 p_68_26 hs_179 (by decide) rfl (by decide)).trans <| (s_il_2 p_68_29).trans <| (s_ast 301 p_68_30 hs_183 rfl).trans <| ck_cg fun k2 => (s_al_0 p_68_31).trans <| (s_getr3 p_68_32 hs_179 (by decide) rfl (by decide)).trans <| (s_al_0 p_68_35).trans <| (s_get3 p_68_36 hs_179 (by decide) rfl (by decide)).trans <| (s_il_3 p_68_39).trans <| (s_ast 301 p_68_40 hs_184 rfl).trans <| ck_cg fun k3 => (s_al_0 p_68_41).trans <| (s_dup cat_r p_68_42).trans <| (s_get3 p_68_43 hs_179 (by decide) rfl (by decide)).trans <| (s_const p_68_46).trans <| (s_iadd p_68_47).trans <| (s_put3 p_68_48 hs_179 (by decide) rfl (by decide)).trans <| (s_retv p_68_51 (zM_of zq_68)))
-- Reader.isDigit
theorem p_70_0 : zP1 70 0 = some (.aload_n 0, 0, 0, 0) := zp_l zq_70 rfl
theorem p_70_1 : zP1 70 1 = some (.getfield 9, 4, 0, 0) := zp_r zq_70 rfl
theorem p_70_4 : zP1 70 4 = some (.iload_n 1, 0, 0, 0) := zp_l zq_70 rfl
theorem p_70_5 : zP1 70 5 = some (.baload, 0, 0, 0) := zp_l zq_70 rfl
theorem p_70_6 : zP1 70 6 = some (.bipush 48, 0, 0, 0) := zp_l zq_70 rfl
theorem p_70_8 : zP1 70 8 = some (.if_icmp .lt 18, 0, 0, 0) := zp_l zq_70 rfl
theorem p_70_11 : zP1 70 11 = some (.aload_n 0, 0, 0, 0) := zp_l zq_70 rfl
theorem p_70_12 : zP1 70 12 = some (.getfield 9, 4, 0, 0) := zp_r zq_70 rfl
theorem p_70_15 : zP1 70 15 = some (.iload_n 1, 0, 0, 0) := zp_l zq_70 rfl
theorem p_70_16 : zP1 70 16 = some (.baload, 0, 0, 0) := zp_l zq_70 rfl
theorem p_70_17 : zP1 70 17 = some (.bipush 57, 0, 0, 0) := zp_l zq_70 rfl
theorem p_70_19 : zP1 70 19 = some (.if_icmp .gt 7, 0, 0, 0) := zp_l zq_70 rfl
theorem p_70_22 : zP1 70 22 = some (.iconst 1, 0, 0, 0) := zp_l zq_70 rfl
theorem p_70_23 : zP1 70 23 = some (.goto 4, 0, 0, 0) := zp_l zq_70 rfl
theorem p_70_26 : zP1 70 26 = some (.iconst 0, 0, 0, 0) := zp_l zq_70 rfl
theorem p_70_27 : zP1 70 27 = some (.ireturn, 0, 0, 0) := zp_l zq_70 rfl
theorem b_70_0 {x1 : Int} : Z e d 70 0 [.ref 179, .int (iI x1)] [] m = ck (0 ≤ (wr x1) ∧ (wr x1) < 300) (ck ((48 ≤ (wr (m 180 (wr x1)))) → (0 ≤ (wr x1) ∧ (wr x1) < 300)) (ri (if (48 ≤ (wr (m 180 (wr x1)))) ∧ ((wr (m 180 (wr x1))) ≤ 57) then 1 else 0) m)) := (s_al_0 p_70_0).trans <| (s_getr3 p_70_1 hs_179 (by decide) rfl (by decide)).trans <| (s_il_1 p_70_4).trans <| (s_bld 300 p_70_5 hs_180 rfl (by decide)).trans <| ck_cg fun k1 => (s_bip p_70_6 rfl).trans <| Eq.trans (Eq.trans (Eq.trans (s_c_lt_f p_70_8 rfl rfl wl_48) <| Eq.trans (ite_cg ((s_al_0 p_70_11).trans <| (s_getr3 p_70_12 hs_179 (by decide) rfl (by decide)).trans <| (s_il_1 p_70_15).trans <| (s_bld 300 p_70_16 hs_180 rfl (by decide)).trans <| ck_cg fun k2 => (s_bip p_70_17 rfl).trans <| (s_c_gt_f p_70_19 rfl rfl wl_57)) rfl) <| Eq.trans ck_a <| ck_cg fun _ => co_and) <| ck_cg fun _ => Eq.trans (ite_cg ((s_const p_70_22).trans <| (s_goto p_70_23 rfl).trans <| rfl) ((s_const p_70_26).trans <| rfl)) (phi1 (fun z0 => Z e d 70 27 [.ref 179, .int (iI x1)] [.int (iI z0)] m))) <| ck_cg fun _ => (s_retb p_70_27 (zM_of zq_70))
-- Reader.numberFrom
theorem p_73_0 : zP1 73 0 = some (.iload_n 2, 0, 0, 0) := zp_l zq_73 rfl
theorem p_73_1 : zP1 73 1 = some (.iload_n 1, 0, 0, 0) := zp_l zq_73 rfl
theorem p_73_2 : zP1 73 2 = some (.isub, 0, 0, 0) := zp_l zq_73 rfl
theorem p_73_3 : zP1 73 3 = some (.iconst 3, 0, 0, 0) := zp_l zq_73 rfl
theorem p_73_4 : zP1 73 4 = some (.if_icmp .le 7, 0, 0, 0) := zp_l zq_73 rfl
theorem p_73_7 : zP1 73 7 = some (.sipush 1000, 0, 0, 0) := zp_l zq_73 rfl
theorem p_73_10 : zP1 73 10 = some (.ireturn, 0, 0, 0) := zp_l zq_73 rfl
theorem p_73_11 : zP1 73 11 = some (.iconst 0, 0, 0, 0) := zp_l zq_73 rfl
theorem p_73_12 : zP1 73 12 = some (.istore_n 3, 0, 0, 0) := zp_l zq_73 rfl
theorem p_73_13 : zP1 73 13 = some (.iload_n 1, 0, 0, 0) := zp_l zq_73 rfl
theorem p_73_14 : zP1 73 14 = some (.istore 4, 0, 0, 0) := zp_l zq_73 rfl
theorem p_73_16 : zP1 73 16 = some (.iload 4, 0, 0, 0) := zp_l zq_73 rfl
theorem p_73_18 : zP1 73 18 = some (.iload_n 2, 0, 0, 0) := zp_l zq_73 rfl
theorem p_73_19 : zP1 73 19 = some (.if_icmp .ge 25, 0, 0, 0) := zp_l zq_73 rfl
theorem p_73_22 : zP1 73 22 = some (.iload_n 3, 0, 0, 0) := zp_l zq_73 rfl
theorem p_73_23 : zP1 73 23 = some (.bipush 10, 0, 0, 0) := zp_l zq_73 rfl
theorem p_73_25 : zP1 73 25 = some (.imul, 0, 0, 0) := zp_l zq_73 rfl
theorem p_73_26 : zP1 73 26 = some (.aload_n 0, 0, 0, 0) := zp_l zq_73 rfl
theorem p_73_27 : zP1 73 27 = some (.getfield 9, 4, 0, 0) := zp_r zq_73 rfl
theorem p_73_30 : zP1 73 30 = some (.iload 4, 0, 0, 0) := zp_l zq_73 rfl
theorem p_73_32 : zP1 73 32 = some (.baload, 0, 0, 0) := zp_l zq_73 rfl
theorem p_73_33 : zP1 73 33 = some (.iadd, 0, 0, 0) := zp_l zq_73 rfl
theorem p_73_34 : zP1 73 34 = some (.bipush 48, 0, 0, 0) := zp_l zq_73 rfl
theorem p_73_36 : zP1 73 36 = some (.isub, 0, 0, 0) := zp_l zq_73 rfl
theorem p_73_37 : zP1 73 37 = some (.istore_n 3, 0, 0, 0) := zp_l zq_73 rfl
theorem p_73_38 : zP1 73 38 = some (.iinc 4 1, 0, 0, 0) := zp_l zq_73 rfl
theorem p_73_41 : zP1 73 41 = some (.goto (-25), 0, 0, 0) := zp_l zq_73 rfl
theorem p_73_44 : zP1 73 44 = some (.iload_n 3, 0, 0, 0) := zp_l zq_73 rfl
theorem p_73_45 : zP1 73 45 = some (.ireturn, 0, 0, 0) := zp_l zq_73 rfl
theorem b_73_0 {x1 : Int} {x2 : Int} : Z e d 73 0 [.ref 179, .int (iI x1), .int (iI x2), .retAddr 0, .retAddr 0] [] m = (if 3 < (wr (x2 - x1)) then ri 1000 m else Z e d 73 16 [.ref 179, .int (iI x1), .int (iI x2), .int (iI 0), .int (iI x1)] [] m) := (s_il_2 p_73_0).trans <| (s_il_1 p_73_1).trans <| (s_isub p_73_2).trans <| (s_const p_73_3).trans <| Eq.trans ((s_c_le_f p_73_4 rfl rfl wl_3)) <| ite_cg ((s_sip p_73_7 rfl).trans <| (s_reti p_73_10 (zM_of zq_73))) ((s_const p_73_11).trans <| (s_is_3 cat_i p_73_12).trans <| (s_il_1 p_73_13).trans <| (s_is_4 cat_i p_73_14).trans <| rfl)
theorem b_73_16 {x2 : Int} {x3 : Int} {x4 : Int} {u1 : Value} : Z e d 73 16 [.ref 179, u1, .int (iI x2), .int (iI x3), .int (iI x4)] [] m = (if (wr x4) < (wr x2) then ck (0 ≤ (wr x4) ∧ (wr x4) < 300) (Z e d 73 16 [.ref 179, u1, .int (iI x2), .int (iI (((x3 * 10) + (m 180 (wr x4))) - 48)), .int (iI (x4 + 1))] [] m) else ri x3 m) := (s_il_4 p_73_16).trans <| (s_il_2 p_73_18).trans <| Eq.trans ((s_c_ge_f p_73_19 rfl rfl rfl)) <| ite_cg ((s_il_3 p_73_22).trans <| (s_bip p_73_23 rfl).trans <| (s_imul p_73_25).trans <| (s_al_0 p_73_26).trans <| (s_getr3 p_73_27 hs_179 (by decide) rfl (by decide)).trans <| (s_il_4 p_73_30).trans <| (s_bld 300 p_73_32 hs_180 rfl (by decide)).trans <| ck_cg fun k2 => (s_iadd p_73_33).trans <| (s_bip p_73_34 rfl).trans <| (s_isub p_73_36).trans <| (s_is_3 cat_i p_73_37).trans <| (s_inc_4 cat_i p_73_38).trans <| (s_goto p_73_41 rfl).trans <| rfl) ((s_il_3 p_73_44).trans <| (s_reti p_73_45 (zM_of zq_73)))
-- Reader.splitWords
theorem p_67_0 : zP1 67 0 = some (.aload_n 0, 0, 0, 0) := zp_l zq_67 rfl
theorem p_67_1 : zP1 67 1 = some (.iconst 0, 0, 0, 0) := zp_l zq_67 rfl
theorem p_67_2 : zP1 67 2 = some (.putfield 73, 4, 6, 0) := zp_r zq_67 rfl
theorem p_67_5 : zP1 67 5 = some (.iconst 0, 0, 0, 0) := zp_l zq_67 rfl
theorem p_67_6 : zP1 67 6 = some (.istore_n 1, 0, 0, 0) := zp_l zq_67 rfl
theorem p_67_7 : zP1 67 7 = some (.iload_n 1, 0, 0, 0) := zp_l zq_67 rfl
theorem p_67_8 : zP1 67 8 = some (.aload_n 0, 0, 0, 0) := zp_l zq_67 rfl
theorem p_67_9 : zP1 67 9 = some (.getfield 49, 4, 1, 0) := zp_r zq_67 rfl
theorem p_67_12 : zP1 67 12 = some (.if_icmp .ge 127, 0, 0, 0) := zp_l zq_67 rfl
theorem p_67_15 : zP1 67 15 = some (.iload_n 1, 0, 0, 0) := zp_l zq_67 rfl
theorem p_67_16 : zP1 67 16 = some (.iconst 1, 0, 0, 0) := zp_l zq_67 rfl
theorem p_67_17 : zP1 67 17 = some (.iadd, 0, 0, 0) := zp_l zq_67 rfl
theorem p_67_18 : zP1 67 18 = some (.istore_n 2, 0, 0, 0) := zp_l zq_67 rfl
theorem p_67_19 : zP1 67 19 = some (.aload_n 0, 0, 0, 0) := zp_l zq_67 rfl
theorem p_67_20 : zP1 67 20 = some (.iload_n 1, 0, 0, 0) := zp_l zq_67 rfl
theorem p_67_21 : zP1 67 21 = some (.invokevirtual 76, 69, 1, 4) := zp_r zq_67 rfl
theorem p_67_24 : zP1 67 24 = some (.ifCond .eq 40, 0, 0, 0) := zp_l zq_67 rfl
theorem p_67_27 : zP1 67 27 = some (.iload_n 2, 0, 0, 0) := zp_l zq_67 rfl
theorem p_67_28 : zP1 67 28 = some (.aload_n 0, 0, 0, 0) := zp_l zq_67 rfl
theorem p_67_29 : zP1 67 29 = some (.getfield 49, 4, 1, 0) := zp_r zq_67 rfl
theorem p_67_32 : zP1 67 32 = some (.if_icmp .ge 17, 0, 0, 0) := zp_l zq_67 rfl
theorem p_67_35 : zP1 67 35 = some (.aload_n 0, 0, 0, 0) := zp_l zq_67 rfl
theorem p_67_36 : zP1 67 36 = some (.iload_n 2, 0, 0, 0) := zp_l zq_67 rfl
theorem p_67_37 : zP1 67 37 = some (.invokevirtual 76, 69, 1, 4) := zp_r zq_67 rfl
theorem p_67_40 : zP1 67 40 = some (.ifCond .eq 9, 0, 0, 0) := zp_l zq_67 rfl
theorem p_67_43 : zP1 67 43 = some (.iinc 2 1, 0, 0, 0) := zp_l zq_67 rfl
theorem p_67_46 : zP1 67 46 = some (.goto (-19), 0, 0, 0) := zp_l zq_67 rfl
theorem p_67_49 : zP1 67 49 = some (.aload_n 0, 0, 0, 0) := zp_l zq_67 rfl
theorem p_67_50 : zP1 67 50 = some (.aload_n 0, 0, 0, 0) := zp_l zq_67 rfl
theorem p_67_51 : zP1 67 51 = some (.iload_n 1, 0, 0, 0) := zp_l zq_67 rfl
theorem p_67_52 : zP1 67 52 = some (.iload_n 2, 0, 0, 0) := zp_l zq_67 rfl
theorem p_67_53 : zP1 67 53 = some (.invokevirtual 80, 71, 2, 4) := zp_r zq_67 rfl
theorem p_67_56 : zP1 67 56 = some (.iconst 0, 0, 0, 0) := zp_l zq_67 rfl
theorem p_67_57 : zP1 67 57 = some (.iload_n 1, 0, 0, 0) := zp_l zq_67 rfl
theorem p_67_58 : zP1 67 58 = some (.invokevirtual 84, 68, 3, 4) := zp_r zq_67 rfl
theorem p_67_61 : zP1 67 61 = some (.goto 73, 0, 0, 0) := zp_l zq_67 rfl
theorem p_67_64 : zP1 67 64 = some (.aload_n 0, 0, 0, 0) := zp_l zq_67 rfl
theorem p_67_65 : zP1 67 65 = some (.iload_n 1, 0, 0, 0) := zp_l zq_67 rfl
theorem p_67_66 : zP1 67 66 = some (.invokevirtual 88, 70, 1, 4) := zp_r zq_67 rfl
theorem p_67_69 : zP1 67 69 = some (.ifCond .eq 42, 0, 0, 0) := zp_l zq_67 rfl
theorem p_67_72 : zP1 67 72 = some (.iload_n 2, 0, 0, 0) := zp_l zq_67 rfl
theorem p_67_73 : zP1 67 73 = some (.aload_n 0, 0, 0, 0) := zp_l zq_67 rfl
theorem p_67_74 : zP1 67 74 = some (.getfield 49, 4, 1, 0) := zp_r zq_67 rfl
theorem p_67_77 : zP1 67 77 = some (.if_icmp .ge 17, 0, 0, 0) := zp_l zq_67 rfl
theorem p_67_80 : zP1 67 80 = some (.aload_n 0, 0, 0, 0) := zp_l zq_67 rfl
theorem p_67_81 : zP1 67 81 = some (.iload_n 2, 0, 0, 0) := zp_l zq_67 rfl
theorem p_67_82 : zP1 67 82 = some (.invokevirtual 88, 70, 1, 4) := zp_r zq_67 rfl
theorem p_67_85 : zP1 67 85 = some (.ifCond .eq 9, 0, 0, 0) := zp_l zq_67 rfl
theorem p_67_88 : zP1 67 88 = some (.iinc 2 1, 0, 0, 0) := zp_l zq_67 rfl
theorem p_67_91 : zP1 67 91 = some (.goto (-19), 0, 0, 0) := zp_l zq_67 rfl
theorem p_67_94 : zP1 67 94 = some (.aload_n 0, 0, 0, 0) := zp_l zq_67 rfl
theorem p_67_95 : zP1 67 95 = some (.getstatic 91, 3, 0, 0) := zp_r zq_67 rfl
theorem p_67_98 : zP1 67 98 = some (.aload_n 0, 0, 0, 0) := zp_l zq_67 rfl
theorem p_67_99 : zP1 67 99 = some (.iload_n 1, 0, 0, 0) := zp_l zq_67 rfl
theorem p_67_100 : zP1 67 100 = some (.iload_n 2, 0, 0, 0) := zp_l zq_67 rfl
theorem p_67_101 : zP1 67 101 = some (.invokevirtual 94, 73, 2, 4) := zp_r zq_67 rfl
theorem p_67_104 : zP1 67 104 = some (.iload_n 1, 0, 0, 0) := zp_l zq_67 rfl
theorem p_67_105 : zP1 67 105 = some (.invokevirtual 84, 68, 3, 4) := zp_r zq_67 rfl
theorem p_67_108 : zP1 67 108 = some (.goto 26, 0, 0, 0) := zp_l zq_67 rfl
theorem p_67_111 : zP1 67 111 = some (.aload_n 0, 0, 0, 0) := zp_l zq_67 rfl
theorem p_67_112 : zP1 67 112 = some (.getfield 9, 4, 0, 0) := zp_r zq_67 rfl
theorem p_67_115 : zP1 67 115 = some (.iload_n 1, 0, 0, 0) := zp_l zq_67 rfl
theorem p_67_116 : zP1 67 116 = some (.baload, 0, 0, 0) := zp_l zq_67 rfl
theorem p_67_117 : zP1 67 117 = some (.bipush 32, 0, 0, 0) := zp_l zq_67 rfl
theorem p_67_119 : zP1 67 119 = some (.if_icmp .eq 15, 0, 0, 0) := zp_l zq_67 rfl
theorem p_67_122 : zP1 67 122 = some (.aload_n 0, 0, 0, 0) := zp_l zq_67 rfl
theorem p_67_123 : zP1 67 123 = some (.aload_n 0, 0, 0, 0) := zp_l zq_67 rfl
theorem p_67_124 : zP1 67 124 = some (.iload_n 1, 0, 0, 0) := zp_l zq_67 rfl
theorem p_67_125 : zP1 67 125 = some (.iload_n 2, 0, 0, 0) := zp_l zq_67 rfl
theorem p_67_126 : zP1 67 126 = some (.invokevirtual 80, 71, 2, 4) := zp_r zq_67 rfl
theorem p_67_129 : zP1 67 129 = some (.iconst 0, 0, 0, 0) := zp_l zq_67 rfl
theorem p_67_130 : zP1 67 130 = some (.iload_n 1, 0, 0, 0) := zp_l zq_67 rfl
theorem p_67_131 : zP1 67 131 = some (.invokevirtual 84, 68, 3, 4) := zp_r zq_67 rfl
theorem p_67_134 : zP1 67 134 = some (.iload_n 2, 0, 0, 0) := zp_l zq_67 rfl
theorem p_67_135 : zP1 67 135 = some (.istore_n 1, 0, 0, 0) := zp_l zq_67 rfl
theorem p_67_136 : zP1 67 136 = some (.goto (-129), 0, 0, 0) := zp_l zq_67 rfl
theorem p_67_139 : zP1 67 139 = some (.aload_n 0, 0, 0, 0) := zp_l zq_67 rfl
theorem p_67_140 : zP1 67 140 = some (.getstatic 35, 1, 0, 0) := zp_r zq_67 rfl
theorem p_67_143 : zP1 67 143 = some (.iconst 0, 0, 0, 0) := zp_l zq_67 rfl
theorem p_67_144 : zP1 67 144 = some (.aload_n 0, 0, 0, 0) := zp_l zq_67 rfl
theorem p_67_145 : zP1 67 145 = some (.getfield 49, 4, 1, 0) := zp_r zq_67 rfl
theorem p_67_148 : zP1 67 148 = some (.invokevirtual 84, 68, 3, 4) := zp_r zq_67 rfl
theorem p_67_151 : zP1 67 151 = some (.return_, 0, 0, 0) := zp_l zq_67 rfl
theorem b_67_0 : Z e (d + 1) 67 0 [.ref 179, .retAddr 0, .retAddr 0] [] m = Z e (d + 1) 67 7 [.ref 179, .int (iI 0), .retAddr 0] [] (um m 179 6 0) := (s_al_0 p_67_0).trans <| (s_const p_67_1).trans <| (s_put3 p_67_2 hs_179 (by decide) rfl (by decide)).trans <| (s_const p_67_5).trans <| (s_is_1 cat_r p_67_6).trans <| rfl
theorem b_67_7 {x1 : Int} {u2 : Value} : Z e (d + 1) 67 7 [.ref 179, .int (iI x1), u2] [] m = (if (wr x1) < (wr (m 179 1)) then ck (0 ≤ (wr x1) ∧ (wr x1) < 300) (ck ((97 ≤ (wr (m 180 (wr x1)))) → (0 ≤ (wr x1) ∧ (wr x1) < 300)) ((if (97 ≤ (wr (m 180 (wr x1)))) ∧ ((wr (m 180 (wr x1))) ≤ 122) then Z e (d + 1) 67 27 [.ref 179, .int (iI x1), .int (iI (x1 + 1))] [] m else ck (0 ≤ (wr x1) ∧ (wr x1) < 300) (ck ((48 ≤ (wr (m 180 (wr x1)))) → (0 ≤ (wr x1) ∧ (wr x1) < 300)) ((if (48 ≤ (wr (m 180 (wr x1)))) ∧ ((wr (m 180 (wr x1))) ≤ 57) then Z e (d + 1) 67 72 [.ref 179, .int (iI x1), .int (iI (x1 + 1))] [] m else ck (0 ≤ (wr x1) ∧ (wr x1) < 300) ((if ¬ (wr (m 180 (wr x1))) = 32 then (Z e d 71 0 [.ref 179, .int (iI x1), .int (iI (x1 + 1)), .retAddr 0] [] m).bind (ZK e (d + 1) 67 129 [.ref 179, .int (iI x1), .int (iI (x1 + 1))] [.ref 179] m) else Z e (d + 1) 67 7 [.ref 179, .int (iI (x1 + 1)), .int (iI (x1 + 1))] [] m)))))))) else Z e (d + 1) 67 139 [.ref 179, .int (iI x1), u2] [] m) := (s_il_1 p_67_7).trans <| (s_al_0 p_67_8).trans <| (s_get3 p_67_9 hs_179 (by decide) rfl (by decide)).trans <| Eq.trans ((s_c_ge_f p_67_12 rfl rfl rfl)) <| ite_cg ((s_il_1 p_67_15).trans <| (s_const p_67_16).trans <| (s_iadd p_67_17).trans <| (s_is_2 cat_i p_67_18).trans <| (s_al_0 p_67_19).trans <| (s_il_1 p_67_20).trans <| (s_cv1 (Lc := [.ref 179, .int (iI x1)]) p_67_21 (by decide) (by decide) (zM_of zq_69) ⟨Nat.le_of_ble_eq_true rfl, Nat.le_of_ble_eq_true rfl⟩ rfl (m_rc3 hs_179 ⟨rfl, by decide⟩)).trans <| (bd b_69_0).trans <| ck_bind.trans <| ck_cg fun _ => ck_bind.trans <| ck_cg fun _ => ri_k.trans <| Eq.trans ((s_beq_f p_67_24 rfl)) <| ite_cg (rfl) ((s_al_0 p_67_64).trans <| (s_il_1 p_67_65).trans <| (s_cv1 (Lc := [.ref 179, .int (iI x1)]) p_67_66 (by decide) (by decide) (zM_of zq_70) ⟨Nat.le_of_ble_eq_true rfl, Nat.le_of_ble_eq_true rfl⟩ rfl (m_rc3 hs_179 ⟨rfl, by decide⟩)).trans <| (bd b_70_0).trans <| ck_bind.trans <| ck_cg fun _ => ck_bind.trans <| ck_cg fun _ => ri_k.trans <| Eq.trans ((s_beq_f p_67_69 rfl)) <| ite_cg (rfl) ((s_al_0 p_67_111).trans <| (s_getr3 p_67_112 hs_179 (by decide) rfl (by decide)).trans <| (s_il_1 p_67_115).trans <| (s_bld 300 p_67_116 hs_180 rfl (by decide)).trans <| ck_cg fun k1 => (s_bip p_67_117 rfl).trans <| Eq.trans ((s_c_eq_f p_67_119 rfl rfl wl_32)) <| ite_cg ((s_al_0 p_67_122).trans <| (s_al_0 p_67_123).trans <| (s_il_1 p_67_124).trans <| (s_il_2 p_67_125).trans <| (s_cv2 (Lc := [.ref 179, .int (iI x1), .int (iI (x1 + 1)), .retAddr 0]) p_67_126 (by decide) (by decide) (zM_of zq_71) ⟨Nat.le_of_ble_eq_true rfl, Nat.le_of_ble_eq_true rfl⟩ rfl (m_rc3 hs_179 ⟨rfl, by decide⟩))) ((s_il_2 p_67_134).trans <| (s_is_1 cat_r p_67_135).trans <| (s_goto p_67_136 rfl).trans <| rfl)))) (rfl)
theorem b_67_27 {x1 : Int} {x2 : Int} : Z e (d + 1) 67 27 [.ref 179, .int (iI x1), .int (iI x2)] [] m = ck (((wr x2) < (wr (m 179 1))) → ((0 ≤ (wr x2) ∧ (wr x2) < 300) ∧ ((97 ≤ (wr (m 180 (wr x2)))) → (0 ≤ (wr x2) ∧ (wr x2) < 300)))) (if ((wr x2) < (wr (m 179 1))) ∧ ((97 ≤ (wr (m 180 (wr x2)))) ∧ ((wr (m 180 (wr x2))) ≤ 122)) then Z e (d + 1) 67 27 [.ref 179, .int (iI x1), .int (iI (x2 + 1))] [] m else Z e (d + 1) 67 49 [.ref 179, .int (iI x1), .int (iI x2)] [] m) := (s_il_2 p_67_27).trans <| (s_al_0 p_67_28).trans <| (s_get3 p_67_29 hs_179 (by decide) rfl (by decide)).trans <| Eq.trans (Eq.trans (s_c_ge_f p_67_32 rfl rfl rfl) <| Eq.trans (ite_cg ((s_al_0 p_67_35).trans <| (s_il_2 p_67_36).trans <| (s_cv1 (Lc := [.ref 179, .int (iI x2)]) p_67_37 (by decide) (by decide) (zM_of zq_69) ⟨Nat.le_of_ble_eq_true rfl, Nat.le_of_ble_eq_true rfl⟩ rfl (m_rc3 hs_179 ⟨rfl, by decide⟩)).trans <| (bd b_69_0).trans <| ck_bind.trans <| Eq.trans (ck_cg fun k3 => ck_bind.trans <| ck_cg fun k4 => ri_k.trans <| (s_beq_f p_67_40 rfl)) ck_ck) rfl) <| Eq.trans ck_a <| ck_cg fun _ => co_and) <| ck_cg fun _ => ite_cg ((s_inc_2 cat_i p_67_43).trans <| (s_goto p_67_46 rfl).trans <| rfl) (rfl)
theorem b_67_49 {x1 : Int} {x2 : Int} : Z e (d + 1) 67 49 [.ref 179, .int (iI x1), .int (iI x2)] [] m = (Z e d 71 0 [.ref 179, .int (iI x1), .int (iI x2), .retAddr 0] [] m).bind (ZK e (d + 1) 67 56 [.ref 179, .int (iI x1), .int (iI x2)] [.ref 179] m) := (s_al_0 p_67_49).trans <| (s_al_0 p_67_50).trans <| (s_il_1 p_67_51).trans <| (s_il_2 p_67_52).trans <| (s_cv2 (Lc := [.ref 179, .int (iI x1), .int (iI x2), .retAddr 0]) p_67_53 (by decide) (by decide) (zM_of zq_71) ⟨Nat.le_of_ble_eq_true rfl, Nat.le_of_ble_eq_true rfl⟩ rfl (m_rc3 hs_179 ⟨rfl, by decide⟩))
theorem b_67_56 {x1 : Int} {x2 : Int} {xs0 : Int} (hxs0 : 0 ≤ xs0 ∧ xs0 < 32) : Z e (d + 1) 67 56 [.ref 179, .int (iI x1), .int (iI x2)] [.ref (10000 + xs0.toNat), .ref 179] m = (Z e d 68 0 [.ref 179, .ref (10000 + xs0.toNat), .int (iI 0), .int (iI x1)] [] m).bind (ZK e (d + 1) 67 61 [.ref 179, .int (iI x1), .int (iI x2)] [] m) := (s_const p_67_56).trans <| (s_il_1 p_67_57).trans <| (s_cv3 (Lc := [.ref 179, .ref (10000 + xs0.toNat), .int (iI 0), .int (iI x1)]) p_67_58 (by decide) (by decide) (zM_of zq_68) ⟨Nat.le_of_ble_eq_true rfl, Nat.le_of_ble_eq_true rfl⟩ rfl (m_rc3 hs_179 ⟨rfl, by decide⟩))
theorem b_67_72 {x1 : Int} {x2 : Int} : Z e (d + 1) 67 72 [.ref 179, .int (iI x1), .int (iI x2)] [] m = ck (((wr x2) < (wr (m 179 1))) → ((0 ≤ (wr x2) ∧ (wr x2) < 300) ∧ ((48 ≤ (wr (m 180 (wr x2)))) → (0 ≤ (wr x2) ∧ (wr x2) < 300)))) (if ((wr x2) < (wr (m 179 1))) ∧ ((48 ≤ (wr (m 180 (wr x2)))) ∧ ((wr (m 180 (wr x2))) ≤ 57)) then Z e (d + 1) 67 72 [.ref 179, .int (iI x1), .int (iI (x2 + 1))] [] m else Z e (d + 1) 67 94 [.ref 179, .int (iI x1), .int (iI x2)] [] m) := (s_il_2 p_67_72).trans <| (s_al_0 p_67_73).trans <| (s_get3 p_67_74 hs_179 (by decide) rfl (by decide)).trans <| Eq.trans (Eq.trans (s_c_ge_f p_67_77 rfl rfl rfl) <| Eq.trans (ite_cg ((s_al_0 p_67_80).trans <| (s_il_2 p_67_81).trans <| (s_cv1 (Lc := [.ref 179, .int (iI x2)]) p_67_82 (by decide) (by decide) (zM_of zq_70) ⟨Nat.le_of_ble_eq_true rfl, Nat.le_of_ble_eq_true rfl⟩ rfl (m_rc3 hs_179 ⟨rfl, by decide⟩)).trans <| (bd b_70_0).trans <| ck_bind.trans <| Eq.trans (ck_cg fun k3 => ck_bind.trans <| ck_cg fun k4 => ri_k.trans <| (s_beq_f p_67_85 rfl)) ck_ck) rfl) <| Eq.trans ck_a <| ck_cg fun _ => co_and) <| ck_cg fun _ => ite_cg ((s_inc_2 cat_i p_67_88).trans <| (s_goto p_67_91 rfl).trans <| rfl) (rfl)
theorem b_67_94 {x1 : Int} {x2 : Int} : Z e (d + 1) 67 94 [.ref 179, .int (iI x1), .int (iI x2)] [] m = (Z e d 73 0 [.ref 179, .int (iI x1), .int (iI x2), .retAddr 0, .retAddr 0] [] m).bind (ZK e (d + 1) 67 104 [.ref 179, .int (iI x1), .int (iI x2)] [.ref (10000 + (2 : Int).toNat), .ref 179] m) := (s_al_0 p_67_94).trans <| (s_gets (v := .ref (10000 + (2 : Int).toNat)) p_67_95 rfl).trans <| (s_al_0 p_67_98).trans <| (s_il_1 p_67_99).trans <| (s_il_2 p_67_100).trans <| (s_cv2 (Lc := [.ref 179, .int (iI x1), .int (iI x2), .retAddr 0, .retAddr 0]) p_67_101 (by decide) (by decide) (zM_of zq_73) ⟨Nat.le_of_ble_eq_true rfl, Nat.le_of_ble_eq_true rfl⟩ rfl (m_rc3 hs_179 ⟨rfl, by decide⟩))
theorem b_67_129 {x1 : Int} {x2 : Int} {xs0 : Int} (hxs0 : 0 ≤ xs0 ∧ xs0 < 32) : Z e (d + 1) 67 129 [.ref 179, .int (iI x1), .int (iI x2)] [.ref (10000 + xs0.toNat), .ref 179] m = (Z e d 68 0 [.ref 179, .ref (10000 + xs0.toNat), .int (iI 0), .int (iI x1)] [] m).bind (ZK e (d + 1) 67 134 [.ref 179, .int (iI x1), .int (iI x2)] [] m) := (s_const p_67_129).trans <| (s_il_1 p_67_130).trans <| (s_cv3 (Lc := [.ref 179, .ref (10000 + xs0.toNat), .int (iI 0), .int (iI x1)]) p_67_131 (by decide) (by decide) (zM_of zq_68) ⟨Nat.le_of_ble_eq_true rfl, Nat.le_of_ble_eq_true rfl⟩ rfl (m_rc3 hs_179 ⟨rfl, by decide⟩))
theorem b_67_139 {u1 u2 : Value} : Z e (d + 1) 67 139 [.ref 179, u1, u2] [] m = (Z e d 68 0 [.ref 179, .ref (10000 + (0 : Int).toNat), .int (iI 0), .int (iI (m 179 1))] [] m).bind (ZK e (d + 1) 67 151 [.ref 179, u1, u2] [] m) := (s_al_0 p_67_139).trans <| (s_gets (v := .ref (10000 + (0 : Int).toNat)) p_67_140 rfl).trans <| (s_const p_67_143).trans <| (s_al_0 p_67_144).trans <| (s_get3 p_67_145 hs_179 (by decide) rfl (by decide)).trans <| (s_cv3 (Lc := [.ref 179, .ref (10000 + (0 : Int).toNat), .int (iI 0), .int (iI (m 179 1))]) p_67_148 (by decide) (by decide) (zM_of zq_68) ⟨Nat.le_of_ble_eq_true rfl, Nat.le_of_ble_eq_true rfl⟩ rfl (m_rc3 hs_179 ⟨rfl, by decide⟩))
theorem b_67_61 {x2 : Int} {u1 : Value} : Z e (d + 1) 67 61 [.ref 179, u1, .int (iI x2)] [] m = Z e (d + 1) 67 134 [.ref 179, u1, .int (iI x2)] [] m := (s_goto p_67_61 rfl).trans <| rfl
theorem b_67_104 {x1 : Int} {x2 : Int} {xs0 : Int} {xs1 : Int} (hxs1 : 0 ≤ xs1 ∧ xs1 < 32) : Z e (d + 1) 67 104 [.ref 179, .int (iI x1), .int (iI x2)] [.int (iI xs0), .ref (10000 + xs1.toNat), .ref 179] m = (Z e d 68 0 [.ref 179, .ref (10000 + xs1.toNat), .int (iI xs0), .int (iI x1)] [] m).bind (ZK e (d + 1) 67 108 [.ref 179, .int (iI x1), .int (iI x2)] [] m) := (s_il_1 p_67_104).trans <| (s_cv3 (Lc := [.ref 179, .ref (10000 + xs1.toNat), .int (iI xs0), .int (iI x1)]) p_67_105 (by decide) (by decide) (zM_of zq_68) ⟨Nat.le_of_ble_eq_true rfl, Nat.le_of_ble_eq_true rfl⟩ rfl (m_rc3 hs_179 ⟨rfl, by decide⟩))
theorem b_67_134 {x2 : Int} {u1 : Value} : Z e (d + 1) 67 134 [.ref 179, u1, .int (iI x2)] [] m = Z e (d + 1) 67 7 [.ref 179, .int (iI x2), .int (iI x2)] [] m := (s_il_2 p_67_134).trans <| (s_is_1 cat_r p_67_135).trans <| (s_goto p_67_136 rfl).trans <| rfl
theorem b_67_151 {u0 u1 u2 : Value} : Z e (d + 1) 67 151 [u0, u1, u2] [] m = rn m := (s_retv p_67_151 (zM_of zq_67))
theorem b_67_108 {x2 : Int} {u1 : Value} : Z e (d + 1) 67 108 [.ref 179, u1, .int (iI x2)] [] m = Z e (d + 1) 67 134 [.ref 179, u1, .int (iI x2)] [] m := (s_goto p_67_108 rfl).trans <| rfl
-- Version.clear
theorem p_110_0 : zP1 110 0 = some (.aload_n 0, 0, 0, 0) := zp_l zq_110 rfl
theorem p_110_1 : zP1 110 1 = some (.iconst 0, 0, 0, 0) := zp_l zq_110 rfl
theorem p_110_2 : zP1 110 2 = some (.putfield 27, 8, 3, 0) := zp_r zq_110 rfl
theorem p_110_5 : zP1 110 5 = some (.aload_n 0, 0, 0, 0) := zp_l zq_110 rfl
theorem p_110_6 : zP1 110 6 = some (.iconst 0, 0, 0, 0) := zp_l zq_110 rfl
theorem p_110_7 : zP1 110 7 = some (.putfield 31, 8, 4, 0) := zp_r zq_110 rfl
theorem p_110_10 : zP1 110 10 = some (.return_, 0, 0, 0) := zp_l zq_110 rfl
theorem b_110_0 : Z e d 110 0 [.ref 185] [] m = rn (um (um m 185 3 0) 185 4 0) := (s_al_0 p_110_0).trans <| (s_const p_110_1).trans <| (s_put p_110_2 hs_185 (by decide) rfl).trans <| (s_al_0 p_110_5).trans <| (s_const p_110_6).trans <| (s_put p_110_7 hs_185 (by decide) rfl).trans <| (s_retv p_110_10 (zM_of zq_110))
-- Reader.advance
theorem p_74_0 : zP1 74 0 = some (.aload_n 0, 0, 0, 0) := zp_l zq_74 rfl
theorem p_74_1 : zP1 74 1 = some (.getfield 53, 4, 7, 0) := zp_r zq_74 rfl
theorem p_74_4 : zP1 74 4 = some (.iconst 1, 0, 0, 0) := zp_l zq_74 rfl
theorem p_74_5 : zP1 74 5 = some (.iadd, 0, 0, 0) := zp_l zq_74 rfl
theorem p_74_6 : zP1 74 6 = some (.aload_n 0, 0, 0, 0) := zp_l zq_74 rfl
theorem p_74_7 : zP1 74 7 = some (.getfield 73, 4, 6, 0) := zp_r zq_74 rfl
theorem p_74_10 : zP1 74 10 = some (.if_icmp .ge 13, 0, 0, 0) := zp_l zq_74 rfl
theorem p_74_13 : zP1 74 13 = some (.aload_n 0, 0, 0, 0) := zp_l zq_74 rfl
theorem p_74_14 : zP1 74 14 = some (.getfield 53, 4, 7, 0) := zp_r zq_74 rfl
theorem p_74_17 : zP1 74 17 = some (.sipush 300, 0, 0, 0) := zp_l zq_74 rfl
theorem p_74_20 : zP1 74 20 = some (.if_icmp .lt 4, 0, 0, 0) := zp_l zq_74 rfl
theorem p_74_23 : zP1 74 23 = some (.return_, 0, 0, 0) := zp_l zq_74 rfl
theorem p_74_24 : zP1 74 24 = some (.aload_n 0, 0, 0, 0) := zp_l zq_74 rfl
theorem p_74_25 : zP1 74 25 = some (.dup, 0, 0, 0) := zp_l zq_74 rfl
theorem p_74_26 : zP1 74 26 = some (.getfield 53, 4, 7, 0) := zp_r zq_74 rfl
theorem p_74_29 : zP1 74 29 = some (.iconst 1, 0, 0, 0) := zp_l zq_74 rfl
theorem p_74_30 : zP1 74 30 = some (.iadd, 0, 0, 0) := zp_l zq_74 rfl
theorem p_74_31 : zP1 74 31 = some (.putfield 53, 4, 7, 0) := zp_r zq_74 rfl
theorem p_74_34 : zP1 74 34 = some (.aload_n 0, 0, 0, 0) := zp_l zq_74 rfl
theorem p_74_35 : zP1 74 35 = some (.aload_n 0, 0, 0, 0) := zp_l zq_74 rfl
theorem p_74_36 : zP1 74 36 = some (.getfield 25, 4, 3, 0) := zp_r zq_74 rfl
theorem p_74_39 : zP1 74 39 = some (.aload_n 0, 0, 0, 0) := zp_l zq_74 rfl
theorem p_74_40 : zP1 74 40 = some (.getfield 53, 4, 7, 0) := zp_r zq_74 rfl
theorem p_74_43 : zP1 74 43 = some (.aaload, 0, 0, 0) := zp_l zq_74 rfl
theorem p_74_44 : zP1 74 44 = some (.putfield 39, 4, 8, 2) := zp_r zq_74 rfl
theorem p_74_47 : zP1 74 47 = some (.return_, 0, 0, 0) := zp_l zq_74 rfl
theorem b_74_0 : Z e d 74 0 [.ref 179] [] m = (if ((wr (m 179 6)) ≤ (wr ((m 179 7) + 1))) ∨ (300 ≤ (wr (m 179 7))) then rn m else ck ((0 ≤ (wr ((um m 179 7 ((m 179 7) + 1)) 179 7)) ∧ (wr ((um m 179 7 ((m 179 7) + 1)) 179 7)) < 301) ∧ 0 ≤ ((um m 179 7 ((m 179 7) + 1)) 182 (wr ((um m 179 7 ((m 179 7) + 1)) 179 7)))) (rn (um (um m 179 7 ((m 179 7) + 1)) 179 8 ((um m 179 7 ((m 179 7) + 1)) 182 (wr ((um m 179 7 ((m 179 7) + 1)) 179 7)))))) := (s_al_0 p_74_0).trans <| (s_get3 p_74_1 hs_179 (by decide) rfl (by decide)).trans <| (s_const p_74_4).trans <| (s_iadd p_74_5).trans <| (s_al_0 p_74_6).trans <| (s_get3 p_74_7 hs_179 (by decide) rfl (by decide)).trans <| Eq.trans (Eq.trans (s_c_ge_t p_74_10 rfl rfl rfl) <| Eq.trans (ite_cg rfl ((s_al_0 p_74_13).trans <| (s_get3 p_74_14 hs_179 (by decide) rfl (by decide)).trans <| (s_sip p_74_17 rfl).trans <| (s_c_lt_f p_74_20 rfl rfl wl_300))) co_or) <| ite_cg ((s_retv p_74_23 (zM_of zq_74))) ((s_al_0 p_74_24).trans <| (s_dup cat_r p_74_25).trans <| (s_get3 p_74_26 hs_179 (by decide) rfl (by decide)).trans <| (s_const p_74_29).trans <| (s_iadd p_74_30).trans <| (s_put3 p_74_31 hs_179 (by decide) rfl (by decide)).trans <| (s_al_0 p_74_34).trans <| (s_al_0 p_74_35).trans <| (s_getr3 p_74_36 hs_179 (by decide) rfl (by decide)).trans <| (s_al_0 p_74_39).trans <| (s_get3 p_74_40 hs_179 (by decide) rfl (by decide)).trans <| (s_wld p_74_43).trans <| ck_cg fun k1 => (s_putw p_74_44 k1.2).trans <| (s_retv p_74_47 (zM_of zq_74)))
-- Reader.pass
theorem p_75_0 : zP1 75 0 = some (.aload_n 0, 0, 0, 0) := zp_l zq_75 rfl
theorem p_75_1 : zP1 75 1 = some (.getfield 39, 4, 8, 0) := zp_r zq_75 rfl
theorem p_75_4 : zP1 75 4 = some (.aload_n 1, 0, 0, 0) := zp_l zq_75 rfl
theorem p_75_5 : zP1 75 5 = some (.if_acmp .eq 5, 0, 0, 0) := zp_l zq_75 rfl
theorem p_75_8 : zP1 75 8 = some (.iconst 0, 0, 0, 0) := zp_l zq_75 rfl
theorem p_75_9 : zP1 75 9 = some (.ireturn, 0, 0, 0) := zp_l zq_75 rfl
theorem p_75_10 : zP1 75 10 = some (.aload_n 0, 0, 0, 0) := zp_l zq_75 rfl
theorem p_75_11 : zP1 75 11 = some (.invokevirtual 118, 74, 0, 4) := zp_r zq_75 rfl
theorem p_75_14 : zP1 75 14 = some (.iconst 1, 0, 0, 0) := zp_l zq_75 rfl
theorem p_75_15 : zP1 75 15 = some (.ireturn, 0, 0, 0) := zp_l zq_75 rfl
theorem b_75_0 {x1 : Int} (hx1 : 0 ≤ x1 ∧ x1 < 32) (hw1 : 0 ≤ (m 179 8) ∧ (m 179 8) < 32) : Z e (d + 1) 75 0 [.ref 179, .ref (10000 + x1.toNat)] [] m = (if ¬ ((m 179 8) = x1) then ri 0 m else (Z e d 74 0 [.ref 179] [] m).bind (ZK e (d + 1) 75 14 [.ref 179, .ref (10000 + x1.toNat)] [] m)) := (s_al_0 p_75_0).trans <| (s_getw' p_75_1 hw1).trans <| (s_al_1 p_75_4).trans <| Eq.trans ((s_weq_f p_75_5 rfl hw1 hx1)) <| ite_cg ((s_const p_75_8).trans <| (s_retk rfl p_75_9 (zM_of zq_75))) ((s_al_0 p_75_10).trans <| (s_cv0 (Lc := [.ref 179]) p_75_11 (by decide) (by decide) (zM_of zq_74) ⟨Nat.le_of_ble_eq_true rfl, Nat.le_of_ble_eq_true rfl⟩ rfl (m_rc3 hs_179 ⟨rfl, by decide⟩)))
theorem b_75_14 {u0 u1 : Value} : Z e (d + 1) 75 14 [u0, u1] [] m = ri 1 m := (s_const p_75_14).trans <| (s_retk rfl p_75_15 (zM_of zq_75))
-- Reader.passNumber
theorem p_76_0 : zP1 76 0 = some (.aload_n 0, 0, 0, 0) := zp_l zq_76 rfl
theorem p_76_1 : zP1 76 1 = some (.getfield 39, 4, 8, 0) := zp_r zq_76 rfl
theorem p_76_4 : zP1 76 4 = some (.getstatic 91, 3, 0, 0) := zp_r zq_76 rfl
theorem p_76_7 : zP1 76 7 = some (.if_acmp .ne 16, 0, 0, 0) := zp_l zq_76 rfl
theorem p_76_10 : zP1 76 10 = some (.aload_n 0, 0, 0, 0) := zp_l zq_76 rfl
theorem p_76_11 : zP1 76 11 = some (.getfield 28, 4, 4, 0) := zp_r zq_76 rfl
theorem p_76_14 : zP1 76 14 = some (.aload_n 0, 0, 0, 0) := zp_l zq_76 rfl
theorem p_76_15 : zP1 76 15 = some (.getfield 53, 4, 7, 0) := zp_r zq_76 rfl
theorem p_76_18 : zP1 76 18 = some (.iaload, 0, 0, 0) := zp_l zq_76 rfl
theorem p_76_19 : zP1 76 19 = some (.iload_n 1, 0, 0, 0) := zp_l zq_76 rfl
theorem p_76_20 : zP1 76 20 = some (.if_icmp .le 6, 0, 0, 0) := zp_l zq_76 rfl
theorem p_76_23 : zP1 76 23 = some (.bipush (-3), 0, 0, 0) := zp_l zq_76 rfl
theorem p_76_25 : zP1 76 25 = some (.ireturn, 0, 0, 0) := zp_l zq_76 rfl
theorem p_76_26 : zP1 76 26 = some (.aload_n 0, 0, 0, 0) := zp_l zq_76 rfl
theorem p_76_27 : zP1 76 27 = some (.getfield 28, 4, 4, 0) := zp_r zq_76 rfl
theorem p_76_30 : zP1 76 30 = some (.aload_n 0, 0, 0, 0) := zp_l zq_76 rfl
theorem p_76_31 : zP1 76 31 = some (.getfield 53, 4, 7, 0) := zp_r zq_76 rfl
theorem p_76_34 : zP1 76 34 = some (.iaload, 0, 0, 0) := zp_l zq_76 rfl
theorem p_76_35 : zP1 76 35 = some (.istore_n 2, 0, 0, 0) := zp_l zq_76 rfl
theorem p_76_36 : zP1 76 36 = some (.aload_n 0, 0, 0, 0) := zp_l zq_76 rfl
theorem p_76_37 : zP1 76 37 = some (.invokevirtual 118, 74, 0, 4) := zp_r zq_76 rfl
theorem p_76_40 : zP1 76 40 = some (.iload_n 2, 0, 0, 0) := zp_l zq_76 rfl
theorem p_76_41 : zP1 76 41 = some (.ireturn, 0, 0, 0) := zp_l zq_76 rfl
theorem b_76_0 {x1 : Int} (hw1 : 0 ≤ (m 179 8) ∧ (m 179 8) < 32) : Z e (d + 1) 76 0 [.ref 179, .int (iI x1), .retAddr 0] [] m = ck ((¬ (¬ ((m 179 8) = 2))) → (0 ≤ (wr (m 179 7)) ∧ (wr (m 179 7)) < 301)) (if (¬ ((m 179 8) = 2)) ∨ ((wr x1) < (wr (m 183 (wr (m 179 7))))) then ri (-3) m else ck (0 ≤ (wr (m 179 7)) ∧ (wr (m 179 7)) < 301) ((Z e d 74 0 [.ref 179] [] m).bind (ZK e (d + 1) 76 40 [.ref 179, .int (iI x1), .int (iI (m 183 (wr (m 179 7))))] [] m))) := (s_al_0 p_76_0).trans <| (s_getw' p_76_1 hw1).trans <| (s_gets (v := .ref (10000 + (2 : Int).toNat)) p_76_4 rfl).trans <| Eq.trans (Eq.trans (s_wne_t p_76_7 rfl hw1 (by decide)) <| Eq.trans (ite_cg rfl ((s_al_0 p_76_10).trans <| (s_getr3 p_76_11 hs_179 (by decide) rfl (by decide)).trans <| (s_al_0 p_76_14).trans <| (s_get3 p_76_15 hs_179 (by decide) rfl (by decide)).trans <| (s_ald 301 p_76_18 hs_183 rfl (by decide)).trans <| ck_cg fun k1 => (s_il_1 p_76_19).trans <| (s_c_le_f p_76_20 rfl rfl rfl))) <| Eq.trans ck_b <| ck_cg fun _ => co_or) <| ck_cg fun _ => ite_cg ((s_bip p_76_23 rfl).trans <| (s_reti p_76_25 (zM_of zq_76))) ((s_al_0 p_76_26).trans <| (s_getr3 p_76_27 hs_179 (by decide) rfl (by decide)).trans <| (s_al_0 p_76_30).trans <| (s_get3 p_76_31 hs_179 (by decide) rfl (by decide)).trans <| (s_ald 301 p_76_34 hs_183 rfl (by decide)).trans <| ck_cg fun k2 => (s_is_2 cat_i p_76_35).trans <| (s_al_0 p_76_36).trans <| (s_cv0 (Lc := [.ref 179]) p_76_37 (by decide) (by decide) (zM_of zq_74) ⟨Nat.le_of_ble_eq_true rfl, Nat.le_of_ble_eq_true rfl⟩ rfl (m_rc3 hs_179 ⟨rfl, by decide⟩)))
theorem b_76_40 {x2 : Int} {u0 u1 : Value} : Z e (d + 1) 76 40 [u0, u1, .int (iI x2)] [] m = ri x2 m := (s_il_2 p_76_40).trans <| (s_reti p_76_41 (zM_of zq_76))
-- Version.addLine
theorem p_112_0 : zP1 112 0 = some (.aload_n 0, 0, 0, 0) := zp_l zq_112 rfl
theorem p_112_1 : zP1 112 1 = some (.getfield 27, 8, 3, 0) := zp_r zq_112 rfl
theorem p_112_4 : zP1 112 4 = some (.bipush 10, 0, 0, 0) := zp_l zq_112 rfl
theorem p_112_6 : zP1 112 6 = some (.if_icmp .lt 4, 0, 0, 0) := zp_l zq_112 rfl
theorem p_112_9 : zP1 112 9 = some (.return_, 0, 0, 0) := zp_l zq_112 rfl
theorem p_112_10 : zP1 112 10 = some (.aload_n 0, 0, 0, 0) := zp_l zq_112 rfl
theorem p_112_11 : zP1 112 11 = some (.getfield 9, 8, 5, 0) := zp_r zq_112 rfl
theorem p_112_14 : zP1 112 14 = some (.aload_n 0, 0, 0, 0) := zp_l zq_112 rfl
theorem p_112_15 : zP1 112 15 = some (.getfield 27, 8, 3, 0) := zp_r zq_112 rfl
theorem p_112_18 : zP1 112 18 = some (.iload_n 1, 0, 0, 0) := zp_l zq_112 rfl
theorem p_112_19 : zP1 112 19 = some (.iastore, 0, 0, 0) := zp_l zq_112 rfl
theorem p_112_20 : zP1 112 20 = some (.aload_n 0, 0, 0, 0) := zp_l zq_112 rfl
theorem p_112_21 : zP1 112 21 = some (.getfield 15, 8, 6, 0) := zp_r zq_112 rfl
theorem p_112_24 : zP1 112 24 = some (.aload_n 0, 0, 0, 0) := zp_l zq_112 rfl
theorem p_112_25 : zP1 112 25 = some (.getfield 27, 8, 3, 0) := zp_r zq_112 rfl
theorem p_112_28 : zP1 112 28 = some (.iload_n 2, 0, 0, 0) := zp_l zq_112 rfl
theorem p_112_29 : zP1 112 29 = some (.iastore, 0, 0, 0) := zp_l zq_112 rfl
theorem p_112_30 : zP1 112 30 = some (.aload_n 0, 0, 0, 0) := zp_l zq_112 rfl
theorem p_112_31 : zP1 112 31 = some (.getfield 18, 8, 7, 0) := zp_r zq_112 rfl
theorem p_112_34 : zP1 112 34 = some (.aload_n 0, 0, 0, 0) := zp_l zq_112 rfl
theorem p_112_35 : zP1 112 35 = some (.getfield 27, 8, 3, 0) := zp_r zq_112 rfl
theorem p_112_38 : zP1 112 38 = some (.aload_n 0, 0, 0, 0) := zp_l zq_112 rfl
theorem p_112_39 : zP1 112 39 = some (.getfield 31, 8, 4, 0) := zp_r zq_112 rfl
theorem p_112_42 : zP1 112 42 = some (.iastore, 0, 0, 0) := zp_l zq_112 rfl
theorem p_112_43 : zP1 112 43 = some (.aload_n 0, 0, 0, 0) := zp_l zq_112 rfl
theorem p_112_44 : zP1 112 44 = some (.getfield 21, 8, 8, 0) := zp_r zq_112 rfl
theorem p_112_47 : zP1 112 47 = some (.aload_n 0, 0, 0, 0) := zp_l zq_112 rfl
theorem p_112_48 : zP1 112 48 = some (.getfield 27, 8, 3, 0) := zp_r zq_112 rfl
theorem p_112_51 : zP1 112 51 = some (.aload_n 0, 0, 0, 0) := zp_l zq_112 rfl
theorem p_112_52 : zP1 112 52 = some (.getfield 31, 8, 4, 0) := zp_r zq_112 rfl
theorem p_112_55 : zP1 112 55 = some (.iastore, 0, 0, 0) := zp_l zq_112 rfl
theorem p_112_56 : zP1 112 56 = some (.aload_n 0, 0, 0, 0) := zp_l zq_112 rfl
theorem p_112_57 : zP1 112 57 = some (.dup, 0, 0, 0) := zp_l zq_112 rfl
theorem p_112_58 : zP1 112 58 = some (.getfield 27, 8, 3, 0) := zp_r zq_112 rfl
theorem p_112_61 : zP1 112 61 = some (.iconst 1, 0, 0, 0) := zp_l zq_112 rfl
theorem p_112_62 : zP1 112 62 = some (.iadd, 0, 0, 0) := zp_l zq_112 rfl
theorem p_112_63 : zP1 112 63 = some (.putfield 27, 8, 3, 0) := zp_r zq_112 rfl
theorem p_112_66 : zP1 112 66 = some (.return_, 0, 0, 0) := zp_l zq_112 rfl
theorem b_112_0 {x1 : Int} {x2 : Int} : Z e d 112 0 [.ref 185, .int (iI x1), .int (iI x2)] [] m = (if 10 ≤ (wr (m 185 3)) then rn m else ck (0 ≤ (wr (m 185 3)) ∧ (wr (m 185 3)) < 10) (ck (0 ≤ (wr ((um m 186 (wr (m 185 3)) x1) 185 3)) ∧ (wr ((um m 186 (wr (m 185 3)) x1) 185 3)) < 10) (ck (0 ≤ (wr ((um (um m 186 (wr (m 185 3)) x1) 187 (wr ((um m 186 (wr (m 185 3)) x1) 185 3)) x2) 185 3)) ∧ (wr ((um (um m 186 (wr (m 185 3)) x1) 187 (wr ((um m 186 (wr (m 185 3)) x1) 185 3)) x2) 185 3)) < 10) (ck (0 ≤ (wr ((um (um (um m 186 (wr (m 185 3)) x1) 187 (wr ((um m 186 (wr (m 185 3)) x1) 185 3)) x2) 188 (wr ((um (um m 186 (wr (m 185 3)) x1) 187 (wr ((um m 186 (wr (m 185 3)) x1) 185 3)) x2) 185 3)) ((um (um m 186 (wr (m 185 3)) x1) 187 (wr ((um m 186 (wr (m 185 3)) x1) 185 3)) x2) 185 4)) 185 3)) ∧ (wr ((um (um (um m 186 (wr (m 185 3)) x1) 187 (wr ((um m 186 (wr (m 185 3)) x1) 185 3)) x2) 188 (wr ((um (um m 186 (wr (m 185 3)) x1) 187 (wr ((um m 186 (wr (m 185 3)) x1) 185 3)) x2) 185 3)) ((um (um m 186 (wr (m 185 3)) x1) 187 (wr ((um m 186 (wr (m 185 3)) x1) 185 3)) x2) 185 4)) 185 3)) < 10) (rn (um (um (um (um (um m 186 (wr (m 185 3)) x1) 187 (wr ((um m 186 (wr (m 185 3)) x1) 185 3)) x2) 188 (wr ((um (um m 186 (wr (m 185 3)) x1) 187 (wr ((um m 186 (wr (m 185 3)) x1) 185 3)) x2) 185 3)) ((um (um m 186 (wr (m 185 3)) x1) 187 (wr ((um m 186 (wr (m 185 3)) x1) 185 3)) x2) 185 4)) 189 (wr ((um (um (um m 186 (wr (m 185 3)) x1) 187 (wr ((um m 186 (wr (m 185 3)) x1) 185 3)) x2) 188 (wr ((um (um m 186 (wr (m 185 3)) x1) 187 (wr ((um m 186 (wr (m 185 3)) x1) 185 3)) x2) 185 3)) ((um (um m 186 (wr (m 185 3)) x1) 187 (wr ((um m 186 (wr (m 185 3)) x1) 185 3)) x2) 185 4)) 185 3)) ((um (um (um m 186 (wr (m 185 3)) x1) 187 (wr ((um m 186 (wr (m 185 3)) x1) 185 3)) x2) 188 (wr ((um (um m 186 (wr (m 185 3)) x1) 187 (wr ((um m 186 (wr (m 185 3)) x1) 185 3)) x2) 185 3)) ((um (um m 186 (wr (m 185 3)) x1) 187 (wr ((um m 186 (wr (m 185 3)) x1) 185 3)) x2) 185 4)) 185 4)) 185 3 (((um (um (um (um m 186 (wr (m 185 3)) x1) 187 (wr ((um m 186 (wr (m 185 3)) x1) 185 3)) x2) 188 (wr ((um (um m 186 (wr (m 185 3)) x1) 187 (wr ((um m 186 (wr (m 185 3)) x1) 185 3)) x2) 185 3)) ((um (um m 186 (wr (m 185 3)) x1) 187 (wr ((um m 186 (wr (m 185 3)) x1) 185 3)) x2) 185 4)) 189 (wr ((um (um (um m 186 (wr (m 185 3)) x1) 187 (wr ((um m 186 (wr (m 185 3)) x1) 185 3)) x2) 188 (wr ((um (um m 186 (wr (m 185 3)) x1) 187 (wr ((um m 186 (wr (m 185 3)) x1) 185 3)) x2) 185 3)) ((um (um m 186 (wr (m 185 3)) x1) 187 (wr ((um m 186 (wr (m 185 3)) x1) 185 3)) x2) 185 4)) 185 3)) ((um (um (um m 186 (wr (m 185 3)) x1) 187 (wr ((um m 186 (wr (m 185 3)) x1) 185 3)) x2) 188 (wr ((um (um m 186 (wr (m 185 3)) x1) 187 (wr ((um m 186 (wr (m 185 3)) x1) 185 3)) x2) 185 3)) ((um (um m 186 (wr (m 185 3)) x1) 187 (wr ((um m 186 (wr (m 185 3)) x1) 185 3)) x2) 185 4)) 185 4)) 185 3) + 1))))))) := (s_al_0 p_112_0).trans <| (s_get p_112_1 hs_185 (by decide) rfl).trans <| (s_bip p_112_4 rfl).trans <| Eq.trans ((s_c_lt_f p_112_6 rfl rfl wl_10)) <| ite_cg ((s_retv p_112_9 (zM_of zq_112))) ((s_al_0 p_112_10).trans <| (s_getr p_112_11 hs_185 (by decide) rfl).trans <| (s_al_0 p_112_14).trans <| (s_get p_112_15 hs_185 (by decide) rfl).trans <| (s_il_1 p_112_18).trans <| (s_ast 10 p_112_19 hs_186 rfl).trans <| ck_cg fun k1 => (s_al_0 p_112_20).trans <| (s_getr p_112_21 hs_185 (by decide) rfl).trans <| (s_al_0 p_112_24).trans <| (s_get p_112_25 hs_185 (by decide) rfl).trans <| (s_il_2 p_112_28).trans <| (s_ast 10 p_112_29 hs_187 rfl).trans <| ck_cg fun k2 => (s_al_0 p_112_30).trans <| (s_getr p_112_31 hs_185 (by decide) rfl).trans <| (s_al_0 p_112_34).trans <| (s_get p_112_35 hs_185 (by decide) rfl).trans <| (s_al_0 p_112_38).trans <| (s_get p_112_39 hs_185 (by decide) rfl).trans <| (s_ast 10 p_112_42 hs_188 rfl).trans <| ck_cg fun k3 => (s_al_0 p_112_43).trans <| (s_getr p_112_44 hs_185 (by decide) rfl).trans <| (s_al_0 p_112_47).trans <| (s_get p_112_48 hs_185 (by decide) rfl).trans <| (s_al_0 p_112_51).trans <| (s_get p_112_52 hs_185 (by decide) rfl).trans <| (s_ast 10 p_112_55 hs_189 rfl).trans <| ck_cg fun k4 => (s_al_0 p_112_56).trans <| (s_dup cat_r p_112_57).trans <| (s_get p_112_58 hs_185 (by decide) rfl).trans <| (s_const p_112_61).trans <| (s_iadd p_112_62).trans <| (s_put p_112_63 hs_185 (by decide) rfl).trans <| (s_retv p_112_66 (zM_of zq_112)))
-- Reader.parseNumberLine
theorem p_78_0 : zP1 78 0 = some (.aload_n 0, 0, 0, 0) := zp_l zq_78 rfl
theorem p_78_1 : zP1 78 1 = some (.iload_n 2, 0, 0, 0) := zp_l zq_78 rfl
theorem p_78_2 : zP1 78 2 = some (.invokevirtual 146, 76, 1, 4) := zp_r zq_78 rfl
theorem p_78_5 : zP1 78 5 = some (.istore_n 3, 0, 0, 0) := zp_l zq_78 rfl
theorem p_78_6 : zP1 78 6 = some (.iload_n 3, 0, 0, 0) := zp_l zq_78 rfl
theorem p_78_7 : zP1 78 7 = some (.bipush (-3), 0, 0, 0) := zp_l zq_78 rfl
theorem p_78_9 : zP1 78 9 = some (.if_icmp .ne 5, 0, 0, 0) := zp_l zq_78 rfl
theorem p_78_12 : zP1 78 12 = some (.iconst 0, 0, 0, 0) := zp_l zq_78 rfl
theorem p_78_13 : zP1 78 13 = some (.ireturn, 0, 0, 0) := zp_l zq_78 rfl
theorem p_78_14 : zP1 78 14 = some (.aload_n 0, 0, 0, 0) := zp_l zq_78 rfl
theorem p_78_15 : zP1 78 15 = some (.getfield 45, 4, 9, 0) := zp_r zq_78 rfl
theorem p_78_18 : zP1 78 18 = some (.iload_n 1, 0, 0, 0) := zp_l zq_78 rfl
theorem p_78_19 : zP1 78 19 = some (.iload_n 3, 0, 0, 0) := zp_l zq_78 rfl
theorem p_78_20 : zP1 78 20 = some (.invokevirtual 150, 112, 2, 8) := zp_r zq_78 rfl
theorem p_78_23 : zP1 78 23 = some (.iconst 1, 0, 0, 0) := zp_l zq_78 rfl
theorem p_78_24 : zP1 78 24 = some (.ireturn, 0, 0, 0) := zp_l zq_78 rfl
theorem b_78_0 {x1 : Int} {x2 : Int} : Z e (d + 1) 78 0 [.ref 179, .int (iI x1), .int (iI x2), .retAddr 0] [] m = (Z e d 76 0 [.ref 179, .int (iI x2), .retAddr 0] [] m).bind (ZK e (d + 1) 78 5 [.ref 179, .int (iI x1), .int (iI x2), .retAddr 0] [] m) := (s_al_0 p_78_0).trans <| (s_il_2 p_78_1).trans <| (s_cv1 (Lc := [.ref 179, .int (iI x2), .retAddr 0]) p_78_2 (by decide) (by decide) (zM_of zq_76) ⟨Nat.le_of_ble_eq_true rfl, Nat.le_of_ble_eq_true rfl⟩ rfl (m_rc3 hs_179 ⟨rfl, by decide⟩))
theorem b_78_5 {x1 : Int} {xs0 : Int} {u2 u3 : Value} (hu2 : u2.category = 1) : Z e (d + 1) 78 5 [.ref 179, .int (iI x1), u2, u3] [.int (iI xs0)] m = (if (wr xs0) = (-3) then ri 0 m else (Z e d 112 0 [.ref 185, .int (iI x1), .int (iI xs0)] [] m).bind (ZK e (d + 1) 78 23 [.ref 179, .int (iI x1), u2, .int (iI xs0)] [] m)) := (s_is_3 hu2 p_78_5).trans <| (s_il_3 p_78_6).trans <| (s_bip p_78_7 rfl).trans <| Eq.trans ((s_c_ne_f p_78_9 rfl rfl wl_m3)) <| ite_cg ((s_const p_78_12).trans <| (s_retk rfl p_78_13 (zM_of zq_78))) ((s_al_0 p_78_14).trans <| (s_getr3 p_78_15 hs_179 (by decide) rfl (by decide)).trans <| (s_il_1 p_78_18).trans <| (s_il_3 p_78_19).trans <| (s_cv2 (Lc := [.ref 185, .int (iI x1), .int (iI xs0)]) p_78_20 (by decide) (by decide) (zM_of zq_112) ⟨Nat.le_of_ble_eq_true rfl, Nat.le_of_ble_eq_true rfl⟩ rfl (m_rc hs_185 ⟨rfl, by decide⟩)))
theorem b_78_23 {u0 u1 u2 u3 : Value} : Z e (d + 1) 78 23 [u0, u1, u2, u3] [] m = ri 1 m := (s_const p_78_23).trans <| (s_retk rfl p_78_24 (zM_of zq_78))
-- Reader.parseOpen
theorem p_85_0 : zP1 85 0 = some (.iload_n 1, 0, 0, 0) := zp_l zq_85 rfl
theorem p_85_1 : zP1 85 1 = some (.iconst 4, 0, 0, 0) := zp_l zq_85 rfl
theorem p_85_2 : zP1 85 2 = some (.if_icmp .lt 5, 0, 0, 0) := zp_l zq_85 rfl
theorem p_85_5 : zP1 85 5 = some (.iconst 0, 0, 0, 0) := zp_l zq_85 rfl
theorem p_85_6 : zP1 85 6 = some (.ireturn, 0, 0, 0) := zp_l zq_85 rfl
theorem p_85_7 : zP1 85 7 = some (.aload_n 0, 0, 0, 0) := zp_l zq_85 rfl
theorem p_85_8 : zP1 85 8 = some (.invokevirtual 118, 74, 0, 4) := zp_r zq_85 rfl
theorem p_85_11 : zP1 85 11 = some (.aload_n 0, 0, 0, 0) := zp_l zq_85 rfl
theorem p_85_12 : zP1 85 12 = some (.iload_n 1, 0, 0, 0) := zp_l zq_85 rfl
theorem p_85_13 : zP1 85 13 = some (.iconst 1, 0, 0, 0) := zp_l zq_85 rfl
theorem p_85_14 : zP1 85 14 = some (.iadd, 0, 0, 0) := zp_l zq_85 rfl
theorem p_85_15 : zP1 85 15 = some (.invokevirtual 175, 82, 1, 4) := zp_r zq_85 rfl
theorem p_85_18 : zP1 85 18 = some (.ifCond .eq 17, 0, 0, 0) := zp_l zq_85 rfl
theorem p_85_21 : zP1 85 21 = some (.aload_n 0, 0, 0, 0) := zp_l zq_85 rfl
theorem p_85_22 : zP1 85 22 = some (.getstatic 202, 18, 0, 0) := zp_r zq_85 rfl
theorem p_85_25 : zP1 85 25 = some (.invokevirtual 69, 75, 1, 4) := zp_r zq_85 rfl
theorem p_85_28 : zP1 85 28 = some (.ifCond .eq 7, 0, 0, 0) := zp_l zq_85 rfl
theorem p_85_31 : zP1 85 31 = some (.iconst 1, 0, 0, 0) := zp_l zq_85 rfl
theorem p_85_32 : zP1 85 32 = some (.goto 4, 0, 0, 0) := zp_l zq_85 rfl
theorem p_85_35 : zP1 85 35 = some (.iconst 0, 0, 0, 0) := zp_l zq_85 rfl
theorem p_85_36 : zP1 85 36 = some (.ireturn, 0, 0, 0) := zp_l zq_85 rfl
theorem b_85_0 {x1 : Int} : Z e (d + 1) 85 0 [.ref 179, .int (iI x1)] [] m = (if 4 ≤ (wr x1) then ri 0 m else (Z e d 74 0 [.ref 179] [] m).bind (ZK e (d + 1) 85 11 [.ref 179, .int (iI x1)] [] m)) := (s_il_1 p_85_0).trans <| (s_const p_85_1).trans <| Eq.trans ((s_c_lt_f p_85_2 rfl rfl wl_4)) <| ite_cg ((s_const p_85_5).trans <| (s_retk rfl p_85_6 (zM_of zq_85))) ((s_al_0 p_85_7).trans <| (s_cv0 (Lc := [.ref 179]) p_85_8 (by decide) (by decide) (zM_of zq_74) ⟨Nat.le_of_ble_eq_true rfl, Nat.le_of_ble_eq_true rfl⟩ rfl (m_rc3 hs_179 ⟨rfl, by decide⟩)))
theorem b_85_11 {x1 : Int} : Z e (d + 1) 85 11 [.ref 179, .int (iI x1)] [] m = (Z e d 82 0 [.ref 179, .int (iI (x1 + 1)), .retAddr 0] [] m).bind (ZK e (d + 1) 85 18 [.ref 179, .int (iI x1)] [] m) := (s_al_0 p_85_11).trans <| (s_il_1 p_85_12).trans <| (s_const p_85_13).trans <| (s_iadd p_85_14).trans <| (s_cv1 (Lc := [.ref 179, .int (iI (x1 + 1)), .retAddr 0]) p_85_15 (by decide) (by decide) (zM_of zq_82) ⟨Nat.le_of_ble_eq_true rfl, Nat.le_of_ble_eq_true rfl⟩ rfl (m_rc3 hs_179 ⟨rfl, by decide⟩))
theorem b_85_18 {xs0 : Int} {u1 : Value} : Z e (d + 1) 85 18 [.ref 179, u1] [.int (iI xs0)] m = (if ¬ (wr xs0) = 0 then (Z e d 75 0 [.ref 179, .ref (10000 + (31 : Int).toNat)] [] m).bind (ZK e (d + 1) 85 28 [.ref 179, u1] [] m) else ri 0 m) := Eq.trans ((s_z_eq_f p_85_18 rfl rfl)) <| ite_cg ((s_al_0 p_85_21).trans <| (s_gets (v := .ref (10000 + (31 : Int).toNat)) p_85_22 rfl).trans <| (s_cv1 (Lc := [.ref 179, .ref (10000 + (31 : Int).toNat)]) p_85_25 (by decide) (by decide) (zM_of zq_75) ⟨Nat.le_of_ble_eq_true rfl, Nat.le_of_ble_eq_true rfl⟩ rfl (m_rc3 hs_179 ⟨rfl, by decide⟩))) ((s_const p_85_35).trans <| (s_retk rfl p_85_36 (zM_of zq_85)))
theorem b_85_28 {xs0 : Int} {u0 u1 : Value} : Z e (d + 1) 85 28 [u0, u1] [.int (iI xs0)] m = ri (if ¬ (wr xs0) = 0 then 1 else 0) m := Eq.trans (Eq.trans ((s_z_eq_f p_85_28 rfl rfl)) <| Eq.trans (ite_cg ((s_const p_85_31).trans <| (s_goto p_85_32 rfl).trans <| rfl) ((s_const p_85_35).trans <| rfl)) (phi1 (fun z0 => Z e (d + 1) 85 36 [u0, u1] [.int (iI z0)] m))) <| (s_retb p_85_36 (zM_of zq_85))
-- Version.addCode
theorem p_113_0 : zP1 113 0 = some (.aload_n 0, 0, 0, 0) := zp_l zq_113 rfl
theorem p_113_1 : zP1 113 1 = some (.getfield 31, 8, 4, 0) := zp_r zq_113 rfl
theorem p_113_4 : zP1 113 4 = some (.bipush 100, 0, 0, 0) := zp_l zq_113 rfl
theorem p_113_6 : zP1 113 6 = some (.if_icmp .ge 11, 0, 0, 0) := zp_l zq_113 rfl
theorem p_113_9 : zP1 113 9 = some (.aload_n 0, 0, 0, 0) := zp_l zq_113 rfl
theorem p_113_10 : zP1 113 10 = some (.getfield 27, 8, 3, 0) := zp_r zq_113 rfl
theorem p_113_13 : zP1 113 13 = some (.iconst 1, 0, 0, 0) := zp_l zq_113 rfl
theorem p_113_14 : zP1 113 14 = some (.if_icmp .ge 4, 0, 0, 0) := zp_l zq_113 rfl
theorem p_113_17 : zP1 113 17 = some (.return_, 0, 0, 0) := zp_l zq_113 rfl
theorem p_113_18 : zP1 113 18 = some (.aload_n 0, 0, 0, 0) := zp_l zq_113 rfl
theorem p_113_19 : zP1 113 19 = some (.getfield 24, 8, 9, 0) := zp_r zq_113 rfl
theorem p_113_22 : zP1 113 22 = some (.aload_n 0, 0, 0, 0) := zp_l zq_113 rfl
theorem p_113_23 : zP1 113 23 = some (.getfield 31, 8, 4, 0) := zp_r zq_113 rfl
theorem p_113_26 : zP1 113 26 = some (.iload_n 1, 0, 0, 0) := zp_l zq_113 rfl
theorem p_113_27 : zP1 113 27 = some (.sipush 1000, 0, 0, 0) := zp_l zq_113 rfl
theorem p_113_30 : zP1 113 30 = some (.imul, 0, 0, 0) := zp_l zq_113 rfl
theorem p_113_31 : zP1 113 31 = some (.iload_n 2, 0, 0, 0) := zp_l zq_113 rfl
theorem p_113_32 : zP1 113 32 = some (.iadd, 0, 0, 0) := zp_l zq_113 rfl
theorem p_113_33 : zP1 113 33 = some (.iastore, 0, 0, 0) := zp_l zq_113 rfl
theorem p_113_34 : zP1 113 34 = some (.aload_n 0, 0, 0, 0) := zp_l zq_113 rfl
theorem p_113_35 : zP1 113 35 = some (.dup, 0, 0, 0) := zp_l zq_113 rfl
theorem p_113_36 : zP1 113 36 = some (.getfield 31, 8, 4, 0) := zp_r zq_113 rfl
theorem p_113_39 : zP1 113 39 = some (.iconst 1, 0, 0, 0) := zp_l zq_113 rfl
theorem p_113_40 : zP1 113 40 = some (.iadd, 0, 0, 0) := zp_l zq_113 rfl
theorem p_113_41 : zP1 113 41 = some (.putfield 31, 8, 4, 0) := zp_r zq_113 rfl
theorem p_113_44 : zP1 113 44 = some (.aload_n 0, 0, 0, 0) := zp_l zq_113 rfl
theorem p_113_45 : zP1 113 45 = some (.getfield 21, 8, 8, 0) := zp_r zq_113 rfl
theorem p_113_48 : zP1 113 48 = some (.aload_n 0, 0, 0, 0) := zp_l zq_113 rfl
theorem p_113_49 : zP1 113 49 = some (.getfield 27, 8, 3, 0) := zp_r zq_113 rfl
theorem p_113_52 : zP1 113 52 = some (.iconst 1, 0, 0, 0) := zp_l zq_113 rfl
theorem p_113_53 : zP1 113 53 = some (.isub, 0, 0, 0) := zp_l zq_113 rfl
theorem p_113_54 : zP1 113 54 = some (.aload_n 0, 0, 0, 0) := zp_l zq_113 rfl
theorem p_113_55 : zP1 113 55 = some (.getfield 31, 8, 4, 0) := zp_r zq_113 rfl
theorem p_113_58 : zP1 113 58 = some (.iastore, 0, 0, 0) := zp_l zq_113 rfl
theorem p_113_59 : zP1 113 59 = some (.return_, 0, 0, 0) := zp_l zq_113 rfl
theorem b_113_0 {x1 : Int} {x2 : Int} : Z e d 113 0 [.ref 185, .int (iI x1), .int (iI x2)] [] m = (if (100 ≤ (wr (m 185 4))) ∨ ((wr (m 185 3)) < 1) then rn m else ck (0 ≤ (wr (m 185 4)) ∧ (wr (m 185 4)) < 100) (ck (0 ≤ (wr (((um (um m 190 (wr (m 185 4)) ((x1 * 1000) + x2)) 185 4 (((um m 190 (wr (m 185 4)) ((x1 * 1000) + x2)) 185 4) + 1)) 185 3) - 1)) ∧ (wr (((um (um m 190 (wr (m 185 4)) ((x1 * 1000) + x2)) 185 4 (((um m 190 (wr (m 185 4)) ((x1 * 1000) + x2)) 185 4) + 1)) 185 3) - 1)) < 10) (rn (um (um (um m 190 (wr (m 185 4)) ((x1 * 1000) + x2)) 185 4 (((um m 190 (wr (m 185 4)) ((x1 * 1000) + x2)) 185 4) + 1)) 189 (wr (((um (um m 190 (wr (m 185 4)) ((x1 * 1000) + x2)) 185 4 (((um m 190 (wr (m 185 4)) ((x1 * 1000) + x2)) 185 4) + 1)) 185 3) - 1)) ((um (um m 190 (wr (m 185 4)) ((x1 * 1000) + x2)) 185 4 (((um m 190 (wr (m 185 4)) ((x1 * 1000) + x2)) 185 4) + 1)) 185 4))))) := (s_al_0 p_113_0).trans <| (s_get p_113_1 hs_185 (by decide) rfl).trans <| (s_bip p_113_4 rfl).trans <| Eq.trans (Eq.trans (s_c_ge_t p_113_6 rfl rfl wl_100) <| Eq.trans (ite_cg rfl ((s_al_0 p_113_9).trans <| (s_get p_113_10 hs_185 (by decide) rfl).trans <| (s_const p_113_13).trans <| (s_c_ge_f p_113_14 rfl rfl wl_1))) co_or) <| ite_cg ((s_retv p_113_17 (zM_of zq_113))) ((s_al_0 p_113_18).trans <| (s_getr p_113_19 hs_185 (by decide) rfl).trans <| (s_al_0 p_113_22).trans <| (s_get p_113_23 hs_185 (by decide) rfl).trans <| (s_il_1 p_113_26).trans <| (s_sip p_113_27 rfl).trans <| (s_imul p_113_30).trans <| (s_il_2 p_113_31).trans <| (s_iadd p_113_32).trans <| (s_ast 100 p_113_33 hs_190 rfl).trans <| ck_cg fun k1 => (s_al_0 p_113_34).trans <| (s_dup cat_r p_113_35).trans <| (s_get p_113_36 hs_185 (by decide) rfl).trans <| (s_const p_113_39).trans <| (s_iadd p_113_40).trans <| (s_put p_113_41 hs_185 (by decide) rfl).trans <| (s_al_0 p_113_44).trans <| (s_getr p_113_45 hs_185 (by decide) rfl).trans <| (s_al_0 p_113_48).trans <| (s_get p_113_49 hs_185 (by decide) rfl).trans <| (s_const p_113_52).trans <| (s_isub p_113_53).trans <| (s_al_0 p_113_54).trans <| (s_get p_113_55 hs_185 (by decide) rfl).trans <| (s_ast 10 p_113_58 hs_189 rfl).trans <| ck_cg fun k2 => (s_retv p_113_59 (zM_of zq_113)))
-- Reader.parseFact
theorem p_86_0 : zP1 86 0 = some (.aload_n 0, 0, 0, 0) := zp_l zq_86 rfl
theorem p_86_1 : zP1 86 1 = some (.getfield 39, 4, 8, 0) := zp_r zq_86 rfl
theorem p_86_4 : zP1 86 4 = some (.getfield 205, 40, 2, 0) := zp_r zq_86 rfl
theorem p_86_7 : zP1 86 7 = some (.istore_n 1, 0, 0, 0) := zp_l zq_86 rfl
theorem p_86_8 : zP1 86 8 = some (.iload_n 1, 0, 0, 0) := zp_l zq_86 rfl
theorem p_86_9 : zP1 86 9 = some (.ifCond .ge 5, 0, 0, 0) := zp_l zq_86 rfl
theorem p_86_12 : zP1 86 12 = some (.iconst 0, 0, 0, 0) := zp_l zq_86 rfl
theorem p_86_13 : zP1 86 13 = some (.ireturn, 0, 0, 0) := zp_l zq_86 rfl
theorem p_86_14 : zP1 86 14 = some (.aload_n 0, 0, 0, 0) := zp_l zq_86 rfl
theorem p_86_15 : zP1 86 15 = some (.invokevirtual 118, 74, 0, 4) := zp_r zq_86 rfl
theorem p_86_18 : zP1 86 18 = some (.iload_n 1, 0, 0, 0) := zp_l zq_86 rfl
theorem p_86_19 : zP1 86 19 = some (.iconst 3, 0, 0, 0) := zp_l zq_86 rfl
theorem p_86_20 : zP1 86 20 = some (.if_icmp .lt 14, 0, 0, 0) := zp_l zq_86 rfl
theorem p_86_23 : zP1 86 23 = some (.aload_n 0, 0, 0, 0) := zp_l zq_86 rfl
theorem p_86_24 : zP1 86 24 = some (.getfield 45, 4, 9, 0) := zp_r zq_86 rfl
theorem p_86_27 : zP1 86 27 = some (.iload_n 1, 0, 0, 0) := zp_l zq_86 rfl
theorem p_86_28 : zP1 86 28 = some (.iconst 0, 0, 0, 0) := zp_l zq_86 rfl
theorem p_86_29 : zP1 86 29 = some (.invokevirtual 184, 113, 2, 8) := zp_r zq_86 rfl
theorem p_86_32 : zP1 86 32 = some (.iconst 1, 0, 0, 0) := zp_l zq_86 rfl
theorem p_86_33 : zP1 86 33 = some (.ireturn, 0, 0, 0) := zp_l zq_86 rfl
theorem p_86_34 : zP1 86 34 = some (.aload_n 0, 0, 0, 0) := zp_l zq_86 rfl
theorem p_86_35 : zP1 86 35 = some (.getstatic 208, 19, 0, 0) := zp_r zq_86 rfl
theorem p_86_38 : zP1 86 38 = some (.invokevirtual 69, 75, 1, 4) := zp_r zq_86 rfl
theorem p_86_41 : zP1 86 41 = some (.ifCond .ne 5, 0, 0, 0) := zp_l zq_86 rfl
theorem p_86_44 : zP1 86 44 = some (.iconst 0, 0, 0, 0) := zp_l zq_86 rfl
theorem p_86_45 : zP1 86 45 = some (.ireturn, 0, 0, 0) := zp_l zq_86 rfl
theorem p_86_46 : zP1 86 46 = some (.aload_n 0, 0, 0, 0) := zp_l zq_86 rfl
theorem p_86_47 : zP1 86 47 = some (.sipush 999, 0, 0, 0) := zp_l zq_86 rfl
theorem p_86_50 : zP1 86 50 = some (.invokevirtual 146, 76, 1, 4) := zp_r zq_86 rfl
theorem p_86_53 : zP1 86 53 = some (.istore_n 2, 0, 0, 0) := zp_l zq_86 rfl
theorem p_86_54 : zP1 86 54 = some (.iload_n 2, 0, 0, 0) := zp_l zq_86 rfl
theorem p_86_55 : zP1 86 55 = some (.bipush (-3), 0, 0, 0) := zp_l zq_86 rfl
theorem p_86_57 : zP1 86 57 = some (.if_icmp .ne 5, 0, 0, 0) := zp_l zq_86 rfl
theorem p_86_60 : zP1 86 60 = some (.iconst 0, 0, 0, 0) := zp_l zq_86 rfl
theorem p_86_61 : zP1 86 61 = some (.ireturn, 0, 0, 0) := zp_l zq_86 rfl
theorem p_86_62 : zP1 86 62 = some (.aload_n 0, 0, 0, 0) := zp_l zq_86 rfl
theorem p_86_63 : zP1 86 63 = some (.getfield 45, 4, 9, 0) := zp_r zq_86 rfl
theorem p_86_66 : zP1 86 66 = some (.iload_n 1, 0, 0, 0) := zp_l zq_86 rfl
theorem p_86_67 : zP1 86 67 = some (.iload_n 2, 0, 0, 0) := zp_l zq_86 rfl
theorem p_86_68 : zP1 86 68 = some (.invokevirtual 184, 113, 2, 8) := zp_r zq_86 rfl
theorem p_86_71 : zP1 86 71 = some (.iconst 1, 0, 0, 0) := zp_l zq_86 rfl
theorem p_86_72 : zP1 86 72 = some (.ireturn, 0, 0, 0) := zp_l zq_86 rfl
theorem b_86_0 (hw1 : 0 ≤ (m 179 8) ∧ (m 179 8) < 32) : Z e (d + 1) 86 0 [.ref 179, .retAddr 0, .retAddr 0] [] m = (if (wr (wcode (m 179 8))) < 0 then ri 0 m else (Z e d 74 0 [.ref 179] [] m).bind (ZK e (d + 1) 86 18 [.ref 179, .int (iI (wcode (m 179 8))), .retAddr 0] [] m)) := (s_al_0 p_86_0).trans <| (s_getw' p_86_1 hw1).trans <| (s_wcode p_86_4 hw1).trans <| (s_is_1 cat_r p_86_7).trans <| (s_il_1 p_86_8).trans <| Eq.trans ((s_z_ge_f p_86_9 rfl rfl)) <| ite_cg ((s_const p_86_12).trans <| (s_retk rfl p_86_13 (zM_of zq_86))) ((s_al_0 p_86_14).trans <| (s_cv0 (Lc := [.ref 179]) p_86_15 (by decide) (by decide) (zM_of zq_74) ⟨Nat.le_of_ble_eq_true rfl, Nat.le_of_ble_eq_true rfl⟩ rfl (m_rc3 hs_179 ⟨rfl, by decide⟩)))
theorem b_86_18 {x1 : Int} {u2 : Value} : Z e (d + 1) 86 18 [.ref 179, .int (iI x1), u2] [] m = (if 3 ≤ (wr x1) then (Z e d 113 0 [.ref 185, .int (iI x1), .int (iI 0)] [] m).bind (ZK e (d + 1) 86 32 [.ref 179, .int (iI x1), u2] [] m) else (Z e d 75 0 [.ref 179, .ref (10000 + (15 : Int).toNat)] [] m).bind (ZK e (d + 1) 86 41 [.ref 179, .int (iI x1), u2] [] m)) := (s_il_1 p_86_18).trans <| (s_const p_86_19).trans <| Eq.trans ((s_c_lt_f p_86_20 rfl rfl wl_3)) <| ite_cg ((s_al_0 p_86_23).trans <| (s_getr3 p_86_24 hs_179 (by decide) rfl (by decide)).trans <| (s_il_1 p_86_27).trans <| (s_const p_86_28).trans <| (s_cv2 (Lc := [.ref 185, .int (iI x1), .int (iI 0)]) p_86_29 (by decide) (by decide) (zM_of zq_113) ⟨Nat.le_of_ble_eq_true rfl, Nat.le_of_ble_eq_true rfl⟩ rfl (m_rc hs_185 ⟨rfl, by decide⟩))) ((s_al_0 p_86_34).trans <| (s_gets (v := .ref (10000 + (15 : Int).toNat)) p_86_35 rfl).trans <| (s_cv1 (Lc := [.ref 179, .ref (10000 + (15 : Int).toNat)]) p_86_38 (by decide) (by decide) (zM_of zq_75) ⟨Nat.le_of_ble_eq_true rfl, Nat.le_of_ble_eq_true rfl⟩ rfl (m_rc3 hs_179 ⟨rfl, by decide⟩)))
theorem b_86_32 {u0 u1 u2 : Value} : Z e (d + 1) 86 32 [u0, u1, u2] [] m = ri 1 m := (s_const p_86_32).trans <| (s_retk rfl p_86_33 (zM_of zq_86))
theorem b_86_41 {x1 : Int} {xs0 : Int} {u2 : Value} : Z e (d + 1) 86 41 [.ref 179, .int (iI x1), u2] [.int (iI xs0)] m = (if (wr xs0) = 0 then ri 0 m else (Z e d 76 0 [.ref 179, .int (iI 999), .retAddr 0] [] m).bind (ZK e (d + 1) 86 53 [.ref 179, .int (iI x1), u2] [] m)) := Eq.trans ((s_z_ne_f p_86_41 rfl rfl)) <| ite_cg ((s_const p_86_44).trans <| (s_retk rfl p_86_45 (zM_of zq_86))) ((s_al_0 p_86_46).trans <| (s_sip p_86_47 rfl).trans <| (s_cv1 (Lc := [.ref 179, .int (iI 999), .retAddr 0]) p_86_50 (by decide) (by decide) (zM_of zq_76) ⟨Nat.le_of_ble_eq_true rfl, Nat.le_of_ble_eq_true rfl⟩ rfl (m_rc3 hs_179 ⟨rfl, by decide⟩)))
theorem b_86_53 {x1 : Int} {xs0 : Int} {u2 : Value} : Z e (d + 1) 86 53 [.ref 179, .int (iI x1), u2] [.int (iI xs0)] m = (if (wr xs0) = (-3) then ri 0 m else (Z e d 113 0 [.ref 185, .int (iI x1), .int (iI xs0)] [] m).bind (ZK e (d + 1) 86 71 [.ref 179, .int (iI x1), .int (iI xs0)] [] m)) := (s_is_2 cat_i p_86_53).trans <| (s_il_2 p_86_54).trans <| (s_bip p_86_55 rfl).trans <| Eq.trans ((s_c_ne_f p_86_57 rfl rfl wl_m3)) <| ite_cg ((s_const p_86_60).trans <| (s_retk rfl p_86_61 (zM_of zq_86))) ((s_al_0 p_86_62).trans <| (s_getr3 p_86_63 hs_179 (by decide) rfl (by decide)).trans <| (s_il_1 p_86_66).trans <| (s_il_2 p_86_67).trans <| (s_cv2 (Lc := [.ref 185, .int (iI x1), .int (iI xs0)]) p_86_68 (by decide) (by decide) (zM_of zq_113) ⟨Nat.le_of_ble_eq_true rfl, Nat.le_of_ble_eq_true rfl⟩ rfl (m_rc hs_185 ⟨rfl, by decide⟩)))
theorem b_86_71 {u0 u1 u2 : Value} : Z e (d + 1) 86 71 [u0, u1, u2] [] m = ri 1 m := (s_const p_86_71).trans <| (s_retk rfl p_86_72 (zM_of zq_86))
-- Reader.parseOne
theorem p_84_0 : zP1 84 0 = some (.iconst 0, 0, 0, 0) := zp_l zq_84 rfl
theorem p_84_1 : zP1 84 1 = some (.istore_n 2, 0, 0, 0) := zp_l zq_84 rfl
theorem p_84_2 : zP1 84 2 = some (.iconst 0, 0, 0, 0) := zp_l zq_84 rfl
theorem p_84_3 : zP1 84 3 = some (.istore_n 3, 0, 0, 0) := zp_l zq_84 rfl
theorem p_84_4 : zP1 84 4 = some (.iload_n 3, 0, 0, 0) := zp_l zq_84 rfl
theorem p_84_5 : zP1 84 5 = some (.sipush 300, 0, 0, 0) := zp_l zq_84 rfl
theorem p_84_8 : zP1 84 8 = some (.if_icmp .gt 29, 0, 0, 0) := zp_l zq_84 rfl
theorem p_84_11 : zP1 84 11 = some (.aload_n 0, 0, 0, 0) := zp_l zq_84 rfl
theorem p_84_12 : zP1 84 12 = some (.getstatic 190, 16, 0, 0) := zp_r zq_84 rfl
theorem p_84_15 : zP1 84 15 = some (.invokevirtual 69, 75, 1, 4) := zp_r zq_84 rfl
theorem p_84_18 : zP1 84 18 = some (.ifCond .eq 19, 0, 0, 0) := zp_l zq_84 rfl
theorem p_84_21 : zP1 84 21 = some (.iload_n 2, 0, 0, 0) := zp_l zq_84 rfl
theorem p_84_22 : zP1 84 22 = some (.ifCond .ne 7, 0, 0, 0) := zp_l zq_84 rfl
theorem p_84_25 : zP1 84 25 = some (.iconst 1, 0, 0, 0) := zp_l zq_84 rfl
theorem p_84_26 : zP1 84 26 = some (.goto 4, 0, 0, 0) := zp_l zq_84 rfl
theorem p_84_29 : zP1 84 29 = some (.iconst 0, 0, 0, 0) := zp_l zq_84 rfl
theorem p_84_30 : zP1 84 30 = some (.istore_n 2, 0, 0, 0) := zp_l zq_84 rfl
theorem p_84_31 : zP1 84 31 = some (.iinc 3 1, 0, 0, 0) := zp_l zq_84 rfl
theorem p_84_34 : zP1 84 34 = some (.goto (-30), 0, 0, 0) := zp_l zq_84 rfl
theorem p_84_37 : zP1 84 37 = some (.aload_n 0, 0, 0, 0) := zp_l zq_84 rfl
theorem p_84_38 : zP1 84 38 = some (.getfield 39, 4, 8, 0) := zp_r zq_84 rfl
theorem p_84_41 : zP1 84 41 = some (.getstatic 193, 17, 0, 0) := zp_r zq_84 rfl
theorem p_84_44 : zP1 84 44 = some (.if_acmp .ne 11, 0, 0, 0) := zp_l zq_84 rfl
theorem p_84_47 : zP1 84 47 = some (.aload_n 0, 0, 0, 0) := zp_l zq_84 rfl
theorem p_84_48 : zP1 84 48 = some (.iload_n 1, 0, 0, 0) := zp_l zq_84 rfl
theorem p_84_49 : zP1 84 49 = some (.invokevirtual 196, 85, 1, 4) := zp_r zq_84 rfl
theorem p_84_52 : zP1 84 52 = some (.goto 7, 0, 0, 0) := zp_l zq_84 rfl
theorem p_84_55 : zP1 84 55 = some (.aload_n 0, 0, 0, 0) := zp_l zq_84 rfl
theorem p_84_56 : zP1 84 56 = some (.invokevirtual 199, 86, 0, 4) := zp_r zq_84 rfl
theorem p_84_59 : zP1 84 59 = some (.istore_n 3, 0, 0, 0) := zp_l zq_84 rfl
theorem p_84_60 : zP1 84 60 = some (.iload_n 3, 0, 0, 0) := zp_l zq_84 rfl
theorem p_84_61 : zP1 84 61 = some (.ifCond .eq 17, 0, 0, 0) := zp_l zq_84 rfl
theorem p_84_64 : zP1 84 64 = some (.iload_n 2, 0, 0, 0) := zp_l zq_84 rfl
theorem p_84_65 : zP1 84 65 = some (.ifCond .eq 13, 0, 0, 0) := zp_l zq_84 rfl
theorem p_84_68 : zP1 84 68 = some (.aload_n 0, 0, 0, 0) := zp_l zq_84 rfl
theorem p_84_69 : zP1 84 69 = some (.getfield 45, 4, 9, 0) := zp_r zq_84 rfl
theorem p_84_72 : zP1 84 72 = some (.bipush 6, 0, 0, 0) := zp_l zq_84 rfl
theorem p_84_74 : zP1 84 74 = some (.iconst 0, 0, 0, 0) := zp_l zq_84 rfl
theorem p_84_75 : zP1 84 75 = some (.invokevirtual 184, 113, 2, 8) := zp_r zq_84 rfl
theorem p_84_78 : zP1 84 78 = some (.iload_n 3, 0, 0, 0) := zp_l zq_84 rfl
theorem p_84_79 : zP1 84 79 = some (.ireturn, 0, 0, 0) := zp_l zq_84 rfl
theorem b_84_0 {x1 : Int} : Z e (d + 1) 84 0 [.ref 179, .int (iI x1), .retAddr 0, .retAddr 0] [] m = Z e (d + 1) 84 4 [.ref 179, .int (iI x1), .int (iI 0), .int (iI 0)] [] m := (s_const p_84_0).trans <| (s_is_2 cat_i p_84_1).trans <| (s_const p_84_2).trans <| (s_is_3 cat_i p_84_3).trans <| rfl
theorem b_84_4 {x1 : Int} {x2 : Int} {x3 : Int} : Z e (d + 1) 84 4 [.ref 179, .int (iI x1), .int (iI x2), .int (iI x3)] [] m = (if (wr x3) ≤ 300 then (Z e d 75 0 [.ref 179, .ref (10000 + (14 : Int).toNat)] [] m).bind (ZK e (d + 1) 84 18 [.ref 179, .int (iI x1), .int (iI x2), .int (iI x3)] [] m) else Z e (d + 1) 84 37 [.ref 179, .int (iI x1), .int (iI x2), .int (iI x3)] [] m) := (s_il_3 p_84_4).trans <| (s_sip p_84_5 rfl).trans <| Eq.trans ((s_c_gt_f p_84_8 rfl rfl wl_300)) <| ite_cg ((s_al_0 p_84_11).trans <| (s_gets (v := .ref (10000 + (14 : Int).toNat)) p_84_12 rfl).trans <| (s_cv1 (Lc := [.ref 179, .ref (10000 + (14 : Int).toNat)]) p_84_15 (by decide) (by decide) (zM_of zq_75) ⟨Nat.le_of_ble_eq_true rfl, Nat.le_of_ble_eq_true rfl⟩ rfl (m_rc3 hs_179 ⟨rfl, by decide⟩))) (rfl)
theorem b_84_18 {x1 : Int} {x2 : Int} {x3 : Int} {xs0 : Int} : Z e (d + 1) 84 18 [.ref 179, .int (iI x1), .int (iI x2), .int (iI x3)] [.int (iI xs0)] m = (if ¬ (wr xs0) = 0 then Z e (d + 1) 84 4 [.ref 179, .int (iI x1), .int (iI (if (wr x2) = 0 then 1 else 0)), .int (iI (x3 + 1))] [] m else Z e (d + 1) 84 37 [.ref 179, .int (iI x1), .int (iI x2), .int (iI x3)] [] m) := Eq.trans ((s_z_eq_f p_84_18 rfl rfl)) <| ite_cg ((s_il_2 p_84_21).trans <| Eq.trans (Eq.trans ((s_z_ne_f p_84_22 rfl rfl)) <| Eq.trans (ite_cg ((s_const p_84_25).trans <| (s_goto p_84_26 rfl).trans <| rfl) ((s_const p_84_29).trans <| rfl)) (phi1 (fun z0 => Z e (d + 1) 84 30 [.ref 179, .int (iI x1), .int (iI x2), .int (iI x3)] [.int (iI z0)] m))) <| (s_is_2 cat_i p_84_30).trans <| (s_inc_3 cat_i p_84_31).trans <| (s_goto p_84_34 rfl).trans <| rfl) (rfl)
theorem b_84_37 {x1 : Int} {x2 : Int} {u3 : Value} (hw1 : 0 ≤ (m 179 8) ∧ (m 179 8) < 32) : Z e (d + 1) 84 37 [.ref 179, .int (iI x1), .int (iI x2), u3] [] m = (if (m 179 8) = 30 then (Z e d 85 0 [.ref 179, .int (iI x1)] [] m).bind (ZK e (d + 1) 84 52 [.ref 179, .int (iI x1), .int (iI x2), u3] [] m) else (Z e d 86 0 [.ref 179, .retAddr 0, .retAddr 0] [] m).bind (ZK e (d + 1) 84 59 [.ref 179, .int (iI x1), .int (iI x2), u3] [] m)) := (s_al_0 p_84_37).trans <| (s_getw' p_84_38 hw1).trans <| (s_gets (v := .ref (10000 + (30 : Int).toNat)) p_84_41 rfl).trans <| Eq.trans ((s_wne_f p_84_44 rfl hw1 (by decide))) <| ite_cg ((s_al_0 p_84_47).trans <| (s_il_1 p_84_48).trans <| (s_cv1 (Lc := [.ref 179, .int (iI x1)]) p_84_49 (by decide) (by decide) (zM_of zq_85) ⟨Nat.le_of_ble_eq_true rfl, Nat.le_of_ble_eq_true rfl⟩ rfl (m_rc3 hs_179 ⟨rfl, by decide⟩))) ((s_al_0 p_84_55).trans <| (s_cv0 (Lc := [.ref 179, .retAddr 0, .retAddr 0]) p_84_56 (by decide) (by decide) (zM_of zq_86) ⟨Nat.le_of_ble_eq_true rfl, Nat.le_of_ble_eq_true rfl⟩ rfl (m_rc3 hs_179 ⟨rfl, by decide⟩)))
theorem b_84_59 {x2 : Int} {xs0 : Int} {u1 u3 : Value} : Z e (d + 1) 84 59 [.ref 179, u1, .int (iI x2), u3] [.int (iI xs0)] m = (if (¬ (wr xs0) = 0) ∧ (¬ (wr x2) = 0) then (Z e d 113 0 [.ref 185, .int (iI 6), .int (iI 0)] [] m).bind (ZK e (d + 1) 84 78 [.ref 179, u1, .int (iI x2), .int (iI xs0)] [] m) else Z e (d + 1) 84 78 [.ref 179, u1, .int (iI x2), .int (iI xs0)] [] m) := (s_is_3 cat_i p_84_59).trans <| (s_il_3 p_84_60).trans <| Eq.trans (Eq.trans (s_z_eq_f p_84_61 rfl rfl) <| Eq.trans (ite_cg ((s_il_2 p_84_64).trans <| (s_z_eq_f p_84_65 rfl rfl)) rfl) co_and) <| ite_cg ((s_al_0 p_84_68).trans <| (s_getr3 p_84_69 hs_179 (by decide) rfl (by decide)).trans <| (s_bip p_84_72 rfl).trans <| (s_const p_84_74).trans <| (s_cv2 (Lc := [.ref 185, .int (iI 6), .int (iI 0)]) p_84_75 (by decide) (by decide) (zM_of zq_113) ⟨Nat.le_of_ble_eq_true rfl, Nat.le_of_ble_eq_true rfl⟩ rfl (m_rc hs_185 ⟨rfl, by decide⟩))) (rfl)
theorem b_84_52 {x2 : Int} {xs0 : Int} {u1 u3 : Value} : Z e (d + 1) 84 52 [.ref 179, u1, .int (iI x2), u3] [.int (iI xs0)] m = Z e (d + 1) 84 59 [.ref 179, u1, .int (iI x2), u3] [.int (iI xs0)] m := (s_goto p_84_52 rfl).trans <| rfl
theorem b_84_78 {x3 : Int} {u0 u1 u2 : Value} : Z e (d + 1) 84 78 [u0, u1, u2, .int (iI x3)] [] m = ck (nbp x3) (ri x3 m) := (s_il_3 p_84_78).trans <| (s_retx p_84_79 (zM_of zq_84))
-- Reader.parseAll
theorem p_83_0 : zP1 83 0 = some (.aload_n 0, 0, 0, 0) := zp_l zq_83 rfl
theorem p_83_1 : zP1 83 1 = some (.iload_n 1, 0, 0, 0) := zp_l zq_83 rfl
theorem p_83_2 : zP1 83 2 = some (.invokevirtual 187, 84, 1, 4) := zp_r zq_83 rfl
theorem p_83_5 : zP1 83 5 = some (.ifCond .ne 5, 0, 0, 0) := zp_l zq_83 rfl
theorem p_83_8 : zP1 83 8 = some (.iconst 0, 0, 0, 0) := zp_l zq_83 rfl
theorem p_83_9 : zP1 83 9 = some (.ireturn, 0, 0, 0) := zp_l zq_83 rfl
theorem p_83_10 : zP1 83 10 = some (.iconst 0, 0, 0, 0) := zp_l zq_83 rfl
theorem p_83_11 : zP1 83 11 = some (.istore_n 2, 0, 0, 0) := zp_l zq_83 rfl
theorem p_83_12 : zP1 83 12 = some (.iload_n 2, 0, 0, 0) := zp_l zq_83 rfl
theorem p_83_13 : zP1 83 13 = some (.sipush 300, 0, 0, 0) := zp_l zq_83 rfl
theorem p_83_16 : zP1 83 16 = some (.if_icmp .gt 39, 0, 0, 0) := zp_l zq_83 rfl
theorem p_83_19 : zP1 83 19 = some (.aload_n 0, 0, 0, 0) := zp_l zq_83 rfl
theorem p_83_20 : zP1 83 20 = some (.getstatic 163, 11, 0, 0) := zp_r zq_83 rfl
theorem p_83_23 : zP1 83 23 = some (.invokevirtual 69, 75, 1, 4) := zp_r zq_83 rfl
theorem p_83_26 : zP1 83 26 = some (.ifCond .eq 29, 0, 0, 0) := zp_l zq_83 rfl
theorem p_83_29 : zP1 83 29 = some (.aload_n 0, 0, 0, 0) := zp_l zq_83 rfl
theorem p_83_30 : zP1 83 30 = some (.iload_n 1, 0, 0, 0) := zp_l zq_83 rfl
theorem p_83_31 : zP1 83 31 = some (.invokevirtual 187, 84, 1, 4) := zp_r zq_83 rfl
theorem p_83_34 : zP1 83 34 = some (.ifCond .ne 5, 0, 0, 0) := zp_l zq_83 rfl
theorem p_83_37 : zP1 83 37 = some (.iconst 0, 0, 0, 0) := zp_l zq_83 rfl
theorem p_83_38 : zP1 83 38 = some (.ireturn, 0, 0, 0) := zp_l zq_83 rfl
theorem p_83_39 : zP1 83 39 = some (.aload_n 0, 0, 0, 0) := zp_l zq_83 rfl
theorem p_83_40 : zP1 83 40 = some (.getfield 45, 4, 9, 0) := zp_r zq_83 rfl
theorem p_83_43 : zP1 83 43 = some (.bipush 7, 0, 0, 0) := zp_l zq_83 rfl
theorem p_83_45 : zP1 83 45 = some (.iconst 0, 0, 0, 0) := zp_l zq_83 rfl
theorem p_83_46 : zP1 83 46 = some (.invokevirtual 184, 113, 2, 8) := zp_r zq_83 rfl
theorem p_83_49 : zP1 83 49 = some (.iinc 2 1, 0, 0, 0) := zp_l zq_83 rfl
theorem p_83_52 : zP1 83 52 = some (.goto (-40), 0, 0, 0) := zp_l zq_83 rfl
theorem p_83_55 : zP1 83 55 = some (.iconst 1, 0, 0, 0) := zp_l zq_83 rfl
theorem p_83_56 : zP1 83 56 = some (.ireturn, 0, 0, 0) := zp_l zq_83 rfl
theorem b_83_0 {x1 : Int} : Z e (d + 1) 83 0 [.ref 179, .int (iI x1), .retAddr 0] [] m = (Z e d 84 0 [.ref 179, .int (iI x1), .retAddr 0, .retAddr 0] [] m).bind (ZK e (d + 1) 83 5 [.ref 179, .int (iI x1), .retAddr 0] [] m) := (s_al_0 p_83_0).trans <| (s_il_1 p_83_1).trans <| (s_cv1 (Lc := [.ref 179, .int (iI x1), .retAddr 0, .retAddr 0]) p_83_2 (by decide) (by decide) (zM_of zq_84) ⟨Nat.le_of_ble_eq_true rfl, Nat.le_of_ble_eq_true rfl⟩ rfl (m_rc3 hs_179 ⟨rfl, by decide⟩))
theorem b_83_12 {x1 : Int} {x2 : Int} : Z e (d + 1) 83 12 [.ref 179, .int (iI x1), .int (iI x2)] [] m = (if (wr x2) ≤ 300 then (Z e d 75 0 [.ref 179, .ref (10000 + (12 : Int).toNat)] [] m).bind (ZK e (d + 1) 83 26 [.ref 179, .int (iI x1), .int (iI x2)] [] m) else ri 1 m) := (s_il_2 p_83_12).trans <| (s_sip p_83_13 rfl).trans <| Eq.trans ((s_c_gt_f p_83_16 rfl rfl wl_300)) <| ite_cg ((s_al_0 p_83_19).trans <| (s_gets (v := .ref (10000 + (12 : Int).toNat)) p_83_20 rfl).trans <| (s_cv1 (Lc := [.ref 179, .ref (10000 + (12 : Int).toNat)]) p_83_23 (by decide) (by decide) (zM_of zq_75) ⟨Nat.le_of_ble_eq_true rfl, Nat.le_of_ble_eq_true rfl⟩ rfl (m_rc3 hs_179 ⟨rfl, by decide⟩))) ((s_const p_83_55).trans <| (s_retk rfl p_83_56 (zM_of zq_83)))
theorem b_83_5 {x1 : Int} {xs0 : Int} {u2 : Value} : Z e (d + 1) 83 5 [.ref 179, .int (iI x1), u2] [.int (iI xs0)] m = (if (wr xs0) = 0 then ri 0 m else Z e (d + 1) 83 12 [.ref 179, .int (iI x1), .int (iI 0)] [] m) := Eq.trans ((s_z_ne_f p_83_5 rfl rfl)) <| ite_cg ((s_const p_83_8).trans <| (s_retk rfl p_83_9 (zM_of zq_83))) ((s_const p_83_10).trans <| (s_is_2 cat_i p_83_11).trans <| rfl)
theorem b_83_26 {x1 : Int} {x2 : Int} {xs0 : Int} : Z e (d + 1) 83 26 [.ref 179, .int (iI x1), .int (iI x2)] [.int (iI xs0)] m = (if ¬ (wr xs0) = 0 then (Z e d 84 0 [.ref 179, .int (iI x1), .retAddr 0, .retAddr 0] [] m).bind (ZK e (d + 1) 83 34 [.ref 179, .int (iI x1), .int (iI x2)] [] m) else ri 1 m) := Eq.trans ((s_z_eq_f p_83_26 rfl rfl)) <| ite_cg ((s_al_0 p_83_29).trans <| (s_il_1 p_83_30).trans <| (s_cv1 (Lc := [.ref 179, .int (iI x1), .retAddr 0, .retAddr 0]) p_83_31 (by decide) (by decide) (zM_of zq_84) ⟨Nat.le_of_ble_eq_true rfl, Nat.le_of_ble_eq_true rfl⟩ rfl (m_rc3 hs_179 ⟨rfl, by decide⟩))) ((s_const p_83_55).trans <| (s_retk rfl p_83_56 (zM_of zq_83)))
theorem b_83_34 {x1 : Int} {x2 : Int} {xs0 : Int} : Z e (d + 1) 83 34 [.ref 179, .int (iI x1), .int (iI x2)] [.int (iI xs0)] m = (if (wr xs0) = 0 then ri 0 m else (Z e d 113 0 [.ref 185, .int (iI 7), .int (iI 0)] [] m).bind (ZK e (d + 1) 83 49 [.ref 179, .int (iI x1), .int (iI x2)] [] m)) := Eq.trans ((s_z_ne_f p_83_34 rfl rfl)) <| ite_cg ((s_const p_83_37).trans <| (s_retk rfl p_83_38 (zM_of zq_83))) ((s_al_0 p_83_39).trans <| (s_getr3 p_83_40 hs_179 (by decide) rfl (by decide)).trans <| (s_bip p_83_43 rfl).trans <| (s_const p_83_45).trans <| (s_cv2 (Lc := [.ref 185, .int (iI 7), .int (iI 0)]) p_83_46 (by decide) (by decide) (zM_of zq_113) ⟨Nat.le_of_ble_eq_true rfl, Nat.le_of_ble_eq_true rfl⟩ rfl (m_rc hs_185 ⟨rfl, by decide⟩)))
theorem b_83_49 {x1 : Int} {x2 : Int} : Z e (d + 1) 83 49 [.ref 179, .int (iI x1), .int (iI x2)] [] m = Z e (d + 1) 83 12 [.ref 179, .int (iI x1), .int (iI (x2 + 1))] [] m := (s_inc_2 cat_i p_83_49).trans <| (s_goto p_83_52 rfl).trans <| rfl
-- Reader.parseCondition
theorem p_82_0 : zP1 82 0 = some (.aload_n 0, 0, 0, 0) := zp_l zq_82 rfl
theorem p_82_1 : zP1 82 1 = some (.iload_n 1, 0, 0, 0) := zp_l zq_82 rfl
theorem p_82_2 : zP1 82 2 = some (.invokevirtual 178, 83, 1, 4) := zp_r zq_82 rfl
theorem p_82_5 : zP1 82 5 = some (.ifCond .ne 5, 0, 0, 0) := zp_l zq_82 rfl
theorem p_82_8 : zP1 82 8 = some (.iconst 0, 0, 0, 0) := zp_l zq_82 rfl
theorem p_82_9 : zP1 82 9 = some (.ireturn, 0, 0, 0) := zp_l zq_82 rfl
theorem p_82_10 : zP1 82 10 = some (.iconst 0, 0, 0, 0) := zp_l zq_82 rfl
theorem p_82_11 : zP1 82 11 = some (.istore_n 2, 0, 0, 0) := zp_l zq_82 rfl
theorem p_82_12 : zP1 82 12 = some (.iload_n 2, 0, 0, 0) := zp_l zq_82 rfl
theorem p_82_13 : zP1 82 13 = some (.sipush 300, 0, 0, 0) := zp_l zq_82 rfl
theorem p_82_16 : zP1 82 16 = some (.if_icmp .gt 39, 0, 0, 0) := zp_l zq_82 rfl
theorem p_82_19 : zP1 82 19 = some (.aload_n 0, 0, 0, 0) := zp_l zq_82 rfl
theorem p_82_20 : zP1 82 20 = some (.getstatic 181, 15, 0, 0) := zp_r zq_82 rfl
theorem p_82_23 : zP1 82 23 = some (.invokevirtual 69, 75, 1, 4) := zp_r zq_82 rfl
theorem p_82_26 : zP1 82 26 = some (.ifCond .eq 29, 0, 0, 0) := zp_l zq_82 rfl
theorem p_82_29 : zP1 82 29 = some (.aload_n 0, 0, 0, 0) := zp_l zq_82 rfl
theorem p_82_30 : zP1 82 30 = some (.iload_n 1, 0, 0, 0) := zp_l zq_82 rfl
theorem p_82_31 : zP1 82 31 = some (.invokevirtual 178, 83, 1, 4) := zp_r zq_82 rfl
theorem p_82_34 : zP1 82 34 = some (.ifCond .ne 5, 0, 0, 0) := zp_l zq_82 rfl
theorem p_82_37 : zP1 82 37 = some (.iconst 0, 0, 0, 0) := zp_l zq_82 rfl
theorem p_82_38 : zP1 82 38 = some (.ireturn, 0, 0, 0) := zp_l zq_82 rfl
theorem p_82_39 : zP1 82 39 = some (.aload_n 0, 0, 0, 0) := zp_l zq_82 rfl
theorem p_82_40 : zP1 82 40 = some (.getfield 45, 4, 9, 0) := zp_r zq_82 rfl
theorem p_82_43 : zP1 82 43 = some (.bipush 8, 0, 0, 0) := zp_l zq_82 rfl
theorem p_82_45 : zP1 82 45 = some (.iconst 0, 0, 0, 0) := zp_l zq_82 rfl
theorem p_82_46 : zP1 82 46 = some (.invokevirtual 184, 113, 2, 8) := zp_r zq_82 rfl
theorem p_82_49 : zP1 82 49 = some (.iinc 2 1, 0, 0, 0) := zp_l zq_82 rfl
theorem p_82_52 : zP1 82 52 = some (.goto (-40), 0, 0, 0) := zp_l zq_82 rfl
theorem p_82_55 : zP1 82 55 = some (.iconst 1, 0, 0, 0) := zp_l zq_82 rfl
theorem p_82_56 : zP1 82 56 = some (.ireturn, 0, 0, 0) := zp_l zq_82 rfl
theorem b_82_0 {x1 : Int} : Z e (d + 1) 82 0 [.ref 179, .int (iI x1), .retAddr 0] [] m = (Z e d 83 0 [.ref 179, .int (iI x1), .retAddr 0] [] m).bind (ZK e (d + 1) 82 5 [.ref 179, .int (iI x1), .retAddr 0] [] m) := (s_al_0 p_82_0).trans <| (s_il_1 p_82_1).trans <| (s_cv1 (Lc := [.ref 179, .int (iI x1), .retAddr 0]) p_82_2 (by decide) (by decide) (zM_of zq_83) ⟨Nat.le_of_ble_eq_true rfl, Nat.le_of_ble_eq_true rfl⟩ rfl (m_rc3 hs_179 ⟨rfl, by decide⟩))
theorem b_82_12 {x1 : Int} {x2 : Int} : Z e (d + 1) 82 12 [.ref 179, .int (iI x1), .int (iI x2)] [] m = (if (wr x2) ≤ 300 then (Z e d 75 0 [.ref 179, .ref (10000 + (13 : Int).toNat)] [] m).bind (ZK e (d + 1) 82 26 [.ref 179, .int (iI x1), .int (iI x2)] [] m) else ri 1 m) := (s_il_2 p_82_12).trans <| (s_sip p_82_13 rfl).trans <| Eq.trans ((s_c_gt_f p_82_16 rfl rfl wl_300)) <| ite_cg ((s_al_0 p_82_19).trans <| (s_gets (v := .ref (10000 + (13 : Int).toNat)) p_82_20 rfl).trans <| (s_cv1 (Lc := [.ref 179, .ref (10000 + (13 : Int).toNat)]) p_82_23 (by decide) (by decide) (zM_of zq_75) ⟨Nat.le_of_ble_eq_true rfl, Nat.le_of_ble_eq_true rfl⟩ rfl (m_rc3 hs_179 ⟨rfl, by decide⟩))) ((s_const p_82_55).trans <| (s_retk rfl p_82_56 (zM_of zq_82)))
theorem b_82_5 {x1 : Int} {xs0 : Int} {u2 : Value} : Z e (d + 1) 82 5 [.ref 179, .int (iI x1), u2] [.int (iI xs0)] m = (if (wr xs0) = 0 then ri 0 m else Z e (d + 1) 82 12 [.ref 179, .int (iI x1), .int (iI 0)] [] m) := Eq.trans ((s_z_ne_f p_82_5 rfl rfl)) <| ite_cg ((s_const p_82_8).trans <| (s_retk rfl p_82_9 (zM_of zq_82))) ((s_const p_82_10).trans <| (s_is_2 cat_i p_82_11).trans <| rfl)
theorem b_82_26 {x1 : Int} {x2 : Int} {xs0 : Int} : Z e (d + 1) 82 26 [.ref 179, .int (iI x1), .int (iI x2)] [.int (iI xs0)] m = (if ¬ (wr xs0) = 0 then (Z e d 83 0 [.ref 179, .int (iI x1), .retAddr 0] [] m).bind (ZK e (d + 1) 82 34 [.ref 179, .int (iI x1), .int (iI x2)] [] m) else ri 1 m) := Eq.trans ((s_z_eq_f p_82_26 rfl rfl)) <| ite_cg ((s_al_0 p_82_29).trans <| (s_il_1 p_82_30).trans <| (s_cv1 (Lc := [.ref 179, .int (iI x1), .retAddr 0]) p_82_31 (by decide) (by decide) (zM_of zq_83) ⟨Nat.le_of_ble_eq_true rfl, Nat.le_of_ble_eq_true rfl⟩ rfl (m_rc3 hs_179 ⟨rfl, by decide⟩))) ((s_const p_82_55).trans <| (s_retk rfl p_82_56 (zM_of zq_82)))
theorem b_82_34 {x1 : Int} {x2 : Int} {xs0 : Int} : Z e (d + 1) 82 34 [.ref 179, .int (iI x1), .int (iI x2)] [.int (iI xs0)] m = (if (wr xs0) = 0 then ri 0 m else (Z e d 113 0 [.ref 185, .int (iI 8), .int (iI 0)] [] m).bind (ZK e (d + 1) 82 49 [.ref 179, .int (iI x1), .int (iI x2)] [] m)) := Eq.trans ((s_z_ne_f p_82_34 rfl rfl)) <| ite_cg ((s_const p_82_37).trans <| (s_retk rfl p_82_38 (zM_of zq_82))) ((s_al_0 p_82_39).trans <| (s_getr3 p_82_40 hs_179 (by decide) rfl (by decide)).trans <| (s_bip p_82_43 rfl).trans <| (s_const p_82_45).trans <| (s_cv2 (Lc := [.ref 185, .int (iI 8), .int (iI 0)]) p_82_46 (by decide) (by decide) (zM_of zq_113) ⟨Nat.le_of_ble_eq_true rfl, Nat.le_of_ble_eq_true rfl⟩ rfl (m_rc hs_185 ⟨rfl, by decide⟩)))
theorem b_82_49 {x1 : Int} {x2 : Int} : Z e (d + 1) 82 49 [.ref 179, .int (iI x1), .int (iI x2)] [] m = Z e (d + 1) 82 12 [.ref 179, .int (iI x1), .int (iI (x2 + 1))] [] m := (s_inc_2 cat_i p_82_49).trans <| (s_goto p_82_52 rfl).trans <| rfl
-- Reader.parseIf
theorem p_81_0 : zP1 81 0 = some (.aload_n 0, 0, 0, 0) := zp_l zq_81 rfl
theorem p_81_1 : zP1 81 1 = some (.getstatic 172, 14, 0, 0) := zp_r zq_81 rfl
theorem p_81_4 : zP1 81 4 = some (.invokevirtual 69, 75, 1, 4) := zp_r zq_81 rfl
theorem p_81_7 : zP1 81 7 = some (.ifCond .eq 11, 0, 0, 0) := zp_l zq_81 rfl
theorem p_81_10 : zP1 81 10 = some (.aload_n 0, 0, 0, 0) := zp_l zq_81 rfl
theorem p_81_11 : zP1 81 11 = some (.iconst 0, 0, 0, 0) := zp_l zq_81 rfl
theorem p_81_12 : zP1 81 12 = some (.invokevirtual 175, 82, 1, 4) := zp_r zq_81 rfl
theorem p_81_15 : zP1 81 15 = some (.ifCond .eq 7, 0, 0, 0) := zp_l zq_81 rfl
theorem p_81_18 : zP1 81 18 = some (.iconst 1, 0, 0, 0) := zp_l zq_81 rfl
theorem p_81_19 : zP1 81 19 = some (.goto 4, 0, 0, 0) := zp_l zq_81 rfl
theorem p_81_22 : zP1 81 22 = some (.iconst 0, 0, 0, 0) := zp_l zq_81 rfl
theorem p_81_23 : zP1 81 23 = some (.ireturn, 0, 0, 0) := zp_l zq_81 rfl
theorem b_81_0 : Z e (d + 1) 81 0 [.ref 179] [] m = (Z e d 75 0 [.ref 179, .ref (10000 + (9 : Int).toNat)] [] m).bind (ZK e (d + 1) 81 7 [.ref 179] [] m) := (s_al_0 p_81_0).trans <| (s_gets (v := .ref (10000 + (9 : Int).toNat)) p_81_1 rfl).trans <| (s_cv1 (Lc := [.ref 179, .ref (10000 + (9 : Int).toNat)]) p_81_4 (by decide) (by decide) (zM_of zq_75) ⟨Nat.le_of_ble_eq_true rfl, Nat.le_of_ble_eq_true rfl⟩ rfl (m_rc3 hs_179 ⟨rfl, by decide⟩))
theorem b_81_7 {xs0 : Int} : Z e (d + 1) 81 7 [.ref 179] [.int (iI xs0)] m = (if ¬ (wr xs0) = 0 then (Z e d 82 0 [.ref 179, .int (iI 0), .retAddr 0] [] m).bind (ZK e (d + 1) 81 15 [.ref 179] [] m) else ri 1 m) := Eq.trans ((s_z_eq_f p_81_7 rfl rfl)) <| ite_cg ((s_al_0 p_81_10).trans <| (s_const p_81_11).trans <| (s_cv1 (Lc := [.ref 179, .int (iI 0), .retAddr 0]) p_81_12 (by decide) (by decide) (zM_of zq_82) ⟨Nat.le_of_ble_eq_true rfl, Nat.le_of_ble_eq_true rfl⟩ rfl (m_rc3 hs_179 ⟨rfl, by decide⟩))) ((s_const p_81_18).trans <| (s_goto p_81_19 rfl).trans <| (s_retk rfl p_81_23 (zM_of zq_81)))
theorem b_81_15 {xs0 : Int} {u0 : Value} : Z e (d + 1) 81 15 [u0] [.int (iI xs0)] m = ri (if ¬ (wr xs0) = 0 then 1 else 0) m := Eq.trans (Eq.trans ((s_z_eq_f p_81_15 rfl rfl)) <| Eq.trans (ite_cg ((s_const p_81_18).trans <| (s_goto p_81_19 rfl).trans <| rfl) ((s_const p_81_22).trans <| rfl)) (phi1 (fun z0 => Z e (d + 1) 81 23 [u0] [.int (iI z0)] m))) <| (s_retb p_81_23 (zM_of zq_81))
-- Reader.parseMeasure
theorem p_79_0 : zP1 79 0 = some (.aload_n 0, 0, 0, 0) := zp_l zq_79 rfl
theorem p_79_1 : zP1 79 1 = some (.getfield 39, 4, 8, 0) := zp_r zq_79 rfl
theorem p_79_4 : zP1 79 4 = some (.getstatic 154, 9, 0, 0) := zp_r zq_79 rfl
theorem p_79_7 : zP1 79 7 = some (.if_acmp .ne 7, 0, 0, 0) := zp_l zq_79 rfl
theorem p_79_10 : zP1 79 10 = some (.iconst 1, 0, 0, 0) := zp_l zq_79 rfl
theorem p_79_11 : zP1 79 11 = some (.goto 4, 0, 0, 0) := zp_l zq_79 rfl
theorem p_79_14 : zP1 79 14 = some (.iconst 0, 0, 0, 0) := zp_l zq_79 rfl
theorem p_79_15 : zP1 79 15 = some (.istore_n 1, 0, 0, 0) := zp_l zq_79 rfl
theorem p_79_16 : zP1 79 16 = some (.iload_n 1, 0, 0, 0) := zp_l zq_79 rfl
theorem p_79_17 : zP1 79 17 = some (.ifCond .ne 15, 0, 0, 0) := zp_l zq_79 rfl
theorem p_79_20 : zP1 79 20 = some (.aload_n 0, 0, 0, 0) := zp_l zq_79 rfl
theorem p_79_21 : zP1 79 21 = some (.getfield 39, 4, 8, 0) := zp_r zq_79 rfl
theorem p_79_24 : zP1 79 24 = some (.getstatic 157, 10, 0, 0) := zp_r zq_79 rfl
theorem p_79_27 : zP1 79 27 = some (.if_acmp .eq 5, 0, 0, 0) := zp_l zq_79 rfl
theorem p_79_30 : zP1 79 30 = some (.iconst 0, 0, 0, 0) := zp_l zq_79 rfl
theorem p_79_31 : zP1 79 31 = some (.ireturn, 0, 0, 0) := zp_l zq_79 rfl
theorem p_79_32 : zP1 79 32 = some (.aload_n 0, 0, 0, 0) := zp_l zq_79 rfl
theorem p_79_33 : zP1 79 33 = some (.invokevirtual 118, 74, 0, 4) := zp_r zq_79 rfl
theorem p_79_36 : zP1 79 36 = some (.aload_n 0, 0, 0, 0) := zp_l zq_79 rfl
theorem p_79_37 : zP1 79 37 = some (.getfield 45, 4, 9, 0) := zp_r zq_79 rfl
theorem p_79_40 : zP1 79 40 = some (.iload_n 1, 0, 0, 0) := zp_l zq_79 rfl
theorem p_79_41 : zP1 79 41 = some (.ifCond .eq 7, 0, 0, 0) := zp_l zq_79 rfl
theorem p_79_44 : zP1 79 44 = some (.iconst 1, 0, 0, 0) := zp_l zq_79 rfl
theorem p_79_45 : zP1 79 45 = some (.goto 4, 0, 0, 0) := zp_l zq_79 rfl
theorem p_79_48 : zP1 79 48 = some (.iconst 2, 0, 0, 0) := zp_l zq_79 rfl
theorem p_79_49 : zP1 79 49 = some (.iconst 0, 0, 0, 0) := zp_l zq_79 rfl
theorem p_79_50 : zP1 79 50 = some (.invokevirtual 150, 112, 2, 8) := zp_r zq_79 rfl
theorem p_79_53 : zP1 79 53 = some (.iconst 1, 0, 0, 0) := zp_l zq_79 rfl
theorem p_79_54 : zP1 79 54 = some (.ireturn, 0, 0, 0) := zp_l zq_79 rfl
theorem b_79_0 (hw1 : 0 ≤ (m 179 8) ∧ (m 179 8) < 32) : Z e (d + 1) 79 0 [.ref 179, .retAddr 0] [] m = (if (¬ ((m 179 8) = 5)) ∧ (¬ ((m 179 8) = 6)) then ri 0 m else (Z e d 74 0 [.ref 179] [] m).bind (ZK e (d + 1) 79 36 [.ref 179, .int (iI (if (m 179 8) = 5 then 1 else 0))] [] m)) := (s_al_0 p_79_0).trans <| (s_getw' p_79_1 hw1).trans <| (s_gets (v := .ref (10000 + (5 : Int).toNat)) p_79_4 rfl).trans <| Eq.trans (Eq.trans ((s_wne_f p_79_7 rfl hw1 (by decide))) <| Eq.trans (ite_cg ((s_const p_79_10).trans <| (s_goto p_79_11 rfl).trans <| rfl) ((s_const p_79_14).trans <| rfl)) (phi1 (fun z0 => Z e (d + 1) 79 15 [.ref 179, .retAddr 0] [.int (iI z0)] m))) <| (s_is_1 cat_r p_79_15).trans <| (s_il_1 p_79_16).trans <| Eq.trans (Eq.trans (s_bne_f p_79_17 rfl) <| Eq.trans (ite_cg ((s_al_0 p_79_20).trans <| (s_getw' p_79_21 hw1).trans <| (s_gets (v := .ref (10000 + (6 : Int).toNat)) p_79_24 rfl).trans <| (s_weq_f p_79_27 rfl hw1 (by decide))) rfl) co_and) <| ite_cg ((s_const p_79_30).trans <| (s_retk rfl p_79_31 (zM_of zq_79))) ((s_al_0 p_79_32).trans <| (s_cv0 (Lc := [.ref 179]) p_79_33 (by decide) (by decide) (zM_of zq_74) ⟨Nat.le_of_ble_eq_true rfl, Nat.le_of_ble_eq_true rfl⟩ rfl (m_rc3 hs_179 ⟨rfl, by decide⟩)))
theorem b_79_36 {x1 : Int} : Z e (d + 1) 79 36 [.ref 179, .int (iI x1)] [] m = (Z e d 112 0 [.ref 185, .int (iI (if ¬ (wr x1) = 0 then 1 else 2)), .int (iI 0)] [] m).bind (ZK e (d + 1) 79 53 [.ref 179, .int (iI x1)] [] m) := (s_al_0 p_79_36).trans <| (s_getr3 p_79_37 hs_179 (by decide) rfl (by decide)).trans <| (s_il_1 p_79_40).trans <| Eq.trans (Eq.trans ((s_z_eq_f p_79_41 rfl rfl)) <| Eq.trans (ite_cg ((s_const p_79_44).trans <| (s_goto p_79_45 rfl).trans <| rfl) ((s_const p_79_48).trans <| rfl)) (phi1 (fun z0 => Z e (d + 1) 79 49 [.ref 179, .int (iI x1)] [.int (iI z0), .ref 185] m))) <| (s_const p_79_49).trans <| (s_cv2 (Lc := [.ref 185, .int (iI (if ¬ (wr x1) = 0 then 1 else 2)), .int (iI 0)]) p_79_50 (by decide) (by decide) (zM_of zq_112) ⟨Nat.le_of_ble_eq_true rfl, Nat.le_of_ble_eq_true rfl⟩ rfl (m_rc hs_185 ⟨rfl, by decide⟩))
theorem b_79_53 {u0 u1 : Value} : Z e (d + 1) 79 53 [u0, u1] [] m = ri 1 m := (s_const p_79_53).trans <| (s_retk rfl p_79_54 (zM_of zq_79))
-- Reader.parseKinds
theorem p_80_0 : zP1 80 0 = some (.iconst 0, 0, 0, 0) := zp_l zq_80 rfl
theorem p_80_1 : zP1 80 1 = some (.istore_n 1, 0, 0, 0) := zp_l zq_80 rfl
theorem p_80_2 : zP1 80 2 = some (.iconst 0, 0, 0, 0) := zp_l zq_80 rfl
theorem p_80_3 : zP1 80 3 = some (.istore_n 2, 0, 0, 0) := zp_l zq_80 rfl
theorem p_80_4 : zP1 80 4 = some (.iload_n 2, 0, 0, 0) := zp_l zq_80 rfl
theorem p_80_5 : zP1 80 5 = some (.sipush 300, 0, 0, 0) := zp_l zq_80 rfl
theorem p_80_8 : zP1 80 8 = some (.if_icmp .gt 48, 0, 0, 0) := zp_l zq_80 rfl
theorem p_80_11 : zP1 80 11 = some (.aload_n 0, 0, 0, 0) := zp_l zq_80 rfl
theorem p_80_12 : zP1 80 12 = some (.getfield 39, 4, 8, 0) := zp_r zq_80 rfl
theorem p_80_15 : zP1 80 15 = some (.getfield 160, 40, 1, 0) := zp_r zq_80 rfl
theorem p_80_18 : zP1 80 18 = some (.ifCond .ne 5, 0, 0, 0) := zp_l zq_80 rfl
theorem p_80_21 : zP1 80 21 = some (.iconst 0, 0, 0, 0) := zp_l zq_80 rfl
theorem p_80_22 : zP1 80 22 = some (.ireturn, 0, 0, 0) := zp_l zq_80 rfl
theorem p_80_23 : zP1 80 23 = some (.iload_n 1, 0, 0, 0) := zp_l zq_80 rfl
theorem p_80_24 : zP1 80 24 = some (.aload_n 0, 0, 0, 0) := zp_l zq_80 rfl
theorem p_80_25 : zP1 80 25 = some (.getfield 39, 4, 8, 0) := zp_r zq_80 rfl
theorem p_80_28 : zP1 80 28 = some (.getfield 160, 40, 1, 0) := zp_r zq_80 rfl
theorem p_80_31 : zP1 80 31 = some (.ior, 0, 0, 0) := zp_l zq_80 rfl
theorem p_80_32 : zP1 80 32 = some (.istore_n 1, 0, 0, 0) := zp_l zq_80 rfl
theorem p_80_33 : zP1 80 33 = some (.aload_n 0, 0, 0, 0) := zp_l zq_80 rfl
theorem p_80_34 : zP1 80 34 = some (.invokevirtual 118, 74, 0, 4) := zp_r zq_80 rfl
theorem p_80_37 : zP1 80 37 = some (.aload_n 0, 0, 0, 0) := zp_l zq_80 rfl
theorem p_80_38 : zP1 80 38 = some (.getstatic 163, 11, 0, 0) := zp_r zq_80 rfl
theorem p_80_41 : zP1 80 41 = some (.invokevirtual 69, 75, 1, 4) := zp_r zq_80 rfl
theorem p_80_44 : zP1 80 44 = some (.ifCond .ne 6, 0, 0, 0) := zp_l zq_80 rfl
theorem p_80_47 : zP1 80 47 = some (.goto 9, 0, 0, 0) := zp_l zq_80 rfl
theorem p_80_50 : zP1 80 50 = some (.iinc 2 1, 0, 0, 0) := zp_l zq_80 rfl
theorem p_80_53 : zP1 80 53 = some (.goto (-49), 0, 0, 0) := zp_l zq_80 rfl
theorem p_80_56 : zP1 80 56 = some (.aload_n 0, 0, 0, 0) := zp_l zq_80 rfl
theorem p_80_57 : zP1 80 57 = some (.getfield 39, 4, 8, 0) := zp_r zq_80 rfl
theorem p_80_60 : zP1 80 60 = some (.getstatic 166, 12, 0, 0) := zp_r zq_80 rfl
theorem p_80_63 : zP1 80 63 = some (.if_acmp .ne 7, 0, 0, 0) := zp_l zq_80 rfl
theorem p_80_66 : zP1 80 66 = some (.iconst 1, 0, 0, 0) := zp_l zq_80 rfl
theorem p_80_67 : zP1 80 67 = some (.goto 4, 0, 0, 0) := zp_l zq_80 rfl
theorem p_80_70 : zP1 80 70 = some (.iconst 0, 0, 0, 0) := zp_l zq_80 rfl
theorem p_80_71 : zP1 80 71 = some (.istore_n 2, 0, 0, 0) := zp_l zq_80 rfl
theorem p_80_72 : zP1 80 72 = some (.iload_n 2, 0, 0, 0) := zp_l zq_80 rfl
theorem p_80_73 : zP1 80 73 = some (.ifCond .ne 15, 0, 0, 0) := zp_l zq_80 rfl
theorem p_80_76 : zP1 80 76 = some (.aload_n 0, 0, 0, 0) := zp_l zq_80 rfl
theorem p_80_77 : zP1 80 77 = some (.getfield 39, 4, 8, 0) := zp_r zq_80 rfl
theorem p_80_80 : zP1 80 80 = some (.getstatic 169, 13, 0, 0) := zp_r zq_80 rfl
theorem p_80_83 : zP1 80 83 = some (.if_acmp .eq 5, 0, 0, 0) := zp_l zq_80 rfl
theorem p_80_86 : zP1 80 86 = some (.iconst 0, 0, 0, 0) := zp_l zq_80 rfl
theorem p_80_87 : zP1 80 87 = some (.ireturn, 0, 0, 0) := zp_l zq_80 rfl
theorem p_80_88 : zP1 80 88 = some (.aload_n 0, 0, 0, 0) := zp_l zq_80 rfl
theorem p_80_89 : zP1 80 89 = some (.invokevirtual 118, 74, 0, 4) := zp_r zq_80 rfl
theorem p_80_92 : zP1 80 92 = some (.aload_n 0, 0, 0, 0) := zp_l zq_80 rfl
theorem p_80_93 : zP1 80 93 = some (.getfield 45, 4, 9, 0) := zp_r zq_80 rfl
theorem p_80_96 : zP1 80 96 = some (.iload_n 2, 0, 0, 0) := zp_l zq_80 rfl
theorem p_80_97 : zP1 80 97 = some (.ifCond .eq 7, 0, 0, 0) := zp_l zq_80 rfl
theorem p_80_100 : zP1 80 100 = some (.iconst 5, 0, 0, 0) := zp_l zq_80 rfl
theorem p_80_101 : zP1 80 101 = some (.goto 5, 0, 0, 0) := zp_l zq_80 rfl
theorem p_80_104 : zP1 80 104 = some (.bipush 6, 0, 0, 0) := zp_l zq_80 rfl
theorem p_80_106 : zP1 80 106 = some (.iload_n 1, 0, 0, 0) := zp_l zq_80 rfl
theorem p_80_107 : zP1 80 107 = some (.invokevirtual 150, 112, 2, 8) := zp_r zq_80 rfl
theorem p_80_110 : zP1 80 110 = some (.iconst 1, 0, 0, 0) := zp_l zq_80 rfl
theorem p_80_111 : zP1 80 111 = some (.ireturn, 0, 0, 0) := zp_l zq_80 rfl
theorem b_80_0 : Z e (d + 1) 80 0 [.ref 179, .retAddr 0, .retAddr 0] [] m = Z e (d + 1) 80 4 [.ref 179, .int (iI 0), .int (iI 0)] [] m := (s_const p_80_0).trans <| (s_is_1 cat_r p_80_1).trans <| (s_const p_80_2).trans <| (s_is_2 cat_i p_80_3).trans <| rfl
theorem b_80_4 {x1 : Int} {x2 : Int} (hw1 : 0 ≤ (m 179 8) ∧ (m 179 8) < 32) (hw2 : 0 ≤ (m 179 8) ∧ (m 179 8) < 32) : Z e (d + 1) 80 4 [.ref 179, .int (iI x1), .int (iI x2)] [] m = (if (wr x2) ≤ 300 then (if (wr (wbit (m 179 8))) = 0 then ri 0 m else (Z e d 74 0 [.ref 179] [] m).bind (ZK e (d + 1) 80 37 [.ref 179, .int (iI (jor x1 (wbit (m 179 8)))), .int (iI x2)] [] m)) else (if (¬ ((m 179 8) = 10)) ∧ (¬ ((m 179 8) = 11)) then ri 0 m else (Z e d 74 0 [.ref 179] [] m).bind (ZK e (d + 1) 80 92 [.ref 179, .int (iI x1), .int (iI (if (m 179 8) = 10 then 1 else 0))] [] m))) := (s_il_2 p_80_4).trans <| (s_sip p_80_5 rfl).trans <| Eq.trans ((s_c_gt_f p_80_8 rfl rfl wl_300)) <| ite_cg ((s_al_0 p_80_11).trans <| (s_getw' p_80_12 hw1).trans <| (s_wbit p_80_15 hw1).trans <| Eq.trans ((s_z_ne_f p_80_18 rfl rfl)) <| ite_cg ((s_const p_80_21).trans <| (s_retk rfl p_80_22 (zM_of zq_80))) ((s_il_1 p_80_23).trans <| (s_al_0 p_80_24).trans <| (s_getw' p_80_25 hw1).trans <| (s_wbit p_80_28 hw1).trans <| (s_ior p_80_31).trans <| (s_is_1 cat_r p_80_32).trans <| (s_al_0 p_80_33).trans <| (s_cv0 (Lc := [.ref 179]) p_80_34 (by decide) (by decide) (zM_of zq_74) ⟨Nat.le_of_ble_eq_true rfl, Nat.le_of_ble_eq_true rfl⟩ rfl (m_rc3 hs_179 ⟨rfl, by decide⟩)))) ((s_al_0 p_80_56).trans <| (s_getw' p_80_57 hw2).trans <| (s_gets (v := .ref (10000 + (10 : Int).toNat)) p_80_60 rfl).trans <| Eq.trans (Eq.trans ((s_wne_f p_80_63 rfl hw2 (by decide))) <| Eq.trans (ite_cg ((s_const p_80_66).trans <| (s_goto p_80_67 rfl).trans <| rfl) ((s_const p_80_70).trans <| rfl)) (phi1 (fun z0 => Z e (d + 1) 80 71 [.ref 179, .int (iI x1), .int (iI x2)] [.int (iI z0)] m))) <| (s_is_2 cat_i p_80_71).trans <| (s_il_2 p_80_72).trans <| Eq.trans (Eq.trans (s_bne_f p_80_73 rfl) <| Eq.trans (ite_cg ((s_al_0 p_80_76).trans <| (s_getw' p_80_77 hw2).trans <| (s_gets (v := .ref (10000 + (11 : Int).toNat)) p_80_80 rfl).trans <| (s_weq_f p_80_83 rfl hw2 (by decide))) rfl) co_and) <| ite_cg ((s_const p_80_86).trans <| (s_retk rfl p_80_87 (zM_of zq_80))) ((s_al_0 p_80_88).trans <| (s_cv0 (Lc := [.ref 179]) p_80_89 (by decide) (by decide) (zM_of zq_74) ⟨Nat.le_of_ble_eq_true rfl, Nat.le_of_ble_eq_true rfl⟩ rfl (m_rc3 hs_179 ⟨rfl, by decide⟩))))
theorem b_80_37 {x1 : Int} {x2 : Int} : Z e (d + 1) 80 37 [.ref 179, .int (iI x1), .int (iI x2)] [] m = (Z e d 75 0 [.ref 179, .ref (10000 + (12 : Int).toNat)] [] m).bind (ZK e (d + 1) 80 44 [.ref 179, .int (iI x1), .int (iI x2)] [] m) := (s_al_0 p_80_37).trans <| (s_gets (v := .ref (10000 + (12 : Int).toNat)) p_80_38 rfl).trans <| (s_cv1 (Lc := [.ref 179, .ref (10000 + (12 : Int).toNat)]) p_80_41 (by decide) (by decide) (zM_of zq_75) ⟨Nat.le_of_ble_eq_true rfl, Nat.le_of_ble_eq_true rfl⟩ rfl (m_rc3 hs_179 ⟨rfl, by decide⟩))
theorem b_80_92 {x1 : Int} {x2 : Int} : Z e (d + 1) 80 92 [.ref 179, .int (iI x1), .int (iI x2)] [] m = (Z e d 112 0 [.ref 185, .int (iI (if ¬ (wr x2) = 0 then 5 else 6)), .int (iI x1)] [] m).bind (ZK e (d + 1) 80 110 [.ref 179, .int (iI x1), .int (iI x2)] [] m) := (s_al_0 p_80_92).trans <| (s_getr3 p_80_93 hs_179 (by decide) rfl (by decide)).trans <| (s_il_2 p_80_96).trans <| Eq.trans (Eq.trans ((s_z_eq_f p_80_97 rfl rfl)) <| Eq.trans (ite_cg ((s_const p_80_100).trans <| (s_goto p_80_101 rfl).trans <| rfl) ((s_bip p_80_104 rfl).trans <| rfl)) (phi1 (fun z0 => Z e (d + 1) 80 106 [.ref 179, .int (iI x1), .int (iI x2)] [.int (iI z0), .ref 185] m))) <| (s_il_1 p_80_106).trans <| (s_cv2 (Lc := [.ref 185, .int (iI (if ¬ (wr x2) = 0 then 5 else 6)), .int (iI x1)]) p_80_107 (by decide) (by decide) (zM_of zq_112) ⟨Nat.le_of_ble_eq_true rfl, Nat.le_of_ble_eq_true rfl⟩ rfl (m_rc hs_185 ⟨rfl, by decide⟩))
theorem b_80_44 {x1 : Int} {x2 : Int} {xs0 : Int} (hw1 : 0 ≤ (m 179 8) ∧ (m 179 8) < 32) : Z e (d + 1) 80 44 [.ref 179, .int (iI x1), .int (iI x2)] [.int (iI xs0)] m = (if (wr xs0) = 0 then (if (¬ ((m 179 8) = 10)) ∧ (¬ ((m 179 8) = 11)) then ri 0 m else (Z e d 74 0 [.ref 179] [] m).bind (ZK e (d + 1) 80 92 [.ref 179, .int (iI x1), .int (iI (if (m 179 8) = 10 then 1 else 0))] [] m)) else Z e (d + 1) 80 4 [.ref 179, .int (iI x1), .int (iI (x2 + 1))] [] m) := Eq.trans ((s_z_ne_f p_80_44 rfl rfl)) <| ite_cg ((s_goto p_80_47 rfl).trans <| (s_al_0 p_80_56).trans <| (s_getw' p_80_57 hw1).trans <| (s_gets (v := .ref (10000 + (10 : Int).toNat)) p_80_60 rfl).trans <| Eq.trans (Eq.trans ((s_wne_f p_80_63 rfl hw1 (by decide))) <| Eq.trans (ite_cg ((s_const p_80_66).trans <| (s_goto p_80_67 rfl).trans <| rfl) ((s_const p_80_70).trans <| rfl)) (phi1 (fun z0 => Z e (d + 1) 80 71 [.ref 179, .int (iI x1), .int (iI x2)] [.int (iI z0)] m))) <| (s_is_2 cat_i p_80_71).trans <| (s_il_2 p_80_72).trans <| Eq.trans (Eq.trans (s_bne_f p_80_73 rfl) <| Eq.trans (ite_cg ((s_al_0 p_80_76).trans <| (s_getw' p_80_77 hw1).trans <| (s_gets (v := .ref (10000 + (11 : Int).toNat)) p_80_80 rfl).trans <| (s_weq_f p_80_83 rfl hw1 (by decide))) rfl) co_and) <| ite_cg ((s_const p_80_86).trans <| (s_retk rfl p_80_87 (zM_of zq_80))) ((s_al_0 p_80_88).trans <| (s_cv0 (Lc := [.ref 179]) p_80_89 (by decide) (by decide) (zM_of zq_74) ⟨Nat.le_of_ble_eq_true rfl, Nat.le_of_ble_eq_true rfl⟩ rfl (m_rc3 hs_179 ⟨rfl, by decide⟩)))) ((s_inc_2 cat_i p_80_50).trans <| (s_goto p_80_53 rfl).trans <| rfl)
theorem b_80_110 {u0 u1 u2 : Value} : Z e (d + 1) 80 110 [u0, u1, u2] [] m = ri 1 m := (s_const p_80_110).trans <| (s_retk rfl p_80_111 (zM_of zq_80))
-- Reader.parseLine
theorem p_77_0 : zP1 77 0 = some (.aload_n 0, 0, 0, 0) := zp_l zq_77 rfl
theorem p_77_1 : zP1 77 1 = some (.getstatic 121, 5, 0, 0) := zp_r zq_77 rfl
theorem p_77_4 : zP1 77 4 = some (.invokevirtual 69, 75, 1, 4) := zp_r zq_77 rfl
theorem p_77_7 : zP1 77 7 = some (.ifCond .eq 11, 0, 0, 0) := zp_l zq_77 rfl
theorem p_77_10 : zP1 77 10 = some (.aload_n 0, 0, 0, 0) := zp_l zq_77 rfl
theorem p_77_11 : zP1 77 11 = some (.iconst 0, 0, 0, 0) := zp_l zq_77 rfl
theorem p_77_12 : zP1 77 12 = some (.bipush 18, 0, 0, 0) := zp_l zq_77 rfl
theorem p_77_14 : zP1 77 14 = some (.invokevirtual 124, 78, 2, 4) := zp_r zq_77 rfl
theorem p_77_17 : zP1 77 17 = some (.ireturn, 0, 0, 0) := zp_l zq_77 rfl
theorem p_77_18 : zP1 77 18 = some (.aload_n 0, 0, 0, 0) := zp_l zq_77 rfl
theorem p_77_19 : zP1 77 19 = some (.getstatic 128, 6, 0, 0) := zp_r zq_77 rfl
theorem p_77_22 : zP1 77 22 = some (.invokevirtual 69, 75, 1, 4) := zp_r zq_77 rfl
theorem p_77_25 : zP1 77 25 = some (.ifCond .eq 12, 0, 0, 0) := zp_l zq_77 rfl
theorem p_77_28 : zP1 77 28 = some (.aload_n 0, 0, 0, 0) := zp_l zq_77 rfl
theorem p_77_29 : zP1 77 29 = some (.iconst 3, 0, 0, 0) := zp_l zq_77 rfl
theorem p_77_30 : zP1 77 30 = some (.sipush 999, 0, 0, 0) := zp_l zq_77 rfl
theorem p_77_33 : zP1 77 33 = some (.invokevirtual 124, 78, 2, 4) := zp_r zq_77 rfl
theorem p_77_36 : zP1 77 36 = some (.ireturn, 0, 0, 0) := zp_l zq_77 rfl
theorem p_77_37 : zP1 77 37 = some (.aload_n 0, 0, 0, 0) := zp_l zq_77 rfl
theorem p_77_38 : zP1 77 38 = some (.getstatic 131, 7, 0, 0) := zp_r zq_77 rfl
theorem p_77_41 : zP1 77 41 = some (.invokevirtual 69, 75, 1, 4) := zp_r zq_77 rfl
theorem p_77_44 : zP1 77 44 = some (.ifCond .eq 27, 0, 0, 0) := zp_l zq_77 rfl
theorem p_77_47 : zP1 77 47 = some (.aload_n 0, 0, 0, 0) := zp_l zq_77 rfl
theorem p_77_48 : zP1 77 48 = some (.iconst 4, 0, 0, 0) := zp_l zq_77 rfl
theorem p_77_49 : zP1 77 49 = some (.sipush 999, 0, 0, 0) := zp_l zq_77 rfl
theorem p_77_52 : zP1 77 52 = some (.invokevirtual 124, 78, 2, 4) := zp_r zq_77 rfl
theorem p_77_55 : zP1 77 55 = some (.ifCond .eq 14, 0, 0, 0) := zp_l zq_77 rfl
theorem p_77_58 : zP1 77 58 = some (.aload_n 0, 0, 0, 0) := zp_l zq_77 rfl
theorem p_77_59 : zP1 77 59 = some (.invokevirtual 134, 81, 0, 4) := zp_r zq_77 rfl
theorem p_77_62 : zP1 77 62 = some (.ifCond .eq 7, 0, 0, 0) := zp_l zq_77 rfl
theorem p_77_65 : zP1 77 65 = some (.iconst 1, 0, 0, 0) := zp_l zq_77 rfl
theorem p_77_66 : zP1 77 66 = some (.goto 4, 0, 0, 0) := zp_l zq_77 rfl
theorem p_77_69 : zP1 77 69 = some (.iconst 0, 0, 0, 0) := zp_l zq_77 rfl
theorem p_77_70 : zP1 77 70 = some (.ireturn, 0, 0, 0) := zp_l zq_77 rfl
theorem p_77_71 : zP1 77 71 = some (.aload_n 0, 0, 0, 0) := zp_l zq_77 rfl
theorem p_77_72 : zP1 77 72 = some (.getstatic 137, 8, 0, 0) := zp_r zq_77 rfl
theorem p_77_75 : zP1 77 75 = some (.invokevirtual 69, 75, 1, 4) := zp_r zq_77 rfl
theorem p_77_78 : zP1 77 78 = some (.ifCond .eq 8, 0, 0, 0) := zp_l zq_77 rfl
theorem p_77_81 : zP1 77 81 = some (.aload_n 0, 0, 0, 0) := zp_l zq_77 rfl
theorem p_77_82 : zP1 77 82 = some (.invokevirtual 140, 79, 0, 4) := zp_r zq_77 rfl
theorem p_77_85 : zP1 77 85 = some (.ireturn, 0, 0, 0) := zp_l zq_77 rfl
theorem p_77_86 : zP1 77 86 = some (.aload_n 0, 0, 0, 0) := zp_l zq_77 rfl
theorem p_77_87 : zP1 77 87 = some (.invokevirtual 143, 80, 0, 4) := zp_r zq_77 rfl
theorem p_77_90 : zP1 77 90 = some (.ifCond .eq 14, 0, 0, 0) := zp_l zq_77 rfl
theorem p_77_93 : zP1 77 93 = some (.aload_n 0, 0, 0, 0) := zp_l zq_77 rfl
theorem p_77_94 : zP1 77 94 = some (.invokevirtual 134, 81, 0, 4) := zp_r zq_77 rfl
theorem p_77_97 : zP1 77 97 = some (.ifCond .eq 7, 0, 0, 0) := zp_l zq_77 rfl
theorem p_77_100 : zP1 77 100 = some (.iconst 1, 0, 0, 0) := zp_l zq_77 rfl
theorem p_77_101 : zP1 77 101 = some (.goto 4, 0, 0, 0) := zp_l zq_77 rfl
theorem p_77_104 : zP1 77 104 = some (.iconst 0, 0, 0, 0) := zp_l zq_77 rfl
theorem p_77_105 : zP1 77 105 = some (.ireturn, 0, 0, 0) := zp_l zq_77 rfl
theorem b_77_0 : Z e (d + 1) 77 0 [.ref 179] [] m = (Z e d 75 0 [.ref 179, .ref (10000 + (3 : Int).toNat)] [] m).bind (ZK e (d + 1) 77 7 [.ref 179] [] m) := (s_al_0 p_77_0).trans <| (s_gets (v := .ref (10000 + (3 : Int).toNat)) p_77_1 rfl).trans <| (s_cv1 (Lc := [.ref 179, .ref (10000 + (3 : Int).toNat)]) p_77_4 (by decide) (by decide) (zM_of zq_75) ⟨Nat.le_of_ble_eq_true rfl, Nat.le_of_ble_eq_true rfl⟩ rfl (m_rc3 hs_179 ⟨rfl, by decide⟩))
theorem b_77_7 {xs0 : Int} : Z e (d + 1) 77 7 [.ref 179] [.int (iI xs0)] m = (if ¬ (wr xs0) = 0 then (Z e d 78 0 [.ref 179, .int (iI 0), .int (iI 18), .retAddr 0] [] m).bind (ZK e (d + 1) 77 17 [.ref 179] [] m) else (Z e d 75 0 [.ref 179, .ref (10000 + (7 : Int).toNat)] [] m).bind (ZK e (d + 1) 77 25 [.ref 179] [] m)) := Eq.trans ((s_z_eq_f p_77_7 rfl rfl)) <| ite_cg ((s_al_0 p_77_10).trans <| (s_const p_77_11).trans <| (s_bip p_77_12 rfl).trans <| (s_cv2 (Lc := [.ref 179, .int (iI 0), .int (iI 18), .retAddr 0]) p_77_14 (by decide) (by decide) (zM_of zq_78) ⟨Nat.le_of_ble_eq_true rfl, Nat.le_of_ble_eq_true rfl⟩ rfl (m_rc3 hs_179 ⟨rfl, by decide⟩))) ((s_al_0 p_77_18).trans <| (s_gets (v := .ref (10000 + (7 : Int).toNat)) p_77_19 rfl).trans <| (s_cv1 (Lc := [.ref 179, .ref (10000 + (7 : Int).toNat)]) p_77_22 (by decide) (by decide) (zM_of zq_75) ⟨Nat.le_of_ble_eq_true rfl, Nat.le_of_ble_eq_true rfl⟩ rfl (m_rc3 hs_179 ⟨rfl, by decide⟩)))
theorem b_77_17 {xs0 : Int} {u0 : Value} : Z e (d + 1) 77 17 [u0] [.int (iI xs0)] m = ck (nbp xs0) (ri xs0 m) := (s_retx p_77_17 (zM_of zq_77))
theorem b_77_25 {xs0 : Int} : Z e (d + 1) 77 25 [.ref 179] [.int (iI xs0)] m = (if ¬ (wr xs0) = 0 then (Z e d 78 0 [.ref 179, .int (iI 3), .int (iI 999), .retAddr 0] [] m).bind (ZK e (d + 1) 77 36 [.ref 179] [] m) else (Z e d 75 0 [.ref 179, .ref (10000 + (8 : Int).toNat)] [] m).bind (ZK e (d + 1) 77 44 [.ref 179] [] m)) := Eq.trans ((s_z_eq_f p_77_25 rfl rfl)) <| ite_cg ((s_al_0 p_77_28).trans <| (s_const p_77_29).trans <| (s_sip p_77_30 rfl).trans <| (s_cv2 (Lc := [.ref 179, .int (iI 3), .int (iI 999), .retAddr 0]) p_77_33 (by decide) (by decide) (zM_of zq_78) ⟨Nat.le_of_ble_eq_true rfl, Nat.le_of_ble_eq_true rfl⟩ rfl (m_rc3 hs_179 ⟨rfl, by decide⟩))) ((s_al_0 p_77_37).trans <| (s_gets (v := .ref (10000 + (8 : Int).toNat)) p_77_38 rfl).trans <| (s_cv1 (Lc := [.ref 179, .ref (10000 + (8 : Int).toNat)]) p_77_41 (by decide) (by decide) (zM_of zq_75) ⟨Nat.le_of_ble_eq_true rfl, Nat.le_of_ble_eq_true rfl⟩ rfl (m_rc3 hs_179 ⟨rfl, by decide⟩)))
theorem b_77_36 {xs0 : Int} {u0 : Value} : Z e (d + 1) 77 36 [u0] [.int (iI xs0)] m = ck (nbp xs0) (ri xs0 m) := (s_retx p_77_36 (zM_of zq_77))
theorem b_77_44 {xs0 : Int} : Z e (d + 1) 77 44 [.ref 179] [.int (iI xs0)] m = (if ¬ (wr xs0) = 0 then (Z e d 78 0 [.ref 179, .int (iI 4), .int (iI 999), .retAddr 0] [] m).bind (ZK e (d + 1) 77 55 [.ref 179] [] m) else (Z e d 75 0 [.ref 179, .ref (10000 + (4 : Int).toNat)] [] m).bind (ZK e (d + 1) 77 78 [.ref 179] [] m)) := Eq.trans ((s_z_eq_f p_77_44 rfl rfl)) <| ite_cg ((s_al_0 p_77_47).trans <| (s_const p_77_48).trans <| (s_sip p_77_49 rfl).trans <| (s_cv2 (Lc := [.ref 179, .int (iI 4), .int (iI 999), .retAddr 0]) p_77_52 (by decide) (by decide) (zM_of zq_78) ⟨Nat.le_of_ble_eq_true rfl, Nat.le_of_ble_eq_true rfl⟩ rfl (m_rc3 hs_179 ⟨rfl, by decide⟩))) ((s_al_0 p_77_71).trans <| (s_gets (v := .ref (10000 + (4 : Int).toNat)) p_77_72 rfl).trans <| (s_cv1 (Lc := [.ref 179, .ref (10000 + (4 : Int).toNat)]) p_77_75 (by decide) (by decide) (zM_of zq_75) ⟨Nat.le_of_ble_eq_true rfl, Nat.le_of_ble_eq_true rfl⟩ rfl (m_rc3 hs_179 ⟨rfl, by decide⟩)))
theorem b_77_55 {xs0 : Int} : Z e (d + 1) 77 55 [.ref 179] [.int (iI xs0)] m = (if ¬ (wr xs0) = 0 then (Z e d 81 0 [.ref 179] [] m).bind (ZK e (d + 1) 77 62 [.ref 179] [] m) else ri 0 m) := Eq.trans ((s_z_eq_f p_77_55 rfl rfl)) <| ite_cg ((s_al_0 p_77_58).trans <| (s_cv0 (Lc := [.ref 179]) p_77_59 (by decide) (by decide) (zM_of zq_81) ⟨Nat.le_of_ble_eq_true rfl, Nat.le_of_ble_eq_true rfl⟩ rfl (m_rc3 hs_179 ⟨rfl, by decide⟩))) ((s_const p_77_69).trans <| (s_retk rfl p_77_70 (zM_of zq_77)))
theorem b_77_78 {xs0 : Int} : Z e (d + 1) 77 78 [.ref 179] [.int (iI xs0)] m = (if ¬ (wr xs0) = 0 then (Z e d 79 0 [.ref 179, .retAddr 0] [] m).bind (ZK e (d + 1) 77 85 [.ref 179] [] m) else (Z e d 80 0 [.ref 179, .retAddr 0, .retAddr 0] [] m).bind (ZK e (d + 1) 77 90 [.ref 179] [] m)) := Eq.trans ((s_z_eq_f p_77_78 rfl rfl)) <| ite_cg ((s_al_0 p_77_81).trans <| (s_cv0 (Lc := [.ref 179, .retAddr 0]) p_77_82 (by decide) (by decide) (zM_of zq_79) ⟨Nat.le_of_ble_eq_true rfl, Nat.le_of_ble_eq_true rfl⟩ rfl (m_rc3 hs_179 ⟨rfl, by decide⟩))) ((s_al_0 p_77_86).trans <| (s_cv0 (Lc := [.ref 179, .retAddr 0, .retAddr 0]) p_77_87 (by decide) (by decide) (zM_of zq_80) ⟨Nat.le_of_ble_eq_true rfl, Nat.le_of_ble_eq_true rfl⟩ rfl (m_rc3 hs_179 ⟨rfl, by decide⟩)))
theorem b_77_62 {xs0 : Int} {u0 : Value} : Z e (d + 1) 77 62 [u0] [.int (iI xs0)] m = ri (if ¬ (wr xs0) = 0 then 1 else 0) m := Eq.trans (Eq.trans ((s_z_eq_f p_77_62 rfl rfl)) <| Eq.trans (ite_cg ((s_const p_77_65).trans <| (s_goto p_77_66 rfl).trans <| rfl) ((s_const p_77_69).trans <| rfl)) (phi1 (fun z0 => Z e (d + 1) 77 70 [u0] [.int (iI z0)] m))) <| (s_retb p_77_70 (zM_of zq_77))
theorem b_77_85 {xs0 : Int} {u0 : Value} : Z e (d + 1) 77 85 [u0] [.int (iI xs0)] m = ck (nbp xs0) (ri xs0 m) := (s_retx p_77_85 (zM_of zq_77))
theorem b_77_90 {xs0 : Int} : Z e (d + 1) 77 90 [.ref 179] [.int (iI xs0)] m = (if ¬ (wr xs0) = 0 then (Z e d 81 0 [.ref 179] [] m).bind (ZK e (d + 1) 77 97 [.ref 179] [] m) else ri 0 m) := Eq.trans ((s_z_eq_f p_77_90 rfl rfl)) <| ite_cg ((s_al_0 p_77_93).trans <| (s_cv0 (Lc := [.ref 179]) p_77_94 (by decide) (by decide) (zM_of zq_81) ⟨Nat.le_of_ble_eq_true rfl, Nat.le_of_ble_eq_true rfl⟩ rfl (m_rc3 hs_179 ⟨rfl, by decide⟩))) ((s_const p_77_104).trans <| (s_retk rfl p_77_105 (zM_of zq_77)))
theorem b_77_97 {xs0 : Int} {u0 : Value} : Z e (d + 1) 77 97 [u0] [.int (iI xs0)] m = ri (if ¬ (wr xs0) = 0 then 1 else 0) m := Eq.trans (Eq.trans ((s_z_eq_f p_77_97 rfl rfl)) <| Eq.trans (ite_cg ((s_const p_77_100).trans <| (s_goto p_77_101 rfl).trans <| rfl) ((s_const p_77_104).trans <| rfl)) (phi1 (fun z0 => Z e (d + 1) 77 105 [u0] [.int (iI z0)] m))) <| (s_retb p_77_105 (zM_of zq_77))
-- Reader.parse
theorem p_66_0 : zP1 66 0 = some (.aload_n 0, 0, 0, 0) := zp_l zq_66 rfl
theorem p_66_1 : zP1 66 1 = some (.invokevirtual 56, 67, 0, 4) := zp_r zq_66 rfl
theorem p_66_4 : zP1 66 4 = some (.aload_n 0, 0, 0, 0) := zp_l zq_66 rfl
theorem p_66_5 : zP1 66 5 = some (.getfield 45, 4, 9, 0) := zp_r zq_66 rfl
theorem p_66_8 : zP1 66 8 = some (.invokevirtual 59, 110, 0, 8) := zp_r zq_66 rfl
theorem p_66_11 : zP1 66 11 = some (.aload_n 0, 0, 0, 0) := zp_l zq_66 rfl
theorem p_66_12 : zP1 66 12 = some (.iconst 0, 0, 0, 0) := zp_l zq_66 rfl
theorem p_66_13 : zP1 66 13 = some (.putfield 53, 4, 7, 0) := zp_r zq_66 rfl
theorem p_66_16 : zP1 66 16 = some (.aload_n 0, 0, 0, 0) := zp_l zq_66 rfl
theorem p_66_17 : zP1 66 17 = some (.aload_n 0, 0, 0, 0) := zp_l zq_66 rfl
theorem p_66_18 : zP1 66 18 = some (.getfield 25, 4, 3, 0) := zp_r zq_66 rfl
theorem p_66_21 : zP1 66 21 = some (.iconst 0, 0, 0, 0) := zp_l zq_66 rfl
theorem p_66_22 : zP1 66 22 = some (.aaload, 0, 0, 0) := zp_l zq_66 rfl
theorem p_66_23 : zP1 66 23 = some (.putfield 39, 4, 8, 2) := zp_r zq_66 rfl
theorem p_66_26 : zP1 66 26 = some (.iconst 0, 0, 0, 0) := zp_l zq_66 rfl
theorem p_66_27 : zP1 66 27 = some (.istore_n 1, 0, 0, 0) := zp_l zq_66 rfl
theorem p_66_28 : zP1 66 28 = some (.aload_n 0, 0, 0, 0) := zp_l zq_66 rfl
theorem p_66_29 : zP1 66 29 = some (.getfield 39, 4, 8, 0) := zp_r zq_66 rfl
theorem p_66_32 : zP1 66 32 = some (.getstatic 35, 1, 0, 0) := zp_r zq_66 rfl
theorem p_66_35 : zP1 66 35 = some (.if_acmp .eq 34, 0, 0, 0) := zp_l zq_66 rfl
theorem p_66_38 : zP1 66 38 = some (.iload_n 1, 0, 0, 0) := zp_l zq_66 rfl
theorem p_66_39 : zP1 66 39 = some (.bipush 10, 0, 0, 0) := zp_l zq_66 rfl
theorem p_66_41 : zP1 66 41 = some (.if_icmp .ge 20, 0, 0, 0) := zp_l zq_66 rfl
theorem p_66_44 : zP1 66 44 = some (.aload_n 0, 0, 0, 0) := zp_l zq_66 rfl
theorem p_66_45 : zP1 66 45 = some (.invokevirtual 62, 77, 0, 4) := zp_r zq_66 rfl
theorem p_66_48 : zP1 66 48 = some (.ifCond .eq 13, 0, 0, 0) := zp_l zq_66 rfl
theorem p_66_51 : zP1 66 51 = some (.aload_n 0, 0, 0, 0) := zp_l zq_66 rfl
theorem p_66_52 : zP1 66 52 = some (.getstatic 66, 2, 0, 0) := zp_r zq_66 rfl
theorem p_66_55 : zP1 66 55 = some (.invokevirtual 69, 75, 1, 4) := zp_r zq_66 rfl
theorem p_66_58 : zP1 66 58 = some (.ifCond .ne 5, 0, 0, 0) := zp_l zq_66 rfl
theorem p_66_61 : zP1 66 61 = some (.iconst 0, 0, 0, 0) := zp_l zq_66 rfl
theorem p_66_62 : zP1 66 62 = some (.ireturn, 0, 0, 0) := zp_l zq_66 rfl
theorem p_66_63 : zP1 66 63 = some (.iinc 1 1, 0, 0, 0) := zp_l zq_66 rfl
theorem p_66_66 : zP1 66 66 = some (.goto (-38), 0, 0, 0) := zp_l zq_66 rfl
theorem p_66_69 : zP1 66 69 = some (.iconst 1, 0, 0, 0) := zp_l zq_66 rfl
theorem p_66_70 : zP1 66 70 = some (.ireturn, 0, 0, 0) := zp_l zq_66 rfl
theorem b_66_0 : Z e (d + 1) 66 0 [.ref 179, .retAddr 0] [] m = (Z e d 67 0 [.ref 179, .retAddr 0, .retAddr 0] [] m).bind (ZK e (d + 1) 66 4 [.ref 179, .retAddr 0] [] m) := (s_al_0 p_66_0).trans <| (s_cv0 (Lc := [.ref 179, .retAddr 0, .retAddr 0]) p_66_1 (by decide) (by decide) (zM_of zq_67) ⟨Nat.le_of_ble_eq_true rfl, Nat.le_of_ble_eq_true rfl⟩ rfl (m_rc3 hs_179 ⟨rfl, by decide⟩))
theorem b_66_28 {x1 : Int} (hw1 : 0 ≤ (m 179 8) ∧ (m 179 8) < 32) : Z e (d + 1) 66 28 [.ref 179, .int (iI x1)] [] m = (if ¬ ((m 179 8) = 0) then (if (wr x1) < 10 then (Z e d 77 0 [.ref 179] [] m).bind (ZK e (d + 1) 66 48 [.ref 179, .int (iI x1)] [] m) else ri 0 m) else ri 1 m) := (s_al_0 p_66_28).trans <| (s_getw' p_66_29 hw1).trans <| (s_gets (v := .ref (10000 + (0 : Int).toNat)) p_66_32 rfl).trans <| Eq.trans ((s_weq_f p_66_35 rfl hw1 (by decide))) <| ite_cg ((s_il_1 p_66_38).trans <| (s_bip p_66_39 rfl).trans <| Eq.trans ((s_c_ge_f p_66_41 rfl rfl wl_10)) <| ite_cg ((s_al_0 p_66_44).trans <| (s_cv0 (Lc := [.ref 179]) p_66_45 (by decide) (by decide) (zM_of zq_77) ⟨Nat.le_of_ble_eq_true rfl, Nat.le_of_ble_eq_true rfl⟩ rfl (m_rc3 hs_179 ⟨rfl, by decide⟩))) ((s_const p_66_61).trans <| (s_retk rfl p_66_62 (zM_of zq_66)))) ((s_const p_66_69).trans <| (s_retk rfl p_66_70 (zM_of zq_66)))
theorem b_66_4 {u1 : Value} : Z e (d + 1) 66 4 [.ref 179, u1] [] m = ck ((0 ≤ (wr 0) ∧ (wr 0) < 301) ∧ 0 ≤ ((um (um (um m 185 3 0) 185 4 0) 179 7 0) 182 (wr 0))) (Z e (d + 1) 66 28 [.ref 179, .int (iI 0)] [] (um (um (um (um m 185 3 0) 185 4 0) 179 7 0) 179 8 ((um (um (um m 185 3 0) 185 4 0) 179 7 0) 182 (wr 0)))) := (s_al_0 p_66_4).trans <| (s_getr3 p_66_5 hs_179 (by decide) rfl (by decide)).trans <| (s_cv0 (Lc := [.ref 185]) p_66_8 (by decide) (by decide) (zM_of zq_110) ⟨Nat.le_of_ble_eq_true rfl, Nat.le_of_ble_eq_true rfl⟩ rfl (m_rc hs_185 ⟨rfl, by decide⟩)).trans <| (bd b_110_0).trans <| rn_k.trans <| (s_al_0 p_66_11).trans <| (s_const p_66_12).trans <| (s_put3 p_66_13 hs_179 (by decide) rfl (by decide)).trans <| (s_al_0 p_66_16).trans <| (s_al_0 p_66_17).trans <| (s_getr3 p_66_18 hs_179 (by decide) rfl (by decide)).trans <| (s_const p_66_21).trans <| (s_wld p_66_22).trans <| ck_cg fun k1 => (s_putw p_66_23 k1.2).trans <| (s_const p_66_26).trans <| (s_is_1 cat_r p_66_27).trans <| rfl
theorem b_66_48 {x1 : Int} {xs0 : Int} : Z e (d + 1) 66 48 [.ref 179, .int (iI x1)] [.int (iI xs0)] m = (if ¬ (wr xs0) = 0 then (Z e d 75 0 [.ref 179, .ref (10000 + (29 : Int).toNat)] [] m).bind (ZK e (d + 1) 66 58 [.ref 179, .int (iI x1)] [] m) else ri 0 m) := Eq.trans ((s_z_eq_f p_66_48 rfl rfl)) <| ite_cg ((s_al_0 p_66_51).trans <| (s_gets (v := .ref (10000 + (29 : Int).toNat)) p_66_52 rfl).trans <| (s_cv1 (Lc := [.ref 179, .ref (10000 + (29 : Int).toNat)]) p_66_55 (by decide) (by decide) (zM_of zq_75) ⟨Nat.le_of_ble_eq_true rfl, Nat.le_of_ble_eq_true rfl⟩ rfl (m_rc3 hs_179 ⟨rfl, by decide⟩))) ((s_const p_66_61).trans <| (s_retk rfl p_66_62 (zM_of zq_66)))
theorem b_66_58 {x1 : Int} {xs0 : Int} : Z e (d + 1) 66 58 [.ref 179, .int (iI x1)] [.int (iI xs0)] m = (if (wr xs0) = 0 then ri 0 m else Z e (d + 1) 66 28 [.ref 179, .int (iI (x1 + 1))] [] m) := Eq.trans ((s_z_ne_f p_66_58 rfl rfl)) <| ite_cg ((s_const p_66_61).trans <| (s_retk rfl p_66_62 (zM_of zq_66))) ((s_inc_1 cat_r p_66_63).trans <| (s_goto p_66_66 rfl).trans <| rfl)
-- Roads.way
theorem p_89_0 : zP1 89 0 = some (.aload_n 0, 0, 0, 0) := zp_l zq_89 rfl
theorem p_89_1 : zP1 89 1 = some (.iload_n 1, 0, 0, 0) := zp_l zq_89 rfl
theorem p_89_2 : zP1 89 2 = some (.aload_n 0, 0, 0, 0) := zp_l zq_89 rfl
theorem p_89_3 : zP1 89 3 = some (.getfield 18, 5, 3, 0) := zp_r zq_89 rfl
theorem p_89_6 : zP1 89 6 = some (.invokevirtual 48, 88, 2, 5) := zp_r zq_89 rfl
theorem p_89_9 : zP1 89 9 = some (.aload_n 0, 0, 0, 0) := zp_l zq_89 rfl
theorem p_89_10 : zP1 89 10 = some (.getfield 18, 5, 3, 0) := zp_r zq_89 rfl
theorem p_89_13 : zP1 89 13 = some (.iload_n 2, 0, 0, 0) := zp_l zq_89 rfl
theorem p_89_14 : zP1 89 14 = some (.iaload, 0, 0, 0) := zp_l zq_89 rfl
theorem p_89_15 : zP1 89 15 = some (.ireturn, 0, 0, 0) := zp_l zq_89 rfl
theorem b_89_0 {x1 : Int} {x2 : Int} : Z e (d + 1) 89 0 [.ref 191, .int (iI x1), .int (iI x2)] [] m = (Z e d 88 0 [.ref 191, .int (iI x1), .ref 194, .retAddr 0, .retAddr 0, .retAddr 0, .retAddr 0, .retAddr 0] [] m).bind (ZK e (d + 1) 89 9 [.ref 191, .int (iI x1), .int (iI x2)] [] m) := (s_al_0 p_89_0).trans <| (s_il_1 p_89_1).trans <| (s_al_0 p_89_2).trans <| (s_getr p_89_3 hs_191 (by decide) rfl).trans <| (s_cv2 (Lc := [.ref 191, .int (iI x1), .ref 194, .retAddr 0, .retAddr 0, .retAddr 0, .retAddr 0, .retAddr 0]) p_89_6 (by decide) (by decide) (zM_of zq_88) ⟨Nat.le_of_ble_eq_true rfl, Nat.le_of_ble_eq_true rfl⟩ rfl (m_rc hs_191 ⟨rfl, by decide⟩))
theorem b_89_9 {x2 : Int} {u1 : Value} : Z e (d + 1) 89 9 [.ref 191, u1, .int (iI x2)] [] m = ck (0 ≤ (wr x2) ∧ (wr x2) < 100) (ri (m 194 (wr x2)) m) := (s_al_0 p_89_9).trans <| (s_getr p_89_10 hs_191 (by decide) rfl).trans <| (s_il_2 p_89_13).trans <| (s_ald 100 p_89_14 hs_194 rfl (by decide)).trans <| ck_cg fun k1 => (s_reti p_89_15 (zM_of zq_89))
-- Roads.couldBe
theorem p_91_0 : zP1 91 0 = some (.aload_n 0, 0, 0, 0) := zp_l zq_91 rfl
theorem p_91_1 : zP1 91 1 = some (.aload_n 0, 0, 0, 0) := zp_l zq_91 rfl
theorem p_91_2 : zP1 91 2 = some (.getfield 26, 5, 0, 0) := zp_r zq_91 rfl
theorem p_91_5 : zP1 91 5 = some (.getfield 66, 9, 11, 0) := zp_r zq_91 rfl
theorem p_91_8 : zP1 91 8 = some (.iload_n 1, 0, 0, 0) := zp_l zq_91 rfl
theorem p_91_9 : zP1 91 9 = some (.iconst 0, 0, 0, 0) := zp_l zq_91 rfl
theorem p_91_10 : zP1 91 10 = some (.invokevirtual 62, 104, 2, 7) := zp_r zq_91 rfl
theorem p_91_13 : zP1 91 13 = some (.aload_n 0, 0, 0, 0) := zp_l zq_91 rfl
theorem p_91_14 : zP1 91 14 = some (.getfield 18, 5, 3, 0) := zp_r zq_91 rfl
theorem p_91_17 : zP1 91 17 = some (.invokevirtual 48, 88, 2, 5) := zp_r zq_91 rfl
theorem p_91_20 : zP1 91 20 = some (.aload_n 0, 0, 0, 0) := zp_l zq_91 rfl
theorem p_91_21 : zP1 91 21 = some (.getfield 26, 5, 0, 0) := zp_r zq_91 rfl
theorem p_91_24 : zP1 91 24 = some (.getfield 66, 9, 11, 0) := zp_r zq_91 rfl
theorem p_91_27 : zP1 91 27 = some (.iload_n 1, 0, 0, 0) := zp_l zq_91 rfl
theorem p_91_28 : zP1 91 28 = some (.iconst 2, 0, 0, 0) := zp_l zq_91 rfl
theorem p_91_29 : zP1 91 29 = some (.invokevirtual 62, 104, 2, 7) := zp_r zq_91 rfl
theorem p_91_32 : zP1 91 32 = some (.istore_n 2, 0, 0, 0) := zp_l zq_91 rfl
theorem p_91_33 : zP1 91 33 = some (.aload_n 0, 0, 0, 0) := zp_l zq_91 rfl
theorem p_91_34 : zP1 91 34 = some (.getfield 26, 5, 0, 0) := zp_r zq_91 rfl
theorem p_91_37 : zP1 91 37 = some (.getfield 66, 9, 11, 0) := zp_r zq_91 rfl
theorem p_91_40 : zP1 91 40 = some (.iload_n 1, 0, 0, 0) := zp_l zq_91 rfl
theorem p_91_41 : zP1 91 41 = some (.iconst 1, 0, 0, 0) := zp_l zq_91 rfl
theorem p_91_42 : zP1 91 42 = some (.invokevirtual 62, 104, 2, 7) := zp_r zq_91 rfl
theorem p_91_45 : zP1 91 45 = some (.bipush 24, 0, 0, 0) := zp_l zq_91 rfl
theorem p_91_47 : zP1 91 47 = some (.iadd, 0, 0, 0) := zp_l zq_91 rfl
theorem p_91_48 : zP1 91 48 = some (.bipush 20, 0, 0, 0) := zp_l zq_91 rfl
theorem p_91_50 : zP1 91 50 = some (.isub, 0, 0, 0) := zp_l zq_91 rfl
theorem p_91_51 : zP1 91 51 = some (.bipush 24, 0, 0, 0) := zp_l zq_91 rfl
theorem p_91_53 : zP1 91 53 = some (.irem, 0, 0, 0) := zp_l zq_91 rfl
theorem p_91_54 : zP1 91 54 = some (.istore_n 3, 0, 0, 0) := zp_l zq_91 rfl
theorem p_91_55 : zP1 91 55 = some (.iconst 0, 0, 0, 0) := zp_l zq_91 rfl
theorem p_91_56 : zP1 91 56 = some (.istore 4, 0, 0, 0) := zp_l zq_91 rfl
theorem p_91_58 : zP1 91 58 = some (.iconst 0, 0, 0, 0) := zp_l zq_91 rfl
theorem p_91_59 : zP1 91 59 = some (.istore 5, 0, 0, 0) := zp_l zq_91 rfl
theorem p_91_61 : zP1 91 61 = some (.iload 5, 0, 0, 0) := zp_l zq_91 rfl
theorem p_91_63 : zP1 91 63 = some (.aload_n 0, 0, 0, 0) := zp_l zq_91 rfl
theorem p_91_64 : zP1 91 64 = some (.getfield 26, 5, 0, 0) := zp_r zq_91 rfl
theorem p_91_67 : zP1 91 67 = some (.getfield 69, 9, 5, 0) := zp_r zq_91 rfl
theorem p_91_70 : zP1 91 70 = some (.getfield 56, 7, 3, 0) := zp_r zq_91 rfl
theorem p_91_73 : zP1 91 73 = some (.if_icmp .ge 104, 0, 0, 0) := zp_l zq_91 rfl
theorem p_91_76 : zP1 91 76 = some (.aload_n 0, 0, 0, 0) := zp_l zq_91 rfl
theorem p_91_77 : zP1 91 77 = some (.getfield 26, 5, 0, 0) := zp_r zq_91 rfl
theorem p_91_80 : zP1 91 80 = some (.getfield 69, 9, 5, 0) := zp_r zq_91 rfl
theorem p_91_83 : zP1 91 83 = some (.iload 5, 0, 0, 0) := zp_l zq_91 rfl
theorem p_91_85 : zP1 91 85 = some (.iconst 1, 0, 0, 0) := zp_l zq_91 rfl
theorem p_91_86 : zP1 91 86 = some (.invokevirtual 62, 104, 2, 7) := zp_r zq_91 rfl
theorem p_91_89 : zP1 91 89 = some (.istore 6, 0, 0, 0) := zp_l zq_91 rfl
theorem p_91_91 : zP1 91 91 = some (.aload_n 0, 0, 0, 0) := zp_l zq_91 rfl
theorem p_91_92 : zP1 91 92 = some (.getfield 18, 5, 3, 0) := zp_r zq_91 rfl
theorem p_91_95 : zP1 91 95 = some (.aload_n 0, 0, 0, 0) := zp_l zq_91 rfl
theorem p_91_96 : zP1 91 96 = some (.getfield 26, 5, 0, 0) := zp_r zq_91 rfl
theorem p_91_99 : zP1 91 99 = some (.getfield 69, 9, 5, 0) := zp_r zq_91 rfl
theorem p_91_102 : zP1 91 102 = some (.iload 5, 0, 0, 0) := zp_l zq_91 rfl
theorem p_91_104 : zP1 91 104 = some (.iconst 0, 0, 0, 0) := zp_l zq_91 rfl
theorem p_91_105 : zP1 91 105 = some (.invokevirtual 62, 104, 2, 7) := zp_r zq_91 rfl
theorem p_91_108 : zP1 91 108 = some (.iaload, 0, 0, 0) := zp_l zq_91 rfl
theorem p_91_109 : zP1 91 109 = some (.istore 7, 0, 0, 0) := zp_l zq_91 rfl
theorem p_91_111 : zP1 91 111 = some (.aload_n 0, 0, 0, 0) := zp_l zq_91 rfl
theorem p_91_112 : zP1 91 112 = some (.getfield 26, 5, 0, 0) := zp_r zq_91 rfl
theorem p_91_115 : zP1 91 115 = some (.iload 5, 0, 0, 0) := zp_l zq_91 rfl
theorem p_91_117 : zP1 91 117 = some (.iconst 4, 0, 0, 0) := zp_l zq_91 rfl
theorem p_91_118 : zP1 91 118 = some (.invokevirtual 72, 127, 2, 9) := zp_r zq_91 rfl
theorem p_91_121 : zP1 91 121 = some (.ifCond .eq 17, 0, 0, 0) := zp_l zq_91 rfl
theorem p_91_124 : zP1 91 124 = some (.iload_n 2, 0, 0, 0) := zp_l zq_91 rfl
theorem p_91_125 : zP1 91 125 = some (.ifCond .eq 9, 0, 0, 0) := zp_l zq_91 rfl
theorem p_91_128 : zP1 91 128 = some (.iload_n 2, 0, 0, 0) := zp_l zq_91 rfl
theorem p_91_129 : zP1 91 129 = some (.iload 6, 0, 0, 0) := zp_l zq_91 rfl
theorem p_91_131 : zP1 91 131 = some (.if_icmp .ne 7, 0, 0, 0) := zp_l zq_91 rfl
theorem p_91_134 : zP1 91 134 = some (.iconst 1, 0, 0, 0) := zp_l zq_91 rfl
theorem p_91_135 : zP1 91 135 = some (.goto 4, 0, 0, 0) := zp_l zq_91 rfl
theorem p_91_138 : zP1 91 138 = some (.iconst 0, 0, 0, 0) := zp_l zq_91 rfl
theorem p_91_139 : zP1 91 139 = some (.istore 8, 0, 0, 0) := zp_l zq_91 rfl
theorem p_91_141 : zP1 91 141 = some (.iload 8, 0, 0, 0) := zp_l zq_91 rfl
theorem p_91_143 : zP1 91 143 = some (.ifCond .eq 28, 0, 0, 0) := zp_l zq_91 rfl
theorem p_91_146 : zP1 91 146 = some (.iload 7, 0, 0, 0) := zp_l zq_91 rfl
theorem p_91_148 : zP1 91 148 = some (.bipush (-3), 0, 0, 0) := zp_l zq_91 rfl
theorem p_91_150 : zP1 91 150 = some (.if_icmp .eq 21, 0, 0, 0) := zp_l zq_91 rfl
theorem p_91_153 : zP1 91 153 = some (.iload 7, 0, 0, 0) := zp_l zq_91 rfl
theorem p_91_155 : zP1 91 155 = some (.iload 6, 0, 0, 0) := zp_l zq_91 rfl
theorem p_91_157 : zP1 91 157 = some (.iload_n 3, 0, 0, 0) := zp_l zq_91 rfl
theorem p_91_158 : zP1 91 158 = some (.imul, 0, 0, 0) := zp_l zq_91 rfl
theorem p_91_159 : zP1 91 159 = some (.if_icmp .gt 12, 0, 0, 0) := zp_l zq_91 rfl
theorem p_91_162 : zP1 91 162 = some (.iload 4, 0, 0, 0) := zp_l zq_91 rfl
theorem p_91_164 : zP1 91 164 = some (.iconst 1, 0, 0, 0) := zp_l zq_91 rfl
theorem p_91_165 : zP1 91 165 = some (.iload 5, 0, 0, 0) := zp_l zq_91 rfl
theorem p_91_167 : zP1 91 167 = some (.ishl, 0, 0, 0) := zp_l zq_91 rfl
theorem p_91_168 : zP1 91 168 = some (.ior, 0, 0, 0) := zp_l zq_91 rfl
theorem p_91_169 : zP1 91 169 = some (.istore 4, 0, 0, 0) := zp_l zq_91 rfl
theorem p_91_171 : zP1 91 171 = some (.iinc 5 1, 0, 0, 0) := zp_l zq_91 rfl
theorem p_91_174 : zP1 91 174 = some (.goto (-113), 0, 0, 0) := zp_l zq_91 rfl
theorem p_91_177 : zP1 91 177 = some (.iload 4, 0, 0, 0) := zp_l zq_91 rfl
theorem p_91_179 : zP1 91 179 = some (.ireturn, 0, 0, 0) := zp_l zq_91 rfl
theorem b_91_0 {x1 : Int} : Z e (d + 1) 91 0 [.ref 191, .int (iI x1), .retAddr 0, .retAddr 0, .retAddr 0, .retAddr 0, .retAddr 0, .retAddr 0, .retAddr 0] [] m = (Z e d 104 0 [.ref 16, .int (iI x1), .int (iI 0)] [] m).bind (ZK e (d + 1) 91 13 [.ref 191, .int (iI x1), .retAddr 0, .retAddr 0, .retAddr 0, .retAddr 0, .retAddr 0, .retAddr 0, .retAddr 0] [.ref 191] m) := (s_al_0 p_91_0).trans <| (s_al_0 p_91_1).trans <| (s_getr p_91_2 hs_191 (by decide) rfl).trans <| (s_getr p_91_5 hs_1 (by decide) rfl).trans <| (s_il_1 p_91_8).trans <| (s_const p_91_9).trans <| (s_cv2 (Lc := [.ref 16, .int (iI x1), .int (iI 0)]) p_91_10 (by decide) (by decide) (zM_of zq_104) ⟨Nat.le_of_ble_eq_true rfl, Nat.le_of_ble_eq_true rfl⟩ rfl (m_rc hs_16 ⟨rfl, by decide⟩))
theorem b_91_61 {x2 : Int} {x3 : Int} {x4 : Int} {x5 : Int} {u1 u6 u7 u8 : Value} : Z e (d + 1) 91 61 [.ref 191, u1, .int (iI x2), .int (iI x3), .int (iI x4), .int (iI x5), u6, u7, u8] [] m = (if (wr x5) < (wr (m 4 3)) then (Z e d 104 0 [.ref 4, .int (iI x5), .int (iI 1)] [] m).bind (ZK e (d + 1) 91 89 [.ref 191, u1, .int (iI x2), .int (iI x3), .int (iI x4), .int (iI x5), u6, u7, u8] [] m) else ri x4 m) := (s_il_5 p_91_61).trans <| (s_al_0 p_91_63).trans <| (s_getr p_91_64 hs_191 (by decide) rfl).trans <| (s_getr p_91_67 hs_1 (by decide) rfl).trans <| (s_get p_91_70 hs_4 (by decide) rfl).trans <| Eq.trans ((s_c_ge_f p_91_73 rfl rfl rfl)) <| ite_cg ((s_al_0 p_91_76).trans <| (s_getr p_91_77 hs_191 (by decide) rfl).trans <| (s_getr p_91_80 hs_1 (by decide) rfl).trans <| (s_il_5 p_91_83).trans <| (s_const p_91_85).trans <| (s_cv2 (Lc := [.ref 4, .int (iI x5), .int (iI 1)]) p_91_86 (by decide) (by decide) (zM_of zq_104) ⟨Nat.le_of_ble_eq_true rfl, Nat.le_of_ble_eq_true rfl⟩ rfl (m_rc hs_4 ⟨rfl, by decide⟩))) ((s_il_4 p_91_177).trans <| (s_reti p_91_179 (zM_of zq_91)))
theorem b_91_13 {x1 : Int} {xs0 : Int} {u2 u3 u4 u5 u6 u7 u8 : Value} : Z e (d + 1) 91 13 [.ref 191, .int (iI x1), u2, u3, u4, u5, u6, u7, u8] [.int (iI xs0), .ref 191] m = (Z e d 88 0 [.ref 191, .int (iI xs0), .ref 194, .retAddr 0, .retAddr 0, .retAddr 0, .retAddr 0, .retAddr 0] [] m).bind (ZK e (d + 1) 91 20 [.ref 191, .int (iI x1), u2, u3, u4, u5, u6, u7, u8] [] m) := (s_al_0 p_91_13).trans <| (s_getr p_91_14 hs_191 (by decide) rfl).trans <| (s_cv2 (Lc := [.ref 191, .int (iI xs0), .ref 194, .retAddr 0, .retAddr 0, .retAddr 0, .retAddr 0, .retAddr 0]) p_91_17 (by decide) (by decide) (zM_of zq_88) ⟨Nat.le_of_ble_eq_true rfl, Nat.le_of_ble_eq_true rfl⟩ rfl (m_rc hs_191 ⟨rfl, by decide⟩))
theorem b_91_89 {x2 : Int} {x3 : Int} {x4 : Int} {x5 : Int} {xs0 : Int} {u1 u6 u7 u8 : Value} : Z e (d + 1) 91 89 [.ref 191, u1, .int (iI x2), .int (iI x3), .int (iI x4), .int (iI x5), u6, u7, u8] [.int (iI xs0)] m = (Z e d 104 0 [.ref 4, .int (iI x5), .int (iI 0)] [] m).bind (ZK e (d + 1) 91 108 [.ref 191, u1, .int (iI x2), .int (iI x3), .int (iI x4), .int (iI x5), .int (iI xs0), u7, u8] [.ref 194] m) := (s_is_6 cat_i p_91_89).trans <| (s_al_0 p_91_91).trans <| (s_getr p_91_92 hs_191 (by decide) rfl).trans <| (s_al_0 p_91_95).trans <| (s_getr p_91_96 hs_191 (by decide) rfl).trans <| (s_getr p_91_99 hs_1 (by decide) rfl).trans <| (s_il_5 p_91_102).trans <| (s_const p_91_104).trans <| (s_cv2 (Lc := [.ref 4, .int (iI x5), .int (iI 0)]) p_91_105 (by decide) (by decide) (zM_of zq_104) ⟨Nat.le_of_ble_eq_true rfl, Nat.le_of_ble_eq_true rfl⟩ rfl (m_rc hs_4 ⟨rfl, by decide⟩))
theorem b_91_20 {x1 : Int} {u2 u3 u4 u5 u6 u7 u8 : Value} : Z e (d + 1) 91 20 [.ref 191, .int (iI x1), u2, u3, u4, u5, u6, u7, u8] [] m = (Z e d 104 0 [.ref 16, .int (iI x1), .int (iI 2)] [] m).bind (ZK e (d + 1) 91 32 [.ref 191, .int (iI x1), u2, u3, u4, u5, u6, u7, u8] [] m) := (s_al_0 p_91_20).trans <| (s_getr p_91_21 hs_191 (by decide) rfl).trans <| (s_getr p_91_24 hs_1 (by decide) rfl).trans <| (s_il_1 p_91_27).trans <| (s_const p_91_28).trans <| (s_cv2 (Lc := [.ref 16, .int (iI x1), .int (iI 2)]) p_91_29 (by decide) (by decide) (zM_of zq_104) ⟨Nat.le_of_ble_eq_true rfl, Nat.le_of_ble_eq_true rfl⟩ rfl (m_rc hs_16 ⟨rfl, by decide⟩))
theorem b_91_108 {x2 : Int} {x3 : Int} {x4 : Int} {x5 : Int} {x6 : Int} {xs0 : Int} {u1 u7 u8 : Value} : Z e (d + 1) 91 108 [.ref 191, u1, .int (iI x2), .int (iI x3), .int (iI x4), .int (iI x5), .int (iI x6), u7, u8] [.int (iI xs0), .ref 194] m = ck (0 ≤ (wr xs0) ∧ (wr xs0) < 100) ((Z e d 127 0 [.ref 1, .int (iI x5), .int (iI 4)] [] m).bind (ZK e (d + 1) 91 121 [.ref 191, u1, .int (iI x2), .int (iI x3), .int (iI x4), .int (iI x5), .int (iI x6), .int (iI (m 194 (wr xs0))), u8] [] m)) := (s_ald 100 p_91_108 hs_194 rfl (by decide)).trans <| ck_cg fun k1 => (s_is_7 cat_i p_91_109).trans <| (s_al_0 p_91_111).trans <| (s_getr p_91_112 hs_191 (by decide) rfl).trans <| (s_il_5 p_91_115).trans <| (s_const p_91_117).trans <| (s_cv2 (Lc := [.ref 1, .int (iI x5), .int (iI 4)]) p_91_118 (by decide) (by decide) (zM_of zq_127) ⟨Nat.le_of_ble_eq_true rfl, Nat.le_of_ble_eq_true rfl⟩ rfl (m_rc hs_1 ⟨rfl, by decide⟩))
theorem b_91_32 {x1 : Int} {xs0 : Int} {u2 u3 u4 u5 u6 u7 u8 : Value} : Z e (d + 1) 91 32 [.ref 191, .int (iI x1), u2, u3, u4, u5, u6, u7, u8] [.int (iI xs0)] m = (Z e d 104 0 [.ref 16, .int (iI x1), .int (iI 1)] [] m).bind (ZK e (d + 1) 91 45 [.ref 191, .int (iI x1), .int (iI xs0), u3, u4, u5, u6, u7, u8] [] m) := (s_is_2 cat_i p_91_32).trans <| (s_al_0 p_91_33).trans <| (s_getr p_91_34 hs_191 (by decide) rfl).trans <| (s_getr p_91_37 hs_1 (by decide) rfl).trans <| (s_il_1 p_91_40).trans <| (s_const p_91_41).trans <| (s_cv2 (Lc := [.ref 16, .int (iI x1), .int (iI 1)]) p_91_42 (by decide) (by decide) (zM_of zq_104) ⟨Nat.le_of_ble_eq_true rfl, Nat.le_of_ble_eq_true rfl⟩ rfl (m_rc hs_16 ⟨rfl, by decide⟩))
theorem b_91_121 {x2 : Int} {x3 : Int} {x4 : Int} {x5 : Int} {x6 : Int} {x7 : Int} {xs0 : Int} {u1 u8 : Value} : Z e (d + 1) 91 121 [.ref 191, u1, .int (iI x2), .int (iI x3), .int (iI x4), .int (iI x5), .int (iI x6), .int (iI x7), u8] [.int (iI xs0)] m = Z e (d + 1) 91 61 [.ref 191, u1, .int (iI x2), .int (iI x3), .int (iI (if ((¬ (wr xs0) = 0) ∧ (((wr x2) = 0) ∨ ((wr x2) = (wr x6)))) ∧ ((¬ (wr x7) = (-3)) ∧ ((wr x7) ≤ (wr (x6 * x3)))) then (jor x4 (jshl 1 x5)) else x4)), .int (iI (x5 + 1)), .int (iI x6), .int (iI x7), .int (iI (if (¬ (wr xs0) = 0) ∧ (((wr x2) = 0) ∨ ((wr x2) = (wr x6))) then 1 else 0))] [] m := Eq.trans (Eq.trans (Eq.trans (s_z_eq_f p_91_121 rfl rfl) <| Eq.trans (ite_cg ((s_il_2 p_91_124).trans <| Eq.trans (s_z_eq_t p_91_125 rfl rfl) <| Eq.trans (ite_cg rfl ((s_il_2 p_91_128).trans <| (s_il_6 p_91_129).trans <| (s_c_ne_f p_91_131 rfl rfl rfl))) co_or) rfl) co_and) <| Eq.trans (ite_cg ((s_const p_91_134).trans <| (s_goto p_91_135 rfl).trans <| rfl) ((s_const p_91_138).trans <| rfl)) (phi1 (fun z0 => Z e (d + 1) 91 139 [.ref 191, u1, .int (iI x2), .int (iI x3), .int (iI x4), .int (iI x5), .int (iI x6), .int (iI x7), u8] [.int (iI z0)] m))) <| (s_is_8 cat_i p_91_139).trans <| (s_il_8 p_91_141).trans <| Eq.trans (Eq.trans (Eq.trans (s_beq_f p_91_143 rfl) <| Eq.trans (ite_cg ((s_il_7 p_91_146).trans <| (s_bip p_91_148 rfl).trans <| Eq.trans (s_c_eq_f p_91_150 rfl rfl wl_m3) <| Eq.trans (ite_cg ((s_il_7 p_91_153).trans <| (s_il_6 p_91_155).trans <| (s_il_3 p_91_157).trans <| (s_imul p_91_158).trans <| (s_c_gt_f p_91_159 rfl rfl rfl)) rfl) co_and) rfl) co_and) <| Eq.trans (ite_cg ((s_il_4 p_91_162).trans <| (s_const p_91_164).trans <| (s_il_5 p_91_165).trans <| (s_ishl p_91_167).trans <| (s_ior p_91_168).trans <| (s_is_4 cat_i p_91_169).trans <| rfl) (rfl)) (phi1 (fun z0 => Z e (d + 1) 91 171 [.ref 191, u1, .int (iI x2), .int (iI x3), .int (iI z0), .int (iI x5), .int (iI x6), .int (iI x7), .int (iI (if (¬ (wr xs0) = 0) ∧ (((wr x2) = 0) ∨ ((wr x2) = (wr x6))) then 1 else 0))] [] m))) <| (s_inc_5 cat_i p_91_171).trans <| (s_goto p_91_174 rfl).trans <| rfl
theorem b_91_45 {x2 : Int} {xs0 : Int} {u1 u3 u4 u5 u6 u7 u8 : Value} : Z e (d + 1) 91 45 [.ref 191, u1, .int (iI x2), u3, u4, u5, u6, u7, u8] [.int (iI xs0)] m = Z e (d + 1) 91 61 [.ref 191, u1, .int (iI x2), .int (iI (jrem ((xs0 + 24) - 20) 24)), .int (iI 0), .int (iI 0), u6, u7, u8] [] m := (s_bip p_91_45 rfl).trans <| (s_iadd p_91_47).trans <| (s_bip p_91_48 rfl).trans <| (s_isub p_91_50).trans <| (s_bip p_91_51 rfl).trans <| (s_iremc p_91_53 (by decide)).trans <| (s_is_3 cat_i p_91_54).trans <| (s_const p_91_55).trans <| (s_is_4 cat_i p_91_56).trans <| (s_const p_91_58).trans <| (s_is_5 cat_i p_91_59).trans <| rfl
-- Runners.mapAims
theorem p_94_0 : zP1 94 0 = some (.iconst 0, 0, 0, 0) := zp_l zq_94 rfl
theorem p_94_1 : zP1 94 1 = some (.istore_n 1, 0, 0, 0) := zp_l zq_94 rfl
theorem p_94_2 : zP1 94 2 = some (.iload_n 1, 0, 0, 0) := zp_l zq_94 rfl
theorem p_94_3 : zP1 94 3 = some (.aload_n 0, 0, 0, 0) := zp_l zq_94 rfl
theorem p_94_4 : zP1 94 4 = some (.getfield 16, 6, 0, 0) := zp_r zq_94 rfl
theorem p_94_7 : zP1 94 7 = some (.getfield 37, 9, 5, 0) := zp_r zq_94 rfl
theorem p_94_10 : zP1 94 10 = some (.getfield 41, 7, 3, 0) := zp_r zq_94 rfl
theorem p_94_13 : zP1 94 13 = some (.if_icmp .ge 48, 0, 0, 0) := zp_l zq_94 rfl
theorem p_94_16 : zP1 94 16 = some (.iload_n 1, 0, 0, 0) := zp_l zq_94 rfl
theorem p_94_17 : zP1 94 17 = some (.bipush 16, 0, 0, 0) := zp_l zq_94 rfl
theorem p_94_19 : zP1 94 19 = some (.if_icmp .ge 42, 0, 0, 0) := zp_l zq_94 rfl
theorem p_94_22 : zP1 94 22 = some (.aload_n 0, 0, 0, 0) := zp_l zq_94 rfl
theorem p_94_23 : zP1 94 23 = some (.getfield 16, 6, 0, 0) := zp_r zq_94 rfl
theorem p_94_26 : zP1 94 26 = some (.getfield 37, 9, 5, 0) := zp_r zq_94 rfl
theorem p_94_29 : zP1 94 29 = some (.iload_n 1, 0, 0, 0) := zp_l zq_94 rfl
theorem p_94_30 : zP1 94 30 = some (.iconst 4, 0, 0, 0) := zp_l zq_94 rfl
theorem p_94_31 : zP1 94 31 = some (.invokevirtual 53, 104, 2, 7) := zp_r zq_94 rfl
theorem p_94_34 : zP1 94 34 = some (.istore_n 2, 0, 0, 0) := zp_l zq_94 rfl
theorem p_94_35 : zP1 94 35 = some (.iload_n 2, 0, 0, 0) := zp_l zq_94 rfl
theorem p_94_36 : zP1 94 36 = some (.bipush (-3), 0, 0, 0) := zp_l zq_94 rfl
theorem p_94_38 : zP1 94 38 = some (.if_icmp .eq 17, 0, 0, 0) := zp_l zq_94 rfl
theorem p_94_41 : zP1 94 41 = some (.aload_n 0, 0, 0, 0) := zp_l zq_94 rfl
theorem p_94_42 : zP1 94 42 = some (.getfield 20, 6, 1, 0) := zp_r zq_94 rfl
theorem p_94_45 : zP1 94 45 = some (.iload_n 2, 0, 0, 0) := zp_l zq_94 rfl
theorem p_94_46 : zP1 94 46 = some (.aload_n 0, 0, 0, 0) := zp_l zq_94 rfl
theorem p_94_47 : zP1 94 47 = some (.getfield 11, 6, 3, 0) := zp_r zq_94 rfl
theorem p_94_50 : zP1 94 50 = some (.iload_n 1, 0, 0, 0) := zp_l zq_94 rfl
theorem p_94_51 : zP1 94 51 = some (.aaload, 0, 0, 0) := zp_l zq_94 rfl
theorem p_94_52 : zP1 94 52 = some (.invokevirtual 57, 88, 2, 5) := zp_r zq_94 rfl
theorem p_94_55 : zP1 94 55 = some (.iinc 1 1, 0, 0, 0) := zp_l zq_94 rfl
theorem p_94_58 : zP1 94 58 = some (.goto (-56), 0, 0, 0) := zp_l zq_94 rfl
theorem p_94_61 : zP1 94 61 = some (.return_, 0, 0, 0) := zp_l zq_94 rfl
theorem b_94_0 : Z e (d + 1) 94 0 [.ref 208, .retAddr 0, .retAddr 0] [] m = Z e (d + 1) 94 2 [.ref 208, .int (iI 0), .retAddr 0] [] m := (s_const p_94_0).trans <| (s_is_1 cat_r p_94_1).trans <| rfl
theorem b_94_2 {x1 : Int} {u2 : Value} : Z e (d + 1) 94 2 [.ref 208, .int (iI x1), u2] [] m = (if ((wr x1) < (wr (m 4 3))) ∧ ((wr x1) < 16) then (Z e d 104 0 [.ref 4, .int (iI x1), .int (iI 4)] [] m).bind (ZK e (d + 1) 94 34 [.ref 208, .int (iI x1), u2] [] m) else rn m) := (s_il_1 p_94_2).trans <| (s_al_0 p_94_3).trans <| (s_getr p_94_4 hs_208 (by decide) rfl).trans <| (s_getr p_94_7 hs_1 (by decide) rfl).trans <| (s_get p_94_10 hs_4 (by decide) rfl).trans <| Eq.trans (Eq.trans (s_c_ge_f p_94_13 rfl rfl rfl) <| Eq.trans (ite_cg ((s_il_1 p_94_16).trans <| (s_bip p_94_17 rfl).trans <| (s_c_ge_f p_94_19 rfl rfl wl_16)) rfl) co_and) <| ite_cg ((s_al_0 p_94_22).trans <| (s_getr p_94_23 hs_208 (by decide) rfl).trans <| (s_getr p_94_26 hs_1 (by decide) rfl).trans <| (s_il_1 p_94_29).trans <| (s_const p_94_30).trans <| (s_cv2 (Lc := [.ref 4, .int (iI x1), .int (iI 4)]) p_94_31 (by decide) (by decide) (zM_of zq_104) ⟨Nat.le_of_ble_eq_true rfl, Nat.le_of_ble_eq_true rfl⟩ rfl (m_rc hs_4 ⟨rfl, by decide⟩))) ((s_retv p_94_61 (zM_of zq_94)))
theorem b_94_34 {x1 : Int} {xs0 : Int} {u2 : Value} : Z e (d + 1) 94 34 [.ref 208, .int (iI x1), u2] [.int (iI xs0)] m = (if ¬ (wr xs0) = (-3) then ck (0 ≤ (wr x1) ∧ (wr x1) < 16) ((Z e d 88 0 [.ref 191, .int (iI xs0), .ref (210 + (wr x1).toNat), .retAddr 0, .retAddr 0, .retAddr 0, .retAddr 0, .retAddr 0] [] m).bind (ZK e (d + 1) 94 55 [.ref 208, .int (iI x1), .int (iI xs0)] [] m)) else Z e (d + 1) 94 55 [.ref 208, .int (iI x1), .int (iI xs0)] [] m) := (s_is_2 cat_i p_94_34).trans <| (s_il_2 p_94_35).trans <| (s_bip p_94_36 rfl).trans <| Eq.trans ((s_c_eq_f p_94_38 rfl rfl wl_m3)) <| ite_cg ((s_al_0 p_94_41).trans <| (s_getr p_94_42 hs_208 (by decide) rfl).trans <| (s_il_2 p_94_45).trans <| (s_al_0 p_94_46).trans <| (s_getr p_94_47 hs_208 (by decide) rfl).trans <| (s_il_1 p_94_50).trans <| (s_aald 16 p_94_51 hs_209 rfl ⟨by decide, by decide⟩ ar_209).trans <| ck_cg fun k2 => (s_cv2 (Lc := [.ref 191, .int (iI xs0), .ref (210 + (wr x1).toNat), .retAddr 0, .retAddr 0, .retAddr 0, .retAddr 0, .retAddr 0]) p_94_52 (by decide) (by decide) (zM_of zq_88) ⟨Nat.le_of_ble_eq_true rfl, Nat.le_of_ble_eq_true rfl⟩ rfl (m_rc hs_191 ⟨rfl, by decide⟩))) (rfl)
theorem b_94_55 {x1 : Int} {u2 : Value} : Z e (d + 1) 94 55 [.ref 208, .int (iI x1), u2] [] m = Z e (d + 1) 94 2 [.ref 208, .int (iI (x1 + 1)), u2] [] m := (s_inc_1 cat_r p_94_55).trans <| (s_goto p_94_58 rfl).trans <| rfl
-- Runners.nextCell
theorem p_96_0 : zP1 96 0 = some (.aload_n 0, 0, 0, 0) := zp_l zq_96 rfl
theorem p_96_1 : zP1 96 1 = some (.getfield 11, 6, 3, 0) := zp_r zq_96 rfl
theorem p_96_4 : zP1 96 4 = some (.iload_n 1, 0, 0, 0) := zp_l zq_96 rfl
theorem p_96_5 : zP1 96 5 = some (.aaload, 0, 0, 0) := zp_l zq_96 rfl
theorem p_96_6 : zP1 96 6 = some (.astore_n 2, 0, 0, 0) := zp_l zq_96 rfl
theorem p_96_7 : zP1 96 7 = some (.aload_n 0, 0, 0, 0) := zp_l zq_96 rfl
theorem p_96_8 : zP1 96 8 = some (.getfield 16, 6, 0, 0) := zp_r zq_96 rfl
theorem p_96_11 : zP1 96 11 = some (.getfield 37, 9, 5, 0) := zp_r zq_96 rfl
theorem p_96_14 : zP1 96 14 = some (.iload_n 1, 0, 0, 0) := zp_l zq_96 rfl
theorem p_96_15 : zP1 96 15 = some (.iconst 0, 0, 0, 0) := zp_l zq_96 rfl
theorem p_96_16 : zP1 96 16 = some (.invokevirtual 53, 104, 2, 7) := zp_r zq_96 rfl
theorem p_96_19 : zP1 96 19 = some (.istore_n 3, 0, 0, 0) := zp_l zq_96 rfl
theorem p_96_20 : zP1 96 20 = some (.iload_n 3, 0, 0, 0) := zp_l zq_96 rfl
theorem p_96_21 : zP1 96 21 = some (.invokestatic 75, 194, 1, 0) := zp_r zq_96 rfl
theorem p_96_24 : zP1 96 24 = some (.ifCond .ne 10, 0, 0, 0) := zp_l zq_96 rfl
theorem p_96_27 : zP1 96 27 = some (.aload_n 2, 0, 0, 0) := zp_l zq_96 rfl
theorem p_96_28 : zP1 96 28 = some (.iload_n 3, 0, 0, 0) := zp_l zq_96 rfl
theorem p_96_29 : zP1 96 29 = some (.iaload, 0, 0, 0) := zp_l zq_96 rfl
theorem p_96_30 : zP1 96 30 = some (.iconst 1, 0, 0, 0) := zp_l zq_96 rfl
theorem p_96_31 : zP1 96 31 = some (.if_icmp .ge 6, 0, 0, 0) := zp_l zq_96 rfl
theorem p_96_34 : zP1 96 34 = some (.bipush (-3), 0, 0, 0) := zp_l zq_96 rfl
theorem p_96_36 : zP1 96 36 = some (.ireturn, 0, 0, 0) := zp_l zq_96 rfl
theorem p_96_37 : zP1 96 37 = some (.iconst 4, 0, 0, 0) := zp_l zq_96 rfl
theorem p_96_38 : zP1 96 38 = some (.iload_n 3, 0, 0, 0) := zp_l zq_96 rfl
theorem p_96_39 : zP1 96 39 = some (.imul, 0, 0, 0) := zp_l zq_96 rfl
theorem p_96_40 : zP1 96 40 = some (.istore 4, 0, 0, 0) := zp_l zq_96 rfl
theorem p_96_42 : zP1 96 42 = some (.iload 4, 0, 0, 0) := zp_l zq_96 rfl
theorem p_96_44 : zP1 96 44 = some (.iconst 4, 0, 0, 0) := zp_l zq_96 rfl
theorem p_96_45 : zP1 96 45 = some (.iload_n 3, 0, 0, 0) := zp_l zq_96 rfl
theorem p_96_46 : zP1 96 46 = some (.imul, 0, 0, 0) := zp_l zq_96 rfl
theorem p_96_47 : zP1 96 47 = some (.iconst 4, 0, 0, 0) := zp_l zq_96 rfl
theorem p_96_48 : zP1 96 48 = some (.iadd, 0, 0, 0) := zp_l zq_96 rfl
theorem p_96_49 : zP1 96 49 = some (.if_icmp .ge 43, 0, 0, 0) := zp_l zq_96 rfl
theorem p_96_52 : zP1 96 52 = some (.aload_n 0, 0, 0, 0) := zp_l zq_96 rfl
theorem p_96_53 : zP1 96 53 = some (.getfield 20, 6, 1, 0) := zp_r zq_96 rfl
theorem p_96_56 : zP1 96 56 = some (.getfield 78, 5, 1, 0) := zp_r zq_96 rfl
theorem p_96_59 : zP1 96 59 = some (.iload 4, 0, 0, 0) := zp_l zq_96 rfl
theorem p_96_61 : zP1 96 61 = some (.iaload, 0, 0, 0) := zp_l zq_96 rfl
theorem p_96_62 : zP1 96 62 = some (.istore 5, 0, 0, 0) := zp_l zq_96 rfl
theorem p_96_64 : zP1 96 64 = some (.iload 5, 0, 0, 0) := zp_l zq_96 rfl
theorem p_96_66 : zP1 96 66 = some (.bipush (-3), 0, 0, 0) := zp_l zq_96 rfl
theorem p_96_68 : zP1 96 68 = some (.if_icmp .eq 18, 0, 0, 0) := zp_l zq_96 rfl
theorem p_96_71 : zP1 96 71 = some (.aload_n 2, 0, 0, 0) := zp_l zq_96 rfl
theorem p_96_72 : zP1 96 72 = some (.iload 5, 0, 0, 0) := zp_l zq_96 rfl
theorem p_96_74 : zP1 96 74 = some (.iaload, 0, 0, 0) := zp_l zq_96 rfl
theorem p_96_75 : zP1 96 75 = some (.aload_n 2, 0, 0, 0) := zp_l zq_96 rfl
theorem p_96_76 : zP1 96 76 = some (.iload_n 3, 0, 0, 0) := zp_l zq_96 rfl
theorem p_96_77 : zP1 96 77 = some (.iaload, 0, 0, 0) := zp_l zq_96 rfl
theorem p_96_78 : zP1 96 78 = some (.iconst 1, 0, 0, 0) := zp_l zq_96 rfl
theorem p_96_79 : zP1 96 79 = some (.isub, 0, 0, 0) := zp_l zq_96 rfl
theorem p_96_80 : zP1 96 80 = some (.if_icmp .ne 6, 0, 0, 0) := zp_l zq_96 rfl
theorem p_96_83 : zP1 96 83 = some (.iload 5, 0, 0, 0) := zp_l zq_96 rfl
theorem p_96_85 : zP1 96 85 = some (.ireturn, 0, 0, 0) := zp_l zq_96 rfl
theorem p_96_86 : zP1 96 86 = some (.iinc 4 1, 0, 0, 0) := zp_l zq_96 rfl
theorem p_96_89 : zP1 96 89 = some (.goto (-47), 0, 0, 0) := zp_l zq_96 rfl
theorem p_96_92 : zP1 96 92 = some (.bipush (-3), 0, 0, 0) := zp_l zq_96 rfl
theorem p_96_94 : zP1 96 94 = some (.ireturn, 0, 0, 0) := zp_l zq_96 rfl
theorem b_96_0 {x1 : Int} : Z e (d + 1) 96 0 [.ref 208, .int (iI x1), .retAddr 0, .retAddr 0, .retAddr 0, .retAddr 0] [] m = ck (0 ≤ (wr x1) ∧ (wr x1) < 16) ((Z e d 104 0 [.ref 4, .int (iI x1), .int (iI 0)] [] m).bind (ZK e (d + 1) 96 19 [.ref 208, .int (iI x1), .ref (210 + (wr x1).toNat), .retAddr 0, .retAddr 0, .retAddr 0] [] m)) := (s_al_0 p_96_0).trans <| (s_getr p_96_1 hs_208 (by decide) rfl).trans <| (s_il_1 p_96_4).trans <| (s_aald 16 p_96_5 hs_209 rfl ⟨by decide, by decide⟩ ar_209).trans <| ck_cg fun k1 => (s_as_2 cat_i p_96_6).trans <| (s_al_0 p_96_7).trans <| (s_getr p_96_8 hs_208 (by decide) rfl).trans <| (s_getr p_96_11 hs_1 (by decide) rfl).trans <| (s_il_1 p_96_14).trans <| (s_const p_96_15).trans <| (s_cv2 (Lc := [.ref 4, .int (iI x1), .int (iI 0)]) p_96_16 (by decide) (by decide) (zM_of zq_104) ⟨Nat.le_of_ble_eq_true rfl, Nat.le_of_ble_eq_true rfl⟩ rfl (m_rc hs_4 ⟨rfl, by decide⟩))
theorem b_96_42 {a2 : Nat} {x3 : Int} {x4 : Int} {u1 u5 : Value} (hA2 : zArr a2 100) : Z e (d + 1) 96 42 [.ref 208, u1, .ref a2, .int (iI x3), .int (iI x4), u5] [] m = (if (wr x4) < (wr ((4 * x3) + 4)) then ck (0 ≤ (wr x4) ∧ (wr x4) < 400) (ck ((¬ (wr (m 192 (wr x4))) = (-3)) → ((0 ≤ (wr (m 192 (wr x4))) ∧ (wr (m 192 (wr x4))) < 100) ∧ (0 ≤ (wr x3) ∧ (wr x3) < 100))) (if (¬ (wr (m 192 (wr x4))) = (-3)) ∧ ((wr (m a2 (wr (m 192 (wr x4))))) = (wr ((m a2 (wr x3)) - 1))) then ri (m 192 (wr x4)) m else Z e (d + 1) 96 42 [.ref 208, u1, .ref a2, .int (iI x3), .int (iI (x4 + 1)), .int (iI (m 192 (wr x4)))] [] m)) else ri (-3) m) := (s_il_4 p_96_42).trans <| (s_const p_96_44).trans <| (s_il_3 p_96_45).trans <| (s_imul p_96_46).trans <| (s_const p_96_47).trans <| (s_iadd p_96_48).trans <| Eq.trans ((s_c_ge_f p_96_49 rfl rfl rfl)) <| ite_cg ((s_al_0 p_96_52).trans <| (s_getr p_96_53 hs_208 (by decide) rfl).trans <| (s_getr p_96_56 hs_191 (by decide) rfl).trans <| (s_il_4 p_96_59).trans <| (s_ald 400 p_96_61 hs_192 rfl (by decide)).trans <| ck_cg fun k1 => (s_is_5 cat_i p_96_62).trans <| (s_il_5 p_96_64).trans <| (s_bip p_96_66 rfl).trans <| Eq.trans (Eq.trans (s_c_eq_f p_96_68 rfl rfl wl_m3) <| Eq.trans (ite_cg ((s_al_2 p_96_71).trans <| (s_il_5 p_96_72).trans <| (s_ald 100 p_96_74 (hA2).1 rfl (hA2).2).trans <| Eq.trans (ck_cg fun k2 => (s_al_2 p_96_75).trans <| (s_il_3 p_96_76).trans <| (s_ald 100 p_96_77 (hA2).1 rfl (hA2).2).trans <| ck_cg fun k3 => (s_const p_96_78).trans <| (s_isub p_96_79).trans <| (s_c_ne_f p_96_80 rfl rfl rfl)) ck_ck) rfl) <| Eq.trans ck_a <| ck_cg fun _ => co_and) <| ck_cg fun _ => ite_cg ((s_il_5 p_96_83).trans <| (s_reti p_96_85 (zM_of zq_96))) ((s_inc_4 cat_i p_96_86).trans <| (s_goto p_96_89 rfl).trans <| rfl)) ((s_bip p_96_92 rfl).trans <| (s_reti p_96_94 (zM_of zq_96)))
theorem b_96_19 {a2 : Nat} {xs0 : Int} {u1 u3 u4 u5 : Value} (hA2 : zArr a2 100) : Z e (d + 1) 96 19 [.ref 208, u1, .ref a2, u3, u4, u5] [.int (iI xs0)] m = ck ((¬ (((wr xs0) < 0) ∨ (100 ≤ (wr xs0)))) → (0 ≤ (wr xs0) ∧ (wr xs0) < 100)) (if (((wr xs0) < 0) ∨ (100 ≤ (wr xs0))) ∨ ((wr (m a2 (wr xs0))) < 1) then ri (-3) m else Z e (d + 1) 96 42 [.ref 208, u1, .ref a2, .int (iI xs0), .int (iI (4 * xs0)), u5] [] m) := (s_is_3 cat_r p_96_19).trans <| (s_il_3 p_96_20).trans <| (s_cs1 (Lc := [.int (iI xs0)]) p_96_21 (by decide) (zM_of zq_194) ⟨Nat.le_of_ble_eq_true rfl, Nat.le_of_ble_eq_true rfl⟩ rfl).trans <| (bd b_194_0).trans <| ri_k.trans <| Eq.trans (Eq.trans (s_bne_t p_96_24 rfl) <| Eq.trans (ite_cg rfl ((s_al_2 p_96_27).trans <| (s_il_3 p_96_28).trans <| (s_ald 100 p_96_29 (hA2).1 rfl (hA2).2).trans <| ck_cg fun k1 => (s_const p_96_30).trans <| (s_c_ge_f p_96_31 rfl rfl wl_1))) <| Eq.trans ck_b <| ck_cg fun _ => co_or) <| ck_cg fun _ => ite_cg ((s_bip p_96_34 rfl).trans <| (s_reti p_96_36 (zM_of zq_96))) ((s_const p_96_37).trans <| (s_il_3 p_96_38).trans <| (s_imul p_96_39).trans <| (s_is_4 cat_i p_96_40).trans <| rfl)
end BK
