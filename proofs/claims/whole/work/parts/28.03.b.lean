/-! Equations of blocks. By program. -/
section BK
variable {e : List Int32 × Value} {d : Nat} {m : zMm}
-- Runners.lowest
theorem p_98_0 : zP1 98 0 = some (.iconst 0, 0, 0, 0) := zp_l zq_98 rfl
theorem p_98_1 : zP1 98 1 = some (.istore_n 1, 0, 0, 0) := zp_l zq_98 rfl
theorem p_98_2 : zP1 98 2 = some (.iload_n 1, 0, 0, 0) := zp_l zq_98 rfl
theorem p_98_3 : zP1 98 3 = some (.bipush 8, 0, 0, 0) := zp_l zq_98 rfl
theorem p_98_5 : zP1 98 5 = some (.if_icmp .ge 20, 0, 0, 0) := zp_l zq_98 rfl
theorem p_98_8 : zP1 98 8 = some (.iload_n 0, 0, 0, 0) := zp_l zq_98 rfl
theorem p_98_9 : zP1 98 9 = some (.iload_n 1, 0, 0, 0) := zp_l zq_98 rfl
theorem p_98_10 : zP1 98 10 = some (.ishr, 0, 0, 0) := zp_l zq_98 rfl
theorem p_98_11 : zP1 98 11 = some (.iconst 1, 0, 0, 0) := zp_l zq_98 rfl
theorem p_98_12 : zP1 98 12 = some (.iand, 0, 0, 0) := zp_l zq_98 rfl
theorem p_98_13 : zP1 98 13 = some (.iconst 1, 0, 0, 0) := zp_l zq_98 rfl
theorem p_98_14 : zP1 98 14 = some (.if_icmp .ne 5, 0, 0, 0) := zp_l zq_98 rfl
theorem p_98_17 : zP1 98 17 = some (.iload_n 1, 0, 0, 0) := zp_l zq_98 rfl
theorem p_98_18 : zP1 98 18 = some (.ireturn, 0, 0, 0) := zp_l zq_98 rfl
theorem p_98_19 : zP1 98 19 = some (.iinc 1 1, 0, 0, 0) := zp_l zq_98 rfl
theorem p_98_22 : zP1 98 22 = some (.goto (-20), 0, 0, 0) := zp_l zq_98 rfl
theorem p_98_25 : zP1 98 25 = some (.bipush (-3), 0, 0, 0) := zp_l zq_98 rfl
theorem p_98_27 : zP1 98 27 = some (.ireturn, 0, 0, 0) := zp_l zq_98 rfl
theorem b_98_0 {x0 : Int} : Z e d 98 0 [.int (iI x0), .retAddr 0] [] m = Z e d 98 2 [.int (iI x0), .int (iI 0)] [] m := (s_const p_98_0).trans <| (s_is_1 cat_i p_98_1).trans <| rfl
theorem b_98_2 {x0 : Int} {x1 : Int} : Z e d 98 2 [.int (iI x0), .int (iI x1)] [] m = (if (wr x1) < 8 then (if (jand (jshr x0 x1) 1) = 1 then ri x1 m else Z e d 98 2 [.int (iI x0), .int (iI (x1 + 1))] [] m) else ri (-3) m) := (s_il_1 p_98_2).trans <| (s_bip p_98_3 rfl).trans <| Eq.trans ((s_c_ge_f p_98_5 rfl rfl wl_8)) <| ite_cg ((s_il_0 p_98_8).trans <| (s_il_1 p_98_9).trans <| (s_ishr p_98_10).trans <| (s_const p_98_11).trans <| (s_iand p_98_12).trans <| (s_const p_98_13).trans <| Eq.trans ((s_c_ne_f p_98_14 rfl wr_jand wl_1)) <| ite_cg ((s_il_1 p_98_17).trans <| (s_reti p_98_18 (zM_of zq_98))) ((s_inc_1 cat_i p_98_19).trans <| (s_goto p_98_22 rfl).trans <| rfl)) ((s_bip p_98_25 rfl).trans <| (s_reti p_98_27 (zM_of zq_98)))
-- Runners.arrive
theorem p_97_0 : zP1 97 0 = some (.aload_n 0, 0, 0, 0) := zp_l zq_97 rfl
theorem p_97_1 : zP1 97 1 = some (.getfield 24, 6, 2, 0) := zp_r zq_97 rfl
theorem p_97_4 : zP1 97 4 = some (.iload_n 2, 0, 0, 0) := zp_l zq_97 rfl
theorem p_97_5 : zP1 97 5 = some (.aload_n 0, 0, 0, 0) := zp_l zq_97 rfl
theorem p_97_6 : zP1 97 6 = some (.getfield 16, 6, 0, 0) := zp_r zq_97 rfl
theorem p_97_9 : zP1 97 9 = some (.getfield 31, 9, 0, 0) := zp_r zq_97 rfl
theorem p_97_12 : zP1 97 12 = some (.bipush 24, 0, 0, 0) := zp_l zq_97 rfl
theorem p_97_14 : zP1 97 14 = some (.irem, 0, 0, 0) := zp_l zq_97 rfl
theorem p_97_15 : zP1 97 15 = some (.invokevirtual 82, 55, 2, 3) := zp_r zq_97 rfl
theorem p_97_18 : zP1 97 18 = some (.istore_n 3, 0, 0, 0) := zp_l zq_97 rfl
theorem p_97_19 : zP1 97 19 = some (.iload_n 3, 0, 0, 0) := zp_l zq_97 rfl
theorem p_97_20 : zP1 97 20 = some (.ifCond .eq 36, 0, 0, 0) := zp_l zq_97 rfl
theorem p_97_23 : zP1 97 23 = some (.aload_n 0, 0, 0, 0) := zp_l zq_97 rfl
theorem p_97_24 : zP1 97 24 = some (.getfield 16, 6, 0, 0) := zp_r zq_97 rfl
theorem p_97_27 : zP1 97 27 = some (.getfield 37, 9, 5, 0) := zp_r zq_97 rfl
theorem p_97_30 : zP1 97 30 = some (.iload_n 1, 0, 0, 0) := zp_l zq_97 rfl
theorem p_97_31 : zP1 97 31 = some (.iconst 5, 0, 0, 0) := zp_l zq_97 rfl
theorem p_97_32 : zP1 97 32 = some (.iload_n 3, 0, 0, 0) := zp_l zq_97 rfl
theorem p_97_33 : zP1 97 33 = some (.invokestatic 87, 98, 1, 0) := zp_r zq_97 rfl
theorem p_97_36 : zP1 97 36 = some (.invokevirtual 67, 105, 3, 7) := zp_r zq_97 rfl
theorem p_97_39 : zP1 97 39 = some (.aload_n 0, 0, 0, 0) := zp_l zq_97 rfl
theorem p_97_40 : zP1 97 40 = some (.getfield 16, 6, 0, 0) := zp_r zq_97 rfl
theorem p_97_43 : zP1 97 43 = some (.getfield 37, 9, 5, 0) := zp_r zq_97 rfl
theorem p_97_46 : zP1 97 46 = some (.iload_n 1, 0, 0, 0) := zp_l zq_97 rfl
theorem p_97_47 : zP1 97 47 = some (.iconst 4, 0, 0, 0) := zp_l zq_97 rfl
theorem p_97_48 : zP1 97 48 = some (.bipush (-3), 0, 0, 0) := zp_l zq_97 rfl
theorem p_97_50 : zP1 97 50 = some (.invokevirtual 67, 105, 3, 7) := zp_r zq_97 rfl
theorem p_97_53 : zP1 97 53 = some (.goto 47, 0, 0, 0) := zp_l zq_97 rfl
theorem p_97_56 : zP1 97 56 = some (.iload_n 2, 0, 0, 0) := zp_l zq_97 rfl
theorem p_97_57 : zP1 97 57 = some (.aload_n 0, 0, 0, 0) := zp_l zq_97 rfl
theorem p_97_58 : zP1 97 58 = some (.getfield 16, 6, 0, 0) := zp_r zq_97 rfl
theorem p_97_61 : zP1 97 61 = some (.getfield 37, 9, 5, 0) := zp_r zq_97 rfl
theorem p_97_64 : zP1 97 64 = some (.iload_n 1, 0, 0, 0) := zp_l zq_97 rfl
theorem p_97_65 : zP1 97 65 = some (.iconst 4, 0, 0, 0) := zp_l zq_97 rfl
theorem p_97_66 : zP1 97 66 = some (.invokevirtual 53, 104, 2, 7) := zp_r zq_97 rfl
theorem p_97_69 : zP1 97 69 = some (.if_icmp .ne 31, 0, 0, 0) := zp_l zq_97 rfl
theorem p_97_72 : zP1 97 72 = some (.aload_n 0, 0, 0, 0) := zp_l zq_97 rfl
theorem p_97_73 : zP1 97 73 = some (.getfield 16, 6, 0, 0) := zp_r zq_97 rfl
theorem p_97_76 : zP1 97 76 = some (.getfield 37, 9, 5, 0) := zp_r zq_97 rfl
theorem p_97_79 : zP1 97 79 = some (.iload_n 1, 0, 0, 0) := zp_l zq_97 rfl
theorem p_97_80 : zP1 97 80 = some (.bipush 6, 0, 0, 0) := zp_l zq_97 rfl
theorem p_97_82 : zP1 97 82 = some (.iconst 1, 0, 0, 0) := zp_l zq_97 rfl
theorem p_97_83 : zP1 97 83 = some (.invokevirtual 67, 105, 3, 7) := zp_r zq_97 rfl
theorem p_97_86 : zP1 97 86 = some (.aload_n 0, 0, 0, 0) := zp_l zq_97 rfl
theorem p_97_87 : zP1 97 87 = some (.getfield 16, 6, 0, 0) := zp_r zq_97 rfl
theorem p_97_90 : zP1 97 90 = some (.getfield 37, 9, 5, 0) := zp_r zq_97 rfl
theorem p_97_93 : zP1 97 93 = some (.iload_n 1, 0, 0, 0) := zp_l zq_97 rfl
theorem p_97_94 : zP1 97 94 = some (.iconst 4, 0, 0, 0) := zp_l zq_97 rfl
theorem p_97_95 : zP1 97 95 = some (.bipush (-3), 0, 0, 0) := zp_l zq_97 rfl
theorem p_97_97 : zP1 97 97 = some (.invokevirtual 67, 105, 3, 7) := zp_r zq_97 rfl
theorem p_97_100 : zP1 97 100 = some (.return_, 0, 0, 0) := zp_l zq_97 rfl
theorem b_97_0 {x1 : Int} {x2 : Int} : Z e (d + 1) 97 0 [.ref 208, .int (iI x1), .int (iI x2), .retAddr 0] [] m = (Z e d 55 0 [.ref 206, .int (iI x2), .int (iI (jrem (m 1 0) 24)), .retAddr 0, .retAddr 0, .retAddr 0] [] m).bind (ZK e (d + 1) 97 18 [.ref 208, .int (iI x1), .int (iI x2), .retAddr 0] [] m) := (s_al_0 p_97_0).trans <| (s_getr p_97_1 hs_208 (by decide) rfl).trans <| (s_il_2 p_97_4).trans <| (s_al_0 p_97_5).trans <| (s_getr p_97_6 hs_208 (by decide) rfl).trans <| (s_get p_97_9 hs_1 (by decide) rfl).trans <| (s_bip p_97_12 rfl).trans <| (s_iremc p_97_14 (by decide)).trans <| (s_cv2 (Lc := [.ref 206, .int (iI x2), .int (iI (jrem (m 1 0) 24)), .retAddr 0, .retAddr 0, .retAddr 0]) p_97_15 (by decide) (by decide) (zM_of zq_55) ⟨Nat.le_of_ble_eq_true rfl, Nat.le_of_ble_eq_true rfl⟩ rfl (m_rc hs_206 ⟨rfl, by decide⟩))
theorem b_97_18 {x1 : Int} {x2 : Int} {xs0 : Int} {u3 : Value} : Z e (d + 1) 97 18 [.ref 208, .int (iI x1), .int (iI x2), u3] [.int (iI xs0)] m = (if ¬ (wr xs0) = 0 then (Z e d 98 0 [.int (iI xs0), .retAddr 0] [] m).bind (ZK e (d + 1) 97 36 [.ref 208, .int (iI x1), .int (iI x2), .int (iI xs0)] [.int (iI 5), .int (iI x1), .ref 4] m) else (Z e d 104 0 [.ref 4, .int (iI x1), .int (iI 4)] [] m).bind (ZK e (d + 1) 97 69 [.ref 208, .int (iI x1), .int (iI x2), .int (iI xs0)] [.int (iI x2)] m)) := (s_is_3 cat_i p_97_18).trans <| (s_il_3 p_97_19).trans <| Eq.trans ((s_z_eq_f p_97_20 rfl rfl)) <| ite_cg ((s_al_0 p_97_23).trans <| (s_getr p_97_24 hs_208 (by decide) rfl).trans <| (s_getr p_97_27 hs_1 (by decide) rfl).trans <| (s_il_1 p_97_30).trans <| (s_const p_97_31).trans <| (s_il_3 p_97_32).trans <| (s_cs1 (Lc := [.int (iI xs0), .retAddr 0]) p_97_33 (by decide) (zM_of zq_98) ⟨Nat.le_of_ble_eq_true rfl, Nat.le_of_ble_eq_true rfl⟩ rfl)) ((s_il_2 p_97_56).trans <| (s_al_0 p_97_57).trans <| (s_getr p_97_58 hs_208 (by decide) rfl).trans <| (s_getr p_97_61 hs_1 (by decide) rfl).trans <| (s_il_1 p_97_64).trans <| (s_const p_97_65).trans <| (s_cv2 (Lc := [.ref 4, .int (iI x1), .int (iI 4)]) p_97_66 (by decide) (by decide) (zM_of zq_104) ⟨Nat.le_of_ble_eq_true rfl, Nat.le_of_ble_eq_true rfl⟩ rfl (m_rc hs_4 ⟨rfl, by decide⟩)))
theorem b_97_36 {x1 : Int} {xs0 : Int} {xs1 : Int} {xs2 : Int} {u2 u3 : Value} : Z e (d + 1) 97 36 [.ref 208, .int (iI x1), u2, u3] [.int (iI xs0), .int (iI xs1), .int (iI xs2), .ref 4] m = (Z e d 105 0 [.ref 4, .int (iI xs2), .int (iI xs1), .int (iI xs0)] [] m).bind (ZK e (d + 1) 97 39 [.ref 208, .int (iI x1), u2, u3] [] m) := (s_cv3 (Lc := [.ref 4, .int (iI xs2), .int (iI xs1), .int (iI xs0)]) p_97_36 (by decide) (by decide) (zM_of zq_105) ⟨Nat.le_of_ble_eq_true rfl, Nat.le_of_ble_eq_true rfl⟩ rfl (m_rc hs_4 ⟨rfl, by decide⟩))
theorem b_97_69 {x1 : Int} {xs0 : Int} {xs1 : Int} {u2 u3 : Value} : Z e (d + 1) 97 69 [.ref 208, .int (iI x1), u2, u3] [.int (iI xs0), .int (iI xs1)] m = (if (wr xs1) = (wr xs0) then (Z e d 105 0 [.ref 4, .int (iI x1), .int (iI 6), .int (iI 1)] [] m).bind (ZK e (d + 1) 97 86 [.ref 208, .int (iI x1), u2, u3] [] m) else rn m) := Eq.trans ((s_c_ne_f p_97_69 rfl rfl rfl)) <| ite_cg ((s_al_0 p_97_72).trans <| (s_getr p_97_73 hs_208 (by decide) rfl).trans <| (s_getr p_97_76 hs_1 (by decide) rfl).trans <| (s_il_1 p_97_79).trans <| (s_bip p_97_80 rfl).trans <| (s_const p_97_82).trans <| (s_cv3 (Lc := [.ref 4, .int (iI x1), .int (iI 6), .int (iI 1)]) p_97_83 (by decide) (by decide) (zM_of zq_105) ⟨Nat.le_of_ble_eq_true rfl, Nat.le_of_ble_eq_true rfl⟩ rfl (m_rc hs_4 ⟨rfl, by decide⟩))) ((s_retv p_97_100 (zM_of zq_97)))
theorem b_97_39 {x1 : Int} {u2 u3 : Value} : Z e (d + 1) 97 39 [.ref 208, .int (iI x1), u2, u3] [] m = (Z e d 105 0 [.ref 4, .int (iI x1), .int (iI 4), .int (iI (-3))] [] m).bind (ZK e (d + 1) 97 53 [.ref 208, .int (iI x1), u2, u3] [] m) := (s_al_0 p_97_39).trans <| (s_getr p_97_40 hs_208 (by decide) rfl).trans <| (s_getr p_97_43 hs_1 (by decide) rfl).trans <| (s_il_1 p_97_46).trans <| (s_const p_97_47).trans <| (s_bip p_97_48 rfl).trans <| (s_cv3 (Lc := [.ref 4, .int (iI x1), .int (iI 4), .int (iI (-3))]) p_97_50 (by decide) (by decide) (zM_of zq_105) ⟨Nat.le_of_ble_eq_true rfl, Nat.le_of_ble_eq_true rfl⟩ rfl (m_rc hs_4 ⟨rfl, by decide⟩))
theorem b_97_86 {x1 : Int} {u2 u3 : Value} : Z e (d + 1) 97 86 [.ref 208, .int (iI x1), u2, u3] [] m = (Z e d 105 0 [.ref 4, .int (iI x1), .int (iI 4), .int (iI (-3))] [] m).bind (ZK e (d + 1) 97 100 [.ref 208, .int (iI x1), u2, u3] [] m) := (s_al_0 p_97_86).trans <| (s_getr p_97_87 hs_208 (by decide) rfl).trans <| (s_getr p_97_90 hs_1 (by decide) rfl).trans <| (s_il_1 p_97_93).trans <| (s_const p_97_94).trans <| (s_bip p_97_95 rfl).trans <| (s_cv3 (Lc := [.ref 4, .int (iI x1), .int (iI 4), .int (iI (-3))]) p_97_97 (by decide) (by decide) (zM_of zq_105) ⟨Nat.le_of_ble_eq_true rfl, Nat.le_of_ble_eq_true rfl⟩ rfl (m_rc hs_4 ⟨rfl, by decide⟩))
theorem b_97_53 {u0 u1 u2 u3 : Value} : Z e (d + 1) 97 53 [u0, u1, u2, u3] [] m = Z e (d + 1) 97 100 [u0, u1, u2, u3] [] m := (s_goto p_97_53 rfl).trans <| rfl
theorem b_97_100 {u0 u1 u2 u3 : Value} : Z e (d + 1) 97 100 [u0, u1, u2, u3] [] m = rn m := (s_retv p_97_100 (zM_of zq_97))
-- Runners.go
theorem p_95_0 : zP1 95 0 = some (.iconst 0, 0, 0, 0) := zp_l zq_95 rfl
theorem p_95_1 : zP1 95 1 = some (.istore_n 2, 0, 0, 0) := zp_l zq_95 rfl
theorem p_95_2 : zP1 95 2 = some (.aload_n 0, 0, 0, 0) := zp_l zq_95 rfl
theorem p_95_3 : zP1 95 3 = some (.getfield 16, 6, 0, 0) := zp_r zq_95 rfl
theorem p_95_6 : zP1 95 6 = some (.getfield 37, 9, 5, 0) := zp_r zq_95 rfl
theorem p_95_9 : zP1 95 9 = some (.iload_n 1, 0, 0, 0) := zp_l zq_95 rfl
theorem p_95_10 : zP1 95 10 = some (.iconst 1, 0, 0, 0) := zp_l zq_95 rfl
theorem p_95_11 : zP1 95 11 = some (.invokevirtual 53, 104, 2, 7) := zp_r zq_95 rfl
theorem p_95_14 : zP1 95 14 = some (.istore_n 3, 0, 0, 0) := zp_l zq_95 rfl
theorem p_95_15 : zP1 95 15 = some (.iconst 0, 0, 0, 0) := zp_l zq_95 rfl
theorem p_95_16 : zP1 95 16 = some (.istore 4, 0, 0, 0) := zp_l zq_95 rfl
theorem p_95_18 : zP1 95 18 = some (.iload 4, 0, 0, 0) := zp_l zq_95 rfl
theorem p_95_20 : zP1 95 20 = some (.iload_n 3, 0, 0, 0) := zp_l zq_95 rfl
theorem p_95_21 : zP1 95 21 = some (.if_icmp .ge 65, 0, 0, 0) := zp_l zq_95 rfl
theorem p_95_24 : zP1 95 24 = some (.aload_n 0, 0, 0, 0) := zp_l zq_95 rfl
theorem p_95_25 : zP1 95 25 = some (.getfield 16, 6, 0, 0) := zp_r zq_95 rfl
theorem p_95_28 : zP1 95 28 = some (.getfield 37, 9, 5, 0) := zp_r zq_95 rfl
theorem p_95_31 : zP1 95 31 = some (.iload_n 1, 0, 0, 0) := zp_l zq_95 rfl
theorem p_95_32 : zP1 95 32 = some (.iconst 4, 0, 0, 0) := zp_l zq_95 rfl
theorem p_95_33 : zP1 95 33 = some (.invokevirtual 53, 104, 2, 7) := zp_r zq_95 rfl
theorem p_95_36 : zP1 95 36 = some (.bipush (-3), 0, 0, 0) := zp_l zq_95 rfl
theorem p_95_38 : zP1 95 38 = some (.if_icmp .eq 48, 0, 0, 0) := zp_l zq_95 rfl
theorem p_95_41 : zP1 95 41 = some (.aload_n 0, 0, 0, 0) := zp_l zq_95 rfl
theorem p_95_42 : zP1 95 42 = some (.iload_n 1, 0, 0, 0) := zp_l zq_95 rfl
theorem p_95_43 : zP1 95 43 = some (.invokevirtual 63, 96, 1, 6) := zp_r zq_95 rfl
theorem p_95_46 : zP1 95 46 = some (.istore 5, 0, 0, 0) := zp_l zq_95 rfl
theorem p_95_48 : zP1 95 48 = some (.iload 5, 0, 0, 0) := zp_l zq_95 rfl
theorem p_95_50 : zP1 95 50 = some (.bipush (-3), 0, 0, 0) := zp_l zq_95 rfl
theorem p_95_52 : zP1 95 52 = some (.if_icmp .ne 5, 0, 0, 0) := zp_l zq_95 rfl
theorem p_95_55 : zP1 95 55 = some (.iload_n 2, 0, 0, 0) := zp_l zq_95 rfl
theorem p_95_56 : zP1 95 56 = some (.ireturn, 0, 0, 0) := zp_l zq_95 rfl
theorem p_95_57 : zP1 95 57 = some (.iconst 1, 0, 0, 0) := zp_l zq_95 rfl
theorem p_95_58 : zP1 95 58 = some (.istore_n 2, 0, 0, 0) := zp_l zq_95 rfl
theorem p_95_59 : zP1 95 59 = some (.aload_n 0, 0, 0, 0) := zp_l zq_95 rfl
theorem p_95_60 : zP1 95 60 = some (.getfield 16, 6, 0, 0) := zp_r zq_95 rfl
theorem p_95_63 : zP1 95 63 = some (.getfield 37, 9, 5, 0) := zp_r zq_95 rfl
theorem p_95_66 : zP1 95 66 = some (.iload_n 1, 0, 0, 0) := zp_l zq_95 rfl
theorem p_95_67 : zP1 95 67 = some (.iconst 0, 0, 0, 0) := zp_l zq_95 rfl
theorem p_95_68 : zP1 95 68 = some (.iload 5, 0, 0, 0) := zp_l zq_95 rfl
theorem p_95_70 : zP1 95 70 = some (.invokevirtual 67, 105, 3, 7) := zp_r zq_95 rfl
theorem p_95_73 : zP1 95 73 = some (.aload_n 0, 0, 0, 0) := zp_l zq_95 rfl
theorem p_95_74 : zP1 95 74 = some (.iload_n 1, 0, 0, 0) := zp_l zq_95 rfl
theorem p_95_75 : zP1 95 75 = some (.iload 5, 0, 0, 0) := zp_l zq_95 rfl
theorem p_95_77 : zP1 95 77 = some (.invokevirtual 71, 97, 2, 6) := zp_r zq_95 rfl
theorem p_95_80 : zP1 95 80 = some (.iinc 4 1, 0, 0, 0) := zp_l zq_95 rfl
theorem p_95_83 : zP1 95 83 = some (.goto (-65), 0, 0, 0) := zp_l zq_95 rfl
theorem p_95_86 : zP1 95 86 = some (.iload_n 2, 0, 0, 0) := zp_l zq_95 rfl
theorem p_95_87 : zP1 95 87 = some (.ireturn, 0, 0, 0) := zp_l zq_95 rfl
theorem b_95_0 {x1 : Int} : Z e (d + 1) 95 0 [.ref 208, .int (iI x1), .retAddr 0, .retAddr 0, .retAddr 0, .retAddr 0] [] m = (Z e d 104 0 [.ref 4, .int (iI x1), .int (iI 1)] [] m).bind (ZK e (d + 1) 95 14 [.ref 208, .int (iI x1), .int (iI 0), .retAddr 0, .retAddr 0, .retAddr 0] [] m) := (s_const p_95_0).trans <| (s_is_2 cat_i p_95_1).trans <| (s_al_0 p_95_2).trans <| (s_getr p_95_3 hs_208 (by decide) rfl).trans <| (s_getr p_95_6 hs_1 (by decide) rfl).trans <| (s_il_1 p_95_9).trans <| (s_const p_95_10).trans <| (s_cv2 (Lc := [.ref 4, .int (iI x1), .int (iI 1)]) p_95_11 (by decide) (by decide) (zM_of zq_104) ⟨Nat.le_of_ble_eq_true rfl, Nat.le_of_ble_eq_true rfl⟩ rfl (m_rc hs_4 ⟨rfl, by decide⟩))
theorem b_95_18 {x1 : Int} {x2 : Int} {x3 : Int} {x4 : Int} {u5 : Value} : Z e (d + 1) 95 18 [.ref 208, .int (iI x1), .int (iI x2), .int (iI x3), .int (iI x4), u5] [] m = (if (wr x4) < (wr x3) then (Z e d 104 0 [.ref 4, .int (iI x1), .int (iI 4)] [] m).bind (ZK e (d + 1) 95 36 [.ref 208, .int (iI x1), .int (iI x2), .int (iI x3), .int (iI x4), u5] [] m) else ck (nbp x2) (ri x2 m)) := (s_il_4 p_95_18).trans <| (s_il_3 p_95_20).trans <| Eq.trans ((s_c_ge_f p_95_21 rfl rfl rfl)) <| ite_cg ((s_al_0 p_95_24).trans <| (s_getr p_95_25 hs_208 (by decide) rfl).trans <| (s_getr p_95_28 hs_1 (by decide) rfl).trans <| (s_il_1 p_95_31).trans <| (s_const p_95_32).trans <| (s_cv2 (Lc := [.ref 4, .int (iI x1), .int (iI 4)]) p_95_33 (by decide) (by decide) (zM_of zq_104) ⟨Nat.le_of_ble_eq_true rfl, Nat.le_of_ble_eq_true rfl⟩ rfl (m_rc hs_4 ⟨rfl, by decide⟩))) ((s_il_2 p_95_86).trans <| (s_retx p_95_87 (zM_of zq_95)))
theorem b_95_14 {x1 : Int} {x2 : Int} {xs0 : Int} {u3 u4 u5 : Value} : Z e (d + 1) 95 14 [.ref 208, .int (iI x1), .int (iI x2), u3, u4, u5] [.int (iI xs0)] m = Z e (d + 1) 95 18 [.ref 208, .int (iI x1), .int (iI x2), .int (iI xs0), .int (iI 0), u5] [] m := (s_is_3 cat_i p_95_14).trans <| (s_const p_95_15).trans <| (s_is_4 cat_i p_95_16).trans <| rfl
theorem b_95_36 {x1 : Int} {x2 : Int} {x3 : Int} {x4 : Int} {xs0 : Int} {u5 : Value} : Z e (d + 1) 95 36 [.ref 208, .int (iI x1), .int (iI x2), .int (iI x3), .int (iI x4), u5] [.int (iI xs0)] m = (if ¬ (wr xs0) = (-3) then (Z e d 96 0 [.ref 208, .int (iI x1), .retAddr 0, .retAddr 0, .retAddr 0, .retAddr 0] [] m).bind (ZK e (d + 1) 95 46 [.ref 208, .int (iI x1), .int (iI x2), .int (iI x3), .int (iI x4), u5] [] m) else ck (nbp x2) (ri x2 m)) := (s_bip p_95_36 rfl).trans <| Eq.trans ((s_c_eq_f p_95_38 rfl rfl wl_m3)) <| ite_cg ((s_al_0 p_95_41).trans <| (s_il_1 p_95_42).trans <| (s_cv1 (Lc := [.ref 208, .int (iI x1), .retAddr 0, .retAddr 0, .retAddr 0, .retAddr 0]) p_95_43 (by decide) (by decide) (zM_of zq_96) ⟨Nat.le_of_ble_eq_true rfl, Nat.le_of_ble_eq_true rfl⟩ rfl (m_rc hs_208 ⟨rfl, by decide⟩))) ((s_il_2 p_95_86).trans <| (s_retx p_95_87 (zM_of zq_95)))
theorem b_95_46 {x1 : Int} {x2 : Int} {x3 : Int} {x4 : Int} {xs0 : Int} {u5 : Value} : Z e (d + 1) 95 46 [.ref 208, .int (iI x1), .int (iI x2), .int (iI x3), .int (iI x4), u5] [.int (iI xs0)] m = (if (wr xs0) = (-3) then ck (nbp x2) (ri x2 m) else (Z e d 105 0 [.ref 4, .int (iI x1), .int (iI 0), .int (iI xs0)] [] m).bind (ZK e (d + 1) 95 73 [.ref 208, .int (iI x1), .int (iI 1), .int (iI x3), .int (iI x4), .int (iI xs0)] [] m)) := (s_is_5 cat_i p_95_46).trans <| (s_il_5 p_95_48).trans <| (s_bip p_95_50 rfl).trans <| Eq.trans ((s_c_ne_f p_95_52 rfl rfl wl_m3)) <| ite_cg ((s_il_2 p_95_55).trans <| (s_retx p_95_56 (zM_of zq_95))) ((s_const p_95_57).trans <| (s_is_2 cat_i p_95_58).trans <| (s_al_0 p_95_59).trans <| (s_getr p_95_60 hs_208 (by decide) rfl).trans <| (s_getr p_95_63 hs_1 (by decide) rfl).trans <| (s_il_1 p_95_66).trans <| (s_const p_95_67).trans <| (s_il_5 p_95_68).trans <| (s_cv3 (Lc := [.ref 4, .int (iI x1), .int (iI 0), .int (iI xs0)]) p_95_70 (by decide) (by decide) (zM_of zq_105) ⟨Nat.le_of_ble_eq_true rfl, Nat.le_of_ble_eq_true rfl⟩ rfl (m_rc hs_4 ⟨rfl, by decide⟩)))
theorem b_95_73 {x1 : Int} {x2 : Int} {x3 : Int} {x4 : Int} {x5 : Int} : Z e (d + 1) 95 73 [.ref 208, .int (iI x1), .int (iI x2), .int (iI x3), .int (iI x4), .int (iI x5)] [] m = (Z e d 97 0 [.ref 208, .int (iI x1), .int (iI x5), .retAddr 0] [] m).bind (ZK e (d + 1) 95 80 [.ref 208, .int (iI x1), .int (iI x2), .int (iI x3), .int (iI x4), .int (iI x5)] [] m) := (s_al_0 p_95_73).trans <| (s_il_1 p_95_74).trans <| (s_il_5 p_95_75).trans <| (s_cv2 (Lc := [.ref 208, .int (iI x1), .int (iI x5), .retAddr 0]) p_95_77 (by decide) (by decide) (zM_of zq_97) ⟨Nat.le_of_ble_eq_true rfl, Nat.le_of_ble_eq_true rfl⟩ rfl (m_rc hs_208 ⟨rfl, by decide⟩))
theorem b_95_80 {x1 : Int} {x2 : Int} {x3 : Int} {x4 : Int} {u5 : Value} : Z e (d + 1) 95 80 [.ref 208, .int (iI x1), .int (iI x2), .int (iI x3), .int (iI x4), u5] [] m = Z e (d + 1) 95 18 [.ref 208, .int (iI x1), .int (iI x2), .int (iI x3), .int (iI (x4 + 1)), u5] [] m := (s_inc_4 cat_i p_95_80).trans <| (s_goto p_95_83 rfl).trans <| rfl
-- Runners.tellTo
theorem p_100_0 : zP1 100 0 = some (.bipush 10, 0, 0, 0) := zp_l zq_100 rfl
theorem p_100_2 : zP1 100 2 = some (.istore_n 3, 0, 0, 0) := zp_l zq_100 rfl
theorem p_100_3 : zP1 100 3 = some (.iload_n 3, 0, 0, 0) := zp_l zq_100 rfl
theorem p_100_4 : zP1 100 4 = some (.bipush 10, 0, 0, 0) := zp_l zq_100 rfl
theorem p_100_6 : zP1 100 6 = some (.aload_n 0, 0, 0, 0) := zp_l zq_100 rfl
theorem p_100_7 : zP1 100 7 = some (.getfield 16, 6, 0, 0) := zp_r zq_100 rfl
theorem p_100_10 : zP1 100 10 = some (.getfield 90, 9, 1, 0) := zp_r zq_100 rfl
theorem p_100_13 : zP1 100 13 = some (.iadd, 0, 0, 0) := zp_l zq_100 rfl
theorem p_100_14 : zP1 100 14 = some (.if_icmp .ge 90, 0, 0, 0) := zp_l zq_100 rfl
theorem p_100_17 : zP1 100 17 = some (.aload_n 0, 0, 0, 0) := zp_l zq_100 rfl
theorem p_100_18 : zP1 100 18 = some (.getfield 16, 6, 0, 0) := zp_r zq_100 rfl
theorem p_100_21 : zP1 100 21 = some (.getfield 37, 9, 5, 0) := zp_r zq_100 rfl
theorem p_100_24 : zP1 100 24 = some (.iload_n 2, 0, 0, 0) := zp_l zq_100 rfl
theorem p_100_25 : zP1 100 25 = some (.iload_n 3, 0, 0, 0) := zp_l zq_100 rfl
theorem p_100_26 : zP1 100 26 = some (.invokevirtual 53, 104, 2, 7) := zp_r zq_100 rfl
theorem p_100_29 : zP1 100 29 = some (.istore 4, 0, 0, 0) := zp_l zq_100 rfl
theorem p_100_31 : zP1 100 31 = some (.iload 4, 0, 0, 0) := zp_l zq_100 rfl
theorem p_100_33 : zP1 100 33 = some (.bipush (-3), 0, 0, 0) := zp_l zq_100 rfl
theorem p_100_35 : zP1 100 35 = some (.if_icmp .eq 36, 0, 0, 0) := zp_l zq_100 rfl
theorem p_100_38 : zP1 100 38 = some (.iload 4, 0, 0, 0) := zp_l zq_100 rfl
theorem p_100_40 : zP1 100 40 = some (.aload_n 0, 0, 0, 0) := zp_l zq_100 rfl
theorem p_100_41 : zP1 100 41 = some (.getfield 16, 6, 0, 0) := zp_r zq_100 rfl
theorem p_100_44 : zP1 100 44 = some (.getfield 31, 9, 0, 0) := zp_r zq_100 rfl
theorem p_100_47 : zP1 100 47 = some (.if_icmp .ge 24, 0, 0, 0) := zp_l zq_100 rfl
theorem p_100_50 : zP1 100 50 = some (.aload_n 0, 0, 0, 0) := zp_l zq_100 rfl
theorem p_100_51 : zP1 100 51 = some (.getfield 16, 6, 0, 0) := zp_r zq_100 rfl
theorem p_100_54 : zP1 100 54 = some (.getfield 37, 9, 5, 0) := zp_r zq_100 rfl
theorem p_100_57 : zP1 100 57 = some (.iload_n 1, 0, 0, 0) := zp_l zq_100 rfl
theorem p_100_58 : zP1 100 58 = some (.iload_n 3, 0, 0, 0) := zp_l zq_100 rfl
theorem p_100_59 : zP1 100 59 = some (.invokevirtual 53, 104, 2, 7) := zp_r zq_100 rfl
theorem p_100_62 : zP1 100 62 = some (.bipush (-3), 0, 0, 0) := zp_l zq_100 rfl
theorem p_100_64 : zP1 100 64 = some (.if_icmp .ne 7, 0, 0, 0) := zp_l zq_100 rfl
theorem p_100_67 : zP1 100 67 = some (.iconst 1, 0, 0, 0) := zp_l zq_100 rfl
theorem p_100_68 : zP1 100 68 = some (.goto 4, 0, 0, 0) := zp_l zq_100 rfl
theorem p_100_71 : zP1 100 71 = some (.iconst 0, 0, 0, 0) := zp_l zq_100 rfl
theorem p_100_72 : zP1 100 72 = some (.istore 5, 0, 0, 0) := zp_l zq_100 rfl
theorem p_100_74 : zP1 100 74 = some (.iload 5, 0, 0, 0) := zp_l zq_100 rfl
theorem p_100_76 : zP1 100 76 = some (.ifCond .eq 22, 0, 0, 0) := zp_l zq_100 rfl
theorem p_100_79 : zP1 100 79 = some (.aload_n 0, 0, 0, 0) := zp_l zq_100 rfl
theorem p_100_80 : zP1 100 80 = some (.getfield 16, 6, 0, 0) := zp_r zq_100 rfl
theorem p_100_83 : zP1 100 83 = some (.getfield 37, 9, 5, 0) := zp_r zq_100 rfl
theorem p_100_86 : zP1 100 86 = some (.iload_n 1, 0, 0, 0) := zp_l zq_100 rfl
theorem p_100_87 : zP1 100 87 = some (.iload_n 3, 0, 0, 0) := zp_l zq_100 rfl
theorem p_100_88 : zP1 100 88 = some (.aload_n 0, 0, 0, 0) := zp_l zq_100 rfl
theorem p_100_89 : zP1 100 89 = some (.getfield 16, 6, 0, 0) := zp_r zq_100 rfl
theorem p_100_92 : zP1 100 92 = some (.getfield 31, 9, 0, 0) := zp_r zq_100 rfl
theorem p_100_95 : zP1 100 95 = some (.invokevirtual 67, 105, 3, 7) := zp_r zq_100 rfl
theorem p_100_98 : zP1 100 98 = some (.iinc 3 1, 0, 0, 0) := zp_l zq_100 rfl
theorem p_100_101 : zP1 100 101 = some (.goto (-98), 0, 0, 0) := zp_l zq_100 rfl
theorem p_100_104 : zP1 100 104 = some (.return_, 0, 0, 0) := zp_l zq_100 rfl
theorem b_100_0 {x1 : Int} {x2 : Int} : Z e (d + 1) 100 0 [.ref 208, .int (iI x1), .int (iI x2), .retAddr 0, .retAddr 0, .retAddr 0] [] m = Z e (d + 1) 100 3 [.ref 208, .int (iI x1), .int (iI x2), .int (iI 10), .retAddr 0, .retAddr 0] [] m := (s_bip p_100_0 rfl).trans <| (s_is_3 cat_i p_100_2).trans <| rfl
theorem b_100_3 {x1 : Int} {x2 : Int} {x3 : Int} {u4 u5 : Value} : Z e (d + 1) 100 3 [.ref 208, .int (iI x1), .int (iI x2), .int (iI x3), u4, u5] [] m = (if (wr x3) < (wr (10 + (m 1 1))) then (Z e d 104 0 [.ref 4, .int (iI x2), .int (iI x3)] [] m).bind (ZK e (d + 1) 100 29 [.ref 208, .int (iI x1), .int (iI x2), .int (iI x3), u4, u5] [] m) else rn m) := (s_il_3 p_100_3).trans <| (s_bip p_100_4 rfl).trans <| (s_al_0 p_100_6).trans <| (s_getr p_100_7 hs_208 (by decide) rfl).trans <| (s_get p_100_10 hs_1 (by decide) rfl).trans <| (s_iadd p_100_13).trans <| Eq.trans ((s_c_ge_f p_100_14 rfl rfl rfl)) <| ite_cg ((s_al_0 p_100_17).trans <| (s_getr p_100_18 hs_208 (by decide) rfl).trans <| (s_getr p_100_21 hs_1 (by decide) rfl).trans <| (s_il_2 p_100_24).trans <| (s_il_3 p_100_25).trans <| (s_cv2 (Lc := [.ref 4, .int (iI x2), .int (iI x3)]) p_100_26 (by decide) (by decide) (zM_of zq_104) ⟨Nat.le_of_ble_eq_true rfl, Nat.le_of_ble_eq_true rfl⟩ rfl (m_rc hs_4 ⟨rfl, by decide⟩))) ((s_retv p_100_104 (zM_of zq_100)))
theorem b_100_29 {x1 : Int} {x2 : Int} {x3 : Int} {xs0 : Int} {u4 u5 : Value} : Z e (d + 1) 100 29 [.ref 208, .int (iI x1), .int (iI x2), .int (iI x3), u4, u5] [.int (iI xs0)] m = (if (¬ (wr xs0) = (-3)) ∧ ((wr xs0) < (wr (m 1 0))) then (Z e d 104 0 [.ref 4, .int (iI x1), .int (iI x3)] [] m).bind (ZK e (d + 1) 100 62 [.ref 208, .int (iI x1), .int (iI x2), .int (iI x3), .int (iI xs0), u5] [] m) else Z e (d + 1) 100 72 [.ref 208, .int (iI x1), .int (iI x2), .int (iI x3), .int (iI xs0), u5] [.int (iI 0)] m) := (s_is_4 cat_i p_100_29).trans <| (s_il_4 p_100_31).trans <| (s_bip p_100_33 rfl).trans <| Eq.trans (Eq.trans (s_c_eq_f p_100_35 rfl rfl wl_m3) <| Eq.trans (ite_cg ((s_il_4 p_100_38).trans <| (s_al_0 p_100_40).trans <| (s_getr p_100_41 hs_208 (by decide) rfl).trans <| (s_get p_100_44 hs_1 (by decide) rfl).trans <| (s_c_ge_f p_100_47 rfl rfl rfl)) rfl) co_and) <| ite_cg ((s_al_0 p_100_50).trans <| (s_getr p_100_51 hs_208 (by decide) rfl).trans <| (s_getr p_100_54 hs_1 (by decide) rfl).trans <| (s_il_1 p_100_57).trans <| (s_il_3 p_100_58).trans <| (s_cv2 (Lc := [.ref 4, .int (iI x1), .int (iI x3)]) p_100_59 (by decide) (by decide) (zM_of zq_104) ⟨Nat.le_of_ble_eq_true rfl, Nat.le_of_ble_eq_true rfl⟩ rfl (m_rc hs_4 ⟨rfl, by decide⟩))) ((s_const p_100_71).trans <| rfl)
theorem b_100_72 {x1 : Int} {x2 : Int} {x3 : Int} {xs0 : Int} {u4 u5 : Value} (hu4 : u4.category = 1) : Z e (d + 1) 100 72 [.ref 208, .int (iI x1), .int (iI x2), .int (iI x3), u4, u5] [.int (iI xs0)] m = (if ¬ (wr xs0) = 0 then (Z e d 105 0 [.ref 4, .int (iI x1), .int (iI x3), .int (iI (m 1 0))] [] m).bind (ZK e (d + 1) 100 98 [.ref 208, .int (iI x1), .int (iI x2), .int (iI x3), u4, .int (iI xs0)] [] m) else Z e (d + 1) 100 98 [.ref 208, .int (iI x1), .int (iI x2), .int (iI x3), u4, .int (iI xs0)] [] m) := (s_is_5 hu4 p_100_72).trans <| (s_il_5 p_100_74).trans <| Eq.trans ((s_z_eq_f p_100_76 rfl rfl)) <| ite_cg ((s_al_0 p_100_79).trans <| (s_getr p_100_80 hs_208 (by decide) rfl).trans <| (s_getr p_100_83 hs_1 (by decide) rfl).trans <| (s_il_1 p_100_86).trans <| (s_il_3 p_100_87).trans <| (s_al_0 p_100_88).trans <| (s_getr p_100_89 hs_208 (by decide) rfl).trans <| (s_get p_100_92 hs_1 (by decide) rfl).trans <| (s_cv3 (Lc := [.ref 4, .int (iI x1), .int (iI x3), .int (iI (m 1 0))]) p_100_95 (by decide) (by decide) (zM_of zq_105) ⟨Nat.le_of_ble_eq_true rfl, Nat.le_of_ble_eq_true rfl⟩ rfl (m_rc hs_4 ⟨rfl, by decide⟩))) (rfl)
theorem b_100_62 {x1 : Int} {x2 : Int} {x3 : Int} {xs0 : Int} {u4 u5 : Value} : Z e (d + 1) 100 62 [.ref 208, .int (iI x1), .int (iI x2), .int (iI x3), u4, u5] [.int (iI xs0)] m = Z e (d + 1) 100 72 [.ref 208, .int (iI x1), .int (iI x2), .int (iI x3), u4, u5] [.int (iI (if (wr xs0) = (-3) then 1 else 0))] m := (s_bip p_100_62 rfl).trans <| Eq.trans (Eq.trans ((s_c_ne_f p_100_64 rfl rfl wl_m3)) <| Eq.trans (ite_cg ((s_const p_100_67).trans <| (s_goto p_100_68 rfl).trans <| rfl) ((s_const p_100_71).trans <| rfl)) (phi1 (fun z0 => Z e (d + 1) 100 72 [.ref 208, .int (iI x1), .int (iI x2), .int (iI x3), u4, u5] [.int (iI z0)] m))) <| rfl
theorem b_100_98 {x1 : Int} {x2 : Int} {x3 : Int} {u4 u5 : Value} : Z e (d + 1) 100 98 [.ref 208, .int (iI x1), .int (iI x2), .int (iI x3), u4, u5] [] m = Z e (d + 1) 100 3 [.ref 208, .int (iI x1), .int (iI x2), .int (iI (x3 + 1)), u4, u5] [] m := (s_inc_3 cat_i p_100_98).trans <| (s_goto p_100_101 rfl).trans <| rfl
-- Runners.tellBells
theorem p_99_0 : zP1 99 0 = some (.aload_n 0, 0, 0, 0) := zp_l zq_99 rfl
theorem p_99_1 : zP1 99 1 = some (.getfield 16, 6, 0, 0) := zp_r zq_99 rfl
theorem p_99_4 : zP1 99 4 = some (.getfield 90, 9, 1, 0) := zp_r zq_99 rfl
theorem p_99_7 : zP1 99 7 = some (.ifCond .ne 4, 0, 0, 0) := zp_l zq_99 rfl
theorem p_99_10 : zP1 99 10 = some (.return_, 0, 0, 0) := zp_l zq_99 rfl
theorem p_99_11 : zP1 99 11 = some (.iconst 0, 0, 0, 0) := zp_l zq_99 rfl
theorem p_99_12 : zP1 99 12 = some (.istore_n 1, 0, 0, 0) := zp_l zq_99 rfl
theorem p_99_13 : zP1 99 13 = some (.iload_n 1, 0, 0, 0) := zp_l zq_99 rfl
theorem p_99_14 : zP1 99 14 = some (.aload_n 0, 0, 0, 0) := zp_l zq_99 rfl
theorem p_99_15 : zP1 99 15 = some (.getfield 16, 6, 0, 0) := zp_r zq_99 rfl
theorem p_99_18 : zP1 99 18 = some (.getfield 37, 9, 5, 0) := zp_r zq_99 rfl
theorem p_99_21 : zP1 99 21 = some (.getfield 41, 7, 3, 0) := zp_r zq_99 rfl
theorem p_99_24 : zP1 99 24 = some (.if_icmp .ge 66, 0, 0, 0) := zp_l zq_99 rfl
theorem p_99_27 : zP1 99 27 = some (.aload_n 0, 0, 0, 0) := zp_l zq_99 rfl
theorem p_99_28 : zP1 99 28 = some (.getfield 16, 6, 0, 0) := zp_r zq_99 rfl
theorem p_99_31 : zP1 99 31 = some (.getfield 37, 9, 5, 0) := zp_r zq_99 rfl
theorem p_99_34 : zP1 99 34 = some (.iload_n 1, 0, 0, 0) := zp_l zq_99 rfl
theorem p_99_35 : zP1 99 35 = some (.iconst 0, 0, 0, 0) := zp_l zq_99 rfl
theorem p_99_36 : zP1 99 36 = some (.invokevirtual 53, 104, 2, 7) := zp_r zq_99 rfl
theorem p_99_39 : zP1 99 39 = some (.istore_n 2, 0, 0, 0) := zp_l zq_99 rfl
theorem p_99_40 : zP1 99 40 = some (.iconst 0, 0, 0, 0) := zp_l zq_99 rfl
theorem p_99_41 : zP1 99 41 = some (.istore_n 3, 0, 0, 0) := zp_l zq_99 rfl
theorem p_99_42 : zP1 99 42 = some (.iload_n 3, 0, 0, 0) := zp_l zq_99 rfl
theorem p_99_43 : zP1 99 43 = some (.aload_n 0, 0, 0, 0) := zp_l zq_99 rfl
theorem p_99_44 : zP1 99 44 = some (.getfield 16, 6, 0, 0) := zp_r zq_99 rfl
theorem p_99_47 : zP1 99 47 = some (.getfield 37, 9, 5, 0) := zp_r zq_99 rfl
theorem p_99_50 : zP1 99 50 = some (.getfield 41, 7, 3, 0) := zp_r zq_99 rfl
theorem p_99_53 : zP1 99 53 = some (.if_icmp .ge 31, 0, 0, 0) := zp_l zq_99 rfl
theorem p_99_56 : zP1 99 56 = some (.aload_n 0, 0, 0, 0) := zp_l zq_99 rfl
theorem p_99_57 : zP1 99 57 = some (.getfield 16, 6, 0, 0) := zp_r zq_99 rfl
theorem p_99_60 : zP1 99 60 = some (.getfield 37, 9, 5, 0) := zp_r zq_99 rfl
theorem p_99_63 : zP1 99 63 = some (.iload_n 3, 0, 0, 0) := zp_l zq_99 rfl
theorem p_99_64 : zP1 99 64 = some (.iconst 0, 0, 0, 0) := zp_l zq_99 rfl
theorem p_99_65 : zP1 99 65 = some (.invokevirtual 53, 104, 2, 7) := zp_r zq_99 rfl
theorem p_99_68 : zP1 99 68 = some (.iload_n 2, 0, 0, 0) := zp_l zq_99 rfl
theorem p_99_69 : zP1 99 69 = some (.if_icmp .ne 9, 0, 0, 0) := zp_l zq_99 rfl
theorem p_99_72 : zP1 99 72 = some (.aload_n 0, 0, 0, 0) := zp_l zq_99 rfl
theorem p_99_73 : zP1 99 73 = some (.iload_n 3, 0, 0, 0) := zp_l zq_99 rfl
theorem p_99_74 : zP1 99 74 = some (.iload_n 1, 0, 0, 0) := zp_l zq_99 rfl
theorem p_99_75 : zP1 99 75 = some (.invokevirtual 93, 100, 2, 6) := zp_r zq_99 rfl
theorem p_99_78 : zP1 99 78 = some (.iinc 3 1, 0, 0, 0) := zp_l zq_99 rfl
theorem p_99_81 : zP1 99 81 = some (.goto (-39), 0, 0, 0) := zp_l zq_99 rfl
theorem p_99_84 : zP1 99 84 = some (.iinc 1 1, 0, 0, 0) := zp_l zq_99 rfl
theorem p_99_87 : zP1 99 87 = some (.goto (-74), 0, 0, 0) := zp_l zq_99 rfl
theorem p_99_90 : zP1 99 90 = some (.return_, 0, 0, 0) := zp_l zq_99 rfl
theorem b_99_0 : Z e (d + 1) 99 0 [.ref 208, .retAddr 0, .retAddr 0, .retAddr 0] [] m = (if (wr (m 1 1)) = 0 then rn m else Z e (d + 1) 99 13 [.ref 208, .int (iI 0), .retAddr 0, .retAddr 0] [] m) := (s_al_0 p_99_0).trans <| (s_getr p_99_1 hs_208 (by decide) rfl).trans <| (s_get p_99_4 hs_1 (by decide) rfl).trans <| Eq.trans ((s_z_ne_f p_99_7 rfl rfl)) <| ite_cg ((s_retv p_99_10 (zM_of zq_99))) ((s_const p_99_11).trans <| (s_is_1 cat_r p_99_12).trans <| rfl)
theorem b_99_13 {x1 : Int} {u2 u3 : Value} : Z e (d + 1) 99 13 [.ref 208, .int (iI x1), u2, u3] [] m = (if (wr x1) < (wr (m 4 3)) then (Z e d 104 0 [.ref 4, .int (iI x1), .int (iI 0)] [] m).bind (ZK e (d + 1) 99 39 [.ref 208, .int (iI x1), u2, u3] [] m) else rn m) := (s_il_1 p_99_13).trans <| (s_al_0 p_99_14).trans <| (s_getr p_99_15 hs_208 (by decide) rfl).trans <| (s_getr p_99_18 hs_1 (by decide) rfl).trans <| (s_get p_99_21 hs_4 (by decide) rfl).trans <| Eq.trans ((s_c_ge_f p_99_24 rfl rfl rfl)) <| ite_cg ((s_al_0 p_99_27).trans <| (s_getr p_99_28 hs_208 (by decide) rfl).trans <| (s_getr p_99_31 hs_1 (by decide) rfl).trans <| (s_il_1 p_99_34).trans <| (s_const p_99_35).trans <| (s_cv2 (Lc := [.ref 4, .int (iI x1), .int (iI 0)]) p_99_36 (by decide) (by decide) (zM_of zq_104) ⟨Nat.le_of_ble_eq_true rfl, Nat.le_of_ble_eq_true rfl⟩ rfl (m_rc hs_4 ⟨rfl, by decide⟩))) ((s_retv p_99_90 (zM_of zq_99)))
theorem b_99_42 {x1 : Int} {x2 : Int} {x3 : Int} : Z e (d + 1) 99 42 [.ref 208, .int (iI x1), .int (iI x2), .int (iI x3)] [] m = (if (wr x3) < (wr (m 4 3)) then (Z e d 104 0 [.ref 4, .int (iI x3), .int (iI 0)] [] m).bind (ZK e (d + 1) 99 68 [.ref 208, .int (iI x1), .int (iI x2), .int (iI x3)] [] m) else Z e (d + 1) 99 13 [.ref 208, .int (iI (x1 + 1)), .int (iI x2), .int (iI x3)] [] m) := (s_il_3 p_99_42).trans <| (s_al_0 p_99_43).trans <| (s_getr p_99_44 hs_208 (by decide) rfl).trans <| (s_getr p_99_47 hs_1 (by decide) rfl).trans <| (s_get p_99_50 hs_4 (by decide) rfl).trans <| Eq.trans ((s_c_ge_f p_99_53 rfl rfl rfl)) <| ite_cg ((s_al_0 p_99_56).trans <| (s_getr p_99_57 hs_208 (by decide) rfl).trans <| (s_getr p_99_60 hs_1 (by decide) rfl).trans <| (s_il_3 p_99_63).trans <| (s_const p_99_64).trans <| (s_cv2 (Lc := [.ref 4, .int (iI x3), .int (iI 0)]) p_99_65 (by decide) (by decide) (zM_of zq_104) ⟨Nat.le_of_ble_eq_true rfl, Nat.le_of_ble_eq_true rfl⟩ rfl (m_rc hs_4 ⟨rfl, by decide⟩))) ((s_inc_1 cat_r p_99_84).trans <| (s_goto p_99_87 rfl).trans <| rfl)
theorem b_99_39 {x1 : Int} {xs0 : Int} {u2 u3 : Value} : Z e (d + 1) 99 39 [.ref 208, .int (iI x1), u2, u3] [.int (iI xs0)] m = Z e (d + 1) 99 42 [.ref 208, .int (iI x1), .int (iI xs0), .int (iI 0)] [] m := (s_is_2 cat_i p_99_39).trans <| (s_const p_99_40).trans <| (s_is_3 cat_i p_99_41).trans <| rfl
theorem b_99_68 {x1 : Int} {x2 : Int} {x3 : Int} {xs0 : Int} : Z e (d + 1) 99 68 [.ref 208, .int (iI x1), .int (iI x2), .int (iI x3)] [.int (iI xs0)] m = (if (wr xs0) = (wr x2) then (Z e d 100 0 [.ref 208, .int (iI x3), .int (iI x1), .retAddr 0, .retAddr 0, .retAddr 0] [] m).bind (ZK e (d + 1) 99 78 [.ref 208, .int (iI x1), .int (iI x2), .int (iI x3)] [] m) else Z e (d + 1) 99 78 [.ref 208, .int (iI x1), .int (iI x2), .int (iI x3)] [] m) := (s_il_2 p_99_68).trans <| Eq.trans ((s_c_ne_f p_99_69 rfl rfl rfl)) <| ite_cg ((s_al_0 p_99_72).trans <| (s_il_3 p_99_73).trans <| (s_il_1 p_99_74).trans <| (s_cv2 (Lc := [.ref 208, .int (iI x3), .int (iI x1), .retAddr 0, .retAddr 0, .retAddr 0]) p_99_75 (by decide) (by decide) (zM_of zq_100) ⟨Nat.le_of_ble_eq_true rfl, Nat.le_of_ble_eq_true rfl⟩ rfl (m_rc hs_208 ⟨rfl, by decide⟩))) (rfl)
theorem b_99_78 {x1 : Int} {x2 : Int} {x3 : Int} : Z e (d + 1) 99 78 [.ref 208, .int (iI x1), .int (iI x2), .int (iI x3)] [] m = Z e (d + 1) 99 42 [.ref 208, .int (iI x1), .int (iI x2), .int (iI (x3 + 1))] [] m := (s_inc_3 cat_i p_99_78).trans <| (s_goto p_99_81 rfl).trans <| rfl
-- Runners.goOn
theorem p_93_0 : zP1 93 0 = some (.aload_n 0, 0, 0, 0) := zp_l zq_93 rfl
theorem p_93_1 : zP1 93 1 = some (.invokevirtual 28, 94, 0, 6) := zp_r zq_93 rfl
theorem p_93_4 : zP1 93 4 = some (.aload_n 0, 0, 0, 0) := zp_l zq_93 rfl
theorem p_93_5 : zP1 93 5 = some (.getfield 16, 6, 0, 0) := zp_r zq_93 rfl
theorem p_93_8 : zP1 93 8 = some (.getfield 31, 9, 0, 0) := zp_r zq_93 rfl
theorem p_93_11 : zP1 93 11 = some (.iload_n 1, 0, 0, 0) := zp_l zq_93 rfl
theorem p_93_12 : zP1 93 12 = some (.iadd, 0, 0, 0) := zp_l zq_93 rfl
theorem p_93_13 : zP1 93 13 = some (.istore_n 2, 0, 0, 0) := zp_l zq_93 rfl
theorem p_93_14 : zP1 93 14 = some (.iconst 0, 0, 0, 0) := zp_l zq_93 rfl
theorem p_93_15 : zP1 93 15 = some (.istore_n 3, 0, 0, 0) := zp_l zq_93 rfl
theorem p_93_16 : zP1 93 16 = some (.iload_n 3, 0, 0, 0) := zp_l zq_93 rfl
theorem p_93_17 : zP1 93 17 = some (.iload_n 1, 0, 0, 0) := zp_l zq_93 rfl
theorem p_93_18 : zP1 93 18 = some (.if_icmp .ge 80, 0, 0, 0) := zp_l zq_93 rfl
theorem p_93_21 : zP1 93 21 = some (.aload_n 0, 0, 0, 0) := zp_l zq_93 rfl
theorem p_93_22 : zP1 93 22 = some (.getfield 16, 6, 0, 0) := zp_r zq_93 rfl
theorem p_93_25 : zP1 93 25 = some (.dup, 0, 0, 0) := zp_l zq_93 rfl
theorem p_93_26 : zP1 93 26 = some (.getfield 31, 9, 0, 0) := zp_r zq_93 rfl
theorem p_93_29 : zP1 93 29 = some (.iconst 1, 0, 0, 0) := zp_l zq_93 rfl
theorem p_93_30 : zP1 93 30 = some (.iadd, 0, 0, 0) := zp_l zq_93 rfl
theorem p_93_31 : zP1 93 31 = some (.putfield 31, 9, 0, 0) := zp_r zq_93 rfl
theorem p_93_34 : zP1 93 34 = some (.iconst 0, 0, 0, 0) := zp_l zq_93 rfl
theorem p_93_35 : zP1 93 35 = some (.istore 4, 0, 0, 0) := zp_l zq_93 rfl
theorem p_93_37 : zP1 93 37 = some (.iconst 0, 0, 0, 0) := zp_l zq_93 rfl
theorem p_93_38 : zP1 93 38 = some (.istore 5, 0, 0, 0) := zp_l zq_93 rfl
theorem p_93_40 : zP1 93 40 = some (.iload 5, 0, 0, 0) := zp_l zq_93 rfl
theorem p_93_42 : zP1 93 42 = some (.aload_n 0, 0, 0, 0) := zp_l zq_93 rfl
theorem p_93_43 : zP1 93 43 = some (.getfield 16, 6, 0, 0) := zp_r zq_93 rfl
theorem p_93_46 : zP1 93 46 = some (.getfield 37, 9, 5, 0) := zp_r zq_93 rfl
theorem p_93_49 : zP1 93 49 = some (.getfield 41, 7, 3, 0) := zp_r zq_93 rfl
theorem p_93_52 : zP1 93 52 = some (.if_icmp .ge 28, 0, 0, 0) := zp_l zq_93 rfl
theorem p_93_55 : zP1 93 55 = some (.iload 5, 0, 0, 0) := zp_l zq_93 rfl
theorem p_93_57 : zP1 93 57 = some (.bipush 16, 0, 0, 0) := zp_l zq_93 rfl
theorem p_93_59 : zP1 93 59 = some (.if_icmp .ge 21, 0, 0, 0) := zp_l zq_93 rfl
theorem p_93_62 : zP1 93 62 = some (.aload_n 0, 0, 0, 0) := zp_l zq_93 rfl
theorem p_93_63 : zP1 93 63 = some (.iload 5, 0, 0, 0) := zp_l zq_93 rfl
theorem p_93_65 : zP1 93 65 = some (.invokevirtual 46, 95, 1, 6) := zp_r zq_93 rfl
theorem p_93_68 : zP1 93 68 = some (.ifCond .eq 6, 0, 0, 0) := zp_l zq_93 rfl
theorem p_93_71 : zP1 93 71 = some (.iconst 1, 0, 0, 0) := zp_l zq_93 rfl
theorem p_93_72 : zP1 93 72 = some (.istore 4, 0, 0, 0) := zp_l zq_93 rfl
theorem p_93_74 : zP1 93 74 = some (.iinc 5 1, 0, 0, 0) := zp_l zq_93 rfl
theorem p_93_77 : zP1 93 77 = some (.goto (-37), 0, 0, 0) := zp_l zq_93 rfl
theorem p_93_80 : zP1 93 80 = some (.aload_n 0, 0, 0, 0) := zp_l zq_93 rfl
theorem p_93_81 : zP1 93 81 = some (.invokevirtual 50, 99, 0, 6) := zp_r zq_93 rfl
theorem p_93_84 : zP1 93 84 = some (.iload 4, 0, 0, 0) := zp_l zq_93 rfl
theorem p_93_86 : zP1 93 86 = some (.ifCond .ne 6, 0, 0, 0) := zp_l zq_93 rfl
theorem p_93_89 : zP1 93 89 = some (.goto 9, 0, 0, 0) := zp_l zq_93 rfl
theorem p_93_92 : zP1 93 92 = some (.iinc 3 1, 0, 0, 0) := zp_l zq_93 rfl
theorem p_93_95 : zP1 93 95 = some (.goto (-79), 0, 0, 0) := zp_l zq_93 rfl
theorem p_93_98 : zP1 93 98 = some (.aload_n 0, 0, 0, 0) := zp_l zq_93 rfl
theorem p_93_99 : zP1 93 99 = some (.getfield 16, 6, 0, 0) := zp_r zq_93 rfl
theorem p_93_102 : zP1 93 102 = some (.iload_n 2, 0, 0, 0) := zp_l zq_93 rfl
theorem p_93_103 : zP1 93 103 = some (.putfield 31, 9, 0, 0) := zp_r zq_93 rfl
theorem p_93_106 : zP1 93 106 = some (.return_, 0, 0, 0) := zp_l zq_93 rfl
theorem b_93_0 {x1 : Int} : Z e (d + 1) 93 0 [.ref 208, .int (iI x1), .retAddr 0, .retAddr 0, .retAddr 0, .retAddr 0] [] m = (Z e d 94 0 [.ref 208, .retAddr 0, .retAddr 0] [] m).bind (ZK e (d + 1) 93 4 [.ref 208, .int (iI x1), .retAddr 0, .retAddr 0, .retAddr 0, .retAddr 0] [] m) := (s_al_0 p_93_0).trans <| (s_cv0 (Lc := [.ref 208, .retAddr 0, .retAddr 0]) p_93_1 (by decide) (by decide) (zM_of zq_94) ⟨Nat.le_of_ble_eq_true rfl, Nat.le_of_ble_eq_true rfl⟩ rfl (m_rc hs_208 ⟨rfl, by decide⟩))
theorem b_93_4 {x1 : Int} {u2 u3 u4 u5 : Value} : Z e (d + 1) 93 4 [.ref 208, .int (iI x1), u2, u3, u4, u5] [] m = Z e (d + 1) 93 16 [.ref 208, .int (iI x1), .int (iI ((m 1 0) + x1)), .int (iI 0), u4, u5] [] m := (s_al_0 p_93_4).trans <| (s_getr p_93_5 hs_208 (by decide) rfl).trans <| (s_get p_93_8 hs_1 (by decide) rfl).trans <| (s_il_1 p_93_11).trans <| (s_iadd p_93_12).trans <| (s_is_2 cat_i p_93_13).trans <| (s_const p_93_14).trans <| (s_is_3 cat_i p_93_15).trans <| rfl
theorem b_93_16 {x1 : Int} {x2 : Int} {x3 : Int} {u4 u5 : Value} : Z e (d + 1) 93 16 [.ref 208, .int (iI x1), .int (iI x2), .int (iI x3), u4, u5] [] m = (if (wr x3) < (wr x1) then Z e (d + 1) 93 40 [.ref 208, .int (iI x1), .int (iI x2), .int (iI x3), .int (iI 0), .int (iI 0)] [] (um m 1 0 ((m 1 0) + 1)) else rn (um m 1 0 x2)) := (s_il_3 p_93_16).trans <| (s_il_1 p_93_17).trans <| Eq.trans ((s_c_ge_f p_93_18 rfl rfl rfl)) <| ite_cg ((s_al_0 p_93_21).trans <| (s_getr p_93_22 hs_208 (by decide) rfl).trans <| (s_dup cat_r p_93_25).trans <| (s_get p_93_26 hs_1 (by decide) rfl).trans <| (s_const p_93_29).trans <| (s_iadd p_93_30).trans <| (s_put p_93_31 hs_1 (by decide) rfl).trans <| (s_const p_93_34).trans <| (s_is_4 cat_i p_93_35).trans <| (s_const p_93_37).trans <| (s_is_5 cat_i p_93_38).trans <| rfl) ((s_al_0 p_93_98).trans <| (s_getr p_93_99 hs_208 (by decide) rfl).trans <| (s_il_2 p_93_102).trans <| (s_put p_93_103 hs_1 (by decide) rfl).trans <| (s_retv p_93_106 (zM_of zq_93)))
theorem b_93_40 {x1 : Int} {x2 : Int} {x3 : Int} {x4 : Int} {x5 : Int} : Z e (d + 1) 93 40 [.ref 208, .int (iI x1), .int (iI x2), .int (iI x3), .int (iI x4), .int (iI x5)] [] m = (if ((wr x5) < (wr (m 4 3))) ∧ ((wr x5) < 16) then (Z e d 95 0 [.ref 208, .int (iI x5), .retAddr 0, .retAddr 0, .retAddr 0, .retAddr 0] [] m).bind (ZK e (d + 1) 93 68 [.ref 208, .int (iI x1), .int (iI x2), .int (iI x3), .int (iI x4), .int (iI x5)] [] m) else Z e (d + 1) 93 80 [.ref 208, .int (iI x1), .int (iI x2), .int (iI x3), .int (iI x4), .int (iI x5)] [] m) := (s_il_5 p_93_40).trans <| (s_al_0 p_93_42).trans <| (s_getr p_93_43 hs_208 (by decide) rfl).trans <| (s_getr p_93_46 hs_1 (by decide) rfl).trans <| (s_get p_93_49 hs_4 (by decide) rfl).trans <| Eq.trans (Eq.trans (s_c_ge_f p_93_52 rfl rfl rfl) <| Eq.trans (ite_cg ((s_il_5 p_93_55).trans <| (s_bip p_93_57 rfl).trans <| (s_c_ge_f p_93_59 rfl rfl wl_16)) rfl) co_and) <| ite_cg ((s_al_0 p_93_62).trans <| (s_il_5 p_93_63).trans <| (s_cv1 (Lc := [.ref 208, .int (iI x5), .retAddr 0, .retAddr 0, .retAddr 0, .retAddr 0]) p_93_65 (by decide) (by decide) (zM_of zq_95) ⟨Nat.le_of_ble_eq_true rfl, Nat.le_of_ble_eq_true rfl⟩ rfl (m_rc hs_208 ⟨rfl, by decide⟩))) (rfl)
theorem b_93_80 {x1 : Int} {x2 : Int} {x3 : Int} {x4 : Int} {u5 : Value} : Z e (d + 1) 93 80 [.ref 208, .int (iI x1), .int (iI x2), .int (iI x3), .int (iI x4), u5] [] m = (Z e d 99 0 [.ref 208, .retAddr 0, .retAddr 0, .retAddr 0] [] m).bind (ZK e (d + 1) 93 84 [.ref 208, .int (iI x1), .int (iI x2), .int (iI x3), .int (iI x4), u5] [] m) := (s_al_0 p_93_80).trans <| (s_cv0 (Lc := [.ref 208, .retAddr 0, .retAddr 0, .retAddr 0]) p_93_81 (by decide) (by decide) (zM_of zq_99) ⟨Nat.le_of_ble_eq_true rfl, Nat.le_of_ble_eq_true rfl⟩ rfl (m_rc hs_208 ⟨rfl, by decide⟩))
theorem b_93_68 {x1 : Int} {x2 : Int} {x3 : Int} {x4 : Int} {x5 : Int} {xs0 : Int} : Z e (d + 1) 93 68 [.ref 208, .int (iI x1), .int (iI x2), .int (iI x3), .int (iI x4), .int (iI x5)] [.int (iI xs0)] m = Z e (d + 1) 93 40 [.ref 208, .int (iI x1), .int (iI x2), .int (iI x3), .int (iI (if ¬ (wr xs0) = 0 then 1 else x4)), .int (iI (x5 + 1))] [] m := Eq.trans (Eq.trans ((s_z_eq_f p_93_68 rfl rfl)) <| Eq.trans (ite_cg ((s_const p_93_71).trans <| (s_is_4 cat_i p_93_72).trans <| rfl) (rfl)) (phi1 (fun z0 => Z e (d + 1) 93 74 [.ref 208, .int (iI x1), .int (iI x2), .int (iI x3), .int (iI z0), .int (iI x5)] [] m))) <| (s_inc_5 cat_i p_93_74).trans <| (s_goto p_93_77 rfl).trans <| rfl
theorem b_93_84 {x1 : Int} {x2 : Int} {x3 : Int} {x4 : Int} {u5 : Value} : Z e (d + 1) 93 84 [.ref 208, .int (iI x1), .int (iI x2), .int (iI x3), .int (iI x4), u5] [] m = (if (wr x4) = 0 then rn (um m 1 0 x2) else Z e (d + 1) 93 16 [.ref 208, .int (iI x1), .int (iI x2), .int (iI (x3 + 1)), .int (iI x4), u5] [] m) := (s_il_4 p_93_84).trans <| Eq.trans ((s_z_ne_f p_93_86 rfl rfl)) <| ite_cg ((s_goto p_93_89 rfl).trans <| (s_al_0 p_93_98).trans <| (s_getr p_93_99 hs_208 (by decide) rfl).trans <| (s_il_2 p_93_102).trans <| (s_put p_93_103 hs_1 (by decide) rfl).trans <| (s_retv p_93_106 (zM_of zq_93))) ((s_inc_3 cat_i p_93_92).trans <| (s_goto p_93_95 rfl).trans <| rfl)
-- Table.isFull
theorem p_103_0 : zP1 103 0 = some (.aload_n 0, 0, 0, 0) := zp_l zq_103 rfl
theorem p_103_1 : zP1 103 1 = some (.getfield 22, 7, 3, 0) := zp_r zq_103 rfl
theorem p_103_4 : zP1 103 4 = some (.aload_n 0, 0, 0, 0) := zp_l zq_103 rfl
theorem p_103_5 : zP1 103 5 = some (.getfield 9, 7, 2, 0) := zp_r zq_103 rfl
theorem p_103_8 : zP1 103 8 = some (.if_icmp .lt 7, 0, 0, 0) := zp_l zq_103 rfl
theorem p_103_11 : zP1 103 11 = some (.iconst 1, 0, 0, 0) := zp_l zq_103 rfl
theorem p_103_12 : zP1 103 12 = some (.goto 4, 0, 0, 0) := zp_l zq_103 rfl
theorem p_103_15 : zP1 103 15 = some (.iconst 0, 0, 0, 0) := zp_l zq_103 rfl
theorem p_103_16 : zP1 103 16 = some (.ireturn, 0, 0, 0) := zp_l zq_103 rfl
theorem b_103_0 {a ca w mx : Nat} (hT : zTab a ca w mx) : Z e d 103 0 [.ref a] [] m = ri (if (wr (mx : Int)) ≤ (wr (m a 3)) then 1 else 0) m := (s_al_0 p_103_0).trans <| (s_get p_103_1 (hT).1 (by decide) rfl).trans <| (s_al_0 p_103_4).trans <| (s_getr p_103_5 (hT).1 (by decide) rfl).trans <| Eq.trans (Eq.trans ((s_c_lt_f p_103_8 rfl rfl rfl)) <| Eq.trans (ite_cg ((s_const p_103_11).trans <| (s_goto p_103_12 rfl).trans <| rfl) ((s_const p_103_15).trans <| rfl)) (phi1 (fun z0 => Z e d 103 16 [.ref a] [.int (iI z0)] m))) <| (s_retb p_103_16 (zM_of zq_103))
-- Table.isAnyAt
theorem p_107_0 : zP1 107 0 = some (.iconst 0, 0, 0, 0) := zp_l zq_107 rfl
theorem p_107_1 : zP1 107 1 = some (.istore_n 2, 0, 0, 0) := zp_l zq_107 rfl
theorem p_107_2 : zP1 107 2 = some (.iload_n 2, 0, 0, 0) := zp_l zq_107 rfl
theorem p_107_3 : zP1 107 3 = some (.aload_n 0, 0, 0, 0) := zp_l zq_107 rfl
theorem p_107_4 : zP1 107 4 = some (.getfield 22, 7, 3, 0) := zp_r zq_107 rfl
theorem p_107_7 : zP1 107 7 = some (.if_icmp .ge 28, 0, 0, 0) := zp_l zq_107 rfl
theorem p_107_10 : zP1 107 10 = some (.aload_n 0, 0, 0, 0) := zp_l zq_107 rfl
theorem p_107_11 : zP1 107 11 = some (.getfield 18, 7, 1, 0) := zp_r zq_107 rfl
theorem p_107_14 : zP1 107 14 = some (.iload_n 2, 0, 0, 0) := zp_l zq_107 rfl
theorem p_107_15 : zP1 107 15 = some (.aload_n 0, 0, 0, 0) := zp_l zq_107 rfl
theorem p_107_16 : zP1 107 16 = some (.getfield 15, 7, 0, 0) := zp_r zq_107 rfl
theorem p_107_19 : zP1 107 19 = some (.imul, 0, 0, 0) := zp_l zq_107 rfl
theorem p_107_20 : zP1 107 20 = some (.iconst 0, 0, 0, 0) := zp_l zq_107 rfl
theorem p_107_21 : zP1 107 21 = some (.iadd, 0, 0, 0) := zp_l zq_107 rfl
theorem p_107_22 : zP1 107 22 = some (.iaload, 0, 0, 0) := zp_l zq_107 rfl
theorem p_107_23 : zP1 107 23 = some (.iload_n 1, 0, 0, 0) := zp_l zq_107 rfl
theorem p_107_24 : zP1 107 24 = some (.if_icmp .ne 5, 0, 0, 0) := zp_l zq_107 rfl
theorem p_107_27 : zP1 107 27 = some (.iconst 1, 0, 0, 0) := zp_l zq_107 rfl
theorem p_107_28 : zP1 107 28 = some (.ireturn, 0, 0, 0) := zp_l zq_107 rfl
theorem p_107_29 : zP1 107 29 = some (.iinc 2 1, 0, 0, 0) := zp_l zq_107 rfl
theorem p_107_32 : zP1 107 32 = some (.goto (-30), 0, 0, 0) := zp_l zq_107 rfl
theorem p_107_35 : zP1 107 35 = some (.iconst 0, 0, 0, 0) := zp_l zq_107 rfl
theorem p_107_36 : zP1 107 36 = some (.ireturn, 0, 0, 0) := zp_l zq_107 rfl
theorem b_107_0 {a ca w mx : Nat} {x1 : Int} (hT : zTab a ca w mx) : Z e d 107 0 [.ref a, .int (iI x1), .retAddr 0] [] m = Z e d 107 2 [.ref a, .int (iI x1), .int (iI 0)] [] m := (s_const p_107_0).trans <| (s_is_2 cat_i p_107_1).trans <| rfl
theorem b_107_2 {a ca w mx : Nat} {x1 : Int} {x2 : Int} (hT : zTab a ca w mx) : Z e d 107 2 [.ref a, .int (iI x1), .int (iI x2)] [] m = (if (wr x2) < (wr (m a 3)) then ck (0 ≤ (wr ((x2 * (w : Int)) + 0)) ∧ (wr ((x2 * (w : Int)) + 0)) < ((mx * w : Nat) : Int)) ((if (wr (m ca (wr ((x2 * (w : Int)) + 0)))) = (wr x1) then ri 1 m else Z e d 107 2 [.ref a, .int (iI x1), .int (iI (x2 + 1))] [] m)) else ri 0 m) := (s_il_2 p_107_2).trans <| (s_al_0 p_107_3).trans <| (s_get p_107_4 (hT).1 (by decide) rfl).trans <| Eq.trans ((s_c_ge_f p_107_7 rfl rfl rfl)) <| ite_cg ((s_al_0 p_107_10).trans <| (s_getr p_107_11 (hT).1 (by decide) rfl).trans <| (s_il_2 p_107_14).trans <| (s_al_0 p_107_15).trans <| (s_getr p_107_16 (hT).1 (by decide) rfl).trans <| (s_imul p_107_19).trans <| (s_const p_107_20).trans <| (s_iadd p_107_21).trans <| (s_ald ((mx * w : Nat) : Int) p_107_22 (hT.2).1 rfl (hT.2).2).trans <| ck_cg fun k1 => (s_il_1 p_107_23).trans <| Eq.trans ((s_c_ne_f p_107_24 rfl rfl rfl)) <| ite_cg ((s_const p_107_27).trans <| (s_retk rfl p_107_28 (zM_of zq_107))) ((s_inc_2 cat_i p_107_29).trans <| (s_goto p_107_32 rfl).trans <| rfl)) ((s_const p_107_35).trans <| (s_retk rfl p_107_36 (zM_of zq_107)))
-- Version.copyFrom
theorem p_111_0 : zP1 111 0 = some (.aload_n 0, 0, 0, 0) := zp_l zq_111 rfl
theorem p_111_1 : zP1 111 1 = some (.aload_n 1, 0, 0, 0) := zp_l zq_111 rfl
theorem p_111_2 : zP1 111 2 = some (.getfield 34, 8, 0, 0) := zp_r zq_111 rfl
theorem p_111_5 : zP1 111 5 = some (.putfield 34, 8, 0, 0) := zp_r zq_111 rfl
theorem p_111_8 : zP1 111 8 = some (.aload_n 0, 0, 0, 0) := zp_l zq_111 rfl
theorem p_111_9 : zP1 111 9 = some (.aload_n 1, 0, 0, 0) := zp_l zq_111 rfl
theorem p_111_10 : zP1 111 10 = some (.getfield 37, 8, 1, 0) := zp_r zq_111 rfl
theorem p_111_13 : zP1 111 13 = some (.putfield 37, 8, 1, 0) := zp_r zq_111 rfl
theorem p_111_16 : zP1 111 16 = some (.aload_n 0, 0, 0, 0) := zp_l zq_111 rfl
theorem p_111_17 : zP1 111 17 = some (.aload_n 1, 0, 0, 0) := zp_l zq_111 rfl
theorem p_111_18 : zP1 111 18 = some (.getfield 40, 8, 2, 0) := zp_r zq_111 rfl
theorem p_111_21 : zP1 111 21 = some (.putfield 40, 8, 2, 0) := zp_r zq_111 rfl
theorem p_111_24 : zP1 111 24 = some (.aload_n 0, 0, 0, 0) := zp_l zq_111 rfl
theorem p_111_25 : zP1 111 25 = some (.aload_n 1, 0, 0, 0) := zp_l zq_111 rfl
theorem p_111_26 : zP1 111 26 = some (.getfield 27, 8, 3, 0) := zp_r zq_111 rfl
theorem p_111_29 : zP1 111 29 = some (.putfield 27, 8, 3, 0) := zp_r zq_111 rfl
theorem p_111_32 : zP1 111 32 = some (.aload_n 0, 0, 0, 0) := zp_l zq_111 rfl
theorem p_111_33 : zP1 111 33 = some (.aload_n 1, 0, 0, 0) := zp_l zq_111 rfl
theorem p_111_34 : zP1 111 34 = some (.getfield 31, 8, 4, 0) := zp_r zq_111 rfl
theorem p_111_37 : zP1 111 37 = some (.putfield 31, 8, 4, 0) := zp_r zq_111 rfl
theorem p_111_40 : zP1 111 40 = some (.aload_n 1, 0, 0, 0) := zp_l zq_111 rfl
theorem p_111_41 : zP1 111 41 = some (.getfield 9, 8, 5, 0) := zp_r zq_111 rfl
theorem p_111_44 : zP1 111 44 = some (.iconst 0, 0, 0, 0) := zp_l zq_111 rfl
theorem p_111_45 : zP1 111 45 = some (.aload_n 0, 0, 0, 0) := zp_l zq_111 rfl
theorem p_111_46 : zP1 111 46 = some (.getfield 9, 8, 5, 0) := zp_r zq_111 rfl
theorem p_111_49 : zP1 111 49 = some (.iconst 0, 0, 0, 0) := zp_l zq_111 rfl
theorem p_111_50 : zP1 111 50 = some (.bipush 10, 0, 0, 0) := zp_l zq_111 rfl
theorem p_111_52 : zP1 111 52 = some (.invokestatic 43, 9999, 0, 0) := zp_r zq_111 rfl
theorem p_111_55 : zP1 111 55 = some (.aload_n 1, 0, 0, 0) := zp_l zq_111 rfl
theorem p_111_56 : zP1 111 56 = some (.getfield 15, 8, 6, 0) := zp_r zq_111 rfl
theorem p_111_59 : zP1 111 59 = some (.iconst 0, 0, 0, 0) := zp_l zq_111 rfl
theorem p_111_60 : zP1 111 60 = some (.aload_n 0, 0, 0, 0) := zp_l zq_111 rfl
theorem p_111_61 : zP1 111 61 = some (.getfield 15, 8, 6, 0) := zp_r zq_111 rfl
theorem p_111_64 : zP1 111 64 = some (.iconst 0, 0, 0, 0) := zp_l zq_111 rfl
theorem p_111_65 : zP1 111 65 = some (.bipush 10, 0, 0, 0) := zp_l zq_111 rfl
theorem p_111_67 : zP1 111 67 = some (.invokestatic 43, 9999, 0, 0) := zp_r zq_111 rfl
theorem p_111_70 : zP1 111 70 = some (.aload_n 1, 0, 0, 0) := zp_l zq_111 rfl
theorem p_111_71 : zP1 111 71 = some (.getfield 18, 8, 7, 0) := zp_r zq_111 rfl
theorem p_111_74 : zP1 111 74 = some (.iconst 0, 0, 0, 0) := zp_l zq_111 rfl
theorem p_111_75 : zP1 111 75 = some (.aload_n 0, 0, 0, 0) := zp_l zq_111 rfl
theorem p_111_76 : zP1 111 76 = some (.getfield 18, 8, 7, 0) := zp_r zq_111 rfl
theorem p_111_79 : zP1 111 79 = some (.iconst 0, 0, 0, 0) := zp_l zq_111 rfl
theorem p_111_80 : zP1 111 80 = some (.bipush 10, 0, 0, 0) := zp_l zq_111 rfl
theorem p_111_82 : zP1 111 82 = some (.invokestatic 43, 9999, 0, 0) := zp_r zq_111 rfl
theorem p_111_85 : zP1 111 85 = some (.aload_n 1, 0, 0, 0) := zp_l zq_111 rfl
theorem p_111_86 : zP1 111 86 = some (.getfield 21, 8, 8, 0) := zp_r zq_111 rfl
theorem p_111_89 : zP1 111 89 = some (.iconst 0, 0, 0, 0) := zp_l zq_111 rfl
theorem p_111_90 : zP1 111 90 = some (.aload_n 0, 0, 0, 0) := zp_l zq_111 rfl
theorem p_111_91 : zP1 111 91 = some (.getfield 21, 8, 8, 0) := zp_r zq_111 rfl
theorem p_111_94 : zP1 111 94 = some (.iconst 0, 0, 0, 0) := zp_l zq_111 rfl
theorem p_111_95 : zP1 111 95 = some (.bipush 10, 0, 0, 0) := zp_l zq_111 rfl
theorem p_111_97 : zP1 111 97 = some (.invokestatic 43, 9999, 0, 0) := zp_r zq_111 rfl
theorem p_111_100 : zP1 111 100 = some (.aload_n 1, 0, 0, 0) := zp_l zq_111 rfl
theorem p_111_101 : zP1 111 101 = some (.getfield 24, 8, 9, 0) := zp_r zq_111 rfl
theorem p_111_104 : zP1 111 104 = some (.iconst 0, 0, 0, 0) := zp_l zq_111 rfl
theorem p_111_105 : zP1 111 105 = some (.aload_n 0, 0, 0, 0) := zp_l zq_111 rfl
theorem p_111_106 : zP1 111 106 = some (.getfield 24, 8, 9, 0) := zp_r zq_111 rfl
theorem p_111_109 : zP1 111 109 = some (.iconst 0, 0, 0, 0) := zp_l zq_111 rfl
theorem p_111_110 : zP1 111 110 = some (.bipush 100, 0, 0, 0) := zp_l zq_111 rfl
theorem p_111_112 : zP1 111 112 = some (.invokestatic 43, 9999, 0, 0) := zp_r zq_111 rfl
theorem p_111_115 : zP1 111 115 = some (.return_, 0, 0, 0) := zp_l zq_111 rfl
theorem b_111_0 {a : Nat} {a2 : Nat} (hV : zVer a) (hV2 : zVer a2) : Z e d 111 0 [.ref a, .ref a2] [] m = ck (0 ≤ (wr 10) ∧ 0 ≤ (wr 0) ∧ 0 ≤ (wr 0) ∧ (wr 0) + (wr 10) ≤ 10 ∧ (wr 0) + (wr 10) ≤ 10) (ck (0 ≤ (wr 10) ∧ 0 ≤ (wr 0) ∧ 0 ≤ (wr 0) ∧ (wr 0) + (wr 10) ≤ 10 ∧ (wr 0) + (wr 10) ≤ 10) (ck (0 ≤ (wr 10) ∧ 0 ≤ (wr 0) ∧ 0 ≤ (wr 0) ∧ (wr 0) + (wr 10) ≤ 10 ∧ (wr 0) + (wr 10) ≤ 10) (ck (0 ≤ (wr 10) ∧ 0 ≤ (wr 0) ∧ 0 ≤ (wr 0) ∧ (wr 0) + (wr 10) ≤ 10 ∧ (wr 0) + (wr 10) ≤ 10) (ck (0 ≤ (wr 100) ∧ 0 ≤ (wr 0) ∧ 0 ≤ (wr 0) ∧ (wr 0) + (wr 100) ≤ 100 ∧ (wr 0) + (wr 100) ≤ 100) (rn (uc (uc (uc (uc (uc (um (um (um (um (um m a 0 (m a2 0)) a 1 ((um m a 0 (m a2 0)) a2 1)) a 2 ((um (um m a 0 (m a2 0)) a 1 ((um m a 0 (m a2 0)) a2 1)) a2 2)) a 3 ((um (um (um m a 0 (m a2 0)) a 1 ((um m a 0 (m a2 0)) a2 1)) a 2 ((um (um m a 0 (m a2 0)) a 1 ((um m a 0 (m a2 0)) a2 1)) a2 2)) a2 3)) a 4 ((um (um (um (um m a 0 (m a2 0)) a 1 ((um m a 0 (m a2 0)) a2 1)) a 2 ((um (um m a 0 (m a2 0)) a 1 ((um m a 0 (m a2 0)) a2 1)) a2 2)) a 3 ((um (um (um m a 0 (m a2 0)) a 1 ((um m a 0 (m a2 0)) a2 1)) a 2 ((um (um m a 0 (m a2 0)) a 1 ((um m a 0 (m a2 0)) a2 1)) a2 2)) a2 3)) a2 4)) (a2 + 1) (wr 0) (a + 1) (wr 0) (wr 10)) (a2 + 2) (wr 0) (a + 2) (wr 0) (wr 10)) (a2 + 3) (wr 0) (a + 3) (wr 0) (wr 10)) (a2 + 4) (wr 0) (a + 4) (wr 0) (wr 10)) (a2 + 5) (wr 0) (a + 5) (wr 0) (wr 100))))))) := (s_al_0 p_111_0).trans <| (s_al_1 p_111_1).trans <| (s_get p_111_2 (hV2).1 (by decide) rfl).trans <| (s_put p_111_5 (hV).1 (by decide) rfl).trans <| (s_al_0 p_111_8).trans <| (s_al_1 p_111_9).trans <| (s_get p_111_10 (hV2).1 (by decide) rfl).trans <| (s_put p_111_13 (hV).1 (by decide) rfl).trans <| (s_al_0 p_111_16).trans <| (s_al_1 p_111_17).trans <| (s_get p_111_18 (hV2).1 (by decide) rfl).trans <| (s_put p_111_21 (hV).1 (by decide) rfl).trans <| (s_al_0 p_111_24).trans <| (s_al_1 p_111_25).trans <| (s_get p_111_26 (hV2).1 (by decide) rfl).trans <| (s_put p_111_29 (hV).1 (by decide) rfl).trans <| (s_al_0 p_111_32).trans <| (s_al_1 p_111_33).trans <| (s_get p_111_34 (hV2).1 (by decide) rfl).trans <| (s_put p_111_37 (hV).1 (by decide) rfl).trans <| (s_al_1 p_111_40).trans <| (s_getr p_111_41 (hV2).1 (by decide) rfl).trans <| (s_const p_111_44).trans <| (s_al_0 p_111_45).trans <| (s_getr p_111_46 (hV).1 (by decide) rfl).trans <| (s_const p_111_49).trans <| (s_bip p_111_50 rfl).trans <| (s_cpy (n0' := 10) (n1' := 10) p_111_52 (hV2).2.1 (hV).2.1 rfl rfl).trans <| ck_cg fun k1 => (s_al_1 p_111_55).trans <| (s_getr p_111_56 (hV2).1 (by decide) rfl).trans <| (s_const p_111_59).trans <| (s_al_0 p_111_60).trans <| (s_getr p_111_61 (hV).1 (by decide) rfl).trans <| (s_const p_111_64).trans <| (s_bip p_111_65 rfl).trans <| (s_cpy (n0' := 10) (n1' := 10) p_111_67 (hV2).2.2.1 (hV).2.2.1 rfl rfl).trans <| ck_cg fun k2 => (s_al_1 p_111_70).trans <| (s_getr p_111_71 (hV2).1 (by decide) rfl).trans <| (s_const p_111_74).trans <| (s_al_0 p_111_75).trans <| (s_getr p_111_76 (hV).1 (by decide) rfl).trans <| (s_const p_111_79).trans <| (s_bip p_111_80 rfl).trans <| (s_cpy (n0' := 10) (n1' := 10) p_111_82 (hV2).2.2.2.1 (hV).2.2.2.1 rfl rfl).trans <| ck_cg fun k3 => (s_al_1 p_111_85).trans <| (s_getr p_111_86 (hV2).1 (by decide) rfl).trans <| (s_const p_111_89).trans <| (s_al_0 p_111_90).trans <| (s_getr p_111_91 (hV).1 (by decide) rfl).trans <| (s_const p_111_94).trans <| (s_bip p_111_95 rfl).trans <| (s_cpy (n0' := 10) (n1' := 10) p_111_97 (hV2).2.2.2.2.1 (hV).2.2.2.2.1 rfl rfl).trans <| ck_cg fun k4 => (s_al_1 p_111_100).trans <| (s_getr p_111_101 (hV2).1 (by decide) rfl).trans <| (s_const p_111_104).trans <| (s_al_0 p_111_105).trans <| (s_getr p_111_106 (hV).1 (by decide) rfl).trans <| (s_const p_111_109).trans <| (s_bip p_111_110 rfl).trans <| (s_cpy (n0' := 100) (n1' := 100) p_111_112 (hV2).2.2.2.2.2.1 (hV).2.2.2.2.2.1 rfl rfl).trans <| ck_cg fun k5 => (s_retv p_111_115 (zM_of zq_111))
-- World.copyFrom
theorem p_120_0 : zP1 120 0 = some (.aload_n 0, 0, 0, 0) := zp_l zq_120 rfl
theorem p_120_1 : zP1 120 1 = some (.aload_n 1, 0, 0, 0) := zp_l zq_120 rfl
theorem p_120_2 : zP1 120 2 = some (.getfield 57, 9, 0, 0) := zp_r zq_120 rfl
theorem p_120_5 : zP1 120 5 = some (.putfield 57, 9, 0, 0) := zp_r zq_120 rfl
theorem p_120_8 : zP1 120 8 = some (.aload_n 0, 0, 0, 0) := zp_l zq_120 rfl
theorem p_120_9 : zP1 120 9 = some (.aload_n 1, 0, 0, 0) := zp_l zq_120 rfl
theorem p_120_10 : zP1 120 10 = some (.getfield 61, 9, 1, 0) := zp_r zq_120 rfl
theorem p_120_13 : zP1 120 13 = some (.putfield 61, 9, 1, 0) := zp_r zq_120 rfl
theorem p_120_16 : zP1 120 16 = some (.aload_n 0, 0, 0, 0) := zp_l zq_120 rfl
theorem p_120_17 : zP1 120 17 = some (.aload_n 1, 0, 0, 0) := zp_l zq_120 rfl
theorem p_120_18 : zP1 120 18 = some (.getfield 64, 9, 2, 0) := zp_r zq_120 rfl
theorem p_120_21 : zP1 120 21 = some (.putfield 64, 9, 2, 0) := zp_r zq_120 rfl
theorem p_120_24 : zP1 120 24 = some (.aload_n 1, 0, 0, 0) := zp_l zq_120 rfl
theorem p_120_25 : zP1 120 25 = some (.getfield 9, 9, 3, 0) := zp_r zq_120 rfl
theorem p_120_28 : zP1 120 28 = some (.iconst 0, 0, 0, 0) := zp_l zq_120 rfl
theorem p_120_29 : zP1 120 29 = some (.aload_n 0, 0, 0, 0) := zp_l zq_120 rfl
theorem p_120_30 : zP1 120 30 = some (.getfield 9, 9, 3, 0) := zp_r zq_120 rfl
theorem p_120_33 : zP1 120 33 = some (.iconst 0, 0, 0, 0) := zp_l zq_120 rfl
theorem p_120_34 : zP1 120 34 = some (.bipush 100, 0, 0, 0) := zp_l zq_120 rfl
theorem p_120_36 : zP1 120 36 = some (.invokestatic 67, 9999, 0, 0) := zp_r zq_120 rfl
theorem p_120_39 : zP1 120 39 = some (.iconst 0, 0, 0, 0) := zp_l zq_120 rfl
theorem p_120_40 : zP1 120 40 = some (.istore_n 2, 0, 0, 0) := zp_l zq_120 rfl
theorem p_120_41 : zP1 120 41 = some (.iload_n 2, 0, 0, 0) := zp_l zq_120 rfl
theorem p_120_42 : zP1 120 42 = some (.aload_n 0, 0, 0, 0) := zp_l zq_120 rfl
theorem p_120_43 : zP1 120 43 = some (.getfield 64, 9, 2, 0) := zp_r zq_120 rfl
theorem p_120_46 : zP1 120 46 = some (.if_icmp .ge 30, 0, 0, 0) := zp_l zq_120 rfl
theorem p_120_49 : zP1 120 49 = some (.iload_n 2, 0, 0, 0) := zp_l zq_120 rfl
theorem p_120_50 : zP1 120 50 = some (.bipush 12, 0, 0, 0) := zp_l zq_120 rfl
theorem p_120_52 : zP1 120 52 = some (.if_icmp .ge 24, 0, 0, 0) := zp_l zq_120 rfl
theorem p_120_55 : zP1 120 55 = some (.aload_n 0, 0, 0, 0) := zp_l zq_120 rfl
theorem p_120_56 : zP1 120 56 = some (.getfield 17, 9, 4, 0) := zp_r zq_120 rfl
theorem p_120_59 : zP1 120 59 = some (.iload_n 2, 0, 0, 0) := zp_l zq_120 rfl
theorem p_120_60 : zP1 120 60 = some (.aaload, 0, 0, 0) := zp_l zq_120 rfl
theorem p_120_61 : zP1 120 61 = some (.aload_n 1, 0, 0, 0) := zp_l zq_120 rfl
theorem p_120_62 : zP1 120 62 = some (.getfield 17, 9, 4, 0) := zp_r zq_120 rfl
theorem p_120_65 : zP1 120 65 = some (.iload_n 2, 0, 0, 0) := zp_l zq_120 rfl
theorem p_120_66 : zP1 120 66 = some (.aaload, 0, 0, 0) := zp_l zq_120 rfl
theorem p_120_67 : zP1 120 67 = some (.invokevirtual 73, 111, 1, 8) := zp_r zq_120 rfl
theorem p_120_70 : zP1 120 70 = some (.iinc 2 1, 0, 0, 0) := zp_l zq_120 rfl
theorem p_120_73 : zP1 120 73 = some (.goto (-32), 0, 0, 0) := zp_l zq_120 rfl
theorem p_120_76 : zP1 120 76 = some (.aload_n 0, 0, 0, 0) := zp_l zq_120 rfl
theorem p_120_77 : zP1 120 77 = some (.getfield 26, 9, 5, 0) := zp_r zq_120 rfl
theorem p_120_80 : zP1 120 80 = some (.aload_n 1, 0, 0, 0) := zp_l zq_120 rfl
theorem p_120_81 : zP1 120 81 = some (.getfield 26, 9, 5, 0) := zp_r zq_120 rfl
theorem p_120_84 : zP1 120 84 = some (.invokevirtual 77, 108, 1, 7) := zp_r zq_120 rfl
theorem p_120_87 : zP1 120 87 = some (.aload_n 0, 0, 0, 0) := zp_l zq_120 rfl
theorem p_120_88 : zP1 120 88 = some (.getfield 30, 9, 6, 0) := zp_r zq_120 rfl
theorem p_120_91 : zP1 120 91 = some (.aload_n 1, 0, 0, 0) := zp_l zq_120 rfl
theorem p_120_92 : zP1 120 92 = some (.getfield 30, 9, 6, 0) := zp_r zq_120 rfl
theorem p_120_95 : zP1 120 95 = some (.invokevirtual 77, 108, 1, 7) := zp_r zq_120 rfl
theorem p_120_98 : zP1 120 98 = some (.aload_n 0, 0, 0, 0) := zp_l zq_120 rfl
theorem p_120_99 : zP1 120 99 = some (.getfield 33, 9, 7, 0) := zp_r zq_120 rfl
theorem p_120_102 : zP1 120 102 = some (.aload_n 1, 0, 0, 0) := zp_l zq_120 rfl
theorem p_120_103 : zP1 120 103 = some (.getfield 33, 9, 7, 0) := zp_r zq_120 rfl
theorem p_120_106 : zP1 120 106 = some (.invokevirtual 77, 108, 1, 7) := zp_r zq_120 rfl
theorem p_120_109 : zP1 120 109 = some (.aload_n 0, 0, 0, 0) := zp_l zq_120 rfl
theorem p_120_110 : zP1 120 110 = some (.getfield 36, 9, 8, 0) := zp_r zq_120 rfl
theorem p_120_113 : zP1 120 113 = some (.aload_n 1, 0, 0, 0) := zp_l zq_120 rfl
theorem p_120_114 : zP1 120 114 = some (.getfield 36, 9, 8, 0) := zp_r zq_120 rfl
theorem p_120_117 : zP1 120 117 = some (.invokevirtual 77, 108, 1, 7) := zp_r zq_120 rfl
theorem p_120_120 : zP1 120 120 = some (.aload_n 0, 0, 0, 0) := zp_l zq_120 rfl
theorem p_120_121 : zP1 120 121 = some (.getfield 39, 9, 9, 0) := zp_r zq_120 rfl
theorem p_120_124 : zP1 120 124 = some (.aload_n 1, 0, 0, 0) := zp_l zq_120 rfl
theorem p_120_125 : zP1 120 125 = some (.getfield 39, 9, 9, 0) := zp_r zq_120 rfl
theorem p_120_128 : zP1 120 128 = some (.invokevirtual 77, 108, 1, 7) := zp_r zq_120 rfl
theorem p_120_131 : zP1 120 131 = some (.aload_n 0, 0, 0, 0) := zp_l zq_120 rfl
theorem p_120_132 : zP1 120 132 = some (.getfield 42, 9, 10, 0) := zp_r zq_120 rfl
theorem p_120_135 : zP1 120 135 = some (.aload_n 1, 0, 0, 0) := zp_l zq_120 rfl
theorem p_120_136 : zP1 120 136 = some (.getfield 42, 9, 10, 0) := zp_r zq_120 rfl
theorem p_120_139 : zP1 120 139 = some (.invokevirtual 77, 108, 1, 7) := zp_r zq_120 rfl
theorem p_120_142 : zP1 120 142 = some (.aload_n 0, 0, 0, 0) := zp_l zq_120 rfl
theorem p_120_143 : zP1 120 143 = some (.getfield 45, 9, 11, 0) := zp_r zq_120 rfl
theorem p_120_146 : zP1 120 146 = some (.aload_n 1, 0, 0, 0) := zp_l zq_120 rfl
theorem p_120_147 : zP1 120 147 = some (.getfield 45, 9, 11, 0) := zp_r zq_120 rfl
theorem p_120_150 : zP1 120 150 = some (.invokevirtual 77, 108, 1, 7) := zp_r zq_120 rfl
theorem p_120_153 : zP1 120 153 = some (.return_, 0, 0, 0) := zp_l zq_120 rfl
theorem b_120_0 : Z e (d + 1) 120 0 [.ref 90, .ref 1, .retAddr 0] [] m = ck (0 ≤ (wr 100) ∧ 0 ≤ (wr 0) ∧ 0 ≤ (wr 0) ∧ (wr 0) + (wr 100) ≤ 100 ∧ (wr 0) + (wr 100) ≤ 100) (Z e (d + 1) 120 41 [.ref 90, .ref 1, .int (iI 0)] [] (uc (um (um (um m 90 0 (m 1 0)) 90 1 ((um m 90 0 (m 1 0)) 1 1)) 90 2 ((um (um m 90 0 (m 1 0)) 90 1 ((um m 90 0 (m 1 0)) 1 1)) 1 2)) 2 (wr 0) 91 (wr 0) (wr 100))) := (s_al_0 p_120_0).trans <| (s_al_1 p_120_1).trans <| (s_get p_120_2 hs_1 (by decide) rfl).trans <| (s_put p_120_5 hs_90 (by decide) rfl).trans <| (s_al_0 p_120_8).trans <| (s_al_1 p_120_9).trans <| (s_get p_120_10 hs_1 (by decide) rfl).trans <| (s_put p_120_13 hs_90 (by decide) rfl).trans <| (s_al_0 p_120_16).trans <| (s_al_1 p_120_17).trans <| (s_get p_120_18 hs_1 (by decide) rfl).trans <| (s_put p_120_21 hs_90 (by decide) rfl).trans <| (s_al_1 p_120_24).trans <| (s_getr p_120_25 hs_1 (by decide) rfl).trans <| (s_const p_120_28).trans <| (s_al_0 p_120_29).trans <| (s_getr p_120_30 hs_90 (by decide) rfl).trans <| (s_const p_120_33).trans <| (s_bip p_120_34 rfl).trans <| (s_cpy (n0' := 100) (n1' := 100) p_120_36 hs_2 hs_91 rfl rfl).trans <| ck_cg fun k1 => (s_const p_120_39).trans <| (s_is_2 cat_r p_120_40).trans <| rfl
theorem b_120_41 {x2 : Int} : Z e (d + 1) 120 41 [.ref 90, .ref 1, .int (iI x2)] [] m = (if ((wr x2) < (wr (m 90 2))) ∧ ((wr x2) < 12) then ck (0 ≤ (wr x2) ∧ (wr x2) < 12) (ck (0 ≤ (wr x2) ∧ (wr x2) < 12) ((Z e d 111 0 [.ref (107 + 6 * (wr x2).toNat), .ref (18 + 6 * (wr x2).toNat)] [] m).bind (ZK e (d + 1) 120 70 [.ref 90, .ref 1, .int (iI x2)] [] m))) else Z e (d + 1) 120 76 [.ref 90, .ref 1, .int (iI x2)] [] m) := (s_il_2 p_120_41).trans <| (s_al_0 p_120_42).trans <| (s_get p_120_43 hs_90 (by decide) rfl).trans <| Eq.trans (Eq.trans (s_c_ge_f p_120_46 rfl rfl rfl) <| Eq.trans (ite_cg ((s_il_2 p_120_49).trans <| (s_bip p_120_50 rfl).trans <| (s_c_ge_f p_120_52 rfl rfl wl_12)) rfl) co_and) <| ite_cg ((s_al_0 p_120_55).trans <| (s_getr p_120_56 hs_90 (by decide) rfl).trans <| (s_il_2 p_120_59).trans <| (s_aald 12 p_120_60 hs_92 rfl ⟨by decide, by decide⟩ ar_92).trans <| ck_cg fun k3 => (s_al_1 p_120_61).trans <| (s_getr p_120_62 hs_1 (by decide) rfl).trans <| (s_il_2 p_120_65).trans <| (s_aald 12 p_120_66 hs_3 rfl ⟨by decide, by decide⟩ ar_3).trans <| ck_cg fun k4 => (s_cv1 (Lc := [.ref (107 + 6 * (wr x2).toNat), .ref (18 + 6 * (wr x2).toNat)]) p_120_67 (by decide) (by decide) (zM_of zq_111) ⟨Nat.le_of_ble_eq_true rfl, Nat.le_of_ble_eq_true rfl⟩ rfl (m_rc (zVer_1 k3).1 ⟨rfl, by decide⟩))) (rfl)
theorem b_120_76 {u2 : Value} : Z e (d + 1) 120 76 [.ref 90, .ref 1, u2] [] m = (Z e d 108 0 [.ref 93, .ref 4] [] m).bind (ZK e (d + 1) 120 87 [.ref 90, .ref 1, u2] [] m) := (s_al_0 p_120_76).trans <| (s_getr p_120_77 hs_90 (by decide) rfl).trans <| (s_al_1 p_120_80).trans <| (s_getr p_120_81 hs_1 (by decide) rfl).trans <| (s_cv1 (Lc := [.ref 93, .ref 4]) p_120_84 (by decide) (by decide) (zM_of zq_108) ⟨Nat.le_of_ble_eq_true rfl, Nat.le_of_ble_eq_true rfl⟩ rfl (m_rc hs_93 ⟨rfl, by decide⟩))
theorem b_120_70 {x2 : Int} : Z e (d + 1) 120 70 [.ref 90, .ref 1, .int (iI x2)] [] m = Z e (d + 1) 120 41 [.ref 90, .ref 1, .int (iI (x2 + 1))] [] m := (s_inc_2 cat_r p_120_70).trans <| (s_goto p_120_73 rfl).trans <| rfl
theorem b_120_87 {u2 : Value} : Z e (d + 1) 120 87 [.ref 90, .ref 1, u2] [] m = (Z e d 108 0 [.ref 95, .ref 6] [] m).bind (ZK e (d + 1) 120 98 [.ref 90, .ref 1, u2] [] m) := (s_al_0 p_120_87).trans <| (s_getr p_120_88 hs_90 (by decide) rfl).trans <| (s_al_1 p_120_91).trans <| (s_getr p_120_92 hs_1 (by decide) rfl).trans <| (s_cv1 (Lc := [.ref 95, .ref 6]) p_120_95 (by decide) (by decide) (zM_of zq_108) ⟨Nat.le_of_ble_eq_true rfl, Nat.le_of_ble_eq_true rfl⟩ rfl (m_rc hs_95 ⟨rfl, by decide⟩))
theorem b_120_98 {u2 : Value} : Z e (d + 1) 120 98 [.ref 90, .ref 1, u2] [] m = (Z e d 108 0 [.ref 97, .ref 8] [] m).bind (ZK e (d + 1) 120 109 [.ref 90, .ref 1, u2] [] m) := (s_al_0 p_120_98).trans <| (s_getr p_120_99 hs_90 (by decide) rfl).trans <| (s_al_1 p_120_102).trans <| (s_getr p_120_103 hs_1 (by decide) rfl).trans <| (s_cv1 (Lc := [.ref 97, .ref 8]) p_120_106 (by decide) (by decide) (zM_of zq_108) ⟨Nat.le_of_ble_eq_true rfl, Nat.le_of_ble_eq_true rfl⟩ rfl (m_rc hs_97 ⟨rfl, by decide⟩))
theorem b_120_109 {u2 : Value} : Z e (d + 1) 120 109 [.ref 90, .ref 1, u2] [] m = (Z e d 108 0 [.ref 99, .ref 10] [] m).bind (ZK e (d + 1) 120 120 [.ref 90, .ref 1, u2] [] m) := (s_al_0 p_120_109).trans <| (s_getr p_120_110 hs_90 (by decide) rfl).trans <| (s_al_1 p_120_113).trans <| (s_getr p_120_114 hs_1 (by decide) rfl).trans <| (s_cv1 (Lc := [.ref 99, .ref 10]) p_120_117 (by decide) (by decide) (zM_of zq_108) ⟨Nat.le_of_ble_eq_true rfl, Nat.le_of_ble_eq_true rfl⟩ rfl (m_rc hs_99 ⟨rfl, by decide⟩))
theorem b_120_120 {u2 : Value} : Z e (d + 1) 120 120 [.ref 90, .ref 1, u2] [] m = (Z e d 108 0 [.ref 101, .ref 12] [] m).bind (ZK e (d + 1) 120 131 [.ref 90, .ref 1, u2] [] m) := (s_al_0 p_120_120).trans <| (s_getr p_120_121 hs_90 (by decide) rfl).trans <| (s_al_1 p_120_124).trans <| (s_getr p_120_125 hs_1 (by decide) rfl).trans <| (s_cv1 (Lc := [.ref 101, .ref 12]) p_120_128 (by decide) (by decide) (zM_of zq_108) ⟨Nat.le_of_ble_eq_true rfl, Nat.le_of_ble_eq_true rfl⟩ rfl (m_rc hs_101 ⟨rfl, by decide⟩))
theorem b_120_131 {u2 : Value} : Z e (d + 1) 120 131 [.ref 90, .ref 1, u2] [] m = (Z e d 108 0 [.ref 103, .ref 14] [] m).bind (ZK e (d + 1) 120 142 [.ref 90, .ref 1, u2] [] m) := (s_al_0 p_120_131).trans <| (s_getr p_120_132 hs_90 (by decide) rfl).trans <| (s_al_1 p_120_135).trans <| (s_getr p_120_136 hs_1 (by decide) rfl).trans <| (s_cv1 (Lc := [.ref 103, .ref 14]) p_120_139 (by decide) (by decide) (zM_of zq_108) ⟨Nat.le_of_ble_eq_true rfl, Nat.le_of_ble_eq_true rfl⟩ rfl (m_rc hs_103 ⟨rfl, by decide⟩))
theorem b_120_142 {u2 : Value} : Z e (d + 1) 120 142 [.ref 90, .ref 1, u2] [] m = (Z e d 108 0 [.ref 105, .ref 16] [] m).bind (ZK e (d + 1) 120 153 [.ref 90, .ref 1, u2] [] m) := (s_al_0 p_120_142).trans <| (s_getr p_120_143 hs_90 (by decide) rfl).trans <| (s_al_1 p_120_146).trans <| (s_getr p_120_147 hs_1 (by decide) rfl).trans <| (s_cv1 (Lc := [.ref 105, .ref 16]) p_120_150 (by decide) (by decide) (zM_of zq_108) ⟨Nat.le_of_ble_eq_true rfl, Nat.le_of_ble_eq_true rfl⟩ rfl (m_rc hs_105 ⟨rfl, by decide⟩))
theorem b_120_153 {u0 u1 u2 : Value} : Z e (d + 1) 120 153 [u0, u1, u2] [] m = rn m := (s_retv p_120_153 (zM_of zq_120))
theorem b_120_0r : Z e (d + 1) 120 0 [.ref 1, .ref 90, .retAddr 0] [] m = ck (0 ≤ (wr 100) ∧ 0 ≤ (wr 0) ∧ 0 ≤ (wr 0) ∧ (wr 0) + (wr 100) ≤ 100 ∧ (wr 0) + (wr 100) ≤ 100) (Z e (d + 1) 120 41 [.ref 1, .ref 90, .int (iI 0)] [] (uc (um (um (um m 1 0 (m 90 0)) 1 1 ((um m 1 0 (m 90 0)) 90 1)) 1 2 ((um (um m 1 0 (m 90 0)) 1 1 ((um m 1 0 (m 90 0)) 90 1)) 90 2)) 91 (wr 0) 2 (wr 0) (wr 100))) := (s_al_0 p_120_0).trans <| (s_al_1 p_120_1).trans <| (s_get p_120_2 hs_90 (by decide) rfl).trans <| (s_put p_120_5 hs_1 (by decide) rfl).trans <| (s_al_0 p_120_8).trans <| (s_al_1 p_120_9).trans <| (s_get p_120_10 hs_90 (by decide) rfl).trans <| (s_put p_120_13 hs_1 (by decide) rfl).trans <| (s_al_0 p_120_16).trans <| (s_al_1 p_120_17).trans <| (s_get p_120_18 hs_90 (by decide) rfl).trans <| (s_put p_120_21 hs_1 (by decide) rfl).trans <| (s_al_1 p_120_24).trans <| (s_getr p_120_25 hs_90 (by decide) rfl).trans <| (s_const p_120_28).trans <| (s_al_0 p_120_29).trans <| (s_getr p_120_30 hs_1 (by decide) rfl).trans <| (s_const p_120_33).trans <| (s_bip p_120_34 rfl).trans <| (s_cpy (n0' := 100) (n1' := 100) p_120_36 hs_91 hs_2 rfl rfl).trans <| ck_cg fun k1 => (s_const p_120_39).trans <| (s_is_2 cat_r p_120_40).trans <| rfl
theorem b_120_41r {x2 : Int} : Z e (d + 1) 120 41 [.ref 1, .ref 90, .int (iI x2)] [] m = (if ((wr x2) < (wr (m 1 2))) ∧ ((wr x2) < 12) then ck (0 ≤ (wr x2) ∧ (wr x2) < 12) (ck (0 ≤ (wr x2) ∧ (wr x2) < 12) ((Z e d 111 0 [.ref (18 + 6 * (wr x2).toNat), .ref (107 + 6 * (wr x2).toNat)] [] m).bind (ZK e (d + 1) 120 70 [.ref 1, .ref 90, .int (iI x2)] [] m))) else Z e (d + 1) 120 76 [.ref 1, .ref 90, .int (iI x2)] [] m) := (s_il_2 p_120_41).trans <| (s_al_0 p_120_42).trans <| (s_get p_120_43 hs_1 (by decide) rfl).trans <| Eq.trans (Eq.trans (s_c_ge_f p_120_46 rfl rfl rfl) <| Eq.trans (ite_cg ((s_il_2 p_120_49).trans <| (s_bip p_120_50 rfl).trans <| (s_c_ge_f p_120_52 rfl rfl wl_12)) rfl) co_and) <| ite_cg ((s_al_0 p_120_55).trans <| (s_getr p_120_56 hs_1 (by decide) rfl).trans <| (s_il_2 p_120_59).trans <| (s_aald 12 p_120_60 hs_3 rfl ⟨by decide, by decide⟩ ar_3).trans <| ck_cg fun k3 => (s_al_1 p_120_61).trans <| (s_getr p_120_62 hs_90 (by decide) rfl).trans <| (s_il_2 p_120_65).trans <| (s_aald 12 p_120_66 hs_92 rfl ⟨by decide, by decide⟩ ar_92).trans <| ck_cg fun k4 => (s_cv1 (Lc := [.ref (18 + 6 * (wr x2).toNat), .ref (107 + 6 * (wr x2).toNat)]) p_120_67 (by decide) (by decide) (zM_of zq_111) ⟨Nat.le_of_ble_eq_true rfl, Nat.le_of_ble_eq_true rfl⟩ rfl (m_rc (zVer_0 k3).1 ⟨rfl, by decide⟩))) (rfl)
theorem b_120_76r {u2 : Value} : Z e (d + 1) 120 76 [.ref 1, .ref 90, u2] [] m = (Z e d 108 0 [.ref 4, .ref 93] [] m).bind (ZK e (d + 1) 120 87 [.ref 1, .ref 90, u2] [] m) := (s_al_0 p_120_76).trans <| (s_getr p_120_77 hs_1 (by decide) rfl).trans <| (s_al_1 p_120_80).trans <| (s_getr p_120_81 hs_90 (by decide) rfl).trans <| (s_cv1 (Lc := [.ref 4, .ref 93]) p_120_84 (by decide) (by decide) (zM_of zq_108) ⟨Nat.le_of_ble_eq_true rfl, Nat.le_of_ble_eq_true rfl⟩ rfl (m_rc hs_4 ⟨rfl, by decide⟩))
theorem b_120_70r {x2 : Int} : Z e (d + 1) 120 70 [.ref 1, .ref 90, .int (iI x2)] [] m = Z e (d + 1) 120 41 [.ref 1, .ref 90, .int (iI (x2 + 1))] [] m := (s_inc_2 cat_r p_120_70).trans <| (s_goto p_120_73 rfl).trans <| rfl
theorem b_120_87r {u2 : Value} : Z e (d + 1) 120 87 [.ref 1, .ref 90, u2] [] m = (Z e d 108 0 [.ref 6, .ref 95] [] m).bind (ZK e (d + 1) 120 98 [.ref 1, .ref 90, u2] [] m) := (s_al_0 p_120_87).trans <| (s_getr p_120_88 hs_1 (by decide) rfl).trans <| (s_al_1 p_120_91).trans <| (s_getr p_120_92 hs_90 (by decide) rfl).trans <| (s_cv1 (Lc := [.ref 6, .ref 95]) p_120_95 (by decide) (by decide) (zM_of zq_108) ⟨Nat.le_of_ble_eq_true rfl, Nat.le_of_ble_eq_true rfl⟩ rfl (m_rc hs_6 ⟨rfl, by decide⟩))
theorem b_120_98r {u2 : Value} : Z e (d + 1) 120 98 [.ref 1, .ref 90, u2] [] m = (Z e d 108 0 [.ref 8, .ref 97] [] m).bind (ZK e (d + 1) 120 109 [.ref 1, .ref 90, u2] [] m) := (s_al_0 p_120_98).trans <| (s_getr p_120_99 hs_1 (by decide) rfl).trans <| (s_al_1 p_120_102).trans <| (s_getr p_120_103 hs_90 (by decide) rfl).trans <| (s_cv1 (Lc := [.ref 8, .ref 97]) p_120_106 (by decide) (by decide) (zM_of zq_108) ⟨Nat.le_of_ble_eq_true rfl, Nat.le_of_ble_eq_true rfl⟩ rfl (m_rc hs_8 ⟨rfl, by decide⟩))
theorem b_120_109r {u2 : Value} : Z e (d + 1) 120 109 [.ref 1, .ref 90, u2] [] m = (Z e d 108 0 [.ref 10, .ref 99] [] m).bind (ZK e (d + 1) 120 120 [.ref 1, .ref 90, u2] [] m) := (s_al_0 p_120_109).trans <| (s_getr p_120_110 hs_1 (by decide) rfl).trans <| (s_al_1 p_120_113).trans <| (s_getr p_120_114 hs_90 (by decide) rfl).trans <| (s_cv1 (Lc := [.ref 10, .ref 99]) p_120_117 (by decide) (by decide) (zM_of zq_108) ⟨Nat.le_of_ble_eq_true rfl, Nat.le_of_ble_eq_true rfl⟩ rfl (m_rc hs_10 ⟨rfl, by decide⟩))
theorem b_120_120r {u2 : Value} : Z e (d + 1) 120 120 [.ref 1, .ref 90, u2] [] m = (Z e d 108 0 [.ref 12, .ref 101] [] m).bind (ZK e (d + 1) 120 131 [.ref 1, .ref 90, u2] [] m) := (s_al_0 p_120_120).trans <| (s_getr p_120_121 hs_1 (by decide) rfl).trans <| (s_al_1 p_120_124).trans <| (s_getr p_120_125 hs_90 (by decide) rfl).trans <| (s_cv1 (Lc := [.ref 12, .ref 101]) p_120_128 (by decide) (by decide) (zM_of zq_108) ⟨Nat.le_of_ble_eq_true rfl, Nat.le_of_ble_eq_true rfl⟩ rfl (m_rc hs_12 ⟨rfl, by decide⟩))
theorem b_120_131r {u2 : Value} : Z e (d + 1) 120 131 [.ref 1, .ref 90, u2] [] m = (Z e d 108 0 [.ref 14, .ref 103] [] m).bind (ZK e (d + 1) 120 142 [.ref 1, .ref 90, u2] [] m) := (s_al_0 p_120_131).trans <| (s_getr p_120_132 hs_1 (by decide) rfl).trans <| (s_al_1 p_120_135).trans <| (s_getr p_120_136 hs_90 (by decide) rfl).trans <| (s_cv1 (Lc := [.ref 14, .ref 103]) p_120_139 (by decide) (by decide) (zM_of zq_108) ⟨Nat.le_of_ble_eq_true rfl, Nat.le_of_ble_eq_true rfl⟩ rfl (m_rc hs_14 ⟨rfl, by decide⟩))
theorem b_120_142r {u2 : Value} : Z e (d + 1) 120 142 [.ref 1, .ref 90, u2] [] m = (Z e d 108 0 [.ref 16, .ref 105] [] m).bind (ZK e (d + 1) 120 153 [.ref 1, .ref 90, u2] [] m) := (s_al_0 p_120_142).trans <| (s_getr p_120_143 hs_1 (by decide) rfl).trans <| (s_al_1 p_120_146).trans <| (s_getr p_120_147 hs_90 (by decide) rfl).trans <| (s_cv1 (Lc := [.ref 16, .ref 105]) p_120_150 (by decide) (by decide) (zM_of zq_108) ⟨Nat.le_of_ble_eq_true rfl, Nat.le_of_ble_eq_true rfl⟩ rfl (m_rc hs_16 ⟨rfl, by decide⟩))
theorem b_120_153r {u0 u1 u2 : Value} : Z e (d + 1) 120 153 [u0, u1, u2] [] m = rn m := (s_retv p_120_153 (zM_of zq_120))
-- World.isHeld
theorem p_124_0 : zP1 124 0 = some (.aload_n 0, 0, 0, 0) := zp_l zq_124 rfl
theorem p_124_1 : zP1 124 1 = some (.getfield 26, 9, 5, 0) := zp_r zq_124 rfl
theorem p_124_4 : zP1 124 4 = some (.iload_n 1, 0, 0, 0) := zp_l zq_124 rfl
theorem p_124_5 : zP1 124 5 = some (.invokevirtual 86, 107, 1, 7) := zp_r zq_124 rfl
theorem p_124_8 : zP1 124 8 = some (.ifCond .ne 25, 0, 0, 0) := zp_l zq_124 rfl
theorem p_124_11 : zP1 124 11 = some (.aload_n 0, 0, 0, 0) := zp_l zq_124 rfl
theorem p_124_12 : zP1 124 12 = some (.getfield 30, 9, 6, 0) := zp_r zq_124 rfl
theorem p_124_15 : zP1 124 15 = some (.iload_n 1, 0, 0, 0) := zp_l zq_124 rfl
theorem p_124_16 : zP1 124 16 = some (.invokevirtual 86, 107, 1, 7) := zp_r zq_124 rfl
theorem p_124_19 : zP1 124 19 = some (.ifCond .ne 14, 0, 0, 0) := zp_l zq_124 rfl
theorem p_124_22 : zP1 124 22 = some (.aload_n 0, 0, 0, 0) := zp_l zq_124 rfl
theorem p_124_23 : zP1 124 23 = some (.getfield 42, 9, 10, 0) := zp_r zq_124 rfl
theorem p_124_26 : zP1 124 26 = some (.iload_n 1, 0, 0, 0) := zp_l zq_124 rfl
theorem p_124_27 : zP1 124 27 = some (.invokevirtual 86, 107, 1, 7) := zp_r zq_124 rfl
theorem p_124_30 : zP1 124 30 = some (.ifCond .eq 7, 0, 0, 0) := zp_l zq_124 rfl
theorem p_124_33 : zP1 124 33 = some (.iconst 1, 0, 0, 0) := zp_l zq_124 rfl
theorem p_124_34 : zP1 124 34 = some (.goto 4, 0, 0, 0) := zp_l zq_124 rfl
theorem p_124_37 : zP1 124 37 = some (.iconst 0, 0, 0, 0) := zp_l zq_124 rfl
theorem p_124_38 : zP1 124 38 = some (.ireturn, 0, 0, 0) := zp_l zq_124 rfl
theorem b_124_0 {x1 : Int} : Z e (d + 1) 124 0 [.ref 1, .int (iI x1)] [] m = (Z e d 107 0 [.ref 4, .int (iI x1), .retAddr 0] [] m).bind (ZK e (d + 1) 124 8 [.ref 1, .int (iI x1)] [] m) := (s_al_0 p_124_0).trans <| (s_getr p_124_1 hs_1 (by decide) rfl).trans <| (s_il_1 p_124_4).trans <| (s_cv1 (Lc := [.ref 4, .int (iI x1), .retAddr 0]) p_124_5 (by decide) (by decide) (zM_of zq_107) ⟨Nat.le_of_ble_eq_true rfl, Nat.le_of_ble_eq_true rfl⟩ rfl (m_rc hs_4 ⟨rfl, by decide⟩))
theorem b_124_8 {x1 : Int} {xs0 : Int} : Z e (d + 1) 124 8 [.ref 1, .int (iI x1)] [.int (iI xs0)] m = (if (wr xs0) = 0 then (Z e d 107 0 [.ref 6, .int (iI x1), .retAddr 0] [] m).bind (ZK e (d + 1) 124 19 [.ref 1, .int (iI x1)] [] m) else ri 1 m) := Eq.trans ((s_z_ne_f p_124_8 rfl rfl)) <| ite_cg ((s_al_0 p_124_11).trans <| (s_getr p_124_12 hs_1 (by decide) rfl).trans <| (s_il_1 p_124_15).trans <| (s_cv1 (Lc := [.ref 6, .int (iI x1), .retAddr 0]) p_124_16 (by decide) (by decide) (zM_of zq_107) ⟨Nat.le_of_ble_eq_true rfl, Nat.le_of_ble_eq_true rfl⟩ rfl (m_rc hs_6 ⟨rfl, by decide⟩))) ((s_const p_124_33).trans <| (s_goto p_124_34 rfl).trans <| (s_retk rfl p_124_38 (zM_of zq_124)))
theorem b_124_19 {x1 : Int} {xs0 : Int} : Z e (d + 1) 124 19 [.ref 1, .int (iI x1)] [.int (iI xs0)] m = (if (wr xs0) = 0 then (Z e d 107 0 [.ref 14, .int (iI x1), .retAddr 0] [] m).bind (ZK e (d + 1) 124 30 [.ref 1, .int (iI x1)] [] m) else ri 1 m) := Eq.trans ((s_z_ne_f p_124_19 rfl rfl)) <| ite_cg ((s_al_0 p_124_22).trans <| (s_getr p_124_23 hs_1 (by decide) rfl).trans <| (s_il_1 p_124_26).trans <| (s_cv1 (Lc := [.ref 14, .int (iI x1), .retAddr 0]) p_124_27 (by decide) (by decide) (zM_of zq_107) ⟨Nat.le_of_ble_eq_true rfl, Nat.le_of_ble_eq_true rfl⟩ rfl (m_rc hs_14 ⟨rfl, by decide⟩))) ((s_const p_124_33).trans <| (s_goto p_124_34 rfl).trans <| (s_retk rfl p_124_38 (zM_of zq_124)))
theorem b_124_30 {xs0 : Int} {u0 u1 : Value} : Z e (d + 1) 124 30 [u0, u1] [.int (iI xs0)] m = ri (if ¬ (wr xs0) = 0 then 1 else 0) m := Eq.trans (Eq.trans ((s_z_eq_f p_124_30 rfl rfl)) <| Eq.trans (ite_cg ((s_const p_124_33).trans <| (s_goto p_124_34 rfl).trans <| rfl) ((s_const p_124_37).trans <| rfl)) (phi1 (fun z0 => Z e (d + 1) 124 38 [u0, u1] [.int (iI z0)] m))) <| (s_retb p_124_38 (zM_of zq_124))
-- World.addPerson
theorem p_125_0 : zP1 125 0 = some (.aload_n 0, 0, 0, 0) := zp_l zq_125 rfl
theorem p_125_1 : zP1 125 1 = some (.getfield 26, 9, 5, 0) := zp_r zq_125 rfl
theorem p_125_4 : zP1 125 4 = some (.invokevirtual 49, 106, 0, 7) := zp_r zq_125 rfl
theorem p_125_7 : zP1 125 7 = some (.istore_n 3, 0, 0, 0) := zp_l zq_125 rfl
theorem p_125_8 : zP1 125 8 = some (.aload_n 0, 0, 0, 0) := zp_l zq_125 rfl
theorem p_125_9 : zP1 125 9 = some (.getfield 26, 9, 5, 0) := zp_r zq_125 rfl
theorem p_125_12 : zP1 125 12 = some (.iload_n 3, 0, 0, 0) := zp_l zq_125 rfl
theorem p_125_13 : zP1 125 13 = some (.iconst 0, 0, 0, 0) := zp_l zq_125 rfl
theorem p_125_14 : zP1 125 14 = some (.iload_n 1, 0, 0, 0) := zp_l zq_125 rfl
theorem p_125_15 : zP1 125 15 = some (.invokevirtual 53, 105, 3, 7) := zp_r zq_125 rfl
theorem p_125_18 : zP1 125 18 = some (.aload_n 0, 0, 0, 0) := zp_l zq_125 rfl
theorem p_125_19 : zP1 125 19 = some (.getfield 26, 9, 5, 0) := zp_r zq_125 rfl
theorem p_125_22 : zP1 125 22 = some (.iload_n 3, 0, 0, 0) := zp_l zq_125 rfl
theorem p_125_23 : zP1 125 23 = some (.iconst 1, 0, 0, 0) := zp_l zq_125 rfl
theorem p_125_24 : zP1 125 24 = some (.iload_n 2, 0, 0, 0) := zp_l zq_125 rfl
theorem p_125_25 : zP1 125 25 = some (.invokevirtual 53, 105, 3, 7) := zp_r zq_125 rfl
theorem p_125_28 : zP1 125 28 = some (.aload_n 0, 0, 0, 0) := zp_l zq_125 rfl
theorem p_125_29 : zP1 125 29 = some (.getfield 26, 9, 5, 0) := zp_r zq_125 rfl
theorem p_125_32 : zP1 125 32 = some (.iload_n 3, 0, 0, 0) := zp_l zq_125 rfl
theorem p_125_33 : zP1 125 33 = some (.iconst 4, 0, 0, 0) := zp_l zq_125 rfl
theorem p_125_34 : zP1 125 34 = some (.bipush (-3), 0, 0, 0) := zp_l zq_125 rfl
theorem p_125_36 : zP1 125 36 = some (.invokevirtual 53, 105, 3, 7) := zp_r zq_125 rfl
theorem p_125_39 : zP1 125 39 = some (.aload_n 0, 0, 0, 0) := zp_l zq_125 rfl
theorem p_125_40 : zP1 125 40 = some (.getfield 26, 9, 5, 0) := zp_r zq_125 rfl
theorem p_125_43 : zP1 125 43 = some (.iload_n 3, 0, 0, 0) := zp_l zq_125 rfl
theorem p_125_44 : zP1 125 44 = some (.iconst 5, 0, 0, 0) := zp_l zq_125 rfl
theorem p_125_45 : zP1 125 45 = some (.bipush (-3), 0, 0, 0) := zp_l zq_125 rfl
theorem p_125_47 : zP1 125 47 = some (.invokevirtual 53, 105, 3, 7) := zp_r zq_125 rfl
theorem p_125_50 : zP1 125 50 = some (.aload_n 0, 0, 0, 0) := zp_l zq_125 rfl
theorem p_125_51 : zP1 125 51 = some (.getfield 26, 9, 5, 0) := zp_r zq_125 rfl
theorem p_125_54 : zP1 125 54 = some (.iload_n 3, 0, 0, 0) := zp_l zq_125 rfl
theorem p_125_55 : zP1 125 55 = some (.bipush 7, 0, 0, 0) := zp_l zq_125 rfl
theorem p_125_57 : zP1 125 57 = some (.bipush (-3), 0, 0, 0) := zp_l zq_125 rfl
theorem p_125_59 : zP1 125 59 = some (.invokevirtual 53, 105, 3, 7) := zp_r zq_125 rfl
theorem p_125_62 : zP1 125 62 = some (.iconst 0, 0, 0, 0) := zp_l zq_125 rfl
theorem p_125_63 : zP1 125 63 = some (.istore 4, 0, 0, 0) := zp_l zq_125 rfl
theorem p_125_65 : zP1 125 65 = some (.iload 4, 0, 0, 0) := zp_l zq_125 rfl
theorem p_125_67 : zP1 125 67 = some (.bipush 8, 0, 0, 0) := zp_l zq_125 rfl
theorem p_125_69 : zP1 125 69 = some (.if_icmp .ge 24, 0, 0, 0) := zp_l zq_125 rfl
theorem p_125_72 : zP1 125 72 = some (.aload_n 0, 0, 0, 0) := zp_l zq_125 rfl
theorem p_125_73 : zP1 125 73 = some (.getfield 26, 9, 5, 0) := zp_r zq_125 rfl
theorem p_125_76 : zP1 125 76 = some (.iload_n 3, 0, 0, 0) := zp_l zq_125 rfl
theorem p_125_77 : zP1 125 77 = some (.bipush 10, 0, 0, 0) := zp_l zq_125 rfl
theorem p_125_79 : zP1 125 79 = some (.iload 4, 0, 0, 0) := zp_l zq_125 rfl
theorem p_125_81 : zP1 125 81 = some (.iadd, 0, 0, 0) := zp_l zq_125 rfl
theorem p_125_82 : zP1 125 82 = some (.bipush (-3), 0, 0, 0) := zp_l zq_125 rfl
theorem p_125_84 : zP1 125 84 = some (.invokevirtual 53, 105, 3, 7) := zp_r zq_125 rfl
theorem p_125_87 : zP1 125 87 = some (.iinc 4 1, 0, 0, 0) := zp_l zq_125 rfl
theorem p_125_90 : zP1 125 90 = some (.goto (-25), 0, 0, 0) := zp_l zq_125 rfl
theorem p_125_93 : zP1 125 93 = some (.iload_n 3, 0, 0, 0) := zp_l zq_125 rfl
theorem p_125_94 : zP1 125 94 = some (.ireturn, 0, 0, 0) := zp_l zq_125 rfl
theorem b_125_0 {x1 : Int} {x2 : Int} : Z e (d + 1) 125 0 [.ref 1, .int (iI x1), .int (iI x2), .retAddr 0, .retAddr 0] [] m = (Z e d 106 0 [.ref 4, .retAddr 0] [] m).bind (ZK e (d + 1) 125 7 [.ref 1, .int (iI x1), .int (iI x2), .retAddr 0, .retAddr 0] [] m) := (s_al_0 p_125_0).trans <| (s_getr p_125_1 hs_1 (by decide) rfl).trans <| (s_cv0 (Lc := [.ref 4, .retAddr 0]) p_125_4 (by decide) (by decide) (zM_of zq_106) ⟨Nat.le_of_ble_eq_true rfl, Nat.le_of_ble_eq_true rfl⟩ rfl (m_rc hs_4 ⟨rfl, by decide⟩))
theorem b_125_65 {x3 : Int} {x4 : Int} {u1 u2 : Value} : Z e (d + 1) 125 65 [.ref 1, u1, u2, .int (iI x3), .int (iI x4)] [] m = (if (wr x4) < 8 then (Z e d 105 0 [.ref 4, .int (iI x3), .int (iI (10 + x4)), .int (iI (-3))] [] m).bind (ZK e (d + 1) 125 87 [.ref 1, u1, u2, .int (iI x3), .int (iI x4)] [] m) else ri x3 m) := (s_il_4 p_125_65).trans <| (s_bip p_125_67 rfl).trans <| Eq.trans ((s_c_ge_f p_125_69 rfl rfl wl_8)) <| ite_cg ((s_al_0 p_125_72).trans <| (s_getr p_125_73 hs_1 (by decide) rfl).trans <| (s_il_3 p_125_76).trans <| (s_bip p_125_77 rfl).trans <| (s_il_4 p_125_79).trans <| (s_iadd p_125_81).trans <| (s_bip p_125_82 rfl).trans <| (s_cv3 (Lc := [.ref 4, .int (iI x3), .int (iI (10 + x4)), .int (iI (-3))]) p_125_84 (by decide) (by decide) (zM_of zq_105) ⟨Nat.le_of_ble_eq_true rfl, Nat.le_of_ble_eq_true rfl⟩ rfl (m_rc hs_4 ⟨rfl, by decide⟩))) ((s_il_3 p_125_93).trans <| (s_reti p_125_94 (zM_of zq_125)))
theorem b_125_7 {x1 : Int} {x2 : Int} {xs0 : Int} {u3 u4 : Value} : Z e (d + 1) 125 7 [.ref 1, .int (iI x1), .int (iI x2), u3, u4] [.int (iI xs0)] m = (Z e d 105 0 [.ref 4, .int (iI xs0), .int (iI 0), .int (iI x1)] [] m).bind (ZK e (d + 1) 125 18 [.ref 1, .int (iI x1), .int (iI x2), .int (iI xs0), u4] [] m) := (s_is_3 cat_i p_125_7).trans <| (s_al_0 p_125_8).trans <| (s_getr p_125_9 hs_1 (by decide) rfl).trans <| (s_il_3 p_125_12).trans <| (s_const p_125_13).trans <| (s_il_1 p_125_14).trans <| (s_cv3 (Lc := [.ref 4, .int (iI xs0), .int (iI 0), .int (iI x1)]) p_125_15 (by decide) (by decide) (zM_of zq_105) ⟨Nat.le_of_ble_eq_true rfl, Nat.le_of_ble_eq_true rfl⟩ rfl (m_rc hs_4 ⟨rfl, by decide⟩))
theorem b_125_87 {x3 : Int} {x4 : Int} {u1 u2 : Value} : Z e (d + 1) 125 87 [.ref 1, u1, u2, .int (iI x3), .int (iI x4)] [] m = Z e (d + 1) 125 65 [.ref 1, u1, u2, .int (iI x3), .int (iI (x4 + 1))] [] m := (s_inc_4 cat_i p_125_87).trans <| (s_goto p_125_90 rfl).trans <| rfl
theorem b_125_18 {x2 : Int} {x3 : Int} {u1 u4 : Value} : Z e (d + 1) 125 18 [.ref 1, u1, .int (iI x2), .int (iI x3), u4] [] m = (Z e d 105 0 [.ref 4, .int (iI x3), .int (iI 1), .int (iI x2)] [] m).bind (ZK e (d + 1) 125 28 [.ref 1, u1, .int (iI x2), .int (iI x3), u4] [] m) := (s_al_0 p_125_18).trans <| (s_getr p_125_19 hs_1 (by decide) rfl).trans <| (s_il_3 p_125_22).trans <| (s_const p_125_23).trans <| (s_il_2 p_125_24).trans <| (s_cv3 (Lc := [.ref 4, .int (iI x3), .int (iI 1), .int (iI x2)]) p_125_25 (by decide) (by decide) (zM_of zq_105) ⟨Nat.le_of_ble_eq_true rfl, Nat.le_of_ble_eq_true rfl⟩ rfl (m_rc hs_4 ⟨rfl, by decide⟩))
theorem b_125_28 {x3 : Int} {u1 u2 u4 : Value} : Z e (d + 1) 125 28 [.ref 1, u1, u2, .int (iI x3), u4] [] m = (Z e d 105 0 [.ref 4, .int (iI x3), .int (iI 4), .int (iI (-3))] [] m).bind (ZK e (d + 1) 125 39 [.ref 1, u1, u2, .int (iI x3), u4] [] m) := (s_al_0 p_125_28).trans <| (s_getr p_125_29 hs_1 (by decide) rfl).trans <| (s_il_3 p_125_32).trans <| (s_const p_125_33).trans <| (s_bip p_125_34 rfl).trans <| (s_cv3 (Lc := [.ref 4, .int (iI x3), .int (iI 4), .int (iI (-3))]) p_125_36 (by decide) (by decide) (zM_of zq_105) ⟨Nat.le_of_ble_eq_true rfl, Nat.le_of_ble_eq_true rfl⟩ rfl (m_rc hs_4 ⟨rfl, by decide⟩))
theorem b_125_39 {x3 : Int} {u1 u2 u4 : Value} : Z e (d + 1) 125 39 [.ref 1, u1, u2, .int (iI x3), u4] [] m = (Z e d 105 0 [.ref 4, .int (iI x3), .int (iI 5), .int (iI (-3))] [] m).bind (ZK e (d + 1) 125 50 [.ref 1, u1, u2, .int (iI x3), u4] [] m) := (s_al_0 p_125_39).trans <| (s_getr p_125_40 hs_1 (by decide) rfl).trans <| (s_il_3 p_125_43).trans <| (s_const p_125_44).trans <| (s_bip p_125_45 rfl).trans <| (s_cv3 (Lc := [.ref 4, .int (iI x3), .int (iI 5), .int (iI (-3))]) p_125_47 (by decide) (by decide) (zM_of zq_105) ⟨Nat.le_of_ble_eq_true rfl, Nat.le_of_ble_eq_true rfl⟩ rfl (m_rc hs_4 ⟨rfl, by decide⟩))
theorem b_125_50 {x3 : Int} {u1 u2 u4 : Value} : Z e (d + 1) 125 50 [.ref 1, u1, u2, .int (iI x3), u4] [] m = (Z e d 105 0 [.ref 4, .int (iI x3), .int (iI 7), .int (iI (-3))] [] m).bind (ZK e (d + 1) 125 62 [.ref 1, u1, u2, .int (iI x3), u4] [] m) := (s_al_0 p_125_50).trans <| (s_getr p_125_51 hs_1 (by decide) rfl).trans <| (s_il_3 p_125_54).trans <| (s_bip p_125_55 rfl).trans <| (s_bip p_125_57 rfl).trans <| (s_cv3 (Lc := [.ref 4, .int (iI x3), .int (iI 7), .int (iI (-3))]) p_125_59 (by decide) (by decide) (zM_of zq_105) ⟨Nat.le_of_ble_eq_true rfl, Nat.le_of_ble_eq_true rfl⟩ rfl (m_rc hs_4 ⟨rfl, by decide⟩))
theorem b_125_62 {x3 : Int} {u1 u2 u4 : Value} : Z e (d + 1) 125 62 [.ref 1, u1, u2, .int (iI x3), u4] [] m = Z e (d + 1) 125 65 [.ref 1, u1, u2, .int (iI x3), .int (iI 0)] [] m := (s_const p_125_62).trans <| (s_is_4 cat_i p_125_63).trans <| rfl
-- World.addTaking
theorem p_126_0 : zP1 126 0 = some (.aload_n 0, 0, 0, 0) := zp_l zq_126 rfl
theorem p_126_1 : zP1 126 1 = some (.getfield 39, 9, 9, 0) := zp_r zq_126 rfl
theorem p_126_4 : zP1 126 4 = some (.invokevirtual 49, 106, 0, 7) := zp_r zq_126 rfl
theorem p_126_7 : zP1 126 7 = some (.istore_n 3, 0, 0, 0) := zp_l zq_126 rfl
theorem p_126_8 : zP1 126 8 = some (.aload_n 0, 0, 0, 0) := zp_l zq_126 rfl
theorem p_126_9 : zP1 126 9 = some (.getfield 39, 9, 9, 0) := zp_r zq_126 rfl
theorem p_126_12 : zP1 126 12 = some (.iload_n 3, 0, 0, 0) := zp_l zq_126 rfl
theorem p_126_13 : zP1 126 13 = some (.iconst 0, 0, 0, 0) := zp_l zq_126 rfl
theorem p_126_14 : zP1 126 14 = some (.iload_n 1, 0, 0, 0) := zp_l zq_126 rfl
theorem p_126_15 : zP1 126 15 = some (.invokevirtual 53, 105, 3, 7) := zp_r zq_126 rfl
theorem p_126_18 : zP1 126 18 = some (.aload_n 0, 0, 0, 0) := zp_l zq_126 rfl
theorem p_126_19 : zP1 126 19 = some (.getfield 39, 9, 9, 0) := zp_r zq_126 rfl
theorem p_126_22 : zP1 126 22 = some (.iload_n 3, 0, 0, 0) := zp_l zq_126 rfl
theorem p_126_23 : zP1 126 23 = some (.iconst 1, 0, 0, 0) := zp_l zq_126 rfl
theorem p_126_24 : zP1 126 24 = some (.iload_n 2, 0, 0, 0) := zp_l zq_126 rfl
theorem p_126_25 : zP1 126 25 = some (.invokevirtual 53, 105, 3, 7) := zp_r zq_126 rfl
theorem p_126_28 : zP1 126 28 = some (.aload_n 0, 0, 0, 0) := zp_l zq_126 rfl
theorem p_126_29 : zP1 126 29 = some (.getfield 39, 9, 9, 0) := zp_r zq_126 rfl
theorem p_126_32 : zP1 126 32 = some (.iload_n 3, 0, 0, 0) := zp_l zq_126 rfl
theorem p_126_33 : zP1 126 33 = some (.iconst 2, 0, 0, 0) := zp_l zq_126 rfl
theorem p_126_34 : zP1 126 34 = some (.aload_n 0, 0, 0, 0) := zp_l zq_126 rfl
theorem p_126_35 : zP1 126 35 = some (.getfield 57, 9, 0, 0) := zp_r zq_126 rfl
theorem p_126_38 : zP1 126 38 = some (.invokevirtual 53, 105, 3, 7) := zp_r zq_126 rfl
theorem p_126_41 : zP1 126 41 = some (.aload_n 0, 0, 0, 0) := zp_l zq_126 rfl
theorem p_126_42 : zP1 126 42 = some (.getfield 39, 9, 9, 0) := zp_r zq_126 rfl
theorem p_126_45 : zP1 126 45 = some (.iload_n 3, 0, 0, 0) := zp_l zq_126 rfl
theorem p_126_46 : zP1 126 46 = some (.iconst 3, 0, 0, 0) := zp_l zq_126 rfl
theorem p_126_47 : zP1 126 47 = some (.aload_n 0, 0, 0, 0) := zp_l zq_126 rfl
theorem p_126_48 : zP1 126 48 = some (.getfield 26, 9, 5, 0) := zp_r zq_126 rfl
theorem p_126_51 : zP1 126 51 = some (.iload_n 2, 0, 0, 0) := zp_l zq_126 rfl
theorem p_126_52 : zP1 126 52 = some (.iconst 0, 0, 0, 0) := zp_l zq_126 rfl
theorem p_126_53 : zP1 126 53 = some (.invokevirtual 90, 104, 2, 7) := zp_r zq_126 rfl
theorem p_126_56 : zP1 126 56 = some (.invokevirtual 53, 105, 3, 7) := zp_r zq_126 rfl
theorem p_126_59 : zP1 126 59 = some (.iload_n 3, 0, 0, 0) := zp_l zq_126 rfl
theorem p_126_60 : zP1 126 60 = some (.ireturn, 0, 0, 0) := zp_l zq_126 rfl
theorem b_126_0 {x1 : Int} {x2 : Int} : Z e (d + 1) 126 0 [.ref 1, .int (iI x1), .int (iI x2), .retAddr 0] [] m = (Z e d 106 0 [.ref 12, .retAddr 0] [] m).bind (ZK e (d + 1) 126 7 [.ref 1, .int (iI x1), .int (iI x2), .retAddr 0] [] m) := (s_al_0 p_126_0).trans <| (s_getr p_126_1 hs_1 (by decide) rfl).trans <| (s_cv0 (Lc := [.ref 12, .retAddr 0]) p_126_4 (by decide) (by decide) (zM_of zq_106) ⟨Nat.le_of_ble_eq_true rfl, Nat.le_of_ble_eq_true rfl⟩ rfl (m_rc hs_12 ⟨rfl, by decide⟩))
theorem b_126_7 {x1 : Int} {x2 : Int} {xs0 : Int} {u3 : Value} : Z e (d + 1) 126 7 [.ref 1, .int (iI x1), .int (iI x2), u3] [.int (iI xs0)] m = (Z e d 105 0 [.ref 12, .int (iI xs0), .int (iI 0), .int (iI x1)] [] m).bind (ZK e (d + 1) 126 18 [.ref 1, .int (iI x1), .int (iI x2), .int (iI xs0)] [] m) := (s_is_3 cat_i p_126_7).trans <| (s_al_0 p_126_8).trans <| (s_getr p_126_9 hs_1 (by decide) rfl).trans <| (s_il_3 p_126_12).trans <| (s_const p_126_13).trans <| (s_il_1 p_126_14).trans <| (s_cv3 (Lc := [.ref 12, .int (iI xs0), .int (iI 0), .int (iI x1)]) p_126_15 (by decide) (by decide) (zM_of zq_105) ⟨Nat.le_of_ble_eq_true rfl, Nat.le_of_ble_eq_true rfl⟩ rfl (m_rc hs_12 ⟨rfl, by decide⟩))
theorem b_126_18 {x2 : Int} {x3 : Int} {u1 : Value} : Z e (d + 1) 126 18 [.ref 1, u1, .int (iI x2), .int (iI x3)] [] m = (Z e d 105 0 [.ref 12, .int (iI x3), .int (iI 1), .int (iI x2)] [] m).bind (ZK e (d + 1) 126 28 [.ref 1, u1, .int (iI x2), .int (iI x3)] [] m) := (s_al_0 p_126_18).trans <| (s_getr p_126_19 hs_1 (by decide) rfl).trans <| (s_il_3 p_126_22).trans <| (s_const p_126_23).trans <| (s_il_2 p_126_24).trans <| (s_cv3 (Lc := [.ref 12, .int (iI x3), .int (iI 1), .int (iI x2)]) p_126_25 (by decide) (by decide) (zM_of zq_105) ⟨Nat.le_of_ble_eq_true rfl, Nat.le_of_ble_eq_true rfl⟩ rfl (m_rc hs_12 ⟨rfl, by decide⟩))
theorem b_126_28 {x2 : Int} {x3 : Int} {u1 : Value} : Z e (d + 1) 126 28 [.ref 1, u1, .int (iI x2), .int (iI x3)] [] m = (Z e d 105 0 [.ref 12, .int (iI x3), .int (iI 2), .int (iI (m 1 0))] [] m).bind (ZK e (d + 1) 126 41 [.ref 1, u1, .int (iI x2), .int (iI x3)] [] m) := (s_al_0 p_126_28).trans <| (s_getr p_126_29 hs_1 (by decide) rfl).trans <| (s_il_3 p_126_32).trans <| (s_const p_126_33).trans <| (s_al_0 p_126_34).trans <| (s_get p_126_35 hs_1 (by decide) rfl).trans <| (s_cv3 (Lc := [.ref 12, .int (iI x3), .int (iI 2), .int (iI (m 1 0))]) p_126_38 (by decide) (by decide) (zM_of zq_105) ⟨Nat.le_of_ble_eq_true rfl, Nat.le_of_ble_eq_true rfl⟩ rfl (m_rc hs_12 ⟨rfl, by decide⟩))
theorem b_126_41 {x2 : Int} {x3 : Int} {u1 : Value} : Z e (d + 1) 126 41 [.ref 1, u1, .int (iI x2), .int (iI x3)] [] m = (Z e d 104 0 [.ref 4, .int (iI x2), .int (iI 0)] [] m).bind (ZK e (d + 1) 126 56 [.ref 1, u1, .int (iI x2), .int (iI x3)] [.int (iI 3), .int (iI x3), .ref 12] m) := (s_al_0 p_126_41).trans <| (s_getr p_126_42 hs_1 (by decide) rfl).trans <| (s_il_3 p_126_45).trans <| (s_const p_126_46).trans <| (s_al_0 p_126_47).trans <| (s_getr p_126_48 hs_1 (by decide) rfl).trans <| (s_il_2 p_126_51).trans <| (s_const p_126_52).trans <| (s_cv2 (Lc := [.ref 4, .int (iI x2), .int (iI 0)]) p_126_53 (by decide) (by decide) (zM_of zq_104) ⟨Nat.le_of_ble_eq_true rfl, Nat.le_of_ble_eq_true rfl⟩ rfl (m_rc hs_4 ⟨rfl, by decide⟩))
theorem b_126_56 {x3 : Int} {xs0 : Int} {xs1 : Int} {xs2 : Int} {u0 u1 u2 : Value} : Z e (d + 1) 126 56 [u0, u1, u2, .int (iI x3)] [.int (iI xs0), .int (iI xs1), .int (iI xs2), .ref 12] m = (Z e d 105 0 [.ref 12, .int (iI xs2), .int (iI xs1), .int (iI xs0)] [] m).bind (ZK e (d + 1) 126 59 [u0, u1, u2, .int (iI x3)] [] m) := (s_cv3 (Lc := [.ref 12, .int (iI xs2), .int (iI xs1), .int (iI xs0)]) p_126_56 (by decide) (by decide) (zM_of zq_105) ⟨Nat.le_of_ble_eq_true rfl, Nat.le_of_ble_eq_true rfl⟩ rfl (m_rc hs_12 ⟨rfl, by decide⟩))
theorem b_126_59 {x3 : Int} {u0 u1 u2 : Value} : Z e (d + 1) 126 59 [u0, u1, u2, .int (iI x3)] [] m = ri x3 m := (s_il_3 p_126_59).trans <| (s_reti p_126_60 (zM_of zq_126))
-- World.become
theorem p_129_0 : zP1 129 0 = some (.aload_n 0, 0, 0, 0) := zp_l zq_129 rfl
theorem p_129_1 : zP1 129 1 = some (.getfield 26, 9, 5, 0) := zp_r zq_129 rfl
theorem p_129_4 : zP1 129 4 = some (.iload_n 1, 0, 0, 0) := zp_l zq_129 rfl
theorem p_129_5 : zP1 129 5 = some (.iconst 2, 0, 0, 0) := zp_l zq_129 rfl
theorem p_129_6 : zP1 129 6 = some (.iload_n 2, 0, 0, 0) := zp_l zq_129 rfl
theorem p_129_7 : zP1 129 7 = some (.invokevirtual 53, 105, 3, 7) := zp_r zq_129 rfl
theorem p_129_10 : zP1 129 10 = some (.aload_n 0, 0, 0, 0) := zp_l zq_129 rfl
theorem p_129_11 : zP1 129 11 = some (.getfield 26, 9, 5, 0) := zp_r zq_129 rfl
theorem p_129_14 : zP1 129 14 = some (.iload_n 1, 0, 0, 0) := zp_l zq_129 rfl
theorem p_129_15 : zP1 129 15 = some (.iconst 3, 0, 0, 0) := zp_l zq_129 rfl
theorem p_129_16 : zP1 129 16 = some (.aload_n 0, 0, 0, 0) := zp_l zq_129 rfl
theorem p_129_17 : zP1 129 17 = some (.getfield 57, 9, 0, 0) := zp_r zq_129 rfl
theorem p_129_20 : zP1 129 20 = some (.invokevirtual 53, 105, 3, 7) := zp_r zq_129 rfl
theorem p_129_23 : zP1 129 23 = some (.return_, 0, 0, 0) := zp_l zq_129 rfl
theorem b_129_0 {x1 : Int} {x2 : Int} : Z e (d + 1) 129 0 [.ref 1, .int (iI x1), .int (iI x2)] [] m = (Z e d 105 0 [.ref 4, .int (iI x1), .int (iI 2), .int (iI x2)] [] m).bind (ZK e (d + 1) 129 10 [.ref 1, .int (iI x1), .int (iI x2)] [] m) := (s_al_0 p_129_0).trans <| (s_getr p_129_1 hs_1 (by decide) rfl).trans <| (s_il_1 p_129_4).trans <| (s_const p_129_5).trans <| (s_il_2 p_129_6).trans <| (s_cv3 (Lc := [.ref 4, .int (iI x1), .int (iI 2), .int (iI x2)]) p_129_7 (by decide) (by decide) (zM_of zq_105) ⟨Nat.le_of_ble_eq_true rfl, Nat.le_of_ble_eq_true rfl⟩ rfl (m_rc hs_4 ⟨rfl, by decide⟩))
theorem b_129_10 {x1 : Int} {u2 : Value} : Z e (d + 1) 129 10 [.ref 1, .int (iI x1), u2] [] m = (Z e d 105 0 [.ref 4, .int (iI x1), .int (iI 3), .int (iI (m 1 0))] [] m).bind (ZK e (d + 1) 129 23 [.ref 1, .int (iI x1), u2] [] m) := (s_al_0 p_129_10).trans <| (s_getr p_129_11 hs_1 (by decide) rfl).trans <| (s_il_1 p_129_14).trans <| (s_const p_129_15).trans <| (s_al_0 p_129_16).trans <| (s_get p_129_17 hs_1 (by decide) rfl).trans <| (s_cv3 (Lc := [.ref 4, .int (iI x1), .int (iI 3), .int (iI (m 1 0))]) p_129_20 (by decide) (by decide) (zM_of zq_105) ⟨Nat.le_of_ble_eq_true rfl, Nat.le_of_ble_eq_true rfl⟩ rfl (m_rc hs_4 ⟨rfl, by decide⟩))
theorem b_129_23 {u0 u1 u2 : Value} : Z e (d + 1) 129 23 [u0, u1, u2] [] m = rn m := (s_retv p_129_23 (zM_of zq_129))
-- World.isKnownForMore
theorem p_131_0 : zP1 131 0 = some (.iconst 0, 0, 0, 0) := zp_l zq_131 rfl
theorem p_131_1 : zP1 131 1 = some (.istore_n 2, 0, 0, 0) := zp_l zq_131 rfl
theorem p_131_2 : zP1 131 2 = some (.iload_n 2, 0, 0, 0) := zp_l zq_131 rfl
theorem p_131_3 : zP1 131 3 = some (.aload_n 0, 0, 0, 0) := zp_l zq_131 rfl
theorem p_131_4 : zP1 131 4 = some (.getfield 33, 9, 7, 0) := zp_r zq_131 rfl
theorem p_131_7 : zP1 131 7 = some (.getfield 98, 7, 3, 0) := zp_r zq_131 rfl
theorem p_131_10 : zP1 131 10 = some (.if_icmp .ge 63, 0, 0, 0) := zp_l zq_131 rfl
theorem p_131_13 : zP1 131 13 = some (.aload_n 0, 0, 0, 0) := zp_l zq_131 rfl
theorem p_131_14 : zP1 131 14 = some (.getfield 33, 9, 7, 0) := zp_r zq_131 rfl
theorem p_131_17 : zP1 131 17 = some (.iload_n 2, 0, 0, 0) := zp_l zq_131 rfl
theorem p_131_18 : zP1 131 18 = some (.iconst 0, 0, 0, 0) := zp_l zq_131 rfl
theorem p_131_19 : zP1 131 19 = some (.invokevirtual 90, 104, 2, 7) := zp_r zq_131 rfl
theorem p_131_22 : zP1 131 22 = some (.iload_n 1, 0, 0, 0) := zp_l zq_131 rfl
theorem p_131_23 : zP1 131 23 = some (.if_icmp .ne 23, 0, 0, 0) := zp_l zq_131 rfl
theorem p_131_26 : zP1 131 26 = some (.aload_n 0, 0, 0, 0) := zp_l zq_131 rfl
theorem p_131_27 : zP1 131 27 = some (.getfield 33, 9, 7, 0) := zp_r zq_131 rfl
theorem p_131_30 : zP1 131 30 = some (.iload_n 2, 0, 0, 0) := zp_l zq_131 rfl
theorem p_131_31 : zP1 131 31 = some (.iconst 5, 0, 0, 0) := zp_l zq_131 rfl
theorem p_131_32 : zP1 131 32 = some (.invokevirtual 90, 104, 2, 7) := zp_r zq_131 rfl
theorem p_131_35 : zP1 131 35 = some (.aload_n 0, 0, 0, 0) := zp_l zq_131 rfl
theorem p_131_36 : zP1 131 36 = some (.getfield 57, 9, 0, 0) := zp_r zq_131 rfl
theorem p_131_39 : zP1 131 39 = some (.if_icmp .gt 7, 0, 0, 0) := zp_l zq_131 rfl
theorem p_131_42 : zP1 131 42 = some (.iconst 1, 0, 0, 0) := zp_l zq_131 rfl
theorem p_131_43 : zP1 131 43 = some (.goto 4, 0, 0, 0) := zp_l zq_131 rfl
theorem p_131_46 : zP1 131 46 = some (.iconst 0, 0, 0, 0) := zp_l zq_131 rfl
theorem p_131_47 : zP1 131 47 = some (.istore_n 3, 0, 0, 0) := zp_l zq_131 rfl
theorem p_131_48 : zP1 131 48 = some (.iload_n 3, 0, 0, 0) := zp_l zq_131 rfl
theorem p_131_49 : zP1 131 49 = some (.ifCond .eq 18, 0, 0, 0) := zp_l zq_131 rfl
theorem p_131_52 : zP1 131 52 = some (.aload_n 0, 0, 0, 0) := zp_l zq_131 rfl
theorem p_131_53 : zP1 131 53 = some (.getfield 33, 9, 7, 0) := zp_r zq_131 rfl
theorem p_131_56 : zP1 131 56 = some (.iload_n 2, 0, 0, 0) := zp_l zq_131 rfl
theorem p_131_57 : zP1 131 57 = some (.iconst 1, 0, 0, 0) := zp_l zq_131 rfl
theorem p_131_58 : zP1 131 58 = some (.invokevirtual 90, 104, 2, 7) := zp_r zq_131 rfl
theorem p_131_61 : zP1 131 61 = some (.iconst 3, 0, 0, 0) := zp_l zq_131 rfl
theorem p_131_62 : zP1 131 62 = some (.if_icmp .eq 5, 0, 0, 0) := zp_l zq_131 rfl
theorem p_131_65 : zP1 131 65 = some (.iconst 1, 0, 0, 0) := zp_l zq_131 rfl
theorem p_131_66 : zP1 131 66 = some (.ireturn, 0, 0, 0) := zp_l zq_131 rfl
theorem p_131_67 : zP1 131 67 = some (.iinc 2 1, 0, 0, 0) := zp_l zq_131 rfl
theorem p_131_70 : zP1 131 70 = some (.goto (-68), 0, 0, 0) := zp_l zq_131 rfl
theorem p_131_73 : zP1 131 73 = some (.iconst 0, 0, 0, 0) := zp_l zq_131 rfl
theorem p_131_74 : zP1 131 74 = some (.ireturn, 0, 0, 0) := zp_l zq_131 rfl
theorem b_131_0 {x1 : Int} : Z e (d + 1) 131 0 [.ref 1, .int (iI x1), .retAddr 0, .retAddr 0] [] m = Z e (d + 1) 131 2 [.ref 1, .int (iI x1), .int (iI 0), .retAddr 0] [] m := (s_const p_131_0).trans <| (s_is_2 cat_i p_131_1).trans <| rfl
theorem b_131_2 {x1 : Int} {x2 : Int} {u3 : Value} : Z e (d + 1) 131 2 [.ref 1, .int (iI x1), .int (iI x2), u3] [] m = (if (wr x2) < (wr (m 8 3)) then (Z e d 104 0 [.ref 8, .int (iI x2), .int (iI 0)] [] m).bind (ZK e (d + 1) 131 22 [.ref 1, .int (iI x1), .int (iI x2), u3] [] m) else ri 0 m) := (s_il_2 p_131_2).trans <| (s_al_0 p_131_3).trans <| (s_getr p_131_4 hs_1 (by decide) rfl).trans <| (s_get p_131_7 hs_8 (by decide) rfl).trans <| Eq.trans ((s_c_ge_f p_131_10 rfl rfl rfl)) <| ite_cg ((s_al_0 p_131_13).trans <| (s_getr p_131_14 hs_1 (by decide) rfl).trans <| (s_il_2 p_131_17).trans <| (s_const p_131_18).trans <| (s_cv2 (Lc := [.ref 8, .int (iI x2), .int (iI 0)]) p_131_19 (by decide) (by decide) (zM_of zq_104) ⟨Nat.le_of_ble_eq_true rfl, Nat.le_of_ble_eq_true rfl⟩ rfl (m_rc hs_8 ⟨rfl, by decide⟩))) ((s_const p_131_73).trans <| (s_retk rfl p_131_74 (zM_of zq_131)))
theorem b_131_22 {x1 : Int} {x2 : Int} {xs0 : Int} {u3 : Value} : Z e (d + 1) 131 22 [.ref 1, .int (iI x1), .int (iI x2), u3] [.int (iI xs0)] m = (if (wr xs0) = (wr x1) then (Z e d 104 0 [.ref 8, .int (iI x2), .int (iI 5)] [] m).bind (ZK e (d + 1) 131 35 [.ref 1, .int (iI x1), .int (iI x2), u3] [] m) else Z e (d + 1) 131 47 [.ref 1, .int (iI x1), .int (iI x2), u3] [.int (iI 0)] m) := (s_il_1 p_131_22).trans <| Eq.trans ((s_c_ne_f p_131_23 rfl rfl rfl)) <| ite_cg ((s_al_0 p_131_26).trans <| (s_getr p_131_27 hs_1 (by decide) rfl).trans <| (s_il_2 p_131_30).trans <| (s_const p_131_31).trans <| (s_cv2 (Lc := [.ref 8, .int (iI x2), .int (iI 5)]) p_131_32 (by decide) (by decide) (zM_of zq_104) ⟨Nat.le_of_ble_eq_true rfl, Nat.le_of_ble_eq_true rfl⟩ rfl (m_rc hs_8 ⟨rfl, by decide⟩))) ((s_const p_131_46).trans <| rfl)
theorem b_131_47 {x1 : Int} {x2 : Int} {xs0 : Int} {u3 : Value} : Z e (d + 1) 131 47 [.ref 1, .int (iI x1), .int (iI x2), u3] [.int (iI xs0)] m = (if ¬ (wr xs0) = 0 then (Z e d 104 0 [.ref 8, .int (iI x2), .int (iI 1)] [] m).bind (ZK e (d + 1) 131 61 [.ref 1, .int (iI x1), .int (iI x2), .int (iI xs0)] [] m) else Z e (d + 1) 131 2 [.ref 1, .int (iI x1), .int (iI (x2 + 1)), .int (iI xs0)] [] m) := (s_is_3 cat_i p_131_47).trans <| (s_il_3 p_131_48).trans <| Eq.trans ((s_z_eq_f p_131_49 rfl rfl)) <| ite_cg ((s_al_0 p_131_52).trans <| (s_getr p_131_53 hs_1 (by decide) rfl).trans <| (s_il_2 p_131_56).trans <| (s_const p_131_57).trans <| (s_cv2 (Lc := [.ref 8, .int (iI x2), .int (iI 1)]) p_131_58 (by decide) (by decide) (zM_of zq_104) ⟨Nat.le_of_ble_eq_true rfl, Nat.le_of_ble_eq_true rfl⟩ rfl (m_rc hs_8 ⟨rfl, by decide⟩))) ((s_inc_2 cat_i p_131_67).trans <| (s_goto p_131_70 rfl).trans <| rfl)
theorem b_131_35 {x1 : Int} {x2 : Int} {xs0 : Int} {u3 : Value} : Z e (d + 1) 131 35 [.ref 1, .int (iI x1), .int (iI x2), u3] [.int (iI xs0)] m = Z e (d + 1) 131 47 [.ref 1, .int (iI x1), .int (iI x2), u3] [.int (iI (if (wr xs0) ≤ (wr (m 1 0)) then 1 else 0))] m := (s_al_0 p_131_35).trans <| (s_get p_131_36 hs_1 (by decide) rfl).trans <| Eq.trans (Eq.trans ((s_c_gt_f p_131_39 rfl rfl rfl)) <| Eq.trans (ite_cg ((s_const p_131_42).trans <| (s_goto p_131_43 rfl).trans <| rfl) ((s_const p_131_46).trans <| rfl)) (phi1 (fun z0 => Z e (d + 1) 131 47 [.ref 1, .int (iI x1), .int (iI x2), u3] [.int (iI z0)] m))) <| rfl
theorem b_131_61 {x1 : Int} {x2 : Int} {xs0 : Int} {u3 : Value} : Z e (d + 1) 131 61 [.ref 1, .int (iI x1), .int (iI x2), u3] [.int (iI xs0)] m = (if ¬ (wr xs0) = 3 then ri 1 m else Z e (d + 1) 131 2 [.ref 1, .int (iI x1), .int (iI (x2 + 1)), u3] [] m) := (s_const p_131_61).trans <| Eq.trans ((s_c_eq_f p_131_62 rfl rfl wl_3)) <| ite_cg ((s_const p_131_65).trans <| (s_retk rfl p_131_66 (zM_of zq_131))) ((s_inc_2 cat_i p_131_67).trans <| (s_goto p_131_70 rfl).trans <| rfl)
-- World.runners
theorem p_132_0 : zP1 132 0 = some (.iconst 0, 0, 0, 0) := zp_l zq_132 rfl
theorem p_132_1 : zP1 132 1 = some (.istore_n 1, 0, 0, 0) := zp_l zq_132 rfl
theorem p_132_2 : zP1 132 2 = some (.iconst 0, 0, 0, 0) := zp_l zq_132 rfl
theorem p_132_3 : zP1 132 3 = some (.istore_n 2, 0, 0, 0) := zp_l zq_132 rfl
theorem p_132_4 : zP1 132 4 = some (.iload_n 2, 0, 0, 0) := zp_l zq_132 rfl
theorem p_132_5 : zP1 132 5 = some (.aload_n 0, 0, 0, 0) := zp_l zq_132 rfl
theorem p_132_6 : zP1 132 6 = some (.getfield 26, 9, 5, 0) := zp_r zq_132 rfl
theorem p_132_9 : zP1 132 9 = some (.getfield 98, 7, 3, 0) := zp_r zq_132 rfl
theorem p_132_12 : zP1 132 12 = some (.if_icmp .ge 26, 0, 0, 0) := zp_l zq_132 rfl
theorem p_132_15 : zP1 132 15 = some (.aload_n 0, 0, 0, 0) := zp_l zq_132 rfl
theorem p_132_16 : zP1 132 16 = some (.getfield 26, 9, 5, 0) := zp_r zq_132 rfl
theorem p_132_19 : zP1 132 19 = some (.iload_n 2, 0, 0, 0) := zp_l zq_132 rfl
theorem p_132_20 : zP1 132 20 = some (.iconst 4, 0, 0, 0) := zp_l zq_132 rfl
theorem p_132_21 : zP1 132 21 = some (.invokevirtual 90, 104, 2, 7) := zp_r zq_132 rfl
theorem p_132_24 : zP1 132 24 = some (.bipush (-3), 0, 0, 0) := zp_l zq_132 rfl
theorem p_132_26 : zP1 132 26 = some (.if_icmp .eq 6, 0, 0, 0) := zp_l zq_132 rfl
theorem p_132_29 : zP1 132 29 = some (.iinc 1 1, 0, 0, 0) := zp_l zq_132 rfl
theorem p_132_32 : zP1 132 32 = some (.iinc 2 1, 0, 0, 0) := zp_l zq_132 rfl
theorem p_132_35 : zP1 132 35 = some (.goto (-31), 0, 0, 0) := zp_l zq_132 rfl
theorem p_132_38 : zP1 132 38 = some (.iload_n 1, 0, 0, 0) := zp_l zq_132 rfl
theorem p_132_39 : zP1 132 39 = some (.ireturn, 0, 0, 0) := zp_l zq_132 rfl
theorem b_132_0 : Z e (d + 1) 132 0 [.ref 1, .retAddr 0, .retAddr 0] [] m = Z e (d + 1) 132 4 [.ref 1, .int (iI 0), .int (iI 0)] [] m := (s_const p_132_0).trans <| (s_is_1 cat_r p_132_1).trans <| (s_const p_132_2).trans <| (s_is_2 cat_i p_132_3).trans <| rfl
theorem b_132_4 {x1 : Int} {x2 : Int} : Z e (d + 1) 132 4 [.ref 1, .int (iI x1), .int (iI x2)] [] m = (if (wr x2) < (wr (m 4 3)) then (Z e d 104 0 [.ref 4, .int (iI x2), .int (iI 4)] [] m).bind (ZK e (d + 1) 132 24 [.ref 1, .int (iI x1), .int (iI x2)] [] m) else ri x1 m) := (s_il_2 p_132_4).trans <| (s_al_0 p_132_5).trans <| (s_getr p_132_6 hs_1 (by decide) rfl).trans <| (s_get p_132_9 hs_4 (by decide) rfl).trans <| Eq.trans ((s_c_ge_f p_132_12 rfl rfl rfl)) <| ite_cg ((s_al_0 p_132_15).trans <| (s_getr p_132_16 hs_1 (by decide) rfl).trans <| (s_il_2 p_132_19).trans <| (s_const p_132_20).trans <| (s_cv2 (Lc := [.ref 4, .int (iI x2), .int (iI 4)]) p_132_21 (by decide) (by decide) (zM_of zq_104) ⟨Nat.le_of_ble_eq_true rfl, Nat.le_of_ble_eq_true rfl⟩ rfl (m_rc hs_4 ⟨rfl, by decide⟩))) ((s_il_1 p_132_38).trans <| (s_reti p_132_39 (zM_of zq_132)))
theorem b_132_24 {x1 : Int} {x2 : Int} {xs0 : Int} : Z e (d + 1) 132 24 [.ref 1, .int (iI x1), .int (iI x2)] [.int (iI xs0)] m = Z e (d + 1) 132 4 [.ref 1, .int (iI (if ¬ (wr xs0) = (-3) then (x1 + 1) else x1)), .int (iI (x2 + 1))] [] m := (s_bip p_132_24 rfl).trans <| Eq.trans (Eq.trans ((s_c_eq_f p_132_26 rfl rfl wl_m3)) <| Eq.trans (ite_cg ((s_inc_1 cat_r p_132_29).trans <| rfl) (rfl)) (phi1 (fun z0 => Z e (d + 1) 132 32 [.ref 1, .int (iI z0), .int (iI x2)] [] m))) <| (s_inc_2 cat_i p_132_32).trans <| (s_goto p_132_35 rfl).trans <| rfl
-- World.comeDay
theorem p_133_0 : zP1 133 0 = some (.iload_n 2, 0, 0, 0) := zp_l zq_133 rfl
theorem p_133_1 : zP1 133 1 = some (.bipush 24, 0, 0, 0) := zp_l zq_133 rfl
theorem p_133_3 : zP1 133 3 = some (.idiv, 0, 0, 0) := zp_l zq_133 rfl
theorem p_133_4 : zP1 133 4 = some (.aload_n 0, 0, 0, 0) := zp_l zq_133 rfl
theorem p_133_5 : zP1 133 5 = some (.getfield 36, 9, 8, 0) := zp_r zq_133 rfl
theorem p_133_8 : zP1 133 8 = some (.iload_n 1, 0, 0, 0) := zp_l zq_133 rfl
theorem p_133_9 : zP1 133 9 = some (.iconst 0, 0, 0, 0) := zp_l zq_133 rfl
theorem p_133_10 : zP1 133 10 = some (.invokevirtual 90, 104, 2, 7) := zp_r zq_133 rfl
theorem p_133_13 : zP1 133 13 = some (.iadd, 0, 0, 0) := zp_l zq_133 rfl
theorem p_133_14 : zP1 133 14 = some (.ireturn, 0, 0, 0) := zp_l zq_133 rfl
theorem b_133_0 {x1 : Int} {x2 : Int} : Z e (d + 1) 133 0 [.ref 1, .int (iI x1), .int (iI x2)] [] m = (Z e d 104 0 [.ref 10, .int (iI x1), .int (iI 0)] [] m).bind (ZK e (d + 1) 133 13 [.ref 1, .int (iI x1), .int (iI x2)] [.int (iI (jdiv x2 24))] m) := (s_il_2 p_133_0).trans <| (s_bip p_133_1 rfl).trans <| (s_idivc p_133_3 (by decide)).trans <| (s_al_0 p_133_4).trans <| (s_getr p_133_5 hs_1 (by decide) rfl).trans <| (s_il_1 p_133_8).trans <| (s_const p_133_9).trans <| (s_cv2 (Lc := [.ref 10, .int (iI x1), .int (iI 0)]) p_133_10 (by decide) (by decide) (zM_of zq_104) ⟨Nat.le_of_ble_eq_true rfl, Nat.le_of_ble_eq_true rfl⟩ rfl (m_rc hs_10 ⟨rfl, by decide⟩))
theorem b_133_13 {xs0 : Int} {xs1 : Int} {u0 u1 u2 : Value} : Z e (d + 1) 133 13 [u0, u1, u2] [.int (iI xs0), .int (iI xs1)] m = ri (xs1 + xs0) m := (s_iadd p_133_13).trans <| (s_reti p_133_14 (zM_of zq_133))
-- Math.floorMod
theorem p_322_0 : zP1 322 0 = some (.iload_n 0, 0, 0, 0) := zp_l zq_322 rfl
theorem p_322_1 : zP1 322 1 = some (.iload_n 1, 0, 0, 0) := zp_l zq_322 rfl
theorem p_322_2 : zP1 322 2 = some (.irem, 0, 0, 0) := zp_l zq_322 rfl
theorem p_322_3 : zP1 322 3 = some (.istore_n 2, 0, 0, 0) := zp_l zq_322 rfl
theorem p_322_4 : zP1 322 4 = some (.iload_n 0, 0, 0, 0) := zp_l zq_322 rfl
theorem p_322_5 : zP1 322 5 = some (.iload_n 1, 0, 0, 0) := zp_l zq_322 rfl
theorem p_322_6 : zP1 322 6 = some (.ixor, 0, 0, 0) := zp_l zq_322 rfl
theorem p_322_7 : zP1 322 7 = some (.ifCond .ge 11, 0, 0, 0) := zp_l zq_322 rfl
theorem p_322_10 : zP1 322 10 = some (.iload_n 2, 0, 0, 0) := zp_l zq_322 rfl
theorem p_322_11 : zP1 322 11 = some (.ifCond .eq 7, 0, 0, 0) := zp_l zq_322 rfl
theorem p_322_14 : zP1 322 14 = some (.iload_n 2, 0, 0, 0) := zp_l zq_322 rfl
theorem p_322_15 : zP1 322 15 = some (.iload_n 1, 0, 0, 0) := zp_l zq_322 rfl
theorem p_322_16 : zP1 322 16 = some (.iadd, 0, 0, 0) := zp_l zq_322 rfl
theorem p_322_17 : zP1 322 17 = some (.ireturn, 0, 0, 0) := zp_l zq_322 rfl
theorem p_322_18 : zP1 322 18 = some (.iload_n 2, 0, 0, 0) := zp_l zq_322 rfl
theorem p_322_19 : zP1 322 19 = some (.ireturn, 0, 0, 0) := zp_l zq_322 rfl
theorem b_322_0 {x0 : Int} {x1 : Int} : Z e d 322 0 [.int (iI x0), .int (iI x1), .retAddr 0] [] m = ck (¬ ((wr x1) = 0)) ((if ((jxor x0 x1) < 0) ∧ (¬ (wr (jrem x0 x1)) = 0) then ri ((jrem x0 x1) + x1) m else ri (jrem x0 x1) m)) := (s_il_0 p_322_0).trans <| (s_il_1 p_322_1).trans <| (s_irem p_322_2).trans <| ck_cg fun k1 => (s_is_2 cat_i p_322_3).trans <| (s_il_0 p_322_4).trans <| (s_il_1 p_322_5).trans <| (s_ixor p_322_6).trans <| Eq.trans (Eq.trans (s_z_ge_f p_322_7 rfl wr_jxor) <| Eq.trans (ite_cg ((s_il_2 p_322_10).trans <| (s_z_eq_f p_322_11 rfl rfl)) rfl) co_and) <| ite_cg ((s_il_2 p_322_14).trans <| (s_il_1 p_322_15).trans <| (s_iadd p_322_16).trans <| (s_reti p_322_17 (zM_of zq_322))) ((s_il_2 p_322_18).trans <| (s_reti p_322_19 (zM_of zq_322)))
-- World.tides
theorem p_134_0 : zP1 134 0 = some (.aload_n 0, 0, 0, 0) := zp_l zq_134 rfl
theorem p_134_1 : zP1 134 1 = some (.getfield 36, 9, 8, 0) := zp_r zq_134 rfl
theorem p_134_4 : zP1 134 4 = some (.iload_n 1, 0, 0, 0) := zp_l zq_134 rfl
theorem p_134_5 : zP1 134 5 = some (.iconst 1, 0, 0, 0) := zp_l zq_134 rfl
theorem p_134_6 : zP1 134 6 = some (.invokevirtual 90, 104, 2, 7) := zp_r zq_134 rfl
theorem p_134_9 : zP1 134 9 = some (.istore_n 3, 0, 0, 0) := zp_l zq_134 rfl
theorem p_134_10 : zP1 134 10 = some (.aload_n 0, 0, 0, 0) := zp_l zq_134 rfl
theorem p_134_11 : zP1 134 11 = some (.getfield 36, 9, 8, 0) := zp_r zq_134 rfl
theorem p_134_14 : zP1 134 14 = some (.iload_n 1, 0, 0, 0) := zp_l zq_134 rfl
theorem p_134_15 : zP1 134 15 = some (.iconst 2, 0, 0, 0) := zp_l zq_134 rfl
theorem p_134_16 : zP1 134 16 = some (.invokevirtual 90, 104, 2, 7) := zp_r zq_134 rfl
theorem p_134_19 : zP1 134 19 = some (.istore 4, 0, 0, 0) := zp_l zq_134 rfl
theorem p_134_21 : zP1 134 21 = some (.iload_n 3, 0, 0, 0) := zp_l zq_134 rfl
theorem p_134_22 : zP1 134 22 = some (.iconst 1, 0, 0, 0) := zp_l zq_134 rfl
theorem p_134_23 : zP1 134 23 = some (.if_icmp .lt 9, 0, 0, 0) := zp_l zq_134 rfl
theorem p_134_26 : zP1 134 26 = some (.iload 4, 0, 0, 0) := zp_l zq_134 rfl
theorem p_134_28 : zP1 134 28 = some (.iload_n 3, 0, 0, 0) := zp_l zq_134 rfl
theorem p_134_29 : zP1 134 29 = some (.if_icmp .lt 6, 0, 0, 0) := zp_l zq_134 rfl
theorem p_134_32 : zP1 134 32 = some (.bipush (-3), 0, 0, 0) := zp_l zq_134 rfl
theorem p_134_34 : zP1 134 34 = some (.ireturn, 0, 0, 0) := zp_l zq_134 rfl
theorem p_134_35 : zP1 134 35 = some (.iload 4, 0, 0, 0) := zp_l zq_134 rfl
theorem p_134_37 : zP1 134 37 = some (.iload_n 2, 0, 0, 0) := zp_l zq_134 rfl
theorem p_134_38 : zP1 134 38 = some (.isub, 0, 0, 0) := zp_l zq_134 rfl
theorem p_134_39 : zP1 134 39 = some (.iload_n 3, 0, 0, 0) := zp_l zq_134 rfl
theorem p_134_40 : zP1 134 40 = some (.invokestatic 101, 322, 2, 0) := zp_r zq_134 rfl
theorem p_134_43 : zP1 134 43 = some (.ireturn, 0, 0, 0) := zp_l zq_134 rfl
theorem b_134_0 {x1 : Int} {x2 : Int} : Z e (d + 1) 134 0 [.ref 1, .int (iI x1), .int (iI x2), .retAddr 0, .retAddr 0] [] m = (Z e d 104 0 [.ref 10, .int (iI x1), .int (iI 1)] [] m).bind (ZK e (d + 1) 134 9 [.ref 1, .int (iI x1), .int (iI x2), .retAddr 0, .retAddr 0] [] m) := (s_al_0 p_134_0).trans <| (s_getr p_134_1 hs_1 (by decide) rfl).trans <| (s_il_1 p_134_4).trans <| (s_const p_134_5).trans <| (s_cv2 (Lc := [.ref 10, .int (iI x1), .int (iI 1)]) p_134_6 (by decide) (by decide) (zM_of zq_104) ⟨Nat.le_of_ble_eq_true rfl, Nat.le_of_ble_eq_true rfl⟩ rfl (m_rc hs_10 ⟨rfl, by decide⟩))
theorem b_134_9 {x1 : Int} {x2 : Int} {xs0 : Int} {u3 u4 : Value} : Z e (d + 1) 134 9 [.ref 1, .int (iI x1), .int (iI x2), u3, u4] [.int (iI xs0)] m = (Z e d 104 0 [.ref 10, .int (iI x1), .int (iI 2)] [] m).bind (ZK e (d + 1) 134 19 [.ref 1, .int (iI x1), .int (iI x2), .int (iI xs0), u4] [] m) := (s_is_3 cat_i p_134_9).trans <| (s_al_0 p_134_10).trans <| (s_getr p_134_11 hs_1 (by decide) rfl).trans <| (s_il_1 p_134_14).trans <| (s_const p_134_15).trans <| (s_cv2 (Lc := [.ref 10, .int (iI x1), .int (iI 2)]) p_134_16 (by decide) (by decide) (zM_of zq_104) ⟨Nat.le_of_ble_eq_true rfl, Nat.le_of_ble_eq_true rfl⟩ rfl (m_rc hs_10 ⟨rfl, by decide⟩))
theorem b_134_19 {x2 : Int} {x3 : Int} {xs0 : Int} {u0 u1 u4 : Value} : Z e (d + 1) 134 19 [u0, u1, .int (iI x2), .int (iI x3), u4] [.int (iI xs0)] m = (if ((wr x3) < 1) ∨ ((wr x3) ≤ (wr xs0)) then ri (-3) m else (Z e d 322 0 [.int (iI (xs0 - x2)), .int (iI x3), .retAddr 0] [] m).bind (ZK e (d + 1) 134 43 [u0, u1, .int (iI x2), .int (iI x3), .int (iI xs0)] [] m)) := (s_is_4 cat_i p_134_19).trans <| (s_il_3 p_134_21).trans <| (s_const p_134_22).trans <| Eq.trans (Eq.trans (s_c_lt_t p_134_23 rfl rfl wl_1) <| Eq.trans (ite_cg rfl ((s_il_4 p_134_26).trans <| (s_il_3 p_134_28).trans <| (s_c_lt_f p_134_29 rfl rfl rfl))) co_or) <| ite_cg ((s_bip p_134_32 rfl).trans <| (s_reti p_134_34 (zM_of zq_134))) ((s_il_4 p_134_35).trans <| (s_il_2 p_134_37).trans <| (s_isub p_134_38).trans <| (s_il_3 p_134_39).trans <| (s_cs2 (Lc := [.int (iI (xs0 - x2)), .int (iI x3), .retAddr 0]) p_134_40 (by decide) (zM_of zq_322) ⟨Nat.le_of_ble_eq_true rfl, Nat.le_of_ble_eq_true rfl⟩ rfl))
theorem b_134_43 {xs0 : Int} {u0 u1 u2 u3 u4 : Value} : Z e (d + 1) 134 43 [u0, u1, u2, u3, u4] [.int (iI xs0)] m = ri xs0 m := (s_reti p_134_43 (zM_of zq_134))
-- World.openVersion
theorem p_135_0 : zP1 135 0 = some (.iconst 0, 0, 0, 0) := zp_l zq_135 rfl
theorem p_135_1 : zP1 135 1 = some (.istore_n 2, 0, 0, 0) := zp_l zq_135 rfl
theorem p_135_2 : zP1 135 2 = some (.iload_n 2, 0, 0, 0) := zp_l zq_135 rfl
theorem p_135_3 : zP1 135 3 = some (.aload_n 0, 0, 0, 0) := zp_l zq_135 rfl
theorem p_135_4 : zP1 135 4 = some (.getfield 64, 9, 2, 0) := zp_r zq_135 rfl
theorem p_135_7 : zP1 135 7 = some (.if_icmp .ge 44, 0, 0, 0) := zp_l zq_135 rfl
theorem p_135_10 : zP1 135 10 = some (.iload_n 2, 0, 0, 0) := zp_l zq_135 rfl
theorem p_135_11 : zP1 135 11 = some (.bipush 12, 0, 0, 0) := zp_l zq_135 rfl
theorem p_135_13 : zP1 135 13 = some (.if_icmp .ge 38, 0, 0, 0) := zp_l zq_135 rfl
theorem p_135_16 : zP1 135 16 = some (.aload_n 0, 0, 0, 0) := zp_l zq_135 rfl
theorem p_135_17 : zP1 135 17 = some (.getfield 17, 9, 4, 0) := zp_r zq_135 rfl
theorem p_135_20 : zP1 135 20 = some (.iload_n 2, 0, 0, 0) := zp_l zq_135 rfl
theorem p_135_21 : zP1 135 21 = some (.aaload, 0, 0, 0) := zp_l zq_135 rfl
theorem p_135_22 : zP1 135 22 = some (.getfield 104, 8, 0, 0) := zp_r zq_135 rfl
theorem p_135_25 : zP1 135 25 = some (.iload_n 1, 0, 0, 0) := zp_l zq_135 rfl
theorem p_135_26 : zP1 135 26 = some (.if_icmp .ne 19, 0, 0, 0) := zp_l zq_135 rfl
theorem p_135_29 : zP1 135 29 = some (.aload_n 0, 0, 0, 0) := zp_l zq_135 rfl
theorem p_135_30 : zP1 135 30 = some (.getfield 17, 9, 4, 0) := zp_r zq_135 rfl
theorem p_135_33 : zP1 135 33 = some (.iload_n 2, 0, 0, 0) := zp_l zq_135 rfl
theorem p_135_34 : zP1 135 34 = some (.aaload, 0, 0, 0) := zp_l zq_135 rfl
theorem p_135_35 : zP1 135 35 = some (.getfield 107, 8, 2, 0) := zp_r zq_135 rfl
theorem p_135_38 : zP1 135 38 = some (.bipush (-3), 0, 0, 0) := zp_l zq_135 rfl
theorem p_135_40 : zP1 135 40 = some (.if_icmp .ne 5, 0, 0, 0) := zp_l zq_135 rfl
theorem p_135_43 : zP1 135 43 = some (.iload_n 2, 0, 0, 0) := zp_l zq_135 rfl
theorem p_135_44 : zP1 135 44 = some (.ireturn, 0, 0, 0) := zp_l zq_135 rfl
theorem p_135_45 : zP1 135 45 = some (.iinc 2 1, 0, 0, 0) := zp_l zq_135 rfl
theorem p_135_48 : zP1 135 48 = some (.goto (-46), 0, 0, 0) := zp_l zq_135 rfl
theorem p_135_51 : zP1 135 51 = some (.bipush (-3), 0, 0, 0) := zp_l zq_135 rfl
theorem p_135_53 : zP1 135 53 = some (.ireturn, 0, 0, 0) := zp_l zq_135 rfl
theorem b_135_0 {x1 : Int} : Z e d 135 0 [.ref 1, .int (iI x1), .retAddr 0] [] m = Z e d 135 2 [.ref 1, .int (iI x1), .int (iI 0)] [] m := (s_const p_135_0).trans <| (s_is_2 cat_i p_135_1).trans <| rfl
theorem b_135_2 {x1 : Int} {x2 : Int} : Z e d 135 2 [.ref 1, .int (iI x1), .int (iI x2)] [] m = (if ((wr x2) < (wr (m 1 2))) ∧ ((wr x2) < 12) then ck (0 ≤ (wr x2) ∧ (wr x2) < 12) (ck (((wr (m (18 + 6 * (wr x2).toNat) 0)) = (wr x1)) → (0 ≤ (wr x2) ∧ (wr x2) < 12)) (if ((wr (m (18 + 6 * (wr x2).toNat) 0)) = (wr x1)) ∧ ((wr (m (18 + 6 * (wr x2).toNat) 2)) = (-3)) then ri x2 m else Z e d 135 2 [.ref 1, .int (iI x1), .int (iI (x2 + 1))] [] m)) else ri (-3) m) := (s_il_2 p_135_2).trans <| (s_al_0 p_135_3).trans <| (s_get p_135_4 hs_1 (by decide) rfl).trans <| Eq.trans (Eq.trans (s_c_ge_f p_135_7 rfl rfl rfl) <| Eq.trans (ite_cg ((s_il_2 p_135_10).trans <| (s_bip p_135_11 rfl).trans <| (s_c_ge_f p_135_13 rfl rfl wl_12)) rfl) co_and) <| ite_cg ((s_al_0 p_135_16).trans <| (s_getr p_135_17 hs_1 (by decide) rfl).trans <| (s_il_2 p_135_20).trans <| (s_aald 12 p_135_21 hs_3 rfl ⟨by decide, by decide⟩ ar_3).trans <| ck_cg fun k1 => (s_get p_135_22 (zVer_0 k1).1 (by decide) rfl).trans <| (s_il_1 p_135_25).trans <| Eq.trans (Eq.trans (s_c_ne_f p_135_26 rfl rfl rfl) <| Eq.trans (ite_cg ((s_al_0 p_135_29).trans <| (s_getr p_135_30 hs_1 (by decide) rfl).trans <| (s_il_2 p_135_33).trans <| (s_aald 12 p_135_34 hs_3 rfl ⟨by decide, by decide⟩ ar_3).trans <| ck_cg fun k2 => (s_get p_135_35 (zVer_0 k2).1 (by decide) rfl).trans <| (s_bip p_135_38 rfl).trans <| (s_c_ne_f p_135_40 rfl rfl wl_m3)) rfl) <| Eq.trans ck_a <| ck_cg fun _ => co_and) <| ck_cg fun _ => ite_cg ((s_il_2 p_135_43).trans <| (s_reti p_135_44 (zM_of zq_135))) ((s_inc_2 cat_i p_135_45).trans <| (s_goto p_135_48 rfl).trans <| rfl)) ((s_bip p_135_51 rfl).trans <| (s_reti p_135_53 (zM_of zq_135)))
-- World.enact
theorem p_136_0 : zP1 136 0 = some (.aload_n 0, 0, 0, 0) := zp_l zq_136 rfl
theorem p_136_1 : zP1 136 1 = some (.getfield 64, 9, 2, 0) := zp_r zq_136 rfl
theorem p_136_4 : zP1 136 4 = some (.bipush 12, 0, 0, 0) := zp_l zq_136 rfl
theorem p_136_6 : zP1 136 6 = some (.if_icmp .lt 6, 0, 0, 0) := zp_l zq_136 rfl
theorem p_136_9 : zP1 136 9 = some (.bipush (-2), 0, 0, 0) := zp_l zq_136 rfl
theorem p_136_11 : zP1 136 11 = some (.ireturn, 0, 0, 0) := zp_l zq_136 rfl
theorem p_136_12 : zP1 136 12 = some (.aload_n 0, 0, 0, 0) := zp_l zq_136 rfl
theorem p_136_13 : zP1 136 13 = some (.iload_n 1, 0, 0, 0) := zp_l zq_136 rfl
theorem p_136_14 : zP1 136 14 = some (.invokevirtual 110, 135, 1, 9) := zp_r zq_136 rfl
theorem p_136_17 : zP1 136 17 = some (.istore_n 3, 0, 0, 0) := zp_l zq_136 rfl
theorem p_136_18 : zP1 136 18 = some (.iload_n 3, 0, 0, 0) := zp_l zq_136 rfl
theorem p_136_19 : zP1 136 19 = some (.bipush (-3), 0, 0, 0) := zp_l zq_136 rfl
theorem p_136_21 : zP1 136 21 = some (.if_icmp .eq 16, 0, 0, 0) := zp_l zq_136 rfl
theorem p_136_24 : zP1 136 24 = some (.aload_n 0, 0, 0, 0) := zp_l zq_136 rfl
theorem p_136_25 : zP1 136 25 = some (.getfield 17, 9, 4, 0) := zp_r zq_136 rfl
theorem p_136_28 : zP1 136 28 = some (.iload_n 3, 0, 0, 0) := zp_l zq_136 rfl
theorem p_136_29 : zP1 136 29 = some (.aaload, 0, 0, 0) := zp_l zq_136 rfl
theorem p_136_30 : zP1 136 30 = some (.aload_n 0, 0, 0, 0) := zp_l zq_136 rfl
theorem p_136_31 : zP1 136 31 = some (.getfield 57, 9, 0, 0) := zp_r zq_136 rfl
theorem p_136_34 : zP1 136 34 = some (.putfield 107, 8, 2, 0) := zp_r zq_136 rfl
theorem p_136_37 : zP1 136 37 = some (.aload_n 0, 0, 0, 0) := zp_l zq_136 rfl
theorem p_136_38 : zP1 136 38 = some (.getfield 17, 9, 4, 0) := zp_r zq_136 rfl
theorem p_136_41 : zP1 136 41 = some (.aload_n 0, 0, 0, 0) := zp_l zq_136 rfl
theorem p_136_42 : zP1 136 42 = some (.getfield 64, 9, 2, 0) := zp_r zq_136 rfl
theorem p_136_45 : zP1 136 45 = some (.aaload, 0, 0, 0) := zp_l zq_136 rfl
theorem p_136_46 : zP1 136 46 = some (.astore 4, 0, 0, 0) := zp_l zq_136 rfl
theorem p_136_48 : zP1 136 48 = some (.aload 4, 0, 0, 0) := zp_l zq_136 rfl
theorem p_136_50 : zP1 136 50 = some (.aload_n 2, 0, 0, 0) := zp_l zq_136 rfl
theorem p_136_51 : zP1 136 51 = some (.invokevirtual 73, 111, 1, 8) := zp_r zq_136 rfl
theorem p_136_54 : zP1 136 54 = some (.aload 4, 0, 0, 0) := zp_l zq_136 rfl
theorem p_136_56 : zP1 136 56 = some (.iload_n 1, 0, 0, 0) := zp_l zq_136 rfl
theorem p_136_57 : zP1 136 57 = some (.putfield 104, 8, 0, 0) := zp_r zq_136 rfl
theorem p_136_60 : zP1 136 60 = some (.aload 4, 0, 0, 0) := zp_l zq_136 rfl
theorem p_136_62 : zP1 136 62 = some (.aload_n 0, 0, 0, 0) := zp_l zq_136 rfl
theorem p_136_63 : zP1 136 63 = some (.getfield 57, 9, 0, 0) := zp_r zq_136 rfl
theorem p_136_66 : zP1 136 66 = some (.putfield 113, 8, 1, 0) := zp_r zq_136 rfl
theorem p_136_69 : zP1 136 69 = some (.aload 4, 0, 0, 0) := zp_l zq_136 rfl
theorem p_136_71 : zP1 136 71 = some (.bipush (-3), 0, 0, 0) := zp_l zq_136 rfl
theorem p_136_73 : zP1 136 73 = some (.putfield 107, 8, 2, 0) := zp_r zq_136 rfl
theorem p_136_76 : zP1 136 76 = some (.aload_n 0, 0, 0, 0) := zp_l zq_136 rfl
theorem p_136_77 : zP1 136 77 = some (.dup, 0, 0, 0) := zp_l zq_136 rfl
theorem p_136_78 : zP1 136 78 = some (.getfield 64, 9, 2, 0) := zp_r zq_136 rfl
theorem p_136_81 : zP1 136 81 = some (.iconst 1, 0, 0, 0) := zp_l zq_136 rfl
theorem p_136_82 : zP1 136 82 = some (.iadd, 0, 0, 0) := zp_l zq_136 rfl
theorem p_136_83 : zP1 136 83 = some (.putfield 64, 9, 2, 0) := zp_r zq_136 rfl
theorem p_136_86 : zP1 136 86 = some (.aload_n 0, 0, 0, 0) := zp_l zq_136 rfl
theorem p_136_87 : zP1 136 87 = some (.getfield 64, 9, 2, 0) := zp_r zq_136 rfl
theorem p_136_90 : zP1 136 90 = some (.iconst 1, 0, 0, 0) := zp_l zq_136 rfl
theorem p_136_91 : zP1 136 91 = some (.isub, 0, 0, 0) := zp_l zq_136 rfl
theorem p_136_92 : zP1 136 92 = some (.ireturn, 0, 0, 0) := zp_l zq_136 rfl
theorem b_136_0 {x1 : Int} : Z e (d + 1) 136 0 [.ref 1, .int (iI x1), .ref 185, .retAddr 0, .retAddr 0] [] m = (if 12 ≤ (wr (m 1 2)) then ri (-2) m else (Z e d 135 0 [.ref 1, .int (iI x1), .retAddr 0] [] m).bind (ZK e (d + 1) 136 17 [.ref 1, .int (iI x1), .ref 185, .retAddr 0, .retAddr 0] [] m)) := (s_al_0 p_136_0).trans <| (s_get p_136_1 hs_1 (by decide) rfl).trans <| (s_bip p_136_4 rfl).trans <| Eq.trans ((s_c_lt_f p_136_6 rfl rfl wl_12)) <| ite_cg ((s_bip p_136_9 rfl).trans <| (s_reti p_136_11 (zM_of zq_136))) ((s_al_0 p_136_12).trans <| (s_il_1 p_136_13).trans <| (s_cv1 (Lc := [.ref 1, .int (iI x1), .retAddr 0]) p_136_14 (by decide) (by decide) (zM_of zq_135) ⟨Nat.le_of_ble_eq_true rfl, Nat.le_of_ble_eq_true rfl⟩ rfl (m_rc hs_1 ⟨rfl, by decide⟩)))
theorem b_136_17 {x1 : Int} {xs0 : Int} {u3 u4 : Value} : Z e (d + 1) 136 17 [.ref 1, .int (iI x1), .ref 185, u3, u4] [.int (iI xs0)] m = (if ¬ (wr xs0) = (-3) then ck (0 ≤ (wr xs0) ∧ (wr xs0) < 12) (Z e (d + 1) 136 37 [.ref 1, .int (iI x1), .ref 185, .int (iI xs0), u4] [] (um m (18 + 6 * (wr xs0).toNat) 2 (m 1 0))) else Z e (d + 1) 136 37 [.ref 1, .int (iI x1), .ref 185, .int (iI xs0), u4] [] m) := (s_is_3 cat_r p_136_17).trans <| (s_il_3 p_136_18).trans <| (s_bip p_136_19 rfl).trans <| Eq.trans ((s_c_eq_f p_136_21 rfl rfl wl_m3)) <| ite_cg ((s_al_0 p_136_24).trans <| (s_getr p_136_25 hs_1 (by decide) rfl).trans <| (s_il_3 p_136_28).trans <| (s_aald 12 p_136_29 hs_3 rfl ⟨by decide, by decide⟩ ar_3).trans <| ck_cg fun k2 => (s_al_0 p_136_30).trans <| (s_get p_136_31 hs_1 (by decide) rfl).trans <| (s_put p_136_34 (zVer_0 k2).1 (by decide) rfl).trans <| rfl) (rfl)
theorem b_136_37 {x1 : Int} {u3 u4 : Value} (hu3 : u3.category = 1) : Z e (d + 1) 136 37 [.ref 1, .int (iI x1), .ref 185, u3, u4] [] m = ck (0 ≤ (wr (m 1 2)) ∧ (wr (m 1 2)) < 12) ((Z e d 111 0 [.ref (18 + 6 * (wr (m 1 2)).toNat), .ref 185] [] m).bind (ZK e (d + 1) 136 54 [.ref 1, .int (iI x1), .ref 185, u3, .ref (18 + 6 * (wr (m 1 2)).toNat)] [] m)) := (s_al_0 p_136_37).trans <| (s_getr p_136_38 hs_1 (by decide) rfl).trans <| (s_al_0 p_136_41).trans <| (s_get p_136_42 hs_1 (by decide) rfl).trans <| (s_aald 12 p_136_45 hs_3 rfl ⟨by decide, by decide⟩ ar_3).trans <| ck_cg fun k1 => (s_as_4 hu3 p_136_46).trans <| (s_al_4 p_136_48).trans <| (s_al_2 p_136_50).trans <| (s_cv1 (Lc := [.ref (18 + 6 * (wr (m 1 2)).toNat), .ref 185]) p_136_51 (by decide) (by decide) (zM_of zq_111) ⟨Nat.le_of_ble_eq_true rfl, Nat.le_of_ble_eq_true rfl⟩ rfl (m_rc (zVer_0 k1).1 ⟨rfl, by decide⟩))
theorem b_136_54 {x1 : Int} {a4 : Nat} {u2 u3 : Value} (hV4 : zVer a4) : Z e (d + 1) 136 54 [.ref 1, .int (iI x1), u2, u3, .ref a4] [] m = ri (((um (um (um (um m a4 0 x1) a4 1 ((um m a4 0 x1) 1 0)) a4 2 (-3)) 1 2 (((um (um (um m a4 0 x1) a4 1 ((um m a4 0 x1) 1 0)) a4 2 (-3)) 1 2) + 1)) 1 2) - 1) (um (um (um (um m a4 0 x1) a4 1 ((um m a4 0 x1) 1 0)) a4 2 (-3)) 1 2 (((um (um (um m a4 0 x1) a4 1 ((um m a4 0 x1) 1 0)) a4 2 (-3)) 1 2) + 1)) := (s_al_4 p_136_54).trans <| (s_il_1 p_136_56).trans <| (s_put p_136_57 (hV4).1 (by decide) rfl).trans <| (s_al_4 p_136_60).trans <| (s_al_0 p_136_62).trans <| (s_get p_136_63 hs_1 (by decide) rfl).trans <| (s_put p_136_66 (hV4).1 (by decide) rfl).trans <| (s_al_4 p_136_69).trans <| (s_bip p_136_71 rfl).trans <| (s_put p_136_73 (hV4).1 (by decide) rfl).trans <| (s_al_0 p_136_76).trans <| (s_dup cat_r p_136_77).trans <| (s_get p_136_78 hs_1 (by decide) rfl).trans <| (s_const p_136_81).trans <| (s_iadd p_136_82).trans <| (s_put p_136_83 hs_1 (by decide) rfl).trans <| (s_al_0 p_136_86).trans <| (s_get p_136_87 hs_1 (by decide) rfl).trans <| (s_const p_136_90).trans <| (s_isub p_136_91).trans <| (s_reti p_136_92 (zM_of zq_136))
-- World.ring
theorem p_137_0 : zP1 137 0 = some (.aload_n 0, 0, 0, 0) := zp_l zq_137 rfl
theorem p_137_1 : zP1 137 1 = some (.getfield 61, 9, 1, 0) := zp_r zq_137 rfl
theorem p_137_4 : zP1 137 4 = some (.istore_n 3, 0, 0, 0) := zp_l zq_137 rfl
theorem p_137_5 : zP1 137 5 = some (.aload_n 0, 0, 0, 0) := zp_l zq_137 rfl
theorem p_137_6 : zP1 137 6 = some (.dup, 0, 0, 0) := zp_l zq_137 rfl
theorem p_137_7 : zP1 137 7 = some (.getfield 61, 9, 1, 0) := zp_r zq_137 rfl
theorem p_137_10 : zP1 137 10 = some (.iconst 1, 0, 0, 0) := zp_l zq_137 rfl
theorem p_137_11 : zP1 137 11 = some (.iadd, 0, 0, 0) := zp_l zq_137 rfl
theorem p_137_12 : zP1 137 12 = some (.putfield 61, 9, 1, 0) := zp_r zq_137 rfl
theorem p_137_15 : zP1 137 15 = some (.iconst 0, 0, 0, 0) := zp_l zq_137 rfl
theorem p_137_16 : zP1 137 16 = some (.istore 4, 0, 0, 0) := zp_l zq_137 rfl
theorem p_137_18 : zP1 137 18 = some (.iload 4, 0, 0, 0) := zp_l zq_137 rfl
theorem p_137_20 : zP1 137 20 = some (.aload_n 0, 0, 0, 0) := zp_l zq_137 rfl
theorem p_137_21 : zP1 137 21 = some (.getfield 26, 9, 5, 0) := zp_r zq_137 rfl
theorem p_137_24 : zP1 137 24 = some (.getfield 98, 7, 3, 0) := zp_r zq_137 rfl
theorem p_137_27 : zP1 137 27 = some (.if_icmp .ge 44, 0, 0, 0) := zp_l zq_137 rfl
theorem p_137_30 : zP1 137 30 = some (.aload_n 0, 0, 0, 0) := zp_l zq_137 rfl
theorem p_137_31 : zP1 137 31 = some (.getfield 26, 9, 5, 0) := zp_r zq_137 rfl
theorem p_137_34 : zP1 137 34 = some (.iload 4, 0, 0, 0) := zp_l zq_137 rfl
theorem p_137_36 : zP1 137 36 = some (.iconst 0, 0, 0, 0) := zp_l zq_137 rfl
theorem p_137_37 : zP1 137 37 = some (.invokevirtual 90, 104, 2, 7) := zp_r zq_137 rfl
theorem p_137_40 : zP1 137 40 = some (.iload_n 1, 0, 0, 0) := zp_l zq_137 rfl
theorem p_137_41 : zP1 137 41 = some (.invokestatic 116, 121, 2, 0) := zp_r zq_137 rfl
theorem p_137_44 : zP1 137 44 = some (.iload_n 2, 0, 0, 0) := zp_l zq_137 rfl
theorem p_137_45 : zP1 137 45 = some (.if_icmp .gt 20, 0, 0, 0) := zp_l zq_137 rfl
theorem p_137_48 : zP1 137 48 = some (.aload_n 0, 0, 0, 0) := zp_l zq_137 rfl
theorem p_137_49 : zP1 137 49 = some (.getfield 26, 9, 5, 0) := zp_r zq_137 rfl
theorem p_137_52 : zP1 137 52 = some (.iload 4, 0, 0, 0) := zp_l zq_137 rfl
theorem p_137_54 : zP1 137 54 = some (.bipush 10, 0, 0, 0) := zp_l zq_137 rfl
theorem p_137_56 : zP1 137 56 = some (.iload_n 3, 0, 0, 0) := zp_l zq_137 rfl
theorem p_137_57 : zP1 137 57 = some (.iadd, 0, 0, 0) := zp_l zq_137 rfl
theorem p_137_58 : zP1 137 58 = some (.aload_n 0, 0, 0, 0) := zp_l zq_137 rfl
theorem p_137_59 : zP1 137 59 = some (.getfield 57, 9, 0, 0) := zp_r zq_137 rfl
theorem p_137_62 : zP1 137 62 = some (.invokevirtual 53, 105, 3, 7) := zp_r zq_137 rfl
theorem p_137_65 : zP1 137 65 = some (.iinc 4 1, 0, 0, 0) := zp_l zq_137 rfl
theorem p_137_68 : zP1 137 68 = some (.goto (-50), 0, 0, 0) := zp_l zq_137 rfl
theorem p_137_71 : zP1 137 71 = some (.iload_n 3, 0, 0, 0) := zp_l zq_137 rfl
theorem p_137_72 : zP1 137 72 = some (.ireturn, 0, 0, 0) := zp_l zq_137 rfl
theorem b_137_0 {x1 : Int} {x2 : Int} : Z e (d + 2) 137 0 [.ref 1, .int (iI x1), .int (iI x2), .retAddr 0, .retAddr 0] [] m = Z e (d + 2) 137 18 [.ref 1, .int (iI x1), .int (iI x2), .int (iI (m 1 1)), .int (iI 0)] [] (um m 1 1 ((m 1 1) + 1)) := (s_al_0 p_137_0).trans <| (s_get p_137_1 hs_1 (by decide) rfl).trans <| (s_is_3 cat_i p_137_4).trans <| (s_al_0 p_137_5).trans <| (s_dup cat_r p_137_6).trans <| (s_get p_137_7 hs_1 (by decide) rfl).trans <| (s_const p_137_10).trans <| (s_iadd p_137_11).trans <| (s_put p_137_12 hs_1 (by decide) rfl).trans <| (s_const p_137_15).trans <| (s_is_4 cat_i p_137_16).trans <| rfl
theorem b_137_18 {x1 : Int} {x2 : Int} {x3 : Int} {x4 : Int} : Z e (d + 2) 137 18 [.ref 1, .int (iI x1), .int (iI x2), .int (iI x3), .int (iI x4)] [] m = (if (wr x4) < (wr (m 4 3)) then (Z e (d + 1) 104 0 [.ref 4, .int (iI x4), .int (iI 0)] [] m).bind (ZK e (d + 2) 137 40 [.ref 1, .int (iI x1), .int (iI x2), .int (iI x3), .int (iI x4)] [] m) else ri x3 m) := (s_il_4 p_137_18).trans <| (s_al_0 p_137_20).trans <| (s_getr p_137_21 hs_1 (by decide) rfl).trans <| (s_get p_137_24 hs_4 (by decide) rfl).trans <| Eq.trans ((s_c_ge_f p_137_27 rfl rfl rfl)) <| ite_cg ((s_al_0 p_137_30).trans <| (s_getr p_137_31 hs_1 (by decide) rfl).trans <| (s_il_4 p_137_34).trans <| (s_const p_137_36).trans <| (s_cv2 (Lc := [.ref 4, .int (iI x4), .int (iI 0)]) p_137_37 (by decide) (by decide) (zM_of zq_104) ⟨Nat.le_of_ble_eq_true rfl, Nat.le_of_ble_eq_true rfl⟩ rfl (m_rc hs_4 ⟨rfl, by decide⟩))) ((s_il_3 p_137_71).trans <| (s_reti p_137_72 (zM_of zq_137)))
theorem b_137_40 {x1 : Int} {x2 : Int} {x3 : Int} {x4 : Int} {xs0 : Int} : Z e (d + 2) 137 40 [.ref 1, .int (iI x1), .int (iI x2), .int (iI x3), .int (iI x4)] [.int (iI xs0)] m = (if (wr (jfar xs0 x1)) ≤ (wr x2) then (Z e (d + 1) 105 0 [.ref 4, .int (iI x4), .int (iI (10 + x3)), .int (iI (m 1 0))] [] m).bind (ZK e (d + 2) 137 65 [.ref 1, .int (iI x1), .int (iI x2), .int (iI x3), .int (iI x4)] [] m) else Z e (d + 2) 137 65 [.ref 1, .int (iI x1), .int (iI x2), .int (iI x3), .int (iI x4)] [] m) := (s_il_1 p_137_40).trans <| (s_cs2 (Lc := [.int (iI xs0), .int (iI x1)]) p_137_41 (by decide) (zM_of zq_121) ⟨Nat.le_of_ble_eq_true rfl, Nat.le_of_ble_eq_true rfl⟩ rfl).trans <| (bd b_121_0).trans <| ri_k.trans <| (s_il_2 p_137_44).trans <| Eq.trans ((s_c_gt_f p_137_45 rfl rfl rfl)) <| ite_cg ((s_al_0 p_137_48).trans <| (s_getr p_137_49 hs_1 (by decide) rfl).trans <| (s_il_4 p_137_52).trans <| (s_bip p_137_54 rfl).trans <| (s_il_3 p_137_56).trans <| (s_iadd p_137_57).trans <| (s_al_0 p_137_58).trans <| (s_get p_137_59 hs_1 (by decide) rfl).trans <| (s_cv3 (Lc := [.ref 4, .int (iI x4), .int (iI (10 + x3)), .int (iI (m 1 0))]) p_137_62 (by decide) (by decide) (zM_of zq_105) ⟨Nat.le_of_ble_eq_true rfl, Nat.le_of_ble_eq_true rfl⟩ rfl (m_rc hs_4 ⟨rfl, by decide⟩))) (rfl)
theorem b_137_65 {x1 : Int} {x2 : Int} {x3 : Int} {x4 : Int} : Z e (d + 2) 137 65 [.ref 1, .int (iI x1), .int (iI x2), .int (iI x3), .int (iI x4)] [] m = Z e (d + 2) 137 18 [.ref 1, .int (iI x1), .int (iI x2), .int (iI x3), .int (iI (x4 + 1))] [] m := (s_inc_4 cat_i p_137_65).trans <| (s_goto p_137_68 rfl).trans <| rfl
-- P.hours
theorem p_139_0 : zP1 139 0 = some (.iload_n 1, 0, 0, 0) := zp_l zq_139 rfl
theorem p_139_1 : zP1 139 1 = some (.iconst 1, 0, 0, 0) := zp_l zq_139 rfl
theorem p_139_2 : zP1 139 2 = some (.if_icmp .lt 9, 0, 0, 0) := zp_l zq_139 rfl
theorem p_139_5 : zP1 139 5 = some (.iload_n 1, 0, 0, 0) := zp_l zq_139 rfl
theorem p_139_6 : zP1 139 6 = some (.bipush 100, 0, 0, 0) := zp_l zq_139 rfl
theorem p_139_8 : zP1 139 8 = some (.if_icmp .le 5, 0, 0, 0) := zp_l zq_139 rfl
theorem p_139_11 : zP1 139 11 = some (.iconst (-1), 0, 0, 0) := zp_l zq_139 rfl
theorem p_139_12 : zP1 139 12 = some (.ireturn, 0, 0, 0) := zp_l zq_139 rfl
theorem p_139_13 : zP1 139 13 = some (.aload_n 0, 0, 0, 0) := zp_l zq_139 rfl
theorem p_139_14 : zP1 139 14 = some (.getfield 10, 10, 0, 0) := zp_r zq_139 rfl
theorem p_139_17 : zP1 139 17 = some (.getfield 78, 9, 0, 0) := zp_r zq_139 rfl
theorem p_139_20 : zP1 139 20 = some (.iload_n 1, 0, 0, 0) := zp_l zq_139 rfl
theorem p_139_21 : zP1 139 21 = some (.iadd, 0, 0, 0) := zp_l zq_139 rfl
theorem p_139_22 : zP1 139 22 = some (.sipush 9999, 0, 0, 0) := zp_l zq_139 rfl
theorem p_139_25 : zP1 139 25 = some (.if_icmp .le 6, 0, 0, 0) := zp_l zq_139 rfl
theorem p_139_28 : zP1 139 28 = some (.bipush (-4), 0, 0, 0) := zp_l zq_139 rfl
theorem p_139_30 : zP1 139 30 = some (.ireturn, 0, 0, 0) := zp_l zq_139 rfl
theorem p_139_31 : zP1 139 31 = some (.aload_n 0, 0, 0, 0) := zp_l zq_139 rfl
theorem p_139_32 : zP1 139 32 = some (.getfield 56, 10, 6, 0) := zp_r zq_139 rfl
theorem p_139_35 : zP1 139 35 = some (.iload_n 1, 0, 0, 0) := zp_l zq_139 rfl
theorem p_139_36 : zP1 139 36 = some (.invokevirtual 82, 93, 1, 6) := zp_r zq_139 rfl
theorem p_139_39 : zP1 139 39 = some (.aload_n 0, 0, 0, 0) := zp_l zq_139 rfl
theorem p_139_40 : zP1 139 40 = some (.getfield 10, 10, 0, 0) := zp_r zq_139 rfl
theorem p_139_43 : zP1 139 43 = some (.getfield 78, 9, 0, 0) := zp_r zq_139 rfl
theorem p_139_46 : zP1 139 46 = some (.ireturn, 0, 0, 0) := zp_l zq_139 rfl
theorem b_139_0 {x1 : Int} : Z e (d + 1) 139 0 [.ref 0, .int (iI x1)] [] m = (if ((wr x1) < 1) ∨ (100 < (wr x1)) then ri (-1) m else (if 9999 < (wr ((m 1 0) + x1)) then ri (-4) m else (Z e d 93 0 [.ref 208, .int (iI x1), .retAddr 0, .retAddr 0, .retAddr 0, .retAddr 0] [] m).bind (ZK e (d + 1) 139 39 [.ref 0, .int (iI x1)] [] m))) := (s_il_1 p_139_0).trans <| (s_const p_139_1).trans <| Eq.trans (Eq.trans (s_c_lt_t p_139_2 rfl rfl wl_1) <| Eq.trans (ite_cg rfl ((s_il_1 p_139_5).trans <| (s_bip p_139_6 rfl).trans <| (s_c_le_f p_139_8 rfl rfl wl_100))) co_or) <| ite_cg ((s_const p_139_11).trans <| (s_reti p_139_12 (zM_of zq_139))) ((s_al_0 p_139_13).trans <| (s_getr p_139_14 hs_0 (by decide) rfl).trans <| (s_get p_139_17 hs_1 (by decide) rfl).trans <| (s_il_1 p_139_20).trans <| (s_iadd p_139_21).trans <| (s_sip p_139_22 rfl).trans <| Eq.trans ((s_c_le_f p_139_25 rfl rfl wl_9999)) <| ite_cg ((s_bip p_139_28 rfl).trans <| (s_reti p_139_30 (zM_of zq_139))) ((s_al_0 p_139_31).trans <| (s_getr p_139_32 hs_0 (by decide) rfl).trans <| (s_il_1 p_139_35).trans <| (s_cv1 (Lc := [.ref 208, .int (iI x1), .retAddr 0, .retAddr 0, .retAddr 0, .retAddr 0]) p_139_36 (by decide) (by decide) (zM_of zq_93) ⟨Nat.le_of_ble_eq_true rfl, Nat.le_of_ble_eq_true rfl⟩ rfl (m_rc hs_208 ⟨rfl, by decide⟩))))
theorem b_139_39 {u1 : Value} : Z e (d + 1) 139 39 [.ref 0, u1] [] m = ri (m 1 0) m := (s_al_0 p_139_39).trans <| (s_getr p_139_40 hs_0 (by decide) rfl).trans <| (s_get p_139_43 hs_1 (by decide) rfl).trans <| (s_reti p_139_46 (zM_of zq_139))
-- P.ground
theorem p_140_0 : zP1 140 0 = some (.iload_n 1, 0, 0, 0) := zp_l zq_140 rfl
theorem p_140_1 : zP1 140 1 = some (.invokestatic 86, 194, 1, 0) := zp_r zq_140 rfl
theorem p_140_4 : zP1 140 4 = some (.ifCond .ne 12, 0, 0, 0) := zp_l zq_140 rfl
theorem p_140_7 : zP1 140 7 = some (.iload_n 2, 0, 0, 0) := zp_l zq_140 rfl
theorem p_140_8 : zP1 140 8 = some (.ifCond .lt 8, 0, 0, 0) := zp_l zq_140 rfl
theorem p_140_11 : zP1 140 11 = some (.iload_n 2, 0, 0, 0) := zp_l zq_140 rfl
theorem p_140_12 : zP1 140 12 = some (.iconst 3, 0, 0, 0) := zp_l zq_140 rfl
theorem p_140_13 : zP1 140 13 = some (.if_icmp .le 5, 0, 0, 0) := zp_l zq_140 rfl
theorem p_140_16 : zP1 140 16 = some (.iconst (-1), 0, 0, 0) := zp_l zq_140 rfl
theorem p_140_17 : zP1 140 17 = some (.ireturn, 0, 0, 0) := zp_l zq_140 rfl
theorem p_140_18 : zP1 140 18 = some (.iload_n 2, 0, 0, 0) := zp_l zq_140 rfl
theorem p_140_19 : zP1 140 19 = some (.iconst 1, 0, 0, 0) := zp_l zq_140 rfl
theorem p_140_20 : zP1 140 20 = some (.if_icmp .ne 17, 0, 0, 0) := zp_l zq_140 rfl
theorem p_140_23 : zP1 140 23 = some (.aload_n 0, 0, 0, 0) := zp_l zq_140 rfl
theorem p_140_24 : zP1 140 24 = some (.getfield 10, 10, 0, 0) := zp_r zq_140 rfl
theorem p_140_27 : zP1 140 27 = some (.iload_n 1, 0, 0, 0) := zp_l zq_140 rfl
theorem p_140_28 : zP1 140 28 = some (.invokevirtual 90, 124, 1, 9) := zp_r zq_140 rfl
theorem p_140_31 : zP1 140 31 = some (.ifCond .eq 6, 0, 0, 0) := zp_l zq_140 rfl
theorem p_140_34 : zP1 140 34 = some (.bipush (-4), 0, 0, 0) := zp_l zq_140 rfl
theorem p_140_36 : zP1 140 36 = some (.ireturn, 0, 0, 0) := zp_l zq_140 rfl
theorem p_140_37 : zP1 140 37 = some (.aload_n 0, 0, 0, 0) := zp_l zq_140 rfl
theorem p_140_38 : zP1 140 38 = some (.getfield 10, 10, 0, 0) := zp_r zq_140 rfl
theorem p_140_41 : zP1 140 41 = some (.getfield 93, 9, 3, 0) := zp_r zq_140 rfl
theorem p_140_44 : zP1 140 44 = some (.iload_n 1, 0, 0, 0) := zp_l zq_140 rfl
theorem p_140_45 : zP1 140 45 = some (.iaload, 0, 0, 0) := zp_l zq_140 rfl
theorem p_140_46 : zP1 140 46 = some (.istore_n 3, 0, 0, 0) := zp_l zq_140 rfl
theorem p_140_47 : zP1 140 47 = some (.aload_n 0, 0, 0, 0) := zp_l zq_140 rfl
theorem p_140_48 : zP1 140 48 = some (.getfield 10, 10, 0, 0) := zp_r zq_140 rfl
theorem p_140_51 : zP1 140 51 = some (.getfield 93, 9, 3, 0) := zp_r zq_140 rfl
theorem p_140_54 : zP1 140 54 = some (.iload_n 1, 0, 0, 0) := zp_l zq_140 rfl
theorem p_140_55 : zP1 140 55 = some (.iload_n 2, 0, 0, 0) := zp_l zq_140 rfl
theorem p_140_56 : zP1 140 56 = some (.iastore, 0, 0, 0) := zp_l zq_140 rfl
theorem p_140_57 : zP1 140 57 = some (.iload_n 3, 0, 0, 0) := zp_l zq_140 rfl
theorem p_140_58 : zP1 140 58 = some (.iconst 1, 0, 0, 0) := zp_l zq_140 rfl
theorem p_140_59 : zP1 140 59 = some (.if_icmp .eq 8, 0, 0, 0) := zp_l zq_140 rfl
theorem p_140_62 : zP1 140 62 = some (.iload_n 2, 0, 0, 0) := zp_l zq_140 rfl
theorem p_140_63 : zP1 140 63 = some (.iconst 1, 0, 0, 0) := zp_l zq_140 rfl
theorem p_140_64 : zP1 140 64 = some (.if_icmp .ne 10, 0, 0, 0) := zp_l zq_140 rfl
theorem p_140_67 : zP1 140 67 = some (.aload_n 0, 0, 0, 0) := zp_l zq_140 rfl
theorem p_140_68 : zP1 140 68 = some (.getfield 40, 10, 4, 0) := zp_r zq_140 rfl
theorem p_140_71 : zP1 140 71 = some (.invokevirtual 97, 18, 0, 1) := zp_r zq_140 rfl
theorem p_140_74 : zP1 140 74 = some (.iload_n 3, 0, 0, 0) := zp_l zq_140 rfl
theorem p_140_75 : zP1 140 75 = some (.ireturn, 0, 0, 0) := zp_l zq_140 rfl
theorem b_140_0 {x1 : Int} {x2 : Int} : Z e (d + 1) 140 0 [.ref 0, .int (iI x1), .int (iI x2), .retAddr 0] [] m = (if (((wr x1) < 0) ∨ (100 ≤ (wr x1))) ∨ (((wr x2) < 0) ∨ (3 < (wr x2))) then ri (-1) m else (if (wr x2) = 1 then (Z e d 124 0 [.ref 1, .int (iI x1)] [] m).bind (ZK e (d + 1) 140 31 [.ref 0, .int (iI x1), .int (iI x2), .retAddr 0] [] m) else ck (0 ≤ (wr x1) ∧ (wr x1) < 100) (ck (0 ≤ (wr x1) ∧ (wr x1) < 100) ((if ((wr (m 2 (wr x1))) = 1) ∨ ((wr x2) = 1) then ri (m 2 (wr x1)) (um (um m 2 (wr x1) x2) 202 2 1) else ri (m 2 (wr x1)) (um m 2 (wr x1) x2)))))) := (s_il_1 p_140_0).trans <| (s_cs1 (Lc := [.int (iI x1)]) p_140_1 (by decide) (zM_of zq_194) ⟨Nat.le_of_ble_eq_true rfl, Nat.le_of_ble_eq_true rfl⟩ rfl).trans <| (bd b_194_0).trans <| ri_k.trans <| Eq.trans (Eq.trans (s_bne_t p_140_4 rfl) <| Eq.trans (ite_cg rfl ((s_il_2 p_140_7).trans <| Eq.trans (s_z_lt_t p_140_8 rfl rfl) <| Eq.trans (ite_cg rfl ((s_il_2 p_140_11).trans <| (s_const p_140_12).trans <| (s_c_le_f p_140_13 rfl rfl wl_3))) co_or)) co_or) <| ite_cg ((s_const p_140_16).trans <| (s_reti p_140_17 (zM_of zq_140))) ((s_il_2 p_140_18).trans <| (s_const p_140_19).trans <| Eq.trans ((s_c_ne_f p_140_20 rfl rfl wl_1)) <| ite_cg ((s_al_0 p_140_23).trans <| (s_getr p_140_24 hs_0 (by decide) rfl).trans <| (s_il_1 p_140_27).trans <| (s_cv1 (Lc := [.ref 1, .int (iI x1)]) p_140_28 (by decide) (by decide) (zM_of zq_124) ⟨Nat.le_of_ble_eq_true rfl, Nat.le_of_ble_eq_true rfl⟩ rfl (m_rc hs_1 ⟨rfl, by decide⟩))) ((s_al_0 p_140_37).trans <| (s_getr p_140_38 hs_0 (by decide) rfl).trans <| (s_getr p_140_41 hs_1 (by decide) rfl).trans <| (s_il_1 p_140_44).trans <| (s_ald 100 p_140_45 hs_2 rfl (by decide)).trans <| ck_cg fun k1 => (s_is_3 cat_i p_140_46).trans <| (s_al_0 p_140_47).trans <| (s_getr p_140_48 hs_0 (by decide) rfl).trans <| (s_getr p_140_51 hs_1 (by decide) rfl).trans <| (s_il_1 p_140_54).trans <| (s_il_2 p_140_55).trans <| (s_ast 100 p_140_56 hs_2 rfl).trans <| ck_cg fun k2 => (s_il_3 p_140_57).trans <| (s_const p_140_58).trans <| Eq.trans (Eq.trans (s_c_eq_t p_140_59 rfl rfl wl_1) <| Eq.trans (ite_cg rfl ((s_il_2 p_140_62).trans <| (s_const p_140_63).trans <| (s_c_ne_f p_140_64 rfl rfl wl_1))) co_or) <| ite_cg ((s_al_0 p_140_67).trans <| (s_getr p_140_68 hs_0 (by decide) rfl).trans <| (s_cv0 (Lc := [.ref 202]) p_140_71 (by decide) (by decide) (zM_of zq_18) ⟨Nat.le_of_ble_eq_true rfl, Nat.le_of_ble_eq_true rfl⟩ rfl (m_rc hs_202 ⟨rfl, by decide⟩)).trans <| (bd b_18_0).trans <| rn_k.trans <| (s_il_3 p_140_74).trans <| (s_reti p_140_75 (zM_of zq_140))) ((s_il_3 p_140_74).trans <| (s_reti p_140_75 (zM_of zq_140)))))
theorem b_140_31 {x1 : Int} {x2 : Int} {xs0 : Int} {u3 : Value} : Z e (d + 1) 140 31 [.ref 0, .int (iI x1), .int (iI x2), u3] [.int (iI xs0)] m = (if ¬ (wr xs0) = 0 then ri (-4) m else ck (0 ≤ (wr x1) ∧ (wr x1) < 100) (ck (0 ≤ (wr x1) ∧ (wr x1) < 100) ((if ((wr (m 2 (wr x1))) = 1) ∨ ((wr x2) = 1) then ri (m 2 (wr x1)) (um (um m 2 (wr x1) x2) 202 2 1) else ri (m 2 (wr x1)) (um m 2 (wr x1) x2))))) := Eq.trans ((s_z_eq_f p_140_31 rfl rfl)) <| ite_cg ((s_bip p_140_34 rfl).trans <| (s_reti p_140_36 (zM_of zq_140))) ((s_al_0 p_140_37).trans <| (s_getr p_140_38 hs_0 (by decide) rfl).trans <| (s_getr p_140_41 hs_1 (by decide) rfl).trans <| (s_il_1 p_140_44).trans <| (s_ald 100 p_140_45 hs_2 rfl (by decide)).trans <| ck_cg fun k1 => (s_is_3 cat_i p_140_46).trans <| (s_al_0 p_140_47).trans <| (s_getr p_140_48 hs_0 (by decide) rfl).trans <| (s_getr p_140_51 hs_1 (by decide) rfl).trans <| (s_il_1 p_140_54).trans <| (s_il_2 p_140_55).trans <| (s_ast 100 p_140_56 hs_2 rfl).trans <| ck_cg fun k2 => (s_il_3 p_140_57).trans <| (s_const p_140_58).trans <| Eq.trans (Eq.trans (s_c_eq_t p_140_59 rfl rfl wl_1) <| Eq.trans (ite_cg rfl ((s_il_2 p_140_62).trans <| (s_const p_140_63).trans <| (s_c_ne_f p_140_64 rfl rfl wl_1))) co_or) <| ite_cg ((s_al_0 p_140_67).trans <| (s_getr p_140_68 hs_0 (by decide) rfl).trans <| (s_cv0 (Lc := [.ref 202]) p_140_71 (by decide) (by decide) (zM_of zq_18) ⟨Nat.le_of_ble_eq_true rfl, Nat.le_of_ble_eq_true rfl⟩ rfl (m_rc hs_202 ⟨rfl, by decide⟩)).trans <| (bd b_18_0).trans <| rn_k.trans <| (s_il_3 p_140_74).trans <| (s_reti p_140_75 (zM_of zq_140))) ((s_il_3 p_140_74).trans <| (s_reti p_140_75 (zM_of zq_140))))
-- P.between
theorem p_141_0 : zP1 141 0 = some (.iload_n 1, 0, 0, 0) := zp_l zq_141 rfl
theorem p_141_1 : zP1 141 1 = some (.invokestatic 86, 194, 1, 0) := zp_r zq_141 rfl
theorem p_141_4 : zP1 141 4 = some (.ifCond .ne 19, 0, 0, 0) := zp_l zq_141 rfl
theorem p_141_7 : zP1 141 7 = some (.iload_n 2, 0, 0, 0) := zp_l zq_141 rfl
theorem p_141_8 : zP1 141 8 = some (.invokestatic 86, 194, 1, 0) := zp_r zq_141 rfl
theorem p_141_11 : zP1 141 11 = some (.ifCond .ne 12, 0, 0, 0) := zp_l zq_141 rfl
theorem p_141_14 : zP1 141 14 = some (.iload_n 3, 0, 0, 0) := zp_l zq_141 rfl
theorem p_141_15 : zP1 141 15 = some (.ifCond .lt 8, 0, 0, 0) := zp_l zq_141 rfl
theorem p_141_18 : zP1 141 18 = some (.iload_n 3, 0, 0, 0) := zp_l zq_141 rfl
theorem p_141_19 : zP1 141 19 = some (.iconst 1, 0, 0, 0) := zp_l zq_141 rfl
theorem p_141_20 : zP1 141 20 = some (.if_icmp .le 5, 0, 0, 0) := zp_l zq_141 rfl
theorem p_141_23 : zP1 141 23 = some (.iconst (-1), 0, 0, 0) := zp_l zq_141 rfl
theorem p_141_24 : zP1 141 24 = some (.ireturn, 0, 0, 0) := zp_l zq_141 rfl
theorem p_141_25 : zP1 141 25 = some (.iload_n 3, 0, 0, 0) := zp_l zq_141 rfl
theorem p_141_26 : zP1 141 26 = some (.iconst 1, 0, 0, 0) := zp_l zq_141 rfl
theorem p_141_27 : zP1 141 27 = some (.if_icmp .ne 11, 0, 0, 0) := zp_l zq_141 rfl
theorem p_141_30 : zP1 141 30 = some (.iload_n 1, 0, 0, 0) := zp_l zq_141 rfl
theorem p_141_31 : zP1 141 31 = some (.iload_n 2, 0, 0, 0) := zp_l zq_141 rfl
theorem p_141_32 : zP1 141 32 = some (.invokestatic 100, 121, 2, 0) := zp_r zq_141 rfl
theorem p_141_35 : zP1 141 35 = some (.goto 12, 0, 0, 0) := zp_l zq_141 rfl
theorem p_141_38 : zP1 141 38 = some (.aload_n 0, 0, 0, 0) := zp_l zq_141 rfl
theorem p_141_39 : zP1 141 39 = some (.getfield 31, 10, 3, 0) := zp_r zq_141 rfl
theorem p_141_42 : zP1 141 42 = some (.iload_n 1, 0, 0, 0) := zp_l zq_141 rfl
theorem p_141_43 : zP1 141 43 = some (.iload_n 2, 0, 0, 0) := zp_l zq_141 rfl
theorem p_141_44 : zP1 141 44 = some (.invokevirtual 104, 89, 2, 5) := zp_r zq_141 rfl
theorem p_141_47 : zP1 141 47 = some (.ireturn, 0, 0, 0) := zp_l zq_141 rfl
theorem b_141_0 {x1 : Int} {x2 : Int} {x3 : Int} : Z e (d + 2) 141 0 [.ref 0, .int (iI x1), .int (iI x2), .int (iI x3)] [] m = (if (((wr x1) < 0) ∨ (100 ≤ (wr x1))) ∨ ((((wr x2) < 0) ∨ (100 ≤ (wr x2))) ∨ (((wr x3) < 0) ∨ (1 < (wr x3)))) then ri (-1) m else (if (wr x3) = 1 then ri (jfar x1 x2) m else (Z e (d + 1) 89 0 [.ref 191, .int (iI x1), .int (iI x2)] [] m).bind (ZK e (d + 2) 141 47 [.ref 0, .int (iI x1), .int (iI x2), .int (iI x3)] [] m))) := (s_il_1 p_141_0).trans <| (s_cs1 (Lc := [.int (iI x1)]) p_141_1 (by decide) (zM_of zq_194) ⟨Nat.le_of_ble_eq_true rfl, Nat.le_of_ble_eq_true rfl⟩ rfl).trans <| (bd b_194_0).trans <| ri_k.trans <| Eq.trans (Eq.trans (s_bne_t p_141_4 rfl) <| Eq.trans (ite_cg rfl ((s_il_2 p_141_7).trans <| (s_cs1 (Lc := [.int (iI x2)]) p_141_8 (by decide) (zM_of zq_194) ⟨Nat.le_of_ble_eq_true rfl, Nat.le_of_ble_eq_true rfl⟩ rfl).trans <| (bd b_194_0).trans <| ri_k.trans <| Eq.trans (s_bne_t p_141_11 rfl) <| Eq.trans (ite_cg rfl ((s_il_3 p_141_14).trans <| Eq.trans (s_z_lt_t p_141_15 rfl rfl) <| Eq.trans (ite_cg rfl ((s_il_3 p_141_18).trans <| (s_const p_141_19).trans <| (s_c_le_f p_141_20 rfl rfl wl_1))) co_or)) co_or)) co_or) <| ite_cg ((s_const p_141_23).trans <| (s_reti p_141_24 (zM_of zq_141))) ((s_il_3 p_141_25).trans <| (s_const p_141_26).trans <| Eq.trans ((s_c_ne_f p_141_27 rfl rfl wl_1)) <| ite_cg ((s_il_1 p_141_30).trans <| (s_il_2 p_141_31).trans <| (s_cs2 (Lc := [.int (iI x1), .int (iI x2)]) p_141_32 (by decide) (zM_of zq_121) ⟨Nat.le_of_ble_eq_true rfl, Nat.le_of_ble_eq_true rfl⟩ rfl).trans <| (bd b_121_0).trans <| ri_k.trans <| (s_goto p_141_35 rfl).trans <| (s_reti p_141_47 (zM_of zq_141))) ((s_al_0 p_141_38).trans <| (s_getr p_141_39 hs_0 (by decide) rfl).trans <| (s_il_1 p_141_42).trans <| (s_il_2 p_141_43).trans <| (s_cv2 (Lc := [.ref 191, .int (iI x1), .int (iI x2)]) p_141_44 (by decide) (by decide) (zM_of zq_89) ⟨Nat.le_of_ble_eq_true rfl, Nat.le_of_ble_eq_true rfl⟩ rfl (m_rc hs_191 ⟨rfl, by decide⟩))))
theorem b_141_47 {xs0 : Int} {u0 u1 u2 u3 : Value} : Z e (d + 2) 141 47 [u0, u1, u2, u3] [.int (iI xs0)] m = ri xs0 m := (s_reti p_141_47 (zM_of zq_141))
-- P.person
theorem p_142_0 : zP1 142 0 = some (.iload_n 1, 0, 0, 0) := zp_l zq_142 rfl
theorem p_142_1 : zP1 142 1 = some (.invokestatic 86, 194, 1, 0) := zp_r zq_142 rfl
theorem p_142_4 : zP1 142 4 = some (.ifCond .ne 13, 0, 0, 0) := zp_l zq_142 rfl
theorem p_142_7 : zP1 142 7 = some (.iload_n 2, 0, 0, 0) := zp_l zq_142 rfl
theorem p_142_8 : zP1 142 8 = some (.iconst 1, 0, 0, 0) := zp_l zq_142 rfl
theorem p_142_9 : zP1 142 9 = some (.if_icmp .lt 8, 0, 0, 0) := zp_l zq_142 rfl
theorem p_142_12 : zP1 142 12 = some (.iload_n 2, 0, 0, 0) := zp_l zq_142 rfl
theorem p_142_13 : zP1 142 13 = some (.iconst 4, 0, 0, 0) := zp_l zq_142 rfl
theorem p_142_14 : zP1 142 14 = some (.if_icmp .le 5, 0, 0, 0) := zp_l zq_142 rfl
theorem p_142_17 : zP1 142 17 = some (.iconst (-1), 0, 0, 0) := zp_l zq_142 rfl
theorem p_142_18 : zP1 142 18 = some (.ireturn, 0, 0, 0) := zp_l zq_142 rfl
theorem p_142_19 : zP1 142 19 = some (.aload_n 0, 0, 0, 0) := zp_l zq_142 rfl
theorem p_142_20 : zP1 142 20 = some (.getfield 10, 10, 0, 0) := zp_r zq_142 rfl
theorem p_142_23 : zP1 142 23 = some (.iload_n 1, 0, 0, 0) := zp_l zq_142 rfl
theorem p_142_24 : zP1 142 24 = some (.invokevirtual 107, 123, 1, 9) := zp_r zq_142 rfl
theorem p_142_27 : zP1 142 27 = some (.ifCond .eq 6, 0, 0, 0) := zp_l zq_142 rfl
theorem p_142_30 : zP1 142 30 = some (.bipush (-4), 0, 0, 0) := zp_l zq_142 rfl
theorem p_142_32 : zP1 142 32 = some (.ireturn, 0, 0, 0) := zp_l zq_142 rfl
theorem p_142_33 : zP1 142 33 = some (.aload_n 0, 0, 0, 0) := zp_l zq_142 rfl
theorem p_142_34 : zP1 142 34 = some (.getfield 10, 10, 0, 0) := zp_r zq_142 rfl
theorem p_142_37 : zP1 142 37 = some (.getfield 110, 9, 5, 0) := zp_r zq_142 rfl
theorem p_142_40 : zP1 142 40 = some (.invokevirtual 114, 103, 0, 7) := zp_r zq_142 rfl
theorem p_142_43 : zP1 142 43 = some (.ifCond .eq 6, 0, 0, 0) := zp_l zq_142 rfl
theorem p_142_46 : zP1 142 46 = some (.bipush (-2), 0, 0, 0) := zp_l zq_142 rfl
theorem p_142_48 : zP1 142 48 = some (.ireturn, 0, 0, 0) := zp_l zq_142 rfl
theorem p_142_49 : zP1 142 49 = some (.aload_n 0, 0, 0, 0) := zp_l zq_142 rfl
theorem p_142_50 : zP1 142 50 = some (.getfield 10, 10, 0, 0) := zp_r zq_142 rfl
theorem p_142_53 : zP1 142 53 = some (.iload_n 1, 0, 0, 0) := zp_l zq_142 rfl
theorem p_142_54 : zP1 142 54 = some (.iload_n 2, 0, 0, 0) := zp_l zq_142 rfl
theorem p_142_55 : zP1 142 55 = some (.invokevirtual 120, 125, 2, 9) := zp_r zq_142 rfl
theorem p_142_58 : zP1 142 58 = some (.ireturn, 0, 0, 0) := zp_l zq_142 rfl
theorem b_142_0 {x1 : Int} {x2 : Int} : Z e (d + 1) 142 0 [.ref 0, .int (iI x1), .int (iI x2)] [] m = (if (((wr x1) < 0) ∨ (100 ≤ (wr x1))) ∨ (((wr x2) < 1) ∨ (4 < (wr x2))) then ri (-1) m else ck (0 ≤ (wr x1) ∧ (wr x1) < 100) ((if (wr (m 2 (wr x1))) = 1 then ri (-4) m else (if (wr ((16 : Nat) : Int)) ≤ (wr (m 4 3)) then ri (-2) m else (Z e d 125 0 [.ref 1, .int (iI x1), .int (iI x2), .retAddr 0, .retAddr 0] [] m).bind (ZK e (d + 1) 142 58 [.ref 0, .int (iI x1), .int (iI x2)] [] m))))) := (s_il_1 p_142_0).trans <| (s_cs1 (Lc := [.int (iI x1)]) p_142_1 (by decide) (zM_of zq_194) ⟨Nat.le_of_ble_eq_true rfl, Nat.le_of_ble_eq_true rfl⟩ rfl).trans <| (bd b_194_0).trans <| ri_k.trans <| Eq.trans (Eq.trans (s_bne_t p_142_4 rfl) <| Eq.trans (ite_cg rfl ((s_il_2 p_142_7).trans <| (s_const p_142_8).trans <| Eq.trans (s_c_lt_t p_142_9 rfl rfl wl_1) <| Eq.trans (ite_cg rfl ((s_il_2 p_142_12).trans <| (s_const p_142_13).trans <| (s_c_le_f p_142_14 rfl rfl wl_4))) co_or)) co_or) <| ite_cg ((s_const p_142_17).trans <| (s_reti p_142_18 (zM_of zq_142))) ((s_al_0 p_142_19).trans <| (s_getr p_142_20 hs_0 (by decide) rfl).trans <| (s_il_1 p_142_23).trans <| (s_cv1 (Lc := [.ref 1, .int (iI x1)]) p_142_24 (by decide) (by decide) (zM_of zq_123) ⟨Nat.le_of_ble_eq_true rfl, Nat.le_of_ble_eq_true rfl⟩ rfl (m_rc hs_1 ⟨rfl, by decide⟩)).trans <| (bd b_123_0).trans <| ck_bind.trans <| ck_cg fun _ => ri_k.trans <| Eq.trans ((s_beq_f p_142_27 rfl)) <| ite_cg ((s_bip p_142_30 rfl).trans <| (s_reti p_142_32 (zM_of zq_142))) ((s_al_0 p_142_33).trans <| (s_getr p_142_34 hs_0 (by decide) rfl).trans <| (s_getr p_142_37 hs_1 (by decide) rfl).trans <| (s_cv0 (Lc := [.ref 4]) p_142_40 (by decide) (by decide) (zM_of zq_103) ⟨Nat.le_of_ble_eq_true rfl, Nat.le_of_ble_eq_true rfl⟩ rfl (m_rc hs_4 ⟨rfl, by decide⟩)).trans <| (bd (b_103_0 zTab_4)).trans <| ri_k.trans <| Eq.trans ((s_beq_f p_142_43 rfl)) <| ite_cg ((s_bip p_142_46 rfl).trans <| (s_reti p_142_48 (zM_of zq_142))) ((s_al_0 p_142_49).trans <| (s_getr p_142_50 hs_0 (by decide) rfl).trans <| (s_il_1 p_142_53).trans <| (s_il_2 p_142_54).trans <| (s_cv2 (Lc := [.ref 1, .int (iI x1), .int (iI x2), .retAddr 0, .retAddr 0]) p_142_55 (by decide) (by decide) (zM_of zq_125) ⟨Nat.le_of_ble_eq_true rfl, Nat.le_of_ble_eq_true rfl⟩ rfl (m_rc hs_1 ⟨rfl, by decide⟩)))))
theorem b_142_58 {xs0 : Int} {u0 u1 u2 : Value} : Z e (d + 1) 142 58 [u0, u1, u2] [.int (iI xs0)] m = ri xs0 m := (s_reti p_142_58 (zM_of zq_142))
-- P.noPerson
theorem p_197_0 : zP1 197 0 = some (.aload_n 0, 0, 0, 0) := zp_l zq_197 rfl
theorem p_197_1 : zP1 197 1 = some (.getfield 10, 10, 0, 0) := zp_r zq_197 rfl
theorem p_197_4 : zP1 197 4 = some (.getfield 110, 9, 5, 0) := zp_r zq_197 rfl
theorem p_197_7 : zP1 197 7 = some (.iload_n 1, 0, 0, 0) := zp_l zq_197 rfl
theorem p_197_8 : zP1 197 8 = some (.invokevirtual 229, 102, 1, 7) := zp_r zq_197 rfl
theorem p_197_11 : zP1 197 11 = some (.ifCond .ne 7, 0, 0, 0) := zp_l zq_197 rfl
theorem p_197_14 : zP1 197 14 = some (.iconst 1, 0, 0, 0) := zp_l zq_197 rfl
theorem p_197_15 : zP1 197 15 = some (.goto 4, 0, 0, 0) := zp_l zq_197 rfl
theorem p_197_18 : zP1 197 18 = some (.iconst 0, 0, 0, 0) := zp_l zq_197 rfl
theorem p_197_19 : zP1 197 19 = some (.ireturn, 0, 0, 0) := zp_l zq_197 rfl
theorem b_197_0 {x1 : Int} : Z e (d + 1) 197 0 [.ref 0, .int (iI x1)] [] m = ri (if ¬ ((0 ≤ (wr x1)) ∧ ((wr x1) < (wr (m 4 3)))) then 1 else 0) m := (s_al_0 p_197_0).trans <| (s_getr p_197_1 hs_0 (by decide) rfl).trans <| (s_getr p_197_4 hs_1 (by decide) rfl).trans <| (s_il_1 p_197_7).trans <| (s_cv1 (Lc := [.ref 4, .int (iI x1)]) p_197_8 (by decide) (by decide) (zM_of zq_102) ⟨Nat.le_of_ble_eq_true rfl, Nat.le_of_ble_eq_true rfl⟩ rfl (m_rc hs_4 ⟨rfl, by decide⟩)).trans <| (bd (b_102_0 zTab_4)).trans <| ri_k.trans <| Eq.trans (Eq.trans ((s_bne_f p_197_11 rfl)) <| Eq.trans (ite_cg ((s_const p_197_14).trans <| (s_goto p_197_15 rfl).trans <| rfl) ((s_const p_197_18).trans <| rfl)) (phi1 (fun z0 => Z e (d + 1) 197 19 [.ref 0, .int (iI x1)] [.int (iI z0)] m))) <| (s_retb p_197_19 (zM_of zq_197))
-- P.move
theorem p_143_0 : zP1 143 0 = some (.aload_n 0, 0, 0, 0) := zp_l zq_143 rfl
theorem p_143_1 : zP1 143 1 = some (.iload_n 1, 0, 0, 0) := zp_l zq_143 rfl
theorem p_143_2 : zP1 143 2 = some (.invokevirtual 123, 197, 1, 10) := zp_r zq_143 rfl
theorem p_143_5 : zP1 143 5 = some (.ifCond .ne 10, 0, 0, 0) := zp_l zq_143 rfl
theorem p_143_8 : zP1 143 8 = some (.iload_n 2, 0, 0, 0) := zp_l zq_143 rfl
theorem p_143_9 : zP1 143 9 = some (.invokestatic 86, 194, 1, 0) := zp_r zq_143 rfl
theorem p_143_12 : zP1 143 12 = some (.ifCond .eq 5, 0, 0, 0) := zp_l zq_143 rfl
theorem p_143_15 : zP1 143 15 = some (.iconst (-1), 0, 0, 0) := zp_l zq_143 rfl
theorem p_143_16 : zP1 143 16 = some (.ireturn, 0, 0, 0) := zp_l zq_143 rfl
theorem p_143_17 : zP1 143 17 = some (.aload_n 0, 0, 0, 0) := zp_l zq_143 rfl
theorem p_143_18 : zP1 143 18 = some (.getfield 10, 10, 0, 0) := zp_r zq_143 rfl
theorem p_143_21 : zP1 143 21 = some (.iload_n 2, 0, 0, 0) := zp_l zq_143 rfl
theorem p_143_22 : zP1 143 22 = some (.invokevirtual 107, 123, 1, 9) := zp_r zq_143 rfl
theorem p_143_25 : zP1 143 25 = some (.ifCond .eq 6, 0, 0, 0) := zp_l zq_143 rfl
theorem p_143_28 : zP1 143 28 = some (.bipush (-4), 0, 0, 0) := zp_l zq_143 rfl
theorem p_143_30 : zP1 143 30 = some (.ireturn, 0, 0, 0) := zp_l zq_143 rfl
theorem p_143_31 : zP1 143 31 = some (.aload_n 0, 0, 0, 0) := zp_l zq_143 rfl
theorem p_143_32 : zP1 143 32 = some (.getfield 10, 10, 0, 0) := zp_r zq_143 rfl
theorem p_143_35 : zP1 143 35 = some (.getfield 110, 9, 5, 0) := zp_r zq_143 rfl
theorem p_143_38 : zP1 143 38 = some (.iload_n 1, 0, 0, 0) := zp_l zq_143 rfl
theorem p_143_39 : zP1 143 39 = some (.iconst 0, 0, 0, 0) := zp_l zq_143 rfl
theorem p_143_40 : zP1 143 40 = some (.invokevirtual 126, 104, 2, 7) := zp_r zq_143 rfl
theorem p_143_43 : zP1 143 43 = some (.istore_n 3, 0, 0, 0) := zp_l zq_143 rfl
theorem p_143_44 : zP1 143 44 = some (.aload_n 0, 0, 0, 0) := zp_l zq_143 rfl
theorem p_143_45 : zP1 143 45 = some (.getfield 10, 10, 0, 0) := zp_r zq_143 rfl
theorem p_143_48 : zP1 143 48 = some (.getfield 110, 9, 5, 0) := zp_r zq_143 rfl
theorem p_143_51 : zP1 143 51 = some (.iload_n 1, 0, 0, 0) := zp_l zq_143 rfl
theorem p_143_52 : zP1 143 52 = some (.iconst 0, 0, 0, 0) := zp_l zq_143 rfl
theorem p_143_53 : zP1 143 53 = some (.iload_n 2, 0, 0, 0) := zp_l zq_143 rfl
theorem p_143_54 : zP1 143 54 = some (.invokevirtual 129, 105, 3, 7) := zp_r zq_143 rfl
theorem p_143_57 : zP1 143 57 = some (.aload_n 0, 0, 0, 0) := zp_l zq_143 rfl
theorem p_143_58 : zP1 143 58 = some (.getfield 10, 10, 0, 0) := zp_r zq_143 rfl
theorem p_143_61 : zP1 143 61 = some (.getfield 110, 9, 5, 0) := zp_r zq_143 rfl
theorem p_143_64 : zP1 143 64 = some (.iload_n 1, 0, 0, 0) := zp_l zq_143 rfl
theorem p_143_65 : zP1 143 65 = some (.iconst 4, 0, 0, 0) := zp_l zq_143 rfl
theorem p_143_66 : zP1 143 66 = some (.bipush (-3), 0, 0, 0) := zp_l zq_143 rfl
theorem p_143_68 : zP1 143 68 = some (.invokevirtual 129, 105, 3, 7) := zp_r zq_143 rfl
theorem p_143_71 : zP1 143 71 = some (.iload_n 3, 0, 0, 0) := zp_l zq_143 rfl
theorem p_143_72 : zP1 143 72 = some (.ireturn, 0, 0, 0) := zp_l zq_143 rfl
theorem b_143_0 {x1 : Int} {x2 : Int} : Z e (d + 2) 143 0 [.ref 0, .int (iI x1), .int (iI x2), .retAddr 0] [] m = (if (¬ ((0 ≤ (wr x1)) ∧ ((wr x1) < (wr (m 4 3))))) ∨ (((wr x2) < 0) ∨ (100 ≤ (wr x2))) then ri (-1) m else ck (0 ≤ (wr x2) ∧ (wr x2) < 100) ((if (wr (m 2 (wr x2))) = 1 then ri (-4) m else (Z e (d + 1) 104 0 [.ref 4, .int (iI x1), .int (iI 0)] [] m).bind (ZK e (d + 2) 143 43 [.ref 0, .int (iI x1), .int (iI x2), .retAddr 0] [] m)))) := (s_al_0 p_143_0).trans <| (s_il_1 p_143_1).trans <| (s_cv1 (Lc := [.ref 0, .int (iI x1)]) p_143_2 (by decide) (by decide) (zM_of zq_197) ⟨Nat.le_of_ble_eq_true rfl, Nat.le_of_ble_eq_true rfl⟩ rfl (m_rc hs_0 ⟨rfl, by decide⟩)).trans <| (bd b_197_0).trans <| ri_k.trans <| Eq.trans (Eq.trans (s_bne_t p_143_5 rfl) <| Eq.trans (ite_cg rfl ((s_il_2 p_143_8).trans <| (s_cs1 (Lc := [.int (iI x2)]) p_143_9 (by decide) (zM_of zq_194) ⟨Nat.le_of_ble_eq_true rfl, Nat.le_of_ble_eq_true rfl⟩ rfl).trans <| (bd b_194_0).trans <| ri_k.trans <| (s_beq_f p_143_12 rfl))) co_or) <| ite_cg ((s_const p_143_15).trans <| (s_reti p_143_16 (zM_of zq_143))) ((s_al_0 p_143_17).trans <| (s_getr p_143_18 hs_0 (by decide) rfl).trans <| (s_il_2 p_143_21).trans <| (s_cv1 (Lc := [.ref 1, .int (iI x2)]) p_143_22 (by decide) (by decide) (zM_of zq_123) ⟨Nat.le_of_ble_eq_true rfl, Nat.le_of_ble_eq_true rfl⟩ rfl (m_rc hs_1 ⟨rfl, by decide⟩)).trans <| (bd b_123_0).trans <| ck_bind.trans <| ck_cg fun _ => ri_k.trans <| Eq.trans ((s_beq_f p_143_25 rfl)) <| ite_cg ((s_bip p_143_28 rfl).trans <| (s_reti p_143_30 (zM_of zq_143))) ((s_al_0 p_143_31).trans <| (s_getr p_143_32 hs_0 (by decide) rfl).trans <| (s_getr p_143_35 hs_1 (by decide) rfl).trans <| (s_il_1 p_143_38).trans <| (s_const p_143_39).trans <| (s_cv2 (Lc := [.ref 4, .int (iI x1), .int (iI 0)]) p_143_40 (by decide) (by decide) (zM_of zq_104) ⟨Nat.le_of_ble_eq_true rfl, Nat.le_of_ble_eq_true rfl⟩ rfl (m_rc hs_4 ⟨rfl, by decide⟩))))
theorem b_143_43 {x1 : Int} {x2 : Int} {xs0 : Int} {u3 : Value} : Z e (d + 2) 143 43 [.ref 0, .int (iI x1), .int (iI x2), u3] [.int (iI xs0)] m = (Z e (d + 1) 105 0 [.ref 4, .int (iI x1), .int (iI 0), .int (iI x2)] [] m).bind (ZK e (d + 2) 143 57 [.ref 0, .int (iI x1), .int (iI x2), .int (iI xs0)] [] m) := (s_is_3 cat_i p_143_43).trans <| (s_al_0 p_143_44).trans <| (s_getr p_143_45 hs_0 (by decide) rfl).trans <| (s_getr p_143_48 hs_1 (by decide) rfl).trans <| (s_il_1 p_143_51).trans <| (s_const p_143_52).trans <| (s_il_2 p_143_53).trans <| (s_cv3 (Lc := [.ref 4, .int (iI x1), .int (iI 0), .int (iI x2)]) p_143_54 (by decide) (by decide) (zM_of zq_105) ⟨Nat.le_of_ble_eq_true rfl, Nat.le_of_ble_eq_true rfl⟩ rfl (m_rc hs_4 ⟨rfl, by decide⟩))
theorem b_143_57 {x1 : Int} {x3 : Int} {u2 : Value} : Z e (d + 2) 143 57 [.ref 0, .int (iI x1), u2, .int (iI x3)] [] m = (Z e (d + 1) 105 0 [.ref 4, .int (iI x1), .int (iI 4), .int (iI (-3))] [] m).bind (ZK e (d + 2) 143 71 [.ref 0, .int (iI x1), u2, .int (iI x3)] [] m) := (s_al_0 p_143_57).trans <| (s_getr p_143_58 hs_0 (by decide) rfl).trans <| (s_getr p_143_61 hs_1 (by decide) rfl).trans <| (s_il_1 p_143_64).trans <| (s_const p_143_65).trans <| (s_bip p_143_66 rfl).trans <| (s_cv3 (Lc := [.ref 4, .int (iI x1), .int (iI 4), .int (iI (-3))]) p_143_68 (by decide) (by decide) (zM_of zq_105) ⟨Nat.le_of_ble_eq_true rfl, Nat.le_of_ble_eq_true rfl⟩ rfl (m_rc hs_4 ⟨rfl, by decide⟩))
theorem b_143_71 {x3 : Int} {u0 u1 u2 : Value} : Z e (d + 2) 143 71 [u0, u1, u2, .int (iI x3)] [] m = ri x3 m := (s_il_3 p_143_71).trans <| (s_reti p_143_72 (zM_of zq_143))
-- P.personOf
theorem p_144_0 : zP1 144 0 = some (.aload_n 0, 0, 0, 0) := zp_l zq_144 rfl
theorem p_144_1 : zP1 144 1 = some (.iload_n 1, 0, 0, 0) := zp_l zq_144 rfl
theorem p_144_2 : zP1 144 2 = some (.invokevirtual 123, 197, 1, 10) := zp_r zq_144 rfl
theorem p_144_5 : zP1 144 5 = some (.ifCond .ne 13, 0, 0, 0) := zp_l zq_144 rfl
theorem p_144_8 : zP1 144 8 = some (.iload_n 2, 0, 0, 0) := zp_l zq_144 rfl
theorem p_144_9 : zP1 144 9 = some (.ifCond .lt 9, 0, 0, 0) := zp_l zq_144 rfl
theorem p_144_12 : zP1 144 12 = some (.iload_n 2, 0, 0, 0) := zp_l zq_144 rfl
theorem p_144_13 : zP1 144 13 = some (.bipush 9, 0, 0, 0) := zp_l zq_144 rfl
theorem p_144_15 : zP1 144 15 = some (.if_icmp .le 5, 0, 0, 0) := zp_l zq_144 rfl
theorem p_144_18 : zP1 144 18 = some (.iconst (-1), 0, 0, 0) := zp_l zq_144 rfl
theorem p_144_19 : zP1 144 19 = some (.ireturn, 0, 0, 0) := zp_l zq_144 rfl
theorem p_144_20 : zP1 144 20 = some (.iload_n 2, 0, 0, 0) := zp_l zq_144 rfl
theorem p_144_21 : zP1 144 21 = some (.bipush 9, 0, 0, 0) := zp_l zq_144 rfl
theorem p_144_23 : zP1 144 23 = some (.if_icmp .ne 14, 0, 0, 0) := zp_l zq_144 rfl
theorem p_144_26 : zP1 144 26 = some (.aload_n 0, 0, 0, 0) := zp_l zq_144 rfl
theorem p_144_27 : zP1 144 27 = some (.getfield 10, 10, 0, 0) := zp_r zq_144 rfl
theorem p_144_30 : zP1 144 30 = some (.iload_n 1, 0, 0, 0) := zp_l zq_144 rfl
theorem p_144_31 : zP1 144 31 = some (.invokevirtual 133, 130, 1, 9) := zp_r zq_144 rfl
theorem p_144_34 : zP1 144 34 = some (.goto 15, 0, 0, 0) := zp_l zq_144 rfl
theorem p_144_37 : zP1 144 37 = some (.aload_n 0, 0, 0, 0) := zp_l zq_144 rfl
theorem p_144_38 : zP1 144 38 = some (.getfield 10, 10, 0, 0) := zp_r zq_144 rfl
theorem p_144_41 : zP1 144 41 = some (.getfield 110, 9, 5, 0) := zp_r zq_144 rfl
theorem p_144_44 : zP1 144 44 = some (.iload_n 1, 0, 0, 0) := zp_l zq_144 rfl
theorem p_144_45 : zP1 144 45 = some (.iload_n 2, 0, 0, 0) := zp_l zq_144 rfl
theorem p_144_46 : zP1 144 46 = some (.invokevirtual 126, 104, 2, 7) := zp_r zq_144 rfl
theorem p_144_49 : zP1 144 49 = some (.ireturn, 0, 0, 0) := zp_l zq_144 rfl
theorem b_144_0 {x1 : Int} {x2 : Int} : Z e (d + 2) 144 0 [.ref 0, .int (iI x1), .int (iI x2)] [] m = (if (¬ ((0 ≤ (wr x1)) ∧ ((wr x1) < (wr (m 4 3))))) ∨ (((wr x2) < 0) ∨ (9 < (wr x2))) then ri (-1) m else (if (wr x2) = 9 then (Z e (d + 1) 130 0 [.ref 1, .int (iI x1), .retAddr 0, .retAddr 0] [] m).bind (ZK e (d + 2) 144 34 [.ref 0, .int (iI x1), .int (iI x2)] [] m) else (Z e (d + 1) 104 0 [.ref 4, .int (iI x1), .int (iI x2)] [] m).bind (ZK e (d + 2) 144 49 [.ref 0, .int (iI x1), .int (iI x2)] [] m))) := (s_al_0 p_144_0).trans <| (s_il_1 p_144_1).trans <| (s_cv1 (Lc := [.ref 0, .int (iI x1)]) p_144_2 (by decide) (by decide) (zM_of zq_197) ⟨Nat.le_of_ble_eq_true rfl, Nat.le_of_ble_eq_true rfl⟩ rfl (m_rc hs_0 ⟨rfl, by decide⟩)).trans <| (bd b_197_0).trans <| ri_k.trans <| Eq.trans (Eq.trans (s_bne_t p_144_5 rfl) <| Eq.trans (ite_cg rfl ((s_il_2 p_144_8).trans <| Eq.trans (s_z_lt_t p_144_9 rfl rfl) <| Eq.trans (ite_cg rfl ((s_il_2 p_144_12).trans <| (s_bip p_144_13 rfl).trans <| (s_c_le_f p_144_15 rfl rfl wl_9))) co_or)) co_or) <| ite_cg ((s_const p_144_18).trans <| (s_reti p_144_19 (zM_of zq_144))) ((s_il_2 p_144_20).trans <| (s_bip p_144_21 rfl).trans <| Eq.trans ((s_c_ne_f p_144_23 rfl rfl wl_9)) <| ite_cg ((s_al_0 p_144_26).trans <| (s_getr p_144_27 hs_0 (by decide) rfl).trans <| (s_il_1 p_144_30).trans <| (s_cv1 (Lc := [.ref 1, .int (iI x1), .retAddr 0, .retAddr 0]) p_144_31 (by decide) (by decide) (zM_of zq_130) ⟨Nat.le_of_ble_eq_true rfl, Nat.le_of_ble_eq_true rfl⟩ rfl (m_rc hs_1 ⟨rfl, by decide⟩))) ((s_al_0 p_144_37).trans <| (s_getr p_144_38 hs_0 (by decide) rfl).trans <| (s_getr p_144_41 hs_1 (by decide) rfl).trans <| (s_il_1 p_144_44).trans <| (s_il_2 p_144_45).trans <| (s_cv2 (Lc := [.ref 4, .int (iI x1), .int (iI x2)]) p_144_46 (by decide) (by decide) (zM_of zq_104) ⟨Nat.le_of_ble_eq_true rfl, Nat.le_of_ble_eq_true rfl⟩ rfl (m_rc hs_4 ⟨rfl, by decide⟩))))
theorem b_144_34 {xs0 : Int} {u0 u1 u2 : Value} : Z e (d + 2) 144 34 [u0, u1, u2] [.int (iI xs0)] m = Z e (d + 2) 144 49 [u0, u1, u2] [.int (iI xs0)] m := (s_goto p_144_34 rfl).trans <| rfl
theorem b_144_49 {xs0 : Int} {u0 u1 u2 : Value} : Z e (d + 2) 144 49 [u0, u1, u2] [.int (iI xs0)] m = ri xs0 m := (s_reti p_144_49 (zM_of zq_144))
-- P.stone
theorem p_145_0 : zP1 145 0 = some (.iload_n 1, 0, 0, 0) := zp_l zq_145 rfl
theorem p_145_1 : zP1 145 1 = some (.invokestatic 86, 194, 1, 0) := zp_r zq_145 rfl
theorem p_145_4 : zP1 145 4 = some (.ifCond .ne 14, 0, 0, 0) := zp_l zq_145 rfl
theorem p_145_7 : zP1 145 7 = some (.iload_n 2, 0, 0, 0) := zp_l zq_145 rfl
theorem p_145_8 : zP1 145 8 = some (.iconst 1, 0, 0, 0) := zp_l zq_145 rfl
theorem p_145_9 : zP1 145 9 = some (.if_icmp .lt 9, 0, 0, 0) := zp_l zq_145 rfl
theorem p_145_12 : zP1 145 12 = some (.iload_n 2, 0, 0, 0) := zp_l zq_145 rfl
theorem p_145_13 : zP1 145 13 = some (.bipush 9, 0, 0, 0) := zp_l zq_145 rfl
theorem p_145_15 : zP1 145 15 = some (.if_icmp .le 5, 0, 0, 0) := zp_l zq_145 rfl
theorem p_145_18 : zP1 145 18 = some (.iconst (-1), 0, 0, 0) := zp_l zq_145 rfl
theorem p_145_19 : zP1 145 19 = some (.ireturn, 0, 0, 0) := zp_l zq_145 rfl
theorem p_145_20 : zP1 145 20 = some (.aload_n 0, 0, 0, 0) := zp_l zq_145 rfl
theorem p_145_21 : zP1 145 21 = some (.getfield 10, 10, 0, 0) := zp_r zq_145 rfl
theorem p_145_24 : zP1 145 24 = some (.iload_n 1, 0, 0, 0) := zp_l zq_145 rfl
theorem p_145_25 : zP1 145 25 = some (.invokevirtual 107, 123, 1, 9) := zp_r zq_145 rfl
theorem p_145_28 : zP1 145 28 = some (.ifCond .eq 6, 0, 0, 0) := zp_l zq_145 rfl
theorem p_145_31 : zP1 145 31 = some (.bipush (-4), 0, 0, 0) := zp_l zq_145 rfl
theorem p_145_33 : zP1 145 33 = some (.ireturn, 0, 0, 0) := zp_l zq_145 rfl
theorem p_145_34 : zP1 145 34 = some (.aload_n 0, 0, 0, 0) := zp_l zq_145 rfl
theorem p_145_35 : zP1 145 35 = some (.getfield 10, 10, 0, 0) := zp_r zq_145 rfl
theorem p_145_38 : zP1 145 38 = some (.getfield 137, 9, 6, 0) := zp_r zq_145 rfl
theorem p_145_41 : zP1 145 41 = some (.invokevirtual 114, 103, 0, 7) := zp_r zq_145 rfl
theorem p_145_44 : zP1 145 44 = some (.ifCond .eq 6, 0, 0, 0) := zp_l zq_145 rfl
theorem p_145_47 : zP1 145 47 = some (.bipush (-2), 0, 0, 0) := zp_l zq_145 rfl
theorem p_145_49 : zP1 145 49 = some (.ireturn, 0, 0, 0) := zp_l zq_145 rfl
theorem p_145_50 : zP1 145 50 = some (.aload_n 0, 0, 0, 0) := zp_l zq_145 rfl
theorem p_145_51 : zP1 145 51 = some (.getfield 10, 10, 0, 0) := zp_r zq_145 rfl
theorem p_145_54 : zP1 145 54 = some (.getfield 137, 9, 6, 0) := zp_r zq_145 rfl
theorem p_145_57 : zP1 145 57 = some (.invokevirtual 140, 106, 0, 7) := zp_r zq_145 rfl
theorem p_145_60 : zP1 145 60 = some (.istore_n 3, 0, 0, 0) := zp_l zq_145 rfl
theorem p_145_61 : zP1 145 61 = some (.aload_n 0, 0, 0, 0) := zp_l zq_145 rfl
theorem p_145_62 : zP1 145 62 = some (.getfield 10, 10, 0, 0) := zp_r zq_145 rfl
theorem p_145_65 : zP1 145 65 = some (.getfield 137, 9, 6, 0) := zp_r zq_145 rfl
theorem p_145_68 : zP1 145 68 = some (.iload_n 3, 0, 0, 0) := zp_l zq_145 rfl
theorem p_145_69 : zP1 145 69 = some (.iconst 0, 0, 0, 0) := zp_l zq_145 rfl
theorem p_145_70 : zP1 145 70 = some (.iload_n 1, 0, 0, 0) := zp_l zq_145 rfl
theorem p_145_71 : zP1 145 71 = some (.invokevirtual 129, 105, 3, 7) := zp_r zq_145 rfl
theorem p_145_74 : zP1 145 74 = some (.aload_n 0, 0, 0, 0) := zp_l zq_145 rfl
theorem p_145_75 : zP1 145 75 = some (.getfield 10, 10, 0, 0) := zp_r zq_145 rfl
theorem p_145_78 : zP1 145 78 = some (.getfield 137, 9, 6, 0) := zp_r zq_145 rfl
theorem p_145_81 : zP1 145 81 = some (.iload_n 3, 0, 0, 0) := zp_l zq_145 rfl
theorem p_145_82 : zP1 145 82 = some (.iconst 1, 0, 0, 0) := zp_l zq_145 rfl
theorem p_145_83 : zP1 145 83 = some (.iload_n 2, 0, 0, 0) := zp_l zq_145 rfl
theorem p_145_84 : zP1 145 84 = some (.invokevirtual 129, 105, 3, 7) := zp_r zq_145 rfl
theorem p_145_87 : zP1 145 87 = some (.aload_n 0, 0, 0, 0) := zp_l zq_145 rfl
theorem p_145_88 : zP1 145 88 = some (.getfield 40, 10, 4, 0) := zp_r zq_145 rfl
theorem p_145_91 : zP1 145 91 = some (.invokevirtual 97, 18, 0, 1) := zp_r zq_145 rfl
theorem p_145_94 : zP1 145 94 = some (.iload_n 3, 0, 0, 0) := zp_l zq_145 rfl
theorem p_145_95 : zP1 145 95 = some (.ireturn, 0, 0, 0) := zp_l zq_145 rfl
theorem b_145_0 {x1 : Int} {x2 : Int} : Z e (d + 1) 145 0 [.ref 0, .int (iI x1), .int (iI x2), .retAddr 0] [] m = (if (((wr x1) < 0) ∨ (100 ≤ (wr x1))) ∨ (((wr x2) < 1) ∨ (9 < (wr x2))) then ri (-1) m else ck (0 ≤ (wr x1) ∧ (wr x1) < 100) ((if (wr (m 2 (wr x1))) = 1 then ri (-4) m else (if (wr ((6 : Nat) : Int)) ≤ (wr (m 6 3)) then ri (-2) m else (Z e d 106 0 [.ref 6, .retAddr 0] [] m).bind (ZK e (d + 1) 145 60 [.ref 0, .int (iI x1), .int (iI x2), .retAddr 0] [] m))))) := (s_il_1 p_145_0).trans <| (s_cs1 (Lc := [.int (iI x1)]) p_145_1 (by decide) (zM_of zq_194) ⟨Nat.le_of_ble_eq_true rfl, Nat.le_of_ble_eq_true rfl⟩ rfl).trans <| (bd b_194_0).trans <| ri_k.trans <| Eq.trans (Eq.trans (s_bne_t p_145_4 rfl) <| Eq.trans (ite_cg rfl ((s_il_2 p_145_7).trans <| (s_const p_145_8).trans <| Eq.trans (s_c_lt_t p_145_9 rfl rfl wl_1) <| Eq.trans (ite_cg rfl ((s_il_2 p_145_12).trans <| (s_bip p_145_13 rfl).trans <| (s_c_le_f p_145_15 rfl rfl wl_9))) co_or)) co_or) <| ite_cg ((s_const p_145_18).trans <| (s_reti p_145_19 (zM_of zq_145))) ((s_al_0 p_145_20).trans <| (s_getr p_145_21 hs_0 (by decide) rfl).trans <| (s_il_1 p_145_24).trans <| (s_cv1 (Lc := [.ref 1, .int (iI x1)]) p_145_25 (by decide) (by decide) (zM_of zq_123) ⟨Nat.le_of_ble_eq_true rfl, Nat.le_of_ble_eq_true rfl⟩ rfl (m_rc hs_1 ⟨rfl, by decide⟩)).trans <| (bd b_123_0).trans <| ck_bind.trans <| ck_cg fun _ => ri_k.trans <| Eq.trans ((s_beq_f p_145_28 rfl)) <| ite_cg ((s_bip p_145_31 rfl).trans <| (s_reti p_145_33 (zM_of zq_145))) ((s_al_0 p_145_34).trans <| (s_getr p_145_35 hs_0 (by decide) rfl).trans <| (s_getr p_145_38 hs_1 (by decide) rfl).trans <| (s_cv0 (Lc := [.ref 6]) p_145_41 (by decide) (by decide) (zM_of zq_103) ⟨Nat.le_of_ble_eq_true rfl, Nat.le_of_ble_eq_true rfl⟩ rfl (m_rc hs_6 ⟨rfl, by decide⟩)).trans <| (bd (b_103_0 zTab_6)).trans <| ri_k.trans <| Eq.trans ((s_beq_f p_145_44 rfl)) <| ite_cg ((s_bip p_145_47 rfl).trans <| (s_reti p_145_49 (zM_of zq_145))) ((s_al_0 p_145_50).trans <| (s_getr p_145_51 hs_0 (by decide) rfl).trans <| (s_getr p_145_54 hs_1 (by decide) rfl).trans <| (s_cv0 (Lc := [.ref 6, .retAddr 0]) p_145_57 (by decide) (by decide) (zM_of zq_106) ⟨Nat.le_of_ble_eq_true rfl, Nat.le_of_ble_eq_true rfl⟩ rfl (m_rc hs_6 ⟨rfl, by decide⟩)))))
theorem b_145_60 {x1 : Int} {x2 : Int} {xs0 : Int} {u3 : Value} : Z e (d + 1) 145 60 [.ref 0, .int (iI x1), .int (iI x2), u3] [.int (iI xs0)] m = (Z e d 105 0 [.ref 6, .int (iI xs0), .int (iI 0), .int (iI x1)] [] m).bind (ZK e (d + 1) 145 74 [.ref 0, .int (iI x1), .int (iI x2), .int (iI xs0)] [] m) := (s_is_3 cat_i p_145_60).trans <| (s_al_0 p_145_61).trans <| (s_getr p_145_62 hs_0 (by decide) rfl).trans <| (s_getr p_145_65 hs_1 (by decide) rfl).trans <| (s_il_3 p_145_68).trans <| (s_const p_145_69).trans <| (s_il_1 p_145_70).trans <| (s_cv3 (Lc := [.ref 6, .int (iI xs0), .int (iI 0), .int (iI x1)]) p_145_71 (by decide) (by decide) (zM_of zq_105) ⟨Nat.le_of_ble_eq_true rfl, Nat.le_of_ble_eq_true rfl⟩ rfl (m_rc hs_6 ⟨rfl, by decide⟩))
theorem b_145_74 {x2 : Int} {x3 : Int} {u1 : Value} : Z e (d + 1) 145 74 [.ref 0, u1, .int (iI x2), .int (iI x3)] [] m = (Z e d 105 0 [.ref 6, .int (iI x3), .int (iI 1), .int (iI x2)] [] m).bind (ZK e (d + 1) 145 87 [.ref 0, u1, .int (iI x2), .int (iI x3)] [] m) := (s_al_0 p_145_74).trans <| (s_getr p_145_75 hs_0 (by decide) rfl).trans <| (s_getr p_145_78 hs_1 (by decide) rfl).trans <| (s_il_3 p_145_81).trans <| (s_const p_145_82).trans <| (s_il_2 p_145_83).trans <| (s_cv3 (Lc := [.ref 6, .int (iI x3), .int (iI 1), .int (iI x2)]) p_145_84 (by decide) (by decide) (zM_of zq_105) ⟨Nat.le_of_ble_eq_true rfl, Nat.le_of_ble_eq_true rfl⟩ rfl (m_rc hs_6 ⟨rfl, by decide⟩))
theorem b_145_87 {x3 : Int} {u1 u2 : Value} : Z e (d + 1) 145 87 [.ref 0, u1, u2, .int (iI x3)] [] m = ri x3 (um m 202 2 1) := (s_al_0 p_145_87).trans <| (s_getr p_145_88 hs_0 (by decide) rfl).trans <| (s_cv0 (Lc := [.ref 202]) p_145_91 (by decide) (by decide) (zM_of zq_18) ⟨Nat.le_of_ble_eq_true rfl, Nat.le_of_ble_eq_true rfl⟩ rfl (m_rc hs_202 ⟨rfl, by decide⟩)).trans <| (bd b_18_0).trans <| rn_k.trans <| (s_il_3 p_145_94).trans <| (s_reti p_145_95 (zM_of zq_145))
-- P.noHour
theorem p_195_0 : zP1 195 0 = some (.iload_n 0, 0, 0, 0) := zp_l zq_195 rfl
theorem p_195_1 : zP1 195 1 = some (.ifCond .lt 10, 0, 0, 0) := zp_l zq_195 rfl
theorem p_195_4 : zP1 195 4 = some (.iload_n 0, 0, 0, 0) := zp_l zq_195 rfl
theorem p_195_5 : zP1 195 5 = some (.sipush 9999, 0, 0, 0) := zp_l zq_195 rfl
theorem p_195_8 : zP1 195 8 = some (.if_icmp .le 7, 0, 0, 0) := zp_l zq_195 rfl
theorem p_195_11 : zP1 195 11 = some (.iconst 1, 0, 0, 0) := zp_l zq_195 rfl
theorem p_195_12 : zP1 195 12 = some (.goto 4, 0, 0, 0) := zp_l zq_195 rfl
theorem p_195_15 : zP1 195 15 = some (.iconst 0, 0, 0, 0) := zp_l zq_195 rfl
theorem p_195_16 : zP1 195 16 = some (.ireturn, 0, 0, 0) := zp_l zq_195 rfl
theorem b_195_0 {x0 : Int} : Z e d 195 0 [.int (iI x0)] [] m = ri (if ((wr x0) < 0) ∨ (9999 < (wr x0)) then 1 else 0) m := (s_il_0 p_195_0).trans <| Eq.trans (Eq.trans (Eq.trans (s_z_lt_t p_195_1 rfl rfl) <| Eq.trans (ite_cg rfl ((s_il_0 p_195_4).trans <| (s_sip p_195_5 rfl).trans <| (s_c_le_f p_195_8 rfl rfl wl_9999))) co_or) <| Eq.trans (ite_cg ((s_const p_195_11).trans <| (s_goto p_195_12 rfl).trans <| rfl) ((s_const p_195_15).trans <| rfl)) (phi1 (fun z0 => Z e d 195 16 [.int (iI x0)] [.int (iI z0)] m))) <| (s_retb p_195_16 (zM_of zq_195))
-- P.within
theorem p_146_0 : zP1 146 0 = some (.iload_n 1, 0, 0, 0) := zp_l zq_146 rfl
theorem p_146_1 : zP1 146 1 = some (.invokestatic 86, 194, 1, 0) := zp_r zq_146 rfl
theorem p_146_4 : zP1 146 4 = some (.ifCond .ne 10, 0, 0, 0) := zp_l zq_146 rfl
theorem p_146_7 : zP1 146 7 = some (.iload_n 2, 0, 0, 0) := zp_l zq_146 rfl
theorem p_146_8 : zP1 146 8 = some (.invokestatic 144, 195, 1, 0) := zp_r zq_146 rfl
theorem p_146_11 : zP1 146 11 = some (.ifCond .eq 5, 0, 0, 0) := zp_l zq_146 rfl
theorem p_146_14 : zP1 146 14 = some (.iconst (-1), 0, 0, 0) := zp_l zq_146 rfl
theorem p_146_15 : zP1 146 15 = some (.ireturn, 0, 0, 0) := zp_l zq_146 rfl
theorem p_146_16 : zP1 146 16 = some (.aload_n 0, 0, 0, 0) := zp_l zq_146 rfl
theorem p_146_17 : zP1 146 17 = some (.getfield 40, 10, 4, 0) := zp_r zq_146 rfl
theorem p_146_20 : zP1 146 20 = some (.iload_n 2, 0, 0, 0) := zp_l zq_146 rfl
theorem p_146_21 : zP1 146 21 = some (.invokevirtual 147, 19, 1, 1) := zp_r zq_146 rfl
theorem p_146_24 : zP1 146 24 = some (.aload_n 0, 0, 0, 0) := zp_l zq_146 rfl
theorem p_146_25 : zP1 146 25 = some (.getfield 40, 10, 4, 0) := zp_r zq_146 rfl
theorem p_146_28 : zP1 146 28 = some (.iload_n 1, 0, 0, 0) := zp_l zq_146 rfl
theorem p_146_29 : zP1 146 29 = some (.invokevirtual 150, 22, 1, 1) := zp_r zq_146 rfl
theorem p_146_32 : zP1 146 32 = some (.ireturn, 0, 0, 0) := zp_l zq_146 rfl
theorem b_146_0 {x1 : Int} {x2 : Int} : Z e (d + 1) 146 0 [.ref 0, .int (iI x1), .int (iI x2)] [] m = (if (((wr x1) < 0) ∨ (100 ≤ (wr x1))) ∨ (((wr x2) < 0) ∨ (9999 < (wr x2))) then ri (-1) m else (Z e d 19 0 [.ref 202, .int (iI x2)] [] m).bind (ZK e (d + 1) 146 24 [.ref 0, .int (iI x1), .int (iI x2)] [] m)) := (s_il_1 p_146_0).trans <| (s_cs1 (Lc := [.int (iI x1)]) p_146_1 (by decide) (zM_of zq_194) ⟨Nat.le_of_ble_eq_true rfl, Nat.le_of_ble_eq_true rfl⟩ rfl).trans <| (bd b_194_0).trans <| ri_k.trans <| Eq.trans (Eq.trans (s_bne_t p_146_4 rfl) <| Eq.trans (ite_cg rfl ((s_il_2 p_146_7).trans <| (s_cs1 (Lc := [.int (iI x2)]) p_146_8 (by decide) (zM_of zq_195) ⟨Nat.le_of_ble_eq_true rfl, Nat.le_of_ble_eq_true rfl⟩ rfl).trans <| (bd b_195_0).trans <| ri_k.trans <| (s_beq_f p_146_11 rfl))) co_or) <| ite_cg ((s_const p_146_14).trans <| (s_reti p_146_15 (zM_of zq_146))) ((s_al_0 p_146_16).trans <| (s_getr p_146_17 hs_0 (by decide) rfl).trans <| (s_il_2 p_146_20).trans <| (s_cv1 (Lc := [.ref 202, .int (iI x2)]) p_146_21 (by decide) (by decide) (zM_of zq_19) ⟨Nat.le_of_ble_eq_true rfl, Nat.le_of_ble_eq_true rfl⟩ rfl (m_rc hs_202 ⟨rfl, by decide⟩)))
theorem b_146_24 {x1 : Int} {u2 : Value} : Z e (d + 1) 146 24 [.ref 0, .int (iI x1), u2] [] m = (Z e d 22 0 [.ref 202, .int (iI x1), .retAddr 0, .retAddr 0, .retAddr 0, .retAddr 0] [] m).bind (ZK e (d + 1) 146 32 [.ref 0, .int (iI x1), u2] [] m) := (s_al_0 p_146_24).trans <| (s_getr p_146_25 hs_0 (by decide) rfl).trans <| (s_il_1 p_146_28).trans <| (s_cv1 (Lc := [.ref 202, .int (iI x1), .retAddr 0, .retAddr 0, .retAddr 0, .retAddr 0]) p_146_29 (by decide) (by decide) (zM_of zq_22) ⟨Nat.le_of_ble_eq_true rfl, Nat.le_of_ble_eq_true rfl⟩ rfl (m_rc hs_202 ⟨rfl, by decide⟩))
theorem b_146_32 {xs0 : Int} {u0 u1 u2 : Value} : Z e (d + 1) 146 32 [u0, u1, u2] [.int (iI xs0)] m = ri xs0 m := (s_reti p_146_32 (zM_of zq_146))
-- P.degree
theorem p_147_0 : zP1 147 0 = some (.iload_n 1, 0, 0, 0) := zp_l zq_147 rfl
theorem p_147_1 : zP1 147 1 = some (.invokestatic 86, 194, 1, 0) := zp_r zq_147 rfl
theorem p_147_4 : zP1 147 4 = some (.ifCond .ne 10, 0, 0, 0) := zp_l zq_147 rfl
theorem p_147_7 : zP1 147 7 = some (.iload_n 2, 0, 0, 0) := zp_l zq_147 rfl
theorem p_147_8 : zP1 147 8 = some (.invokestatic 144, 195, 1, 0) := zp_r zq_147 rfl
theorem p_147_11 : zP1 147 11 = some (.ifCond .eq 5, 0, 0, 0) := zp_l zq_147 rfl
theorem p_147_14 : zP1 147 14 = some (.iconst (-1), 0, 0, 0) := zp_l zq_147 rfl
theorem p_147_15 : zP1 147 15 = some (.ireturn, 0, 0, 0) := zp_l zq_147 rfl
theorem p_147_16 : zP1 147 16 = some (.aload_n 0, 0, 0, 0) := zp_l zq_147 rfl
theorem p_147_17 : zP1 147 17 = some (.getfield 40, 10, 4, 0) := zp_r zq_147 rfl
theorem p_147_20 : zP1 147 20 = some (.iload_n 2, 0, 0, 0) := zp_l zq_147 rfl
theorem p_147_21 : zP1 147 21 = some (.invokevirtual 147, 19, 1, 1) := zp_r zq_147 rfl
theorem p_147_24 : zP1 147 24 = some (.aload_n 0, 0, 0, 0) := zp_l zq_147 rfl
theorem p_147_25 : zP1 147 25 = some (.getfield 40, 10, 4, 0) := zp_r zq_147 rfl
theorem p_147_28 : zP1 147 28 = some (.iload_n 1, 0, 0, 0) := zp_l zq_147 rfl
theorem p_147_29 : zP1 147 29 = some (.invokevirtual 153, 23, 1, 1) := zp_r zq_147 rfl
theorem p_147_32 : zP1 147 32 = some (.ireturn, 0, 0, 0) := zp_l zq_147 rfl
theorem b_147_0 {x1 : Int} {x2 : Int} : Z e (d + 1) 147 0 [.ref 0, .int (iI x1), .int (iI x2)] [] m = (if (((wr x1) < 0) ∨ (100 ≤ (wr x1))) ∨ (((wr x2) < 0) ∨ (9999 < (wr x2))) then ri (-1) m else (Z e d 19 0 [.ref 202, .int (iI x2)] [] m).bind (ZK e (d + 1) 147 24 [.ref 0, .int (iI x1), .int (iI x2)] [] m)) := (s_il_1 p_147_0).trans <| (s_cs1 (Lc := [.int (iI x1)]) p_147_1 (by decide) (zM_of zq_194) ⟨Nat.le_of_ble_eq_true rfl, Nat.le_of_ble_eq_true rfl⟩ rfl).trans <| (bd b_194_0).trans <| ri_k.trans <| Eq.trans (Eq.trans (s_bne_t p_147_4 rfl) <| Eq.trans (ite_cg rfl ((s_il_2 p_147_7).trans <| (s_cs1 (Lc := [.int (iI x2)]) p_147_8 (by decide) (zM_of zq_195) ⟨Nat.le_of_ble_eq_true rfl, Nat.le_of_ble_eq_true rfl⟩ rfl).trans <| (bd b_195_0).trans <| ri_k.trans <| (s_beq_f p_147_11 rfl))) co_or) <| ite_cg ((s_const p_147_14).trans <| (s_reti p_147_15 (zM_of zq_147))) ((s_al_0 p_147_16).trans <| (s_getr p_147_17 hs_0 (by decide) rfl).trans <| (s_il_2 p_147_20).trans <| (s_cv1 (Lc := [.ref 202, .int (iI x2)]) p_147_21 (by decide) (by decide) (zM_of zq_19) ⟨Nat.le_of_ble_eq_true rfl, Nat.le_of_ble_eq_true rfl⟩ rfl (m_rc hs_202 ⟨rfl, by decide⟩)))
theorem b_147_24 {x1 : Int} {u2 : Value} : Z e (d + 1) 147 24 [.ref 0, .int (iI x1), u2] [] m = (Z e d 23 0 [.ref 202, .int (iI x1), .retAddr 0, .retAddr 0, .retAddr 0] [] m).bind (ZK e (d + 1) 147 32 [.ref 0, .int (iI x1), u2] [] m) := (s_al_0 p_147_24).trans <| (s_getr p_147_25 hs_0 (by decide) rfl).trans <| (s_il_1 p_147_28).trans <| (s_cv1 (Lc := [.ref 202, .int (iI x1), .retAddr 0, .retAddr 0, .retAddr 0]) p_147_29 (by decide) (by decide) (zM_of zq_23) ⟨Nat.le_of_ble_eq_true rfl, Nat.le_of_ble_eq_true rfl⟩ rfl (m_rc hs_202 ⟨rfl, by decide⟩))
theorem b_147_32 {xs0 : Int} {u0 u1 u2 : Value} : Z e (d + 1) 147 32 [u0, u1, u2] [.int (iI xs0)] m = ri xs0 m := (s_reti p_147_32 (zM_of zq_147))
-- P.feed
theorem p_148_0 : zP1 148 0 = some (.iload_n 3, 0, 0, 0) := zp_l zq_148 rfl
theorem p_148_1 : zP1 148 1 = some (.iconst 1, 0, 0, 0) := zp_l zq_148 rfl
theorem p_148_2 : zP1 148 2 = some (.if_icmp .lt 9, 0, 0, 0) := zp_l zq_148 rfl
theorem p_148_5 : zP1 148 5 = some (.iload_n 3, 0, 0, 0) := zp_l zq_148 rfl
theorem p_148_6 : zP1 148 6 = some (.bipush 8, 0, 0, 0) := zp_l zq_148 rfl
theorem p_148_8 : zP1 148 8 = some (.if_icmp .le 5, 0, 0, 0) := zp_l zq_148 rfl
theorem p_148_11 : zP1 148 11 = some (.iconst (-1), 0, 0, 0) := zp_l zq_148 rfl
theorem p_148_12 : zP1 148 12 = some (.ireturn, 0, 0, 0) := zp_l zq_148 rfl
theorem p_148_13 : zP1 148 13 = some (.aload_n 0, 0, 0, 0) := zp_l zq_148 rfl
theorem p_148_14 : zP1 148 14 = some (.getfield 22, 10, 2, 0) := zp_r zq_148 rfl
theorem p_148_17 : zP1 148 17 = some (.getfield 156, 4, 1, 0) := zp_r zq_148 rfl
theorem p_148_20 : zP1 148 20 = some (.iload_n 3, 0, 0, 0) := zp_l zq_148 rfl
theorem p_148_21 : zP1 148 21 = some (.iadd, 0, 0, 0) := zp_l zq_148 rfl
theorem p_148_22 : zP1 148 22 = some (.sipush 300, 0, 0, 0) := zp_l zq_148 rfl
theorem p_148_25 : zP1 148 25 = some (.if_icmp .le 6, 0, 0, 0) := zp_l zq_148 rfl
theorem p_148_28 : zP1 148 28 = some (.bipush (-2), 0, 0, 0) := zp_l zq_148 rfl
theorem p_148_30 : zP1 148 30 = some (.ireturn, 0, 0, 0) := zp_l zq_148 rfl
theorem p_148_31 : zP1 148 31 = some (.aload_n 0, 0, 0, 0) := zp_l zq_148 rfl
theorem p_148_32 : zP1 148 32 = some (.getfield 22, 10, 2, 0) := zp_r zq_148 rfl
theorem p_148_35 : zP1 148 35 = some (.lload_n 1, 0, 0, 0) := zp_l zq_148 rfl
theorem p_148_36 : zP1 148 36 = some (.iload_n 3, 0, 0, 0) := zp_l zq_148 rfl
theorem p_148_37 : zP1 148 37 = some (.invokevirtual 159, 63, 2, 4) := zp_r zq_148 rfl
theorem p_148_40 : zP1 148 40 = some (.aload_n 0, 0, 0, 0) := zp_l zq_148 rfl
theorem p_148_41 : zP1 148 41 = some (.getfield 22, 10, 2, 0) := zp_r zq_148 rfl
theorem p_148_44 : zP1 148 44 = some (.getfield 156, 4, 1, 0) := zp_r zq_148 rfl
theorem p_148_47 : zP1 148 47 = some (.ireturn, 0, 0, 0) := zp_l zq_148 rfl
theorem b_148_0 {w1 : Int64} {x3 : Int} : Z e (d + 1) 148 0 [.ref 0, .long w1, .retAddr 0, .int (iI x3)] [] m = (if ((wr x3) < 1) ∨ (8 < (wr x3)) then ri (-1) m else (if 300 < (wr ((m 179 1) + x3)) then ri (-2) m else (Z e d 63 0 [.ref 179, .long w1, .retAddr 0, .int (iI x3), .retAddr 0] [] m).bind (ZK e (d + 1) 148 40 [.ref 0, .long w1, .retAddr 0, .int (iI x3)] [] m))) := (s_il_3 p_148_0).trans <| (s_const p_148_1).trans <| Eq.trans (Eq.trans (s_c_lt_t p_148_2 rfl rfl wl_1) <| Eq.trans (ite_cg rfl ((s_il_3 p_148_5).trans <| (s_bip p_148_6 rfl).trans <| (s_c_le_f p_148_8 rfl rfl wl_8))) co_or) <| ite_cg ((s_const p_148_11).trans <| (s_reti p_148_12 (zM_of zq_148))) ((s_al_0 p_148_13).trans <| (s_getr p_148_14 hs_0 (by decide) rfl).trans <| (s_get3 p_148_17 hs_179 (by decide) rfl (by decide)).trans <| (s_il_3 p_148_20).trans <| (s_iadd p_148_21).trans <| (s_sip p_148_22 rfl).trans <| Eq.trans ((s_c_le_f p_148_25 rfl rfl wl_300)) <| ite_cg ((s_bip p_148_28 rfl).trans <| (s_reti p_148_30 (zM_of zq_148))) ((s_al_0 p_148_31).trans <| (s_getr p_148_32 hs_0 (by decide) rfl).trans <| (s_ll_1 p_148_35).trans <| (s_il_3 p_148_36).trans <| (s_cv2 (Lc := [.ref 179, .long w1, .retAddr 0, .int (iI x3), .retAddr 0]) p_148_37 (by decide) (by decide) (zM_of zq_63) ⟨Nat.le_of_ble_eq_true rfl, Nat.le_of_ble_eq_true rfl⟩ rfl (m_rc3 hs_179 ⟨rfl, by decide⟩))))
theorem b_148_40 {u1 u2 u3 : Value} : Z e (d + 1) 148 40 [.ref 0, u1, u2, u3] [] m = ri (m 179 1) m := (s_al_0 p_148_40).trans <| (s_getr p_148_41 hs_0 (by decide) rfl).trans <| (s_get3 p_148_44 hs_179 (by decide) rfl (by decide)).trans <| (s_reti p_148_47 (zM_of zq_148))
-- P.read
theorem p_149_0 : zP1 149 0 = some (.aload_n 0, 0, 0, 0) := zp_l zq_149 rfl
theorem p_149_1 : zP1 149 1 = some (.getfield 22, 10, 2, 0) := zp_r zq_149 rfl
theorem p_149_4 : zP1 149 4 = some (.invokevirtual 163, 66, 0, 4) := zp_r zq_149 rfl
theorem p_149_7 : zP1 149 7 = some (.istore_n 2, 0, 0, 0) := zp_l zq_149 rfl
theorem p_149_8 : zP1 149 8 = some (.aload_n 0, 0, 0, 0) := zp_l zq_149 rfl
theorem p_149_9 : zP1 149 9 = some (.getfield 22, 10, 2, 0) := zp_r zq_149 rfl
theorem p_149_12 : zP1 149 12 = some (.invokevirtual 166, 64, 0, 4) := zp_r zq_149 rfl
theorem p_149_15 : zP1 149 15 = some (.iload_n 1, 0, 0, 0) := zp_l zq_149 rfl
theorem p_149_16 : zP1 149 16 = some (.ifCond .lt 8, 0, 0, 0) := zp_l zq_149 rfl
theorem p_149_19 : zP1 149 19 = some (.iload_n 1, 0, 0, 0) := zp_l zq_149 rfl
theorem p_149_20 : zP1 149 20 = some (.iconst 3, 0, 0, 0) := zp_l zq_149 rfl
theorem p_149_21 : zP1 149 21 = some (.if_icmp .lt 5, 0, 0, 0) := zp_l zq_149 rfl
theorem p_149_24 : zP1 149 24 = some (.iconst (-1), 0, 0, 0) := zp_l zq_149 rfl
theorem p_149_25 : zP1 149 25 = some (.ireturn, 0, 0, 0) := zp_l zq_149 rfl
theorem p_149_26 : zP1 149 26 = some (.iload_n 2, 0, 0, 0) := zp_l zq_149 rfl
theorem p_149_27 : zP1 149 27 = some (.ifCond .ne 14, 0, 0, 0) := zp_l zq_149 rfl
theorem p_149_30 : zP1 149 30 = some (.bipush (-100), 0, 0, 0) := zp_l zq_149 rfl
theorem p_149_32 : zP1 149 32 = some (.aload_n 0, 0, 0, 0) := zp_l zq_149 rfl
theorem p_149_33 : zP1 149 33 = some (.getfield 22, 10, 2, 0) := zp_r zq_149 rfl
theorem p_149_36 : zP1 149 36 = some (.invokevirtual 169, 65, 0, 4) := zp_r zq_149 rfl
theorem p_149_39 : zP1 149 39 = some (.isub, 0, 0, 0) := zp_l zq_149 rfl
theorem p_149_40 : zP1 149 40 = some (.ireturn, 0, 0, 0) := zp_l zq_149 rfl
theorem p_149_41 : zP1 149 41 = some (.aload_n 0, 0, 0, 0) := zp_l zq_149 rfl
theorem p_149_42 : zP1 149 42 = some (.getfield 10, 10, 0, 0) := zp_r zq_149 rfl
theorem p_149_45 : zP1 149 45 = some (.getfield 172, 9, 2, 0) := zp_r zq_149 rfl
theorem p_149_48 : zP1 149 48 = some (.bipush 12, 0, 0, 0) := zp_l zq_149 rfl
theorem p_149_50 : zP1 149 50 = some (.if_icmp .lt 6, 0, 0, 0) := zp_l zq_149 rfl
theorem p_149_53 : zP1 149 53 = some (.bipush (-2), 0, 0, 0) := zp_l zq_149 rfl
theorem p_149_55 : zP1 149 55 = some (.ireturn, 0, 0, 0) := zp_l zq_149 rfl
theorem p_149_56 : zP1 149 56 = some (.aload_n 0, 0, 0, 0) := zp_l zq_149 rfl
theorem p_149_57 : zP1 149 57 = some (.getfield 40, 10, 4, 0) := zp_r zq_149 rfl
theorem p_149_60 : zP1 149 60 = some (.invokevirtual 97, 18, 0, 1) := zp_r zq_149 rfl
theorem p_149_63 : zP1 149 63 = some (.aload_n 0, 0, 0, 0) := zp_l zq_149 rfl
theorem p_149_64 : zP1 149 64 = some (.getfield 10, 10, 0, 0) := zp_r zq_149 rfl
theorem p_149_67 : zP1 149 67 = some (.iload_n 1, 0, 0, 0) := zp_l zq_149 rfl
theorem p_149_68 : zP1 149 68 = some (.aload_n 0, 0, 0, 0) := zp_l zq_149 rfl
theorem p_149_69 : zP1 149 69 = some (.getfield 22, 10, 2, 0) := zp_r zq_149 rfl
theorem p_149_72 : zP1 149 72 = some (.getfield 175, 4, 9, 0) := zp_r zq_149 rfl
theorem p_149_75 : zP1 149 75 = some (.invokevirtual 179, 136, 2, 9) := zp_r zq_149 rfl
theorem p_149_78 : zP1 149 78 = some (.ireturn, 0, 0, 0) := zp_l zq_149 rfl
theorem b_149_0 {x1 : Int} : Z e (d + 1) 149 0 [.ref 0, .int (iI x1), .retAddr 0] [] m = (Z e d 66 0 [.ref 179, .retAddr 0] [] m).bind (ZK e (d + 1) 149 7 [.ref 0, .int (iI x1), .retAddr 0] [] m) := (s_al_0 p_149_0).trans <| (s_getr p_149_1 hs_0 (by decide) rfl).trans <| (s_cv0 (Lc := [.ref 179, .retAddr 0]) p_149_4 (by decide) (by decide) (zM_of zq_66) ⟨Nat.le_of_ble_eq_true rfl, Nat.le_of_ble_eq_true rfl⟩ rfl (m_rc3 hs_179 ⟨rfl, by decide⟩))
theorem b_149_7 {x1 : Int} {xs0 : Int} {u2 : Value} : Z e (d + 1) 149 7 [.ref 0, .int (iI x1), u2] [.int (iI xs0)] m = (if ((wr x1) < 0) ∨ (3 ≤ (wr x1)) then ri (-1) (um m 179 1 0) else (if (wr xs0) = 0 then ck (0 ≤ (wr ((um m 179 1 0) 179 7)) ∧ (wr ((um m 179 1 0) 179 7)) < 301) (ri ((-100) - ((um m 179 1 0) 184 (wr ((um m 179 1 0) 179 7)))) (um m 179 1 0)) else (if 12 ≤ (wr ((um m 179 1 0) 1 2)) then ri (-2) (um m 179 1 0) else (Z e d 136 0 [.ref 1, .int (iI x1), .ref 185, .retAddr 0, .retAddr 0] [] (um (um m 179 1 0) 202 2 1)).bind (ZK e (d + 1) 149 78 [.ref 0, .int (iI x1), .int (iI xs0)] [] (um (um m 179 1 0) 202 2 1))))) := (s_is_2 cat_i p_149_7).trans <| (s_al_0 p_149_8).trans <| (s_getr p_149_9 hs_0 (by decide) rfl).trans <| (s_cv0 (Lc := [.ref 179]) p_149_12 (by decide) (by decide) (zM_of zq_64) ⟨Nat.le_of_ble_eq_true rfl, Nat.le_of_ble_eq_true rfl⟩ rfl (m_rc3 hs_179 ⟨rfl, by decide⟩)).trans <| (bd b_64_0).trans <| rn_k.trans <| (s_il_1 p_149_15).trans <| Eq.trans (Eq.trans (s_z_lt_t p_149_16 rfl rfl) <| Eq.trans (ite_cg rfl ((s_il_1 p_149_19).trans <| (s_const p_149_20).trans <| (s_c_lt_f p_149_21 rfl rfl wl_3))) co_or) <| ite_cg ((s_const p_149_24).trans <| (s_reti p_149_25 (zM_of zq_149))) ((s_il_2 p_149_26).trans <| Eq.trans ((s_z_ne_f p_149_27 rfl rfl)) <| ite_cg ((s_bip p_149_30 rfl).trans <| (s_al_0 p_149_32).trans <| (s_getr p_149_33 hs_0 (by decide) rfl).trans <| (s_cv0 (Lc := [.ref 179]) p_149_36 (by decide) (by decide) (zM_of zq_65) ⟨Nat.le_of_ble_eq_true rfl, Nat.le_of_ble_eq_true rfl⟩ rfl (m_rc3 hs_179 ⟨rfl, by decide⟩)).trans <| (bd b_65_0).trans <| ck_bind.trans <| ck_cg fun _ => ri_k.trans <| (s_isub p_149_39).trans <| (s_reti p_149_40 (zM_of zq_149))) ((s_al_0 p_149_41).trans <| (s_getr p_149_42 hs_0 (by decide) rfl).trans <| (s_get p_149_45 hs_1 (by decide) rfl).trans <| (s_bip p_149_48 rfl).trans <| Eq.trans ((s_c_lt_f p_149_50 rfl rfl wl_12)) <| ite_cg ((s_bip p_149_53 rfl).trans <| (s_reti p_149_55 (zM_of zq_149))) ((s_al_0 p_149_56).trans <| (s_getr p_149_57 hs_0 (by decide) rfl).trans <| (s_cv0 (Lc := [.ref 202]) p_149_60 (by decide) (by decide) (zM_of zq_18) ⟨Nat.le_of_ble_eq_true rfl, Nat.le_of_ble_eq_true rfl⟩ rfl (m_rc hs_202 ⟨rfl, by decide⟩)).trans <| (bd b_18_0).trans <| rn_k.trans <| (s_al_0 p_149_63).trans <| (s_getr p_149_64 hs_0 (by decide) rfl).trans <| (s_il_1 p_149_67).trans <| (s_al_0 p_149_68).trans <| (s_getr p_149_69 hs_0 (by decide) rfl).trans <| (s_getr3 p_149_72 hs_179 (by decide) rfl (by decide)).trans <| (s_cv2 (Lc := [.ref 1, .int (iI x1), .ref 185, .retAddr 0, .retAddr 0]) p_149_75 (by decide) (by decide) (zM_of zq_136) ⟨Nat.le_of_ble_eq_true rfl, Nat.le_of_ble_eq_true rfl⟩ rfl (m_rc hs_1 ⟨rfl, by decide⟩)))))
theorem b_149_78 {xs0 : Int} {u0 u1 u2 : Value} : Z e (d + 1) 149 78 [u0, u1, u2] [.int (iI xs0)] m = ri xs0 m := (s_reti p_149_78 (zM_of zq_149))
-- P.strike
theorem p_150_0 : zP1 150 0 = some (.iload_n 1, 0, 0, 0) := zp_l zq_150 rfl
theorem p_150_1 : zP1 150 1 = some (.ifCond .lt 8, 0, 0, 0) := zp_l zq_150 rfl
theorem p_150_4 : zP1 150 4 = some (.iload_n 1, 0, 0, 0) := zp_l zq_150 rfl
theorem p_150_5 : zP1 150 5 = some (.iconst 3, 0, 0, 0) := zp_l zq_150 rfl
theorem p_150_6 : zP1 150 6 = some (.if_icmp .lt 5, 0, 0, 0) := zp_l zq_150 rfl
theorem p_150_9 : zP1 150 9 = some (.iconst (-1), 0, 0, 0) := zp_l zq_150 rfl
theorem p_150_10 : zP1 150 10 = some (.ireturn, 0, 0, 0) := zp_l zq_150 rfl
theorem p_150_11 : zP1 150 11 = some (.aload_n 0, 0, 0, 0) := zp_l zq_150 rfl
theorem p_150_12 : zP1 150 12 = some (.getfield 10, 10, 0, 0) := zp_r zq_150 rfl
theorem p_150_15 : zP1 150 15 = some (.iload_n 1, 0, 0, 0) := zp_l zq_150 rfl
theorem p_150_16 : zP1 150 16 = some (.invokevirtual 183, 135, 1, 9) := zp_r zq_150 rfl
theorem p_150_19 : zP1 150 19 = some (.istore_n 2, 0, 0, 0) := zp_l zq_150 rfl
theorem p_150_20 : zP1 150 20 = some (.iload_n 2, 0, 0, 0) := zp_l zq_150 rfl
theorem p_150_21 : zP1 150 21 = some (.bipush (-3), 0, 0, 0) := zp_l zq_150 rfl
theorem p_150_23 : zP1 150 23 = some (.if_icmp .ne 6, 0, 0, 0) := zp_l zq_150 rfl
theorem p_150_26 : zP1 150 26 = some (.bipush (-3), 0, 0, 0) := zp_l zq_150 rfl
theorem p_150_28 : zP1 150 28 = some (.ireturn, 0, 0, 0) := zp_l zq_150 rfl
theorem p_150_29 : zP1 150 29 = some (.aload_n 0, 0, 0, 0) := zp_l zq_150 rfl
theorem p_150_30 : zP1 150 30 = some (.getfield 10, 10, 0, 0) := zp_r zq_150 rfl
theorem p_150_33 : zP1 150 33 = some (.getfield 186, 9, 4, 0) := zp_r zq_150 rfl
theorem p_150_36 : zP1 150 36 = some (.iload_n 2, 0, 0, 0) := zp_l zq_150 rfl
theorem p_150_37 : zP1 150 37 = some (.aaload, 0, 0, 0) := zp_l zq_150 rfl
theorem p_150_38 : zP1 150 38 = some (.aload_n 0, 0, 0, 0) := zp_l zq_150 rfl
theorem p_150_39 : zP1 150 39 = some (.getfield 10, 10, 0, 0) := zp_r zq_150 rfl
theorem p_150_42 : zP1 150 42 = some (.getfield 78, 9, 0, 0) := zp_r zq_150 rfl
theorem p_150_45 : zP1 150 45 = some (.putfield 190, 8, 2, 0) := zp_r zq_150 rfl
theorem p_150_48 : zP1 150 48 = some (.aload_n 0, 0, 0, 0) := zp_l zq_150 rfl
theorem p_150_49 : zP1 150 49 = some (.getfield 40, 10, 4, 0) := zp_r zq_150 rfl
theorem p_150_52 : zP1 150 52 = some (.invokevirtual 97, 18, 0, 1) := zp_r zq_150 rfl
theorem p_150_55 : zP1 150 55 = some (.iload_n 2, 0, 0, 0) := zp_l zq_150 rfl
theorem p_150_56 : zP1 150 56 = some (.ireturn, 0, 0, 0) := zp_l zq_150 rfl
theorem b_150_0 {x1 : Int} : Z e (d + 1) 150 0 [.ref 0, .int (iI x1), .retAddr 0] [] m = (if ((wr x1) < 0) ∨ (3 ≤ (wr x1)) then ri (-1) m else (Z e d 135 0 [.ref 1, .int (iI x1), .retAddr 0] [] m).bind (ZK e (d + 1) 150 19 [.ref 0, .int (iI x1), .retAddr 0] [] m)) := (s_il_1 p_150_0).trans <| Eq.trans (Eq.trans (s_z_lt_t p_150_1 rfl rfl) <| Eq.trans (ite_cg rfl ((s_il_1 p_150_4).trans <| (s_const p_150_5).trans <| (s_c_lt_f p_150_6 rfl rfl wl_3))) co_or) <| ite_cg ((s_const p_150_9).trans <| (s_reti p_150_10 (zM_of zq_150))) ((s_al_0 p_150_11).trans <| (s_getr p_150_12 hs_0 (by decide) rfl).trans <| (s_il_1 p_150_15).trans <| (s_cv1 (Lc := [.ref 1, .int (iI x1), .retAddr 0]) p_150_16 (by decide) (by decide) (zM_of zq_135) ⟨Nat.le_of_ble_eq_true rfl, Nat.le_of_ble_eq_true rfl⟩ rfl (m_rc hs_1 ⟨rfl, by decide⟩)))
theorem b_150_19 {xs0 : Int} {u1 u2 : Value} (hu1 : u1.category = 1) : Z e (d + 1) 150 19 [.ref 0, u1, u2] [.int (iI xs0)] m = (if (wr xs0) = (-3) then ri (-3) m else ck (0 ≤ (wr xs0) ∧ (wr xs0) < 12) (ri xs0 (um (um m (18 + 6 * (wr xs0).toNat) 2 (m 1 0)) 202 2 1))) := (s_is_2 hu1 p_150_19).trans <| (s_il_2 p_150_20).trans <| (s_bip p_150_21 rfl).trans <| Eq.trans ((s_c_ne_f p_150_23 rfl rfl wl_m3)) <| ite_cg ((s_bip p_150_26 rfl).trans <| (s_reti p_150_28 (zM_of zq_150))) ((s_al_0 p_150_29).trans <| (s_getr p_150_30 hs_0 (by decide) rfl).trans <| (s_getr p_150_33 hs_1 (by decide) rfl).trans <| (s_il_2 p_150_36).trans <| (s_aald 12 p_150_37 hs_3 rfl ⟨by decide, by decide⟩ ar_3).trans <| ck_cg fun k1 => (s_al_0 p_150_38).trans <| (s_getr p_150_39 hs_0 (by decide) rfl).trans <| (s_get p_150_42 hs_1 (by decide) rfl).trans <| (s_put p_150_45 (zVer_0 k1).1 (by decide) rfl).trans <| (s_al_0 p_150_48).trans <| (s_getr p_150_49 hs_0 (by decide) rfl).trans <| (s_cv0 (Lc := [.ref 202]) p_150_52 (by decide) (by decide) (zM_of zq_18) ⟨Nat.le_of_ble_eq_true rfl, Nat.le_of_ble_eq_true rfl⟩ rfl (m_rc hs_202 ⟨rfl, by decide⟩)).trans <| (bd b_18_0).trans <| rn_k.trans <| (s_il_2 p_150_55).trans <| (s_reti p_150_56 (zM_of zq_150)))
-- P.version
theorem p_151_0 : zP1 151 0 = some (.iload_n 1, 0, 0, 0) := zp_l zq_151 rfl
theorem p_151_1 : zP1 151 1 = some (.ifCond .lt 14, 0, 0, 0) := zp_l zq_151 rfl
theorem p_151_4 : zP1 151 4 = some (.iload_n 1, 0, 0, 0) := zp_l zq_151 rfl
theorem p_151_5 : zP1 151 5 = some (.aload_n 0, 0, 0, 0) := zp_l zq_151 rfl
theorem p_151_6 : zP1 151 6 = some (.getfield 10, 10, 0, 0) := zp_r zq_151 rfl
theorem p_151_9 : zP1 151 9 = some (.getfield 172, 9, 2, 0) := zp_r zq_151 rfl
theorem p_151_12 : zP1 151 12 = some (.if_icmp .lt 5, 0, 0, 0) := zp_l zq_151 rfl
theorem p_151_15 : zP1 151 15 = some (.iconst (-1), 0, 0, 0) := zp_l zq_151 rfl
theorem p_151_16 : zP1 151 16 = some (.ireturn, 0, 0, 0) := zp_l zq_151 rfl
theorem p_151_17 : zP1 151 17 = some (.aload_n 0, 0, 0, 0) := zp_l zq_151 rfl
theorem p_151_18 : zP1 151 18 = some (.getfield 10, 10, 0, 0) := zp_r zq_151 rfl
theorem p_151_21 : zP1 151 21 = some (.getfield 186, 9, 4, 0) := zp_r zq_151 rfl
theorem p_151_24 : zP1 151 24 = some (.iload_n 1, 0, 0, 0) := zp_l zq_151 rfl
theorem p_151_25 : zP1 151 25 = some (.aaload, 0, 0, 0) := zp_l zq_151 rfl
theorem p_151_26 : zP1 151 26 = some (.astore_n 3, 0, 0, 0) := zp_l zq_151 rfl
theorem p_151_27 : zP1 151 27 = some (.iload_n 2, 0, 0, 0) := zp_l zq_151 rfl
theorem p_151_28 : zP1 151 28 = some (.ifCond .ne 8, 0, 0, 0) := zp_l zq_151 rfl
theorem p_151_31 : zP1 151 31 = some (.aload_n 3, 0, 0, 0) := zp_l zq_151 rfl
theorem p_151_32 : zP1 151 32 = some (.getfield 195, 8, 0, 0) := zp_r zq_151 rfl
theorem p_151_35 : zP1 151 35 = some (.ireturn, 0, 0, 0) := zp_l zq_151 rfl
theorem p_151_36 : zP1 151 36 = some (.iload_n 2, 0, 0, 0) := zp_l zq_151 rfl
theorem p_151_37 : zP1 151 37 = some (.iconst 1, 0, 0, 0) := zp_l zq_151 rfl
theorem p_151_38 : zP1 151 38 = some (.if_icmp .ne 8, 0, 0, 0) := zp_l zq_151 rfl
theorem p_151_41 : zP1 151 41 = some (.aload_n 3, 0, 0, 0) := zp_l zq_151 rfl
theorem p_151_42 : zP1 151 42 = some (.getfield 198, 8, 3, 0) := zp_r zq_151 rfl
theorem p_151_45 : zP1 151 45 = some (.ireturn, 0, 0, 0) := zp_l zq_151 rfl
theorem p_151_46 : zP1 151 46 = some (.iload_n 2, 0, 0, 0) := zp_l zq_151 rfl
theorem p_151_47 : zP1 151 47 = some (.iconst 2, 0, 0, 0) := zp_l zq_151 rfl
theorem p_151_48 : zP1 151 48 = some (.if_icmp .ne 8, 0, 0, 0) := zp_l zq_151 rfl
theorem p_151_51 : zP1 151 51 = some (.aload_n 3, 0, 0, 0) := zp_l zq_151 rfl
theorem p_151_52 : zP1 151 52 = some (.getfield 201, 8, 1, 0) := zp_r zq_151 rfl
theorem p_151_55 : zP1 151 55 = some (.ireturn, 0, 0, 0) := zp_l zq_151 rfl
theorem p_151_56 : zP1 151 56 = some (.iload_n 2, 0, 0, 0) := zp_l zq_151 rfl
theorem p_151_57 : zP1 151 57 = some (.iconst 3, 0, 0, 0) := zp_l zq_151 rfl
theorem p_151_58 : zP1 151 58 = some (.if_icmp .ne 8, 0, 0, 0) := zp_l zq_151 rfl
theorem p_151_61 : zP1 151 61 = some (.aload_n 3, 0, 0, 0) := zp_l zq_151 rfl
theorem p_151_62 : zP1 151 62 = some (.getfield 190, 8, 2, 0) := zp_r zq_151 rfl
theorem p_151_65 : zP1 151 65 = some (.ireturn, 0, 0, 0) := zp_l zq_151 rfl
theorem p_151_66 : zP1 151 66 = some (.iload_n 2, 0, 0, 0) := zp_l zq_151 rfl
theorem p_151_67 : zP1 151 67 = some (.bipush 10, 0, 0, 0) := zp_l zq_151 rfl
theorem p_151_69 : zP1 151 69 = some (.if_icmp .lt 14, 0, 0, 0) := zp_l zq_151 rfl
theorem p_151_72 : zP1 151 72 = some (.iload_n 2, 0, 0, 0) := zp_l zq_151 rfl
theorem p_151_73 : zP1 151 73 = some (.bipush 10, 0, 0, 0) := zp_l zq_151 rfl
theorem p_151_75 : zP1 151 75 = some (.isub, 0, 0, 0) := zp_l zq_151 rfl
theorem p_151_76 : zP1 151 76 = some (.aload_n 3, 0, 0, 0) := zp_l zq_151 rfl
theorem p_151_77 : zP1 151 77 = some (.getfield 198, 8, 3, 0) := zp_r zq_151 rfl
theorem p_151_80 : zP1 151 80 = some (.if_icmp .lt 5, 0, 0, 0) := zp_l zq_151 rfl
theorem p_151_83 : zP1 151 83 = some (.iconst (-1), 0, 0, 0) := zp_l zq_151 rfl
theorem p_151_84 : zP1 151 84 = some (.ireturn, 0, 0, 0) := zp_l zq_151 rfl
theorem p_151_85 : zP1 151 85 = some (.sipush 1000, 0, 0, 0) := zp_l zq_151 rfl
theorem p_151_88 : zP1 151 88 = some (.aload_n 3, 0, 0, 0) := zp_l zq_151 rfl
theorem p_151_89 : zP1 151 89 = some (.getfield 204, 8, 5, 0) := zp_r zq_151 rfl
theorem p_151_92 : zP1 151 92 = some (.iload_n 2, 0, 0, 0) := zp_l zq_151 rfl
theorem p_151_93 : zP1 151 93 = some (.bipush 10, 0, 0, 0) := zp_l zq_151 rfl
theorem p_151_95 : zP1 151 95 = some (.isub, 0, 0, 0) := zp_l zq_151 rfl
theorem p_151_96 : zP1 151 96 = some (.iaload, 0, 0, 0) := zp_l zq_151 rfl
theorem p_151_97 : zP1 151 97 = some (.imul, 0, 0, 0) := zp_l zq_151 rfl
theorem p_151_98 : zP1 151 98 = some (.aload_n 3, 0, 0, 0) := zp_l zq_151 rfl
theorem p_151_99 : zP1 151 99 = some (.getfield 207, 8, 6, 0) := zp_r zq_151 rfl
theorem p_151_102 : zP1 151 102 = some (.iload_n 2, 0, 0, 0) := zp_l zq_151 rfl
theorem p_151_103 : zP1 151 103 = some (.bipush 10, 0, 0, 0) := zp_l zq_151 rfl
theorem p_151_105 : zP1 151 105 = some (.isub, 0, 0, 0) := zp_l zq_151 rfl
theorem p_151_106 : zP1 151 106 = some (.iaload, 0, 0, 0) := zp_l zq_151 rfl
theorem p_151_107 : zP1 151 107 = some (.iadd, 0, 0, 0) := zp_l zq_151 rfl
theorem p_151_108 : zP1 151 108 = some (.ireturn, 0, 0, 0) := zp_l zq_151 rfl
theorem b_151_0 {x1 : Int} {x2 : Int} : Z e d 151 0 [.ref 0, .int (iI x1), .int (iI x2), .retAddr 0] [] m = (if ((wr x1) < 0) ∨ ((wr (m 1 2)) ≤ (wr x1)) then ri (-1) m else ck (0 ≤ (wr x1) ∧ (wr x1) < 12) ((if (wr x2) = 0 then ri (m (18 + 6 * (wr x1).toNat) 0) m else (if (wr x2) = 1 then ri (m (18 + 6 * (wr x1).toNat) 3) m else (if (wr x2) = 2 then ri (m (18 + 6 * (wr x1).toNat) 1) m else (if (wr x2) = 3 then ri (m (18 + 6 * (wr x1).toNat) 2) m else (if ((wr x2) < 10) ∨ ((wr (m (18 + 6 * (wr x1).toNat) 3)) ≤ (wr (x2 - 10))) then ri (-1) m else ck (0 ≤ (wr (x2 - 10)) ∧ (wr (x2 - 10)) < 10) (ck (0 ≤ (wr (x2 - 10)) ∧ (wr (x2 - 10)) < 10) (ri ((1000 * (m ((18 + 6 * (wr x1).toNat) + 1) (wr (x2 - 10)))) + (m ((18 + 6 * (wr x1).toNat) + 2) (wr (x2 - 10)))) m))))))))) := (s_il_1 p_151_0).trans <| Eq.trans (Eq.trans (s_z_lt_t p_151_1 rfl rfl) <| Eq.trans (ite_cg rfl ((s_il_1 p_151_4).trans <| (s_al_0 p_151_5).trans <| (s_getr p_151_6 hs_0 (by decide) rfl).trans <| (s_get p_151_9 hs_1 (by decide) rfl).trans <| (s_c_lt_f p_151_12 rfl rfl rfl))) co_or) <| ite_cg ((s_const p_151_15).trans <| (s_reti p_151_16 (zM_of zq_151))) ((s_al_0 p_151_17).trans <| (s_getr p_151_18 hs_0 (by decide) rfl).trans <| (s_getr p_151_21 hs_1 (by decide) rfl).trans <| (s_il_1 p_151_24).trans <| (s_aald 12 p_151_25 hs_3 rfl ⟨by decide, by decide⟩ ar_3).trans <| ck_cg fun k1 => (s_as_3 cat_i p_151_26).trans <| (s_il_2 p_151_27).trans <| Eq.trans ((s_z_ne_f p_151_28 rfl rfl)) <| ite_cg ((s_al_3 p_151_31).trans <| (s_get p_151_32 (zVer_0 k1).1 (by decide) rfl).trans <| (s_reti p_151_35 (zM_of zq_151))) ((s_il_2 p_151_36).trans <| (s_const p_151_37).trans <| Eq.trans ((s_c_ne_f p_151_38 rfl rfl wl_1)) <| ite_cg ((s_al_3 p_151_41).trans <| (s_get p_151_42 (zVer_0 k1).1 (by decide) rfl).trans <| (s_reti p_151_45 (zM_of zq_151))) ((s_il_2 p_151_46).trans <| (s_const p_151_47).trans <| Eq.trans ((s_c_ne_f p_151_48 rfl rfl wl_2)) <| ite_cg ((s_al_3 p_151_51).trans <| (s_get p_151_52 (zVer_0 k1).1 (by decide) rfl).trans <| (s_reti p_151_55 (zM_of zq_151))) ((s_il_2 p_151_56).trans <| (s_const p_151_57).trans <| Eq.trans ((s_c_ne_f p_151_58 rfl rfl wl_3)) <| ite_cg ((s_al_3 p_151_61).trans <| (s_get p_151_62 (zVer_0 k1).1 (by decide) rfl).trans <| (s_reti p_151_65 (zM_of zq_151))) ((s_il_2 p_151_66).trans <| (s_bip p_151_67 rfl).trans <| Eq.trans (Eq.trans (s_c_lt_t p_151_69 rfl rfl wl_10) <| Eq.trans (ite_cg rfl ((s_il_2 p_151_72).trans <| (s_bip p_151_73 rfl).trans <| (s_isub p_151_75).trans <| (s_al_3 p_151_76).trans <| (s_get p_151_77 (zVer_0 k1).1 (by decide) rfl).trans <| (s_c_lt_f p_151_80 rfl rfl rfl))) co_or) <| ite_cg ((s_const p_151_83).trans <| (s_reti p_151_84 (zM_of zq_151))) ((s_sip p_151_85 rfl).trans <| (s_al_3 p_151_88).trans <| (s_getr p_151_89 (zVer_0 k1).1 (by decide) rfl).trans <| (s_il_2 p_151_92).trans <| (s_bip p_151_93 rfl).trans <| (s_isub p_151_95).trans <| (s_ald 10 p_151_96 (zVer_0 k1).2.1 rfl (zV_1 (zVer_0 k1))).trans <| ck_cg fun k2 => (s_imul p_151_97).trans <| (s_al_3 p_151_98).trans <| (s_getr p_151_99 (zVer_0 k1).1 (by decide) rfl).trans <| (s_il_2 p_151_102).trans <| (s_bip p_151_103 rfl).trans <| (s_isub p_151_105).trans <| (s_ald 10 p_151_106 (zVer_0 k1).2.2.1 rfl (zV_2 (zVer_0 k1))).trans <| ck_cg fun k3 => (s_iadd p_151_107).trans <| (s_reti p_151_108 (zM_of zq_151))))))))
-- P.rule
theorem p_152_0 : zP1 152 0 = some (.iload_n 1, 0, 0, 0) := zp_l zq_152 rfl
theorem p_152_1 : zP1 152 1 = some (.invokestatic 144, 195, 1, 0) := zp_r zq_152 rfl
theorem p_152_4 : zP1 152 4 = some (.ifCond .ne 12, 0, 0, 0) := zp_l zq_152 rfl
theorem p_152_7 : zP1 152 7 = some (.iload_n 2, 0, 0, 0) := zp_l zq_152 rfl
theorem p_152_8 : zP1 152 8 = some (.ifCond .lt 8, 0, 0, 0) := zp_l zq_152 rfl
theorem p_152_11 : zP1 152 11 = some (.iload_n 2, 0, 0, 0) := zp_l zq_152 rfl
theorem p_152_12 : zP1 152 12 = some (.iconst 2, 0, 0, 0) := zp_l zq_152 rfl
theorem p_152_13 : zP1 152 13 = some (.if_icmp .le 5, 0, 0, 0) := zp_l zq_152 rfl
theorem p_152_16 : zP1 152 16 = some (.iconst (-1), 0, 0, 0) := zp_l zq_152 rfl
theorem p_152_17 : zP1 152 17 = some (.ireturn, 0, 0, 0) := zp_l zq_152 rfl
theorem p_152_18 : zP1 152 18 = some (.aload_n 0, 0, 0, 0) := zp_l zq_152 rfl
theorem p_152_19 : zP1 152 19 = some (.getfield 40, 10, 4, 0) := zp_r zq_152 rfl
theorem p_152_22 : zP1 152 22 = some (.iload_n 1, 0, 0, 0) := zp_l zq_152 rfl
theorem p_152_23 : zP1 152 23 = some (.invokevirtual 147, 19, 1, 1) := zp_r zq_152 rfl
theorem p_152_26 : zP1 152 26 = some (.iload_n 2, 0, 0, 0) := zp_l zq_152 rfl
theorem p_152_27 : zP1 152 27 = some (.ifCond .ne 11, 0, 0, 0) := zp_l zq_152 rfl
theorem p_152_30 : zP1 152 30 = some (.aload_n 0, 0, 0, 0) := zp_l zq_152 rfl
theorem p_152_31 : zP1 152 31 = some (.getfield 40, 10, 4, 0) := zp_r zq_152 rfl
theorem p_152_34 : zP1 152 34 = some (.getfield 210, 1, 6, 0) := zp_r zq_152 rfl
theorem p_152_37 : zP1 152 37 = some (.ireturn, 0, 0, 0) := zp_l zq_152 rfl
theorem p_152_38 : zP1 152 38 = some (.iload_n 2, 0, 0, 0) := zp_l zq_152 rfl
theorem p_152_39 : zP1 152 39 = some (.iconst 1, 0, 0, 0) := zp_l zq_152 rfl
theorem p_152_40 : zP1 152 40 = some (.if_icmp .ne 19, 0, 0, 0) := zp_l zq_152 rfl
theorem p_152_43 : zP1 152 43 = some (.aload_n 0, 0, 0, 0) := zp_l zq_152 rfl
theorem p_152_44 : zP1 152 44 = some (.getfield 40, 10, 4, 0) := zp_r zq_152 rfl
theorem p_152_47 : zP1 152 47 = some (.getfield 213, 1, 7, 0) := zp_r zq_152 rfl
theorem p_152_50 : zP1 152 50 = some (.ifCond .eq 7, 0, 0, 0) := zp_l zq_152 rfl
theorem p_152_53 : zP1 152 53 = some (.iconst 1, 0, 0, 0) := zp_l zq_152 rfl
theorem p_152_54 : zP1 152 54 = some (.goto 4, 0, 0, 0) := zp_l zq_152 rfl
theorem p_152_57 : zP1 152 57 = some (.iconst 0, 0, 0, 0) := zp_l zq_152 rfl
theorem p_152_58 : zP1 152 58 = some (.ireturn, 0, 0, 0) := zp_l zq_152 rfl
theorem p_152_59 : zP1 152 59 = some (.aload_n 0, 0, 0, 0) := zp_l zq_152 rfl
theorem p_152_60 : zP1 152 60 = some (.getfield 40, 10, 4, 0) := zp_r zq_152 rfl
theorem p_152_63 : zP1 152 63 = some (.getfield 216, 1, 8, 0) := zp_r zq_152 rfl
theorem p_152_66 : zP1 152 66 = some (.ireturn, 0, 0, 0) := zp_l zq_152 rfl
theorem b_152_0 {x1 : Int} {x2 : Int} : Z e (d + 1) 152 0 [.ref 0, .int (iI x1), .int (iI x2)] [] m = (if (((wr x1) < 0) ∨ (9999 < (wr x1))) ∨ (((wr x2) < 0) ∨ (2 < (wr x2))) then ri (-1) m else (Z e d 19 0 [.ref 202, .int (iI x1)] [] m).bind (ZK e (d + 1) 152 26 [.ref 0, .int (iI x1), .int (iI x2)] [] m)) := (s_il_1 p_152_0).trans <| (s_cs1 (Lc := [.int (iI x1)]) p_152_1 (by decide) (zM_of zq_195) ⟨Nat.le_of_ble_eq_true rfl, Nat.le_of_ble_eq_true rfl⟩ rfl).trans <| (bd b_195_0).trans <| ri_k.trans <| Eq.trans (Eq.trans (s_bne_t p_152_4 rfl) <| Eq.trans (ite_cg rfl ((s_il_2 p_152_7).trans <| Eq.trans (s_z_lt_t p_152_8 rfl rfl) <| Eq.trans (ite_cg rfl ((s_il_2 p_152_11).trans <| (s_const p_152_12).trans <| (s_c_le_f p_152_13 rfl rfl wl_2))) co_or)) co_or) <| ite_cg ((s_const p_152_16).trans <| (s_reti p_152_17 (zM_of zq_152))) ((s_al_0 p_152_18).trans <| (s_getr p_152_19 hs_0 (by decide) rfl).trans <| (s_il_1 p_152_22).trans <| (s_cv1 (Lc := [.ref 202, .int (iI x1)]) p_152_23 (by decide) (by decide) (zM_of zq_19) ⟨Nat.le_of_ble_eq_true rfl, Nat.le_of_ble_eq_true rfl⟩ rfl (m_rc hs_202 ⟨rfl, by decide⟩)))
theorem b_152_26 {x2 : Int} {u1 : Value} : Z e (d + 1) 152 26 [.ref 0, u1, .int (iI x2)] [] m = (if (wr x2) = 0 then ri (m 202 6) m else (if (wr x2) = 1 then ri (if ¬ (wr (m 202 7)) = 0 then 1 else 0) m else ri (m 202 8) m)) := (s_il_2 p_152_26).trans <| Eq.trans ((s_z_ne_f p_152_27 rfl rfl)) <| ite_cg ((s_al_0 p_152_30).trans <| (s_getr p_152_31 hs_0 (by decide) rfl).trans <| (s_get p_152_34 hs_202 (by decide) rfl).trans <| (s_reti p_152_37 (zM_of zq_152))) ((s_il_2 p_152_38).trans <| (s_const p_152_39).trans <| Eq.trans ((s_c_ne_f p_152_40 rfl rfl wl_1)) <| ite_cg ((s_al_0 p_152_43).trans <| (s_getr p_152_44 hs_0 (by decide) rfl).trans <| (s_get p_152_47 hs_202 (by decide) rfl).trans <| Eq.trans (Eq.trans ((s_z_eq_f p_152_50 rfl rfl)) <| Eq.trans (ite_cg ((s_const p_152_53).trans <| (s_goto p_152_54 rfl).trans <| rfl) ((s_const p_152_57).trans <| rfl)) (phi1 (fun z0 => Z e (d + 1) 152 58 [.ref 0, u1, .int (iI x2)] [.int (iI z0)] m))) <| (s_reti p_152_58 (zM_of zq_152))) ((s_al_0 p_152_59).trans <| (s_getr p_152_60 hs_0 (by decide) rfl).trans <| (s_get p_152_63 hs_202 (by decide) rfl).trans <| (s_reti p_152_66 (zM_of zq_152))))
end BK
