/-! Equations of blocks. By program. -/
section BK
variable {e : List Int32 × Value} {d : Nat} {m : zMm}
-- M.isName
theorem p_230_0 : zP1 230 0 = some (.aload_n 0, 0, 0, 0) := zp_l zq_230 rfl
theorem p_230_1 : zP1 230 1 = some (.getfield 189, 11, 18, 0) := zp_r zq_230 rfl
theorem p_230_4 : zP1 230 4 = some (.ifCond .ne 31, 0, 0, 0) := zp_l zq_230 rfl
theorem p_230_7 : zP1 230 7 = some (.aload_n 0, 0, 0, 0) := zp_l zq_230 rfl
theorem p_230_8 : zP1 230 8 = some (.getfield 183, 11, 17, 0) := zp_r zq_230 rfl
theorem p_230_11 : zP1 230 11 = some (.iconst 1, 0, 0, 0) := zp_l zq_230 rfl
theorem p_230_12 : zP1 230 12 = some (.if_icmp .ne 23, 0, 0, 0) := zp_l zq_230 rfl
theorem p_230_15 : zP1 230 15 = some (.aload_n 0, 0, 0, 0) := zp_l zq_230 rfl
theorem p_230_16 : zP1 230 16 = some (.getfield 177, 11, 16, 0) := zp_r zq_230 rfl
theorem p_230_19 : zP1 230 19 = some (.aload_n 0, 0, 0, 0) := zp_l zq_230 rfl
theorem p_230_20 : zP1 230 20 = some (.getfield 180, 11, 15, 0) := zp_r zq_230 rfl
theorem p_230_23 : zP1 230 23 = some (.isub, 0, 0, 0) := zp_l zq_230 rfl
theorem p_230_24 : zP1 230 24 = some (.aload_n 1, 0, 0, 0) := zp_l zq_230 rfl
theorem p_230_25 : zP1 230 25 = some (.invokevirtual 192, 326, 0, 41) := zp_r zq_230 rfl
theorem p_230_28 : zP1 230 28 = some (.if_icmp .ne 7, 0, 0, 0) := zp_l zq_230 rfl
theorem p_230_31 : zP1 230 31 = some (.iconst 1, 0, 0, 0) := zp_l zq_230 rfl
theorem p_230_32 : zP1 230 32 = some (.goto 4, 0, 0, 0) := zp_l zq_230 rfl
theorem p_230_35 : zP1 230 35 = some (.iconst 0, 0, 0, 0) := zp_l zq_230 rfl
theorem p_230_36 : zP1 230 36 = some (.istore_n 2, 0, 0, 0) := zp_l zq_230 rfl
theorem p_230_37 : zP1 230 37 = some (.iconst 0, 0, 0, 0) := zp_l zq_230 rfl
theorem p_230_38 : zP1 230 38 = some (.istore_n 3, 0, 0, 0) := zp_l zq_230 rfl
theorem p_230_39 : zP1 230 39 = some (.iload_n 2, 0, 0, 0) := zp_l zq_230 rfl
theorem p_230_40 : zP1 230 40 = some (.ifCond .eq 42, 0, 0, 0) := zp_l zq_230 rfl
theorem p_230_43 : zP1 230 43 = some (.iload_n 3, 0, 0, 0) := zp_l zq_230 rfl
theorem p_230_44 : zP1 230 44 = some (.aload_n 1, 0, 0, 0) := zp_l zq_230 rfl
theorem p_230_45 : zP1 230 45 = some (.invokevirtual 192, 326, 0, 41) := zp_r zq_230 rfl
theorem p_230_48 : zP1 230 48 = some (.if_icmp .ge 34, 0, 0, 0) := zp_l zq_230 rfl
theorem p_230_51 : zP1 230 51 = some (.aload_n 0, 0, 0, 0) := zp_l zq_230 rfl
theorem p_230_52 : zP1 230 52 = some (.getfield 16, 11, 3, 0) := zp_r zq_230 rfl
theorem p_230_55 : zP1 230 55 = some (.aload_n 0, 0, 0, 0) := zp_l zq_230 rfl
theorem p_230_56 : zP1 230 56 = some (.getfield 180, 11, 15, 0) := zp_r zq_230 rfl
theorem p_230_59 : zP1 230 59 = some (.iload_n 3, 0, 0, 0) := zp_l zq_230 rfl
theorem p_230_60 : zP1 230 60 = some (.iadd, 0, 0, 0) := zp_l zq_230 rfl
theorem p_230_61 : zP1 230 61 = some (.iaload, 0, 0, 0) := zp_l zq_230 rfl
theorem p_230_62 : zP1 230 62 = some (.aload_n 1, 0, 0, 0) := zp_l zq_230 rfl
theorem p_230_63 : zP1 230 63 = some (.iload_n 3, 0, 0, 0) := zp_l zq_230 rfl
theorem p_230_64 : zP1 230 64 = some (.invokevirtual 196, 327, 1, 41) := zp_r zq_230 rfl
theorem p_230_67 : zP1 230 67 = some (.if_icmp .ne 7, 0, 0, 0) := zp_l zq_230 rfl
theorem p_230_70 : zP1 230 70 = some (.iconst 1, 0, 0, 0) := zp_l zq_230 rfl
theorem p_230_71 : zP1 230 71 = some (.goto 4, 0, 0, 0) := zp_l zq_230 rfl
theorem p_230_74 : zP1 230 74 = some (.iconst 0, 0, 0, 0) := zp_l zq_230 rfl
theorem p_230_75 : zP1 230 75 = some (.istore_n 2, 0, 0, 0) := zp_l zq_230 rfl
theorem p_230_76 : zP1 230 76 = some (.iinc 3 1, 0, 0, 0) := zp_l zq_230 rfl
theorem p_230_79 : zP1 230 79 = some (.goto (-40), 0, 0, 0) := zp_l zq_230 rfl
theorem p_230_82 : zP1 230 82 = some (.iload_n 2, 0, 0, 0) := zp_l zq_230 rfl
theorem p_230_83 : zP1 230 83 = some (.ireturn, 0, 0, 0) := zp_l zq_230 rfl
theorem b_230_0 {a1 : Nat} (hSa1 : zisS (zE0 e.1 e.2) a1 = true) : Z e (d + 1) 230 0 [.ref 246, .ref a1, .retAddr 0, .retAddr 0] [] m = (if ((wr (m 246 18)) = 0) ∧ ((wr (m 246 17)) = 1) then (Z e d 326 0 [.ref a1] [] m).bind (ZK e (d + 1) 230 28 [.ref 246, .ref a1, .retAddr 0, .retAddr 0] [.int (iI ((m 246 16) - (m 246 15)))] m) else Z e (d + 1) 230 39 [.ref 246, .ref a1, .int (iI 0), .int (iI 0)] [] m) := (s_al_0 p_230_0).trans <| (s_get p_230_1 hs_246 (by decide) rfl).trans <| Eq.trans (Eq.trans (s_z_ne_f p_230_4 rfl rfl) <| Eq.trans (ite_cg ((s_al_0 p_230_7).trans <| (s_get p_230_8 hs_246 (by decide) rfl).trans <| (s_const p_230_11).trans <| (s_c_ne_f p_230_12 rfl rfl wl_1)) rfl) co_and) <| ite_cg ((s_al_0 p_230_15).trans <| (s_get p_230_16 hs_246 (by decide) rfl).trans <| (s_al_0 p_230_19).trans <| (s_get p_230_20 hs_246 (by decide) rfl).trans <| (s_isub p_230_23).trans <| (s_al_1 p_230_24).trans <| (s_cg0 (Lc := [.ref a1]) p_230_25 (by decide) (zM_of zq_326) ⟨Nat.le_of_ble_eq_true rfl, Nat.le_of_ble_eq_true rfl⟩ rfl hSa1)) ((s_const p_230_35).trans <| (s_is_2 cat_r p_230_36).trans <| (s_const p_230_37).trans <| (s_is_3 cat_i p_230_38).trans <| rfl)
theorem b_230_39 {a1 : Nat} {x2 : Int} {x3 : Int} (hSa1 : zisS (zE0 e.1 e.2) a1 = true) : Z e (d + 1) 230 39 [.ref 246, .ref a1, .int (iI x2), .int (iI x3)] [] m = (if ¬ (wr x2) = 0 then (Z e d 326 0 [.ref a1] [] m).bind (ZK e (d + 1) 230 48 [.ref 246, .ref a1, .int (iI x2), .int (iI x3)] [.int (iI x3)] m) else ck (nbp x2) (ri x2 m)) := (s_il_2 p_230_39).trans <| Eq.trans ((s_z_eq_f p_230_40 rfl rfl)) <| ite_cg ((s_il_3 p_230_43).trans <| (s_al_1 p_230_44).trans <| (s_cg0 (Lc := [.ref a1]) p_230_45 (by decide) (zM_of zq_326) ⟨Nat.le_of_ble_eq_true rfl, Nat.le_of_ble_eq_true rfl⟩ rfl hSa1)) ((s_il_2 p_230_82).trans <| (s_retx p_230_83 (zM_of zq_230)))
theorem b_230_28 {a1 : Nat} {xs0 : Int} {xs1 : Int} {u2 u3 : Value} : Z e (d + 1) 230 28 [.ref 246, .ref a1, u2, u3] [.int (iI xs0), .int (iI xs1)] m = Z e (d + 1) 230 39 [.ref 246, .ref a1, .int (iI (if (wr xs1) = (wr xs0) then 1 else 0)), .int (iI 0)] [] m := Eq.trans (Eq.trans ((s_c_ne_f p_230_28 rfl rfl rfl)) <| Eq.trans (ite_cg ((s_const p_230_31).trans <| (s_goto p_230_32 rfl).trans <| rfl) ((s_const p_230_35).trans <| rfl)) (phi1 (fun z0 => Z e (d + 1) 230 36 [.ref 246, .ref a1, u2, u3] [.int (iI z0)] m))) <| (s_is_2 cat_r p_230_36).trans <| (s_const p_230_37).trans <| (s_is_3 cat_i p_230_38).trans <| rfl
theorem b_230_48 {a1 : Nat} {x2 : Int} {x3 : Int} {xs0 : Int} {xs1 : Int} (hSa1 : zisS (zE0 e.1 e.2) a1 = true) : Z e (d + 1) 230 48 [.ref 246, .ref a1, .int (iI x2), .int (iI x3)] [.int (iI xs0), .int (iI xs1)] m = (if (wr xs1) < (wr xs0) then ck (0 ≤ (wr ((m 246 15) + x3)) ∧ (wr ((m 246 15) + x3)) < 300) ((Z e d 327 0 [.ref a1, .int (iI x3)] [] m).bind (ZK e (d + 1) 230 67 [.ref 246, .ref a1, .int (iI x2), .int (iI x3)] [.int (iI (m 249 (wr ((m 246 15) + x3))))] m)) else ck (nbp x2) (ri x2 m)) := Eq.trans ((s_c_ge_f p_230_48 rfl rfl rfl)) <| ite_cg ((s_al_0 p_230_51).trans <| (s_getr p_230_52 hs_246 (by decide) rfl).trans <| (s_al_0 p_230_55).trans <| (s_get p_230_56 hs_246 (by decide) rfl).trans <| (s_il_3 p_230_59).trans <| (s_iadd p_230_60).trans <| (s_ald 300 p_230_61 hs_249 rfl (by decide)).trans <| ck_cg fun k2 => (s_al_1 p_230_62).trans <| (s_il_3 p_230_63).trans <| (s_cg1 (Lc := [.ref a1, .int (iI x3)]) p_230_64 (by decide) (zM_of zq_327) ⟨Nat.le_of_ble_eq_true rfl, Nat.le_of_ble_eq_true rfl⟩ rfl hSa1)) ((s_il_2 p_230_82).trans <| (s_retx p_230_83 (zM_of zq_230)))
theorem b_230_67 {a1 : Nat} {x3 : Int} {xs0 : Int} {xs1 : Int} {u2 : Value} : Z e (d + 1) 230 67 [.ref 246, .ref a1, u2, .int (iI x3)] [.int (iI xs0), .int (iI xs1)] m = Z e (d + 1) 230 39 [.ref 246, .ref a1, .int (iI (if (wr xs1) = (wr xs0) then 1 else 0)), .int (iI (x3 + 1))] [] m := Eq.trans (Eq.trans ((s_c_ne_f p_230_67 rfl rfl rfl)) <| Eq.trans (ite_cg ((s_const p_230_70).trans <| (s_goto p_230_71 rfl).trans <| rfl) ((s_const p_230_74).trans <| rfl)) (phi1 (fun z0 => Z e (d + 1) 230 75 [.ref 246, .ref a1, u2, .int (iI x3)] [.int (iI z0)] m))) <| (s_is_2 cat_r p_230_75).trans <| (s_inc_3 cat_i p_230_76).trans <| (s_goto p_230_79 rfl).trans <| rfl
-- M.isSign
theorem p_231_0 : zP1 231 0 = some (.aload_n 0, 0, 0, 0) := zp_l zq_231 rfl
theorem p_231_1 : zP1 231 1 = some (.getfield 189, 11, 18, 0) := zp_r zq_231 rfl
theorem p_231_4 : zP1 231 4 = some (.ifCond .ne 28, 0, 0, 0) := zp_l zq_231 rfl
theorem p_231_7 : zP1 231 7 = some (.aload_n 0, 0, 0, 0) := zp_l zq_231 rfl
theorem p_231_8 : zP1 231 8 = some (.getfield 183, 11, 17, 0) := zp_r zq_231 rfl
theorem p_231_11 : zP1 231 11 = some (.iconst 3, 0, 0, 0) := zp_l zq_231 rfl
theorem p_231_12 : zP1 231 12 = some (.if_icmp .ne 20, 0, 0, 0) := zp_l zq_231 rfl
theorem p_231_15 : zP1 231 15 = some (.aload_n 0, 0, 0, 0) := zp_l zq_231 rfl
theorem p_231_16 : zP1 231 16 = some (.getfield 16, 11, 3, 0) := zp_r zq_231 rfl
theorem p_231_19 : zP1 231 19 = some (.aload_n 0, 0, 0, 0) := zp_l zq_231 rfl
theorem p_231_20 : zP1 231 20 = some (.getfield 180, 11, 15, 0) := zp_r zq_231 rfl
theorem p_231_23 : zP1 231 23 = some (.iaload, 0, 0, 0) := zp_l zq_231 rfl
theorem p_231_24 : zP1 231 24 = some (.iload_n 1, 0, 0, 0) := zp_l zq_231 rfl
theorem p_231_25 : zP1 231 25 = some (.if_icmp .ne 7, 0, 0, 0) := zp_l zq_231 rfl
theorem p_231_28 : zP1 231 28 = some (.iconst 1, 0, 0, 0) := zp_l zq_231 rfl
theorem p_231_29 : zP1 231 29 = some (.goto 4, 0, 0, 0) := zp_l zq_231 rfl
theorem p_231_32 : zP1 231 32 = some (.iconst 0, 0, 0, 0) := zp_l zq_231 rfl
theorem p_231_33 : zP1 231 33 = some (.ireturn, 0, 0, 0) := zp_l zq_231 rfl
theorem b_231_0 {x1 : Int} : Z e d 231 0 [.ref 246, .int (iI x1)] [] m = ck (((wr (m 246 18)) = 0) → (((wr (m 246 17)) = 3) → (0 ≤ (wr (m 246 15)) ∧ (wr (m 246 15)) < 300))) (ri (if ((wr (m 246 18)) = 0) ∧ (((wr (m 246 17)) = 3) ∧ ((wr (m 249 (wr (m 246 15)))) = (wr x1))) then 1 else 0) m) := (s_al_0 p_231_0).trans <| (s_get p_231_1 hs_246 (by decide) rfl).trans <| Eq.trans (Eq.trans (Eq.trans (s_z_ne_f p_231_4 rfl rfl) <| Eq.trans (ite_cg ((s_al_0 p_231_7).trans <| (s_get p_231_8 hs_246 (by decide) rfl).trans <| (s_const p_231_11).trans <| Eq.trans (s_c_ne_f p_231_12 rfl rfl wl_3) <| Eq.trans (ite_cg ((s_al_0 p_231_15).trans <| (s_getr p_231_16 hs_246 (by decide) rfl).trans <| (s_al_0 p_231_19).trans <| (s_get p_231_20 hs_246 (by decide) rfl).trans <| (s_ald 300 p_231_23 hs_249 rfl (by decide)).trans <| ck_cg fun k1 => (s_il_1 p_231_24).trans <| (s_c_ne_f p_231_25 rfl rfl rfl)) rfl) <| Eq.trans ck_a <| ck_cg fun _ => co_and) rfl) <| Eq.trans ck_a <| ck_cg fun _ => co_and) <| ck_cg fun _ => Eq.trans (ite_cg ((s_const p_231_28).trans <| (s_goto p_231_29 rfl).trans <| rfl) ((s_const p_231_32).trans <| rfl)) (phi1 (fun z0 => Z e d 231 33 [.ref 246, .int (iI x1)] [.int (iI z0)] m))) <| ck_cg fun _ => (s_retb p_231_33 (zM_of zq_231))
-- M.need
theorem p_232_0 : zP1 232 0 = some (.aload_n 0, 0, 0, 0) := zp_l zq_232 rfl
theorem p_232_1 : zP1 232 1 = some (.aload_n 0, 0, 0, 0) := zp_l zq_232 rfl
theorem p_232_2 : zP1 232 2 = some (.getfield 189, 11, 18, 0) := zp_r zq_232 rfl
theorem p_232_5 : zP1 232 5 = some (.ifCond .ne 7, 0, 0, 0) := zp_l zq_232 rfl
theorem p_232_8 : zP1 232 8 = some (.iload_n 1, 0, 0, 0) := zp_l zq_232 rfl
theorem p_232_9 : zP1 232 9 = some (.ifCond .ne 7, 0, 0, 0) := zp_l zq_232 rfl
theorem p_232_12 : zP1 232 12 = some (.iconst 1, 0, 0, 0) := zp_l zq_232 rfl
theorem p_232_13 : zP1 232 13 = some (.goto 4, 0, 0, 0) := zp_l zq_232 rfl
theorem p_232_16 : zP1 232 16 = some (.iconst 0, 0, 0, 0) := zp_l zq_232 rfl
theorem p_232_17 : zP1 232 17 = some (.putfield 189, 11, 18, 1) := zp_r zq_232 rfl
theorem p_232_20 : zP1 232 20 = some (.aload_n 0, 0, 0, 0) := zp_l zq_232 rfl
theorem p_232_21 : zP1 232 21 = some (.getfield 189, 11, 18, 0) := zp_r zq_232 rfl
theorem p_232_24 : zP1 232 24 = some (.ifCond .ne 7, 0, 0, 0) := zp_l zq_232 rfl
theorem p_232_27 : zP1 232 27 = some (.aload_n 0, 0, 0, 0) := zp_l zq_232 rfl
theorem p_232_28 : zP1 232 28 = some (.invokevirtual 200, 229, 0, 11) := zp_r zq_232 rfl
theorem p_232_31 : zP1 232 31 = some (.return_, 0, 0, 0) := zp_l zq_232 rfl
theorem b_232_0 {x1 : Int} : Z e (d + 1) 232 0 [.ref 246, .int (iI x1)] [] m = (if (wr ((um m 246 18 (if (¬ (wr (m 246 18)) = 0) ∨ ((wr x1) = 0) then 1 else 0)) 246 18)) = 0 then (Z e d 229 0 [.ref 246] [] (um m 246 18 (if (¬ (wr (m 246 18)) = 0) ∨ ((wr x1) = 0) then 1 else 0))).bind (ZK e (d + 1) 232 31 [.ref 246, .int (iI x1)] [] (um m 246 18 (if (¬ (wr (m 246 18)) = 0) ∨ ((wr x1) = 0) then 1 else 0))) else Z e (d + 1) 232 31 [.ref 246, .int (iI x1)] [] (um m 246 18 (if (¬ (wr (m 246 18)) = 0) ∨ ((wr x1) = 0) then 1 else 0))) := (s_al_0 p_232_0).trans <| (s_al_0 p_232_1).trans <| (s_get p_232_2 hs_246 (by decide) rfl).trans <| Eq.trans (Eq.trans (Eq.trans (s_z_ne_t p_232_5 rfl rfl) <| Eq.trans (ite_cg rfl ((s_il_1 p_232_8).trans <| (s_z_ne_f p_232_9 rfl rfl))) co_or) <| Eq.trans (ite_cg ((s_const p_232_12).trans <| (s_goto p_232_13 rfl).trans <| rfl) ((s_const p_232_16).trans <| rfl)) (phi1 (fun z0 => Z e (d + 1) 232 17 [.ref 246, .int (iI x1)] [.int (iI z0), .ref 246] m))) <| (s_putb p_232_17 hs_246 (by decide) rfl).trans <| (s_al_0 p_232_20).trans <| (s_get p_232_21 hs_246 (by decide) rfl).trans <| Eq.trans ((s_z_ne_f p_232_24 rfl rfl)) <| ite_cg ((s_al_0 p_232_27).trans <| (s_cv0 (Lc := [.ref 246]) p_232_28 (by decide) (by decide) (zM_of zq_229) ⟨Nat.le_of_ble_eq_true rfl, Nat.le_of_ble_eq_true rfl⟩ rfl (m_rc hs_246 ⟨rfl, by decide⟩))) (rfl)
theorem b_232_31 {u0 u1 : Value} : Z e (d + 1) 232 31 [u0, u1] [] m = rn m := (s_retv p_232_31 (zM_of zq_232))
-- M.number
theorem p_233_0 : zP1 233 0 = some (.iconst 0, 0, 0, 0) := zp_l zq_233 rfl
theorem p_233_1 : zP1 233 1 = some (.istore_n 2, 0, 0, 0) := zp_l zq_233 rfl
theorem p_233_2 : zP1 233 2 = some (.aload_n 0, 0, 0, 0) := zp_l zq_233 rfl
theorem p_233_3 : zP1 233 3 = some (.getfield 189, 11, 18, 0) := zp_r zq_233 rfl
theorem p_233_6 : zP1 233 6 = some (.ifCond .ne 28, 0, 0, 0) := zp_l zq_233 rfl
theorem p_233_9 : zP1 233 9 = some (.aload_n 0, 0, 0, 0) := zp_l zq_233 rfl
theorem p_233_10 : zP1 233 10 = some (.getfield 183, 11, 17, 0) := zp_r zq_233 rfl
theorem p_233_13 : zP1 233 13 = some (.iconst 2, 0, 0, 0) := zp_l zq_233 rfl
theorem p_233_14 : zP1 233 14 = some (.if_icmp .ne 20, 0, 0, 0) := zp_l zq_233 rfl
theorem p_233_17 : zP1 233 17 = some (.aload_n 0, 0, 0, 0) := zp_l zq_233 rfl
theorem p_233_18 : zP1 233 18 = some (.getfield 177, 11, 16, 0) := zp_r zq_233 rfl
theorem p_233_21 : zP1 233 21 = some (.aload_n 0, 0, 0, 0) := zp_l zq_233 rfl
theorem p_233_22 : zP1 233 22 = some (.getfield 180, 11, 15, 0) := zp_r zq_233 rfl
theorem p_233_25 : zP1 233 25 = some (.isub, 0, 0, 0) := zp_l zq_233 rfl
theorem p_233_26 : zP1 233 26 = some (.iconst 3, 0, 0, 0) := zp_l zq_233 rfl
theorem p_233_27 : zP1 233 27 = some (.if_icmp .gt 7, 0, 0, 0) := zp_l zq_233 rfl
theorem p_233_30 : zP1 233 30 = some (.iconst 1, 0, 0, 0) := zp_l zq_233 rfl
theorem p_233_31 : zP1 233 31 = some (.goto 4, 0, 0, 0) := zp_l zq_233 rfl
theorem p_233_34 : zP1 233 34 = some (.iconst 0, 0, 0, 0) := zp_l zq_233 rfl
theorem p_233_35 : zP1 233 35 = some (.istore_n 3, 0, 0, 0) := zp_l zq_233 rfl
theorem p_233_36 : zP1 233 36 = some (.aload_n 0, 0, 0, 0) := zp_l zq_233 rfl
theorem p_233_37 : zP1 233 37 = some (.getfield 180, 11, 15, 0) := zp_r zq_233 rfl
theorem p_233_40 : zP1 233 40 = some (.istore 4, 0, 0, 0) := zp_l zq_233 rfl
theorem p_233_42 : zP1 233 42 = some (.iload_n 3, 0, 0, 0) := zp_l zq_233 rfl
theorem p_233_43 : zP1 233 43 = some (.ifCond .eq 34, 0, 0, 0) := zp_l zq_233 rfl
theorem p_233_46 : zP1 233 46 = some (.iload 4, 0, 0, 0) := zp_l zq_233 rfl
theorem p_233_48 : zP1 233 48 = some (.aload_n 0, 0, 0, 0) := zp_l zq_233 rfl
theorem p_233_49 : zP1 233 49 = some (.getfield 177, 11, 16, 0) := zp_r zq_233 rfl
theorem p_233_52 : zP1 233 52 = some (.if_icmp .ge 25, 0, 0, 0) := zp_l zq_233 rfl
theorem p_233_55 : zP1 233 55 = some (.bipush 10, 0, 0, 0) := zp_l zq_233 rfl
theorem p_233_57 : zP1 233 57 = some (.iload_n 2, 0, 0, 0) := zp_l zq_233 rfl
theorem p_233_58 : zP1 233 58 = some (.imul, 0, 0, 0) := zp_l zq_233 rfl
theorem p_233_59 : zP1 233 59 = some (.aload_n 0, 0, 0, 0) := zp_l zq_233 rfl
theorem p_233_60 : zP1 233 60 = some (.getfield 16, 11, 3, 0) := zp_r zq_233 rfl
theorem p_233_63 : zP1 233 63 = some (.iload 4, 0, 0, 0) := zp_l zq_233 rfl
theorem p_233_65 : zP1 233 65 = some (.iaload, 0, 0, 0) := zp_l zq_233 rfl
theorem p_233_66 : zP1 233 66 = some (.iadd, 0, 0, 0) := zp_l zq_233 rfl
theorem p_233_67 : zP1 233 67 = some (.bipush 48, 0, 0, 0) := zp_l zq_233 rfl
theorem p_233_69 : zP1 233 69 = some (.isub, 0, 0, 0) := zp_l zq_233 rfl
theorem p_233_70 : zP1 233 70 = some (.istore_n 2, 0, 0, 0) := zp_l zq_233 rfl
theorem p_233_71 : zP1 233 71 = some (.iinc 4 1, 0, 0, 0) := zp_l zq_233 rfl
theorem p_233_74 : zP1 233 74 = some (.goto (-32), 0, 0, 0) := zp_l zq_233 rfl
theorem p_233_77 : zP1 233 77 = some (.aload_n 0, 0, 0, 0) := zp_l zq_233 rfl
theorem p_233_78 : zP1 233 78 = some (.iload_n 3, 0, 0, 0) := zp_l zq_233 rfl
theorem p_233_79 : zP1 233 79 = some (.ifCond .eq 12, 0, 0, 0) := zp_l zq_233 rfl
theorem p_233_82 : zP1 233 82 = some (.iload_n 2, 0, 0, 0) := zp_l zq_233 rfl
theorem p_233_83 : zP1 233 83 = some (.iload_n 1, 0, 0, 0) := zp_l zq_233 rfl
theorem p_233_84 : zP1 233 84 = some (.if_icmp .gt 7, 0, 0, 0) := zp_l zq_233 rfl
theorem p_233_87 : zP1 233 87 = some (.iconst 1, 0, 0, 0) := zp_l zq_233 rfl
theorem p_233_88 : zP1 233 88 = some (.goto 4, 0, 0, 0) := zp_l zq_233 rfl
theorem p_233_91 : zP1 233 91 = some (.iconst 0, 0, 0, 0) := zp_l zq_233 rfl
theorem p_233_92 : zP1 233 92 = some (.invokevirtual 203, 232, 1, 11) := zp_r zq_233 rfl
theorem p_233_95 : zP1 233 95 = some (.iload_n 2, 0, 0, 0) := zp_l zq_233 rfl
theorem p_233_96 : zP1 233 96 = some (.ireturn, 0, 0, 0) := zp_l zq_233 rfl
theorem b_233_0 {x1 : Int} : Z e (d + 1) 233 0 [.ref 246, .int (iI x1), .retAddr 0, .retAddr 0, .retAddr 0] [] m = Z e (d + 1) 233 42 [.ref 246, .int (iI x1), .int (iI 0), .int (iI (if ((wr (m 246 18)) = 0) ∧ (((wr (m 246 17)) = 2) ∧ ((wr ((m 246 16) - (m 246 15))) ≤ 3)) then 1 else 0)), .int (iI (m 246 15))] [] m := (s_const p_233_0).trans <| (s_is_2 cat_i p_233_1).trans <| (s_al_0 p_233_2).trans <| (s_get p_233_3 hs_246 (by decide) rfl).trans <| Eq.trans (Eq.trans (Eq.trans (s_z_ne_f p_233_6 rfl rfl) <| Eq.trans (ite_cg ((s_al_0 p_233_9).trans <| (s_get p_233_10 hs_246 (by decide) rfl).trans <| (s_const p_233_13).trans <| Eq.trans (s_c_ne_f p_233_14 rfl rfl wl_2) <| Eq.trans (ite_cg ((s_al_0 p_233_17).trans <| (s_get p_233_18 hs_246 (by decide) rfl).trans <| (s_al_0 p_233_21).trans <| (s_get p_233_22 hs_246 (by decide) rfl).trans <| (s_isub p_233_25).trans <| (s_const p_233_26).trans <| (s_c_gt_f p_233_27 rfl rfl wl_3)) rfl) co_and) rfl) co_and) <| Eq.trans (ite_cg ((s_const p_233_30).trans <| (s_goto p_233_31 rfl).trans <| rfl) ((s_const p_233_34).trans <| rfl)) (phi1 (fun z0 => Z e (d + 1) 233 35 [.ref 246, .int (iI x1), .int (iI 0), .retAddr 0, .retAddr 0] [.int (iI z0)] m))) <| (s_is_3 cat_i p_233_35).trans <| (s_al_0 p_233_36).trans <| (s_get p_233_37 hs_246 (by decide) rfl).trans <| (s_is_4 cat_i p_233_40).trans <| rfl
theorem b_233_42 {x1 : Int} {x2 : Int} {x3 : Int} {x4 : Int} : Z e (d + 1) 233 42 [.ref 246, .int (iI x1), .int (iI x2), .int (iI x3), .int (iI x4)] [] m = (if (¬ (wr x3) = 0) ∧ ((wr x4) < (wr (m 246 16))) then ck (0 ≤ (wr x4) ∧ (wr x4) < 300) (Z e (d + 1) 233 42 [.ref 246, .int (iI x1), .int (iI (((10 * x2) + (m 249 (wr x4))) - 48)), .int (iI x3), .int (iI (x4 + 1))] [] m) else Z e (d + 1) 233 77 [.ref 246, .int (iI x1), .int (iI x2), .int (iI x3), .int (iI x4)] [] m) := (s_il_3 p_233_42).trans <| Eq.trans (Eq.trans (s_z_eq_f p_233_43 rfl rfl) <| Eq.trans (ite_cg ((s_il_4 p_233_46).trans <| (s_al_0 p_233_48).trans <| (s_get p_233_49 hs_246 (by decide) rfl).trans <| (s_c_ge_f p_233_52 rfl rfl rfl)) rfl) co_and) <| ite_cg ((s_bip p_233_55 rfl).trans <| (s_il_2 p_233_57).trans <| (s_imul p_233_58).trans <| (s_al_0 p_233_59).trans <| (s_getr p_233_60 hs_246 (by decide) rfl).trans <| (s_il_4 p_233_63).trans <| (s_ald 300 p_233_65 hs_249 rfl (by decide)).trans <| ck_cg fun k2 => (s_iadd p_233_66).trans <| (s_bip p_233_67 rfl).trans <| (s_isub p_233_69).trans <| (s_is_2 cat_i p_233_70).trans <| (s_inc_4 cat_i p_233_71).trans <| (s_goto p_233_74 rfl).trans <| rfl) (rfl)
theorem b_233_77 {x1 : Int} {x2 : Int} {x3 : Int} {u4 : Value} : Z e (d + 1) 233 77 [.ref 246, .int (iI x1), .int (iI x2), .int (iI x3), u4] [] m = (Z e d 232 0 [.ref 246, .int (iI (if (¬ (wr x3) = 0) ∧ ((wr x2) ≤ (wr x1)) then 1 else 0))] [] m).bind (ZK e (d + 1) 233 95 [.ref 246, .int (iI x1), .int (iI x2), .int (iI x3), u4] [] m) := (s_al_0 p_233_77).trans <| (s_il_3 p_233_78).trans <| Eq.trans (Eq.trans (Eq.trans (s_z_eq_f p_233_79 rfl rfl) <| Eq.trans (ite_cg ((s_il_2 p_233_82).trans <| (s_il_1 p_233_83).trans <| (s_c_gt_f p_233_84 rfl rfl rfl)) rfl) co_and) <| Eq.trans (ite_cg ((s_const p_233_87).trans <| (s_goto p_233_88 rfl).trans <| rfl) ((s_const p_233_91).trans <| rfl)) (phi1 (fun z0 => Z e (d + 1) 233 92 [.ref 246, .int (iI x1), .int (iI x2), .int (iI x3), u4] [.int (iI z0), .ref 246] m))) <| (s_cv1 (Lc := [.ref 246, .int (iI (if (¬ (wr x3) = 0) ∧ ((wr x2) ≤ (wr x1)) then 1 else 0))]) p_233_92 (by decide) (by decide) (zM_of zq_232) ⟨Nat.le_of_ble_eq_true rfl, Nat.le_of_ble_eq_true rfl⟩ rfl (m_rc hs_246 ⟨rfl, by decide⟩))
theorem b_233_95 {x2 : Int} {u0 u1 u3 u4 : Value} : Z e (d + 1) 233 95 [u0, u1, .int (iI x2), u3, u4] [] m = ri x2 m := (s_il_2 p_233_95).trans <| (s_reti p_233_96 (zM_of zq_233))
-- M.codes
theorem p_234_0 : zP1 234 0 = some (.aload_n 0, 0, 0, 0) := zp_l zq_234 rfl
theorem p_234_1 : zP1 234 1 = some (.getfield 189, 11, 18, 0) := zp_r zq_234 rfl
theorem p_234_4 : zP1 234 4 = some (.ifCond .ne 23, 0, 0, 0) := zp_l zq_234 rfl
theorem p_234_7 : zP1 234 7 = some (.aload_n 0, 0, 0, 0) := zp_l zq_234 rfl
theorem p_234_8 : zP1 234 8 = some (.getfield 47, 11, 23, 0) := zp_r zq_234 rfl
theorem p_234_11 : zP1 234 11 = some (.aload_n 0, 0, 0, 0) := zp_l zq_234 rfl
theorem p_234_12 : zP1 234 12 = some (.getfield 207, 11, 20, 0) := zp_r zq_234 rfl
theorem p_234_15 : zP1 234 15 = some (.iload_n 1, 0, 0, 0) := zp_l zq_234 rfl
theorem p_234_16 : zP1 234 16 = some (.iastore, 0, 0, 0) := zp_l zq_234 rfl
theorem p_234_17 : zP1 234 17 = some (.aload_n 0, 0, 0, 0) := zp_l zq_234 rfl
theorem p_234_18 : zP1 234 18 = some (.dup, 0, 0, 0) := zp_l zq_234 rfl
theorem p_234_19 : zP1 234 19 = some (.getfield 207, 11, 20, 0) := zp_r zq_234 rfl
theorem p_234_22 : zP1 234 22 = some (.iconst 1, 0, 0, 0) := zp_l zq_234 rfl
theorem p_234_23 : zP1 234 23 = some (.iadd, 0, 0, 0) := zp_l zq_234 rfl
theorem p_234_24 : zP1 234 24 = some (.putfield 207, 11, 20, 0) := zp_r zq_234 rfl
theorem p_234_27 : zP1 234 27 = some (.return_, 0, 0, 0) := zp_l zq_234 rfl
theorem b_234_0 {x1 : Int} : Z e d 234 0 [.ref 246, .int (iI x1)] [] m = (if (wr (m 246 18)) = 0 then ck (0 ≤ (wr (m 246 20)) ∧ (wr (m 246 20)) < 120) (rn (um (um m 256 (wr (m 246 20)) x1) 246 20 (((um m 256 (wr (m 246 20)) x1) 246 20) + 1))) else rn m) := (s_al_0 p_234_0).trans <| (s_get p_234_1 hs_246 (by decide) rfl).trans <| Eq.trans ((s_z_ne_f p_234_4 rfl rfl)) <| ite_cg ((s_al_0 p_234_7).trans <| (s_getr p_234_8 hs_246 (by decide) rfl).trans <| (s_al_0 p_234_11).trans <| (s_get p_234_12 hs_246 (by decide) rfl).trans <| (s_il_1 p_234_15).trans <| (s_ast 120 p_234_16 hs_256 rfl).trans <| ck_cg fun k1 => (s_al_0 p_234_17).trans <| (s_dup cat_r p_234_18).trans <| (s_get p_234_19 hs_246 (by decide) rfl).trans <| (s_const p_234_22).trans <| (s_iadd p_234_23).trans <| (s_put p_234_24 hs_246 (by decide) rfl).trans <| (s_retv p_234_27 (zM_of zq_234))) ((s_retv p_234_27 (zM_of zq_234)))
-- M.one
theorem p_237_0 : zP1 237 0 = some (.iconst 0, 0, 0, 0) := zp_l zq_237 rfl
theorem p_237_1 : zP1 237 1 = some (.istore_n 1, 0, 0, 0) := zp_l zq_237 rfl
theorem p_237_2 : zP1 237 2 = some (.aload_n 0, 0, 0, 0) := zp_l zq_237 rfl
theorem p_237_3 : zP1 237 3 = some (.ldc 227, 1, 0, 10114) := zp_r zq_237 rfl
theorem p_237_5 : zP1 237 5 = some (.invokevirtual 215, 230, 1, 11) := zp_r zq_237 rfl
theorem p_237_8 : zP1 237 8 = some (.ifCond .eq 13, 0, 0, 0) := zp_l zq_237 rfl
theorem p_237_11 : zP1 237 11 = some (.aload_n 0, 0, 0, 0) := zp_l zq_237 rfl
theorem p_237_12 : zP1 237 12 = some (.invokevirtual 200, 229, 0, 11) := zp_r zq_237 rfl
theorem p_237_15 : zP1 237 15 = some (.iinc 1 1, 0, 0, 0) := zp_l zq_237 rfl
theorem p_237_18 : zP1 237 18 = some (.goto (-16), 0, 0, 0) := zp_l zq_237 rfl
theorem p_237_21 : zP1 237 21 = some (.aload_n 0, 0, 0, 0) := zp_l zq_237 rfl
theorem p_237_22 : zP1 237 22 = some (.bipush 40, 0, 0, 0) := zp_l zq_237 rfl
theorem p_237_24 : zP1 237 24 = some (.invokevirtual 229, 231, 1, 11) := zp_r zq_237 rfl
theorem p_237_27 : zP1 237 27 = some (.ifCond .eq 57, 0, 0, 0) := zp_l zq_237 rfl
theorem p_237_30 : zP1 237 30 = some (.aload_n 0, 0, 0, 0) := zp_l zq_237 rfl
theorem p_237_31 : zP1 237 31 = some (.dup, 0, 0, 0) := zp_l zq_237 rfl
theorem p_237_32 : zP1 237 32 = some (.getfield 232, 11, 19, 0) := zp_r zq_237 rfl
theorem p_237_35 : zP1 237 35 = some (.iconst 1, 0, 0, 0) := zp_l zq_237 rfl
theorem p_237_36 : zP1 237 36 = some (.iadd, 0, 0, 0) := zp_l zq_237 rfl
theorem p_237_37 : zP1 237 37 = some (.putfield 232, 11, 19, 0) := zp_r zq_237 rfl
theorem p_237_40 : zP1 237 40 = some (.aload_n 0, 0, 0, 0) := zp_l zq_237 rfl
theorem p_237_41 : zP1 237 41 = some (.aload_n 0, 0, 0, 0) := zp_l zq_237 rfl
theorem p_237_42 : zP1 237 42 = some (.getfield 232, 11, 19, 0) := zp_r zq_237 rfl
theorem p_237_45 : zP1 237 45 = some (.iconst 4, 0, 0, 0) := zp_l zq_237 rfl
theorem p_237_46 : zP1 237 46 = some (.if_icmp .gt 7, 0, 0, 0) := zp_l zq_237 rfl
theorem p_237_49 : zP1 237 49 = some (.iconst 1, 0, 0, 0) := zp_l zq_237 rfl
theorem p_237_50 : zP1 237 50 = some (.goto 4, 0, 0, 0) := zp_l zq_237 rfl
theorem p_237_53 : zP1 237 53 = some (.iconst 0, 0, 0, 0) := zp_l zq_237 rfl
theorem p_237_54 : zP1 237 54 = some (.invokevirtual 203, 232, 1, 11) := zp_r zq_237 rfl
theorem p_237_57 : zP1 237 57 = some (.aload_n 0, 0, 0, 0) := zp_l zq_237 rfl
theorem p_237_58 : zP1 237 58 = some (.invokevirtual 235, 235, 0, 11) := zp_r zq_237 rfl
theorem p_237_61 : zP1 237 61 = some (.aload_n 0, 0, 0, 0) := zp_l zq_237 rfl
theorem p_237_62 : zP1 237 62 = some (.aload_n 0, 0, 0, 0) := zp_l zq_237 rfl
theorem p_237_63 : zP1 237 63 = some (.bipush 41, 0, 0, 0) := zp_l zq_237 rfl
theorem p_237_65 : zP1 237 65 = some (.invokevirtual 229, 231, 1, 11) := zp_r zq_237 rfl
theorem p_237_68 : zP1 237 68 = some (.invokevirtual 203, 232, 1, 11) := zp_r zq_237 rfl
theorem p_237_71 : zP1 237 71 = some (.aload_n 0, 0, 0, 0) := zp_l zq_237 rfl
theorem p_237_72 : zP1 237 72 = some (.dup, 0, 0, 0) := zp_l zq_237 rfl
theorem p_237_73 : zP1 237 73 = some (.getfield 232, 11, 19, 0) := zp_r zq_237 rfl
theorem p_237_76 : zP1 237 76 = some (.iconst 1, 0, 0, 0) := zp_l zq_237 rfl
theorem p_237_77 : zP1 237 77 = some (.isub, 0, 0, 0) := zp_l zq_237 rfl
theorem p_237_78 : zP1 237 78 = some (.putfield 232, 11, 19, 0) := zp_r zq_237 rfl
theorem p_237_81 : zP1 237 81 = some (.goto 140, 0, 0, 0) := zp_l zq_237 rfl
theorem p_237_84 : zP1 237 84 = some (.aload_n 0, 0, 0, 0) := zp_l zq_237 rfl
theorem p_237_85 : zP1 237 85 = some (.ldc 238, 1, 0, 10115) := zp_r zq_237 rfl
theorem p_237_87 : zP1 237 87 = some (.invokevirtual 215, 230, 1, 11) := zp_r zq_237 rfl
theorem p_237_90 : zP1 237 90 = some (.ifCond .eq 7, 0, 0, 0) := zp_l zq_237 rfl
theorem p_237_93 : zP1 237 93 = some (.iconst 0, 0, 0, 0) := zp_l zq_237 rfl
theorem p_237_94 : zP1 237 94 = some (.goto 75, 0, 0, 0) := zp_l zq_237 rfl
theorem p_237_97 : zP1 237 97 = some (.aload_n 0, 0, 0, 0) := zp_l zq_237 rfl
theorem p_237_98 : zP1 237 98 = some (.ldc 240, 1, 0, 10116) := zp_r zq_237 rfl
theorem p_237_100 : zP1 237 100 = some (.invokevirtual 215, 230, 1, 11) := zp_r zq_237 rfl
theorem p_237_103 : zP1 237 103 = some (.ifCond .eq 7, 0, 0, 0) := zp_l zq_237 rfl
theorem p_237_106 : zP1 237 106 = some (.iconst 1, 0, 0, 0) := zp_l zq_237 rfl
theorem p_237_107 : zP1 237 107 = some (.goto 62, 0, 0, 0) := zp_l zq_237 rfl
theorem p_237_110 : zP1 237 110 = some (.aload_n 0, 0, 0, 0) := zp_l zq_237 rfl
theorem p_237_111 : zP1 237 111 = some (.ldc 242, 1, 0, 10117) := zp_r zq_237 rfl
theorem p_237_113 : zP1 237 113 = some (.invokevirtual 215, 230, 1, 11) := zp_r zq_237 rfl
theorem p_237_116 : zP1 237 116 = some (.ifCond .eq 7, 0, 0, 0) := zp_l zq_237 rfl
theorem p_237_119 : zP1 237 119 = some (.iconst 2, 0, 0, 0) := zp_l zq_237 rfl
theorem p_237_120 : zP1 237 120 = some (.goto 49, 0, 0, 0) := zp_l zq_237 rfl
theorem p_237_123 : zP1 237 123 = some (.aload_n 0, 0, 0, 0) := zp_l zq_237 rfl
theorem p_237_124 : zP1 237 124 = some (.ldc 244, 1, 0, 10118) := zp_r zq_237 rfl
theorem p_237_126 : zP1 237 126 = some (.invokevirtual 215, 230, 1, 11) := zp_r zq_237 rfl
theorem p_237_129 : zP1 237 129 = some (.ifCond .eq 9, 0, 0, 0) := zp_l zq_237 rfl
theorem p_237_132 : zP1 237 132 = some (.sipush 3000, 0, 0, 0) := zp_l zq_237 rfl
theorem p_237_135 : zP1 237 135 = some (.goto 34, 0, 0, 0) := zp_l zq_237 rfl
theorem p_237_138 : zP1 237 138 = some (.aload_n 0, 0, 0, 0) := zp_l zq_237 rfl
theorem p_237_139 : zP1 237 139 = some (.ldc 246, 1, 0, 10119) := zp_r zq_237 rfl
theorem p_237_141 : zP1 237 141 = some (.invokevirtual 215, 230, 1, 11) := zp_r zq_237 rfl
theorem p_237_144 : zP1 237 144 = some (.ifCond .eq 9, 0, 0, 0) := zp_l zq_237 rfl
theorem p_237_147 : zP1 237 147 = some (.sipush 3001, 0, 0, 0) := zp_l zq_237 rfl
theorem p_237_150 : zP1 237 150 = some (.goto 19, 0, 0, 0) := zp_l zq_237 rfl
theorem p_237_153 : zP1 237 153 = some (.aload_n 0, 0, 0, 0) := zp_l zq_237 rfl
theorem p_237_154 : zP1 237 154 = some (.ldc 248, 1, 0, 10120) := zp_r zq_237 rfl
theorem p_237_156 : zP1 237 156 = some (.invokevirtual 215, 230, 1, 11) := zp_r zq_237 rfl
theorem p_237_159 : zP1 237 159 = some (.ifCond .eq 9, 0, 0, 0) := zp_l zq_237 rfl
theorem p_237_162 : zP1 237 162 = some (.sipush 3002, 0, 0, 0) := zp_l zq_237 rfl
theorem p_237_165 : zP1 237 165 = some (.goto 4, 0, 0, 0) := zp_l zq_237 rfl
theorem p_237_168 : zP1 237 168 = some (.iconst (-1), 0, 0, 0) := zp_l zq_237 rfl
theorem p_237_169 : zP1 237 169 = some (.istore_n 2, 0, 0, 0) := zp_l zq_237 rfl
theorem p_237_170 : zP1 237 170 = some (.aload_n 0, 0, 0, 0) := zp_l zq_237 rfl
theorem p_237_171 : zP1 237 171 = some (.iload_n 2, 0, 0, 0) := zp_l zq_237 rfl
theorem p_237_172 : zP1 237 172 = some (.ifCond .lt 7, 0, 0, 0) := zp_l zq_237 rfl
theorem p_237_175 : zP1 237 175 = some (.iconst 1, 0, 0, 0) := zp_l zq_237 rfl
theorem p_237_176 : zP1 237 176 = some (.goto 4, 0, 0, 0) := zp_l zq_237 rfl
theorem p_237_179 : zP1 237 179 = some (.iconst 0, 0, 0, 0) := zp_l zq_237 rfl
theorem p_237_180 : zP1 237 180 = some (.invokevirtual 203, 232, 1, 11) := zp_r zq_237 rfl
theorem p_237_183 : zP1 237 183 = some (.iload_n 2, 0, 0, 0) := zp_l zq_237 rfl
theorem p_237_184 : zP1 237 184 = some (.ifCond .lt 32, 0, 0, 0) := zp_l zq_237 rfl
theorem p_237_187 : zP1 237 187 = some (.iload_n 2, 0, 0, 0) := zp_l zq_237 rfl
theorem p_237_188 : zP1 237 188 = some (.iconst 3, 0, 0, 0) := zp_l zq_237 rfl
theorem p_237_189 : zP1 237 189 = some (.if_icmp .ge 27, 0, 0, 0) := zp_l zq_237 rfl
theorem p_237_192 : zP1 237 192 = some (.aload_n 0, 0, 0, 0) := zp_l zq_237 rfl
theorem p_237_193 : zP1 237 193 = some (.aload_n 0, 0, 0, 0) := zp_l zq_237 rfl
theorem p_237_194 : zP1 237 194 = some (.ldc 250, 1, 0, 10121) := zp_r zq_237 rfl
theorem p_237_196 : zP1 237 196 = some (.invokevirtual 215, 230, 1, 11) := zp_r zq_237 rfl
theorem p_237_199 : zP1 237 199 = some (.invokevirtual 203, 232, 1, 11) := zp_r zq_237 rfl
theorem p_237_202 : zP1 237 202 = some (.sipush 1000, 0, 0, 0) := zp_l zq_237 rfl
theorem p_237_205 : zP1 237 205 = some (.iload_n 2, 0, 0, 0) := zp_l zq_237 rfl
theorem p_237_206 : zP1 237 206 = some (.imul, 0, 0, 0) := zp_l zq_237 rfl
theorem p_237_207 : zP1 237 207 = some (.aload_n 0, 0, 0, 0) := zp_l zq_237 rfl
theorem p_237_208 : zP1 237 208 = some (.sipush 999, 0, 0, 0) := zp_l zq_237 rfl
theorem p_237_211 : zP1 237 211 = some (.invokevirtual 252, 233, 1, 11) := zp_r zq_237 rfl
theorem p_237_214 : zP1 237 214 = some (.iadd, 0, 0, 0) := zp_l zq_237 rfl
theorem p_237_215 : zP1 237 215 = some (.istore_n 2, 0, 0, 0) := zp_l zq_237 rfl
theorem p_237_216 : zP1 237 216 = some (.aload_n 0, 0, 0, 0) := zp_l zq_237 rfl
theorem p_237_217 : zP1 237 217 = some (.iload_n 2, 0, 0, 0) := zp_l zq_237 rfl
theorem p_237_218 : zP1 237 218 = some (.invokevirtual 219, 234, 1, 11) := zp_r zq_237 rfl
theorem p_237_221 : zP1 237 221 = some (.iconst 0, 0, 0, 0) := zp_l zq_237 rfl
theorem p_237_222 : zP1 237 222 = some (.istore_n 2, 0, 0, 0) := zp_l zq_237 rfl
theorem p_237_223 : zP1 237 223 = some (.iload_n 2, 0, 0, 0) := zp_l zq_237 rfl
theorem p_237_224 : zP1 237 224 = some (.iload_n 1, 0, 0, 0) := zp_l zq_237 rfl
theorem p_237_225 : zP1 237 225 = some (.if_icmp .ge 16, 0, 0, 0) := zp_l zq_237 rfl
theorem p_237_228 : zP1 237 228 = some (.aload_n 0, 0, 0, 0) := zp_l zq_237 rfl
theorem p_237_229 : zP1 237 229 = some (.sipush 4000, 0, 0, 0) := zp_l zq_237 rfl
theorem p_237_232 : zP1 237 232 = some (.invokevirtual 219, 234, 1, 11) := zp_r zq_237 rfl
theorem p_237_235 : zP1 237 235 = some (.iinc 2 1, 0, 0, 0) := zp_l zq_237 rfl
theorem p_237_238 : zP1 237 238 = some (.goto (-15), 0, 0, 0) := zp_l zq_237 rfl
theorem p_237_241 : zP1 237 241 = some (.return_, 0, 0, 0) := zp_l zq_237 rfl
theorem b_237_0 : Z e (d + 1) 237 0 [.ref 246, .retAddr 0, .retAddr 0] [] m = Z e (d + 1) 237 2 [.ref 246, .int (iI 0), .retAddr 0] [] m := (s_const p_237_0).trans <| (s_is_1 cat_r p_237_1).trans <| rfl
theorem b_237_2 {x1 : Int} {u2 : Value} : Z e (d + 1) 237 2 [.ref 246, .int (iI x1), u2] [] m = (Z e d 230 0 [.ref 246, .ref 10114, .retAddr 0, .retAddr 0] [] m).bind (ZK e (d + 1) 237 8 [.ref 246, .int (iI x1), u2] [] m) := (s_al_0 p_237_2).trans <| (s_ldcs (k := 10114) p_237_3 rfl).trans <| (s_cv1 (Lc := [.ref 246, .ref 10114, .retAddr 0, .retAddr 0]) p_237_5 (by decide) (by decide) (zM_of zq_230) ⟨Nat.le_of_ble_eq_true rfl, Nat.le_of_ble_eq_true rfl⟩ rfl (m_rc hs_246 ⟨rfl, by decide⟩))
theorem b_237_8 {x1 : Int} {xs0 : Int} {u2 : Value} : Z e (d + 1) 237 8 [.ref 246, .int (iI x1), u2] [.int (iI xs0)] m = (if ¬ (wr xs0) = 0 then (Z e d 229 0 [.ref 246] [] m).bind (ZK e (d + 1) 237 15 [.ref 246, .int (iI x1), u2] [] m) else Z e (d + 1) 237 21 [.ref 246, .int (iI x1), u2] [] m) := Eq.trans ((s_z_eq_f p_237_8 rfl rfl)) <| ite_cg ((s_al_0 p_237_11).trans <| (s_cv0 (Lc := [.ref 246]) p_237_12 (by decide) (by decide) (zM_of zq_229) ⟨Nat.le_of_ble_eq_true rfl, Nat.le_of_ble_eq_true rfl⟩ rfl (m_rc hs_246 ⟨rfl, by decide⟩))) (rfl)
theorem b_237_15 {x1 : Int} {u2 : Value} : Z e (d + 1) 237 15 [.ref 246, .int (iI x1), u2] [] m = Z e (d + 1) 237 2 [.ref 246, .int (iI (x1 + 1)), u2] [] m := (s_inc_1 cat_r p_237_15).trans <| (s_goto p_237_18 rfl).trans <| rfl
theorem b_237_21 {x1 : Int} {u2 : Value} : Z e (d + 1) 237 21 [.ref 246, .int (iI x1), u2] [] m = ck (((wr (m 246 18)) = 0) → (((wr (m 246 17)) = 3) → (0 ≤ (wr (m 246 15)) ∧ (wr (m 246 15)) < 300))) ((if ((wr (m 246 18)) = 0) ∧ (((wr (m 246 17)) = 3) ∧ ((wr (m 249 (wr (m 246 15)))) = (wr 40))) then (Z e d 232 0 [.ref 246, .int (iI (if (wr ((um m 246 19 ((m 246 19) + 1)) 246 19)) ≤ 4 then 1 else 0))] [] (um m 246 19 ((m 246 19) + 1))).bind (ZK e (d + 1) 237 57 [.ref 246, .int (iI x1), u2] [] (um m 246 19 ((m 246 19) + 1))) else (Z e d 230 0 [.ref 246, .ref 10115, .retAddr 0, .retAddr 0] [] m).bind (ZK e (d + 1) 237 90 [.ref 246, .int (iI x1), u2] [] m))) := (s_al_0 p_237_21).trans <| (s_bip p_237_22 rfl).trans <| (s_cv1 (Lc := [.ref 246, .int (iI 40)]) p_237_24 (by decide) (by decide) (zM_of zq_231) ⟨Nat.le_of_ble_eq_true rfl, Nat.le_of_ble_eq_true rfl⟩ rfl (m_rc hs_246 ⟨rfl, by decide⟩)).trans <| (bd b_231_0).trans <| ck_bind.trans <| ck_cg fun _ => ri_k.trans <| Eq.trans ((s_beq_f p_237_27 rfl)) <| ite_cg ((s_al_0 p_237_30).trans <| (s_dup cat_r p_237_31).trans <| (s_get p_237_32 hs_246 (by decide) rfl).trans <| (s_const p_237_35).trans <| (s_iadd p_237_36).trans <| (s_put p_237_37 hs_246 (by decide) rfl).trans <| (s_al_0 p_237_40).trans <| (s_al_0 p_237_41).trans <| (s_get p_237_42 hs_246 (by decide) rfl).trans <| (s_const p_237_45).trans <| Eq.trans (Eq.trans ((s_c_gt_f p_237_46 rfl rfl wl_4)) <| Eq.trans (ite_cg ((s_const p_237_49).trans <| (s_goto p_237_50 rfl).trans <| rfl) ((s_const p_237_53).trans <| rfl)) (phi1 (fun z0 => Z e (d + 1) 237 54 [.ref 246, .int (iI x1), u2] [.int (iI z0), .ref 246] (um m 246 19 ((m 246 19) + 1))))) <| (s_cv1 (Lc := [.ref 246, .int (iI (if (wr ((um m 246 19 ((m 246 19) + 1)) 246 19)) ≤ 4 then 1 else 0))]) p_237_54 (by decide) (by decide) (zM_of zq_232) ⟨Nat.le_of_ble_eq_true rfl, Nat.le_of_ble_eq_true rfl⟩ rfl (m_rc hs_246 ⟨rfl, by decide⟩))) ((s_al_0 p_237_84).trans <| (s_ldcs (k := 10115) p_237_85 rfl).trans <| (s_cv1 (Lc := [.ref 246, .ref 10115, .retAddr 0, .retAddr 0]) p_237_87 (by decide) (by decide) (zM_of zq_230) ⟨Nat.le_of_ble_eq_true rfl, Nat.le_of_ble_eq_true rfl⟩ rfl (m_rc hs_246 ⟨rfl, by decide⟩)))
theorem b_237_57 {x1 : Int} {u2 : Value} : Z e (d + 1) 237 57 [.ref 246, .int (iI x1), u2] [] m = (Z e d 235 0 [.ref 246] [] m).bind (ZK e (d + 1) 237 61 [.ref 246, .int (iI x1), u2] [] m) := (s_al_0 p_237_57).trans <| (s_cv0 (Lc := [.ref 246]) p_237_58 (by decide) (by decide) (zM_of zq_235) ⟨Nat.le_of_ble_eq_true rfl, Nat.le_of_ble_eq_true rfl⟩ rfl (m_rc hs_246 ⟨rfl, by decide⟩))
theorem b_237_61 {x1 : Int} {u2 : Value} : Z e (d + 1) 237 61 [.ref 246, .int (iI x1), u2] [] m = ck (((wr (m 246 18)) = 0) → (((wr (m 246 17)) = 3) → (0 ≤ (wr (m 246 15)) ∧ (wr (m 246 15)) < 300))) ((Z e d 232 0 [.ref 246, .int (iI (if ((wr (m 246 18)) = 0) ∧ (((wr (m 246 17)) = 3) ∧ ((wr (m 249 (wr (m 246 15)))) = (wr 41))) then 1 else 0))] [] m).bind (ZK e (d + 1) 237 71 [.ref 246, .int (iI x1), u2] [] m)) := (s_al_0 p_237_61).trans <| (s_al_0 p_237_62).trans <| (s_bip p_237_63 rfl).trans <| (s_cv1 (Lc := [.ref 246, .int (iI 41)]) p_237_65 (by decide) (by decide) (zM_of zq_231) ⟨Nat.le_of_ble_eq_true rfl, Nat.le_of_ble_eq_true rfl⟩ rfl (m_rc hs_246 ⟨rfl, by decide⟩)).trans <| (bd b_231_0).trans <| ck_bind.trans <| ck_cg fun _ => ri_k.trans <| (s_cv1 (Lc := [.ref 246, .int (iI (if ((wr (m 246 18)) = 0) ∧ (((wr (m 246 17)) = 3) ∧ ((wr (m 249 (wr (m 246 15)))) = (wr 41))) then 1 else 0))]) p_237_68 (by decide) (by decide) (zM_of zq_232) ⟨Nat.le_of_ble_eq_true rfl, Nat.le_of_ble_eq_true rfl⟩ rfl (m_rc hs_246 ⟨rfl, by decide⟩))
theorem b_237_71 {x1 : Int} {u2 : Value} : Z e (d + 1) 237 71 [.ref 246, .int (iI x1), u2] [] m = Z e (d + 1) 237 223 [.ref 246, .int (iI x1), .int (iI 0)] [] (um m 246 19 ((m 246 19) - 1)) := (s_al_0 p_237_71).trans <| (s_dup cat_r p_237_72).trans <| (s_get p_237_73 hs_246 (by decide) rfl).trans <| (s_const p_237_76).trans <| (s_isub p_237_77).trans <| (s_put p_237_78 hs_246 (by decide) rfl).trans <| (s_goto p_237_81 rfl).trans <| (s_const p_237_221).trans <| (s_is_2 cat_i p_237_222).trans <| rfl
theorem b_237_90 {x1 : Int} {xs0 : Int} {u2 : Value} : Z e (d + 1) 237 90 [.ref 246, .int (iI x1), u2] [.int (iI xs0)] m = (if ¬ (wr xs0) = 0 then Z e (d + 1) 237 169 [.ref 246, .int (iI x1), u2] [.int (iI 0)] m else (Z e d 230 0 [.ref 246, .ref 10116, .retAddr 0, .retAddr 0] [] m).bind (ZK e (d + 1) 237 103 [.ref 246, .int (iI x1), u2] [] m)) := Eq.trans ((s_z_eq_f p_237_90 rfl rfl)) <| ite_cg ((s_const p_237_93).trans <| (s_goto p_237_94 rfl).trans <| rfl) ((s_al_0 p_237_97).trans <| (s_ldcs (k := 10116) p_237_98 rfl).trans <| (s_cv1 (Lc := [.ref 246, .ref 10116, .retAddr 0, .retAddr 0]) p_237_100 (by decide) (by decide) (zM_of zq_230) ⟨Nat.le_of_ble_eq_true rfl, Nat.le_of_ble_eq_true rfl⟩ rfl (m_rc hs_246 ⟨rfl, by decide⟩)))
theorem b_237_103 {x1 : Int} {xs0 : Int} {u2 : Value} : Z e (d + 1) 237 103 [.ref 246, .int (iI x1), u2] [.int (iI xs0)] m = (if ¬ (wr xs0) = 0 then Z e (d + 1) 237 169 [.ref 246, .int (iI x1), u2] [.int (iI 1)] m else (Z e d 230 0 [.ref 246, .ref 10117, .retAddr 0, .retAddr 0] [] m).bind (ZK e (d + 1) 237 116 [.ref 246, .int (iI x1), u2] [] m)) := Eq.trans ((s_z_eq_f p_237_103 rfl rfl)) <| ite_cg ((s_const p_237_106).trans <| (s_goto p_237_107 rfl).trans <| rfl) ((s_al_0 p_237_110).trans <| (s_ldcs (k := 10117) p_237_111 rfl).trans <| (s_cv1 (Lc := [.ref 246, .ref 10117, .retAddr 0, .retAddr 0]) p_237_113 (by decide) (by decide) (zM_of zq_230) ⟨Nat.le_of_ble_eq_true rfl, Nat.le_of_ble_eq_true rfl⟩ rfl (m_rc hs_246 ⟨rfl, by decide⟩)))
theorem b_237_116 {x1 : Int} {xs0 : Int} {u2 : Value} : Z e (d + 1) 237 116 [.ref 246, .int (iI x1), u2] [.int (iI xs0)] m = (if ¬ (wr xs0) = 0 then Z e (d + 1) 237 169 [.ref 246, .int (iI x1), u2] [.int (iI 2)] m else (Z e d 230 0 [.ref 246, .ref 10118, .retAddr 0, .retAddr 0] [] m).bind (ZK e (d + 1) 237 129 [.ref 246, .int (iI x1), u2] [] m)) := Eq.trans ((s_z_eq_f p_237_116 rfl rfl)) <| ite_cg ((s_const p_237_119).trans <| (s_goto p_237_120 rfl).trans <| rfl) ((s_al_0 p_237_123).trans <| (s_ldcs (k := 10118) p_237_124 rfl).trans <| (s_cv1 (Lc := [.ref 246, .ref 10118, .retAddr 0, .retAddr 0]) p_237_126 (by decide) (by decide) (zM_of zq_230) ⟨Nat.le_of_ble_eq_true rfl, Nat.le_of_ble_eq_true rfl⟩ rfl (m_rc hs_246 ⟨rfl, by decide⟩)))
theorem b_237_169 {x1 : Int} {xs0 : Int} {u2 : Value} : Z e (d + 1) 237 169 [.ref 246, .int (iI x1), u2] [.int (iI xs0)] m = (Z e d 232 0 [.ref 246, .int (iI (if 0 ≤ (wr xs0) then 1 else 0))] [] m).bind (ZK e (d + 1) 237 183 [.ref 246, .int (iI x1), .int (iI xs0)] [] m) := (s_is_2 cat_i p_237_169).trans <| (s_al_0 p_237_170).trans <| (s_il_2 p_237_171).trans <| Eq.trans (Eq.trans ((s_z_lt_f p_237_172 rfl rfl)) <| Eq.trans (ite_cg ((s_const p_237_175).trans <| (s_goto p_237_176 rfl).trans <| rfl) ((s_const p_237_179).trans <| rfl)) (phi1 (fun z0 => Z e (d + 1) 237 180 [.ref 246, .int (iI x1), .int (iI xs0)] [.int (iI z0), .ref 246] m))) <| (s_cv1 (Lc := [.ref 246, .int (iI (if 0 ≤ (wr xs0) then 1 else 0))]) p_237_180 (by decide) (by decide) (zM_of zq_232) ⟨Nat.le_of_ble_eq_true rfl, Nat.le_of_ble_eq_true rfl⟩ rfl (m_rc hs_246 ⟨rfl, by decide⟩))
theorem b_237_183 {x1 : Int} {x2 : Int} : Z e (d + 1) 237 183 [.ref 246, .int (iI x1), .int (iI x2)] [] m = (if (0 ≤ (wr x2)) ∧ ((wr x2) < 3) then (Z e d 230 0 [.ref 246, .ref 10121, .retAddr 0, .retAddr 0] [] m).bind (ZK e (d + 1) 237 199 [.ref 246, .int (iI x1), .int (iI x2)] [.ref 246] m) else Z e (d + 1) 237 216 [.ref 246, .int (iI x1), .int (iI x2)] [] m) := (s_il_2 p_237_183).trans <| Eq.trans (Eq.trans (s_z_lt_f p_237_184 rfl rfl) <| Eq.trans (ite_cg ((s_il_2 p_237_187).trans <| (s_const p_237_188).trans <| (s_c_ge_f p_237_189 rfl rfl wl_3)) rfl) co_and) <| ite_cg ((s_al_0 p_237_192).trans <| (s_al_0 p_237_193).trans <| (s_ldcs (k := 10121) p_237_194 rfl).trans <| (s_cv1 (Lc := [.ref 246, .ref 10121, .retAddr 0, .retAddr 0]) p_237_196 (by decide) (by decide) (zM_of zq_230) ⟨Nat.le_of_ble_eq_true rfl, Nat.le_of_ble_eq_true rfl⟩ rfl (m_rc hs_246 ⟨rfl, by decide⟩))) (rfl)
theorem b_237_216 {x1 : Int} {x2 : Int} : Z e (d + 1) 237 216 [.ref 246, .int (iI x1), .int (iI x2)] [] m = (Z e d 234 0 [.ref 246, .int (iI x2)] [] m).bind (ZK e (d + 1) 237 221 [.ref 246, .int (iI x1), .int (iI x2)] [] m) := (s_al_0 p_237_216).trans <| (s_il_2 p_237_217).trans <| (s_cv1 (Lc := [.ref 246, .int (iI x2)]) p_237_218 (by decide) (by decide) (zM_of zq_234) ⟨Nat.le_of_ble_eq_true rfl, Nat.le_of_ble_eq_true rfl⟩ rfl (m_rc hs_246 ⟨rfl, by decide⟩))
theorem b_237_223 {x1 : Int} {x2 : Int} : Z e (d + 1) 237 223 [.ref 246, .int (iI x1), .int (iI x2)] [] m = (if (wr x2) < (wr x1) then (Z e d 234 0 [.ref 246, .int (iI 4000)] [] m).bind (ZK e (d + 1) 237 235 [.ref 246, .int (iI x1), .int (iI x2)] [] m) else rn m) := (s_il_2 p_237_223).trans <| (s_il_1 p_237_224).trans <| Eq.trans ((s_c_ge_f p_237_225 rfl rfl rfl)) <| ite_cg ((s_al_0 p_237_228).trans <| (s_sip p_237_229 rfl).trans <| (s_cv1 (Lc := [.ref 246, .int (iI 4000)]) p_237_232 (by decide) (by decide) (zM_of zq_234) ⟨Nat.le_of_ble_eq_true rfl, Nat.le_of_ble_eq_true rfl⟩ rfl (m_rc hs_246 ⟨rfl, by decide⟩))) ((s_retv p_237_241 (zM_of zq_237)))
theorem b_237_235 {x1 : Int} {x2 : Int} : Z e (d + 1) 237 235 [.ref 246, .int (iI x1), .int (iI x2)] [] m = Z e (d + 1) 237 223 [.ref 246, .int (iI x1), .int (iI (x2 + 1))] [] m := (s_inc_2 cat_i p_237_235).trans <| (s_goto p_237_238 rfl).trans <| rfl
theorem b_237_129 {x1 : Int} {xs0 : Int} {u2 : Value} : Z e (d + 1) 237 129 [.ref 246, .int (iI x1), u2] [.int (iI xs0)] m = (if ¬ (wr xs0) = 0 then Z e (d + 1) 237 169 [.ref 246, .int (iI x1), u2] [.int (iI 3000)] m else (Z e d 230 0 [.ref 246, .ref 10119, .retAddr 0, .retAddr 0] [] m).bind (ZK e (d + 1) 237 144 [.ref 246, .int (iI x1), u2] [] m)) := Eq.trans ((s_z_eq_f p_237_129 rfl rfl)) <| ite_cg ((s_sip p_237_132 rfl).trans <| (s_goto p_237_135 rfl).trans <| rfl) ((s_al_0 p_237_138).trans <| (s_ldcs (k := 10119) p_237_139 rfl).trans <| (s_cv1 (Lc := [.ref 246, .ref 10119, .retAddr 0, .retAddr 0]) p_237_141 (by decide) (by decide) (zM_of zq_230) ⟨Nat.le_of_ble_eq_true rfl, Nat.le_of_ble_eq_true rfl⟩ rfl (m_rc hs_246 ⟨rfl, by decide⟩)))
theorem b_237_199 {x1 : Int} {x2 : Int} {xs0 : Int} : Z e (d + 1) 237 199 [.ref 246, .int (iI x1), .int (iI x2)] [.int (iI xs0), .ref 246] m = (Z e d 232 0 [.ref 246, .int (iI xs0)] [] m).bind (ZK e (d + 1) 237 202 [.ref 246, .int (iI x1), .int (iI x2)] [] m) := (s_cv1 (Lc := [.ref 246, .int (iI xs0)]) p_237_199 (by decide) (by decide) (zM_of zq_232) ⟨Nat.le_of_ble_eq_true rfl, Nat.le_of_ble_eq_true rfl⟩ rfl (m_rc hs_246 ⟨rfl, by decide⟩))
theorem b_237_221 {x1 : Int} {u2 : Value} : Z e (d + 1) 237 221 [.ref 246, .int (iI x1), u2] [] m = Z e (d + 1) 237 223 [.ref 246, .int (iI x1), .int (iI 0)] [] m := (s_const p_237_221).trans <| (s_is_2 cat_i p_237_222).trans <| rfl
theorem b_237_144 {x1 : Int} {xs0 : Int} {u2 : Value} : Z e (d + 1) 237 144 [.ref 246, .int (iI x1), u2] [.int (iI xs0)] m = (if ¬ (wr xs0) = 0 then Z e (d + 1) 237 169 [.ref 246, .int (iI x1), u2] [.int (iI 3001)] m else (Z e d 230 0 [.ref 246, .ref 10120, .retAddr 0, .retAddr 0] [] m).bind (ZK e (d + 1) 237 159 [.ref 246, .int (iI x1), u2] [] m)) := Eq.trans ((s_z_eq_f p_237_144 rfl rfl)) <| ite_cg ((s_sip p_237_147 rfl).trans <| (s_goto p_237_150 rfl).trans <| rfl) ((s_al_0 p_237_153).trans <| (s_ldcs (k := 10120) p_237_154 rfl).trans <| (s_cv1 (Lc := [.ref 246, .ref 10120, .retAddr 0, .retAddr 0]) p_237_156 (by decide) (by decide) (zM_of zq_230) ⟨Nat.le_of_ble_eq_true rfl, Nat.le_of_ble_eq_true rfl⟩ rfl (m_rc hs_246 ⟨rfl, by decide⟩)))
theorem b_237_202 {x1 : Int} {x2 : Int} : Z e (d + 1) 237 202 [.ref 246, .int (iI x1), .int (iI x2)] [] m = (Z e d 233 0 [.ref 246, .int (iI 999), .retAddr 0, .retAddr 0, .retAddr 0] [] m).bind (ZK e (d + 1) 237 214 [.ref 246, .int (iI x1), .int (iI x2)] [.int (iI (1000 * x2))] m) := (s_sip p_237_202 rfl).trans <| (s_il_2 p_237_205).trans <| (s_imul p_237_206).trans <| (s_al_0 p_237_207).trans <| (s_sip p_237_208 rfl).trans <| (s_cv1 (Lc := [.ref 246, .int (iI 999), .retAddr 0, .retAddr 0, .retAddr 0]) p_237_211 (by decide) (by decide) (zM_of zq_233) ⟨Nat.le_of_ble_eq_true rfl, Nat.le_of_ble_eq_true rfl⟩ rfl (m_rc hs_246 ⟨rfl, by decide⟩))
theorem b_237_159 {x1 : Int} {xs0 : Int} {u2 : Value} : Z e (d + 1) 237 159 [.ref 246, .int (iI x1), u2] [.int (iI xs0)] m = Z e (d + 1) 237 169 [.ref 246, .int (iI x1), u2] [.int (iI (if ¬ (wr xs0) = 0 then 3002 else (-1)))] m := Eq.trans (Eq.trans ((s_z_eq_f p_237_159 rfl rfl)) <| Eq.trans (ite_cg ((s_sip p_237_162 rfl).trans <| (s_goto p_237_165 rfl).trans <| rfl) ((s_const p_237_168).trans <| rfl)) (phi1 (fun z0 => Z e (d + 1) 237 169 [.ref 246, .int (iI x1), u2] [.int (iI z0)] m))) <| rfl
theorem b_237_214 {x1 : Int} {xs0 : Int} {xs1 : Int} {u2 : Value} : Z e (d + 1) 237 214 [.ref 246, .int (iI x1), u2] [.int (iI xs0), .int (iI xs1)] m = Z e (d + 1) 237 216 [.ref 246, .int (iI x1), .int (iI (xs1 + xs0))] [] m := (s_iadd p_237_214).trans <| (s_is_2 cat_i p_237_215).trans <| rfl
-- M.all
theorem p_236_0 : zP1 236 0 = some (.aload_n 0, 0, 0, 0) := zp_l zq_236 rfl
theorem p_236_1 : zP1 236 1 = some (.invokevirtual 222, 237, 0, 11) := zp_r zq_236 rfl
theorem p_236_4 : zP1 236 4 = some (.aload_n 0, 0, 0, 0) := zp_l zq_236 rfl
theorem p_236_5 : zP1 236 5 = some (.ldc 225, 1, 0, 10122) := zp_r zq_236 rfl
theorem p_236_7 : zP1 236 7 = some (.invokevirtual 215, 230, 1, 11) := zp_r zq_236 rfl
theorem p_236_10 : zP1 236 10 = some (.ifCond .eq 21, 0, 0, 0) := zp_l zq_236 rfl
theorem p_236_13 : zP1 236 13 = some (.aload_n 0, 0, 0, 0) := zp_l zq_236 rfl
theorem p_236_14 : zP1 236 14 = some (.invokevirtual 200, 229, 0, 11) := zp_r zq_236 rfl
theorem p_236_17 : zP1 236 17 = some (.aload_n 0, 0, 0, 0) := zp_l zq_236 rfl
theorem p_236_18 : zP1 236 18 = some (.invokevirtual 222, 237, 0, 11) := zp_r zq_236 rfl
theorem p_236_21 : zP1 236 21 = some (.aload_n 0, 0, 0, 0) := zp_l zq_236 rfl
theorem p_236_22 : zP1 236 22 = some (.sipush 4001, 0, 0, 0) := zp_l zq_236 rfl
theorem p_236_25 : zP1 236 25 = some (.invokevirtual 219, 234, 1, 11) := zp_r zq_236 rfl
theorem p_236_28 : zP1 236 28 = some (.goto (-24), 0, 0, 0) := zp_l zq_236 rfl
theorem p_236_31 : zP1 236 31 = some (.return_, 0, 0, 0) := zp_l zq_236 rfl
theorem b_236_0 : Z e (d + 1) 236 0 [.ref 246] [] m = (Z e d 237 0 [.ref 246, .retAddr 0, .retAddr 0] [] m).bind (ZK e (d + 1) 236 4 [.ref 246] [] m) := (s_al_0 p_236_0).trans <| (s_cv0 (Lc := [.ref 246, .retAddr 0, .retAddr 0]) p_236_1 (by decide) (by decide) (zM_of zq_237) ⟨Nat.le_of_ble_eq_true rfl, Nat.le_of_ble_eq_true rfl⟩ rfl (m_rc hs_246 ⟨rfl, by decide⟩))
theorem b_236_4 : Z e (d + 1) 236 4 [.ref 246] [] m = (Z e d 230 0 [.ref 246, .ref 10122, .retAddr 0, .retAddr 0] [] m).bind (ZK e (d + 1) 236 10 [.ref 246] [] m) := (s_al_0 p_236_4).trans <| (s_ldcs (k := 10122) p_236_5 rfl).trans <| (s_cv1 (Lc := [.ref 246, .ref 10122, .retAddr 0, .retAddr 0]) p_236_7 (by decide) (by decide) (zM_of zq_230) ⟨Nat.le_of_ble_eq_true rfl, Nat.le_of_ble_eq_true rfl⟩ rfl (m_rc hs_246 ⟨rfl, by decide⟩))
theorem b_236_10 {xs0 : Int} : Z e (d + 1) 236 10 [.ref 246] [.int (iI xs0)] m = (if ¬ (wr xs0) = 0 then (Z e d 229 0 [.ref 246] [] m).bind (ZK e (d + 1) 236 17 [.ref 246] [] m) else rn m) := Eq.trans ((s_z_eq_f p_236_10 rfl rfl)) <| ite_cg ((s_al_0 p_236_13).trans <| (s_cv0 (Lc := [.ref 246]) p_236_14 (by decide) (by decide) (zM_of zq_229) ⟨Nat.le_of_ble_eq_true rfl, Nat.le_of_ble_eq_true rfl⟩ rfl (m_rc hs_246 ⟨rfl, by decide⟩))) ((s_retv p_236_31 (zM_of zq_236)))
theorem b_236_17 : Z e (d + 1) 236 17 [.ref 246] [] m = (Z e d 237 0 [.ref 246, .retAddr 0, .retAddr 0] [] m).bind (ZK e (d + 1) 236 21 [.ref 246] [] m) := (s_al_0 p_236_17).trans <| (s_cv0 (Lc := [.ref 246, .retAddr 0, .retAddr 0]) p_236_18 (by decide) (by decide) (zM_of zq_237) ⟨Nat.le_of_ble_eq_true rfl, Nat.le_of_ble_eq_true rfl⟩ rfl (m_rc hs_246 ⟨rfl, by decide⟩))
theorem b_236_21 : Z e (d + 1) 236 21 [.ref 246] [] m = (Z e d 234 0 [.ref 246, .int (iI 4001)] [] m).bind (ZK e (d + 1) 236 28 [.ref 246] [] m) := (s_al_0 p_236_21).trans <| (s_sip p_236_22 rfl).trans <| (s_cv1 (Lc := [.ref 246, .int (iI 4001)]) p_236_25 (by decide) (by decide) (zM_of zq_234) ⟨Nat.le_of_ble_eq_true rfl, Nat.le_of_ble_eq_true rfl⟩ rfl (m_rc hs_246 ⟨rfl, by decide⟩))
theorem b_236_28 : Z e (d + 1) 236 28 [.ref 246] [] m = Z e (d + 1) 236 4 [.ref 246] [] m := (s_goto p_236_28 rfl).trans <| rfl
-- M.either
theorem p_235_0 : zP1 235 0 = some (.aload_n 0, 0, 0, 0) := zp_l zq_235 rfl
theorem p_235_1 : zP1 235 1 = some (.invokevirtual 210, 236, 0, 11) := zp_r zq_235 rfl
theorem p_235_4 : zP1 235 4 = some (.aload_n 0, 0, 0, 0) := zp_l zq_235 rfl
theorem p_235_5 : zP1 235 5 = some (.ldc 213, 1, 0, 10123) := zp_r zq_235 rfl
theorem p_235_7 : zP1 235 7 = some (.invokevirtual 215, 230, 1, 11) := zp_r zq_235 rfl
theorem p_235_10 : zP1 235 10 = some (.ifCond .eq 21, 0, 0, 0) := zp_l zq_235 rfl
theorem p_235_13 : zP1 235 13 = some (.aload_n 0, 0, 0, 0) := zp_l zq_235 rfl
theorem p_235_14 : zP1 235 14 = some (.invokevirtual 200, 229, 0, 11) := zp_r zq_235 rfl
theorem p_235_17 : zP1 235 17 = some (.aload_n 0, 0, 0, 0) := zp_l zq_235 rfl
theorem p_235_18 : zP1 235 18 = some (.invokevirtual 210, 236, 0, 11) := zp_r zq_235 rfl
theorem p_235_21 : zP1 235 21 = some (.aload_n 0, 0, 0, 0) := zp_l zq_235 rfl
theorem p_235_22 : zP1 235 22 = some (.sipush 4002, 0, 0, 0) := zp_l zq_235 rfl
theorem p_235_25 : zP1 235 25 = some (.invokevirtual 219, 234, 1, 11) := zp_r zq_235 rfl
theorem p_235_28 : zP1 235 28 = some (.goto (-24), 0, 0, 0) := zp_l zq_235 rfl
theorem p_235_31 : zP1 235 31 = some (.return_, 0, 0, 0) := zp_l zq_235 rfl
theorem b_235_0 : Z e (d + 1) 235 0 [.ref 246] [] m = (Z e d 236 0 [.ref 246] [] m).bind (ZK e (d + 1) 235 4 [.ref 246] [] m) := (s_al_0 p_235_0).trans <| (s_cv0 (Lc := [.ref 246]) p_235_1 (by decide) (by decide) (zM_of zq_236) ⟨Nat.le_of_ble_eq_true rfl, Nat.le_of_ble_eq_true rfl⟩ rfl (m_rc hs_246 ⟨rfl, by decide⟩))
theorem b_235_4 : Z e (d + 1) 235 4 [.ref 246] [] m = (Z e d 230 0 [.ref 246, .ref 10123, .retAddr 0, .retAddr 0] [] m).bind (ZK e (d + 1) 235 10 [.ref 246] [] m) := (s_al_0 p_235_4).trans <| (s_ldcs (k := 10123) p_235_5 rfl).trans <| (s_cv1 (Lc := [.ref 246, .ref 10123, .retAddr 0, .retAddr 0]) p_235_7 (by decide) (by decide) (zM_of zq_230) ⟨Nat.le_of_ble_eq_true rfl, Nat.le_of_ble_eq_true rfl⟩ rfl (m_rc hs_246 ⟨rfl, by decide⟩))
theorem b_235_10 {xs0 : Int} : Z e (d + 1) 235 10 [.ref 246] [.int (iI xs0)] m = (if ¬ (wr xs0) = 0 then (Z e d 229 0 [.ref 246] [] m).bind (ZK e (d + 1) 235 17 [.ref 246] [] m) else rn m) := Eq.trans ((s_z_eq_f p_235_10 rfl rfl)) <| ite_cg ((s_al_0 p_235_13).trans <| (s_cv0 (Lc := [.ref 246]) p_235_14 (by decide) (by decide) (zM_of zq_229) ⟨Nat.le_of_ble_eq_true rfl, Nat.le_of_ble_eq_true rfl⟩ rfl (m_rc hs_246 ⟨rfl, by decide⟩))) ((s_retv p_235_31 (zM_of zq_235)))
theorem b_235_17 : Z e (d + 1) 235 17 [.ref 246] [] m = (Z e d 236 0 [.ref 246] [] m).bind (ZK e (d + 1) 235 21 [.ref 246] [] m) := (s_al_0 p_235_17).trans <| (s_cv0 (Lc := [.ref 246]) p_235_18 (by decide) (by decide) (zM_of zq_236) ⟨Nat.le_of_ble_eq_true rfl, Nat.le_of_ble_eq_true rfl⟩ rfl (m_rc hs_246 ⟨rfl, by decide⟩))
theorem b_235_21 : Z e (d + 1) 235 21 [.ref 246] [] m = (Z e d 234 0 [.ref 246, .int (iI 4002)] [] m).bind (ZK e (d + 1) 235 28 [.ref 246] [] m) := (s_al_0 p_235_21).trans <| (s_sip p_235_22 rfl).trans <| (s_cv1 (Lc := [.ref 246, .int (iI 4002)]) p_235_25 (by decide) (by decide) (zM_of zq_234) ⟨Nat.le_of_ble_eq_true rfl, Nat.le_of_ble_eq_true rfl⟩ rfl (m_rc hs_246 ⟨rfl, by decide⟩))
theorem b_235_28 : Z e (d + 1) 235 28 [.ref 246] [] m = Z e (d + 1) 235 4 [.ref 246] [] m := (s_goto p_235_28 rfl).trans <| rfl
-- M.kindHere
theorem p_238_0 : zP1 238 0 = some (.iconst 0, 0, 0, 0) := zp_l zq_238 rfl
theorem p_238_1 : zP1 238 1 = some (.istore_n 1, 0, 0, 0) := zp_l zq_238 rfl
theorem p_238_2 : zP1 238 2 = some (.iconst 0, 0, 0, 0) := zp_l zq_238 rfl
theorem p_238_3 : zP1 238 3 = some (.istore_n 2, 0, 0, 0) := zp_l zq_238 rfl
theorem p_238_4 : zP1 238 4 = some (.iload_n 2, 0, 0, 0) := zp_l zq_238 rfl
theorem p_238_5 : zP1 238 5 = some (.bipush 7, 0, 0, 0) := zp_l zq_238 rfl
theorem p_238_7 : zP1 238 7 = some (.if_icmp .ge 32, 0, 0, 0) := zp_l zq_238 rfl
theorem p_238_10 : zP1 238 10 = some (.iload_n 1, 0, 0, 0) := zp_l zq_238 rfl
theorem p_238_11 : zP1 238 11 = some (.aload_n 0, 0, 0, 0) := zp_l zq_238 rfl
theorem p_238_12 : zP1 238 12 = some (.aload_n 0, 0, 0, 0) := zp_l zq_238 rfl
theorem p_238_13 : zP1 238 13 = some (.getfield 66, 11, 24, 0) := zp_r zq_238 rfl
theorem p_238_16 : zP1 238 16 = some (.iload_n 2, 0, 0, 0) := zp_l zq_238 rfl
theorem p_238_17 : zP1 238 17 = some (.aaload, 0, 0, 0) := zp_l zq_238 rfl
theorem p_238_18 : zP1 238 18 = some (.invokevirtual 215, 230, 1, 11) := zp_r zq_238 rfl
theorem p_238_21 : zP1 238 21 = some (.ifCond .eq 9, 0, 0, 0) := zp_l zq_238 rfl
theorem p_238_24 : zP1 238 24 = some (.iconst 1, 0, 0, 0) := zp_l zq_238 rfl
theorem p_238_25 : zP1 238 25 = some (.iload_n 2, 0, 0, 0) := zp_l zq_238 rfl
theorem p_238_26 : zP1 238 26 = some (.ishl, 0, 0, 0) := zp_l zq_238 rfl
theorem p_238_27 : zP1 238 27 = some (.goto 4, 0, 0, 0) := zp_l zq_238 rfl
theorem p_238_30 : zP1 238 30 = some (.iconst 0, 0, 0, 0) := zp_l zq_238 rfl
theorem p_238_31 : zP1 238 31 = some (.ior, 0, 0, 0) := zp_l zq_238 rfl
theorem p_238_32 : zP1 238 32 = some (.istore_n 1, 0, 0, 0) := zp_l zq_238 rfl
theorem p_238_33 : zP1 238 33 = some (.iinc 2 1, 0, 0, 0) := zp_l zq_238 rfl
theorem p_238_36 : zP1 238 36 = some (.goto (-32), 0, 0, 0) := zp_l zq_238 rfl
theorem p_238_39 : zP1 238 39 = some (.iload_n 1, 0, 0, 0) := zp_l zq_238 rfl
theorem p_238_40 : zP1 238 40 = some (.ireturn, 0, 0, 0) := zp_l zq_238 rfl
theorem b_238_0 : Z e (d + 1) 238 0 [.ref 246, .retAddr 0, .retAddr 0] [] m = Z e (d + 1) 238 4 [.ref 246, .int (iI 0), .int (iI 0)] [] m := (s_const p_238_0).trans <| (s_is_1 cat_r p_238_1).trans <| (s_const p_238_2).trans <| (s_is_2 cat_i p_238_3).trans <| rfl
theorem b_238_4 {x1 : Int} {x2 : Int} : Z e (d + 1) 238 4 [.ref 246, .int (iI x1), .int (iI x2)] [] m = (if (wr x2) < 7 then ck (0 ≤ (wr x2) ∧ (wr x2) < 7) ((Z e d 230 0 [.ref 246, .ref (10100 + (wr x2).toNat), .retAddr 0, .retAddr 0] [] m).bind (ZK e (d + 1) 238 21 [.ref 246, .int (iI x1), .int (iI x2)] [.int (iI x1)] m)) else ri x1 m) := (s_il_2 p_238_4).trans <| (s_bip p_238_5 rfl).trans <| Eq.trans ((s_c_ge_f p_238_7 rfl rfl wl_7)) <| ite_cg ((s_il_1 p_238_10).trans <| (s_al_0 p_238_11).trans <| (s_al_0 p_238_12).trans <| (s_getr p_238_13 hs_246 (by decide) rfl).trans <| (s_il_2 p_238_16).trans <| (s_aald 7 p_238_17 hs_257 rfl ⟨by decide, by decide⟩ ar_257).trans <| ck_cg fun k2 => (s_cv1 (Lc := [.ref 246, .ref (10100 + (wr x2).toNat), .retAddr 0, .retAddr 0]) p_238_18 (by decide) (by decide) (zM_of zq_230) ⟨Nat.le_of_ble_eq_true rfl, Nat.le_of_ble_eq_true rfl⟩ rfl (m_rc hs_246 ⟨rfl, by decide⟩))) ((s_il_1 p_238_39).trans <| (s_reti p_238_40 (zM_of zq_238)))
theorem b_238_21 {x2 : Int} {xs0 : Int} {xs1 : Int} {u1 : Value} : Z e (d + 1) 238 21 [.ref 246, u1, .int (iI x2)] [.int (iI xs0), .int (iI xs1)] m = Z e (d + 1) 238 4 [.ref 246, .int (iI (jor xs1 (if ¬ (wr xs0) = 0 then (jshl 1 x2) else 0))), .int (iI (x2 + 1))] [] m := Eq.trans (Eq.trans ((s_z_eq_f p_238_21 rfl rfl)) <| Eq.trans (ite_cg ((s_const p_238_24).trans <| (s_il_2 p_238_25).trans <| (s_ishl p_238_26).trans <| (s_goto p_238_27 rfl).trans <| rfl) ((s_const p_238_30).trans <| rfl)) (phi1 (fun z0 => Z e (d + 1) 238 31 [.ref 246, u1, .int (iI x2)] [.int (iI z0), .int (iI xs1)] m))) <| (s_ior p_238_31).trans <| (s_is_1 cat_r p_238_32).trans <| (s_inc_2 cat_i p_238_33).trans <| (s_goto p_238_36 rfl).trans <| rfl
-- M.cond
theorem p_239_0 : zP1 239 0 = some (.aload_n 0, 0, 0, 0) := zp_l zq_239 rfl
theorem p_239_1 : zP1 239 1 = some (.getfield 44, 11, 22, 0) := zp_r zq_239 rfl
theorem p_239_4 : zP1 239 4 = some (.iload_n 1, 0, 0, 0) := zp_l zq_239 rfl
theorem p_239_5 : zP1 239 5 = some (.iconst 2, 0, 0, 0) := zp_l zq_239 rfl
theorem p_239_6 : zP1 239 6 = some (.iadd, 0, 0, 0) := zp_l zq_239 rfl
theorem p_239_7 : zP1 239 7 = some (.aload_n 0, 0, 0, 0) := zp_l zq_239 rfl
theorem p_239_8 : zP1 239 8 = some (.getfield 207, 11, 20, 0) := zp_r zq_239 rfl
theorem p_239_11 : zP1 239 11 = some (.iastore, 0, 0, 0) := zp_l zq_239 rfl
theorem p_239_12 : zP1 239 12 = some (.aload_n 0, 0, 0, 0) := zp_l zq_239 rfl
theorem p_239_13 : zP1 239 13 = some (.ldc 255, 1, 0, 10113) := zp_r zq_239 rfl
theorem p_239_15 : zP1 239 15 = some (.invokevirtual 215, 230, 1, 11) := zp_r zq_239 rfl
theorem p_239_18 : zP1 239 18 = some (.ifCond .eq 11, 0, 0, 0) := zp_l zq_239 rfl
theorem p_239_21 : zP1 239 21 = some (.aload_n 0, 0, 0, 0) := zp_l zq_239 rfl
theorem p_239_22 : zP1 239 22 = some (.invokevirtual 200, 229, 0, 11) := zp_r zq_239 rfl
theorem p_239_25 : zP1 239 25 = some (.aload_n 0, 0, 0, 0) := zp_l zq_239 rfl
theorem p_239_26 : zP1 239 26 = some (.invokevirtual 235, 235, 0, 11) := zp_r zq_239 rfl
theorem p_239_29 : zP1 239 29 = some (.aload_n 0, 0, 0, 0) := zp_l zq_239 rfl
theorem p_239_30 : zP1 239 30 = some (.getfield 44, 11, 22, 0) := zp_r zq_239 rfl
theorem p_239_33 : zP1 239 33 = some (.iload_n 1, 0, 0, 0) := zp_l zq_239 rfl
theorem p_239_34 : zP1 239 34 = some (.iconst 3, 0, 0, 0) := zp_l zq_239 rfl
theorem p_239_35 : zP1 239 35 = some (.iadd, 0, 0, 0) := zp_l zq_239 rfl
theorem p_239_36 : zP1 239 36 = some (.aload_n 0, 0, 0, 0) := zp_l zq_239 rfl
theorem p_239_37 : zP1 239 37 = some (.getfield 207, 11, 20, 0) := zp_r zq_239 rfl
theorem p_239_40 : zP1 239 40 = some (.iastore, 0, 0, 0) := zp_l zq_239 rfl
theorem p_239_41 : zP1 239 41 = some (.return_, 0, 0, 0) := zp_l zq_239 rfl
theorem b_239_0 {x1 : Int} : Z e (d + 1) 239 0 [.ref 246, .int (iI x1)] [] m = ck (0 ≤ (wr (x1 + 2)) ∧ (wr (x1 + 2)) < 40) ((Z e d 230 0 [.ref 246, .ref 10113, .retAddr 0, .retAddr 0] [] (um m 255 (wr (x1 + 2)) (m 246 20))).bind (ZK e (d + 1) 239 18 [.ref 246, .int (iI x1)] [] (um m 255 (wr (x1 + 2)) (m 246 20)))) := (s_al_0 p_239_0).trans <| (s_getr p_239_1 hs_246 (by decide) rfl).trans <| (s_il_1 p_239_4).trans <| (s_const p_239_5).trans <| (s_iadd p_239_6).trans <| (s_al_0 p_239_7).trans <| (s_get p_239_8 hs_246 (by decide) rfl).trans <| (s_ast 40 p_239_11 hs_255 rfl).trans <| ck_cg fun k1 => (s_al_0 p_239_12).trans <| (s_ldcs (k := 10113) p_239_13 rfl).trans <| (s_cv1 (Lc := [.ref 246, .ref 10113, .retAddr 0, .retAddr 0]) p_239_15 (by decide) (by decide) (zM_of zq_230) ⟨Nat.le_of_ble_eq_true rfl, Nat.le_of_ble_eq_true rfl⟩ rfl (m_rc hs_246 ⟨rfl, by decide⟩))
theorem b_239_18 {x1 : Int} {xs0 : Int} : Z e (d + 1) 239 18 [.ref 246, .int (iI x1)] [.int (iI xs0)] m = (if ¬ (wr xs0) = 0 then (Z e d 229 0 [.ref 246] [] m).bind (ZK e (d + 1) 239 25 [.ref 246, .int (iI x1)] [] m) else ck (0 ≤ (wr (x1 + 3)) ∧ (wr (x1 + 3)) < 40) (rn (um m 255 (wr (x1 + 3)) (m 246 20)))) := Eq.trans ((s_z_eq_f p_239_18 rfl rfl)) <| ite_cg ((s_al_0 p_239_21).trans <| (s_cv0 (Lc := [.ref 246]) p_239_22 (by decide) (by decide) (zM_of zq_229) ⟨Nat.le_of_ble_eq_true rfl, Nat.le_of_ble_eq_true rfl⟩ rfl (m_rc hs_246 ⟨rfl, by decide⟩))) ((s_al_0 p_239_29).trans <| (s_getr p_239_30 hs_246 (by decide) rfl).trans <| (s_il_1 p_239_33).trans <| (s_const p_239_34).trans <| (s_iadd p_239_35).trans <| (s_al_0 p_239_36).trans <| (s_get p_239_37 hs_246 (by decide) rfl).trans <| (s_ast 40 p_239_40 hs_255 rfl).trans <| ck_cg fun k1 => (s_retv p_239_41 (zM_of zq_239)))
theorem b_239_25 {x1 : Int} : Z e (d + 1) 239 25 [.ref 246, .int (iI x1)] [] m = (Z e d 235 0 [.ref 246] [] m).bind (ZK e (d + 1) 239 29 [.ref 246, .int (iI x1)] [] m) := (s_al_0 p_239_25).trans <| (s_cv0 (Lc := [.ref 246]) p_239_26 (by decide) (by decide) (zM_of zq_235) ⟨Nat.le_of_ble_eq_true rfl, Nat.le_of_ble_eq_true rfl⟩ rfl (m_rc hs_246 ⟨rfl, by decide⟩))
theorem b_239_29 {x1 : Int} : Z e (d + 1) 239 29 [.ref 246, .int (iI x1)] [] m = ck (0 ≤ (wr (x1 + 3)) ∧ (wr (x1 + 3)) < 40) (rn (um m 255 (wr (x1 + 3)) (m 246 20))) := (s_al_0 p_239_29).trans <| (s_getr p_239_30 hs_246 (by decide) rfl).trans <| (s_il_1 p_239_33).trans <| (s_const p_239_34).trans <| (s_iadd p_239_35).trans <| (s_al_0 p_239_36).trans <| (s_get p_239_37 hs_246 (by decide) rfl).trans <| (s_ast 40 p_239_40 hs_255 rfl).trans <| ck_cg fun k1 => (s_retv p_239_41 (zM_of zq_239))
-- M.lineAt
theorem p_240_0 : zP1 240 0 = some (.aload_n 0, 0, 0, 0) := zp_l zq_240 rfl
theorem p_240_1 : zP1 240 1 = some (.getfield 44, 11, 22, 0) := zp_r zq_240 rfl
theorem p_240_4 : zP1 240 4 = some (.iload_n 1, 0, 0, 0) := zp_l zq_240 rfl
theorem p_240_5 : zP1 240 5 = some (.iconst 2, 0, 0, 0) := zp_l zq_240 rfl
theorem p_240_6 : zP1 240 6 = some (.iadd, 0, 0, 0) := zp_l zq_240 rfl
theorem p_240_7 : zP1 240 7 = some (.aload_n 0, 0, 0, 0) := zp_l zq_240 rfl
theorem p_240_8 : zP1 240 8 = some (.getfield 207, 11, 20, 0) := zp_r zq_240 rfl
theorem p_240_11 : zP1 240 11 = some (.iastore, 0, 0, 0) := zp_l zq_240 rfl
theorem p_240_12 : zP1 240 12 = some (.aload_n 0, 0, 0, 0) := zp_l zq_240 rfl
theorem p_240_13 : zP1 240 13 = some (.getfield 44, 11, 22, 0) := zp_r zq_240 rfl
theorem p_240_16 : zP1 240 16 = some (.iload_n 1, 0, 0, 0) := zp_l zq_240 rfl
theorem p_240_17 : zP1 240 17 = some (.iconst 3, 0, 0, 0) := zp_l zq_240 rfl
theorem p_240_18 : zP1 240 18 = some (.iadd, 0, 0, 0) := zp_l zq_240 rfl
theorem p_240_19 : zP1 240 19 = some (.aload_n 0, 0, 0, 0) := zp_l zq_240 rfl
theorem p_240_20 : zP1 240 20 = some (.getfield 207, 11, 20, 0) := zp_r zq_240 rfl
theorem p_240_23 : zP1 240 23 = some (.iastore, 0, 0, 0) := zp_l zq_240 rfl
theorem p_240_24 : zP1 240 24 = some (.aload_n 0, 0, 0, 0) := zp_l zq_240 rfl
theorem p_240_25 : zP1 240 25 = some (.getfield 44, 11, 22, 0) := zp_r zq_240 rfl
theorem p_240_28 : zP1 240 28 = some (.iload_n 1, 0, 0, 0) := zp_l zq_240 rfl
theorem p_240_29 : zP1 240 29 = some (.iconst 1, 0, 0, 0) := zp_l zq_240 rfl
theorem p_240_30 : zP1 240 30 = some (.iadd, 0, 0, 0) := zp_l zq_240 rfl
theorem p_240_31 : zP1 240 31 = some (.iconst 0, 0, 0, 0) := zp_l zq_240 rfl
theorem p_240_32 : zP1 240 32 = some (.iastore, 0, 0, 0) := zp_l zq_240 rfl
theorem p_240_33 : zP1 240 33 = some (.aload_n 0, 0, 0, 0) := zp_l zq_240 rfl
theorem p_240_34 : zP1 240 34 = some (.ldc_w 257, 1, 0, 10107) := zp_r zq_240 rfl
theorem p_240_37 : zP1 240 37 = some (.invokevirtual 215, 230, 1, 11) := zp_r zq_240 rfl
theorem p_240_40 : zP1 240 40 = some (.ifCond .eq 31, 0, 0, 0) := zp_l zq_240 rfl
theorem p_240_43 : zP1 240 43 = some (.aload_n 0, 0, 0, 0) := zp_l zq_240 rfl
theorem p_240_44 : zP1 240 44 = some (.invokevirtual 200, 229, 0, 11) := zp_r zq_240 rfl
theorem p_240_47 : zP1 240 47 = some (.aload_n 0, 0, 0, 0) := zp_l zq_240 rfl
theorem p_240_48 : zP1 240 48 = some (.getfield 44, 11, 22, 0) := zp_r zq_240 rfl
theorem p_240_51 : zP1 240 51 = some (.iload_n 1, 0, 0, 0) := zp_l zq_240 rfl
theorem p_240_52 : zP1 240 52 = some (.iconst 0, 0, 0, 0) := zp_l zq_240 rfl
theorem p_240_53 : zP1 240 53 = some (.iastore, 0, 0, 0) := zp_l zq_240 rfl
theorem p_240_54 : zP1 240 54 = some (.aload_n 0, 0, 0, 0) := zp_l zq_240 rfl
theorem p_240_55 : zP1 240 55 = some (.getfield 44, 11, 22, 0) := zp_r zq_240 rfl
theorem p_240_58 : zP1 240 58 = some (.iload_n 1, 0, 0, 0) := zp_l zq_240 rfl
theorem p_240_59 : zP1 240 59 = some (.iconst 1, 0, 0, 0) := zp_l zq_240 rfl
theorem p_240_60 : zP1 240 60 = some (.iadd, 0, 0, 0) := zp_l zq_240 rfl
theorem p_240_61 : zP1 240 61 = some (.aload_n 0, 0, 0, 0) := zp_l zq_240 rfl
theorem p_240_62 : zP1 240 62 = some (.bipush 18, 0, 0, 0) := zp_l zq_240 rfl
theorem p_240_64 : zP1 240 64 = some (.invokevirtual 252, 233, 1, 11) := zp_r zq_240 rfl
theorem p_240_67 : zP1 240 67 = some (.iastore, 0, 0, 0) := zp_l zq_240 rfl
theorem p_240_68 : zP1 240 68 = some (.goto 274, 0, 0, 0) := zp_l zq_240 rfl
theorem p_240_71 : zP1 240 71 = some (.aload_n 0, 0, 0, 0) := zp_l zq_240 rfl
theorem p_240_72 : zP1 240 72 = some (.ldc_w 259, 1, 0, 10108) := zp_r zq_240 rfl
theorem p_240_75 : zP1 240 75 = some (.invokevirtual 215, 230, 1, 11) := zp_r zq_240 rfl
theorem p_240_78 : zP1 240 78 = some (.ifCond .eq 32, 0, 0, 0) := zp_l zq_240 rfl
theorem p_240_81 : zP1 240 81 = some (.aload_n 0, 0, 0, 0) := zp_l zq_240 rfl
theorem p_240_82 : zP1 240 82 = some (.invokevirtual 200, 229, 0, 11) := zp_r zq_240 rfl
theorem p_240_85 : zP1 240 85 = some (.aload_n 0, 0, 0, 0) := zp_l zq_240 rfl
theorem p_240_86 : zP1 240 86 = some (.getfield 44, 11, 22, 0) := zp_r zq_240 rfl
theorem p_240_89 : zP1 240 89 = some (.iload_n 1, 0, 0, 0) := zp_l zq_240 rfl
theorem p_240_90 : zP1 240 90 = some (.iconst 3, 0, 0, 0) := zp_l zq_240 rfl
theorem p_240_91 : zP1 240 91 = some (.iastore, 0, 0, 0) := zp_l zq_240 rfl
theorem p_240_92 : zP1 240 92 = some (.aload_n 0, 0, 0, 0) := zp_l zq_240 rfl
theorem p_240_93 : zP1 240 93 = some (.getfield 44, 11, 22, 0) := zp_r zq_240 rfl
theorem p_240_96 : zP1 240 96 = some (.iload_n 1, 0, 0, 0) := zp_l zq_240 rfl
theorem p_240_97 : zP1 240 97 = some (.iconst 1, 0, 0, 0) := zp_l zq_240 rfl
theorem p_240_98 : zP1 240 98 = some (.iadd, 0, 0, 0) := zp_l zq_240 rfl
theorem p_240_99 : zP1 240 99 = some (.aload_n 0, 0, 0, 0) := zp_l zq_240 rfl
theorem p_240_100 : zP1 240 100 = some (.sipush 999, 0, 0, 0) := zp_l zq_240 rfl
theorem p_240_103 : zP1 240 103 = some (.invokevirtual 252, 233, 1, 11) := zp_r zq_240 rfl
theorem p_240_106 : zP1 240 106 = some (.iastore, 0, 0, 0) := zp_l zq_240 rfl
theorem p_240_107 : zP1 240 107 = some (.goto 235, 0, 0, 0) := zp_l zq_240 rfl
theorem p_240_110 : zP1 240 110 = some (.aload_n 0, 0, 0, 0) := zp_l zq_240 rfl
theorem p_240_111 : zP1 240 111 = some (.ldc_w 261, 1, 0, 10109) := zp_r zq_240 rfl
theorem p_240_114 : zP1 240 114 = some (.invokevirtual 215, 230, 1, 11) := zp_r zq_240 rfl
theorem p_240_117 : zP1 240 117 = some (.ifCond .eq 60, 0, 0, 0) := zp_l zq_240 rfl
theorem p_240_120 : zP1 240 120 = some (.aload_n 0, 0, 0, 0) := zp_l zq_240 rfl
theorem p_240_121 : zP1 240 121 = some (.invokevirtual 200, 229, 0, 11) := zp_r zq_240 rfl
theorem p_240_124 : zP1 240 124 = some (.aload_n 0, 0, 0, 0) := zp_l zq_240 rfl
theorem p_240_125 : zP1 240 125 = some (.getfield 44, 11, 22, 0) := zp_r zq_240 rfl
theorem p_240_128 : zP1 240 128 = some (.iload_n 1, 0, 0, 0) := zp_l zq_240 rfl
theorem p_240_129 : zP1 240 129 = some (.aload_n 0, 0, 0, 0) := zp_l zq_240 rfl
theorem p_240_130 : zP1 240 130 = some (.ldc_w 263, 1, 0, 10110) := zp_r zq_240 rfl
theorem p_240_133 : zP1 240 133 = some (.invokevirtual 215, 230, 1, 11) := zp_r zq_240 rfl
theorem p_240_136 : zP1 240 136 = some (.ifCond .eq 7, 0, 0, 0) := zp_l zq_240 rfl
theorem p_240_139 : zP1 240 139 = some (.iconst 1, 0, 0, 0) := zp_l zq_240 rfl
theorem p_240_140 : zP1 240 140 = some (.goto 4, 0, 0, 0) := zp_l zq_240 rfl
theorem p_240_143 : zP1 240 143 = some (.iconst 2, 0, 0, 0) := zp_l zq_240 rfl
theorem p_240_144 : zP1 240 144 = some (.iastore, 0, 0, 0) := zp_l zq_240 rfl
theorem p_240_145 : zP1 240 145 = some (.aload_n 0, 0, 0, 0) := zp_l zq_240 rfl
theorem p_240_146 : zP1 240 146 = some (.aload_n 0, 0, 0, 0) := zp_l zq_240 rfl
theorem p_240_147 : zP1 240 147 = some (.ldc_w 263, 1, 0, 10110) := zp_r zq_240 rfl
theorem p_240_150 : zP1 240 150 = some (.invokevirtual 215, 230, 1, 11) := zp_r zq_240 rfl
theorem p_240_153 : zP1 240 153 = some (.ifCond .ne 13, 0, 0, 0) := zp_l zq_240 rfl
theorem p_240_156 : zP1 240 156 = some (.aload_n 0, 0, 0, 0) := zp_l zq_240 rfl
theorem p_240_157 : zP1 240 157 = some (.ldc_w 265, 1, 0, 10111) := zp_r zq_240 rfl
theorem p_240_160 : zP1 240 160 = some (.invokevirtual 215, 230, 1, 11) := zp_r zq_240 rfl
theorem p_240_163 : zP1 240 163 = some (.ifCond .eq 7, 0, 0, 0) := zp_l zq_240 rfl
theorem p_240_166 : zP1 240 166 = some (.iconst 1, 0, 0, 0) := zp_l zq_240 rfl
theorem p_240_167 : zP1 240 167 = some (.goto 4, 0, 0, 0) := zp_l zq_240 rfl
theorem p_240_170 : zP1 240 170 = some (.iconst 0, 0, 0, 0) := zp_l zq_240 rfl
theorem p_240_171 : zP1 240 171 = some (.invokevirtual 203, 232, 1, 11) := zp_r zq_240 rfl
theorem p_240_174 : zP1 240 174 = some (.goto 168, 0, 0, 0) := zp_l zq_240 rfl
theorem p_240_177 : zP1 240 177 = some (.aload_n 0, 0, 0, 0) := zp_l zq_240 rfl
theorem p_240_178 : zP1 240 178 = some (.ldc_w 267, 1, 0, 10112) := zp_r zq_240 rfl
theorem p_240_181 : zP1 240 181 = some (.invokevirtual 215, 230, 1, 11) := zp_r zq_240 rfl
theorem p_240_184 : zP1 240 184 = some (.ifCond .eq 37, 0, 0, 0) := zp_l zq_240 rfl
theorem p_240_187 : zP1 240 187 = some (.aload_n 0, 0, 0, 0) := zp_l zq_240 rfl
theorem p_240_188 : zP1 240 188 = some (.invokevirtual 200, 229, 0, 11) := zp_r zq_240 rfl
theorem p_240_191 : zP1 240 191 = some (.aload_n 0, 0, 0, 0) := zp_l zq_240 rfl
theorem p_240_192 : zP1 240 192 = some (.getfield 44, 11, 22, 0) := zp_r zq_240 rfl
theorem p_240_195 : zP1 240 195 = some (.iload_n 1, 0, 0, 0) := zp_l zq_240 rfl
theorem p_240_196 : zP1 240 196 = some (.iconst 4, 0, 0, 0) := zp_l zq_240 rfl
theorem p_240_197 : zP1 240 197 = some (.iastore, 0, 0, 0) := zp_l zq_240 rfl
theorem p_240_198 : zP1 240 198 = some (.aload_n 0, 0, 0, 0) := zp_l zq_240 rfl
theorem p_240_199 : zP1 240 199 = some (.getfield 44, 11, 22, 0) := zp_r zq_240 rfl
theorem p_240_202 : zP1 240 202 = some (.iload_n 1, 0, 0, 0) := zp_l zq_240 rfl
theorem p_240_203 : zP1 240 203 = some (.iconst 1, 0, 0, 0) := zp_l zq_240 rfl
theorem p_240_204 : zP1 240 204 = some (.iadd, 0, 0, 0) := zp_l zq_240 rfl
theorem p_240_205 : zP1 240 205 = some (.aload_n 0, 0, 0, 0) := zp_l zq_240 rfl
theorem p_240_206 : zP1 240 206 = some (.sipush 999, 0, 0, 0) := zp_l zq_240 rfl
theorem p_240_209 : zP1 240 209 = some (.invokevirtual 252, 233, 1, 11) := zp_r zq_240 rfl
theorem p_240_212 : zP1 240 212 = some (.iastore, 0, 0, 0) := zp_l zq_240 rfl
theorem p_240_213 : zP1 240 213 = some (.aload_n 0, 0, 0, 0) := zp_l zq_240 rfl
theorem p_240_214 : zP1 240 214 = some (.iload_n 1, 0, 0, 0) := zp_l zq_240 rfl
theorem p_240_215 : zP1 240 215 = some (.invokevirtual 269, 239, 1, 11) := zp_r zq_240 rfl
theorem p_240_218 : zP1 240 218 = some (.goto 124, 0, 0, 0) := zp_l zq_240 rfl
theorem p_240_221 : zP1 240 221 = some (.aload_n 0, 0, 0, 0) := zp_l zq_240 rfl
theorem p_240_222 : zP1 240 222 = some (.invokevirtual 272, 238, 0, 11) := zp_r zq_240 rfl
theorem p_240_225 : zP1 240 225 = some (.istore_n 2, 0, 0, 0) := zp_l zq_240 rfl
theorem p_240_226 : zP1 240 226 = some (.aload_n 0, 0, 0, 0) := zp_l zq_240 rfl
theorem p_240_227 : zP1 240 227 = some (.iload_n 2, 0, 0, 0) := zp_l zq_240 rfl
theorem p_240_228 : zP1 240 228 = some (.ifCond .le 7, 0, 0, 0) := zp_l zq_240 rfl
theorem p_240_231 : zP1 240 231 = some (.iconst 1, 0, 0, 0) := zp_l zq_240 rfl
theorem p_240_232 : zP1 240 232 = some (.goto 4, 0, 0, 0) := zp_l zq_240 rfl
theorem p_240_235 : zP1 240 235 = some (.iconst 0, 0, 0, 0) := zp_l zq_240 rfl
theorem p_240_236 : zP1 240 236 = some (.invokevirtual 203, 232, 1, 11) := zp_r zq_240 rfl
theorem p_240_239 : zP1 240 239 = some (.aload_n 0, 0, 0, 0) := zp_l zq_240 rfl
theorem p_240_240 : zP1 240 240 = some (.ldc 225, 1, 0, 10122) := zp_r zq_240 rfl
theorem p_240_242 : zP1 240 242 = some (.invokevirtual 215, 230, 1, 11) := zp_r zq_240 rfl
theorem p_240_245 : zP1 240 245 = some (.ifCond .eq 32, 0, 0, 0) := zp_l zq_240 rfl
theorem p_240_248 : zP1 240 248 = some (.aload_n 0, 0, 0, 0) := zp_l zq_240 rfl
theorem p_240_249 : zP1 240 249 = some (.invokevirtual 200, 229, 0, 11) := zp_r zq_240 rfl
theorem p_240_252 : zP1 240 252 = some (.aload_n 0, 0, 0, 0) := zp_l zq_240 rfl
theorem p_240_253 : zP1 240 253 = some (.invokevirtual 272, 238, 0, 11) := zp_r zq_240 rfl
theorem p_240_256 : zP1 240 256 = some (.istore_n 3, 0, 0, 0) := zp_l zq_240 rfl
theorem p_240_257 : zP1 240 257 = some (.iload_n 2, 0, 0, 0) := zp_l zq_240 rfl
theorem p_240_258 : zP1 240 258 = some (.iload_n 3, 0, 0, 0) := zp_l zq_240 rfl
theorem p_240_259 : zP1 240 259 = some (.ior, 0, 0, 0) := zp_l zq_240 rfl
theorem p_240_260 : zP1 240 260 = some (.istore_n 2, 0, 0, 0) := zp_l zq_240 rfl
theorem p_240_261 : zP1 240 261 = some (.aload_n 0, 0, 0, 0) := zp_l zq_240 rfl
theorem p_240_262 : zP1 240 262 = some (.iload_n 3, 0, 0, 0) := zp_l zq_240 rfl
theorem p_240_263 : zP1 240 263 = some (.ifCond .le 7, 0, 0, 0) := zp_l zq_240 rfl
theorem p_240_266 : zP1 240 266 = some (.iconst 1, 0, 0, 0) := zp_l zq_240 rfl
theorem p_240_267 : zP1 240 267 = some (.goto 4, 0, 0, 0) := zp_l zq_240 rfl
theorem p_240_270 : zP1 240 270 = some (.iconst 0, 0, 0, 0) := zp_l zq_240 rfl
theorem p_240_271 : zP1 240 271 = some (.invokevirtual 203, 232, 1, 11) := zp_r zq_240 rfl
theorem p_240_274 : zP1 240 274 = some (.goto (-35), 0, 0, 0) := zp_l zq_240 rfl
theorem p_240_277 : zP1 240 277 = some (.aload_n 0, 0, 0, 0) := zp_l zq_240 rfl
theorem p_240_278 : zP1 240 278 = some (.getfield 44, 11, 22, 0) := zp_r zq_240 rfl
theorem p_240_281 : zP1 240 281 = some (.iload_n 1, 0, 0, 0) := zp_l zq_240 rfl
theorem p_240_282 : zP1 240 282 = some (.aload_n 0, 0, 0, 0) := zp_l zq_240 rfl
theorem p_240_283 : zP1 240 283 = some (.ldc_w 275, 1, 0, 10124) := zp_r zq_240 rfl
theorem p_240_286 : zP1 240 286 = some (.invokevirtual 215, 230, 1, 11) := zp_r zq_240 rfl
theorem p_240_289 : zP1 240 289 = some (.ifCond .eq 7, 0, 0, 0) := zp_l zq_240 rfl
theorem p_240_292 : zP1 240 292 = some (.iconst 5, 0, 0, 0) := zp_l zq_240 rfl
theorem p_240_293 : zP1 240 293 = some (.goto 5, 0, 0, 0) := zp_l zq_240 rfl
theorem p_240_296 : zP1 240 296 = some (.bipush 6, 0, 0, 0) := zp_l zq_240 rfl
theorem p_240_298 : zP1 240 298 = some (.iastore, 0, 0, 0) := zp_l zq_240 rfl
theorem p_240_299 : zP1 240 299 = some (.aload_n 0, 0, 0, 0) := zp_l zq_240 rfl
theorem p_240_300 : zP1 240 300 = some (.getfield 44, 11, 22, 0) := zp_r zq_240 rfl
theorem p_240_303 : zP1 240 303 = some (.iload_n 1, 0, 0, 0) := zp_l zq_240 rfl
theorem p_240_304 : zP1 240 304 = some (.iconst 1, 0, 0, 0) := zp_l zq_240 rfl
theorem p_240_305 : zP1 240 305 = some (.iadd, 0, 0, 0) := zp_l zq_240 rfl
theorem p_240_306 : zP1 240 306 = some (.iload_n 2, 0, 0, 0) := zp_l zq_240 rfl
theorem p_240_307 : zP1 240 307 = some (.iastore, 0, 0, 0) := zp_l zq_240 rfl
theorem p_240_308 : zP1 240 308 = some (.aload_n 0, 0, 0, 0) := zp_l zq_240 rfl
theorem p_240_309 : zP1 240 309 = some (.aload_n 0, 0, 0, 0) := zp_l zq_240 rfl
theorem p_240_310 : zP1 240 310 = some (.ldc_w 275, 1, 0, 10124) := zp_r zq_240 rfl
theorem p_240_313 : zP1 240 313 = some (.invokevirtual 215, 230, 1, 11) := zp_r zq_240 rfl
theorem p_240_316 : zP1 240 316 = some (.ifCond .ne 13, 0, 0, 0) := zp_l zq_240 rfl
theorem p_240_319 : zP1 240 319 = some (.aload_n 0, 0, 0, 0) := zp_l zq_240 rfl
theorem p_240_320 : zP1 240 320 = some (.ldc_w 277, 1, 0, 10125) := zp_r zq_240 rfl
theorem p_240_323 : zP1 240 323 = some (.invokevirtual 215, 230, 1, 11) := zp_r zq_240 rfl
theorem p_240_326 : zP1 240 326 = some (.ifCond .eq 7, 0, 0, 0) := zp_l zq_240 rfl
theorem p_240_329 : zP1 240 329 = some (.iconst 1, 0, 0, 0) := zp_l zq_240 rfl
theorem p_240_330 : zP1 240 330 = some (.goto 4, 0, 0, 0) := zp_l zq_240 rfl
theorem p_240_333 : zP1 240 333 = some (.iconst 0, 0, 0, 0) := zp_l zq_240 rfl
theorem p_240_334 : zP1 240 334 = some (.invokevirtual 203, 232, 1, 11) := zp_r zq_240 rfl
theorem p_240_337 : zP1 240 337 = some (.aload_n 0, 0, 0, 0) := zp_l zq_240 rfl
theorem p_240_338 : zP1 240 338 = some (.iload_n 1, 0, 0, 0) := zp_l zq_240 rfl
theorem p_240_339 : zP1 240 339 = some (.invokevirtual 269, 239, 1, 11) := zp_r zq_240 rfl
theorem p_240_342 : zP1 240 342 = some (.aload_n 0, 0, 0, 0) := zp_l zq_240 rfl
theorem p_240_343 : zP1 240 343 = some (.aload_n 0, 0, 0, 0) := zp_l zq_240 rfl
theorem p_240_344 : zP1 240 344 = some (.bipush 59, 0, 0, 0) := zp_l zq_240 rfl
theorem p_240_346 : zP1 240 346 = some (.invokevirtual 229, 231, 1, 11) := zp_r zq_240 rfl
theorem p_240_349 : zP1 240 349 = some (.invokevirtual 203, 232, 1, 11) := zp_r zq_240 rfl
theorem p_240_352 : zP1 240 352 = some (.return_, 0, 0, 0) := zp_l zq_240 rfl
theorem b_240_0 {x1 : Int} : Z e (d + 1) 240 0 [.ref 246, .int (iI x1), .retAddr 0, .retAddr 0] [] m = ck (0 ≤ (wr (x1 + 2)) ∧ (wr (x1 + 2)) < 40) (ck (0 ≤ (wr (x1 + 3)) ∧ (wr (x1 + 3)) < 40) (ck (0 ≤ (wr (x1 + 1)) ∧ (wr (x1 + 1)) < 40) ((Z e d 230 0 [.ref 246, .ref 10107, .retAddr 0, .retAddr 0] [] (um (um (um m 255 (wr (x1 + 2)) (m 246 20)) 255 (wr (x1 + 3)) ((um m 255 (wr (x1 + 2)) (m 246 20)) 246 20)) 255 (wr (x1 + 1)) 0)).bind (ZK e (d + 1) 240 40 [.ref 246, .int (iI x1), .retAddr 0, .retAddr 0] [] (um (um (um m 255 (wr (x1 + 2)) (m 246 20)) 255 (wr (x1 + 3)) ((um m 255 (wr (x1 + 2)) (m 246 20)) 246 20)) 255 (wr (x1 + 1)) 0))))) := (s_al_0 p_240_0).trans <| (s_getr p_240_1 hs_246 (by decide) rfl).trans <| (s_il_1 p_240_4).trans <| (s_const p_240_5).trans <| (s_iadd p_240_6).trans <| (s_al_0 p_240_7).trans <| (s_get p_240_8 hs_246 (by decide) rfl).trans <| (s_ast 40 p_240_11 hs_255 rfl).trans <| ck_cg fun k1 => (s_al_0 p_240_12).trans <| (s_getr p_240_13 hs_246 (by decide) rfl).trans <| (s_il_1 p_240_16).trans <| (s_const p_240_17).trans <| (s_iadd p_240_18).trans <| (s_al_0 p_240_19).trans <| (s_get p_240_20 hs_246 (by decide) rfl).trans <| (s_ast 40 p_240_23 hs_255 rfl).trans <| ck_cg fun k2 => (s_al_0 p_240_24).trans <| (s_getr p_240_25 hs_246 (by decide) rfl).trans <| (s_il_1 p_240_28).trans <| (s_const p_240_29).trans <| (s_iadd p_240_30).trans <| (s_const p_240_31).trans <| (s_ast 40 p_240_32 hs_255 rfl).trans <| ck_cg fun k3 => (s_al_0 p_240_33).trans <| (s_ldcsw (k := 10107) p_240_34 rfl).trans <| (s_cv1 (Lc := [.ref 246, .ref 10107, .retAddr 0, .retAddr 0]) p_240_37 (by decide) (by decide) (zM_of zq_230) ⟨Nat.le_of_ble_eq_true rfl, Nat.le_of_ble_eq_true rfl⟩ rfl (m_rc hs_246 ⟨rfl, by decide⟩))
theorem b_240_40 {x1 : Int} {xs0 : Int} {u2 u3 : Value} : Z e (d + 1) 240 40 [.ref 246, .int (iI x1), u2, u3] [.int (iI xs0)] m = (if ¬ (wr xs0) = 0 then (Z e d 229 0 [.ref 246] [] m).bind (ZK e (d + 1) 240 47 [.ref 246, .int (iI x1), u2, u3] [] m) else (Z e d 230 0 [.ref 246, .ref 10108, .retAddr 0, .retAddr 0] [] m).bind (ZK e (d + 1) 240 78 [.ref 246, .int (iI x1), u2, u3] [] m)) := Eq.trans ((s_z_eq_f p_240_40 rfl rfl)) <| ite_cg ((s_al_0 p_240_43).trans <| (s_cv0 (Lc := [.ref 246]) p_240_44 (by decide) (by decide) (zM_of zq_229) ⟨Nat.le_of_ble_eq_true rfl, Nat.le_of_ble_eq_true rfl⟩ rfl (m_rc hs_246 ⟨rfl, by decide⟩))) ((s_al_0 p_240_71).trans <| (s_ldcsw (k := 10108) p_240_72 rfl).trans <| (s_cv1 (Lc := [.ref 246, .ref 10108, .retAddr 0, .retAddr 0]) p_240_75 (by decide) (by decide) (zM_of zq_230) ⟨Nat.le_of_ble_eq_true rfl, Nat.le_of_ble_eq_true rfl⟩ rfl (m_rc hs_246 ⟨rfl, by decide⟩)))
theorem b_240_47 {x1 : Int} {u2 u3 : Value} : Z e (d + 1) 240 47 [.ref 246, .int (iI x1), u2, u3] [] m = ck (0 ≤ (wr x1) ∧ (wr x1) < 40) ((Z e d 233 0 [.ref 246, .int (iI 18), .retAddr 0, .retAddr 0, .retAddr 0] [] (um m 255 (wr x1) 0)).bind (ZK e (d + 1) 240 67 [.ref 246, .int (iI x1), u2, u3] [.int (iI (x1 + 1)), .ref 255] (um m 255 (wr x1) 0))) := (s_al_0 p_240_47).trans <| (s_getr p_240_48 hs_246 (by decide) rfl).trans <| (s_il_1 p_240_51).trans <| (s_const p_240_52).trans <| (s_ast 40 p_240_53 hs_255 rfl).trans <| ck_cg fun k1 => (s_al_0 p_240_54).trans <| (s_getr p_240_55 hs_246 (by decide) rfl).trans <| (s_il_1 p_240_58).trans <| (s_const p_240_59).trans <| (s_iadd p_240_60).trans <| (s_al_0 p_240_61).trans <| (s_bip p_240_62 rfl).trans <| (s_cv1 (Lc := [.ref 246, .int (iI 18), .retAddr 0, .retAddr 0, .retAddr 0]) p_240_64 (by decide) (by decide) (zM_of zq_233) ⟨Nat.le_of_ble_eq_true rfl, Nat.le_of_ble_eq_true rfl⟩ rfl (m_rc hs_246 ⟨rfl, by decide⟩))
theorem b_240_67 {xs0 : Int} {xs1 : Int} {u1 u2 u3 : Value} : Z e (d + 1) 240 67 [.ref 246, u1, u2, u3] [.int (iI xs0), .int (iI xs1), .ref 255] m = ck (0 ≤ (wr xs1) ∧ (wr xs1) < 40) (Z e (d + 1) 240 342 [.ref 246, u1, u2, u3] [] (um m 255 (wr xs1) xs0)) := (s_ast 40 p_240_67 hs_255 rfl).trans <| ck_cg fun k1 => (s_goto p_240_68 rfl).trans <| rfl
theorem b_240_78 {x1 : Int} {xs0 : Int} {u2 u3 : Value} : Z e (d + 1) 240 78 [.ref 246, .int (iI x1), u2, u3] [.int (iI xs0)] m = (if ¬ (wr xs0) = 0 then (Z e d 229 0 [.ref 246] [] m).bind (ZK e (d + 1) 240 85 [.ref 246, .int (iI x1), u2, u3] [] m) else (Z e d 230 0 [.ref 246, .ref 10109, .retAddr 0, .retAddr 0] [] m).bind (ZK e (d + 1) 240 117 [.ref 246, .int (iI x1), u2, u3] [] m)) := Eq.trans ((s_z_eq_f p_240_78 rfl rfl)) <| ite_cg ((s_al_0 p_240_81).trans <| (s_cv0 (Lc := [.ref 246]) p_240_82 (by decide) (by decide) (zM_of zq_229) ⟨Nat.le_of_ble_eq_true rfl, Nat.le_of_ble_eq_true rfl⟩ rfl (m_rc hs_246 ⟨rfl, by decide⟩))) ((s_al_0 p_240_110).trans <| (s_ldcsw (k := 10109) p_240_111 rfl).trans <| (s_cv1 (Lc := [.ref 246, .ref 10109, .retAddr 0, .retAddr 0]) p_240_114 (by decide) (by decide) (zM_of zq_230) ⟨Nat.le_of_ble_eq_true rfl, Nat.le_of_ble_eq_true rfl⟩ rfl (m_rc hs_246 ⟨rfl, by decide⟩)))
theorem b_240_85 {x1 : Int} {u2 u3 : Value} : Z e (d + 1) 240 85 [.ref 246, .int (iI x1), u2, u3] [] m = ck (0 ≤ (wr x1) ∧ (wr x1) < 40) ((Z e d 233 0 [.ref 246, .int (iI 999), .retAddr 0, .retAddr 0, .retAddr 0] [] (um m 255 (wr x1) 3)).bind (ZK e (d + 1) 240 106 [.ref 246, .int (iI x1), u2, u3] [.int (iI (x1 + 1)), .ref 255] (um m 255 (wr x1) 3))) := (s_al_0 p_240_85).trans <| (s_getr p_240_86 hs_246 (by decide) rfl).trans <| (s_il_1 p_240_89).trans <| (s_const p_240_90).trans <| (s_ast 40 p_240_91 hs_255 rfl).trans <| ck_cg fun k1 => (s_al_0 p_240_92).trans <| (s_getr p_240_93 hs_246 (by decide) rfl).trans <| (s_il_1 p_240_96).trans <| (s_const p_240_97).trans <| (s_iadd p_240_98).trans <| (s_al_0 p_240_99).trans <| (s_sip p_240_100 rfl).trans <| (s_cv1 (Lc := [.ref 246, .int (iI 999), .retAddr 0, .retAddr 0, .retAddr 0]) p_240_103 (by decide) (by decide) (zM_of zq_233) ⟨Nat.le_of_ble_eq_true rfl, Nat.le_of_ble_eq_true rfl⟩ rfl (m_rc hs_246 ⟨rfl, by decide⟩))
theorem b_240_106 {xs0 : Int} {xs1 : Int} {u1 u2 u3 : Value} : Z e (d + 1) 240 106 [.ref 246, u1, u2, u3] [.int (iI xs0), .int (iI xs1), .ref 255] m = ck (0 ≤ (wr xs1) ∧ (wr xs1) < 40) (Z e (d + 1) 240 342 [.ref 246, u1, u2, u3] [] (um m 255 (wr xs1) xs0)) := (s_ast 40 p_240_106 hs_255 rfl).trans <| ck_cg fun k1 => (s_goto p_240_107 rfl).trans <| rfl
theorem b_240_117 {x1 : Int} {xs0 : Int} {u2 u3 : Value} : Z e (d + 1) 240 117 [.ref 246, .int (iI x1), u2, u3] [.int (iI xs0)] m = (if ¬ (wr xs0) = 0 then (Z e d 229 0 [.ref 246] [] m).bind (ZK e (d + 1) 240 124 [.ref 246, .int (iI x1), u2, u3] [] m) else (Z e d 230 0 [.ref 246, .ref 10112, .retAddr 0, .retAddr 0] [] m).bind (ZK e (d + 1) 240 184 [.ref 246, .int (iI x1), u2, u3] [] m)) := Eq.trans ((s_z_eq_f p_240_117 rfl rfl)) <| ite_cg ((s_al_0 p_240_120).trans <| (s_cv0 (Lc := [.ref 246]) p_240_121 (by decide) (by decide) (zM_of zq_229) ⟨Nat.le_of_ble_eq_true rfl, Nat.le_of_ble_eq_true rfl⟩ rfl (m_rc hs_246 ⟨rfl, by decide⟩))) ((s_al_0 p_240_177).trans <| (s_ldcsw (k := 10112) p_240_178 rfl).trans <| (s_cv1 (Lc := [.ref 246, .ref 10112, .retAddr 0, .retAddr 0]) p_240_181 (by decide) (by decide) (zM_of zq_230) ⟨Nat.le_of_ble_eq_true rfl, Nat.le_of_ble_eq_true rfl⟩ rfl (m_rc hs_246 ⟨rfl, by decide⟩)))
theorem b_240_124 {x1 : Int} {u2 u3 : Value} : Z e (d + 1) 240 124 [.ref 246, .int (iI x1), u2, u3] [] m = (Z e d 230 0 [.ref 246, .ref 10110, .retAddr 0, .retAddr 0] [] m).bind (ZK e (d + 1) 240 136 [.ref 246, .int (iI x1), u2, u3] [.int (iI x1), .ref 255] m) := (s_al_0 p_240_124).trans <| (s_getr p_240_125 hs_246 (by decide) rfl).trans <| (s_il_1 p_240_128).trans <| (s_al_0 p_240_129).trans <| (s_ldcsw (k := 10110) p_240_130 rfl).trans <| (s_cv1 (Lc := [.ref 246, .ref 10110, .retAddr 0, .retAddr 0]) p_240_133 (by decide) (by decide) (zM_of zq_230) ⟨Nat.le_of_ble_eq_true rfl, Nat.le_of_ble_eq_true rfl⟩ rfl (m_rc hs_246 ⟨rfl, by decide⟩))
theorem b_240_136 {xs0 : Int} {xs1 : Int} {u1 u2 u3 : Value} : Z e (d + 1) 240 136 [.ref 246, u1, u2, u3] [.int (iI xs0), .int (iI xs1), .ref 255] m = ck (0 ≤ (wr xs1) ∧ (wr xs1) < 40) ((Z e d 230 0 [.ref 246, .ref 10110, .retAddr 0, .retAddr 0] [] (um m 255 (wr xs1) (if ¬ (wr xs0) = 0 then 1 else 2))).bind (ZK e (d + 1) 240 153 [.ref 246, u1, u2, u3] [.ref 246] (um m 255 (wr xs1) (if ¬ (wr xs0) = 0 then 1 else 2)))) := Eq.trans (Eq.trans ((s_z_eq_f p_240_136 rfl rfl)) <| Eq.trans (ite_cg ((s_const p_240_139).trans <| (s_goto p_240_140 rfl).trans <| rfl) ((s_const p_240_143).trans <| rfl)) (phi1 (fun z0 => Z e (d + 1) 240 144 [.ref 246, u1, u2, u3] [.int (iI z0), .int (iI xs1), .ref 255] m))) <| (s_ast 40 p_240_144 hs_255 rfl).trans <| ck_cg fun k1 => (s_al_0 p_240_145).trans <| (s_al_0 p_240_146).trans <| (s_ldcsw (k := 10110) p_240_147 rfl).trans <| (s_cv1 (Lc := [.ref 246, .ref 10110, .retAddr 0, .retAddr 0]) p_240_150 (by decide) (by decide) (zM_of zq_230) ⟨Nat.le_of_ble_eq_true rfl, Nat.le_of_ble_eq_true rfl⟩ rfl (m_rc hs_246 ⟨rfl, by decide⟩))
theorem b_240_153 {xs0 : Int} {u1 u2 u3 : Value} : Z e (d + 1) 240 153 [.ref 246, u1, u2, u3] [.int (iI xs0), .ref 246] m = (if (wr xs0) = 0 then (Z e d 230 0 [.ref 246, .ref 10111, .retAddr 0, .retAddr 0] [] m).bind (ZK e (d + 1) 240 163 [.ref 246, u1, u2, u3] [.ref 246] m) else Z e (d + 1) 240 171 [.ref 246, u1, u2, u3] [.int (iI 1), .ref 246] m) := Eq.trans ((s_z_ne_f p_240_153 rfl rfl)) <| ite_cg ((s_al_0 p_240_156).trans <| (s_ldcsw (k := 10111) p_240_157 rfl).trans <| (s_cv1 (Lc := [.ref 246, .ref 10111, .retAddr 0, .retAddr 0]) p_240_160 (by decide) (by decide) (zM_of zq_230) ⟨Nat.le_of_ble_eq_true rfl, Nat.le_of_ble_eq_true rfl⟩ rfl (m_rc hs_246 ⟨rfl, by decide⟩))) ((s_const p_240_166).trans <| (s_goto p_240_167 rfl).trans <| rfl)
theorem b_240_171 {xs0 : Int} {u1 u2 u3 : Value} : Z e (d + 1) 240 171 [.ref 246, u1, u2, u3] [.int (iI xs0), .ref 246] m = (Z e d 232 0 [.ref 246, .int (iI xs0)] [] m).bind (ZK e (d + 1) 240 174 [.ref 246, u1, u2, u3] [] m) := (s_cv1 (Lc := [.ref 246, .int (iI xs0)]) p_240_171 (by decide) (by decide) (zM_of zq_232) ⟨Nat.le_of_ble_eq_true rfl, Nat.le_of_ble_eq_true rfl⟩ rfl (m_rc hs_246 ⟨rfl, by decide⟩))
theorem b_240_184 {x1 : Int} {xs0 : Int} {u2 u3 : Value} : Z e (d + 1) 240 184 [.ref 246, .int (iI x1), u2, u3] [.int (iI xs0)] m = (if ¬ (wr xs0) = 0 then (Z e d 229 0 [.ref 246] [] m).bind (ZK e (d + 1) 240 191 [.ref 246, .int (iI x1), u2, u3] [] m) else (Z e d 238 0 [.ref 246, .retAddr 0, .retAddr 0] [] m).bind (ZK e (d + 1) 240 225 [.ref 246, .int (iI x1), u2, u3] [] m)) := Eq.trans ((s_z_eq_f p_240_184 rfl rfl)) <| ite_cg ((s_al_0 p_240_187).trans <| (s_cv0 (Lc := [.ref 246]) p_240_188 (by decide) (by decide) (zM_of zq_229) ⟨Nat.le_of_ble_eq_true rfl, Nat.le_of_ble_eq_true rfl⟩ rfl (m_rc hs_246 ⟨rfl, by decide⟩))) ((s_al_0 p_240_221).trans <| (s_cv0 (Lc := [.ref 246, .retAddr 0, .retAddr 0]) p_240_222 (by decide) (by decide) (zM_of zq_238) ⟨Nat.le_of_ble_eq_true rfl, Nat.le_of_ble_eq_true rfl⟩ rfl (m_rc hs_246 ⟨rfl, by decide⟩)))
theorem b_240_191 {x1 : Int} {u2 u3 : Value} : Z e (d + 1) 240 191 [.ref 246, .int (iI x1), u2, u3] [] m = ck (0 ≤ (wr x1) ∧ (wr x1) < 40) ((Z e d 233 0 [.ref 246, .int (iI 999), .retAddr 0, .retAddr 0, .retAddr 0] [] (um m 255 (wr x1) 4)).bind (ZK e (d + 1) 240 212 [.ref 246, .int (iI x1), u2, u3] [.int (iI (x1 + 1)), .ref 255] (um m 255 (wr x1) 4))) := (s_al_0 p_240_191).trans <| (s_getr p_240_192 hs_246 (by decide) rfl).trans <| (s_il_1 p_240_195).trans <| (s_const p_240_196).trans <| (s_ast 40 p_240_197 hs_255 rfl).trans <| ck_cg fun k1 => (s_al_0 p_240_198).trans <| (s_getr p_240_199 hs_246 (by decide) rfl).trans <| (s_il_1 p_240_202).trans <| (s_const p_240_203).trans <| (s_iadd p_240_204).trans <| (s_al_0 p_240_205).trans <| (s_sip p_240_206 rfl).trans <| (s_cv1 (Lc := [.ref 246, .int (iI 999), .retAddr 0, .retAddr 0, .retAddr 0]) p_240_209 (by decide) (by decide) (zM_of zq_233) ⟨Nat.le_of_ble_eq_true rfl, Nat.le_of_ble_eq_true rfl⟩ rfl (m_rc hs_246 ⟨rfl, by decide⟩))
theorem b_240_212 {x1 : Int} {xs0 : Int} {xs1 : Int} {u2 u3 : Value} : Z e (d + 1) 240 212 [.ref 246, .int (iI x1), u2, u3] [.int (iI xs0), .int (iI xs1), .ref 255] m = ck (0 ≤ (wr xs1) ∧ (wr xs1) < 40) ((Z e d 239 0 [.ref 246, .int (iI x1)] [] (um m 255 (wr xs1) xs0)).bind (ZK e (d + 1) 240 218 [.ref 246, .int (iI x1), u2, u3] [] (um m 255 (wr xs1) xs0))) := (s_ast 40 p_240_212 hs_255 rfl).trans <| ck_cg fun k1 => (s_al_0 p_240_213).trans <| (s_il_1 p_240_214).trans <| (s_cv1 (Lc := [.ref 246, .int (iI x1)]) p_240_215 (by decide) (by decide) (zM_of zq_239) ⟨Nat.le_of_ble_eq_true rfl, Nat.le_of_ble_eq_true rfl⟩ rfl (m_rc hs_246 ⟨rfl, by decide⟩))
theorem b_240_225 {x1 : Int} {xs0 : Int} {u2 u3 : Value} : Z e (d + 1) 240 225 [.ref 246, .int (iI x1), u2, u3] [.int (iI xs0)] m = (Z e d 232 0 [.ref 246, .int (iI (if 0 < (wr xs0) then 1 else 0))] [] m).bind (ZK e (d + 1) 240 239 [.ref 246, .int (iI x1), .int (iI xs0), u3] [] m) := (s_is_2 cat_i p_240_225).trans <| (s_al_0 p_240_226).trans <| (s_il_2 p_240_227).trans <| Eq.trans (Eq.trans ((s_z_le_f p_240_228 rfl rfl)) <| Eq.trans (ite_cg ((s_const p_240_231).trans <| (s_goto p_240_232 rfl).trans <| rfl) ((s_const p_240_235).trans <| rfl)) (phi1 (fun z0 => Z e (d + 1) 240 236 [.ref 246, .int (iI x1), .int (iI xs0), u3] [.int (iI z0), .ref 246] m))) <| (s_cv1 (Lc := [.ref 246, .int (iI (if 0 < (wr xs0) then 1 else 0))]) p_240_236 (by decide) (by decide) (zM_of zq_232) ⟨Nat.le_of_ble_eq_true rfl, Nat.le_of_ble_eq_true rfl⟩ rfl (m_rc hs_246 ⟨rfl, by decide⟩))
theorem b_240_239 {x1 : Int} {x2 : Int} {u3 : Value} : Z e (d + 1) 240 239 [.ref 246, .int (iI x1), .int (iI x2), u3] [] m = (Z e d 230 0 [.ref 246, .ref 10122, .retAddr 0, .retAddr 0] [] m).bind (ZK e (d + 1) 240 245 [.ref 246, .int (iI x1), .int (iI x2), u3] [] m) := (s_al_0 p_240_239).trans <| (s_ldcs (k := 10122) p_240_240 rfl).trans <| (s_cv1 (Lc := [.ref 246, .ref 10122, .retAddr 0, .retAddr 0]) p_240_242 (by decide) (by decide) (zM_of zq_230) ⟨Nat.le_of_ble_eq_true rfl, Nat.le_of_ble_eq_true rfl⟩ rfl (m_rc hs_246 ⟨rfl, by decide⟩))
theorem b_240_245 {x1 : Int} {x2 : Int} {xs0 : Int} {u3 : Value} : Z e (d + 1) 240 245 [.ref 246, .int (iI x1), .int (iI x2), u3] [.int (iI xs0)] m = (if ¬ (wr xs0) = 0 then (Z e d 229 0 [.ref 246] [] m).bind (ZK e (d + 1) 240 252 [.ref 246, .int (iI x1), .int (iI x2), u3] [] m) else Z e (d + 1) 240 277 [.ref 246, .int (iI x1), .int (iI x2), u3] [] m) := Eq.trans ((s_z_eq_f p_240_245 rfl rfl)) <| ite_cg ((s_al_0 p_240_248).trans <| (s_cv0 (Lc := [.ref 246]) p_240_249 (by decide) (by decide) (zM_of zq_229) ⟨Nat.le_of_ble_eq_true rfl, Nat.le_of_ble_eq_true rfl⟩ rfl (m_rc hs_246 ⟨rfl, by decide⟩))) (rfl)
theorem b_240_252 {x1 : Int} {x2 : Int} {u3 : Value} : Z e (d + 1) 240 252 [.ref 246, .int (iI x1), .int (iI x2), u3] [] m = (Z e d 238 0 [.ref 246, .retAddr 0, .retAddr 0] [] m).bind (ZK e (d + 1) 240 256 [.ref 246, .int (iI x1), .int (iI x2), u3] [] m) := (s_al_0 p_240_252).trans <| (s_cv0 (Lc := [.ref 246, .retAddr 0, .retAddr 0]) p_240_253 (by decide) (by decide) (zM_of zq_238) ⟨Nat.le_of_ble_eq_true rfl, Nat.le_of_ble_eq_true rfl⟩ rfl (m_rc hs_246 ⟨rfl, by decide⟩))
theorem b_240_256 {x1 : Int} {x2 : Int} {xs0 : Int} {u3 : Value} : Z e (d + 1) 240 256 [.ref 246, .int (iI x1), .int (iI x2), u3] [.int (iI xs0)] m = (Z e d 232 0 [.ref 246, .int (iI (if 0 < (wr xs0) then 1 else 0))] [] m).bind (ZK e (d + 1) 240 274 [.ref 246, .int (iI x1), .int (iI (jor x2 xs0)), .int (iI xs0)] [] m) := (s_is_3 cat_i p_240_256).trans <| (s_il_2 p_240_257).trans <| (s_il_3 p_240_258).trans <| (s_ior p_240_259).trans <| (s_is_2 cat_i p_240_260).trans <| (s_al_0 p_240_261).trans <| (s_il_3 p_240_262).trans <| Eq.trans (Eq.trans ((s_z_le_f p_240_263 rfl rfl)) <| Eq.trans (ite_cg ((s_const p_240_266).trans <| (s_goto p_240_267 rfl).trans <| rfl) ((s_const p_240_270).trans <| rfl)) (phi1 (fun z0 => Z e (d + 1) 240 271 [.ref 246, .int (iI x1), .int (iI (jor x2 xs0)), .int (iI xs0)] [.int (iI z0), .ref 246] m))) <| (s_cv1 (Lc := [.ref 246, .int (iI (if 0 < (wr xs0) then 1 else 0))]) p_240_271 (by decide) (by decide) (zM_of zq_232) ⟨Nat.le_of_ble_eq_true rfl, Nat.le_of_ble_eq_true rfl⟩ rfl (m_rc hs_246 ⟨rfl, by decide⟩))
theorem b_240_274 {x1 : Int} {x2 : Int} {u3 : Value} : Z e (d + 1) 240 274 [.ref 246, .int (iI x1), .int (iI x2), u3] [] m = Z e (d + 1) 240 239 [.ref 246, .int (iI x1), .int (iI x2), u3] [] m := (s_goto p_240_274 rfl).trans <| rfl
theorem b_240_277 {x1 : Int} {x2 : Int} {u3 : Value} : Z e (d + 1) 240 277 [.ref 246, .int (iI x1), .int (iI x2), u3] [] m = (Z e d 230 0 [.ref 246, .ref 10124, .retAddr 0, .retAddr 0] [] m).bind (ZK e (d + 1) 240 289 [.ref 246, .int (iI x1), .int (iI x2), u3] [.int (iI x1), .ref 255] m) := (s_al_0 p_240_277).trans <| (s_getr p_240_278 hs_246 (by decide) rfl).trans <| (s_il_1 p_240_281).trans <| (s_al_0 p_240_282).trans <| (s_ldcsw (k := 10124) p_240_283 rfl).trans <| (s_cv1 (Lc := [.ref 246, .ref 10124, .retAddr 0, .retAddr 0]) p_240_286 (by decide) (by decide) (zM_of zq_230) ⟨Nat.le_of_ble_eq_true rfl, Nat.le_of_ble_eq_true rfl⟩ rfl (m_rc hs_246 ⟨rfl, by decide⟩))
theorem b_240_289 {x1 : Int} {x2 : Int} {xs0 : Int} {xs1 : Int} {u3 : Value} : Z e (d + 1) 240 289 [.ref 246, .int (iI x1), .int (iI x2), u3] [.int (iI xs0), .int (iI xs1), .ref 255] m = ck (0 ≤ (wr xs1) ∧ (wr xs1) < 40) (ck (0 ≤ (wr (x1 + 1)) ∧ (wr (x1 + 1)) < 40) ((Z e d 230 0 [.ref 246, .ref 10124, .retAddr 0, .retAddr 0] [] (um (um m 255 (wr xs1) (if ¬ (wr xs0) = 0 then 5 else 6)) 255 (wr (x1 + 1)) x2)).bind (ZK e (d + 1) 240 316 [.ref 246, .int (iI x1), .int (iI x2), u3] [.ref 246] (um (um m 255 (wr xs1) (if ¬ (wr xs0) = 0 then 5 else 6)) 255 (wr (x1 + 1)) x2)))) := Eq.trans (Eq.trans ((s_z_eq_f p_240_289 rfl rfl)) <| Eq.trans (ite_cg ((s_const p_240_292).trans <| (s_goto p_240_293 rfl).trans <| rfl) ((s_bip p_240_296 rfl).trans <| rfl)) (phi1 (fun z0 => Z e (d + 1) 240 298 [.ref 246, .int (iI x1), .int (iI x2), u3] [.int (iI z0), .int (iI xs1), .ref 255] m))) <| (s_ast 40 p_240_298 hs_255 rfl).trans <| ck_cg fun k1 => (s_al_0 p_240_299).trans <| (s_getr p_240_300 hs_246 (by decide) rfl).trans <| (s_il_1 p_240_303).trans <| (s_const p_240_304).trans <| (s_iadd p_240_305).trans <| (s_il_2 p_240_306).trans <| (s_ast 40 p_240_307 hs_255 rfl).trans <| ck_cg fun k2 => (s_al_0 p_240_308).trans <| (s_al_0 p_240_309).trans <| (s_ldcsw (k := 10124) p_240_310 rfl).trans <| (s_cv1 (Lc := [.ref 246, .ref 10124, .retAddr 0, .retAddr 0]) p_240_313 (by decide) (by decide) (zM_of zq_230) ⟨Nat.le_of_ble_eq_true rfl, Nat.le_of_ble_eq_true rfl⟩ rfl (m_rc hs_246 ⟨rfl, by decide⟩))
theorem b_240_316 {x1 : Int} {xs0 : Int} {u2 u3 : Value} : Z e (d + 1) 240 316 [.ref 246, .int (iI x1), u2, u3] [.int (iI xs0), .ref 246] m = (if (wr xs0) = 0 then (Z e d 230 0 [.ref 246, .ref 10125, .retAddr 0, .retAddr 0] [] m).bind (ZK e (d + 1) 240 326 [.ref 246, .int (iI x1), u2, u3] [.ref 246] m) else Z e (d + 1) 240 334 [.ref 246, .int (iI x1), u2, u3] [.int (iI 1), .ref 246] m) := Eq.trans ((s_z_ne_f p_240_316 rfl rfl)) <| ite_cg ((s_al_0 p_240_319).trans <| (s_ldcsw (k := 10125) p_240_320 rfl).trans <| (s_cv1 (Lc := [.ref 246, .ref 10125, .retAddr 0, .retAddr 0]) p_240_323 (by decide) (by decide) (zM_of zq_230) ⟨Nat.le_of_ble_eq_true rfl, Nat.le_of_ble_eq_true rfl⟩ rfl (m_rc hs_246 ⟨rfl, by decide⟩))) ((s_const p_240_329).trans <| (s_goto p_240_330 rfl).trans <| rfl)
theorem b_240_326 {x1 : Int} {xs0 : Int} {u2 u3 : Value} : Z e (d + 1) 240 326 [.ref 246, .int (iI x1), u2, u3] [.int (iI xs0), .ref 246] m = Z e (d + 1) 240 334 [.ref 246, .int (iI x1), u2, u3] [.int (iI (if ¬ (wr xs0) = 0 then 1 else 0)), .ref 246] m := Eq.trans (Eq.trans ((s_z_eq_f p_240_326 rfl rfl)) <| Eq.trans (ite_cg ((s_const p_240_329).trans <| (s_goto p_240_330 rfl).trans <| rfl) ((s_const p_240_333).trans <| rfl)) (phi1 (fun z0 => Z e (d + 1) 240 334 [.ref 246, .int (iI x1), u2, u3] [.int (iI z0), .ref 246] m))) <| rfl
theorem b_240_334 {x1 : Int} {xs0 : Int} {u2 u3 : Value} : Z e (d + 1) 240 334 [.ref 246, .int (iI x1), u2, u3] [.int (iI xs0), .ref 246] m = (Z e d 232 0 [.ref 246, .int (iI xs0)] [] m).bind (ZK e (d + 1) 240 337 [.ref 246, .int (iI x1), u2, u3] [] m) := (s_cv1 (Lc := [.ref 246, .int (iI xs0)]) p_240_334 (by decide) (by decide) (zM_of zq_232) ⟨Nat.le_of_ble_eq_true rfl, Nat.le_of_ble_eq_true rfl⟩ rfl (m_rc hs_246 ⟨rfl, by decide⟩))
theorem b_240_337 {x1 : Int} {u2 u3 : Value} : Z e (d + 1) 240 337 [.ref 246, .int (iI x1), u2, u3] [] m = (Z e d 239 0 [.ref 246, .int (iI x1)] [] m).bind (ZK e (d + 1) 240 342 [.ref 246, .int (iI x1), u2, u3] [] m) := (s_al_0 p_240_337).trans <| (s_il_1 p_240_338).trans <| (s_cv1 (Lc := [.ref 246, .int (iI x1)]) p_240_339 (by decide) (by decide) (zM_of zq_239) ⟨Nat.le_of_ble_eq_true rfl, Nat.le_of_ble_eq_true rfl⟩ rfl (m_rc hs_246 ⟨rfl, by decide⟩))
theorem b_240_342 {u1 u2 u3 : Value} : Z e (d + 1) 240 342 [.ref 246, u1, u2, u3] [] m = ck (((wr (m 246 18)) = 0) → (((wr (m 246 17)) = 3) → (0 ≤ (wr (m 246 15)) ∧ (wr (m 246 15)) < 300))) ((Z e d 232 0 [.ref 246, .int (iI (if ((wr (m 246 18)) = 0) ∧ (((wr (m 246 17)) = 3) ∧ ((wr (m 249 (wr (m 246 15)))) = (wr 59))) then 1 else 0))] [] m).bind (ZK e (d + 1) 240 352 [.ref 246, u1, u2, u3] [] m)) := (s_al_0 p_240_342).trans <| (s_al_0 p_240_343).trans <| (s_bip p_240_344 rfl).trans <| (s_cv1 (Lc := [.ref 246, .int (iI 59)]) p_240_346 (by decide) (by decide) (zM_of zq_231) ⟨Nat.le_of_ble_eq_true rfl, Nat.le_of_ble_eq_true rfl⟩ rfl (m_rc hs_246 ⟨rfl, by decide⟩)).trans <| (bd b_231_0).trans <| ck_bind.trans <| ck_cg fun _ => ri_k.trans <| (s_cv1 (Lc := [.ref 246, .int (iI (if ((wr (m 246 18)) = 0) ∧ (((wr (m 246 17)) = 3) ∧ ((wr (m 249 (wr (m 246 15)))) = (wr 59))) then 1 else 0))]) p_240_349 (by decide) (by decide) (zM_of zq_232) ⟨Nat.le_of_ble_eq_true rfl, Nat.le_of_ble_eq_true rfl⟩ rfl (m_rc hs_246 ⟨rfl, by decide⟩))
theorem b_240_352 {u0 u1 u2 u3 : Value} : Z e (d + 1) 240 352 [u0, u1, u2, u3] [] m = rn m := (s_retv p_240_352 (zM_of zq_240))
theorem b_240_163 {xs0 : Int} {u1 u2 u3 : Value} : Z e (d + 1) 240 163 [.ref 246, u1, u2, u3] [.int (iI xs0), .ref 246] m = Z e (d + 1) 240 171 [.ref 246, u1, u2, u3] [.int (iI (if ¬ (wr xs0) = 0 then 1 else 0)), .ref 246] m := Eq.trans (Eq.trans ((s_z_eq_f p_240_163 rfl rfl)) <| Eq.trans (ite_cg ((s_const p_240_166).trans <| (s_goto p_240_167 rfl).trans <| rfl) ((s_const p_240_170).trans <| rfl)) (phi1 (fun z0 => Z e (d + 1) 240 171 [.ref 246, u1, u2, u3] [.int (iI z0), .ref 246] m))) <| rfl
theorem b_240_174 {u1 u2 u3 : Value} : Z e (d + 1) 240 174 [.ref 246, u1, u2, u3] [] m = Z e (d + 1) 240 342 [.ref 246, u1, u2, u3] [] m := (s_goto p_240_174 rfl).trans <| rfl
theorem b_240_218 {u1 u2 u3 : Value} : Z e (d + 1) 240 218 [.ref 246, u1, u2, u3] [] m = Z e (d + 1) 240 342 [.ref 246, u1, u2, u3] [] m := (s_goto p_240_218 rfl).trans <| rfl
-- M.reads
theorem p_241_0 : zP1 241 0 = some (.aload_n 0, 0, 0, 0) := zp_l zq_241 rfl
theorem p_241_1 : zP1 241 1 = some (.iconst 0, 0, 0, 0) := zp_l zq_241 rfl
theorem p_241_2 : zP1 241 2 = some (.putfield 177, 11, 16, 0) := zp_r zq_241 rfl
theorem p_241_5 : zP1 241 5 = some (.aload_n 0, 0, 0, 0) := zp_l zq_241 rfl
theorem p_241_6 : zP1 241 6 = some (.iconst 0, 0, 0, 0) := zp_l zq_241 rfl
theorem p_241_7 : zP1 241 7 = some (.putfield 189, 11, 18, 1) := zp_r zq_241 rfl
theorem p_241_10 : zP1 241 10 = some (.aload_n 0, 0, 0, 0) := zp_l zq_241 rfl
theorem p_241_11 : zP1 241 11 = some (.iconst 0, 0, 0, 0) := zp_l zq_241 rfl
theorem p_241_12 : zP1 241 12 = some (.putfield 232, 11, 19, 0) := zp_r zq_241 rfl
theorem p_241_15 : zP1 241 15 = some (.aload_n 0, 0, 0, 0) := zp_l zq_241 rfl
theorem p_241_16 : zP1 241 16 = some (.iconst 0, 0, 0, 0) := zp_l zq_241 rfl
theorem p_241_17 : zP1 241 17 = some (.putfield 207, 11, 20, 0) := zp_r zq_241 rfl
theorem p_241_20 : zP1 241 20 = some (.aload_n 0, 0, 0, 0) := zp_l zq_241 rfl
theorem p_241_21 : zP1 241 21 = some (.iconst 0, 0, 0, 0) := zp_l zq_241 rfl
theorem p_241_22 : zP1 241 22 = some (.putfield 279, 11, 21, 0) := zp_r zq_241 rfl
theorem p_241_25 : zP1 241 25 = some (.aload_n 0, 0, 0, 0) := zp_l zq_241 rfl
theorem p_241_26 : zP1 241 26 = some (.invokevirtual 200, 229, 0, 11) := zp_r zq_241 rfl
theorem p_241_29 : zP1 241 29 = some (.aload_n 0, 0, 0, 0) := zp_l zq_241 rfl
theorem p_241_30 : zP1 241 30 = some (.getfield 189, 11, 18, 0) := zp_r zq_241 rfl
theorem p_241_33 : zP1 241 33 = some (.ifCond .ne 58, 0, 0, 0) := zp_l zq_241 rfl
theorem p_241_36 : zP1 241 36 = some (.aload_n 0, 0, 0, 0) := zp_l zq_241 rfl
theorem p_241_37 : zP1 241 37 = some (.getfield 183, 11, 17, 0) := zp_r zq_241 rfl
theorem p_241_40 : zP1 241 40 = some (.ifCond .eq 51, 0, 0, 0) := zp_l zq_241 rfl
theorem p_241_43 : zP1 241 43 = some (.aload_n 0, 0, 0, 0) := zp_l zq_241 rfl
theorem p_241_44 : zP1 241 44 = some (.aload_n 0, 0, 0, 0) := zp_l zq_241 rfl
theorem p_241_45 : zP1 241 45 = some (.getfield 279, 11, 21, 0) := zp_r zq_241 rfl
theorem p_241_48 : zP1 241 48 = some (.bipush 10, 0, 0, 0) := zp_l zq_241 rfl
theorem p_241_50 : zP1 241 50 = some (.if_icmp .ne 7, 0, 0, 0) := zp_l zq_241 rfl
theorem p_241_53 : zP1 241 53 = some (.iconst 1, 0, 0, 0) := zp_l zq_241 rfl
theorem p_241_54 : zP1 241 54 = some (.goto 4, 0, 0, 0) := zp_l zq_241 rfl
theorem p_241_57 : zP1 241 57 = some (.iconst 0, 0, 0, 0) := zp_l zq_241 rfl
theorem p_241_58 : zP1 241 58 = some (.putfield 189, 11, 18, 1) := zp_r zq_241 rfl
theorem p_241_61 : zP1 241 61 = some (.aload_n 0, 0, 0, 0) := zp_l zq_241 rfl
theorem p_241_62 : zP1 241 62 = some (.getfield 189, 11, 18, 0) := zp_r zq_241 rfl
theorem p_241_65 : zP1 241 65 = some (.ifCond .ne (-36), 0, 0, 0) := zp_l zq_241 rfl
theorem p_241_68 : zP1 241 68 = some (.aload_n 0, 0, 0, 0) := zp_l zq_241 rfl
theorem p_241_69 : zP1 241 69 = some (.iconst 4, 0, 0, 0) := zp_l zq_241 rfl
theorem p_241_70 : zP1 241 70 = some (.aload_n 0, 0, 0, 0) := zp_l zq_241 rfl
theorem p_241_71 : zP1 241 71 = some (.getfield 279, 11, 21, 0) := zp_r zq_241 rfl
theorem p_241_74 : zP1 241 74 = some (.imul, 0, 0, 0) := zp_l zq_241 rfl
theorem p_241_75 : zP1 241 75 = some (.invokevirtual 282, 240, 1, 11) := zp_r zq_241 rfl
theorem p_241_78 : zP1 241 78 = some (.aload_n 0, 0, 0, 0) := zp_l zq_241 rfl
theorem p_241_79 : zP1 241 79 = some (.dup, 0, 0, 0) := zp_l zq_241 rfl
theorem p_241_80 : zP1 241 80 = some (.getfield 279, 11, 21, 0) := zp_r zq_241 rfl
theorem p_241_83 : zP1 241 83 = some (.iconst 1, 0, 0, 0) := zp_l zq_241 rfl
theorem p_241_84 : zP1 241 84 = some (.iadd, 0, 0, 0) := zp_l zq_241 rfl
theorem p_241_85 : zP1 241 85 = some (.putfield 279, 11, 21, 0) := zp_r zq_241 rfl
theorem p_241_88 : zP1 241 88 = some (.goto (-59), 0, 0, 0) := zp_l zq_241 rfl
theorem p_241_91 : zP1 241 91 = some (.aload_n 0, 0, 0, 0) := zp_l zq_241 rfl
theorem p_241_92 : zP1 241 92 = some (.getfield 189, 11, 18, 0) := zp_r zq_241 rfl
theorem p_241_95 : zP1 241 95 = some (.ifCond .ne 7, 0, 0, 0) := zp_l zq_241 rfl
theorem p_241_98 : zP1 241 98 = some (.iconst 1, 0, 0, 0) := zp_l zq_241 rfl
theorem p_241_99 : zP1 241 99 = some (.goto 4, 0, 0, 0) := zp_l zq_241 rfl
theorem p_241_102 : zP1 241 102 = some (.iconst 0, 0, 0, 0) := zp_l zq_241 rfl
theorem p_241_103 : zP1 241 103 = some (.ireturn, 0, 0, 0) := zp_l zq_241 rfl
theorem b_241_0 : Z e (d + 1) 241 0 [.ref 246] [] m = (Z e d 229 0 [.ref 246] [] (um (um (um (um (um m 246 16 0) 246 18 0) 246 19 0) 246 20 0) 246 21 0)).bind (ZK e (d + 1) 241 29 [.ref 246] [] (um (um (um (um (um m 246 16 0) 246 18 0) 246 19 0) 246 20 0) 246 21 0)) := (s_al_0 p_241_0).trans <| (s_const p_241_1).trans <| (s_put p_241_2 hs_246 (by decide) rfl).trans <| (s_al_0 p_241_5).trans <| (s_const p_241_6).trans <| (s_putk p_241_7 rfl hs_246 (by decide) rfl).trans <| (s_al_0 p_241_10).trans <| (s_const p_241_11).trans <| (s_put p_241_12 hs_246 (by decide) rfl).trans <| (s_al_0 p_241_15).trans <| (s_const p_241_16).trans <| (s_put p_241_17 hs_246 (by decide) rfl).trans <| (s_al_0 p_241_20).trans <| (s_const p_241_21).trans <| (s_put p_241_22 hs_246 (by decide) rfl).trans <| (s_al_0 p_241_25).trans <| (s_cv0 (Lc := [.ref 246]) p_241_26 (by decide) (by decide) (zM_of zq_229) ⟨Nat.le_of_ble_eq_true rfl, Nat.le_of_ble_eq_true rfl⟩ rfl (m_rc hs_246 ⟨rfl, by decide⟩))
theorem b_241_29 : Z e (d + 1) 241 29 [.ref 246] [] m = (if ((wr (m 246 18)) = 0) ∧ (¬ (wr (m 246 17)) = 0) then (if (wr ((um m 246 18 (if (wr (m 246 21)) = 10 then 1 else 0)) 246 18)) = 0 then (Z e d 240 0 [.ref 246, .int (iI (4 * ((um m 246 18 (if (wr (m 246 21)) = 10 then 1 else 0)) 246 21))), .retAddr 0, .retAddr 0] [] (um m 246 18 (if (wr (m 246 21)) = 10 then 1 else 0))).bind (ZK e (d + 1) 241 78 [.ref 246] [] (um m 246 18 (if (wr (m 246 21)) = 10 then 1 else 0))) else Z e (d + 1) 241 29 [.ref 246] [] (um m 246 18 (if (wr (m 246 21)) = 10 then 1 else 0))) else Z e (d + 1) 241 91 [.ref 246] [] m) := (s_al_0 p_241_29).trans <| (s_get p_241_30 hs_246 (by decide) rfl).trans <| Eq.trans (Eq.trans (s_z_ne_f p_241_33 rfl rfl) <| Eq.trans (ite_cg ((s_al_0 p_241_36).trans <| (s_get p_241_37 hs_246 (by decide) rfl).trans <| (s_z_eq_f p_241_40 rfl rfl)) rfl) co_and) <| ite_cg ((s_al_0 p_241_43).trans <| (s_al_0 p_241_44).trans <| (s_get p_241_45 hs_246 (by decide) rfl).trans <| (s_bip p_241_48 rfl).trans <| Eq.trans (Eq.trans ((s_c_ne_f p_241_50 rfl rfl wl_10)) <| Eq.trans (ite_cg ((s_const p_241_53).trans <| (s_goto p_241_54 rfl).trans <| rfl) ((s_const p_241_57).trans <| rfl)) (phi1 (fun z0 => Z e (d + 1) 241 58 [.ref 246] [.int (iI z0), .ref 246] m))) <| (s_putb p_241_58 hs_246 (by decide) rfl).trans <| (s_al_0 p_241_61).trans <| (s_get p_241_62 hs_246 (by decide) rfl).trans <| Eq.trans ((s_z_ne_f p_241_65 rfl rfl)) <| ite_cg ((s_al_0 p_241_68).trans <| (s_const p_241_69).trans <| (s_al_0 p_241_70).trans <| (s_get p_241_71 hs_246 (by decide) rfl).trans <| (s_imul p_241_74).trans <| (s_cv1 (Lc := [.ref 246, .int (iI (4 * ((um m 246 18 (if (wr (m 246 21)) = 10 then 1 else 0)) 246 21))), .retAddr 0, .retAddr 0]) p_241_75 (by decide) (by decide) (zM_of zq_240) ⟨Nat.le_of_ble_eq_true rfl, Nat.le_of_ble_eq_true rfl⟩ rfl (m_rc hs_246 ⟨rfl, by decide⟩))) (rfl)) (rfl)
theorem b_241_91 : Z e (d + 1) 241 91 [.ref 246] [] m = ri (if (wr (m 246 18)) = 0 then 1 else 0) m := (s_al_0 p_241_91).trans <| (s_get p_241_92 hs_246 (by decide) rfl).trans <| Eq.trans (Eq.trans ((s_z_ne_f p_241_95 rfl rfl)) <| Eq.trans (ite_cg ((s_const p_241_98).trans <| (s_goto p_241_99 rfl).trans <| rfl) ((s_const p_241_102).trans <| rfl)) (phi1 (fun z0 => Z e (d + 1) 241 103 [.ref 246] [.int (iI z0)] m))) <| (s_retb p_241_103 (zM_of zq_241))
theorem b_241_78 : Z e (d + 1) 241 78 [.ref 246] [] m = Z e (d + 1) 241 29 [.ref 246] [] (um m 246 21 ((m 246 21) + 1)) := (s_al_0 p_241_78).trans <| (s_dup cat_r p_241_79).trans <| (s_get p_241_80 hs_246 (by decide) rfl).trans <| (s_const p_241_83).trans <| (s_iadd p_241_84).trans <| (s_put p_241_85 hs_246 (by decide) rfl).trans <| (s_goto p_241_88 rfl).trans <| rfl
-- M.end
theorem p_243_0 : zP1 243 0 = some (.aload_n 0, 0, 0, 0) := zp_l zq_243 rfl
theorem p_243_1 : zP1 243 1 = some (.iload_n 1, 0, 0, 0) := zp_l zq_243 rfl
theorem p_243_2 : zP1 243 2 = some (.aload_n 0, 0, 0, 0) := zp_l zq_243 rfl
theorem p_243_3 : zP1 243 3 = some (.getfield 9, 11, 0, 0) := zp_r zq_243 rfl
theorem p_243_6 : zP1 243 6 = some (.iconst 0, 0, 0, 0) := zp_l zq_243 rfl
theorem p_243_7 : zP1 243 7 = some (.iaload, 0, 0, 0) := zp_l zq_243 rfl
theorem p_243_8 : zP1 243 8 = some (.invokevirtual 151, 220, 2, 11) := zp_r zq_243 rfl
theorem p_243_11 : zP1 243 11 = some (.istore_n 2, 0, 0, 0) := zp_l zq_243 rfl
theorem p_243_12 : zP1 243 12 = some (.iload_n 2, 0, 0, 0) := zp_l zq_243 rfl
theorem p_243_13 : zP1 243 13 = some (.ifCond .lt 19, 0, 0, 0) := zp_l zq_243 rfl
theorem p_243_16 : zP1 243 16 = some (.aload_n 0, 0, 0, 0) := zp_l zq_243 rfl
theorem p_243_17 : zP1 243 17 = some (.getfield 9, 11, 0, 0) := zp_r zq_243 rfl
theorem p_243_20 : zP1 243 20 = some (.iload_n 2, 0, 0, 0) := zp_l zq_243 rfl
theorem p_243_21 : zP1 243 21 = some (.iconst 2, 0, 0, 0) := zp_l zq_243 rfl
theorem p_243_22 : zP1 243 22 = some (.invokestatic 144, 218, 2, 0) := zp_r zq_243 rfl
theorem p_243_25 : zP1 243 25 = some (.aload_n 0, 0, 0, 0) := zp_l zq_243 rfl
theorem p_243_26 : zP1 243 26 = some (.getfield 9, 11, 0, 0) := zp_r zq_243 rfl
theorem p_243_29 : zP1 243 29 = some (.iconst 0, 0, 0, 0) := zp_l zq_243 rfl
theorem p_243_30 : zP1 243 30 = some (.iaload, 0, 0, 0) := zp_l zq_243 rfl
theorem p_243_31 : zP1 243 31 = some (.iastore, 0, 0, 0) := zp_l zq_243 rfl
theorem p_243_32 : zP1 243 32 = some (.iload_n 2, 0, 0, 0) := zp_l zq_243 rfl
theorem p_243_33 : zP1 243 33 = some (.ireturn, 0, 0, 0) := zp_l zq_243 rfl
theorem b_243_0 {x1 : Int} : Z e (d + 1) 243 0 [.ref 246, .int (iI x1), .retAddr 0] [] m = (Z e d 220 0 [.ref 246, .int (iI x1), .int (iI (m 247 0)), .retAddr 0, .retAddr 0] [] m).bind (ZK e (d + 1) 243 11 [.ref 246, .int (iI x1), .retAddr 0] [] m) := (s_al_0 p_243_0).trans <| (s_il_1 p_243_1).trans <| (s_al_0 p_243_2).trans <| (s_getr p_243_3 hs_246 (by decide) rfl).trans <| (s_const p_243_6).trans <| (s_aldc p_243_7 hs_247 (by decide) wl_0 (by decide)).trans <| (s_cv2 (Lc := [.ref 246, .int (iI x1), .int (iI (m 247 0)), .retAddr 0, .retAddr 0]) p_243_8 (by decide) (by decide) (zM_of zq_220) ⟨Nat.le_of_ble_eq_true rfl, Nat.le_of_ble_eq_true rfl⟩ rfl (m_rc hs_246 ⟨rfl, by decide⟩))
theorem b_243_11 {xs0 : Int} {u1 u2 : Value} (hu1 : u1.category = 1) : Z e (d + 1) 243 11 [.ref 246, u1, u2] [.int (iI xs0)] m = (if 0 ≤ (wr xs0) then ck (0 ≤ (wr ((266 + (44 * xs0)) + 2)) ∧ (wr ((266 + (44 * xs0)) + 2)) < 2737) (ri xs0 (um m 247 (wr ((266 + (44 * xs0)) + 2)) (m 247 0))) else ri xs0 m) := (s_is_2 hu1 p_243_11).trans <| (s_il_2 p_243_12).trans <| Eq.trans ((s_z_lt_f p_243_13 rfl rfl)) <| ite_cg ((s_al_0 p_243_16).trans <| (s_getr p_243_17 hs_246 (by decide) rfl).trans <| (s_il_2 p_243_20).trans <| (s_const p_243_21).trans <| (s_cs2 (Lc := [.int (iI xs0), .int (iI 2)]) p_243_22 (by decide) (zM_of zq_218) ⟨Nat.le_of_ble_eq_true rfl, Nat.le_of_ble_eq_true rfl⟩ rfl).trans <| (bd b_218_0).trans <| ri_k.trans <| (s_al_0 p_243_25).trans <| (s_getr p_243_26 hs_246 (by decide) rfl).trans <| (s_const p_243_29).trans <| (s_aldc p_243_30 hs_247 (by decide) wl_0 (by decide)).trans <| (s_ast 2737 p_243_31 hs_247 rfl).trans <| ck_cg fun k1 => (s_il_2 p_243_32).trans <| (s_reti p_243_33 (zM_of zq_243))) ((s_il_2 p_243_32).trans <| (s_reti p_243_33 (zM_of zq_243)))
-- M.read
theorem p_242_0 : zP1 242 0 = some (.iload_n 1, 0, 0, 0) := zp_l zq_242 rfl
theorem p_242_1 : zP1 242 1 = some (.iconst 0, 0, 0, 0) := zp_l zq_242 rfl
theorem p_242_2 : zP1 242 2 = some (.iconst 2, 0, 0, 0) := zp_l zq_242 rfl
theorem p_242_3 : zP1 242 3 = some (.invokestatic 100, 199, 3, 0) := zp_r zq_242 rfl
theorem p_242_6 : zP1 242 6 = some (.istore_n 2, 0, 0, 0) := zp_l zq_242 rfl
theorem p_242_7 : zP1 242 7 = some (.iload_n 2, 0, 0, 0) := zp_l zq_242 rfl
theorem p_242_8 : zP1 242 8 = some (.ifCond .eq 14, 0, 0, 0) := zp_l zq_242 rfl
theorem p_242_11 : zP1 242 11 = some (.aload_n 0, 0, 0, 0) := zp_l zq_242 rfl
theorem p_242_12 : zP1 242 12 = some (.invokevirtual 285, 241, 0, 11) := zp_r zq_242 rfl
theorem p_242_15 : zP1 242 15 = some (.ifCond .eq 7, 0, 0, 0) := zp_l zq_242 rfl
theorem p_242_18 : zP1 242 18 = some (.iconst 1, 0, 0, 0) := zp_l zq_242 rfl
theorem p_242_19 : zP1 242 19 = some (.goto 4, 0, 0, 0) := zp_l zq_242 rfl
theorem p_242_22 : zP1 242 22 = some (.iconst 0, 0, 0, 0) := zp_l zq_242 rfl
theorem p_242_23 : zP1 242 23 = some (.istore_n 3, 0, 0, 0) := zp_l zq_242 rfl
theorem p_242_24 : zP1 242 24 = some (.aload_n 0, 0, 0, 0) := zp_l zq_242 rfl
theorem p_242_25 : zP1 242 25 = some (.getfield 180, 11, 15, 0) := zp_r zq_242 rfl
theorem p_242_28 : zP1 242 28 = some (.istore 4, 0, 0, 0) := zp_l zq_242 rfl
theorem p_242_30 : zP1 242 30 = some (.aload_n 0, 0, 0, 0) := zp_l zq_242 rfl
theorem p_242_31 : zP1 242 31 = some (.iconst 0, 0, 0, 0) := zp_l zq_242 rfl
theorem p_242_32 : zP1 242 32 = some (.putfield 172, 11, 4, 0) := zp_r zq_242 rfl
theorem p_242_35 : zP1 242 35 = some (.iload_n 2, 0, 0, 0) := zp_l zq_242 rfl
theorem p_242_36 : zP1 242 36 = some (.ifCond .ne 5, 0, 0, 0) := zp_l zq_242 rfl
theorem p_242_39 : zP1 242 39 = some (.iconst (-1), 0, 0, 0) := zp_l zq_242 rfl
theorem p_242_40 : zP1 242 40 = some (.ireturn, 0, 0, 0) := zp_l zq_242 rfl
theorem p_242_41 : zP1 242 41 = some (.iload_n 3, 0, 0, 0) := zp_l zq_242 rfl
theorem p_242_42 : zP1 242 42 = some (.ifCond .ne 9, 0, 0, 0) := zp_l zq_242 rfl
theorem p_242_45 : zP1 242 45 = some (.bipush (-100), 0, 0, 0) := zp_l zq_242 rfl
theorem p_242_47 : zP1 242 47 = some (.iload 4, 0, 0, 0) := zp_l zq_242 rfl
theorem p_242_49 : zP1 242 49 = some (.isub, 0, 0, 0) := zp_l zq_242 rfl
theorem p_242_50 : zP1 242 50 = some (.ireturn, 0, 0, 0) := zp_l zq_242 rfl
theorem p_242_51 : zP1 242 51 = some (.aload_n 0, 0, 0, 0) := zp_l zq_242 rfl
theorem p_242_52 : zP1 242 52 = some (.getfield 9, 11, 0, 0) := zp_r zq_242 rfl
theorem p_242_55 : zP1 242 55 = some (.iconst 3, 0, 0, 0) := zp_l zq_242 rfl
theorem p_242_56 : zP1 242 56 = some (.iaload, 0, 0, 0) := zp_l zq_242 rfl
theorem p_242_57 : zP1 242 57 = some (.istore 5, 0, 0, 0) := zp_l zq_242 rfl
theorem p_242_59 : zP1 242 59 = some (.iload 5, 0, 0, 0) := zp_l zq_242 rfl
theorem p_242_61 : zP1 242 61 = some (.bipush 12, 0, 0, 0) := zp_l zq_242 rfl
theorem p_242_63 : zP1 242 63 = some (.if_icmp .ne 6, 0, 0, 0) := zp_l zq_242 rfl
theorem p_242_66 : zP1 242 66 = some (.bipush (-2), 0, 0, 0) := zp_l zq_242 rfl
theorem p_242_68 : zP1 242 68 = some (.ireturn, 0, 0, 0) := zp_l zq_242 rfl
theorem p_242_69 : zP1 242 69 = some (.aload_n 0, 0, 0, 0) := zp_l zq_242 rfl
theorem p_242_70 : zP1 242 70 = some (.iload_n 1, 0, 0, 0) := zp_l zq_242 rfl
theorem p_242_71 : zP1 242 71 = some (.invokevirtual 289, 243, 1, 11) := zp_r zq_242 rfl
theorem p_242_74 : zP1 242 74 = some (.pop, 0, 0, 0) := zp_l zq_242 rfl
theorem p_242_75 : zP1 242 75 = some (.aload_n 0, 0, 0, 0) := zp_l zq_242 rfl
theorem p_242_76 : zP1 242 76 = some (.getfield 9, 11, 0, 0) := zp_r zq_242 rfl
theorem p_242_79 : zP1 242 79 = some (.iload 5, 0, 0, 0) := zp_l zq_242 rfl
theorem p_242_81 : zP1 242 81 = some (.iconst 0, 0, 0, 0) := zp_l zq_242 rfl
theorem p_242_82 : zP1 242 82 = some (.invokestatic 144, 218, 2, 0) := zp_r zq_242 rfl
theorem p_242_85 : zP1 242 85 = some (.iload_n 1, 0, 0, 0) := zp_l zq_242 rfl
theorem p_242_86 : zP1 242 86 = some (.iastore, 0, 0, 0) := zp_l zq_242 rfl
theorem p_242_87 : zP1 242 87 = some (.aload_n 0, 0, 0, 0) := zp_l zq_242 rfl
theorem p_242_88 : zP1 242 88 = some (.getfield 9, 11, 0, 0) := zp_r zq_242 rfl
theorem p_242_91 : zP1 242 91 = some (.iload 5, 0, 0, 0) := zp_l zq_242 rfl
theorem p_242_93 : zP1 242 93 = some (.iconst 1, 0, 0, 0) := zp_l zq_242 rfl
theorem p_242_94 : zP1 242 94 = some (.invokestatic 144, 218, 2, 0) := zp_r zq_242 rfl
theorem p_242_97 : zP1 242 97 = some (.aload_n 0, 0, 0, 0) := zp_l zq_242 rfl
theorem p_242_98 : zP1 242 98 = some (.getfield 9, 11, 0, 0) := zp_r zq_242 rfl
theorem p_242_101 : zP1 242 101 = some (.iconst 0, 0, 0, 0) := zp_l zq_242 rfl
theorem p_242_102 : zP1 242 102 = some (.iaload, 0, 0, 0) := zp_l zq_242 rfl
theorem p_242_103 : zP1 242 103 = some (.iastore, 0, 0, 0) := zp_l zq_242 rfl
theorem p_242_104 : zP1 242 104 = some (.aload_n 0, 0, 0, 0) := zp_l zq_242 rfl
theorem p_242_105 : zP1 242 105 = some (.getfield 9, 11, 0, 0) := zp_r zq_242 rfl
theorem p_242_108 : zP1 242 108 = some (.iload 5, 0, 0, 0) := zp_l zq_242 rfl
theorem p_242_110 : zP1 242 110 = some (.iconst 2, 0, 0, 0) := zp_l zq_242 rfl
theorem p_242_111 : zP1 242 111 = some (.invokestatic 144, 218, 2, 0) := zp_r zq_242 rfl
theorem p_242_114 : zP1 242 114 = some (.bipush (-3), 0, 0, 0) := zp_l zq_242 rfl
theorem p_242_116 : zP1 242 116 = some (.iastore, 0, 0, 0) := zp_l zq_242 rfl
theorem p_242_117 : zP1 242 117 = some (.aload_n 0, 0, 0, 0) := zp_l zq_242 rfl
theorem p_242_118 : zP1 242 118 = some (.getfield 9, 11, 0, 0) := zp_r zq_242 rfl
theorem p_242_121 : zP1 242 121 = some (.iload 5, 0, 0, 0) := zp_l zq_242 rfl
theorem p_242_123 : zP1 242 123 = some (.iconst 3, 0, 0, 0) := zp_l zq_242 rfl
theorem p_242_124 : zP1 242 124 = some (.invokestatic 144, 218, 2, 0) := zp_r zq_242 rfl
theorem p_242_127 : zP1 242 127 = some (.aload_n 0, 0, 0, 0) := zp_l zq_242 rfl
theorem p_242_128 : zP1 242 128 = some (.getfield 279, 11, 21, 0) := zp_r zq_242 rfl
theorem p_242_131 : zP1 242 131 = some (.iastore, 0, 0, 0) := zp_l zq_242 rfl
theorem p_242_132 : zP1 242 132 = some (.iconst 0, 0, 0, 0) := zp_l zq_242 rfl
theorem p_242_133 : zP1 242 133 = some (.istore 6, 0, 0, 0) := zp_l zq_242 rfl
theorem p_242_135 : zP1 242 135 = some (.iload 6, 0, 0, 0) := zp_l zq_242 rfl
theorem p_242_137 : zP1 242 137 = some (.bipush 40, 0, 0, 0) := zp_l zq_242 rfl
theorem p_242_139 : zP1 242 139 = some (.if_icmp .ge 30, 0, 0, 0) := zp_l zq_242 rfl
theorem p_242_142 : zP1 242 142 = some (.aload_n 0, 0, 0, 0) := zp_l zq_242 rfl
theorem p_242_143 : zP1 242 143 = some (.getfield 9, 11, 0, 0) := zp_r zq_242 rfl
theorem p_242_146 : zP1 242 146 = some (.iload 5, 0, 0, 0) := zp_l zq_242 rfl
theorem p_242_148 : zP1 242 148 = some (.iconst 4, 0, 0, 0) := zp_l zq_242 rfl
theorem p_242_149 : zP1 242 149 = some (.iload 6, 0, 0, 0) := zp_l zq_242 rfl
theorem p_242_151 : zP1 242 151 = some (.iadd, 0, 0, 0) := zp_l zq_242 rfl
theorem p_242_152 : zP1 242 152 = some (.invokestatic 144, 218, 2, 0) := zp_r zq_242 rfl
theorem p_242_155 : zP1 242 155 = some (.aload_n 0, 0, 0, 0) := zp_l zq_242 rfl
theorem p_242_156 : zP1 242 156 = some (.getfield 44, 11, 22, 0) := zp_r zq_242 rfl
theorem p_242_159 : zP1 242 159 = some (.iload 6, 0, 0, 0) := zp_l zq_242 rfl
theorem p_242_161 : zP1 242 161 = some (.iaload, 0, 0, 0) := zp_l zq_242 rfl
theorem p_242_162 : zP1 242 162 = some (.iastore, 0, 0, 0) := zp_l zq_242 rfl
theorem p_242_163 : zP1 242 163 = some (.iinc 6 1, 0, 0, 0) := zp_l zq_242 rfl
theorem p_242_166 : zP1 242 166 = some (.goto (-31), 0, 0, 0) := zp_l zq_242 rfl
theorem p_242_169 : zP1 242 169 = some (.iconst 0, 0, 0, 0) := zp_l zq_242 rfl
theorem p_242_170 : zP1 242 170 = some (.istore 6, 0, 0, 0) := zp_l zq_242 rfl
theorem p_242_172 : zP1 242 172 = some (.iload 6, 0, 0, 0) := zp_l zq_242 rfl
theorem p_242_174 : zP1 242 174 = some (.aload_n 0, 0, 0, 0) := zp_l zq_242 rfl
theorem p_242_175 : zP1 242 175 = some (.getfield 207, 11, 20, 0) := zp_r zq_242 rfl
theorem p_242_178 : zP1 242 178 = some (.if_icmp .ge 33, 0, 0, 0) := zp_l zq_242 rfl
theorem p_242_181 : zP1 242 181 = some (.aload_n 0, 0, 0, 0) := zp_l zq_242 rfl
theorem p_242_182 : zP1 242 182 = some (.getfield 9, 11, 0, 0) := zp_r zq_242 rfl
theorem p_242_185 : zP1 242 185 = some (.sipush 1297, 0, 0, 0) := zp_l zq_242 rfl
theorem p_242_188 : zP1 242 188 = some (.bipush 120, 0, 0, 0) := zp_l zq_242 rfl
theorem p_242_190 : zP1 242 190 = some (.iload 5, 0, 0, 0) := zp_l zq_242 rfl
theorem p_242_192 : zP1 242 192 = some (.imul, 0, 0, 0) := zp_l zq_242 rfl
theorem p_242_193 : zP1 242 193 = some (.iadd, 0, 0, 0) := zp_l zq_242 rfl
theorem p_242_194 : zP1 242 194 = some (.iload 6, 0, 0, 0) := zp_l zq_242 rfl
theorem p_242_196 : zP1 242 196 = some (.iadd, 0, 0, 0) := zp_l zq_242 rfl
theorem p_242_197 : zP1 242 197 = some (.aload_n 0, 0, 0, 0) := zp_l zq_242 rfl
theorem p_242_198 : zP1 242 198 = some (.getfield 47, 11, 23, 0) := zp_r zq_242 rfl
theorem p_242_201 : zP1 242 201 = some (.iload 6, 0, 0, 0) := zp_l zq_242 rfl
theorem p_242_203 : zP1 242 203 = some (.iaload, 0, 0, 0) := zp_l zq_242 rfl
theorem p_242_204 : zP1 242 204 = some (.iastore, 0, 0, 0) := zp_l zq_242 rfl
theorem p_242_205 : zP1 242 205 = some (.iinc 6 1, 0, 0, 0) := zp_l zq_242 rfl
theorem p_242_208 : zP1 242 208 = some (.goto (-36), 0, 0, 0) := zp_l zq_242 rfl
theorem p_242_211 : zP1 242 211 = some (.aload_n 0, 0, 0, 0) := zp_l zq_242 rfl
theorem p_242_212 : zP1 242 212 = some (.getfield 9, 11, 0, 0) := zp_r zq_242 rfl
theorem p_242_215 : zP1 242 215 = some (.iconst 3, 0, 0, 0) := zp_l zq_242 rfl
theorem p_242_216 : zP1 242 216 = some (.dup2, 0, 0, 0) := zp_l zq_242 rfl
theorem p_242_217 : zP1 242 217 = some (.iaload, 0, 0, 0) := zp_l zq_242 rfl
theorem p_242_218 : zP1 242 218 = some (.iconst 1, 0, 0, 0) := zp_l zq_242 rfl
theorem p_242_219 : zP1 242 219 = some (.iadd, 0, 0, 0) := zp_l zq_242 rfl
theorem p_242_220 : zP1 242 220 = some (.iastore, 0, 0, 0) := zp_l zq_242 rfl
theorem p_242_221 : zP1 242 221 = some (.iload 5, 0, 0, 0) := zp_l zq_242 rfl
theorem p_242_223 : zP1 242 223 = some (.ireturn, 0, 0, 0) := zp_l zq_242 rfl
theorem b_242_0 {x1 : Int} : Z e (d + 1) 242 0 [.ref 246, .int (iI x1), .retAddr 0, .retAddr 0, .retAddr 0, .retAddr 0, .retAddr 0] [] m = (if ((wr 0) ≤ (wr x1)) ∧ ((wr x1) ≤ (wr 2)) then (Z e d 241 0 [.ref 246] [] m).bind (ZK e (d + 1) 242 15 [.ref 246, .int (iI x1), .int (iI (if ((wr 0) ≤ (wr x1)) ∧ ((wr x1) ≤ (wr 2)) then 1 else 0)), .retAddr 0, .retAddr 0, .retAddr 0, .retAddr 0] [] m) else Z e (d + 1) 242 23 [.ref 246, .int (iI x1), .int (iI (if ((wr 0) ≤ (wr x1)) ∧ ((wr x1) ≤ (wr 2)) then 1 else 0)), .retAddr 0, .retAddr 0, .retAddr 0, .retAddr 0] [.int (iI 0)] m) := (s_il_1 p_242_0).trans <| (s_const p_242_1).trans <| (s_const p_242_2).trans <| (s_cs3 (Lc := [.int (iI x1), .int (iI 0), .int (iI 2)]) p_242_3 (by decide) (zM_of zq_199) ⟨Nat.le_of_ble_eq_true rfl, Nat.le_of_ble_eq_true rfl⟩ rfl).trans <| (bd b_199_0).trans <| ri_k.trans <| (s_is_2 cat_i p_242_6).trans <| (s_il_2 p_242_7).trans <| Eq.trans ((s_beq_f p_242_8 rfl)) <| ite_cg ((s_al_0 p_242_11).trans <| (s_cv0 (Lc := [.ref 246]) p_242_12 (by decide) (by decide) (zM_of zq_241) ⟨Nat.le_of_ble_eq_true rfl, Nat.le_of_ble_eq_true rfl⟩ rfl (m_rc hs_246 ⟨rfl, by decide⟩))) ((s_const p_242_22).trans <| rfl)
theorem b_242_23 {x1 : Int} {x2 : Int} {xs0 : Int} {u3 u4 u5 u6 : Value} : Z e (d + 1) 242 23 [.ref 246, .int (iI x1), .int (iI x2), u3, u4, u5, u6] [.int (iI xs0)] m = (if (wr x2) = 0 then ri (-1) (um m 246 4 0) else (if (wr xs0) = 0 then ri ((-100) - (m 246 15)) (um m 246 4 0) else (if (wr ((um m 246 4 0) 247 3)) = 12 then ri (-2) (um m 246 4 0) else (Z e d 243 0 [.ref 246, .int (iI x1), .retAddr 0] [] (um m 246 4 0)).bind (ZK e (d + 1) 242 74 [.ref 246, .int (iI x1), .int (iI x2), .int (iI xs0), .int (iI (m 246 15)), .int (iI ((um m 246 4 0) 247 3)), u6] [] (um m 246 4 0))))) := (s_is_3 cat_i p_242_23).trans <| (s_al_0 p_242_24).trans <| (s_get p_242_25 hs_246 (by decide) rfl).trans <| (s_is_4 cat_i p_242_28).trans <| (s_al_0 p_242_30).trans <| (s_const p_242_31).trans <| (s_put p_242_32 hs_246 (by decide) rfl).trans <| (s_il_2 p_242_35).trans <| Eq.trans ((s_z_ne_f p_242_36 rfl rfl)) <| ite_cg ((s_const p_242_39).trans <| (s_reti p_242_40 (zM_of zq_242))) ((s_il_3 p_242_41).trans <| Eq.trans ((s_z_ne_f p_242_42 rfl rfl)) <| ite_cg ((s_bip p_242_45 rfl).trans <| (s_il_4 p_242_47).trans <| (s_isub p_242_49).trans <| (s_reti p_242_50 (zM_of zq_242))) ((s_al_0 p_242_51).trans <| (s_getr p_242_52 hs_246 (by decide) rfl).trans <| (s_const p_242_55).trans <| (s_aldc p_242_56 hs_247 (by decide) wl_3 (by decide)).trans <| (s_is_5 cat_i p_242_57).trans <| (s_il_5 p_242_59).trans <| (s_bip p_242_61 rfl).trans <| Eq.trans ((s_c_ne_f p_242_63 rfl rfl wl_12)) <| ite_cg ((s_bip p_242_66 rfl).trans <| (s_reti p_242_68 (zM_of zq_242))) ((s_al_0 p_242_69).trans <| (s_il_1 p_242_70).trans <| (s_cv1 (Lc := [.ref 246, .int (iI x1), .retAddr 0]) p_242_71 (by decide) (by decide) (zM_of zq_243) ⟨Nat.le_of_ble_eq_true rfl, Nat.le_of_ble_eq_true rfl⟩ rfl (m_rc hs_246 ⟨rfl, by decide⟩)))))
theorem b_242_135 {x5 : Int} {x6 : Int} {u1 u2 u3 u4 : Value} : Z e (d + 1) 242 135 [.ref 246, u1, u2, u3, u4, .int (iI x5), .int (iI x6)] [] m = (if (wr x6) < 40 then ck (0 ≤ (wr x6) ∧ (wr x6) < 40) (ck (0 ≤ (wr ((266 + (44 * x5)) + (4 + x6))) ∧ (wr ((266 + (44 * x5)) + (4 + x6))) < 2737) (Z e (d + 1) 242 135 [.ref 246, u1, u2, u3, u4, .int (iI x5), .int (iI (x6 + 1))] [] (um m 247 (wr ((266 + (44 * x5)) + (4 + x6))) (m 255 (wr x6))))) else Z e (d + 1) 242 172 [.ref 246, u1, u2, u3, u4, .int (iI x5), .int (iI 0)] [] m) := (s_il_6 p_242_135).trans <| (s_bip p_242_137 rfl).trans <| Eq.trans ((s_c_ge_f p_242_139 rfl rfl wl_40)) <| ite_cg ((s_al_0 p_242_142).trans <| (s_getr p_242_143 hs_246 (by decide) rfl).trans <| (s_il_5 p_242_146).trans <| (s_const p_242_148).trans <| (s_il_6 p_242_149).trans <| (s_iadd p_242_151).trans <| (s_cs2 (Lc := [.int (iI x5), .int (iI (4 + x6))]) p_242_152 (by decide) (zM_of zq_218) ⟨Nat.le_of_ble_eq_true rfl, Nat.le_of_ble_eq_true rfl⟩ rfl).trans <| (bd b_218_0).trans <| ri_k.trans <| (s_al_0 p_242_155).trans <| (s_getr p_242_156 hs_246 (by decide) rfl).trans <| (s_il_6 p_242_159).trans <| (s_ald 40 p_242_161 hs_255 rfl (by decide)).trans <| ck_cg fun k2 => (s_ast 2737 p_242_162 hs_247 rfl).trans <| ck_cg fun k3 => (s_inc_6 cat_i p_242_163).trans <| (s_goto p_242_166 rfl).trans <| rfl) ((s_const p_242_169).trans <| (s_is_6 cat_i p_242_170).trans <| rfl)
theorem b_242_172 {x5 : Int} {x6 : Int} {u1 u2 u3 u4 : Value} : Z e (d + 1) 242 172 [.ref 246, u1, u2, u3, u4, .int (iI x5), .int (iI x6)] [] m = (if (wr x6) < (wr (m 246 20)) then ck (0 ≤ (wr x6) ∧ (wr x6) < 120) (ck (0 ≤ (wr ((1297 + (120 * x5)) + x6)) ∧ (wr ((1297 + (120 * x5)) + x6)) < 2737) (Z e (d + 1) 242 172 [.ref 246, u1, u2, u3, u4, .int (iI x5), .int (iI (x6 + 1))] [] (um m 247 (wr ((1297 + (120 * x5)) + x6)) (m 256 (wr x6))))) else ri x5 (um m 247 3 ((m 247 3) + 1))) := (s_il_6 p_242_172).trans <| (s_al_0 p_242_174).trans <| (s_get p_242_175 hs_246 (by decide) rfl).trans <| Eq.trans ((s_c_ge_f p_242_178 rfl rfl rfl)) <| ite_cg ((s_al_0 p_242_181).trans <| (s_getr p_242_182 hs_246 (by decide) rfl).trans <| (s_sip p_242_185 rfl).trans <| (s_bip p_242_188 rfl).trans <| (s_il_5 p_242_190).trans <| (s_imul p_242_192).trans <| (s_iadd p_242_193).trans <| (s_il_6 p_242_194).trans <| (s_iadd p_242_196).trans <| (s_al_0 p_242_197).trans <| (s_getr p_242_198 hs_246 (by decide) rfl).trans <| (s_il_6 p_242_201).trans <| (s_ald 120 p_242_203 hs_256 rfl (by decide)).trans <| ck_cg fun k2 => (s_ast 2737 p_242_204 hs_247 rfl).trans <| ck_cg fun k3 => (s_inc_6 cat_i p_242_205).trans <| (s_goto p_242_208 rfl).trans <| rfl) ((s_al_0 p_242_211).trans <| (s_getr p_242_212 hs_246 (by decide) rfl).trans <| (s_const p_242_215).trans <| (s_dup2 cat_i cat_r p_242_216).trans <| (s_aldc p_242_217 hs_247 (by decide) wl_3 (by decide)).trans <| (s_const p_242_218).trans <| (s_iadd p_242_219).trans <| (s_astc p_242_220 hs_247 wl_3 (by decide)).trans <| (s_il_5 p_242_221).trans <| (s_reti p_242_223 (zM_of zq_242)))
theorem b_242_15 {x1 : Int} {x2 : Int} {xs0 : Int} {u3 u4 u5 u6 : Value} : Z e (d + 1) 242 15 [.ref 246, .int (iI x1), .int (iI x2), u3, u4, u5, u6] [.int (iI xs0)] m = Z e (d + 1) 242 23 [.ref 246, .int (iI x1), .int (iI x2), u3, u4, u5, u6] [.int (iI (if ¬ (wr xs0) = 0 then 1 else 0))] m := Eq.trans (Eq.trans ((s_z_eq_f p_242_15 rfl rfl)) <| Eq.trans (ite_cg ((s_const p_242_18).trans <| (s_goto p_242_19 rfl).trans <| rfl) ((s_const p_242_22).trans <| rfl)) (phi1 (fun z0 => Z e (d + 1) 242 23 [.ref 246, .int (iI x1), .int (iI x2), u3, u4, u5, u6] [.int (iI z0)] m))) <| rfl
theorem b_242_74 {x1 : Int} {x5 : Int} {xs0 : Int} {u2 u3 u4 u6 : Value} : Z e (d + 1) 242 74 [.ref 246, .int (iI x1), u2, u3, u4, .int (iI x5), u6] [.int (iI xs0)] m = ck (0 ≤ (wr ((266 + (44 * x5)) + 0)) ∧ (wr ((266 + (44 * x5)) + 0)) < 2737) (ck (0 ≤ (wr ((266 + (44 * x5)) + 1)) ∧ (wr ((266 + (44 * x5)) + 1)) < 2737) (ck (0 ≤ (wr ((266 + (44 * x5)) + 2)) ∧ (wr ((266 + (44 * x5)) + 2)) < 2737) (ck (0 ≤ (wr ((266 + (44 * x5)) + 3)) ∧ (wr ((266 + (44 * x5)) + 3)) < 2737) (Z e (d + 1) 242 135 [.ref 246, .int (iI x1), u2, u3, u4, .int (iI x5), .int (iI 0)] [] (um (um (um (um m 247 (wr ((266 + (44 * x5)) + 0)) x1) 247 (wr ((266 + (44 * x5)) + 1)) ((um m 247 (wr ((266 + (44 * x5)) + 0)) x1) 247 0)) 247 (wr ((266 + (44 * x5)) + 2)) (-3)) 247 (wr ((266 + (44 * x5)) + 3)) ((um (um (um m 247 (wr ((266 + (44 * x5)) + 0)) x1) 247 (wr ((266 + (44 * x5)) + 1)) ((um m 247 (wr ((266 + (44 * x5)) + 0)) x1) 247 0)) 247 (wr ((266 + (44 * x5)) + 2)) (-3)) 246 21)))))) := (s_pop cat_i p_242_74).trans <| (s_al_0 p_242_75).trans <| (s_getr p_242_76 hs_246 (by decide) rfl).trans <| (s_il_5 p_242_79).trans <| (s_const p_242_81).trans <| (s_cs2 (Lc := [.int (iI x5), .int (iI 0)]) p_242_82 (by decide) (zM_of zq_218) ⟨Nat.le_of_ble_eq_true rfl, Nat.le_of_ble_eq_true rfl⟩ rfl).trans <| (bd b_218_0).trans <| ri_k.trans <| (s_il_1 p_242_85).trans <| (s_ast 2737 p_242_86 hs_247 rfl).trans <| ck_cg fun k1 => (s_al_0 p_242_87).trans <| (s_getr p_242_88 hs_246 (by decide) rfl).trans <| (s_il_5 p_242_91).trans <| (s_const p_242_93).trans <| (s_cs2 (Lc := [.int (iI x5), .int (iI 1)]) p_242_94 (by decide) (zM_of zq_218) ⟨Nat.le_of_ble_eq_true rfl, Nat.le_of_ble_eq_true rfl⟩ rfl).trans <| (bd b_218_0).trans <| ri_k.trans <| (s_al_0 p_242_97).trans <| (s_getr p_242_98 hs_246 (by decide) rfl).trans <| (s_const p_242_101).trans <| (s_aldc p_242_102 hs_247 (by decide) wl_0 (by decide)).trans <| (s_ast 2737 p_242_103 hs_247 rfl).trans <| ck_cg fun k2 => (s_al_0 p_242_104).trans <| (s_getr p_242_105 hs_246 (by decide) rfl).trans <| (s_il_5 p_242_108).trans <| (s_const p_242_110).trans <| (s_cs2 (Lc := [.int (iI x5), .int (iI 2)]) p_242_111 (by decide) (zM_of zq_218) ⟨Nat.le_of_ble_eq_true rfl, Nat.le_of_ble_eq_true rfl⟩ rfl).trans <| (bd b_218_0).trans <| ri_k.trans <| (s_bip p_242_114 rfl).trans <| (s_ast 2737 p_242_116 hs_247 rfl).trans <| ck_cg fun k3 => (s_al_0 p_242_117).trans <| (s_getr p_242_118 hs_246 (by decide) rfl).trans <| (s_il_5 p_242_121).trans <| (s_const p_242_123).trans <| (s_cs2 (Lc := [.int (iI x5), .int (iI 3)]) p_242_124 (by decide) (zM_of zq_218) ⟨Nat.le_of_ble_eq_true rfl, Nat.le_of_ble_eq_true rfl⟩ rfl).trans <| (bd b_218_0).trans <| ri_k.trans <| (s_al_0 p_242_127).trans <| (s_get p_242_128 hs_246 (by decide) rfl).trans <| (s_ast 2737 p_242_131 hs_247 rfl).trans <| ck_cg fun k4 => (s_const p_242_132).trans <| (s_is_6 cat_i p_242_133).trans <| rfl
-- M.strike
theorem p_244_0 : zP1 244 0 = some (.iload_n 1, 0, 0, 0) := zp_l zq_244 rfl
theorem p_244_1 : zP1 244 1 = some (.iconst 0, 0, 0, 0) := zp_l zq_244 rfl
theorem p_244_2 : zP1 244 2 = some (.iconst 2, 0, 0, 0) := zp_l zq_244 rfl
theorem p_244_3 : zP1 244 3 = some (.invokestatic 100, 199, 3, 0) := zp_r zq_244 rfl
theorem p_244_6 : zP1 244 6 = some (.ifCond .ne 5, 0, 0, 0) := zp_l zq_244 rfl
theorem p_244_9 : zP1 244 9 = some (.iconst (-1), 0, 0, 0) := zp_l zq_244 rfl
theorem p_244_10 : zP1 244 10 = some (.ireturn, 0, 0, 0) := zp_l zq_244 rfl
theorem p_244_11 : zP1 244 11 = some (.aload_n 0, 0, 0, 0) := zp_l zq_244 rfl
theorem p_244_12 : zP1 244 12 = some (.iload_n 1, 0, 0, 0) := zp_l zq_244 rfl
theorem p_244_13 : zP1 244 13 = some (.invokevirtual 289, 243, 1, 11) := zp_r zq_244 rfl
theorem p_244_16 : zP1 244 16 = some (.istore_n 2, 0, 0, 0) := zp_l zq_244 rfl
theorem p_244_17 : zP1 244 17 = some (.iload_n 2, 0, 0, 0) := zp_l zq_244 rfl
theorem p_244_18 : zP1 244 18 = some (.ifCond .ge 8, 0, 0, 0) := zp_l zq_244 rfl
theorem p_244_21 : zP1 244 21 = some (.bipush (-3), 0, 0, 0) := zp_l zq_244 rfl
theorem p_244_23 : zP1 244 23 = some (.goto 4, 0, 0, 0) := zp_l zq_244 rfl
theorem p_244_26 : zP1 244 26 = some (.iload_n 2, 0, 0, 0) := zp_l zq_244 rfl
theorem p_244_27 : zP1 244 27 = some (.ireturn, 0, 0, 0) := zp_l zq_244 rfl
theorem b_244_0 {x1 : Int} : Z e (d + 1) 244 0 [.ref 246, .int (iI x1), .retAddr 0] [] m = (if ¬ (((wr 0) ≤ (wr x1)) ∧ ((wr x1) ≤ (wr 2))) then ri (-1) m else (Z e d 243 0 [.ref 246, .int (iI x1), .retAddr 0] [] m).bind (ZK e (d + 1) 244 16 [.ref 246, .int (iI x1), .retAddr 0] [] m)) := (s_il_1 p_244_0).trans <| (s_const p_244_1).trans <| (s_const p_244_2).trans <| (s_cs3 (Lc := [.int (iI x1), .int (iI 0), .int (iI 2)]) p_244_3 (by decide) (zM_of zq_199) ⟨Nat.le_of_ble_eq_true rfl, Nat.le_of_ble_eq_true rfl⟩ rfl).trans <| (bd b_199_0).trans <| ri_k.trans <| Eq.trans ((s_bne_f p_244_6 rfl)) <| ite_cg ((s_const p_244_9).trans <| (s_reti p_244_10 (zM_of zq_244))) ((s_al_0 p_244_11).trans <| (s_il_1 p_244_12).trans <| (s_cv1 (Lc := [.ref 246, .int (iI x1), .retAddr 0]) p_244_13 (by decide) (by decide) (zM_of zq_243) ⟨Nat.le_of_ble_eq_true rfl, Nat.le_of_ble_eq_true rfl⟩ rfl (m_rc hs_246 ⟨rfl, by decide⟩)))
theorem b_244_16 {xs0 : Int} {u0 u1 u2 : Value} (hu1 : u1.category = 1) : Z e (d + 1) 244 16 [u0, u1, u2] [.int (iI xs0)] m = ri (if (wr xs0) < 0 then (-3) else xs0) m := (s_is_2 hu1 p_244_16).trans <| (s_il_2 p_244_17).trans <| Eq.trans (Eq.trans ((s_z_ge_f p_244_18 rfl rfl)) <| Eq.trans (ite_cg ((s_bip p_244_21 rfl).trans <| (s_goto p_244_23 rfl).trans <| rfl) ((s_il_2 p_244_26).trans <| rfl)) (phi1 (fun z0 => Z e (d + 1) 244 27 [u0, u1, .int (iI xs0)] [.int (iI z0)] m))) <| (s_reti p_244_27 (zM_of zq_244))
-- M.version
theorem p_245_0 : zP1 245 0 = some (.iload_n 1, 0, 0, 0) := zp_l zq_245 rfl
theorem p_245_1 : zP1 245 1 = some (.iconst 0, 0, 0, 0) := zp_l zq_245 rfl
theorem p_245_2 : zP1 245 2 = some (.aload_n 0, 0, 0, 0) := zp_l zq_245 rfl
theorem p_245_3 : zP1 245 3 = some (.getfield 9, 11, 0, 0) := zp_r zq_245 rfl
theorem p_245_6 : zP1 245 6 = some (.iconst 3, 0, 0, 0) := zp_l zq_245 rfl
theorem p_245_7 : zP1 245 7 = some (.iaload, 0, 0, 0) := zp_l zq_245 rfl
theorem p_245_8 : zP1 245 8 = some (.iconst 1, 0, 0, 0) := zp_l zq_245 rfl
theorem p_245_9 : zP1 245 9 = some (.isub, 0, 0, 0) := zp_l zq_245 rfl
theorem p_245_10 : zP1 245 10 = some (.invokestatic 100, 199, 3, 0) := zp_r zq_245 rfl
theorem p_245_13 : zP1 245 13 = some (.ifCond .ne 5, 0, 0, 0) := zp_l zq_245 rfl
theorem p_245_16 : zP1 245 16 = some (.iconst (-1), 0, 0, 0) := zp_l zq_245 rfl
theorem p_245_17 : zP1 245 17 = some (.ireturn, 0, 0, 0) := zp_l zq_245 rfl
theorem p_245_18 : zP1 245 18 = some (.aload_n 0, 0, 0, 0) := zp_l zq_245 rfl
theorem p_245_19 : zP1 245 19 = some (.getfield 9, 11, 0, 0) := zp_r zq_245 rfl
theorem p_245_22 : zP1 245 22 = some (.iload_n 1, 0, 0, 0) := zp_l zq_245 rfl
theorem p_245_23 : zP1 245 23 = some (.iconst 3, 0, 0, 0) := zp_l zq_245 rfl
theorem p_245_24 : zP1 245 24 = some (.invokestatic 144, 218, 2, 0) := zp_r zq_245 rfl
theorem p_245_27 : zP1 245 27 = some (.iaload, 0, 0, 0) := zp_l zq_245 rfl
theorem p_245_28 : zP1 245 28 = some (.istore_n 3, 0, 0, 0) := zp_l zq_245 rfl
theorem p_245_29 : zP1 245 29 = some (.iload_n 2, 0, 0, 0) := zp_l zq_245 rfl
theorem p_245_30 : zP1 245 30 = some (.tableswitch 65 0 3 #[30, 41, 43, 54], 0, 0, 0) := zp_l zq_245 rfl
theorem p_245_60 : zP1 245 60 = some (.aload_n 0, 0, 0, 0) := zp_l zq_245 rfl
theorem p_245_61 : zP1 245 61 = some (.getfield 9, 11, 0, 0) := zp_r zq_245 rfl
theorem p_245_64 : zP1 245 64 = some (.iload_n 1, 0, 0, 0) := zp_l zq_245 rfl
theorem p_245_65 : zP1 245 65 = some (.iconst 0, 0, 0, 0) := zp_l zq_245 rfl
theorem p_245_66 : zP1 245 66 = some (.invokestatic 144, 218, 2, 0) := zp_r zq_245 rfl
theorem p_245_69 : zP1 245 69 = some (.iaload, 0, 0, 0) := zp_l zq_245 rfl
theorem p_245_70 : zP1 245 70 = some (.ireturn, 0, 0, 0) := zp_l zq_245 rfl
theorem p_245_71 : zP1 245 71 = some (.iload_n 3, 0, 0, 0) := zp_l zq_245 rfl
theorem p_245_72 : zP1 245 72 = some (.ireturn, 0, 0, 0) := zp_l zq_245 rfl
theorem p_245_73 : zP1 245 73 = some (.aload_n 0, 0, 0, 0) := zp_l zq_245 rfl
theorem p_245_74 : zP1 245 74 = some (.getfield 9, 11, 0, 0) := zp_r zq_245 rfl
theorem p_245_77 : zP1 245 77 = some (.iload_n 1, 0, 0, 0) := zp_l zq_245 rfl
theorem p_245_78 : zP1 245 78 = some (.iconst 1, 0, 0, 0) := zp_l zq_245 rfl
theorem p_245_79 : zP1 245 79 = some (.invokestatic 144, 218, 2, 0) := zp_r zq_245 rfl
theorem p_245_82 : zP1 245 82 = some (.iaload, 0, 0, 0) := zp_l zq_245 rfl
theorem p_245_83 : zP1 245 83 = some (.ireturn, 0, 0, 0) := zp_l zq_245 rfl
theorem p_245_84 : zP1 245 84 = some (.aload_n 0, 0, 0, 0) := zp_l zq_245 rfl
theorem p_245_85 : zP1 245 85 = some (.getfield 9, 11, 0, 0) := zp_r zq_245 rfl
theorem p_245_88 : zP1 245 88 = some (.iload_n 1, 0, 0, 0) := zp_l zq_245 rfl
theorem p_245_89 : zP1 245 89 = some (.iconst 2, 0, 0, 0) := zp_l zq_245 rfl
theorem p_245_90 : zP1 245 90 = some (.invokestatic 144, 218, 2, 0) := zp_r zq_245 rfl
theorem p_245_93 : zP1 245 93 = some (.iaload, 0, 0, 0) := zp_l zq_245 rfl
theorem p_245_94 : zP1 245 94 = some (.ireturn, 0, 0, 0) := zp_l zq_245 rfl
theorem p_245_95 : zP1 245 95 = some (.iload_n 2, 0, 0, 0) := zp_l zq_245 rfl
theorem p_245_96 : zP1 245 96 = some (.bipush 10, 0, 0, 0) := zp_l zq_245 rfl
theorem p_245_98 : zP1 245 98 = some (.isub, 0, 0, 0) := zp_l zq_245 rfl
theorem p_245_99 : zP1 245 99 = some (.istore 4, 0, 0, 0) := zp_l zq_245 rfl
theorem p_245_101 : zP1 245 101 = some (.iload_n 2, 0, 0, 0) := zp_l zq_245 rfl
theorem p_245_102 : zP1 245 102 = some (.bipush 10, 0, 0, 0) := zp_l zq_245 rfl
theorem p_245_104 : zP1 245 104 = some (.if_icmp .lt 9, 0, 0, 0) := zp_l zq_245 rfl
theorem p_245_107 : zP1 245 107 = some (.iload 4, 0, 0, 0) := zp_l zq_245 rfl
theorem p_245_109 : zP1 245 109 = some (.iload_n 3, 0, 0, 0) := zp_l zq_245 rfl
theorem p_245_110 : zP1 245 110 = some (.if_icmp .lt 7, 0, 0, 0) := zp_l zq_245 rfl
theorem p_245_113 : zP1 245 113 = some (.iconst (-1), 0, 0, 0) := zp_l zq_245 rfl
theorem p_245_114 : zP1 245 114 = some (.goto 40, 0, 0, 0) := zp_l zq_245 rfl
theorem p_245_117 : zP1 245 117 = some (.sipush 1000, 0, 0, 0) := zp_l zq_245 rfl
theorem p_245_120 : zP1 245 120 = some (.aload_n 0, 0, 0, 0) := zp_l zq_245 rfl
theorem p_245_121 : zP1 245 121 = some (.getfield 9, 11, 0, 0) := zp_r zq_245 rfl
theorem p_245_124 : zP1 245 124 = some (.iload_n 1, 0, 0, 0) := zp_l zq_245 rfl
theorem p_245_125 : zP1 245 125 = some (.iconst 4, 0, 0, 0) := zp_l zq_245 rfl
theorem p_245_126 : zP1 245 126 = some (.iconst 4, 0, 0, 0) := zp_l zq_245 rfl
theorem p_245_127 : zP1 245 127 = some (.iload 4, 0, 0, 0) := zp_l zq_245 rfl
theorem p_245_129 : zP1 245 129 = some (.imul, 0, 0, 0) := zp_l zq_245 rfl
theorem p_245_130 : zP1 245 130 = some (.iadd, 0, 0, 0) := zp_l zq_245 rfl
theorem p_245_131 : zP1 245 131 = some (.invokestatic 144, 218, 2, 0) := zp_r zq_245 rfl
theorem p_245_134 : zP1 245 134 = some (.iaload, 0, 0, 0) := zp_l zq_245 rfl
theorem p_245_135 : zP1 245 135 = some (.imul, 0, 0, 0) := zp_l zq_245 rfl
theorem p_245_136 : zP1 245 136 = some (.aload_n 0, 0, 0, 0) := zp_l zq_245 rfl
theorem p_245_137 : zP1 245 137 = some (.getfield 9, 11, 0, 0) := zp_r zq_245 rfl
theorem p_245_140 : zP1 245 140 = some (.iload_n 1, 0, 0, 0) := zp_l zq_245 rfl
theorem p_245_141 : zP1 245 141 = some (.iconst 4, 0, 0, 0) := zp_l zq_245 rfl
theorem p_245_142 : zP1 245 142 = some (.iconst 4, 0, 0, 0) := zp_l zq_245 rfl
theorem p_245_143 : zP1 245 143 = some (.iload 4, 0, 0, 0) := zp_l zq_245 rfl
theorem p_245_145 : zP1 245 145 = some (.imul, 0, 0, 0) := zp_l zq_245 rfl
theorem p_245_146 : zP1 245 146 = some (.iadd, 0, 0, 0) := zp_l zq_245 rfl
theorem p_245_147 : zP1 245 147 = some (.iconst 1, 0, 0, 0) := zp_l zq_245 rfl
theorem p_245_148 : zP1 245 148 = some (.iadd, 0, 0, 0) := zp_l zq_245 rfl
theorem p_245_149 : zP1 245 149 = some (.invokestatic 144, 218, 2, 0) := zp_r zq_245 rfl
theorem p_245_152 : zP1 245 152 = some (.iaload, 0, 0, 0) := zp_l zq_245 rfl
theorem p_245_153 : zP1 245 153 = some (.iadd, 0, 0, 0) := zp_l zq_245 rfl
theorem p_245_154 : zP1 245 154 = some (.ireturn, 0, 0, 0) := zp_l zq_245 rfl
theorem b_245_0 {x1 : Int} {x2 : Int} : Z e (d + 1) 245 0 [.ref 246, .int (iI x1), .int (iI x2), .retAddr 0, .retAddr 0] [] m = (if ¬ (((wr 0) ≤ (wr x1)) ∧ ((wr x1) ≤ (wr ((m 247 3) - 1)))) then ri (-1) m else ck (0 ≤ (wr ((266 + (44 * x1)) + 3)) ∧ (wr ((266 + (44 * x1)) + 3)) < 2737) ((if (wr x2) = 0 then ck (0 ≤ (wr ((266 + (44 * x1)) + 0)) ∧ (wr ((266 + (44 * x1)) + 0)) < 2737) (ri (m 247 (wr ((266 + (44 * x1)) + 0))) m) else (if (wr x2) = 1 then ri (m 247 (wr ((266 + (44 * x1)) + 3))) m else (if (wr x2) = 2 then ck (0 ≤ (wr ((266 + (44 * x1)) + 1)) ∧ (wr ((266 + (44 * x1)) + 1)) < 2737) (ri (m 247 (wr ((266 + (44 * x1)) + 1))) m) else (if (wr x2) = 3 then ck (0 ≤ (wr ((266 + (44 * x1)) + 2)) ∧ (wr ((266 + (44 * x1)) + 2)) < 2737) (ri (m 247 (wr ((266 + (44 * x1)) + 2))) m) else ck ((¬ (((wr x2) < 10) ∨ ((wr (m 247 (wr ((266 + (44 * x1)) + 3)))) ≤ (wr (x2 - 10))))) → ((0 ≤ (wr ((266 + (44 * x1)) + (4 + (4 * (x2 - 10))))) ∧ (wr ((266 + (44 * x1)) + (4 + (4 * (x2 - 10))))) < 2737) ∧ (0 ≤ (wr ((266 + (44 * x1)) + ((4 + (4 * (x2 - 10))) + 1))) ∧ (wr ((266 + (44 * x1)) + ((4 + (4 * (x2 - 10))) + 1))) < 2737))) (ri (if ((wr x2) < 10) ∨ ((wr (m 247 (wr ((266 + (44 * x1)) + 3)))) ≤ (wr (x2 - 10))) then (-1) else ((1000 * (m 247 (wr ((266 + (44 * x1)) + (4 + (4 * (x2 - 10))))))) + (m 247 (wr ((266 + (44 * x1)) + ((4 + (4 * (x2 - 10))) + 1)))))) m))))))) := (s_il_1 p_245_0).trans <| (s_const p_245_1).trans <| (s_al_0 p_245_2).trans <| (s_getr p_245_3 hs_246 (by decide) rfl).trans <| (s_const p_245_6).trans <| (s_aldc p_245_7 hs_247 (by decide) wl_3 (by decide)).trans <| (s_const p_245_8).trans <| (s_isub p_245_9).trans <| (s_cs3 (Lc := [.int (iI x1), .int (iI 0), .int (iI ((m 247 3) - 1))]) p_245_10 (by decide) (zM_of zq_199) ⟨Nat.le_of_ble_eq_true rfl, Nat.le_of_ble_eq_true rfl⟩ rfl).trans <| (bd b_199_0).trans <| ri_k.trans <| Eq.trans ((s_bne_f p_245_13 rfl)) <| ite_cg ((s_const p_245_16).trans <| (s_reti p_245_17 (zM_of zq_245))) ((s_al_0 p_245_18).trans <| (s_getr p_245_19 hs_246 (by decide) rfl).trans <| (s_il_1 p_245_22).trans <| (s_const p_245_23).trans <| (s_cs2 (Lc := [.int (iI x1), .int (iI 3)]) p_245_24 (by decide) (zM_of zq_218) ⟨Nat.le_of_ble_eq_true rfl, Nat.le_of_ble_eq_true rfl⟩ rfl).trans <| (bd b_218_0).trans <| ri_k.trans <| (s_ald 2737 p_245_27 hs_247 rfl (by decide)).trans <| ck_cg fun k1 => (s_is_3 cat_i p_245_28).trans <| (s_il_2 p_245_29).trans <| (s_tsw (ts := [(0, 60), (1, 71), (2, 73), (3, 84)]) (td := 95) p_245_30 rfl (by decide) rfl rfl).trans <| ite_cg ((s_al_0 p_245_60).trans <| (s_getr p_245_61 hs_246 (by decide) rfl).trans <| (s_il_1 p_245_64).trans <| (s_const p_245_65).trans <| (s_cs2 (Lc := [.int (iI x1), .int (iI 0)]) p_245_66 (by decide) (zM_of zq_218) ⟨Nat.le_of_ble_eq_true rfl, Nat.le_of_ble_eq_true rfl⟩ rfl).trans <| (bd b_218_0).trans <| ri_k.trans <| (s_ald 2737 p_245_69 hs_247 rfl (by decide)).trans <| ck_cg fun k2 => (s_reti p_245_70 (zM_of zq_245))) (ite_cg ((s_il_3 p_245_71).trans <| (s_reti p_245_72 (zM_of zq_245))) (ite_cg ((s_al_0 p_245_73).trans <| (s_getr p_245_74 hs_246 (by decide) rfl).trans <| (s_il_1 p_245_77).trans <| (s_const p_245_78).trans <| (s_cs2 (Lc := [.int (iI x1), .int (iI 1)]) p_245_79 (by decide) (zM_of zq_218) ⟨Nat.le_of_ble_eq_true rfl, Nat.le_of_ble_eq_true rfl⟩ rfl).trans <| (bd b_218_0).trans <| ri_k.trans <| (s_ald 2737 p_245_82 hs_247 rfl (by decide)).trans <| ck_cg fun k3 => (s_reti p_245_83 (zM_of zq_245))) (ite_cg ((s_al_0 p_245_84).trans <| (s_getr p_245_85 hs_246 (by decide) rfl).trans <| (s_il_1 p_245_88).trans <| (s_const p_245_89).trans <| (s_cs2 (Lc := [.int (iI x1), .int (iI 2)]) p_245_90 (by decide) (zM_of zq_218) ⟨Nat.le_of_ble_eq_true rfl, Nat.le_of_ble_eq_true rfl⟩ rfl).trans <| (bd b_218_0).trans <| ri_k.trans <| (s_ald 2737 p_245_93 hs_247 rfl (by decide)).trans <| ck_cg fun k4 => (s_reti p_245_94 (zM_of zq_245))) ((s_il_2 p_245_95).trans <| (s_bip p_245_96 rfl).trans <| (s_isub p_245_98).trans <| (s_is_4 cat_i p_245_99).trans <| (s_il_2 p_245_101).trans <| (s_bip p_245_102 rfl).trans <| Eq.trans (Eq.trans (Eq.trans (s_c_lt_t p_245_104 rfl rfl wl_10) <| Eq.trans (ite_cg rfl ((s_il_4 p_245_107).trans <| (s_il_3 p_245_109).trans <| (s_c_lt_f p_245_110 rfl rfl rfl))) co_or) <| Eq.trans (ite_cg ((s_const p_245_113).trans <| (s_goto p_245_114 rfl).trans <| rfl) ((s_sip p_245_117 rfl).trans <| (s_al_0 p_245_120).trans <| (s_getr p_245_121 hs_246 (by decide) rfl).trans <| (s_il_1 p_245_124).trans <| (s_const p_245_125).trans <| (s_const p_245_126).trans <| (s_il_4 p_245_127).trans <| (s_imul p_245_129).trans <| (s_iadd p_245_130).trans <| (s_cs2 (Lc := [.int (iI x1), .int (iI (4 + (4 * (x2 - 10))))]) p_245_131 (by decide) (zM_of zq_218) ⟨Nat.le_of_ble_eq_true rfl, Nat.le_of_ble_eq_true rfl⟩ rfl).trans <| (bd b_218_0).trans <| ri_k.trans <| (s_ald 2737 p_245_134 hs_247 rfl (by decide)).trans <| Eq.trans (ck_cg fun k5 => (s_imul p_245_135).trans <| (s_al_0 p_245_136).trans <| (s_getr p_245_137 hs_246 (by decide) rfl).trans <| (s_il_1 p_245_140).trans <| (s_const p_245_141).trans <| (s_const p_245_142).trans <| (s_il_4 p_245_143).trans <| (s_imul p_245_145).trans <| (s_iadd p_245_146).trans <| (s_const p_245_147).trans <| (s_iadd p_245_148).trans <| (s_cs2 (Lc := [.int (iI x1), .int (iI ((4 + (4 * (x2 - 10))) + 1))]) p_245_149 (by decide) (zM_of zq_218) ⟨Nat.le_of_ble_eq_true rfl, Nat.le_of_ble_eq_true rfl⟩ rfl).trans <| (bd b_218_0).trans <| ri_k.trans <| (s_ald 2737 p_245_152 hs_247 rfl (by decide)).trans <| ck_cg fun k6 => (s_iadd p_245_153).trans <| rfl) ck_ck)) <| Eq.trans ck_b <| ck_cg fun _ => (phi1 (fun z0 => Z e (d + 1) 245 154 [.ref 246, .int (iI x1), .int (iI x2), .int (iI (m 247 (wr ((266 + (44 * x1)) + 3)))), .int (iI (x2 - 10))] [.int (iI z0)] m))) <| ck_cg fun _ => (s_reti p_245_154 (zM_of zq_245)))))))
-- M.deed
theorem p_246_0 : zP1 246 0 = some (.aload_n 0, 0, 0, 0) := zp_l zq_246 rfl
theorem p_246_1 : zP1 246 1 = some (.iload_n 1, 0, 0, 0) := zp_l zq_246 rfl
theorem p_246_2 : zP1 246 2 = some (.invokevirtual 138, 202, 1, 11) := zp_r zq_246 rfl
theorem p_246_5 : zP1 246 5 = some (.ifCond .eq 52, 0, 0, 0) := zp_l zq_246 rfl
theorem p_246_8 : zP1 246 8 = some (.iload_n 2, 0, 0, 0) := zp_l zq_246 rfl
theorem p_246_9 : zP1 246 9 = some (.iconst 0, 0, 0, 0) := zp_l zq_246 rfl
theorem p_246_10 : zP1 246 10 = some (.iconst 5, 0, 0, 0) := zp_l zq_246 rfl
theorem p_246_11 : zP1 246 11 = some (.invokestatic 100, 199, 3, 0) := zp_r zq_246 rfl
theorem p_246_14 : zP1 246 14 = some (.ifCond .eq 43, 0, 0, 0) := zp_l zq_246 rfl
theorem p_246_17 : zP1 246 17 = some (.iload_n 3, 0, 0, 0) := zp_l zq_246 rfl
theorem p_246_18 : zP1 246 18 = some (.iconst (-1), 0, 0, 0) := zp_l zq_246 rfl
theorem p_246_19 : zP1 246 19 = some (.if_icmp .eq 11, 0, 0, 0) := zp_l zq_246 rfl
theorem p_246_22 : zP1 246 22 = some (.aload_n 0, 0, 0, 0) := zp_l zq_246 rfl
theorem p_246_23 : zP1 246 23 = some (.iload_n 3, 0, 0, 0) := zp_l zq_246 rfl
theorem p_246_24 : zP1 246 24 = some (.invokevirtual 138, 202, 1, 11) := zp_r zq_246 rfl
theorem p_246_27 : zP1 246 27 = some (.ifCond .eq 30, 0, 0, 0) := zp_l zq_246 rfl
theorem p_246_30 : zP1 246 30 = some (.iload 4, 0, 0, 0) := zp_l zq_246 rfl
theorem p_246_32 : zP1 246 32 = some (.iconst 0, 0, 0, 0) := zp_l zq_246 rfl
theorem p_246_33 : zP1 246 33 = some (.aload_n 0, 0, 0, 0) := zp_l zq_246 rfl
theorem p_246_34 : zP1 246 34 = some (.getfield 9, 11, 0, 0) := zp_r zq_246 rfl
theorem p_246_37 : zP1 246 37 = some (.iconst 0, 0, 0, 0) := zp_l zq_246 rfl
theorem p_246_38 : zP1 246 38 = some (.iaload, 0, 0, 0) := zp_l zq_246 rfl
theorem p_246_39 : zP1 246 39 = some (.invokestatic 100, 199, 3, 0) := zp_r zq_246 rfl
theorem p_246_42 : zP1 246 42 = some (.ifCond .eq 15, 0, 0, 0) := zp_l zq_246 rfl
theorem p_246_45 : zP1 246 45 = some (.iload 5, 0, 0, 0) := zp_l zq_246 rfl
theorem p_246_47 : zP1 246 47 = some (.invokestatic 110, 200, 1, 0) := zp_r zq_246 rfl
theorem p_246_50 : zP1 246 50 = some (.ifCond .eq 7, 0, 0, 0) := zp_l zq_246 rfl
theorem p_246_53 : zP1 246 53 = some (.iconst 1, 0, 0, 0) := zp_l zq_246 rfl
theorem p_246_54 : zP1 246 54 = some (.goto 4, 0, 0, 0) := zp_l zq_246 rfl
theorem p_246_57 : zP1 246 57 = some (.iconst 0, 0, 0, 0) := zp_l zq_246 rfl
theorem p_246_58 : zP1 246 58 = some (.istore 7, 0, 0, 0) := zp_l zq_246 rfl
theorem p_246_60 : zP1 246 60 = some (.iload 7, 0, 0, 0) := zp_l zq_246 rfl
theorem p_246_62 : zP1 246 62 = some (.ifCond .eq 16, 0, 0, 0) := zp_l zq_246 rfl
theorem p_246_65 : zP1 246 65 = some (.iload 6, 0, 0, 0) := zp_l zq_246 rfl
theorem p_246_67 : zP1 246 67 = some (.iload 4, 0, 0, 0) := zp_l zq_246 rfl
theorem p_246_69 : zP1 246 69 = some (.sipush 9999, 0, 0, 0) := zp_l zq_246 rfl
theorem p_246_72 : zP1 246 72 = some (.invokestatic 100, 199, 3, 0) := zp_r zq_246 rfl
theorem p_246_75 : zP1 246 75 = some (.ifCond .ne 5, 0, 0, 0) := zp_l zq_246 rfl
theorem p_246_78 : zP1 246 78 = some (.iconst (-1), 0, 0, 0) := zp_l zq_246 rfl
theorem p_246_79 : zP1 246 79 = some (.ireturn, 0, 0, 0) := zp_l zq_246 rfl
theorem p_246_80 : zP1 246 80 = some (.aload_n 0, 0, 0, 0) := zp_l zq_246 rfl
theorem p_246_81 : zP1 246 81 = some (.getfield 9, 11, 0, 0) := zp_r zq_246 rfl
theorem p_246_84 : zP1 246 84 = some (.iconst 4, 0, 0, 0) := zp_l zq_246 rfl
theorem p_246_85 : zP1 246 85 = some (.iaload, 0, 0, 0) := zp_l zq_246 rfl
theorem p_246_86 : zP1 246 86 = some (.istore 8, 0, 0, 0) := zp_l zq_246 rfl
theorem p_246_88 : zP1 246 88 = some (.iload 8, 0, 0, 0) := zp_l zq_246 rfl
theorem p_246_90 : zP1 246 90 = some (.bipush 24, 0, 0, 0) := zp_l zq_246 rfl
theorem p_246_92 : zP1 246 92 = some (.if_icmp .ne 6, 0, 0, 0) := zp_l zq_246 rfl
theorem p_246_95 : zP1 246 95 = some (.bipush (-2), 0, 0, 0) := zp_l zq_246 rfl
theorem p_246_97 : zP1 246 97 = some (.ireturn, 0, 0, 0) := zp_l zq_246 rfl
theorem p_246_98 : zP1 246 98 = some (.aload_n 0, 0, 0, 0) := zp_l zq_246 rfl
theorem p_246_99 : zP1 246 99 = some (.getfield 9, 11, 0, 0) := zp_r zq_246 rfl
theorem p_246_102 : zP1 246 102 = some (.iload 8, 0, 0, 0) := zp_l zq_246 rfl
theorem p_246_104 : zP1 246 104 = some (.iconst 0, 0, 0, 0) := zp_l zq_246 rfl
theorem p_246_105 : zP1 246 105 = some (.invokestatic 141, 205, 2, 0) := zp_r zq_246 rfl
theorem p_246_108 : zP1 246 108 = some (.iload_n 1, 0, 0, 0) := zp_l zq_246 rfl
theorem p_246_109 : zP1 246 109 = some (.iastore, 0, 0, 0) := zp_l zq_246 rfl
theorem p_246_110 : zP1 246 110 = some (.aload_n 0, 0, 0, 0) := zp_l zq_246 rfl
theorem p_246_111 : zP1 246 111 = some (.getfield 9, 11, 0, 0) := zp_r zq_246 rfl
theorem p_246_114 : zP1 246 114 = some (.iload 8, 0, 0, 0) := zp_l zq_246 rfl
theorem p_246_116 : zP1 246 116 = some (.iconst 1, 0, 0, 0) := zp_l zq_246 rfl
theorem p_246_117 : zP1 246 117 = some (.invokestatic 141, 205, 2, 0) := zp_r zq_246 rfl
theorem p_246_120 : zP1 246 120 = some (.iload_n 2, 0, 0, 0) := zp_l zq_246 rfl
theorem p_246_121 : zP1 246 121 = some (.iastore, 0, 0, 0) := zp_l zq_246 rfl
theorem p_246_122 : zP1 246 122 = some (.aload_n 0, 0, 0, 0) := zp_l zq_246 rfl
theorem p_246_123 : zP1 246 123 = some (.getfield 9, 11, 0, 0) := zp_r zq_246 rfl
theorem p_246_126 : zP1 246 126 = some (.iload 8, 0, 0, 0) := zp_l zq_246 rfl
theorem p_246_128 : zP1 246 128 = some (.iconst 2, 0, 0, 0) := zp_l zq_246 rfl
theorem p_246_129 : zP1 246 129 = some (.invokestatic 141, 205, 2, 0) := zp_r zq_246 rfl
theorem p_246_132 : zP1 246 132 = some (.iload_n 3, 0, 0, 0) := zp_l zq_246 rfl
theorem p_246_133 : zP1 246 133 = some (.iastore, 0, 0, 0) := zp_l zq_246 rfl
theorem p_246_134 : zP1 246 134 = some (.aload_n 0, 0, 0, 0) := zp_l zq_246 rfl
theorem p_246_135 : zP1 246 135 = some (.getfield 9, 11, 0, 0) := zp_r zq_246 rfl
theorem p_246_138 : zP1 246 138 = some (.iload 8, 0, 0, 0) := zp_l zq_246 rfl
theorem p_246_140 : zP1 246 140 = some (.iconst 3, 0, 0, 0) := zp_l zq_246 rfl
theorem p_246_141 : zP1 246 141 = some (.invokestatic 141, 205, 2, 0) := zp_r zq_246 rfl
theorem p_246_144 : zP1 246 144 = some (.iload 4, 0, 0, 0) := zp_l zq_246 rfl
theorem p_246_146 : zP1 246 146 = some (.iastore, 0, 0, 0) := zp_l zq_246 rfl
theorem p_246_147 : zP1 246 147 = some (.aload_n 0, 0, 0, 0) := zp_l zq_246 rfl
theorem p_246_148 : zP1 246 148 = some (.getfield 9, 11, 0, 0) := zp_r zq_246 rfl
theorem p_246_151 : zP1 246 151 = some (.iload 8, 0, 0, 0) := zp_l zq_246 rfl
theorem p_246_153 : zP1 246 153 = some (.iconst 4, 0, 0, 0) := zp_l zq_246 rfl
theorem p_246_154 : zP1 246 154 = some (.invokestatic 141, 205, 2, 0) := zp_r zq_246 rfl
theorem p_246_157 : zP1 246 157 = some (.iload 5, 0, 0, 0) := zp_l zq_246 rfl
theorem p_246_159 : zP1 246 159 = some (.iastore, 0, 0, 0) := zp_l zq_246 rfl
theorem p_246_160 : zP1 246 160 = some (.aload_n 0, 0, 0, 0) := zp_l zq_246 rfl
theorem p_246_161 : zP1 246 161 = some (.getfield 9, 11, 0, 0) := zp_r zq_246 rfl
theorem p_246_164 : zP1 246 164 = some (.iload 8, 0, 0, 0) := zp_l zq_246 rfl
theorem p_246_166 : zP1 246 166 = some (.iconst 5, 0, 0, 0) := zp_l zq_246 rfl
theorem p_246_167 : zP1 246 167 = some (.invokestatic 141, 205, 2, 0) := zp_r zq_246 rfl
theorem p_246_170 : zP1 246 170 = some (.iload 6, 0, 0, 0) := zp_l zq_246 rfl
theorem p_246_172 : zP1 246 172 = some (.iastore, 0, 0, 0) := zp_l zq_246 rfl
theorem p_246_173 : zP1 246 173 = some (.aload_n 0, 0, 0, 0) := zp_l zq_246 rfl
theorem p_246_174 : zP1 246 174 = some (.getfield 9, 11, 0, 0) := zp_r zq_246 rfl
theorem p_246_177 : zP1 246 177 = some (.iconst 4, 0, 0, 0) := zp_l zq_246 rfl
theorem p_246_178 : zP1 246 178 = some (.dup2, 0, 0, 0) := zp_l zq_246 rfl
theorem p_246_179 : zP1 246 179 = some (.iaload, 0, 0, 0) := zp_l zq_246 rfl
theorem p_246_180 : zP1 246 180 = some (.iconst 1, 0, 0, 0) := zp_l zq_246 rfl
theorem p_246_181 : zP1 246 181 = some (.iadd, 0, 0, 0) := zp_l zq_246 rfl
theorem p_246_182 : zP1 246 182 = some (.iastore, 0, 0, 0) := zp_l zq_246 rfl
theorem p_246_183 : zP1 246 183 = some (.iload 8, 0, 0, 0) := zp_l zq_246 rfl
theorem p_246_185 : zP1 246 185 = some (.ireturn, 0, 0, 0) := zp_l zq_246 rfl
theorem b_246_0 {x1 : Int} {x2 : Int} {x3 : Int} {x4 : Int} {x5 : Int} {x6 : Int} : Z e (d + 2) 246 0 [.ref 246, .int (iI x1), .int (iI x2), .int (iI x3), .int (iI x4), .int (iI x5), .int (iI x6), .retAddr 0, .retAddr 0] [] m = (if ((wr (if (((wr 0) ≤ (wr x1)) ∧ ((wr x1) ≤ (wr ((m 247 1) - 1)))) ∧ (((wr 0) ≤ (wr x2)) ∧ ((wr x2) ≤ (wr 5))) then (if ¬ (wr x3) = (-1) then (if (((wr 0) ≤ (wr x3)) ∧ ((wr x3) ≤ (wr ((m 247 1) - 1)))) ∧ ((((wr 0) ≤ (wr x4)) ∧ ((wr x4) ≤ (wr (m 247 0)))) ∧ (((wr 0) ≤ (wr x5)) ∧ ((wr x5) ≤ (wr 99)))) then 1 else 0) else (if (((wr 0) ≤ (wr x4)) ∧ ((wr x4) ≤ (wr (m 247 0)))) ∧ (((wr 0) ≤ (wr x5)) ∧ ((wr x5) ≤ (wr 99))) then 1 else 0)) else 0)) = 0) ∨ (¬ (((wr x4) ≤ (wr x6)) ∧ ((wr x6) ≤ (wr 9999)))) then ri (-1) m else (if (wr (m 247 4)) = 24 then ri (-2) m else ck (0 ≤ (wr ((794 + (6 * (m 247 4))) + 0)) ∧ (wr ((794 + (6 * (m 247 4))) + 0)) < 2737) (ck (0 ≤ (wr ((794 + (6 * (m 247 4))) + 1)) ∧ (wr ((794 + (6 * (m 247 4))) + 1)) < 2737) (ck (0 ≤ (wr ((794 + (6 * (m 247 4))) + 2)) ∧ (wr ((794 + (6 * (m 247 4))) + 2)) < 2737) (ck (0 ≤ (wr ((794 + (6 * (m 247 4))) + 3)) ∧ (wr ((794 + (6 * (m 247 4))) + 3)) < 2737) (ck (0 ≤ (wr ((794 + (6 * (m 247 4))) + 4)) ∧ (wr ((794 + (6 * (m 247 4))) + 4)) < 2737) (ck (0 ≤ (wr ((794 + (6 * (m 247 4))) + 5)) ∧ (wr ((794 + (6 * (m 247 4))) + 5)) < 2737) (ri (m 247 4) (um (um (um (um (um (um (um m 247 (wr ((794 + (6 * (m 247 4))) + 0)) x1) 247 (wr ((794 + (6 * (m 247 4))) + 1)) x2) 247 (wr ((794 + (6 * (m 247 4))) + 2)) x3) 247 (wr ((794 + (6 * (m 247 4))) + 3)) x4) 247 (wr ((794 + (6 * (m 247 4))) + 4)) x5) 247 (wr ((794 + (6 * (m 247 4))) + 5)) x6) 247 4 (((um (um (um (um (um (um m 247 (wr ((794 + (6 * (m 247 4))) + 0)) x1) 247 (wr ((794 + (6 * (m 247 4))) + 1)) x2) 247 (wr ((794 + (6 * (m 247 4))) + 2)) x3) 247 (wr ((794 + (6 * (m 247 4))) + 3)) x4) 247 (wr ((794 + (6 * (m 247 4))) + 4)) x5) 247 (wr ((794 + (6 * (m 247 4))) + 5)) x6) 247 4) + 1)))))))))) := (s_al_0 p_246_0).trans <| (s_il_1 p_246_1).trans <| (s_cv1 (Lc := [.ref 246, .int (iI x1)]) p_246_2 (by decide) (by decide) (zM_of zq_202) ⟨Nat.le_of_ble_eq_true rfl, Nat.le_of_ble_eq_true rfl⟩ rfl (m_rc hs_246 ⟨rfl, by decide⟩)).trans <| (bd b_202_0).trans <| ri_k.trans <| Eq.trans (Eq.trans (Eq.trans (s_beq_f p_246_5 rfl) <| Eq.trans (ite_cg ((s_il_2 p_246_8).trans <| (s_const p_246_9).trans <| (s_const p_246_10).trans <| (s_cs3 (Lc := [.int (iI x2), .int (iI 0), .int (iI 5)]) p_246_11 (by decide) (zM_of zq_199) ⟨Nat.le_of_ble_eq_true rfl, Nat.le_of_ble_eq_true rfl⟩ rfl).trans <| (bd b_199_0).trans <| ri_k.trans <| (s_beq_f p_246_14 rfl)) rfl) co_and) <| Eq.trans (ite_cg ((s_il_3 p_246_17).trans <| (s_const p_246_18).trans <| Eq.trans (Eq.trans ((s_c_eq_f p_246_19 rfl rfl wl_m1)) <| Eq.trans (ite_cg ((s_al_0 p_246_22).trans <| (s_il_3 p_246_23).trans <| (s_cv1 (Lc := [.ref 246, .int (iI x3)]) p_246_24 (by decide) (by decide) (zM_of zq_202) ⟨Nat.le_of_ble_eq_true rfl, Nat.le_of_ble_eq_true rfl⟩ rfl (m_rc hs_246 ⟨rfl, by decide⟩)).trans <| (bd b_202_0).trans <| ri_k.trans <| Eq.trans (Eq.trans (Eq.trans (s_beq_f p_246_27 rfl) <| Eq.trans (ite_cg ((s_il_4 p_246_30).trans <| (s_const p_246_32).trans <| (s_al_0 p_246_33).trans <| (s_getr p_246_34 hs_246 (by decide) rfl).trans <| (s_const p_246_37).trans <| (s_aldc p_246_38 hs_247 (by decide) wl_0 (by decide)).trans <| (s_cs3 (Lc := [.int (iI x4), .int (iI 0), .int (iI (m 247 0))]) p_246_39 (by decide) (zM_of zq_199) ⟨Nat.le_of_ble_eq_true rfl, Nat.le_of_ble_eq_true rfl⟩ rfl).trans <| (bd b_199_0).trans <| ri_k.trans <| Eq.trans (s_beq_f p_246_42 rfl) <| Eq.trans (ite_cg ((s_il_5 p_246_45).trans <| (s_cs1 (Lc := [.int (iI x5)]) p_246_47 (by decide) (zM_of zq_200) ⟨Nat.le_of_ble_eq_true rfl, Nat.le_of_ble_eq_true rfl⟩ rfl).trans <| (bd b_200_0).trans <| ri_k.trans <| (s_beq_f p_246_50 rfl)) rfl) co_and) rfl) co_and) <| Eq.trans (ite_cg ((s_const p_246_53).trans <| (s_goto p_246_54 rfl).trans <| rfl) ((s_const p_246_57).trans <| rfl)) (phi1 (fun z0 => Z e (d + 2) 246 58 [.ref 246, .int (iI x1), .int (iI x2), .int (iI x3), .int (iI x4), .int (iI x5), .int (iI x6), .retAddr 0, .retAddr 0] [.int (iI z0)] m))) <| rfl) ((s_il_4 p_246_30).trans <| (s_const p_246_32).trans <| (s_al_0 p_246_33).trans <| (s_getr p_246_34 hs_246 (by decide) rfl).trans <| (s_const p_246_37).trans <| (s_aldc p_246_38 hs_247 (by decide) wl_0 (by decide)).trans <| (s_cs3 (Lc := [.int (iI x4), .int (iI 0), .int (iI (m 247 0))]) p_246_39 (by decide) (zM_of zq_199) ⟨Nat.le_of_ble_eq_true rfl, Nat.le_of_ble_eq_true rfl⟩ rfl).trans <| (bd b_199_0).trans <| ri_k.trans <| Eq.trans (Eq.trans (Eq.trans (s_beq_f p_246_42 rfl) <| Eq.trans (ite_cg ((s_il_5 p_246_45).trans <| (s_cs1 (Lc := [.int (iI x5)]) p_246_47 (by decide) (zM_of zq_200) ⟨Nat.le_of_ble_eq_true rfl, Nat.le_of_ble_eq_true rfl⟩ rfl).trans <| (bd b_200_0).trans <| ri_k.trans <| (s_beq_f p_246_50 rfl)) rfl) co_and) <| Eq.trans (ite_cg ((s_const p_246_53).trans <| (s_goto p_246_54 rfl).trans <| rfl) ((s_const p_246_57).trans <| rfl)) (phi1 (fun z0 => Z e (d + 2) 246 58 [.ref 246, .int (iI x1), .int (iI x2), .int (iI x3), .int (iI x4), .int (iI x5), .int (iI x6), .retAddr 0, .retAddr 0] [.int (iI z0)] m))) <| rfl)) (phi1 (fun z0 => Z e (d + 2) 246 58 [.ref 246, .int (iI x1), .int (iI x2), .int (iI x3), .int (iI x4), .int (iI x5), .int (iI x6), .retAddr 0, .retAddr 0] [.int (iI z0)] m))) <| rfl) ((s_const p_246_57).trans <| rfl)) (phi1 (fun z0 => Z e (d + 2) 246 58 [.ref 246, .int (iI x1), .int (iI x2), .int (iI x3), .int (iI x4), .int (iI x5), .int (iI x6), .retAddr 0, .retAddr 0] [.int (iI z0)] m))) <| (s_is_7 cat_i p_246_58).trans <| (s_il_7 p_246_60).trans <| Eq.trans (Eq.trans (s_z_eq_t p_246_62 rfl rfl) <| Eq.trans (ite_cg rfl ((s_il_6 p_246_65).trans <| (s_il_4 p_246_67).trans <| (s_sip p_246_69 rfl).trans <| (s_cs3 (Lc := [.int (iI x6), .int (iI x4), .int (iI 9999)]) p_246_72 (by decide) (zM_of zq_199) ⟨Nat.le_of_ble_eq_true rfl, Nat.le_of_ble_eq_true rfl⟩ rfl).trans <| (bd b_199_0).trans <| ri_k.trans <| (s_bne_f p_246_75 rfl))) co_or) <| ite_cg ((s_const p_246_78).trans <| (s_reti p_246_79 (zM_of zq_246))) ((s_al_0 p_246_80).trans <| (s_getr p_246_81 hs_246 (by decide) rfl).trans <| (s_const p_246_84).trans <| (s_aldc p_246_85 hs_247 (by decide) wl_4 (by decide)).trans <| (s_is_8 cat_i p_246_86).trans <| (s_il_8 p_246_88).trans <| (s_bip p_246_90 rfl).trans <| Eq.trans ((s_c_ne_f p_246_92 rfl rfl wl_24)) <| ite_cg ((s_bip p_246_95 rfl).trans <| (s_reti p_246_97 (zM_of zq_246))) ((s_al_0 p_246_98).trans <| (s_getr p_246_99 hs_246 (by decide) rfl).trans <| (s_il_8 p_246_102).trans <| (s_const p_246_104).trans <| (s_cs2 (Lc := [.int (iI (m 247 4)), .int (iI 0)]) p_246_105 (by decide) (zM_of zq_205) ⟨Nat.le_of_ble_eq_true rfl, Nat.le_of_ble_eq_true rfl⟩ rfl).trans <| (bd b_205_0).trans <| ri_k.trans <| (s_il_1 p_246_108).trans <| (s_ast 2737 p_246_109 hs_247 rfl).trans <| ck_cg fun k1 => (s_al_0 p_246_110).trans <| (s_getr p_246_111 hs_246 (by decide) rfl).trans <| (s_il_8 p_246_114).trans <| (s_const p_246_116).trans <| (s_cs2 (Lc := [.int (iI (m 247 4)), .int (iI 1)]) p_246_117 (by decide) (zM_of zq_205) ⟨Nat.le_of_ble_eq_true rfl, Nat.le_of_ble_eq_true rfl⟩ rfl).trans <| (bd b_205_0).trans <| ri_k.trans <| (s_il_2 p_246_120).trans <| (s_ast 2737 p_246_121 hs_247 rfl).trans <| ck_cg fun k2 => (s_al_0 p_246_122).trans <| (s_getr p_246_123 hs_246 (by decide) rfl).trans <| (s_il_8 p_246_126).trans <| (s_const p_246_128).trans <| (s_cs2 (Lc := [.int (iI (m 247 4)), .int (iI 2)]) p_246_129 (by decide) (zM_of zq_205) ⟨Nat.le_of_ble_eq_true rfl, Nat.le_of_ble_eq_true rfl⟩ rfl).trans <| (bd b_205_0).trans <| ri_k.trans <| (s_il_3 p_246_132).trans <| (s_ast 2737 p_246_133 hs_247 rfl).trans <| ck_cg fun k3 => (s_al_0 p_246_134).trans <| (s_getr p_246_135 hs_246 (by decide) rfl).trans <| (s_il_8 p_246_138).trans <| (s_const p_246_140).trans <| (s_cs2 (Lc := [.int (iI (m 247 4)), .int (iI 3)]) p_246_141 (by decide) (zM_of zq_205) ⟨Nat.le_of_ble_eq_true rfl, Nat.le_of_ble_eq_true rfl⟩ rfl).trans <| (bd b_205_0).trans <| ri_k.trans <| (s_il_4 p_246_144).trans <| (s_ast 2737 p_246_146 hs_247 rfl).trans <| ck_cg fun k4 => (s_al_0 p_246_147).trans <| (s_getr p_246_148 hs_246 (by decide) rfl).trans <| (s_il_8 p_246_151).trans <| (s_const p_246_153).trans <| (s_cs2 (Lc := [.int (iI (m 247 4)), .int (iI 4)]) p_246_154 (by decide) (zM_of zq_205) ⟨Nat.le_of_ble_eq_true rfl, Nat.le_of_ble_eq_true rfl⟩ rfl).trans <| (bd b_205_0).trans <| ri_k.trans <| (s_il_5 p_246_157).trans <| (s_ast 2737 p_246_159 hs_247 rfl).trans <| ck_cg fun k5 => (s_al_0 p_246_160).trans <| (s_getr p_246_161 hs_246 (by decide) rfl).trans <| (s_il_8 p_246_164).trans <| (s_const p_246_166).trans <| (s_cs2 (Lc := [.int (iI (m 247 4)), .int (iI 5)]) p_246_167 (by decide) (zM_of zq_205) ⟨Nat.le_of_ble_eq_true rfl, Nat.le_of_ble_eq_true rfl⟩ rfl).trans <| (bd b_205_0).trans <| ri_k.trans <| (s_il_6 p_246_170).trans <| (s_ast 2737 p_246_172 hs_247 rfl).trans <| ck_cg fun k6 => (s_al_0 p_246_173).trans <| (s_getr p_246_174 hs_246 (by decide) rfl).trans <| (s_const p_246_177).trans <| (s_dup2 cat_i cat_r p_246_178).trans <| (s_aldc p_246_179 hs_247 (by decide) wl_4 (by decide)).trans <| (s_const p_246_180).trans <| (s_iadd p_246_181).trans <| (s_astc p_246_182 hs_247 wl_4 (by decide)).trans <| (s_il_8 p_246_183).trans <| (s_reti p_246_185 (zM_of zq_246))))
-- M.isNight
theorem p_247_0 : zP1 247 0 = some (.iload_n 0, 0, 0, 0) := zp_l zq_247 rfl
theorem p_247_1 : zP1 247 1 = some (.bipush 24, 0, 0, 0) := zp_l zq_247 rfl
theorem p_247_3 : zP1 247 3 = some (.irem, 0, 0, 0) := zp_l zq_247 rfl
theorem p_247_4 : zP1 247 4 = some (.bipush 20, 0, 0, 0) := zp_l zq_247 rfl
theorem p_247_6 : zP1 247 6 = some (.if_icmp .ge 12, 0, 0, 0) := zp_l zq_247 rfl
theorem p_247_9 : zP1 247 9 = some (.iload_n 0, 0, 0, 0) := zp_l zq_247 rfl
theorem p_247_10 : zP1 247 10 = some (.bipush 24, 0, 0, 0) := zp_l zq_247 rfl
theorem p_247_12 : zP1 247 12 = some (.irem, 0, 0, 0) := zp_l zq_247 rfl
theorem p_247_13 : zP1 247 13 = some (.bipush 6, 0, 0, 0) := zp_l zq_247 rfl
theorem p_247_15 : zP1 247 15 = some (.if_icmp .ge 7, 0, 0, 0) := zp_l zq_247 rfl
theorem p_247_18 : zP1 247 18 = some (.iconst 1, 0, 0, 0) := zp_l zq_247 rfl
theorem p_247_19 : zP1 247 19 = some (.goto 4, 0, 0, 0) := zp_l zq_247 rfl
theorem p_247_22 : zP1 247 22 = some (.iconst 0, 0, 0, 0) := zp_l zq_247 rfl
theorem p_247_23 : zP1 247 23 = some (.ireturn, 0, 0, 0) := zp_l zq_247 rfl
theorem b_247_0 {x0 : Int} : Z e d 247 0 [.int (iI x0)] [] m = ri (if (20 ≤ (wr (jrem x0 24))) ∨ ((wr (jrem x0 24)) < 6) then 1 else 0) m := (s_il_0 p_247_0).trans <| (s_bip p_247_1 rfl).trans <| (s_iremc p_247_3 (by decide)).trans <| (s_bip p_247_4 rfl).trans <| Eq.trans (Eq.trans (Eq.trans (s_c_ge_t p_247_6 rfl rfl wl_20) <| Eq.trans (ite_cg rfl ((s_il_0 p_247_9).trans <| (s_bip p_247_10 rfl).trans <| (s_iremc p_247_12 (by decide)).trans <| (s_bip p_247_13 rfl).trans <| (s_c_ge_f p_247_15 rfl rfl wl_6))) co_or) <| Eq.trans (ite_cg ((s_const p_247_18).trans <| (s_goto p_247_19 rfl).trans <| rfl) ((s_const p_247_22).trans <| rfl)) (phi1 (fun z0 => Z e d 247 23 [.int (iI x0)] [.int (iI z0)] m))) <| (s_retb p_247_23 (zM_of zq_247))
-- M.times
theorem p_248_0 : zP1 248 0 = some (.iconst 0, 0, 0, 0) := zp_l zq_248 rfl
theorem p_248_1 : zP1 248 1 = some (.istore_n 2, 0, 0, 0) := zp_l zq_248 rfl
theorem p_248_2 : zP1 248 2 = some (.iconst 0, 0, 0, 0) := zp_l zq_248 rfl
theorem p_248_3 : zP1 248 3 = some (.istore_n 3, 0, 0, 0) := zp_l zq_248 rfl
theorem p_248_4 : zP1 248 4 = some (.iload_n 3, 0, 0, 0) := zp_l zq_248 rfl
theorem p_248_5 : zP1 248 5 = some (.aload_n 0, 0, 0, 0) := zp_l zq_248 rfl
theorem p_248_6 : zP1 248 6 = some (.getfield 9, 11, 0, 0) := zp_r zq_248 rfl
theorem p_248_9 : zP1 248 9 = some (.iconst 4, 0, 0, 0) := zp_l zq_248 rfl
theorem p_248_10 : zP1 248 10 = some (.iaload, 0, 0, 0) := zp_l zq_248 rfl
theorem p_248_11 : zP1 248 11 = some (.if_icmp .ge 98, 0, 0, 0) := zp_l zq_248 rfl
theorem p_248_14 : zP1 248 14 = some (.aload_n 0, 0, 0, 0) := zp_l zq_248 rfl
theorem p_248_15 : zP1 248 15 = some (.getfield 9, 11, 0, 0) := zp_r zq_248 rfl
theorem p_248_18 : zP1 248 18 = some (.iload_n 3, 0, 0, 0) := zp_l zq_248 rfl
theorem p_248_19 : zP1 248 19 = some (.iconst 0, 0, 0, 0) := zp_l zq_248 rfl
theorem p_248_20 : zP1 248 20 = some (.invokestatic 141, 205, 2, 0) := zp_r zq_248 rfl
theorem p_248_23 : zP1 248 23 = some (.iaload, 0, 0, 0) := zp_l zq_248 rfl
theorem p_248_24 : zP1 248 24 = some (.aload_n 0, 0, 0, 0) := zp_l zq_248 rfl
theorem p_248_25 : zP1 248 25 = some (.getfield 9, 11, 0, 0) := zp_r zq_248 rfl
theorem p_248_28 : zP1 248 28 = some (.iload_n 1, 0, 0, 0) := zp_l zq_248 rfl
theorem p_248_29 : zP1 248 29 = some (.iconst 0, 0, 0, 0) := zp_l zq_248 rfl
theorem p_248_30 : zP1 248 30 = some (.invokestatic 141, 205, 2, 0) := zp_r zq_248 rfl
theorem p_248_33 : zP1 248 33 = some (.iaload, 0, 0, 0) := zp_l zq_248 rfl
theorem p_248_34 : zP1 248 34 = some (.if_icmp .ne 30, 0, 0, 0) := zp_l zq_248 rfl
theorem p_248_37 : zP1 248 37 = some (.aload_n 0, 0, 0, 0) := zp_l zq_248 rfl
theorem p_248_38 : zP1 248 38 = some (.getfield 9, 11, 0, 0) := zp_r zq_248 rfl
theorem p_248_41 : zP1 248 41 = some (.iload_n 3, 0, 0, 0) := zp_l zq_248 rfl
theorem p_248_42 : zP1 248 42 = some (.iconst 1, 0, 0, 0) := zp_l zq_248 rfl
theorem p_248_43 : zP1 248 43 = some (.invokestatic 141, 205, 2, 0) := zp_r zq_248 rfl
theorem p_248_46 : zP1 248 46 = some (.iaload, 0, 0, 0) := zp_l zq_248 rfl
theorem p_248_47 : zP1 248 47 = some (.aload_n 0, 0, 0, 0) := zp_l zq_248 rfl
theorem p_248_48 : zP1 248 48 = some (.getfield 9, 11, 0, 0) := zp_r zq_248 rfl
theorem p_248_51 : zP1 248 51 = some (.iload_n 1, 0, 0, 0) := zp_l zq_248 rfl
theorem p_248_52 : zP1 248 52 = some (.iconst 1, 0, 0, 0) := zp_l zq_248 rfl
theorem p_248_53 : zP1 248 53 = some (.invokestatic 141, 205, 2, 0) := zp_r zq_248 rfl
theorem p_248_56 : zP1 248 56 = some (.iaload, 0, 0, 0) := zp_l zq_248 rfl
theorem p_248_57 : zP1 248 57 = some (.if_icmp .ne 7, 0, 0, 0) := zp_l zq_248 rfl
theorem p_248_60 : zP1 248 60 = some (.iconst 1, 0, 0, 0) := zp_l zq_248 rfl
theorem p_248_61 : zP1 248 61 = some (.goto 4, 0, 0, 0) := zp_l zq_248 rfl
theorem p_248_64 : zP1 248 64 = some (.iconst 0, 0, 0, 0) := zp_l zq_248 rfl
theorem p_248_65 : zP1 248 65 = some (.istore 4, 0, 0, 0) := zp_l zq_248 rfl
theorem p_248_67 : zP1 248 67 = some (.iload_n 2, 0, 0, 0) := zp_l zq_248 rfl
theorem p_248_68 : zP1 248 68 = some (.iload 4, 0, 0, 0) := zp_l zq_248 rfl
theorem p_248_70 : zP1 248 70 = some (.ifCond .eq 30, 0, 0, 0) := zp_l zq_248 rfl
theorem p_248_73 : zP1 248 73 = some (.aload_n 0, 0, 0, 0) := zp_l zq_248 rfl
theorem p_248_74 : zP1 248 74 = some (.getfield 9, 11, 0, 0) := zp_r zq_248 rfl
theorem p_248_77 : zP1 248 77 = some (.iload_n 3, 0, 0, 0) := zp_l zq_248 rfl
theorem p_248_78 : zP1 248 78 = some (.iconst 3, 0, 0, 0) := zp_l zq_248 rfl
theorem p_248_79 : zP1 248 79 = some (.invokestatic 141, 205, 2, 0) := zp_r zq_248 rfl
theorem p_248_82 : zP1 248 82 = some (.iaload, 0, 0, 0) := zp_l zq_248 rfl
theorem p_248_83 : zP1 248 83 = some (.aload_n 0, 0, 0, 0) := zp_l zq_248 rfl
theorem p_248_84 : zP1 248 84 = some (.getfield 9, 11, 0, 0) := zp_r zq_248 rfl
theorem p_248_87 : zP1 248 87 = some (.iload_n 1, 0, 0, 0) := zp_l zq_248 rfl
theorem p_248_88 : zP1 248 88 = some (.iconst 3, 0, 0, 0) := zp_l zq_248 rfl
theorem p_248_89 : zP1 248 89 = some (.invokestatic 141, 205, 2, 0) := zp_r zq_248 rfl
theorem p_248_92 : zP1 248 92 = some (.iaload, 0, 0, 0) := zp_l zq_248 rfl
theorem p_248_93 : zP1 248 93 = some (.if_icmp .gt 7, 0, 0, 0) := zp_l zq_248 rfl
theorem p_248_96 : zP1 248 96 = some (.iconst 1, 0, 0, 0) := zp_l zq_248 rfl
theorem p_248_97 : zP1 248 97 = some (.goto 4, 0, 0, 0) := zp_l zq_248 rfl
theorem p_248_100 : zP1 248 100 = some (.iconst 0, 0, 0, 0) := zp_l zq_248 rfl
theorem p_248_101 : zP1 248 101 = some (.iadd, 0, 0, 0) := zp_l zq_248 rfl
theorem p_248_102 : zP1 248 102 = some (.istore_n 2, 0, 0, 0) := zp_l zq_248 rfl
theorem p_248_103 : zP1 248 103 = some (.iinc 3 1, 0, 0, 0) := zp_l zq_248 rfl
theorem p_248_106 : zP1 248 106 = some (.goto (-102), 0, 0, 0) := zp_l zq_248 rfl
theorem p_248_109 : zP1 248 109 = some (.iload_n 2, 0, 0, 0) := zp_l zq_248 rfl
theorem p_248_110 : zP1 248 110 = some (.ireturn, 0, 0, 0) := zp_l zq_248 rfl
theorem b_248_0 {x1 : Int} : Z e (d + 1) 248 0 [.ref 246, .int (iI x1), .retAddr 0, .retAddr 0, .retAddr 0] [] m = Z e (d + 1) 248 4 [.ref 246, .int (iI x1), .int (iI 0), .int (iI 0), .retAddr 0] [] m := (s_const p_248_0).trans <| (s_is_2 cat_i p_248_1).trans <| (s_const p_248_2).trans <| (s_is_3 cat_i p_248_3).trans <| rfl
theorem b_248_4 {x1 : Int} {x2 : Int} {x3 : Int} {u4 : Value} : Z e (d + 1) 248 4 [.ref 246, .int (iI x1), .int (iI x2), .int (iI x3), u4] [] m = (if (wr x3) < (wr (m 247 4)) then ck (0 ≤ (wr ((794 + (6 * x3)) + 0)) ∧ (wr ((794 + (6 * x3)) + 0)) < 2737) (ck (0 ≤ (wr ((794 + (6 * x1)) + 0)) ∧ (wr ((794 + (6 * x1)) + 0)) < 2737) (ck (((wr (m 247 (wr ((794 + (6 * x3)) + 0)))) = (wr (m 247 (wr ((794 + (6 * x1)) + 0))))) → ((0 ≤ (wr ((794 + (6 * x3)) + 1)) ∧ (wr ((794 + (6 * x3)) + 1)) < 2737) ∧ (0 ≤ (wr ((794 + (6 * x1)) + 1)) ∧ (wr ((794 + (6 * x1)) + 1)) < 2737))) (ck ((((wr (m 247 (wr ((794 + (6 * x3)) + 0)))) = (wr (m 247 (wr ((794 + (6 * x1)) + 0))))) ∧ ((wr (m 247 (wr ((794 + (6 * x3)) + 1)))) = (wr (m 247 (wr ((794 + (6 * x1)) + 1)))))) → ((0 ≤ (wr ((794 + (6 * x3)) + 3)) ∧ (wr ((794 + (6 * x3)) + 3)) < 2737) ∧ (0 ≤ (wr ((794 + (6 * x1)) + 3)) ∧ (wr ((794 + (6 * x1)) + 3)) < 2737))) (Z e (d + 1) 248 4 [.ref 246, .int (iI x1), .int (iI (x2 + (if (((wr (m 247 (wr ((794 + (6 * x3)) + 0)))) = (wr (m 247 (wr ((794 + (6 * x1)) + 0))))) ∧ ((wr (m 247 (wr ((794 + (6 * x3)) + 1)))) = (wr (m 247 (wr ((794 + (6 * x1)) + 1)))))) ∧ ((wr (m 247 (wr ((794 + (6 * x3)) + 3)))) ≤ (wr (m 247 (wr ((794 + (6 * x1)) + 3))))) then 1 else 0))), .int (iI (x3 + 1)), .int (iI (if ((wr (m 247 (wr ((794 + (6 * x3)) + 0)))) = (wr (m 247 (wr ((794 + (6 * x1)) + 0))))) ∧ ((wr (m 247 (wr ((794 + (6 * x3)) + 1)))) = (wr (m 247 (wr ((794 + (6 * x1)) + 1))))) then 1 else 0))] [] m)))) else ri x2 m) := (s_il_3 p_248_4).trans <| (s_al_0 p_248_5).trans <| (s_getr p_248_6 hs_246 (by decide) rfl).trans <| (s_const p_248_9).trans <| (s_aldc p_248_10 hs_247 (by decide) wl_4 (by decide)).trans <| Eq.trans ((s_c_ge_f p_248_11 rfl rfl rfl)) <| ite_cg ((s_al_0 p_248_14).trans <| (s_getr p_248_15 hs_246 (by decide) rfl).trans <| (s_il_3 p_248_18).trans <| (s_const p_248_19).trans <| (s_cs2 (Lc := [.int (iI x3), .int (iI 0)]) p_248_20 (by decide) (zM_of zq_205) ⟨Nat.le_of_ble_eq_true rfl, Nat.le_of_ble_eq_true rfl⟩ rfl).trans <| (bd b_205_0).trans <| ri_k.trans <| (s_ald 2737 p_248_23 hs_247 rfl (by decide)).trans <| ck_cg fun k7 => (s_al_0 p_248_24).trans <| (s_getr p_248_25 hs_246 (by decide) rfl).trans <| (s_il_1 p_248_28).trans <| (s_const p_248_29).trans <| (s_cs2 (Lc := [.int (iI x1), .int (iI 0)]) p_248_30 (by decide) (zM_of zq_205) ⟨Nat.le_of_ble_eq_true rfl, Nat.le_of_ble_eq_true rfl⟩ rfl).trans <| (bd b_205_0).trans <| ri_k.trans <| (s_ald 2737 p_248_33 hs_247 rfl (by decide)).trans <| ck_cg fun k8 => Eq.trans (Eq.trans (Eq.trans (s_c_ne_f p_248_34 rfl rfl rfl) <| Eq.trans (ite_cg ((s_al_0 p_248_37).trans <| (s_getr p_248_38 hs_246 (by decide) rfl).trans <| (s_il_3 p_248_41).trans <| (s_const p_248_42).trans <| (s_cs2 (Lc := [.int (iI x3), .int (iI 1)]) p_248_43 (by decide) (zM_of zq_205) ⟨Nat.le_of_ble_eq_true rfl, Nat.le_of_ble_eq_true rfl⟩ rfl).trans <| (bd b_205_0).trans <| ri_k.trans <| (s_ald 2737 p_248_46 hs_247 rfl (by decide)).trans <| Eq.trans (ck_cg fun k9 => (s_al_0 p_248_47).trans <| (s_getr p_248_48 hs_246 (by decide) rfl).trans <| (s_il_1 p_248_51).trans <| (s_const p_248_52).trans <| (s_cs2 (Lc := [.int (iI x1), .int (iI 1)]) p_248_53 (by decide) (zM_of zq_205) ⟨Nat.le_of_ble_eq_true rfl, Nat.le_of_ble_eq_true rfl⟩ rfl).trans <| (bd b_205_0).trans <| ri_k.trans <| (s_ald 2737 p_248_56 hs_247 rfl (by decide)).trans <| ck_cg fun k10 => (s_c_ne_f p_248_57 rfl rfl rfl)) ck_ck) rfl) <| Eq.trans ck_a <| ck_cg fun _ => co_and) <| ck_cg fun _ => Eq.trans (ite_cg ((s_const p_248_60).trans <| (s_goto p_248_61 rfl).trans <| rfl) ((s_const p_248_64).trans <| rfl)) (phi1 (fun z0 => Z e (d + 1) 248 65 [.ref 246, .int (iI x1), .int (iI x2), .int (iI x3), u4] [.int (iI z0)] m))) <| ck_cg fun _ => (s_is_4 cat_i p_248_65).trans <| (s_il_2 p_248_67).trans <| (s_il_4 p_248_68).trans <| Eq.trans (Eq.trans (Eq.trans (s_beq_f p_248_70 rfl) <| Eq.trans (ite_cg ((s_al_0 p_248_73).trans <| (s_getr p_248_74 hs_246 (by decide) rfl).trans <| (s_il_3 p_248_77).trans <| (s_const p_248_78).trans <| (s_cs2 (Lc := [.int (iI x3), .int (iI 3)]) p_248_79 (by decide) (zM_of zq_205) ⟨Nat.le_of_ble_eq_true rfl, Nat.le_of_ble_eq_true rfl⟩ rfl).trans <| (bd b_205_0).trans <| ri_k.trans <| (s_ald 2737 p_248_82 hs_247 rfl (by decide)).trans <| Eq.trans (ck_cg fun k11 => (s_al_0 p_248_83).trans <| (s_getr p_248_84 hs_246 (by decide) rfl).trans <| (s_il_1 p_248_87).trans <| (s_const p_248_88).trans <| (s_cs2 (Lc := [.int (iI x1), .int (iI 3)]) p_248_89 (by decide) (zM_of zq_205) ⟨Nat.le_of_ble_eq_true rfl, Nat.le_of_ble_eq_true rfl⟩ rfl).trans <| (bd b_205_0).trans <| ri_k.trans <| (s_ald 2737 p_248_92 hs_247 rfl (by decide)).trans <| ck_cg fun k12 => (s_c_gt_f p_248_93 rfl rfl rfl)) ck_ck) rfl) <| Eq.trans ck_a <| ck_cg fun _ => co_and) <| ck_cg fun _ => Eq.trans (ite_cg ((s_const p_248_96).trans <| (s_goto p_248_97 rfl).trans <| rfl) ((s_const p_248_100).trans <| rfl)) (phi1 (fun z0 => Z e (d + 1) 248 101 [.ref 246, .int (iI x1), .int (iI x2), .int (iI x3), .int (iI (if ((wr (m 247 (wr ((794 + (6 * x3)) + 0)))) = (wr (m 247 (wr ((794 + (6 * x1)) + 0))))) ∧ ((wr (m 247 (wr ((794 + (6 * x3)) + 1)))) = (wr (m 247 (wr ((794 + (6 * x1)) + 1))))) then 1 else 0))] [.int (iI z0), .int (iI x2)] m))) <| ck_cg fun _ => (s_iadd p_248_101).trans <| (s_is_2 cat_i p_248_102).trans <| (s_inc_3 cat_i p_248_103).trans <| (s_goto p_248_106 rfl).trans <| rfl) ((s_il_2 p_248_109).trans <| (s_reti p_248_110 (zM_of zq_248)))
-- M.wasInside
theorem p_249_0 : zP1 249 0 = some (.aload_n 0, 0, 0, 0) := zp_l zq_249 rfl
theorem p_249_1 : zP1 249 1 = some (.getfield 41, 11, 14, 0) := zp_r zq_249 rfl
theorem p_249_4 : zP1 249 4 = some (.istore_n 2, 0, 0, 0) := zp_l zq_249 rfl
theorem p_249_5 : zP1 249 5 = some (.aload_n 0, 0, 0, 0) := zp_l zq_249 rfl
theorem p_249_6 : zP1 249 6 = some (.iconst (-1), 0, 0, 0) := zp_l zq_249 rfl
theorem p_249_7 : zP1 249 7 = some (.putfield 41, 11, 14, 0) := zp_r zq_249 rfl
theorem p_249_10 : zP1 249 10 = some (.aload_n 0, 0, 0, 0) := zp_l zq_249 rfl
theorem p_249_11 : zP1 249 11 = some (.aload_n 0, 0, 0, 0) := zp_l zq_249 rfl
theorem p_249_12 : zP1 249 12 = some (.getfield 9, 11, 0, 0) := zp_r zq_249 rfl
theorem p_249_15 : zP1 249 15 = some (.iload_n 1, 0, 0, 0) := zp_l zq_249 rfl
theorem p_249_16 : zP1 249 16 = some (.iconst 4, 0, 0, 0) := zp_l zq_249 rfl
theorem p_249_17 : zP1 249 17 = some (.invokestatic 141, 205, 2, 0) := zp_r zq_249 rfl
theorem p_249_20 : zP1 249 20 = some (.iaload, 0, 0, 0) := zp_l zq_249 rfl
theorem p_249_21 : zP1 249 21 = some (.aload_n 0, 0, 0, 0) := zp_l zq_249 rfl
theorem p_249_22 : zP1 249 22 = some (.getfield 9, 11, 0, 0) := zp_r zq_249 rfl
theorem p_249_25 : zP1 249 25 = some (.iload_n 1, 0, 0, 0) := zp_l zq_249 rfl
theorem p_249_26 : zP1 249 26 = some (.iconst 3, 0, 0, 0) := zp_l zq_249 rfl
theorem p_249_27 : zP1 249 27 = some (.invokestatic 141, 205, 2, 0) := zp_r zq_249 rfl
theorem p_249_30 : zP1 249 30 = some (.iaload, 0, 0, 0) := zp_l zq_249 rfl
theorem p_249_31 : zP1 249 31 = some (.invokevirtual 169, 225, 2, 11) := zp_r zq_249 rfl
theorem p_249_34 : zP1 249 34 = some (.ifCond .le 7, 0, 0, 0) := zp_l zq_249 rfl
theorem p_249_37 : zP1 249 37 = some (.iconst 1, 0, 0, 0) := zp_l zq_249 rfl
theorem p_249_38 : zP1 249 38 = some (.goto 4, 0, 0, 0) := zp_l zq_249 rfl
theorem p_249_41 : zP1 249 41 = some (.iconst 0, 0, 0, 0) := zp_l zq_249 rfl
theorem p_249_42 : zP1 249 42 = some (.istore_n 3, 0, 0, 0) := zp_l zq_249 rfl
theorem p_249_43 : zP1 249 43 = some (.aload_n 0, 0, 0, 0) := zp_l zq_249 rfl
theorem p_249_44 : zP1 249 44 = some (.iload_n 2, 0, 0, 0) := zp_l zq_249 rfl
theorem p_249_45 : zP1 249 45 = some (.putfield 41, 11, 14, 0) := zp_r zq_249 rfl
theorem p_249_48 : zP1 249 48 = some (.iload_n 3, 0, 0, 0) := zp_l zq_249 rfl
theorem p_249_49 : zP1 249 49 = some (.ireturn, 0, 0, 0) := zp_l zq_249 rfl
theorem b_249_0 {x1 : Int} : Z e (d + 1) 249 0 [.ref 246, .int (iI x1), .retAddr 0, .retAddr 0] [] m = ck (0 ≤ (wr ((794 + (6 * x1)) + 4)) ∧ (wr ((794 + (6 * x1)) + 4)) < 2737) (ck (0 ≤ (wr ((794 + (6 * x1)) + 3)) ∧ (wr ((794 + (6 * x1)) + 3)) < 2737) ((Z e d 225 0 [.ref 246, .int (iI ((um m 246 14 (-1)) 247 (wr ((794 + (6 * x1)) + 4)))), .int (iI ((um m 246 14 (-1)) 247 (wr ((794 + (6 * x1)) + 3)))), .retAddr 0, .retAddr 0, .retAddr 0] [] (um m 246 14 (-1))).bind (ZK e (d + 1) 249 34 [.ref 246, .int (iI x1), .int (iI (m 246 14)), .retAddr 0] [] (um m 246 14 (-1))))) := (s_al_0 p_249_0).trans <| (s_get p_249_1 hs_246 (by decide) rfl).trans <| (s_is_2 cat_i p_249_4).trans <| (s_al_0 p_249_5).trans <| (s_const p_249_6).trans <| (s_put p_249_7 hs_246 (by decide) rfl).trans <| (s_al_0 p_249_10).trans <| (s_al_0 p_249_11).trans <| (s_getr p_249_12 hs_246 (by decide) rfl).trans <| (s_il_1 p_249_15).trans <| (s_const p_249_16).trans <| (s_cs2 (Lc := [.int (iI x1), .int (iI 4)]) p_249_17 (by decide) (zM_of zq_205) ⟨Nat.le_of_ble_eq_true rfl, Nat.le_of_ble_eq_true rfl⟩ rfl).trans <| (bd b_205_0).trans <| ri_k.trans <| (s_ald 2737 p_249_20 hs_247 rfl (by decide)).trans <| ck_cg fun k1 => (s_al_0 p_249_21).trans <| (s_getr p_249_22 hs_246 (by decide) rfl).trans <| (s_il_1 p_249_25).trans <| (s_const p_249_26).trans <| (s_cs2 (Lc := [.int (iI x1), .int (iI 3)]) p_249_27 (by decide) (zM_of zq_205) ⟨Nat.le_of_ble_eq_true rfl, Nat.le_of_ble_eq_true rfl⟩ rfl).trans <| (bd b_205_0).trans <| ri_k.trans <| (s_ald 2737 p_249_30 hs_247 rfl (by decide)).trans <| ck_cg fun k2 => (s_cv2 (Lc := [.ref 246, .int (iI ((um m 246 14 (-1)) 247 (wr ((794 + (6 * x1)) + 4)))), .int (iI ((um m 246 14 (-1)) 247 (wr ((794 + (6 * x1)) + 3)))), .retAddr 0, .retAddr 0, .retAddr 0]) p_249_31 (by decide) (by decide) (zM_of zq_225) ⟨Nat.le_of_ble_eq_true rfl, Nat.le_of_ble_eq_true rfl⟩ rfl (m_rc hs_246 ⟨rfl, by decide⟩))
theorem b_249_34 {x2 : Int} {xs0 : Int} {u1 u3 : Value} : Z e (d + 1) 249 34 [.ref 246, u1, .int (iI x2), u3] [.int (iI xs0)] m = ri (if 0 < (wr xs0) then 1 else 0) (um m 246 14 x2) := Eq.trans (Eq.trans ((s_z_le_f p_249_34 rfl rfl)) <| Eq.trans (ite_cg ((s_const p_249_37).trans <| (s_goto p_249_38 rfl).trans <| rfl) ((s_const p_249_41).trans <| rfl)) (phi1 (fun z0 => Z e (d + 1) 249 42 [.ref 246, u1, .int (iI x2), u3] [.int (iI z0)] m))) <| (s_is_3 cat_i p_249_42).trans <| (s_al_0 p_249_43).trans <| (s_il_2 p_249_44).trans <| (s_put p_249_45 hs_246 (by decide) rfl).trans <| (s_il_3 p_249_48).trans <| (s_retb p_249_49 (zM_of zq_249))
-- M.findFacts
theorem p_250_0 : zP1 250 0 = some (.aload_n 0, 0, 0, 0) := zp_l zq_250 rfl
theorem p_250_1 : zP1 250 1 = some (.getfield 70, 11, 25, 0) := zp_r zq_250 rfl
theorem p_250_4 : zP1 250 4 = some (.iconst 0, 0, 0, 0) := zp_l zq_250 rfl
theorem p_250_5 : zP1 250 5 = some (.iload_n 3, 0, 0, 0) := zp_l zq_250 rfl
theorem p_250_6 : zP1 250 6 = some (.aload_n 0, 0, 0, 0) := zp_l zq_250 rfl
theorem p_250_7 : zP1 250 7 = some (.getfield 9, 11, 0, 0) := zp_r zq_250 rfl
theorem p_250_10 : zP1 250 10 = some (.iload_n 1, 0, 0, 0) := zp_l zq_250 rfl
theorem p_250_11 : zP1 250 11 = some (.iconst 3, 0, 0, 0) := zp_l zq_250 rfl
theorem p_250_12 : zP1 250 12 = some (.invokestatic 141, 205, 2, 0) := zp_r zq_250 rfl
theorem p_250_15 : zP1 250 15 = some (.iaload, 0, 0, 0) := zp_l zq_250 rfl
theorem p_250_16 : zP1 250 16 = some (.isub, 0, 0, 0) := zp_l zq_250 rfl
theorem p_250_17 : zP1 250 17 = some (.iastore, 0, 0, 0) := zp_l zq_250 rfl
theorem p_250_18 : zP1 250 18 = some (.aload_n 0, 0, 0, 0) := zp_l zq_250 rfl
theorem p_250_19 : zP1 250 19 = some (.getfield 70, 11, 25, 0) := zp_r zq_250 rfl
theorem p_250_22 : zP1 250 22 = some (.iconst 1, 0, 0, 0) := zp_l zq_250 rfl
theorem p_250_23 : zP1 250 23 = some (.aload_n 0, 0, 0, 0) := zp_l zq_250 rfl
theorem p_250_24 : zP1 250 24 = some (.iload_n 1, 0, 0, 0) := zp_l zq_250 rfl
theorem p_250_25 : zP1 250 25 = some (.invokevirtual 292, 248, 1, 11) := zp_r zq_250 rfl
theorem p_250_28 : zP1 250 28 = some (.iastore, 0, 0, 0) := zp_l zq_250 rfl
theorem p_250_29 : zP1 250 29 = some (.aload_n 0, 0, 0, 0) := zp_l zq_250 rfl
theorem p_250_30 : zP1 250 30 = some (.getfield 70, 11, 25, 0) := zp_r zq_250 rfl
theorem p_250_33 : zP1 250 33 = some (.iconst 2, 0, 0, 0) := zp_l zq_250 rfl
theorem p_250_34 : zP1 250 34 = some (.aload_n 0, 0, 0, 0) := zp_l zq_250 rfl
theorem p_250_35 : zP1 250 35 = some (.iload_n 2, 0, 0, 0) := zp_l zq_250 rfl
theorem p_250_36 : zP1 250 36 = some (.iload_n 3, 0, 0, 0) := zp_l zq_250 rfl
theorem p_250_37 : zP1 250 37 = some (.invokevirtual 169, 225, 2, 11) := zp_r zq_250 rfl
theorem p_250_40 : zP1 250 40 = some (.iastore, 0, 0, 0) := zp_l zq_250 rfl
theorem p_250_41 : zP1 250 41 = some (.aload_n 0, 0, 0, 0) := zp_l zq_250 rfl
theorem p_250_42 : zP1 250 42 = some (.getfield 70, 11, 25, 0) := zp_r zq_250 rfl
theorem p_250_45 : zP1 250 45 = some (.iconst 3, 0, 0, 0) := zp_l zq_250 rfl
theorem p_250_46 : zP1 250 46 = some (.aload_n 0, 0, 0, 0) := zp_l zq_250 rfl
theorem p_250_47 : zP1 250 47 = some (.iload_n 1, 0, 0, 0) := zp_l zq_250 rfl
theorem p_250_48 : zP1 250 48 = some (.invokevirtual 294, 249, 1, 11) := zp_r zq_250 rfl
theorem p_250_51 : zP1 250 51 = some (.ifCond .eq 7, 0, 0, 0) := zp_l zq_250 rfl
theorem p_250_54 : zP1 250 54 = some (.iconst 1, 0, 0, 0) := zp_l zq_250 rfl
theorem p_250_55 : zP1 250 55 = some (.goto 4, 0, 0, 0) := zp_l zq_250 rfl
theorem p_250_58 : zP1 250 58 = some (.iconst 0, 0, 0, 0) := zp_l zq_250 rfl
theorem p_250_59 : zP1 250 59 = some (.iastore, 0, 0, 0) := zp_l zq_250 rfl
theorem p_250_60 : zP1 250 60 = some (.aload_n 0, 0, 0, 0) := zp_l zq_250 rfl
theorem p_250_61 : zP1 250 61 = some (.getfield 70, 11, 25, 0) := zp_r zq_250 rfl
theorem p_250_64 : zP1 250 64 = some (.iconst 4, 0, 0, 0) := zp_l zq_250 rfl
theorem p_250_65 : zP1 250 65 = some (.aload_n 0, 0, 0, 0) := zp_l zq_250 rfl
theorem p_250_66 : zP1 250 66 = some (.getfield 9, 11, 0, 0) := zp_r zq_250 rfl
theorem p_250_69 : zP1 250 69 = some (.iload_n 1, 0, 0, 0) := zp_l zq_250 rfl
theorem p_250_70 : zP1 250 70 = some (.iconst 3, 0, 0, 0) := zp_l zq_250 rfl
theorem p_250_71 : zP1 250 71 = some (.invokestatic 141, 205, 2, 0) := zp_r zq_250 rfl
theorem p_250_74 : zP1 250 74 = some (.iaload, 0, 0, 0) := zp_l zq_250 rfl
theorem p_250_75 : zP1 250 75 = some (.invokestatic 297, 247, 1, 0) := zp_r zq_250 rfl
theorem p_250_78 : zP1 250 78 = some (.ifCond .eq 7, 0, 0, 0) := zp_l zq_250 rfl
theorem p_250_81 : zP1 250 81 = some (.iconst 1, 0, 0, 0) := zp_l zq_250 rfl
theorem p_250_82 : zP1 250 82 = some (.goto 4, 0, 0, 0) := zp_l zq_250 rfl
theorem p_250_85 : zP1 250 85 = some (.iconst 0, 0, 0, 0) := zp_l zq_250 rfl
theorem p_250_86 : zP1 250 86 = some (.iastore, 0, 0, 0) := zp_l zq_250 rfl
theorem p_250_87 : zP1 250 87 = some (.aload_n 0, 0, 0, 0) := zp_l zq_250 rfl
theorem p_250_88 : zP1 250 88 = some (.getfield 70, 11, 25, 0) := zp_r zq_250 rfl
theorem p_250_91 : zP1 250 91 = some (.iconst 5, 0, 0, 0) := zp_l zq_250 rfl
theorem p_250_92 : zP1 250 92 = some (.aload_n 0, 0, 0, 0) := zp_l zq_250 rfl
theorem p_250_93 : zP1 250 93 = some (.getfield 9, 11, 0, 0) := zp_r zq_250 rfl
theorem p_250_96 : zP1 250 96 = some (.iload_n 1, 0, 0, 0) := zp_l zq_250 rfl
theorem p_250_97 : zP1 250 97 = some (.iconst 2, 0, 0, 0) := zp_l zq_250 rfl
theorem p_250_98 : zP1 250 98 = some (.invokestatic 141, 205, 2, 0) := zp_r zq_250 rfl
theorem p_250_101 : zP1 250 101 = some (.iaload, 0, 0, 0) := zp_l zq_250 rfl
theorem p_250_102 : zP1 250 102 = some (.ifCond .lt 7, 0, 0, 0) := zp_l zq_250 rfl
theorem p_250_105 : zP1 250 105 = some (.iconst 1, 0, 0, 0) := zp_l zq_250 rfl
theorem p_250_106 : zP1 250 106 = some (.goto 4, 0, 0, 0) := zp_l zq_250 rfl
theorem p_250_109 : zP1 250 109 = some (.iconst 0, 0, 0, 0) := zp_l zq_250 rfl
theorem p_250_110 : zP1 250 110 = some (.iastore, 0, 0, 0) := zp_l zq_250 rfl
theorem p_250_111 : zP1 250 111 = some (.return_, 0, 0, 0) := zp_l zq_250 rfl
theorem b_250_0 {x1 : Int} {x2 : Int} {x3 : Int} : Z e (d + 1) 250 0 [.ref 246, .int (iI x1), .int (iI x2), .int (iI x3)] [] m = ck (0 ≤ (wr ((794 + (6 * x1)) + 3)) ∧ (wr ((794 + (6 * x1)) + 3)) < 2737) ((Z e d 248 0 [.ref 246, .int (iI x1), .retAddr 0, .retAddr 0, .retAddr 0] [] (um m 258 0 (x3 - (m 247 (wr ((794 + (6 * x1)) + 3)))))).bind (ZK e (d + 1) 250 28 [.ref 246, .int (iI x1), .int (iI x2), .int (iI x3)] [.int (iI 1), .ref 258] (um m 258 0 (x3 - (m 247 (wr ((794 + (6 * x1)) + 3))))))) := (s_al_0 p_250_0).trans <| (s_getr p_250_1 hs_246 (by decide) rfl).trans <| (s_const p_250_4).trans <| (s_il_3 p_250_5).trans <| (s_al_0 p_250_6).trans <| (s_getr p_250_7 hs_246 (by decide) rfl).trans <| (s_il_1 p_250_10).trans <| (s_const p_250_11).trans <| (s_cs2 (Lc := [.int (iI x1), .int (iI 3)]) p_250_12 (by decide) (zM_of zq_205) ⟨Nat.le_of_ble_eq_true rfl, Nat.le_of_ble_eq_true rfl⟩ rfl).trans <| (bd b_205_0).trans <| ri_k.trans <| (s_ald 2737 p_250_15 hs_247 rfl (by decide)).trans <| ck_cg fun k1 => (s_isub p_250_16).trans <| (s_astc p_250_17 hs_258 wl_0 (by decide)).trans <| (s_al_0 p_250_18).trans <| (s_getr p_250_19 hs_246 (by decide) rfl).trans <| (s_const p_250_22).trans <| (s_al_0 p_250_23).trans <| (s_il_1 p_250_24).trans <| (s_cv1 (Lc := [.ref 246, .int (iI x1), .retAddr 0, .retAddr 0, .retAddr 0]) p_250_25 (by decide) (by decide) (zM_of zq_248) ⟨Nat.le_of_ble_eq_true rfl, Nat.le_of_ble_eq_true rfl⟩ rfl (m_rc hs_246 ⟨rfl, by decide⟩))
theorem b_250_28 {x1 : Int} {x2 : Int} {x3 : Int} {xs0 : Int} {xs1 : Int} : Z e (d + 1) 250 28 [.ref 246, .int (iI x1), .int (iI x2), .int (iI x3)] [.int (iI xs0), .int (iI xs1), .ref 258] m = ck (0 ≤ (wr xs1) ∧ (wr xs1) < 6) ((Z e d 225 0 [.ref 246, .int (iI x2), .int (iI x3), .retAddr 0, .retAddr 0, .retAddr 0] [] (um m 258 (wr xs1) xs0)).bind (ZK e (d + 1) 250 40 [.ref 246, .int (iI x1), .int (iI x2), .int (iI x3)] [.int (iI 2), .ref 258] (um m 258 (wr xs1) xs0))) := (s_ast 6 p_250_28 hs_258 rfl).trans <| ck_cg fun k1 => (s_al_0 p_250_29).trans <| (s_getr p_250_30 hs_246 (by decide) rfl).trans <| (s_const p_250_33).trans <| (s_al_0 p_250_34).trans <| (s_il_2 p_250_35).trans <| (s_il_3 p_250_36).trans <| (s_cv2 (Lc := [.ref 246, .int (iI x2), .int (iI x3), .retAddr 0, .retAddr 0, .retAddr 0]) p_250_37 (by decide) (by decide) (zM_of zq_225) ⟨Nat.le_of_ble_eq_true rfl, Nat.le_of_ble_eq_true rfl⟩ rfl (m_rc hs_246 ⟨rfl, by decide⟩))
theorem b_250_40 {x1 : Int} {xs0 : Int} {xs1 : Int} {u2 u3 : Value} : Z e (d + 1) 250 40 [.ref 246, .int (iI x1), u2, u3] [.int (iI xs0), .int (iI xs1), .ref 258] m = ck (0 ≤ (wr xs1) ∧ (wr xs1) < 6) ((Z e d 249 0 [.ref 246, .int (iI x1), .retAddr 0, .retAddr 0] [] (um m 258 (wr xs1) xs0)).bind (ZK e (d + 1) 250 51 [.ref 246, .int (iI x1), u2, u3] [.int (iI 3), .ref 258] (um m 258 (wr xs1) xs0))) := (s_ast 6 p_250_40 hs_258 rfl).trans <| ck_cg fun k1 => (s_al_0 p_250_41).trans <| (s_getr p_250_42 hs_246 (by decide) rfl).trans <| (s_const p_250_45).trans <| (s_al_0 p_250_46).trans <| (s_il_1 p_250_47).trans <| (s_cv1 (Lc := [.ref 246, .int (iI x1), .retAddr 0, .retAddr 0]) p_250_48 (by decide) (by decide) (zM_of zq_249) ⟨Nat.le_of_ble_eq_true rfl, Nat.le_of_ble_eq_true rfl⟩ rfl (m_rc hs_246 ⟨rfl, by decide⟩))
theorem b_250_51 {x1 : Int} {xs0 : Int} {xs1 : Int} {u2 u3 : Value} : Z e (d + 1) 250 51 [.ref 246, .int (iI x1), u2, u3] [.int (iI xs0), .int (iI xs1), .ref 258] m = ck (0 ≤ (wr xs1) ∧ (wr xs1) < 6) (ck (0 ≤ (wr ((794 + (6 * x1)) + 3)) ∧ (wr ((794 + (6 * x1)) + 3)) < 2737) (ck (0 ≤ (wr ((794 + (6 * x1)) + 2)) ∧ (wr ((794 + (6 * x1)) + 2)) < 2737) (rn (um (um (um m 258 (wr xs1) (if ¬ (wr xs0) = 0 then 1 else 0)) 258 4 (if (20 ≤ (wr (jrem ((um m 258 (wr xs1) (if ¬ (wr xs0) = 0 then 1 else 0)) 247 (wr ((794 + (6 * x1)) + 3))) 24))) ∨ ((wr (jrem ((um m 258 (wr xs1) (if ¬ (wr xs0) = 0 then 1 else 0)) 247 (wr ((794 + (6 * x1)) + 3))) 24)) < 6) then 1 else 0)) 258 5 (if 0 ≤ (wr ((um (um m 258 (wr xs1) (if ¬ (wr xs0) = 0 then 1 else 0)) 258 4 (if (20 ≤ (wr (jrem ((um m 258 (wr xs1) (if ¬ (wr xs0) = 0 then 1 else 0)) 247 (wr ((794 + (6 * x1)) + 3))) 24))) ∨ ((wr (jrem ((um m 258 (wr xs1) (if ¬ (wr xs0) = 0 then 1 else 0)) 247 (wr ((794 + (6 * x1)) + 3))) 24)) < 6) then 1 else 0)) 247 (wr ((794 + (6 * x1)) + 2)))) then 1 else 0))))) := Eq.trans (Eq.trans ((s_z_eq_f p_250_51 rfl rfl)) <| Eq.trans (ite_cg ((s_const p_250_54).trans <| (s_goto p_250_55 rfl).trans <| rfl) ((s_const p_250_58).trans <| rfl)) (phi1 (fun z0 => Z e (d + 1) 250 59 [.ref 246, .int (iI x1), u2, u3] [.int (iI z0), .int (iI xs1), .ref 258] m))) <| (s_ast 6 p_250_59 hs_258 rfl).trans <| ck_cg fun k1 => (s_al_0 p_250_60).trans <| (s_getr p_250_61 hs_246 (by decide) rfl).trans <| (s_const p_250_64).trans <| (s_al_0 p_250_65).trans <| (s_getr p_250_66 hs_246 (by decide) rfl).trans <| (s_il_1 p_250_69).trans <| (s_const p_250_70).trans <| (s_cs2 (Lc := [.int (iI x1), .int (iI 3)]) p_250_71 (by decide) (zM_of zq_205) ⟨Nat.le_of_ble_eq_true rfl, Nat.le_of_ble_eq_true rfl⟩ rfl).trans <| (bd b_205_0).trans <| ri_k.trans <| (s_ald 2737 p_250_74 hs_247 rfl (by decide)).trans <| ck_cg fun k2 => (s_cs1 (Lc := [.int (iI ((um m 258 (wr xs1) (if ¬ (wr xs0) = 0 then 1 else 0)) 247 (wr ((794 + (6 * x1)) + 3))))]) p_250_75 (by decide) (zM_of zq_247) ⟨Nat.le_of_ble_eq_true rfl, Nat.le_of_ble_eq_true rfl⟩ rfl).trans <| (bd b_247_0).trans <| ri_k.trans <| Eq.trans (Eq.trans ((s_beq_f p_250_78 rfl)) <| Eq.trans (ite_cg ((s_const p_250_81).trans <| (s_goto p_250_82 rfl).trans <| rfl) ((s_const p_250_85).trans <| rfl)) (phi1 (fun z0 => Z e (d + 1) 250 86 [.ref 246, .int (iI x1), u2, u3] [.int (iI z0), .int (iI 4), .ref 258] (um m 258 (wr xs1) (if ¬ (wr xs0) = 0 then 1 else 0))))) <| (s_astc p_250_86 hs_258 wl_4 (by decide)).trans <| (s_al_0 p_250_87).trans <| (s_getr p_250_88 hs_246 (by decide) rfl).trans <| (s_const p_250_91).trans <| (s_al_0 p_250_92).trans <| (s_getr p_250_93 hs_246 (by decide) rfl).trans <| (s_il_1 p_250_96).trans <| (s_const p_250_97).trans <| (s_cs2 (Lc := [.int (iI x1), .int (iI 2)]) p_250_98 (by decide) (zM_of zq_205) ⟨Nat.le_of_ble_eq_true rfl, Nat.le_of_ble_eq_true rfl⟩ rfl).trans <| (bd b_205_0).trans <| ri_k.trans <| (s_ald 2737 p_250_101 hs_247 rfl (by decide)).trans <| ck_cg fun k3 => Eq.trans (Eq.trans ((s_z_lt_f p_250_102 rfl rfl)) <| Eq.trans (ite_cg ((s_const p_250_105).trans <| (s_goto p_250_106 rfl).trans <| rfl) ((s_const p_250_109).trans <| rfl)) (phi1 (fun z0 => Z e (d + 1) 250 110 [.ref 246, .int (iI x1), u2, u3] [.int (iI z0), .int (iI 5), .ref 258] (um (um m 258 (wr xs1) (if ¬ (wr xs0) = 0 then 1 else 0)) 258 4 (if (20 ≤ (wr (jrem ((um m 258 (wr xs1) (if ¬ (wr xs0) = 0 then 1 else 0)) 247 (wr ((794 + (6 * x1)) + 3))) 24))) ∨ ((wr (jrem ((um m 258 (wr xs1) (if ¬ (wr xs0) = 0 then 1 else 0)) 247 (wr ((794 + (6 * x1)) + 3))) 24)) < 6) then 1 else 0))))) <| (s_astc p_250_110 hs_258 wl_5 (by decide)).trans <| (s_retv p_250_111 (zM_of zq_250))
-- M.holds
theorem p_251_0 : zP1 251 0 = some (.aload_n 0, 0, 0, 0) := zp_l zq_251 rfl
theorem p_251_1 : zP1 251 1 = some (.getfield 9, 11, 0, 0) := zp_r zq_251 rfl
theorem p_251_4 : zP1 251 4 = some (.iload_n 1, 0, 0, 0) := zp_l zq_251 rfl
theorem p_251_5 : zP1 251 5 = some (.iconst 4, 0, 0, 0) := zp_l zq_251 rfl
theorem p_251_6 : zP1 251 6 = some (.iconst 4, 0, 0, 0) := zp_l zq_251 rfl
theorem p_251_7 : zP1 251 7 = some (.iload_n 2, 0, 0, 0) := zp_l zq_251 rfl
theorem p_251_8 : zP1 251 8 = some (.imul, 0, 0, 0) := zp_l zq_251 rfl
theorem p_251_9 : zP1 251 9 = some (.iadd, 0, 0, 0) := zp_l zq_251 rfl
theorem p_251_10 : zP1 251 10 = some (.iconst 2, 0, 0, 0) := zp_l zq_251 rfl
theorem p_251_11 : zP1 251 11 = some (.iadd, 0, 0, 0) := zp_l zq_251 rfl
theorem p_251_12 : zP1 251 12 = some (.invokestatic 144, 218, 2, 0) := zp_r zq_251 rfl
theorem p_251_15 : zP1 251 15 = some (.iaload, 0, 0, 0) := zp_l zq_251 rfl
theorem p_251_16 : zP1 251 16 = some (.istore_n 3, 0, 0, 0) := zp_l zq_251 rfl
theorem p_251_17 : zP1 251 17 = some (.aload_n 0, 0, 0, 0) := zp_l zq_251 rfl
theorem p_251_18 : zP1 251 18 = some (.getfield 9, 11, 0, 0) := zp_r zq_251 rfl
theorem p_251_21 : zP1 251 21 = some (.iload_n 1, 0, 0, 0) := zp_l zq_251 rfl
theorem p_251_22 : zP1 251 22 = some (.iconst 4, 0, 0, 0) := zp_l zq_251 rfl
theorem p_251_23 : zP1 251 23 = some (.iconst 4, 0, 0, 0) := zp_l zq_251 rfl
theorem p_251_24 : zP1 251 24 = some (.iload_n 2, 0, 0, 0) := zp_l zq_251 rfl
theorem p_251_25 : zP1 251 25 = some (.imul, 0, 0, 0) := zp_l zq_251 rfl
theorem p_251_26 : zP1 251 26 = some (.iadd, 0, 0, 0) := zp_l zq_251 rfl
theorem p_251_27 : zP1 251 27 = some (.iconst 3, 0, 0, 0) := zp_l zq_251 rfl
theorem p_251_28 : zP1 251 28 = some (.iadd, 0, 0, 0) := zp_l zq_251 rfl
theorem p_251_29 : zP1 251 29 = some (.invokestatic 144, 218, 2, 0) := zp_r zq_251 rfl
theorem p_251_32 : zP1 251 32 = some (.iaload, 0, 0, 0) := zp_l zq_251 rfl
theorem p_251_33 : zP1 251 33 = some (.istore 4, 0, 0, 0) := zp_l zq_251 rfl
theorem p_251_35 : zP1 251 35 = some (.iconst 0, 0, 0, 0) := zp_l zq_251 rfl
theorem p_251_36 : zP1 251 36 = some (.istore 5, 0, 0, 0) := zp_l zq_251 rfl
theorem p_251_38 : zP1 251 38 = some (.iload_n 3, 0, 0, 0) := zp_l zq_251 rfl
theorem p_251_39 : zP1 251 39 = some (.istore 6, 0, 0, 0) := zp_l zq_251 rfl
theorem p_251_41 : zP1 251 41 = some (.iload 6, 0, 0, 0) := zp_l zq_251 rfl
theorem p_251_43 : zP1 251 43 = some (.iload 4, 0, 0, 0) := zp_l zq_251 rfl
theorem p_251_45 : zP1 251 45 = some (.if_icmp .ge 185, 0, 0, 0) := zp_l zq_251 rfl
theorem p_251_48 : zP1 251 48 = some (.aload_n 0, 0, 0, 0) := zp_l zq_251 rfl
theorem p_251_49 : zP1 251 49 = some (.getfield 9, 11, 0, 0) := zp_r zq_251 rfl
theorem p_251_52 : zP1 251 52 = some (.sipush 1297, 0, 0, 0) := zp_l zq_251 rfl
theorem p_251_55 : zP1 251 55 = some (.bipush 120, 0, 0, 0) := zp_l zq_251 rfl
theorem p_251_57 : zP1 251 57 = some (.iload_n 1, 0, 0, 0) := zp_l zq_251 rfl
theorem p_251_58 : zP1 251 58 = some (.imul, 0, 0, 0) := zp_l zq_251 rfl
theorem p_251_59 : zP1 251 59 = some (.iadd, 0, 0, 0) := zp_l zq_251 rfl
theorem p_251_60 : zP1 251 60 = some (.iload 6, 0, 0, 0) := zp_l zq_251 rfl
theorem p_251_62 : zP1 251 62 = some (.iadd, 0, 0, 0) := zp_l zq_251 rfl
theorem p_251_63 : zP1 251 63 = some (.iaload, 0, 0, 0) := zp_l zq_251 rfl
theorem p_251_64 : zP1 251 64 = some (.istore 7, 0, 0, 0) := zp_l zq_251 rfl
theorem p_251_66 : zP1 251 66 = some (.iload 7, 0, 0, 0) := zp_l zq_251 rfl
theorem p_251_68 : zP1 251 68 = some (.sipush 4000, 0, 0, 0) := zp_l zq_251 rfl
theorem p_251_71 : zP1 251 71 = some (.if_icmp .ge 65, 0, 0, 0) := zp_l zq_251 rfl
theorem p_251_74 : zP1 251 74 = some (.aload_n 0, 0, 0, 0) := zp_l zq_251 rfl
theorem p_251_75 : zP1 251 75 = some (.getfield 73, 11, 26, 0) := zp_r zq_251 rfl
theorem p_251_78 : zP1 251 78 = some (.iload 5, 0, 0, 0) := zp_l zq_251 rfl
theorem p_251_80 : zP1 251 80 = some (.iload 7, 0, 0, 0) := zp_l zq_251 rfl
theorem p_251_82 : zP1 251 82 = some (.sipush 3000, 0, 0, 0) := zp_l zq_251 rfl
theorem p_251_85 : zP1 251 85 = some (.if_icmp .ge 31, 0, 0, 0) := zp_l zq_251 rfl
theorem p_251_88 : zP1 251 88 = some (.aload_n 0, 0, 0, 0) := zp_l zq_251 rfl
theorem p_251_89 : zP1 251 89 = some (.getfield 70, 11, 25, 0) := zp_r zq_251 rfl
theorem p_251_92 : zP1 251 92 = some (.iload 7, 0, 0, 0) := zp_l zq_251 rfl
theorem p_251_94 : zP1 251 94 = some (.sipush 1000, 0, 0, 0) := zp_l zq_251 rfl
theorem p_251_97 : zP1 251 97 = some (.idiv, 0, 0, 0) := zp_l zq_251 rfl
theorem p_251_98 : zP1 251 98 = some (.iaload, 0, 0, 0) := zp_l zq_251 rfl
theorem p_251_99 : zP1 251 99 = some (.iload 7, 0, 0, 0) := zp_l zq_251 rfl
theorem p_251_101 : zP1 251 101 = some (.sipush 1000, 0, 0, 0) := zp_l zq_251 rfl
theorem p_251_104 : zP1 251 104 = some (.irem, 0, 0, 0) := zp_l zq_251 rfl
theorem p_251_105 : zP1 251 105 = some (.if_icmp .le 7, 0, 0, 0) := zp_l zq_251 rfl
theorem p_251_108 : zP1 251 108 = some (.iconst 1, 0, 0, 0) := zp_l zq_251 rfl
theorem p_251_109 : zP1 251 109 = some (.goto 20, 0, 0, 0) := zp_l zq_251 rfl
theorem p_251_112 : zP1 251 112 = some (.iconst 0, 0, 0, 0) := zp_l zq_251 rfl
theorem p_251_113 : zP1 251 113 = some (.goto 16, 0, 0, 0) := zp_l zq_251 rfl
theorem p_251_116 : zP1 251 116 = some (.aload_n 0, 0, 0, 0) := zp_l zq_251 rfl
theorem p_251_117 : zP1 251 117 = some (.getfield 70, 11, 25, 0) := zp_r zq_251 rfl
theorem p_251_120 : zP1 251 120 = some (.iconst 3, 0, 0, 0) := zp_l zq_251 rfl
theorem p_251_121 : zP1 251 121 = some (.iload 7, 0, 0, 0) := zp_l zq_251 rfl
theorem p_251_123 : zP1 251 123 = some (.iadd, 0, 0, 0) := zp_l zq_251 rfl
theorem p_251_124 : zP1 251 124 = some (.sipush 3000, 0, 0, 0) := zp_l zq_251 rfl
theorem p_251_127 : zP1 251 127 = some (.isub, 0, 0, 0) := zp_l zq_251 rfl
theorem p_251_128 : zP1 251 128 = some (.iaload, 0, 0, 0) := zp_l zq_251 rfl
theorem p_251_129 : zP1 251 129 = some (.iastore, 0, 0, 0) := zp_l zq_251 rfl
theorem p_251_130 : zP1 251 130 = some (.iinc 5 1, 0, 0, 0) := zp_l zq_251 rfl
theorem p_251_133 : zP1 251 133 = some (.goto 91, 0, 0, 0) := zp_l zq_251 rfl
theorem p_251_136 : zP1 251 136 = some (.iload 7, 0, 0, 0) := zp_l zq_251 rfl
theorem p_251_138 : zP1 251 138 = some (.sipush 4000, 0, 0, 0) := zp_l zq_251 rfl
theorem p_251_141 : zP1 251 141 = some (.if_icmp .ne 26, 0, 0, 0) := zp_l zq_251 rfl
theorem p_251_144 : zP1 251 144 = some (.aload_n 0, 0, 0, 0) := zp_l zq_251 rfl
theorem p_251_145 : zP1 251 145 = some (.getfield 73, 11, 26, 0) := zp_r zq_251 rfl
theorem p_251_148 : zP1 251 148 = some (.iload 5, 0, 0, 0) := zp_l zq_251 rfl
theorem p_251_150 : zP1 251 150 = some (.iconst 1, 0, 0, 0) := zp_l zq_251 rfl
theorem p_251_151 : zP1 251 151 = some (.isub, 0, 0, 0) := zp_l zq_251 rfl
theorem p_251_152 : zP1 251 152 = some (.iconst 1, 0, 0, 0) := zp_l zq_251 rfl
theorem p_251_153 : zP1 251 153 = some (.aload_n 0, 0, 0, 0) := zp_l zq_251 rfl
theorem p_251_154 : zP1 251 154 = some (.getfield 73, 11, 26, 0) := zp_r zq_251 rfl
theorem p_251_157 : zP1 251 157 = some (.iload 5, 0, 0, 0) := zp_l zq_251 rfl
theorem p_251_159 : zP1 251 159 = some (.iconst 1, 0, 0, 0) := zp_l zq_251 rfl
theorem p_251_160 : zP1 251 160 = some (.isub, 0, 0, 0) := zp_l zq_251 rfl
theorem p_251_161 : zP1 251 161 = some (.iaload, 0, 0, 0) := zp_l zq_251 rfl
theorem p_251_162 : zP1 251 162 = some (.isub, 0, 0, 0) := zp_l zq_251 rfl
theorem p_251_163 : zP1 251 163 = some (.iastore, 0, 0, 0) := zp_l zq_251 rfl
theorem p_251_164 : zP1 251 164 = some (.goto 60, 0, 0, 0) := zp_l zq_251 rfl
theorem p_251_167 : zP1 251 167 = some (.iinc 5 (-1), 0, 0, 0) := zp_l zq_251 rfl
theorem p_251_170 : zP1 251 170 = some (.aload_n 0, 0, 0, 0) := zp_l zq_251 rfl
theorem p_251_171 : zP1 251 171 = some (.getfield 73, 11, 26, 0) := zp_r zq_251 rfl
theorem p_251_174 : zP1 251 174 = some (.iload 5, 0, 0, 0) := zp_l zq_251 rfl
theorem p_251_176 : zP1 251 176 = some (.iconst 1, 0, 0, 0) := zp_l zq_251 rfl
theorem p_251_177 : zP1 251 177 = some (.isub, 0, 0, 0) := zp_l zq_251 rfl
theorem p_251_178 : zP1 251 178 = some (.iload 7, 0, 0, 0) := zp_l zq_251 rfl
theorem p_251_180 : zP1 251 180 = some (.sipush 4001, 0, 0, 0) := zp_l zq_251 rfl
theorem p_251_183 : zP1 251 183 = some (.if_icmp .ne 23, 0, 0, 0) := zp_l zq_251 rfl
theorem p_251_186 : zP1 251 186 = some (.aload_n 0, 0, 0, 0) := zp_l zq_251 rfl
theorem p_251_187 : zP1 251 187 = some (.getfield 73, 11, 26, 0) := zp_r zq_251 rfl
theorem p_251_190 : zP1 251 190 = some (.iload 5, 0, 0, 0) := zp_l zq_251 rfl
theorem p_251_192 : zP1 251 192 = some (.iconst 1, 0, 0, 0) := zp_l zq_251 rfl
theorem p_251_193 : zP1 251 193 = some (.isub, 0, 0, 0) := zp_l zq_251 rfl
theorem p_251_194 : zP1 251 194 = some (.iaload, 0, 0, 0) := zp_l zq_251 rfl
theorem p_251_195 : zP1 251 195 = some (.aload_n 0, 0, 0, 0) := zp_l zq_251 rfl
theorem p_251_196 : zP1 251 196 = some (.getfield 73, 11, 26, 0) := zp_r zq_251 rfl
theorem p_251_199 : zP1 251 199 = some (.iload 5, 0, 0, 0) := zp_l zq_251 rfl
theorem p_251_201 : zP1 251 201 = some (.iaload, 0, 0, 0) := zp_l zq_251 rfl
theorem p_251_202 : zP1 251 202 = some (.iand, 0, 0, 0) := zp_l zq_251 rfl
theorem p_251_203 : zP1 251 203 = some (.goto 20, 0, 0, 0) := zp_l zq_251 rfl
theorem p_251_206 : zP1 251 206 = some (.aload_n 0, 0, 0, 0) := zp_l zq_251 rfl
theorem p_251_207 : zP1 251 207 = some (.getfield 73, 11, 26, 0) := zp_r zq_251 rfl
theorem p_251_210 : zP1 251 210 = some (.iload 5, 0, 0, 0) := zp_l zq_251 rfl
theorem p_251_212 : zP1 251 212 = some (.iconst 1, 0, 0, 0) := zp_l zq_251 rfl
theorem p_251_213 : zP1 251 213 = some (.isub, 0, 0, 0) := zp_l zq_251 rfl
theorem p_251_214 : zP1 251 214 = some (.iaload, 0, 0, 0) := zp_l zq_251 rfl
theorem p_251_215 : zP1 251 215 = some (.aload_n 0, 0, 0, 0) := zp_l zq_251 rfl
theorem p_251_216 : zP1 251 216 = some (.getfield 73, 11, 26, 0) := zp_r zq_251 rfl
theorem p_251_219 : zP1 251 219 = some (.iload 5, 0, 0, 0) := zp_l zq_251 rfl
theorem p_251_221 : zP1 251 221 = some (.iaload, 0, 0, 0) := zp_l zq_251 rfl
theorem p_251_222 : zP1 251 222 = some (.ior, 0, 0, 0) := zp_l zq_251 rfl
theorem p_251_223 : zP1 251 223 = some (.iastore, 0, 0, 0) := zp_l zq_251 rfl
theorem p_251_224 : zP1 251 224 = some (.iinc 6 1, 0, 0, 0) := zp_l zq_251 rfl
theorem p_251_227 : zP1 251 227 = some (.goto (-186), 0, 0, 0) := zp_l zq_251 rfl
theorem p_251_230 : zP1 251 230 = some (.iload_n 3, 0, 0, 0) := zp_l zq_251 rfl
theorem p_251_231 : zP1 251 231 = some (.iload 4, 0, 0, 0) := zp_l zq_251 rfl
theorem p_251_233 : zP1 251 233 = some (.if_icmp .eq 13, 0, 0, 0) := zp_l zq_251 rfl
theorem p_251_236 : zP1 251 236 = some (.aload_n 0, 0, 0, 0) := zp_l zq_251 rfl
theorem p_251_237 : zP1 251 237 = some (.getfield 73, 11, 26, 0) := zp_r zq_251 rfl
theorem p_251_240 : zP1 251 240 = some (.iconst 0, 0, 0, 0) := zp_l zq_251 rfl
theorem p_251_241 : zP1 251 241 = some (.iaload, 0, 0, 0) := zp_l zq_251 rfl
theorem p_251_242 : zP1 251 242 = some (.iconst 1, 0, 0, 0) := zp_l zq_251 rfl
theorem p_251_243 : zP1 251 243 = some (.if_icmp .ne 7, 0, 0, 0) := zp_l zq_251 rfl
theorem p_251_246 : zP1 251 246 = some (.iconst 1, 0, 0, 0) := zp_l zq_251 rfl
theorem p_251_247 : zP1 251 247 = some (.goto 4, 0, 0, 0) := zp_l zq_251 rfl
theorem p_251_250 : zP1 251 250 = some (.iconst 0, 0, 0, 0) := zp_l zq_251 rfl
theorem p_251_251 : zP1 251 251 = some (.ireturn, 0, 0, 0) := zp_l zq_251 rfl
theorem b_251_0 {x1 : Int} {x2 : Int} : Z e (d + 1) 251 0 [.ref 246, .int (iI x1), .int (iI x2), .retAddr 0, .retAddr 0, .retAddr 0, .retAddr 0, .retAddr 0] [] m = ck (0 ≤ (wr ((266 + (44 * x1)) + ((4 + (4 * x2)) + 2))) ∧ (wr ((266 + (44 * x1)) + ((4 + (4 * x2)) + 2))) < 2737) (ck (0 ≤ (wr ((266 + (44 * x1)) + ((4 + (4 * x2)) + 3))) ∧ (wr ((266 + (44 * x1)) + ((4 + (4 * x2)) + 3))) < 2737) (Z e (d + 1) 251 41 [.ref 246, .int (iI x1), .int (iI x2), .int (iI (m 247 (wr ((266 + (44 * x1)) + ((4 + (4 * x2)) + 2))))), .int (iI (m 247 (wr ((266 + (44 * x1)) + ((4 + (4 * x2)) + 3))))), .int (iI 0), .int (iI (m 247 (wr ((266 + (44 * x1)) + ((4 + (4 * x2)) + 2))))), .retAddr 0] [] m)) := (s_al_0 p_251_0).trans <| (s_getr p_251_1 hs_246 (by decide) rfl).trans <| (s_il_1 p_251_4).trans <| (s_const p_251_5).trans <| (s_const p_251_6).trans <| (s_il_2 p_251_7).trans <| (s_imul p_251_8).trans <| (s_iadd p_251_9).trans <| (s_const p_251_10).trans <| (s_iadd p_251_11).trans <| (s_cs2 (Lc := [.int (iI x1), .int (iI ((4 + (4 * x2)) + 2))]) p_251_12 (by decide) (zM_of zq_218) ⟨Nat.le_of_ble_eq_true rfl, Nat.le_of_ble_eq_true rfl⟩ rfl).trans <| (bd b_218_0).trans <| ri_k.trans <| (s_ald 2737 p_251_15 hs_247 rfl (by decide)).trans <| ck_cg fun k1 => (s_is_3 cat_i p_251_16).trans <| (s_al_0 p_251_17).trans <| (s_getr p_251_18 hs_246 (by decide) rfl).trans <| (s_il_1 p_251_21).trans <| (s_const p_251_22).trans <| (s_const p_251_23).trans <| (s_il_2 p_251_24).trans <| (s_imul p_251_25).trans <| (s_iadd p_251_26).trans <| (s_const p_251_27).trans <| (s_iadd p_251_28).trans <| (s_cs2 (Lc := [.int (iI x1), .int (iI ((4 + (4 * x2)) + 3))]) p_251_29 (by decide) (zM_of zq_218) ⟨Nat.le_of_ble_eq_true rfl, Nat.le_of_ble_eq_true rfl⟩ rfl).trans <| (bd b_218_0).trans <| ri_k.trans <| (s_ald 2737 p_251_32 hs_247 rfl (by decide)).trans <| ck_cg fun k2 => (s_is_4 cat_i p_251_33).trans <| (s_const p_251_35).trans <| (s_is_5 cat_i p_251_36).trans <| (s_il_3 p_251_38).trans <| (s_is_6 cat_i p_251_39).trans <| rfl
theorem b_251_41 {x1 : Int} {x3 : Int} {x4 : Int} {x5 : Int} {x6 : Int} {u2 u7 : Value} : Z e (d + 1) 251 41 [.ref 246, .int (iI x1), u2, .int (iI x3), .int (iI x4), .int (iI x5), .int (iI x6), u7] [] m = (if (wr x6) < (wr x4) then ck (0 ≤ (wr ((1297 + (120 * x1)) + x6)) ∧ (wr ((1297 + (120 * x1)) + x6)) < 2737) ((if (wr (m 247 (wr ((1297 + (120 * x1)) + x6)))) < 4000 then ck ((((wr (m 247 (wr ((1297 + (120 * x1)) + x6)))) < 3000) → (0 ≤ (wr (jdiv (m 247 (wr ((1297 + (120 * x1)) + x6))) 1000)) ∧ (wr (jdiv (m 247 (wr ((1297 + (120 * x1)) + x6))) 1000)) < 6)) ∧ ((¬ ((wr (m 247 (wr ((1297 + (120 * x1)) + x6)))) < 3000)) → (0 ≤ (wr ((3 + (m 247 (wr ((1297 + (120 * x1)) + x6)))) - 3000)) ∧ (wr ((3 + (m 247 (wr ((1297 + (120 * x1)) + x6)))) - 3000)) < 6))) (ck (0 ≤ (wr x5) ∧ (wr x5) < 120) (Z e (d + 1) 251 41 [.ref 246, .int (iI x1), u2, .int (iI x3), .int (iI x4), .int (iI (x5 + 1)), .int (iI (x6 + 1)), .int (iI (m 247 (wr ((1297 + (120 * x1)) + x6))))] [] (um m 259 (wr x5) (if (wr (m 247 (wr ((1297 + (120 * x1)) + x6)))) < 3000 then (if (wr (jrem (m 247 (wr ((1297 + (120 * x1)) + x6))) 1000)) < (wr (m 258 (wr (jdiv (m 247 (wr ((1297 + (120 * x1)) + x6))) 1000)))) then 1 else 0) else (m 258 (wr ((3 + (m 247 (wr ((1297 + (120 * x1)) + x6)))) - 3000))))))) else (if (wr (m 247 (wr ((1297 + (120 * x1)) + x6)))) = 4000 then ck (0 ≤ (wr (x5 - 1)) ∧ (wr (x5 - 1)) < 120) (ck (0 ≤ (wr (x5 - 1)) ∧ (wr (x5 - 1)) < 120) (Z e (d + 1) 251 41 [.ref 246, .int (iI x1), u2, .int (iI x3), .int (iI x4), .int (iI x5), .int (iI (x6 + 1)), .int (iI (m 247 (wr ((1297 + (120 * x1)) + x6))))] [] (um m 259 (wr (x5 - 1)) (1 - (m 259 (wr (x5 - 1))))))) else ck ((((wr (m 247 (wr ((1297 + (120 * x1)) + x6)))) = 4001) → ((0 ≤ (wr ((x5 + (-1)) - 1)) ∧ (wr ((x5 + (-1)) - 1)) < 120) ∧ (0 ≤ (wr (x5 + (-1))) ∧ (wr (x5 + (-1))) < 120))) ∧ ((¬ ((wr (m 247 (wr ((1297 + (120 * x1)) + x6)))) = 4001)) → ((0 ≤ (wr ((x5 + (-1)) - 1)) ∧ (wr ((x5 + (-1)) - 1)) < 120) ∧ (0 ≤ (wr (x5 + (-1))) ∧ (wr (x5 + (-1))) < 120)))) (ck (0 ≤ (wr ((x5 + (-1)) - 1)) ∧ (wr ((x5 + (-1)) - 1)) < 120) (Z e (d + 1) 251 41 [.ref 246, .int (iI x1), u2, .int (iI x3), .int (iI x4), .int (iI (x5 + (-1))), .int (iI (x6 + 1)), .int (iI (m 247 (wr ((1297 + (120 * x1)) + x6))))] [] (um m 259 (wr ((x5 + (-1)) - 1)) (if (wr (m 247 (wr ((1297 + (120 * x1)) + x6)))) = 4001 then (jand (m 259 (wr ((x5 + (-1)) - 1))) (m 259 (wr (x5 + (-1))))) else (jor (m 259 (wr ((x5 + (-1)) - 1))) (m 259 (wr (x5 + (-1)))))))))))) else Z e (d + 1) 251 230 [.ref 246, .int (iI x1), u2, .int (iI x3), .int (iI x4), .int (iI x5), .int (iI x6), u7] [] m) := (s_il_6 p_251_41).trans <| (s_il_4 p_251_43).trans <| Eq.trans ((s_c_ge_f p_251_45 rfl rfl rfl)) <| ite_cg ((s_al_0 p_251_48).trans <| (s_getr p_251_49 hs_246 (by decide) rfl).trans <| (s_sip p_251_52 rfl).trans <| (s_bip p_251_55 rfl).trans <| (s_il_1 p_251_57).trans <| (s_imul p_251_58).trans <| (s_iadd p_251_59).trans <| (s_il_6 p_251_60).trans <| (s_iadd p_251_62).trans <| (s_ald 2737 p_251_63 hs_247 rfl (by decide)).trans <| ck_cg fun k4 => (s_is_7 cat_i p_251_64).trans <| (s_il_7 p_251_66).trans <| (s_sip p_251_68 rfl).trans <| Eq.trans ((s_c_ge_f p_251_71 rfl rfl wl_4000)) <| ite_cg ((s_al_0 p_251_74).trans <| (s_getr p_251_75 hs_246 (by decide) rfl).trans <| (s_il_5 p_251_78).trans <| (s_il_7 p_251_80).trans <| (s_sip p_251_82 rfl).trans <| Eq.trans (Eq.trans ((s_c_ge_f p_251_85 rfl rfl wl_3000)) <| Eq.trans (ite_cg ((s_al_0 p_251_88).trans <| (s_getr p_251_89 hs_246 (by decide) rfl).trans <| (s_il_7 p_251_92).trans <| (s_sip p_251_94 rfl).trans <| (s_idivc p_251_97 (by decide)).trans <| (s_ald 6 p_251_98 hs_258 rfl (by decide)).trans <| ck_cg fun k7 => (s_il_7 p_251_99).trans <| (s_sip p_251_101 rfl).trans <| (s_iremc p_251_104 (by decide)).trans <| Eq.trans (Eq.trans ((s_c_le_f p_251_105 rfl rfl rfl)) <| Eq.trans (ite_cg ((s_const p_251_108).trans <| (s_goto p_251_109 rfl).trans <| rfl) ((s_const p_251_112).trans <| (s_goto p_251_113 rfl).trans <| rfl)) (phi1 (fun z0 => Z e (d + 1) 251 129 [.ref 246, .int (iI x1), u2, .int (iI x3), .int (iI x4), .int (iI x5), .int (iI x6), .int (iI (m 247 (wr ((1297 + (120 * x1)) + x6))))] [.int (iI z0), .int (iI x5), .ref 259] m))) <| rfl) ((s_al_0 p_251_116).trans <| (s_getr p_251_117 hs_246 (by decide) rfl).trans <| (s_const p_251_120).trans <| (s_il_7 p_251_121).trans <| (s_iadd p_251_123).trans <| (s_sip p_251_124 rfl).trans <| (s_isub p_251_127).trans <| (s_ald 6 p_251_128 hs_258 rfl (by decide)).trans <| ck_cg fun k8 => rfl)) <| Eq.trans ck_ab <| ck_cg fun _ => (phi1 (fun z0 => Z e (d + 1) 251 129 [.ref 246, .int (iI x1), u2, .int (iI x3), .int (iI x4), .int (iI x5), .int (iI x6), .int (iI (m 247 (wr ((1297 + (120 * x1)) + x6))))] [.int (iI z0), .int (iI x5), .ref 259] m))) <| ck_cg fun _ => (s_ast 120 p_251_129 hs_259 rfl).trans <| ck_cg fun k9 => (s_inc_5 cat_i p_251_130).trans <| (s_goto p_251_133 rfl).trans <| (s_inc_6 cat_i p_251_224).trans <| (s_goto p_251_227 rfl).trans <| rfl) ((s_il_7 p_251_136).trans <| (s_sip p_251_138 rfl).trans <| Eq.trans ((s_c_ne_f p_251_141 rfl rfl wl_4000)) <| ite_cg ((s_al_0 p_251_144).trans <| (s_getr p_251_145 hs_246 (by decide) rfl).trans <| (s_il_5 p_251_148).trans <| (s_const p_251_150).trans <| (s_isub p_251_151).trans <| (s_const p_251_152).trans <| (s_al_0 p_251_153).trans <| (s_getr p_251_154 hs_246 (by decide) rfl).trans <| (s_il_5 p_251_157).trans <| (s_const p_251_159).trans <| (s_isub p_251_160).trans <| (s_ald 120 p_251_161 hs_259 rfl (by decide)).trans <| ck_cg fun k11 => (s_isub p_251_162).trans <| (s_ast 120 p_251_163 hs_259 rfl).trans <| ck_cg fun k12 => (s_goto p_251_164 rfl).trans <| (s_inc_6 cat_i p_251_224).trans <| (s_goto p_251_227 rfl).trans <| rfl) ((s_inc_5 cat_i p_251_167).trans <| (s_al_0 p_251_170).trans <| (s_getr p_251_171 hs_246 (by decide) rfl).trans <| (s_il_5 p_251_174).trans <| (s_const p_251_176).trans <| (s_isub p_251_177).trans <| (s_il_7 p_251_178).trans <| (s_sip p_251_180 rfl).trans <| Eq.trans (Eq.trans ((s_c_ne_f p_251_183 rfl rfl wl_4001)) <| Eq.trans (ite_cg ((s_al_0 p_251_186).trans <| (s_getr p_251_187 hs_246 (by decide) rfl).trans <| (s_il_5 p_251_190).trans <| (s_const p_251_192).trans <| (s_isub p_251_193).trans <| (s_ald 120 p_251_194 hs_259 rfl (by decide)).trans <| Eq.trans (ck_cg fun k13 => (s_al_0 p_251_195).trans <| (s_getr p_251_196 hs_246 (by decide) rfl).trans <| (s_il_5 p_251_199).trans <| (s_ald 120 p_251_201 hs_259 rfl (by decide)).trans <| ck_cg fun k14 => (s_iand p_251_202).trans <| (s_goto p_251_203 rfl).trans <| rfl) ck_ck) ((s_al_0 p_251_206).trans <| (s_getr p_251_207 hs_246 (by decide) rfl).trans <| (s_il_5 p_251_210).trans <| (s_const p_251_212).trans <| (s_isub p_251_213).trans <| (s_ald 120 p_251_214 hs_259 rfl (by decide)).trans <| Eq.trans (ck_cg fun k15 => (s_al_0 p_251_215).trans <| (s_getr p_251_216 hs_246 (by decide) rfl).trans <| (s_il_5 p_251_219).trans <| (s_ald 120 p_251_221 hs_259 rfl (by decide)).trans <| ck_cg fun k16 => (s_ior p_251_222).trans <| rfl) ck_ck)) <| Eq.trans ck_ab <| ck_cg fun _ => (phi1 (fun z0 => Z e (d + 1) 251 223 [.ref 246, .int (iI x1), u2, .int (iI x3), .int (iI x4), .int (iI (x5 + (-1))), .int (iI x6), .int (iI (m 247 (wr ((1297 + (120 * x1)) + x6))))] [.int (iI z0), .int (iI ((x5 + (-1)) - 1)), .ref 259] m))) <| ck_cg fun _ => (s_ast 120 p_251_223 hs_259 rfl).trans <| ck_cg fun k17 => (s_inc_6 cat_i p_251_224).trans <| (s_goto p_251_227 rfl).trans <| rfl))) (rfl)
theorem b_251_230 {x3 : Int} {x4 : Int} {u1 u2 u5 u6 u7 : Value} : Z e (d + 1) 251 230 [.ref 246, u1, u2, .int (iI x3), .int (iI x4), u5, u6, u7] [] m = ri (if ((wr x3) = (wr x4)) ∨ ((wr (m 259 0)) = 1) then 1 else 0) m := (s_il_3 p_251_230).trans <| (s_il_4 p_251_231).trans <| Eq.trans (Eq.trans (Eq.trans (s_c_eq_t p_251_233 rfl rfl rfl) <| Eq.trans (ite_cg rfl ((s_al_0 p_251_236).trans <| (s_getr p_251_237 hs_246 (by decide) rfl).trans <| (s_const p_251_240).trans <| (s_aldc p_251_241 hs_259 (by decide) wl_0 (by decide)).trans <| (s_const p_251_242).trans <| (s_c_ne_f p_251_243 rfl rfl wl_1))) co_or) <| Eq.trans (ite_cg ((s_const p_251_246).trans <| (s_goto p_251_247 rfl).trans <| rfl) ((s_const p_251_250).trans <| rfl)) (phi1 (fun z0 => Z e (d + 1) 251 251 [.ref 246, u1, u2, .int (iI x3), .int (iI x4), u5, u6, u7] [.int (iI z0)] m))) <| (s_retb p_251_251 (zM_of zq_251))
end BK
