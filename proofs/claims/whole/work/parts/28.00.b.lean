/-! Equations of blocks. By program. -/
theorem wl_m3 : wr (-3) = (-3) := rfl
theorem wl_m1 : wr (-1) = (-1) := rfl
theorem wl_0 : wr 0 = 0 := rfl
theorem wl_1 : wr 1 = 1 := rfl
theorem wl_2 : wr 2 = 2 := rfl
theorem wl_3 : wr 3 = 3 := rfl
theorem wl_4 : wr 4 = 4 := rfl
theorem wl_5 : wr 5 = 5 := rfl
theorem wl_6 : wr 6 = 6 := rfl
theorem wl_7 : wr 7 = 7 := rfl
theorem wl_8 : wr 8 = 8 := rfl
theorem wl_9 : wr 9 = 9 := rfl
theorem wl_10 : wr 10 = 10 := rfl
theorem wl_11 : wr 11 = 11 := rfl
theorem wl_12 : wr 12 = 12 := rfl
theorem wl_14 : wr 14 = 14 := rfl
theorem wl_16 : wr 16 = 16 := rfl
theorem wl_18 : wr 18 = 18 := rfl
theorem wl_20 : wr 20 = 20 := rfl
theorem wl_24 : wr 24 = 24 := rfl
theorem wl_30 : wr 30 = 30 := rfl
theorem wl_32 : wr 32 = 32 := rfl
theorem wl_40 : wr 40 = 40 := rfl
theorem wl_48 : wr 48 = 48 := rfl
theorem wl_57 : wr 57 = 57 := rfl
theorem wl_60 : wr 60 = 60 := rfl
theorem wl_97 : wr 97 = 97 := rfl
theorem wl_100 : wr 100 = 100 := rfl
theorem wl_122 : wr 122 = 122 := rfl
theorem wl_256 : wr 256 = 256 := rfl
theorem wl_300 : wr 300 = 300 := rfl
theorem wl_1000 : wr 1000 = 1000 := rfl
theorem wl_2737 : wr 2737 = 2737 := rfl
theorem wl_3000 : wr 3000 = 3000 := rfl
theorem wl_4000 : wr 4000 = 4000 := rfl
theorem wl_4001 : wr 4001 = 4001 := rfl
theorem wl_9999 : wr 9999 = 9999 := rfl
theorem wl_1000000 : wr 1000000 = 1000000 := rfl
section BK
variable {e : List Int32 × Value} {d : Nat} {m : zMm}
-- Host.noPlace
theorem p_2_0 : zP1 2 0 = some (.iload_n 0, 0, 0, 0) := zp_l zq_2 rfl
theorem p_2_1 : zP1 2 1 = some (.ifCond .lt 8, 0, 0, 0) := zp_l zq_2 rfl
theorem p_2_4 : zP1 2 4 = some (.iload_n 0, 0, 0, 0) := zp_l zq_2 rfl
theorem p_2_5 : zP1 2 5 = some (.iconst 4, 0, 0, 0) := zp_l zq_2 rfl
theorem p_2_6 : zP1 2 6 = some (.if_icmp .lt 7, 0, 0, 0) := zp_l zq_2 rfl
theorem p_2_9 : zP1 2 9 = some (.iconst 1, 0, 0, 0) := zp_l zq_2 rfl
theorem p_2_10 : zP1 2 10 = some (.goto 4, 0, 0, 0) := zp_l zq_2 rfl
theorem p_2_13 : zP1 2 13 = some (.iconst 0, 0, 0, 0) := zp_l zq_2 rfl
theorem p_2_14 : zP1 2 14 = some (.ireturn, 0, 0, 0) := zp_l zq_2 rfl
theorem b_2_0 {x0 : Int} : Z e d 2 0 [.int (iI x0)] [] m = ri (if ((wr x0) < 0) ∨ (4 ≤ (wr x0)) then 1 else 0) m := (s_il_0 p_2_0).trans <| Eq.trans (Eq.trans (Eq.trans (s_z_lt_t p_2_1 rfl rfl) <| Eq.trans (ite_cg rfl ((s_il_0 p_2_4).trans <| (s_const p_2_5).trans <| (s_c_lt_f p_2_6 rfl rfl wl_4))) co_or) <| Eq.trans (ite_cg ((s_const p_2_9).trans <| (s_goto p_2_10 rfl).trans <| rfl) ((s_const p_2_13).trans <| rfl)) (phi1 (fun z0 => Z e d 2 14 [.int (iI x0)] [.int (iI z0)] m))) <| (s_retb p_2_14 (zM_of zq_2))
-- Arrays.fill
theorem p_332_0 : zP1 332 0 = some (.iconst 0, 0, 0, 0) := zp_l zq_332 rfl
theorem p_332_1 : zP1 332 1 = some (.istore_n 2, 0, 0, 0) := zp_l zq_332 rfl
theorem p_332_2 : zP1 332 2 = some (.aload_n 0, 0, 0, 0) := zp_l zq_332 rfl
theorem p_332_3 : zP1 332 3 = some (.arraylength, 0, 0, 0) := zp_l zq_332 rfl
theorem p_332_4 : zP1 332 4 = some (.istore_n 3, 0, 0, 0) := zp_l zq_332 rfl
theorem p_332_5 : zP1 332 5 = some (.iload_n 2, 0, 0, 0) := zp_l zq_332 rfl
theorem p_332_6 : zP1 332 6 = some (.iload_n 3, 0, 0, 0) := zp_l zq_332 rfl
theorem p_332_7 : zP1 332 7 = some (.if_icmp .ge 13, 0, 0, 0) := zp_l zq_332 rfl
theorem p_332_10 : zP1 332 10 = some (.aload_n 0, 0, 0, 0) := zp_l zq_332 rfl
theorem p_332_11 : zP1 332 11 = some (.iload_n 2, 0, 0, 0) := zp_l zq_332 rfl
theorem p_332_12 : zP1 332 12 = some (.iload_n 1, 0, 0, 0) := zp_l zq_332 rfl
theorem p_332_13 : zP1 332 13 = some (.iastore, 0, 0, 0) := zp_l zq_332 rfl
theorem p_332_14 : zP1 332 14 = some (.iinc 2 1, 0, 0, 0) := zp_l zq_332 rfl
theorem p_332_17 : zP1 332 17 = some (.goto (-12), 0, 0, 0) := zp_l zq_332 rfl
theorem p_332_20 : zP1 332 20 = some (.return_, 0, 0, 0) := zp_l zq_332 rfl
theorem b_332_0 {a0 n : Nat} {x1 : Int} (hA : zArr a0 n) : Z e d 332 0 [.ref a0, .int (iI x1), .retAddr 0, .retAddr 0] [] m = Z e d 332 5 [.ref a0, .int (iI x1), .int (iI 0), .int (iI (n : Int))] [] m := (s_const p_332_0).trans <| (s_is_2 cat_i p_332_1).trans <| (s_al_0 p_332_2).trans <| (s_len (n : Int) p_332_3 (hA).1 rfl (hA).2).trans <| (s_is_3 cat_i p_332_4).trans <| rfl
theorem b_332_5 {a0 n : Nat} {x1 : Int} {x2 : Int} {x3 : Int} (hA : zArr a0 n) : Z e d 332 5 [.ref a0, .int (iI x1), .int (iI x2), .int (iI x3)] [] m = (if (wr x2) < (wr x3) then ck (0 ≤ (wr x2) ∧ (wr x2) < (n : Int)) (Z e d 332 5 [.ref a0, .int (iI x1), .int (iI (x2 + 1)), .int (iI x3)] [] (um m a0 (wr x2) x1)) else rn m) := (s_il_2 p_332_5).trans <| (s_il_3 p_332_6).trans <| Eq.trans ((s_c_ge_f p_332_7 rfl rfl rfl)) <| ite_cg ((s_al_0 p_332_10).trans <| (s_il_2 p_332_11).trans <| (s_il_1 p_332_12).trans <| (s_ast (n : Int) p_332_13 (hA).1 rfl).trans <| ck_cg fun k1 => (s_inc_2 cat_i p_332_14).trans <| (s_goto p_332_17 rfl).trans <| rfl) ((s_retv p_332_20 (zM_of zq_332)))
-- Host.lay
theorem p_3_0 : zP1 3 0 = some (.aload_n 0, 0, 0, 0) := zp_l zq_3 rfl
theorem p_3_1 : zP1 3 1 = some (.getfield 11, 0, 1, 0) := zp_r zq_3 rfl
theorem p_3_4 : zP1 3 4 = some (.iload_n 1, 0, 0, 0) := zp_l zq_3 rfl
theorem p_3_5 : zP1 3 5 = some (.iload_n 2, 0, 0, 0) := zp_l zq_3 rfl
theorem p_3_6 : zP1 3 6 = some (.iastore, 0, 0, 0) := zp_l zq_3 rfl
theorem p_3_7 : zP1 3 7 = some (.aload_n 0, 0, 0, 0) := zp_l zq_3 rfl
theorem p_3_8 : zP1 3 8 = some (.getfield 15, 0, 2, 0) := zp_r zq_3 rfl
theorem p_3_11 : zP1 3 11 = some (.iload_n 1, 0, 0, 0) := zp_l zq_3 rfl
theorem p_3_12 : zP1 3 12 = some (.iload_n 2, 0, 0, 0) := zp_l zq_3 rfl
theorem p_3_13 : zP1 3 13 = some (.iconst (-1), 0, 0, 0) := zp_l zq_3 rfl
theorem p_3_14 : zP1 3 14 = some (.if_icmp .ne 7, 0, 0, 0) := zp_l zq_3 rfl
theorem p_3_17 : zP1 3 17 = some (.iconst 0, 0, 0, 0) := zp_l zq_3 rfl
theorem p_3_18 : zP1 3 18 = some (.goto 4, 0, 0, 0) := zp_l zq_3 rfl
theorem p_3_21 : zP1 3 21 = some (.iload_n 3, 0, 0, 0) := zp_l zq_3 rfl
theorem p_3_22 : zP1 3 22 = some (.iastore, 0, 0, 0) := zp_l zq_3 rfl
theorem p_3_23 : zP1 3 23 = some (.aload_n 0, 0, 0, 0) := zp_l zq_3 rfl
theorem p_3_24 : zP1 3 24 = some (.getfield 20, 0, 3, 0) := zp_r zq_3 rfl
theorem p_3_27 : zP1 3 27 = some (.iload_n 1, 0, 0, 0) := zp_l zq_3 rfl
theorem p_3_28 : zP1 3 28 = some (.aaload, 0, 0, 0) := zp_l zq_3 rfl
theorem p_3_29 : zP1 3 29 = some (.iconst 0, 0, 0, 0) := zp_l zq_3 rfl
theorem p_3_30 : zP1 3 30 = some (.invokestatic 39, 332, 2, 0) := zp_r zq_3 rfl
theorem p_3_33 : zP1 3 33 = some (.return_, 0, 0, 0) := zp_l zq_3 rfl
theorem b_3_0 {x1 : Int} {x2 : Int} {x3 : Int} : Z e (d + 1) 3 0 [.ref 234, .int (iI x1), .int (iI x2), .int (iI x3)] [] m = ck (0 ≤ (wr x1) ∧ (wr x1) < 4) (ck (0 ≤ (wr x1) ∧ (wr x1) < 4) (ck (0 ≤ (wr x1) ∧ (wr x1) < 4) ((Z e d 332 0 [.ref (238 + (wr x1).toNat), .int (iI 0), .retAddr 0, .retAddr 0] [] (um (um m 235 (wr x1) x2) 236 (wr x1) (if (wr x2) = (-1) then 0 else x3))).bind (ZK e (d + 1) 3 33 [.ref 234, .int (iI x1), .int (iI x2), .int (iI x3)] [] (um (um m 235 (wr x1) x2) 236 (wr x1) (if (wr x2) = (-1) then 0 else x3)))))) := (s_al_0 p_3_0).trans <| (s_getr p_3_1 hs_234 (by decide) rfl).trans <| (s_il_1 p_3_4).trans <| (s_il_2 p_3_5).trans <| (s_ast 4 p_3_6 hs_235 rfl).trans <| ck_cg fun k1 => (s_al_0 p_3_7).trans <| (s_getr p_3_8 hs_234 (by decide) rfl).trans <| (s_il_1 p_3_11).trans <| (s_il_2 p_3_12).trans <| (s_const p_3_13).trans <| Eq.trans (Eq.trans ((s_c_ne_f p_3_14 rfl rfl wl_m1)) <| Eq.trans (ite_cg ((s_const p_3_17).trans <| (s_goto p_3_18 rfl).trans <| rfl) ((s_il_3 p_3_21).trans <| rfl)) (phi1 (fun z0 => Z e (d + 1) 3 22 [.ref 234, .int (iI x1), .int (iI x2), .int (iI x3)] [.int (iI z0), .int (iI x1), .ref 236] (um m 235 (wr x1) x2)))) <| (s_ast 4 p_3_22 hs_236 rfl).trans <| ck_cg fun k2 => (s_al_0 p_3_23).trans <| (s_getr p_3_24 hs_234 (by decide) rfl).trans <| (s_il_1 p_3_27).trans <| (s_aald 4 p_3_28 hs_237 rfl ⟨by decide, by decide⟩ ar_237).trans <| ck_cg fun k3 => (s_const p_3_29).trans <| (s_cs2 (Lc := [.ref (238 + (wr x1).toNat), .int (iI 0), .retAddr 0, .retAddr 0]) p_3_30 (by decide) (zM_of zq_332) ⟨Nat.le_of_ble_eq_true rfl, Nat.le_of_ble_eq_true rfl⟩ rfl)
theorem b_3_33 {u0 u1 u2 u3 : Value} : Z e (d + 1) 3 33 [u0, u1, u2, u3] [] m = rn m := (s_retv p_3_33 (zM_of zq_3))
-- Host.refusal
theorem p_4_0 : zP1 4 0 = some (.aload_n 0, 0, 0, 0) := zp_l zq_4 rfl
theorem p_4_1 : zP1 4 1 = some (.getfield 11, 0, 1, 0) := zp_r zq_4 rfl
theorem p_4_4 : zP1 4 4 = some (.iload_n 1, 0, 0, 0) := zp_l zq_4 rfl
theorem p_4_5 : zP1 4 5 = some (.iaload, 0, 0, 0) := zp_l zq_4 rfl
theorem p_4_6 : zP1 4 6 = some (.iconst (-1), 0, 0, 0) := zp_l zq_4 rfl
theorem p_4_7 : zP1 4 7 = some (.if_icmp .ne 6, 0, 0, 0) := zp_l zq_4 rfl
theorem p_4_10 : zP1 4 10 = some (.bipush (-11), 0, 0, 0) := zp_l zq_4 rfl
theorem p_4_12 : zP1 4 12 = some (.ireturn, 0, 0, 0) := zp_l zq_4 rfl
theorem p_4_13 : zP1 4 13 = some (.aload_n 0, 0, 0, 0) := zp_l zq_4 rfl
theorem p_4_14 : zP1 4 14 = some (.getfield 11, 0, 1, 0) := zp_r zq_4 rfl
theorem p_4_17 : zP1 4 17 = some (.iload_n 1, 0, 0, 0) := zp_l zq_4 rfl
theorem p_4_18 : zP1 4 18 = some (.iaload, 0, 0, 0) := zp_l zq_4 rfl
theorem p_4_19 : zP1 4 19 = some (.iload_n 2, 0, 0, 0) := zp_l zq_4 rfl
theorem p_4_20 : zP1 4 20 = some (.if_icmp .eq 6, 0, 0, 0) := zp_l zq_4 rfl
theorem p_4_23 : zP1 4 23 = some (.bipush (-13), 0, 0, 0) := zp_l zq_4 rfl
theorem p_4_25 : zP1 4 25 = some (.ireturn, 0, 0, 0) := zp_l zq_4 rfl
theorem p_4_26 : zP1 4 26 = some (.iload_n 3, 0, 0, 0) := zp_l zq_4 rfl
theorem p_4_27 : zP1 4 27 = some (.ifCond .lt 16, 0, 0, 0) := zp_l zq_4 rfl
theorem p_4_30 : zP1 4 30 = some (.iload_n 3, 0, 0, 0) := zp_l zq_4 rfl
theorem p_4_31 : zP1 4 31 = some (.aload_n 0, 0, 0, 0) := zp_l zq_4 rfl
theorem p_4_32 : zP1 4 32 = some (.getfield 15, 0, 2, 0) := zp_r zq_4 rfl
theorem p_4_35 : zP1 4 35 = some (.iload_n 1, 0, 0, 0) := zp_l zq_4 rfl
theorem p_4_36 : zP1 4 36 = some (.iaload, 0, 0, 0) := zp_l zq_4 rfl
theorem p_4_37 : zP1 4 37 = some (.iload 4, 0, 0, 0) := zp_l zq_4 rfl
theorem p_4_39 : zP1 4 39 = some (.isub, 0, 0, 0) := zp_l zq_4 rfl
theorem p_4_40 : zP1 4 40 = some (.if_icmp .le 6, 0, 0, 0) := zp_l zq_4 rfl
theorem p_4_43 : zP1 4 43 = some (.bipush (-12), 0, 0, 0) := zp_l zq_4 rfl
theorem p_4_45 : zP1 4 45 = some (.ireturn, 0, 0, 0) := zp_l zq_4 rfl
theorem p_4_46 : zP1 4 46 = some (.iconst 0, 0, 0, 0) := zp_l zq_4 rfl
theorem p_4_47 : zP1 4 47 = some (.ireturn, 0, 0, 0) := zp_l zq_4 rfl
theorem b_4_0 {x1 : Int} {x2 : Int} {x3 : Int} {x4 : Int} : Z e d 4 0 [.ref 234, .int (iI x1), .int (iI x2), .int (iI x3), .int (iI x4)] [] m = ck (0 ≤ (wr x1) ∧ (wr x1) < 4) ((if (wr (m 235 (wr x1))) = (-1) then ri (-11) m else ck (0 ≤ (wr x1) ∧ (wr x1) < 4) ((if ¬ (wr (m 235 (wr x1))) = (wr x2) then ri (-13) m else ck ((¬ ((wr x3) < 0)) → (0 ≤ (wr x1) ∧ (wr x1) < 4)) (if ((wr x3) < 0) ∨ ((wr ((m 236 (wr x1)) - x4)) < (wr x3)) then ri (-12) m else ri 0 m))))) := (s_al_0 p_4_0).trans <| (s_getr p_4_1 hs_234 (by decide) rfl).trans <| (s_il_1 p_4_4).trans <| (s_ald 4 p_4_5 hs_235 rfl (by decide)).trans <| ck_cg fun k1 => (s_const p_4_6).trans <| Eq.trans ((s_c_ne_f p_4_7 rfl rfl wl_m1)) <| ite_cg ((s_bip p_4_10 rfl).trans <| (s_reti p_4_12 (zM_of zq_4))) ((s_al_0 p_4_13).trans <| (s_getr p_4_14 hs_234 (by decide) rfl).trans <| (s_il_1 p_4_17).trans <| (s_ald 4 p_4_18 hs_235 rfl (by decide)).trans <| ck_cg fun k2 => (s_il_2 p_4_19).trans <| Eq.trans ((s_c_eq_f p_4_20 rfl rfl rfl)) <| ite_cg ((s_bip p_4_23 rfl).trans <| (s_reti p_4_25 (zM_of zq_4))) ((s_il_3 p_4_26).trans <| Eq.trans (Eq.trans (s_z_lt_t p_4_27 rfl rfl) <| Eq.trans (ite_cg rfl ((s_il_3 p_4_30).trans <| (s_al_0 p_4_31).trans <| (s_getr p_4_32 hs_234 (by decide) rfl).trans <| (s_il_1 p_4_35).trans <| (s_ald 4 p_4_36 hs_236 rfl (by decide)).trans <| ck_cg fun k3 => (s_il_4 p_4_37).trans <| (s_isub p_4_39).trans <| (s_c_le_f p_4_40 rfl rfl rfl))) <| Eq.trans ck_b <| ck_cg fun _ => co_or) <| ck_cg fun _ => ite_cg ((s_bip p_4_43 rfl).trans <| (s_reti p_4_45 (zM_of zq_4))) ((s_const p_4_46).trans <| (s_reti p_4_47 (zM_of zq_4)))))
-- Host.narrowed
theorem p_5_0 : zP1 5 0 = some (.iload_n 0, 0, 0, 0) := zp_l zq_5 rfl
theorem p_5_1 : zP1 5 1 = some (.ifCond .ne 6, 0, 0, 0) := zp_l zq_5 rfl
theorem p_5_4 : zP1 5 4 = some (.iload_n 1, 0, 0, 0) := zp_l zq_5 rfl
theorem p_5_5 : zP1 5 5 = some (.i2b, 0, 0, 0) := zp_l zq_5 rfl
theorem p_5_6 : zP1 5 6 = some (.ireturn, 0, 0, 0) := zp_l zq_5 rfl
theorem p_5_7 : zP1 5 7 = some (.iload_n 0, 0, 0, 0) := zp_l zq_5 rfl
theorem p_5_8 : zP1 5 8 = some (.iconst 1, 0, 0, 0) := zp_l zq_5 rfl
theorem p_5_9 : zP1 5 9 = some (.if_icmp .ne 6, 0, 0, 0) := zp_l zq_5 rfl
theorem p_5_12 : zP1 5 12 = some (.iload_n 1, 0, 0, 0) := zp_l zq_5 rfl
theorem p_5_13 : zP1 5 13 = some (.i2s, 0, 0, 0) := zp_l zq_5 rfl
theorem p_5_14 : zP1 5 14 = some (.ireturn, 0, 0, 0) := zp_l zq_5 rfl
theorem p_5_15 : zP1 5 15 = some (.iload_n 0, 0, 0, 0) := zp_l zq_5 rfl
theorem p_5_16 : zP1 5 16 = some (.iconst 4, 0, 0, 0) := zp_l zq_5 rfl
theorem p_5_17 : zP1 5 17 = some (.if_icmp .ne 13, 0, 0, 0) := zp_l zq_5 rfl
theorem p_5_20 : zP1 5 20 = some (.iload_n 1, 0, 0, 0) := zp_l zq_5 rfl
theorem p_5_21 : zP1 5 21 = some (.ifCond .eq 7, 0, 0, 0) := zp_l zq_5 rfl
theorem p_5_24 : zP1 5 24 = some (.iconst 1, 0, 0, 0) := zp_l zq_5 rfl
theorem p_5_25 : zP1 5 25 = some (.goto 4, 0, 0, 0) := zp_l zq_5 rfl
theorem p_5_28 : zP1 5 28 = some (.iconst 0, 0, 0, 0) := zp_l zq_5 rfl
theorem p_5_29 : zP1 5 29 = some (.ireturn, 0, 0, 0) := zp_l zq_5 rfl
theorem p_5_30 : zP1 5 30 = some (.iload_n 1, 0, 0, 0) := zp_l zq_5 rfl
theorem p_5_31 : zP1 5 31 = some (.ireturn, 0, 0, 0) := zp_l zq_5 rfl
theorem b_5_0 {x0 : Int} {x1 : Int} : Z e d 5 0 [.int (iI x0), .int (iI x1)] [] m = (if (wr x0) = 0 then ri (j8 x1) m else (if (wr x0) = 1 then ri (j16 x1) m else (if (wr x0) = 4 then ri (if ¬ (wr x1) = 0 then 1 else 0) m else ri x1 m))) := (s_il_0 p_5_0).trans <| Eq.trans ((s_z_ne_f p_5_1 rfl rfl)) <| ite_cg ((s_il_1 p_5_4).trans <| (s_i2b p_5_5).trans <| (s_reti p_5_6 (zM_of zq_5))) ((s_il_0 p_5_7).trans <| (s_const p_5_8).trans <| Eq.trans ((s_c_ne_f p_5_9 rfl rfl wl_1)) <| ite_cg ((s_il_1 p_5_12).trans <| (s_i2s p_5_13).trans <| (s_reti p_5_14 (zM_of zq_5))) ((s_il_0 p_5_15).trans <| (s_const p_5_16).trans <| Eq.trans ((s_c_ne_f p_5_17 rfl rfl wl_4)) <| ite_cg ((s_il_1 p_5_20).trans <| Eq.trans (Eq.trans ((s_z_eq_f p_5_21 rfl rfl)) <| Eq.trans (ite_cg ((s_const p_5_24).trans <| (s_goto p_5_25 rfl).trans <| rfl) ((s_const p_5_28).trans <| rfl)) (phi1 (fun z0 => Z e d 5 29 [.int (iI x0), .int (iI x1)] [.int (iI z0)] m))) <| (s_reti p_5_29 (zM_of zq_5))) ((s_il_1 p_5_30).trans <| (s_reti p_5_31 (zM_of zq_5)))))
-- Host.store
theorem p_6_0 : zP1 6 0 = some (.aload_n 0, 0, 0, 0) := zp_l zq_6 rfl
theorem p_6_1 : zP1 6 1 = some (.getfield 23, 0, 4, 0) := zp_r zq_6 rfl
theorem p_6_4 : zP1 6 4 = some (.iload_n 1, 0, 0, 0) := zp_l zq_6 rfl
theorem p_6_5 : zP1 6 5 = some (.iload_n 2, 0, 0, 0) := zp_l zq_6 rfl
theorem p_6_6 : zP1 6 6 = some (.iastore, 0, 0, 0) := zp_l zq_6 rfl
theorem p_6_7 : zP1 6 7 = some (.aload_n 0, 0, 0, 0) := zp_l zq_6 rfl
theorem p_6_8 : zP1 6 8 = some (.getfield 26, 0, 5, 0) := zp_r zq_6 rfl
theorem p_6_11 : zP1 6 11 = some (.iload_n 1, 0, 0, 0) := zp_l zq_6 rfl
theorem p_6_12 : zP1 6 12 = some (.iload_n 3, 0, 0, 0) := zp_l zq_6 rfl
theorem p_6_13 : zP1 6 13 = some (.iastore, 0, 0, 0) := zp_l zq_6 rfl
theorem p_6_14 : zP1 6 14 = some (.iload_n 2, 0, 0, 0) := zp_l zq_6 rfl
theorem p_6_15 : zP1 6 15 = some (.iconst 1, 0, 0, 0) := zp_l zq_6 rfl
theorem p_6_16 : zP1 6 16 = some (.if_icmp .ne 10, 0, 0, 0) := zp_l zq_6 rfl
theorem p_6_19 : zP1 6 19 = some (.iload_n 3, 0, 0, 0) := zp_l zq_6 rfl
theorem p_6_20 : zP1 6 20 = some (.invokestatic 45, 2, 1, 0) := zp_r zq_6 rfl
theorem p_6_23 : zP1 6 23 = some (.ifCond .eq 4, 0, 0, 0) := zp_l zq_6 rfl
theorem p_6_26 : zP1 6 26 = some (.return_, 0, 0, 0) := zp_l zq_6 rfl
theorem p_6_27 : zP1 6 27 = some (.aload_n 0, 0, 0, 0) := zp_l zq_6 rfl
theorem p_6_28 : zP1 6 28 = some (.getfield 11, 0, 1, 0) := zp_r zq_6 rfl
theorem p_6_31 : zP1 6 31 = some (.iload_n 3, 0, 0, 0) := zp_l zq_6 rfl
theorem p_6_32 : zP1 6 32 = some (.iaload, 0, 0, 0) := zp_l zq_6 rfl
theorem p_6_33 : zP1 6 33 = some (.iconst (-1), 0, 0, 0) := zp_l zq_6 rfl
theorem p_6_34 : zP1 6 34 = some (.if_icmp .ne 10, 0, 0, 0) := zp_l zq_6 rfl
theorem p_6_37 : zP1 6 37 = some (.aload_n 0, 0, 0, 0) := zp_l zq_6 rfl
theorem p_6_38 : zP1 6 38 = some (.getfield 23, 0, 4, 0) := zp_r zq_6 rfl
theorem p_6_41 : zP1 6 41 = some (.iload_n 1, 0, 0, 0) := zp_l zq_6 rfl
theorem p_6_42 : zP1 6 42 = some (.iconst 2, 0, 0, 0) := zp_l zq_6 rfl
theorem p_6_43 : zP1 6 43 = some (.iastore, 0, 0, 0) := zp_l zq_6 rfl
theorem p_6_44 : zP1 6 44 = some (.aload_n 0, 0, 0, 0) := zp_l zq_6 rfl
theorem p_6_45 : zP1 6 45 = some (.getfield 26, 0, 5, 0) := zp_r zq_6 rfl
theorem p_6_48 : zP1 6 48 = some (.iload_n 1, 0, 0, 0) := zp_l zq_6 rfl
theorem p_6_49 : zP1 6 49 = some (.aload_n 0, 0, 0, 0) := zp_l zq_6 rfl
theorem p_6_50 : zP1 6 50 = some (.getfield 11, 0, 1, 0) := zp_r zq_6 rfl
theorem p_6_53 : zP1 6 53 = some (.iload_n 3, 0, 0, 0) := zp_l zq_6 rfl
theorem p_6_54 : zP1 6 54 = some (.iaload, 0, 0, 0) := zp_l zq_6 rfl
theorem p_6_55 : zP1 6 55 = some (.iastore, 0, 0, 0) := zp_l zq_6 rfl
theorem p_6_56 : zP1 6 56 = some (.aload_n 0, 0, 0, 0) := zp_l zq_6 rfl
theorem p_6_57 : zP1 6 57 = some (.getfield 29, 0, 6, 0) := zp_r zq_6 rfl
theorem p_6_60 : zP1 6 60 = some (.iload_n 1, 0, 0, 0) := zp_l zq_6 rfl
theorem p_6_61 : zP1 6 61 = some (.aload_n 0, 0, 0, 0) := zp_l zq_6 rfl
theorem p_6_62 : zP1 6 62 = some (.getfield 15, 0, 2, 0) := zp_r zq_6 rfl
theorem p_6_65 : zP1 6 65 = some (.iload_n 3, 0, 0, 0) := zp_l zq_6 rfl
theorem p_6_66 : zP1 6 66 = some (.iaload, 0, 0, 0) := zp_l zq_6 rfl
theorem p_6_67 : zP1 6 67 = some (.iastore, 0, 0, 0) := zp_l zq_6 rfl
theorem p_6_68 : zP1 6 68 = some (.return_, 0, 0, 0) := zp_l zq_6 rfl
theorem b_6_0 {x1 : Int} {x2 : Int} {x3 : Int} : Z e (d + 1) 6 0 [.ref 234, .int (iI x1), .int (iI x2), .int (iI x3)] [] m = ck (0 ≤ (wr x1) ∧ (wr x1) < 4) (ck (0 ≤ (wr x1) ∧ (wr x1) < 4) ((if (¬ (wr x2) = 1) ∨ (((wr x3) < 0) ∨ (4 ≤ (wr x3))) then rn (um (um m 242 (wr x1) x2) 243 (wr x1) x3) else ck (0 ≤ (wr x3) ∧ (wr x3) < 4) ((if (wr ((um (um m 242 (wr x1) x2) 243 (wr x1) x3) 235 (wr x3))) = (-1) then ck (0 ≤ (wr x1) ∧ (wr x1) < 4) (Z e (d + 1) 6 44 [.ref 234, .int (iI x1), .int (iI x2), .int (iI x3)] [] (um (um (um m 242 (wr x1) x2) 243 (wr x1) x3) 242 (wr x1) 2)) else Z e (d + 1) 6 44 [.ref 234, .int (iI x1), .int (iI x2), .int (iI x3)] [] (um (um m 242 (wr x1) x2) 243 (wr x1) x3)))))) := (s_al_0 p_6_0).trans <| (s_getr p_6_1 hs_234 (by decide) rfl).trans <| (s_il_1 p_6_4).trans <| (s_il_2 p_6_5).trans <| (s_ast 4 p_6_6 hs_242 rfl).trans <| ck_cg fun k1 => (s_al_0 p_6_7).trans <| (s_getr p_6_8 hs_234 (by decide) rfl).trans <| (s_il_1 p_6_11).trans <| (s_il_3 p_6_12).trans <| (s_ast 4 p_6_13 hs_243 rfl).trans <| ck_cg fun k2 => (s_il_2 p_6_14).trans <| (s_const p_6_15).trans <| Eq.trans (Eq.trans (s_c_ne_t p_6_16 rfl rfl wl_1) <| Eq.trans (ite_cg rfl ((s_il_3 p_6_19).trans <| (s_cs1 (Lc := [.int (iI x3)]) p_6_20 (by decide) (zM_of zq_2) ⟨Nat.le_of_ble_eq_true rfl, Nat.le_of_ble_eq_true rfl⟩ rfl).trans <| (bd b_2_0).trans <| ri_k.trans <| (s_beq_f p_6_23 rfl))) co_or) <| ite_cg ((s_retv p_6_26 (zM_of zq_6))) ((s_al_0 p_6_27).trans <| (s_getr p_6_28 hs_234 (by decide) rfl).trans <| (s_il_3 p_6_31).trans <| (s_ald 4 p_6_32 hs_235 rfl (by decide)).trans <| ck_cg fun k3 => (s_const p_6_33).trans <| Eq.trans ((s_c_ne_f p_6_34 rfl rfl wl_m1)) <| ite_cg ((s_al_0 p_6_37).trans <| (s_getr p_6_38 hs_234 (by decide) rfl).trans <| (s_il_1 p_6_41).trans <| (s_const p_6_42).trans <| (s_ast 4 p_6_43 hs_242 rfl).trans <| ck_cg fun k4 => rfl) (rfl))
theorem b_6_44 {x1 : Int} {x3 : Int} {u2 : Value} : Z e (d + 1) 6 44 [.ref 234, .int (iI x1), u2, .int (iI x3)] [] m = ck (0 ≤ (wr x3) ∧ (wr x3) < 4) (ck (0 ≤ (wr x1) ∧ (wr x1) < 4) (ck (0 ≤ (wr x3) ∧ (wr x3) < 4) (ck (0 ≤ (wr x1) ∧ (wr x1) < 4) (rn (um (um m 243 (wr x1) (m 235 (wr x3))) 244 (wr x1) ((um m 243 (wr x1) (m 235 (wr x3))) 236 (wr x3))))))) := (s_al_0 p_6_44).trans <| (s_getr p_6_45 hs_234 (by decide) rfl).trans <| (s_il_1 p_6_48).trans <| (s_al_0 p_6_49).trans <| (s_getr p_6_50 hs_234 (by decide) rfl).trans <| (s_il_3 p_6_53).trans <| (s_ald 4 p_6_54 hs_235 rfl (by decide)).trans <| ck_cg fun k1 => (s_ast 4 p_6_55 hs_243 rfl).trans <| ck_cg fun k2 => (s_al_0 p_6_56).trans <| (s_getr p_6_57 hs_234 (by decide) rfl).trans <| (s_il_1 p_6_60).trans <| (s_al_0 p_6_61).trans <| (s_getr p_6_62 hs_234 (by decide) rfl).trans <| (s_il_3 p_6_65).trans <| (s_ald 4 p_6_66 hs_236 rfl (by decide)).trans <| ck_cg fun k3 => (s_ast 4 p_6_67 hs_244 rfl).trans <| ck_cg fun k4 => (s_retv p_6_68 (zM_of zq_6))
-- Table.has
theorem p_102_0 : zP1 102 0 = some (.iload_n 1, 0, 0, 0) := zp_l zq_102 rfl
theorem p_102_1 : zP1 102 1 = some (.ifCond .lt 15, 0, 0, 0) := zp_l zq_102 rfl
theorem p_102_4 : zP1 102 4 = some (.iload_n 1, 0, 0, 0) := zp_l zq_102 rfl
theorem p_102_5 : zP1 102 5 = some (.aload_n 0, 0, 0, 0) := zp_l zq_102 rfl
theorem p_102_6 : zP1 102 6 = some (.getfield 22, 7, 3, 0) := zp_r zq_102 rfl
theorem p_102_9 : zP1 102 9 = some (.if_icmp .ge 7, 0, 0, 0) := zp_l zq_102 rfl
theorem p_102_12 : zP1 102 12 = some (.iconst 1, 0, 0, 0) := zp_l zq_102 rfl
theorem p_102_13 : zP1 102 13 = some (.goto 4, 0, 0, 0) := zp_l zq_102 rfl
theorem p_102_16 : zP1 102 16 = some (.iconst 0, 0, 0, 0) := zp_l zq_102 rfl
theorem p_102_17 : zP1 102 17 = some (.ireturn, 0, 0, 0) := zp_l zq_102 rfl
theorem b_102_0 {a ca w mx : Nat} {x1 : Int} (hT : zTab a ca w mx) : Z e d 102 0 [.ref a, .int (iI x1)] [] m = ri (if (0 ≤ (wr x1)) ∧ ((wr x1) < (wr (m a 3))) then 1 else 0) m := (s_il_1 p_102_0).trans <| Eq.trans (Eq.trans (Eq.trans (s_z_lt_f p_102_1 rfl rfl) <| Eq.trans (ite_cg ((s_il_1 p_102_4).trans <| (s_al_0 p_102_5).trans <| (s_get p_102_6 (hT).1 (by decide) rfl).trans <| (s_c_ge_f p_102_9 rfl rfl rfl)) rfl) co_and) <| Eq.trans (ite_cg ((s_const p_102_12).trans <| (s_goto p_102_13 rfl).trans <| rfl) ((s_const p_102_16).trans <| rfl)) (phi1 (fun z0 => Z e d 102 17 [.ref a, .int (iI x1)] [.int (iI z0)] m))) <| (s_retb p_102_17 (zM_of zq_102))
-- Host.holdsNothing
theorem p_7_0 : zP1 7 0 = some (.aload_n 0, 0, 0, 0) := zp_l zq_7 rfl
theorem p_7_1 : zP1 7 1 = some (.getfield 23, 0, 4, 0) := zp_r zq_7 rfl
theorem p_7_4 : zP1 7 4 = some (.iload_n 1, 0, 0, 0) := zp_l zq_7 rfl
theorem p_7_5 : zP1 7 5 = some (.iaload, 0, 0, 0) := zp_l zq_7 rfl
theorem p_7_6 : zP1 7 6 = some (.iconst 2, 0, 0, 0) := zp_l zq_7 rfl
theorem p_7_7 : zP1 7 7 = some (.if_icmp .eq 31, 0, 0, 0) := zp_l zq_7 rfl
theorem p_7_10 : zP1 7 10 = some (.aload_n 0, 0, 0, 0) := zp_l zq_7 rfl
theorem p_7_11 : zP1 7 11 = some (.getfield 23, 0, 4, 0) := zp_r zq_7 rfl
theorem p_7_14 : zP1 7 14 = some (.iload_n 1, 0, 0, 0) := zp_l zq_7 rfl
theorem p_7_15 : zP1 7 15 = some (.iaload, 0, 0, 0) := zp_l zq_7 rfl
theorem p_7_16 : zP1 7 16 = some (.ifCond .ne 26, 0, 0, 0) := zp_l zq_7 rfl
theorem p_7_19 : zP1 7 19 = some (.aload_n 0, 0, 0, 0) := zp_l zq_7 rfl
theorem p_7_20 : zP1 7 20 = some (.getfield 35, 0, 0, 0) := zp_r zq_7 rfl
theorem p_7_23 : zP1 7 23 = some (.getfield 49, 9, 5, 0) := zp_r zq_7 rfl
theorem p_7_26 : zP1 7 26 = some (.aload_n 0, 0, 0, 0) := zp_l zq_7 rfl
theorem p_7_27 : zP1 7 27 = some (.getfield 26, 0, 5, 0) := zp_r zq_7 rfl
theorem p_7_30 : zP1 7 30 = some (.iload_n 1, 0, 0, 0) := zp_l zq_7 rfl
theorem p_7_31 : zP1 7 31 = some (.iaload, 0, 0, 0) := zp_l zq_7 rfl
theorem p_7_32 : zP1 7 32 = some (.invokevirtual 55, 102, 1, 7) := zp_r zq_7 rfl
theorem p_7_35 : zP1 7 35 = some (.ifCond .ne 7, 0, 0, 0) := zp_l zq_7 rfl
theorem p_7_38 : zP1 7 38 = some (.iconst 1, 0, 0, 0) := zp_l zq_7 rfl
theorem p_7_39 : zP1 7 39 = some (.goto 4, 0, 0, 0) := zp_l zq_7 rfl
theorem p_7_42 : zP1 7 42 = some (.iconst 0, 0, 0, 0) := zp_l zq_7 rfl
theorem p_7_43 : zP1 7 43 = some (.ireturn, 0, 0, 0) := zp_l zq_7 rfl
theorem b_7_0 {x1 : Int} : Z e (d + 1) 7 0 [.ref 234, .int (iI x1)] [] m = ck (0 ≤ (wr x1) ∧ (wr x1) < 4) (ck ((¬ ((wr (m 242 (wr x1))) = 2)) → ((0 ≤ (wr x1) ∧ (wr x1) < 4) ∧ (((wr (m 242 (wr x1))) = 0) → (0 ≤ (wr x1) ∧ (wr x1) < 4)))) (ri (if ((wr (m 242 (wr x1))) = 2) ∨ (((wr (m 242 (wr x1))) = 0) ∧ (¬ ((0 ≤ (wr (m 243 (wr x1)))) ∧ ((wr (m 243 (wr x1))) < (wr (m 4 3)))))) then 1 else 0) m)) := (s_al_0 p_7_0).trans <| (s_getr p_7_1 hs_234 (by decide) rfl).trans <| (s_il_1 p_7_4).trans <| (s_ald 4 p_7_5 hs_242 rfl (by decide)).trans <| ck_cg fun k1 => (s_const p_7_6).trans <| Eq.trans (Eq.trans (Eq.trans (s_c_eq_t p_7_7 rfl rfl wl_2) <| Eq.trans (ite_cg rfl ((s_al_0 p_7_10).trans <| (s_getr p_7_11 hs_234 (by decide) rfl).trans <| (s_il_1 p_7_14).trans <| (s_ald 4 p_7_15 hs_242 rfl (by decide)).trans <| Eq.trans (ck_cg fun k2 => Eq.trans (s_z_ne_f p_7_16 rfl rfl) <| Eq.trans (ite_cg ((s_al_0 p_7_19).trans <| (s_getr p_7_20 hs_234 (by decide) rfl).trans <| (s_getr p_7_23 hs_1 (by decide) rfl).trans <| (s_al_0 p_7_26).trans <| (s_getr p_7_27 hs_234 (by decide) rfl).trans <| (s_il_1 p_7_30).trans <| (s_ald 4 p_7_31 hs_243 rfl (by decide)).trans <| ck_cg fun k3 => (s_cv1 (Lc := [.ref 4, .int (iI (m 243 (wr x1)))]) p_7_32 (by decide) (by decide) (zM_of zq_102) ⟨Nat.le_of_ble_eq_true rfl, Nat.le_of_ble_eq_true rfl⟩ rfl (m_rc hs_4 ⟨rfl, by decide⟩)).trans <| (bd (b_102_0 zTab_4)).trans <| ri_k.trans <| (s_bne_f p_7_35 rfl)) rfl) <| Eq.trans ck_a <| ck_cg fun _ => co_and) ck_ck)) <| Eq.trans ck_b <| ck_cg fun _ => co_or) <| ck_cg fun _ => Eq.trans (ite_cg ((s_const p_7_38).trans <| (s_goto p_7_39 rfl).trans <| rfl) ((s_const p_7_42).trans <| rfl)) (phi1 (fun z0 => Z e (d + 1) 7 43 [.ref 234, .int (iI x1)] [.int (iI z0)] m))) <| ck_cg fun _ => (s_retb p_7_43 (zM_of zq_7))
-- Table.get
theorem p_104_0 : zP1 104 0 = some (.iload_n 1, 0, 0, 0) := zp_l zq_104 rfl
theorem p_104_1 : zP1 104 1 = some (.ifCond .lt 23, 0, 0, 0) := zp_l zq_104 rfl
theorem p_104_4 : zP1 104 4 = some (.iload_n 1, 0, 0, 0) := zp_l zq_104 rfl
theorem p_104_5 : zP1 104 5 = some (.aload_n 0, 0, 0, 0) := zp_l zq_104 rfl
theorem p_104_6 : zP1 104 6 = some (.getfield 22, 7, 3, 0) := zp_r zq_104 rfl
theorem p_104_9 : zP1 104 9 = some (.if_icmp .ge 15, 0, 0, 0) := zp_l zq_104 rfl
theorem p_104_12 : zP1 104 12 = some (.iload_n 2, 0, 0, 0) := zp_l zq_104 rfl
theorem p_104_13 : zP1 104 13 = some (.ifCond .lt 11, 0, 0, 0) := zp_l zq_104 rfl
theorem p_104_16 : zP1 104 16 = some (.iload_n 2, 0, 0, 0) := zp_l zq_104 rfl
theorem p_104_17 : zP1 104 17 = some (.aload_n 0, 0, 0, 0) := zp_l zq_104 rfl
theorem p_104_18 : zP1 104 18 = some (.getfield 15, 7, 0, 0) := zp_r zq_104 rfl
theorem p_104_21 : zP1 104 21 = some (.if_icmp .lt 6, 0, 0, 0) := zp_l zq_104 rfl
theorem p_104_24 : zP1 104 24 = some (.bipush (-3), 0, 0, 0) := zp_l zq_104 rfl
theorem p_104_26 : zP1 104 26 = some (.ireturn, 0, 0, 0) := zp_l zq_104 rfl
theorem p_104_27 : zP1 104 27 = some (.aload_n 0, 0, 0, 0) := zp_l zq_104 rfl
theorem p_104_28 : zP1 104 28 = some (.getfield 18, 7, 1, 0) := zp_r zq_104 rfl
theorem p_104_31 : zP1 104 31 = some (.iload_n 1, 0, 0, 0) := zp_l zq_104 rfl
theorem p_104_32 : zP1 104 32 = some (.aload_n 0, 0, 0, 0) := zp_l zq_104 rfl
theorem p_104_33 : zP1 104 33 = some (.getfield 15, 7, 0, 0) := zp_r zq_104 rfl
theorem p_104_36 : zP1 104 36 = some (.imul, 0, 0, 0) := zp_l zq_104 rfl
theorem p_104_37 : zP1 104 37 = some (.iload_n 2, 0, 0, 0) := zp_l zq_104 rfl
theorem p_104_38 : zP1 104 38 = some (.iadd, 0, 0, 0) := zp_l zq_104 rfl
theorem p_104_39 : zP1 104 39 = some (.iaload, 0, 0, 0) := zp_l zq_104 rfl
theorem p_104_40 : zP1 104 40 = some (.ireturn, 0, 0, 0) := zp_l zq_104 rfl
theorem b_104_0 {a ca w mx : Nat} {x1 : Int} {x2 : Int} (hT : zTab a ca w mx) : Z e d 104 0 [.ref a, .int (iI x1), .int (iI x2)] [] m = (if ((wr x1) < 0) ∨ (((wr (m a 3)) ≤ (wr x1)) ∨ (((wr x2) < 0) ∨ ((wr (w : Int)) ≤ (wr x2)))) then ri (-3) m else ck (0 ≤ (wr ((x1 * (w : Int)) + x2)) ∧ (wr ((x1 * (w : Int)) + x2)) < ((mx * w : Nat) : Int)) (ri (m ca (wr ((x1 * (w : Int)) + x2))) m)) := (s_il_1 p_104_0).trans <| Eq.trans (Eq.trans (s_z_lt_t p_104_1 rfl rfl) <| Eq.trans (ite_cg rfl ((s_il_1 p_104_4).trans <| (s_al_0 p_104_5).trans <| (s_get p_104_6 (hT).1 (by decide) rfl).trans <| Eq.trans (s_c_ge_t p_104_9 rfl rfl rfl) <| Eq.trans (ite_cg rfl ((s_il_2 p_104_12).trans <| Eq.trans (s_z_lt_t p_104_13 rfl rfl) <| Eq.trans (ite_cg rfl ((s_il_2 p_104_16).trans <| (s_al_0 p_104_17).trans <| (s_getr p_104_18 (hT).1 (by decide) rfl).trans <| (s_c_lt_f p_104_21 rfl rfl rfl))) co_or)) co_or)) co_or) <| ite_cg ((s_bip p_104_24 rfl).trans <| (s_reti p_104_26 (zM_of zq_104))) ((s_al_0 p_104_27).trans <| (s_getr p_104_28 (hT).1 (by decide) rfl).trans <| (s_il_1 p_104_31).trans <| (s_al_0 p_104_32).trans <| (s_getr p_104_33 (hT).1 (by decide) rfl).trans <| (s_imul p_104_36).trans <| (s_il_2 p_104_37).trans <| (s_iadd p_104_38).trans <| (s_ald ((mx * w : Nat) : Int) p_104_39 (hT.2).1 rfl (hT.2).2).trans <| ck_cg fun k1 => (s_reti p_104_40 (zM_of zq_104)))
-- Host.isUnder
theorem p_10_0 : zP1 10 0 = some (.iload_n 0, 0, 0, 0) := zp_l zq_10 rfl
theorem p_10_1 : zP1 10 1 = some (.istore_n 2, 0, 0, 0) := zp_l zq_10 rfl
theorem p_10_2 : zP1 10 2 = some (.iconst 0, 0, 0, 0) := zp_l zq_10 rfl
theorem p_10_3 : zP1 10 3 = some (.istore_n 3, 0, 0, 0) := zp_l zq_10 rfl
theorem p_10_4 : zP1 10 4 = some (.iload_n 3, 0, 0, 0) := zp_l zq_10 rfl
theorem p_10_5 : zP1 10 5 = some (.getstatic 71, 0, 0, 0) := zp_r zq_10 rfl
theorem p_10_8 : zP1 10 8 = some (.arraylength, 0, 0, 0) := zp_l zq_10 rfl
theorem p_10_9 : zP1 10 9 = some (.if_icmp .ge 34, 0, 0, 0) := zp_l zq_10 rfl
theorem p_10_12 : zP1 10 12 = some (.iload_n 2, 0, 0, 0) := zp_l zq_10 rfl
theorem p_10_13 : zP1 10 13 = some (.ifCond .lt 30, 0, 0, 0) := zp_l zq_10 rfl
theorem p_10_16 : zP1 10 16 = some (.iload_n 2, 0, 0, 0) := zp_l zq_10 rfl
theorem p_10_17 : zP1 10 17 = some (.getstatic 71, 0, 0, 0) := zp_r zq_10 rfl
theorem p_10_20 : zP1 10 20 = some (.arraylength, 0, 0, 0) := zp_l zq_10 rfl
theorem p_10_21 : zP1 10 21 = some (.if_icmp .ge 22, 0, 0, 0) := zp_l zq_10 rfl
theorem p_10_24 : zP1 10 24 = some (.iload_n 2, 0, 0, 0) := zp_l zq_10 rfl
theorem p_10_25 : zP1 10 25 = some (.iload_n 1, 0, 0, 0) := zp_l zq_10 rfl
theorem p_10_26 : zP1 10 26 = some (.if_icmp .ne 5, 0, 0, 0) := zp_l zq_10 rfl
theorem p_10_29 : zP1 10 29 = some (.iconst 1, 0, 0, 0) := zp_l zq_10 rfl
theorem p_10_30 : zP1 10 30 = some (.ireturn, 0, 0, 0) := zp_l zq_10 rfl
theorem p_10_31 : zP1 10 31 = some (.getstatic 71, 0, 0, 0) := zp_r zq_10 rfl
theorem p_10_34 : zP1 10 34 = some (.iload_n 2, 0, 0, 0) := zp_l zq_10 rfl
theorem p_10_35 : zP1 10 35 = some (.iaload, 0, 0, 0) := zp_l zq_10 rfl
theorem p_10_36 : zP1 10 36 = some (.istore_n 2, 0, 0, 0) := zp_l zq_10 rfl
theorem p_10_37 : zP1 10 37 = some (.iinc 3 1, 0, 0, 0) := zp_l zq_10 rfl
theorem p_10_40 : zP1 10 40 = some (.goto (-36), 0, 0, 0) := zp_l zq_10 rfl
theorem p_10_43 : zP1 10 43 = some (.iconst 0, 0, 0, 0) := zp_l zq_10 rfl
theorem p_10_44 : zP1 10 44 = some (.ireturn, 0, 0, 0) := zp_l zq_10 rfl
theorem b_10_0 {x0 : Int} {x1 : Int} : Z e d 10 0 [.int (iI x0), .int (iI x1), .retAddr 0, .retAddr 0] [] m = Z e d 10 4 [.int (iI x0), .int (iI x1), .int (iI x0), .int (iI 0)] [] m := (s_il_0 p_10_0).trans <| (s_is_2 cat_i p_10_1).trans <| (s_const p_10_2).trans <| (s_is_3 cat_i p_10_3).trans <| rfl
theorem b_10_4 {x1 : Int} {x2 : Int} {x3 : Int} {u0 : Value} : Z e d 10 4 [u0, .int (iI x1), .int (iI x2), .int (iI x3)] [] m = (if ((wr x3) < 7) ∧ ((0 ≤ (wr x2)) ∧ ((wr x2) < 7)) then (if (wr x2) = (wr x1) then ri 1 m else ck (0 ≤ (wr x2) ∧ (wr x2) < 7) (Z e d 10 4 [u0, .int (iI x1), .int (iI (zabove (wr x2))), .int (iI (x3 + 1))] [] m)) else ri 0 m) := (s_il_3 p_10_4).trans <| (s_gets (v := .ref 10302) p_10_5 rfl).trans <| (s_abl p_10_8).trans <| Eq.trans (Eq.trans (s_c_ge_f p_10_9 rfl rfl wl_7) <| Eq.trans (ite_cg ((s_il_2 p_10_12).trans <| Eq.trans (s_z_lt_f p_10_13 rfl rfl) <| Eq.trans (ite_cg ((s_il_2 p_10_16).trans <| (s_gets (v := .ref 10302) p_10_17 rfl).trans <| (s_abl p_10_20).trans <| (s_c_ge_f p_10_21 rfl rfl wl_7)) rfl) co_and) rfl) co_and) <| ite_cg ((s_il_2 p_10_24).trans <| (s_il_1 p_10_25).trans <| Eq.trans ((s_c_ne_f p_10_26 rfl rfl rfl)) <| ite_cg ((s_const p_10_29).trans <| (s_retk rfl p_10_30 (zM_of zq_10))) ((s_gets (v := .ref 10302) p_10_31 rfl).trans <| (s_il_2 p_10_34).trans <| (s_above p_10_35).trans <| ck_cg fun k1 => (s_is_2 cat_i p_10_36).trans <| (s_inc_3 cat_i p_10_37).trans <| (s_goto p_10_40 rfl).trans <| rfl)) ((s_const p_10_43).trans <| (s_retk rfl p_10_44 (zM_of zq_10)))
-- Host.personTakenFor
theorem p_8_0 : zP1 8 0 = some (.aload_n 0, 0, 0, 0) := zp_l zq_8 rfl
theorem p_8_1 : zP1 8 1 = some (.iload_n 1, 0, 0, 0) := zp_l zq_8 rfl
theorem p_8_2 : zP1 8 2 = some (.invokevirtual 60, 7, 1, 0) := zp_r zq_8 rfl
theorem p_8_5 : zP1 8 5 = some (.ifCond .eq 6, 0, 0, 0) := zp_l zq_8 rfl
theorem p_8_8 : zP1 8 8 = some (.bipush (-11), 0, 0, 0) := zp_l zq_8 rfl
theorem p_8_10 : zP1 8 10 = some (.ireturn, 0, 0, 0) := zp_l zq_8 rfl
theorem p_8_11 : zP1 8 11 = some (.aload_n 0, 0, 0, 0) := zp_l zq_8 rfl
theorem p_8_12 : zP1 8 12 = some (.getfield 23, 0, 4, 0) := zp_r zq_8 rfl
theorem p_8_15 : zP1 8 15 = some (.iload_n 1, 0, 0, 0) := zp_l zq_8 rfl
theorem p_8_16 : zP1 8 16 = some (.iaload, 0, 0, 0) := zp_l zq_8 rfl
theorem p_8_17 : zP1 8 17 = some (.ifCond .ne 27, 0, 0, 0) := zp_l zq_8 rfl
theorem p_8_20 : zP1 8 20 = some (.aload_n 0, 0, 0, 0) := zp_l zq_8 rfl
theorem p_8_21 : zP1 8 21 = some (.getfield 35, 0, 0, 0) := zp_r zq_8 rfl
theorem p_8_24 : zP1 8 24 = some (.getfield 49, 9, 5, 0) := zp_r zq_8 rfl
theorem p_8_27 : zP1 8 27 = some (.aload_n 0, 0, 0, 0) := zp_l zq_8 rfl
theorem p_8_28 : zP1 8 28 = some (.getfield 26, 0, 5, 0) := zp_r zq_8 rfl
theorem p_8_31 : zP1 8 31 = some (.iload_n 1, 0, 0, 0) := zp_l zq_8 rfl
theorem p_8_32 : zP1 8 32 = some (.iaload, 0, 0, 0) := zp_l zq_8 rfl
theorem p_8_33 : zP1 8 33 = some (.iconst 2, 0, 0, 0) := zp_l zq_8 rfl
theorem p_8_34 : zP1 8 34 = some (.invokevirtual 63, 104, 2, 7) := zp_r zq_8 rfl
theorem p_8_37 : zP1 8 37 = some (.iload_n 2, 0, 0, 0) := zp_l zq_8 rfl
theorem p_8_38 : zP1 8 38 = some (.invokestatic 67, 10, 2, 0) := zp_r zq_8 rfl
theorem p_8_41 : zP1 8 41 = some (.ifCond .ne 6, 0, 0, 0) := zp_l zq_8 rfl
theorem p_8_44 : zP1 8 44 = some (.bipush (-13), 0, 0, 0) := zp_l zq_8 rfl
theorem p_8_46 : zP1 8 46 = some (.ireturn, 0, 0, 0) := zp_l zq_8 rfl
theorem p_8_47 : zP1 8 47 = some (.aload_n 0, 0, 0, 0) := zp_l zq_8 rfl
theorem p_8_48 : zP1 8 48 = some (.getfield 26, 0, 5, 0) := zp_r zq_8 rfl
theorem p_8_51 : zP1 8 51 = some (.iload_n 1, 0, 0, 0) := zp_l zq_8 rfl
theorem p_8_52 : zP1 8 52 = some (.iaload, 0, 0, 0) := zp_l zq_8 rfl
theorem p_8_53 : zP1 8 53 = some (.ireturn, 0, 0, 0) := zp_l zq_8 rfl
theorem b_8_0 {x1 : Int} {x2 : Int} : Z e (d + 2) 8 0 [.ref 234, .int (iI x1), .int (iI x2)] [] m = ck (0 ≤ (wr x1) ∧ (wr x1) < 4) (ck ((¬ ((wr (m 242 (wr x1))) = 2)) → ((0 ≤ (wr x1) ∧ (wr x1) < 4) ∧ (((wr (m 242 (wr x1))) = 0) → (0 ≤ (wr x1) ∧ (wr x1) < 4)))) ((if ((wr (m 242 (wr x1))) = 2) ∨ (((wr (m 242 (wr x1))) = 0) ∧ (¬ ((0 ≤ (wr (m 243 (wr x1)))) ∧ ((wr (m 243 (wr x1))) < (wr (m 4 3)))))) then ri (-11) m else ck (0 ≤ (wr x1) ∧ (wr x1) < 4) ((if (wr (m 242 (wr x1))) = 0 then ck (0 ≤ (wr x1) ∧ (wr x1) < 4) ((Z e (d + 1) 104 0 [.ref 4, .int (iI (m 243 (wr x1))), .int (iI 2)] [] m).bind (ZK e (d + 2) 8 37 [.ref 234, .int (iI x1), .int (iI x2)] [] m)) else ri (-13) m))))) := (s_al_0 p_8_0).trans <| (s_il_1 p_8_1).trans <| (s_cv1 (Lc := [.ref 234, .int (iI x1)]) p_8_2 (by decide) (by decide) (zM_of zq_7) ⟨Nat.le_of_ble_eq_true rfl, Nat.le_of_ble_eq_true rfl⟩ rfl (m_rc hs_234 ⟨rfl, by decide⟩)).trans <| (bd b_7_0).trans <| ck_bind.trans <| ck_cg fun _ => ck_bind.trans <| ck_cg fun _ => ri_k.trans <| Eq.trans ((s_beq_f p_8_5 rfl)) <| ite_cg ((s_bip p_8_8 rfl).trans <| (s_reti p_8_10 (zM_of zq_8))) ((s_al_0 p_8_11).trans <| (s_getr p_8_12 hs_234 (by decide) rfl).trans <| (s_il_1 p_8_15).trans <| (s_ald 4 p_8_16 hs_242 rfl (by decide)).trans <| ck_cg fun k1 => Eq.trans ((s_z_ne_f p_8_17 rfl rfl)) <| ite_cg ((s_al_0 p_8_20).trans <| (s_getr p_8_21 hs_234 (by decide) rfl).trans <| (s_getr p_8_24 hs_1 (by decide) rfl).trans <| (s_al_0 p_8_27).trans <| (s_getr p_8_28 hs_234 (by decide) rfl).trans <| (s_il_1 p_8_31).trans <| (s_ald 4 p_8_32 hs_243 rfl (by decide)).trans <| ck_cg fun k2 => (s_const p_8_33).trans <| (s_cv2 (Lc := [.ref 4, .int (iI (m 243 (wr x1))), .int (iI 2)]) p_8_34 (by decide) (by decide) (zM_of zq_104) ⟨Nat.le_of_ble_eq_true rfl, Nat.le_of_ble_eq_true rfl⟩ rfl (m_rc hs_4 ⟨rfl, by decide⟩))) ((s_bip p_8_44 rfl).trans <| (s_reti p_8_46 (zM_of zq_8))))
theorem b_8_37 {x1 : Int} {x2 : Int} {xs0 : Int} : Z e (d + 2) 8 37 [.ref 234, .int (iI x1), .int (iI x2)] [.int (iI xs0)] m = (Z e (d + 1) 10 0 [.int (iI xs0), .int (iI x2), .retAddr 0, .retAddr 0] [] m).bind (ZK e (d + 2) 8 41 [.ref 234, .int (iI x1), .int (iI x2)] [] m) := (s_il_2 p_8_37).trans <| (s_cs2 (Lc := [.int (iI xs0), .int (iI x2), .retAddr 0, .retAddr 0]) p_8_38 (by decide) (zM_of zq_10) ⟨Nat.le_of_ble_eq_true rfl, Nat.le_of_ble_eq_true rfl⟩ rfl)
theorem b_8_41 {x1 : Int} {xs0 : Int} {u2 : Value} : Z e (d + 2) 8 41 [.ref 234, .int (iI x1), u2] [.int (iI xs0)] m = (if (wr xs0) = 0 then ri (-13) m else ck (0 ≤ (wr x1) ∧ (wr x1) < 4) (ri (m 243 (wr x1)) m)) := Eq.trans ((s_z_ne_f p_8_41 rfl rfl)) <| ite_cg ((s_bip p_8_44 rfl).trans <| (s_reti p_8_46 (zM_of zq_8))) ((s_al_0 p_8_47).trans <| (s_getr p_8_48 hs_234 (by decide) rfl).trans <| (s_il_1 p_8_51).trans <| (s_ald 4 p_8_52 hs_243 rfl (by decide)).trans <| ck_cg fun k1 => (s_reti p_8_53 (zM_of zq_8)))
-- Host.rowTakenFor
theorem p_9_0 : zP1 9 0 = some (.aload_n 0, 0, 0, 0) := zp_l zq_9 rfl
theorem p_9_1 : zP1 9 1 = some (.iload_n 1, 0, 0, 0) := zp_l zq_9 rfl
theorem p_9_2 : zP1 9 2 = some (.invokevirtual 60, 7, 1, 0) := zp_r zq_9 rfl
theorem p_9_5 : zP1 9 5 = some (.ifCond .eq 6, 0, 0, 0) := zp_l zq_9 rfl
theorem p_9_8 : zP1 9 8 = some (.bipush (-11), 0, 0, 0) := zp_l zq_9 rfl
theorem p_9_10 : zP1 9 10 = some (.ireturn, 0, 0, 0) := zp_l zq_9 rfl
theorem p_9_11 : zP1 9 11 = some (.aload_n 0, 0, 0, 0) := zp_l zq_9 rfl
theorem p_9_12 : zP1 9 12 = some (.getfield 23, 0, 4, 0) := zp_r zq_9 rfl
theorem p_9_15 : zP1 9 15 = some (.iload_n 1, 0, 0, 0) := zp_l zq_9 rfl
theorem p_9_16 : zP1 9 16 = some (.iaload, 0, 0, 0) := zp_l zq_9 rfl
theorem p_9_17 : zP1 9 17 = some (.iconst 1, 0, 0, 0) := zp_l zq_9 rfl
theorem p_9_18 : zP1 9 18 = some (.if_icmp .ne 13, 0, 0, 0) := zp_l zq_9 rfl
theorem p_9_21 : zP1 9 21 = some (.aload_n 0, 0, 0, 0) := zp_l zq_9 rfl
theorem p_9_22 : zP1 9 22 = some (.getfield 26, 0, 5, 0) := zp_r zq_9 rfl
theorem p_9_25 : zP1 9 25 = some (.iload_n 1, 0, 0, 0) := zp_l zq_9 rfl
theorem p_9_26 : zP1 9 26 = some (.iaload, 0, 0, 0) := zp_l zq_9 rfl
theorem p_9_27 : zP1 9 27 = some (.iload_n 2, 0, 0, 0) := zp_l zq_9 rfl
theorem p_9_28 : zP1 9 28 = some (.if_icmp .eq 6, 0, 0, 0) := zp_l zq_9 rfl
theorem p_9_31 : zP1 9 31 = some (.bipush (-13), 0, 0, 0) := zp_l zq_9 rfl
theorem p_9_33 : zP1 9 33 = some (.ireturn, 0, 0, 0) := zp_l zq_9 rfl
theorem p_9_34 : zP1 9 34 = some (.aload_n 0, 0, 0, 0) := zp_l zq_9 rfl
theorem p_9_35 : zP1 9 35 = some (.getfield 29, 0, 6, 0) := zp_r zq_9 rfl
theorem p_9_38 : zP1 9 38 = some (.iload_n 1, 0, 0, 0) := zp_l zq_9 rfl
theorem p_9_39 : zP1 9 39 = some (.iaload, 0, 0, 0) := zp_l zq_9 rfl
theorem p_9_40 : zP1 9 40 = some (.ireturn, 0, 0, 0) := zp_l zq_9 rfl
theorem b_9_0 {x1 : Int} {x2 : Int} : Z e (d + 2) 9 0 [.ref 234, .int (iI x1), .int (iI x2)] [] m = ck (0 ≤ (wr x1) ∧ (wr x1) < 4) (ck ((¬ ((wr (m 242 (wr x1))) = 2)) → ((0 ≤ (wr x1) ∧ (wr x1) < 4) ∧ (((wr (m 242 (wr x1))) = 0) → (0 ≤ (wr x1) ∧ (wr x1) < 4)))) ((if ((wr (m 242 (wr x1))) = 2) ∨ (((wr (m 242 (wr x1))) = 0) ∧ (¬ ((0 ≤ (wr (m 243 (wr x1)))) ∧ ((wr (m 243 (wr x1))) < (wr (m 4 3)))))) then ri (-11) m else ck (0 ≤ (wr x1) ∧ (wr x1) < 4) (ck ((¬ (¬ (wr (m 242 (wr x1))) = 1)) → (0 ≤ (wr x1) ∧ (wr x1) < 4)) (if (¬ (wr (m 242 (wr x1))) = 1) ∨ (¬ (wr (m 243 (wr x1))) = (wr x2)) then ri (-13) m else ck (0 ≤ (wr x1) ∧ (wr x1) < 4) (ri (m 244 (wr x1)) m)))))) := (s_al_0 p_9_0).trans <| (s_il_1 p_9_1).trans <| (s_cv1 (Lc := [.ref 234, .int (iI x1)]) p_9_2 (by decide) (by decide) (zM_of zq_7) ⟨Nat.le_of_ble_eq_true rfl, Nat.le_of_ble_eq_true rfl⟩ rfl (m_rc hs_234 ⟨rfl, by decide⟩)).trans <| (bd b_7_0).trans <| ck_bind.trans <| ck_cg fun _ => ck_bind.trans <| ck_cg fun _ => ri_k.trans <| Eq.trans ((s_beq_f p_9_5 rfl)) <| ite_cg ((s_bip p_9_8 rfl).trans <| (s_reti p_9_10 (zM_of zq_9))) ((s_al_0 p_9_11).trans <| (s_getr p_9_12 hs_234 (by decide) rfl).trans <| (s_il_1 p_9_15).trans <| (s_ald 4 p_9_16 hs_242 rfl (by decide)).trans <| ck_cg fun k1 => (s_const p_9_17).trans <| Eq.trans (Eq.trans (s_c_ne_t p_9_18 rfl rfl wl_1) <| Eq.trans (ite_cg rfl ((s_al_0 p_9_21).trans <| (s_getr p_9_22 hs_234 (by decide) rfl).trans <| (s_il_1 p_9_25).trans <| (s_ald 4 p_9_26 hs_243 rfl (by decide)).trans <| ck_cg fun k2 => (s_il_2 p_9_27).trans <| (s_c_eq_f p_9_28 rfl rfl rfl))) <| Eq.trans ck_b <| ck_cg fun _ => co_or) <| ck_cg fun _ => ite_cg ((s_bip p_9_31 rfl).trans <| (s_reti p_9_33 (zM_of zq_9))) ((s_al_0 p_9_34).trans <| (s_getr p_9_35 hs_234 (by decide) rfl).trans <| (s_il_1 p_9_38).trans <| (s_ald 4 p_9_39 hs_244 rfl (by decide)).trans <| ck_cg fun k3 => (s_reti p_9_40 (zM_of zq_9))))
-- Host.begin
theorem p_12_0 : zP1 12 0 = some (.aload_n 0, 0, 0, 0) := zp_l zq_12 rfl
theorem p_12_1 : zP1 12 1 = some (.getfield 103, 0, 8, 0) := zp_r zq_12 rfl
theorem p_12_4 : zP1 12 4 = some (.bipush 30, 0, 0, 0) := zp_l zq_12 rfl
theorem p_12_6 : zP1 12 6 = some (.if_icmp .lt 4, 0, 0, 0) := zp_l zq_12 rfl
theorem p_12_9 : zP1 12 9 = some (.return_, 0, 0, 0) := zp_l zq_12 rfl
theorem p_12_10 : zP1 12 10 = some (.aload_n 0, 0, 0, 0) := zp_l zq_12 rfl
theorem p_12_11 : zP1 12 11 = some (.getfield 32, 0, 7, 0) := zp_r zq_12 rfl
theorem p_12_14 : zP1 12 14 = some (.aload_n 0, 0, 0, 0) := zp_l zq_12 rfl
theorem p_12_15 : zP1 12 15 = some (.getfield 103, 0, 8, 0) := zp_r zq_12 rfl
theorem p_12_18 : zP1 12 18 = some (.iload_n 1, 0, 0, 0) := zp_l zq_12 rfl
theorem p_12_19 : zP1 12 19 = some (.iastore, 0, 0, 0) := zp_l zq_12 rfl
theorem p_12_20 : zP1 12 20 = some (.aload_n 0, 0, 0, 0) := zp_l zq_12 rfl
theorem p_12_21 : zP1 12 21 = some (.dup, 0, 0, 0) := zp_l zq_12 rfl
theorem p_12_22 : zP1 12 22 = some (.getfield 103, 0, 8, 0) := zp_r zq_12 rfl
theorem p_12_25 : zP1 12 25 = some (.iconst 1, 0, 0, 0) := zp_l zq_12 rfl
theorem p_12_26 : zP1 12 26 = some (.iadd, 0, 0, 0) := zp_l zq_12 rfl
theorem p_12_27 : zP1 12 27 = some (.putfield 103, 0, 8, 0) := zp_r zq_12 rfl
theorem p_12_30 : zP1 12 30 = some (.return_, 0, 0, 0) := zp_l zq_12 rfl
theorem b_12_0 {x1 : Int} : Z e d 12 0 [.ref 234, .int (iI x1)] [] m = (if 30 ≤ (wr (m 234 8)) then rn m else ck (0 ≤ (wr (m 234 8)) ∧ (wr (m 234 8)) < 30) (rn (um (um m 245 (wr (m 234 8)) x1) 234 8 (((um m 245 (wr (m 234 8)) x1) 234 8) + 1)))) := (s_al_0 p_12_0).trans <| (s_get p_12_1 hs_234 (by decide) rfl).trans <| (s_bip p_12_4 rfl).trans <| Eq.trans ((s_c_lt_f p_12_6 rfl rfl wl_30)) <| ite_cg ((s_retv p_12_9 (zM_of zq_12))) ((s_al_0 p_12_10).trans <| (s_getr p_12_11 hs_234 (by decide) rfl).trans <| (s_al_0 p_12_14).trans <| (s_get p_12_15 hs_234 (by decide) rfl).trans <| (s_il_1 p_12_18).trans <| (s_ast 30 p_12_19 hs_245 rfl).trans <| ck_cg fun k1 => (s_al_0 p_12_20).trans <| (s_dup cat_r p_12_21).trans <| (s_get p_12_22 hs_234 (by decide) rfl).trans <| (s_const p_12_25).trans <| (s_iadd p_12_26).trans <| (s_put p_12_27 hs_234 (by decide) rfl).trans <| (s_retv p_12_30 (zM_of zq_12)))
-- Host.guards
theorem p_13_0 : zP1 13 0 = some (.iload_n 1, 0, 0, 0) := zp_l zq_13 rfl
theorem p_13_1 : zP1 13 1 = some (.iconst 3, 0, 0, 0) := zp_l zq_13 rfl
theorem p_13_2 : zP1 13 2 = some (.if_icmp .ne 18, 0, 0, 0) := zp_l zq_13 rfl
theorem p_13_5 : zP1 13 5 = some (.aload_n 0, 0, 0, 0) := zp_l zq_13 rfl
theorem p_13_6 : zP1 13 6 = some (.bipush 40, 0, 0, 0) := zp_l zq_13 rfl
theorem p_13_8 : zP1 13 8 = some (.invokevirtual 106, 12, 1, 0) := zp_r zq_13 rfl
theorem p_13_11 : zP1 13 11 = some (.iconst 0, 0, 0, 0) := zp_l zq_13 rfl
theorem p_13_12 : zP1 13 12 = some (.aload_n 0, 0, 0, 0) := zp_l zq_13 rfl
theorem p_13_13 : zP1 13 13 = some (.iconst 2, 0, 0, 0) := zp_l zq_13 rfl
theorem p_13_14 : zP1 13 14 = some (.iload_n 2, 0, 0, 0) := zp_l zq_13 rfl
theorem p_13_15 : zP1 13 15 = some (.invokevirtual 91, 13, 2, 0) := zp_r zq_13 rfl
theorem p_13_18 : zP1 13 18 = some (.isub, 0, 0, 0) := zp_l zq_13 rfl
theorem p_13_19 : zP1 13 19 = some (.ireturn, 0, 0, 0) := zp_l zq_13 rfl
theorem p_13_20 : zP1 13 20 = some (.iload_n 1, 0, 0, 0) := zp_l zq_13 rfl
theorem p_13_21 : zP1 13 21 = some (.iconst 1, 0, 0, 0) := zp_l zq_13 rfl
theorem p_13_22 : zP1 13 22 = some (.if_icmp .eq 8, 0, 0, 0) := zp_l zq_13 rfl
theorem p_13_25 : zP1 13 25 = some (.iload_n 1, 0, 0, 0) := zp_l zq_13 rfl
theorem p_13_26 : zP1 13 26 = some (.iconst 2, 0, 0, 0) := zp_l zq_13 rfl
theorem p_13_27 : zP1 13 27 = some (.if_icmp .ne 21, 0, 0, 0) := zp_l zq_13 rfl
theorem p_13_30 : zP1 13 30 = some (.aload_n 0, 0, 0, 0) := zp_l zq_13 rfl
theorem p_13_31 : zP1 13 31 = some (.bipush 20, 0, 0, 0) := zp_l zq_13 rfl
theorem p_13_33 : zP1 13 33 = some (.invokevirtual 106, 12, 1, 0) := zp_r zq_13 rfl
theorem p_13_36 : zP1 13 36 = some (.aload_n 0, 0, 0, 0) := zp_l zq_13 rfl
theorem p_13_37 : zP1 13 37 = some (.iconst 0, 0, 0, 0) := zp_l zq_13 rfl
theorem p_13_38 : zP1 13 38 = some (.iload_n 2, 0, 0, 0) := zp_l zq_13 rfl
theorem p_13_39 : zP1 13 39 = some (.invokevirtual 91, 13, 2, 0) := zp_r zq_13 rfl
theorem p_13_42 : zP1 13 42 = some (.aload_n 0, 0, 0, 0) := zp_l zq_13 rfl
theorem p_13_43 : zP1 13 43 = some (.getfield 81, 0, 11, 0) := zp_r zq_13 rfl
theorem p_13_46 : zP1 13 46 = some (.ixor, 0, 0, 0) := zp_l zq_13 rfl
theorem p_13_47 : zP1 13 47 = some (.ireturn, 0, 0, 0) := zp_l zq_13 rfl
theorem p_13_48 : zP1 13 48 = some (.aload_n 0, 0, 0, 0) := zp_l zq_13 rfl
theorem p_13_49 : zP1 13 49 = some (.bipush 10, 0, 0, 0) := zp_l zq_13 rfl
theorem p_13_51 : zP1 13 51 = some (.invokevirtual 106, 12, 1, 0) := zp_r zq_13 rfl
theorem p_13_54 : zP1 13 54 = some (.iload_n 2, 0, 0, 0) := zp_l zq_13 rfl
theorem p_13_55 : zP1 13 55 = some (.aload_n 0, 0, 0, 0) := zp_l zq_13 rfl
theorem p_13_56 : zP1 13 56 = some (.getfield 78, 0, 10, 0) := zp_r zq_13 rfl
theorem p_13_59 : zP1 13 59 = some (.iadd, 0, 0, 0) := zp_l zq_13 rfl
theorem p_13_60 : zP1 13 60 = some (.ireturn, 0, 0, 0) := zp_l zq_13 rfl
theorem b_13_0 {x1 : Int} {x2 : Int} : Z e (d + 1) 13 0 [.ref 234, .int (iI x1), .int (iI x2)] [] m = (if (wr x1) = 3 then (Z e d 12 0 [.ref 234, .int (iI 40)] [] m).bind (ZK e (d + 1) 13 11 [.ref 234, .int (iI x1), .int (iI x2)] [] m) else (if ((wr x1) = 1) ∨ ((wr x1) = 2) then (Z e d 12 0 [.ref 234, .int (iI 20)] [] m).bind (ZK e (d + 1) 13 36 [.ref 234, .int (iI x1), .int (iI x2)] [] m) else (Z e d 12 0 [.ref 234, .int (iI 10)] [] m).bind (ZK e (d + 1) 13 54 [.ref 234, .int (iI x1), .int (iI x2)] [] m))) := (s_il_1 p_13_0).trans <| (s_const p_13_1).trans <| Eq.trans ((s_c_ne_f p_13_2 rfl rfl wl_3)) <| ite_cg ((s_al_0 p_13_5).trans <| (s_bip p_13_6 rfl).trans <| (s_cv1 (Lc := [.ref 234, .int (iI 40)]) p_13_8 (by decide) (by decide) (zM_of zq_12) ⟨Nat.le_of_ble_eq_true rfl, Nat.le_of_ble_eq_true rfl⟩ rfl (m_rc hs_234 ⟨rfl, by decide⟩))) ((s_il_1 p_13_20).trans <| (s_const p_13_21).trans <| Eq.trans (Eq.trans (s_c_eq_t p_13_22 rfl rfl wl_1) <| Eq.trans (ite_cg rfl ((s_il_1 p_13_25).trans <| (s_const p_13_26).trans <| (s_c_ne_f p_13_27 rfl rfl wl_2))) co_or) <| ite_cg ((s_al_0 p_13_30).trans <| (s_bip p_13_31 rfl).trans <| (s_cv1 (Lc := [.ref 234, .int (iI 20)]) p_13_33 (by decide) (by decide) (zM_of zq_12) ⟨Nat.le_of_ble_eq_true rfl, Nat.le_of_ble_eq_true rfl⟩ rfl (m_rc hs_234 ⟨rfl, by decide⟩))) ((s_al_0 p_13_48).trans <| (s_bip p_13_49 rfl).trans <| (s_cv1 (Lc := [.ref 234, .int (iI 10)]) p_13_51 (by decide) (by decide) (zM_of zq_12) ⟨Nat.le_of_ble_eq_true rfl, Nat.le_of_ble_eq_true rfl⟩ rfl (m_rc hs_234 ⟨rfl, by decide⟩))))
theorem b_13_11 {x2 : Int} {u1 : Value} : Z e (d + 1) 13 11 [.ref 234, u1, .int (iI x2)] [] m = (Z e d 13 0 [.ref 234, .int (iI 2), .int (iI x2)] [] m).bind (ZK e (d + 1) 13 18 [.ref 234, u1, .int (iI x2)] [.int (iI 0)] m) := (s_const p_13_11).trans <| (s_al_0 p_13_12).trans <| (s_const p_13_13).trans <| (s_il_2 p_13_14).trans <| (s_cv2 (Lc := [.ref 234, .int (iI 2), .int (iI x2)]) p_13_15 (by decide) (by decide) (zM_of zq_13) ⟨Nat.le_of_ble_eq_true rfl, Nat.le_of_ble_eq_true rfl⟩ rfl (m_rc hs_234 ⟨rfl, by decide⟩))
theorem b_13_36 {x2 : Int} {u1 : Value} : Z e (d + 1) 13 36 [.ref 234, u1, .int (iI x2)] [] m = (Z e d 13 0 [.ref 234, .int (iI 0), .int (iI x2)] [] m).bind (ZK e (d + 1) 13 42 [.ref 234, u1, .int (iI x2)] [] m) := (s_al_0 p_13_36).trans <| (s_const p_13_37).trans <| (s_il_2 p_13_38).trans <| (s_cv2 (Lc := [.ref 234, .int (iI 0), .int (iI x2)]) p_13_39 (by decide) (by decide) (zM_of zq_13) ⟨Nat.le_of_ble_eq_true rfl, Nat.le_of_ble_eq_true rfl⟩ rfl (m_rc hs_234 ⟨rfl, by decide⟩))
theorem b_13_54 {x2 : Int} {u1 : Value} : Z e (d + 1) 13 54 [.ref 234, u1, .int (iI x2)] [] m = ri (x2 + (m 234 10)) m := (s_il_2 p_13_54).trans <| (s_al_0 p_13_55).trans <| (s_get p_13_56 hs_234 (by decide) rfl).trans <| (s_iadd p_13_59).trans <| (s_reti p_13_60 (zM_of zq_13))
theorem b_13_18 {xs0 : Int} {xs1 : Int} {u0 u1 u2 : Value} : Z e (d + 1) 13 18 [u0, u1, u2] [.int (iI xs0), .int (iI xs1)] m = ri (xs1 - xs0) m := (s_isub p_13_18).trans <| (s_reti p_13_19 (zM_of zq_13))
theorem b_13_42 {xs0 : Int} {u1 u2 : Value} : Z e (d + 1) 13 42 [.ref 234, u1, u2] [.int (iI xs0)] m = ri (jxor xs0 (m 234 11)) m := (s_al_0 p_13_42).trans <| (s_get p_13_43 hs_234 (by decide) rfl).trans <| (s_ixor p_13_46).trans <| (s_reti p_13_47 (zM_of zq_13))
-- Host.ends
theorem p_14_0 : zP1 14 0 = some (.iload_n 1, 0, 0, 0) := zp_l zq_14 rfl
theorem p_14_1 : zP1 14 1 = some (.bipush 6, 0, 0, 0) := zp_l zq_14 rfl
theorem p_14_3 : zP1 14 3 = some (.if_icmp .ne 21, 0, 0, 0) := zp_l zq_14 rfl
theorem p_14_6 : zP1 14 6 = some (.aload_n 0, 0, 0, 0) := zp_l zq_14 rfl
theorem p_14_7 : zP1 14 7 = some (.bipush 71, 0, 0, 0) := zp_l zq_14 rfl
theorem p_14_9 : zP1 14 9 = some (.invokevirtual 106, 12, 1, 0) := zp_r zq_14 rfl
theorem p_14_12 : zP1 14 12 = some (.aload_n 0, 0, 0, 0) := zp_l zq_14 rfl
theorem p_14_13 : zP1 14 13 = some (.iconst 5, 0, 0, 0) := zp_l zq_14 rfl
theorem p_14_14 : zP1 14 14 = some (.iload_n 2, 0, 0, 0) := zp_l zq_14 rfl
theorem p_14_15 : zP1 14 15 = some (.invokevirtual 94, 14, 2, 0) := zp_r zq_14 rfl
theorem p_14_18 : zP1 14 18 = some (.aload_n 0, 0, 0, 0) := zp_l zq_14 rfl
theorem p_14_19 : zP1 14 19 = some (.getfield 74, 0, 9, 0) := zp_r zq_14 rfl
theorem p_14_22 : zP1 14 22 = some (.iadd, 0, 0, 0) := zp_l zq_14 rfl
theorem p_14_23 : zP1 14 23 = some (.ireturn, 0, 0, 0) := zp_l zq_14 rfl
theorem p_14_24 : zP1 14 24 = some (.iload_n 1, 0, 0, 0) := zp_l zq_14 rfl
theorem p_14_25 : zP1 14 25 = some (.iconst 5, 0, 0, 0) := zp_l zq_14 rfl
theorem p_14_26 : zP1 14 26 = some (.if_icmp .ne 18, 0, 0, 0) := zp_l zq_14 rfl
theorem p_14_29 : zP1 14 29 = some (.aload_n 0, 0, 0, 0) := zp_l zq_14 rfl
theorem p_14_30 : zP1 14 30 = some (.bipush 60, 0, 0, 0) := zp_l zq_14 rfl
theorem p_14_32 : zP1 14 32 = some (.invokevirtual 106, 12, 1, 0) := zp_r zq_14 rfl
theorem p_14_35 : zP1 14 35 = some (.aload_n 0, 0, 0, 0) := zp_l zq_14 rfl
theorem p_14_36 : zP1 14 36 = some (.iconst 0, 0, 0, 0) := zp_l zq_14 rfl
theorem p_14_37 : zP1 14 37 = some (.iload_n 2, 0, 0, 0) := zp_l zq_14 rfl
theorem p_14_38 : zP1 14 38 = some (.invokevirtual 94, 14, 2, 0) := zp_r zq_14 rfl
theorem p_14_41 : zP1 14 41 = some (.iconst 5, 0, 0, 0) := zp_l zq_14 rfl
theorem p_14_42 : zP1 14 42 = some (.ixor, 0, 0, 0) := zp_l zq_14 rfl
theorem p_14_43 : zP1 14 43 = some (.ireturn, 0, 0, 0) := zp_l zq_14 rfl
theorem p_14_44 : zP1 14 44 = some (.iload_n 1, 0, 0, 0) := zp_l zq_14 rfl
theorem p_14_45 : zP1 14 45 = some (.iconst 3, 0, 0, 0) := zp_l zq_14 rfl
theorem p_14_46 : zP1 14 46 = some (.if_icmp .ne 26, 0, 0, 0) := zp_l zq_14 rfl
theorem p_14_49 : zP1 14 49 = some (.aload_n 0, 0, 0, 0) := zp_l zq_14 rfl
theorem p_14_50 : zP1 14 50 = some (.bipush 41, 0, 0, 0) := zp_l zq_14 rfl
theorem p_14_52 : zP1 14 52 = some (.invokevirtual 106, 12, 1, 0) := zp_r zq_14 rfl
theorem p_14_55 : zP1 14 55 = some (.aload_n 0, 0, 0, 0) := zp_l zq_14 rfl
theorem p_14_56 : zP1 14 56 = some (.iconst 2, 0, 0, 0) := zp_l zq_14 rfl
theorem p_14_57 : zP1 14 57 = some (.iload_n 2, 0, 0, 0) := zp_l zq_14 rfl
theorem p_14_58 : zP1 14 58 = some (.invokevirtual 94, 14, 2, 0) := zp_r zq_14 rfl
theorem p_14_61 : zP1 14 61 = some (.aload_n 0, 0, 0, 0) := zp_l zq_14 rfl
theorem p_14_62 : zP1 14 62 = some (.aload_n 0, 0, 0, 0) := zp_l zq_14 rfl
theorem p_14_63 : zP1 14 63 = some (.getfield 84, 0, 12, 0) := zp_r zq_14 rfl
theorem p_14_66 : zP1 14 66 = some (.iconst 1, 0, 0, 0) := zp_l zq_14 rfl
theorem p_14_67 : zP1 14 67 = some (.invokevirtual 91, 13, 2, 0) := zp_r zq_14 rfl
theorem p_14_70 : zP1 14 70 = some (.iadd, 0, 0, 0) := zp_l zq_14 rfl
theorem p_14_71 : zP1 14 71 = some (.ireturn, 0, 0, 0) := zp_l zq_14 rfl
theorem p_14_72 : zP1 14 72 = some (.iload_n 1, 0, 0, 0) := zp_l zq_14 rfl
theorem p_14_73 : zP1 14 73 = some (.iconst 2, 0, 0, 0) := zp_l zq_14 rfl
theorem p_14_74 : zP1 14 74 = some (.if_icmp .ne 18, 0, 0, 0) := zp_l zq_14 rfl
theorem p_14_77 : zP1 14 77 = some (.aload_n 0, 0, 0, 0) := zp_l zq_14 rfl
theorem p_14_78 : zP1 14 78 = some (.bipush 30, 0, 0, 0) := zp_l zq_14 rfl
theorem p_14_80 : zP1 14 80 = some (.invokevirtual 106, 12, 1, 0) := zp_r zq_14 rfl
theorem p_14_83 : zP1 14 83 = some (.aload_n 0, 0, 0, 0) := zp_l zq_14 rfl
theorem p_14_84 : zP1 14 84 = some (.iconst 1, 0, 0, 0) := zp_l zq_14 rfl
theorem p_14_85 : zP1 14 85 = some (.iload_n 2, 0, 0, 0) := zp_l zq_14 rfl
theorem p_14_86 : zP1 14 86 = some (.iconst 1, 0, 0, 0) := zp_l zq_14 rfl
theorem p_14_87 : zP1 14 87 = some (.isub, 0, 0, 0) := zp_l zq_14 rfl
theorem p_14_88 : zP1 14 88 = some (.invokevirtual 94, 14, 2, 0) := zp_r zq_14 rfl
theorem p_14_91 : zP1 14 91 = some (.ireturn, 0, 0, 0) := zp_l zq_14 rfl
theorem p_14_92 : zP1 14 92 = some (.aload_n 0, 0, 0, 0) := zp_l zq_14 rfl
theorem p_14_93 : zP1 14 93 = some (.bipush 11, 0, 0, 0) := zp_l zq_14 rfl
theorem p_14_95 : zP1 14 95 = some (.invokevirtual 106, 12, 1, 0) := zp_r zq_14 rfl
theorem p_14_98 : zP1 14 98 = some (.aload_n 0, 0, 0, 0) := zp_l zq_14 rfl
theorem p_14_99 : zP1 14 99 = some (.aload_n 0, 0, 0, 0) := zp_l zq_14 rfl
theorem p_14_100 : zP1 14 100 = some (.getfield 84, 0, 12, 0) := zp_r zq_14 rfl
theorem p_14_103 : zP1 14 103 = some (.iload_n 2, 0, 0, 0) := zp_l zq_14 rfl
theorem p_14_104 : zP1 14 104 = some (.invokevirtual 91, 13, 2, 0) := zp_r zq_14 rfl
theorem p_14_107 : zP1 14 107 = some (.iconst 2, 0, 0, 0) := zp_l zq_14 rfl
theorem p_14_108 : zP1 14 108 = some (.imul, 0, 0, 0) := zp_l zq_14 rfl
theorem p_14_109 : zP1 14 109 = some (.ireturn, 0, 0, 0) := zp_l zq_14 rfl
theorem b_14_0 {x1 : Int} {x2 : Int} : Z e (d + 1) 14 0 [.ref 234, .int (iI x1), .int (iI x2)] [] m = (if (wr x1) = 6 then (Z e d 12 0 [.ref 234, .int (iI 71)] [] m).bind (ZK e (d + 1) 14 12 [.ref 234, .int (iI x1), .int (iI x2)] [] m) else (if (wr x1) = 5 then (Z e d 12 0 [.ref 234, .int (iI 60)] [] m).bind (ZK e (d + 1) 14 35 [.ref 234, .int (iI x1), .int (iI x2)] [] m) else (if (wr x1) = 3 then (Z e d 12 0 [.ref 234, .int (iI 41)] [] m).bind (ZK e (d + 1) 14 55 [.ref 234, .int (iI x1), .int (iI x2)] [] m) else (if (wr x1) = 2 then (Z e d 12 0 [.ref 234, .int (iI 30)] [] m).bind (ZK e (d + 1) 14 83 [.ref 234, .int (iI x1), .int (iI x2)] [] m) else (Z e d 12 0 [.ref 234, .int (iI 11)] [] m).bind (ZK e (d + 1) 14 98 [.ref 234, .int (iI x1), .int (iI x2)] [] m))))) := (s_il_1 p_14_0).trans <| (s_bip p_14_1 rfl).trans <| Eq.trans ((s_c_ne_f p_14_3 rfl rfl wl_6)) <| ite_cg ((s_al_0 p_14_6).trans <| (s_bip p_14_7 rfl).trans <| (s_cv1 (Lc := [.ref 234, .int (iI 71)]) p_14_9 (by decide) (by decide) (zM_of zq_12) ⟨Nat.le_of_ble_eq_true rfl, Nat.le_of_ble_eq_true rfl⟩ rfl (m_rc hs_234 ⟨rfl, by decide⟩))) ((s_il_1 p_14_24).trans <| (s_const p_14_25).trans <| Eq.trans ((s_c_ne_f p_14_26 rfl rfl wl_5)) <| ite_cg ((s_al_0 p_14_29).trans <| (s_bip p_14_30 rfl).trans <| (s_cv1 (Lc := [.ref 234, .int (iI 60)]) p_14_32 (by decide) (by decide) (zM_of zq_12) ⟨Nat.le_of_ble_eq_true rfl, Nat.le_of_ble_eq_true rfl⟩ rfl (m_rc hs_234 ⟨rfl, by decide⟩))) ((s_il_1 p_14_44).trans <| (s_const p_14_45).trans <| Eq.trans ((s_c_ne_f p_14_46 rfl rfl wl_3)) <| ite_cg ((s_al_0 p_14_49).trans <| (s_bip p_14_50 rfl).trans <| (s_cv1 (Lc := [.ref 234, .int (iI 41)]) p_14_52 (by decide) (by decide) (zM_of zq_12) ⟨Nat.le_of_ble_eq_true rfl, Nat.le_of_ble_eq_true rfl⟩ rfl (m_rc hs_234 ⟨rfl, by decide⟩))) ((s_il_1 p_14_72).trans <| (s_const p_14_73).trans <| Eq.trans ((s_c_ne_f p_14_74 rfl rfl wl_2)) <| ite_cg ((s_al_0 p_14_77).trans <| (s_bip p_14_78 rfl).trans <| (s_cv1 (Lc := [.ref 234, .int (iI 30)]) p_14_80 (by decide) (by decide) (zM_of zq_12) ⟨Nat.le_of_ble_eq_true rfl, Nat.le_of_ble_eq_true rfl⟩ rfl (m_rc hs_234 ⟨rfl, by decide⟩))) ((s_al_0 p_14_92).trans <| (s_bip p_14_93 rfl).trans <| (s_cv1 (Lc := [.ref 234, .int (iI 11)]) p_14_95 (by decide) (by decide) (zM_of zq_12) ⟨Nat.le_of_ble_eq_true rfl, Nat.le_of_ble_eq_true rfl⟩ rfl (m_rc hs_234 ⟨rfl, by decide⟩))))))
theorem b_14_12 {x2 : Int} {u1 : Value} : Z e (d + 1) 14 12 [.ref 234, u1, .int (iI x2)] [] m = (Z e d 14 0 [.ref 234, .int (iI 5), .int (iI x2)] [] m).bind (ZK e (d + 1) 14 18 [.ref 234, u1, .int (iI x2)] [] m) := (s_al_0 p_14_12).trans <| (s_const p_14_13).trans <| (s_il_2 p_14_14).trans <| (s_cv2 (Lc := [.ref 234, .int (iI 5), .int (iI x2)]) p_14_15 (by decide) (by decide) (zM_of zq_14) ⟨Nat.le_of_ble_eq_true rfl, Nat.le_of_ble_eq_true rfl⟩ rfl (m_rc hs_234 ⟨rfl, by decide⟩))
theorem b_14_35 {x2 : Int} {u1 : Value} : Z e (d + 1) 14 35 [.ref 234, u1, .int (iI x2)] [] m = (Z e d 14 0 [.ref 234, .int (iI 0), .int (iI x2)] [] m).bind (ZK e (d + 1) 14 41 [.ref 234, u1, .int (iI x2)] [] m) := (s_al_0 p_14_35).trans <| (s_const p_14_36).trans <| (s_il_2 p_14_37).trans <| (s_cv2 (Lc := [.ref 234, .int (iI 0), .int (iI x2)]) p_14_38 (by decide) (by decide) (zM_of zq_14) ⟨Nat.le_of_ble_eq_true rfl, Nat.le_of_ble_eq_true rfl⟩ rfl (m_rc hs_234 ⟨rfl, by decide⟩))
theorem b_14_55 {x2 : Int} {u1 : Value} : Z e (d + 1) 14 55 [.ref 234, u1, .int (iI x2)] [] m = (Z e d 14 0 [.ref 234, .int (iI 2), .int (iI x2)] [] m).bind (ZK e (d + 1) 14 61 [.ref 234, u1, .int (iI x2)] [] m) := (s_al_0 p_14_55).trans <| (s_const p_14_56).trans <| (s_il_2 p_14_57).trans <| (s_cv2 (Lc := [.ref 234, .int (iI 2), .int (iI x2)]) p_14_58 (by decide) (by decide) (zM_of zq_14) ⟨Nat.le_of_ble_eq_true rfl, Nat.le_of_ble_eq_true rfl⟩ rfl (m_rc hs_234 ⟨rfl, by decide⟩))
theorem b_14_83 {x2 : Int} {u1 : Value} : Z e (d + 1) 14 83 [.ref 234, u1, .int (iI x2)] [] m = (Z e d 14 0 [.ref 234, .int (iI 1), .int (iI (x2 - 1))] [] m).bind (ZK e (d + 1) 14 91 [.ref 234, u1, .int (iI x2)] [] m) := (s_al_0 p_14_83).trans <| (s_const p_14_84).trans <| (s_il_2 p_14_85).trans <| (s_const p_14_86).trans <| (s_isub p_14_87).trans <| (s_cv2 (Lc := [.ref 234, .int (iI 1), .int (iI (x2 - 1))]) p_14_88 (by decide) (by decide) (zM_of zq_14) ⟨Nat.le_of_ble_eq_true rfl, Nat.le_of_ble_eq_true rfl⟩ rfl (m_rc hs_234 ⟨rfl, by decide⟩))
theorem b_14_98 {x2 : Int} {u1 : Value} : Z e (d + 1) 14 98 [.ref 234, u1, .int (iI x2)] [] m = (Z e d 13 0 [.ref 234, .int (iI (m 234 12)), .int (iI x2)] [] m).bind (ZK e (d + 1) 14 107 [.ref 234, u1, .int (iI x2)] [] m) := (s_al_0 p_14_98).trans <| (s_al_0 p_14_99).trans <| (s_get p_14_100 hs_234 (by decide) rfl).trans <| (s_il_2 p_14_103).trans <| (s_cv2 (Lc := [.ref 234, .int (iI (m 234 12)), .int (iI x2)]) p_14_104 (by decide) (by decide) (zM_of zq_13) ⟨Nat.le_of_ble_eq_true rfl, Nat.le_of_ble_eq_true rfl⟩ rfl (m_rc hs_234 ⟨rfl, by decide⟩))
theorem b_14_18 {xs0 : Int} {u1 u2 : Value} : Z e (d + 1) 14 18 [.ref 234, u1, u2] [.int (iI xs0)] m = ri (xs0 + (m 234 9)) m := (s_al_0 p_14_18).trans <| (s_get p_14_19 hs_234 (by decide) rfl).trans <| (s_iadd p_14_22).trans <| (s_reti p_14_23 (zM_of zq_14))
theorem b_14_41 {xs0 : Int} {u0 u1 u2 : Value} : Z e (d + 1) 14 41 [u0, u1, u2] [.int (iI xs0)] m = ri (jxor xs0 5) m := (s_const p_14_41).trans <| (s_ixor p_14_42).trans <| (s_reti p_14_43 (zM_of zq_14))
theorem b_14_61 {xs0 : Int} {u1 u2 : Value} : Z e (d + 1) 14 61 [.ref 234, u1, u2] [.int (iI xs0)] m = (Z e d 13 0 [.ref 234, .int (iI (m 234 12)), .int (iI 1)] [] m).bind (ZK e (d + 1) 14 70 [.ref 234, u1, u2] [.int (iI xs0)] m) := (s_al_0 p_14_61).trans <| (s_al_0 p_14_62).trans <| (s_get p_14_63 hs_234 (by decide) rfl).trans <| (s_const p_14_66).trans <| (s_cv2 (Lc := [.ref 234, .int (iI (m 234 12)), .int (iI 1)]) p_14_67 (by decide) (by decide) (zM_of zq_13) ⟨Nat.le_of_ble_eq_true rfl, Nat.le_of_ble_eq_true rfl⟩ rfl (m_rc hs_234 ⟨rfl, by decide⟩))
theorem b_14_91 {xs0 : Int} {u0 u1 u2 : Value} : Z e (d + 1) 14 91 [u0, u1, u2] [.int (iI xs0)] m = ri xs0 m := (s_reti p_14_91 (zM_of zq_14))
theorem b_14_107 {xs0 : Int} {u0 u1 u2 : Value} : Z e (d + 1) 14 107 [u0, u1, u2] [.int (iI xs0)] m = ri (xs0 * 2) m := (s_const p_14_107).trans <| (s_imul p_14_108).trans <| (s_reti p_14_109 (zM_of zq_14))
theorem b_14_70 {xs0 : Int} {xs1 : Int} {u0 u1 u2 : Value} : Z e (d + 1) 14 70 [u0, u1, u2] [.int (iI xs0), .int (iI xs1)] m = ri (xs1 + xs0) m := (s_iadd p_14_70).trans <| (s_reti p_14_71 (zM_of zq_14))
-- Host.costs
theorem p_15_0 : zP1 15 0 = some (.iload_n 1, 0, 0, 0) := zp_l zq_15 rfl
theorem p_15_1 : zP1 15 1 = some (.bipush 6, 0, 0, 0) := zp_l zq_15 rfl
theorem p_15_3 : zP1 15 3 = some (.if_icmp .ne 26, 0, 0, 0) := zp_l zq_15 rfl
theorem p_15_6 : zP1 15 6 = some (.aload_n 0, 0, 0, 0) := zp_l zq_15 rfl
theorem p_15_7 : zP1 15 7 = some (.bipush 70, 0, 0, 0) := zp_l zq_15 rfl
theorem p_15_9 : zP1 15 9 = some (.invokevirtual 106, 12, 1, 0) := zp_r zq_15 rfl
theorem p_15_12 : zP1 15 12 = some (.aload_n 0, 0, 0, 0) := zp_l zq_15 rfl
theorem p_15_13 : zP1 15 13 = some (.iconst 5, 0, 0, 0) := zp_l zq_15 rfl
theorem p_15_14 : zP1 15 14 = some (.iload_n 2, 0, 0, 0) := zp_l zq_15 rfl
theorem p_15_15 : zP1 15 15 = some (.invokevirtual 97, 15, 2, 0) := zp_r zq_15 rfl
theorem p_15_18 : zP1 15 18 = some (.aload_n 0, 0, 0, 0) := zp_l zq_15 rfl
theorem p_15_19 : zP1 15 19 = some (.aload_n 0, 0, 0, 0) := zp_l zq_15 rfl
theorem p_15_20 : zP1 15 20 = some (.getfield 84, 0, 12, 0) := zp_r zq_15 rfl
theorem p_15_23 : zP1 15 23 = some (.iconst 0, 0, 0, 0) := zp_l zq_15 rfl
theorem p_15_24 : zP1 15 24 = some (.invokevirtual 94, 14, 2, 0) := zp_r zq_15 rfl
theorem p_15_27 : zP1 15 27 = some (.isub, 0, 0, 0) := zp_l zq_15 rfl
theorem p_15_28 : zP1 15 28 = some (.ireturn, 0, 0, 0) := zp_l zq_15 rfl
theorem p_15_29 : zP1 15 29 = some (.iload_n 1, 0, 0, 0) := zp_l zq_15 rfl
theorem p_15_30 : zP1 15 30 = some (.iconst 4, 0, 0, 0) := zp_l zq_15 rfl
theorem p_15_31 : zP1 15 31 = some (.if_icmp .ne 21, 0, 0, 0) := zp_l zq_15 rfl
theorem p_15_34 : zP1 15 34 = some (.aload_n 0, 0, 0, 0) := zp_l zq_15 rfl
theorem p_15_35 : zP1 15 35 = some (.bipush 50, 0, 0, 0) := zp_l zq_15 rfl
theorem p_15_37 : zP1 15 37 = some (.invokevirtual 106, 12, 1, 0) := zp_r zq_15 rfl
theorem p_15_40 : zP1 15 40 = some (.aload_n 0, 0, 0, 0) := zp_l zq_15 rfl
theorem p_15_41 : zP1 15 41 = some (.iconst 0, 0, 0, 0) := zp_l zq_15 rfl
theorem p_15_42 : zP1 15 42 = some (.iload_n 2, 0, 0, 0) := zp_l zq_15 rfl
theorem p_15_43 : zP1 15 43 = some (.invokevirtual 97, 15, 2, 0) := zp_r zq_15 rfl
theorem p_15_46 : zP1 15 46 = some (.aload_n 0, 0, 0, 0) := zp_l zq_15 rfl
theorem p_15_47 : zP1 15 47 = some (.getfield 81, 0, 11, 0) := zp_r zq_15 rfl
theorem p_15_50 : zP1 15 50 = some (.imul, 0, 0, 0) := zp_l zq_15 rfl
theorem p_15_51 : zP1 15 51 = some (.ireturn, 0, 0, 0) := zp_l zq_15 rfl
theorem p_15_52 : zP1 15 52 = some (.iload_n 1, 0, 0, 0) := zp_l zq_15 rfl
theorem p_15_53 : zP1 15 53 = some (.iconst 1, 0, 0, 0) := zp_l zq_15 rfl
theorem p_15_54 : zP1 15 54 = some (.if_icmp .eq 13, 0, 0, 0) := zp_l zq_15 rfl
theorem p_15_57 : zP1 15 57 = some (.iload_n 1, 0, 0, 0) := zp_l zq_15 rfl
theorem p_15_58 : zP1 15 58 = some (.iconst 2, 0, 0, 0) := zp_l zq_15 rfl
theorem p_15_59 : zP1 15 59 = some (.if_icmp .eq 8, 0, 0, 0) := zp_l zq_15 rfl
theorem p_15_62 : zP1 15 62 = some (.iload_n 1, 0, 0, 0) := zp_l zq_15 rfl
theorem p_15_63 : zP1 15 63 = some (.iconst 3, 0, 0, 0) := zp_l zq_15 rfl
theorem p_15_64 : zP1 15 64 = some (.if_icmp .ne 18, 0, 0, 0) := zp_l zq_15 rfl
theorem p_15_67 : zP1 15 67 = some (.aload_n 0, 0, 0, 0) := zp_l zq_15 rfl
theorem p_15_68 : zP1 15 68 = some (.bipush 21, 0, 0, 0) := zp_l zq_15 rfl
theorem p_15_70 : zP1 15 70 = some (.invokevirtual 106, 12, 1, 0) := zp_r zq_15 rfl
theorem p_15_73 : zP1 15 73 = some (.aload_n 0, 0, 0, 0) := zp_l zq_15 rfl
theorem p_15_74 : zP1 15 74 = some (.iconst 0, 0, 0, 0) := zp_l zq_15 rfl
theorem p_15_75 : zP1 15 75 = some (.iload_n 2, 0, 0, 0) := zp_l zq_15 rfl
theorem p_15_76 : zP1 15 76 = some (.invokevirtual 97, 15, 2, 0) := zp_r zq_15 rfl
theorem p_15_79 : zP1 15 79 = some (.iconst 3, 0, 0, 0) := zp_l zq_15 rfl
theorem p_15_80 : zP1 15 80 = some (.iadd, 0, 0, 0) := zp_l zq_15 rfl
theorem p_15_81 : zP1 15 81 = some (.ireturn, 0, 0, 0) := zp_l zq_15 rfl
theorem p_15_82 : zP1 15 82 = some (.aload_n 0, 0, 0, 0) := zp_l zq_15 rfl
theorem p_15_83 : zP1 15 83 = some (.bipush 12, 0, 0, 0) := zp_l zq_15 rfl
theorem p_15_85 : zP1 15 85 = some (.invokevirtual 106, 12, 1, 0) := zp_r zq_15 rfl
theorem p_15_88 : zP1 15 88 = some (.aload_n 0, 0, 0, 0) := zp_l zq_15 rfl
theorem p_15_89 : zP1 15 89 = some (.aload_n 0, 0, 0, 0) := zp_l zq_15 rfl
theorem p_15_90 : zP1 15 90 = some (.getfield 84, 0, 12, 0) := zp_r zq_15 rfl
theorem p_15_93 : zP1 15 93 = some (.iload_n 2, 0, 0, 0) := zp_l zq_15 rfl
theorem p_15_94 : zP1 15 94 = some (.invokevirtual 94, 14, 2, 0) := zp_r zq_15 rfl
theorem p_15_97 : zP1 15 97 = some (.aload_n 0, 0, 0, 0) := zp_l zq_15 rfl
theorem p_15_98 : zP1 15 98 = some (.getfield 74, 0, 9, 0) := zp_r zq_15 rfl
theorem p_15_101 : zP1 15 101 = some (.isub, 0, 0, 0) := zp_l zq_15 rfl
theorem p_15_102 : zP1 15 102 = some (.ireturn, 0, 0, 0) := zp_l zq_15 rfl
theorem b_15_0 {x1 : Int} {x2 : Int} : Z e (d + 1) 15 0 [.ref 234, .int (iI x1), .int (iI x2)] [] m = (if (wr x1) = 6 then (Z e d 12 0 [.ref 234, .int (iI 70)] [] m).bind (ZK e (d + 1) 15 12 [.ref 234, .int (iI x1), .int (iI x2)] [] m) else (if (wr x1) = 4 then (Z e d 12 0 [.ref 234, .int (iI 50)] [] m).bind (ZK e (d + 1) 15 40 [.ref 234, .int (iI x1), .int (iI x2)] [] m) else (if ((wr x1) = 1) ∨ (((wr x1) = 2) ∨ ((wr x1) = 3)) then (Z e d 12 0 [.ref 234, .int (iI 21)] [] m).bind (ZK e (d + 1) 15 73 [.ref 234, .int (iI x1), .int (iI x2)] [] m) else (Z e d 12 0 [.ref 234, .int (iI 12)] [] m).bind (ZK e (d + 1) 15 88 [.ref 234, .int (iI x1), .int (iI x2)] [] m)))) := (s_il_1 p_15_0).trans <| (s_bip p_15_1 rfl).trans <| Eq.trans ((s_c_ne_f p_15_3 rfl rfl wl_6)) <| ite_cg ((s_al_0 p_15_6).trans <| (s_bip p_15_7 rfl).trans <| (s_cv1 (Lc := [.ref 234, .int (iI 70)]) p_15_9 (by decide) (by decide) (zM_of zq_12) ⟨Nat.le_of_ble_eq_true rfl, Nat.le_of_ble_eq_true rfl⟩ rfl (m_rc hs_234 ⟨rfl, by decide⟩))) ((s_il_1 p_15_29).trans <| (s_const p_15_30).trans <| Eq.trans ((s_c_ne_f p_15_31 rfl rfl wl_4)) <| ite_cg ((s_al_0 p_15_34).trans <| (s_bip p_15_35 rfl).trans <| (s_cv1 (Lc := [.ref 234, .int (iI 50)]) p_15_37 (by decide) (by decide) (zM_of zq_12) ⟨Nat.le_of_ble_eq_true rfl, Nat.le_of_ble_eq_true rfl⟩ rfl (m_rc hs_234 ⟨rfl, by decide⟩))) ((s_il_1 p_15_52).trans <| (s_const p_15_53).trans <| Eq.trans (Eq.trans (s_c_eq_t p_15_54 rfl rfl wl_1) <| Eq.trans (ite_cg rfl ((s_il_1 p_15_57).trans <| (s_const p_15_58).trans <| Eq.trans (s_c_eq_t p_15_59 rfl rfl wl_2) <| Eq.trans (ite_cg rfl ((s_il_1 p_15_62).trans <| (s_const p_15_63).trans <| (s_c_ne_f p_15_64 rfl rfl wl_3))) co_or)) co_or) <| ite_cg ((s_al_0 p_15_67).trans <| (s_bip p_15_68 rfl).trans <| (s_cv1 (Lc := [.ref 234, .int (iI 21)]) p_15_70 (by decide) (by decide) (zM_of zq_12) ⟨Nat.le_of_ble_eq_true rfl, Nat.le_of_ble_eq_true rfl⟩ rfl (m_rc hs_234 ⟨rfl, by decide⟩))) ((s_al_0 p_15_82).trans <| (s_bip p_15_83 rfl).trans <| (s_cv1 (Lc := [.ref 234, .int (iI 12)]) p_15_85 (by decide) (by decide) (zM_of zq_12) ⟨Nat.le_of_ble_eq_true rfl, Nat.le_of_ble_eq_true rfl⟩ rfl (m_rc hs_234 ⟨rfl, by decide⟩)))))
theorem b_15_12 {x2 : Int} {u1 : Value} : Z e (d + 1) 15 12 [.ref 234, u1, .int (iI x2)] [] m = (Z e d 15 0 [.ref 234, .int (iI 5), .int (iI x2)] [] m).bind (ZK e (d + 1) 15 18 [.ref 234, u1, .int (iI x2)] [] m) := (s_al_0 p_15_12).trans <| (s_const p_15_13).trans <| (s_il_2 p_15_14).trans <| (s_cv2 (Lc := [.ref 234, .int (iI 5), .int (iI x2)]) p_15_15 (by decide) (by decide) (zM_of zq_15) ⟨Nat.le_of_ble_eq_true rfl, Nat.le_of_ble_eq_true rfl⟩ rfl (m_rc hs_234 ⟨rfl, by decide⟩))
theorem b_15_40 {x2 : Int} {u1 : Value} : Z e (d + 1) 15 40 [.ref 234, u1, .int (iI x2)] [] m = (Z e d 15 0 [.ref 234, .int (iI 0), .int (iI x2)] [] m).bind (ZK e (d + 1) 15 46 [.ref 234, u1, .int (iI x2)] [] m) := (s_al_0 p_15_40).trans <| (s_const p_15_41).trans <| (s_il_2 p_15_42).trans <| (s_cv2 (Lc := [.ref 234, .int (iI 0), .int (iI x2)]) p_15_43 (by decide) (by decide) (zM_of zq_15) ⟨Nat.le_of_ble_eq_true rfl, Nat.le_of_ble_eq_true rfl⟩ rfl (m_rc hs_234 ⟨rfl, by decide⟩))
theorem b_15_73 {x2 : Int} {u1 : Value} : Z e (d + 1) 15 73 [.ref 234, u1, .int (iI x2)] [] m = (Z e d 15 0 [.ref 234, .int (iI 0), .int (iI x2)] [] m).bind (ZK e (d + 1) 15 79 [.ref 234, u1, .int (iI x2)] [] m) := (s_al_0 p_15_73).trans <| (s_const p_15_74).trans <| (s_il_2 p_15_75).trans <| (s_cv2 (Lc := [.ref 234, .int (iI 0), .int (iI x2)]) p_15_76 (by decide) (by decide) (zM_of zq_15) ⟨Nat.le_of_ble_eq_true rfl, Nat.le_of_ble_eq_true rfl⟩ rfl (m_rc hs_234 ⟨rfl, by decide⟩))
theorem b_15_88 {x2 : Int} {u1 : Value} : Z e (d + 1) 15 88 [.ref 234, u1, .int (iI x2)] [] m = (Z e d 14 0 [.ref 234, .int (iI (m 234 12)), .int (iI x2)] [] m).bind (ZK e (d + 1) 15 97 [.ref 234, u1, .int (iI x2)] [] m) := (s_al_0 p_15_88).trans <| (s_al_0 p_15_89).trans <| (s_get p_15_90 hs_234 (by decide) rfl).trans <| (s_il_2 p_15_93).trans <| (s_cv2 (Lc := [.ref 234, .int (iI (m 234 12)), .int (iI x2)]) p_15_94 (by decide) (by decide) (zM_of zq_14) ⟨Nat.le_of_ble_eq_true rfl, Nat.le_of_ble_eq_true rfl⟩ rfl (m_rc hs_234 ⟨rfl, by decide⟩))
theorem b_15_18 {xs0 : Int} {u1 u2 : Value} : Z e (d + 1) 15 18 [.ref 234, u1, u2] [.int (iI xs0)] m = (Z e d 14 0 [.ref 234, .int (iI (m 234 12)), .int (iI 0)] [] m).bind (ZK e (d + 1) 15 27 [.ref 234, u1, u2] [.int (iI xs0)] m) := (s_al_0 p_15_18).trans <| (s_al_0 p_15_19).trans <| (s_get p_15_20 hs_234 (by decide) rfl).trans <| (s_const p_15_23).trans <| (s_cv2 (Lc := [.ref 234, .int (iI (m 234 12)), .int (iI 0)]) p_15_24 (by decide) (by decide) (zM_of zq_14) ⟨Nat.le_of_ble_eq_true rfl, Nat.le_of_ble_eq_true rfl⟩ rfl (m_rc hs_234 ⟨rfl, by decide⟩))
theorem b_15_46 {xs0 : Int} {u1 u2 : Value} : Z e (d + 1) 15 46 [.ref 234, u1, u2] [.int (iI xs0)] m = ri (xs0 * (m 234 11)) m := (s_al_0 p_15_46).trans <| (s_get p_15_47 hs_234 (by decide) rfl).trans <| (s_imul p_15_50).trans <| (s_reti p_15_51 (zM_of zq_15))
theorem b_15_79 {xs0 : Int} {u0 u1 u2 : Value} : Z e (d + 1) 15 79 [u0, u1, u2] [.int (iI xs0)] m = ri (xs0 + 3) m := (s_const p_15_79).trans <| (s_iadd p_15_80).trans <| (s_reti p_15_81 (zM_of zq_15))
theorem b_15_97 {xs0 : Int} {u1 u2 : Value} : Z e (d + 1) 15 97 [.ref 234, u1, u2] [.int (iI xs0)] m = ri (xs0 - (m 234 9)) m := (s_al_0 p_15_97).trans <| (s_get p_15_98 hs_234 (by decide) rfl).trans <| (s_isub p_15_101).trans <| (s_reti p_15_102 (zM_of zq_15))
theorem b_15_27 {xs0 : Int} {xs1 : Int} {u0 u1 u2 : Value} : Z e (d + 1) 15 27 [u0, u1, u2] [.int (iI xs0), .int (iI xs1)] m = ri (xs1 - xs0) m := (s_isub p_15_27).trans <| (s_reti p_15_28 (zM_of zq_15))
-- Host.parts
theorem p_16_0 : zP1 16 0 = some (.iload_n 1, 0, 0, 0) := zp_l zq_16 rfl
theorem p_16_1 : zP1 16 1 = some (.iconst 5, 0, 0, 0) := zp_l zq_16 rfl
theorem p_16_2 : zP1 16 2 = some (.if_icmp .eq 9, 0, 0, 0) := zp_l zq_16 rfl
theorem p_16_5 : zP1 16 5 = some (.iload_n 1, 0, 0, 0) := zp_l zq_16 rfl
theorem p_16_6 : zP1 16 6 = some (.bipush 6, 0, 0, 0) := zp_l zq_16 rfl
theorem p_16_8 : zP1 16 8 = some (.if_icmp .ne 18, 0, 0, 0) := zp_l zq_16 rfl
theorem p_16_11 : zP1 16 11 = some (.aload_n 0, 0, 0, 0) := zp_l zq_16 rfl
theorem p_16_12 : zP1 16 12 = some (.bipush 61, 0, 0, 0) := zp_l zq_16 rfl
theorem p_16_14 : zP1 16 14 = some (.invokevirtual 106, 12, 1, 0) := zp_r zq_16 rfl
theorem p_16_17 : zP1 16 17 = some (.aload_n 0, 0, 0, 0) := zp_l zq_16 rfl
theorem p_16_18 : zP1 16 18 = some (.iconst 0, 0, 0, 0) := zp_l zq_16 rfl
theorem p_16_19 : zP1 16 19 = some (.iload_n 2, 0, 0, 0) := zp_l zq_16 rfl
theorem p_16_20 : zP1 16 20 = some (.iconst 2, 0, 0, 0) := zp_l zq_16 rfl
theorem p_16_21 : zP1 16 21 = some (.iadd, 0, 0, 0) := zp_l zq_16 rfl
theorem p_16_22 : zP1 16 22 = some (.invokevirtual 100, 16, 2, 0) := zp_r zq_16 rfl
theorem p_16_25 : zP1 16 25 = some (.ireturn, 0, 0, 0) := zp_l zq_16 rfl
theorem p_16_26 : zP1 16 26 = some (.iload_n 1, 0, 0, 0) := zp_l zq_16 rfl
theorem p_16_27 : zP1 16 27 = some (.iconst 2, 0, 0, 0) := zp_l zq_16 rfl
theorem p_16_28 : zP1 16 28 = some (.if_icmp .eq 8, 0, 0, 0) := zp_l zq_16 rfl
theorem p_16_31 : zP1 16 31 = some (.iload_n 1, 0, 0, 0) := zp_l zq_16 rfl
theorem p_16_32 : zP1 16 32 = some (.iconst 3, 0, 0, 0) := zp_l zq_16 rfl
theorem p_16_33 : zP1 16 33 = some (.if_icmp .ne 21, 0, 0, 0) := zp_l zq_16 rfl
theorem p_16_36 : zP1 16 36 = some (.aload_n 0, 0, 0, 0) := zp_l zq_16 rfl
theorem p_16_37 : zP1 16 37 = some (.bipush 31, 0, 0, 0) := zp_l zq_16 rfl
theorem p_16_39 : zP1 16 39 = some (.invokevirtual 106, 12, 1, 0) := zp_r zq_16 rfl
theorem p_16_42 : zP1 16 42 = some (.aload_n 0, 0, 0, 0) := zp_l zq_16 rfl
theorem p_16_43 : zP1 16 43 = some (.iconst 1, 0, 0, 0) := zp_l zq_16 rfl
theorem p_16_44 : zP1 16 44 = some (.iload_n 2, 0, 0, 0) := zp_l zq_16 rfl
theorem p_16_45 : zP1 16 45 = some (.invokevirtual 100, 16, 2, 0) := zp_r zq_16 rfl
theorem p_16_48 : zP1 16 48 = some (.aload_n 0, 0, 0, 0) := zp_l zq_16 rfl
theorem p_16_49 : zP1 16 49 = some (.getfield 74, 0, 9, 0) := zp_r zq_16 rfl
theorem p_16_52 : zP1 16 52 = some (.iadd, 0, 0, 0) := zp_l zq_16 rfl
theorem p_16_53 : zP1 16 53 = some (.ireturn, 0, 0, 0) := zp_l zq_16 rfl
theorem p_16_54 : zP1 16 54 = some (.aload_n 0, 0, 0, 0) := zp_l zq_16 rfl
theorem p_16_55 : zP1 16 55 = some (.bipush 13, 0, 0, 0) := zp_l zq_16 rfl
theorem p_16_57 : zP1 16 57 = some (.invokevirtual 106, 12, 1, 0) := zp_r zq_16 rfl
theorem p_16_60 : zP1 16 60 = some (.aload_n 0, 0, 0, 0) := zp_l zq_16 rfl
theorem p_16_61 : zP1 16 61 = some (.aload_n 0, 0, 0, 0) := zp_l zq_16 rfl
theorem p_16_62 : zP1 16 62 = some (.getfield 78, 0, 10, 0) := zp_r zq_16 rfl
theorem p_16_65 : zP1 16 65 = some (.bipush 11, 0, 0, 0) := zp_l zq_16 rfl
theorem p_16_67 : zP1 16 67 = some (.if_icmp .ne 7, 0, 0, 0) := zp_l zq_16 rfl
theorem p_16_70 : zP1 16 70 = some (.iconst 1, 0, 0, 0) := zp_l zq_16 rfl
theorem p_16_71 : zP1 16 71 = some (.goto 4, 0, 0, 0) := zp_l zq_16 rfl
theorem p_16_74 : zP1 16 74 = some (.iconst 0, 0, 0, 0) := zp_l zq_16 rfl
theorem p_16_75 : zP1 16 75 = some (.putfield 87, 0, 13, 1) := zp_r zq_16 rfl
theorem p_16_78 : zP1 16 78 = some (.aload_n 0, 0, 0, 0) := zp_l zq_16 rfl
theorem p_16_79 : zP1 16 79 = some (.getfield 87, 0, 13, 0) := zp_r zq_16 rfl
theorem p_16_82 : zP1 16 82 = some (.ifCond .eq 7, 0, 0, 0) := zp_l zq_16 rfl
theorem p_16_85 : zP1 16 85 = some (.iconst 0, 0, 0, 0) := zp_l zq_16 rfl
theorem p_16_86 : zP1 16 86 = some (.goto 12, 0, 0, 0) := zp_l zq_16 rfl
theorem p_16_89 : zP1 16 89 = some (.iload_n 2, 0, 0, 0) := zp_l zq_16 rfl
theorem p_16_90 : zP1 16 90 = some (.aload_n 0, 0, 0, 0) := zp_l zq_16 rfl
theorem p_16_91 : zP1 16 91 = some (.getfield 78, 0, 10, 0) := zp_r zq_16 rfl
theorem p_16_94 : zP1 16 94 = some (.bipush 11, 0, 0, 0) := zp_l zq_16 rfl
theorem p_16_96 : zP1 16 96 = some (.isub, 0, 0, 0) := zp_l zq_16 rfl
theorem p_16_97 : zP1 16 97 = some (.idiv, 0, 0, 0) := zp_l zq_16 rfl
theorem p_16_98 : zP1 16 98 = some (.ireturn, 0, 0, 0) := zp_l zq_16 rfl
theorem b_16_0 {x1 : Int} {x2 : Int} : Z e (d + 1) 16 0 [.ref 234, .int (iI x1), .int (iI x2)] [] m = (if ((wr x1) = 5) ∨ ((wr x1) = 6) then (Z e d 12 0 [.ref 234, .int (iI 61)] [] m).bind (ZK e (d + 1) 16 17 [.ref 234, .int (iI x1), .int (iI x2)] [] m) else (if ((wr x1) = 2) ∨ ((wr x1) = 3) then (Z e d 12 0 [.ref 234, .int (iI 31)] [] m).bind (ZK e (d + 1) 16 42 [.ref 234, .int (iI x1), .int (iI x2)] [] m) else (Z e d 12 0 [.ref 234, .int (iI 13)] [] m).bind (ZK e (d + 1) 16 60 [.ref 234, .int (iI x1), .int (iI x2)] [] m))) := (s_il_1 p_16_0).trans <| (s_const p_16_1).trans <| Eq.trans (Eq.trans (s_c_eq_t p_16_2 rfl rfl wl_5) <| Eq.trans (ite_cg rfl ((s_il_1 p_16_5).trans <| (s_bip p_16_6 rfl).trans <| (s_c_ne_f p_16_8 rfl rfl wl_6))) co_or) <| ite_cg ((s_al_0 p_16_11).trans <| (s_bip p_16_12 rfl).trans <| (s_cv1 (Lc := [.ref 234, .int (iI 61)]) p_16_14 (by decide) (by decide) (zM_of zq_12) ⟨Nat.le_of_ble_eq_true rfl, Nat.le_of_ble_eq_true rfl⟩ rfl (m_rc hs_234 ⟨rfl, by decide⟩))) ((s_il_1 p_16_26).trans <| (s_const p_16_27).trans <| Eq.trans (Eq.trans (s_c_eq_t p_16_28 rfl rfl wl_2) <| Eq.trans (ite_cg rfl ((s_il_1 p_16_31).trans <| (s_const p_16_32).trans <| (s_c_ne_f p_16_33 rfl rfl wl_3))) co_or) <| ite_cg ((s_al_0 p_16_36).trans <| (s_bip p_16_37 rfl).trans <| (s_cv1 (Lc := [.ref 234, .int (iI 31)]) p_16_39 (by decide) (by decide) (zM_of zq_12) ⟨Nat.le_of_ble_eq_true rfl, Nat.le_of_ble_eq_true rfl⟩ rfl (m_rc hs_234 ⟨rfl, by decide⟩))) ((s_al_0 p_16_54).trans <| (s_bip p_16_55 rfl).trans <| (s_cv1 (Lc := [.ref 234, .int (iI 13)]) p_16_57 (by decide) (by decide) (zM_of zq_12) ⟨Nat.le_of_ble_eq_true rfl, Nat.le_of_ble_eq_true rfl⟩ rfl (m_rc hs_234 ⟨rfl, by decide⟩))))
theorem b_16_17 {x2 : Int} {u1 : Value} : Z e (d + 1) 16 17 [.ref 234, u1, .int (iI x2)] [] m = (Z e d 16 0 [.ref 234, .int (iI 0), .int (iI (x2 + 2))] [] m).bind (ZK e (d + 1) 16 25 [.ref 234, u1, .int (iI x2)] [] m) := (s_al_0 p_16_17).trans <| (s_const p_16_18).trans <| (s_il_2 p_16_19).trans <| (s_const p_16_20).trans <| (s_iadd p_16_21).trans <| (s_cv2 (Lc := [.ref 234, .int (iI 0), .int (iI (x2 + 2))]) p_16_22 (by decide) (by decide) (zM_of zq_16) ⟨Nat.le_of_ble_eq_true rfl, Nat.le_of_ble_eq_true rfl⟩ rfl (m_rc hs_234 ⟨rfl, by decide⟩))
theorem b_16_42 {x2 : Int} {u1 : Value} : Z e (d + 1) 16 42 [.ref 234, u1, .int (iI x2)] [] m = (Z e d 16 0 [.ref 234, .int (iI 1), .int (iI x2)] [] m).bind (ZK e (d + 1) 16 48 [.ref 234, u1, .int (iI x2)] [] m) := (s_al_0 p_16_42).trans <| (s_const p_16_43).trans <| (s_il_2 p_16_44).trans <| (s_cv2 (Lc := [.ref 234, .int (iI 1), .int (iI x2)]) p_16_45 (by decide) (by decide) (zM_of zq_16) ⟨Nat.le_of_ble_eq_true rfl, Nat.le_of_ble_eq_true rfl⟩ rfl (m_rc hs_234 ⟨rfl, by decide⟩))
theorem b_16_60 {x2 : Int} {u1 : Value} : Z e (d + 1) 16 60 [.ref 234, u1, .int (iI x2)] [] m = ck ((¬ (¬ (wr ((um m 234 13 (if (wr (m 234 10)) = 11 then 1 else 0)) 234 13)) = 0)) → (¬ ((wr (((um m 234 13 (if (wr (m 234 10)) = 11 then 1 else 0)) 234 10) - 11)) = 0))) (ri (if ¬ (wr ((um m 234 13 (if (wr (m 234 10)) = 11 then 1 else 0)) 234 13)) = 0 then 0 else (jdiv x2 (((um m 234 13 (if (wr (m 234 10)) = 11 then 1 else 0)) 234 10) - 11))) (um m 234 13 (if (wr (m 234 10)) = 11 then 1 else 0))) := (s_al_0 p_16_60).trans <| (s_al_0 p_16_61).trans <| (s_get p_16_62 hs_234 (by decide) rfl).trans <| (s_bip p_16_65 rfl).trans <| Eq.trans (Eq.trans ((s_c_ne_f p_16_67 rfl rfl wl_11)) <| Eq.trans (ite_cg ((s_const p_16_70).trans <| (s_goto p_16_71 rfl).trans <| rfl) ((s_const p_16_74).trans <| rfl)) (phi1 (fun z0 => Z e (d + 1) 16 75 [.ref 234, u1, .int (iI x2)] [.int (iI z0), .ref 234] m))) <| (s_putb p_16_75 hs_234 (by decide) rfl).trans <| (s_al_0 p_16_78).trans <| (s_get p_16_79 hs_234 (by decide) rfl).trans <| Eq.trans (Eq.trans ((s_z_eq_f p_16_82 rfl rfl)) <| Eq.trans (ite_cg ((s_const p_16_85).trans <| (s_goto p_16_86 rfl).trans <| rfl) ((s_il_2 p_16_89).trans <| (s_al_0 p_16_90).trans <| (s_get p_16_91 hs_234 (by decide) rfl).trans <| (s_bip p_16_94 rfl).trans <| (s_isub p_16_96).trans <| (s_idiv p_16_97).trans <| ck_cg fun k1 => rfl)) <| Eq.trans ck_b <| ck_cg fun _ => (phi1 (fun z0 => Z e (d + 1) 16 98 [.ref 234, u1, .int (iI x2)] [.int (iI z0)] (um m 234 13 (if (wr (m 234 10)) = 11 then 1 else 0))))) <| ck_cg fun _ => (s_reti p_16_98 (zM_of zq_16))
theorem b_16_25 {xs0 : Int} {u0 u1 u2 : Value} : Z e (d + 1) 16 25 [u0, u1, u2] [.int (iI xs0)] m = ri xs0 m := (s_reti p_16_25 (zM_of zq_16))
theorem b_16_48 {xs0 : Int} {u1 u2 : Value} : Z e (d + 1) 16 48 [.ref 234, u1, u2] [.int (iI xs0)] m = ri (xs0 + (m 234 9)) m := (s_al_0 p_16_48).trans <| (s_get p_16_49 hs_234 (by decide) rfl).trans <| (s_iadd p_16_52).trans <| (s_reti p_16_53 (zM_of zq_16))
-- Host.dealWith
theorem p_11_0 : zP1 11 0 = some (.aload_n 0, 0, 0, 0) := zp_l zq_11 rfl
theorem p_11_1 : zP1 11 1 = some (.iload_n 1, 0, 0, 0) := zp_l zq_11 rfl
theorem p_11_2 : zP1 11 2 = some (.invokevirtual 60, 7, 1, 0) := zp_r zq_11 rfl
theorem p_11_5 : zP1 11 5 = some (.ifCond .ne 12, 0, 0, 0) := zp_l zq_11 rfl
theorem p_11_8 : zP1 11 8 = some (.aload_n 0, 0, 0, 0) := zp_l zq_11 rfl
theorem p_11_9 : zP1 11 9 = some (.getfield 23, 0, 4, 0) := zp_r zq_11 rfl
theorem p_11_12 : zP1 11 12 = some (.iload_n 1, 0, 0, 0) := zp_l zq_11 rfl
theorem p_11_13 : zP1 11 13 = some (.iaload, 0, 0, 0) := zp_l zq_11 rfl
theorem p_11_14 : zP1 11 14 = some (.ifCond .eq 5, 0, 0, 0) := zp_l zq_11 rfl
theorem p_11_17 : zP1 11 17 = some (.iconst 0, 0, 0, 0) := zp_l zq_11 rfl
theorem p_11_18 : zP1 11 18 = some (.ireturn, 0, 0, 0) := zp_l zq_11 rfl
theorem p_11_19 : zP1 11 19 = some (.aload_n 0, 0, 0, 0) := zp_l zq_11 rfl
theorem p_11_20 : zP1 11 20 = some (.aload_n 0, 0, 0, 0) := zp_l zq_11 rfl
theorem p_11_21 : zP1 11 21 = some (.getfield 26, 0, 5, 0) := zp_r zq_11 rfl
theorem p_11_24 : zP1 11 24 = some (.iload_n 1, 0, 0, 0) := zp_l zq_11 rfl
theorem p_11_25 : zP1 11 25 = some (.iaload, 0, 0, 0) := zp_l zq_11 rfl
theorem p_11_26 : zP1 11 26 = some (.putfield 74, 0, 9, 0) := zp_r zq_11 rfl
theorem p_11_29 : zP1 11 29 = some (.aload_n 0, 0, 0, 0) := zp_l zq_11 rfl
theorem p_11_30 : zP1 11 30 = some (.aload_n 0, 0, 0, 0) := zp_l zq_11 rfl
theorem p_11_31 : zP1 11 31 = some (.getfield 35, 0, 0, 0) := zp_r zq_11 rfl
theorem p_11_34 : zP1 11 34 = some (.getfield 49, 9, 5, 0) := zp_r zq_11 rfl
theorem p_11_37 : zP1 11 37 = some (.aload_n 0, 0, 0, 0) := zp_l zq_11 rfl
theorem p_11_38 : zP1 11 38 = some (.getfield 74, 0, 9, 0) := zp_r zq_11 rfl
theorem p_11_41 : zP1 11 41 = some (.iconst 0, 0, 0, 0) := zp_l zq_11 rfl
theorem p_11_42 : zP1 11 42 = some (.invokevirtual 63, 104, 2, 7) := zp_r zq_11 rfl
theorem p_11_45 : zP1 11 45 = some (.putfield 78, 0, 10, 0) := zp_r zq_11 rfl
theorem p_11_48 : zP1 11 48 = some (.aload_n 0, 0, 0, 0) := zp_l zq_11 rfl
theorem p_11_49 : zP1 11 49 = some (.aload_n 0, 0, 0, 0) := zp_l zq_11 rfl
theorem p_11_50 : zP1 11 50 = some (.getfield 35, 0, 0, 0) := zp_r zq_11 rfl
theorem p_11_53 : zP1 11 53 = some (.getfield 49, 9, 5, 0) := zp_r zq_11 rfl
theorem p_11_56 : zP1 11 56 = some (.aload_n 0, 0, 0, 0) := zp_l zq_11 rfl
theorem p_11_57 : zP1 11 57 = some (.getfield 74, 0, 9, 0) := zp_r zq_11 rfl
theorem p_11_60 : zP1 11 60 = some (.iconst 1, 0, 0, 0) := zp_l zq_11 rfl
theorem p_11_61 : zP1 11 61 = some (.invokevirtual 63, 104, 2, 7) := zp_r zq_11 rfl
theorem p_11_64 : zP1 11 64 = some (.putfield 81, 0, 11, 0) := zp_r zq_11 rfl
theorem p_11_67 : zP1 11 67 = some (.aload_n 0, 0, 0, 0) := zp_l zq_11 rfl
theorem p_11_68 : zP1 11 68 = some (.aload_n 0, 0, 0, 0) := zp_l zq_11 rfl
theorem p_11_69 : zP1 11 69 = some (.getfield 35, 0, 0, 0) := zp_r zq_11 rfl
theorem p_11_72 : zP1 11 72 = some (.getfield 49, 9, 5, 0) := zp_r zq_11 rfl
theorem p_11_75 : zP1 11 75 = some (.aload_n 0, 0, 0, 0) := zp_l zq_11 rfl
theorem p_11_76 : zP1 11 76 = some (.getfield 74, 0, 9, 0) := zp_r zq_11 rfl
theorem p_11_79 : zP1 11 79 = some (.iconst 2, 0, 0, 0) := zp_l zq_11 rfl
theorem p_11_80 : zP1 11 80 = some (.invokevirtual 63, 104, 2, 7) := zp_r zq_11 rfl
theorem p_11_83 : zP1 11 83 = some (.putfield 84, 0, 12, 0) := zp_r zq_11 rfl
theorem p_11_86 : zP1 11 86 = some (.aload_n 0, 0, 0, 0) := zp_l zq_11 rfl
theorem p_11_87 : zP1 11 87 = some (.iconst 0, 0, 0, 0) := zp_l zq_11 rfl
theorem p_11_88 : zP1 11 88 = some (.putfield 87, 0, 13, 1) := zp_r zq_11 rfl
theorem p_11_91 : zP1 11 91 = some (.iload_n 2, 0, 0, 0) := zp_l zq_11 rfl
theorem p_11_92 : zP1 11 92 = some (.ifCond .ne 15, 0, 0, 0) := zp_l zq_11 rfl
theorem p_11_95 : zP1 11 95 = some (.aload_n 0, 0, 0, 0) := zp_l zq_11 rfl
theorem p_11_96 : zP1 11 96 = some (.aload_n 0, 0, 0, 0) := zp_l zq_11 rfl
theorem p_11_97 : zP1 11 97 = some (.getfield 84, 0, 12, 0) := zp_r zq_11 rfl
theorem p_11_100 : zP1 11 100 = some (.iload_n 3, 0, 0, 0) := zp_l zq_11 rfl
theorem p_11_101 : zP1 11 101 = some (.invokevirtual 91, 13, 2, 0) := zp_r zq_11 rfl
theorem p_11_104 : zP1 11 104 = some (.goto 46, 0, 0, 0) := zp_l zq_11 rfl
theorem p_11_107 : zP1 11 107 = some (.iload_n 2, 0, 0, 0) := zp_l zq_11 rfl
theorem p_11_108 : zP1 11 108 = some (.iconst 1, 0, 0, 0) := zp_l zq_11 rfl
theorem p_11_109 : zP1 11 109 = some (.if_icmp .ne 15, 0, 0, 0) := zp_l zq_11 rfl
theorem p_11_112 : zP1 11 112 = some (.aload_n 0, 0, 0, 0) := zp_l zq_11 rfl
theorem p_11_113 : zP1 11 113 = some (.aload_n 0, 0, 0, 0) := zp_l zq_11 rfl
theorem p_11_114 : zP1 11 114 = some (.getfield 84, 0, 12, 0) := zp_r zq_11 rfl
theorem p_11_117 : zP1 11 117 = some (.iload_n 3, 0, 0, 0) := zp_l zq_11 rfl
theorem p_11_118 : zP1 11 118 = some (.invokevirtual 94, 14, 2, 0) := zp_r zq_11 rfl
theorem p_11_121 : zP1 11 121 = some (.goto 29, 0, 0, 0) := zp_l zq_11 rfl
theorem p_11_124 : zP1 11 124 = some (.iload_n 2, 0, 0, 0) := zp_l zq_11 rfl
theorem p_11_125 : zP1 11 125 = some (.iconst 2, 0, 0, 0) := zp_l zq_11 rfl
theorem p_11_126 : zP1 11 126 = some (.if_icmp .ne 15, 0, 0, 0) := zp_l zq_11 rfl
theorem p_11_129 : zP1 11 129 = some (.aload_n 0, 0, 0, 0) := zp_l zq_11 rfl
theorem p_11_130 : zP1 11 130 = some (.aload_n 0, 0, 0, 0) := zp_l zq_11 rfl
theorem p_11_131 : zP1 11 131 = some (.getfield 84, 0, 12, 0) := zp_r zq_11 rfl
theorem p_11_134 : zP1 11 134 = some (.iload_n 3, 0, 0, 0) := zp_l zq_11 rfl
theorem p_11_135 : zP1 11 135 = some (.invokevirtual 97, 15, 2, 0) := zp_r zq_11 rfl
theorem p_11_138 : zP1 11 138 = some (.goto 12, 0, 0, 0) := zp_l zq_11 rfl
theorem p_11_141 : zP1 11 141 = some (.aload_n 0, 0, 0, 0) := zp_l zq_11 rfl
theorem p_11_142 : zP1 11 142 = some (.aload_n 0, 0, 0, 0) := zp_l zq_11 rfl
theorem p_11_143 : zP1 11 143 = some (.getfield 84, 0, 12, 0) := zp_r zq_11 rfl
theorem p_11_146 : zP1 11 146 = some (.iload_n 3, 0, 0, 0) := zp_l zq_11 rfl
theorem p_11_147 : zP1 11 147 = some (.invokevirtual 100, 16, 2, 0) := zp_r zq_11 rfl
theorem p_11_150 : zP1 11 150 = some (.istore 4, 0, 0, 0) := zp_l zq_11 rfl
theorem p_11_152 : zP1 11 152 = some (.aload_n 0, 0, 0, 0) := zp_l zq_11 rfl
theorem p_11_153 : zP1 11 153 = some (.getfield 87, 0, 13, 0) := zp_r zq_11 rfl
theorem p_11_156 : zP1 11 156 = some (.ifCond .eq 8, 0, 0, 0) := zp_l zq_11 rfl
theorem p_11_159 : zP1 11 159 = some (.bipush (-15), 0, 0, 0) := zp_l zq_11 rfl
theorem p_11_161 : zP1 11 161 = some (.goto 5, 0, 0, 0) := zp_l zq_11 rfl
theorem p_11_164 : zP1 11 164 = some (.iload 4, 0, 0, 0) := zp_l zq_11 rfl
theorem p_11_166 : zP1 11 166 = some (.ireturn, 0, 0, 0) := zp_l zq_11 rfl
theorem b_11_0 {x1 : Int} {x2 : Int} {x3 : Int} : Z e (d + 2) 11 0 [.ref 234, .int (iI x1), .int (iI x2), .int (iI x3), .retAddr 0] [] m = ck (0 ≤ (wr x1) ∧ (wr x1) < 4) (ck ((¬ ((wr (m 242 (wr x1))) = 2)) → ((0 ≤ (wr x1) ∧ (wr x1) < 4) ∧ (((wr (m 242 (wr x1))) = 0) → (0 ≤ (wr x1) ∧ (wr x1) < 4)))) (ck ((¬ (((wr (m 242 (wr x1))) = 2) ∨ (((wr (m 242 (wr x1))) = 0) ∧ (¬ ((0 ≤ (wr (m 243 (wr x1)))) ∧ ((wr (m 243 (wr x1))) < (wr (m 4 3)))))))) → (0 ≤ (wr x1) ∧ (wr x1) < 4)) (if (((wr (m 242 (wr x1))) = 2) ∨ (((wr (m 242 (wr x1))) = 0) ∧ (¬ ((0 ≤ (wr (m 243 (wr x1)))) ∧ ((wr (m 243 (wr x1))) < (wr (m 4 3))))))) ∨ (¬ (wr (m 242 (wr x1))) = 0) then ri 0 m else ck (0 ≤ (wr x1) ∧ (wr x1) < 4) ((Z e (d + 1) 104 0 [.ref 4, .int (iI ((um m 234 9 (m 243 (wr x1))) 234 9)), .int (iI 0)] [] (um m 234 9 (m 243 (wr x1)))).bind (ZK e (d + 2) 11 45 [.ref 234, .int (iI x1), .int (iI x2), .int (iI x3), .retAddr 0] [.ref 234] (um m 234 9 (m 243 (wr x1)))))))) := (s_al_0 p_11_0).trans <| (s_il_1 p_11_1).trans <| (s_cv1 (Lc := [.ref 234, .int (iI x1)]) p_11_2 (by decide) (by decide) (zM_of zq_7) ⟨Nat.le_of_ble_eq_true rfl, Nat.le_of_ble_eq_true rfl⟩ rfl (m_rc hs_234 ⟨rfl, by decide⟩)).trans <| (bd b_7_0).trans <| ck_bind.trans <| ck_cg fun _ => ck_bind.trans <| ck_cg fun _ => ri_k.trans <| Eq.trans (Eq.trans (s_bne_t p_11_5 rfl) <| Eq.trans (ite_cg rfl ((s_al_0 p_11_8).trans <| (s_getr p_11_9 hs_234 (by decide) rfl).trans <| (s_il_1 p_11_12).trans <| (s_ald 4 p_11_13 hs_242 rfl (by decide)).trans <| ck_cg fun k1 => (s_z_eq_f p_11_14 rfl rfl))) <| Eq.trans ck_b <| ck_cg fun _ => co_or) <| ck_cg fun _ => ite_cg ((s_const p_11_17).trans <| (s_reti p_11_18 (zM_of zq_11))) ((s_al_0 p_11_19).trans <| (s_al_0 p_11_20).trans <| (s_getr p_11_21 hs_234 (by decide) rfl).trans <| (s_il_1 p_11_24).trans <| (s_ald 4 p_11_25 hs_243 rfl (by decide)).trans <| ck_cg fun k2 => (s_put p_11_26 hs_234 (by decide) rfl).trans <| (s_al_0 p_11_29).trans <| (s_al_0 p_11_30).trans <| (s_getr p_11_31 hs_234 (by decide) rfl).trans <| (s_getr p_11_34 hs_1 (by decide) rfl).trans <| (s_al_0 p_11_37).trans <| (s_get p_11_38 hs_234 (by decide) rfl).trans <| (s_const p_11_41).trans <| (s_cv2 (Lc := [.ref 4, .int (iI ((um m 234 9 (m 243 (wr x1))) 234 9)), .int (iI 0)]) p_11_42 (by decide) (by decide) (zM_of zq_104) ⟨Nat.le_of_ble_eq_true rfl, Nat.le_of_ble_eq_true rfl⟩ rfl (m_rc hs_4 ⟨rfl, by decide⟩)))
theorem b_11_45 {x2 : Int} {x3 : Int} {xs0 : Int} {u1 u4 : Value} : Z e (d + 2) 11 45 [.ref 234, u1, .int (iI x2), .int (iI x3), u4] [.int (iI xs0), .ref 234] m = (Z e (d + 1) 104 0 [.ref 4, .int (iI ((um m 234 10 xs0) 234 9)), .int (iI 1)] [] (um m 234 10 xs0)).bind (ZK e (d + 2) 11 64 [.ref 234, u1, .int (iI x2), .int (iI x3), u4] [.ref 234] (um m 234 10 xs0)) := (s_put p_11_45 hs_234 (by decide) rfl).trans <| (s_al_0 p_11_48).trans <| (s_al_0 p_11_49).trans <| (s_getr p_11_50 hs_234 (by decide) rfl).trans <| (s_getr p_11_53 hs_1 (by decide) rfl).trans <| (s_al_0 p_11_56).trans <| (s_get p_11_57 hs_234 (by decide) rfl).trans <| (s_const p_11_60).trans <| (s_cv2 (Lc := [.ref 4, .int (iI ((um m 234 10 xs0) 234 9)), .int (iI 1)]) p_11_61 (by decide) (by decide) (zM_of zq_104) ⟨Nat.le_of_ble_eq_true rfl, Nat.le_of_ble_eq_true rfl⟩ rfl (m_rc hs_4 ⟨rfl, by decide⟩))
theorem b_11_64 {x2 : Int} {x3 : Int} {xs0 : Int} {u1 u4 : Value} : Z e (d + 2) 11 64 [.ref 234, u1, .int (iI x2), .int (iI x3), u4] [.int (iI xs0), .ref 234] m = (Z e (d + 1) 104 0 [.ref 4, .int (iI ((um m 234 11 xs0) 234 9)), .int (iI 2)] [] (um m 234 11 xs0)).bind (ZK e (d + 2) 11 83 [.ref 234, u1, .int (iI x2), .int (iI x3), u4] [.ref 234] (um m 234 11 xs0)) := (s_put p_11_64 hs_234 (by decide) rfl).trans <| (s_al_0 p_11_67).trans <| (s_al_0 p_11_68).trans <| (s_getr p_11_69 hs_234 (by decide) rfl).trans <| (s_getr p_11_72 hs_1 (by decide) rfl).trans <| (s_al_0 p_11_75).trans <| (s_get p_11_76 hs_234 (by decide) rfl).trans <| (s_const p_11_79).trans <| (s_cv2 (Lc := [.ref 4, .int (iI ((um m 234 11 xs0) 234 9)), .int (iI 2)]) p_11_80 (by decide) (by decide) (zM_of zq_104) ⟨Nat.le_of_ble_eq_true rfl, Nat.le_of_ble_eq_true rfl⟩ rfl (m_rc hs_4 ⟨rfl, by decide⟩))
theorem b_11_83 {x2 : Int} {x3 : Int} {xs0 : Int} {u1 u4 : Value} : Z e (d + 2) 11 83 [.ref 234, u1, .int (iI x2), .int (iI x3), u4] [.int (iI xs0), .ref 234] m = (if (wr x2) = 0 then (Z e (d + 1) 13 0 [.ref 234, .int (iI ((um (um m 234 12 xs0) 234 13 0) 234 12)), .int (iI x3)] [] (um (um m 234 12 xs0) 234 13 0)).bind (ZK e (d + 2) 11 104 [.ref 234, u1, .int (iI x2), .int (iI x3), u4] [] (um (um m 234 12 xs0) 234 13 0)) else (if (wr x2) = 1 then (Z e (d + 1) 14 0 [.ref 234, .int (iI ((um (um m 234 12 xs0) 234 13 0) 234 12)), .int (iI x3)] [] (um (um m 234 12 xs0) 234 13 0)).bind (ZK e (d + 2) 11 121 [.ref 234, u1, .int (iI x2), .int (iI x3), u4] [] (um (um m 234 12 xs0) 234 13 0)) else (if (wr x2) = 2 then (Z e (d + 1) 15 0 [.ref 234, .int (iI ((um (um m 234 12 xs0) 234 13 0) 234 12)), .int (iI x3)] [] (um (um m 234 12 xs0) 234 13 0)).bind (ZK e (d + 2) 11 138 [.ref 234, u1, .int (iI x2), .int (iI x3), u4] [] (um (um m 234 12 xs0) 234 13 0)) else (Z e (d + 1) 16 0 [.ref 234, .int (iI ((um (um m 234 12 xs0) 234 13 0) 234 12)), .int (iI x3)] [] (um (um m 234 12 xs0) 234 13 0)).bind (ZK e (d + 2) 11 150 [.ref 234, u1, .int (iI x2), .int (iI x3), u4] [] (um (um m 234 12 xs0) 234 13 0))))) := (s_put p_11_83 hs_234 (by decide) rfl).trans <| (s_al_0 p_11_86).trans <| (s_const p_11_87).trans <| (s_putk p_11_88 rfl hs_234 (by decide) rfl).trans <| (s_il_2 p_11_91).trans <| Eq.trans ((s_z_ne_f p_11_92 rfl rfl)) <| ite_cg ((s_al_0 p_11_95).trans <| (s_al_0 p_11_96).trans <| (s_get p_11_97 hs_234 (by decide) rfl).trans <| (s_il_3 p_11_100).trans <| (s_cv2 (Lc := [.ref 234, .int (iI ((um (um m 234 12 xs0) 234 13 0) 234 12)), .int (iI x3)]) p_11_101 (by decide) (by decide) (zM_of zq_13) ⟨Nat.le_of_ble_eq_true rfl, Nat.le_of_ble_eq_true rfl⟩ rfl (m_rc hs_234 ⟨rfl, by decide⟩))) ((s_il_2 p_11_107).trans <| (s_const p_11_108).trans <| Eq.trans ((s_c_ne_f p_11_109 rfl rfl wl_1)) <| ite_cg ((s_al_0 p_11_112).trans <| (s_al_0 p_11_113).trans <| (s_get p_11_114 hs_234 (by decide) rfl).trans <| (s_il_3 p_11_117).trans <| (s_cv2 (Lc := [.ref 234, .int (iI ((um (um m 234 12 xs0) 234 13 0) 234 12)), .int (iI x3)]) p_11_118 (by decide) (by decide) (zM_of zq_14) ⟨Nat.le_of_ble_eq_true rfl, Nat.le_of_ble_eq_true rfl⟩ rfl (m_rc hs_234 ⟨rfl, by decide⟩))) ((s_il_2 p_11_124).trans <| (s_const p_11_125).trans <| Eq.trans ((s_c_ne_f p_11_126 rfl rfl wl_2)) <| ite_cg ((s_al_0 p_11_129).trans <| (s_al_0 p_11_130).trans <| (s_get p_11_131 hs_234 (by decide) rfl).trans <| (s_il_3 p_11_134).trans <| (s_cv2 (Lc := [.ref 234, .int (iI ((um (um m 234 12 xs0) 234 13 0) 234 12)), .int (iI x3)]) p_11_135 (by decide) (by decide) (zM_of zq_15) ⟨Nat.le_of_ble_eq_true rfl, Nat.le_of_ble_eq_true rfl⟩ rfl (m_rc hs_234 ⟨rfl, by decide⟩))) ((s_al_0 p_11_141).trans <| (s_al_0 p_11_142).trans <| (s_get p_11_143 hs_234 (by decide) rfl).trans <| (s_il_3 p_11_146).trans <| (s_cv2 (Lc := [.ref 234, .int (iI ((um (um m 234 12 xs0) 234 13 0) 234 12)), .int (iI x3)]) p_11_147 (by decide) (by decide) (zM_of zq_16) ⟨Nat.le_of_ble_eq_true rfl, Nat.le_of_ble_eq_true rfl⟩ rfl (m_rc hs_234 ⟨rfl, by decide⟩)))))
theorem b_11_150 {xs0 : Int} {u1 u2 u3 u4 : Value} (hu3 : u3.category = 1) : Z e (d + 2) 11 150 [.ref 234, u1, u2, u3, u4] [.int (iI xs0)] m = ri (if ¬ (wr (m 234 13)) = 0 then (-15) else xs0) m := (s_is_4 hu3 p_11_150).trans <| (s_al_0 p_11_152).trans <| (s_get p_11_153 hs_234 (by decide) rfl).trans <| Eq.trans (Eq.trans ((s_z_eq_f p_11_156 rfl rfl)) <| Eq.trans (ite_cg ((s_bip p_11_159 rfl).trans <| (s_goto p_11_161 rfl).trans <| rfl) ((s_il_4 p_11_164).trans <| rfl)) (phi1 (fun z0 => Z e (d + 2) 11 166 [.ref 234, u1, u2, u3, .int (iI xs0)] [.int (iI z0)] m))) <| (s_reti p_11_166 (zM_of zq_11))
theorem b_11_104 {xs0 : Int} {u1 u2 u3 u4 : Value} : Z e (d + 2) 11 104 [.ref 234, u1, u2, u3, u4] [.int (iI xs0)] m = Z e (d + 2) 11 150 [.ref 234, u1, u2, u3, u4] [.int (iI xs0)] m := (s_goto p_11_104 rfl).trans <| rfl
theorem b_11_121 {xs0 : Int} {u1 u2 u3 u4 : Value} : Z e (d + 2) 11 121 [.ref 234, u1, u2, u3, u4] [.int (iI xs0)] m = Z e (d + 2) 11 150 [.ref 234, u1, u2, u3, u4] [.int (iI xs0)] m := (s_goto p_11_121 rfl).trans <| rfl
theorem b_11_138 {xs0 : Int} {u1 u2 u3 u4 : Value} : Z e (d + 2) 11 138 [.ref 234, u1, u2, u3, u4] [.int (iI xs0)] m = Z e (d + 2) 11 150 [.ref 234, u1, u2, u3, u4] [.int (iI xs0)] m := (s_goto p_11_138 rfl).trans <| rfl
-- Law.forget
theorem p_18_0 : zP1 18 0 = some (.aload_n 0, 0, 0, 0) := zp_l zq_18 rfl
theorem p_18_1 : zP1 18 1 = some (.iconst 1, 0, 0, 0) := zp_l zq_18 rfl
theorem p_18_2 : zP1 18 2 = some (.putfield 9, 1, 2, 1) := zp_r zq_18 rfl
theorem p_18_5 : zP1 18 5 = some (.return_, 0, 0, 0) := zp_l zq_18 rfl
theorem b_18_0 : Z e d 18 0 [.ref 202] [] m = rn (um m 202 2 1) := (s_al_0 p_18_0).trans <| (s_const p_18_1).trans <| (s_putk p_18_2 rfl hs_202 (by decide) rfl).trans <| (s_retv p_18_5 (zM_of zq_18))
-- P.noCell
theorem p_194_0 : zP1 194 0 = some (.iload_n 0, 0, 0, 0) := zp_l zq_194 rfl
theorem p_194_1 : zP1 194 1 = some (.ifCond .lt 9, 0, 0, 0) := zp_l zq_194 rfl
theorem p_194_4 : zP1 194 4 = some (.iload_n 0, 0, 0, 0) := zp_l zq_194 rfl
theorem p_194_5 : zP1 194 5 = some (.bipush 100, 0, 0, 0) := zp_l zq_194 rfl
theorem p_194_7 : zP1 194 7 = some (.if_icmp .lt 7, 0, 0, 0) := zp_l zq_194 rfl
theorem p_194_10 : zP1 194 10 = some (.iconst 1, 0, 0, 0) := zp_l zq_194 rfl
theorem p_194_11 : zP1 194 11 = some (.goto 4, 0, 0, 0) := zp_l zq_194 rfl
theorem p_194_14 : zP1 194 14 = some (.iconst 0, 0, 0, 0) := zp_l zq_194 rfl
theorem p_194_15 : zP1 194 15 = some (.ireturn, 0, 0, 0) := zp_l zq_194 rfl
theorem b_194_0 {x0 : Int} : Z e d 194 0 [.int (iI x0)] [] m = ri (if ((wr x0) < 0) ∨ (100 ≤ (wr x0)) then 1 else 0) m := (s_il_0 p_194_0).trans <| Eq.trans (Eq.trans (Eq.trans (s_z_lt_t p_194_1 rfl rfl) <| Eq.trans (ite_cg rfl ((s_il_0 p_194_4).trans <| (s_bip p_194_5 rfl).trans <| (s_c_lt_f p_194_7 rfl rfl wl_100))) co_or) <| Eq.trans (ite_cg ((s_const p_194_10).trans <| (s_goto p_194_11 rfl).trans <| rfl) ((s_const p_194_14).trans <| rfl)) (phi1 (fun z0 => Z e d 194 15 [.int (iI x0)] [.int (iI z0)] m))) <| (s_retb p_194_15 (zM_of zq_194))
-- World.isWall
theorem p_123_0 : zP1 123 0 = some (.aload_n 0, 0, 0, 0) := zp_l zq_123 rfl
theorem p_123_1 : zP1 123 1 = some (.getfield 9, 9, 3, 0) := zp_r zq_123 rfl
theorem p_123_4 : zP1 123 4 = some (.iload_n 1, 0, 0, 0) := zp_l zq_123 rfl
theorem p_123_5 : zP1 123 5 = some (.iaload, 0, 0, 0) := zp_l zq_123 rfl
theorem p_123_6 : zP1 123 6 = some (.iconst 1, 0, 0, 0) := zp_l zq_123 rfl
theorem p_123_7 : zP1 123 7 = some (.if_icmp .ne 7, 0, 0, 0) := zp_l zq_123 rfl
theorem p_123_10 : zP1 123 10 = some (.iconst 1, 0, 0, 0) := zp_l zq_123 rfl
theorem p_123_11 : zP1 123 11 = some (.goto 4, 0, 0, 0) := zp_l zq_123 rfl
theorem p_123_14 : zP1 123 14 = some (.iconst 0, 0, 0, 0) := zp_l zq_123 rfl
theorem p_123_15 : zP1 123 15 = some (.ireturn, 0, 0, 0) := zp_l zq_123 rfl
theorem b_123_0 {x1 : Int} : Z e d 123 0 [.ref 1, .int (iI x1)] [] m = ck (0 ≤ (wr x1) ∧ (wr x1) < 100) (ri (if (wr (m 2 (wr x1))) = 1 then 1 else 0) m) := (s_al_0 p_123_0).trans <| (s_getr p_123_1 hs_1 (by decide) rfl).trans <| (s_il_1 p_123_4).trans <| (s_ald 100 p_123_5 hs_2 rfl (by decide)).trans <| ck_cg fun k1 => (s_const p_123_6).trans <| Eq.trans (Eq.trans ((s_c_ne_f p_123_7 rfl rfl wl_1)) <| Eq.trans (ite_cg ((s_const p_123_10).trans <| (s_goto p_123_11 rfl).trans <| rfl) ((s_const p_123_14).trans <| rfl)) (phi1 (fun z0 => Z e d 123 15 [.ref 1, .int (iI x1)] [.int (iI z0)] m))) <| (s_retb p_123_15 (zM_of zq_123))
-- Roads.spread
theorem p_88_0 : zP1 88 0 = some (.aload_n 2, 0, 0, 0) := zp_l zq_88 rfl
theorem p_88_1 : zP1 88 1 = some (.bipush (-3), 0, 0, 0) := zp_l zq_88 rfl
theorem p_88_3 : zP1 88 3 = some (.invokestatic 30, 332, 2, 0) := zp_r zq_88 rfl
theorem p_88_6 : zP1 88 6 = some (.iload_n 1, 0, 0, 0) := zp_l zq_88 rfl
theorem p_88_7 : zP1 88 7 = some (.invokestatic 36, 194, 1, 0) := zp_r zq_88 rfl
theorem p_88_10 : zP1 88 10 = some (.ifCond .ne 14, 0, 0, 0) := zp_l zq_88 rfl
theorem p_88_13 : zP1 88 13 = some (.aload_n 0, 0, 0, 0) := zp_l zq_88 rfl
theorem p_88_14 : zP1 88 14 = some (.getfield 26, 5, 0, 0) := zp_r zq_88 rfl
theorem p_88_17 : zP1 88 17 = some (.iload_n 1, 0, 0, 0) := zp_l zq_88 rfl
theorem p_88_18 : zP1 88 18 = some (.invokevirtual 40, 123, 1, 9) := zp_r zq_88 rfl
theorem p_88_21 : zP1 88 21 = some (.ifCond .eq 4, 0, 0, 0) := zp_l zq_88 rfl
theorem p_88_24 : zP1 88 24 = some (.return_, 0, 0, 0) := zp_l zq_88 rfl
theorem p_88_25 : zP1 88 25 = some (.aload_n 2, 0, 0, 0) := zp_l zq_88 rfl
theorem p_88_26 : zP1 88 26 = some (.iload_n 1, 0, 0, 0) := zp_l zq_88 rfl
theorem p_88_27 : zP1 88 27 = some (.iconst 0, 0, 0, 0) := zp_l zq_88 rfl
theorem p_88_28 : zP1 88 28 = some (.iastore, 0, 0, 0) := zp_l zq_88 rfl
theorem p_88_29 : zP1 88 29 = some (.aload_n 0, 0, 0, 0) := zp_l zq_88 rfl
theorem p_88_30 : zP1 88 30 = some (.getfield 15, 5, 2, 0) := zp_r zq_88 rfl
theorem p_88_33 : zP1 88 33 = some (.iconst 0, 0, 0, 0) := zp_l zq_88 rfl
theorem p_88_34 : zP1 88 34 = some (.iload_n 1, 0, 0, 0) := zp_l zq_88 rfl
theorem p_88_35 : zP1 88 35 = some (.iastore, 0, 0, 0) := zp_l zq_88 rfl
theorem p_88_36 : zP1 88 36 = some (.iconst 1, 0, 0, 0) := zp_l zq_88 rfl
theorem p_88_37 : zP1 88 37 = some (.istore_n 3, 0, 0, 0) := zp_l zq_88 rfl
theorem p_88_38 : zP1 88 38 = some (.iconst 0, 0, 0, 0) := zp_l zq_88 rfl
theorem p_88_39 : zP1 88 39 = some (.istore 4, 0, 0, 0) := zp_l zq_88 rfl
theorem p_88_41 : zP1 88 41 = some (.iload 4, 0, 0, 0) := zp_l zq_88 rfl
theorem p_88_43 : zP1 88 43 = some (.iload_n 3, 0, 0, 0) := zp_l zq_88 rfl
theorem p_88_44 : zP1 88 44 = some (.if_icmp .ge 114, 0, 0, 0) := zp_l zq_88 rfl
theorem p_88_47 : zP1 88 47 = some (.iload 4, 0, 0, 0) := zp_l zq_88 rfl
theorem p_88_49 : zP1 88 49 = some (.bipush 100, 0, 0, 0) := zp_l zq_88 rfl
theorem p_88_51 : zP1 88 51 = some (.if_icmp .ge 107, 0, 0, 0) := zp_l zq_88 rfl
theorem p_88_54 : zP1 88 54 = some (.aload_n 0, 0, 0, 0) := zp_l zq_88 rfl
theorem p_88_55 : zP1 88 55 = some (.getfield 15, 5, 2, 0) := zp_r zq_88 rfl
theorem p_88_58 : zP1 88 58 = some (.iload 4, 0, 0, 0) := zp_l zq_88 rfl
theorem p_88_60 : zP1 88 60 = some (.iaload, 0, 0, 0) := zp_l zq_88 rfl
theorem p_88_61 : zP1 88 61 = some (.istore 5, 0, 0, 0) := zp_l zq_88 rfl
theorem p_88_63 : zP1 88 63 = some (.iconst 4, 0, 0, 0) := zp_l zq_88 rfl
theorem p_88_64 : zP1 88 64 = some (.iload 5, 0, 0, 0) := zp_l zq_88 rfl
theorem p_88_66 : zP1 88 66 = some (.imul, 0, 0, 0) := zp_l zq_88 rfl
theorem p_88_67 : zP1 88 67 = some (.istore 6, 0, 0, 0) := zp_l zq_88 rfl
theorem p_88_69 : zP1 88 69 = some (.iload 6, 0, 0, 0) := zp_l zq_88 rfl
theorem p_88_71 : zP1 88 71 = some (.iconst 4, 0, 0, 0) := zp_l zq_88 rfl
theorem p_88_72 : zP1 88 72 = some (.iload 5, 0, 0, 0) := zp_l zq_88 rfl
theorem p_88_74 : zP1 88 74 = some (.imul, 0, 0, 0) := zp_l zq_88 rfl
theorem p_88_75 : zP1 88 75 = some (.iconst 4, 0, 0, 0) := zp_l zq_88 rfl
theorem p_88_76 : zP1 88 76 = some (.iadd, 0, 0, 0) := zp_l zq_88 rfl
theorem p_88_77 : zP1 88 77 = some (.if_icmp .ge 75, 0, 0, 0) := zp_l zq_88 rfl
theorem p_88_80 : zP1 88 80 = some (.aload_n 0, 0, 0, 0) := zp_l zq_88 rfl
theorem p_88_81 : zP1 88 81 = some (.getfield 9, 5, 1, 0) := zp_r zq_88 rfl
theorem p_88_84 : zP1 88 84 = some (.iload 6, 0, 0, 0) := zp_l zq_88 rfl
theorem p_88_86 : zP1 88 86 = some (.iaload, 0, 0, 0) := zp_l zq_88 rfl
theorem p_88_87 : zP1 88 87 = some (.istore 7, 0, 0, 0) := zp_l zq_88 rfl
theorem p_88_89 : zP1 88 89 = some (.iload 7, 0, 0, 0) := zp_l zq_88 rfl
theorem p_88_91 : zP1 88 91 = some (.bipush (-3), 0, 0, 0) := zp_l zq_88 rfl
theorem p_88_93 : zP1 88 93 = some (.if_icmp .eq 53, 0, 0, 0) := zp_l zq_88 rfl
theorem p_88_96 : zP1 88 96 = some (.aload_n 2, 0, 0, 0) := zp_l zq_88 rfl
theorem p_88_97 : zP1 88 97 = some (.iload 7, 0, 0, 0) := zp_l zq_88 rfl
theorem p_88_99 : zP1 88 99 = some (.iaload, 0, 0, 0) := zp_l zq_88 rfl
theorem p_88_100 : zP1 88 100 = some (.bipush (-3), 0, 0, 0) := zp_l zq_88 rfl
theorem p_88_102 : zP1 88 102 = some (.if_icmp .ne 44, 0, 0, 0) := zp_l zq_88 rfl
theorem p_88_105 : zP1 88 105 = some (.aload_n 0, 0, 0, 0) := zp_l zq_88 rfl
theorem p_88_106 : zP1 88 106 = some (.getfield 26, 5, 0, 0) := zp_r zq_88 rfl
theorem p_88_109 : zP1 88 109 = some (.getfield 45, 9, 3, 0) := zp_r zq_88 rfl
theorem p_88_112 : zP1 88 112 = some (.iload 7, 0, 0, 0) := zp_l zq_88 rfl
theorem p_88_114 : zP1 88 114 = some (.iaload, 0, 0, 0) := zp_l zq_88 rfl
theorem p_88_115 : zP1 88 115 = some (.iconst 1, 0, 0, 0) := zp_l zq_88 rfl
theorem p_88_116 : zP1 88 116 = some (.if_icmp .eq 30, 0, 0, 0) := zp_l zq_88 rfl
theorem p_88_119 : zP1 88 119 = some (.iload_n 3, 0, 0, 0) := zp_l zq_88 rfl
theorem p_88_120 : zP1 88 120 = some (.bipush 100, 0, 0, 0) := zp_l zq_88 rfl
theorem p_88_122 : zP1 88 122 = some (.if_icmp .ge 24, 0, 0, 0) := zp_l zq_88 rfl
theorem p_88_125 : zP1 88 125 = some (.aload_n 2, 0, 0, 0) := zp_l zq_88 rfl
theorem p_88_126 : zP1 88 126 = some (.iload 7, 0, 0, 0) := zp_l zq_88 rfl
theorem p_88_128 : zP1 88 128 = some (.aload_n 2, 0, 0, 0) := zp_l zq_88 rfl
theorem p_88_129 : zP1 88 129 = some (.iload 5, 0, 0, 0) := zp_l zq_88 rfl
theorem p_88_131 : zP1 88 131 = some (.iaload, 0, 0, 0) := zp_l zq_88 rfl
theorem p_88_132 : zP1 88 132 = some (.iconst 1, 0, 0, 0) := zp_l zq_88 rfl
theorem p_88_133 : zP1 88 133 = some (.iadd, 0, 0, 0) := zp_l zq_88 rfl
theorem p_88_134 : zP1 88 134 = some (.iastore, 0, 0, 0) := zp_l zq_88 rfl
theorem p_88_135 : zP1 88 135 = some (.aload_n 0, 0, 0, 0) := zp_l zq_88 rfl
theorem p_88_136 : zP1 88 136 = some (.getfield 15, 5, 2, 0) := zp_r zq_88 rfl
theorem p_88_139 : zP1 88 139 = some (.iload_n 3, 0, 0, 0) := zp_l zq_88 rfl
theorem p_88_140 : zP1 88 140 = some (.iload 7, 0, 0, 0) := zp_l zq_88 rfl
theorem p_88_142 : zP1 88 142 = some (.iastore, 0, 0, 0) := zp_l zq_88 rfl
theorem p_88_143 : zP1 88 143 = some (.iinc 3 1, 0, 0, 0) := zp_l zq_88 rfl
theorem p_88_146 : zP1 88 146 = some (.iinc 6 1, 0, 0, 0) := zp_l zq_88 rfl
theorem p_88_149 : zP1 88 149 = some (.goto (-80), 0, 0, 0) := zp_l zq_88 rfl
theorem p_88_152 : zP1 88 152 = some (.iinc 4 1, 0, 0, 0) := zp_l zq_88 rfl
theorem p_88_155 : zP1 88 155 = some (.goto (-114), 0, 0, 0) := zp_l zq_88 rfl
theorem p_88_158 : zP1 88 158 = some (.return_, 0, 0, 0) := zp_l zq_88 rfl
theorem b_88_0 {x1 : Int} {a2 : Nat} (hA : zArr a2 100) : Z e (d + 1) 88 0 [.ref 191, .int (iI x1), .ref a2, .retAddr 0, .retAddr 0, .retAddr 0, .retAddr 0, .retAddr 0] [] m = (Z e d 332 0 [.ref a2, .int (iI (-3)), .retAddr 0, .retAddr 0] [] m).bind (ZK e (d + 1) 88 6 [.ref 191, .int (iI x1), .ref a2, .retAddr 0, .retAddr 0, .retAddr 0, .retAddr 0, .retAddr 0] [] m) := (s_al_2 p_88_0).trans <| (s_bip p_88_1 rfl).trans <| (s_cs2 (Lc := [.ref a2, .int (iI (-3)), .retAddr 0, .retAddr 0]) p_88_3 (by decide) (zM_of zq_332) ⟨Nat.le_of_ble_eq_true rfl, Nat.le_of_ble_eq_true rfl⟩ rfl)
theorem b_88_41 {a2 : Nat} {x3 : Int} {x4 : Int} {u1 u5 u6 u7 : Value} (hA : zArr a2 100) : Z e (d + 1) 88 41 [.ref 191, u1, .ref a2, .int (iI x3), .int (iI x4), u5, u6, u7] [] m = (if ((wr x4) < (wr x3)) ∧ ((wr x4) < 100) then ck (0 ≤ (wr x4) ∧ (wr x4) < 100) (Z e (d + 1) 88 69 [.ref 191, u1, .ref a2, .int (iI x3), .int (iI x4), .int (iI (m 193 (wr x4))), .int (iI (4 * (m 193 (wr x4)))), u7] [] m) else rn m) := (s_il_4 p_88_41).trans <| (s_il_3 p_88_43).trans <| Eq.trans (Eq.trans (s_c_ge_f p_88_44 rfl rfl rfl) <| Eq.trans (ite_cg ((s_il_4 p_88_47).trans <| (s_bip p_88_49 rfl).trans <| (s_c_ge_f p_88_51 rfl rfl wl_100)) rfl) co_and) <| ite_cg ((s_al_0 p_88_54).trans <| (s_getr p_88_55 hs_191 (by decide) rfl).trans <| (s_il_4 p_88_58).trans <| (s_ald 100 p_88_60 hs_193 rfl (by decide)).trans <| ck_cg fun k2 => (s_is_5 cat_i p_88_61).trans <| (s_const p_88_63).trans <| (s_il_5 p_88_64).trans <| (s_imul p_88_66).trans <| (s_is_6 cat_i p_88_67).trans <| rfl) ((s_retv p_88_158 (zM_of zq_88)))
theorem b_88_69 {a2 : Nat} {x3 : Int} {x4 : Int} {x5 : Int} {x6 : Int} {u1 u7 : Value} (hA : zArr a2 100) : Z e (d + 1) 88 69 [.ref 191, u1, .ref a2, .int (iI x3), .int (iI x4), .int (iI x5), .int (iI x6), u7] [] m = (if (wr x6) < (wr ((4 * x5) + 4)) then ck (0 ≤ (wr x6) ∧ (wr x6) < 400) (ck ((¬ (wr (m 192 (wr x6))) = (-3)) → ((0 ≤ (wr (m 192 (wr x6))) ∧ (wr (m 192 (wr x6))) < 100) ∧ (((wr (m a2 (wr (m 192 (wr x6))))) = (-3)) → (0 ≤ (wr (m 192 (wr x6))) ∧ (wr (m 192 (wr x6))) < 100)))) (if (¬ (wr (m 192 (wr x6))) = (-3)) ∧ (((wr (m a2 (wr (m 192 (wr x6))))) = (-3)) ∧ ((¬ (wr (m 2 (wr (m 192 (wr x6))))) = 1) ∧ ((wr x3) < 100))) then ck (0 ≤ (wr x5) ∧ (wr x5) < 100) (ck (0 ≤ (wr (m 192 (wr x6))) ∧ (wr (m 192 (wr x6))) < 100) (ck (0 ≤ (wr x3) ∧ (wr x3) < 100) (Z e (d + 1) 88 69 [.ref 191, u1, .ref a2, .int (iI (x3 + 1)), .int (iI x4), .int (iI x5), .int (iI (x6 + 1)), .int (iI (m 192 (wr x6)))] [] (um (um m a2 (wr (m 192 (wr x6))) ((m a2 (wr x5)) + 1)) 193 (wr x3) (m 192 (wr x6)))))) else Z e (d + 1) 88 69 [.ref 191, u1, .ref a2, .int (iI x3), .int (iI x4), .int (iI x5), .int (iI (x6 + 1)), .int (iI (m 192 (wr x6)))] [] m)) else Z e (d + 1) 88 41 [.ref 191, u1, .ref a2, .int (iI x3), .int (iI (x4 + 1)), .int (iI x5), .int (iI x6), u7] [] m) := (s_il_6 p_88_69).trans <| (s_const p_88_71).trans <| (s_il_5 p_88_72).trans <| (s_imul p_88_74).trans <| (s_const p_88_75).trans <| (s_iadd p_88_76).trans <| Eq.trans ((s_c_ge_f p_88_77 rfl rfl rfl)) <| ite_cg ((s_al_0 p_88_80).trans <| (s_getr p_88_81 hs_191 (by decide) rfl).trans <| (s_il_6 p_88_84).trans <| (s_ald 400 p_88_86 hs_192 rfl (by decide)).trans <| ck_cg fun k5 => (s_is_7 cat_i p_88_87).trans <| (s_il_7 p_88_89).trans <| (s_bip p_88_91 rfl).trans <| Eq.trans (Eq.trans (s_c_eq_f p_88_93 rfl rfl wl_m3) <| Eq.trans (ite_cg ((s_al_2 p_88_96).trans <| (s_il_7 p_88_97).trans <| (s_ald 100 p_88_99 (hA).1 rfl (hA).2).trans <| Eq.trans (ck_cg fun k9 => (s_bip p_88_100 rfl).trans <| Eq.trans (s_c_ne_f p_88_102 rfl rfl wl_m3) <| Eq.trans (ite_cg ((s_al_0 p_88_105).trans <| (s_getr p_88_106 hs_191 (by decide) rfl).trans <| (s_getr p_88_109 hs_1 (by decide) rfl).trans <| (s_il_7 p_88_112).trans <| (s_ald 100 p_88_114 hs_2 rfl (by decide)).trans <| ck_cg fun k10 => (s_const p_88_115).trans <| Eq.trans (s_c_eq_f p_88_116 rfl rfl wl_1) <| Eq.trans (ite_cg ((s_il_3 p_88_119).trans <| (s_bip p_88_120 rfl).trans <| (s_c_ge_f p_88_122 rfl rfl wl_100)) rfl) co_and) rfl) <| Eq.trans ck_a <| ck_cg fun _ => co_and) ck_ck) rfl) <| Eq.trans ck_a <| ck_cg fun _ => co_and) <| ck_cg fun _ => ite_cg ((s_al_2 p_88_125).trans <| (s_il_7 p_88_126).trans <| (s_al_2 p_88_128).trans <| (s_il_5 p_88_129).trans <| (s_ald 100 p_88_131 (hA).1 rfl (hA).2).trans <| ck_cg fun k11 => (s_const p_88_132).trans <| (s_iadd p_88_133).trans <| (s_ast 100 p_88_134 (hA).1 rfl).trans <| ck_cg fun k12 => (s_al_0 p_88_135).trans <| (s_getr p_88_136 hs_191 (by decide) rfl).trans <| (s_il_3 p_88_139).trans <| (s_il_7 p_88_140).trans <| (s_ast 100 p_88_142 hs_193 rfl).trans <| ck_cg fun k13 => (s_inc_3 cat_r p_88_143).trans <| (s_inc_6 cat_i p_88_146).trans <| (s_goto p_88_149 rfl).trans <| rfl) ((s_inc_6 cat_i p_88_146).trans <| (s_goto p_88_149 rfl).trans <| rfl)) ((s_inc_4 cat_i p_88_152).trans <| (s_goto p_88_155 rfl).trans <| rfl)
theorem b_88_6 {a2 : Nat} {x1 : Int} {u3 u4 u5 u6 u7 : Value} (hA : zArr a2 100) : Z e (d + 1) 88 6 [.ref 191, .int (iI x1), .ref a2, u3, u4, u5, u6, u7] [] m = ck ((¬ (((wr x1) < 0) ∨ (100 ≤ (wr x1)))) → (0 ≤ (wr x1) ∧ (wr x1) < 100)) (if (((wr x1) < 0) ∨ (100 ≤ (wr x1))) ∨ ((wr (m 2 (wr x1))) = 1) then rn m else ck (0 ≤ (wr x1) ∧ (wr x1) < 100) (Z e (d + 1) 88 41 [.ref 191, .int (iI x1), .ref a2, .int (iI 1), .int (iI 0), u5, u6, u7] [] (um (um m a2 (wr x1) 0) 193 0 x1))) := (s_il_1 p_88_6).trans <| (s_cs1 (Lc := [.int (iI x1)]) p_88_7 (by decide) (zM_of zq_194) ⟨Nat.le_of_ble_eq_true rfl, Nat.le_of_ble_eq_true rfl⟩ rfl).trans <| (bd b_194_0).trans <| ri_k.trans <| Eq.trans (Eq.trans (s_bne_t p_88_10 rfl) <| Eq.trans (ite_cg rfl ((s_al_0 p_88_13).trans <| (s_getr p_88_14 hs_191 (by decide) rfl).trans <| (s_il_1 p_88_17).trans <| (s_cv1 (Lc := [.ref 1, .int (iI x1)]) p_88_18 (by decide) (by decide) (zM_of zq_123) ⟨Nat.le_of_ble_eq_true rfl, Nat.le_of_ble_eq_true rfl⟩ rfl (m_rc hs_1 ⟨rfl, by decide⟩)).trans <| (bd b_123_0).trans <| ck_bind.trans <| ck_cg fun k1 => ri_k.trans <| (s_beq_f p_88_21 rfl))) <| Eq.trans ck_b <| ck_cg fun _ => co_or) <| ck_cg fun _ => ite_cg ((s_retv p_88_24 (zM_of zq_88))) ((s_al_2 p_88_25).trans <| (s_il_1 p_88_26).trans <| (s_const p_88_27).trans <| (s_ast 100 p_88_28 (hA).1 rfl).trans <| ck_cg fun k2 => (s_al_0 p_88_29).trans <| (s_getr p_88_30 hs_191 (by decide) rfl).trans <| (s_const p_88_33).trans <| (s_il_1 p_88_34).trans <| (s_astc p_88_35 hs_193 wl_0 (by decide)).trans <| (s_const p_88_36).trans <| (s_is_3 cat_r p_88_37).trans <| (s_const p_88_38).trans <| (s_is_4 cat_i p_88_39).trans <| rfl)
-- Roads.mapStones
theorem p_90_0 : zP1 90 0 = some (.iconst 0, 0, 0, 0) := zp_l zq_90 rfl
theorem p_90_1 : zP1 90 1 = some (.istore_n 1, 0, 0, 0) := zp_l zq_90 rfl
theorem p_90_2 : zP1 90 2 = some (.iload_n 1, 0, 0, 0) := zp_l zq_90 rfl
theorem p_90_3 : zP1 90 3 = some (.aload_n 0, 0, 0, 0) := zp_l zq_90 rfl
theorem p_90_4 : zP1 90 4 = some (.getfield 26, 5, 0, 0) := zp_r zq_90 rfl
theorem p_90_7 : zP1 90 7 = some (.getfield 52, 9, 6, 0) := zp_r zq_90 rfl
theorem p_90_10 : zP1 90 10 = some (.getfield 56, 7, 3, 0) := zp_r zq_90 rfl
theorem p_90_13 : zP1 90 13 = some (.if_icmp .ge 37, 0, 0, 0) := zp_l zq_90 rfl
theorem p_90_16 : zP1 90 16 = some (.iload_n 1, 0, 0, 0) := zp_l zq_90 rfl
theorem p_90_17 : zP1 90 17 = some (.bipush 6, 0, 0, 0) := zp_l zq_90 rfl
theorem p_90_19 : zP1 90 19 = some (.if_icmp .ge 31, 0, 0, 0) := zp_l zq_90 rfl
theorem p_90_22 : zP1 90 22 = some (.aload_n 0, 0, 0, 0) := zp_l zq_90 rfl
theorem p_90_23 : zP1 90 23 = some (.aload_n 0, 0, 0, 0) := zp_l zq_90 rfl
theorem p_90_24 : zP1 90 24 = some (.getfield 26, 5, 0, 0) := zp_r zq_90 rfl
theorem p_90_27 : zP1 90 27 = some (.getfield 52, 9, 6, 0) := zp_r zq_90 rfl
theorem p_90_30 : zP1 90 30 = some (.iload_n 1, 0, 0, 0) := zp_l zq_90 rfl
theorem p_90_31 : zP1 90 31 = some (.iconst 0, 0, 0, 0) := zp_l zq_90 rfl
theorem p_90_32 : zP1 90 32 = some (.invokevirtual 62, 104, 2, 7) := zp_r zq_90 rfl
theorem p_90_35 : zP1 90 35 = some (.aload_n 0, 0, 0, 0) := zp_l zq_90 rfl
theorem p_90_36 : zP1 90 36 = some (.getfield 23, 5, 4, 0) := zp_r zq_90 rfl
theorem p_90_39 : zP1 90 39 = some (.iload_n 1, 0, 0, 0) := zp_l zq_90 rfl
theorem p_90_40 : zP1 90 40 = some (.aaload, 0, 0, 0) := zp_l zq_90 rfl
theorem p_90_41 : zP1 90 41 = some (.invokevirtual 48, 88, 2, 5) := zp_r zq_90 rfl
theorem p_90_44 : zP1 90 44 = some (.iinc 1 1, 0, 0, 0) := zp_l zq_90 rfl
theorem p_90_47 : zP1 90 47 = some (.goto (-45), 0, 0, 0) := zp_l zq_90 rfl
theorem p_90_50 : zP1 90 50 = some (.return_, 0, 0, 0) := zp_l zq_90 rfl
theorem b_90_0 : Z e (d + 1) 90 0 [.ref 191, .retAddr 0] [] m = Z e (d + 1) 90 2 [.ref 191, .int (iI 0)] [] m := (s_const p_90_0).trans <| (s_is_1 cat_r p_90_1).trans <| rfl
theorem b_90_2 {x1 : Int} : Z e (d + 1) 90 2 [.ref 191, .int (iI x1)] [] m = (if ((wr x1) < (wr (m 6 3))) ∧ ((wr x1) < 6) then (Z e d 104 0 [.ref 6, .int (iI x1), .int (iI 0)] [] m).bind (ZK e (d + 1) 90 35 [.ref 191, .int (iI x1)] [.ref 191] m) else rn m) := (s_il_1 p_90_2).trans <| (s_al_0 p_90_3).trans <| (s_getr p_90_4 hs_191 (by decide) rfl).trans <| (s_getr p_90_7 hs_1 (by decide) rfl).trans <| (s_get p_90_10 hs_6 (by decide) rfl).trans <| Eq.trans (Eq.trans (s_c_ge_f p_90_13 rfl rfl rfl) <| Eq.trans (ite_cg ((s_il_1 p_90_16).trans <| (s_bip p_90_17 rfl).trans <| (s_c_ge_f p_90_19 rfl rfl wl_6)) rfl) co_and) <| ite_cg ((s_al_0 p_90_22).trans <| (s_al_0 p_90_23).trans <| (s_getr p_90_24 hs_191 (by decide) rfl).trans <| (s_getr p_90_27 hs_1 (by decide) rfl).trans <| (s_il_1 p_90_30).trans <| (s_const p_90_31).trans <| (s_cv2 (Lc := [.ref 6, .int (iI x1), .int (iI 0)]) p_90_32 (by decide) (by decide) (zM_of zq_104) ⟨Nat.le_of_ble_eq_true rfl, Nat.le_of_ble_eq_true rfl⟩ rfl (m_rc hs_6 ⟨rfl, by decide⟩))) ((s_retv p_90_50 (zM_of zq_90)))
theorem b_90_35 {x1 : Int} {xs0 : Int} : Z e (d + 1) 90 35 [.ref 191, .int (iI x1)] [.int (iI xs0), .ref 191] m = ck (0 ≤ (wr x1) ∧ (wr x1) < 6) ((Z e d 88 0 [.ref 191, .int (iI xs0), .ref (196 + (wr x1).toNat), .retAddr 0, .retAddr 0, .retAddr 0, .retAddr 0, .retAddr 0] [] m).bind (ZK e (d + 1) 90 44 [.ref 191, .int (iI x1)] [] m)) := (s_al_0 p_90_35).trans <| (s_getr p_90_36 hs_191 (by decide) rfl).trans <| (s_il_1 p_90_39).trans <| (s_aald 6 p_90_40 hs_195 rfl ⟨by decide, by decide⟩ ar_195).trans <| ck_cg fun k1 => (s_cv2 (Lc := [.ref 191, .int (iI xs0), .ref (196 + (wr x1).toNat), .retAddr 0, .retAddr 0, .retAddr 0, .retAddr 0, .retAddr 0]) p_90_41 (by decide) (by decide) (zM_of zq_88) ⟨Nat.le_of_ble_eq_true rfl, Nat.le_of_ble_eq_true rfl⟩ rfl (m_rc hs_191 ⟨rfl, by decide⟩))
theorem b_90_44 {x1 : Int} : Z e (d + 1) 90 44 [.ref 191, .int (iI x1)] [] m = Z e (d + 1) 90 2 [.ref 191, .int (iI (x1 + 1))] [] m := (s_inc_1 cat_r p_90_44).trans <| (s_goto p_90_47 rfl).trans <| rfl
-- Law.addLines
theorem p_21_0 : zP1 21 0 = some (.iload_n 1, 0, 0, 0) := zp_l zq_21 rfl
theorem p_21_1 : zP1 21 1 = some (.ifCond .lt 9, 0, 0, 0) := zp_l zq_21 rfl
theorem p_21_4 : zP1 21 4 = some (.iload_n 1, 0, 0, 0) := zp_l zq_21 rfl
theorem p_21_5 : zP1 21 5 = some (.bipush 12, 0, 0, 0) := zp_l zq_21 rfl
theorem p_21_7 : zP1 21 7 = some (.if_icmp .lt 4, 0, 0, 0) := zp_l zq_21 rfl
theorem p_21_10 : zP1 21 10 = some (.return_, 0, 0, 0) := zp_l zq_21 rfl
theorem p_21_11 : zP1 21 11 = some (.aload_n 0, 0, 0, 0) := zp_l zq_21 rfl
theorem p_21_12 : zP1 21 12 = some (.getfield 29, 1, 0, 0) := zp_r zq_21 rfl
theorem p_21_15 : zP1 21 15 = some (.getfield 69, 9, 4, 0) := zp_r zq_21 rfl
theorem p_21_18 : zP1 21 18 = some (.iload_n 1, 0, 0, 0) := zp_l zq_21 rfl
theorem p_21_19 : zP1 21 19 = some (.aaload, 0, 0, 0) := zp_l zq_21 rfl
theorem p_21_20 : zP1 21 20 = some (.astore_n 2, 0, 0, 0) := zp_l zq_21 rfl
theorem p_21_21 : zP1 21 21 = some (.iconst 0, 0, 0, 0) := zp_l zq_21 rfl
theorem p_21_22 : zP1 21 22 = some (.istore_n 3, 0, 0, 0) := zp_l zq_21 rfl
theorem p_21_23 : zP1 21 23 = some (.iload_n 3, 0, 0, 0) := zp_l zq_21 rfl
theorem p_21_24 : zP1 21 24 = some (.aload_n 2, 0, 0, 0) := zp_l zq_21 rfl
theorem p_21_25 : zP1 21 25 = some (.getfield 82, 8, 3, 0) := zp_r zq_21 rfl
theorem p_21_28 : zP1 21 28 = some (.if_icmp .ge 113, 0, 0, 0) := zp_l zq_21 rfl
theorem p_21_31 : zP1 21 31 = some (.iload_n 3, 0, 0, 0) := zp_l zq_21 rfl
theorem p_21_32 : zP1 21 32 = some (.bipush 10, 0, 0, 0) := zp_l zq_21 rfl
theorem p_21_34 : zP1 21 34 = some (.if_icmp .ge 107, 0, 0, 0) := zp_l zq_21 rfl
theorem p_21_37 : zP1 21 37 = some (.aload_n 0, 0, 0, 0) := zp_l zq_21 rfl
theorem p_21_38 : zP1 21 38 = some (.getfield 49, 1, 5, 0) := zp_r zq_21 rfl
theorem p_21_41 : zP1 21 41 = some (.aload_n 0, 0, 0, 0) := zp_l zq_21 rfl
theorem p_21_42 : zP1 21 42 = some (.getfield 19, 1, 4, 0) := zp_r zq_21 rfl
theorem p_21_45 : zP1 21 45 = some (.arraylength, 0, 0, 0) := zp_l zq_21 rfl
theorem p_21_46 : zP1 21 46 = some (.if_icmp .ge 95, 0, 0, 0) := zp_l zq_21 rfl
theorem p_21_49 : zP1 21 49 = some (.aload_n 0, 0, 0, 0) := zp_l zq_21 rfl
theorem p_21_50 : zP1 21 50 = some (.getfield 19, 1, 4, 0) := zp_r zq_21 rfl
theorem p_21_53 : zP1 21 53 = some (.aload_n 0, 0, 0, 0) := zp_l zq_21 rfl
theorem p_21_54 : zP1 21 54 = some (.getfield 49, 1, 5, 0) := zp_r zq_21 rfl
theorem p_21_57 : zP1 21 57 = some (.bipush 100, 0, 0, 0) := zp_l zq_21 rfl
theorem p_21_59 : zP1 21 59 = some (.iload_n 1, 0, 0, 0) := zp_l zq_21 rfl
theorem p_21_60 : zP1 21 60 = some (.imul, 0, 0, 0) := zp_l zq_21 rfl
theorem p_21_61 : zP1 21 61 = some (.iload_n 3, 0, 0, 0) := zp_l zq_21 rfl
theorem p_21_62 : zP1 21 62 = some (.iadd, 0, 0, 0) := zp_l zq_21 rfl
theorem p_21_63 : zP1 21 63 = some (.iastore, 0, 0, 0) := zp_l zq_21 rfl
theorem p_21_64 : zP1 21 64 = some (.aload_n 0, 0, 0, 0) := zp_l zq_21 rfl
theorem p_21_65 : zP1 21 65 = some (.dup, 0, 0, 0) := zp_l zq_21 rfl
theorem p_21_66 : zP1 21 66 = some (.getfield 49, 1, 5, 0) := zp_r zq_21 rfl
theorem p_21_69 : zP1 21 69 = some (.iconst 1, 0, 0, 0) := zp_l zq_21 rfl
theorem p_21_70 : zP1 21 70 = some (.iadd, 0, 0, 0) := zp_l zq_21 rfl
theorem p_21_71 : zP1 21 71 = some (.putfield 49, 1, 5, 0) := zp_r zq_21 rfl
theorem p_21_74 : zP1 21 74 = some (.aload_n 2, 0, 0, 0) := zp_l zq_21 rfl
theorem p_21_75 : zP1 21 75 = some (.getfield 84, 8, 5, 0) := zp_r zq_21 rfl
theorem p_21_78 : zP1 21 78 = some (.iload_n 3, 0, 0, 0) := zp_l zq_21 rfl
theorem p_21_79 : zP1 21 79 = some (.iaload, 0, 0, 0) := zp_l zq_21 rfl
theorem p_21_80 : zP1 21 80 = some (.istore 4, 0, 0, 0) := zp_l zq_21 rfl
theorem p_21_82 : zP1 21 82 = some (.iload 4, 0, 0, 0) := zp_l zq_21 rfl
theorem p_21_84 : zP1 21 84 = some (.ifCond .ne 13, 0, 0, 0) := zp_l zq_21 rfl
theorem p_21_87 : zP1 21 87 = some (.aload_n 0, 0, 0, 0) := zp_l zq_21 rfl
theorem p_21_88 : zP1 21 88 = some (.aload_n 2, 0, 0, 0) := zp_l zq_21 rfl
theorem p_21_89 : zP1 21 89 = some (.getfield 87, 8, 6, 0) := zp_r zq_21 rfl
theorem p_21_92 : zP1 21 92 = some (.iload_n 3, 0, 0, 0) := zp_l zq_21 rfl
theorem p_21_93 : zP1 21 93 = some (.iaload, 0, 0, 0) := zp_l zq_21 rfl
theorem p_21_94 : zP1 21 94 = some (.putfield 52, 1, 6, 0) := zp_r zq_21 rfl
theorem p_21_97 : zP1 21 97 = some (.iload 4, 0, 0, 0) := zp_l zq_21 rfl
theorem p_21_99 : zP1 21 99 = some (.iconst 3, 0, 0, 0) := zp_l zq_21 rfl
theorem p_21_100 : zP1 21 100 = some (.if_icmp .ne 13, 0, 0, 0) := zp_l zq_21 rfl
theorem p_21_103 : zP1 21 103 = some (.aload_n 0, 0, 0, 0) := zp_l zq_21 rfl
theorem p_21_104 : zP1 21 104 = some (.aload_n 2, 0, 0, 0) := zp_l zq_21 rfl
theorem p_21_105 : zP1 21 105 = some (.getfield 87, 8, 6, 0) := zp_r zq_21 rfl
theorem p_21_108 : zP1 21 108 = some (.iload_n 3, 0, 0, 0) := zp_l zq_21 rfl
theorem p_21_109 : zP1 21 109 = some (.iaload, 0, 0, 0) := zp_l zq_21 rfl
theorem p_21_110 : zP1 21 110 = some (.putfield 58, 1, 8, 0) := zp_r zq_21 rfl
theorem p_21_113 : zP1 21 113 = some (.iload 4, 0, 0, 0) := zp_l zq_21 rfl
theorem p_21_115 : zP1 21 115 = some (.iconst 1, 0, 0, 0) := zp_l zq_21 rfl
theorem p_21_116 : zP1 21 116 = some (.if_icmp .ne 8, 0, 0, 0) := zp_l zq_21 rfl
theorem p_21_119 : zP1 21 119 = some (.aload_n 0, 0, 0, 0) := zp_l zq_21 rfl
theorem p_21_120 : zP1 21 120 = some (.iconst 0, 0, 0, 0) := zp_l zq_21 rfl
theorem p_21_121 : zP1 21 121 = some (.putfield 55, 1, 7, 1) := zp_r zq_21 rfl
theorem p_21_124 : zP1 21 124 = some (.iload 4, 0, 0, 0) := zp_l zq_21 rfl
theorem p_21_126 : zP1 21 126 = some (.iconst 2, 0, 0, 0) := zp_l zq_21 rfl
theorem p_21_127 : zP1 21 127 = some (.if_icmp .ne 8, 0, 0, 0) := zp_l zq_21 rfl
theorem p_21_130 : zP1 21 130 = some (.aload_n 0, 0, 0, 0) := zp_l zq_21 rfl
theorem p_21_131 : zP1 21 131 = some (.iconst 1, 0, 0, 0) := zp_l zq_21 rfl
theorem p_21_132 : zP1 21 132 = some (.putfield 55, 1, 7, 1) := zp_r zq_21 rfl
theorem p_21_135 : zP1 21 135 = some (.iinc 3 1, 0, 0, 0) := zp_l zq_21 rfl
theorem p_21_138 : zP1 21 138 = some (.goto (-115), 0, 0, 0) := zp_l zq_21 rfl
theorem p_21_141 : zP1 21 141 = some (.return_, 0, 0, 0) := zp_l zq_21 rfl
theorem b_21_0 {x1 : Int} : Z e d 21 0 [.ref 202, .int (iI x1), .retAddr 0, .retAddr 0, .retAddr 0] [] m = (if ((wr x1) < 0) ∨ (12 ≤ (wr x1)) then rn m else ck (0 ≤ (wr x1) ∧ (wr x1) < 12) (Z e d 21 23 [.ref 202, .int (iI x1), .ref (18 + 6 * (wr x1).toNat), .int (iI 0), .retAddr 0] [] m)) := (s_il_1 p_21_0).trans <| Eq.trans (Eq.trans (s_z_lt_t p_21_1 rfl rfl) <| Eq.trans (ite_cg rfl ((s_il_1 p_21_4).trans <| (s_bip p_21_5 rfl).trans <| (s_c_lt_f p_21_7 rfl rfl wl_12))) co_or) <| ite_cg ((s_retv p_21_10 (zM_of zq_21))) ((s_al_0 p_21_11).trans <| (s_getr p_21_12 hs_202 (by decide) rfl).trans <| (s_getr p_21_15 hs_1 (by decide) rfl).trans <| (s_il_1 p_21_18).trans <| (s_aald 12 p_21_19 hs_3 rfl ⟨by decide, by decide⟩ ar_3).trans <| ck_cg fun k1 => (s_as_2 cat_i p_21_20).trans <| (s_const p_21_21).trans <| (s_is_3 cat_r p_21_22).trans <| rfl)
theorem b_21_23 {x1 : Int} {a2 : Nat} {x3 : Int} {u4 : Value} (hV2 : zVer a2) : Z e d 21 23 [.ref 202, .int (iI x1), .ref a2, .int (iI x3), u4] [] m = (if ((wr x3) < (wr (m a2 3))) ∧ (((wr x3) < 10) ∧ ((wr (m 202 5)) < 30)) then ck (0 ≤ (wr (m 202 5)) ∧ (wr (m 202 5)) < 30) (ck (0 ≤ (wr x3) ∧ (wr x3) < 10) ((if (wr ((um (um m 203 (wr (m 202 5)) ((100 * x1) + x3)) 202 5 (((um m 203 (wr (m 202 5)) ((100 * x1) + x3)) 202 5) + 1)) (a2 + 1) (wr x3))) = 0 then ck (0 ≤ (wr x3) ∧ (wr x3) < 10) (Z e d 21 97 [.ref 202, .int (iI x1), .ref a2, .int (iI x3), .int (iI ((um (um m 203 (wr (m 202 5)) ((100 * x1) + x3)) 202 5 (((um m 203 (wr (m 202 5)) ((100 * x1) + x3)) 202 5) + 1)) (a2 + 1) (wr x3)))] [] (um (um (um m 203 (wr (m 202 5)) ((100 * x1) + x3)) 202 5 (((um m 203 (wr (m 202 5)) ((100 * x1) + x3)) 202 5) + 1)) 202 6 ((um (um m 203 (wr (m 202 5)) ((100 * x1) + x3)) 202 5 (((um m 203 (wr (m 202 5)) ((100 * x1) + x3)) 202 5) + 1)) (a2 + 2) (wr x3)))) else Z e d 21 97 [.ref 202, .int (iI x1), .ref a2, .int (iI x3), .int (iI ((um (um m 203 (wr (m 202 5)) ((100 * x1) + x3)) 202 5 (((um m 203 (wr (m 202 5)) ((100 * x1) + x3)) 202 5) + 1)) (a2 + 1) (wr x3)))] [] (um (um m 203 (wr (m 202 5)) ((100 * x1) + x3)) 202 5 (((um m 203 (wr (m 202 5)) ((100 * x1) + x3)) 202 5) + 1))))) else rn m) := (s_il_3 p_21_23).trans <| (s_al_2 p_21_24).trans <| (s_get p_21_25 (hV2).1 (by decide) rfl).trans <| Eq.trans (Eq.trans (s_c_ge_f p_21_28 rfl rfl rfl) <| Eq.trans (ite_cg ((s_il_3 p_21_31).trans <| (s_bip p_21_32 rfl).trans <| Eq.trans (s_c_ge_f p_21_34 rfl rfl wl_10) <| Eq.trans (ite_cg ((s_al_0 p_21_37).trans <| (s_get p_21_38 hs_202 (by decide) rfl).trans <| (s_al_0 p_21_41).trans <| (s_getr p_21_42 hs_202 (by decide) rfl).trans <| (s_len 30 p_21_45 hs_203 rfl (by decide)).trans <| (s_c_ge_f p_21_46 rfl rfl wl_30)) rfl) co_and) rfl) co_and) <| ite_cg ((s_al_0 p_21_49).trans <| (s_getr p_21_50 hs_202 (by decide) rfl).trans <| (s_al_0 p_21_53).trans <| (s_get p_21_54 hs_202 (by decide) rfl).trans <| (s_bip p_21_57 rfl).trans <| (s_il_1 p_21_59).trans <| (s_imul p_21_60).trans <| (s_il_3 p_21_61).trans <| (s_iadd p_21_62).trans <| (s_ast 30 p_21_63 hs_203 rfl).trans <| ck_cg fun k1 => (s_al_0 p_21_64).trans <| (s_dup cat_r p_21_65).trans <| (s_get p_21_66 hs_202 (by decide) rfl).trans <| (s_const p_21_69).trans <| (s_iadd p_21_70).trans <| (s_put p_21_71 hs_202 (by decide) rfl).trans <| (s_al_2 p_21_74).trans <| (s_getr p_21_75 (hV2).1 (by decide) rfl).trans <| (s_il_3 p_21_78).trans <| (s_ald 10 p_21_79 (hV2).2.1 rfl (zV_1 (hV2))).trans <| ck_cg fun k2 => (s_is_4 cat_i p_21_80).trans <| (s_il_4 p_21_82).trans <| Eq.trans ((s_z_ne_f p_21_84 rfl rfl)) <| ite_cg ((s_al_0 p_21_87).trans <| (s_al_2 p_21_88).trans <| (s_getr p_21_89 (hV2).1 (by decide) rfl).trans <| (s_il_3 p_21_92).trans <| (s_ald 10 p_21_93 (hV2).2.2.1 rfl (zV_2 (hV2))).trans <| ck_cg fun k4 => (s_put p_21_94 hs_202 (by decide) rfl).trans <| rfl) (rfl)) ((s_retv p_21_141 (zM_of zq_21)))
theorem b_21_97 {x1 : Int} {a2 : Nat} {x3 : Int} {x4 : Int} (hV2 : zVer a2) : Z e d 21 97 [.ref 202, .int (iI x1), .ref a2, .int (iI x3), .int (iI x4)] [] m = (if (wr x4) = 3 then ck (0 ≤ (wr x3) ∧ (wr x3) < 10) (Z e d 21 113 [.ref 202, .int (iI x1), .ref a2, .int (iI x3), .int (iI x4)] [] (um m 202 8 (m (a2 + 2) (wr x3)))) else Z e d 21 113 [.ref 202, .int (iI x1), .ref a2, .int (iI x3), .int (iI x4)] [] m) := (s_il_4 p_21_97).trans <| (s_const p_21_99).trans <| Eq.trans ((s_c_ne_f p_21_100 rfl rfl wl_3)) <| ite_cg ((s_al_0 p_21_103).trans <| (s_al_2 p_21_104).trans <| (s_getr p_21_105 (hV2).1 (by decide) rfl).trans <| (s_il_3 p_21_108).trans <| (s_ald 10 p_21_109 (hV2).2.2.1 rfl (zV_2 (hV2))).trans <| ck_cg fun k2 => (s_put p_21_110 hs_202 (by decide) rfl).trans <| rfl) (rfl)
theorem b_21_113 {x1 : Int} {a2 : Nat} {x3 : Int} {x4 : Int} (hV2 : zVer a2) : Z e d 21 113 [.ref 202, .int (iI x1), .ref a2, .int (iI x3), .int (iI x4)] [] m = (if (wr x4) = 1 then Z e d 21 124 [.ref 202, .int (iI x1), .ref a2, .int (iI x3), .int (iI x4)] [] (um m 202 7 0) else Z e d 21 124 [.ref 202, .int (iI x1), .ref a2, .int (iI x3), .int (iI x4)] [] m) := (s_il_4 p_21_113).trans <| (s_const p_21_115).trans <| Eq.trans ((s_c_ne_f p_21_116 rfl rfl wl_1)) <| ite_cg ((s_al_0 p_21_119).trans <| (s_const p_21_120).trans <| (s_putk p_21_121 rfl hs_202 (by decide) rfl).trans <| rfl) (rfl)
theorem b_21_124 {x1 : Int} {a2 : Nat} {x3 : Int} {x4 : Int} (hV2 : zVer a2) : Z e d 21 124 [.ref 202, .int (iI x1), .ref a2, .int (iI x3), .int (iI x4)] [] m = (if (wr x4) = 2 then Z e d 21 23 [.ref 202, .int (iI x1), .ref a2, .int (iI (x3 + 1)), .int (iI x4)] [] (um m 202 7 1) else Z e d 21 23 [.ref 202, .int (iI x1), .ref a2, .int (iI (x3 + 1)), .int (iI x4)] [] m) := (s_il_4 p_21_124).trans <| (s_const p_21_126).trans <| Eq.trans ((s_c_ne_f p_21_127 rfl rfl wl_2)) <| ite_cg ((s_al_0 p_21_130).trans <| (s_const p_21_131).trans <| (s_putk p_21_132 rfl hs_202 (by decide) rfl).trans <| (s_inc_3 cat_r p_21_135).trans <| (s_goto p_21_138 rfl).trans <| rfl) ((s_inc_3 cat_r p_21_135).trans <| (s_goto p_21_138 rfl).trans <| rfl)
-- Version.isInForce
theorem p_114_0 : zP1 114 0 = some (.aload_n 0, 0, 0, 0) := zp_l zq_114 rfl
theorem p_114_1 : zP1 114 1 = some (.getfield 37, 8, 1, 0) := zp_r zq_114 rfl
theorem p_114_4 : zP1 114 4 = some (.iload_n 1, 0, 0, 0) := zp_l zq_114 rfl
theorem p_114_5 : zP1 114 5 = some (.if_icmp .gt 24, 0, 0, 0) := zp_l zq_114 rfl
theorem p_114_8 : zP1 114 8 = some (.aload_n 0, 0, 0, 0) := zp_l zq_114 rfl
theorem p_114_9 : zP1 114 9 = some (.getfield 40, 8, 2, 0) := zp_r zq_114 rfl
theorem p_114_12 : zP1 114 12 = some (.bipush (-3), 0, 0, 0) := zp_l zq_114 rfl
theorem p_114_14 : zP1 114 14 = some (.if_icmp .eq 11, 0, 0, 0) := zp_l zq_114 rfl
theorem p_114_17 : zP1 114 17 = some (.iload_n 1, 0, 0, 0) := zp_l zq_114 rfl
theorem p_114_18 : zP1 114 18 = some (.aload_n 0, 0, 0, 0) := zp_l zq_114 rfl
theorem p_114_19 : zP1 114 19 = some (.getfield 40, 8, 2, 0) := zp_r zq_114 rfl
theorem p_114_22 : zP1 114 22 = some (.if_icmp .ge 7, 0, 0, 0) := zp_l zq_114 rfl
theorem p_114_25 : zP1 114 25 = some (.iconst 1, 0, 0, 0) := zp_l zq_114 rfl
theorem p_114_26 : zP1 114 26 = some (.goto 4, 0, 0, 0) := zp_l zq_114 rfl
theorem p_114_29 : zP1 114 29 = some (.iconst 0, 0, 0, 0) := zp_l zq_114 rfl
theorem p_114_30 : zP1 114 30 = some (.ireturn, 0, 0, 0) := zp_l zq_114 rfl
theorem b_114_0 {a : Nat} {x1 : Int} (hV : zVer a) : Z e d 114 0 [.ref a, .int (iI x1)] [] m = ri (if ((wr (m a 1)) ≤ (wr x1)) ∧ (((wr (m a 2)) = (-3)) ∨ ((wr x1) < (wr (m a 2)))) then 1 else 0) m := (s_al_0 p_114_0).trans <| (s_get p_114_1 (hV).1 (by decide) rfl).trans <| (s_il_1 p_114_4).trans <| Eq.trans (Eq.trans (Eq.trans (s_c_gt_f p_114_5 rfl rfl rfl) <| Eq.trans (ite_cg ((s_al_0 p_114_8).trans <| (s_get p_114_9 (hV).1 (by decide) rfl).trans <| (s_bip p_114_12 rfl).trans <| Eq.trans (s_c_eq_t p_114_14 rfl rfl wl_m3) <| Eq.trans (ite_cg rfl ((s_il_1 p_114_17).trans <| (s_al_0 p_114_18).trans <| (s_get p_114_19 (hV).1 (by decide) rfl).trans <| (s_c_ge_f p_114_22 rfl rfl rfl))) co_or) rfl) co_and) <| Eq.trans (ite_cg ((s_const p_114_25).trans <| (s_goto p_114_26 rfl).trans <| rfl) ((s_const p_114_29).trans <| rfl)) (phi1 (fun z0 => Z e d 114 30 [.ref a, .int (iI x1)] [.int (iI z0)] m))) <| (s_retb p_114_30 (zM_of zq_114))
-- Law.gather
theorem p_20_0 : zP1 20 0 = some (.aload_n 0, 0, 0, 0) := zp_l zq_20 rfl
theorem p_20_1 : zP1 20 1 = some (.iconst 0, 0, 0, 0) := zp_l zq_20 rfl
theorem p_20_2 : zP1 20 2 = some (.putfield 49, 1, 5, 0) := zp_r zq_20 rfl
theorem p_20_5 : zP1 20 5 = some (.aload_n 0, 0, 0, 0) := zp_l zq_20 rfl
theorem p_20_6 : zP1 20 6 = some (.iconst 3, 0, 0, 0) := zp_l zq_20 rfl
theorem p_20_7 : zP1 20 7 = some (.putfield 52, 1, 6, 0) := zp_r zq_20 rfl
theorem p_20_10 : zP1 20 10 = some (.aload_n 0, 0, 0, 0) := zp_l zq_20 rfl
theorem p_20_11 : zP1 20 11 = some (.iconst 0, 0, 0, 0) := zp_l zq_20 rfl
theorem p_20_12 : zP1 20 12 = some (.putfield 55, 1, 7, 1) := zp_r zq_20 rfl
theorem p_20_15 : zP1 20 15 = some (.aload_n 0, 0, 0, 0) := zp_l zq_20 rfl
theorem p_20_16 : zP1 20 16 = some (.bipush 40, 0, 0, 0) := zp_l zq_20 rfl
theorem p_20_18 : zP1 20 18 = some (.putfield 58, 1, 8, 0) := zp_r zq_20 rfl
theorem p_20_21 : zP1 20 21 = some (.aload_n 0, 0, 0, 0) := zp_l zq_20 rfl
theorem p_20_22 : zP1 20 22 = some (.getfield 15, 1, 3, 0) := zp_r zq_20 rfl
theorem p_20_25 : zP1 20 25 = some (.bipush (-3), 0, 0, 0) := zp_l zq_20 rfl
theorem p_20_27 : zP1 20 27 = some (.if_icmp .eq 12, 0, 0, 0) := zp_l zq_20 rfl
theorem p_20_30 : zP1 20 30 = some (.aload_n 0, 0, 0, 0) := zp_l zq_20 rfl
theorem p_20_31 : zP1 20 31 = some (.aload_n 0, 0, 0, 0) := zp_l zq_20 rfl
theorem p_20_32 : zP1 20 32 = some (.getfield 15, 1, 3, 0) := zp_r zq_20 rfl
theorem p_20_35 : zP1 20 35 = some (.invokevirtual 61, 21, 1, 1) := zp_r zq_20 rfl
theorem p_20_38 : zP1 20 38 = some (.return_, 0, 0, 0) := zp_l zq_20 rfl
theorem p_20_39 : zP1 20 39 = some (.iconst 0, 0, 0, 0) := zp_l zq_20 rfl
theorem p_20_40 : zP1 20 40 = some (.istore_n 2, 0, 0, 0) := zp_l zq_20 rfl
theorem p_20_41 : zP1 20 41 = some (.iload_n 2, 0, 0, 0) := zp_l zq_20 rfl
theorem p_20_42 : zP1 20 42 = some (.iconst 3, 0, 0, 0) := zp_l zq_20 rfl
theorem p_20_43 : zP1 20 43 = some (.if_icmp .ge 68, 0, 0, 0) := zp_l zq_20 rfl
theorem p_20_46 : zP1 20 46 = some (.iconst 0, 0, 0, 0) := zp_l zq_20 rfl
theorem p_20_47 : zP1 20 47 = some (.istore_n 3, 0, 0, 0) := zp_l zq_20 rfl
theorem p_20_48 : zP1 20 48 = some (.iload_n 3, 0, 0, 0) := zp_l zq_20 rfl
theorem p_20_49 : zP1 20 49 = some (.aload_n 0, 0, 0, 0) := zp_l zq_20 rfl
theorem p_20_50 : zP1 20 50 = some (.getfield 29, 1, 0, 0) := zp_r zq_20 rfl
theorem p_20_53 : zP1 20 53 = some (.getfield 64, 9, 2, 0) := zp_r zq_20 rfl
theorem p_20_56 : zP1 20 56 = some (.if_icmp .ge 49, 0, 0, 0) := zp_l zq_20 rfl
theorem p_20_59 : zP1 20 59 = some (.iload_n 3, 0, 0, 0) := zp_l zq_20 rfl
theorem p_20_60 : zP1 20 60 = some (.bipush 12, 0, 0, 0) := zp_l zq_20 rfl
theorem p_20_62 : zP1 20 62 = some (.if_icmp .ge 43, 0, 0, 0) := zp_l zq_20 rfl
theorem p_20_65 : zP1 20 65 = some (.aload_n 0, 0, 0, 0) := zp_l zq_20 rfl
theorem p_20_66 : zP1 20 66 = some (.getfield 29, 1, 0, 0) := zp_r zq_20 rfl
theorem p_20_69 : zP1 20 69 = some (.getfield 69, 9, 4, 0) := zp_r zq_20 rfl
theorem p_20_72 : zP1 20 72 = some (.iload_n 3, 0, 0, 0) := zp_l zq_20 rfl
theorem p_20_73 : zP1 20 73 = some (.aaload, 0, 0, 0) := zp_l zq_20 rfl
theorem p_20_74 : zP1 20 74 = some (.astore 4, 0, 0, 0) := zp_l zq_20 rfl
theorem p_20_76 : zP1 20 76 = some (.aload 4, 0, 0, 0) := zp_l zq_20 rfl
theorem p_20_78 : zP1 20 78 = some (.getfield 73, 8, 0, 0) := zp_r zq_20 rfl
theorem p_20_81 : zP1 20 81 = some (.iload_n 2, 0, 0, 0) := zp_l zq_20 rfl
theorem p_20_82 : zP1 20 82 = some (.if_icmp .ne 17, 0, 0, 0) := zp_l zq_20 rfl
theorem p_20_85 : zP1 20 85 = some (.aload 4, 0, 0, 0) := zp_l zq_20 rfl
theorem p_20_87 : zP1 20 87 = some (.iload_n 1, 0, 0, 0) := zp_l zq_20 rfl
theorem p_20_88 : zP1 20 88 = some (.invokevirtual 78, 114, 1, 8) := zp_r zq_20 rfl
theorem p_20_91 : zP1 20 91 = some (.ifCond .eq 8, 0, 0, 0) := zp_l zq_20 rfl
theorem p_20_94 : zP1 20 94 = some (.aload_n 0, 0, 0, 0) := zp_l zq_20 rfl
theorem p_20_95 : zP1 20 95 = some (.iload_n 3, 0, 0, 0) := zp_l zq_20 rfl
theorem p_20_96 : zP1 20 96 = some (.invokevirtual 61, 21, 1, 1) := zp_r zq_20 rfl
theorem p_20_99 : zP1 20 99 = some (.iinc 3 1, 0, 0, 0) := zp_l zq_20 rfl
theorem p_20_102 : zP1 20 102 = some (.goto (-54), 0, 0, 0) := zp_l zq_20 rfl
theorem p_20_105 : zP1 20 105 = some (.iinc 2 1, 0, 0, 0) := zp_l zq_20 rfl
theorem p_20_108 : zP1 20 108 = some (.goto (-67), 0, 0, 0) := zp_l zq_20 rfl
theorem p_20_111 : zP1 20 111 = some (.return_, 0, 0, 0) := zp_l zq_20 rfl
theorem b_20_0 {x1 : Int} : Z e (d + 1) 20 0 [.ref 202, .int (iI x1), .retAddr 0, .retAddr 0, .retAddr 0] [] m = (if ¬ (wr ((um (um (um (um m 202 5 0) 202 6 3) 202 7 0) 202 8 40) 202 3)) = (-3) then (Z e d 21 0 [.ref 202, .int (iI ((um (um (um (um m 202 5 0) 202 6 3) 202 7 0) 202 8 40) 202 3)), .retAddr 0, .retAddr 0, .retAddr 0] [] (um (um (um (um m 202 5 0) 202 6 3) 202 7 0) 202 8 40)).bind (ZK e (d + 1) 20 38 [.ref 202, .int (iI x1), .retAddr 0, .retAddr 0, .retAddr 0] [] (um (um (um (um m 202 5 0) 202 6 3) 202 7 0) 202 8 40)) else Z e (d + 1) 20 41 [.ref 202, .int (iI x1), .int (iI 0), .retAddr 0, .retAddr 0] [] (um (um (um (um m 202 5 0) 202 6 3) 202 7 0) 202 8 40)) := (s_al_0 p_20_0).trans <| (s_const p_20_1).trans <| (s_put p_20_2 hs_202 (by decide) rfl).trans <| (s_al_0 p_20_5).trans <| (s_const p_20_6).trans <| (s_put p_20_7 hs_202 (by decide) rfl).trans <| (s_al_0 p_20_10).trans <| (s_const p_20_11).trans <| (s_putk p_20_12 rfl hs_202 (by decide) rfl).trans <| (s_al_0 p_20_15).trans <| (s_bip p_20_16 rfl).trans <| (s_put p_20_18 hs_202 (by decide) rfl).trans <| (s_al_0 p_20_21).trans <| (s_get p_20_22 hs_202 (by decide) rfl).trans <| (s_bip p_20_25 rfl).trans <| Eq.trans ((s_c_eq_f p_20_27 rfl rfl wl_m3)) <| ite_cg ((s_al_0 p_20_30).trans <| (s_al_0 p_20_31).trans <| (s_get p_20_32 hs_202 (by decide) rfl).trans <| (s_cv1 (Lc := [.ref 202, .int (iI ((um (um (um (um m 202 5 0) 202 6 3) 202 7 0) 202 8 40) 202 3)), .retAddr 0, .retAddr 0, .retAddr 0]) p_20_35 (by decide) (by decide) (zM_of zq_21) ⟨Nat.le_of_ble_eq_true rfl, Nat.le_of_ble_eq_true rfl⟩ rfl (m_rc hs_202 ⟨rfl, by decide⟩))) ((s_const p_20_39).trans <| (s_is_2 cat_i p_20_40).trans <| rfl)
theorem b_20_41 {x1 : Int} {x2 : Int} {u3 u4 : Value} : Z e (d + 1) 20 41 [.ref 202, .int (iI x1), .int (iI x2), u3, u4] [] m = (if (wr x2) < 3 then Z e (d + 1) 20 48 [.ref 202, .int (iI x1), .int (iI x2), .int (iI 0), u4] [] m else rn m) := (s_il_2 p_20_41).trans <| (s_const p_20_42).trans <| Eq.trans ((s_c_ge_f p_20_43 rfl rfl wl_3)) <| ite_cg ((s_const p_20_46).trans <| (s_is_3 cat_i p_20_47).trans <| rfl) ((s_retv p_20_111 (zM_of zq_20)))
theorem b_20_48 {x1 : Int} {x2 : Int} {x3 : Int} {u4 : Value} : Z e (d + 1) 20 48 [.ref 202, .int (iI x1), .int (iI x2), .int (iI x3), u4] [] m = (if ((wr x3) < (wr (m 1 2))) ∧ ((wr x3) < 12) then ck (0 ≤ (wr x3) ∧ (wr x3) < 12) ((if ((wr (m (18 + 6 * (wr x3).toNat) 0)) = (wr x2)) ∧ (((wr (m (18 + 6 * (wr x3).toNat) 1)) ≤ (wr x1)) ∧ (((wr (m (18 + 6 * (wr x3).toNat) 2)) = (-3)) ∨ ((wr x1) < (wr (m (18 + 6 * (wr x3).toNat) 2))))) then (Z e d 21 0 [.ref 202, .int (iI x3), .retAddr 0, .retAddr 0, .retAddr 0] [] m).bind (ZK e (d + 1) 20 99 [.ref 202, .int (iI x1), .int (iI x2), .int (iI x3), .ref (18 + 6 * (wr x3).toNat)] [] m) else Z e (d + 1) 20 99 [.ref 202, .int (iI x1), .int (iI x2), .int (iI x3), .ref (18 + 6 * (wr x3).toNat)] [] m)) else Z e (d + 1) 20 41 [.ref 202, .int (iI x1), .int (iI (x2 + 1)), .int (iI x3), u4] [] m) := (s_il_3 p_20_48).trans <| (s_al_0 p_20_49).trans <| (s_getr p_20_50 hs_202 (by decide) rfl).trans <| (s_get p_20_53 hs_1 (by decide) rfl).trans <| Eq.trans (Eq.trans (s_c_ge_f p_20_56 rfl rfl rfl) <| Eq.trans (ite_cg ((s_il_3 p_20_59).trans <| (s_bip p_20_60 rfl).trans <| (s_c_ge_f p_20_62 rfl rfl wl_12)) rfl) co_and) <| ite_cg ((s_al_0 p_20_65).trans <| (s_getr p_20_66 hs_202 (by decide) rfl).trans <| (s_getr p_20_69 hs_1 (by decide) rfl).trans <| (s_il_3 p_20_72).trans <| (s_aald 12 p_20_73 hs_3 rfl ⟨by decide, by decide⟩ ar_3).trans <| ck_cg fun k2 => (s_as_4 cat_i p_20_74).trans <| (s_al_4 p_20_76).trans <| (s_get p_20_78 (zVer_0 k2).1 (by decide) rfl).trans <| (s_il_2 p_20_81).trans <| Eq.trans (Eq.trans (s_c_ne_f p_20_82 rfl rfl rfl) <| Eq.trans (ite_cg ((s_al_4 p_20_85).trans <| (s_il_1 p_20_87).trans <| (s_cv1 (Lc := [.ref (18 + 6 * (wr x3).toNat), .int (iI x1)]) p_20_88 (by decide) (by decide) (zM_of zq_114) ⟨Nat.le_of_ble_eq_true rfl, Nat.le_of_ble_eq_true rfl⟩ rfl (m_rc (zVer_0 k2).1 ⟨rfl, by decide⟩)).trans <| (bd (b_114_0 (zVer_0 k2))).trans <| ri_k.trans <| (s_beq_f p_20_91 rfl)) rfl) co_and) <| ite_cg ((s_al_0 p_20_94).trans <| (s_il_3 p_20_95).trans <| (s_cv1 (Lc := [.ref 202, .int (iI x3), .retAddr 0, .retAddr 0, .retAddr 0]) p_20_96 (by decide) (by decide) (zM_of zq_21) ⟨Nat.le_of_ble_eq_true rfl, Nat.le_of_ble_eq_true rfl⟩ rfl (m_rc hs_202 ⟨rfl, by decide⟩))) (rfl)) ((s_inc_2 cat_i p_20_105).trans <| (s_goto p_20_108 rfl).trans <| rfl)
theorem b_20_38 {u0 u1 u2 u3 u4 : Value} : Z e (d + 1) 20 38 [u0, u1, u2, u3, u4] [] m = rn m := (s_retv p_20_38 (zM_of zq_20))
theorem b_20_99 {x1 : Int} {x2 : Int} {x3 : Int} {u4 : Value} : Z e (d + 1) 20 99 [.ref 202, .int (iI x1), .int (iI x2), .int (iI x3), u4] [] m = Z e (d + 1) 20 48 [.ref 202, .int (iI x1), .int (iI x2), .int (iI (x3 + 1)), u4] [] m := (s_inc_3 cat_i p_20_99).trans <| (s_goto p_20_102 rfl).trans <| rfl
-- Math.abs
theorem p_323_0 : zP1 323 0 = some (.iload_n 0, 0, 0, 0) := zp_l zq_323 rfl
theorem p_323_1 : zP1 323 1 = some (.ifCond .ge 8, 0, 0, 0) := zp_l zq_323 rfl
theorem p_323_4 : zP1 323 4 = some (.iload_n 0, 0, 0, 0) := zp_l zq_323 rfl
theorem p_323_5 : zP1 323 5 = some (.ineg, 0, 0, 0) := zp_l zq_323 rfl
theorem p_323_6 : zP1 323 6 = some (.goto 4, 0, 0, 0) := zp_l zq_323 rfl
theorem p_323_9 : zP1 323 9 = some (.iload_n 0, 0, 0, 0) := zp_l zq_323 rfl
theorem p_323_10 : zP1 323 10 = some (.ireturn, 0, 0, 0) := zp_l zq_323 rfl
theorem b_323_0 {x0 : Int} : Z e d 323 0 [.int (iI x0)] [] m = ri (if (wr x0) < 0 then (-x0) else x0) m := (s_il_0 p_323_0).trans <| Eq.trans (Eq.trans ((s_z_ge_f p_323_1 rfl rfl)) <| Eq.trans (ite_cg ((s_il_0 p_323_4).trans <| (s_ineg p_323_5).trans <| (s_goto p_323_6 rfl).trans <| rfl) ((s_il_0 p_323_9).trans <| rfl)) (phi1 (fun z0 => Z e d 323 10 [.int (iI x0)] [.int (iI z0)] m))) <| (s_reti p_323_10 (zM_of zq_323))
-- World.far
theorem p_121_0 : zP1 121 0 = some (.iload_n 0, 0, 0, 0) := zp_l zq_121 rfl
theorem p_121_1 : zP1 121 1 = some (.bipush 10, 0, 0, 0) := zp_l zq_121 rfl
theorem p_121_3 : zP1 121 3 = some (.idiv, 0, 0, 0) := zp_l zq_121 rfl
theorem p_121_4 : zP1 121 4 = some (.iload_n 1, 0, 0, 0) := zp_l zq_121 rfl
theorem p_121_5 : zP1 121 5 = some (.bipush 10, 0, 0, 0) := zp_l zq_121 rfl
theorem p_121_7 : zP1 121 7 = some (.idiv, 0, 0, 0) := zp_l zq_121 rfl
theorem p_121_8 : zP1 121 8 = some (.isub, 0, 0, 0) := zp_l zq_121 rfl
theorem p_121_9 : zP1 121 9 = some (.invokestatic 80, 323, 1, 0) := zp_r zq_121 rfl
theorem p_121_12 : zP1 121 12 = some (.iload_n 0, 0, 0, 0) := zp_l zq_121 rfl
theorem p_121_13 : zP1 121 13 = some (.bipush 10, 0, 0, 0) := zp_l zq_121 rfl
theorem p_121_15 : zP1 121 15 = some (.irem, 0, 0, 0) := zp_l zq_121 rfl
theorem p_121_16 : zP1 121 16 = some (.iload_n 1, 0, 0, 0) := zp_l zq_121 rfl
theorem p_121_17 : zP1 121 17 = some (.bipush 10, 0, 0, 0) := zp_l zq_121 rfl
theorem p_121_19 : zP1 121 19 = some (.irem, 0, 0, 0) := zp_l zq_121 rfl
theorem p_121_20 : zP1 121 20 = some (.isub, 0, 0, 0) := zp_l zq_121 rfl
theorem p_121_21 : zP1 121 21 = some (.invokestatic 80, 323, 1, 0) := zp_r zq_121 rfl
theorem p_121_24 : zP1 121 24 = some (.iadd, 0, 0, 0) := zp_l zq_121 rfl
theorem p_121_25 : zP1 121 25 = some (.ireturn, 0, 0, 0) := zp_l zq_121 rfl
theorem b_121_0 {x0 : Int} {x1 : Int} : Z e (d + 1) 121 0 [.int (iI x0), .int (iI x1)] [] m = ri (jfar x0 x1) m := (s_il_0 p_121_0).trans <| (s_bip p_121_1 rfl).trans <| (s_idivc p_121_3 (by decide)).trans <| (s_il_1 p_121_4).trans <| (s_bip p_121_5 rfl).trans <| (s_idivc p_121_7 (by decide)).trans <| (s_isub p_121_8).trans <| (s_cs1 (Lc := [.int (iI ((jdiv x0 10) - (jdiv x1 10)))]) p_121_9 (by decide) (zM_of zq_323) ⟨Nat.le_of_ble_eq_true rfl, Nat.le_of_ble_eq_true rfl⟩ rfl).trans <| (bd b_323_0).trans <| ri_k.trans <| (s_il_0 p_121_12).trans <| (s_bip p_121_13 rfl).trans <| (s_iremc p_121_15 (by decide)).trans <| (s_il_1 p_121_16).trans <| (s_bip p_121_17 rfl).trans <| (s_iremc p_121_19 (by decide)).trans <| (s_isub p_121_20).trans <| (s_cs1 (Lc := [.int (iI ((jrem x0 10) - (jrem x1 10)))]) p_121_21 (by decide) (zM_of zq_323) ⟨Nat.le_of_ble_eq_true rfl, Nat.le_of_ble_eq_true rfl⟩ rfl).trans <| (bd b_323_0).trans <| ri_k.trans <| (s_iadd p_121_24).trans <| (s_reti p_121_25 (zM_of zq_121))
-- Law.stonesAbout
theorem p_22_0 : zP1 22 0 = some (.iconst 0, 0, 0, 0) := zp_l zq_22 rfl
theorem p_22_1 : zP1 22 1 = some (.istore_n 2, 0, 0, 0) := zp_l zq_22 rfl
theorem p_22_2 : zP1 22 2 = some (.iconst 0, 0, 0, 0) := zp_l zq_22 rfl
theorem p_22_3 : zP1 22 3 = some (.istore_n 3, 0, 0, 0) := zp_l zq_22 rfl
theorem p_22_4 : zP1 22 4 = some (.iload_n 3, 0, 0, 0) := zp_l zq_22 rfl
theorem p_22_5 : zP1 22 5 = some (.aload_n 0, 0, 0, 0) := zp_l zq_22 rfl
theorem p_22_6 : zP1 22 6 = some (.getfield 29, 1, 0, 0) := zp_r zq_22 rfl
theorem p_22_9 : zP1 22 9 = some (.getfield 90, 9, 6, 0) := zp_r zq_22 rfl
theorem p_22_12 : zP1 22 12 = some (.getfield 94, 7, 3, 0) := zp_r zq_22 rfl
theorem p_22_15 : zP1 22 15 = some (.if_icmp .ge 80, 0, 0, 0) := zp_l zq_22 rfl
theorem p_22_18 : zP1 22 18 = some (.iload_n 3, 0, 0, 0) := zp_l zq_22 rfl
theorem p_22_19 : zP1 22 19 = some (.bipush 6, 0, 0, 0) := zp_l zq_22 rfl
theorem p_22_21 : zP1 22 21 = some (.if_icmp .ge 74, 0, 0, 0) := zp_l zq_22 rfl
theorem p_22_24 : zP1 22 24 = some (.aload_n 0, 0, 0, 0) := zp_l zq_22 rfl
theorem p_22_25 : zP1 22 25 = some (.getfield 29, 1, 0, 0) := zp_r zq_22 rfl
theorem p_22_28 : zP1 22 28 = some (.getfield 90, 9, 6, 0) := zp_r zq_22 rfl
theorem p_22_31 : zP1 22 31 = some (.iload_n 3, 0, 0, 0) := zp_l zq_22 rfl
theorem p_22_32 : zP1 22 32 = some (.iconst 0, 0, 0, 0) := zp_l zq_22 rfl
theorem p_22_33 : zP1 22 33 = some (.invokevirtual 97, 104, 2, 7) := zp_r zq_22 rfl
theorem p_22_36 : zP1 22 36 = some (.istore 4, 0, 0, 0) := zp_l zq_22 rfl
theorem p_22_38 : zP1 22 38 = some (.aload_n 0, 0, 0, 0) := zp_l zq_22 rfl
theorem p_22_39 : zP1 22 39 = some (.getfield 55, 1, 7, 0) := zp_r zq_22 rfl
theorem p_22_42 : zP1 22 42 = some (.ifCond .eq 12, 0, 0, 0) := zp_l zq_22 rfl
theorem p_22_45 : zP1 22 45 = some (.iload 4, 0, 0, 0) := zp_l zq_22 rfl
theorem p_22_47 : zP1 22 47 = some (.iload_n 1, 0, 0, 0) := zp_l zq_22 rfl
theorem p_22_48 : zP1 22 48 = some (.invokestatic 101, 121, 2, 0) := zp_r zq_22 rfl
theorem p_22_51 : zP1 22 51 = some (.goto 14, 0, 0, 0) := zp_l zq_22 rfl
theorem p_22_54 : zP1 22 54 = some (.aload_n 0, 0, 0, 0) := zp_l zq_22 rfl
theorem p_22_55 : zP1 22 55 = some (.getfield 33, 1, 1, 0) := zp_r zq_22 rfl
theorem p_22_58 : zP1 22 58 = some (.getfield 104, 5, 4, 0) := zp_r zq_22 rfl
theorem p_22_61 : zP1 22 61 = some (.iload_n 3, 0, 0, 0) := zp_l zq_22 rfl
theorem p_22_62 : zP1 22 62 = some (.aaload, 0, 0, 0) := zp_l zq_22 rfl
theorem p_22_63 : zP1 22 63 = some (.iload_n 1, 0, 0, 0) := zp_l zq_22 rfl
theorem p_22_64 : zP1 22 64 = some (.iaload, 0, 0, 0) := zp_l zq_22 rfl
theorem p_22_65 : zP1 22 65 = some (.istore 5, 0, 0, 0) := zp_l zq_22 rfl
theorem p_22_67 : zP1 22 67 = some (.iload 5, 0, 0, 0) := zp_l zq_22 rfl
theorem p_22_69 : zP1 22 69 = some (.bipush (-3), 0, 0, 0) := zp_l zq_22 rfl
theorem p_22_71 : zP1 22 71 = some (.if_icmp .eq 18, 0, 0, 0) := zp_l zq_22 rfl
theorem p_22_74 : zP1 22 74 = some (.iload 5, 0, 0, 0) := zp_l zq_22 rfl
theorem p_22_76 : zP1 22 76 = some (.aload_n 0, 0, 0, 0) := zp_l zq_22 rfl
theorem p_22_77 : zP1 22 77 = some (.getfield 52, 1, 6, 0) := zp_r zq_22 rfl
theorem p_22_80 : zP1 22 80 = some (.if_icmp .gt 9, 0, 0, 0) := zp_l zq_22 rfl
theorem p_22_83 : zP1 22 83 = some (.iload_n 2, 0, 0, 0) := zp_l zq_22 rfl
theorem p_22_84 : zP1 22 84 = some (.iconst 1, 0, 0, 0) := zp_l zq_22 rfl
theorem p_22_85 : zP1 22 85 = some (.iload_n 3, 0, 0, 0) := zp_l zq_22 rfl
theorem p_22_86 : zP1 22 86 = some (.ishl, 0, 0, 0) := zp_l zq_22 rfl
theorem p_22_87 : zP1 22 87 = some (.ior, 0, 0, 0) := zp_l zq_22 rfl
theorem p_22_88 : zP1 22 88 = some (.istore_n 2, 0, 0, 0) := zp_l zq_22 rfl
theorem p_22_89 : zP1 22 89 = some (.iinc 3 1, 0, 0, 0) := zp_l zq_22 rfl
theorem p_22_92 : zP1 22 92 = some (.goto (-88), 0, 0, 0) := zp_l zq_22 rfl
theorem p_22_95 : zP1 22 95 = some (.iload_n 2, 0, 0, 0) := zp_l zq_22 rfl
theorem p_22_96 : zP1 22 96 = some (.ireturn, 0, 0, 0) := zp_l zq_22 rfl
theorem b_22_0 {x1 : Int} : Z e (d + 2) 22 0 [.ref 202, .int (iI x1), .retAddr 0, .retAddr 0, .retAddr 0, .retAddr 0] [] m = Z e (d + 2) 22 4 [.ref 202, .int (iI x1), .int (iI 0), .int (iI 0), .retAddr 0, .retAddr 0] [] m := (s_const p_22_0).trans <| (s_is_2 cat_i p_22_1).trans <| (s_const p_22_2).trans <| (s_is_3 cat_i p_22_3).trans <| rfl
theorem b_22_4 {x1 : Int} {x2 : Int} {x3 : Int} {u4 u5 : Value} : Z e (d + 2) 22 4 [.ref 202, .int (iI x1), .int (iI x2), .int (iI x3), u4, u5] [] m = (if ((wr x3) < (wr (m 6 3))) ∧ ((wr x3) < 6) then (Z e (d + 1) 104 0 [.ref 6, .int (iI x3), .int (iI 0)] [] m).bind (ZK e (d + 2) 22 36 [.ref 202, .int (iI x1), .int (iI x2), .int (iI x3), u4, u5] [] m) else ri x2 m) := (s_il_3 p_22_4).trans <| (s_al_0 p_22_5).trans <| (s_getr p_22_6 hs_202 (by decide) rfl).trans <| (s_getr p_22_9 hs_1 (by decide) rfl).trans <| (s_get p_22_12 hs_6 (by decide) rfl).trans <| Eq.trans (Eq.trans (s_c_ge_f p_22_15 rfl rfl rfl) <| Eq.trans (ite_cg ((s_il_3 p_22_18).trans <| (s_bip p_22_19 rfl).trans <| (s_c_ge_f p_22_21 rfl rfl wl_6)) rfl) co_and) <| ite_cg ((s_al_0 p_22_24).trans <| (s_getr p_22_25 hs_202 (by decide) rfl).trans <| (s_getr p_22_28 hs_1 (by decide) rfl).trans <| (s_il_3 p_22_31).trans <| (s_const p_22_32).trans <| (s_cv2 (Lc := [.ref 6, .int (iI x3), .int (iI 0)]) p_22_33 (by decide) (by decide) (zM_of zq_104) ⟨Nat.le_of_ble_eq_true rfl, Nat.le_of_ble_eq_true rfl⟩ rfl (m_rc hs_6 ⟨rfl, by decide⟩))) ((s_il_2 p_22_95).trans <| (s_reti p_22_96 (zM_of zq_22)))
theorem b_22_36 {x1 : Int} {x2 : Int} {x3 : Int} {xs0 : Int} {u4 u5 : Value} : Z e (d + 2) 22 36 [.ref 202, .int (iI x1), .int (iI x2), .int (iI x3), u4, u5] [.int (iI xs0)] m = ck ((¬ (¬ (wr (m 202 7)) = 0)) → ((0 ≤ (wr x3) ∧ (wr x3) < 6) ∧ (0 ≤ (wr x1) ∧ (wr x1) < 100))) (Z e (d + 2) 22 4 [.ref 202, .int (iI x1), .int (iI (if (¬ (wr (if ¬ (wr (m 202 7)) = 0 then (jfar xs0 x1) else (m (196 + (wr x3).toNat) (wr x1)))) = (-3)) ∧ ((wr (if ¬ (wr (m 202 7)) = 0 then (jfar xs0 x1) else (m (196 + (wr x3).toNat) (wr x1)))) ≤ (wr (m 202 6))) then (jor x2 (jshl 1 x3)) else x2)), .int (iI (x3 + 1)), .int (iI xs0), .int (iI (if ¬ (wr (m 202 7)) = 0 then (jfar xs0 x1) else (m (196 + (wr x3).toNat) (wr x1))))] [] m) := (s_is_4 cat_i p_22_36).trans <| (s_al_0 p_22_38).trans <| (s_get p_22_39 hs_202 (by decide) rfl).trans <| Eq.trans (Eq.trans ((s_z_eq_f p_22_42 rfl rfl)) <| Eq.trans (ite_cg ((s_il_4 p_22_45).trans <| (s_il_1 p_22_47).trans <| (s_cs2 (Lc := [.int (iI xs0), .int (iI x1)]) p_22_48 (by decide) (zM_of zq_121) ⟨Nat.le_of_ble_eq_true rfl, Nat.le_of_ble_eq_true rfl⟩ rfl).trans <| (bd b_121_0).trans <| ri_k.trans <| (s_goto p_22_51 rfl).trans <| rfl) ((s_al_0 p_22_54).trans <| (s_getr p_22_55 hs_202 (by decide) rfl).trans <| (s_getr p_22_58 hs_191 (by decide) rfl).trans <| (s_il_3 p_22_61).trans <| (s_aald 6 p_22_62 hs_195 rfl ⟨by decide, by decide⟩ ar_195).trans <| Eq.trans (ck_cg fun k1 => (s_il_1 p_22_63).trans <| (s_ald 100 p_22_64 ((zArr_195 k1)).1 rfl ((zArr_195 k1)).2).trans <| ck_cg fun k2 => rfl) ck_ck)) <| Eq.trans ck_b <| ck_cg fun _ => (phi1 (fun z0 => Z e (d + 2) 22 65 [.ref 202, .int (iI x1), .int (iI x2), .int (iI x3), .int (iI xs0), u5] [.int (iI z0)] m))) <| ck_cg fun _ => (s_is_5 cat_i p_22_65).trans <| (s_il_5 p_22_67).trans <| (s_bip p_22_69 rfl).trans <| Eq.trans (Eq.trans (Eq.trans (s_c_eq_f p_22_71 rfl rfl wl_m3) <| Eq.trans (ite_cg ((s_il_5 p_22_74).trans <| (s_al_0 p_22_76).trans <| (s_get p_22_77 hs_202 (by decide) rfl).trans <| (s_c_gt_f p_22_80 rfl rfl rfl)) rfl) co_and) <| Eq.trans (ite_cg ((s_il_2 p_22_83).trans <| (s_const p_22_84).trans <| (s_il_3 p_22_85).trans <| (s_ishl p_22_86).trans <| (s_ior p_22_87).trans <| (s_is_2 cat_i p_22_88).trans <| rfl) (rfl)) (phi1 (fun z0 => Z e (d + 2) 22 89 [.ref 202, .int (iI x1), .int (iI z0), .int (iI x3), .int (iI xs0), .int (iI (if ¬ (wr (m 202 7)) = 0 then (jfar xs0 x1) else (m (196 + (wr x3).toNat) (wr x1))))] [] m))) <| (s_inc_3 cat_i p_22_89).trans <| (s_goto p_22_92 rfl).trans <| rfl
-- World.isNight
theorem p_122_0 : zP1 122 0 = some (.iload_n 0, 0, 0, 0) := zp_l zq_122 rfl
theorem p_122_1 : zP1 122 1 = some (.bipush 24, 0, 0, 0) := zp_l zq_122 rfl
theorem p_122_3 : zP1 122 3 = some (.irem, 0, 0, 0) := zp_l zq_122 rfl
theorem p_122_4 : zP1 122 4 = some (.istore_n 1, 0, 0, 0) := zp_l zq_122 rfl
theorem p_122_5 : zP1 122 5 = some (.iload_n 1, 0, 0, 0) := zp_l zq_122 rfl
theorem p_122_6 : zP1 122 6 = some (.bipush 20, 0, 0, 0) := zp_l zq_122 rfl
theorem p_122_8 : zP1 122 8 = some (.if_icmp .ge 9, 0, 0, 0) := zp_l zq_122 rfl
theorem p_122_11 : zP1 122 11 = some (.iload_n 1, 0, 0, 0) := zp_l zq_122 rfl
theorem p_122_12 : zP1 122 12 = some (.bipush 6, 0, 0, 0) := zp_l zq_122 rfl
theorem p_122_14 : zP1 122 14 = some (.if_icmp .ge 7, 0, 0, 0) := zp_l zq_122 rfl
theorem p_122_17 : zP1 122 17 = some (.iconst 1, 0, 0, 0) := zp_l zq_122 rfl
theorem p_122_18 : zP1 122 18 = some (.goto 4, 0, 0, 0) := zp_l zq_122 rfl
theorem p_122_21 : zP1 122 21 = some (.iconst 0, 0, 0, 0) := zp_l zq_122 rfl
theorem p_122_22 : zP1 122 22 = some (.ireturn, 0, 0, 0) := zp_l zq_122 rfl
theorem b_122_0 {x0 : Int} : Z e d 122 0 [.int (iI x0), .retAddr 0] [] m = ri (if (20 ≤ (wr (jrem x0 24))) ∨ ((wr (jrem x0 24)) < 6) then 1 else 0) m := (s_il_0 p_122_0).trans <| (s_bip p_122_1 rfl).trans <| (s_iremc p_122_3 (by decide)).trans <| (s_is_1 cat_i p_122_4).trans <| (s_il_1 p_122_5).trans <| (s_bip p_122_6 rfl).trans <| Eq.trans (Eq.trans (Eq.trans (s_c_ge_t p_122_8 rfl rfl wl_20) <| Eq.trans (ite_cg rfl ((s_il_1 p_122_11).trans <| (s_bip p_122_12 rfl).trans <| (s_c_ge_f p_122_14 rfl rfl wl_6))) co_or) <| Eq.trans (ite_cg ((s_const p_122_17).trans <| (s_goto p_122_18 rfl).trans <| rfl) ((s_const p_122_21).trans <| rfl)) (phi1 (fun z0 => Z e d 122 22 [.int (iI x0), .int (iI (jrem x0 24))] [.int (iI z0)] m))) <| (s_retb p_122_22 (zM_of zq_122))
-- Law.timesOf
theorem p_25_0 : zP1 25 0 = some (.iconst 0, 0, 0, 0) := zp_l zq_25 rfl
theorem p_25_1 : zP1 25 1 = some (.istore_n 2, 0, 0, 0) := zp_l zq_25 rfl
theorem p_25_2 : zP1 25 2 = some (.iconst 0, 0, 0, 0) := zp_l zq_25 rfl
theorem p_25_3 : zP1 25 3 = some (.istore_n 3, 0, 0, 0) := zp_l zq_25 rfl
theorem p_25_4 : zP1 25 4 = some (.iload_n 3, 0, 0, 0) := zp_l zq_25 rfl
theorem p_25_5 : zP1 25 5 = some (.aload_n 0, 0, 0, 0) := zp_l zq_25 rfl
theorem p_25_6 : zP1 25 6 = some (.getfield 29, 1, 0, 0) := zp_r zq_25 rfl
theorem p_25_9 : zP1 25 9 = some (.getfield 120, 9, 7, 0) := zp_r zq_25 rfl
theorem p_25_12 : zP1 25 12 = some (.getfield 94, 7, 3, 0) := zp_r zq_25 rfl
theorem p_25_15 : zP1 25 15 = some (.if_icmp .ge 105, 0, 0, 0) := zp_l zq_25 rfl
theorem p_25_18 : zP1 25 18 = some (.aload_n 0, 0, 0, 0) := zp_l zq_25 rfl
theorem p_25_19 : zP1 25 19 = some (.getfield 29, 1, 0, 0) := zp_r zq_25 rfl
theorem p_25_22 : zP1 25 22 = some (.getfield 120, 9, 7, 0) := zp_r zq_25 rfl
theorem p_25_25 : zP1 25 25 = some (.iload_n 3, 0, 0, 0) := zp_l zq_25 rfl
theorem p_25_26 : zP1 25 26 = some (.iconst 0, 0, 0, 0) := zp_l zq_25 rfl
theorem p_25_27 : zP1 25 27 = some (.invokevirtual 97, 104, 2, 7) := zp_r zq_25 rfl
theorem p_25_30 : zP1 25 30 = some (.aload_n 0, 0, 0, 0) := zp_l zq_25 rfl
theorem p_25_31 : zP1 25 31 = some (.getfield 29, 1, 0, 0) := zp_r zq_25 rfl
theorem p_25_34 : zP1 25 34 = some (.getfield 120, 9, 7, 0) := zp_r zq_25 rfl
theorem p_25_37 : zP1 25 37 = some (.iload_n 1, 0, 0, 0) := zp_l zq_25 rfl
theorem p_25_38 : zP1 25 38 = some (.iconst 0, 0, 0, 0) := zp_l zq_25 rfl
theorem p_25_39 : zP1 25 39 = some (.invokevirtual 97, 104, 2, 7) := zp_r zq_25 rfl
theorem p_25_42 : zP1 25 42 = some (.if_icmp .ne 34, 0, 0, 0) := zp_l zq_25 rfl
theorem p_25_45 : zP1 25 45 = some (.aload_n 0, 0, 0, 0) := zp_l zq_25 rfl
theorem p_25_46 : zP1 25 46 = some (.getfield 29, 1, 0, 0) := zp_r zq_25 rfl
theorem p_25_49 : zP1 25 49 = some (.getfield 120, 9, 7, 0) := zp_r zq_25 rfl
theorem p_25_52 : zP1 25 52 = some (.iload_n 3, 0, 0, 0) := zp_l zq_25 rfl
theorem p_25_53 : zP1 25 53 = some (.iconst 1, 0, 0, 0) := zp_l zq_25 rfl
theorem p_25_54 : zP1 25 54 = some (.invokevirtual 97, 104, 2, 7) := zp_r zq_25 rfl
theorem p_25_57 : zP1 25 57 = some (.aload_n 0, 0, 0, 0) := zp_l zq_25 rfl
theorem p_25_58 : zP1 25 58 = some (.getfield 29, 1, 0, 0) := zp_r zq_25 rfl
theorem p_25_61 : zP1 25 61 = some (.getfield 120, 9, 7, 0) := zp_r zq_25 rfl
theorem p_25_64 : zP1 25 64 = some (.iload_n 1, 0, 0, 0) := zp_l zq_25 rfl
theorem p_25_65 : zP1 25 65 = some (.iconst 1, 0, 0, 0) := zp_l zq_25 rfl
theorem p_25_66 : zP1 25 66 = some (.invokevirtual 97, 104, 2, 7) := zp_r zq_25 rfl
theorem p_25_69 : zP1 25 69 = some (.if_icmp .ne 7, 0, 0, 0) := zp_l zq_25 rfl
theorem p_25_72 : zP1 25 72 = some (.iconst 1, 0, 0, 0) := zp_l zq_25 rfl
theorem p_25_73 : zP1 25 73 = some (.goto 4, 0, 0, 0) := zp_l zq_25 rfl
theorem p_25_76 : zP1 25 76 = some (.iconst 0, 0, 0, 0) := zp_l zq_25 rfl
theorem p_25_77 : zP1 25 77 = some (.istore 4, 0, 0, 0) := zp_l zq_25 rfl
theorem p_25_79 : zP1 25 79 = some (.iload 4, 0, 0, 0) := zp_l zq_25 rfl
theorem p_25_81 : zP1 25 81 = some (.ifCond .eq 33, 0, 0, 0) := zp_l zq_25 rfl
theorem p_25_84 : zP1 25 84 = some (.aload_n 0, 0, 0, 0) := zp_l zq_25 rfl
theorem p_25_85 : zP1 25 85 = some (.getfield 29, 1, 0, 0) := zp_r zq_25 rfl
theorem p_25_88 : zP1 25 88 = some (.getfield 120, 9, 7, 0) := zp_r zq_25 rfl
theorem p_25_91 : zP1 25 91 = some (.iload_n 3, 0, 0, 0) := zp_l zq_25 rfl
theorem p_25_92 : zP1 25 92 = some (.iconst 3, 0, 0, 0) := zp_l zq_25 rfl
theorem p_25_93 : zP1 25 93 = some (.invokevirtual 97, 104, 2, 7) := zp_r zq_25 rfl
theorem p_25_96 : zP1 25 96 = some (.aload_n 0, 0, 0, 0) := zp_l zq_25 rfl
theorem p_25_97 : zP1 25 97 = some (.getfield 29, 1, 0, 0) := zp_r zq_25 rfl
theorem p_25_100 : zP1 25 100 = some (.getfield 120, 9, 7, 0) := zp_r zq_25 rfl
theorem p_25_103 : zP1 25 103 = some (.iload_n 1, 0, 0, 0) := zp_l zq_25 rfl
theorem p_25_104 : zP1 25 104 = some (.iconst 3, 0, 0, 0) := zp_l zq_25 rfl
theorem p_25_105 : zP1 25 105 = some (.invokevirtual 97, 104, 2, 7) := zp_r zq_25 rfl
theorem p_25_108 : zP1 25 108 = some (.if_icmp .gt 6, 0, 0, 0) := zp_l zq_25 rfl
theorem p_25_111 : zP1 25 111 = some (.iinc 2 1, 0, 0, 0) := zp_l zq_25 rfl
theorem p_25_114 : zP1 25 114 = some (.iinc 3 1, 0, 0, 0) := zp_l zq_25 rfl
theorem p_25_117 : zP1 25 117 = some (.goto (-113), 0, 0, 0) := zp_l zq_25 rfl
theorem p_25_120 : zP1 25 120 = some (.iload_n 2, 0, 0, 0) := zp_l zq_25 rfl
theorem p_25_121 : zP1 25 121 = some (.ireturn, 0, 0, 0) := zp_l zq_25 rfl
theorem b_25_0 {x1 : Int} : Z e (d + 1) 25 0 [.ref 202, .int (iI x1), .retAddr 0, .retAddr 0, .retAddr 0] [] m = Z e (d + 1) 25 4 [.ref 202, .int (iI x1), .int (iI 0), .int (iI 0), .retAddr 0] [] m := (s_const p_25_0).trans <| (s_is_2 cat_i p_25_1).trans <| (s_const p_25_2).trans <| (s_is_3 cat_i p_25_3).trans <| rfl
theorem b_25_4 {x1 : Int} {x2 : Int} {x3 : Int} {u4 : Value} : Z e (d + 1) 25 4 [.ref 202, .int (iI x1), .int (iI x2), .int (iI x3), u4] [] m = (if (wr x3) < (wr (m 8 3)) then (Z e d 104 0 [.ref 8, .int (iI x3), .int (iI 0)] [] m).bind (ZK e (d + 1) 25 30 [.ref 202, .int (iI x1), .int (iI x2), .int (iI x3), u4] [] m) else ri x2 m) := (s_il_3 p_25_4).trans <| (s_al_0 p_25_5).trans <| (s_getr p_25_6 hs_202 (by decide) rfl).trans <| (s_getr p_25_9 hs_1 (by decide) rfl).trans <| (s_get p_25_12 hs_8 (by decide) rfl).trans <| Eq.trans ((s_c_ge_f p_25_15 rfl rfl rfl)) <| ite_cg ((s_al_0 p_25_18).trans <| (s_getr p_25_19 hs_202 (by decide) rfl).trans <| (s_getr p_25_22 hs_1 (by decide) rfl).trans <| (s_il_3 p_25_25).trans <| (s_const p_25_26).trans <| (s_cv2 (Lc := [.ref 8, .int (iI x3), .int (iI 0)]) p_25_27 (by decide) (by decide) (zM_of zq_104) ⟨Nat.le_of_ble_eq_true rfl, Nat.le_of_ble_eq_true rfl⟩ rfl (m_rc hs_8 ⟨rfl, by decide⟩))) ((s_il_2 p_25_120).trans <| (s_reti p_25_121 (zM_of zq_25)))
theorem b_25_30 {x1 : Int} {x2 : Int} {x3 : Int} {xs0 : Int} {u4 : Value} : Z e (d + 1) 25 30 [.ref 202, .int (iI x1), .int (iI x2), .int (iI x3), u4] [.int (iI xs0)] m = (Z e d 104 0 [.ref 8, .int (iI x1), .int (iI 0)] [] m).bind (ZK e (d + 1) 25 42 [.ref 202, .int (iI x1), .int (iI x2), .int (iI x3), u4] [.int (iI xs0)] m) := (s_al_0 p_25_30).trans <| (s_getr p_25_31 hs_202 (by decide) rfl).trans <| (s_getr p_25_34 hs_1 (by decide) rfl).trans <| (s_il_1 p_25_37).trans <| (s_const p_25_38).trans <| (s_cv2 (Lc := [.ref 8, .int (iI x1), .int (iI 0)]) p_25_39 (by decide) (by decide) (zM_of zq_104) ⟨Nat.le_of_ble_eq_true rfl, Nat.le_of_ble_eq_true rfl⟩ rfl (m_rc hs_8 ⟨rfl, by decide⟩))
theorem b_25_42 {x1 : Int} {x2 : Int} {x3 : Int} {xs0 : Int} {xs1 : Int} {u4 : Value} : Z e (d + 1) 25 42 [.ref 202, .int (iI x1), .int (iI x2), .int (iI x3), u4] [.int (iI xs0), .int (iI xs1)] m = (if (wr xs1) = (wr xs0) then (Z e d 104 0 [.ref 8, .int (iI x3), .int (iI 1)] [] m).bind (ZK e (d + 1) 25 57 [.ref 202, .int (iI x1), .int (iI x2), .int (iI x3), u4] [] m) else Z e (d + 1) 25 77 [.ref 202, .int (iI x1), .int (iI x2), .int (iI x3), u4] [.int (iI 0)] m) := Eq.trans ((s_c_ne_f p_25_42 rfl rfl rfl)) <| ite_cg ((s_al_0 p_25_45).trans <| (s_getr p_25_46 hs_202 (by decide) rfl).trans <| (s_getr p_25_49 hs_1 (by decide) rfl).trans <| (s_il_3 p_25_52).trans <| (s_const p_25_53).trans <| (s_cv2 (Lc := [.ref 8, .int (iI x3), .int (iI 1)]) p_25_54 (by decide) (by decide) (zM_of zq_104) ⟨Nat.le_of_ble_eq_true rfl, Nat.le_of_ble_eq_true rfl⟩ rfl (m_rc hs_8 ⟨rfl, by decide⟩))) ((s_const p_25_76).trans <| rfl)
theorem b_25_77 {x1 : Int} {x2 : Int} {x3 : Int} {xs0 : Int} {u4 : Value} : Z e (d + 1) 25 77 [.ref 202, .int (iI x1), .int (iI x2), .int (iI x3), u4] [.int (iI xs0)] m = (if ¬ (wr xs0) = 0 then (Z e d 104 0 [.ref 8, .int (iI x3), .int (iI 3)] [] m).bind (ZK e (d + 1) 25 96 [.ref 202, .int (iI x1), .int (iI x2), .int (iI x3), .int (iI xs0)] [] m) else Z e (d + 1) 25 4 [.ref 202, .int (iI x1), .int (iI x2), .int (iI (x3 + 1)), .int (iI xs0)] [] m) := (s_is_4 cat_i p_25_77).trans <| (s_il_4 p_25_79).trans <| Eq.trans ((s_z_eq_f p_25_81 rfl rfl)) <| ite_cg ((s_al_0 p_25_84).trans <| (s_getr p_25_85 hs_202 (by decide) rfl).trans <| (s_getr p_25_88 hs_1 (by decide) rfl).trans <| (s_il_3 p_25_91).trans <| (s_const p_25_92).trans <| (s_cv2 (Lc := [.ref 8, .int (iI x3), .int (iI 3)]) p_25_93 (by decide) (by decide) (zM_of zq_104) ⟨Nat.le_of_ble_eq_true rfl, Nat.le_of_ble_eq_true rfl⟩ rfl (m_rc hs_8 ⟨rfl, by decide⟩))) ((s_inc_3 cat_i p_25_114).trans <| (s_goto p_25_117 rfl).trans <| rfl)
theorem b_25_57 {x1 : Int} {x2 : Int} {x3 : Int} {xs0 : Int} {u4 : Value} : Z e (d + 1) 25 57 [.ref 202, .int (iI x1), .int (iI x2), .int (iI x3), u4] [.int (iI xs0)] m = (Z e d 104 0 [.ref 8, .int (iI x1), .int (iI 1)] [] m).bind (ZK e (d + 1) 25 69 [.ref 202, .int (iI x1), .int (iI x2), .int (iI x3), u4] [.int (iI xs0)] m) := (s_al_0 p_25_57).trans <| (s_getr p_25_58 hs_202 (by decide) rfl).trans <| (s_getr p_25_61 hs_1 (by decide) rfl).trans <| (s_il_1 p_25_64).trans <| (s_const p_25_65).trans <| (s_cv2 (Lc := [.ref 8, .int (iI x1), .int (iI 1)]) p_25_66 (by decide) (by decide) (zM_of zq_104) ⟨Nat.le_of_ble_eq_true rfl, Nat.le_of_ble_eq_true rfl⟩ rfl (m_rc hs_8 ⟨rfl, by decide⟩))
theorem b_25_96 {x1 : Int} {x2 : Int} {x3 : Int} {xs0 : Int} {u4 : Value} : Z e (d + 1) 25 96 [.ref 202, .int (iI x1), .int (iI x2), .int (iI x3), u4] [.int (iI xs0)] m = (Z e d 104 0 [.ref 8, .int (iI x1), .int (iI 3)] [] m).bind (ZK e (d + 1) 25 108 [.ref 202, .int (iI x1), .int (iI x2), .int (iI x3), u4] [.int (iI xs0)] m) := (s_al_0 p_25_96).trans <| (s_getr p_25_97 hs_202 (by decide) rfl).trans <| (s_getr p_25_100 hs_1 (by decide) rfl).trans <| (s_il_1 p_25_103).trans <| (s_const p_25_104).trans <| (s_cv2 (Lc := [.ref 8, .int (iI x1), .int (iI 3)]) p_25_105 (by decide) (by decide) (zM_of zq_104) ⟨Nat.le_of_ble_eq_true rfl, Nat.le_of_ble_eq_true rfl⟩ rfl (m_rc hs_8 ⟨rfl, by decide⟩))
theorem b_25_69 {x1 : Int} {x2 : Int} {x3 : Int} {xs0 : Int} {xs1 : Int} {u4 : Value} : Z e (d + 1) 25 69 [.ref 202, .int (iI x1), .int (iI x2), .int (iI x3), u4] [.int (iI xs0), .int (iI xs1)] m = Z e (d + 1) 25 77 [.ref 202, .int (iI x1), .int (iI x2), .int (iI x3), u4] [.int (iI (if (wr xs1) = (wr xs0) then 1 else 0))] m := Eq.trans (Eq.trans ((s_c_ne_f p_25_69 rfl rfl rfl)) <| Eq.trans (ite_cg ((s_const p_25_72).trans <| (s_goto p_25_73 rfl).trans <| rfl) ((s_const p_25_76).trans <| rfl)) (phi1 (fun z0 => Z e (d + 1) 25 77 [.ref 202, .int (iI x1), .int (iI x2), .int (iI x3), u4] [.int (iI z0)] m))) <| rfl
theorem b_25_108 {x1 : Int} {x2 : Int} {x3 : Int} {xs0 : Int} {xs1 : Int} {u4 : Value} : Z e (d + 1) 25 108 [.ref 202, .int (iI x1), .int (iI x2), .int (iI x3), u4] [.int (iI xs0), .int (iI xs1)] m = Z e (d + 1) 25 4 [.ref 202, .int (iI x1), .int (iI (if (wr xs1) ≤ (wr xs0) then (x2 + 1) else x2)), .int (iI (x3 + 1)), u4] [] m := Eq.trans (Eq.trans ((s_c_gt_f p_25_108 rfl rfl rfl)) <| Eq.trans (ite_cg ((s_inc_2 cat_i p_25_111).trans <| rfl) (rfl)) (phi1 (fun z0 => Z e (d + 1) 25 114 [.ref 202, .int (iI x1), .int (iI z0), .int (iI x3), u4] [] m))) <| (s_inc_3 cat_i p_25_114).trans <| (s_goto p_25_117 rfl).trans <| rfl
-- Law.learnDeeds
theorem p_24_0 : zP1 24 0 = some (.iconst 0, 0, 0, 0) := zp_l zq_24 rfl
theorem p_24_1 : zP1 24 1 = some (.istore_n 1, 0, 0, 0) := zp_l zq_24 rfl
theorem p_24_2 : zP1 24 2 = some (.iload_n 1, 0, 0, 0) := zp_l zq_24 rfl
theorem p_24_3 : zP1 24 3 = some (.aload_n 0, 0, 0, 0) := zp_l zq_24 rfl
theorem p_24_4 : zP1 24 4 = some (.getfield 29, 1, 0, 0) := zp_r zq_24 rfl
theorem p_24_7 : zP1 24 7 = some (.getfield 120, 9, 7, 0) := zp_r zq_24 rfl
theorem p_24_10 : zP1 24 10 = some (.getfield 94, 7, 3, 0) := zp_r zq_24 rfl
theorem p_24_13 : zP1 24 13 = some (.if_icmp .ge 119, 0, 0, 0) := zp_l zq_24 rfl
theorem p_24_16 : zP1 24 16 = some (.iload_n 1, 0, 0, 0) := zp_l zq_24 rfl
theorem p_24_17 : zP1 24 17 = some (.bipush 24, 0, 0, 0) := zp_l zq_24 rfl
theorem p_24_19 : zP1 24 19 = some (.if_icmp .ge 113, 0, 0, 0) := zp_l zq_24 rfl
theorem p_24_22 : zP1 24 22 = some (.aload_n 0, 0, 0, 0) := zp_l zq_24 rfl
theorem p_24_23 : zP1 24 23 = some (.getfield 29, 1, 0, 0) := zp_r zq_24 rfl
theorem p_24_26 : zP1 24 26 = some (.getfield 120, 9, 7, 0) := zp_r zq_24 rfl
theorem p_24_29 : zP1 24 29 = some (.iload_n 1, 0, 0, 0) := zp_l zq_24 rfl
theorem p_24_30 : zP1 24 30 = some (.iconst 3, 0, 0, 0) := zp_l zq_24 rfl
theorem p_24_31 : zP1 24 31 = some (.invokevirtual 97, 104, 2, 7) := zp_r zq_24 rfl
theorem p_24_34 : zP1 24 34 = some (.istore_n 2, 0, 0, 0) := zp_l zq_24 rfl
theorem p_24_35 : zP1 24 35 = some (.aload_n 0, 0, 0, 0) := zp_l zq_24 rfl
theorem p_24_36 : zP1 24 36 = some (.iload_n 2, 0, 0, 0) := zp_l zq_24 rfl
theorem p_24_37 : zP1 24 37 = some (.invokevirtual 45, 20, 1, 1) := zp_r zq_24 rfl
theorem p_24_40 : zP1 24 40 = some (.aload_n 0, 0, 0, 0) := zp_l zq_24 rfl
theorem p_24_41 : zP1 24 41 = some (.aload_n 0, 0, 0, 0) := zp_l zq_24 rfl
theorem p_24_42 : zP1 24 42 = some (.getfield 29, 1, 0, 0) := zp_r zq_24 rfl
theorem p_24_45 : zP1 24 45 = some (.getfield 120, 9, 7, 0) := zp_r zq_24 rfl
theorem p_24_48 : zP1 24 48 = some (.iload_n 1, 0, 0, 0) := zp_l zq_24 rfl
theorem p_24_49 : zP1 24 49 = some (.iconst 4, 0, 0, 0) := zp_l zq_24 rfl
theorem p_24_50 : zP1 24 50 = some (.invokevirtual 97, 104, 2, 7) := zp_r zq_24 rfl
theorem p_24_53 : zP1 24 53 = some (.invokevirtual 108, 22, 1, 1) := zp_r zq_24 rfl
theorem p_24_56 : zP1 24 56 = some (.ifCond .eq 7, 0, 0, 0) := zp_l zq_24 rfl
theorem p_24_59 : zP1 24 59 = some (.iconst 1, 0, 0, 0) := zp_l zq_24 rfl
theorem p_24_60 : zP1 24 60 = some (.goto 4, 0, 0, 0) := zp_l zq_24 rfl
theorem p_24_63 : zP1 24 63 = some (.iconst 0, 0, 0, 0) := zp_l zq_24 rfl
theorem p_24_64 : zP1 24 64 = some (.istore_n 3, 0, 0, 0) := zp_l zq_24 rfl
theorem p_24_65 : zP1 24 65 = some (.iload_n 2, 0, 0, 0) := zp_l zq_24 rfl
theorem p_24_66 : zP1 24 66 = some (.invokestatic 123, 122, 1, 0) := zp_r zq_24 rfl
theorem p_24_69 : zP1 24 69 = some (.ifCond .eq 7, 0, 0, 0) := zp_l zq_24 rfl
theorem p_24_72 : zP1 24 72 = some (.iconst 2, 0, 0, 0) := zp_l zq_24 rfl
theorem p_24_73 : zP1 24 73 = some (.goto 4, 0, 0, 0) := zp_l zq_24 rfl
theorem p_24_76 : zP1 24 76 = some (.iconst 0, 0, 0, 0) := zp_l zq_24 rfl
theorem p_24_77 : zP1 24 77 = some (.istore 4, 0, 0, 0) := zp_l zq_24 rfl
theorem p_24_79 : zP1 24 79 = some (.aload_n 0, 0, 0, 0) := zp_l zq_24 rfl
theorem p_24_80 : zP1 24 80 = some (.getfield 29, 1, 0, 0) := zp_r zq_24 rfl
theorem p_24_83 : zP1 24 83 = some (.getfield 120, 9, 7, 0) := zp_r zq_24 rfl
theorem p_24_86 : zP1 24 86 = some (.iload_n 1, 0, 0, 0) := zp_l zq_24 rfl
theorem p_24_87 : zP1 24 87 = some (.iconst 2, 0, 0, 0) := zp_l zq_24 rfl
theorem p_24_88 : zP1 24 88 = some (.invokevirtual 97, 104, 2, 7) := zp_r zq_24 rfl
theorem p_24_91 : zP1 24 91 = some (.iconst (-1), 0, 0, 0) := zp_l zq_24 rfl
theorem p_24_92 : zP1 24 92 = some (.if_icmp .eq 7, 0, 0, 0) := zp_l zq_24 rfl
theorem p_24_95 : zP1 24 95 = some (.iconst 4, 0, 0, 0) := zp_l zq_24 rfl
theorem p_24_96 : zP1 24 96 = some (.goto 4, 0, 0, 0) := zp_l zq_24 rfl
theorem p_24_99 : zP1 24 99 = some (.iconst 0, 0, 0, 0) := zp_l zq_24 rfl
theorem p_24_100 : zP1 24 100 = some (.istore 5, 0, 0, 0) := zp_l zq_24 rfl
theorem p_24_102 : zP1 24 102 = some (.aload_n 0, 0, 0, 0) := zp_l zq_24 rfl
theorem p_24_103 : zP1 24 103 = some (.getfield 26, 1, 10, 0) := zp_r zq_24 rfl
theorem p_24_106 : zP1 24 106 = some (.iload_n 1, 0, 0, 0) := zp_l zq_24 rfl
theorem p_24_107 : zP1 24 107 = some (.iload_n 3, 0, 0, 0) := zp_l zq_24 rfl
theorem p_24_108 : zP1 24 108 = some (.iload 4, 0, 0, 0) := zp_l zq_24 rfl
theorem p_24_110 : zP1 24 110 = some (.ior, 0, 0, 0) := zp_l zq_24 rfl
theorem p_24_111 : zP1 24 111 = some (.iload 5, 0, 0, 0) := zp_l zq_24 rfl
theorem p_24_113 : zP1 24 113 = some (.ior, 0, 0, 0) := zp_l zq_24 rfl
theorem p_24_114 : zP1 24 114 = some (.iastore, 0, 0, 0) := zp_l zq_24 rfl
theorem p_24_115 : zP1 24 115 = some (.aload_n 0, 0, 0, 0) := zp_l zq_24 rfl
theorem p_24_116 : zP1 24 116 = some (.getfield 23, 1, 9, 0) := zp_r zq_24 rfl
theorem p_24_119 : zP1 24 119 = some (.iload_n 1, 0, 0, 0) := zp_l zq_24 rfl
theorem p_24_120 : zP1 24 120 = some (.aload_n 0, 0, 0, 0) := zp_l zq_24 rfl
theorem p_24_121 : zP1 24 121 = some (.iload_n 1, 0, 0, 0) := zp_l zq_24 rfl
theorem p_24_122 : zP1 24 122 = some (.invokevirtual 126, 25, 1, 1) := zp_r zq_24 rfl
theorem p_24_125 : zP1 24 125 = some (.iastore, 0, 0, 0) := zp_l zq_24 rfl
theorem p_24_126 : zP1 24 126 = some (.iinc 1 1, 0, 0, 0) := zp_l zq_24 rfl
theorem p_24_129 : zP1 24 129 = some (.goto (-127), 0, 0, 0) := zp_l zq_24 rfl
theorem p_24_132 : zP1 24 132 = some (.return_, 0, 0, 0) := zp_l zq_24 rfl
theorem b_24_0 : Z e (d + 1) 24 0 [.ref 202, .retAddr 0, .retAddr 0, .retAddr 0, .retAddr 0, .retAddr 0] [] m = Z e (d + 1) 24 2 [.ref 202, .int (iI 0), .retAddr 0, .retAddr 0, .retAddr 0, .retAddr 0] [] m := (s_const p_24_0).trans <| (s_is_1 cat_r p_24_1).trans <| rfl
theorem b_24_2 {x1 : Int} {u2 u3 u4 u5 : Value} : Z e (d + 1) 24 2 [.ref 202, .int (iI x1), u2, u3, u4, u5] [] m = (if ((wr x1) < (wr (m 8 3))) ∧ ((wr x1) < 24) then (Z e d 104 0 [.ref 8, .int (iI x1), .int (iI 3)] [] m).bind (ZK e (d + 1) 24 34 [.ref 202, .int (iI x1), u2, u3, u4, u5] [] m) else rn m) := (s_il_1 p_24_2).trans <| (s_al_0 p_24_3).trans <| (s_getr p_24_4 hs_202 (by decide) rfl).trans <| (s_getr p_24_7 hs_1 (by decide) rfl).trans <| (s_get p_24_10 hs_8 (by decide) rfl).trans <| Eq.trans (Eq.trans (s_c_ge_f p_24_13 rfl rfl rfl) <| Eq.trans (ite_cg ((s_il_1 p_24_16).trans <| (s_bip p_24_17 rfl).trans <| (s_c_ge_f p_24_19 rfl rfl wl_24)) rfl) co_and) <| ite_cg ((s_al_0 p_24_22).trans <| (s_getr p_24_23 hs_202 (by decide) rfl).trans <| (s_getr p_24_26 hs_1 (by decide) rfl).trans <| (s_il_1 p_24_29).trans <| (s_const p_24_30).trans <| (s_cv2 (Lc := [.ref 8, .int (iI x1), .int (iI 3)]) p_24_31 (by decide) (by decide) (zM_of zq_104) ⟨Nat.le_of_ble_eq_true rfl, Nat.le_of_ble_eq_true rfl⟩ rfl (m_rc hs_8 ⟨rfl, by decide⟩))) ((s_retv p_24_132 (zM_of zq_24)))
theorem b_24_34 {x1 : Int} {xs0 : Int} {u2 u3 u4 u5 : Value} : Z e (d + 1) 24 34 [.ref 202, .int (iI x1), u2, u3, u4, u5] [.int (iI xs0)] m = (Z e d 20 0 [.ref 202, .int (iI xs0), .retAddr 0, .retAddr 0, .retAddr 0] [] m).bind (ZK e (d + 1) 24 40 [.ref 202, .int (iI x1), .int (iI xs0), u3, u4, u5] [] m) := (s_is_2 cat_i p_24_34).trans <| (s_al_0 p_24_35).trans <| (s_il_2 p_24_36).trans <| (s_cv1 (Lc := [.ref 202, .int (iI xs0), .retAddr 0, .retAddr 0, .retAddr 0]) p_24_37 (by decide) (by decide) (zM_of zq_20) ⟨Nat.le_of_ble_eq_true rfl, Nat.le_of_ble_eq_true rfl⟩ rfl (m_rc hs_202 ⟨rfl, by decide⟩))
theorem b_24_40 {x1 : Int} {x2 : Int} {u3 u4 u5 : Value} : Z e (d + 1) 24 40 [.ref 202, .int (iI x1), .int (iI x2), u3, u4, u5] [] m = (Z e d 104 0 [.ref 8, .int (iI x1), .int (iI 4)] [] m).bind (ZK e (d + 1) 24 53 [.ref 202, .int (iI x1), .int (iI x2), u3, u4, u5] [.ref 202] m) := (s_al_0 p_24_40).trans <| (s_al_0 p_24_41).trans <| (s_getr p_24_42 hs_202 (by decide) rfl).trans <| (s_getr p_24_45 hs_1 (by decide) rfl).trans <| (s_il_1 p_24_48).trans <| (s_const p_24_49).trans <| (s_cv2 (Lc := [.ref 8, .int (iI x1), .int (iI 4)]) p_24_50 (by decide) (by decide) (zM_of zq_104) ⟨Nat.le_of_ble_eq_true rfl, Nat.le_of_ble_eq_true rfl⟩ rfl (m_rc hs_8 ⟨rfl, by decide⟩))
theorem b_24_53 {x1 : Int} {x2 : Int} {xs0 : Int} {u3 u4 u5 : Value} : Z e (d + 1) 24 53 [.ref 202, .int (iI x1), .int (iI x2), u3, u4, u5] [.int (iI xs0), .ref 202] m = (Z e d 22 0 [.ref 202, .int (iI xs0), .retAddr 0, .retAddr 0, .retAddr 0, .retAddr 0] [] m).bind (ZK e (d + 1) 24 56 [.ref 202, .int (iI x1), .int (iI x2), u3, u4, u5] [] m) := (s_cv1 (Lc := [.ref 202, .int (iI xs0), .retAddr 0, .retAddr 0, .retAddr 0, .retAddr 0]) p_24_53 (by decide) (by decide) (zM_of zq_22) ⟨Nat.le_of_ble_eq_true rfl, Nat.le_of_ble_eq_true rfl⟩ rfl (m_rc hs_202 ⟨rfl, by decide⟩))
theorem b_24_56 {x1 : Int} {x2 : Int} {xs0 : Int} {u3 u4 u5 : Value} : Z e (d + 1) 24 56 [.ref 202, .int (iI x1), .int (iI x2), u3, u4, u5] [.int (iI xs0)] m = (Z e d 104 0 [.ref 8, .int (iI x1), .int (iI 2)] [] m).bind (ZK e (d + 1) 24 91 [.ref 202, .int (iI x1), .int (iI x2), .int (iI (if ¬ (wr xs0) = 0 then 1 else 0)), .int (iI (if (20 ≤ (wr (jrem x2 24))) ∨ ((wr (jrem x2 24)) < 6) then 2 else 0)), u5] [] m) := Eq.trans (Eq.trans ((s_z_eq_f p_24_56 rfl rfl)) <| Eq.trans (ite_cg ((s_const p_24_59).trans <| (s_goto p_24_60 rfl).trans <| rfl) ((s_const p_24_63).trans <| rfl)) (phi1 (fun z0 => Z e (d + 1) 24 64 [.ref 202, .int (iI x1), .int (iI x2), u3, u4, u5] [.int (iI z0)] m))) <| (s_is_3 cat_i p_24_64).trans <| (s_il_2 p_24_65).trans <| (s_cs1 (Lc := [.int (iI x2), .retAddr 0]) p_24_66 (by decide) (zM_of zq_122) ⟨Nat.le_of_ble_eq_true rfl, Nat.le_of_ble_eq_true rfl⟩ rfl).trans <| (bd b_122_0).trans <| ri_k.trans <| Eq.trans (Eq.trans ((s_beq_f p_24_69 rfl)) <| Eq.trans (ite_cg ((s_const p_24_72).trans <| (s_goto p_24_73 rfl).trans <| rfl) ((s_const p_24_76).trans <| rfl)) (phi1 (fun z0 => Z e (d + 1) 24 77 [.ref 202, .int (iI x1), .int (iI x2), .int (iI (if ¬ (wr xs0) = 0 then 1 else 0)), u4, u5] [.int (iI z0)] m))) <| (s_is_4 cat_i p_24_77).trans <| (s_al_0 p_24_79).trans <| (s_getr p_24_80 hs_202 (by decide) rfl).trans <| (s_getr p_24_83 hs_1 (by decide) rfl).trans <| (s_il_1 p_24_86).trans <| (s_const p_24_87).trans <| (s_cv2 (Lc := [.ref 8, .int (iI x1), .int (iI 2)]) p_24_88 (by decide) (by decide) (zM_of zq_104) ⟨Nat.le_of_ble_eq_true rfl, Nat.le_of_ble_eq_true rfl⟩ rfl (m_rc hs_8 ⟨rfl, by decide⟩))
theorem b_24_91 {x1 : Int} {x3 : Int} {x4 : Int} {xs0 : Int} {u2 u5 : Value} : Z e (d + 1) 24 91 [.ref 202, .int (iI x1), u2, .int (iI x3), .int (iI x4), u5] [.int (iI xs0)] m = ck (0 ≤ (wr x1) ∧ (wr x1) < 24) ((Z e d 25 0 [.ref 202, .int (iI x1), .retAddr 0, .retAddr 0, .retAddr 0] [] (um m 205 (wr x1) (jor (jor x3 x4) (if ¬ (wr xs0) = (-1) then 4 else 0)))).bind (ZK e (d + 1) 24 125 [.ref 202, .int (iI x1), u2, .int (iI x3), .int (iI x4), .int (iI (if ¬ (wr xs0) = (-1) then 4 else 0))] [.int (iI x1), .ref 204] (um m 205 (wr x1) (jor (jor x3 x4) (if ¬ (wr xs0) = (-1) then 4 else 0))))) := (s_const p_24_91).trans <| Eq.trans (Eq.trans ((s_c_eq_f p_24_92 rfl rfl wl_m1)) <| Eq.trans (ite_cg ((s_const p_24_95).trans <| (s_goto p_24_96 rfl).trans <| rfl) ((s_const p_24_99).trans <| rfl)) (phi1 (fun z0 => Z e (d + 1) 24 100 [.ref 202, .int (iI x1), u2, .int (iI x3), .int (iI x4), u5] [.int (iI z0)] m))) <| (s_is_5 cat_i p_24_100).trans <| (s_al_0 p_24_102).trans <| (s_getr p_24_103 hs_202 (by decide) rfl).trans <| (s_il_1 p_24_106).trans <| (s_il_3 p_24_107).trans <| (s_il_4 p_24_108).trans <| (s_ior p_24_110).trans <| (s_il_5 p_24_111).trans <| (s_ior p_24_113).trans <| (s_ast 24 p_24_114 hs_205 rfl).trans <| ck_cg fun k1 => (s_al_0 p_24_115).trans <| (s_getr p_24_116 hs_202 (by decide) rfl).trans <| (s_il_1 p_24_119).trans <| (s_al_0 p_24_120).trans <| (s_il_1 p_24_121).trans <| (s_cv1 (Lc := [.ref 202, .int (iI x1), .retAddr 0, .retAddr 0, .retAddr 0]) p_24_122 (by decide) (by decide) (zM_of zq_25) ⟨Nat.le_of_ble_eq_true rfl, Nat.le_of_ble_eq_true rfl⟩ rfl (m_rc hs_202 ⟨rfl, by decide⟩))
theorem b_24_125 {x1 : Int} {xs0 : Int} {xs1 : Int} {u2 u3 u4 u5 : Value} : Z e (d + 1) 24 125 [.ref 202, .int (iI x1), u2, u3, u4, u5] [.int (iI xs0), .int (iI xs1), .ref 204] m = ck (0 ≤ (wr xs1) ∧ (wr xs1) < 24) (Z e (d + 1) 24 2 [.ref 202, .int (iI (x1 + 1)), u2, u3, u4, u5] [] (um m 204 (wr xs1) xs0)) := (s_ast 24 p_24_125 hs_204 rfl).trans <| ck_cg fun k1 => (s_inc_1 cat_r p_24_126).trans <| (s_goto p_24_129 rfl).trans <| rfl
-- Law.asAt
theorem p_19_0 : zP1 19 0 = some (.aload_n 0, 0, 0, 0) := zp_l zq_19 rfl
theorem p_19_1 : zP1 19 1 = some (.getfield 9, 1, 2, 0) := zp_r zq_19 rfl
theorem p_19_4 : zP1 19 4 = some (.ifCond .eq 19, 0, 0, 0) := zp_l zq_19 rfl
theorem p_19_7 : zP1 19 7 = some (.aload_n 0, 0, 0, 0) := zp_l zq_19 rfl
theorem p_19_8 : zP1 19 8 = some (.iconst 0, 0, 0, 0) := zp_l zq_19 rfl
theorem p_19_9 : zP1 19 9 = some (.putfield 9, 1, 2, 1) := zp_r zq_19 rfl
theorem p_19_12 : zP1 19 12 = some (.aload_n 0, 0, 0, 0) := zp_l zq_19 rfl
theorem p_19_13 : zP1 19 13 = some (.getfield 33, 1, 1, 0) := zp_r zq_19 rfl
theorem p_19_16 : zP1 19 16 = some (.invokevirtual 37, 90, 0, 5) := zp_r zq_19 rfl
theorem p_19_19 : zP1 19 19 = some (.aload_n 0, 0, 0, 0) := zp_l zq_19 rfl
theorem p_19_20 : zP1 19 20 = some (.invokevirtual 42, 24, 0, 1) := zp_r zq_19 rfl
theorem p_19_23 : zP1 19 23 = some (.aload_n 0, 0, 0, 0) := zp_l zq_19 rfl
theorem p_19_24 : zP1 19 24 = some (.iload_n 1, 0, 0, 0) := zp_l zq_19 rfl
theorem p_19_25 : zP1 19 25 = some (.invokevirtual 45, 20, 1, 1) := zp_r zq_19 rfl
theorem p_19_28 : zP1 19 28 = some (.return_, 0, 0, 0) := zp_l zq_19 rfl
theorem b_19_0 {x1 : Int} : Z e (d + 1) 19 0 [.ref 202, .int (iI x1)] [] m = (if ¬ (wr (m 202 2)) = 0 then (Z e d 90 0 [.ref 191, .retAddr 0] [] (um m 202 2 0)).bind (ZK e (d + 1) 19 19 [.ref 202, .int (iI x1)] [] (um m 202 2 0)) else Z e (d + 1) 19 23 [.ref 202, .int (iI x1)] [] m) := (s_al_0 p_19_0).trans <| (s_get p_19_1 hs_202 (by decide) rfl).trans <| Eq.trans ((s_z_eq_f p_19_4 rfl rfl)) <| ite_cg ((s_al_0 p_19_7).trans <| (s_const p_19_8).trans <| (s_putk p_19_9 rfl hs_202 (by decide) rfl).trans <| (s_al_0 p_19_12).trans <| (s_getr p_19_13 hs_202 (by decide) rfl).trans <| (s_cv0 (Lc := [.ref 191, .retAddr 0]) p_19_16 (by decide) (by decide) (zM_of zq_90) ⟨Nat.le_of_ble_eq_true rfl, Nat.le_of_ble_eq_true rfl⟩ rfl (m_rc hs_191 ⟨rfl, by decide⟩))) (rfl)
theorem b_19_23 {x1 : Int} : Z e (d + 1) 19 23 [.ref 202, .int (iI x1)] [] m = (Z e d 20 0 [.ref 202, .int (iI x1), .retAddr 0, .retAddr 0, .retAddr 0] [] m).bind (ZK e (d + 1) 19 28 [.ref 202, .int (iI x1)] [] m) := (s_al_0 p_19_23).trans <| (s_il_1 p_19_24).trans <| (s_cv1 (Lc := [.ref 202, .int (iI x1), .retAddr 0, .retAddr 0, .retAddr 0]) p_19_25 (by decide) (by decide) (zM_of zq_20) ⟨Nat.le_of_ble_eq_true rfl, Nat.le_of_ble_eq_true rfl⟩ rfl (m_rc hs_202 ⟨rfl, by decide⟩))
theorem b_19_19 {x1 : Int} : Z e (d + 1) 19 19 [.ref 202, .int (iI x1)] [] m = (Z e d 24 0 [.ref 202, .retAddr 0, .retAddr 0, .retAddr 0, .retAddr 0, .retAddr 0] [] m).bind (ZK e (d + 1) 19 23 [.ref 202, .int (iI x1)] [] m) := (s_al_0 p_19_19).trans <| (s_cv0 (Lc := [.ref 202, .retAddr 0, .retAddr 0, .retAddr 0, .retAddr 0, .retAddr 0]) p_19_20 (by decide) (by decide) (zM_of zq_24) ⟨Nat.le_of_ble_eq_true rfl, Nat.le_of_ble_eq_true rfl⟩ rfl (m_rc hs_202 ⟨rfl, by decide⟩))
theorem b_19_28 {u0 u1 : Value} : Z e (d + 1) 19 28 [u0, u1] [] m = rn m := (s_retv p_19_28 (zM_of zq_19))
-- Math.max
theorem p_324_0 : zP1 324 0 = some (.iload_n 0, 0, 0, 0) := zp_l zq_324 rfl
theorem p_324_1 : zP1 324 1 = some (.iload_n 1, 0, 0, 0) := zp_l zq_324 rfl
theorem p_324_2 : zP1 324 2 = some (.if_icmp .lt 7, 0, 0, 0) := zp_l zq_324 rfl
theorem p_324_5 : zP1 324 5 = some (.iload_n 0, 0, 0, 0) := zp_l zq_324 rfl
theorem p_324_6 : zP1 324 6 = some (.goto 4, 0, 0, 0) := zp_l zq_324 rfl
theorem p_324_9 : zP1 324 9 = some (.iload_n 1, 0, 0, 0) := zp_l zq_324 rfl
theorem p_324_10 : zP1 324 10 = some (.ireturn, 0, 0, 0) := zp_l zq_324 rfl
theorem b_324_0 {x0 : Int} {x1 : Int} : Z e d 324 0 [.int (iI x0), .int (iI x1)] [] m = ri (if (wr x1) ≤ (wr x0) then x0 else x1) m := (s_il_0 p_324_0).trans <| (s_il_1 p_324_1).trans <| Eq.trans (Eq.trans ((s_c_lt_f p_324_2 rfl rfl rfl)) <| Eq.trans (ite_cg ((s_il_0 p_324_5).trans <| (s_goto p_324_6 rfl).trans <| rfl) ((s_il_1 p_324_9).trans <| rfl)) (phi1 (fun z0 => Z e d 324 10 [.int (iI x0), .int (iI x1)] [.int (iI z0)] m))) <| (s_reti p_324_10 (zM_of zq_324))
-- Law.degreeOf
theorem p_23_0 : zP1 23 0 = some (.aload_n 0, 0, 0, 0) := zp_l zq_23 rfl
theorem p_23_1 : zP1 23 1 = some (.iload_n 1, 0, 0, 0) := zp_l zq_23 rfl
theorem p_23_2 : zP1 23 2 = some (.invokevirtual 108, 22, 1, 1) := zp_r zq_23 rfl
theorem p_23_5 : zP1 23 5 = some (.istore_n 2, 0, 0, 0) := zp_l zq_23 rfl
theorem p_23_6 : zP1 23 6 = some (.iload_n 2, 0, 0, 0) := zp_l zq_23 rfl
theorem p_23_7 : zP1 23 7 = some (.ifCond .ne 5, 0, 0, 0) := zp_l zq_23 rfl
theorem p_23_10 : zP1 23 10 = some (.iconst 0, 0, 0, 0) := zp_l zq_23 rfl
theorem p_23_11 : zP1 23 11 = some (.ireturn, 0, 0, 0) := zp_l zq_23 rfl
theorem p_23_12 : zP1 23 12 = some (.iconst 0, 0, 0, 0) := zp_l zq_23 rfl
theorem p_23_13 : zP1 23 13 = some (.istore_n 3, 0, 0, 0) := zp_l zq_23 rfl
theorem p_23_14 : zP1 23 14 = some (.iconst 0, 0, 0, 0) := zp_l zq_23 rfl
theorem p_23_15 : zP1 23 15 = some (.istore 4, 0, 0, 0) := zp_l zq_23 rfl
theorem p_23_17 : zP1 23 17 = some (.iload 4, 0, 0, 0) := zp_l zq_23 rfl
theorem p_23_19 : zP1 23 19 = some (.bipush 6, 0, 0, 0) := zp_l zq_23 rfl
theorem p_23_21 : zP1 23 21 = some (.if_icmp .ge 37, 0, 0, 0) := zp_l zq_23 rfl
theorem p_23_24 : zP1 23 24 = some (.iload_n 2, 0, 0, 0) := zp_l zq_23 rfl
theorem p_23_25 : zP1 23 25 = some (.iload 4, 0, 0, 0) := zp_l zq_23 rfl
theorem p_23_27 : zP1 23 27 = some (.ishr, 0, 0, 0) := zp_l zq_23 rfl
theorem p_23_28 : zP1 23 28 = some (.iconst 1, 0, 0, 0) := zp_l zq_23 rfl
theorem p_23_29 : zP1 23 29 = some (.iand, 0, 0, 0) := zp_l zq_23 rfl
theorem p_23_30 : zP1 23 30 = some (.iconst 1, 0, 0, 0) := zp_l zq_23 rfl
theorem p_23_31 : zP1 23 31 = some (.if_icmp .ne 21, 0, 0, 0) := zp_l zq_23 rfl
theorem p_23_34 : zP1 23 34 = some (.iload_n 3, 0, 0, 0) := zp_l zq_23 rfl
theorem p_23_35 : zP1 23 35 = some (.aload_n 0, 0, 0, 0) := zp_l zq_23 rfl
theorem p_23_36 : zP1 23 36 = some (.getfield 29, 1, 0, 0) := zp_r zq_23 rfl
theorem p_23_39 : zP1 23 39 = some (.getfield 90, 9, 6, 0) := zp_r zq_23 rfl
theorem p_23_42 : zP1 23 42 = some (.iload 4, 0, 0, 0) := zp_l zq_23 rfl
theorem p_23_44 : zP1 23 44 = some (.iconst 1, 0, 0, 0) := zp_l zq_23 rfl
theorem p_23_45 : zP1 23 45 = some (.invokevirtual 97, 104, 2, 7) := zp_r zq_23 rfl
theorem p_23_48 : zP1 23 48 = some (.invokestatic 112, 324, 2, 0) := zp_r zq_23 rfl
theorem p_23_51 : zP1 23 51 = some (.istore_n 3, 0, 0, 0) := zp_l zq_23 rfl
theorem p_23_52 : zP1 23 52 = some (.iinc 4 1, 0, 0, 0) := zp_l zq_23 rfl
theorem p_23_55 : zP1 23 55 = some (.goto (-38), 0, 0, 0) := zp_l zq_23 rfl
theorem p_23_58 : zP1 23 58 = some (.aload_n 0, 0, 0, 0) := zp_l zq_23 rfl
theorem p_23_59 : zP1 23 59 = some (.getfield 29, 1, 0, 0) := zp_r zq_23 rfl
theorem p_23_62 : zP1 23 62 = some (.getfield 117, 9, 3, 0) := zp_r zq_23 rfl
theorem p_23_65 : zP1 23 65 = some (.iload_n 1, 0, 0, 0) := zp_l zq_23 rfl
theorem p_23_66 : zP1 23 66 = some (.iaload, 0, 0, 0) := zp_l zq_23 rfl
theorem p_23_67 : zP1 23 67 = some (.istore 4, 0, 0, 0) := zp_l zq_23 rfl
theorem p_23_69 : zP1 23 69 = some (.iload_n 3, 0, 0, 0) := zp_l zq_23 rfl
theorem p_23_70 : zP1 23 70 = some (.iload 4, 0, 0, 0) := zp_l zq_23 rfl
theorem p_23_72 : zP1 23 72 = some (.iconst 2, 0, 0, 0) := zp_l zq_23 rfl
theorem p_23_73 : zP1 23 73 = some (.if_icmp .ne 7, 0, 0, 0) := zp_l zq_23 rfl
theorem p_23_76 : zP1 23 76 = some (.iconst 1, 0, 0, 0) := zp_l zq_23 rfl
theorem p_23_77 : zP1 23 77 = some (.goto 14, 0, 0, 0) := zp_l zq_23 rfl
theorem p_23_80 : zP1 23 80 = some (.iload 4, 0, 0, 0) := zp_l zq_23 rfl
theorem p_23_82 : zP1 23 82 = some (.iconst 3, 0, 0, 0) := zp_l zq_23 rfl
theorem p_23_83 : zP1 23 83 = some (.if_icmp .ne 7, 0, 0, 0) := zp_l zq_23 rfl
theorem p_23_86 : zP1 23 86 = some (.iconst 3, 0, 0, 0) := zp_l zq_23 rfl
theorem p_23_87 : zP1 23 87 = some (.goto 4, 0, 0, 0) := zp_l zq_23 rfl
theorem p_23_90 : zP1 23 90 = some (.iconst 0, 0, 0, 0) := zp_l zq_23 rfl
theorem p_23_91 : zP1 23 91 = some (.iadd, 0, 0, 0) := zp_l zq_23 rfl
theorem p_23_92 : zP1 23 92 = some (.ireturn, 0, 0, 0) := zp_l zq_23 rfl
theorem b_23_0 {x1 : Int} : Z e (d + 1) 23 0 [.ref 202, .int (iI x1), .retAddr 0, .retAddr 0, .retAddr 0] [] m = (Z e d 22 0 [.ref 202, .int (iI x1), .retAddr 0, .retAddr 0, .retAddr 0, .retAddr 0] [] m).bind (ZK e (d + 1) 23 5 [.ref 202, .int (iI x1), .retAddr 0, .retAddr 0, .retAddr 0] [] m) := (s_al_0 p_23_0).trans <| (s_il_1 p_23_1).trans <| (s_cv1 (Lc := [.ref 202, .int (iI x1), .retAddr 0, .retAddr 0, .retAddr 0, .retAddr 0]) p_23_2 (by decide) (by decide) (zM_of zq_22) ⟨Nat.le_of_ble_eq_true rfl, Nat.le_of_ble_eq_true rfl⟩ rfl (m_rc hs_202 ⟨rfl, by decide⟩))
theorem b_23_5 {x1 : Int} {xs0 : Int} {u2 u3 u4 : Value} : Z e (d + 1) 23 5 [.ref 202, .int (iI x1), u2, u3, u4] [.int (iI xs0)] m = (if (wr xs0) = 0 then ri 0 m else Z e (d + 1) 23 17 [.ref 202, .int (iI x1), .int (iI xs0), .int (iI 0), .int (iI 0)] [] m) := (s_is_2 cat_i p_23_5).trans <| (s_il_2 p_23_6).trans <| Eq.trans ((s_z_ne_f p_23_7 rfl rfl)) <| ite_cg ((s_const p_23_10).trans <| (s_reti p_23_11 (zM_of zq_23))) ((s_const p_23_12).trans <| (s_is_3 cat_i p_23_13).trans <| (s_const p_23_14).trans <| (s_is_4 cat_i p_23_15).trans <| rfl)
theorem b_23_17 {x1 : Int} {x2 : Int} {x3 : Int} {x4 : Int} : Z e (d + 1) 23 17 [.ref 202, .int (iI x1), .int (iI x2), .int (iI x3), .int (iI x4)] [] m = (if (wr x4) < 6 then (if (jand (jshr x2 x4) 1) = 1 then (Z e d 104 0 [.ref 6, .int (iI x4), .int (iI 1)] [] m).bind (ZK e (d + 1) 23 48 [.ref 202, .int (iI x1), .int (iI x2), .int (iI x3), .int (iI x4)] [.int (iI x3)] m) else Z e (d + 1) 23 17 [.ref 202, .int (iI x1), .int (iI x2), .int (iI x3), .int (iI (x4 + 1))] [] m) else Z e (d + 1) 23 58 [.ref 202, .int (iI x1), .int (iI x2), .int (iI x3), .int (iI x4)] [] m) := (s_il_4 p_23_17).trans <| (s_bip p_23_19 rfl).trans <| Eq.trans ((s_c_ge_f p_23_21 rfl rfl wl_6)) <| ite_cg ((s_il_2 p_23_24).trans <| (s_il_4 p_23_25).trans <| (s_ishr p_23_27).trans <| (s_const p_23_28).trans <| (s_iand p_23_29).trans <| (s_const p_23_30).trans <| Eq.trans ((s_c_ne_f p_23_31 rfl wr_jand wl_1)) <| ite_cg ((s_il_3 p_23_34).trans <| (s_al_0 p_23_35).trans <| (s_getr p_23_36 hs_202 (by decide) rfl).trans <| (s_getr p_23_39 hs_1 (by decide) rfl).trans <| (s_il_4 p_23_42).trans <| (s_const p_23_44).trans <| (s_cv2 (Lc := [.ref 6, .int (iI x4), .int (iI 1)]) p_23_45 (by decide) (by decide) (zM_of zq_104) ⟨Nat.le_of_ble_eq_true rfl, Nat.le_of_ble_eq_true rfl⟩ rfl (m_rc hs_6 ⟨rfl, by decide⟩))) ((s_inc_4 cat_i p_23_52).trans <| (s_goto p_23_55 rfl).trans <| rfl)) (rfl)
theorem b_23_58 {x1 : Int} {x3 : Int} {u2 u4 : Value} : Z e (d + 1) 23 58 [.ref 202, .int (iI x1), u2, .int (iI x3), u4] [] m = ck (0 ≤ (wr x1) ∧ (wr x1) < 100) (ri (x3 + (if (wr (m 2 (wr x1))) = 2 then 1 else (if (wr (m 2 (wr x1))) = 3 then 3 else 0))) m) := (s_al_0 p_23_58).trans <| (s_getr p_23_59 hs_202 (by decide) rfl).trans <| (s_getr p_23_62 hs_1 (by decide) rfl).trans <| (s_il_1 p_23_65).trans <| (s_ald 100 p_23_66 hs_2 rfl (by decide)).trans <| ck_cg fun k1 => (s_is_4 cat_i p_23_67).trans <| (s_il_3 p_23_69).trans <| (s_il_4 p_23_70).trans <| (s_const p_23_72).trans <| Eq.trans (Eq.trans ((s_c_ne_f p_23_73 rfl rfl wl_2)) <| Eq.trans (ite_cg ((s_const p_23_76).trans <| (s_goto p_23_77 rfl).trans <| rfl) ((s_il_4 p_23_80).trans <| (s_const p_23_82).trans <| Eq.trans (Eq.trans ((s_c_ne_f p_23_83 rfl rfl wl_3)) <| Eq.trans (ite_cg ((s_const p_23_86).trans <| (s_goto p_23_87 rfl).trans <| rfl) ((s_const p_23_90).trans <| rfl)) (phi1 (fun z0 => Z e (d + 1) 23 91 [.ref 202, .int (iI x1), u2, .int (iI x3), .int (iI (m 2 (wr x1)))] [.int (iI z0), .int (iI x3)] m))) <| rfl)) (phi1 (fun z0 => Z e (d + 1) 23 91 [.ref 202, .int (iI x1), u2, .int (iI x3), .int (iI (m 2 (wr x1)))] [.int (iI z0), .int (iI x3)] m))) <| (s_iadd p_23_91).trans <| (s_reti p_23_92 (zM_of zq_23))
theorem b_23_48 {x1 : Int} {x2 : Int} {x4 : Int} {xs0 : Int} {xs1 : Int} {u3 : Value} : Z e (d + 1) 23 48 [.ref 202, .int (iI x1), .int (iI x2), u3, .int (iI x4)] [.int (iI xs0), .int (iI xs1)] m = Z e (d + 1) 23 17 [.ref 202, .int (iI x1), .int (iI x2), .int (iI (if (wr xs0) ≤ (wr xs1) then xs1 else xs0)), .int (iI (x4 + 1))] [] m := (s_cs2 (Lc := [.int (iI xs1), .int (iI xs0)]) p_23_48 (by decide) (zM_of zq_324) ⟨Nat.le_of_ble_eq_true rfl, Nat.le_of_ble_eq_true rfl⟩ rfl).trans <| (bd b_324_0).trans <| ri_k.trans <| (s_is_3 cat_i p_23_51).trans <| (s_inc_4 cat_i p_23_52).trans <| (s_goto p_23_55 rfl).trans <| rfl
end BK
