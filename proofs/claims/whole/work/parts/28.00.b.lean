/-! Equations of blocks. By program. -/
theorem wl_m3 : wr (-3) = (-3) := rfl
theorem wl_m1 : wr (-1) = (-1) := rfl
theorem wl_0 : wr 0 = 0 := rfl
theorem wl_1 : wr 1 = 1 := rfl
theorem wl_2 : wr 2 = 2 := rfl
theorem wl_3 : wr 3 = 3 := rfl
theorem wl_4 : wr 4 = 4 := rfl
theorem wl_5 : wr 5 = 5 := rfl
theorem wl_6 : wr 6 = 6 := rfl
theorem wl_7 : wr 7 = 7 := rfl
theorem wl_8 : wr 8 = 8 := rfl
theorem wl_9 : wr 9 = 9 := rfl
theorem wl_10 : wr 10 = 10 := rfl
theorem wl_11 : wr 11 = 11 := rfl
theorem wl_12 : wr 12 = 12 := rfl
theorem wl_14 : wr 14 = 14 := rfl
theorem wl_16 : wr 16 = 16 := rfl
theorem wl_18 : wr 18 = 18 := rfl
theorem wl_20 : wr 20 = 20 := rfl
theorem wl_24 : wr 24 = 24 := rfl
theorem wl_30 : wr 30 = 30 := rfl
theorem wl_32 : wr 32 = 32 := rfl
theorem wl_40 : wr 40 = 40 := rfl
theorem wl_48 : wr 48 = 48 := rfl
theorem wl_57 : wr 57 = 57 := rfl
theorem wl_60 : wr 60 = 60 := rfl
theorem wl_97 : wr 97 = 97 := rfl
theorem wl_100 : wr 100 = 100 := rfl
theorem wl_122 : wr 122 = 122 := rfl
theorem wl_256 : wr 256 = 256 := rfl
theorem wl_300 : wr 300 = 300 := rfl
theorem wl_1000 : wr 1000 = 1000 := rfl
theorem wl_2737 : wr 2737 = 2737 := rfl
theorem wl_3000 : wr 3000 = 3000 := rfl
theorem wl_4000 : wr 4000 = 4000 := rfl
theorem wl_4001 : wr 4001 = 4001 := rfl
theorem wl_9999 : wr 9999 = 9999 := rfl
theorem wl_1000000 : wr 1000000 = 1000000 := rfl
section BK
variable {e : List Int32 × Value} {d : Nat} {m : zMm}
-- Arrays.fill
theorem p_332_0 : zP1 332 0 = some (.iconst 0, 0, 0, 0) := zp_l zq_332 rfl
theorem p_332_1 : zP1 332 1 = some (.istore_n 2, 0, 0, 0) := zp_l zq_332 rfl
theorem p_332_2 : zP1 332 2 = some (.aload_n 0, 0, 0, 0) := zp_l zq_332 rfl
theorem p_332_3 : zP1 332 3 = some (.arraylength, 0, 0, 0) := zp_l zq_332 rfl
theorem p_332_4 : zP1 332 4 = some (.istore_n 3, 0, 0, 0) := zp_l zq_332 rfl
theorem p_332_5 : zP1 332 5 = some (.iload_n 2, 0, 0, 0) := zp_l zq_332 rfl
theorem p_332_6 : zP1 332 6 = some (.iload_n 3, 0, 0, 0) := zp_l zq_332 rfl
theorem p_332_7 : zP1 332 7 = some (.if_icmp .ge 13, 0, 0, 0) := zp_l zq_332 rfl
theorem p_332_10 : zP1 332 10 = some (.aload_n 0, 0, 0, 0) := zp_l zq_332 rfl
theorem p_332_11 : zP1 332 11 = some (.iload_n 2, 0, 0, 0) := zp_l zq_332 rfl
theorem p_332_12 : zP1 332 12 = some (.iload_n 1, 0, 0, 0) := zp_l zq_332 rfl
theorem p_332_13 : zP1 332 13 = some (.iastore, 0, 0, 0) := zp_l zq_332 rfl
theorem p_332_14 : zP1 332 14 = some (.iinc 2 1, 0, 0, 0) := zp_l zq_332 rfl
theorem p_332_17 : zP1 332 17 = some (.goto (-12), 0, 0, 0) := zp_l zq_332 rfl
theorem p_332_20 : zP1 332 20 = some (.return_, 0, 0, 0) := zp_l zq_332 rfl
theorem b_332_0 {a0 n : Nat} {x1 : Int} (hA : zArr a0 n) : Z e d 332 0 [.ref a0, .int (iI x1), .retAddr 0, .retAddr 0] [] m = Z e d 332 5 [.ref a0, .int (iI x1), .int (iI 0), .int (iI (n : Int))] [] m := (s_const p_332_0).trans <| (s_is_2 cat_i p_332_1).trans <| (s_al_0 p_332_2).trans <| (s_len (n : Int) p_332_3 (hA).1 rfl (hA).2).trans <| (s_is_3 cat_i p_332_4).trans <| rfl
theorem b_332_5 {a0 n : Nat} {x1 : Int} {x2 : Int} {x3 : Int} (hA : zArr a0 n) : Z e d 332 5 [.ref a0, .int (iI x1), .int (iI x2), .int (iI x3)] [] m = (if (wr x2) < (wr x3) then ck (0 ≤ (wr x2) ∧ (wr x2) < (n : Int)) (Z e d 332 5 [.ref a0, .int (iI x1), .int (iI (x2 + 1)), .int (iI x3)] [] (um m a0 (wr x2) x1)) else rn m) := (s_il_2 p_332_5).trans <| (s_il_3 p_332_6).trans <| Eq.trans ((s_c_ge_f p_332_7 rfl rfl rfl)) <| ite_cg ((s_al_0 p_332_10).trans <| (s_il_2 p_332_11).trans <| (s_il_1 p_332_12).trans <| (s_ast (n : Int) p_332_13 (hA).1 rfl).trans <| ck_cg fun k1 => (s_inc_2 cat_i p_332_14).trans <| (s_goto p_332_17 rfl).trans <| rfl) ((s_retv p_332_20 (zM_of zq_332)))
-- Table.has
theorem p_102_0 : zP1 102 0 = some (.iload_n 1, 0, 0, 0) := zp_l zq_102 rfl
theorem p_102_1 : zP1 102 1 = some (.ifCond .lt 15, 0, 0, 0) := zp_l zq_102 rfl
theorem p_102_4 : zP1 102 4 = some (.iload_n 1, 0, 0, 0) := zp_l zq_102 rfl
theorem p_102_5 : zP1 102 5 = some (.aload_n 0, 0, 0, 0) := zp_l zq_102 rfl
theorem p_102_6 : zP1 102 6 = some (.getfield 22, 7, 3, 0) := zp_r zq_102 rfl
theorem p_102_9 : zP1 102 9 = some (.if_icmp .ge 7, 0, 0, 0) := zp_l zq_102 rfl
theorem p_102_12 : zP1 102 12 = some (.iconst 1, 0, 0, 0) := zp_l zq_102 rfl
theorem p_102_13 : zP1 102 13 = some (.goto 4, 0, 0, 0) := zp_l zq_102 rfl
theorem p_102_16 : zP1 102 16 = some (.iconst 0, 0, 0, 0) := zp_l zq_102 rfl
theorem p_102_17 : zP1 102 17 = some (.ireturn, 0, 0, 0) := zp_l zq_102 rfl
theorem b_102_0 {a ca w mx : Nat} {x1 : Int} (hT : zTab a ca w mx) : Z e d 102 0 [.ref a, .int (iI x1)] [] m = ri (if (0 ≤ (wr x1)) ∧ ((wr x1) < (wr (m a 3))) then 1 else 0) m := (s_il_1 p_102_0).trans <| Eq.trans (Eq.trans (Eq.trans (s_z_lt_f p_102_1 rfl rfl) <| Eq.trans (ite_cg ((s_il_1 p_102_4).trans <| (s_al_0 p_102_5).trans <| (s_get p_102_6 (hT).1 (by decide) rfl).trans <| (s_c_ge_f p_102_9 rfl rfl rfl)) rfl) co_and) <| Eq.trans (ite_cg ((s_const p_102_12).trans <| (s_goto p_102_13 rfl).trans <| rfl) ((s_const p_102_16).trans <| rfl)) (phi1 (fun z0 => Z e d 102 17 [.ref a, .int (iI x1)] [.int (iI z0)] m))) <| (s_retb p_102_17 (zM_of zq_102))
-- Table.get
theorem p_104_0 : zP1 104 0 = some (.iload_n 1, 0, 0, 0) := zp_l zq_104 rfl
theorem p_104_1 : zP1 104 1 = some (.ifCond .lt 23, 0, 0, 0) := zp_l zq_104 rfl
theorem p_104_4 : zP1 104 4 = some (.iload_n 1, 0, 0, 0) := zp_l zq_104 rfl
theorem p_104_5 : zP1 104 5 = some (.aload_n 0, 0, 0, 0) := zp_l zq_104 rfl
theorem p_104_6 : zP1 104 6 = some (.getfield 22, 7, 3, 0) := zp_r zq_104 rfl
theorem p_104_9 : zP1 104 9 = some (.if_icmp .ge 15, 0, 0, 0) := zp_l zq_104 rfl
theorem p_104_12 : zP1 104 12 = some (.iload_n 2, 0, 0, 0) := zp_l zq_104 rfl
theorem p_104_13 : zP1 104 13 = some (.ifCond .lt 11, 0, 0, 0) := zp_l zq_104 rfl
theorem p_104_16 : zP1 104 16 = some (.iload_n 2, 0, 0, 0) := zp_l zq_104 rfl
theorem p_104_17 : zP1 104 17 = some (.aload_n 0, 0, 0, 0) := zp_l zq_104 rfl
theorem p_104_18 : zP1 104 18 = some (.getfield 15, 7, 0, 0) := zp_r zq_104 rfl
theorem p_104_21 : zP1 104 21 = some (.if_icmp .lt 6, 0, 0, 0) := zp_l zq_104 rfl
theorem p_104_24 : zP1 104 24 = some (.bipush (-3), 0, 0, 0) := zp_l zq_104 rfl
theorem p_104_26 : zP1 104 26 = some (.ireturn, 0, 0, 0) := zp_l zq_104 rfl
theorem p_104_27 : zP1 104 27 = some (.aload_n 0, 0, 0, 0) := zp_l zq_104 rfl
theorem p_104_28 : zP1 104 28 = some (.getfield 18, 7, 1, 0) := zp_r zq_104 rfl
theorem p_104_31 : zP1 104 31 = some (.iload_n 1, 0, 0, 0) := zp_l zq_104 rfl
theorem p_104_32 : zP1 104 32 = some (.aload_n 0, 0, 0, 0) := zp_l zq_104 rfl
theorem p_104_33 : zP1 104 33 = some (.getfield 15, 7, 0, 0) := zp_r zq_104 rfl
theorem p_104_36 : zP1 104 36 = some (.imul, 0, 0, 0) := zp_l zq_104 rfl
theorem p_104_37 : zP1 104 37 = some (.iload_n 2, 0, 0, 0) := zp_l zq_104 rfl
theorem p_104_38 : zP1 104 38 = some (.iadd, 0, 0, 0) := zp_l zq_104 rfl
theorem p_104_39 : zP1 104 39 = some (.iaload, 0, 0, 0) := zp_l zq_104 rfl
theorem p_104_40 : zP1 104 40 = some (.ireturn, 0, 0, 0) := zp_l zq_104 rfl
theorem b_104_0 {a ca w mx : Nat} {x1 : Int} {x2 : Int} (hT : zTab a ca w mx) : Z e d 104 0 [.ref a, .int (iI x1), .int (iI x2)] [] m = (if ((wr x1) < 0) ∨ (((wr (m a 3)) ≤ (wr x1)) ∨ (((wr x2) < 0) ∨ ((wr (w : Int)) ≤ (wr x2)))) then ri (-3) m else ck (0 ≤ (wr ((x1 * (w : Int)) + x2)) ∧ (wr ((x1 * (w : Int)) + x2)) < ((mx * w : Nat) : Int)) (ri (m ca (wr ((x1 * (w : Int)) + x2))) m)) := (s_il_1 p_104_0).trans <| Eq.trans (Eq.trans (s_z_lt_t p_104_1 rfl rfl) <| Eq.trans (ite_cg rfl ((s_il_1 p_104_4).trans <| (s_al_0 p_104_5).trans <| (s_get p_104_6 (hT).1 (by decide) rfl).trans <| Eq.trans (s_c_ge_t p_104_9 rfl rfl rfl) <| Eq.trans (ite_cg rfl ((s_il_2 p_104_12).trans <| Eq.trans (s_z_lt_t p_104_13 rfl rfl) <| Eq.trans (ite_cg rfl ((s_il_2 p_104_16).trans <| (s_al_0 p_104_17).trans <| (s_getr p_104_18 (hT).1 (by decide) rfl).trans <| (s_c_lt_f p_104_21 rfl rfl rfl))) co_or)) co_or)) co_or) <| ite_cg ((s_bip p_104_24 rfl).trans <| (s_reti p_104_26 (zM_of zq_104))) ((s_al_0 p_104_27).trans <| (s_getr p_104_28 (hT).1 (by decide) rfl).trans <| (s_il_1 p_104_31).trans <| (s_al_0 p_104_32).trans <| (s_getr p_104_33 (hT).1 (by decide) rfl).trans <| (s_imul p_104_36).trans <| (s_il_2 p_104_37).trans <| (s_iadd p_104_38).trans <| (s_ald ((mx * w : Nat) : Int) p_104_39 (hT.2).1 rfl (hT.2).2).trans <| ck_cg fun k1 => (s_reti p_104_40 (zM_of zq_104)))
-- Law.forget
theorem p_18_0 : zP1 18 0 = some (.aload_n 0, 0, 0, 0) := zp_l zq_18 rfl
theorem p_18_1 : zP1 18 1 = some (.iconst 1, 0, 0, 0) := zp_l zq_18 rfl
theorem p_18_2 : zP1 18 2 = some (.putfield 9, 1, 2, 1) := zp_r zq_18 rfl
theorem p_18_5 : zP1 18 5 = some (.return_, 0, 0, 0) := zp_l zq_18 rfl
theorem b_18_0 : Z e d 18 0 [.ref 202] [] m = rn (um m 202 2 1) := (s_al_0 p_18_0).trans <| (s_const p_18_1).trans <| (s_putk p_18_2 rfl hs_202 (by decide) rfl).trans <| (s_retv p_18_5 (zM_of zq_18))
-- P.noCell
theorem p_194_0 : zP1 194 0 = some (.iload_n 0, 0, 0, 0) := zp_l zq_194 rfl
theorem p_194_1 : zP1 194 1 = some (.ifCond .lt 9, 0, 0, 0) := zp_l zq_194 rfl
theorem p_194_4 : zP1 194 4 = some (.iload_n 0, 0, 0, 0) := zp_l zq_194 rfl
theorem p_194_5 : zP1 194 5 = some (.bipush 100, 0, 0, 0) := zp_l zq_194 rfl
theorem p_194_7 : zP1 194 7 = some (.if_icmp .lt 7, 0, 0, 0) := zp_l zq_194 rfl
theorem p_194_10 : zP1 194 10 = some (.iconst 1, 0, 0, 0) := zp_l zq_194 rfl
theorem p_194_11 : zP1 194 11 = some (.goto 4, 0, 0, 0) := zp_l zq_194 rfl
theorem p_194_14 : zP1 194 14 = some (.iconst 0, 0, 0, 0) := zp_l zq_194 rfl
theorem p_194_15 : zP1 194 15 = some (.ireturn, 0, 0, 0) := zp_l zq_194 rfl
theorem b_194_0 {x0 : Int} : Z e d 194 0 [.int (iI x0)] [] m = ri (if ((wr x0) < 0) ∨ (100 ≤ (wr x0)) then 1 else 0) m := (s_il_0 p_194_0).trans <| Eq.trans (Eq.trans (Eq.trans (s_z_lt_t p_194_1 rfl rfl) <| Eq.trans (ite_cg rfl ((s_il_0 p_194_4).trans <| (s_bip p_194_5 rfl).trans <| (s_c_lt_f p_194_7 rfl rfl wl_100))) co_or) <| Eq.trans (ite_cg ((s_const p_194_10).trans <| (s_goto p_194_11 rfl).trans <| rfl) ((s_const p_194_14).trans <| rfl)) (phi1 (fun z0 => Z e d 194 15 [.int (iI x0)] [.int (iI z0)] m))) <| (s_retb p_194_15 (zM_of zq_194))
-- World.isWall
theorem p_123_0 : zP1 123 0 = some (.aload_n 0, 0, 0, 0) := zp_l zq_123 rfl
theorem p_123_1 : zP1 123 1 = some (.getfield 9, 9, 3, 0) := zp_r zq_123 rfl
theorem p_123_4 : zP1 123 4 = some (.iload_n 1, 0, 0, 0) := zp_l zq_123 rfl
theorem p_123_5 : zP1 123 5 = some (.iaload, 0, 0, 0) := zp_l zq_123 rfl
theorem p_123_6 : zP1 123 6 = some (.iconst 1, 0, 0, 0) := zp_l zq_123 rfl
theorem p_123_7 : zP1 123 7 = some (.if_icmp .ne 7, 0, 0, 0) := zp_l zq_123 rfl
theorem p_123_10 : zP1 123 10 = some (.iconst 1, 0, 0, 0) := zp_l zq_123 rfl
theorem p_123_11 : zP1 123 11 = some (.goto 4, 0, 0, 0) := zp_l zq_123 rfl
theorem p_123_14 : zP1 123 14 = some (.iconst 0, 0, 0, 0) := zp_l zq_123 rfl
theorem p_123_15 : zP1 123 15 = some (.ireturn, 0, 0, 0) := zp_l zq_123 rfl
theorem b_123_0 {x1 : Int} : Z e d 123 0 [.ref 1, .int (iI x1)] [] m = ck (0 ≤ (wr x1) ∧ (wr x1) < 100) (ri (if (wr (m 2 (wr x1))) = 1 then 1 else 0) m) := (s_al_0 p_123_0).trans <| (s_getr p_123_1 hs_1 (by decide) rfl).trans <| (s_il_1 p_123_4).trans <| (s_ald 100 p_123_5 hs_2 rfl (by decide)).trans <| ck_cg fun k1 => (s_const p_123_6).trans <| Eq.trans (Eq.trans ((s_c_ne_f p_123_7 rfl rfl wl_1)) <| Eq.trans (ite_cg ((s_const p_123_10).trans <| (s_goto p_123_11 rfl).trans <| rfl) ((s_const p_123_14).trans <| rfl)) (phi1 (fun z0 => Z e d 123 15 [.ref 1, .int (iI x1)] [.int (iI z0)] m))) <| (s_retb p_123_15 (zM_of zq_123))
-- Roads.spread
theorem p_88_0 : zP1 88 0 = some (.aload_n 2, 0, 0, 0) := zp_l zq_88 rfl
theorem p_88_1 : zP1 88 1 = some (.bipush (-3), 0, 0, 0) := zp_l zq_88 rfl
theorem p_88_3 : zP1 88 3 = some (.invokestatic 30, 332, 2, 0) := zp_r zq_88 rfl
theorem p_88_6 : zP1 88 6 = some (.iload_n 1, 0, 0, 0) := zp_l zq_88 rfl
theorem p_88_7 : zP1 88 7 = some (.invokestatic 36, 194, 1, 0) := zp_r zq_88 rfl
theorem p_88_10 : zP1 88 10 = some (.ifCond .ne 14, 0, 0, 0) := zp_l zq_88 rfl
theorem p_88_13 : zP1 88 13 = some (.aload_n 0, 0, 0, 0) := zp_l zq_88 rfl
theorem p_88_14 : zP1 88 14 = some (.getfield 26, 5, 0, 0) := zp_r zq_88 rfl
theorem p_88_17 : zP1 88 17 = some (.iload_n 1, 0, 0, 0) := zp_l zq_88 rfl
theorem p_88_18 : zP1 88 18 = some (.invokevirtual 40, 123, 1, 9) := zp_r zq_88 rfl
theorem p_88_21 : zP1 88 21 = some (.ifCond .eq 4, 0, 0, 0) := zp_l zq_88 rfl
theorem p_88_24 : zP1 88 24 = some (.return_, 0, 0, 0) := zp_l zq_88 rfl
theorem p_88_25 : zP1 88 25 = some (.aload_n 2, 0, 0, 0) := zp_l zq_88 rfl
theorem p_88_26 : zP1 88 26 = some (.iload_n 1, 0, 0, 0) := zp_l zq_88 rfl
theorem p_88_27 : zP1 88 27 = some (.iconst 0, 0, 0, 0) := zp_l zq_88 rfl
theorem p_88_28 : zP1 88 28 = some (.iastore, 0, 0, 0) := zp_l zq_88 rfl
theorem p_88_29 : zP1 88 29 = some (.aload_n 0, 0, 0, 0) := zp_l zq_88 rfl
theorem p_88_30 : zP1 88 30 = some (.getfield 15, 5, 2, 0) := zp_r zq_88 rfl
theorem p_88_33 : zP1 88 33 = some (.iconst 0, 0, 0, 0) := zp_l zq_88 rfl
theorem p_88_34 : zP1 88 34 = some (.iload_n 1, 0, 0, 0) := zp_l zq_88 rfl
theorem p_88_35 : zP1 88 35 = some (.iastore, 0, 0, 0) := zp_l zq_88 rfl
theorem p_88_36 : zP1 88 36 = some (.iconst 1, 0, 0, 0) := zp_l zq_88 rfl
theorem p_88_37 : zP1 88 37 = some (.istore_n 3, 0, 0, 0) := zp_l zq_88 rfl
theorem p_88_38 : zP1 88 38 = some (.iconst 0, 0, 0, 0) := zp_l zq_88 rfl
theorem p_88_39 : zP1 88 39 = some (.istore 4, 0, 0, 0) := zp_l zq_88 rfl
theorem p_88_41 : zP1 88 41 = some (.iload 4, 0, 0, 0) := zp_l zq_88 rfl
theorem p_88_43 : zP1 88 43 = some (.iload_n 3, 0, 0, 0) := zp_l zq_88 rfl
theorem p_88_44 : zP1 88 44 = some (.if_icmp .ge 114, 0, 0, 0) := zp_l zq_88 rfl
theorem p_88_47 : zP1 88 47 = some (.iload 4, 0, 0, 0) := zp_l zq_88 rfl
theorem p_88_49 : zP1 88 49 = some (.bipush 100, 0, 0, 0) := zp_l zq_88 rfl
theorem p_88_51 : zP1 88 51 = some (.if_icmp .ge 107, 0, 0, 0) := zp_l zq_88 rfl
theorem p_88_54 : zP1 88 54 = some (.aload_n 0, 0, 0, 0) := zp_l zq_88 rfl
theorem p_88_55 : zP1 88 55 = some (.getfield 15, 5, 2, 0) := zp_r zq_88 rfl
theorem p_88_58 : zP1 88 58 = some (.iload 4, 0, 0, 0) := zp_l zq_88 rfl
theorem p_88_60 : zP1 88 60 = some (.iaload, 0, 0, 0) := zp_l zq_88 rfl
theorem p_88_61 : zP1 88 61 = some (.istore 5, 0, 0, 0) := zp_l zq_88 rfl
theorem p_88_63 : zP1 88 63 = some (.iconst 4, 0, 0, 0) := zp_l zq_88 rfl
theorem p_88_64 : zP1 88 64 = some (.iload 5, 0, 0, 0) := zp_l zq_88 rfl
theorem p_88_66 : zP1 88 66 = some (.imul, 0, 0, 0) := zp_l zq_88 rfl
theorem p_88_67 : zP1 88 67 = some (.istore 6, 0, 0, 0) := zp_l zq_88 rfl
theorem p_88_69 : zP1 88 69 = some (.iload 6, 0, 0, 0) := zp_l zq_88 rfl
theorem p_88_71 : zP1 88 71 = some (.iconst 4, 0, 0, 0) := zp_l zq_88 rfl
theorem p_88_72 : zP1 88 72 = some (.iload 5, 0, 0, 0) := zp_l zq_88 rfl
theorem p_88_74 : zP1 88 74 = some (.imul, 0, 0, 0) := zp_l zq_88 rfl
theorem p_88_75 : zP1 88 75 = some (.iconst 4, 0, 0, 0) := zp_l zq_88 rfl
theorem p_88_76 : zP1 88 76 = some (.iadd, 0, 0, 0) := zp_l zq_88 rfl
theorem p_88_77 : zP1 88 77 = some (.if_icmp .ge 75, 0, 0, 0) := zp_l zq_88 rfl
theorem p_88_80 : zP1 88 80 = some (.aload_n 0, 0, 0, 0) := zp_l zq_88 rfl
theorem p_88_81 : zP1 88 81 = some (.getfield 9, 5, 1, 0) := zp_r zq_88 rfl
theorem p_88_84 : zP1 88 84 = some (.iload 6, 0, 0, 0) := zp_l zq_88 rfl
theorem p_88_86 : zP1 88 86 = some (.iaload, 0, 0, 0) := zp_l zq_88 rfl
theorem p_88_87 : zP1 88 87 = some (.istore 7, 0, 0, 0) := zp_l zq_88 rfl
theorem p_88_89 : zP1 88 89 = some (.iload 7, 0, 0, 0) := zp_l zq_88 rfl
theorem p_88_91 : zP1 88 91 = some (.bipush (-3), 0, 0, 0) := zp_l zq_88 rfl
theorem p_88_93 : zP1 88 93 = some (.if_icmp .eq 53, 0, 0, 0) := zp_l zq_88 rfl
theorem p_88_96 : zP1 88 96 = some (.aload_n 2, 0, 0, 0) := zp_l zq_88 rfl
theorem p_88_97 : zP1 88 97 = some (.iload 7, 0, 0, 0) := zp_l zq_88 rfl
theorem p_88_99 : zP1 88 99 = some (.iaload, 0, 0, 0) := zp_l zq_88 rfl
theorem p_88_100 : zP1 88 100 = some (.bipush (-3), 0, 0, 0) := zp_l zq_88 rfl
theorem p_88_102 : zP1 88 102 = some (.if_icmp .ne 44, 0, 0, 0) := zp_l zq_88 rfl
theorem p_88_105 : zP1 88 105 = some (.aload_n 0, 0, 0, 0) := zp_l zq_88 rfl
theorem p_88_106 : zP1 88 106 = some (.getfield 26, 5, 0, 0) := zp_r zq_88 rfl
theorem p_88_109 : zP1 88 109 = some (.getfield 45, 9, 3, 0) := zp_r zq_88 rfl
theorem p_88_112 : zP1 88 112 = some (.iload 7, 0, 0, 0) := zp_l zq_88 rfl
theorem p_88_114 : zP1 88 114 = some (.iaload, 0, 0, 0) := zp_l zq_88 rfl
theorem p_88_115 : zP1 88 115 = some (.iconst 1, 0, 0, 0) := zp_l zq_88 rfl
theorem p_88_116 : zP1 88 116 = some (.if_icmp .eq 30, 0, 0, 0) := zp_l zq_88 rfl
theorem p_88_119 : zP1 88 119 = some (.iload_n 3, 0, 0, 0) := zp_l zq_88 rfl
theorem p_88_120 : zP1 88 120 = some (.bipush 100, 0, 0, 0) := zp_l zq_88 rfl
theorem p_88_122 : zP1 88 122 = some (.if_icmp .ge 24, 0, 0, 0) := zp_l zq_88 rfl
theorem p_88_125 : zP1 88 125 = some (.aload_n 2, 0, 0, 0) := zp_l zq_88 rfl
theorem p_88_126 : zP1 88 126 = some (.iload 7, 0, 0, 0) := zp_l zq_88 rfl
theorem p_88_128 : zP1 88 128 = some (.aload_n 2, 0, 0, 0) := zp_l zq_88 rfl
theorem p_88_129 : zP1 88 129 = some (.iload 5, 0, 0, 0) := zp_l zq_88 rfl
theorem p_88_131 : zP1 88 131 = some (.iaload, 0, 0, 0) := zp_l zq_88 rfl
theorem p_88_132 : zP1 88 132 = some (.iconst 1, 0, 0, 0) := zp_l zq_88 rfl
theorem p_88_133 : zP1 88 133 = some (.iadd, 0, 0, 0) := zp_l zq_88 rfl
theorem p_88_134 : zP1 88 134 = some (.iastore, 0, 0, 0) := zp_l zq_88 rfl
theorem p_88_135 : zP1 88 135 = some (.aload_n 0, 0, 0, 0) := zp_l zq_88 rfl
theorem p_88_136 : zP1 88 136 = some (.getfield 15, 5, 2, 0) := zp_r zq_88 rfl
theorem p_88_139 : zP1 88 139 = some (.iload_n 3, 0, 0, 0) := zp_l zq_88 rfl
theorem p_88_140 : zP1 88 140 = some (.iload 7, 0, 0, 0) := zp_l zq_88 rfl
theorem p_88_142 : zP1 88 142 = some (.iastore, 0, 0, 0) := zp_l zq_88 rfl
theorem p_88_143 : zP1 88 143 = some (.iinc 3 1, 0, 0, 0) := zp_l zq_88 rfl
theorem p_88_146 : zP1 88 146 = some (.iinc 6 1, 0, 0, 0) := zp_l zq_88 rfl
theorem p_88_149 : zP1 88 149 = some (.goto (-80), 0, 0, 0) := zp_l zq_88 rfl
theorem p_88_152 : zP1 88 152 = some (.iinc 4 1, 0, 0, 0) := zp_l zq_88 rfl
theorem p_88_155 : zP1 88 155 = some (.goto (-114), 0, 0, 0) := zp_l zq_88 rfl
theorem p_88_158 : zP1 88 158 = some (.return_, 0, 0, 0) := zp_l zq_88 rfl
theorem b_88_0 {x1 : Int} {a2 : Nat} (hA : zArr a2 100) : Z e (d + 1) 88 0 [.ref 191, .int (iI x1), .ref a2, .retAddr 0, .retAddr 0, .retAddr 0, .retAddr 0, .retAddr 0] [] m = (Z e d 332 0 [.ref a2, .int (iI (-3)), .retAddr 0, .retAddr 0] [] m).bind (ZK e (d + 1) 88 6 [.ref 191, .int (iI x1), .ref a2, .retAddr 0, .retAddr 0, .retAddr 0, .retAddr 0, .retAddr 0] [] m) := (s_al_2 p_88_0).trans <| (s_bip p_88_1 rfl).trans <| (s_cs2 (Lc := [.ref a2, .int (iI (-3)), .retAddr 0, .retAddr 0]) p_88_3 (by decide) (zM_of zq_332) ⟨Nat.le_of_ble_eq_true rfl, Nat.le_of_ble_eq_true rfl⟩ rfl)
theorem b_88_41 {a2 : Nat} {x3 : Int} {x4 : Int} {u1 u5 u6 u7 : Value} (hA : zArr a2 100) : Z e (d + 1) 88 41 [.ref 191, u1, .ref a2, .int (iI x3), .int (iI x4), u5, u6, u7] [] m = (if ((wr x4) < (wr x3)) ∧ ((wr x4) < 100) then ck (0 ≤ (wr x4) ∧ (wr x4) < 100) (Z e (d + 1) 88 69 [.ref 191, u1, .ref a2, .int (iI x3), .int (iI x4), .int (iI (m 193 (wr x4))), .int (iI (4 * (m 193 (wr x4)))), u7] [] m) else rn m) := (s_il_4 p_88_41).trans <| (s_il_3 p_88_43).trans <| Eq.trans (Eq.trans (s_c_ge_f p_88_44 rfl rfl rfl) <| Eq.trans (ite_cg ((s_il_4 p_88_47).trans <| (s_bip p_88_49 rfl).trans <| (s_c_ge_f p_88_51 rfl rfl wl_100)) rfl) co_and) <| ite_cg ((s_al_0 p_88_54).trans <| (s_getr p_88_55 hs_191 (by decide) rfl).trans <| (s_il_4 p_88_58).trans <| (s_ald 100 p_88_60 hs_193 rfl (by decide)).trans <| ck_cg fun k2 => (s_is_5 cat_i p_88_61).trans <| (s_const p_88_63).trans <| (s_il_5 p_88_64).trans <| (s_imul p_88_66).trans <| (s_is_6 cat_i p_88_67).trans <| rfl) ((s_retv p_88_158 (zM_of zq_88)))
theorem b_88_69 {a2 : Nat} {x3 : Int} {x4 : Int} {x5 : Int} {x6 : Int} {u1 u7 : Value} (hA : zArr a2 100) : Z e (d + 1) 88 69 [.ref 191, u1, .ref a2, .int (iI x3), .int (iI x4), .int (iI x5), .int (iI x6), u7] [] m = (if (wr x6) < (wr ((4 * x5) + 4)) then ck (0 ≤ (wr x6) ∧ (wr x6) < 400) (ck ((¬ (wr (m 192 (wr x6))) = (-3)) → ((0 ≤ (wr (m 192 (wr x6))) ∧ (wr (m 192 (wr x6))) < 100) ∧ (((wr (m a2 (wr (m 192 (wr x6))))) = (-3)) → (0 ≤ (wr (m 192 (wr x6))) ∧ (wr (m 192 (wr x6))) < 100)))) (if (¬ (wr (m 192 (wr x6))) = (-3)) ∧ (((wr (m a2 (wr (m 192 (wr x6))))) = (-3)) ∧ ((¬ (wr (m 2 (wr (m 192 (wr x6))))) = 1) ∧ ((wr x3) < 100))) then ck (0 ≤ (wr x5) ∧ (wr x5) < 100) (ck (0 ≤ (wr (m 192 (wr x6))) ∧ (wr (m 192 (wr x6))) < 100) (ck (0 ≤ (wr x3) ∧ (wr x3) < 100) (Z e (d + 1) 88 69 [.ref 191, u1, .ref a2, .int (iI (x3 + 1)), .int (iI x4), .int (iI x5), .int (iI (x6 + 1)), .int (iI (m 192 (wr x6)))] [] (um (um m a2 (wr (m 192 (wr x6))) ((m a2 (wr x5)) + 1)) 193 (wr x3) (m 192 (wr x6)))))) else Z e (d + 1) 88 69 [.ref 191, u1, .ref a2, .int (iI x3), .int (iI x4), .int (iI x5), .int (iI (x6 + 1)), .int (iI (m 192 (wr x6)))] [] m)) else Z e (d + 1) 88 41 [.ref 191, u1, .ref a2, .int (iI x3), .int (iI (x4 + 1)), .int (iI x5), .int (iI x6), u7] [] m) := (s_il_6 p_88_69).trans <| (s_const p_88_71).trans <| (s_il_5 p_88_72).trans <| (s_imul p_88_74).trans <| (s_const p_88_75).trans <| (s_iadd p_88_76).trans <| Eq.trans ((s_c_ge_f p_88_77 rfl rfl rfl)) <| ite_cg ((s_al_0 p_88_80).trans <| (s_getr p_88_81 hs_191 (by decide) rfl).trans <| (s_il_6 p_88_84).trans <| (s_ald 400 p_88_86 hs_192 rfl (by decide)).trans <| ck_cg fun k5 => (s_is_7 cat_i p_88_87).trans <| (s_il_7 p_88_89).trans <| (s_bip p_88_91 rfl).trans <| Eq.trans (Eq.trans (s_c_eq_f p_88_93 rfl rfl wl_m3) <| Eq.trans (ite_cg ((s_al_2 p_88_96).trans <| (s_il_7 p_88_97).trans <| (s_ald 100 p_88_99 (hA).1 rfl (hA).2).trans <| Eq.trans (ck_cg fun k9 => (s_bip p_88_100 rfl).trans <| Eq.trans (s_c_ne_f p_88_102 rfl rfl wl_m3) <| Eq.trans (ite_cg ((s_al_0 p_88_105).trans <| (s_getr p_88_106 hs_191 (by decide) rfl).trans <| (s_getr p_88_109 hs_1 (by decide) rfl).trans <| (s_il_7 p_88_112).trans <| (s_ald 100 p_88_114 hs_2 rfl (by decide)).trans <| ck_cg fun k10 => (s_const p_88_115).trans <| Eq.trans (s_c_eq_f p_88_116 rfl rfl wl_1) <| Eq.trans (ite_cg ((s_il_3 p_88_119).trans <| (s_bip p_88_120 rfl).trans <| (s_c_ge_f p_88_122 rfl rfl wl_100)) rfl) co_and) rfl) <| Eq.trans ck_a <| ck_cg fun _ => co_and) ck_ck) rfl) <| Eq.trans ck_a <| ck_cg fun _ => co_and) <| ck_cg fun _ => ite_cg ((s_al_2 p_88_125).trans <| (s_il_7 p_88_126).trans <| (s_al_2 p_88_128).trans <| (s_il_5 p_88_129).trans <| (s_ald 100 p_88_131 (hA).1 rfl (hA).2).trans <| ck_cg fun k11 => (s_const p_88_132).trans <| (s_iadd p_88_133).trans <| (s_ast 100 p_88_134 (hA).1 rfl).trans <| ck_cg fun k12 => (s_al_0 p_88_135).trans <| (s_getr p_88_136 hs_191 (by decide) rfl).trans <| (s_il_3 p_88_139).trans <| (s_il_7 p_88_140).trans <| (s_ast 100 p_88_142 hs_193 rfl).trans <| ck_cg fun k13 => (s_inc_3 cat_r p_88_143).trans <| (s_inc_6 cat_i p_88_146).trans <| (s_goto p_88_149 rfl).trans <| rfl) ((s_inc_6 cat_i p_88_146).trans <| (s_goto p_88_149 rfl).trans <| rfl)) ((s_inc_4 cat_i p_88_152).trans <| (s_goto p_88_155 rfl).trans <| rfl)
theorem b_88_6 {a2 : Nat} {x1 : Int} {u3 u4 u5 u6 u7 : Value} (hA : zArr a2 100) : Z e (d + 1) 88 6 [.ref 191, .int (iI x1), .ref a2, u3, u4, u5, u6, u7] [] m = ck ((¬ (((wr x1) < 0) ∨ (100 ≤ (wr x1)))) → (0 ≤ (wr x1) ∧ (wr x1) < 100)) (if (((wr x1) < 0) ∨ (100 ≤ (wr x1))) ∨ ((wr (m 2 (wr x1))) = 1) then rn m else ck (0 ≤ (wr x1) ∧ (wr x1) < 100) (Z e (d + 1) 88 41 [.ref 191, .int (iI x1), .ref a2, .int (iI 1), .int (iI 0), u5, u6, u7] [] (um (um m a2 (wr x1) 0) 193 0 x1))) := (s_il_1 p_88_6).trans <| (s_cs1 (Lc := [.int (iI x1)]) p_88_7 (by decide) (zM_of zq_194) ⟨Nat.le_of_ble_eq_true rfl, Nat.le_of_ble_eq_true rfl⟩ rfl).trans <| (bd b_194_0).trans <| ri_k.trans <| Eq.trans (Eq.trans (s_bne_t p_88_10 rfl) <| Eq.trans (ite_cg rfl ((s_al_0 p_88_13).trans <| (s_getr p_88_14 hs_191 (by decide) rfl).trans <| (s_il_1 p_88_17).trans <| (s_cv1 (Lc := [.ref 1, .int (iI x1)]) p_88_18 (by decide) (by decide) (zM_of zq_123) ⟨Nat.le_of_ble_eq_true rfl, Nat.le_of_ble_eq_true rfl⟩ rfl (m_rc hs_1 ⟨rfl, by decide⟩)).trans <| (bd b_123_0).trans <| ck_bind.trans <| ck_cg fun k1 => ri_k.trans <| (s_beq_f p_88_21 rfl))) <| Eq.trans ck_b <| ck_cg fun _ => co_or) <| ck_cg fun _ => ite_cg ((s_retv p_88_24 (zM_of zq_88))) ((s_al_2 p_88_25).trans <| (s_il_1 p_88_26).trans <| (s_const p_88_27).trans <| (s_ast 100 p_88_28 (hA).1 rfl).trans <| ck_cg fun k2 => (s_al_0 p_88_29).trans <| (s_getr p_88_30 hs_191 (by decide) rfl).trans <| (s_const p_88_33).trans <| (s_il_1 p_88_34).trans <| (s_astc p_88_35 hs_193 wl_0 (by decide)).trans <| (s_const p_88_36).trans <| (s_is_3 cat_r p_88_37).trans <| (s_const p_88_38).trans <| (s_is_4 cat_i p_88_39).trans <| rfl)
-- Math.abs
theorem p_323_0 : zP1 323 0 = some (.iload_n 0, 0, 0, 0) := zp_l zq_323 rfl
theorem p_323_1 : zP1 323 1 = some (.ifCond .ge 8, 0, 0, 0) := zp_l zq_323 rfl
theorem p_323_4 : zP1 323 4 = some (.iload_n 0, 0, 0, 0) := zp_l zq_323 rfl
theorem p_323_5 : zP1 323 5 = some (.ineg, 0, 0, 0) := zp_l zq_323 rfl
theorem p_323_6 : zP1 323 6 = some (.goto 4, 0, 0, 0) := zp_l zq_323 rfl
theorem p_323_9 : zP1 323 9 = some (.iload_n 0, 0, 0, 0) := zp_l zq_323 rfl
theorem p_323_10 : zP1 323 10 = some (.ireturn, 0, 0, 0) := zp_l zq_323 rfl
theorem b_323_0 {x0 : Int} : Z e d 323 0 [.int (iI x0)] [] m = ri (if (wr x0) < 0 then (-x0) else x0) m := (s_il_0 p_323_0).trans <| Eq.trans (Eq.trans ((s_z_ge_f p_323_1 rfl rfl)) <| Eq.trans (ite_cg ((s_il_0 p_323_4).trans <| (s_ineg p_323_5).trans <| (s_goto p_323_6 rfl).trans <| rfl) ((s_il_0 p_323_9).trans <| rfl)) (phi1 (fun z0 => Z e d 323 10 [.int (iI x0)] [.int (iI z0)] m))) <| (s_reti p_323_10 (zM_of zq_323))
-- Math.max
theorem p_324_0 : zP1 324 0 = some (.iload_n 0, 0, 0, 0) := zp_l zq_324 rfl
theorem p_324_1 : zP1 324 1 = some (.iload_n 1, 0, 0, 0) := zp_l zq_324 rfl
theorem p_324_2 : zP1 324 2 = some (.if_icmp .lt 7, 0, 0, 0) := zp_l zq_324 rfl
theorem p_324_5 : zP1 324 5 = some (.iload_n 0, 0, 0, 0) := zp_l zq_324 rfl
theorem p_324_6 : zP1 324 6 = some (.goto 4, 0, 0, 0) := zp_l zq_324 rfl
theorem p_324_9 : zP1 324 9 = some (.iload_n 1, 0, 0, 0) := zp_l zq_324 rfl
theorem p_324_10 : zP1 324 10 = some (.ireturn, 0, 0, 0) := zp_l zq_324 rfl
theorem b_324_0 {x0 : Int} {x1 : Int} : Z e d 324 0 [.int (iI x0), .int (iI x1)] [] m = ri (if (wr x1) ≤ (wr x0) then x0 else x1) m := (s_il_0 p_324_0).trans <| (s_il_1 p_324_1).trans <| Eq.trans (Eq.trans ((s_c_lt_f p_324_2 rfl rfl rfl)) <| Eq.trans (ite_cg ((s_il_0 p_324_5).trans <| (s_goto p_324_6 rfl).trans <| rfl) ((s_il_1 p_324_9).trans <| rfl)) (phi1 (fun z0 => Z e d 324 10 [.int (iI x0), .int (iI x1)] [.int (iI z0)] m))) <| (s_reti p_324_10 (zM_of zq_324))
-- Table.add
theorem p_106_0 : zP1 106 0 = some (.aload_n 0, 0, 0, 0) := zp_l zq_106 rfl
theorem p_106_1 : zP1 106 1 = some (.getfield 22, 7, 3, 0) := zp_r zq_106 rfl
theorem p_106_4 : zP1 106 4 = some (.aload_n 0, 0, 0, 0) := zp_l zq_106 rfl
theorem p_106_5 : zP1 106 5 = some (.getfield 9, 7, 2, 0) := zp_r zq_106 rfl
theorem p_106_8 : zP1 106 8 = some (.if_icmp .lt 6, 0, 0, 0) := zp_l zq_106 rfl
theorem p_106_11 : zP1 106 11 = some (.bipush (-2), 0, 0, 0) := zp_l zq_106 rfl
theorem p_106_13 : zP1 106 13 = some (.ireturn, 0, 0, 0) := zp_l zq_106 rfl
theorem p_106_14 : zP1 106 14 = some (.iconst 0, 0, 0, 0) := zp_l zq_106 rfl
theorem p_106_15 : zP1 106 15 = some (.istore_n 1, 0, 0, 0) := zp_l zq_106 rfl
theorem p_106_16 : zP1 106 16 = some (.iload_n 1, 0, 0, 0) := zp_l zq_106 rfl
theorem p_106_17 : zP1 106 17 = some (.aload_n 0, 0, 0, 0) := zp_l zq_106 rfl
theorem p_106_18 : zP1 106 18 = some (.getfield 15, 7, 0, 0) := zp_r zq_106 rfl
theorem p_106_21 : zP1 106 21 = some (.if_icmp .ge 26, 0, 0, 0) := zp_l zq_106 rfl
theorem p_106_24 : zP1 106 24 = some (.aload_n 0, 0, 0, 0) := zp_l zq_106 rfl
theorem p_106_25 : zP1 106 25 = some (.getfield 18, 7, 1, 0) := zp_r zq_106 rfl
theorem p_106_28 : zP1 106 28 = some (.aload_n 0, 0, 0, 0) := zp_l zq_106 rfl
theorem p_106_29 : zP1 106 29 = some (.getfield 22, 7, 3, 0) := zp_r zq_106 rfl
theorem p_106_32 : zP1 106 32 = some (.aload_n 0, 0, 0, 0) := zp_l zq_106 rfl
theorem p_106_33 : zP1 106 33 = some (.getfield 15, 7, 0, 0) := zp_r zq_106 rfl
theorem p_106_36 : zP1 106 36 = some (.imul, 0, 0, 0) := zp_l zq_106 rfl
theorem p_106_37 : zP1 106 37 = some (.iload_n 1, 0, 0, 0) := zp_l zq_106 rfl
theorem p_106_38 : zP1 106 38 = some (.iadd, 0, 0, 0) := zp_l zq_106 rfl
theorem p_106_39 : zP1 106 39 = some (.iconst 0, 0, 0, 0) := zp_l zq_106 rfl
theorem p_106_40 : zP1 106 40 = some (.iastore, 0, 0, 0) := zp_l zq_106 rfl
theorem p_106_41 : zP1 106 41 = some (.iinc 1 1, 0, 0, 0) := zp_l zq_106 rfl
theorem p_106_44 : zP1 106 44 = some (.goto (-28), 0, 0, 0) := zp_l zq_106 rfl
theorem p_106_47 : zP1 106 47 = some (.aload_n 0, 0, 0, 0) := zp_l zq_106 rfl
theorem p_106_48 : zP1 106 48 = some (.dup, 0, 0, 0) := zp_l zq_106 rfl
theorem p_106_49 : zP1 106 49 = some (.getfield 22, 7, 3, 0) := zp_r zq_106 rfl
theorem p_106_52 : zP1 106 52 = some (.iconst 1, 0, 0, 0) := zp_l zq_106 rfl
theorem p_106_53 : zP1 106 53 = some (.iadd, 0, 0, 0) := zp_l zq_106 rfl
theorem p_106_54 : zP1 106 54 = some (.putfield 22, 7, 3, 0) := zp_r zq_106 rfl
theorem p_106_57 : zP1 106 57 = some (.aload_n 0, 0, 0, 0) := zp_l zq_106 rfl
theorem p_106_58 : zP1 106 58 = some (.getfield 22, 7, 3, 0) := zp_r zq_106 rfl
theorem p_106_61 : zP1 106 61 = some (.iconst 1, 0, 0, 0) := zp_l zq_106 rfl
theorem p_106_62 : zP1 106 62 = some (.isub, 0, 0, 0) := zp_l zq_106 rfl
theorem p_106_63 : zP1 106 63 = some (.ireturn, 0, 0, 0) := zp_l zq_106 rfl
theorem b_106_0 {a ca w mx : Nat} (hT : zTab a ca w mx) : Z e d 106 0 [.ref a, .retAddr 0] [] m = (if (wr (mx : Int)) ≤ (wr (m a 3)) then ri (-2) m else Z e d 106 16 [.ref a, .int (iI 0)] [] m) := (s_al_0 p_106_0).trans <| (s_get p_106_1 (hT).1 (by decide) rfl).trans <| (s_al_0 p_106_4).trans <| (s_getr p_106_5 (hT).1 (by decide) rfl).trans <| Eq.trans ((s_c_lt_f p_106_8 rfl rfl rfl)) <| ite_cg ((s_bip p_106_11 rfl).trans <| (s_reti p_106_13 (zM_of zq_106))) ((s_const p_106_14).trans <| (s_is_1 cat_r p_106_15).trans <| rfl)
theorem b_106_16 {a ca w mx : Nat} {x1 : Int} (hT : zTab a ca w mx) : Z e d 106 16 [.ref a, .int (iI x1)] [] m = (if (wr x1) < (wr (w : Int)) then ck (0 ≤ (wr (((m a 3) * (w : Int)) + x1)) ∧ (wr (((m a 3) * (w : Int)) + x1)) < ((mx * w : Nat) : Int)) (Z e d 106 16 [.ref a, .int (iI (x1 + 1))] [] (um m ca (wr (((m a 3) * (w : Int)) + x1)) 0)) else ri (((um m a 3 ((m a 3) + 1)) a 3) - 1) (um m a 3 ((m a 3) + 1))) := (s_il_1 p_106_16).trans <| (s_al_0 p_106_17).trans <| (s_getr p_106_18 (hT).1 (by decide) rfl).trans <| Eq.trans ((s_c_ge_f p_106_21 rfl rfl rfl)) <| ite_cg ((s_al_0 p_106_24).trans <| (s_getr p_106_25 (hT).1 (by decide) rfl).trans <| (s_al_0 p_106_28).trans <| (s_get p_106_29 (hT).1 (by decide) rfl).trans <| (s_al_0 p_106_32).trans <| (s_getr p_106_33 (hT).1 (by decide) rfl).trans <| (s_imul p_106_36).trans <| (s_il_1 p_106_37).trans <| (s_iadd p_106_38).trans <| (s_const p_106_39).trans <| (s_ast ((mx * w : Nat) : Int) p_106_40 (hT.2).1 rfl).trans <| ck_cg fun k1 => (s_inc_1 cat_r p_106_41).trans <| (s_goto p_106_44 rfl).trans <| rfl) ((s_al_0 p_106_47).trans <| (s_dup cat_r p_106_48).trans <| (s_get p_106_49 (hT).1 (by decide) rfl).trans <| (s_const p_106_52).trans <| (s_iadd p_106_53).trans <| (s_put p_106_54 (hT).1 (by decide) rfl).trans <| (s_al_0 p_106_57).trans <| (s_get p_106_58 (hT).1 (by decide) rfl).trans <| (s_const p_106_61).trans <| (s_isub p_106_62).trans <| (s_reti p_106_63 (zM_of zq_106)))
-- Table.set
theorem p_105_0 : zP1 105 0 = some (.iload_n 1, 0, 0, 0) := zp_l zq_105 rfl
theorem p_105_1 : zP1 105 1 = some (.ifCond .lt 23, 0, 0, 0) := zp_l zq_105 rfl
theorem p_105_4 : zP1 105 4 = some (.iload_n 1, 0, 0, 0) := zp_l zq_105 rfl
theorem p_105_5 : zP1 105 5 = some (.aload_n 0, 0, 0, 0) := zp_l zq_105 rfl
theorem p_105_6 : zP1 105 6 = some (.getfield 22, 7, 3, 0) := zp_r zq_105 rfl
theorem p_105_9 : zP1 105 9 = some (.if_icmp .ge 15, 0, 0, 0) := zp_l zq_105 rfl
theorem p_105_12 : zP1 105 12 = some (.iload_n 2, 0, 0, 0) := zp_l zq_105 rfl
theorem p_105_13 : zP1 105 13 = some (.ifCond .lt 11, 0, 0, 0) := zp_l zq_105 rfl
theorem p_105_16 : zP1 105 16 = some (.iload_n 2, 0, 0, 0) := zp_l zq_105 rfl
theorem p_105_17 : zP1 105 17 = some (.aload_n 0, 0, 0, 0) := zp_l zq_105 rfl
theorem p_105_18 : zP1 105 18 = some (.getfield 15, 7, 0, 0) := zp_r zq_105 rfl
theorem p_105_21 : zP1 105 21 = some (.if_icmp .lt 4, 0, 0, 0) := zp_l zq_105 rfl
theorem p_105_24 : zP1 105 24 = some (.return_, 0, 0, 0) := zp_l zq_105 rfl
theorem p_105_25 : zP1 105 25 = some (.aload_n 0, 0, 0, 0) := zp_l zq_105 rfl
theorem p_105_26 : zP1 105 26 = some (.getfield 18, 7, 1, 0) := zp_r zq_105 rfl
theorem p_105_29 : zP1 105 29 = some (.iload_n 1, 0, 0, 0) := zp_l zq_105 rfl
theorem p_105_30 : zP1 105 30 = some (.aload_n 0, 0, 0, 0) := zp_l zq_105 rfl
theorem p_105_31 : zP1 105 31 = some (.getfield 15, 7, 0, 0) := zp_r zq_105 rfl
theorem p_105_34 : zP1 105 34 = some (.imul, 0, 0, 0) := zp_l zq_105 rfl
theorem p_105_35 : zP1 105 35 = some (.iload_n 2, 0, 0, 0) := zp_l zq_105 rfl
theorem p_105_36 : zP1 105 36 = some (.iadd, 0, 0, 0) := zp_l zq_105 rfl
theorem p_105_37 : zP1 105 37 = some (.iload_n 3, 0, 0, 0) := zp_l zq_105 rfl
theorem p_105_38 : zP1 105 38 = some (.iastore, 0, 0, 0) := zp_l zq_105 rfl
theorem p_105_39 : zP1 105 39 = some (.return_, 0, 0, 0) := zp_l zq_105 rfl
theorem b_105_0 {a ca w mx : Nat} {x1 : Int} {x2 : Int} {x3 : Int} (hT : zTab a ca w mx) : Z e d 105 0 [.ref a, .int (iI x1), .int (iI x2), .int (iI x3)] [] m = (if ((wr x1) < 0) ∨ (((wr (m a 3)) ≤ (wr x1)) ∨ (((wr x2) < 0) ∨ ((wr (w : Int)) ≤ (wr x2)))) then rn m else ck (0 ≤ (wr ((x1 * (w : Int)) + x2)) ∧ (wr ((x1 * (w : Int)) + x2)) < ((mx * w : Nat) : Int)) (rn (um m ca (wr ((x1 * (w : Int)) + x2)) x3))) := (s_il_1 p_105_0).trans <| Eq.trans (Eq.trans (s_z_lt_t p_105_1 rfl rfl) <| Eq.trans (ite_cg rfl ((s_il_1 p_105_4).trans <| (s_al_0 p_105_5).trans <| (s_get p_105_6 (hT).1 (by decide) rfl).trans <| Eq.trans (s_c_ge_t p_105_9 rfl rfl rfl) <| Eq.trans (ite_cg rfl ((s_il_2 p_105_12).trans <| Eq.trans (s_z_lt_t p_105_13 rfl rfl) <| Eq.trans (ite_cg rfl ((s_il_2 p_105_16).trans <| (s_al_0 p_105_17).trans <| (s_getr p_105_18 (hT).1 (by decide) rfl).trans <| (s_c_lt_f p_105_21 rfl rfl rfl))) co_or)) co_or)) co_or) <| ite_cg ((s_retv p_105_24 (zM_of zq_105))) ((s_al_0 p_105_25).trans <| (s_getr p_105_26 (hT).1 (by decide) rfl).trans <| (s_il_1 p_105_29).trans <| (s_al_0 p_105_30).trans <| (s_getr p_105_31 (hT).1 (by decide) rfl).trans <| (s_imul p_105_34).trans <| (s_il_2 p_105_35).trans <| (s_iadd p_105_36).trans <| (s_il_3 p_105_37).trans <| (s_ast ((mx * w : Nat) : Int) p_105_38 (hT.2).1 rfl).trans <| ck_cg fun k1 => (s_retv p_105_39 (zM_of zq_105)))
-- Table.copyFrom
theorem p_108_0 : zP1 108 0 = some (.aload_n 1, 0, 0, 0) := zp_l zq_108 rfl
theorem p_108_1 : zP1 108 1 = some (.getfield 18, 7, 1, 0) := zp_r zq_108 rfl
theorem p_108_4 : zP1 108 4 = some (.arraylength, 0, 0, 0) := zp_l zq_108 rfl
theorem p_108_5 : zP1 108 5 = some (.aload_n 0, 0, 0, 0) := zp_l zq_108 rfl
theorem p_108_6 : zP1 108 6 = some (.getfield 18, 7, 1, 0) := zp_r zq_108 rfl
theorem p_108_9 : zP1 108 9 = some (.arraylength, 0, 0, 0) := zp_l zq_108 rfl
theorem p_108_10 : zP1 108 10 = some (.if_icmp .eq 4, 0, 0, 0) := zp_l zq_108 rfl
theorem p_108_13 : zP1 108 13 = some (.return_, 0, 0, 0) := zp_l zq_108 rfl
theorem p_108_14 : zP1 108 14 = some (.aload_n 0, 0, 0, 0) := zp_l zq_108 rfl
theorem p_108_15 : zP1 108 15 = some (.aload_n 1, 0, 0, 0) := zp_l zq_108 rfl
theorem p_108_16 : zP1 108 16 = some (.getfield 22, 7, 3, 0) := zp_r zq_108 rfl
theorem p_108_19 : zP1 108 19 = some (.putfield 22, 7, 3, 0) := zp_r zq_108 rfl
theorem p_108_22 : zP1 108 22 = some (.aload_n 1, 0, 0, 0) := zp_l zq_108 rfl
theorem p_108_23 : zP1 108 23 = some (.getfield 18, 7, 1, 0) := zp_r zq_108 rfl
theorem p_108_26 : zP1 108 26 = some (.iconst 0, 0, 0, 0) := zp_l zq_108 rfl
theorem p_108_27 : zP1 108 27 = some (.aload_n 0, 0, 0, 0) := zp_l zq_108 rfl
theorem p_108_28 : zP1 108 28 = some (.getfield 18, 7, 1, 0) := zp_r zq_108 rfl
theorem p_108_31 : zP1 108 31 = some (.iconst 0, 0, 0, 0) := zp_l zq_108 rfl
theorem p_108_32 : zP1 108 32 = some (.aload_n 0, 0, 0, 0) := zp_l zq_108 rfl
theorem p_108_33 : zP1 108 33 = some (.getfield 22, 7, 3, 0) := zp_r zq_108 rfl
theorem p_108_36 : zP1 108 36 = some (.aload_n 0, 0, 0, 0) := zp_l zq_108 rfl
theorem p_108_37 : zP1 108 37 = some (.getfield 15, 7, 0, 0) := zp_r zq_108 rfl
theorem p_108_40 : zP1 108 40 = some (.imul, 0, 0, 0) := zp_l zq_108 rfl
theorem p_108_41 : zP1 108 41 = some (.invokestatic 25, 9999, 0, 0) := zp_r zq_108 rfl
theorem p_108_44 : zP1 108 44 = some (.return_, 0, 0, 0) := zp_l zq_108 rfl
theorem b_108_0 {a ca w mx : Nat} {a2 ca2 w2 mx2 : Nat} (hT : zTab a ca w mx) (hT2 : zTab a2 ca2 w2 mx2) : Z e d 108 0 [.ref a, .ref a2] [] m = (if ¬ (wr ((mx2 * w2 : Nat) : Int)) = (wr ((mx * w : Nat) : Int)) then rn m else ck (0 ≤ (wr (((um m a 3 (m a2 3)) a 3) * (w : Int))) ∧ 0 ≤ (wr 0) ∧ 0 ≤ (wr 0) ∧ (wr 0) + (wr (((um m a 3 (m a2 3)) a 3) * (w : Int))) ≤ ((mx2 * w2 : Nat) : Int) ∧ (wr 0) + (wr (((um m a 3 (m a2 3)) a 3) * (w : Int))) ≤ ((mx * w : Nat) : Int)) (rn (uc (um m a 3 (m a2 3)) ca2 (wr 0) ca (wr 0) (wr (((um m a 3 (m a2 3)) a 3) * (w : Int)))))) := (s_al_1 p_108_0).trans <| (s_getr p_108_1 (hT2).1 (by decide) rfl).trans <| (s_len ((mx2 * w2 : Nat) : Int) p_108_4 (hT2.2).1 rfl (hT2.2).2).trans <| (s_al_0 p_108_5).trans <| (s_getr p_108_6 (hT).1 (by decide) rfl).trans <| (s_len ((mx * w : Nat) : Int) p_108_9 (hT.2).1 rfl (hT.2).2).trans <| Eq.trans ((s_c_eq_f p_108_10 rfl rfl rfl)) <| ite_cg ((s_retv p_108_13 (zM_of zq_108))) ((s_al_0 p_108_14).trans <| (s_al_1 p_108_15).trans <| (s_get p_108_16 (hT2).1 (by decide) rfl).trans <| (s_put p_108_19 (hT).1 (by decide) rfl).trans <| (s_al_1 p_108_22).trans <| (s_getr p_108_23 (hT2).1 (by decide) rfl).trans <| (s_const p_108_26).trans <| (s_al_0 p_108_27).trans <| (s_getr p_108_28 (hT).1 (by decide) rfl).trans <| (s_const p_108_31).trans <| (s_al_0 p_108_32).trans <| (s_get p_108_33 (hT).1 (by decide) rfl).trans <| (s_al_0 p_108_36).trans <| (s_getr p_108_37 (hT).1 (by decide) rfl).trans <| (s_imul p_108_40).trans <| (s_cpy (n0' := ((mx2 * w2 : Nat) : Int)) (n1' := ((mx * w : Nat) : Int)) p_108_41 (hT2.2).1 (hT.2).1 rfl rfl).trans <| ck_cg fun k1 => (s_retv p_108_44 (zM_of zq_108)))
-- Reader.pass
theorem p_75_0 : zP1 75 0 = some (.aload_n 0, 0, 0, 0) := zp_l zq_75 rfl
theorem p_75_1 : zP1 75 1 = some (.getfield 39, 4, 8, 0) := zp_r zq_75 rfl
theorem p_75_4 : zP1 75 4 = some (.aload_n 1, 0, 0, 0) := zp_l zq_75 rfl
theorem p_75_5 : zP1 75 5 = some (.if_acmp .eq 5, 0, 0, 0) := zp_l zq_75 rfl
theorem p_75_8 : zP1 75 8 = some (.iconst 0, 0, 0, 0) := zp_l zq_75 rfl
theorem p_75_9 : zP1 75 9 = some (.ireturn, 0, 0, 0) := zp_l zq_75 rfl
theorem p_75_10 : zP1 75 10 = some (.aload_n 0, 0, 0, 0) := zp_l zq_75 rfl
theorem p_75_11 : zP1 75 11 = some (.invokevirtual 118, 74, 0, 4) := zp_r zq_75 rfl
theorem p_75_14 : zP1 75 14 = some (.iconst 1, 0, 0, 0) := zp_l zq_75 rfl
theorem p_75_15 : zP1 75 15 = some (.ireturn, 0, 0, 0) := zp_l zq_75 rfl
theorem b_75_0 {x1 : Int} (hx1 : 0 ≤ x1 ∧ x1 < 32) (hw1 : 0 ≤ (m 179 8) ∧ (m 179 8) < 32) : Z e (d + 1) 75 0 [.ref 179, .ref (10000 + x1.toNat)] [] m = (if ¬ ((m 179 8) = x1) then ri 0 m else (Z e d 74 0 [.ref 179] [] m).bind (ZK e (d + 1) 75 14 [.ref 179, .ref (10000 + x1.toNat)] [] m)) := (s_al_0 p_75_0).trans <| (s_getw' p_75_1 hw1).trans <| (s_al_1 p_75_4).trans <| Eq.trans ((s_weq_f p_75_5 rfl hw1 hx1)) <| ite_cg ((s_const p_75_8).trans <| (s_retk rfl p_75_9 (zM_of zq_75))) ((s_al_0 p_75_10).trans <| (s_cv0 (Lc := [.ref 179]) p_75_11 (by decide) (by decide) (zM_of zq_74) ⟨Nat.le_of_ble_eq_true rfl, Nat.le_of_ble_eq_true rfl⟩ rfl (m_rc3 hs_179 ⟨rfl, by decide⟩)))
theorem b_75_14 {u0 u1 : Value} : Z e (d + 1) 75 14 [u0, u1] [] m = ri 1 m := (s_const p_75_14).trans <| (s_retk rfl p_75_15 (zM_of zq_75))
-- Table.isFull
theorem p_103_0 : zP1 103 0 = some (.aload_n 0, 0, 0, 0) := zp_l zq_103 rfl
theorem p_103_1 : zP1 103 1 = some (.getfield 22, 7, 3, 0) := zp_r zq_103 rfl
theorem p_103_4 : zP1 103 4 = some (.aload_n 0, 0, 0, 0) := zp_l zq_103 rfl
theorem p_103_5 : zP1 103 5 = some (.getfield 9, 7, 2, 0) := zp_r zq_103 rfl
theorem p_103_8 : zP1 103 8 = some (.if_icmp .lt 7, 0, 0, 0) := zp_l zq_103 rfl
theorem p_103_11 : zP1 103 11 = some (.iconst 1, 0, 0, 0) := zp_l zq_103 rfl
theorem p_103_12 : zP1 103 12 = some (.goto 4, 0, 0, 0) := zp_l zq_103 rfl
theorem p_103_15 : zP1 103 15 = some (.iconst 0, 0, 0, 0) := zp_l zq_103 rfl
theorem p_103_16 : zP1 103 16 = some (.ireturn, 0, 0, 0) := zp_l zq_103 rfl
theorem b_103_0 {a ca w mx : Nat} (hT : zTab a ca w mx) : Z e d 103 0 [.ref a] [] m = ri (if (wr (mx : Int)) ≤ (wr (m a 3)) then 1 else 0) m := (s_al_0 p_103_0).trans <| (s_get p_103_1 (hT).1 (by decide) rfl).trans <| (s_al_0 p_103_4).trans <| (s_getr p_103_5 (hT).1 (by decide) rfl).trans <| Eq.trans (Eq.trans ((s_c_lt_f p_103_8 rfl rfl rfl)) <| Eq.trans (ite_cg ((s_const p_103_11).trans <| (s_goto p_103_12 rfl).trans <| rfl) ((s_const p_103_15).trans <| rfl)) (phi1 (fun z0 => Z e d 103 16 [.ref a] [.int (iI z0)] m))) <| (s_retb p_103_16 (zM_of zq_103))
-- Table.isAnyAt
theorem p_107_0 : zP1 107 0 = some (.iconst 0, 0, 0, 0) := zp_l zq_107 rfl
theorem p_107_1 : zP1 107 1 = some (.istore_n 2, 0, 0, 0) := zp_l zq_107 rfl
theorem p_107_2 : zP1 107 2 = some (.iload_n 2, 0, 0, 0) := zp_l zq_107 rfl
theorem p_107_3 : zP1 107 3 = some (.aload_n 0, 0, 0, 0) := zp_l zq_107 rfl
theorem p_107_4 : zP1 107 4 = some (.getfield 22, 7, 3, 0) := zp_r zq_107 rfl
theorem p_107_7 : zP1 107 7 = some (.if_icmp .ge 28, 0, 0, 0) := zp_l zq_107 rfl
theorem p_107_10 : zP1 107 10 = some (.aload_n 0, 0, 0, 0) := zp_l zq_107 rfl
theorem p_107_11 : zP1 107 11 = some (.getfield 18, 7, 1, 0) := zp_r zq_107 rfl
theorem p_107_14 : zP1 107 14 = some (.iload_n 2, 0, 0, 0) := zp_l zq_107 rfl
theorem p_107_15 : zP1 107 15 = some (.aload_n 0, 0, 0, 0) := zp_l zq_107 rfl
theorem p_107_16 : zP1 107 16 = some (.getfield 15, 7, 0, 0) := zp_r zq_107 rfl
theorem p_107_19 : zP1 107 19 = some (.imul, 0, 0, 0) := zp_l zq_107 rfl
theorem p_107_20 : zP1 107 20 = some (.iconst 0, 0, 0, 0) := zp_l zq_107 rfl
theorem p_107_21 : zP1 107 21 = some (.iadd, 0, 0, 0) := zp_l zq_107 rfl
theorem p_107_22 : zP1 107 22 = some (.iaload, 0, 0, 0) := zp_l zq_107 rfl
theorem p_107_23 : zP1 107 23 = some (.iload_n 1, 0, 0, 0) := zp_l zq_107 rfl
theorem p_107_24 : zP1 107 24 = some (.if_icmp .ne 5, 0, 0, 0) := zp_l zq_107 rfl
theorem p_107_27 : zP1 107 27 = some (.iconst 1, 0, 0, 0) := zp_l zq_107 rfl
theorem p_107_28 : zP1 107 28 = some (.ireturn, 0, 0, 0) := zp_l zq_107 rfl
theorem p_107_29 : zP1 107 29 = some (.iinc 2 1, 0, 0, 0) := zp_l zq_107 rfl
theorem p_107_32 : zP1 107 32 = some (.goto (-30), 0, 0, 0) := zp_l zq_107 rfl
theorem p_107_35 : zP1 107 35 = some (.iconst 0, 0, 0, 0) := zp_l zq_107 rfl
theorem p_107_36 : zP1 107 36 = some (.ireturn, 0, 0, 0) := zp_l zq_107 rfl
theorem b_107_0 {a ca w mx : Nat} {x1 : Int} (hT : zTab a ca w mx) : Z e d 107 0 [.ref a, .int (iI x1), .retAddr 0] [] m = Z e d 107 2 [.ref a, .int (iI x1), .int (iI 0)] [] m := (s_const p_107_0).trans <| (s_is_2 cat_i p_107_1).trans <| rfl
theorem b_107_2 {a ca w mx : Nat} {x1 : Int} {x2 : Int} (hT : zTab a ca w mx) : Z e d 107 2 [.ref a, .int (iI x1), .int (iI x2)] [] m = (if (wr x2) < (wr (m a 3)) then ck (0 ≤ (wr ((x2 * (w : Int)) + 0)) ∧ (wr ((x2 * (w : Int)) + 0)) < ((mx * w : Nat) : Int)) ((if (wr (m ca (wr ((x2 * (w : Int)) + 0)))) = (wr x1) then ri 1 m else Z e d 107 2 [.ref a, .int (iI x1), .int (iI (x2 + 1))] [] m)) else ri 0 m) := (s_il_2 p_107_2).trans <| (s_al_0 p_107_3).trans <| (s_get p_107_4 (hT).1 (by decide) rfl).trans <| Eq.trans ((s_c_ge_f p_107_7 rfl rfl rfl)) <| ite_cg ((s_al_0 p_107_10).trans <| (s_getr p_107_11 (hT).1 (by decide) rfl).trans <| (s_il_2 p_107_14).trans <| (s_al_0 p_107_15).trans <| (s_getr p_107_16 (hT).1 (by decide) rfl).trans <| (s_imul p_107_19).trans <| (s_const p_107_20).trans <| (s_iadd p_107_21).trans <| (s_ald ((mx * w : Nat) : Int) p_107_22 (hT.2).1 rfl (hT.2).2).trans <| ck_cg fun k1 => (s_il_1 p_107_23).trans <| Eq.trans ((s_c_ne_f p_107_24 rfl rfl rfl)) <| ite_cg ((s_const p_107_27).trans <| (s_retk rfl p_107_28 (zM_of zq_107))) ((s_inc_2 cat_i p_107_29).trans <| (s_goto p_107_32 rfl).trans <| rfl)) ((s_const p_107_35).trans <| (s_retk rfl p_107_36 (zM_of zq_107)))
-- World.isHeld
theorem p_124_0 : zP1 124 0 = some (.aload_n 0, 0, 0, 0) := zp_l zq_124 rfl
theorem p_124_1 : zP1 124 1 = some (.getfield 26, 9, 5, 0) := zp_r zq_124 rfl
theorem p_124_4 : zP1 124 4 = some (.iload_n 1, 0, 0, 0) := zp_l zq_124 rfl
theorem p_124_5 : zP1 124 5 = some (.invokevirtual 86, 107, 1, 7) := zp_r zq_124 rfl
theorem p_124_8 : zP1 124 8 = some (.ifCond .ne 25, 0, 0, 0) := zp_l zq_124 rfl
theorem p_124_11 : zP1 124 11 = some (.aload_n 0, 0, 0, 0) := zp_l zq_124 rfl
theorem p_124_12 : zP1 124 12 = some (.getfield 30, 9, 6, 0) := zp_r zq_124 rfl
theorem p_124_15 : zP1 124 15 = some (.iload_n 1, 0, 0, 0) := zp_l zq_124 rfl
theorem p_124_16 : zP1 124 16 = some (.invokevirtual 86, 107, 1, 7) := zp_r zq_124 rfl
theorem p_124_19 : zP1 124 19 = some (.ifCond .ne 14, 0, 0, 0) := zp_l zq_124 rfl
theorem p_124_22 : zP1 124 22 = some (.aload_n 0, 0, 0, 0) := zp_l zq_124 rfl
theorem p_124_23 : zP1 124 23 = some (.getfield 42, 9, 10, 0) := zp_r zq_124 rfl
theorem p_124_26 : zP1 124 26 = some (.iload_n 1, 0, 0, 0) := zp_l zq_124 rfl
theorem p_124_27 : zP1 124 27 = some (.invokevirtual 86, 107, 1, 7) := zp_r zq_124 rfl
theorem p_124_30 : zP1 124 30 = some (.ifCond .eq 7, 0, 0, 0) := zp_l zq_124 rfl
theorem p_124_33 : zP1 124 33 = some (.iconst 1, 0, 0, 0) := zp_l zq_124 rfl
theorem p_124_34 : zP1 124 34 = some (.goto 4, 0, 0, 0) := zp_l zq_124 rfl
theorem p_124_37 : zP1 124 37 = some (.iconst 0, 0, 0, 0) := zp_l zq_124 rfl
theorem p_124_38 : zP1 124 38 = some (.ireturn, 0, 0, 0) := zp_l zq_124 rfl
theorem b_124_0 {x1 : Int} : Z e (d + 1) 124 0 [.ref 1, .int (iI x1)] [] m = (Z e d 107 0 [.ref 4, .int (iI x1), .retAddr 0] [] m).bind (ZK e (d + 1) 124 8 [.ref 1, .int (iI x1)] [] m) := (s_al_0 p_124_0).trans <| (s_getr p_124_1 hs_1 (by decide) rfl).trans <| (s_il_1 p_124_4).trans <| (s_cv1 (Lc := [.ref 4, .int (iI x1), .retAddr 0]) p_124_5 (by decide) (by decide) (zM_of zq_107) ⟨Nat.le_of_ble_eq_true rfl, Nat.le_of_ble_eq_true rfl⟩ rfl (m_rc hs_4 ⟨rfl, by decide⟩))
theorem b_124_8 {x1 : Int} {xs0 : Int} : Z e (d + 1) 124 8 [.ref 1, .int (iI x1)] [.int (iI xs0)] m = (if (wr xs0) = 0 then (Z e d 107 0 [.ref 6, .int (iI x1), .retAddr 0] [] m).bind (ZK e (d + 1) 124 19 [.ref 1, .int (iI x1)] [] m) else ri 1 m) := Eq.trans ((s_z_ne_f p_124_8 rfl rfl)) <| ite_cg ((s_al_0 p_124_11).trans <| (s_getr p_124_12 hs_1 (by decide) rfl).trans <| (s_il_1 p_124_15).trans <| (s_cv1 (Lc := [.ref 6, .int (iI x1), .retAddr 0]) p_124_16 (by decide) (by decide) (zM_of zq_107) ⟨Nat.le_of_ble_eq_true rfl, Nat.le_of_ble_eq_true rfl⟩ rfl (m_rc hs_6 ⟨rfl, by decide⟩))) ((s_const p_124_33).trans <| (s_goto p_124_34 rfl).trans <| (s_retk rfl p_124_38 (zM_of zq_124)))
theorem b_124_19 {x1 : Int} {xs0 : Int} : Z e (d + 1) 124 19 [.ref 1, .int (iI x1)] [.int (iI xs0)] m = (if (wr xs0) = 0 then (Z e d 107 0 [.ref 14, .int (iI x1), .retAddr 0] [] m).bind (ZK e (d + 1) 124 30 [.ref 1, .int (iI x1)] [] m) else ri 1 m) := Eq.trans ((s_z_ne_f p_124_19 rfl rfl)) <| ite_cg ((s_al_0 p_124_22).trans <| (s_getr p_124_23 hs_1 (by decide) rfl).trans <| (s_il_1 p_124_26).trans <| (s_cv1 (Lc := [.ref 14, .int (iI x1), .retAddr 0]) p_124_27 (by decide) (by decide) (zM_of zq_107) ⟨Nat.le_of_ble_eq_true rfl, Nat.le_of_ble_eq_true rfl⟩ rfl (m_rc hs_14 ⟨rfl, by decide⟩))) ((s_const p_124_33).trans <| (s_goto p_124_34 rfl).trans <| (s_retk rfl p_124_38 (zM_of zq_124)))
theorem b_124_30 {xs0 : Int} {u0 u1 : Value} : Z e (d + 1) 124 30 [u0, u1] [.int (iI xs0)] m = ri (if ¬ (wr xs0) = 0 then 1 else 0) m := Eq.trans (Eq.trans ((s_z_eq_f p_124_30 rfl rfl)) <| Eq.trans (ite_cg ((s_const p_124_33).trans <| (s_goto p_124_34 rfl).trans <| rfl) ((s_const p_124_37).trans <| rfl)) (phi1 (fun z0 => Z e (d + 1) 124 38 [u0, u1] [.int (iI z0)] m))) <| (s_retb p_124_38 (zM_of zq_124))
-- P.ground
theorem p_140_0 : zP1 140 0 = some (.iload_n 1, 0, 0, 0) := zp_l zq_140 rfl
theorem p_140_1 : zP1 140 1 = some (.invokestatic 86, 194, 1, 0) := zp_r zq_140 rfl
theorem p_140_4 : zP1 140 4 = some (.ifCond .ne 12, 0, 0, 0) := zp_l zq_140 rfl
theorem p_140_7 : zP1 140 7 = some (.iload_n 2, 0, 0, 0) := zp_l zq_140 rfl
theorem p_140_8 : zP1 140 8 = some (.ifCond .lt 8, 0, 0, 0) := zp_l zq_140 rfl
theorem p_140_11 : zP1 140 11 = some (.iload_n 2, 0, 0, 0) := zp_l zq_140 rfl
theorem p_140_12 : zP1 140 12 = some (.iconst 3, 0, 0, 0) := zp_l zq_140 rfl
theorem p_140_13 : zP1 140 13 = some (.if_icmp .le 5, 0, 0, 0) := zp_l zq_140 rfl
theorem p_140_16 : zP1 140 16 = some (.iconst (-1), 0, 0, 0) := zp_l zq_140 rfl
theorem p_140_17 : zP1 140 17 = some (.ireturn, 0, 0, 0) := zp_l zq_140 rfl
theorem p_140_18 : zP1 140 18 = some (.iload_n 2, 0, 0, 0) := zp_l zq_140 rfl
theorem p_140_19 : zP1 140 19 = some (.iconst 1, 0, 0, 0) := zp_l zq_140 rfl
theorem p_140_20 : zP1 140 20 = some (.if_icmp .ne 17, 0, 0, 0) := zp_l zq_140 rfl
theorem p_140_23 : zP1 140 23 = some (.aload_n 0, 0, 0, 0) := zp_l zq_140 rfl
theorem p_140_24 : zP1 140 24 = some (.getfield 10, 10, 0, 0) := zp_r zq_140 rfl
theorem p_140_27 : zP1 140 27 = some (.iload_n 1, 0, 0, 0) := zp_l zq_140 rfl
theorem p_140_28 : zP1 140 28 = some (.invokevirtual 90, 124, 1, 9) := zp_r zq_140 rfl
theorem p_140_31 : zP1 140 31 = some (.ifCond .eq 6, 0, 0, 0) := zp_l zq_140 rfl
theorem p_140_34 : zP1 140 34 = some (.bipush (-4), 0, 0, 0) := zp_l zq_140 rfl
theorem p_140_36 : zP1 140 36 = some (.ireturn, 0, 0, 0) := zp_l zq_140 rfl
theorem p_140_37 : zP1 140 37 = some (.aload_n 0, 0, 0, 0) := zp_l zq_140 rfl
theorem p_140_38 : zP1 140 38 = some (.getfield 10, 10, 0, 0) := zp_r zq_140 rfl
theorem p_140_41 : zP1 140 41 = some (.getfield 93, 9, 3, 0) := zp_r zq_140 rfl
theorem p_140_44 : zP1 140 44 = some (.iload_n 1, 0, 0, 0) := zp_l zq_140 rfl
theorem p_140_45 : zP1 140 45 = some (.iaload, 0, 0, 0) := zp_l zq_140 rfl
theorem p_140_46 : zP1 140 46 = some (.istore_n 3, 0, 0, 0) := zp_l zq_140 rfl
theorem p_140_47 : zP1 140 47 = some (.aload_n 0, 0, 0, 0) := zp_l zq_140 rfl
theorem p_140_48 : zP1 140 48 = some (.getfield 10, 10, 0, 0) := zp_r zq_140 rfl
theorem p_140_51 : zP1 140 51 = some (.getfield 93, 9, 3, 0) := zp_r zq_140 rfl
theorem p_140_54 : zP1 140 54 = some (.iload_n 1, 0, 0, 0) := zp_l zq_140 rfl
theorem p_140_55 : zP1 140 55 = some (.iload_n 2, 0, 0, 0) := zp_l zq_140 rfl
theorem p_140_56 : zP1 140 56 = some (.iastore, 0, 0, 0) := zp_l zq_140 rfl
theorem p_140_57 : zP1 140 57 = some (.iload_n 3, 0, 0, 0) := zp_l zq_140 rfl
theorem p_140_58 : zP1 140 58 = some (.iconst 1, 0, 0, 0) := zp_l zq_140 rfl
theorem p_140_59 : zP1 140 59 = some (.if_icmp .eq 8, 0, 0, 0) := zp_l zq_140 rfl
theorem p_140_62 : zP1 140 62 = some (.iload_n 2, 0, 0, 0) := zp_l zq_140 rfl
theorem p_140_63 : zP1 140 63 = some (.iconst 1, 0, 0, 0) := zp_l zq_140 rfl
theorem p_140_64 : zP1 140 64 = some (.if_icmp .ne 10, 0, 0, 0) := zp_l zq_140 rfl
theorem p_140_67 : zP1 140 67 = some (.aload_n 0, 0, 0, 0) := zp_l zq_140 rfl
theorem p_140_68 : zP1 140 68 = some (.getfield 40, 10, 4, 0) := zp_r zq_140 rfl
theorem p_140_71 : zP1 140 71 = some (.invokevirtual 97, 18, 0, 1) := zp_r zq_140 rfl
theorem p_140_74 : zP1 140 74 = some (.iload_n 3, 0, 0, 0) := zp_l zq_140 rfl
theorem p_140_75 : zP1 140 75 = some (.ireturn, 0, 0, 0) := zp_l zq_140 rfl
theorem b_140_0 {x1 : Int} {x2 : Int} : Z e (d + 1) 140 0 [.ref 0, .int (iI x1), .int (iI x2), .retAddr 0] [] m = (if (((wr x1) < 0) ∨ (100 ≤ (wr x1))) ∨ (((wr x2) < 0) ∨ (3 < (wr x2))) then ri (-1) m else (if (wr x2) = 1 then (Z e d 124 0 [.ref 1, .int (iI x1)] [] m).bind (ZK e (d + 1) 140 31 [.ref 0, .int (iI x1), .int (iI x2), .retAddr 0] [] m) else ck (0 ≤ (wr x1) ∧ (wr x1) < 100) (ck (0 ≤ (wr x1) ∧ (wr x1) < 100) ((if ((wr (m 2 (wr x1))) = 1) ∨ ((wr x2) = 1) then ri (m 2 (wr x1)) (um (um m 2 (wr x1) x2) 202 2 1) else ri (m 2 (wr x1)) (um m 2 (wr x1) x2)))))) := (s_il_1 p_140_0).trans <| (s_cs1 (Lc := [.int (iI x1)]) p_140_1 (by decide) (zM_of zq_194) ⟨Nat.le_of_ble_eq_true rfl, Nat.le_of_ble_eq_true rfl⟩ rfl).trans <| (bd b_194_0).trans <| ri_k.trans <| Eq.trans (Eq.trans (s_bne_t p_140_4 rfl) <| Eq.trans (ite_cg rfl ((s_il_2 p_140_7).trans <| Eq.trans (s_z_lt_t p_140_8 rfl rfl) <| Eq.trans (ite_cg rfl ((s_il_2 p_140_11).trans <| (s_const p_140_12).trans <| (s_c_le_f p_140_13 rfl rfl wl_3))) co_or)) co_or) <| ite_cg ((s_const p_140_16).trans <| (s_reti p_140_17 (zM_of zq_140))) ((s_il_2 p_140_18).trans <| (s_const p_140_19).trans <| Eq.trans ((s_c_ne_f p_140_20 rfl rfl wl_1)) <| ite_cg ((s_al_0 p_140_23).trans <| (s_getr p_140_24 hs_0 (by decide) rfl).trans <| (s_il_1 p_140_27).trans <| (s_cv1 (Lc := [.ref 1, .int (iI x1)]) p_140_28 (by decide) (by decide) (zM_of zq_124) ⟨Nat.le_of_ble_eq_true rfl, Nat.le_of_ble_eq_true rfl⟩ rfl (m_rc hs_1 ⟨rfl, by decide⟩))) ((s_al_0 p_140_37).trans <| (s_getr p_140_38 hs_0 (by decide) rfl).trans <| (s_getr p_140_41 hs_1 (by decide) rfl).trans <| (s_il_1 p_140_44).trans <| (s_ald 100 p_140_45 hs_2 rfl (by decide)).trans <| ck_cg fun k1 => (s_is_3 cat_i p_140_46).trans <| (s_al_0 p_140_47).trans <| (s_getr p_140_48 hs_0 (by decide) rfl).trans <| (s_getr p_140_51 hs_1 (by decide) rfl).trans <| (s_il_1 p_140_54).trans <| (s_il_2 p_140_55).trans <| (s_ast 100 p_140_56 hs_2 rfl).trans <| ck_cg fun k2 => (s_il_3 p_140_57).trans <| (s_const p_140_58).trans <| Eq.trans (Eq.trans (s_c_eq_t p_140_59 rfl rfl wl_1) <| Eq.trans (ite_cg rfl ((s_il_2 p_140_62).trans <| (s_const p_140_63).trans <| (s_c_ne_f p_140_64 rfl rfl wl_1))) co_or) <| ite_cg ((s_al_0 p_140_67).trans <| (s_getr p_140_68 hs_0 (by decide) rfl).trans <| (s_cv0 (Lc := [.ref 202]) p_140_71 (by decide) (by decide) (zM_of zq_18) ⟨Nat.le_of_ble_eq_true rfl, Nat.le_of_ble_eq_true rfl⟩ rfl (m_rc hs_202 ⟨rfl, by decide⟩)).trans <| (bd b_18_0).trans <| rn_k.trans <| (s_il_3 p_140_74).trans <| (s_reti p_140_75 (zM_of zq_140))) ((s_il_3 p_140_74).trans <| (s_reti p_140_75 (zM_of zq_140)))))
theorem b_140_31 {x1 : Int} {x2 : Int} {xs0 : Int} {u3 : Value} : Z e (d + 1) 140 31 [.ref 0, .int (iI x1), .int (iI x2), u3] [.int (iI xs0)] m = (if ¬ (wr xs0) = 0 then ri (-4) m else ck (0 ≤ (wr x1) ∧ (wr x1) < 100) (ck (0 ≤ (wr x1) ∧ (wr x1) < 100) ((if ((wr (m 2 (wr x1))) = 1) ∨ ((wr x2) = 1) then ri (m 2 (wr x1)) (um (um m 2 (wr x1) x2) 202 2 1) else ri (m 2 (wr x1)) (um m 2 (wr x1) x2))))) := Eq.trans ((s_z_eq_f p_140_31 rfl rfl)) <| ite_cg ((s_bip p_140_34 rfl).trans <| (s_reti p_140_36 (zM_of zq_140))) ((s_al_0 p_140_37).trans <| (s_getr p_140_38 hs_0 (by decide) rfl).trans <| (s_getr p_140_41 hs_1 (by decide) rfl).trans <| (s_il_1 p_140_44).trans <| (s_ald 100 p_140_45 hs_2 rfl (by decide)).trans <| ck_cg fun k1 => (s_is_3 cat_i p_140_46).trans <| (s_al_0 p_140_47).trans <| (s_getr p_140_48 hs_0 (by decide) rfl).trans <| (s_getr p_140_51 hs_1 (by decide) rfl).trans <| (s_il_1 p_140_54).trans <| (s_il_2 p_140_55).trans <| (s_ast 100 p_140_56 hs_2 rfl).trans <| ck_cg fun k2 => (s_il_3 p_140_57).trans <| (s_const p_140_58).trans <| Eq.trans (Eq.trans (s_c_eq_t p_140_59 rfl rfl wl_1) <| Eq.trans (ite_cg rfl ((s_il_2 p_140_62).trans <| (s_const p_140_63).trans <| (s_c_ne_f p_140_64 rfl rfl wl_1))) co_or) <| ite_cg ((s_al_0 p_140_67).trans <| (s_getr p_140_68 hs_0 (by decide) rfl).trans <| (s_cv0 (Lc := [.ref 202]) p_140_71 (by decide) (by decide) (zM_of zq_18) ⟨Nat.le_of_ble_eq_true rfl, Nat.le_of_ble_eq_true rfl⟩ rfl (m_rc hs_202 ⟨rfl, by decide⟩)).trans <| (bd b_18_0).trans <| rn_k.trans <| (s_il_3 p_140_74).trans <| (s_reti p_140_75 (zM_of zq_140))) ((s_il_3 p_140_74).trans <| (s_reti p_140_75 (zM_of zq_140))))
-- P.version
theorem p_151_0 : zP1 151 0 = some (.iload_n 1, 0, 0, 0) := zp_l zq_151 rfl
theorem p_151_1 : zP1 151 1 = some (.ifCond .lt 14, 0, 0, 0) := zp_l zq_151 rfl
theorem p_151_4 : zP1 151 4 = some (.iload_n 1, 0, 0, 0) := zp_l zq_151 rfl
theorem p_151_5 : zP1 151 5 = some (.aload_n 0, 0, 0, 0) := zp_l zq_151 rfl
theorem p_151_6 : zP1 151 6 = some (.getfield 10, 10, 0, 0) := zp_r zq_151 rfl
theorem p_151_9 : zP1 151 9 = some (.getfield 172, 9, 2, 0) := zp_r zq_151 rfl
theorem p_151_12 : zP1 151 12 = some (.if_icmp .lt 5, 0, 0, 0) := zp_l zq_151 rfl
theorem p_151_15 : zP1 151 15 = some (.iconst (-1), 0, 0, 0) := zp_l zq_151 rfl
theorem p_151_16 : zP1 151 16 = some (.ireturn, 0, 0, 0) := zp_l zq_151 rfl
theorem p_151_17 : zP1 151 17 = some (.aload_n 0, 0, 0, 0) := zp_l zq_151 rfl
theorem p_151_18 : zP1 151 18 = some (.getfield 10, 10, 0, 0) := zp_r zq_151 rfl
theorem p_151_21 : zP1 151 21 = some (.getfield 186, 9, 4, 0) := zp_r zq_151 rfl
theorem p_151_24 : zP1 151 24 = some (.iload_n 1, 0, 0, 0) := zp_l zq_151 rfl
theorem p_151_25 : zP1 151 25 = some (.aaload, 0, 0, 0) := zp_l zq_151 rfl
theorem p_151_26 : zP1 151 26 = some (.astore_n 3, 0, 0, 0) := zp_l zq_151 rfl
theorem p_151_27 : zP1 151 27 = some (.iload_n 2, 0, 0, 0) := zp_l zq_151 rfl
theorem p_151_28 : zP1 151 28 = some (.ifCond .ne 8, 0, 0, 0) := zp_l zq_151 rfl
theorem p_151_31 : zP1 151 31 = some (.aload_n 3, 0, 0, 0) := zp_l zq_151 rfl
theorem p_151_32 : zP1 151 32 = some (.getfield 195, 8, 0, 0) := zp_r zq_151 rfl
theorem p_151_35 : zP1 151 35 = some (.ireturn, 0, 0, 0) := zp_l zq_151 rfl
theorem p_151_36 : zP1 151 36 = some (.iload_n 2, 0, 0, 0) := zp_l zq_151 rfl
theorem p_151_37 : zP1 151 37 = some (.iconst 1, 0, 0, 0) := zp_l zq_151 rfl
theorem p_151_38 : zP1 151 38 = some (.if_icmp .ne 8, 0, 0, 0) := zp_l zq_151 rfl
theorem p_151_41 : zP1 151 41 = some (.aload_n 3, 0, 0, 0) := zp_l zq_151 rfl
theorem p_151_42 : zP1 151 42 = some (.getfield 198, 8, 3, 0) := zp_r zq_151 rfl
theorem p_151_45 : zP1 151 45 = some (.ireturn, 0, 0, 0) := zp_l zq_151 rfl
theorem p_151_46 : zP1 151 46 = some (.iload_n 2, 0, 0, 0) := zp_l zq_151 rfl
theorem p_151_47 : zP1 151 47 = some (.iconst 2, 0, 0, 0) := zp_l zq_151 rfl
theorem p_151_48 : zP1 151 48 = some (.if_icmp .ne 8, 0, 0, 0) := zp_l zq_151 rfl
theorem p_151_51 : zP1 151 51 = some (.aload_n 3, 0, 0, 0) := zp_l zq_151 rfl
theorem p_151_52 : zP1 151 52 = some (.getfield 201, 8, 1, 0) := zp_r zq_151 rfl
theorem p_151_55 : zP1 151 55 = some (.ireturn, 0, 0, 0) := zp_l zq_151 rfl
theorem p_151_56 : zP1 151 56 = some (.iload_n 2, 0, 0, 0) := zp_l zq_151 rfl
theorem p_151_57 : zP1 151 57 = some (.iconst 3, 0, 0, 0) := zp_l zq_151 rfl
theorem p_151_58 : zP1 151 58 = some (.if_icmp .ne 8, 0, 0, 0) := zp_l zq_151 rfl
theorem p_151_61 : zP1 151 61 = some (.aload_n 3, 0, 0, 0) := zp_l zq_151 rfl
theorem p_151_62 : zP1 151 62 = some (.getfield 190, 8, 2, 0) := zp_r zq_151 rfl
theorem p_151_65 : zP1 151 65 = some (.ireturn, 0, 0, 0) := zp_l zq_151 rfl
theorem p_151_66 : zP1 151 66 = some (.iload_n 2, 0, 0, 0) := zp_l zq_151 rfl
theorem p_151_67 : zP1 151 67 = some (.bipush 10, 0, 0, 0) := zp_l zq_151 rfl
theorem p_151_69 : zP1 151 69 = some (.if_icmp .lt 14, 0, 0, 0) := zp_l zq_151 rfl
theorem p_151_72 : zP1 151 72 = some (.iload_n 2, 0, 0, 0) := zp_l zq_151 rfl
theorem p_151_73 : zP1 151 73 = some (.bipush 10, 0, 0, 0) := zp_l zq_151 rfl
theorem p_151_75 : zP1 151 75 = some (.isub, 0, 0, 0) := zp_l zq_151 rfl
theorem p_151_76 : zP1 151 76 = some (.aload_n 3, 0, 0, 0) := zp_l zq_151 rfl
theorem p_151_77 : zP1 151 77 = some (.getfield 198, 8, 3, 0) := zp_r zq_151 rfl
theorem p_151_80 : zP1 151 80 = some (.if_icmp .lt 5, 0, 0, 0) := zp_l zq_151 rfl
theorem p_151_83 : zP1 151 83 = some (.iconst (-1), 0, 0, 0) := zp_l zq_151 rfl
theorem p_151_84 : zP1 151 84 = some (.ireturn, 0, 0, 0) := zp_l zq_151 rfl
theorem p_151_85 : zP1 151 85 = some (.sipush 1000, 0, 0, 0) := zp_l zq_151 rfl
theorem p_151_88 : zP1 151 88 = some (.aload_n 3, 0, 0, 0) := zp_l zq_151 rfl
theorem p_151_89 : zP1 151 89 = some (.getfield 204, 8, 5, 0) := zp_r zq_151 rfl
theorem p_151_92 : zP1 151 92 = some (.iload_n 2, 0, 0, 0) := zp_l zq_151 rfl
theorem p_151_93 : zP1 151 93 = some (.bipush 10, 0, 0, 0) := zp_l zq_151 rfl
theorem p_151_95 : zP1 151 95 = some (.isub, 0, 0, 0) := zp_l zq_151 rfl
theorem p_151_96 : zP1 151 96 = some (.iaload, 0, 0, 0) := zp_l zq_151 rfl
theorem p_151_97 : zP1 151 97 = some (.imul, 0, 0, 0) := zp_l zq_151 rfl
theorem p_151_98 : zP1 151 98 = some (.aload_n 3, 0, 0, 0) := zp_l zq_151 rfl
theorem p_151_99 : zP1 151 99 = some (.getfield 207, 8, 6, 0) := zp_r zq_151 rfl
theorem p_151_102 : zP1 151 102 = some (.iload_n 2, 0, 0, 0) := zp_l zq_151 rfl
theorem p_151_103 : zP1 151 103 = some (.bipush 10, 0, 0, 0) := zp_l zq_151 rfl
theorem p_151_105 : zP1 151 105 = some (.isub, 0, 0, 0) := zp_l zq_151 rfl
theorem p_151_106 : zP1 151 106 = some (.iaload, 0, 0, 0) := zp_l zq_151 rfl
theorem p_151_107 : zP1 151 107 = some (.iadd, 0, 0, 0) := zp_l zq_151 rfl
theorem p_151_108 : zP1 151 108 = some (.ireturn, 0, 0, 0) := zp_l zq_151 rfl
theorem b_151_0 {x1 : Int} {x2 : Int} : Z e d 151 0 [.ref 0, .int (iI x1), .int (iI x2), .retAddr 0] [] m = (if ((wr x1) < 0) ∨ ((wr (m 1 2)) ≤ (wr x1)) then ri (-1) m else ck (0 ≤ (wr x1) ∧ (wr x1) < 12) ((if (wr x2) = 0 then ri (m (18 + 6 * (wr x1).toNat) 0) m else (if (wr x2) = 1 then ri (m (18 + 6 * (wr x1).toNat) 3) m else (if (wr x2) = 2 then ri (m (18 + 6 * (wr x1).toNat) 1) m else (if (wr x2) = 3 then ri (m (18 + 6 * (wr x1).toNat) 2) m else (if ((wr x2) < 10) ∨ ((wr (m (18 + 6 * (wr x1).toNat) 3)) ≤ (wr (x2 - 10))) then ri (-1) m else ck (0 ≤ (wr (x2 - 10)) ∧ (wr (x2 - 10)) < 10) (ck (0 ≤ (wr (x2 - 10)) ∧ (wr (x2 - 10)) < 10) (ri ((1000 * (m ((18 + 6 * (wr x1).toNat) + 1) (wr (x2 - 10)))) + (m ((18 + 6 * (wr x1).toNat) + 2) (wr (x2 - 10)))) m))))))))) := (s_il_1 p_151_0).trans <| Eq.trans (Eq.trans (s_z_lt_t p_151_1 rfl rfl) <| Eq.trans (ite_cg rfl ((s_il_1 p_151_4).trans <| (s_al_0 p_151_5).trans <| (s_getr p_151_6 hs_0 (by decide) rfl).trans <| (s_get p_151_9 hs_1 (by decide) rfl).trans <| (s_c_lt_f p_151_12 rfl rfl rfl))) co_or) <| ite_cg ((s_const p_151_15).trans <| (s_reti p_151_16 (zM_of zq_151))) ((s_al_0 p_151_17).trans <| (s_getr p_151_18 hs_0 (by decide) rfl).trans <| (s_getr p_151_21 hs_1 (by decide) rfl).trans <| (s_il_1 p_151_24).trans <| (s_aald 12 p_151_25 hs_3 rfl ⟨by decide, by decide⟩ ar_3).trans <| ck_cg fun k1 => (s_as_3 cat_i p_151_26).trans <| (s_il_2 p_151_27).trans <| Eq.trans ((s_z_ne_f p_151_28 rfl rfl)) <| ite_cg ((s_al_3 p_151_31).trans <| (s_get p_151_32 (zVer_0 k1).1 (by decide) rfl).trans <| (s_reti p_151_35 (zM_of zq_151))) ((s_il_2 p_151_36).trans <| (s_const p_151_37).trans <| Eq.trans ((s_c_ne_f p_151_38 rfl rfl wl_1)) <| ite_cg ((s_al_3 p_151_41).trans <| (s_get p_151_42 (zVer_0 k1).1 (by decide) rfl).trans <| (s_reti p_151_45 (zM_of zq_151))) ((s_il_2 p_151_46).trans <| (s_const p_151_47).trans <| Eq.trans ((s_c_ne_f p_151_48 rfl rfl wl_2)) <| ite_cg ((s_al_3 p_151_51).trans <| (s_get p_151_52 (zVer_0 k1).1 (by decide) rfl).trans <| (s_reti p_151_55 (zM_of zq_151))) ((s_il_2 p_151_56).trans <| (s_const p_151_57).trans <| Eq.trans ((s_c_ne_f p_151_58 rfl rfl wl_3)) <| ite_cg ((s_al_3 p_151_61).trans <| (s_get p_151_62 (zVer_0 k1).1 (by decide) rfl).trans <| (s_reti p_151_65 (zM_of zq_151))) ((s_il_2 p_151_66).trans <| (s_bip p_151_67 rfl).trans <| Eq.trans (Eq.trans (s_c_lt_t p_151_69 rfl rfl wl_10) <| Eq.trans (ite_cg rfl ((s_il_2 p_151_72).trans <| (s_bip p_151_73 rfl).trans <| (s_isub p_151_75).trans <| (s_al_3 p_151_76).trans <| (s_get p_151_77 (zVer_0 k1).1 (by decide) rfl).trans <| (s_c_lt_f p_151_80 rfl rfl rfl))) co_or) <| ite_cg ((s_const p_151_83).trans <| (s_reti p_151_84 (zM_of zq_151))) ((s_sip p_151_85 rfl).trans <| (s_al_3 p_151_88).trans <| (s_getr p_151_89 (zVer_0 k1).1 (by decide) rfl).trans <| (s_il_2 p_151_92).trans <| (s_bip p_151_93 rfl).trans <| (s_isub p_151_95).trans <| (s_ald 10 p_151_96 (zVer_0 k1).2.1 rfl (zV_1 (zVer_0 k1))).trans <| ck_cg fun k2 => (s_imul p_151_97).trans <| (s_al_3 p_151_98).trans <| (s_getr p_151_99 (zVer_0 k1).1 (by decide) rfl).trans <| (s_il_2 p_151_102).trans <| (s_bip p_151_103 rfl).trans <| (s_isub p_151_105).trans <| (s_ald 10 p_151_106 (zVer_0 k1).2.2.1 rfl (zV_2 (zVer_0 k1))).trans <| ck_cg fun k3 => (s_iadd p_151_107).trans <| (s_reti p_151_108 (zM_of zq_151))))))))
-- M.within3
theorem p_199_0 : zP1 199 0 = some (.iload_n 0, 0, 0, 0) := zp_l zq_199 rfl
theorem p_199_1 : zP1 199 1 = some (.iload_n 1, 0, 0, 0) := zp_l zq_199 rfl
theorem p_199_2 : zP1 199 2 = some (.if_icmp .lt 12, 0, 0, 0) := zp_l zq_199 rfl
theorem p_199_5 : zP1 199 5 = some (.iload_n 0, 0, 0, 0) := zp_l zq_199 rfl
theorem p_199_6 : zP1 199 6 = some (.iload_n 2, 0, 0, 0) := zp_l zq_199 rfl
theorem p_199_7 : zP1 199 7 = some (.if_icmp .gt 7, 0, 0, 0) := zp_l zq_199 rfl
theorem p_199_10 : zP1 199 10 = some (.iconst 1, 0, 0, 0) := zp_l zq_199 rfl
theorem p_199_11 : zP1 199 11 = some (.goto 4, 0, 0, 0) := zp_l zq_199 rfl
theorem p_199_14 : zP1 199 14 = some (.iconst 0, 0, 0, 0) := zp_l zq_199 rfl
theorem p_199_15 : zP1 199 15 = some (.ireturn, 0, 0, 0) := zp_l zq_199 rfl
theorem b_199_0 {x0 : Int} {x1 : Int} {x2 : Int} : Z e d 199 0 [.int (iI x0), .int (iI x1), .int (iI x2)] [] m = ri (if ((wr x1) ≤ (wr x0)) ∧ ((wr x0) ≤ (wr x2)) then 1 else 0) m := (s_il_0 p_199_0).trans <| (s_il_1 p_199_1).trans <| Eq.trans (Eq.trans (Eq.trans (s_c_lt_f p_199_2 rfl rfl rfl) <| Eq.trans (ite_cg ((s_il_0 p_199_5).trans <| (s_il_2 p_199_6).trans <| (s_c_gt_f p_199_7 rfl rfl rfl)) rfl) co_and) <| Eq.trans (ite_cg ((s_const p_199_10).trans <| (s_goto p_199_11 rfl).trans <| rfl) ((s_const p_199_14).trans <| rfl)) (phi1 (fun z0 => Z e d 199 15 [.int (iI x0), .int (iI x1), .int (iI x2)] [.int (iI z0)] m))) <| (s_retb p_199_15 (zM_of zq_199))
-- M.isCell
theorem p_200_0 : zP1 200 0 = some (.iload_n 0, 0, 0, 0) := zp_l zq_200 rfl
theorem p_200_1 : zP1 200 1 = some (.iconst 0, 0, 0, 0) := zp_l zq_200 rfl
theorem p_200_2 : zP1 200 2 = some (.bipush 99, 0, 0, 0) := zp_l zq_200 rfl
theorem p_200_4 : zP1 200 4 = some (.invokestatic 100, 199, 3, 0) := zp_r zq_200 rfl
theorem p_200_7 : zP1 200 7 = some (.ireturn, 0, 0, 0) := zp_l zq_200 rfl
theorem b_200_0 {x0 : Int} : Z e (d + 1) 200 0 [.int (iI x0)] [] m = ri (if ((wr 0) ≤ (wr x0)) ∧ ((wr x0) ≤ (wr 99)) then 1 else 0) m := (s_il_0 p_200_0).trans <| (s_const p_200_1).trans <| (s_bip p_200_2 rfl).trans <| (s_cs3 (Lc := [.int (iI x0), .int (iI 0), .int (iI 99)]) p_200_4 (by decide) (zM_of zq_199) ⟨Nat.le_of_ble_eq_true rfl, Nat.le_of_ble_eq_true rfl⟩ rfl).trans <| (bd b_199_0).trans <| ri_k.trans <| (s_retb p_200_7 (zM_of zq_200))
-- M.isWall
theorem p_203_0 : zP1 203 0 = some (.aload_n 0, 0, 0, 0) := zp_l zq_203 rfl
theorem p_203_1 : zP1 203 1 = some (.getfield 9, 11, 0, 0) := zp_r zq_203 rfl
theorem p_203_4 : zP1 203 4 = some (.bipush 10, 0, 0, 0) := zp_l zq_203 rfl
theorem p_203_6 : zP1 203 6 = some (.iload_n 1, 0, 0, 0) := zp_l zq_203 rfl
theorem p_203_7 : zP1 203 7 = some (.iadd, 0, 0, 0) := zp_l zq_203 rfl
theorem p_203_8 : zP1 203 8 = some (.iaload, 0, 0, 0) := zp_l zq_203 rfl
theorem p_203_9 : zP1 203 9 = some (.iconst 1, 0, 0, 0) := zp_l zq_203 rfl
theorem p_203_10 : zP1 203 10 = some (.if_icmp .ne 7, 0, 0, 0) := zp_l zq_203 rfl
theorem p_203_13 : zP1 203 13 = some (.iconst 1, 0, 0, 0) := zp_l zq_203 rfl
theorem p_203_14 : zP1 203 14 = some (.goto 4, 0, 0, 0) := zp_l zq_203 rfl
theorem p_203_17 : zP1 203 17 = some (.iconst 0, 0, 0, 0) := zp_l zq_203 rfl
theorem p_203_18 : zP1 203 18 = some (.ireturn, 0, 0, 0) := zp_l zq_203 rfl
theorem b_203_0 {x1 : Int} : Z e d 203 0 [.ref 246, .int (iI x1)] [] m = ck (0 ≤ (wr (10 + x1)) ∧ (wr (10 + x1)) < 2737) (ri (if (wr (m 247 (wr (10 + x1)))) = 1 then 1 else 0) m) := (s_al_0 p_203_0).trans <| (s_getr p_203_1 hs_246 (by decide) rfl).trans <| (s_bip p_203_4 rfl).trans <| (s_il_1 p_203_6).trans <| (s_iadd p_203_7).trans <| (s_ald 2737 p_203_8 hs_247 rfl (by decide)).trans <| ck_cg fun k1 => (s_const p_203_9).trans <| Eq.trans (Eq.trans ((s_c_ne_f p_203_10 rfl rfl wl_1)) <| Eq.trans (ite_cg ((s_const p_203_13).trans <| (s_goto p_203_14 rfl).trans <| rfl) ((s_const p_203_17).trans <| rfl)) (phi1 (fun z0 => Z e d 203 18 [.ref 246, .int (iI x1)] [.int (iI z0)] m))) <| (s_retb p_203_18 (zM_of zq_203))
-- M.of
theorem p_204_0 : zP1 204 0 = some (.bipush 110, 0, 0, 0) := zp_l zq_204 rfl
theorem p_204_2 : zP1 204 2 = some (.bipush 9, 0, 0, 0) := zp_l zq_204 rfl
theorem p_204_4 : zP1 204 4 = some (.iload_n 0, 0, 0, 0) := zp_l zq_204 rfl
theorem p_204_5 : zP1 204 5 = some (.imul, 0, 0, 0) := zp_l zq_204 rfl
theorem p_204_6 : zP1 204 6 = some (.iadd, 0, 0, 0) := zp_l zq_204 rfl
theorem p_204_7 : zP1 204 7 = some (.iload_n 1, 0, 0, 0) := zp_l zq_204 rfl
theorem p_204_8 : zP1 204 8 = some (.iadd, 0, 0, 0) := zp_l zq_204 rfl
theorem p_204_9 : zP1 204 9 = some (.ireturn, 0, 0, 0) := zp_l zq_204 rfl
theorem b_204_0 {x0 : Int} {x1 : Int} : Z e d 204 0 [.int (iI x0), .int (iI x1)] [] m = ri ((110 + (9 * x0)) + x1) m := (s_bip p_204_0 rfl).trans <| (s_bip p_204_2 rfl).trans <| (s_il_0 p_204_4).trans <| (s_imul p_204_5).trans <| (s_iadd p_204_6).trans <| (s_il_1 p_204_7).trans <| (s_iadd p_204_8).trans <| (s_reti p_204_9 (zM_of zq_204))
-- M.stepTo
theorem p_208_0 : zP1 208 0 = some (.iload_n 2, 0, 0, 0) := zp_l zq_208 rfl
theorem p_208_1 : zP1 208 1 = some (.ifCond .ne 10, 0, 0, 0) := zp_l zq_208 rfl
theorem p_208_4 : zP1 208 4 = some (.iload_n 1, 0, 0, 0) := zp_l zq_208 rfl
theorem p_208_5 : zP1 208 5 = some (.bipush 10, 0, 0, 0) := zp_l zq_208 rfl
theorem p_208_7 : zP1 208 7 = some (.isub, 0, 0, 0) := zp_l zq_208 rfl
theorem p_208_8 : zP1 208 8 = some (.goto 53, 0, 0, 0) := zp_l zq_208 rfl
theorem p_208_11 : zP1 208 11 = some (.iload_n 2, 0, 0, 0) := zp_l zq_208 rfl
theorem p_208_12 : zP1 208 12 = some (.iconst 1, 0, 0, 0) := zp_l zq_208 rfl
theorem p_208_13 : zP1 208 13 = some (.if_icmp .ne 20, 0, 0, 0) := zp_l zq_208 rfl
theorem p_208_16 : zP1 208 16 = some (.iload_n 1, 0, 0, 0) := zp_l zq_208 rfl
theorem p_208_17 : zP1 208 17 = some (.bipush 10, 0, 0, 0) := zp_l zq_208 rfl
theorem p_208_19 : zP1 208 19 = some (.irem, 0, 0, 0) := zp_l zq_208 rfl
theorem p_208_20 : zP1 208 20 = some (.ifCond .ne 7, 0, 0, 0) := zp_l zq_208 rfl
theorem p_208_23 : zP1 208 23 = some (.iconst (-1), 0, 0, 0) := zp_l zq_208 rfl
theorem p_208_24 : zP1 208 24 = some (.goto 37, 0, 0, 0) := zp_l zq_208 rfl
theorem p_208_27 : zP1 208 27 = some (.iload_n 1, 0, 0, 0) := zp_l zq_208 rfl
theorem p_208_28 : zP1 208 28 = some (.iconst 1, 0, 0, 0) := zp_l zq_208 rfl
theorem p_208_29 : zP1 208 29 = some (.isub, 0, 0, 0) := zp_l zq_208 rfl
theorem p_208_30 : zP1 208 30 = some (.goto 31, 0, 0, 0) := zp_l zq_208 rfl
theorem p_208_33 : zP1 208 33 = some (.iload_n 2, 0, 0, 0) := zp_l zq_208 rfl
theorem p_208_34 : zP1 208 34 = some (.iconst 2, 0, 0, 0) := zp_l zq_208 rfl
theorem p_208_35 : zP1 208 35 = some (.if_icmp .ne 22, 0, 0, 0) := zp_l zq_208 rfl
theorem p_208_38 : zP1 208 38 = some (.iload_n 1, 0, 0, 0) := zp_l zq_208 rfl
theorem p_208_39 : zP1 208 39 = some (.bipush 10, 0, 0, 0) := zp_l zq_208 rfl
theorem p_208_41 : zP1 208 41 = some (.irem, 0, 0, 0) := zp_l zq_208 rfl
theorem p_208_42 : zP1 208 42 = some (.bipush 9, 0, 0, 0) := zp_l zq_208 rfl
theorem p_208_44 : zP1 208 44 = some (.if_icmp .ne 7, 0, 0, 0) := zp_l zq_208 rfl
theorem p_208_47 : zP1 208 47 = some (.iconst (-1), 0, 0, 0) := zp_l zq_208 rfl
theorem p_208_48 : zP1 208 48 = some (.goto 13, 0, 0, 0) := zp_l zq_208 rfl
theorem p_208_51 : zP1 208 51 = some (.iload_n 1, 0, 0, 0) := zp_l zq_208 rfl
theorem p_208_52 : zP1 208 52 = some (.iconst 1, 0, 0, 0) := zp_l zq_208 rfl
theorem p_208_53 : zP1 208 53 = some (.iadd, 0, 0, 0) := zp_l zq_208 rfl
theorem p_208_54 : zP1 208 54 = some (.goto 7, 0, 0, 0) := zp_l zq_208 rfl
theorem p_208_57 : zP1 208 57 = some (.iload_n 1, 0, 0, 0) := zp_l zq_208 rfl
theorem p_208_58 : zP1 208 58 = some (.bipush 10, 0, 0, 0) := zp_l zq_208 rfl
theorem p_208_60 : zP1 208 60 = some (.iadd, 0, 0, 0) := zp_l zq_208 rfl
theorem p_208_61 : zP1 208 61 = some (.istore_n 3, 0, 0, 0) := zp_l zq_208 rfl
theorem p_208_62 : zP1 208 62 = some (.iload_n 3, 0, 0, 0) := zp_l zq_208 rfl
theorem p_208_63 : zP1 208 63 = some (.invokestatic 110, 200, 1, 0) := zp_r zq_208 rfl
theorem p_208_66 : zP1 208 66 = some (.ifCond .eq 11, 0, 0, 0) := zp_l zq_208 rfl
theorem p_208_69 : zP1 208 69 = some (.aload_n 0, 0, 0, 0) := zp_l zq_208 rfl
theorem p_208_70 : zP1 208 70 = some (.iload_n 3, 0, 0, 0) := zp_l zq_208 rfl
theorem p_208_71 : zP1 208 71 = some (.invokevirtual 114, 203, 1, 11) := zp_r zq_208 rfl
theorem p_208_74 : zP1 208 74 = some (.ifCond .eq 7, 0, 0, 0) := zp_l zq_208 rfl
theorem p_208_77 : zP1 208 77 = some (.iconst (-1), 0, 0, 0) := zp_l zq_208 rfl
theorem p_208_78 : zP1 208 78 = some (.goto 4, 0, 0, 0) := zp_l zq_208 rfl
theorem p_208_81 : zP1 208 81 = some (.iload_n 3, 0, 0, 0) := zp_l zq_208 rfl
theorem p_208_82 : zP1 208 82 = some (.ireturn, 0, 0, 0) := zp_l zq_208 rfl
theorem b_208_0 {x1 : Int} {x2 : Int} : Z e (d + 2) 208 0 [.ref 246, .int (iI x1), .int (iI x2), .retAddr 0] [] m = ck ((¬ (¬ (((wr 0) ≤ (wr (if (wr x2) = 0 then (x1 - 10) else (if (wr x2) = 1 then (if (wr (jrem x1 10)) = 0 then (-1) else (x1 - 1)) else (if (wr x2) = 2 then (if (wr (jrem x1 10)) = 9 then (-1) else (x1 + 1)) else (x1 + 10)))))) ∧ ((wr (if (wr x2) = 0 then (x1 - 10) else (if (wr x2) = 1 then (if (wr (jrem x1 10)) = 0 then (-1) else (x1 - 1)) else (if (wr x2) = 2 then (if (wr (jrem x1 10)) = 9 then (-1) else (x1 + 1)) else (x1 + 10))))) ≤ (wr 99))))) → (0 ≤ (wr (10 + (if (wr x2) = 0 then (x1 - 10) else (if (wr x2) = 1 then (if (wr (jrem x1 10)) = 0 then (-1) else (x1 - 1)) else (if (wr x2) = 2 then (if (wr (jrem x1 10)) = 9 then (-1) else (x1 + 1)) else (x1 + 10)))))) ∧ (wr (10 + (if (wr x2) = 0 then (x1 - 10) else (if (wr x2) = 1 then (if (wr (jrem x1 10)) = 0 then (-1) else (x1 - 1)) else (if (wr x2) = 2 then (if (wr (jrem x1 10)) = 9 then (-1) else (x1 + 1)) else (x1 + 10)))))) < 2737)) (ri (if (¬ (((wr 0) ≤ (wr (if (wr x2) = 0 then (x1 - 10) else (if (wr x2) = 1 then (if (wr (jrem x1 10)) = 0 then (-1) else (x1 - 1)) else (if (wr x2) = 2 then (if (wr (jrem x1 10)) = 9 then (-1) else (x1 + 1)) else (x1 + 10)))))) ∧ ((wr (if (wr x2) = 0 then (x1 - 10) else (if (wr x2) = 1 then (if (wr (jrem x1 10)) = 0 then (-1) else (x1 - 1)) else (if (wr x2) = 2 then (if (wr (jrem x1 10)) = 9 then (-1) else (x1 + 1)) else (x1 + 10))))) ≤ (wr 99)))) ∨ ((wr (m 247 (wr (10 + (if (wr x2) = 0 then (x1 - 10) else (if (wr x2) = 1 then (if (wr (jrem x1 10)) = 0 then (-1) else (x1 - 1)) else (if (wr x2) = 2 then (if (wr (jrem x1 10)) = 9 then (-1) else (x1 + 1)) else (x1 + 10)))))))) = 1) then (-1) else (if (wr x2) = 0 then (x1 - 10) else (if (wr x2) = 1 then (if (wr (jrem x1 10)) = 0 then (-1) else (x1 - 1)) else (if (wr x2) = 2 then (if (wr (jrem x1 10)) = 9 then (-1) else (x1 + 1)) else (x1 + 10))))) m) := (s_il_2 p_208_0).trans <| Eq.trans (Eq.trans ((s_z_ne_f p_208_1 rfl rfl)) <| Eq.trans (ite_cg ((s_il_1 p_208_4).trans <| (s_bip p_208_5 rfl).trans <| (s_isub p_208_7).trans <| (s_goto p_208_8 rfl).trans <| rfl) ((s_il_2 p_208_11).trans <| (s_const p_208_12).trans <| Eq.trans (Eq.trans ((s_c_ne_f p_208_13 rfl rfl wl_1)) <| Eq.trans (ite_cg ((s_il_1 p_208_16).trans <| (s_bip p_208_17 rfl).trans <| (s_iremc p_208_19 (by decide)).trans <| Eq.trans (Eq.trans ((s_z_ne_f p_208_20 rfl rfl)) <| Eq.trans (ite_cg ((s_const p_208_23).trans <| (s_goto p_208_24 rfl).trans <| rfl) ((s_il_1 p_208_27).trans <| (s_const p_208_28).trans <| (s_isub p_208_29).trans <| (s_goto p_208_30 rfl).trans <| rfl)) (phi1 (fun z0 => Z e (d + 2) 208 61 [.ref 246, .int (iI x1), .int (iI x2), .retAddr 0] [.int (iI z0)] m))) <| rfl) ((s_il_2 p_208_33).trans <| (s_const p_208_34).trans <| Eq.trans (Eq.trans ((s_c_ne_f p_208_35 rfl rfl wl_2)) <| Eq.trans (ite_cg ((s_il_1 p_208_38).trans <| (s_bip p_208_39 rfl).trans <| (s_iremc p_208_41 (by decide)).trans <| (s_bip p_208_42 rfl).trans <| Eq.trans (Eq.trans ((s_c_ne_f p_208_44 rfl rfl wl_9)) <| Eq.trans (ite_cg ((s_const p_208_47).trans <| (s_goto p_208_48 rfl).trans <| rfl) ((s_il_1 p_208_51).trans <| (s_const p_208_52).trans <| (s_iadd p_208_53).trans <| (s_goto p_208_54 rfl).trans <| rfl)) (phi1 (fun z0 => Z e (d + 2) 208 61 [.ref 246, .int (iI x1), .int (iI x2), .retAddr 0] [.int (iI z0)] m))) <| rfl) ((s_il_1 p_208_57).trans <| (s_bip p_208_58 rfl).trans <| (s_iadd p_208_60).trans <| rfl)) (phi1 (fun z0 => Z e (d + 2) 208 61 [.ref 246, .int (iI x1), .int (iI x2), .retAddr 0] [.int (iI z0)] m))) <| rfl)) (phi1 (fun z0 => Z e (d + 2) 208 61 [.ref 246, .int (iI x1), .int (iI x2), .retAddr 0] [.int (iI z0)] m))) <| rfl)) (phi1 (fun z0 => Z e (d + 2) 208 61 [.ref 246, .int (iI x1), .int (iI x2), .retAddr 0] [.int (iI z0)] m))) <| (s_is_3 cat_i p_208_61).trans <| (s_il_3 p_208_62).trans <| (s_cs1 (Lc := [.int (iI (if (wr x2) = 0 then (x1 - 10) else (if (wr x2) = 1 then (if (wr (jrem x1 10)) = 0 then (-1) else (x1 - 1)) else (if (wr x2) = 2 then (if (wr (jrem x1 10)) = 9 then (-1) else (x1 + 1)) else (x1 + 10)))))]) p_208_63 (by decide) (zM_of zq_200) ⟨Nat.le_of_ble_eq_true rfl, Nat.le_of_ble_eq_true rfl⟩ rfl).trans <| (bd b_200_0).trans <| ri_k.trans <| Eq.trans (Eq.trans (Eq.trans (s_beq_t p_208_66 rfl) <| Eq.trans (ite_cg rfl ((s_al_0 p_208_69).trans <| (s_il_3 p_208_70).trans <| (s_cv1 (Lc := [.ref 246, .int (iI (if (wr x2) = 0 then (x1 - 10) else (if (wr x2) = 1 then (if (wr (jrem x1 10)) = 0 then (-1) else (x1 - 1)) else (if (wr x2) = 2 then (if (wr (jrem x1 10)) = 9 then (-1) else (x1 + 1)) else (x1 + 10)))))]) p_208_71 (by decide) (by decide) (zM_of zq_203) ⟨Nat.le_of_ble_eq_true rfl, Nat.le_of_ble_eq_true rfl⟩ rfl (m_rc hs_246 ⟨rfl, by decide⟩)).trans <| (bd b_203_0).trans <| ck_bind.trans <| ck_cg fun k1 => ri_k.trans <| (s_beq_f p_208_74 rfl))) <| Eq.trans ck_b <| ck_cg fun _ => co_or) <| ck_cg fun _ => Eq.trans (ite_cg ((s_const p_208_77).trans <| (s_goto p_208_78 rfl).trans <| rfl) ((s_il_3 p_208_81).trans <| rfl)) (phi1 (fun z0 => Z e (d + 2) 208 82 [.ref 246, .int (iI x1), .int (iI x2), .int (iI (if (wr x2) = 0 then (x1 - 10) else (if (wr x2) = 1 then (if (wr (jrem x1 10)) = 0 then (-1) else (x1 - 1)) else (if (wr x2) = 2 then (if (wr (jrem x1 10)) = 9 then (-1) else (x1 + 1)) else (x1 + 10)))))] [.int (iI z0)] m))) <| ck_cg fun _ => (s_reti p_208_82 (zM_of zq_208))
-- M.findWays
theorem p_209_0 : zP1 209 0 = some (.iconst 0, 0, 0, 0) := zp_l zq_209 rfl
theorem p_209_1 : zP1 209 1 = some (.istore_n 2, 0, 0, 0) := zp_l zq_209 rfl
theorem p_209_2 : zP1 209 2 = some (.iload_n 2, 0, 0, 0) := zp_l zq_209 rfl
theorem p_209_3 : zP1 209 3 = some (.bipush 100, 0, 0, 0) := zp_l zq_209 rfl
theorem p_209_5 : zP1 209 5 = some (.if_icmp .ge 18, 0, 0, 0) := zp_l zq_209 rfl
theorem p_209_8 : zP1 209 8 = some (.aload_n 0, 0, 0, 0) := zp_l zq_209 rfl
theorem p_209_9 : zP1 209 9 = some (.getfield 29, 11, 9, 0) := zp_r zq_209 rfl
theorem p_209_12 : zP1 209 12 = some (.iload_n 2, 0, 0, 0) := zp_l zq_209 rfl
theorem p_209_13 : zP1 209 13 = some (.sipush 1000, 0, 0, 0) := zp_l zq_209 rfl
theorem p_209_16 : zP1 209 16 = some (.iastore, 0, 0, 0) := zp_l zq_209 rfl
theorem p_209_17 : zP1 209 17 = some (.iinc 2 1, 0, 0, 0) := zp_l zq_209 rfl
theorem p_209_20 : zP1 209 20 = some (.goto (-18), 0, 0, 0) := zp_l zq_209 rfl
theorem p_209_23 : zP1 209 23 = some (.aload_n 0, 0, 0, 0) := zp_l zq_209 rfl
theorem p_209_24 : zP1 209 24 = some (.iload_n 1, 0, 0, 0) := zp_l zq_209 rfl
theorem p_209_25 : zP1 209 25 = some (.invokevirtual 114, 203, 1, 11) := zp_r zq_209 rfl
theorem p_209_28 : zP1 209 28 = some (.ifCond .eq 4, 0, 0, 0) := zp_l zq_209 rfl
theorem p_209_31 : zP1 209 31 = some (.return_, 0, 0, 0) := zp_l zq_209 rfl
theorem p_209_32 : zP1 209 32 = some (.aload_n 0, 0, 0, 0) := zp_l zq_209 rfl
theorem p_209_33 : zP1 209 33 = some (.getfield 29, 11, 9, 0) := zp_r zq_209 rfl
theorem p_209_36 : zP1 209 36 = some (.iload_n 1, 0, 0, 0) := zp_l zq_209 rfl
theorem p_209_37 : zP1 209 37 = some (.iconst 0, 0, 0, 0) := zp_l zq_209 rfl
theorem p_209_38 : zP1 209 38 = some (.iastore, 0, 0, 0) := zp_l zq_209 rfl
theorem p_209_39 : zP1 209 39 = some (.aload_n 0, 0, 0, 0) := zp_l zq_209 rfl
theorem p_209_40 : zP1 209 40 = some (.getfield 32, 11, 10, 0) := zp_r zq_209 rfl
theorem p_209_43 : zP1 209 43 = some (.iconst 0, 0, 0, 0) := zp_l zq_209 rfl
theorem p_209_44 : zP1 209 44 = some (.iload_n 1, 0, 0, 0) := zp_l zq_209 rfl
theorem p_209_45 : zP1 209 45 = some (.iastore, 0, 0, 0) := zp_l zq_209 rfl
theorem p_209_46 : zP1 209 46 = some (.iconst 1, 0, 0, 0) := zp_l zq_209 rfl
theorem p_209_47 : zP1 209 47 = some (.istore_n 2, 0, 0, 0) := zp_l zq_209 rfl
theorem p_209_48 : zP1 209 48 = some (.iconst 0, 0, 0, 0) := zp_l zq_209 rfl
theorem p_209_49 : zP1 209 49 = some (.istore_n 3, 0, 0, 0) := zp_l zq_209 rfl
theorem p_209_50 : zP1 209 50 = some (.iload_n 3, 0, 0, 0) := zp_l zq_209 rfl
theorem p_209_51 : zP1 209 51 = some (.iload_n 2, 0, 0, 0) := zp_l zq_209 rfl
theorem p_209_52 : zP1 209 52 = some (.if_icmp .ge 87, 0, 0, 0) := zp_l zq_209 rfl
theorem p_209_55 : zP1 209 55 = some (.iconst 0, 0, 0, 0) := zp_l zq_209 rfl
theorem p_209_56 : zP1 209 56 = some (.istore 4, 0, 0, 0) := zp_l zq_209 rfl
theorem p_209_58 : zP1 209 58 = some (.iload 4, 0, 0, 0) := zp_l zq_209 rfl
theorem p_209_60 : zP1 209 60 = some (.iconst 4, 0, 0, 0) := zp_l zq_209 rfl
theorem p_209_61 : zP1 209 61 = some (.if_icmp .ge 72, 0, 0, 0) := zp_l zq_209 rfl
theorem p_209_64 : zP1 209 64 = some (.aload_n 0, 0, 0, 0) := zp_l zq_209 rfl
theorem p_209_65 : zP1 209 65 = some (.aload_n 0, 0, 0, 0) := zp_l zq_209 rfl
theorem p_209_66 : zP1 209 66 = some (.getfield 32, 11, 10, 0) := zp_r zq_209 rfl
theorem p_209_69 : zP1 209 69 = some (.iload_n 3, 0, 0, 0) := zp_l zq_209 rfl
theorem p_209_70 : zP1 209 70 = some (.iaload, 0, 0, 0) := zp_l zq_209 rfl
theorem p_209_71 : zP1 209 71 = some (.iload 4, 0, 0, 0) := zp_l zq_209 rfl
theorem p_209_73 : zP1 209 73 = some (.invokevirtual 117, 208, 2, 11) := zp_r zq_209 rfl
theorem p_209_76 : zP1 209 76 = some (.istore 5, 0, 0, 0) := zp_l zq_209 rfl
theorem p_209_78 : zP1 209 78 = some (.iload 5, 0, 0, 0) := zp_l zq_209 rfl
theorem p_209_80 : zP1 209 80 = some (.ifCond .lt 47, 0, 0, 0) := zp_l zq_209 rfl
theorem p_209_83 : zP1 209 83 = some (.aload_n 0, 0, 0, 0) := zp_l zq_209 rfl
theorem p_209_84 : zP1 209 84 = some (.getfield 29, 11, 9, 0) := zp_r zq_209 rfl
theorem p_209_87 : zP1 209 87 = some (.iload 5, 0, 0, 0) := zp_l zq_209 rfl
theorem p_209_89 : zP1 209 89 = some (.iaload, 0, 0, 0) := zp_l zq_209 rfl
theorem p_209_90 : zP1 209 90 = some (.sipush 1000, 0, 0, 0) := zp_l zq_209 rfl
theorem p_209_93 : zP1 209 93 = some (.if_icmp .ne 34, 0, 0, 0) := zp_l zq_209 rfl
theorem p_209_96 : zP1 209 96 = some (.aload_n 0, 0, 0, 0) := zp_l zq_209 rfl
theorem p_209_97 : zP1 209 97 = some (.getfield 29, 11, 9, 0) := zp_r zq_209 rfl
theorem p_209_100 : zP1 209 100 = some (.iload 5, 0, 0, 0) := zp_l zq_209 rfl
theorem p_209_102 : zP1 209 102 = some (.aload_n 0, 0, 0, 0) := zp_l zq_209 rfl
theorem p_209_103 : zP1 209 103 = some (.getfield 29, 11, 9, 0) := zp_r zq_209 rfl
theorem p_209_106 : zP1 209 106 = some (.aload_n 0, 0, 0, 0) := zp_l zq_209 rfl
theorem p_209_107 : zP1 209 107 = some (.getfield 32, 11, 10, 0) := zp_r zq_209 rfl
theorem p_209_110 : zP1 209 110 = some (.iload_n 3, 0, 0, 0) := zp_l zq_209 rfl
theorem p_209_111 : zP1 209 111 = some (.iaload, 0, 0, 0) := zp_l zq_209 rfl
theorem p_209_112 : zP1 209 112 = some (.iaload, 0, 0, 0) := zp_l zq_209 rfl
theorem p_209_113 : zP1 209 113 = some (.iconst 1, 0, 0, 0) := zp_l zq_209 rfl
theorem p_209_114 : zP1 209 114 = some (.iadd, 0, 0, 0) := zp_l zq_209 rfl
theorem p_209_115 : zP1 209 115 = some (.iastore, 0, 0, 0) := zp_l zq_209 rfl
theorem p_209_116 : zP1 209 116 = some (.aload_n 0, 0, 0, 0) := zp_l zq_209 rfl
theorem p_209_117 : zP1 209 117 = some (.getfield 32, 11, 10, 0) := zp_r zq_209 rfl
theorem p_209_120 : zP1 209 120 = some (.iload_n 2, 0, 0, 0) := zp_l zq_209 rfl
theorem p_209_121 : zP1 209 121 = some (.iload 5, 0, 0, 0) := zp_l zq_209 rfl
theorem p_209_123 : zP1 209 123 = some (.iastore, 0, 0, 0) := zp_l zq_209 rfl
theorem p_209_124 : zP1 209 124 = some (.iinc 2 1, 0, 0, 0) := zp_l zq_209 rfl
theorem p_209_127 : zP1 209 127 = some (.iinc 4 1, 0, 0, 0) := zp_l zq_209 rfl
theorem p_209_130 : zP1 209 130 = some (.goto (-72), 0, 0, 0) := zp_l zq_209 rfl
theorem p_209_133 : zP1 209 133 = some (.iinc 3 1, 0, 0, 0) := zp_l zq_209 rfl
theorem p_209_136 : zP1 209 136 = some (.goto (-86), 0, 0, 0) := zp_l zq_209 rfl
theorem p_209_139 : zP1 209 139 = some (.return_, 0, 0, 0) := zp_l zq_209 rfl
theorem b_209_0 {x1 : Int} : Z e (d + 3) 209 0 [.ref 246, .int (iI x1), .retAddr 0, .retAddr 0, .retAddr 0, .retAddr 0] [] m = Z e (d + 3) 209 2 [.ref 246, .int (iI x1), .int (iI 0), .retAddr 0, .retAddr 0, .retAddr 0] [] m := (s_const p_209_0).trans <| (s_is_2 cat_i p_209_1).trans <| rfl
theorem b_209_2 {x1 : Int} {x2 : Int} {u3 u4 u5 : Value} : Z e (d + 3) 209 2 [.ref 246, .int (iI x1), .int (iI x2), u3, u4, u5] [] m = (if (wr x2) < 100 then ck (0 ≤ (wr x2) ∧ (wr x2) < 100) (Z e (d + 3) 209 2 [.ref 246, .int (iI x1), .int (iI (x2 + 1)), u3, u4, u5] [] (um m 252 (wr x2) 1000)) else Z e (d + 3) 209 23 [.ref 246, .int (iI x1), .int (iI x2), u3, u4, u5] [] m) := (s_il_2 p_209_2).trans <| (s_bip p_209_3 rfl).trans <| Eq.trans ((s_c_ge_f p_209_5 rfl rfl wl_100)) <| ite_cg ((s_al_0 p_209_8).trans <| (s_getr p_209_9 hs_246 (by decide) rfl).trans <| (s_il_2 p_209_12).trans <| (s_sip p_209_13 rfl).trans <| (s_ast 100 p_209_16 hs_252 rfl).trans <| ck_cg fun k1 => (s_inc_2 cat_i p_209_17).trans <| (s_goto p_209_20 rfl).trans <| rfl) (rfl)
theorem b_209_23 {x1 : Int} {u2 u3 u4 u5 : Value} : Z e (d + 3) 209 23 [.ref 246, .int (iI x1), u2, u3, u4, u5] [] m = ck (0 ≤ (wr (10 + x1)) ∧ (wr (10 + x1)) < 2737) ((if (wr (m 247 (wr (10 + x1)))) = 1 then rn m else ck (0 ≤ (wr x1) ∧ (wr x1) < 100) (Z e (d + 3) 209 50 [.ref 246, .int (iI x1), .int (iI 1), .int (iI 0), u4, u5] [] (um (um m 252 (wr x1) 0) 253 0 x1)))) := (s_al_0 p_209_23).trans <| (s_il_1 p_209_24).trans <| (s_cv1 (Lc := [.ref 246, .int (iI x1)]) p_209_25 (by decide) (by decide) (zM_of zq_203) ⟨Nat.le_of_ble_eq_true rfl, Nat.le_of_ble_eq_true rfl⟩ rfl (m_rc hs_246 ⟨rfl, by decide⟩)).trans <| (bd b_203_0).trans <| ck_bind.trans <| ck_cg fun _ => ri_k.trans <| Eq.trans ((s_beq_f p_209_28 rfl)) <| ite_cg ((s_retv p_209_31 (zM_of zq_209))) ((s_al_0 p_209_32).trans <| (s_getr p_209_33 hs_246 (by decide) rfl).trans <| (s_il_1 p_209_36).trans <| (s_const p_209_37).trans <| (s_ast 100 p_209_38 hs_252 rfl).trans <| ck_cg fun k1 => (s_al_0 p_209_39).trans <| (s_getr p_209_40 hs_246 (by decide) rfl).trans <| (s_const p_209_43).trans <| (s_il_1 p_209_44).trans <| (s_astc p_209_45 hs_253 wl_0 (by decide)).trans <| (s_const p_209_46).trans <| (s_is_2 cat_i p_209_47).trans <| (s_const p_209_48).trans <| (s_is_3 cat_i p_209_49).trans <| rfl)
theorem b_209_50 {x2 : Int} {x3 : Int} {u1 u4 u5 : Value} : Z e (d + 3) 209 50 [.ref 246, u1, .int (iI x2), .int (iI x3), u4, u5] [] m = (if (wr x3) < (wr x2) then Z e (d + 3) 209 58 [.ref 246, u1, .int (iI x2), .int (iI x3), .int (iI 0), u5] [] m else rn m) := (s_il_3 p_209_50).trans <| (s_il_2 p_209_51).trans <| Eq.trans ((s_c_ge_f p_209_52 rfl rfl rfl)) <| ite_cg ((s_const p_209_55).trans <| (s_is_4 cat_i p_209_56).trans <| rfl) ((s_retv p_209_139 (zM_of zq_209)))
theorem b_209_58 {x2 : Int} {x3 : Int} {x4 : Int} {u1 u5 : Value} (hu1 : u1.category = 1) : Z e (d + 3) 209 58 [.ref 246, u1, .int (iI x2), .int (iI x3), .int (iI x4), u5] [] m = (if (wr x4) < 4 then ck (0 ≤ (wr x3) ∧ (wr x3) < 100) (ck ((¬ (¬ (((wr 0) ≤ (wr (if (wr x4) = 0 then ((m 253 (wr x3)) - 10) else (if (wr x4) = 1 then (if (wr (jrem (m 253 (wr x3)) 10)) = 0 then (-1) else ((m 253 (wr x3)) - 1)) else (if (wr x4) = 2 then (if (wr (jrem (m 253 (wr x3)) 10)) = 9 then (-1) else ((m 253 (wr x3)) + 1)) else ((m 253 (wr x3)) + 10)))))) ∧ ((wr (if (wr x4) = 0 then ((m 253 (wr x3)) - 10) else (if (wr x4) = 1 then (if (wr (jrem (m 253 (wr x3)) 10)) = 0 then (-1) else ((m 253 (wr x3)) - 1)) else (if (wr x4) = 2 then (if (wr (jrem (m 253 (wr x3)) 10)) = 9 then (-1) else ((m 253 (wr x3)) + 1)) else ((m 253 (wr x3)) + 10))))) ≤ (wr 99))))) → (0 ≤ (wr (10 + (if (wr x4) = 0 then ((m 253 (wr x3)) - 10) else (if (wr x4) = 1 then (if (wr (jrem (m 253 (wr x3)) 10)) = 0 then (-1) else ((m 253 (wr x3)) - 1)) else (if (wr x4) = 2 then (if (wr (jrem (m 253 (wr x3)) 10)) = 9 then (-1) else ((m 253 (wr x3)) + 1)) else ((m 253 (wr x3)) + 10)))))) ∧ (wr (10 + (if (wr x4) = 0 then ((m 253 (wr x3)) - 10) else (if (wr x4) = 1 then (if (wr (jrem (m 253 (wr x3)) 10)) = 0 then (-1) else ((m 253 (wr x3)) - 1)) else (if (wr x4) = 2 then (if (wr (jrem (m 253 (wr x3)) 10)) = 9 then (-1) else ((m 253 (wr x3)) + 1)) else ((m 253 (wr x3)) + 10)))))) < 2737)) (ck ((0 ≤ (wr (if (¬ (((wr 0) ≤ (wr (if (wr x4) = 0 then ((m 253 (wr x3)) - 10) else (if (wr x4) = 1 then (if (wr (jrem (m 253 (wr x3)) 10)) = 0 then (-1) else ((m 253 (wr x3)) - 1)) else (if (wr x4) = 2 then (if (wr (jrem (m 253 (wr x3)) 10)) = 9 then (-1) else ((m 253 (wr x3)) + 1)) else ((m 253 (wr x3)) + 10)))))) ∧ ((wr (if (wr x4) = 0 then ((m 253 (wr x3)) - 10) else (if (wr x4) = 1 then (if (wr (jrem (m 253 (wr x3)) 10)) = 0 then (-1) else ((m 253 (wr x3)) - 1)) else (if (wr x4) = 2 then (if (wr (jrem (m 253 (wr x3)) 10)) = 9 then (-1) else ((m 253 (wr x3)) + 1)) else ((m 253 (wr x3)) + 10))))) ≤ (wr 99)))) ∨ ((wr (m 247 (wr (10 + (if (wr x4) = 0 then ((m 253 (wr x3)) - 10) else (if (wr x4) = 1 then (if (wr (jrem (m 253 (wr x3)) 10)) = 0 then (-1) else ((m 253 (wr x3)) - 1)) else (if (wr x4) = 2 then (if (wr (jrem (m 253 (wr x3)) 10)) = 9 then (-1) else ((m 253 (wr x3)) + 1)) else ((m 253 (wr x3)) + 10)))))))) = 1) then (-1) else (if (wr x4) = 0 then ((m 253 (wr x3)) - 10) else (if (wr x4) = 1 then (if (wr (jrem (m 253 (wr x3)) 10)) = 0 then (-1) else ((m 253 (wr x3)) - 1)) else (if (wr x4) = 2 then (if (wr (jrem (m 253 (wr x3)) 10)) = 9 then (-1) else ((m 253 (wr x3)) + 1)) else ((m 253 (wr x3)) + 10))))))) → (0 ≤ (wr (if (¬ (((wr 0) ≤ (wr (if (wr x4) = 0 then ((m 253 (wr x3)) - 10) else (if (wr x4) = 1 then (if (wr (jrem (m 253 (wr x3)) 10)) = 0 then (-1) else ((m 253 (wr x3)) - 1)) else (if (wr x4) = 2 then (if (wr (jrem (m 253 (wr x3)) 10)) = 9 then (-1) else ((m 253 (wr x3)) + 1)) else ((m 253 (wr x3)) + 10)))))) ∧ ((wr (if (wr x4) = 0 then ((m 253 (wr x3)) - 10) else (if (wr x4) = 1 then (if (wr (jrem (m 253 (wr x3)) 10)) = 0 then (-1) else ((m 253 (wr x3)) - 1)) else (if (wr x4) = 2 then (if (wr (jrem (m 253 (wr x3)) 10)) = 9 then (-1) else ((m 253 (wr x3)) + 1)) else ((m 253 (wr x3)) + 10))))) ≤ (wr 99)))) ∨ ((wr (m 247 (wr (10 + (if (wr x4) = 0 then ((m 253 (wr x3)) - 10) else (if (wr x4) = 1 then (if (wr (jrem (m 253 (wr x3)) 10)) = 0 then (-1) else ((m 253 (wr x3)) - 1)) else (if (wr x4) = 2 then (if (wr (jrem (m 253 (wr x3)) 10)) = 9 then (-1) else ((m 253 (wr x3)) + 1)) else ((m 253 (wr x3)) + 10)))))))) = 1) then (-1) else (if (wr x4) = 0 then ((m 253 (wr x3)) - 10) else (if (wr x4) = 1 then (if (wr (jrem (m 253 (wr x3)) 10)) = 0 then (-1) else ((m 253 (wr x3)) - 1)) else (if (wr x4) = 2 then (if (wr (jrem (m 253 (wr x3)) 10)) = 9 then (-1) else ((m 253 (wr x3)) + 1)) else ((m 253 (wr x3)) + 10)))))) ∧ (wr (if (¬ (((wr 0) ≤ (wr (if (wr x4) = 0 then ((m 253 (wr x3)) - 10) else (if (wr x4) = 1 then (if (wr (jrem (m 253 (wr x3)) 10)) = 0 then (-1) else ((m 253 (wr x3)) - 1)) else (if (wr x4) = 2 then (if (wr (jrem (m 253 (wr x3)) 10)) = 9 then (-1) else ((m 253 (wr x3)) + 1)) else ((m 253 (wr x3)) + 10)))))) ∧ ((wr (if (wr x4) = 0 then ((m 253 (wr x3)) - 10) else (if (wr x4) = 1 then (if (wr (jrem (m 253 (wr x3)) 10)) = 0 then (-1) else ((m 253 (wr x3)) - 1)) else (if (wr x4) = 2 then (if (wr (jrem (m 253 (wr x3)) 10)) = 9 then (-1) else ((m 253 (wr x3)) + 1)) else ((m 253 (wr x3)) + 10))))) ≤ (wr 99)))) ∨ ((wr (m 247 (wr (10 + (if (wr x4) = 0 then ((m 253 (wr x3)) - 10) else (if (wr x4) = 1 then (if (wr (jrem (m 253 (wr x3)) 10)) = 0 then (-1) else ((m 253 (wr x3)) - 1)) else (if (wr x4) = 2 then (if (wr (jrem (m 253 (wr x3)) 10)) = 9 then (-1) else ((m 253 (wr x3)) + 1)) else ((m 253 (wr x3)) + 10)))))))) = 1) then (-1) else (if (wr x4) = 0 then ((m 253 (wr x3)) - 10) else (if (wr x4) = 1 then (if (wr (jrem (m 253 (wr x3)) 10)) = 0 then (-1) else ((m 253 (wr x3)) - 1)) else (if (wr x4) = 2 then (if (wr (jrem (m 253 (wr x3)) 10)) = 9 then (-1) else ((m 253 (wr x3)) + 1)) else ((m 253 (wr x3)) + 10)))))) < 100)) (if (0 ≤ (wr (if (¬ (((wr 0) ≤ (wr (if (wr x4) = 0 then ((m 253 (wr x3)) - 10) else (if (wr x4) = 1 then (if (wr (jrem (m 253 (wr x3)) 10)) = 0 then (-1) else ((m 253 (wr x3)) - 1)) else (if (wr x4) = 2 then (if (wr (jrem (m 253 (wr x3)) 10)) = 9 then (-1) else ((m 253 (wr x3)) + 1)) else ((m 253 (wr x3)) + 10)))))) ∧ ((wr (if (wr x4) = 0 then ((m 253 (wr x3)) - 10) else (if (wr x4) = 1 then (if (wr (jrem (m 253 (wr x3)) 10)) = 0 then (-1) else ((m 253 (wr x3)) - 1)) else (if (wr x4) = 2 then (if (wr (jrem (m 253 (wr x3)) 10)) = 9 then (-1) else ((m 253 (wr x3)) + 1)) else ((m 253 (wr x3)) + 10))))) ≤ (wr 99)))) ∨ ((wr (m 247 (wr (10 + (if (wr x4) = 0 then ((m 253 (wr x3)) - 10) else (if (wr x4) = 1 then (if (wr (jrem (m 253 (wr x3)) 10)) = 0 then (-1) else ((m 253 (wr x3)) - 1)) else (if (wr x4) = 2 then (if (wr (jrem (m 253 (wr x3)) 10)) = 9 then (-1) else ((m 253 (wr x3)) + 1)) else ((m 253 (wr x3)) + 10)))))))) = 1) then (-1) else (if (wr x4) = 0 then ((m 253 (wr x3)) - 10) else (if (wr x4) = 1 then (if (wr (jrem (m 253 (wr x3)) 10)) = 0 then (-1) else ((m 253 (wr x3)) - 1)) else (if (wr x4) = 2 then (if (wr (jrem (m 253 (wr x3)) 10)) = 9 then (-1) else ((m 253 (wr x3)) + 1)) else ((m 253 (wr x3)) + 10))))))) ∧ ((wr (m 252 (wr (if (¬ (((wr 0) ≤ (wr (if (wr x4) = 0 then ((m 253 (wr x3)) - 10) else (if (wr x4) = 1 then (if (wr (jrem (m 253 (wr x3)) 10)) = 0 then (-1) else ((m 253 (wr x3)) - 1)) else (if (wr x4) = 2 then (if (wr (jrem (m 253 (wr x3)) 10)) = 9 then (-1) else ((m 253 (wr x3)) + 1)) else ((m 253 (wr x3)) + 10)))))) ∧ ((wr (if (wr x4) = 0 then ((m 253 (wr x3)) - 10) else (if (wr x4) = 1 then (if (wr (jrem (m 253 (wr x3)) 10)) = 0 then (-1) else ((m 253 (wr x3)) - 1)) else (if (wr x4) = 2 then (if (wr (jrem (m 253 (wr x3)) 10)) = 9 then (-1) else ((m 253 (wr x3)) + 1)) else ((m 253 (wr x3)) + 10))))) ≤ (wr 99)))) ∨ ((wr (m 247 (wr (10 + (if (wr x4) = 0 then ((m 253 (wr x3)) - 10) else (if (wr x4) = 1 then (if (wr (jrem (m 253 (wr x3)) 10)) = 0 then (-1) else ((m 253 (wr x3)) - 1)) else (if (wr x4) = 2 then (if (wr (jrem (m 253 (wr x3)) 10)) = 9 then (-1) else ((m 253 (wr x3)) + 1)) else ((m 253 (wr x3)) + 10)))))))) = 1) then (-1) else (if (wr x4) = 0 then ((m 253 (wr x3)) - 10) else (if (wr x4) = 1 then (if (wr (jrem (m 253 (wr x3)) 10)) = 0 then (-1) else ((m 253 (wr x3)) - 1)) else (if (wr x4) = 2 then (if (wr (jrem (m 253 (wr x3)) 10)) = 9 then (-1) else ((m 253 (wr x3)) + 1)) else ((m 253 (wr x3)) + 10)))))))) = 1000) then ck (0 ≤ (wr x3) ∧ (wr x3) < 100) (ck (0 ≤ (wr (m 253 (wr x3))) ∧ (wr (m 253 (wr x3))) < 100) (ck (0 ≤ (wr (if (¬ (((wr 0) ≤ (wr (if (wr x4) = 0 then ((m 253 (wr x3)) - 10) else (if (wr x4) = 1 then (if (wr (jrem (m 253 (wr x3)) 10)) = 0 then (-1) else ((m 253 (wr x3)) - 1)) else (if (wr x4) = 2 then (if (wr (jrem (m 253 (wr x3)) 10)) = 9 then (-1) else ((m 253 (wr x3)) + 1)) else ((m 253 (wr x3)) + 10)))))) ∧ ((wr (if (wr x4) = 0 then ((m 253 (wr x3)) - 10) else (if (wr x4) = 1 then (if (wr (jrem (m 253 (wr x3)) 10)) = 0 then (-1) else ((m 253 (wr x3)) - 1)) else (if (wr x4) = 2 then (if (wr (jrem (m 253 (wr x3)) 10)) = 9 then (-1) else ((m 253 (wr x3)) + 1)) else ((m 253 (wr x3)) + 10))))) ≤ (wr 99)))) ∨ ((wr (m 247 (wr (10 + (if (wr x4) = 0 then ((m 253 (wr x3)) - 10) else (if (wr x4) = 1 then (if (wr (jrem (m 253 (wr x3)) 10)) = 0 then (-1) else ((m 253 (wr x3)) - 1)) else (if (wr x4) = 2 then (if (wr (jrem (m 253 (wr x3)) 10)) = 9 then (-1) else ((m 253 (wr x3)) + 1)) else ((m 253 (wr x3)) + 10)))))))) = 1) then (-1) else (if (wr x4) = 0 then ((m 253 (wr x3)) - 10) else (if (wr x4) = 1 then (if (wr (jrem (m 253 (wr x3)) 10)) = 0 then (-1) else ((m 253 (wr x3)) - 1)) else (if (wr x4) = 2 then (if (wr (jrem (m 253 (wr x3)) 10)) = 9 then (-1) else ((m 253 (wr x3)) + 1)) else ((m 253 (wr x3)) + 10)))))) ∧ (wr (if (¬ (((wr 0) ≤ (wr (if (wr x4) = 0 then ((m 253 (wr x3)) - 10) else (if (wr x4) = 1 then (if (wr (jrem (m 253 (wr x3)) 10)) = 0 then (-1) else ((m 253 (wr x3)) - 1)) else (if (wr x4) = 2 then (if (wr (jrem (m 253 (wr x3)) 10)) = 9 then (-1) else ((m 253 (wr x3)) + 1)) else ((m 253 (wr x3)) + 10)))))) ∧ ((wr (if (wr x4) = 0 then ((m 253 (wr x3)) - 10) else (if (wr x4) = 1 then (if (wr (jrem (m 253 (wr x3)) 10)) = 0 then (-1) else ((m 253 (wr x3)) - 1)) else (if (wr x4) = 2 then (if (wr (jrem (m 253 (wr x3)) 10)) = 9 then (-1) else ((m 253 (wr x3)) + 1)) else ((m 253 (wr x3)) + 10))))) ≤ (wr 99)))) ∨ ((wr (m 247 (wr (10 + (if (wr x4) = 0 then ((m 253 (wr x3)) - 10) else (if (wr x4) = 1 then (if (wr (jrem (m 253 (wr x3)) 10)) = 0 then (-1) else ((m 253 (wr x3)) - 1)) else (if (wr x4) = 2 then (if (wr (jrem (m 253 (wr x3)) 10)) = 9 then (-1) else ((m 253 (wr x3)) + 1)) else ((m 253 (wr x3)) + 10)))))))) = 1) then (-1) else (if (wr x4) = 0 then ((m 253 (wr x3)) - 10) else (if (wr x4) = 1 then (if (wr (jrem (m 253 (wr x3)) 10)) = 0 then (-1) else ((m 253 (wr x3)) - 1)) else (if (wr x4) = 2 then (if (wr (jrem (m 253 (wr x3)) 10)) = 9 then (-1) else ((m 253 (wr x3)) + 1)) else ((m 253 (wr x3)) + 10)))))) < 100) (ck (0 ≤ (wr x2) ∧ (wr x2) < 100) (Z e (d + 3) 209 58 [.ref 246, u1, .int (iI (x2 + 1)), .int (iI x3), .int (iI (x4 + 1)), .int (iI (if (¬ (((wr 0) ≤ (wr (if (wr x4) = 0 then ((m 253 (wr x3)) - 10) else (if (wr x4) = 1 then (if (wr (jrem (m 253 (wr x3)) 10)) = 0 then (-1) else ((m 253 (wr x3)) - 1)) else (if (wr x4) = 2 then (if (wr (jrem (m 253 (wr x3)) 10)) = 9 then (-1) else ((m 253 (wr x3)) + 1)) else ((m 253 (wr x3)) + 10)))))) ∧ ((wr (if (wr x4) = 0 then ((m 253 (wr x3)) - 10) else (if (wr x4) = 1 then (if (wr (jrem (m 253 (wr x3)) 10)) = 0 then (-1) else ((m 253 (wr x3)) - 1)) else (if (wr x4) = 2 then (if (wr (jrem (m 253 (wr x3)) 10)) = 9 then (-1) else ((m 253 (wr x3)) + 1)) else ((m 253 (wr x3)) + 10))))) ≤ (wr 99)))) ∨ ((wr (m 247 (wr (10 + (if (wr x4) = 0 then ((m 253 (wr x3)) - 10) else (if (wr x4) = 1 then (if (wr (jrem (m 253 (wr x3)) 10)) = 0 then (-1) else ((m 253 (wr x3)) - 1)) else (if (wr x4) = 2 then (if (wr (jrem (m 253 (wr x3)) 10)) = 9 then (-1) else ((m 253 (wr x3)) + 1)) else ((m 253 (wr x3)) + 10)))))))) = 1) then (-1) else (if (wr x4) = 0 then ((m 253 (wr x3)) - 10) else (if (wr x4) = 1 then (if (wr (jrem (m 253 (wr x3)) 10)) = 0 then (-1) else ((m 253 (wr x3)) - 1)) else (if (wr x4) = 2 then (if (wr (jrem (m 253 (wr x3)) 10)) = 9 then (-1) else ((m 253 (wr x3)) + 1)) else ((m 253 (wr x3)) + 10))))))] [] (um (um m 252 (wr (if (¬ (((wr 0) ≤ (wr (if (wr x4) = 0 then ((m 253 (wr x3)) - 10) else (if (wr x4) = 1 then (if (wr (jrem (m 253 (wr x3)) 10)) = 0 then (-1) else ((m 253 (wr x3)) - 1)) else (if (wr x4) = 2 then (if (wr (jrem (m 253 (wr x3)) 10)) = 9 then (-1) else ((m 253 (wr x3)) + 1)) else ((m 253 (wr x3)) + 10)))))) ∧ ((wr (if (wr x4) = 0 then ((m 253 (wr x3)) - 10) else (if (wr x4) = 1 then (if (wr (jrem (m 253 (wr x3)) 10)) = 0 then (-1) else ((m 253 (wr x3)) - 1)) else (if (wr x4) = 2 then (if (wr (jrem (m 253 (wr x3)) 10)) = 9 then (-1) else ((m 253 (wr x3)) + 1)) else ((m 253 (wr x3)) + 10))))) ≤ (wr 99)))) ∨ ((wr (m 247 (wr (10 + (if (wr x4) = 0 then ((m 253 (wr x3)) - 10) else (if (wr x4) = 1 then (if (wr (jrem (m 253 (wr x3)) 10)) = 0 then (-1) else ((m 253 (wr x3)) - 1)) else (if (wr x4) = 2 then (if (wr (jrem (m 253 (wr x3)) 10)) = 9 then (-1) else ((m 253 (wr x3)) + 1)) else ((m 253 (wr x3)) + 10)))))))) = 1) then (-1) else (if (wr x4) = 0 then ((m 253 (wr x3)) - 10) else (if (wr x4) = 1 then (if (wr (jrem (m 253 (wr x3)) 10)) = 0 then (-1) else ((m 253 (wr x3)) - 1)) else (if (wr x4) = 2 then (if (wr (jrem (m 253 (wr x3)) 10)) = 9 then (-1) else ((m 253 (wr x3)) + 1)) else ((m 253 (wr x3)) + 10)))))) ((m 252 (wr (m 253 (wr x3)))) + 1)) 253 (wr x2) (if (¬ (((wr 0) ≤ (wr (if (wr x4) = 0 then ((m 253 (wr x3)) - 10) else (if (wr x4) = 1 then (if (wr (jrem (m 253 (wr x3)) 10)) = 0 then (-1) else ((m 253 (wr x3)) - 1)) else (if (wr x4) = 2 then (if (wr (jrem (m 253 (wr x3)) 10)) = 9 then (-1) else ((m 253 (wr x3)) + 1)) else ((m 253 (wr x3)) + 10)))))) ∧ ((wr (if (wr x4) = 0 then ((m 253 (wr x3)) - 10) else (if (wr x4) = 1 then (if (wr (jrem (m 253 (wr x3)) 10)) = 0 then (-1) else ((m 253 (wr x3)) - 1)) else (if (wr x4) = 2 then (if (wr (jrem (m 253 (wr x3)) 10)) = 9 then (-1) else ((m 253 (wr x3)) + 1)) else ((m 253 (wr x3)) + 10))))) ≤ (wr 99)))) ∨ ((wr (m 247 (wr (10 + (if (wr x4) = 0 then ((m 253 (wr x3)) - 10) else (if (wr x4) = 1 then (if (wr (jrem (m 253 (wr x3)) 10)) = 0 then (-1) else ((m 253 (wr x3)) - 1)) else (if (wr x4) = 2 then (if (wr (jrem (m 253 (wr x3)) 10)) = 9 then (-1) else ((m 253 (wr x3)) + 1)) else ((m 253 (wr x3)) + 10)))))))) = 1) then (-1) else (if (wr x4) = 0 then ((m 253 (wr x3)) - 10) else (if (wr x4) = 1 then (if (wr (jrem (m 253 (wr x3)) 10)) = 0 then (-1) else ((m 253 (wr x3)) - 1)) else (if (wr x4) = 2 then (if (wr (jrem (m 253 (wr x3)) 10)) = 9 then (-1) else ((m 253 (wr x3)) + 1)) else ((m 253 (wr x3)) + 10)))))))))) else Z e (d + 3) 209 58 [.ref 246, u1, .int (iI x2), .int (iI x3), .int (iI (x4 + 1)), .int (iI (if (¬ (((wr 0) ≤ (wr (if (wr x4) = 0 then ((m 253 (wr x3)) - 10) else (if (wr x4) = 1 then (if (wr (jrem (m 253 (wr x3)) 10)) = 0 then (-1) else ((m 253 (wr x3)) - 1)) else (if (wr x4) = 2 then (if (wr (jrem (m 253 (wr x3)) 10)) = 9 then (-1) else ((m 253 (wr x3)) + 1)) else ((m 253 (wr x3)) + 10)))))) ∧ ((wr (if (wr x4) = 0 then ((m 253 (wr x3)) - 10) else (if (wr x4) = 1 then (if (wr (jrem (m 253 (wr x3)) 10)) = 0 then (-1) else ((m 253 (wr x3)) - 1)) else (if (wr x4) = 2 then (if (wr (jrem (m 253 (wr x3)) 10)) = 9 then (-1) else ((m 253 (wr x3)) + 1)) else ((m 253 (wr x3)) + 10))))) ≤ (wr 99)))) ∨ ((wr (m 247 (wr (10 + (if (wr x4) = 0 then ((m 253 (wr x3)) - 10) else (if (wr x4) = 1 then (if (wr (jrem (m 253 (wr x3)) 10)) = 0 then (-1) else ((m 253 (wr x3)) - 1)) else (if (wr x4) = 2 then (if (wr (jrem (m 253 (wr x3)) 10)) = 9 then (-1) else ((m 253 (wr x3)) + 1)) else ((m 253 (wr x3)) + 10)))))))) = 1) then (-1) else (if (wr x4) = 0 then ((m 253 (wr x3)) - 10) else (if (wr x4) = 1 then (if (wr (jrem (m 253 (wr x3)) 10)) = 0 then (-1) else ((m 253 (wr x3)) - 1)) else (if (wr x4) = 2 then (if (wr (jrem (m 253 (wr x3)) 10)) = 9 then (-1) else ((m 253 (wr x3)) + 1)) else ((m 253 (wr x3)) + 10))))))] [] m))) else Z e (d + 3) 209 50 [.ref 246, u1, .int (iI x2), .int (iI (x3 + 1)), .int (iI x4), u5] [] m) := (s_il_4 p_209_58).trans <| (s_const p_209_60).trans <| Eq.trans ((s_c_ge_f p_209_61 rfl rfl wl_4)) <| ite_cg ((s_al_0 p_209_64).trans <| (s_al_0 p_209_65).trans <| (s_getr p_209_66 hs_246 (by decide) rfl).trans <| (s_il_3 p_209_69).trans <| (s_ald 100 p_209_70 hs_253 rfl (by decide)).trans <| ck_cg fun k5 => (s_il_4 p_209_71).trans <| (s_cv2 (Lc := [.ref 246, .int (iI (m 253 (wr x3))), .int (iI x4), .retAddr 0]) p_209_73 (by decide) (by decide) (zM_of zq_208) ⟨Nat.le_of_ble_eq_true rfl, Nat.le_of_ble_eq_true rfl⟩ rfl (m_rc hs_246 ⟨rfl, by decide⟩)).trans <| (bd b_208_0).trans <| ck_bind.trans <| ck_cg fun _ => ri_k.trans <| (s_is_5 cat_i p_209_76).trans <| (s_il_5 p_209_78).trans <| Eq.trans (Eq.trans (s_z_lt_f p_209_80 rfl rfl) <| Eq.trans (ite_cg ((s_al_0 p_209_83).trans <| (s_getr p_209_84 hs_246 (by decide) rfl).trans <| (s_il_5 p_209_87).trans <| (s_ald 100 p_209_89 hs_252 rfl (by decide)).trans <| ck_cg fun k9 => (s_sip p_209_90 rfl).trans <| (s_c_ne_f p_209_93 rfl rfl wl_1000)) rfl) <| Eq.trans ck_a <| ck_cg fun _ => co_and) <| ck_cg fun _ => ite_cg ((s_al_0 p_209_96).trans <| (s_getr p_209_97 hs_246 (by decide) rfl).trans <| (s_il_5 p_209_100).trans <| (s_al_0 p_209_102).trans <| (s_getr p_209_103 hs_246 (by decide) rfl).trans <| (s_al_0 p_209_106).trans <| (s_getr p_209_107 hs_246 (by decide) rfl).trans <| (s_il_3 p_209_110).trans <| (s_ald 100 p_209_111 hs_253 rfl (by decide)).trans <| ck_cg fun k10 => (s_ald 100 p_209_112 hs_252 rfl (by decide)).trans <| ck_cg fun k11 => (s_const p_209_113).trans <| (s_iadd p_209_114).trans <| (s_ast 100 p_209_115 hs_252 rfl).trans <| ck_cg fun k12 => (s_al_0 p_209_116).trans <| (s_getr p_209_117 hs_246 (by decide) rfl).trans <| (s_il_2 p_209_120).trans <| (s_il_5 p_209_121).trans <| (s_ast 100 p_209_123 hs_253 rfl).trans <| ck_cg fun k13 => (s_inc_2 hu1 p_209_124).trans <| (s_inc_4 cat_i p_209_127).trans <| (s_goto p_209_130 rfl).trans <| rfl) ((s_inc_4 cat_i p_209_127).trans <| (s_goto p_209_130 rfl).trans <| rfl)) ((s_inc_3 cat_i p_209_133).trans <| (s_goto p_209_136 rfl).trans <| rfl)
-- M.isTaken
theorem p_211_0 : zP1 211 0 = some (.iconst 0, 0, 0, 0) := zp_l zq_211 rfl
theorem p_211_1 : zP1 211 1 = some (.istore_n 2, 0, 0, 0) := zp_l zq_211 rfl
theorem p_211_2 : zP1 211 2 = some (.iconst 0, 0, 0, 0) := zp_l zq_211 rfl
theorem p_211_3 : zP1 211 3 = some (.istore_n 3, 0, 0, 0) := zp_l zq_211 rfl
theorem p_211_4 : zP1 211 4 = some (.iload_n 3, 0, 0, 0) := zp_l zq_211 rfl
theorem p_211_5 : zP1 211 5 = some (.aload_n 0, 0, 0, 0) := zp_l zq_211 rfl
theorem p_211_6 : zP1 211 6 = some (.getfield 9, 11, 0, 0) := zp_r zq_211 rfl
theorem p_211_9 : zP1 211 9 = some (.iconst 1, 0, 0, 0) := zp_l zq_211 rfl
theorem p_211_10 : zP1 211 10 = some (.iaload, 0, 0, 0) := zp_l zq_211 rfl
theorem p_211_11 : zP1 211 11 = some (.if_icmp .ge 33, 0, 0, 0) := zp_l zq_211 rfl
theorem p_211_14 : zP1 211 14 = some (.iload_n 2, 0, 0, 0) := zp_l zq_211 rfl
theorem p_211_15 : zP1 211 15 = some (.ifCond .ne 17, 0, 0, 0) := zp_l zq_211 rfl
theorem p_211_18 : zP1 211 18 = some (.aload_n 0, 0, 0, 0) := zp_l zq_211 rfl
theorem p_211_19 : zP1 211 19 = some (.getfield 9, 11, 0, 0) := zp_r zq_211 rfl
theorem p_211_22 : zP1 211 22 = some (.iload_n 3, 0, 0, 0) := zp_l zq_211 rfl
theorem p_211_23 : zP1 211 23 = some (.iconst 0, 0, 0, 0) := zp_l zq_211 rfl
theorem p_211_24 : zP1 211 24 = some (.invokestatic 129, 204, 2, 0) := zp_r zq_211 rfl
theorem p_211_27 : zP1 211 27 = some (.iaload, 0, 0, 0) := zp_l zq_211 rfl
theorem p_211_28 : zP1 211 28 = some (.iload_n 1, 0, 0, 0) := zp_l zq_211 rfl
theorem p_211_29 : zP1 211 29 = some (.if_icmp .ne 7, 0, 0, 0) := zp_l zq_211 rfl
theorem p_211_32 : zP1 211 32 = some (.iconst 1, 0, 0, 0) := zp_l zq_211 rfl
theorem p_211_33 : zP1 211 33 = some (.goto 4, 0, 0, 0) := zp_l zq_211 rfl
theorem p_211_36 : zP1 211 36 = some (.iconst 0, 0, 0, 0) := zp_l zq_211 rfl
theorem p_211_37 : zP1 211 37 = some (.istore_n 2, 0, 0, 0) := zp_l zq_211 rfl
theorem p_211_38 : zP1 211 38 = some (.iinc 3 1, 0, 0, 0) := zp_l zq_211 rfl
theorem p_211_41 : zP1 211 41 = some (.goto (-37), 0, 0, 0) := zp_l zq_211 rfl
theorem p_211_44 : zP1 211 44 = some (.iconst 0, 0, 0, 0) := zp_l zq_211 rfl
theorem p_211_45 : zP1 211 45 = some (.istore_n 3, 0, 0, 0) := zp_l zq_211 rfl
theorem p_211_46 : zP1 211 46 = some (.iload_n 3, 0, 0, 0) := zp_l zq_211 rfl
theorem p_211_47 : zP1 211 47 = some (.aload_n 0, 0, 0, 0) := zp_l zq_211 rfl
theorem p_211_48 : zP1 211 48 = some (.getfield 9, 11, 0, 0) := zp_r zq_211 rfl
theorem p_211_51 : zP1 211 51 = some (.iconst 2, 0, 0, 0) := zp_l zq_211 rfl
theorem p_211_52 : zP1 211 52 = some (.iaload, 0, 0, 0) := zp_l zq_211 rfl
theorem p_211_53 : zP1 211 53 = some (.if_icmp .ge 35, 0, 0, 0) := zp_l zq_211 rfl
theorem p_211_56 : zP1 211 56 = some (.iload_n 2, 0, 0, 0) := zp_l zq_211 rfl
theorem p_211_57 : zP1 211 57 = some (.ifCond .ne 19, 0, 0, 0) := zp_l zq_211 rfl
theorem p_211_60 : zP1 211 60 = some (.aload_n 0, 0, 0, 0) := zp_l zq_211 rfl
theorem p_211_61 : zP1 211 61 = some (.getfield 9, 11, 0, 0) := zp_r zq_211 rfl
theorem p_211_64 : zP1 211 64 = some (.sipush 254, 0, 0, 0) := zp_l zq_211 rfl
theorem p_211_67 : zP1 211 67 = some (.iconst 2, 0, 0, 0) := zp_l zq_211 rfl
theorem p_211_68 : zP1 211 68 = some (.iload_n 3, 0, 0, 0) := zp_l zq_211 rfl
theorem p_211_69 : zP1 211 69 = some (.imul, 0, 0, 0) := zp_l zq_211 rfl
theorem p_211_70 : zP1 211 70 = some (.iadd, 0, 0, 0) := zp_l zq_211 rfl
theorem p_211_71 : zP1 211 71 = some (.iaload, 0, 0, 0) := zp_l zq_211 rfl
theorem p_211_72 : zP1 211 72 = some (.iload_n 1, 0, 0, 0) := zp_l zq_211 rfl
theorem p_211_73 : zP1 211 73 = some (.if_icmp .ne 7, 0, 0, 0) := zp_l zq_211 rfl
theorem p_211_76 : zP1 211 76 = some (.iconst 1, 0, 0, 0) := zp_l zq_211 rfl
theorem p_211_77 : zP1 211 77 = some (.goto 4, 0, 0, 0) := zp_l zq_211 rfl
theorem p_211_80 : zP1 211 80 = some (.iconst 0, 0, 0, 0) := zp_l zq_211 rfl
theorem p_211_81 : zP1 211 81 = some (.istore_n 2, 0, 0, 0) := zp_l zq_211 rfl
theorem p_211_82 : zP1 211 82 = some (.iinc 3 1, 0, 0, 0) := zp_l zq_211 rfl
theorem p_211_85 : zP1 211 85 = some (.goto (-39), 0, 0, 0) := zp_l zq_211 rfl
theorem p_211_88 : zP1 211 88 = some (.iconst 0, 0, 0, 0) := zp_l zq_211 rfl
theorem p_211_89 : zP1 211 89 = some (.istore_n 3, 0, 0, 0) := zp_l zq_211 rfl
theorem p_211_90 : zP1 211 90 = some (.iload_n 3, 0, 0, 0) := zp_l zq_211 rfl
theorem p_211_91 : zP1 211 91 = some (.aload_n 0, 0, 0, 0) := zp_l zq_211 rfl
theorem p_211_92 : zP1 211 92 = some (.getfield 9, 11, 0, 0) := zp_r zq_211 rfl
theorem p_211_95 : zP1 211 95 = some (.bipush 6, 0, 0, 0) := zp_l zq_211 rfl
theorem p_211_97 : zP1 211 97 = some (.iaload, 0, 0, 0) := zp_l zq_211 rfl
theorem p_211_98 : zP1 211 98 = some (.if_icmp .ge 35, 0, 0, 0) := zp_l zq_211 rfl
theorem p_211_101 : zP1 211 101 = some (.iload_n 2, 0, 0, 0) := zp_l zq_211 rfl
theorem p_211_102 : zP1 211 102 = some (.ifCond .ne 19, 0, 0, 0) := zp_l zq_211 rfl
theorem p_211_105 : zP1 211 105 = some (.aload_n 0, 0, 0, 0) := zp_l zq_211 rfl
theorem p_211_106 : zP1 211 106 = some (.getfield 9, 11, 0, 0) := zp_r zq_211 rfl
theorem p_211_109 : zP1 211 109 = some (.sipush 1050, 0, 0, 0) := zp_l zq_211 rfl
theorem p_211_112 : zP1 211 112 = some (.iconst 4, 0, 0, 0) := zp_l zq_211 rfl
theorem p_211_113 : zP1 211 113 = some (.iload_n 3, 0, 0, 0) := zp_l zq_211 rfl
theorem p_211_114 : zP1 211 114 = some (.imul, 0, 0, 0) := zp_l zq_211 rfl
theorem p_211_115 : zP1 211 115 = some (.iadd, 0, 0, 0) := zp_l zq_211 rfl
theorem p_211_116 : zP1 211 116 = some (.iaload, 0, 0, 0) := zp_l zq_211 rfl
theorem p_211_117 : zP1 211 117 = some (.iload_n 1, 0, 0, 0) := zp_l zq_211 rfl
theorem p_211_118 : zP1 211 118 = some (.if_icmp .ne 7, 0, 0, 0) := zp_l zq_211 rfl
theorem p_211_121 : zP1 211 121 = some (.iconst 1, 0, 0, 0) := zp_l zq_211 rfl
theorem p_211_122 : zP1 211 122 = some (.goto 4, 0, 0, 0) := zp_l zq_211 rfl
theorem p_211_125 : zP1 211 125 = some (.iconst 0, 0, 0, 0) := zp_l zq_211 rfl
theorem p_211_126 : zP1 211 126 = some (.istore_n 2, 0, 0, 0) := zp_l zq_211 rfl
theorem p_211_127 : zP1 211 127 = some (.iinc 3 1, 0, 0, 0) := zp_l zq_211 rfl
theorem p_211_130 : zP1 211 130 = some (.goto (-40), 0, 0, 0) := zp_l zq_211 rfl
theorem p_211_133 : zP1 211 133 = some (.iload_n 2, 0, 0, 0) := zp_l zq_211 rfl
theorem p_211_134 : zP1 211 134 = some (.ireturn, 0, 0, 0) := zp_l zq_211 rfl
theorem b_211_0 {x1 : Int} : Z e (d + 1) 211 0 [.ref 246, .int (iI x1), .retAddr 0, .retAddr 0] [] m = Z e (d + 1) 211 4 [.ref 246, .int (iI x1), .int (iI 0), .int (iI 0)] [] m := (s_const p_211_0).trans <| (s_is_2 cat_i p_211_1).trans <| (s_const p_211_2).trans <| (s_is_3 cat_i p_211_3).trans <| rfl
theorem b_211_4 {x1 : Int} {x2 : Int} {x3 : Int} : Z e (d + 1) 211 4 [.ref 246, .int (iI x1), .int (iI x2), .int (iI x3)] [] m = (if (wr x3) < (wr (m 247 1)) then ck ((¬ (¬ (wr x2) = 0)) → (0 ≤ (wr ((110 + (9 * x3)) + 0)) ∧ (wr ((110 + (9 * x3)) + 0)) < 2737)) (Z e (d + 1) 211 4 [.ref 246, .int (iI x1), .int (iI (if (¬ (wr x2) = 0) ∨ ((wr (m 247 (wr ((110 + (9 * x3)) + 0)))) = (wr x1)) then 1 else 0)), .int (iI (x3 + 1))] [] m) else Z e (d + 1) 211 46 [.ref 246, .int (iI x1), .int (iI x2), .int (iI 0)] [] m) := (s_il_3 p_211_4).trans <| (s_al_0 p_211_5).trans <| (s_getr p_211_6 hs_246 (by decide) rfl).trans <| (s_const p_211_9).trans <| (s_aldc p_211_10 hs_247 (by decide) wl_1 (by decide)).trans <| Eq.trans ((s_c_ge_f p_211_11 rfl rfl rfl)) <| ite_cg ((s_il_2 p_211_14).trans <| Eq.trans (Eq.trans (Eq.trans (s_z_ne_t p_211_15 rfl rfl) <| Eq.trans (ite_cg rfl ((s_al_0 p_211_18).trans <| (s_getr p_211_19 hs_246 (by decide) rfl).trans <| (s_il_3 p_211_22).trans <| (s_const p_211_23).trans <| (s_cs2 (Lc := [.int (iI x3), .int (iI 0)]) p_211_24 (by decide) (zM_of zq_204) ⟨Nat.le_of_ble_eq_true rfl, Nat.le_of_ble_eq_true rfl⟩ rfl).trans <| (bd b_204_0).trans <| ri_k.trans <| (s_ald 2737 p_211_27 hs_247 rfl (by decide)).trans <| ck_cg fun k2 => (s_il_1 p_211_28).trans <| (s_c_ne_f p_211_29 rfl rfl rfl))) <| Eq.trans ck_b <| ck_cg fun _ => co_or) <| ck_cg fun _ => Eq.trans (ite_cg ((s_const p_211_32).trans <| (s_goto p_211_33 rfl).trans <| rfl) ((s_const p_211_36).trans <| rfl)) (phi1 (fun z0 => Z e (d + 1) 211 37 [.ref 246, .int (iI x1), .int (iI x2), .int (iI x3)] [.int (iI z0)] m))) <| ck_cg fun _ => (s_is_2 cat_i p_211_37).trans <| (s_inc_3 cat_i p_211_38).trans <| (s_goto p_211_41 rfl).trans <| rfl) ((s_const p_211_44).trans <| (s_is_3 cat_i p_211_45).trans <| rfl)
theorem b_211_46 {x1 : Int} {x2 : Int} {x3 : Int} : Z e (d + 1) 211 46 [.ref 246, .int (iI x1), .int (iI x2), .int (iI x3)] [] m = (if (wr x3) < (wr (m 247 2)) then ck ((¬ (¬ (wr x2) = 0)) → (0 ≤ (wr (254 + (2 * x3))) ∧ (wr (254 + (2 * x3))) < 2737)) (Z e (d + 1) 211 46 [.ref 246, .int (iI x1), .int (iI (if (¬ (wr x2) = 0) ∨ ((wr (m 247 (wr (254 + (2 * x3))))) = (wr x1)) then 1 else 0)), .int (iI (x3 + 1))] [] m) else Z e (d + 1) 211 90 [.ref 246, .int (iI x1), .int (iI x2), .int (iI 0)] [] m) := (s_il_3 p_211_46).trans <| (s_al_0 p_211_47).trans <| (s_getr p_211_48 hs_246 (by decide) rfl).trans <| (s_const p_211_51).trans <| (s_aldc p_211_52 hs_247 (by decide) wl_2 (by decide)).trans <| Eq.trans ((s_c_ge_f p_211_53 rfl rfl rfl)) <| ite_cg ((s_il_2 p_211_56).trans <| Eq.trans (Eq.trans (Eq.trans (s_z_ne_t p_211_57 rfl rfl) <| Eq.trans (ite_cg rfl ((s_al_0 p_211_60).trans <| (s_getr p_211_61 hs_246 (by decide) rfl).trans <| (s_sip p_211_64 rfl).trans <| (s_const p_211_67).trans <| (s_il_3 p_211_68).trans <| (s_imul p_211_69).trans <| (s_iadd p_211_70).trans <| (s_ald 2737 p_211_71 hs_247 rfl (by decide)).trans <| ck_cg fun k2 => (s_il_1 p_211_72).trans <| (s_c_ne_f p_211_73 rfl rfl rfl))) <| Eq.trans ck_b <| ck_cg fun _ => co_or) <| ck_cg fun _ => Eq.trans (ite_cg ((s_const p_211_76).trans <| (s_goto p_211_77 rfl).trans <| rfl) ((s_const p_211_80).trans <| rfl)) (phi1 (fun z0 => Z e (d + 1) 211 81 [.ref 246, .int (iI x1), .int (iI x2), .int (iI x3)] [.int (iI z0)] m))) <| ck_cg fun _ => (s_is_2 cat_i p_211_81).trans <| (s_inc_3 cat_i p_211_82).trans <| (s_goto p_211_85 rfl).trans <| rfl) ((s_const p_211_88).trans <| (s_is_3 cat_i p_211_89).trans <| rfl)
theorem b_211_90 {x1 : Int} {x2 : Int} {x3 : Int} : Z e (d + 1) 211 90 [.ref 246, .int (iI x1), .int (iI x2), .int (iI x3)] [] m = (if (wr x3) < (wr (m 247 6)) then ck ((¬ (¬ (wr x2) = 0)) → (0 ≤ (wr (1050 + (4 * x3))) ∧ (wr (1050 + (4 * x3))) < 2737)) (Z e (d + 1) 211 90 [.ref 246, .int (iI x1), .int (iI (if (¬ (wr x2) = 0) ∨ ((wr (m 247 (wr (1050 + (4 * x3))))) = (wr x1)) then 1 else 0)), .int (iI (x3 + 1))] [] m) else ck (nbp x2) (ri x2 m)) := (s_il_3 p_211_90).trans <| (s_al_0 p_211_91).trans <| (s_getr p_211_92 hs_246 (by decide) rfl).trans <| (s_bip p_211_95 rfl).trans <| (s_aldc p_211_97 hs_247 (by decide) wl_6 (by decide)).trans <| Eq.trans ((s_c_ge_f p_211_98 rfl rfl rfl)) <| ite_cg ((s_il_2 p_211_101).trans <| Eq.trans (Eq.trans (Eq.trans (s_z_ne_t p_211_102 rfl rfl) <| Eq.trans (ite_cg rfl ((s_al_0 p_211_105).trans <| (s_getr p_211_106 hs_246 (by decide) rfl).trans <| (s_sip p_211_109 rfl).trans <| (s_const p_211_112).trans <| (s_il_3 p_211_113).trans <| (s_imul p_211_114).trans <| (s_iadd p_211_115).trans <| (s_ald 2737 p_211_116 hs_247 rfl (by decide)).trans <| ck_cg fun k2 => (s_il_1 p_211_117).trans <| (s_c_ne_f p_211_118 rfl rfl rfl))) <| Eq.trans ck_b <| ck_cg fun _ => co_or) <| ck_cg fun _ => Eq.trans (ite_cg ((s_const p_211_121).trans <| (s_goto p_211_122 rfl).trans <| rfl) ((s_const p_211_125).trans <| rfl)) (phi1 (fun z0 => Z e (d + 1) 211 126 [.ref 246, .int (iI x1), .int (iI x2), .int (iI x3)] [.int (iI z0)] m))) <| ck_cg fun _ => (s_is_2 cat_i p_211_126).trans <| (s_inc_3 cat_i p_211_127).trans <| (s_goto p_211_130 rfl).trans <| rfl) ((s_il_2 p_211_133).trans <| (s_retx p_211_134 (zM_of zq_211)))
-- M.ground
theorem p_212_0 : zP1 212 0 = some (.iload_n 1, 0, 0, 0) := zp_l zq_212 rfl
theorem p_212_1 : zP1 212 1 = some (.invokestatic 110, 200, 1, 0) := zp_r zq_212 rfl
theorem p_212_4 : zP1 212 4 = some (.ifCond .eq 12, 0, 0, 0) := zp_l zq_212 rfl
theorem p_212_7 : zP1 212 7 = some (.iload_n 2, 0, 0, 0) := zp_l zq_212 rfl
theorem p_212_8 : zP1 212 8 = some (.iconst 0, 0, 0, 0) := zp_l zq_212 rfl
theorem p_212_9 : zP1 212 9 = some (.iconst 3, 0, 0, 0) := zp_l zq_212 rfl
theorem p_212_10 : zP1 212 10 = some (.invokestatic 100, 199, 3, 0) := zp_r zq_212 rfl
theorem p_212_13 : zP1 212 13 = some (.ifCond .ne 5, 0, 0, 0) := zp_l zq_212 rfl
theorem p_212_16 : zP1 212 16 = some (.iconst (-1), 0, 0, 0) := zp_l zq_212 rfl
theorem p_212_17 : zP1 212 17 = some (.ireturn, 0, 0, 0) := zp_l zq_212 rfl
theorem p_212_18 : zP1 212 18 = some (.iload_n 2, 0, 0, 0) := zp_l zq_212 rfl
theorem p_212_19 : zP1 212 19 = some (.iconst 1, 0, 0, 0) := zp_l zq_212 rfl
theorem p_212_20 : zP1 212 20 = some (.if_icmp .ne 14, 0, 0, 0) := zp_l zq_212 rfl
theorem p_212_23 : zP1 212 23 = some (.aload_n 0, 0, 0, 0) := zp_l zq_212 rfl
theorem p_212_24 : zP1 212 24 = some (.iload_n 1, 0, 0, 0) := zp_l zq_212 rfl
theorem p_212_25 : zP1 212 25 = some (.invokevirtual 132, 211, 1, 11) := zp_r zq_212 rfl
theorem p_212_28 : zP1 212 28 = some (.ifCond .eq 6, 0, 0, 0) := zp_l zq_212 rfl
theorem p_212_31 : zP1 212 31 = some (.bipush (-4), 0, 0, 0) := zp_l zq_212 rfl
theorem p_212_33 : zP1 212 33 = some (.ireturn, 0, 0, 0) := zp_l zq_212 rfl
theorem p_212_34 : zP1 212 34 = some (.aload_n 0, 0, 0, 0) := zp_l zq_212 rfl
theorem p_212_35 : zP1 212 35 = some (.getfield 9, 11, 0, 0) := zp_r zq_212 rfl
theorem p_212_38 : zP1 212 38 = some (.bipush 10, 0, 0, 0) := zp_l zq_212 rfl
theorem p_212_40 : zP1 212 40 = some (.iload_n 1, 0, 0, 0) := zp_l zq_212 rfl
theorem p_212_41 : zP1 212 41 = some (.iadd, 0, 0, 0) := zp_l zq_212 rfl
theorem p_212_42 : zP1 212 42 = some (.iaload, 0, 0, 0) := zp_l zq_212 rfl
theorem p_212_43 : zP1 212 43 = some (.istore_n 3, 0, 0, 0) := zp_l zq_212 rfl
theorem p_212_44 : zP1 212 44 = some (.aload_n 0, 0, 0, 0) := zp_l zq_212 rfl
theorem p_212_45 : zP1 212 45 = some (.getfield 9, 11, 0, 0) := zp_r zq_212 rfl
theorem p_212_48 : zP1 212 48 = some (.bipush 10, 0, 0, 0) := zp_l zq_212 rfl
theorem p_212_50 : zP1 212 50 = some (.iload_n 1, 0, 0, 0) := zp_l zq_212 rfl
theorem p_212_51 : zP1 212 51 = some (.iadd, 0, 0, 0) := zp_l zq_212 rfl
theorem p_212_52 : zP1 212 52 = some (.iload_n 2, 0, 0, 0) := zp_l zq_212 rfl
theorem p_212_53 : zP1 212 53 = some (.iastore, 0, 0, 0) := zp_l zq_212 rfl
theorem p_212_54 : zP1 212 54 = some (.aload_n 0, 0, 0, 0) := zp_l zq_212 rfl
theorem p_212_55 : zP1 212 55 = some (.iconst 0, 0, 0, 0) := zp_l zq_212 rfl
theorem p_212_56 : zP1 212 56 = some (.putfield 121, 11, 12, 1) := zp_r zq_212 rfl
theorem p_212_59 : zP1 212 59 = some (.iload_n 3, 0, 0, 0) := zp_l zq_212 rfl
theorem p_212_60 : zP1 212 60 = some (.ireturn, 0, 0, 0) := zp_l zq_212 rfl
theorem b_212_0 {x1 : Int} {x2 : Int} : Z e (d + 2) 212 0 [.ref 246, .int (iI x1), .int (iI x2), .retAddr 0] [] m = (if (¬ (((wr 0) ≤ (wr x1)) ∧ ((wr x1) ≤ (wr 99)))) ∨ (¬ (((wr 0) ≤ (wr x2)) ∧ ((wr x2) ≤ (wr 3)))) then ri (-1) m else (if (wr x2) = 1 then (Z e (d + 1) 211 0 [.ref 246, .int (iI x1), .retAddr 0, .retAddr 0] [] m).bind (ZK e (d + 2) 212 28 [.ref 246, .int (iI x1), .int (iI x2), .retAddr 0] [] m) else ck (0 ≤ (wr (10 + x1)) ∧ (wr (10 + x1)) < 2737) (ck (0 ≤ (wr (10 + x1)) ∧ (wr (10 + x1)) < 2737) (ri (m 247 (wr (10 + x1))) (um (um m 247 (wr (10 + x1)) x2) 246 12 0))))) := (s_il_1 p_212_0).trans <| (s_cs1 (Lc := [.int (iI x1)]) p_212_1 (by decide) (zM_of zq_200) ⟨Nat.le_of_ble_eq_true rfl, Nat.le_of_ble_eq_true rfl⟩ rfl).trans <| (bd b_200_0).trans <| ri_k.trans <| Eq.trans (Eq.trans (s_beq_t p_212_4 rfl) <| Eq.trans (ite_cg rfl ((s_il_2 p_212_7).trans <| (s_const p_212_8).trans <| (s_const p_212_9).trans <| (s_cs3 (Lc := [.int (iI x2), .int (iI 0), .int (iI 3)]) p_212_10 (by decide) (zM_of zq_199) ⟨Nat.le_of_ble_eq_true rfl, Nat.le_of_ble_eq_true rfl⟩ rfl).trans <| (bd b_199_0).trans <| ri_k.trans <| (s_bne_f p_212_13 rfl))) co_or) <| ite_cg ((s_const p_212_16).trans <| (s_reti p_212_17 (zM_of zq_212))) ((s_il_2 p_212_18).trans <| (s_const p_212_19).trans <| Eq.trans ((s_c_ne_f p_212_20 rfl rfl wl_1)) <| ite_cg ((s_al_0 p_212_23).trans <| (s_il_1 p_212_24).trans <| (s_cv1 (Lc := [.ref 246, .int (iI x1), .retAddr 0, .retAddr 0]) p_212_25 (by decide) (by decide) (zM_of zq_211) ⟨Nat.le_of_ble_eq_true rfl, Nat.le_of_ble_eq_true rfl⟩ rfl (m_rc hs_246 ⟨rfl, by decide⟩))) ((s_al_0 p_212_34).trans <| (s_getr p_212_35 hs_246 (by decide) rfl).trans <| (s_bip p_212_38 rfl).trans <| (s_il_1 p_212_40).trans <| (s_iadd p_212_41).trans <| (s_ald 2737 p_212_42 hs_247 rfl (by decide)).trans <| ck_cg fun k1 => (s_is_3 cat_i p_212_43).trans <| (s_al_0 p_212_44).trans <| (s_getr p_212_45 hs_246 (by decide) rfl).trans <| (s_bip p_212_48 rfl).trans <| (s_il_1 p_212_50).trans <| (s_iadd p_212_51).trans <| (s_il_2 p_212_52).trans <| (s_ast 2737 p_212_53 hs_247 rfl).trans <| ck_cg fun k2 => (s_al_0 p_212_54).trans <| (s_const p_212_55).trans <| (s_putk p_212_56 rfl hs_246 (by decide) rfl).trans <| (s_il_3 p_212_59).trans <| (s_reti p_212_60 (zM_of zq_212))))
theorem b_212_28 {x1 : Int} {x2 : Int} {xs0 : Int} {u3 : Value} : Z e (d + 2) 212 28 [.ref 246, .int (iI x1), .int (iI x2), u3] [.int (iI xs0)] m = (if ¬ (wr xs0) = 0 then ri (-4) m else ck (0 ≤ (wr (10 + x1)) ∧ (wr (10 + x1)) < 2737) (ck (0 ≤ (wr (10 + x1)) ∧ (wr (10 + x1)) < 2737) (ri (m 247 (wr (10 + x1))) (um (um m 247 (wr (10 + x1)) x2) 246 12 0)))) := Eq.trans ((s_z_eq_f p_212_28 rfl rfl)) <| ite_cg ((s_bip p_212_31 rfl).trans <| (s_reti p_212_33 (zM_of zq_212))) ((s_al_0 p_212_34).trans <| (s_getr p_212_35 hs_246 (by decide) rfl).trans <| (s_bip p_212_38 rfl).trans <| (s_il_1 p_212_40).trans <| (s_iadd p_212_41).trans <| (s_ald 2737 p_212_42 hs_247 rfl (by decide)).trans <| ck_cg fun k1 => (s_is_3 cat_i p_212_43).trans <| (s_al_0 p_212_44).trans <| (s_getr p_212_45 hs_246 (by decide) rfl).trans <| (s_bip p_212_48 rfl).trans <| (s_il_1 p_212_50).trans <| (s_iadd p_212_51).trans <| (s_il_2 p_212_52).trans <| (s_ast 2737 p_212_53 hs_247 rfl).trans <| ck_cg fun k2 => (s_al_0 p_212_54).trans <| (s_const p_212_55).trans <| (s_putk p_212_56 rfl hs_246 (by decide) rfl).trans <| (s_il_3 p_212_59).trans <| (s_reti p_212_60 (zM_of zq_212)))
-- M.ofVersion
theorem p_218_0 : zP1 218 0 = some (.sipush 266, 0, 0, 0) := zp_l zq_218 rfl
theorem p_218_3 : zP1 218 3 = some (.bipush 44, 0, 0, 0) := zp_l zq_218 rfl
theorem p_218_5 : zP1 218 5 = some (.iload_n 0, 0, 0, 0) := zp_l zq_218 rfl
theorem p_218_6 : zP1 218 6 = some (.imul, 0, 0, 0) := zp_l zq_218 rfl
theorem p_218_7 : zP1 218 7 = some (.iadd, 0, 0, 0) := zp_l zq_218 rfl
theorem p_218_8 : zP1 218 8 = some (.iload_n 1, 0, 0, 0) := zp_l zq_218 rfl
theorem p_218_9 : zP1 218 9 = some (.iadd, 0, 0, 0) := zp_l zq_218 rfl
theorem p_218_10 : zP1 218 10 = some (.ireturn, 0, 0, 0) := zp_l zq_218 rfl
theorem b_218_0 {x0 : Int} {x1 : Int} : Z e d 218 0 [.int (iI x0), .int (iI x1)] [] m = ri ((266 + (44 * x0)) + x1) m := (s_sip p_218_0 rfl).trans <| (s_bip p_218_3 rfl).trans <| (s_il_0 p_218_5).trans <| (s_imul p_218_6).trans <| (s_iadd p_218_7).trans <| (s_il_1 p_218_8).trans <| (s_iadd p_218_9).trans <| (s_reti p_218_10 (zM_of zq_218))
-- M.isInForce
theorem p_219_0 : zP1 219 0 = some (.aload_n 0, 0, 0, 0) := zp_l zq_219 rfl
theorem p_219_1 : zP1 219 1 = some (.getfield 9, 11, 0, 0) := zp_r zq_219 rfl
theorem p_219_4 : zP1 219 4 = some (.iload_n 1, 0, 0, 0) := zp_l zq_219 rfl
theorem p_219_5 : zP1 219 5 = some (.iconst 2, 0, 0, 0) := zp_l zq_219 rfl
theorem p_219_6 : zP1 219 6 = some (.invokestatic 144, 218, 2, 0) := zp_r zq_219 rfl
theorem p_219_9 : zP1 219 9 = some (.iaload, 0, 0, 0) := zp_l zq_219 rfl
theorem p_219_10 : zP1 219 10 = some (.istore_n 3, 0, 0, 0) := zp_l zq_219 rfl
theorem p_219_11 : zP1 219 11 = some (.aload_n 0, 0, 0, 0) := zp_l zq_219 rfl
theorem p_219_12 : zP1 219 12 = some (.getfield 38, 11, 13, 0) := zp_r zq_219 rfl
theorem p_219_15 : zP1 219 15 = some (.ifCond .lt 19, 0, 0, 0) := zp_l zq_219 rfl
theorem p_219_18 : zP1 219 18 = some (.iload_n 1, 0, 0, 0) := zp_l zq_219 rfl
theorem p_219_19 : zP1 219 19 = some (.aload_n 0, 0, 0, 0) := zp_l zq_219 rfl
theorem p_219_20 : zP1 219 20 = some (.getfield 38, 11, 13, 0) := zp_r zq_219 rfl
theorem p_219_23 : zP1 219 23 = some (.if_icmp .ne 7, 0, 0, 0) := zp_l zq_219 rfl
theorem p_219_26 : zP1 219 26 = some (.iconst 1, 0, 0, 0) := zp_l zq_219 rfl
theorem p_219_27 : zP1 219 27 = some (.goto 37, 0, 0, 0) := zp_l zq_219 rfl
theorem p_219_30 : zP1 219 30 = some (.iconst 0, 0, 0, 0) := zp_l zq_219 rfl
theorem p_219_31 : zP1 219 31 = some (.goto 33, 0, 0, 0) := zp_l zq_219 rfl
theorem p_219_34 : zP1 219 34 = some (.aload_n 0, 0, 0, 0) := zp_l zq_219 rfl
theorem p_219_35 : zP1 219 35 = some (.getfield 9, 11, 0, 0) := zp_r zq_219 rfl
theorem p_219_38 : zP1 219 38 = some (.iload_n 1, 0, 0, 0) := zp_l zq_219 rfl
theorem p_219_39 : zP1 219 39 = some (.iconst 1, 0, 0, 0) := zp_l zq_219 rfl
theorem p_219_40 : zP1 219 40 = some (.invokestatic 144, 218, 2, 0) := zp_r zq_219 rfl
theorem p_219_43 : zP1 219 43 = some (.iaload, 0, 0, 0) := zp_l zq_219 rfl
theorem p_219_44 : zP1 219 44 = some (.iload_n 2, 0, 0, 0) := zp_l zq_219 rfl
theorem p_219_45 : zP1 219 45 = some (.if_icmp .gt 18, 0, 0, 0) := zp_l zq_219 rfl
theorem p_219_48 : zP1 219 48 = some (.iload_n 3, 0, 0, 0) := zp_l zq_219 rfl
theorem p_219_49 : zP1 219 49 = some (.bipush (-3), 0, 0, 0) := zp_l zq_219 rfl
theorem p_219_51 : zP1 219 51 = some (.if_icmp .eq 8, 0, 0, 0) := zp_l zq_219 rfl
theorem p_219_54 : zP1 219 54 = some (.iload_n 2, 0, 0, 0) := zp_l zq_219 rfl
theorem p_219_55 : zP1 219 55 = some (.iload_n 3, 0, 0, 0) := zp_l zq_219 rfl
theorem p_219_56 : zP1 219 56 = some (.if_icmp .ge 7, 0, 0, 0) := zp_l zq_219 rfl
theorem p_219_59 : zP1 219 59 = some (.iconst 1, 0, 0, 0) := zp_l zq_219 rfl
theorem p_219_60 : zP1 219 60 = some (.goto 4, 0, 0, 0) := zp_l zq_219 rfl
theorem p_219_63 : zP1 219 63 = some (.iconst 0, 0, 0, 0) := zp_l zq_219 rfl
theorem p_219_64 : zP1 219 64 = some (.ireturn, 0, 0, 0) := zp_l zq_219 rfl
theorem b_219_0 {x1 : Int} {x2 : Int} : Z e (d + 1) 219 0 [.ref 246, .int (iI x1), .int (iI x2), .retAddr 0] [] m = ck (0 ≤ (wr ((266 + (44 * x1)) + 2)) ∧ (wr ((266 + (44 * x1)) + 2)) < 2737) (ck ((¬ (0 ≤ (wr (m 246 13)))) → (0 ≤ (wr ((266 + (44 * x1)) + 1)) ∧ (wr ((266 + (44 * x1)) + 1)) < 2737)) (ck (nbp (if 0 ≤ (wr (m 246 13)) then (if (wr x1) = (wr (m 246 13)) then 1 else 0) else (if ((wr (m 247 (wr ((266 + (44 * x1)) + 1)))) ≤ (wr x2)) ∧ (((wr (m 247 (wr ((266 + (44 * x1)) + 2)))) = (-3)) ∨ ((wr x2) < (wr (m 247 (wr ((266 + (44 * x1)) + 2)))))) then 1 else 0))) (ri (if 0 ≤ (wr (m 246 13)) then (if (wr x1) = (wr (m 246 13)) then 1 else 0) else (if ((wr (m 247 (wr ((266 + (44 * x1)) + 1)))) ≤ (wr x2)) ∧ (((wr (m 247 (wr ((266 + (44 * x1)) + 2)))) = (-3)) ∨ ((wr x2) < (wr (m 247 (wr ((266 + (44 * x1)) + 2)))))) then 1 else 0)) m))) := (s_al_0 p_219_0).trans <| (s_getr p_219_1 hs_246 (by decide) rfl).trans <| (s_il_1 p_219_4).trans <| (s_const p_219_5).trans <| (s_cs2 (Lc := [.int (iI x1), .int (iI 2)]) p_219_6 (by decide) (zM_of zq_218) ⟨Nat.le_of_ble_eq_true rfl, Nat.le_of_ble_eq_true rfl⟩ rfl).trans <| (bd b_218_0).trans <| ri_k.trans <| (s_ald 2737 p_219_9 hs_247 rfl (by decide)).trans <| ck_cg fun k1 => (s_is_3 cat_i p_219_10).trans <| (s_al_0 p_219_11).trans <| (s_get p_219_12 hs_246 (by decide) rfl).trans <| Eq.trans (Eq.trans ((s_z_lt_f p_219_15 rfl rfl)) <| Eq.trans (ite_cg ((s_il_1 p_219_18).trans <| (s_al_0 p_219_19).trans <| (s_get p_219_20 hs_246 (by decide) rfl).trans <| Eq.trans (Eq.trans ((s_c_ne_f p_219_23 rfl rfl rfl)) <| Eq.trans (ite_cg ((s_const p_219_26).trans <| (s_goto p_219_27 rfl).trans <| rfl) ((s_const p_219_30).trans <| (s_goto p_219_31 rfl).trans <| rfl)) (phi1 (fun z0 => Z e (d + 1) 219 64 [.ref 246, .int (iI x1), .int (iI x2), .int (iI (m 247 (wr ((266 + (44 * x1)) + 2))))] [.int (iI z0)] m))) <| rfl) ((s_al_0 p_219_34).trans <| (s_getr p_219_35 hs_246 (by decide) rfl).trans <| (s_il_1 p_219_38).trans <| (s_const p_219_39).trans <| (s_cs2 (Lc := [.int (iI x1), .int (iI 1)]) p_219_40 (by decide) (zM_of zq_218) ⟨Nat.le_of_ble_eq_true rfl, Nat.le_of_ble_eq_true rfl⟩ rfl).trans <| (bd b_218_0).trans <| ri_k.trans <| (s_ald 2737 p_219_43 hs_247 rfl (by decide)).trans <| ck_cg fun k2 => (s_il_2 p_219_44).trans <| Eq.trans (Eq.trans (Eq.trans (s_c_gt_f p_219_45 rfl rfl rfl) <| Eq.trans (ite_cg ((s_il_3 p_219_48).trans <| (s_bip p_219_49 rfl).trans <| Eq.trans (s_c_eq_t p_219_51 rfl rfl wl_m3) <| Eq.trans (ite_cg rfl ((s_il_2 p_219_54).trans <| (s_il_3 p_219_55).trans <| (s_c_ge_f p_219_56 rfl rfl rfl))) co_or) rfl) co_and) <| Eq.trans (ite_cg ((s_const p_219_59).trans <| (s_goto p_219_60 rfl).trans <| rfl) ((s_const p_219_63).trans <| rfl)) (phi1 (fun z0 => Z e (d + 1) 219 64 [.ref 246, .int (iI x1), .int (iI x2), .int (iI (m 247 (wr ((266 + (44 * x1)) + 2))))] [.int (iI z0)] m))) <| rfl)) <| Eq.trans ck_b <| ck_cg fun _ => (phi1 (fun z0 => Z e (d + 1) 219 64 [.ref 246, .int (iI x1), .int (iI x2), .int (iI (m 247 (wr ((266 + (44 * x1)) + 2))))] [.int (iI z0)] m))) <| ck_cg fun _ => (s_retx p_219_64 (zM_of zq_219))
-- M.inForce
theorem p_220_0 : zP1 220 0 = some (.iconst (-1), 0, 0, 0) := zp_l zq_220 rfl
theorem p_220_1 : zP1 220 1 = some (.istore_n 3, 0, 0, 0) := zp_l zq_220 rfl
theorem p_220_2 : zP1 220 2 = some (.iconst 0, 0, 0, 0) := zp_l zq_220 rfl
theorem p_220_3 : zP1 220 3 = some (.istore 4, 0, 0, 0) := zp_l zq_220 rfl
theorem p_220_5 : zP1 220 5 = some (.iload 4, 0, 0, 0) := zp_l zq_220 rfl
theorem p_220_7 : zP1 220 7 = some (.aload_n 0, 0, 0, 0) := zp_l zq_220 rfl
theorem p_220_8 : zP1 220 8 = some (.getfield 9, 11, 0, 0) := zp_r zq_220 rfl
theorem p_220_11 : zP1 220 11 = some (.iconst 3, 0, 0, 0) := zp_l zq_220 rfl
theorem p_220_12 : zP1 220 12 = some (.iaload, 0, 0, 0) := zp_l zq_220 rfl
theorem p_220_13 : zP1 220 13 = some (.if_icmp .ge 41, 0, 0, 0) := zp_l zq_220 rfl
theorem p_220_16 : zP1 220 16 = some (.aload_n 0, 0, 0, 0) := zp_l zq_220 rfl
theorem p_220_17 : zP1 220 17 = some (.getfield 9, 11, 0, 0) := zp_r zq_220 rfl
theorem p_220_20 : zP1 220 20 = some (.iload 4, 0, 0, 0) := zp_l zq_220 rfl
theorem p_220_22 : zP1 220 22 = some (.iconst 0, 0, 0, 0) := zp_l zq_220 rfl
theorem p_220_23 : zP1 220 23 = some (.invokestatic 144, 218, 2, 0) := zp_r zq_220 rfl
theorem p_220_26 : zP1 220 26 = some (.iaload, 0, 0, 0) := zp_l zq_220 rfl
theorem p_220_27 : zP1 220 27 = some (.iload_n 1, 0, 0, 0) := zp_l zq_220 rfl
theorem p_220_28 : zP1 220 28 = some (.if_icmp .ne 18, 0, 0, 0) := zp_l zq_220 rfl
theorem p_220_31 : zP1 220 31 = some (.aload_n 0, 0, 0, 0) := zp_l zq_220 rfl
theorem p_220_32 : zP1 220 32 = some (.iload 4, 0, 0, 0) := zp_l zq_220 rfl
theorem p_220_34 : zP1 220 34 = some (.iload_n 2, 0, 0, 0) := zp_l zq_220 rfl
theorem p_220_35 : zP1 220 35 = some (.invokevirtual 147, 219, 2, 11) := zp_r zq_220 rfl
theorem p_220_38 : zP1 220 38 = some (.ifCond .eq 8, 0, 0, 0) := zp_l zq_220 rfl
theorem p_220_41 : zP1 220 41 = some (.iload 4, 0, 0, 0) := zp_l zq_220 rfl
theorem p_220_43 : zP1 220 43 = some (.goto 4, 0, 0, 0) := zp_l zq_220 rfl
theorem p_220_46 : zP1 220 46 = some (.iload_n 3, 0, 0, 0) := zp_l zq_220 rfl
theorem p_220_47 : zP1 220 47 = some (.istore_n 3, 0, 0, 0) := zp_l zq_220 rfl
theorem p_220_48 : zP1 220 48 = some (.iinc 4 1, 0, 0, 0) := zp_l zq_220 rfl
theorem p_220_51 : zP1 220 51 = some (.goto (-46), 0, 0, 0) := zp_l zq_220 rfl
theorem p_220_54 : zP1 220 54 = some (.iload_n 3, 0, 0, 0) := zp_l zq_220 rfl
theorem p_220_55 : zP1 220 55 = some (.ireturn, 0, 0, 0) := zp_l zq_220 rfl
theorem b_220_0 {x1 : Int} {x2 : Int} : Z e (d + 2) 220 0 [.ref 246, .int (iI x1), .int (iI x2), .retAddr 0, .retAddr 0] [] m = Z e (d + 2) 220 5 [.ref 246, .int (iI x1), .int (iI x2), .int (iI (-1)), .int (iI 0)] [] m := (s_const p_220_0).trans <| (s_is_3 cat_i p_220_1).trans <| (s_const p_220_2).trans <| (s_is_4 cat_i p_220_3).trans <| rfl
theorem b_220_5 {x1 : Int} {x2 : Int} {x3 : Int} {x4 : Int} : Z e (d + 2) 220 5 [.ref 246, .int (iI x1), .int (iI x2), .int (iI x3), .int (iI x4)] [] m = (if (wr x4) < (wr (m 247 3)) then ck (0 ≤ (wr ((266 + (44 * x4)) + 0)) ∧ (wr ((266 + (44 * x4)) + 0)) < 2737) (ck (((wr (m 247 (wr ((266 + (44 * x4)) + 0)))) = (wr x1)) → ((0 ≤ (wr ((266 + (44 * x4)) + 2)) ∧ (wr ((266 + (44 * x4)) + 2)) < 2737) ∧ (((¬ (0 ≤ (wr (m 246 13)))) → (0 ≤ (wr ((266 + (44 * x4)) + 1)) ∧ (wr ((266 + (44 * x4)) + 1)) < 2737)) ∧ (nbp (if 0 ≤ (wr (m 246 13)) then (if (wr x4) = (wr (m 246 13)) then 1 else 0) else (if ((wr (m 247 (wr ((266 + (44 * x4)) + 1)))) ≤ (wr x2)) ∧ (((wr (m 247 (wr ((266 + (44 * x4)) + 2)))) = (-3)) ∨ ((wr x2) < (wr (m 247 (wr ((266 + (44 * x4)) + 2)))))) then 1 else 0)))))) (Z e (d + 2) 220 5 [.ref 246, .int (iI x1), .int (iI x2), .int (iI (if ((wr (m 247 (wr ((266 + (44 * x4)) + 0)))) = (wr x1)) ∧ (¬ (wr (if 0 ≤ (wr (m 246 13)) then (if (wr x4) = (wr (m 246 13)) then 1 else 0) else (if ((wr (m 247 (wr ((266 + (44 * x4)) + 1)))) ≤ (wr x2)) ∧ (((wr (m 247 (wr ((266 + (44 * x4)) + 2)))) = (-3)) ∨ ((wr x2) < (wr (m 247 (wr ((266 + (44 * x4)) + 2)))))) then 1 else 0))) = 0) then x4 else x3)), .int (iI (x4 + 1))] [] m)) else ri x3 m) := (s_il_4 p_220_5).trans <| (s_al_0 p_220_7).trans <| (s_getr p_220_8 hs_246 (by decide) rfl).trans <| (s_const p_220_11).trans <| (s_aldc p_220_12 hs_247 (by decide) wl_3 (by decide)).trans <| Eq.trans ((s_c_ge_f p_220_13 rfl rfl rfl)) <| ite_cg ((s_al_0 p_220_16).trans <| (s_getr p_220_17 hs_246 (by decide) rfl).trans <| (s_il_4 p_220_20).trans <| (s_const p_220_22).trans <| (s_cs2 (Lc := [.int (iI x4), .int (iI 0)]) p_220_23 (by decide) (zM_of zq_218) ⟨Nat.le_of_ble_eq_true rfl, Nat.le_of_ble_eq_true rfl⟩ rfl).trans <| (bd b_218_0).trans <| ri_k.trans <| (s_ald 2737 p_220_26 hs_247 rfl (by decide)).trans <| ck_cg fun k5 => (s_il_1 p_220_27).trans <| Eq.trans (Eq.trans (Eq.trans (s_c_ne_f p_220_28 rfl rfl rfl) <| Eq.trans (ite_cg ((s_al_0 p_220_31).trans <| (s_il_4 p_220_32).trans <| (s_il_2 p_220_34).trans <| (s_cv2 (Lc := [.ref 246, .int (iI x4), .int (iI x2), .retAddr 0]) p_220_35 (by decide) (by decide) (zM_of zq_219) ⟨Nat.le_of_ble_eq_true rfl, Nat.le_of_ble_eq_true rfl⟩ rfl (m_rc hs_246 ⟨rfl, by decide⟩)).trans <| (bd b_219_0).trans <| ck_bind.trans <| Eq.trans (ck_cg fun k6 => ck_bind.trans <| Eq.trans (ck_cg fun k7 => ck_bind.trans <| ck_cg fun k8 => ri_k.trans <| (s_z_eq_f p_220_38 rfl rfl)) ck_ck) ck_ck) rfl) <| Eq.trans ck_a <| ck_cg fun _ => co_and) <| ck_cg fun _ => Eq.trans (ite_cg ((s_il_4 p_220_41).trans <| (s_goto p_220_43 rfl).trans <| rfl) ((s_il_3 p_220_46).trans <| rfl)) (phi1 (fun z0 => Z e (d + 2) 220 47 [.ref 246, .int (iI x1), .int (iI x2), .int (iI x3), .int (iI x4)] [.int (iI z0)] m))) <| ck_cg fun _ => (s_is_3 cat_i p_220_47).trans <| (s_inc_4 cat_i p_220_48).trans <| (s_goto p_220_51 rfl).trans <| rfl) ((s_il_3 p_220_54).trans <| (s_reti p_220_55 (zM_of zq_220)))
-- M.ruled
theorem p_221_0 : zP1 221 0 = some (.iload_n 2, 0, 0, 0) := zp_l zq_221 rfl
theorem p_221_1 : zP1 221 1 = some (.ifCond .ne 7, 0, 0, 0) := zp_l zq_221 rfl
theorem p_221_4 : zP1 221 4 = some (.iconst 3, 0, 0, 0) := zp_l zq_221 rfl
theorem p_221_5 : zP1 221 5 = some (.goto 14, 0, 0, 0) := zp_l zq_221 rfl
theorem p_221_8 : zP1 221 8 = some (.iload_n 2, 0, 0, 0) := zp_l zq_221 rfl
theorem p_221_9 : zP1 221 9 = some (.iconst 1, 0, 0, 0) := zp_l zq_221 rfl
theorem p_221_10 : zP1 221 10 = some (.if_icmp .ne 7, 0, 0, 0) := zp_l zq_221 rfl
theorem p_221_13 : zP1 221 13 = some (.iconst 0, 0, 0, 0) := zp_l zq_221 rfl
theorem p_221_14 : zP1 221 14 = some (.goto 5, 0, 0, 0) := zp_l zq_221 rfl
theorem p_221_17 : zP1 221 17 = some (.bipush 40, 0, 0, 0) := zp_l zq_221 rfl
theorem p_221_19 : zP1 221 19 = some (.istore_n 3, 0, 0, 0) := zp_l zq_221 rfl
theorem p_221_20 : zP1 221 20 = some (.iconst 0, 0, 0, 0) := zp_l zq_221 rfl
theorem p_221_21 : zP1 221 21 = some (.istore 4, 0, 0, 0) := zp_l zq_221 rfl
theorem p_221_23 : zP1 221 23 = some (.iload 4, 0, 0, 0) := zp_l zq_221 rfl
theorem p_221_25 : zP1 221 25 = some (.iconst 3, 0, 0, 0) := zp_l zq_221 rfl
theorem p_221_26 : zP1 221 26 = some (.if_icmp .ge 137, 0, 0, 0) := zp_l zq_221 rfl
theorem p_221_29 : zP1 221 29 = some (.aload_n 0, 0, 0, 0) := zp_l zq_221 rfl
theorem p_221_30 : zP1 221 30 = some (.iload 4, 0, 0, 0) := zp_l zq_221 rfl
theorem p_221_32 : zP1 221 32 = some (.iload_n 1, 0, 0, 0) := zp_l zq_221 rfl
theorem p_221_33 : zP1 221 33 = some (.invokevirtual 151, 220, 2, 11) := zp_r zq_221 rfl
theorem p_221_36 : zP1 221 36 = some (.istore 5, 0, 0, 0) := zp_l zq_221 rfl
theorem p_221_38 : zP1 221 38 = some (.iconst 0, 0, 0, 0) := zp_l zq_221 rfl
theorem p_221_39 : zP1 221 39 = some (.istore 6, 0, 0, 0) := zp_l zq_221 rfl
theorem p_221_41 : zP1 221 41 = some (.iload 5, 0, 0, 0) := zp_l zq_221 rfl
theorem p_221_43 : zP1 221 43 = some (.ifCond .lt 114, 0, 0, 0) := zp_l zq_221 rfl
theorem p_221_46 : zP1 221 46 = some (.iload 6, 0, 0, 0) := zp_l zq_221 rfl
theorem p_221_48 : zP1 221 48 = some (.aload_n 0, 0, 0, 0) := zp_l zq_221 rfl
theorem p_221_49 : zP1 221 49 = some (.getfield 9, 11, 0, 0) := zp_r zq_221 rfl
theorem p_221_52 : zP1 221 52 = some (.iload 5, 0, 0, 0) := zp_l zq_221 rfl
theorem p_221_54 : zP1 221 54 = some (.iconst 3, 0, 0, 0) := zp_l zq_221 rfl
theorem p_221_55 : zP1 221 55 = some (.invokestatic 144, 218, 2, 0) := zp_r zq_221 rfl
theorem p_221_58 : zP1 221 58 = some (.iaload, 0, 0, 0) := zp_l zq_221 rfl
theorem p_221_59 : zP1 221 59 = some (.if_icmp .ge 98, 0, 0, 0) := zp_l zq_221 rfl
theorem p_221_62 : zP1 221 62 = some (.aload_n 0, 0, 0, 0) := zp_l zq_221 rfl
theorem p_221_63 : zP1 221 63 = some (.getfield 9, 11, 0, 0) := zp_r zq_221 rfl
theorem p_221_66 : zP1 221 66 = some (.iload 5, 0, 0, 0) := zp_l zq_221 rfl
theorem p_221_68 : zP1 221 68 = some (.iconst 4, 0, 0, 0) := zp_l zq_221 rfl
theorem p_221_69 : zP1 221 69 = some (.iconst 4, 0, 0, 0) := zp_l zq_221 rfl
theorem p_221_70 : zP1 221 70 = some (.iload 6, 0, 0, 0) := zp_l zq_221 rfl
theorem p_221_72 : zP1 221 72 = some (.imul, 0, 0, 0) := zp_l zq_221 rfl
theorem p_221_73 : zP1 221 73 = some (.iadd, 0, 0, 0) := zp_l zq_221 rfl
theorem p_221_74 : zP1 221 74 = some (.invokestatic 144, 218, 2, 0) := zp_r zq_221 rfl
theorem p_221_77 : zP1 221 77 = some (.iaload, 0, 0, 0) := zp_l zq_221 rfl
theorem p_221_78 : zP1 221 78 = some (.istore 7, 0, 0, 0) := zp_l zq_221 rfl
theorem p_221_80 : zP1 221 80 = some (.aload_n 0, 0, 0, 0) := zp_l zq_221 rfl
theorem p_221_81 : zP1 221 81 = some (.getfield 9, 11, 0, 0) := zp_r zq_221 rfl
theorem p_221_84 : zP1 221 84 = some (.iload 5, 0, 0, 0) := zp_l zq_221 rfl
theorem p_221_86 : zP1 221 86 = some (.iconst 4, 0, 0, 0) := zp_l zq_221 rfl
theorem p_221_87 : zP1 221 87 = some (.iconst 4, 0, 0, 0) := zp_l zq_221 rfl
theorem p_221_88 : zP1 221 88 = some (.iload 6, 0, 0, 0) := zp_l zq_221 rfl
theorem p_221_90 : zP1 221 90 = some (.imul, 0, 0, 0) := zp_l zq_221 rfl
theorem p_221_91 : zP1 221 91 = some (.iadd, 0, 0, 0) := zp_l zq_221 rfl
theorem p_221_92 : zP1 221 92 = some (.iconst 1, 0, 0, 0) := zp_l zq_221 rfl
theorem p_221_93 : zP1 221 93 = some (.iadd, 0, 0, 0) := zp_l zq_221 rfl
theorem p_221_94 : zP1 221 94 = some (.invokestatic 144, 218, 2, 0) := zp_r zq_221 rfl
theorem p_221_97 : zP1 221 97 = some (.iaload, 0, 0, 0) := zp_l zq_221 rfl
theorem p_221_98 : zP1 221 98 = some (.istore 8, 0, 0, 0) := zp_l zq_221 rfl
theorem p_221_100 : zP1 221 100 = some (.iload_n 2, 0, 0, 0) := zp_l zq_221 rfl
theorem p_221_101 : zP1 221 101 = some (.ifCond .ne 8, 0, 0, 0) := zp_l zq_221 rfl
theorem p_221_104 : zP1 221 104 = some (.iload 7, 0, 0, 0) := zp_l zq_221 rfl
theorem p_221_106 : zP1 221 106 = some (.ifCond .eq 14, 0, 0, 0) := zp_l zq_221 rfl
theorem p_221_109 : zP1 221 109 = some (.iload_n 2, 0, 0, 0) := zp_l zq_221 rfl
theorem p_221_110 : zP1 221 110 = some (.iconst 2, 0, 0, 0) := zp_l zq_221 rfl
theorem p_221_111 : zP1 221 111 = some (.if_icmp .ne 14, 0, 0, 0) := zp_l zq_221 rfl
theorem p_221_114 : zP1 221 114 = some (.iload 7, 0, 0, 0) := zp_l zq_221 rfl
theorem p_221_116 : zP1 221 116 = some (.iconst 3, 0, 0, 0) := zp_l zq_221 rfl
theorem p_221_117 : zP1 221 117 = some (.if_icmp .ne 8, 0, 0, 0) := zp_l zq_221 rfl
theorem p_221_120 : zP1 221 120 = some (.iload 8, 0, 0, 0) := zp_l zq_221 rfl
theorem p_221_122 : zP1 221 122 = some (.goto 28, 0, 0, 0) := zp_l zq_221 rfl
theorem p_221_125 : zP1 221 125 = some (.iload_n 2, 0, 0, 0) := zp_l zq_221 rfl
theorem p_221_126 : zP1 221 126 = some (.iconst 1, 0, 0, 0) := zp_l zq_221 rfl
theorem p_221_127 : zP1 221 127 = some (.if_icmp .ne 22, 0, 0, 0) := zp_l zq_221 rfl
theorem p_221_130 : zP1 221 130 = some (.iload 7, 0, 0, 0) := zp_l zq_221 rfl
theorem p_221_132 : zP1 221 132 = some (.iconst 1, 0, 0, 0) := zp_l zq_221 rfl
theorem p_221_133 : zP1 221 133 = some (.if_icmp .eq 9, 0, 0, 0) := zp_l zq_221 rfl
theorem p_221_136 : zP1 221 136 = some (.iload 7, 0, 0, 0) := zp_l zq_221 rfl
theorem p_221_138 : zP1 221 138 = some (.iconst 2, 0, 0, 0) := zp_l zq_221 rfl
theorem p_221_139 : zP1 221 139 = some (.if_icmp .ne 10, 0, 0, 0) := zp_l zq_221 rfl
theorem p_221_142 : zP1 221 142 = some (.iload 7, 0, 0, 0) := zp_l zq_221 rfl
theorem p_221_144 : zP1 221 144 = some (.iconst 1, 0, 0, 0) := zp_l zq_221 rfl
theorem p_221_145 : zP1 221 145 = some (.isub, 0, 0, 0) := zp_l zq_221 rfl
theorem p_221_146 : zP1 221 146 = some (.goto 4, 0, 0, 0) := zp_l zq_221 rfl
theorem p_221_149 : zP1 221 149 = some (.iload_n 3, 0, 0, 0) := zp_l zq_221 rfl
theorem p_221_150 : zP1 221 150 = some (.istore_n 3, 0, 0, 0) := zp_l zq_221 rfl
theorem p_221_151 : zP1 221 151 = some (.iinc 6 1, 0, 0, 0) := zp_l zq_221 rfl
theorem p_221_154 : zP1 221 154 = some (.goto (-113), 0, 0, 0) := zp_l zq_221 rfl
theorem p_221_157 : zP1 221 157 = some (.iinc 4 1, 0, 0, 0) := zp_l zq_221 rfl
theorem p_221_160 : zP1 221 160 = some (.goto (-137), 0, 0, 0) := zp_l zq_221 rfl
theorem p_221_163 : zP1 221 163 = some (.iload_n 3, 0, 0, 0) := zp_l zq_221 rfl
theorem p_221_164 : zP1 221 164 = some (.ireturn, 0, 0, 0) := zp_l zq_221 rfl
theorem b_221_0 {x1 : Int} {x2 : Int} : Z e (d + 1) 221 0 [.ref 246, .int (iI x1), .int (iI x2), .retAddr 0, .retAddr 0, .retAddr 0, .retAddr 0, .retAddr 0, .retAddr 0] [] m = Z e (d + 1) 221 23 [.ref 246, .int (iI x1), .int (iI x2), .int (iI (if (wr x2) = 0 then 3 else (if (wr x2) = 1 then 0 else 40))), .int (iI 0), .retAddr 0, .retAddr 0, .retAddr 0, .retAddr 0] [] m := (s_il_2 p_221_0).trans <| Eq.trans (Eq.trans ((s_z_ne_f p_221_1 rfl rfl)) <| Eq.trans (ite_cg ((s_const p_221_4).trans <| (s_goto p_221_5 rfl).trans <| rfl) ((s_il_2 p_221_8).trans <| (s_const p_221_9).trans <| Eq.trans (Eq.trans ((s_c_ne_f p_221_10 rfl rfl wl_1)) <| Eq.trans (ite_cg ((s_const p_221_13).trans <| (s_goto p_221_14 rfl).trans <| rfl) ((s_bip p_221_17 rfl).trans <| rfl)) (phi1 (fun z0 => Z e (d + 1) 221 19 [.ref 246, .int (iI x1), .int (iI x2), .retAddr 0, .retAddr 0, .retAddr 0, .retAddr 0, .retAddr 0, .retAddr 0] [.int (iI z0)] m))) <| rfl)) (phi1 (fun z0 => Z e (d + 1) 221 19 [.ref 246, .int (iI x1), .int (iI x2), .retAddr 0, .retAddr 0, .retAddr 0, .retAddr 0, .retAddr 0, .retAddr 0] [.int (iI z0)] m))) <| (s_is_3 cat_i p_221_19).trans <| (s_const p_221_20).trans <| (s_is_4 cat_i p_221_21).trans <| rfl
theorem b_221_23 {x1 : Int} {x2 : Int} {x3 : Int} {x4 : Int} {u5 u6 u7 u8 : Value} : Z e (d + 1) 221 23 [.ref 246, .int (iI x1), .int (iI x2), .int (iI x3), .int (iI x4), u5, u6, u7, u8] [] m = (if (wr x4) < 3 then (Z e d 220 0 [.ref 246, .int (iI x4), .int (iI x1), .retAddr 0, .retAddr 0] [] m).bind (ZK e (d + 1) 221 36 [.ref 246, .int (iI x1), .int (iI x2), .int (iI x3), .int (iI x4), u5, u6, u7, u8] [] m) else ri x3 m) := (s_il_4 p_221_23).trans <| (s_const p_221_25).trans <| Eq.trans ((s_c_ge_f p_221_26 rfl rfl wl_3)) <| ite_cg ((s_al_0 p_221_29).trans <| (s_il_4 p_221_30).trans <| (s_il_1 p_221_32).trans <| (s_cv2 (Lc := [.ref 246, .int (iI x4), .int (iI x1), .retAddr 0, .retAddr 0]) p_221_33 (by decide) (by decide) (zM_of zq_220) ⟨Nat.le_of_ble_eq_true rfl, Nat.le_of_ble_eq_true rfl⟩ rfl (m_rc hs_246 ⟨rfl, by decide⟩))) ((s_il_3 p_221_163).trans <| (s_reti p_221_164 (zM_of zq_221)))
theorem b_221_41 {x1 : Int} {x2 : Int} {x3 : Int} {x4 : Int} {x5 : Int} {x6 : Int} {u7 u8 : Value} : Z e (d + 1) 221 41 [.ref 246, .int (iI x1), .int (iI x2), .int (iI x3), .int (iI x4), .int (iI x5), .int (iI x6), u7, u8] [] m = ck ((0 ≤ (wr x5)) → (0 ≤ (wr ((266 + (44 * x5)) + 3)) ∧ (wr ((266 + (44 * x5)) + 3)) < 2737)) (if (0 ≤ (wr x5)) ∧ ((wr x6) < (wr (m 247 (wr ((266 + (44 * x5)) + 3))))) then ck (0 ≤ (wr ((266 + (44 * x5)) + (4 + (4 * x6)))) ∧ (wr ((266 + (44 * x5)) + (4 + (4 * x6)))) < 2737) (ck (0 ≤ (wr ((266 + (44 * x5)) + ((4 + (4 * x6)) + 1))) ∧ (wr ((266 + (44 * x5)) + ((4 + (4 * x6)) + 1))) < 2737) (Z e (d + 1) 221 41 [.ref 246, .int (iI x1), .int (iI x2), .int (iI (if (wr x2) = 0 then (if ((wr (m 247 (wr ((266 + (44 * x5)) + (4 + (4 * x6)))))) = 0) ∨ (((wr x2) = 2) ∧ ((wr (m 247 (wr ((266 + (44 * x5)) + (4 + (4 * x6)))))) = 3)) then (m 247 (wr ((266 + (44 * x5)) + ((4 + (4 * x6)) + 1)))) else (if ((wr x2) = 1) ∧ (((wr (m 247 (wr ((266 + (44 * x5)) + (4 + (4 * x6)))))) = 1) ∨ ((wr (m 247 (wr ((266 + (44 * x5)) + (4 + (4 * x6)))))) = 2)) then ((m 247 (wr ((266 + (44 * x5)) + (4 + (4 * x6))))) - 1) else x3)) else (if ((wr x2) = 2) ∧ ((wr (m 247 (wr ((266 + (44 * x5)) + (4 + (4 * x6)))))) = 3) then (m 247 (wr ((266 + (44 * x5)) + ((4 + (4 * x6)) + 1)))) else (if ((wr x2) = 1) ∧ (((wr (m 247 (wr ((266 + (44 * x5)) + (4 + (4 * x6)))))) = 1) ∨ ((wr (m 247 (wr ((266 + (44 * x5)) + (4 + (4 * x6)))))) = 2)) then ((m 247 (wr ((266 + (44 * x5)) + (4 + (4 * x6))))) - 1) else x3)))), .int (iI x4), .int (iI x5), .int (iI (x6 + 1)), .int (iI (m 247 (wr ((266 + (44 * x5)) + (4 + (4 * x6)))))), .int (iI (m 247 (wr ((266 + (44 * x5)) + ((4 + (4 * x6)) + 1)))))] [] m)) else Z e (d + 1) 221 23 [.ref 246, .int (iI x1), .int (iI x2), .int (iI x3), .int (iI (x4 + 1)), .int (iI x5), .int (iI x6), u7, u8] [] m) := (s_il_5 p_221_41).trans <| Eq.trans (Eq.trans (s_z_lt_f p_221_43 rfl rfl) <| Eq.trans (ite_cg ((s_il_6 p_221_46).trans <| (s_al_0 p_221_48).trans <| (s_getr p_221_49 hs_246 (by decide) rfl).trans <| (s_il_5 p_221_52).trans <| (s_const p_221_54).trans <| (s_cs2 (Lc := [.int (iI x5), .int (iI 3)]) p_221_55 (by decide) (zM_of zq_218) ⟨Nat.le_of_ble_eq_true rfl, Nat.le_of_ble_eq_true rfl⟩ rfl).trans <| (bd b_218_0).trans <| ri_k.trans <| (s_ald 2737 p_221_58 hs_247 rfl (by decide)).trans <| ck_cg fun k4 => (s_c_ge_f p_221_59 rfl rfl rfl)) rfl) <| Eq.trans ck_a <| ck_cg fun _ => co_and) <| ck_cg fun _ => ite_cg ((s_al_0 p_221_62).trans <| (s_getr p_221_63 hs_246 (by decide) rfl).trans <| (s_il_5 p_221_66).trans <| (s_const p_221_68).trans <| (s_const p_221_69).trans <| (s_il_6 p_221_70).trans <| (s_imul p_221_72).trans <| (s_iadd p_221_73).trans <| (s_cs2 (Lc := [.int (iI x5), .int (iI (4 + (4 * x6)))]) p_221_74 (by decide) (zM_of zq_218) ⟨Nat.le_of_ble_eq_true rfl, Nat.le_of_ble_eq_true rfl⟩ rfl).trans <| (bd b_218_0).trans <| ri_k.trans <| (s_ald 2737 p_221_77 hs_247 rfl (by decide)).trans <| ck_cg fun k5 => (s_is_7 cat_i p_221_78).trans <| (s_al_0 p_221_80).trans <| (s_getr p_221_81 hs_246 (by decide) rfl).trans <| (s_il_5 p_221_84).trans <| (s_const p_221_86).trans <| (s_const p_221_87).trans <| (s_il_6 p_221_88).trans <| (s_imul p_221_90).trans <| (s_iadd p_221_91).trans <| (s_const p_221_92).trans <| (s_iadd p_221_93).trans <| (s_cs2 (Lc := [.int (iI x5), .int (iI ((4 + (4 * x6)) + 1))]) p_221_94 (by decide) (zM_of zq_218) ⟨Nat.le_of_ble_eq_true rfl, Nat.le_of_ble_eq_true rfl⟩ rfl).trans <| (bd b_218_0).trans <| ri_k.trans <| (s_ald 2737 p_221_97 hs_247 rfl (by decide)).trans <| ck_cg fun k6 => (s_is_8 cat_i p_221_98).trans <| (s_il_2 p_221_100).trans <| Eq.trans (Eq.trans ((s_z_ne_f p_221_101 rfl rfl)) <| Eq.trans (ite_cg ((s_il_7 p_221_104).trans <| Eq.trans (Eq.trans (Eq.trans (s_z_eq_t p_221_106 rfl rfl) <| Eq.trans (ite_cg rfl ((s_il_2 p_221_109).trans <| (s_const p_221_110).trans <| Eq.trans (s_c_ne_f p_221_111 rfl rfl wl_2) <| Eq.trans (ite_cg ((s_il_7 p_221_114).trans <| (s_const p_221_116).trans <| (s_c_ne_f p_221_117 rfl rfl wl_3)) rfl) co_and)) co_or) <| Eq.trans (ite_cg ((s_il_8 p_221_120).trans <| (s_goto p_221_122 rfl).trans <| rfl) ((s_il_2 p_221_125).trans <| (s_const p_221_126).trans <| Eq.trans (Eq.trans (Eq.trans (s_c_ne_f p_221_127 rfl rfl wl_1) <| Eq.trans (ite_cg ((s_il_7 p_221_130).trans <| (s_const p_221_132).trans <| Eq.trans (s_c_eq_t p_221_133 rfl rfl wl_1) <| Eq.trans (ite_cg rfl ((s_il_7 p_221_136).trans <| (s_const p_221_138).trans <| (s_c_ne_f p_221_139 rfl rfl wl_2))) co_or) rfl) co_and) <| Eq.trans (ite_cg ((s_il_7 p_221_142).trans <| (s_const p_221_144).trans <| (s_isub p_221_145).trans <| (s_goto p_221_146 rfl).trans <| rfl) ((s_il_3 p_221_149).trans <| rfl)) (phi1 (fun z0 => Z e (d + 1) 221 150 [.ref 246, .int (iI x1), .int (iI x2), .int (iI x3), .int (iI x4), .int (iI x5), .int (iI x6), .int (iI (m 247 (wr ((266 + (44 * x5)) + (4 + (4 * x6)))))), .int (iI (m 247 (wr ((266 + (44 * x5)) + ((4 + (4 * x6)) + 1)))))] [.int (iI z0)] m))) <| rfl)) (phi1 (fun z0 => Z e (d + 1) 221 150 [.ref 246, .int (iI x1), .int (iI x2), .int (iI x3), .int (iI x4), .int (iI x5), .int (iI x6), .int (iI (m 247 (wr ((266 + (44 * x5)) + (4 + (4 * x6)))))), .int (iI (m 247 (wr ((266 + (44 * x5)) + ((4 + (4 * x6)) + 1)))))] [.int (iI z0)] m))) <| rfl) ((s_il_2 p_221_109).trans <| (s_const p_221_110).trans <| Eq.trans (Eq.trans (Eq.trans (s_c_ne_f p_221_111 rfl rfl wl_2) <| Eq.trans (ite_cg ((s_il_7 p_221_114).trans <| (s_const p_221_116).trans <| (s_c_ne_f p_221_117 rfl rfl wl_3)) rfl) co_and) <| Eq.trans (ite_cg ((s_il_8 p_221_120).trans <| (s_goto p_221_122 rfl).trans <| rfl) ((s_il_2 p_221_125).trans <| (s_const p_221_126).trans <| Eq.trans (Eq.trans (Eq.trans (s_c_ne_f p_221_127 rfl rfl wl_1) <| Eq.trans (ite_cg ((s_il_7 p_221_130).trans <| (s_const p_221_132).trans <| Eq.trans (s_c_eq_t p_221_133 rfl rfl wl_1) <| Eq.trans (ite_cg rfl ((s_il_7 p_221_136).trans <| (s_const p_221_138).trans <| (s_c_ne_f p_221_139 rfl rfl wl_2))) co_or) rfl) co_and) <| Eq.trans (ite_cg ((s_il_7 p_221_142).trans <| (s_const p_221_144).trans <| (s_isub p_221_145).trans <| (s_goto p_221_146 rfl).trans <| rfl) ((s_il_3 p_221_149).trans <| rfl)) (phi1 (fun z0 => Z e (d + 1) 221 150 [.ref 246, .int (iI x1), .int (iI x2), .int (iI x3), .int (iI x4), .int (iI x5), .int (iI x6), .int (iI (m 247 (wr ((266 + (44 * x5)) + (4 + (4 * x6)))))), .int (iI (m 247 (wr ((266 + (44 * x5)) + ((4 + (4 * x6)) + 1)))))] [.int (iI z0)] m))) <| rfl)) (phi1 (fun z0 => Z e (d + 1) 221 150 [.ref 246, .int (iI x1), .int (iI x2), .int (iI x3), .int (iI x4), .int (iI x5), .int (iI x6), .int (iI (m 247 (wr ((266 + (44 * x5)) + (4 + (4 * x6)))))), .int (iI (m 247 (wr ((266 + (44 * x5)) + ((4 + (4 * x6)) + 1)))))] [.int (iI z0)] m))) <| rfl)) (phi1 (fun z0 => Z e (d + 1) 221 150 [.ref 246, .int (iI x1), .int (iI x2), .int (iI x3), .int (iI x4), .int (iI x5), .int (iI x6), .int (iI (m 247 (wr ((266 + (44 * x5)) + (4 + (4 * x6)))))), .int (iI (m 247 (wr ((266 + (44 * x5)) + ((4 + (4 * x6)) + 1)))))] [.int (iI z0)] m))) <| (s_is_3 cat_i p_221_150).trans <| (s_inc_6 cat_i p_221_151).trans <| (s_goto p_221_154 rfl).trans <| rfl) ((s_inc_4 cat_i p_221_157).trans <| (s_goto p_221_160 rfl).trans <| rfl)
theorem b_221_36 {x1 : Int} {x2 : Int} {x3 : Int} {x4 : Int} {xs0 : Int} {u5 u6 u7 u8 : Value} : Z e (d + 1) 221 36 [.ref 246, .int (iI x1), .int (iI x2), .int (iI x3), .int (iI x4), u5, u6, u7, u8] [.int (iI xs0)] m = Z e (d + 1) 221 41 [.ref 246, .int (iI x1), .int (iI x2), .int (iI x3), .int (iI x4), .int (iI xs0), .int (iI 0), u7, u8] [] m := (s_is_5 cat_i p_221_36).trans <| (s_const p_221_38).trans <| (s_is_6 cat_i p_221_39).trans <| rfl
-- M.body
theorem p_315_0 : zP1 315 0 = some (.aload_n 0, 0, 0, 0) := zp_l zq_315 rfl
theorem p_315_1 : zP1 315 1 = some (.getfield 9, 11, 0, 0) := zp_r zq_315 rfl
theorem p_315_4 : zP1 315 4 = some (.aload_n 0, 0, 0, 0) := zp_l zq_315 rfl
theorem p_315_5 : zP1 315 5 = some (.getfield 395, 11, 36, 0) := zp_r zq_315 rfl
theorem p_315_8 : zP1 315 8 = some (.iconst 0, 0, 0, 0) := zp_l zq_315 rfl
theorem p_315_9 : zP1 315 9 = some (.invokestatic 129, 204, 2, 0) := zp_r zq_315 rfl
theorem p_315_12 : zP1 315 12 = some (.iaload, 0, 0, 0) := zp_l zq_315 rfl
theorem p_315_13 : zP1 315 13 = some (.istore_n 3, 0, 0, 0) := zp_l zq_315 rfl
theorem p_315_14 : zP1 315 14 = some (.aload_n 0, 0, 0, 0) := zp_l zq_315 rfl
theorem p_315_15 : zP1 315 15 = some (.getfield 9, 11, 0, 0) := zp_r zq_315 rfl
theorem p_315_18 : zP1 315 18 = some (.aload_n 0, 0, 0, 0) := zp_l zq_315 rfl
theorem p_315_19 : zP1 315 19 = some (.getfield 395, 11, 36, 0) := zp_r zq_315 rfl
theorem p_315_22 : zP1 315 22 = some (.iconst 1, 0, 0, 0) := zp_l zq_315 rfl
theorem p_315_23 : zP1 315 23 = some (.invokestatic 129, 204, 2, 0) := zp_r zq_315 rfl
theorem p_315_26 : zP1 315 26 = some (.iaload, 0, 0, 0) := zp_l zq_315 rfl
theorem p_315_27 : zP1 315 27 = some (.istore 4, 0, 0, 0) := zp_l zq_315 rfl
theorem p_315_29 : zP1 315 29 = some (.iload_n 1, 0, 0, 0) := zp_l zq_315 rfl
theorem p_315_30 : zP1 315 30 = some (.lookupswitch 394 #[(0, 122), (1, 132), (2, 147), (3, 165), (10, 210), (12, 227), (21, 243), (23, 259), (30, 278), (31, 294), (42, 319), (51, 336), (53, 352), (62, 368)], 0, 0, 0) := zp_l zq_315 rfl
theorem p_315_152 : zP1 315 152 = some (.aload_n 0, 0, 0, 0) := zp_l zq_315 rfl
theorem p_315_153 : zP1 315 153 = some (.bipush 10, 0, 0, 0) := zp_l zq_315 rfl
theorem p_315_155 : zP1 315 155 = some (.invokevirtual 407, 310, 1, 11) := zp_r zq_315 rfl
theorem p_315_158 : zP1 315 158 = some (.iload_n 2, 0, 0, 0) := zp_l zq_315 rfl
theorem p_315_159 : zP1 315 159 = some (.iload_n 3, 0, 0, 0) := zp_l zq_315 rfl
theorem p_315_160 : zP1 315 160 = some (.iadd, 0, 0, 0) := zp_l zq_315 rfl
theorem p_315_161 : zP1 315 161 = some (.ireturn, 0, 0, 0) := zp_l zq_315 rfl
theorem p_315_162 : zP1 315 162 = some (.aload_n 0, 0, 0, 0) := zp_l zq_315 rfl
theorem p_315_163 : zP1 315 163 = some (.bipush 11, 0, 0, 0) := zp_l zq_315 rfl
theorem p_315_165 : zP1 315 165 = some (.invokevirtual 407, 310, 1, 11) := zp_r zq_315 rfl
theorem p_315_168 : zP1 315 168 = some (.aload_n 0, 0, 0, 0) := zp_l zq_315 rfl
theorem p_315_169 : zP1 315 169 = some (.iconst 0, 0, 0, 0) := zp_l zq_315 rfl
theorem p_315_170 : zP1 315 170 = some (.iload_n 2, 0, 0, 0) := zp_l zq_315 rfl
theorem p_315_171 : zP1 315 171 = some (.invokevirtual 410, 313, 2, 11) := zp_r zq_315 rfl
theorem p_315_174 : zP1 315 174 = some (.iconst 2, 0, 0, 0) := zp_l zq_315 rfl
theorem p_315_175 : zP1 315 175 = some (.imul, 0, 0, 0) := zp_l zq_315 rfl
theorem p_315_176 : zP1 315 176 = some (.ireturn, 0, 0, 0) := zp_l zq_315 rfl
theorem p_315_177 : zP1 315 177 = some (.aload_n 0, 0, 0, 0) := zp_l zq_315 rfl
theorem p_315_178 : zP1 315 178 = some (.bipush 12, 0, 0, 0) := zp_l zq_315 rfl
theorem p_315_180 : zP1 315 180 = some (.invokevirtual 407, 310, 1, 11) := zp_r zq_315 rfl
theorem p_315_183 : zP1 315 183 = some (.aload_n 0, 0, 0, 0) := zp_l zq_315 rfl
theorem p_315_184 : zP1 315 184 = some (.iconst 1, 0, 0, 0) := zp_l zq_315 rfl
theorem p_315_185 : zP1 315 185 = some (.iload_n 2, 0, 0, 0) := zp_l zq_315 rfl
theorem p_315_186 : zP1 315 186 = some (.invokevirtual 410, 313, 2, 11) := zp_r zq_315 rfl
theorem p_315_189 : zP1 315 189 = some (.aload_n 0, 0, 0, 0) := zp_l zq_315 rfl
theorem p_315_190 : zP1 315 190 = some (.getfield 395, 11, 36, 0) := zp_r zq_315 rfl
theorem p_315_193 : zP1 315 193 = some (.isub, 0, 0, 0) := zp_l zq_315 rfl
theorem p_315_194 : zP1 315 194 = some (.ireturn, 0, 0, 0) := zp_l zq_315 rfl
theorem p_315_195 : zP1 315 195 = some (.aload_n 0, 0, 0, 0) := zp_l zq_315 rfl
theorem p_315_196 : zP1 315 196 = some (.bipush 13, 0, 0, 0) := zp_l zq_315 rfl
theorem p_315_198 : zP1 315 198 = some (.invokevirtual 407, 310, 1, 11) := zp_r zq_315 rfl
theorem p_315_201 : zP1 315 201 = some (.aload_n 0, 0, 0, 0) := zp_l zq_315 rfl
theorem p_315_202 : zP1 315 202 = some (.aload_n 0, 0, 0, 0) := zp_l zq_315 rfl
theorem p_315_203 : zP1 315 203 = some (.getfield 413, 11, 37, 0) := zp_r zq_315 rfl
theorem p_315_206 : zP1 315 206 = some (.ifCond .ne 9, 0, 0, 0) := zp_l zq_315 rfl
theorem p_315_209 : zP1 315 209 = some (.iload_n 3, 0, 0, 0) := zp_l zq_315 rfl
theorem p_315_210 : zP1 315 210 = some (.bipush 11, 0, 0, 0) := zp_l zq_315 rfl
theorem p_315_212 : zP1 315 212 = some (.if_icmp .ne 7, 0, 0, 0) := zp_l zq_315 rfl
theorem p_315_215 : zP1 315 215 = some (.iconst 1, 0, 0, 0) := zp_l zq_315 rfl
theorem p_315_216 : zP1 315 216 = some (.goto 4, 0, 0, 0) := zp_l zq_315 rfl
theorem p_315_219 : zP1 315 219 = some (.iconst 0, 0, 0, 0) := zp_l zq_315 rfl
theorem p_315_220 : zP1 315 220 = some (.putfield 413, 11, 37, 1) := zp_r zq_315 rfl
theorem p_315_223 : zP1 315 223 = some (.iload_n 3, 0, 0, 0) := zp_l zq_315 rfl
theorem p_315_224 : zP1 315 224 = some (.bipush 11, 0, 0, 0) := zp_l zq_315 rfl
theorem p_315_226 : zP1 315 226 = some (.if_icmp .ne 7, 0, 0, 0) := zp_l zq_315 rfl
theorem p_315_229 : zP1 315 229 = some (.iconst 0, 0, 0, 0) := zp_l zq_315 rfl
theorem p_315_230 : zP1 315 230 = some (.goto 9, 0, 0, 0) := zp_l zq_315 rfl
theorem p_315_233 : zP1 315 233 = some (.iload_n 2, 0, 0, 0) := zp_l zq_315 rfl
theorem p_315_234 : zP1 315 234 = some (.iload_n 3, 0, 0, 0) := zp_l zq_315 rfl
theorem p_315_235 : zP1 315 235 = some (.bipush 11, 0, 0, 0) := zp_l zq_315 rfl
theorem p_315_237 : zP1 315 237 = some (.isub, 0, 0, 0) := zp_l zq_315 rfl
theorem p_315_238 : zP1 315 238 = some (.idiv, 0, 0, 0) := zp_l zq_315 rfl
theorem p_315_239 : zP1 315 239 = some (.ireturn, 0, 0, 0) := zp_l zq_315 rfl
theorem p_315_240 : zP1 315 240 = some (.aload_n 0, 0, 0, 0) := zp_l zq_315 rfl
theorem p_315_241 : zP1 315 241 = some (.bipush 20, 0, 0, 0) := zp_l zq_315 rfl
theorem p_315_243 : zP1 315 243 = some (.invokevirtual 407, 310, 1, 11) := zp_r zq_315 rfl
theorem p_315_246 : zP1 315 246 = some (.aload_n 0, 0, 0, 0) := zp_l zq_315 rfl
theorem p_315_247 : zP1 315 247 = some (.iconst 1, 0, 0, 0) := zp_l zq_315 rfl
theorem p_315_248 : zP1 315 248 = some (.iconst 0, 0, 0, 0) := zp_l zq_315 rfl
theorem p_315_249 : zP1 315 249 = some (.iload_n 2, 0, 0, 0) := zp_l zq_315 rfl
theorem p_315_250 : zP1 315 250 = some (.invokevirtual 416, 314, 3, 11) := zp_r zq_315 rfl
theorem p_315_253 : zP1 315 253 = some (.iload 4, 0, 0, 0) := zp_l zq_315 rfl
theorem p_315_255 : zP1 315 255 = some (.ixor, 0, 0, 0) := zp_l zq_315 rfl
theorem p_315_256 : zP1 315 256 = some (.ireturn, 0, 0, 0) := zp_l zq_315 rfl
theorem p_315_257 : zP1 315 257 = some (.aload_n 0, 0, 0, 0) := zp_l zq_315 rfl
theorem p_315_258 : zP1 315 258 = some (.bipush 21, 0, 0, 0) := zp_l zq_315 rfl
theorem p_315_260 : zP1 315 260 = some (.invokevirtual 407, 310, 1, 11) := zp_r zq_315 rfl
theorem p_315_263 : zP1 315 263 = some (.aload_n 0, 0, 0, 0) := zp_l zq_315 rfl
theorem p_315_264 : zP1 315 264 = some (.iconst 1, 0, 0, 0) := zp_l zq_315 rfl
theorem p_315_265 : zP1 315 265 = some (.iconst 2, 0, 0, 0) := zp_l zq_315 rfl
theorem p_315_266 : zP1 315 266 = some (.iload_n 2, 0, 0, 0) := zp_l zq_315 rfl
theorem p_315_267 : zP1 315 267 = some (.invokevirtual 416, 314, 3, 11) := zp_r zq_315 rfl
theorem p_315_270 : zP1 315 270 = some (.iconst 3, 0, 0, 0) := zp_l zq_315 rfl
theorem p_315_271 : zP1 315 271 = some (.iadd, 0, 0, 0) := zp_l zq_315 rfl
theorem p_315_272 : zP1 315 272 = some (.ireturn, 0, 0, 0) := zp_l zq_315 rfl
theorem p_315_273 : zP1 315 273 = some (.aload_n 0, 0, 0, 0) := zp_l zq_315 rfl
theorem p_315_274 : zP1 315 274 = some (.bipush 30, 0, 0, 0) := zp_l zq_315 rfl
theorem p_315_276 : zP1 315 276 = some (.invokevirtual 407, 310, 1, 11) := zp_r zq_315 rfl
theorem p_315_279 : zP1 315 279 = some (.aload_n 0, 0, 0, 0) := zp_l zq_315 rfl
theorem p_315_280 : zP1 315 280 = some (.iconst 2, 0, 0, 0) := zp_l zq_315 rfl
theorem p_315_281 : zP1 315 281 = some (.iconst 1, 0, 0, 0) := zp_l zq_315 rfl
theorem p_315_282 : zP1 315 282 = some (.iload_n 2, 0, 0, 0) := zp_l zq_315 rfl
theorem p_315_283 : zP1 315 283 = some (.iconst 1, 0, 0, 0) := zp_l zq_315 rfl
theorem p_315_284 : zP1 315 284 = some (.isub, 0, 0, 0) := zp_l zq_315 rfl
theorem p_315_285 : zP1 315 285 = some (.invokevirtual 416, 314, 3, 11) := zp_r zq_315 rfl
theorem p_315_288 : zP1 315 288 = some (.ireturn, 0, 0, 0) := zp_l zq_315 rfl
theorem p_315_289 : zP1 315 289 = some (.aload_n 0, 0, 0, 0) := zp_l zq_315 rfl
theorem p_315_290 : zP1 315 290 = some (.bipush 31, 0, 0, 0) := zp_l zq_315 rfl
theorem p_315_292 : zP1 315 292 = some (.invokevirtual 407, 310, 1, 11) := zp_r zq_315 rfl
theorem p_315_295 : zP1 315 295 = some (.aload_n 0, 0, 0, 0) := zp_l zq_315 rfl
theorem p_315_296 : zP1 315 296 = some (.iconst 2, 0, 0, 0) := zp_l zq_315 rfl
theorem p_315_297 : zP1 315 297 = some (.iconst 3, 0, 0, 0) := zp_l zq_315 rfl
theorem p_315_298 : zP1 315 298 = some (.iload_n 2, 0, 0, 0) := zp_l zq_315 rfl
theorem p_315_299 : zP1 315 299 = some (.invokevirtual 416, 314, 3, 11) := zp_r zq_315 rfl
theorem p_315_302 : zP1 315 302 = some (.aload_n 0, 0, 0, 0) := zp_l zq_315 rfl
theorem p_315_303 : zP1 315 303 = some (.getfield 395, 11, 36, 0) := zp_r zq_315 rfl
theorem p_315_306 : zP1 315 306 = some (.iadd, 0, 0, 0) := zp_l zq_315 rfl
theorem p_315_307 : zP1 315 307 = some (.ireturn, 0, 0, 0) := zp_l zq_315 rfl
theorem p_315_308 : zP1 315 308 = some (.aload_n 0, 0, 0, 0) := zp_l zq_315 rfl
theorem p_315_309 : zP1 315 309 = some (.bipush 40, 0, 0, 0) := zp_l zq_315 rfl
theorem p_315_311 : zP1 315 311 = some (.invokevirtual 407, 310, 1, 11) := zp_r zq_315 rfl
theorem p_315_314 : zP1 315 314 = some (.iconst 0, 0, 0, 0) := zp_l zq_315 rfl
theorem p_315_315 : zP1 315 315 = some (.aload_n 0, 0, 0, 0) := zp_l zq_315 rfl
theorem p_315_316 : zP1 315 316 = some (.iconst 3, 0, 0, 0) := zp_l zq_315 rfl
theorem p_315_317 : zP1 315 317 = some (.iconst 0, 0, 0, 0) := zp_l zq_315 rfl
theorem p_315_318 : zP1 315 318 = some (.iload_n 2, 0, 0, 0) := zp_l zq_315 rfl
theorem p_315_319 : zP1 315 319 = some (.invokevirtual 416, 314, 3, 11) := zp_r zq_315 rfl
theorem p_315_322 : zP1 315 322 = some (.isub, 0, 0, 0) := zp_l zq_315 rfl
theorem p_315_323 : zP1 315 323 = some (.ireturn, 0, 0, 0) := zp_l zq_315 rfl
theorem p_315_324 : zP1 315 324 = some (.aload_n 0, 0, 0, 0) := zp_l zq_315 rfl
theorem p_315_325 : zP1 315 325 = some (.bipush 41, 0, 0, 0) := zp_l zq_315 rfl
theorem p_315_327 : zP1 315 327 = some (.invokevirtual 407, 310, 1, 11) := zp_r zq_315 rfl
theorem p_315_330 : zP1 315 330 = some (.aload_n 0, 0, 0, 0) := zp_l zq_315 rfl
theorem p_315_331 : zP1 315 331 = some (.iconst 3, 0, 0, 0) := zp_l zq_315 rfl
theorem p_315_332 : zP1 315 332 = some (.iconst 1, 0, 0, 0) := zp_l zq_315 rfl
theorem p_315_333 : zP1 315 333 = some (.iload_n 2, 0, 0, 0) := zp_l zq_315 rfl
theorem p_315_334 : zP1 315 334 = some (.invokevirtual 416, 314, 3, 11) := zp_r zq_315 rfl
theorem p_315_337 : zP1 315 337 = some (.istore 5, 0, 0, 0) := zp_l zq_315 rfl
theorem p_315_339 : zP1 315 339 = some (.iload 5, 0, 0, 0) := zp_l zq_315 rfl
theorem p_315_341 : zP1 315 341 = some (.aload_n 0, 0, 0, 0) := zp_l zq_315 rfl
theorem p_315_342 : zP1 315 342 = some (.iconst 0, 0, 0, 0) := zp_l zq_315 rfl
theorem p_315_343 : zP1 315 343 = some (.iconst 1, 0, 0, 0) := zp_l zq_315 rfl
theorem p_315_344 : zP1 315 344 = some (.invokevirtual 410, 313, 2, 11) := zp_r zq_315 rfl
theorem p_315_347 : zP1 315 347 = some (.iadd, 0, 0, 0) := zp_l zq_315 rfl
theorem p_315_348 : zP1 315 348 = some (.ireturn, 0, 0, 0) := zp_l zq_315 rfl
theorem p_315_349 : zP1 315 349 = some (.aload_n 0, 0, 0, 0) := zp_l zq_315 rfl
theorem p_315_350 : zP1 315 350 = some (.bipush 50, 0, 0, 0) := zp_l zq_315 rfl
theorem p_315_352 : zP1 315 352 = some (.invokevirtual 407, 310, 1, 11) := zp_r zq_315 rfl
theorem p_315_355 : zP1 315 355 = some (.aload_n 0, 0, 0, 0) := zp_l zq_315 rfl
theorem p_315_356 : zP1 315 356 = some (.iconst 4, 0, 0, 0) := zp_l zq_315 rfl
theorem p_315_357 : zP1 315 357 = some (.iconst 2, 0, 0, 0) := zp_l zq_315 rfl
theorem p_315_358 : zP1 315 358 = some (.iload_n 2, 0, 0, 0) := zp_l zq_315 rfl
theorem p_315_359 : zP1 315 359 = some (.invokevirtual 416, 314, 3, 11) := zp_r zq_315 rfl
theorem p_315_362 : zP1 315 362 = some (.iload 4, 0, 0, 0) := zp_l zq_315 rfl
theorem p_315_364 : zP1 315 364 = some (.imul, 0, 0, 0) := zp_l zq_315 rfl
theorem p_315_365 : zP1 315 365 = some (.ireturn, 0, 0, 0) := zp_l zq_315 rfl
theorem p_315_366 : zP1 315 366 = some (.aload_n 0, 0, 0, 0) := zp_l zq_315 rfl
theorem p_315_367 : zP1 315 367 = some (.bipush 60, 0, 0, 0) := zp_l zq_315 rfl
theorem p_315_369 : zP1 315 369 = some (.invokevirtual 407, 310, 1, 11) := zp_r zq_315 rfl
theorem p_315_372 : zP1 315 372 = some (.aload_n 0, 0, 0, 0) := zp_l zq_315 rfl
theorem p_315_373 : zP1 315 373 = some (.iconst 5, 0, 0, 0) := zp_l zq_315 rfl
theorem p_315_374 : zP1 315 374 = some (.iconst 1, 0, 0, 0) := zp_l zq_315 rfl
theorem p_315_375 : zP1 315 375 = some (.iload_n 2, 0, 0, 0) := zp_l zq_315 rfl
theorem p_315_376 : zP1 315 376 = some (.invokevirtual 416, 314, 3, 11) := zp_r zq_315 rfl
theorem p_315_379 : zP1 315 379 = some (.iconst 5, 0, 0, 0) := zp_l zq_315 rfl
theorem p_315_380 : zP1 315 380 = some (.ixor, 0, 0, 0) := zp_l zq_315 rfl
theorem p_315_381 : zP1 315 381 = some (.ireturn, 0, 0, 0) := zp_l zq_315 rfl
theorem p_315_382 : zP1 315 382 = some (.aload_n 0, 0, 0, 0) := zp_l zq_315 rfl
theorem p_315_383 : zP1 315 383 = some (.bipush 61, 0, 0, 0) := zp_l zq_315 rfl
theorem p_315_385 : zP1 315 385 = some (.invokevirtual 407, 310, 1, 11) := zp_r zq_315 rfl
theorem p_315_388 : zP1 315 388 = some (.aload_n 0, 0, 0, 0) := zp_l zq_315 rfl
theorem p_315_389 : zP1 315 389 = some (.iconst 5, 0, 0, 0) := zp_l zq_315 rfl
theorem p_315_390 : zP1 315 390 = some (.iconst 3, 0, 0, 0) := zp_l zq_315 rfl
theorem p_315_391 : zP1 315 391 = some (.iload_n 2, 0, 0, 0) := zp_l zq_315 rfl
theorem p_315_392 : zP1 315 392 = some (.iconst 2, 0, 0, 0) := zp_l zq_315 rfl
theorem p_315_393 : zP1 315 393 = some (.iadd, 0, 0, 0) := zp_l zq_315 rfl
theorem p_315_394 : zP1 315 394 = some (.invokevirtual 416, 314, 3, 11) := zp_r zq_315 rfl
theorem p_315_397 : zP1 315 397 = some (.ireturn, 0, 0, 0) := zp_l zq_315 rfl
theorem p_315_398 : zP1 315 398 = some (.aload_n 0, 0, 0, 0) := zp_l zq_315 rfl
theorem p_315_399 : zP1 315 399 = some (.bipush 70, 0, 0, 0) := zp_l zq_315 rfl
theorem p_315_401 : zP1 315 401 = some (.invokevirtual 407, 310, 1, 11) := zp_r zq_315 rfl
theorem p_315_404 : zP1 315 404 = some (.aload_n 0, 0, 0, 0) := zp_l zq_315 rfl
theorem p_315_405 : zP1 315 405 = some (.bipush 6, 0, 0, 0) := zp_l zq_315 rfl
theorem p_315_407 : zP1 315 407 = some (.iconst 2, 0, 0, 0) := zp_l zq_315 rfl
theorem p_315_408 : zP1 315 408 = some (.iload_n 2, 0, 0, 0) := zp_l zq_315 rfl
theorem p_315_409 : zP1 315 409 = some (.invokevirtual 416, 314, 3, 11) := zp_r zq_315 rfl
theorem p_315_412 : zP1 315 412 = some (.istore 6, 0, 0, 0) := zp_l zq_315 rfl
theorem p_315_414 : zP1 315 414 = some (.iload 6, 0, 0, 0) := zp_l zq_315 rfl
theorem p_315_416 : zP1 315 416 = some (.aload_n 0, 0, 0, 0) := zp_l zq_315 rfl
theorem p_315_417 : zP1 315 417 = some (.iconst 1, 0, 0, 0) := zp_l zq_315 rfl
theorem p_315_418 : zP1 315 418 = some (.iconst 0, 0, 0, 0) := zp_l zq_315 rfl
theorem p_315_419 : zP1 315 419 = some (.invokevirtual 410, 313, 2, 11) := zp_r zq_315 rfl
theorem p_315_422 : zP1 315 422 = some (.isub, 0, 0, 0) := zp_l zq_315 rfl
theorem p_315_423 : zP1 315 423 = some (.ireturn, 0, 0, 0) := zp_l zq_315 rfl
theorem p_315_424 : zP1 315 424 = some (.aload_n 0, 0, 0, 0) := zp_l zq_315 rfl
theorem p_315_425 : zP1 315 425 = some (.bipush 71, 0, 0, 0) := zp_l zq_315 rfl
theorem p_315_427 : zP1 315 427 = some (.invokevirtual 407, 310, 1, 11) := zp_r zq_315 rfl
theorem p_315_430 : zP1 315 430 = some (.aload_n 0, 0, 0, 0) := zp_l zq_315 rfl
theorem p_315_431 : zP1 315 431 = some (.bipush 6, 0, 0, 0) := zp_l zq_315 rfl
theorem p_315_433 : zP1 315 433 = some (.iconst 1, 0, 0, 0) := zp_l zq_315 rfl
theorem p_315_434 : zP1 315 434 = some (.iload_n 2, 0, 0, 0) := zp_l zq_315 rfl
theorem p_315_435 : zP1 315 435 = some (.invokevirtual 416, 314, 3, 11) := zp_r zq_315 rfl
theorem p_315_438 : zP1 315 438 = some (.aload_n 0, 0, 0, 0) := zp_l zq_315 rfl
theorem p_315_439 : zP1 315 439 = some (.getfield 395, 11, 36, 0) := zp_r zq_315 rfl
theorem p_315_442 : zP1 315 442 = some (.iadd, 0, 0, 0) := zp_l zq_315 rfl
theorem p_315_443 : zP1 315 443 = some (.ireturn, 0, 0, 0) := zp_l zq_315 rfl
theorem b_315_0 {x1 : Int} {x2 : Int} : Z e (d + 1) 315 0 [.ref 246, .int (iI x1), .int (iI x2), .retAddr 0, .retAddr 0, .retAddr 0, .retAddr 0] [] m = ck (0 ≤ (wr ((110 + (9 * (m 246 36))) + 0)) ∧ (wr ((110 + (9 * (m 246 36))) + 0)) < 2737) (ck (0 ≤ (wr ((110 + (9 * (m 246 36))) + 1)) ∧ (wr ((110 + (9 * (m 246 36))) + 1)) < 2737) ((if (wr x1) = 0 then (Z e d 310 0 [.ref 246, .int (iI 10)] [] m).bind (ZK e (d + 1) 315 158 [.ref 246, .int (iI x1), .int (iI x2), .int (iI (m 247 (wr ((110 + (9 * (m 246 36))) + 0)))), .int (iI (m 247 (wr ((110 + (9 * (m 246 36))) + 1)))), .retAddr 0, .retAddr 0] [] m) else (if (wr x1) = 1 then (Z e d 310 0 [.ref 246, .int (iI 11)] [] m).bind (ZK e (d + 1) 315 168 [.ref 246, .int (iI x1), .int (iI x2), .int (iI (m 247 (wr ((110 + (9 * (m 246 36))) + 0)))), .int (iI (m 247 (wr ((110 + (9 * (m 246 36))) + 1)))), .retAddr 0, .retAddr 0] [] m) else (if (wr x1) = 2 then (Z e d 310 0 [.ref 246, .int (iI 12)] [] m).bind (ZK e (d + 1) 315 183 [.ref 246, .int (iI x1), .int (iI x2), .int (iI (m 247 (wr ((110 + (9 * (m 246 36))) + 0)))), .int (iI (m 247 (wr ((110 + (9 * (m 246 36))) + 1)))), .retAddr 0, .retAddr 0] [] m) else (if (wr x1) = 3 then (Z e d 310 0 [.ref 246, .int (iI 13)] [] m).bind (ZK e (d + 1) 315 201 [.ref 246, .int (iI x1), .int (iI x2), .int (iI (m 247 (wr ((110 + (9 * (m 246 36))) + 0)))), .int (iI (m 247 (wr ((110 + (9 * (m 246 36))) + 1)))), .retAddr 0, .retAddr 0] [] m) else (if (wr x1) = 10 then (Z e d 310 0 [.ref 246, .int (iI 20)] [] m).bind (ZK e (d + 1) 315 246 [.ref 246, .int (iI x1), .int (iI x2), .int (iI (m 247 (wr ((110 + (9 * (m 246 36))) + 0)))), .int (iI (m 247 (wr ((110 + (9 * (m 246 36))) + 1)))), .retAddr 0, .retAddr 0] [] m) else (if (wr x1) = 12 then (Z e d 310 0 [.ref 246, .int (iI 21)] [] m).bind (ZK e (d + 1) 315 263 [.ref 246, .int (iI x1), .int (iI x2), .int (iI (m 247 (wr ((110 + (9 * (m 246 36))) + 0)))), .int (iI (m 247 (wr ((110 + (9 * (m 246 36))) + 1)))), .retAddr 0, .retAddr 0] [] m) else (if (wr x1) = 21 then (Z e d 310 0 [.ref 246, .int (iI 30)] [] m).bind (ZK e (d + 1) 315 279 [.ref 246, .int (iI x1), .int (iI x2), .int (iI (m 247 (wr ((110 + (9 * (m 246 36))) + 0)))), .int (iI (m 247 (wr ((110 + (9 * (m 246 36))) + 1)))), .retAddr 0, .retAddr 0] [] m) else (if (wr x1) = 23 then (Z e d 310 0 [.ref 246, .int (iI 31)] [] m).bind (ZK e (d + 1) 315 295 [.ref 246, .int (iI x1), .int (iI x2), .int (iI (m 247 (wr ((110 + (9 * (m 246 36))) + 0)))), .int (iI (m 247 (wr ((110 + (9 * (m 246 36))) + 1)))), .retAddr 0, .retAddr 0] [] m) else (if (wr x1) = 30 then (Z e d 310 0 [.ref 246, .int (iI 40)] [] m).bind (ZK e (d + 1) 315 314 [.ref 246, .int (iI x1), .int (iI x2), .int (iI (m 247 (wr ((110 + (9 * (m 246 36))) + 0)))), .int (iI (m 247 (wr ((110 + (9 * (m 246 36))) + 1)))), .retAddr 0, .retAddr 0] [] m) else (if (wr x1) = 31 then (Z e d 310 0 [.ref 246, .int (iI 41)] [] m).bind (ZK e (d + 1) 315 330 [.ref 246, .int (iI x1), .int (iI x2), .int (iI (m 247 (wr ((110 + (9 * (m 246 36))) + 0)))), .int (iI (m 247 (wr ((110 + (9 * (m 246 36))) + 1)))), .retAddr 0, .retAddr 0] [] m) else (if (wr x1) = 42 then (Z e d 310 0 [.ref 246, .int (iI 50)] [] m).bind (ZK e (d + 1) 315 355 [.ref 246, .int (iI x1), .int (iI x2), .int (iI (m 247 (wr ((110 + (9 * (m 246 36))) + 0)))), .int (iI (m 247 (wr ((110 + (9 * (m 246 36))) + 1)))), .retAddr 0, .retAddr 0] [] m) else (if (wr x1) = 51 then (Z e d 310 0 [.ref 246, .int (iI 60)] [] m).bind (ZK e (d + 1) 315 372 [.ref 246, .int (iI x1), .int (iI x2), .int (iI (m 247 (wr ((110 + (9 * (m 246 36))) + 0)))), .int (iI (m 247 (wr ((110 + (9 * (m 246 36))) + 1)))), .retAddr 0, .retAddr 0] [] m) else (if (wr x1) = 53 then (Z e d 310 0 [.ref 246, .int (iI 61)] [] m).bind (ZK e (d + 1) 315 388 [.ref 246, .int (iI x1), .int (iI x2), .int (iI (m 247 (wr ((110 + (9 * (m 246 36))) + 0)))), .int (iI (m 247 (wr ((110 + (9 * (m 246 36))) + 1)))), .retAddr 0, .retAddr 0] [] m) else (if (wr x1) = 62 then (Z e d 310 0 [.ref 246, .int (iI 70)] [] m).bind (ZK e (d + 1) 315 404 [.ref 246, .int (iI x1), .int (iI x2), .int (iI (m 247 (wr ((110 + (9 * (m 246 36))) + 0)))), .int (iI (m 247 (wr ((110 + (9 * (m 246 36))) + 1)))), .retAddr 0, .retAddr 0] [] m) else (Z e d 310 0 [.ref 246, .int (iI 71)] [] m).bind (ZK e (d + 1) 315 430 [.ref 246, .int (iI x1), .int (iI x2), .int (iI (m 247 (wr ((110 + (9 * (m 246 36))) + 0)))), .int (iI (m 247 (wr ((110 + (9 * (m 246 36))) + 1)))), .retAddr 0, .retAddr 0] [] m))))))))))))))))) := (s_al_0 p_315_0).trans <| (s_getr p_315_1 hs_246 (by decide) rfl).trans <| (s_al_0 p_315_4).trans <| (s_get p_315_5 hs_246 (by decide) rfl).trans <| (s_const p_315_8).trans <| (s_cs2 (Lc := [.int (iI (m 246 36)), .int (iI 0)]) p_315_9 (by decide) (zM_of zq_204) ⟨Nat.le_of_ble_eq_true rfl, Nat.le_of_ble_eq_true rfl⟩ rfl).trans <| (bd b_204_0).trans <| ri_k.trans <| (s_ald 2737 p_315_12 hs_247 rfl (by decide)).trans <| ck_cg fun k1 => (s_is_3 cat_i p_315_13).trans <| (s_al_0 p_315_14).trans <| (s_getr p_315_15 hs_246 (by decide) rfl).trans <| (s_al_0 p_315_18).trans <| (s_get p_315_19 hs_246 (by decide) rfl).trans <| (s_const p_315_22).trans <| (s_cs2 (Lc := [.int (iI (m 246 36)), .int (iI 1)]) p_315_23 (by decide) (zM_of zq_204) ⟨Nat.le_of_ble_eq_true rfl, Nat.le_of_ble_eq_true rfl⟩ rfl).trans <| (bd b_204_0).trans <| ri_k.trans <| (s_ald 2737 p_315_26 hs_247 rfl (by decide)).trans <| ck_cg fun k2 => (s_is_4 cat_i p_315_27).trans <| (s_il_1 p_315_29).trans <| (s_lsw (ts := [(0, 152), (1, 162), (2, 177), (3, 195), (10, 240), (12, 257), (21, 273), (23, 289), (30, 308), (31, 324), (42, 349), (51, 366), (53, 382), (62, 398)]) (td := 424) p_315_30 (by decide) (by decide) rfl rfl).trans <| ite_cg ((s_al_0 p_315_152).trans <| (s_bip p_315_153 rfl).trans <| (s_cv1 (Lc := [.ref 246, .int (iI 10)]) p_315_155 (by decide) (by decide) (zM_of zq_310) ⟨Nat.le_of_ble_eq_true rfl, Nat.le_of_ble_eq_true rfl⟩ rfl (m_rc hs_246 ⟨rfl, by decide⟩))) (ite_cg ((s_al_0 p_315_162).trans <| (s_bip p_315_163 rfl).trans <| (s_cv1 (Lc := [.ref 246, .int (iI 11)]) p_315_165 (by decide) (by decide) (zM_of zq_310) ⟨Nat.le_of_ble_eq_true rfl, Nat.le_of_ble_eq_true rfl⟩ rfl (m_rc hs_246 ⟨rfl, by decide⟩))) (ite_cg ((s_al_0 p_315_177).trans <| (s_bip p_315_178 rfl).trans <| (s_cv1 (Lc := [.ref 246, .int (iI 12)]) p_315_180 (by decide) (by decide) (zM_of zq_310) ⟨Nat.le_of_ble_eq_true rfl, Nat.le_of_ble_eq_true rfl⟩ rfl (m_rc hs_246 ⟨rfl, by decide⟩))) (ite_cg ((s_al_0 p_315_195).trans <| (s_bip p_315_196 rfl).trans <| (s_cv1 (Lc := [.ref 246, .int (iI 13)]) p_315_198 (by decide) (by decide) (zM_of zq_310) ⟨Nat.le_of_ble_eq_true rfl, Nat.le_of_ble_eq_true rfl⟩ rfl (m_rc hs_246 ⟨rfl, by decide⟩))) (ite_cg ((s_al_0 p_315_240).trans <| (s_bip p_315_241 rfl).trans <| (s_cv1 (Lc := [.ref 246, .int (iI 20)]) p_315_243 (by decide) (by decide) (zM_of zq_310) ⟨Nat.le_of_ble_eq_true rfl, Nat.le_of_ble_eq_true rfl⟩ rfl (m_rc hs_246 ⟨rfl, by decide⟩))) (ite_cg ((s_al_0 p_315_257).trans <| (s_bip p_315_258 rfl).trans <| (s_cv1 (Lc := [.ref 246, .int (iI 21)]) p_315_260 (by decide) (by decide) (zM_of zq_310) ⟨Nat.le_of_ble_eq_true rfl, Nat.le_of_ble_eq_true rfl⟩ rfl (m_rc hs_246 ⟨rfl, by decide⟩))) (ite_cg ((s_al_0 p_315_273).trans <| (s_bip p_315_274 rfl).trans <| (s_cv1 (Lc := [.ref 246, .int (iI 30)]) p_315_276 (by decide) (by decide) (zM_of zq_310) ⟨Nat.le_of_ble_eq_true rfl, Nat.le_of_ble_eq_true rfl⟩ rfl (m_rc hs_246 ⟨rfl, by decide⟩))) (ite_cg ((s_al_0 p_315_289).trans <| (s_bip p_315_290 rfl).trans <| (s_cv1 (Lc := [.ref 246, .int (iI 31)]) p_315_292 (by decide) (by decide) (zM_of zq_310) ⟨Nat.le_of_ble_eq_true rfl, Nat.le_of_ble_eq_true rfl⟩ rfl (m_rc hs_246 ⟨rfl, by decide⟩))) (ite_cg ((s_al_0 p_315_308).trans <| (s_bip p_315_309 rfl).trans <| (s_cv1 (Lc := [.ref 246, .int (iI 40)]) p_315_311 (by decide) (by decide) (zM_of zq_310) ⟨Nat.le_of_ble_eq_true rfl, Nat.le_of_ble_eq_true rfl⟩ rfl (m_rc hs_246 ⟨rfl, by decide⟩))) (ite_cg ((s_al_0 p_315_324).trans <| (s_bip p_315_325 rfl).trans <| (s_cv1 (Lc := [.ref 246, .int (iI 41)]) p_315_327 (by decide) (by decide) (zM_of zq_310) ⟨Nat.le_of_ble_eq_true rfl, Nat.le_of_ble_eq_true rfl⟩ rfl (m_rc hs_246 ⟨rfl, by decide⟩))) (ite_cg ((s_al_0 p_315_349).trans <| (s_bip p_315_350 rfl).trans <| (s_cv1 (Lc := [.ref 246, .int (iI 50)]) p_315_352 (by decide) (by decide) (zM_of zq_310) ⟨Nat.le_of_ble_eq_true rfl, Nat.le_of_ble_eq_true rfl⟩ rfl (m_rc hs_246 ⟨rfl, by decide⟩))) (ite_cg ((s_al_0 p_315_366).trans <| (s_bip p_315_367 rfl).trans <| (s_cv1 (Lc := [.ref 246, .int (iI 60)]) p_315_369 (by decide) (by decide) (zM_of zq_310) ⟨Nat.le_of_ble_eq_true rfl, Nat.le_of_ble_eq_true rfl⟩ rfl (m_rc hs_246 ⟨rfl, by decide⟩))) (ite_cg ((s_al_0 p_315_382).trans <| (s_bip p_315_383 rfl).trans <| (s_cv1 (Lc := [.ref 246, .int (iI 61)]) p_315_385 (by decide) (by decide) (zM_of zq_310) ⟨Nat.le_of_ble_eq_true rfl, Nat.le_of_ble_eq_true rfl⟩ rfl (m_rc hs_246 ⟨rfl, by decide⟩))) (ite_cg ((s_al_0 p_315_398).trans <| (s_bip p_315_399 rfl).trans <| (s_cv1 (Lc := [.ref 246, .int (iI 70)]) p_315_401 (by decide) (by decide) (zM_of zq_310) ⟨Nat.le_of_ble_eq_true rfl, Nat.le_of_ble_eq_true rfl⟩ rfl (m_rc hs_246 ⟨rfl, by decide⟩))) ((s_al_0 p_315_424).trans <| (s_bip p_315_425 rfl).trans <| (s_cv1 (Lc := [.ref 246, .int (iI 71)]) p_315_427 (by decide) (by decide) (zM_of zq_310) ⟨Nat.le_of_ble_eq_true rfl, Nat.le_of_ble_eq_true rfl⟩ rfl (m_rc hs_246 ⟨rfl, by decide⟩))))))))))))))))
theorem b_315_158 {x2 : Int} {x3 : Int} {u0 u1 u4 u5 u6 : Value} : Z e (d + 1) 315 158 [u0, u1, .int (iI x2), .int (iI x3), u4, u5, u6] [] m = ri (x2 + x3) m := (s_il_2 p_315_158).trans <| (s_il_3 p_315_159).trans <| (s_iadd p_315_160).trans <| (s_reti p_315_161 (zM_of zq_315))
theorem b_315_168 {x2 : Int} {u1 u3 u4 u5 u6 : Value} : Z e (d + 1) 315 168 [.ref 246, u1, .int (iI x2), u3, u4, u5, u6] [] m = (Z e d 313 0 [.ref 246, .int (iI 0), .int (iI x2)] [] m).bind (ZK e (d + 1) 315 174 [.ref 246, u1, .int (iI x2), u3, u4, u5, u6] [] m) := (s_al_0 p_315_168).trans <| (s_const p_315_169).trans <| (s_il_2 p_315_170).trans <| (s_cv2 (Lc := [.ref 246, .int (iI 0), .int (iI x2)]) p_315_171 (by decide) (by decide) (zM_of zq_313) ⟨Nat.le_of_ble_eq_true rfl, Nat.le_of_ble_eq_true rfl⟩ rfl (m_rc hs_246 ⟨rfl, by decide⟩))
theorem b_315_183 {x2 : Int} {u1 u3 u4 u5 u6 : Value} : Z e (d + 1) 315 183 [.ref 246, u1, .int (iI x2), u3, u4, u5, u6] [] m = (Z e d 313 0 [.ref 246, .int (iI 1), .int (iI x2)] [] m).bind (ZK e (d + 1) 315 189 [.ref 246, u1, .int (iI x2), u3, u4, u5, u6] [] m) := (s_al_0 p_315_183).trans <| (s_const p_315_184).trans <| (s_il_2 p_315_185).trans <| (s_cv2 (Lc := [.ref 246, .int (iI 1), .int (iI x2)]) p_315_186 (by decide) (by decide) (zM_of zq_313) ⟨Nat.le_of_ble_eq_true rfl, Nat.le_of_ble_eq_true rfl⟩ rfl (m_rc hs_246 ⟨rfl, by decide⟩))
theorem b_315_201 {x2 : Int} {x3 : Int} {u1 u4 u5 u6 : Value} : Z e (d + 1) 315 201 [.ref 246, u1, .int (iI x2), .int (iI x3), u4, u5, u6] [] m = ck ((¬ ((wr x3) = 11)) → (¬ ((wr (x3 - 11)) = 0))) (ri (if (wr x3) = 11 then 0 else (jdiv x2 (x3 - 11))) (um m 246 37 (if (¬ (wr (m 246 37)) = 0) ∨ ((wr x3) = 11) then 1 else 0))) := (s_al_0 p_315_201).trans <| (s_al_0 p_315_202).trans <| (s_get p_315_203 hs_246 (by decide) rfl).trans <| Eq.trans (Eq.trans (Eq.trans (s_z_ne_t p_315_206 rfl rfl) <| Eq.trans (ite_cg rfl ((s_il_3 p_315_209).trans <| (s_bip p_315_210 rfl).trans <| (s_c_ne_f p_315_212 rfl rfl wl_11))) co_or) <| Eq.trans (ite_cg ((s_const p_315_215).trans <| (s_goto p_315_216 rfl).trans <| rfl) ((s_const p_315_219).trans <| rfl)) (phi1 (fun z0 => Z e (d + 1) 315 220 [.ref 246, u1, .int (iI x2), .int (iI x3), u4, u5, u6] [.int (iI z0), .ref 246] m))) <| (s_putb p_315_220 hs_246 (by decide) rfl).trans <| (s_il_3 p_315_223).trans <| (s_bip p_315_224 rfl).trans <| Eq.trans (Eq.trans ((s_c_ne_f p_315_226 rfl rfl wl_11)) <| Eq.trans (ite_cg ((s_const p_315_229).trans <| (s_goto p_315_230 rfl).trans <| rfl) ((s_il_2 p_315_233).trans <| (s_il_3 p_315_234).trans <| (s_bip p_315_235 rfl).trans <| (s_isub p_315_237).trans <| (s_idiv p_315_238).trans <| ck_cg fun k1 => rfl)) <| Eq.trans ck_b <| ck_cg fun _ => (phi1 (fun z0 => Z e (d + 1) 315 239 [.ref 246, u1, .int (iI x2), .int (iI x3), u4, u5, u6] [.int (iI z0)] (um m 246 37 (if (¬ (wr (m 246 37)) = 0) ∨ ((wr x3) = 11) then 1 else 0))))) <| ck_cg fun _ => (s_reti p_315_239 (zM_of zq_315))
theorem b_315_246 {x2 : Int} {x4 : Int} {u1 u3 u5 u6 : Value} : Z e (d + 1) 315 246 [.ref 246, u1, .int (iI x2), u3, .int (iI x4), u5, u6] [] m = (Z e d 314 0 [.ref 246, .int (iI 1), .int (iI 0), .int (iI x2)] [] m).bind (ZK e (d + 1) 315 253 [.ref 246, u1, .int (iI x2), u3, .int (iI x4), u5, u6] [] m) := (s_al_0 p_315_246).trans <| (s_const p_315_247).trans <| (s_const p_315_248).trans <| (s_il_2 p_315_249).trans <| (s_cv3 (Lc := [.ref 246, .int (iI 1), .int (iI 0), .int (iI x2)]) p_315_250 (by decide) (by decide) (zM_of zq_314) ⟨Nat.le_of_ble_eq_true rfl, Nat.le_of_ble_eq_true rfl⟩ rfl (m_rc hs_246 ⟨rfl, by decide⟩))
theorem b_315_263 {x2 : Int} {u1 u3 u4 u5 u6 : Value} : Z e (d + 1) 315 263 [.ref 246, u1, .int (iI x2), u3, u4, u5, u6] [] m = (Z e d 314 0 [.ref 246, .int (iI 1), .int (iI 2), .int (iI x2)] [] m).bind (ZK e (d + 1) 315 270 [.ref 246, u1, .int (iI x2), u3, u4, u5, u6] [] m) := (s_al_0 p_315_263).trans <| (s_const p_315_264).trans <| (s_const p_315_265).trans <| (s_il_2 p_315_266).trans <| (s_cv3 (Lc := [.ref 246, .int (iI 1), .int (iI 2), .int (iI x2)]) p_315_267 (by decide) (by decide) (zM_of zq_314) ⟨Nat.le_of_ble_eq_true rfl, Nat.le_of_ble_eq_true rfl⟩ rfl (m_rc hs_246 ⟨rfl, by decide⟩))
theorem b_315_279 {x2 : Int} {u1 u3 u4 u5 u6 : Value} : Z e (d + 1) 315 279 [.ref 246, u1, .int (iI x2), u3, u4, u5, u6] [] m = (Z e d 314 0 [.ref 246, .int (iI 2), .int (iI 1), .int (iI (x2 - 1))] [] m).bind (ZK e (d + 1) 315 288 [.ref 246, u1, .int (iI x2), u3, u4, u5, u6] [] m) := (s_al_0 p_315_279).trans <| (s_const p_315_280).trans <| (s_const p_315_281).trans <| (s_il_2 p_315_282).trans <| (s_const p_315_283).trans <| (s_isub p_315_284).trans <| (s_cv3 (Lc := [.ref 246, .int (iI 2), .int (iI 1), .int (iI (x2 - 1))]) p_315_285 (by decide) (by decide) (zM_of zq_314) ⟨Nat.le_of_ble_eq_true rfl, Nat.le_of_ble_eq_true rfl⟩ rfl (m_rc hs_246 ⟨rfl, by decide⟩))
theorem b_315_295 {x2 : Int} {u1 u3 u4 u5 u6 : Value} : Z e (d + 1) 315 295 [.ref 246, u1, .int (iI x2), u3, u4, u5, u6] [] m = (Z e d 314 0 [.ref 246, .int (iI 2), .int (iI 3), .int (iI x2)] [] m).bind (ZK e (d + 1) 315 302 [.ref 246, u1, .int (iI x2), u3, u4, u5, u6] [] m) := (s_al_0 p_315_295).trans <| (s_const p_315_296).trans <| (s_const p_315_297).trans <| (s_il_2 p_315_298).trans <| (s_cv3 (Lc := [.ref 246, .int (iI 2), .int (iI 3), .int (iI x2)]) p_315_299 (by decide) (by decide) (zM_of zq_314) ⟨Nat.le_of_ble_eq_true rfl, Nat.le_of_ble_eq_true rfl⟩ rfl (m_rc hs_246 ⟨rfl, by decide⟩))
theorem b_315_314 {x2 : Int} {u1 u3 u4 u5 u6 : Value} : Z e (d + 1) 315 314 [.ref 246, u1, .int (iI x2), u3, u4, u5, u6] [] m = (Z e d 314 0 [.ref 246, .int (iI 3), .int (iI 0), .int (iI x2)] [] m).bind (ZK e (d + 1) 315 322 [.ref 246, u1, .int (iI x2), u3, u4, u5, u6] [.int (iI 0)] m) := (s_const p_315_314).trans <| (s_al_0 p_315_315).trans <| (s_const p_315_316).trans <| (s_const p_315_317).trans <| (s_il_2 p_315_318).trans <| (s_cv3 (Lc := [.ref 246, .int (iI 3), .int (iI 0), .int (iI x2)]) p_315_319 (by decide) (by decide) (zM_of zq_314) ⟨Nat.le_of_ble_eq_true rfl, Nat.le_of_ble_eq_true rfl⟩ rfl (m_rc hs_246 ⟨rfl, by decide⟩))
theorem b_315_330 {x2 : Int} {u1 u3 u4 u5 u6 : Value} : Z e (d + 1) 315 330 [.ref 246, u1, .int (iI x2), u3, u4, u5, u6] [] m = (Z e d 314 0 [.ref 246, .int (iI 3), .int (iI 1), .int (iI x2)] [] m).bind (ZK e (d + 1) 315 337 [.ref 246, u1, .int (iI x2), u3, u4, u5, u6] [] m) := (s_al_0 p_315_330).trans <| (s_const p_315_331).trans <| (s_const p_315_332).trans <| (s_il_2 p_315_333).trans <| (s_cv3 (Lc := [.ref 246, .int (iI 3), .int (iI 1), .int (iI x2)]) p_315_334 (by decide) (by decide) (zM_of zq_314) ⟨Nat.le_of_ble_eq_true rfl, Nat.le_of_ble_eq_true rfl⟩ rfl (m_rc hs_246 ⟨rfl, by decide⟩))
theorem b_315_355 {x2 : Int} {x4 : Int} {u1 u3 u5 u6 : Value} : Z e (d + 1) 315 355 [.ref 246, u1, .int (iI x2), u3, .int (iI x4), u5, u6] [] m = (Z e d 314 0 [.ref 246, .int (iI 4), .int (iI 2), .int (iI x2)] [] m).bind (ZK e (d + 1) 315 362 [.ref 246, u1, .int (iI x2), u3, .int (iI x4), u5, u6] [] m) := (s_al_0 p_315_355).trans <| (s_const p_315_356).trans <| (s_const p_315_357).trans <| (s_il_2 p_315_358).trans <| (s_cv3 (Lc := [.ref 246, .int (iI 4), .int (iI 2), .int (iI x2)]) p_315_359 (by decide) (by decide) (zM_of zq_314) ⟨Nat.le_of_ble_eq_true rfl, Nat.le_of_ble_eq_true rfl⟩ rfl (m_rc hs_246 ⟨rfl, by decide⟩))
theorem b_315_372 {x2 : Int} {u1 u3 u4 u5 u6 : Value} : Z e (d + 1) 315 372 [.ref 246, u1, .int (iI x2), u3, u4, u5, u6] [] m = (Z e d 314 0 [.ref 246, .int (iI 5), .int (iI 1), .int (iI x2)] [] m).bind (ZK e (d + 1) 315 379 [.ref 246, u1, .int (iI x2), u3, u4, u5, u6] [] m) := (s_al_0 p_315_372).trans <| (s_const p_315_373).trans <| (s_const p_315_374).trans <| (s_il_2 p_315_375).trans <| (s_cv3 (Lc := [.ref 246, .int (iI 5), .int (iI 1), .int (iI x2)]) p_315_376 (by decide) (by decide) (zM_of zq_314) ⟨Nat.le_of_ble_eq_true rfl, Nat.le_of_ble_eq_true rfl⟩ rfl (m_rc hs_246 ⟨rfl, by decide⟩))
theorem b_315_388 {x2 : Int} {u1 u3 u4 u5 u6 : Value} : Z e (d + 1) 315 388 [.ref 246, u1, .int (iI x2), u3, u4, u5, u6] [] m = (Z e d 314 0 [.ref 246, .int (iI 5), .int (iI 3), .int (iI (x2 + 2))] [] m).bind (ZK e (d + 1) 315 397 [.ref 246, u1, .int (iI x2), u3, u4, u5, u6] [] m) := (s_al_0 p_315_388).trans <| (s_const p_315_389).trans <| (s_const p_315_390).trans <| (s_il_2 p_315_391).trans <| (s_const p_315_392).trans <| (s_iadd p_315_393).trans <| (s_cv3 (Lc := [.ref 246, .int (iI 5), .int (iI 3), .int (iI (x2 + 2))]) p_315_394 (by decide) (by decide) (zM_of zq_314) ⟨Nat.le_of_ble_eq_true rfl, Nat.le_of_ble_eq_true rfl⟩ rfl (m_rc hs_246 ⟨rfl, by decide⟩))
theorem b_315_404 {x2 : Int} {u1 u3 u4 u5 u6 : Value} : Z e (d + 1) 315 404 [.ref 246, u1, .int (iI x2), u3, u4, u5, u6] [] m = (Z e d 314 0 [.ref 246, .int (iI 6), .int (iI 2), .int (iI x2)] [] m).bind (ZK e (d + 1) 315 412 [.ref 246, u1, .int (iI x2), u3, u4, u5, u6] [] m) := (s_al_0 p_315_404).trans <| (s_bip p_315_405 rfl).trans <| (s_const p_315_407).trans <| (s_il_2 p_315_408).trans <| (s_cv3 (Lc := [.ref 246, .int (iI 6), .int (iI 2), .int (iI x2)]) p_315_409 (by decide) (by decide) (zM_of zq_314) ⟨Nat.le_of_ble_eq_true rfl, Nat.le_of_ble_eq_true rfl⟩ rfl (m_rc hs_246 ⟨rfl, by decide⟩))
theorem b_315_430 {x2 : Int} {u1 u3 u4 u5 u6 : Value} : Z e (d + 1) 315 430 [.ref 246, u1, .int (iI x2), u3, u4, u5, u6] [] m = (Z e d 314 0 [.ref 246, .int (iI 6), .int (iI 1), .int (iI x2)] [] m).bind (ZK e (d + 1) 315 438 [.ref 246, u1, .int (iI x2), u3, u4, u5, u6] [] m) := (s_al_0 p_315_430).trans <| (s_bip p_315_431 rfl).trans <| (s_const p_315_433).trans <| (s_il_2 p_315_434).trans <| (s_cv3 (Lc := [.ref 246, .int (iI 6), .int (iI 1), .int (iI x2)]) p_315_435 (by decide) (by decide) (zM_of zq_314) ⟨Nat.le_of_ble_eq_true rfl, Nat.le_of_ble_eq_true rfl⟩ rfl (m_rc hs_246 ⟨rfl, by decide⟩))
theorem b_315_174 {xs0 : Int} {u0 u1 u2 u3 u4 u5 u6 : Value} : Z e (d + 1) 315 174 [u0, u1, u2, u3, u4, u5, u6] [.int (iI xs0)] m = ri (xs0 * 2) m := (s_const p_315_174).trans <| (s_imul p_315_175).trans <| (s_reti p_315_176 (zM_of zq_315))
theorem b_315_189 {xs0 : Int} {u1 u2 u3 u4 u5 u6 : Value} : Z e (d + 1) 315 189 [.ref 246, u1, u2, u3, u4, u5, u6] [.int (iI xs0)] m = ri (xs0 - (m 246 36)) m := (s_al_0 p_315_189).trans <| (s_get p_315_190 hs_246 (by decide) rfl).trans <| (s_isub p_315_193).trans <| (s_reti p_315_194 (zM_of zq_315))
theorem b_315_253 {x4 : Int} {xs0 : Int} {u0 u1 u2 u3 u5 u6 : Value} : Z e (d + 1) 315 253 [u0, u1, u2, u3, .int (iI x4), u5, u6] [.int (iI xs0)] m = ri (jxor xs0 x4) m := (s_il_4 p_315_253).trans <| (s_ixor p_315_255).trans <| (s_reti p_315_256 (zM_of zq_315))
theorem b_315_270 {xs0 : Int} {u0 u1 u2 u3 u4 u5 u6 : Value} : Z e (d + 1) 315 270 [u0, u1, u2, u3, u4, u5, u6] [.int (iI xs0)] m = ri (xs0 + 3) m := (s_const p_315_270).trans <| (s_iadd p_315_271).trans <| (s_reti p_315_272 (zM_of zq_315))
theorem b_315_288 {xs0 : Int} {u0 u1 u2 u3 u4 u5 u6 : Value} : Z e (d + 1) 315 288 [u0, u1, u2, u3, u4, u5, u6] [.int (iI xs0)] m = ri xs0 m := (s_reti p_315_288 (zM_of zq_315))
theorem b_315_302 {xs0 : Int} {u1 u2 u3 u4 u5 u6 : Value} : Z e (d + 1) 315 302 [.ref 246, u1, u2, u3, u4, u5, u6] [.int (iI xs0)] m = ri (xs0 + (m 246 36)) m := (s_al_0 p_315_302).trans <| (s_get p_315_303 hs_246 (by decide) rfl).trans <| (s_iadd p_315_306).trans <| (s_reti p_315_307 (zM_of zq_315))
theorem b_315_322 {xs0 : Int} {xs1 : Int} {u0 u1 u2 u3 u4 u5 u6 : Value} : Z e (d + 1) 315 322 [u0, u1, u2, u3, u4, u5, u6] [.int (iI xs0), .int (iI xs1)] m = ri (xs1 - xs0) m := (s_isub p_315_322).trans <| (s_reti p_315_323 (zM_of zq_315))
theorem b_315_337 {xs0 : Int} {u1 u2 u3 u4 u5 u6 : Value} (hu4 : u4.category = 1) : Z e (d + 1) 315 337 [.ref 246, u1, u2, u3, u4, u5, u6] [.int (iI xs0)] m = (Z e d 313 0 [.ref 246, .int (iI 0), .int (iI 1)] [] m).bind (ZK e (d + 1) 315 347 [.ref 246, u1, u2, u3, u4, .int (iI xs0), u6] [.int (iI xs0)] m) := (s_is_5 hu4 p_315_337).trans <| (s_il_5 p_315_339).trans <| (s_al_0 p_315_341).trans <| (s_const p_315_342).trans <| (s_const p_315_343).trans <| (s_cv2 (Lc := [.ref 246, .int (iI 0), .int (iI 1)]) p_315_344 (by decide) (by decide) (zM_of zq_313) ⟨Nat.le_of_ble_eq_true rfl, Nat.le_of_ble_eq_true rfl⟩ rfl (m_rc hs_246 ⟨rfl, by decide⟩))
theorem b_315_362 {x4 : Int} {xs0 : Int} {u0 u1 u2 u3 u5 u6 : Value} : Z e (d + 1) 315 362 [u0, u1, u2, u3, .int (iI x4), u5, u6] [.int (iI xs0)] m = ri (xs0 * x4) m := (s_il_4 p_315_362).trans <| (s_imul p_315_364).trans <| (s_reti p_315_365 (zM_of zq_315))
theorem b_315_379 {xs0 : Int} {u0 u1 u2 u3 u4 u5 u6 : Value} : Z e (d + 1) 315 379 [u0, u1, u2, u3, u4, u5, u6] [.int (iI xs0)] m = ri (jxor xs0 5) m := (s_const p_315_379).trans <| (s_ixor p_315_380).trans <| (s_reti p_315_381 (zM_of zq_315))
theorem b_315_397 {xs0 : Int} {u0 u1 u2 u3 u4 u5 u6 : Value} : Z e (d + 1) 315 397 [u0, u1, u2, u3, u4, u5, u6] [.int (iI xs0)] m = ri xs0 m := (s_reti p_315_397 (zM_of zq_315))
theorem b_315_412 {xs0 : Int} {u1 u2 u3 u4 u5 u6 : Value} (hu5 : u5.category = 1) : Z e (d + 1) 315 412 [.ref 246, u1, u2, u3, u4, u5, u6] [.int (iI xs0)] m = (Z e d 313 0 [.ref 246, .int (iI 1), .int (iI 0)] [] m).bind (ZK e (d + 1) 315 422 [.ref 246, u1, u2, u3, u4, u5, .int (iI xs0)] [.int (iI xs0)] m) := (s_is_6 hu5 p_315_412).trans <| (s_il_6 p_315_414).trans <| (s_al_0 p_315_416).trans <| (s_const p_315_417).trans <| (s_const p_315_418).trans <| (s_cv2 (Lc := [.ref 246, .int (iI 1), .int (iI 0)]) p_315_419 (by decide) (by decide) (zM_of zq_313) ⟨Nat.le_of_ble_eq_true rfl, Nat.le_of_ble_eq_true rfl⟩ rfl (m_rc hs_246 ⟨rfl, by decide⟩))
theorem b_315_438 {xs0 : Int} {u1 u2 u3 u4 u5 u6 : Value} : Z e (d + 1) 315 438 [.ref 246, u1, u2, u3, u4, u5, u6] [.int (iI xs0)] m = ri (xs0 + (m 246 36)) m := (s_al_0 p_315_438).trans <| (s_get p_315_439 hs_246 (by decide) rfl).trans <| (s_iadd p_315_442).trans <| (s_reti p_315_443 (zM_of zq_315))
theorem b_315_347 {xs0 : Int} {xs1 : Int} {u0 u1 u2 u3 u4 u5 u6 : Value} : Z e (d + 1) 315 347 [u0, u1, u2, u3, u4, u5, u6] [.int (iI xs0), .int (iI xs1)] m = ri (xs1 + xs0) m := (s_iadd p_315_347).trans <| (s_reti p_315_348 (zM_of zq_315))
theorem b_315_422 {xs0 : Int} {xs1 : Int} {u0 u1 u2 u3 u4 u5 u6 : Value} : Z e (d + 1) 315 422 [u0, u1, u2, u3, u4, u5, u6] [.int (iI xs0), .int (iI xs1)] m = ri (xs1 - xs0) m := (s_isub p_315_422).trans <| (s_reti p_315_423 (zM_of zq_315))
-- M.many
theorem p_318_0 : zP1 318 0 = some (.iload_n 1, 0, 0, 0) := zp_l zq_318 rfl
theorem p_318_1 : zP1 318 1 = some (.tableswitch 163 0 13 #[71, 71, 71, 71, 71, 71, 71, 78, 123, 131, 139, 144, 149, 154], 0, 0, 0) := zp_l zq_318 rfl
theorem p_318_72 : zP1 318 72 = some (.aload_n 0, 0, 0, 0) := zp_l zq_318 rfl
theorem p_318_73 : zP1 318 73 = some (.getfield 9, 11, 0, 0) := zp_r zq_318 rfl
theorem p_318_76 : zP1 318 76 = some (.iload_n 1, 0, 0, 0) := zp_l zq_318 rfl
theorem p_318_77 : zP1 318 77 = some (.iaload, 0, 0, 0) := zp_l zq_318 rfl
theorem p_318_78 : zP1 318 78 = some (.ireturn, 0, 0, 0) := zp_l zq_318 rfl
theorem p_318_79 : zP1 318 79 = some (.iconst 0, 0, 0, 0) := zp_l zq_318 rfl
theorem p_318_80 : zP1 318 80 = some (.istore_n 2, 0, 0, 0) := zp_l zq_318 rfl
theorem p_318_81 : zP1 318 81 = some (.iconst 0, 0, 0, 0) := zp_l zq_318 rfl
theorem p_318_82 : zP1 318 82 = some (.istore_n 3, 0, 0, 0) := zp_l zq_318 rfl
theorem p_318_83 : zP1 318 83 = some (.iload_n 3, 0, 0, 0) := zp_l zq_318 rfl
theorem p_318_84 : zP1 318 84 = some (.aload_n 0, 0, 0, 0) := zp_l zq_318 rfl
theorem p_318_85 : zP1 318 85 = some (.getfield 9, 11, 0, 0) := zp_r zq_318 rfl
theorem p_318_88 : zP1 318 88 = some (.iconst 1, 0, 0, 0) := zp_l zq_318 rfl
theorem p_318_89 : zP1 318 89 = some (.iaload, 0, 0, 0) := zp_l zq_318 rfl
theorem p_318_90 : zP1 318 90 = some (.if_icmp .ge 32, 0, 0, 0) := zp_l zq_318 rfl
theorem p_318_93 : zP1 318 93 = some (.iload_n 2, 0, 0, 0) := zp_l zq_318 rfl
theorem p_318_94 : zP1 318 94 = some (.aload_n 0, 0, 0, 0) := zp_l zq_318 rfl
theorem p_318_95 : zP1 318 95 = some (.getfield 9, 11, 0, 0) := zp_r zq_318 rfl
theorem p_318_98 : zP1 318 98 = some (.iload_n 3, 0, 0, 0) := zp_l zq_318 rfl
theorem p_318_99 : zP1 318 99 = some (.iconst 4, 0, 0, 0) := zp_l zq_318 rfl
theorem p_318_100 : zP1 318 100 = some (.invokestatic 129, 204, 2, 0) := zp_r zq_318 rfl
theorem p_318_103 : zP1 318 103 = some (.iaload, 0, 0, 0) := zp_l zq_318 rfl
theorem p_318_104 : zP1 318 104 = some (.bipush (-3), 0, 0, 0) := zp_l zq_318 rfl
theorem p_318_106 : zP1 318 106 = some (.if_icmp .eq 7, 0, 0, 0) := zp_l zq_318 rfl
theorem p_318_109 : zP1 318 109 = some (.iconst 1, 0, 0, 0) := zp_l zq_318 rfl
theorem p_318_110 : zP1 318 110 = some (.goto 4, 0, 0, 0) := zp_l zq_318 rfl
theorem p_318_113 : zP1 318 113 = some (.iconst 0, 0, 0, 0) := zp_l zq_318 rfl
theorem p_318_114 : zP1 318 114 = some (.iadd, 0, 0, 0) := zp_l zq_318 rfl
theorem p_318_115 : zP1 318 115 = some (.istore_n 2, 0, 0, 0) := zp_l zq_318 rfl
theorem p_318_116 : zP1 318 116 = some (.iinc 3 1, 0, 0, 0) := zp_l zq_318 rfl
theorem p_318_119 : zP1 318 119 = some (.goto (-36), 0, 0, 0) := zp_l zq_318 rfl
theorem p_318_122 : zP1 318 122 = some (.iload_n 2, 0, 0, 0) := zp_l zq_318 rfl
theorem p_318_123 : zP1 318 123 = some (.ireturn, 0, 0, 0) := zp_l zq_318 rfl
theorem p_318_124 : zP1 318 124 = some (.aload_n 0, 0, 0, 0) := zp_l zq_318 rfl
theorem p_318_125 : zP1 318 125 = some (.getfield 9, 11, 0, 0) := zp_r zq_318 rfl
theorem p_318_128 : zP1 318 128 = some (.bipush 7, 0, 0, 0) := zp_l zq_318 rfl
theorem p_318_130 : zP1 318 130 = some (.iaload, 0, 0, 0) := zp_l zq_318 rfl
theorem p_318_131 : zP1 318 131 = some (.ireturn, 0, 0, 0) := zp_l zq_318 rfl
theorem p_318_132 : zP1 318 132 = some (.aload_n 0, 0, 0, 0) := zp_l zq_318 rfl
theorem p_318_133 : zP1 318 133 = some (.getfield 9, 11, 0, 0) := zp_r zq_318 rfl
theorem p_318_136 : zP1 318 136 = some (.bipush 8, 0, 0, 0) := zp_l zq_318 rfl
theorem p_318_138 : zP1 318 138 = some (.iaload, 0, 0, 0) := zp_l zq_318 rfl
theorem p_318_139 : zP1 318 139 = some (.ireturn, 0, 0, 0) := zp_l zq_318 rfl
theorem p_318_140 : zP1 318 140 = some (.aload_n 0, 0, 0, 0) := zp_l zq_318 rfl
theorem p_318_141 : zP1 318 141 = some (.getfield 363, 11, 7, 0) := zp_r zq_318 rfl
theorem p_318_144 : zP1 318 144 = some (.ireturn, 0, 0, 0) := zp_l zq_318 rfl
theorem p_318_145 : zP1 318 145 = some (.aload_n 0, 0, 0, 0) := zp_l zq_318 rfl
theorem p_318_146 : zP1 318 146 = some (.getfield 172, 11, 4, 0) := zp_r zq_318 rfl
theorem p_318_149 : zP1 318 149 = some (.ireturn, 0, 0, 0) := zp_l zq_318 rfl
theorem p_318_150 : zP1 318 150 = some (.aload_n 0, 0, 0, 0) := zp_l zq_318 rfl
theorem p_318_151 : zP1 318 151 = some (.getfield 392, 11, 35, 0) := zp_r zq_318 rfl
theorem p_318_154 : zP1 318 154 = some (.ireturn, 0, 0, 0) := zp_l zq_318 rfl
theorem p_318_155 : zP1 318 155 = some (.aload_n 0, 0, 0, 0) := zp_l zq_318 rfl
theorem p_318_156 : zP1 318 156 = some (.iconst (-1), 0, 0, 0) := zp_l zq_318 rfl
theorem p_318_157 : zP1 318 157 = some (.invokevirtual 372, 297, 1, 11) := zp_r zq_318 rfl
theorem p_318_160 : zP1 318 160 = some (.invokestatic 369, 207, 1, 0) := zp_r zq_318 rfl
theorem p_318_163 : zP1 318 163 = some (.ireturn, 0, 0, 0) := zp_l zq_318 rfl
theorem p_318_164 : zP1 318 164 = some (.iconst (-1), 0, 0, 0) := zp_l zq_318 rfl
theorem p_318_165 : zP1 318 165 = some (.ireturn, 0, 0, 0) := zp_l zq_318 rfl
theorem b_318_0 {x1 : Int} : Z e (d + 1) 318 0 [.ref 246, .int (iI x1), .retAddr 0, .retAddr 0] [] m = (if (wr x1) = 0 then ck (0 ≤ (wr x1) ∧ (wr x1) < 2737) (ri (m 247 (wr x1)) m) else (if (wr x1) = 1 then ck (0 ≤ (wr x1) ∧ (wr x1) < 2737) (ri (m 247 (wr x1)) m) else (if (wr x1) = 2 then ck (0 ≤ (wr x1) ∧ (wr x1) < 2737) (ri (m 247 (wr x1)) m) else (if (wr x1) = 3 then ck (0 ≤ (wr x1) ∧ (wr x1) < 2737) (ri (m 247 (wr x1)) m) else (if (wr x1) = 4 then ck (0 ≤ (wr x1) ∧ (wr x1) < 2737) (ri (m 247 (wr x1)) m) else (if (wr x1) = 5 then ck (0 ≤ (wr x1) ∧ (wr x1) < 2737) (ri (m 247 (wr x1)) m) else (if (wr x1) = 6 then ck (0 ≤ (wr x1) ∧ (wr x1) < 2737) (ri (m 247 (wr x1)) m) else (if (wr x1) = 7 then Z e (d + 1) 318 83 [.ref 246, .int (iI x1), .int (iI 0), .int (iI 0)] [] m else (if (wr x1) = 8 then ri (m 247 7) m else (if (wr x1) = 9 then ri (m 247 8) m else (if (wr x1) = 10 then ri (m 246 7) m else (if (wr x1) = 11 then ri (m 246 4) m else (if (wr x1) = 12 then ri (m 246 35) m else (if (wr x1) = 13 then (Z e d 297 0 [.ref 246, .int (iI (-1)), .retAddr 0, .retAddr 0] [] m).bind (ZK e (d + 1) 318 160 [.ref 246, .int (iI x1), .retAddr 0, .retAddr 0] [] m) else ri (-1) m)))))))))))))) := (s_il_1 p_318_0).trans <| (s_tsw (ts := [(0, 72), (1, 72), (2, 72), (3, 72), (4, 72), (5, 72), (6, 72), (7, 79), (8, 124), (9, 132), (10, 140), (11, 145), (12, 150), (13, 155)]) (td := 164) p_318_1 rfl (by decide) rfl rfl).trans <| ite_cg ((s_al_0 p_318_72).trans <| (s_getr p_318_73 hs_246 (by decide) rfl).trans <| (s_il_1 p_318_76).trans <| (s_ald 2737 p_318_77 hs_247 rfl (by decide)).trans <| ck_cg fun k1 => (s_reti p_318_78 (zM_of zq_318))) (ite_cg ((s_al_0 p_318_72).trans <| (s_getr p_318_73 hs_246 (by decide) rfl).trans <| (s_il_1 p_318_76).trans <| (s_ald 2737 p_318_77 hs_247 rfl (by decide)).trans <| ck_cg fun k2 => (s_reti p_318_78 (zM_of zq_318))) (ite_cg ((s_al_0 p_318_72).trans <| (s_getr p_318_73 hs_246 (by decide) rfl).trans <| (s_il_1 p_318_76).trans <| (s_ald 2737 p_318_77 hs_247 rfl (by decide)).trans <| ck_cg fun k3 => (s_reti p_318_78 (zM_of zq_318))) (ite_cg ((s_al_0 p_318_72).trans <| (s_getr p_318_73 hs_246 (by decide) rfl).trans <| (s_il_1 p_318_76).trans <| (s_ald 2737 p_318_77 hs_247 rfl (by decide)).trans <| ck_cg fun k4 => (s_reti p_318_78 (zM_of zq_318))) (ite_cg ((s_al_0 p_318_72).trans <| (s_getr p_318_73 hs_246 (by decide) rfl).trans <| (s_il_1 p_318_76).trans <| (s_ald 2737 p_318_77 hs_247 rfl (by decide)).trans <| ck_cg fun k5 => (s_reti p_318_78 (zM_of zq_318))) (ite_cg ((s_al_0 p_318_72).trans <| (s_getr p_318_73 hs_246 (by decide) rfl).trans <| (s_il_1 p_318_76).trans <| (s_ald 2737 p_318_77 hs_247 rfl (by decide)).trans <| ck_cg fun k6 => (s_reti p_318_78 (zM_of zq_318))) (ite_cg ((s_al_0 p_318_72).trans <| (s_getr p_318_73 hs_246 (by decide) rfl).trans <| (s_il_1 p_318_76).trans <| (s_ald 2737 p_318_77 hs_247 rfl (by decide)).trans <| ck_cg fun k7 => (s_reti p_318_78 (zM_of zq_318))) (ite_cg ((s_const p_318_79).trans <| (s_is_2 cat_i p_318_80).trans <| (s_const p_318_81).trans <| (s_is_3 cat_i p_318_82).trans <| rfl) (ite_cg ((s_al_0 p_318_124).trans <| (s_getr p_318_125 hs_246 (by decide) rfl).trans <| (s_bip p_318_128 rfl).trans <| (s_aldc p_318_130 hs_247 (by decide) wl_7 (by decide)).trans <| (s_reti p_318_131 (zM_of zq_318))) (ite_cg ((s_al_0 p_318_132).trans <| (s_getr p_318_133 hs_246 (by decide) rfl).trans <| (s_bip p_318_136 rfl).trans <| (s_aldc p_318_138 hs_247 (by decide) wl_8 (by decide)).trans <| (s_reti p_318_139 (zM_of zq_318))) (ite_cg ((s_al_0 p_318_140).trans <| (s_get p_318_141 hs_246 (by decide) rfl).trans <| (s_reti p_318_144 (zM_of zq_318))) (ite_cg ((s_al_0 p_318_145).trans <| (s_get p_318_146 hs_246 (by decide) rfl).trans <| (s_reti p_318_149 (zM_of zq_318))) (ite_cg ((s_al_0 p_318_150).trans <| (s_get p_318_151 hs_246 (by decide) rfl).trans <| (s_reti p_318_154 (zM_of zq_318))) (ite_cg ((s_al_0 p_318_155).trans <| (s_const p_318_156).trans <| (s_cv1 (Lc := [.ref 246, .int (iI (-1)), .retAddr 0, .retAddr 0]) p_318_157 (by decide) (by decide) (zM_of zq_297) ⟨Nat.le_of_ble_eq_true rfl, Nat.le_of_ble_eq_true rfl⟩ rfl (m_rc hs_246 ⟨rfl, by decide⟩))) ((s_const p_318_164).trans <| (s_reti p_318_165 (zM_of zq_318))))))))))))))))
theorem b_318_83 {x2 : Int} {x3 : Int} {u1 : Value} (hu1 : u1.category = 1) : Z e (d + 1) 318 83 [.ref 246, u1, .int (iI x2), .int (iI x3)] [] m = (if (wr x3) < (wr (m 247 1)) then ck (0 ≤ (wr ((110 + (9 * x3)) + 4)) ∧ (wr ((110 + (9 * x3)) + 4)) < 2737) (Z e (d + 1) 318 83 [.ref 246, u1, .int (iI (x2 + (if ¬ (wr (m 247 (wr ((110 + (9 * x3)) + 4)))) = (-3) then 1 else 0))), .int (iI (x3 + 1))] [] m) else ri x2 m) := (s_il_3 p_318_83).trans <| (s_al_0 p_318_84).trans <| (s_getr p_318_85 hs_246 (by decide) rfl).trans <| (s_const p_318_88).trans <| (s_aldc p_318_89 hs_247 (by decide) wl_1 (by decide)).trans <| Eq.trans ((s_c_ge_f p_318_90 rfl rfl rfl)) <| ite_cg ((s_il_2 p_318_93).trans <| (s_al_0 p_318_94).trans <| (s_getr p_318_95 hs_246 (by decide) rfl).trans <| (s_il_3 p_318_98).trans <| (s_const p_318_99).trans <| (s_cs2 (Lc := [.int (iI x3), .int (iI 4)]) p_318_100 (by decide) (zM_of zq_204) ⟨Nat.le_of_ble_eq_true rfl, Nat.le_of_ble_eq_true rfl⟩ rfl).trans <| (bd b_204_0).trans <| ri_k.trans <| (s_ald 2737 p_318_103 hs_247 rfl (by decide)).trans <| ck_cg fun k2 => (s_bip p_318_104 rfl).trans <| Eq.trans (Eq.trans ((s_c_eq_f p_318_106 rfl rfl wl_m3)) <| Eq.trans (ite_cg ((s_const p_318_109).trans <| (s_goto p_318_110 rfl).trans <| rfl) ((s_const p_318_113).trans <| rfl)) (phi1 (fun z0 => Z e (d + 1) 318 114 [.ref 246, u1, .int (iI x2), .int (iI x3)] [.int (iI z0), .int (iI x2)] m))) <| (s_iadd p_318_114).trans <| (s_is_2 hu1 p_318_115).trans <| (s_inc_3 cat_i p_318_116).trans <| (s_goto p_318_119 rfl).trans <| rfl) ((s_il_2 p_318_122).trans <| (s_reti p_318_123 (zM_of zq_318)))
theorem b_318_160 {xs0 : Int} {u0 u1 u2 u3 : Value} : Z e (d + 1) 318 160 [u0, u1, u2, u3] [.int (iI xs0)] m = (Z e d 207 0 [.int (iI xs0), .retAddr 0, .retAddr 0] [] m).bind (ZK e (d + 1) 318 163 [u0, u1, u2, u3] [] m) := (s_cs1 (Lc := [.int (iI xs0), .retAddr 0, .retAddr 0]) p_318_160 (by decide) (zM_of zq_207) ⟨Nat.le_of_ble_eq_true rfl, Nat.le_of_ble_eq_true rfl⟩ rfl)
theorem b_318_163 {xs0 : Int} {u0 u1 u2 u3 : Value} : Z e (d + 1) 318 163 [u0, u1, u2, u3] [.int (iI xs0)] m = ri xs0 m := (s_reti p_318_163 (zM_of zq_318))
end BK
