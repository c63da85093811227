/-! Equations of instructions. By program. -/
section ZI
variable {E : zS} {d k k2 : Nat} {x y : Int32} {w u : Int64} {h : zH} {l0 l1 l2 l3 l4 l5 l6 l7 l8 l9 l10 l11 l12 l13 : Value}
theorem zp_104_0 : zP1 104 0 = some (.iload_n 1, 0, 0, 0) := zp_l zq_104 rfl
theorem zi_104_0 : rv E d 104 0 [l0, .int x, l2] [] h = rv E d 104 1 [l0, .int x, l2] [.int x] h := rv_loc zp_104_0 rfl rfl
theorem zp_104_1 : zP1 104 1 = some (.ifCond .lt 23, 0, 0, 0) := zp_l zq_104 rfl
theorem zi_104_1 : rv E d 104 1 [l0, l1, l2] [.int x] h = if x < 0 then rv E d 104 24 [l0, l1, l2] [] h else rv E d 104 4 [l0, l1, l2] [] h := rv_ifc zp_104_1 rfl rfl
theorem zp_104_4 : zP1 104 4 = some (.iload_n 1, 0, 0, 0) := zp_l zq_104 rfl
theorem zi_104_4 : rv E d 104 4 [l0, .int x, l2] [] h = rv E d 104 5 [l0, .int x, l2] [.int x] h := rv_loc zp_104_4 rfl rfl
theorem zp_104_5 : zP1 104 5 = some (.aload_n 0, 0, 0, 0) := zp_l zq_104 rfl
theorem zi_104_5 {s0 : Int32} : rv E d 104 5 [.ref k, l1, l2] [.int s0] h = rv E d 104 6 [.ref k, l1, l2] [.ref k, .int s0] h := rv_loc zp_104_5 rfl rfl
theorem zp_104_6 : zP1 104 6 = some (.getfield 22, 7, 3, 0) := zp_r zq_104 rfl
theorem zi_104_6 {s1 : Int32} : rv E d 104 6 [l0, l1, l2] [.ref k, .int s1] h = (zfl h k 7 3).bind (fun v => rv E d 104 9 [l0, l1, l2] [v, .int s1] h) := rv_getf zp_104_6 (by decide)
theorem zp_104_9 : zP1 104 9 = some (.if_icmp .ge 15, 0, 0, 0) := zp_l zq_104 rfl
theorem zi_104_9 : rv E d 104 9 [l0, l1, l2] [.int y, .int x] h = if y ≤ x then rv E d 104 24 [l0, l1, l2] [] h else rv E d 104 12 [l0, l1, l2] [] h := rv_icmp zp_104_9 rfl rfl
theorem zp_104_12 : zP1 104 12 = some (.iload_n 2, 0, 0, 0) := zp_l zq_104 rfl
theorem zi_104_12 : rv E d 104 12 [l0, l1, .int x] [] h = rv E d 104 13 [l0, l1, .int x] [.int x] h := rv_loc zp_104_12 rfl rfl
theorem zp_104_13 : zP1 104 13 = some (.ifCond .lt 11, 0, 0, 0) := zp_l zq_104 rfl
theorem zi_104_13 : rv E d 104 13 [l0, l1, l2] [.int x] h = if x < 0 then rv E d 104 24 [l0, l1, l2] [] h else rv E d 104 16 [l0, l1, l2] [] h := rv_ifc zp_104_13 rfl rfl
theorem zp_104_16 : zP1 104 16 = some (.iload_n 2, 0, 0, 0) := zp_l zq_104 rfl
theorem zi_104_16 : rv E d 104 16 [l0, l1, .int x] [] h = rv E d 104 17 [l0, l1, .int x] [.int x] h := rv_loc zp_104_16 rfl rfl
theorem zp_104_17 : zP1 104 17 = some (.aload_n 0, 0, 0, 0) := zp_l zq_104 rfl
theorem zi_104_17 {s0 : Int32} : rv E d 104 17 [.ref k, l1, l2] [.int s0] h = rv E d 104 18 [.ref k, l1, l2] [.ref k, .int s0] h := rv_loc zp_104_17 rfl rfl
theorem zp_104_18 : zP1 104 18 = some (.getfield 15, 7, 0, 0) := zp_r zq_104 rfl
theorem zi_104_18 {s1 : Int32} : rv E d 104 18 [l0, l1, l2] [.ref k, .int s1] h = (zfl h k 7 0).bind (fun v => rv E d 104 21 [l0, l1, l2] [v, .int s1] h) := rv_getf zp_104_18 (by decide)
theorem zp_104_21 : zP1 104 21 = some (.if_icmp .lt 6, 0, 0, 0) := zp_l zq_104 rfl
theorem zi_104_21 : rv E d 104 21 [l0, l1, l2] [.int y, .int x] h = if x < y then rv E d 104 27 [l0, l1, l2] [] h else rv E d 104 24 [l0, l1, l2] [] h := rv_icmp zp_104_21 rfl rfl
theorem zp_104_24 : zP1 104 24 = some (.bipush (-3), 0, 0, 0) := zp_l zq_104 rfl
theorem zi_104_24 : rv E d 104 24 [l0, l1, l2] [] h = rv E d 104 26 [l0, l1, l2] [.int (-3)] h := rv_bip zp_104_24 (by decide)
theorem zp_104_26 : zP1 104 26 = some (.ireturn, 0, 0, 0) := zp_l zq_104 rfl
theorem zi_104_26 : rv E d 104 26 [l0, l1, l2] [.int x] h = some (some (.int x), h) := rv_reti zp_104_26 (zM_of zq_104)
theorem zp_104_27 : zP1 104 27 = some (.aload_n 0, 0, 0, 0) := zp_l zq_104 rfl
theorem zi_104_27 : rv E d 104 27 [.ref k, l1, l2] [] h = rv E d 104 28 [.ref k, l1, l2] [.ref k] h := rv_loc zp_104_27 rfl rfl
theorem zp_104_28 : zP1 104 28 = some (.getfield 18, 7, 1, 0) := zp_r zq_104 rfl
theorem zi_104_28 : rv E d 104 28 [l0, l1, l2] [.ref k] h = (zfl h k 7 1).bind (fun v => rv E d 104 31 [l0, l1, l2] [v] h) := rv_getf zp_104_28 (by decide)
theorem zp_104_31 : zP1 104 31 = some (.iload_n 1, 0, 0, 0) := zp_l zq_104 rfl
theorem zi_104_31 {s0 : Nat} : rv E d 104 31 [l0, .int x, l2] [.ref s0] h = rv E d 104 32 [l0, .int x, l2] [.int x, .ref s0] h := rv_loc zp_104_31 rfl rfl
theorem zp_104_32 : zP1 104 32 = some (.aload_n 0, 0, 0, 0) := zp_l zq_104 rfl
theorem zi_104_32 {s0 : Int32} {s1 : Nat} : rv E d 104 32 [.ref k, l1, l2] [.int s0, .ref s1] h = rv E d 104 33 [.ref k, l1, l2] [.ref k, .int s0, .ref s1] h := rv_loc zp_104_32 rfl rfl
theorem zp_104_33 : zP1 104 33 = some (.getfield 15, 7, 0, 0) := zp_r zq_104 rfl
theorem zi_104_33 {s1 : Int32} {s2 : Nat} : rv E d 104 33 [l0, l1, l2] [.ref k, .int s1, .ref s2] h = (zfl h k 7 0).bind (fun v => rv E d 104 36 [l0, l1, l2] [v, .int s1, .ref s2] h) := rv_getf zp_104_33 (by decide)
theorem zp_104_36 : zP1 104 36 = some (.imul, 0, 0, 0) := zp_l zq_104 rfl
theorem zi_104_36 {s2 : Nat} : rv E d 104 36 [l0, l1, l2] [.int y, .int x, .ref s2] h = rv E d 104 37 [l0, l1, l2] [.int (x * y), .ref s2] h := rv_stk zp_104_36 rfl rfl
theorem zp_104_37 : zP1 104 37 = some (.iload_n 2, 0, 0, 0) := zp_l zq_104 rfl
theorem zi_104_37 {s0 : Int32} {s1 : Nat} : rv E d 104 37 [l0, l1, .int x] [.int s0, .ref s1] h = rv E d 104 38 [l0, l1, .int x] [.int x, .int s0, .ref s1] h := rv_loc zp_104_37 rfl rfl
theorem zp_104_38 : zP1 104 38 = some (.iadd, 0, 0, 0) := zp_l zq_104 rfl
theorem zi_104_38 {s2 : Nat} : rv E d 104 38 [l0, l1, l2] [.int y, .int x, .ref s2] h = rv E d 104 39 [l0, l1, l2] [.int (x + y), .ref s2] h := rv_stk zp_104_38 rfl rfl
theorem zp_104_39 : zP1 104 39 = some (.iaload, 0, 0, 0) := zp_l zq_104 rfl
theorem zi_104_39 : rv E d 104 39 [l0, l1, l2] [.int x, .ref k] h = (zgi E h k x 0).bind (fun y => rv E d 104 40 [l0, l1, l2] [.int y] h) := rv_ald (Or.inl ⟨rfl, rfl⟩) zp_104_39
theorem zp_104_40 : zP1 104 40 = some (.ireturn, 0, 0, 0) := zp_l zq_104 rfl
theorem zi_104_40 : rv E d 104 40 [l0, l1, l2] [.int x] h = some (some (.int x), h) := rv_reti zp_104_40 (zM_of zq_104)
theorem zp_199_0 : zP1 199 0 = some (.iload_n 0, 0, 0, 0) := zp_l zq_199 rfl
theorem zi_199_0 : rv E d 199 0 [.int x, l1, l2] [] h = rv E d 199 1 [.int x, l1, l2] [.int x] h := rv_loc zp_199_0 rfl rfl
theorem zp_199_1 : zP1 199 1 = some (.iload_n 1, 0, 0, 0) := zp_l zq_199 rfl
theorem zi_199_1 {s0 : Int32} : rv E d 199 1 [l0, .int x, l2] [.int s0] h = rv E d 199 2 [l0, .int x, l2] [.int x, .int s0] h := rv_loc zp_199_1 rfl rfl
theorem zp_199_2 : zP1 199 2 = some (.if_icmp .lt 12, 0, 0, 0) := zp_l zq_199 rfl
theorem zi_199_2 : rv E d 199 2 [l0, l1, l2] [.int y, .int x] h = if x < y then rv E d 199 14 [l0, l1, l2] [] h else rv E d 199 5 [l0, l1, l2] [] h := rv_icmp zp_199_2 rfl rfl
theorem zp_199_5 : zP1 199 5 = some (.iload_n 0, 0, 0, 0) := zp_l zq_199 rfl
theorem zi_199_5 : rv E d 199 5 [.int x, l1, l2] [] h = rv E d 199 6 [.int x, l1, l2] [.int x] h := rv_loc zp_199_5 rfl rfl
theorem zp_199_6 : zP1 199 6 = some (.iload_n 2, 0, 0, 0) := zp_l zq_199 rfl
theorem zi_199_6 {s0 : Int32} : rv E d 199 6 [l0, l1, .int x] [.int s0] h = rv E d 199 7 [l0, l1, .int x] [.int x, .int s0] h := rv_loc zp_199_6 rfl rfl
theorem zp_199_7 : zP1 199 7 = some (.if_icmp .gt 7, 0, 0, 0) := zp_l zq_199 rfl
theorem zi_199_7 : rv E d 199 7 [l0, l1, l2] [.int y, .int x] h = if y < x then rv E d 199 14 [l0, l1, l2] [] h else rv E d 199 10 [l0, l1, l2] [] h := rv_icmp zp_199_7 rfl rfl
theorem zp_199_10 : zP1 199 10 = some (.iconst 1, 0, 0, 0) := zp_l zq_199 rfl
theorem zi_199_10 : rv E d 199 10 [l0, l1, l2] [] h = rv E d 199 11 [l0, l1, l2] [.int 1] h := rv_const zp_199_10 (by decide)
theorem zp_199_11 : zP1 199 11 = some (.goto 4, 0, 0, 0) := zp_l zq_199 rfl
theorem zi_199_11 {s0 : Int32} : rv E d 199 11 [l0, l1, l2] [.int s0] h = rv E d 199 15 [l0, l1, l2] [.int s0] h := rv_goto zp_199_11 rfl
theorem zp_199_14 : zP1 199 14 = some (.iconst 0, 0, 0, 0) := zp_l zq_199 rfl
theorem zi_199_14 : rv E d 199 14 [l0, l1, l2] [] h = rv E d 199 15 [l0, l1, l2] [.int 0] h := rv_const zp_199_14 (by decide)
theorem zp_199_15 : zP1 199 15 = some (.ireturn, 0, 0, 0) := zp_l zq_199 rfl
theorem zi_199_15 : rv E d 199 15 [l0, l1, l2] [.int x] h = if narrow .boolean (.int x) = .int x then some (some (.int x), h) else none := rv_rets zp_199_15 (zM_of zq_199)
theorem zp_200_0 : zP1 200 0 = some (.iload_n 0, 0, 0, 0) := zp_l zq_200 rfl
theorem zi_200_0 : rv E d 200 0 [.int x] [] h = rv E d 200 1 [.int x] [.int x] h := rv_loc zp_200_0 rfl rfl
theorem zp_200_1 : zP1 200 1 = some (.iconst 0, 0, 0, 0) := zp_l zq_200 rfl
theorem zi_200_1 {s0 : Int32} : rv E d 200 1 [l0] [.int s0] h = rv E d 200 2 [l0] [.int 0, .int s0] h := rv_const zp_200_1 (by decide)
theorem zp_200_2 : zP1 200 2 = some (.bipush 99, 0, 0, 0) := zp_l zq_200 rfl
theorem zi_200_2 {s0 : Int32} {s1 : Int32} : rv E d 200 2 [l0] [.int s0, .int s1] h = rv E d 200 4 [l0] [.int 99, .int s0, .int s1] h := rv_bip zp_200_2 (by decide)
theorem zp_200_4 : zP1 200 4 = some (.invokestatic 100, 199, 3, 0) := zp_r zq_200 rfl
-- call PeaceRingModel.within
theorem zi_200_4 {s0 : Int32} {s1 : Int32} {s2 : Int32} : rv E (d + 1) 200 4 [l0] [.int s0, .int s1, .int s2] h = (rv E d 199 0 [.int s2, .int s1, .int s0] [] h).bind (zth E (d + 1) 200 7 [l0] [] h) := rv_calls (as := [.int s2, .int s1, .int s0]) (rest := []) zp_200_4 (by decide) (zM_of zq_199) rfl ⟨Nat.le_of_ble_eq_true rfl, Nat.le_of_ble_eq_true rfl⟩
theorem zp_200_7 : zP1 200 7 = some (.ireturn, 0, 0, 0) := zp_l zq_200 rfl
theorem zi_200_7 : rv E d 200 7 [l0] [.int x] h = if narrow .boolean (.int x) = .int x then some (some (.int x), h) else none := rv_rets zp_200_7 (zM_of zq_200)
theorem zp_202_0 : zP1 202 0 = some (.iload_n 1, 0, 0, 0) := zp_l zq_202 rfl
theorem zi_202_0 : rv E d 202 0 [l0, .int x] [] h = rv E d 202 1 [l0, .int x] [.int x] h := rv_loc zp_202_0 rfl rfl
theorem zp_202_1 : zP1 202 1 = some (.iconst 0, 0, 0, 0) := zp_l zq_202 rfl
theorem zi_202_1 {s0 : Int32} : rv E d 202 1 [l0, l1] [.int s0] h = rv E d 202 2 [l0, l1] [.int 0, .int s0] h := rv_const zp_202_1 (by decide)
theorem zp_202_2 : zP1 202 2 = some (.aload_n 0, 0, 0, 0) := zp_l zq_202 rfl
theorem zi_202_2 {s0 : Int32} {s1 : Int32} : rv E d 202 2 [.ref k, l1] [.int s0, .int s1] h = rv E d 202 3 [.ref k, l1] [.ref k, .int s0, .int s1] h := rv_loc zp_202_2 rfl rfl
theorem zp_202_3 : zP1 202 3 = some (.getfield 9, 11, 0, 0) := zp_r zq_202 rfl
theorem zi_202_3 {s1 : Int32} {s2 : Int32} : rv E d 202 3 [l0, l1] [.ref k, .int s1, .int s2] h = (zfl h k 11 0).bind (fun v => rv E d 202 6 [l0, l1] [v, .int s1, .int s2] h) := rv_getf zp_202_3 (by decide)
theorem zp_202_6 : zP1 202 6 = some (.iconst 1, 0, 0, 0) := zp_l zq_202 rfl
theorem zi_202_6 {s0 : Nat} {s1 : Int32} {s2 : Int32} : rv E d 202 6 [l0, l1] [.ref s0, .int s1, .int s2] h = rv E d 202 7 [l0, l1] [.int 1, .ref s0, .int s1, .int s2] h := rv_const zp_202_6 (by decide)
theorem zp_202_7 : zP1 202 7 = some (.iaload, 0, 0, 0) := zp_l zq_202 rfl
theorem zi_202_7 {s2 : Int32} {s3 : Int32} : rv E d 202 7 [l0, l1] [.int x, .ref k, .int s2, .int s3] h = (zgi E h k x 0).bind (fun y => rv E d 202 8 [l0, l1] [.int y, .int s2, .int s3] h) := rv_ald (Or.inl ⟨rfl, rfl⟩) zp_202_7
theorem zp_202_8 : zP1 202 8 = some (.iconst 1, 0, 0, 0) := zp_l zq_202 rfl
theorem zi_202_8 {s0 : Int32} {s1 : Int32} {s2 : Int32} : rv E d 202 8 [l0, l1] [.int s0, .int s1, .int s2] h = rv E d 202 9 [l0, l1] [.int 1, .int s0, .int s1, .int s2] h := rv_const zp_202_8 (by decide)
theorem zp_202_9 : zP1 202 9 = some (.isub, 0, 0, 0) := zp_l zq_202 rfl
theorem zi_202_9 {s2 : Int32} {s3 : Int32} : rv E d 202 9 [l0, l1] [.int y, .int x, .int s2, .int s3] h = rv E d 202 10 [l0, l1] [.int (x - y), .int s2, .int s3] h := rv_stk zp_202_9 rfl rfl
theorem zp_202_10 : zP1 202 10 = some (.invokestatic 100, 199, 3, 0) := zp_r zq_202 rfl
-- call PeaceRingModel.within
theorem zi_202_10 {s0 : Int32} {s1 : Int32} {s2 : Int32} : rv E (d + 1) 202 10 [l0, l1] [.int s0, .int s1, .int s2] h = (rv E d 199 0 [.int s2, .int s1, .int s0] [] h).bind (zth E (d + 1) 202 13 [l0, l1] [] h) := rv_calls (as := [.int s2, .int s1, .int s0]) (rest := []) zp_202_10 (by decide) (zM_of zq_199) rfl ⟨Nat.le_of_ble_eq_true rfl, Nat.le_of_ble_eq_true rfl⟩
theorem zp_202_13 : zP1 202 13 = some (.ireturn, 0, 0, 0) := zp_l zq_202 rfl
theorem zi_202_13 : rv E d 202 13 [l0, l1] [.int x] h = if narrow .boolean (.int x) = .int x then some (some (.int x), h) else none := rv_rets zp_202_13 (zM_of zq_202)
theorem zp_203_0 : zP1 203 0 = some (.aload_n 0, 0, 0, 0) := zp_l zq_203 rfl
theorem zi_203_0 : rv E d 203 0 [.ref k, l1] [] h = rv E d 203 1 [.ref k, l1] [.ref k] h := rv_loc zp_203_0 rfl rfl
theorem zp_203_1 : zP1 203 1 = some (.getfield 9, 11, 0, 0) := zp_r zq_203 rfl
theorem zi_203_1 : rv E d 203 1 [l0, l1] [.ref k] h = (zfl h k 11 0).bind (fun v => rv E d 203 4 [l0, l1] [v] h) := rv_getf zp_203_1 (by decide)
theorem zp_203_4 : zP1 203 4 = some (.bipush 10, 0, 0, 0) := zp_l zq_203 rfl
theorem zi_203_4 {s0 : Nat} : rv E d 203 4 [l0, l1] [.ref s0] h = rv E d 203 6 [l0, l1] [.int 10, .ref s0] h := rv_bip zp_203_4 (by decide)
theorem zp_203_6 : zP1 203 6 = some (.iload_n 1, 0, 0, 0) := zp_l zq_203 rfl
theorem zi_203_6 {s0 : Int32} {s1 : Nat} : rv E d 203 6 [l0, .int x] [.int s0, .ref s1] h = rv E d 203 7 [l0, .int x] [.int x, .int s0, .ref s1] h := rv_loc zp_203_6 rfl rfl
theorem zp_203_7 : zP1 203 7 = some (.iadd, 0, 0, 0) := zp_l zq_203 rfl
theorem zi_203_7 {s2 : Nat} : rv E d 203 7 [l0, l1] [.int y, .int x, .ref s2] h = rv E d 203 8 [l0, l1] [.int (x + y), .ref s2] h := rv_stk zp_203_7 rfl rfl
theorem zp_203_8 : zP1 203 8 = some (.iaload, 0, 0, 0) := zp_l zq_203 rfl
theorem zi_203_8 : rv E d 203 8 [l0, l1] [.int x, .ref k] h = (zgi E h k x 0).bind (fun y => rv E d 203 9 [l0, l1] [.int y] h) := rv_ald (Or.inl ⟨rfl, rfl⟩) zp_203_8
theorem zp_203_9 : zP1 203 9 = some (.iconst 1, 0, 0, 0) := zp_l zq_203 rfl
theorem zi_203_9 {s0 : Int32} : rv E d 203 9 [l0, l1] [.int s0] h = rv E d 203 10 [l0, l1] [.int 1, .int s0] h := rv_const zp_203_9 (by decide)
theorem zp_203_10 : zP1 203 10 = some (.if_icmp .ne 7, 0, 0, 0) := zp_l zq_203 rfl
theorem zi_203_10 : rv E d 203 10 [l0, l1] [.int y, .int x] h = if ¬ x = y then rv E d 203 17 [l0, l1] [] h else rv E d 203 13 [l0, l1] [] h := rv_icmp zp_203_10 rfl rfl
theorem zp_203_13 : zP1 203 13 = some (.iconst 1, 0, 0, 0) := zp_l zq_203 rfl
theorem zi_203_13 : rv E d 203 13 [l0, l1] [] h = rv E d 203 14 [l0, l1] [.int 1] h := rv_const zp_203_13 (by decide)
theorem zp_203_14 : zP1 203 14 = some (.goto 4, 0, 0, 0) := zp_l zq_203 rfl
theorem zi_203_14 {s0 : Int32} : rv E d 203 14 [l0, l1] [.int s0] h = rv E d 203 18 [l0, l1] [.int s0] h := rv_goto zp_203_14 rfl
theorem zp_203_17 : zP1 203 17 = some (.iconst 0, 0, 0, 0) := zp_l zq_203 rfl
theorem zi_203_17 : rv E d 203 17 [l0, l1] [] h = rv E d 203 18 [l0, l1] [.int 0] h := rv_const zp_203_17 (by decide)
theorem zp_203_18 : zP1 203 18 = some (.ireturn, 0, 0, 0) := zp_l zq_203 rfl
theorem zi_203_18 : rv E d 203 18 [l0, l1] [.int x] h = if narrow .boolean (.int x) = .int x then some (some (.int x), h) else none := rv_rets zp_203_18 (zM_of zq_203)
theorem zp_204_0 : zP1 204 0 = some (.bipush 110, 0, 0, 0) := zp_l zq_204 rfl
theorem zi_204_0 : rv E d 204 0 [l0, l1] [] h = rv E d 204 2 [l0, l1] [.int 110] h := rv_bip zp_204_0 (by decide)
theorem zp_204_2 : zP1 204 2 = some (.bipush 9, 0, 0, 0) := zp_l zq_204 rfl
theorem zi_204_2 {s0 : Int32} : rv E d 204 2 [l0, l1] [.int s0] h = rv E d 204 4 [l0, l1] [.int 9, .int s0] h := rv_bip zp_204_2 (by decide)
theorem zp_204_4 : zP1 204 4 = some (.iload_n 0, 0, 0, 0) := zp_l zq_204 rfl
theorem zi_204_4 {s0 : Int32} {s1 : Int32} : rv E d 204 4 [.int x, l1] [.int s0, .int s1] h = rv E d 204 5 [.int x, l1] [.int x, .int s0, .int s1] h := rv_loc zp_204_4 rfl rfl
theorem zp_204_5 : zP1 204 5 = some (.imul, 0, 0, 0) := zp_l zq_204 rfl
theorem zi_204_5 {s2 : Int32} : rv E d 204 5 [l0, l1] [.int y, .int x, .int s2] h = rv E d 204 6 [l0, l1] [.int (x * y), .int s2] h := rv_stk zp_204_5 rfl rfl
theorem zp_204_6 : zP1 204 6 = some (.iadd, 0, 0, 0) := zp_l zq_204 rfl
theorem zi_204_6 : rv E d 204 6 [l0, l1] [.int y, .int x] h = rv E d 204 7 [l0, l1] [.int (x + y)] h := rv_stk zp_204_6 rfl rfl
theorem zp_204_7 : zP1 204 7 = some (.iload_n 1, 0, 0, 0) := zp_l zq_204 rfl
theorem zi_204_7 {s0 : Int32} : rv E d 204 7 [l0, .int x] [.int s0] h = rv E d 204 8 [l0, .int x] [.int x, .int s0] h := rv_loc zp_204_7 rfl rfl
theorem zp_204_8 : zP1 204 8 = some (.iadd, 0, 0, 0) := zp_l zq_204 rfl
theorem zi_204_8 : rv E d 204 8 [l0, l1] [.int y, .int x] h = rv E d 204 9 [l0, l1] [.int (x + y)] h := rv_stk zp_204_8 rfl rfl
theorem zp_204_9 : zP1 204 9 = some (.ireturn, 0, 0, 0) := zp_l zq_204 rfl
theorem zi_204_9 : rv E d 204 9 [l0, l1] [.int x] h = some (some (.int x), h) := rv_reti zp_204_9 (zM_of zq_204)
theorem zp_205_0 : zP1 205 0 = some (.sipush 794, 0, 0, 0) := zp_l zq_205 rfl
theorem zi_205_0 : rv E d 205 0 [l0, l1] [] h = rv E d 205 3 [l0, l1] [.int 794] h := rv_sip zp_205_0 (by decide)
theorem zp_205_3 : zP1 205 3 = some (.bipush 6, 0, 0, 0) := zp_l zq_205 rfl
theorem zi_205_3 {s0 : Int32} : rv E d 205 3 [l0, l1] [.int s0] h = rv E d 205 5 [l0, l1] [.int 6, .int s0] h := rv_bip zp_205_3 (by decide)
theorem zp_205_5 : zP1 205 5 = some (.iload_n 0, 0, 0, 0) := zp_l zq_205 rfl
theorem zi_205_5 {s0 : Int32} {s1 : Int32} : rv E d 205 5 [.int x, l1] [.int s0, .int s1] h = rv E d 205 6 [.int x, l1] [.int x, .int s0, .int s1] h := rv_loc zp_205_5 rfl rfl
theorem zp_205_6 : zP1 205 6 = some (.imul, 0, 0, 0) := zp_l zq_205 rfl
theorem zi_205_6 {s2 : Int32} : rv E d 205 6 [l0, l1] [.int y, .int x, .int s2] h = rv E d 205 7 [l0, l1] [.int (x * y), .int s2] h := rv_stk zp_205_6 rfl rfl
theorem zp_205_7 : zP1 205 7 = some (.iadd, 0, 0, 0) := zp_l zq_205 rfl
theorem zi_205_7 : rv E d 205 7 [l0, l1] [.int y, .int x] h = rv E d 205 8 [l0, l1] [.int (x + y)] h := rv_stk zp_205_7 rfl rfl
theorem zp_205_8 : zP1 205 8 = some (.iload_n 1, 0, 0, 0) := zp_l zq_205 rfl
theorem zi_205_8 {s0 : Int32} : rv E d 205 8 [l0, .int x] [.int s0] h = rv E d 205 9 [l0, .int x] [.int x, .int s0] h := rv_loc zp_205_8 rfl rfl
theorem zp_205_9 : zP1 205 9 = some (.iadd, 0, 0, 0) := zp_l zq_205 rfl
theorem zi_205_9 : rv E d 205 9 [l0, l1] [.int y, .int x] h = rv E d 205 10 [l0, l1] [.int (x + y)] h := rv_stk zp_205_9 rfl rfl
theorem zp_205_10 : zP1 205 10 = some (.ireturn, 0, 0, 0) := zp_l zq_205 rfl
theorem zi_205_10 : rv E d 205 10 [l0, l1] [.int x] h = some (some (.int x), h) := rv_reti zp_205_10 (zM_of zq_205)
theorem zp_206_0 : zP1 206 0 = some (.iload_n 0, 0, 0, 0) := zp_l zq_206 rfl
theorem zi_206_0 : rv E d 206 0 [.int x, l1] [] h = rv E d 206 1 [.int x, l1] [.int x] h := rv_loc zp_206_0 rfl rfl
theorem zp_206_1 : zP1 206 1 = some (.bipush 10, 0, 0, 0) := zp_l zq_206 rfl
theorem zi_206_1 {s0 : Int32} : rv E d 206 1 [l0, l1] [.int s0] h = rv E d 206 3 [l0, l1] [.int 10, .int s0] h := rv_bip zp_206_1 (by decide)
theorem zp_206_3 : zP1 206 3 = some (.idiv, 0, 0, 0) := zp_l zq_206 rfl
theorem zi_206_3 (hy : ¬ y = 0) : rv E d 206 3 [l0, l1] [.int y, .int x] h = rv E d 206 4 [l0, l1] [.int (x / y)] h := rv_stk zp_206_3 rfl (if_neg hy)
theorem zp_206_4 : zP1 206 4 = some (.iload_n 1, 0, 0, 0) := zp_l zq_206 rfl
theorem zi_206_4 {s0 : Int32} : rv E d 206 4 [l0, .int x] [.int s0] h = rv E d 206 5 [l0, .int x] [.int x, .int s0] h := rv_loc zp_206_4 rfl rfl
theorem zp_206_5 : zP1 206 5 = some (.bipush 10, 0, 0, 0) := zp_l zq_206 rfl
theorem zi_206_5 {s0 : Int32} {s1 : Int32} : rv E d 206 5 [l0, l1] [.int s0, .int s1] h = rv E d 206 7 [l0, l1] [.int 10, .int s0, .int s1] h := rv_bip zp_206_5 (by decide)
theorem zp_206_7 : zP1 206 7 = some (.idiv, 0, 0, 0) := zp_l zq_206 rfl
theorem zi_206_7 {s2 : Int32} (hy : ¬ y = 0) : rv E d 206 7 [l0, l1] [.int y, .int x, .int s2] h = rv E d 206 8 [l0, l1] [.int (x / y), .int s2] h := rv_stk zp_206_7 rfl (if_neg hy)
theorem zp_206_8 : zP1 206 8 = some (.isub, 0, 0, 0) := zp_l zq_206 rfl
theorem zi_206_8 : rv E d 206 8 [l0, l1] [.int y, .int x] h = rv E d 206 9 [l0, l1] [.int (x - y)] h := rv_stk zp_206_8 rfl rfl
theorem zp_206_9 : zP1 206 9 = some (.invokestatic 104, 323, 1, 0) := zp_r zq_206 rfl
-- call java/lang/Math.abs
theorem zi_206_9 {s0 : Int32} : rv E (d + 1) 206 9 [l0, l1] [.int s0] h = (rv E d 323 0 [.int s0] [] h).bind (zth E (d + 1) 206 12 [l0, l1] [] h) := rv_calls (as := [.int s0]) (rest := []) zp_206_9 (by decide) (zM_of zq_323) rfl ⟨Nat.le_of_ble_eq_true rfl, Nat.le_of_ble_eq_true rfl⟩
theorem zp_206_12 : zP1 206 12 = some (.iload_n 0, 0, 0, 0) := zp_l zq_206 rfl
theorem zi_206_12 {s0 : Int32} : rv E d 206 12 [.int x, l1] [.int s0] h = rv E d 206 13 [.int x, l1] [.int x, .int s0] h := rv_loc zp_206_12 rfl rfl
theorem zp_206_13 : zP1 206 13 = some (.bipush 10, 0, 0, 0) := zp_l zq_206 rfl
theorem zi_206_13 {s0 : Int32} {s1 : Int32} : rv E d 206 13 [l0, l1] [.int s0, .int s1] h = rv E d 206 15 [l0, l1] [.int 10, .int s0, .int s1] h := rv_bip zp_206_13 (by decide)
theorem zp_206_15 : zP1 206 15 = some (.irem, 0, 0, 0) := zp_l zq_206 rfl
theorem zi_206_15 {s2 : Int32} (hy : ¬ y = 0) : rv E d 206 15 [l0, l1] [.int y, .int x, .int s2] h = rv E d 206 16 [l0, l1] [.int (x - x / y * y), .int s2] h := rv_stk zp_206_15 rfl (if_neg hy)
theorem zp_206_16 : zP1 206 16 = some (.iload_n 1, 0, 0, 0) := zp_l zq_206 rfl
theorem zi_206_16 {s0 : Int32} {s1 : Int32} : rv E d 206 16 [l0, .int x] [.int s0, .int s1] h = rv E d 206 17 [l0, .int x] [.int x, .int s0, .int s1] h := rv_loc zp_206_16 rfl rfl
theorem zp_206_17 : zP1 206 17 = some (.bipush 10, 0, 0, 0) := zp_l zq_206 rfl
theorem zi_206_17 {s0 : Int32} {s1 : Int32} {s2 : Int32} : rv E d 206 17 [l0, l1] [.int s0, .int s1, .int s2] h = rv E d 206 19 [l0, l1] [.int 10, .int s0, .int s1, .int s2] h := rv_bip zp_206_17 (by decide)
theorem zp_206_19 : zP1 206 19 = some (.irem, 0, 0, 0) := zp_l zq_206 rfl
theorem zi_206_19 {s2 : Int32} {s3 : Int32} (hy : ¬ y = 0) : rv E d 206 19 [l0, l1] [.int y, .int x, .int s2, .int s3] h = rv E d 206 20 [l0, l1] [.int (x - x / y * y), .int s2, .int s3] h := rv_stk zp_206_19 rfl (if_neg hy)
theorem zp_206_20 : zP1 206 20 = some (.isub, 0, 0, 0) := zp_l zq_206 rfl
theorem zi_206_20 {s2 : Int32} : rv E d 206 20 [l0, l1] [.int y, .int x, .int s2] h = rv E d 206 21 [l0, l1] [.int (x - y), .int s2] h := rv_stk zp_206_20 rfl rfl
theorem zp_206_21 : zP1 206 21 = some (.invokestatic 104, 323, 1, 0) := zp_r zq_206 rfl
-- call java/lang/Math.abs
theorem zi_206_21 {s0 : Int32} {s1 : Int32} : rv E (d + 1) 206 21 [l0, l1] [.int s0, .int s1] h = (rv E d 323 0 [.int s0] [] h).bind (zth E (d + 1) 206 24 [l0, l1] [.int s1] h) := rv_calls (as := [.int s0]) (rest := [.int s1]) zp_206_21 (by decide) (zM_of zq_323) rfl ⟨Nat.le_of_ble_eq_true rfl, Nat.le_of_ble_eq_true rfl⟩
theorem zp_206_24 : zP1 206 24 = some (.iadd, 0, 0, 0) := zp_l zq_206 rfl
theorem zi_206_24 : rv E d 206 24 [l0, l1] [.int y, .int x] h = rv E d 206 25 [l0, l1] [.int (x + y)] h := rv_stk zp_206_24 rfl rfl
theorem zp_206_25 : zP1 206 25 = some (.ireturn, 0, 0, 0) := zp_l zq_206 rfl
theorem zi_206_25 : rv E d 206 25 [l0, l1] [.int x] h = some (some (.int x), h) := rv_reti zp_206_25 (zM_of zq_206)
theorem zp_215_0 : zP1 215 0 = some (.aload_n 0, 0, 0, 0) := zp_l zq_215 rfl
theorem zi_215_0 : rv E d 215 0 [.ref k, l1, l2, l3] [] h = rv E d 215 1 [.ref k, l1, l2, l3] [.ref k] h := rv_loc zp_215_0 rfl rfl
theorem zp_215_1 : zP1 215 1 = some (.iload_n 1, 0, 0, 0) := zp_l zq_215 rfl
theorem zi_215_1 {s0 : Nat} : rv E d 215 1 [l0, .int x, l2, l3] [.ref s0] h = rv E d 215 2 [l0, .int x, l2, l3] [.int x, .ref s0] h := rv_loc zp_215_1 rfl rfl
theorem zp_215_2 : zP1 215 2 = some (.invokevirtual 138, 202, 1, 11) := zp_r zq_215 rfl
-- call PeaceRingModel.isPerson
theorem zi_215_2 {s0 : Int32} : rv E (d + 1) 215 2 [l0, l1, l2, l3] [.int s0, .ref k] h = if zrc h k 11 = true then (rv E d 202 0 [.ref k, .int s0] [] h).bind (zth E (d + 1) 215 5 [l0, l1, l2, l3] [] h) else none := rv_callv (as := [.int s0]) (rest := []) zp_215_2 (by decide) (by decide) (zM_of zq_202) rfl ⟨Nat.le_of_ble_eq_true rfl, Nat.le_of_ble_eq_true rfl⟩
theorem zp_215_5 : zP1 215 5 = some (.ifCond .eq 10, 0, 0, 0) := zp_l zq_215 rfl
theorem zi_215_5 : rv E d 215 5 [l0, l1, l2, l3] [.int x] h = if x = 0 then rv E d 215 15 [l0, l1, l2, l3] [] h else rv E d 215 8 [l0, l1, l2, l3] [] h := rv_ifc zp_215_5 rfl rfl
theorem zp_215_8 : zP1 215 8 = some (.iload_n 2, 0, 0, 0) := zp_l zq_215 rfl
theorem zi_215_8 : rv E d 215 8 [l0, l1, .int x, l3] [] h = rv E d 215 9 [l0, l1, .int x, l3] [.int x] h := rv_loc zp_215_8 rfl rfl
theorem zp_215_9 : zP1 215 9 = some (.invokestatic 110, 200, 1, 0) := zp_r zq_215 rfl
-- call PeaceRingModel.isCell
theorem zi_215_9 {s0 : Int32} : rv E (d + 1) 215 9 [l0, l1, l2, l3] [.int s0] h = (rv E d 200 0 [.int s0] [] h).bind (zth E (d + 1) 215 12 [l0, l1, l2, l3] [] h) := rv_calls (as := [.int s0]) (rest := []) zp_215_9 (by decide) (zM_of zq_200) rfl ⟨Nat.le_of_ble_eq_true rfl, Nat.le_of_ble_eq_true rfl⟩
theorem zp_215_12 : zP1 215 12 = some (.ifCond .ne 5, 0, 0, 0) := zp_l zq_215 rfl
theorem zi_215_12 : rv E d 215 12 [l0, l1, l2, l3] [.int x] h = if ¬ x = 0 then rv E d 215 17 [l0, l1, l2, l3] [] h else rv E d 215 15 [l0, l1, l2, l3] [] h := rv_ifc zp_215_12 rfl rfl
theorem zp_215_15 : zP1 215 15 = some (.iconst (-1), 0, 0, 0) := zp_l zq_215 rfl
theorem zi_215_15 : rv E d 215 15 [l0, l1, l2, l3] [] h = rv E d 215 16 [l0, l1, l2, l3] [.int (-1)] h := rv_const zp_215_15 (by decide)
theorem zp_215_16 : zP1 215 16 = some (.ireturn, 0, 0, 0) := zp_l zq_215 rfl
theorem zi_215_16 : rv E d 215 16 [l0, l1, l2, l3] [.int x] h = some (some (.int x), h) := rv_reti zp_215_16 (zM_of zq_215)
theorem zp_215_17 : zP1 215 17 = some (.aload_n 0, 0, 0, 0) := zp_l zq_215 rfl
theorem zi_215_17 : rv E d 215 17 [.ref k, l1, l2, l3] [] h = rv E d 215 18 [.ref k, l1, l2, l3] [.ref k] h := rv_loc zp_215_17 rfl rfl
theorem zp_215_18 : zP1 215 18 = some (.iload_n 2, 0, 0, 0) := zp_l zq_215 rfl
theorem zi_215_18 {s0 : Nat} : rv E d 215 18 [l0, l1, .int x, l3] [.ref s0] h = rv E d 215 19 [l0, l1, .int x, l3] [.int x, .ref s0] h := rv_loc zp_215_18 rfl rfl
theorem zp_215_19 : zP1 215 19 = some (.invokevirtual 114, 203, 1, 11) := zp_r zq_215 rfl
-- call PeaceRingModel.isWall
theorem zi_215_19 {s0 : Int32} : rv E (d + 1) 215 19 [l0, l1, l2, l3] [.int s0, .ref k] h = if zrc h k 11 = true then (rv E d 203 0 [.ref k, .int s0] [] h).bind (zth E (d + 1) 215 22 [l0, l1, l2, l3] [] h) else none := rv_callv (as := [.int s0]) (rest := []) zp_215_19 (by decide) (by decide) (zM_of zq_203) rfl ⟨Nat.le_of_ble_eq_true rfl, Nat.le_of_ble_eq_true rfl⟩
theorem zp_215_22 : zP1 215 22 = some (.ifCond .eq 6, 0, 0, 0) := zp_l zq_215 rfl
theorem zi_215_22 : rv E d 215 22 [l0, l1, l2, l3] [.int x] h = if x = 0 then rv E d 215 28 [l0, l1, l2, l3] [] h else rv E d 215 25 [l0, l1, l2, l3] [] h := rv_ifc zp_215_22 rfl rfl
theorem zp_215_25 : zP1 215 25 = some (.bipush (-4), 0, 0, 0) := zp_l zq_215 rfl
theorem zi_215_25 : rv E d 215 25 [l0, l1, l2, l3] [] h = rv E d 215 27 [l0, l1, l2, l3] [.int (-4)] h := rv_bip zp_215_25 (by decide)
theorem zp_215_27 : zP1 215 27 = some (.ireturn, 0, 0, 0) := zp_l zq_215 rfl
theorem zi_215_27 : rv E d 215 27 [l0, l1, l2, l3] [.int x] h = some (some (.int x), h) := rv_reti zp_215_27 (zM_of zq_215)
theorem zp_215_28 : zP1 215 28 = some (.aload_n 0, 0, 0, 0) := zp_l zq_215 rfl
theorem zi_215_28 : rv E d 215 28 [.ref k, l1, l2, l3] [] h = rv E d 215 29 [.ref k, l1, l2, l3] [.ref k] h := rv_loc zp_215_28 rfl rfl
theorem zp_215_29 : zP1 215 29 = some (.getfield 9, 11, 0, 0) := zp_r zq_215 rfl
theorem zi_215_29 : rv E d 215 29 [l0, l1, l2, l3] [.ref k] h = (zfl h k 11 0).bind (fun v => rv E d 215 32 [l0, l1, l2, l3] [v] h) := rv_getf zp_215_29 (by decide)
theorem zp_215_32 : zP1 215 32 = some (.iload_n 1, 0, 0, 0) := zp_l zq_215 rfl
theorem zi_215_32 {s0 : Nat} : rv E d 215 32 [l0, .int x, l2, l3] [.ref s0] h = rv E d 215 33 [l0, .int x, l2, l3] [.int x, .ref s0] h := rv_loc zp_215_32 rfl rfl
theorem zp_215_33 : zP1 215 33 = some (.iconst 0, 0, 0, 0) := zp_l zq_215 rfl
theorem zi_215_33 {s0 : Int32} {s1 : Nat} : rv E d 215 33 [l0, l1, l2, l3] [.int s0, .ref s1] h = rv E d 215 34 [l0, l1, l2, l3] [.int 0, .int s0, .ref s1] h := rv_const zp_215_33 (by decide)
theorem zp_215_34 : zP1 215 34 = some (.invokestatic 129, 204, 2, 0) := zp_r zq_215 rfl
-- call PeaceRingModel.of
theorem zi_215_34 {s0 : Int32} {s1 : Int32} {s2 : Nat} : rv E (d + 1) 215 34 [l0, l1, l2, l3] [.int s0, .int s1, .ref s2] h = (rv E d 204 0 [.int s1, .int s0] [] h).bind (zth E (d + 1) 215 37 [l0, l1, l2, l3] [.ref s2] h) := rv_calls (as := [.int s1, .int s0]) (rest := [.ref s2]) zp_215_34 (by decide) (zM_of zq_204) rfl ⟨Nat.le_of_ble_eq_true rfl, Nat.le_of_ble_eq_true rfl⟩
theorem zp_215_37 : zP1 215 37 = some (.iaload, 0, 0, 0) := zp_l zq_215 rfl
theorem zi_215_37 : rv E d 215 37 [l0, l1, l2, l3] [.int x, .ref k] h = (zgi E h k x 0).bind (fun y => rv E d 215 38 [l0, l1, l2, l3] [.int y] h) := rv_ald (Or.inl ⟨rfl, rfl⟩) zp_215_37
theorem zp_215_38 : zP1 215 38 = some (.istore_n 3, 0, 0, 0) := zp_l zq_215 rfl
theorem zi_215_38 (hc : l2.category = 1) : rv E d 215 38 [l0, l1, l2, l3] [.int x] h = rv E d 215 39 [l0, l1, l2, .int x] [] h := rv_sto (i := 3) (t := 0) zp_215_38 rfl rfl (by simp [zsto, zlong, hc])
theorem zp_215_39 : zP1 215 39 = some (.aload_n 0, 0, 0, 0) := zp_l zq_215 rfl
theorem zi_215_39 : rv E d 215 39 [.ref k, l1, l2, l3] [] h = rv E d 215 40 [.ref k, l1, l2, l3] [.ref k] h := rv_loc zp_215_39 rfl rfl
theorem zp_215_40 : zP1 215 40 = some (.getfield 9, 11, 0, 0) := zp_r zq_215 rfl
theorem zi_215_40 : rv E d 215 40 [l0, l1, l2, l3] [.ref k] h = (zfl h k 11 0).bind (fun v => rv E d 215 43 [l0, l1, l2, l3] [v] h) := rv_getf zp_215_40 (by decide)
theorem zp_215_43 : zP1 215 43 = some (.iload_n 1, 0, 0, 0) := zp_l zq_215 rfl
theorem zi_215_43 {s0 : Nat} : rv E d 215 43 [l0, .int x, l2, l3] [.ref s0] h = rv E d 215 44 [l0, .int x, l2, l3] [.int x, .ref s0] h := rv_loc zp_215_43 rfl rfl
theorem zp_215_44 : zP1 215 44 = some (.iconst 0, 0, 0, 0) := zp_l zq_215 rfl
theorem zi_215_44 {s0 : Int32} {s1 : Nat} : rv E d 215 44 [l0, l1, l2, l3] [.int s0, .ref s1] h = rv E d 215 45 [l0, l1, l2, l3] [.int 0, .int s0, .ref s1] h := rv_const zp_215_44 (by decide)
theorem zp_215_45 : zP1 215 45 = some (.invokestatic 129, 204, 2, 0) := zp_r zq_215 rfl
-- call PeaceRingModel.of
theorem zi_215_45 {s0 : Int32} {s1 : Int32} {s2 : Nat} : rv E (d + 1) 215 45 [l0, l1, l2, l3] [.int s0, .int s1, .ref s2] h = (rv E d 204 0 [.int s1, .int s0] [] h).bind (zth E (d + 1) 215 48 [l0, l1, l2, l3] [.ref s2] h) := rv_calls (as := [.int s1, .int s0]) (rest := [.ref s2]) zp_215_45 (by decide) (zM_of zq_204) rfl ⟨Nat.le_of_ble_eq_true rfl, Nat.le_of_ble_eq_true rfl⟩
theorem zp_215_48 : zP1 215 48 = some (.iload_n 2, 0, 0, 0) := zp_l zq_215 rfl
theorem zi_215_48 {s0 : Int32} {s1 : Nat} : rv E d 215 48 [l0, l1, .int x, l3] [.int s0, .ref s1] h = rv E d 215 49 [l0, l1, .int x, l3] [.int x, .int s0, .ref s1] h := rv_loc zp_215_48 rfl rfl
theorem zp_215_49 : zP1 215 49 = some (.iastore, 0, 0, 0) := zp_l zq_215 rfl
theorem zi_215_49 : rv E d 215 49 [l0, l1, l2, l3] [.int y, .int x, .ref k] h = (zsi h k x y 0).bind (fun h2 => rv E d 215 50 [l0, l1, l2, l3] [] h2) := rv_ast (Or.inl ⟨rfl, rfl⟩) zp_215_49
theorem zp_215_50 : zP1 215 50 = some (.aload_n 0, 0, 0, 0) := zp_l zq_215 rfl
theorem zi_215_50 : rv E d 215 50 [.ref k, l1, l2, l3] [] h = rv E d 215 51 [.ref k, l1, l2, l3] [.ref k] h := rv_loc zp_215_50 rfl rfl
theorem zp_215_51 : zP1 215 51 = some (.getfield 9, 11, 0, 0) := zp_r zq_215 rfl
theorem zi_215_51 : rv E d 215 51 [l0, l1, l2, l3] [.ref k] h = (zfl h k 11 0).bind (fun v => rv E d 215 54 [l0, l1, l2, l3] [v] h) := rv_getf zp_215_51 (by decide)
theorem zp_215_54 : zP1 215 54 = some (.iload_n 1, 0, 0, 0) := zp_l zq_215 rfl
theorem zi_215_54 {s0 : Nat} : rv E d 215 54 [l0, .int x, l2, l3] [.ref s0] h = rv E d 215 55 [l0, .int x, l2, l3] [.int x, .ref s0] h := rv_loc zp_215_54 rfl rfl
theorem zp_215_55 : zP1 215 55 = some (.iconst 4, 0, 0, 0) := zp_l zq_215 rfl
theorem zi_215_55 {s0 : Int32} {s1 : Nat} : rv E d 215 55 [l0, l1, l2, l3] [.int s0, .ref s1] h = rv E d 215 56 [l0, l1, l2, l3] [.int 4, .int s0, .ref s1] h := rv_const zp_215_55 (by decide)
theorem zp_215_56 : zP1 215 56 = some (.invokestatic 129, 204, 2, 0) := zp_r zq_215 rfl
-- call PeaceRingModel.of
theorem zi_215_56 {s0 : Int32} {s1 : Int32} {s2 : Nat} : rv E (d + 1) 215 56 [l0, l1, l2, l3] [.int s0, .int s1, .ref s2] h = (rv E d 204 0 [.int s1, .int s0] [] h).bind (zth E (d + 1) 215 59 [l0, l1, l2, l3] [.ref s2] h) := rv_calls (as := [.int s1, .int s0]) (rest := [.ref s2]) zp_215_56 (by decide) (zM_of zq_204) rfl ⟨Nat.le_of_ble_eq_true rfl, Nat.le_of_ble_eq_true rfl⟩
theorem zp_215_59 : zP1 215 59 = some (.bipush (-3), 0, 0, 0) := zp_l zq_215 rfl
theorem zi_215_59 {s0 : Int32} {s1 : Nat} : rv E d 215 59 [l0, l1, l2, l3] [.int s0, .ref s1] h = rv E d 215 61 [l0, l1, l2, l3] [.int (-3), .int s0, .ref s1] h := rv_bip zp_215_59 (by decide)
theorem zp_215_61 : zP1 215 61 = some (.iastore, 0, 0, 0) := zp_l zq_215 rfl
theorem zi_215_61 : rv E d 215 61 [l0, l1, l2, l3] [.int y, .int x, .ref k] h = (zsi h k x y 0).bind (fun h2 => rv E d 215 62 [l0, l1, l2, l3] [] h2) := rv_ast (Or.inl ⟨rfl, rfl⟩) zp_215_61
theorem zp_215_62 : zP1 215 62 = some (.iload_n 3, 0, 0, 0) := zp_l zq_215 rfl
theorem zi_215_62 : rv E d 215 62 [l0, l1, l2, .int x] [] h = rv E d 215 63 [l0, l1, l2, .int x] [.int x] h := rv_loc zp_215_62 rfl rfl
theorem zp_215_63 : zP1 215 63 = some (.ireturn, 0, 0, 0) := zp_l zq_215 rfl
theorem zi_215_63 : rv E d 215 63 [l0, l1, l2, l3] [.int x] h = some (some (.int x), h) := rv_reti zp_215_63 (zM_of zq_215)
theorem zp_216_0 : zP1 216 0 = some (.aload_n 0, 0, 0, 0) := zp_l zq_216 rfl
theorem zi_216_0 : rv E d 216 0 [.ref k, l1, l2, l3, l4] [] h = rv E d 216 1 [.ref k, l1, l2, l3, l4] [.ref k] h := rv_loc zp_216_0 rfl rfl
theorem zp_216_1 : zP1 216 1 = some (.iload_n 1, 0, 0, 0) := zp_l zq_216 rfl
theorem zi_216_1 {s0 : Nat} : rv E d 216 1 [l0, .int x, l2, l3, l4] [.ref s0] h = rv E d 216 2 [l0, .int x, l2, l3, l4] [.int x, .ref s0] h := rv_loc zp_216_1 rfl rfl
theorem zp_216_2 : zP1 216 2 = some (.invokevirtual 138, 202, 1, 11) := zp_r zq_216 rfl
-- call PeaceRingModel.isPerson
theorem zi_216_2 {s0 : Int32} : rv E (d + 1) 216 2 [l0, l1, l2, l3, l4] [.int s0, .ref k] h = if zrc h k 11 = true then (rv E d 202 0 [.ref k, .int s0] [] h).bind (zth E (d + 1) 216 5 [l0, l1, l2, l3, l4] [] h) else none := rv_callv (as := [.int s0]) (rest := []) zp_216_2 (by decide) (by decide) (zM_of zq_202) rfl ⟨Nat.le_of_ble_eq_true rfl, Nat.le_of_ble_eq_true rfl⟩
theorem zp_216_5 : zP1 216 5 = some (.ifCond .eq 13, 0, 0, 0) := zp_l zq_216 rfl
theorem zi_216_5 : rv E d 216 5 [l0, l1, l2, l3, l4] [.int x] h = if x = 0 then rv E d 216 18 [l0, l1, l2, l3, l4] [] h else rv E d 216 8 [l0, l1, l2, l3, l4] [] h := rv_ifc zp_216_5 rfl rfl
theorem zp_216_8 : zP1 216 8 = some (.iload_n 2, 0, 0, 0) := zp_l zq_216 rfl
theorem zi_216_8 : rv E d 216 8 [l0, l1, .int x, l3, l4] [] h = rv E d 216 9 [l0, l1, .int x, l3, l4] [.int x] h := rv_loc zp_216_8 rfl rfl
theorem zp_216_9 : zP1 216 9 = some (.iconst 0, 0, 0, 0) := zp_l zq_216 rfl
theorem zi_216_9 {s0 : Int32} : rv E d 216 9 [l0, l1, l2, l3, l4] [.int s0] h = rv E d 216 10 [l0, l1, l2, l3, l4] [.int 0, .int s0] h := rv_const zp_216_9 (by decide)
theorem zp_216_10 : zP1 216 10 = some (.bipush 9, 0, 0, 0) := zp_l zq_216 rfl
theorem zi_216_10 {s0 : Int32} {s1 : Int32} : rv E d 216 10 [l0, l1, l2, l3, l4] [.int s0, .int s1] h = rv E d 216 12 [l0, l1, l2, l3, l4] [.int 9, .int s0, .int s1] h := rv_bip zp_216_10 (by decide)
theorem zp_216_12 : zP1 216 12 = some (.invokestatic 100, 199, 3, 0) := zp_r zq_216 rfl
-- call PeaceRingModel.within
theorem zi_216_12 {s0 : Int32} {s1 : Int32} {s2 : Int32} : rv E (d + 1) 216 12 [l0, l1, l2, l3, l4] [.int s0, .int s1, .int s2] h = (rv E d 199 0 [.int s2, .int s1, .int s0] [] h).bind (zth E (d + 1) 216 15 [l0, l1, l2, l3, l4] [] h) := rv_calls (as := [.int s2, .int s1, .int s0]) (rest := []) zp_216_12 (by decide) (zM_of zq_199) rfl ⟨Nat.le_of_ble_eq_true rfl, Nat.le_of_ble_eq_true rfl⟩
theorem zp_216_15 : zP1 216 15 = some (.ifCond .ne 5, 0, 0, 0) := zp_l zq_216 rfl
theorem zi_216_15 : rv E d 216 15 [l0, l1, l2, l3, l4] [.int x] h = if ¬ x = 0 then rv E d 216 20 [l0, l1, l2, l3, l4] [] h else rv E d 216 18 [l0, l1, l2, l3, l4] [] h := rv_ifc zp_216_15 rfl rfl
theorem zp_216_18 : zP1 216 18 = some (.iconst (-1), 0, 0, 0) := zp_l zq_216 rfl
theorem zi_216_18 : rv E d 216 18 [l0, l1, l2, l3, l4] [] h = rv E d 216 19 [l0, l1, l2, l3, l4] [.int (-1)] h := rv_const zp_216_18 (by decide)
theorem zp_216_19 : zP1 216 19 = some (.ireturn, 0, 0, 0) := zp_l zq_216 rfl
theorem zi_216_19 : rv E d 216 19 [l0, l1, l2, l3, l4] [.int x] h = some (some (.int x), h) := rv_reti zp_216_19 (zM_of zq_216)
theorem zp_216_20 : zP1 216 20 = some (.iload_n 2, 0, 0, 0) := zp_l zq_216 rfl
theorem zi_216_20 : rv E d 216 20 [l0, l1, .int x, l3, l4] [] h = rv E d 216 21 [l0, l1, .int x, l3, l4] [.int x] h := rv_loc zp_216_20 rfl rfl
theorem zp_216_21 : zP1 216 21 = some (.bipush 9, 0, 0, 0) := zp_l zq_216 rfl
theorem zi_216_21 {s0 : Int32} : rv E d 216 21 [l0, l1, l2, l3, l4] [.int s0] h = rv E d 216 23 [l0, l1, l2, l3, l4] [.int 9, .int s0] h := rv_bip zp_216_21 (by decide)
theorem zp_216_23 : zP1 216 23 = some (.if_icmp .ge 14, 0, 0, 0) := zp_l zq_216 rfl
theorem zi_216_23 : rv E d 216 23 [l0, l1, l2, l3, l4] [.int y, .int x] h = if y ≤ x then rv E d 216 37 [l0, l1, l2, l3, l4] [] h else rv E d 216 26 [l0, l1, l2, l3, l4] [] h := rv_icmp zp_216_23 rfl rfl
theorem zp_216_26 : zP1 216 26 = some (.aload_n 0, 0, 0, 0) := zp_l zq_216 rfl
theorem zi_216_26 : rv E d 216 26 [.ref k, l1, l2, l3, l4] [] h = rv E d 216 27 [.ref k, l1, l2, l3, l4] [.ref k] h := rv_loc zp_216_26 rfl rfl
theorem zp_216_27 : zP1 216 27 = some (.getfield 9, 11, 0, 0) := zp_r zq_216 rfl
theorem zi_216_27 : rv E d 216 27 [l0, l1, l2, l3, l4] [.ref k] h = (zfl h k 11 0).bind (fun v => rv E d 216 30 [l0, l1, l2, l3, l4] [v] h) := rv_getf zp_216_27 (by decide)
theorem zp_216_30 : zP1 216 30 = some (.iload_n 1, 0, 0, 0) := zp_l zq_216 rfl
theorem zi_216_30 {s0 : Nat} : rv E d 216 30 [l0, .int x, l2, l3, l4] [.ref s0] h = rv E d 216 31 [l0, .int x, l2, l3, l4] [.int x, .ref s0] h := rv_loc zp_216_30 rfl rfl
theorem zp_216_31 : zP1 216 31 = some (.iload_n 2, 0, 0, 0) := zp_l zq_216 rfl
theorem zi_216_31 {s0 : Int32} {s1 : Nat} : rv E d 216 31 [l0, l1, .int x, l3, l4] [.int s0, .ref s1] h = rv E d 216 32 [l0, l1, .int x, l3, l4] [.int x, .int s0, .ref s1] h := rv_loc zp_216_31 rfl rfl
theorem zp_216_32 : zP1 216 32 = some (.invokestatic 129, 204, 2, 0) := zp_r zq_216 rfl
-- call PeaceRingModel.of
theorem zi_216_32 {s0 : Int32} {s1 : Int32} {s2 : Nat} : rv E (d + 1) 216 32 [l0, l1, l2, l3, l4] [.int s0, .int s1, .ref s2] h = (rv E d 204 0 [.int s1, .int s0] [] h).bind (zth E (d + 1) 216 35 [l0, l1, l2, l3, l4] [.ref s2] h) := rv_calls (as := [.int s1, .int s0]) (rest := [.ref s2]) zp_216_32 (by decide) (zM_of zq_204) rfl ⟨Nat.le_of_ble_eq_true rfl, Nat.le_of_ble_eq_true rfl⟩
theorem zp_216_35 : zP1 216 35 = some (.iaload, 0, 0, 0) := zp_l zq_216 rfl
theorem zi_216_35 : rv E d 216 35 [l0, l1, l2, l3, l4] [.int x, .ref k] h = (zgi E h k x 0).bind (fun y => rv E d 216 36 [l0, l1, l2, l3, l4] [.int y] h) := rv_ald (Or.inl ⟨rfl, rfl⟩) zp_216_35
theorem zp_216_36 : zP1 216 36 = some (.ireturn, 0, 0, 0) := zp_l zq_216 rfl
theorem zi_216_36 : rv E d 216 36 [l0, l1, l2, l3, l4] [.int x] h = some (some (.int x), h) := rv_reti zp_216_36 (zM_of zq_216)
theorem zp_216_37 : zP1 216 37 = some (.iconst 0, 0, 0, 0) := zp_l zq_216 rfl
theorem zi_216_37 : rv E d 216 37 [l0, l1, l2, l3, l4] [] h = rv E d 216 38 [l0, l1, l2, l3, l4] [.int 0] h := rv_const zp_216_37 (by decide)
theorem zp_216_38 : zP1 216 38 = some (.istore_n 3, 0, 0, 0) := zp_l zq_216 rfl
theorem zi_216_38 (hc : l2.category = 1) : rv E d 216 38 [l0, l1, l2, l3, l4] [.int x] h = rv E d 216 39 [l0, l1, l2, .int x, l4] [] h := rv_sto (i := 3) (t := 0) zp_216_38 rfl rfl (by simp [zsto, zlong, hc])
theorem zp_216_39 : zP1 216 39 = some (.iconst 0, 0, 0, 0) := zp_l zq_216 rfl
theorem zi_216_39 : rv E d 216 39 [l0, l1, l2, l3, l4] [] h = rv E d 216 40 [l0, l1, l2, l3, l4] [.int 0] h := rv_const zp_216_39 (by decide)
theorem zp_216_40 : zP1 216 40 = some (.istore 4, 0, 0, 0) := zp_l zq_216 rfl
theorem zi_216_40 (hc : l3.category = 1) : rv E d 216 40 [l0, l1, l2, l3, l4] [.int x] h = rv E d 216 42 [l0, l1, l2, l3, .int x] [] h := rv_sto (i := 4) (t := 0) zp_216_40 rfl rfl (by simp [zsto, zlong, hc])
theorem zp_216_42 : zP1 216 42 = some (.iload 4, 0, 0, 0) := zp_l zq_216 rfl
theorem zi_216_42 : rv E d 216 42 [l0, l1, l2, l3, .int x] [] h = rv E d 216 44 [l0, l1, l2, l3, .int x] [.int x] h := rv_loc zp_216_42 rfl rfl
theorem zp_216_44 : zP1 216 44 = some (.aload_n 0, 0, 0, 0) := zp_l zq_216 rfl
theorem zi_216_44 {s0 : Int32} : rv E d 216 44 [.ref k, l1, l2, l3, l4] [.int s0] h = rv E d 216 45 [.ref k, l1, l2, l3, l4] [.ref k, .int s0] h := rv_loc zp_216_44 rfl rfl
theorem zp_216_45 : zP1 216 45 = some (.getfield 9, 11, 0, 0) := zp_r zq_216 rfl
theorem zi_216_45 {s1 : Int32} : rv E d 216 45 [l0, l1, l2, l3, l4] [.ref k, .int s1] h = (zfl h k 11 0).bind (fun v => rv E d 216 48 [l0, l1, l2, l3, l4] [v, .int s1] h) := rv_getf zp_216_45 (by decide)
theorem zp_216_48 : zP1 216 48 = some (.iconst 4, 0, 0, 0) := zp_l zq_216 rfl
theorem zi_216_48 {s0 : Nat} {s1 : Int32} : rv E d 216 48 [l0, l1, l2, l3, l4] [.ref s0, .int s1] h = rv E d 216 49 [l0, l1, l2, l3, l4] [.int 4, .ref s0, .int s1] h := rv_const zp_216_48 (by decide)
theorem zp_216_49 : zP1 216 49 = some (.iaload, 0, 0, 0) := zp_l zq_216 rfl
theorem zi_216_49 {s2 : Int32} : rv E d 216 49 [l0, l1, l2, l3, l4] [.int x, .ref k, .int s2] h = (zgi E h k x 0).bind (fun y => rv E d 216 50 [l0, l1, l2, l3, l4] [.int y, .int s2] h) := rv_ald (Or.inl ⟨rfl, rfl⟩) zp_216_49
theorem zp_216_50 : zP1 216 50 = some (.if_icmp .ge 32, 0, 0, 0) := zp_l zq_216 rfl
theorem zi_216_50 : rv E d 216 50 [l0, l1, l2, l3, l4] [.int y, .int x] h = if y ≤ x then rv E d 216 82 [l0, l1, l2, l3, l4] [] h else rv E d 216 53 [l0, l1, l2, l3, l4] [] h := rv_icmp zp_216_50 rfl rfl
theorem zp_216_53 : zP1 216 53 = some (.iload_n 3, 0, 0, 0) := zp_l zq_216 rfl
theorem zi_216_53 : rv E d 216 53 [l0, l1, l2, .int x, l4] [] h = rv E d 216 54 [l0, l1, l2, .int x, l4] [.int x] h := rv_loc zp_216_53 rfl rfl
theorem zp_216_54 : zP1 216 54 = some (.aload_n 0, 0, 0, 0) := zp_l zq_216 rfl
theorem zi_216_54 {s0 : Int32} : rv E d 216 54 [.ref k, l1, l2, l3, l4] [.int s0] h = rv E d 216 55 [.ref k, l1, l2, l3, l4] [.ref k, .int s0] h := rv_loc zp_216_54 rfl rfl
theorem zp_216_55 : zP1 216 55 = some (.getfield 9, 11, 0, 0) := zp_r zq_216 rfl
theorem zi_216_55 {s1 : Int32} : rv E d 216 55 [l0, l1, l2, l3, l4] [.ref k, .int s1] h = (zfl h k 11 0).bind (fun v => rv E d 216 58 [l0, l1, l2, l3, l4] [v, .int s1] h) := rv_getf zp_216_55 (by decide)
theorem zp_216_58 : zP1 216 58 = some (.iload 4, 0, 0, 0) := zp_l zq_216 rfl
theorem zi_216_58 {s0 : Nat} {s1 : Int32} : rv E d 216 58 [l0, l1, l2, l3, .int x] [.ref s0, .int s1] h = rv E d 216 60 [l0, l1, l2, l3, .int x] [.int x, .ref s0, .int s1] h := rv_loc zp_216_58 rfl rfl
theorem zp_216_60 : zP1 216 60 = some (.iconst 0, 0, 0, 0) := zp_l zq_216 rfl
theorem zi_216_60 {s0 : Int32} {s1 : Nat} {s2 : Int32} : rv E d 216 60 [l0, l1, l2, l3, l4] [.int s0, .ref s1, .int s2] h = rv E d 216 61 [l0, l1, l2, l3, l4] [.int 0, .int s0, .ref s1, .int s2] h := rv_const zp_216_60 (by decide)
theorem zp_216_61 : zP1 216 61 = some (.invokestatic 141, 205, 2, 0) := zp_r zq_216 rfl
-- call PeaceRingModel.ofDeed
theorem zi_216_61 {s0 : Int32} {s1 : Int32} {s2 : Nat} {s3 : Int32} : rv E (d + 1) 216 61 [l0, l1, l2, l3, l4] [.int s0, .int s1, .ref s2, .int s3] h = (rv E d 205 0 [.int s1, .int s0] [] h).bind (zth E (d + 1) 216 64 [l0, l1, l2, l3, l4] [.ref s2, .int s3] h) := rv_calls (as := [.int s1, .int s0]) (rest := [.ref s2, .int s3]) zp_216_61 (by decide) (zM_of zq_205) rfl ⟨Nat.le_of_ble_eq_true rfl, Nat.le_of_ble_eq_true rfl⟩
theorem zp_216_64 : zP1 216 64 = some (.iaload, 0, 0, 0) := zp_l zq_216 rfl
theorem zi_216_64 {s2 : Int32} : rv E d 216 64 [l0, l1, l2, l3, l4] [.int x, .ref k, .int s2] h = (zgi E h k x 0).bind (fun y => rv E d 216 65 [l0, l1, l2, l3, l4] [.int y, .int s2] h) := rv_ald (Or.inl ⟨rfl, rfl⟩) zp_216_64
theorem zp_216_65 : zP1 216 65 = some (.iload_n 1, 0, 0, 0) := zp_l zq_216 rfl
theorem zi_216_65 {s0 : Int32} {s1 : Int32} : rv E d 216 65 [l0, .int x, l2, l3, l4] [.int s0, .int s1] h = rv E d 216 66 [l0, .int x, l2, l3, l4] [.int x, .int s0, .int s1] h := rv_loc zp_216_65 rfl rfl
theorem zp_216_66 : zP1 216 66 = some (.if_icmp .ne 7, 0, 0, 0) := zp_l zq_216 rfl
theorem zi_216_66 {s2 : Int32} : rv E d 216 66 [l0, l1, l2, l3, l4] [.int y, .int x, .int s2] h = if ¬ x = y then rv E d 216 73 [l0, l1, l2, l3, l4] [.int s2] h else rv E d 216 69 [l0, l1, l2, l3, l4] [.int s2] h := rv_icmp zp_216_66 rfl rfl
theorem zp_216_69 : zP1 216 69 = some (.iconst 1, 0, 0, 0) := zp_l zq_216 rfl
theorem zi_216_69 {s0 : Int32} : rv E d 216 69 [l0, l1, l2, l3, l4] [.int s0] h = rv E d 216 70 [l0, l1, l2, l3, l4] [.int 1, .int s0] h := rv_const zp_216_69 (by decide)
theorem zp_216_70 : zP1 216 70 = some (.goto 4, 0, 0, 0) := zp_l zq_216 rfl
theorem zi_216_70 {s0 : Int32} {s1 : Int32} : rv E d 216 70 [l0, l1, l2, l3, l4] [.int s0, .int s1] h = rv E d 216 74 [l0, l1, l2, l3, l4] [.int s0, .int s1] h := rv_goto zp_216_70 rfl
theorem zp_216_73 : zP1 216 73 = some (.iconst 0, 0, 0, 0) := zp_l zq_216 rfl
theorem zi_216_73 {s0 : Int32} : rv E d 216 73 [l0, l1, l2, l3, l4] [.int s0] h = rv E d 216 74 [l0, l1, l2, l3, l4] [.int 0, .int s0] h := rv_const zp_216_73 (by decide)
theorem zp_216_74 : zP1 216 74 = some (.iadd, 0, 0, 0) := zp_l zq_216 rfl
theorem zi_216_74 : rv E d 216 74 [l0, l1, l2, l3, l4] [.int y, .int x] h = rv E d 216 75 [l0, l1, l2, l3, l4] [.int (x + y)] h := rv_stk zp_216_74 rfl rfl
theorem zp_216_75 : zP1 216 75 = some (.istore_n 3, 0, 0, 0) := zp_l zq_216 rfl
theorem zi_216_75 (hc : l2.category = 1) : rv E d 216 75 [l0, l1, l2, l3, l4] [.int x] h = rv E d 216 76 [l0, l1, l2, .int x, l4] [] h := rv_sto (i := 3) (t := 0) zp_216_75 rfl rfl (by simp [zsto, zlong, hc])
theorem zp_216_76 : zP1 216 76 = some (.iinc 4 1, 0, 0, 0) := zp_l zq_216 rfl
theorem zi_216_76 (hc : l3.category = 1) : rv E d 216 76 [l0, l1, l2, l3, .int x] [] h = rv E d 216 79 [l0, l1, l2, l3, .int (x + 1)] [] h := rv_inc zp_216_76 (by simp [zinc, zlong, hc]; try decide)
theorem zp_216_79 : zP1 216 79 = some (.goto (-37), 0, 0, 0) := zp_l zq_216 rfl
theorem zi_216_79 : rv E d 216 79 [l0, l1, l2, l3, l4] [] h = rv E d 216 42 [l0, l1, l2, l3, l4] [] h := rv_goto zp_216_79 rfl
theorem zp_216_82 : zP1 216 82 = some (.iload_n 3, 0, 0, 0) := zp_l zq_216 rfl
theorem zi_216_82 : rv E d 216 82 [l0, l1, l2, .int x, l4] [] h = rv E d 216 83 [l0, l1, l2, .int x, l4] [.int x] h := rv_loc zp_216_82 rfl rfl
theorem zp_216_83 : zP1 216 83 = some (.ireturn, 0, 0, 0) := zp_l zq_216 rfl
theorem zi_216_83 : rv E d 216 83 [l0, l1, l2, l3, l4] [.int x] h = some (some (.int x), h) := rv_reti zp_216_83 (zM_of zq_216)
theorem zp_322_0 : zP1 322 0 = some (.iload_n 0, 0, 0, 0) := zp_l zq_322 rfl
theorem zi_322_0 : rv E d 322 0 [.int x, l1, l2] [] h = rv E d 322 1 [.int x, l1, l2] [.int x] h := rv_loc zp_322_0 rfl rfl
theorem zp_322_1 : zP1 322 1 = some (.iload_n 1, 0, 0, 0) := zp_l zq_322 rfl
theorem zi_322_1 {s0 : Int32} : rv E d 322 1 [l0, .int x, l2] [.int s0] h = rv E d 322 2 [l0, .int x, l2] [.int x, .int s0] h := rv_loc zp_322_1 rfl rfl
theorem zp_322_2 : zP1 322 2 = some (.irem, 0, 0, 0) := zp_l zq_322 rfl
theorem zi_322_2 (hy : ¬ y = 0) : rv E d 322 2 [l0, l1, l2] [.int y, .int x] h = rv E d 322 3 [l0, l1, l2] [.int (x - x / y * y)] h := rv_stk zp_322_2 rfl (if_neg hy)
theorem zp_322_3 : zP1 322 3 = some (.istore_n 2, 0, 0, 0) := zp_l zq_322 rfl
theorem zi_322_3 (hc : l1.category = 1) : rv E d 322 3 [l0, l1, l2] [.int x] h = rv E d 322 4 [l0, l1, .int x] [] h := rv_sto (i := 2) (t := 0) zp_322_3 rfl rfl (by simp [zsto, zlong, hc])
theorem zp_322_4 : zP1 322 4 = some (.iload_n 0, 0, 0, 0) := zp_l zq_322 rfl
theorem zi_322_4 : rv E d 322 4 [.int x, l1, l2] [] h = rv E d 322 5 [.int x, l1, l2] [.int x] h := rv_loc zp_322_4 rfl rfl
theorem zp_322_5 : zP1 322 5 = some (.iload_n 1, 0, 0, 0) := zp_l zq_322 rfl
theorem zi_322_5 {s0 : Int32} : rv E d 322 5 [l0, .int x, l2] [.int s0] h = rv E d 322 6 [l0, .int x, l2] [.int x, .int s0] h := rv_loc zp_322_5 rfl rfl
theorem zp_322_6 : zP1 322 6 = some (.ixor, 0, 0, 0) := zp_l zq_322 rfl
theorem zi_322_6 : rv E d 322 6 [l0, l1, l2] [.int y, .int x] h = rv E d 322 7 [l0, l1, l2] [.int (x ^^^ y)] h := rv_stk zp_322_6 rfl rfl
theorem zp_322_7 : zP1 322 7 = some (.ifCond .ge 11, 0, 0, 0) := zp_l zq_322 rfl
theorem zi_322_7 : rv E d 322 7 [l0, l1, l2] [.int x] h = if 0 ≤ x then rv E d 322 18 [l0, l1, l2] [] h else rv E d 322 10 [l0, l1, l2] [] h := rv_ifc zp_322_7 rfl rfl
theorem zp_322_10 : zP1 322 10 = some (.iload_n 2, 0, 0, 0) := zp_l zq_322 rfl
theorem zi_322_10 : rv E d 322 10 [l0, l1, .int x] [] h = rv E d 322 11 [l0, l1, .int x] [.int x] h := rv_loc zp_322_10 rfl rfl
theorem zp_322_11 : zP1 322 11 = some (.ifCond .eq 7, 0, 0, 0) := zp_l zq_322 rfl
theorem zi_322_11 : rv E d 322 11 [l0, l1, l2] [.int x] h = if x = 0 then rv E d 322 18 [l0, l1, l2] [] h else rv E d 322 14 [l0, l1, l2] [] h := rv_ifc zp_322_11 rfl rfl
theorem zp_322_14 : zP1 322 14 = some (.iload_n 2, 0, 0, 0) := zp_l zq_322 rfl
theorem zi_322_14 : rv E d 322 14 [l0, l1, .int x] [] h = rv E d 322 15 [l0, l1, .int x] [.int x] h := rv_loc zp_322_14 rfl rfl
theorem zp_322_15 : zP1 322 15 = some (.iload_n 1, 0, 0, 0) := zp_l zq_322 rfl
theorem zi_322_15 {s0 : Int32} : rv E d 322 15 [l0, .int x, l2] [.int s0] h = rv E d 322 16 [l0, .int x, l2] [.int x, .int s0] h := rv_loc zp_322_15 rfl rfl
theorem zp_322_16 : zP1 322 16 = some (.iadd, 0, 0, 0) := zp_l zq_322 rfl
theorem zi_322_16 : rv E d 322 16 [l0, l1, l2] [.int y, .int x] h = rv E d 322 17 [l0, l1, l2] [.int (x + y)] h := rv_stk zp_322_16 rfl rfl
theorem zp_322_17 : zP1 322 17 = some (.ireturn, 0, 0, 0) := zp_l zq_322 rfl
theorem zi_322_17 : rv E d 322 17 [l0, l1, l2] [.int x] h = some (some (.int x), h) := rv_reti zp_322_17 (zM_of zq_322)
theorem zp_322_18 : zP1 322 18 = some (.iload_n 2, 0, 0, 0) := zp_l zq_322 rfl
theorem zi_322_18 : rv E d 322 18 [l0, l1, .int x] [] h = rv E d 322 19 [l0, l1, .int x] [.int x] h := rv_loc zp_322_18 rfl rfl
theorem zp_322_19 : zP1 322 19 = some (.ireturn, 0, 0, 0) := zp_l zq_322 rfl
theorem zi_322_19 : rv E d 322 19 [l0, l1, l2] [.int x] h = some (some (.int x), h) := rv_reti zp_322_19 (zM_of zq_322)
theorem zp_323_0 : zP1 323 0 = some (.iload_n 0, 0, 0, 0) := zp_l zq_323 rfl
theorem zi_323_0 : rv E d 323 0 [.int x] [] h = rv E d 323 1 [.int x] [.int x] h := rv_loc zp_323_0 rfl rfl
theorem zp_323_1 : zP1 323 1 = some (.ifCond .ge 8, 0, 0, 0) := zp_l zq_323 rfl
theorem zi_323_1 : rv E d 323 1 [l0] [.int x] h = if 0 ≤ x then rv E d 323 9 [l0] [] h else rv E d 323 4 [l0] [] h := rv_ifc zp_323_1 rfl rfl
theorem zp_323_4 : zP1 323 4 = some (.iload_n 0, 0, 0, 0) := zp_l zq_323 rfl
theorem zi_323_4 : rv E d 323 4 [.int x] [] h = rv E d 323 5 [.int x] [.int x] h := rv_loc zp_323_4 rfl rfl
theorem zp_323_5 : zP1 323 5 = some (.ineg, 0, 0, 0) := zp_l zq_323 rfl
theorem zi_323_5 : rv E d 323 5 [l0] [.int x] h = rv E d 323 6 [l0] [.int (-x)] h := rv_stk zp_323_5 rfl rfl
theorem zp_323_6 : zP1 323 6 = some (.goto 4, 0, 0, 0) := zp_l zq_323 rfl
theorem zi_323_6 {s0 : Int32} : rv E d 323 6 [l0] [.int s0] h = rv E d 323 10 [l0] [.int s0] h := rv_goto zp_323_6 rfl
theorem zp_323_9 : zP1 323 9 = some (.iload_n 0, 0, 0, 0) := zp_l zq_323 rfl
theorem zi_323_9 : rv E d 323 9 [.int x] [] h = rv E d 323 10 [.int x] [.int x] h := rv_loc zp_323_9 rfl rfl
theorem zp_323_10 : zP1 323 10 = some (.ireturn, 0, 0, 0) := zp_l zq_323 rfl
theorem zi_323_10 : rv E d 323 10 [l0] [.int x] h = some (some (.int x), h) := rv_reti zp_323_10 (zM_of zq_323)
theorem zp_324_0 : zP1 324 0 = some (.iload_n 0, 0, 0, 0) := zp_l zq_324 rfl
theorem zi_324_0 : rv E d 324 0 [.int x, l1] [] h = rv E d 324 1 [.int x, l1] [.int x] h := rv_loc zp_324_0 rfl rfl
theorem zp_324_1 : zP1 324 1 = some (.iload_n 1, 0, 0, 0) := zp_l zq_324 rfl
theorem zi_324_1 {s0 : Int32} : rv E d 324 1 [l0, .int x] [.int s0] h = rv E d 324 2 [l0, .int x] [.int x, .int s0] h := rv_loc zp_324_1 rfl rfl
theorem zp_324_2 : zP1 324 2 = some (.if_icmp .lt 7, 0, 0, 0) := zp_l zq_324 rfl
theorem zi_324_2 : rv E d 324 2 [l0, l1] [.int y, .int x] h = if x < y then rv E d 324 9 [l0, l1] [] h else rv E d 324 5 [l0, l1] [] h := rv_icmp zp_324_2 rfl rfl
theorem zp_324_5 : zP1 324 5 = some (.iload_n 0, 0, 0, 0) := zp_l zq_324 rfl
theorem zi_324_5 : rv E d 324 5 [.int x, l1] [] h = rv E d 324 6 [.int x, l1] [.int x] h := rv_loc zp_324_5 rfl rfl
theorem zp_324_6 : zP1 324 6 = some (.goto 4, 0, 0, 0) := zp_l zq_324 rfl
theorem zi_324_6 {s0 : Int32} : rv E d 324 6 [l0, l1] [.int s0] h = rv E d 324 10 [l0, l1] [.int s0] h := rv_goto zp_324_6 rfl
theorem zp_324_9 : zP1 324 9 = some (.iload_n 1, 0, 0, 0) := zp_l zq_324 rfl
theorem zi_324_9 : rv E d 324 9 [l0, .int x] [] h = rv E d 324 10 [l0, .int x] [.int x] h := rv_loc zp_324_9 rfl rfl
theorem zp_324_10 : zP1 324 10 = some (.ireturn, 0, 0, 0) := zp_l zq_324 rfl
theorem zi_324_10 : rv E d 324 10 [l0, l1] [.int x] h = some (some (.int x), h) := rv_reti zp_324_10 (zM_of zq_324)
theorem zp_325_0 : zP1 325 0 = some (.iload_n 0, 0, 0, 0) := zp_l zq_325 rfl
theorem zi_325_0 : rv E d 325 0 [.int x, l1] [] h = rv E d 325 1 [.int x, l1] [.int x] h := rv_loc zp_325_0 rfl rfl
theorem zp_325_1 : zP1 325 1 = some (.iload_n 1, 0, 0, 0) := zp_l zq_325 rfl
theorem zi_325_1 {s0 : Int32} : rv E d 325 1 [l0, .int x] [.int s0] h = rv E d 325 2 [l0, .int x] [.int x, .int s0] h := rv_loc zp_325_1 rfl rfl
theorem zp_325_2 : zP1 325 2 = some (.if_icmp .gt 7, 0, 0, 0) := zp_l zq_325 rfl
theorem zi_325_2 : rv E d 325 2 [l0, l1] [.int y, .int x] h = if y < x then rv E d 325 9 [l0, l1] [] h else rv E d 325 5 [l0, l1] [] h := rv_icmp zp_325_2 rfl rfl
theorem zp_325_5 : zP1 325 5 = some (.iload_n 0, 0, 0, 0) := zp_l zq_325 rfl
theorem zi_325_5 : rv E d 325 5 [.int x, l1] [] h = rv E d 325 6 [.int x, l1] [.int x] h := rv_loc zp_325_5 rfl rfl
theorem zp_325_6 : zP1 325 6 = some (.goto 4, 0, 0, 0) := zp_l zq_325 rfl
theorem zi_325_6 {s0 : Int32} : rv E d 325 6 [l0, l1] [.int s0] h = rv E d 325 10 [l0, l1] [.int s0] h := rv_goto zp_325_6 rfl
theorem zp_325_9 : zP1 325 9 = some (.iload_n 1, 0, 0, 0) := zp_l zq_325 rfl
theorem zi_325_9 : rv E d 325 9 [l0, .int x] [] h = rv E d 325 10 [l0, .int x] [.int x] h := rv_loc zp_325_9 rfl rfl
theorem zp_325_10 : zP1 325 10 = some (.ireturn, 0, 0, 0) := zp_l zq_325 rfl
theorem zi_325_10 : rv E d 325 10 [l0, l1] [.int x] h = some (some (.int x), h) := rv_reti zp_325_10 (zM_of zq_325)
end ZI
